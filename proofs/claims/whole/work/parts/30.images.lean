section
variable {mem : smM} {Post : Option smV → smM → Prop} {N : Int} {S : sS}
theorem kI_on {mem mem' : smM} {S : sS} (e : ∀ j i, 28 ≤ j ∧ j ≤ 52 → mem' j i = mem j i) (h : kI mem S) : kI mem' S := by
  unfold kI wV tV sV at *
  simp only [e 28 _ (by decide), e 29 _ (by decide), e 30 _ (by decide), e 31 _ (by decide), e 32 _ (by decide), e 33 _ (by decide), e 34 _ (by decide), e 35 _ (by decide), e 36 _ (by decide), e 37 _ (by decide), e 38 _ (by decide), e 39 _ (by decide), e 40 _ (by decide), e 41 _ (by decide), e 42 _ (by decide), e 43 _ (by decide), e 44 _ (by decide), e 45 _ (by decide), e 46 _ (by decide), e 47 _ (by decide), e 48 _ (by decide), e 49 _ (by decide), e 50 _ (by decide), e 51 _ (by decide), e 52 _ (by decide)]
  exact h
theorem kJ_on {mem mem' : smM} {S : sS} (e : ∀ j i, 54 ≤ j ∧ j ≤ 78 → mem' j i = mem j i) (h : kJ mem S) : kJ mem' S := by
  unfold kJ wV tV sV at *
  simp only [e 54 _ (by decide), e 55 _ (by decide), e 56 _ (by decide), e 57 _ (by decide), e 58 _ (by decide), e 59 _ (by decide), e 60 _ (by decide), e 61 _ (by decide), e 62 _ (by decide), e 63 _ (by decide), e 64 _ (by decide), e 65 _ (by decide), e 66 _ (by decide), e 67 _ (by decide), e 68 _ (by decide), e 69 _ (by decide), e 70 _ (by decide), e 71 _ (by decide), e 72 _ (by decide), e 73 _ (by decide), e 74 _ (by decide), e 75 _ (by decide), e 76 _ (by decide), e 77 _ (by decide), e 78 _ (by decide)]
  exact h
theorem rI_on {mem mem' : smM} {S : sS} {b : Int} (e : ∀ i, b ≤ i ∧ i < b + 220 → mem' 134 i = mem 134 i) (h9 : 0 ≤ S 9 0 ∧ S 9 0 ≤ 12) (h : rI mem b S) : rI mem' b S := by
  obtain ⟨⟨kP, kT, kN, kp, kq, ki⟩, ⟨kB, kb⟩, ⟨kS, ks⟩⟩ := h
  refine ⟨⟨(e _ (by omega)).trans kP, (e _ (by omega)).trans kT, (e _ (by omega)).trans kN, fun p x y => ?_, fun q x y => ?_, fun i x y => ?_⟩, ⟨(e _ (by omega)).trans kB, fun i x y => ?_⟩, ⟨(e _ (by omega)).trans kS, fun i x y => ?_⟩⟩
  · obtain ⟨z1, z2, z3⟩ := kp p x y
    exact ⟨(e _ (by omega)).trans z1, (e _ (by omega)).trans z2, (e _ (by omega)).trans z3⟩
  · obtain ⟨z1, z2, z3, z4⟩ := kq q x y
    exact ⟨(e _ (by omega)).trans z1, (e _ (by omega)).trans z2, (e _ (by omega)).trans z3, (e _ (by omega)).trans z4⟩
  · obtain ⟨z1, z2, z3, z4, z5⟩ := ki i x y
    exact ⟨(e _ (by omega)).trans z1, (e _ (by omega)).trans z2, (e _ (by omega)).trans z3, (e _ (by omega)).trans z4, (e _ (by omega)).trans z5⟩
  · obtain ⟨z1, z2, z3, z4, z5, z6⟩ := kb i x y
    exact ⟨(e _ (by omega)).trans z1, (e _ (by omega)).trans z2, (e _ (by omega)).trans z3, (e _ (by omega)).trans z4, (e _ (by omega)).trans z5, (e _ (by omega)).trans z6⟩
  · obtain ⟨z1, z2, z3⟩ := ks i x y
    exact ⟨(e _ (by omega)).trans z1, (e _ (by omega)).trans z2, (e _ (by omega)).trans z3⟩
theorem lw_image (q : Int) (hq : smIR q) (hN : N ≤ 900000) (h : jI N mem) : both N 112 175 [.inl q] mem := by
  have hj := jI_rf hN h
  obtain ⟨S, S1, S2, n, d, h⟩ := h
  obtain ⟨a1, a2, a3, a4, a5, a6, a7, a8, a9, a10⟩ := id h
  have hM : N ≤ N + 1000 ∧ N + 1000 ≤ 1000000 := by omega
  refine pC_image q hq a2 a1 (fun c => ?_) (fun c m g1 g2 g3 => ?_) (fun c m g1 g2 g3 => ?_)
  · refine pR_image q hq a3 a1 ?_ ?_ <;> intros <;> first | (exfalso; omega) | exact ⟨agr_rf _, hj⟩
  · subst c
    refine pR_image 0 hq (rC_eqR (fun k i hk => g3 k i (by omega)) a3) a1 (fun c => by omega) (fun _ m2 r1 r2 r3 => ⟨agr_rf _, ?_⟩)
    have e : ∀ k i, k < 27 ∨ 52 < k → ¬ (k = 134 ∧ 0 ≤ i ∧ i < 220) → ¬ (k = 135 ∧ i = 0) → m2 k i = mem k i := fun k i x y z => (r3 k i (by omega) z).trans (g3 k i x)
    have ec : ∀ k i, k < 114 → m2 k i = m k i := fun k i x => r3 k i (by omega) (by omega)
    refine ⟨S, S, S2, n, d, ok_mono hM a1, kC_of (fun j i x => e j i (by omega) (by omega) (by omega)) a2, rC_of (fun j i x => e j i (by omega) (by omega) (by omega)) (fun j x => e 114 j (by omega) (by omega) (by omega)) a3, a4, ⟨(e 93 0 (by omega) (by omega) (by omega)).trans a5.1, fun i x y => (e 94 i (by omega) (by omega) (by omega)).trans (a5.2 i x y)⟩, ⟨(e 114 15 (by omega) (by omega) (by omega)).trans a6.1, fun i x y => (e 125 i (by omega) (by omega) (by omega)).trans (a6.2 i x y)⟩, ?_, ?_, ?_, ?_⟩
    · rw [ec 27 3 (by omega), g2, r2]; exact ⟨rfl, Or.inr rfl⟩
    · rw [e 53 3 (by omega) (by omega) (by omega), e 135 1 (by omega) (by omega) (by omega)]; exact a8
    · intro _
      exact ⟨ok_mono hM a1, kI_on (fun j i x => ec j i (by omega)) g1, r1⟩
    · rw [e 53 3 (by omega) (by omega) (by omega)]
      intro z
      obtain ⟨b1, b2, b3⟩ := a10 z
      exact ⟨ok_mono hM b1, kJ_on (fun j i x => e j i (by omega) (by omega) (by omega)) b2, rI_on (fun i x => e 134 i (by omega) (by omega) (by omega)) b1.2.1.2.2.1 b3⟩
  · subst c
    refine pR_image 1 hq (rC_eqR (fun k i hk => g3 k i (by omega)) a3) a1 (fun c => by omega) (fun _ m2 r1 r2 r3 => ⟨agr_rf _, ?_⟩)
    have e : ∀ k i, k < 53 ∨ 78 < k → ¬ (k = 134 ∧ 220 ≤ i ∧ i < 440) → ¬ (k = 135 ∧ i = 1) → m2 k i = mem k i := fun k i x y z => (r3 k i (by omega) z).trans (g3 k i x)
    have ec : ∀ k i, k < 114 → m2 k i = m k i := fun k i x => r3 k i (by omega) (by omega)
    refine ⟨S, S1, S, n, d, ok_mono hM a1, kC_of (fun j i x => e j i (by omega) (by omega) (by omega)) a2, rC_of (fun j i x => e j i (by omega) (by omega) (by omega)) (fun j x => e 114 j (by omega) (by omega) (by omega)) a3, a4, ⟨(e 93 0 (by omega) (by omega) (by omega)).trans a5.1, fun i x y => (e 94 i (by omega) (by omega) (by omega)).trans (a5.2 i x y)⟩, ⟨(e 114 15 (by omega) (by omega) (by omega)).trans a6.1, fun i x y => (e 125 i (by omega) (by omega) (by omega)).trans (a6.2 i x y)⟩, ?_, ?_, ?_, ?_⟩
    · rw [e 27 3 (by omega) (by omega) (by omega), e 135 0 (by omega) (by omega) (by omega)]; exact a7
    · rw [ec 53 3 (by omega), g2, r2]; exact ⟨rfl, Or.inr rfl⟩
    · rw [e 27 3 (by omega) (by omega) (by omega)]
      intro z
      obtain ⟨b1, b2, b3⟩ := a9 z
      exact ⟨ok_mono hM b1, kI_on (fun j i x => e j i (by omega) (by omega) (by omega)) b2, rI_on (fun i x => e 134 i (by omega) (by omega) (by omega)) b1.2.1.2.2.1 b3⟩
    · intro _
      exact ⟨ok_mono hM a1, kJ_on (fun j i x => ec j i (by omega)) g1, r1⟩
theorem lw_restore (q : Int) (hq : smIR q) (hN : N ≤ 900000) (h : jI N mem) : both N 113 176 [.inl q] mem := by
  have hj := jI_rf hN h
  obtain ⟨S, S1, S2, n, d, h⟩ := h
  obtain ⟨a1, a2, a3, a4, a5, a6, a7, a8, a9, a10⟩ := id h
  have hM : N ≤ N + 1000 ∧ N + 1000 ≤ 1000000 := by have := a1.1; omega
  have go : ∀ (P : Option smV → smM → Prop) (m1 : smM), (∀ k i, 27 ≤ k → m1 k i = mem k i) → (¬ (0 ≤ q ∧ q ≤ 1) → P (some (.inl (-2))) m1) → ((q = 0 ∧ mem 27 3 = 0 ∨ q = 1 ∧ mem 53 3 = 0) → P (some (.inl (-3))) m1) → (q = 0 → mem 27 3 = 1 → ∀ m, rC m S1 → (∀ k i, k < 114 ∨ 124 < k → m k i = m1 k i) → (∀ i, i ≠ 0 → i ≠ 2 → i ≠ 9 → i ≠ 11 → i ≠ 13 → m 114 i = m1 114 i) → P (some (.inl 1)) m) → (q = 1 → mem 53 3 = 1 → ∀ m, rC m S2 → (∀ k i, k < 114 ∨ 124 < k → m k i = m1 k i) → (∀ i, i ≠ 0 → i ≠ 2 → i ≠ 9 → i ≠ 11 → i ≠ 13 → m 114 i = m1 114 i) → P (some (.inl 1)) m) → smRun 176 [oR 11 114, .inl q] m1 P := by
    intro P m1 e p0 p1 p2 p3
    have e0 := e 135 0 (by omega)
    have e1 := e 135 1 (by omega)
    refine pR_restore (N := N) (S1 := S1) (S2 := S2) q hq (fun z => ?_) (fun z => ?_) (by omega) (by omega) p0 (fun c => p1 (by omega)) (fun c z => p2 c (by omega)) (fun c z => p3 c (by omega))
    · obtain ⟨b1, b2, b3⟩ := a9 (by omega)
      exact ⟨b1, rI_of (fun i => e 134 i (by omega)) b3⟩
    · obtain ⟨b1, b2, b3⟩ := a10 (by omega)
      exact ⟨b1, rI_of (fun i => e 134 i (by omega)) b3⟩
  refine pC_restore (N := N) (S1 := S1) (S2 := S2) q hq (fun z => ?_) (fun z => ?_) a7.2 a8.2 (fun c => ?_) (fun c => ?_) (fun c z m g1 g2 => ?_) (fun c z m g1 g2 => ?_)
  · exact ⟨(a9 z).1, (a9 z).2.1⟩
  · exact ⟨(a10 z).1, (a10 z).2.1⟩
  · refine go _ _ (fun _ _ _ => rfl) ?_ ?_ ?_ ?_ <;> intros <;> first | (exfalso; omega) | exact ⟨agr_rf _, hj⟩
  · refine go _ _ (fun _ _ _ => rfl) ?_ ?_ ?_ ?_ <;> intros <;> first | (exfalso; omega) | exact ⟨agr_rf _, hj⟩
  · refine go _ _ (fun k i x => g2 k i (by omega)) (fun _ => by omega) (fun _ => by omega) (fun _ _ m2 r1 r2 r3 => ⟨agr_rf _, ?_⟩) (fun _ => by omega)
    refine ⟨S1, S1, S2, n, d, jO_put h hM (ok_mono hM (a9 z).1) (kC_of (fun j i x => r2 j i (by omega)) g1) r1 (fun k i x => (r2 k i (by omega)).trans (g2 k i (by omega))) ((r2 93 0 (by omega)).trans (g2 93 0 (by omega))) ((r3 15 (by omega) (by omega) (by omega) (by omega) (by omega)).trans (g2 114 15 (by omega)))⟩
  · refine go _ _ (fun k i x => g2 k i (by omega)) (fun _ => by omega) (fun _ => by omega) (fun _ => by omega) (fun _ _ m2 r1 r2 r3 => ⟨agr_rf _, ?_⟩)
    refine ⟨S2, S1, S2, n, d, jO_put h hM (ok_mono hM (a10 z).1) (kC_of (fun j i x => r2 j i (by omega)) g1) r1 (fun k i x => (r2 k i (by omega)).trans (g2 k i (by omega))) ((r2 93 0 (by omega)).trans (g2 93 0 (by omega))) ((r3 15 (by omega) (by omega) (by omega) (by omega) (by omega)).trans (g2 114 15 (by omega)))⟩
end
