/-! done -/
section
variable {mem : smM} {Post : Option smV → smM → Prop} {N : Int} {S : sS} {n : Int} {d : Int → Int}
theorem tV_hi {B : Int} {a e f w r t : Int → Int} {S T : sS} (h : hiE S T) (v : tV B a e f w r t S) : tV B a e f w r t T := by
  obtain ⟨v1, v2⟩ := v
  refine ⟨by rw [h.2 15 (by omega) (by omega)]; exact v1, fun i x y => ?_⟩
  rw [h.2 16 (by omega) (by omega), h.2 17 (by omega) (by omega), h.2 18 (by omega) (by omega), h.2 19 (by omega) (by omega), h.2 20 (by omega) (by omega), h.2 21 (by omega) (by omega)]
  exact v2 i x y
theorem sV_hi {C : Int} {m p g : Int → Int} {S T : sS} (h : hiE S T) (v : sV C m p g S) : sV C m p g T := by
  obtain ⟨v1, v2⟩ := v
  refine ⟨by rw [h.2 22 (by omega) (by omega)]; exact v1, fun i x y => ?_⟩
  rw [h.2 23 (by omega) (by omega), h.2 24 (by omega) (by omega), h.2 25 (by omega) (by omega)]
  exact v2 i x y
theorem ok_hi {M : Int} {T : sS} (h : hiE S T) (ho : ok N S) (hM : 9 ≤ M ∧ M ≤ 1000000) (hw : okW M T) : ok M T := by
  obtain ⟨-, -, ⟨t1, t2⟩, ⟨s1, s2⟩⟩ := ho
  refine ⟨hM, hw, ⟨by rw [h.2 15 (by omega) (by omega)]; exact t1, fun i x y => ?_⟩, ⟨by rw [h.2 22 (by omega) (by omega)]; exact s1, fun i x y => ?_⟩⟩
  · rw [h.2 15 (by omega) (by omega), h.2 16 (by omega) (by omega), h.2 17 (by omega) (by omega), h.2 18 (by omega) (by omega), h.2 19 (by omega) (by omega), h.2 20 (by omega) (by omega), h.2 21 (by omega) (by omega), h.1]
    exact t2 i x y
  · rw [h.2 23 (by omega) (by omega), h.2 24 (by omega) (by omega), h.2 25 (by omega) (by omega)]
    exact s2 i x y
theorem pC_done (hk : kC mem S) (ho : ok N S) (hp : padC mem n d) (hop : okP n d) (h0 : ¬ (fwF d n = -6 ∧ (plF d n S).1 = 0) → ∀ m, keepC mem m → Post (some (.inl (-5))) m) (h1 : fwF d n = -6 ∧ (plF d n S).1 = 0 → ∀ m, kC m (plF d n S).2.2 → m 93 0 = 0 → okW (N + 720) (plF d n S).2.2 → hiE S (plF d n S).2.2 → (∀ k i, (27 ≤ k ∧ k < 79) ∨ k = 94 ∨ 114 ≤ k → m k i = mem k i) → Post (some (.inl (plF d n S).2.1)) m) : smRun 83 [oR 10 0] mem Post := by
  refine smGo [4, 9999] 60 rfl ?_
  refine ru_tryDay hk ho hp hop (fun c => ?_) (fun c m k1 g1 g2 g3 => ?_)
  · refine smAt [10, 9999] 60 rfl ?_
    repeat' first
      | refine And.intro ?_ ?_
      | intro _
    all_goals try omega
    exact h0 (fun z => c z.1) mem (keepC_rf mem)
  · refine smAt [10, 9999] 60 rfl ?_
    by_cases c2 : (plF d n S).1 = 0
    · obtain ⟨w1, w2, w3⟩ := g3 c2
      rw [if_pos c2]
      repeat' first
        | refine And.intro ?_ ?_
        | intro _
      all_goals try omega
      refine smAt [24, 9999] 60 rfl ?_
      refine ru_tW_2_79 w1 w2.2.2.1 (fun m2 v2 x2 => ?_)
      refine smAt [32, 9999] 60 rfl ?_
      have e1 : m2 93 1 = (plF d n S).2.1 := by rw [x2 93 1 (by omega)]; exact g1
      have h2 := h1 ⟨c, c2⟩ (smU m2 93 0 0) ⟨v2, ?_, ?_⟩ rfl w2 w3 (fun k i z => ?_)
      · rw [← e1] at h2
        refine smAt [9999] 60 rfl ?_
        exact h2
      · refine tV_hi w3 ?_
        have t := hk.2.1
        have e : ∀ j i, 16 ≤ j → j ≤ 26 → smU m2 93 0 0 j i = mem j i := fun j i a b => by rw [smU_ne (by omega), x2 j i (by omega), k1 j i (by omega) (by omega)]
        unfold tV at t ⊢
        rw [e 16 0 (by omega) (by omega)]
        refine ⟨t.1, fun i x y => ?_⟩
        rw [e 17 i (by omega) (by omega), e 18 i (by omega) (by omega), e 19 i (by omega) (by omega), e 20 i (by omega) (by omega), e 21 i (by omega) (by omega), e 22 i (by omega) (by omega)]
        exact t.2 i x y
      · refine sV_hi w3 ?_
        have t := hk.2.2
        have e : ∀ j i, 16 ≤ j → j ≤ 26 → smU m2 93 0 0 j i = mem j i := fun j i a b => by rw [smU_ne (by omega), x2 j i (by omega), k1 j i (by omega) (by omega)]
        unfold sV at t ⊢
        rw [e 23 0 (by omega) (by omega)]
        refine ⟨t.1, fun i x y => ?_⟩
        rw [e 24 i (by omega) (by omega), e 25 i (by omega) (by omega), e 26 i (by omega) (by omega)]
        exact t.2 i x y
      · rw [smU_ne (by omega), x2 k i (by omega), k1 k i (by omega) (by omega)]
    · rw [if_neg c2]
      repeat' first
        | refine And.intro ?_ ?_
        | intro _
      all_goals try omega
      exact h0 (fun z => c2 z.2) m (kY_keep k1)
set_option maxRecDepth 4000 in
theorem dnR_10 (T : sS) (hk : wN mem T) (h9 : 0 ≤ T 9 0 ∧ T 9 0 ≤ 12) (h : ∀ m, wR m T → m 114 15 = 0 → m 114 27 = mem 114 27 → (∀ k i, k < 117 ∨ 122 < k → (k = 114 → i ≠ 9 ∧ i ≠ 15) → m k i = mem k i) → Post (some (.inl (mem 114 27))) m) : smWp 142 10 [some (oR 11 114), none] [] mem Post := by
  obtain ⟨kP, kT, kN, kp, kq, ki⟩ := id hk
  have l3 : ∀ (f : Nat) (j : Int) (m : smM), j = 60 - (f : Int) → 0 ≤ j → (∀ q, 0 ≤ q → q < 5 → m 117 q = mem 126 q ∧ m 118 q = mem 127 q ∧ m 119 q = mem 128 q) → (∀ p, 0 ≤ p → p < 9 → m 120 p = mem 129 p ∧ m 121 p = mem 130 p) → (∀ i, 0 ≤ i → i < j → m 122 i = mem 131 i) → m 114 9 = mem 114 22 → (∀ k i, k < 117 ∨ 122 < k → (k = 114 → i ≠ 9) → m k i = mem k i) → smWp 142 107 [some (oR 11 114), some (.inl j)] [] m Post := by
    intro f
    induction f with
    | zero =>
      intro j m hj h0 g1 g2 g3 g4 g5
      refine smAt [107, 131, 9999] 60 rfl ?_
      repeat' first
        | refine And.intro ?_ ?_
        | intro _
      all_goals try omega
      have e27 : smU m 114 15 0 114 27 = mem 114 27 := by rw [smU_d (by decide)]; exact g5 114 27 (by omega) (by omega)
      have q := h (smU m 114 15 0) ⟨?_, ?_, ?_, fun p x y => ⟨?_, ?_, ?_⟩, fun r x y => ⟨?_, ?_, ?_, ?_⟩, fun i x y => ?_⟩ rfl e27 (fun k i z1 z2 => ?_)
      · rw [← e27] at q
        refine smAt [9999] 60 rfl ?_
        exact q
      · rw [smU_d (by decide), g5 114 0 (by omega) (by omega)]; exact kP
      · rw [smU_d (by decide), g5 114 2 (by omega) (by omega)]; exact kT
      · rw [smU_d (by decide), g4]; exact kN
      · rw [smU_ne (by decide), g5 115 p (by omega) (by omega)]; exact (kp p x y).1
      · rw [smU_ne (by decide), (g2 p x y).1]; exact (kp p x y).2.1
      · rw [smU_ne (by decide), (g2 p x y).2]; exact (kp p x y).2.2
      · rw [smU_ne (by decide), (g1 r x y).1]; exact (kq r x y).1
      · rw [smU_ne (by decide), g5 116 r (by omega) (by omega)]; exact (kq r x y).2.1
      · rw [smU_ne (by decide), (g1 r x y).2.1]; exact (kq r x y).2.2.1
      · rw [smU_ne (by decide), (g1 r x y).2.2]; exact (kq r x y).2.2.2
      · have b := ki i x y
        dsimp only at b ⊢
        rw [smU_ne (by decide), smU_ne (by decide), smU_ne (by decide), smU_ne (by decide), smU_ne (by decide), g3 _ (by omega) (by omega), g3 _ (by omega) (by omega), g3 _ (by omega) (by omega), g3 _ (by omega) (by omega), g3 _ (by omega) (by omega)]
        exact b
      · rw [smU_o (by omega)]; exact g5 k i z1 (fun z => (z2 z).1)
    | succ f ih =>
      intro j m hj h0 g1 g2 g3 g4 g5
      refine smAt [107, 131, 9999] 60 rfl ?_
      repeat' first
        | refine And.intro ?_ ?_
        | intro _
      all_goals try omega
      refine ih (j + 1) _ (by omega) (by omega) g1 g2 (fun i x y => ?_) g4 (fun k i x y => ?_)
      · by_cases e : i = j
        · subst e; rw [smU_s]; exact g5 131 _ (by omega) (by omega)
        · rw [smU_d e]; exact g3 i x (by omega)
      · rw [smU_ne (by omega)]; exact g5 k i x y
  have l2 : ∀ (f : Nat) (j : Int) (m : smM), j = 9 - (f : Int) → 0 ≤ j → (∀ q, 0 ≤ q → q < 5 → m 117 q = mem 126 q ∧ m 118 q = mem 127 q ∧ m 119 q = mem 128 q) → (∀ p, 0 ≤ p → p < j → m 120 p = mem 129 p ∧ m 121 p = mem 130 p) → (∀ k i, k < 117 ∨ 121 < k → m k i = mem k i) → smWp 142 61 [some (oR 11 114), some (.inl j)] [] m Post := by
    intro f
    induction f with
    | zero =>
      intro j m hj h0 g1 g2 g5
      refine smAt [61, 107, 9999] 60 rfl ?_
      repeat' first
        | refine And.intro ?_ ?_
        | intro _
      all_goals try omega
      refine l3 60 0 _ (by omega) (by omega) g1 (fun p x y => g2 p x (by omega)) (fun i x y => by omega) ?_ (fun k i x y => ?_)
      · rw [smU_s]; exact g5 114 22 (by omega)
      · rw [smU_o (by omega)]; exact g5 k i (by omega)
    | succ f ih =>
      intro j m hj h0 g1 g2 g5
      refine smAt [61, 107, 9999] 60 rfl ?_
      repeat' first
        | refine And.intro ?_ ?_
        | intro _
      all_goals try omega
      refine ih (j + 1) _ (by omega) (by omega) g1 (fun p x y => ?_) (fun k i x => ?_)
      · by_cases e : p = j
        · subst e
          refine ⟨?_, ?_⟩
          · rw [smU_ne (by decide), smU_s]; exact g5 129 _ (by omega)
          · rw [smU_s, smU_ne (by decide)]; exact g5 130 _ (by omega)
        · rw [smU_ne (by decide), smU_d e, smU_d e, smU_ne (by decide)]
          exact g2 p x (by omega)
      · rw [smU_ne (by omega), smU_ne (by omega)]; exact g5 k i x
  have l1 : ∀ (f : Nat) (j : Int) (m : smM), j = 5 - (f : Int) → 0 ≤ j → (∀ q, 0 ≤ q → q < j → m 117 q = mem 126 q ∧ m 118 q = mem 127 q ∧ m 119 q = mem 128 q) → (∀ k i, k < 117 ∨ 119 < k → m k i = mem k i) → smWp 142 12 [some (oR 11 114), some (.inl j)] [] m Post := by
    intro f
    induction f with
    | zero =>
      intro j m hj h0 g1 g5
      refine smAt [12, 61, 9999] 60 rfl ?_
      repeat' first
        | refine And.intro ?_ ?_
        | intro _
      all_goals try omega
      exact l2 9 0 m (by omega) (by omega) (fun q x y => g1 q x (by omega)) (fun p x y => by omega) (fun k i x => g5 k i (by omega))
    | succ f ih =>
      intro j m hj h0 g1 g5
      refine smAt [12, 61, 9999] 60 rfl ?_
      repeat' first
        | refine And.intro ?_ ?_
        | intro _
      all_goals try omega
      refine ih (j + 1) _ (by omega) (by omega) (fun q x y => ?_) (fun k i x => ?_)
      · by_cases e : q = j
        · subst e
          refine ⟨?_, ?_, ?_⟩
          · rw [smU_ne (by decide), smU_ne (by decide), smU_s]; exact g5 126 _ (by omega)
          · rw [smU_ne (by decide), smU_s, smU_ne (by decide)]; exact g5 127 _ (by omega)
          · rw [smU_s, smU_ne (by decide), smU_ne (by decide)]; exact g5 128 _ (by omega)
        · have h9 := g1 q x (by omega)
          refine ⟨?_, ?_, ?_⟩
          · rw [smU_ne (by decide), smU_ne (by decide), smU_d e]; exact h9.1
          · rw [smU_ne (by decide), smU_d e, smU_ne (by decide)]; exact h9.2.1
          · rw [smU_d e, smU_ne (by decide), smU_ne (by decide)]; exact h9.2.2
      · rw [smU_ne (by omega), smU_ne (by omega), smU_ne (by omega)]; exact g5 k i x
  refine smAt [12, 9999] 60 rfl ?_
  exact l1 5 0 mem (by omega) (by omega) (fun q x y => by omega) (fun _ _ _ => rfl)
theorem pR_done (hk : rC mem S) (ho : ok N S) (hp : padR mem n d) (hop : okP n d) (h9 : fwF d n = -6 ∧ (plF d n S).1 = 0 → okW (N + 720) (plF d n S).2.2 ∧ hiE S (plF d n S).2.2) (h0 : ¬ (fwF d n = -6 ∧ (plF d n S).1 = 0) → ∀ m, keepR mem m → Post (some (.inl (-5))) m) (h1 : fwF d n = -6 ∧ (plF d n S).1 = 0 → ∀ m, rC m (plF d n S).2.2 → m 114 15 = 0 → (∀ k i, k < 114 ∨ k = 125 ∨ 134 ≤ k → m k i = mem k i) → Post (some (.inl (plF d n S).2.1)) m) : smRun 142 [oR 11 114] mem Post := by
  refine smGo [4, 9999] 60 rfl ?_
  refine ru_barOfDay hk ho hp hop (fun c m k1 => ?_) (fun c m k1 g1 g2 => ?_)
  · refine smAt [10, 9999] 60 rfl ?_
    repeat' first
      | refine And.intro ?_ ?_
      | intro _
    all_goals try omega
    exact h0 c m k1
  · refine smAt [10, 9999] 60 rfl ?_
    repeat' first
      | refine And.intro ?_ ?_
      | intro _
    all_goals try omega
    obtain ⟨w2, w3⟩ := h9 c
    refine dnR_10 (plF d n S).2.2 g2 w2.2.2.1 (fun m2 v2 z2 e2 x2 => ?_)
    rw [g1]
    refine h1 c m2 ⟨v2, tV_hi w3 ?_, sV_hi w3 ?_⟩ z2 (fun k i z => by rw [x2 k i (by omega) (by omega)]; exact k1.1 k i (by omega))
    · have t := hk.2.1
      have e1 : m2 114 11 = mem 114 11 := by rw [x2 114 11 (by omega) (by omega)]; exact k1.2 11 (by omega)
      have e : ∀ i, m2 123 i = mem 123 i := fun i => by rw [x2 123 i (by omega) (by omega)]; exact k1.1 123 i (by omega)
      simp only [e, e1]
      exact t
    · have t := hk.2.2
      have e1 : m2 114 13 = mem 114 13 := by rw [x2 114 13 (by omega) (by omega)]; exact k1.2 13 (by omega)
      have e : ∀ i, m2 124 i = mem 124 i := fun i => by rw [x2 124 i (by omega) (by omega)]; exact k1.1 124 i (by omega)
      simp only [e, e1]
      exact t
theorem lw_done (hN : N ≤ 900000) (h : jI N mem) : both N 83 142 [] mem := by
  have hj := jI_rf hN h
  obtain ⟨S, S1, S2, n, d, h⟩ := h
  obtain ⟨a1, a2, a3, a4, a5, a6, -⟩ := id h
  have b1 := a1.1
  have hM : N ≤ N + 1000 ∧ N + 1000 ≤ 1000000 := by omega
  refine pC_done a2 a1 a5 a4 (fun c m g2 => ?_) (fun c m g1 g2 g3 g4 g5 => ?_)
  · have p6 : padR m n d := ⟨by rw [g2.1 114 15 (by omega)]; exact a6.1, fun i x y => by rw [g2.1 125 i (by omega)]; exact a6.2 i x y⟩
    refine pR_done (rC_eqR (keepC_eqR g2) a3) a1 p6 a4 (fun z => absurd z c) (fun _ m2 r2 => ?_) (fun z => absurd z c)
    exact ⟨agr_rf _, S, S1, S2, n, d, jO_keep h hM g2 r2⟩
  · have eR : eqR mem m := fun k i z => g5 k i (by omega)
    have p6 : padR m n d := ⟨by rw [g5 114 15 (by omega)]; exact a6.1, fun i x y => by rw [g5 125 i (by omega)]; exact a6.2 i x y⟩
    refine pR_done (rC_eqR eR a3) a1 p6 a4 (fun _ => ⟨g3, g4⟩) (fun z => absurd c z) (fun _ m2 r1 r2 r3 => ?_)
    refine ⟨agr_rf _, (plF d n S).2.2, S1, S2, 0, d, ?_⟩
    have o2 : ok (N + 1000) (plF d n S).2.2 := ok_hi g4 a1 (by omega) (okW_mono g3 (by omega))
    have k2 : kC m2 (plF d n S).2.2 := kC_of (fun j i z => r3 j i (by omega)) g1
    -- first with the pad as it was, then without it
    have j1 : jO (N + 1000) (smU (smU m2 93 0 (mem 93 0)) 114 15 (mem 114 15)) (plF d n S).2.2 S1 S2 n d := by
      refine jO_put h hM o2 (kC_of (fun j i z => by rw [smU_ne (by omega), smU_ne (by omega)]) k2) (rC_of (fun j i z => by rw [smU_ne (by omega), smU_ne (by omega)]) (fun j z => by rw [smU_d (by omega), smU_ne (by decide)]) r1) (fun k i z => ?_) ?_ ?_
      · rw [smU_ne (by omega), smU_ne (by omega), r3 k i (by omega), g5 k i (by omega)]
      · rw [smU_ne (by decide), smU_s]
      · rw [smU_s]
    have j2 := jO_pad j1 (show N + 1000 ≤ N + 1000 ∧ N + 1000 ≤ 1000000 by omega) (mem' := m2) (n' := 0) (d' := d) ⟨by omega, fun i x y => by omega⟩ ⟨by rw [r3 93 0 (by omega)]; exact g2, fun i x y => by omega⟩ ⟨r2, fun i x y => by omega⟩ (fun k i e1 e2 e3 e4 => by rw [smU_ne e3, smU_ne e1]) (fun j e1 => by rw [smU_d e1, smU_ne (by decide)])
    exact j2
end
