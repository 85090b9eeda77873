section
variable {mem : smM} {Post : Option smV → smM → Prop} {N : Int} {S : sS}
theorem jO_pad {M : Int} {mem' : smM} {S1 S2 : sS} {n n' : Int} {d d' : Int → Int} (h : jO N mem S S1 S2 n d) (hM : N ≤ M ∧ M ≤ 1000000) (hp : okP n' d') (c : padC mem' n' d') (r : padR mem' n' d') (e : ∀ k i, k ≠ 93 → k ≠ 94 → k ≠ 114 → k ≠ 125 → mem' k i = mem k i) (e2 : ∀ j, j ≠ 15 → mem' 114 j = mem 114 j) : jO M mem' S S1 S2 n' d' := by
  obtain ⟨a1, a2, a3, a4, a5, a6, a7, a8, a9, a10⟩ := h
  refine ⟨ok_mono hM a1, kC_of (fun j i hj => e j i (by omega) (by omega) (by omega) (by omega)) a2, rC_of (fun j i hj => e j i (by omega) (by omega) (by omega) (by omega)) (fun j hj => e2 j (by omega)) a3, hp, c, r, ?_, ?_, ?_, ?_⟩
  · rw [e 27 3 (by decide) (by decide) (by decide) (by decide), e 135 0 (by decide) (by decide) (by decide) (by decide)]; exact a7
  · rw [e 53 3 (by decide) (by decide) (by decide) (by decide), e 135 1 (by decide) (by decide) (by decide) (by decide)]; exact a8
  · rw [e 27 3 (by decide) (by decide) (by decide) (by decide)]
    intro z
    obtain ⟨b1, b2, b3⟩ := a9 z
    exact ⟨ok_mono hM b1, kI_of (fun j i hj => e j i (by omega) (by omega) (by omega) (by omega)) b2, rI_of (fun i => e 134 i (by decide) (by decide) (by decide) (by decide)) b3⟩
  · rw [e 53 3 (by decide) (by decide) (by decide) (by decide)]
    intro z
    obtain ⟨b1, b2, b3⟩ := a10 z
    exact ⟨ok_mono hM b1, kJ_of (fun j i hj => e j i (by omega) (by omega) (by omega) (by omega)) b2, rI_of (fun i => e 134 i (by decide) (by decide) (by decide) (by decide)) b3⟩
-- say
theorem ru_write (x : Int) (hn : 0 ≤ mem 93 0 ∧ mem 93 0 ≤ 60) (h0 : mem 93 0 = 60 → Post (some (.inl 0)) mem) (h1 : mem 93 0 < 60 → Post (some (.inl 1)) (smU (smU mem 94 (mem 93 0) x) 93 0 (mem 93 0 + 1))) : smRun 42 [oR 5 93, .inl x] mem Post := by
  refine smGo [9999] 60 rfl ?_
  repeat' first
    | refine And.intro ?_ ?_
    | intro _
    | (show Post _ _; first | exact h0 (by omega))
  all_goals try omega
  exact h1 (by omega)
theorem pC_say (x : Int) (hx : smIR x) (hn : 0 ≤ mem 93 0 ∧ mem 93 0 ≤ 60) (h0 : ¬ (33 ≤ x ∧ x ≤ 126) → Post (some (.inl (-2))) mem) (h1 : 33 ≤ x ∧ x ≤ 126 → mem 93 0 = 60 → Post (some (.inl (-4))) mem) (h2 : 33 ≤ x ∧ x ≤ 126 → mem 93 0 < 60 → Post (some (.inl (mem 93 0 + 1))) (smU (smU mem 94 (mem 93 0) x) 93 0 (mem 93 0 + 1))) : smRun 78 [oR 10 0, .inl x] mem Post := by
  refine smGo [9999] 60 rfl ?_
  repeat' first
    | refine And.intro ?_ ?_
    | intro _
    | (show smRun _ _ _ _; first | with_reducible refine ru_within _ _ _ hx ?_ ?_ ?_ ?_ | with_reducible refine ru_write _ hn ?_ ?_)
    | (show Post _ _; first | exact h0 (by omega) | exact h1 (by omega) (by omega))
  all_goals try omega
  exact h2 (by omega) (by omega)
theorem pR_say (x : Int) (hx : smIR x) (hn : 0 ≤ mem 114 15 ∧ mem 114 15 ≤ 60) (h0 : ¬ (33 ≤ x ∧ x ≤ 126) → Post (some (.inl (-2))) mem) (h1 : 33 ≤ x ∧ x ≤ 126 → mem 114 15 = 60 → Post (some (.inl (-4))) mem) (h2 : 33 ≤ x ∧ x ≤ 126 → mem 114 15 < 60 → Post (some (.inl (mem 114 15 + 1))) (smU (smU mem 125 (mem 114 15) x) 114 15 (mem 114 15 + 1))) : smRun 125 [oR 11 114, .inl x] mem Post := by
  refine smGo [9999] 60 rfl ?_
  repeat' first
    | refine And.intro ?_ ?_
    | intro _
    | (show smRun _ _ _ _; first | with_reducible refine ru_in _ _ _ hx ?_ ?_ ?_ ?_)
    | (show Post _ _; first | exact h0 (by omega) | exact h1 (by omega) (by omega))
  all_goals try omega
  exact h2 (by omega) (by omega)
theorem lw_say (x : Int) (hx : smIR x) (hN : N ≤ 900000) (h : jI N mem) : both N 78 125 [.inl x] mem := by
  have hj := jI_rf hN h
  obtain ⟨S, S1, S2, n, d, h⟩ := h
  obtain ⟨a1, a2, a3, a4, a5, a6, -⟩ := id h
  have q5 := a5.1
  have q6 := a6.1
  have q4 := a4.1
  refine pC_say x hx (by omega) (fun c => ?_) (fun c1 c2 => ?_) (fun c1 c2 => ?_)
  · refine pR_say x hx (by omega) ?_ ?_ ?_ <;> intros <;> first | (exfalso; omega) | exact ⟨agr_rf _, hj⟩
  · refine pR_say x hx (by omega) ?_ ?_ ?_ <;> intros <;> first | (exfalso; omega) | exact ⟨agr_rf _, hj⟩
  · have e : smU (smU mem 94 (mem 93 0) x) 93 0 (mem 93 0 + 1) 114 15 = n := q6
    refine pR_say x hx (by omega) ?_ ?_ ?_
    · intros; omega
    · intros; omega
    · intro _ _
      rw [e, q5]
      refine ⟨agr_rf _, S, S1, S2, n + 1, fun i => if i = n then x else d i, jO_pad h (by omega) ⟨by omega, fun i y z => ?_⟩ ⟨rfl, fun i y z => ?_⟩ ⟨rfl, fun i y z => ?_⟩ (fun k i e1 e2 e3 e4 => ?_) (fun j e1 => ?_)⟩
      · by_cases w : i = n
        · simp [w]; omega
        · simp [w]; exact a4.2 i y (by omega)
      · show smU mem 94 n x 94 i = _
        by_cases w : i = n
        · subst w; rw [smU_s]; simp
        · rw [smU_d w]; simp [w]; exact a5.2 i y (by omega)
      · show smU (smU (smU mem 94 n x) 93 0 (n + 1)) 125 n x 125 i = _
        by_cases w : i = n
        · subst w; rw [smU_s]; simp
        · rw [smU_d w]; simp [w]; exact a6.2 i y (by omega)
      · rw [smU_ne e3, smU_ne e4, smU_ne e1, smU_ne e2]
      · rw [smU_d e1]; rfl
-- wipe
theorem pC_wipe (h : Post (some (.inl (mem 93 0))) (smU mem 93 0 0)) : smRun 79 [oR 10 0] mem Post := by
  refine smGo [9999] 60 rfl ?_
  exact h
theorem pR_wipe (h : Post (some (.inl (mem 114 15))) (smU mem 114 15 0)) : smRun 126 [oR 11 114] mem Post := by
  refine smGo [9999] 60 rfl ?_
  exact h
theorem lw_wipe (hN : N ≤ 900000) (h : jI N mem) : both N 79 126 [] mem := by
  obtain ⟨S, S1, S2, n, d, h⟩ := h
  obtain ⟨a1, a2, a3, a4, a5, a6, -⟩ := id h
  refine pC_wipe (pR_wipe ?_)
  have e : smU mem 93 0 0 114 15 = n := a6.1
  rw [e, a5.1]
  refine ⟨agr_rf _, S, S1, S2, 0, d, jO_pad h (by have := a1.1; omega) ⟨by omega, fun i y z => by omega⟩ ⟨rfl, fun i y z => by omega⟩ ⟨rfl, fun i y z => by omega⟩ (fun k i e1 e2 e3 e4 => ?_) (fun j e1 => ?_)⟩
  · rw [smU_ne e3, smU_ne e1]
  · rw [smU_d e1]; rfl
-- forget
theorem pC_forget (hk : kC mem S) (h : Post (some (.inl (S 22 0))) (smU mem 23 0 0)) : smRun 104 [oR 10 0] mem Post := by
  obtain ⟨⟨kP, kT, kN, kp, kq, ki⟩, ⟨kB, kb⟩, ⟨kS, ks⟩⟩ := id hk
  refine smGo [9999] 60 rfl ?_
  rw [← kS] at h
  exact h
theorem pR_forget (hk : rC mem S) (h : Post (some (.inl (S 22 0))) (smU mem 114 13 0)) : smRun 170 [oR 11 114] mem Post := by
  obtain ⟨⟨kP, kT, kN, kp, kq, ki⟩, ⟨kB, kb⟩, ⟨kS, ks⟩⟩ := id hk
  refine smGo [9999] 60 rfl ?_
  rw [← kS] at h
  exact h
theorem lw_forget (hN : N ≤ 900000) (h : jI N mem) : both N 104 170 [] mem := by
  obtain ⟨S, S1, S2, n, d, h⟩ := h
  obtain ⟨a1, a2, a3, -⟩ := id h
  have e : rC (smU mem 23 0 0) S := rC_eqR (fun k i hk => smU_ne (by omega) i) a3
  refine pC_forget a2 (pR_forget e ⟨agr_rf _, ?_⟩)
  refine ⟨_, S1, S2, n, d, jO_put h (by omega) (ok_mono (N := N) (by have := a1.1; omega) ?_) (kC_eqC (fun k i hk => smU_ne (by omega) i) (kU_23_0 a2)) (rU_114_13 e) (fun k i hk => ?_) rfl rfl⟩
  · obtain ⟨o1, o2, o3, ⟨o4, o5⟩⟩ := a1
    exact ⟨o1, o2, o3, ⟨⟨(by decide : (0 : Int) ≤ 0), (by decide : (0 : Int) ≤ 6)⟩, o5⟩⟩
  · rw [smU_ne (by omega), smU_ne (by omega)]
-- strike
theorem pC_strike (q : Int) (hq : smIR q) (hk : kC mem S) (ho : ok N S) (h0 : ¬ (0 ≤ q ∧ q ≤ 5 ∧ bB (S 15 0) q) → Post (some (.inl (-1))) mem) (h1 : 0 ≤ q → q ≤ 5 → bB (S 15 0) q → Post (some (.inl (fPc (smAnd (S 15 0) (smXor (smShl 1 q) (-1)))))) (smU mem 16 0 (smAnd (S 15 0) (smXor (smShl 1 q) (-1))))) : smRun 98 [oR 10 0, .inl q] mem Post := by
  obtain ⟨⟨kP, kT, kN, kp, kq, ki⟩, ⟨kB, kb⟩, ⟨kS, ks⟩⟩ := id hk
  obtain ⟨oN, ⟨oP, oT, oA, op, oq, oi⟩, ⟨oB, ob⟩, ⟨oS, os⟩⟩ := id ho
  refine smGo [9999] 60 rfl ?_
  rw [← kB] at oB h0 h1
  repeat' first
    | refine And.intro ?_ ?_
    | intro _
    | (show smRun _ _ _ _; first | with_reducible refine ru_listedHas _ hq ?_ ?_)
    | (show Post _ _; first | exact h0 (by omega))
  all_goals try omega
  · have h9 := clr_lt64 (mem 16 0) q (by omega) (by omega) (by omega) (by omega)
    refine ru_bitCount _ ?_ ?_
    · show 0 ≤ smAnd (mem 16 0) (smXor (smShl 1 q) (-1)) ∧ smAnd (mem 16 0) (smXor (smShl 1 q) (-1)) < 512
      omega
    · exact h1 (by omega) (by omega) (by omega)
theorem pR_strike (q : Int) (hq : smIR q) (hk : rC mem S) (ho : ok N S) (h0 : ¬ (0 ≤ q ∧ q ≤ 5 ∧ bB (S 15 0) q) → Post (some (.inl (-1))) mem) (h1 : 0 ≤ q → q ≤ 5 → bB (S 15 0) q → Post (some (.inl (fPc (smAnd (S 15 0) (smXor (smShl 1 q) (-1)))))) (smU mem 114 11 (smAnd (S 15 0) (smXor (smShl 1 q) (-1))))) : smRun 159 [oR 11 114, .inl q] mem Post := by
  obtain ⟨⟨kP, kT, kN, kp, kq, ki⟩, ⟨kB, kb⟩, ⟨kS, ks⟩⟩ := id hk
  obtain ⟨oN, ⟨oP, oT, oA, op, oq, oi⟩, ⟨oB, ob⟩, ⟨oS, os⟩⟩ := id ho
  refine smGo [9999] 60 rfl ?_
  rw [← kB] at oB h0 h1
  repeat' first
    | refine And.intro ?_ ?_
    | intro _
    | (show smRun _ _ _ _; first | with_reducible refine ru_isListed _ hq ?_ ?_ | with_reducible refine ru_bits _ ?_)
    | (show Post _ _; first | exact h0 (by omega))
  all_goals try omega
  · exact h1 (by omega) (by omega) (by omega)
theorem ok_strike {q : Int} (h0 : 0 ≤ q) (h1 : q ≤ 5) (h : ok N S) : ok N (smU S 15 0 (smAnd (S 15 0) (smXor (smShl 1 q) (-1)))) := by
  obtain ⟨o1, o2, ⟨b1, b2⟩, o4⟩ := h
  refine ⟨o1, o2, ⟨?_, fun j x y => ?_⟩, o4⟩
  · exact clr_lt64 _ _ b1.1 (by omega) h0 (by omega)
  · obtain ⟨c1, c2, c3, c4, c5, c6, c7⟩ := b2 j x y
    refine ⟨c1, c2, c3, c4, c5, c6, fun z => c7 ?_⟩
    obtain ⟨i, rfl⟩ := Int.eq_ofNat_of_zero_le x
    exact ((clr_bB64 _ _ b1.1 (by omega) h0 (by omega) i (by omega)).mp z).1
theorem lw_strike (q : Int) (hq : smIR q) (hN : N ≤ 900000) (h : jI N mem) : both N 98 159 [.inl q] mem := by
  have hj := jI_rf hN h
  obtain ⟨S, S1, S2, n, d, h⟩ := h
  obtain ⟨a1, a2, a3, -⟩ := id h
  refine pC_strike q hq a2 a1 (fun c => ?_) (fun c1 c2 c3 => ?_)
  · refine pR_strike q hq a3 a1 ?_ ?_ <;> intros <;> first | (exfalso; omega) | exact ⟨agr_rf _, hj⟩
  · refine pR_strike q hq (rC_eqR (fun k i hk => smU_ne (by omega) i) a3) a1 ?_ ?_ <;> intros <;> first | (exfalso; omega) | refine ⟨agr_rf _, ?_⟩
    refine ⟨_, S1, S2, n, d, jO_put h (by omega) (ok_mono (by have := a1.1; omega) (ok_strike c1 c2 a1)) (kC_eqC (fun k i hk => smU_ne (by omega) i) (kU_16_0 a2)) (rU_114_11 (rC_eqR (fun k i hk => smU_ne (by omega) i) a3)) (fun k i hk => ?_) rfl rfl⟩
    rw [smU_ne (by omega), smU_ne (by omega)]
-- seen
theorem ru_note (k p h' : Int) (hn : 0 ≤ mem 23 0 ∧ mem 23 0 ≤ 6) (h0 : mem 23 0 = 6 → Post (some (.inl 0)) mem) (h1 : mem 23 0 < 6 → Post (some (.inl 1)) (smU (smU (smU (smU mem 24 (mem 23 0) k) 25 (mem 23 0) p) 26 (mem 23 0) h') 23 0 (mem 23 0 + 1))) : smRun 60 [oR 7 23, .inl k, .inl p, .inl h'] mem Post := by
  refine smGo [9999] 60 rfl ?_
  repeat' first
    | refine And.intro ?_ ?_
    | intro _
    | (show Post _ _; first | exact h0 (by omega))
  all_goals try omega
  all_goals try (simp [smU]; omega)
  · exact h1 (by omega)
theorem pC_seen (k p g : Int) (hkk : smIR k) (hp : smIR p) (hg : smIR g) (hk : kC mem S) (ho : ok N S) (h0 : ¬ (0 ≤ p ∧ p < S 0 0) → Post (some (.inl (-1))) mem) (h1 : 0 ≤ p ∧ p < S 0 0 → ¬ ((0 ≤ k ∧ k ≤ 36) ∧ (1 ≤ g ∧ g ≤ 5)) → Post (some (.inl (-2))) mem) (h2 : 0 ≤ p ∧ p < S 0 0 → 0 ≤ k ∧ k ≤ 36 → 1 ≤ g ∧ g ≤ 5 → S 22 0 = 6 → Post (some (.inl (-4))) mem)
    (h3 : 0 ≤ p ∧ p < S 0 0 → 0 ≤ k ∧ k ≤ 36 → 1 ≤ g ∧ g ≤ 5 → S 22 0 < 6 → Post (some (.inl (S 22 0 + 1))) (smU (smU (smU (smU mem 24 (S 22 0) k) 25 (S 22 0) p) 26 (S 22 0) g) 23 0 (S 22 0 + 1))) : smRun 103 [oR 10 0, .inl k, .inl p, .inl g] mem Post := by
  obtain ⟨⟨kP, kT, kN, kp, kq, ki⟩, ⟨kB, kb⟩, ⟨kS, ks⟩⟩ := id hk
  obtain ⟨oN, ⟨oP, oT, oA, op, oq, oi⟩, ⟨oB, ob⟩, ⟨oS, os⟩⟩ := id ho
  rw [← kS] at oS h2 h3
  refine smGo [9999] 60 rfl ?_
  repeat' first
    | refine And.intro ?_ ?_
    | intro _
    | (show smRun _ _ _ _; first | with_reducible refine ru_hasPlace 2 _ hp ?_ ?_ ?_ | with_reducible refine ru_within _ _ _ (by assumption) ?_ ?_ ?_ ?_ | with_reducible refine ru_note _ _ _ oS ?_ ?_)
    | (show Post _ _; first | exact h0 (by omega) | exact h1 (by omega) (by omega) | exact h2 (by omega) (by omega) (by omega) (by omega))
  all_goals try omega
  exact h3 (by omega) (by omega) (by omega) (by omega)
theorem pR_seen (k p g : Int) (hkk : smIR k) (hp : smIR p) (hg : smIR g) (hk : rC mem S) (ho : ok N S) (h0 : ¬ (0 ≤ p ∧ p < S 0 0) → Post (some (.inl (-1))) mem) (h1 : 0 ≤ p ∧ p < S 0 0 → ¬ ((0 ≤ k ∧ k ≤ 36) ∧ (1 ≤ g ∧ g ≤ 5)) → Post (some (.inl (-2))) mem) (h2 : 0 ≤ p ∧ p < S 0 0 → 0 ≤ k ∧ k ≤ 36 → 1 ≤ g ∧ g ≤ 5 → S 22 0 = 6 → Post (some (.inl (-4))) mem)
    (h3 : 0 ≤ p ∧ p < S 0 0 → 0 ≤ k ∧ k ≤ 36 → 1 ≤ g ∧ g ≤ 5 → S 22 0 < 6 → Post (some (.inl (S 22 0 + 1))) (smU (smU (smU (smU mem 124 (3 * S 22 0) k) 124 (3 * S 22 0 + 1) p) 124 (3 * S 22 0 + 2) g) 114 13 (S 22 0 + 1))) : smRun 169 [oR 11 114, .inl k, .inl p, .inl g] mem Post := by
  obtain ⟨⟨kP, kT, kN, kp, kq, ki⟩, ⟨kB, kb⟩, ⟨kS, ks⟩⟩ := id hk
  obtain ⟨oN, ⟨oP, oT, oA, op, oq, oi⟩, ⟨oB, ob⟩, ⟨oS, os⟩⟩ := id ho
  rw [← kS] at oS h2 h3
  refine smGo [9999] 80 rfl ?_
  repeat' first
    | refine And.intro ?_ ?_
    | intro _
    | (show smRun _ _ _ _; first | with_reducible refine ru_isPlace _ hp ?_ ?_ ?_ | with_reducible refine ru_in _ _ _ (by assumption) ?_ ?_ ?_ ?_)
    | (show Post _ _; first | exact h0 (by omega) | exact h1 (by omega) (by omega) | exact h2 (by omega) (by omega) (by omega) (by omega))
  all_goals try omega
  all_goals try (simp [smU]; omega)
  exact h3 (by omega) (by omega) (by omega) (by omega)
theorem ok_seen {k p g : Int} (hk : 0 ≤ k ∧ k ≤ 36) (hp : 0 ≤ p ∧ p < S 0 0) (hg : 1 ≤ g ∧ g ≤ 5) (hs : S 22 0 < 6) (h : ok N S) : ok N (smU (smU (smU (smU S 23 (S 22 0) k) 24 (S 22 0) p) 25 (S 22 0) g) 22 0 (S 22 0 + 1)) := by
  obtain ⟨o1, o2, o3, ⟨b1, b2⟩⟩ := h
  have o20 := o2.1
  refine ⟨o1, o2, o3, ⟨?_, fun j x y => ?_⟩⟩
  · show 0 ≤ S 22 0 + 1 ∧ S 22 0 + 1 ≤ 6
    omega
  · have c := b2 j x y
    by_cases e : j = S 22 0
    · simp [smU, e]
      omega
    · simp [smU, e]
      omega
theorem lw_seen (k p g : Int) (hkk : smIR k) (hp : smIR p) (hg : smIR g) (hN : N ≤ 900000) (h : jI N mem) : both N 103 169 [.inl k, .inl p, .inl g] mem := by
  have hj := jI_rf hN h
  obtain ⟨S, S1, S2, n, d, h⟩ := h
  obtain ⟨a1, a2, a3, -⟩ := id h
  refine pC_seen k p g hkk hp hg a2 a1 (fun c => ?_) (fun c1 c2 => ?_) (fun c1 c2 c3 c4 => ?_) (fun c1 c2 c3 c4 => ?_)
  · refine pR_seen k p g hkk hp hg a3 a1 ?_ ?_ ?_ ?_ <;> intros <;> first | (exfalso; omega) | exact ⟨agr_rf _, hj⟩
  · refine pR_seen k p g hkk hp hg a3 a1 ?_ ?_ ?_ ?_ <;> intros <;> first | (exfalso; omega) | exact ⟨agr_rf _, hj⟩
  · refine pR_seen k p g hkk hp hg a3 a1 ?_ ?_ ?_ ?_ <;> intros <;> first | (exfalso; omega) | exact ⟨agr_rf _, hj⟩
  · have e1 : rC (smU (smU (smU (smU mem 24 (S 22 0) k) 25 (S 22 0) p) 26 (S 22 0) g) 23 0 (S 22 0 + 1)) S := rC_eqR (fun k i hk => by rw [smU_ne (by omega), smU_ne (by omega), smU_ne (by omega), smU_ne (by omega)]) a3
    refine pR_seen k p g hkk hp hg e1 a1 ?_ ?_ ?_ ?_ <;> intros <;> first | (exfalso; omega) | refine ⟨agr_rf _, ?_⟩
    refine ⟨_, S1, S2, n, d, jO_put h (by omega) (ok_mono (by have := a1.1; omega) (ok_seen c2 c1 c3 c4 a1)) (kC_eqC (fun k i hk => ?_) (kU_23_0 (kU_26 (kU_25 (kU_24 a2))))) (rU_114_13 (rG_2 (rG_1 (rG_0 e1)))) (fun k i hk => ?_) rfl rfl⟩
    · rw [smU_ne (by omega), smU_ne (by omega), smU_ne (by omega), smU_ne (by omega)]
    · rw [smU_ne (by omega), smU_ne (by omega), smU_ne (by omega), smU_ne (by omega), smU_ne (by omega), smU_ne (by omega), smU_ne (by omega), smU_ne (by omega)]
-- list
theorem ru_setWay (q p w r t : Int) (hq : 0 ≤ q ∧ q < 6) (h : Post none (smU (smU (smU (smU (smU mem 16 0 (smOr (mem 16 0) (smShl 1 q))) 19 q p) 20 q w) 21 q r) 22 q t)) : smRun 63 [oR 8 16, .inl q, .inl p, .inl w, .inl r, .inl t] mem Post := by
  refine smGo [9999] 60 rfl ?_
  repeat' first
    | refine And.intro ?_ ?_
    | intro _
    | (show Post _ _; first | exact h)
  all_goals try omega
theorem ru_setTimes (q a e : Int) (hq : 0 ≤ q ∧ q < 6) (h : Post none (smU (smU mem 17 q a) 18 q e)) : smRun 64 [oR 8 16, .inl q, .inl a, .inl e] mem Post := by
  refine smGo [9999] 60 rfl ?_
  repeat' first
    | refine And.intro ?_ ?_
    | intro _
    | (show Post _ _; first | exact h)
  all_goals try omega
def lstC (mem : smM) (i b p w r t a e : Int) : smM := smU (smU (smU (smU (smU (smU (smU mem 16 0 b) 19 i p) 20 i w) 21 i r) 22 i t) 17 i a) 18 i e
def lstR (mem : smM) (i b p w r t a e : Int) : smM := smU (smU (smU (smU (smU (smU (smU mem 114 11 b) 123 (6 * i) p) 123 (6 * i + 1) w) 123 (6 * i + 2) r) 123 (6 * i + 3) t) 123 (6 * i + 4) a) 123 (6 * i + 5) e
def lstS (S : sS) (i b p w r t a e : Int) : sS := smU (smU (smU (smU (smU (smU (smU S 15 0 b) 18 i p) 19 i w) 20 i r) 21 i t) 16 i a) 17 i e
theorem pC_list (i q w r t a e : Int) (hi : smIR i) (hq : smIR q) (hw : smIR w) (hr : smIR r) (ht : smIR t) (ha : smIR a) (he : smIR e) (hk : kC mem S) (ho : ok N S) (h0 : ¬ ((0 ≤ i ∧ i ≤ 5) ∧ (0 ≤ q ∧ q ≤ 4 ∧ bB (S 4 0) q)) → Post (some (.inl (-1))) mem) (h1 : (0 ≤ i ∧ i ≤ 5) → (0 ≤ q ∧ q ≤ 4 ∧ bB (S 4 0) q) → ¬ (fThr w r t ∧ (0 ≤ a ∧ a ≤ 99) ∧ (0 ≤ e ∧ e ≤ 20)) → Post (some (.inl (-2))) mem)
    (h2 : (0 ≤ i ∧ i ≤ 5) → (0 ≤ q ∧ q ≤ 4 ∧ bB (S 4 0) q) → fThr w r t → (0 ≤ a ∧ a ≤ 99) → (0 ≤ e ∧ e ≤ 20) → Post (some (.inl (fPc (smOr (S 15 0) (smShl 1 i))))) (lstC mem i (smOr (S 15 0) (smShl 1 i)) (S 5 q) w r t a e)) : smRun 97 [oR 10 0, .inl i, .inl q, .inl w, .inl r, .inl t, .inl a, .inl e] mem Post := by
  obtain ⟨⟨kP, kT, kN, kp, kq, ki⟩, ⟨kB, kb⟩, ⟨kS, ks⟩⟩ := id hk
  obtain ⟨oN, ⟨oP, oT, oA, op, oq, oi⟩, ⟨oB, ob⟩, ⟨oS, os⟩⟩ := id ho
  rw [← kT] at h0 h1 h2
  rw [← kB] at oB h2
  refine smGo [9999] 80 rfl ?_
  repeat' first
    | refine And.intro ?_ ?_
    | intro _
    | (show smRun _ _ _ _; first | with_reducible refine ru_within _ _ _ (by assumption) ?_ ?_ ?_ ?_ | with_reducible refine ru_hasPerson 2 _ hq ?_ ?_ | with_reducible refine ru_isThrowC _ _ _ hw hr ht ?_ ?_ | with_reducible refine ru_setWay _ _ _ _ _ ?_ ?_ | with_reducible refine ru_setTimes _ _ _ ?_ ?_)
    | (show Post _ _; first | exact h0 (by omega) | exact h1 (by omega) (by omega) (by omega))
  all_goals try omega
  · have h9 := or_lt64 (mem 16 0) i (by omega) (by omega) (by omega) (by omega)
    refine ru_bitCount _ ?_ ?_
    · show 0 ≤ smOr (mem 16 0) (smShl 1 i) ∧ smOr (mem 16 0) (smShl 1 i) < 512
      omega
    · have h8 := h2 (by omega) (by omega) (by omega) (by omega) (by omega)
      rw [← (kq q (by omega) (by omega)).1] at h8
      exact h8
set_option maxRecDepth 4000 in
theorem pR_list (i q w r t a e : Int) (hi : smIR i) (hq : smIR q) (hw : smIR w) (hr : smIR r) (ht : smIR t) (ha : smIR a) (he : smIR e) (hk : rC mem S) (ho : ok N S) (h0 : ¬ ((0 ≤ i ∧ i ≤ 5) ∧ (0 ≤ q ∧ q ≤ 4 ∧ bB (S 4 0) q)) → Post (some (.inl (-1))) mem) (h1 : (0 ≤ i ∧ i ≤ 5) → (0 ≤ q ∧ q ≤ 4 ∧ bB (S 4 0) q) → ¬ (fThr w r t ∧ (0 ≤ a ∧ a ≤ 99) ∧ (0 ≤ e ∧ e ≤ 20)) → Post (some (.inl (-2))) mem)
    (h2 : (0 ≤ i ∧ i ≤ 5) → (0 ≤ q ∧ q ≤ 4 ∧ bB (S 4 0) q) → fThr w r t → (0 ≤ a ∧ a ≤ 99) → (0 ≤ e ∧ e ≤ 20) → Post (some (.inl (fPc (smOr (S 15 0) (smShl 1 i))))) (lstR mem i (smOr (S 15 0) (smShl 1 i)) (S 5 q) w r t a e)) : smRun 158 [oR 11 114, .inl i, .inl q, .inl w, .inl r, .inl t, .inl a, .inl e] mem Post := by
  obtain ⟨⟨kP, kT, kN, kp, kq, ki⟩, ⟨kB, kb⟩, ⟨kS, ks⟩⟩ := id hk
  obtain ⟨oN, ⟨oP, oT, oA, op, oq, oi⟩, ⟨oB, ob⟩, ⟨oS, os⟩⟩ := id ho
  rw [← kT] at h0 h1 h2
  rw [← kB] at oB h2
  refine smGo [9999] 120 rfl ?_
  repeat' first
    | refine And.intro ?_ ?_
    | intro _
    | (show smRun _ _ _ _; first | with_reducible refine ru_in _ _ _ (by assumption) ?_ ?_ ?_ ?_ | with_reducible refine ru_isThere _ hq ?_ ?_ | with_reducible refine ru_isThrowR _ _ _ hw hr ht ?_ ?_ | with_reducible refine ru_bits _ ?_)
    | (show Post _ _; first | exact h0 (by omega) | exact h1 (by omega) (by omega) (by omega))
  all_goals try omega
  · have h8 := h2 (by omega) (by omega) (by omega) (by omega) (by omega)
    rw [← (kq q (by omega) (by omega)).1] at h8
    exact h8
theorem ok_list {i p w r t a e : Int} (hi : 0 ≤ i ∧ i ≤ 5) (hp : 0 ≤ p ∧ p < S 0 0) (ht : fThr w r t) (ha : 0 ≤ a ∧ a ≤ 99) (he : 0 ≤ e ∧ e ≤ 20) (h : ok N S) : ok N (lstS S i (smOr (S 15 0) (smShl 1 i)) p w r t a e) := by
  obtain ⟨o1, o2, ⟨b1, b2⟩, o4⟩ := h
  have o20 := o2.1
  refine ⟨o1, o2, ⟨?_, fun j x y => ?_⟩, o4⟩
  · exact or_lt64 _ _ b1.1 (by omega) hi.1 (by omega)
  · obtain ⟨c1, c2, c3, c4, c5, c6, c7⟩ := b2 j x y
    by_cases z : j = i
    · subst z
      simp [lstS, smU]
      omega
    · have g : bB (smOr (S 15 0) (smShl 1 i)) j → bB (S 15 0) j := by
        intro z2
        obtain ⟨k, rfl⟩ := Int.eq_ofNat_of_zero_le x
        rcases (or_bB64 _ _ b1.1 (by omega) hi.1 (by omega) k (by omega)).mp z2 with z2 | z2
        · exact z2
        · exact absurd z2 z
      simp [lstS, smU, z]
      exact ⟨c1, c2, c3, c4, c5, c6, fun z2 => c7 (g z2)⟩
theorem lw_list (i q w r t a e : Int) (hi : smIR i) (hq : smIR q) (hw : smIR w) (hr : smIR r) (ht : smIR t) (ha : smIR a) (he : smIR e) (hN : N ≤ 900000) (h : jI N mem) : both N 97 158 [.inl i, .inl q, .inl w, .inl r, .inl t, .inl a, .inl e] mem := by
  have hj := jI_rf hN h
  obtain ⟨S, S1, S2, n, d, h⟩ := h
  obtain ⟨a1, a2, a3, -⟩ := id h
  refine pC_list i q w r t a e hi hq hw hr ht ha he a2 a1 (fun c => ?_) (fun c1 c2 c3 => ?_) (fun c1 c2 c3 c4 c5 => ?_)
  · refine pR_list i q w r t a e hi hq hw hr ht ha he a3 a1 ?_ ?_ ?_ <;> intros <;> first | (exfalso; omega) | exact ⟨agr_rf _, hj⟩
  · refine pR_list i q w r t a e hi hq hw hr ht ha he a3 a1 ?_ ?_ ?_
    · intros; exfalso; omega
    · intros; exact ⟨agr_rf _, hj⟩
    · intro _ _ x y z
      exact absurd ⟨x, y, z⟩ c3
  · have e1 : rC (lstC mem i (smOr (S 15 0) (smShl 1 i)) (S 5 q) w r t a e) S := rC_eqR (fun k i hk => by unfold lstC; rw [smU_ne (by omega), smU_ne (by omega), smU_ne (by omega), smU_ne (by omega), smU_ne (by omega), smU_ne (by omega), smU_ne (by omega)]) a3
    refine pR_list i q w r t a e hi hq hw hr ht ha he e1 a1 ?_ ?_ ?_
    · intros; exfalso; omega
    · intro _ _ x
      exact absurd ⟨c3, c4, c5⟩ x
    · intros
      refine ⟨agr_rf _, ?_⟩
      have h9 := a1.2.1.2.2.2.2.1 q (by omega) (by omega)
      refine ⟨lstS S i (smOr (S 15 0) (smShl 1 i)) (S 5 q) w r t a e, S1, S2, n, d, jO_put h (by omega) (ok_mono (by have := a1.1; omega) (ok_list c1 ⟨h9.1.1, (h9.2.2.2.2 c2.2.2).1⟩ c3 c4 c5 a1)) (kC_eqC (fun k i hk => ?_) (kU_18 (kU_17 (kU_22 (kU_21 (kU_20 (kU_19 (kU_16_0 a2)))))))) (rT_5 (rT_4 (rT_3 (rT_2 (rT_1 (rT_0 (rU_114_11 e1))))))) (fun k i hk => ?_) rfl rfl⟩
      · unfold lstR lstC
        rw [smU_ne (by omega), smU_ne (by omega), smU_ne (by omega), smU_ne (by omega), smU_ne (by omega), smU_ne (by omega), smU_ne (by omega)]
      · unfold lstR lstC
        rw [smU_ne (by omega), smU_ne (by omega), smU_ne (by omega), smU_ne (by omega), smU_ne (by omega), smU_ne (by omega), smU_ne (by omega), smU_ne (by omega), smU_ne (by omega), smU_ne (by omega), smU_ne (by omega), smU_ne (by omega), smU_ne (by omega), smU_ne (by omega)]
end
