section
variable {mem : smM} {Post : Option smV → smM → Prop} {N : Int} {S : sS}
-- lay
theorem pC_lay (p v : Int) (hp : smIR p) (hv : smIR v) (hk : kC mem S) (ho : ok N S) (h0 : ¬ (0 ≤ p ∧ p < S 0 0) → Post (some (.inl (-1))) mem) (h1 : 0 ≤ p → p < S 0 0 → ¬ (0 ≤ v ∧ v ≤ 9) → Post (some (.inl (-2))) mem) (h2 : 0 ≤ p → p < S 0 0 → 0 ≤ v → v ≤ 9 → Post (some (.inl (S 2 p))) (smU mem 4 p v)) : smRun 75 [oR 10 0, .inl p, .inl v] mem Post := by
  obtain ⟨⟨kP, kT, kN, kp, kq, ki⟩, ⟨kB, kb⟩, ⟨kS, ks⟩⟩ := id hk
  obtain ⟨oN, ⟨oP, oT, oA, op, oq, oi⟩, ⟨oB, ob⟩, ⟨oS, os⟩⟩ := id ho
  refine smGo [9999] 60 rfl ?_
  repeat' first
    | refine And.intro ?_ ?_
    | intro _
    | (show smRun _ _ _ _; first | with_reducible refine ru_hasPlace 2 _ hp ?_ ?_ ?_ | with_reducible refine ru_within _ _ _ hv ?_ ?_ ?_ ?_)
    | (show Post _ _; first | exact h0 (by omega) | exact h1 (by omega) (by omega) (by omega))
  all_goals try omega
  · rw [(kp p (by omega) (by omega)).2.1]
    exact h2 (by omega) (by omega) (by omega) (by omega)
theorem pR_lay (p v : Int) (hp : smIR p) (hv : smIR v) (hk : rC mem S) (ho : ok N S) (h0 : ¬ (0 ≤ p ∧ p < S 0 0) → Post (some (.inl (-1))) mem) (h1 : 0 ≤ p → p < S 0 0 → ¬ (0 ≤ v ∧ v ≤ 9) → Post (some (.inl (-2))) mem) (h2 : 0 ≤ p → p < S 0 0 → 0 ≤ v → v ≤ 9 → Post (some (.inl (S 2 p))) (smU mem 120 p v)) : smRun 122 [oR 11 114, .inl p, .inl v] mem Post := by
  obtain ⟨⟨kP, kT, kN, kp, kq, ki⟩, ⟨kB, kb⟩, ⟨kS, ks⟩⟩ := id hk
  obtain ⟨oN, ⟨oP, oT, oA, op, oq, oi⟩, ⟨oB, ob⟩, ⟨oS, os⟩⟩ := id ho
  refine smGo [9999] 60 rfl ?_
  repeat' first
    | refine And.intro ?_ ?_
    | intro _
    | (show smRun _ _ _ _; first | with_reducible refine ru_isPlace _ hp ?_ ?_ ?_ | with_reducible refine ru_in _ _ _ hv ?_ ?_ ?_ ?_)
    | (show Post _ _; first | exact h0 (by omega) | exact h1 (by omega) (by omega) (by omega))
  all_goals try omega
  · rw [(kp p (by omega) (by omega)).2.1]
    exact h2 (by omega) (by omega) (by omega) (by omega)
theorem ok_lay {p v : Int} (h0 : 0 ≤ v) (h1 : v ≤ 9) (h : ok N S) : ok N (smU S 2 p v) := by
  obtain ⟨o1, ⟨b1, b2, b3, b4, b5, b6⟩, o3, o4⟩ := h
  refine ⟨o1, ⟨b1, b2, b3, fun q x y => ?_, b5, b6⟩, o3, o4⟩
  have h9 := b4 q x y
  by_cases e : q = p
  · subst e
    rw [smU_s]
    exact ⟨h9.1, ⟨h0, by omega⟩, h9.2.2⟩
  · rw [smU_d e]
    exact h9
theorem lw_lay (p v : Int) (hp : smIR p) (hv : smIR v) (hN : N ≤ 900000) (h : jI N mem) : both N 75 122 [.inl p, .inl v] mem := by
  have hj := jI_rf hN h
  obtain ⟨S, S1, S2, n, d, h⟩ := h
  obtain ⟨a1, a2, a3, -⟩ := id h
  refine pC_lay p v hp hv a2 a1 (fun c => ?_) (fun c1 c2 c3 => ?_) (fun c1 c2 c3 c4 => ?_)
  · refine pR_lay p v hp hv a3 a1 ?_ ?_ ?_ <;> intros <;> first | (exfalso; omega) | exact ⟨agr_rf _, hj⟩
  · refine pR_lay p v hp hv a3 a1 ?_ ?_ ?_ <;> intros <;> first | (exfalso; omega) | exact ⟨agr_rf _, hj⟩
  · refine pR_lay p v hp hv (rC_eqR (fun k i hk => smU_ne (by omega) i) a3) a1 ?_ ?_ ?_ <;> intros <;> first | (exfalso; omega) | refine ⟨agr_rf _, ?_⟩
    refine ⟨smU S 2 p v, S1, S2, n, d, jO_put h (by omega) (ok_mono (by have := a1.1; omega) (ok_lay c3 c4 a1)) (kC_eqC (fun k i hk => smU_ne (by omega) i) (kU_4 a2)) (rU_120 (rC_eqR (fun k i hk => smU_ne (by omega) i) a3)) (fun k i hk => ?_) rfl rfl⟩
    rw [smU_ne (by omega), smU_ne (by omega)]
-- leave
theorem pC_leave (q : Int) (hq : smIR q) (hk : kC mem S) (ho : ok N S) (h0 : ¬ (0 ≤ q ∧ q ≤ 4 ∧ bB (S 4 0) q) → Post (some (.inl (-1))) mem) (h1 : 0 ≤ q → q ≤ 4 → bB (S 4 0) q → Post (some (.inl (fPc (smAnd (S 4 0) (smXor (smShl 1 q) (-1)))))) (smU mem 2 4 (smAnd (S 4 0) (smXor (smShl 1 q) (-1))))) : smRun 77 [oR 10 0, .inl q] mem Post := by
  obtain ⟨⟨kP, kT, kN, kp, kq, ki⟩, ⟨kB, kb⟩, ⟨kS, ks⟩⟩ := id hk
  obtain ⟨oN, ⟨oP, oT, oA, op, oq, oi⟩, ⟨oB, ob⟩, ⟨oS, os⟩⟩ := id ho
  refine smGo [9999] 60 rfl ?_
  rw [← kT] at oT h0 h1
  repeat' first
    | refine And.intro ?_ ?_
    | intro _
    | (show smRun _ _ _ _; first | with_reducible refine ru_hasPerson 2 _ hq ?_ ?_)
    | (show Post _ _; first | exact h0 (by omega))
  all_goals try omega
  · have h9 := clr_lt32 (mem 2 4) q (by omega) (by omega) (by omega) (by omega)
    refine ru_bitCount _ ?_ ?_
    · show 0 ≤ smU mem 2 4 (smAnd (mem 2 4) (smXor (smShl 1 q) (-1))) 2 4 ∧ smU mem 2 4 (smAnd (mem 2 4) (smXor (smShl 1 q) (-1))) 2 4 < 512
      rw [smU_s]
      omega
    · exact h1 (by omega) (by omega) (by omega)
theorem pR_leave (q : Int) (hq : smIR q) (hk : rC mem S) (ho : ok N S) (h0 : ¬ (0 ≤ q ∧ q ≤ 4 ∧ bB (S 4 0) q) → Post (some (.inl (-1))) mem) (h1 : 0 ≤ q → q ≤ 4 → bB (S 4 0) q → Post (some (.inl (fPc (smAnd (S 4 0) (smXor (smShl 1 q) (-1)))))) (smU mem 114 2 (smAnd (S 4 0) (smXor (smShl 1 q) (-1))))) : smRun 124 [oR 11 114, .inl q] mem Post := by
  obtain ⟨⟨kP, kT, kN, kp, kq, ki⟩, ⟨kB, kb⟩, ⟨kS, ks⟩⟩ := id hk
  obtain ⟨oN, ⟨oP, oT, oA, op, oq, oi⟩, ⟨oB, ob⟩, ⟨oS, os⟩⟩ := id ho
  refine smGo [9999] 60 rfl ?_
  rw [← kT] at oT h0 h1
  repeat' first
    | refine And.intro ?_ ?_
    | intro _
    | (show smRun _ _ _ _; first | with_reducible refine ru_isThere _ hq ?_ ?_ | with_reducible refine ru_bits _ ?_)
    | (show Post _ _; first | exact h0 (by omega))
  all_goals try omega
  · exact h1 (by omega) (by omega) (by omega)
theorem ok_leave {q : Int} (h0 : 0 ≤ q) (h1 : q ≤ 4) (h : ok N S) : ok N (smU S 4 0 (smAnd (S 4 0) (smXor (smShl 1 q) (-1)))) := by
  obtain ⟨o1, ⟨b1, b2, b3, b4, b5, b6⟩, o3, o4⟩ := h
  refine ⟨o1, ⟨b1, ?_, b3, b4, fun j x y => ?_, b6⟩, o3, o4⟩
  · exact clr_lt32 _ _ b2.1 (by omega) h0 (by omega)
  · obtain ⟨c1, c2, c3, c4, c5⟩ := b5 j x y
    refine ⟨c1, c2, c3, c4, fun z => c5 ?_⟩
    obtain ⟨i, rfl⟩ := Int.eq_ofNat_of_zero_le x
    exact ((clr_bB32 _ _ b2.1 (by omega) h0 (by omega) i (by omega)).mp z).1
theorem lw_leave (q : Int) (hq : smIR q) (hN : N ≤ 900000) (h : jI N mem) : both N 77 124 [.inl q] mem := by
  have hj := jI_rf hN h
  obtain ⟨S, S1, S2, n, d, h⟩ := h
  obtain ⟨a1, a2, a3, -⟩ := id h
  refine pC_leave q hq a2 a1 (fun c => ?_) (fun c1 c2 c3 => ?_)
  · refine pR_leave q hq a3 a1 ?_ ?_ <;> intros <;> first | (exfalso; omega) | exact ⟨agr_rf _, hj⟩
  · refine pR_leave q hq (rC_eqR (fun k i hk => smU_ne (by omega) i) a3) a1 ?_ ?_ <;> intros <;> first | (exfalso; omega) | refine ⟨agr_rf _, ?_⟩
    refine ⟨_, S1, S2, n, d, jO_put h (by omega) (ok_mono (by have := a1.1; omega) (ok_leave c1 c2 a1)) (kC_eqC (fun k i hk => smU_ne (by omega) i) (kU_2_4 a2)) (rU_114_2 (rC_eqR (fun k i hk => smU_ne (by omega) i) a3)) (fun k i hk => ?_) rfl rfl⟩
    rw [smU_ne (by omega), smU_ne (by omega)]
-- person
theorem ru_put (w a b c e : Nat) (ha : w + 4 = a) (hb : w + 5 = b) (hc : w + 6 = c) (he : w + 7 = e) (q p r s : Int) (hq : 0 ≤ q ∧ q < 5) (h : Post none (smU (smU (smU (smU (smU mem w 4 (smOr (mem w 4) (smShl 1 q))) a q p) b q r) c q s) e q 0)) : smRun 67 [oR 9 w, .inl q, .inl p, .inl r, .inl s] mem Post := by
  subst ha; subst hb; subst hc; subst he
  refine smGo [] 60 rfl ?_
  repeat' first
    | refine And.intro ?_ ?_
    | intro _
    | (show Post _ _; first | exact h)
  all_goals try omega
theorem pC_person (q p r s : Int) (hq : smIR q) (hp : smIR p) (hr : smIR r) (hs : smIR s) (hk : kC mem S) (ho : ok N S) (h0 : ¬ ((0 ≤ q ∧ q ≤ 4) ∧ (0 ≤ p ∧ p < S 0 0)) → Post (some (.inl (-1))) mem) (h1 : (0 ≤ q ∧ q ≤ 4) → (0 ≤ p ∧ p < S 0 0) → ¬ ((1 ≤ r ∧ r ≤ 36) ∧ (0 ≤ s ∧ s ≤ 9)) → Post (some (.inl (-2))) mem)
    (h2 : (0 ≤ q ∧ q ≤ 4) → (0 ≤ p ∧ p < S 0 0) → (1 ≤ r ∧ r ≤ 36) → (0 ≤ s ∧ s ≤ 9) → Post (some (.inl (fPc (smOr (S 4 0) (smShl 1 q))))) (smU (smU (smU (smU (smU mem 2 4 (smOr (S 4 0) (smShl 1 q))) 6 q p) 7 q r) 8 q s) 9 q 0)) : smRun 76 [oR 10 0, .inl q, .inl p, .inl r, .inl s] mem Post := by
  obtain ⟨⟨kP, kT, kN, kp, kq, ki⟩, ⟨kB, kb⟩, ⟨kS, ks⟩⟩ := id hk
  obtain ⟨oN, ⟨oP, oT, oA, op, oq, oi⟩, ⟨oB, ob⟩, ⟨oS, os⟩⟩ := id ho
  refine smGo [9999] 60 rfl ?_
  rw [← kT] at oT h2
  repeat' first
    | refine And.intro ?_ ?_
    | intro _
    | (show smRun _ _ _ _; first | with_reducible refine ru_within _ _ _ (by assumption) ?_ ?_ ?_ ?_ | with_reducible refine ru_hasPlace 2 _ hp ?_ ?_ ?_ | with_reducible refine ru_put 2 6 7 8 9 rfl rfl rfl rfl _ _ _ _ ?_ ?_)
    | (show Post _ _; first | exact h0 (by omega) | exact h1 (by omega) (by omega) (by omega))
  all_goals try omega
  · have h9 := or_lt32 (mem 2 4) q (by omega) (by omega) (by omega) (by omega)
    refine ru_bitCount _ ?_ ?_
    · show 0 ≤ smOr (mem 2 4) (smShl 1 q) ∧ smOr (mem 2 4) (smShl 1 q) < 512
      omega
    · exact h2 (by omega) (by omega) (by omega) (by omega)
theorem pR_person (q p r s : Int) (hq : smIR q) (hp : smIR p) (hr : smIR r) (hs : smIR s) (hk : rC mem S) (ho : ok N S) (h0 : ¬ ((0 ≤ q ∧ q ≤ 4) ∧ (0 ≤ p ∧ p < S 0 0)) → Post (some (.inl (-1))) mem) (h1 : (0 ≤ q ∧ q ≤ 4) → (0 ≤ p ∧ p < S 0 0) → ¬ ((1 ≤ r ∧ r ≤ 36) ∧ (0 ≤ s ∧ s ≤ 9)) → Post (some (.inl (-2))) mem)
    (h2 : (0 ≤ q ∧ q ≤ 4) → (0 ≤ p ∧ p < S 0 0) → (1 ≤ r ∧ r ≤ 36) → (0 ≤ s ∧ s ≤ 9) → Post (some (.inl (fPc (smOr (S 4 0) (smShl 1 q))))) (smU (smU (smU (smU (smU mem 114 2 (smOr (S 4 0) (smShl 1 q))) 117 q p) 116 q r) 118 q s) 119 q 0)) : smRun 123 [oR 11 114, .inl q, .inl p, .inl r, .inl s] mem Post := by
  obtain ⟨⟨kP, kT, kN, kp, kq, ki⟩, ⟨kB, kb⟩, ⟨kS, ks⟩⟩ := id hk
  obtain ⟨oN, ⟨oP, oT, oA, op, oq, oi⟩, ⟨oB, ob⟩, ⟨oS, os⟩⟩ := id ho
  refine smGo [9999] 80 rfl ?_
  rw [← kT] at oT h2
  repeat' first
    | refine And.intro ?_ ?_
    | intro _
    | (show smRun _ _ _ _; first | with_reducible refine ru_in _ _ _ (by assumption) ?_ ?_ ?_ ?_ | with_reducible refine ru_isPlace _ hp ?_ ?_ ?_ | with_reducible refine ru_bits _ ?_)
    | (show Post _ _; first | exact h0 (by omega) | exact h1 (by omega) (by omega) (by omega))
  all_goals try omega
  · exact h2 (by omega) (by omega) (by omega) (by omega)
theorem ok_person {q p r s : Int} (hq : 0 ≤ q ∧ q ≤ 4) (hp : 0 ≤ p ∧ p < S 0 0) (hr : 1 ≤ r ∧ r ≤ 36) (hs : 0 ≤ s ∧ s ≤ 9) (h : ok N S) : ok N (smU (smU (smU (smU (smU S 4 0 (smOr (S 4 0) (smShl 1 q))) 5 q p) 6 q r) 7 q s) 8 q 0) := by
  obtain ⟨o1, ⟨b1, b2, b3, b4, b5, b6⟩, o3, o4⟩ := h
  refine ⟨o1, ⟨b1, ?_, b3, b4, fun j x y => ?_, b6⟩, o3, o4⟩
  · exact or_lt32 _ _ b2.1 (by omega) hq.1 (by omega)
  · obtain ⟨c1, c2, c3, c4, c5⟩ := b5 j x y
    by_cases e : j = q
    · subst e
      simp [smU]
      omega
    · have g : bB (smOr (S 4 0) (smShl 1 q)) j → bB (S 4 0) j := by
        intro z
        obtain ⟨i, rfl⟩ := Int.eq_ofNat_of_zero_le x
        rcases (or_bB32 _ _ b2.1 (by omega) hq.1 (by omega) i (by omega)).mp z with z | z
        · exact z
        · exact absurd z e
      simp [smU, e]
      exact ⟨c1, c2, c3, c4, fun z => c5 (g z)⟩
theorem lw_person (q p r s : Int) (hq : smIR q) (hp : smIR p) (hr : smIR r) (hs : smIR s) (hN : N ≤ 900000) (h : jI N mem) : both N 76 123 [.inl q, .inl p, .inl r, .inl s] mem := by
  have hj := jI_rf hN h
  obtain ⟨S, S1, S2, n, d, h⟩ := h
  obtain ⟨a1, a2, a3, -⟩ := id h
  refine pC_person q p r s hq hp hr hs a2 a1 (fun c => ?_) (fun c1 c2 c3 => ?_) (fun c1 c2 c3 c4 => ?_)
  · refine pR_person q p r s hq hp hr hs a3 a1 ?_ ?_ ?_ <;> intros <;> first | (exfalso; omega) | exact ⟨agr_rf _, hj⟩
  · refine pR_person q p r s hq hp hr hs a3 a1 ?_ ?_ ?_ <;> intros <;> first | (exfalso; omega) | exact ⟨agr_rf _, hj⟩
  · have e1 : rC (smU (smU (smU (smU (smU mem 2 4 (smOr (S 4 0) (smShl 1 q))) 6 q p) 7 q r) 8 q s) 9 q 0) S := rC_eqR (fun k i hk => by rw [smU_ne (by omega), smU_ne (by omega), smU_ne (by omega), smU_ne (by omega), smU_ne (by omega)]) a3
    refine pR_person q p r s hq hp hr hs e1 a1 ?_ ?_ ?_ <;> intros <;> first | (exfalso; omega) | refine ⟨agr_rf _, ?_⟩
    refine ⟨_, S1, S2, n, d, jO_put h (by omega) (ok_mono (by have := a1.1; omega) (ok_person c1 c2 c3 c4 a1)) (kC_eqC (fun k i hk => ?_) (kU_9 (kU_8 (kU_7 (kU_6 (kU_2_4 a2)))))) (rU_119 (rU_118 (rU_116 (rU_117 (rU_114_2 e1))))) (fun k i hk => ?_) rfl rfl⟩
    · rw [smU_ne (by omega), smU_ne (by omega), smU_ne (by omega), smU_ne (by omega), smU_ne (by omega)]
    · rw [smU_ne (by omega), smU_ne (by omega), smU_ne (by omega), smU_ne (by omega), smU_ne (by omega), smU_ne (by omega), smU_ne (by omega), smU_ne (by omega), smU_ne (by omega), smU_ne (by omega)]
-- state
def stateF (S : sS) (q k : Int) : Int := if k = 0 then S 5 q else if k = 1 then S 7 q else S 8 q
theorem ru_tellPerson (w a b c : Nat) (ha : w + 4 = a) (hb : w + 6 = b) (hc : w + 7 = c) (q k : Int) (hq : 0 ≤ q ∧ q < 5) (hk : 0 ≤ k ∧ k ≤ 2) (h : Post (some (.inl (if k = 0 then mem a q else if k = 1 then mem b q else mem c q))) mem) : smRun 68 [oR 9 w, .inl q, .inl k] mem Post := by
  subst ha; subst hb; subst hc
  refine smGo [] 60 rfl ?_
  repeat' first
    | refine And.intro ?_ ?_
    | intro _
  all_goals try omega
  · rw [if_neg (by omega), if_neg (by omega)] at h; exact h
  · rw [if_neg (by omega), if_pos (by omega)] at h; exact h
  · rw [if_pos (by omega)] at h; exact h
theorem pC_state (q k : Int) (hq : smIR q) (hkk : smIR k) (hk : kC mem S) (ho : ok N S) (h0 : ¬ (0 ≤ q ∧ q ≤ 4 ∧ bB (S 4 0) q) → Post (some (.inl (-1))) mem) (h1 : 0 ≤ q ∧ q ≤ 4 ∧ bB (S 4 0) q → ¬ (0 ≤ k ∧ k ≤ 2) → Post (some (.inl (-2))) mem) (h2 : 0 ≤ q ∧ q ≤ 4 ∧ bB (S 4 0) q → 0 ≤ k ∧ k ≤ 2 → Post (some (.inl (stateF S q k))) mem) : smRun 84 [oR 10 0, .inl q, .inl k] mem Post := by
  obtain ⟨⟨kP, kT, kN, kp, kq, ki⟩, ⟨kB, kb⟩, ⟨kS, ks⟩⟩ := id hk
  obtain ⟨oN, ⟨oP, oT, oA, op, oq, oi⟩, ⟨oB, ob⟩, ⟨oS, os⟩⟩ := id ho
  refine smGo [9999] 60 rfl ?_
  rw [← kT] at oT h0 h1 h2
  repeat' first
    | refine And.intro ?_ ?_
    | intro _
    | (show smRun _ _ _ _; first | with_reducible refine ru_hasPerson 2 _ hq ?_ ?_ | with_reducible refine ru_within _ _ _ hkk ?_ ?_ ?_ ?_ | with_reducible refine ru_tellPerson 2 6 8 9 rfl rfl rfl _ _ ?_ ?_ ?_)
    | (show Post _ _; first | exact h0 (by omega) | exact h1 (by omega) (by omega))
  all_goals try omega
  · have h9 := kq q (by omega) (by omega)
    unfold stateF at h2
    rw [h9.1, h9.2.2.1, h9.2.2.2]
    exact h2 (by omega) (by omega)
theorem pR_state (q k : Int) (hq : smIR q) (hkk : smIR k) (hk : rC mem S) (ho : ok N S) (h0 : ¬ (0 ≤ q ∧ q ≤ 4 ∧ bB (S 4 0) q) → Post (some (.inl (-1))) mem) (h1 : 0 ≤ q ∧ q ≤ 4 ∧ bB (S 4 0) q → ¬ (0 ≤ k ∧ k ≤ 2) → Post (some (.inl (-2))) mem) (h2 : 0 ≤ q ∧ q ≤ 4 ∧ bB (S 4 0) q → 0 ≤ k ∧ k ≤ 2 → Post (some (.inl (stateF S q k))) mem) : smRun 143 [oR 11 114, .inl q, .inl k] mem Post := by
  obtain ⟨⟨kP, kT, kN, kp, kq, ki⟩, ⟨kB, kb⟩, ⟨kS, ks⟩⟩ := id hk
  obtain ⟨oN, ⟨oP, oT, oA, op, oq, oi⟩, ⟨oB, ob⟩, ⟨oS, os⟩⟩ := id ho
  refine smGo [9999] 60 rfl ?_
  rw [← kT] at oT h0 h1 h2
  repeat' first
    | refine And.intro ?_ ?_
    | intro _
    | (show smRun _ _ _ _; first | with_reducible refine ru_isThere _ hq ?_ ?_ | with_reducible refine ru_in _ _ _ hkk ?_ ?_ ?_ ?_)
    | (show Post _ _; first | exact h0 (by omega) | exact h1 (by omega) (by omega))
  all_goals try omega
  all_goals
    have h9 := kq q (by omega) (by omega)
    have h8 := h2 (by omega) (by omega)
    unfold stateF at h8
    rw [← h9.1, ← h9.2.2.1, ← h9.2.2.2] at h8
  · rw [if_neg (by omega), if_neg (by omega)] at h8; exact h8
  · rw [if_neg (by omega), if_pos (by omega)] at h8; exact h8
  · rw [if_pos (by omega)] at h8; exact h8
theorem lw_state (q k : Int) (hq : smIR q) (hkk : smIR k) (hN : N ≤ 900000) (h : jI N mem) : both N 84 143 [.inl q, .inl k] mem := by
  have hj := jI_rf hN h
  obtain ⟨S, S1, S2, n, d, h⟩ := h
  obtain ⟨a1, a2, a3, -⟩ := id h
  refine pC_state q k hq hkk a2 a1 (fun c => ?_) (fun c1 c2 => ?_) (fun c1 c2 => ?_)
  all_goals (refine pR_state q k hq hkk a3 a1 ?_ ?_ ?_ <;> intros <;> first | (exfalso; omega) | exact ⟨agr_rf _, hj⟩)
end
