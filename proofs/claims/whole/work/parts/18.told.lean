section
variable {mem : smM} {Post : Option smV → smM → Prop} {N : Int} {S : sS}
-- told
def toldF (S : sS) (n x : Int) : Int := if x = 0 then n else if x = 1 then S 0 0 else if x = 2 then S 4 0 else if x = 3 then S 9 0 else if x = 4 then S 15 0 else if x = 5 then S 22 0 else if 10 ≤ x ∧ x < 10 + S 0 0 then S 1 (x - 10) else if (20 ≤ x ∧ x ≤ 24) ∧ bB (S 4 0) (x - 20) then S 6 (x - 20) else -2
theorem pC_told (x : Int) (hx : smIR x) (hk : kC mem S) (ho : ok N S) (h : ∀ r, r = toldF S (mem 93 0) x → Post (some (.inl r)) mem) : smRun 114 [oR 10 0, .inl x] mem Post := by
  obtain ⟨⟨kP, kT, kN, kp, kq, ki⟩, ⟨kB, kb⟩, ⟨kS, ks⟩⟩ := id hk
  obtain ⟨oN, ⟨oP, oT, oA, op, oq, oi⟩, ⟨oB, ob⟩, ⟨oS, os⟩⟩ := id ho
  have hx' : -2147483648 ≤ x ∧ x ≤ 2147483647 := hx
  have q1 := fun z1 z2 => (kp (x - 10) z1 z2).1
  have q2 := fun z1 z2 => (kq (x - 20) z1 z2).2.1
  unfold toldF at h
  rw [← kT] at h
  refine smGo [9999] 60 rfl ?_
  repeat' first
    | refine And.intro ?_ ?_
    | intro _
    | (show smRun _ _ _ _; first | with_reducible refine ru_within _ _ _ hx ?_ ?_ ?_ ?_ | with_reducible refine ru_hasPerson 2 _ ?_ ?_ ?_)
    | exact trivial
  all_goals try omega
  all_goals refine h _ ?_
  all_goals (repeat' split)
  all_goals first | omega | (have z1 := q1 (by omega) (by omega); omega) | (have z2 := q2 (by omega) (by omega); omega)
theorem pR_told (x : Int) (hx : smIR x) (hk : rC mem S) (ho : ok N S) (h : ∀ r, r = toldF S (mem 114 15) x → Post (some (.inl r)) mem) : smRun 177 [oR 11 114, .inl x] mem Post := by
  obtain ⟨⟨kP, kT, kN, kp, kq, ki⟩, ⟨kB, kb⟩, ⟨kS, ks⟩⟩ := id hk
  obtain ⟨oN, ⟨oP, oT, oA, op, oq, oi⟩, ⟨oB, ob⟩, ⟨oS, os⟩⟩ := id ho
  have hx' : -2147483648 ≤ x ∧ x ≤ 2147483647 := hx
  have q1 := fun z1 z2 => (kp (x - 10) z1 z2).1
  have q2 := fun z1 z2 => (kq (x - 20) z1 z2).2.1
  have t1 : 10 ≤ x → x ≤ 19 → x.tmod 10 = x - 10 := fun y z => by rw [Int.tmod_eq_emod_of_nonneg (by omega)]; omega
  have t2 : 20 ≤ x → x ≤ 29 → x.tmod 10 = x - 20 := fun y z => by rw [Int.tmod_eq_emod_of_nonneg (by omega)]; omega
  unfold toldF at h
  rw [← kT] at h
  refine smGo [9999] 60 rfl ?_
  repeat' first
    | refine And.intro ?_ ?_
    | intro _
    | (show smRun _ _ _ _; first | with_reducible refine ru_in _ _ _ hx ?_ ?_ ?_ ?_)
    | exact trivial
  all_goals try omega
  · rw [t1 (by omega) (by omega)]
    repeat' first
      | refine And.intro ?_ ?_
      | intro _
      | (show smRun _ _ _ _; first | with_reducible refine ru_isPlace _ ?_ ?_ ?_ ?_)
    all_goals try omega
    all_goals refine h _ ?_
    all_goals (repeat' split)
    all_goals first | omega | (have z1 := q1 (by omega) (by omega); omega) | (have z2 := q2 (by omega) (by omega); omega)
  · rw [t2 (by omega) (by omega)]
    repeat' first
      | refine And.intro ?_ ?_
      | intro _
      | (show smRun _ _ _ _; first | with_reducible refine ru_isThere _ ?_ ?_ ?_)
    all_goals try omega
    all_goals refine h _ ?_
    all_goals (repeat' split)
    all_goals first | omega | (have z1 := q1 (by omega) (by omega); omega) | (have z2 := q2 (by omega) (by omega); omega)
  all_goals refine h _ ?_
  all_goals (repeat' split)
  all_goals first | omega | (have z1 := q1 (by omega) (by omega); omega) | (have z2 := q2 (by omega) (by omega); omega)
theorem lw_told (x : Int) (hx : smIR x) (hN : N ≤ 900000) (h : jI N mem) : both N 114 177 [.inl x] mem := by
  have hj := jI_rf hN h
  obtain ⟨S, S1, S2, n, d, h⟩ := h
  obtain ⟨a1, a2, a3, a4, a5, a6, -⟩ := id h
  refine pC_told x hx a2 a1 (fun r e => pR_told x hx a3 a1 (fun r' e' => ⟨?_, hj⟩))
  rw [a5.1] at e
  rw [a6.1] at e'
  exact ⟨r, rfl, by rw [e', ← e]⟩
-- places
def bgnC (mem : smM) (n j : Int) : smM := fun k i => if (k = 3 ∨ k = 4 ∨ k = 5) ∧ 0 ≤ i ∧ i < j then 0 else if k = 10 ∧ i = 0 then 0 else if k = 2 ∧ i = 4 then 0 else if k = 2 ∧ i = 0 then n else mem k i
theorem bgnC_0 (mem : smM) (n : Int) : smU (smU (smU mem 2 0 n) 2 4 0) 10 0 0 = bgnC mem n 0 := by
  funext k i
  simp only [smU, bgnC]
  rw [if_neg (show ¬ ((k = 3 ∨ k = 4 ∨ k = 5) ∧ 0 ≤ i ∧ i < 0) by omega)]
theorem bgnC_s (mem : smM) (n j : Int) (hj : 0 ≤ j) : smU (smU (smU (bgnC mem n j) 3 j 0) 4 j 0) 5 j 0 = bgnC mem n (j + 1) := by
  funext k i
  simp only [smU, bgnC]
  by_cases h : (k = 3 ∨ k = 4 ∨ k = 5) ∧ i = j
  · rw [if_pos (show (k = 3 ∨ k = 4 ∨ k = 5) ∧ 0 ≤ i ∧ i < j + 1 by omega)]
    repeat' split
    all_goals first | rfl | omega
  · rw [if_neg (by omega), if_neg (by omega), if_neg (by omega)]
    by_cases h2 : (k = 3 ∨ k = 4 ∨ k = 5) ∧ 0 ≤ i ∧ i < j
    · rw [if_pos h2, if_pos (by omega)]
    · rw [if_neg h2, if_neg (show ¬ ((k = 3 ∨ k = 4 ∨ k = 5) ∧ 0 ≤ i ∧ i < j + 1) by omega)]
theorem ru_begin (n : Int) (h : Post none (bgnC mem n 9)) : smRun 65 [oR 9 2, .inl n] mem Post := by
  have loop : ∀ (m : Nat) (j : Int), j = 9 - (m : Int) → m ≤ 9 → smWp 65 20 [some (oR 9 2), some (.inl n), some (.inl j)] [] (bgnC mem n j) Post := by
    intro m
    induction m with
    | zero =>
      intro j hj _
      refine smAt [20, 9999] 30 rfl ?_
      repeat' first
        | refine And.intro ?_ ?_
        | intro _
      all_goals try omega
      rw [show j = 9 by omega]
      exact h
    | succ m ih =>
      intro j hj hm
      refine smAt [20, 9999] 30 rfl ?_
      repeat' first
        | refine And.intro ?_ ?_
        | intro _
      all_goals try omega
      have h9 := ih (j + 1) (by omega) (by omega)
      rw [← bgnC_s mem n j (by omega)] at h9
      exact h9
  refine smGo [20, 9999] 30 rfl ?_
  have h9 := loop 9 0 (by omega) (by omega)
  rw [← bgnC_0] at h9
  exact h9
def plcC (mem : smM) (n : Int) : smM := smU (smU (bgnC mem n 9) 16 0 0) 23 0 0
theorem pC_places (n : Int) (hn : smIR n) (hk : kC mem S) (h0 : ¬ (4 ≤ n ∧ n ≤ 9) → Post (some (.inl (-2))) mem) (h1 : 4 ≤ n ∧ n ≤ 9 → Post (some (.inl (S 0 0))) (plcC mem n)) : smRun 73 [oR 10 0, .inl n] mem Post := by
  obtain ⟨⟨kP, kT, kN, kp, kq, ki⟩, ⟨kB, kb⟩, ⟨kS, ks⟩⟩ := id hk
  rw [← kP] at h1
  refine smGo [9999] 60 rfl ?_
  repeat' first
    | refine And.intro ?_ ?_
    | intro _
    | (show smRun _ _ _ _; first | with_reducible refine ru_within _ _ _ hn ?_ ?_ ?_ ?_ | with_reducible refine ru_begin _ ?_)
    | (show Post _ _; first | exact h0 (by omega) | exact h1 (by omega))
  all_goals try omega
def bgnR (mem : smM) (n j : Int) : smM := fun k i => if (k = 115 ∨ k = 120 ∨ k = 121) ∧ 0 ≤ i ∧ i < j then 0 else if k = 114 ∧ (i = 2 ∨ i = 9 ∨ i = 11 ∨ i = 13) then 0 else if k = 114 ∧ i = 0 then n else mem k i
theorem bgnR_0 (mem : smM) (n : Int) : smU (smU (smU (smU (smU mem 114 0 n) 114 2 0) 114 9 0) 114 11 0) 114 13 0 = bgnR mem n 0 := by
  funext k i
  simp only [smU, bgnR]
  rw [if_neg (show ¬ ((k = 115 ∨ k = 120 ∨ k = 121) ∧ 0 ≤ i ∧ i < 0) by omega)]
  repeat' split
  all_goals first | rfl | omega
theorem bgnR_s (mem : smM) (n j : Int) (hj : 0 ≤ j) : smU (smU (smU (bgnR mem n j) 115 j 0) 120 j 0) 121 j 0 = bgnR mem n (j + 1) := by
  funext k i
  simp only [smU, bgnR]
  by_cases h : (k = 115 ∨ k = 120 ∨ k = 121) ∧ i = j
  · rw [if_pos (show (k = 115 ∨ k = 120 ∨ k = 121) ∧ 0 ≤ i ∧ i < j + 1 by omega)]
    repeat' split
    all_goals first | rfl | omega
  · rw [if_neg (by omega), if_neg (by omega), if_neg (by omega)]
    by_cases h2 : (k = 115 ∨ k = 120 ∨ k = 121) ∧ 0 ≤ i ∧ i < j
    · rw [if_pos h2, if_pos (by omega)]
    · rw [if_neg h2, if_neg (show ¬ ((k = 115 ∨ k = 120 ∨ k = 121) ∧ 0 ≤ i ∧ i < j + 1) by omega)]
theorem pR_places (n : Int) (hn : smIR n) (hk : rC mem S) (h0 : ¬ (4 ≤ n ∧ n ≤ 9) → Post (some (.inl (-2))) mem) (h1 : 4 ≤ n ∧ n ≤ 9 → Post (some (.inl (S 0 0))) (bgnR mem n 9)) : smRun 120 [oR 11 114, .inl n] mem Post := by
  obtain ⟨⟨kP, kT, kN, kp, kq, ki⟩, ⟨kB, kb⟩, ⟨kS, ks⟩⟩ := id hk
  rw [← kP] at h1
  have loop : 4 ≤ n ∧ n ≤ 9 → ∀ (m : Nat) (j : Int), j = 9 - (m : Int) → m ≤ 9 → smWp 120 45 [some (oR 11 114), some (.inl n), some (.inl (mem 114 0)), some (.inl j)] [] (bgnR mem n j) Post := by
    intro hh m
    induction m with
    | zero =>
      intro j hj _
      refine smAt [45, 9999] 30 rfl ?_
      repeat' first
        | refine And.intro ?_ ?_
        | intro _
      all_goals try omega
      rw [show j = 9 by omega]
      exact h1 hh
    | succ m ih =>
      intro j hj hm
      refine smAt [45, 9999] 30 rfl ?_
      repeat' first
        | refine And.intro ?_ ?_
        | intro _
      all_goals try omega
      have h9 := ih (j + 1) (by omega) (by omega)
      rw [← bgnR_s mem n j (by omega)] at h9
      exact h9
  refine smGo [45, 9999] 60 rfl ?_
  repeat' first
    | refine And.intro ?_ ?_
    | intro _
    | (show smRun _ _ _ _; first | with_reducible refine ru_in _ _ _ hn ?_ ?_ ?_ ?_)
    | (show Post _ _; first | exact h0 (by omega))
  all_goals try omega
  have h9 := loop (by omega) 9 0 (by omega) (by omega)
  rw [← bgnR_0] at h9
  exact h9
def plcS (S : sS) (n : Int) : sS := fun f i => if f = 1 ∨ f = 2 ∨ f = 3 ∨ f = 4 ∨ f = 9 ∨ f = 15 ∨ f = 22 then 0 else if f = 0 then n else S f i
theorem kC_places {n : Int} (h : kC mem S) : kC (plcC mem n) (plcS S n) := by
  obtain ⟨⟨kP, kT, kN, kp, kq, ki⟩, ⟨kB, kb⟩, ⟨kS, ks⟩⟩ := h
  refine ⟨⟨rfl, rfl, rfl, fun p x y => ?_, kq, fun i x y => ?_⟩, ⟨rfl, kb⟩, ⟨rfl, ks⟩⟩
  · simp [plcC, plcS, smU, bgnC, x, y]
  · exact absurd y (by show ¬ i < 0; omega)
theorem rC_places {n : Int} (h : rC mem S) : rC (bgnR mem n 9) (plcS S n) := by
  obtain ⟨⟨kP, kT, kN, kp, kq, ki⟩, ⟨kB, kb⟩, ⟨kS, ks⟩⟩ := h
  refine ⟨⟨rfl, rfl, rfl, fun p x y => ?_, kq, fun i x y => ?_⟩, ⟨rfl, kb⟩, ⟨rfl, ks⟩⟩
  · simp [plcS, bgnR, x, y]
  · exact absurd y (by show ¬ i < 0; omega)
theorem ok_places {n : Int} (hn : 4 ≤ n ∧ n ≤ 9) (h : ok N S) : ok N (plcS S n) := by
  obtain ⟨o1, ⟨b1, b2, b3, b4, b5, b6⟩, ⟨c1, c2⟩, o4, o5⟩ := h
  refine ⟨o1, ⟨hn, ⟨by show (0 : Int) ≤ 0; omega, by show (0 : Int) < 32; omega⟩, ⟨by show (0 : Int) ≤ 0; omega, by show (0 : Int) ≤ 12; omega⟩, fun p x y => ?_, fun q x y => ?_, fun i x y => ?_⟩, ⟨⟨by show (0 : Int) ≤ 0; omega, by show (0 : Int) < 64; omega⟩, fun i x y => ?_⟩, ⟨by show (0 : Int) ≤ 0; omega, by show (0 : Int) ≤ 6; omega⟩, o5⟩
  · simp [plcS]; omega
  · obtain ⟨d1, d2, d3, d4, d5⟩ := b5 q x y
    refine ⟨d1, d2, d3, d4, fun z => absurd z (bB_00 q x (by omega))⟩
  · exact absurd y (by show ¬ i < 0; omega)
  · obtain ⟨d1, d2, d3, d4, d5, d6, d7⟩ := c2 i x y
    exact ⟨d1, d2, d3, d4, d5, d6, fun z => absurd z (bB_006 i x (by omega))⟩
theorem lw_places (n : Int) (hn : smIR n) (hN : N ≤ 900000) (h : jI N mem) : both N 73 120 [.inl n] mem := by
  have hj := jI_rf hN h
  obtain ⟨S, S1, S2, m, d, h⟩ := h
  obtain ⟨a1, a2, a3, -⟩ := id h
  have e1 : eqR mem (plcC mem n) := fun k i hk => by
    simp only [plcC, smU, bgnC]
    rw [if_neg (by omega), if_neg (by omega), if_neg (by omega), if_neg (by omega), if_neg (by omega), if_neg (by omega)]
  have e2 : eqC (plcC mem n) (bgnR (plcC mem n) n 9) := fun k i hk => by
    simp only [bgnR]
    rw [if_neg (by omega), if_neg (by omega), if_neg (by omega)]
  refine pC_places n hn a2 (fun c => ?_) (fun c => ?_)
  · refine pR_places n hn a3 ?_ ?_ <;> intros <;> first | (exfalso; omega) | exact ⟨agr_rf _, hj⟩
  · refine pR_places n hn (rC_eqR e1 a3) ?_ ?_
    · intros; exfalso; omega
    · intro _
      refine ⟨agr_rf _, plcS S n, S1, S2, m, d, jO_put h (by omega) (ok_mono (by have := a1.1; omega) (ok_places c a1)) (kC_eqC e2 (kC_places a2)) (rC_places (rC_eqR e1 a3)) (fun k i hk => ?_) rfl rfl⟩
      simp only [bgnR]
      rw [if_neg (by omega), if_neg (by omega), if_neg (by omega)]
      simp only [plcC, smU, bgnC]
      rw [if_neg (by omega), if_neg (by omega), if_neg (by omega), if_neg (by omega), if_neg (by omega), if_neg (by omega)]
end
