/-! gets and keptOff, class: what is told -/
theorem shr_k {v : Int} (h : 0 ≤ v ∧ v ≤ 2147483647) : smShr v 1 = v / 2 ∧ smShr v 7 = v / 128 ∧ smShr v 10 = v / 1024 ∧ smShr v 13 = v / 8192 := by
  have r : smIR v := ⟨by omega, h.2⟩
  refine ⟨?_, ?_, ?_, ?_⟩
  · unfold smShr
    rw [pk_shr _ _ 1 (by decide), smIR_toInt r, Int.shiftRight_eq_div_pow]
    rfl
  · unfold smShr
    rw [pk_shr _ _ 7 (by decide), smIR_toInt r, Int.shiftRight_eq_div_pow]
    rfl
  · unfold smShr
    rw [pk_shr _ _ 10 (by decide), smIR_toInt r, Int.shiftRight_eq_div_pow]
    rfl
  · unfold smShr
    rw [pk_shr _ _ 13 (by decide), smIR_toInt r, Int.shiftRight_eq_div_pow]
    rfl
theorem and_k {v : Int} (h : 0 ≤ v ∧ v ≤ 2147483647) : smAnd v 1 = v % 2 ∧ smAnd v 7 = v % 8 ∧ smAnd v 63 = v % 64 := by
  obtain ⟨x, rfl⟩ := Int.eq_ofNat_of_zero_le h.1
  have a : ∀ b : Nat, smAnd (x : Int) (b : Int) = ((x &&& b : Nat) : Int) := fun b => nAnd x b (by omega)
  refine ⟨?_, ?_, ?_⟩
  · rw [show (1 : Int) = ((2 ^ 1 - 1 : Nat) : Int) from rfl, a, Nat.and_two_pow_sub_one_eq_mod]
    rfl
  · rw [show (7 : Int) = ((2 ^ 3 - 1 : Nat) : Int) from rfl, a, Nat.and_two_pow_sub_one_eq_mod]
    rfl
  · rw [show (63 : Int) = ((2 ^ 6 - 1 : Nat) : Int) from rfl, a, Nat.and_two_pow_sub_one_eq_mod]
    rfl
def loA (S : sS) (q w r t w' r' t' : Int) : Prop := gT S (S 5 q) w r t < gT S (S 5 q) w' r' t' ∨ (gT S (S 5 q) w r t = gT S (S 5 q) w' r' t' ∧ (t < t' ∨ (t = t' ∧ (r < r' ∨ (r = r' ∧ w ≤ w')))))
def loB (S : sS) (q w r t w' r' t' : Int) : Prop := t < t' ∨ (t = t' ∧ (gT S (S 5 q) w r t < gT S (S 5 q) w' r' t' ∨ (gT S (S 5 q) w r t = gT S (S 5 q) w' r' t' ∧ (r < r' ∨ (r = r' ∧ w ≤ w')))))
/-- what gets tells -/
def gtA (S : sS) (q o k x : Int) : Prop := (k = 0 ∧ x = gcR S q o 0 (S 6 q).toNat + gcR S q o 1 (S 6 q).toNat) ∨ (1 ≤ k ∧ (∀ w r t, ¬ gp S q o w r t) ∧ x = -6) ∨ (1 ≤ k ∧ ∃ w r t, gp S q o w r t ∧ (k ≤ 2 → ∀ w' r' t', gp S q o w' r' t' → loA S q w r t w' r' t') ∧ (3 ≤ k → ∀ w' r' t', gp S q o w' r' t' → loB S q w r t w' r' t') ∧ ((k = 1 ∨ k = 3) ∧ x = 1000 * w + 10 * r + t ∨ (k = 2 ∨ k = 4) ∧ x = (gT S (S 5 q) w r t : Int)))
theorem gtA_uni {S : sS} {q o k x y : Int} (h : gtA S q o k x) (g : gtA S q o k y) : x = y := by
  rcases h with ⟨h1, h2⟩ | ⟨h1, h2, h3⟩ | ⟨h1, w, r, t, h2, h3, h4, h5⟩ <;> rcases g with ⟨g1, g2⟩ | ⟨g1, g2, g3⟩ | ⟨g1, w', r', t', g2, g3, g4, g5⟩
  · rw [h2, g2]
  · omega
  · omega
  · omega
  · omega
  · exact absurd g2 (h2 w' r' t')
  · omega
  · exact absurd h2 (g2 w r t)
  · by_cases c : k ≤ 2
    · have a := h3 c w' r' t' g2
      have b := g3 c w r t h2
      unfold loA at a b
      omega
    · have a := h4 (by omega) w' r' t' g2
      have b := g4 (by omega) w r t h2
      unfold loB at a b
      omega
def kpX (S : sS) (q o p G : Int) : Prop := ∃ w r t, gp S q o w r t ∧ kpH S q p G w r t
/-- what keptOff tells -/
def kpA (S : sS) (q o k x : Int) : Prop := ((∀ w r t, ¬ gp S q o w r t) ∧ x = if k = 0 then 0 else -6) ∨ ((∃ w r t, gp S q o w r t) ∧ ((x = -6 ∧ ∀ G p, 1 ≤ G → G ≤ 5 → 0 ≤ p → p < S 0 0 → kpX S q o p G) ∨ ∃ G p, (1 ≤ G ∧ G ≤ 5) ∧ (0 ≤ p ∧ p < S 0 0) ∧ ¬ kpX S q o p G ∧ (∀ G' p', 1 ≤ G' → 0 ≤ p' → p' < S 0 0 → (G' < G ∨ (G' = G ∧ p' < p)) → kpX S q o p' G') ∧ x = if k = 0 then G else p))
theorem kpA_uni {S : sS} {q o k x y : Int} (h : kpA S q o k x) (g : kpA S q o k y) : x = y := by
  rcases h with ⟨h1, h2⟩ | ⟨⟨w, r, t, h1⟩, h2⟩ <;> rcases g with ⟨g1, g2⟩ | ⟨⟨w', r', t', g1⟩, g2⟩
  · rw [h2, g2]
  · exact absurd g1 (h1 w' r' t')
  · exact absurd h1 (g1 w r t)
  · rcases h2 with ⟨h2, h3⟩ | ⟨G, p, h2, h3, h4, h5, h6⟩ <;> rcases g2 with ⟨g2, g3⟩ | ⟨G', p', g2, g3, g4, g5, g6⟩
    · omega
    · exact absurd (h3 G' p' g2.1 g2.2 g3.1 g3.2) g4
    · exact absurd (g3 G p h2.1 h2.2 h3.1 h3.2) h4
    · have e : G = G' ∧ p = p' := by
        by_cases c1 : G < G' ∨ (G = G' ∧ p < p')
        · exact absurd (g5 G p h2.1 h3.1 h3.2 c1) h4
        · by_cases c2 : G' < G ∨ (G' = G ∧ p' < p)
          · exact absurd (h5 G' p' g2.1 g3.1 g3.2 c2) g4
          · omega
      rw [h6, g6, e.1, e.2]
def lnR (mem : smM) (n v : Int) : Prop := (v = -6 ∧ ∀ p, 0 ≤ p → p < n → 5 < mem 102 p) ∨ ((0 ≤ v ∧ v < n) ∧ mem 102 v ≤ 5 ∧ (∀ p, 0 ≤ p → p < n → mem 102 v ≤ mem 102 p) ∧ ∀ p, 0 ≤ p → p < v → mem 102 v < mem 102 p)
section
variable {mem : smM} {Post : Option smV → smM → Prop} {N : Int} {S : sS}
theorem ru_lowestNeed (n : Int) (hn : 4 ≤ n ∧ n ≤ 9) (hm : ∀ p, 0 ≤ p → p < 9 → 0 ≤ mem 102 p ∧ mem 102 p ≤ 1000001) (h : ∀ v, lnR mem n v → Post (some (.inl v)) mem) : smRun 8 [oR 0 101, .inl n] mem Post := by
  have loop : ∀ (f : Nat) (j v : Int), j + f = n → 0 ≤ j → lnR mem j v → smWp 8 5 [some (oR 0 101), some (.inl n), some (.inl v), some (.inl j)] [] mem Post := by
    intro f
    induction f with
    | zero =>
      intro j v hf h0 hl
      refine smAt [5, 9999] 60 rfl ?_
      repeat' first
        | refine And.intro ?_ ?_
        | intro _
      all_goals try omega
      rw [show j = n by omega] at hl
      exact h v hl
    | succ f ih =>
      intro j v hf h0 hl
      have m1 := hm j h0 (by omega)
      have vb : v = -6 ∨ (0 ≤ v ∧ v < j) := by
        rcases hl with z | z
        · exact Or.inl z.1
        · exact Or.inr z.1
      have no : (5 < mem 102 j ∨ (0 ≤ v ∧ mem 102 v ≤ mem 102 j)) → lnR mem (j + 1) v := by
        intro c
        rcases hl with ⟨z1, z2⟩ | ⟨z1, z2, z3, z4⟩
        · refine Or.inl ⟨z1, fun p x y => ?_⟩
          by_cases d : p = j
          · rw [d]; omega
          · exact z2 p x (by omega)
        · refine Or.inr ⟨by omega, z2, fun p x y => ?_, z4⟩
          by_cases d : p = j
          · rw [d]; omega
          · exact z3 p x (by omega)
      have yes : mem 102 j ≤ 5 → (v = -6 ∨ mem 102 j < mem 102 v) → lnR mem (j + 1) j := by
        intro c1 c2
        have lt : ∀ p, 0 ≤ p → p < j → mem 102 j < mem 102 p := by
          intro p x y
          rcases hl with ⟨z1, z2⟩ | ⟨z1, z2, z3, z4⟩
          · have := z2 p x y
            omega
          · have := z3 p x y
            omega
        refine Or.inr ⟨by omega, c1, fun p x y => ?_, lt⟩
        by_cases d : p = j
        · rw [d]; exact Int.le_refl _
        · have := lt p x (by omega)
          omega
      by_cases cv : v = -6
      · refine smAt [5, 9999] 60 rfl ?_
        repeat' first
          | refine And.intro ?_ ?_
          | intro _
        all_goals try omega
        · exact ih (j + 1) v (by omega) (by omega) (no (by omega))
        · exact ih (j + 1) j (by omega) (by omega) (yes (by omega) (Or.inl cv))
      · have m2 := hm v (by omega) (by omega)
        refine smAt [5, 9999] 60 rfl ?_
        repeat' first
          | refine And.intro ?_ ?_
          | intro _
        all_goals try omega
        · exact ih (j + 1) v (by omega) (by omega) (no (by omega))
        · exact ih (j + 1) v (by omega) (by omega) (no (by omega))
        · exact ih (j + 1) j (by omega) (by omega) (yes (by omega) (by omega))
  refine smGo [5, 9999] 60 rfl ?_
  exact loop n.toNat 0 (-6) (by omega) (by omega) (Or.inl ⟨rfl, fun p x y => by omega⟩)
theorem ru_tellThrow (v t : Int) (h : Post (some (.inl (1000 * smAnd v 1 + 10 * smAnd (smShr v 1) 63 + t))) mem) : smRun 9 [.inl v, .inl t] mem Post := by
  refine smGo [] 60 rfl ?_
  exact h
theorem ru_tellBest (q o k : Int) (hk : 0 ≤ k ∧ k ≤ 4) (a36 : S 6 q ≤ 36) (hc : mem 101 0 = gcR S q o 0 (S 6 q).toNat + gcR S q o 1 (S 6 q).toNat) (hi : sI S q (gp S q o) mem) (h : ∀ x, gtA S q o k x → Post (some (.inl x)) mem) : smRun 10 [oR 0 101, .inl k] mem Post := by
  have g0 := gcR_in S q o 0 (S 6 q).toNat
  have g1 := gcR_in S q o 1 (S 6 q).toNat
  have z0 := gcR_0 S q o 0 (S 6 q).toNat
  have z1 := gcR_0 S q o 1 (S 6 q).toNat
  have cz : mem 101 0 = 0 ↔ ∀ w r t, ¬ gp S q o w r t := by
    constructor
    · intro c w r t z
      have zz := z.1
      rcases (show w = 0 ∨ w = 1 by omega) with e | e
      · subst e
        exact z0.mp (by omega) r t (by omega) (by omega) (by omega) (by omega) z.2
      · subst e
        exact z1.mp (by omega) r t (by omega) (by omega) (by omega) (by omega) z.2
    · intro c
      rw [hc, z0.mpr (fun r t a b d e z => c 0 r t ⟨⟨by omega, by omega, by omega⟩, z⟩), z1.mpr (fun r t a b d e z => c 1 r t ⟨⟨by omega, by omega, by omega⟩, z⟩)]
      rfl
  by_cases c0 : k = 0
  · subst c0
    refine smGo [9999] 60 rfl ?_
    repeat' first
      | refine And.intro ?_ ?_
      | intro _
      | exact trivial
    all_goals try omega
    exact h _ (Or.inl ⟨rfl, hc⟩)
  by_cases cn : mem 101 0 = 0
  · refine smGo [9999] 60 rfl ?_
    repeat' first
      | refine And.intro ?_ ?_
      | intro _
      | exact trivial
    all_goals try omega
    exact h _ (Or.inr (Or.inl ⟨by omega, cz.mp cn, rfl⟩))
  have ex : ¬ ∀ w r t, ¬ gp S q o w r t := fun z => cn (cz.mpr z)
  obtain ⟨hA, hB, -⟩ := hi
  rcases hA with ⟨_, hA⟩ | ⟨w, r, t, a1, a2, a3⟩
  · exact absurd hA ex
  rcases hB with ⟨_, hB⟩ | ⟨w', r', t', b1, b2, b3⟩
  · exact absurd hB ex
  have gi := gT_in (S := S) (p := S 5 q) (w := w) (r := r) (t := t)
  have gj := gT_in (S := S) (p := S 5 q) (w := w') (r := r') (t := t')
  have ra := a1.1
  have rb := b1.1
  have loa : ∀ w' r' t', gp S q o w' r' t' → loA S q w r t w' r' t' := by
    intro x y z u
    have l := a3 x y z u
    have ux := u.1
    rw [a2] at l
    unfold eA at l
    unfold loA
    omega
  have lob : ∀ x y z, gp S q o x y z → loB S q w' r' t' x y z := by
    intro x y z u
    have l := b3 x y z u
    have ux := u.1
    have gk := gT_in (S := S) (p := S 5 q) (w := x) (r := y) (t := z)
    rw [b2] at l
    unfold eB at l
    unfold loB
    omega
  unfold eA at a2
  unfold eB at b2
  have rv : 0 ≤ mem 101 3 ∧ mem 101 3 ≤ 2147483647 := by omega
  have rw' : 0 ≤ mem 101 4 ∧ mem 101 4 ≤ 2147483647 := by omega
  have sa := shr_k rv
  have sb := shr_k rw'
  have ta := and_k rv
  have tb := and_k rw'
  have ta1 := and_k (v := smShr (mem 101 3) 1) (by omega)
  have ta7 := and_k (v := smShr (mem 101 3) 7) (by omega)
  have tb1 := and_k (v := smShr (mem 101 4) 1) (by omega)
  have tb7 := and_k (v := smShr (mem 101 4) 7) (by omega)
  refine smGo [9999] 60 rfl ?_
  repeat' first
    | refine And.intro ?_ ?_
    | intro _
    | (show smRun _ _ _ _; first | with_reducible refine ru_tellThrow _ _ ?_)
    | exact trivial
  all_goals try omega
  · exact h _ (Or.inr (Or.inr ⟨by omega, w', r', t', b1, fun z => by omega, fun _ => lob, Or.inr ⟨by omega, by omega⟩⟩))
  · exact h _ (Or.inr (Or.inr ⟨by omega, w, r, t, a1, fun _ => loa, fun z => by omega, Or.inl ⟨by omega, by omega⟩⟩))
  · exact h _ (Or.inr (Or.inr ⟨by omega, w, r, t, a1, fun _ => loa, fun z => by omega, Or.inr ⟨by omega, by omega⟩⟩))
  · exact h _ (Or.inr (Or.inr ⟨by omega, w', r', t', b1, fun z => by omega, fun _ => lob, Or.inl ⟨by omega, by omega⟩⟩))
abbrev twoT (S : sS) (q o : Int) : Prop := (0 ≤ q ∧ q ≤ 4 ∧ bB (S 4 0) q) ∧ (0 ≤ o ∧ o ≤ 4 ∧ bB (S 4 0) o)
set_option maxRecDepth 4000 in
theorem pC_gets (q o k : Int) (hq : smIR q) (ho1 : smIR o) (hkk : smIR k) (hk : kC mem S) (ho : ok N S) (h0 : ¬ twoT S q o → Post (some (.inl (-1))) mem) (h1 : twoT S q o → ¬ (0 ≤ k ∧ k ≤ 4) → Post (some (.inl (-2))) mem) (h2 : twoT S q o → 0 ≤ k ∧ k ≤ 4 → ∀ x m', gtA S q o k x → keepC mem m' → Post (some (.inl x)) m') : smRun 90 [oR 10 0, .inl q, .inl o, .inl k] mem Post := by
  obtain ⟨⟨kP, kT, kN, kp, kq, ki⟩, ⟨kB, kb⟩, ⟨kS, ks⟩⟩ := id hk
  unfold twoT at h0 h1 h2
  rw [← kT] at h0 h1 h2
  refine smGo [42, 9999] 60 rfl ?_
  repeat' first
    | refine And.intro ?_ ?_
    | intro _
    | (show smRun _ _ _ _; first | with_reducible refine ru_hasPerson 2 _ hq ?_ ?_ | with_reducible refine ru_hasPerson 2 _ ho1 ?_ ?_ | with_reducible refine ru_within _ _ _ hkk ?_ ?_ ?_ ?_)
    | (show Post _ _; first | exact h0 (by omega) | exact h1 (by omega) (by omega))
  all_goals try omega
  have tw : twoT S q o := ⟨⟨by omega, by omega, by rw [← kT]; assumption⟩, ⟨by omega, by omega, by rw [← kT]; assumption⟩⟩
  have o5 := ho.2.1.2.2.2.2.1 q (by omega) (by omega)
  refine smAt [9999] 60 rfl ?_
  refine ru_lookS hk.1 ho.2.1 (fun m1 s1 e1 => ?_)
  refine ru_search q o tw.1 (by omega) (kC_keep e1 hk) ho s1 (fun m k2 hc hi => ?_)
  refine ru_tellBest q o k (by omega) o5.2.1.2 hc hi (fun x hx => ?_)
  exact h2 (by omega) (by omega) x m hx (keepC_tr e1 (kA_keep k2))
set_option maxRecDepth 4000 in
theorem pC_keptOff (q o k : Int) (hq : smIR q) (ho1 : smIR o) (hkk : smIR k) (hk : kC mem S) (ho : ok N S) (h0 : ¬ twoT S q o → Post (some (.inl (-1))) mem) (h1 : twoT S q o → ¬ (0 ≤ k ∧ k ≤ 1) → Post (some (.inl (-2))) mem) (h2 : twoT S q o → 0 ≤ k ∧ k ≤ 1 → ∀ x m', kpA S q o k x → keepC mem m' → Post (some (.inl x)) m') : smRun 94 [oR 10 0, .inl q, .inl o, .inl k] mem Post := by
  obtain ⟨⟨kP, kT, kN, kp, kq, ki⟩, ⟨kB, kb⟩, ⟨kS, ks⟩⟩ := id hk
  unfold twoT at h0 h1 h2
  rw [← kT] at h0 h1 h2
  refine smGo [42, 9999] 60 rfl ?_
  repeat' first
    | refine And.intro ?_ ?_
    | intro _
    | (show smRun _ _ _ _; first | with_reducible refine ru_hasPerson 2 _ hq ?_ ?_ | with_reducible refine ru_hasPerson 2 _ ho1 ?_ ?_ | with_reducible refine ru_within _ _ _ hkk ?_ ?_ ?_ ?_)
    | (show Post _ _; first | exact h0 (by omega) | exact h1 (by omega) (by omega))
  all_goals try omega
  have tw : twoT S q o := ⟨⟨by omega, by omega, by rw [← kT]; assumption⟩, ⟨by omega, by omega, by rw [← kT]; assumption⟩⟩
  have o5 := ho.2.1.2.2.2.2.1 q (by omega) (by omega)
  have oP := ho.2.1.1
  refine smAt [81, 9999] 60 rfl ?_
  refine ru_lookS hk.1 ho.2.1 (fun m1 s1 e1 => ?_)
  refine ru_search q o tw.1 (by omega) (kC_keep e1 hk) ho s1 (fun m k2 hc hi => ?_)
  have kk := keepC_tr e1 (kA_keep k2)
  have h3 := fun x hx => h2 (by omega) (by omega) x m hx kk
  have g0 := gcR_in S q o 0 (S 6 q).toNat
  have g1 := gcR_in S q o 1 (S 6 q).toNat
  have z0 := gcR_0 S q o 0 (S 6 q).toNat
  have z1 := gcR_0 S q o 1 (S 6 q).toNat
  have kP2 : m 2 0 = S 0 0 := (kC_keep kk hk).1.1
  by_cases cn : m 101 0 = 0
  · have nn : ∀ w r t, ¬ gp S q o w r t := by
      intro w r t z
      have zz := z.1
      rcases (show w = 0 ∨ w = 1 by omega) with e | e
      · subst e
        exact z0.mp (by omega) r t (by omega) (by omega) (by omega) (by omega) z.2
      · subst e
        exact z1.mp (by omega) r t (by omega) (by omega) (by omega) (by omega) z.2
    refine smAt [102, 9999] 60 rfl ?_
    repeat' first
      | refine And.intro ?_ ?_
      | intro _
    all_goals try omega
    · exact h3 _ (Or.inl ⟨nn, by rw [if_neg (by omega)]⟩)
    · exact h3 _ (Or.inl ⟨nn, by rw [if_pos (by omega)]⟩)
  · have ex : ∃ w r t, gp S q o w r t := by
      refine Classical.byContradiction (fun d => cn ?_)
      have nn : ∀ w r t, ¬ gp S q o w r t := fun w r t z => d ⟨w, r, t, z⟩
      rw [hc, z0.mpr (fun r t a b d e z => nn 0 r t ⟨⟨by omega, by omega, by omega⟩, z⟩), z1.mpr (fun r t a b d e z => nn 1 r t ⟨⟨by omega, by omega, by omega⟩, z⟩)]
      rfl
    have kx : ∀ p, 0 ≤ p → p < 9 → ∀ G, 0 ≤ G → G ≤ 5 → (G < m 102 p ↔ kpX S q o p G) := fun p x y => (hi.2.2 p x y).2
    have pos : ∀ p, 0 ≤ p → p < 9 → 0 < m 102 p := by
      intro p x y
      rw [kx p x y 0 (by omega) (by omega)]
      obtain ⟨w, r, t, z⟩ := ex
      refine ⟨w, r, t, z, fun j a b c => ?_⟩
      have zz := z.1
      have ir := gT_r (S := S) (p := S 5 q) (w := w) (t := t) (show 1 ≤ r ∧ r ≤ 36 by omega)
      exact (fH_in (by omega) (by omega)).1
    refine smAt [102, 9999] 60 rfl ?_
    repeat' first
      | refine And.intro ?_ ?_
      | intro _
    all_goals try omega
    refine smAt [9999] 60 rfl ?_
    refine ru_lowestNeed (m 2 0) (by omega) (fun p x y => (hi.2.2 p x y).1) (fun v hv => ?_)
    rw [kP2] at hv
    rcases hv with ⟨v1, v2⟩ | ⟨v1, v2, v3, v4⟩
    · subst v1
      repeat' first
        | refine And.intro ?_ ?_
        | intro _
      all_goals try omega
      refine h3 _ (Or.inr ⟨ex, Or.inl ⟨rfl, fun G p a b c d => ?_⟩⟩)
      have := v2 p c d
      exact (kx p c (by omega) G (by omega) b).mp (by omega)
    · have p1 := pos v v1.1 (by omega)
      have fin : ∀ x, (x = if k = 0 then m 102 v else v) → Post (some (.inl x)) m := by
        intro x hx
        refine h3 x (Or.inr ⟨ex, Or.inr ⟨m 102 v, v, by omega, v1, ?_, fun G' p' a b c d => ?_, hx⟩⟩)
        · rw [← kx v v1.1 (by omega) (m 102 v) (by omega) v2]
          omega
        · rw [← kx p' b (by omega) G' (by omega) (by omega)]
          rcases d with d | d
          · have := v3 p' b c
            omega
          · have := v4 p' b d.2
            omega
      repeat' first
        | refine And.intro ?_ ?_
        | intro _
      all_goals try omega
      · exact fin _ (by rw [if_neg (by omega)])
      · exact fin _ (by rw [if_pos (by omega)])
end
