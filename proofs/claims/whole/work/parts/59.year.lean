/-! years by draws -/
abbrev dq (x : Int) : Int := x.tmod 5
abbrev dw (x : Int) : Int := (x.tdiv 5).tmod 2
abbrev dr (S : sS) (x : Int) : Int := (x.tdiv 10).tmod (S 6 (x.tmod 5)) + 1
abbrev dt (x : Int) : Int := (x.tdiv 100).tmod 5 + 1
def drP (S : sS) (x : Int) : Prop := isT S (dq x) ∧ wyT S (dq x) (dr S x) 0
noncomputable def drB (S : sS) (x : Int) : Int := cI (drP S x)
noncomputable def drS (S : sS) (x : Int) : sS := @ite sS (drP S x) (Classical.propDecidable _) (thS S (dq x) (dw x) (dr S x) (dt x)) S
theorem drS_1 {S : sS} {x : Int} (h : drP S x) : drS S x = thS S (dq x) (dw x) (dr S x) (dt x) := by
  unfold drS
  exact if_pos h
theorem drS_0 {S : sS} {x : Int} (h : ¬ drP S x) : drS S x = S := by
  unfold drS
  exact if_neg h
theorem dx_in {x : Int} (h : 0 ≤ x ∧ x ≤ 65536) : (0 ≤ dq x ∧ dq x ≤ 4) ∧ (0 ≤ dw x ∧ dw x ≤ 1) ∧ (1 ≤ dt x ∧ dt x ≤ 5) ∧ (0 ≤ x.tdiv 10 ∧ x.tdiv 10 ≤ 65536) ∧ (0 ≤ x.tdiv 5 ∧ x.tdiv 5 ≤ 65536) ∧ (0 ≤ x.tdiv 100 ∧ x.tdiv 100 ≤ 65536) := by
  have e1 : x.tmod 5 = x % 5 := Int.tmod_eq_emod_of_nonneg h.1
  have e2 : x.tdiv 5 = x / 5 := Int.tdiv_eq_ediv_of_nonneg h.1
  have e3 : x.tdiv 10 = x / 10 := Int.tdiv_eq_ediv_of_nonneg h.1
  have e4 : x.tdiv 100 = x / 100 := Int.tdiv_eq_ediv_of_nonneg h.1
  have e5 : (x / 5).tmod 2 = x / 5 % 2 := Int.tmod_eq_emod_of_nonneg (by omega)
  have e6 : (x / 100).tmod 5 = x / 100 % 5 := Int.tmod_eq_emod_of_nonneg (by omega)
  unfold dq dw dt
  rw [e1, e2, e3, e4, e5, e6]
  omega
theorem dr_in {N : Int} {S : sS} {x : Int} (ho : okW N S) (h : 0 ≤ x ∧ x ≤ 65536) (ht : isT S (dq x)) : 1 ≤ dr S x ∧ dr S x ≤ S 6 (dq x) ∧ 1 ≤ S 6 (dq x) ∧ S 6 (dq x) ≤ 36 := by
  have d := dx_in h
  have o := ho.2.2.2.2.1 (dq x) ht.1 (by have := ht.2.1; omega)
  have o2 := o.2.2.2.2 ht.2.2
  have e1 : (x.tdiv 10).tmod (S 6 (x.tmod 5)) = x.tdiv 10 % S 6 (x.tmod 5) := Int.tmod_eq_emod_of_nonneg (by omega)
  have a1 := Int.emod_nonneg (x.tdiv 10) (show S 6 (x.tmod 5) ≠ 0 by unfold dq at o2; omega)
  have a2 := Int.emod_lt_of_pos (x.tdiv 10) (show 0 < S 6 (x.tmod 5) by unfold dq at o2; omega)
  unfold dr
  unfold dq at *
  rw [e1]
  omega
theorem drS_ok {N : Int} {S : sS} {x : Int} (ho : okW N S) (h : 0 ≤ x ∧ x ≤ 65536) : okW N (drS S x) := by
  by_cases c : drP S x
  · rw [drS_1 c]
    have d := dx_in h
    have r := dr_in ho h c.1
    exact thS_ok ho ⟨d.2.1, by omega, d.2.2.1⟩ c.2
  · rw [drS_0 c]; exact ho
def yrX (s : Int) : Nat → Int
  | 0 => s
  | k + 1 => (75 * yrX s k + 74).tmod 65537
theorem yrX_in {s : Int} (h : 0 ≤ s ∧ s ≤ 9999) : ∀ k : Nat, 0 ≤ yrX s k ∧ yrX s k ≤ 65536
  | 0 => by simp only [yrX]; omega
  | k + 1 => by
    have ih := yrX_in h k
    simp only [yrX]
    rw [Int.tmod_eq_emod_of_nonneg (by omega)]
    omega
noncomputable def yrS (S : sS) (s : Int) : Nat → sS
  | 0 => S
  | k + 1 => pM (drS (yrS S s k) (yrX s (k + 1)))
noncomputable def yrT (S : sS) (s : Int) : Nat → Int
  | 0 => 0
  | k + 1 => yrT S s k + drB (yrS S s k) (yrX s (k + 1))
noncomputable def yrC (S : sS) (s : Int) : Nat → Int
  | 0 => 0
  | k + 1 => yrC S s k + cL (cCa (drS (yrS S s k) (yrX s (k + 1)))) (mS (drS (yrS S s k) (yrX s (k + 1))))
theorem yrS_ok {N : Int} {S : sS} {s : Int} (ho : okW N S) (hN : 0 ≤ N) (h : 0 ≤ s ∧ s ≤ 9999) : ∀ k : Nat, okW (N + 12 * (k : Int)) (yrS S s k)
  | 0 => by
    rw [show N + 12 * ((0 : Nat) : Int) = N by omega]
    exact ho
  | k + 1 => by
    have ih := yrS_ok ho hN h k
    have := pM_ok (drS_ok ih (yrX_in h (k + 1))) (by omega)
    rw [show N + 12 * ((k + 1 : Nat) : Int) = N + 12 * (k : Int) + 12 by omega]
    exact this
def sm3 (S : sS) : Nat → Int
  | 0 => 0
  | n + 1 => sm3 S n + S 3 n
theorem sm3_9 {N : Int} {S : sS} (ho : okW N S) : ∀ d : Nat, (S 0 0).toNat + d ≤ 9 → sm3 S ((S 0 0).toNat + d) = sm3 S (S 0 0).toNat
  | 0, _ => rfl
  | d + 1, h => by
    have ih := sm3_9 ho d (by omega)
    have o := ho.2.2.2.1 ((((S 0 0).toNat + d : Nat)) : Int) (by omega) (by omega)
    have oP := ho.1
    show sm3 S ((S 0 0).toNat + d) + S 3 ((((S 0 0).toNat + d : Nat)) : Int) = _
    rw [ih, o.2.2.2.2 (by omega)]
    omega
noncomputable def yrF (S : sS) (s m w : Int) : Int := if w = 0 then yrT S s m.toNat else if w = 1 then yrC S s m.toNat else sm3 (yrS S s m.toNat) (S 0 0).toNat
theorem yrS_P (S : sS) (s : Int) : ∀ k : Nat, yrS S s k 0 0 = S 0 0
  | 0 => rfl
  | k + 1 => by
    have ih := yrS_P S s k
    show drS (yrS S s k) (yrX s (k + 1)) 0 0 = S 0 0
    by_cases c : drP (yrS S s k) (yrX s (k + 1))
    · rw [drS_1 c]; exact ih
    · rw [drS_0 c]; exact ih
section
variable {mem : smM} {Post : Option smV → smM → Prop} {N : Int} {S : sS}
theorem ru_drawThrow (x : Int) (hx : 0 ≤ x ∧ x ≤ 65536) (hk : wT mem S) (ho : okW N S) (hN : N ≤ 1002000) (h : ∀ m, wT m (drS S x) → kW mem m → Post (some (.inl (drB S x))) m) : smRun 72 [oR 9 79, .inl x] mem Post := by
  obtain ⟨kP, kT, kN, kp, kq, ki⟩ := id hk
  obtain ⟨oP, oT, oA, op, oq, oi⟩ := id ho
  have d := dx_in hx
  have no : ¬ drP S x → Post (some (.inl 0)) mem := by
    intro c
    have g := h mem
    unfold drB at g
    rw [drS_0 c, cI_0 c] at g
    exact g hk (fun _ _ _ => rfl)
  have d5 : 0 ≤ x.tmod 5 ∧ x.tmod 5 ≤ 4 := d.1
  have e5 : smIR (x.tmod 5) := by unfold smIR; omega
  have k1 := kq (x.tmod 5) (by omega) (by omega)
  have o1 := oq (x.tmod 5) (by omega) (by omega)
  refine smGo [24, 9999] 60 rfl ?_
  repeat' first
    | refine And.intro ?_ ?_
    | intro _
    | (show smRun _ _ _ _; first | with_reducible refine ru_hasPerson 79 _ e5 (fun _ _ w1 => ?_) (fun w1 => ?_))
  all_goals try omega
  · rw [kT] at w1
    have o2 := o1.2.2.2.2 w1
    have it : isT S (dq x) := ⟨d.1.1, d.1.2, w1⟩
    have r := dr_in ho hx it
    refine smAt [65, 9999] 60 rfl ?_
    repeat' first
      | refine And.intro ?_ ?_
      | intro _
    all_goals try omega
    rw [k1.2.1]
    refine ru_throwStone (x.tmod 5) (dw x) (dr S x) (dt x) e5 ⟨d.2.1, by omega, d.2.2.1⟩ hk ho hN (fun y m g1 g2 => ?_) (fun y y1 y2 => ?_)
    · have c : drP S x := ⟨it, y⟩
      have g := h m
      unfold drB at g
      rw [drS_1 c, cI_1 c] at g
      refine smAt [9999] 60 rfl ?_
      repeat' first
        | refine And.intro ?_ ?_
        | intro _
      all_goals try omega
      exact g g1 g2
    · have c : ¬ drP S x := fun z => y2 (wyT_uni y1 z.2)
      have yb : 0 ≤ y ∧ y ≤ 4 := by unfold wyT at y1; omega
      refine smAt [9999] 60 rfl ?_
      repeat' first
        | refine And.intro ?_ ?_
        | intro _
      all_goals try omega
      exact no c
  · rw [kT] at w1
    have o2 := o1.2.2.2.2 w1
    omega
  · rw [kT] at w1
    exact no (fun c => w1 c.1)
theorem ru_lostInAll (hk : wT mem S) (ho : okW N S) (h : Post (some (.inl (sm3 S (S 0 0).toNat))) mem) : smRun 71 [oR 9 79] mem Post := by
  obtain ⟨kP, kT, kN, kp, kq, ki⟩ := id hk
  obtain ⟨oP, oT, oA, op, oq, oi⟩ := id ho
  have loop : ∀ (f k : Nat), (k : Int) + f = S 0 0 → smWp 71 4 [some (oR 9 79), some (.inl (sm3 S k)), some (.inl (k : Int))] [] mem Post := by
    intro f
    induction f with
    | zero =>
      intro k hf
      rw [show (S 0 0).toNat = k by omega] at h
      refine smAt [4, 9999] 60 rfl ?_
      repeat' first
        | refine And.intro ?_ ?_
        | intro _
      all_goals try omega
      exact h
    | succ f ih =>
      intro k hf
      have g := ih (k + 1) (by omega)
      have k2 := (kp k (by omega) (by omega)).2.2
      simp only [sm3] at g
      rw [show ((k + 1 : Nat) : Int) = (k : Int) + 1 by omega, ← k2] at g
      refine smAt [4, 9999] 60 rfl ?_
      repeat' first
        | refine And.intro ?_ ?_
        | intro _
      all_goals try omega
      exact g
  refine smGo [4, 9999] 60 rfl ?_
  exact loop (S 0 0).toNat 0 (by omega)
theorem kW_keep {a b : smM} (h : kW a b) : keepC a b := ⟨fun k i hk => h k i (by omega), h 93 0 (by omega)⟩
set_option maxRecDepth 4000 in
theorem pC_year (s m w : Int) (hs : smIR s) (hm : smIR m) (hw : smIR w) (hk : kC mem S) (ho : ok N S) (h0 : ¬ ((0 ≤ s ∧ s ≤ 9999) ∧ (1 ≤ m ∧ m ≤ 99) ∧ (0 ≤ w ∧ w ≤ 2)) → Post (some (.inl (-2))) mem) (h1 : (0 ≤ s ∧ s ≤ 9999) ∧ (1 ≤ m ∧ m ≤ 99) ∧ (0 ≤ w ∧ w ≤ 2) → ∀ m', keepC mem m' → Post (some (.inl (yrF S s m w))) m') : smRun 110 [oR 10 0, .inl s, .inl m, .inl w] mem Post := by
  refine smGo [33, 9999] 60 rfl ?_
  repeat' first
    | refine And.intro ?_ ?_
    | intro _
    | (show smRun _ _ _ _; first | with_reducible refine ru_within _ _ _ hs ?_ ?_ ?_ ?_ | with_reducible refine ru_within _ _ _ hm ?_ ?_ ?_ ?_ | with_reducible refine ru_within _ _ _ hw ?_ ?_ ?_ ?_)
    | (show Post _ _; first | exact h0 (by omega))
  all_goals try omega
  have hh : (0 ≤ s ∧ s ≤ 9999) ∧ (1 ≤ m ∧ m ≤ 99) ∧ (0 ≤ w ∧ w ≤ 2) := by omega
  have h2 := h1 hh
  have hN := ho.1
  refine smAt [59, 9999] 60 rfl ?_
  refine ru_tW_79_2 hk.1 ho.2.1.2.2.1 (fun m1 v1 x1 => ?_)
  have oS := fun k => yrS_ok ho.2.1 (by omega) hh.1 k
  have xS := fun k => yrX_in hh.1 k
  have loop : ∀ (f k : Nat) (m' : smM), (k : Int) + f = m → wT m' (yrS S s k) → kW mem m' → smWp 110 59 [some (oR 10 0), some (.inl s), some (.inl m), some (.inl w), some (.inl (yrX s k)), some (.inl (yrT S s k)), some (.inl (yrC S s k)), some (.inl (k : Int))] [] m' Post := by
    intro f
    induction f with
    | zero =>
      intro k m' hf wt km
      have g := h2 m' (kW_keep km)
      unfold yrF at g
      rw [show m.toNat = k by omega] at g
      refine smAt [59, 9999] 60 rfl ?_
      repeat' first
        | refine And.intro ?_ ?_
        | intro _
      all_goals try omega
      · rw [if_neg (by omega), if_neg (by omega)] at g
        refine ru_lostInAll wt (oS k) ?_
        rw [yrS_P]
        exact g
      · rw [if_neg (by omega), if_pos (by omega)] at g; exact g
      · rw [if_pos (by omega)] at g; exact g
    | succ f ih =>
      intro k m' hf wt km
      have xk := xS k
      have xk1 := xS (k + 1)
      have ek : ((k + 1 : Nat) : Int) = (k : Int) + 1 := by omega
      have ex : yrX s (k + 1) = (75 * yrX s k + 74).tmod 65537 := rfl
      have ok1 := oS k
      have N2 : N + 12 * (k : Int) ≤ 1002000 := by omega
      refine smAt [59, 85, 9999] 60 rfl ?_
      repeat' first
        | refine And.intro ?_ ?_
        | intro _
      all_goals try omega
      rw [← ex]
      refine smAt [59, 101, 9999] 60 rfl ?_
      have tl : ∀ (m2 : smM) (b : Int), b = drB (yrS S s k) (yrX s (k + 1)) → wT m2 (drS (yrS S s k) (yrX s (k + 1))) → kW mem m2 → smWp 110 101 [some (oR 10 0), some (.inl s), some (.inl m), some (.inl w), some (.inl (yrX s (k + 1))), some (.inl (yrT S s k + b)), some (.inl (yrC S s k)), some (.inl (k : Int))] [] m2 Post := by
        intro m2 b hb wt2 km2
        subst hb
        refine smAt [59, 9999] 60 rfl ?_
        refine ru_passMinute wt2 (drS_ok ok1 xk1) (fun m3 wt3 k3 => ?_)
        have g := ih (k + 1) m3 (by omega) wt3 (fun k i z => (k3 k i z).trans (km2 k i z))
        rw [ek] at g
        exact g
      refine ru_drawThrow _ xk1 wt ok1 N2 (fun m2 wt2 k2 => ?_)
      have km2 : kW mem m2 := fun k i z => (k2 k i z).trans (km k i z)
      have t2 := tl m2 _ rfl wt2 km2
      rcases cI_in (drP (yrS S s k) (yrX s (k + 1))) with e | e
      · have e' : drB (yrS S s k) (yrX s (k + 1)) = 0 := e
        rw [e'] at t2 ⊢
        repeat' first
          | refine And.intro ?_ ?_
          | intro _
        all_goals try omega
        exact t2
      · have e' : drB (yrS S s k) (yrX s (k + 1)) = 1 := e
        rw [e'] at t2 ⊢
        repeat' first
          | refine And.intro ?_ ?_
          | intro _
        all_goals try omega
        exact t2
  exact loop m.toNat 0 m1 (by omega) v1 x1
end
