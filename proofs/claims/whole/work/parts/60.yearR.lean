/-! years, reference -/
section
variable {mem : smM} {Post : Option smV → smM → Prop} {N : Int} {S : sS}
theorem kV_keep {a b : smM} (h : kV a b) : keepR a b := ⟨fun k i hk => h k i (by omega) (by omega), fun j hj => h 114 j (by omega) (by omega)⟩
theorem kV_tr {a b c : smM} (h1 : kV a b) (h2 : kV b c) : kV a c := fun k i x y => (h2 k i x y).trans (h1 k i x y)
set_option maxRecDepth 4000 in
theorem pR_year (s m w : Int) (hs : smIR s) (hm : smIR m) (hw : smIR w) (hk : rC mem S) (ho : ok N S) (h0 : ¬ ((0 ≤ s ∧ s ≤ 9999) ∧ (1 ≤ m ∧ m ≤ 99) ∧ (0 ≤ w ∧ w ≤ 2)) → Post (some (.inl (-2))) mem) (h1 : (0 ≤ s ∧ s ≤ 9999) ∧ (1 ≤ m ∧ m ≤ 99) ∧ (0 ≤ w ∧ w ≤ 2) → ∀ m', keepR mem m' → Post (some (.inl (yrF S s m w))) m') : smRun 174 [oR 11 114, .inl s, .inl m, .inl w] mem Post := by
  refine smGo [33, 9999] 60 rfl ?_
  repeat' first
    | refine And.intro ?_ ?_
    | intro _
    | (show smRun _ _ _ _; first | with_reducible refine ru_in _ _ _ hs ?_ ?_ ?_ ?_ | with_reducible refine ru_in _ _ _ hm ?_ ?_ ?_ ?_ | with_reducible refine ru_in _ _ _ hw ?_ ?_ ?_ ?_)
    | (show Post _ _; first | exact h0 (by omega))
  all_goals try omega
  have hh : (0 ≤ s ∧ s ≤ 9999) ∧ (1 ≤ m ∧ m ≤ 99) ∧ (0 ≤ w ∧ w ≤ 2) := by omega
  have h2 := h1 hh
  have hN := ho.1
  refine smAt [46, 9999] 60 rfl ?_
  refine ru_asNowS hk ho (fun m1 v1 z1 x1 => ?_)
  have oS := fun k => yrS_ok ho.2.1 (by omega) hh.1 k
  have xS := fun k => yrX_in hh.1 k
  have sum : ∀ (m' : smM) (k : Nat), (k : Int) = m → wN m' (yrS S s k) → m' 114 24 = yrC S s k → keepR mem m' → ∀ (f p : Nat) (x8 : Option smV), p + f = 9 → smWp 174 154 [some (oR 11 114), some (.inl s), some (.inl m), some (.inl w), some (.inl (yrX s k)), some (.inl (yrT S s k)), some (.inl (sm3 (yrS S s k) p)), some (.inl (p : Int)), x8] [] m' Post := by
    intro m' k hkm wt hc kr f
    have g := h2 m' kr
    unfold yrF at g
    rw [show m.toNat = k by omega] at g
    have oP := (oS k).1
    have eP := yrS_P S s k
    induction f with
    | zero =>
      intro p x8 hf
      have e : p = 9 := by omega
      subst e
      refine smAt [154, 9999] 60 rfl ?_
      have e9 := sm3_9 (oS k) (9 - (yrS S s k 0 0).toNat) (by omega)
      rw [show (yrS S s k 0 0).toNat + (9 - (yrS S s k 0 0).toNat) = 9 by omega, eP] at e9
      repeat' first
        | refine And.intro ?_ ?_
        | intro _
      all_goals try omega
      · rw [if_neg (by omega), if_neg (by omega), ← e9] at g; exact g
      · rw [if_neg (by omega), if_pos (by omega), ← hc] at g; exact g
      · rw [if_pos (by omega)] at g; exact g
    | succ f ih =>
      intro p x8 hf
      have g2 := ih (p + 1) x8 (by omega)
      have k2 := (wt.2.2.2.1 p (by omega) (by omega)).2.2
      simp only [sm3] at g2
      rw [show ((p + 1 : Nat) : Int) = (p : Int) + 1 by omega, ← k2] at g2
      refine smAt [154, 9999] 60 rfl ?_
      repeat' first
        | refine And.intro ?_ ?_
        | intro _
      all_goals try omega
      exact g2
  have loop : ∀ (f k : Nat) (m' : smM) (x7 x8 : Option smV), (k : Int) + f = m → wN m' (yrS S s k) → m' 114 24 = yrC S s k → keepR mem m' → smWp 174 46 [some (oR 11 114), some (.inl s), some (.inl m), some (.inl w), some (.inl (yrX s k)), some (.inl (yrT S s k)), some (.inl (k : Int)), x7, x8] [] m' Post := by
    intro f
    induction f with
    | zero =>
      intro k m' x7 x8 hf wt hc kr
      refine smAt [46, 154, 9999] 60 rfl ?_
      repeat' first
        | refine And.intro ?_ ?_
        | intro _
      all_goals try omega
      exact sum m' k (by omega) wt hc kr 9 0 x8 (by omega)
    | succ f ih =>
      intro k m' x7 x8 hf wt hc kr
      have xk := xS k
      have xk1 := xS (k + 1)
      have ek : ((k + 1 : Nat) : Int) = (k : Int) + 1 := by omega
      have ex : yrX s (k + 1) = (75 * yrX s k + 74).tmod 65537 := rfl
      have ok1 := oS k
      have N2 : N + 12 * (k : Int) ≤ 1002000 := by omega
      have d := dx_in xk1
      have d5 : 0 ≤ (yrX s (k + 1)).tmod 5 ∧ (yrX s (k + 1)).tmod 5 ≤ 4 := d.1
      have e5 : smIR ((yrX s (k + 1)).tmod 5) := by unfold smIR; omega
      obtain ⟨kP, kT, kN, kp, kq, ki⟩ := id wt
      have k1 := kq ((yrX s (k + 1)).tmod 5) (by omega) (by omega)
      have o1 := ok1.2.2.2.2.1 ((yrX s (k + 1)).tmod 5) (by omega) (by omega)
      have tl : ∀ (m2 : smM) (b : Int) (y7 y8 : Option smV), b = drB (yrS S s k) (yrX s (k + 1)) → wN m2 (drS (yrS S s k) (yrX s (k + 1))) → m2 114 24 = yrC S s k → keepR mem m2 → smWp 174 138 [some (oR 11 114), some (.inl s), some (.inl m), some (.inl w), some (.inl (yrX s (k + 1))), some (.inl (yrT S s k + b)), some (.inl (k : Int)), y7, y8] [] m2 Post := by
        intro m2 b y7 y8 hb wt2 hc2 kr2
        subst hb
        refine smAt [46, 9999] 60 rfl ?_
        refine ru_pass wt2 (drS_ok ok1 xk1) (fun m3 wt3 hc3 k3 => ?_)
        have g := ih (k + 1) m3 y7 y8 (by omega) wt3 (by rw [hc3, hc2]; rfl) (keepR_tr kr2 (kV_keep k3))
        rw [ek] at g
        exact g
      have no : ¬ drP (yrS S s k) (yrX s (k + 1)) → ∀ y7 y8, smWp 174 138 [some (oR 11 114), some (.inl s), some (.inl m), some (.inl w), some (.inl (yrX s (k + 1))), some (.inl (yrT S s k)), some (.inl (k : Int)), y7, y8] [] m' Post := by
        intro c y7 y8
        have g := tl m' 0 y7 y8 (cI_0 c).symm (by rw [drS_0 c]; exact wt) hc kr
        rw [Int.add_zero] at g
        exact g
      refine smAt [46, 65, 9999] 60 rfl ?_
      repeat' first
        | refine And.intro ?_ ?_
        | intro _
      all_goals try omega
      rw [← ex]
      refine smAt [46, 101, 138, 9999] 60 rfl ?_
      repeat' first
        | refine And.intro ?_ ?_
        | intro _
        | (show smRun _ _ _ _; first | with_reducible refine ru_isThere _ e5 (fun _ _ w1 => ?_) (fun w1 => ?_))
      all_goals try omega
      · rw [kT] at w1
        have o2 := o1.2.2.2.2 w1
        omega
      · have w2 := w1
        rw [kT] at w2
        have o2 := o1.2.2.2.2 w2
        have it : isT (yrS S s k) (dq (yrX s (k + 1))) := ⟨d.1.1, d.1.2, w2⟩
        have r := dr_in ok1 xk1 it
        rw [k1.2.1]
        refine smAt [46, 109, 138, 9999] 60 rfl ?_
        refine ru_whyNot _ (dr (yrS S s k) (yrX s (k + 1))) e5 (by omega) wt ok1 N2 (fun y hy => ?_)
        have yb : 0 ≤ y ∧ y ≤ 4 := by unfold wyT at hy; omega
        refine smAt [46, 138, 9999] 60 rfl ?_
        repeat' first
          | refine And.intro ?_ ?_
          | intro _
        all_goals try omega
        · exact no (fun c => by have := wyT_uni hy c.2; omega) _ _
        · have y0 : y = 0 := by assumption
          rw [y0] at hy
          have c : drP (yrS S s k) (yrX s (k + 1)) := ⟨it, hy⟩
          refine ru_fling _ (dw (yrX s (k + 1))) (dr (yrS S s k) (yrX s (k + 1))) (dt (yrX s (k + 1))) hy wt ok1 (fun m2 wt2 hc2 k2 => ?_)
          repeat' first
            | refine And.intro ?_ ?_
            | intro _
          all_goals try omega
          exact tl m2 1 _ _ (cI_1 c).symm (by rw [drS_1 c]; exact wt2) (by rw [hc2]; exact hc) (keepR_tr kr (kV_keep k2))
      · rw [kT] at w1
        refine smAt [46, 109, 138, 9999] 60 rfl ?_
        refine ru_whyNot _ 1 e5 (by omega) wt ok1 N2 (fun y hy => ?_)
        have y1 : y = 1 := by
          unfold wyT isT at hy
          omega
        subst y1
        refine smAt [46, 138, 9999] 60 rfl ?_
        repeat' first
          | refine And.intro ?_ ?_
          | intro _
        all_goals try omega
        exact no (fun c => w1 c.1) _ _
  exact loop m.toNat 0 m1 none none (by omega) v1 z1 x1
theorem lw_year (s m w : Int) (hs : smIR s) (hm : smIR m) (hw : smIR w) (hN : N ≤ 900000) (h : jI N mem) : both N 110 174 [.inl s, .inl m, .inl w] mem := by
  have hj := jI_rf hN h
  obtain ⟨S, S1, S2, n, d, h⟩ := h
  obtain ⟨a1, a2, a3, -⟩ := id h
  have hM : N ≤ N + 1000 ∧ N + 1000 ≤ 1000000 := by have := a1.1; omega
  refine pC_year s m w hs hm hw a2 a1 (fun c => ?_) (fun c m1 g2 => ?_)
  · refine pR_year s m w hs hm hw a3 a1 (fun _ => ⟨agr_rf _, hj⟩) (fun z => absurd z c)
  · refine pR_year s m w hs hm hw (rC_eqR (keepC_eqR g2) a3) a1 (fun z => absurd c z) (fun _ m2 r2 => ?_)
    exact ⟨agr_rf _, S, S1, S2, n, d, jO_keep h hM g2 r2⟩
end
