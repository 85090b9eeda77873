/-! a minute passes: reference, all of it -/
def fld (x : St) (c : Int) : Int := if c = 0 then x.1 else if c = 1 then x.2.1 else if c = 2 then x.2.2.1 else if c = 3 then x.2.2.2.1 else x.2.2.2.2
theorem aQ_fld {m : smM} {j : Nat} {x : St} : aQ m j x ↔ ∀ c, 0 ≤ c → c < 5 → m 131 (5 * (j : Int) + c) = fld x c := by
  constructor
  · rintro ⟨a1, a2, a3, a4, a5⟩ c h0 h1
    have hc : c = 0 ∨ c = 1 ∨ c = 2 ∨ c = 3 ∨ c = 4 := by omega
    rcases hc with e | e | e | e | e
    · rw [e, Int.add_zero]; exact a1
    · rw [e]; exact a2
    · rw [e]; exact a3
    · rw [e]; exact a4
    · rw [e]; exact a5
  · intro h
    have h0 := h 0 (by decide) (by decide)
    rw [Int.add_zero] at h0
    exact ⟨h0, h 1 (by decide) (by decide), h 2 (by decide) (by decide), h 3 (by decide) (by decide), h 4 (by decide) (by decide)⟩
def kV (mem mem' : smM) : Prop := ∀ k i, (k < 126 ∨ 132 < k) → (k = 114 → i ≠ 22 ∧ i ≠ 24) → mem' k i = mem k i
theorem fS_eq (S : sS) : fS S = (mS S).filter (fun x => !(fll (kS S) x) && kp1 S x) := by
  unfold fS
  conv => lhs; arg 2; unfold kS
  rw [List.filter_filter]
theorem cFp_eq (S : sS) (p : Int) : cL (cFp (kS S) p) (kS S) = cL (fun x => kp1 S x && cFp (kS S) p x) (mS S) := by
  conv => lhs; arg 2; unfold kS
  rw [cL_flt]
section
variable {mem : smM} {Post : Option smV → smM → Prop} {N : Int} {S : sS}
set_option maxRecDepth 4000 in
theorem ru_cp (i kept : Nat) (x : St) (x4 : Option smV) (hi : i < 12) (hk : kept ≤ i) (ha : aQ mem i x) (K : ∀ m, aQ m kept x → (∀ k q, k ≠ 131 ∨ q < 5 * (kept : Int) ∨ 5 * (kept : Int) + 5 ≤ q → m k q = mem k q) → smWp 135 252 [some (oR 11 114), some (.inl (kept : Int)), some (.inl (i : Int)), some (.inl 5), x4] [] m Post) : smWp 135 221 [some (oR 11 114), some (.inl (kept : Int)), some (.inl (i : Int)), some (.inl 0), x4] [] mem Post := by
  have loop : ∀ (f : Nat) (c : Int) (m : smM), c + f = 5 → 0 ≤ c → (∀ d, 0 ≤ d → d < c → m 131 (5 * (kept : Int) + d) = fld x d) → (∀ d, c ≤ d → d < 5 → m 131 (5 * (i : Int) + d) = fld x d) → (∀ k q, k ≠ 131 ∨ q < 5 * (kept : Int) ∨ 5 * (kept : Int) + 5 ≤ q → m k q = mem k q) → smWp 135 221 [some (oR 11 114), some (.inl (kept : Int)), some (.inl (i : Int)), some (.inl c), x4] [] m Post := by
    intro f
    induction f with
    | zero =>
      intro c m hf c0 h1 h2 hx
      have e : c = 5 := by omega
      subst e
      refine smAt [221, 252, 9999] 60 rfl ?_
      repeat' first
        | refine And.intro ?_ ?_
        | intro _
      all_goals try omega
      exact K m (aQ_fld.mpr h1) hx
    | succ f ih =>
      intro c m hf c0 h1 h2 hx
      refine smAt [221, 252, 9999] 60 rfl ?_
      repeat' first
        | refine And.intro ?_ ?_
        | intro _
      all_goals try omega
      refine ih (c + 1) _ (by omega) (by omega) (fun d d0 d1 => ?_) (fun d d0 d1 => ?_) (fun k q z => ?_)
      · by_cases e : d = c
        · rw [e, smU_s]; exact h2 c (by omega) (by omega)
        · rw [smU_o (by omega)]; exact h1 d d0 (by omega)
      · rw [smU_o (by omega)]; exact h2 d (by omega) d1
      · rw [smU_o (by omega)]; exact hx k q z
  exact loop 5 0 mem (by omega) (by omega) (fun d d0 d1 => by omega) (fun d d0 d1 => aQ_fld.mp ha d d0 d1) (fun _ _ _ => rfl)
set_option maxRecDepth 4000 in
theorem ru_pass (hk : wN mem S) (ho : okW N S) (h : ∀ m, wN m (pM S) → m 114 24 = mem 114 24 + cL (cCa S) (mS S) → kV mem m → Post none m) : smRun 135 [oR 11 114] mem Post := by
  obtain ⟨kP, kT, kN, kp, kq, ki⟩ := id hk
  obtain ⟨oP, oT, oA, op, oq, oi⟩ := id ho
  have ll := lS_len (S := S) oA.1
  have ml := mS_len (S := S)
  have kl := kS_len (S := S)
  have fl := fS_len (S := S)
  have l12 : (mS S).length ≤ 12 := by omega
  have oks := mS_ok ho
  -- the last: those that are left
  have last : ∀ (m0 : smM), m0 114 22 = ((mS S).length : Int) → lQ m0 (mS S) → (∀ (j : Nat) (x : St), (mS S)[j]? = some x → m0 132 j = gB1 (fun x => !(fll (kS S) x) && kp1 S x) x) → (∀ m, lQ m (fS S) → m 114 22 = ((fS S).length : Int) → (∀ k i, k ≠ 131 → (k = 114 → i ≠ 22) → m k i = m0 k i) → Post none m) → ∀ (f i : Nat) (m : smM) (x3 x4 : Option smV), i + f = (mS S).length → lQ m (((mS S).take i).filter (fun x => !(fll (kS S) x) && kp1 S x)) → (∀ (j : Nat) (x : St), i ≤ j → (mS S)[j]? = some x → aQ m j x) → (∀ k i, k ≠ 131 → m k i = m0 k i) → smWp 135 202 [some (oR 11 114), some (.inl ((((mS S).take i).filter (fun x => !(fll (kS S) x) && kp1 S x)).length : Int)), some (.inl (i : Int)), x3, x4] [] m Post := by
    intro m0 hc _ hg K f
    induction f with
    | zero =>
      intro i m x3 x4 hf h1 h2 hx
      have e : (mS S).take i = mS S := List.take_of_length_le (by omega)
      have e22 : m 114 22 = ((mS S).length : Int) := by rw [hx 114 22 (by decide)]; exact hc
      rw [e, ← fS_eq] at h1 ⊢
      refine smAt [202, 221, 9999] 60 rfl ?_
      repeat' first
        | refine And.intro ?_ ?_
        | intro _
      all_goals try omega
      exact K _ (fun j x gx => h1 j x gx) rfl (fun k q z1 z2 => by rw [smU_o (by omega)]; exact hx k q z1)
    | succ f ih =>
      intro i m x3 x4 hf h1 h2 hx
      obtain ⟨x, gx⟩ := ge_s (show i < (mS S).length by omega)
      have e22 : m 114 22 = ((mS S).length : Int) := by rw [hx 114 22 (by decide)]; exact hc
      have ax := h2 i x (Nat.le_refl i) gx
      have gg := hg i x gx
      have g2 := gB1_in (fun x => !(fll (kS S) x) && kp1 S x) x
      have e132 : m 132 i = m0 132 i := hx 132 i (by decide)
      have ei : ((i + 1 : Nat) : Int) = (i : Int) + 1 := by omega
      have lk : (((mS S).take i).filter (fun x => !(fll (kS S) x) && kp1 S x)).length ≤ i := by
        have q1 := List.length_filter_le (fun x => !(fll (kS S) x) && kp1 S x) ((mS S).take i)
        have q2 : ((mS S).take i).length ≤ i := by rw [List.length_take]; omega
        omega
      refine smAt [202, 221, 9999] 60 rfl ?_
      repeat' first
        | refine And.intro ?_ ?_
        | intro _
      all_goals try omega
      · have gf : ¬ (fun x => !(fll (kS S) x) && kp1 S x) x = true := by
          rcases g2 with z | z
          · omega
          · exact fun q => Bool.false_ne_true (z.2.symm.trans q)
        have ke : ((mS S).take (i + 1)).filter (fun x => !(fll (kS S) x) && kp1 S x) = ((mS S).take i).filter (fun x => !(fll (kS S) x) && kp1 S x) := by rw [ft_tk _ gx, if_neg gf, List.append_nil]
        have gd := ih (i + 1) m x3 x4 (by omega) (by rw [ke]; exact h1) (fun j y hj gy => h2 j y (by omega) gy) hx
        rw [ei, ke] at gd; exact gd
      · have gt : (fun x => !(fll (kS S) x) && kp1 S x) x = true := by
          rcases g2 with z | z
          · exact z.2
          · omega
        have ke : ((mS S).take (i + 1)).filter (fun x => !(fll (kS S) x) && kp1 S x) = ((mS S).take i).filter (fun x => !(fll (kS S) x) && kp1 S x) ++ [x] := by rw [ft_tk _ gx, if_pos gt]
        refine ru_cp i _ x x4 (by omega) lk ax (fun m2 b1 bx => ?_)
        refine smAt [202, 9999] 60 rfl ?_
        have gd := ih (i + 1) m2 (some (.inl 5)) x4 (by omega) ?_ (fun j y hj gy => ?_) (fun k q z => by rw [bx k q (Or.inl z)]; exact hx k q z)
        · rw [ei, ke, List.length_append, List.length_singleton, Int.natCast_add] at gd; exact gd
        · rw [ke]
          intro j y gy
          rcases ap_ge gy with z | ⟨z1, z2⟩
          · have lj := ge_lt z
            rw [aQ_fld]
            intro c c0 c1
            rw [bx _ _ (by omega)]
            exact aQ_fld.mp (h1 j y z) c c0 c1
          · rw [z1, z2]; exact b1
        · have b := h2 j y (by omega) gy
          rw [aQ_fld] at b ⊢
          intro c c0 c1
          rw [bx _ _ (by omega)]
          exact b c c0 c1
  -- hedges and hands
  have mid : ∀ (m0 : smM), m0 114 22 = ((mS S).length : Int) → lQ m0 (mS S) → m0 114 24 = mem 114 24 → (∀ k i, k ≠ 131 → k ≠ 132 → m0 k i = mem k i) → ∀ (f i : Nat) (m : smM) (x2 x3 x4 : Option smV), i + f = (mS S).length → (∀ (j : Nat) (x : St), j < i → (mS S)[j]? = some x → m 132 j = gB1 (kp1 S) x) → (∀ (j : Nat), i ≤ j → j < (mS S).length → m 132 j = 0) → (∀ p, m 130 p = mem 130 p + cL (cHp S p) ((mS S).take i)) → (∀ q, 0 ≤ q → (m 127 q = mem 127 q + cL (cCq S q) ((mS S).take i) ∧ m 128 q = mem 128 q + cL (cCq S q) ((mS S).take i))) → m 114 24 = mem 114 24 + cL (cCa S) ((mS S).take i) → (∀ k i, k ≠ 127 → k ≠ 128 → k ≠ 130 → k ≠ 132 → (k = 114 → i ≠ 24) → m k i = m0 k i) → smWp 135 69 [some (oR 11 114), some (.inl (i : Int)), x2, x3, x4] [] m Post := by
    intro m0 hc hl0 hcat hx0 f
    induction f with
    | zero =>
      intro i m x2 x3 x4 hf h1 h1' h3 h4 h5 hx
      have e : (mS S).take i = mS S := List.take_of_length_le (by omega)
      rw [e] at h3 h4 h5
      have e22 : m 114 22 = ((mS S).length : Int) := by rw [hx 114 22 (by decide) (by decide) (by decide) (by decide) (by decide)]; exact hc
      have lqm : lQ m (mS S) := by
        intro j x gx
        have b := hl0 j x gx
        rw [aQ_fld] at b ⊢
        intro c c0 c1
        rw [hx 131 _ (by decide) (by decide) (by decide) (by decide) (by omega)]
        exact b c c0 c1
      refine smAt [69, 202, 9999] 60 rfl ?_
      repeat' first
        | refine And.intro ?_ ?_
        | intro _
      all_goals try omega
      refine ru_fall (S 0 0) oP (kp1 S) (mS S) e22 l12 oks lqm (fun j x gx => h1 j x (by have := ge_lt gx; omega) gx) (fun m1 f1 f2 f3 => ?_)
      have lq1 : lQ m1 (mS S) := by
        intro j x gx
        have b := lqm j x gx
        rw [aQ_fld] at b ⊢
        intro c c0 c1
        rw [f3 131 _ (by decide) (by decide)]
        exact b c c0 c1
      refine last m1 (by rw [f3 114 22 (by decide) (by decide)]; exact e22) lq1 f2 (fun m2 l2 c2 x2 => ?_) (mS S).length 0 m1 _ _ (by omega) (fun j x gx => by simp at gx) (fun j x _ => lq1 j x) (fun _ _ _ => rfl)
      have down : ∀ k i, k ≠ 127 → k ≠ 128 → k ≠ 129 → k ≠ 130 → k ≠ 131 → k ≠ 132 → (k = 114 → i ≠ 22 ∧ i ≠ 24) → m2 k i = mem k i := by
        intro k i a1 a2 a3 a4 a5 a6 a7
        rw [x2 k i a5 (fun z => (a7 z).1), f3 k i a3 a6, hx k i a1 a2 a4 a6 (fun z => (a7 z).2), hx0 k i a5 a6]
      refine h m2 ⟨?_, ?_, c2, fun p x y => ⟨?_, ?_, ?_⟩, fun q x y => ⟨?_, ?_, ?_, ?_⟩, fun i x y => ?_⟩ ?_ (fun k i z1 z2 => down k i (by omega) (by omega) (by omega) (by omega) (by omega) (by omega) z2)
      · rw [down 114 0 (by decide) (by decide) (by decide) (by decide) (by decide) (by decide) (by decide)]; exact kP
      · rw [down 114 2 (by decide) (by decide) (by decide) (by decide) (by decide) (by decide) (by decide)]; exact kT
      · rw [down 115 p (by decide) (by decide) (by decide) (by decide) (by decide) (by decide) (by omega)]; exact (kp p x y).1
      · rw [x2 129 p (by decide) (by omega), f1 p, hx 129 p (by decide) (by decide) (by decide) (by decide) (by omega), hx0 129 p (by decide) (by decide), (kp p x y).2.1]
        show S 2 p + cL (fun x => kp1 S x && cFp ((mS S).filter (kp1 S)) p x) (mS S) = S 2 p + cL (cFp (kS S) p) (kS S)
        rw [cFp_eq]
        rfl
      · rw [x2 130 p (by decide) (by omega), f3 130 p (by decide) (by decide), h3 p, (kp p x y).2.2]; rfl
      · rw [down 126 q (by decide) (by decide) (by decide) (by decide) (by decide) (by decide) (by omega)]; exact (kq q x y).1
      · rw [down 116 q (by decide) (by decide) (by decide) (by decide) (by decide) (by decide) (by omega)]; exact (kq q x y).2.1
      · rw [x2 127 q (by decide) (by omega), f3 127 q (by decide) (by decide), (h4 q x).1, (kq q x y).2.2.1]; rfl
      · rw [x2 128 q (by decide) (by omega), f3 128 q (by decide) (by decide), (h4 q x).2, (kq q x y).2.2.2]; rfl
      · change i < ((fS S).length : Int) at y
        obtain ⟨j, rfl⟩ := Int.eq_ofNat_of_zero_le x
        obtain ⟨w, gw⟩ := ge_s (show j < (fS S).length by omega)
        have e := gS_get gw
        have a := l2 j w gw
        show m2 131 (5 * (j : Int)) = (gS (fS S) j).1 ∧ m2 131 (5 * (j : Int) + 1) = (gS (fS S) j).2.1 ∧ m2 131 (5 * (j : Int) + 2) = (gS (fS S) j).2.2.1 ∧ m2 131 (5 * (j : Int) + 3) = (gS (fS S) j).2.2.2.1 ∧ m2 131 (5 * (j : Int) + 4) = (gS (fS S) j).2.2.2.2
        rw [e]
        exact a
      · rw [x2 114 24 (by decide) (by decide), f3 114 24 (by decide) (by decide)]; exact h5
    | succ f ih =>
      intro i m x2 x3 x4 hf h1 h1' h3 h4 h5 hx
      obtain ⟨x, gx⟩ := ge_s (show i < (mS S).length by omega)
      have e22 : m 114 22 = ((mS S).length : Int) := by rw [hx 114 22 (by decide) (by decide) (by decide) (by decide) (by decide)]; exact hc
      have ax : aQ m i x := by
        have b := hl0 i x gx
        rw [aQ_fld] at b ⊢
        intro c c0 c1
        rw [hx 131 _ (by decide) (by decide) (by decide) (by decide) (by omega)]
        exact b c c0 c1
      obtain ⟨a1, a2, a3, a4, a5⟩ := id ax
      have ox := oks x (ge_mem gx)
      obtain ⟨o1, o2, o3, o4, o5⟩ := id ox
      have sx := sHt_in ox
      have cx := ctc_in S x
      have ei : ((i + 1 : Nat) : Int) = (i : Int) + 1 := by omega
      have e115 : m 115 x.1 = S 1 x.1 := by rw [hx 115 _ (by decide) (by decide) (by decide) (by decide) (by omega), hx0 115 _ (by decide) (by decide)]; exact (kp x.1 (by omega) (by omega)).1
      have b115 := (op x.1 (by omega) (by omega)).1
      have hu : ∀ (f : St → Bool), f x = false → cL f ((mS S).take (i + 1)) = cL f ((mS S).take i) := fun f z => by rw [cL_tk f gx, z]; simp
      have hv : ∀ (f : St → Bool), f x = true → cL f ((mS S).take (i + 1)) = cL f ((mS S).take i) + 1 := fun f z => by rw [cL_tk f gx, z]; simp
      have t112 : ∀ c, c = ctc S x → smWp 135 112 [some (oR 11 114), some (.inl (i : Int)), some (.inl x.1), some (.inl (sHt x)), x4] [.inl c] m Post := by
        intro c hcx
        subst hcx
        refine smAt [69, 124, 144, 9999] 60 rfl ?_
        repeat' first
          | refine And.intro ?_ ?_
          | intro _
        all_goals try omega
        · have nH : inH S x = false := decide_eq_false (by omega)
          refine smAt [69, 149, 188, 9999] 60 rfl ?_
          repeat' first
            | refine And.intro ?_ ?_
            | intro _
          all_goals try omega
          · have c6 : ctc S x = -6 := by omega
            have kx : kp1 S x = true := by
              unfold kp1
              rw [nH, decide_eq_true c6]; rfl
            refine smAt [69, 9999] 60 rfl ?_
            have gd := ih (i + 1) m (some (.inl x.1)) (some (.inl (sHt x))) (some (.inl (ctc S x))) (by omega) (fun j y hj gy => ?_) (fun j hj => h1' j (by omega)) (fun p => ?_) (fun q z => ?_) ?_ hx
            · rw [ei] at gd; exact gd
            · by_cases d : j = i
              · subst d
                rw [gx] at gy; cases gy
                rw [h1' j (Nat.le_refl _) (by omega)]
                unfold gB1
                rw [if_pos kx]
              · exact h1 j y (by omega) gy
            · rw [hu (cHp S p) (by unfold cHp; rw [nH]; rfl)]; exact h3 p
            · have cq : cCq S q x = false := by
                unfold cCq
                rw [decide_eq_false (by omega), Bool.and_false]
              rw [hu (cCq S q) cq]; exact h4 q z
            · rw [hu (cCa S) (by unfold cCa; rw [nH, decide_eq_false (by simpa using c6)]; rfl)]; exact h5
          · have c6 : ctc S x ≠ -6 := by omega
            have kx : ¬ kp1 S x = true := by
              unfold kp1
              rw [nH, decide_eq_false c6]; decide
            refine smAt [69, 9999] 60 rfl ?_
            repeat' first
              | refine And.intro ?_ ?_
              | intro _
            all_goals try omega
            have gd := ih (i + 1) (smU (smU (smU (smU m 127 (ctc S x) (m 127 (ctc S x) + 1)) 128 (ctc S x) (smU m 127 (ctc S x) (m 127 (ctc S x) + 1) 128 (ctc S x) + 1)) 114 24 (smU (smU m 127 (ctc S x) (m 127 (ctc S x) + 1)) 128 (ctc S x) (smU m 127 (ctc S x) (m 127 (ctc S x) + 1) 128 (ctc S x) + 1) 114 24 + 1)) 132 i 1) (some (.inl x.1)) (some (.inl (sHt x))) (some (.inl (ctc S x))) (by omega) (fun j y hj gy => ?_) (fun j hj hj2 => ?_) (fun p => ?_) (fun q z => ?_) ?_ (fun k q z1 z2 z3 z4 z5 => ?_)
            · rw [ei] at gd; exact gd
            · by_cases d : j = i
              · subst d
                rw [gx] at gy; cases gy
                rw [smU_s]
                unfold gB1
                rw [if_neg kx]
              · rw [smU_o (by omega), smU_o (by omega), smU_o (by omega), smU_o (by omega)]
                exact h1 j y (by omega) gy
            · rw [smU_o (by omega), smU_o (by omega), smU_o (by omega), smU_o (by omega)]
              exact h1' j (by omega) hj2
            · rw [smU_o (by omega), smU_o (by omega), smU_o (by omega), smU_o (by omega), hu (cHp S p) (by unfold cHp; rw [nH]; rfl)]; exact h3 p
            · have q4 := h4 q z
              by_cases d : q = ctc S x
              · have cq : cCq S q x = true := by
                  unfold cCq
                  rw [nH, decide_eq_true d.symm]; rfl
                rw [hv (cCq S q) cq]
                rw [d] at q4 ⊢
                refine ⟨?_, ?_⟩
                · rw [smU_ne (by decide), smU_ne (by decide), smU_ne (by decide), smU_s]
                  omega
                · rw [smU_ne (by decide), smU_ne (by decide), smU_s, smU_ne (by decide)]
                  omega
              · have cq : cCq S q x = false := by
                  unfold cCq
                  rw [decide_eq_false (fun e => d e.symm), Bool.and_false]
                rw [hu (cCq S q) cq]
                refine ⟨?_, ?_⟩
                · rw [smU_ne (by decide), smU_ne (by decide), smU_ne (by decide), smU_d d]
                  exact q4.1
                · rw [smU_ne (by decide), smU_ne (by decide), smU_d d, smU_ne (by decide)]
                  exact q4.2
            · rw [hv (cCa S) (by unfold cCa; rw [nH, decide_eq_true c6]; rfl), smU_ne (by decide), smU_s, smU_ne (by decide), smU_ne (by decide), h5]
              omega
            · rw [smU_o (by omega), smU_o (by omega), smU_o (by omega), smU_o (by omega)]; exact hx k q z1 z2 z3 z4 z5
        · have yH : inH S x = true := decide_eq_true (by omega)
          have kx : ¬ kp1 S x = true := by
            unfold kp1
            rw [yH]; simp
          refine smAt [69, 9999] 60 rfl ?_
          repeat' first
            | refine And.intro ?_ ?_
            | intro _
          all_goals try omega
          have gd := ih (i + 1) (smU (smU m 130 x.1 (m 130 x.1 + 1)) 132 i 1) (some (.inl x.1)) (some (.inl (sHt x))) (some (.inl (ctc S x))) (by omega) (fun j y hj gy => ?_) (fun j hj hj2 => ?_) (fun p => ?_) (fun q z => ?_) ?_ (fun k q z1 z2 z3 z4 z5 => ?_)
          · rw [ei] at gd; exact gd
          · by_cases d : j = i
            · subst d
              rw [gx] at gy; cases gy
              rw [smU_s]
              unfold gB1
              rw [if_neg kx]
            · rw [smU_o (by omega), smU_o (by omega)]
              exact h1 j y (by omega) gy
          · rw [smU_o (by omega), smU_o (by omega)]
            exact h1' j (by omega) hj2
          · rw [smU_ne (by decide)]
            by_cases d : p = x.1
            · rw [hv (cHp S p) (by unfold cHp; rw [yH, decide_eq_true d.symm]; rfl), d, smU_s, h3]
              omega
            · rw [hu (cHp S p) (by unfold cHp; rw [decide_eq_false (fun e => d e.symm), Bool.and_false]), smU_d d]
              exact h3 p
          · rw [smU_ne (by decide), smU_ne (by decide), smU_ne (by decide), smU_ne (by decide), hu (cCq S q) (by unfold cCq; rw [yH]; rfl)]
            exact h4 q z
          · rw [smU_ne (by decide), smU_ne (by decide), hu (cCa S) (by unfold cCa; rw [yH]; rfl)]; exact h5
          · rw [smU_o (by omega), smU_o (by omega)]; exact hx k q z1 z2 z3 z4 z5
      have t102 : (sHt x = 1 ∨ sHt x = 2) → smWp 135 102 [some (oR 11 114), some (.inl (i : Int)), some (.inl x.1), some (.inl (sHt x)), x4] [] m Post := by
        intro w1
        refine smAt [69, 112, 9999] 60 rfl ?_
        have e8 : ∀ q, 0 ≤ q → q < 5 → m 126 q = S 5 q := fun q y z => by rw [hx 126 _ (by decide) (by decide) (by decide) (by decide) (by omega), hx0 126 _ (by decide) (by decide)]; exact (kq q y z).1
        refine ru_firstAt _ (by unfold smIR; omega) (fun q y z => ?_) ?_
        · have := (oq q y z).1
          rw [e8 q y z]; unfold smIR; omega
        · refine t112 _ ?_
          unfold ctc
          rw [if_pos w1]
          exact fWho_congr (by rw [hx 114 2 (by decide) (by decide) (by decide) (by decide) (by decide), hx0 114 2 (by decide) (by decide)]; exact kT) e8 x.1
      refine smAt [69, 85, 9999] 60 rfl ?_
      repeat' first
        | refine And.intro ?_ ?_
        | intro _
      all_goals try omega
      rw [a1]
      refine smAt [69, 91, 9999] 60 rfl ?_
      refine ru_htN (S 0 0) i x (by omega) ox ax ?_
      refine smAt [69, 102, 112, 9999] 60 rfl ?_
      repeat' first
        | refine And.intro ?_ ?_
        | intro _
      all_goals try omega
      · exact t102 (Or.inl (by assumption))
      · refine t112 _ ?_
        unfold ctc
        rw [if_neg (by omega)]
      · exact t102 (Or.inr (by assumption))
  -- all go on
  have first : ∀ (f i : Nat) (m : smM), i + f = (lS S).length → (∀ (j : Nat) (x : St), j < i → (lS S)[j]? = some x → aQ m j (sMv (S 0 0) x)) → (∀ (j : Nat) (x : St), i ≤ j → (lS S)[j]? = some x → aQ m j x) → (∀ (j : Nat), j < i → m 132 j = 0) → (∀ k i, k ≠ 131 → k ≠ 132 → m k i = mem k i) → smWp 135 2 [some (oR 11 114), some (.inl (i : Int)), none, none, none] [] m Post := by
    intro f
    induction f with
    | zero =>
      intro i m hf h1 h2 h3 hx
      have e22 : m 114 22 = ((mS S).length : Int) := by rw [hx 114 22 (by decide) (by decide), kN]; omega
      refine smAt [2, 69, 9999] 60 rfl ?_
      repeat' first
        | refine And.intro ?_ ?_
        | intro _
      all_goals try omega
      refine mid m e22 (fun j x gx => ?_) (hx 114 24 (by decide) (by decide)) hx (mS S).length 0 m none none none (by omega) (fun j x hj => by omega) (fun j _ hj => h3 j (by omega)) (fun p => ?_) (fun q _ => ?_) ?_ (fun _ _ _ _ _ _ _ => rfl)
      · unfold mS at gx
        rw [List.getElem?_map, Option.map_eq_some_iff] at gx
        obtain ⟨y, y1, y2⟩ := gx
        rw [← y2]
        exact h1 j y (by have := ge_lt y1; omega) y1
      · rw [hx 130 p (by decide) (by decide)]; simp [cL]
      · rw [hx 127 q (by decide) (by decide), hx 128 q (by decide) (by decide)]; simp [cL]
      · rw [hx 114 24 (by decide) (by decide)]; simp [cL]
    | succ f ih =>
      intro i m hf h1 h2 h3 hx
      obtain ⟨x, gx⟩ := ge_s (show i < (lS S).length by omega)
      have e22 : m 114 22 = ((mS S).length : Int) := by rw [hx 114 22 (by decide) (by decide), kN]; omega
      have eP : m 114 0 = S 0 0 := by rw [hx 114 0 (by decide) (by decide)]; exact kP
      obtain ⟨a1, a2, a3, a4, a5⟩ := h2 i x (Nat.le_refl i) gx
      obtain ⟨o1, o2, o3, o4, o5⟩ := (lS_ok ho x (ge_mem gx)).1
      have ei : ((i + 1 : Nat) : Int) = (i : Int) + 1 := by omega
      refine smAt [2, 69, 9999] 60 rfl ?_
      repeat' first
        | refine And.intro ?_ ?_
        | intro _
      all_goals try omega
      refine ru_step _ _ (by omega) (by omega) (by omega) ?_
      repeat' first
        | refine And.intro ?_ ?_
        | intro _
      all_goals try omega
      have gd := ih (i + 1) (smU (smU (smU m 131 (5 * (i : Int)) (fNx (m 131 (5 * (i : Int))) (m 131 (5 * (i : Int) + 1)) (m 114 0))) 131 (5 * (i : Int) + 4) (smU m 131 (5 * (i : Int)) (fNx (m 131 (5 * (i : Int))) (m 131 (5 * (i : Int) + 1)) (m 114 0)) 131 (5 * (i : Int) + 4) + 1)) 132 i 0) (by omega) (fun j y hj gy => ?_) (fun j y hj gy => ?_) (fun j hj => ?_) (fun k q z1 z2 => by rw [smU_ne z2, smU_ne z1, smU_ne z1]; exact hx k q z1 z2)
      · rw [ei] at gd; exact gd
      · by_cases d : j = i
        · subst d
          rw [gx] at gy; cases gy
          refine ⟨?_, ?_, ?_, ?_, ?_⟩
          · rw [smU_ne (by decide), smU_d (by omega), smU_s, a1, a2, eP]; rfl
          · rw [smU_ne (by decide), smU_d (by omega), smU_d (by omega), a2]; rfl
          · rw [smU_ne (by decide), smU_d (by omega), smU_d (by omega), a3]; rfl
          · rw [smU_ne (by decide), smU_d (by omega), smU_d (by omega), a4]; rfl
          · rw [smU_ne (by decide), smU_s, smU_d (by omega), a5]; rfl
        · have b := h1 j y (by omega) gy
          rw [aQ_fld] at b ⊢
          intro c c0 c1
          rw [smU_ne (by decide), smU_d (by omega), smU_d (by omega)]
          exact b c c0 c1
      · have b := h2 j y (by omega) gy
        rw [aQ_fld] at b ⊢
        intro c c0 c1
        rw [smU_ne (by decide), smU_d (by omega), smU_d (by omega)]
        exact b c c0 c1
      · by_cases d : j = i
        · rw [d, smU_s]
        · rw [smU_o (by omega), smU_o (by omega), smU_o (by omega)]; exact h3 j (by omega)
  refine smGo [2, 9999] 60 rfl ?_
  refine first (lS S).length 0 mem (by omega) (fun j x hj => by omega) (fun j x _ gx => ?_) (fun j hj => by omega) (fun _ _ _ _ => rfl)
  have lj := ge_lt gx
  rw [lS_get (by omega)] at gx
  cases gx
  exact ki j (by omega) (by omega)
end
