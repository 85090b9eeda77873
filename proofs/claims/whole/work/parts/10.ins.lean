theorem smSum_cv (ad : Nat → Nat) (r : List smV) : ((r.map (smCv ad)).map fun v => v.category).sum = (r.map smCat).sum := by
  induction r with
  | nil => rfl
  | cons v r ih => simp only [List.map_cons, List.sum_cons, ih, smCv_cat]
theorem smArg_inv {a : Nat} {as rest : List smV} (h : smArg a as rest = true) : (rest.map smCat).sum ≤ 8 ∧ (∀ v ∈ as, smC1 v = true) ∧ (smSt a = false → ∃ o as', as = .inr (.inl (.inl (smOwn a), o)) :: as') := by
  simp only [smArg, Bool.and_eq_true, decide_eq_true_eq, Bool.or_eq_true] at h
  obtain ⟨⟨h2, h3⟩, h4⟩ := h
  refine ⟨h2, fun v hv => List.all_eq_true.mp h3 v hv, fun hs => ?_⟩
  rcases h4 with h4 | h4
  · rw [hs] at h4; cases h4
  · match as, h4 with
    | .inr (.inl (.inl c, o)) :: as', h4 =>
      have := beq_iff_eq.mp h4
      subst this
      exact ⟨o, as', rfl⟩
theorem smStk {a : Nat} {st : List smV} : st = ((st.take (smNa a)).reverse).reverse ++ st.drop (smNa a) := by
  rw [List.reverse_reverse, List.take_append_drop]
theorem smTo_app (ad : Nat → Nat) (v : Option smV) (r : List smV) : (v.map (smCv ad)).toList ++ r.map (smCv ad) = (v.toList ++ r).map (smCv ad) := by
  cases v <;> simp
theorem smOKs_to {v : Option smV} {r : List smV} (hv : ∀ w, v = some w → smOK w) (h : ∀ w ∈ r, smOK w) : ∀ w ∈ v.toList ++ r, smOK w := by
  intro w hw
  rcases List.mem_append.mp hw with h1 | h1
  · exact hv w (Option.mem_toList.mp h1)
  · exact h w h1
theorem smGood (a : Nat) (hc : Cond.code (smNm a) (smCd a) (smMx a) (smRt a) ∈ smTs) : GoodIn smTs (smWd a) := by
  intro w hw
  rcases List.mem_cons.mp hw with h | h
  · rw [h]; exact smTs_good _ hc
  · exact smTs_good _ h
set_option maxHeartbeats 1000000 in
theorem smVir_ok {k : Nat} {Post : Option smV → smM → Prop} {go : Nat → List (Option smV) → List smV → smM → Prop} {pc : Nat} {L : List (Option smV)} {st : List smV} {mem : smM} {a b n : Nat} (hk : k < 178) (hd : decode (smCd k) pc = .ok (.invokevirtual n, 3)) (hc : smChi (smMd k) pc a b (.invokevirtual n) = true)
    (hgo : ∀ (pc : Nat) (L : List (Option smV)) (st : List smV) (mem : smM), go pc L st mem → smWpB k pc L st mem Post) (h : smCal go (pc + 3) L st mem a) : smWpB k pc L st mem Post := by
  intro p l e s m args below meth c E H locs ls C hP hS hL hst
  obtain ⟨hx, hb, hml, hr, hlk, hown, hts, hKs, hE⟩ := id C
  have hc' : ((smMl (smMd k).1).any (fun q => q.1 == n && q.2.1 == a && q.2.2.1 == b) && b == 0 && !smSt a && smRoom (smMd k) a b) = true := hc
  simp only [Bool.and_eq_true, Bool.not_eq_true', beq_iff_eq] at hc'
  obtain ⟨⟨⟨h1, rfl⟩, hsta⟩, hroom⟩ := hc'
  simp only [smRoom, Nat.zero_le, if_true, Bool.and_eq_true, decide_eq_true_eq] at hroom
  obtain ⟨⟨hr1, hr2⟩, hr3⟩ := hroom
  rw [smMs_len] at hr3
  have hok := smMd_ok hr3
  obtain ⟨o1, o2, o3, o4, o5, o6, o7, o8, o9⟩ := hok
  obtain ⟨v1, v2, v3, v4⟩ := o8 hsta
  obtain ⟨⟨q1, q2, q3, q4⟩, hq, hq2⟩ := List.any_eq_true.mp h1
  simp only [Bool.and_eq_true, beq_iff_eq] at hq2
  obtain ⟨⟨rfl, rfl⟩, rfl⟩ := hq2
  have hlink := smMl_in _ _ hq rfl
  obtain ⟨g1, h⟩ := smTk_eq h
  rw [List.append_nil] at h
  obtain ⟨harg, h⟩ := smCond_inv h
  have h := of_eq_true h
  obtain ⟨g2, g3, g4⟩ := smArg_inv harg
  obtain ⟨o, as, hrv⟩ := g4 hsta
  have hokA : ∀ v ∈ (st.take (smNa q2)).reverse, smOK v ∧ smC1 v = true := fun v hv => ⟨hst v (List.mem_of_mem_take (List.mem_reverse.mp hv)), g3 v hv⟩
  have hM := h hokA l E H.size hE
  have hsh : smSh[o]? = some (.inl (smOwn q2)) := (hokA (.inr (.inl (.inl (smOwn q2), o))) (by rw [hrv]; exact List.mem_cons_self)).1
  have hat : (smWs E mem)[o]? = some (E.2.2 o, .inr (smOwn q2, smFv E.2.2 mem o (smLay (smOwn q2)) 0)) := smWs_at hsh
  have hlen : as.length = smNa q2 - 1 := by
    have h9 : ((st.take (smNa q2)).reverse).length = smNa q2 := by rw [List.length_reverse, List.length_take, Nat.min_eq_left g1]
    rw [hrv, List.length_cons] at h9
    omega
  have hcls := (smCl_ok (smOwn q2) v4).2.1
  have hG : GoodIn smTs (wsV (smRn (smOwn k)) q1 (smNm q2).cls (smNm q2) (smWd q2)) := by
    intro w hw
    rcases List.mem_append.mp hw with h9 | h9
    · have : w ∈ smTs := by
        simp only [List.mem_cons, List.not_mem_nil, or_false] at h9
        rcases h9 with rfl | rfl | rfl | rfl
        · exact hlink
        · exact v1
        · exact v2
        · exact o6
      exact smTs_good _ this
    · exact smGood q2 o5 w h9
  have hcw : CallW (smRm k) s args (smRn (smOwn k)) (smNm q2).cls q1 (smNm q2) (smCd q2) (smMx q2) (smRt q2) (smWd q2) (smRm q2) 0 0 (smNa q2 - 1) := by
    refine cwV (smNa q2 - 1) hts hG rfl rfl rfl ⟨rfl, o3.1, o3.2, ?_⟩ ⟨hr1, hr2⟩
    have o4' := o4
    rw [show (smMd q2).2.2.2.2.2.1.2 = false from hsta] at o4'
    exact o4'
  have hpre : PreV s H (smNm q2).cls (E.2.2 o) (smPc E ((st.take (smNa q2)).reverse) mem H.size) (as.map (smCv E.2.2)) := by
    refine ⟨smPc_blind _ _ _ _, ?_, fun U hU hW => ⟨by rw [hrv]; rfl, by rw [hU], by rw [hU]; exact hP, smKs_warm hW hKs⟩⟩
    have := va_recv hKs.1 hP hcls hat
    rw [show (smNm q2).cls = smRn (smOwn q2) from o2]
    exact this
  have hstk : st.map (smCv E.2.2) = (as.map (smCv E.2.2)).reverse ++ .ref (E.2.2 o) :: (st.drop (smNa q2)).map (smCv E.2.2) := by
    conv => lhs; rw [smStk (a := q2) (st := st), hrv]
    simp [smCv]
  have run := va_runV (g := F0 m pc ls (st.map (smCv E.2.2))) (rest := (st.drop (smNa q2)).map (smCv E.2.2)) (cells := 0) (slots := 0) (locs := locs) (below := below) (e := e) (meth := meth) ⟨hx, hb, hml, hown, hts⟩ hM hcw hpre rfl (by rw [List.length_map]; exact hlen) hL.1 hstk (lv_room (by rw [smSum_cv]; exact g2)) hd ⟨Nat.le_refl 0, Nat.le_refl 0⟩
  refine sm_cont run hS rfl (fun v mem' H1 locs1 hpo hvo hP1 hS1 => ?_)
  rw [smTo_app]
  exact hgo _ _ _ _ (smBack_eq hpo) p l e s m args below meth c E H1 locs1 ls C hP1 hS1 hL (smOKs_to hvo (fun w hw => hst w (List.mem_of_mem_drop hw)))
set_option maxHeartbeats 1000000 in
theorem smStb_ok {k : Nat} {Post : Option smV → smM → Prop} {go : Nat → List (Option smV) → List smV → smM → Prop} {pc : Nat} {L : List (Option smV)} {st : List smV} {mem : smM} {a b n : Nat} (hk : k < 178) (hb01 : b = 0 ∨ b = 1) (hd : decode (smCd k) pc = .ok (.invokestatic n, 3)) (hc : smChi (smMd k) pc a b (.invokestatic n) = true)
    (hgo : ∀ (pc : Nat) (L : List (Option smV)) (st : List smV) (mem : smM), go pc L st mem → smWpB k pc L st mem Post) (h : smCal go (pc + 3) L st mem a) : smWpB k pc L st mem Post := by
  intro p l e s m args below meth c E H locs ls C hP hS hL hst
  obtain ⟨hx, hb, hml, hr, hlk, hown, hts, hKs, hE⟩ := id C
  have hc' : ((smMl (smMd k).1).any (fun q => q.1 == n && q.2.1 == a && q.2.2.1 == b) && (decide (2 ≤ b) || smSt a) && smRoom (smMd k) a b) = true := hc
  simp only [Bool.and_eq_true, Bool.or_eq_true, decide_eq_true_eq] at hc'
  obtain ⟨⟨h1, hsta⟩, hroom⟩ := hc'
  have hb1 : b ≤ 1 := by omega
  have hst1 : smSt a = true := by
    rcases hsta with q | q
    · omega
    · exact q
  simp only [smRoom, hb1, if_true, Bool.and_eq_true, decide_eq_true_eq] at hroom
  obtain ⟨⟨hr1, hr2⟩, hr3⟩ := hroom
  rw [smMs_len] at hr3
  have hok := smMd_ok hr3
  obtain ⟨o1, o2, o3, o4, o5, o6, o7, o8, o9⟩ := hok
  have v1 := o7 hst1
  obtain ⟨⟨q1, q2, q3, q4⟩, hq, hq2⟩ := List.any_eq_true.mp h1
  simp only [Bool.and_eq_true, beq_iff_eq] at hq2
  obtain ⟨⟨rfl, rfl⟩, rfl⟩ := hq2
  obtain ⟨g1, h⟩ := smTk_eq h
  rw [List.append_nil] at h
  obtain ⟨harg, h⟩ := smCond_inv h
  have h := of_eq_true h
  obtain ⟨g2, g3, g4⟩ := smArg_inv harg
  have hokA : ∀ v ∈ (st.take (smNa q2)).reverse, smOK v ∧ smC1 v = true := fun v hv => ⟨hst v (List.mem_of_mem_take (List.mem_reverse.mp hv)), g3 v hv⟩
  have hM := h hokA l E H.size hE
  have hlen : ((st.take (smNa q2)).reverse).length = smNa q2 := by rw [List.length_reverse, List.length_take, Nat.min_eq_left g1]
  have hG := smGood q2 o5
  have hdd : (smNm q2).cls ≠ "java/lang/invoke/MethodHandle" ∧ (smNm q2).cls ≠ "java/lang/invoke/VarHandle" ∧ (parseMethodDescriptor (smNm q2).desc).map (fun d => d.parameters.length) = some (smNa q2) := by
    refine ⟨o3.1, o3.2, ?_⟩
    have o4' := o4
    rw [show (smMd q2).2.2.2.2.2.1.2 = true from hst1] at o4'
    exact o4'
  have hpre : PreS s H (smPc E ((st.take (smNa q2)).reverse) mem H.size) (((st.take (smNa q2)).reverse).map (smCv E.2.2)) :=
    ⟨smPc_blind _ _ _ _, fun U hU hW => ⟨rfl, by rw [hU], by rw [hU]; exact hP, smKs_warm hW hKs⟩⟩
  have hstk : st.map (smCv E.2.2) = (((st.take (smNa q2)).reverse).map (smCv E.2.2)).reverse ++ (st.drop (smNa q2)).map (smCv E.2.2) := by
    conv => lhs; rw [smStk (a := q2) (st := st)]
    simp
  have hini : (Cond.initialized (smNm q2).cls).before args s = true := hts _ o6
  have run : va_Run p l e (smRm k) s m args below meth c H locs 0 0 0 0 (F0 m pc ls (st.map (smCv E.2.2))) ((st.drop (smNa q2)).map (smCv E.2.2)) (smQc E H.size (fun v mem' => smBack v (st.drop (smNa q2)) (fun st' => go (pc + 3) L st' mem')) (((st.take (smNa q2)).reverse).map (smCv E.2.2)).toArray) (smA E H.size) := by
    rcases hb01 with h0 | h0
    · have hlink := smMl_in _ _ hq h0
      exact va_runS (g := F0 m pc ls (st.map (smCv E.2.2))) ⟨hx, hb, hml, hown, hts⟩ hM ⟨callB_of (ws' := smTs) (smNa q2) hts hG rfl rfl rfl hini (hts _ hlink) hdd ⟨hr1, hr2⟩, hts _ v1⟩ hpre rfl (by rw [List.length_map]; exact hlen) hL.1 hstk (lv_room (by rw [smSum_cv]; exact g2)) hd ⟨Nat.le_refl 0, Nat.le_refl 0⟩
    · have hne := smMn_in _ _ hq h0
      have hnw := hKs.2 _ (List.mem_of_getElem? hne)
      exact va_runSN (g := F0 m pc ls (st.map (smCv E.2.2))) ⟨hx, hb, hml, hown, hts⟩ hM ⟨va_cnB (ws' := smTs) (smNa q2) hts hG rfl rfl rfl hnw hini hdd ⟨hr1, hr2⟩, hts _ v1, trivial⟩ hpre rfl (by rw [List.length_map]; exact hlen) hL.1 hstk (lv_room (by rw [smSum_cv]; exact g2)) hd ⟨Nat.le_refl 0, Nat.le_refl 0⟩
  refine sm_cont run hS rfl (fun v mem' H1 locs1 hpo hvo hP1 hS1 => ?_)
  rw [smTo_app]
  exact hgo _ _ _ _ (smBack_eq hpo) p l e s m args below meth c E H1 locs1 ls C hP1 hS1 hL (smOKs_to hvo (fun w hw => hst w (List.mem_of_mem_drop hw)))
theorem smNat_inv {st : List smV} {f : Int → Int → List smV → Prop} (h : smNat st f) : ∃ x y r, st = .inl y :: .inl x :: r ∧ (r.map smCat).sum ≤ 8 ∧ smIR x ∧ smIR y ∧ f x y r := by
  obtain ⟨x, y, r, h1, h2⟩ := smI2_inv h
  obtain ⟨h3, h4⟩ := smCond_inv h2
  exact ⟨x, y, r, h1, of_decide_eq_true h3, h4⟩
set_option maxHeartbeats 1000000 in
theorem smSta_ok {k : Nat} {Post : Option smV → smM → Prop} {go : Nat → List (Option smV) → List smV → smM → Prop} {pc : Nat} {L : List (Option smV)} {st : List smV} {mem : smM} {a b n : Nat} (hk : k < 178) (hd : decode (smCd k) pc = .ok (.invokestatic n, 3)) (hc : smChi (smMd k) pc a b (.invokestatic n) = true)
    (hgo : ∀ (pc : Nat) (L : List (Option smV)) (st : List smV) (mem : smM), go pc L st mem → smWpB k pc L st mem Post) (h : smStc go (pc + 3) L st mem a b) : smWpB k pc L st mem Post := by
  match b, hc, h with
  | 0, hc, h => exact smStb_ok hk (Or.inl rfl) hd hc hgo h
  | 1, hc, h => exact smStb_ok hk (Or.inr rfl) hd hc hgo h
  | 2, hc, h =>
    intro p l e s m args below meth c E H locs ls C hP hS hL hst
    obtain ⟨hx, hb, hml, hr, hlk, hown, hts, hKs, hE⟩ := id C
    have hc' : ((smMl (smMd k).1).any (fun q => q.1 == n && q.2.1 == a && q.2.2.1 == 2) && (decide (2 ≤ 2) || smSt a) && smRoom (smMd k) a 2) = true := hc
    simp only [Bool.and_eq_true] at hc'
    obtain ⟨⟨h1, -⟩, hroom⟩ := hc'
    have hroom' : (decide (1 ≤ smFr k) && decide (26 ≤ smLo k)) = true := hroom
    simp only [Bool.and_eq_true, decide_eq_true_eq] at hroom'
    obtain ⟨⟨q1, q2, q3, q4⟩, hq, hq2⟩ := List.any_eq_true.mp h1
    simp only [Bool.and_eq_true, beq_iff_eq] at hq2
    obtain ⟨⟨rfl, rfl⟩, rfl⟩ := hq2
    have hlink := smMx2_in _ _ hq rfl
    match st, h, hst with
    | .inl n :: .inl dp :: .inr (.inl (.inr (false, n1), k1)) :: .inl sp :: .inr (.inl (.inr (false, n0), k0)) :: r, h, hst =>
      obtain ⟨hb9, rfl, rfl, h0, h3, h4, h⟩ := smCond_inv h
      simp only [Bool.and_eq_true, decide_eq_true_eq] at hb9
      obtain ⟨⟨b1, b2⟩, b3⟩ := hb9
      have s1 : smSh[k1]? = some (.inr (false, n1)) := hst (.inr (.inl (.inr (false, n1), k1))) (by simp)
      have s0 : smSh[k0]? = some (.inr (false, n0)) := hst (.inr (.inl (.inr (false, n0), k0))) (by simp)
      have a1 : (smWs E mem)[k1]? = some (E.2.2 k1, .inl (E.2.1.1, n1, .inl (fun j => Int32.ofInt (mem k1 (j : Int))))) := smWs_at s1
      have a0 : (smWs E mem)[k0]? = some (E.2.2 k0, .inl (E.2.1.1, n0, .inl (fun j => Int32.ofInt (mem k0 (j : Int))))) := smWs_at s0
      have hnr : smIR n := ⟨by omega, by omega⟩
      have hnt : (Int32.ofInt n).toNatClampNeg = n.toNat := by
        show (Int32.ofInt n).toInt.toNat = n.toNat
        rw [smIR_toInt hnr]
      have hz : (Int32.ofInt 0).toNatClampNeg = 0 := rfl
      have h26 : nativeFrameWords "java/lang/System" "arraycopy" 5 + 11 = 18 := by decide +kernel
      have hloc : ((r.map (smCv E.2.2)).map fun v => v.category).sum + (nativeFrameWords "java/lang/System" "arraycopy" 5 + 11) ≤ (smRm k).locals := by
        rw [smSum_cv, h26]
        show _ ≤ smLo k
        omega
      refine va_copyi (A := smA E s.heap.size) (ty := .int) (sp := Int32.ofInt 0) (dp := Int32.ofInt 0) (n := Int32.ofInt n) hx hb (hml.trans hL.1.symm) hown (hts _ hlink) (hts _ smw_acN) (hts _ smw_acS) (hts _ smw_sysI) hKs.1 hP (smD_of hE _ _) hS k0 k1 0 0 a0 a1 rfl rfl rfl (by decide) (by decide) (fun z => by have := (sm_lt hnr smIR_0).mp z; omega) (by rw [hz, hnt]; omega) (by rw [hz, hnt]; omega) (fun i _ => rfl) hroom'.1 hloc hd (fun H1 locs1 hP1 _ hS1 => ?_)
      rw [hz, hnt, smWs_set (mem' := smCp mem k0 k1 n) s1 (smCp_row h0) (fun j hj i => by simp [smCp, hj]) (fun z => by cases z)] at hP1
      exact hgo _ _ _ _ h p l e s m args below meth c E H1 locs1 ls C hP1 hS1 hL (fun w hw => hst w (by simp [hw]))
    | .inl n :: .inl dp :: .inr (.inr (.inr k1)) :: .inl sp :: .inr (.inr (.inr k0)) :: r, h, hst =>
      obtain ⟨hb9, rfl, rfl, h0, h3, h⟩ := smCond_inv h
      have b3 := of_decide_eq_true hb9
      have s1 : smSh[k1]? = some (.inl 1) := hst (.inr (.inr (.inr k1))) (by simp)
      have s0 : smSh[k0]? = some (.inl 1) := hst (.inr (.inr (.inr k0))) (by simp)
      have a1 : (smWs E mem)[smIx k1]? = some (E.2.2 (k1 + 1000), .inl (E.2.1.1, 12, .inl (fun j => Int32.ofInt (mem k1 (100 + (j : Int)))))) := smWs_vat s1
      have a0 : (smWs E mem)[smIx k0]? = some (E.2.2 (k0 + 1000), .inl (E.2.1.1, 12, .inl (fun j => Int32.ofInt (mem k0 (100 + (j : Int)))))) := smWs_vat s0
      have hnr : smIR n := ⟨by omega, by omega⟩
      have hnt : (Int32.ofInt n).toNatClampNeg = n.toNat := by
        show (Int32.ofInt n).toInt.toNat = n.toNat
        rw [smIR_toInt hnr]
      have hz : (Int32.ofInt 0).toNatClampNeg = 0 := rfl
      have h26 : nativeFrameWords "java/lang/System" "arraycopy" 5 + 11 = 18 := by decide +kernel
      have hloc : ((r.map (smCv E.2.2)).map fun v => v.category).sum + (nativeFrameWords "java/lang/System" "arraycopy" 5 + 11) ≤ (smRm k).locals := by
        rw [smSum_cv, h26]
        show _ ≤ smLo k
        omega
      refine va_copyi (A := smA E s.heap.size) (ty := .int) (sp := Int32.ofInt 0) (dp := Int32.ofInt 0) (n := Int32.ofInt n) hx hb (hml.trans hL.1.symm) hown (hts _ hlink) (hts _ smw_acN) (hts _ smw_acS) (hts _ smw_sysI) hKs.1 hP (smD_of hE _ _) hS (smIx k0) (smIx k1) 0 0 a0 a1 rfl rfl rfl (by decide) (by decide) (fun z => by have := (sm_lt hnr smIR_0).mp z; omega) (by rw [hz, hnt]; omega) (by rw [hz, hnt]; omega) (fun i _ => rfl) hroom'.1 hloc hd (fun H1 locs1 hP1 _ hS1 => ?_)
      rw [hz, hnt, smWs_vset (mem' := smCv2 mem k0 k1 n) s1 (smVe_cpy h0) (fun j hj i => by simp [smCv2, hj]) (fun i hi => by simp only [smCv2, true_and]; rw [if_neg (by omega)])] at hP1
      exact hgo _ _ _ _ h p l e s m args below meth c E H1 locs1 ls C hP1 hS1 hL (fun w hw => hst w (by simp [hw]))
  | 3, hc, h =>
    intro p l e s m args below meth c E H locs ls C hP hS hL hst
    obtain ⟨hx, hb, hml, hr, hlk, hown, hts, hKs, hE⟩ := id C
    have hc' : ((smMl (smMd k).1).any (fun q => q.1 == n && q.2.1 == a && q.2.2.1 == 3) && (decide (2 ≤ 3) || smSt a) && smRoom (smMd k) a 3) = true := hc
    simp only [Bool.and_eq_true] at hc'
    obtain ⟨⟨h1, -⟩, hroom⟩ := hc'
    have hroom' : (decide (1 ≤ smFr k) && decide (26 ≤ smLo k)) = true := hroom
    simp only [Bool.and_eq_true, decide_eq_true_eq] at hroom'
    obtain ⟨⟨q1, q2, q3, q4⟩, hq, hq2⟩ := List.any_eq_true.mp h1
    simp only [Bool.and_eq_true, beq_iff_eq] at hq2
    obtain ⟨⟨rfl, rfl⟩, rfl⟩ := hq2
    have hlink := smMx3_in _ _ hq rfl
    obtain ⟨x, y, r, rfl, hsum, i1, i2, h⟩ := smNat_inv h
    have K := hgo _ _ _ _ h p l e s m args below meth c E H locs ls C hP hS hL (smOKs_1 trivial (smOKs_t (smOKs_t hst)))
    refine va_mmax hx hb (hml.trans hL.1.symm) hown (hts _ hlink) (hts _ smw_maxS) (hts _ smw_mathI) (hts _ smw_maxC) hroom'.1 (by rw [smSum_cv]; show _ ≤ smLo k; omega) (Nat.le_refl 0) (Nat.le_refl 0) hd ?_
    rw [show (if Int32.ofInt x < Int32.ofInt y then Int32.ofInt y else Int32.ofInt x) = Int32.ofInt (if x < y then y else x) from by simp only [sm_lt i1 i2]; split <;> rfl]
    exact K
  | 4, hc, h =>
    intro p l e s m args below meth c E H locs ls C hP hS hL hst
    obtain ⟨hx, hb, hml, hr, hlk, hown, hts, hKs, hE⟩ := id C
    have hc' : ((smMl (smMd k).1).any (fun q => q.1 == n && q.2.1 == a && q.2.2.1 == 4) && (decide (2 ≤ 4) || smSt a) && smRoom (smMd k) a 4) = true := hc
    simp only [Bool.and_eq_true] at hc'
    obtain ⟨⟨h1, -⟩, hroom⟩ := hc'
    have hroom' : (decide (1 ≤ smFr k) && decide (26 ≤ smLo k)) = true := hroom
    simp only [Bool.and_eq_true, decide_eq_true_eq] at hroom'
    obtain ⟨⟨q1, q2, q3, q4⟩, hq, hq2⟩ := List.any_eq_true.mp h1
    simp only [Bool.and_eq_true, beq_iff_eq] at hq2
    obtain ⟨⟨rfl, rfl⟩, rfl⟩ := hq2
    have hlink := smMx4_in _ _ hq rfl
    obtain ⟨x, y, r, rfl, hsum, i1, i2, h⟩ := smNat_inv h
    have K := hgo _ _ _ _ h p l e s m args below meth c E H locs ls C hP hS hL (smOKs_1 trivial (smOKs_t (smOKs_t hst)))
    refine va_mmin hx hb (hml.trans hL.1.symm) hown (hts _ hlink) (hts _ smw_minS) (hts _ smw_mathI) (hts _ smw_minC) hroom'.1 (by rw [smSum_cv]; show _ ≤ smLo k; omega) (Nat.le_refl 0) (Nat.le_refl 0) hd ?_
    rw [show (if Int32.ofInt y < Int32.ofInt x then Int32.ofInt y else Int32.ofInt x) = Int32.ofInt (if y < x then y else x) from by simp only [sm_lt i2 i1]; split <;> rfl]
    exact K
  | 5, hc, h =>
    intro p l e s m args below meth c E H locs ls C hP hS hL hst
    obtain ⟨hx, hb, hml, hr, hlk, hown, hts, hKs, hE⟩ := id C
    have hc' : ((smMl (smMd k).1).any (fun q => q.1 == n && q.2.1 == a && q.2.2.1 == 5) && (decide (2 ≤ 5) || smSt a) && smRoom (smMd k) a 5) = true := hc
    simp only [Bool.and_eq_true] at hc'
    obtain ⟨⟨h1, -⟩, hroom⟩ := hc'
    have hroom' : (decide (1 ≤ smFr k) && decide (26 ≤ smLo k)) = true := hroom
    simp only [Bool.and_eq_true, decide_eq_true_eq] at hroom'
    obtain ⟨⟨q1, q2, q3, q4⟩, hq, hq2⟩ := List.any_eq_true.mp h1
    simp only [Bool.and_eq_true, beq_iff_eq] at hq2
    obtain ⟨⟨rfl, rfl⟩, rfl⟩ := hq2
    have hlink := smMx5_in _ _ hq rfl
    obtain ⟨x, r, rfl, h⟩ := smI1_inv h
    obtain ⟨hsum, i1, h⟩ := smCond_inv h
    have hsum := of_decide_eq_true hsum
    have K := hgo _ _ _ _ h p l e s m args below meth c E H locs ls C hP hS hL (smOKs_1 trivial (smOKs_t hst))
    refine va_mabs hx hb (hml.trans hL.1.symm) hown (hts _ hlink) (hts _ smw_absS) (hts _ smw_mathI) (hts _ smw_absC) hroom'.1 (by rw [smSum_cv]; show _ ≤ smLo k; omega) (Nat.le_refl 0) (Nat.le_refl 0) hd ?_
    rw [show (if 0 ≤ Int32.ofInt x then Int32.ofInt x else 0 - Int32.ofInt x) = Int32.ofInt (if 0 ≤ x then x else 0 - x) from by
      rw [← sm_0]
      simp only [sm_le smIR_0 i1]
      split
      · rfl
      · rw [Int32.ofInt_sub]]
    exact K
  | n + 6, hc, h => exact False.elim h
set_option maxHeartbeats 4000000 in
theorem smIns_ok {lit : Bool} {k : Nat} {Post : Option smV → smM → Prop} {go : Nat → List (Option smV) → List smV → smM → Prop} {pc : Nat} {L : List (Option smV)} {st : List smV} {mem : smM} {a b nx : Nat} {z : Int} {i : Instr} (hk : k < 178) (hd : decode (smCd k) pc = .ok (i, smLen b i)) (hc : smChi (smMd k) pc a b i = true) (hnx : nx = pc + smLen b i) (hz : smChz a b z i = true)
    (hgo : ∀ (pc : Nat) (L : List (Option smV)) (st : List smV) (mem : smM), go pc L st mem → smWpB k pc L st mem Post) (h : smIns lit k Post go pc nx L st mem a b z i) : smWpB k pc L st mem Post := by
  subst hnx
  cases i
  case iconst n =>
    intro p l e s m args below meth c E H locs ls C hP hS hL hst
    obtain ⟨hx, hb, hml, hr, hlk, hown, hts, hKs, hE⟩ := id C
    exact lv_iconst hx hb hd rfl (hgo _ _ _ _ h p l e s m args below meth c E H locs ls C hP hS hL (smOKs_1 trivial hst))
  case bipush n =>
    intro p l e s m args below meth c E H locs ls C hP hS hL hst
    obtain ⟨hx, hb, hml, hr, hlk, hown, hts, hKs, hE⟩ := id C
    exact lv_bipush hx hb hd (of_decide_eq_true hc) (hgo _ _ _ _ h p l e s m args below meth c E H locs ls C hP hS hL (smOKs_1 trivial hst))
  case sipush n =>
    intro p l e s m args below meth c E H locs ls C hP hS hL hst
    obtain ⟨hx, hb, hml, hr, hlk, hown, hts, hKs, hE⟩ := id C
    exact lv_sipush hx hb hd (of_decide_eq_true hc) (hgo _ _ _ _ h p l e s m args below meth c E H locs ls C hP hS hL (smOKs_1 trivial hst))
  case ldc n =>
    intro p l e s m args below meth c E H locs ls C hP hS hL hst
    obtain ⟨hx, hb, hml, hr, hlk, hown, hts, hKs, hE⟩ := id C
    obtain ⟨⟨q1, q2, q3⟩, hq, hq2⟩ := List.any_eq_true.mp hc
    simp only [Bool.and_eq_true, beq_iff_eq] at hq2
    obtain ⟨rfl, rfl⟩ := hq2
    have hz' := of_decide_eq_true hz
    subst hz'
    exact lv_ldc hx hb hown (hts _ (smCn_in _ _ hq)) hd (hgo _ _ _ _ h p l e s m args below meth c E H locs ls C hP hS hL (smOKs_1 trivial hst))
  case ldc_w n =>
    intro p l e s m args below meth c E H locs ls C hP hS hL hst
    obtain ⟨hx, hb, hml, hr, hlk, hown, hts, hKs, hE⟩ := id C
    obtain ⟨⟨q1, q2, q3⟩, hq, hq2⟩ := List.any_eq_true.mp hc
    simp only [Bool.and_eq_true, beq_iff_eq] at hq2
    obtain ⟨rfl, rfl⟩ := hq2
    have hz' := of_decide_eq_true hz
    subst hz'
    exact lv_ldcw hx hb hown (hts _ (smCn_in _ _ hq)) hd (hgo _ _ _ _ h p l e s m args below meth c E H locs ls C hP hS hL (smOKs_1 trivial hst))
  case ldc2_w n =>
    intro p l e s m args below meth c E H locs ls C hP hS hL hst
    obtain ⟨hx, hb, hml, hr, hlk, hown, hts, hKs, hE⟩ := id C
    obtain ⟨⟨q1, q2, q3⟩, hq, hq2⟩ := List.any_eq_true.mp hc
    simp only [Bool.and_eq_true, beq_iff_eq] at hq2
    obtain ⟨rfl, rfl⟩ := hq2
    have hz' := of_decide_eq_true hz
    subst hz'
    exact lv_ldc2 hx hb hown (hts _ (smCl_in _ _ hq)) hd (hgo _ _ _ _ h p l e s m args below meth c E H locs ls C hP hS hL (smOKs_1 trivial hst))
  case iload_n n =>
    intro p l e s m args below meth c E H locs ls C hP hS hL hst
    obtain ⟨hx, hb, hml, hr, hlk, hown, hts, hKs, hE⟩ := id C
    obtain ⟨x, hi, h⟩ := smLI_inv h
    exact lv_iload_n hx hb hd rfl (hL.2.2 _ _ hi).1 (hgo _ _ _ _ h p l e s m args below meth c E H locs ls C hP hS hL (smOKs_1 trivial hst))
  case iload n =>
    intro p l e s m args below meth c E H locs ls C hP hS hL hst
    obtain ⟨hx, hb, hml, hr, hlk, hown, hts, hKs, hE⟩ := id C
    obtain ⟨x, hi, h⟩ := smLI_inv h
    exact lv_iload hx hb hd (hL.2.2 _ _ hi).1 (hgo _ _ _ _ h p l e s m args below meth c E H locs ls C hP hS hL (smOKs_1 trivial hst))
  case aload_n n =>
    intro p l e s m args below meth c E H locs ls C hP hS hL hst
    obtain ⟨hx, hb, hml, hr, hlk, hown, hts, hKs, hE⟩ := id C
    obtain ⟨x, hi, h⟩ := smLR_inv h
    exact lv_aload_n hx hb hd rfl (hL.2.2 _ _ hi).1 (hgo _ _ _ _ h p l e s m args below meth c E H locs ls C hP hS hL (smOKs_1 (hL.2.2 _ _ hi).2.1 hst))
  case aload n =>
    intro p l e s m args below meth c E H locs ls C hP hS hL hst
    obtain ⟨hx, hb, hml, hr, hlk, hown, hts, hKs, hE⟩ := id C
    obtain ⟨x, hi, h⟩ := smLR_inv h
    exact lv_aload hx hb hd (hL.2.2 _ _ hi).1 (hgo _ _ _ _ h p l e s m args below meth c E H locs ls C hP hS hL (smOKs_1 (hL.2.2 _ _ hi).2.1 hst))
  case istore_n n =>
    intro p l e s m args below meth c E H locs ls C hP hS hL hst
    obtain ⟨hx, hb, hml, hr, hlk, hown, hts, hKs, hE⟩ := id C
    obtain ⟨x, r, rfl, h⟩ := smI1_inv h
    exact lv_istore_n hx hb hd rfl (smLs_has hL) (of_decide_eq_true hc) rfl (fun ls2 h2 => hgo _ _ _ _ (smSet_eq h) p l e s m args below meth c E H locs ls2 C hP hS (smLs_set hL trivial rfl h2) (smOKs_t hst))
  case istore n =>
    intro p l e s m args below meth c E H locs ls C hP hS hL hst
    obtain ⟨hx, hb, hml, hr, hlk, hown, hts, hKs, hE⟩ := id C
    obtain ⟨x, r, rfl, h⟩ := smI1_inv h
    exact lv_istore hx hb hd (smLs_has hL) (of_decide_eq_true hc) rfl (fun ls2 h2 => hgo _ _ _ _ (smSet_eq h) p l e s m args below meth c E H locs ls2 C hP hS (smLs_set hL trivial rfl h2) (smOKs_t hst))
  case astore_n n =>
    intro p l e s m args below meth c E H locs ls C hP hS hL hst
    obtain ⟨hx, hb, hml, hr, hlk, hown, hts, hKs, hE⟩ := id C
    obtain ⟨q, r, rfl, h⟩ := smR1_inv h
    exact lv_astore_n hx hb hd rfl (smLs_has hL) (of_decide_eq_true hc) rfl (fun ls2 h2 => hgo _ _ _ _ (smSet_eq h) p l e s m args below meth c E H locs ls2 C hP hS (smLs_set hL (hst _ List.mem_cons_self) rfl h2) (smOKs_t hst))
  case astore n =>
    intro p l e s m args below meth c E H locs ls C hP hS hL hst
    obtain ⟨hx, hb, hml, hr, hlk, hown, hts, hKs, hE⟩ := id C
    obtain ⟨q, r, rfl, h⟩ := smR1_inv h
    exact lv_astore hx hb hd (smLs_has hL) (of_decide_eq_true hc) rfl (fun ls2 h2 => hgo _ _ _ _ (smSet_eq h) p l e s m args below meth c E H locs ls2 C hP hS (smLs_set hL (hst _ List.mem_cons_self) rfl h2) (smOKs_t hst))
  case iinc n v =>
    intro p l e s m args below meth c E H locs ls C hP hS hL hst
    obtain ⟨hx, hb, hml, hr, hlk, hown, hts, hKs, hE⟩ := id C
    obtain ⟨x, hi, h⟩ := smLI_inv h
    obtain ⟨j, hj⟩ := List.getElem?_of_mem (smPr_mem (ad := E.2.2) hi)
    exact lv_iinc (v := Int32.ofInt (x + v)) hx hb hd (smLs_has hL) (k := j) hj (by rw [Int32.ofInt_add]) (of_decide_eq_true hc) rfl (fun ls2 h2 => hgo _ _ _ _ (smSet_eq h) p l e s m args below meth c E H locs ls2 C hP hS (smLs_set (v := .inl (x + v)) hL trivial rfl h2) hst)
  case iadd =>
    intro p l e s m args below meth c E H locs ls C hP hS hL hst
    obtain ⟨hx, hb, hml, hr, hlk, hown, hts, hKs, hE⟩ := id C
    obtain ⟨x, y, r, rfl, h⟩ := smI2_inv h
    have K := hgo _ _ _ _ h p l e s m args below meth c E H locs ls C hP hS hL (smOKs_1 trivial (smOKs_t (smOKs_t hst)))
    refine lv_iadd hx hb hd ?_
    rw [← Int32.ofInt_add]
    exact K
  case isub =>
    intro p l e s m args below meth c E H locs ls C hP hS hL hst
    obtain ⟨hx, hb, hml, hr, hlk, hown, hts, hKs, hE⟩ := id C
    obtain ⟨x, y, r, rfl, h⟩ := smI2_inv h
    have K := hgo _ _ _ _ h p l e s m args below meth c E H locs ls C hP hS hL (smOKs_1 trivial (smOKs_t (smOKs_t hst)))
    refine lv_isub hx hb hd ?_
    rw [← Int32.ofInt_sub]
    exact K
  case imul =>
    intro p l e s m args below meth c E H locs ls C hP hS hL hst
    obtain ⟨hx, hb, hml, hr, hlk, hown, hts, hKs, hE⟩ := id C
    obtain ⟨x, y, r, rfl, h⟩ := smI2_inv h
    have K := hgo _ _ _ _ h p l e s m args below meth c E H locs ls C hP hS hL (smOKs_1 trivial (smOKs_t (smOKs_t hst)))
    refine lv_imul hx hb hd ?_
    rw [← Int32.ofInt_mul]
    exact K
  case ineg =>
    intro p l e s m args below meth c E H locs ls C hP hS hL hst
    obtain ⟨hx, hb, hml, hr, hlk, hown, hts, hKs, hE⟩ := id C
    obtain ⟨x, r, rfl, h⟩ := smI1_inv h
    have K := hgo _ _ _ _ h p l e s m args below meth c E H locs ls C hP hS hL (smOKs_1 trivial (smOKs_t hst))
    refine lv_ineg hx hb hd ?_
    rw [← Int32.ofInt_neg]
    exact K
  case idiv =>
    intro p l e s m args below meth c E H locs ls C hP hS hL hst
    obtain ⟨hx, hb, hml, hr, hlk, hown, hts, hKs, hE⟩ := id C
    obtain ⟨x, y, r, rfl, h1, h2, h3, h⟩ := smI2_inv h
    have K := hgo _ _ _ _ h p l e s m args below meth c E H locs ls C hP hS hL (smOKs_1 trivial (smOKs_t (smOKs_t hst)))
    refine lv_idiv hx hb hd (sm_ne0 h2 h3) ?_
    rw [sm_div h1 h2 h3]
    exact K
  case irem =>
    intro p l e s m args below meth c E H locs ls C hP hS hL hst
    obtain ⟨hx, hb, hml, hr, hlk, hown, hts, hKs, hE⟩ := id C
    obtain ⟨x, y, r, rfl, h1, h2, h3, h⟩ := smI2_inv h
    have K := hgo _ _ _ _ h p l e s m args below meth c E H locs ls C hP hS hL (smOKs_1 trivial (smOKs_t (smOKs_t hst)))
    refine lv_irem hx hb hd (sm_ne0 h2 h3) ?_
    rw [sm_rem h1 h2 h3]
    exact K
  case iand =>
    intro p l e s m args below meth c E H locs ls C hP hS hL hst
    obtain ⟨hx, hb, hml, hr, hlk, hown, hts, hKs, hE⟩ := id C
    obtain ⟨x, y, r, rfl, h⟩ := smI2_inv h
    have K := hgo _ _ _ _ h p l e s m args below meth c E H locs ls C hP hS hL (smOKs_1 trivial (smOKs_t (smOKs_t hst)))
    refine lv_iand hx hb hd ?_
    simp only [List.map_cons, smCv, smAnd, sm_ofToInt] at K
    exact K
  case ior =>
    intro p l e s m args below meth c E H locs ls C hP hS hL hst
    obtain ⟨hx, hb, hml, hr, hlk, hown, hts, hKs, hE⟩ := id C
    obtain ⟨x, y, r, rfl, h⟩ := smI2_inv h
    have K := hgo _ _ _ _ h p l e s m args below meth c E H locs ls C hP hS hL (smOKs_1 trivial (smOKs_t (smOKs_t hst)))
    refine lv_ior hx hb hd ?_
    simp only [List.map_cons, smCv, smOr, sm_ofToInt] at K
    exact K
  case ixor =>
    intro p l e s m args below meth c E H locs ls C hP hS hL hst
    obtain ⟨hx, hb, hml, hr, hlk, hown, hts, hKs, hE⟩ := id C
    obtain ⟨x, y, r, rfl, h⟩ := smI2_inv h
    have K := hgo _ _ _ _ h p l e s m args below meth c E H locs ls C hP hS hL (smOKs_1 trivial (smOKs_t (smOKs_t hst)))
    refine lv_ixor hx hb hd ?_
    simp only [List.map_cons, smCv, smXor, sm_ofToInt] at K
    exact K
  case ishl =>
    intro p l e s m args below meth c E H locs ls C hP hS hL hst
    obtain ⟨hx, hb, hml, hr, hlk, hown, hts, hKs, hE⟩ := id C
    obtain ⟨x, y, r, rfl, h⟩ := smI2_inv h
    have K := hgo _ _ _ _ h p l e s m args below meth c E H locs ls C hP hS hL (smOKs_1 trivial (smOKs_t (smOKs_t hst)))
    refine lv_ishl hx hb hd ?_
    simp only [List.map_cons, smCv, smShl, sm_ofToInt] at K
    exact K
  case ishr =>
    intro p l e s m args below meth c E H locs ls C hP hS hL hst
    obtain ⟨hx, hb, hml, hr, hlk, hown, hts, hKs, hE⟩ := id C
    obtain ⟨x, y, r, rfl, h⟩ := smI2_inv h
    have K := hgo _ _ _ _ h p l e s m args below meth c E H locs ls C hP hS hL (smOKs_1 trivial (smOKs_t (smOKs_t hst)))
    refine lv_ishr hx hb hd ?_
    simp only [List.map_cons, smCv, smShr, sm_ofToInt] at K
    exact K
  case iushr =>
    intro p l e s m args below meth c E H locs ls C hP hS hL hst
    obtain ⟨hx, hb, hml, hr, hlk, hown, hts, hKs, hE⟩ := id C
    obtain ⟨x, y, r, rfl, h⟩ := smI2_inv h
    have K := hgo _ _ _ _ h p l e s m args below meth c E H locs ls C hP hS hL (smOKs_1 trivial (smOKs_t (smOKs_t hst)))
    simp only [List.map_cons, smCv, smUsh, sm_ofToInt] at K
    exact lv_iushr hx hb hd rfl K
  case ifCond cn off =>
    intro p l e s m args below meth c E H locs ls C hP hS hL hst
    obtain ⟨hx, hb, hml, hr, hlk, hown, hts, hKs, hE⟩ := id C
    cases cn
    · obtain ⟨x, r, rfl, h1, ht, hf⟩ := smI1_inv h
      exact lv_if_eq hx hb hd (of_decide_eq_true hc) (fun z => hgo _ _ _ _ (ht ((sm_eq h1 smIR_0).mp z)) p l e s m args below meth c E H locs ls C hP hS hL (smOKs_t hst)) (fun z => hgo _ _ _ _ (hf (fun w => z ((sm_eq h1 smIR_0).mpr w))) p l e s m args below meth c E H locs ls C hP hS hL (smOKs_t hst))
    · obtain ⟨x, r, rfl, h1, ht, hf⟩ := smI1_inv h
      exact lv_if_ne hx hb hd (of_decide_eq_true hc) (fun z => hgo _ _ _ _ (ht (fun w => z ((sm_eq h1 smIR_0).mpr w))) p l e s m args below meth c E H locs ls C hP hS hL (smOKs_t hst)) (fun z => hgo _ _ _ _ (hf ((sm_eq h1 smIR_0).mp z)) p l e s m args below meth c E H locs ls C hP hS hL (smOKs_t hst))
    · obtain ⟨x, r, rfl, h1, ht, hf⟩ := smI1_inv h
      exact lv_if_lt hx hb hd (of_decide_eq_true hc) (fun z => hgo _ _ _ _ (ht ((sm_lt h1 smIR_0).mp z)) p l e s m args below meth c E H locs ls C hP hS hL (smOKs_t hst)) (fun z => hgo _ _ _ _ (hf (Int.not_lt.mp (fun w => z ((sm_lt h1 smIR_0).mpr w)))) p l e s m args below meth c E H locs ls C hP hS hL (smOKs_t hst))
    · obtain ⟨x, r, rfl, h1, ht, hf⟩ := smI1_inv h
      exact lv_if_ge hx hb hd (of_decide_eq_true hc) (fun z => hgo _ _ _ _ (ht ((sm_le smIR_0 h1).mp z)) p l e s m args below meth c E H locs ls C hP hS hL (smOKs_t hst)) (fun z => hgo _ _ _ _ (hf (Int.not_le.mp (fun w => z ((sm_le smIR_0 h1).mpr w)))) p l e s m args below meth c E H locs ls C hP hS hL (smOKs_t hst))
    · obtain ⟨x, r, rfl, h1, ht, hf⟩ := smI1_inv h
      exact lv_if_gt hx hb hd (of_decide_eq_true hc) (fun z => hgo _ _ _ _ (ht ((sm_lt smIR_0 h1).mp z)) p l e s m args below meth c E H locs ls C hP hS hL (smOKs_t hst)) (fun z => hgo _ _ _ _ (hf (Int.not_lt.mp (fun w => z ((sm_lt smIR_0 h1).mpr w)))) p l e s m args below meth c E H locs ls C hP hS hL (smOKs_t hst))
    · obtain ⟨x, r, rfl, h1, ht, hf⟩ := smI1_inv h
      exact lv_if_le hx hb hd (of_decide_eq_true hc) (fun z => hgo _ _ _ _ (ht ((sm_le h1 smIR_0).mp z)) p l e s m args below meth c E H locs ls C hP hS hL (smOKs_t hst)) (fun z => hgo _ _ _ _ (hf (Int.not_le.mp (fun w => z ((sm_le h1 smIR_0).mpr w)))) p l e s m args below meth c E H locs ls C hP hS hL (smOKs_t hst))
  case if_icmp cn off =>
    intro p l e s m args below meth c E H locs ls C hP hS hL hst
    obtain ⟨hx, hb, hml, hr, hlk, hown, hts, hKs, hE⟩ := id C
    cases cn
    · obtain ⟨x, y, r, rfl, h1, h2, ht, hf⟩ := smI2_inv h
      exact lv_icmp_eq hx hb hd (of_decide_eq_true hc) (fun z => hgo _ _ _ _ (ht ((sm_eq h1 h2).mp z)) p l e s m args below meth c E H locs ls C hP hS hL (smOKs_t (smOKs_t hst))) (fun z => hgo _ _ _ _ (hf (fun w => z ((sm_eq h1 h2).mpr w))) p l e s m args below meth c E H locs ls C hP hS hL (smOKs_t (smOKs_t hst)))
    · obtain ⟨x, y, r, rfl, h1, h2, ht, hf⟩ := smI2_inv h
      exact lv_icmp_ne hx hb hd (of_decide_eq_true hc) (fun z => hgo _ _ _ _ (ht (fun w => z ((sm_eq h1 h2).mpr w))) p l e s m args below meth c E H locs ls C hP hS hL (smOKs_t (smOKs_t hst))) (fun z => hgo _ _ _ _ (hf ((sm_eq h1 h2).mp z)) p l e s m args below meth c E H locs ls C hP hS hL (smOKs_t (smOKs_t hst)))
    · obtain ⟨x, y, r, rfl, h1, h2, ht, hf⟩ := smI2_inv h
      exact lv_icmp_lt hx hb hd (of_decide_eq_true hc) (fun z => hgo _ _ _ _ (ht ((sm_lt h1 h2).mp z)) p l e s m args below meth c E H locs ls C hP hS hL (smOKs_t (smOKs_t hst))) (fun z => hgo _ _ _ _ (hf (Int.not_lt.mp (fun w => z ((sm_lt h1 h2).mpr w)))) p l e s m args below meth c E H locs ls C hP hS hL (smOKs_t (smOKs_t hst)))
    · obtain ⟨x, y, r, rfl, h1, h2, ht, hf⟩ := smI2_inv h
      exact lv_icmp_ge hx hb hd (of_decide_eq_true hc) (fun z => hgo _ _ _ _ (ht ((sm_le h2 h1).mp z)) p l e s m args below meth c E H locs ls C hP hS hL (smOKs_t (smOKs_t hst))) (fun z => hgo _ _ _ _ (hf (Int.not_le.mp (fun w => z ((sm_le h2 h1).mpr w)))) p l e s m args below meth c E H locs ls C hP hS hL (smOKs_t (smOKs_t hst)))
    · obtain ⟨x, y, r, rfl, h1, h2, ht, hf⟩ := smI2_inv h
      exact lv_icmp_gt hx hb hd (of_decide_eq_true hc) (fun z => hgo _ _ _ _ (ht ((sm_lt h2 h1).mp z)) p l e s m args below meth c E H locs ls C hP hS hL (smOKs_t (smOKs_t hst))) (fun z => hgo _ _ _ _ (hf (Int.not_lt.mp (fun w => z ((sm_lt h2 h1).mpr w)))) p l e s m args below meth c E H locs ls C hP hS hL (smOKs_t (smOKs_t hst)))
    · obtain ⟨x, y, r, rfl, h1, h2, ht, hf⟩ := smI2_inv h
      exact lv_icmp_le hx hb hd (of_decide_eq_true hc) (fun z => hgo _ _ _ _ (ht ((sm_le h1 h2).mp z)) p l e s m args below meth c E H locs ls C hP hS hL (smOKs_t (smOKs_t hst))) (fun z => hgo _ _ _ _ (hf (Int.not_le.mp (fun w => z ((sm_le h1 h2).mpr w)))) p l e s m args below meth c E H locs ls C hP hS hL (smOKs_t (smOKs_t hst)))
  case goto off =>
    intro p l e s m args below meth c E H locs ls C hP hS hL hst
    obtain ⟨hx, hb, hml, hr, hlk, hown, hts, hKs, hE⟩ := id C
    exact lv_goto hx hb hd (of_decide_eq_true hc) (hgo _ _ _ _ h p l e s m args below meth c E H locs ls C hP hS hL hst)
  case dup =>
    intro p l e s m args below meth c E H locs ls C hP hS hL hst
    obtain ⟨hx, hb, hml, hr, hlk, hown, hts, hKs, hE⟩ := id C
    rcases st with _ | ⟨v, r⟩
    · exact False.elim h
    · obtain ⟨h1, h⟩ := smCond_inv h
      exact lv_dup hx hb hd (smCv_c1 _ h1) (hgo _ _ _ _ h p l e s m args below meth c E H locs ls C hP hS hL (smOKs_1 (hst _ List.mem_cons_self) hst))
  case dup2 =>
    intro p l e s m args below meth c E H locs ls C hP hS hL hst
    obtain ⟨hx, hb, hml, hr, hlk, hown, hts, hKs, hE⟩ := id C
    rcases st with _ | ⟨v, _ | ⟨w, r⟩⟩
    · exact False.elim h
    · exact False.elim h
    · obtain ⟨h1, h⟩ := smCond_inv h
      simp only [Bool.and_eq_true] at h1
      exact lv_dup2_11 hx hb hd (smCv_c1 _ h1.1) (smCv_c1 _ h1.2) (hgo _ _ _ _ h p l e s m args below meth c E H locs ls C hP hS hL (smOKs_1 (hst _ List.mem_cons_self) (smOKs_1 (hst _ (List.mem_cons_of_mem _ List.mem_cons_self)) hst)))
  case pop =>
    intro p l e s m args below meth c E H locs ls C hP hS hL hst
    obtain ⟨hx, hb, hml, hr, hlk, hown, hts, hKs, hE⟩ := id C
    rcases st with _ | ⟨v, r⟩
    · exact False.elim h
    · obtain ⟨h1, h⟩ := smCond_inv h
      exact lv_pop hx hb hd (smCv_c1 _ h1) (hgo _ _ _ _ h p l e s m args below meth c E H locs ls C hP hS hL (smOKs_t hst))
  case getfield n =>
    intro p l e s m args below meth c E H locs ls C hP hS hL hst
    obtain ⟨hx, hb, hml, hr, hlk, hown, hts, hKs, hE⟩ := id C
    have hc' : ((smFl (smMd k).1).any (fun q => q.1 == n && q.2.1 == a && q.2.2.1 == b) && decide (b < smTn a) && decide (a < 12)) = true := hc
    simp only [Bool.and_eq_true, decide_eq_true_eq] at hc'
    obtain ⟨⟨h1, hbn⟩, ha⟩ := hc'
    obtain ⟨⟨q1, q2, q3, q4⟩, hq, hq2⟩ := List.any_eq_true.mp h1
    simp only [Bool.and_eq_true, beq_iff_eq] at hq2
    obtain ⟨⟨rfl, rfl⟩, rfl⟩ := hq2
    have hw := hts _ (smFl_in _ _ hq)
    have hz' := of_decide_eq_true hz
    subst hz'
    have hcl := smCl_ok q2 ha
    obtain ⟨o, r, rfl, hA⟩ := smO1_inv h
    have hsh : smSh[o]? = some (.inl q2) := hst _ List.mem_cons_self
    have hat : (smWs E mem)[o]? = some (E.2.2 o, .inr (q2, smFv E.2.2 mem o (smLay q2) 0)) := smWs_at hsh
    rcases smGf_inv hA with ⟨hlb, h⟩ | ⟨z, hlb, hz2, h⟩ | ⟨q, hlb, h⟩
    · exact va_get (D := E.1) (ci := q2) (v := .ref (E.2.2 (o + 1000))) (C := smRn q2) (T := smTx q2) (N := smTn q2) hx hb hts hcl.1 hown hKs.1 hP o hat hcl.2.1 q3 hbn hw (fun _ h9 => h9) (by rw [smFv_get, hlb]; simp [smF1, smFi]) hd (hgo _ _ _ _ h p l e s m args below meth c E H locs ls C hP hS hL (smOKs_1 (by show smSh[o]? = some (.inl 1); rw [hsh, smLay_2 ha hlb]) (smOKs_t hst)))
    · have hz3 : (z == 2) = false := by simpa using hz2
      exact va_get (D := E.1) (ci := q2) (v := .int (Int32.ofInt (mem o (q3 : Int)))) (C := smRn q2) (T := smTx q2) (N := smTn q2) hx hb hts hcl.1 hown hKs.1 hP o hat hcl.2.1 q3 hbn hw (fun _ h9 => h9) (by rw [smFv_get, hlb]; simp [smF1, smFi, hz3]) hd (hgo _ _ _ _ h p l e s m args below meth c E H locs ls C hP hS hL (smOKs_1 trivial (smOKs_t hst)))
    · exact va_get (D := E.1) (ci := q2) (v := .ref (E.2.2 (o + q.2))) (C := smRn q2) (T := smTx q2) (N := smTn q2) hx hb hts hcl.1 hown hKs.1 hP o hat hcl.2.1 q3 hbn hw (fun _ h9 => h9) (by rw [smFv_get, hlb]; simp [smF1]) hd (hgo _ _ _ _ h p l e s m args below meth c E H locs ls C hP hS hL (smOKs_1 ((smSh_cls hsh).2 q3 q hlb) (smOKs_t hst)))
  case putfield n =>
    intro p l e s m args below meth c E H locs ls C hP hS hL hst
    obtain ⟨hx, hb, hml, hr, hlk, hown, hts, hKs, hE⟩ := id C
    have hc' : ((smFl (smMd k).1).any (fun q => q.1 == n && q.2.1 == a && q.2.2.1 == b) && decide (b < smTn a) && decide (a < 12)) = true := hc
    simp only [Bool.and_eq_true, decide_eq_true_eq] at hc'
    obtain ⟨⟨h1, hbn⟩, ha⟩ := hc'
    obtain ⟨⟨q1, q2, q3, q4⟩, hq, hq2⟩ := List.any_eq_true.mp h1
    simp only [Bool.and_eq_true, beq_iff_eq] at hq2
    obtain ⟨⟨rfl, rfl⟩, rfl⟩ := hq2
    have hw := hts _ (smFl_in _ _ hq)
    have hz' := of_decide_eq_true hz
    subst hz'
    have hcl := smCl_ok q2 ha
    obtain ⟨x, r1, rfl, hA⟩ := smI1_inv h
    obtain ⟨o, r, rfl, hB⟩ := smO1_inv hA
    have hsh : smSh[o]? = some (.inl q2) := hst _ (List.mem_cons_of_mem _ List.mem_cons_self)
    have hat : (smWs E mem)[o]? = some (E.2.2 o, .inr (q2, smFv E.2.2 mem o (smLay q2) 0)) := smWs_at hsh
    rcases smPf_inv hB with ⟨hlb, h⟩ | ⟨hlb, h⟩
    · have hty := (smLay_ok ha hbn).1 hlb
      refine va_put (D := E.1) (ci := q2) (v := .int (Int32.ofInt x)) (ty := .int) (A := smA E s.heap.size) (C := smRn q2) (T := smTx q2) (N := smTn q2) hx hb hts hcl.1 (smTy q2) hcl.2.2.1 hcl.2.2.2 hown hKs.1 hP (smD_of hE _ _) hS o hat hcl.2.1 q3 hbn hw (fun _ h9 => h9) hty.2 (by rw [hcl.2.2.1 q3 hbn, hty.1]) rfl rfl (by rw [smFv_len]; exact hbn) hd (fun H1 locs1 hP1 _ hS1 => ?_)
      rw [smWs_set (mem' := smU mem o (q3 : Int) x) hsh (by simp only [smCe]; rw [smFv_set (by decide) hlb]) (fun j hj i => smU_ne hj i) (fun _ i => by have := smTn_100 ha; simp only [smU, true_and]; rw [if_neg (by omega)])] at hP1
      exact hgo _ _ _ _ h p l e s m args below meth c E H1 locs1 ls C hP1 hS1 hL (smOKs_t (smOKs_t hst))
    · have hty := (smLay_ok ha hbn).2 hlb
      have hx2 : narrow .boolean (.int (Int32.ofInt x)) = .int (Int32.ofInt x) ∧ fits .boolean (.int (Int32.ofInt x)) = true := by
        rcases h.1 with rfl | rfl <;> exact ⟨rfl, rfl⟩
      refine va_put (D := E.1) (ci := q2) (v := .int (Int32.ofInt x)) (ty := .boolean) (A := smA E s.heap.size) (C := smRn q2) (T := smTx q2) (N := smTn q2) hx hb hts hcl.1 (smTy q2) hcl.2.2.1 hcl.2.2.2 hown hKs.1 hP (smD_of hE _ _) hS o hat hcl.2.1 q3 hbn hw (fun _ h9 => h9) hty.2 (by rw [hcl.2.2.1 q3 hbn, hty.1]) hx2.1 hx2.2 (by rw [smFv_len]; exact hbn) hd (fun H1 locs1 hP1 _ hS1 => ?_)
      rw [smWs_set (mem' := smU mem o (q3 : Int) x) hsh (by simp only [smCe]; rw [smFv_set (by decide) hlb]) (fun j hj i => smU_ne hj i) (fun _ i => by have := smTn_100 ha; simp only [smU, true_and]; rw [if_neg (by omega)])] at hP1
      exact hgo _ _ _ _ h.2 p l e s m args below meth c E H1 locs1 ls C hP1 hS1 hL (smOKs_t (smOKs_t hst))
  case baload =>
    intro p l e s m args below meth c E H locs ls C hP hS hL hst
    obtain ⟨hx, hb, hml, hr, hlk, hown, hts, hKs, hE⟩ := id C
    obtain ⟨n, o, i, r, rfl, hn, ⟨h0, h1⟩, h⟩ := smX1_inv h
    have hsh : smSh[o]? = some (.inr (true, n)) := hst _ (List.mem_cons_of_mem _ List.mem_cons_self)
    have hat : (smWs E mem)[o]? = some (E.2.2 o, .inl (E.2.1.2, n, .inl (fun j => Int32.ofInt (mem o (j : Int))))) := smWs_at hsh
    obtain ⟨hi1, hi2⟩ := sm_idx h0 h1 (by omega)
    have K := hgo _ _ _ _ h p l e s m args below meth c E H locs ls C hP hS hL (smOKs_1 trivial (smOKs_t (smOKs_t hst)))
    refine va_zald hx hb hKs.1 hP o 1 hat rfl hi1 hd ?_
    rw [hi2, Int.toNat_of_nonneg h0]
    exact K
  case iaload =>
    intro p l e s m args below meth c E H locs ls C hP hS hL hst
    obtain ⟨hx, hb, hml, hr, hlk, hown, hts, hKs, hE⟩ := id C
    rcases smX2_inv h with ⟨n, o, i, r, rfl, hn, ⟨h0, h1⟩, h⟩ | ⟨o, i, r, rfl, ⟨h0, h1⟩, h⟩
    · have hsh : smSh[o]? = some (.inr (false, n)) := hst _ (List.mem_cons_of_mem _ List.mem_cons_self)
      have hat : (smWs E mem)[o]? = some (E.2.2 o, .inl (E.2.1.1, n, .inl (fun j => Int32.ofInt (mem o (j : Int))))) := smWs_at hsh
      obtain ⟨hi1, hi2⟩ := sm_idx h0 h1 (by omega)
      have K := hgo _ _ _ _ h p l e s m args below meth c E H locs ls C hP hS hL (smOKs_1 trivial (smOKs_t (smOKs_t hst)))
      refine va_iald hx hb hKs.1 hP o 0 hat rfl hi1 hd ?_
      rw [hi2, Int.toNat_of_nonneg h0]
      exact K
    · have hsh : smSh[o]? = some (.inl 1) := hst (.inr (.inr (.inr o))) (List.mem_cons_of_mem _ List.mem_cons_self)
      have hat : (smWs E mem)[smIx o]? = some (E.2.2 (o + 1000), .inl (E.2.1.1, 12, .inl (fun j => Int32.ofInt (mem o (100 + (j : Int)))))) := smWs_vat hsh
      obtain ⟨hi1, hi2⟩ := sm_idx (n := 12) h0 h1 (by omega)
      have K := hgo _ _ _ _ h p l e s m args below meth c E H locs ls C hP hS hL (smOKs_1 trivial (smOKs_t (smOKs_t hst)))
      refine va_iald hx hb hKs.1 hP (smIx o) 0 hat rfl hi1 hd ?_
      rw [hi2, Int.toNat_of_nonneg h0]
      exact K
  case bastore =>
    intro p l e s m args below meth c E H locs ls C hP hS hL hst
    obtain ⟨hx, hb, hml, hr, hlk, hown, hts, hKs, hE⟩ := id C
    obtain ⟨x, r1, rfl, h⟩ := smI1_inv h
    obtain ⟨n, o, i, r, rfl, hn, hz, ⟨h0, h1⟩, h⟩ := smX1_inv h
    have hsh : smSh[o]? = some (.inr (true, n)) := hst _ (List.mem_cons_of_mem _ (List.mem_cons_of_mem _ List.mem_cons_self))
    have hat : (smWs E mem)[o]? = some (E.2.2 o, .inl (E.2.1.2, n, .inl (fun j => Int32.ofInt (mem o (j : Int))))) := smWs_at hsh
    obtain ⟨hi1, hi2⟩ := sm_idx h0 h1 (by omega)
    refine va_zast (A := smA E s.heap.size) hx hb hKs.1 hP (smD_of hE _ _) hS o 1 hat rfl hi1 hd (fun H1 locs1 hP1 _ hS1 => ?_)
    rw [hi2] at hP1
    have hset := smWs_set (E := E) (mem := mem) (mem' := smU mem o i x) hsh (smRow_set (z := true) h0 (vp_nar .boolean (Int32.ofInt x)) (by rcases hz with rfl | rfl <;> rfl)) (fun j hj i => smU_ne hj i) (fun z => by cases z)
    simp only [cond_true, cond_false] at hset
    rw [hset] at hP1
    exact hgo _ _ _ _ h p l e s m args below meth c E H1 locs1 ls C hP1 hS1 hL (smOKs_t (smOKs_t (smOKs_t hst)))
  case iastore =>
    intro p l e s m args below meth c E H locs ls C hP hS hL hst
    obtain ⟨hx, hb, hml, hr, hlk, hown, hts, hKs, hE⟩ := id C
    obtain ⟨x, r1, rfl, h⟩ := smI1_inv h
    rcases smX2_inv h with ⟨n, o, i, r, rfl, hn, ⟨h0, h1⟩, h⟩ | ⟨o, i, r, rfl, ⟨h0, h1⟩, h⟩
    · have hsh : smSh[o]? = some (.inr (false, n)) := hst _ (List.mem_cons_of_mem _ (List.mem_cons_of_mem _ List.mem_cons_self))
      have hat : (smWs E mem)[o]? = some (E.2.2 o, .inl (E.2.1.1, n, .inl (fun j => Int32.ofInt (mem o (j : Int))))) := smWs_at hsh
      obtain ⟨hi1, hi2⟩ := sm_idx h0 h1 (by omega)
      refine va_iast (A := smA E s.heap.size) hx hb hKs.1 hP (smD_of hE _ _) hS o 0 hat rfl hi1 hd (fun H1 locs1 hP1 _ hS1 => ?_)
      rw [hi2] at hP1
      have hset := smWs_set (E := E) (mem := mem) (mem' := smU mem o i x) hsh (smRow_set (z := false) h0 (Int32.ofInt x) rfl) (fun j hj i => smU_ne hj i) (fun z => by cases z)
      simp only [cond_true, cond_false] at hset
      rw [hset] at hP1
      exact hgo _ _ _ _ h p l e s m args below meth c E H1 locs1 ls C hP1 hS1 hL (smOKs_t (smOKs_t (smOKs_t hst)))
    · have hsh : smSh[o]? = some (.inl 1) := hst (.inr (.inr (.inr o))) (List.mem_cons_of_mem _ (List.mem_cons_of_mem _ List.mem_cons_self))
      have hat : (smWs E mem)[smIx o]? = some (E.2.2 (o + 1000), .inl (E.2.1.1, 12, .inl (fun j => Int32.ofInt (mem o (100 + (j : Int)))))) := smWs_vat hsh
      obtain ⟨hi1, hi2⟩ := sm_idx (n := 12) h0 h1 (by omega)
      refine va_iast (A := smA E s.heap.size) hx hb hKs.1 hP (smD_of hE _ _) hS (smIx o) 0 hat rfl hi1 hd (fun H1 locs1 hP1 _ hS1 => ?_)
      rw [hi2] at hP1
      have hset := smWs_vset (E := E) (mem := mem) (mem' := smU mem o (100 + i) x) hsh (smVe_set h0) (fun j hj i => smU_ne hj i) (fun j hj => by simp only [smU, true_and]; rw [if_neg (by omega)])
      rw [hset] at hP1
      exact hgo _ _ _ _ h p l e s m args below meth c E H1 locs1 ls C hP1 hS1 hL (smOKs_t (smOKs_t (smOKs_t hst)))
  case ireturn =>
    intro p l e s m args below meth c E H locs ls C hP hS hL hst
    obtain ⟨hx, hb, hml, hr, hlk, hown, hts, hKs, hE⟩ := id C
    obtain ⟨x, r, rfl, hA⟩ := smI1_inv h
    rcases r with _ | ⟨w, r⟩
    · rcases smRi_inv hA with ⟨hrt, h⟩ | ⟨hrt, h⟩
      · exact W.iret (v := Int32.ofInt x) hx hb (hr.trans hrt) (fun t ht hW => ⟨⟨some (.inl x), mem, rfl, h, fun w hw => by cases hw; trivial, by rw [ht]; exact hP⟩, hS.F ht⟩) hS.2.2 hd hlk
      · exact W.zret (v := Int32.ofInt x) hx hb (hr.trans hrt) (by rcases h.1 with rfl | rfl <;> rfl) (fun t ht hW => ⟨⟨some (.inl x), mem, rfl, h.2, fun w hw => by cases hw; trivial, by rw [ht]; exact hP⟩, hS.F ht⟩) hS.2.2 hd hlk
    · exact False.elim hA
  case lreturn =>
    intro p l e s m args below meth c E H locs ls C hP hS hL hst
    obtain ⟨hx, hb, hml, hr, hlk, hown, hts, hKs, hE⟩ := id C
    obtain ⟨v, rfl, hA⟩ := smS1_inv h
    rcases v with x | q | x | x
    · exact False.elim h
    · exact False.elim h
    rotate_left
    · exact False.elim h
    · obtain ⟨hrt, h⟩ := smRl_inv hA
      exact W.lret (v := Int64.ofInt x) hx hb (hr.trans hrt) (fun t ht hW => ⟨⟨some (.inr (.inr (.inl x))), mem, rfl, h, fun w hw => by cases hw; trivial, by rw [ht]; exact hP⟩, hS.F ht⟩) hS.2.2 hd hlk
  case areturn =>
    intro p l e s m args below meth c E H locs ls C hP hS hL hst
    obtain ⟨hx, hb, hml, hr, hlk, hown, hts, hKs, hE⟩ := id C
    obtain ⟨v, rfl, hA⟩ := smS1_inv h
    rcases v with x | q | x
    · exact False.elim h
    · obtain ⟨z, hrt, h⟩ := smRa_inv hA
      exact W.aret (v := .ref (E.2.2 q.2)) hx hb (hr.trans hrt) (Or.inl ⟨z, rfl⟩) (Or.inr ⟨_, rfl⟩) (fun t ht hW => ⟨⟨some (.inr (.inl q)), mem, rfl, h, fun w hw => by cases hw; exact hst _ List.mem_cons_self, by rw [ht]; exact hP⟩, hS.F ht⟩) hS.2.2 hd hlk
    · exact False.elim h
  case return_ =>
    intro p l e s m args below meth c E H locs ls C hP hS hL hst
    obtain ⟨hx, hb, hml, hr, hlk, hown, hts, hKs, hE⟩ := id C
    rcases st with _ | ⟨v, r⟩
    · obtain ⟨hrt, h⟩ := smRv_inv h
      exact W.vret hx hb (hr.trans hrt) (fun t ht hW => ⟨⟨none, mem, rfl, h, fun w hw => (by cases hw), by rw [ht]; exact hP⟩, hS.F ht⟩) hS.2.2 hd hlk
    · exact False.elim h
  case i2l =>
    intro p l e s m args below meth c E H locs ls C hP hS hL hst
    obtain ⟨hx, hb, hml, hr, hlk, hown, hts, hKs, hE⟩ := id C
    obtain ⟨x, r, rfl, h1, h⟩ := smI1_inv h
    have K := hgo _ _ _ _ h p l e s m args below meth c E H locs ls C hP hS hL (smOKs_1 trivial (smOKs_t hst))
    refine lv_i2l (v := Int64.ofInt x) hx hb hd ?_ K
    apply Int64.toInt_inj.mp
    rw [Int32.toInt_toInt64, smIR_toInt h1, Int64.toInt_ofInt_of_le (by have := h1.1; omega) (by have := h1.2; omega)]
  case tableswitch df lo hi offs =>
    intro p l e s m args below meth c E H locs ls C hP hS hL hst
    obtain ⟨hx, hb, hml, hr, hlk, hown, hts, hKs, hE⟩ := id C
    obtain ⟨x, r, rfl, h1, ho, hin⟩ := smI1_inv h
    have hc' : (decide ((offs.size : Int) = hi - lo + 1) && decide (0 ≤ (pc : Int) + df) && offs.toList.all (fun o => decide (0 ≤ (pc : Int) + o))) = true := hc
    simp only [Bool.and_eq_true, decide_eq_true_eq] at hc'
    obtain ⟨⟨c1, c2⟩, c3⟩ := hc'
    have hxi := smIR_toInt h1
    by_cases hout : x < lo ∨ hi < x
    · exact lv_tableOut hx hb hd (by rw [hxi]; exact hout) (by rw [Int.toNat_of_nonneg c2]) (hgo _ _ _ _ (ho hout) p l e s m args below meth c E H locs ls C hP hS hL (smOKs_t hst))
    · obtain ⟨of, g1, g2⟩ := smSw_at hin (by omega) (by rw [Array.length_toList]; omega)
      have g3 := of_decide_eq_true (List.all_eq_true.mp c3 of (List.mem_of_getElem? g1))
      exact lv_tableIn hx hb hd (by rw [hxi]; omega) (by rw [hxi]; omega) (by rw [hxi, ← Array.getElem?_toList]; exact g1) (by rw [Int.toNat_of_nonneg g3]) (hgo _ _ _ _ g2 p l e s m args below meth c E H locs ls C hP hS hL (smOKs_t hst))
  case lookupswitch df ps =>
    intro p l e s m args below meth c E H locs ls C hP hS hL hst
    obtain ⟨hx, hb, hml, hr, hlk, hown, hts, hKs, hE⟩ := id C
    obtain ⟨x, r, rfl, h1, ho⟩ := smI1_inv h
    have hc' : ((ps.toList.zip (ps.toList.drop 1)).all (fun (a, next) => a.1 < next.1) && decide (0 ≤ (pc : Int) + df) && ps.toList.all (fun o => decide (0 ≤ (pc : Int) + o.2))) = true := hc
    simp only [Bool.and_eq_true, decide_eq_true_eq] at hc'
    obtain ⟨⟨c1, c2⟩, c3⟩ := hc'
    have hxi := smIR_toInt h1
    exact lv_lookup hx hb hd c1 rfl (by rw [hxi, Int.toNat_of_nonneg (smLk_off c3 c2)]) (hgo _ _ _ _ (smLk_at ho) p l e s m args below meth c E H locs ls C hP hS hL (smOKs_t hst))
  case invokevirtual n => exact smVir_ok hk hd hc hgo h
  case invokestatic n => exact smSta_ok hk hd hc hgo h
  all_goals exact False.elim h
theorem smStep_ok {cut : List Nat} {k : Nat} {Post : Option smV → smM → Prop} (hk : k < 178) : ∀ (n pc : Nat) (L : List (Option smV)) (st : List smV) (mem : smM), smStep cut k Post n pc L st mem → smWp k pc L st mem Post
  | 0, pc, L, st, mem, h => h
  | n + 1, pc, L, st, mem, h => by
    simp only [smStep] at h
    cases hg : smGet (smTb k) pc with
    | none => rw [hg] at h; exact False.elim h
    | some e =>
      rw [hg] at h
      obtain ⟨h1, h2⟩ := smGet_inv hg
      have hok := smMd_ok hk
      have h3 := List.all_eq_true.mp hok.2.2.2.2.2.2.2.2 e h1
      obtain ⟨pc0, i, nx, a, b, z⟩ := e
      have h2' : pc0 = pc := h2
      subst h2'
      simp only [smChk, Bool.and_eq_true, decide_eq_true_eq] at h3
      obtain ⟨⟨⟨c1, c2⟩, c3⟩, c4⟩ := h3
      simp only [smOne] at h
      refine eq_true (smIns_ok hk c1 c2 c3 c4 ?_ h)
      intro pc' L' st' mem' hg'
      cases hc : cut.contains pc' with
      | true => rw [hc] at hg'; exact of_eq_true hg'
      | false => rw [hc] at hg'; exact of_eq_true (smStep_ok hk n pc' L' st' mem' hg')
theorem smEnt_eq : ∀ {as : List smV} {n : Nat} {k : List (Option smV) → Prop}, smEnt as n k → as.length ≤ n ∧ k (as.map some ++ List.replicate (n - as.length) none)
  | [], 0, k, h => ⟨Nat.le_refl _, h⟩
  | [], n + 1, k, h => by
    obtain ⟨h1, h2⟩ := smEnt_eq (as := []) (n := n) (k := fun r => k (none :: r)) h
    exact ⟨Nat.zero_le _, h2⟩
  | v :: r, n + 1, k, h => by
    obtain ⟨h1, h2⟩ := smEnt_eq (as := r) (n := n) (k := fun r' => k (some v :: r')) h
    refine ⟨by simpa using h1, ?_⟩
    simpa using h2
  | _ :: _, 0, _, h => False.elim h
theorem smGo {k : Nat} {args : List smV} {mem : smM} {Post : Option smV → smM → Prop} (cut : List Nat) (n : Nat) (hk : Nat.blt k 178 = true) (h : smEnt args (smMx k) (fun L => smStep cut k Post n 0 L [] mem)) : smRun k args mem Post := by
  have hk' : k < 178 := Nat.le_of_ble_eq_true hk
  obtain ⟨h1, h2⟩ := smEnt_eq h
  exact smRun_of hk' h1 (smStep_ok hk' n _ _ _ _ h2)
theorem smAt {k pc : Nat} {L : List (Option smV)} {st : List smV} {mem : smM} {Post : Option smV → smM → Prop} (cut : List Nat) (n : Nat) (hk : Nat.blt k 178 = true) (h : smStep cut k Post n pc L st mem) : smWp k pc L st mem Post := smStep_ok (Nat.le_of_ble_eq_true hk) n _ _ _ _ h
