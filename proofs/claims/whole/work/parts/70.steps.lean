theorem scLay_len {c : Nat} (hc : c < 12) : (scLay c).length = smTn c := by
  have h1 : (List.range 12).all (fun c => decide ((scLay c).length = smTn c)) = true := by decide +kernel
  exact of_decide_eq_true (List.all_eq_true.mp h1 c (List.mem_range.mpr hc))
section SCS
variable {D : va_G} {cI cZ : ClassId} {c pc : Nat} {v : Int32} {sh : List smT} {cells slots : Nat}
/-- two names of one array class -/
theorem sc_same {s : State} {cI cZ cA : ClassId} {z : Bool} (hK : va_K D vwCl [(cI, .int), (cZ, .boolean)] s) (h : va_RA s cA (cond z .boolean .int)) : cA = cond z cZ cI := by
  cases z
  · have h1 : s.vm.findClass ("[" ++ (FieldType.int).toString) = some cI := (hK.2 0 (cI, .int) rfl).2
    have h2 : s.vm.findClass ("[" ++ (FieldType.int).toString) = some cA := h
    exact Option.some.inj (h2.symm.trans h1)
  · have h1 : s.vm.findClass ("[" ++ (FieldType.boolean).toString) = some cZ := (hK.2 1 (cZ, .boolean) rfl).2
    have h2 : s.vm.findClass ("[" ++ (FieldType.boolean).toString) = some cA := h
    exact Option.some.inj (h2.symm.trans h1)
/-- the words of a field that is put -/
def scFd (c k fi : Nat) (f : Bool) : Prop := c < 12 ∧ k < smTn c ∧ Cond.fieldLink (smRn c) fi (smRn c) ((smTx c) k).2.1 ((smTx c) k).2.2.1 ∈ smTs ∧ ((smTx c) k).2.2.2 = f ∧ ((smTx c) k).1 = smRn c
set_option maxHeartbeats 2000000 in
theorem sc_arr {n : Int32} {N k fi np : Nat} {z : Bool} {aty : ArrayType} (d0 : decode (scCd c) pc = .ok (.aload_n 0, 1)) (d1 : scPu (scCd c) (pc + 1) n np) (d2 : decode (scCd c) (pc + 1 + np) = .ok (.newarray aty, 2)) (d3 : decode (scCd c) (pc + 1 + np + 2) = .ok (.putfield fi, 3))
    (hz : newarray.typeOf aty = cond z .boolean .int) (hn : ¬ n < 0) (hN : n.toNatClampNeg = N) (hsm : N ≤ 1000) (hf : scFd c k fi true) (hty : ∀ a, narrow (smTy c k) (.ref a) = .ref a ∧ fits (smTy c k) (.ref a) = true) (hok : scOk (scLay c) sh.length (sh.length + 1) k = true) (hcl : scCl sh = true) (hr : cells + 1 ≤ scMc c ∧ slots + N ≤ scMs c)
    (kk : scB D cI cZ c (pc + 1 + np + 2 + 3) v (sh ++ [.inr (z, N)]) (cells + 1) (slots + N)) : scB D cI cZ c pc v sh cells slots := by
  intro p l e s m args below meth co H locs ls h as hx hb hml hr0 hlk hown hts hin hK hP hD hS hlen hl
  obtain ⟨f0, f1, f2, f3, f4⟩ := hf
  have hA : ∀ q : Nat, s.heap.size ≤ q → va_A (scN c h) s.heap.size q := fun q h => Or.inr h
  obtain ⟨g1, g2, g3, g4⟩ := smCl_ok c f0
  refine lv_aload_n hx hb d0 rfl (lv_at hl 0 rfl) ?_
  refine sc_push hx hb d1 ?_
  have harr : (Cond.arrayClass (newarray.typeOf aty)).before args s = true := by
    rw [hz]
    cases z
    · exact hts (.arrayClass .int) (smTs_of (i := 112) (by decide +kernel) rfl)
    · exact hts (.arrayClass .boolean) (smTs_of (i := 980) (by decide +kernel) rfl)
  refine va_newa (a0 := (N, .inl (fun _ => 0))) hx hb harr hz hK.1 hP hD hS hA (fun cA => by cases z <;> rfl) hn hN (by cases z <;> simp only [cond_true, cond_false, componentBytes] <;> omega) hr.1 hr.2 d2 (fun q cA H hK1 hP hD hS => ?_)
  have hcA : cA = cond z cZ cI := sc_same hK.1 (hK1.2 2 (cA, cond z .boolean .int) rfl).2
  refine va_putF (D := D) (ci := c) (v := .ref q) (ty := smTy c k) (C := smRn c) (T := smTx c) (N := smTn c) hx hb hts g1 (smTy c) g3 g4 hown hK.1 hP hD hS 0 rfl g2 k f1 (hts _ f2) (fun _ h9 => by rw [f4] at h9; exact h9) f3 hin f4 (g3 k f1) (hty q).1 (hty q).2 (by rw [scF_len, scLay_len f0]; exact f1) d3 (fun H locs hP hD hS => ?_)
  have ee : ((h, .inr (c, scF v as (scLay c))) :: scW cI cZ sh as ++ [(q, .inl (cA, (N, .inl (fun _ => 0))))] : va_W).set 0 (h, .inr (c, (scF v as (scLay c)).set k (.ref q))) = (h, .inr (c, scF v (as ++ [q]) (scLay c))) :: scW cI cZ (sh ++ [.inr (z, N)]) (as ++ [q]) := by
    rw [scW_app cI cZ sh _ as _ hlen hcl, scF_put (bs := []) hok hlen rfl, hcA]
    cases z <;> rfl
  rw [ee] at hP hD
  exact kk p l e s m args below meth co H locs ls h (as ++ [q]) hx hb hml hr0 hlk hown hts hin hK hP hD hS (by rw [List.length_append, List.length_append, hlen]; rfl) hl
set_option maxHeartbeats 2000000 in
theorem sc_int {n v' : Int32} {k fi np : Nat} (d0 : decode (scCd c) pc = .ok (.aload_n 0, 1)) (d1 : scPu (scCd c) (pc + 1) n np) (d3 : decode (scCd c) (pc + 1 + np) = .ok (.putfield fi, 3))
    (hf : scFd c k fi false) (hty : smTy c k = .int) (hset : ∀ as, (scF v as (scLay c)).set k (.int n) = scF v' as (scLay c))
    (kk : scB D cI cZ c (pc + 1 + np + 3) v' sh cells slots) : scB D cI cZ c pc v sh cells slots := by
  intro p l e s m args below meth co H locs ls h as hx hb hml hr0 hlk hown hts hin hK hP hD hS hlen hl
  obtain ⟨f0, f1, f2, f3, f4⟩ := hf
  obtain ⟨g1, g2, g3, g4⟩ := smCl_ok c f0
  refine lv_aload_n hx hb d0 rfl (lv_at hl 0 rfl) ?_
  refine sc_push hx hb d1 ?_
  refine va_put (D := D) (ci := c) (v := .int n) (ty := .int) (C := smRn c) (T := smTx c) (N := smTn c) hx hb hts g1 (smTy c) g3 g4 hown hK.1 hP hD hS 0 rfl g2 k f1 (hts _ f2) (fun _ h9 => by rw [f4] at h9; exact h9) f3 (by rw [g3 k f1, hty]) rfl rfl (by rw [scF_len, scLay_len f0]; exact f1) d3 (fun H locs hP hD hS => ?_)
  have ee : ((h, .inr (c, scF v as (scLay c))) :: scW cI cZ sh as : va_W).set 0 (h, .inr (c, (scF v as (scLay c)).set k (.int n))) = (h, .inr (c, scF v' as (scLay c))) :: scW cI cZ sh as := by
    rw [hset]; rfl
  rw [ee] at hP hD
  exact kk p l e s m args below meth co H locs ls h as hx hb hml hr0 hlk hown hts hin hK hP hD hS hlen hl
theorem sc_range {α : Type} (w : List α) (x : α) : (List.range w.length).map (fun i => (w ++ [x])[i]?) = w.map some := by
  apply List.ext_getElem?
  intro i
  rw [List.getElem?_map, List.getElem?_map]
  by_cases hi : i < w.length
  · rw [List.getElem?_range hi]
    simp [List.getElem?_append_left hi, hi]
  · rw [List.getElem?_eq_none_iff.mpr (by simpa using hi), List.getElem?_eq_none_iff.mpr (by simpa using hi)]
    rfl
theorem sc_nd (n : Nat) : ∀ k, va_nd (List.range' k n) = true := by
  induction n with
  | zero => intro k; rfl
  | succ n ih =>
    intro k
    rw [List.range'_succ]
    simp only [va_nd, Bool.and_eq_true, Bool.not_eq_true']
    refine ⟨?_, ih (k + 1)⟩
    simp [List.mem_range'_1]
set_option maxHeartbeats 4000000 in
theorem sc_obj {c' k fi ni ii : Nat} (hM : scMet D cI cZ c') (d0 : decode (scCd c) pc = .ok (.aload_n 0, 1)) (d1 : decode (scCd c) (pc + 1) = .ok (.new ni, 3)) (d2 : decode (scCd c) (pc + 1 + 3) = .ok (.dup, 1)) (d3 : decode (scCd c) (pc + 1 + 3 + 1) = .ok (.invokespecial ii, 3)) (d4 : decode (scCd c) (pc + 1 + 3 + 1 + 3) = .ok (.putfield fi, 3))
    (hc' : c' < 12) (w1 : Cond.classLink (smRn c) ni (smRn c') ∈ smTs) (w2 : Cond.instantiable (smRn c') (smTn c') ∈ smTs) (w3 : Cond.initialized (smRn c') ∈ smTs) (w4 : Cond.instanceMethod (scY c') ∈ smTs) (w5 : Cond.code (scY c') (scCd c') 1 none ∈ smTs) (w6 : (smRn c, ii, scY c') ∈ scNe) (w7 : smRn c' ≠ "java/lang/invoke/MethodHandle" ∧ smRn c' ≠ "java/lang/invoke/VarHandle")
    (hdef : ∀ j, j < smTn c' → defaultValue (smTy c' j) = vp_V (scF 0 [] (scLay c')) j) (hfr : scFr c' + 1 ≤ scFr c) (hf : scFd c k fi true) (hty : ∀ a, narrow (smTy c k) (.ref a) = .ref a ∧ fits (smTy c k) (.ref a) = true) (hok : scOk (scLay c) sh.length (sh.length + 1 + (scSh c').length) k = true) (hcl : scCl sh = true) (hr : cells + 1 + scMc c' ≤ scMc c ∧ slots + smTn c' + scMs c' ≤ scMs c)
    (kk : scB D cI cZ c (pc + 1 + 3 + 1 + 3 + 3) v (sh ++ (.inl c' :: scSh c')) (cells + 1 + scMc c') (slots + smTn c' + scMs c')) : scB D cI cZ c pc v sh cells slots := by
  intro p l e s m args below meth co H locs ls h as hx hb hml hr0 hlk hown hts hin hK hP hD hS hlen hl
  obtain ⟨f0, f1, f2, f3, f4⟩ := hf
  have hA : ∀ q : Nat, s.heap.size ≤ q → va_A (scN c h) s.heap.size q := fun q h => Or.inr h
  obtain ⟨g1, g2, g3, g4⟩ := smCl_ok c f0
  obtain ⟨b1, b2, b3, b4⟩ := smCl_ok c' hc'
  refine lv_aload_n hx hb d0 rfl (lv_at hl 0 rfl) ?_
  refine va_new (ci := c') (fs := scF 0 [] (scLay c')) (C := smRn c') (T := smTx c') (N := smTn c') hx hb hts b1 (smTy c') b3 hown (hts _ w1) (hts _ w2) (hts _ w3) hK.1 hP hD hS hA b2 hdef (show cells + 1 ≤ scMc c by omega) (show slots + smTn c' ≤ scMs c by omega) d1 (fun q H hP hD hS => ?_)
  generalize hw : ((h, .inr (c, scF v as (scLay c))) :: scW cI cZ sh as : va_W) = w0 at hP hD
  refine lv_dup hx hb d2 rfl ?_
  have hC : [w0.length].map (fun i => (w0 ++ [(q, .inr (c', scF 0 [] (scLay c')))])[i]?) = (scN c' q).map some := by
    simp [scN]
  have hPc : va_P D vwCl (scN c' q) H := hP.sub [w0.length] (by simp [scN])
  have hFc := va_free (wc := scN c' q) hD hS hA [w0.length] hC
  have hG : GoodIn smTs (scWd c') := by
    intro w hw
    rcases List.mem_cons.mp hw with h | h
    · rw [h]; exact smTs_good _ w5
    · exact smTs_good _ h
  refine va_callv (va_runIN (As := []) (rest := [.ref q, .ref h]) ⟨hx, hb, hml, hown, hts⟩ (hM l q H.size) ⟨va_cnB (ws' := smTs) 0 hts hG rfl rfl rfl (hK.2 _ w6) (hts _ w3) ⟨w7.1, w7.2, show (parseMethodDescriptor "()V").map (fun d => d.parameters.length) = some 0 by decide +kernel⟩ ⟨hfr, (show 8 + (1 + 11) + 20 * scFr c' ≤ 20 * scFr c by omega)⟩, rfl, hts _ w4⟩ ⟨scPre_blind _ _ _ _ _ _, fun U hU hW => ⟨rfl, by rw [hU], by rw [hU]; exact hPc, scK_warm hW hK⟩⟩ rfl rfl hl.1 rfl (lv_room (Nat.le_of_ble_eq_true rfl)) d3 ⟨hr.1, hr.2⟩) hS (fun q _ h => hFc q h) hFc (fun u t H1 locs ht hvm hw' hB hz1 hk1 hS => ?_)
  obtain ⟨hP1, hD1⟩ := hB
  rw [ht] at hP1
  obtain ⟨hP, hD⟩ := va_join (wr := w0) hP hD [w0.length] (List.range w0.length) hC (sc_range w0 _) (by rw [List.range_eq_range']; exact sc_nd _ _) (fun i hi => by have := List.mem_range.mp hi; simp only [List.mem_singleton]; omega) hk1 hFc hP1 hD1
  subst hw
  refine va_putF (D := D) (ci := c) (v := .ref q) (ty := smTy c k) (C := smRn c) (T := smTx c) (N := smTn c) hx hb hts g1 (smTy c) g3 g4 hown hK.1 hP hD hS 0 rfl g2 k f1 (hts _ f2) (fun _ h9 => by rw [f4] at h9; exact h9) f3 hin f4 (g3 k f1) (hty q).1 (hty q).2 (by rw [scF_len, scLay_len f0]; exact f1) d4 (fun H locs hP hD hS => ?_)
  have ee : ((h, .inr (c, scF v as (scLay c))) :: scW cI cZ sh as ++ scW cI cZ (.inl c' :: scSh c') (q :: u) : va_W).set 0 (h, .inr (c, (scF v as (scLay c)).set k (.ref q))) = (h, .inr (c, scF v (as ++ q :: u) (scLay c))) :: scW cI cZ (sh ++ (.inl c' :: scSh c')) (as ++ q :: u) := by
    rw [scW_app cI cZ sh _ as _ hlen hcl, scF_put (bs := u) hok hlen (by rw [hw'])]
    rfl
  rw [ee] at hP hD
  exact kk p l e s m args below meth co H locs ls h (as ++ q :: u) hx hb hml hr0 hlk hown hts hin hK hP hD hS (by rw [List.length_append, List.length_append, hlen, List.length_cons, List.length_cons, hw']) hl
end SCS
