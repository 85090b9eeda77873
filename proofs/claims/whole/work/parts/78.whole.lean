/-! THE LAW, from its entry -/
theorem lw_known {s : State} {args : Array Value} (hts : ∀ w ∈ smTs, w.before args s = true) : ∃ D : va_G, ∀ (k : Nat) (q : vw_C), vwCl[k]? = some q → u_Kn s q.1 q.2.1 q.2.2 (D.1 k) (D.2 k) := by
  have h : ∀ k : Nat, ∃ (cC : ClassId) (iS : Nat → Nat), ∀ q : vw_C, vwCl[k]? = some q → u_Kn s q.1 q.2.1 q.2.2 cC iS := by
    intro k
    match k with
    | 0 => obtain ⟨cC, iS, hk⟩ := u_known hts smcl_0 (hts (.instantiable RX0 5) (smTs_of (i := 301) (by decide +kernel) rfl)); exact ⟨cC, iS, fun q hq => by cases hq; exact hk⟩
    | 1 => obtain ⟨cC, iS, hk⟩ := u_known hts smcl_1 (hts (.instantiable RX1 7) (smTs_of (i := 81) (by decide +kernel) rfl)); exact ⟨cC, iS, fun q hq => by cases hq; exact hk⟩
    | 2 => obtain ⟨cC, iS, hk⟩ := u_known hts smcl_2 (hts (.instantiable RX2 5) (smTs_of (i := 269) (by decide +kernel) rfl)); exact ⟨cC, iS, fun q hq => by cases hq; exact hk⟩
    | 3 => obtain ⟨cC, iS, hk⟩ := u_known hts smcl_3 (hts (.instantiable RX3 4) (smTs_of (i := 69) (by decide +kernel) rfl)); exact ⟨cC, iS, fun q hq => by cases hq; exact hk⟩
    | 4 => obtain ⟨cC, iS, hk⟩ := u_known hts smcl_4 (hts (.instantiable RX4 4) (smTs_of (i := 325) (by decide +kernel) rfl)); exact ⟨cC, iS, fun q hq => by cases hq; exact hk⟩
    | 5 => obtain ⟨cC, iS, hk⟩ := u_known hts smcl_5 (hts (.instantiable RX5 4) (smTs_of (i := 227) (by decide +kernel) rfl)); exact ⟨cC, iS, fun q hq => by cases hq; exact hk⟩
    | 6 => obtain ⟨cC, iS, hk⟩ := u_known hts smcl_6 (hts (.instantiable RX6 3) (smTs_of (i := 249) (by decide +kernel) rfl)); exact ⟨cC, iS, fun q hq => by cases hq; exact hk⟩
    | 7 => obtain ⟨cC, iS, hk⟩ := u_known hts smcl_7 (hts (.instantiable RX7 4) (smTs_of (i := 189) (by decide +kernel) rfl)); exact ⟨cC, iS, fun q hq => by cases hq; exact hk⟩
    | 8 => obtain ⟨cC, iS, hk⟩ := u_known hts smcl_8 (hts (.instantiable RX8 7) (smTs_of (i := 157) (by decide +kernel) rfl)); exact ⟨cC, iS, fun q hq => by cases hq; exact hk⟩
    | 9 => obtain ⟨cC, iS, hk⟩ := u_known hts smcl_9 (hts (.instantiable RX9 10) (smTs_of (i := 75) (by decide +kernel) rfl)); exact ⟨cC, iS, fun q hq => by cases hq; exact hk⟩
    | 10 => obtain ⟨cC, iS, hk⟩ := u_known hts smcl_10 (hts (.instantiable RX10 10) (smTs_of (i := 61) (by decide +kernel) rfl)); exact ⟨cC, iS, fun q hq => by cases hq; exact hk⟩
    | 11 => obtain ⟨cC, iS, hk⟩ := u_known hts smcl_11 (hts (.instantiable RX11 35) (smTs_of (i := 869) (by decide +kernel) rfl)); exact ⟨cC, iS, fun q hq => by cases hq; exact hk⟩
    | k + 12 => exact ⟨0, fun _ => 0, fun q hq => by
        have := (List.getElem?_eq_some_iff.mp hq).1
        have hl : vwCl.length = 12 := rfl
        omega⟩
  exact ⟨(fun k => (h k).choose, fun k => (h k).choose_spec.choose), fun k q hq => (h k).choose_spec.choose_spec q hq⟩
theorem lw_ints {args : Array Value} {s : State} {ty : FieldType} (h : (Cond.arrayClass ty).before args s = true) (hr : ty = .int ∨ ty = .boolean) : ∃ cA : ClassId, ArrOfT s cA ty ∧ va_RA s cA ty := by
  obtain ⟨cA, kA, comp, h1, h2, h3⟩ := Cond.arrayClass_spec h
  refine ⟨cA, fun n z => ⟨fun k h => (by cases h), kA, h2, comp, h3⟩, ?_⟩
  rcases hr with rfl | rfl <;> exact h1
theorem lw_nestC : ∀ q ∈ scNe, Cond.methodLinkNest q.1 q.2.1 q.2.2 "StoneRound" ∈ lw_tbl := by decide +kernel
theorem lw_nestM : ∀ q ∈ smNe, Cond.methodLinkNest q.1 q.2.1 q.2.2.1 q.2.2.2 ∈ lw_tbl := by decide +kernel
set_option maxHeartbeats 2000000 in
theorem lw_make {p : Program} {l : Launch} {e : Env} {s : State} {m : MethodId} {below : List Frame} {meth : Method} {co : Code} {b : Nat} {H : Heap} {locs : List Loc} {cells slots : Nat} {Q : State → Prop} {D : va_G} {cI cZ : ClassId} {c pc ni ii : Nat} {w0 : va_W} {ls : Array Slot} (hx : p.tables.exec = Jvm.exec) (hb : co.code = code) (hml : co.maxLocals = 4) (hown : s.vm.findClass R_law = some m.cls) (hts : ∀ w ∈ smTs, w.before #[Value.ref b] s = true) (hK : scK D cI cZ s) (hM : scMet D cI cZ c)
    (hP : va_P D vwCl w0 H) (hD : va_D (fun q : Nat => s.heap.size ≤ q) w0) (hS : va_S (fun q : Nat => s.heap.size ≤ q) s.heap H locs) (hls : ls.size = 4)
    (d1 : decode code pc = .ok (.new ni, 3)) (d2 : decode code (pc + 3) = .ok (.dup, 1)) (d3 : decode code (pc + 3 + 1) = .ok (.invokespecial ii, 3)) (hc' : c < 12) (w1 : Cond.classLink R_law ni (smRn c) ∈ smTs) (w2 : Cond.instantiable (smRn c) (smTn c) ∈ smTs) (w3 : Cond.initialized (smRn c) ∈ smTs) (w4 : Cond.instanceMethod (scY c) ∈ smTs) (w5 : Cond.code (scY c) (scCd c) 1 none ∈ smTs) (w6 : Cond.methodLink R_law ii (scY c) ∈ smTs) (w7 : smRn c ≠ "java/lang/invoke/MethodHandle" ∧ smRn c ≠ "java/lang/invoke/VarHandle")
    (hdef : ∀ j, j < smTn c → defaultValue (smTy c j) = vp_V (scF 0 [] (scLay c)) j) (hfr : scFr c + 1 ≤ 10) (hr : cells + 1 + scMc c ≤ 140 ∧ slots + smTn c + scMs c ≤ 2960)
    (kk : ∀ (q : Nat) (u : List Nat) (H1 : Heap) (locs1 : List Loc), u.length = (scSh c).length → va_P D vwCl (w0 ++ scW cI cZ (.inl c :: scSh c) (q :: u)) H1 → va_D (fun q : Nat => s.heap.size ≤ q) (w0 ++ scW cI cZ (.inl c :: scSh c) (q :: u)) → va_S (fun q : Nat => s.heap.size ≤ q) s.heap H1 locs1 → W p l e room_1 s m #[Value.ref b] below meth co H1 locs1 (cells + 1 + scMc c) (slots + smTn c + scMs c) Q (F0 m (pc + 3 + 1 + 3) ls [.ref q])) : W p l e room_1 s m #[Value.ref b] below meth co H locs cells slots Q (F0 m pc ls []) := by
  have hA : ∀ q : Nat, s.heap.size ≤ q → (fun q : Nat => s.heap.size ≤ q) q := fun _ h => h
  obtain ⟨b1, b2, b3, b4⟩ := smCl_ok c hc'
  refine va_new (ci := c) (fs := scF 0 [] (scLay c)) (C := smRn c) (T := smTx c) (N := smTn c) hx hb hts b1 (smTy c) b3 hown (hts _ w1) (hts _ w2) (hts _ w3) hK.1 hP hD hS hA b2 hdef (show cells + 1 ≤ 140 by omega) (show slots + smTn c ≤ 2960 by omega) d1 (fun q H hP hD hS => ?_)
  refine lv_dup hx hb d2 rfl ?_
  have hC : [w0.length].map (fun i => (w0 ++ [(q, .inr (c, scF 0 [] (scLay c)))])[i]?) = (scN c q).map some := by
    simp [scN]
  have hPc : va_P D vwCl (scN c q) H := hP.sub [w0.length] (by simp [scN])
  have hFc := va_free (wc := scN c q) hD hS hA [w0.length] hC
  have hG : GoodIn smTs (scWd c) := by
    intro w hw
    rcases List.mem_cons.mp hw with h | h
    · rw [h]; exact smTs_good _ w5
    · exact smTs_good _ h
  refine va_callv (va_runI (As := []) (rest := [.ref q]) ⟨hx, hb, hml, hown, hts⟩ (hM l q H.size) (cwI 0 hts hG rfl rfl rfl (hts _ w3) (hts _ w6) (hts _ w4) rfl ⟨w7.1, w7.2, show (parseMethodDescriptor "()V").map (fun d => d.parameters.length) = some 0 by decide +kernel⟩ ⟨hfr, (show 8 + (1 + 11) + 20 * scFr c ≤ 392 by omega)⟩) ⟨scPre_blind _ _ _ _ _ _, fun U hU hW => ⟨rfl, by rw [hU], by rw [hU]; exact hPc, scK_warm hW hK⟩⟩ rfl rfl hls rfl (lv_room (Nat.le_of_ble_eq_true rfl)) d3 ⟨hr.1, hr.2⟩) hS (fun q _ h => hFc q h) hFc (fun u t H1 locs ht hvm hw' hB hz1 hk1 hS => ?_)
  obtain ⟨hP1, hD1⟩ := hB
  rw [ht] at hP1
  obtain ⟨hP, hD⟩ := va_join (wr := w0) hP hD [w0.length] (List.range w0.length) hC (sc_range w0 _) (by rw [List.range_eq_range']; exact sc_nd _ _) (fun i hi => by have := List.mem_range.mp hi; simp only [List.mem_singleton]; omega) hk1 hFc hP1 hD1
  exact kk q u H1 locs hw' hP hD hS
theorem lw_shapes : scS0 = (.inl 10 :: scSh 10) ++ (.inl 11 :: scSh 11) := by decide +kernel
set_option maxHeartbeats 4000000 in
theorem whole_start {p : Program} {e : Env} {s : State} {m : MethodId} {below : List Frame} {meth : Method} {c : Code} (l : Launch) {b L : Nat} {xs : Nat → Int32} (hL : L ≤ 512) (C0 : lw_At p s m meth c b L xs) : W p l e room_1 s m #[Value.ref b] below meth c s.heap [] 0 0 (lw_Z below #[Value.ref b] s) (entryFrame m ([Value.ref b] : List Value).toArray 4) := by
  obtain ⟨hx, hb, hr, hml, hown, hts, hX, hbl, hlocks, hgv⟩ := id C0
  have hts' : ∀ w ∈ smTs, w.before #[Value.ref b] s = true := fun w hw => hts w (smTs_in w hw)
  obtain ⟨D, hKc⟩ := lw_known hts'
  obtain ⟨cI, hI1, hI2⟩ := lw_ints (hts' (.arrayClass .int) (smTs_of (i := 112) (by decide +kernel) rfl)) (.inl rfl)
  obtain ⟨cZ, hZ1, hZ2⟩ := lw_ints (hts' (.arrayClass .boolean) (smTs_of (i := 980) (by decide +kernel) rfl)) (.inr rfl)
  have hKa : va_K D vwCl [(cI, .int), (cZ, .boolean)] s := ⟨hKc, fun k q h => by
    match k, h with
    | 0, h => cases h; exact ⟨hI1, hI2⟩
    | 1, h => cases h; exact ⟨hZ1, hZ2⟩
    | k + 2, h => simp at h⟩
  have hK : scK D cI cZ s := ⟨hKa, fun q hq => va_Nw.of rfl (hts _ (lw_nestC q hq))⟩
  have hS : va_S (fun q : Nat => s.heap.size ≤ q) s.heap s.heap [] := va_S.rf
  have hP : va_P D vwCl [] s.heap := fun k q h => by simp at h
  have hD : va_D (fun q : Nat => s.heap.size ≤ q) [] := ⟨fun i j p q h => by simp at h, fun k q h => by simp at h⟩
  have c3 : scMet D cI cZ 3 := sc_3 (sc_9 sc_1) sc_8 sc_7
  have c10 : scMet D cI cZ 10 := sc_10 c3 (sc_9 sc_1) sc_5 sc_6 sc_2 sc_0 (sc_4 sc_2)
  have c11 : scMet D cI cZ 11 := sc_11
  have hl := lv_entry ([.ref b]) (n := 4) (Nat.le_of_ble_eq_true rfl)
  rw [lg_entry_eq]
  generalize (lg_sl ([.ref b]) ++ List.replicate (4 - (lg_sl ([.ref b])).length) Slot.unset).toArray = ls at hl ⊢
  have hl : lv_has ls 4 [(0, .ref b)] := hl
  refine lw_make (c := 10) (ni := 7) (ii := 9) (w0 := []) hx hb hml hown hts' hK c10 hP hD hS hl.1 (by decide +kernel) (by decide +kernel) (by decide +kernel) (by decide) (smTs_of (i := 60) (by decide +kernel) rfl) (smTs_of (i := 61) (by decide +kernel) rfl) (smTs_of (i := 45) (by decide +kernel) rfl) (smTs_of (i := 63) (by decide +kernel) rfl) (smTs_of (i := 64) (by decide +kernel) rfl) (smTs_of (i := 62) (by decide +kernel) rfl) (by decide +kernel) scd_10 (by decide) (by decide +kernel) (fun q0 u0 H locs hu0 hP hD hS => ?_)
  rw [List.nil_append] at hP hD
  refine lv_astore_n (k := 1) (lv' := [(1, .ref q0), (0, .ref b)]) hx hb (by decide +kernel) rfl hl (by decide) rfl (fun ls hl => ?_)
  refine lw_make (c := 11) (ni := 10) (ii := 12) hx hb hml hown hts' hK c11 hP hD hS hl.1 (by decide +kernel) (by decide +kernel) (by decide +kernel) (by decide) (smTs_of (i := 868) (by decide +kernel) rfl) (smTs_of (i := 869) (by decide +kernel) rfl) (smTs_of (i := 56) (by decide +kernel) rfl) (smTs_of (i := 871) (by decide +kernel) rfl) (smTs_of (i := 872) (by decide +kernel) rfl) (smTs_of (i := 870) (by decide +kernel) rfl) (by decide +kernel) scd_11 (by decide) (by decide +kernel) (fun q1 u1 H locs hu1 hP hD hS => ?_)
  have n0 : (scSh 10).length = 117 := by decide +kernel
  have n1 : (scSh 11).length = 21 := by decide +kernel
  rw [n0] at hu0
  rw [n1] at hu1
  have hw : scW cI cZ (.inl 10 :: scSh 10) (q0 :: u0) ++ scW cI cZ (.inl 11 :: scSh 11) (q1 :: u1) = scW cI cZ scS0 ((q0 :: u0) ++ (q1 :: u1)) := by
    rw [lw_shapes, scW_app cI cZ _ _ _ _ (by rw [List.length_cons, List.length_cons, hu0, n0]) (by decide +kernel)]
  have hlen : ((q0 :: u0) ++ (q1 :: u1)).length = 140 := by
    rw [List.length_append, List.length_cons, List.length_cons, hu0, hu1]
  rw [hw] at hP hD
  have hP := lw_worldP hlen hP
  have hD := lw_worldD (D := D) hlen hD
  have e0 : ((q0 :: u0) ++ (q1 :: u1)).getD 0 0 = q0 := rfl
  have e1 : ((q0 :: u0) ++ (q1 :: u1)).getD 118 0 = q1 := by
    rw [List.getD, List.getElem?_append_right (by rw [List.length_cons, hu0]; omega), List.length_cons, hu0]
    rfl
  generalize (q0 :: u0) ++ (q1 :: u1) = ads at hP hD e0 e1 hlen
  have hinj : smInj (D, (cI, cZ), lwAd ads) := fun i j hi hj h => by
    obtain ⟨i1, x1, h1, h2⟩ := smWs_key (E := (D, (cI, cZ), lwAd ads)) (mem := lwM0) hi
    obtain ⟨i2, x2, h3, h4⟩ := smWs_key (E := (D, (cI, cZ), lwAd ads)) (mem := lwM0) hj
    have h5 := hD.1 i1 i2 _ _ h1 h3 h
    rw [← h2, ← h4, h5]
  have hE : ∀ k, smDm k → s.heap.size ≤ lwAd ads k := fun k hk => by
    obtain ⟨i1, x1, h1, h2⟩ := smWs_key (E := (D, (cI, cZ), lwAd ads)) (mem := lwM0) hk
    exact hD.2 i1 _ h1
  have hKs : smKs (D, (cI, cZ), lwAd ads) s := ⟨hKa, fun q hq => va_Nw.of rfl (hts _ (lw_nestM q hq))⟩
  have hS' : va_S (smA (D, (cI, cZ), lwAd ads) s.heap.size) s.heap H locs := ⟨hS.1, fun q h1 h2 => hS.2.1 q h1 (fun ha => h2 (Or.inr ha)), fun q hq => Or.inr (hS.2.2 q hq)⟩
  have C : lwCx (p, l, e, s, m, below, meth, c, b, (D, (cI, cZ), lwAd ads)) L xs := ⟨C0, hL, hKs, hinj, hE⟩
  refine W.widen (k := 140) (n := 2960) (by decide +kernel) (by decide +kernel) ?_
  refine lv_astore_n (k := 2) (lv' := [(2, .ref q1), (1, .ref q0), (0, .ref b)]) hx hb (by decide +kernel) rfl hl (by decide) rfl (fun ls hl => ?_)
  refine lv_iconst (n := 0) (v := Int32.ofInt 0) hx hb (by decide +kernel) rfl ?_
  refine lv_istore_n (k := 3) (lv' := [(3, .int (Int32.ofInt 0)), (2, .ref q1), (1, .ref q0), (0, .ref b)]) hx hb (by decide +kernel) rfl hl (by decide) rfl (fun ls hl => ?_)
  have hgo := lw_loop C 65 0 9 lwM0 (by decide) (by decide) (by omega) (by decide) lw_j0
  refine hgo H locs ls hP hS' ?_
  show lv_has ls 4 [(3, .int (Int32.ofInt 0)), (0, .ref b), (1, .ref (ads.getD 0 0)), (2, .ref (ads.getD 118 0))]
  rw [e0, e1]
  exact lv_sub hl [0, 3, 2, 1] rfl
