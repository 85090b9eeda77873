/-! THE CLAIM OUT OF ONE WALK OF THE LAW'S BODY. Your part is whole_start (and what it stands on); all else here is the same for every law, but numbers. -/
def R_law : String := "StoneRoundLaw"
def lw_P (b : Addr) (xs : List Int32) (args : Array Value) (s : State) : Prop := args = #[.ref b] ∧ s.IntsAt b xs ∧ xs.length ≤ 512 ∧ (Jvm.Cond.and given_1 narrow_1).before args s = true
def lw_Q (_ : Array Value) (s : State) (o : Outcome) (t : State) : Prop := o = .returned (some (.int 1)) ∧ Framed s o t [] 140 2960
def lw_Z (below : List Frame) (a : Array Value) (s : State) : State → Prop := fun t => ∃ o, t.status = .running ∧ Ended t below o ∧ lw_Q a s o t
/-- the law's own end, with 1 on the stack, nothing written that was there before, its room as the claim has it -/
theorem lw_ret {p : Program} {l : Launch} {e : Env} {s : State} {m : MethodId} {below : List Frame} {meth : Method} {c : Code} {b : Nat} (hx : p.tables.exec = Jvm.exec) (hb : c.code = code) (hr : meth.sig.returnType = ret) (hlocks : meth.locks = false) {pc : Nat} {H : Heap} {ls : Array Slot} (hdg : decode code pc = .ok (.ireturn, 1)) : W p l e room_1 s m #[Value.ref b] below meth c H [] 140 2960 (lw_Z below #[Value.ref b] s) (F0 m pc ls [.int 1]) := by
  intro T hT X
  obtain ⟨fs, hret, hrun, hended, hW, hframe⟩ := X.leave (v := some (.int 1)) (hlocks := hlocks) (fun h => by rw [hr] at h; cases h)
  have hmeth' : T.vm.method? m = some meth := X.method'
  refine ⟨T.setFrames fs, ?_, .returned (some (.int 1)), hrun, hended, rfl, ⟨_, rfl⟩, hW, hframe⟩
  jvm_step X.here [X.here.top, hx, hb, hdg, hmeth', hr, ret, narrow_b1]
  (try refine ⟨rfl, ?_⟩); (try refine ⟨rfl, ?_⟩)
  first | (intro acts; rw [hret _ acts rfl rfl rfl]) | rw [hret _ _ rfl rfl rfl]
  exact Steps.refl _
/-- what holds at the law's entry: the machine, the code, the tables' words (any of lw_tbl by 'hts w (by decide +kernel)'), the script of L ints xs at the cell b, what the Statement gives of the start (any of its parts by flat_of_before) -/
def lw_At (p : Program) (s : State) (m : MethodId) (meth : Method) (c : Code) (b L : Nat) (xs : Nat → Int32) : Prop :=
  p.tables.exec = Jvm.exec ∧ c.code = code ∧ meth.sig.returnType = ret ∧ c.maxLocals = 4 ∧ s.vm.findClass R_law = some m.cls ∧ (∀ w ∈ lw_tbl, w.before #[Value.ref b] s = true) ∧ va_X b L xs s s.heap ∧ b < s.heap.size ∧ meth.locks = false ∧ (Jvm.Cond.and given_1 narrow_1).before #[Value.ref b] s = true
section LWS
abbrev lwX : Type := Program × Launch × Env × State × MethodId × List Frame × Method × Code × Nat × smE
def lwCx (X : lwX) (L : Nat) (xs : Nat → Int32) : Prop := lw_At X.1 X.2.2.2.1 X.2.2.2.2.1 X.2.2.2.2.2.2.1 X.2.2.2.2.2.2.2.1 X.2.2.2.2.2.2.2.2.1 L xs ∧ L ≤ 512 ∧ smKs X.2.2.2.2.2.2.2.2.2 X.2.2.2.1 ∧ smInj X.2.2.2.2.2.2.2.2.2 ∧ ∀ k, smDm k → X.2.2.2.1.heap.size ≤ X.2.2.2.2.2.2.2.2.2.2.2 k
/-- from here on, in the law: it comes to its end with true -/
def lwW (X : lwX) (pc : Nat) (i : Int) (st : List Value) (mem : smM) : Prop := match X with
  | (p, l, e, s, m, below, meth, co, b, E) => ∀ (H : Heap) (locs : List Loc) (ls : Array Slot), va_P E.1 vwCl (smWs E mem) H → va_S (smA E s.heap.size) s.heap H locs → lv_has ls 4 [(3, .int (Int32.ofInt i)), (0, .ref b), (1, .ref (E.2.2 0)), (2, .ref (E.2.2 114))] →
    W p l e room_1 s m #[Value.ref b] below meth co H locs 140 2960 (lw_Z below #[Value.ref b] s) (F0 m pc ls st)
variable {X : lwX} {L : Nat} {xs : Nat → Int32} {pc : Nat} {i : Int} {st : List Value} {mem : smM}
theorem lw_notA {s : State} {b : Nat} {E : smE} (h : ∀ k, smDm k → s.heap.size ≤ E.2.2 k) (hb : b < s.heap.size) : ¬ smA E s.heap.size b := by
  rintro (⟨k, hk, rfl⟩ | h1)
  · have := h k hk
    omega
  · omega
theorem lw_ld1 (C : lwCx X L xs) (d : decode code pc = .ok (.aload_n 1, 1)) (kk : lwW X (pc + 1) i (.ref (X.2.2.2.2.2.2.2.2.2.2.2 0) :: st) mem) : lwW X pc i st mem := by
  obtain ⟨p, l, e, s, m, below, meth, co, b, E⟩ := X
  obtain ⟨⟨hx, hb, hr, hml, hown, hts, hX, hbl, hlk, hgv⟩, hL, hK, hi, hE⟩ := C
  intro H locs ls hP hS hl
  exact lv_aload_n hx hb d rfl (lv_at hl 2 rfl) (kk H locs ls hP hS hl)
theorem lw_ld2 (C : lwCx X L xs) (d : decode code pc = .ok (.aload_n 2, 1)) (kk : lwW X (pc + 1) i (.ref (X.2.2.2.2.2.2.2.2.2.2.2 114) :: st) mem) : lwW X pc i st mem := by
  obtain ⟨p, l, e, s, m, below, meth, co, b, E⟩ := X
  obtain ⟨⟨hx, hb, hr, hml, hown, hts, hX, hbl, hlk, hgv⟩, hL, hK, hi, hE⟩ := C
  intro H locs ls hP hS hl
  exact lv_aload_n hx hb d rfl (lv_at hl 3 rfl) (kk H locs ls hP hS hl)
theorem lw_arg (C : lwCx X L xs) {np : Nat} (j : Int) (hi : 0 ≤ i ∧ i + 8 ≤ L) (hj : 0 ≤ j ∧ j < 8) (d0 : decode code pc = .ok (.aload_n 0, 1)) (d1 : decode code (pc + 1) = .ok (.iload_n 3, 1)) (d2 : scPu code (pc + 1 + 1) (Int32.ofInt j) np) (d3 : decode code (pc + 1 + 1 + np) = .ok (.iadd, 1)) (d4 : decode code (pc + 1 + 1 + np + 1) = .ok (.iaload, 1)) (kk : lwW X (pc + 1 + 1 + np + 1 + 1) i (.int (xs (i + j).toNat) :: st) mem) : lwW X pc i st mem := by
  obtain ⟨p, l, e, s, m, below, meth, co, b, E⟩ := X
  obtain ⟨⟨hx, hb, hr, hml, hown, hts, hX, hbl, hlk, hgv⟩, hL, hK, hinj, hE⟩ := C
  intro H locs ls hP hS hl
  refine lv_aload_n hx hb d0 rfl (lv_at hl 1 rfl) ?_
  refine lv_iload_n hx hb d1 rfl (lv_at hl 0 rfl) ?_
  refine sc_push hx hb d2 ?_
  refine lv_iadd hx hb d3 ?_
  rw [← Int32.ofInt_add]
  obtain ⟨h1, h2⟩ := sm_idx (i := i + j) (n := L) (by omega) (by omega) (by omega)
  refine va_sld hx hb hX hbl (lw_notA hE hbl) hS h1 d4 ?_
  rw [h2]
  exact kk H locs ls hP hS hl
theorem lw_cont {p : Program} {l : Launch} {e : Env} {R : Room} {s : State} {m : MethodId} {args : Array Value} {below : List Frame} {meth : Method} {c : Code} {H : Heap} {locs : List Loc} {Q : State → Prop} {cells slots : Nat} {E : smE} {sz : Nat} {Po : Option smV → smM → Prop} {a : Array Value} {pc : Nat} {ls : Array Slot} {st0 rest : List Value} (hr : va_Run p l e R s m args below meth c H locs cells slots 0 0 (F0 m pc ls st0) rest (smQc E sz Po a) (smA E sz)) (hS : va_S (smA E s.heap.size) s.heap H locs) (hsz : H.size = sz)
    (kk : ∀ (v : Option smV) (mem' : smM) (H1 : Heap) (locs1 : List Loc), Po v mem' → (∀ w, v = some w → smOK w) → va_P E.1 vwCl (smWs E mem') H1 → va_S (smA E s.heap.size) s.heap H1 locs1 → W p l e R s m args below meth c H1 locs1 cells slots Q (F0 m (pc + 3) ls ((v.map (smCv E.2.2)).toList ++ rest))) : W p l e R s m args below meth c H locs cells slots Q (F0 m pc ls st0) := by
  intro T hT X
  obtain ⟨v, st₀, t, T', L, h0, X', hL, e1, e2, ⟨⟨w, mem', hv, hpo, hok, hp1⟩, hz, hk⟩, st⟩ := hr T hT X
  cases hv
  rw [h0] at hz hk
  have hle : s.heap.size ≤ sz := by rw [← hsz]; exact hS.1
  obtain ⟨t2, a1, b1⟩ := kk w mem' T'.heap (locs ++ L) hpo hok (by rw [e1]; exact hp1)
    ⟨Nat.le_trans hS.1 (by rw [e1]; exact hz), fun q h1 h2 => by
      rw [e1, hk q (Nat.lt_of_lt_of_le h1 hS.1) (fun z => h2 (smA_mono hle z))]
      exact hS.2.1 q h1 h2, fun q hq => by
      rcases List.mem_append.mp hq with h | h
      · exact hS.2.2 q h
      · exact smA_mono hle (hL q h)⟩ T' rfl X'
  exact ⟨t2, st t2 a1, b1⟩
/-- the law's arguments as the small machine's -/
def lwA (as : List Int32) : List smV := as.map (fun x => .inl x.toInt)
theorem lwA_cv (ad : Nat → Nat) (as : List Int32) : (lwA as).map (smCv ad) = as.map Value.int := by
  simp only [lwA, List.map_map]
  apply List.map_congr_left
  intro x _
  simp [smCv, sm_ofToInt]
set_option maxHeartbeats 1000000 in
theorem lw_call (C : lwCx X L xs) {a n o q4 : Nat} {as : List Int32} {rest : List Value} {Post : Option smV → smM → Prop} (h : smRun a (oR (smOwn a) o :: lwA as) mem Post) (ha : a < 178) (hst : smSt a = false) (hna : as.length = smNa a - 1) (hq : (n, a, 0, q4) ∈ smMl 12) (hsh : smSh[o]? = some (.inl (smOwn a))) (hrm : smFr a + 1 ≤ 10 ∧ 8 + (smMx a + 11) + smLo a ≤ 392) (hrs : (rest.map fun v => v.category).sum ≤ 8) (hd : decode code pc = .ok (.invokevirtual n, 3))
    (kk : ∀ (v : Option smV) (mem' : smM), Post v mem' → lwW X (pc + 3) i ((v.map (smCv X.2.2.2.2.2.2.2.2.2.2.2)).toList ++ rest) mem') : lwW X pc i ((as.map Value.int).reverse ++ .ref (X.2.2.2.2.2.2.2.2.2.2.2 o) :: rest) mem := by
  obtain ⟨p, l, e, s, m, below, meth, co, b, E⟩ := X
  obtain ⟨⟨hx, hb, hr, hml, hown, hts, hX, hbl, hlk, hgv⟩, hL, hKs, hinj, hE⟩ := C
  intro H locs ls hP hS hl
  have hts' : ∀ w ∈ smTs, w.before #[Value.ref b] s = true := fun w hw => hts w (smTs_in w hw)
  obtain ⟨o1, o2, o3, o4, o5, o6, o7, o8, o9⟩ := smMd_ok ha
  obtain ⟨v1, v2, v3, v4⟩ := o8 hst
  have hlink := smMl_in 12 _ hq rfl
  have h := of_eq_true h
  have hM := h (fun v hv => by
    rcases List.mem_cons.mp hv with h1 | h1
    · subst h1; exact ⟨hsh, rfl⟩
    · obtain ⟨x, _, rfl⟩ := List.mem_map.mp h1; exact ⟨trivial, rfl⟩) l E H.size hinj
  have hat : (smWs E mem)[o]? = some (E.2.2 o, .inr (smOwn a, smFv E.2.2 mem o (smLay (smOwn a)) 0)) := smWs_at hsh
  have hcls := (smCl_ok (smOwn a) v4).2.1
  have hG : GoodIn smTs (wsV R_law n (smNm a).cls (smNm a) (smWd a)) := by
    intro w hw
    rcases List.mem_append.mp hw with h9 | h9
    · have : w ∈ smTs := by
        simp only [List.mem_cons, List.not_mem_nil, or_false] at h9
        rcases h9 with rfl | rfl | rfl | rfl
        · exact hlink
        · exact v1
        · exact v2
        · exact o6
      exact smTs_good _ this
    · exact smGood a o5 w h9
  have hcw : CallW room_1 s #[Value.ref b] R_law (smNm a).cls n (smNm a) (smCd a) (smMx a) (smRt a) (smWd a) (smRm a) 0 0 (smNa a - 1) := by
    refine cwV (smNa a - 1) hts' hG rfl rfl rfl ⟨rfl, o3.1, o3.2, ?_⟩ hrm
    have o4' := o4
    rw [show (smMd a).2.2.2.2.2.1.2 = false from hst] at o4'
    exact o4'
  have hpre : PreV s H (smNm a).cls (E.2.2 o) (smPc E (oR (smOwn a) o :: lwA as) mem H.size) (as.map Value.int) := by
    refine ⟨smPc_blind _ _ _ _, ?_, fun U hU hW => ⟨by rw [List.map_cons, lwA_cv]; rfl, by rw [hU], by rw [hU]; exact hP, smKs_warm hW hKs⟩⟩
    have := va_recv hKs.1 hP hcls hat
    rw [show (smNm a).cls = smRn (smOwn a) from o2]
    exact this
  have run := va_runV (g := F0 m pc ls ((as.map Value.int).reverse ++ .ref (E.2.2 o) :: rest)) (rest := rest) (cells := 140) (slots := 2960) (locs := locs) (below := below) (e := e) (meth := meth) ⟨hx, hb, hml, hown, hts'⟩ hM hcw hpre rfl (by rw [List.length_map]; exact hna) hl.1 rfl (lv_room hrs) hd ⟨Nat.le_refl _, Nat.le_refl _⟩
  exact lw_cont run hS rfl (fun v mem' H1 locs1 hpo hvo hP1 hS1 => kk v mem' hpo H1 locs1 ls hP1 hS1 hl)
theorem lw_eq (C : lwCx X L xs) {off : Int} {v v' : Option smV} (h : agr v v') (hd : decode code pc = .ok (.if_icmp .eq off, 3)) (ht : (pc : Int) + off = ((1248 : Nat) : Int)) (kk : lwW X 1248 i [] mem) : lwW X pc i ((v'.map (smCv X.2.2.2.2.2.2.2.2.2.2.2)).toList ++ ((v.map (smCv X.2.2.2.2.2.2.2.2.2.2.2)).toList ++ [])) mem := by
  obtain ⟨p, l, e, s, m, below, meth, co, b, E⟩ := X
  obtain ⟨⟨hx, hb, hr, hml, hown, hts, hX, hbl, hlk, hgv⟩, hL, hK, hinj, hE⟩ := C
  obtain ⟨x, rfl, rfl⟩ := h
  intro H locs ls hP hS hl
  exact lv_icmp_eq (tgt := 1248) hx hb hd ht (fun _ => kk H locs ls hP hS hl) (fun c => absurd rfl c)
theorem lw_sum (ad : Nat → Nat) (v : Option smV) : ((((v.map (smCv ad)).toList ++ []).map fun (v : Value) => v.category).sum) ≤ 8 := by
  rcases v with _ | v
  · simp
  · rcases v with a | q | x | x <;> simp [smCv, Value.category]
theorem lw_lcmp {p : Program} {l : Launch} {e : Env} {R : Room} {s : State} {m : MethodId} {args : Array Value} {below : List Frame} {meth : Method} {c : Code} {H : Heap} {locs : List Loc} {Q : State → Prop} {cells slots : Nat} {cc : ByteArray} {ls : Array Slot} {rest : List Value} (hexec : p.tables.exec = Jvm.exec) (hb : c.code = cc) {x : Int64} (hdg : decode cc pc = .ok (.lcmp, 1))
    (k : W p l e R s m args below meth c H locs cells slots Q (F0 m (pc + 1) ls (.int 0 :: rest))) : W p l e R s m args below meth c H locs cells slots Q (F0 m pc ls (.long x :: .long x :: rest)) := by
  intro T hT X
  obtain ⟨t, a, b⟩ := k T hT X
  refine ⟨t, ?_, b⟩
  have h1 : ¬ x > x := fun h => absurd h (Int64.lt_irrefl)
  jvm_step X.here [X.here.top, hexec, hb, hdg, h1]
  exact a
theorem lw_eqL (C : lwCx X L xs) {off : Int} {v v' : Option smV} (h : agrL v v') (hd : decode code pc = .ok (.lcmp, 1)) (hd2 : decode code (pc + 1) = .ok (.ifCond .eq off, 3)) (ht : ((pc + 1 : Nat) : Int) + off = ((1248 : Nat) : Int)) (kk : lwW X 1248 i [] mem) : lwW X pc i ((v'.map (smCv X.2.2.2.2.2.2.2.2.2.2.2)).toList ++ ((v.map (smCv X.2.2.2.2.2.2.2.2.2.2.2)).toList ++ [])) mem := by
  obtain ⟨p, l, e, s, m, below, meth, co, b, E⟩ := X
  obtain ⟨⟨hx, hb, hr, hml, hown, hts, hX, hbl, hlk, hgv⟩, hL, hK, hinj, hE⟩ := C
  obtain ⟨x, rfl, rfl⟩ := h
  intro H locs ls hP hS hl
  refine lw_lcmp hx hb hd ?_
  exact lv_if_eq (tgt := 1248) hx hb hd2 ht (fun _ => kk H locs ls hP hS hl) (fun c => absurd rfl c)
end LWS
