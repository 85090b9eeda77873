/-! the constructors: an object's fields while it is made, the cells that it makes, and the steps that make them -/
def scF1 (v : Int32) (as : List Nat) (j : Nat) : Nat ⊕ (smT × Nat) → Value
  | .inl _ => .int (if j = 0 then v else 0)
  | .inr q => match as[q.2 - 1]? with
    | some a => .ref a
    | none => .null
def scF (v : Int32) (as : List Nat) (lay : List (Nat ⊕ (smT × Nat))) : List Value := lay.mapIdx (fun j t => scF1 v as j t)
def scV (c : Nat) : Int32 := if c = 9 ∨ c = 6 ∨ c = 11 then 8 else 0
def scCe (cI cZ : ClassId) (as : List Nat) : smT → va_E
  | .inl c => .inr (c, scF (scV c) as (scLay c))
  | .inr (false, n) => .inl (cI, n, .inl (fun _ => 0))
  | .inr (true, n) => .inl (cZ, n, .inl (fun _ => 0))
def scW (cI cZ : ClassId) : List smT → List Nat → va_W
  | t :: r, a :: as => (a, scCe cI cZ as t) :: scW cI cZ r as
  | _, _ => []
def scCl : List smT → Bool
  | [] => true
  | .inl c :: r => (scLay c).all (fun e => match e with
    | .inr q => Nat.ble 1 q.2 && Nat.ble q.2 r.length
    | _ => true) && scCl r
  | .inr _ :: r => scCl r
theorem scF_get (v : Int32) (as : List Nat) (lay : List (Nat ⊕ (smT × Nat))) (i : Nat) : (scF v as lay)[i]? = (lay[i]?).map (scF1 v as i) := by
  simp [scF]
theorem scF_len (v : Int32) (as : List Nat) (lay : List (Nat ⊕ (smT × Nat))) : (scF v as lay).length = lay.length := by
  simp [scF]
theorem scF_ext {v v' : Int32} {as as' : List Nat} {lay : List (Nat ⊕ (smT × Nat))} (h : ∀ (i : Nat) (t : Nat ⊕ (smT × Nat)), lay[i]? = some t → scF1 v as i t = scF1 v' as' i t) : scF v as lay = scF v' as' lay := by
  apply List.ext_getElem?
  intro i
  rw [scF_get, scF_get]
  cases ht : lay[i]? with
  | none => rfl
  | some t => simp only [Option.map_some, h i t ht]
theorem scCe_app {cI cZ : ClassId} {t : smT} {as bs : List Nat} (h : ∀ c, t = .inl c → (scLay c).all (fun e => match e with
    | .inr q => Nat.ble 1 q.2 && Nat.ble q.2 as.length
    | _ => true) = true) : scCe cI cZ (as ++ bs) t = scCe cI cZ as t := by
  rcases t with c | ⟨b, n⟩
  · have h1 := List.all_eq_true.mp (h c rfl)
    simp only [scCe]
    congr 2
    refine scF_ext (fun i t ht => ?_)
    have h2 := h1 t (List.mem_of_getElem? ht)
    rcases t with n | q
    · rfl
    · simp only [Bool.and_eq_true, Nat.ble_eq] at h2
      simp only [scF1]
      rw [List.getElem?_append_left (by omega)]
  · cases b <;> rfl
theorem scW_app (cI cZ : ClassId) : ∀ (s1 s2 : List smT) (a1 a2 : List Nat), a1.length = s1.length → scCl s1 = true → scW cI cZ (s1 ++ s2) (a1 ++ a2) = scW cI cZ s1 a1 ++ scW cI cZ s2 a2
  | [], s2, [], a2, _, _ => rfl
  | [], s2, _ :: _, a2, h, _ => by simp at h
  | t :: r, s2, [], a2, h, _ => by simp at h
  | t :: r, s2, a :: as, a2, h, hc => by
    have hl : as.length = r.length := by simpa using h
    have hr : scCl r = true := by
      rcases t with c | q
      · simp only [scCl, Bool.and_eq_true] at hc
        exact hc.2
      · exact hc
    show (a, scCe cI cZ (as ++ a2) t) :: scW cI cZ (r ++ s2) (as ++ a2) = (a, scCe cI cZ as t) :: (scW cI cZ r as ++ scW cI cZ s2 a2)
    rw [scW_app cI cZ r s2 as a2 hl hr, scCe_app (fun c e => ?_)]
    subst e
    simp only [scCl, Bool.and_eq_true] at hc
    rw [hl]
    exact hc.1
/-- which field the next cell's address goes to: n cells are there, then n' -/
def scOk (lay : List (Nat ⊕ (smT × Nat))) (n n' k : Nat) : Bool := Nat.blt k lay.length && (List.range lay.length).all (fun i => match lay[i]? with
  | some (.inr q) => cond (Nat.beq i k) (Nat.beq q.2 (n + 1)) (Nat.ble 1 q.2 && (Nat.ble q.2 n || Nat.blt n' q.2))
  | some (.inl _) => !(Nat.beq i k)
  | none => true)
theorem scF_put {v : Int32} {as bs : List Nat} {a n n' k : Nat} {lay : List (Nat ⊕ (smT × Nat))} (h : scOk lay n n' k = true) (hn : as.length = n) (hn' : n + 1 + bs.length = n') : (scF v as lay).set k (.ref a) = scF v (as ++ a :: bs) lay := by
  simp only [scOk, Bool.and_eq_true, Nat.blt_eq] at h
  obtain ⟨hk, h⟩ := h
  have h := List.all_eq_true.mp h
  apply List.ext_getElem?
  intro i
  by_cases hi : i = k
  · subst hi
    rw [List.getElem?_set_self (by rw [scF_len]; exact hk), scF_get]
    have h1 := h i (List.mem_range.mpr hk)
    cases ht : lay[i]? with
    | none => rw [List.getElem?_eq_none_iff] at ht; omega
    | some t =>
      rw [ht] at h1
      rcases t with m | q
      · simp at h1
      · have h2 : q.2 = n + 1 := by simpa using h1
        simp only [Option.map_some, scF1, h2]
        rw [show n + 1 - 1 = as.length by omega, List.getElem?_append_right (Nat.le_refl _), Nat.sub_self]
        rfl
  · rw [List.getElem?_set_ne (Ne.symm hi), scF_get, scF_get]
    cases ht : lay[i]? with
    | none => rfl
    | some t =>
      have h1 := h i (List.mem_range.mpr (List.getElem?_eq_some_iff.mp ht).1)
      rw [ht] at h1
      rcases t with m | q
      · rfl
      · have hb : Nat.beq i k = false := by
          rw [Bool.eq_false_iff]
          intro e
          exact hi (Nat.eq_of_beq_eq_true e)
        simp only [hb, cond_false, Bool.and_eq_true, Bool.or_eq_true, Nat.ble_eq, Nat.blt_eq] at h1
        simp only [Option.map_some, scF1]
        rcases h1.2 with h2 | h2
        · rw [List.getElem?_append_left (by omega)]
        · rw [List.getElem?_eq_none_iff.mpr (show as.length ≤ q.2 - 1 by omega), List.getElem?_eq_none_iff.mpr (show (as ++ a :: bs).length ≤ q.2 - 1 by rw [List.length_append, List.length_cons]; omega)]
/-- the cells that a class's constructor makes, its own apart; how many slots, frames, locals -/
def scSh : Nat → List smT
  | 0 => [.inr (false, 9), .inr (false, 9)]
  | 1 => List.replicate 6 (.inr (false, 12))
  | 2 => List.replicate 2 (.inr (false, 37))
  | 3 => scS0.drop 2 |>.take 26
  | 4 => scS0.drop 109 |>.take 8
  | 5 => [.inr (false, 60)]
  | 6 => [.inr (false, 9), .inr (false, 9)]
  | 7 => List.replicate 3 (.inr (false, 6))
  | 8 => List.replicate 6 (.inr (false, 6))
  | 9 => scS0.drop 3 |>.take 14
  | 10 => scS0.drop 1 |>.take 117
  | _ => scS0.drop 119
def scSz : smT → Nat
  | .inl c => smTn c
  | .inr (_, n) => n
def scCd : Nat → ByteArray
  | 0 => cX0_init
  | 1 => cX1_init
  | 2 => cX2_init
  | 3 => cX3_init
  | 4 => cX4_init
  | 5 => cX5_init
  | 6 => cX6_init
  | 7 => cX7_init
  | 8 => cX8_init
  | 9 => cX9_init
  | 10 => cX10_init
  | _ => cX11_init
def scY (c : Nat) : MethodName := ⟨smRn c, "<init>", "()V"⟩
def scFr : Nat → Nat
  | 3 => 3
  | 4 => 2
  | 9 => 2
  | 10 => 4
  | _ => 1
def scMc (c : Nat) : Nat := (scSh c).length
def scMs (c : Nat) : Nat := ((scSh c).map scSz).sum
def scRm (c : Nat) : Room := { frames := scFr c, cells := scMc c, slots := scMs c, locals := 20 * scFr c }
def scWd (c : Nat) : List Cond := .code (scY c) (scCd c) 1 none :: smTs
def scNe : List (String × Nat × MethodName) := [(RX10, 9, scY 3), (RX3, 9, scY 9), (RX9, 39, scY 1), (RX3, 18, scY 8), (RX3, 25, scY 7), (RX10, 24, scY 9), (RX10, 31, scY 5), (RX10, 38, scY 6), (RX10, 45, scY 2), (RX10, 52, scY 0), (RX10, 59, scY 4), (RX4, 11, scY 2)]
def scK (D : va_G) (cI cZ : ClassId) (U : State) : Prop := va_K D vwCl [(cI, .int), (cZ, .boolean)] U ∧ ∀ q ∈ scNe, va_Nw (.methodLinkNest q.1 q.2.1 q.2.2 "StoneRound") U
theorem scK_warm {D : va_G} {cI cZ : ClassId} {s U : State} (hW : s.WarmedH U.vm) (h : scK D cI cZ s) : scK D cI cZ U := ⟨va_K.moved hW.alike h.1, fun q hq => va_Nw.warmM hW (h.2 q hq)⟩
/-- the cell of a new object -/
def scN (c h : Nat) : va_W := [(h, .inr (c, scF 0 [] (scLay c)))]
def scPre (D : va_G) (cI cZ : ClassId) (c h sz : Nat) : Array Value → State → Prop := va_Pc [.ref h] (fun U => U.heap.size = sz ∧ va_P D vwCl (scN c h) U.heap ∧ scK D cI cZ U)
def scPost (D : va_G) (cI cZ : ClassId) (c h sz : Nat) : Array Value → State → Outcome → State → Prop := va_Qv (fun as : List Nat => as.length = (scSh c).length) (fun as t => va_P D vwCl (scW cI cZ (.inl c :: scSh c) (h :: as)) t.heap ∧ va_D (va_A (scN c h) sz) (scW cI cZ (.inl c :: scSh c) (h :: as))) (va_A (scN c h) sz)
def scMet (D : va_G) (cI cZ : ClassId) (c : Nat) : Prop := ∀ (l : Launch) (h sz : Nat), Met l (scY c) (scWd c) (scRm c) (scPre D cI cZ c h sz) (scPost D cI cZ c h sz) (scMc c) (scMs c) (va_A (scN c h) sz)
theorem scPre_blind (D : va_G) (cI cZ : ClassId) (c h sz : Nat) : FrameBlind (scPre D cI cZ c h sz) := by
  intro a U g mk q
  obtain ⟨q0, q1, q2, q3, q4⟩ := q
  exact ⟨q0, q1, q2, va_K.moved (u := U) (U := U.calling g mk a) (Vm.Alike.refl U.vm) q3, fun w hw => va_Nw.same rfl rfl (q4 w hw)⟩
/-- from here on, in the constructor of the class c: n cells and their slots are made -/
def scB (D : va_G) (cI cZ : ClassId) (c pc : Nat) (v : Int32) (sh : List smT) (cells slots : Nat) : Prop :=
  ∀ (p : Program) (l : Launch) (e : Env) (s : State) (m : MethodId) (args : Array Value) (below : List Frame) (meth : Method) (co : Code) (H : Heap) (locs : List Loc) (ls : Array Slot) (h : Nat) (as : List Nat),
    p.tables.exec = Jvm.exec → co.code = scCd c → co.maxLocals = 1 → meth.sig.returnType = none → meth.locks = false → s.vm.findClass (smRn c) = some m.cls → (∀ w ∈ smTs, w.before args s = true) → meth.name = "<init>" → scK D cI cZ s →
    va_P D vwCl ((h, .inr (c, scF v as (scLay c))) :: scW cI cZ sh as) H → va_D (va_A (scN c h) s.heap.size) ((h, .inr (c, scF v as (scLay c))) :: scW cI cZ sh as) → va_S (va_A (scN c h) s.heap.size) s.heap H locs → as.length = sh.length → lv_has ls 1 [(0, .ref h)] →
    W p l e (scRm c) s m args below meth co H locs cells slots (MQ below (scPost D cI cZ c h s.heap.size) args s (scMc c) (scMs c) (va_A (scN c h) s.heap.size)) (F0 m pc ls [])
/-- a whole number pushed -/
def scPu (cc : ByteArray) (pc : Nat) (v : Int32) (n : Nat) : Prop := (∃ x, decode cc pc = .ok (.iconst x, 1) ∧ Int32.ofInt x = v ∧ n = 1) ∨ (∃ x, decode cc pc = .ok (.bipush x, 2) ∧ (Int8.ofInt x).toInt32 = v ∧ n = 2) ∨ ∃ x, decode cc pc = .ok (.sipush x, 3) ∧ (Int16.ofInt x).toInt32 = v ∧ n = 3
theorem sc_push {p : Program} {l : Launch} {e : Env} {R : Room} {s : State} {m : MethodId} {args : Array Value} {below : List Frame} {meth : Method} {c : Code} {H : Heap} {locs : List Loc} {cells slots : Nat} {Q : State → Prop} {cc : ByteArray} {pc n : Nat} {v : Int32} {ls : Array Slot} {rest : List Value} (hx : p.tables.exec = Jvm.exec) (hb : c.code = cc) (h : scPu cc pc v n) (kk : W p l e R s m args below meth c H locs cells slots Q (F0 m (pc + n) ls (.int v :: rest))) : W p l e R s m args below meth c H locs cells slots Q (F0 m pc ls rest) := by
  rcases h with ⟨x, h1, h2, rfl⟩ | ⟨x, h1, h2, rfl⟩ | ⟨x, h1, h2, rfl⟩
  · exact lv_iconst hx hb h1 h2 kk
  · exact lv_bipush hx hb h1 h2 kk
  · exact lv_sipush hx hb h1 h2 kk
theorem sc_ret {D : va_G} {cI cZ : ClassId} {c pc : Nat} (hd : decode (scCd c) pc = .ok (.return_, 1)) : scB D cI cZ c pc (scV c) (scSh c) (scMc c) (scMs c) := by
  intro p l e s m args below meth co H locs ls h as hx hb hml hr hlk hown hts hin hK hP hD hS hlen hl
  exact W.vret hx hb hr (fun t ht hW => ⟨⟨as, rfl, hlen, by rw [ht]; exact hP, hD⟩, hS.F ht⟩) hS.2.2 hd
set_option maxHeartbeats 1000000 in
theorem sc_enter {D : va_G} {cI cZ : ClassId} {c oi : Nat} (hd0 : decode (scCd c) 0 = .ok (.aload_n 0, 1)) (hd1 : decode (scCd c) 1 = .ok (.invokespecial oi, 3)) (ho : Cond.methodLink (smRn c) oi objectInit ∈ smTs) (hf : 1 ≤ scFr c) (hpn : plainName (smRn c) = true) (h : scB D cI cZ c 4 0 [] 0 0) : scMet D cI cZ c := by
  intro l h0 sz
  refine Met.ofW (cc := scCd c) (maxL := 1) (ret := none) hpn rfl ?_
  intro p e s m args below meth co s₁ B hml hv
  obtain ⟨rfl, hsz, hP, hK⟩ := hv
  have hx := B.exec
  have hb := B.bytes
  have hr := B.returns
  have hts0 := atoms_spec (ws := scWd c) B.pre
  have hts : ∀ w ∈ smTs, w.before ([Value.ref h0].toArray) s = true := fun w hw => hts0 w (List.mem_cons_of_mem _ hw)
  have hown : s.vm.findClass (smRn c) = some m.cls := findClass_of_methodNamed B.named
  have hlocks := B.notSynchronized
  have hin : meth.name = "<init>" := (name_of_methodNamed B.named B.method).1
  subst hsz
  have hD : va_D (va_A (scN c h0) s.heap.size) (scN c h0) := by
    refine ⟨fun i j p q h1 h2 _ => ?_, fun k q hq => va_A.in hq⟩
    have h3 := (List.getElem?_eq_some_iff.mp h1).1
    have h4 := (List.getElem?_eq_some_iff.mp h2).1
    simp only [scN, List.length_cons, List.length_nil] at h3 h4
    omega
  have hl := lv_entry ([.ref h0]) (n := 1) (Nat.le_of_ble_eq_true rfl)
  rw [lg_entry_eq]
  generalize (lg_sl ([.ref h0]) ++ List.replicate (1 - (lg_sl ([.ref h0])).length) Slot.unset).toArray = ls at hl ⊢
  have hl : lv_has ls 1 [(0, .ref h0)] := hl
  refine lv_aload_n hx hb hd0 rfl (lv_at hl 0 rfl) ?_
  refine W.objInit hx hb hown (hts _ ho) (hts (.instanceMethod objectInit) (smTs_of (i := 66) (by decide +kernel) rfl)) (hts (.code objectInit ⟨#[0xb1]⟩ 1 none) (smTs_of (i := 67) (by decide +kernel) rfl)) rfl (by rw [hml]; exact hl.1) rfl hd1 (by show 1 ≤ scFr c; exact hf) (Nat.le_trans (m := 12) (Nat.le_of_ble_eq_true rfl) (show 12 ≤ 20 * scFr c by omega)) ?_
  refine W.eq (g2 := F0 m 4 ls []) rfl ?_
  exact h p l e s m _ below meth co s.heap [] ls h0 [] hx hb hml hr hlocks hown hts hin hK hP hD va_S.rf rfl hl
