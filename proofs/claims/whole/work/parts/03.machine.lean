/-! a small machine over whole numbers: its words, and what they mean on the machine of the claim -/
def smOwn (k : Nat) : Nat := (smMd k).1
def smNm (k : Nat) : MethodName := (smMd k).2.1
def smCd (k : Nat) : ByteArray := (smMd k).2.2.1
def smMx (k : Nat) : Nat := (smMd k).2.2.2.1
def smRt (k : Nat) : Option FieldType := (smMd k).2.2.2.2.1
def smNa (k : Nat) : Nat := (smMd k).2.2.2.2.2.1.1
def smSt (k : Nat) : Bool := (smMd k).2.2.2.2.2.1.2
def smFr (k : Nat) : Nat := (smMd k).2.2.2.2.2.2.1.1
def smLo (k : Nat) : Nat := (smMd k).2.2.2.2.2.2.1.2
def smTb (k : Nat) : List smI := (smMd k).2.2.2.2.2.2.2
def smRm (k : Nat) : Room := { frames := smFr k, cells := 0, slots := 0, locals := smLo k }
def smTx : Nat → u_T
  | 0 => TX0
  | 1 => TX1
  | 2 => TX2
  | 3 => TX3
  | 4 => TX4
  | 5 => TX5
  | 6 => TX6
  | 7 => TX7
  | 8 => TX8
  | 9 => TX9
  | 10 => TX10
  | _ => TX11
def smTn (c : Nat) : Nat := (smLay c).length
def smTy : Nat → Nat → FieldType
  | 0 => tyX0
  | 1 => tyX1
  | 2 => tyX2
  | 3 => tyX3
  | 4 => tyX4
  | 5 => tyX5
  | 6 => tyX6
  | 7 => tyX7
  | 8 => tyX8
  | 9 => tyX9
  | 10 => tyX10
  | _ => tyX11
def smClOk (ci : Nat) : Prop := (∀ w ∈ u_ws (smRn ci) (smTx ci) (smTn ci), w ∈ smTs) ∧ vwCl[ci]? = some (smRn ci, smTx ci, smTn ci) ∧ (∀ k, k < smTn ci → parseFieldDescriptor ((smTx ci) k).2.2.1 = some (smTy ci k)) ∧ (∀ a, a < smTn ci → ∀ b, b < smTn ci → a ≠ b → ((smTx ci) a).2.1 ≠ ((smTx ci) b).2.1)
theorem smTs_ps {ws : List Cond} (ps : List Nat) (h1 : ws = ps.filterMap (fun i => lw_tbl[i]?)) (h2 : ws.all goodWord = true) : ∀ w ∈ ws, w ∈ smTs := by
  intro w hw
  have hg := List.all_eq_true.mp h2 w hw
  rw [h1] at hw
  obtain ⟨i, -, hi⟩ := List.mem_filterMap.mp hw
  exact smTs_of hi hg
theorem smcl_0 : ∀ w ∈ u_ws RX0 TX0 5, w ∈ smTs := smTs_ps [313, 315, 317, 319, 321] (by decide +kernel) (by decide +kernel)
theorem smcl_1 : ∀ w ∈ u_ws RX1 TX1 7, w ∈ smTs := smTs_ps [97, 99, 101, 103, 105, 107, 109] (by decide +kernel) (by decide +kernel)
theorem smcl_2 : ∀ w ∈ u_ws RX2 TX2 5, w ∈ smTs := smTs_ps [289, 291, 293, 295, 297] (by decide +kernel) (by decide +kernel)
theorem smcl_3 : ∀ w ∈ u_ws RX3 TX3 4, w ∈ smTs := smTs_ps [215, 217, 219, 221] (by decide +kernel) (by decide +kernel)
theorem smcl_4 : ∀ w ∈ u_ws RX4 TX4 4, w ∈ smTs := smTs_ps [336, 338, 340, 342] (by decide +kernel) (by decide +kernel)
theorem smcl_5 : ∀ w ∈ u_ws RX5 TX5 4, w ∈ smTs := smTs_ps [239, 241, 243, 245] (by decide +kernel) (by decide +kernel)
theorem smcl_6 : ∀ w ∈ u_ws RX6 TX6 3, w ∈ smTs := smTs_ps [261, 263, 265] (by decide +kernel) (by decide +kernel)
theorem smcl_7 : ∀ w ∈ u_ws RX7 TX7 4, w ∈ smTs := smTs_ps [199, 201, 203, 205] (by decide +kernel) (by decide +kernel)
theorem smcl_8 : ∀ w ∈ u_ws RX8 TX8 7, w ∈ smTs := smTs_ps [173, 175, 177, 179, 181, 183, 185] (by decide +kernel) (by decide +kernel)
theorem smcl_9 : ∀ w ∈ u_ws RX9 TX9 10, w ∈ smTs := smTs_ps [135, 137, 139, 141, 143, 145, 147, 149, 151, 153] (by decide +kernel) (by decide +kernel)
theorem smcl_10 : ∀ w ∈ u_ws RX10 TX10 10, w ∈ smTs := smTs_ps [355, 357, 359, 361, 363, 365, 367, 369, 371, 373] (by decide +kernel) (by decide +kernel)
theorem smcl_11 : ∀ w ∈ u_ws RX11 TX11 35, w ∈ smTs := smTs_ps [909, 911, 913, 915, 917, 919, 921, 923, 925, 927, 929, 931, 933, 935, 937, 939, 941, 943, 945, 947, 949, 951, 953, 955, 957, 959, 961, 963, 965, 967, 969, 971, 973, 975, 977] (by decide +kernel) (by decide +kernel)
theorem smCl_ok : ∀ ci, ci < 12 → smClOk ci
  | 0, _ => ⟨smcl_0, rfl, tyX0_ok, nmX0⟩
  | 1, _ => ⟨smcl_1, rfl, tyX1_ok, nmX1⟩
  | 2, _ => ⟨smcl_2, rfl, tyX2_ok, nmX2⟩
  | 3, _ => ⟨smcl_3, rfl, tyX3_ok, nmX3⟩
  | 4, _ => ⟨smcl_4, rfl, tyX4_ok, nmX4⟩
  | 5, _ => ⟨smcl_5, rfl, tyX5_ok, nmX5⟩
  | 6, _ => ⟨smcl_6, rfl, tyX6_ok, nmX6⟩
  | 7, _ => ⟨smcl_7, rfl, tyX7_ok, nmX7⟩
  | 8, _ => ⟨smcl_8, rfl, tyX8_ok, nmX8⟩
  | 9, _ => ⟨smcl_9, rfl, tyX9_ok, nmX9⟩
  | 10, _ => ⟨smcl_10, rfl, tyX10_ok, nmX10⟩
  | 11, _ => ⟨smcl_11, rfl, tyX11_ok, nmX11⟩
  | n + 12, h => absurd h (by omega)
/-- the fields of a class as the layout has them -/
def smIsI : FieldType → Bool
  | .int => true
  | _ => false
def smIsZ : FieldType → Bool
  | .boolean => true
  | _ => false
def smLayB : Bool := (List.range 12).all fun ci => (List.range (smTn ci)).all fun b => match (smLay ci)[b]? with
  | some (.inl 0) => smIsI (smTy ci b) && !((smTx ci) b).2.2.2
  | some (.inl 1) => smIsZ (smTy ci b) && !((smTx ci) b).2.2.2
  | _ => true
theorem smLayB_ok : smLayB = true := by decide +kernel
theorem smIsI_eq {t : FieldType} (h : smIsI t = true) : t = .int := by
  cases t <;> first | rfl | cases h
theorem smIsZ_eq {t : FieldType} (h : smIsZ t = true) : t = .boolean := by
  cases t <;> first | rfl | cases h
theorem smLay_ok {ci b : Nat} (hc : ci < 12) (hb : b < smTn ci) : ((smLay ci)[b]? = some (.inl 0) → smTy ci b = .int ∧ ((smTx ci) b).2.2.2 = false) ∧ ((smLay ci)[b]? = some (.inl 1) → smTy ci b = .boolean ∧ ((smTx ci) b).2.2.2 = false) := by
  have h1 := List.all_eq_true.mp (List.all_eq_true.mp smLayB_ok ci (List.mem_range.mpr hc)) b (List.mem_range.mpr hb)
  refine ⟨fun h => ?_, fun h => ?_⟩
  · simp only [h, Bool.and_eq_true, Bool.not_eq_true'] at h1
    exact ⟨smIsI_eq h1.1, h1.2⟩
  · simp only [h, Bool.and_eq_true, Bool.not_eq_true'] at h1
    exact ⟨smIsZ_eq h1.1, h1.2⟩
def smShB : Bool := (List.range 136).all fun k => match smSh[k]? with
  | some (.inl c) => decide (c < 12) && (smLay c).all (fun e => match e with
    | .inr q => decide (smSh[k + q.2]? = some q.1)
    | _ => true)
  | some (.inr _) => true
  | none => false
theorem smShB_ok : smShB = true := by decide +kernel
theorem smSh_len : smSh.length = 136 := by decide +kernel
theorem smSh_lt {k : Nat} {t : smT} (h : smSh[k]? = some t) : k < 136 := by
  have := (List.getElem?_eq_some_iff.mp h).1
  rw [smSh_len] at this
  exact this
theorem smSh_cls {k c : Nat} (h : smSh[k]? = some (.inl c)) : c < 12 ∧ ∀ (b : Nat) (q : smT × Nat), (smLay c)[b]? = some (.inr q) → smSh[k + q.2]? = some q.1 := by
  have h1 := List.all_eq_true.mp smShB_ok k (List.mem_range.mpr (smSh_lt h))
  simp only [h, Bool.and_eq_true, decide_eq_true_eq] at h1
  refine ⟨h1.1, fun b q hq => ?_⟩
  have h2 := List.all_eq_true.mp h1.2 _ (List.mem_of_getElem? hq)
  simpa using h2
/-- an object's field that is no cell of its own: a number, or (2) the row that lives behind the object's own cell, from 100 on -/
def smFi (ad : Nat → Nat) (mem : smM) (k j n : Nat) : Value := cond (n == 2) (.ref (ad (k + 1000))) (.int (Int32.ofInt (mem k (j : Int))))
def smLay2B : Bool := (List.range 12).all fun c => c == 1 || (smLay c).all (fun e => match e with
  | .inl n => !(n == 2)
  | _ => true)
theorem smLay2B_ok : smLay2B = true := by decide +kernel
theorem smLay_2 {c b : Nat} (hc : c < 12) (h : (smLay c)[b]? = some (.inl 2)) : c = 1 := by
  have h1 := List.all_eq_true.mp smLay2B_ok c (List.mem_range.mpr hc)
  simp only [Bool.or_eq_true, beq_iff_eq] at h1
  rcases h1 with h1 | h1
  · exact h1
  · have h2 := List.all_eq_true.mp h1 _ (List.mem_of_getElem? h)
    simp at h2
theorem smTn_100 {c : Nat} (hc : c < 12) : smTn c < 100 := by
  have h1 : (List.range 12).all (fun c => decide (smTn c < 100)) = true := by decide +kernel
  exact of_decide_eq_true (List.all_eq_true.mp h1 c (List.mem_range.mpr hc))
/-- the values of an object's fields -/
def smFv (ad : Nat → Nat) (mem : smM) (k : Nat) : List (Nat ⊕ (smT × Nat)) → Nat → List Value
  | [], _ => []
  | .inl n :: r, j => smFi ad mem k j n :: smFv ad mem k r (j + 1)
  | .inr q :: r, j => .ref (ad (k + q.2)) :: smFv ad mem k r (j + 1)
def smF1 (ad : Nat → Nat) (mem : smM) (k j : Nat) : Nat ⊕ (smT × Nat) → Value
  | .inl n => smFi ad mem k j n
  | .inr q => .ref (ad (k + q.2))
theorem smFv_get (ad : Nat → Nat) (mem : smM) (k : Nat) : ∀ (l : List (Nat ⊕ (smT × Nat))) (j i : Nat), (smFv ad mem k l j)[i]? = (l[i]?).map (smF1 ad mem k (j + i))
  | [], j, i => by simp [smFv]
  | .inl n :: r, j, 0 => by simp [smFv, smF1]
  | .inr q :: r, j, 0 => by simp [smFv, smF1]
  | .inl n :: r, j, i + 1 => by
    simp only [smFv, List.getElem?_cons_succ]
    rw [smFv_get ad mem k r (j + 1) i, Nat.add_right_comm j 1 i, Nat.add_assoc]
  | .inr q :: r, j, i + 1 => by
    simp only [smFv, List.getElem?_cons_succ]
    rw [smFv_get ad mem k r (j + 1) i, Nat.add_right_comm j 1 i, Nat.add_assoc]
theorem smFv_len (ad : Nat → Nat) (mem : smM) (k : Nat) : ∀ (l : List (Nat ⊕ (smT × Nat))) (j : Nat), (smFv ad mem k l j).length = l.length
  | [], j => rfl
  | .inl n :: r, j => by simp [smFv, smFv_len ad mem k r]
  | .inr q :: r, j => by simp [smFv, smFv_len ad mem k r]
abbrev smE : Type := va_G × (ClassId × ClassId) × (Nat → Nat)
def smCe (E : smE) (mem : smM) (k : Nat) : smT → va_E
  | .inl c => .inr (c, smFv E.2.2 mem k (smLay c) 0)
  | .inr (false, n) => .inl (E.2.1.1, n, .inl (fun j => Int32.ofInt (mem k (j : Int))))
  | .inr (true, n) => .inl (E.2.1.2, n, .inl (fun j => Int32.ofInt (mem k (j : Int))))
/-- the rows that live behind the cells of Airs -/
def smVi : List Nat := [10, 36, 62, 87]
def smIx : Nat → Nat
  | 10 => 136
  | 36 => 137
  | 62 => 138
  | _ => 139
def smVe (E : smE) (mem : smM) (k : Nat) : va_E := .inl (E.2.1.1, 12, .inl (fun j => Int32.ofInt (mem k (100 + (j : Int)))))
def smWs (E : smE) (mem : smM) : va_W := smSh.mapIdx (fun k t => (E.2.2 k, smCe E mem k t)) ++ smVi.map (fun k => (E.2.2 (k + 1000), smVe E mem k))
def smViB : Bool := (List.range 136).all fun k => match smSh[k]? with
  | some (.inl c) => !(c == 1) || smVi.contains k
  | _ => true
theorem smViB_ok : smViB = true := by decide +kernel
theorem smVi_of {k : Nat} (h : smSh[k]? = some (.inl 1)) : k ∈ smVi := by
  have h1 := List.all_eq_true.mp smViB_ok k (List.mem_range.mpr (smSh_lt h))
  simp only [h] at h1
  simpa using h1
theorem smVi_cls : ∀ k ∈ smVi, smSh[k]? = some (.inl 1) := by decide +kernel
theorem smIx_at : ∀ k ∈ smVi, smVi[smIx k - 136]? = some k ∧ 136 ≤ smIx k := by decide +kernel
theorem smIx_of : ∀ i, i < 4 → ∀ k ∈ smVi, smVi[i]? = some k → smIx k = 136 + i := by decide +kernel
theorem smWs_lo (E : smE) (mem : smM) {k : Nat} (h : k < 136) : (smWs E mem)[k]? = (smSh[k]?).map (fun t => (E.2.2 k, smCe E mem k t)) := by
  have hl : k < (smSh.mapIdx (fun k t => (E.2.2 k, smCe E mem k t))).length := by rw [List.length_mapIdx, smSh_len]; exact h
  rw [smWs, List.getElem?_append_left hl, List.getElem?_mapIdx]
theorem smWs_hi (E : smE) (mem : smM) {k : Nat} (h : 136 ≤ k) : (smWs E mem)[k]? = (smVi[k - 136]?).map (fun k => (E.2.2 (k + 1000), smVe E mem k)) := by
  have hl : (smSh.mapIdx (fun k t => (E.2.2 k, smCe E mem k t))).length = 136 := by rw [List.length_mapIdx, smSh_len]
  rw [smWs, List.getElem?_append_right (by rw [hl]; exact h), hl, List.getElem?_map]
theorem smWs_at {E : smE} {mem : smM} {k : Nat} {t : smT} (h : smSh[k]? = some t) : (smWs E mem)[k]? = some (E.2.2 k, smCe E mem k t) := by
  rw [smWs_lo E mem (smSh_lt h), h]; rfl
theorem smWs_vat {E : smE} {mem : smM} {k : Nat} (h : smSh[k]? = some (.inl 1)) : (smWs E mem)[smIx k]? = some (E.2.2 (k + 1000), smVe E mem k) := by
  obtain ⟨h1, h2⟩ := smIx_at k (smVi_of h)
  rw [smWs_hi E mem h2, h1]; rfl
theorem smFv_congr' (ad : Nat → Nat) {mem mem' : smM} {k n : Nat} (h : ∀ i : Nat, i < n → mem' k (i : Int) = mem k (i : Int)) : ∀ (l : List (Nat ⊕ (smT × Nat))) (j : Nat), j + l.length ≤ n → smFv ad mem' k l j = smFv ad mem k l j
  | [], j, _ => rfl
  | .inl n :: r, j, hj => by
    simp only [List.length_cons] at hj
    simp [smFv, smFi, smFv_congr' ad h r (j + 1) (by omega), h j (by omega)]
  | .inr q :: r, j, hj => by
    simp only [List.length_cons] at hj
    simp [smFv, smFv_congr' ad h r (j + 1) (by omega)]
theorem smFv_congr (ad : Nat → Nat) {mem mem' : smM} {k : Nat} (h : ∀ i, mem' k i = mem k i) (l : List (Nat ⊕ (smT × Nat))) (j : Nat) : smFv ad mem' k l j = smFv ad mem k l j := smFv_congr' ad (n := j + l.length) (fun i _ => h i) l j (Nat.le_refl _)
theorem smCe_congr (E : smE) {mem mem' : smM} {k : Nat} (h : ∀ i, mem' k i = mem k i) (t : smT) : smCe E mem' k t = smCe E mem k t := by
  rcases t with c | ⟨b, n⟩
  · simp only [smCe, smFv_congr E.2.2 h]
  · cases b <;> simp only [smCe, h]
theorem smVe_congr (E : smE) {mem mem' : smM} {k : Nat} (h : ∀ i : Nat, mem' k (100 + (i : Int)) = mem k (100 + (i : Int))) : smVe E mem' k = smVe E mem k := by
  simp only [smVe, h]
theorem smWs_set {E : smE} {mem mem' : smM} {k : Nat} {t : smT} (hk : smSh[k]? = some t) {e : va_E} (h1 : smCe E mem' k t = e) (h2 : ∀ j, j ≠ k → ∀ i, mem' j i = mem j i) (h3 : t = .inl 1 → ∀ i : Nat, mem' k (100 + (i : Int)) = mem k (100 + (i : Int))) : (smWs E mem).set k (E.2.2 k, e) = smWs E mem' := by
  apply List.ext_getElem?
  intro i
  by_cases hi : i = k
  · subst hi
    rw [smWs_at hk, h1, List.getElem?_set_self]
    exact (List.getElem?_eq_some_iff.mp (smWs_at (E := E) (mem := mem) hk)).1
  · rw [List.getElem?_set_ne (Ne.symm hi)]
    rcases Nat.lt_or_ge i 136 with h4 | h4
    · rw [smWs_lo E mem h4, smWs_lo E mem' h4]
      cases hs : smSh[i]? with
      | none => rfl
      | some t' => simp only [Option.map_some, smCe_congr E (h2 i hi)]
    · rw [smWs_hi E mem h4, smWs_hi E mem' h4]
      cases hs : smVi[i - 136]? with
      | none => rfl
      | some j =>
        have hj : ∀ i : Nat, mem' j (100 + (i : Int)) = mem j (100 + (i : Int)) := by
          by_cases e : j = k
          · subst e
            have h5 := smVi_cls j (List.mem_of_getElem? hs)
            rw [hk] at h5
            exact h3 (Option.some.inj h5)
          · exact fun i => h2 j e _
        simp only [Option.map_some, smVe_congr E hj]
theorem smWs_vset {E : smE} {mem mem' : smM} {k : Nat} (hk : smSh[k]? = some (.inl 1)) {e : va_E} (h1 : smVe E mem' k = e) (h2 : ∀ j, j ≠ k → ∀ i, mem' j i = mem j i) (h3 : ∀ i : Nat, i < 100 → mem' k (i : Int) = mem k (i : Int)) : (smWs E mem).set (smIx k) (E.2.2 (k + 1000), e) = smWs E mem' := by
  apply List.ext_getElem?
  intro i
  by_cases hi : i = smIx k
  · subst hi
    rw [smWs_vat hk, h1, List.getElem?_set_self]
    exact (List.getElem?_eq_some_iff.mp (smWs_vat (E := E) (mem := mem) hk)).1
  · rw [List.getElem?_set_ne (Ne.symm hi)]
    rcases Nat.lt_or_ge i 136 with h4 | h4
    · rw [smWs_lo E mem h4, smWs_lo E mem' h4]
      cases hs : smSh[i]? with
      | none => rfl
      | some t' =>
        by_cases e : i = k
        · subst e
          rw [hk] at hs
          cases hs
          simp only [Option.map_some, smCe, smFv_congr' E.2.2 h3 (smLay 1) 0 (Nat.le_of_ble_eq_true rfl)]
        · simp only [Option.map_some, smCe_congr E (h2 i e)]
    · rw [smWs_hi E mem h4, smWs_hi E mem' h4]
      cases hs : smVi[i - 136]? with
      | none => rfl
      | some j =>
        have hl : i - 136 < 4 := (List.getElem?_eq_some_iff.mp hs).1
        have hx := smIx_of (i - 136) hl j (List.mem_of_getElem? hs) hs
        have e : j ≠ k := fun z => hi (by rw [← z, hx]; omega)
        simp only [Option.map_some, smVe_congr E (fun i => h2 j e _)]
def smDm (k : Nat) : Prop := k < 136 ∨ k = 1010 ∨ k = 1036 ∨ k = 1062 ∨ k = 1087
def smInj (E : smE) : Prop := ∀ i j, smDm i → smDm j → E.2.2 i = E.2.2 j → i = j
def smA (E : smE) (sz : Nat) : Nat → Prop := fun q => (∃ k, smDm k ∧ q = E.2.2 k) ∨ sz ≤ q
/-- the key of the cell at a place of the list -/
def smKy (i : Nat) : Nat := if i < 136 then i else if i = 136 then 1010 else if i = 137 then 1036 else if i = 138 then 1062 else 1087
theorem smKy_dm {i : Nat} (h : i < 140) : smDm (smKy i) := by
  unfold smKy smDm
  repeat' split
  all_goals omega
theorem smKy_inj {i j : Nat} (hi : i < 140) (hj : j < 140) (h : smKy i = smKy j) : i = j := by
  unfold smKy at h
  repeat' split at h
  all_goals omega
theorem smWs_inv {E : smE} {mem : smM} {k : Nat} {q : Nat × va_E} (h : (smWs E mem)[k]? = some q) : k < 140 ∧ q.1 = E.2.2 (smKy k) := by
  rcases Nat.lt_or_ge k 136 with h4 | h4
  · rw [smWs_lo E mem h4] at h
    obtain ⟨t, h1, h2⟩ := Option.map_eq_some_iff.mp h
    refine ⟨by omega, ?_⟩
    rw [← h2, smKy, if_pos h4]
  · rw [smWs_hi E mem h4] at h
    obtain ⟨j, h1, h2⟩ := Option.map_eq_some_iff.mp h
    have hl : k - 136 < 4 := (List.getElem?_eq_some_iff.mp h1).1
    refine ⟨by omega, ?_⟩
    rw [← h2]
    have h5 : ∀ i, i < 4 → ∀ j ∈ smVi, smVi[i]? = some j → j + 1000 = smKy (136 + i) := by decide +kernel
    have h6 := h5 (k - 136) hl j (List.mem_of_getElem? h1) h1
    rw [h6, show 136 + (k - 136) = k by omega]
theorem smD_of {E : smE} (hi : smInj E) (sz : Nat) (mem : smM) : va_D (smA E sz) (smWs E mem) := by
  refine ⟨fun i j p q h1 h2 h => ?_, fun k q h => ?_⟩
  · obtain ⟨a1, a2⟩ := smWs_inv h1
    obtain ⟨b1, b2⟩ := smWs_inv h2
    exact smKy_inj a1 b1 (hi _ _ (smKy_dm a1) (smKy_dm b1) (by rw [← a2, ← b2, h]))
  · obtain ⟨a1, a2⟩ := smWs_inv h
    exact Or.inl ⟨_, smKy_dm a1, a2⟩
theorem smA_mono {E : smE} {a b q : Nat} (h : a ≤ b) (hq : smA E b q) : smA E a q := by
  rcases hq with h1 | h1
  · exact Or.inl h1
  · exact Or.inr (Nat.le_trans h h1)
def smU (mem : smM) (k : Nat) (j v : Int) : smM := fun k' j' => if k' = k ∧ j' = j then v else mem k' j'
theorem smU_ne {mem : smM} {k : Nat} {j v : Int} {k' : Nat} (h : k' ≠ k) (j' : Int) : smU mem k j v k' j' = mem k' j' := by
  simp [smU, h]
def smCp (mem : smM) (k0 k1 : Nat) (n : Int) : smM := fun k j => if k = k1 ∧ 0 ≤ j ∧ j < n then mem k0 j else mem k j
def smCv2 (mem : smM) (k0 k1 : Nat) (n : Int) : smM := fun k j => if k = k1 ∧ 100 ≤ j ∧ j < 100 + n then mem k0 j else mem k j
/-- whole numbers as the machine's -/
def smIR (a : Int) : Prop := -2147483648 ≤ a ∧ a ≤ 2147483647
theorem smIR_toInt {a : Int} (h : smIR a) : (Int32.ofInt a).toInt = a := by
  obtain ⟨h1, h2⟩ := h
  exact Int32.toInt_ofInt_of_le (by simpa using h1) (by omega)
theorem sm_lt {a b : Int} (ha : smIR a) (hb : smIR b) : Int32.ofInt a < Int32.ofInt b ↔ a < b := by
  rw [Int32.lt_iff_toInt_lt, smIR_toInt ha, smIR_toInt hb]
theorem sm_le {a b : Int} (ha : smIR a) (hb : smIR b) : Int32.ofInt a ≤ Int32.ofInt b ↔ a ≤ b := by
  rw [Int32.le_iff_toInt_le, smIR_toInt ha, smIR_toInt hb]
theorem sm_eq {a b : Int} (ha : smIR a) (hb : smIR b) : Int32.ofInt a = Int32.ofInt b ↔ a = b := by
  rw [← Int32.toInt_inj, smIR_toInt ha, smIR_toInt hb]
theorem sm_0 : Int32.ofInt 0 = 0 := rfl
theorem smIR_0 : smIR 0 := ⟨by decide, by decide⟩
theorem sm_ofToInt (x : Int32) : Int32.ofInt x.toInt = x := by simp
theorem sm_idx {i : Int} {n : Nat} (h0 : 0 ≤ i) (h1 : i < n) (hn : n < 2 ^ 31) : vp_in (Int32.ofInt i) n ∧ (Int32.ofInt i).toNatClampNeg = i.toNat := by
  have hr : smIR i := ⟨by omega, by omega⟩
  have ht := smIR_toInt hr
  refine ⟨vp_in_iff.mpr ⟨by rw [ht]; exact h0, by rw [ht]; exact h1⟩, ?_⟩
  show (Int32.ofInt i).toInt.toNat = i.toNat
  rw [ht]
def smAnd (a b : Int) : Int := (Int32.ofInt a &&& Int32.ofInt b).toInt
def smOr (a b : Int) : Int := (Int32.ofInt a ||| Int32.ofInt b).toInt
def smXor (a b : Int) : Int := (Int32.ofInt a ^^^ Int32.ofInt b).toInt
def smShl (a b : Int) : Int := (Int32.ofInt a <<< (Int32.ofInt b &&& 31)).toInt
def smShr (a b : Int) : Int := (Int32.ofInt a >>> (Int32.ofInt b &&& 31)).toInt
def smUsh (a b : Int) : Int := ((Int32.ofInt a).toUInt32 >>> ((Int32.ofInt b).toUInt32 &&& Int32.toUInt32 31)).toInt32.toInt
theorem sm_div {a b : Int} (ha : smIR a) (hb : smIR b) (h0 : 0 < b) : Int32.ofInt a / Int32.ofInt b = Int32.ofInt (a.tdiv b) := by
  apply Int32.toInt_inj.mp
  have hq : smIR (a.tdiv b) := by
    obtain ⟨h1, h2⟩ := ha
    have hn := Int.natAbs_tdiv_le_natAbs a b
    have h3 : (a.tdiv b).natAbs ≤ a.natAbs := hn
    by_cases hs : 0 ≤ a
    · have := Int.tdiv_nonneg hs (Int.le_of_lt h0)
      constructor <;> omega
    · constructor
      · omega
      · have h5 : (-a).tdiv b = -(a.tdiv b) := Int.neg_tdiv a b
        have h6 := Int.tdiv_nonneg (show 0 ≤ -a by omega) (Int.le_of_lt h0)
        omega
  rw [smIR_toInt hq, Int32.toInt_div_of_ne_right _ _ (by
    intro h
    have := congrArg Int32.toInt h
    rw [smIR_toInt hb] at this
    have h9 : (-1 : Int32).toInt = -1 := rfl
    rw [h9] at this
    omega), smIR_toInt ha, smIR_toInt hb]
theorem sm_ne0 {b : Int} (hb : smIR b) (h0 : 0 < b) : ¬ Int32.ofInt b = 0 := by
  intro h
  have h1 : Int32.ofInt b = Int32.ofInt 0 := h
  have := (sm_eq hb smIR_0).mp h1
  omega
theorem sm_rem {a b : Int} (ha : smIR a) (hb : smIR b) (h0 : 0 < b) : Int32.ofInt a - Int32.ofInt a / Int32.ofInt b * Int32.ofInt b = Int32.ofInt (a.tmod b) := by
  rw [sm_div ha hb h0, ← Int32.ofInt_mul, ← Int32.ofInt_sub]
  congr 1
  have := Int.tmod_add_tdiv_mul a b
  omega
/-- values -/
def smOK : smV → Prop
  | .inr (.inl q) => smSh[q.2]? = some q.1
  | .inr (.inr (.inr k)) => smSh[k]? = some (.inl 1)
  | _ => True
def smC1 : smV → Bool
  | .inr (.inr (.inl _)) => false
  | _ => true
def smCat : smV → Nat
  | .inr (.inr (.inl _)) => 2
  | _ => 1
def smCv (ad : Nat → Nat) : smV → Value
  | .inl a => .int (Int32.ofInt a)
  | .inr (.inl q) => .ref (ad q.2)
  | .inr (.inr (.inl x)) => .long (Int64.ofInt x)
  | .inr (.inr (.inr k)) => .ref (ad (k + 1000))
theorem smCv_cat (ad : Nat → Nat) (v : smV) : (smCv ad v).category = smCat v := by
  rcases v with a | q | x | x <;> rfl
theorem smCv_c1 (ad : Nat → Nat) {v : smV} (h : smC1 v = true) : (smCv ad v).category = 1 := by
  rcases v with a | q | x | x
  · rfl
  · rfl
  · cases h
  · rfl
/-- what is known of the locals -/
def smLs (ad : Nat → Nat) (ls : Array Slot) (n : Nat) (L : List (Option smV)) : Prop := ls.size = n ∧ lv_wf ls ∧ ∀ (i : Nat) (v : smV), L[i]? = some (some v) → ls[i]? = some (.val (smCv ad v)) ∧ smOK v ∧ smC1 v = true
def smPr (ad : Nat → Nat) (L : List (Option smV)) : List (Nat × Value) := L.zipIdx.filterMap (fun q => q.1.map (fun v => (q.2, smCv ad v)))
theorem smPr_mem {ad : Nat → Nat} {L : List (Option smV)} {i : Nat} {v : smV} (h : L[i]? = some (some v)) : (i, smCv ad v) ∈ smPr ad L := by
  refine List.mem_filterMap.mpr ⟨(some v, i), ?_, rfl⟩
  rw [List.mem_iff_getElem?]
  exact ⟨i, by simp [List.getElem?_zipIdx, h]⟩
theorem smPr_inv {ad : Nat → Nat} {L : List (Option smV)} {q : Nat × Value} (h : q ∈ smPr ad L) : ∃ v, L[q.1]? = some (some v) ∧ q.2 = smCv ad v := by
  obtain ⟨⟨o, i⟩, h1, h2⟩ := List.mem_filterMap.mp h
  cases o with
  | none => cases h2
  | some v =>
    cases h2
    obtain ⟨j, hj⟩ := List.mem_iff_getElem?.mp h1
    rw [List.getElem?_zipIdx] at hj
    cases hL : L[j]? with
    | none => rw [hL] at hj; cases hj
    | some o =>
      rw [hL] at hj
      simp at hj
      obtain ⟨rfl, rfl⟩ := hj
      exact ⟨v, hL, rfl⟩
theorem smLs_has {ad : Nat → Nat} {ls : Array Slot} {n : Nat} {L : List (Option smV)} (h : smLs ad ls n L) : lv_has ls n (smPr ad L) := by
  refine ⟨h.1, h.2.1, fun q hq => ?_⟩
  obtain ⟨v, h1, h2⟩ := smPr_inv hq
  rw [h2]
  exact (h.2.2 _ v h1).1
theorem smLs_set {ad : Nat → Nat} {ls ls' : Array Slot} {n : Nat} {L : List (Option smV)} {i : Nat} {v : smV} (h : smLs ad ls n L) (hv : smOK v) (hc : smC1 v = true)
    (h' : lv_has ls' n ((i, smCv ad v) :: (smPr ad L).filter (fun q => !(q.1 == i) && !(q.1 + 1 == i && q.2.category == 2)))) : smLs ad ls' n (L.set i (some v)) := by
  refine ⟨h'.1, h'.2.1, fun j w hj => ?_⟩
  by_cases hji : j = i
  · subst hji
    have hl : j < L.length := by
      have := (List.getElem?_eq_some_iff.mp hj).1
      simpa using this
    rw [List.getElem?_set_self hl] at hj
    cases hj
    exact ⟨h'.2.2 _ List.mem_cons_self, hv, hc⟩
  · rw [List.getElem?_set_ne (Ne.symm hji)] at hj
    obtain ⟨h1, h2, h3⟩ := h.2.2 j w hj
    refine ⟨h'.2.2 (j, smCv ad w) (List.mem_cons_of_mem _ (List.mem_filter.mpr ⟨smPr_mem hj, ?_⟩)), h2, h3⟩
    have hc1 := smCv_c1 ad h3
    simp [hji, hc1]
/-- the world at a state -/
def smNw (U : State) : Prop := ∀ q ∈ smNe, va_Nw (.methodLinkNest q.1 q.2.1 q.2.2.1 q.2.2.2) U
def smKs (E : smE) (U : State) : Prop := va_K E.1 vwCl [(E.2.1.1, .int), (E.2.1.2, .boolean)] U ∧ smNw U
theorem smKs_warm {E : smE} {s U : State} (hW : s.WarmedH U.vm) (h : smKs E s) : smKs E U := ⟨va_K.moved hW.alike h.1, fun q hq => va_Nw.warmM hW (h.2 q hq)⟩
def smPc (E : smE) (args : List smV) (mem : smM) (sz : Nat) : Array Value → State → Prop := va_Pc (args.map (smCv E.2.2)) (fun U => U.heap.size = sz ∧ va_P E.1 vwCl (smWs E mem) U.heap ∧ smKs E U)
def smQc (E : smE) (sz : Nat) (Post : Option smV → smM → Prop) : Array Value → State → Outcome → State → Prop := fun _ st oc t => (∃ (v : Option smV) (mem' : smM), oc = .returned (v.map (smCv E.2.2)) ∧ Post v mem' ∧ (∀ w, v = some w → smOK w) ∧ va_P E.1 vwCl (smWs E mem') t.heap) ∧ va_F (smA E sz) st t
def smWd (k : Nat) : List Cond := .code (smNm k) (smCd k) (smMx k) (smRt k) :: smTs
/-- a method's run, whoever calls it -/
def smRunB (k : Nat) (args : List smV) (mem : smM) (Post : Option smV → smM → Prop) : Prop :=
  (∀ v ∈ args, smOK v ∧ smC1 v = true) → ∀ (l : Launch) (E : smE) (sz : Nat), smInj E → Met l (smNm k) (smWd k) (smRm k) (smPc E args mem sz) (smQc E sz Post) 0 0 (smA E sz)
def smRun (k : Nat) (args : List smV) (mem : smM) (Post : Option smV → smM → Prop) : Prop := smRunB k args mem Post = True
/-- what holds all through a method's frame -/
def smCx (k : Nat) (p : Program) (s : State) (m : MethodId) (args : Array Value) (meth : Method) (c : Code) (E : smE) : Prop :=
  p.tables.exec = Jvm.exec ∧ c.code = smCd k ∧ c.maxLocals = smMx k ∧ meth.sig.returnType = smRt k ∧ meth.locks = false ∧ s.vm.findClass (smRn (smOwn k)) = some m.cls ∧ (∀ w ∈ smTs, w.before args s = true) ∧ smKs E s ∧ smInj E
/-- from here on, in this method: it returns with Post -/
def smWpB (k : Nat) (pc : Nat) (L : List (Option smV)) (st : List smV) (mem : smM) (Post : Option smV → smM → Prop) : Prop :=
  ∀ (p : Program) (l : Launch) (e : Env) (s : State) (m : MethodId) (args : Array Value) (below : List Frame) (meth : Method) (c : Code) (E : smE) (H : Heap) (locs : List Loc) (ls : Array Slot),
    smCx k p s m args meth c E → va_P E.1 vwCl (smWs E mem) H → va_S (smA E s.heap.size) s.heap H locs → smLs E.2.2 ls (smMx k) L → (∀ v ∈ st, smOK v) →
    W p l e (smRm k) s m args below meth c H locs 0 0 (MQ below (smQc E s.heap.size Post) args s 0 0 (smA E s.heap.size)) (F0 m pc ls (st.map (smCv E.2.2)))
def smWp (k : Nat) (pc : Nat) (L : List (Option smV)) (st : List smV) (mem : smM) (Post : Option smV → smM → Prop) : Prop := smWpB k pc L st mem Post = True
