/-! the tables hold: each instruction is what the bytes say, each link stands in the claim's words -/
def smLen (b : Nat) : Instr → Nat
  | .bipush _ => 2
  | .sipush _ => 3
  | .ldc _ => 2
  | .ldc_w _ => 3
  | .ldc2_w _ => 3
  | .iload _ => 2
  | .aload _ => 2
  | .istore _ => 2
  | .astore _ => 2
  | .iinc _ _ => 3
  | .if_icmp _ _ => 3
  | .ifCond _ _ => 3
  | .goto _ => 3
  | .getfield _ => 3
  | .putfield _ => 3
  | .invokevirtual _ => 3
  | .invokestatic _ => 3
  | .tableswitch _ _ _ _ => b
  | .lookupswitch _ _ => b
  | _ => 1
def smRoom (d : smD) (a b : Nat) : Bool := if b ≤ 1 then decide (smFr a + 1 ≤ d.2.2.2.2.2.2.1.1) && decide (8 + (smMx a + 11) + smLo a ≤ d.2.2.2.2.2.2.1.2) && decide (a < smMs.length) else decide (1 ≤ d.2.2.2.2.2.2.1.1) && decide (26 ≤ d.2.2.2.2.2.2.1.2)
def smChi (d : smD) (pc a b : Nat) : Instr → Bool
  | .bipush n => decide ((Int8.ofInt n).toInt32 = Int32.ofInt n)
  | .sipush n => decide ((Int16.ofInt n).toInt32 = Int32.ofInt n)
  | .ldc i => (smCn d.1).any (fun q => q.1 == i && q.2.1 == a)
  | .ldc_w i => (smCn d.1).any (fun q => q.1 == i && q.2.1 == a)
  | .ldc2_w i => (smCl d.1).any (fun q => q.1 == i && q.2.1 == a)
  | .istore_n i => decide ((i : Nat) < d.2.2.2.1)
  | .istore i => decide (i < d.2.2.2.1)
  | .astore_n i => decide ((i : Nat) < d.2.2.2.1)
  | .astore i => decide (i < d.2.2.2.1)
  | .iinc i _ => decide (i < d.2.2.2.1)
  | .if_icmp _ off => decide ((pc : Int) + off = (a : Int))
  | .ifCond _ off => decide ((pc : Int) + off = (a : Int))
  | .goto off => decide ((pc : Int) + off = (a : Int))
  | .getfield i => (smFl d.1).any (fun q => q.1 == i && q.2.1 == a && q.2.2.1 == b) && decide (b < smTn a) && decide (a < 12)
  | .putfield i => (smFl d.1).any (fun q => q.1 == i && q.2.1 == a && q.2.2.1 == b) && decide (b < smTn a) && decide (a < 12)
  | .invokevirtual i => (smMl d.1).any (fun q => q.1 == i && q.2.1 == a && q.2.2.1 == b) && b == 0 && !smSt a && smRoom d a b
  | .invokestatic i => (smMl d.1).any (fun q => q.1 == i && q.2.1 == a && q.2.2.1 == b) && (decide (2 ≤ b) || smSt a) && smRoom d a b
  | .tableswitch df lo hi offs => decide ((offs.size : Int) = hi - lo + 1) && decide (0 ≤ (pc : Int) + df) && offs.toList.all (fun o => decide (0 ≤ (pc : Int) + o))
  | .lookupswitch df ps => (ps.toList.zip (ps.toList.drop 1)).all (fun (a, next) => a.1 < next.1) && decide (0 ≤ (pc : Int) + df) && ps.toList.all (fun o => decide (0 ≤ (pc : Int) + o.2))
  | _ => true
def smChz (a b : Nat) (z : Int) : Instr → Bool
  | .getfield _ => decide (z = (b : Int))
  | .putfield _ => decide (z = (b : Int))
  | .ldc _ => decide (z = (a : Int))
  | .ldc_w _ => decide (z = (a : Int))
  | .ldc2_w _ => decide (z = -(a : Int))
  | _ => true
def smChk (d : smD) : smI → Bool
  | (pc, i, nx, a, b, z) => decide (decode d.2.2.1 pc = .ok (i, smLen b i)) && smChi d pc a b i && decide (nx = pc + smLen b i) && smChz a b z i
/-- what must hold of a method -/
def smMok (d : smD) : Prop :=
  plainName d.2.1.cls = true ∧ d.2.1.cls = smRn d.1 ∧ (d.2.1.cls ≠ "java/lang/invoke/MethodHandle" ∧ d.2.1.cls ≠ "java/lang/invoke/VarHandle") ∧ (parseMethodDescriptor d.2.1.desc).map (fun z => z.parameters.length) = some (if d.2.2.2.2.2.1.2 then d.2.2.2.2.2.1.1 else d.2.2.2.2.2.1.1 - 1) ∧
  Cond.code d.2.1 d.2.2.1 d.2.2.2.1 d.2.2.2.2.1 ∈ smTs ∧ Cond.initialized d.2.1.cls ∈ smTs ∧ (d.2.2.2.2.2.1.2 = true → Cond.static d.2.1 ∈ smTs) ∧ (d.2.2.2.2.2.1.2 = false → Cond.instanceMethod d.2.1 ∈ smTs ∧ Cond.selects d.2.1.cls d.2.1 d.2.1 ∈ smTs ∧ 1 ≤ d.2.2.2.2.2.1.1 ∧ d.1 < 12) ∧
  d.2.2.2.2.2.2.2.all (smChk d) = true
theorem smMok_s {d : smD} (i1 i2 i3 : Nat) (h1 : plainName d.2.1.cls = true) (h2 : d.2.1.cls = smRn d.1) (h3 : d.2.1.cls ≠ "java/lang/invoke/MethodHandle" ∧ d.2.1.cls ≠ "java/lang/invoke/VarHandle") (h4 : (parseMethodDescriptor d.2.1.desc).map (fun z => z.parameters.length) = some (if d.2.2.2.2.2.1.2 then d.2.2.2.2.2.1.1 else d.2.2.2.2.2.1.1 - 1))
    (h5 : lw_tbl[i1]? = some (.code d.2.1 d.2.2.1 d.2.2.2.1 d.2.2.2.2.1)) (h5g : goodWord (.code d.2.1 d.2.2.1 d.2.2.2.1 d.2.2.2.2.1) = true) (h6 : lw_tbl[i2]? = some (.initialized d.2.1.cls)) (h7 : lw_tbl[i3]? = some (.static d.2.1)) (h7g : goodWord (.static d.2.1) = true) (hst : d.2.2.2.2.2.1.2 = true) (h8 : d.2.2.2.2.2.2.2.all (smChk d) = true) : smMok d :=
  ⟨h1, h2, h3, h4, smTs_of h5 h5g, smTs_of h6 rfl, fun _ => smTs_of h7 h7g, fun h => (by rw [hst] at h; cases h), h8⟩
theorem smMok_v {d : smD} (i1 i2 i3 i4 : Nat) (h1 : plainName d.2.1.cls = true) (h2 : d.2.1.cls = smRn d.1) (h3 : d.2.1.cls ≠ "java/lang/invoke/MethodHandle" ∧ d.2.1.cls ≠ "java/lang/invoke/VarHandle") (h4 : (parseMethodDescriptor d.2.1.desc).map (fun z => z.parameters.length) = some (if d.2.2.2.2.2.1.2 then d.2.2.2.2.2.1.1 else d.2.2.2.2.2.1.1 - 1))
    (h5 : lw_tbl[i1]? = some (.code d.2.1 d.2.2.1 d.2.2.2.1 d.2.2.2.2.1)) (h5g : goodWord (.code d.2.1 d.2.2.1 d.2.2.2.1 d.2.2.2.2.1) = true) (h6 : lw_tbl[i2]? = some (.initialized d.2.1.cls)) (h7 : lw_tbl[i3]? = some (.instanceMethod d.2.1)) (h7g : goodWord (.instanceMethod d.2.1) = true) (h9 : lw_tbl[i4]? = some (.selects d.2.1.cls d.2.1 d.2.1)) (h9g : goodWord (.selects d.2.1.cls d.2.1 d.2.1) = true) (hst : d.2.2.2.2.2.1.2 = false ∧ 1 ≤ d.2.2.2.2.2.1.1 ∧ d.1 < 12) (h8 : d.2.2.2.2.2.2.2.all (smChk d) = true) : smMok d :=
  ⟨h1, h2, h3, h4, smTs_of h5 h5g, smTs_of h6 rfl, fun h => (by rw [hst.1] at h; cases h), fun _ => ⟨smTs_of h7 h7g, smTs_of h9 h9g, hst.2⟩, h8⟩
def smWf (c : Nat) (q : Nat × Nat × Nat × Nat) : Cond := .fieldLink (smRn c) q.1 (smTx q.2.1 q.2.2.1).1 (smTx q.2.1 q.2.2.1).2.1 (smTx q.2.1 q.2.2.1).2.2.1
def smWm (c : Nat) (q : Nat × Nat × Nat × Nat) (y : MethodName) : Cond := .methodLink (smRn c) q.1 y
def smWc (c : Nat) (q : Nat × Nat × Nat) : Cond := .constant (smRn c) q.1 (Int32.ofInt (q.2.1 : Int))
def smWl (c : Nat) (q : Nat × Nat × Nat) : Cond := .constantLong (smRn c) q.1 (Int64.ofInt (-(q.2.1 : Int)))
theorem smfl_0 : ∀ q ∈ smFl 0, lw_tbl[q.2.2.2]? = some (smWf 0 q) ∧ goodWord (smWf 0 q) = true := by decide +kernel
theorem smml_0 : ∀ q ∈ smMl 0, q.2.2.1 = 0 → lw_tbl[q.2.2.2]? = some (smWm 0 q (smNm q.2.1)) ∧ goodWord (smWm 0 q (smNm q.2.1)) = true := by decide +kernel
theorem smmn_0 : ∀ q ∈ smMl 0, q.2.2.1 = 1 → smNe[q.2.2.2]? = some (smRn 0, q.1, smNm q.2.1, "StoneRound") := by decide +kernel
theorem smmx2_0 : ∀ q ∈ smMl 0, q.2.2.1 = 2 → lw_tbl[q.2.2.2]? = some (smWm 0 q arraycopyName) ∧ goodWord (smWm 0 q arraycopyName) = true := by decide +kernel
theorem smmx3_0 : ∀ q ∈ smMl 0, q.2.2.1 = 3 → lw_tbl[q.2.2.2]? = some (smWm 0 q Lib.Math.max.name) ∧ goodWord (smWm 0 q Lib.Math.max.name) = true := by decide +kernel
theorem smmx4_0 : ∀ q ∈ smMl 0, q.2.2.1 = 4 → lw_tbl[q.2.2.2]? = some (smWm 0 q Lib.Math.min.name) ∧ goodWord (smWm 0 q Lib.Math.min.name) = true := by decide +kernel
theorem smmx5_0 : ∀ q ∈ smMl 0, q.2.2.1 = 5 → lw_tbl[q.2.2.2]? = some (smWm 0 q Lib.Math.abs.name) ∧ goodWord (smWm 0 q Lib.Math.abs.name) = true := by decide +kernel
theorem smfl_1 : ∀ q ∈ smFl 1, lw_tbl[q.2.2.2]? = some (smWf 1 q) ∧ goodWord (smWf 1 q) = true := by decide +kernel
theorem smml_1 : ∀ q ∈ smMl 1, q.2.2.1 = 0 → lw_tbl[q.2.2.2]? = some (smWm 1 q (smNm q.2.1)) ∧ goodWord (smWm 1 q (smNm q.2.1)) = true := by decide +kernel
theorem smmn_1 : ∀ q ∈ smMl 1, q.2.2.1 = 1 → smNe[q.2.2.2]? = some (smRn 1, q.1, smNm q.2.1, "StoneRound") := by decide +kernel
theorem smmx2_1 : ∀ q ∈ smMl 1, q.2.2.1 = 2 → lw_tbl[q.2.2.2]? = some (smWm 1 q arraycopyName) ∧ goodWord (smWm 1 q arraycopyName) = true := by decide +kernel
theorem smmx3_1 : ∀ q ∈ smMl 1, q.2.2.1 = 3 → lw_tbl[q.2.2.2]? = some (smWm 1 q Lib.Math.max.name) ∧ goodWord (smWm 1 q Lib.Math.max.name) = true := by decide +kernel
theorem smmx4_1 : ∀ q ∈ smMl 1, q.2.2.1 = 4 → lw_tbl[q.2.2.2]? = some (smWm 1 q Lib.Math.min.name) ∧ goodWord (smWm 1 q Lib.Math.min.name) = true := by decide +kernel
theorem smmx5_1 : ∀ q ∈ smMl 1, q.2.2.1 = 5 → lw_tbl[q.2.2.2]? = some (smWm 1 q Lib.Math.abs.name) ∧ goodWord (smWm 1 q Lib.Math.abs.name) = true := by decide +kernel
theorem smfl_2 : ∀ q ∈ smFl 2, lw_tbl[q.2.2.2]? = some (smWf 2 q) ∧ goodWord (smWf 2 q) = true := by decide +kernel
theorem smml_2 : ∀ q ∈ smMl 2, q.2.2.1 = 0 → lw_tbl[q.2.2.2]? = some (smWm 2 q (smNm q.2.1)) ∧ goodWord (smWm 2 q (smNm q.2.1)) = true := by decide +kernel
theorem smmn_2 : ∀ q ∈ smMl 2, q.2.2.1 = 1 → smNe[q.2.2.2]? = some (smRn 2, q.1, smNm q.2.1, "StoneRound") := by decide +kernel
theorem smmx2_2 : ∀ q ∈ smMl 2, q.2.2.1 = 2 → lw_tbl[q.2.2.2]? = some (smWm 2 q arraycopyName) ∧ goodWord (smWm 2 q arraycopyName) = true := by decide +kernel
theorem smmx3_2 : ∀ q ∈ smMl 2, q.2.2.1 = 3 → lw_tbl[q.2.2.2]? = some (smWm 2 q Lib.Math.max.name) ∧ goodWord (smWm 2 q Lib.Math.max.name) = true := by decide +kernel
theorem smmx4_2 : ∀ q ∈ smMl 2, q.2.2.1 = 4 → lw_tbl[q.2.2.2]? = some (smWm 2 q Lib.Math.min.name) ∧ goodWord (smWm 2 q Lib.Math.min.name) = true := by decide +kernel
theorem smmx5_2 : ∀ q ∈ smMl 2, q.2.2.1 = 5 → lw_tbl[q.2.2.2]? = some (smWm 2 q Lib.Math.abs.name) ∧ goodWord (smWm 2 q Lib.Math.abs.name) = true := by decide +kernel
theorem smfl_3 : ∀ q ∈ smFl 3, lw_tbl[q.2.2.2]? = some (smWf 3 q) ∧ goodWord (smWf 3 q) = true := by decide +kernel
theorem smml_3 : ∀ q ∈ smMl 3, q.2.2.1 = 0 → lw_tbl[q.2.2.2]? = some (smWm 3 q (smNm q.2.1)) ∧ goodWord (smWm 3 q (smNm q.2.1)) = true := by decide +kernel
theorem smmn_3 : ∀ q ∈ smMl 3, q.2.2.1 = 1 → smNe[q.2.2.2]? = some (smRn 3, q.1, smNm q.2.1, "StoneRound") := by decide +kernel
theorem smmx2_3 : ∀ q ∈ smMl 3, q.2.2.1 = 2 → lw_tbl[q.2.2.2]? = some (smWm 3 q arraycopyName) ∧ goodWord (smWm 3 q arraycopyName) = true := by decide +kernel
theorem smmx3_3 : ∀ q ∈ smMl 3, q.2.2.1 = 3 → lw_tbl[q.2.2.2]? = some (smWm 3 q Lib.Math.max.name) ∧ goodWord (smWm 3 q Lib.Math.max.name) = true := by decide +kernel
theorem smmx4_3 : ∀ q ∈ smMl 3, q.2.2.1 = 4 → lw_tbl[q.2.2.2]? = some (smWm 3 q Lib.Math.min.name) ∧ goodWord (smWm 3 q Lib.Math.min.name) = true := by decide +kernel
theorem smmx5_3 : ∀ q ∈ smMl 3, q.2.2.1 = 5 → lw_tbl[q.2.2.2]? = some (smWm 3 q Lib.Math.abs.name) ∧ goodWord (smWm 3 q Lib.Math.abs.name) = true := by decide +kernel
theorem smfl_4 : ∀ q ∈ smFl 4, lw_tbl[q.2.2.2]? = some (smWf 4 q) ∧ goodWord (smWf 4 q) = true := by decide +kernel
theorem smml_4 : ∀ q ∈ smMl 4, q.2.2.1 = 0 → lw_tbl[q.2.2.2]? = some (smWm 4 q (smNm q.2.1)) ∧ goodWord (smWm 4 q (smNm q.2.1)) = true := by decide +kernel
theorem smmn_4 : ∀ q ∈ smMl 4, q.2.2.1 = 1 → smNe[q.2.2.2]? = some (smRn 4, q.1, smNm q.2.1, "StoneRound") := by decide +kernel
theorem smmx2_4 : ∀ q ∈ smMl 4, q.2.2.1 = 2 → lw_tbl[q.2.2.2]? = some (smWm 4 q arraycopyName) ∧ goodWord (smWm 4 q arraycopyName) = true := by decide +kernel
theorem smmx3_4 : ∀ q ∈ smMl 4, q.2.2.1 = 3 → lw_tbl[q.2.2.2]? = some (smWm 4 q Lib.Math.max.name) ∧ goodWord (smWm 4 q Lib.Math.max.name) = true := by decide +kernel
theorem smmx4_4 : ∀ q ∈ smMl 4, q.2.2.1 = 4 → lw_tbl[q.2.2.2]? = some (smWm 4 q Lib.Math.min.name) ∧ goodWord (smWm 4 q Lib.Math.min.name) = true := by decide +kernel
theorem smmx5_4 : ∀ q ∈ smMl 4, q.2.2.1 = 5 → lw_tbl[q.2.2.2]? = some (smWm 4 q Lib.Math.abs.name) ∧ goodWord (smWm 4 q Lib.Math.abs.name) = true := by decide +kernel
theorem smfl_5 : ∀ q ∈ smFl 5, lw_tbl[q.2.2.2]? = some (smWf 5 q) ∧ goodWord (smWf 5 q) = true := by decide +kernel
theorem smml_5 : ∀ q ∈ smMl 5, q.2.2.1 = 0 → lw_tbl[q.2.2.2]? = some (smWm 5 q (smNm q.2.1)) ∧ goodWord (smWm 5 q (smNm q.2.1)) = true := by decide +kernel
theorem smmn_5 : ∀ q ∈ smMl 5, q.2.2.1 = 1 → smNe[q.2.2.2]? = some (smRn 5, q.1, smNm q.2.1, "StoneRound") := by decide +kernel
theorem smmx2_5 : ∀ q ∈ smMl 5, q.2.2.1 = 2 → lw_tbl[q.2.2.2]? = some (smWm 5 q arraycopyName) ∧ goodWord (smWm 5 q arraycopyName) = true := by decide +kernel
theorem smmx3_5 : ∀ q ∈ smMl 5, q.2.2.1 = 3 → lw_tbl[q.2.2.2]? = some (smWm 5 q Lib.Math.max.name) ∧ goodWord (smWm 5 q Lib.Math.max.name) = true := by decide +kernel
theorem smmx4_5 : ∀ q ∈ smMl 5, q.2.2.1 = 4 → lw_tbl[q.2.2.2]? = some (smWm 5 q Lib.Math.min.name) ∧ goodWord (smWm 5 q Lib.Math.min.name) = true := by decide +kernel
theorem smmx5_5 : ∀ q ∈ smMl 5, q.2.2.1 = 5 → lw_tbl[q.2.2.2]? = some (smWm 5 q Lib.Math.abs.name) ∧ goodWord (smWm 5 q Lib.Math.abs.name) = true := by decide +kernel
theorem smfl_6 : ∀ q ∈ smFl 6, lw_tbl[q.2.2.2]? = some (smWf 6 q) ∧ goodWord (smWf 6 q) = true := by decide +kernel
theorem smml_6 : ∀ q ∈ smMl 6, q.2.2.1 = 0 → lw_tbl[q.2.2.2]? = some (smWm 6 q (smNm q.2.1)) ∧ goodWord (smWm 6 q (smNm q.2.1)) = true := by decide +kernel
theorem smmn_6 : ∀ q ∈ smMl 6, q.2.2.1 = 1 → smNe[q.2.2.2]? = some (smRn 6, q.1, smNm q.2.1, "StoneRound") := by decide +kernel
theorem smmx2_6 : ∀ q ∈ smMl 6, q.2.2.1 = 2 → lw_tbl[q.2.2.2]? = some (smWm 6 q arraycopyName) ∧ goodWord (smWm 6 q arraycopyName) = true := by decide +kernel
theorem smmx3_6 : ∀ q ∈ smMl 6, q.2.2.1 = 3 → lw_tbl[q.2.2.2]? = some (smWm 6 q Lib.Math.max.name) ∧ goodWord (smWm 6 q Lib.Math.max.name) = true := by decide +kernel
theorem smmx4_6 : ∀ q ∈ smMl 6, q.2.2.1 = 4 → lw_tbl[q.2.2.2]? = some (smWm 6 q Lib.Math.min.name) ∧ goodWord (smWm 6 q Lib.Math.min.name) = true := by decide +kernel
theorem smmx5_6 : ∀ q ∈ smMl 6, q.2.2.1 = 5 → lw_tbl[q.2.2.2]? = some (smWm 6 q Lib.Math.abs.name) ∧ goodWord (smWm 6 q Lib.Math.abs.name) = true := by decide +kernel
theorem smfl_7 : ∀ q ∈ smFl 7, lw_tbl[q.2.2.2]? = some (smWf 7 q) ∧ goodWord (smWf 7 q) = true := by decide +kernel
theorem smml_7 : ∀ q ∈ smMl 7, q.2.2.1 = 0 → lw_tbl[q.2.2.2]? = some (smWm 7 q (smNm q.2.1)) ∧ goodWord (smWm 7 q (smNm q.2.1)) = true := by decide +kernel
theorem smmn_7 : ∀ q ∈ smMl 7, q.2.2.1 = 1 → smNe[q.2.2.2]? = some (smRn 7, q.1, smNm q.2.1, "StoneRound") := by decide +kernel
theorem smmx2_7 : ∀ q ∈ smMl 7, q.2.2.1 = 2 → lw_tbl[q.2.2.2]? = some (smWm 7 q arraycopyName) ∧ goodWord (smWm 7 q arraycopyName) = true := by decide +kernel
theorem smmx3_7 : ∀ q ∈ smMl 7, q.2.2.1 = 3 → lw_tbl[q.2.2.2]? = some (smWm 7 q Lib.Math.max.name) ∧ goodWord (smWm 7 q Lib.Math.max.name) = true := by decide +kernel
theorem smmx4_7 : ∀ q ∈ smMl 7, q.2.2.1 = 4 → lw_tbl[q.2.2.2]? = some (smWm 7 q Lib.Math.min.name) ∧ goodWord (smWm 7 q Lib.Math.min.name) = true := by decide +kernel
theorem smmx5_7 : ∀ q ∈ smMl 7, q.2.2.1 = 5 → lw_tbl[q.2.2.2]? = some (smWm 7 q Lib.Math.abs.name) ∧ goodWord (smWm 7 q Lib.Math.abs.name) = true := by decide +kernel
theorem smfl_8 : ∀ q ∈ smFl 8, lw_tbl[q.2.2.2]? = some (smWf 8 q) ∧ goodWord (smWf 8 q) = true := by decide +kernel
theorem smml_8 : ∀ q ∈ smMl 8, q.2.2.1 = 0 → lw_tbl[q.2.2.2]? = some (smWm 8 q (smNm q.2.1)) ∧ goodWord (smWm 8 q (smNm q.2.1)) = true := by decide +kernel
theorem smmn_8 : ∀ q ∈ smMl 8, q.2.2.1 = 1 → smNe[q.2.2.2]? = some (smRn 8, q.1, smNm q.2.1, "StoneRound") := by decide +kernel
theorem smmx2_8 : ∀ q ∈ smMl 8, q.2.2.1 = 2 → lw_tbl[q.2.2.2]? = some (smWm 8 q arraycopyName) ∧ goodWord (smWm 8 q arraycopyName) = true := by decide +kernel
theorem smmx3_8 : ∀ q ∈ smMl 8, q.2.2.1 = 3 → lw_tbl[q.2.2.2]? = some (smWm 8 q Lib.Math.max.name) ∧ goodWord (smWm 8 q Lib.Math.max.name) = true := by decide +kernel
theorem smmx4_8 : ∀ q ∈ smMl 8, q.2.2.1 = 4 → lw_tbl[q.2.2.2]? = some (smWm 8 q Lib.Math.min.name) ∧ goodWord (smWm 8 q Lib.Math.min.name) = true := by decide +kernel
theorem smmx5_8 : ∀ q ∈ smMl 8, q.2.2.1 = 5 → lw_tbl[q.2.2.2]? = some (smWm 8 q Lib.Math.abs.name) ∧ goodWord (smWm 8 q Lib.Math.abs.name) = true := by decide +kernel
theorem smfl_9 : ∀ q ∈ smFl 9, lw_tbl[q.2.2.2]? = some (smWf 9 q) ∧ goodWord (smWf 9 q) = true := by decide +kernel
theorem smml_9 : ∀ q ∈ smMl 9, q.2.2.1 = 0 → lw_tbl[q.2.2.2]? = some (smWm 9 q (smNm q.2.1)) ∧ goodWord (smWm 9 q (smNm q.2.1)) = true := by decide +kernel
theorem smmn_9 : ∀ q ∈ smMl 9, q.2.2.1 = 1 → smNe[q.2.2.2]? = some (smRn 9, q.1, smNm q.2.1, "StoneRound") := by decide +kernel
theorem smmx2_9 : ∀ q ∈ smMl 9, q.2.2.1 = 2 → lw_tbl[q.2.2.2]? = some (smWm 9 q arraycopyName) ∧ goodWord (smWm 9 q arraycopyName) = true := by decide +kernel
theorem smmx3_9 : ∀ q ∈ smMl 9, q.2.2.1 = 3 → lw_tbl[q.2.2.2]? = some (smWm 9 q Lib.Math.max.name) ∧ goodWord (smWm 9 q Lib.Math.max.name) = true := by decide +kernel
theorem smmx4_9 : ∀ q ∈ smMl 9, q.2.2.1 = 4 → lw_tbl[q.2.2.2]? = some (smWm 9 q Lib.Math.min.name) ∧ goodWord (smWm 9 q Lib.Math.min.name) = true := by decide +kernel
theorem smmx5_9 : ∀ q ∈ smMl 9, q.2.2.1 = 5 → lw_tbl[q.2.2.2]? = some (smWm 9 q Lib.Math.abs.name) ∧ goodWord (smWm 9 q Lib.Math.abs.name) = true := by decide +kernel
theorem smfl_10 : ∀ q ∈ smFl 10, lw_tbl[q.2.2.2]? = some (smWf 10 q) ∧ goodWord (smWf 10 q) = true := by decide +kernel
theorem smml_10 : ∀ q ∈ smMl 10, q.2.2.1 = 0 → lw_tbl[q.2.2.2]? = some (smWm 10 q (smNm q.2.1)) ∧ goodWord (smWm 10 q (smNm q.2.1)) = true := by decide +kernel
theorem smmn_10 : ∀ q ∈ smMl 10, q.2.2.1 = 1 → smNe[q.2.2.2]? = some (smRn 10, q.1, smNm q.2.1, "StoneRound") := by decide +kernel
theorem smmx2_10 : ∀ q ∈ smMl 10, q.2.2.1 = 2 → lw_tbl[q.2.2.2]? = some (smWm 10 q arraycopyName) ∧ goodWord (smWm 10 q arraycopyName) = true := by decide +kernel
theorem smmx3_10 : ∀ q ∈ smMl 10, q.2.2.1 = 3 → lw_tbl[q.2.2.2]? = some (smWm 10 q Lib.Math.max.name) ∧ goodWord (smWm 10 q Lib.Math.max.name) = true := by decide +kernel
theorem smmx4_10 : ∀ q ∈ smMl 10, q.2.2.1 = 4 → lw_tbl[q.2.2.2]? = some (smWm 10 q Lib.Math.min.name) ∧ goodWord (smWm 10 q Lib.Math.min.name) = true := by decide +kernel
theorem smmx5_10 : ∀ q ∈ smMl 10, q.2.2.1 = 5 → lw_tbl[q.2.2.2]? = some (smWm 10 q Lib.Math.abs.name) ∧ goodWord (smWm 10 q Lib.Math.abs.name) = true := by decide +kernel
theorem smfl_11 : ∀ q ∈ smFl 11, lw_tbl[q.2.2.2]? = some (smWf 11 q) ∧ goodWord (smWf 11 q) = true := by decide +kernel
theorem smml_11 : ∀ q ∈ smMl 11, q.2.2.1 = 0 → lw_tbl[q.2.2.2]? = some (smWm 11 q (smNm q.2.1)) ∧ goodWord (smWm 11 q (smNm q.2.1)) = true := by decide +kernel
theorem smmn_11 : ∀ q ∈ smMl 11, q.2.2.1 = 1 → smNe[q.2.2.2]? = some (smRn 11, q.1, smNm q.2.1, "StoneRound") := by decide +kernel
theorem smmx2_11 : ∀ q ∈ smMl 11, q.2.2.1 = 2 → lw_tbl[q.2.2.2]? = some (smWm 11 q arraycopyName) ∧ goodWord (smWm 11 q arraycopyName) = true := by decide +kernel
theorem smmx3_11 : ∀ q ∈ smMl 11, q.2.2.1 = 3 → lw_tbl[q.2.2.2]? = some (smWm 11 q Lib.Math.max.name) ∧ goodWord (smWm 11 q Lib.Math.max.name) = true := by decide +kernel
theorem smmx4_11 : ∀ q ∈ smMl 11, q.2.2.1 = 4 → lw_tbl[q.2.2.2]? = some (smWm 11 q Lib.Math.min.name) ∧ goodWord (smWm 11 q Lib.Math.min.name) = true := by decide +kernel
theorem smmx5_11 : ∀ q ∈ smMl 11, q.2.2.1 = 5 → lw_tbl[q.2.2.2]? = some (smWm 11 q Lib.Math.abs.name) ∧ goodWord (smWm 11 q Lib.Math.abs.name) = true := by decide +kernel
theorem smml_12 : ∀ q ∈ smMl 12, q.2.2.1 = 0 → lw_tbl[q.2.2.2]? = some (smWm 12 q (smNm q.2.1)) ∧ goodWord (smWm 12 q (smNm q.2.1)) = true := by decide +kernel
theorem smcn_0 : ∀ q ∈ smCn 0, lw_tbl[q.2.2]? = some (smWc 0 q) ∧ goodWord (smWc 0 q) = true := by decide +kernel
theorem smcn_4 : ∀ q ∈ smCn 4, lw_tbl[q.2.2]? = some (smWc 4 q) ∧ goodWord (smWc 4 q) = true := by decide +kernel
theorem smcn_10 : ∀ q ∈ smCn 10, lw_tbl[q.2.2]? = some (smWc 10 q) ∧ goodWord (smWc 10 q) = true := by decide +kernel
theorem smcn_11 : ∀ q ∈ smCn 11, lw_tbl[q.2.2]? = some (smWc 11 q) ∧ goodWord (smWc 11 q) = true := by decide +kernel
theorem smcn_13 : ∀ q ∈ smCn 13, lw_tbl[q.2.2]? = some (smWc 13 q) ∧ goodWord (smWc 13 q) = true := by decide +kernel
theorem smclo_10 : ∀ q ∈ smCl 10, lw_tbl[q.2.2]? = some (smWl 10 q) ∧ goodWord (smWl 10 q) = true := by decide +kernel
theorem smclo_11 : ∀ q ∈ smCl 11, lw_tbl[q.2.2]? = some (smWl 11 q) ∧ goodWord (smWl 11 q) = true := by decide +kernel
theorem smlaw_n : ∀ q ∈ smMl 12, q.2.2.1 = 0 := by decide +kernel
theorem smFl_in : ∀ (c : Nat), ∀ q ∈ smFl c, smWf c q ∈ smTs
  | 0 => fun q h => smTs_of (smfl_0 q h).1 (smfl_0 q h).2
  | 1 => fun q h => smTs_of (smfl_1 q h).1 (smfl_1 q h).2
  | 2 => fun q h => smTs_of (smfl_2 q h).1 (smfl_2 q h).2
  | 3 => fun q h => smTs_of (smfl_3 q h).1 (smfl_3 q h).2
  | 4 => fun q h => smTs_of (smfl_4 q h).1 (smfl_4 q h).2
  | 5 => fun q h => smTs_of (smfl_5 q h).1 (smfl_5 q h).2
  | 6 => fun q h => smTs_of (smfl_6 q h).1 (smfl_6 q h).2
  | 7 => fun q h => smTs_of (smfl_7 q h).1 (smfl_7 q h).2
  | 8 => fun q h => smTs_of (smfl_8 q h).1 (smfl_8 q h).2
  | 9 => fun q h => smTs_of (smfl_9 q h).1 (smfl_9 q h).2
  | 10 => fun q h => smTs_of (smfl_10 q h).1 (smfl_10 q h).2
  | 11 => fun q h => smTs_of (smfl_11 q h).1 (smfl_11 q h).2
  | 12 => fun q h => absurd h List.not_mem_nil
  | 13 => fun q h => absurd h List.not_mem_nil
  | n + 14 => fun q h => absurd h List.not_mem_nil
theorem smMl_in : ∀ (c : Nat), ∀ q ∈ smMl c, q.2.2.1 = 0 → smWm c q (smNm q.2.1) ∈ smTs
  | 0 => fun q h e => smTs_of (smml_0 q h e).1 (smml_0 q h e).2
  | 1 => fun q h e => smTs_of (smml_1 q h e).1 (smml_1 q h e).2
  | 2 => fun q h e => smTs_of (smml_2 q h e).1 (smml_2 q h e).2
  | 3 => fun q h e => smTs_of (smml_3 q h e).1 (smml_3 q h e).2
  | 4 => fun q h e => smTs_of (smml_4 q h e).1 (smml_4 q h e).2
  | 5 => fun q h e => smTs_of (smml_5 q h e).1 (smml_5 q h e).2
  | 6 => fun q h e => smTs_of (smml_6 q h e).1 (smml_6 q h e).2
  | 7 => fun q h e => smTs_of (smml_7 q h e).1 (smml_7 q h e).2
  | 8 => fun q h e => smTs_of (smml_8 q h e).1 (smml_8 q h e).2
  | 9 => fun q h e => smTs_of (smml_9 q h e).1 (smml_9 q h e).2
  | 10 => fun q h e => smTs_of (smml_10 q h e).1 (smml_10 q h e).2
  | 11 => fun q h e => smTs_of (smml_11 q h e).1 (smml_11 q h e).2
  | 12 => fun q h e => smTs_of (smml_12 q h e).1 (smml_12 q h e).2
  | 13 => fun q h => absurd h List.not_mem_nil
  | n + 14 => fun q h => absurd h List.not_mem_nil
theorem smMn_in : ∀ (c : Nat), ∀ q ∈ smMl c, q.2.2.1 = 1 → smNe[q.2.2.2]? = some (smRn c, q.1, smNm q.2.1, "StoneRound")
  | 0 => smmn_0
  | 1 => smmn_1
  | 2 => smmn_2
  | 3 => smmn_3
  | 4 => smmn_4
  | 5 => smmn_5
  | 6 => smmn_6
  | 7 => smmn_7
  | 8 => smmn_8
  | 9 => smmn_9
  | 10 => smmn_10
  | 11 => smmn_11
  | 12 => fun q h e => absurd ((smlaw_n q h).symm.trans e) (by decide)
  | 13 => fun q h => absurd h List.not_mem_nil
  | n + 14 => fun q h => absurd h List.not_mem_nil
theorem smMx2_in : ∀ (c : Nat), ∀ q ∈ smMl c, q.2.2.1 = 2 → smWm c q arraycopyName ∈ smTs
  | 0 => fun q h e => smTs_of (smmx2_0 q h e).1 (smmx2_0 q h e).2
  | 1 => fun q h e => smTs_of (smmx2_1 q h e).1 (smmx2_1 q h e).2
  | 2 => fun q h e => smTs_of (smmx2_2 q h e).1 (smmx2_2 q h e).2
  | 3 => fun q h e => smTs_of (smmx2_3 q h e).1 (smmx2_3 q h e).2
  | 4 => fun q h e => smTs_of (smmx2_4 q h e).1 (smmx2_4 q h e).2
  | 5 => fun q h e => smTs_of (smmx2_5 q h e).1 (smmx2_5 q h e).2
  | 6 => fun q h e => smTs_of (smmx2_6 q h e).1 (smmx2_6 q h e).2
  | 7 => fun q h e => smTs_of (smmx2_7 q h e).1 (smmx2_7 q h e).2
  | 8 => fun q h e => smTs_of (smmx2_8 q h e).1 (smmx2_8 q h e).2
  | 9 => fun q h e => smTs_of (smmx2_9 q h e).1 (smmx2_9 q h e).2
  | 10 => fun q h e => smTs_of (smmx2_10 q h e).1 (smmx2_10 q h e).2
  | 11 => fun q h e => smTs_of (smmx2_11 q h e).1 (smmx2_11 q h e).2
  | 12 => fun q h e => absurd ((smlaw_n q h).symm.trans e) (by decide)
  | 13 => fun q h => absurd h List.not_mem_nil
  | n + 14 => fun q h => absurd h List.not_mem_nil
theorem smMx3_in : ∀ (c : Nat), ∀ q ∈ smMl c, q.2.2.1 = 3 → smWm c q Lib.Math.max.name ∈ smTs
  | 0 => fun q h e => smTs_of (smmx3_0 q h e).1 (smmx3_0 q h e).2
  | 1 => fun q h e => smTs_of (smmx3_1 q h e).1 (smmx3_1 q h e).2
  | 2 => fun q h e => smTs_of (smmx3_2 q h e).1 (smmx3_2 q h e).2
  | 3 => fun q h e => smTs_of (smmx3_3 q h e).1 (smmx3_3 q h e).2
  | 4 => fun q h e => smTs_of (smmx3_4 q h e).1 (smmx3_4 q h e).2
  | 5 => fun q h e => smTs_of (smmx3_5 q h e).1 (smmx3_5 q h e).2
  | 6 => fun q h e => smTs_of (smmx3_6 q h e).1 (smmx3_6 q h e).2
  | 7 => fun q h e => smTs_of (smmx3_7 q h e).1 (smmx3_7 q h e).2
  | 8 => fun q h e => smTs_of (smmx3_8 q h e).1 (smmx3_8 q h e).2
  | 9 => fun q h e => smTs_of (smmx3_9 q h e).1 (smmx3_9 q h e).2
  | 10 => fun q h e => smTs_of (smmx3_10 q h e).1 (smmx3_10 q h e).2
  | 11 => fun q h e => smTs_of (smmx3_11 q h e).1 (smmx3_11 q h e).2
  | 12 => fun q h e => absurd ((smlaw_n q h).symm.trans e) (by decide)
  | 13 => fun q h => absurd h List.not_mem_nil
  | n + 14 => fun q h => absurd h List.not_mem_nil
theorem smMx4_in : ∀ (c : Nat), ∀ q ∈ smMl c, q.2.2.1 = 4 → smWm c q Lib.Math.min.name ∈ smTs
  | 0 => fun q h e => smTs_of (smmx4_0 q h e).1 (smmx4_0 q h e).2
  | 1 => fun q h e => smTs_of (smmx4_1 q h e).1 (smmx4_1 q h e).2
  | 2 => fun q h e => smTs_of (smmx4_2 q h e).1 (smmx4_2 q h e).2
  | 3 => fun q h e => smTs_of (smmx4_3 q h e).1 (smmx4_3 q h e).2
  | 4 => fun q h e => smTs_of (smmx4_4 q h e).1 (smmx4_4 q h e).2
  | 5 => fun q h e => smTs_of (smmx4_5 q h e).1 (smmx4_5 q h e).2
  | 6 => fun q h e => smTs_of (smmx4_6 q h e).1 (smmx4_6 q h e).2
  | 7 => fun q h e => smTs_of (smmx4_7 q h e).1 (smmx4_7 q h e).2
  | 8 => fun q h e => smTs_of (smmx4_8 q h e).1 (smmx4_8 q h e).2
  | 9 => fun q h e => smTs_of (smmx4_9 q h e).1 (smmx4_9 q h e).2
  | 10 => fun q h e => smTs_of (smmx4_10 q h e).1 (smmx4_10 q h e).2
  | 11 => fun q h e => smTs_of (smmx4_11 q h e).1 (smmx4_11 q h e).2
  | 12 => fun q h e => absurd ((smlaw_n q h).symm.trans e) (by decide)
  | 13 => fun q h => absurd h List.not_mem_nil
  | n + 14 => fun q h => absurd h List.not_mem_nil
theorem smMx5_in : ∀ (c : Nat), ∀ q ∈ smMl c, q.2.2.1 = 5 → smWm c q Lib.Math.abs.name ∈ smTs
  | 0 => fun q h e => smTs_of (smmx5_0 q h e).1 (smmx5_0 q h e).2
  | 1 => fun q h e => smTs_of (smmx5_1 q h e).1 (smmx5_1 q h e).2
  | 2 => fun q h e => smTs_of (smmx5_2 q h e).1 (smmx5_2 q h e).2
  | 3 => fun q h e => smTs_of (smmx5_3 q h e).1 (smmx5_3 q h e).2
  | 4 => fun q h e => smTs_of (smmx5_4 q h e).1 (smmx5_4 q h e).2
  | 5 => fun q h e => smTs_of (smmx5_5 q h e).1 (smmx5_5 q h e).2
  | 6 => fun q h e => smTs_of (smmx5_6 q h e).1 (smmx5_6 q h e).2
  | 7 => fun q h e => smTs_of (smmx5_7 q h e).1 (smmx5_7 q h e).2
  | 8 => fun q h e => smTs_of (smmx5_8 q h e).1 (smmx5_8 q h e).2
  | 9 => fun q h e => smTs_of (smmx5_9 q h e).1 (smmx5_9 q h e).2
  | 10 => fun q h e => smTs_of (smmx5_10 q h e).1 (smmx5_10 q h e).2
  | 11 => fun q h e => smTs_of (smmx5_11 q h e).1 (smmx5_11 q h e).2
  | 12 => fun q h e => absurd ((smlaw_n q h).symm.trans e) (by decide)
  | 13 => fun q h => absurd h List.not_mem_nil
  | n + 14 => fun q h => absurd h List.not_mem_nil
theorem smCn_in : ∀ (c : Nat), ∀ q ∈ smCn c, smWc c q ∈ smTs
  | 0 => fun q h => smTs_of (smcn_0 q h).1 (smcn_0 q h).2
  | 1 => fun q h => absurd h List.not_mem_nil
  | 2 => fun q h => absurd h List.not_mem_nil
  | 3 => fun q h => absurd h List.not_mem_nil
  | 4 => fun q h => smTs_of (smcn_4 q h).1 (smcn_4 q h).2
  | 5 => fun q h => absurd h List.not_mem_nil
  | 6 => fun q h => absurd h List.not_mem_nil
  | 7 => fun q h => absurd h List.not_mem_nil
  | 8 => fun q h => absurd h List.not_mem_nil
  | 9 => fun q h => absurd h List.not_mem_nil
  | 10 => fun q h => smTs_of (smcn_10 q h).1 (smcn_10 q h).2
  | 11 => fun q h => smTs_of (smcn_11 q h).1 (smcn_11 q h).2
  | 12 => fun q h => absurd h List.not_mem_nil
  | 13 => fun q h => smTs_of (smcn_13 q h).1 (smcn_13 q h).2
  | n + 14 => fun q h => absurd h List.not_mem_nil
theorem smCl_in : ∀ (c : Nat), ∀ q ∈ smCl c, smWl c q ∈ smTs
  | 0 => fun q h => absurd h List.not_mem_nil
  | 1 => fun q h => absurd h List.not_mem_nil
  | 2 => fun q h => absurd h List.not_mem_nil
  | 3 => fun q h => absurd h List.not_mem_nil
  | 4 => fun q h => absurd h List.not_mem_nil
  | 5 => fun q h => absurd h List.not_mem_nil
  | 6 => fun q h => absurd h List.not_mem_nil
  | 7 => fun q h => absurd h List.not_mem_nil
  | 8 => fun q h => absurd h List.not_mem_nil
  | 9 => fun q h => absurd h List.not_mem_nil
  | 10 => fun q h => smTs_of (smclo_10 q h).1 (smclo_10 q h).2
  | 11 => fun q h => smTs_of (smclo_11 q h).1 (smclo_11 q h).2
  | 12 => fun q h => absurd h List.not_mem_nil
  | 13 => fun q h => absurd h List.not_mem_nil
  | n + 14 => fun q h => absurd h List.not_mem_nil
theorem smw_mathI : Cond.initialized "java/lang/Math" ∈ smTs := smTs_of (i := 59) (by decide +kernel) rfl
theorem smw_sysI : Cond.initialized "java/lang/System" ∈ smTs := smTs_of (i := 58) (by decide +kernel) rfl
theorem smw_acS : Cond.static arraycopyName ∈ smTs := smTs_of (i := 466) (by decide +kernel) (by decide +kernel)
theorem smw_acN : Cond.native arraycopyName ∈ smTs := smTs_of (i := 467) (by decide +kernel) (by decide +kernel)
theorem smw_maxS : Cond.static Lib.Math.max.name ∈ smTs := smTs_of (i := 626) (by decide +kernel) (by decide +kernel)
set_option maxRecDepth 20000 in
theorem smw_maxC : Cond.code Lib.Math.max.name Lib.Math.max.code 2 (some .int) ∈ smTs := smTs_of (i := 627) rfl rfl
theorem smw_minS : Cond.static Lib.Math.min.name ∈ smTs := smTs_of (i := 496) (by decide +kernel) (by decide +kernel)
set_option maxRecDepth 20000 in
theorem smw_minC : Cond.code Lib.Math.min.name Lib.Math.min.code 2 (some .int) ∈ smTs := smTs_of (i := 497) rfl rfl
theorem smw_absS : Cond.static Lib.Math.abs.name ∈ smTs := smTs_of (i := 674) (by decide +kernel) (by decide +kernel)
set_option maxRecDepth 20000 in
theorem smw_absC : Cond.code Lib.Math.abs.name Lib.Math.abs.code 1 (some .int) ∈ smTs := smTs_of (i := 675) rfl rfl
