/-! the small machine's steps, and that they are the machine's -/
def smI1 (st : List smV) (f : Int → List smV → Prop) : Prop := match st with
  | .inl x :: r => f x r
  | _ => False
def smI2 (st : List smV) (f : Int → Int → List smV → Prop) : Prop := match st with
  | .inl y :: .inl x :: r => f x y r
  | _ => False
def smNth : List (Option smV) → Nat → Option smV
  | [], _ => none
  | x :: _, 0 => x
  | _ :: r, n + 1 => smNth r n
def smLI (L : List (Option smV)) (i : Nat) (f : Int → Prop) : Prop := match smNth L i with
  | some (.inl x) => f x
  | _ => False
def smLR (L : List (Option smV)) (i : Nat) (f : smT × Nat → Prop) : Prop := match smNth L i with
  | some (.inr (.inl q)) => f q
  | _ => False
def smR1 (st : List smV) (f : smT × Nat → List smV → Prop) : Prop := match st with
  | .inr (.inl q) :: r => f q r
  | _ => False
def smO1 (st : List smV) (c : Nat) (f : Nat → List smV → Prop) : Prop := match st with
  | .inr (.inl (.inl c', o)) :: r => cond (c' == c) (f o r) False
  | _ => False
def smX1 (st : List smV) (z : Bool) (f : Nat → Nat → Int → List smV → Prop) : Prop := match st with
  | .inl i :: .inr (.inl (.inr (z', n), o)) :: r => cond (z' == z && decide (n < 2000)) (f n o i r) False
  | _ => False
/-- a row: a cell's, or the one behind an object's own cell -/
def smX2 (st : List smV) (f : Nat → Nat → Int → List smV → Prop) (g : Nat → Int → List smV → Prop) : Prop := match st with
  | .inl i :: .inr (.inr (.inr o)) :: r => g o i r
  | _ => smX1 st false f
def smSet : List (Option smV) → Nat → smV → (List (Option smV) → Prop) → Prop
  | [], _, _, k => k []
  | _ :: r, 0, v, k => k (some v :: r)
  | x :: r, n + 1, v, k => smSet r n v (fun r' => k (x :: r'))
def smTk : Nat → List smV → List smV → (List smV → List smV → Prop) → Prop
  | 0, st, acc, k => k acc st
  | n + 1, v :: r, acc, k => smTk n r (v :: acc) k
  | _ + 1, [], _, _ => False
def smBack (v : Option smV) (r : List smV) (k : List smV → Prop) : Prop := match v with
  | none => k r
  | some w => k (w :: r)
def smSw (pc : Nat) (x : Int) (f : Nat → Prop) : Int → List Int → Prop
  | _, [] => True
  | v, o :: r => (x = v → f ((pc : Int) + o).toNat) ∧ smSw pc x f (v + 1) r
def smLk (pc : Nat) (x : Int) (f : Nat → Prop) (df : Int) : List (Int × Int) → Prop
  | [] => f ((pc : Int) + df).toNat
  | q :: r => (x = q.1 → f ((pc : Int) + q.2).toNat) ∧ (x ≠ q.1 → smLk pc x f df r)
def smArg (a : Nat) (as rest : List smV) : Bool := decide ((rest.map smCat).sum ≤ 8) && as.all smC1 && (smSt a || match as with
  | .inr (.inl (.inl c, _)) :: _ => c == smOwn a
  | _ => false)
def smCal (go : Nat → List (Option smV) → List smV → smM → Prop) (nx : Nat) (L : List (Option smV)) (st : List smV) (mem : smM) (a : Nat) : Prop :=
  smTk (smNa a) st [] (fun as rest => cond (smArg a as rest) (smRun a as mem (fun v mem' => smBack v rest (fun st' => go nx L st' mem'))) False)
def smCpy (go : Nat → List (Option smV) → List smV → smM → Prop) (nx : Nat) (L : List (Option smV)) (st : List smV) (mem : smM) : Prop := match st with
  | .inl n :: .inl dp :: .inr (.inl (.inr (false, n1), k1)) :: .inl sp :: .inr (.inl (.inr (false, n0), k0)) :: r => cond (decide (n0 < 2000) && decide (n1 < 2000) && decide ((r.map smCat).sum ≤ 8)) (sp = 0 ∧ dp = 0 ∧ 0 ≤ n ∧ n ≤ n0 ∧ n ≤ n1 ∧ go nx L r (smCp mem k0 k1 n)) False
  | .inl n :: .inl dp :: .inr (.inr (.inr k1)) :: .inl sp :: .inr (.inr (.inr k0)) :: r => cond (decide ((r.map smCat).sum ≤ 8)) (sp = 0 ∧ dp = 0 ∧ 0 ≤ n ∧ n ≤ 12 ∧ go nx L r (smCv2 mem k0 k1 n)) False
  | _ => False
def smNat (st : List smV) (f : Int → Int → List smV → Prop) : Prop := smI2 st (fun x y r => cond (decide ((r.map smCat).sum ≤ 8)) (smIR x ∧ smIR y ∧ f x y r) False)
def smStc (go : Nat → List (Option smV) → List smV → smM → Prop) (nx : Nat) (L : List (Option smV)) (st : List smV) (mem : smM) (a : Nat) : Nat → Prop
  | 0 => smCal go nx L st mem a
  | 1 => smCal go nx L st mem a
  | 2 => smCpy go nx L st mem
  | 3 => smNat st (fun x y r => go nx L (.inl (if x < y then y else x) :: r) mem)
  | 4 => smNat st (fun x y r => go nx L (.inl (if y < x then y else x) :: r) mem)
  | 5 => smI1 st (fun x r => cond (decide ((r.map smCat).sum ≤ 8)) (smIR x ∧ go nx L (.inl (if 0 ≤ x then x else 0 - x) :: r) mem) False)
  | _ => False
def smLitL : List Nat → Nat → Nat → (Nat → Prop) → Prop
  | x :: _, 0, n, k => cond (x == n) (k x) False
  | _ :: r, m + 1, n, k => smLitL r m n k
  | [], _, _, _ => False
def smCells : List Nat := [0, 1, 2, 3, 4, 5, 6, 7, 8, 9, 10, 11, 12, 13, 14, 15, 16, 17, 18, 19, 20, 21, 22, 23, 24, 25, 26, 27, 28, 29, 30, 31, 32, 33, 34, 35, 36, 37, 38, 39, 40, 41, 42, 43, 44, 45, 46, 47, 48, 49, 50, 51, 52, 53, 54, 55, 56, 57, 58, 59, 60, 61, 62, 63, 64, 65, 66, 67, 68, 69, 70, 71, 72, 73, 74, 75, 76, 77, 78, 79, 80, 81, 82, 83, 84, 85, 86, 87, 88, 89, 90, 91, 92, 93, 94, 95, 96, 97, 98, 99, 100, 101, 102, 103, 104, 105, 106, 107, 108, 109, 110, 111, 112, 113, 114, 115, 116, 117, 118, 119, 120, 121, 122, 123, 124, 125, 126, 127, 128, 129, 130, 131, 132, 133, 134, 135]
/-- a cell's number, as a numeral -/
def smLit (t : Bool) (n : Nat) (k : Nat → Prop) : Prop := cond t (smLitL smCells n n k) (k n)
def smNthE : List (Nat ⊕ (smT × Nat)) → Nat → Option (Nat ⊕ (smT × Nat))
  | [], _ => none
  | x :: _, 0 => some x
  | _ :: r, n + 1 => smNthE r n
def smGf (lit : Bool) (a b : Nat) (z : Int) (mem : smM) (o : Nat) (f : smV → Prop) : Prop := match smNthE (smLay a) b with
  | some (.inl 2) => f (.inr (.inr (.inr o)))
  | some (.inl _) => f (.inl (mem o z))
  | some (.inr (t, d)) => smLit lit (o + d) (fun n => f (.inr (.inl (t, n))))
  | none => False
def smPf (a b : Nat) (x : Int) (P : Prop) : Prop := match smNthE (smLay a) b with
  | some (.inl 0) => P
  | some (.inl 1) => (x = 0 ∨ x = 1) ∧ P
  | _ => False
def smRi (t : Option FieldType) (x : Int) (P : Prop) : Prop := match t with
  | some .int => P
  | some .boolean => (x = 0 ∨ x = 1) ∧ P
  | _ => False
def smRl (t : Option FieldType) (P : Prop) : Prop := match t with
  | some .long => P
  | _ => False
def smRa (t : Option FieldType) (P : Prop) : Prop := match t with
  | some (.object _) => P
  | _ => False
def smRv (t : Option FieldType) (P : Prop) : Prop := match t with
  | none => P
  | _ => False
def smS1 (st : List smV) (f : smV → Prop) : Prop := match st with
  | [v] => f v
  | _ => False
def smIns (lit : Bool) (k : Nat) (Post : Option smV → smM → Prop) (go : Nat → List (Option smV) → List smV → smM → Prop) (pc nx : Nat) (L : List (Option smV)) (st : List smV) (mem : smM) (a b : Nat) (z : Int) : Instr → Prop
  | .iconst n => go nx L (.inl n :: st) mem
  | .bipush n => go nx L (.inl n :: st) mem
  | .sipush n => go nx L (.inl n :: st) mem
  | .ldc _ => go nx L (.inl z :: st) mem
  | .ldc_w _ => go nx L (.inl z :: st) mem
  | .ldc2_w _ => go nx L (.inr (.inr (.inl z)) :: st) mem
  | .iload_n i => smLI L i (fun x => go nx L (.inl x :: st) mem)
  | .iload i => smLI L i (fun x => go nx L (.inl x :: st) mem)
  | .aload_n i => smLR L i (fun q => go nx L (.inr (.inl q) :: st) mem)
  | .aload i => smLR L i (fun q => go nx L (.inr (.inl q) :: st) mem)
  | .istore_n i => smI1 st (fun x r => smSet L i (.inl x) (fun L' => go nx L' r mem))
  | .istore i => smI1 st (fun x r => smSet L i (.inl x) (fun L' => go nx L' r mem))
  | .astore_n i => smR1 st (fun q r => smSet L i (.inr (.inl q)) (fun L' => go nx L' r mem))
  | .astore i => smR1 st (fun q r => smSet L i (.inr (.inl q)) (fun L' => go nx L' r mem))
  | .iinc i n => smLI L i (fun x => smSet L i (.inl (x + n)) (fun L' => go nx L' st mem))
  | .iadd => smI2 st (fun x y r => go nx L (.inl (x + y) :: r) mem)
  | .isub => smI2 st (fun x y r => go nx L (.inl (x - y) :: r) mem)
  | .imul => smI2 st (fun x y r => go nx L (.inl (x * y) :: r) mem)
  | .ineg => smI1 st (fun x r => go nx L (.inl (-x) :: r) mem)
  | .idiv => smI2 st (fun x y r => smIR x ∧ smIR y ∧ 0 < y ∧ go nx L (.inl (x.tdiv y) :: r) mem)
  | .irem => smI2 st (fun x y r => smIR x ∧ smIR y ∧ 0 < y ∧ go nx L (.inl (x.tmod y) :: r) mem)
  | .iand => smI2 st (fun x y r => go nx L (.inl (smAnd x y) :: r) mem)
  | .ior => smI2 st (fun x y r => go nx L (.inl (smOr x y) :: r) mem)
  | .ixor => smI2 st (fun x y r => go nx L (.inl (smXor x y) :: r) mem)
  | .ishl => smI2 st (fun x y r => go nx L (.inl (smShl x y) :: r) mem)
  | .ishr => smI2 st (fun x y r => go nx L (.inl (smShr x y) :: r) mem)
  | .iushr => smI2 st (fun x y r => go nx L (.inl (smUsh x y) :: r) mem)
  | .ifCond .eq _ => smI1 st (fun x r => smIR x ∧ (x = 0 → go a L r mem) ∧ (¬ x = 0 → go nx L r mem))
  | .ifCond .ne _ => smI1 st (fun x r => smIR x ∧ (¬ x = 0 → go a L r mem) ∧ (x = 0 → go nx L r mem))
  | .ifCond .lt _ => smI1 st (fun x r => smIR x ∧ (x < 0 → go a L r mem) ∧ (0 ≤ x → go nx L r mem))
  | .ifCond .ge _ => smI1 st (fun x r => smIR x ∧ (0 ≤ x → go a L r mem) ∧ (x < 0 → go nx L r mem))
  | .ifCond .gt _ => smI1 st (fun x r => smIR x ∧ (0 < x → go a L r mem) ∧ (x ≤ 0 → go nx L r mem))
  | .ifCond .le _ => smI1 st (fun x r => smIR x ∧ (x ≤ 0 → go a L r mem) ∧ (0 < x → go nx L r mem))
  | .if_icmp .eq _ => smI2 st (fun x y r => smIR x ∧ smIR y ∧ (x = y → go a L r mem) ∧ (¬ x = y → go nx L r mem))
  | .if_icmp .ne _ => smI2 st (fun x y r => smIR x ∧ smIR y ∧ (¬ x = y → go a L r mem) ∧ (x = y → go nx L r mem))
  | .if_icmp .lt _ => smI2 st (fun x y r => smIR x ∧ smIR y ∧ (x < y → go a L r mem) ∧ (y ≤ x → go nx L r mem))
  | .if_icmp .ge _ => smI2 st (fun x y r => smIR x ∧ smIR y ∧ (y ≤ x → go a L r mem) ∧ (x < y → go nx L r mem))
  | .if_icmp .gt _ => smI2 st (fun x y r => smIR x ∧ smIR y ∧ (y < x → go a L r mem) ∧ (x ≤ y → go nx L r mem))
  | .if_icmp .le _ => smI2 st (fun x y r => smIR x ∧ smIR y ∧ (x ≤ y → go a L r mem) ∧ (y < x → go nx L r mem))
  | .goto _ => go a L st mem
  | .dup => match st with
    | v :: r => cond (smC1 v) (go nx L (v :: v :: r) mem) False
    | _ => False
  | .dup2 => match st with
    | v :: w :: r => cond (smC1 v && smC1 w) (go nx L (v :: w :: v :: w :: r) mem) False
    | _ => False
  | .pop => match st with
    | v :: r => cond (smC1 v) (go nx L r mem) False
    | _ => False
  | .getfield _ => smO1 st a (fun o r => smGf lit a b z mem o (fun v => go nx L (v :: r) mem))
  | .putfield _ => smI1 st (fun x r1 => smO1 r1 a (fun o r => smPf a b x (go nx L r (smU mem o z x))))
  | .iaload => smX2 st (fun n o i r => (0 ≤ i ∧ i < (n : Int)) ∧ go nx L (.inl (mem o i) :: r) mem) (fun o i r => (0 ≤ i ∧ i < 12) ∧ go nx L (.inl (mem o (100 + i)) :: r) mem)
  | .baload => smX1 st true (fun n o i r => (0 ≤ i ∧ i < (n : Int)) ∧ go nx L (.inl (mem o i) :: r) mem)
  | .iastore => smI1 st (fun x r1 => smX2 r1 (fun n o i r => (0 ≤ i ∧ i < (n : Int)) ∧ go nx L r (smU mem o i x)) (fun o i r => (0 ≤ i ∧ i < 12) ∧ go nx L r (smU mem o (100 + i) x)))
  | .bastore => smI1 st (fun x r1 => smX1 r1 true (fun n o i r => (x = 0 ∨ x = 1) ∧ (0 ≤ i ∧ i < (n : Int)) ∧ go nx L r (smU mem o i x)))
  | .invokevirtual _ => smCal go nx L st mem a
  | .invokestatic _ => smStc go nx L st mem a b
  | .ireturn => smI1 st (fun x r => match r with
    | [] => smRi (smRt k) x (Post (some (.inl x)) mem)
    | _ => False)
  | .lreturn => smS1 st (fun v => match v with
    | .inr (.inr (.inl x)) => smRl (smRt k) (Post (some (.inr (.inr (.inl x)))) mem)
    | _ => False)
  | .areturn => smS1 st (fun v => match v with
    | .inr (.inl q) => smRa (smRt k) (Post (some (.inr (.inl q))) mem)
    | _ => False)
  | .return_ => match st with
    | [] => smRv (smRt k) (Post none mem)
    | _ => False
  | .i2l => smI1 st (fun x r => smIR x ∧ go nx L (.inr (.inr (.inl x)) :: r) mem)
  | .tableswitch df lo hi offs => smI1 st (fun x r => smIR x ∧ (x < lo ∨ hi < x → go ((pc : Int) + df).toNat L r mem) ∧ smSw pc x (fun t => go t L r mem) lo offs.toList)
  | .lookupswitch df ps => smI1 st (fun x r => smIR x ∧ smLk pc x (fun t => go t L r mem) df ps.toList)
  | _ => False
def smGet : List smI → Nat → Option smI
  | [], _ => none
  | e :: r, pc => cond (e.1 == pc) (some e) (smGet r pc)
def smOne (lit : Bool) (k : Nat) (Post : Option smV → smM → Prop) (go : Nat → List (Option smV) → List smV → smM → Prop) (pc : Nat) (L : List (Option smV)) (st : List smV) (mem : smM) : Option smI → Prop
  | none => False
  | some (_, i, nx, a, b, z) => smIns lit k Post go pc nx L st mem a b z i
/-- n steps on (at a cut the machine itself goes on) -/
def smStep (cut : List Nat) (k : Nat) (Post : Option smV → smM → Prop) : Nat → Nat → List (Option smV) → List smV → smM → Prop
  | 0, pc, L, st, mem => smWp k pc L st mem Post
  | n + 1, pc, L, st, mem => smOne (cut.contains 9999) k Post (fun pc' L' st' mem' => cond (cut.contains pc') (smWp k pc' L' st' mem' Post) (smStep cut k Post n pc' L' st' mem')) pc L st mem (smGet (smTb k) pc)
/-- the locals at a method's entry -/
def smEnt : List smV → Nat → (List (Option smV) → Prop) → Prop
  | [], 0, k => k []
  | [], n + 1, k => smEnt [] n (fun r => k (none :: r))
  | v :: r, n + 1, k => smEnt r n (fun r' => k (some v :: r'))
  | _ :: _, 0, _ => False
