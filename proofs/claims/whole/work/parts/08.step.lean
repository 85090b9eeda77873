/-! the small machine's steps, and that they are the machine's -/
def smI1 (st : List smV) (f : Int → List smV → Prop) : Prop := match st with
  | .inl x :: r => f x r
  | _ => False
def smI2 (st : List smV) (f : Int → Int → List smV → Prop) : Prop := match st with
  | .inl y :: .inl x :: r => f x y r
  | _ => False
def smLI (L : List (Option smV)) (i : Nat) (f : Int → Prop) : Prop := match L[i]? with
  | some (some (.inl x)) => f x
  | _ => False
def smLR (L : List (Option smV)) (i : Nat) (f : smT × Nat → Prop) : Prop := match L[i]? with
  | some (some (.inr (.inl q))) => f q
  | _ => False
def smR1 (st : List smV) (f : smT × Nat → List smV → Prop) : Prop := match st with
  | .inr (.inl q) :: r => f q r
  | _ => False
def smO1 (st : List smV) (c : Nat) (f : Nat → List smV → Prop) : Prop := match st with
  | .inr (.inl (.inl c', o)) :: r => cond (c' == c) (f o r) False
  | _ => False
def smX1 (st : List smV) (z : Bool) (f : Nat → Nat → Int → List smV → Prop) : Prop := match st with
  | .inl i :: .inr (.inl (.inr (z', n), o)) :: r => cond (z' == z && decide (n < 2000)) (f n o i r) False
  | _ => False
def smSw (pc : Nat) (x : Int) (f : Nat → Prop) : Int → List Int → Prop
  | _, [] => True
  | v, o :: r => (x = v → f ((pc : Int) + o).toNat) ∧ smSw pc x f (v + 1) r
def smLk (pc : Nat) (x : Int) (f : Nat → Prop) (df : Int) : List (Int × Int) → Prop
  | [] => f ((pc : Int) + df).toNat
  | q :: r => (x = q.1 → f ((pc : Int) + q.2).toNat) ∧ (x ≠ q.1 → smLk pc x f df r)
def smArg (a : Nat) (st : List smV) : Bool := decide (smNa a ≤ st.length) && decide (((st.drop (smNa a)).map smCat).sum ≤ 8) && (st.take (smNa a)).all smC1 && (smSt a || match (st.take (smNa a)).reverse with
  | .inr (.inl (.inl c, _)) :: _ => c == smOwn a
  | _ => false)
def smCal (go : Nat → List (Option smV) → List smV → smM → Prop) (pc : Nat) (L : List (Option smV)) (st : List smV) (mem : smM) (a : Nat) : Prop :=
  cond (smArg a st) (smRun a ((st.take (smNa a)).reverse) mem (fun v mem' => go (pc + 3) L (v.toList ++ st.drop (smNa a)) mem')) False
def smCpy (go : Nat → List (Option smV) → List smV → smM → Prop) (pc : Nat) (L : List (Option smV)) (st : List smV) (mem : smM) : Prop := match st with
  | .inl n :: .inl dp :: .inr (.inl (.inr (false, n1), k1)) :: .inl sp :: .inr (.inl (.inr (false, n0), k0)) :: r => cond (decide (n0 < 2000) && decide (n1 < 2000) && decide ((r.map smCat).sum ≤ 8)) (sp = 0 ∧ dp = 0 ∧ 0 ≤ n ∧ n ≤ n0 ∧ n ≤ n1 ∧ go (pc + 3) L r (smCp mem k0 k1 n)) False
  | _ => False
def smNat (st : List smV) (f : Int → Int → List smV → Prop) : Prop := smI2 st (fun x y r => cond (decide ((r.map smCat).sum ≤ 8)) (smIR x ∧ smIR y ∧ f x y r) False)
def smStc (go : Nat → List (Option smV) → List smV → smM → Prop) (pc : Nat) (L : List (Option smV)) (st : List smV) (mem : smM) (a : Nat) : Nat → Prop
  | 0 => smCal go pc L st mem a
  | 1 => smCal go pc L st mem a
  | 2 => smCpy go pc L st mem
  | 3 => smNat st (fun x y r => go (pc + 3) L (.inl (if x < y then y else x) :: r) mem)
  | 4 => smNat st (fun x y r => go (pc + 3) L (.inl (if y < x then y else x) :: r) mem)
  | 5 => smI1 st (fun x r => cond (decide ((r.map smCat).sum ≤ 8)) (smIR x ∧ go (pc + 3) L (.inl (if 0 ≤ x then x else 0 - x) :: r) mem) False)
  | _ => False
def smIns (k : Nat) (Post : Option smV → smM → Prop) (go : Nat → List (Option smV) → List smV → smM → Prop) (pc : Nat) (L : List (Option smV)) (st : List smV) (mem : smM) (a b : Nat) : Instr → Prop
  | .iconst n => go (pc + 1) L (.inl n :: st) mem
  | .bipush n => go (pc + 2) L (.inl n :: st) mem
  | .sipush n => go (pc + 3) L (.inl n :: st) mem
  | .ldc _ => go (pc + 2) L (.inl (a : Int) :: st) mem
  | .ldc_w _ => go (pc + 3) L (.inl (a : Int) :: st) mem
  | .ldc2_w _ => go (pc + 3) L (.inr (.inr (-(a : Int))) :: st) mem
  | .iload_n i => smLI L i (fun x => go (pc + 1) L (.inl x :: st) mem)
  | .iload i => smLI L i (fun x => go (pc + 2) L (.inl x :: st) mem)
  | .aload_n i => smLR L i (fun q => go (pc + 1) L (.inr (.inl q) :: st) mem)
  | .aload i => smLR L i (fun q => go (pc + 2) L (.inr (.inl q) :: st) mem)
  | .istore_n i => smI1 st (fun x r => go (pc + 1) (L.set i (some (.inl x))) r mem)
  | .istore i => smI1 st (fun x r => go (pc + 2) (L.set i (some (.inl x))) r mem)
  | .astore_n i => smR1 st (fun q r => go (pc + 1) (L.set i (some (.inr (.inl q)))) r mem)
  | .astore i => smR1 st (fun q r => go (pc + 2) (L.set i (some (.inr (.inl q)))) r mem)
  | .iinc i n => smLI L i (fun x => go (pc + 3) (L.set i (some (.inl (x + n)))) st mem)
  | .iadd => smI2 st (fun x y r => go (pc + 1) L (.inl (x + y) :: r) mem)
  | .isub => smI2 st (fun x y r => go (pc + 1) L (.inl (x - y) :: r) mem)
  | .imul => smI2 st (fun x y r => go (pc + 1) L (.inl (x * y) :: r) mem)
  | .ineg => smI1 st (fun x r => go (pc + 1) L (.inl (-x) :: r) mem)
  | .idiv => smI2 st (fun x y r => smIR x ∧ smIR y ∧ 0 < y ∧ go (pc + 1) L (.inl (x.tdiv y) :: r) mem)
  | .irem => smI2 st (fun x y r => smIR x ∧ smIR y ∧ 0 < y ∧ go (pc + 1) L (.inl (x.tmod y) :: r) mem)
  | .iand => smI2 st (fun x y r => go (pc + 1) L (.inl (smAnd x y) :: r) mem)
  | .ior => smI2 st (fun x y r => go (pc + 1) L (.inl (smOr x y) :: r) mem)
  | .ixor => smI2 st (fun x y r => go (pc + 1) L (.inl (smXor x y) :: r) mem)
  | .ishl => smI2 st (fun x y r => go (pc + 1) L (.inl (smShl x y) :: r) mem)
  | .ishr => smI2 st (fun x y r => go (pc + 1) L (.inl (smShr x y) :: r) mem)
  | .iushr => smI2 st (fun x y r => go (pc + 1) L (.inl (smUsh x y) :: r) mem)
  | .ifCond .eq _ => smI1 st (fun x r => smIR x ∧ (x = 0 → go a L r mem) ∧ (¬ x = 0 → go (pc + 3) L r mem))
  | .ifCond .ne _ => smI1 st (fun x r => smIR x ∧ (¬ x = 0 → go a L r mem) ∧ (x = 0 → go (pc + 3) L r mem))
  | .ifCond .lt _ => smI1 st (fun x r => smIR x ∧ (x < 0 → go a L r mem) ∧ (0 ≤ x → go (pc + 3) L r mem))
  | .ifCond .ge _ => smI1 st (fun x r => smIR x ∧ (0 ≤ x → go a L r mem) ∧ (x < 0 → go (pc + 3) L r mem))
  | .ifCond .gt _ => smI1 st (fun x r => smIR x ∧ (0 < x → go a L r mem) ∧ (x ≤ 0 → go (pc + 3) L r mem))
  | .ifCond .le _ => smI1 st (fun x r => smIR x ∧ (x ≤ 0 → go a L r mem) ∧ (0 < x → go (pc + 3) L r mem))
  | .if_icmp .eq _ => smI2 st (fun x y r => smIR x ∧ smIR y ∧ (x = y → go a L r mem) ∧ (¬ x = y → go (pc + 3) L r mem))
  | .if_icmp .ne _ => smI2 st (fun x y r => smIR x ∧ smIR y ∧ (¬ x = y → go a L r mem) ∧ (x = y → go (pc + 3) L r mem))
  | .if_icmp .lt _ => smI2 st (fun x y r => smIR x ∧ smIR y ∧ (x < y → go a L r mem) ∧ (y ≤ x → go (pc + 3) L r mem))
  | .if_icmp .ge _ => smI2 st (fun x y r => smIR x ∧ smIR y ∧ (y ≤ x → go a L r mem) ∧ (x < y → go (pc + 3) L r mem))
  | .if_icmp .gt _ => smI2 st (fun x y r => smIR x ∧ smIR y ∧ (y < x → go a L r mem) ∧ (x ≤ y → go (pc + 3) L r mem))
  | .if_icmp .le _ => smI2 st (fun x y r => smIR x ∧ smIR y ∧ (x ≤ y → go a L r mem) ∧ (y < x → go (pc + 3) L r mem))
  | .goto _ => go a L st mem
  | .dup => match st with
    | v :: r => cond (smC1 v) (go (pc + 1) L (v :: v :: r) mem) False
    | _ => False
  | .dup2 => match st with
    | v :: w :: r => cond (smC1 v && smC1 w) (go (pc + 1) L (v :: w :: v :: w :: r) mem) False
    | _ => False
  | .pop => match st with
    | v :: r => cond (smC1 v) (go (pc + 1) L r mem) False
    | _ => False
  | .getfield _ => smO1 st a (fun o r => match (smLay a)[b]? with
    | some (.inl _) => go (pc + 3) L (.inl (mem o (b : Int)) :: r) mem
    | some (.inr q) => go (pc + 3) L (.inr (.inl (q.1, o + q.2)) :: r) mem
    | none => False)
  | .putfield _ => smI1 st (fun x r1 => smO1 r1 a (fun o r => match (smLay a)[b]? with
    | some (.inl 0) => go (pc + 3) L r (smU mem o (b : Int) x)
    | some (.inl 1) => (x = 0 ∨ x = 1) ∧ go (pc + 3) L r (smU mem o (b : Int) x)
    | _ => False))
  | .iaload => smX1 st false (fun n o i r => (0 ≤ i ∧ i < (n : Int)) ∧ go (pc + 1) L (.inl (mem o i) :: r) mem)
  | .baload => smX1 st true (fun n o i r => (0 ≤ i ∧ i < (n : Int)) ∧ go (pc + 1) L (.inl (mem o i) :: r) mem)
  | .iastore => smI1 st (fun x r1 => smX1 r1 false (fun n o i r => (0 ≤ i ∧ i < (n : Int)) ∧ go (pc + 1) L r (smU mem o i x)))
  | .bastore => smI1 st (fun x r1 => smX1 r1 true (fun n o i r => (x = 0 ∨ x = 1) ∧ (0 ≤ i ∧ i < (n : Int)) ∧ go (pc + 1) L r (smU mem o i x)))
  | .invokevirtual _ => smCal go pc L st mem a
  | .invokestatic _ => smStc go pc L st mem a b
  | .ireturn => match st with
    | [.inl x] => match smRt k with
      | some .int => Post (some (.inl x)) mem
      | some .boolean => (x = 0 ∨ x = 1) ∧ Post (some (.inl x)) mem
      | _ => False
    | _ => False
  | .lreturn => match st with
    | [.inr (.inr x)] => match smRt k with
      | some .long => Post (some (.inr (.inr x))) mem
      | _ => False
    | _ => False
  | .areturn => match st with
    | [.inr (.inl q)] => match smRt k with
      | some (.object _) => Post (some (.inr (.inl q))) mem
      | _ => False
    | _ => False
  | .return_ => match st with
    | [] => match smRt k with
      | none => Post none mem
      | _ => False
    | _ => False
  | .i2l => smI1 st (fun x r => smIR x ∧ go (pc + 1) L (.inr (.inr x) :: r) mem)
  | .tableswitch df lo hi offs => smI1 st (fun x r => smIR x ∧ (x < lo ∨ hi < x → go ((pc : Int) + df).toNat L r mem) ∧ smSw pc x (fun t => go t L r mem) lo offs.toList)
  | .lookupswitch df ps => smI1 st (fun x r => smIR x ∧ smLk pc x (fun t => go t L r mem) df ps.toList)
  | _ => False
def smGet : List smI → Nat → Option smI
  | [], _ => none
  | e :: r, pc => cond (e.1 == pc) (some e) (smGet r pc)
def smOne (k : Nat) (Post : Option smV → smM → Prop) (go : Nat → List (Option smV) → List smV → smM → Prop) (pc : Nat) (L : List (Option smV)) (st : List smV) (mem : smM) : Option smI → Prop
  | none => False
  | some e => smIns k Post go pc L st mem e.2.2.1 e.2.2.2 e.2.1
/-- n steps on (at a cut the machine itself goes on) -/
def smStep (cut : List Nat) (k : Nat) (Post : Option smV → smM → Prop) : Nat → Nat → List (Option smV) → List smV → smM → Prop
  | 0, pc, L, st, mem => smWp k pc L st mem Post
  | n + 1, pc, L, st, mem => smOne k Post (fun pc' L' st' mem' => cond (cut.contains pc') (smWp k pc' L' st' mem' Post) (smStep cut k Post n pc' L' st' mem')) pc L st mem (smGet (smTb k) pc)
