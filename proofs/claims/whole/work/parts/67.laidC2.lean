/-! laid, class: all of it -/
theorem sm_alen96 {L : List (Option smV)} {st : List smV} {mem : smM} {Post : Option smV → smM → Prop} (h : smWp 96 19 L (.inl 32 :: st) mem Post) : smWp 96 18 L (aR 32 113 :: st) mem Post := by
  refine eq_true ?_
  intro p l e s m args below meth c E H locs ls C hP hS hL hst
  obtain ⟨hx, hb, hml, hr, hlk, hown, hts, hKs, hE⟩ := id C
  have hsh : smSh[113]? = some (.inr (false, 32)) := hst _ List.mem_cons_self
  have hat : (smWs E mem)[113]? = some (E.2.2 113, .inl (E.2.1.1, 32, .inl (fun j => Int32.ofInt (mem 113 (j : Int))))) := smWs_at hsh
  have K := of_eq_true h p l e s m args below meth c E H locs ls C hP hS hL (smOKs_1 trivial (smOKs_t hst))
  exact va_alen hx hb hKs.1 hP 113 0 hat rfl (v := Int32.ofInt 32) rfl (by decide +kernel) K
def laA (S : sS) (x : Int) : Prop := (x = -6 ∧ ∀ f, ¬ vld S (S 2) (wn S) f) ∨ (∃ f, vld S (S 2) (wn S) f ∧ x = cst S (wn S) f ∧ ∀ g, vld S (S 2) (wn S) g → x ≤ cst S (wn S) g)
theorem cst_cg {S : sS} {M M' : Nat → Bool} (f : Nat → Int) (h : ∀ j, j < 5 → M' j = M j) : cst S M' f = cst S M f := sQ_cg 5 (fun j hj => by rw [h j hj])
theorem cnq_cg {M M' : Nat → Bool} (f : Nat → Int) (x : Int) (h : ∀ j, j < 5 → M' j = M j) : cnq M' f x = cnq M f x := sQ_cg 5 (fun j hj => by rw [h j hj])
theorem cst_in {N : Int} {S : sS} {M : Nat → Bool} {f : Nat → Int} (ho : okW N S) (hM : ∀ q : Nat, q < 5 → M q = true → bB (S 4 0) q) (hf : ∀ q : Nat, q < 5 → M q = true → 0 ≤ f q ∧ f q < S 0 0) : 0 ≤ cst S M f ∧ cst S M f ≤ 100 := by
  have := sQ_in (g := fun q => if M q = true then ds S q (f q) else 0) (b := 20) 5 (fun j hj => by
    split
    · next c => exact ds_in2 ho (by omega) (hM j hj c) (hf j hj c)
    · omega)
  unfold cst
  omega
section
variable {mem : smM} {Post : Option smV → smM → Prop} {N : Int} {S : sS}
def capA (S : sS) (p j : Int) : Int → Int := fun x => if 0 ≤ x ∧ x < p then (if S 2 x < 5 then S 2 x else 5) else if x = p then j else 0
set_option maxRecDepth 4000 in
theorem pC_laid (hk : kC mem S) (ho : ok N S) (h : ∀ x m, laA S x → keepC mem m → Post (some (.inl x)) m) : smRun 96 [oR 10 0] mem Post := by
  obtain ⟨oN, ⟨oP, oT, oA, op, oq, oi⟩, ⟨oB, ob⟩, ⟨oS, os⟩⟩ := id ho
  have kw : ∀ m, (∀ k i, k ≠ 113 → m k i = mem k i) → kC m S := fun m e => kC_of (fun j i hj => e j i (by omega)) hk
  refine smGo [10, 9999] 60 rfl ?_
  refine ru_emptyHands hk ho (fun all hall hb => ?_)
  have sub : ∀ T, smAnd T (smXor all (-1)) = 0 → (0 ≤ T ∧ T < 32) → ∀ q : Nat, q < 5 → mB T q = true → bB all q ∧ bB (S 4 0) q := by
    intro T hT t q hq hm
    have a := (su5 T all t.1 t.2 hall.1 hall.2).2.1.mp hT q hq (mB_1.mp hm).2
    have b := of_decide_eq_true ((hb q hq).mp a)
    exact ⟨a, b.1⟩
  have capb : ∀ p j x, 0 ≤ j → 0 ≤ p → p ≤ 9 → 0 ≤ capA S p j x := by
    intro p j x hj p0 p9
    unfold capA
    split
    · next c =>
      have := op x (by omega) (by omega)
      split <;> omega
    · split <;> omega
  -- a stone more
  have step : ∀ (p j : Int) (m m2 : smM), (0 ≤ p ∧ p < S 0 0) → 0 ≤ j → (∀ T, 0 ≤ T → T < 32 → smAnd T (smXor all (-1)) = 0 → mnA S (capA S p j) (mB T) (m 113 T)) → (∀ T, 0 ≤ T → T < 32 → mnC S p all (m 113) (fun _ _ => True) T (m2 113 T)) → ∀ T, 0 ≤ T → T < 32 → smAnd T (smXor all (-1)) = 0 → mnA S (capA S p (j + 1)) (mB T) (m2 113 T) := by
    intro p j m m2 hp hj hA hC T t0 t1 hT
    have ec : (fun x => capA S p j x + if x = p then 1 else 0) = capA S p (j + 1) := by
      funext x
      unfold capA
      by_cases e : x = p
      · rw [if_pos e, if_neg (by omega), if_pos e, if_neg (by omega), if_pos e]
      · rw [if_neg e, if_neg e, if_neg e, Int.add_zero]
    rw [← ec]
    have suT := (su5 T all t0 t1 hall.1 hall.2).2.1.mp hT
    have clT : ∀ q : Nat, q < 5 → mB T q = true → (0 ≤ clr T q ∧ clr T q < 32) ∧ smAnd (clr T q) (smXor all (-1)) = 0 ∧ ¬ bB (clr T q) q ∧ T = smOr (clr T q) (smShl 1 q) ∧ bB all q := by
      intro q hq hm
      have l1 := clr_lt32 T q t0 t1 (by omega) (by omega)
      have l2 := clr_bB32 T q t0 t1 (by omega) (by omega)
      have l3 := (cl5 T q t0 t1 (by omega) (by omega)).1 (mB_1.mp hm).2
      refine ⟨l1, (su5 _ all l1.1 l1.2 hall.1 hall.2).2.1.mpr (fun k hk1 z => suT k hk1 ((l2 k hk1).mp z).1), fun z => ((l2 q hq).mp z).2 rfl, l3.1.symm, suT q hq (mB_1.mp hm).2⟩
    obtain ⟨c1, c2⟩ := hC T t0 t1
    refine mn_step (fun q => m 113 (clr T q)) hp (fun x => capb p j x hj hp.1 (by omega)) (hA T t0 t1 hT) (fun q hq hm => ?_) (fun q hq hm => ?_) (c2 _ (Or.inl rfl)) (fun q hq hm hf => ?_) ?_ (fun f hf => ?_) (fun q hq hm f hf => ?_)
    · rw [mB_cl ⟨t0, t1⟩ hq]
      have l := clT q hq hm
      exact hA _ l.1.1 l.1.2 l.2.1
    · have := ds_in ho.2.1 (show 0 ≤ (q : Int) ∧ (q : Int) < 5 by omega) hp
      omega
    · have l := clT q hq hm
      exact c2 _ (Or.inr ⟨clr T q, q, l.1, hq, l.2.1, l.2.2.2.2, l.2.2.1, hf, trivial, l.2.2.2.1, rfl⟩)
    · rcases c1 with e | ⟨R, q, a1, a2, a3, a4, a5, a6, a7, a8, a9⟩
      · exact Or.inl e
      · right
        have e1 := (cl5 R q a1.1 a1.2 (by omega) (by omega)).2 a5
        have e2 := or_bB32 R q a1.1 a1.2 (by omega) (by omega) q (by omega)
        have e3 : clr T q = R := by rw [a8]; exact e1.1
        refine ⟨q, a2, mB_1.mpr ⟨a2, ?_⟩, ?_, ?_⟩
        · rw [a8]; exact e2.mpr (Or.inr rfl)
        · show m 113 (clr T q) < 1000000
          rw [e3]; exact a6
        · show m2 113 T = m 113 (clr T q) + ds S q p
          rw [e3]; exact a9
    · have := cst_in (S := S) (M := mB T) (f := f) ho.2.1 (fun q hq hm => (sub T hT ⟨t0, t1⟩ q hq hm).2) hf
      omega
    · have := cst_in (S := S) (M := fun j => mB T j && !decide (j = q)) (f := f) ho.2.1 (fun j hj hm2 => (sub T hT ⟨t0, t1⟩ j hj (by rw [Bool.and_eq_true] at hm2; exact hm2.1)).2) hf
      omega
  have bnd : ∀ (cap : Int → Int) (m : smM), (∀ T, 0 ≤ T → T < 32 → smAnd T (smXor all (-1)) = 0 → mnA S cap (mB T) (m 113 T)) → (∀ T, 0 ≤ T → T < 32 → ¬ smAnd T (smXor all (-1)) = 0 → m 113 T = 1000000) → ∀ T, 0 ≤ T → T < 32 → 0 ≤ m 113 T ∧ m 113 T ≤ 1000000 := by
    intro cap m hA hB T t0 t1
    by_cases c : smAnd T (smXor all (-1)) = 0
    · rcases hA T t0 t1 c with ⟨e, _⟩ | ⟨f, f1, f2, _⟩
      · omega
      · have := cst_in (S := S) (M := mB T) (f := f) ho.2.1 (fun q hq hm => (sub T c ⟨t0, t1⟩ q hq hm).2) f1.1
        omega
    · rw [hB T t0 t1 c]; omega
  have stones : ∀ (p : Int), (0 ≤ p ∧ p < S 0 0) → ∀ (k : Int), (k = if S 2 p < 5 then S 2 p else 5) → (∀ m x3 x4, (∀ k i, k ≠ 113 → m k i = mem k i) → (∀ T, 0 ≤ T → T < 32 → smAnd T (smXor all (-1)) = 0 → mnA S (capA S (p + 1) 0) (mB T) (m 113 T)) → (∀ T, 0 ≤ T → T < 32 → ¬ smAnd T (smXor all (-1)) = 0 → m 113 T = 1000000) → smWp 96 46 [some (oR 10 0), some (.inl all), some (.inl (p + 1)), x3, x4] [] m Post) → ∀ (f : Nat) (j : Int) (m : smM), j + f = k → 0 ≤ j → (∀ k i, k ≠ 113 → m k i = mem k i) → (∀ T, 0 ≤ T → T < 32 → smAnd T (smXor all (-1)) = 0 → mnA S (capA S p j) (mB T) (m 113 T)) → (∀ T, 0 ≤ T → T < 32 → ¬ smAnd T (smXor all (-1)) = 0 → m 113 T = 1000000) → smWp 96 80 [some (oR 10 0), some (.inl all), some (.inl p), some (.inl k), some (.inl j)] [] m Post := by
    intro p hp k hk5 K f
    have g2 := op p hp.1 (by omega)
    have kb : 0 ≤ k ∧ k ≤ 5 := by rw [hk5]; split <;> omega
    induction f with
    | zero =>
      intro j m hf j0 hx hA hB
      refine smAt [46, 80, 9999] 60 rfl ?_
      repeat' first
        | refine And.intro ?_ ?_
        | intro _
      all_goals try omega
      have ec : capA S p j = capA S (p + 1) 0 := by
        funext x
        unfold capA
        by_cases e : x = p
        · subst e
          rw [if_neg (show ¬ (0 ≤ x ∧ x < x) by omega), if_pos rfl, if_pos (show 0 ≤ x ∧ x < x + 1 by omega)]
          omega
        · by_cases e2 : 0 ≤ x ∧ x < p
          · rw [if_pos e2, if_pos (show 0 ≤ x ∧ x < p + 1 by omega)]
          · rw [if_neg e2, if_neg e, if_neg (show ¬ (0 ≤ x ∧ x < p + 1) by omega)]
            split <;> rfl
      refine K m _ _ hx (fun T t0 t1 z => ?_) hB
      rw [← ec]; exact hA T t0 t1 z
    | succ f ih =>
      intro j m hf j0 hx hA hB
      refine smAt [46, 80, 9999] 60 rfl ?_
      repeat' first
        | refine And.intro ?_ ?_
        | intro _
      all_goals try omega
      refine ru_offerStone p all hp hall (kw m hx) ho (bnd _ m hA hB) (fun m2 x2 c2 => ?_)
      refine ih (j + 1) m2 (by omega) (by omega) (fun k i z => by rw [x2 k i z]; exact hx k i z) (step p j m m2 hp j0 hA c2) (fun T t0 t1 z => ?_)
      rcases (c2 T t0 t1).1 with e | ⟨R, q, a1, a2, a3, a4, a5, a6, a7, a8, a9⟩
      · rw [e]; exact hB T t0 t1 z
      · exfalso
        have e2 := or_bB32 R q a1.1 a1.2 (by omega) (by omega)
        apply z
        refine (su5 T all t0 t1 hall.1 hall.2).2.1.mpr (fun i hi zi => ?_)
        rw [a8] at zi
        rcases (e2 i hi).mp zi with y | y
        · exact (su5 R all a1.1 a1.2 hall.1 hall.2).2.1.mp a3 i hi y
        · rw [show i = q by omega]; exact a4
  have fin : ∀ (m : smM) (x2 x3 x4 : Option smV), (∀ k i, k ≠ 113 → m k i = mem k i) → (∀ T, 0 ≤ T → T < 32 → smAnd T (smXor all (-1)) = 0 → mnA S (capA S (S 0 0) 0) (mB T) (m 113 T)) → smWp 96 104 [some (oR 10 0), some (.inl all), x2, x3, x4] [] m Post := by
    intro m x2 x3 x4 hx hA
    have e0 : smAnd all (smXor all (-1)) = 0 := (su5 all all hall.1 hall.2 hall.1 hall.2).2.1.mpr (fun _ _ z => z)
    have a := hA all hall.1 hall.2 e0
    have eM : ∀ j, j < 5 → mB all j = wn S j := by
      intro j hj
      rw [Bool.eq_iff_iff, mB_1, ← hb j hj]
      exact ⟨fun z => z.2, fun z => ⟨hj, z⟩⟩
    have ev : ∀ f, vld S (capA S (S 0 0) 0) (mB all) f ↔ vld S (S 2) (wn S) f := by
      intro f
      have k5 : ∀ x, cnq (mB all) f x = cnq (wn S) f x := fun x => cnq_cg f x eM
      constructor
      · rintro ⟨h1, h2⟩
        refine ⟨fun q hq hw => h1 q hq (by rw [eM q hq]; exact hw), fun x x0 x1 => ?_⟩
        have z := h2 x x0 x1
        rw [k5] at z
        unfold capA at z
        rw [if_pos ⟨x0, x1⟩] at z
        split at z <;> omega
      · rintro ⟨h1, h2⟩
        refine ⟨fun q hq hw => h1 q hq (by rw [← eM q hq]; exact hw), fun x x0 x1 => ?_⟩
        have z := h2 x x0 x1
        have y := cnq_in (wn S) f x
        rw [k5]
        unfold capA
        rw [if_pos ⟨x0, x1⟩]
        split <;> omega
    have kk : keepC mem m := ⟨fun k i z => hx k i (by omega), hx 93 0 (by decide)⟩
    rcases a with ⟨e, z⟩ | ⟨f, z1, z2, z3⟩
    · have q := h (-6) m (Or.inl ⟨rfl, fun f y => z f ((ev f).mpr y)⟩) kk
      refine smAt [9999] 60 rfl ?_
      repeat' first
        | refine And.intro ?_ ?_
        | intro _
      all_goals try omega
      exact q
    · have z4 := cst_in (S := S) (M := mB all) (f := f) ho.2.1 (fun q hq hm => (sub all e0 hall q hq hm).2) z1.1
      have q := h (m 113 all) m (Or.inr ⟨f, (ev f).mp z1, by rw [z2]; exact (cst_cg f (fun j hj => (eM j hj).symm)).symm, fun g hg => by rw [cst_cg g (fun j hj => (eM j hj).symm)]; exact z3 g ((ev g).mpr hg)⟩) kk
      refine smAt [9999] 60 rfl ?_
      repeat' first
        | refine And.intro ?_ ?_
        | intro _
      all_goals try omega
      exact q
  have places : ∀ (f : Nat) (p : Int) (m : smM) (x3 x4 : Option smV), p + f = S 0 0 → 0 ≤ p → (∀ k i, k ≠ 113 → m k i = mem k i) → (∀ T, 0 ≤ T → T < 32 → smAnd T (smXor all (-1)) = 0 → mnA S (capA S p 0) (mB T) (m 113 T)) → (∀ T, 0 ≤ T → T < 32 → ¬ smAnd T (smXor all (-1)) = 0 → m 113 T = 1000000) → smWp 96 46 [some (oR 10 0), some (.inl all), some (.inl p), x3, x4] [] m Post := by
    intro f
    induction f with
    | zero =>
      intro p m x3 x4 hf p0 hx hA hB
      have kP : m 2 0 = S 0 0 := (kw m hx).1.1
      refine smAt [46, 80, 104, 9999] 60 rfl ?_
      repeat' first
        | refine And.intro ?_ ?_
        | intro _
      all_goals try omega
      rw [show p = S 0 0 by omega] at hA ⊢
      exact fin m _ _ _ hx hA
    | succ f ih =>
      intro p m x3 x4 hf p0 hx hA hB
      have kP : m 2 0 = S 0 0 := (kw m hx).1.1
      have k4 : m 4 p = S 2 p := ((kw m hx).1.2.2.2.1 p p0 (by omega)).2.1
      have g2 := op p p0 (by omega)
      refine smAt [46, 80, 104, 9999] 60 rfl ?_
      repeat' first
        | refine And.intro ?_ ?_
        | intro _
      all_goals try omega
      rw [k4]
      have g := stones p ⟨p0, by omega⟩ (if S 2 p < 5 then S 2 p else 5) rfl (fun m2 y3 y4 hx2 hA2 hB2 => ih (p + 1) m2 y3 y4 (by omega) (by omega) hx2 hA2 hB2) (if S 2 p < 5 then S 2 p else 5).toNat 0 m (by split <;> omega) (by omega) hx hA hB
      have e : (if 5 < S 2 p then 5 else S 2 p) = (if S 2 p < 5 then S 2 p else 5) := by
        repeat' split
        all_goals omega
      rw [← e] at g
      exact g
  have first : ∀ (f : Nat) (j : Int) (m : smM), j + f = 32 → 0 ≤ j → (∀ k i, k ≠ 113 → m k i = mem k i) → (∀ T, 0 ≤ T → T < j → m 113 T = if T = 0 then 0 else 1000000) → smWp 96 13 [some (oR 10 0), some (.inl all), some (.inl j), none, none] [] m Post := by
    intro f
    induction f with
    | zero =>
      intro j m hf j0 hx hz
      refine smAt [18, 9999] 60 rfl ?_
      refine sm_alen96 ?_
      refine smAt [13, 46, 9999] 60 rfl ?_
      repeat' first
        | refine And.intro ?_ ?_
        | intro _
      all_goals try omega
      refine places (S 0 0).toNat 0 m _ _ (by omega) (by omega) hx (fun T t0 t1 hT => ?_) (fun T t0 t1 hT => ?_)
      · rw [hz T t0 (by omega)]
        by_cases e : T = 0
        · rw [if_pos e]
          right
          have z0 : ∀ q : Nat, mB T q = false := by
            intro q
            by_cases c : mB T q = true
            · have := mB_1.mp c
              rw [e] at this
              exact absurd this.2 (bB_00 q (by omega) (by omega))
            · simpa using c
          have cz : ∀ g, cst S (mB T) g = 0 := by
            intro g
            unfold cst
            simp [sQ, z0]
          refine ⟨fun _ => 0, ⟨fun q hq hm => (by rw [z0 q] at hm; cases hm), fun x x0 x1 => ?_⟩, (cz _).symm, fun g _ => by rw [cz g]; exact Int.le_refl 0⟩
          have c0 : cnq (mB T) (fun _ => 0) x = 0 := by
            unfold cnq
            simp [sQ, z0]
          rw [c0]
          exact capb 0 0 x (by omega) (by omega) (by omega)
        · rw [if_neg e]
          left
          refine ⟨rfl, fun f hf2 => ?_⟩
          -- somebody is in it, and no stone is there
          have ex : ∃ q : Nat, q < 5 ∧ bB T q := by
            refine Classical.byContradiction (fun d => e ?_)
            have d2 : ∀ j : Nat, j < 5 → ¬ bB T j := fun j hj z => d ⟨j, hj, z⟩
            have := (su5 T 0 t0 t1 (by omega) (by omega)).2
            have q1 := this.1.mpr (fun j hj z => absurd z (d2 j hj))
            have q2 := this.2 q1
            omega
          obtain ⟨q, q5, hq⟩ := ex
          have m1 : mB T q = true := mB_1.mpr ⟨q5, hq⟩
          have v1 := hf2.1 q q5 m1
          have v2 := hf2.2 (f q) v1.1 v1.2
          have v3 := sQ_pos (g := fun j => if mB T j = true ∧ f j = f q then 1 else 0) (q := q) 5 (fun j _ => by split <;> omega) q5
          have v4 : (1 : Int) ≤ cnq (mB T) f (f q) := by
            have : (fun j => if mB T j = true ∧ f j = f q then (1 : Int) else 0) q = 1 := if_pos ⟨m1, rfl⟩
            rw [← this]
            exact v3
          unfold capA at v2
          rw [if_neg (by omega)] at v2
          split at v2 <;> omega
      · rw [hz T t0 (by omega), if_neg]
        intro e
        apply hT
        rw [e]
        exact (su5 0 all (by omega) (by omega) hall.1 hall.2).2.1.mpr (fun j hj z => absurd z (bB_00 j (by omega) (by omega)))
    | succ f ih =>
      intro j m hf j0 hx hz
      have nx : ∀ v, v = (if j = 0 then 0 else 1000000) → smWp 96 13 [some (oR 10 0), some (.inl all), some (.inl (j + 1)), none, none] [] (smU m 113 j v) Post := by
        intro v hv
        refine ih (j + 1) _ (by omega) (by omega) (fun k i z => by rw [smU_ne z]; exact hx k i z) (fun T t0 t1 => ?_)
        by_cases e : T = j
        · rw [e, smU_s]; exact hv
        · rw [smU_d e]; exact hz T t0 (by omega)
      refine smAt [18, 9999] 60 rfl ?_
      refine sm_alen96 ?_
      refine smAt [13, 46, 9999] 60 rfl ?_
      repeat' first
        | refine And.intro ?_ ?_
        | intro _
      all_goals try omega
      · exact nx _ (by rw [if_neg (by omega)])
      · exact nx _ (by rw [if_pos (by omega)])
  refine smAt [13, 9999] 60 rfl ?_
  exact first 32 0 mem (by omega) (by omega) (fun _ _ _ => rfl) (fun T t0 t1 => by omega)
end
