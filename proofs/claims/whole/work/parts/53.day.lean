/-! the day: stones as a list -/
abbrev St : Type := Int × Int × Int × Int × Int
def cL (f : St → Bool) : List St → Int
  | [] => 0
  | x :: l => (if f x = true then 1 else 0) + cL f l
theorem cL_app (f : St → Bool) : ∀ a b : List St, cL f (a ++ b) = cL f a + cL f b
  | [], b => by simp [cL]
  | x :: a, b => by
    simp only [List.cons_append, cL]
    rw [cL_app f a b]
    omega
theorem cL_in (f : St → Bool) : ∀ l : List St, 0 ≤ cL f l ∧ cL f l ≤ l.length
  | [] => ⟨Int.le_refl 0, Int.le_refl 0⟩
  | x :: l => by
    have := cL_in f l
    simp only [cL, List.length_cons]
    split <;> omega
theorem cL_flt (f g : St → Bool) : ∀ l : List St, cL f (l.filter g) = cL (fun x => g x && f x) l
  | [] => rfl
  | x :: l => by
    have ih := cL_flt f g l
    simp only [cL]
    by_cases h : g x = true
    · rw [List.filter_cons_of_pos h]
      simp only [cL, ih, h, Bool.true_and]
    · have h' : g x = false := by simpa using h
      rw [List.filter_cons_of_neg h, ih]
      simp [h']
theorem cL_cg {f g : St → Bool} : ∀ l : List St, (∀ x ∈ l, f x = g x) → cL f l = cL g l
  | [], _ => rfl
  | x :: l, h => by
    simp only [cL]
    rw [h x List.mem_cons_self, cL_cg l (fun y hy => h y (List.mem_cons_of_mem _ hy))]
theorem tk_s {l : List St} {i : Nat} {x : St} (h : l[i]? = some x) : l.take (i + 1) = l.take i ++ [x] := by
  rw [List.take_add_one, h]
  rfl
theorem cL_tk (f : St → Bool) {l : List St} {i : Nat} {x : St} (h : l[i]? = some x) : cL f (l.take (i + 1)) = cL f (l.take i) + if f x = true then 1 else 0 := by
  rw [tk_s h, cL_app]
  simp [cL]
theorem ft_tk (g : St → Bool) {l : List St} {i : Nat} {x : St} (h : l[i]? = some x) : (l.take (i + 1)).filter g = (l.take i).filter g ++ if g x = true then [x] else [] := by
  rw [tk_s h, List.filter_append]
  congr 1
  split
  · next c => rw [List.filter_cons_of_pos c]; rfl
  · next c => rw [List.filter_cons_of_neg c]; rfl
theorem cL_1 (f : St → Bool) : ∀ l : List St, ((∃ (j : Nat) (y : St), l[j]? = some y ∧ f y = true) ↔ 1 ≤ cL f l)
  | [] => ⟨fun ⟨j, y, h, _⟩ => by simp at h, fun h => absurd h (by show ¬ (1 : Int) ≤ 0; decide)⟩
  | a :: l => by
    have ih := cL_1 f l
    have b := cL_in f l
    simp only [cL]
    constructor
    · rintro ⟨j, y, h1, h2⟩
      cases j with
      | zero =>
        simp at h1
        subst h1
        rw [if_pos h2]; omega
      | succ j =>
        simp at h1
        have := ih.mp ⟨j, y, h1, h2⟩
        split <;> omega
    · intro h
      by_cases c : f a = true
      · exact ⟨0, a, rfl, c⟩
      · rw [if_neg c] at h
        obtain ⟨j, y, h1, h2⟩ := ih.mpr (by omega)
        exact ⟨j + 1, y, by simpa using h1, h2⟩
theorem cL_2 (f : St → Bool) : ∀ (l : List St) (i : Nat) (x : St), l[i]? = some x → f x = true → ((∃ (j : Nat) (y : St), j ≠ i ∧ l[j]? = some y ∧ f y = true) ↔ 2 ≤ cL f l)
  | [], i, x, h, _ => by simp at h
  | a :: l, 0, x, h, hx => by
    have e : a = x := by simpa using h
    subst e
    have i1 := cL_1 f l
    simp only [cL]
    rw [if_pos hx]
    constructor
    · rintro ⟨j, y, h0, h1, h2⟩
      cases j with
      | zero => exact absurd rfl h0
      | succ j =>
        have := i1.mp ⟨j, y, by simpa using h1, h2⟩
        omega
    · intro g
      obtain ⟨j, y, h1, h2⟩ := i1.mpr (by omega)
      exact ⟨j + 1, y, by omega, by simpa using h1, h2⟩
  | a :: l, i + 1, x, h, hx => by
    have h' : l[i]? = some x := by simpa using h
    have ih := cL_2 f l i x h' hx
    have i1 := (cL_1 f l).mp ⟨i, x, h', hx⟩
    simp only [cL]
    by_cases c : f a = true
    · rw [if_pos c]
      exact ⟨fun _ => by omega, fun _ => ⟨0, a, by omega, rfl, c⟩⟩
    · rw [if_neg c]
      constructor
      · rintro ⟨j, y, h0, h1, h2⟩
        cases j with
        | zero =>
          simp at h1
          subst h1
          exact absurd h2 c
        | succ j =>
          have := ih.mp ⟨j, y, by omega, by simpa using h1, h2⟩
          omega
      · intro g
        obtain ⟨j, y, h0, h1, h2⟩ := ih.mpr (by omega)
        exact ⟨j + 1, y, by omega, by simpa using h1, h2⟩
/-- bits of twelve -/
theorem bB_tbN (s k : Nat) (hs : s < 2 ^ 31) (hk : k < 32) : bB (s : Int) (k : Int) ↔ s.testBit k = true := by
  have hsm : ∀ k : Nat, k < 32 → ((Int32.ofInt (k : Int) &&& 31).toBitVec.smod 32).toNat = k := by decide
  have e : smShr (s : Int) (k : Int) = ((s / 2 ^ k : Nat) : Int) := by
    unfold smShr
    rw [pk_shr _ _ k (hsm k hk), smIR_toInt ⟨by omega, by omega⟩, Int.shiftRight_eq_div_pow]
    rfl
  have l : s / 2 ^ k ≤ s := Nat.div_le_self _ _
  unfold bB
  rw [e, Nat.testBit_eq_decide_div_mod_eq, decide_eq_true_eq]
  clear e
  generalize s / 2 ^ k = d at *
  rw [(and_k ⟨by omega, by omega⟩).1]
  omega
theorem shN : ∀ q : Nat, q < 12 → smShl 1 (q : Int) = ((2 ^ q : Nat) : Int) := by decide
theorem or_12 {s : Int} {q : Nat} (hs : 0 ≤ s ∧ s < 4096) (hq : q < 12) : (0 ≤ smOr s (smShl 1 q) ∧ smOr s (smShl 1 q) < 4096) ∧ ∀ j : Nat, j < 12 → (bB (smOr s (smShl 1 q)) j ↔ bB s j ∨ j = q) := by
  obtain ⟨x, rfl⟩ := Int.eq_ofNat_of_zero_le hs.1
  have p : 2 ^ q < 2 ^ 12 := Nat.pow_lt_pow_right (by decide) hq
  have o : x ||| 2 ^ q < 2 ^ 12 := Nat.or_lt_two_pow (by omega) p
  rw [shN q hq, nOr x (2 ^ q) (by omega) (by omega)]
  refine ⟨by omega, fun j hj => ?_⟩
  rw [bB_tbN _ _ (by omega) (by omega), bB_tbN _ _ (by omega) (by omega), Nat.testBit_or, Nat.testBit_two_pow, Bool.or_eq_true, decide_eq_true_eq]
  refine or_congr Iff.rfl ⟨fun z => z.symm, fun z => z.symm⟩
theorem or_0N {s : Int} (hs : 0 ≤ s ∧ s < 4096) : smOr s 0 = s := by
  obtain ⟨x, rfl⟩ := Int.eq_ofNat_of_zero_le hs.1
  have := nOr x 0 (by omega) (by omega)
  rw [Nat.or_zero] at this
  exact this
theorem or_asN {s : Int} {i j : Nat} (hs : 0 ≤ s ∧ s < 4096) (hi : i < 12) (hj : j < 12) : smOr s (smOr (smShl 1 i) (smShl 1 j)) = smOr (smOr s (smShl 1 i)) (smShl 1 j) := by
  obtain ⟨x, rfl⟩ := Int.eq_ofNat_of_zero_le hs.1
  have p : 2 ^ i < 2 ^ 12 := Nat.pow_lt_pow_right (by decide) hi
  have p2 : 2 ^ j < 2 ^ 12 := Nat.pow_lt_pow_right (by decide) hj
  have o : x ||| 2 ^ i < 2 ^ 12 := Nat.or_lt_two_pow (by omega) p
  have o2 : 2 ^ i ||| 2 ^ j < 2 ^ 12 := Nat.or_lt_two_pow p p2
  rw [shN i hi, shN j hj, nOr _ _ (by omega) (by omega), nOr _ _ (by omega) (by omega), nOr _ _ (by omega) (by omega), nOr _ _ (by omega) (by omega), Nat.or_assoc]
theorem bB_012 (j : Nat) (hj : j < 12) : ¬ bB 0 j := by
  have := bB_tbN 0 j (by omega) (by omega)
  rw [Nat.zero_testBit] at this
  intro z
  have z2 := this.mp z
  cases z2
/-- a stone -/
def sHt (x : St) : Int := fH x.2.2.2.2 x.2.2.1 x.2.2.2.1
def sMv (n : Int) (x : St) : St := (fNx x.1 x.2.1 n, x.2.1, x.2.2.1, x.2.2.2.1, x.2.2.2.2 + 1)
def inH (S : sS) (x : St) : Bool := decide (sHt x < S 1 x.1)
def ctc (S : sS) (x : St) : Int := if sHt x = 1 ∨ sHt x = 2 then wh S x.1 else -6
def kp1 (S : sS) (x : St) : Bool := !(inH S x) && decide (ctc S x = -6)
def sme (x y : St) : Bool := decide (y.1 = x.1 ∧ sHt y = sHt x)
def fll (K : List St) (x : St) : Bool := decide (sHt x < 1) || decide (2 ≤ cL (sme x) K)
def stOK (n : Int) (x : St) : Prop := (0 ≤ x.1 ∧ x.1 < n) ∧ (x.2.1 = 0 ∨ x.2.1 = 1) ∧ (1 ≤ x.2.2.1 ∧ x.2.2.1 ≤ 36) ∧ (1 ≤ x.2.2.2.1 ∧ x.2.2.2.1 ≤ 5) ∧ (0 ≤ x.2.2.2.2 ∧ x.2.2.2.2 ≤ x.2.2.1)
theorem sHt_in {n : Int} {x : St} (h : stOK n x) : 0 ≤ sHt x ∧ sHt x ≤ 5 := by
  obtain ⟨h1, h2, h3, h4, h5⟩ := h
  exact fH_in (by omega) (by omega)
theorem ctc_in (S : sS) (x : St) : ctc S x = -6 ∨ (0 ≤ ctc S x ∧ ctc S x < 5) := by
  unfold ctc
  split
  · exact wh_in S x.1
  · exact Or.inl rfl
theorem sme_rf (x : St) : sme x x = true := by
  unfold sme
  exact decide_eq_true ⟨rfl, rfl⟩
/-- who falls, by places in the list -/
theorem fll_iff {K : List St} {i : Nat} {x : St} (h : K[i]? = some x) : fll K x = true ↔ (sHt x < 1 ∨ ∃ (j : Nat) (y : St), j ≠ i ∧ K[j]? = some y ∧ (y.1 = x.1 ∧ sHt y = sHt x)) := by
  unfold fll
  rw [Bool.or_eq_true, decide_eq_true_eq, decide_eq_true_eq, ← cL_2 (sme x) K i x h (sme_rf x)]
  refine or_congr Iff.rfl ?_
  constructor
  · rintro ⟨j, y, a, b, c⟩
    exact ⟨j, y, a, b, of_decide_eq_true c⟩
  · rintro ⟨j, y, a, b, c⟩
    exact ⟨j, y, a, b, decide_eq_true c⟩
