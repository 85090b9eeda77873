/-! pure words, and the leaves of the class and of the reference -/
theorem smIR_toI (x : Int32) : smIR x.toInt := ⟨Int32.le_toInt x, by have := Int32.toInt_lt x; omega⟩
theorem smIR_and (a b : Int) : smIR (smAnd a b) := smIR_toI _
theorem smIR_or (a b : Int) : smIR (smOr a b) := smIR_toI _
theorem smIR_xor (a b : Int) : smIR (smXor a b) := smIR_toI _
theorem smIR_shl (a b : Int) : smIR (smShl a b) := smIR_toI _
theorem smIR_shr (a b : Int) : smIR (smShr a b) := smIR_toI _
/-- finite things of whole numbers -/
theorem fin1 {P : Int → Prop} (n : Nat) (h : ∀ a : Nat, a < n → P (a : Int)) : ∀ a : Int, 0 ≤ a → a < n → P a := by
  intro a h0 h1
  obtain ⟨k, rfl⟩ := Int.eq_ofNat_of_zero_le h0
  exact h k (by omega)
theorem fin2 {P : Int → Int → Prop} (n m : Nat) (h : ∀ a : Nat, a < n → ∀ b : Nat, b < m → P (a : Int) (b : Int)) : ∀ a b : Int, 0 ≤ a → a < n → 0 ≤ b → b < m → P a b := by
  intro a b h0 h1 h2 h3
  obtain ⟨k, rfl⟩ := Int.eq_ofNat_of_zero_le h0
  obtain ⟨j, rfl⟩ := Int.eq_ofNat_of_zero_le h2
  exact h k (by omega) j (by omega)
def fNx (p w n : Int) : Int := if w = 0 then (if p + 1 < n then p + 1 else 0) else (if 0 < p then p - 1 else n - 1)
def fH (k r t : Int) : Int := if k < r - k then (if k < t then k else t) else (if r - k < t then r - k else t)
def fLow (h : Int) : Prop := h = 1 ∨ h = 2
abbrev bB (s k : Int) : Prop := smAnd (smShr s k) 1 = 1
theorem and1 (x : Int) : smAnd x 1 = 0 ∨ smAnd x 1 = 1 := by
  have h := pk_and (Int32.ofInt x) (m := 1) 1 (by decide)
  have h2 : Int32.ofInt 1 = 1 := rfl
  unfold smAnd
  rw [h2, h]
  rcases Nat.mod_two_eq_zero_or_one ((Int32.ofInt x).toBitVec.toNat) with q | q
  · left; rw [show (2 : Nat) ^ 1 = 2 from rfl, q]; rfl
  · right; rw [show (2 : Nat) ^ 1 = 2 from rfl, q]; rfl
theorem bB_n0 {s k : Int} (h : ¬ smAnd (smShr s k) 1 = 0) : bB s k := (and1 _).resolve_left h
theorem bB_0 {s k : Int} (h : smAnd (smShr s k) 1 = 0) : ¬ bB s k := fun h2 => by unfold bB at h2; omega
theorem or_lt32 : ∀ s q : Int, 0 ≤ s → s < (32 : Nat) → 0 ≤ q → q < (5 : Nat) → 0 ≤ smOr s (smShl 1 q) ∧ smOr s (smShl 1 q) < 32 := fin2 32 5 (by decide +kernel)
theorem clr_lt32 : ∀ s q : Int, 0 ≤ s → s < (32 : Nat) → 0 ≤ q → q < (5 : Nat) → 0 ≤ smAnd s (smXor (smShl 1 q) (-1)) ∧ smAnd s (smXor (smShl 1 q) (-1)) < 32 := fin2 32 5 (by decide +kernel)
theorem or_bB32 : ∀ s q : Int, 0 ≤ s → s < (32 : Nat) → 0 ≤ q → q < (5 : Nat) → ∀ j : Nat, j < 5 → (smAnd (smShr (smOr s (smShl 1 q)) (j : Int)) 1 = 1 ↔ smAnd (smShr s (j : Int)) 1 = 1 ∨ (j : Int) = q) := fin2 32 5 (by decide +kernel)
theorem clr_bB32 : ∀ s q : Int, 0 ≤ s → s < (32 : Nat) → 0 ≤ q → q < (5 : Nat) → ∀ j : Nat, j < 5 → (smAnd (smShr (smAnd s (smXor (smShl 1 q) (-1))) (j : Int)) 1 = 1 ↔ smAnd (smShr s (j : Int)) 1 = 1 ∧ ¬ (j : Int) = q) := fin2 32 5 (by decide +kernel)
theorem bB_00 : ∀ j : Int, 0 ≤ j → j < (5 : Nat) → ¬ smAnd (smShr 0 j) 1 = 1 := fin1 5 (by decide +kernel)
theorem or_lt64 : ∀ s q : Int, 0 ≤ s → s < (64 : Nat) → 0 ≤ q → q < (6 : Nat) → 0 ≤ smOr s (smShl 1 q) ∧ smOr s (smShl 1 q) < 64 := fin2 64 6 (by decide +kernel)
theorem clr_lt64 : ∀ s q : Int, 0 ≤ s → s < (64 : Nat) → 0 ≤ q → q < (6 : Nat) → 0 ≤ smAnd s (smXor (smShl 1 q) (-1)) ∧ smAnd s (smXor (smShl 1 q) (-1)) < 64 := fin2 64 6 (by decide +kernel)
theorem or_bB64 : ∀ s q : Int, 0 ≤ s → s < (64 : Nat) → 0 ≤ q → q < (6 : Nat) → ∀ j : Nat, j < 6 → (smAnd (smShr (smOr s (smShl 1 q)) (j : Int)) 1 = 1 ↔ smAnd (smShr s (j : Int)) 1 = 1 ∨ (j : Int) = q) := fin2 64 6 (by decide +kernel)
theorem clr_bB64 : ∀ s q : Int, 0 ≤ s → s < (64 : Nat) → 0 ≤ q → q < (6 : Nat) → ∀ j : Nat, j < 6 → (smAnd (smShr (smAnd s (smXor (smShl 1 q) (-1))) (j : Int)) 1 = 1 ↔ smAnd (smShr s (j : Int)) 1 = 1 ∧ ¬ (j : Int) = q) := fin2 64 6 (by decide +kernel)
theorem bB_006 : ∀ j : Int, 0 ≤ j → j < (6 : Nat) → ¬ smAnd (smShr 0 j) 1 = 1 := fin1 6 (by decide +kernel)
/-- how many bits, of the first nine -/
def fPc (s : Int) : Int := smAnd (smShr s 0) 1 + smAnd (smShr s 1) 1 + smAnd (smShr s 2) 1 + smAnd (smShr s 3) 1 + smAnd (smShr s 4) 1 + smAnd (smShr s 5) 1 + smAnd (smShr s 6) 1 + smAnd (smShr s 7) 1 + smAnd (smShr s 8) 1
abbrev oR (c : Nat) (o : Nat) : smV := .inr (.inl (.inl c, o))
abbrev iV (x : Int) : smV := .inl x
abbrev aR (n : Nat) (o : Nat) : smV := .inr (.inl (.inr (false, n), o))
