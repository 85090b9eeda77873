/-! sets of the six throws as numbers; who meets whom -/
theorem an_0 : ∀ a b : Int, 0 ≤ a → a < (64 : Nat) → 0 ≤ b → b < (64 : Nat) → (smAnd a b = 0 ↔ ∀ j : Nat, j < 6 → ¬ (smAnd (smShr a (j : Int)) 1 = 1 ∧ smAnd (smShr b (j : Int)) 1 = 1)) := fin2 64 64 (by decide +kernel)
theorem su_0 : ∀ a b : Int, 0 ≤ a → a < (64 : Nat) → 0 ≤ b → b < (64 : Nat) → (smAnd a (smXor b (-1)) = 0 ↔ ∀ j : Nat, j < 6 → smAnd (smShr a (j : Int)) 1 = 1 → smAnd (smShr b (j : Int)) 1 = 1) := fin2 64 64 (by decide +kernel)
theorem df_in : ∀ a b : Int, 0 ≤ a → a < (64 : Nat) → 0 ≤ b → b < (64 : Nat) → 0 ≤ smAnd a (smXor b (-1)) ∧ smAnd a (smXor b (-1)) < 64 := fin2 64 64 (by decide +kernel)
theorem df_bB : ∀ a b : Int, 0 ≤ a → a < (64 : Nat) → 0 ≤ b → b < (64 : Nat) → ∀ j : Nat, j < 6 → (smAnd (smShr (smAnd a (smXor b (-1))) (j : Int)) 1 = 1 ↔ smAnd (smShr a (j : Int)) 1 = 1 ∧ ¬ smAnd (smShr b (j : Int)) 1 = 1) := fin2 64 64 (by decide +kernel)
theorem su_pc : ∀ a b : Int, 0 ≤ a → a < (64 : Nat) → 0 ≤ b → b < (64 : Nat) → smAnd a (smXor b (-1)) = 0 → fPc a ≤ fPc b ∧ (fPc b ≤ fPc a → a = b) := fin2 64 64 (by decide +kernel)
theorem mtP_sy {S : sS} {i j y : Int} (h : mtP S i j y) : mtP S j i y := by
  obtain ⟨k, l, c1, c2, ⟨c3, c4⟩, c5, c6⟩ := h
  exact ⟨l, k, c2, c1, ⟨c3.symm, c4.symm⟩, c6, c5⟩
/-- rows that meet at all meet soon -/
theorem iR_soon {a d b e y : Int} (ha : 0 ≤ a ∧ a ≤ 200) (hb : 0 ≤ b ∧ b ≤ 200) (hd : 0 ≤ d ∧ d ≤ 20) (he : 0 ≤ e ∧ e ≤ 20) (h1 : iR y a d) (h2 : iR y b e) : ∃ x, x ≤ 999 ∧ iR x a d ∧ iR x b e := by
  by_cases cd : d < 1
  · rw [iR_0 cd] at h1
    exact ⟨y, by omega, Or.inl h1, h2⟩
  by_cases ce : e < 1
  · rw [iR_0 ce] at h2
    exact ⟨y, by omega, h1, Or.inl h2⟩
  have d1 : 1 ≤ d := by omega
  have e1 : 1 ≤ e := by omega
  obtain ⟨x0, g1, g2, g3, g4⟩ : ∃ x0, x0 ≤ 250 ∧ b ≤ x0 ∧ iR x0 a d ∧ (x0 = a ∨ x0 - d < b) := by
    by_cases c : b ≤ a
    · exact ⟨a, by omega, c, Or.inl rfl, Or.inl rfl⟩
    · have q1 : (b - a + d - 1) / d * d ≤ b - a + d - 1 := Int.ediv_mul_le _ (by omega)
      have q2 := Int.lt_ediv_add_one_mul_self (b - a + d - 1) (show 0 < d by omega)
      rw [Int.add_mul, Int.one_mul] at q2
      refine ⟨a + (b - a + d - 1) / d * d, by omega, by omega, iR_of d1 (by omega) ?_, by omega⟩
      rw [show a + (b - a + d - 1) / d * d - a = 0 + d * ((b - a + d - 1) / d) by rw [Int.mul_comm]; omega, Int.add_mul_emod_self_left, Int.zero_emod]
  obtain ⟨s, s1, s2⟩ := fc_s d1 g3 g4 h1 (iR_ge h2)
  have m1 := Int.emod_nonneg s (show e ≠ 0 by omega)
  have m2 := Int.emod_lt_of_pos s (show 0 < e by omega)
  have z : (x0 + s % e * d - b) % e = 0 := by
    have e3 := Int.emod_add_mul_ediv s e
    have e2 : x0 + s * d - b = (x0 + s % e * d - b) + e * (s / e * d) := by
      have : s * d = s % e * d + e * (s / e * d) := by
        rw [← Int.mul_assoc, ← Int.add_mul, e3]
      omega
    have w := Int.emod_eq_zero_of_dvd (iR_dvd h2)
    rw [s2, e2, Int.add_mul_emod_self_left] at w
    exact w
  have p1 : 0 ≤ s % e * d := Int.mul_nonneg m1 (by omega)
  have p2 : s % e * d ≤ 20 * 20 := Int.mul_le_mul (by omega) (by omega) (by omega) (by omega)
  have ga := iR_ge g3
  refine ⟨x0 + s % e * d, by omega, iR_of d1 (by omega) ?_, iR_of e1 (by omega) z⟩
  rw [show x0 + s % e * d - a = (x0 - a) + d * (s % e) by rw [Int.mul_comm d]; omega, Int.add_mul_emod_self_left]
  exact Int.emod_eq_zero_of_dvd (iR_dvd g3)
def mE (S : sS) (i j : Int) : Prop := ∃ y, mtP S i j y
theorem mE_sy {S : sS} {i j : Int} : mE S i j ↔ mE S j i := ⟨fun ⟨y, h⟩ => ⟨y, mtP_sy h⟩, fun ⟨y, h⟩ => ⟨y, mtP_sy h⟩⟩
theorem mE_R {S : sS} {i j v : Int} (h : mtR S i j v) : v ≠ -6 ↔ mE S i j := by
  rcases h with ⟨h1, h2, h3, h4⟩ | ⟨h1, h2⟩
  · exact ⟨fun _ => ⟨v, h3⟩, fun _ => by omega⟩
  · exact ⟨fun z => absurd h1 z, fun ⟨y, z⟩ => absurd z (h2 y)⟩
theorem mE_W {N : Int} {S : sS} {i j v : Int} (ho : ok N S) (hi : liB S i) (hj : liB S j) (h : mtW S i j v) : 0 ≤ v ↔ mE S i j := by
  rcases h with ⟨h1, h2, h3, h4⟩ | ⟨h1, h2⟩
  · exact ⟨fun _ => ⟨v, h3⟩, fun _ => h1⟩
  · refine ⟨fun z => by omega, fun ⟨y, k, l, c1, c2, c3, c4, c5⟩ => ?_⟩
    exfalso
    have oi := ok_thr ho hi
    have oj := ok_thr ho hj
    have i1 := lT_in S i
    have i2 := lT_in S j
    obtain ⟨x, x1, x2, x3⟩ := iR_soon (by omega) (by omega) oi.2.2.2 oj.2.2.2 c4 c5
    exact h2 x x1 ⟨k, l, c1, c2, c3, x2, x3⟩
