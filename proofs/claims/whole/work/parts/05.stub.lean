theorem smMs_len : smMs.length = 178 := sorry
theorem smMd_ok {k : Nat} (h : k < 178) : smMok (smMd k) := sorry
