section LWC
variable {X : lwX} {L : Nat} {xs : Nat → Int32} {i : Int} {mem : smM} {N : Int}
theorem lw_r (x : Int32) : smIR x.toInt := by
  have h1 := x.le_toInt
  have h2 := x.toInt_lt
  constructor
  · simpa using h1
  · have h : (2:Int)^31 = 2147483648 := by decide
    omega
set_option maxHeartbeats 1000000 in
theorem lc_places (C : lwCx X L xs) (hi : 0 ≤ i ∧ i + 8 ≤ L) (hN : N ≤ 900000) (hj : jI N mem) (kk : ∀ m2, jI (N + 1000) m2 → lwW X 1248 i [] m2) : lwW X 180 i [] mem := by
  have h := lw_places (xs (i + 1).toNat).toInt (lw_r _) hN hj
  unfold both at h
  refine lw_ld1 C (by decide +kernel) ?_
  refine lw_arg C (np := 1) 1 hi (by decide) (by decide +kernel) (by decide +kernel) (.inl ⟨1, by decide +kernel, rfl, rfl⟩) (by decide +kernel) (by decide +kernel) ?_
  refine lw_call C (a := 73) (n := 13) (o := 0) (q4 := 376) (as := [xs (i + 1).toNat]) (rest := []) h (by decide) rfl rfl (by decide +kernel) rfl (by decide +kernel) (by decide) (by decide +kernel) (fun v m1 h1 => ?_)
  refine lw_ld2 C (by decide +kernel) ?_
  refine lw_arg C (np := 1) 1 hi (by decide) (by decide +kernel) (by decide +kernel) (.inl ⟨1, by decide +kernel, rfl, rfl⟩) (by decide +kernel) (by decide +kernel) ?_
  refine lw_call C (a := 120) (n := 17) (o := 114) (q4 := 981) (as := [xs (i + 1).toNat]) (rest := (v.map (smCv X.2.2.2.2.2.2.2.2.2.2.2)).toList ++ []) h1 (by decide) rfl rfl (by decide +kernel) rfl (by decide +kernel) (lw_sum _ v) (by decide +kernel) (fun v' m2 h2 => ?_)
  exact lw_eq C h2.1 (off := 1050) (by decide +kernel) (by decide) (kk m2 h2.2)
set_option maxHeartbeats 1000000 in
theorem lc_hedge (C : lwCx X L xs) (hi : 0 ≤ i ∧ i + 8 ≤ L) (hN : N ≤ 900000) (hj : jI N mem) (kk : ∀ m2, jI (N + 1000) m2 → lwW X 1248 i [] m2) : lwW X 203 i [] mem := by
  have h := lw_hedge (xs (i + 1).toNat).toInt (xs (i + 2).toNat).toInt (lw_r _) (lw_r _) hN hj
  unfold both at h
  refine lw_ld1 C (by decide +kernel) ?_
  refine lw_arg C (np := 1) 1 hi (by decide) (by decide +kernel) (by decide +kernel) (.inl ⟨1, by decide +kernel, rfl, rfl⟩) (by decide +kernel) (by decide +kernel) ?_
  refine lw_arg C (np := 1) 2 hi (by decide) (by decide +kernel) (by decide +kernel) (.inl ⟨2, by decide +kernel, rfl, rfl⟩) (by decide +kernel) (by decide +kernel) ?_
  refine lw_call C (a := 74) (n := 18) (o := 0) (q4 := 387) (as := [xs (i + 1).toNat, xs (i + 2).toNat]) (rest := []) h (by decide) rfl rfl (by decide +kernel) rfl (by decide +kernel) (by decide) (by decide +kernel) (fun v m1 h1 => ?_)
  refine lw_ld2 C (by decide +kernel) ?_
  refine lw_arg C (np := 1) 1 hi (by decide) (by decide +kernel) (by decide +kernel) (.inl ⟨1, by decide +kernel, rfl, rfl⟩) (by decide +kernel) (by decide +kernel) ?_
  refine lw_arg C (np := 1) 2 hi (by decide) (by decide +kernel) (by decide +kernel) (.inl ⟨2, by decide +kernel, rfl, rfl⟩) (by decide +kernel) (by decide +kernel) ?_
  refine lw_call C (a := 121) (n := 22) (o := 114) (q4 := 988) (as := [xs (i + 1).toNat, xs (i + 2).toNat]) (rest := (v.map (smCv X.2.2.2.2.2.2.2.2.2.2.2)).toList ++ []) h1 (by decide) rfl rfl (by decide +kernel) rfl (by decide +kernel) (lw_sum _ v) (by decide +kernel) (fun v' m2 h2 => ?_)
  exact lw_eq C h2.1 (off := 1017) (by decide +kernel) (by decide) (kk m2 h2.2)
set_option maxHeartbeats 1000000 in
theorem lc_lay (C : lwCx X L xs) (hi : 0 ≤ i ∧ i + 8 ≤ L) (hN : N ≤ 900000) (hj : jI N mem) (kk : ∀ m2, jI (N + 1000) m2 → lwW X 1248 i [] m2) : lwW X 236 i [] mem := by
  have h := lw_lay (xs (i + 1).toNat).toInt (xs (i + 2).toNat).toInt (lw_r _) (lw_r _) hN hj
  unfold both at h
  refine lw_ld1 C (by decide +kernel) ?_
  refine lw_arg C (np := 1) 1 hi (by decide) (by decide +kernel) (by decide +kernel) (.inl ⟨1, by decide +kernel, rfl, rfl⟩) (by decide +kernel) (by decide +kernel) ?_
  refine lw_arg C (np := 1) 2 hi (by decide) (by decide +kernel) (by decide +kernel) (.inl ⟨2, by decide +kernel, rfl, rfl⟩) (by decide +kernel) (by decide +kernel) ?_
  refine lw_call C (a := 75) (n := 23) (o := 0) (q4 := 396) (as := [xs (i + 1).toNat, xs (i + 2).toNat]) (rest := []) h (by decide) rfl rfl (by decide +kernel) rfl (by decide +kernel) (by decide) (by decide +kernel) (fun v m1 h1 => ?_)
  refine lw_ld2 C (by decide +kernel) ?_
  refine lw_arg C (np := 1) 1 hi (by decide) (by decide +kernel) (by decide +kernel) (.inl ⟨1, by decide +kernel, rfl, rfl⟩) (by decide +kernel) (by decide +kernel) ?_
  refine lw_arg C (np := 1) 2 hi (by decide) (by decide +kernel) (by decide +kernel) (.inl ⟨2, by decide +kernel, rfl, rfl⟩) (by decide +kernel) (by decide +kernel) ?_
  refine lw_call C (a := 122) (n := 26) (o := 114) (q4 := 996) (as := [xs (i + 1).toNat, xs (i + 2).toNat]) (rest := (v.map (smCv X.2.2.2.2.2.2.2.2.2.2.2)).toList ++ []) h1 (by decide) rfl rfl (by decide +kernel) rfl (by decide +kernel) (lw_sum _ v) (by decide +kernel) (fun v' m2 h2 => ?_)
  exact lw_eq C h2.1 (off := 984) (by decide +kernel) (by decide) (kk m2 h2.2)
set_option maxHeartbeats 1000000 in
theorem lc_person (C : lwCx X L xs) (hi : 0 ≤ i ∧ i + 8 ≤ L) (hN : N ≤ 900000) (hj : jI N mem) (kk : ∀ m2, jI (N + 1000) m2 → lwW X 1248 i [] m2) : lwW X 269 i [] mem := by
  have h := lw_person (xs (i + 1).toNat).toInt (xs (i + 2).toNat).toInt (xs (i + 3).toNat).toInt (xs (i + 4).toNat).toInt (lw_r _) (lw_r _) (lw_r _) (lw_r _) hN hj
  unfold both at h
  refine lw_ld1 C (by decide +kernel) ?_
  refine lw_arg C (np := 1) 1 hi (by decide) (by decide +kernel) (by decide +kernel) (.inl ⟨1, by decide +kernel, rfl, rfl⟩) (by decide +kernel) (by decide +kernel) ?_
  refine lw_arg C (np := 1) 2 hi (by decide) (by decide +kernel) (by decide +kernel) (.inl ⟨2, by decide +kernel, rfl, rfl⟩) (by decide +kernel) (by decide +kernel) ?_
  refine lw_arg C (np := 1) 3 hi (by decide) (by decide +kernel) (by decide +kernel) (.inl ⟨3, by decide +kernel, rfl, rfl⟩) (by decide +kernel) (by decide +kernel) ?_
  refine lw_arg C (np := 1) 4 hi (by decide) (by decide +kernel) (by decide +kernel) (.inl ⟨4, by decide +kernel, rfl, rfl⟩) (by decide +kernel) (by decide +kernel) ?_
  refine lw_call C (a := 76) (n := 27) (o := 0) (q4 := 400) (as := [xs (i + 1).toNat, xs (i + 2).toNat, xs (i + 3).toNat, xs (i + 4).toNat]) (rest := []) h (by decide) rfl rfl (by decide +kernel) rfl (by decide +kernel) (by decide) (by decide +kernel) (fun v m1 h1 => ?_)
  refine lw_ld2 C (by decide +kernel) ?_
  refine lw_arg C (np := 1) 1 hi (by decide) (by decide +kernel) (by decide +kernel) (.inl ⟨1, by decide +kernel, rfl, rfl⟩) (by decide +kernel) (by decide +kernel) ?_
  refine lw_arg C (np := 1) 2 hi (by decide) (by decide +kernel) (by decide +kernel) (.inl ⟨2, by decide +kernel, rfl, rfl⟩) (by decide +kernel) (by decide +kernel) ?_
  refine lw_arg C (np := 1) 3 hi (by decide) (by decide +kernel) (by decide +kernel) (.inl ⟨3, by decide +kernel, rfl, rfl⟩) (by decide +kernel) (by decide +kernel) ?_
  refine lw_arg C (np := 1) 4 hi (by decide) (by decide +kernel) (by decide +kernel) (.inl ⟨4, by decide +kernel, rfl, rfl⟩) (by decide +kernel) (by decide +kernel) ?_
  refine lw_call C (a := 123) (n := 31) (o := 114) (q4 := 1000) (as := [xs (i + 1).toNat, xs (i + 2).toNat, xs (i + 3).toNat, xs (i + 4).toNat]) (rest := (v.map (smCv X.2.2.2.2.2.2.2.2.2.2.2)).toList ++ []) h1 (by decide) rfl rfl (by decide +kernel) rfl (by decide +kernel) (lw_sum _ v) (by decide +kernel) (fun v' m2 h2 => ?_)
  exact lw_eq C h2.1 (off := 931) (by decide +kernel) (by decide) (kk m2 h2.2)
set_option maxHeartbeats 1000000 in
theorem lc_leave (C : lwCx X L xs) (hi : 0 ≤ i ∧ i + 8 ≤ L) (hN : N ≤ 900000) (hj : jI N mem) (kk : ∀ m2, jI (N + 1000) m2 → lwW X 1248 i [] m2) : lwW X 322 i [] mem := by
  have h := lw_leave (xs (i + 1).toNat).toInt (lw_r _) hN hj
  unfold both at h
  refine lw_ld1 C (by decide +kernel) ?_
  refine lw_arg C (np := 1) 1 hi (by decide) (by decide +kernel) (by decide +kernel) (.inl ⟨1, by decide +kernel, rfl, rfl⟩) (by decide +kernel) (by decide +kernel) ?_
  refine lw_call C (a := 77) (n := 32) (o := 0) (q4 := 414) (as := [xs (i + 1).toNat]) (rest := []) h (by decide) rfl rfl (by decide +kernel) rfl (by decide +kernel) (by decide) (by decide +kernel) (fun v m1 h1 => ?_)
  refine lw_ld2 C (by decide +kernel) ?_
  refine lw_arg C (np := 1) 1 hi (by decide) (by decide +kernel) (by decide +kernel) (.inl ⟨1, by decide +kernel, rfl, rfl⟩) (by decide +kernel) (by decide +kernel) ?_
  refine lw_call C (a := 124) (n := 35) (o := 114) (q4 := 1007) (as := [xs (i + 1).toNat]) (rest := (v.map (smCv X.2.2.2.2.2.2.2.2.2.2.2)).toList ++ []) h1 (by decide) rfl rfl (by decide +kernel) rfl (by decide +kernel) (lw_sum _ v) (by decide +kernel) (fun v' m2 h2 => ?_)
  exact lw_eq C h2.1 (off := 908) (by decide +kernel) (by decide) (kk m2 h2.2)
set_option maxHeartbeats 1000000 in
theorem lc_say (C : lwCx X L xs) (hi : 0 ≤ i ∧ i + 8 ≤ L) (hN : N ≤ 900000) (hj : jI N mem) (kk : ∀ m2, jI (N + 1000) m2 → lwW X 1248 i [] m2) : lwW X 345 i [] mem := by
  have h := lw_say (xs (i + 1).toNat).toInt (lw_r _) hN hj
  unfold both at h
  refine lw_ld1 C (by decide +kernel) ?_
  refine lw_arg C (np := 1) 1 hi (by decide) (by decide +kernel) (by decide +kernel) (.inl ⟨1, by decide +kernel, rfl, rfl⟩) (by decide +kernel) (by decide +kernel) ?_
  refine lw_call C (a := 78) (n := 36) (o := 0) (q4 := 422) (as := [xs (i + 1).toNat]) (rest := []) h (by decide) rfl rfl (by decide +kernel) rfl (by decide +kernel) (by decide) (by decide +kernel) (fun v m1 h1 => ?_)
  refine lw_ld2 C (by decide +kernel) ?_
  refine lw_arg C (np := 1) 1 hi (by decide) (by decide +kernel) (by decide +kernel) (.inl ⟨1, by decide +kernel, rfl, rfl⟩) (by decide +kernel) (by decide +kernel) ?_
  refine lw_call C (a := 125) (n := 39) (o := 114) (q4 := 1018) (as := [xs (i + 1).toNat]) (rest := (v.map (smCv X.2.2.2.2.2.2.2.2.2.2.2)).toList ++ []) h1 (by decide) rfl rfl (by decide +kernel) rfl (by decide +kernel) (lw_sum _ v) (by decide +kernel) (fun v' m2 h2 => ?_)
  exact lw_eq C h2.1 (off := 885) (by decide +kernel) (by decide) (kk m2 h2.2)
set_option maxHeartbeats 1000000 in
theorem lc_wipe (C : lwCx X L xs) (hi : 0 ≤ i ∧ i + 8 ≤ L) (hN : N ≤ 900000) (hj : jI N mem) (kk : ∀ m2, jI (N + 1000) m2 → lwW X 1248 i [] m2) : lwW X 368 i [] mem := by
  have h := lw_wipe   hN hj
  unfold both at h
  refine lw_ld1 C (by decide +kernel) ?_
  refine lw_call C (a := 79) (n := 40) (o := 0) (q4 := 430) (as := []) (rest := []) h (by decide) rfl rfl (by decide +kernel) rfl (by decide +kernel) (by decide) (by decide +kernel) (fun v m1 h1 => ?_)
  refine lw_ld2 C (by decide +kernel) ?_
  refine lw_call C (a := 126) (n := 44) (o := 114) (q4 := 1022) (as := []) (rest := (v.map (smCv X.2.2.2.2.2.2.2.2.2.2.2)).toList ++ []) h1 (by decide) rfl rfl (by decide +kernel) rfl (by decide +kernel) (lw_sum _ v) (by decide +kernel) (fun v' m2 h2 => ?_)
  exact lw_eq C h2.1 (off := 872) (by decide +kernel) (by decide) (kk m2 h2.2)
set_option maxHeartbeats 1000000 in
theorem lc_fault (C : lwCx X L xs) (hi : 0 ≤ i ∧ i + 8 ≤ L) (hN : N ≤ 900000) (hj : jI N mem) (kk : ∀ m2, jI (N + 1000) m2 → lwW X 1248 i [] m2) : lwW X 381 i [] mem := by
  have h := lw_fault   hN hj
  unfold both at h
  refine lw_ld1 C (by decide +kernel) ?_
  refine lw_call C (a := 80) (n := 45) (o := 0) (q4 := 434) (as := []) (rest := []) h (by decide) rfl rfl (by decide +kernel) rfl (by decide +kernel) (by decide) (by decide +kernel) (fun v m1 h1 => ?_)
  refine lw_ld2 C (by decide +kernel) ?_
  refine lw_call C (a := 128) (n := 48) (o := 114) (q4 := 1026) (as := []) (rest := (v.map (smCv X.2.2.2.2.2.2.2.2.2.2.2)).toList ++ []) h1 (by decide) rfl rfl (by decide +kernel) rfl (by decide +kernel) (lw_sum _ v) (by decide +kernel) (fun v' m2 h2 => ?_)
  exact lw_eq C h2.1 (off := 859) (by decide +kernel) (by decide) (kk m2 h2.2)
set_option maxHeartbeats 1000000 in
theorem lc_judge (C : lwCx X L xs) (hi : 0 ≤ i ∧ i + 8 ≤ L) (hN : N ≤ 900000) (hj : jI N mem) (kk : ∀ m2, jI (N + 1000) m2 → lwW X 1248 i [] m2) : lwW X 394 i [] mem := by
  have h := lw_judge (xs (i + 1).toNat).toInt (lw_r _) hN hj
  unfold both at h
  refine lw_ld1 C (by decide +kernel) ?_
  refine lw_arg C (np := 1) 1 hi (by decide) (by decide +kernel) (by decide +kernel) (.inl ⟨1, by decide +kernel, rfl, rfl⟩) (by decide +kernel) (by decide +kernel) ?_
  refine lw_call C (a := 82) (n := 49) (o := 0) (q4 := 453) (as := [xs (i + 1).toNat]) (rest := []) h (by decide) rfl rfl (by decide +kernel) rfl (by decide +kernel) (by decide) (by decide +kernel) (fun v m1 h1 => ?_)
  refine lw_ld2 C (by decide +kernel) ?_
  refine lw_arg C (np := 1) 1 hi (by decide) (by decide +kernel) (by decide +kernel) (.inl ⟨1, by decide +kernel, rfl, rfl⟩) (by decide +kernel) (by decide +kernel) ?_
  refine lw_call C (a := 140) (n := 52) (o := 114) (q4 := 1034) (as := [xs (i + 1).toNat]) (rest := (v.map (smCv X.2.2.2.2.2.2.2.2.2.2.2)).toList ++ []) h1 (by decide) rfl rfl (by decide +kernel) rfl (by decide +kernel) (lw_sum _ v) (by decide +kernel) (fun v' m2 h2 => ?_)
  exact lw_eq C h2.1 (off := 836) (by decide +kernel) (by decide) (kk m2 h2.2)
set_option maxHeartbeats 1000000 in
theorem lc_done (C : lwCx X L xs) (hi : 0 ≤ i ∧ i + 8 ≤ L) (hN : N ≤ 900000) (hj : jI N mem) (kk : ∀ m2, jI (N + 1000) m2 → lwW X 1248 i [] m2) : lwW X 417 i [] mem := by
  have h := lw_done   hN hj
  unfold both at h
  refine lw_ld1 C (by decide +kernel) ?_
  refine lw_call C (a := 83) (n := 53) (o := 0) (q4 := 547) (as := []) (rest := []) h (by decide) rfl rfl (by decide +kernel) rfl (by decide +kernel) (by decide) (by decide +kernel) (fun v m1 h1 => ?_)
  refine lw_ld2 C (by decide +kernel) ?_
  refine lw_call C (a := 142) (n := 56) (o := 114) (q4 := 1081) (as := []) (rest := (v.map (smCv X.2.2.2.2.2.2.2.2.2.2.2)).toList ++ []) h1 (by decide) rfl rfl (by decide +kernel) rfl (by decide +kernel) (lw_sum _ v) (by decide +kernel) (fun v' m2 h2 => ?_)
  exact lw_eq C h2.1 (off := 823) (by decide +kernel) (by decide) (kk m2 h2.2)
set_option maxHeartbeats 1000000 in
theorem lc_state (C : lwCx X L xs) (hi : 0 ≤ i ∧ i + 8 ≤ L) (hN : N ≤ 900000) (hj : jI N mem) (kk : ∀ m2, jI (N + 1000) m2 → lwW X 1248 i [] m2) : lwW X 430 i [] mem := by
  have h := lw_state (xs (i + 1).toNat).toInt (xs (i + 2).toNat).toInt (lw_r _) (lw_r _) hN hj
  unfold both at h
  refine lw_ld1 C (by decide +kernel) ?_
  refine lw_arg C (np := 1) 1 hi (by decide) (by decide +kernel) (by decide +kernel) (.inl ⟨1, by decide +kernel, rfl, rfl⟩) (by decide +kernel) (by decide +kernel) ?_
  refine lw_arg C (np := 1) 2 hi (by decide) (by decide +kernel) (by decide +kernel) (.inl ⟨2, by decide +kernel, rfl, rfl⟩) (by decide +kernel) (by decide +kernel) ?_
  refine lw_call C (a := 84) (n := 57) (o := 0) (q4 := 551) (as := [xs (i + 1).toNat, xs (i + 2).toNat]) (rest := []) h (by decide) rfl rfl (by decide +kernel) rfl (by decide +kernel) (by decide) (by decide +kernel) (fun v m1 h1 => ?_)
  refine lw_ld2 C (by decide +kernel) ?_
  refine lw_arg C (np := 1) 1 hi (by decide) (by decide +kernel) (by decide +kernel) (.inl ⟨1, by decide +kernel, rfl, rfl⟩) (by decide +kernel) (by decide +kernel) ?_
  refine lw_arg C (np := 1) 2 hi (by decide) (by decide +kernel) (by decide +kernel) (.inl ⟨2, by decide +kernel, rfl, rfl⟩) (by decide +kernel) (by decide +kernel) ?_
  refine lw_call C (a := 143) (n := 60) (o := 114) (q4 := 1089) (as := [xs (i + 1).toNat, xs (i + 2).toNat]) (rest := (v.map (smCv X.2.2.2.2.2.2.2.2.2.2.2)).toList ++ []) h1 (by decide) rfl rfl (by decide +kernel) rfl (by decide +kernel) (lw_sum _ v) (by decide +kernel) (fun v' m2 h2 => ?_)
  exact lw_eq C h2.1 (off := 790) (by decide +kernel) (by decide) (kk m2 h2.2)
set_option maxHeartbeats 1000000 in
theorem lc_behind (C : lwCx X L xs) (hi : 0 ≤ i ∧ i + 8 ≤ L) (hN : N ≤ 900000) (hj : jI N mem) (kk : ∀ m2, jI (N + 1000) m2 → lwW X 1248 i [] m2) : lwW X 463 i [] mem := by
  have h := lw_behind (xs (i + 1).toNat).toInt (xs (i + 2).toNat).toInt (lw_r _) (lw_r _) hN hj
  unfold both at h
  refine lw_ld1 C (by decide +kernel) ?_
  refine lw_arg C (np := 1) 1 hi (by decide) (by decide +kernel) (by decide +kernel) (.inl ⟨1, by decide +kernel, rfl, rfl⟩) (by decide +kernel) (by decide +kernel) ?_
  refine lw_arg C (np := 1) 2 hi (by decide) (by decide +kernel) (by decide +kernel) (.inl ⟨2, by decide +kernel, rfl, rfl⟩) (by decide +kernel) (by decide +kernel) ?_
  refine lw_call C (a := 85) (n := 61) (o := 0) (q4 := 559) (as := [xs (i + 1).toNat, xs (i + 2).toNat]) (rest := []) h (by decide) rfl rfl (by decide +kernel) rfl (by decide +kernel) (by decide) (by decide +kernel) (fun v m1 h1 => ?_)
  refine lw_ld2 C (by decide +kernel) ?_
  refine lw_arg C (np := 1) 1 hi (by decide) (by decide +kernel) (by decide +kernel) (.inl ⟨1, by decide +kernel, rfl, rfl⟩) (by decide +kernel) (by decide +kernel) ?_
  refine lw_arg C (np := 1) 2 hi (by decide) (by decide +kernel) (by decide +kernel) (.inl ⟨2, by decide +kernel, rfl, rfl⟩) (by decide +kernel) (by decide +kernel) ?_
  refine lw_call C (a := 144) (n := 64) (o := 114) (q4 := 1093) (as := [xs (i + 1).toNat, xs (i + 2).toNat]) (rest := (v.map (smCv X.2.2.2.2.2.2.2.2.2.2.2)).toList ++ []) h1 (by decide) rfl rfl (by decide +kernel) rfl (by decide +kernel) (lw_sum _ v) (by decide +kernel) (fun v' m2 h2 => ?_)
  exact lw_eq C h2.1 (off := 757) (by decide +kernel) (by decide) (kk m2 h2.2)
set_option maxHeartbeats 1000000 in
theorem lc_stones (C : lwCx X L xs) (hi : 0 ≤ i ∧ i + 8 ≤ L) (hN : N ≤ 900000) (hj : jI N mem) (kk : ∀ m2, jI (N + 1000) m2 → lwW X 1248 i [] m2) : lwW X 496 i [] mem := by
  have h := lw_stones (xs (i + 1).toNat).toInt (xs (i + 2).toNat).toInt (lw_r _) (lw_r _) hN hj
  unfold both at h
  refine lw_ld1 C (by decide +kernel) ?_
  refine lw_arg C (np := 1) 1 hi (by decide) (by decide +kernel) (by decide +kernel) (.inl ⟨1, by decide +kernel, rfl, rfl⟩) (by decide +kernel) (by decide +kernel) ?_
  refine lw_arg C (np := 1) 2 hi (by decide) (by decide +kernel) (by decide +kernel) (.inl ⟨2, by decide +kernel, rfl, rfl⟩) (by decide +kernel) (by decide +kernel) ?_
  refine lw_call C (a := 86) (n := 65) (o := 0) (q4 := 563) (as := [xs (i + 1).toNat, xs (i + 2).toNat]) (rest := []) h (by decide) rfl rfl (by decide +kernel) rfl (by decide +kernel) (by decide) (by decide +kernel) (fun v m1 h1 => ?_)
  refine lw_ld2 C (by decide +kernel) ?_
  refine lw_arg C (np := 1) 1 hi (by decide) (by decide +kernel) (by decide +kernel) (.inl ⟨1, by decide +kernel, rfl, rfl⟩) (by decide +kernel) (by decide +kernel) ?_
  refine lw_arg C (np := 1) 2 hi (by decide) (by decide +kernel) (by decide +kernel) (.inl ⟨2, by decide +kernel, rfl, rfl⟩) (by decide +kernel) (by decide +kernel) ?_
  refine lw_call C (a := 145) (n := 68) (o := 114) (q4 := 1097) (as := [xs (i + 1).toNat, xs (i + 2).toNat]) (rest := (v.map (smCv X.2.2.2.2.2.2.2.2.2.2.2)).toList ++ []) h1 (by decide) rfl rfl (by decide +kernel) rfl (by decide +kernel) (lw_sum _ v) (by decide +kernel) (fun v' m2 h2 => ?_)
  exact lw_eq C h2.1 (off := 724) (by decide +kernel) (by decide) (kk m2 h2.2)
set_option maxHeartbeats 1000000 in
theorem lc_air (C : lwCx X L xs) (hi : 0 ≤ i ∧ i + 8 ≤ L) (hN : N ≤ 900000) (hj : jI N mem) (kk : ∀ m2, jI (N + 1000) m2 → lwW X 1248 i [] m2) : lwW X 529 i [] mem := by
  have h := lw_air (xs (i + 1).toNat).toInt (lw_r _) hN hj
  unfold both at h
  refine lw_ld1 C (by decide +kernel) ?_
  refine lw_arg C (np := 1) 1 hi (by decide) (by decide +kernel) (by decide +kernel) (.inl ⟨1, by decide +kernel, rfl, rfl⟩) (by decide +kernel) (by decide +kernel) ?_
  refine lw_call C (a := 87) (n := 69) (o := 0) (q4 := 571) (as := [xs (i + 1).toNat]) (rest := []) h (by decide) rfl rfl (by decide +kernel) rfl (by decide +kernel) (by decide) (by decide +kernel) (fun v m1 h1 => ?_)
  refine lw_ld2 C (by decide +kernel) ?_
  refine lw_arg C (np := 1) 1 hi (by decide) (by decide +kernel) (by decide +kernel) (.inl ⟨1, by decide +kernel, rfl, rfl⟩) (by decide +kernel) (by decide +kernel) ?_
  refine lw_call C (a := 146) (n := 72) (o := 114) (q4 := 1101) (as := [xs (i + 1).toNat]) (rest := (v.map (smCv X.2.2.2.2.2.2.2.2.2.2.2)).toList ++ []) h1 (by decide) rfl rfl (by decide +kernel) rfl (by decide +kernel) (lw_sum _ v) (by decide +kernel) (fun v' m2 h2 => ?_)
  exact lw_eq C h2.1 (off := 701) (by decide +kernel) (by decide) (kk m2 h2.2)
set_option maxHeartbeats 1000000 in
theorem lc_flight (C : lwCx X L xs) (hi : 0 ≤ i ∧ i + 8 ≤ L) (hN : N ≤ 900000) (hj : jI N mem) (kk : ∀ m2, jI (N + 1000) m2 → lwW X 1248 i [] m2) : lwW X 552 i [] mem := by
  have h := lw_flight (xs (i + 1).toNat).toInt (xs (i + 2).toNat).toInt (xs (i + 3).toNat).toInt (xs (i + 4).toNat).toInt (xs (i + 5).toNat).toInt (lw_r _) (lw_r _) (lw_r _) (lw_r _) (lw_r _) hN hj
  unfold both at h
  refine lw_ld1 C (by decide +kernel) ?_
  refine lw_arg C (np := 1) 1 hi (by decide) (by decide +kernel) (by decide +kernel) (.inl ⟨1, by decide +kernel, rfl, rfl⟩) (by decide +kernel) (by decide +kernel) ?_
  refine lw_arg C (np := 1) 2 hi (by decide) (by decide +kernel) (by decide +kernel) (.inl ⟨2, by decide +kernel, rfl, rfl⟩) (by decide +kernel) (by decide +kernel) ?_
  refine lw_arg C (np := 1) 3 hi (by decide) (by decide +kernel) (by decide +kernel) (.inl ⟨3, by decide +kernel, rfl, rfl⟩) (by decide +kernel) (by decide +kernel) ?_
  refine lw_arg C (np := 1) 4 hi (by decide) (by decide +kernel) (by decide +kernel) (.inl ⟨4, by decide +kernel, rfl, rfl⟩) (by decide +kernel) (by decide +kernel) ?_
  refine lw_arg C (np := 1) 5 hi (by decide) (by decide +kernel) (by decide +kernel) (.inl ⟨5, by decide +kernel, rfl, rfl⟩) (by decide +kernel) (by decide +kernel) ?_
  refine lw_call C (a := 89) (n := 73) (o := 0) (q4 := 579) (as := [xs (i + 1).toNat, xs (i + 2).toNat, xs (i + 3).toNat, xs (i + 4).toNat, xs (i + 5).toNat]) (rest := []) h (by decide) rfl rfl (by decide +kernel) rfl (by decide +kernel) (by decide) (by decide +kernel) (fun v m1 h1 => ?_)
  refine lw_ld2 C (by decide +kernel) ?_
  refine lw_arg C (np := 1) 1 hi (by decide) (by decide +kernel) (by decide +kernel) (.inl ⟨1, by decide +kernel, rfl, rfl⟩) (by decide +kernel) (by decide +kernel) ?_
  refine lw_arg C (np := 1) 2 hi (by decide) (by decide +kernel) (by decide +kernel) (.inl ⟨2, by decide +kernel, rfl, rfl⟩) (by decide +kernel) (by decide +kernel) ?_
  refine lw_arg C (np := 1) 3 hi (by decide) (by decide +kernel) (by decide +kernel) (.inl ⟨3, by decide +kernel, rfl, rfl⟩) (by decide +kernel) (by decide +kernel) ?_
  refine lw_arg C (np := 1) 4 hi (by decide) (by decide +kernel) (by decide +kernel) (.inl ⟨4, by decide +kernel, rfl, rfl⟩) (by decide +kernel) (by decide +kernel) ?_
  refine lw_arg C (np := 1) 5 hi (by decide) (by decide +kernel) (by decide +kernel) (.inl ⟨5, by decide +kernel, rfl, rfl⟩) (by decide +kernel) (by decide +kernel) ?_
  refine lw_call C (a := 151) (n := 77) (o := 114) (q4 := 1105) (as := [xs (i + 1).toNat, xs (i + 2).toNat, xs (i + 3).toNat, xs (i + 4).toNat, xs (i + 5).toNat]) (rest := (v.map (smCv X.2.2.2.2.2.2.2.2.2.2.2)).toList ++ []) h1 (by decide) rfl rfl (by decide +kernel) rfl (by decide +kernel) (lw_sum _ v) (by decide +kernel) (fun v' m2 h2 => ?_)
  exact lw_eq C h2.1 (off := 638) (by decide +kernel) (by decide) (kk m2 h2.2)
set_option maxHeartbeats 1000000 in
theorem lc_gets (C : lwCx X L xs) (hi : 0 ≤ i ∧ i + 8 ≤ L) (hN : N ≤ 900000) (hj : jI N mem) (kk : ∀ m2, jI (N + 1000) m2 → lwW X 1248 i [] m2) : lwW X 615 i [] mem := by
  have h := lw_gets (xs (i + 1).toNat).toInt (xs (i + 2).toNat).toInt (xs (i + 3).toNat).toInt (lw_r _) (lw_r _) (lw_r _) hN hj
  unfold both at h
  refine lw_ld1 C (by decide +kernel) ?_
  refine lw_arg C (np := 1) 1 hi (by decide) (by decide +kernel) (by decide +kernel) (.inl ⟨1, by decide +kernel, rfl, rfl⟩) (by decide +kernel) (by decide +kernel) ?_
  refine lw_arg C (np := 1) 2 hi (by decide) (by decide +kernel) (by decide +kernel) (.inl ⟨2, by decide +kernel, rfl, rfl⟩) (by decide +kernel) (by decide +kernel) ?_
  refine lw_arg C (np := 1) 3 hi (by decide) (by decide +kernel) (by decide +kernel) (.inl ⟨3, by decide +kernel, rfl, rfl⟩) (by decide +kernel) (by decide +kernel) ?_
  refine lw_call C (a := 90) (n := 78) (o := 0) (q4 := 602) (as := [xs (i + 1).toNat, xs (i + 2).toNat, xs (i + 3).toNat]) (rest := []) h (by decide) rfl rfl (by decide +kernel) rfl (by decide +kernel) (by decide) (by decide +kernel) (fun v m1 h1 => ?_)
  refine lw_ld2 C (by decide +kernel) ?_
  refine lw_arg C (np := 1) 1 hi (by decide) (by decide +kernel) (by decide +kernel) (.inl ⟨1, by decide +kernel, rfl, rfl⟩) (by decide +kernel) (by decide +kernel) ?_
  refine lw_arg C (np := 1) 2 hi (by decide) (by decide +kernel) (by decide +kernel) (.inl ⟨2, by decide +kernel, rfl, rfl⟩) (by decide +kernel) (by decide +kernel) ?_
  refine lw_arg C (np := 1) 3 hi (by decide) (by decide +kernel) (by decide +kernel) (.inl ⟨3, by decide +kernel, rfl, rfl⟩) (by decide +kernel) (by decide +kernel) ?_
  refine lw_call C (a := 152) (n := 82) (o := 114) (q4 := 1124) (as := [xs (i + 1).toNat, xs (i + 2).toNat, xs (i + 3).toNat]) (rest := (v.map (smCv X.2.2.2.2.2.2.2.2.2.2.2)).toList ++ []) h1 (by decide) rfl rfl (by decide +kernel) rfl (by decide +kernel) (lw_sum _ v) (by decide +kernel) (fun v' m2 h2 => ?_)
  exact lw_eq C h2.1 (off := 595) (by decide +kernel) (by decide) (kk m2 h2.2)
set_option maxHeartbeats 1000000 in
theorem lc_round (C : lwCx X L xs) (hi : 0 ≤ i ∧ i + 8 ≤ L) (hN : N ≤ 900000) (hj : jI N mem) (kk : ∀ m2, jI (N + 1000) m2 → lwW X 1248 i [] m2) : lwW X 658 i [] mem := by
  have h := lw_round (xs (i + 1).toNat).toInt (lw_r _) hN hj
  unfold both at h
  refine lw_ld1 C (by decide +kernel) ?_
  refine lw_arg C (np := 1) 1 hi (by decide) (by decide +kernel) (by decide +kernel) (.inl ⟨1, by decide +kernel, rfl, rfl⟩) (by decide +kernel) (by decide +kernel) ?_
  refine lw_call C (a := 93) (n := 83) (o := 0) (q4 := 635) (as := [xs (i + 1).toNat]) (rest := []) h (by decide) rfl rfl (by decide +kernel) rfl (by decide +kernel) (by decide) (by decide +kernel) (fun v m1 h1 => ?_)
  refine lw_ld2 C (by decide +kernel) ?_
  refine lw_arg C (np := 1) 1 hi (by decide) (by decide +kernel) (by decide +kernel) (.inl ⟨1, by decide +kernel, rfl, rfl⟩) (by decide +kernel) (by decide +kernel) ?_
  refine lw_call C (a := 153) (n := 86) (o := 114) (q4 := 1129) (as := [xs (i + 1).toNat]) (rest := (v.map (smCv X.2.2.2.2.2.2.2.2.2.2.2)).toList ++ []) h1 (by decide) rfl rfl (by decide +kernel) rfl (by decide +kernel) (lw_sum _ v) (by decide +kernel) (fun v' m2 h2 => ?_)
  exact lw_eq C h2.1 (off := 572) (by decide +kernel) (by decide) (kk m2 h2.2)
set_option maxHeartbeats 1000000 in
theorem lc_keptOff (C : lwCx X L xs) (hi : 0 ≤ i ∧ i + 8 ≤ L) (hN : N ≤ 900000) (hj : jI N mem) (kk : ∀ m2, jI (N + 1000) m2 → lwW X 1248 i [] m2) : lwW X 681 i [] mem := by
  have h := lw_keptOff (xs (i + 1).toNat).toInt (xs (i + 2).toNat).toInt (xs (i + 3).toNat).toInt (lw_r _) (lw_r _) (lw_r _) hN hj
  unfold both at h
  refine lw_ld1 C (by decide +kernel) ?_
  refine lw_arg C (np := 1) 1 hi (by decide) (by decide +kernel) (by decide +kernel) (.inl ⟨1, by decide +kernel, rfl, rfl⟩) (by decide +kernel) (by decide +kernel) ?_
  refine lw_arg C (np := 1) 2 hi (by decide) (by decide +kernel) (by decide +kernel) (.inl ⟨2, by decide +kernel, rfl, rfl⟩) (by decide +kernel) (by decide +kernel) ?_
  refine lw_arg C (np := 1) 3 hi (by decide) (by decide +kernel) (by decide +kernel) (.inl ⟨3, by decide +kernel, rfl, rfl⟩) (by decide +kernel) (by decide +kernel) ?_
  refine lw_call C (a := 94) (n := 87) (o := 0) (q4 := 648) (as := [xs (i + 1).toNat, xs (i + 2).toNat, xs (i + 3).toNat]) (rest := []) h (by decide) rfl rfl (by decide +kernel) rfl (by decide +kernel) (by decide) (by decide +kernel) (fun v m1 h1 => ?_)
  refine lw_ld2 C (by decide +kernel) ?_
  refine lw_arg C (np := 1) 1 hi (by decide) (by decide +kernel) (by decide +kernel) (.inl ⟨1, by decide +kernel, rfl, rfl⟩) (by decide +kernel) (by decide +kernel) ?_
  refine lw_arg C (np := 1) 2 hi (by decide) (by decide +kernel) (by decide +kernel) (.inl ⟨2, by decide +kernel, rfl, rfl⟩) (by decide +kernel) (by decide +kernel) ?_
  refine lw_arg C (np := 1) 3 hi (by decide) (by decide +kernel) (by decide +kernel) (.inl ⟨3, by decide +kernel, rfl, rfl⟩) (by decide +kernel) (by decide +kernel) ?_
  refine lw_call C (a := 155) (n := 90) (o := 114) (q4 := 1133) (as := [xs (i + 1).toNat, xs (i + 2).toNat, xs (i + 3).toNat]) (rest := (v.map (smCv X.2.2.2.2.2.2.2.2.2.2.2)).toList ++ []) h1 (by decide) rfl rfl (by decide +kernel) rfl (by decide +kernel) (lw_sum _ v) (by decide +kernel) (fun v' m2 h2 => ?_)
  exact lw_eq C h2.1 (off := 529) (by decide +kernel) (by decide) (kk m2 h2.2)
set_option maxHeartbeats 1000000 in
theorem lc_laid (C : lwCx X L xs) (hi : 0 ≤ i ∧ i + 8 ≤ L) (hN : N ≤ 900000) (hj : jI N mem) (kk : ∀ m2, jI (N + 1000) m2 → lwW X 1248 i [] m2) : lwW X 724 i [] mem := by
  have h := lw_laid   hN hj
  unfold both at h
  refine lw_ld1 C (by decide +kernel) ?_
  refine lw_call C (a := 96) (n := 91) (o := 0) (q4 := 656) (as := []) (rest := []) h (by decide) rfl rfl (by decide +kernel) rfl (by decide +kernel) (by decide) (by decide +kernel) (fun v m1 h1 => ?_)
  refine lw_ld2 C (by decide +kernel) ?_
  refine lw_call C (a := 156) (n := 94) (o := 114) (q4 := 1141) (as := []) (rest := (v.map (smCv X.2.2.2.2.2.2.2.2.2.2.2)).toList ++ []) h1 (by decide) rfl rfl (by decide +kernel) rfl (by decide +kernel) (lw_sum _ v) (by decide +kernel) (fun v' m2 h2 => ?_)
  exact lw_eq C h2.1 (off := 516) (by decide +kernel) (by decide) (kk m2 h2.2)
set_option maxHeartbeats 1000000 in
theorem lc_list (C : lwCx X L xs) (hi : 0 ≤ i ∧ i + 8 ≤ L) (hN : N ≤ 900000) (hj : jI N mem) (kk : ∀ m2, jI (N + 1000) m2 → lwW X 1248 i [] m2) : lwW X 737 i [] mem := by
  have h := lw_list (xs (i + 1).toNat).toInt (xs (i + 2).toNat).toInt (xs (i + 3).toNat).toInt (xs (i + 4).toNat).toInt (xs (i + 5).toNat).toInt (xs (i + 6).toNat).toInt (xs (i + 7).toNat).toInt (lw_r _) (lw_r _) (lw_r _) (lw_r _) (lw_r _) (lw_r _) (lw_r _) hN hj
  unfold both at h
  refine lw_ld1 C (by decide +kernel) ?_
  refine lw_arg C (np := 1) 1 hi (by decide) (by decide +kernel) (by decide +kernel) (.inl ⟨1, by decide +kernel, rfl, rfl⟩) (by decide +kernel) (by decide +kernel) ?_
  refine lw_arg C (np := 1) 2 hi (by decide) (by decide +kernel) (by decide +kernel) (.inl ⟨2, by decide +kernel, rfl, rfl⟩) (by decide +kernel) (by decide +kernel) ?_
  refine lw_arg C (np := 1) 3 hi (by decide) (by decide +kernel) (by decide +kernel) (.inl ⟨3, by decide +kernel, rfl, rfl⟩) (by decide +kernel) (by decide +kernel) ?_
  refine lw_arg C (np := 1) 4 hi (by decide) (by decide +kernel) (by decide +kernel) (.inl ⟨4, by decide +kernel, rfl, rfl⟩) (by decide +kernel) (by decide +kernel) ?_
  refine lw_arg C (np := 1) 5 hi (by decide) (by decide +kernel) (by decide +kernel) (.inl ⟨5, by decide +kernel, rfl, rfl⟩) (by decide +kernel) (by decide +kernel) ?_
  refine lw_arg C (np := 2) 6 hi (by decide) (by decide +kernel) (by decide +kernel) (.inr (.inl ⟨6, by decide +kernel, rfl, rfl⟩)) (by decide +kernel) (by decide +kernel) ?_
  refine lw_arg C (np := 2) 7 hi (by decide) (by decide +kernel) (by decide +kernel) (.inr (.inl ⟨7, by decide +kernel, rfl, rfl⟩)) (by decide +kernel) (by decide +kernel) ?_
  refine lw_call C (a := 97) (n := 95) (o := 0) (q4 := 677) (as := [xs (i + 1).toNat, xs (i + 2).toNat, xs (i + 3).toNat, xs (i + 4).toNat, xs (i + 5).toNat, xs (i + 6).toNat, xs (i + 7).toNat]) (rest := []) h (by decide) rfl rfl (by decide +kernel) rfl (by decide +kernel) (by decide) (by decide +kernel) (fun v m1 h1 => ?_)
  refine lw_ld2 C (by decide +kernel) ?_
  refine lw_arg C (np := 1) 1 hi (by decide) (by decide +kernel) (by decide +kernel) (.inl ⟨1, by decide +kernel, rfl, rfl⟩) (by decide +kernel) (by decide +kernel) ?_
  refine lw_arg C (np := 1) 2 hi (by decide) (by decide +kernel) (by decide +kernel) (.inl ⟨2, by decide +kernel, rfl, rfl⟩) (by decide +kernel) (by decide +kernel) ?_
  refine lw_arg C (np := 1) 3 hi (by decide) (by decide +kernel) (by decide +kernel) (.inl ⟨3, by decide +kernel, rfl, rfl⟩) (by decide +kernel) (by decide +kernel) ?_
  refine lw_arg C (np := 1) 4 hi (by decide) (by decide +kernel) (by decide +kernel) (.inl ⟨4, by decide +kernel, rfl, rfl⟩) (by decide +kernel) (by decide +kernel) ?_
  refine lw_arg C (np := 1) 5 hi (by decide) (by decide +kernel) (by decide +kernel) (.inl ⟨5, by decide +kernel, rfl, rfl⟩) (by decide +kernel) (by decide +kernel) ?_
  refine lw_arg C (np := 2) 6 hi (by decide) (by decide +kernel) (by decide +kernel) (.inr (.inl ⟨6, by decide +kernel, rfl, rfl⟩)) (by decide +kernel) (by decide +kernel) ?_
  refine lw_arg C (np := 2) 7 hi (by decide) (by decide +kernel) (by decide +kernel) (.inr (.inl ⟨7, by decide +kernel, rfl, rfl⟩)) (by decide +kernel) (by decide +kernel) ?_
  refine lw_call C (a := 158) (n := 99) (o := 114) (q4 := 1145) (as := [xs (i + 1).toNat, xs (i + 2).toNat, xs (i + 3).toNat, xs (i + 4).toNat, xs (i + 5).toNat, xs (i + 6).toNat, xs (i + 7).toNat]) (rest := (v.map (smCv X.2.2.2.2.2.2.2.2.2.2.2)).toList ++ []) h1 (by decide) rfl rfl (by decide +kernel) rfl (by decide +kernel) (lw_sum _ v) (by decide +kernel) (fun v' m2 h2 => ?_)
  exact lw_eq C h2.1 (off := 429) (by decide +kernel) (by decide) (kk m2 h2.2)
set_option maxHeartbeats 1000000 in
theorem lc_strike (C : lwCx X L xs) (hi : 0 ≤ i ∧ i + 8 ≤ L) (hN : N ≤ 900000) (hj : jI N mem) (kk : ∀ m2, jI (N + 1000) m2 → lwW X 1248 i [] m2) : lwW X 824 i [] mem := by
  have h := lw_strike (xs (i + 1).toNat).toInt (lw_r _) hN hj
  unfold both at h
  refine lw_ld1 C (by decide +kernel) ?_
  refine lw_arg C (np := 1) 1 hi (by decide) (by decide +kernel) (by decide +kernel) (.inl ⟨1, by decide +kernel, rfl, rfl⟩) (by decide +kernel) (by decide +kernel) ?_
  refine lw_call C (a := 98) (n := 100) (o := 0) (q4 := 689) (as := [xs (i + 1).toNat]) (rest := []) h (by decide) rfl rfl (by decide +kernel) rfl (by decide +kernel) (by decide) (by decide +kernel) (fun v m1 h1 => ?_)
  refine lw_ld2 C (by decide +kernel) ?_
  refine lw_arg C (np := 1) 1 hi (by decide) (by decide +kernel) (by decide +kernel) (.inl ⟨1, by decide +kernel, rfl, rfl⟩) (by decide +kernel) (by decide +kernel) ?_
  refine lw_call C (a := 159) (n := 103) (o := 114) (q4 := 1149) (as := [xs (i + 1).toNat]) (rest := (v.map (smCv X.2.2.2.2.2.2.2.2.2.2.2)).toList ++ []) h1 (by decide) rfl rfl (by decide +kernel) rfl (by decide +kernel) (lw_sum _ v) (by decide +kernel) (fun v' m2 h2 => ?_)
  exact lw_eq C h2.1 (off := 406) (by decide +kernel) (by decide) (kk m2 h2.2)
set_option maxHeartbeats 1000000 in
theorem lc_meet (C : lwCx X L xs) (hi : 0 ≤ i ∧ i + 8 ≤ L) (hN : N ≤ 900000) (hj : jI N mem) (kk : ∀ m2, jI (N + 1000) m2 → lwW X 1248 i [] m2) : lwW X 847 i [] mem := by
  have h := lw_meet (xs (i + 1).toNat).toInt (xs (i + 2).toNat).toInt (lw_r _) (lw_r _) hN hj
  unfold both at h
  refine lw_ld1 C (by decide +kernel) ?_
  refine lw_arg C (np := 1) 1 hi (by decide) (by decide +kernel) (by decide +kernel) (.inl ⟨1, by decide +kernel, rfl, rfl⟩) (by decide +kernel) (by decide +kernel) ?_
  refine lw_arg C (np := 1) 2 hi (by decide) (by decide +kernel) (by decide +kernel) (.inl ⟨2, by decide +kernel, rfl, rfl⟩) (by decide +kernel) (by decide +kernel) ?_
  refine lw_call C (a := 99) (n := 104) (o := 0) (q4 := 698) (as := [xs (i + 1).toNat, xs (i + 2).toNat]) (rest := []) h (by decide) rfl rfl (by decide +kernel) rfl (by decide +kernel) (by decide) (by decide +kernel) (fun v m1 h1 => ?_)
  refine lw_ld2 C (by decide +kernel) ?_
  refine lw_arg C (np := 1) 1 hi (by decide) (by decide +kernel) (by decide +kernel) (.inl ⟨1, by decide +kernel, rfl, rfl⟩) (by decide +kernel) (by decide +kernel) ?_
  refine lw_arg C (np := 1) 2 hi (by decide) (by decide +kernel) (by decide +kernel) (.inl ⟨2, by decide +kernel, rfl, rfl⟩) (by decide +kernel) (by decide +kernel) ?_
  refine lw_call C (a := 165) (n := 107) (o := 114) (q4 := 1157) (as := [xs (i + 1).toNat, xs (i + 2).toNat]) (rest := (v.map (smCv X.2.2.2.2.2.2.2.2.2.2.2)).toList ++ []) h1 (by decide) rfl rfl (by decide +kernel) rfl (by decide +kernel) (lw_sum _ v) (by decide +kernel) (fun v' m2 h2 => ?_)
  exact lw_eq C h2.1 (off := 373) (by decide +kernel) (by decide) (kk m2 h2.2)
set_option maxHeartbeats 1000000 in
theorem lc_forbidden (C : lwCx X L xs) (hi : 0 ≤ i ∧ i + 8 ≤ L) (hN : N ≤ 900000) (hj : jI N mem) (kk : ∀ m2, jI (N + 1000) m2 → lwW X 1248 i [] m2) : lwW X 880 i [] mem := by
  have h := lw_forbidden (xs (i + 1).toNat).toInt (lw_r _) hN hj
  unfold both at h
  refine lw_ld1 C (by decide +kernel) ?_
  refine lw_arg C (np := 1) 1 hi (by decide) (by decide +kernel) (by decide +kernel) (.inl ⟨1, by decide +kernel, rfl, rfl⟩) (by decide +kernel) (by decide +kernel) ?_
  refine lw_call C (a := 100) (n := 108) (o := 0) (q4 := 719) (as := [xs (i + 1).toNat]) (rest := []) h (by decide) rfl rfl (by decide +kernel) rfl (by decide +kernel) (by decide) (by decide +kernel) (fun v m1 h1 => ?_)
  refine lw_ld2 C (by decide +kernel) ?_
  refine lw_arg C (np := 1) 1 hi (by decide) (by decide +kernel) (by decide +kernel) (.inl ⟨1, by decide +kernel, rfl, rfl⟩) (by decide +kernel) (by decide +kernel) ?_
  refine lw_call C (a := 166) (n := 111) (o := 114) (q4 := 1181) (as := [xs (i + 1).toNat]) (rest := (v.map (smCv X.2.2.2.2.2.2.2.2.2.2.2)).toList ++ []) h1 (by decide) rfl rfl (by decide +kernel) rfl (by decide +kernel) (lw_sum _ v) (by decide +kernel) (fun v' m2 h2 => ?_)
  exact lw_eq C h2.1 (off := 350) (by decide +kernel) (by decide) (kk m2 h2.2)
set_option maxHeartbeats 1000000 in
theorem lc_duck (C : lwCx X L xs) (hi : 0 ≤ i ∧ i + 8 ≤ L) (hN : N ≤ 900000) (hj : jI N mem) (kk : ∀ m2, jI (N + 1000) m2 → lwW X 1248 i [] m2) : lwW X 903 i [] mem := by
  have h := lw_duck (xs (i + 1).toNat).toInt (xs (i + 2).toNat).toInt (xs (i + 3).toNat).toInt (lw_r _) (lw_r _) (lw_r _) hN hj
  unfold both at h
  refine lw_ld1 C (by decide +kernel) ?_
  refine lw_arg C (np := 1) 1 hi (by decide) (by decide +kernel) (by decide +kernel) (.inl ⟨1, by decide +kernel, rfl, rfl⟩) (by decide +kernel) (by decide +kernel) ?_
  refine lw_arg C (np := 1) 2 hi (by decide) (by decide +kernel) (by decide +kernel) (.inl ⟨2, by decide +kernel, rfl, rfl⟩) (by decide +kernel) (by decide +kernel) ?_
  refine lw_arg C (np := 1) 3 hi (by decide) (by decide +kernel) (by decide +kernel) (.inl ⟨3, by decide +kernel, rfl, rfl⟩) (by decide +kernel) (by decide +kernel) ?_
  refine lw_call C (a := 101) (n := 112) (o := 0) (q4 := 738) (as := [xs (i + 1).toNat, xs (i + 2).toNat, xs (i + 3).toNat]) (rest := []) h (by decide) rfl rfl (by decide +kernel) rfl (by decide +kernel) (by decide) (by decide +kernel) (fun v m1 h1 => ?_)
  refine lw_ld2 C (by decide +kernel) ?_
  refine lw_arg C (np := 1) 1 hi (by decide) (by decide +kernel) (by decide +kernel) (.inl ⟨1, by decide +kernel, rfl, rfl⟩) (by decide +kernel) (by decide +kernel) ?_
  refine lw_arg C (np := 1) 2 hi (by decide) (by decide +kernel) (by decide +kernel) (.inl ⟨2, by decide +kernel, rfl, rfl⟩) (by decide +kernel) (by decide +kernel) ?_
  refine lw_arg C (np := 1) 3 hi (by decide) (by decide +kernel) (by decide +kernel) (.inl ⟨3, by decide +kernel, rfl, rfl⟩) (by decide +kernel) (by decide +kernel) ?_
  refine lw_call C (a := 167) (n := 115) (o := 114) (q4 := 1185) (as := [xs (i + 1).toNat, xs (i + 2).toNat, xs (i + 3).toNat]) (rest := (v.map (smCv X.2.2.2.2.2.2.2.2.2.2.2)).toList ++ []) h1 (by decide) rfl rfl (by decide +kernel) rfl (by decide +kernel) (lw_sum _ v) (by decide +kernel) (fun v' m2 h2 => ?_)
  exact lw_eq C h2.1 (off := 307) (by decide +kernel) (by decide) (kk m2 h2.2)
set_option maxHeartbeats 1000000 in
theorem lc_hands (C : lwCx X L xs) (hi : 0 ≤ i ∧ i + 8 ≤ L) (hN : N ≤ 900000) (hj : jI N mem) (kk : ∀ m2, jI (N + 1000) m2 → lwW X 1248 i [] m2) : lwW X 946 i [] mem := by
  have h := lw_hands (xs (i + 1).toNat).toInt (lw_r _) hN hj
  unfold both at h
  refine lw_ld1 C (by decide +kernel) ?_
  refine lw_arg C (np := 1) 1 hi (by decide) (by decide +kernel) (by decide +kernel) (.inl ⟨1, by decide +kernel, rfl, rfl⟩) (by decide +kernel) (by decide +kernel) ?_
  refine lw_call C (a := 102) (n := 116) (o := 0) (q4 := 762) (as := [xs (i + 1).toNat]) (rest := []) h (by decide) rfl rfl (by decide +kernel) rfl (by decide +kernel) (by decide) (by decide +kernel) (fun v m1 h1 => ?_)
  refine lw_ld2 C (by decide +kernel) ?_
  refine lw_arg C (np := 1) 1 hi (by decide) (by decide +kernel) (by decide +kernel) (.inl ⟨1, by decide +kernel, rfl, rfl⟩) (by decide +kernel) (by decide +kernel) ?_
  refine lw_call C (a := 168) (n := 119) (o := 114) (q4 := 1189) (as := [xs (i + 1).toNat]) (rest := (v.map (smCv X.2.2.2.2.2.2.2.2.2.2.2)).toList ++ []) h1 (by decide) rfl rfl (by decide +kernel) rfl (by decide +kernel) (lw_sum _ v) (by decide +kernel) (fun v' m2 h2 => ?_)
  exact lw_eq C h2.1 (off := 284) (by decide +kernel) (by decide) (kk m2 h2.2)
set_option maxHeartbeats 1000000 in
theorem lc_seen (C : lwCx X L xs) (hi : 0 ≤ i ∧ i + 8 ≤ L) (hN : N ≤ 900000) (hj : jI N mem) (kk : ∀ m2, jI (N + 1000) m2 → lwW X 1248 i [] m2) : lwW X 969 i [] mem := by
  have h := lw_seen (xs (i + 1).toNat).toInt (xs (i + 2).toNat).toInt (xs (i + 3).toNat).toInt (lw_r _) (lw_r _) (lw_r _) hN hj
  unfold both at h
  refine lw_ld1 C (by decide +kernel) ?_
  refine lw_arg C (np := 1) 1 hi (by decide) (by decide +kernel) (by decide +kernel) (.inl ⟨1, by decide +kernel, rfl, rfl⟩) (by decide +kernel) (by decide +kernel) ?_
  refine lw_arg C (np := 1) 2 hi (by decide) (by decide +kernel) (by decide +kernel) (.inl ⟨2, by decide +kernel, rfl, rfl⟩) (by decide +kernel) (by decide +kernel) ?_
  refine lw_arg C (np := 1) 3 hi (by decide) (by decide +kernel) (by decide +kernel) (.inl ⟨3, by decide +kernel, rfl, rfl⟩) (by decide +kernel) (by decide +kernel) ?_
  refine lw_call C (a := 103) (n := 120) (o := 0) (q4 := 779) (as := [xs (i + 1).toNat, xs (i + 2).toNat, xs (i + 3).toNat]) (rest := []) h (by decide) rfl rfl (by decide +kernel) rfl (by decide +kernel) (by decide) (by decide +kernel) (fun v m1 h1 => ?_)
  refine lw_ld2 C (by decide +kernel) ?_
  refine lw_arg C (np := 1) 1 hi (by decide) (by decide +kernel) (by decide +kernel) (.inl ⟨1, by decide +kernel, rfl, rfl⟩) (by decide +kernel) (by decide +kernel) ?_
  refine lw_arg C (np := 1) 2 hi (by decide) (by decide +kernel) (by decide +kernel) (.inl ⟨2, by decide +kernel, rfl, rfl⟩) (by decide +kernel) (by decide +kernel) ?_
  refine lw_arg C (np := 1) 3 hi (by decide) (by decide +kernel) (by decide +kernel) (.inl ⟨3, by decide +kernel, rfl, rfl⟩) (by decide +kernel) (by decide +kernel) ?_
  refine lw_call C (a := 169) (n := 123) (o := 114) (q4 := 1193) (as := [xs (i + 1).toNat, xs (i + 2).toNat, xs (i + 3).toNat]) (rest := (v.map (smCv X.2.2.2.2.2.2.2.2.2.2.2)).toList ++ []) h1 (by decide) rfl rfl (by decide +kernel) rfl (by decide +kernel) (lw_sum _ v) (by decide +kernel) (fun v' m2 h2 => ?_)
  exact lw_eq C h2.1 (off := 241) (by decide +kernel) (by decide) (kk m2 h2.2)
set_option maxHeartbeats 1000000 in
theorem lc_forget (C : lwCx X L xs) (hi : 0 ≤ i ∧ i + 8 ≤ L) (hN : N ≤ 900000) (hj : jI N mem) (kk : ∀ m2, jI (N + 1000) m2 → lwW X 1248 i [] m2) : lwW X 1012 i [] mem := by
  have h := lw_forget   hN hj
  unfold both at h
  refine lw_ld1 C (by decide +kernel) ?_
  refine lw_call C (a := 104) (n := 124) (o := 0) (q4 := 787) (as := []) (rest := []) h (by decide) rfl rfl (by decide +kernel) rfl (by decide +kernel) (by decide) (by decide +kernel) (fun v m1 h1 => ?_)
  refine lw_ld2 C (by decide +kernel) ?_
  refine lw_call C (a := 170) (n := 127) (o := 114) (q4 := 1197) (as := []) (rest := (v.map (smCv X.2.2.2.2.2.2.2.2.2.2.2)).toList ++ []) h1 (by decide) rfl rfl (by decide +kernel) rfl (by decide +kernel) (lw_sum _ v) (by decide +kernel) (fun v' m2 h2 => ?_)
  exact lw_eq C h2.1 (off := 228) (by decide +kernel) (by decide) (kk m2 h2.2)
set_option maxHeartbeats 1000000 in
theorem lc_who (C : lwCx X L xs) (hi : 0 ≤ i ∧ i + 8 ≤ L) (hN : N ≤ 900000) (hj : jI N mem) (kk : ∀ m2, jI (N + 1000) m2 → lwW X 1248 i [] m2) : lwW X 1025 i [] mem := by
  have h := lw_who (xs (i + 1).toNat).toInt (lw_r _) hN hj
  unfold both at h
  refine lw_ld1 C (by decide +kernel) ?_
  refine lw_arg C (np := 1) 1 hi (by decide) (by decide +kernel) (by decide +kernel) (.inl ⟨1, by decide +kernel, rfl, rfl⟩) (by decide +kernel) (by decide +kernel) ?_
  refine lw_call C (a := 107) (n := 128) (o := 0) (q4 := 791) (as := [xs (i + 1).toNat]) (rest := []) h (by decide) rfl rfl (by decide +kernel) rfl (by decide +kernel) (by decide) (by decide +kernel) (fun v m1 h1 => ?_)
  refine lw_ld2 C (by decide +kernel) ?_
  refine lw_arg C (np := 1) 1 hi (by decide) (by decide +kernel) (by decide +kernel) (.inl ⟨1, by decide +kernel, rfl, rfl⟩) (by decide +kernel) (by decide +kernel) ?_
  refine lw_call C (a := 172) (n := 131) (o := 114) (q4 := 1201) (as := [xs (i + 1).toNat]) (rest := (v.map (smCv X.2.2.2.2.2.2.2.2.2.2.2)).toList ++ []) h1 (by decide) rfl rfl (by decide +kernel) rfl (by decide +kernel) (lw_sum _ v) (by decide +kernel) (fun v' m2 h2 => ?_)
  exact lw_eq C h2.1 (off := 205) (by decide +kernel) (by decide) (kk m2 h2.2)
set_option maxHeartbeats 1000000 in
theorem lc_slips (C : lwCx X L xs) (hi : 0 ≤ i ∧ i + 8 ≤ L) (hN : N ≤ 900000) (hj : jI N mem) (kk : ∀ m2, jI (N + 1000) m2 → lwW X 1248 i [] m2) : lwW X 1048 i [] mem := by
  have h := lw_slips (xs (i + 1).toNat).toInt (xs (i + 2).toNat).toInt (xs (i + 3).toNat).toInt (xs (i + 4).toNat).toInt (xs (i + 5).toNat).toInt (xs (i + 6).toNat).toInt (xs (i + 7).toNat).toInt (lw_r _) (lw_r _) (lw_r _) (lw_r _) (lw_r _) (lw_r _) (lw_r _) hN hj
  unfold bothL at h
  refine lw_ld1 C (by decide +kernel) ?_
  refine lw_arg C (np := 1) 1 hi (by decide) (by decide +kernel) (by decide +kernel) (.inl ⟨1, by decide +kernel, rfl, rfl⟩) (by decide +kernel) (by decide +kernel) ?_
  refine lw_arg C (np := 1) 2 hi (by decide) (by decide +kernel) (by decide +kernel) (.inl ⟨2, by decide +kernel, rfl, rfl⟩) (by decide +kernel) (by decide +kernel) ?_
  refine lw_arg C (np := 1) 3 hi (by decide) (by decide +kernel) (by decide +kernel) (.inl ⟨3, by decide +kernel, rfl, rfl⟩) (by decide +kernel) (by decide +kernel) ?_
  refine lw_arg C (np := 1) 4 hi (by decide) (by decide +kernel) (by decide +kernel) (.inl ⟨4, by decide +kernel, rfl, rfl⟩) (by decide +kernel) (by decide +kernel) ?_
  refine lw_arg C (np := 1) 5 hi (by decide) (by decide +kernel) (by decide +kernel) (.inl ⟨5, by decide +kernel, rfl, rfl⟩) (by decide +kernel) (by decide +kernel) ?_
  refine lw_arg C (np := 2) 6 hi (by decide) (by decide +kernel) (by decide +kernel) (.inr (.inl ⟨6, by decide +kernel, rfl, rfl⟩)) (by decide +kernel) (by decide +kernel) ?_
  refine lw_arg C (np := 2) 7 hi (by decide) (by decide +kernel) (by decide +kernel) (.inr (.inl ⟨7, by decide +kernel, rfl, rfl⟩)) (by decide +kernel) (by decide +kernel) ?_
  refine lw_call C (a := 109) (n := 132) (o := 0) (q4 := 812) (as := [xs (i + 1).toNat, xs (i + 2).toNat, xs (i + 3).toNat, xs (i + 4).toNat, xs (i + 5).toNat, xs (i + 6).toNat, xs (i + 7).toNat]) (rest := []) h (by decide) rfl rfl (by decide +kernel) rfl (by decide +kernel) (by decide) (by decide +kernel) (fun v m1 h1 => ?_)
  refine lw_ld2 C (by decide +kernel) ?_
  refine lw_arg C (np := 1) 1 hi (by decide) (by decide +kernel) (by decide +kernel) (.inl ⟨1, by decide +kernel, rfl, rfl⟩) (by decide +kernel) (by decide +kernel) ?_
  refine lw_arg C (np := 1) 2 hi (by decide) (by decide +kernel) (by decide +kernel) (.inl ⟨2, by decide +kernel, rfl, rfl⟩) (by decide +kernel) (by decide +kernel) ?_
  refine lw_arg C (np := 1) 3 hi (by decide) (by decide +kernel) (by decide +kernel) (.inl ⟨3, by decide +kernel, rfl, rfl⟩) (by decide +kernel) (by decide +kernel) ?_
  refine lw_arg C (np := 1) 4 hi (by decide) (by decide +kernel) (by decide +kernel) (.inl ⟨4, by decide +kernel, rfl, rfl⟩) (by decide +kernel) (by decide +kernel) ?_
  refine lw_arg C (np := 1) 5 hi (by decide) (by decide +kernel) (by decide +kernel) (.inl ⟨5, by decide +kernel, rfl, rfl⟩) (by decide +kernel) (by decide +kernel) ?_
  refine lw_arg C (np := 2) 6 hi (by decide) (by decide +kernel) (by decide +kernel) (.inr (.inl ⟨6, by decide +kernel, rfl, rfl⟩)) (by decide +kernel) (by decide +kernel) ?_
  refine lw_arg C (np := 2) 7 hi (by decide) (by decide +kernel) (by decide +kernel) (.inr (.inl ⟨7, by decide +kernel, rfl, rfl⟩)) (by decide +kernel) (by decide +kernel) ?_
  refine lw_call C (a := 173) (n := 136) (o := 114) (q4 := 1209) (as := [xs (i + 1).toNat, xs (i + 2).toNat, xs (i + 3).toNat, xs (i + 4).toNat, xs (i + 5).toNat, xs (i + 6).toNat, xs (i + 7).toNat]) (rest := (v.map (smCv X.2.2.2.2.2.2.2.2.2.2.2)).toList ++ []) h1 (by decide) rfl rfl (by decide +kernel) rfl (by decide +kernel) (lw_sum _ v) (by decide +kernel) (fun v' m2 h2 => ?_)
  exact lw_eqL C h2.1 (off := 117) (by decide +kernel) (by decide +kernel) (by decide) (kk m2 h2.2)
set_option maxHeartbeats 1000000 in
theorem lc_year (C : lwCx X L xs) (hi : 0 ≤ i ∧ i + 8 ≤ L) (hN : N ≤ 900000) (hj : jI N mem) (kk : ∀ m2, jI (N + 1000) m2 → lwW X 1248 i [] m2) : lwW X 1136 i [] mem := by
  have h := lw_year (xs (i + 1).toNat).toInt (xs (i + 2).toNat).toInt (xs (i + 3).toNat).toInt (lw_r _) (lw_r _) (lw_r _) hN hj
  unfold both at h
  refine lw_ld1 C (by decide +kernel) ?_
  refine lw_arg C (np := 1) 1 hi (by decide) (by decide +kernel) (by decide +kernel) (.inl ⟨1, by decide +kernel, rfl, rfl⟩) (by decide +kernel) (by decide +kernel) ?_
  refine lw_arg C (np := 1) 2 hi (by decide) (by decide +kernel) (by decide +kernel) (.inl ⟨2, by decide +kernel, rfl, rfl⟩) (by decide +kernel) (by decide +kernel) ?_
  refine lw_arg C (np := 1) 3 hi (by decide) (by decide +kernel) (by decide +kernel) (.inl ⟨3, by decide +kernel, rfl, rfl⟩) (by decide +kernel) (by decide +kernel) ?_
  refine lw_call C (a := 110) (n := 137) (o := 0) (q4 := 822) (as := [xs (i + 1).toNat, xs (i + 2).toNat, xs (i + 3).toNat]) (rest := []) h (by decide) rfl rfl (by decide +kernel) rfl (by decide +kernel) (by decide) (by decide +kernel) (fun v m1 h1 => ?_)
  refine lw_ld2 C (by decide +kernel) ?_
  refine lw_arg C (np := 1) 1 hi (by decide) (by decide +kernel) (by decide +kernel) (.inl ⟨1, by decide +kernel, rfl, rfl⟩) (by decide +kernel) (by decide +kernel) ?_
  refine lw_arg C (np := 1) 2 hi (by decide) (by decide +kernel) (by decide +kernel) (.inl ⟨2, by decide +kernel, rfl, rfl⟩) (by decide +kernel) (by decide +kernel) ?_
  refine lw_arg C (np := 1) 3 hi (by decide) (by decide +kernel) (by decide +kernel) (.inl ⟨3, by decide +kernel, rfl, rfl⟩) (by decide +kernel) (by decide +kernel) ?_
  refine lw_call C (a := 174) (n := 140) (o := 114) (q4 := 1215) (as := [xs (i + 1).toNat, xs (i + 2).toNat, xs (i + 3).toNat]) (rest := (v.map (smCv X.2.2.2.2.2.2.2.2.2.2.2)).toList ++ []) h1 (by decide) rfl rfl (by decide +kernel) rfl (by decide +kernel) (lw_sum _ v) (by decide +kernel) (fun v' m2 h2 => ?_)
  exact lw_eq C h2.1 (off := 74) (by decide +kernel) (by decide) (kk m2 h2.2)
set_option maxHeartbeats 1000000 in
theorem lc_image (C : lwCx X L xs) (hi : 0 ≤ i ∧ i + 8 ≤ L) (hN : N ≤ 900000) (hj : jI N mem) (kk : ∀ m2, jI (N + 1000) m2 → lwW X 1248 i [] m2) : lwW X 1179 i [] mem := by
  have h := lw_image (xs (i + 1).toNat).toInt (lw_r _) hN hj
  unfold both at h
  refine lw_ld1 C (by decide +kernel) ?_
  refine lw_arg C (np := 1) 1 hi (by decide) (by decide +kernel) (by decide +kernel) (.inl ⟨1, by decide +kernel, rfl, rfl⟩) (by decide +kernel) (by decide +kernel) ?_
  refine lw_call C (a := 112) (n := 141) (o := 0) (q4 := 837) (as := [xs (i + 1).toNat]) (rest := []) h (by decide) rfl rfl (by decide +kernel) rfl (by decide +kernel) (by decide) (by decide +kernel) (fun v m1 h1 => ?_)
  refine lw_ld2 C (by decide +kernel) ?_
  refine lw_arg C (np := 1) 1 hi (by decide) (by decide +kernel) (by decide +kernel) (.inl ⟨1, by decide +kernel, rfl, rfl⟩) (by decide +kernel) (by decide +kernel) ?_
  refine lw_call C (a := 175) (n := 144) (o := 114) (q4 := 1220) (as := [xs (i + 1).toNat]) (rest := (v.map (smCv X.2.2.2.2.2.2.2.2.2.2.2)).toList ++ []) h1 (by decide) rfl rfl (by decide +kernel) rfl (by decide +kernel) (lw_sum _ v) (by decide +kernel) (fun v' m2 h2 => ?_)
  exact lw_eq C h2.1 (off := 51) (by decide +kernel) (by decide) (kk m2 h2.2)
set_option maxHeartbeats 1000000 in
theorem lc_restore (C : lwCx X L xs) (hi : 0 ≤ i ∧ i + 8 ≤ L) (hN : N ≤ 900000) (hj : jI N mem) (kk : ∀ m2, jI (N + 1000) m2 → lwW X 1248 i [] m2) : lwW X 1202 i [] mem := by
  have h := lw_restore (xs (i + 1).toNat).toInt (lw_r _) hN hj
  unfold both at h
  refine lw_ld1 C (by decide +kernel) ?_
  refine lw_arg C (np := 1) 1 hi (by decide) (by decide +kernel) (by decide +kernel) (.inl ⟨1, by decide +kernel, rfl, rfl⟩) (by decide +kernel) (by decide +kernel) ?_
  refine lw_call C (a := 113) (n := 145) (o := 0) (q4 := 860) (as := [xs (i + 1).toNat]) (rest := []) h (by decide) rfl rfl (by decide +kernel) rfl (by decide +kernel) (by decide) (by decide +kernel) (fun v m1 h1 => ?_)
  refine lw_ld2 C (by decide +kernel) ?_
  refine lw_arg C (np := 1) 1 hi (by decide) (by decide +kernel) (by decide +kernel) (.inl ⟨1, by decide +kernel, rfl, rfl⟩) (by decide +kernel) (by decide +kernel) ?_
  refine lw_call C (a := 176) (n := 148) (o := 114) (q4 := 1224) (as := [xs (i + 1).toNat]) (rest := (v.map (smCv X.2.2.2.2.2.2.2.2.2.2.2)).toList ++ []) h1 (by decide) rfl rfl (by decide +kernel) rfl (by decide +kernel) (lw_sum _ v) (by decide +kernel) (fun v' m2 h2 => ?_)
  exact lw_eq C h2.1 (off := 28) (by decide +kernel) (by decide) (kk m2 h2.2)
set_option maxHeartbeats 1000000 in
theorem lc_told (C : lwCx X L xs) (hi : 0 ≤ i ∧ i + 8 ≤ L) (hN : N ≤ 900000) (hj : jI N mem) (kk : ∀ m2, jI (N + 1000) m2 → lwW X 1248 i [] m2) : lwW X 1225 i [] mem := by
  have h := lw_told (xs (i + 1).toNat).toInt (lw_r _) hN hj
  unfold both at h
  refine lw_ld1 C (by decide +kernel) ?_
  refine lw_arg C (np := 1) 1 hi (by decide) (by decide +kernel) (by decide +kernel) (.inl ⟨1, by decide +kernel, rfl, rfl⟩) (by decide +kernel) (by decide +kernel) ?_
  refine lw_call C (a := 114) (n := 149) (o := 0) (q4 := 864) (as := [xs (i + 1).toNat]) (rest := []) h (by decide) rfl rfl (by decide +kernel) rfl (by decide +kernel) (by decide) (by decide +kernel) (fun v m1 h1 => ?_)
  refine lw_ld2 C (by decide +kernel) ?_
  refine lw_arg C (np := 1) 1 hi (by decide) (by decide +kernel) (by decide +kernel) (.inl ⟨1, by decide +kernel, rfl, rfl⟩) (by decide +kernel) (by decide +kernel) ?_
  refine lw_call C (a := 177) (n := 152) (o := 114) (q4 := 1228) (as := [xs (i + 1).toNat]) (rest := (v.map (smCv X.2.2.2.2.2.2.2.2.2.2.2)).toList ++ []) h1 (by decide) rfl rfl (by decide +kernel) rfl (by decide +kernel) (lw_sum _ v) (by decide +kernel) (fun v' m2 h2 => ?_)
  exact lw_eq C h2.1 (off := 5) (by decide +kernel) (by decide) (kk m2 h2.2)
def lwO : Array Int := #[147, 170, 203, 236, 289, 312, 335, 348, 361, 384, 397, 430, 463, 496, 519, 582, 625, 648, 691, 704, 791, 814, 847, 870, 913, 936, 979, 992, 1015, 1103, 1146, 1169, 1192]
theorem lc_all (C : lwCx X L xs) (hi : 0 ≤ i ∧ i + 8 ≤ L) (hN : N ≤ 900000) (hj : jI N mem) (kk : ∀ m2, jI (N + 1000) m2 → lwW X 1248 i [] m2) : ∀ n, n < 33 → ∃ t : Nat, lwO[n]? = some ((t : Int) - 33) ∧ lwW X t i [] mem
  | 0, _ => ⟨180, rfl, lc_places C hi hN hj kk⟩
  | 1, _ => ⟨203, rfl, lc_hedge C hi hN hj kk⟩
  | 2, _ => ⟨236, rfl, lc_lay C hi hN hj kk⟩
  | 3, _ => ⟨269, rfl, lc_person C hi hN hj kk⟩
  | 4, _ => ⟨322, rfl, lc_leave C hi hN hj kk⟩
  | 5, _ => ⟨345, rfl, lc_say C hi hN hj kk⟩
  | 6, _ => ⟨368, rfl, lc_wipe C hi hN hj kk⟩
  | 7, _ => ⟨381, rfl, lc_fault C hi hN hj kk⟩
  | 8, _ => ⟨394, rfl, lc_judge C hi hN hj kk⟩
  | 9, _ => ⟨417, rfl, lc_done C hi hN hj kk⟩
  | 10, _ => ⟨430, rfl, lc_state C hi hN hj kk⟩
  | 11, _ => ⟨463, rfl, lc_behind C hi hN hj kk⟩
  | 12, _ => ⟨496, rfl, lc_stones C hi hN hj kk⟩
  | 13, _ => ⟨529, rfl, lc_air C hi hN hj kk⟩
  | 14, _ => ⟨552, rfl, lc_flight C hi hN hj kk⟩
  | 15, _ => ⟨615, rfl, lc_gets C hi hN hj kk⟩
  | 16, _ => ⟨658, rfl, lc_round C hi hN hj kk⟩
  | 17, _ => ⟨681, rfl, lc_keptOff C hi hN hj kk⟩
  | 18, _ => ⟨724, rfl, lc_laid C hi hN hj kk⟩
  | 19, _ => ⟨737, rfl, lc_list C hi hN hj kk⟩
  | 20, _ => ⟨824, rfl, lc_strike C hi hN hj kk⟩
  | 21, _ => ⟨847, rfl, lc_meet C hi hN hj kk⟩
  | 22, _ => ⟨880, rfl, lc_forbidden C hi hN hj kk⟩
  | 23, _ => ⟨903, rfl, lc_duck C hi hN hj kk⟩
  | 24, _ => ⟨946, rfl, lc_hands C hi hN hj kk⟩
  | 25, _ => ⟨969, rfl, lc_seen C hi hN hj kk⟩
  | 26, _ => ⟨1012, rfl, lc_forget C hi hN hj kk⟩
  | 27, _ => ⟨1025, rfl, lc_who C hi hN hj kk⟩
  | 28, _ => ⟨1048, rfl, lc_slips C hi hN hj kk⟩
  | 29, _ => ⟨1136, rfl, lc_year C hi hN hj kk⟩
  | 30, _ => ⟨1179, rfl, lc_image C hi hN hj kk⟩
  | 31, _ => ⟨1202, rfl, lc_restore C hi hN hj kk⟩
  | 32, _ => ⟨1225, rfl, lc_told C hi hN hj kk⟩
  | n + 33, h => absurd h (by omega)
end LWC
