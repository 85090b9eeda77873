/-! one cell changes, and so does S: printed by wip/tools/mk15.py -/
section
variable {mem : smM} {S : sS}
theorem kU_3 {j v : Int} (h : kC mem S) : kC (smU mem 3 j v) (smU S 1 j v) := by
  unfold kC wC wV tV sV at *
  simp only [smU] at *
  grind
theorem kU_4 {j v : Int} (h : kC mem S) : kC (smU mem 4 j v) (smU S 2 j v) := by
  unfold kC wC wV tV sV at *
  simp only [smU] at *
  grind
theorem kU_5 {j v : Int} (h : kC mem S) : kC (smU mem 5 j v) (smU S 3 j v) := by
  unfold kC wC wV tV sV at *
  simp only [smU] at *
  grind
theorem kU_6 {j v : Int} (h : kC mem S) : kC (smU mem 6 j v) (smU S 5 j v) := by
  unfold kC wC wV tV sV at *
  simp only [smU] at *
  grind
theorem kU_7 {j v : Int} (h : kC mem S) : kC (smU mem 7 j v) (smU S 6 j v) := by
  unfold kC wC wV tV sV at *
  simp only [smU] at *
  grind
theorem kU_8 {j v : Int} (h : kC mem S) : kC (smU mem 8 j v) (smU S 7 j v) := by
  unfold kC wC wV tV sV at *
  simp only [smU] at *
  grind
theorem kU_9 {j v : Int} (h : kC mem S) : kC (smU mem 9 j v) (smU S 8 j v) := by
  unfold kC wC wV tV sV at *
  simp only [smU] at *
  grind
theorem kU_17 {j v : Int} (h : kC mem S) : kC (smU mem 17 j v) (smU S 16 j v) := by
  unfold kC wC wV tV sV at *
  simp only [smU] at *
  grind
theorem kU_18 {j v : Int} (h : kC mem S) : kC (smU mem 18 j v) (smU S 17 j v) := by
  unfold kC wC wV tV sV at *
  simp only [smU] at *
  grind
theorem kU_19 {j v : Int} (h : kC mem S) : kC (smU mem 19 j v) (smU S 18 j v) := by
  unfold kC wC wV tV sV at *
  simp only [smU] at *
  grind
theorem kU_20 {j v : Int} (h : kC mem S) : kC (smU mem 20 j v) (smU S 19 j v) := by
  unfold kC wC wV tV sV at *
  simp only [smU] at *
  grind
theorem kU_21 {j v : Int} (h : kC mem S) : kC (smU mem 21 j v) (smU S 20 j v) := by
  unfold kC wC wV tV sV at *
  simp only [smU] at *
  grind
theorem kU_22 {j v : Int} (h : kC mem S) : kC (smU mem 22 j v) (smU S 21 j v) := by
  unfold kC wC wV tV sV at *
  simp only [smU] at *
  grind
theorem kU_24 {j v : Int} (h : kC mem S) : kC (smU mem 24 j v) (smU S 23 j v) := by
  unfold kC wC wV tV sV at *
  simp only [smU] at *
  grind
theorem kU_25 {j v : Int} (h : kC mem S) : kC (smU mem 25 j v) (smU S 24 j v) := by
  unfold kC wC wV tV sV at *
  simp only [smU] at *
  grind
theorem kU_26 {j v : Int} (h : kC mem S) : kC (smU mem 26 j v) (smU S 25 j v) := by
  unfold kC wC wV tV sV at *
  simp only [smU] at *
  grind
theorem kU_2_0 {v : Int} (h : kC mem S) : kC (smU mem 2 0 v) (smU S 0 0 v) := by
  unfold kC wC wV tV sV at *
  simp only [smU] at *
  grind
theorem kU_2_4 {v : Int} (h : kC mem S) : kC (smU mem 2 4 v) (smU S 4 0 v) := by
  unfold kC wC wV tV sV at *
  simp only [smU] at *
  grind
theorem kU_16_0 {v : Int} (h : kC mem S) : kC (smU mem 16 0 v) (smU S 15 0 v) := by
  unfold kC wC wV tV sV at *
  simp only [smU] at *
  grind
theorem kU_23_0 {v : Int} (h : kC mem S) : kC (smU mem 23 0 v) (smU S 22 0 v) := by
  unfold kC wC wV tV sV at *
  simp only [smU] at *
  grind
theorem rU_115 {j v : Int} (h : rC mem S) : rC (smU mem 115 j v) (smU S 1 j v) := by
  unfold rC wR wV tV sV at *
  simp only [smU] at *
  grind
theorem rU_120 {j v : Int} (h : rC mem S) : rC (smU mem 120 j v) (smU S 2 j v) := by
  unfold rC wR wV tV sV at *
  simp only [smU] at *
  grind
theorem rU_121 {j v : Int} (h : rC mem S) : rC (smU mem 121 j v) (smU S 3 j v) := by
  unfold rC wR wV tV sV at *
  simp only [smU] at *
  grind
theorem rU_117 {j v : Int} (h : rC mem S) : rC (smU mem 117 j v) (smU S 5 j v) := by
  unfold rC wR wV tV sV at *
  simp only [smU] at *
  grind
theorem rU_116 {j v : Int} (h : rC mem S) : rC (smU mem 116 j v) (smU S 6 j v) := by
  unfold rC wR wV tV sV at *
  simp only [smU] at *
  grind
theorem rU_118 {j v : Int} (h : rC mem S) : rC (smU mem 118 j v) (smU S 7 j v) := by
  unfold rC wR wV tV sV at *
  simp only [smU] at *
  grind
theorem rU_119 {j v : Int} (h : rC mem S) : rC (smU mem 119 j v) (smU S 8 j v) := by
  unfold rC wR wV tV sV at *
  simp only [smU] at *
  grind
theorem rU_114_0 {v : Int} (h : rC mem S) : rC (smU mem 114 0 v) (smU S 0 0 v) := by
  unfold rC wR wV tV sV at *
  simp only [smU] at *
  grind
theorem rU_114_2 {v : Int} (h : rC mem S) : rC (smU mem 114 2 v) (smU S 4 0 v) := by
  unfold rC wR wV tV sV at *
  simp only [smU] at *
  grind
theorem rU_114_11 {v : Int} (h : rC mem S) : rC (smU mem 114 11 v) (smU S 15 0 v) := by
  unfold rC wR wV tV sV at *
  simp only [smU] at *
  grind
theorem rU_114_13 {v : Int} (h : rC mem S) : rC (smU mem 114 13 v) (smU S 22 0 v) := by
  unfold rC wR wV tV sV at *
  simp only [smU] at *
  grind
theorem rT_0 {j v : Int} (h : rC mem S) : rC (smU mem 123 (6 * j) v) (smU S 18 j v) := by
  obtain ⟨h1, ⟨h2, h3⟩, h4⟩ := h
  refine ⟨h1, ⟨h2, fun i x y => ?_⟩, h4⟩
  have h9 := h3 i x y
  simp only [smU, true_and] at h9 ⊢
  by_cases e : i = j
  · subst e
    simp (disch := omega) only [if_pos, if_neg, if_true, Int.reduceEq, Nat.reduceEqDiff]
    grind
  · grind
theorem rT_1 {j v : Int} (h : rC mem S) : rC (smU mem 123 (6 * j + 1) v) (smU S 19 j v) := by
  obtain ⟨h1, ⟨h2, h3⟩, h4⟩ := h
  refine ⟨h1, ⟨h2, fun i x y => ?_⟩, h4⟩
  have h9 := h3 i x y
  simp only [smU, true_and] at h9 ⊢
  by_cases e : i = j
  · subst e
    simp (disch := omega) only [if_pos, if_neg, if_true, Int.reduceEq, Nat.reduceEqDiff]
    grind
  · grind
theorem rT_2 {j v : Int} (h : rC mem S) : rC (smU mem 123 (6 * j + 2) v) (smU S 20 j v) := by
  obtain ⟨h1, ⟨h2, h3⟩, h4⟩ := h
  refine ⟨h1, ⟨h2, fun i x y => ?_⟩, h4⟩
  have h9 := h3 i x y
  simp only [smU, true_and] at h9 ⊢
  by_cases e : i = j
  · subst e
    simp (disch := omega) only [if_pos, if_neg, if_true, Int.reduceEq, Nat.reduceEqDiff]
    grind
  · grind
theorem rT_3 {j v : Int} (h : rC mem S) : rC (smU mem 123 (6 * j + 3) v) (smU S 21 j v) := by
  obtain ⟨h1, ⟨h2, h3⟩, h4⟩ := h
  refine ⟨h1, ⟨h2, fun i x y => ?_⟩, h4⟩
  have h9 := h3 i x y
  simp only [smU, true_and] at h9 ⊢
  by_cases e : i = j
  · subst e
    simp (disch := omega) only [if_pos, if_neg, if_true, Int.reduceEq, Nat.reduceEqDiff]
    grind
  · grind
theorem rT_4 {j v : Int} (h : rC mem S) : rC (smU mem 123 (6 * j + 4) v) (smU S 16 j v) := by
  obtain ⟨h1, ⟨h2, h3⟩, h4⟩ := h
  refine ⟨h1, ⟨h2, fun i x y => ?_⟩, h4⟩
  have h9 := h3 i x y
  simp only [smU, true_and] at h9 ⊢
  by_cases e : i = j
  · subst e
    simp (disch := omega) only [if_pos, if_neg, if_true, Int.reduceEq, Nat.reduceEqDiff]
    grind
  · grind
theorem rT_5 {j v : Int} (h : rC mem S) : rC (smU mem 123 (6 * j + 5) v) (smU S 17 j v) := by
  obtain ⟨h1, ⟨h2, h3⟩, h4⟩ := h
  refine ⟨h1, ⟨h2, fun i x y => ?_⟩, h4⟩
  have h9 := h3 i x y
  simp only [smU, true_and] at h9 ⊢
  by_cases e : i = j
  · subst e
    simp (disch := omega) only [if_pos, if_neg, if_true, Int.reduceEq, Nat.reduceEqDiff]
    grind
  · grind
theorem rG_0 {j v : Int} (h : rC mem S) : rC (smU mem 124 (3 * j) v) (smU S 23 j v) := by
  obtain ⟨h1, h4, ⟨h2, h3⟩⟩ := h
  refine ⟨h1, h4, ⟨h2, fun i x y => ?_⟩⟩
  have h9 := h3 i x y
  simp only [smU, true_and] at h9 ⊢
  grind
theorem rG_1 {j v : Int} (h : rC mem S) : rC (smU mem 124 (3 * j + 1) v) (smU S 24 j v) := by
  obtain ⟨h1, h4, ⟨h2, h3⟩⟩ := h
  refine ⟨h1, h4, ⟨h2, fun i x y => ?_⟩⟩
  have h9 := h3 i x y
  simp only [smU, true_and] at h9 ⊢
  grind
theorem rG_2 {j v : Int} (h : rC mem S) : rC (smU mem 124 (3 * j + 2) v) (smU S 25 j v) := by
  obtain ⟨h1, h4, ⟨h2, h3⟩⟩ := h
  refine ⟨h1, h4, ⟨h2, fun i x y => ?_⟩⟩
  have h9 := h3 i x y
  simp only [smU, true_and] at h9 ⊢
  grind
end
