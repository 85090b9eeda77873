section
variable {mem : smM} {Post : Option smV → smM → Prop} {S : sS}
set_option maxRecDepth 4000 in
theorem ru_tA_36_10 (h : ∀ m : smM, m 36 0 = mem 10 0 → (∀ i, 0 ≤ i → i < 12 → m 37 i = mem 11 i ∧ m 38 i = mem 12 i ∧ m 39 i = mem 13 i ∧ m 40 i = mem 14 i ∧ m 41 i = mem 15 i ∧ m 36 (100 + i) = mem 10 (100 + i)) → (∀ k i, k < 36 ∨ 41 < k → m k i = mem k i) → Post none m) : smRun 11 [oR 1 36, oR 1 10] mem Post := by
  refine smGo [9999] 80 rfl ?_
  repeat' first
    | refine And.intro ?_ ?_
    | intro _
  all_goals try omega
  refine h _ ?_ (fun i x y => ?_) (fun k i x => ?_)
  · simp [smU, smCp, smCv2]
  · have z1 : (100 : Int) ≤ 100 + i ∧ 100 + i < 100 + 12 := by omega
    have z2 : ¬ ((100 : Int) ≤ i) := by omega
    have z3 : ¬ (100 + i = 0) := by omega
    simp [smU, smCp, smCv2, x, y, z1, z2, z3]
    intro zz
    omega
  · simp only [smU, smCp, smCv2]
    rw [if_neg (by omega), if_neg (by omega), if_neg (by omega), if_neg (by omega), if_neg (by omega), if_neg (by omega), if_neg (by omega)]
set_option maxRecDepth 4000 in
theorem ru_tA_62_10 (h : ∀ m : smM, m 62 0 = mem 10 0 → (∀ i, 0 ≤ i → i < 12 → m 63 i = mem 11 i ∧ m 64 i = mem 12 i ∧ m 65 i = mem 13 i ∧ m 66 i = mem 14 i ∧ m 67 i = mem 15 i ∧ m 62 (100 + i) = mem 10 (100 + i)) → (∀ k i, k < 62 ∨ 67 < k → m k i = mem k i) → Post none m) : smRun 11 [oR 1 62, oR 1 10] mem Post := by
  refine smGo [9999] 80 rfl ?_
  repeat' first
    | refine And.intro ?_ ?_
    | intro _
  all_goals try omega
  refine h _ ?_ (fun i x y => ?_) (fun k i x => ?_)
  · simp [smU, smCp, smCv2]
  · have z1 : (100 : Int) ≤ 100 + i ∧ 100 + i < 100 + 12 := by omega
    have z2 : ¬ ((100 : Int) ≤ i) := by omega
    have z3 : ¬ (100 + i = 0) := by omega
    simp [smU, smCp, smCv2, x, y, z1, z2, z3]
    intro zz
    omega
  · simp only [smU, smCp, smCv2]
    rw [if_neg (by omega), if_neg (by omega), if_neg (by omega), if_neg (by omega), if_neg (by omega), if_neg (by omega), if_neg (by omega)]
set_option maxRecDepth 4000 in
theorem ru_tA_10_36 (h : ∀ m : smM, m 10 0 = mem 36 0 → (∀ i, 0 ≤ i → i < 12 → m 11 i = mem 37 i ∧ m 12 i = mem 38 i ∧ m 13 i = mem 39 i ∧ m 14 i = mem 40 i ∧ m 15 i = mem 41 i ∧ m 10 (100 + i) = mem 36 (100 + i)) → (∀ k i, k < 10 ∨ 15 < k → m k i = mem k i) → Post none m) : smRun 11 [oR 1 10, oR 1 36] mem Post := by
  refine smGo [9999] 80 rfl ?_
  repeat' first
    | refine And.intro ?_ ?_
    | intro _
  all_goals try omega
  refine h _ ?_ (fun i x y => ?_) (fun k i x => ?_)
  · simp [smU, smCp, smCv2]
  · have z1 : (100 : Int) ≤ 100 + i ∧ 100 + i < 100 + 12 := by omega
    have z2 : ¬ ((100 : Int) ≤ i) := by omega
    have z3 : ¬ (100 + i = 0) := by omega
    simp [smU, smCp, smCv2, x, y, z1, z2, z3]
    intro zz
    omega
  · simp only [smU, smCp, smCv2]
    rw [if_neg (by omega), if_neg (by omega), if_neg (by omega), if_neg (by omega), if_neg (by omega), if_neg (by omega), if_neg (by omega)]
set_option maxRecDepth 4000 in
theorem ru_tA_10_62 (h : ∀ m : smM, m 10 0 = mem 62 0 → (∀ i, 0 ≤ i → i < 12 → m 11 i = mem 63 i ∧ m 12 i = mem 64 i ∧ m 13 i = mem 65 i ∧ m 14 i = mem 66 i ∧ m 15 i = mem 67 i ∧ m 10 (100 + i) = mem 62 (100 + i)) → (∀ k i, k < 10 ∨ 15 < k → m k i = mem k i) → Post none m) : smRun 11 [oR 1 10, oR 1 62] mem Post := by
  refine smGo [9999] 80 rfl ?_
  repeat' first
    | refine And.intro ?_ ?_
    | intro _
  all_goals try omega
  refine h _ ?_ (fun i x y => ?_) (fun k i x => ?_)
  · simp [smU, smCp, smCv2]
  · have z1 : (100 : Int) ≤ 100 + i ∧ 100 + i < 100 + 12 := by omega
    have z2 : ¬ ((100 : Int) ≤ i) := by omega
    have z3 : ¬ (100 + i = 0) := by omega
    simp [smU, smCp, smCv2, x, y, z1, z2, z3]
    intro zz
    omega
  · simp only [smU, smCp, smCv2]
    rw [if_neg (by omega), if_neg (by omega), if_neg (by omega), if_neg (by omega), if_neg (by omega), if_neg (by omega), if_neg (by omega)]
set_option maxRecDepth 4000 in
theorem ru_tA_87_10 (h : ∀ m : smM, m 87 0 = mem 10 0 → (∀ i, 0 ≤ i → i < 12 → m 88 i = mem 11 i ∧ m 89 i = mem 12 i ∧ m 90 i = mem 13 i ∧ m 91 i = mem 14 i ∧ m 92 i = mem 15 i ∧ m 87 (100 + i) = mem 10 (100 + i)) → (∀ k i, k < 87 ∨ 92 < k → m k i = mem k i) → Post none m) : smRun 11 [oR 1 87, oR 1 10] mem Post := by
  refine smGo [9999] 80 rfl ?_
  repeat' first
    | refine And.intro ?_ ?_
    | intro _
  all_goals try omega
  refine h _ ?_ (fun i x y => ?_) (fun k i x => ?_)
  · simp [smU, smCp, smCv2]
  · have z1 : (100 : Int) ≤ 100 + i ∧ 100 + i < 100 + 12 := by omega
    have z2 : ¬ ((100 : Int) ≤ i) := by omega
    have z3 : ¬ (100 + i = 0) := by omega
    simp [smU, smCp, smCv2, x, y, z1, z2, z3]
    intro zz
    omega
  · simp only [smU, smCp, smCv2]
    rw [if_neg (by omega), if_neg (by omega), if_neg (by omega), if_neg (by omega), if_neg (by omega), if_neg (by omega), if_neg (by omega)]
set_option maxRecDepth 4000 in
theorem ru_tA_10_87 (h : ∀ m : smM, m 10 0 = mem 87 0 → (∀ i, 0 ≤ i → i < 12 → m 11 i = mem 88 i ∧ m 12 i = mem 89 i ∧ m 13 i = mem 90 i ∧ m 14 i = mem 91 i ∧ m 15 i = mem 92 i ∧ m 10 (100 + i) = mem 87 (100 + i)) → (∀ k i, k < 10 ∨ 15 < k → m k i = mem k i) → Post none m) : smRun 11 [oR 1 10, oR 1 87] mem Post := by
  refine smGo [9999] 80 rfl ?_
  repeat' first
    | refine And.intro ?_ ?_
    | intro _
  all_goals try omega
  refine h _ ?_ (fun i x y => ?_) (fun k i x => ?_)
  · simp [smU, smCp, smCv2]
  · have z1 : (100 : Int) ≤ 100 + i ∧ 100 + i < 100 + 12 := by omega
    have z2 : ¬ ((100 : Int) ≤ i) := by omega
    have z3 : ¬ (100 + i = 0) := by omega
    simp [smU, smCp, smCv2, x, y, z1, z2, z3]
    intro zz
    omega
  · simp only [smU, smCp, smCv2]
    rw [if_neg (by omega), if_neg (by omega), if_neg (by omega), if_neg (by omega), if_neg (by omega), if_neg (by omega), if_neg (by omega)]
set_option maxRecDepth 4000 in
theorem ru_tW_28_2 (hv : wV (mem 2 0) (mem 2 4) (mem 10 0) (mem 3) (mem 4) (mem 5) (mem 6) (mem 7) (mem 8) (mem 9) (mem 11) (mem 12) (mem 13) (mem 14) (fun i => aG (mem 10 (100 + i)) (mem 15 i) (mem 13 i) (mem 14 i)) S) (h9 : 0 ≤ S 9 0 ∧ S 9 0 ≤ 12) (h : ∀ m : smM, wV (m 28 0) (m 28 4) (m 36 0) (m 29) (m 30) (m 31) (m 32) (m 33) (m 34) (m 35) (m 37) (m 38) (m 39) (m 40) (fun i => aG (m 36 (100 + i)) (m 41 i) (m 39 i) (m 40 i)) S → (∀ k i, k < 28 ∨ 41 < k → m k i = mem k i) → Post none m) : smRun 21 [oR 9 28, oR 9 2] mem Post := by
  obtain ⟨kP, kT, kN, kp, kq, ki⟩ := hv
  refine smGo [9999] 80 rfl ?_
  repeat' first
    | refine And.intro ?_ ?_
    | intro _
  all_goals try omega
  refine ru_tA_36_10 (fun m g1 g2 g3 => ?_)
  refine h m ⟨?_, ?_, ?_, fun p x y => ?_, fun q x y => ?_, fun i x y => ?_⟩ (fun k i x => ?_)
  · rw [g3 28 0 (by omega)]; simp [smU, smCp]; exact kP
  · rw [g3 28 4 (by omega)]; simp [smU, smCp]; exact kT
  · rw [g1]; simp [smU, smCp]; exact kN
  · rw [g3 29 p (by omega), g3 30 p (by omega), g3 31 p (by omega)]; simp [smU, smCp, x, y]; exact kp p x y
  · rw [g3 32 q (by omega), g3 33 q (by omega), g3 34 q (by omega), g3 35 q (by omega)]; simp [smU, smCp, x, y]; exact kq q x y
  · obtain ⟨z1, z2, z3, z4, z5, z6⟩ := g2 i x (by omega)
    dsimp only
    rw [z1, z2, z3, z4, z5, z6]
    simp [smU, smCp]
    exact ki i x y
  · rw [g3 k i (by omega)]
    simp only [smU, smCp]
    rw [if_neg (by omega), if_neg (by omega), if_neg (by omega), if_neg (by omega), if_neg (by omega), if_neg (by omega), if_neg (by omega), if_neg (by omega), if_neg (by omega)]
set_option maxRecDepth 4000 in
theorem ru_tW_54_2 (hv : wV (mem 2 0) (mem 2 4) (mem 10 0) (mem 3) (mem 4) (mem 5) (mem 6) (mem 7) (mem 8) (mem 9) (mem 11) (mem 12) (mem 13) (mem 14) (fun i => aG (mem 10 (100 + i)) (mem 15 i) (mem 13 i) (mem 14 i)) S) (h9 : 0 ≤ S 9 0 ∧ S 9 0 ≤ 12) (h : ∀ m : smM, wV (m 54 0) (m 54 4) (m 62 0) (m 55) (m 56) (m 57) (m 58) (m 59) (m 60) (m 61) (m 63) (m 64) (m 65) (m 66) (fun i => aG (m 62 (100 + i)) (m 67 i) (m 65 i) (m 66 i)) S → (∀ k i, k < 54 ∨ 67 < k → m k i = mem k i) → Post none m) : smRun 21 [oR 9 54, oR 9 2] mem Post := by
  obtain ⟨kP, kT, kN, kp, kq, ki⟩ := hv
  refine smGo [9999] 80 rfl ?_
  repeat' first
    | refine And.intro ?_ ?_
    | intro _
  all_goals try omega
  refine ru_tA_62_10 (fun m g1 g2 g3 => ?_)
  refine h m ⟨?_, ?_, ?_, fun p x y => ?_, fun q x y => ?_, fun i x y => ?_⟩ (fun k i x => ?_)
  · rw [g3 54 0 (by omega)]; simp [smU, smCp]; exact kP
  · rw [g3 54 4 (by omega)]; simp [smU, smCp]; exact kT
  · rw [g1]; simp [smU, smCp]; exact kN
  · rw [g3 55 p (by omega), g3 56 p (by omega), g3 57 p (by omega)]; simp [smU, smCp, x, y]; exact kp p x y
  · rw [g3 58 q (by omega), g3 59 q (by omega), g3 60 q (by omega), g3 61 q (by omega)]; simp [smU, smCp, x, y]; exact kq q x y
  · obtain ⟨z1, z2, z3, z4, z5, z6⟩ := g2 i x (by omega)
    dsimp only
    rw [z1, z2, z3, z4, z5, z6]
    simp [smU, smCp]
    exact ki i x y
  · rw [g3 k i (by omega)]
    simp only [smU, smCp]
    rw [if_neg (by omega), if_neg (by omega), if_neg (by omega), if_neg (by omega), if_neg (by omega), if_neg (by omega), if_neg (by omega), if_neg (by omega), if_neg (by omega)]
set_option maxRecDepth 4000 in
theorem ru_tW_2_28 (hv : wV (mem 28 0) (mem 28 4) (mem 36 0) (mem 29) (mem 30) (mem 31) (mem 32) (mem 33) (mem 34) (mem 35) (mem 37) (mem 38) (mem 39) (mem 40) (fun i => aG (mem 36 (100 + i)) (mem 41 i) (mem 39 i) (mem 40 i)) S) (h9 : 0 ≤ S 9 0 ∧ S 9 0 ≤ 12) (h : ∀ m : smM, wV (m 2 0) (m 2 4) (m 10 0) (m 3) (m 4) (m 5) (m 6) (m 7) (m 8) (m 9) (m 11) (m 12) (m 13) (m 14) (fun i => aG (m 10 (100 + i)) (m 15 i) (m 13 i) (m 14 i)) S → (∀ k i, k < 2 ∨ 15 < k → m k i = mem k i) → Post none m) : smRun 21 [oR 9 2, oR 9 28] mem Post := by
  obtain ⟨kP, kT, kN, kp, kq, ki⟩ := hv
  refine smGo [9999] 80 rfl ?_
  repeat' first
    | refine And.intro ?_ ?_
    | intro _
  all_goals try omega
  refine ru_tA_10_36 (fun m g1 g2 g3 => ?_)
  refine h m ⟨?_, ?_, ?_, fun p x y => ?_, fun q x y => ?_, fun i x y => ?_⟩ (fun k i x => ?_)
  · rw [g3 2 0 (by omega)]; simp [smU, smCp]; exact kP
  · rw [g3 2 4 (by omega)]; simp [smU, smCp]; exact kT
  · rw [g1]; simp [smU, smCp]; exact kN
  · rw [g3 3 p (by omega), g3 4 p (by omega), g3 5 p (by omega)]; simp [smU, smCp, x, y]; exact kp p x y
  · rw [g3 6 q (by omega), g3 7 q (by omega), g3 8 q (by omega), g3 9 q (by omega)]; simp [smU, smCp, x, y]; exact kq q x y
  · obtain ⟨z1, z2, z3, z4, z5, z6⟩ := g2 i x (by omega)
    dsimp only
    rw [z1, z2, z3, z4, z5, z6]
    simp [smU, smCp]
    exact ki i x y
  · rw [g3 k i (by omega)]
    simp only [smU, smCp]
    rw [if_neg (by omega), if_neg (by omega), if_neg (by omega), if_neg (by omega), if_neg (by omega), if_neg (by omega), if_neg (by omega), if_neg (by omega), if_neg (by omega)]
set_option maxRecDepth 4000 in
theorem ru_tW_2_54 (hv : wV (mem 54 0) (mem 54 4) (mem 62 0) (mem 55) (mem 56) (mem 57) (mem 58) (mem 59) (mem 60) (mem 61) (mem 63) (mem 64) (mem 65) (mem 66) (fun i => aG (mem 62 (100 + i)) (mem 67 i) (mem 65 i) (mem 66 i)) S) (h9 : 0 ≤ S 9 0 ∧ S 9 0 ≤ 12) (h : ∀ m : smM, wV (m 2 0) (m 2 4) (m 10 0) (m 3) (m 4) (m 5) (m 6) (m 7) (m 8) (m 9) (m 11) (m 12) (m 13) (m 14) (fun i => aG (m 10 (100 + i)) (m 15 i) (m 13 i) (m 14 i)) S → (∀ k i, k < 2 ∨ 15 < k → m k i = mem k i) → Post none m) : smRun 21 [oR 9 2, oR 9 54] mem Post := by
  obtain ⟨kP, kT, kN, kp, kq, ki⟩ := hv
  refine smGo [9999] 80 rfl ?_
  repeat' first
    | refine And.intro ?_ ?_
    | intro _
  all_goals try omega
  refine ru_tA_10_62 (fun m g1 g2 g3 => ?_)
  refine h m ⟨?_, ?_, ?_, fun p x y => ?_, fun q x y => ?_, fun i x y => ?_⟩ (fun k i x => ?_)
  · rw [g3 2 0 (by omega)]; simp [smU, smCp]; exact kP
  · rw [g3 2 4 (by omega)]; simp [smU, smCp]; exact kT
  · rw [g1]; simp [smU, smCp]; exact kN
  · rw [g3 3 p (by omega), g3 4 p (by omega), g3 5 p (by omega)]; simp [smU, smCp, x, y]; exact kp p x y
  · rw [g3 6 q (by omega), g3 7 q (by omega), g3 8 q (by omega), g3 9 q (by omega)]; simp [smU, smCp, x, y]; exact kq q x y
  · obtain ⟨z1, z2, z3, z4, z5, z6⟩ := g2 i x (by omega)
    dsimp only
    rw [z1, z2, z3, z4, z5, z6]
    simp [smU, smCp]
    exact ki i x y
  · rw [g3 k i (by omega)]
    simp only [smU, smCp]
    rw [if_neg (by omega), if_neg (by omega), if_neg (by omega), if_neg (by omega), if_neg (by omega), if_neg (by omega), if_neg (by omega), if_neg (by omega), if_neg (by omega)]
set_option maxRecDepth 4000 in
theorem ru_tW_79_2 (hv : wV (mem 2 0) (mem 2 4) (mem 10 0) (mem 3) (mem 4) (mem 5) (mem 6) (mem 7) (mem 8) (mem 9) (mem 11) (mem 12) (mem 13) (mem 14) (fun i => aG (mem 10 (100 + i)) (mem 15 i) (mem 13 i) (mem 14 i)) S) (h9 : 0 ≤ S 9 0 ∧ S 9 0 ≤ 12) (h : ∀ m : smM, wV (m 79 0) (m 79 4) (m 87 0) (m 80) (m 81) (m 82) (m 83) (m 84) (m 85) (m 86) (m 88) (m 89) (m 90) (m 91) (fun i => aG (m 87 (100 + i)) (m 92 i) (m 90 i) (m 91 i)) S → (∀ k i, k < 79 ∨ 92 < k → m k i = mem k i) → Post none m) : smRun 21 [oR 9 79, oR 9 2] mem Post := by
  obtain ⟨kP, kT, kN, kp, kq, ki⟩ := hv
  refine smGo [9999] 80 rfl ?_
  repeat' first
    | refine And.intro ?_ ?_
    | intro _
  all_goals try omega
  refine ru_tA_87_10 (fun m g1 g2 g3 => ?_)
  refine h m ⟨?_, ?_, ?_, fun p x y => ?_, fun q x y => ?_, fun i x y => ?_⟩ (fun k i x => ?_)
  · rw [g3 79 0 (by omega)]; simp [smU, smCp]; exact kP
  · rw [g3 79 4 (by omega)]; simp [smU, smCp]; exact kT
  · rw [g1]; simp [smU, smCp]; exact kN
  · rw [g3 80 p (by omega), g3 81 p (by omega), g3 82 p (by omega)]; simp [smU, smCp, x, y]; exact kp p x y
  · rw [g3 83 q (by omega), g3 84 q (by omega), g3 85 q (by omega), g3 86 q (by omega)]; simp [smU, smCp, x, y]; exact kq q x y
  · obtain ⟨z1, z2, z3, z4, z5, z6⟩ := g2 i x (by omega)
    dsimp only
    rw [z1, z2, z3, z4, z5, z6]
    simp [smU, smCp]
    exact ki i x y
  · rw [g3 k i (by omega)]
    simp only [smU, smCp]
    rw [if_neg (by omega), if_neg (by omega), if_neg (by omega), if_neg (by omega), if_neg (by omega), if_neg (by omega), if_neg (by omega), if_neg (by omega), if_neg (by omega)]
set_option maxRecDepth 4000 in
theorem ru_tW_2_79 (hv : wV (mem 79 0) (mem 79 4) (mem 87 0) (mem 80) (mem 81) (mem 82) (mem 83) (mem 84) (mem 85) (mem 86) (mem 88) (mem 89) (mem 90) (mem 91) (fun i => aG (mem 87 (100 + i)) (mem 92 i) (mem 90 i) (mem 91 i)) S) (h9 : 0 ≤ S 9 0 ∧ S 9 0 ≤ 12) (h : ∀ m : smM, wV (m 2 0) (m 2 4) (m 10 0) (m 3) (m 4) (m 5) (m 6) (m 7) (m 8) (m 9) (m 11) (m 12) (m 13) (m 14) (fun i => aG (m 10 (100 + i)) (m 15 i) (m 13 i) (m 14 i)) S → (∀ k i, k < 2 ∨ 15 < k → m k i = mem k i) → Post none m) : smRun 21 [oR 9 2, oR 9 79] mem Post := by
  obtain ⟨kP, kT, kN, kp, kq, ki⟩ := hv
  refine smGo [9999] 80 rfl ?_
  repeat' first
    | refine And.intro ?_ ?_
    | intro _
  all_goals try omega
  refine ru_tA_10_87 (fun m g1 g2 g3 => ?_)
  refine h m ⟨?_, ?_, ?_, fun p x y => ?_, fun q x y => ?_, fun i x y => ?_⟩ (fun k i x => ?_)
  · rw [g3 2 0 (by omega)]; simp [smU, smCp]; exact kP
  · rw [g3 2 4 (by omega)]; simp [smU, smCp]; exact kT
  · rw [g1]; simp [smU, smCp]; exact kN
  · rw [g3 3 p (by omega), g3 4 p (by omega), g3 5 p (by omega)]; simp [smU, smCp, x, y]; exact kp p x y
  · rw [g3 6 q (by omega), g3 7 q (by omega), g3 8 q (by omega), g3 9 q (by omega)]; simp [smU, smCp, x, y]; exact kq q x y
  · obtain ⟨z1, z2, z3, z4, z5, z6⟩ := g2 i x (by omega)
    dsimp only
    rw [z1, z2, z3, z4, z5, z6]
    simp [smU, smCp]
    exact ki i x y
  · rw [g3 k i (by omega)]
    simp only [smU, smCp]
    rw [if_neg (by omega), if_neg (by omega), if_neg (by omega), if_neg (by omega), if_neg (by omega), if_neg (by omega), if_neg (by omega), if_neg (by omega), if_neg (by omega)]
set_option maxRecDepth 4000 in
theorem ru_tT_42_16 (hv : tV (mem 16 0) (mem 17) (mem 18) (mem 19) (mem 20) (mem 21) (mem 22) S) (h : ∀ m : smM, tV (m 42 0) (m 43) (m 44) (m 45) (m 46) (m 47) (m 48) S → (∀ k i, k < 42 ∨ 48 < k → m k i = mem k i) → Post none m) : smRun 22 [oR 8 42, oR 8 16] mem Post := by
  obtain ⟨kB, kb⟩ := hv
  refine smGo [9999] 80 rfl ?_
  repeat' first
    | refine And.intro ?_ ?_
    | intro _
  all_goals try omega
  refine h _ ⟨?_, fun i x y => ?_⟩ (fun k i x => ?_)
  · simp [smU, smCp]; exact kB
  · simp [smU, smCp, x, y]; exact kb i x y
  · simp only [smU, smCp]
    rw [if_neg (by omega), if_neg (by omega), if_neg (by omega), if_neg (by omega), if_neg (by omega), if_neg (by omega), if_neg (by omega)]
set_option maxRecDepth 4000 in
theorem ru_tT_68_16 (hv : tV (mem 16 0) (mem 17) (mem 18) (mem 19) (mem 20) (mem 21) (mem 22) S) (h : ∀ m : smM, tV (m 68 0) (m 69) (m 70) (m 71) (m 72) (m 73) (m 74) S → (∀ k i, k < 68 ∨ 74 < k → m k i = mem k i) → Post none m) : smRun 22 [oR 8 68, oR 8 16] mem Post := by
  obtain ⟨kB, kb⟩ := hv
  refine smGo [9999] 80 rfl ?_
  repeat' first
    | refine And.intro ?_ ?_
    | intro _
  all_goals try omega
  refine h _ ⟨?_, fun i x y => ?_⟩ (fun k i x => ?_)
  · simp [smU, smCp]; exact kB
  · simp [smU, smCp, x, y]; exact kb i x y
  · simp only [smU, smCp]
    rw [if_neg (by omega), if_neg (by omega), if_neg (by omega), if_neg (by omega), if_neg (by omega), if_neg (by omega), if_neg (by omega)]
set_option maxRecDepth 4000 in
theorem ru_tT_16_42 (hv : tV (mem 42 0) (mem 43) (mem 44) (mem 45) (mem 46) (mem 47) (mem 48) S) (h : ∀ m : smM, tV (m 16 0) (m 17) (m 18) (m 19) (m 20) (m 21) (m 22) S → (∀ k i, k < 16 ∨ 22 < k → m k i = mem k i) → Post none m) : smRun 22 [oR 8 16, oR 8 42] mem Post := by
  obtain ⟨kB, kb⟩ := hv
  refine smGo [9999] 80 rfl ?_
  repeat' first
    | refine And.intro ?_ ?_
    | intro _
  all_goals try omega
  refine h _ ⟨?_, fun i x y => ?_⟩ (fun k i x => ?_)
  · simp [smU, smCp]; exact kB
  · simp [smU, smCp, x, y]; exact kb i x y
  · simp only [smU, smCp]
    rw [if_neg (by omega), if_neg (by omega), if_neg (by omega), if_neg (by omega), if_neg (by omega), if_neg (by omega), if_neg (by omega)]
set_option maxRecDepth 4000 in
theorem ru_tT_16_68 (hv : tV (mem 68 0) (mem 69) (mem 70) (mem 71) (mem 72) (mem 73) (mem 74) S) (h : ∀ m : smM, tV (m 16 0) (m 17) (m 18) (m 19) (m 20) (m 21) (m 22) S → (∀ k i, k < 16 ∨ 22 < k → m k i = mem k i) → Post none m) : smRun 22 [oR 8 16, oR 8 68] mem Post := by
  obtain ⟨kB, kb⟩ := hv
  refine smGo [9999] 80 rfl ?_
  repeat' first
    | refine And.intro ?_ ?_
    | intro _
  all_goals try omega
  refine h _ ⟨?_, fun i x y => ?_⟩ (fun k i x => ?_)
  · simp [smU, smCp]; exact kB
  · simp [smU, smCp, x, y]; exact kb i x y
  · simp only [smU, smCp]
    rw [if_neg (by omega), if_neg (by omega), if_neg (by omega), if_neg (by omega), if_neg (by omega), if_neg (by omega), if_neg (by omega)]
theorem ru_tS_49_23 (hv : sV (mem 23 0) (mem 24) (mem 25) (mem 26) S) (h : ∀ m : smM, sV (m 49 0) (m 50) (m 51) (m 52) S → (∀ k i, k < 49 ∨ 52 < k → m k i = mem k i) → Post none m) : smRun 23 [oR 7 49, oR 7 23] mem Post := by
  obtain ⟨kB, kb⟩ := hv
  refine smGo [9999] 80 rfl ?_
  repeat' first
    | refine And.intro ?_ ?_
    | intro _
  all_goals try omega
  refine h _ ⟨?_, fun i x y => ?_⟩ (fun k i x => ?_)
  · simp [smU, smCp]; exact kB
  · simp [smU, smCp, x, y]; exact kb i x y
  · simp only [smU, smCp]
    rw [if_neg (by omega), if_neg (by omega), if_neg (by omega), if_neg (by omega)]
theorem ru_tS_75_23 (hv : sV (mem 23 0) (mem 24) (mem 25) (mem 26) S) (h : ∀ m : smM, sV (m 75 0) (m 76) (m 77) (m 78) S → (∀ k i, k < 75 ∨ 78 < k → m k i = mem k i) → Post none m) : smRun 23 [oR 7 75, oR 7 23] mem Post := by
  obtain ⟨kB, kb⟩ := hv
  refine smGo [9999] 80 rfl ?_
  repeat' first
    | refine And.intro ?_ ?_
    | intro _
  all_goals try omega
  refine h _ ⟨?_, fun i x y => ?_⟩ (fun k i x => ?_)
  · simp [smU, smCp]; exact kB
  · simp [smU, smCp, x, y]; exact kb i x y
  · simp only [smU, smCp]
    rw [if_neg (by omega), if_neg (by omega), if_neg (by omega), if_neg (by omega)]
theorem ru_tS_23_49 (hv : sV (mem 49 0) (mem 50) (mem 51) (mem 52) S) (h : ∀ m : smM, sV (m 23 0) (m 24) (m 25) (m 26) S → (∀ k i, k < 23 ∨ 26 < k → m k i = mem k i) → Post none m) : smRun 23 [oR 7 23, oR 7 49] mem Post := by
  obtain ⟨kB, kb⟩ := hv
  refine smGo [9999] 80 rfl ?_
  repeat' first
    | refine And.intro ?_ ?_
    | intro _
  all_goals try omega
  refine h _ ⟨?_, fun i x y => ?_⟩ (fun k i x => ?_)
  · simp [smU, smCp]; exact kB
  · simp [smU, smCp, x, y]; exact kb i x y
  · simp only [smU, smCp]
    rw [if_neg (by omega), if_neg (by omega), if_neg (by omega), if_neg (by omega)]
theorem ru_tS_23_75 (hv : sV (mem 75 0) (mem 76) (mem 77) (mem 78) S) (h : ∀ m : smM, sV (m 23 0) (m 24) (m 25) (m 26) S → (∀ k i, k < 23 ∨ 26 < k → m k i = mem k i) → Post none m) : smRun 23 [oR 7 23, oR 7 75] mem Post := by
  obtain ⟨kB, kb⟩ := hv
  refine smGo [9999] 80 rfl ?_
  repeat' first
    | refine And.intro ?_ ?_
    | intro _
  all_goals try omega
  refine h _ ⟨?_, fun i x y => ?_⟩ (fun k i x => ?_)
  · simp [smU, smCp]; exact kB
  · simp [smU, smCp, x, y]; exact kb i x y
  · simp only [smU, smCp]
    rw [if_neg (by omega), if_neg (by omega), if_neg (by omega), if_neg (by omega)]
theorem ru_tK_27_1 (hk : kC mem S) (h9 : 0 ≤ S 9 0 ∧ S 9 0 ≤ 12) (h : ∀ m : smM, kI m S → (∀ k i, k < 28 ∨ 52 < k → m k i = mem k i) → Post none m) : smRun 24 [oR 3 27, oR 3 1] mem Post := by
  obtain ⟨hw, ht, hs⟩ := hk
  refine smGo [9999] 40 rfl ?_
  refine ru_tW_28_2 hw h9 (fun m1 w1 k1 => ?_)
  refine ru_tT_42_16 (S := S) ?_ (fun m2 t2 k2 => ?_)
  · obtain ⟨a, b⟩ := ht
    refine ⟨?_, fun i x y => ?_⟩
    · rw [k1 16 0 (by omega)]; exact a
    · rw [k1 17 i (by omega), k1 18 i (by omega), k1 19 i (by omega), k1 20 i (by omega), k1 21 i (by omega), k1 22 i (by omega)]; exact b i x y
  refine ru_tS_49_23 (S := S) ?_ (fun m3 s3 k3 => ?_)
  · obtain ⟨a, b⟩ := hs
    refine ⟨?_, fun i x y => ?_⟩
    · rw [k2 23 0 (by omega), k1 23 0 (by omega)]; exact a
    · rw [k2 24 i (by omega), k1 24 i (by omega), k2 25 i (by omega), k1 25 i (by omega), k2 26 i (by omega), k1 26 i (by omega)]; exact b i x y
  have e : ∀ k i, k < 42 → (28 ≤ k ∧ k ≤ 41) → m3 k i = m1 k i := fun k i _ hk => (k3 k i (by omega)).trans (k2 k i (by omega))
  have e2 : ∀ k i, (42 ≤ k ∧ k ≤ 48) → m3 k i = m2 k i := fun k i hk => k3 k i (by omega)
  refine h m3 ⟨?_, ?_, s3⟩ (fun k i x => ?_)
  · unfold wV at *
    try simp only [wC, wV]
    simp only [e 28 _ (by decide) (by decide), e 29 _ (by decide) (by decide), e 30 _ (by decide) (by decide), e 31 _ (by decide) (by decide), e 32 _ (by decide) (by decide), e 33 _ (by decide) (by decide), e 34 _ (by decide) (by decide), e 35 _ (by decide) (by decide), e 36 _ (by decide) (by decide), e 37 _ (by decide) (by decide), e 38 _ (by decide) (by decide), e 39 _ (by decide) (by decide), e 40 _ (by decide) (by decide), e 41 _ (by decide) (by decide)]
    exact w1
  · unfold tV at *
    simp only [e2 42 _ (by decide), e2 43 _ (by decide), e2 44 _ (by decide), e2 45 _ (by decide), e2 46 _ (by decide), e2 47 _ (by decide), e2 48 _ (by decide)]
    exact t2
  · rw [k3 k i (by omega), k2 k i (by omega), k1 k i (by omega)]
theorem ru_tK_53_1 (hk : kC mem S) (h9 : 0 ≤ S 9 0 ∧ S 9 0 ≤ 12) (h : ∀ m : smM, kJ m S → (∀ k i, k < 54 ∨ 78 < k → m k i = mem k i) → Post none m) : smRun 24 [oR 3 53, oR 3 1] mem Post := by
  obtain ⟨hw, ht, hs⟩ := hk
  refine smGo [9999] 40 rfl ?_
  refine ru_tW_54_2 hw h9 (fun m1 w1 k1 => ?_)
  refine ru_tT_68_16 (S := S) ?_ (fun m2 t2 k2 => ?_)
  · obtain ⟨a, b⟩ := ht
    refine ⟨?_, fun i x y => ?_⟩
    · rw [k1 16 0 (by omega)]; exact a
    · rw [k1 17 i (by omega), k1 18 i (by omega), k1 19 i (by omega), k1 20 i (by omega), k1 21 i (by omega), k1 22 i (by omega)]; exact b i x y
  refine ru_tS_75_23 (S := S) ?_ (fun m3 s3 k3 => ?_)
  · obtain ⟨a, b⟩ := hs
    refine ⟨?_, fun i x y => ?_⟩
    · rw [k2 23 0 (by omega), k1 23 0 (by omega)]; exact a
    · rw [k2 24 i (by omega), k1 24 i (by omega), k2 25 i (by omega), k1 25 i (by omega), k2 26 i (by omega), k1 26 i (by omega)]; exact b i x y
  have e : ∀ k i, k < 68 → (54 ≤ k ∧ k ≤ 67) → m3 k i = m1 k i := fun k i _ hk => (k3 k i (by omega)).trans (k2 k i (by omega))
  have e2 : ∀ k i, (68 ≤ k ∧ k ≤ 74) → m3 k i = m2 k i := fun k i hk => k3 k i (by omega)
  refine h m3 ⟨?_, ?_, s3⟩ (fun k i x => ?_)
  · unfold wV at *
    try simp only [wC, wV]
    simp only [e 54 _ (by decide) (by decide), e 55 _ (by decide) (by decide), e 56 _ (by decide) (by decide), e 57 _ (by decide) (by decide), e 58 _ (by decide) (by decide), e 59 _ (by decide) (by decide), e 60 _ (by decide) (by decide), e 61 _ (by decide) (by decide), e 62 _ (by decide) (by decide), e 63 _ (by decide) (by decide), e 64 _ (by decide) (by decide), e 65 _ (by decide) (by decide), e 66 _ (by decide) (by decide), e 67 _ (by decide) (by decide)]
    exact w1
  · unfold tV at *
    simp only [e2 68 _ (by decide), e2 69 _ (by decide), e2 70 _ (by decide), e2 71 _ (by decide), e2 72 _ (by decide), e2 73 _ (by decide), e2 74 _ (by decide)]
    exact t2
  · rw [k3 k i (by omega), k2 k i (by omega), k1 k i (by omega)]
theorem ru_tK_1_27 (hk : kI mem S) (h9 : 0 ≤ S 9 0 ∧ S 9 0 ≤ 12) (h : ∀ m : smM, kC m S → (∀ k i, k < 2 ∨ 26 < k → m k i = mem k i) → Post none m) : smRun 24 [oR 3 1, oR 3 27] mem Post := by
  obtain ⟨hw, ht, hs⟩ := hk
  refine smGo [9999] 40 rfl ?_
  refine ru_tW_2_28 hw h9 (fun m1 w1 k1 => ?_)
  refine ru_tT_16_42 (S := S) ?_ (fun m2 t2 k2 => ?_)
  · obtain ⟨a, b⟩ := ht
    refine ⟨?_, fun i x y => ?_⟩
    · rw [k1 42 0 (by omega)]; exact a
    · rw [k1 43 i (by omega), k1 44 i (by omega), k1 45 i (by omega), k1 46 i (by omega), k1 47 i (by omega), k1 48 i (by omega)]; exact b i x y
  refine ru_tS_23_49 (S := S) ?_ (fun m3 s3 k3 => ?_)
  · obtain ⟨a, b⟩ := hs
    refine ⟨?_, fun i x y => ?_⟩
    · rw [k2 49 0 (by omega), k1 49 0 (by omega)]; exact a
    · rw [k2 50 i (by omega), k1 50 i (by omega), k2 51 i (by omega), k1 51 i (by omega), k2 52 i (by omega), k1 52 i (by omega)]; exact b i x y
  have e : ∀ k i, k < 16 → (2 ≤ k ∧ k ≤ 15) → m3 k i = m1 k i := fun k i _ hk => (k3 k i (by omega)).trans (k2 k i (by omega))
  have e2 : ∀ k i, (16 ≤ k ∧ k ≤ 22) → m3 k i = m2 k i := fun k i hk => k3 k i (by omega)
  refine h m3 ⟨?_, ?_, s3⟩ (fun k i x => ?_)
  · unfold wV at *
    try simp only [wC, wV]
    simp only [e 2 _ (by decide) (by decide), e 3 _ (by decide) (by decide), e 4 _ (by decide) (by decide), e 5 _ (by decide) (by decide), e 6 _ (by decide) (by decide), e 7 _ (by decide) (by decide), e 8 _ (by decide) (by decide), e 9 _ (by decide) (by decide), e 10 _ (by decide) (by decide), e 11 _ (by decide) (by decide), e 12 _ (by decide) (by decide), e 13 _ (by decide) (by decide), e 14 _ (by decide) (by decide), e 15 _ (by decide) (by decide)]
    exact w1
  · unfold tV at *
    simp only [e2 16 _ (by decide), e2 17 _ (by decide), e2 18 _ (by decide), e2 19 _ (by decide), e2 20 _ (by decide), e2 21 _ (by decide), e2 22 _ (by decide)]
    exact t2
  · rw [k3 k i (by omega), k2 k i (by omega), k1 k i (by omega)]
theorem ru_tK_1_53 (hk : kJ mem S) (h9 : 0 ≤ S 9 0 ∧ S 9 0 ≤ 12) (h : ∀ m : smM, kC m S → (∀ k i, k < 2 ∨ 26 < k → m k i = mem k i) → Post none m) : smRun 24 [oR 3 1, oR 3 53] mem Post := by
  obtain ⟨hw, ht, hs⟩ := hk
  refine smGo [9999] 40 rfl ?_
  refine ru_tW_2_54 hw h9 (fun m1 w1 k1 => ?_)
  refine ru_tT_16_68 (S := S) ?_ (fun m2 t2 k2 => ?_)
  · obtain ⟨a, b⟩ := ht
    refine ⟨?_, fun i x y => ?_⟩
    · rw [k1 68 0 (by omega)]; exact a
    · rw [k1 69 i (by omega), k1 70 i (by omega), k1 71 i (by omega), k1 72 i (by omega), k1 73 i (by omega), k1 74 i (by omega)]; exact b i x y
  refine ru_tS_23_75 (S := S) ?_ (fun m3 s3 k3 => ?_)
  · obtain ⟨a, b⟩ := hs
    refine ⟨?_, fun i x y => ?_⟩
    · rw [k2 75 0 (by omega), k1 75 0 (by omega)]; exact a
    · rw [k2 76 i (by omega), k1 76 i (by omega), k2 77 i (by omega), k1 77 i (by omega), k2 78 i (by omega), k1 78 i (by omega)]; exact b i x y
  have e : ∀ k i, k < 16 → (2 ≤ k ∧ k ≤ 15) → m3 k i = m1 k i := fun k i _ hk => (k3 k i (by omega)).trans (k2 k i (by omega))
  have e2 : ∀ k i, (16 ≤ k ∧ k ≤ 22) → m3 k i = m2 k i := fun k i hk => k3 k i (by omega)
  refine h m3 ⟨?_, ?_, s3⟩ (fun k i x => ?_)
  · unfold wV at *
    try simp only [wC, wV]
    simp only [e 2 _ (by decide) (by decide), e 3 _ (by decide) (by decide), e 4 _ (by decide) (by decide), e 5 _ (by decide) (by decide), e 6 _ (by decide) (by decide), e 7 _ (by decide) (by decide), e 8 _ (by decide) (by decide), e 9 _ (by decide) (by decide), e 10 _ (by decide) (by decide), e 11 _ (by decide) (by decide), e 12 _ (by decide) (by decide), e 13 _ (by decide) (by decide), e 14 _ (by decide) (by decide), e 15 _ (by decide) (by decide)]
    exact w1
  · unfold tV at *
    simp only [e2 16 _ (by decide), e2 17 _ (by decide), e2 18 _ (by decide), e2 19 _ (by decide), e2 20 _ (by decide), e2 21 _ (by decide), e2 22 _ (by decide)]
    exact t2
  · rw [k3 k i (by omega), k2 k i (by omega), k1 k i (by omega)]
end
