theorem kI_of2 {mem : smM} {S : sS} {v : Int} (h : kI mem S) : kI (smU mem 27 3 v) S := by
  have e : ∀ j i, j ≠ 27 → smU mem 27 3 v j i = mem j i := fun j i hj => smU_ne hj i
  unfold kI wV tV sV at *
  simp only [e 28 _ (by decide), e 29 _ (by decide), e 30 _ (by decide), e 31 _ (by decide), e 32 _ (by decide), e 33 _ (by decide), e 34 _ (by decide), e 35 _ (by decide), e 36 _ (by decide), e 37 _ (by decide), e 38 _ (by decide), e 39 _ (by decide), e 40 _ (by decide), e 41 _ (by decide), e 42 _ (by decide), e 43 _ (by decide), e 44 _ (by decide), e 45 _ (by decide), e 46 _ (by decide), e 47 _ (by decide), e 48 _ (by decide), e 49 _ (by decide), e 50 _ (by decide), e 51 _ (by decide), e 52 _ (by decide)]
  exact h
theorem kJ_of2 {mem : smM} {S : sS} {v : Int} (h : kJ mem S) : kJ (smU mem 53 3 v) S := by
  have e : ∀ j i, j ≠ 53 → smU mem 53 3 v j i = mem j i := fun j i hj => smU_ne hj i
  unfold kJ wV tV sV at *
  simp only [e 54 _ (by decide), e 55 _ (by decide), e 56 _ (by decide), e 57 _ (by decide), e 58 _ (by decide), e 59 _ (by decide), e 60 _ (by decide), e 61 _ (by decide), e 62 _ (by decide), e 63 _ (by decide), e 64 _ (by decide), e 65 _ (by decide), e 66 _ (by decide), e 67 _ (by decide), e 68 _ (by decide), e 69 _ (by decide), e 70 _ (by decide), e 71 _ (by decide), e 72 _ (by decide), e 73 _ (by decide), e 74 _ (by decide), e 75 _ (by decide), e 76 _ (by decide), e 77 _ (by decide), e 78 _ (by decide)]
  exact h
section
variable {mem : smM} {Post : Option smV → smM → Prop} {N : Int} {S : sS}
theorem ru_imageOf (n : Int) (hn : n = 0 ∨ n = 1) (h0 : n = 0 → Post (some (oR 3 27)) mem) (h1 : n = 1 → Post (some (oR 3 53)) mem) : smRun 111 [oR 10 0, .inl n] mem Post := by
  refine smGo [9999] 30 rfl ?_
  repeat' first
    | refine And.intro ?_ ?_
    | intro _
  all_goals try omega
  · exact h1 (by omega)
  · exact h0 (by omega)
theorem pC_image (n : Int) (hn : smIR n) (hk : kC mem S) (ho : ok N S) (h0 : ¬ (0 ≤ n ∧ n ≤ 1) → Post (some (.inl (-2))) mem) (h1 : n = 0 → ∀ m, kI m S → m 27 3 = 1 → (∀ k i, k < 27 ∨ 52 < k → m k i = mem k i) → Post (some (.inl 1)) m) (h2 : n = 1 → ∀ m, kJ m S → m 53 3 = 1 → (∀ k i, k < 53 ∨ 78 < k → m k i = mem k i) → Post (some (.inl 1)) m) : smRun 112 [oR 10 0, .inl n] mem Post := by
  obtain ⟨oN, ⟨oP, oT, oA, op, oq, oi⟩, ⟨oB, ob⟩, ⟨oS, os⟩⟩ := id ho
  refine smGo [9999] 60 rfl ?_
  repeat' first
    | refine And.intro ?_ ?_
    | intro _
    | (show smRun _ _ _ _; first | with_reducible refine ru_within _ _ _ hn ?_ ?_ ?_ ?_)
    | (show Post _ _; first | exact h0 (by omega))
  all_goals try omega
  refine ru_imageOf n (by omega) (fun e => ?_) (fun e => ?_)
  · refine ru_tK_27_1 hk (by omega) (fun m1 g1 g2 => ?_)
    refine ru_imageOf n (by omega) (fun _ => ?_) (fun _ => by omega)
    refine And.intro (Or.inr rfl) ?_
    refine h1 e _ (kI_of2 g1) rfl (fun k i x => ?_)
    rw [smU_ne (by omega)]
    exact g2 k i (by omega)
  · refine ru_tK_53_1 hk (by omega) (fun m1 g1 g2 => ?_)
    refine ru_imageOf n (by omega) (fun _ => by omega) (fun _ => ?_)
    refine And.intro (Or.inr rfl) ?_
    refine h2 e _ (kJ_of2 g1) rfl (fun k i x => ?_)
    rw [smU_ne (by omega)]
    exact g2 k i (by omega)
theorem pC_restore (n : Int) (hn : smIR n) {S1 S2 : sS} (ho1 : mem 27 3 = 1 → ok N S1 ∧ kI mem S1) (ho2 : mem 53 3 = 1 → ok N S2 ∧ kJ mem S2) (b1 : mem 27 3 = 0 ∨ mem 27 3 = 1) (b2 : mem 53 3 = 0 ∨ mem 53 3 = 1) (h0 : ¬ (0 ≤ n ∧ n ≤ 1) → Post (some (.inl (-2))) mem) (hs : (n = 0 ∧ mem 27 3 = 0 ∨ n = 1 ∧ mem 53 3 = 0) → Post (some (.inl (-3))) mem) (h1 : n = 0 → mem 27 3 = 1 → ∀ m, kC m S1 → (∀ k i, k < 2 ∨ 26 < k → m k i = mem k i) → Post (some (.inl 1)) m) (h2 : n = 1 → mem 53 3 = 1 → ∀ m, kC m S2 → (∀ k i, k < 2 ∨ 26 < k → m k i = mem k i) → Post (some (.inl 1)) m) : smRun 113 [oR 10 0, .inl n] mem Post := by
  refine smGo [9999] 60 rfl ?_
  repeat' first
    | refine And.intro ?_ ?_
    | intro _
    | (show smRun _ _ _ _; first | with_reducible refine ru_within _ _ _ hn ?_ ?_ ?_ ?_)
    | (show Post _ _; first | exact h0 (by omega))
  all_goals try omega
  refine ru_imageOf n (by omega) (fun e => ?_) (fun e => ?_)
  · skip
    repeat' first
      | refine And.intro ?_ ?_
      | intro _
    all_goals try omega
    · refine ru_imageOf n (by omega) (fun _ => ?_) (fun _ => by omega)
      obtain ⟨a1, a2⟩ := ho1 (by omega)
      refine ru_tK_1_27 a2 a1.2.1.2.2.1 (fun m1 g1 g2 => ?_)
      exact h1 e (by omega) m1 g1 g2
    · exact hs (by omega)
  · skip
    repeat' first
      | refine And.intro ?_ ?_
      | intro _
    all_goals try omega
    · refine ru_imageOf n (by omega) (fun _ => by omega) (fun _ => ?_)
      obtain ⟨a1, a2⟩ := ho2 (by omega)
      refine ru_tK_1_53 a2 a1.2.1.2.2.1 (fun m1 g1 g2 => ?_)
      exact h2 e (by omega) m1 g1 g2
    · exact hs (by omega)
end
