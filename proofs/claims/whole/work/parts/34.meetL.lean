section
variable {mem : smM} {Post : Option smV → smM → Prop} {N : Int} {S : sS}
theorem kM_keep {a b : smM} (h : kM a b) : keepC a b := ⟨fun k i hk => h k i (by omega), h 93 0 (by omega)⟩
theorem pC_meet (i j : Int) (hi : smIR i) (hj : smIR j) (hk : kC mem S) (ho : ok N S) (h0 : ¬ ((0 ≤ i ∧ i ≤ 5 ∧ bB (S 15 0) i) ∧ (0 ≤ j ∧ j ≤ 5 ∧ bB (S 15 0) j) ∧ i ≠ j) → Post (some (.inl (-1))) mem) (h1 : liB S i → liB S j → i ≠ j → ∀ v m, mtR S i j v → keepC mem m → Post (some (.inl v)) m) : smRun 99 [oR 10 0, .inl i, .inl j] mem Post := by
  have hw := hk.1
  have kB := hk.2.1.1
  refine smGo [35, 9999] 60 rfl ?_
  rw [← kB] at h0
  repeat' first
    | refine And.intro ?_ ?_
    | intro _
    | (show smRun _ _ _ _; first | with_reducible refine ru_listedHas _ hi ?_ ?_ | with_reducible refine ru_listedHas _ hj ?_ ?_)
    | (show Post _ _; first | exact h0 (by omega))
  all_goals try omega
  refine smAt [9999] 60 rfl ?_
  refine ru_lookS hw ho.2.1 (fun m1 s1 e1 => ?_)
  have li : liB S i := ⟨by omega, by rw [← kB]; assumption⟩
  have lj : liB S j := ⟨by omega, by rw [← kB]; assumption⟩
  refine ru_firstMeeting i j li lj (kC_keep e1 hk) ho s1 (fun v m g1 g2 => ?_)
  exact h1 li lj (by omega) v m g1 (keepC_tr e1 (kM_keep g2))
theorem pR_meet (i j : Int) (hi : smIR i) (hj : smIR j) (hk : rC mem S) (ho : ok N S) (h0 : ¬ ((0 ≤ i ∧ i ≤ 5 ∧ bB (S 15 0) i) ∧ (0 ≤ j ∧ j ≤ 5 ∧ bB (S 15 0) j) ∧ i ≠ j) → Post (some (.inl (-1))) mem) (h1 : liB S i → liB S j → i ≠ j → ∀ v m, mtW S i j v → keepR mem m → Post (some (.inl v)) m) : smRun 165 [oR 11 114, .inl i, .inl j] mem Post := by
  have kB := hk.2.1.1
  refine smGo [21, 9999] 60 rfl ?_
  rw [← kB] at h0
  repeat' first
    | refine And.intro ?_ ?_
    | intro _
    | (show smRun _ _ _ _; first | with_reducible refine ru_isListed _ hi ?_ ?_ | with_reducible refine ru_isListed _ hj ?_ ?_)
    | (show Post _ _; first | exact h0 (by omega))
  all_goals try omega
  refine smAt [9999] 60 rfl ?_
  have li : liB S i := ⟨by omega, by rw [← kB]; assumption⟩
  have lj : liB S j := ⟨by omega, by rw [← kB]; assumption⟩
  refine ru_meetOf i j li lj hk ho (fun v m g1 g2 => ?_)
  exact h1 li lj (by omega) v m g1 (keepF_keep g2)
theorem lw_meet (i j : Int) (hi : smIR i) (hj : smIR j) (hN : N ≤ 900000) (h : jI N mem) : both N 99 165 [.inl i, .inl j] mem := by
  have hjj := jI_rf hN h
  obtain ⟨S, S1, S2, n, d, h⟩ := h
  obtain ⟨a1, a2, a3, -⟩ := id h
  have hM : N ≤ N + 1000 ∧ N + 1000 ≤ 1000000 := by have := a1.1; omega
  refine pC_meet i j hi hj a2 a1 (fun c => ?_) (fun c1 c2 c3 v m g1 g2 => ?_)
  · refine pR_meet i j hi hj a3 a1 (fun _ => ⟨agr_rf _, hjj⟩) (fun c1 c2 c3 => ?_)
    exfalso
    exact c ⟨⟨c1.1.1, by have := c1.1; omega, c1.2⟩, ⟨c2.1.1, by have := c2.1; omega, c2.2⟩, c3⟩
  · refine pR_meet i j hi hj (rC_eqR (keepC_eqR g2) a3) a1 (fun c => ?_) (fun _ _ _ u m2 r1 r2 => ?_)
    · exfalso
      exact c ⟨⟨c1.1.1, by have := c1.1; omega, c1.2⟩, ⟨c2.1.1, by have := c2.1; omega, c2.2⟩, c3⟩
    · rw [mtW_uni g1 r1]
      exact ⟨agr_rf _, S, S1, S2, n, d, jO_keep h hM g2 r2⟩
end
