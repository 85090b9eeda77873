section
variable {mem : smM} {Post : Option smV → smM → Prop} {N : Int} {S : sS}
theorem pC_hedge (p v : Int) (hp : smIR p) (hv : smIR v) (hk : kC mem S) (ho : ok N S) (h0 : ¬ (0 ≤ p ∧ p < S 0 0) → Post (some (.inl (-1))) mem) (h1 : 0 ≤ p → p < S 0 0 → ¬ (0 ≤ v ∧ v ≤ 5) → Post (some (.inl (-2))) mem) (h2 : 0 ≤ p → p < S 0 0 → 0 ≤ v → v ≤ 5 → Post (some (.inl (S 1 p))) (smU mem 3 p v)) : smRun 74 [oR 10 0, .inl p, .inl v] mem Post := by
  obtain ⟨⟨kP, kT, kN, kp, kq, ki⟩, ⟨kB, kb⟩, ⟨kS, ks⟩⟩ := id hk
  obtain ⟨oN, ⟨oP, oT, oA, op, oq, oi⟩, ⟨oB, ob⟩, ⟨oS, os⟩⟩ := id ho
  refine smGo [9999] 60 rfl ?_
  repeat' first
    | refine And.intro ?_ ?_
    | intro _
    | (show smRun _ _ _ _; first | with_reducible refine ru_hasPlace 2 _ hp ?_ ?_ ?_ | with_reducible refine ru_within _ _ _ hv ?_ ?_ ?_ ?_)
    | (show Post _ _; first | exact h0 (by omega) | exact h1 (by omega) (by omega) (by omega))
  all_goals try omega
  · rw [(kp p (by omega) (by omega)).1]
    exact h2 (by omega) (by omega) (by omega) (by omega)
theorem pR_hedge (p v : Int) (hp : smIR p) (hv : smIR v) (hk : rC mem S) (ho : ok N S) (h0 : ¬ (0 ≤ p ∧ p < S 0 0) → Post (some (.inl (-1))) mem) (h1 : 0 ≤ p → p < S 0 0 → ¬ (0 ≤ v ∧ v ≤ 5) → Post (some (.inl (-2))) mem) (h2 : 0 ≤ p → p < S 0 0 → 0 ≤ v → v ≤ 5 → Post (some (.inl (S 1 p))) (smU mem 115 p v)) : smRun 121 [oR 11 114, .inl p, .inl v] mem Post := by
  obtain ⟨⟨kP, kT, kN, kp, kq, ki⟩, ⟨kB, kb⟩, ⟨kS, ks⟩⟩ := id hk
  obtain ⟨oN, ⟨oP, oT, oA, op, oq, oi⟩, ⟨oB, ob⟩, ⟨oS, os⟩⟩ := id ho
  refine smGo [9999] 60 rfl ?_
  repeat' first
    | refine And.intro ?_ ?_
    | intro _
    | (show smRun _ _ _ _; first | with_reducible refine ru_isPlace _ hp ?_ ?_ ?_ | with_reducible refine ru_in _ _ _ hv ?_ ?_ ?_ ?_)
    | (show Post _ _; first | exact h0 (by omega) | exact h1 (by omega) (by omega) (by omega))
  all_goals try omega
  · rw [(kp p (by omega) (by omega)).1]
    exact h2 (by omega) (by omega) (by omega) (by omega)
theorem kC_hedge {p v : Int} (h : kC mem S) : kC (smU mem 3 p v) (smU S 1 p v) := by
  unfold kC wC wV tV sV at *
  simp only [smU] at *
  grind
theorem rC_hedge {p v : Int} (h : rC mem S) : rC (smU mem 115 p v) (smU S 1 p v) := by
  unfold rC wR wV tV sV at *
  simp only [smU] at *
  grind
theorem ok_hedge {p v : Int} (h0 : 0 ≤ v) (h1 : v ≤ 5) (h : ok N S) : ok N (smU S 1 p v) := by
  obtain ⟨o1, ⟨b1, b2, b3, b4, b5, b6⟩, o3, o4⟩ := h
  refine ⟨o1, ⟨b1, b2, b3, fun q x y => ?_, b5, b6⟩, o3, o4⟩
  have h9 := b4 q x y
  by_cases e : q = p
  · subst e
    rw [smU_s]
    exact ⟨⟨h0, h1⟩, h9.2⟩
  · rw [smU_d e]
    exact h9
/-- what a call of both must give -/
def both (N : Int) (c r : Nat) (as : List smV) (mem : smM) : Prop := smRun c (oR 10 0 :: as) mem (fun v m1 => smRun r (oR 11 114 :: as) m1 (fun v' m2 => agr v v' ∧ jI (N + 1000) m2))
theorem jI_rf (hN : N ≤ 900000) (h : jI N mem) : jI (N + 1000) mem := by
  obtain ⟨S, S1, S2, n, d, h⟩ := h
  exact ⟨S, S1, S2, n, d, jO_keep h (by omega) (keepC_rf mem) (keepR_rf mem)⟩
theorem lw_hedge (p v : Int) (hp : smIR p) (hv : smIR v) (hN : N ≤ 900000) (h : jI N mem) : both N 74 121 [.inl p, .inl v] mem := by
  have hj := jI_rf hN h
  obtain ⟨S, S1, S2, n, d, h⟩ := h
  obtain ⟨a1, a2, a3, -⟩ := id h
  refine pC_hedge p v hp hv a2 a1 (fun c => ?_) (fun c1 c2 c3 => ?_) (fun c1 c2 c3 c4 => ?_)
  · exact pR_hedge p v hp hv a3 a1 (fun _ => ⟨agr_rf _, hj⟩) (fun x y _ => absurd ⟨x, y⟩ c) (fun x y _ _ => absurd ⟨x, y⟩ c)
  · exact pR_hedge p v hp hv a3 a1 (fun z => absurd ⟨c1, c2⟩ z) (fun _ _ _ => ⟨agr_rf _, hj⟩) (fun _ _ x y => absurd ⟨x, y⟩ c3)
  · refine pR_hedge p v hp hv (rC_eqR (fun k i hk => smU_ne (by omega) i) a3) a1 (fun z => absurd ⟨c1, c2⟩ z) (fun _ _ z => absurd ⟨c3, c4⟩ z) (fun _ _ _ _ => ⟨agr_rf _, ?_⟩)
    refine ⟨smU S 1 p v, S1, S2, n, d, jO_put h (by omega) (ok_mono (by have := a1.1; omega) (ok_hedge c3 c4 a1)) (kC_eqC (fun k i hk => smU_ne (by omega) i) (kC_hedge a2)) (rC_hedge (rC_eqR (fun k i hk => smU_ne (by omega) i) a3)) (fun k i hk => ?_) rfl rfl⟩
    rw [smU_ne (by omega), smU_ne (by omega)]
end
