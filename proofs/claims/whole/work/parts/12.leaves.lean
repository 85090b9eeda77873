section
variable {mem : smM} {Post : Option smV → smM → Prop}
theorem ru_within (x a b : Int) (hx : smIR x) (ha : smIR a) (hb : smIR b) (h1 : a ≤ x ∧ x ≤ b → Post (some (.inl 1)) mem) (h0 : x < a ∨ b < x → Post (some (.inl 0)) mem) : smRun 29 [.inl x, .inl a, .inl b] mem Post := by
  refine smGo [] 20 rfl ?_
  unfold smIR at hx ha hb
  repeat' first
    | refine And.intro ?_ ?_
    | intro _
    | exact h1 (by omega)
    | exact h0 (by omega)
  all_goals try omega
theorem ru_in (x a b : Int) (hx : smIR x) (ha : smIR a) (hb : smIR b) (h1 : a ≤ x ∧ x ≤ b → Post (some (.inl 1)) mem) (h0 : x < a ∨ b < x → Post (some (.inl 0)) mem) : smRun 115 [.inl x, .inl a, .inl b] mem Post := by
  refine smGo [] 20 rfl ?_
  unfold smIR at hx ha hb
  repeat' first
    | refine And.intro ?_ ?_
    | intro _
    | exact h1 (by omega)
    | exact h0 (by omega)
  all_goals try omega
theorem ru_isCatchable (x : Int) (hx : smIR x) (h1 : x = 1 ∨ x = 2 → Post (some (.inl 1)) mem) (h0 : ¬ x = 1 → ¬ x = 2 → Post (some (.inl 0)) mem) : smRun 2 [.inl x] mem Post := by
  refine smGo [] 20 rfl ?_
  unfold smIR at hx
  repeat' first
    | refine And.intro ?_ ?_
    | intro _
    | exact h1 (by omega)
    | exact h0 (by omega) (by omega)
  all_goals try omega
theorem ru_nextPlace (p w n : Int) (hp : 0 ≤ p ∧ p < 1000) (hw : w = 0 ∨ w = 1) (hn : 0 < n ∧ n < 1000) (h : Post (some (.inl (fNx p w n))) mem) : smRun 0 [.inl p, .inl w, .inl n] mem Post := by
  refine smGo [] 30 rfl ?_
  unfold fNx at h
  repeat' first
    | refine And.intro ?_ ?_
    | intro _
  all_goals try omega
  all_goals (first | (rw [if_pos (by omega), if_pos (by omega)] at h; exact h) | (rw [if_pos (by omega), if_neg (by omega)] at h; exact h) | (rw [if_neg (by omega), if_pos (by omega)] at h; exact h) | (rw [if_neg (by omega), if_neg (by omega)] at h; exact h))
theorem ru_step (o : Nat) (p w : Int) (hp : 0 ≤ p ∧ p < mem o 0) (hw : w = 0 ∨ w = 1) (hn : 0 < mem o 0 ∧ mem o 0 < 1000) (h : Post (some (.inl (fNx p w (mem o 0)))) mem) : smRun 130 [oR 11 o, .inl p, .inl w] mem Post := by
  refine smGo [] 30 rfl ?_
  unfold fNx at h
  repeat' first
    | refine And.intro ?_ ?_
    | intro _
  all_goals try omega
  · have e : (p + (mem o 0 - 1)).tmod (mem o 0) = if 0 < p then p - 1 else mem o 0 - 1 := by
      rw [Int.tmod_eq_emod_of_nonneg (by omega)]
      split
      · rw [show p + (mem o 0 - 1) = (p - 1) + mem o 0 by omega, Int.add_emod_right]
        exact Int.emod_eq_of_lt (by omega) (by omega)
      · rw [show p + (mem o 0 - 1) = mem o 0 - 1 by omega]
        exact Int.emod_eq_of_lt (by omega) (by omega)
    rw [if_neg (by omega), ← e] at h
    exact h
  · have e : (p + 1).tmod (mem o 0) = if p + 1 < mem o 0 then p + 1 else 0 := by
      rw [Int.tmod_eq_emod_of_nonneg (by omega)]
      split
      · exact Int.emod_eq_of_lt (by omega) (by omega)
      · rw [show p + 1 = mem o 0 by omega, Int.emod_self]
    rw [if_pos (by omega), ← e] at h
    exact h
theorem ru_heightBehind (k r t : Int) (hk : -1000 ≤ k ∧ k < 1000) (hr : -1000 ≤ r ∧ r < 1000) (ht : -1000 ≤ t ∧ t < 1000) (h : Post (some (.inl (fH k r t))) mem) : smRun 1 [.inl k, .inl r, .inl t] mem Post := by
  refine smGo [] 30 rfl ?_
  unfold fH at h
  repeat' first
    | refine And.intro ?_ ?_
    | intro _
  all_goals try omega
  trace_state
  all_goals sorry
theorem ru_heightOf (k r t : Int) (hk : -1000 ≤ k ∧ k < 1000) (hr : -1000 ≤ r ∧ r < 1000) (ht : -1000 ≤ t ∧ t < 1000) (h : Post (some (.inl (fH k r t))) mem) : smRun 131 [.inl k, .inl r, .inl t] mem Post := by
  refine smGo [] 30 rfl ?_
  unfold fH at h
  repeat' first
    | refine And.intro ?_ ?_
    | intro _
  all_goals try omega
  all_goals (first | (rw [if_pos (by omega), if_pos (by omega)] at h; exact h) | (rw [if_pos (by omega), if_neg (by omega)] at h; exact h) | (rw [if_neg (by omega), if_pos (by omega)] at h; exact h) | (rw [if_neg (by omega), if_neg (by omega)] at h; exact h))
theorem ru_has (s k : Int) (h1 : bB s k → Post (some (.inl 1)) mem) (h0 : ¬ bB s k → Post (some (.inl 0)) mem) : smRun 116 [.inl s, .inl k] mem Post := by
  refine smGo [] 30 rfl ?_
  repeat' first
    | refine And.intro ?_ ?_
    | intro _
    | exact (smIR_and _ _).1
    | exact (smIR_and _ _).2
    | exact h1 (by assumption)
    | exact h0 (by assumption)
  all_goals try omega
theorem ru_hasPerson (o : Nat) (x : Int) (hx : smIR x) (h1 : 0 ≤ x → x ≤ 4 → bB (mem o 4) x → Post (some (.inl 1)) mem) (h0 : ¬ (0 ≤ x ∧ x ≤ 4 ∧ bB (mem o 4) x) → Post (some (.inl 0)) mem) : smRun 47 [oR 9 o, .inl x] mem Post := by
  refine smGo [] 30 rfl ?_
  unfold smIR at hx
  repeat' first
    | refine And.intro ?_ ?_
    | intro _
    | refine ru_within _ _ _ ?_ ?_ ?_ ?_ ?_
    | exact (smIR_and _ _).1
    | exact (smIR_and _ _).2
  all_goals try omega
  trace_state
  all_goals sorry
theorem ru_isThere (o : Nat) (x : Int) (hx : smIR x) (h1 : 0 ≤ x → x ≤ 4 → bB (mem o 2) x → Post (some (.inl 1)) mem) (h0 : ¬ (0 ≤ x ∧ x ≤ 4 ∧ bB (mem o 2) x) → Post (some (.inl 0)) mem) : smRun 119 [oR 11 o, .inl x] mem Post := by
  refine smGo [] 30 rfl ?_
  unfold smIR at hx
  repeat' first
    | refine And.intro ?_ ?_
    | intro _
    | refine ru_in _ _ _ ?_ ?_ ?_ ?_ ?_
    | refine ru_has _ _ ?_ ?_
  all_goals try omega
  trace_state
  all_goals sorry
end
