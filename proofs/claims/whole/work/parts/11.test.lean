theorem ru_within (x a b : Int) (mem : smM) (Post : Option smV → smM → Prop) (hx : smIR x) (ha : smIR a) (hb : smIR b) (h : Post (some (.inl (if a ≤ x ∧ x ≤ b then 1 else 0))) mem) : smRun 29 [.inl x, .inl a, .inl b] mem Post := by
  refine smGo [] 20 rfl ?_
  unfold smIR at hx ha hb
  repeat' first
    | refine And.intro ?_ ?_
    | intro _
  all_goals try omega
  trace_state
  · rw [if_neg (by omega)] at h; exact h
  · rw [if_neg (by omega)] at h; exact h
  · rw [if_pos (by omega)] at h; exact h
theorem ru_hasPerson (o : Nat) (x : Int) (mem : smM) (Post : Option smV → smM → Prop) (hx : smIR x) (h : Post (some (.inl (if (0 ≤ x ∧ x ≤ 4) ∧ ¬ smAnd (smShr (mem o 4) x) 1 = 0 then 1 else 0))) mem) : smRun 47 [.inr (.inl (.inl 9, o)), .inl x] mem Post := by
  refine smGo [] 30 rfl ?_
  repeat' first
    | refine And.intro ?_ ?_
    | intro _
  all_goals try omega
  trace_state
  sorry
