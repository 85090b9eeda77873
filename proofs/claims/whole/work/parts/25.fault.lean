section
variable {mem : smM} {Post : Option smV → smM → Prop} {N : Int} {S : sS} {n : Int} {d : Int → Int}
def nxt (st s b : Int) : Int :=
  if st = 0 then (if s = 46 then 0 else if 65 ≤ s ∧ s ≤ 69 then 1 else -6)
  else if st = 1 then (if s = 62 ∨ s = 60 then 2 else if s = 43 ∨ s = 111 ∨ s = 107 then 0 else -6)
  else if st = 2 then (if 48 ≤ s ∧ s ≤ 51 then 3 else -6)
  else if st = 3 then (if (48 ≤ s ∧ s ≤ 57) ∧ (1 ≤ 10 * (b - 48) + s - 48 ∧ 10 * (b - 48) + s - 48 ≤ 36) then 4 else -6)
  else (if 49 ≤ s ∧ s ≤ 53 then 0 else -6)
def bfr (d : Int → Int) (i : Int) : Int := if i = 0 then 0 else d (i - 1)
def fwN (d : Int → Int) (n : Int) : Nat → Int → Int → Int
  | 0, _, st => if st = 0 then -6 else n
  | f + 1, i, st => if nxt st (d i) (bfr d i) = -6 then i else fwN d n f (i + 1) (nxt st (d i) (bfr d i))
def fwF (d : Int → Int) (n : Int) : Int := fwN d n n.toNat 0 0
theorem nxt_in (st s b : Int) : nxt st s b = -6 ∨ (0 ≤ nxt st s b ∧ nxt st s b ≤ 4) := by
  unfold nxt
  repeat' split
  all_goals omega
theorem nxt_3 {st s b : Int} (h : nxt st s b = 3) : 48 ≤ s ∧ s ≤ 51 := by
  unfold nxt at h
  repeat' split at h
  all_goals omega
theorem fwN_in (d : Int → Int) (n : Int) : ∀ (f : Nat) (i st : Int), fwN d n f i st = -6 ∨ fwN d n f i st = n ∨ (i ≤ fwN d n f i st ∧ fwN d n f i st < i + f)
  | 0, i, st => by
    simp only [fwN]
    split
    · exact Or.inl rfl
    · exact Or.inr (Or.inl rfl)
  | f + 1, i, st => by
    simp only [fwN]
    split
    · right; right; omega
    · rcases fwN_in d n f (i + 1) (nxt st (d i) (bfr d i)) with h | h | h
      · exact Or.inl h
      · exact Or.inr (Or.inl h)
      · right; right; omega
theorem ru_number (a b : Int) (h : Post (some (.inl (10 * (a - 48) + b - 48))) mem) : smRun 44 [.inl a, .inl b] mem Post := by
  refine smGo [] 30 rfl ?_
  exact h
theorem ru_nextStage (st s b : Int) (hst : 0 ≤ st ∧ st ≤ 4) (hs : -1000 ≤ s ∧ s ≤ 1000) (hb : -1000 ≤ b ∧ b ≤ 1000) (h : Post (some (.inl (nxt st s b))) mem) : smRun 45 [.inl st, .inl s, .inl b] mem Post := by
  have hs' : smIR s := by unfold smIR; omega
  have key : ∀ r, r = nxt st s b → Post (some (.inl r)) mem := fun r e => by rw [e]; exact h
  unfold nxt at key
  refine smGo [] 60 rfl ?_
  repeat' first
    | refine And.intro ?_ ?_
    | intro _
    | (show smRun _ _ _ _; first | with_reducible refine ru_within _ _ _ hs' ?_ ?_ ?_ ?_ | with_reducible refine ru_within _ _ _ ?_ ?_ ?_ ?_ ?_ | with_reducible refine ru_number _ _ ?_)
    | exact trivial
  all_goals try omega
  all_goals refine key _ ?_
  all_goals (repeat' split)
  all_goals omega
theorem ru_signAt (i : Int) (hi : smIR i) (hp : padC mem n d) (hn : 0 ≤ n ∧ n ≤ 60) (h1 : 0 ≤ i → i < n → Post (some (.inl (d i))) mem) (h0 : ¬ (0 ≤ i ∧ i < n) → Post (some (.inl 0)) mem) : smRun 43 [oR 5 93, .inl i] mem Post := by
  obtain ⟨e1, e2⟩ := hp
  refine smGo [9999] 60 rfl ?_
  repeat' first
    | refine And.intro ?_ ?_
    | intro _
    | (show smRun _ _ _ _; first | with_reducible refine ru_within _ _ _ hi ?_ ?_ ?_ ?_)
    | (show Post _ _; first | exact h0 (by omega))
  all_goals try omega
  rw [e2 i (by omega) (by omega)]
  exact h1 (by omega) (by omega)
theorem ru_firstWrong (hp : padC mem n d) (ho : okP n d) (h : Post (some (.inl (fwF d n))) mem) : smRun 46 [oR 5 93] mem Post := by
  obtain ⟨on, od⟩ := id ho
  obtain ⟨e1, e2⟩ := id hp
  have loop : ∀ (f : Nat) (i st : Int), i = n - (f : Int) → 0 ≤ i → 0 ≤ st → st ≤ 4 → Post (some (.inl (fwN d n f i st))) mem → smWp 46 4 [some (oR 5 93), some (.inl st), some (.inl i)] [] mem Post := by
    intro f
    induction f with
    | zero =>
      intro i st hi h0 s0 s4 hpo
      simp only [fwN] at hpo
      refine smAt [4, 9999] 30 rfl ?_
      repeat' first
        | refine And.intro ?_ ?_
        | intro _
      all_goals try omega
      · rw [if_neg (by omega), ← e1] at hpo; exact hpo
      · rw [if_pos (by omega)] at hpo; exact hpo
    | succ f ih =>
      intro i st hi h0 s0 s4 hpo
      simp only [fwN] at hpo
      have q1 := e2 i h0 (by omega)
      have q2 := od i h0 (by omega)
      have q3 := nxt_in st (d i) (bfr d i)
      have tail : smWp 46 29 [some (oR 5 93), some (.inl st), some (.inl i)] [.inl (nxt st (d i) (bfr d i))] mem Post := by
        refine smAt [4, 9999] 30 rfl ?_
        repeat' first
          | refine And.intro ?_ ?_
          | intro _
        all_goals try omega
        · refine ih (i + 1) _ (by omega) (by omega) (by omega) (by omega) ?_
          rw [if_neg (by omega)] at hpo; exact hpo
        · rw [if_pos (by omega)] at hpo; exact hpo
      refine smAt [29, 4, 9999] 30 rfl ?_
      repeat' first
        | refine And.intro ?_ ?_
        | intro _
      all_goals try omega
      refine ru_signAt (i - 1) (by unfold smIR; omega) hp on (fun a b => ?_) (fun a => ?_)
      · have q4 := od (i - 1) a b
        rw [q1]
        refine ru_nextStage st (d i) _ ⟨s0, s4⟩ (by omega) (by omega) ?_
        have e9 : bfr d i = d (i - 1) := by unfold bfr; rw [if_neg (by omega)]
        rw [e9] at tail
        exact tail
      · rw [q1]
        refine ru_nextStage st (d i) _ ⟨s0, s4⟩ (by omega) (by omega) ?_
        have e9 : bfr d i = 0 := by unfold bfr; rw [if_pos (by omega)]
        rw [e9] at tail
        exact tail
  refine smGo [4, 9999] 30 rfl ?_
  exact loop n.toNat 0 0 (by omega) (by omega) (by omega) (by omega) h
theorem pC_fault (hp : padC mem n d) (ho : okP n d) (h : Post (some (.inl (fwF d n))) mem) : smRun 80 [oR 10 0] mem Post := by
  refine smGo [9999] 30 rfl ?_
  exact ru_firstWrong hp ho h
set_option maxHeartbeats 2000000 in
theorem ru_faultOf (hp : padR mem n d) (ho : okP n d) (h : Post (some (.inl (fwF d n))) mem) : smRun 127 [oR 11 114] mem Post := by
  obtain ⟨on, od⟩ := id ho
  obtain ⟨e1, e2⟩ := id hp
  have loop : ∀ (f : Nat) (i st : Int) (x3 x4 x5 x6 : Option smV), i = n - (f : Int) → 0 ≤ i → 0 ≤ st → st ≤ 4 → (st = 3 → 0 < i ∧ 48 ≤ d (i - 1) ∧ d (i - 1) ≤ 51) → Post (some (.inl (fwN d n f i st))) mem → smWp 127 4 [some (oR 11 114), some (.inl st), some (.inl i), x3, x4, x5, x6] [] mem Post := by
    intro f
    induction f with
    | zero =>
      intro i st x3 x4 x5 x6 hi h0 s0 s4 s3 hpo
      simp only [fwN] at hpo
      refine smAt [4, 9999] 30 rfl ?_
      repeat' first
        | refine And.intro ?_ ?_
        | intro _
      all_goals try omega
      · rw [if_neg (by omega), ← e1] at hpo; exact hpo
      · rw [if_pos (by omega)] at hpo; exact hpo
    | succ f ih =>
      intro i st x3 x4 x5 x6 hi h0 s0 s4 s3 hpo
      simp only [fwN] at hpo
      have q1 := e2 i h0 (by omega)
      have q2 := od i h0 (by omega)
      have q5 : st = 3 → mem 125 (i - 1) = d (i - 1) := fun z => e2 (i - 1) (by have := s3 z; omega) (by omega)
      have q6 : st = 3 → bfr d i = d (i - 1) := fun z => by unfold bfr; rw [if_neg (by have := s3 z; omega)]
      have hd' : smIR (d i) := by unfold smIR; omega
      have good : ∀ (s' : Int) (x3 x4 x5 x6 : Option smV), s' = nxt st (d i) (bfr d i) → 0 ≤ s' → smWp 127 4 [some (oR 11 114), some (.inl s'), some (.inl (i + 1)), x3, x4, x5, x6] [] mem Post := by
        intro s' x3 x4 x5 x6 hs' hs0
        have q3 := nxt_in st (d i) (bfr d i)
        refine ih (i + 1) s' _ _ _ _ (by omega) (by omega) (by omega) (by omega) ?_ ?_
        · intro z
          have := nxt_3 (st := st) (s := d i) (b := bfr d i) (by omega)
          rw [show i + 1 - 1 = i by omega]
          omega
        · rw [if_neg (by omega), ← hs'] at hpo; exact hpo
      have bad : nxt st (d i) (bfr d i) = -6 → Post (some (.inl i)) mem := by
        intro z
        rw [if_pos z] at hpo; exact hpo
      unfold nxt at good bad
      have tail : ∀ who fl : Int, (who = 1 ∧ 65 ≤ d i ∧ d i ≤ 69 ∨ who = 0 ∧ ¬ (65 ≤ d i ∧ d i ≤ 69)) → (fl = 1 ∧ (d i = 60 ∨ d i = 62) ∨ fl = 0 ∧ ¬ (d i = 60 ∨ d i = 62)) → smWp 127 48 [some (oR 11 114), some (.inl st), some (.inl i), some (.inl (d i)), some (.inl who), some (.inl fl), x6] [] mem Post := by
        intro who fl hwho hfl
        have hst : st = 0 ∨ st = 1 ∨ st = 2 ∨ st = 3 ∨ st = 4 := by omega
        rcases hst with z | z | z | z | z
        · subst z
          refine smAt [4, 9999] 60 rfl ?_
          repeat' first
            | refine And.intro ?_ ?_
            | intro _
          all_goals try omega
          all_goals first | (refine good _ _ _ _ _ ?_ (by omega); (repeat' split); all_goals omega) | (refine bad ?_; (repeat' split); all_goals omega)
        · subst z
          refine smAt [4, 9999] 60 rfl ?_
          repeat' first
            | refine And.intro ?_ ?_
            | intro _
          all_goals try omega
          all_goals first | (refine good _ _ _ _ _ ?_ (by omega); (repeat' split); all_goals omega) | (refine bad ?_; (repeat' split); all_goals omega)
        · subst z
          refine smAt [4, 9999] 60 rfl ?_
          repeat' first
            | refine And.intro ?_ ?_
            | intro _
            | (show smRun _ _ _ _; first | with_reducible refine ru_in _ _ _ hd' ?_ ?_ ?_ ?_)
          all_goals try omega
          all_goals first | (refine good _ _ _ _ _ ?_ (by omega); (repeat' split); all_goals omega) | (refine bad ?_; (repeat' split); all_goals omega)
        · subst z
          have q7 := q5 rfl
          have q8 := q6 rfl
          have q9 := s3 rfl
          rw [q8] at good bad
          refine smAt [4, 9999] 80 rfl ?_
          repeat' first
            | refine And.intro ?_ ?_
            | intro _
            | (show smRun _ _ _ _; first | with_reducible refine ru_in _ _ _ hd' ?_ ?_ ?_ ?_)
          all_goals try omega
          all_goals first | (refine good _ _ _ _ _ ?_ (by omega); (repeat' split); all_goals omega) | (refine bad ?_; (repeat' split); all_goals omega)
        · subst z
          refine smAt [4, 9999] 60 rfl ?_
          repeat' first
            | refine And.intro ?_ ?_
            | intro _
            | (show smRun _ _ _ _; first | with_reducible refine ru_in _ _ _ hd' ?_ ?_ ?_ ?_)
          all_goals try omega
          all_goals first | (refine good _ _ _ _ _ ?_ (by omega); (repeat' split); all_goals omega) | (refine bad ?_; (repeat' split); all_goals omega)
      refine smAt [48, 9999] 60 rfl ?_
      rw [← q1] at hd'
      repeat' first
        | refine And.intro ?_ ?_
        | intro _
        | (show smRun _ _ _ _; first | with_reducible refine ru_in _ _ _ hd' ?_ ?_ ?_ ?_)
      all_goals try omega
      all_goals (rw [q1]; exact tail _ _ (by omega) (by omega))
  refine smGo [4, 9999] 30 rfl ?_
  exact loop n.toNat 0 0 _ _ _ _ (by omega) (by omega) (by omega) (by omega) (by omega) h
theorem pR_fault (hp : padR mem n d) (ho : okP n d) (h : Post (some (.inl (fwF d n))) mem) : smRun 128 [oR 11 114] mem Post := by
  refine smGo [9999] 30 rfl ?_
  exact ru_faultOf hp ho h
theorem lw_fault (hN : N ≤ 900000) (h : jI N mem) : both N 80 128 [] mem := by
  have hj := jI_rf hN h
  obtain ⟨S, S1, S2, n, d, h⟩ := h
  obtain ⟨a1, a2, a3, a4, a5, a6, -⟩ := id h
  exact pC_fault a5 a4 (pR_fault a6 a4 ⟨agr_rf _, hj⟩)
end
