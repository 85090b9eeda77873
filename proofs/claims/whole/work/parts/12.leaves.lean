section
variable {mem : smM} {Post : Option smV → smM → Prop}
theorem ru_within (x a b : Int) (hx : smIR x) (ha : smIR a) (hb : smIR b) (h1 : a ≤ x ∧ x ≤ b → Post (some (.inl 1)) mem) (h0 : x < a ∨ b < x → Post (some (.inl 0)) mem) : smRun 29 [.inl x, .inl a, .inl b] mem Post := by
  refine smGo [] 20 rfl ?_
  unfold smIR at hx ha hb
  repeat' first
    | refine And.intro ?_ ?_
    | intro _
    | (show Post _ _; first | exact h1 (by omega) | exact h0 (by omega))
  all_goals try omega
theorem ru_in (x a b : Int) (hx : smIR x) (ha : smIR a) (hb : smIR b) (h1 : a ≤ x ∧ x ≤ b → Post (some (.inl 1)) mem) (h0 : x < a ∨ b < x → Post (some (.inl 0)) mem) : smRun 115 [.inl x, .inl a, .inl b] mem Post := by
  refine smGo [] 20 rfl ?_
  unfold smIR at hx ha hb
  repeat' first
    | refine And.intro ?_ ?_
    | intro _
    | (show Post _ _; first | exact h1 (by omega) | exact h0 (by omega))
  all_goals try omega
theorem ru_isCatchable (x : Int) (hx : smIR x) (h1 : fLow x → Post (some (.inl 1)) mem) (h0 : ¬ fLow x → Post (some (.inl 0)) mem) : smRun 2 [.inl x] mem Post := by
  refine smGo [] 20 rfl ?_
  unfold smIR at hx
  unfold fLow at h1 h0
  repeat' first
    | refine And.intro ?_ ?_
    | intro _
    | (show Post _ _; first | exact h1 (by omega) | exact h0 (by omega))
  all_goals try omega
theorem ru_nextPlace (p w n : Int) (hp : 0 ≤ p ∧ p < 1000) (hw : w = 0 ∨ w = 1) (hn : 0 < n ∧ n < 1000) (h : Post (some (.inl (fNx p w n))) mem) : smRun 0 [.inl p, .inl w, .inl n] mem Post := by
  refine smGo [] 30 rfl ?_
  unfold fNx at h
  repeat' first
    | refine And.intro ?_ ?_
    | intro _
  all_goals try omega
  all_goals (first | (rw [if_pos (by omega), if_pos (by omega)] at h; exact h) | (rw [if_pos (by omega), if_neg (by omega)] at h; exact h) | (rw [if_neg (by omega), if_pos (by omega)] at h; exact h) | (rw [if_neg (by omega), if_neg (by omega)] at h; exact h))
theorem ru_step (p w : Int) (hp : 0 ≤ p ∧ p < mem 114 0) (hw : w = 0 ∨ w = 1) (hn : 0 < mem 114 0 ∧ mem 114 0 < 1000) (h : Post (some (.inl (fNx p w (mem 114 0)))) mem) : smRun 130 [oR 11 114, .inl p, .inl w] mem Post := by
  refine smGo [9999] 30 rfl ?_
  unfold fNx at h
  repeat' first
    | refine And.intro ?_ ?_
    | intro _
  all_goals try omega
  · have e : (p + (mem 114 0 - 1)).tmod (mem 114 0) = if 0 < p then p - 1 else mem 114 0 - 1 := by
      rw [Int.tmod_eq_emod_of_nonneg (by omega)]
      split
      · rw [show p + (mem 114 0 - 1) = (p - 1) + mem 114 0 by omega, Int.add_emod_right]
        exact Int.emod_eq_of_lt (by omega) (by omega)
      · rw [show p + (mem 114 0 - 1) = mem 114 0 - 1 by omega]
        exact Int.emod_eq_of_lt (by omega) (by omega)
    rw [if_neg (by omega), ← e] at h
    exact h
  · have e : (p + 1).tmod (mem 114 0) = if p + 1 < mem 114 0 then p + 1 else 0 := by
      rw [Int.tmod_eq_emod_of_nonneg (by omega)]
      split
      · exact Int.emod_eq_of_lt (by omega) (by omega)
      · rw [show p + 1 = mem 114 0 by omega, Int.emod_self]
    rw [if_pos (by omega), ← e] at h
    exact h
theorem ru_heightBehind (k r t : Int) (hk : -1000 ≤ k ∧ k < 1000) (hr : -1000 ≤ r ∧ r < 1000) (ht : -1000 ≤ t ∧ t < 1000) (h : Post (some (.inl (fH k r t))) mem) : smRun 1 [.inl k, .inl r, .inl t] mem Post := by
  have e : (if t < (if r - k < k then r - k else k) then t else (if r - k < k then r - k else k)) = fH k r t := by
    unfold fH
    repeat' split
    all_goals omega
  have b : -2000 ≤ (if r - k < k then r - k else k) ∧ (if r - k < k then r - k else k) < 1000 := by
    split <;> omega
  rw [← e] at h
  refine smGo [] 30 rfl ?_
  repeat' first
    | refine And.intro ?_ ?_
    | intro _
    | (show Post _ _; first | exact h)
  all_goals try omega
theorem ru_heightOf (k r t : Int) (hk : -1000 ≤ k ∧ k < 1000) (hr : -1000 ≤ r ∧ r < 1000) (ht : -1000 ≤ t ∧ t < 1000) (h : Post (some (.inl (fH k r t))) mem) : smRun 131 [.inl k, .inl r, .inl t] mem Post := by
  refine smGo [] 30 rfl ?_
  unfold fH at h
  repeat' first
    | refine And.intro ?_ ?_
    | intro _
  all_goals try omega
  all_goals (first | (rw [if_pos (by omega), if_pos (by omega)] at h; exact h) | (rw [if_pos (by omega), if_neg (by omega)] at h; exact h) | (rw [if_neg (by omega), if_pos (by omega)] at h; exact h) | (rw [if_neg (by omega), if_neg (by omega)] at h; exact h))
theorem ru_has (s k : Int) (h1 : bB s k → Post (some (.inl 1)) mem) (h0 : ¬ bB s k → Post (some (.inl 0)) mem) : smRun 116 [.inl s, .inl k] mem Post := by
  refine smGo [] 30 rfl ?_
  repeat' first
    | refine And.intro ?_ ?_
    | intro _
    | (show Post _ _; first | exact h1 (by assumption) | exact h0 (by assumption))
    | exact (smIR_and _ _).1
    | exact (smIR_and _ _).2
  all_goals try omega
theorem ru_hasPerson (w : Nat) (x : Int) (hx : smIR x) (h1 : 0 ≤ x → x ≤ 4 → bB (mem w 4) x → Post (some (.inl 1)) mem) (h0 : ¬ (0 ≤ x ∧ x ≤ 4 ∧ bB (mem w 4) x) → Post (some (.inl 0)) mem) : smRun 47 [oR 9 w, .inl x] mem Post := by
  refine smGo [] 30 rfl ?_
  have ha := and1 (smShr (mem w 4) x)
  unfold smIR at hx
  repeat' first
    | refine And.intro ?_ ?_
    | intro _
    | (show smRun _ _ _ _; first | with_reducible refine ru_within _ _ _ ?_ ?_ ?_ ?_ ?_)
    | (show Post _ _; first | exact h1 (by omega) (by omega) (by omega) | exact h0 (by omega))
    | exact (smIR_and _ _).1
    | exact (smIR_and _ _).2
  all_goals try omega
theorem ru_isThere (x : Int) (hx : smIR x) (h1 : 0 ≤ x → x ≤ 4 → bB (mem 114 2) x → Post (some (.inl 1)) mem) (h0 : ¬ (0 ≤ x ∧ x ≤ 4 ∧ bB (mem 114 2) x) → Post (some (.inl 0)) mem) : smRun 119 [oR 11 114, .inl x] mem Post := by
  refine smGo [9999] 30 rfl ?_
  unfold smIR at hx
  repeat' first
    | refine And.intro ?_ ?_
    | intro _
    | (show smRun _ _ _ _; first | with_reducible refine ru_in _ _ _ ?_ ?_ ?_ ?_ ?_ | with_reducible refine ru_has _ _ ?_ ?_)
    | (show Post _ _; first | exact h1 (by omega) (by omega) (by assumption) | exact h0 (by omega))
  all_goals try omega
theorem ru_hasPlace (w : Nat) (x : Int) (hx : smIR x) (hn : 0 ≤ mem w 0 ∧ mem w 0 < 1000) (h1 : 0 ≤ x → x < mem w 0 → Post (some (.inl 1)) mem) (h0 : ¬ (0 ≤ x ∧ x < mem w 0) → Post (some (.inl 0)) mem) : smRun 66 [oR 9 w, .inl x] mem Post := by
  refine smGo [] 30 rfl ?_
  unfold smIR at hx
  repeat' first
    | refine And.intro ?_ ?_
    | intro _
    | (show smRun _ _ _ _; first | with_reducible refine ru_within _ _ _ ?_ ?_ ?_ ?_ ?_)
    | (show Post _ _; first | exact h1 (by omega) (by omega) | exact h0 (by omega))
    | exact Or.inl rfl
    | exact Or.inr rfl
  all_goals try omega
theorem ru_isPlace (x : Int) (hx : smIR x) (hn : 0 ≤ mem 114 0 ∧ mem 114 0 < 1000) (h1 : 0 ≤ x → x < mem 114 0 → Post (some (.inl 1)) mem) (h0 : ¬ (0 ≤ x ∧ x < mem 114 0) → Post (some (.inl 0)) mem) : smRun 118 [oR 11 114, .inl x] mem Post := by
  refine smGo [9999] 30 rfl ?_
  unfold smIR at hx
  repeat' first
    | refine And.intro ?_ ?_
    | intro _
    | (show smRun _ _ _ _; first | with_reducible refine ru_in _ _ _ ?_ ?_ ?_ ?_ ?_)
    | (show Post _ _; first | exact h1 (by omega) (by omega) | exact h0 (by omega))
    | exact Or.inl rfl
    | exact Or.inr rfl
  all_goals try omega
theorem ru_listedHas (x : Int) (hx : smIR x) (h1 : 0 ≤ x → x ≤ 5 → bB (mem 16 0) x → Post (some (.inl 1)) mem) (h0 : ¬ (0 ≤ x ∧ x ≤ 5 ∧ bB (mem 16 0) x) → Post (some (.inl 0)) mem) : smRun 30 [oR 8 16, .inl x] mem Post := by
  refine smGo [9999] 30 rfl ?_
  have ha := and1 (smShr (mem 16 0) x)
  unfold smIR at hx
  repeat' first
    | refine And.intro ?_ ?_
    | intro _
    | (show smRun _ _ _ _; first | with_reducible refine ru_within _ _ _ ?_ ?_ ?_ ?_ ?_)
    | (show Post _ _; first | exact h1 (by omega) (by omega) (by omega) | exact h0 (by omega))
    | exact (smIR_and _ _).1
    | exact (smIR_and _ _).2
  all_goals try omega
theorem ru_isListed (x : Int) (hx : smIR x) (h1 : 0 ≤ x → x ≤ 5 → bB (mem 114 11) x → Post (some (.inl 1)) mem) (h0 : ¬ (0 ≤ x ∧ x ≤ 5 ∧ bB (mem 114 11) x) → Post (some (.inl 0)) mem) : smRun 157 [oR 11 114, .inl x] mem Post := by
  refine smGo [9999] 30 rfl ?_
  unfold smIR at hx
  repeat' first
    | refine And.intro ?_ ?_
    | intro _
    | (show smRun _ _ _ _; first | with_reducible refine ru_in _ _ _ ?_ ?_ ?_ ?_ ?_ | with_reducible refine ru_has _ _ ?_ ?_)
    | (show Post _ _; first | exact h1 (by omega) (by omega) (by assumption) | exact h0 (by omega))
  all_goals try omega
abbrev fThr (w r t : Int) : Prop := (0 ≤ w ∧ w ≤ 1) ∧ (1 ≤ r ∧ r ≤ 36) ∧ (1 ≤ t ∧ t ≤ 5)
theorem ru_isThrowC (w r t : Int) (hw : smIR w) (hr : smIR r) (ht : smIR t) (h1 : fThr w r t → Post (some (.inl 1)) mem) (h0 : ¬ fThr w r t → Post (some (.inl 0)) mem) : smRun 88 [.inl w, .inl r, .inl t] mem Post := by
  refine smGo [] 40 rfl ?_
  unfold smIR at hw hr ht
  repeat' first
    | refine And.intro ?_ ?_
    | intro _
    | (show smRun _ _ _ _; first | with_reducible refine ru_within _ _ _ ?_ ?_ ?_ ?_ ?_)
    | (show Post _ _; first | exact h1 (by omega) | exact h0 (by omega))
  all_goals try omega
theorem ru_isThrowR (w r t : Int) (hw : smIR w) (hr : smIR r) (ht : smIR t) (h1 : fThr w r t → Post (some (.inl 1)) mem) (h0 : ¬ fThr w r t → Post (some (.inl 0)) mem) : smRun 149 [.inl w, .inl r, .inl t] mem Post := by
  refine smGo [] 40 rfl ?_
  unfold smIR at hw hr ht
  repeat' first
    | refine And.intro ?_ ?_
    | intro _
    | (show smRun _ _ _ _; first | with_reducible refine ru_in _ _ _ ?_ ?_ ?_ ?_ ?_)
    | (show Post _ _; first | exact h1 (by omega) | exact h0 (by omega))
  all_goals try omega
/-- who of least number stands at a place, from q on -/
def fWhoN (th : Int) (at_ : Int → Int) (p : Int) : Nat → Int → Int
  | 0, _ => -6
  | n + 1, q => if bB th q ∧ at_ q = p then q else fWhoN th at_ p n (q + 1)
abbrev fWho (th : Int) (at_ : Int → Int) (p : Int) : Int := fWhoN th at_ p 5 0
theorem fWhoN_in (th : Int) (at_ : Int → Int) (p : Int) : ∀ (n : Nat) (q : Int), fWhoN th at_ p n q = -6 ∨ (q ≤ fWhoN th at_ p n q ∧ fWhoN th at_ p n q < q + n)
  | 0, q => Or.inl rfl
  | n + 1, q => by
    simp only [fWhoN]
    split
    · right; omega
    · rcases fWhoN_in th at_ p n (q + 1) with h | h
      · left; exact h
      · right; omega
theorem fWhoN_sp (th : Int) (at_ : Int → Int) (p : Int) : ∀ (n : Nat) (q : Int), fWhoN th at_ p n q = -6 ∨ (bB th (fWhoN th at_ p n q) ∧ at_ (fWhoN th at_ p n q) = p)
  | 0, q => Or.inl rfl
  | n + 1, q => by
    simp only [fWhoN]
    split
    · next h => right; exact h
    · exact fWhoN_sp th at_ p n (q + 1)
theorem ru_leastAt (w a : Nat) (ha : w + 4 = a) (p : Int) (hp : smIR p) (hat : ∀ q, 0 ≤ q → q < 5 → smIR (mem a q)) (h : Post (some (.inl (fWho (mem w 4) (mem a) p))) mem) : smRun 48 [oR 9 w, .inl p] mem Post := by
  have loop : ∀ (n : Nat) (q : Int), q = 5 - (n : Int) → n ≤ 5 → Post (some (.inl (fWhoN (mem w 4) (mem a) p n q))) mem → smWp 48 2 [some (oR 9 w), some (.inl p), some (.inl q)] [] mem Post := by
    subst ha
    intro n
    induction n with
    | zero =>
      intro q hq _ hpo
      refine smAt [2] 30 rfl ?_
      repeat' first
        | refine And.intro ?_ ?_
        | intro _
        | (show Post _ _; first | exact hpo)
      all_goals try omega
    | succ n ih =>
      intro q hq hn hpo
      have hr := hat q (by omega) (by omega)
      unfold smIR at hr hp
      simp only [fWhoN] at hpo
      have b1 := and1 (smShr (mem w 4) q)
      have b2 : smIR (smAnd (smShr (mem w 4) q) 1) := by unfold smIR; omega
      unfold smIR at b2
      refine smAt [2, 18, 30] 30 rfl ?_
      repeat' first
        | refine And.intro ?_ ?_
        | intro _
      all_goals try omega
      · refine smAt [2] 30 rfl ?_
        refine ih _ (by omega) (by omega) ?_
        rw [if_neg (fun z => by have := z.1; unfold bB at this; omega)] at hpo
        exact hpo
      · have hb : bB (mem w 4) q := bB_n0 (by assumption)
        refine smAt [2, 30] 30 rfl ?_
        repeat' first
          | refine And.intro ?_ ?_
          | intro _
        all_goals try omega
        · refine smAt [2] 30 rfl ?_
          refine ih _ (by omega) (by omega) ?_
          rw [if_neg (fun z => by have := z.2; omega)] at hpo
          exact hpo
        · rw [if_pos ⟨hb, by assumption⟩] at hpo
          exact hpo
  refine smGo [2] 30 rfl ?_
  exact loop 5 0 (by omega) (by omega) h
theorem ru_standsAt (p : Int) (hp : smIR p) (hat : ∀ q, 0 ≤ q → q < 5 → smIR (mem 117 q)) (h : Post (some (.inl (fWho (mem 114 2) (mem 117) p))) mem) : smRun 147 [oR 11 114, .inl p] mem Post := by
  have loop : ∀ (n : Nat), n ≤ 5 → smWp 147 5 [some (oR 11 114), some (.inl p), some (.inl (fWhoN (mem 114 2) (mem 117) p (5 - n) n)), some (.inl ((n : Int) - 1))] [] mem Post := by
    intro n
    induction n with
    | zero =>
      intro _
      refine smAt [5, 9999] 30 rfl ?_
      repeat' first
        | refine And.intro ?_ ?_
        | intro _
        | (show Post _ _; first | exact h)
      all_goals try omega
    | succ n ih =>
      intro hn
      have hr := hat n (by omega) (by omega)
      unfold smIR at hr hp
      have e : fWhoN (mem 114 2) (mem 117) p (5 - n) n = if bB (mem 114 2) n ∧ mem 117 n = p then (n : Int) else fWhoN (mem 114 2) (mem 117) p (5 - (n + 1)) ((n : Int) + 1) := by
        rw [show 5 - n = (5 - (n + 1)) + 1 by omega]
        rfl
      have ih := ih (by omega)
      rw [e] at ih
      refine smAt [5, 9999] 40 rfl ?_
      rw [show ((n + 1 : Nat) : Int) - 1 = (n : Int) by omega, show ((n + 1 : Nat) : Int) = (n : Int) + 1 by omega]
      repeat' first
        | refine And.intro ?_ ?_
        | intro _
        | (show smRun _ _ _ _; first | with_reducible refine ru_has _ _ ?_ ?_)
      all_goals try omega
      · rw [if_neg (fun z => by omega)] at ih
        exact ih
      · rw [if_pos ⟨by assumption, by assumption⟩] at ih
        exact ih
      · rw [if_neg (fun z => by omega)] at ih
        exact ih
  refine smGo [5, 9999] 30 rfl ?_
  exact loop 5 (by omega)
theorem ru_firstAt (p : Int) (hp : smIR p) (hat : ∀ q, 0 ≤ q → q < 5 → smIR (mem 126 q)) (h : Post (some (.inl (fWho (mem 114 2) (mem 126) p))) mem) : smRun 133 [oR 11 114, .inl p] mem Post := by
  have loop : ∀ (n : Nat), n ≤ 5 → smWp 133 5 [some (oR 11 114), some (.inl p), some (.inl (fWhoN (mem 114 2) (mem 126) p (5 - n) n)), some (.inl ((n : Int) - 1))] [] mem Post := by
    intro n
    induction n with
    | zero =>
      intro _
      refine smAt [5, 9999] 30 rfl ?_
      repeat' first
        | refine And.intro ?_ ?_
        | intro _
        | (show Post _ _; first | exact h)
      all_goals try omega
    | succ n ih =>
      intro hn
      have hr := hat n (by omega) (by omega)
      unfold smIR at hr hp
      have e : fWhoN (mem 114 2) (mem 126) p (5 - n) n = if bB (mem 114 2) n ∧ mem 126 n = p then (n : Int) else fWhoN (mem 114 2) (mem 126) p (5 - (n + 1)) ((n : Int) + 1) := by
        rw [show 5 - n = (5 - (n + 1)) + 1 by omega]
        rfl
      have ih := ih (by omega)
      rw [e] at ih
      refine smAt [5, 9999] 40 rfl ?_
      rw [show ((n + 1 : Nat) : Int) - 1 = (n : Int) by omega, show ((n + 1 : Nat) : Int) = (n : Int) + 1 by omega]
      repeat' first
        | refine And.intro ?_ ?_
        | intro _
        | (show smRun _ _ _ _; first | with_reducible refine ru_has _ _ ?_ ?_)
      all_goals try omega
      · rw [if_neg (fun z => by omega)] at ih
        exact ih
      · rw [if_pos ⟨by assumption, by assumption⟩] at ih
        exact ih
      · rw [if_neg (fun z => by omega)] at ih
        exact ih
  refine smGo [5, 9999] 30 rfl ?_
  exact loop 5 (by omega)
theorem ru_bits (s : Int) (h : Post (some (.inl (fPc s))) mem) : smRun 117 [.inl s] mem Post := by
  refine smGo [] 200 rfl ?_
  unfold fPc at h
  rw [← Int.zero_add (smAnd (smShr s 0) 1)] at h
  repeat' first
    | refine And.intro ?_ ?_
    | intro _
    | (show Post _ _; first | exact h)
  all_goals try omega
theorem fPc_bc : ∀ s : Int, 0 ≤ s → s < (512 : Nat) → smAnd ((smAnd ((smAnd (s - smAnd (smUsh s 1) 1431655765) 858993459 + smAnd (smUsh (s - smAnd (smUsh s 1) 1431655765) 2) 858993459) + smUsh (smAnd (s - smAnd (smUsh s 1) 1431655765) 858993459 + smAnd (smUsh (s - smAnd (smUsh s 1) 1431655765) 2) 858993459) 4) 252645135 + smUsh (smAnd ((smAnd (s - smAnd (smUsh s 1) 1431655765) 858993459 + smAnd (smUsh (s - smAnd (smUsh s 1) 1431655765) 2) 858993459) + smUsh (smAnd (s - smAnd (smUsh s 1) 1431655765) 858993459 + smAnd (smUsh (s - smAnd (smUsh s 1) 1431655765) 2) 858993459) 4) 252645135) 8) + smUsh (smAnd ((smAnd (s - smAnd (smUsh s 1) 1431655765) 858993459 + smAnd (smUsh (s - smAnd (smUsh s 1) 1431655765) 2) 858993459) + smUsh (smAnd (s - smAnd (smUsh s 1) 1431655765) 858993459 + smAnd (smUsh (s - smAnd (smUsh s 1) 1431655765) 2) 858993459) 4) 252645135 + smUsh (smAnd ((smAnd (s - smAnd (smUsh s 1) 1431655765) 858993459 + smAnd (smUsh (s - smAnd (smUsh s 1) 1431655765) 2) 858993459) + smUsh (smAnd (s - smAnd (smUsh s 1) 1431655765) 858993459 + smAnd (smUsh (s - smAnd (smUsh s 1) 1431655765) 2) 858993459) 4) 252645135) 8) 16) 63 = fPc s := fin1 512 (by decide +kernel)
theorem ru_bitCount (s : Int) (hs : 0 ≤ s ∧ s < 512) (h : Post (some (.inl (fPc s))) mem) : smRun 32 [.inl s] mem Post := by
  refine smGo [] 60 rfl ?_
  rw [← fPc_bc s hs.1 (by omega)] at h
  exact h
end
