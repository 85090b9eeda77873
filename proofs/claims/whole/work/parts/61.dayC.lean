/-! the day on the pad -/
def wfE (d : Int → Int) (n i : Int) : Prop := d i = 46 ∨ ((65 ≤ d i ∧ d i ≤ 69) ∧ i + 1 < n ∧ ((d (i + 1) = 43 ∨ d (i + 1) = 111 ∨ d (i + 1) = 107) ∨ ((d (i + 1) = 62 ∨ d (i + 1) = 60) ∧ i + 4 < n ∧ (48 ≤ d (i + 2) ∧ d (i + 2) ≤ 51) ∧ (48 ≤ d (i + 3) ∧ d (i + 3) ≤ 57) ∧ (1 ≤ 10 * (d (i + 2) - 48) + d (i + 3) - 48 ∧ 10 * (d (i + 2) - 48) + d (i + 3) - 48 ≤ 36) ∧ (49 ≤ d (i + 4) ∧ d (i + 4) ≤ 53))))
def evL (d : Int → Int) (i : Int) : Int := if d i = 46 then 1 else if d (i + 1) = 62 ∨ d (i + 1) = 60 then 5 else 2
theorem fw_st {d : Int → Int} {n : Int} {f : Nat} {i st : Int} (hi : 0 ≤ i) (hn : 0 ≤ n) (h : fwN d n f i st = -6) : (st = 0 ∧ f = 0) ∨ ∃ f', f = f' + 1 ∧ nxt st (d i) (bfr d i) ≠ -6 ∧ fwN d n f' (i + 1) (nxt st (d i) (bfr d i)) = -6 := by
  cases f with
  | zero =>
    simp only [fwN] at h
    split at h
    · next e => exact Or.inl ⟨e, rfl⟩
    · omega
  | succ f =>
    simp only [fwN] at h
    split at h
    · omega
    · next e => exact Or.inr ⟨f, rfl, e, h⟩
/-- a text without fault: an event, and then again such a text -/
theorem ev_wf {d : Int → Int} {n : Int} {f : Nat} {i : Int} (hi : 0 ≤ i) (hn : 0 ≤ n) (hf : i + f = n) (f0 : f ≠ 0) (h : fwN d n f i 0 = -6) : wfE d n i ∧ ∃ f' : Nat, i + evL d i + f' = n ∧ f' < f ∧ fwN d n f' (i + evL d i) 0 = -6 := by
  rcases fw_st hi hn h with ⟨_, z⟩ | ⟨f1, e1, n1, h1⟩
  · exact absurd z f0
  by_cases c1 : d i = 46
  · have e : nxt 0 (d i) (bfr d i) = 0 := by unfold nxt; rw [if_pos rfl, if_pos c1]
    rw [e] at h1
    refine ⟨Or.inl c1, f1, ?_, by omega, ?_⟩
    · unfold evL; rw [if_pos c1]; omega
    · unfold evL; rw [if_pos c1]; exact h1
  have c2 : 65 ≤ d i ∧ d i ≤ 69 := by
    unfold nxt at n1
    rw [if_pos rfl, if_neg c1] at n1
    by_cases c : 65 ≤ d i ∧ d i ≤ 69
    · exact c
    · rw [if_neg c] at n1; omega
  have e : nxt 0 (d i) (bfr d i) = 1 := by unfold nxt; rw [if_pos rfl, if_neg c1, if_pos c2]
  rw [e] at h1
  rcases fw_st (by omega) hn h1 with ⟨z, _⟩ | ⟨f2, e2, n2, h2⟩
  · omega
  by_cases c3 : d (i + 1) = 62 ∨ d (i + 1) = 60
  · have e3 : nxt 1 (d (i + 1)) (bfr d (i + 1)) = 2 := by unfold nxt; rw [if_neg (by decide), if_pos rfl, if_pos c3]
    rw [e3] at h2
    rcases fw_st (by omega) hn h2 with ⟨z, _⟩ | ⟨f3, e3, n3, h3⟩
    · omega
    have c4 : 48 ≤ d (i + 1 + 1) ∧ d (i + 1 + 1) ≤ 51 := by
      unfold nxt at n3
      rw [if_neg (by decide), if_neg (by decide), if_pos rfl] at n3
      by_cases c : 48 ≤ d (i + 1 + 1) ∧ d (i + 1 + 1) ≤ 51
      · exact c
      · rw [if_neg c] at n3; omega
    have e4 : nxt 2 (d (i + 1 + 1)) (bfr d (i + 1 + 1)) = 3 := by unfold nxt; rw [if_neg (by decide), if_neg (by decide), if_pos rfl, if_pos c4]
    rw [e4] at h3
    rcases fw_st (by omega) hn h3 with ⟨z, _⟩ | ⟨f4, e4, n4, h4⟩
    · omega
    have eb : bfr d (i + 1 + 1 + 1) = d (i + 1 + 1) := by
      unfold bfr
      rw [if_neg (by omega)]
      congr 1
      omega
    have c5 : (48 ≤ d (i + 1 + 1 + 1) ∧ d (i + 1 + 1 + 1) ≤ 57) ∧ (1 ≤ 10 * (d (i + 1 + 1) - 48) + d (i + 1 + 1 + 1) - 48 ∧ 10 * (d (i + 1 + 1) - 48) + d (i + 1 + 1 + 1) - 48 ≤ 36) := by
      unfold nxt at n4
      rw [eb, if_neg (by decide), if_neg (by decide), if_neg (by decide), if_pos rfl] at n4
      by_cases c : (48 ≤ d (i + 1 + 1 + 1) ∧ d (i + 1 + 1 + 1) ≤ 57) ∧ (1 ≤ 10 * (d (i + 1 + 1) - 48) + d (i + 1 + 1 + 1) - 48 ∧ 10 * (d (i + 1 + 1) - 48) + d (i + 1 + 1 + 1) - 48 ≤ 36)
      · exact c
      · rw [if_neg c] at n4; omega
    have e5 : nxt 3 (d (i + 1 + 1 + 1)) (bfr d (i + 1 + 1 + 1)) = 4 := by unfold nxt; rw [eb, if_neg (by decide), if_neg (by decide), if_neg (by decide), if_pos rfl, if_pos c5]
    rw [e5] at h4
    rcases fw_st (by omega) hn h4 with ⟨z, _⟩ | ⟨f5, e5, n5, h5⟩
    · omega
    have c6 : 49 ≤ d (i + 1 + 1 + 1 + 1) ∧ d (i + 1 + 1 + 1 + 1) ≤ 53 := by
      unfold nxt at n5
      rw [if_neg (by decide), if_neg (by decide), if_neg (by decide), if_neg (by decide)] at n5
      by_cases c : 49 ≤ d (i + 1 + 1 + 1 + 1) ∧ d (i + 1 + 1 + 1 + 1) ≤ 53
      · exact c
      · rw [if_neg c] at n5; omega
    have e6 : nxt 4 (d (i + 1 + 1 + 1 + 1)) (bfr d (i + 1 + 1 + 1 + 1)) = 0 := by unfold nxt; rw [if_neg (by decide), if_neg (by decide), if_neg (by decide), if_neg (by decide), if_pos c6]
    rw [e6] at h5
    have i2 : i + 1 + 1 = i + 2 := by omega
    have i3 : i + 1 + 1 + 1 = i + 3 := by omega
    have i4 : i + 1 + 1 + 1 + 1 = i + 4 := by omega
    have i5 : i + 1 + 1 + 1 + 1 + 1 = i + 5 := by omega
    rw [i5] at h5
    rw [i4] at c6
    rw [i3, i2] at c5
    rw [i2] at c4
    have eL : evL d i = 5 := by unfold evL; rw [if_neg c1, if_pos c3]
    refine ⟨Or.inr ⟨c2, by omega, Or.inr ⟨c3, by omega, c4, c5.1, c5.2, c6⟩⟩, f5, ?_, by omega, ?_⟩
    · rw [eL]; omega
    · rw [eL]; exact h5
  · have c4 : d (i + 1) = 43 ∨ d (i + 1) = 111 ∨ d (i + 1) = 107 := by
      unfold nxt at n2
      rw [if_neg (by decide), if_pos rfl, if_neg c3] at n2
      by_cases c : d (i + 1) = 43 ∨ d (i + 1) = 111 ∨ d (i + 1) = 107
      · exact c
      · rw [if_neg c] at n2; omega
    have e3 : nxt 1 (d (i + 1)) (bfr d (i + 1)) = 0 := by unfold nxt; rw [if_neg (by decide), if_pos rfl, if_neg c3, if_pos c4]
    rw [e3] at h2
    have i2 : i + 1 + 1 = i + 2 := by omega
    rw [i2] at h2
    have eL : evL d i = 2 := by unfold evL; rw [if_neg c1, if_neg c3]
    refine ⟨Or.inr ⟨c2, by omega, Or.inl c4⟩, f2, ?_, by omega, ?_⟩
    · rw [eL]; omega
    · rw [eL]; exact h2
def fTw (S : sS) (q r : Int) : Int := if isT S q then (if S 7 q = 0 then 2 else if S 6 q < r then 3 else if S 9 0 = 12 then 4 else 0) else 1
def fPw (S : sS) (q : Int) : Int := if isT S q then (if S 2 (S 5 q) = 0 then 5 else 0) else 1
def fWw (S : sS) (q : Int) : Int := if isT S q then 0 else 1
theorem fTw_r (S : sS) (q r : Int) : wyT S q r (fTw S q r) := by
  unfold wyT fTw
  by_cases c : isT S q
  · rw [if_pos c]
    repeat' split
    all_goals omega
  · rw [if_neg c]
    exact Or.inl ⟨c, rfl⟩
theorem fPw_r (S : sS) (q : Int) : wyP S q (fPw S q) := by
  unfold wyP fPw
  by_cases c : isT S q
  · rw [if_pos c]
    repeat' split
    all_goals omega
  · rw [if_neg c]
    exact Or.inl ⟨c, rfl⟩
theorem fWw_r (S : sS) (q : Int) : wyW S q (fWw S q) := by
  unfold wyW fWw
  by_cases c : isT S q
  · rw [if_pos c]; exact Or.inr ⟨c, rfl⟩
  · rw [if_neg c]; exact Or.inl ⟨c, rfl⟩
abbrev eRch (d : Int → Int) (i : Int) : Int := 10 * (d (i + 2) - 48) + d (i + 3) - 48
def evY (d : Int → Int) (S : sS) (i : Int) : Int := if d i = 46 then 0 else if d (i + 1) = 62 ∨ d (i + 1) = 60 then fTw S (d i - 65) (eRch d i) else if d (i + 1) = 43 then fPw S (d i - 65) else fWw S (d i - 65)
def evS (d : Int → Int) (S : sS) (i : Int) : sS := if d i = 46 then pM S else if d (i + 1) = 62 ∨ d (i + 1) = 60 then thS S (d i - 65) (if d (i + 1) = 62 then 0 else 1) (eRch d i) (d (i + 4) - 48) else if d (i + 1) = 43 then puS S (d i - 65) else wkS S (d i - 65) (if d (i + 1) = 111 then 0 else 1)
theorem evY_in {d : Int → Int} {S : sS} {i : Int} : 0 ≤ evY d S i ∧ evY d S i ≤ 5 := by
  unfold evY fTw fPw fWw
  repeat' split
  all_goals omega
theorem evS_ok {N n : Int} {d : Int → Int} {S : sS} {i : Int} (ho : okW N S) (hN : 0 ≤ N) (wf : wfE d n i) (hy : evY d S i = 0) : okW (N + 12) (evS d S i) := by
  unfold evY at hy
  unfold evS
  by_cases c1 : d i = 46
  · rw [if_pos c1]; exact pM_ok ho hN
  rw [if_neg c1] at hy ⊢
  unfold wfE at wf
  by_cases c2 : d (i + 1) = 62 ∨ d (i + 1) = 60
  · rw [if_pos c2] at hy ⊢
    have w := fTw_r S (d i - 65) (eRch d i)
    rw [hy] at w
    refine okW_mono (thS_ok ho ⟨?_, ?_, ?_⟩ w) (by omega)
    · split <;> omega
    · unfold eRch; omega
    · omega
  rw [if_neg c2] at hy ⊢
  by_cases c3 : d (i + 1) = 43
  · rw [if_pos c3] at hy ⊢
    have w := fPw_r S (d i - 65)
    rw [hy] at w
    exact okW_mono (puS_ok ho w) (by omega)
  · rw [if_neg c3] at hy ⊢
    have w := fWw_r S (d i - 65)
    rw [hy] at w
    exact okW_mono (wkS_ok ho w) (by omega)
def hiE (S S' : sS) : Prop := S' 0 0 = S 0 0 ∧ ∀ k, 15 ≤ k → k ≤ 25 → ∀ j, S' k j = S k j
theorem hiE_tr {A B C : sS} (h1 : hiE A B) (h2 : hiE B C) : hiE A C := ⟨h2.1.trans h1.1, fun k x y j => (h2.2 k x y j).trans (h1.2 k x y j)⟩
theorem k1525 {P : Nat → Prop} (h : P 15 ∧ P 16 ∧ P 17 ∧ P 18 ∧ P 19 ∧ P 20 ∧ P 21 ∧ P 22 ∧ P 23 ∧ P 24 ∧ P 25) : ∀ k, 15 ≤ k → k ≤ 25 → P k := by
  intro k a b
  have hk : k = 15 ∨ k = 16 ∨ k = 17 ∨ k = 18 ∨ k = 19 ∨ k = 20 ∨ k = 21 ∨ k = 22 ∨ k = 23 ∨ k = 24 ∨ k = 25 := by omega
  obtain ⟨h1, h2, h3, h4, h5, h6, h7, h8, h9, h10, h11⟩ := h
  rcases hk with e | e | e | e | e | e | e | e | e | e | e <;> subst e <;> assumption
theorem evS_hi (d : Int → Int) (S : sS) (i : Int) : hiE S (evS d S i) := by
  unfold evS
  repeat' split
  all_goals refine ⟨rfl, k1525 ⟨fun _ => rfl, fun _ => rfl, fun _ => rfl, fun _ => rfl, fun _ => rfl, fun _ => rfl, fun _ => rfl, fun _ => rfl, fun _ => rfl, fun _ => rfl, fun _ => rfl⟩⟩
/-- the day's course -/
def plN (d : Int → Int) (n : Int) : Nat → Int → Int → sS → Int × Int × sS
  | 0, _, e, S => (0, e, S)
  | f + 1, i, e, S => if n ≤ i then (0, e, S) else if evY d S i = 0 then plN d n f (i + evL d i) (e + 1) (evS d S i) else (evY d S i, e, S)
def plF (d : Int → Int) (n : Int) (S : sS) : Int × Int × sS := plN d n n.toNat 0 0 S
def sg (d : Int → Int) (n i : Int) : Int := if 0 ≤ i ∧ i < n then d i else 0
section
variable {mem : smM} {Post : Option smV → smM → Prop} {N : Int} {S : sS} {n : Int} {d : Int → Int}
theorem ru_sg (i : Int) (hi : smIR i) (hp : padC mem n d) (hn : 0 ≤ n ∧ n ≤ 60) (h : Post (some (.inl (sg d n i))) mem) : smRun 43 [oR 5 93, .inl i] mem Post := by
  unfold sg at h
  refine ru_signAt i hi hp hn (fun a b => ?_) (fun a => ?_)
  · rw [if_pos ⟨a, b⟩] at h; exact h
  · rw [if_neg a] at h; exact h
theorem sg_in {i : Int} (h : 0 ≤ i ∧ i < n) : sg d n i = d i := by
  unfold sg
  rw [if_pos h]
theorem ru_eventLength (i : Int) (hi : 0 ≤ i ∧ i < n) (hp : padC mem n d) (ho : okP n d) (wf : wfE d n i) (h : Post (some (.inl (evL d i))) mem) : smRun 57 [oR 5 93, .inl i] mem Post := by
  have on := ho.1
  have oi := ho.2 i hi.1 hi.2
  have key : ∀ x, x = evL d i → Post (some (.inl x)) mem := fun x e => by rw [e]; exact h
  unfold evL at key
  unfold wfE at wf
  refine smGo [5, 9999] 60 rfl ?_
  refine ru_sg i (by unfold smIR; omega) hp on ?_
  rw [sg_in hi]
  by_cases c : d i = 46
  · refine smAt [12, 9999] 60 rfl ?_
    repeat' first
      | refine And.intro ?_ ?_
      | intro _
    all_goals try omega
    exact key 1 (by rw [if_pos c])
  · have s1 : sg d n (i + 1) = d (i + 1) := sg_in (by omega)
    have o1 := ho.2 (i + 1) (by omega) (by omega)
    refine smAt [12, 9999] 60 rfl ?_
    repeat' first
      | refine And.intro ?_ ?_
      | intro _
    all_goals try omega
    refine smAt [19, 9999] 60 rfl ?_
    refine ru_sg (i + 1) (by unfold smIR; omega) hp on ?_
    rw [s1]
    refine smAt [24, 36, 9999] 60 rfl ?_
    repeat' first
      | refine And.intro ?_ ?_
      | intro _
    all_goals try omega
    · refine smAt [9999] 60 rfl ?_
      exact key 5 (by rw [if_neg c, if_pos (by omega)])
    · refine smAt [31, 9999] 60 rfl ?_
      refine ru_sg (i + 1) (by unfold smIR; omega) hp on ?_
      rw [s1]
      refine smAt [9999] 60 rfl ?_
      repeat' first
        | refine And.intro ?_ ?_
        | intro _
      all_goals try omega
      · exact key 2 (by rw [if_neg c, if_neg (by omega)])
      · exact key 5 (by rw [if_neg c, if_pos (by omega)])
set_option maxRecDepth 4000 in
theorem ru_playEvent (i : Int) (hi : 0 ≤ i ∧ i < n) (hp : padC mem n d) (hop : okP n d) (wf : wfE d n i) (hk : wT mem S) (ho : okW N S) (hN : N ≤ 1002000) (h0 : evY d S i = 0 → ∀ m, wT m (evS d S i) → kW mem m → Post (some (.inl 0)) m) (h1 : evY d S i ≠ 0 → Post (some (.inl (evY d S i))) mem) : smRun 56 [oR 5 93, oR 9 79, .inl i] mem Post := by
  have on := hop.1
  have oi := hop.2 i hi.1 hi.2
  unfold evY evS at h0
  unfold evY at h1
  unfold wfE at wf
  refine smGo [5, 9999] 60 rfl ?_
  refine ru_sg i (by unfold smIR; omega) hp on ?_
  rw [sg_in hi]
  by_cases c : d i = 46
  · rw [if_pos c, if_pos c] at h0
    refine smAt [10, 17, 9999] 60 rfl ?_
    repeat' first
      | refine And.intro ?_ ?_
      | intro _
    all_goals try omega
    refine smAt [9999] 60 rfl ?_
    refine ru_passMinute hk ho (fun m g1 g2 => ?_)
    exact h0 rfl m g1 g2
  · rw [if_neg c, if_neg c] at h0
    rw [if_neg c] at h1
    have s1 : sg d n (i + 1) = d (i + 1) := sg_in (by omega)
    have o1 := hop.2 (i + 1) (by omega) (by omega)
    have hq : smIR (d i - 65) := by unfold smIR; omega
    refine smAt [10, 17, 9999] 60 rfl ?_
    repeat' first
      | refine And.intro ?_ ?_
      | intro _
    all_goals try omega
    refine smAt [22, 9999] 60 rfl ?_
    refine ru_sg i (by unfold smIR; omega) hp on ?_
    rw [sg_in hi]
    refine smAt [33, 9999] 60 rfl ?_
    refine ru_sg (i + 2) (by unfold smIR; omega) hp on ?_
    refine smAt [40, 9999] 60 rfl ?_
    refine ru_sg (i + 3) (by unfold smIR; omega) hp on ?_
    refine smAt [43, 9999] 60 rfl ?_
    refine ru_number _ _ ?_
    refine smAt [52, 9999] 60 rfl ?_
    refine ru_sg (i + 4) (by unfold smIR; omega) hp on ?_
    refine smAt [64, 9999] 60 rfl ?_
    refine ru_sg (i + 1) (by unfold smIR; omega) hp on ?_
    rw [s1]
    by_cases c2 : d (i + 1) = 62 ∨ d (i + 1) = 60
    · rw [if_pos c2, if_pos c2] at h0
      rw [if_pos c2] at h1
      have s2 : sg d n (i + 2) = d (i + 2) := sg_in (by omega)
      have s3 : sg d n (i + 3) = d (i + 3) := sg_in (by omega)
      have s4 : sg d n (i + 4) = d (i + 4) := sg_in (by omega)
      rw [s2, s3, s4]
      refine smAt [9999] 60 rfl ?_
      repeat' first
        | refine And.intro ?_ ?_
        | intro _
      all_goals try omega
      · rw [if_neg (by omega)] at h0
        refine ru_throwStone _ 1 (eRch d i) (d (i + 4) - 48) hq ⟨by omega, by unfold eRch; omega, by omega⟩ hk ho hN (fun y m g1 g2 => ?_) (fun y y1 y2 => ?_)
        · exact h0 (wyT_uni (fTw_r S _ _) y) m g1 g2
        · have e := wyT_uni y1 (fTw_r S (d i - 65) (eRch d i))
          rw [← e] at h1
          exact h1 y2
      · rw [if_pos (by omega)] at h0
        refine ru_throwStone _ 0 (eRch d i) (d (i + 4) - 48) hq ⟨by omega, by unfold eRch; omega, by omega⟩ hk ho hN (fun y m g1 g2 => ?_) (fun y y1 y2 => ?_)
        · exact h0 (wyT_uni (fTw_r S _ _) y) m g1 g2
        · have e := wyT_uni y1 (fTw_r S (d i - 65) (eRch d i))
          rw [← e] at h1
          exact h1 y2
    · rw [if_neg c2, if_neg c2] at h0
      rw [if_neg c2] at h1
      by_cases c3 : d (i + 1) = 43
      · rw [if_pos c3, if_pos c3] at h0
        rw [if_pos c3] at h1
        refine smAt [9999] 60 rfl ?_
        repeat' first
          | refine And.intro ?_ ?_
          | intro _
        all_goals try omega
        refine ru_pickUp _ hq hk ho hN (fun y m g1 g2 => ?_) (fun y y1 y2 => ?_)
        · exact h0 (wyP_uni (fPw_r S _) y) m g1 g2
        · have e := wyP_uni y1 (fPw_r S (d i - 65))
          rw [← e] at h1
          exact h1 y2
      · rw [if_neg c3, if_neg c3] at h0
        rw [if_neg c3] at h1
        refine smAt [9999] 60 rfl ?_
        repeat' first
          | refine And.intro ?_ ?_
          | intro _
        all_goals try omega
        · rw [if_pos (by omega)] at h0
          refine ru_walk _ 0 hq (Or.inl rfl) hk ho (fun y m g1 g2 => ?_) (fun y y1 y2 => ?_)
          · exact h0 (wyW_uni (fWw_r S _) y) m g1 g2
          · have e := wyW_uni y1 (fWw_r S (d i - 65))
            rw [← e] at h1
            exact h1 y2
        · rw [if_neg (by omega)] at h0
          refine ru_walk _ 1 hq (Or.inr rfl) hk ho (fun y m g1 g2 => ?_) (fun y y1 y2 => ?_)
          · exact h0 (wyW_uni (fWw_r S _) y) m g1 g2
          · have e := wyW_uni y1 (fWw_r S (d i - 65))
            rw [← e] at h1
            exact h1 y2
def kY (mem mem' : smM) : Prop := ∀ k i, (k < 79 ∨ 92 < k) → (k = 93 → i ≠ 1 ∧ i ≠ 2) → mem' k i = mem k i
theorem kY_keep {a b : smM} (h : kY a b) : keepC a b := ⟨fun k i hk => h k i (by omega) (by omega), h 93 0 (by omega) (by omega)⟩
set_option maxRecDepth 4000 in
theorem ru_play (hp : padC mem n d) (hop : okP n d) (hw : fwF d n = -6) (hk : wT mem S) (ho : okW N S) (hN : 0 ≤ N ∧ N ≤ 1000000) (h : ∀ m, kY mem m → m 93 1 = (plF d n S).2.1 → m 93 2 = (plF d n S).1 → ((plF d n S).1 = 0 → wT m (plF d n S).2.2 ∧ okW (N + 720) (plF d n S).2.2 ∧ hiE S (plF d n S).2.2) → Post (some (.inl (if (plF d n S).1 = 0 then 1 else 0))) m) : smRun 58 [oR 5 93, oR 9 79] mem Post := by
  have on := hop.1
  have loop : ∀ (f g : Nat) (i e : Int) (T : sS) (m : smM), i + f = n → f ≤ g → 0 ≤ i → (0 ≤ e ∧ e ≤ i) → fwN d n f i 0 = -6 → plN d n g i e T = plF d n S → kY mem m → m 93 1 = e → m 93 2 = 0 → wT m T → okW (N + 12 * e) T → hiE S T → smWp 58 12 [some (oR 5 93), some (oR 9 79), some (.inl i)] [] m Post := by
    intro f
    induction f using Nat.strongRecOn with
    | ind f ih =>
      intro g i e T m hf hg i0 he hfw hpl km m1 m2 wt ok1 hi
      have pm : padC m n d := ⟨by rw [km 93 0 (by omega) (by omega)]; exact hp.1, fun j x y => by rw [km 94 j (by omega) (by omega)]; exact hp.2 j x y⟩
      have p0 := pm.1
      by_cases f0 : f = 0
      · have ei : n ≤ i := by omega
        have ep : plN d n g i e T = (0, e, T) := by
          cases g with
          | zero => rfl
          | succ g => simp only [plN]; rw [if_pos ei]
        rw [ep] at hpl
        have q := h m km (by rw [m1, ← hpl]) (by rw [m2, ← hpl]) (fun _ => by rw [← hpl]; exact ⟨wt, okW_mono ok1 (by omega), hi⟩)
        rw [← hpl, if_pos rfl] at q
        refine smAt [12, 69, 9999] 60 rfl ?_
        repeat' first
          | refine And.intro ?_ ?_
          | intro _
        all_goals try omega
        refine smAt [9999] 60 rfl ?_
        exact ⟨Or.inr rfl, q⟩
      · obtain ⟨wf, f', hf', lt', hfw'⟩ := ev_wf i0 on.1 hf f0 hfw
        have eL : evL d i = 1 ∨ evL d i = 2 ∨ evL d i = 5 := by
          unfold evL
          repeat' split
          all_goals omega
        cases g with
        | zero => omega
        | succ g =>
        have ey := evY_in (d := d) (S := T) (i := i)
        simp only [plN] at hpl
        rw [if_neg (by omega)] at hpl
        refine smAt [12, 29, 69, 9999] 60 rfl ?_
        repeat' first
          | refine And.intro ?_ ?_
          | intro _
        all_goals try omega
        refine smAt [12, 36, 9999] 60 rfl ?_
        refine ru_playEvent i ⟨i0, by omega⟩ pm hop wf wt ok1 (by omega) (fun y m3 g1 g2 => ?_) (fun y => ?_)
        · rw [if_pos y] at hpl
          refine smAt [12, 39, 9999] 60 rfl ?_
          have a1 : smU m3 93 2 0 93 1 = e := by rw [smU_d (by decide), g2 93 1 (by omega)]; exact m1
          have a2 : smU m3 93 2 0 93 2 = 0 := smU_s
          have pm3 : padC (smU m3 93 2 0) n d := ⟨by rw [smU_d (by decide), g2 93 0 (by omega)]; exact p0, fun j x y => by rw [smU_ne (by decide), g2 94 j (by omega)]; exact pm.2 j x y⟩
          have wt4 : wT (smU m3 93 2 0) (evS d T i) := g1
          have km4 : kY mem (smU m3 93 2 0) := fun k j z1 z2 => by rw [smU_o (by omega), g2 k j (by omega)]; exact km k j z1 z2
          show smWp 58 39 [some (oR 5 93), some (oR 9 79), some (.inl i)] [] (smU m3 93 2 0) Post
          generalize smU m3 93 2 0 = m4 at *
          refine smAt [12, 48, 9999] 60 rfl ?_
          repeat' first
            | refine And.intro ?_ ?_
            | intro _
          all_goals try omega
          refine smAt [12, 9999] 60 rfl ?_
          refine ru_eventLength i ⟨i0, by omega⟩ pm3 hop wf ?_
          refine ih f' lt' g (i + evL d i) (e + 1) (evS d T i) _ hf' (by omega) (by omega) (by omega) hfw' hpl (fun k j z1 z2 => ?_) ?_ ?_ ?_ ?_ (hiE_tr hi (evS_hi d T i))
          · rw [smU_o (by omega)]; exact km4 k j z1 z2
          · rw [smU_s, a1]
          · rw [smU_d (by decide)]; exact a2
          · exact wt4
          · have := evS_ok ok1 (by omega) wf y
            rw [show N + 12 * (e + 1) = N + 12 * e + 12 by omega]
            exact this
        · rw [if_neg y] at hpl
          refine smAt [12, 39, 9999] 60 rfl ?_
          have q := h (smU m 93 2 (evY d T i)) (fun k j z1 z2 => by rw [smU_o (by omega)]; exact km k j z1 z2) (by rw [smU_d (by decide), m1, ← hpl]) (by rw [smU_s, ← hpl]) (fun z => by rw [← hpl] at z; exact absurd z y)
          rw [← hpl, if_neg y] at q
          have a2 : smU m 93 2 (evY d T i) 93 2 = evY d T i := smU_s
          show smWp 58 39 [some (oR 5 93), some (oR 9 79), some (.inl i)] [] (smU m 93 2 (evY d T i)) Post
          generalize smU m 93 2 (evY d T i) = m4 at *
          refine smAt [12, 48, 9999] 60 rfl ?_
          repeat' first
            | refine And.intro ?_ ?_
            | intro _
          all_goals try omega
  refine smGo [12, 9999] 60 rfl ?_
  refine loop n.toNat n.toNat 0 0 S _ (by omega) (by omega) (by omega) (by omega) hw rfl (fun k j z1 z2 => ?_) ?_ ?_ hk (by rw [show N + 12 * 0 = N by omega]; exact ho) ⟨rfl, fun _ _ _ _ => rfl⟩
  · rw [smU_o (by omega), smU_o (by omega)]
  · rw [smU_d (by decide), smU_s]
  · rw [smU_s]
end
