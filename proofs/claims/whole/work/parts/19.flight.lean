/-! one flight: as pure words -/
def fPos (p w n : Int) : Nat → Int
  | 0 => p
  | k + 1 => fNx (fPos p w n k) w n
theorem fNx_in {p w n : Int} (hp : 0 ≤ p ∧ p < n) : 0 ≤ fNx p w n ∧ fNx p w n < n := by
  unfold fNx
  repeat' split
  all_goals omega
theorem fPos_in {p w n : Int} (hp : 0 ≤ p ∧ p < n) : ∀ k : Nat, 0 ≤ fPos p w n k ∧ fPos p w n k < n
  | 0 => hp
  | k + 1 => fNx_in (fPos_in hp k)
theorem fH_in {k r t : Int} (hk : 0 ≤ k ∧ k ≤ r) (ht : 0 ≤ t ∧ t ≤ 5) : 0 ≤ fH k r t ∧ fH k r t ≤ 5 := by
  unfold fH
  repeat' split
  all_goals omega
theorem fH_0 {r t : Int} (hr : 1 ≤ r) (ht : 1 ≤ t) : fH 0 r t = 0 := by
  unfold fH
  repeat' split
  all_goals omega
theorem fH_r {r t : Int} (hr : 1 ≤ r) (ht : 1 ≤ t) : fH r r t = 0 := by
  unfold fH
  repeat' split
  all_goals omega
theorem fH_pos {k r t : Int} (h0 : 0 < k) (h1 : k < r) (ht : 1 ≤ t) : 1 ≤ fH k r t := by
  unfold fH
  repeat' split
  all_goals omega
/-- it ends behind the k-th minute -/
abbrev fEn (hd : Int → Int) (cb : Int → Bool) (n p w r t : Int) (k : Nat) : Prop := fH k r t < hd (fPos p w n k) ∨ ((fH k r t = 1 ∨ fH k r t = 2) ∧ cb (fPos p w n k) = true) ∨ r ≤ k
def flN (hd : Int → Int) (cb : Int → Bool) (n p w r t : Int) : Nat → Nat → Nat
  | 0, k => k
  | f + 1, k => if fEn hd cb n p w r t (k + 1) then k + 1 else flN hd cb n p w r t f (k + 1)
def flT (hd : Int → Int) (cb : Int → Bool) (n p w r t : Int) : Nat := flN hd cb n p w r t 36 0
def cbs (ca : Int → Int) : Int → Bool := fun q => decide (ca q ≠ -6)
def flH (hd : Int → Int) (cb : Int → Bool) (n p w r t : Int) (k : Nat) : Int := if fH k r t < hd (fPos p w n k) then 1 else if (fH k r t = 1 ∨ fH k r t = 2) ∧ cb (fPos p w n k) = true then 2 else 0
theorem flN_ge (hd : Int → Int) (cb : Int → Bool) (n p w r t : Int) : ∀ (f k : Nat), k ≤ flN hd cb n p w r t f k ∧ flN hd cb n p w r t f k ≤ k + f
  | 0, k => ⟨Nat.le_refl _, Nat.le_refl _⟩
  | f + 1, k => by
    simp only [flN]
    split
    · omega
    · have := flN_ge hd cb n p w r t f (k + 1)
      omega
/-- behind k minutes it has not ended, and f more are enough: it ends at flN f k -/
theorem flN_end (hd : Int → Int) (cb : Int → Bool) (n p w r t : Int) : ∀ (f k : Nat), r ≤ k + f → 1 ≤ f → fEn hd cb n p w r t (flN hd cb n p w r t f k)
  | 0, k, _, h => by omega
  | f + 1, k, h, _ => by
    simp only [flN]
    split
    · assumption
    · next h2 =>
      rcases Nat.eq_zero_or_pos f with h3 | h3
      · subst h3
        exfalso
        exact h2 (Or.inr (Or.inr (by omega)))
      · exact flN_end hd cb n p w r t f (k + 1) (by omega) h3
theorem flN_not (hd : Int → Int) (cb : Int → Bool) (n p w r t : Int) : ∀ (f k j : Nat), k < j → j < flN hd cb n p w r t f k → ¬ fEn hd cb n p w r t j
  | 0, k, j, h1, h2 => by simp only [flN] at h2; omega
  | f + 1, k, j, h1, h2 => by
    simp only [flN] at h2
    split at h2
    · omega
    · next h3 =>
      by_cases e : j = k + 1
      · subst e; exact h3
      · exact flN_not hd cb n p w r t f (k + 1) j (by omega) h2
theorem flN_congr {hd hd' : Int → Int} {cb cb' : Int → Bool} {n p w r t : Int} (hp : 0 ≤ p ∧ p < n) (h : ∀ q, 0 ≤ q → q < n → hd q = hd' q ∧ cb q = cb' q) : ∀ (f k : Nat), flN hd cb n p w r t f k = flN hd' cb' n p w r t f k
  | 0, k => rfl
  | f + 1, k => by
    have h1 := fPos_in (w := w) hp (k + 1)
    have h2 := h _ h1.1 h1.2
    simp only [flN, fEn, h2.1, h2.2, flN_congr hp h f (k + 1)]
theorem flH_congr {hd hd' : Int → Int} {cb cb' : Int → Bool} {n p w r t : Int} (hp : 0 ≤ p ∧ p < n) (h : ∀ q, 0 ≤ q → q < n → hd q = hd' q ∧ cb q = cb' q) (k : Nat) : flH hd cb n p w r t k = flH hd' cb' n p w r t k := by
  have h1 := fPos_in (w := w) hp k
  have h2 := h _ h1.1 h1.2
  simp only [flH, h2.1, h2.2]
section
variable {mem : smM} {Post : Option smV → smM → Prop} {N : Int} {S : sS}
/-- the scene, as the class has it -/
def scn (mem : smM) (n : Int) (hd ca : Int → Int) : Prop := mem 95 0 = n ∧ ∀ p, 0 ≤ p → p < n → mem 96 p = hd p ∧ mem 97 p = ca p
theorem ru_look (b : Int) (hb : b = 0 ∨ b = 1) (hk : wC mem S) (ho : okW N S) (h : ∀ mem', scn mem' (S 0 0) (S 1) (fun p => if b = 0 then -6 else fWho (S 4 0) (S 5) p) → (∀ k i, k ≠ 95 → k ≠ 96 → k ≠ 97 → mem' k i = mem k i) → Post none mem') : smRun 59 [oR 6 95, oR 9 2, .inl b] mem Post := by
  obtain ⟨kP, kT, kN, kp, kq, ki⟩ := hk
  obtain ⟨oP, oT, oA, op, oq, oi⟩ := ho
  have loop : ∀ (n : Nat) (j : Int) (m : smM), j = S 0 0 - (n : Int) → 0 ≤ j → m 95 0 = S 0 0 → (∀ p, 0 ≤ p → p < j → m 96 p = S 1 p ∧ m 97 p = if b = 0 then -6 else fWho (S 4 0) (S 5) p) → (∀ k i, k ≠ 95 → k ≠ 96 → k ≠ 97 → m k i = mem k i) → smWp 59 10 [some (oR 6 95), some (oR 9 2), some (.inl b), some (.inl j)] [] m Post := by
    intro n
    induction n with
    | zero =>
      intro j m hj h0 h1 h2 h3
      refine smAt [10, 9999] 30 rfl ?_
      repeat' first
        | refine And.intro ?_ ?_
        | intro _
      all_goals try omega
      exact h m ⟨h1, fun p x y => h2 p x (by omega)⟩ h3
    | succ n ih =>
      intro j m hj h0 h1 h2 h3
      have e6 := h3 3 j (by decide) (by decide) (by decide)
      have e3 := (kp j h0 (by omega)).1
      refine smAt [10, 9999] 40 rfl ?_
      repeat' first
        | refine And.intro ?_ ?_
        | intro _
      all_goals try omega
      · refine ih (j + 1) _ (by omega) (by omega) ?_ ?_ ?_
        · exact h1
        · intro p x y
          by_cases e : p = j
          · subst e
            simp [smU, e6, e3]
            intro z; omega
          · simp [smU, e]
            exact h2 p x (by omega)
        · intro k i x y z
          rw [smU_ne z, smU_ne y]
          exact h3 k i x y z
      · refine ru_leastAt 2 6 rfl _ ?_ ?_ ?_
        · unfold smIR; omega
        · intro q x y
          have := oq q x y
          have e7 := (kq q x y).1
          have e8 := h3 6 q (by decide) (by decide) (by decide)
          unfold smIR
          simp [smU]
          omega
        · refine And.intro ⟨by omega, by omega⟩ ?_
          refine ih (j + 1) _ (by omega) (by omega) ?_ ?_ ?_
          · exact h1
          · intro p x y
            have ew : fWho (smU m 96 j (m 3 j) 2 4) (smU m 96 j (m 3 j) 6) j = fWho (S 4 0) (S 5) j := by
              have g1 : smU m 96 j (m 3 j) 2 4 = S 4 0 := by
                rw [smU_ne (by decide), h3 2 4 (by decide) (by decide) (by decide), kT]
              have g2 : ∀ q, 0 ≤ q → q < 5 → smU m 96 j (m 3 j) 6 q = S 5 q := by
                intro q x y
                rw [smU_ne (by decide), h3 6 q (by decide) (by decide) (by decide), (kq q x y).1]
              rw [g1]
              simp only [fWho, fWhoN]
              rw [g2 0 (by decide) (by decide), g2 (0 + 1) (by decide) (by decide), g2 (0 + 1 + 1) (by decide) (by decide), g2 (0 + 1 + 1 + 1) (by decide) (by decide), g2 (0 + 1 + 1 + 1 + 1) (by decide) (by decide)]
            by_cases e : p = j
            · subst e
              simp [smU_s]
              refine ⟨?_, by rw [ew, if_neg (by omega)]⟩
              simp [smU, e6, e3]
            · simp [smU, e]
              exact h2 p x (by omega)
          · intro k i x y z
            rw [smU_ne z, smU_ne y]
            exact h3 k i x y z
  refine smGo [10, 9999] 30 rfl ?_
  refine loop (S 0 0).toNat 0 _ (by omega) (by omega) ?_ (fun p x y => by omega) (fun k i x y z => ?_)
  · rw [← kP]; rfl
  · exact smU_ne x i
/-- what a Flight at 98 holds behind go -/
def trp98 (mem : smM) (hd ca : Int → Int) (n p w r t : Int) : Prop := mem 98 1 = (flT hd (cbs ca) n p w r t : Int) ∧ mem 98 0 = flH hd (cbs ca) n p w r t (flT hd (cbs ca) n p w r t) ∧ mem 98 2 = (if flH hd (cbs ca) n p w r t (flT hd (cbs ca) n p w r t) = 2 then ca (fPos p w n (flT hd (cbs ca) n p w r t)) else -6) ∧ ∀ j : Nat, j ≤ flT hd (cbs ca) n p w r t → mem 99 j = fPos p w n j ∧ mem 100 j = fH j r t
set_option maxHeartbeats 1000000 in
theorem ru_go98 (n p w r t : Int) (hd ca : Int → Int) (hs : scn mem n hd ca) (hn : 0 < n ∧ n ≤ 9) (hh : ∀ q, 0 ≤ q → q < n → 0 ≤ hd q ∧ hd q < 1000) (hc : ∀ q, 0 ≤ q → q < n → -6 ≤ ca q ∧ ca q < 1000) (hp : 0 ≤ p ∧ p < n) (ht : fThr w r t) (h : ∀ mem', trp98 mem' hd ca n p w r t → (∀ k i, k ≠ 98 → k ≠ 99 → k ≠ 100 → mem' k i = mem k i) → Post none mem') : smRun 3 [oR 2 98, oR 6 95, .inl p, .inl w, .inl r, .inl t] mem Post := by
  obtain ⟨hw, hr, ht⟩ := ht
  have loop : ∀ (f k : Nat) (m : smM) (x8 : Option smV), k + f = 36 → (k : Int) ≤ r → ((k : Int) < r → flN hd (cbs ca) n p w r t f k = flT hd (cbs ca) n p w r t) → m 98 1 = k → m 98 0 = 0 → m 98 2 = -6 → ((k : Int) = r → flT hd (cbs ca) n p w r t = k ∧ flH hd (cbs ca) n p w r t k = 0) → (∀ j : Nat, j ≤ k → m 99 j = fPos p w n j ∧ m 100 j = fH j r t) → (∀ k i, k ≠ 98 → k ≠ 99 → k ≠ 100 → m k i = mem k i) → smWp 3 36 [some (oR 2 98), some (oR 6 95), some (.inl p), some (.inl w), some (.inl r), some (.inl t), some (.inl (fPos p w n k)), some (.inl ((k : Int) + 1)), x8] [] m Post := by
    intro f
    induction f with
    | zero =>
      intro k m x8 hk hkr he h1 h0 h2 hz ha hx
      refine smAt [36, 9999] 30 rfl ?_
      repeat' first
        | refine And.intro ?_ ?_
        | intro _
      all_goals try omega
      obtain ⟨z1, z2⟩ := hz (by omega)
      refine h m ⟨by rw [z1]; exact h1, by rw [z1, z2]; exact h0, by rw [z1, z2, if_neg (by decide)]; exact h2, fun j hj => ha j (by rw [z1] at hj; exact hj)⟩ hx
    | succ f ih =>
      intro k m x8 hk hkr he h1 h0 h2 hz ha hx
      have q1 := fPos_in (w := w) hp k
      have q2 := fPos_in (w := w) hp (k + 1)
      have q3 : fPos p w n (k + 1) = fNx (fPos p w n k) w n := rfl
      have q4 : ((k + 1 : Nat) : Int) = (k : Int) + 1 := by omega
      have s1 : m 95 0 = n := by rw [hx 95 0 (by decide) (by decide) (by decide)]; exact hs.1
      have s4 := hh _ q2.1 q2.2
      have s5 := hc _ q2.1 q2.2
      have tail : (k : Int) + 1 ≤ r → ∀ (m3 : smM), m3 98 1 = (k : Int) + 1 → m3 98 0 = 0 → m3 98 2 = -6 → (∀ j : Nat, j ≤ k + 1 → m3 99 j = fPos p w n j ∧ m3 100 j = fH j r t) → (∀ k i, k ≠ 98 → k ≠ 99 → k ≠ 100 → m3 k i = mem k i) → smWp 3 97 [some (oR 2 98), some (oR 6 95), some (.inl p), some (.inl w), some (.inl r), some (.inl t), some (.inl (fPos p w n (k + 1))), some (.inl ((k : Int) + 1)), some (.inl (fH ((k : Int) + 1) r t))] [] m3 Post := by
        intro hkr2 m3 g1 g0 g2 ga gx
        have q5 := fH_in (k := (k : Int) + 1) (r := r) (t := t) (by omega) (by omega)
        have s3 : m3 96 (fPos p w n (k + 1)) = hd (fPos p w n (k + 1)) ∧ m3 97 (fPos p w n (k + 1)) = ca (fPos p w n (k + 1)) := by
          rw [gx 96 _ (by decide) (by decide) (by decide), gx 97 _ (by decide) (by decide) (by decide)]; exact hs.2 _ q2.1 q2.2
        have he2 := he (by omega)
        simp only [flN, fEn, q4] at he2
        have fin : fEn hd (cbs ca) n p w r t (k + 1) → flT hd (cbs ca) n p w r t = k + 1 := by
          intro z
          simp only [fEn, q4] at z
          rw [if_pos z] at he2
          exact he2.symm
        refine smAt [36, 9999] 60 rfl ?_
        repeat' first
          | refine And.intro ?_ ?_
          | intro _
          | (show smRun _ _ _ _; first | with_reducible refine ru_isCatchable _ ?_ ?_ ?_)
        all_goals try omega
        · refine ih (k + 1) m3 _ (by omega) (by omega) ?_ (by rw [q4]; exact g1) g0 g2 ?_ (by intro j hj; exact ga j (by omega)) gx
          · intro z
            rw [if_neg] at he2
            · exact he2
            · simp only [cbs, decide_eq_true_eq]
              unfold fLow at *
              omega
          · intro z
            have z9 : flH hd (cbs ca) n p w r t (k + 1) = 0 := by
              unfold flH
              simp only [q4, cbs, decide_eq_true_eq]
              unfold fLow at *
              rw [if_neg (by omega), if_neg (by omega)]
            refine ⟨fin (Or.inr (Or.inr (by omega))), z9⟩
        · -- caught
          have hlow : fH ((k : Int) + 1) r t = 1 ∨ fH ((k : Int) + 1) r t = 2 := by assumption
          have hca : cbs ca (fPos p w n (k + 1)) = true := by
            simp only [cbs, decide_eq_true_eq]
            omega
          have z1 := fin (Or.inr (Or.inl ⟨by rw [q4]; exact hlow, hca⟩))
          have z2 : flH hd (cbs ca) n p w r t (k + 1) = 2 := by
            unfold flH
            rw [q4, if_neg (by omega), if_pos ⟨hlow, hca⟩]
          refine h _ ⟨by rw [z1, q4]; exact g1, by rw [z1, z2]; rfl, ?_, fun j hj => ga j (by rw [z1] at hj; exact hj)⟩ (fun c i x y z => ?_)
          · rw [z1, z2, if_pos rfl, ← s3.2]; rfl
          · rw [smU_ne x, smU_ne x]; exact gx c i x y z
        · refine ih (k + 1) m3 _ (by omega) (by omega) ?_ (by rw [q4]; exact g1) g0 g2 ?_ (by intro j hj; exact ga j (by omega)) gx
          · intro z
            rw [if_neg] at he2
            · exact he2
            · simp only [cbs, decide_eq_true_eq]
              unfold fLow at *
              omega
          · intro z
            have z9 : flH hd (cbs ca) n p w r t (k + 1) = 0 := by
              unfold flH
              simp only [q4, cbs, decide_eq_true_eq]
              unfold fLow at *
              rw [if_neg (by omega), if_neg (by omega)]
            refine ⟨fin (Or.inr (Or.inr (by omega))), z9⟩
        · -- in a hedge
          have z1 := fin (Or.inl (by rw [q4]; omega))
          have z2 : flH hd (cbs ca) n p w r t (k + 1) = 1 := by
            unfold flH
            rw [q4, if_pos (by omega)]
          refine h _ ⟨by rw [z1, q4]; exact g1, by rw [z1, z2]; rfl, ?_, fun j hj => ga j (by rw [z1] at hj; exact hj)⟩ (fun c i x y z => ?_)
          · rw [z1, z2, if_neg (by decide)]; exact g2
          · rw [smU_ne x]; exact gx c i x y z
      refine smAt [36, 97, 9999] 60 rfl ?_
      repeat' first
        | refine And.intro ?_ ?_
        | intro _
      all_goals try omega
      · obtain ⟨z1, z2⟩ := hz (by omega)
        exact h m ⟨by rw [z1]; exact h1, by rw [z1, z2]; exact h0, by rw [z1, z2, if_neg (by decide)]; exact h2, fun j hj => ha j (by rw [z1] at hj; exact hj)⟩ hx
      · refine ru_nextPlace _ _ _ (by omega) (by omega) (by omega) ?_
        refine ru_heightBehind _ _ _ (by omega) (by omega) (by omega) ?_
        rw [s1, ← q3]
        refine And.intro ⟨by omega, by show ((k : Int) + 1) < 37; omega⟩ (And.intro ⟨by omega, by show ((k : Int) + 1) < 37; omega⟩ ?_)
        refine tail (by omega) _ ?_ ?_ ?_ ?_ ?_
        · exact smU_s
        · exact h0
        · exact h2
        · intro j hj
          have e3 : ∀ i, smU (smU (smU m 99 ((k : Int) + 1) (fPos p w n (k + 1))) 100 ((k : Int) + 1) (fH ((k : Int) + 1) r t)) 98 1 ((k : Int) + 1) 99 i = smU m 99 ((k : Int) + 1) (fPos p w n (k + 1)) 99 i := fun i => by rw [smU_ne (by decide), smU_ne (by decide)]
          have e4 : ∀ i, smU (smU (smU m 99 ((k : Int) + 1) (fPos p w n (k + 1))) 100 ((k : Int) + 1) (fH ((k : Int) + 1) r t)) 98 1 ((k : Int) + 1) 100 i = smU (smU m 99 ((k : Int) + 1) (fPos p w n (k + 1))) 100 ((k : Int) + 1) (fH ((k : Int) + 1) r t) 100 i := fun i => by rw [smU_ne (by decide)]
          rw [e3, e4]
          by_cases e : j = k + 1
          · subst e
            rw [q4, smU_s, smU_s]
            exact ⟨rfl, rfl⟩
          · rw [smU_d (by omega), smU_d (by omega), smU_ne (by decide)]
            exact ha j (by omega)
        · intro c i x y z
          rw [smU_ne x, smU_ne z, smU_ne y]
          exact hx c i x y z
  refine smGo [36, 9999] 60 rfl ?_
  repeat' first
    | refine And.intro ?_ ?_
    | intro _
  all_goals try omega
  refine loop 36 0 _ none (by omega) (by omega) (fun _ => rfl) rfl rfl rfl (fun z => by omega) ?_ ?_
  · intro j hj
    have : j = 0 := by omega
    subst this
    rw [show ((0 : Nat) : Int) = 0 from rfl, fH_0 (by omega) (by omega)]
    exact ⟨rfl, rfl⟩
  · intro c i x y z
    rw [smU_ne x, smU_ne x, smU_ne x, smU_ne z, smU_ne y]
/-- what a Flight at 105 holds behind go -/
def trp105 (mem : smM) (hd ca : Int → Int) (n p w r t : Int) : Prop := mem 105 1 = (flT hd (cbs ca) n p w r t : Int) ∧ mem 105 0 = flH hd (cbs ca) n p w r t (flT hd (cbs ca) n p w r t) ∧ mem 105 2 = (if flH hd (cbs ca) n p w r t (flT hd (cbs ca) n p w r t) = 2 then ca (fPos p w n (flT hd (cbs ca) n p w r t)) else -6) ∧ ∀ j : Nat, j ≤ flT hd (cbs ca) n p w r t → mem 106 j = fPos p w n j ∧ mem 107 j = fH j r t
set_option maxHeartbeats 1000000 in
theorem ru_go105 (n p w r t : Int) (hd ca : Int → Int) (hs : scn mem n hd ca) (hn : 0 < n ∧ n ≤ 9) (hh : ∀ q, 0 ≤ q → q < n → 0 ≤ hd q ∧ hd q < 1000) (hc : ∀ q, 0 ≤ q → q < n → -6 ≤ ca q ∧ ca q < 1000) (hp : 0 ≤ p ∧ p < n) (ht : fThr w r t) (h : ∀ mem', trp105 mem' hd ca n p w r t → (∀ k i, k ≠ 105 → k ≠ 106 → k ≠ 107 → mem' k i = mem k i) → Post none mem') : smRun 3 [oR 2 105, oR 6 95, .inl p, .inl w, .inl r, .inl t] mem Post := by
  obtain ⟨hw, hr, ht⟩ := ht
  have loop : ∀ (f k : Nat) (m : smM) (x8 : Option smV), k + f = 36 → (k : Int) ≤ r → ((k : Int) < r → flN hd (cbs ca) n p w r t f k = flT hd (cbs ca) n p w r t) → m 105 1 = k → m 105 0 = 0 → m 105 2 = -6 → ((k : Int) = r → flT hd (cbs ca) n p w r t = k ∧ flH hd (cbs ca) n p w r t k = 0) → (∀ j : Nat, j ≤ k → m 106 j = fPos p w n j ∧ m 107 j = fH j r t) → (∀ k i, k ≠ 105 → k ≠ 106 → k ≠ 107 → m k i = mem k i) → smWp 3 36 [some (oR 2 105), some (oR 6 95), some (.inl p), some (.inl w), some (.inl r), some (.inl t), some (.inl (fPos p w n k)), some (.inl ((k : Int) + 1)), x8] [] m Post := by
    intro f
    induction f with
    | zero =>
      intro k m x8 hk hkr he h1 h0 h2 hz ha hx
      refine smAt [36, 9999] 30 rfl ?_
      repeat' first
        | refine And.intro ?_ ?_
        | intro _
      all_goals try omega
      obtain ⟨z1, z2⟩ := hz (by omega)
      refine h m ⟨by rw [z1]; exact h1, by rw [z1, z2]; exact h0, by rw [z1, z2, if_neg (by decide)]; exact h2, fun j hj => ha j (by rw [z1] at hj; exact hj)⟩ hx
    | succ f ih =>
      intro k m x8 hk hkr he h1 h0 h2 hz ha hx
      have q1 := fPos_in (w := w) hp k
      have q2 := fPos_in (w := w) hp (k + 1)
      have q3 : fPos p w n (k + 1) = fNx (fPos p w n k) w n := rfl
      have q4 : ((k + 1 : Nat) : Int) = (k : Int) + 1 := by omega
      have s1 : m 95 0 = n := by rw [hx 95 0 (by decide) (by decide) (by decide)]; exact hs.1
      have s4 := hh _ q2.1 q2.2
      have s5 := hc _ q2.1 q2.2
      have tail : (k : Int) + 1 ≤ r → ∀ (m3 : smM), m3 105 1 = (k : Int) + 1 → m3 105 0 = 0 → m3 105 2 = -6 → (∀ j : Nat, j ≤ k + 1 → m3 106 j = fPos p w n j ∧ m3 107 j = fH j r t) → (∀ k i, k ≠ 105 → k ≠ 106 → k ≠ 107 → m3 k i = mem k i) → smWp 3 97 [some (oR 2 105), some (oR 6 95), some (.inl p), some (.inl w), some (.inl r), some (.inl t), some (.inl (fPos p w n (k + 1))), some (.inl ((k : Int) + 1)), some (.inl (fH ((k : Int) + 1) r t))] [] m3 Post := by
        intro hkr2 m3 g1 g0 g2 ga gx
        have q5 := fH_in (k := (k : Int) + 1) (r := r) (t := t) (by omega) (by omega)
        have s3 : m3 96 (fPos p w n (k + 1)) = hd (fPos p w n (k + 1)) ∧ m3 97 (fPos p w n (k + 1)) = ca (fPos p w n (k + 1)) := by
          rw [gx 96 _ (by decide) (by decide) (by decide), gx 97 _ (by decide) (by decide) (by decide)]; exact hs.2 _ q2.1 q2.2
        have he2 := he (by omega)
        simp only [flN, fEn, q4] at he2
        have fin : fEn hd (cbs ca) n p w r t (k + 1) → flT hd (cbs ca) n p w r t = k + 1 := by
          intro z
          simp only [fEn, q4] at z
          rw [if_pos z] at he2
          exact he2.symm
        refine smAt [36, 9999] 60 rfl ?_
        repeat' first
          | refine And.intro ?_ ?_
          | intro _
          | (show smRun _ _ _ _; first | with_reducible refine ru_isCatchable _ ?_ ?_ ?_)
        all_goals try omega
        · refine ih (k + 1) m3 _ (by omega) (by omega) ?_ (by rw [q4]; exact g1) g0 g2 ?_ (by intro j hj; exact ga j (by omega)) gx
          · intro z
            rw [if_neg] at he2
            · exact he2
            · simp only [cbs, decide_eq_true_eq]
              unfold fLow at *
              omega
          · intro z
            have z9 : flH hd (cbs ca) n p w r t (k + 1) = 0 := by
              unfold flH
              simp only [q4, cbs, decide_eq_true_eq]
              unfold fLow at *
              rw [if_neg (by omega), if_neg (by omega)]
            refine ⟨fin (Or.inr (Or.inr (by omega))), z9⟩
        · -- caught
          have hlow : fH ((k : Int) + 1) r t = 1 ∨ fH ((k : Int) + 1) r t = 2 := by assumption
          have hca : cbs ca (fPos p w n (k + 1)) = true := by
            simp only [cbs, decide_eq_true_eq]
            omega
          have z1 := fin (Or.inr (Or.inl ⟨by rw [q4]; exact hlow, hca⟩))
          have z2 : flH hd (cbs ca) n p w r t (k + 1) = 2 := by
            unfold flH
            rw [q4, if_neg (by omega), if_pos ⟨hlow, hca⟩]
          refine h _ ⟨by rw [z1, q4]; exact g1, by rw [z1, z2]; rfl, ?_, fun j hj => ga j (by rw [z1] at hj; exact hj)⟩ (fun c i x y z => ?_)
          · rw [z1, z2, if_pos rfl, ← s3.2]; rfl
          · rw [smU_ne x, smU_ne x]; exact gx c i x y z
        · refine ih (k + 1) m3 _ (by omega) (by omega) ?_ (by rw [q4]; exact g1) g0 g2 ?_ (by intro j hj; exact ga j (by omega)) gx
          · intro z
            rw [if_neg] at he2
            · exact he2
            · simp only [cbs, decide_eq_true_eq]
              unfold fLow at *
              omega
          · intro z
            have z9 : flH hd (cbs ca) n p w r t (k + 1) = 0 := by
              unfold flH
              simp only [q4, cbs, decide_eq_true_eq]
              unfold fLow at *
              rw [if_neg (by omega), if_neg (by omega)]
            refine ⟨fin (Or.inr (Or.inr (by omega))), z9⟩
        · -- in a hedge
          have z1 := fin (Or.inl (by rw [q4]; omega))
          have z2 : flH hd (cbs ca) n p w r t (k + 1) = 1 := by
            unfold flH
            rw [q4, if_pos (by omega)]
          refine h _ ⟨by rw [z1, q4]; exact g1, by rw [z1, z2]; rfl, ?_, fun j hj => ga j (by rw [z1] at hj; exact hj)⟩ (fun c i x y z => ?_)
          · rw [z1, z2, if_neg (by decide)]; exact g2
          · rw [smU_ne x]; exact gx c i x y z
      refine smAt [36, 97, 9999] 60 rfl ?_
      repeat' first
        | refine And.intro ?_ ?_
        | intro _
      all_goals try omega
      · obtain ⟨z1, z2⟩ := hz (by omega)
        exact h m ⟨by rw [z1]; exact h1, by rw [z1, z2]; exact h0, by rw [z1, z2, if_neg (by decide)]; exact h2, fun j hj => ha j (by rw [z1] at hj; exact hj)⟩ hx
      · refine ru_nextPlace _ _ _ (by omega) (by omega) (by omega) ?_
        refine ru_heightBehind _ _ _ (by omega) (by omega) (by omega) ?_
        rw [s1, ← q3]
        refine And.intro ⟨by omega, by show ((k : Int) + 1) < 37; omega⟩ (And.intro ⟨by omega, by show ((k : Int) + 1) < 37; omega⟩ ?_)
        refine tail (by omega) _ ?_ ?_ ?_ ?_ ?_
        · exact smU_s
        · exact h0
        · exact h2
        · intro j hj
          have e3 : ∀ i, smU (smU (smU m 106 ((k : Int) + 1) (fPos p w n (k + 1))) 107 ((k : Int) + 1) (fH ((k : Int) + 1) r t)) 105 1 ((k : Int) + 1) 106 i = smU m 106 ((k : Int) + 1) (fPos p w n (k + 1)) 106 i := fun i => by rw [smU_ne (by decide), smU_ne (by decide)]
          have e4 : ∀ i, smU (smU (smU m 106 ((k : Int) + 1) (fPos p w n (k + 1))) 107 ((k : Int) + 1) (fH ((k : Int) + 1) r t)) 105 1 ((k : Int) + 1) 107 i = smU (smU m 106 ((k : Int) + 1) (fPos p w n (k + 1))) 107 ((k : Int) + 1) (fH ((k : Int) + 1) r t) 107 i := fun i => by rw [smU_ne (by decide)]
          rw [e3, e4]
          by_cases e : j = k + 1
          · subst e
            rw [q4, smU_s, smU_s]
            exact ⟨rfl, rfl⟩
          · rw [smU_d (by omega), smU_d (by omega), smU_ne (by decide)]
            exact ha j (by omega)
        · intro c i x y z
          rw [smU_ne x, smU_ne z, smU_ne y]
          exact hx c i x y z
  refine smGo [36, 9999] 60 rfl ?_
  repeat' first
    | refine And.intro ?_ ?_
    | intro _
  all_goals try omega
  refine loop 36 0 _ none (by omega) (by omega) (fun _ => rfl) rfl rfl rfl (fun z => by omega) ?_ ?_
  · intro j hj
    have : j = 0 := by omega
    subst this
    rw [show ((0 : Nat) : Int) = 0 from rfl, fH_0 (by omega) (by omega)]
    exact ⟨rfl, rfl⟩
  · intro c i x y z
    rw [smU_ne x, smU_ne x, smU_ne x, smU_ne z, smU_ne y]
/-- what a Flight at 108 holds behind go -/
def trp108 (mem : smM) (hd ca : Int → Int) (n p w r t : Int) : Prop := mem 108 1 = (flT hd (cbs ca) n p w r t : Int) ∧ mem 108 0 = flH hd (cbs ca) n p w r t (flT hd (cbs ca) n p w r t) ∧ mem 108 2 = (if flH hd (cbs ca) n p w r t (flT hd (cbs ca) n p w r t) = 2 then ca (fPos p w n (flT hd (cbs ca) n p w r t)) else -6) ∧ ∀ j : Nat, j ≤ flT hd (cbs ca) n p w r t → mem 109 j = fPos p w n j ∧ mem 110 j = fH j r t
set_option maxHeartbeats 1000000 in
theorem ru_go108 (n p w r t : Int) (hd ca : Int → Int) (hs : scn mem n hd ca) (hn : 0 < n ∧ n ≤ 9) (hh : ∀ q, 0 ≤ q → q < n → 0 ≤ hd q ∧ hd q < 1000) (hc : ∀ q, 0 ≤ q → q < n → -6 ≤ ca q ∧ ca q < 1000) (hp : 0 ≤ p ∧ p < n) (ht : fThr w r t) (h : ∀ mem', trp108 mem' hd ca n p w r t → (∀ k i, k ≠ 108 → k ≠ 109 → k ≠ 110 → mem' k i = mem k i) → Post none mem') : smRun 3 [oR 2 108, oR 6 95, .inl p, .inl w, .inl r, .inl t] mem Post := by
  obtain ⟨hw, hr, ht⟩ := ht
  have loop : ∀ (f k : Nat) (m : smM) (x8 : Option smV), k + f = 36 → (k : Int) ≤ r → ((k : Int) < r → flN hd (cbs ca) n p w r t f k = flT hd (cbs ca) n p w r t) → m 108 1 = k → m 108 0 = 0 → m 108 2 = -6 → ((k : Int) = r → flT hd (cbs ca) n p w r t = k ∧ flH hd (cbs ca) n p w r t k = 0) → (∀ j : Nat, j ≤ k → m 109 j = fPos p w n j ∧ m 110 j = fH j r t) → (∀ k i, k ≠ 108 → k ≠ 109 → k ≠ 110 → m k i = mem k i) → smWp 3 36 [some (oR 2 108), some (oR 6 95), some (.inl p), some (.inl w), some (.inl r), some (.inl t), some (.inl (fPos p w n k)), some (.inl ((k : Int) + 1)), x8] [] m Post := by
    intro f
    induction f with
    | zero =>
      intro k m x8 hk hkr he h1 h0 h2 hz ha hx
      refine smAt [36, 9999] 30 rfl ?_
      repeat' first
        | refine And.intro ?_ ?_
        | intro _
      all_goals try omega
      obtain ⟨z1, z2⟩ := hz (by omega)
      refine h m ⟨by rw [z1]; exact h1, by rw [z1, z2]; exact h0, by rw [z1, z2, if_neg (by decide)]; exact h2, fun j hj => ha j (by rw [z1] at hj; exact hj)⟩ hx
    | succ f ih =>
      intro k m x8 hk hkr he h1 h0 h2 hz ha hx
      have q1 := fPos_in (w := w) hp k
      have q2 := fPos_in (w := w) hp (k + 1)
      have q3 : fPos p w n (k + 1) = fNx (fPos p w n k) w n := rfl
      have q4 : ((k + 1 : Nat) : Int) = (k : Int) + 1 := by omega
      have s1 : m 95 0 = n := by rw [hx 95 0 (by decide) (by decide) (by decide)]; exact hs.1
      have s4 := hh _ q2.1 q2.2
      have s5 := hc _ q2.1 q2.2
      have tail : (k : Int) + 1 ≤ r → ∀ (m3 : smM), m3 108 1 = (k : Int) + 1 → m3 108 0 = 0 → m3 108 2 = -6 → (∀ j : Nat, j ≤ k + 1 → m3 109 j = fPos p w n j ∧ m3 110 j = fH j r t) → (∀ k i, k ≠ 108 → k ≠ 109 → k ≠ 110 → m3 k i = mem k i) → smWp 3 97 [some (oR 2 108), some (oR 6 95), some (.inl p), some (.inl w), some (.inl r), some (.inl t), some (.inl (fPos p w n (k + 1))), some (.inl ((k : Int) + 1)), some (.inl (fH ((k : Int) + 1) r t))] [] m3 Post := by
        intro hkr2 m3 g1 g0 g2 ga gx
        have q5 := fH_in (k := (k : Int) + 1) (r := r) (t := t) (by omega) (by omega)
        have s3 : m3 96 (fPos p w n (k + 1)) = hd (fPos p w n (k + 1)) ∧ m3 97 (fPos p w n (k + 1)) = ca (fPos p w n (k + 1)) := by
          rw [gx 96 _ (by decide) (by decide) (by decide), gx 97 _ (by decide) (by decide) (by decide)]; exact hs.2 _ q2.1 q2.2
        have he2 := he (by omega)
        simp only [flN, fEn, q4] at he2
        have fin : fEn hd (cbs ca) n p w r t (k + 1) → flT hd (cbs ca) n p w r t = k + 1 := by
          intro z
          simp only [fEn, q4] at z
          rw [if_pos z] at he2
          exact he2.symm
        refine smAt [36, 9999] 60 rfl ?_
        repeat' first
          | refine And.intro ?_ ?_
          | intro _
          | (show smRun _ _ _ _; first | with_reducible refine ru_isCatchable _ ?_ ?_ ?_)
        all_goals try omega
        · refine ih (k + 1) m3 _ (by omega) (by omega) ?_ (by rw [q4]; exact g1) g0 g2 ?_ (by intro j hj; exact ga j (by omega)) gx
          · intro z
            rw [if_neg] at he2
            · exact he2
            · simp only [cbs, decide_eq_true_eq]
              unfold fLow at *
              omega
          · intro z
            have z9 : flH hd (cbs ca) n p w r t (k + 1) = 0 := by
              unfold flH
              simp only [q4, cbs, decide_eq_true_eq]
              unfold fLow at *
              rw [if_neg (by omega), if_neg (by omega)]
            refine ⟨fin (Or.inr (Or.inr (by omega))), z9⟩
        · -- caught
          have hlow : fH ((k : Int) + 1) r t = 1 ∨ fH ((k : Int) + 1) r t = 2 := by assumption
          have hca : cbs ca (fPos p w n (k + 1)) = true := by
            simp only [cbs, decide_eq_true_eq]
            omega
          have z1 := fin (Or.inr (Or.inl ⟨by rw [q4]; exact hlow, hca⟩))
          have z2 : flH hd (cbs ca) n p w r t (k + 1) = 2 := by
            unfold flH
            rw [q4, if_neg (by omega), if_pos ⟨hlow, hca⟩]
          refine h _ ⟨by rw [z1, q4]; exact g1, by rw [z1, z2]; rfl, ?_, fun j hj => ga j (by rw [z1] at hj; exact hj)⟩ (fun c i x y z => ?_)
          · rw [z1, z2, if_pos rfl, ← s3.2]; rfl
          · rw [smU_ne x, smU_ne x]; exact gx c i x y z
        · refine ih (k + 1) m3 _ (by omega) (by omega) ?_ (by rw [q4]; exact g1) g0 g2 ?_ (by intro j hj; exact ga j (by omega)) gx
          · intro z
            rw [if_neg] at he2
            · exact he2
            · simp only [cbs, decide_eq_true_eq]
              unfold fLow at *
              omega
          · intro z
            have z9 : flH hd (cbs ca) n p w r t (k + 1) = 0 := by
              unfold flH
              simp only [q4, cbs, decide_eq_true_eq]
              unfold fLow at *
              rw [if_neg (by omega), if_neg (by omega)]
            refine ⟨fin (Or.inr (Or.inr (by omega))), z9⟩
        · -- in a hedge
          have z1 := fin (Or.inl (by rw [q4]; omega))
          have z2 : flH hd (cbs ca) n p w r t (k + 1) = 1 := by
            unfold flH
            rw [q4, if_pos (by omega)]
          refine h _ ⟨by rw [z1, q4]; exact g1, by rw [z1, z2]; rfl, ?_, fun j hj => ga j (by rw [z1] at hj; exact hj)⟩ (fun c i x y z => ?_)
          · rw [z1, z2, if_neg (by decide)]; exact g2
          · rw [smU_ne x]; exact gx c i x y z
      refine smAt [36, 97, 9999] 60 rfl ?_
      repeat' first
        | refine And.intro ?_ ?_
        | intro _
      all_goals try omega
      · obtain ⟨z1, z2⟩ := hz (by omega)
        exact h m ⟨by rw [z1]; exact h1, by rw [z1, z2]; exact h0, by rw [z1, z2, if_neg (by decide)]; exact h2, fun j hj => ha j (by rw [z1] at hj; exact hj)⟩ hx
      · refine ru_nextPlace _ _ _ (by omega) (by omega) (by omega) ?_
        refine ru_heightBehind _ _ _ (by omega) (by omega) (by omega) ?_
        rw [s1, ← q3]
        refine And.intro ⟨by omega, by show ((k : Int) + 1) < 37; omega⟩ (And.intro ⟨by omega, by show ((k : Int) + 1) < 37; omega⟩ ?_)
        refine tail (by omega) _ ?_ ?_ ?_ ?_ ?_
        · exact smU_s
        · exact h0
        · exact h2
        · intro j hj
          have e3 : ∀ i, smU (smU (smU m 109 ((k : Int) + 1) (fPos p w n (k + 1))) 110 ((k : Int) + 1) (fH ((k : Int) + 1) r t)) 108 1 ((k : Int) + 1) 109 i = smU m 109 ((k : Int) + 1) (fPos p w n (k + 1)) 109 i := fun i => by rw [smU_ne (by decide), smU_ne (by decide)]
          have e4 : ∀ i, smU (smU (smU m 109 ((k : Int) + 1) (fPos p w n (k + 1))) 110 ((k : Int) + 1) (fH ((k : Int) + 1) r t)) 108 1 ((k : Int) + 1) 110 i = smU (smU m 109 ((k : Int) + 1) (fPos p w n (k + 1))) 110 ((k : Int) + 1) (fH ((k : Int) + 1) r t) 110 i := fun i => by rw [smU_ne (by decide)]
          rw [e3, e4]
          by_cases e : j = k + 1
          · subst e
            rw [q4, smU_s, smU_s]
            exact ⟨rfl, rfl⟩
          · rw [smU_d (by omega), smU_d (by omega), smU_ne (by decide)]
            exact ha j (by omega)
        · intro c i x y z
          rw [smU_ne x, smU_ne z, smU_ne y]
          exact hx c i x y z
  refine smGo [36, 9999] 60 rfl ?_
  repeat' first
    | refine And.intro ?_ ?_
    | intro _
  all_goals try omega
  refine loop 36 0 _ none (by omega) (by omega) (fun _ => rfl) rfl rfl rfl (fun z => by omega) ?_ ?_
  · intro j hj
    have : j = 0 := by omega
    subst this
    rw [show ((0 : Nat) : Int) = 0 from rfl, fH_0 (by omega) (by omega)]
    exact ⟨rfl, rfl⟩
  · intro c i x y z
    rw [smU_ne x, smU_ne x, smU_ne x, smU_ne z, smU_ne y]
end
