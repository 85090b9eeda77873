/-! all throws from one to another: class -/
theorem nOr (a b : Nat) (ha : a < 2 ^ 31) (hb : b < 2 ^ 31) : smOr (a : Int) (b : Int) = ((a ||| b : Nat) : Int) := by
  have h1 : a ||| b < 2 ^ 31 := Nat.or_lt_two_pow ha hb
  have e : smOr (a : Int) (b : Int) = (BitVec.ofInt 32 (a : Int) ||| BitVec.ofInt 32 (b : Int)).toInt := rfl
  rw [e, BitVec.ofInt_natCast, BitVec.ofInt_natCast, ← BitVec.ofNat_or]
  have h2 : (BitVec.ofNat 32 (a ||| b)).toNat = a ||| b := by
    rw [BitVec.toNat_ofNat]
    exact Nat.mod_eq_of_lt (by omega)
  rw [BitVec.toInt_eq_toNat_of_lt (by omega), h2]
theorem orI (i : Nat) (c a b : Int) (hc : c = ((2 ^ i : Nat) : Int)) (ha : 0 ≤ a) (hb : 0 ≤ b) (hb2 : b < c) (h : c * a + b < 2147483648) : smOr (c * a) b = c * a + b := by
  obtain ⟨x, rfl⟩ := Int.eq_ofNat_of_zero_le ha
  obtain ⟨y, rfl⟩ := Int.eq_ofNat_of_zero_le hb
  subst hc
  have e : ((2 ^ i : Nat) : Int) * (x : Int) = ((2 ^ i * x : Nat) : Int) := by rw [Int.natCast_mul]
  rw [e] at h ⊢
  rw [nOr _ _ (by omega) (by omega), ← Nat.two_pow_add_eq_or_of_lt (by omega), Int.natCast_add]
theorem shlC : ∀ a : Int, 0 ≤ a → a < (37 : Nat) → smShl a 10 = 1024 * a ∧ smShl a 7 = 128 * a ∧ smShl a 1 = 2 * a ∧ (a < 6 → smShl a 13 = 8192 * a) := fin1 37 (by decide +kernel)
theorem encA_c {m t r w : Int} (hm : 0 ≤ m ∧ m ≤ 36) (ht : 1 ≤ t ∧ t ≤ 5) (hr : 1 ≤ r ∧ r ≤ 36) (hw : 0 ≤ w ∧ w ≤ 1) : smOr (smOr (smShl m 10) (smShl t 7)) (smOr (smShl r 1) w) = m * 1024 + t * 128 + r * 2 + w := by
  rw [(shlC m hm.1 (by omega)).1, (shlC t (by omega) (by omega)).2.1, (shlC r (by omega) (by omega)).2.2.1, orI 1 2 r w rfl (by omega) (by omega) (by omega) (by omega), orI 10 1024 m (128 * t) rfl (by omega) (by omega) (by omega) (by omega), show 1024 * m + 128 * t = 128 * (8 * m + t) by omega, orI 7 128 (8 * m + t) (2 * r + w) rfl (by omega) (by omega) (by omega) (by omega)]
  omega
theorem encB_c {m t r w : Int} (hm : 0 ≤ m ∧ m ≤ 36) (ht : 1 ≤ t ∧ t ≤ 5) (hr : 1 ≤ r ∧ r ≤ 36) (hw : 0 ≤ w ∧ w ≤ 1) : smOr (smOr (smShl t 13) (smShl m 7)) (smOr (smShl r 1) w) = t * 8192 + m * 128 + r * 2 + w := by
  rw [(shlC t (by omega) (by omega)).2.2.2 (by omega), (shlC m (by omega) (by omega)).2.1, (shlC r (by omega) (by omega)).2.2.1, orI 1 2 r w rfl (by omega) (by omega) (by omega) (by omega), orI 13 8192 t (128 * m) rfl (by omega) (by omega) (by omega) (by omega), show 8192 * t + 128 * m = 128 * (64 * t + m) by omega, orI 7 128 (64 * t + m) (2 * r + w) rfl (by omega) (by omega) (by omega) (by omega)]
  omega
/-- the least by a number; M: none -/
def mnR (Q : Int → Int → Int → Prop) (e : Int → Int → Int → Int) (M v : Int) : Prop := (v = M ∧ ∀ w r t, ¬ Q w r t) ∨ (∃ w r t, Q w r t ∧ v = e w r t ∧ ∀ w' r' t', Q w' r' t' → v ≤ e w' r' t')
theorem mnR_cg {Q Q' : Int → Int → Int → Prop} {e : Int → Int → Int → Int} {M v : Int} (h : mnR Q e M v) (c : ∀ w r t, Q w r t ↔ Q' w r t) : mnR Q' e M v := by
  rcases h with ⟨h1, h2⟩ | ⟨w, r, t, h1, h2, h3⟩
  · exact Or.inl ⟨h1, fun w r t z => h2 w r t ((c w r t).mpr z)⟩
  · exact Or.inr ⟨w, r, t, (c w r t).mp h1, h2, fun w' r' t' z => h3 w' r' t' ((c w' r' t').mpr z)⟩
theorem mnR_add {Q : Int → Int → Int → Prop} {e : Int → Int → Int → Int} {M v w r t : Int} (h : mnR Q e M v) (hM : e w r t < M) : mnR (fun w' r' t' => Q w' r' t' ∨ (w' = w ∧ r' = r ∧ t' = t)) e M (if e w r t < v then e w r t else v) := by
  right
  rcases h with ⟨h1, h2⟩ | ⟨a, b, c, h1, h2, h3⟩
  · rw [if_pos (by omega)]
    refine ⟨w, r, t, Or.inr ⟨rfl, rfl, rfl⟩, rfl, fun w' r' t' z => ?_⟩
    rcases z with z | ⟨z1, z2, z3⟩
    · exact absurd z (h2 w' r' t')
    · rw [z1, z2, z3]; exact Int.le_refl _
  · split
    · refine ⟨w, r, t, Or.inr ⟨rfl, rfl, rfl⟩, rfl, fun w' r' t' z => ?_⟩
      rcases z with z | ⟨z1, z2, z3⟩
      · have := h3 w' r' t' z
        omega
      · rw [z1, z2, z3]; exact Int.le_refl _
    · refine ⟨a, b, c, Or.inl h1, h2, fun w' r' t' z => ?_⟩
      rcases z with z | ⟨z1, z2, z3⟩
      · exact h3 w' r' t' z
      · rw [z1, z2, z3]; omega
theorem mnR_in {Q : Int → Int → Int → Prop} {e : Int → Int → Int → Int} {M v : Int} (h : mnR Q e M v) (hM : 0 ≤ M) (he : ∀ w r t, Q w r t → 0 ≤ e w r t ∧ e w r t < M) : 0 ≤ v ∧ v ≤ M := by
  rcases h with ⟨h1, h2⟩ | ⟨w, r, t, h1, h2, h3⟩
  · omega
  · have := he w r t h1
    omega
def eA (S : sS) (q w r t : Int) : Int := (gT S (S 5 q) w r t : Int) * 1024 + t * 128 + r * 2 + w
def eB (S : sS) (q w r t : Int) : Int := t * 8192 + (gT S (S 5 q) w r t : Int) * 128 + r * 2 + w
def cgt (S : sS) (q o w r t : Int) : Prop := gH S (S 5 q) w r t = 2 ∧ gB S (S 5 q) w r t = o
def gp (S : sS) (q o w r t : Int) : Prop := ((0 ≤ w ∧ w ≤ 1) ∧ (1 ≤ r ∧ r ≤ S 6 q) ∧ (1 ≤ t ∧ t ≤ 5)) ∧ cgt S q o w r t
def kpH (S : sS) (q p G w r t : Int) : Prop := ∀ k : Nat, 1 ≤ k → k ≤ gT S (S 5 q) w r t → fPos (S 5 q) w (S 0 0) k = p → G ≤ fH k r t
def sI (S : sS) (q : Int) (Q : Int → Int → Int → Prop) (m : smM) : Prop := mnR Q (eA S q) 1000000 (m 101 3) ∧ mnR Q (eB S q) 1000000 (m 101 4) ∧ (∀ p, 0 ≤ p → p < 9 → (0 ≤ m 102 p ∧ m 102 p ≤ 1000001) ∧ ∀ G, 0 ≤ G → G ≤ 5 → (G < m 102 p ↔ ∃ w r t, Q w r t ∧ kpH S q p G w r t))
theorem sI_cg {S : sS} {q : Int} {Q Q' : Int → Int → Int → Prop} {m : smM} (h : sI S q Q m) (c : ∀ w r t, Q w r t ↔ Q' w r t) : sI S q Q' m := by
  refine ⟨mnR_cg h.1 c, mnR_cg h.2.1 c, fun p x y => ⟨(h.2.2 p x y).1, fun G a b => ?_⟩⟩
  rw [(h.2.2 p x y).2 G a b]
  constructor
  · rintro ⟨w, r, t, z1, z2⟩
    exact ⟨w, r, t, (c w r t).mp z1, z2⟩
  · rintro ⟨w, r, t, z1, z2⟩
    exact ⟨w, r, t, (c w r t).mpr z1, z2⟩
noncomputable def gcT (S : sS) (q o w r : Int) : Nat → Int
  | 0 => 0
  | n + 1 => gcT S q o w r n + cI (cgt S q o w r ((n : Int) + 1))
noncomputable def gcR (S : sS) (q o w : Int) : Nat → Int
  | 0 => 0
  | n + 1 => gcR S q o w n + gcT S q o w ((n : Int) + 1) 5
theorem gcT_in (S : sS) (q o w r : Int) : ∀ n : Nat, 0 ≤ gcT S q o w r n ∧ gcT S q o w r n ≤ n
  | 0 => ⟨Int.le_refl 0, Int.le_refl 0⟩
  | n + 1 => by
    have := gcT_in S q o w r n
    have := cI_in (cgt S q o w r ((n : Int) + 1))
    simp only [gcT]
    omega
theorem gcR_in (S : sS) (q o w : Int) : ∀ n : Nat, 0 ≤ gcR S q o w n ∧ gcR S q o w n ≤ 5 * n
  | 0 => ⟨Int.le_refl 0, Int.le_refl 0⟩
  | n + 1 => by
    have := gcR_in S q o w n
    have := gcT_in S q o w ((n : Int) + 1) 5
    simp only [gcR]
    omega
theorem gcT_0 (S : sS) (q o w r : Int) : ∀ n : Nat, (gcT S q o w r n = 0 ↔ ∀ t : Int, 1 ≤ t → t ≤ (n : Int) → ¬ cgt S q o w r t)
  | 0 => ⟨fun _ t a b => by omega, fun _ => rfl⟩
  | n + 1 => by
    have i1 := gcT_in S q o w r n
    have i2 := cI_in (cgt S q o w r ((n : Int) + 1))
    have ih := gcT_0 S q o w r n
    simp only [gcT]
    constructor
    · intro h t a b c
      by_cases d : t = (n : Int) + 1
      · rw [d] at c
        rw [cI_1 c] at h
        omega
      · exact ih.mp (by omega) t a (by omega) c
    · intro h
      rw [ih.mpr (fun t a b => h t a (by omega)), cI_0 (h _ (by omega) (by omega))]
      rfl
theorem gcR_0 (S : sS) (q o w : Int) : ∀ n : Nat, (gcR S q o w n = 0 ↔ ∀ r t : Int, 1 ≤ r → r ≤ (n : Int) → 1 ≤ t → t ≤ 5 → ¬ cgt S q o w r t)
  | 0 => ⟨fun _ r t a b => by omega, fun _ => rfl⟩
  | n + 1 => by
    have i1 := gcR_in S q o w n
    have i2 := gcT_in S q o w ((n : Int) + 1) 5
    have i3 := gcT_0 S q o w ((n : Int) + 1) 5
    have ih := gcR_0 S q o w n
    simp only [gcR]
    constructor
    · intro h r t a b a2 b2
      by_cases d : r = (n : Int) + 1
      · rw [d]
        exact i3.mp (by omega) t a2 b2
      · exact ih.mp (by omega) r t a (by omega) a2 b2
    · intro h
      rw [ih.mpr (fun r t a b => h r t a (by omega)), i3.mpr (fun t a b => h _ t (by omega) (by omega) a b)]
      rfl
/-- how low a stone is at a place, at least -/
def lwN (sp hi : Nat → Int) : Nat → Int → Int
  | 0, _ => 1000000
  | k + 1, p => if sp (k + 1) = p then (if hi (k + 1) < lwN sp hi k p then hi (k + 1) else lwN sp hi k p) else lwN sp hi k p
theorem lwN_in {sp hi : Nat → Int} (p : Int) : ∀ n : Nat, (∀ k, 1 ≤ k → k ≤ n → 0 ≤ hi k ∧ hi k ≤ 5) → 0 ≤ lwN sp hi n p ∧ lwN sp hi n p ≤ 1000000
  | 0, _ => ⟨by show (0 : Int) ≤ 1000000; decide, by show (1000000 : Int) ≤ 1000000; decide⟩
  | n + 1, h => by
    have ih := lwN_in (sp := sp) p n (fun k a b => h k a (by omega))
    have := h (n + 1) (by omega) (by omega)
    simp only [lwN]
    repeat' split
    all_goals omega
theorem lwN_iff {sp hi : Nat → Int} {p G : Int} (hG : G ≤ 5) : ∀ n : Nat, (G ≤ lwN sp hi n p ↔ ∀ k : Nat, 1 ≤ k → k ≤ n → sp k = p → G ≤ hi k)
  | 0 => ⟨fun _ k a b => by omega, fun _ => by show G ≤ (1000000 : Int); omega⟩
  | n + 1 => by
    have ih := lwN_iff (sp := sp) (hi := hi) (p := p) hG n
    simp only [lwN]
    constructor
    · intro h k a b c
      by_cases d : k = n + 1
      · subst d
        rw [if_pos c] at h
        split at h <;> omega
      · refine ih.mp ?_ k a (by omega) c
        repeat' split at h
        all_goals omega
    · intro h
      have h1 := ih.mpr (fun k a b => h k a (by omega))
      have h2 := h (n + 1) (by omega) (by omega)
      repeat' split
      all_goals first | exact h2 (by assumption) | exact h1
def kA (mem mem' : smM) : Prop := ∀ k i, k < 98 ∨ 103 < k → mem' k i = mem k i
theorem kA_keep {a b : smM} (h : kA a b) : keepC a b := ⟨fun k i hk => h k i (by omega), h 93 0 (by omega)⟩
section
variable {mem : smM} {Post : Option smV → smM → Prop} {N : Int} {S : sS}
theorem ru_noteThrow (m w r t : Int) (hm : 0 ≤ m ∧ m ≤ 36) (ht : 1 ≤ t ∧ t ≤ 5) (hr : 1 ≤ r ∧ r ≤ 36) (hw : 0 ≤ w ∧ w ≤ 1) (h3 : smIR (mem 101 3)) (h4 : smIR (mem 101 4)) (h : ∀ m', m' 101 0 = mem 101 0 + 1 → m' 101 3 = (if m * 1024 + t * 128 + r * 2 + w < mem 101 3 then m * 1024 + t * 128 + r * 2 + w else mem 101 3) → m' 101 4 = (if t * 8192 + m * 128 + r * 2 + w < mem 101 4 then t * 8192 + m * 128 + r * 2 + w else mem 101 4) → (∀ k i, k ≠ 101 → m' k i = mem k i) → Post none m') : smRun 5 [oR 0 101, .inl m, .inl w, .inl r, .inl t] mem Post := by
  have a := encA_c hm ht hr hw
  have b := encB_c hm ht hr hw
  unfold smIR at h3 h4
  rw [← a, ← b] at h
  have ia : -2147483648 ≤ smOr (smOr (smShl m 10) (smShl t 7)) (smOr (smShl r 1) w) ∧ smOr (smOr (smShl m 10) (smShl t 7)) (smOr (smShl r 1) w) ≤ 2147483647 := smIR_or _ _
  have ib : -2147483648 ≤ smOr (smOr (smShl t 13) (smShl m 7)) (smOr (smShl r 1) w) ∧ smOr (smOr (smShl t 13) (smShl m 7)) (smOr (smShl r 1) w) ≤ 2147483647 := smIR_or _ _
  refine smGo [9999] 60 rfl ?_
  repeat' first
    | refine And.intro ?_ ?_
    | intro _
    | exact h3.1
    | exact h3.2
    | exact h4.1
    | exact h4.2
  all_goals try omega
  exact h _ rfl rfl rfl (fun k i x => by rw [smU_ne x, smU_ne x, smU_ne x])
set_option maxRecDepth 4000 in
theorem ru_noteHedges (T : Nat) (sp hi : Nat → Int) (hT : mem 98 1 = (T : Int)) (hT2 : T ≤ 36) (hs : ∀ k : Nat, 1 ≤ k → k ≤ T → (mem 99 k = sp k ∧ mem 100 k = hi k) ∧ (0 ≤ sp k ∧ sp k < 9) ∧ (0 ≤ hi k ∧ hi k ≤ 5)) (hn : ∀ p, 0 ≤ p → p < 9 → 0 ≤ mem 102 p ∧ mem 102 p ≤ 1000001) (h : ∀ m, (∀ p, 0 ≤ p → p < 9 → m 102 p = if mem 102 p < lwN sp hi T p + 1 then lwN sp hi T p + 1 else mem 102 p) → (∀ k i, k ≠ 102 → k ≠ 103 → m k i = mem k i) → Post none m) : smRun 6 [oR 0 101, oR 2 98] mem Post := by
  have third : ∀ (f : Nat) (j : Int) (m : smM), j = 9 - (f : Int) → 0 ≤ j → (∀ p, 0 ≤ p → p < 9 → m 103 p = lwN sp hi T p) → (∀ p, 0 ≤ p → p < 9 → m 102 p = if p < j then (if mem 102 p < lwN sp hi T p + 1 then lwN sp hi T p + 1 else mem 102 p) else mem 102 p) → (∀ k i, k ≠ 102 → k ≠ 103 → m k i = mem k i) → smWp 6 71 [some (oR 0 101), some (oR 2 98), some (.inl j)] [] m Post := by
    intro f
    induction f with
    | zero =>
      intro j m hj h0 h3 h2 hx
      refine smAt [71, 9999] 60 rfl ?_
      repeat' first
        | refine And.intro ?_ ?_
        | intro _
      all_goals try omega
      refine h m (fun p x y => ?_) hx
      rw [h2 p x y, if_pos (by omega)]
    | succ f ih =>
      intro j m hj h0 h3 h2 hx
      have e3 := h3 j h0 (by omega)
      have e2 := h2 j h0 (by omega)
      rw [if_neg (by omega)] at e2
      have n1 := hn j h0 (by omega)
      have l1 := lwN_in (sp := sp) (hi := hi) j T (fun k a b => (hs k a b).2.2)
      refine smAt [71, 9999] 60 rfl ?_
      repeat' first
        | refine And.intro ?_ ?_
        | intro _
      all_goals try omega
      refine ih (j + 1) _ (by omega) (by omega) (fun p x y => ?_) (fun p x y => ?_) (fun k i x y => by rw [smU_ne x]; exact hx k i x y)
      · rw [smU_ne (by decide)]; exact h3 p x y
      · by_cases d : p = j
        · rw [d, smU_s, e3, e2, if_pos (show j < j + 1 by omega)]
        · rw [smU_d d, h2 p x y]
          by_cases c : p < j
          · rw [if_pos c, if_pos (show p < j + 1 by omega)]
          · rw [if_neg c, if_neg (show ¬ p < j + 1 by omega)]
  have second : ∀ (f k : Nat) (m : smM), k + f = T → (∀ p, 0 ≤ p → p < 9 → m 103 p = lwN sp hi k p) → (∀ k i, k ≠ 103 → m k i = mem k i) → smWp 6 24 [some (oR 0 101), some (oR 2 98), some (.inl ((k : Int) + 1))] [] m Post := by
    intro f
    induction f with
    | zero =>
      intro k m hf h3 hx
      have e : k = T := by omega
      subst e
      have e1 : m 98 1 = (k : Int) := by rw [hx 98 1 (by decide)]; exact hT
      refine smAt [24, 71, 9999] 60 rfl ?_
      repeat' first
        | refine And.intro ?_ ?_
        | intro _
      all_goals try omega
      exact third 9 0 m (by omega) (by omega) h3 (fun p x y => by rw [if_neg (by omega)]; exact hx 102 p (by decide)) (fun k i x y => hx k i y)
    | succ f ih =>
      intro k m hf h3 hx
      have ek : ((k + 1 : Nat) : Int) = (k : Int) + 1 := by omega
      have e1 : m 98 1 = (T : Int) := by rw [hx 98 1 (by decide)]; exact hT
      have s1 := hs (k + 1) (by omega) (by omega)
      rw [ek] at s1
      have e4 : m 99 ((k : Int) + 1) = sp (k + 1) := by rw [hx 99 _ (by decide)]; exact s1.1.1
      have e5 : m 100 ((k : Int) + 1) = hi (k + 1) := by rw [hx 100 _ (by decide)]; exact s1.1.2
      have e3 := h3 (sp (k + 1)) s1.2.1.1 s1.2.1.2
      rw [← e4] at e3
      have l1 := lwN_in (sp := sp) (hi := hi) (m 99 ((k : Int) + 1)) k (fun k a b => (hs k a (by omega)).2.2)
      refine smAt [24, 71, 9999] 60 rfl ?_
      repeat' first
        | refine And.intro ?_ ?_
        | intro _
      all_goals try omega
      have g := ih (k + 1) (smU m 103 (m 99 ((k : Int) + 1)) (if m 100 ((k : Int) + 1) < m 103 (m 99 ((k : Int) + 1)) then m 100 ((k : Int) + 1) else m 103 (m 99 ((k : Int) + 1)))) (by omega) (fun p x y => ?_) (fun k i x => by rw [smU_ne x]; exact hx k i x)
      · rw [ek] at g; exact g
      · simp only [lwN]
        by_cases d : p = m 99 ((k : Int) + 1)
        · rw [d, smU_s, e3, e5, if_pos e4.symm]
        · rw [smU_d d, h3 p x y, if_neg (fun z => d (by rw [e4]; exact z.symm))]
  have first : ∀ (f : Nat) (j : Int) (m : smM), j = 9 - (f : Int) → 0 ≤ j → (∀ p, 0 ≤ p → p < j → m 103 p = 1000000) → (∀ k i, k ≠ 103 → m k i = mem k i) → smWp 6 2 [some (oR 0 101), some (oR 2 98), some (.inl j)] [] m Post := by
    intro f
    induction f with
    | zero =>
      intro j m hj h0 h3 hx
      refine smAt [2, 24, 9999] 60 rfl ?_
      repeat' first
        | refine And.intro ?_ ?_
        | intro _
      all_goals try omega
      exact second T 0 m (by omega) (fun p x y => h3 p x (by omega)) hx
    | succ f ih =>
      intro j m hj h0 h3 hx
      refine smAt [2, 24, 9999] 60 rfl ?_
      repeat' first
        | refine And.intro ?_ ?_
        | intro _
      all_goals try omega
      refine ih (j + 1) _ (by omega) (by omega) (fun p x y => ?_) (fun k i x => by rw [smU_ne x]; exact hx k i x)
      by_cases d : p = j
      · rw [d, smU_s]
      · rw [smU_d d]; exact h3 p x (by omega)
  refine smGo [2, 9999] 60 rfl ?_
  exact first 9 0 mem (by omega) (by omega) (fun p x y => by omega) (fun _ _ _ => rfl)
end
