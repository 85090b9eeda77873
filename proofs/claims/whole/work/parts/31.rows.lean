/-! rows of minutes, and places behind k minutes -/
def iR (x a d : Int) : Prop := x = a ∨ (a < x ∧ 1 ≤ d ∧ (x - a) % d = 0)
theorem iR_ge {x a d : Int} (h : iR x a d) : a ≤ x := by
  rcases h with h | h <;> omega
theorem iR_dvd {x a d : Int} (h : iR x a d) : d ∣ x - a := by
  rcases h with h | h
  · rw [h, Int.sub_self]; exact Int.dvd_zero d
  · exact Int.dvd_of_emod_eq_zero h.2.2
theorem iR_of {x a d : Int} (hd : 1 ≤ d) (h : a ≤ x) (e : (x - a) % d = 0) : iR x a d := by
  by_cases c : x = a
  · exact Or.inl c
  · exact Or.inr ⟨by omega, hd, e⟩
theorem iR_0 {x a d : Int} (hd : d < 1) : iR x a d ↔ x = a := ⟨fun h => h.elim id (fun z => by omega), Or.inl⟩
theorem fc_s {a d b x0 y : Int} (hd : 1 ≤ d) (h3 : iR x0 a d) (h4 : x0 = a ∨ x0 - d < b) (hy : iR y a d) (hb : b ≤ y) : ∃ s : Int, 0 ≤ s ∧ y = x0 + s * d := by
  have d1 := iR_dvd h3
  have d2 := iR_dvd hy
  have d3 : d ∣ y - x0 := by
    have := Int.dvd_sub d2 d1
    rwa [show y - a - (x0 - a) = y - x0 by omega] at this
  have g : x0 ≤ y := by
    have ga := iR_ge hy
    rcases h4 with e | e
    · omega
    · by_cases c : x0 ≤ y
      · exact c
      · exfalso
        have d4 : d ∣ x0 - y := by
          have := Int.dvd_neg.mpr d3
          rwa [show -(y - x0) = x0 - y by omega] at this
        have := Int.le_of_dvd (by omega) d4
        omega
  refine ⟨(y - x0) / d, Int.ediv_nonneg (by omega) (by omega), ?_⟩
  rw [Int.ediv_mul_cancel d3]
  omega
theorem fc_n {d b e x0 : Int} (he : 1 ≤ e) (h : ∀ s : Int, 0 ≤ s → s < e → ¬ (x0 + s * d - b) % e = 0) (s : Int) (hs : 0 ≤ s) : ¬ (x0 + s * d - b) % e = 0 := by
  intro z
  refine h (s % e) (Int.emod_nonneg s (by omega)) (Int.emod_lt_of_pos s (by omega)) ?_
  have e1 := Int.emod_add_mul_ediv s e
  have e2 : x0 + s * d - b = (x0 + s % e * d - b) + e * (s / e * d) := by
    have : s * d = s % e * d + e * (s / e * d) := by
      rw [← Int.mul_assoc, ← Int.add_mul, e1]
    omega
  rw [e2, Int.add_mul_emod_self_left] at z
  exact z
def fcR (a d b e v : Int) : Prop := (0 ≤ v ∧ v ≤ 999 ∧ iR v a d ∧ iR v b e ∧ ∀ y, iR y a d → iR y b e → v ≤ y) ∨ (v = 1000000 ∧ ∀ y, iR y a d → ¬ iR y b e)
theorem fPos_c {p w n : Int} (hp : 0 ≤ p ∧ p < n) : ∀ k : Nat, fPos p w n k = (p + (if w = 0 then (k : Int) else -(k : Int))) % n
  | 0 => by
    have : (p + (if w = 0 then ((0 : Nat) : Int) else -((0 : Nat) : Int))) = p := by split <;> omega
    rw [this, Int.emod_eq_of_lt hp.1 hp.2]
    rfl
  | k + 1 => by
    have ih := fPos_c (w := w) hp k
    have i1 := fPos_in (w := w) hp k
    show fNx (fPos p w n k) w n = _
    unfold fNx
    by_cases c : w = 0
    · rw [if_pos c] at *
      rw [if_pos c]
      have e : (p + (((k + 1 : Nat)) : Int)) % n = (fPos p w n k + 1) % n := by
        rw [ih, Int.emod_add_emod]
        congr 1
        omega
      rw [e]
      split
      · rw [Int.emod_eq_of_lt (by omega) (by omega)]
      · rw [show fPos p w n k + 1 = n by omega, Int.emod_self]
    · rw [if_neg c] at *
      rw [if_neg c]
      have e : (p + -(((k + 1 : Nat)) : Int)) % n = (fPos p w n k + -1) % n := by
        rw [ih, Int.emod_add_emod]
        congr 1
        omega
      rw [e]
      split
      · rw [Int.emod_eq_of_lt (by omega) (by omega)]
        omega
      · rw [show fPos p w n k + -1 = (n - 1) + n * (-1) by omega, Int.add_mul_emod_self_left, Int.emod_eq_of_lt (by omega) (by omega)]
theorem tm_c {x n : Int} (hn : 4 ≤ n ∧ n ≤ 9) : (x.tmod n + n).tmod n = x % n := by
  have e : x.tmod n % n = x % n := by
    have h := Int.tmod_add_mul_tdiv x n
    conv => rhs; rw [← h, Int.add_mul_emod_self_left]
  have l : 0 ≤ x.tmod n + n := by
    rw [Int.tmod_eq_emod]
    have := Int.emod_nonneg x (show n ≠ 0 by omega)
    split <;> omega
  rw [Int.tmod_eq_emod_of_nonneg l, Int.add_emod_right, e]
theorem tm_in {x n : Int} (hn : 4 ≤ n ∧ n ≤ 9) : -9 ≤ x.tmod n ∧ x.tmod n ≤ 9 := by
  rw [Int.tmod_eq_emod]
  have h1 := Int.emod_nonneg x (show n ≠ 0 by omega)
  have h2 := Int.emod_lt_of_pos x (show 0 < n by omega)
  split <;> omega
section
variable {mem : smM} {Post : Option smV → smM → Prop} {N : Int} {S : sS}
theorem ru_isInRow (x a d : Int) (hx : -2000 ≤ x ∧ x ≤ 2000) (ha : -2000 ≤ a ∧ a ≤ 2000) (hd : -2000 ≤ d ∧ d ≤ 2000) (h1 : iR x a d → Post (some (.inl 1)) mem) (h0 : ¬ iR x a d → Post (some (.inl 0)) mem) : smRun 26 [.inl x, .inl a, .inl d] mem Post := by
  have e : 0 ≤ x - a → (x - a).tmod d = (x - a) % d := fun z => Int.tmod_eq_emod_of_nonneg z
  have b : 1 ≤ d → 0 ≤ (x - a) % d ∧ (x - a) % d < d := fun z => ⟨Int.emod_nonneg _ (by omega), Int.emod_lt_of_pos _ (by omega)⟩
  have z0 : x = a → (x - a) % d = 0 := fun z => by rw [z, Int.sub_self, Int.zero_emod]
  unfold iR at h1 h0
  refine smGo [9999] 60 rfl ?_
  repeat' first
    | refine And.intro ?_ ?_
    | intro _
    | (show Post _ _; first | exact h1 (by omega) | exact h0 (by omega))
  all_goals try omega
set_option maxRecDepth 4000 in
theorem ru_firstCommon (a d b e : Int) (ha : 0 ≤ a ∧ a ≤ 200) (hb : 0 ≤ b ∧ b ≤ 200) (hd : 0 ≤ d ∧ d ≤ 20) (he : 0 ≤ e ∧ e ≤ 20) (h : ∀ v, fcR a d b e v → Post (some (.inl v)) mem) : smRun 27 [.inl a, .inl d, .inl b, .inl e] mem Post := by
  have loop : 1 ≤ d → 1 ≤ e → ∀ x0, x0 ≤ 250 → b ≤ x0 → iR x0 a d → (x0 = a ∨ x0 - d < b) → ∀ (f : Nat) (u x : Int), u = e - (f : Int) → 0 ≤ u → x = x0 + u * d → x0 ≤ x → x ≤ x0 + 20 * u → (∀ s : Int, 0 ≤ s → s < u → ¬ (x0 + s * d - b) % e = 0) → smWp 27 69 [some (.inl a), some (.inl d), some (.inl b), some (.inl e), some (.inl x), some (.inl u)] [] mem Post := by
    intro d1 e1 x0 k1 k2 k3 k4 f
    induction f with
    | zero =>
      intro u x hu h0 hx hl hxb hall
      refine smAt [69, 9999] 60 rfl ?_
      repeat' first
        | refine And.intro ?_ ?_
        | intro _
      all_goals try omega
      refine h _ (Or.inr ⟨rfl, fun y y1 y2 => ?_⟩)
      obtain ⟨s, s1, s2⟩ := fc_s d1 k3 k4 y1 (iR_ge y2)
      refine fc_n e1 (fun s z1 z2 => hall s z1 (by omega)) s s1 ?_
      rw [← s2]
      exact Int.emod_eq_zero_of_dvd (iR_dvd y2)
    | succ f ih =>
      intro u x hu h0 hx hl hxb hall
      have em : (x - b).tmod e = (x - b) % e := Int.tmod_eq_emod_of_nonneg (by omega)
      have em1 := Int.emod_nonneg (x - b) (show e ≠ 0 by omega)
      have em2 := Int.emod_lt_of_pos (x - b) (show 0 < e by omega)
      refine smAt [69, 9999] 60 rfl ?_
      repeat' first
        | refine And.intro ?_ ?_
        | intro _
      all_goals try omega
      · refine ih (u + 1) (x + d) (by omega) (by omega) ?_ (by omega) (by omega) ?_
        · rw [Int.add_mul, Int.one_mul, hx]; omega
        · intro s s1 s2
          by_cases c : s = u
          · rw [c, ← hx]; omega
          · exact hall s s1 (by omega)
      · refine h _ (Or.inl ⟨by omega, by omega, ?_, iR_of e1 (by omega) (by omega), fun y y1 y2 => ?_⟩)
        · have ga := iR_ge k3
          refine iR_of d1 (by omega) ?_
          have dv := iR_dvd k3
          rw [hx, show x0 + u * d - a = (x0 - a) + d * u by rw [Int.mul_comm d u]; omega, Int.add_mul_emod_self_left]
          exact Int.emod_eq_zero_of_dvd dv
        · obtain ⟨s, s1, s2⟩ := fc_s d1 k3 k4 y1 (iR_ge y2)
          by_cases c : s < u
          · exfalso
            refine hall s s1 c ?_
            rw [← s2]
            exact Int.emod_eq_zero_of_dvd (iR_dvd y2)
          · have := Int.mul_le_mul_of_nonneg_right (show u ≤ s by omega) (show 0 ≤ d by omega)
            omega
  have td : a < b → (b - a + d - 1).tdiv d = (b - a + d - 1) / d := fun z => Int.tdiv_eq_ediv_of_nonneg (by omega)
  have q1 : 1 ≤ d → (b - a + d - 1) / d * d ≤ b - a + d - 1 := fun z => Int.ediv_mul_le _ (by omega)
  have q2 : 1 ≤ d → b - a + d - 1 < (b - a + d - 1) / d * d + d := fun z => by
    have := Int.lt_ediv_add_one_mul_self (b - a + d - 1) (show 0 < d by omega)
    rw [Int.add_mul, Int.one_mul] at this
    exact this
  have q3 : 1 ≤ d → a < b → 0 ≤ (b - a + d - 1) / d ∧ (b - a + d - 1) / d ≤ 1000 := fun z z2 => ⟨Int.ediv_nonneg (by omega) (by omega), Int.le_trans (Int.ediv_le_self _ (by omega)) (by omega)⟩
  refine smGo [69, 9999] 60 rfl ?_
  repeat' first
    | refine And.intro ?_ ?_
    | intro _
    | (show smRun _ _ _ _; first | with_reducible refine ru_isInRow _ _ _ (by omega) (by omega) (by omega) (fun z => ?_) (fun z => ?_))
  all_goals try omega
  · exact loop (by omega) (by omega) a (by omega) (by omega) (Or.inl rfl) (Or.inl rfl) e.toNat 0 a (by omega) (by omega) (by omega) (by omega) (by omega) (fun s s1 s2 => by omega)
  · have td := td (by omega)
    have q1 := q1 (by omega)
    have q2 := q2 (by omega)
    have q3 := q3 (by omega) (by omega)
    rw [td]
    refine loop (by omega) (by omega) (a + (b - a + d - 1) / d * d) (by omega) (by omega) ?_ (by omega) e.toNat 0 _ (by omega) (by omega) (by omega) (by omega) (by omega) (fun s s1 s2 => by omega)
    refine iR_of (by omega) (by omega) ?_
    rw [show a + (b - a + d - 1) / d * d - a = 0 + d * ((b - a + d - 1) / d) by rw [Int.mul_comm]; omega, Int.add_mul_emod_self_left, Int.zero_emod]
  · exact h _ (Or.inl ⟨by omega, by omega, z, Or.inl rfl, fun y y1 y2 => iR_ge y2⟩)
  · refine h _ (Or.inr ⟨rfl, fun y y1 y2 => ?_⟩)
    rw [iR_0 (by omega)] at y2
    rw [y2] at y1
    exact z y1
  · exact h _ (Or.inl ⟨by omega, by omega, Or.inl rfl, z, fun y y1 y2 => iR_ge y1⟩)
  · refine h _ (Or.inr ⟨rfl, fun y y1 y2 => ?_⟩)
    rw [iR_0 (by omega)] at y1
    rw [y1] at y2
    exact z y2
theorem ru_wasThrown (i m k : Int) (hi : 0 ≤ i ∧ i ≤ 5) (hm : -2000 ≤ m ∧ m ≤ 2000) (hk : -2000 ≤ k ∧ k ≤ 2000) (ha : 0 ≤ mem 123 (6 * i + 4) ∧ mem 123 (6 * i + 4) ≤ 99) (he : 0 ≤ mem 123 (6 * i + 5) ∧ mem 123 (6 * i + 5) ≤ 20) (h1 : iR m (mem 123 (6 * i + 4) + k) (mem 123 (6 * i + 5)) → Post (some (.inl 1)) mem) (h0 : ¬ iR m (mem 123 (6 * i + 4) + k) (mem 123 (6 * i + 5)) → Post (some (.inl 0)) mem) : smRun 161 [oR 11 114, .inl i, .inl m, .inl k] mem Post := by
  have e : 0 ≤ m - k - mem 123 (6 * i + 4) → (m - k - mem 123 (6 * i + 4)).tmod (mem 123 (6 * i + 5)) = (m - k - mem 123 (6 * i + 4)) % (mem 123 (6 * i + 5)) := fun z => Int.tmod_eq_emod_of_nonneg z
  have e2 : m - (mem 123 (6 * i + 4) + k) = m - k - mem 123 (6 * i + 4) := by omega
  have b : 1 ≤ mem 123 (6 * i + 5) → 0 ≤ (m - k - mem 123 (6 * i + 4)) % (mem 123 (6 * i + 5)) ∧ (m - k - mem 123 (6 * i + 4)) % (mem 123 (6 * i + 5)) < mem 123 (6 * i + 5) := fun z => ⟨Int.emod_nonneg _ (by omega), Int.emod_lt_of_pos _ (by omega)⟩
  unfold iR at h1 h0
  rw [e2] at h1 h0
  refine smGo [9999] 60 rfl ?_
  repeat' first
    | refine And.intro ?_ ?_
    | intro _
    | (show Post _ _; first | exact h1 (by omega) | exact h0 (by omega))
  all_goals try omega
theorem ru_placeBehind (i : Int) (k : Nat) (hi : 0 ≤ i ∧ i ≤ 5) (hk : k ≤ 100) (hn : 4 ≤ mem 114 0 ∧ mem 114 0 ≤ 9) (hp : 0 ≤ mem 123 (6 * i) ∧ mem 123 (6 * i) < mem 114 0) (hw : mem 123 (6 * i + 1) = 0 ∨ mem 123 (6 * i + 1) = 1) (h : Post (some (.inl (fPos (mem 123 (6 * i)) (mem 123 (6 * i + 1)) (mem 114 0) k))) mem) : smRun 162 [oR 11 114, .inl i, .inl (k : Int)] mem Post := by
  rw [fPos_c hp, ← tm_c hn] at h
  have t1 := tm_in (x := mem 123 (6 * i) + k) hn
  have t2 := tm_in (x := mem 123 (6 * i) + -(k : Int)) hn
  have t3 := tm_in (x := (mem 123 (6 * i) + k).tmod (mem 114 0) + mem 114 0) hn
  have t4 := tm_in (x := (mem 123 (6 * i) + -(k : Int)).tmod (mem 114 0) + mem 114 0) hn
  refine smGo [9999] 60 rfl ?_
  repeat' first
    | refine And.intro ?_ ?_
    | intro _
  all_goals try omega
  · rw [if_neg (by omega)] at h; exact h
  · rw [if_pos (by omega)] at h; exact h
theorem ru_heightBehind2 (i k : Int) (hi : 0 ≤ i ∧ i ≤ 5) (hk : -1000 ≤ k ∧ k < 1000) (hr : 0 ≤ mem 123 (6 * i + 2) ∧ mem 123 (6 * i + 2) ≤ 36) (ht : 0 ≤ mem 123 (6 * i + 3) ∧ mem 123 (6 * i + 3) ≤ 5) (h : Post (some (.inl (fH k (mem 123 (6 * i + 2)) (mem 123 (6 * i + 3))))) mem) : smRun 163 [oR 11 114, .inl i, .inl k] mem Post := by
  refine smGo [9999] 60 rfl ?_
  repeat' first
    | refine And.intro ?_ ?_
    | intro _
    | (show smRun _ _ _ _; first | with_reducible refine ru_heightOf _ _ _ (by omega) (by omega) (by omega) ?_)
  all_goals try omega
  exact h
end
