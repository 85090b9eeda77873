section
variable {mem : smM} {Post : Option smV → smM → Prop} {N : Int} {S : sS}
/-- where the reference keeps what: number j of an image -/
def tgI (g : smM) (j : Int) : Int := if j < 10 then g 115 j else if j < 20 then g 120 (j - 10) else if j < 30 then g 121 (j - 20) else if j < 35 then g 116 (j - 30) else if j < 40 then g 117 (j - 35) else if j < 45 then g 118 (j - 40) else if j < 50 then g 119 (j - 45) else if j < 110 then g 122 (j - 50) else if j < 150 then g 123 (j - 110) else if j < 170 then g 124 (j - 150) else if j = 170 then g 114 0 else if j = 171 then g 114 2 else if j = 172 then g 114 9 else if j = 173 then g 114 11 else g 114 13
def dnI (a b c d e f : Int) (j : Int) : Prop := (0 ≤ j ∧ j < a) ∨ (10 ≤ j ∧ j < 10 + a) ∨ (20 ≤ j ∧ j < 20 + a) ∨ (30 ≤ j ∧ j < 30 + b) ∨ (35 ≤ j ∧ j < 35 + b) ∨ (40 ≤ j ∧ j < 40 + b) ∨ (45 ≤ j ∧ j < 45 + b) ∨ (50 ≤ j ∧ j < 50 + c) ∨ (110 ≤ j ∧ j < 110 + d) ∨ (150 ≤ j ∧ j < 150 + e) ∨ (170 ≤ j ∧ j < 170 + f)
def inI (g : smM) (b : Int) (D : Int → Prop) (m : smM) : Prop := (∀ k j, k ≠ 134 → m k j = g k j) ∧ (∀ j, j < b ∨ b + 220 ≤ j → m 134 j = g 134 j) ∧ ∀ j, D j → m 134 (b + j) = tgI g j
theorem inI_mo {g m : smM} {b : Int} {D E : Int → Prop} (h : inI g b D m) (e : ∀ j, E j → D j) : inI g b E m := ⟨h.1, h.2.1, fun j hj => h.2.2 j (e j hj)⟩
theorem inI_put {g m : smM} {b : Int} {D : Int → Prop} (h : inI g b D m) (x y v : Int) (hx : 0 ≤ x ∧ x < 220) (hy : y = b + x) (hv : v = tgI g x) : inI g b (fun j => D j ∨ j = x) (smU m 134 y v) := by
  refine ⟨fun k j hk => ?_, fun j hj => ?_, fun j hj => ?_⟩
  · rw [smU_ne hk]; exact h.1 k j hk
  · rw [smU_d (by omega)]; exact h.2.1 j hj
  · by_cases e : j = x
    · rw [hy, ← e, smU_s, hv, e]
    · rw [smU_d (by omega)]
      exact h.2.2 j (hj.resolve_right e)

theorem tgI_115 (g : smM) (i : Int) (h : 0 ≤ i ∧ i < 9) : tgI g i = g 115 i := by
  unfold tgI
  rw [if_pos (by omega)]
theorem tgI_120 (g : smM) (i : Int) (h : 0 ≤ i ∧ i < 9) : tgI g (10 + i) = g 120 i := by
  unfold tgI
  rw [if_neg (by omega), if_pos (by omega), show 10 + i - 10 = i by omega]
theorem tgI_121 (g : smM) (i : Int) (h : 0 ≤ i ∧ i < 9) : tgI g (20 + i) = g 121 i := by
  unfold tgI
  rw [if_neg (by omega), if_neg (by omega), if_pos (by omega), show 20 + i - 20 = i by omega]
theorem tgI_116 (g : smM) (i : Int) (h : 0 ≤ i ∧ i < 5) : tgI g (30 + i) = g 116 i := by
  unfold tgI
  rw [if_neg (by omega), if_neg (by omega), if_neg (by omega), if_pos (by omega), show 30 + i - 30 = i by omega]
theorem tgI_117 (g : smM) (i : Int) (h : 0 ≤ i ∧ i < 5) : tgI g (35 + i) = g 117 i := by
  unfold tgI
  rw [if_neg (by omega), if_neg (by omega), if_neg (by omega), if_neg (by omega), if_pos (by omega), show 35 + i - 35 = i by omega]
theorem tgI_118 (g : smM) (i : Int) (h : 0 ≤ i ∧ i < 5) : tgI g (40 + i) = g 118 i := by
  unfold tgI
  rw [if_neg (by omega), if_neg (by omega), if_neg (by omega), if_neg (by omega), if_neg (by omega), if_pos (by omega), show 40 + i - 40 = i by omega]
theorem tgI_119 (g : smM) (i : Int) (h : 0 ≤ i ∧ i < 5) : tgI g (45 + i) = g 119 i := by
  unfold tgI
  rw [if_neg (by omega), if_neg (by omega), if_neg (by omega), if_neg (by omega), if_neg (by omega), if_neg (by omega), if_pos (by omega), show 45 + i - 45 = i by omega]
theorem tgI_122 (g : smM) (i : Int) (h : 0 ≤ i ∧ i < 60) : tgI g (50 + i) = g 122 i := by
  unfold tgI
  rw [if_neg (by omega), if_neg (by omega), if_neg (by omega), if_neg (by omega), if_neg (by omega), if_neg (by omega), if_neg (by omega), if_pos (by omega), show 50 + i - 50 = i by omega]
theorem tgI_123 (g : smM) (i : Int) (h : 0 ≤ i ∧ i < 36) : tgI g (110 + i) = g 123 i := by
  unfold tgI
  rw [if_neg (by omega), if_neg (by omega), if_neg (by omega), if_neg (by omega), if_neg (by omega), if_neg (by omega), if_neg (by omega), if_neg (by omega), if_pos (by omega), show 110 + i - 110 = i by omega]
theorem tgI_124 (g : smM) (i : Int) (h : 0 ≤ i ∧ i < 18) : tgI g (150 + i) = g 124 i := by
  unfold tgI
  rw [if_neg (by omega), if_neg (by omega), if_neg (by omega), if_neg (by omega), if_neg (by omega), if_neg (by omega), if_neg (by omega), if_neg (by omega), if_neg (by omega), if_pos (by omega), show 150 + i - 150 = i by omega]
set_option maxRecDepth 4000 in
theorem imR_20 (g : smM) (n : Int) (hn : n = 0 ∨ n = 1) (K : ∀ m, inI g (220 * n) (dnI 9 0 0 0 0 0) m → smWp 175 80 [some (oR 11 114), some (.inl n), some (.inl (220 * n)), some (.inl 9)] [] m Post) : ∀ (f : Nat) (i : Int) (m : smM), i = 9 - (f : Int) → 0 ≤ i → inI g (220 * n) (dnI i 0 0 0 0 0) m → smWp 175 20 [some (oR 11 114), some (.inl n), some (.inl (220 * n)), some (.inl i)] [] m Post := by
  intro f
  induction f with
  | zero =>
    intro i m hi h0 h
    have e : i = 9 := by omega
    subst e
    refine smAt [80, 9999] 60 rfl ?_
    repeat' first
      | refine And.intro ?_ ?_
      | intro _
    all_goals try omega
    exact K m h
  | succ f ih =>
    intro i m hi h0 h
    refine smAt [20, 9999] 60 rfl ?_
    repeat' first
      | refine And.intro ?_ ?_
      | intro _
    all_goals try omega
    have e : (i + 1 : Int) = 9 - (f : Int) := by omega
    refine ih (i + 1) _ e (by omega) ?_
    have p0 := inI_put h i (220 * n + i) (g 115 i) (by omega) (by omega) (tgI_115 g i (by omega)).symm
    have p1 := inI_put p0 (10 + i) (220 * n + 10 + i) (g 120 i) (by omega) (by omega) (tgI_120 g i (by omega)).symm
    have p2 := inI_put p1 (20 + i) (220 * n + 20 + i) (g 121 i) (by omega) (by omega) (tgI_121 g i (by omega)).symm
    have z := inI_mo (E := dnI (i + 1) 0 0 0 0 0) p2 (fun j hj => by unfold dnI at *; omega)
    rw [← h.1 115 i (by decide), ← h.1 120 i (by decide), ← h.1 121 i (by decide)] at z
    exact z
set_option maxRecDepth 4000 in
theorem imR_82 (g : smM) (n : Int) (hn : n = 0 ∨ n = 1) (K : ∀ m, inI g (220 * n) (dnI 9 5 0 0 0 0) m → smWp 175 161 [some (oR 11 114), some (.inl n), some (.inl (220 * n)), some (.inl 5)] [] m Post) : ∀ (f : Nat) (i : Int) (m : smM), i = 5 - (f : Int) → 0 ≤ i → inI g (220 * n) (dnI 9 i 0 0 0 0) m → smWp 175 82 [some (oR 11 114), some (.inl n), some (.inl (220 * n)), some (.inl i)] [] m Post := by
  intro f
  induction f with
  | zero =>
    intro i m hi h0 h
    have e : i = 5 := by omega
    subst e
    refine smAt [161, 9999] 60 rfl ?_
    repeat' first
      | refine And.intro ?_ ?_
      | intro _
    all_goals try omega
    exact K m h
  | succ f ih =>
    intro i m hi h0 h
    refine smAt [82, 9999] 60 rfl ?_
    repeat' first
      | refine And.intro ?_ ?_
      | intro _
    all_goals try omega
    have e : (i + 1 : Int) = 5 - (f : Int) := by omega
    refine ih (i + 1) _ e (by omega) ?_
    have p0 := inI_put h (30 + i) (220 * n + 30 + i) (g 116 i) (by omega) (by omega) (tgI_116 g i (by omega)).symm
    have p1 := inI_put p0 (35 + i) (220 * n + 35 + i) (g 117 i) (by omega) (by omega) (tgI_117 g i (by omega)).symm
    have p2 := inI_put p1 (40 + i) (220 * n + 40 + i) (g 118 i) (by omega) (by omega) (tgI_118 g i (by omega)).symm
    have p3 := inI_put p2 (45 + i) (220 * n + 45 + i) (g 119 i) (by omega) (by omega) (tgI_119 g i (by omega)).symm
    have z := inI_mo (E := dnI 9 (i + 1) 0 0 0 0) p3 (fun j hj => by unfold dnI at *; omega)
    rw [← h.1 116 i (by decide), ← h.1 117 i (by decide), ← h.1 118 i (by decide), ← h.1 119 i (by decide)] at z
    exact z
set_option maxRecDepth 4000 in
theorem imR_163 (g : smM) (n : Int) (hn : n = 0 ∨ n = 1) (K : ∀ m, inI g (220 * n) (dnI 9 5 60 0 0 0) m → smWp 175 192 [some (oR 11 114), some (.inl n), some (.inl (220 * n)), some (.inl 60)] [] m Post) : ∀ (f : Nat) (i : Int) (m : smM), i = 60 - (f : Int) → 0 ≤ i → inI g (220 * n) (dnI 9 5 i 0 0 0) m → smWp 175 163 [some (oR 11 114), some (.inl n), some (.inl (220 * n)), some (.inl i)] [] m Post := by
  intro f
  induction f with
  | zero =>
    intro i m hi h0 h
    have e : i = 60 := by omega
    subst e
    refine smAt [192, 9999] 60 rfl ?_
    repeat' first
      | refine And.intro ?_ ?_
      | intro _
    all_goals try omega
    exact K m h
  | succ f ih =>
    intro i m hi h0 h
    refine smAt [163, 9999] 60 rfl ?_
    repeat' first
      | refine And.intro ?_ ?_
      | intro _
    all_goals try omega
    have e : (i + 1 : Int) = 60 - (f : Int) := by omega
    refine ih (i + 1) _ e (by omega) ?_
    have p0 := inI_put h (50 + i) (220 * n + 50 + i) (g 122 i) (by omega) (by omega) (tgI_122 g i (by omega)).symm
    have z := inI_mo (E := dnI 9 5 (i + 1) 0 0 0) p0 (fun j hj => by unfold dnI at *; omega)
    rw [← h.1 122 i (by decide)] at z
    exact z
set_option maxRecDepth 4000 in
theorem imR_194 (g : smM) (n : Int) (hn : n = 0 ∨ n = 1) (K : ∀ m, inI g (220 * n) (dnI 9 5 60 36 0 0) m → smWp 175 223 [some (oR 11 114), some (.inl n), some (.inl (220 * n)), some (.inl 36)] [] m Post) : ∀ (f : Nat) (i : Int) (m : smM), i = 36 - (f : Int) → 0 ≤ i → inI g (220 * n) (dnI 9 5 60 i 0 0) m → smWp 175 194 [some (oR 11 114), some (.inl n), some (.inl (220 * n)), some (.inl i)] [] m Post := by
  intro f
  induction f with
  | zero =>
    intro i m hi h0 h
    have e : i = 36 := by omega
    subst e
    refine smAt [223, 9999] 60 rfl ?_
    repeat' first
      | refine And.intro ?_ ?_
      | intro _
    all_goals try omega
    exact K m h
  | succ f ih =>
    intro i m hi h0 h
    refine smAt [194, 9999] 60 rfl ?_
    repeat' first
      | refine And.intro ?_ ?_
      | intro _
    all_goals try omega
    have e : (i + 1 : Int) = 36 - (f : Int) := by omega
    refine ih (i + 1) _ e (by omega) ?_
    have p0 := inI_put h (110 + i) (220 * n + 110 + i) (g 123 i) (by omega) (by omega) (tgI_123 g i (by omega)).symm
    have z := inI_mo (E := dnI 9 5 60 (i + 1) 0 0) p0 (fun j hj => by unfold dnI at *; omega)
    rw [← h.1 123 i (by decide)] at z
    exact z
set_option maxRecDepth 4000 in
theorem imR_225 (g : smM) (n : Int) (hn : n = 0 ∨ n = 1) (K : ∀ m, inI g (220 * n) (dnI 9 5 60 36 18 0) m → smWp 175 255 [some (oR 11 114), some (.inl n), some (.inl (220 * n)), some (.inl 18)] [] m Post) : ∀ (f : Nat) (i : Int) (m : smM), i = 18 - (f : Int) → 0 ≤ i → inI g (220 * n) (dnI 9 5 60 36 i 0) m → smWp 175 225 [some (oR 11 114), some (.inl n), some (.inl (220 * n)), some (.inl i)] [] m Post := by
  intro f
  induction f with
  | zero =>
    intro i m hi h0 h
    have e : i = 18 := by omega
    subst e
    refine smAt [255, 9999] 60 rfl ?_
    repeat' first
      | refine And.intro ?_ ?_
      | intro _
    all_goals try omega
    exact K m h
  | succ f ih =>
    intro i m hi h0 h
    refine smAt [225, 9999] 60 rfl ?_
    repeat' first
      | refine And.intro ?_ ?_
      | intro _
    all_goals try omega
    have e : (i + 1 : Int) = 18 - (f : Int) := by omega
    refine ih (i + 1) _ e (by omega) ?_
    have p0 := inI_put h (150 + i) (220 * n + 150 + i) (g 124 i) (by omega) (by omega) (tgI_124 g i (by omega)).symm
    have z := inI_mo (E := dnI 9 5 60 36 (i + 1) 0) p0 (fun j hj => by unfold dnI at *; omega)
    rw [← h.1 124 i (by decide)] at z
    exact z
end
