section
variable {mem : smM} {Post : Option smV → smM → Prop} {N : Int} {S : sS}
theorem rI_in {g m : smM} {b : Int} (h : inI g b (dnI 9 5 60 36 18 5) m) (hr : rC g S) (h9 : 0 ≤ S 9 0 ∧ S 9 0 ≤ 12) : rI m b S := by
  obtain ⟨⟨kP, kT, kN, kp, kq, ki⟩, ⟨kB, kb⟩, ⟨kS, ks⟩⟩ := hr
  have e115 : ∀ i, 0 ≤ i → i < 9 → m 134 (b + i) = g 115 i := by
    intro i x y
    rw [h.2.2 _ (by unfold dnI; omega), tgI_115 g i (by omega)]
  have e120 : ∀ i, 0 ≤ i → i < 9 → m 134 (b + 10 + i) = g 120 i := by
    intro i x y
    rw [show b + 10 + i = b + (10 + i) by omega, h.2.2 _ (by unfold dnI; omega), tgI_120 g i (by omega)]
  have e121 : ∀ i, 0 ≤ i → i < 9 → m 134 (b + 20 + i) = g 121 i := by
    intro i x y
    rw [show b + 20 + i = b + (20 + i) by omega, h.2.2 _ (by unfold dnI; omega), tgI_121 g i (by omega)]
  have e116 : ∀ i, 0 ≤ i → i < 5 → m 134 (b + 30 + i) = g 116 i := by
    intro i x y
    rw [show b + 30 + i = b + (30 + i) by omega, h.2.2 _ (by unfold dnI; omega), tgI_116 g i (by omega)]
  have e117 : ∀ i, 0 ≤ i → i < 5 → m 134 (b + 35 + i) = g 117 i := by
    intro i x y
    rw [show b + 35 + i = b + (35 + i) by omega, h.2.2 _ (by unfold dnI; omega), tgI_117 g i (by omega)]
  have e118 : ∀ i, 0 ≤ i → i < 5 → m 134 (b + 40 + i) = g 118 i := by
    intro i x y
    rw [show b + 40 + i = b + (40 + i) by omega, h.2.2 _ (by unfold dnI; omega), tgI_118 g i (by omega)]
  have e119 : ∀ i, 0 ≤ i → i < 5 → m 134 (b + 45 + i) = g 119 i := by
    intro i x y
    rw [show b + 45 + i = b + (45 + i) by omega, h.2.2 _ (by unfold dnI; omega), tgI_119 g i (by omega)]
  have e122 : ∀ i, 0 ≤ i → i < 60 → m 134 (b + 50 + i) = g 122 i := by
    intro i x y
    rw [show b + 50 + i = b + (50 + i) by omega, h.2.2 _ (by unfold dnI; omega), tgI_122 g i (by omega)]
  have e123 : ∀ i, 0 ≤ i → i < 36 → m 134 (b + 110 + i) = g 123 i := by
    intro i x y
    rw [show b + 110 + i = b + (110 + i) by omega, h.2.2 _ (by unfold dnI; omega), tgI_123 g i (by omega)]
  have e124 : ∀ i, 0 ≤ i → i < 18 → m 134 (b + 150 + i) = g 124 i := by
    intro i x y
    rw [show b + 150 + i = b + (150 + i) by omega, h.2.2 _ (by unfold dnI; omega), tgI_124 g i (by omega)]
  have s0 : m 134 (b + 170) = g 114 0 := by rw [h.2.2 _ (by unfold dnI; omega)]; simp [tgI]
  have s2 : m 134 (b + 171) = g 114 2 := by rw [h.2.2 _ (by unfold dnI; omega)]; simp [tgI]
  have s9 : m 134 (b + 172) = g 114 9 := by rw [h.2.2 _ (by unfold dnI; omega)]; simp [tgI]
  have s11 : m 134 (b + 173) = g 114 11 := by rw [h.2.2 _ (by unfold dnI; omega)]; simp [tgI]
  have s13 : m 134 (b + 174) = g 114 13 := by rw [h.2.2 _ (by unfold dnI; omega)]; simp [tgI]
  refine ⟨⟨s0.trans kP, s2.trans kT, s9.trans kN, fun p x y => ?_, fun q x y => ?_, fun i x y => ?_⟩, ⟨s11.trans kB, fun i x y => ?_⟩, ⟨s13.trans kS, fun i x y => ?_⟩⟩
  · obtain ⟨z1, z2, z3⟩ := kp p x y
    exact ⟨(e115 p x y).trans z1, (e120 p x y).trans z2, (e121 p x y).trans z3⟩
  · obtain ⟨z1, z2, z3, z4⟩ := kq q x y
    exact ⟨(e117 q x y).trans z1, (e116 q x y).trans z2, (e118 q x y).trans z3, (e119 q x y).trans z4⟩
  · obtain ⟨z1, z2, z3, z4, z5⟩ := ki i x y
    exact ⟨(e122 _ (by omega) (by omega)).trans z1, (e122 _ (by omega) (by omega)).trans z2, (e122 _ (by omega) (by omega)).trans z3, (e122 _ (by omega) (by omega)).trans z4, (e122 _ (by omega) (by omega)).trans z5⟩
  · obtain ⟨z1, z2, z3, z4, z5, z6⟩ := kb i x y
    exact ⟨(e123 _ (by omega) (by omega)).trans z1, (e123 _ (by omega) (by omega)).trans z2, (e123 _ (by omega) (by omega)).trans z3, (e123 _ (by omega) (by omega)).trans z4, (e123 _ (by omega) (by omega)).trans z5, (e123 _ (by omega) (by omega)).trans z6⟩
  · obtain ⟨z1, z2, z3⟩ := ks i x y
    exact ⟨(e124 _ (by omega) (by omega)).trans z1, (e124 _ (by omega) (by omega)).trans z2, (e124 _ (by omega) (by omega)).trans z3⟩
set_option maxRecDepth 4000 in
theorem pR_image (n : Int) (hn : smIR n) (hk : rC mem S) (ho : ok N S) (h0 : ¬ (0 ≤ n ∧ n ≤ 1) → Post (some (.inl (-2))) mem) (h1 : 0 ≤ n ∧ n ≤ 1 → ∀ m, rI m (220 * n) S → m 135 n = 1 → (∀ k i, ¬ (k = 134 ∧ 220 * n ≤ i ∧ i < 220 * n + 220) → ¬ (k = 135 ∧ i = n) → m k i = mem k i) → Post (some (.inl 1)) m) : smRun 175 [oR 11 114, .inl n] mem Post := by
  have h9 := ho.2.1.2.2.1
  refine smGo [20, 9999] 60 rfl ?_
  repeat' first
    | refine And.intro ?_ ?_
    | intro _
    | (show smRun _ _ _ _; first | with_reducible refine ru_in _ _ _ hn ?_ ?_ ?_ ?_)
    | (show Post _ _; first | exact h0 (by omega))
  all_goals try omega
  have hn2 : n = 0 ∨ n = 1 := by omega
  refine imR_20 mem n hn2 (fun m1 g1 => ?_) 9 0 mem rfl (by omega) ⟨fun _ _ _ => rfl, fun _ _ => rfl, fun j hj => by unfold dnI at hj; omega⟩
  refine smAt [82, 9999] 60 rfl ?_
  refine imR_82 mem n hn2 (fun m2 g2 => ?_) 5 0 m1 rfl (by omega) g1
  refine smAt [163, 9999] 60 rfl ?_
  refine imR_163 mem n hn2 (fun m3 g3 => ?_) 60 0 m2 rfl (by omega) g2
  refine smAt [194, 9999] 60 rfl ?_
  refine imR_194 mem n hn2 (fun m4 g4 => ?_) 36 0 m3 rfl (by omega) g3
  refine smAt [225, 9999] 60 rfl ?_
  refine imR_225 mem n hn2 (fun m5 g5 => ?_) 18 0 m4 rfl (by omega) g4
  refine smAt [9999] 100 rfl ?_
  repeat' first
    | refine And.intro ?_ ?_
    | intro _
  all_goals try omega
  all_goals try exact Or.inr rfl
  have p0 := inI_put g5 170 (220 * n + 170) (mem 114 0) (by omega) (by omega) (by simp [tgI])
  have p1 := inI_put p0 171 (220 * n + 171) (mem 114 2) (by omega) (by omega) (by simp [tgI])
  have p2 := inI_put p1 172 (220 * n + 172) (mem 114 9) (by omega) (by omega) (by simp [tgI])
  have p3 := inI_put p2 173 (220 * n + 173) (mem 114 11) (by omega) (by omega) (by simp [tgI])
  have p4 := inI_put p3 174 (220 * n + 174) (mem 114 13) (by omega) (by omega) (by simp [tgI])
  have z := inI_mo (E := dnI 9 5 60 36 18 5) p4 (fun j hj => by unfold dnI at *; omega)
  rw [← g5.1 114 0 (by decide), ← g5.1 114 2 (by decide), ← g5.1 114 9 (by decide), ← g5.1 114 11 (by decide), ← g5.1 114 13 (by decide)] at z
  have hh := h1 (by omega) (smU _ 135 n 1) (rI_of (fun i => smU_ne (by decide) i) (rI_in z hk h9)) smU_s (fun k i c1 c2 => by
    by_cases e : k = 135
    · subst e
      rw [smU_d (by omega)]
      exact z.1 _ _ (by omega)
    · rw [smU_ne e]
      by_cases e2 : k = 134
      · subst e2
        exact z.2.1 i (by omega)
      · exact z.1 k i e2)
  exact hh
def ofJ (k : Nat) : Int := if k = 115 then 0 else if k = 120 then 10 else if k = 121 then 20 else if k = 116 then 30 else if k = 117 then 35 else if k = 118 then 40 else if k = 119 then 45 else if k = 122 then 50 else if k = 123 then 110 else if k = 124 then 150 else 0
def dnJ (a b c d e : Int) (k : Nat) (j : Int) : Prop := 0 ≤ j ∧ (((k = 115 ∨ k = 120 ∨ k = 121) ∧ j < a) ∨ ((k = 116 ∨ k = 117 ∨ k = 118 ∨ k = 119) ∧ j < b) ∨ (k = 122 ∧ j < c) ∨ (k = 123 ∧ j < d) ∨ (k = 124 ∧ j < e))
def inJ (g : smM) (b : Int) (D : Nat → Int → Prop) (m : smM) : Prop := (∀ k j, k < 115 ∨ 124 < k → m k j = g k j) ∧ ∀ k j, D k j → m k j = g 134 (b + ofJ k + j)
theorem inJ_mo {g m : smM} {b : Int} {D E : Nat → Int → Prop} (h : inJ g b D m) (e : ∀ k j, E k j → D k j) : inJ g b E m := ⟨h.1, fun k j hj => h.2 k j (e k j hj)⟩
theorem inJ_put {g m : smM} {b : Int} {D : Nat → Int → Prop} (h : inJ g b D m) (k : Nat) (i v : Int) (hk : 115 ≤ k ∧ k ≤ 124) (hv : v = g 134 (b + ofJ k + i)) : inJ g b (fun k' j => D k' j ∨ k' = k ∧ j = i) (smU m k i v) := by
  refine ⟨fun k' j hk' => ?_, fun k' j hj => ?_⟩
  · rw [smU_ne (by omega)]; exact h.1 k' j hk'
  · by_cases e : k' = k
    · subst e
      by_cases e2 : j = i
      · rw [e2, smU_s, hv]
      · rw [smU_d e2]; exact h.2 k' j (hj.resolve_right (fun z => e2 z.2))
    · rw [smU_ne e]; exact h.2 k' j (hj.resolve_right (fun z => e z.1))
set_option maxRecDepth 4000 in
theorem reR_32 (g : smM) (n : Int) (hn : n = 0 ∨ n = 1) (K : ∀ m, inJ g (220 * n) (dnJ 9 0 0 0 0) m → smWp 176 92 [some (oR 11 114), some (.inl n), some (.inl (220 * n)), some (.inl 9)] [] m Post) : ∀ (f : Nat) (i : Int) (m : smM), i = 9 - (f : Int) → 0 ≤ i → inJ g (220 * n) (dnJ i 0 0 0 0) m → smWp 176 32 [some (oR 11 114), some (.inl n), some (.inl (220 * n)), some (.inl i)] [] m Post := by
  intro f
  induction f with
  | zero =>
    intro i m hi h0 h
    have e : i = 9 := by omega
    subst e
    refine smAt [92, 9999] 60 rfl ?_
    repeat' first
      | refine And.intro ?_ ?_
      | intro _
    all_goals try omega
    exact K m h
  | succ f ih =>
    intro i m hi h0 h
    refine smAt [32, 9999] 60 rfl ?_
    repeat' first
      | refine And.intro ?_ ?_
      | intro _
    all_goals try omega
    have e : (i + 1 : Int) = 9 - (f : Int) := by omega
    refine ih (i + 1) _ e (by omega) ?_
    have p0 := inJ_put h 115 i (g 134 (220 * n + i)) (by omega) (by rw [show ofJ 115 = 0 from rfl, Int.add_zero])
    have p1 := inJ_put p0 120 i (g 134 (220 * n + 10 + i)) (by omega) rfl
    have p2 := inJ_put p1 121 i (g 134 (220 * n + 20 + i)) (by omega) rfl
    have z := inJ_mo (E := dnJ (i + 1) 0 0 0 0) p2 (fun k j hj => by unfold dnJ at *; omega)
    rw [← h.1 134 (220 * n + i) (by decide), ← h.1 134 (220 * n + 10 + i) (by decide), ← h.1 134 (220 * n + 20 + i) (by decide)] at z
    exact z
set_option maxRecDepth 4000 in
theorem reR_94 (g : smM) (n : Int) (hn : n = 0 ∨ n = 1) (K : ∀ m, inJ g (220 * n) (dnJ 9 5 0 0 0) m → smWp 176 173 [some (oR 11 114), some (.inl n), some (.inl (220 * n)), some (.inl 5)] [] m Post) : ∀ (f : Nat) (i : Int) (m : smM), i = 5 - (f : Int) → 0 ≤ i → inJ g (220 * n) (dnJ 9 i 0 0 0) m → smWp 176 94 [some (oR 11 114), some (.inl n), some (.inl (220 * n)), some (.inl i)] [] m Post := by
  intro f
  induction f with
  | zero =>
    intro i m hi h0 h
    have e : i = 5 := by omega
    subst e
    refine smAt [173, 9999] 60 rfl ?_
    repeat' first
      | refine And.intro ?_ ?_
      | intro _
    all_goals try omega
    exact K m h
  | succ f ih =>
    intro i m hi h0 h
    refine smAt [94, 9999] 60 rfl ?_
    repeat' first
      | refine And.intro ?_ ?_
      | intro _
    all_goals try omega
    have e : (i + 1 : Int) = 5 - (f : Int) := by omega
    refine ih (i + 1) _ e (by omega) ?_
    have p0 := inJ_put h 116 i (g 134 (220 * n + 30 + i)) (by omega) rfl
    have p1 := inJ_put p0 117 i (g 134 (220 * n + 35 + i)) (by omega) rfl
    have p2 := inJ_put p1 118 i (g 134 (220 * n + 40 + i)) (by omega) rfl
    have p3 := inJ_put p2 119 i (g 134 (220 * n + 45 + i)) (by omega) rfl
    have z := inJ_mo (E := dnJ 9 (i + 1) 0 0 0) p3 (fun k j hj => by unfold dnJ at *; omega)
    rw [← h.1 134 (220 * n + 30 + i) (by decide), ← h.1 134 (220 * n + 35 + i) (by decide), ← h.1 134 (220 * n + 40 + i) (by decide), ← h.1 134 (220 * n + 45 + i) (by decide)] at z
    exact z
set_option maxRecDepth 4000 in
theorem reR_175 (g : smM) (n : Int) (hn : n = 0 ∨ n = 1) (K : ∀ m, inJ g (220 * n) (dnJ 9 5 60 0 0) m → smWp 176 204 [some (oR 11 114), some (.inl n), some (.inl (220 * n)), some (.inl 60)] [] m Post) : ∀ (f : Nat) (i : Int) (m : smM), i = 60 - (f : Int) → 0 ≤ i → inJ g (220 * n) (dnJ 9 5 i 0 0) m → smWp 176 175 [some (oR 11 114), some (.inl n), some (.inl (220 * n)), some (.inl i)] [] m Post := by
  intro f
  induction f with
  | zero =>
    intro i m hi h0 h
    have e : i = 60 := by omega
    subst e
    refine smAt [204, 9999] 60 rfl ?_
    repeat' first
      | refine And.intro ?_ ?_
      | intro _
    all_goals try omega
    exact K m h
  | succ f ih =>
    intro i m hi h0 h
    refine smAt [175, 9999] 60 rfl ?_
    repeat' first
      | refine And.intro ?_ ?_
      | intro _
    all_goals try omega
    have e : (i + 1 : Int) = 60 - (f : Int) := by omega
    refine ih (i + 1) _ e (by omega) ?_
    have p0 := inJ_put h 122 i (g 134 (220 * n + 50 + i)) (by omega) rfl
    have z := inJ_mo (E := dnJ 9 5 (i + 1) 0 0) p0 (fun k j hj => by unfold dnJ at *; omega)
    rw [← h.1 134 (220 * n + 50 + i) (by decide)] at z
    exact z
set_option maxRecDepth 4000 in
theorem reR_206 (g : smM) (n : Int) (hn : n = 0 ∨ n = 1) (K : ∀ m, inJ g (220 * n) (dnJ 9 5 60 36 0) m → smWp 176 235 [some (oR 11 114), some (.inl n), some (.inl (220 * n)), some (.inl 36)] [] m Post) : ∀ (f : Nat) (i : Int) (m : smM), i = 36 - (f : Int) → 0 ≤ i → inJ g (220 * n) (dnJ 9 5 60 i 0) m → smWp 176 206 [some (oR 11 114), some (.inl n), some (.inl (220 * n)), some (.inl i)] [] m Post := by
  intro f
  induction f with
  | zero =>
    intro i m hi h0 h
    have e : i = 36 := by omega
    subst e
    refine smAt [235, 9999] 60 rfl ?_
    repeat' first
      | refine And.intro ?_ ?_
      | intro _
    all_goals try omega
    exact K m h
  | succ f ih =>
    intro i m hi h0 h
    refine smAt [206, 9999] 60 rfl ?_
    repeat' first
      | refine And.intro ?_ ?_
      | intro _
    all_goals try omega
    have e : (i + 1 : Int) = 36 - (f : Int) := by omega
    refine ih (i + 1) _ e (by omega) ?_
    have p0 := inJ_put h 123 i (g 134 (220 * n + 110 + i)) (by omega) rfl
    have z := inJ_mo (E := dnJ 9 5 60 (i + 1) 0) p0 (fun k j hj => by unfold dnJ at *; omega)
    rw [← h.1 134 (220 * n + 110 + i) (by decide)] at z
    exact z
set_option maxRecDepth 4000 in
theorem reR_237 (g : smM) (n : Int) (hn : n = 0 ∨ n = 1) (K : ∀ m, inJ g (220 * n) (dnJ 9 5 60 36 18) m → smWp 176 267 [some (oR 11 114), some (.inl n), some (.inl (220 * n)), some (.inl 18)] [] m Post) : ∀ (f : Nat) (i : Int) (m : smM), i = 18 - (f : Int) → 0 ≤ i → inJ g (220 * n) (dnJ 9 5 60 36 i) m → smWp 176 237 [some (oR 11 114), some (.inl n), some (.inl (220 * n)), some (.inl i)] [] m Post := by
  intro f
  induction f with
  | zero =>
    intro i m hi h0 h
    have e : i = 18 := by omega
    subst e
    refine smAt [267, 9999] 60 rfl ?_
    repeat' first
      | refine And.intro ?_ ?_
      | intro _
    all_goals try omega
    exact K m h
  | succ f ih =>
    intro i m hi h0 h
    refine smAt [237, 9999] 60 rfl ?_
    repeat' first
      | refine And.intro ?_ ?_
      | intro _
    all_goals try omega
    have e : (i + 1 : Int) = 18 - (f : Int) := by omega
    refine ih (i + 1) _ e (by omega) ?_
    have p0 := inJ_put h 124 i (g 134 (220 * n + 150 + i)) (by omega) rfl
    have z := inJ_mo (E := dnJ 9 5 60 36 (i + 1)) p0 (fun k j hj => by unfold dnJ at *; omega)
    rw [← h.1 134 (220 * n + 150 + i) (by decide)] at z
    exact z
theorem rC_in {g m : smM} {b : Int} (h : ∀ k j, dnJ 9 5 60 36 18 k j → m k j = g 134 (b + ofJ k + j)) (s0 : m 114 0 = g 134 (b + 170)) (s2 : m 114 2 = g 134 (b + 171)) (s9 : m 114 9 = g 134 (b + 172)) (s11 : m 114 11 = g 134 (b + 173)) (s13 : m 114 13 = g 134 (b + 174)) (hr : rI g b S) (h9 : 0 ≤ S 9 0 ∧ S 9 0 ≤ 12) : rC m S := by
  obtain ⟨⟨kP, kT, kN, kp, kq, ki⟩, ⟨kB, kb⟩, ⟨kS, ks⟩⟩ := hr
  have e115 : ∀ i, 0 ≤ i → i < 9 → m 115 i = g 134 (b + i) := by
    intro i x y
    rw [h 115 i (by unfold dnJ; omega), show ofJ 115 = 0 from rfl, Int.add_zero]
  have e120 : ∀ i, 0 ≤ i → i < 9 → m 120 i = g 134 (b + 10 + i) := by
    intro i x y
    rw [h 120 i (by unfold dnJ; omega)]
    rfl
  have e121 : ∀ i, 0 ≤ i → i < 9 → m 121 i = g 134 (b + 20 + i) := by
    intro i x y
    rw [h 121 i (by unfold dnJ; omega)]
    rfl
  have e116 : ∀ i, 0 ≤ i → i < 5 → m 116 i = g 134 (b + 30 + i) := by
    intro i x y
    rw [h 116 i (by unfold dnJ; omega)]
    rfl
  have e117 : ∀ i, 0 ≤ i → i < 5 → m 117 i = g 134 (b + 35 + i) := by
    intro i x y
    rw [h 117 i (by unfold dnJ; omega)]
    rfl
  have e118 : ∀ i, 0 ≤ i → i < 5 → m 118 i = g 134 (b + 40 + i) := by
    intro i x y
    rw [h 118 i (by unfold dnJ; omega)]
    rfl
  have e119 : ∀ i, 0 ≤ i → i < 5 → m 119 i = g 134 (b + 45 + i) := by
    intro i x y
    rw [h 119 i (by unfold dnJ; omega)]
    rfl
  have e122 : ∀ i, 0 ≤ i → i < 60 → m 122 i = g 134 (b + 50 + i) := by
    intro i x y
    rw [h 122 i (by unfold dnJ; omega)]
    rfl
  have e123 : ∀ i, 0 ≤ i → i < 36 → m 123 i = g 134 (b + 110 + i) := by
    intro i x y
    rw [h 123 i (by unfold dnJ; omega)]
    rfl
  have e124 : ∀ i, 0 ≤ i → i < 18 → m 124 i = g 134 (b + 150 + i) := by
    intro i x y
    rw [h 124 i (by unfold dnJ; omega)]
    rfl
  refine ⟨⟨s0.trans kP, s2.trans kT, s9.trans kN, fun p x y => ?_, fun q x y => ?_, fun i x y => ?_⟩, ⟨s11.trans kB, fun i x y => ?_⟩, ⟨s13.trans kS, fun i x y => ?_⟩⟩
  · obtain ⟨z1, z2, z3⟩ := kp p x y
    exact ⟨(e115 p x y).trans z1, (e120 p x y).trans z2, (e121 p x y).trans z3⟩
  · obtain ⟨z1, z2, z3, z4⟩ := kq q x y
    exact ⟨(e117 q x y).trans z1, (e116 q x y).trans z2, (e118 q x y).trans z3, (e119 q x y).trans z4⟩
  · obtain ⟨z1, z2, z3, z4, z5⟩ := ki i x y
    exact ⟨(e122 _ (by omega) (by omega)).trans z1, (e122 _ (by omega) (by omega)).trans z2, (e122 _ (by omega) (by omega)).trans z3, (e122 _ (by omega) (by omega)).trans z4, (e122 _ (by omega) (by omega)).trans z5⟩
  · obtain ⟨z1, z2, z3, z4, z5, z6⟩ := kb i x y
    exact ⟨(e123 _ (by omega) (by omega)).trans z1, (e123 _ (by omega) (by omega)).trans z2, (e123 _ (by omega) (by omega)).trans z3, (e123 _ (by omega) (by omega)).trans z4, (e123 _ (by omega) (by omega)).trans z5, (e123 _ (by omega) (by omega)).trans z6⟩
  · obtain ⟨z1, z2, z3⟩ := ks i x y
    exact ⟨(e124 _ (by omega) (by omega)).trans z1, (e124 _ (by omega) (by omega)).trans z2, (e124 _ (by omega) (by omega)).trans z3⟩
set_option maxRecDepth 4000 in
theorem pR_restore (n : Int) (hn : smIR n) {S1 S2 : sS} (ho1 : mem 135 0 = 1 → ok N S1 ∧ rI mem 0 S1) (ho2 : mem 135 1 = 1 → ok N S2 ∧ rI mem 220 S2) (b1 : mem 135 0 = 0 ∨ mem 135 0 = 1) (b2 : mem 135 1 = 0 ∨ mem 135 1 = 1) (h0 : ¬ (0 ≤ n ∧ n ≤ 1) → Post (some (.inl (-2))) mem) (hs : (n = 0 ∧ mem 135 0 = 0 ∨ n = 1 ∧ mem 135 1 = 0) → Post (some (.inl (-3))) mem) (h1 : n = 0 → mem 135 0 = 1 → ∀ m, rC m S1 → (∀ k i, k < 114 ∨ 124 < k → m k i = mem k i) → (∀ i, i ≠ 0 → i ≠ 2 → i ≠ 9 → i ≠ 11 → i ≠ 13 → m 114 i = mem 114 i) → Post (some (.inl 1)) m) (h2 : n = 1 → mem 135 1 = 1 → ∀ m, rC m S2 → (∀ k i, k < 114 ∨ 124 < k → m k i = mem k i) → (∀ i, i ≠ 0 → i ≠ 2 → i ≠ 9 → i ≠ 11 → i ≠ 13 → m 114 i = mem 114 i) → Post (some (.inl 1)) m) : smRun 176 [oR 11 114, .inl n] mem Post := by
  have bn : 0 ≤ n ∧ n ≤ 1 → (mem 135 n = 0 ∨ mem 135 n = 1) := by
    intro c
    rcases (show n = 0 ∨ n = 1 by omega) with e | e
    · rw [e]; exact b1
    · rw [e]; exact b2
  have hs' : 0 ≤ n ∧ n ≤ 1 → mem 135 n = 0 → Post (some (.inl (-3))) mem := by
    intro c z
    rcases (show n = 0 ∨ n = 1 by omega) with e | e
    · rw [e] at z; exact hs (Or.inl ⟨e, z⟩)
    · rw [e] at z; exact hs (Or.inr ⟨e, z⟩)
  have hz : 0 ≤ n ∧ n ≤ 1 → mem 135 n = 1 → ∃ T, ok N T ∧ rI mem (220 * n) T ∧ ∀ m, rC m T → (∀ k i, k < 114 ∨ 124 < k → m k i = mem k i) → (∀ i, i ≠ 0 → i ≠ 2 → i ≠ 9 → i ≠ 11 → i ≠ 13 → m 114 i = mem 114 i) → Post (some (.inl 1)) m := by
    intro c z
    rcases (show n = 0 ∨ n = 1 by omega) with e | e
    · subst e
      exact ⟨S1, (ho1 z).1, (ho1 z).2, h1 rfl z⟩
    · subst e
      exact ⟨S2, (ho2 z).1, (ho2 z).2, h2 rfl z⟩
  refine smGo [32, 9999] 60 rfl ?_
  repeat' first
    | refine And.intro ?_ ?_
    | intro _
    | (show smRun _ _ _ _; first | with_reducible refine ru_in _ _ _ hn ?_ ?_ ?_ ?_)
    | (show Post _ _; first | exact h0 (by omega))
    | exact hs' (by omega) (by omega)
    | exact bn (by omega)
  all_goals try omega
  have hn2 : n = 0 ∨ n = 1 := by omega
  obtain ⟨T, oT, iT, hT⟩ := hz (by omega) (by have := bn (by omega); omega)
  refine reR_32 mem n hn2 (fun m1 g1 => ?_) 9 0 mem rfl (by omega) ⟨fun _ _ _ => rfl, fun k j hj => by unfold dnJ at hj; omega⟩
  refine smAt [94, 9999] 60 rfl ?_
  refine reR_94 mem n hn2 (fun m2 g2 => ?_) 5 0 m1 rfl (by omega) g1
  refine smAt [175, 9999] 60 rfl ?_
  refine reR_175 mem n hn2 (fun m3 g3 => ?_) 60 0 m2 rfl (by omega) g2
  refine smAt [206, 9999] 60 rfl ?_
  refine reR_206 mem n hn2 (fun m4 g4 => ?_) 36 0 m3 rfl (by omega) g3
  refine smAt [237, 9999] 60 rfl ?_
  refine reR_237 mem n hn2 (fun m5 g5 => ?_) 18 0 m4 rfl (by omega) g4
  refine smAt [9999] 100 rfl ?_
  repeat' first
    | refine And.intro ?_ ?_
    | intro _
  all_goals try omega
  have e : ∀ i, m5 134 i = mem 134 i := fun i => g5.1 134 i (by omega)
  refine hT _ (rC_in (g := mem) (b := 220 * n) (fun k j hj => ?_) ?_ ?_ ?_ ?_ ?_ iT oT.2.1.2.2.1) (fun k i hk => ?_) (fun i c1 c2 c3 c4 c5 => ?_)
  · have hk : k ≠ 114 := by unfold dnJ at hj; omega
    rw [smU_ne hk, smU_ne hk, smU_ne hk, smU_ne hk, smU_ne hk]
    exact g5.2 k j hj
  · simp [smU, e]
  · simp [smU, e]
  · simp [smU, e]
  · simp [smU, e]
  · simp [smU, e]
  · have hk2 : k ≠ 114 := by omega
    rw [smU_ne hk2, smU_ne hk2, smU_ne hk2, smU_ne hk2, smU_ne hk2]
    exact g5.1 k i (by omega)
  · rw [smU_d c5, smU_d c4, smU_d c3, smU_d c2, smU_d c1]
    exact g5.1 114 i (by omega)
end
