/-! judge, behind -/
theorem fwF_in {d : Int → Int} {n : Int} (hn : 0 ≤ n ∧ n ≤ 60) : fwF d n = -6 ∨ (0 ≤ fwF d n ∧ fwF d n ≤ 60) := by
  rcases fwN_in d n n.toNat 0 0 with h | h | h
  · exact Or.inl h
  · right
    unfold fwF
    omega
  · right
    unfold fwF
    omega
theorem plN_in (d : Int → Int) (n : Int) : ∀ (f : Nat) (i e : Int) (S : sS), (e ≤ (plN d n f i e S).2.1 ∧ (plN d n f i e S).2.1 ≤ e + f) ∧ (0 ≤ (plN d n f i e S).1 ∧ (plN d n f i e S).1 ≤ 5)
  | 0, i, e, S => by
    simp only [plN]
    omega
  | f + 1, i, e, S => by
    have y := evY_in (d := d) (S := S) (i := i)
    simp only [plN]
    by_cases c1 : n ≤ i
    · rw [if_pos c1]
      dsimp only
      omega
    · rw [if_neg c1]
      by_cases c2 : evY d S i = 0
      · rw [if_pos c2]
        have := plN_in d n f (i + evL d i) (e + 1) (evS d S i)
        omega
      · rw [if_neg c2]
        dsimp only
        omega
theorem plF_in {d : Int → Int} {n : Int} (hn : 0 ≤ n ∧ n ≤ 60) (S : sS) : (0 ≤ (plF d n S).2.1 ∧ (plF d n S).2.1 ≤ 60) ∧ (0 ≤ (plF d n S).1 ∧ (plF d n S).1 ≤ 5) := by
  have := plN_in d n n.toNat 0 0 S
  unfold plF
  omega
section
variable {mem : smM} {Post : Option smV → smM → Prop} {N : Int} {S : sS} {n : Int} {d : Int → Int}
theorem ru_tryDay (hk : kC mem S) (ho : ok N S) (hp : padC mem n d) (hop : okP n d) (h0 : fwF d n ≠ -6 → Post (some (.inl 0)) mem) (h1 : fwF d n = -6 → ∀ m, kY mem m → m 93 1 = (plF d n S).2.1 → m 93 2 = (plF d n S).1 → ((plF d n S).1 = 0 → wT m (plF d n S).2.2 ∧ okW (N + 720) (plF d n S).2.2 ∧ hiE S (plF d n S).2.2) → Post (some (.inl (if (plF d n S).1 = 0 then 1 else 0))) m) : smRun 81 [oR 10 0] mem Post := by
  have on := hop.1
  have fw := fwF_in (d := d) on
  refine smGo [7, 9999] 60 rfl ?_
  refine ru_firstWrong hp hop ?_
  refine smAt [14, 9999] 60 rfl ?_
  by_cases c : fwF d n = -6
  · skip
    repeat' first
      | refine And.intro ?_ ?_
      | intro _
    all_goals try omega
    refine smAt [9999] 60 rfl ?_
    refine ru_tW_79_2 hk.1 ho.2.1.2.2.1 (fun m1 v1 x1 => ?_)
    have pm : padC m1 n d := ⟨by rw [x1 93 0 (by omega)]; exact hp.1, fun j x y => by rw [x1 94 j (by omega)]; exact hp.2 j x y⟩
    refine ru_play pm hop c v1 ho.2.1 (by have := ho.1; omega) (fun m k1 g1 g2 g3 => ?_)
    have q := h1 c m (fun k i z1 z2 => by rw [k1 k i z1 z2]; exact x1 k i (by omega)) g1 g2 g3
    have b : (if (plF d n S).1 = 0 then (1 : Int) else 0) = 0 ∨ (if (plF d n S).1 = 0 then (1 : Int) else 0) = 1 := by split <;> omega
    exact ⟨b, q⟩
  · skip
    repeat' first
      | refine And.intro ?_ ?_
      | intro _
    all_goals try omega
    exact h0 c
def jgF (d : Int → Int) (n : Int) (S : sS) (w : Int) : Int := if fwF d n = -6 then (if (plF d n S).1 = 0 then -6 else if w = 0 then (plF d n S).2.1 else (plF d n S).1) else -5
theorem pC_judge (w : Int) (hw : smIR w) (hk : kC mem S) (ho : ok N S) (hp : padC mem n d) (hop : okP n d) (h0 : ¬ (0 ≤ w ∧ w ≤ 1) → Post (some (.inl (-2))) mem) (h1 : 0 ≤ w ∧ w ≤ 1 → ∀ m, keepC mem m → Post (some (.inl (jgF d n S w))) m) : smRun 82 [oR 10 0, .inl w] mem Post := by
  have on := hop.1
  have fw := fwF_in (d := d) on
  have pi := plF_in (d := d) on S
  unfold jgF at h1
  refine smGo [12, 9999] 60 rfl ?_
  repeat' first
    | refine And.intro ?_ ?_
    | intro _
    | (show smRun _ _ _ _; first | with_reducible refine ru_within _ _ _ hw ?_ ?_ ?_ ?_)
    | (show Post _ _; first | exact h0 (by omega))
  all_goals try omega
  refine smAt [19, 9999] 60 rfl ?_
  refine ru_firstWrong hp hop ?_
  have h2 := h1 (by omega)
  by_cases c : fwF d n = -6
  · rw [if_pos c] at h2
    refine smAt [27, 9999] 60 rfl ?_
    repeat' first
      | refine And.intro ?_ ?_
      | intro _
    all_goals try omega
    refine smAt [31, 9999] 60 rfl ?_
    refine ru_tryDay hk ho hp hop (fun z => absurd c z) (fun _ m k1 g1 g2 g3 => ?_)
    have h3 := h2 m (kY_keep k1)
    refine smAt [9999] 60 rfl ?_
    by_cases c2 : (plF d n S).1 = 0
    · rw [if_pos c2] at h3
      rw [if_pos c2]
      repeat' first
        | refine And.intro ?_ ?_
        | intro _
      all_goals try omega
      exact h3
    · rw [if_neg c2] at h3
      rw [if_neg c2]
      repeat' first
        | refine And.intro ?_ ?_
        | intro _
      all_goals try omega
      · rw [if_neg (by omega), ← g2] at h3; exact h3
      · rw [if_pos (by omega), ← g1] at h3; exact h3
  · rw [if_neg c] at h2
    refine smAt [27, 9999] 60 rfl ?_
    repeat' first
      | refine And.intro ?_ ?_
      | intro _
    all_goals try omega
    exact h2 mem (keepC_rf mem)
theorem pR_judge (w : Int) (hw : smIR w) (hk : rC mem S) (ho : ok N S) (hp : padR mem n d) (hop : okP n d) (h0 : ¬ (0 ≤ w ∧ w ≤ 1) → Post (some (.inl (-2))) mem) (h1 : 0 ≤ w ∧ w ≤ 1 → ∀ m, keepR mem m → Post (some (.inl (jgF d n S w))) m) : smRun 140 [oR 11 114, .inl w] mem Post := by
  have on := hop.1
  have fw := fwF_in (d := d) on
  have pi := plF_in (d := d) on S
  unfold jgF at h1
  refine smGo [12, 9999] 60 rfl ?_
  repeat' first
    | refine And.intro ?_ ?_
    | intro _
    | (show smRun _ _ _ _; first | with_reducible refine ru_in _ _ _ hw ?_ ?_ ?_ ?_)
    | (show Post _ _; first | exact h0 (by omega))
  all_goals try omega
  refine smAt [16, 9999] 60 rfl ?_
  refine ru_faultOf hp hop ?_
  have h2 := h1 (by omega)
  by_cases c : fwF d n = -6
  · rw [if_pos c] at h2
    refine smAt [22, 9999] 60 rfl ?_
    repeat' first
      | refine And.intro ?_ ?_
      | intro _
    all_goals try omega
    refine smAt [26, 9999] 60 rfl ?_
    refine ru_goDay hp hop c hk ho (fun m k1 g1 g2 g3 => ?_)
    have h3 := h2 m k1
    refine smAt [9999] 60 rfl ?_
    by_cases c2 : (plF d n S).1 = 0
    · rw [if_pos c2] at h3
      rw [if_pos c2]
      repeat' first
        | refine And.intro ?_ ?_
        | intro _
      all_goals try omega
      exact h3
    · have g2' := g2 c2
      rw [if_neg c2] at h3
      rw [if_neg c2]
      repeat' first
        | refine And.intro ?_ ?_
        | intro _
      all_goals try omega
      · rw [if_neg (by omega), ← g2'] at h3; exact h3
      · rw [if_pos (by omega)] at h3; exact h3
  · rw [if_neg c] at h2
    refine smAt [22, 9999] 60 rfl ?_
    repeat' first
      | refine And.intro ?_ ?_
      | intro _
    all_goals try omega
    exact h2 mem (keepR_rf mem)
theorem lw_judge (w : Int) (hw : smIR w) (hN : N ≤ 900000) (h : jI N mem) : both N 82 140 [.inl w] mem := by
  have hj := jI_rf hN h
  obtain ⟨S, S1, S2, n, d, h⟩ := h
  obtain ⟨a1, a2, a3, a4, a5, a6, -⟩ := id h
  have hM : N ≤ N + 1000 ∧ N + 1000 ≤ 1000000 := by have := a1.1; omega
  refine pC_judge w hw a2 a1 a5 a4 (fun c => ?_) (fun c m g2 => ?_)
  · refine pR_judge w hw a3 a1 a6 a4 (fun _ => ⟨agr_rf _, hj⟩) (fun z => absurd z c)
  · have p6 : padR m n d := ⟨by rw [g2.1 114 15 (by omega)]; exact a6.1, fun i x y => by rw [g2.1 125 i (by omega)]; exact a6.2 i x y⟩
    refine pR_judge w hw (rC_eqR (keepC_eqR g2) a3) a1 p6 a4 (fun z => absurd c z) (fun _ m2 r2 => ?_)
    exact ⟨agr_rf _, S, S1, S2, n, d, jO_keep h hM g2 r2⟩
-- behind
def bhF (d : Int → Int) (n : Int) (S : sS) (q k : Int) : Int := if fwF d n = -6 ∧ (plF d n S).1 = 0 then (if k = 0 then (plF d n S).2.2 5 q else if k = 1 then (plF d n S).2.2 7 q else (plF d n S).2.2 8 q) else -5
theorem pC_behind (q k : Int) (hq : smIR q) (hkk : smIR k) (hk : kC mem S) (ho : ok N S) (hp : padC mem n d) (hop : okP n d) (h0 : ¬ isT S q → Post (some (.inl (-1))) mem) (h1 : isT S q → ¬ (0 ≤ k ∧ k ≤ 2) → Post (some (.inl (-2))) mem) (h2 : isT S q → 0 ≤ k ∧ k ≤ 2 → ∀ m, keepC mem m → Post (some (.inl (bhF d n S q k))) m) : smRun 85 [oR 10 0, .inl q, .inl k] mem Post := by
  have kT := hk.1.2.1
  unfold isT at h0 h1 h2
  unfold bhF at h2
  rw [← kT] at h0 h1 h2
  refine smGo [28, 9999] 60 rfl ?_
  repeat' first
    | refine And.intro ?_ ?_
    | intro _
    | (show smRun _ _ _ _; first | with_reducible refine ru_hasPerson 2 _ hq ?_ ?_ | with_reducible refine ru_within _ _ _ hkk ?_ ?_ ?_ ?_)
    | (show Post _ _; first | exact h0 (by omega) | exact h1 (by omega) (by omega))
  all_goals try omega
  have h3 := h2 (by omega) (by omega)
  refine smAt [32, 9999] 60 rfl ?_
  refine ru_tryDay hk ho hp hop (fun c => ?_) (fun c m k1 g1 g2 g3 => ?_)
  · have h4 := h3 mem (keepC_rf mem)
    rw [if_neg (fun z => c z.1)] at h4
    refine smAt [9999] 60 rfl ?_
    repeat' first
      | refine And.intro ?_ ?_
      | intro _
    all_goals try omega
    exact h4
  · have h4 := h3 m (kY_keep k1)
    refine smAt [9999] 60 rfl ?_
    by_cases c2 : (plF d n S).1 = 0
    · obtain ⟨w1, -, -⟩ := g3 c2
      have k9 := w1.2.2.2.2.1 q (by omega) (by omega)
      rw [if_pos ⟨c, c2⟩] at h4
      rw [if_pos c2]
      repeat' first
        | refine And.intro ?_ ?_
        | intro _
      all_goals try omega
      refine ru_tellPerson 79 83 85 86 rfl rfl rfl q k (by omega) (by omega) ?_
      rw [k9.1, k9.2.2.1, k9.2.2.2]
      exact h4
    · rw [if_neg (fun z => c2 z.2)] at h4
      rw [if_neg c2]
      repeat' first
        | refine And.intro ?_ ?_
        | intro _
      all_goals try omega
      exact h4
theorem ru_barOfDay (hk : rC mem S) (ho : ok N S) (hp : padR mem n d) (hop : okP n d) (h0 : ¬ (fwF d n = -6 ∧ (plF d n S).1 = 0) → ∀ m, keepR mem m → Post (some (.inl (-5))) m) (h1 : fwF d n = -6 ∧ (plF d n S).1 = 0 → ∀ m, keepR mem m → m 114 27 = (plF d n S).2.1 → wN m (plF d n S).2.2 → Post (some (.inl 0)) m) : smRun 141 [oR 11 114] mem Post := by
  have on := hop.1
  have fw := fwF_in (d := d) on
  have pi := plF_in (d := d) on S
  refine smGo [4, 9999] 60 rfl ?_
  refine ru_faultOf hp hop ?_
  by_cases c : fwF d n = -6
  · refine smAt [7, 14, 9999] 60 rfl ?_
    repeat' first
      | refine And.intro ?_ ?_
      | intro _
    all_goals try omega
    refine smAt [11, 9999] 60 rfl ?_
    refine ru_goDay hp hop c hk ho (fun m k1 g1 g2 g3 => ?_)
    refine smAt [9999] 60 rfl ?_
    by_cases c2 : (plF d n S).1 = 0
    · rw [if_pos c2]
      repeat' first
        | refine And.intro ?_ ?_
        | intro _
      all_goals try omega
      exact h1 ⟨c, c2⟩ m k1 g1 (g3 c2)
    · rw [if_neg c2]
      repeat' first
        | refine And.intro ?_ ?_
        | intro _
      all_goals try omega
      exact h0 (fun z => c2 z.2) m k1
  · refine smAt [7, 14, 9999] 60 rfl ?_
    repeat' first
      | refine And.intro ?_ ?_
      | intro _
    all_goals try omega
    refine smAt [9999] 60 rfl ?_
    exact h0 (fun z => c z.1) mem (keepR_rf mem)
theorem pR_behind (q k : Int) (hq : smIR q) (hkk : smIR k) (hk : rC mem S) (ho : ok N S) (hp : padR mem n d) (hop : okP n d) (h0 : ¬ isT S q → Post (some (.inl (-1))) mem) (h1 : isT S q → ¬ (0 ≤ k ∧ k ≤ 2) → Post (some (.inl (-2))) mem) (h2 : isT S q → 0 ≤ k ∧ k ≤ 2 → ∀ m, keepR mem m → Post (some (.inl (bhF d n S q k))) m) : smRun 144 [oR 11 114, .inl q, .inl k] mem Post := by
  have kT := hk.1.2.1
  unfold isT at h0 h1 h2
  unfold bhF at h2
  rw [← kT] at h0 h1 h2
  refine smGo [22, 9999] 60 rfl ?_
  repeat' first
    | refine And.intro ?_ ?_
    | intro _
    | (show smRun _ _ _ _; first | with_reducible refine ru_isThere _ hq ?_ ?_ | with_reducible refine ru_in _ _ _ hkk ?_ ?_ ?_ ?_)
    | (show Post _ _; first | exact h0 (by omega) | exact h1 (by omega) (by omega))
  all_goals try omega
  have h3 := h2 (by omega) (by omega)
  refine smAt [26, 9999] 60 rfl ?_
  refine ru_barOfDay hk ho hp hop (fun c m k1 => ?_) (fun c m k1 g1 g2 => ?_)
  · have h4 := h3 m k1
    rw [if_neg c] at h4
    refine smAt [9999] 60 rfl ?_
    repeat' first
      | refine And.intro ?_ ?_
      | intro _
    all_goals try omega
    exact h4
  · have h4 := h3 m k1
    have k9 := g2.2.2.2.2.1 q (by omega) (by omega)
    rw [if_pos c] at h4
    rw [← k9.1, ← k9.2.2.1, ← k9.2.2.2] at h4
    refine smAt [9999] 60 rfl ?_
    repeat' first
      | refine And.intro ?_ ?_
      | intro _
    all_goals try omega
    · rw [if_neg (by omega), if_neg (by omega)] at h4; exact h4
    · rw [if_neg (by omega), if_pos (by omega)] at h4; exact h4
    · rw [if_pos (by omega)] at h4; exact h4
theorem lw_behind (q k : Int) (hq : smIR q) (hkk : smIR k) (hN : N ≤ 900000) (h : jI N mem) : both N 85 144 [.inl q, .inl k] mem := by
  have hj := jI_rf hN h
  obtain ⟨S, S1, S2, n, d, h⟩ := h
  obtain ⟨a1, a2, a3, a4, a5, a6, -⟩ := id h
  have hM : N ≤ N + 1000 ∧ N + 1000 ≤ 1000000 := by have := a1.1; omega
  refine pC_behind q k hq hkk a2 a1 a5 a4 (fun c => ?_) (fun c1 c2 => ?_) (fun c1 c2 m g2 => ?_)
  · refine pR_behind q k hq hkk a3 a1 a6 a4 (fun _ => ⟨agr_rf _, hj⟩) (fun z => absurd z c) (fun z => absurd z c)
  · refine pR_behind q k hq hkk a3 a1 a6 a4 (fun z => absurd c1 z) (fun _ _ => ⟨agr_rf _, hj⟩) (fun _ z => absurd z c2)
  · have p6 : padR m n d := ⟨by rw [g2.1 114 15 (by omega)]; exact a6.1, fun i x y => by rw [g2.1 125 i (by omega)]; exact a6.2 i x y⟩
    refine pR_behind q k hq hkk (rC_eqR (keepC_eqR g2) a3) a1 p6 a4 (fun z => absurd c1 z) (fun _ z => absurd c2 z) (fun _ _ m2 r2 => ?_)
    exact ⟨agr_rf _, S, S1, S2, n, d, jO_keep h hM g2 r2⟩
end
