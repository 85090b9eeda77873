section
variable {mem : smM} {Post : Option smV → smM → Prop} {N : Int} {S : sS}
/-- how many of the first n are p -/
def cnt (f : Int → Int) (p : Int) : Nat → Int
  | 0 => 0
  | n + 1 => cnt f p n + (if f n = p then 1 else 0)
theorem cnt_in (f : Int → Int) (p : Int) : ∀ n : Nat, 0 ≤ cnt f p n ∧ cnt f p n ≤ n
  | 0 => ⟨Int.le_refl 0, Int.le_refl 0⟩
  | n + 1 => by
    have := cnt_in f p n
    simp only [cnt]
    split <;> omega
theorem cnt_congr {f g : Int → Int} (p : Int) : ∀ n : Nat, (∀ i : Nat, i < n → f i = g i) → cnt f p n = cnt g p n
  | 0, _ => rfl
  | n + 1, h => by
    simp only [cnt]
    rw [cnt_congr p n (fun i hi => h i (by omega)), h n (by omega)]
theorem ru_countAt (p : Int) (hp : 0 ≤ p ∧ p < 9) (hc : 0 ≤ mem 10 0 ∧ mem 10 0 ≤ 12) (ha : ∀ i, 0 ≤ i → i < mem 10 0 → 0 ≤ mem 11 i ∧ mem 11 i < 9) (h : Post (some (.inl (cnt (mem 11) p (mem 10 0).toNat))) mem) : smRun 16 [oR 1 10, .inl p] mem Post := by
  have loop : ∀ (f k : Nat), (k : Int) + f = mem 10 0 → smWp 16 4 [some (oR 1 10), some (.inl p), some (.inl (cnt (mem 11) p k)), some (.inl (k : Int))] [] mem Post := by
    intro f
    induction f with
    | zero =>
      intro k hk
      refine smAt [4, 9999] 30 rfl ?_
      repeat' first
        | refine And.intro ?_ ?_
        | intro _
      all_goals try omega
      rw [show (mem 10 0).toNat = k by omega] at h
      exact h
    | succ f ih =>
      intro k hk
      have h1 := ha k (by omega) (by omega)
      have h2 := ih (k + 1) (by omega)
      simp only [cnt] at h2
      rw [show ((k + 1 : Nat) : Int) = (k : Int) + 1 by omega] at h2
      refine smAt [4, 9999] 30 rfl ?_
      repeat' first
        | refine And.intro ?_ ?_
        | intro _
      all_goals try omega
      · rw [if_neg (by omega)] at h2; exact h2
      · rw [if_pos (by omega)] at h2; exact h2
  refine smGo [4, 9999] 30 rfl ?_
  exact loop (mem 10 0).toNat 0 (by omega)
def stoF (S : sS) (p k : Int) : Int := if k = 0 then S 2 p else if k = 1 then S 3 p else cnt (S 10) p (S 9 0).toNat
theorem pC_stones (p k : Int) (hp : smIR p) (hkk : smIR k) (hk : kC mem S) (ho : ok N S) (h0 : ¬ (0 ≤ p ∧ p < S 0 0) → Post (some (.inl (-1))) mem) (h1 : 0 ≤ p ∧ p < S 0 0 → ¬ (0 ≤ k ∧ k ≤ 2) → Post (some (.inl (-2))) mem) (h2 : 0 ≤ p ∧ p < S 0 0 → 0 ≤ k ∧ k ≤ 2 → Post (some (.inl (stoF S p k))) mem) : smRun 86 [oR 10 0, .inl p, .inl k] mem Post := by
  obtain ⟨⟨kP, kT, kN, kp, kq, ki⟩, ⟨kB, kb⟩, ⟨kS, ks⟩⟩ := id hk
  obtain ⟨oN, ⟨oP, oT, oA, op, oq, oi⟩, ⟨oB, ob⟩, ⟨oS, os⟩⟩ := id ho
  refine smGo [9999] 60 rfl ?_
  repeat' first
    | refine And.intro ?_ ?_
    | intro _
    | (show smRun _ _ _ _; first | with_reducible refine ru_hasPlace 2 _ hp ?_ ?_ ?_ | with_reducible refine ru_within _ _ _ hkk ?_ ?_ ?_ ?_)
    | (show Post _ _; first | exact h0 (by omega) | exact h1 (by omega) (by omega))
  all_goals try omega
  all_goals have h9 := h2 (by omega) (by omega)
  all_goals unfold stoF at h9
  all_goals have e := kp p (by omega) (by omega)
  · rw [if_neg (by omega), if_neg (by omega)] at h9
    refine ru_countAt p (by omega) (by omega) (fun i x y => ?_) ?_
    · have := oi i x (by omega)
      have e2 := ki i x (by omega)
      omega
    · rw [kN, cnt_congr (g := S 10) p _ (fun i hi => (ki i (by omega) (by omega)).1)]
      exact h9
  · rw [if_neg (by omega), if_pos (by omega), ← e.2.2] at h9; exact h9
  · rw [if_pos (by omega), ← e.2.1] at h9; exact h9
theorem pR_stones (p k : Int) (hp : smIR p) (hkk : smIR k) (hk : rC mem S) (ho : ok N S) (h0 : ¬ (0 ≤ p ∧ p < S 0 0) → Post (some (.inl (-1))) mem) (h1 : 0 ≤ p ∧ p < S 0 0 → ¬ (0 ≤ k ∧ k ≤ 2) → Post (some (.inl (-2))) mem) (h2 : 0 ≤ p ∧ p < S 0 0 → 0 ≤ k ∧ k ≤ 2 → Post (some (.inl (stoF S p k))) mem) : smRun 145 [oR 11 114, .inl p, .inl k] mem Post := by
  obtain ⟨⟨kP, kT, kN, kp, kq, ki⟩, ⟨kB, kb⟩, ⟨kS, ks⟩⟩ := id hk
  obtain ⟨oN, ⟨oP, oT, oA, op, oq, oi⟩, ⟨oB, ob⟩, ⟨oS, os⟩⟩ := id ho
  have loop : 0 ≤ p ∧ p < S 0 0 → 0 ≤ k ∧ k ≤ 2 → ∀ (f j : Nat), (j : Int) + f = S 9 0 → smWp 145 27 [some (oR 11 114), some (.inl p), some (.inl k), some (.inl (cnt (S 10) p j)), some (.inl (j : Int))] [] mem Post := by
    intro c1 c2 f
    induction f with
    | zero =>
      intro j hj
      have h9 := h2 c1 c2
      unfold stoF at h9
      have e := kp p (by omega) (by omega)
      refine smAt [27, 9999] 60 rfl ?_
      repeat' first
        | refine And.intro ?_ ?_
        | intro _
      all_goals try omega
      · rw [if_neg (by omega), if_neg (by omega), show (S 9 0).toNat = j by omega] at h9; exact h9
      · rw [if_neg (by omega), if_pos (by omega), ← e.2.2] at h9; exact h9
      · rw [if_pos (by omega), ← e.2.1] at h9; exact h9
    | succ f ih =>
      intro j hj
      have e1 : mem 122 (5 * (j : Int)) = S 10 j := (ki j (by omega) (by omega)).1
      have e2 := oi j (by omega) (by omega)
      have h3 := ih (j + 1) (by omega)
      simp only [cnt] at h3
      rw [show ((j + 1 : Nat) : Int) = (j : Int) + 1 by omega] at h3
      refine smAt [27, 9999] 60 rfl ?_
      repeat' first
        | refine And.intro ?_ ?_
        | intro _
      all_goals try omega
      · rw [if_neg (by omega)] at h3; exact h3
      · rw [if_pos (by omega)] at h3; exact h3
  refine smGo [27, 9999] 60 rfl ?_
  repeat' first
    | refine And.intro ?_ ?_
    | intro _
    | (show smRun _ _ _ _; first | with_reducible refine ru_isPlace _ hp ?_ ?_ ?_ | with_reducible refine ru_in _ _ _ hkk ?_ ?_ ?_ ?_)
    | (show Post _ _; first | exact h0 (by omega) | exact h1 (by omega) (by omega))
  all_goals try omega
  exact loop (by omega) (by omega) (S 9 0).toNat 0 (by omega)
theorem lw_stones (p k : Int) (hp : smIR p) (hkk : smIR k) (hN : N ≤ 900000) (h : jI N mem) : both N 86 145 [.inl p, .inl k] mem := by
  have hj := jI_rf hN h
  obtain ⟨S, S1, S2, n, d, h⟩ := h
  obtain ⟨a1, a2, a3, -⟩ := id h
  refine pC_stones p k hp hkk a2 a1 (fun c => ?_) (fun c1 c2 => ?_) (fun c1 c2 => ?_)
  all_goals (refine pR_stones p k hp hkk a3 a1 ?_ ?_ ?_ <;> intros <;> first | (exfalso; omega) | exact ⟨agr_rf _, hj⟩)
-- asNow
theorem ru_asNow (hc : 0 ≤ mem 114 9 ∧ mem 114 9 ≤ 12) (h : ∀ m : smM, (∀ q, 0 ≤ q → q < 5 → m 126 q = mem 117 q ∧ m 127 q = mem 118 q ∧ m 128 q = mem 119 q) → (∀ p, 0 ≤ p → p < 9 → m 129 p = mem 120 p ∧ m 130 p = mem 121 p) → (∀ i, 0 ≤ i → i < 60 → m 131 i = mem 122 i) → m 114 22 = mem 114 9 → m 114 24 = 0 → (∀ k i, (k < 126 ∨ 131 < k) → (k = 114 → i ≠ 22 ∧ i ≠ 24) → m k i = mem k i) → Post none m) : smRun 129 [oR 11 114] mem Post := by
  have l3 : ∀ (f : Nat) (j : Int) (m : smM), j = 60 - (f : Int) → 0 ≤ j → (∀ q, 0 ≤ q → q < 5 → m 126 q = mem 117 q ∧ m 127 q = mem 118 q ∧ m 128 q = mem 119 q) → (∀ p, 0 ≤ p → p < 9 → m 129 p = mem 120 p ∧ m 130 p = mem 121 p) → (∀ i, 0 ≤ i → i < j → m 131 i = mem 122 i) → m 114 22 = mem 114 9 → (∀ k i, (k < 126 ∨ 131 < k) → (k = 114 → i ≠ 22) → m k i = mem k i) → smWp 129 97 [some (oR 11 114), some (.inl j)] [] m Post := by
    intro f
    induction f with
    | zero =>
      intro j m hj h0 g1 g2 g3 g4 g5
      refine smAt [97, 9999] 30 rfl ?_
      repeat' first
        | refine And.intro ?_ ?_
        | intro _
      all_goals try omega
      refine h _ g1 g2 (fun i x y => g3 i x (by omega)) g4 rfl (fun k i x y => ?_)
      by_cases e : k = 114
      · subst e
        rw [smU_d (y rfl).2]
        exact g5 _ _ x (fun z => (y z).1)
      · rw [smU_ne e]
        exact g5 _ _ x (fun z => (y z).1)
    | succ f ih =>
      intro j m hj h0 g1 g2 g3 g4 g5
      refine smAt [97, 9999] 30 rfl ?_
      repeat' first
        | refine And.intro ?_ ?_
        | intro _
      all_goals try omega
      refine ih (j + 1) _ (by omega) (by omega) g1 g2 (fun i x y => ?_) g4 (fun k i x y => ?_)
      · by_cases e : i = j
        · subst e; rw [smU_s]; exact g5 122 _ (by omega) (by omega)
        · rw [smU_d e]; exact g3 i x (by omega)
      · rw [smU_ne (by omega)]; exact g5 k i x y
  have l2 : ∀ (f : Nat) (j : Int) (m : smM), j = 9 - (f : Int) → 0 ≤ j → (∀ q, 0 ≤ q → q < 5 → m 126 q = mem 117 q ∧ m 127 q = mem 118 q ∧ m 128 q = mem 119 q) → (∀ p, 0 ≤ p → p < j → m 129 p = mem 120 p ∧ m 130 p = mem 121 p) → (∀ k i, (k < 126 ∨ 130 < k) → m k i = mem k i) → smWp 129 51 [some (oR 11 114), some (.inl j)] [] m Post := by
    intro f
    induction f with
    | zero =>
      intro j m hj h0 g1 g2 g5
      refine smAt [51, 97, 9999] 30 rfl ?_
      repeat' first
        | refine And.intro ?_ ?_
        | intro _
      all_goals try omega
      refine l3 60 0 _ (by omega) (by omega) g1 (fun p x y => g2 p x (by omega)) (fun i x y => by omega) ?_ (fun k i x y => ?_)
      · rw [smU_s]; exact g5 114 9 (by omega)
      · by_cases e : k = 114
        · subst e
          rw [smU_d (y rfl)]
          exact g5 _ _ (by omega)
        · rw [smU_ne e]
          exact g5 _ _ (by omega)
    | succ f ih =>
      intro j m hj h0 g1 g2 g5
      refine smAt [51, 97, 9999] 30 rfl ?_
      repeat' first
        | refine And.intro ?_ ?_
        | intro _
      all_goals try omega
      refine ih (j + 1) _ (by omega) (by omega) g1 (fun p x y => ?_) (fun k i x => ?_)
      · by_cases e : p = j
        · subst e
          refine ⟨?_, ?_⟩
          · rw [smU_ne (by decide), smU_s]; exact g5 120 _ (by omega)
          · rw [smU_s, smU_ne (by decide)]; exact g5 121 _ (by omega)
        · rw [smU_ne (by decide), smU_d e, smU_d e, smU_ne (by decide)]
          exact g2 p x (by omega)
      · rw [smU_ne (by omega), smU_ne (by omega)]; exact g5 k i x
  have l1 : ∀ (f : Nat) (j : Int) (m : smM), j = 5 - (f : Int) → 0 ≤ j → (∀ q, 0 ≤ q → q < j → m 126 q = mem 117 q ∧ m 127 q = mem 118 q ∧ m 128 q = mem 119 q) → (∀ k i, (k < 126 ∨ 128 < k) → m k i = mem k i) → smWp 129 2 [some (oR 11 114), some (.inl j)] [] m Post := by
    intro f
    induction f with
    | zero =>
      intro j m hj h0 g1 g5
      refine smAt [2, 51, 9999] 30 rfl ?_
      repeat' first
        | refine And.intro ?_ ?_
        | intro _
      all_goals try omega
      exact l2 9 0 m (by omega) (by omega) (fun q x y => g1 q x (by omega)) (fun p x y => by omega) (fun k i x => g5 k i (by omega))
    | succ f ih =>
      intro j m hj h0 g1 g5
      refine smAt [2, 51, 9999] 40 rfl ?_
      repeat' first
        | refine And.intro ?_ ?_
        | intro _
      all_goals try omega
      refine ih (j + 1) _ (by omega) (by omega) (fun q x y => ?_) (fun k i x => ?_)
      · by_cases e : q = j
        · subst e
          refine ⟨?_, ?_, ?_⟩
          · rw [smU_ne (by decide), smU_ne (by decide), smU_s]; exact g5 117 _ (by omega)
          · rw [smU_ne (by decide), smU_s, smU_ne (by decide)]; exact g5 118 _ (by omega)
          · rw [smU_s, smU_ne (by decide), smU_ne (by decide)]; exact g5 119 _ (by omega)
        · have h9 := g1 q x (by omega)
          refine ⟨?_, ?_, ?_⟩
          · rw [smU_ne (by decide), smU_ne (by decide), smU_d e]; exact h9.1
          · rw [smU_ne (by decide), smU_d e, smU_ne (by decide)]; exact h9.2.1
          · rw [smU_d e, smU_ne (by decide), smU_ne (by decide)]; exact h9.2.2
      · rw [smU_ne (by omega), smU_ne (by omega), smU_ne (by omega)]; exact g5 k i x
  refine smGo [2, 9999] 30 rfl ?_
  exact l1 5 0 mem (by omega) (by omega) (fun q x y => by omega) (fun _ _ _ => rfl)
/-- asNow, of S: the day begins as all is -/
theorem ru_asNowS (hk : rC mem S) (ho : ok N S) (h : ∀ m, wN m S → m 114 24 = 0 → keepR mem m → Post none m) : smRun 129 [oR 11 114] mem Post := by
  obtain ⟨⟨kP, kT, kN, kp, kq, ki⟩, ⟨kB, kb⟩, ⟨kS, ks⟩⟩ := id hk
  obtain ⟨oN, ⟨oP, oT, oA, op, oq, oi⟩, ⟨oB, ob⟩, ⟨oS, os⟩⟩ := id ho
  refine ru_asNow (by omega) (fun m g1 g2 g3 g4 g5 g6 => ?_)
  have kr : keepR mem m := ⟨fun k i hh => g6 k i (by omega) (by omega), fun j hh => g6 114 j (by omega) (by omega)⟩
  refine h m ⟨?_, ?_, ?_, fun p x y => ?_, fun q x y => ?_, fun i x y => ?_⟩ g5 kr
  · rw [kr.2 0 (by omega)]; exact kP
  · rw [kr.2 2 (by omega)]; exact kT
  · rw [g4]; exact kN
  · have a := g2 p x y
    have b := kp p x y
    exact ⟨(kr.1 115 p (by omega)).trans b.1, a.1.trans b.2.1, a.2.trans b.2.2⟩
  · have a := g1 q x y
    have b := kq q x y
    exact ⟨a.1.trans b.1, (kr.1 116 q (by omega)).trans b.2.1, a.2.1.trans b.2.2.1, a.2.2.trans b.2.2.2⟩
  · have b := ki i x y
    exact ⟨(g3 _ (by omega) (by omega)).trans b.1, (g3 _ (by omega) (by omega)).trans b.2.1, (g3 _ (by omega) (by omega)).trans b.2.2.1, (g3 _ (by omega) (by omega)).trans b.2.2.2.1, (g3 _ (by omega) (by omega)).trans b.2.2.2.2⟩
-- air
def airF (S : sS) (i : Int) : Int := if i = -1 then S 9 0 else if 0 ≤ i ∧ i < S 9 0 then 100 * S 10 i + 10 * fH (S 14 i) (S 12 i) (S 13 i) + S 11 i else -6
theorem ru_tellStone (i : Int) (hi : 0 ≤ i ∧ i < 12) (h : Post (some (.inl (100 * mem 11 i + 10 * mem 10 (100 + i) + mem 12 i))) mem) : smRun 17 [oR 1 10, .inl i] mem Post := by
  refine smGo [9999] 30 rfl ?_
  repeat' first
    | refine And.intro ?_ ?_
    | intro _
  all_goals try omega
  exact h
theorem pC_air (i : Int) (hi : smIR i) (hk : kC mem S) (ho : ok N S) (h : Post (some (.inl (airF S i))) mem) : smRun 87 [oR 10 0, .inl i] mem Post := by
  obtain ⟨⟨kP, kT, kN, kp, kq, ki⟩, ⟨kB, kb⟩, ⟨kS, ks⟩⟩ := id hk
  obtain ⟨oN, ⟨oP, oT, oA, op, oq, oi⟩, ⟨oB, ob⟩, ⟨oS, os⟩⟩ := id ho
  have hi' : -2147483648 ≤ i ∧ i ≤ 2147483647 := hi
  unfold airF at h
  refine smGo [9999] 30 rfl ?_
  repeat' first
    | refine And.intro ?_ ?_
    | intro _
    | (show smRun _ _ _ _; first | with_reducible refine ru_within _ _ _ hi ?_ ?_ ?_ ?_)
  all_goals try omega
  · have e := ki i (by omega) (by omega)
    have o := oi i (by omega) (by omega)
    have e5 := aG_in e.2.2.2.2 o.2.2.2.2.1
    rw [if_neg (by omega), if_pos (by omega), ← e.1, ← e.2.1, ← e.2.2.1, ← e.2.2.2.1, ← e5.1, ← e5.2] at h
    exact ru_tellStone i (by omega) h
  · rw [if_neg (by omega), if_neg (by omega)] at h; exact h
  · rw [if_pos (by omega), ← kN] at h; exact h
theorem ru_heightNow (i : Int) (hi : 0 ≤ i ∧ i < 12) (h1 : 0 ≤ mem 131 (5 * i + 4) ∧ mem 131 (5 * i + 4) ≤ 36) (h2 : 0 ≤ mem 131 (5 * i + 2) ∧ mem 131 (5 * i + 2) ≤ 36) (h3 : 0 ≤ mem 131 (5 * i + 3) ∧ mem 131 (5 * i + 3) ≤ 5) (h : Post (some (.inl (fH (mem 131 (5 * i + 4)) (mem 131 (5 * i + 2)) (mem 131 (5 * i + 3))))) mem) : smRun 132 [oR 11 114, .inl i] mem Post := by
  refine smGo [9999] 40 rfl ?_
  repeat' first
    | refine And.intro ?_ ?_
    | intro _
  all_goals try omega
  exact ru_heightOf _ _ _ (by omega) (by omega) (by omega) h
theorem pR_air (i : Int) (hi : smIR i) (hk : rC mem S) (ho : ok N S) (h : ∀ mem', keepR mem mem' → Post (some (.inl (airF S i))) mem') : smRun 146 [oR 11 114, .inl i] mem Post := by
  obtain ⟨⟨kP, kT, kN, kp, kq, ki⟩, ⟨kB, kb⟩, ⟨kS, ks⟩⟩ := id hk
  obtain ⟨oN, ⟨oP, oT, oA, op, oq, oi⟩, ⟨oB, ob⟩, ⟨oS, os⟩⟩ := id ho
  have hi' : -2147483648 ≤ i ∧ i ≤ 2147483647 := hi
  unfold airF at h
  refine smGo [9999] 60 rfl ?_
  repeat' first
    | refine And.intro ?_ ?_
    | intro _
    | (show smRun _ _ _ _; first | with_reducible refine ru_in _ _ _ hi ?_ ?_ ?_ ?_)
  all_goals try omega
  · refine ru_asNowS hk ho (fun m hN1 _ kr => ?_)
    have h9 := h m kr
    obtain ⟨-, -, -, -, -, ni⟩ := hN1
    have e := ni i (by omega) (by omega)
    have e1 : m 131 (5 * i) = S 10 i := e.1
    have e2 : m 131 (5 * i + 1) = S 11 i := e.2.1
    have e3 : m 131 (5 * i + 2) = S 12 i := e.2.2.1
    have e4 : m 131 (5 * i + 3) = S 13 i := e.2.2.2.1
    have e5 : m 131 (5 * i + 4) = S 14 i := e.2.2.2.2
    have o := oi i (by omega) (by omega)
    rw [if_neg (by omega), if_pos (by omega), ← e1, ← e2, ← e3, ← e4, ← e5] at h9
    repeat' first
      | refine And.intro ?_ ?_
      | intro _
    all_goals try omega
    refine ru_heightNow i (by omega) (by omega) (by omega) (by omega) ?_
    repeat' first
      | refine And.intro ?_ ?_
      | intro _
    all_goals try omega
    exact h9
  · have h9 := h mem (keepR_rf mem)
    rw [if_neg (by omega), if_neg (by omega)] at h9; exact h9
  · have h9 := h mem (keepR_rf mem)
    rw [if_pos (by omega), ← kN] at h9; exact h9
theorem lw_air (i : Int) (hi : smIR i) (hN : N ≤ 900000) (h : jI N mem) : both N 87 146 [.inl i] mem := by
  obtain ⟨S, S1, S2, n, d, h⟩ := h
  obtain ⟨a1, a2, a3, -⟩ := id h
  refine pC_air i hi a2 a1 (pR_air i hi a3 a1 (fun m2 k2 => ?_))
  exact ⟨agr_rf _, S, S1, S2, n, d, jO_keep h (by have := a1.1; omega) (keepC_rf mem) k2⟩
end
