/-! events: throws, picking up, walking -/
abbrev isT (S : sS) (q : Int) : Prop := 0 ≤ q ∧ q ≤ 4 ∧ bB (S 4 0) q
def thS (S : sS) (q w r t : Int) : sS
  | 7, i => if i = q then S 7 i - 1 else S 7 i
  | 9, _ => S 9 0 + 1
  | 10, i => if i = S 9 0 then S 5 q else S 10 i
  | 11, i => if i = S 9 0 then w else S 11 i
  | 12, i => if i = S 9 0 then r else S 12 i
  | 13, i => if i = S 9 0 then t else S 13 i
  | 14, i => if i = S 9 0 then 0 else S 14 i
  | k, i => S k i
def puS (S : sS) (q : Int) : sS
  | 2, i => if i = S 5 q then S 2 i - 1 else S 2 i
  | 7, i => if i = q then S 7 i + 1 else S 7 i
  | k, i => S k i
def wkS (S : sS) (q w : Int) : sS
  | 5, i => if i = q then fNx (S 5 i) w (S 0 0) else S 5 i
  | k, i => S k i
/-- why it can not be -/
def wyT (S : sS) (q r y : Int) : Prop := (¬ isT S q ∧ y = 1) ∨ (isT S q ∧ S 7 q = 0 ∧ y = 2) ∨ (isT S q ∧ S 7 q ≠ 0 ∧ S 6 q < r ∧ y = 3) ∨ (isT S q ∧ S 7 q ≠ 0 ∧ r ≤ S 6 q ∧ S 9 0 = 12 ∧ y = 4) ∨ (isT S q ∧ S 7 q ≠ 0 ∧ r ≤ S 6 q ∧ S 9 0 ≠ 12 ∧ y = 0)
def wyP (S : sS) (q y : Int) : Prop := (¬ isT S q ∧ y = 1) ∨ (isT S q ∧ S 2 (S 5 q) = 0 ∧ y = 5) ∨ (isT S q ∧ S 2 (S 5 q) ≠ 0 ∧ y = 0)
def wyW (S : sS) (q y : Int) : Prop := (¬ isT S q ∧ y = 1) ∨ (isT S q ∧ y = 0)
theorem wyT_uni {S : sS} {q r x y : Int} (h : wyT S q r x) (g : wyT S q r y) : x = y := by
  unfold wyT at h g
  omega
theorem wyP_uni {S : sS} {q x y : Int} (h : wyP S q x) (g : wyP S q y) : x = y := by
  unfold wyP at h g
  omega
theorem wyW_uni {S : sS} {q x y : Int} (h : wyW S q x) (g : wyW S q y) : x = y := by
  unfold wyW at h g
  omega
theorem thS_ok {N : Int} {S : sS} {q w r t : Int} (ho : okW N S) (ht : fThr w r t) (h : wyT S q r 0) : okW N (thS S q w r t) := by
  have h1 : isT S q ∧ S 7 q ≠ 0 ∧ r ≤ S 6 q ∧ S 9 0 ≠ 12 := by
    unfold wyT at h
    omega
  obtain ⟨h1, h2, h3, h4⟩ := h1
  obtain ⟨oP, oT, oA, op, oq, oi⟩ := id ho
  refine ⟨oP, oT, ?_, op, fun j x y => ?_, fun i x y => ?_⟩
  · show 0 ≤ S 9 0 + 1 ∧ S 9 0 + 1 ≤ 12
    omega
  · obtain ⟨b1, b2, b3, b4, b5⟩ := oq j x y
    refine ⟨b1, b2, ?_, b4, b5⟩
    show 0 ≤ (if j = q then S 7 j - 1 else S 7 j) ∧ (if j = q then S 7 j - 1 else S 7 j) ≤ N
    split
    · next e => subst e; omega
    · exact b3
  · change i < S 9 0 + 1 at y
    show (0 ≤ (if i = S 9 0 then S 5 q else S 10 i) ∧ (if i = S 9 0 then S 5 q else S 10 i) < S 0 0) ∧ ((if i = S 9 0 then w else S 11 i) = 0 ∨ (if i = S 9 0 then w else S 11 i) = 1) ∧ (1 ≤ (if i = S 9 0 then r else S 12 i) ∧ (if i = S 9 0 then r else S 12 i) ≤ 36) ∧ (1 ≤ (if i = S 9 0 then t else S 13 i) ∧ (if i = S 9 0 then t else S 13 i) ≤ 5) ∧ (0 ≤ (if i = S 9 0 then 0 else S 14 i) ∧ (if i = S 9 0 then 0 else S 14 i) < (if i = S 9 0 then r else S 12 i))
    by_cases e : i = S 9 0
    · simp only [if_pos e]
      have := oq q (by omega) (by omega)
      have := this.2.2.2.2 h1.2.2
      unfold fThr at ht
      omega
    · simp only [if_neg e]
      exact oi i x (by omega)
theorem puS_ok {N : Int} {S : sS} {q : Int} (ho : okW N S) (h : wyP S q 0) : okW (N + 1) (puS S q) := by
  have h1 : isT S q ∧ S 2 (S 5 q) ≠ 0 := by
    unfold wyP at h
    omega
  obtain ⟨h1, h2⟩ := h1
  obtain ⟨oP, oT, oA, op, oq, oi⟩ := id ho
  refine ⟨oP, oT, oA, fun p x y => ?_, fun j x y => ?_, oi⟩
  · obtain ⟨b1, b2, b3⟩ := op p x y
    refine ⟨b1, ?_, ?_⟩
    · show 0 ≤ (if p = S 5 q then S 2 p - 1 else S 2 p) ∧ (if p = S 5 q then S 2 p - 1 else S 2 p) ≤ N + 1
      split
      · next e => rw [← e] at h2; omega
      · omega
    · show 0 ≤ S 3 p ∧ S 3 p ≤ N + 1 ∧ (S 0 0 ≤ p → S 3 p = 0)
      omega
  · obtain ⟨b1, b2, b3, b4, b5⟩ := oq j x y
    refine ⟨b1, b2, ?_, ?_, b5⟩
    · show 0 ≤ (if j = q then S 7 j + 1 else S 7 j) ∧ (if j = q then S 7 j + 1 else S 7 j) ≤ N + 1
      split <;> omega
    · show 0 ≤ S 8 j ∧ S 8 j ≤ N + 1
      omega
theorem wkS_ok {N : Int} {S : sS} {q w : Int} (ho : okW N S) (h : wyW S q 0) : okW N (wkS S q w) := by
  have h1 : isT S q := by
    unfold wyW at h
    omega
  obtain ⟨oP, oT, oA, op, oq, oi⟩ := id ho
  refine ⟨oP, oT, oA, op, fun j x y => ?_, oi⟩
  obtain ⟨b1, b2, b3, b4, b5⟩ := oq j x y
  show (0 ≤ (if j = q then fNx (S 5 j) w (S 0 0) else S 5 j) ∧ (if j = q then fNx (S 5 j) w (S 0 0) else S 5 j) < 9) ∧ (0 ≤ S 6 j ∧ S 6 j ≤ 36) ∧ (0 ≤ S 7 j ∧ S 7 j ≤ N) ∧ (0 ≤ S 8 j ∧ S 8 j ≤ N) ∧ (bB (S 4 0) j → (if j = q then fNx (S 5 j) w (S 0 0) else S 5 j) < S 0 0 ∧ 1 ≤ S 6 j)
  by_cases e : j = q
  · simp only [if_pos e]
    have b6 := b5 (by rw [e]; exact h1.2.2)
    have b7 := fNx_in (w := w) (show 0 ≤ S 5 j ∧ S 5 j < S 0 0 by omega)
    exact ⟨by omega, b2, b3, b4, fun _ => by omega⟩
  · simp only [if_neg e]
    exact ⟨b1, b2, b3, b4, b5⟩
theorem okW_mono {N M : Int} {S : sS} (h : okW N S) (hM : N ≤ M) : okW M S := by
  obtain ⟨oP, oT, oA, op, oq, oi⟩ := h
  refine ⟨oP, oT, oA, fun p x y => ?_, fun j x y => ?_, oi⟩
  · have := op p x y
    omega
  · obtain ⟨b1, b2, b3, b4, b5⟩ := oq j x y
    exact ⟨b1, b2, by omega, by omega, b5⟩
section
variable {mem : smM} {Post : Option smV → smM → Prop} {N : Int} {S : sS}
theorem ru_whyNoThrow (q r : Int) (hq : smIR q) (hr : 0 ≤ r ∧ r ≤ 100) (hk : wT mem S) (ho : okW N S) (hN : N ≤ 1002000) (h : ∀ y, wyT S q r y → Post (some (.inl y)) mem) : smRun 52 [oR 9 79, .inl q, .inl r] mem Post := by
  obtain ⟨kP, kT, kN, kp, kq, ki⟩ := id hk
  obtain ⟨oP, oT, oA, op, oq, oi⟩ := id ho
  unfold wyT isT at h
  rw [← kT] at h
  refine smGo [10, 9999] 60 rfl ?_
  repeat' first
    | refine And.intro ?_ ?_
    | intro _
    | (show smRun _ _ _ _; first | with_reducible refine ru_hasPerson 79 _ hq ?_ ?_)
  all_goals try omega
  · have k1 := kq q (by omega) (by omega)
    have o1 := oq q (by omega) (by omega)
    refine smAt [9999] 60 rfl ?_
    repeat' first
      | refine And.intro ?_ ?_
      | intro _
    all_goals try omega
    all_goals exact h _ (by omega)
  · exact h _ (by omega)
theorem ru_add (p w r t : Int) (hc : 0 ≤ mem 87 0 ∧ mem 87 0 < 12) (h : ∀ m, m 87 0 = mem 87 0 + 1 → (∀ i, (m 88 i = if i = mem 87 0 then p else mem 88 i) ∧ (m 89 i = if i = mem 87 0 then w else mem 89 i) ∧ (m 90 i = if i = mem 87 0 then r else mem 90 i) ∧ (m 91 i = if i = mem 87 0 then t else mem 91 i) ∧ (m 92 i = if i = mem 87 0 then 0 else mem 92 i) ∧ (0 ≤ i → m 87 (100 + i) = if i = mem 87 0 then 0 else mem 87 (100 + i))) → (∀ k i, k < 87 ∨ 92 < k → m k i = mem k i) → Post none m) : smRun 12 [oR 1 87, .inl p, .inl w, .inl r, .inl t] mem Post := by
  refine smGo [10, 9999] 60 rfl ?_
  repeat' first
    | refine And.intro ?_ ?_
    | intro _
  all_goals try omega
  refine smAt [9999] 80 rfl ?_
  repeat' first
    | refine And.intro ?_ ?_
    | intro _
    | exact hc.1
    | exact hc.2
  all_goals try omega
  refine h _ ?_ (fun i => ⟨?_, ?_, ?_, ?_, ?_, fun z => ?_⟩) (fun k i z => ?_)
  · have z0 : ¬ ((0 : Int) = 100 + mem 87 0) := by omega
    simp [smU, z0]
  rotate_right 2
  · have z0 : ¬ (100 + i = 0) := by omega
    simp [smU, z0]
  all_goals first
    | (by_cases e : i = mem 87 0
       · rw [e, if_pos rfl]
         simp [smU]
       · rw [if_neg e]
         simp [smU, e])
    | (rw [smU_ne (by omega), smU_ne (by omega), smU_ne (by omega), smU_ne (by omega), smU_ne (by omega), smU_ne (by omega), smU_ne (by omega)])
theorem ru_throwStone (q w r t : Int) (hq : smIR q) (ht : fThr w r t) (hk : wT mem S) (ho : okW N S) (hN : N ≤ 1002000) (h0 : wyT S q r 0 → ∀ m, wT m (thS S q w r t) → kW mem m → Post (some (.inl 0)) m) (h1 : ∀ y, wyT S q r y → y ≠ 0 → Post (some (.inl y)) mem) : smRun 53 [oR 9 79, .inl q, .inl w, .inl r, .inl t] mem Post := by
  obtain ⟨kP, kT, kN, kp, kq, ki⟩ := id hk
  obtain ⟨oP, oT, oA, op, oq, oi⟩ := id ho
  refine smGo [6, 9999] 60 rfl ?_
  refine ru_whyNoThrow q r hq (by omega) hk ho hN (fun y hy => ?_)
  have yb : 0 ≤ y ∧ y ≤ 4 := by unfold wyT at hy; omega
  by_cases c : y = 0
  · subst c
    have hy2 : isT S q ∧ S 7 q ≠ 0 ∧ r ≤ S 6 q ∧ S 9 0 ≠ 12 := by
      unfold wyT at hy
      omega
    have k1 := kq q (by omega) (by omega)
    refine smAt [13, 9999] 60 rfl ?_
    repeat' first
      | refine And.intro ?_ ?_
      | intro _
    all_goals try omega
    refine smAt [9999] 60 rfl ?_
    repeat' first
      | refine And.intro ?_ ?_
      | intro _
    all_goals try omega
    refine ru_add _ w r t ?_ (fun m g1 g2 gx => ?_)
    · show 0 ≤ mem 87 0 ∧ mem 87 0 < 12
      omega
    · refine h0 hy m ⟨?_, ?_, ?_, fun p x y => ⟨?_, ?_, ?_⟩, fun j x y => ⟨?_, ?_, ?_, ?_⟩, fun i x y => ?_⟩ (fun k i z => ?_)
      · rw [gx 79 0 (by omega), smU_ne (by decide)]; exact kP
      · rw [gx 79 4 (by omega), smU_ne (by decide)]; exact kT
      · rw [g1, smU_ne (by decide), kN]; rfl
      · rw [gx 80 p (by omega), smU_ne (by decide)]; exact (kp p x y).1
      · rw [gx 81 p (by omega), smU_ne (by decide)]; exact (kp p x y).2.1
      · rw [gx 82 p (by omega), smU_ne (by decide)]; exact (kp p x y).2.2
      · rw [gx 83 j (by omega), smU_ne (by decide)]; exact (kq j x y).1
      · rw [gx 84 j (by omega), smU_ne (by decide)]; exact (kq j x y).2.1
      · show m 85 j = if j = q then S 7 j - 1 else S 7 j
        rw [gx 85 j (by omega)]
        by_cases e : j = q
        · rw [if_pos e, e, smU_s, k1.2.2.1]
        · rw [if_neg e, smU_d e]; exact (kq j x y).2.2.1
      · rw [gx 86 j (by omega), smU_ne (by decide)]; exact (kq j x y).2.2.2
      · obtain ⟨d1, d2, d3, d4, d5, d6⟩ := g2 i
        change i < S 9 0 + 1 at y
        show m 88 i = (if i = S 9 0 then S 5 q else S 10 i) ∧ m 89 i = (if i = S 9 0 then w else S 11 i) ∧ m 90 i = (if i = S 9 0 then r else S 12 i) ∧ m 91 i = (if i = S 9 0 then t else S 13 i) ∧ aG (m 87 (100 + i)) (m 92 i) (m 90 i) (m 91 i) = (if i = S 9 0 then 0 else S 14 i)
        rw [d6 x, d1, d2, d3, d4, d5]
        have e9 : smU mem 85 q (mem 85 q - 1) 87 0 = S 9 0 := by rw [smU_ne (by decide)]; exact kN
        rw [e9]
        by_cases e : i = S 9 0
        · simp only [if_pos e]
          have f0 : 0 = fH 0 r t := by
            unfold fThr at ht
            unfold fH
            split <;> split <;> omega
          refine ⟨?_, by simp, by simp, by simp, aG_mk f0⟩
          rw [smU_ne (by decide)]; exact k1.1
        · simp only [if_neg e]
          rw [smU_ne (by decide), smU_ne (by decide), smU_ne (by decide), smU_ne (by decide), smU_ne (by decide), smU_ne (by decide)]
          exact ki i x (by omega)
      · rw [gx k i (by omega), smU_ne (by omega)]
  · refine smAt [9999] 60 rfl ?_
    repeat' first
      | refine And.intro ?_ ?_
      | intro _
    all_goals try omega
    exact h1 y hy c
theorem ru_pickUp (q : Int) (hq : smIR q) (hk : wT mem S) (ho : okW N S) (hN : N ≤ 1002000) (h0 : wyP S q 0 → ∀ m, wT m (puS S q) → kW mem m → Post (some (.inl 0)) m) (h1 : ∀ y, wyP S q y → y ≠ 0 → Post (some (.inl y)) mem) : smRun 54 [oR 9 79, .inl q] mem Post := by
  obtain ⟨kP, kT, kN, kp, kq, ki⟩ := id hk
  obtain ⟨oP, oT, oA, op, oq, oi⟩ := id ho
  have h0' := h0
  have h1' := h1
  unfold wyP isT at h0 h1
  rw [← kT] at h0 h1
  refine smGo [10, 9999] 60 rfl ?_
  repeat' first
    | refine And.intro ?_ ?_
    | intro _
    | (show smRun _ _ _ _; first | with_reducible refine ru_hasPerson 79 _ hq (fun _ _ w1 => ?_) (fun w1 => ?_))
  all_goals try omega
  · have k1 := kq q (by omega) (by omega)
    have o1 := oq q (by omega) (by omega)
    have k2 := kp (S 5 q) (by omega) (by omega)
    have o2 := op (S 5 q) (by omega) (by omega)
    refine smAt [17, 9999] 60 rfl ?_
    repeat' first
      | refine And.intro ?_ ?_
      | intro _
    all_goals try omega
    rw [k1.1]
    refine smAt [9999] 60 rfl ?_
    repeat' first
      | refine And.intro ?_ ?_
      | intro _
    all_goals try omega
    · have e2 : S 2 (S 5 q) ≠ 0 := by omega
      refine h0 (Or.inr (Or.inr ⟨⟨by omega, by omega, w1⟩, e2, rfl⟩)) _ ⟨kP, kT, kN, fun p x y => ⟨?_, ?_, ?_⟩, fun j x y => ⟨?_, ?_, ?_, ?_⟩, ki⟩ (fun k i z => ?_)
      · rw [smU_ne (by decide), smU_ne (by decide)]; exact (kp p x y).1
      · show _ = if p = S 5 q then S 2 p - 1 else S 2 p
        rw [smU_ne (by decide)]
        by_cases e : p = S 5 q
        · rw [if_pos e, e, smU_s, k2.2.1]
        · rw [if_neg e, smU_d e]; exact (kp p x y).2.1
      · rw [smU_ne (by decide), smU_ne (by decide)]; exact (kp p x y).2.2
      · rw [smU_ne (by decide), smU_ne (by decide)]; exact (kq j x y).1
      · rw [smU_ne (by decide), smU_ne (by decide)]; exact (kq j x y).2.1
      · show _ = if j = q then S 7 j + 1 else S 7 j
        by_cases e : j = q
        · rw [if_pos e, e, smU_s, smU_ne (by decide), k1.2.2.1]
        · rw [if_neg e, smU_d e, smU_ne (by decide)]; exact (kq j x y).2.2.1
      · rw [smU_ne (by decide), smU_ne (by decide)]; exact (kq j x y).2.2.2
      · rw [smU_ne (by omega), smU_ne (by omega)]
    · exact h1 5 (Or.inr (Or.inl ⟨⟨by omega, by omega, w1⟩, by omega, rfl⟩)) (by decide)
  · exact h1 1 (Or.inl ⟨w1, rfl⟩) (by decide)
theorem ru_walk (q w : Int) (hq : smIR q) (hw : w = 0 ∨ w = 1) (hk : wT mem S) (ho : okW N S) (h0 : wyW S q 0 → ∀ m, wT m (wkS S q w) → kW mem m → Post (some (.inl 0)) m) (h1 : ∀ y, wyW S q y → y ≠ 0 → Post (some (.inl y)) mem) : smRun 55 [oR 9 79, .inl q, .inl w] mem Post := by
  obtain ⟨kP, kT, kN, kp, kq, ki⟩ := id hk
  obtain ⟨oP, oT, oA, op, oq, oi⟩ := id ho
  unfold wyW isT at h0 h1
  rw [← kT] at h0 h1
  refine smGo [10, 9999] 60 rfl ?_
  repeat' first
    | refine And.intro ?_ ?_
    | intro _
    | (show smRun _ _ _ _; first | with_reducible refine ru_hasPerson 79 _ hq (fun _ _ w1 => ?_) (fun w1 => ?_))
  all_goals try omega
  · have k1 := kq q (by omega) (by omega)
    have o1 := oq q (by omega) (by omega)
    refine smAt [9999] 60 rfl ?_
    repeat' first
      | refine And.intro ?_ ?_
      | intro _
    all_goals try omega
    refine ru_nextPlace _ _ _ (by omega) hw (by omega) ?_
    repeat' first
      | refine And.intro ?_ ?_
      | intro _
    all_goals try omega
    refine h0 (Or.inr ⟨⟨by omega, by omega, w1⟩, rfl⟩) _ ⟨kP, kT, kN, kp, fun j x y => ⟨?_, ?_, ?_, ?_⟩, ki⟩ (fun k i z => ?_)
    · show _ = if j = q then fNx (S 5 j) w (S 0 0) else S 5 j
      by_cases e : j = q
      · rw [if_pos e, e, smU_s, k1.1, kP]
      · rw [if_neg e, smU_d e]; exact (kq j x y).1
    · rw [smU_ne (by decide)]; exact (kq j x y).2.1
    · rw [smU_ne (by decide)]; exact (kq j x y).2.2.1
    · rw [smU_ne (by decide)]; exact (kq j x y).2.2.2
    · rw [smU_ne (by omega)]
  · exact h1 1 (Or.inl ⟨w1, rfl⟩) (by decide)
-- the reference's
theorem ru_whyNot (q r : Int) (hq : smIR q) (hr : 0 ≤ r ∧ r ≤ 100) (hk : wN mem S) (ho : okW N S) (hN : N ≤ 1002000) (h : ∀ y, wyT S q r y → Post (some (.inl y)) mem) : smRun 136 [oR 11 114, .inl q, .inl r] mem Post := by
  obtain ⟨kP, kT, kN, kp, kq, ki⟩ := id hk
  obtain ⟨oP, oT, oA, op, oq, oi⟩ := id ho
  unfold wyT isT at h
  rw [← kT] at h
  refine smGo [12, 9999] 60 rfl ?_
  repeat' first
    | refine And.intro ?_ ?_
    | intro _
    | (show smRun _ _ _ _; first | with_reducible refine ru_isThere _ hq ?_ ?_)
  all_goals try omega
  · have k1 := kq q (by omega) (by omega)
    have o1 := oq q (by omega) (by omega)
    refine smAt [9999] 60 rfl ?_
    repeat' first
      | refine And.intro ?_ ?_
      | intro _
    all_goals try omega
    all_goals exact h _ (by omega)
  · exact h _ (by omega)
theorem ru_fling (q w r t : Int) (hy : wyT S q r 0) (hk : wN mem S) (ho : okW N S) (h0 : ∀ m, wN m (thS S q w r t) → m 114 24 = mem 114 24 → kV mem m → Post none m) : smRun 137 [oR 11 114, .inl q, .inl w, .inl r, .inl t] mem Post := by
  obtain ⟨kP, kT, kN, kp, kq, ki⟩ := id hk
  obtain ⟨oP, oT, oA, op, oq, oi⟩ := id ho
  have hy2 : isT S q ∧ S 7 q ≠ 0 ∧ r ≤ S 6 q ∧ S 9 0 ≠ 12 := by
    unfold wyT at hy
    omega
  have k1 := kq q (by omega) (by omega)
  have b22 : 0 ≤ mem 114 22 ∧ mem 114 22 < 12 := by omega
  refine smGo [10, 9999] 60 rfl ?_
  repeat' first
    | refine And.intro ?_ ?_
    | intro _
  all_goals try omega
  have c1 : smU mem 127 q (mem 127 q - 1) 114 22 = S 9 0 := by rw [smU_ne (by decide)]; exact kN
  have d1 : smU mem 127 q (mem 127 q - 1) 126 q = S 5 q := by rw [smU_ne (by decide)]; exact k1.1
  generalize hm1 : smU mem 127 q (mem 127 q - 1) = m1 at *
  refine smAt [27, 9999] 60 rfl ?_
  repeat' first
    | refine And.intro ?_ ?_
    | intro _
  all_goals try omega
  rw [c1, d1]
  have c2 : smU m1 131 (5 * S 9 0) (S 5 q) 114 22 = S 9 0 := by rw [smU_ne (by decide)]; exact c1
  generalize hm2 : smU m1 131 (5 * S 9 0) (S 5 q) = m2 at *
  refine smAt [41, 9999] 60 rfl ?_
  repeat' first
    | refine And.intro ?_ ?_
    | intro _
  all_goals try omega
  rw [c2]
  have c3 : smU m2 131 (5 * S 9 0 + 1) w 114 22 = S 9 0 := by rw [smU_ne (by decide)]; exact c2
  generalize hm3 : smU m2 131 (5 * S 9 0 + 1) w = m3 at *
  refine smAt [55, 9999] 60 rfl ?_
  repeat' first
    | refine And.intro ?_ ?_
    | intro _
  all_goals try omega
  rw [c3]
  have c4 : smU m3 131 (5 * S 9 0 + 2) r 114 22 = S 9 0 := by rw [smU_ne (by decide)]; exact c3
  generalize hm4 : smU m3 131 (5 * S 9 0 + 2) r = m4 at *
  refine smAt [70, 9999] 60 rfl ?_
  repeat' first
    | refine And.intro ?_ ?_
    | intro _
  all_goals try omega
  rw [c4]
  have c5 : smU m4 131 (5 * S 9 0 + 3) t 114 22 = S 9 0 := by rw [smU_ne (by decide)]; exact c4
  generalize hm5 : smU m4 131 (5 * S 9 0 + 3) t = m5 at *
  refine smAt [84, 9999] 60 rfl ?_
  repeat' first
    | refine And.intro ?_ ?_
    | intro _
  all_goals try omega
  rw [c5]
  have c6 : smU m5 131 (5 * S 9 0 + 4) 0 114 22 = S 9 0 := by rw [smU_ne (by decide)]; exact c5
  have fr : ∀ k i, k ≠ 127 → (k = 131 → i < 5 * S 9 0 ∨ 5 * S 9 0 + 5 ≤ i) → smU m5 131 (5 * S 9 0 + 4) 0 k i = mem k i := by
    intro k i z1 z2
    rw [smU_o (by omega), ← hm5, smU_o (by omega), ← hm4, smU_o (by omega), ← hm3, smU_o (by omega), ← hm2, smU_o (by omega), ← hm1, smU_ne z1]
  have f7 : ∀ i, 0 ≤ i → i < 5 → smU m5 131 (5 * S 9 0 + 4) 0 127 i = if i = q then S 7 i - 1 else S 7 i := by
    intro i x y
    rw [smU_ne (by decide), ← hm5, smU_ne (by decide), ← hm4, smU_ne (by decide), ← hm3, smU_ne (by decide), ← hm2, smU_ne (by decide), ← hm1]
    by_cases e : i = q
    · rw [if_pos e, e, smU_s, k1.2.2.1]
    · rw [if_neg e, smU_d e]; exact (kq i x y).2.2.1
  have a0 : smU m5 131 (5 * S 9 0 + 4) 0 131 (5 * S 9 0) = S 5 q := by rw [smU_d (by omega), ← hm5, smU_d (by omega), ← hm4, smU_d (by omega), ← hm3, smU_d (by omega), ← hm2, smU_s]
  have a1 : smU m5 131 (5 * S 9 0 + 4) 0 131 (5 * S 9 0 + 1) = w := by rw [smU_d (by omega), ← hm5, smU_d (by omega), ← hm4, smU_d (by omega), ← hm3, smU_s]
  have a2 : smU m5 131 (5 * S 9 0 + 4) 0 131 (5 * S 9 0 + 2) = r := by rw [smU_d (by omega), ← hm5, smU_d (by omega), ← hm4, smU_s]
  have a3 : smU m5 131 (5 * S 9 0 + 4) 0 131 (5 * S 9 0 + 3) = t := by rw [smU_d (by omega), ← hm5, smU_s]
  have a4 : smU m5 131 (5 * S 9 0 + 4) 0 131 (5 * S 9 0 + 4) = 0 := by rw [smU_s]
  generalize smU m5 131 (5 * S 9 0 + 4) 0 = m6 at *
  refine smAt [9999] 60 rfl ?_
  refine h0 _ ⟨?_, ?_, ?_, fun p x y => ⟨?_, ?_, ?_⟩, fun j x y => ⟨?_, ?_, ?_, ?_⟩, fun i x y => ?_⟩ ?_ (fun k i z1 z2 => ?_)
  · rw [smU_d (by decide), fr 114 0 (by decide) (by omega)]; exact kP
  · rw [smU_d (by decide), fr 114 2 (by decide) (by omega)]; exact kT
  · rw [smU_s, c6]; rfl
  · rw [smU_ne (by decide), fr 115 p (by decide) (by omega)]; exact (kp p x y).1
  · rw [smU_ne (by decide), fr 129 p (by decide) (by omega)]; exact (kp p x y).2.1
  · rw [smU_ne (by decide), fr 130 p (by decide) (by omega)]; exact (kp p x y).2.2
  · rw [smU_ne (by decide), fr 126 j (by decide) (by omega)]; exact (kq j x y).1
  · rw [smU_ne (by decide), fr 116 j (by decide) (by omega)]; exact (kq j x y).2.1
  · rw [smU_ne (by decide)]; exact f7 j x y
  · rw [smU_ne (by decide), fr 128 j (by decide) (by omega)]; exact (kq j x y).2.2.2
  · change i < S 9 0 + 1 at y
    show smU m6 114 22 _ 131 (5 * i) = (if i = S 9 0 then S 5 q else S 10 i) ∧ smU m6 114 22 _ 131 (5 * i + 1) = (if i = S 9 0 then w else S 11 i) ∧ smU m6 114 22 _ 131 (5 * i + 2) = (if i = S 9 0 then r else S 12 i) ∧ smU m6 114 22 _ 131 (5 * i + 3) = (if i = S 9 0 then t else S 13 i) ∧ smU m6 114 22 _ 131 (5 * i + 4) = (if i = S 9 0 then 0 else S 14 i)
    rw [smU_ne (by decide), smU_ne (by decide), smU_ne (by decide), smU_ne (by decide), smU_ne (by decide)]
    by_cases e : i = S 9 0
    · simp only [if_pos e]
      rw [e]
      exact ⟨a0, a1, a2, a3, a4⟩
    · simp only [if_neg e]
      rw [fr 131 _ (by decide) (by omega), fr 131 _ (by decide) (by omega), fr 131 _ (by decide) (by omega), fr 131 _ (by decide) (by omega), fr 131 _ (by decide) (by omega)]
      exact ki i x (by omega)
  · rw [smU_d (by decide), fr 114 24 (by decide) (by omega)]
  · rw [smU_o (by omega), fr k i (by omega) (by omega)]
theorem ru_goR (q c : Int) (hc : c = 43 ∨ c = 111 ∨ c = 107) (hy : if c = 43 then wyP S q 0 else wyW S q 0) (hk : wN mem S) (ho : okW N S) (h0 : ∀ m, wN m (if c = 43 then puS S q else wkS S q (if c = 111 then 0 else 1)) → m 114 24 = mem 114 24 → kV mem m → Post none m) : smRun 138 [oR 11 114, .inl q, .inl c] mem Post := by
  obtain ⟨kP, kT, kN, kp, kq, ki⟩ := id hk
  obtain ⟨oP, oT, oA, op, oq, oi⟩ := id ho
  by_cases c43 : c = 43
  · subst c43
    rw [if_pos rfl] at hy h0
    have hy2 : isT S q ∧ S 2 (S 5 q) ≠ 0 := by
      unfold wyP at hy
      omega
    have k1 := kq q (by omega) (by omega)
    have o1 := oq q (by omega) (by omega)
    have k2 := kp (S 5 q) (by omega) (by omega)
    refine smGo [34, 9999] 60 rfl ?_
    repeat' first
      | refine And.intro ?_ ?_
      | intro _
    all_goals try omega
    rw [k1.1]
    refine h0 _ ⟨kP, kT, kN, fun p x y => ⟨?_, ?_, ?_⟩, fun j x y => ⟨?_, ?_, ?_, ?_⟩, ki⟩ rfl (fun k i z1 z2 => ?_)
    · rw [smU_ne (by decide), smU_ne (by decide)]; exact (kp p x y).1
    · show _ = if p = S 5 q then S 2 p - 1 else S 2 p
      rw [smU_ne (by decide)]
      by_cases e : p = S 5 q
      · rw [if_pos e, e, smU_s, k2.2.1]
      · rw [if_neg e, smU_d e]; exact (kp p x y).2.1
    · rw [smU_ne (by decide), smU_ne (by decide)]; exact (kp p x y).2.2
    · rw [smU_ne (by decide), smU_ne (by decide)]; exact (kq j x y).1
    · rw [smU_ne (by decide), smU_ne (by decide)]; exact (kq j x y).2.1
    · show _ = if j = q then S 7 j + 1 else S 7 j
      by_cases e : j = q
      · rw [if_pos e, e, smU_s, smU_ne (by decide), k1.2.2.1]
      · rw [if_neg e, smU_d e, smU_ne (by decide)]; exact (kq j x y).2.2.1
    · rw [smU_ne (by decide), smU_ne (by decide)]; exact (kq j x y).2.2.2
    · rw [smU_ne (by omega), smU_ne (by omega)]
  · rw [if_neg c43] at hy h0
    have hy2 : isT S q := by
      unfold wyW at hy
      omega
    have k1 := kq q (by omega) (by omega)
    have o1 := oq q (by omega) (by omega)
    have o2 := o1.2.2.2.2 hy2.2.2
    have fin : ∀ w, w = (if c = 111 then 0 else 1) → (∀ m, m = smU mem 126 q (fNx (mem 126 q) w (mem 114 0)) → Post none m) := by
      intro w hw m hm
      subst hm
      rw [← hw] at h0
      refine h0 _ ⟨kP, kT, kN, kp, fun j x y => ⟨?_, ?_, ?_, ?_⟩, ki⟩ rfl (fun k i z1 z2 => ?_)
      · show _ = if j = q then fNx (S 5 j) w (S 0 0) else S 5 j
        by_cases e : j = q
        · rw [if_pos e, e, smU_s, k1.1, kP]
        · rw [if_neg e, smU_d e]; exact (kq j x y).1
      · rw [smU_ne (by decide)]; exact (kq j x y).2.1
      · rw [smU_ne (by decide)]; exact (kq j x y).2.2.1
      · rw [smU_ne (by decide)]; exact (kq j x y).2.2.2
      · rw [smU_ne (by omega)]
    refine smGo [34, 9999] 60 rfl ?_
    repeat' first
      | refine And.intro ?_ ?_
      | intro _
    all_goals try omega
    refine smAt [9999] 60 rfl ?_
    repeat' first
      | refine And.intro ?_ ?_
      | intro _
      | (show smRun _ _ _ _; first | with_reducible refine ru_step _ _ (by omega) (by omega) (by omega) ?_)
    all_goals try omega
    · exact fin 1 (by rw [if_neg (by omega)]) _ rfl
    · exact fin 0 (by rw [if_pos (by omega)]) _ rfl
end
