/-! where two listed throws meet first -/
def lT (S : sS) (i : Int) : Nat := gT S (S 18 i) (S 19 i) (S 20 i) (S 21 i)
def lP (S : sS) (i : Int) (k : Nat) : Int := fPos (S 18 i) (S 19 i) (S 0 0) k
def lH (S : sS) (i : Int) (k : Int) : Int := fH k (S 20 i) (S 21 i)
def mtK (S : sS) (i j : Int) (k l : Nat) (y : Int) : Prop := (lP S i k = lP S j l ∧ lH S i k = lH S j l) ∧ iR y (S 16 i + k) (S 17 i) ∧ iR y (S 16 j + l) (S 17 j)
def mtP (S : sS) (i j : Int) (y : Int) : Prop := ∃ k l : Nat, (1 ≤ k ∧ k < lT S i) ∧ (1 ≤ l ∧ l < lT S j) ∧ mtK S i j k l y
def bR (P : Int → Prop) (v : Int) : Prop := (0 ≤ v ∧ v ≤ 999 ∧ P v ∧ ∀ y, P y → v ≤ y) ∨ (v = 1000000 ∧ ∀ y, ¬ P y)
theorem bR_cg {P Q : Int → Prop} {v : Int} (h : bR P v) (e : ∀ y, P y ↔ Q y) : bR Q v := by
  rcases h with ⟨h1, h2, h3, h4⟩ | ⟨h1, h2⟩
  · exact Or.inl ⟨h1, h2, (e v).mp h3, fun y z => h4 y ((e y).mpr z)⟩
  · exact Or.inr ⟨h1, fun y z => h2 y ((e y).mpr z)⟩
theorem bR_in {P : Int → Prop} {v : Int} (h : bR P v) : 0 ≤ v ∧ v ≤ 1000000 := by
  rcases h with h | h <;> omega
theorem bR_min {P Q : Int → Prop} {v u : Int} (h : bR P v) (g : bR Q u) : bR (fun y => P y ∨ Q y) (if u < v then u else v) := by
  rcases h with ⟨h1, h2, h3, h4⟩ | ⟨h1, h2⟩ <;> rcases g with ⟨g1, g2, g3, g4⟩ | ⟨g1, g2⟩
  · split
    · exact Or.inl ⟨g1, g2, Or.inr g3, fun y z => z.elim (fun z => Int.le_trans (by omega) (h4 y z)) (g4 y)⟩
    · exact Or.inl ⟨h1, h2, Or.inl h3, fun y z => z.elim (h4 y) (fun z => Int.le_trans (by omega) (g4 y z))⟩
  · rw [if_neg (by omega)]
    exact Or.inl ⟨h1, h2, Or.inl h3, fun y z => z.elim (h4 y) (fun z => absurd z (g2 y))⟩
  · rw [if_pos (by omega)]
    exact Or.inl ⟨g1, g2, Or.inr g3, fun y z => z.elim (fun z => absurd z (h2 y)) (g4 y)⟩
  · rw [if_neg (by omega)]
    exact Or.inr ⟨h1, fun y z => z.elim (h2 y) (g2 y)⟩
theorem bR_fc {a d b e v : Int} (h : fcR a d b e v) : bR (fun y => iR y a d ∧ iR y b e) v := by
  rcases h with ⟨h1, h2, h3, h4, h5⟩ | ⟨h1, h2⟩
  · exact Or.inl ⟨h1, h2, ⟨h3, h4⟩, fun y z => h5 y z.1 z.2⟩
  · exact Or.inr ⟨h1, fun y z => h2 y z.1 z.2⟩
def mtR (S : sS) (i j v : Int) : Prop := (0 ≤ v ∧ v ≤ 999 ∧ mtP S i j v ∧ ∀ y, mtP S i j y → v ≤ y) ∨ (v = -6 ∧ ∀ y, ¬ mtP S i j y)
theorem mtR_uni {S : sS} {i j v u : Int} (h : mtR S i j v) (g : mtR S i j u) : v = u := by
  rcases h with ⟨h1, h2, h3, h4⟩ | ⟨h1, h2⟩ <;> rcases g with ⟨g1, g2, g3, g4⟩ | ⟨g1, g2⟩
  · have := h4 u g3; have := g4 v h3; omega
  · exact absurd h3 (g2 v)
  · exact absurd g3 (h2 u)
  · omega
def kM (mem mem' : smM) : Prop := ∀ k i, k < 105 ∨ 110 < k → mem' k i = mem k i
def liB (S : sS) (i : Int) : Prop := (0 ≤ i ∧ i < 6) ∧ bB (S 15 0) i
section
variable {mem : smM} {Post : Option smV → smM → Prop} {N : Int} {S : sS}
theorem ok_thr {i : Int} (ho : ok N S) (hi : liB S i) : (0 ≤ S 18 i ∧ S 18 i < S 0 0) ∧ fThr (S 19 i) (S 20 i) (S 21 i) ∧ (0 ≤ S 16 i ∧ S 16 i ≤ 99) ∧ (0 ≤ S 17 i ∧ S 17 i ≤ 20) := by
  obtain ⟨oN, ⟨oP, oT, oA, op, oq, oi⟩, ⟨oB, ob⟩, ⟨oS, os⟩⟩ := id ho
  obtain ⟨b1, b2, b3, b4, b5, b6, b7⟩ := ob i hi.1.1 hi.1.2
  have b8 := b7 hi.2
  unfold fThr
  omega
theorem ru_fly105 (i : Int) (ca : Int → Int) (hi : liB S i) (hk : kC mem S) (ho : ok N S) (hs : scn mem (S 0 0) (S 1) ca) (hca : ∀ q, 0 ≤ q → q < S 0 0 → -6 ≤ ca q ∧ ca q < 1000) (h : ∀ m, trp105 m (S 1) ca (S 0 0) (S 18 i) (S 19 i) (S 20 i) (S 21 i) → (∀ k j, k ≠ 105 → k ≠ 106 → k ≠ 107 → m k j = mem k j) → Post none m) : smRun 25 [oR 8 16, .inl i, oR 6 95, oR 2 105] mem Post := by
  have ht := ok_thr ho hi
  obtain ⟨⟨kP, kT, kN, kp, kq, ki⟩, ⟨kB, kb⟩, ⟨kS, ks⟩⟩ := id hk
  obtain ⟨oN, ⟨oP, oT, oA, op, oq, oi⟩, ⟨oB, ob⟩, ⟨oS, os⟩⟩ := id ho
  obtain ⟨hi1, hi2⟩ := hi
  obtain ⟨z1, z2, z3, z4, z5, z6⟩ := kb i hi1.1 hi1.2
  rw [← z3, ← z4, ← z5, ← z6] at h ht
  refine smGo [9999] 60 rfl ?_
  repeat' first
    | refine And.intro ?_ ?_
    | intro _
  all_goals try omega
  refine ru_go105 (S 0 0) _ _ _ _ (S 1) ca hs (by omega) (fun q x y => ?_) hca ht.1 ht.2.1 h
  have := (op q x (by omega)).1; omega
theorem ru_fly108 (i : Int) (ca : Int → Int) (hi : liB S i) (hk : kC mem S) (ho : ok N S) (hs : scn mem (S 0 0) (S 1) ca) (hca : ∀ q, 0 ≤ q → q < S 0 0 → -6 ≤ ca q ∧ ca q < 1000) (h : ∀ m, trp108 m (S 1) ca (S 0 0) (S 18 i) (S 19 i) (S 20 i) (S 21 i) → (∀ k j, k ≠ 108 → k ≠ 109 → k ≠ 110 → m k j = mem k j) → Post none m) : smRun 25 [oR 8 16, .inl i, oR 6 95, oR 2 108] mem Post := by
  have ht := ok_thr ho hi
  obtain ⟨⟨kP, kT, kN, kp, kq, ki⟩, ⟨kB, kb⟩, ⟨kS, ks⟩⟩ := id hk
  obtain ⟨oN, ⟨oP, oT, oA, op, oq, oi⟩, ⟨oB, ob⟩, ⟨oS, os⟩⟩ := id ho
  obtain ⟨hi1, hi2⟩ := hi
  obtain ⟨z1, z2, z3, z4, z5, z6⟩ := kb i hi1.1 hi1.2
  rw [← z3, ← z4, ← z5, ← z6] at h ht
  refine smGo [9999] 60 rfl ?_
  repeat' first
    | refine And.intro ?_ ?_
    | intro _
  all_goals try omega
  refine ru_go108 (S 0 0) _ _ _ _ (S 1) ca hs (by omega) (fun q x y => ?_) hca ht.1 ht.2.1 h
  have := (op q x (by omega)).1; omega
theorem lT_in (S : sS) (i : Int) : 1 ≤ lT S i ∧ lT S i ≤ 36 := ⟨gT_1, gT_in⟩
theorem lH_in {S : sS} {i k : Int} (hk : 0 ≤ k ∧ k ≤ 36) (ht : fThr (S 19 i) (S 20 i) (S 21 i)) : -100 ≤ lH S i k ∧ lH S i k ≤ 100 := by
  unfold lH fH
  unfold fThr at ht
  repeat' split
  all_goals omega
def mtD (S : sS) (i j : Int) (k l : Nat) (y : Int) : Prop := ∃ k' l' : Nat, (1 ≤ k' ∧ k' < lT S i) ∧ (1 ≤ l' ∧ l' < lT S j) ∧ (k' < k ∨ k' = k ∧ l' < l) ∧ mtK S i j k' l' y
set_option maxRecDepth 4000 in
theorem ru_firstMeeting (i j : Int) (hi : liB S i) (hj : liB S j) (hk : kC mem S) (ho : ok N S) (hs : scS mem S) (h : ∀ v m, mtR S i j v → kM mem m → Post (some (.inl v)) m) : smRun 28 [oR 4 104, oR 8 16, oR 6 95, .inl i, .inl j] mem Post := by
  have hca : ∀ q, 0 ≤ q → q < S 0 0 → -6 ≤ wh S q ∧ wh S q < 1000 := fun q x y => by rcases wh_in S q with h | h <;> omega
  refine smGo [28, 9999] 60 rfl ?_
  refine ru_fly105 i (wh S) hi hk ho hs hca (fun m1 t1 e1 => ?_)
  have k1 : kC m1 S := kC_of (fun k q x => e1 k q (by omega) (by omega) (by omega)) hk
  have s1 : scS m1 S := ⟨by rw [e1 95 0 (by decide) (by decide) (by decide)]; exact hs.1, fun p x y => by rw [e1 96 p (by decide) (by decide) (by decide), e1 97 p (by decide) (by decide) (by decide)]; exact hs.2 p x y⟩
  refine ru_fly108 j (wh S) hj k1 ho s1 hca (fun m t2 e2 => ?_)
  have km : kC m S := kC_of (fun k q x => e2 k q (by omega) (by omega) (by omega)) k1
  have keep : kM mem m := fun k q x => (e2 k q (by omega) (by omega) (by omega)).trans (e1 k q (by omega) (by omega) (by omega))
  have T1 : m 105 1 = (lT S i : Int) := (e2 105 1 (by decide) (by decide) (by decide)).trans t1.1
  have T2 : m 108 1 = (lT S j : Int) := t2.1
  have P1 : ∀ k : Nat, k ≤ lT S i → m 106 k = lP S i k ∧ m 107 k = lH S i k := fun k x => by
    rw [e2 106 _ (by decide) (by decide) (by decide), e2 107 _ (by decide) (by decide) (by decide)]
    exact t1.2.2.2 k x
  have P2 : ∀ k : Nat, k ≤ lT S j → m 109 k = lP S j k ∧ m 110 k = lH S j k := fun k x => t2.2.2.2 k x
  clear t1 e1 k1 s1 t2 e2
  have i1 := lT_in S i
  have i2 := lT_in S j
  have oi := ok_thr ho hi
  have oj := ok_thr ho hj
  have zi := km.2.1.2 i hi.1.1 hi.1.2
  have zj := km.2.1.2 j hj.1.1 hj.1.2
  have b1 := hi.1
  have b2 := hj.1
  have inner : ∀ (f : Nat) (k l : Nat) (best : Int) (x8 : Option smV), l + f = lT S j → 1 ≤ k → k < lT S i → 1 ≤ l → bR (mtD S i j k l) best → (∀ best x8, bR (mtD S i j (k + 1) 1) best → smWp 28 28 [some (oR 4 104), some (oR 8 16), some (oR 6 95), some (.inl i), some (.inl j), some (.inl best), some (.inl ((k : Int) + 1)), some (.inl (lT S j : Int)), x8] [] m Post) → smWp 28 43 [some (oR 4 104), some (oR 8 16), some (oR 6 95), some (.inl i), some (.inl j), some (.inl best), some (.inl (k : Int)), some (.inl (l : Int)), x8] [] m Post := by
    intro f
    induction f with
    | zero =>
      intro k l best x8 hl hk1 hk2 hl1 hb K
      refine smAt [28, 43, 9999] 60 rfl ?_
      repeat' first
        | refine And.intro ?_ ?_
        | intro _
      all_goals try omega
      have e : l = lT S j := by omega
      subst e
      refine K best x8 (bR_cg hb (fun y => ?_))
      constructor
      · rintro ⟨k', l', c1, c2, c3, c4⟩
        exact ⟨k', l', c1, c2, by omega, c4⟩
      · rintro ⟨k', l', c1, c2, c3, c4⟩
        exact ⟨k', l', c1, c2, by omega, c4⟩
    | succ f ih =>
      intro k l best x8 hl hk1 hk2 hl1 hb K
      have p1 := P1 k (by omega)
      have p2 := P2 l (by omega)
      have q1 := fPos_in (w := S 19 i) oi.1 k
      have q2 := fPos_in (w := S 19 j) oj.1 l
      have q3 := lH_in (S := S) (i := i) (k := k) (by omega) oi.2.1
      have q4 := lH_in (S := S) (i := j) (k := l) (by omega) oj.2.1
      have q5 := bR_in hb
      have oP := ho.2.1.1
      rw [show fPos (S 18 i) (S 19 i) (S 0 0) k = lP S i k from rfl] at q1
      rw [show fPos (S 18 j) (S 19 j) (S 0 0) l = lP S j l from rfl] at q2
      have el : ((l + 1 : Nat) : Int) = (l : Int) + 1 := by omega
      have no : ¬ (lP S i k = lP S j l ∧ lH S i k = lH S j l) → smWp 28 43 [some (oR 4 104), some (oR 8 16), some (oR 6 95), some (.inl i), some (.inl j), some (.inl best), some (.inl (k : Int)), some (.inl ((l : Int) + 1)), x8] [] m Post := by
        intro c
        have g := ih k (l + 1) best x8 (by omega) hk1 hk2 (by omega) (bR_cg hb (fun y => ?_)) K
        · rw [el] at g; exact g
        · constructor
          · rintro ⟨k', l', c1, c2, c3, c4⟩
            exact ⟨k', l', c1, c2, by omega, c4⟩
          · rintro ⟨k', l', c1, c2, c3, c4⟩
            refine ⟨k', l', c1, c2, ?_, c4⟩
            by_cases d : k' = k ∧ l' = l
            · exfalso
              rw [d.1, d.2] at c4
              exact c c4.1
            · omega
      refine smAt [28, 43, 9999] 60 rfl ?_
      repeat' first
        | refine And.intro ?_ ?_
        | intro _
        | (show smRun _ _ _ _; first | with_reducible refine ru_firstCommon _ _ _ _ (by omega) (by omega) (by omega) (by omega) (fun v hv => ?_))
      all_goals try omega
      all_goals try (have hv2 := bR_in (bR_fc hv); omega)
      · exact no (fun z => by omega)
      · exact no (fun z => by omega)
      · have hm := bR_min hb (bR_fc hv)
        rw [zi.1, zi.2.1, zj.1, zj.2.1] at hm
        have g := ih k (l + 1) (if v < best then v else best) (some (.inl v)) (by omega) hk1 hk2 (by omega) (bR_cg hm (fun y => ?_)) K
        · rw [el] at g; exact g
        · constructor
          · rintro (⟨k', l', c1, c2, c3, c4⟩ | ⟨c1, c2⟩)
            · exact ⟨k', l', c1, c2, by omega, c4⟩
            · exact ⟨k, l, by omega, by omega, by omega, ⟨by omega, by omega⟩, c1, c2⟩
          · rintro ⟨k', l', c1, c2, c3, c4⟩
            by_cases d : k' = k ∧ l' = l
            · right
              rw [d.1, d.2] at c4
              exact c4.2
            · left
              exact ⟨k', l', c1, c2, by omega, c4⟩
  have outer : ∀ (f k : Nat) (best : Int) (x7 x8 : Option smV), k + f = lT S i → 1 ≤ k → bR (mtD S i j k 1) best → smWp 28 28 [some (oR 4 104), some (oR 8 16), some (oR 6 95), some (.inl i), some (.inl j), some (.inl best), some (.inl (k : Int)), x7, x8] [] m Post := by
    intro f
    induction f with
    | zero =>
      intro k best x7 x8 hf hk1 hb
      have q5 := bR_in hb
      have hp : ∀ y, mtD S i j k 1 y ↔ mtP S i j y := by
        intro y
        constructor
        · rintro ⟨k', l', c1, c2, c3, c4⟩
          exact ⟨k', l', c1, c2, c4⟩
        · rintro ⟨k', l', c1, c2, c4⟩
          exact ⟨k', l', c1, c2, by omega, c4⟩
      have hb2 := bR_cg hb hp
      refine smAt [28, 43, 9999] 60 rfl ?_
      repeat' first
        | refine And.intro ?_ ?_
        | intro _
      all_goals try omega
      · rcases hb2 with c | c
        · exfalso; omega
        · exact h _ m (Or.inr ⟨rfl, c.2⟩) keep
      · rcases hb2 with c | c
        · exact h _ m (Or.inl c) keep
        · exfalso; omega
    | succ f ih =>
      intro k best x7 x8 hf hk1 hb
      refine smAt [28, 43, 9999] 60 rfl ?_
      repeat' first
        | refine And.intro ?_ ?_
        | intro _
      all_goals try omega
      refine inner (lT S j - 1) k 1 best x8 (by omega) hk1 (by omega) (by omega) hb (fun b2 y8 hb2 => ?_)
      exact ih (k + 1) b2 _ y8 (by omega) (by omega) hb2
  refine outer (lT S i - 1) 1 1000000 none none (by omega) (by omega) (Or.inr ⟨rfl, fun y => ?_⟩)
  rintro ⟨k', l', c1, c2, c3, c4⟩
  omega
end
