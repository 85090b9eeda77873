/-! the same by the reference -/
def mtW (S : sS) (i j v : Int) : Prop := (0 ≤ v ∧ v ≤ 999 ∧ mtP S i j v ∧ ∀ y, mtP S i j y → v ≤ y) ∨ (v = -6 ∧ ∀ y, y ≤ 999 → ¬ mtP S i j y)
theorem mtW_uni {S : sS} {i j v u : Int} (h : mtR S i j v) (g : mtW S i j u) : v = u := by
  rcases h with ⟨h1, h2, h3, h4⟩ | ⟨h1, h2⟩ <;> rcases g with ⟨g1, g2, g3, g4⟩ | ⟨g1, g2⟩
  · have := h4 u g3; have := g4 v h3; omega
  · exact absurd h3 (g2 v h2)
  · exact absurd g3 (h2 u)
  · omega
section
variable {mem : smM} {Post : Option smV → smM → Prop} {N : Int} {S : sS}
theorem ru_flyListedH (i H : Int) (hi : liB S i) (hk : rC mem S) (ho : ok N S) (hH : -1 ≤ H ∧ H < 1000) (h : ∀ m, flR m (S 1) (cbH H (wh S)) (byH H (wh S)) (S 0 0) (S 18 i) (S 19 i) (S 20 i) (S 21 i) → keepF mem m → Post none m) : smRun 160 [oR 11 114, .inl i, .inl H] mem Post := by
  have ht := ok_thr ho hi
  obtain ⟨hi1, hi2⟩ := hi
  obtain ⟨z1, z2, z3, z4, z5, z6⟩ := hk.2.1.2 i hi1.1 hi1.2
  refine smGo [9999] 60 rfl ?_
  repeat' first
    | refine And.intro ?_ ?_
    | intro _
  all_goals try omega
  have hp := ht.1
  have e0 : ∀ H, flT (hdG (S 1) (-6) 0) (cbH H (wh S)) (S 0 0) (S 18 i) (S 19 i) (S 20 i) (S 21 i) = flT (S 1) (cbH H (wh S)) (S 0 0) (S 18 i) (S 19 i) (S 20 i) (S 21 i) := fun H => flT_congr hp (fun q x y => ⟨hdG_no _ _ _ (by omega) _, rfl⟩)
  have e2 : ∀ H k, flH (hdG (S 1) (-6) 0) (cbH H (wh S)) (S 0 0) (S 18 i) (S 19 i) (S 20 i) (S 21 i) k = flH (S 1) (cbH H (wh S)) (S 0 0) (S 18 i) (S 19 i) (S 20 i) (S 21 i) k := fun H => flH_congr hp (fun q x y => ⟨hdG_no _ _ _ (by omega) _, rfl⟩)
  have z3' : mem 123 (6 * i) = S 18 i := z3
  have z4' : mem 123 (6 * i + 1) = S 19 i := z4
  have z5' : mem 123 (6 * i + 2) = S 20 i := z5
  have z6' : mem 123 (6 * i + 3) = S 21 i := z6
  have go : ∀ P : Option smV → smM → Prop, (∀ m, flR m (S 1) (cbH H (wh S)) (byH H (wh S)) (S 0 0) (S 18 i) (S 19 i) (S 20 i) (S 21 i) → keepF mem m → P none m) → smRun 148 [oR 11 114, .inl (mem 123 (6 * i)), .inl (mem 123 (6 * i + 1)), .inl (mem 123 (6 * i + 2)), .inl (mem 123 (6 * i + 3)), .inl H, .inl (-6), .inl 0] mem P := by
    intro P hP
    rw [z3', z4', z5', z6']
    refine ru_flyS _ _ _ _ _ _ _ hk.1 ho.2.1 ho.1.2 hH (by omega) (by omega) hp ht.2.1 (fun m f k => hP m ?_ k)
    unfold flR at f
    rw [e0, e2] at f
    exact f
  exact go _ (fun m f k => h m f k)
theorem ru_flyListed (i : Int) (hi : liB S i) (hk : rC mem S) (ho : ok N S) (h : ∀ m, m 114 29 = (lT S i : Int) → m 114 28 = gH S (S 18 i) (S 19 i) (S 20 i) (S 21 i) → keepF mem m → Post none m) : smRun 160 [oR 11 114, .inl i, .inl (-1)] mem Post := by
  refine ru_flyListedH i (-1) hi hk ho (by omega) (fun m f k => ?_)
  rw [cbH_m1, byH_m1] at f
  exact h m f.1 f.2.1 k
def nD (S : sS) (i j : Int) (y : Int) (k l : Nat) : Prop := ∀ k' l' : Nat, (1 ≤ k' ∧ k' < lT S i) → (1 ≤ l' ∧ l' < lT S j) → (k' < k ∨ k' = k ∧ l' < l) → ¬ mtK S i j k' l' y
set_option maxRecDepth 4000 in
theorem ru_meetOf (i j : Int) (hi : liB S i) (hj : liB S j) (hk : rC mem S) (ho : ok N S) (h : ∀ v m, mtW S i j v → keepF mem m → Post (some (.inl v)) m) : smRun 164 [oR 11 114, .inl i, .inl j] mem Post := by
  refine smGo [26, 9999] 60 rfl ?_
  refine ru_flyListed i hi hk ho (fun m1 t1 _ e1 => ?_)
  have k1 : rC m1 S := rC_keep (keepF_keep e1) hk
  refine ru_flyListed j hj k1 ho (fun m t2 _ e2 => ?_)
  have km : rC m S := rC_keep (keepF_keep e2) k1
  have keep : keepF mem m := fun k q x => (e2 k q x).trans (e1 k q x)
  rw [t1]
  show smWp 164 26 [some (oR 11 114), some (.inl i), some (.inl j), some (.inl (lT S i : Int)), some (.inl (m 114 29)), some (.inl 0), none, none] [] m Post
  rw [t2]
  clear t1 t2 e1 e2 k1
  have i1 := lT_in S i
  have i2 := lT_in S j
  have oi := ok_thr ho hi
  have oj := ok_thr ho hj
  obtain ⟨y1, y2, y3, y4, y5, y6⟩ := km.2.1.2 i hi.1.1 hi.1.2
  obtain ⟨z1, z2, z3, z4, z5, z6⟩ := km.2.1.2 j hj.1.1 hj.1.2
  dsimp only at y1 y2 y3 y4 y5 y6 z1 z2 z3 z4 z5 z6
  have b1 := hi.1
  have b2 := hj.1
  have oP := ho.2.1.1
  have kP := km.1.1
  have ti := oi.2.1
  have tj := oj.2.1
  unfold fThr at ti tj
  have pos : ∀ y, mtP S i j y → 1 ≤ y := by
    rintro y ⟨k, l, c1, c2, c3⟩
    have := iR_ge c3.2.1
    omega
  have inner : ∀ (f : Nat) (k l : Nat) (mi : Int), l + f = lT S j → 0 ≤ mi → mi ≤ 999 → 1 ≤ k → k < lT S i → 1 ≤ l → nD S i j mi k l → (∀ y, y < mi → ¬ mtP S i j y) → (∀ x7, nD S i j mi (k + 1) 1 → smWp 164 37 [some (oR 11 114), some (.inl i), some (.inl j), some (.inl (lT S i : Int)), some (.inl (lT S j : Int)), some (.inl mi), some (.inl ((k : Int) + 1)), x7] [] m Post) → smWp 164 46 [some (oR 11 114), some (.inl i), some (.inl j), some (.inl (lT S i : Int)), some (.inl (lT S j : Int)), some (.inl mi), some (.inl (k : Int)), some (.inl (l : Int))] [] m Post := by
    intro f
    induction f with
    | zero =>
      intro k l mi hl m0 m9 hk1 hk2 hl1 hn hp K
      refine smAt [26, 37, 46, 9999] 60 rfl ?_
      repeat' first
        | refine And.intro ?_ ?_
        | intro _
      all_goals try omega
      refine K _ (fun k' l' c1 c2 c3 => hn k' l' c1 c2 (by omega))
    | succ f ih =>
      intro k l mi hl m0 m9 hk1 hk2 hl1 hn hp K
      have q1 := fPos_in (w := S 19 i) oi.1 k
      have q2 := fPos_in (w := S 19 j) oj.1 l
      have q3 := lH_in (S := S) (i := i) (k := k) (by omega) oi.2.1
      have q4 := lH_in (S := S) (i := j) (k := l) (by omega) oj.2.1
      rw [show fPos (S 18 i) (S 19 i) (S 0 0) k = lP S i k from rfl] at q1
      rw [show fPos (S 18 j) (S 19 j) (S 0 0) l = lP S j l from rfl] at q2
      have el : ((l + 1 : Nat) : Int) = (l : Int) + 1 := by omega
      have no : ¬ mtK S i j k l mi → smWp 164 46 [some (oR 11 114), some (.inl i), some (.inl j), some (.inl (lT S i : Int)), some (.inl (lT S j : Int)), some (.inl mi), some (.inl (k : Int)), some (.inl ((l : Int) + 1))] [] m Post := by
        intro c
        have g := ih k (l + 1) mi (by omega) m0 m9 hk1 hk2 (by omega) (fun k' l' c1 c2 c3 => ?_) hp K
        · rw [el] at g; exact g
        · by_cases d : k' = k ∧ l' = l
          · rw [d.1, d.2]; exact c
          · exact hn k' l' c1 c2 (by omega)
      refine smAt [26, 37, 46, 65, 9999] 60 rfl ?_
      repeat' first
        | refine And.intro ?_ ?_
        | intro _
        | (show smRun _ _ _ _; first | with_reducible refine ru_wasThrown i mi k (by omega) (by omega) (by omega) (by omega) (by omega) (fun w1 => ?_) (fun w1 => ?_))
      all_goals try omega
      all_goals rw [y1, y2] at w1
      · refine smAt [26, 37, 46, 77, 114, 9999] 60 rfl ?_
        repeat' first
          | refine And.intro ?_ ?_
          | intro _
          | (show smRun _ _ _ _; first | with_reducible refine ru_wasThrown j mi l (by omega) (by omega) (by omega) (by omega) (by omega) (fun w2 => ?_) (fun w2 => ?_))
        all_goals try omega
        all_goals rw [z1, z2] at w2
        · refine smAt [26, 37, 46, 91, 9999] 60 rfl ?_
          refine ru_placeBehind i k (by omega) (by omega) (by omega) (by omega) (by omega) ?_
          refine ru_placeBehind j l (by omega) (by omega) (by omega) (by omega) (by omega) ?_
          rw [y3, y4, z3, z4, kP, show fPos (S 18 i) (S 19 i) (S 0 0) k = lP S i k from rfl, show fPos (S 18 j) (S 19 j) (S 0 0) l = lP S j l from rfl]
          refine smAt [26, 37, 46, 94, 9999] 60 rfl ?_
          repeat' first
            | refine And.intro ?_ ?_
            | intro _
          all_goals try omega
          · exact no (fun c => by have := c.1; omega)
          · refine smAt [26, 37, 46, 108, 9999] 60 rfl ?_
            refine ru_heightBehind2 i k (by omega) (by omega) (by omega) (by omega) ?_
            refine ru_heightBehind2 j l (by omega) (by omega) (by omega) (by omega) ?_
            rw [y5, y6, z5, z6, show fH k (S 20 i) (S 21 i) = lH S i k from rfl, show fH l (S 20 j) (S 21 j) = lH S j l from rfl]
            refine smAt [26, 37, 46, 9999] 60 rfl ?_
            repeat' first
              | refine And.intro ?_ ?_
              | intro _
            all_goals try omega
            · exact no (fun c => by have := c.1; omega)
            · refine h _ m (Or.inl ⟨m0, m9, ⟨k, l, by omega, by omega, ⟨by omega, by omega⟩, w1, w2⟩, fun y c => ?_⟩) keep
              by_cases d : mi ≤ y
              · exact d
              · exact absurd c (hp y (by omega))
        · refine smAt [26, 37, 46, 9999] 60 rfl ?_
          exact no (fun c => w2 c.2.2)
      · refine K _ (fun k' l' c1 c2 c3 c4 => ?_)
        by_cases d : k' < k
        · exact hn k' l' c1 c2 (by omega) c4
        · have e : k' = k := by omega
          rw [e] at c4
          exact w1 c4.2.1
  have middle : ∀ (f : Nat) (k : Nat) (mi : Int) (x7 : Option smV), k + f = lT S i → 0 ≤ mi → mi ≤ 999 → 1 ≤ k → nD S i j mi k 1 → (∀ y, y < mi → ¬ mtP S i j y) → (∀ x6 x7, (∀ y, y < mi + 1 → ¬ mtP S i j y) → smWp 164 26 [some (oR 11 114), some (.inl i), some (.inl j), some (.inl (lT S i : Int)), some (.inl (lT S j : Int)), some (.inl (mi + 1)), x6, x7] [] m Post) → smWp 164 37 [some (oR 11 114), some (.inl i), some (.inl j), some (.inl (lT S i : Int)), some (.inl (lT S j : Int)), some (.inl mi), some (.inl (k : Int)), x7] [] m Post := by
    intro f
    induction f with
    | zero =>
      intro k mi x7 hf m0 m9 hk1 hn hp K
      refine smAt [26, 37, 46, 9999] 60 rfl ?_
      repeat' first
        | refine And.intro ?_ ?_
        | intro _
      all_goals try omega
      refine K _ _ (fun y c z => ?_)
      by_cases d : y < mi
      · exact hp y d z
      · have e : y = mi := by omega
        rw [e] at z
        obtain ⟨k', l', c1, c2, c3⟩ := z
        exact hn k' l' c1 c2 (by omega) c3
    | succ f ih =>
      intro k mi x7 hf m0 m9 hk1 hn hp K
      refine smAt [26, 37, 46, 9999] 60 rfl ?_
      repeat' first
        | refine And.intro ?_ ?_
        | intro _
      all_goals try omega
      refine inner (lT S j - 1) k 1 mi (by omega) m0 m9 hk1 (by omega) (by omega) hn hp (fun y7 hn2 => ?_)
      exact ih (k + 1) mi y7 (by omega) m0 m9 (by omega) hn2 hp K
  have outer : ∀ (f : Nat) (mi : Int) (x6 x7 : Option smV), mi = 1000 - (f : Int) → 0 ≤ mi → (∀ y, y < mi → ¬ mtP S i j y) → smWp 164 26 [some (oR 11 114), some (.inl i), some (.inl j), some (.inl (lT S i : Int)), some (.inl (lT S j : Int)), some (.inl mi), x6, x7] [] m Post := by
    intro f
    induction f with
    | zero =>
      intro mi x6 x7 hf m0 hp
      refine smAt [26, 37, 46, 9999] 60 rfl ?_
      repeat' first
        | refine And.intro ?_ ?_
        | intro _
      all_goals try omega
      exact h _ m (Or.inr ⟨rfl, fun y c => hp y (by omega)⟩) keep
    | succ f ih =>
      intro mi x6 x7 hf m0 hp
      refine smAt [26, 37, 46, 9999] 60 rfl ?_
      repeat' first
        | refine And.intro ?_ ?_
        | intro _
      all_goals try omega
      refine middle (lT S i - 1) 1 mi x7 (by omega) m0 (by omega) (by omega) (fun k' l' c1 c2 c3 => by omega) hp (fun y6 y7 hp2 => ?_)
      exact ih (mi + 1) y6 y7 (by omega) (by omega) hp2
  exact outer 1000 0 none none (by omega) (by omega) (fun y c z => by have := pos y z; omega)
end
