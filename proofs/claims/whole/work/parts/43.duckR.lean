/-! duck, reference -/
section
variable {mem : smM} {Post : Option smV → smM → Prop} {N : Int} {S : sS}
abbrev dkV (S : sS) (p y : Int) (i : Nat) (low : Int) : Prop := (low = 1 ∧ dkU S p y i) ∨ (low = 0 ∧ ¬ dkU S p y i)
set_option maxRecDepth 4000 in
theorem dkR_107 (p m w n1 fi y : Int) (i L : Nat) (hy : 1 ≤ y ∧ y ≤ 999) (hp : 0 ≤ p ∧ p < S 0 0) (hk : rC mem S) (ho : ok N S) (li : liB S i) (hL : (L = lT S i ∧ gE S i = 2) ∨ (L + 1 = lT S i ∧ gE S i ≠ 2)) (K : ∀ low x10 x11, dkV S p y (i + 1) low → smWp 167 179 [some (oR 11 114), some (.inl p), some (.inl m), some (.inl w), some (.inl n1), some (.inl fi), some (.inl y), some (.inl low), some (.inl (i : Int)), some (.inl (L : Int)), x10, x11] [] mem Post) : ∀ (f k : Nat) (low : Int) (x11 : Option smV), k + f = L + 1 → 1 ≤ k → ((low = 1 ∧ (dkU S p y i ∨ dkI S p i k y)) ∨ (low = 0 ∧ ¬ (dkU S p y i ∨ dkI S p i k y))) → smWp 167 107 [some (oR 11 114), some (.inl p), some (.inl m), some (.inl w), some (.inl n1), some (.inl fi), some (.inl y), some (.inl low), some (.inl (i : Int)), some (.inl (L : Int)), some (.inl (k : Int)), x11] [] mem Post := by
  have i1 := lT_in S i
  have oi := ok_thr ho li
  have ti := oi.2.1
  unfold fThr at ti
  have b1 := li.1
  obtain ⟨y1, y2, y3, y4, y5, y6⟩ := hk.2.1.2 i b1.1 b1.2
  dsimp only at y1 y2 y3 y4 y5 y6
  have kP := hk.1.1
  have oP := ho.2.1.1
  intro f
  induction f with
  | zero =>
    intro k low x11 hf k1 hq
    refine smAt [107, 179, 9999] 60 rfl ?_
    repeat' first
      | refine And.intro ?_ ?_
      | intro _
    all_goals try omega
    refine K low _ _ ?_
    have e : dkU S p y (i + 1) ↔ (dkU S p y i ∨ dkI S p i k y) := by
      constructor
      · rintro ⟨j, j1, j2, j3⟩
        by_cases d : j = i
        · subst d
          obtain ⟨k', c1, c2, c3⟩ := j3
          have := c2.1
          exact Or.inr ⟨k', by omega, c2, c3⟩
        · exact Or.inl ⟨j, by omega, j2, j3⟩
      · rintro (⟨j, j1, j2, j3⟩ | ⟨k', c1, c2, c3⟩)
        · exact ⟨j, by omega, j2, j3⟩
        · exact ⟨i, by omega, li.2, k', by omega, c2, c3⟩
    unfold dkV
    rw [e]
    exact hq
  | succ f ih =>
    intro k low x11 hf k1 hq
    have ek : ((k + 1 : Nat) : Int) = (k : Int) + 1 := by omega
    have q1 := fPos_in (w := S 19 i) oi.1 k
    rw [show fPos (S 18 i) (S 19 i) (S 0 0) k = lP S i k from rfl] at q1
    have q3 := lH_in (S := S) (i := i) (k := k) (by omega) oi.2.1
    have e1 : dkI S p i (k + 1) y ↔ dkI S p i k y ∨ (dkL S p i k ∧ iR y (S 16 i + k) (S 17 i)) := by
      constructor
      · rintro ⟨k', c1, c2, c3⟩
        by_cases d : k' = k
        · subst d
          exact Or.inr ⟨c2, c3⟩
        · exact Or.inl ⟨k', by omega, c2, c3⟩
      · rintro (⟨k', c1, c2, c3⟩ | ⟨c2, c3⟩)
        · exact ⟨k', by omega, c2, c3⟩
        · exact ⟨k, by omega, c2, c3⟩
    refine smAt [107, 122, 179, 9999] 60 rfl ?_
    repeat' first
      | refine And.intro ?_ ?_
      | intro _
    all_goals try omega
    refine ru_heightBehind2 i k (by omega) (by omega) (by omega) (by omega) ?_
    rw [y5, y6, show fH k (S 20 i) (S 21 i) = lH S i k from rfl]
    rcases hq with ⟨e, hq⟩ | ⟨e, hq⟩
    · subst e
      refine smAt [107, 9999] 60 rfl ?_
      repeat' first
        | refine And.intro ?_ ?_
        | intro _
      all_goals try omega
      have g := ih (k + 1) 1 (some (.inl (lH S i k))) (by omega) (by omega) (Or.inl ⟨rfl, ?_⟩)
      · rw [ek] at g; exact g
      · rw [e1]
        rcases hq with z | z
        · exact Or.inl z
        · exact Or.inr (Or.inl z)
    · subst e
      have t170 : ¬ (dkL S p i k ∧ iR y (S 16 i + k) (S 17 i)) → smWp 167 170 [some (oR 11 114), some (.inl p), some (.inl m), some (.inl w), some (.inl n1), some (.inl fi), some (.inl y), some (.inl 0), some (.inl (i : Int)), some (.inl (L : Int)), some (.inl (k : Int)), some (.inl (lH S i k))] [] mem Post := by
        intro c
        refine smAt [107, 9999] 60 rfl ?_
        have g := ih (k + 1) 0 (some (.inl (lH S i k))) (by omega) (by omega) (Or.inr ⟨rfl, ?_⟩)
        · rw [ek] at g; exact g
        · rw [e1]
          rintro (z | z | z)
          · exact hq (Or.inl z)
          · exact hq (Or.inr z)
          · exact c z
      have t141 : fLow (lH S i k) → smWp 167 141 [some (oR 11 114), some (.inl p), some (.inl m), some (.inl w), some (.inl n1), some (.inl fi), some (.inl y), some (.inl 0), some (.inl (i : Int)), some (.inl (L : Int)), some (.inl (k : Int)), some (.inl (lH S i k))] [] mem Post := by
        intro fl
        refine smAt [107, 149, 9999] 60 rfl ?_
        refine ru_placeBehind i k (by omega) (by omega) (by omega) (by omega) (by omega) ?_
        rw [y3, y4, kP, show fPos (S 18 i) (S 19 i) (S 0 0) k = lP S i k from rfl]
        refine smAt [107, 153, 170, 9999] 60 rfl ?_
        repeat' first
          | refine And.intro ?_ ?_
          | intro _
        all_goals try omega
        · exact t170 (fun c => by have := c.1.2.1; omega)
        · refine smAt [107, 170, 9999] 60 rfl ?_
          refine ru_wasThrown i y k (by omega) (by omega) (by omega) (by omega) (by omega) (fun w1 => ?_) (fun w1 => ?_)
          all_goals rw [y1, y2] at w1
          · skip
            repeat' first
              | refine And.intro ?_ ?_
              | intro _
            all_goals try omega
            have g := ih (k + 1) 1 (some (.inl (lH S i k))) (by omega) (by omega) (Or.inl ⟨rfl, ?_⟩)
            · rw [ek] at g; exact g
            · rw [e1]
              exact Or.inr (Or.inr ⟨⟨⟨k1, by omega⟩, by omega, fl⟩, w1⟩)
          · skip
            repeat' first
              | refine And.intro ?_ ?_
              | intro _
            all_goals try omega
            exact t170 (fun c => w1 c.2)
      refine smAt [107, 141, 170, 9999] 60 rfl ?_
      repeat' first
        | refine And.intro ?_ ?_
        | intro _
      all_goals try omega
      · exact t141 (Or.inl (by assumption))
      · exact t170 (fun c => by have := c.1.2.2; unfold fLow at this; omega)
      · exact t141 (Or.inr (by assumption))
set_option maxRecDepth 4000 in
theorem pR_duck (p m w : Int) (hp : smIR p) (hm : smIR m) (hw : smIR w) (hk : rC mem S) (ho : ok N S) (h0 : ¬ (0 ≤ p ∧ p < S 0 0) → Post (some (.inl (-1))) mem) (h1 : 0 ≤ p ∧ p < S 0 0 → ¬ ((1 ≤ m ∧ m ≤ 999) ∧ (0 ≤ w ∧ w ≤ 1)) → Post (some (.inl (-2))) mem) (h2 : 0 ≤ p ∧ p < S 0 0 → (1 ≤ m ∧ m ≤ 999) ∧ (0 ≤ w ∧ w ≤ 1) → ∀ x m', dkA S p m w x → keepR mem m' → Post (some (.inl x)) m') : smRun 167 [oR 11 114, .inl p, .inl m, .inl w] mem Post := by
  obtain ⟨⟨kP, kT, kN, kp, kq, ki⟩, ⟨kB, kb⟩, ⟨kS, ks⟩⟩ := id hk
  obtain ⟨oN, ⟨oP, oT, oA, op, oq, oi⟩, ⟨oB, ob⟩, ⟨oS, os⟩⟩ := id ho
  have middle : 0 ≤ p ∧ p < S 0 0 → ∀ (n1 fi y : Int), (1 ≤ y ∧ y ≤ 999) → (∀ m' low x8 x9 x10 x11, keepF mem m' → dkV S p y 6 low → smWp 167 185 [some (oR 11 114), some (.inl p), some (.inl m), some (.inl w), some (.inl n1), some (.inl fi), some (.inl y), some (.inl low), x8, x9, x10, x11] [] m' Post) → ∀ (f i : Nat) (m' : smM) (low : Int) (x9 x10 x11 : Option smV), i + f = 6 → keepF mem m' → dkV S p y i low → smWp 167 55 [some (oR 11 114), some (.inl p), some (.inl m), some (.inl w), some (.inl n1), some (.inl fi), some (.inl y), some (.inl low), some (.inl (i : Int)), x9, x10, x11] [] m' Post := by
    intro hp1 n1 fi y hy K f
    induction f with
    | zero =>
      intro i m' low x9 x10 x11 hf km hv
      have e : i = 6 := by omega
      subst e
      refine smAt [55, 107, 185, 9999] 60 rfl ?_
      repeat' first
        | refine And.intro ?_ ?_
        | intro _
      all_goals try omega
      exact K m' low _ _ _ _ km hv
    | succ f ih =>
      intro i m' low x9 x10 x11 hf km hv
      have rC1 := rC_keep (keepF_keep km) hk
      have kB1 : m' 114 11 = S 15 0 := rC1.2.1.1
      have ei : ((i + 1 : Nat) : Int) = (i : Int) + 1 := by omega
      refine smAt [55, 74, 107, 179, 9999] 60 rfl ?_
      repeat' first
        | refine And.intro ?_ ?_
        | intro _
        | (show smRun _ _ _ _; first | with_reducible refine ru_has _ _ (fun w1 => ?_) (fun w1 => ?_))
      all_goals try omega
      · have li : liB S (i : Int) := ⟨by omega, by rw [← kB1]; exact w1⟩
        have i1 := lT_in S i
        have i2 := flH_in (S 1) (cP S) (S 0 0) (S 18 i) (S 19 i) (S 20 i) (S 21 i) (lT S i)
        rw [show flH (S 1) (cP S) (S 0 0) (S 18 i) (S 19 i) (S 20 i) (S 21 i) (lT S i) = gE S i from rfl] at i2
        refine smAt [55, 107, 179, 9999] 60 rfl ?_
        refine ru_flyListed i li rC1 ho (fun m2 t2 g2 e2 => ?_)
        have g2' : m2 114 28 = gE S i := g2
        have km2 : keepF mem m2 := fun k q x => (e2 k q x).trans (km k q x)
        have rC2 := rC_keep (keepF_keep km2) hk
        have go : ∀ (L : Nat), ((L = lT S i ∧ gE S i = 2) ∨ (L + 1 = lT S i ∧ gE S i ≠ 2)) → smWp 167 107 [some (oR 11 114), some (.inl p), some (.inl m), some (.inl w), some (.inl n1), some (.inl fi), some (.inl y), some (.inl low), some (.inl (i : Int)), some (.inl (L : Int)), some (.inl 1), x11] [] m2 Post := by
          intro L hL
          refine dkR_107 p m w n1 fi y i L hy hp1 rC2 ho li hL (fun low2 z10 z11 hv2 => ?_) L 1 low x11 (by omega) (by omega) ?_
          · refine smAt [55, 9999] 60 rfl ?_
            have g := ih (i + 1) m2 low2 (some (.inl (L : Int))) z10 z11 (by omega) km2 hv2
            rw [ei] at g; exact g
          · have e1 : (dkU S p y i ∨ dkI S p i 1 y) ↔ dkU S p y i := by
              constructor
              · rintro (z | ⟨k', c1, c2, c3⟩)
                · exact z
                · have := c2.1; omega
              · exact Or.inl
            rw [e1]
            exact hv
        repeat' first
          | refine And.intro ?_ ?_
          | intro _
        all_goals try omega
        · have g := go (lT S i - 1) (Or.inr ⟨by omega, by omega⟩)
          rw [show ((lT S i - 1 : Nat) : Int) = m2 114 29 - 1 by omega] at g
          exact g
        · have g := go (lT S i) (Or.inl ⟨rfl, by omega⟩)
          rw [← t2] at g
          exact g
      · refine smAt [55, 9999] 60 rfl ?_
        have g := ih (i + 1) m' low x9 x10 x11 (by omega) km ?_
        · rw [ei] at g; exact g
        · have e1 : dkU S p y (i + 1) ↔ dkU S p y i := by
            constructor
            · rintro ⟨j, j1, j2, j3⟩
              by_cases d : j = i
              · subst d
                exact absurd (by rw [kB1]; exact j2) w1
              · exact ⟨j, by omega, j2, j3⟩
            · rintro ⟨j, j1, j2, j3⟩
              exact ⟨j, by omega, j2, j3⟩
          unfold dkV
          rw [e1]
          exact hv
  have outer : 0 ≤ p ∧ p < S 0 0 → (1 ≤ m ∧ m ≤ 999) ∧ (0 ≤ w ∧ w ≤ 1) → ∀ (f k : Nat) (m' : smM) (fi : Int) (x7 x8 x9 x10 x11 : Option smV), (k : Int) + f = m → keepF mem m' → fiR (fun y => dkU S p y 6) k fi → smWp 167 43 [some (oR 11 114), some (.inl p), some (.inl m), some (.inl w), some (.inl (cnP (fun y => dkU S p y 6) k)), some (.inl fi), some (.inl ((k : Int) + 1)), x7, x8, x9, x10, x11] [] m' Post := by
    intro hp1 hmw f
    induction f with
    | zero =>
      intro k m' fi x7 x8 x9 x10 x11 hf km hfi
      refine smAt [43, 55, 9999] 60 rfl ?_
      repeat' first
        | refine And.intro ?_ ?_
        | intro _
      all_goals try omega
      · exact h2 hp1 hmw _ m' (Or.inr ⟨by omega, by rw [← show (k : Int) = m by omega]; exact hfi⟩) (keepF_keep km)
      · exact h2 hp1 hmw _ m' (Or.inl ⟨by omega, by rw [show m.toNat = k by omega]⟩) (keepF_keep km)
    | succ f ih =>
      intro k m' fi x7 x8 x9 x10 x11 hf km hfi
      have fb : fi = -6 ∨ (1 ≤ fi ∧ fi ≤ k) := by
        rcases hfi with z | z
        · exact Or.inl z.1
        · exact Or.inr z.1
      refine smAt [43, 55, 9999] 60 rfl ?_
      repeat' first
        | refine And.intro ?_ ?_
        | intro _
      all_goals try omega
      refine middle hp1 _ fi ((k : Int) + 1) (by omega) (fun m2 low z8 z9 z10 z11 km2 hv => ?_) 6 0 m' 0 x9 x10 x11 (by omega) km (Or.inr ⟨rfl, fun ⟨j, j1, _⟩ => by omega⟩)
      have ek : ((k + 1 : Nat) : Int) = (k : Int) + 1 := by omega
      have g := fun fi2 hh => ih (k + 1) m2 fi2 (some (.inl low)) z8 z9 z10 z11 (by omega) km2 hh
      simp only [cnP] at g
      rw [ek] at g
      rcases hv with ⟨e, hv⟩ | ⟨e, hv⟩
      · subst e
        rw [cI_1 hv] at g
        refine smAt [43, 9999] 60 rfl ?_
        repeat' first
          | refine And.intro ?_ ?_
          | intro _
        all_goals try omega
        · refine g fi ?_
          rcases hfi with z | ⟨z1, z2, z3⟩
          · omega
          · exact Or.inr ⟨by omega, z2, z3⟩
        · refine g _ (Or.inr ⟨by omega, hv, fun y' a b => ?_⟩)
          rcases hfi with ⟨z1, z2⟩ | ⟨z1, z2, z3⟩
          · exact z2 y' a (by omega)
          · omega
      · subst e
        rw [cI_0 hv] at g
        have hfi2 : fiR (fun y => dkU S p y 6) ((k : Int) + 1) fi := by
          rcases hfi with ⟨z1, z2⟩ | ⟨z1, z2, z3⟩
          · refine Or.inl ⟨z1, fun y' a b => ?_⟩
            by_cases d : y' = (k : Int) + 1
            · rw [d]; exact hv
            · exact z2 y' a (by omega)
          · exact Or.inr ⟨by omega, z2, z3⟩
        refine smAt [43, 9999] 60 rfl ?_
        repeat' first
          | refine And.intro ?_ ?_
          | intro _
        all_goals try omega
        · exact g fi hfi2
        · exact g fi hfi2
  refine smGo [43, 9999] 60 rfl ?_
  repeat' first
    | refine And.intro ?_ ?_
    | intro _
    | (show smRun _ _ _ _; first | with_reducible refine ru_isPlace _ hp ?_ ?_ ?_ | with_reducible refine ru_in _ _ _ hm ?_ ?_ ?_ ?_ | with_reducible refine ru_in _ _ _ hw ?_ ?_ ?_ ?_)
    | (show Post _ _; first | exact h0 (by omega) | exact h1 (by omega) (by omega))
  all_goals try omega
  exact outer (by omega) (by omega) m.toNat 0 mem (-6) none none none none none (by omega) (fun _ _ _ => rfl) (Or.inl ⟨rfl, fun y' a b => by omega⟩)
theorem lw_duck (p m w : Int) (hp : smIR p) (hm : smIR m) (hw : smIR w) (hN : N ≤ 900000) (h : jI N mem) : both N 101 167 [.inl p, .inl m, .inl w] mem := by
  have hj := jI_rf hN h
  obtain ⟨S, S1, S2, n, d, h⟩ := h
  obtain ⟨a1, a2, a3, -⟩ := id h
  have hM : N ≤ N + 1000 ∧ N + 1000 ≤ 1000000 := by have := a1.1; omega
  refine pC_duck p m w hp hm hw a2 a1 (fun c => ?_) (fun c1 c2 => ?_) (fun c1 c2 x m1 g1 g2 => ?_)
  · refine pR_duck p m w hp hm hw a3 a1 (fun _ => ⟨agr_rf _, hj⟩) (fun z => absurd z c) (fun z => absurd z c)
  · refine pR_duck p m w hp hm hw a3 a1 (fun z => absurd c1 z) (fun _ _ => ⟨agr_rf _, hj⟩) (fun _ z => absurd z c2)
  · refine pR_duck p m w hp hm hw (rC_eqR (keepC_eqR g2) a3) a1 (fun z => absurd c1 z) (fun _ z => absurd c2 z) (fun _ _ u m2 r1 r2 => ?_)
    rw [dkA_uni g1 r1]
    exact ⟨agr_rf _, S, S1, S2, n, d, jO_keep h hM g2 r2⟩
end
