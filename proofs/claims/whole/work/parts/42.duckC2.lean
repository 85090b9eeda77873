/-! duck, class: all rows marked; counted -/
def kE (mem mem' : smM) : Prop := ∀ k i, k < 105 ∨ (107 < k ∧ k ≠ 112) → mem' k i = mem k i
theorem kE_keep {a b : smM} (h : kE a b) : keepC a b := ⟨fun k i hk => h k i (by omega), h 93 0 (by omega)⟩
theorem dkI_37 {S : sS} {p i y : Int} {n : Nat} (hn : lT S i < n) : dkI S p i n y ↔ dkI S p i 37 y := by
  have i1 := lT_in S i
  constructor
  · rintro ⟨k, k1, k2, k3⟩
    have := k2.1
    exact ⟨k, by omega, k2, k3⟩
  · rintro ⟨k, k1, k2, k3⟩
    have := k2.1
    exact ⟨k, by omega, k2, k3⟩
section
variable {mem : smM} {Post : Option smV → smM → Prop} {N : Int} {S : sS}
set_option maxRecDepth 4000 in
theorem ru_markLow (p la : Int) (hp : 0 ≤ p ∧ p < 9) (hl : 1 ≤ la ∧ la ≤ 999) (hk : kC mem S) (ho : ok N S) (hs : scS mem S) (h : ∀ m, kE mem m → mk6 m → (∀ y, 0 ≤ y → y ≤ 999 → ∀ j : Nat, j < 6 → (bB (m 112 y) j ↔ bB (S 15 0) j ∧ y ≤ la ∧ dkI S p j 37 y)) → Post none m) : smRun 36 [oR 4 104, oR 8 16, oR 6 95, .inl p, .inl la] mem Post := by
  have oB := ho.2.2.1.1
  have hca : ∀ q, 0 ≤ q → q < S 0 0 → -6 ≤ wh S q ∧ wh S q < 1000 := fun q x y => by rcases wh_in S q with h | h <;> omega
  have kmk : ∀ m, kE mem m → kC m S ∧ scS m S := fun m e => ⟨kC_of (fun k q x => e k q (by omega)) hk, ⟨by rw [e 95 0 (by omega)]; exact hs.1, fun p x y => by rw [e 96 p (by omega), e 97 p (by omega)]; exact hs.2 p x y⟩⟩
  have outer : ∀ (f i : Nat) (m : smM) (x6 : Option smV), i + f = 6 → kE mem m → mk6 m → (∀ y, 0 ≤ y → y ≤ 999 → ∀ j : Nat, j < 6 → (bB (m 112 y) j ↔ j < i ∧ bB (S 15 0) j ∧ y ≤ la ∧ dkI S p j 37 y)) → smWp 36 28 [some (oR 4 104), some (oR 8 16), some (oR 6 95), some (.inl p), some (.inl la), some (.inl (i : Int)), x6] [] m Post := by
    intro f
    induction f with
    | zero =>
      intro i m x6 hf km m6 hb
      refine smAt [28, 58, 9999] 60 rfl ?_
      repeat' first
        | refine And.intro ?_ ?_
        | intro _
      all_goals try omega
      refine h m km m6 (fun y b1 b2 j hj => ?_)
      rw [hb y b1 b2 j hj]
      exact ⟨fun z => z.2, fun z => ⟨by omega, z⟩⟩
    | succ f ih =>
      intro i m x6 hf km m6 hb
      obtain ⟨kC1, sC1⟩ := kmk m km
      have kB := kC1.2.1.1
      have hii : smIR (i : Int) := by unfold smIR; omega
      have ei : ((i + 1 : Nat) : Int) = (i : Int) + 1 := by omega
      refine smAt [28, 44, 58, 116, 9999] 60 rfl ?_
      repeat' first
        | refine And.intro ?_ ?_
        | intro _
        | (show smRun _ _ _ _; first | with_reducible refine ru_listedHas _ hii (fun _ _ w1 => ?_) (fun w1 => ?_))
      all_goals try omega
      · have bi : bB (S 15 0) (i : Int) := by rw [← kB]; exact w1
        have li : liB S (i : Int) := ⟨by omega, bi⟩
        refine smAt [28, 58, 9999] 60 rfl ?_
        refine ru_fly105 i (wh S) li kC1 ho sC1 hca (fun m1 t1 e1 => ?_)
        have km1 : kE mem m1 := fun k q x => (e1 k q (by omega) (by omega) (by omega)).trans (km k q x)
        have em1 : ∀ y, m1 112 y = m 112 y := fun y => e1 112 y (by decide) (by decide) (by decide)
        have T1 : m1 105 1 = (lT S i : Int) := t1.1
        have E1 : m1 105 0 = gE S i := t1.2.1
        have P1 : ∀ k : Nat, k ≤ lT S i → m1 106 k = lP S i k ∧ m1 107 k = lH S i k := fun k x => t1.2.2.2 k x
        have i1 := lT_in S i
        have oi := ok_thr ho li
        have inner : ∀ (f k : Nat) (m' : smM), k + f = lT S i + 1 → 1 ≤ k → kD m1 m' → mk6 m' → (∀ y, 0 ≤ y → y ≤ 999 → ∀ j : Nat, j < 6 → (bB (m' 112 y) j ↔ (j < i ∧ bB (S 15 0) j ∧ y ≤ la ∧ dkI S p j 37 y) ∨ (j = i ∧ y ≤ la ∧ dkI S p i k y))) → smWp 36 58 [some (oR 4 104), some (oR 8 16), some (oR 6 95), some (.inl p), some (.inl la), some (.inl (i : Int)), some (.inl (k : Int))] [] m' Post := by
          intro f
          induction f with
          | zero =>
            intro k m' hkf k1 km' m6' hb'
            have e5 : m' 105 1 = (lT S i : Int) := by rw [km' 105 1 (by decide)]; exact T1
            refine smAt [28, 58, 9999] 60 rfl ?_
            repeat' first
              | refine And.intro ?_ ?_
              | intro _
            all_goals try omega
            have g := ih (i + 1) m' (some (.inl (k : Int))) (by omega) (fun k q x => (km' k q (by omega)).trans (km1 k q x)) m6' (fun y b1 b2 j hj => ?_)
            · rw [ei] at g; exact g
            · rw [hb' y b1 b2 j hj]
              constructor
              · rintro (z | ⟨z1, z2, z3⟩)
                · exact ⟨by omega, z.2⟩
                · subst z1
                  exact ⟨by omega, bi, z2, (dkI_37 (by omega)).mp z3⟩
              · rintro ⟨z1, z2, z3, z4⟩
                by_cases d : j = i
                · subst d
                  exact Or.inr ⟨rfl, z3, (dkI_37 (by omega)).mpr z4⟩
                · exact Or.inl ⟨by omega, z2, z3, z4⟩
          | succ f ih2 =>
            intro k m' hkf k1 km' m6' hb'
            have e5 : m' 105 1 = (lT S i : Int) := by rw [km' 105 1 (by decide)]; exact T1
            have e6 : m' 105 0 = gE S i := by rw [km' 105 0 (by decide)]; exact E1
            have e7 : m' 106 k = lP S i k := by rw [km' 106 _ (by decide)]; exact (P1 k (by omega)).1
            have e8 : m' 107 k = lH S i k := by rw [km' 107 _ (by decide)]; exact (P1 k (by omega)).2
            have q1 := fPos_in (w := S 19 i) oi.1 k
            rw [show fPos (S 18 i) (S 19 i) (S 0 0) k = lP S i k from rfl] at q1
            have q3 := lH_in (S := S) (i := i) (k := k) (by omega) oi.2.1
            have oP := ho.2.1.1
            have kC2 := (kmk m' (fun k q x => (km' k q (by omega)).trans (km1 k q x))).1
            have zi := kC2.2.1.2 i (by omega) (by omega)
            have ek : ((k + 1 : Nat) : Int) = (k : Int) + 1 := by omega
            refine smAt [28, 58, 9999] 60 rfl ?_
            repeat' first
              | refine And.intro ?_ ?_
              | intro _
            all_goals try omega
            refine ru_isLowAt i p k (by omega) (by omega) e5 e6 e7 e8 (by omega) (by omega) (fun w1 => ?_) (fun w1 => ?_)
            · skip
              repeat' first
                | refine And.intro ?_ ?_
                | intro _
              all_goals try omega
              rw [zi.1, zi.2.1]
              refine ru_markRow i (S 16 i + k) (S 17 i) la (by omega) (by omega) (by omega) hl m6' (fun y y1 y2 e1 b => ?_) (fun m3 km3 m63 hb3 => ?_)
              · rcases (hb' y (by omega) (by omega) i (by omega)).mp b with z | ⟨z1, z2, k', z3, z4, z5⟩
                · omega
                · exact (hb' (y + S 17 i) (by omega) (by omega) i (by omega)).mpr (Or.inr ⟨rfl, y2, k', z3, z4, iR_add e1 z5⟩)
              · have g := ih2 (k + 1) m3 (by omega) (by omega) (fun k q x => (km3 k q x).trans (km' k q x)) m63 (fun y b1 b2 j hj => ?_)
                · rw [ek] at g; exact g
                · rw [hb3 y b1 b2 j hj, hb' y b1 b2 j hj]
                  constructor
                  · rintro ((z | ⟨z1, z2, k', z3, z4, z5⟩) | ⟨z1, z2, z3⟩)
                    · exact Or.inl z
                    · exact Or.inr ⟨z1, z2, k', by omega, z4, z5⟩
                    · exact Or.inr ⟨z1, z2, k, by omega, w1, z3⟩
                  · rintro (z | ⟨z1, z2, k', z3, z4, z5⟩)
                    · exact Or.inl (Or.inl z)
                    · by_cases d : k' = k
                      · subst d
                        exact Or.inr ⟨z1, z2, z5⟩
                      · exact Or.inl (Or.inr ⟨z1, z2, k', by omega, z4, z5⟩)
            · skip
              repeat' first
                | refine And.intro ?_ ?_
                | intro _
              all_goals try omega
              have g := ih2 (k + 1) m' (by omega) (by omega) km' m6' (fun y b1 b2 j hj => ?_)
              · rw [ek] at g; exact g
              · rw [hb' y b1 b2 j hj]
                refine or_congr Iff.rfl (and_congr Iff.rfl (and_congr Iff.rfl ⟨?_, ?_⟩))
                · rintro ⟨k', z3, z4, z5⟩
                  exact ⟨k', by omega, z4, z5⟩
                · rintro ⟨k', z3, z4, z5⟩
                  by_cases d : k' = k
                  · subst d
                    exact absurd z4 w1
                  · exact ⟨k', by omega, z4, z5⟩
        refine inner (lT S i) 1 m1 (by omega) (by omega) (fun _ _ _ => rfl) (fun y b1 b2 => by rw [em1]; exact m6 y b1 b2) (fun y b1 b2 j hj => ?_)
        rw [em1, hb y b1 b2 j hj]
        constructor
        · exact Or.inl
        · rintro (z | ⟨z1, z2, k', z3, z4, z5⟩)
          · exact z
          · have := z4.1; omega
      · refine smAt [28, 58, 9999] 60 rfl ?_
        have nb : ¬ bB (S 15 0) (i : Int) := fun z => w1 ⟨by omega, by omega, by rw [kB]; exact z⟩
        have g := ih (i + 1) m x6 (by omega) km m6 (fun y b1 b2 j hj => ?_)
        · rw [ei] at g; exact g
        · rw [hb y b1 b2 j hj]
          constructor
          · intro z; exact ⟨by omega, z.2⟩
          · intro z
            refine ⟨?_, z.2⟩
            by_cases d : j = i
            · subst d; exact absurd z.2.1 nb
            · omega
  have zero : ∀ (f : Nat) (y : Int) (m : smM), y = 1000 - (f : Int) → 0 ≤ y → kE mem m → (∀ z, 0 ≤ z → z < y → m 112 z = 0) → smWp 36 3 [some (oR 4 104), some (oR 8 16), some (oR 6 95), some (.inl p), some (.inl la), some (.inl y), none] [] m Post := by
    intro f
    induction f with
    | zero =>
      intro y m hf y0 km hz
      refine smAt [3, 28, 9999] 60 rfl ?_
      repeat' first
        | refine And.intro ?_ ?_
        | intro _
      all_goals try omega
      refine outer 6 0 m none (by omega) km (fun z b1 b2 => by rw [hz z b1 (by omega)]; omega) (fun z b1 b2 j hj => ?_)
      rw [hz z b1 (by omega)]
      exact ⟨fun q => absurd q (bB_006 j (by omega) (by omega)), fun q => by omega⟩
    | succ f ih =>
      intro y m hf y0 km hz
      refine smAt [3, 28, 9999] 60 rfl ?_
      repeat' first
        | refine And.intro ?_ ?_
        | intro _
      all_goals try omega
      refine ih (y + 1) _ (by omega) (by omega) (fun k q x => by rw [smU_ne (by omega)]; exact km k q x) (fun z b1 b2 => ?_)
      by_cases d : z = y
      · rw [d, smU_s]
      · rw [smU_d d]; exact hz z b1 (by omega)
  refine smGo [3, 9999] 60 rfl ?_
  exact zero 1000 0 mem (by omega) (by omega) (fun _ _ _ => rfl) (fun z b1 b2 => by omega)
theorem ru_countMarks (P : Int → Prop) (la : Int) (hl : 1 ≤ la ∧ la ≤ 999) (hm : mk6 mem) (hP : ∀ y, 1 ≤ y → y ≤ la → (mem 112 y ≠ 0 ↔ P y)) (h : Post (some (.inl (cnP P la.toNat))) mem) : smRun 37 [oR 4 104, .inl la] mem Post := by
  have loop : ∀ (f k : Nat), (k : Int) + f = la → smWp 37 4 [some (oR 4 104), some (.inl la), some (.inl (cnP P k)), some (.inl ((k : Int) + 1))] [] mem Post := by
    intro f
    induction f with
    | zero =>
      intro k hk
      refine smAt [4, 9999] 60 rfl ?_
      repeat' first
        | refine And.intro ?_ ?_
        | intro _
      all_goals try omega
      rw [show la.toNat = k by omega] at h
      exact h
    | succ f ih =>
      intro k hk
      have h2 := ih (k + 1) (by omega)
      have m1 := hm ((k : Int) + 1) (by omega) (by omega)
      have p1 := hP ((k : Int) + 1) (by omega) (by omega)
      simp only [cnP] at h2
      rw [show ((k + 1 : Nat) : Int) = (k : Int) + 1 by omega] at h2
      refine smAt [4, 9999] 60 rfl ?_
      repeat' first
        | refine And.intro ?_ ?_
        | intro _
      all_goals try omega
      · rw [cI_0 (fun z => p1.mpr z (by assumption))] at h2; exact h2
      · rw [cI_1 (p1.mp (by assumption))] at h2; exact h2
  refine smGo [4, 9999] 60 rfl ?_
  exact loop la.toNat 0 (by omega)
theorem ru_firstMark (P : Int → Prop) (la : Int) (hl : 1 ≤ la ∧ la ≤ 999) (hm : mk6 mem) (hP : ∀ y, 1 ≤ y → y ≤ la → (mem 112 y ≠ 0 ↔ P y)) (h : ∀ v, fiR P la v → Post (some (.inl v)) mem) : smRun 38 [oR 4 104, .inl la] mem Post := by
  have loop : ∀ (f : Nat) (y : Int), y = la + 1 - (f : Int) → 1 ≤ y → (∀ z, 1 ≤ z → z < y → ¬ P z) → smWp 38 2 [some (oR 4 104), some (.inl la), some (.inl y)] [] mem Post := by
    intro f
    induction f with
    | zero =>
      intro y hy y1 hn
      refine smAt [2, 9999] 60 rfl ?_
      repeat' first
        | refine And.intro ?_ ?_
        | intro _
      all_goals try omega
      all_goals exact h _ (Or.inl ⟨rfl, fun z z1 z2 => hn z z1 (by omega)⟩)
    | succ f ih =>
      intro y hy y1 hn
      have m1 := hm y (by omega) (by omega)
      have p1 := hP y (by omega) (by omega)
      refine smAt [2, 9999] 60 rfl ?_
      repeat' first
        | refine And.intro ?_ ?_
        | intro _
      all_goals try omega
      · refine ih (y + 1) (by omega) (by omega) (fun z z1 z2 => ?_)
        by_cases d : z = y
        · rw [d]; exact fun q => p1.mpr q (by assumption)
        · exact hn z z1 (by omega)
      · exact h _ (Or.inr ⟨⟨y1, by omega⟩, p1.mp (by assumption), hn⟩)
  refine smGo [2, 9999] 60 rfl ?_
  exact loop la.toNat 1 (by omega) (by omega) (fun z z1 z2 => by omega)
def dkA (S : sS) (p m w x : Int) : Prop := (w = 0 ∧ x = cnP (fun y => dkU S p y 6) m.toNat) ∨ (w = 1 ∧ fiR (fun y => dkU S p y 6) m x)
theorem dkA_uni {p m w x y : Int} (h : dkA S p m w x) (g : dkA S p m w y) : x = y := by
  rcases h with h | h <;> rcases g with g | g
  · rw [h.2, g.2]
  · omega
  · omega
  · exact fiR_uni h.2 g.2
theorem pC_duck (p m w : Int) (hp : smIR p) (hm : smIR m) (hw : smIR w) (hk : kC mem S) (ho : ok N S) (h0 : ¬ (0 ≤ p ∧ p < S 0 0) → Post (some (.inl (-1))) mem) (h1 : 0 ≤ p ∧ p < S 0 0 → ¬ ((1 ≤ m ∧ m ≤ 999) ∧ (0 ≤ w ∧ w ≤ 1)) → Post (some (.inl (-2))) mem) (h2 : 0 ≤ p ∧ p < S 0 0 → (1 ≤ m ∧ m ≤ 999) ∧ (0 ≤ w ∧ w ≤ 1) → ∀ x m', dkA S p m w x → keepC mem m' → Post (some (.inl x)) m') : smRun 101 [oR 10 0, .inl p, .inl m, .inl w] mem Post := by
  obtain ⟨⟨kP, kT, kN, kp, kq, ki⟩, ⟨kB, kb⟩, ⟨kS, ks⟩⟩ := id hk
  obtain ⟨oN, ⟨oP, oT, oA, op, oq, oi⟩, ⟨oB, ob⟩, ⟨oS, os⟩⟩ := id ho
  refine smGo [39, 9999] 60 rfl ?_
  repeat' first
    | refine And.intro ?_ ?_
    | intro _
    | (show smRun _ _ _ _; first | with_reducible refine ru_hasPlace 2 _ hp ?_ ?_ ?_ | with_reducible refine ru_within _ _ _ hm ?_ ?_ ?_ ?_ | with_reducible refine ru_within _ _ _ hw ?_ ?_ ?_ ?_)
    | (show Post _ _; first | exact h0 (by omega) | exact h1 (by omega) (by omega))
  all_goals try omega
  refine smAt [9999] 60 rfl ?_
  refine ru_lookS hk.1 ho.2.1 (fun m1 s1 e1 => ?_)
  refine ru_markLow p m (by omega) (by omega) (kC_keep e1 hk) ho s1 (fun m2 k2 m6 hb => ?_)
  have kk := keepC_tr e1 (kE_keep k2)
  have hP : ∀ y, 1 ≤ y → y ≤ m → (m2 112 y ≠ 0 ↔ dkU S p y 6) := by
    intro y y1 y2
    have q := m6 y (by omega) (by omega)
    have z := mk_nz (m2 112 y) q.1 q.2
    constructor
    · intro c
      have c2 : ¬ ∀ j : Nat, j < 6 → ¬ bB (m2 112 y) j := fun d => c (z.mpr d)
      refine Classical.byContradiction (fun d => c2 (fun j hj b => d ?_))
      have b2 := (hb y (by omega) (by omega) j hj).mp b
      exact ⟨j, hj, b2.1, b2.2.2⟩
    · rintro ⟨j, hj, b1, b2⟩ c
      exact z.mp c j hj ((hb y (by omega) (by omega) j hj).mpr ⟨b1, y2, b2⟩)
  repeat' first
    | refine And.intro ?_ ?_
    | intro _
  all_goals try omega
  · refine ru_firstMark (fun y => dkU S p y 6) m (by omega) m6 hP (fun v hv => ?_)
    exact h2 (by omega) (by omega) v m2 (Or.inr ⟨by omega, hv⟩) kk
  · refine ru_countMarks (fun y => dkU S p y 6) m (by omega) m6 hP ?_
    exact h2 (by omega) (by omega) _ m2 (Or.inl ⟨by omega, rfl⟩) kk
end
