/-! gets and keptOff, class -/
def QD (S : sS) (q o w0 r0 t0 : Int) : Int → Int → Int → Prop := fun w r t => gp S q o w r t ∧ (w < w0 ∨ (w = w0 ∧ (r < r0 ∨ (r = r0 ∧ t < t0))))
theorem sI_add {S : sS} {q w r t : Int} {Q : Int → Int → Int → Prop} {m m' : smM} (hg : 0 ≤ r ∧ r ≤ 36) (hw : 0 ≤ w ∧ w ≤ 1) (ht : 1 ≤ t ∧ t ≤ 5) (h : sI S q Q m) (h3 : m' 101 3 = if eA S q w r t < m 101 3 then eA S q w r t else m 101 3) (h4 : m' 101 4 = if eB S q w r t < m 101 4 then eB S q w r t else m 101 4) (h2 : ∀ p, 0 ≤ p → p < 9 → m' 102 p = if m 102 p < lwN (fPos (S 5 q) w (S 0 0)) (fun k => fH k r t) (gT S (S 5 q) w r t) p + 1 then lwN (fPos (S 5 q) w (S 0 0)) (fun k => fH k r t) (gT S (S 5 q) w r t) p + 1 else m 102 p) (hl : ∀ p, 0 ≤ lwN (fPos (S 5 q) w (S 0 0)) (fun k => fH k r t) (gT S (S 5 q) w r t) p ∧ lwN (fPos (S 5 q) w (S 0 0)) (fun k => fH k r t) (gT S (S 5 q) w r t) p ≤ 1000000) : sI S q (fun w' r' t' => Q w' r' t' ∨ (w' = w ∧ r' = r ∧ t' = t)) m' := by
  have g := gT_in (S := S) (p := S 5 q) (w := w) (r := r) (t := t)
  refine ⟨?_, ?_, fun p x y => ?_⟩
  · rw [h3]; exact mnR_add h.1 (by unfold eA; omega)
  · rw [h4]; exact mnR_add h.2.1 (by unfold eB; omega)
  · have a := h.2.2 p x y
    have l := hl p
    rw [h2 p x y]
    refine ⟨by split <;> omega, fun G c d => ?_⟩
    have i := lwN_iff (sp := fPos (S 5 q) w (S 0 0)) (hi := fun k => fH k r t) (p := p) d (gT S (S 5 q) w r t)
    have e := a.2 G c d
    have e2 : (G < (if m 102 p < lwN (fPos (S 5 q) w (S 0 0)) (fun k => fH k r t) (gT S (S 5 q) w r t) p + 1 then lwN (fPos (S 5 q) w (S 0 0)) (fun k => fH k r t) (gT S (S 5 q) w r t) p + 1 else m 102 p)) ↔ (G < m 102 p ∨ G ≤ lwN (fPos (S 5 q) w (S 0 0)) (fun k => fH k r t) (gT S (S 5 q) w r t) p) := by
      split <;> omega
    rw [e2, e, i]
    constructor
    · rintro (⟨w', r', t', z1, z2⟩ | z)
      · exact ⟨w', r', t', Or.inl z1, z2⟩
      · exact ⟨w, r, t, Or.inr ⟨rfl, rfl, rfl⟩, z⟩
    · rintro ⟨w', r', t', z1 | ⟨z1, z3, z4⟩, z2⟩
      · exact Or.inl ⟨w', r', t', z1, z2⟩
      · subst z1; subst z3; subst z4
        exact Or.inr z2
section
variable {mem : smM} {Post : Option smV → smM → Prop} {N : Int} {S : sS}
set_option maxRecDepth 4000 in
theorem ru_search (q o : Int) (hq : 0 ≤ q ∧ q ≤ 4 ∧ bB (S 4 0) q) (ho2 : 0 ≤ o ∧ o ≤ 4) (hk : kC mem S) (ho : ok N S) (hs : scS mem S) (h : ∀ m, kA mem m → m 101 0 = gcR S q o 0 (S 6 q).toNat + gcR S q o 1 (S 6 q).toNat → sI S q (gp S q o) m → Post none m) : smRun 7 [oR 0 101, oR 9 2, oR 6 95, oR 2 98, .inl q, .inl o] mem Post := by
  have o5 := ho.2.1.2.2.2.2.1 q (by omega) (by omega)
  have hp : 0 ≤ S 5 q ∧ S 5 q < S 0 0 := ⟨o5.1.1, (o5.2.2.2.2 hq.2.2).1⟩
  have oP := ho.2.1.1
  have a36 := o5.2.1
  have kmk : ∀ m, kA mem m → kC m S ∧ scS m S := fun m e => ⟨kC_of (fun k q x => e k q (by omega)) hk, ⟨by rw [e 95 0 (by omega)]; exact hs.1, fun p x y => by rw [e 96 p (by omega), e 97 p (by omega)]; exact hs.2 p x y⟩⟩
  have bA : ∀ w r t, gp S q o w r t → (0 ≤ eA S q w r t ∧ eA S q w r t < 1000000) ∧ (0 ≤ eB S q w r t ∧ eB S q w r t < 1000000) := by
    intro w r t z
    have g := gT_in (S := S) (p := S 5 q) (w := w) (r := r) (t := t)
    have z1 := z.1
    unfold eA eB
    omega
  have inner : ∀ (w : Int) (r : Nat) (c0 : Int), (w = 0 ∨ w = 1) → 1 ≤ r → (r : Int) ≤ S 6 q → (0 ≤ c0 ∧ c0 ≤ 1000) → (∀ m, kA mem m → m 101 0 = c0 + gcT S q o w r 5 → sI S q (QD S q o w ((r : Int) + 1) 1) m → smWp 7 53 [some (oR 0 101), some (oR 9 2), some (oR 6 95), some (oR 2 98), some (.inl q), some (.inl o), some (.inl w), some (.inl ((r : Int) + 1)), some (.inl 6)] [] m Post) → ∀ (f n : Nat) (m : smM), n + f = 5 → kA mem m → m 101 0 = c0 + gcT S q o w r n → sI S q (QD S q o w r ((n : Int) + 1)) m → smWp 7 68 [some (oR 0 101), some (oR 9 2), some (oR 6 95), some (oR 2 98), some (.inl q), some (.inl o), some (.inl w), some (.inl (r : Int)), some (.inl ((n : Int) + 1))] [] m Post := by
    intro w r c0 hw r1 r2 hc0 K f
    induction f with
    | zero =>
      intro n m hf km hc hi
      have e : n = 5 := by omega
      subst e
      refine smAt [53, 68, 9999] 60 rfl ?_
      repeat' first
        | refine And.intro ?_ ?_
        | intro _
      all_goals try omega
      refine K m km hc (sI_cg hi (fun w' r' t' => ?_))
      unfold QD
      refine and_congr_right (fun z => ?_)
      have z1 := z.1
      omega
    | succ f ih =>
      intro n m hf km hc hi
      obtain ⟨kC1, sC1⟩ := kmk m km
      have en : ((n + 1 : Nat) : Int) = (n : Int) + 1 := by omega
      have e5 := (kC1.1.2.2.2.2.1 q (by omega) (by omega)).1
      have th : fThr w r ((n : Int) + 1) := ⟨by omega, by omega, by omega⟩
      have gi := gcT_in S q o w r n
      refine smAt [53, 68, 92, 9999] 60 rfl ?_
      repeat' first
        | refine And.intro ?_ ?_
        | intro _
      all_goals try omega
      rw [e5]
      refine ru_goS _ w r _ sC1 ho.2.1 hp th (fun m2 t2 k2 => ?_)
      have km2 : kA mem m2 := fun k i x => (k2 k i (by omega) (by omega) (by omega)).trans (km k i x)
      obtain ⟨t20, t21, t22, t23⟩ := t2
      have e2 : m2 98 2 = gB S (S 5 q) w r ((n : Int) + 1) := t22
      have e0 : m2 98 0 = gH S (S 5 q) w r ((n : Int) + 1) := t21
      have e1 : m2 98 1 = (gT S (S 5 q) w r ((n : Int) + 1) : Int) := t20
      have i0 := flH_in (S 1) (cP S) (S 0 0) (S 5 q) w r ((n : Int) + 1) (gT S (S 5 q) w r ((n : Int) + 1))
      have i2 := gB_in S (S 5 q) w r ((n : Int) + 1)
      have i1 := gT_in (S := S) (p := S 5 q) (w := w) (r := r) (t := (n : Int) + 1)
      have ir := gT_r (S := S) (p := S 5 q) (w := w) (t := (n : Int) + 1) (show 1 ≤ (r : Int) ∧ (r : Int) ≤ 36 by omega)
      refine smAt [53, 68, 101, 120, 9999] 60 rfl ?_
      refine ru_isCaughtBy o (by unfold smIR; omega) (by rw [e0]; exact i0) (by rw [e2]; exact i2) (fun c1 c2 => ?_) (fun c1 => ?_)
      · have cg : cgt S q o w r ((n : Int) + 1) := ⟨by rw [← e0]; exact c1, by rw [← e2]; exact c2⟩
        have gpx : gp S q o w r ((n : Int) + 1) := ⟨⟨by omega, by omega, by omega⟩, cg⟩
        have f1 : ∀ i, m2 101 i = m 101 i := fun i => k2 101 i (by decide) (by decide) (by decide)
        have f2 : ∀ i, m2 102 i = m 102 i := fun i => k2 102 i (by decide) (by decide) (by decide)
        have j3 := mnR_in hi.1 (by omega) (fun w' r' t' z => (bA w' r' t' z.1).1)
        have j4 := mnR_in hi.2.1 (by omega) (fun w' r' t' z => (bA w' r' t' z.1).2)
        repeat' first
          | refine And.intro ?_ ?_
          | intro _
        all_goals try omega
        refine smAt [53, 68, 115, 120, 9999] 60 rfl ?_
        refine ru_noteThrow (m2 98 1) w r _ (by omega) (by omega) (by omega) (by omega) (by rw [f1]; unfold smIR; omega) (by rw [f1]; unfold smIR; omega) (fun m3 g0 g3 g4 gx => ?_)
        rw [e1] at g3 g4
        refine smAt [53, 68, 120, 9999] 60 rfl ?_
        have hhi : ∀ k : Nat, 1 ≤ k → k ≤ gT S (S 5 q) w r ((n : Int) + 1) → 0 ≤ fH k r ((n : Int) + 1) ∧ fH k r ((n : Int) + 1) ≤ 5 := fun k a b => fH_in (by omega) (by omega)
        refine ru_noteHedges (gT S (S 5 q) w r ((n : Int) + 1)) (fPos (S 5 q) w (S 0 0)) (fun k => fH k r ((n : Int) + 1)) (by rw [gx 98 1 (by decide)]; exact e1) i1 (fun k a b => ⟨⟨?_, ?_⟩, ?_, hhi k a b⟩) (fun p x y => ?_) (fun m4 g5 gy => ?_)
        · rw [gx 99 _ (by decide)]; exact (t23 k b).1
        · rw [gx 100 _ (by decide)]; exact (t23 k b).2
        · have := fPos_in (w := w) hp k
          omega
        · rw [gx 102 _ (by decide), f2]; exact (hi.2.2 p x y).1
        · have km4 : kA mem m4 := fun k i x => ((gy k i (by omega) (by omega)).trans (gx k i (by omega))).trans (km2 k i x)
          refine smAt [53, 68, 9999] 60 rfl ?_
          have g := ih (n + 1) m4 (by omega) km4 ?_ ?_
          · rw [en] at g; exact g
          · rw [gy 101 0 (by decide) (by decide), g0, f1, hc]
            simp only [gcT]
            rw [cI_1 cg]
            omega
          · rw [en]
            refine sI_cg (sI_add (w := w) (r := r) (t := (n : Int) + 1) (m' := m4) (by omega) (by omega) (by omega) hi ?_ ?_ (fun p x y => ?_) (fun p => lwN_in p _ hhi)) (fun w' r' t' => ?_)
            · rw [gy 101 3 (by decide) (by decide), g3, f1]; rfl
            · rw [gy 101 4 (by decide) (by decide), g4, f1]; rfl
            · rw [g5 p x y, gx 102 _ (by decide), f2]
            · unfold QD
              constructor
              · rintro (⟨z1, z2⟩ | ⟨z1, z2, z3⟩)
                · exact ⟨z1, by omega⟩
                · subst z1; subst z2; subst z3
                  exact ⟨gpx, by omega⟩
              · rintro ⟨z1, z2⟩
                by_cases d : w' = w ∧ r' = r ∧ t' = (n : Int) + 1
                · exact Or.inr d
                · exact Or.inl ⟨z1, by omega⟩
      · skip
        repeat' first
          | refine And.intro ?_ ?_
          | intro _
        all_goals try omega
        have cg : ¬ cgt S q o w r ((n : Int) + 1) := fun z => c1 ⟨by rw [e0]; exact z.1, by rw [e2]; exact z.2⟩
        refine smAt [53, 68, 9999] 60 rfl ?_
        have g := ih (n + 1) m2 (by omega) km2 ?_ ?_
        · rw [en] at g; exact g
        · rw [k2 101 0 (by decide) (by decide) (by decide), hc]
          simp only [gcT]
          rw [cI_0 cg]
          omega
        · have hi2 : sI S q (QD S q o w r ((n : Int) + 1)) m2 := by
            unfold sI
            rw [k2 101 3 (by decide) (by decide) (by decide), k2 101 4 (by decide) (by decide) (by decide)]
            refine ⟨hi.1, hi.2.1, fun p x y => ?_⟩
            rw [k2 102 p (by decide) (by decide) (by decide)]
            exact hi.2.2 p x y
          rw [en]
          refine sI_cg hi2 (fun w' r' t' => ?_)
          unfold QD
          constructor
          · rintro ⟨z1, z2⟩
            exact ⟨z1, by omega⟩
          · rintro ⟨z1, z2⟩
            refine ⟨z1, ?_⟩
            by_cases d : w' = w ∧ r' = r ∧ t' = (n : Int) + 1
            · obtain ⟨d1, d2, d3⟩ := d
              subst d1; subst d2; subst d3
              exact absurd z1.2 cg
            · omega
  have middle : ∀ (w c0 : Int), (w = 0 ∨ w = 1) → (0 ≤ c0 ∧ c0 ≤ 200) → (∀ m x7 x8, kA mem m → m 101 0 = c0 + gcR S q o w (S 6 q).toNat → sI S q (QD S q o (w + 1) 1 1) m → smWp 7 44 [some (oR 0 101), some (oR 9 2), some (oR 6 95), some (oR 2 98), some (.inl q), some (.inl o), some (.inl (w + 1)), x7, x8] [] m Post) → ∀ (f r : Nat) (m : smM) (x8 : Option smV), (r : Int) + f = S 6 q → kA mem m → m 101 0 = c0 + gcR S q o w r → sI S q (QD S q o w ((r : Int) + 1) 1) m → smWp 7 53 [some (oR 0 101), some (oR 9 2), some (oR 6 95), some (oR 2 98), some (.inl q), some (.inl o), some (.inl w), some (.inl ((r : Int) + 1)), x8] [] m Post := by
    intro w c0 hw hc0 K f
    induction f with
    | zero =>
      intro r m x8 hf km hc hi
      obtain ⟨kC1, sC1⟩ := kmk m km
      have e6 := (kC1.1.2.2.2.2.1 q (by omega) (by omega)).2.1
      refine smAt [44, 53, 68, 9999] 60 rfl ?_
      repeat' first
        | refine And.intro ?_ ?_
        | intro _
      all_goals try omega
      refine K m _ _ km (by rw [show (S 6 q).toNat = r by omega]; exact hc) (sI_cg hi (fun w' r' t' => ?_))
      unfold QD
      refine and_congr_right (fun z => ?_)
      have z1 := z.1
      omega
    | succ f ih =>
      intro r m x8 hf km hc hi
      obtain ⟨kC1, sC1⟩ := kmk m km
      have e6 := (kC1.1.2.2.2.2.1 q (by omega) (by omega)).2.1
      have er : ((r + 1 : Nat) : Int) = (r : Int) + 1 := by omega
      have gi := gcR_in S q o w r
      refine smAt [44, 53, 68, 9999] 60 rfl ?_
      repeat' first
        | refine And.intro ?_ ?_
        | intro _
      all_goals try omega
      have g := inner w (r + 1) (c0 + gcR S q o w r) hw (by omega) (by omega) (by omega) (fun m2 km2 hc2 hi2 => ?_) 5 0 m (by omega) km ?_ ?_
      · rw [er] at g; exact g
      · have g := ih (r + 1) m2 (some (.inl 6)) (by omega) km2 (by rw [hc2, er]; simp only [gcR]; omega) hi2
        exact g
      · rw [hc]; simp only [gcT]; omega
      · rw [er]; exact hi
  have ways : ∀ m x7 x8, kA mem m → m 101 0 = 0 → sI S q (QD S q o 0 1 1) m → smWp 7 44 [some (oR 0 101), some (oR 9 2), some (oR 6 95), some (oR 2 98), some (.inl q), some (.inl o), some (.inl 0), x7, x8] [] m Post := by
    intro m x7 x8 km hc hi
    have g0 := gcR_in S q o 0 (S 6 q).toNat
    refine smAt [44, 53, 9999] 60 rfl ?_
    repeat' first
      | refine And.intro ?_ ?_
      | intro _
    all_goals try omega
    refine middle 0 0 (Or.inl rfl) (by omega) (fun m2 y7 y8 km2 hc2 hi2 => ?_) (S 6 q).toNat 0 m x8 (by omega) km (by rw [hc]; rfl) hi
    refine smAt [44, 53, 9999] 60 rfl ?_
    repeat' first
      | refine And.intro ?_ ?_
      | intro _
    all_goals try omega
    refine middle 1 (gcR S q o 0 (S 6 q).toNat) (Or.inr rfl) (by omega) (fun m3 z7 z8 km3 hc3 hi3 => ?_) (S 6 q).toNat 0 m2 y8 (by omega) km2 ?_ hi2
    · refine smAt [44, 53, 9999] 60 rfl ?_
      repeat' first
        | refine And.intro ?_ ?_
        | intro _
      all_goals try omega
      refine h m3 km3 hc3 (sI_cg hi3 (fun w' r' t' => ?_))
      unfold QD
      constructor
      · exact fun z => z.1
      · intro z
        have z1 := z.1
        exact ⟨z, by omega⟩
    · rw [hc2]; simp only [gcR]; omega
  have first : ∀ (f : Nat) (j : Int) (m : smM), j = 9 - (f : Int) → 0 ≤ j → kA mem m → m 101 0 = 0 → m 101 3 = 1000000 → m 101 4 = 1000000 → (∀ p, 0 ≤ p → p < j → m 102 p = 0) → smWp 7 20 [some (oR 0 101), some (oR 9 2), some (oR 6 95), some (oR 2 98), some (.inl q), some (.inl o), some (.inl j), none, none] [] m Post := by
    intro f
    induction f with
    | zero =>
      intro j m hj h0 km h1 h3 h4 h2
      have none_ : ∀ w r t, ¬ QD S q o 0 1 1 w r t := by
        intro w r t z
        have z1 := z.1.1
        have z2 := z.2
        omega
      refine smAt [20, 44, 9999] 60 rfl ?_
      repeat' first
        | refine And.intro ?_ ?_
        | intro _
      all_goals try omega
      refine ways m _ _ km h1 ⟨Or.inl ⟨h3, none_⟩, Or.inl ⟨h4, none_⟩, fun p x y => ?_⟩
      rw [h2 p x (by omega)]
      refine ⟨by omega, fun G a b => ⟨fun z => by omega, fun ⟨w, r, t, z, _⟩ => absurd z (none_ w r t)⟩⟩
    | succ f ih =>
      intro j m hj h0 km h1 h3 h4 h2
      refine smAt [20, 44, 9999] 60 rfl ?_
      repeat' first
        | refine And.intro ?_ ?_
        | intro _
      all_goals try omega
      refine ih (j + 1) _ (by omega) (by omega) (fun k i x => by rw [smU_ne (by omega)]; exact km k i x) h1 h3 h4 (fun p x y => ?_)
      by_cases d : p = j
      · rw [d, smU_s]
      · rw [smU_d d]; exact h2 p x (by omega)
  refine smGo [20, 9999] 60 rfl ?_
  exact first 9 0 _ (by omega) (by omega) (fun k i x => by rw [smU_ne (by omega), smU_ne (by omega), smU_ne (by omega)]) rfl rfl rfl (fun p x y => by omega)
end
