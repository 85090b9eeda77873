/-! a minute passes: reference -/
def aQ (m : smM) (j : Nat) (x : St) : Prop := m 131 (5 * (j : Int)) = x.1 ∧ m 131 (5 * (j : Int) + 1) = x.2.1 ∧ m 131 (5 * (j : Int) + 2) = x.2.2.1 ∧ m 131 (5 * (j : Int) + 3) = x.2.2.2.1 ∧ m 131 (5 * (j : Int) + 4) = x.2.2.2.2
def lQ (m : smM) (l : List St) : Prop := ∀ (j : Nat) (x : St), l[j]? = some x → aQ m j x
def gB1 (g : St → Bool) (x : St) : Int := if g x = true then 0 else 1
theorem gB1_in (g : St → Bool) (x : St) : (gB1 g x = 0 ∧ g x = true) ∨ (gB1 g x = 1 ∧ g x = false) := by
  unfold gB1
  cases h : g x with
  | true => left; simp
  | false => right; simp
def hitQ (g : St → Bool) (l : List St) (i : Nat) (x : St) (j : Nat) : Prop := sHt x < 1 ∨ ∃ (b : Nat) (y : St), b < j ∧ b ≠ i ∧ l[b]? = some y ∧ g y = true ∧ (y.1 = x.1 ∧ sHt y = sHt x)
theorem hit_fll {g : St → Bool} {l : List St} {i : Nat} {x : St} (gx : l[i]? = some x) (hg : g x = true) : hitQ g l i x l.length ↔ fll (l.filter g) x = true := by
  unfold fll hitQ
  rw [Bool.or_eq_true, decide_eq_true_eq, decide_eq_true_eq, cL_flt, ← cL_2 (fun y => g y && sme x y) l i x gx (by simp only [hg, sme_rf]; rfl)]
  refine or_congr Iff.rfl ⟨?_, ?_⟩
  · rintro ⟨b, y, h1, h2, h3, h4, h5⟩
    refine ⟨b, y, h2, h3, ?_⟩
    simp only [h4, Bool.true_and]
    exact decide_eq_true h5
  · rintro ⟨b, y, h2, h3, h4⟩
    rw [Bool.and_eq_true] at h4
    exact ⟨b, y, ge_lt h3, h2, h3, h4.1, of_decide_eq_true h4.2⟩
section
variable {mem : smM} {Post : Option smV → smM → Prop} {N : Int} {S : sS}
theorem ru_htN (n : Int) (i : Nat) (x : St) (hi : i < 12) (ox : stOK n x) (ha : aQ mem i x) (h : Post (some (.inl (sHt x))) mem) : smRun 132 [oR 11 114, .inl (i : Int)] mem Post := by
  obtain ⟨a1, a2, a3, a4, a5⟩ := ha
  obtain ⟨o1, o2, o3, o4, o5⟩ := ox
  refine ru_heightNow i (by omega) (by omega) (by omega) (by omega) ?_
  rw [a3, a4, a5]
  exact h
set_option maxRecDepth 4000 in
theorem ru_fall (n : Int) (hn : 4 ≤ n ∧ n ≤ 9) (g : St → Bool) (l : List St) (hc : mem 114 22 = (l.length : Int)) (hl : l.length ≤ 12) (hs : ∀ x ∈ l, stOK n x) (ha : lQ mem l) (hg : ∀ (j : Nat) (x : St), l[j]? = some x → mem 132 j = gB1 g x) (h : ∀ m, (∀ p, m 129 p = mem 129 p + cL (fun x => g x && cFp (l.filter g) p x) l) → (∀ (j : Nat) (x : St), l[j]? = some x → m 132 j = gB1 (fun x => !(fll (l.filter g) x) && g x) x) → (∀ k i, k ≠ 129 → k ≠ 132 → m k i = mem k i) → Post none m) : smRun 134 [oR 11 114] mem Post := by
  have inner : ∀ (i : Nat) (x : St) (fa : Int), l[i]? = some x → (∀ hit x5, (hit = 1 ∧ hitQ g l i x l.length ∨ hit = 0 ∧ ¬ hitQ g l i x l.length) → smWp 134 105 [some (oR 11 114), some (.inl fa), some (.inl (i : Int)), some (.inl (sHt x)), some (.inl hit), x5] [] mem Post) → ∀ (f j : Nat) (hit : Int), j + f = l.length → (hit = 1 ∧ hitQ g l i x j ∨ hit = 0 ∧ ¬ hitQ g l i x j) → smWp 134 32 [some (oR 11 114), some (.inl fa), some (.inl (i : Int)), some (.inl (sHt x)), some (.inl hit), some (.inl (j : Int))] [] mem Post := by
    intro i x fa gx K f
    have li := ge_lt gx
    obtain ⟨a1, a2, a3, a4, a5⟩ := ha i x gx
    have ox := hs x (ge_mem gx)
    obtain ⟨o1, o2, o3, o4, o5⟩ := id ox
    have sx := sHt_in ox
    induction f with
    | zero =>
      intro j hit hf hh
      rw [show j = l.length by omega] at hh ⊢
      refine smAt [4, 32, 105, 9999] 60 rfl ?_
      repeat' first
        | refine And.intro ?_ ?_
        | intro _
      all_goals try omega
      exact K hit _ hh
    | succ f ih =>
      intro j hit hf hh
      obtain ⟨w, gw⟩ := ge_s (show j < l.length by omega)
      have aw := ha j w gw
      obtain ⟨b1, b2, b3, b4, b5⟩ := id aw
      have ow := hs w (ge_mem gw)
      obtain ⟨q1, q2, q3, q4, q5⟩ := id ow
      have sw := sHt_in ow
      have gg := hg j w gw
      have g2 := gB1_in g w
      have ej : ((j + 1 : Nat) : Int) = (j : Int) + 1 := by omega
      have e1 : hitQ g l i x (j + 1) ↔ hitQ g l i x j ∨ (j ≠ i ∧ g w = true ∧ w.1 = x.1 ∧ sHt w = sHt x) := by
        unfold hitQ
        constructor
        · rintro (z | ⟨b, y, c1, c2, c3, c4, c5⟩)
          · exact Or.inl (Or.inl z)
          · by_cases d : b = j
            · subst d
              rw [gw] at c3; cases c3
              exact Or.inr ⟨c2, c4, c5⟩
            · exact Or.inl (Or.inr ⟨b, y, by omega, c2, c3, c4, c5⟩)
        · rintro ((z | ⟨b, y, c1, c2, c3, c4, c5⟩) | ⟨c2, c4, c5⟩)
          · exact Or.inl z
          · exact Or.inr ⟨b, y, by omega, c2, c3, c4, c5⟩
          · exact Or.inr ⟨j, w, by omega, c2, gw, c4, c5⟩
      rcases hh with ⟨e, hq⟩ | ⟨e, hq⟩
      · subst e
        refine smAt [32, 9999] 60 rfl ?_
        repeat' first
          | refine And.intro ?_ ?_
          | intro _
        all_goals try omega
        have gd := ih (j + 1) 1 (by omega) (Or.inl ⟨rfl, e1.mpr (Or.inl hq)⟩)
        rw [ej] at gd; exact gd
      · subst e
        have no : ¬ (j ≠ i ∧ g w = true ∧ w.1 = x.1 ∧ sHt w = sHt x) → smWp 134 96 [some (oR 11 114), some (.inl fa), some (.inl (i : Int)), some (.inl (sHt x)), some (.inl 0), some (.inl (j : Int))] [] mem Post := by
          intro c
          refine smAt [32, 9999] 60 rfl ?_
          have gd := ih (j + 1) 0 (by omega) (Or.inr ⟨rfl, fun z => (e1.mp z).elim hq c⟩)
          rw [ej] at gd; exact gd
        refine smAt [32, 82, 96, 9999] 60 rfl ?_
        repeat' first
          | refine And.intro ?_ ?_
          | intro _
        all_goals try omega
        · exact no (fun c => c.1 (by omega))
        · exact no (fun c => by have := c.2.1; rcases g2 with z | z; omega; (rw [z.2] at this; cases this))
        · exact no (fun c => by have := c.2.2.1; omega)
        · have gt : g w = true := by
            rcases g2 with z | z
            · exact z.2
            · omega
          refine smAt [32, 88, 96, 9999] 60 rfl ?_
          refine ru_htN n j w (by omega) ow aw ?_
          refine smAt [32, 96, 9999] 60 rfl ?_
          repeat' first
            | refine And.intro ?_ ?_
            | intro _
          all_goals try omega
          · exact no (fun c => by have := c.2.2.2; omega)
          · have gd := ih (j + 1) 1 (by omega) (Or.inl ⟨rfl, e1.mpr (Or.inr ⟨by omega, gt, by omega, by omega⟩)⟩)
            rw [ej] at gd; exact gd
  have second : ∀ (fa : Int), (0 ≤ fa ∧ fa < 4096) → (∀ (k : Nat) (y : St), l[k]? = some y → (bB fa k ↔ g y = true ∧ fll (l.filter g) y = true)) → ∀ (f i : Nat) (m : smM) (x3 x4 x5 : Option smV), i + f = l.length → (∀ p, m 129 p = mem 129 p + cL (fun x => g x && cFp (l.filter g) p x) (l.take i)) → (∀ (j : Nat) (x : St), j < i → l[j]? = some x → m 132 j = gB1 (fun x => !(fll (l.filter g) x) && g x) x) → (∀ (j : Nat), i ≤ j → m 132 j = mem 132 j) → (∀ k i, k ≠ 129 → k ≠ 132 → m k i = mem k i) → smWp 134 137 [some (oR 11 114), some (.inl fa), some (.inl (i : Int)), x3, x4, x5] [] m Post := by
    intro fa hfa hfb f
    induction f with
    | zero =>
      intro i m x3 x4 x5 hf h1 h2 h3 hx
      have e : l.take i = l := List.take_of_length_le (by omega)
      rw [e] at h1
      have e22 : m 114 22 = (l.length : Int) := by rw [hx 114 22 (by decide) (by decide)]; exact hc
      refine smAt [137, 9999] 60 rfl ?_
      repeat' first
        | refine And.intro ?_ ?_
        | intro _
      all_goals try omega
      exact h m h1 (fun j x gx => h2 j x (by have := ge_lt gx; omega) gx) hx
    | succ f ih =>
      intro i m x3 x4 x5 hf h1 h2 h3 hx
      obtain ⟨x, gx⟩ := ge_s (show i < l.length by omega)
      obtain ⟨a1, a2, a3, a4, a5⟩ := ha i x gx
      have ox := hs x (ge_mem gx)
      obtain ⟨o1, o2, o3, o4, o5⟩ := id ox
      have e22 : m 114 22 = (l.length : Int) := by rw [hx 114 22 (by decide) (by decide)]; exact hc
      have ei : ((i + 1 : Nat) : Int) = (i : Int) + 1 := by omega
      have hbx := hfb i x gx
      have a1' : m 131 (5 * (i : Int)) = x.1 := by rw [hx 131 _ (by decide) (by decide)]; exact a1
      refine smAt [137, 9999] 60 rfl ?_
      repeat' first
        | refine And.intro ?_ ?_
        | intro _
        | (show smRun _ _ _ _; first | with_reducible refine ru_has _ _ (fun w1 => ?_) (fun w1 => ?_))
      all_goals try omega
      · have hw := hbx.mp w1
        rw [a1']
        have gd := ih (i + 1) (smU (smU m 129 x.1 (m 129 x.1 + 1)) 132 i 1) x3 x4 x5 (by omega) (fun p => ?_) (fun j y hj gy => ?_) (fun j hj => by rw [smU_o (by omega), smU_o (by omega)]; exact h3 j (by omega)) (fun k q z1 z2 => by rw [smU_ne z2, smU_ne z1]; exact hx k q z1 z2)
        · rw [ei] at gd; exact gd
        · rw [smU_ne (by decide), cL_tk _ gx]
          by_cases d : p = x.1
          · rw [if_pos (by unfold cFp; rw [hw.1, hw.2, decide_eq_true d.symm]; rfl), d, smU_s, h1]
            omega
          · rw [if_neg (by unfold cFp; rw [decide_eq_false (fun e => d e.symm)]; simp), smU_d d, h1]
            omega
        · by_cases d : j = i
          · subst d
            rw [gx] at gy; cases gy
            rw [smU_s]
            unfold gB1
            rw [if_neg (by simp [hw.2])]
          · rw [smU_o (by omega), smU_o (by omega)]
            exact h2 j y (by omega) gy
      · have gd := ih (i + 1) m x3 x4 x5 (by omega) (fun p => ?_) (fun j y hj gy => ?_) (fun j hj => h3 j (by omega)) hx
        · rw [ei] at gd; exact gd
        · rw [cL_tk _ gx, if_neg (fun z => w1 (hbx.mpr ?_)), h1]
          · omega
          · unfold cFp at z
            rw [Bool.and_eq_true, Bool.and_eq_true] at z
            exact ⟨z.1, z.2.1⟩
        · by_cases d : j = i
          · subst d
            rw [gx] at gy; cases gy
            rw [h3 j (Nat.le_refl _), hg j x gx]
            unfold gB1
            by_cases c : g x = true
            · have nf : fll (l.filter g) x = false := by
                cases c2 : fll (l.filter g) x with
                | false => rfl
                | true => exact absurd (hbx.mpr ⟨c, c2⟩) w1
              rw [if_pos c, if_pos (by simp [nf, c])]
            · rw [if_neg c, if_neg (by rw [Bool.and_eq_true]; exact fun z => c z.2)]
          · exact h2 j y (by omega) gy
  have first : ∀ (f i : Nat) (fa : Int) (x3 x4 x5 : Option smV), i + f = l.length → (0 ≤ fa ∧ fa < 4096) → (∀ (k : Nat) (y : St), l[k]? = some y → (bB fa k ↔ k < i ∧ g y = true ∧ fll (l.filter g) y = true)) → smWp 134 4 [some (oR 11 114), some (.inl fa), some (.inl (i : Int)), x3, x4, x5] [] mem Post := by
    intro f
    induction f with
    | zero =>
      intro i fa x3 x4 x5 hf hfa hfb
      refine smAt [4, 137, 9999] 60 rfl ?_
      repeat' first
        | refine And.intro ?_ ?_
        | intro _
      all_goals try omega
      exact second fa hfa (fun k y gy => by rw [hfb k y gy]; have := ge_lt gy; exact ⟨fun z => z.2, fun z => ⟨by omega, z⟩⟩) l.length 0 mem _ _ _ (by omega) (fun p => by simp [cL]) (fun j x hj => by omega) (fun _ _ => rfl) (fun _ _ _ _ => rfl)
    | succ f ih =>
      intro i fa x3 x4 x5 hf hfa hfb
      obtain ⟨x, gx⟩ := ge_s (show i < l.length by omega)
      have ax := ha i x gx
      have ox := hs x (ge_mem gx)
      have sx := sHt_in ox
      have gg := hg i x gx
      have g2 := gB1_in g x
      have ei : ((i + 1 : Nat) : Int) = (i : Int) + 1 := by omega
      have r1 := or_12 hfa (show i < 12 by omega)
      have go : ∀ hit x5, (hit = 1 ∧ hitQ g l i x l.length ∨ hit = 0 ∧ ¬ hitQ g l i x l.length) → smWp 134 105 [some (oR 11 114), some (.inl fa), some (.inl (i : Int)), some (.inl (sHt x)), some (.inl hit), x5] [] mem Post := by
        intro hit y5 hh
        have hb2 : hit = 0 ∨ hit = 1 := by rcases hh with z | z <;> omega
        have no : ¬ (g x = true ∧ fll (l.filter g) x = true) → smWp 134 4 [some (oR 11 114), some (.inl fa), some (.inl ((i : Int) + 1)), some (.inl (sHt x)), some (.inl hit), y5] [] mem Post := by
          intro c
          have gd := ih (i + 1) fa (some (.inl (sHt x))) (some (.inl hit)) y5 (by omega) hfa (fun k y gy => ?_)
          · rw [ei] at gd; exact gd
          · rw [hfb k y gy]
            refine ⟨fun z => ⟨by omega, z.2⟩, fun z => ⟨?_, z.2⟩⟩
            by_cases d : k = i
            · subst d
              rw [gx] at gy; cases gy
              exact absurd z.2 c
            · omega
        have no2 := no
        rw [← or_0N hfa] at no2
        refine smAt [4, 9999] 60 rfl ?_
        repeat' first
          | refine And.intro ?_ ?_
          | intro _
        all_goals try omega
        · refine no2 (fun c => ?_)
          rcases g2 with z | z
          · omega
          · rw [z.2] at c; cases c.1
        · refine no2 (fun c => ?_)
          rcases hh with z | z
          · omega
          · exact z.2 ((hit_fll gx c.1).mpr c.2)
        · have gt : g x = true := by
            rcases g2 with z | z
            · exact z.2
            · omega
          have ff : fll (l.filter g) x = true := by
            rcases hh with z | z
            · exact (hit_fll gx gt).mp z.2
            · omega
          have gd := ih (i + 1) (smOr fa (smShl 1 i)) (some (.inl (sHt x))) (some (.inl hit)) y5 (by omega) r1.1 (fun k y gy => ?_)
          · rw [ei] at gd; exact gd
          · have lk := ge_lt gy
            rw [r1.2 k (by omega), hfb k y gy]
            constructor
            · rintro (z | z)
              · exact ⟨by omega, z.2⟩
              · subst z
                rw [gx] at gy; cases gy
                exact ⟨by omega, gt, ff⟩
            · intro z
              by_cases d : k = i
              · exact Or.inr d
              · exact Or.inl ⟨by omega, z.2⟩
      refine smAt [4, 17, 32, 9999] 60 rfl ?_
      repeat' first
        | refine And.intro ?_ ?_
        | intro _
      all_goals try omega
      refine ru_htN n i x (by omega) ox ax ?_
      refine smAt [4, 32, 9999] 60 rfl ?_
      have i0 : ∀ P : Prop, (hitQ g l i x 0 ↔ sHt x < 1) → True := fun _ _ => trivial
      have h0 : hitQ g l i x 0 ↔ sHt x < 1 := by
        unfold hitQ
        constructor
        · rintro (z | ⟨b, y, c1, _⟩)
          · exact z
          · omega
        · exact Or.inl
      repeat' first
        | refine And.intro ?_ ?_
        | intro _
      all_goals try omega
      · exact inner i x fa gx go l.length 0 0 (by omega) (Or.inr ⟨rfl, fun z => by have := h0.mp z; omega⟩)
      · exact inner i x fa gx go l.length 0 1 (by omega) (Or.inl ⟨rfl, h0.mpr (by omega)⟩)
  refine smGo [4, 9999] 60 rfl ?_
  exact first l.length 0 0 _ _ _ (by omega) (by omega) (fun k y gy => ⟨fun z => absurd z (bB_012 k (by have := ge_lt gy; omega)), fun z => by omega⟩)
end
