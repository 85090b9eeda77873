/-! gets and keptOff, reference -/
theorem flT_eq {hd : Int → Int} {cb : Int → Bool} {n p w r t : Int} {k : Nat} (hr : 1 ≤ r ∧ r ≤ 36) (h1 : 1 ≤ k) (he : fEn hd cb n p w r t k) (hn : ∀ j : Nat, 1 ≤ j → j < k → ¬ fEn hd cb n p w r t j) : flT hd cb n p w r t = k := by
  have a1 := flN_end hd cb n p w r t 36 0 (by omega) (by omega)
  have a2 := flN_not hd cb n p w r t 36 0
  have a3 := flT_1 hd cb n p w r t
  change fEn hd cb n p w r t (flT hd cb n p w r t) at a1
  change ∀ j, 0 < j → j < flT hd cb n p w r t → ¬ fEn hd cb n p w r t j at a2
  rcases Nat.lt_trichotomy (flT hd cb n p w r t) k with z | z | z
  · exact absurd a1 (hn _ a3 z)
  · exact z
  · exact absurd he (a2 k (by omega) z)
theorem flT_sp (hd : Int → Int) (cb : Int → Bool) (n p w r t : Int) (hr : 1 ≤ r ∧ r ≤ 36) : 1 ≤ flT hd cb n p w r t ∧ fEn hd cb n p w r t (flT hd cb n p w r t) ∧ ∀ j : Nat, 1 ≤ j → j < flT hd cb n p w r t → ¬ fEn hd cb n p w r t j := by
  have a1 := flN_end hd cb n p w r t 36 0 (by omega) (by omega)
  have a2 := flN_not hd cb n p w r t 36 0
  exact ⟨flT_1 hd cb n p w r t, a1, fun j x y => a2 j (by omega) y⟩
theorem hdG_lt {hd : Int → Int} {g G x q : Int} : x < hdG hd g G q ↔ (x < hd q ∨ (q = g ∧ x < G)) := by
  unfold hdG
  split <;> omega
def cgG (S : sS) (q o g G w r t : Int) : Prop := flH (hdG (S 1) g G) (cP S) (S 0 0) (S 5 q) w r t (flT (hdG (S 1) g G) (cP S) (S 0 0) (S 5 q) w r t) = 2 ∧ wh S (fPos (S 5 q) w (S 0 0) (flT (hdG (S 1) g G) (cP S) (S 0 0) (S 5 q) w r t)) = o
theorem flH_2 {hd : Int → Int} {cb : Int → Bool} {n p w r t : Int} {k : Nat} : flH hd cb n p w r t k = 2 ↔ (¬ fH k r t < hd (fPos p w n k) ∧ (fH k r t = 1 ∨ fH k r t = 2) ∧ cb (fPos p w n k) = true) := by
  unfold flH
  constructor
  · intro h
    split at h
    · omega
    · next h1 =>
      split at h
      · next h2 => exact ⟨h1, h2⟩
      · omega
  · rintro ⟨h1, h2⟩
    rw [if_neg h1, if_pos h2]
theorem cgG_iff {S : sS} {q o g G w r t : Int} (hr : 1 ≤ r ∧ r ≤ 36) : cgG S q o g G w r t ↔ (cgt S q o w r t ∧ kpH S q g G w r t) := by
  have s1 := flT_sp (hdG (S 1) g G) (cP S) (S 0 0) (S 5 q) w r t hr
  have s2 := flT_sp (S 1) (cP S) (S 0 0) (S 5 q) w r t hr
  have en : ∀ k : Nat, fEn (hdG (S 1) g G) (cP S) (S 0 0) (S 5 q) w r t k ↔ (fEn (S 1) (cP S) (S 0 0) (S 5 q) w r t k ∨ (fPos (S 5 q) w (S 0 0) k = g ∧ fH k r t < G)) := by
    intro k
    unfold fEn
    rw [hdG_lt]
    constructor
    · rintro ((z | z) | z | z)
      · exact Or.inl (Or.inl z)
      · exact Or.inr z
      · exact Or.inl (Or.inr (Or.inl z))
      · exact Or.inl (Or.inr (Or.inr z))
    · rintro ((z | z | z) | z)
      · exact Or.inl (Or.inl z)
      · exact Or.inr (Or.inl z)
      · exact Or.inr (Or.inr z)
      · exact Or.inl (Or.inr z)
  constructor
  · rintro ⟨h1, h2⟩
    have h3 := flH_2.mp h1
    have e : gT S (S 5 q) w r t = flT (hdG (S 1) g G) (cP S) (S 0 0) (S 5 q) w r t := flT_eq hr s1.1 (Or.inr (Or.inl h3.2)) (fun j x y z => s1.2.2 j x y ((en j).mpr (Or.inl z)))
    rw [← e] at h1 h2 h3 s1
    have n1 : ¬ fH (gT S (S 5 q) w r t) r t < S 1 (fPos (S 5 q) w (S 0 0) (gT S (S 5 q) w r t)) := fun z => h3.1 (hdG_lt.mpr (Or.inl z))
    have g2 : gH S (S 5 q) w r t = 2 := flH_2.mpr ⟨n1, h3.2⟩
    refine ⟨⟨g2, ?_⟩, fun k a b c => ?_⟩
    · unfold gB
      rw [if_pos g2]
      exact h2
    · by_cases d : k = gT S (S 5 q) w r t
      · rw [← d] at h3
        exact Int.not_lt.mp (fun z => h3.1 (hdG_lt.mpr (Or.inr ⟨c, z⟩)))
      · exact Int.not_lt.mp (fun z => s1.2.2 k a (by omega) ((en k).mpr (Or.inr ⟨c, z⟩)))
  · rintro ⟨⟨h1, h2⟩, h3⟩
    have h4 := flH_2.mp h1
    have e : flT (hdG (S 1) g G) (cP S) (S 0 0) (S 5 q) w r t = gT S (S 5 q) w r t := by
      refine flT_eq hr s2.1 ((en _).mpr (Or.inl s2.2.1)) (fun j x y z => ?_)
      rcases (en j).mp z with c | c
      · exact s2.2.2 j x y c
      · have := h3 j x (by omega) c.1
        omega
    unfold cgG
    rw [e]
    unfold gB at h2
    rw [if_pos h1] at h2
    refine ⟨flH_2.mpr ⟨?_, h4.2⟩, h2⟩
    rw [hdG_lt]
    rintro (z | z)
    · exact h4.1 z
    · exact absurd z.2 (Int.not_lt.mpr (h3 _ s2.1 (Nat.le_refl _) z.1))
def QR (S : sS) (q o r0 c0 : Int) : Int → Int → Int → Prop := fun w r t => gp S q o w r t ∧ (r < r0 ∨ (r = r0 ∧ 5 * w + (t - 1) < c0))
def fA (S : sS) (q w r t : Int) : Int := (((gT S (S 5 q) w r t : Int) * 10 + t) * 40 + r) * 2 + w
def fB (S : sS) (q w r t : Int) : Int := ((t * 40 + (gT S (S 5 q) w r t : Int)) * 40 + r) * 2 + w
noncomputable def gcC (S : sS) (q o r : Int) : Nat → Int
  | 0 => 0
  | n + 1 => gcC S q o r n + cI (cgt S q o ((n : Int).tdiv 5) r ((n : Int).tmod 5 + 1))
theorem gcC_in (S : sS) (q o r : Int) : ∀ n : Nat, 0 ≤ gcC S q o r n ∧ gcC S q o r n ≤ n
  | 0 => ⟨Int.le_refl 0, Int.le_refl 0⟩
  | n + 1 => by
    have := gcC_in S q o r n
    have := cI_in (cgt S q o ((n : Int).tdiv 5) r ((n : Int).tmod 5 + 1))
    simp only [gcC]
    omega
theorem gcC_10 (S : sS) (q o r : Int) : gcC S q o r 10 = gcT S q o 0 r 5 + gcT S q o 1 r 5 := by
  have d : ∀ c : Nat, c < 10 → (c : Int).tdiv 5 = (if c < 5 then 0 else 1) ∧ (c : Int).tmod 5 + 1 = (if c < 5 then (c : Int) + 1 else (c : Int) - 4) := by decide
  simp only [gcC, gcT]
  rw [(d 0 (by decide)).1, (d 0 (by decide)).2, (d 1 (by decide)).1, (d 1 (by decide)).2, (d 2 (by decide)).1, (d 2 (by decide)).2, (d 3 (by decide)).1, (d 3 (by decide)).2, (d 4 (by decide)).1, (d 4 (by decide)).2, (d 5 (by decide)).1, (d 5 (by decide)).2, (d 6 (by decide)).1, (d 6 (by decide)).2, (d 7 (by decide)).1, (d 7 (by decide)).2, (d 8 (by decide)).1, (d 8 (by decide)).2, (d 9 (by decide)).1, (d 9 (by decide)).2]
  simp
  omega
theorem cdT : ∀ c : Int, 0 ≤ c → c < (10 : Nat) → (0 ≤ c.tdiv 5 ∧ c.tdiv 5 ≤ 1) ∧ (0 ≤ c.tmod 5 ∧ c.tmod 5 ≤ 4) ∧ 5 * c.tdiv 5 + c.tmod 5 = c := fin1 10 (by decide)
section
variable {mem : smM} {Post : Option smV → smM → Prop} {N : Int} {S : sS}
set_option maxRecDepth 4000 in
theorem pR_gets (q o k : Int) (hq : smIR q) (ho1 : smIR o) (hkk : smIR k) (hk : rC mem S) (ho : ok N S) (h0 : ¬ twoT S q o → Post (some (.inl (-1))) mem) (h1 : twoT S q o → ¬ (0 ≤ k ∧ k ≤ 4) → Post (some (.inl (-2))) mem) (h2 : twoT S q o → 0 ≤ k ∧ k ≤ 4 → ∀ x m', gtA S q o k x → keepR mem m' → Post (some (.inl x)) m') : smRun 152 [oR 11 114, .inl q, .inl o, .inl k] mem Post := by
  obtain ⟨⟨kP, kT, kN, kp, kq, ki⟩, ⟨kB, kb⟩, ⟨kS, ks⟩⟩ := id hk
  have h2' := h2
  unfold twoT at h0 h1
  rw [← kT] at h0 h1
  refine smGo [44, 9999] 60 rfl ?_
  repeat' first
    | refine And.intro ?_ ?_
    | intro _
    | (show smRun _ _ _ _; first | with_reducible refine ru_isThere _ hq ?_ ?_ | with_reducible refine ru_isThere _ ho1 ?_ ?_ | with_reducible refine ru_in _ _ _ hkk ?_ ?_ ?_ ?_)
    | (show Post _ _; first | exact h0 (by omega) | exact h1 (by omega) (by omega))
  all_goals try omega
  have tw : twoT S q o := ⟨⟨by omega, by omega, by rw [← kT]; assumption⟩, ⟨by omega, by omega, by rw [← kT]; assumption⟩⟩
  have hk4 : 0 ≤ k ∧ k ≤ 4 := by omega
  clear h0 h1
  have o5 := ho.2.1.2.2.2.2.1 q (by omega) (by omega)
  have a36 := o5.2.1
  have bA : ∀ w r t, gp S q o w r t → (0 ≤ fA S q w r t ∧ fA S q w r t < 1000000) ∧ (0 ≤ fB S q w r t ∧ fB S q w r t < 1000000) := by
    intro w r t z
    have g := gT_in (S := S) (p := S 5 q) (w := w) (r := r) (t := t)
    have z1 := z.1
    unfold fA fB
    omega
  have inner : ∀ (r : Nat) (c0 : Int), 1 ≤ r → (r : Int) ≤ S 6 q → (0 ≤ c0 ∧ c0 ≤ 1000) → (∀ m so sf x9 x10 x11 x12, keepF mem m → mnR (QR S q o ((r : Int) + 1) 0) (fA S q) 1000000 so → mnR (QR S q o ((r : Int) + 1) 0) (fB S q) 1000000 sf → smWp 152 44 [some (oR 11 114), some (.inl q), some (.inl o), some (.inl k), some (.inl (c0 + gcC S q o r 10)), some (.inl so), some (.inl sf), some (.inl ((r : Int) + 1)), some (.inl 10), x9, x10, x11, x12] [] m Post) → ∀ (f c : Nat) (m : smM) (so sf : Int) (x9 x10 x11 x12 : Option smV), c + f = 10 → keepF mem m → mnR (QR S q o r c) (fA S q) 1000000 so → mnR (QR S q o r c) (fB S q) 1000000 sf → smWp 152 58 [some (oR 11 114), some (.inl q), some (.inl o), some (.inl k), some (.inl (c0 + gcC S q o r c)), some (.inl so), some (.inl sf), some (.inl (r : Int)), some (.inl (c : Int)), x9, x10, x11, x12] [] m Post := by
    intro r c0 r1 r2 hc0 K f
    induction f with
    | zero =>
      intro c m so sf x9 x10 x11 x12 hf km hA hB
      have e : c = 10 := by omega
      subst e
      have cg : ∀ w' r' t', QR S q o r ((10 : Nat) : Int) w' r' t' ↔ QR S q o ((r : Int) + 1) 0 w' r' t' := by
        intro w' r' t'
        unfold QR
        refine and_congr_right (fun z => ?_)
        have z1 := z.1
        omega
      refine smAt [44, 58, 9999] 60 rfl ?_
      repeat' first
        | refine And.intro ?_ ?_
        | intro _
      all_goals try omega
      exact K m so sf _ _ _ _ km (mnR_cg hA cg) (mnR_cg hB cg)
    | succ f ih =>
      intro c m so sf x9 x10 x11 x12 hf km hA hB
      have rC1 := rC_keep (keepF_keep km) hk
      have ec : ((c + 1 : Nat) : Int) = (c : Int) + 1 := by omega
      have cc := cdT c (by omega) (by omega)
      have j3 := mnR_in hA (by omega) (fun w' r' t' z => (bA w' r' t' z.1).1)
      have j4 := mnR_in hB (by omega) (fun w' r' t' z => (bA w' r' t' z.1).2)
      have gi := gcC_in S q o r c
      refine smAt [44, 58, 90, 9999] 60 rfl ?_
      repeat' first
        | refine And.intro ?_ ?_
        | intro _
      all_goals try omega
      refine ru_flyFrom q _ _ _ rC1.1 ho.2.1 ho.1.2 tw.1 ⟨by omega, by omega, by omega⟩ (fun m2 f1 k1 => ?_)
      have km2 : keepF mem m2 := fun k i z => (k1 k i z).trans (km k i z)
      obtain ⟨b0, b1, b2, b3⟩ := flR_bnd f1
      have iT := gT_in (S := S) (p := S 5 q) (w := (c : Int).tdiv 5) (r := r) (t := (c : Int).tmod 5 + 1)
      have iH := flH_in (S 1) (cP S) (S 0 0) (S 5 q) ((c : Int).tdiv 5) r ((c : Int).tmod 5 + 1) (gT S (S 5 q) ((c : Int).tdiv 5) r ((c : Int).tmod 5 + 1))
      have iB := gB_in S (S 5 q) ((c : Int).tdiv 5) r ((c : Int).tmod 5 + 1)
      have i0 : 0 ≤ m2 114 28 ∧ m2 114 28 ≤ 2 := by rw [b0]; exact iH
      have i3 : -6 ≤ m2 114 31 ∧ m2 114 31 < 5 := by rw [b3]; exact iB
      have i1 : 0 ≤ m2 114 29 ∧ m2 114 29 ≤ 36 := by rw [b1]; omega
      have no : ¬ cgt S q o ((c : Int).tdiv 5) r ((c : Int).tmod 5 + 1) → ∀ y9 y10, smWp 152 187 [some (oR 11 114), some (.inl q), some (.inl o), some (.inl k), some (.inl (c0 + gcC S q o r c)), some (.inl so), some (.inl sf), some (.inl (r : Int)), some (.inl (c : Int)), y9, y10, x11, x12] [] m2 Post := by
        intro z y9 y10
        have cg : ∀ w' r' t', QR S q o r c w' r' t' ↔ QR S q o r ((c : Int) + 1) w' r' t' := by
          intro w' r' t'
          unfold QR
          refine and_congr_right (fun u => ?_)
          have u1 := u.1
          by_cases d : r' = r ∧ 5 * w' + (t' - 1) = c
          · exfalso
            have e1 : w' = (c : Int).tdiv 5 := by omega
            have e2 : t' = (c : Int).tmod 5 + 1 := by omega
            have u2 := u.2
            rw [e1, e2, d.1] at u2
            exact z u2
          · omega
        refine smAt [58, 9999] 60 rfl ?_
        have g := ih (c + 1) m2 so sf y9 y10 x11 x12 (by omega) km2 (by rw [ec]; exact mnR_cg hA cg) (by rw [ec]; exact mnR_cg hB cg)
        simp only [gcC] at g
        rw [ec, cI_0 z, Int.add_zero] at g
        exact g
      have eqA : ((m2 114 29 * 10 + ((c : Int).tmod 5 + 1)) * 40 + r) * 2 + (c : Int).tdiv 5 = fA S q ((c : Int).tdiv 5) r ((c : Int).tmod 5 + 1) := by unfold fA; rw [b1]
      have eqB : ((((c : Int).tmod 5 + 1) * 40 + m2 114 29) * 40 + r) * 2 + (c : Int).tdiv 5 = fB S q ((c : Int).tdiv 5) r ((c : Int).tmod 5 + 1) := by unfold fB; rw [b1]
      have yes : cgt S q o ((c : Int).tdiv 5) r ((c : Int).tmod 5 + 1) → ∀ so2 sf2 y9 y10 y11 y12, so2 = (if fA S q ((c : Int).tdiv 5) r ((c : Int).tmod 5 + 1) < so then fA S q ((c : Int).tdiv 5) r ((c : Int).tmod 5 + 1) else so) → sf2 = (if fB S q ((c : Int).tdiv 5) r ((c : Int).tmod 5 + 1) < sf then fB S q ((c : Int).tdiv 5) r ((c : Int).tmod 5 + 1) else sf) → smWp 152 58 [some (oR 11 114), some (.inl q), some (.inl o), some (.inl k), some (.inl (c0 + gcC S q o r c + 1)), some (.inl so2), some (.inl sf2), some (.inl (r : Int)), some (.inl ((c : Int) + 1)), y9, y10, y11, y12] [] m2 Post := by
        intro z so2 sf2 y9 y10 y11 y12 e1 e2
        have gpx : gp S q o ((c : Int).tdiv 5) r ((c : Int).tmod 5 + 1) := ⟨⟨by omega, by omega, by omega⟩, z⟩
        have cg : ∀ w' r' t', (QR S q o r c w' r' t' ∨ (w' = (c : Int).tdiv 5 ∧ r' = r ∧ t' = (c : Int).tmod 5 + 1)) ↔ QR S q o r ((c : Int) + 1) w' r' t' := by
          intro w' r' t'
          unfold QR
          constructor
          · rintro (⟨u1, u2⟩ | ⟨u1, u2, u3⟩)
            · exact ⟨u1, by omega⟩
            · subst u1; subst u2; subst u3
              exact ⟨gpx, by omega⟩
          · rintro ⟨u1, u2⟩
            have u3 := u1.1
            by_cases d : r' = r ∧ 5 * w' + (t' - 1) = c
            · exact Or.inr ⟨by omega, d.1, by omega⟩
            · exact Or.inl ⟨u1, by omega⟩
        have hb := bA _ _ _ gpx
        have hA2 := mnR_cg (mnR_add hA hb.1.2) cg
        have hB2 := mnR_cg (mnR_add hB hb.2.2) cg
        rw [← e1] at hA2
        rw [← e2] at hB2
        have g := ih (c + 1) m2 so2 sf2 y9 y10 y11 y12 (by omega) km2 (by rw [ec]; exact hA2) (by rw [ec]; exact hB2)
        simp only [gcC] at g
        rw [ec, cI_1 z, ← Int.add_assoc] at g
        exact g
      refine smAt [58, 187, 152, 9999] 60 rfl ?_
      repeat' first
        | refine And.intro ?_ ?_
        | intro _
      all_goals try omega
      · exact no (fun z => by have := z.1; omega) _ _
      · exact no (fun z => by have := z.2; omega) _ _
      · have z : cgt S q o ((c : Int).tdiv 5) r ((c : Int).tmod 5 + 1) := ⟨by omega, by omega⟩
        refine smAt [58, 9999] 60 rfl ?_
        repeat' first
          | refine And.intro ?_ ?_
          | intro _
        all_goals try omega
        · exact yes z _ _ _ _ _ _ (by rw [if_neg (by omega)]) (by rw [if_neg (by omega)])
        · exact yes z _ _ _ _ _ _ (by rw [if_neg (by omega)]) (by rw [if_pos (by omega)]; exact eqB)
        · exact yes z _ _ _ _ _ _ (by rw [if_pos (by omega)]; exact eqA) (by rw [if_neg (by omega)])
        · exact yes z _ _ _ _ _ _ (by rw [if_pos (by omega)]; exact eqA) (by rw [if_pos (by omega)]; exact eqB)
  have last : ∀ (m : smM) (so sf : Int) (x7 x8 x9 x10 x11 x12 : Option smV), keepF mem m → mnR (gp S q o) (fA S q) 1000000 so → mnR (gp S q o) (fB S q) 1000000 sf → smWp 152 199 [some (oR 11 114), some (.inl q), some (.inl o), some (.inl k), some (.inl (gcR S q o 0 (S 6 q).toNat + gcR S q o 1 (S 6 q).toNat)), some (.inl so), some (.inl sf), x7, x8, x9, x10, x11, x12] [] m Post := by
    intro m so sf x7 x8 x9 x10 x11 x12 km hA hB
    have h3 := fun x hx => h2' tw hk4 x m hx (keepF_keep km)
    have g0 := gcR_in S q o 0 (S 6 q).toNat
    have g1 := gcR_in S q o 1 (S 6 q).toNat
    have z0 := gcR_0 S q o 0 (S 6 q).toNat
    have z1 := gcR_0 S q o 1 (S 6 q).toNat
    have cz : gcR S q o 0 (S 6 q).toNat + gcR S q o 1 (S 6 q).toNat = 0 ↔ ∀ w r t, ¬ gp S q o w r t := by
      constructor
      · intro c w r t z
        have zz := z.1
        rcases (show w = 0 ∨ w = 1 by omega) with e | e
        · subst e
          exact z0.mp (by omega) r t (by omega) (by omega) (by omega) (by omega) z.2
        · subst e
          exact z1.mp (by omega) r t (by omega) (by omega) (by omega) (by omega) z.2
      · intro c
        rw [z0.mpr (fun r t a b d e z => c 0 r t ⟨⟨by omega, by omega, by omega⟩, z⟩), z1.mpr (fun r t a b d e z => c 1 r t ⟨⟨by omega, by omega, by omega⟩, z⟩)]
        rfl
    by_cases c0 : k = 0
    · subst c0
      refine smAt [220, 9999] 60 rfl ?_
      repeat' first
        | refine And.intro ?_ ?_
        | intro _
      all_goals try omega
      exact h3 _ (Or.inl ⟨rfl, rfl⟩)
    by_cases cn : gcR S q o 0 (S 6 q).toNat + gcR S q o 1 (S 6 q).toNat = 0
    · refine smAt [220, 9999] 60 rfl ?_
      repeat' first
        | refine And.intro ?_ ?_
        | intro _
      all_goals try omega
      exact h3 _ (Or.inr (Or.inl ⟨by omega, cz.mp cn, rfl⟩))
    have ex : ¬ ∀ w r t, ¬ gp S q o w r t := fun z => cn (cz.mpr z)
    rcases hA with ⟨_, hA⟩ | ⟨w, r, t, a1, a2, a3⟩
    · exact absurd hA ex
    rcases hB with ⟨_, hB⟩ | ⟨w', r', t', b1, b2, b3⟩
    · exact absurd hB ex
    have gi := gT_in (S := S) (p := S 5 q) (w := w) (r := r) (t := t)
    have gj := gT_in (S := S) (p := S 5 q) (w := w') (r := r') (t := t')
    have ra := a1.1
    have rb := b1.1
    have loa : ∀ x y z, gp S q o x y z → loA S q w r t x y z := by
      intro x y z u
      have l := a3 x y z u
      have ux := u.1
      rw [a2] at l
      unfold fA at l
      unfold loA
      omega
    have lob : ∀ x y z, gp S q o x y z → loB S q w' r' t' x y z := by
      intro x y z u
      have l := b3 x y z u
      have ux := u.1
      have gk := gT_in (S := S) (p := S 5 q) (w := x) (r := y) (t := z)
      rw [b2] at l
      unfold fB at l
      unfold loB
      omega
    unfold fA at a2
    unfold fB at b2
    have d1 : ∀ v c : Int, 0 ≤ v → v.tdiv c = v / c := fun v c z => Int.tdiv_eq_ediv_of_nonneg z
    have d2 : ∀ v c : Int, 0 ≤ v → v.tmod c = v % c := fun v c z => Int.tmod_eq_emod_of_nonneg z
    have q1 := d1 so 2 (by omega)
    have q2 := d1 sf 2 (by omega)
    have q3 := d2 so 2 (by omega)
    have q4 := d2 sf 2 (by omega)
    have q5 := d1 so 80 (by omega)
    have q6 := d1 so 800 (by omega)
    have q7 := d1 sf 3200 (by omega)
    have q8 := d1 sf 80 (by omega)
    have r1 := d2 (so.tdiv 2) 40 (by omega)
    have r2 := d2 (sf.tdiv 2) 40 (by omega)
    have r3 := d2 (so.tdiv 80) 10 (by omega)
    have r4 := d2 (sf.tdiv 80) 40 (by omega)
    refine smAt [9999] 60 rfl ?_
    repeat' first
      | refine And.intro ?_ ?_
      | intro _
      | exact trivial
    all_goals try omega
    all_goals first
      | exact h3 _ (Or.inr (Or.inr ⟨by omega, w, r, t, a1, fun _ => loa, fun z => by omega, Or.inl ⟨by omega, by omega⟩⟩))
      | exact h3 _ (Or.inr (Or.inr ⟨by omega, w, r, t, a1, fun _ => loa, fun z => by omega, Or.inr ⟨by omega, by omega⟩⟩))
      | exact h3 _ (Or.inr (Or.inr ⟨by omega, w', r', t', b1, fun z => by omega, fun _ => lob, Or.inl ⟨by omega, by omega⟩⟩))
      | exact h3 _ (Or.inr (Or.inr ⟨by omega, w', r', t', b1, fun z => by omega, fun _ => lob, Or.inr ⟨by omega, by omega⟩⟩))
  have outer : ∀ (f r : Nat) (m : smM) (so sf : Int) (x8 x9 x10 x11 x12 : Option smV), (r : Int) + f = S 6 q → keepF mem m → mnR (QR S q o ((r : Int) + 1) 0) (fA S q) 1000000 so → mnR (QR S q o ((r : Int) + 1) 0) (fB S q) 1000000 sf → smWp 152 44 [some (oR 11 114), some (.inl q), some (.inl o), some (.inl k), some (.inl (gcR S q o 0 r + gcR S q o 1 r)), some (.inl so), some (.inl sf), some (.inl ((r : Int) + 1)), x8, x9, x10, x11, x12] [] m Post := by
    intro f
    induction f with
    | zero =>
      intro r m so sf x8 x9 x10 x11 x12 hf km hA hB
      have e6 : m 116 q = S 6 q := ((rC_keep (keepF_keep km) hk).1.2.2.2.2.1 q (by omega) (by omega)).2.1
      have cg : ∀ w' r' t', QR S q o ((r : Int) + 1) 0 w' r' t' ↔ gp S q o w' r' t' := by
        intro w' r' t'
        unfold QR
        constructor
        · exact fun z => z.1
        · intro z
          have z1 := z.1
          exact ⟨z, by omega⟩
      have g := last m so sf (some (.inl ((r : Int) + 1))) x8 x9 x10 x11 x12 km (mnR_cg hA cg) (mnR_cg hB cg)
      rw [show (S 6 q).toNat = r by omega] at g
      refine smAt [44, 58, 199, 9999] 60 rfl ?_
      repeat' first
        | refine And.intro ?_ ?_
        | intro _
      all_goals try omega
      exact g
    | succ f ih =>
      intro r m so sf x8 x9 x10 x11 x12 hf km hA hB
      have e6 : m 116 q = S 6 q := ((rC_keep (keepF_keep km) hk).1.2.2.2.2.1 q (by omega) (by omega)).2.1
      have er : ((r + 1 : Nat) : Int) = (r : Int) + 1 := by omega
      have g0 := gcR_in S q o 0 r
      have g1 := gcR_in S q o 1 r
      refine smAt [44, 58, 9999] 60 rfl ?_
      repeat' first
        | refine And.intro ?_ ?_
        | intro _
      all_goals try omega
      have g := inner (r + 1) (gcR S q o 0 r + gcR S q o 1 r) (by omega) (by omega) (by omega) (fun m2 so2 sf2 y9 y10 y11 y12 km2 hA2 hB2 => ?_) 10 0 m so sf x9 x10 x11 x12 (by omega) km (by rw [er]; exact hA) (by rw [er]; exact hB)
      · rw [er] at g
        simp only [gcC, Int.add_zero] at g
        exact g
      · have g := ih (r + 1) m2 so2 sf2 (some (.inl 10)) y9 y10 y11 y12 (by omega) km2 hA2 hB2
        rw [gcC_10]
        simp only [gcR] at g
        rw [er] at g
        rw [er]
        rw [show gcR S q o 0 r + gcR S q o 1 r + (gcT S q o 0 ((r : Int) + 1) 5 + gcT S q o 1 ((r : Int) + 1) 5) = gcR S q o 0 r + gcT S q o 0 ((r : Int) + 1) 5 + (gcR S q o 1 r + gcT S q o 1 ((r : Int) + 1) 5) by omega]
        exact g
  have none_ : ∀ w r t, ¬ QR S q o (((0 : Nat) : Int) + 1) 0 w r t := by
    intro w r t z
    have z1 := z.1.1
    have z2 := z.2
    omega
  exact outer (S 6 q).toNat 0 mem 1000000 1000000 none none none none none (by omega) (fun _ _ _ => rfl) (Or.inl ⟨rfl, none_⟩) (Or.inl ⟨rfl, none_⟩)
theorem lw_gets (q o k : Int) (hq : smIR q) (ho1 : smIR o) (hkk : smIR k) (hN : N ≤ 900000) (h : jI N mem) : both N 90 152 [.inl q, .inl o, .inl k] mem := by
  have hj := jI_rf hN h
  obtain ⟨S, S1, S2, n, d, h⟩ := h
  obtain ⟨a1, a2, a3, -⟩ := id h
  have hM : N ≤ N + 1000 ∧ N + 1000 ≤ 1000000 := by have := a1.1; omega
  refine pC_gets q o k hq ho1 hkk a2 a1 (fun c => ?_) (fun c1 c2 => ?_) (fun c1 c2 x m1 g1 g2 => ?_)
  · refine pR_gets q o k hq ho1 hkk a3 a1 (fun _ => ⟨agr_rf _, hj⟩) (fun z => absurd z c) (fun z => absurd z c)
  · refine pR_gets q o k hq ho1 hkk a3 a1 (fun z => absurd c1 z) (fun _ _ => ⟨agr_rf _, hj⟩) (fun _ z => absurd z c2)
  · refine pR_gets q o k hq ho1 hkk (rC_eqR (keepC_eqR g2) a3) a1 (fun z => absurd c1 z) (fun _ z => absurd c2 z) (fun _ _ u m2 r1 r2 => ?_)
    rw [gtA_uni g1 r1]
    exact ⟨agr_rf _, S, S1, S2, n, d, jO_keep h hM g2 r2⟩
end
