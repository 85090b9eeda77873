/-! who, reference -/
section
variable {mem : smM} {Post : Option smV → smM → Prop} {N : Int} {S : sS}
set_option maxRecDepth 4000 in
theorem ru_goesBy (q w r t : Int) (ht : fThr w r t) (hq : 0 ≤ q ∧ q ≤ 4 ∧ bB (S 4 0) q) (hk : rC mem S) (ho : ok N S) (h1 : wF S q w r t → ∀ m, keepF mem m → Post (some (.inl 1)) m) (h0 : ¬ wF S q w r t → ∀ m, keepF mem m → Post (some (.inl 0)) m) : smRun 171 [oR 11 114, .inl q, .inl w, .inl r, .inl t] mem Post := by
  refine smGo [15, 9999] 60 rfl ?_
  refine ru_flyFrom q w r t hk.1 ho.2.1 ho.1.2 hq ht (fun m f1 km => ?_)
  obtain ⟨-, b1, -, -⟩ := flR_bnd f1
  have rC1 := rC_keep (keepF_keep km) hk
  have kP : m 114 0 = S 0 0 := rC1.1.1
  have e5 : m 117 q = S 5 q := (rC1.1.2.2.2.2.1 q (by omega) (by omega)).1
  have o5 := ho.2.1.2.2.2.2.1 q (by omega) (by omega)
  have hp : 0 ≤ S 5 q ∧ S 5 q < S 0 0 := ⟨o5.1.1, (o5.2.2.2.2 hq.2.2).1⟩
  have kS : m 114 13 = S 22 0 := rC1.2.2.1
  have ks := rC1.2.2.2
  obtain ⟨-, -, -, ⟨oS, os⟩⟩ := id ho
  have oP := ho.2.1.1
  have i1 := gT_in (S := S) (p := S 5 q) (w := w) (r := r) (t := t)
  have i2 := gT_r (S := S) (p := S 5 q) (w := w) (t := t) ht.2.1
  have hn : 4 ≤ m 114 0 ∧ m 114 0 ≤ 9 := by omega
  have loop : ∀ (f s : Nat) (is : Int) (x7 x8 x9 : Option smV), (s : Int) + f = S 22 0 → (is = 1 ∧ wfN S q w r t s ∨ is = 0 ∧ ¬ wF S q w r t) → smWp 171 15 [some (oR 11 114), some (.inl q), some (.inl w), some (.inl r), some (.inl t), some (.inl is), some (.inl (s : Int)), x7, x8, x9] [] m Post := by
    intro f
    induction f with
    | zero =>
      intro s is x7 x8 x9 hf hp2
      rcases hp2 with ⟨e, c⟩ | ⟨e, c⟩
      · subst e
        rw [show s = (S 22 0).toNat by omega] at c
        refine smAt [15, 9999] 60 rfl ?_
        repeat' first
          | refine And.intro ?_ ?_
          | intro _
        all_goals try omega
        exact h1 c m km
      · subst e
        refine smAt [15, 9999] 60 rfl ?_
        repeat' first
          | refine And.intro ?_ ?_
          | intro _
        all_goals try omega
        exact h0 c m km
    | succ f ih =>
      intro s is x7 x8 x9 hf hp2
      have es : ((s + 1 : Nat) : Int) = (s : Int) + 1 := by omega
      rcases hp2 with ⟨e, c⟩ | ⟨e, c⟩
      · subst e
        obtain ⟨y1, y2, y3⟩ := ks s (by omega) (by omega)
        dsimp only at y1 y2 y3
        have o1 := os s (by omega) (by omega)
        have t1 := tm_in (x := m 117 q + m 124 (3 * (s : Int))) hn
        have t2 := tm_in (x := m 117 q + -(m 124 (3 * (s : Int)))) hn
        have t3 := tm_in (x := (m 117 q + m 124 (3 * (s : Int))).tmod (m 114 0) + m 114 0) hn
        have t4 := tm_in (x := (m 117 q + -(m 124 (3 * (s : Int)))).tmod (m 114 0) + m 114 0) hn
        have q2 := fPos_in (w := w) hp (S 23 s).toNat
        have tail : ∀ off x, x = fPos (S 5 q) w (S 0 0) (S 23 s).toNat → smWp 171 78 [some (oR 11 114), some (.inl q), some (.inl w), some (.inl r), some (.inl t), some (.inl 1), some (.inl (s : Int)), some (.inl (m 124 (3 * (s : Int)))), some (.inl off), x9] [.inl x] m Post := by
          intro off x hx
          have no : ¬ (S 23 s ≤ (gT S (S 5 q) w r t : Int) ∧ fPos (S 5 q) w (S 0 0) (S 23 s).toNat = S 24 s ∧ fH (S 23 s) r t = S 25 s) → smWp 171 131 [some (oR 11 114), some (.inl q), some (.inl w), some (.inl r), some (.inl t), some (.inl 1), some (.inl (s : Int)), some (.inl (m 124 (3 * (s : Int)))), some (.inl off), some (.inl x)] [] m Post := by
            intro z
            refine smAt [15, 9999] 60 rfl ?_
            have g := ih (s + 1) 0 (some (.inl (m 124 (3 * (s : Int))))) (some (.inl off)) (some (.inl x)) (by omega) (Or.inr ⟨rfl, fun d => z (d s (by omega))⟩)
            rw [es] at g; exact g
          refine smAt [15, 105, 131, 9999] 60 rfl ?_
          repeat' first
            | refine And.intro ?_ ?_
            | intro _
          all_goals try omega
          · exact no (fun z => by omega)
          · exact no (fun z => by omega)
          · have q1 := fH_in (k := S 23 s) (r := r) (t := t) (by omega) (by omega)
            refine smAt [15, 131, 9999] 60 rfl ?_
            refine ru_heightOf _ _ _ (by omega) (by omega) (by omega) ?_
            have q4 : fH (m 124 (3 * (s : Int))) r t = fH (S 23 s) r t := by rw [y1]
            repeat' first
              | refine And.intro ?_ ?_
              | intro _
            all_goals try omega
            · exact no (fun z => by omega)
            · have g := ih (s + 1) 1 (some (.inl (m 124 (3 * (s : Int))))) (some (.inl off)) (some (.inl x)) (by omega) (Or.inl ⟨rfl, fun s' z => ?_⟩)
              · rw [es] at g; exact g
              · by_cases d : s' = s
                · rw [d]; omega
                · exact c s' (by omega)
        have tw := ht.1
        refine smAt [15, 78, 9999] 60 rfl ?_
        repeat' first
          | refine And.intro ?_ ?_
          | intro _
        all_goals try omega
        · refine tail _ _ ?_
          rw [tm_c hn, fPos_c hp, if_neg (by omega), Int.toNat_of_nonneg o1.1.1, e5, y1, kP]
        · refine tail _ _ ?_
          rw [tm_c hn, fPos_c hp, if_pos (by omega), Int.toNat_of_nonneg o1.1.1, e5, y1, kP]
      · subst e
        refine smAt [15, 78, 9999] 60 rfl ?_
        repeat' first
          | refine And.intro ?_ ?_
          | intro _
        all_goals try omega
        exact h0 c m km
  exact loop (S 22 0).toNat 0 1 none none none (by omega) (Or.inl ⟨rfl, fun s' x => by omega⟩)
end
noncomputable def cdS (S : sS) (q r : Int) : Nat → Int
  | 0 => 0
  | n + 1 => cdS S q r n + cI (bB (S 4 0) q ∧ r ≤ S 6 q ∧ wF S q ((n : Int).tdiv 5) r ((n : Int).tmod 5 + 1))
theorem cdS_in (S : sS) (q r : Int) : ∀ n : Nat, 0 ≤ cdS S q r n ∧ cdS S q r n ≤ n
  | 0 => ⟨Int.le_refl 0, Int.le_refl 0⟩
  | n + 1 => by
    have := cdS_in S q r n
    have := cI_in (bB (S 4 0) q ∧ r ≤ S 6 q ∧ wF S q ((n : Int).tdiv 5) r ((n : Int).tmod 5 + 1))
    simp only [cdS]
    omega
theorem cI_congr {P Q : Prop} (h : P ↔ Q) : cI P = cI Q := by
  rw [propext h]
theorem cdS_10 (S : sS) (q r : Int) : cdS S q r 10 = if bB (S 4 0) q ∧ r ≤ S 6 q then wcT S q r 5 else 0 := by
  have d : ∀ c : Nat, c < 10 → (c : Int).tdiv 5 = (if c < 5 then 0 else 1) ∧ (c : Int).tmod 5 + 1 = (if c < 5 then (c : Int) + 1 else (c : Int) - 4) := by decide
  split
  · next h =>
    have e : ∀ w t, cI (bB (S 4 0) q ∧ r ≤ S 6 q ∧ wF S q w r t) = cI (wF S q w r t) := fun w t => cI_congr ⟨fun z => z.2.2, fun z => ⟨h.1, h.2, z⟩⟩
    simp only [cdS, wcT, e]
    rw [(d 0 (by decide)).1, (d 0 (by decide)).2, (d 1 (by decide)).1, (d 1 (by decide)).2, (d 2 (by decide)).1, (d 2 (by decide)).2, (d 3 (by decide)).1, (d 3 (by decide)).2, (d 4 (by decide)).1, (d 4 (by decide)).2, (d 5 (by decide)).1, (d 5 (by decide)).2, (d 6 (by decide)).1, (d 6 (by decide)).2, (d 7 (by decide)).1, (d 7 (by decide)).2, (d 8 (by decide)).1, (d 8 (by decide)).2, (d 9 (by decide)).1, (d 9 (by decide)).2]
    simp
    omega
  · next h =>
    have e : ∀ w t, cI (bB (S 4 0) q ∧ r ≤ S 6 q ∧ wF S q w r t) = 0 := fun w t => cI_0 (fun z => h ⟨z.1, z.2.1⟩)
    simp only [cdS, e]
    rfl
/-- by reaches to n -/
noncomputable def rcS (S : sS) (q : Int) : Nat → Int
  | 0 => 0
  | n + 1 => rcS S q n + cdS S q ((n : Int) + 1) 10
theorem rcS_in (S : sS) (q : Int) : ∀ n : Nat, 0 ≤ rcS S q n ∧ rcS S q n ≤ 10 * n
  | 0 => ⟨Int.le_refl 0, Int.le_refl 0⟩
  | n + 1 => by
    have := rcS_in S q n
    have := cdS_in S q ((n : Int) + 1) 10
    simp only [rcS]
    omega
theorem rcS_w (S : sS) (q : Int) (hb : bB (S 4 0) q) : ∀ n : Nat, rcS S q n = wcR S q (min n (S 6 q).toNat)
  | 0 => by simp [rcS, wcR]
  | n + 1 => by
    simp only [rcS]
    rw [rcS_w S q hb n, cdS_10]
    by_cases c : (n : Int) + 1 ≤ S 6 q
    · rw [if_pos ⟨hb, c⟩, Nat.min_eq_left (show n ≤ (S 6 q).toNat by omega), Nat.min_eq_left (show n + 1 ≤ (S 6 q).toNat by omega)]
      rfl
    · rw [if_neg (fun z => c z.2), Nat.min_eq_right (show (S 6 q).toNat ≤ n by omega), Nat.min_eq_right (show (S 6 q).toNat ≤ n + 1 by omega), Int.add_zero]
theorem rcS_36 (S : sS) (q : Int) (ha : S 6 q ≤ 36) : rcS S q 36 = wcQ S q := by
  unfold wcQ
  split
  · next h =>
    rw [rcS_w S q h, Nat.min_eq_right (by omega)]
  · next h =>
    have e : ∀ n, rcS S q n = 0 := by
      intro n
      induction n with
      | zero => rfl
      | succ n ih =>
        simp only [rcS]
        rw [ih, cdS_10, if_neg (fun z => h z.1)]
        rfl
    exact e 36
theorem or_tw : ∀ a q : Int, 0 ≤ a → a < (32 : Nat) → 0 ≤ q → q < (5 : Nat) → smOr (smOr a (smShl 1 q)) (smShl 1 q) = smOr a (smShl 1 q) ∧ smOr (smOr a (smShl 1 q)) 0 = smOr a (smShl 1 q) ∧ smOr (smOr a 0) (smShl 1 q) = smOr a (smShl 1 q) ∧ smOr (smOr a 0) 0 = smOr a 0 := fin2 32 5 (by decide +kernel)
theorem wcQ_in (S : sS) (q : Int) (ha : S 6 q ≤ 36) : 0 ≤ wcQ S q ∧ wcQ S q ≤ 360 := by
  rw [← rcS_36 S q ha]
  exact rcS_in S q 36
section
variable {mem : smM} {Post : Option smV → smM → Prop} {N : Int} {S : sS}
abbrev whB (B q c : Int) : Int := smOr B (if 0 < c then smShl 1 q else 0)
theorem whB_1 {B q c : Int} (hB : 0 ≤ B ∧ B < 32) (hq : 0 ≤ q ∧ q < 5) (hc : 0 ≤ c) : smOr (whB B q c) (smShl 1 q) = whB B q (c + 1) := by
  have o := or_tw B q hB.1 hB.2 hq.1 hq.2
  unfold whB
  rw [if_pos (show 0 < c + 1 by omega)]
  split
  · exact o.1
  · exact o.2.2.1
theorem whB_0 {B q c : Int} (hB : 0 ≤ B ∧ B < 32) (hq : 0 ≤ q ∧ q < 5) : smOr (whB B q c) 0 = whB B q (c + 0) := by
  have o := or_tw B q hB.1 hB.2 hq.1 hq.2
  unfold whB
  rw [Int.add_zero]
  split
  · exact o.2.1
  · exact o.2.2.2
set_option maxRecDepth 4000 in
theorem pR_who (w : Int) (hw : smIR w) (hk : rC mem S) (ho : ok N S) (h0 : ¬ (0 ≤ w ∧ w ≤ 1) → Post (some (.inl (-2))) mem) (h1 : 0 ≤ w ∧ w ≤ 1 → ∀ m, keepR mem m → Post (some (.inl (if w = 0 then wcB S 5 else wcS S 5))) m) : smRun 172 [oR 11 114, .inl w] mem Post := by
  have cd : ∀ c : Int, 0 ≤ c → c < (10 : Nat) → (0 ≤ c.tdiv 5 ∧ c.tdiv 5 ≤ 1) ∧ (0 ≤ c.tmod 5 ∧ c.tmod 5 ≤ 4) := fin1 10 (by decide)
  have inner : ∀ (q r : Nat), q < 5 → 1 ≤ r → r ≤ 36 → (∀ m x7, keepF mem m → smWp 172 28 [some (oR 11 114), some (.inl w), some (.inl (whB (wcB S q) q (rcS S q r))), some (.inl (wcS S q + rcS S q r)), some (.inl (q : Int)), some (.inl ((r : Int) + 1)), some (.inl 10), x7] [] m Post) → ∀ (f c : Nat) (m : smM) (x7 : Option smV), c + f = 10 → keepF mem m → smWp 172 38 [some (oR 11 114), some (.inl w), some (.inl (whB (wcB S q) q (rcS S q (r - 1) + cdS S q r c))), some (.inl (wcS S q + (rcS S q (r - 1) + cdS S q r c))), some (.inl (q : Int)), some (.inl (r : Int)), some (.inl (c : Int)), x7] [] m Post := by
    intro q r hq r1 r36 K f
    have hB := wcB_in S q (by omega)
    induction f with
    | zero =>
      intro c m x7 hf km
      have e : c = 10 := by omega
      subst e
      have e2 : rcS S q r = rcS S q (r - 1) + cdS S q r 10 := by
        have e3 : r = (r - 1) + 1 := by omega
        conv => lhs; rw [e3]
        simp only [rcS]
        rw [show ((r - 1 : Nat) : Int) + 1 = (r : Int) by omega]
      have g := K m x7 km
      rw [e2] at g
      refine smAt [19, 28, 38, 9999] 60 rfl ?_
      repeat' first
        | refine And.intro ?_ ?_
        | intro _
      all_goals try omega
      exact g
    | succ f ih =>
      intro c m x7 hf km
      have rC1 := rC_keep (keepF_keep km) hk
      have kT : m 114 2 = S 4 0 := rC1.1.2.1
      have e6 : m 116 q = S 6 q := (rC1.1.2.2.2.2.1 q (by omega) (by omega)).2.1
      have o5 := ho.2.1.2.2.2.2.1 q (by omega) (by omega)
      have ec : ((c + 1 : Nat) : Int) = (c : Int) + 1 := by omega
      have i1 := rcS_in S q (r - 1)
      have i2 := cdS_in S q r c
      have i3 := cd c (by omega) (by omega)
      have tl : ∀ (is : Int) (m2 : smM), is = cI (bB (S 4 0) q ∧ (r : Int) ≤ S 6 q ∧ wF S q ((c : Int).tdiv 5) r ((c : Int).tmod 5 + 1)) → keepF mem m2 → smWp 172 95 [some (oR 11 114), some (.inl w), some (.inl (whB (wcB S q) q (rcS S q (r - 1) + cdS S q r c))), some (.inl (wcS S q + (rcS S q (r - 1) + cdS S q r c))), some (.inl (q : Int)), some (.inl (r : Int)), some (.inl (c : Int)), x7] [.inl is] m2 Post := by
        intro is m2 his k2
        have g := ih (c + 1) m2 (some (.inl is)) (by omega) k2
        simp only [cdS, ← his] at g
        rw [ec, ← Int.add_assoc, ← Int.add_assoc] at g
        have hi := cI_in (bB (S 4 0) q ∧ (r : Int) ≤ S 6 q ∧ wF S q ((c : Int).tdiv 5) r ((c : Int).tmod 5 + 1))
        rw [← his] at hi
        clear his
        rcases hi with e | e
        · subst e
          rw [← whB_0 hB (by omega)] at g
          refine smAt [38, 9999] 60 rfl ?_
          repeat' first
            | refine And.intro ?_ ?_
            | intro _
          all_goals try omega
          exact g
        · subst e
          rw [← whB_1 hB (by omega) (by omega)] at g
          refine smAt [38, 9999] 60 rfl ?_
          repeat' first
            | refine And.intro ?_ ?_
            | intro _
          all_goals try omega
          exact g
      refine smAt [38, 95, 9999] 60 rfl ?_
      repeat' first
        | refine And.intro ?_ ?_
        | intro _
        | (show smRun _ _ _ _; first | with_reducible refine ru_has _ _ (fun w1 => ?_) (fun w1 => ?_))
      all_goals try omega
      · exact tl 0 m (cI_0 (fun z => by omega)).symm km
      · rw [kT] at w1
        refine ru_goesBy q _ r _ ⟨by omega, by omega, by omega⟩ ⟨by omega, by omega, w1⟩ rC1 ho (fun z m2 k2 => ?_) (fun z m2 k2 => ?_)
        · skip
          repeat' first
            | refine And.intro ?_ ?_
            | intro _
          all_goals try omega
          exact tl 1 m2 (cI_1 ⟨w1, by omega, z⟩).symm (fun k q x => (k2 k q x).trans (km k q x))
        · skip
          repeat' first
            | refine And.intro ?_ ?_
            | intro _
          all_goals try omega
          exact tl 0 m2 (cI_0 (fun y => z y.2.2)).symm (fun k q x => (k2 k q x).trans (km k q x))
      · rw [kT] at w1
        exact tl 0 m (cI_0 (fun z => w1 z.1)).symm km
  have middle : ∀ (q : Nat), q < 5 → (∀ m x6 x7, keepF mem m → smWp 172 19 [some (oR 11 114), some (.inl w), some (.inl (wcB S (q + 1))), some (.inl (wcS S (q + 1))), some (.inl ((q : Int) + 1)), some (.inl 37), x6, x7] [] m Post) → ∀ (f r : Nat) (m : smM) (x6 x7 : Option smV), r + f = 36 → keepF mem m → smWp 172 28 [some (oR 11 114), some (.inl w), some (.inl (whB (wcB S q) q (rcS S q r))), some (.inl (wcS S q + rcS S q r)), some (.inl (q : Int)), some (.inl ((r : Int) + 1)), x6, x7] [] m Post := by
    intro q hq K f
    have o5 := ho.2.1.2.2.2.2.1 q (by omega) (by omega)
    induction f with
    | zero =>
      intro r m x6 x7 hf km
      have e : r = 36 := by omega
      subst e
      have g := K m x6 x7 km
      simp only [wcB, wcS] at g
      rw [← rcS_36 S q o5.2.1.2] at g
      refine smAt [19, 28, 38, 9999] 60 rfl ?_
      repeat' first
        | refine And.intro ?_ ?_
        | intro _
      all_goals try omega
      exact g
    | succ f ih =>
      intro r m x6 x7 hf km
      have er : ((r + 1 : Nat) : Int) = (r : Int) + 1 := by omega
      refine smAt [19, 28, 38, 9999] 60 rfl ?_
      repeat' first
        | refine And.intro ?_ ?_
        | intro _
      all_goals try omega
      have g := inner q (r + 1) hq (by omega) (by omega) (fun m2 z7 k2 => ?_) 10 0 m x7 (by omega) km
      · rw [er] at g
        simp only [cdS, Nat.add_sub_cancel, Int.add_zero] at g
        exact g
      · have g := ih (r + 1) m2 (some (.inl 10)) z7 (by omega) k2
        rw [er] at g
        rw [er]
        exact g
  have outer : 0 ≤ w ∧ w ≤ 1 → ∀ (f q : Nat) (m : smM) (x5 x6 x7 : Option smV), q + f = 5 → keepF mem m → smWp 172 19 [some (oR 11 114), some (.inl w), some (.inl (wcB S q)), some (.inl (wcS S q)), some (.inl (q : Int)), x5, x6, x7] [] m Post := by
    intro hww f
    induction f with
    | zero =>
      intro q m x5 x6 x7 hf km
      have e : q = 5 := by omega
      subst e
      have g := h1 hww m (keepF_keep km)
      refine smAt [19, 28, 9999] 60 rfl ?_
      repeat' first
        | refine And.intro ?_ ?_
        | intro _
      all_goals try omega
      · rw [if_neg (by omega)] at g; exact g
      · rw [if_pos (by omega)] at g; exact g
    | succ f ih =>
      intro q m x5 x6 x7 hf km
      have eq1 : ((q + 1 : Nat) : Int) = (q : Int) + 1 := by omega
      have hB := wcB_in S q (by omega)
      refine smAt [19, 28, 9999] 60 rfl ?_
      repeat' first
        | refine And.intro ?_ ?_
        | intro _
      all_goals try omega
      have g := middle q (by omega) (fun m2 z6 z7 k2 => ?_) 36 0 m x6 x7 (by omega) km
      · have e9 : whB (wcB S q) q (rcS S q 0) = wcB S q := by
          show smOr (wcB S q) (if 0 < (0 : Int) then smShl 1 q else 0) = wcB S q
          rw [if_neg (by omega)]
          exact or_031 _ hB.1 hB.2
        rw [e9] at g
        simp only [rcS, Int.add_zero] at g
        exact g
      · have g := ih (q + 1) m2 (some (.inl 37)) z6 z7 (by omega) k2
        rw [eq1] at g
        exact g
  refine smGo [19, 9999] 60 rfl ?_
  repeat' first
    | refine And.intro ?_ ?_
    | intro _
    | (show smRun _ _ _ _; first | with_reducible refine ru_in _ _ _ hw ?_ ?_ ?_ ?_)
    | (show Post _ _; first | exact h0 (by omega))
  all_goals try omega
  exact outer (by omega) 5 0 mem none none none (by omega) (fun _ _ _ => rfl)
theorem lw_who (w : Int) (hw : smIR w) (hN : N ≤ 900000) (h : jI N mem) : both N 107 172 [.inl w] mem := by
  have hj := jI_rf hN h
  obtain ⟨S, S1, S2, n, d, h⟩ := h
  obtain ⟨a1, a2, a3, -⟩ := id h
  have hM : N ≤ N + 1000 ∧ N + 1000 ≤ 1000000 := by have := a1.1; omega
  refine pC_who w hw a2 a1 (fun c => ?_) (fun c m g2 => ?_)
  · refine pR_who w hw a3 a1 (fun _ => ⟨agr_rf _, hj⟩) (fun z => absurd z c)
  · refine pR_who w hw (rC_eqR (keepC_eqR g2) a3) a1 (fun z => absurd c z) (fun _ m2 r2 => ?_)
    exact ⟨agr_rf _, S, S1, S2, n, d, jO_keep h hM g2 r2⟩
end
