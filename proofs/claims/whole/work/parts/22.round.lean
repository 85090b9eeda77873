section
variable {mem : smM} {Post : Option smV → smM → Prop} {N : Int} {S : sS}
-- round
def rdC (S : sS) (q w r t : Int) : Prop := gH S (S 5 q) w r t = 2 ∧ gB S (S 5 q) w r t = q ∧ (gT S (S 5 q) w r t : Int) = S 0 0
def rdX (S : sS) (q r : Int) : Prop := ∃ w t, (0 ≤ w ∧ w ≤ 1) ∧ (1 ≤ t ∧ t ≤ 5) ∧ rdC S q w r t
def rdR (S : sS) (q x : Int) : Prop := (x = -6 ∧ ∀ r, 1 ≤ r → r ≤ 36 → ¬ rdX S q r) ∨ ((1 ≤ x ∧ x ≤ 36) ∧ rdX S q x ∧ ∀ r, 1 ≤ r → r < x → ¬ rdX S q r)
theorem rdR_uni {q x y : Int} (h1 : rdR S q x) (h2 : rdR S q y) : x = y := by
  rcases h1 with ⟨e1, a1⟩ | ⟨i1, a1, b1⟩ <;> rcases h2 with ⟨e2, a2⟩ | ⟨i2, a2, b2⟩
  · omega
  · exact absurd a2 (a1 y i2.1 i2.2)
  · exact absurd a1 (a2 x i1.1 i1.2)
  · rcases Int.lt_trichotomy x y with z | z | z
    · exact absurd a1 (b2 x i1.1 z)
    · exact z
    · exact absurd a2 (b1 y i2.1 z)
theorem ru_comesRound (q r : Int) (hk : wC mem S) (hs : scS mem S) (ho : okW N S) (hq : 0 ≤ q ∧ q ≤ 4 ∧ bB (S 4 0) q) (hr : 1 ≤ r ∧ r ≤ 36) (h1 : rdX S q r → ∀ mem', kT8 mem mem' → Post (some (.inl 1)) mem') (h0 : ¬ rdX S q r → ∀ mem', kT8 mem mem' → Post (some (.inl 0)) mem') : smRun 92 [oR 10 0, .inl q, .inl r] mem Post := by
  obtain ⟨kP, kT, kN, kp, kq, ki⟩ := id hk
  obtain ⟨oP, oT, oA, op, oq, oi⟩ := id ho
  have e5 := (kq q (by omega) (by omega)).1
  have o5 := oq q (by omega) (by omega)
  have hp : 0 ≤ S 5 q ∧ S 5 q < S 0 0 := ⟨o5.1.1, (o5.2.2.2.2 hq.2.2).1⟩
  have inner : ∀ (f : Nat) (w t : Int) (m : smM), w = 2 - (f : Int) → 0 ≤ w → 1 ≤ t → t ≤ 5 → kT8 mem m → (∀ w', 0 ≤ w' → w' < w → ¬ rdC S q w' r t) → (∀ m', kT8 mem m' → (∀ w', 0 ≤ w' → w' ≤ 1 → ¬ rdC S q w' r t) → smWp 92 16 [some (oR 10 0), some (.inl q), some (.inl r), some (.inl (S 5 q)), some (.inl (t + 1)), some (.inl 2)] [] m' Post) → smWp 92 25 [some (oR 10 0), some (.inl q), some (.inl r), some (.inl (S 5 q)), some (.inl t), some (.inl w)] [] m Post := by
    intro f
    induction f with
    | zero =>
      intro w t m hw h0w h1t ht5 hm hno hnext
      refine smAt [16, 25, 9999] 30 rfl ?_
      repeat' first
        | refine And.intro ?_ ?_
        | intro _
      all_goals try omega
      rw [show w = 2 by omega]
      exact hnext m hm (fun w' x y => hno w' x (by omega))
    | succ f ih =>
      intro w t m hw h0w h1t ht5 hm hno hnext
      refine smAt [16, 25, 9999] 30 rfl ?_
      repeat' first
        | refine And.intro ?_ ?_
        | intro _
      all_goals try omega
      refine ru_goesTo q _ _ _ _ ?_ (kT8_sc hm hs) ho hp ⟨⟨h0w, by omega⟩, hr, ⟨h1t, ht5⟩⟩ ?_ ?_
      · unfold smIR; omega
      · intro g1 g2 m2 g3 g4
        have e20 : m2 2 0 = S 0 0 := by rw [g4 2 0 (by decide) (by decide) (by decide), hm 2 0 (by decide) (by decide) (by decide)]; exact kP
        have iT := gT_in (S := S) (p := S 5 q) (w := w) (r := r) (t := t)
        repeat' first
          | refine And.intro ?_ ?_
          | intro _
        all_goals try omega
        · refine ih (w + 1) t m2 (by omega) (by omega) h1t ht5 (kT8_tr hm g4) ?_ hnext
          intro w' x y
          by_cases e : w' = w
          · subst e
            intro z
            have := z.2.2
            omega
          · exact hno w' x (by omega)
        · exact h1 ⟨w, t, ⟨h0w, by omega⟩, ⟨h1t, ht5⟩, g1, g2, by omega⟩ m2 (kT8_tr hm g4)
      · intro g1 m2 g4
        repeat' first
          | refine And.intro ?_ ?_
          | intro _
        all_goals try omega
        refine ih (w + 1) t m2 (by omega) (by omega) h1t ht5 (kT8_tr hm g4) ?_ hnext
        intro w' x y
        by_cases e : w' = w
        · subst e
          intro z
          exact g1 ⟨z.1, z.2.1⟩
        · exact hno w' x (by omega)
  have outer : ∀ (f : Nat) (t : Int) (m : smM) (x5 : Option smV), t = 6 - (f : Int) → 1 ≤ t → kT8 mem m → (∀ t' w', 1 ≤ t' → t' < t → 0 ≤ w' → w' ≤ 1 → ¬ rdC S q w' r t') → smWp 92 16 [some (oR 10 0), some (.inl q), some (.inl r), some (.inl (S 5 q)), some (.inl t), x5] [] m Post := by
    intro f
    induction f with
    | zero =>
      intro t m x5 ht h1t hm hno
      refine smAt [25, 9999] 30 rfl ?_
      repeat' first
        | refine And.intro ?_ ?_
        | intro _
      all_goals try omega
      refine h0 ?_ m hm
      rintro ⟨w, t', a, b, c⟩
      exact hno t' w (by omega) (by omega) a.1 a.2 c
    | succ f ih =>
      intro t m x5 ht h1t hm hno
      refine smAt [25, 9999] 30 rfl ?_
      repeat' first
        | refine And.intro ?_ ?_
        | intro _
      all_goals try omega
      refine inner 2 0 t m (by omega) (by omega) h1t (by omega) hm (fun w' x y => by omega) (fun m' hm' hno' => ?_)
      refine ih (t + 1) m' _ (by omega) (by omega) hm' (fun t' w' a b c d => ?_)
      by_cases e : t' = t
      · subst e
        exact hno' w' c d
      · exact hno t' w' a (by omega) c d
  refine smGo [16, 9999] 30 rfl ?_
  repeat' first
    | refine And.intro ?_ ?_
    | intro _
  all_goals try omega
  rw [e5]
  exact outer 5 1 mem none (by omega) (by omega) (kT8_rf mem) (fun t' w' a b => by omega)
theorem pC_round (q : Int) (hq : smIR q) (hk : kC mem S) (ho : ok N S) (h0 : ¬ (0 ≤ q ∧ q ≤ 4 ∧ bB (S 4 0) q) → Post (some (.inl (-1))) mem) (h1 : 0 ≤ q ∧ q ≤ 4 ∧ bB (S 4 0) q → ∀ x mem', rdR S q x → keepC mem mem' → Post (some (.inl x)) mem') : smRun 93 [oR 10 0, .inl q] mem Post := by
  obtain ⟨⟨kP, kT, kN, kp, kq, ki⟩, ⟨kB, kb⟩, ⟨kS, ks⟩⟩ := id hk
  obtain ⟨oN, ⟨oP, oT, oA, op, oq, oi⟩, ⟨oB, ob⟩, ⟨oS, os⟩⟩ := id ho
  rw [← kT] at h0 h1
  refine smGo [33, 9999] 60 rfl ?_
  repeat' first
    | refine And.intro ?_ ?_
    | intro _
    | (show smRun _ _ _ _; first | with_reducible refine ru_hasPerson 2 _ hq ?_ ?_)
    | (show Post _ _; first | exact h0 (by omega))
  all_goals try omega
  refine ru_lookS hk.1 ho.2.1 (fun m1 s1 k1 => ?_)
  have hq9 : 0 ≤ q ∧ q ≤ 4 ∧ bB (S 4 0) q := ⟨by omega, by omega, by rw [← kT]; assumption⟩
  have hk1 : wC m1 S := (kC_keep k1 hk).1
  have loop : ∀ (f : Nat) (r : Int) (m : smM), r = 37 - (f : Int) → 1 ≤ r → kT8 m1 m → (∀ r', 1 ≤ r' → r' < r → ¬ rdX S q r') → smWp 93 33 [some (oR 10 0), some (.inl q), some (.inl r)] [] m Post := by
    intro f
    induction f with
    | zero =>
      intro r m hr h1r hm hno
      refine smAt [33, 9999] 30 rfl ?_
      repeat' first
        | refine And.intro ?_ ?_
        | intro _
      all_goals try omega
      exact h1 (by omega) (-6) m (Or.inl ⟨rfl, fun r' a b => hno r' a (by omega)⟩) (keepC_tr k1 (kT8_keep hm))
    | succ f ih =>
      intro r m hr h1r hm hno
      refine smAt [33, 9999] 30 rfl ?_
      repeat' first
        | refine And.intro ?_ ?_
        | intro _
      all_goals try omega
      refine ru_comesRound q r (kC_keep (kT8_keep hm) (kC_keep k1 hk)).1 (kT8_sc hm s1) ho.2.1 hq9 ⟨h1r, by omega⟩ ?_ ?_
      · intro g m2 hm2
        repeat' first
          | refine And.intro ?_ ?_
          | intro _
        all_goals try omega
        exact h1 (by omega) r m2 (Or.inr ⟨⟨h1r, by omega⟩, g, hno⟩) (keepC_tr k1 (kT8_keep (kT8_tr hm hm2)))
      · intro g m2 hm2
        repeat' first
          | refine And.intro ?_ ?_
          | intro _
        all_goals try omega
        refine ih (r + 1) m2 (by omega) (by omega) (kT8_tr hm hm2) (fun r' a b => ?_)
        by_cases e : r' = r
        · subst e; exact g
        · exact hno r' a (by omega)
  exact loop 36 1 m1 (by omega) (by omega) (kT8_rf m1) (fun r' a b => by omega)
theorem pR_round (q : Int) (hq : smIR q) (hk : rC mem S) (ho : ok N S) (h0 : ¬ (0 ≤ q ∧ q ≤ 4 ∧ bB (S 4 0) q) → Post (some (.inl (-1))) mem) (h1 : 0 ≤ q ∧ q ≤ 4 ∧ bB (S 4 0) q → ∀ x mem', rdR S q x → keepR mem mem' → Post (some (.inl x)) mem') : smRun 153 [oR 11 114, .inl q] mem Post := by
  obtain ⟨⟨kP, kT, kN, kp, kq, ki⟩, ⟨kB, kb⟩, ⟨kS, ks⟩⟩ := id hk
  obtain ⟨oN, ⟨oP, oT, oA, op, oq, oi⟩, ⟨oB, ob⟩, ⟨oS, os⟩⟩ := id ho
  rw [← kT] at h0 h1
  refine smGo [12, 9999] 60 rfl ?_
  repeat' first
    | refine And.intro ?_ ?_
    | intro _
    | (show smRun _ _ _ _; first | with_reducible refine ru_isThere _ hq ?_ ?_)
    | (show Post _ _; first | exact h0 (by omega))
  all_goals try omega
  have hq9 : 0 ≤ q ∧ q ≤ 4 ∧ bB (S 4 0) q := ⟨by omega, by omega, by rw [← kT]; assumption⟩
  have cd : ∀ c : Int, 0 ≤ c → c < (10 : Nat) → (0 ≤ c.tdiv 5 ∧ c.tdiv 5 ≤ 1) ∧ (0 ≤ c.tmod 5 ∧ c.tmod 5 ≤ 4) := fin1 10 (by decide)
  have inner : ∀ (f : Nat) (c r : Int) (m : smM), c = 10 - (f : Int) → 0 ≤ c → 1 ≤ r → r ≤ 36 → keepF mem m → (∀ c' : Int, 0 ≤ c' → c' < c → ¬ rdC S q (c'.tdiv 5) r (c'.tmod 5 + 1)) → (∀ r', 1 ≤ r' → r' < r → ¬ rdX S q r') → (∀ m', keepF mem m' → (∀ c' : Int, 0 ≤ c' → c' < 10 → ¬ rdC S q (c'.tdiv 5) r (c'.tmod 5 + 1)) → smWp 153 12 [some (oR 11 114), some (.inl q), some (.inl (r + 1)), some (.inl 10)] [] m' Post) → smWp 153 20 [some (oR 11 114), some (.inl q), some (.inl r), some (.inl c)] [] m Post := by
    intro f
    induction f with
    | zero =>
      intro c r m hc h0c h1r hr36 hm hno hprev hnext
      refine smAt [12, 20, 9999] 30 rfl ?_
      repeat' first
        | refine And.intro ?_ ?_
        | intro _
      all_goals try omega
      rw [show c = 10 by omega]
      exact hnext m hm (fun c' x y => hno c' x (by omega))
    | succ f ih =>
      intro c r m hc h0c h1r hr36 hm hno hprev hnext
      have cc := cd c h0c (by omega)
      refine smAt [12, 20, 9999] 60 rfl ?_
      repeat' first
        | refine And.intro ?_ ?_
        | intro _
      all_goals try omega
      refine ru_flyFrom q _ _ _ (rC_keep (keepF_keep hm) hk).1 ho.2.1 oN.2 hq9 (by omega) (fun m1 f1 k1 => ?_)
      have hm1 : keepF mem m1 := fun k i z => (k1 k i z).trans (hm k i z)
      obtain ⟨b0, b1, b2, b3⟩ := flR_bnd f1
      have e20 : m1 114 0 = S 0 0 := by rw [hm1 114 0 (fun _ => by decide)]; exact kP
      have iT := gT_in (S := S) (p := S 5 q) (w := c.tdiv 5) (r := r) (t := c.tmod 5 + 1)
      have iH := flH_in (S 1) (cP S) (S 0 0) (S 5 q) (c.tdiv 5) r (c.tmod 5 + 1) (gT S (S 5 q) (c.tdiv 5) r (c.tmod 5 + 1))
      have iB := gB_in S (S 5 q) (c.tdiv 5) r (c.tmod 5 + 1)
      have hnx : ¬ rdC S q (c.tdiv 5) r (c.tmod 5 + 1) → smWp 153 20 [some (oR 11 114), some (.inl q), some (.inl r), some (.inl (c + 1))] [] m1 Post := by
        intro g
        refine ih (c + 1) r m1 (by omega) (by omega) h1r hr36 hm1 (fun c' x y => ?_) hprev hnext
        by_cases e : c' = c
        · subst e; exact g
        · exact hno c' x (by omega)
      have i0 : 0 ≤ m1 114 28 ∧ m1 114 28 ≤ 2 := by rw [b0]; exact iH
      have i3 : -6 ≤ m1 114 31 ∧ m1 114 31 < 5 := by rw [b3]; exact iB
      have i1 : 0 ≤ m1 114 29 ∧ m1 114 29 ≤ 36 := by rw [b1]; omega
      repeat' first
        | refine And.intro ?_ ?_
        | intro _
      all_goals try omega
      · exact hnx (fun z => by have := z.1; omega)
      · exact hnx (fun z => by have := z.2.1; omega)
      · exact hnx (fun z => by have := z.2.2; omega)
      · exact h1 (by omega) r m1 (Or.inr ⟨⟨h1r, hr36⟩, ⟨c.tdiv 5, c.tmod 5 + 1, cc.1, by omega, ⟨by omega, by omega, by omega⟩⟩, hprev⟩) (keepF_keep hm1)
  have outer : ∀ (f : Nat) (r : Int) (m : smM) (x3 : Option smV), r = 37 - (f : Int) → 1 ≤ r → keepF mem m → (∀ r', 1 ≤ r' → r' < r → ¬ rdX S q r') → smWp 153 12 [some (oR 11 114), some (.inl q), some (.inl r), x3] [] m Post := by
    intro f
    induction f with
    | zero =>
      intro r m x3 hr h1r hm hno
      refine smAt [20, 9999] 30 rfl ?_
      repeat' first
        | refine And.intro ?_ ?_
        | intro _
      all_goals try omega
      exact h1 (by omega) (-6) m (Or.inl ⟨rfl, fun r' a b => hno r' a (by omega)⟩) (keepF_keep hm)
    | succ f ih =>
      intro r m x3 hr h1r hm hno
      refine smAt [20, 9999] 30 rfl ?_
      repeat' first
        | refine And.intro ?_ ?_
        | intro _
      all_goals try omega
      refine inner 10 0 r m (by omega) (by omega) h1r (by omega) hm (fun c' x y => by omega) hno (fun m' hm' hno' => ?_)
      refine ih (r + 1) m' _ (by omega) (by omega) hm' (fun r' a b => ?_)
      by_cases e : r' = r
      · subst e
        rintro ⟨w, t, x, y, z⟩
        have hc := hno' (5 * w + (t - 1)) (by omega) (by omega)
        have e1 : (5 * w + (t - 1)).tdiv 5 = w := by
          rw [Int.tdiv_eq_ediv_of_nonneg (by omega)]; omega
        have e2 : (5 * w + (t - 1)).tmod 5 = t - 1 := by
          rw [Int.tmod_eq_emod_of_nonneg (by omega)]; omega
        rw [e1, e2, show t - 1 + 1 = t by omega] at hc
        exact hc z
      · exact hno r' a (by omega)
  exact outer 36 1 mem none (by omega) (by omega) (fun _ _ _ => rfl) (fun r' a b => by omega)
theorem lw_round (q : Int) (hq : smIR q) (hN : N ≤ 900000) (h : jI N mem) : both N 93 153 [.inl q] mem := by
  have hj := jI_rf hN h
  obtain ⟨S, S1, S2, n, d, h⟩ := h
  obtain ⟨a1, a2, a3, -⟩ := id h
  refine pC_round q hq a2 a1 (fun c => ?_) (fun c1 x m1 r1 k1 => ?_)
  · refine pR_round q hq a3 a1 ?_ ?_ <;> intros <;> first | (exfalso; omega) | exact ⟨agr_rf _, hj⟩
  · refine pR_round q hq (rC_eqR (keepC_eqR k1) a3) a1 ?_ ?_
    · intros; exfalso; omega
    · intro _ y m2 r2 k2
      rw [rdR_uni r2 r1]
      exact ⟨agr_rf _, S, S1, S2, n, d, jO_keep h (by omega) k1 k2⟩
end
