/-! keptOff, reference -/
section
variable {mem : smM} {Post : Option smV → smM → Prop} {N : Int} {S : sS}
set_option maxRecDepth 4000 in
theorem ru_isCaught (q o g G : Int) (hq : 0 ≤ q ∧ q ≤ 4 ∧ bB (S 4 0) q) (hoo : 0 ≤ o ∧ o ≤ 4) (hg : -6 ≤ g ∧ g ≤ 9) (hG : 0 ≤ G ∧ G ≤ 5) (hk : rC mem S) (ho : ok N S) (h1 : kpX S q o g G → ∀ m, keepF mem m → Post (some (.inl 1)) m) (h0 : ¬ kpX S q o g G → ∀ m, keepF mem m → Post (some (.inl 0)) m) : smRun 154 [oR 11 114, .inl q, .inl o, .inl g, .inl G] mem Post := by
  have o5 := ho.2.1.2.2.2.2.1 q (by omega) (by omega)
  have a36 := o5.2.1
  have hp : 0 ≤ S 5 q ∧ S 5 q < S 0 0 := ⟨o5.1.1, (o5.2.2.2.2 hq.2.2).1⟩
  have inner : ∀ (r : Nat), 1 ≤ r → (r : Int) ≤ S 6 q → (∀ m is x7, keepF mem m → (is = 0 ∧ (∀ w' r' t', QR S q o ((r : Int) + 1) 0 w' r' t' → ¬ kpH S q g G w' r' t') ∨ is = 1 ∧ kpX S q o g G) → smWp 154 6 [some (oR 11 114), some (.inl q), some (.inl o), some (.inl g), some (.inl G), some (.inl is), some (.inl ((r : Int) + 1)), x7] [] m Post) → ∀ (f c : Nat) (m : smM) (is : Int), c + f = 10 → keepF mem m → (is = 0 ∧ (∀ w' r' t', QR S q o r c w' r' t' → ¬ kpH S q g G w' r' t') ∨ is = 1 ∧ kpX S q o g G) → smWp 154 25 [some (oR 11 114), some (.inl q), some (.inl o), some (.inl g), some (.inl G), some (.inl is), some (.inl (r : Int)), some (.inl (c : Int))] [] m Post := by
    intro r r1 r2 K f
    induction f with
    | zero =>
      intro c m is hf km hi
      have e : c = 10 := by omega
      subst e
      refine smAt [6, 25, 9999] 60 rfl ?_
      repeat' first
        | refine And.intro ?_ ?_
        | intro _
      all_goals try omega
      refine K m is _ km ?_
      rcases hi with ⟨e, z⟩ | z
      · refine Or.inl ⟨e, fun w' r' t' u => z w' r' t' ?_⟩
        have u1 := u.1.1
        have u2 := u.2
        exact ⟨u.1, by omega⟩
      · exact Or.inr z
    | succ f ih =>
      intro c m is hf km hi
      rcases hi with ⟨e, z⟩ | ⟨e, z⟩
      · subst e
        have rC1 := rC_keep (keepF_keep km) hk
        have e5 : m 117 q = S 5 q := (rC1.1.2.2.2.2.1 q (by omega) (by omega)).1
        have ec : ((c + 1 : Nat) : Int) = (c : Int) + 1 := by omega
        have cc := cdT c (by omega) (by omega)
        have th : fThr ((c : Int).tdiv 5) r ((c : Int).tmod 5 + 1) := ⟨by omega, by omega, by omega⟩
        refine smAt [6, 25, 63, 9999] 60 rfl ?_
        repeat' first
          | refine And.intro ?_ ?_
          | intro _
        all_goals try omega
        rw [e5]
        refine ru_flyS _ _ _ _ _ _ _ rC1.1 ho.2.1 ho.1.2 (by omega) hg hG hp th (fun m2 f1 k1 => ?_)
        have km2 : keepF mem m2 := fun k i z => (k1 k i z).trans (km k i z)
        rw [cbH_m1, byH_m1] at f1
        have iff := cgG_iff (S := S) (q := q) (o := o) (g := g) (G := G) (w := (c : Int).tdiv 5) (r := r) (t := (c : Int).tmod 5 + 1) (by omega)
        have b0 : m2 114 28 = flH (hdG (S 1) g G) (cP S) (S 0 0) (S 5 q) ((c : Int).tdiv 5) r ((c : Int).tmod 5 + 1) (flT (hdG (S 1) g G) (cP S) (S 0 0) (S 5 q) ((c : Int).tdiv 5) r ((c : Int).tmod 5 + 1)) := f1.2.1
        have b3 := f1.2.2.1
        have iH := flH_in (hdG (S 1) g G) (cP S) (S 0 0) (S 5 q) ((c : Int).tdiv 5) r ((c : Int).tmod 5 + 1) (flT (hdG (S 1) g G) (cP S) (S 0 0) (S 5 q) ((c : Int).tdiv 5) r ((c : Int).tmod 5 + 1))
        rw [← b0] at iH
        have iB : -6 ≤ m2 114 31 ∧ m2 114 31 < 5 := by
          rw [b3]
          split
          · rcases wh_in S (fPos (S 5 q) ((c : Int).tdiv 5) (S 0 0) (flT (hdG (S 1) g G) (cbs (wh S)) (S 0 0) (S 5 q) ((c : Int).tdiv 5) r ((c : Int).tmod 5 + 1))) with u | u
            · omega
            · omega
          · omega
        have is2 : (m2 114 28 = 2 ∧ m2 114 31 = o) ↔ cgG S q o g G ((c : Int).tdiv 5) r ((c : Int).tmod 5 + 1) := by
          unfold cgG
          rw [← b0]
          refine and_congr_right (fun u => ?_)
          rw [b3]
          have u2 := u
          rw [b0] at u2
          have e9 : flH (hdG (S 1) g G) (cbs (wh S)) (S 0 0) (S 5 q) ((c : Int).tdiv 5) r ((c : Int).tmod 5 + 1) (flT (hdG (S 1) g G) (cbs (wh S)) (S 0 0) (S 5 q) ((c : Int).tdiv 5) r ((c : Int).tmod 5 + 1)) = 2 := u2
          rw [if_pos e9]
        rw [iff] at is2
        have no : ¬ (cgt S q o ((c : Int).tdiv 5) r ((c : Int).tmod 5 + 1) ∧ kpH S q g G ((c : Int).tdiv 5) r ((c : Int).tmod 5 + 1)) → smWp 154 83 [some (oR 11 114), some (.inl q), some (.inl o), some (.inl g), some (.inl G), some (.inl 0), some (.inl (r : Int)), some (.inl (c : Int))] [] m2 Post := by
          intro u
          refine smAt [6, 25, 9999] 60 rfl ?_
          have g1 := ih (c + 1) m2 0 (by omega) km2 (Or.inl ⟨rfl, fun w' r' t' v => ?_⟩)
          · rw [ec] at g1; exact g1
          · have v1 := v.1.1
            have v2 := v.2
            rw [ec] at v2
            by_cases d : r' = r ∧ 5 * w' + (t' - 1) = c
            · have e1 : w' = (c : Int).tdiv 5 := by omega
              have e2 : t' = (c : Int).tmod 5 + 1 := by omega
              have v3 := v.1.2
              rw [e1, e2, d.1] at v3 ⊢
              exact fun y => u ⟨v3, y⟩
            · exact z w' r' t' ⟨v.1, by omega⟩
        refine smAt [6, 25, 83, 9999] 60 rfl ?_
        repeat' first
          | refine And.intro ?_ ?_
          | intro _
        all_goals try omega
        · exact no (fun y => by have := is2.mpr y; omega)
        · exact no (fun y => by have := is2.mpr y; omega)
        · have y := is2.mp ⟨by omega, by omega⟩
          have g1 := ih (c + 1) m2 1 (by omega) km2 (Or.inr ⟨rfl, _, _, _, ⟨⟨by omega, by omega, by omega⟩, y.1⟩, y.2⟩)
          rw [ec] at g1; exact g1
      · subst e
        refine smAt [6, 25, 63, 9999] 60 rfl ?_
        repeat' first
          | refine And.intro ?_ ?_
          | intro _
        all_goals try omega
        exact K m 1 _ km (Or.inr ⟨rfl, z⟩)
  have outer : ∀ (f r : Nat) (m : smM) (is : Int) (x7 : Option smV), (r : Int) + f = S 6 q → keepF mem m → (is = 0 ∧ (∀ w' r' t', QR S q o ((r : Int) + 1) 0 w' r' t' → ¬ kpH S q g G w' r' t') ∨ is = 1 ∧ kpX S q o g G) → smWp 154 6 [some (oR 11 114), some (.inl q), some (.inl o), some (.inl g), some (.inl G), some (.inl is), some (.inl ((r : Int) + 1)), x7] [] m Post := by
    intro f
    induction f with
    | zero =>
      intro r m is x7 hf km hi
      have e6 : m 116 q = S 6 q := ((rC_keep (keepF_keep km) hk).1.2.2.2.2.1 q (by omega) (by omega)).2.1
      rcases hi with ⟨e, z⟩ | ⟨e, z⟩
      · subst e
        refine smAt [6, 25, 9999] 60 rfl ?_
        repeat' first
          | refine And.intro ?_ ?_
          | intro _
        all_goals try omega
        refine h0 ?_ m km
        rintro ⟨w', r', t', u1, u2⟩
        have u3 := u1.1
        exact z w' r' t' ⟨u1, by omega⟩ u2
      · subst e
        refine smAt [6, 25, 9999] 60 rfl ?_
        repeat' first
          | refine And.intro ?_ ?_
          | intro _
        all_goals try omega
        exact h1 z m km
    | succ f ih =>
      intro r m is x7 hf km hi
      have e6 : m 116 q = S 6 q := ((rC_keep (keepF_keep km) hk).1.2.2.2.2.1 q (by omega) (by omega)).2.1
      have er : ((r + 1 : Nat) : Int) = (r : Int) + 1 := by omega
      rcases hi with ⟨e, z⟩ | ⟨e, z⟩
      · subst e
        refine smAt [6, 25, 9999] 60 rfl ?_
        repeat' first
          | refine And.intro ?_ ?_
          | intro _
        all_goals try omega
        have g1 := inner (r + 1) (by omega) (by omega) (fun m2 is2 y7 km2 hi2 => ?_) 10 0 m 0 (by omega) km (Or.inl ⟨rfl, by rw [er]; exact z⟩)
        · rw [er] at g1; exact g1
        · exact ih (r + 1) m2 is2 y7 (by omega) km2 hi2
      · subst e
        refine smAt [6, 25, 9999] 60 rfl ?_
        repeat' first
          | refine And.intro ?_ ?_
          | intro _
        all_goals try omega
        exact h1 z m km
  refine smGo [6, 9999] 60 rfl ?_
  refine outer (S 6 q).toNat 0 mem 0 none (by omega) (fun _ _ _ => rfl) (Or.inl ⟨rfl, fun w' r' t' u => ?_⟩)
  have u1 := u.1.1
  have u2 := u.2
  omega
set_option maxRecDepth 4000 in
theorem pR_keptOff (q o k : Int) (hq : smIR q) (ho1 : smIR o) (hkk : smIR k) (hk : rC mem S) (ho : ok N S) (h0 : ¬ twoT S q o → Post (some (.inl (-1))) mem) (h1 : twoT S q o → ¬ (0 ≤ k ∧ k ≤ 1) → Post (some (.inl (-2))) mem) (h2 : twoT S q o → 0 ≤ k ∧ k ≤ 1 → ∀ x m', kpA S q o k x → keepR mem m' → Post (some (.inl x)) m') : smRun 155 [oR 11 114, .inl q, .inl o, .inl k] mem Post := by
  obtain ⟨⟨kP, kT, kN, kp, kq, ki⟩, ⟨kB, kb⟩, ⟨kS, ks⟩⟩ := id hk
  have h2' := h2
  unfold twoT at h0 h1
  rw [← kT] at h0 h1
  refine smGo [30, 9999] 60 rfl ?_
  repeat' first
    | refine And.intro ?_ ?_
    | intro _
    | (show smRun _ _ _ _; first | with_reducible refine ru_isThere _ hq ?_ ?_ | with_reducible refine ru_isThere _ ho1 ?_ ?_ | with_reducible refine ru_in _ _ _ hkk ?_ ?_ ?_ ?_)
    | (show Post _ _; first | exact h0 (by omega) | exact h1 (by omega) (by omega))
  all_goals try omega
  have tw : twoT S q o := ⟨⟨by omega, by omega, by rw [← kT]; assumption⟩, ⟨by omega, by omega, by rw [← kT]; assumption⟩⟩
  have hk1 : 0 ≤ k ∧ k ≤ 1 := by omega
  have oP := ho.2.1.1
  have o5 := ho.2.1.2.2.2.2.1 q (by omega) (by omega)
  have hp : 0 ≤ S 5 q ∧ S 5 q < S 0 0 := ⟨o5.1.1, (o5.2.2.2.2 tw.1.2.2).1⟩
  clear h0 h1
  have h3 := fun x m hx km => h2' tw hk1 x m hx (keepF_keep km)
  have kx0 : kpX S q o (-6) 0 ↔ ∃ w r t, gp S q o w r t := by
    constructor
    · rintro ⟨w, r, t, u, _⟩
      exact ⟨w, r, t, u⟩
    · rintro ⟨w, r, t, u⟩
      refine ⟨w, r, t, u, fun j a b c => ?_⟩
      have := fPos_in (w := w) hp j
      omega
  refine smAt [53, 9999] 60 rfl ?_
  refine ru_isCaught q o (-6) 0 tw.1 (by omega) (by omega) (by omega) hk ho (fun c m km => ?_) (fun c m km => ?_)
  · rw [kx0] at c
    repeat' first
      | refine And.intro ?_ ?_
      | intro _
    all_goals try omega
    have inner : ∀ (G : Int), (1 ≤ G ∧ G ≤ 5) → (∀ m, keepF mem m → (∀ G' p', 1 ≤ G' → 0 ≤ p' → p' < S 0 0 → G' < G + 1 → kpX S q o p' G') → smWp 155 56 [some (oR 11 114), some (.inl q), some (.inl o), some (.inl k), some (.inl (G + 1)), some (.inl (S 0 0))] [] m Post) → ∀ (f : Nat) (p : Int) (m : smM), p + f = S 0 0 → 0 ≤ p → keepF mem m → (∀ G' p', 1 ≤ G' → 0 ≤ p' → p' < S 0 0 → (G' < G ∨ (G' = G ∧ p' < p)) → kpX S q o p' G') → smWp 155 66 [some (oR 11 114), some (.inl q), some (.inl o), some (.inl k), some (.inl G), some (.inl p)] [] m Post := by
      intro G hG K f
      induction f with
      | zero =>
        intro p m hf p0 km hi
        have kP1 : m 114 0 = S 0 0 := (rC_keep (keepF_keep km) hk).1.1
        refine smAt [56, 66, 9999] 60 rfl ?_
        repeat' first
          | refine And.intro ?_ ?_
          | intro _
        all_goals try omega
        rw [show p = S 0 0 by omega]
        exact K m km (fun G' p' a b d e => hi G' p' a b d (by omega))
      | succ f ih =>
        intro p m hf p0 km hi
        have rC1 := rC_keep (keepF_keep km) hk
        have kP1 : m 114 0 = S 0 0 := rC1.1.1
        refine smAt [56, 66, 9999] 60 rfl ?_
        repeat' first
          | refine And.intro ?_ ?_
          | intro _
        all_goals try omega
        refine ru_isCaught q o p G tw.1 (by omega) (by omega) (by omega) rC1 ho (fun d m2 k2 => ?_) (fun d m2 k2 => ?_)
        · skip
          repeat' first
            | refine And.intro ?_ ?_
            | intro _
          all_goals try omega
          refine ih (p + 1) m2 (by omega) (by omega) (fun k i z => (k2 k i z).trans (km k i z)) (fun G' p' a b e f => ?_)
          by_cases u : G' = G ∧ p' = p
          · rw [u.1, u.2]; exact d
          · exact hi G' p' a b e (by omega)
        · have fin : ∀ x, (x = if k = 0 then G else p) → Post (some (.inl x)) m2 := fun x hx => h3 x m2 (Or.inr ⟨c, Or.inr ⟨G, p, hG, ⟨p0, by omega⟩, d, hi, hx⟩⟩) (fun k i z => (k2 k i z).trans (km k i z))
          repeat' first
            | refine And.intro ?_ ?_
            | intro _
          all_goals try omega
          · exact fin _ (by rw [if_neg (by omega)])
          · exact fin _ (by rw [if_pos (by omega)])
    have outer : ∀ (f : Nat) (G : Int) (m : smM) (x5 : Option smV), G + f = 6 → 1 ≤ G → keepF mem m → (∀ G' p', 1 ≤ G' → 0 ≤ p' → p' < S 0 0 → G' < G → kpX S q o p' G') → smWp 155 56 [some (oR 11 114), some (.inl q), some (.inl o), some (.inl k), some (.inl G), x5] [] m Post := by
      intro f
      induction f with
      | zero =>
        intro G m x5 hf g1 km hi
        refine smAt [56, 66, 9999] 60 rfl ?_
        repeat' first
          | refine And.intro ?_ ?_
          | intro _
        all_goals try omega
        exact h3 _ m (Or.inr ⟨c, Or.inl ⟨rfl, fun G' p' a b d e => hi G' p' a d e (by omega)⟩⟩) km
      | succ f ih =>
        intro G m x5 hf g1 km hi
        refine smAt [56, 66, 9999] 60 rfl ?_
        repeat' first
          | refine And.intro ?_ ?_
          | intro _
        all_goals try omega
        refine inner G (by omega) (fun m2 km2 hi2 => ih (G + 1) m2 _ (by omega) (by omega) km2 hi2) (S 0 0).toNat 0 m (by omega) (by omega) km (fun G' p' a b d e => hi G' p' a b d (by omega))
    refine smAt [56, 9999] 60 rfl ?_
    exact outer 5 1 m none (by omega) (by omega) km (fun G' p' a b d e => by omega)
  · rw [kx0] at c
    have nn : ∀ w r t, ¬ gp S q o w r t := fun w r t u => c ⟨w, r, t, u⟩
    repeat' first
      | refine And.intro ?_ ?_
      | intro _
    all_goals try omega
    · exact h3 _ m (Or.inl ⟨nn, by rw [if_neg (by omega)]⟩) km
    · exact h3 _ m (Or.inl ⟨nn, by rw [if_pos (by omega)]⟩) km
theorem lw_keptOff (q o k : Int) (hq : smIR q) (ho1 : smIR o) (hkk : smIR k) (hN : N ≤ 900000) (h : jI N mem) : both N 94 155 [.inl q, .inl o, .inl k] mem := by
  have hj := jI_rf hN h
  obtain ⟨S, S1, S2, n, d, h⟩ := h
  obtain ⟨a1, a2, a3, -⟩ := id h
  have hM : N ≤ N + 1000 ∧ N + 1000 ≤ 1000000 := by have := a1.1; omega
  refine pC_keptOff q o k hq ho1 hkk a2 a1 (fun c => ?_) (fun c1 c2 => ?_) (fun c1 c2 x m1 g1 g2 => ?_)
  · refine pR_keptOff q o k hq ho1 hkk a3 a1 (fun _ => ⟨agr_rf _, hj⟩) (fun z => absurd z c) (fun z => absurd z c)
  · refine pR_keptOff q o k hq ho1 hkk a3 a1 (fun z => absurd c1 z) (fun _ _ => ⟨agr_rf _, hj⟩) (fun _ z => absurd z c2)
  · refine pR_keptOff q o k hq ho1 hkk (rC_eqR (keepC_eqR g2) a3) a1 (fun z => absurd c1 z) (fun _ z => absurd c2 z) (fun _ _ u m2 r1 r2 => ?_)
    rw [kpA_uni g1 r1]
    exact ⟨agr_rf _, S, S1, S2, n, d, jO_keep h hM g2 r2⟩
end
