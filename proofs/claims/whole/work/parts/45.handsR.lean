/-! hands, reference -/
section
variable {mem : smM} {Post : Option smV → smM → Prop} {N : Int} {S : sS}
set_option maxRecDepth 4000 in
theorem pR_hands (w : Int) (hw : smIR w) (hk : rC mem S) (ho : ok N S) (h0 : ¬ (0 ≤ w ∧ w ≤ 1) → Post (some (.inl (-2))) mem) (h1 : 0 ≤ w ∧ w ≤ 1 → ∀ v m, lxR (smShl 1 (S 0 0)) (hdV S) v → keepR mem m → Post (some (.inl (hdA w v))) m) : smRun 168 [oR 11 114, .inl w] mem Post := by
  have oP := ho.2.1.1
  have hM := sh_9 (S 0 0) (by omega) (by omega)
  have inner : ∀ (f i : Nat) (found set al : Int) (A : Prop) (m : smM), i + f = 6 → (0 ≤ set ∧ set < 512) → keepF mem m → (al = 1 ∧ A ∧ (∀ i' : Nat, i' < i → bB (S 15 0) i' → hdW S i' set) ∨ al = 0 ∧ ¬ (A ∧ hdV S set)) → (∀ m al x5, keepF mem m → (al = 1 ∧ A ∧ hdV S set ∨ al = 0 ∧ ¬ (A ∧ hdV S set)) → smWp 168 104 [some (oR 11 114), some (.inl w), some (.inl found), some (.inl set), some (.inl al), x5] [] m Post) → smWp 168 52 [some (oR 11 114), some (.inl w), some (.inl found), some (.inl set), some (.inl al), some (.inl (i : Int))] [] m Post := by
    intro f
    induction f with
    | zero =>
      intro i found set al A m hf hs km hp K
      refine smAt [17, 52, 104, 9999] 60 rfl ?_
      repeat' first
        | refine And.intro ?_ ?_
        | intro _
      all_goals try omega
      refine K m al _ km ?_
      rcases hp with ⟨e, a, b⟩ | z
      · exact Or.inl ⟨e, a, fun i' x => b i' (by omega)⟩
      · exact Or.inr z
    | succ f ih =>
      intro i found set al A m hf hs km hp K
      have rC1 := rC_keep (keepF_keep km) hk
      have kB : m 114 11 = S 15 0 := rC1.2.1.1
      have ei : ((i + 1 : Nat) : Int) = (i : Int) + 1 := by omega
      rcases hp with ⟨e, hA, hp⟩ | ⟨e, hp⟩
      · subst e
        have nx : ∀ m2, keepF mem m2 → (bB (S 15 0) i → hdW S i set) → smWp 168 52 [some (oR 11 114), some (.inl w), some (.inl found), some (.inl set), some (.inl 1), some (.inl ((i : Int) + 1))] [] m2 Post := by
          intro m2 km2 z
          have g := ih (i + 1) found set 1 A m2 (by omega) hs km2 (Or.inl ⟨rfl, hA, fun i' x => ?_⟩) K
          · rw [ei] at g; exact g
          · by_cases d : i' = i
            · rw [d]; exact z
            · exact hp i' (by omega)
        refine smAt [17, 52, 76, 104, 9999] 60 rfl ?_
        repeat' first
          | refine And.intro ?_ ?_
          | intro _
          | (show smRun _ _ _ _; first | with_reducible refine ru_has _ _ (fun w1 => ?_) (fun w1 => ?_))
        all_goals try omega
        · have li : liB S (i : Int) := ⟨by omega, by rw [← kB]; exact w1⟩
          have oi := ok_thr ho li
          refine smAt [17, 52, 104, 9999] 60 rfl ?_
          refine ru_flyListedH i set li rC1 ho (by omega) (fun m2 t2 e2 => ?_)
          have km2 : keepF mem m2 := fun k q x => (e2 k q x).trans (km k q x)
          have hi := hand_iff (hd := S 1) (cb := cbH set (wh S)) (n := S 0 0) (p := S 18 i) oi.2.1
          rw [← t2.2.1] at hi
          have hw2 : m2 114 28 = 2 ↔ hdW S i set := by
            rw [hi]
            have ec : ∀ q, cbH set (wh S) q = true ↔ bB set q := by
              intro q
              unfold cbH
              rw [if_neg (by omega), decide_eq_true_eq]
            simp only [ec]
            exact Iff.rfl
          have b2 := flH_in (S 1) (cbH set (wh S)) (S 0 0) (S 18 i) (S 19 i) (S 20 i) (S 21 i) (flT (S 1) (cbH set (wh S)) (S 0 0) (S 18 i) (S 19 i) (S 20 i) (S 21 i))
          rw [← t2.2.1] at b2
          repeat' first
            | refine And.intro ?_ ?_
            | intro _
          all_goals try omega
          · have g := ih (i + 1) found set 0 A m2 (by omega) hs km2 (Or.inr ⟨rfl, fun c => ?_⟩) K
            · rw [ei] at g; exact g
            · have := hw2.mpr (c.2 i (by omega) li.2)
              omega
          · exact nx m2 km2 (fun _ => hw2.mp (by assumption))
        · refine nx m km (fun z => absurd ?_ w1)
          rw [kB]; exact z
      · subst e
        refine smAt [17, 52, 104, 9999] 60 rfl ?_
        repeat' first
          | refine And.intro ?_ ?_
          | intro _
          | (show smRun _ _ _ _; first | with_reducible refine ru_has _ _ (fun w1 => ?_) (fun w1 => ?_))
        all_goals try omega
        exact K m 0 _ km (Or.inr ⟨rfl, hp⟩)
  have loop : 0 ≤ w ∧ w ≤ 1 → ∀ (f : Nat) (set found : Int) (m : smM) (x4 x5 : Option smV), set + f = smShl 1 (S 0 0) → 0 ≤ set → keepF mem m → lxR set (hdV S) found → smWp 168 17 [some (oR 11 114), some (.inl w), some (.inl found), some (.inl set), x4, x5] [] m Post := by
    intro hww f
    induction f with
    | zero =>
      intro set found m x4 x5 hf s0 km hl
      have kP : m 114 0 = S 0 0 := (rC_keep (keepF_keep km) hk).1.1
      have hfo := lxR_in hl
      have hM2 := hM
      have hf2 := hf
      rw [← kP] at hM2 hf2
      rw [show set = smShl 1 (S 0 0) by omega] at hl
      have h9 := h1 hww found m hl (keepF_keep km)
      unfold hdA at h9
      refine smAt [17, 52, 104, 9999] 60 rfl ?_
      repeat' first
        | refine And.intro ?_ ?_
        | intro _
        | (show smRun _ _ _ _; first | with_reducible refine ru_bits _ ?_)
      all_goals try omega
      · rw [if_pos (by omega), show (-6 : Int) = found by omega] at h9; exact h9
      · rw [if_neg (by omega), if_pos (by omega)] at h9; exact h9
      · rw [if_neg (by omega), if_neg (by omega)] at h9; exact h9
    | succ f ih =>
      intro set found m x4 x5 hf s0 km hl
      have kP : m 114 0 = S 0 0 := (rC_keep (keepF_keep km) hk).1.1
      have hfo := lxR_in hl
      have hM2 := hM
      have hf2 := hf
      rw [← kP] at hM2 hf2
      have p1 := pc_9 set s0 (by omega)
      have rest : ∀ al, (al = 1 ∧ (found < 0 ∨ fPc set < fPc found) ∨ al = 0 ∧ ¬ (found < 0 ∨ fPc set < fPc found)) → smWp 168 52 [some (oR 11 114), some (.inl w), some (.inl found), some (.inl set), some (.inl al), some (.inl 0)] [] m Post := by
        intro al hal
        refine inner 6 0 found set al (found < 0 ∨ fPc set < fPc found) m (by omega) ⟨s0, by omega⟩ km ?_ (fun m2 al2 z5 km2 hal2 => ?_)
        · rcases hal with ⟨e, c⟩ | ⟨e, c⟩
          · exact Or.inl ⟨e, c, fun i' x => by omega⟩
          · exact Or.inr ⟨e, fun z => c z.1⟩
        · rcases hal2 with ⟨e, c1, c2⟩ | ⟨e, c⟩
          · subst e
            refine smAt [17, 9999] 60 rfl ?_
            repeat' first
              | refine And.intro ?_ ?_
              | intro _
            all_goals try omega
            exact ih (set + 1) set m2 _ _ (by omega) (by omega) km2 (lxR_yes s0 hl c2 c1)
          · subst e
            refine smAt [17, 9999] 60 rfl ?_
            repeat' first
              | refine And.intro ?_ ?_
              | intro _
            all_goals try omega
            refine ih (set + 1) found m2 _ _ (by omega) (by omega) km2 (lxR_no hl ?_)
            by_cases z : hdV S set
            · right
              have z2 : ¬ (found < 0 ∨ fPc set < fPc found) := fun q => c ⟨q, z⟩
              omega
            · exact Or.inl z
      by_cases hfn : found < 0
      · refine smAt [17, 52, 104, 9999] 60 rfl ?_
        repeat' first
          | refine And.intro ?_ ?_
          | intro _
          | (show smRun _ _ _ _; first | with_reducible refine ru_bits _ ?_)
        all_goals try omega
        exact rest 1 (Or.inl ⟨rfl, Or.inl hfn⟩)
      · have p2 := pc_9 found (by omega) (by omega)
        refine smAt [17, 52, 104, 9999] 60 rfl ?_
        repeat' first
          | refine And.intro ?_ ?_
          | intro _
          | (show smRun _ _ _ _; first | with_reducible refine ru_bits _ ?_)
        all_goals try omega
        · exact rest 0 (Or.inr ⟨rfl, fun z => by omega⟩)
        · exact rest 1 (Or.inl ⟨rfl, Or.inr (by omega)⟩)
  refine smGo [17, 9999] 60 rfl ?_
  repeat' first
    | refine And.intro ?_ ?_
    | intro _
    | (show smRun _ _ _ _; first | with_reducible refine ru_in _ _ _ hw ?_ ?_ ?_ ?_)
    | (show Post _ _; first | exact h0 (by omega))
  all_goals try omega
  exact loop (by omega) (smShl 1 (S 0 0)).toNat 0 (-6) mem none none (by omega) (by omega) (fun _ _ _ => rfl) lxR_0
theorem lw_hands (w : Int) (hw : smIR w) (hN : N ≤ 900000) (h : jI N mem) : both N 102 168 [.inl w] mem := by
  have hj := jI_rf hN h
  obtain ⟨S, S1, S2, n, d, h⟩ := h
  obtain ⟨a1, a2, a3, -⟩ := id h
  have hM : N ≤ N + 1000 ∧ N + 1000 ≤ 1000000 := by have := a1.1; omega
  refine pC_hands w hw a2 a1 (fun c => ?_) (fun c v m g1 g2 => ?_)
  · refine pR_hands w hw a3 a1 (fun _ => ⟨agr_rf _, hj⟩) (fun z => absurd z c)
  · refine pR_hands w hw (rC_eqR (keepC_eqR g2) a3) a1 (fun z => absurd c z) (fun _ u m2 r1 r2 => ?_)
    rw [lxR_uni g1 r1]
    exact ⟨agr_rf _, S, S1, S2, n, d, jO_keep h hM g2 r2⟩
end
