section
variable {mem : smM} {Post : Option smV → smM → Prop} {N : Int} {S : sS}
def apR (mem : smM) (S : sS) (set : Int) (n : Nat) : Prop := ∀ i : Nat, i < n → bB set i ∨ ¬ bB (S 15 0) i ∨ smAnd (mem 133 i) (smXor set (-1)) = 0
theorem apR_frV (hn : ∀ i : Nat, i < 6 → ntR S i (mem 133 i) 6) (set : Int) (hs : 0 ≤ set ∧ set < 64) : apR mem S set 6 ↔ ∀ i j : Nat, i < 6 → j < i → bB (S 15 0) i → ¬ bB set i → bB (S 15 0) j → ¬ bB set j → ¬ mE S i j := by
  constructor
  · intro a i j hi hj c1 c2 c3 c4 c5
    rcases a i hi with a1 | a1 | a1
    · exact c2 a1
    · exact a1 c1
    · have a2 := (su_0 (mem 133 i) set (hn i hi).1.1 (hn i hi).1.2 hs.1 hs.2).mp a1 j (by omega)
      exact c4 (a2 (((hn i hi).2 j (by omega)).mpr ⟨by omega, by omega, c1, c3, c5⟩))
  · intro a i hi
    by_cases c1 : bB set i
    · exact Or.inl c1
    by_cases c2 : bB (S 15 0) i
    · right; right
      refine (su_0 (mem 133 i) set (hn i hi).1.1 (hn i hi).1.2 hs.1 hs.2).mpr (fun j hj z => ?_)
      obtain ⟨z1, z2, z3, z4, z5⟩ := ((hn i hi).2 j hj).mp z
      by_cases c3 : bB set j
      · exact c3
      · exfalso
        by_cases d : j < i
        · exact a i j hi d c2 c1 z4 c3 z5
        · exact a j i hj (by omega) z4 c3 c2 c1 (mE_sy.mp z5)
    · exact Or.inr (Or.inl c2)
/-- the least of as few bits below M; -6: none -/
def lxR (M : Int) (V : Int → Prop) (v : Int) : Prop := (v = -6 ∧ ∀ u, 0 ≤ u → u < M → ¬ V u) ∨ ((0 ≤ v ∧ v < M) ∧ V v ∧ ∀ u, 0 ≤ u → u < M → V u → fPc v < fPc u ∨ (fPc v = fPc u ∧ v ≤ u))
theorem lxR_0 {V : Int → Prop} : lxR 0 V (-6) := Or.inl ⟨rfl, fun u x y => by omega⟩
theorem lxR_in {M : Int} {V : Int → Prop} {v : Int} (h : lxR M V v) : v = -6 ∨ (0 ≤ v ∧ v < M) := by
  rcases h with h | h
  · exact Or.inl h.1
  · exact Or.inr h.1
theorem lxR_yes {V : Int → Prop} {s best : Int} (h0 : 0 ≤ s) (h : lxR s V best) (hv : V s) (hb : best < 0 ∨ fPc s < fPc best) : lxR (s + 1) V s := by
  refine Or.inr ⟨⟨h0, by omega⟩, hv, fun u x y z => ?_⟩
  by_cases e : u = s
  · rw [e]; exact Or.inr ⟨rfl, Int.le_refl _⟩
  · rcases h with ⟨h1, h2⟩ | ⟨h1, h2, h3⟩
    · exact absurd z (h2 u x (by omega))
    · have := h3 u x (by omega) z
      omega
theorem lxR_no {V : Int → Prop} {s best : Int} (h : lxR s V best) (hn : ¬ V s ∨ (0 ≤ best ∧ fPc best ≤ fPc s)) : lxR (s + 1) V best := by
  rcases h with ⟨h1, h2⟩ | ⟨h1, h2, h3⟩
  · refine Or.inl ⟨h1, fun u x y z => ?_⟩
    by_cases e : u = s
    · rw [e] at z
      rcases hn with n | n
      · exact n z
      · omega
    · exact h2 u x (by omega) z
  · refine Or.inr ⟨⟨h1.1, by omega⟩, h2, fun u x y z => ?_⟩
    by_cases e : u = s
    · rw [e] at z ⊢
      rcases hn with n | n
      · exact absurd z n
      · omega
    · exact h3 u x (by omega) z
theorem lxR_uni {M : Int} {V : Int → Prop} {v u : Int} (h : lxR M V v) (g : lxR M V u) : v = u := by
  rcases h with ⟨h1, h2⟩ | ⟨h1, h2, h3⟩ <;> rcases g with ⟨g1, g2⟩ | ⟨g1, g2, g3⟩
  · omega
  · exact absurd g2 (h2 u g1.1 g1.2)
  · exact absurd h2 (g2 v h1.1 h1.2)
  · have := h3 u g1.1 g1.2 g2
    have := g3 v h1.1 h1.2 h2
    omega
theorem lxR_lex {V : Int → Prop} {v u : Int} (h : lxR 64 V v) (h0 : 0 ≤ u) (h1 : u < 64) (hu : V u) : lexR V v := by
  rcases h with ⟨g1, g2⟩ | ⟨g1, g2, g3⟩
  · exact absurd hu (g2 u h0 h1)
  · exact ⟨g1, g2, g3⟩
theorem frV_all (hB : 0 ≤ S 15 0 ∧ S 15 0 < 64) : frV S (S 15 0) := by
  refine ⟨?_, fun i j _ _ c1 c2 => absurd c1 c2⟩
  exact (su_0 _ _ hB.1 hB.2 hB.1 hB.2).mpr (fun j _ z => z)
set_option maxRecDepth 4000 in
theorem fbR_99 (w : Int) (hk : rC mem S) (ho : ok N S) (hn : ∀ i : Nat, i < 6 → ntR S i (mem 133 i) 6) (x2 x3 : Option smV) (h : ∀ v x3 x4 x5, lexR (frV S) v → smWp 166 223 [some (oR 11 114), some (.inl w), some (.inl v), x3, x4, x5] [] mem Post) : smWp 166 99 [some (oR 11 114), some (.inl w), x2, x3, none, none] [] mem Post := by
  have oB := ho.2.2.1.1
  have kB : mem 114 11 = S 15 0 := hk.2.1.1
  have inner : ∀ (f : Nat) (i : Nat) (found set fits : Int) (A : Prop), i + f = 6 → (0 ≤ set ∧ set < 64) → (fits = 1 ∧ A ∧ apR mem S set i ∨ fits = 0 ∧ ¬ (A ∧ apR mem S set 6)) → (∀ fits x5, (fits = 1 ∧ A ∧ apR mem S set 6 ∨ fits = 0 ∧ ¬ (A ∧ apR mem S set 6)) → smWp 166 206 [some (oR 11 114), some (.inl w), some (.inl found), some (.inl set), some (.inl fits), x5] [] mem Post) → smWp 166 146 [some (oR 11 114), some (.inl w), some (.inl found), some (.inl set), some (.inl fits), some (.inl (i : Int))] [] mem Post := by
    intro f
    induction f with
    | zero =>
      intro i found set fits A hf hs hp K
      have e : i = 6 := by omega
      subst e
      refine smAt [104, 146, 206, 9999] 60 rfl ?_
      repeat' first
        | refine And.intro ?_ ?_
        | intro _
      all_goals try omega
      exact K fits _ hp
    | succ f ih =>
      intro i found set fits A hf hs hp K
      have a1 := df_in (mem 133 i) set (hn i (by omega)).1.1 (hn i (by omega)).1.2 hs.1 hs.2
      have ei : ((i + 1 : Nat) : Int) = (i : Int) + 1 := by omega
      rcases hp with ⟨e, hA, hp⟩ | ⟨e, hp⟩
      · subst e
        have nx : (bB set i ∨ ¬ bB (S 15 0) i ∨ smAnd (mem 133 i) (smXor set (-1)) = 0) → smWp 166 146 [some (oR 11 114), some (.inl w), some (.inl found), some (.inl set), some (.inl 1), some (.inl ((i : Int) + 1))] [] mem Post := by
          intro z
          have g := ih (i + 1) found set 1 A (by omega) hs (Or.inl ⟨rfl, hA, fun i' x => ?_⟩) K
          · rw [ei] at g; exact g
          · by_cases d : i' = i
            · rw [d]; exact z
            · exact hp i' (by omega)
        refine smAt [104, 146, 206, 9999] 60 rfl ?_
        repeat' first
          | refine And.intro ?_ ?_
          | intro _
          | (show smRun _ _ _ _; first | with_reducible refine ru_has _ _ (fun w1 => ?_) (fun w1 => ?_))
        all_goals try omega
        · exact nx (Or.inl (by assumption))
        · have g := ih (i + 1) found set 0 A (by omega) hs (Or.inr ⟨rfl, fun c => ?_⟩) K
          · rw [ei] at g; exact g
          · rcases c.2 i (by omega) with z | z | z
            · exact absurd z (by assumption)
            · exact z (by rw [← kB]; assumption)
            · exact absurd z (by assumption)
        · exact nx (Or.inr (Or.inr (by assumption)))
        · exact nx (Or.inr (Or.inl (by rw [← kB]; assumption)))
      · subst e
        refine smAt [104, 146, 206, 9999] 60 rfl ?_
        repeat' first
          | refine And.intro ?_ ?_
          | intro _
          | (show smRun _ _ _ _; first | with_reducible refine ru_has _ _ (fun w1 => ?_) (fun w1 => ?_))
        all_goals try omega
        exact K 0 _ (Or.inr ⟨rfl, hp⟩)
  have loop : ∀ (f : Nat) (set found : Int) (x4 x5 : Option smV), set = 64 - (f : Int) → 0 ≤ set → lxR set (frV S) found → smWp 166 104 [some (oR 11 114), some (.inl w), some (.inl found), some (.inl set), x4, x5] [] mem Post := by
    intro f
    induction f with
    | zero =>
      intro set found x4 x5 hf h0 hl
      have e : set = 64 := by omega
      subst e
      refine smAt [104, 146, 206, 223, 9999] 60 rfl ?_
      repeat' first
        | refine And.intro ?_ ?_
        | intro _
      all_goals try omega
      exact h found _ _ _ (lxR_lex hl oB.1 oB.2 (frV_all oB))
    | succ f ih =>
      intro set found x4 x5 hf h0 hl
      have s64 : set < 64 := by omega
      have hfo := lxR_in hl
      have p1 := pc_in set h0 s64
      have a1 := df_in set (S 15 0) h0 s64 oB.1 oB.2
      have rest : ∀ fits, (fits = 1 ∧ (smAnd set (smXor (S 15 0) (-1)) = 0 ∧ (found < 0 ∨ fPc set < fPc found)) ∨ fits = 0 ∧ ¬ (smAnd set (smXor (S 15 0) (-1)) = 0 ∧ (found < 0 ∨ fPc set < fPc found))) → smWp 166 146 [some (oR 11 114), some (.inl w), some (.inl found), some (.inl set), some (.inl fits), some (.inl 0)] [] mem Post := by
        intro fits hfi
        refine inner 6 0 found set fits (smAnd set (smXor (S 15 0) (-1)) = 0 ∧ (found < 0 ∨ fPc set < fPc found)) (by omega) ⟨h0, s64⟩ ?_ (fun fits x5 hf2 => ?_)
        · rcases hfi with ⟨e, c⟩ | ⟨e, c⟩
          · exact Or.inl ⟨e, c, fun i' x => by omega⟩
          · exact Or.inr ⟨e, fun z => c z.1⟩
        · rw [apR_frV hn set ⟨h0, s64⟩] at hf2
          rcases hf2 with ⟨e, c1, c2⟩ | ⟨e, c⟩
          · subst e
            refine smAt [104, 9999] 60 rfl ?_
            repeat' first
              | refine And.intro ?_ ?_
              | intro _
            all_goals try omega
            exact ih (set + 1) set _ _ (by omega) (by omega) (lxR_yes h0 hl ⟨c1.1, c2⟩ c1.2)
          · subst e
            refine smAt [104, 9999] 60 rfl ?_
            repeat' first
              | refine And.intro ?_ ?_
              | intro _
            all_goals try omega
            refine ih (set + 1) found _ _ (by omega) (by omega) (lxR_no hl ?_)
            by_cases z : frV S set
            · right
              have z2 : ¬ (found < 0 ∨ fPc set < fPc found) := fun q => c ⟨⟨z.1, q⟩, z.2⟩
              omega
            · exact Or.inl z
      rw [← kB] at a1 rest
      by_cases hfn : found < 0
      · refine smAt [104, 146, 206, 9999] 60 rfl ?_
        repeat' first
          | refine And.intro ?_ ?_
          | intro _
        all_goals try omega
        · exact rest 0 (Or.inr ⟨rfl, fun z => absurd z.1 (by assumption)⟩)
        · exact rest 1 (Or.inl ⟨rfl, by assumption, Or.inl hfn⟩)
      · have p2 := pc_in found (by omega) (by omega)
        refine smAt [104, 146, 206, 9999] 60 rfl ?_
        repeat' first
          | refine And.intro ?_ ?_
          | intro _
          | (show smRun _ _ _ _; first | with_reducible refine ru_bits _ ?_)
        all_goals try omega
        · exact rest 0 (Or.inr ⟨rfl, fun z => absurd z.1 (by assumption)⟩)
        · exact rest 0 (Or.inr ⟨rfl, fun z => by have := z.2; omega⟩)
        · exact rest 1 (Or.inl ⟨rfl, by assumption, Or.inr (by omega)⟩)
  refine smAt [104, 9999] 60 rfl ?_
  exact loop 64 0 (-6) none none (by omega) (by omega) lxR_0
theorem pC_forbidden (w : Int) (hw : smIR w) (hk : kC mem S) (ho : ok N S) (h0 : ¬ (0 ≤ w ∧ w ≤ 1) → Post (some (.inl (-2))) mem) (h1 : 0 ≤ w ∧ w ≤ 1 → ∀ v m, lexR (frV S) v → keepC mem m → Post (some (.inl (if w = 0 then fPc v else v))) m) : smRun 100 [oR 10 0, .inl w] mem Post := by
  refine smGo [12, 9999] 60 rfl ?_
  repeat' first
    | refine And.intro ?_ ?_
    | intro _
    | (show smRun _ _ _ _; first | with_reducible refine ru_within _ _ _ hw ?_ ?_ ?_ ?_)
    | (show Post _ _; first | exact h0 (by omega))
  all_goals try omega
  refine smAt [9999] 60 rfl ?_
  refine ru_lookS hk.1 ho.2.1 (fun m1 s1 e1 => ?_)
  refine ru_fewestForbidden (kC_keep e1 hk) ho s1 (fun v m g1 g2 => ?_)
  have h9 := h1 (by omega) v m g1 (keepC_tr e1 (kN_keep g2))
  have hv := g1.1
  repeat' first
    | refine And.intro ?_ ?_
    | intro _
    | (show smRun _ _ _ _; first | with_reducible refine ru_bitCount _ ?_ ?_)
  all_goals try omega
  · rw [if_neg (by omega)] at h9; exact h9
  · rw [if_pos (by omega)] at h9; exact h9
theorem pR_forbidden (w : Int) (hw : smIR w) (hk : rC mem S) (ho : ok N S) (h0 : ¬ (0 ≤ w ∧ w ≤ 1) → Post (some (.inl (-2))) mem) (h1 : 0 ≤ w ∧ w ≤ 1 → ∀ v m, lexR (frV S) v → keepR mem m → Post (some (.inl (if w = 0 then fPc v else v))) m) : smRun 166 [oR 11 114, .inl w] mem Post := by
  refine smGo [14, 9999] 60 rfl ?_
  repeat' first
    | refine And.intro ?_ ?_
    | intro _
    | (show smRun _ _ _ _; first | with_reducible refine ru_in _ _ _ hw ?_ ?_ ?_ ?_)
    | (show Post _ _; first | exact h0 (by omega))
  all_goals try omega
  refine fbR_14 w hk ho (fun m x3 hn km => ?_)
  refine fbR_99 w (rC_keep (kL_keep km) hk) ho hn _ x3 (fun v y3 y4 y5 hv => ?_)
  have h9 := h1 (by omega) v m hv (kL_keep km)
  have hv1 := hv.1
  refine smAt [9999] 60 rfl ?_
  repeat' first
    | refine And.intro ?_ ?_
    | intro _
    | (show smRun _ _ _ _; first | with_reducible refine ru_bits _ ?_)
  all_goals try omega
  · rw [if_neg (by omega)] at h9; exact h9
  · rw [if_pos (by omega)] at h9; exact h9
theorem lw_forbidden (w : Int) (hw : smIR w) (hN : N ≤ 900000) (h : jI N mem) : both N 100 166 [.inl w] mem := by
  have hj := jI_rf hN h
  obtain ⟨S, S1, S2, n, d, h⟩ := h
  obtain ⟨a1, a2, a3, -⟩ := id h
  have hM : N ≤ N + 1000 ∧ N + 1000 ≤ 1000000 := by have := a1.1; omega
  refine pC_forbidden w hw a2 a1 (fun c => ?_) (fun c v m g1 g2 => ?_)
  · refine pR_forbidden w hw a3 a1 (fun _ => ⟨agr_rf _, hj⟩) (fun z => absurd z c)
  · refine pR_forbidden w hw (rC_eqR (keepC_eqR g2) a3) a1 (fun z => absurd c z) (fun _ u m2 r1 r2 => ?_)
    rw [lexR_uni g1 r1]
    exact ⟨agr_rf _, S, S1, S2, n, d, jO_keep h hM g2 r2⟩
end
