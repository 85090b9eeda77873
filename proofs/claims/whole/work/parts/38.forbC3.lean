section
variable {mem : smM} {Post : Option smV → smM → Prop} {N : Int} {S : sS}
theorem pc_in : ∀ a : Int, 0 ≤ a → a < (64 : Nat) → 0 ≤ fPc a ∧ fPc a ≤ 9 := fin1 64 (by decide +kernel)
theorem su_in : ∀ a b : Int, 0 ≤ a → a < (64 : Nat) → 0 ≤ b → b < (64 : Nat) → 0 ≤ smAnd a (smXor b (-1)) ∧ smAnd a (smXor b (-1)) < 64 := df_in
/-- apart, by the notes: nobody who is left meets -/
theorem apC_frV (hn : ∀ i : Nat, i < 6 → ntC S i (mem 111 i) i) (hB : 0 ≤ S 15 0 ∧ S 15 0 < 64) (set : Int) (hs : 0 ≤ set ∧ set < 64) : apC mem (smAnd (S 15 0) (smXor set (-1))) ↔ ∀ i j : Nat, i < 6 → j < i → bB (S 15 0) i → ¬ bB set i → bB (S 15 0) j → ¬ bB set j → ¬ mE S i j := by
  have d1 := df_in (S 15 0) set hB.1 hB.2 hs.1 hs.2
  have d2 := df_bB (S 15 0) set hB.1 hB.2 hs.1 hs.2
  constructor
  · intro a i j hi hj c1 c2 c3 c4 c5
    have a1 := a i hi ((d2 i hi).mpr ⟨c1, c2⟩)
    have a2 := (an_0 (mem 111 i) _ (hn i hi).1.1 (hn i hi).1.2 d1.1 d1.2).mp a1 j (by omega)
    exact a2 ⟨((hn i hi).2 j (by omega)).mpr ⟨hj, c1, c3, c5⟩, (d2 j (by omega)).mpr ⟨c3, c4⟩⟩
  · intro a i hi c
    refine (an_0 (mem 111 i) _ (hn i hi).1.1 (hn i hi).1.2 d1.1 d1.2).mpr (fun j hj z => ?_)
    obtain ⟨z1, z2, z3, z4⟩ := ((hn i hi).2 j hj).mp z.1
    have c1 := (d2 i hi).mp c
    have c2 := (d2 j hj).mp z.2
    exact a i j hi z1 c1.1 c1.2 c2.1 c2.2 z4
set_option maxRecDepth 4000 in
theorem ru_fewestForbidden (hk : kC mem S) (ho : ok N S) (hs : scS mem S) (h : ∀ v m, lexR (frV S) v → kN mem m → Post (some (.inl v)) m) : smRun 34 [oR 4 104, oR 8 16, oR 6 95] mem Post := by
  have oB := ho.2.2.1.1
  refine smGo [14, 9999] 60 rfl ?_
  refine ru_noteMeetings hk ho hs (fun m hn km => ?_)
  have kB : m 16 0 = S 15 0 := (kC_of (fun k q x => km k q (by omega)) hk).2.1.1
  have loop : ∀ (f : Nat) (set best : Int), set = 64 - (f : Int) → 0 ≤ set → (0 ≤ best ∧ best < 64) → frV S best → (best < set ∨ best = S 15 0) → (∀ u, 0 ≤ u → u < set → frV S u → fPc best < fPc u ∨ (fPc best = fPc u ∧ best ≤ u)) → smWp 34 14 [some (oR 4 104), some (oR 8 16), some (oR 6 95), some (.inl best), some (.inl set)] [] m Post := by
    intro f
    induction f with
    | zero =>
      intro set best hf h0 hb hv hl hp
      refine smAt [14, 9999] 60 rfl ?_
      repeat' first
        | refine And.intro ?_ ?_
        | intro _
      all_goals try omega
      exact h best m ⟨hb, hv, fun u x y z => hp u x (by omega) z⟩ km
    | succ f ih =>
      intro set best hf h0 hb hv hl hp
      have s64 : set < 64 := by omega
      have p1 := pc_in set h0 s64
      have p2 := pc_in best hb.1 hb.2
      have a1 := su_in set (S 15 0) h0 s64 oB.1 oB.2
      have a2 := su_in (S 15 0) set oB.1 oB.2 h0 s64
      have hm : ∀ i : Nat, i < 6 → 0 ≤ m 111 i ∧ m 111 i < 64 := fun i x => (hn i x).1
      have no : (frV S set → fPc best ≤ fPc set) → smWp 34 64 [some (oR 4 104), some (oR 8 16), some (oR 6 95), some (.inl best), some (.inl set)] [] m Post := by
        intro c
        refine smAt [14, 9999] 60 rfl ?_
        refine ih (set + 1) best (by omega) (by omega) hb hv (by omega) (fun u x y z => ?_)
        by_cases d : u = set
        · subst d
          have c1 := c z
          by_cases e : fPc best < fPc u
          · exact Or.inl e
          · refine Or.inr ⟨by omega, ?_⟩
            rcases hl with g | g
            · omega
            · have w := su_pc u (S 15 0) h0 s64 oB.1 oB.2 z.1
              rw [g] at e c1 ⊢
              have := w.2 (by omega)
              omega
        · exact hp u x (by omega) z
      rw [← kB] at a1 a2
      refine smAt [14, 33, 64, 9999] 60 rfl ?_
      repeat' first
        | refine And.intro ?_ ?_
        | intro _
      all_goals try omega
      · exact no (fun z => absurd z.1 (by rw [← kB]; assumption))
      · refine smAt [14, 45, 64, 9999] 60 rfl ?_
        refine ru_bitCount _ (by omega) ?_
        refine ru_bitCount _ (by omega) ?_
        repeat' first
          | refine And.intro ?_ ?_
          | intro _
        all_goals try omega
        · exact no (fun z => by omega)
        · refine smAt [14, 64, 61, 9999] 60 rfl ?_
          refine ru_keepsApart _ a2 hm (fun c => ?_) (fun c => ?_)
          · rw [kB, apC_frV hn oB set ⟨h0, s64⟩] at c
            have fv : frV S set := ⟨by rw [← kB]; assumption, c⟩
            repeat' first
              | refine And.intro ?_ ?_
              | intro _
            all_goals try omega
            refine smAt [14, 9999] 60 rfl ?_
            refine ih (set + 1) set (by omega) (by omega) ⟨h0, s64⟩ fv (by omega) (fun u x y z => ?_)
            by_cases d : u = set
            · subst d; exact Or.inr ⟨rfl, by omega⟩
            · have := hp u x (by omega) z
              omega
          · rw [kB, apC_frV hn oB set ⟨h0, s64⟩] at c
            repeat' first
              | refine And.intro ?_ ?_
              | intro _
            all_goals try omega
            exact no (fun z => absurd z.2 c)
  show smWp 34 14 [some (oR 4 104), some (oR 8 16), some (oR 6 95), some (.inl (m 16 0)), some (.inl 0)] [] m Post
  rw [kB]
  refine loop 64 0 (S 15 0) (by omega) (by omega) oB ⟨?_, fun i j _ _ c1 c2 => absurd c1 c2⟩ (Or.inr rfl) (fun u x y => by omega)
  exact (su_0 _ _ oB.1 oB.2 oB.1 oB.2).mpr (fun j _ z => z)
end
