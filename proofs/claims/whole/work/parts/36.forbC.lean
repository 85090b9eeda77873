/-! forbidden, class -/
def lexR (V : Int → Prop) (v : Int) : Prop := (0 ≤ v ∧ v < 64) ∧ V v ∧ ∀ u, 0 ≤ u → u < 64 → V u → fPc v < fPc u ∨ (fPc v = fPc u ∧ v ≤ u)
theorem lexR_uni {V : Int → Prop} {v u : Int} (h : lexR V v) (g : lexR V u) : v = u := by
  have h1 := h.2.2 u g.1.1 g.1.2 g.2.1
  have h2 := g.2.2 v h.1.1 h.1.2 h.2.1
  omega
/-- what is left meets nobody -/
def frV (S : sS) (set : Int) : Prop := smAnd set (smXor (S 15 0) (-1)) = 0 ∧ ∀ i j : Nat, i < 6 → j < i → bB (S 15 0) i → ¬ bB set i → bB (S 15 0) j → ¬ bB set j → ¬ mE S i j
def ntC (S : sS) (i : Nat) (c : Int) (n : Nat) : Prop := (0 ≤ c ∧ c < 64) ∧ ∀ j : Nat, j < 6 → (bB c j ↔ j < n ∧ bB (S 15 0) i ∧ bB (S 15 0) j ∧ mE S i j)
def kN (mem mem' : smM) : Prop := ∀ k i, k < 105 ∨ 111 < k → mem' k i = mem k i
theorem kN_keep {a b : smM} (h : kN a b) : keepC a b := ⟨fun k i hk => h k i (by omega), h 93 0 (by omega)⟩
section
variable {mem : smM} {Post : Option smV → smM → Prop} {N : Int} {S : sS}
set_option maxRecDepth 4000 in
theorem ru_noteMeetings (hk : kC mem S) (ho : ok N S) (hs : scS mem S) (h : ∀ m, (∀ i : Nat, i < 6 → ntC S i (m 111 i) i) → kN mem m → Post none m) : smRun 31 [oR 4 104, oR 8 16, oR 6 95] mem Post := by
  have oB := ho.2.2.1.1
  have kmk : ∀ m, kN mem m → kC m S ∧ scS m S := fun m e => ⟨kC_of (fun k q x => e k q (by omega)) hk, ⟨by rw [e 95 0 (by omega)]; exact hs.1, fun p x y => by rw [e 96 p (by omega), e 97 p (by omega)]; exact hs.2 p x y⟩⟩
  have inner : ∀ (f : Nat) (i j : Nat) (m : smM), j + f = i → i < 6 → kN mem m → (∀ i' : Nat, i' < i → ntC S i' (m 111 i') i') → ntC S i (m 111 i) j → (∀ m, kN mem m → (∀ i' : Nat, i' < i + 1 → ntC S i' (m 111 i') i') → smWp 31 2 [some (oR 4 104), some (oR 8 16), some (oR 6 95), some (.inl ((i : Int) + 1)), some (.inl (i : Int))] [] m Post) → smWp 31 18 [some (oR 4 104), some (oR 8 16), some (oR 6 95), some (.inl (i : Int)), some (.inl (j : Int))] [] m Post := by
    intro f
    induction f with
    | zero =>
      intro i j m hf hi km hp hc K
      have e : j = i := by omega
      subst e
      refine smAt [2, 18, 9999] 60 rfl ?_
      repeat' first
        | refine And.intro ?_ ?_
        | intro _
      all_goals try omega
      refine K m km (fun i' x => ?_)
      by_cases c : i' = j
      · rw [c]; exact hc
      · exact hp i' (by omega)
    | succ f ih =>
      intro i j m hf hi km hp hc K
      obtain ⟨kC1, sC1⟩ := kmk m km
      have kB := kC1.2.1.1
      have hij : smIR (i : Int) := by unfold smIR; omega
      have hjj : smIR (j : Int) := by unfold smIR; omega
      have ej : ((j + 1 : Nat) : Int) = (j : Int) + 1 := by omega
      have no : ∀ m', kN mem m' → (∀ x, m' 111 x = m 111 x) → ¬ (bB (S 15 0) i ∧ bB (S 15 0) j ∧ mE S i j) → smWp 31 18 [some (oR 4 104), some (oR 8 16), some (oR 6 95), some (.inl (i : Int)), some (.inl ((j : Int) + 1))] [] m' Post := by
        intro m' km' em c
        have g := ih i (j + 1) m' (by omega) hi km' (fun i' x => by rw [em]; exact hp i' x) ?_ K
        · rw [ej] at g; exact g
        · rw [em]
          refine ⟨hc.1, fun j' x => ?_⟩
          rw [hc.2 j' x]
          constructor
          · intro z; exact ⟨by omega, z.2⟩
          · intro z
            refine ⟨?_, z.2⟩
            by_cases d : j' = j
            · subst d; exact absurd z.2 c
            · omega
      refine smAt [2, 18, 41, 68, 9999] 60 rfl ?_
      repeat' first
        | refine And.intro ?_ ?_
        | intro _
        | (show smRun _ _ _ _; first | with_reducible refine ru_listedHas _ hij ?_ ?_ | with_reducible refine ru_listedHas _ hjj ?_ ?_)
      all_goals try omega
      · have bi : bB (S 15 0) (i : Int) := by rw [← kB]; assumption
        have bj : bB (S 15 0) (j : Int) := by rw [← kB]; assumption
        refine smAt [2, 18, 68, 9999] 60 rfl ?_
        refine ru_firstMeeting i j ⟨by omega, bi⟩ ⟨by omega, bj⟩ kC1 ho sC1 (fun v m1 g1 g2 => ?_)
        have mE1 := mE_R g1
        have km1 : kN mem m1 := fun k q x => (g2 k q (by omega)).trans (km k q x)
        have em : ∀ x, m1 111 x = m 111 x := fun x => g2 111 x (by omega)
        have hv : -6 ≤ v ∧ v ≤ 999 := by rcases g1 with c | c <;> omega
        repeat' first
          | refine And.intro ?_ ?_
          | intro _
        all_goals try omega
        · refine smAt [2, 18, 9999] 60 rfl ?_
          exact no m1 km1 em (fun c => mE1.mpr c.2.2 (by assumption))
        · refine smAt [2, 18, 9999] 60 rfl ?_
          have mEt : mE S i j := mE1.mp (by assumption)
          have o1 := or_lt64 (m 111 i) j (by have := hc.1; omega) (by have := hc.1; omega) (by omega) (by omega)
          have o2 := or_bB64 (m 111 i) j (by have := hc.1; omega) (by have := hc.1; omega) (by omega) (by omega)
          have g := ih i (j + 1) (smU m1 111 i (smOr (m1 111 i) (smShl 1 j))) (by omega) hi (fun k q x => by rw [smU_ne (by omega)]; exact km1 k q x) (fun i' x => by rw [smU_d (by omega), em]; exact hp i' x) ?_ K
          · rw [ej] at g; exact g
          · rw [smU_s, em]
            refine ⟨o1, fun j' x => ?_⟩
            have o3 := o2 j' x
            have o4 := hc.2 j' x
            unfold bB at *
            rw [o3, o4]
            constructor
            · rintro (z | z)
              · exact ⟨by omega, z.2⟩
              · have e : j' = j := by omega
                subst e
                exact ⟨by omega, bi, bj, mEt⟩
            · intro z
              by_cases d : j' = j
              · right; omega
              · left; exact ⟨by omega, z.2⟩
      · refine smAt [2, 18, 9999] 60 rfl ?_
        refine no m km (fun _ => rfl) (fun c => ?_)
        have c2 := c.2.1
        rw [← kB] at c2
        omega
      · refine smAt [2, 18, 9999] 60 rfl ?_
        refine no m km (fun _ => rfl) (fun c => ?_)
        have c2 := c.1
        rw [← kB] at c2
        omega
  have outer : ∀ (f : Nat) (i : Nat) (m : smM) (x4 : Option smV), i + f = 6 → kN mem m → (∀ i' : Nat, i' < i → ntC S i' (m 111 i') i') → smWp 31 2 [some (oR 4 104), some (oR 8 16), some (oR 6 95), some (.inl (i : Int)), x4] [] m Post := by
    intro f
    induction f with
    | zero =>
      intro i m x4 hf km hp
      refine smAt [2, 18, 9999] 60 rfl ?_
      repeat' first
        | refine And.intro ?_ ?_
        | intro _
      all_goals try omega
      exact h m (fun i' x => hp i' (by omega)) km
    | succ f ih =>
      intro i m x4 hf km hp
      refine smAt [2, 18, 9999] 60 rfl ?_
      repeat' first
        | refine And.intro ?_ ?_
        | intro _
      all_goals try omega
      refine inner i i 0 (smU m 111 i 0) (by omega) (by omega) (fun k q x => by rw [smU_ne (by omega)]; exact km k q x) (fun i' x => by rw [smU_d (by omega)]; exact hp i' x) ?_ (fun m2 km2 hp2 => ?_)
      · rw [smU_s]
        refine ⟨by omega, fun j x => ⟨fun z => absurd z (bB_006 j (by omega) (by omega)), fun z => by omega⟩⟩
      · exact ih (i + 1) m2 _ (by omega) km2 hp2
  refine smGo [2, 9999] 60 rfl ?_
  exact outer 6 0 mem none (by omega) (fun _ _ _ => rfl) (fun i' x => by omega)
end
