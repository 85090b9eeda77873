/-! forbidden, reference -/
def ntR (S : sS) (i : Nat) (c : Int) (n : Nat) : Prop := (0 ≤ c ∧ c < 64) ∧ ∀ j : Nat, j < 6 → (bB c j ↔ j < n ∧ j ≠ i ∧ bB (S 15 0) i ∧ bB (S 15 0) j ∧ mE S i j)
def kL (mem mem' : smM) : Prop := ∀ k i, (k = 114 → i ≠ 28 ∧ i ≠ 29 ∧ i ≠ 30 ∧ i ≠ 31) → k ≠ 133 → mem' k i = mem k i
theorem kL_keep {a b : smM} (h : kL a b) : keepR a b := ⟨fun k i hk => h k i (fun z => by omega) (by omega), fun j hj => h 114 j (fun _ => by omega) (by omega)⟩
theorem or_064 : ∀ a : Int, 0 ≤ a → a < (64 : Nat) → smOr a 0 = a := fin1 64 (by decide +kernel)
section
variable {mem : smM} {Post : Option smV → smM → Prop} {N : Int} {S : sS}
set_option maxRecDepth 4000 in
theorem fbR_14 (w : Int) (hk : rC mem S) (ho : ok N S) (h : ∀ m x3, (∀ i : Nat, i < 6 → ntR S i (m 133 i) 6) → kL mem m → smWp 166 99 [some (oR 11 114), some (.inl w), some (.inl 6), x3, none, none] [] m Post) : smWp 166 14 [some (oR 11 114), some (.inl w), some (.inl 0), none, none, none] [] mem Post := by
  have oB := ho.2.2.1.1
  have kmk : ∀ m, kL mem m → rC m S := fun m e => rC_keep (kL_keep e) hk
  have inner : ∀ (f : Nat) (i j : Nat) (m : smM), j + f = 6 → i < 6 → kL mem m → (∀ i' : Nat, i' < i → ntR S i' (m 133 i') 6) → ntR S i (m 133 i) j → (∀ m, kL mem m → (∀ i' : Nat, i' < i + 1 → ntR S i' (m 133 i') 6) → smWp 166 14 [some (oR 11 114), some (.inl w), some (.inl ((i : Int) + 1)), some (.inl 6), none, none] [] m Post) → smWp 166 29 [some (oR 11 114), some (.inl w), some (.inl (i : Int)), some (.inl (j : Int)), none, none] [] m Post := by
    intro f
    induction f with
    | zero =>
      intro i j m hf hi km hp hc K
      have e : j = 6 := by omega
      subst e
      refine smAt [14, 29, 9999] 60 rfl ?_
      repeat' first
        | refine And.intro ?_ ?_
        | intro _
      all_goals try omega
      refine K m km (fun i' x => ?_)
      by_cases c : i' = i
      · rw [c]; exact hc
      · exact hp i' (by omega)
    | succ f ih =>
      intro i j m hf hi km hp hc K
      have rC1 := kmk m km
      have kB : m 114 11 = S 15 0 := rC1.2.1.1
      have ej : ((j + 1 : Nat) : Int) = (j : Int) + 1 := by omega
      have nx : ∀ m' x, kL mem m' → (∀ y, m' 133 y = m 133 y) → (x = smOr (m 133 i) (smShl 1 j) ∧ j ≠ i ∧ bB (S 15 0) i ∧ bB (S 15 0) j ∧ mE S i j ∨ x = smOr (m 133 i) 0 ∧ ¬ (j ≠ i ∧ bB (S 15 0) i ∧ bB (S 15 0) j ∧ mE S i j)) → smWp 166 29 [some (oR 11 114), some (.inl w), some (.inl (i : Int)), some (.inl ((j : Int) + 1)), none, none] [] (smU m' 133 i x) Post := by
        intro m' x km' em hx
        have g := ih i (j + 1) (smU m' 133 i x) (by omega) hi (fun k q x y => by rw [smU_ne y]; exact km' k q x y) (fun i' x => by rw [smU_d (by omega), em]; exact hp i' x) ?_ K
        · rw [ej] at g; exact g
        · rw [smU_s]
          rcases hx with ⟨e, c⟩ | ⟨e, c⟩
          · have o1 := or_lt64 (m 133 i) j (by have := hc.1; omega) (by have := hc.1; omega) (by omega) (by omega)
            have o2 := or_bB64 (m 133 i) j (by have := hc.1; omega) (by have := hc.1; omega) (by omega) (by omega)
            rw [e]
            refine ⟨o1, fun j' x => ?_⟩
            have o3 := o2 j' x
            have o4 := hc.2 j' x
            unfold bB at *
            rw [o3, o4]
            constructor
            · rintro (z | z)
              · exact ⟨by omega, z.2⟩
              · have e : j' = j := by omega
                subst e
                exact ⟨by omega, c⟩
            · intro z
              by_cases d : j' = j
              · right; omega
              · left; exact ⟨by omega, z.2⟩
          · rw [e, or_064 _ hc.1.1 hc.1.2]
            refine ⟨hc.1, fun j' x => ?_⟩
            rw [hc.2 j' x]
            constructor
            · intro z; exact ⟨by omega, z.2⟩
            · intro z
              refine ⟨?_, z.2⟩
              by_cases d : j' = j
              · subst d; exact absurd z.2 c
              · omega
      refine smAt [14, 29, 69, 9999] 60 rfl ?_
      repeat' first
        | refine And.intro ?_ ?_
        | intro _
        | (show smRun _ _ _ _; first | with_reducible refine ru_has _ _ (fun w1 => ?_) (fun w1 => ?_))
      all_goals try omega
      · exact nx m _ km (fun _ => rfl) (Or.inr ⟨rfl, fun c => c.1 (by omega)⟩)
      · have bi : bB (S 15 0) (i : Int) := by rw [← kB]; assumption
        have bj : bB (S 15 0) (j : Int) := by rw [← kB]; assumption
        refine smAt [14, 29, 9999] 60 rfl ?_
        refine ru_meetOf i j ⟨by omega, bi⟩ ⟨by omega, bj⟩ rC1 ho (fun v m1 g1 g2 => ?_)
        have mE1 := mE_W ho ⟨by omega, bi⟩ ⟨by omega, bj⟩ g1
        have km1 : kL mem m1 := fun k q x y => (g2 k q x).trans (km k q x y)
        have em : ∀ x, m1 133 x = m 133 x := fun x => g2 133 x (by omega)
        have hv : -6 ≤ v ∧ v ≤ 999 := by rcases g1 with c | c <;> omega
        repeat' first
          | refine And.intro ?_ ?_
          | intro _
        all_goals try omega
        · exact nx m1 _ km1 em (Or.inr ⟨rfl, fun c => by have := mE1.mpr c.2.2.2; omega⟩)
        · exact nx m1 _ km1 em (Or.inl ⟨rfl, by omega, bi, bj, mE1.mp (by omega)⟩)
      · refine nx m _ km (fun _ => rfl) (Or.inr ⟨rfl, fun c => w1 ?_⟩)
        rw [kB]; exact c.2.2.1
      · refine nx m _ km (fun _ => rfl) (Or.inr ⟨rfl, fun c => w1 ?_⟩)
        rw [kB]; exact c.2.1
  have outer : ∀ (f : Nat) (i : Nat) (m : smM) (x3 : Option smV), i + f = 6 → kL mem m → (∀ i' : Nat, i' < i → ntR S i' (m 133 i') 6) → smWp 166 14 [some (oR 11 114), some (.inl w), some (.inl (i : Int)), x3, none, none] [] m Post := by
    intro f
    induction f with
    | zero =>
      intro i m x3 hf km hp
      have e : i = 6 := by omega
      subst e
      refine smAt [14, 29, 99, 9999] 60 rfl ?_
      repeat' first
        | refine And.intro ?_ ?_
        | intro _
      all_goals try omega
      exact h m x3 hp km
    | succ f ih =>
      intro i m x3 hf km hp
      refine smAt [14, 29, 9999] 60 rfl ?_
      repeat' first
        | refine And.intro ?_ ?_
        | intro _
      all_goals try omega
      refine inner 6 i 0 (smU m 133 i 0) (by omega) (by omega) (fun k q x y => by rw [smU_ne y]; exact km k q x y) (fun i' x => by rw [smU_d (by omega)]; exact hp i' x) ?_ (fun m2 km2 hp2 => ?_)
      · rw [smU_s]
        refine ⟨by omega, fun j x => ⟨fun z => absurd z (bB_006 j (by omega) (by omega)), fun z => by omega⟩⟩
      · exact ih (i + 1) m2 _ (by omega) km2 hp2
  exact outer 6 0 mem none (by omega) (fun _ _ _ _ => rfl) (fun i' x => by omega)
end
