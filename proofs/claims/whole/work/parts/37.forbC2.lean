section
variable {mem : smM} {Post : Option smV → smM → Prop} {N : Int} {S : sS}
def apC (mem : smM) (set : Int) : Prop := ∀ i : Nat, i < 6 → bB set i → smAnd (mem 111 i) set = 0
theorem an_in : ∀ a b : Int, 0 ≤ a → a < (64 : Nat) → 0 ≤ b → b < (64 : Nat) → 0 ≤ smAnd a b ∧ smAnd a b < 64 := fin2 64 64 (by decide +kernel)
theorem ru_keepsApart (set : Int) (hs : 0 ≤ set ∧ set < 64) (hm : ∀ i : Nat, i < 6 → 0 ≤ mem 111 i ∧ mem 111 i < 64) (h1 : apC mem set → Post (some (.inl 1)) mem) (h0 : ¬ apC mem set → Post (some (.inl 0)) mem) : smRun 33 [oR 4 104, .inl set] mem Post := by
  have loop : ∀ (f i : Nat), i + f = 6 → (∀ i' : Nat, i' < i → bB set i' → smAnd (mem 111 i') set = 0) → smWp 33 2 [some (oR 4 104), some (.inl set), some (.inl (i : Int))] [] mem Post := by
    intro f
    induction f with
    | zero =>
      intro i hf hp
      refine smAt [2, 9999] 60 rfl ?_
      repeat' first
        | refine And.intro ?_ ?_
        | intro _
      all_goals try omega
      exact h1 (fun i' x => hp i' (by omega))
    | succ f ih =>
      intro i hf hp
      have a1 := an_in (mem 111 i) set (hm i (by omega)).1 (hm i (by omega)).2 hs.1 hs.2
      have b1 := and1 (smShr set (i : Int))
      have ei : ((i + 1 : Nat) : Int) = (i : Int) + 1 := by omega
      have nx : (bB set i → smAnd (mem 111 i) set = 0) → smWp 33 2 [some (oR 4 104), some (.inl set), some (.inl ((i : Int) + 1))] [] mem Post := by
        intro c
        have g := ih (i + 1) (by omega) (fun i' x => ?_)
        · rw [ei] at g; exact g
        · by_cases d : i' = i
          · rw [d]; exact c
          · exact hp i' (by omega)
      refine smAt [2, 9999] 60 rfl ?_
      repeat' first
        | refine And.intro ?_ ?_
        | intro _
      all_goals try omega
      · exact nx (fun c => by unfold bB at c; omega)
      · exact nx (fun _ => by assumption)
      · refine h0 (fun c => ?_)
        have := c i (by omega) (bB_n0 (by assumption))
        omega
  refine smGo [2, 9999] 60 rfl ?_
  exact loop 6 0 (by omega) (fun i' x => by omega)
end
