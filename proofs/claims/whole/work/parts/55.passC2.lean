/-! a minute passes: class, who falls -/
def prJ (i j a b : Nat) : Prop := a < i ∨ b < i ∨ (a = i ∧ b < j) ∨ (b = i ∧ a < j)
def prE (K : List St) (i j k : Nat) (y : St) : Prop := ∃ (b : Nat) (z : St), b ≠ k ∧ K[b]? = some z ∧ (z.1 = y.1 ∧ sHt z = sHt y) ∧ prJ i j k b
section
variable {mem : smM} {Post : Option smV → smM → Prop} {N : Int} {S : sS}
set_option maxRecDepth 4000 in
theorem ru_fallingBits (n : Int) (hn : 4 ≤ n ∧ n ≤ 9) (K : List St) (hc : mem 87 0 = (K.length : Int)) (hl : K.length ≤ 12) (hs : ∀ x ∈ K, stOK n x) (ha : lC mem K) (h : ∀ B, (0 ≤ B ∧ B < 4096) → (∀ (i : Nat) (x : St), K[i]? = some x → (bB B i ↔ fll K x = true)) → Post (some (.inl B)) mem) : smRun 18 [oR 1 87] mem Post := by
  have inner : ∀ (i : Nat) (x : St), K[i]? = some x → (∀ B x3, (0 ≤ B ∧ B < 4096) → (∀ (k : Nat) (y : St), K[k]? = some y → (bB B k ↔ (k < i + 1 ∧ sHt y < 1) ∨ prE K (i + 1) 0 k y)) → smWp 18 4 [some (oR 1 87), some (.inl B), some (.inl ((i : Int) + 1)), x3] [] mem Post) → ∀ (f j : Nat) (B : Int), j + f = K.length → i < j → (0 ≤ B ∧ B < 4096) → (∀ (k : Nat) (y : St), K[k]? = some y → (bB B k ↔ (k < i + 1 ∧ sHt y < 1) ∨ prE K i j k y)) → smWp 18 32 [some (oR 1 87), some (.inl B), some (.inl (i : Int)), some (.inl (j : Int))] [] mem Post := by
    intro i x gx KK f
    have li := ge_lt gx
    obtain ⟨a1, a2, a3, a4, a5, a6⟩ := ha i x gx
    have ox := hs x (ge_mem gx)
    obtain ⟨o1, o2, o3, o4, o5⟩ := id ox
    have sx := sHt_in ox
    induction f with
    | zero =>
      intro j B hf hij hB hb
      refine smAt [4, 32, 9999] 60 rfl ?_
      repeat' first
        | refine And.intro ?_ ?_
        | intro _
      all_goals try omega
      refine KK B _ hB (fun k y gy => ?_)
      have lk := ge_lt gy
      rw [hb k y gy]
      refine or_congr Iff.rfl ⟨?_, ?_⟩
      · rintro ⟨b, z, z1, z2, z3, z4⟩
        have lb := ge_lt z2
        exact ⟨b, z, z1, z2, z3, by unfold prJ at *; omega⟩
      · rintro ⟨b, z, z1, z2, z3, z4⟩
        have lb := ge_lt z2
        exact ⟨b, z, z1, z2, z3, by unfold prJ at *; omega⟩
    | succ f ih =>
      intro j B hf hij hB hb
      obtain ⟨w, gw⟩ := ge_s (show j < K.length by omega)
      obtain ⟨b1, b2, b3, b4, b5, b6⟩ := ha j w gw
      have ow := hs w (ge_mem gw)
      obtain ⟨q1, q2, q3, q4, q5⟩ := id ow
      have sw := sHt_in ow
      have ej : ((j + 1 : Nat) : Int) = (j : Int) + 1 := by omega
      have no : ¬ (x.1 = w.1 ∧ sHt x = sHt w) → smWp 18 80 [some (oR 1 87), some (.inl B), some (.inl (i : Int)), some (.inl (j : Int))] [] mem Post := by
        intro c
        refine smAt [32, 9999] 60 rfl ?_
        have g := ih (j + 1) B (by omega) (by omega) hB (fun k y gy => ?_)
        · rw [ej] at g; exact g
        · rw [hb k y gy]
          refine or_congr Iff.rfl ⟨?_, ?_⟩
          · rintro ⟨b, z, z1, z2, z3, z4⟩
            exact ⟨b, z, z1, z2, z3, by unfold prJ at *; omega⟩
          · rintro ⟨b, z, z1, z2, z3, z4⟩
            refine ⟨b, z, z1, z2, z3, ?_⟩
            by_cases d : (k = i ∧ b = j) ∨ (k = j ∧ b = i)
            · exfalso
              rcases d with ⟨d1, d2⟩ | ⟨d1, d2⟩
              · subst d1; subst d2
                rw [gx] at gy; cases gy
                rw [gw] at z2; cases z2
                exact c ⟨z3.1.symm, z3.2.symm⟩
              · subst d1; subst d2
                rw [gw] at gy; cases gy
                rw [gx] at z2; cases z2
                exact c z3
            · unfold prJ at *; omega
      refine smAt [32, 55, 80, 9999] 60 rfl ?_
      repeat' first
        | refine And.intro ?_ ?_
        | intro _
      all_goals try omega
      · exact no (fun c => by omega)
      · refine smAt [32, 80, 67, 9999] 60 rfl ?_
        repeat' first
          | refine And.intro ?_ ?_
          | intro _
        all_goals try omega
        rw [a6, b6]
        refine smAt [32, 80, 9999] 60 rfl ?_
        repeat' first
          | refine And.intro ?_ ?_
          | intro _
        all_goals try omega
        · exact no (fun c => by omega)
        · have r1 := or_12 hB (show i < 12 by omega)
          have r2 := or_12 r1.1 (show j < 12 by omega)
          have g := ih (j + 1) _ (by omega) (by omega) r2.1 (fun k y gy => ?_)
          · rw [ej, ← or_asN hB (show i < 12 by omega) (show j < 12 by omega)] at g
            have g2 : smWp 18 80 [some (oR 1 87), some (.inl (smOr B (smOr (smShl 1 i) (smShl 1 j)))), some (.inl (i : Int)), some (.inl (j : Int))] [] mem Post := by
              refine smAt [32, 9999] 60 rfl ?_
              exact g
            exact g2
          · have lk := ge_lt gy
            rw [r2.2 k (by omega), r1.2 k (by omega), hb k y gy]
            constructor
            · rintro (((c | ⟨b, z, z1, z2, z3, z4⟩) | c) | c)
              · exact Or.inl c
              · exact Or.inr ⟨b, z, z1, z2, z3, by unfold prJ at *; omega⟩
              · subst c
                rw [gx] at gy; cases gy
                exact Or.inr ⟨j, w, by omega, gw, by omega, by unfold prJ; omega⟩
              · subst c
                rw [gw] at gy; cases gy
                exact Or.inr ⟨i, x, by omega, gx, by omega, by unfold prJ; omega⟩
            · rintro (c | ⟨b, z, z1, z2, z3, z4⟩)
              · exact Or.inl (Or.inl (Or.inl c))
              · by_cases d1 : k = i
                · exact Or.inl (Or.inr d1)
                · by_cases d2 : k = j
                  · exact Or.inr d2
                  · exact Or.inl (Or.inl (Or.inr ⟨b, z, z1, z2, z3, by unfold prJ at *; omega⟩))
  have outer : ∀ (f i : Nat) (B : Int) (x3 : Option smV), i + f = K.length → (0 ≤ B ∧ B < 4096) → (∀ (k : Nat) (y : St), K[k]? = some y → (bB B k ↔ (k < i ∧ sHt y < 1) ∨ prE K i 0 k y)) → smWp 18 4 [some (oR 1 87), some (.inl B), some (.inl (i : Int)), x3] [] mem Post := by
    intro f
    induction f with
    | zero =>
      intro i B x3 hf hB hb
      refine smAt [4, 32, 9999] 60 rfl ?_
      repeat' first
        | refine And.intro ?_ ?_
        | intro _
      all_goals try omega
      refine h B hB (fun k y gy => ?_)
      have lk := ge_lt gy
      rw [hb k y gy, fll_iff gy]
      constructor
      · rintro (c | ⟨b, z, z1, z2, z3, z4⟩)
        · exact Or.inl c.2
        · exact Or.inr ⟨b, z, z1, z2, z3⟩
      · rintro (c | ⟨b, z, z1, z2, z3⟩)
        · exact Or.inl ⟨by omega, c⟩
        · exact Or.inr ⟨b, z, z1, z2, z3, by unfold prJ; omega⟩
    | succ f ih =>
      intro i B x3 hf hB hb
      obtain ⟨x, gx⟩ := ge_s (show i < K.length by omega)
      obtain ⟨a1, a2, a3, a4, a5, a6⟩ := ha i x gx
      have ox := hs x (ge_mem gx)
      obtain ⟨o1, o2, o3, o4, o5⟩ := id ox
      have sx := sHt_in ox
      have ei : ((i + 1 : Nat) : Int) = (i : Int) + 1 := by omega
      have r1 := or_12 hB (show i < 12 by omega)
      have go : ∀ B', (0 ≤ B' ∧ B' < 4096) → (∀ (k : Nat) (y : St), K[k]? = some y → (bB B' k ↔ (k < i + 1 ∧ sHt y < 1) ∨ prE K i 0 k y)) → smWp 18 32 [some (oR 1 87), some (.inl B'), some (.inl (i : Int)), some (.inl ((i : Int) + 1))] [] mem Post := by
        intro B' hB' hb'
        have g := inner i x gx (fun B2 y3 hB2 hb2 => ?_) f (i + 1) B' (by omega) (by omega) hB' (fun k y gy => ?_)
        · rw [ei] at g; exact g
        · have g := ih (i + 1) B2 y3 (by omega) hB2 hb2
          rw [ei] at g; exact g
        · rw [hb' k y gy]
          refine or_congr Iff.rfl ⟨?_, ?_⟩
          · rintro ⟨b, z, z1, z2, z3, z4⟩
            exact ⟨b, z, z1, z2, z3, by unfold prJ at *; omega⟩
          · rintro ⟨b, z, z1, z2, z3, z4⟩
            exact ⟨b, z, z1, z2, z3, by unfold prJ at *; omega⟩
      refine smAt [4, 32, 18, 9999] 60 rfl ?_
      repeat' first
        | refine And.intro ?_ ?_
        | intro _
      all_goals try omega
      rw [a6]
      refine smAt [4, 32, 9999] 60 rfl ?_
      repeat' first
        | refine And.intro ?_ ?_
        | intro _
      all_goals try omega
      · refine go B hB (fun k y gy => ?_)
        rw [hb k y gy]
        refine or_congr ⟨fun c => ⟨by omega, c.2⟩, fun c => ⟨?_, c.2⟩⟩ Iff.rfl
        by_cases d : k = i
        · subst d
          rw [gx] at gy; cases gy
          omega
        · omega
      · refine go _ r1.1 (fun k y gy => ?_)
        have lk := ge_lt gy
        rw [r1.2 k (by omega), hb k y gy]
        constructor
        · rintro ((c | c) | c)
          · exact Or.inl ⟨by omega, c.2⟩
          · exact Or.inr c
          · subst c
            rw [gx] at gy; cases gy
            exact Or.inl ⟨by omega, by omega⟩
        · rintro (c | c)
          · by_cases d : k = i
            · exact Or.inr d
            · exact Or.inl (Or.inl ⟨by omega, c.2⟩)
          · exact Or.inl (Or.inr c)
  refine smGo [4, 9999] 60 rfl ?_
  refine outer K.length 0 0 none (by omega) (by omega) (fun k y gy => ?_)
  have lk := ge_lt gy
  refine ⟨fun z => absurd z (bB_012 k (by omega)), ?_⟩
  rintro (c | ⟨b, z, z1, z2, z3, z4⟩)
  · omega
  · exfalso
    unfold prJ at z4
    omega
set_option maxRecDepth 4000 in
theorem ru_fallDown (n : Int) (hn : 4 ≤ n ∧ n ≤ 9) (K : List St) (hc : mem 87 0 = (K.length : Int)) (hl : K.length ≤ 12) (hs : ∀ x ∈ K, stOK n x) (ha : lC mem K) (h : ∀ m, lC m (K.filter (fun x => !(fll K x))) → m 87 0 = ((K.filter (fun x => !(fll K x))).length : Int) → (∀ p, m 81 p = mem 81 p + cL (cFp K p) K) → (∀ k i, k ≠ 81 → (k < 87 ∨ 92 < k) → m k i = mem k i) → Post none m) : smRun 50 [oR 9 79] mem Post := by
  refine smGo [12, 9999] 60 rfl ?_
  refine ru_fallingBits n hn K hc hl hs ha (fun B hB hb => ?_)
  have loop : ∀ (f i : Nat) (m : smM), i + f = K.length → lC m ((K.take i).filter (fun x => !(fll K x))) → (∀ (j : Nat) (x : St), i ≤ j → K[j]? = some x → aC m j x) → m 87 0 = (K.length : Int) → (∀ p, m 81 p = mem 81 p + cL (cFp K p) (K.take i)) → (∀ k i, k ≠ 81 → (k < 87 ∨ 92 < k) → m k i = mem k i) → smWp 50 12 [some (oR 9 79), some (.inl B), some (.inl (((K.take i).filter (fun x => !(fll K x))).length : Int)), some (.inl (i : Int))] [] m Post := by
    intro f
    induction f with
    | zero =>
      intro i m hf h1 h2 hc2 h3 hx
      have e : K.take i = K := List.take_of_length_le (by omega)
      rw [e] at h1 h3 ⊢
      refine smAt [12, 9999] 60 rfl ?_
      repeat' first
        | refine And.intro ?_ ?_
        | intro _
      all_goals try omega
      refine h _ (fun j x gx => by obtain ⟨d1, d2, d3, d4, d5, d6⟩ := h1 j x gx; exact ⟨d1, d2, d3, d4, d5, by rw [smU_d (by omega)]; exact d6⟩) rfl h3 (fun k q z1 z2 => ?_)
      rw [smU_ne (by omega)]; exact hx k q z1 z2
    | succ f ih =>
      intro i m hf h1 h2 hc2 h3 hx
      obtain ⟨x, gx⟩ := ge_s (show i < K.length by omega)
      have ax := h2 i x (Nat.le_refl i) gx
      obtain ⟨a1, a2, a3, a4, a5, a6⟩ := id ax
      have ox := hs x (ge_mem gx)
      obtain ⟨o1, o2, o3, o4, o5⟩ := id ox
      have ei : ((i + 1 : Nat) : Int) = (i : Int) + 1 := by omega
      have lk : ((K.take i).filter (fun x => !(fll K x))).length ≤ i := by
        have q1 := List.length_filter_le (fun x => !(fll K x)) (K.take i)
        have q2 : (K.take i).length ≤ i := by rw [List.length_take]; omega
        omega
      have hbx := hb i x gx
      have b1 := and1 (smShr B (i : Int))
      have fin : ∀ (m2 : smM) (left : Int), left = (((K.take (i + 1)).filter (fun x => !(fll K x))).length : Int) → lC m2 ((K.take (i + 1)).filter (fun x => !(fll K x))) → (∀ (j : Nat) (x : St), i + 1 ≤ j → K[j]? = some x → aC m2 j x) → m2 87 0 = (K.length : Int) → (∀ p, m2 81 p = mem 81 p + cL (cFp K p) (K.take (i + 1))) → (∀ k i, k ≠ 81 → (k < 87 ∨ 92 < k) → m2 k i = mem k i) → smWp 50 12 [some (oR 9 79), some (.inl B), some (.inl left), some (.inl ((i : Int) + 1))] [] m2 Post := by
        intro m2 left e2 g1 g2 g3 g4 g6
        subst e2
        have g := ih (i + 1) m2 (by omega) g1 g2 g3 g4 g6
        rw [ei] at g; exact g
      refine smAt [12, 31, 52, 9999] 60 rfl ?_
      repeat' first
        | refine And.intro ?_ ?_
        | intro _
      all_goals try omega
      · have nf : fll K x = false := by
          cases c : fll K x with
          | false => rfl
          | true =>
            have := hbx.mpr c
            unfold bB at this
            omega
        have ke : (K.take (i + 1)).filter (fun x => !(fll K x)) = (K.take i).filter (fun x => !(fll K x)) ++ [x] := by rw [ft_tk _ gx, if_pos (by rw [nf]; rfl)]
        refine smAt [12, 9999] 60 rfl ?_
        refine ru_moveStone i _ x (by omega) (by omega) ax (fun m2 c1 bx => ?_)
        refine fin m2 _ ?_ ?_ (fun j y z gy => ?_) ?_ (fun p => ?_) (fun k q z1 z2 => ?_)
        · rw [ke, List.length_append, List.length_singleton]; omega
        · rw [ke]
          intro j y gy
          rcases ap_ge gy with z | ⟨z1, z2⟩
          · have lj := ge_lt z
            obtain ⟨d1, d2, d3, d4, d5, d6⟩ := h1 j y z
            refine ⟨?_, ?_, ?_, ?_, ?_, ?_⟩
            all_goals rw [bx _ _ (by omega)]
            all_goals assumption
          · rw [z1, z2]; exact c1
        · obtain ⟨d1, d2, d3, d4, d5, d6⟩ := h2 j y (by omega) gy
          refine ⟨?_, ?_, ?_, ?_, ?_, ?_⟩
          all_goals rw [bx _ _ (by omega)]
          all_goals assumption
        · rw [bx 87 0 (by omega)]; exact hc2
        · rw [bx 81 _ (by omega), h3, cL_tk (cFp K p) gx, if_neg (by unfold cFp; rw [nf]; simp)]
          omega
        · rw [bx k q (by omega)]; exact hx k q z1 z2
      · have yf : fll K x = true := hbx.mp (bB_n0 (by assumption))
        have ke : (K.take (i + 1)).filter (fun x => !(fll K x)) = (K.take i).filter (fun x => !(fll K x)) := by rw [ft_tk _ gx, if_neg (by rw [yf]; simp), List.append_nil]
        refine smAt [12, 9999] 60 rfl ?_
        repeat' first
          | refine And.intro ?_ ?_
          | intro _
        all_goals try omega
        rw [a1]
        refine fin (smU m 81 x.1 (m 81 x.1 + 1)) _ ?_ ?_ (fun j y z gy => ?_) ?_ (fun p => ?_) (fun k q z1 z2 => ?_)
        · rw [ke]
        · rw [ke]
          intro j y gy
          exact h1 j y gy
        · exact h2 j y (by omega) gy
        · exact hc2
        · rw [cL_tk (cFp K p) gx]
          by_cases d : p = x.1
          · rw [if_pos (by unfold cFp; rw [yf, decide_eq_true d.symm]; rfl), d, smU_s, h3]
            omega
          · rw [if_neg (by unfold cFp; rw [decide_eq_false (fun e => d e.symm)]; simp), smU_d d, h3]
            omega
        · rw [smU_ne (by omega)]; exact hx k q z1 z2
  exact loop K.length 0 mem (by omega) (fun j x gx => by simp at gx) (fun j x _ => ha j x) hc (fun p => by simp [cL]) (fun _ _ _ _ => rfl)
end
/-! what a minute makes of a state -/
def oS (S : sS) (i : Nat) : St := (S 10 i, S 11 i, S 12 i, S 13 i, S 14 i)
def lS (S : sS) : List St := (List.range (S 9 0).toNat).map (oS S)
def mS (S : sS) : List St := (lS S).map (sMv (S 0 0))
def kS (S : sS) : List St := (mS S).filter (kp1 S)
def fS (S : sS) : List St := (kS S).filter (fun x => !(fll (kS S) x))
def gS (l : List St) (i : Int) : St := l.getD i.toNat (0, 0, 0, 0, 0)
def pM (S : sS) : sS
  | 2, i => S 2 i + cL (cFp (kS S) i) (kS S)
  | 3, i => S 3 i + cL (cHp S i) (mS S)
  | 7, i => S 7 i + cL (cCq S i) (mS S)
  | 8, i => S 8 i + cL (cCq S i) (mS S)
  | 9, _ => ((fS S).length : Int)
  | 10, i => (gS (fS S) i).1
  | 11, i => (gS (fS S) i).2.1
  | 12, i => (gS (fS S) i).2.2.1
  | 13, i => (gS (fS S) i).2.2.2.1
  | 14, i => (gS (fS S) i).2.2.2.2
  | k, i => S k i
theorem gS_get {l : List St} {j : Nat} {x : St} (h : l[j]? = some x) : gS l (j : Int) = x := by
  unfold gS
  rw [List.getD_eq_getElem?_getD, Int.toNat_natCast, h]
  rfl
theorem lS_get {S : sS} {j : Nat} (h : (j : Int) < S 9 0) : (lS S)[j]? = some (oS S j) := by
  unfold lS
  rw [List.getElem?_map, List.getElem?_range (by omega)]
  rfl
theorem lS_len {S : sS} (h : 0 ≤ S 9 0) : ((lS S).length : Int) = S 9 0 := by
  unfold lS
  rw [List.length_map, List.length_range]
  omega
theorem lS_ok {N : Int} {S : sS} (ho : okW N S) : ∀ x ∈ lS S, stOK (S 0 0) x ∧ x.2.2.2.2 < x.2.2.1 := by
  intro x hx
  obtain ⟨j, hj⟩ := List.mem_iff_getElem?.mp hx
  have lj := ge_lt hj
  have ll := lS_len (S := S) ho.2.2.1.1
  rw [lS_get (by omega)] at hj
  cases hj
  have o := ho.2.2.2.2.2 j (by omega) (by omega)
  unfold stOK oS
  dsimp only
  omega
theorem mS_ok {N : Int} {S : sS} (ho : okW N S) : ∀ x ∈ mS S, stOK (S 0 0) x := by
  intro x hx
  obtain ⟨y, hy, e⟩ := List.mem_map.mp hx
  obtain ⟨⟨o1, o2, o3, o4, o5⟩, o6⟩ := lS_ok ho y hy
  subst e
  have := fNx_in (w := y.2.1) o1
  unfold stOK sMv
  dsimp only
  omega
theorem mS_len {S : sS} : (mS S).length = (lS S).length := List.length_map _
theorem kS_ok {N : Int} {S : sS} (ho : okW N S) : ∀ x ∈ kS S, stOK (S 0 0) x := fun x hx => mS_ok ho x (List.mem_filter.mp hx).1
theorem kS_len {S : sS} : (kS S).length ≤ (lS S).length := by
  have := List.length_filter_le (kp1 S) (mS S)
  rw [mS_len] at this
  exact this
theorem fS_len {S : sS} : (fS S).length ≤ (lS S).length := by
  have := List.length_filter_le (fun x => !(fll (kS S) x)) (kS S)
  have := kS_len (S := S)
  unfold fS
  omega
theorem pM_ok {N : Int} {S : sS} (ho : okW N S) (hN : 0 ≤ N) : okW (N + 12) (pM S) := by
  have ll := lS_len (S := S) ho.2.2.1.1
  have ml := mS_len (S := S)
  have kl := kS_len (S := S)
  have fl := fS_len (S := S)
  obtain ⟨oP, oT, oA, op, oq, oi⟩ := id ho
  refine ⟨oP, oT, ?_, fun p x y => ⟨(op p x y).1, ?_, ?_⟩, fun q x y => ?_, fun i x y => ?_⟩
  · show 0 ≤ ((fS S).length : Int) ∧ ((fS S).length : Int) ≤ 12
    omega
  · have a := op p x y
    have b := cL_in (cFp (kS S) p) (kS S)
    show 0 ≤ S 2 p + cL (cFp (kS S) p) (kS S) ∧ S 2 p + cL (cFp (kS S) p) (kS S) ≤ N + 12
    omega
  · have a := op p x y
    have b := cL_in (cHp S p) (mS S)
    show 0 ≤ S 3 p + cL (cHp S p) (mS S) ∧ S 3 p + cL (cHp S p) (mS S) ≤ N + 12 ∧ (S 0 0 ≤ p → S 3 p + cL (cHp S p) (mS S) = 0)
    refine ⟨by omega, by omega, fun z => ?_⟩
    have e : cL (cHp S p) (mS S) = cL (fun _ => false) (mS S) := cL_cg _ (fun w hw => by
      have := (mS_ok ho w hw).1
      unfold cHp
      rw [decide_eq_false (by omega), Bool.and_false])
    have z0 : ∀ l : List St, cL (fun _ => false) l = 0 := by
      intro l
      induction l with
      | nil => rfl
      | cons a l ih => simp [cL, ih]
    rw [e, z0]
    have := a.2.2.2.2 z
    omega
  · obtain ⟨b1, b2, b3, b4, b5⟩ := oq q x y
    have b := cL_in (cCq S q) (mS S)
    refine ⟨b1, b2, ?_, ?_, b5⟩
    · show 0 ≤ S 7 q + cL (cCq S q) (mS S) ∧ S 7 q + cL (cCq S q) (mS S) ≤ N + 12
      omega
    · show 0 ≤ S 8 q + cL (cCq S q) (mS S) ∧ S 8 q + cL (cCq S q) (mS S) ≤ N + 12
      omega
  · change i < ((fS S).length : Int) at y
    obtain ⟨j, rfl⟩ := Int.eq_ofNat_of_zero_le x
    obtain ⟨w, gw⟩ := ge_s (show j < (fS S).length by omega)
    have e := gS_get gw
    have mw := ge_mem gw
    have m1 := List.mem_filter.mp mw
    have ow := kS_ok ho w m1.1
    have hf : fll (kS S) w = false := by simpa using m1.2
    unfold fll at hf
    rw [Bool.or_eq_false_iff] at hf
    have h1 := of_decide_eq_false hf.1
    obtain ⟨o1, o2, o3, o4, o5⟩ := ow
    have hh : w.2.2.2.2 < w.2.2.1 := by
      by_cases c : w.2.2.2.2 < w.2.2.1
      · exact c
      · exfalso
        apply h1
        unfold sHt
        rw [show w.2.2.2.2 = w.2.2.1 by omega, fH_r (by omega) (by omega)]
        decide
    show (0 ≤ (gS (fS S) j).1 ∧ (gS (fS S) j).1 < S 0 0) ∧ ((gS (fS S) j).2.1 = 0 ∨ (gS (fS S) j).2.1 = 1) ∧ (1 ≤ (gS (fS S) j).2.2.1 ∧ (gS (fS S) j).2.2.1 ≤ 36) ∧ (1 ≤ (gS (fS S) j).2.2.2.1 ∧ (gS (fS S) j).2.2.2.1 ≤ 5) ∧ (0 ≤ (gS (fS S) j).2.2.2.2 ∧ (gS (fS S) j).2.2.2.2 < (gS (fS S) j).2.2.1)
    rw [e]
    omega
section
variable {mem : smM} {Post : Option smV → smM → Prop} {N : Int} {S : sS}
def kW (mem mem' : smM) : Prop := ∀ k i, k < 79 ∨ 92 < k → mem' k i = mem k i
theorem ru_passMinute (hk : wT mem S) (ho : okW N S) (h : ∀ m, wT m (pM S) → kW mem m → Post (some (.inl (cL (cCa S) (mS S)))) m) : smRun 51 [oR 9 79] mem Post := by
  obtain ⟨kP, kT, kN, kp, kq, ki⟩ := id hk
  obtain ⟨oP, oT, oA, op, oq, oi⟩ := id ho
  have ll := lS_len (S := S) oA.1
  have ml := mS_len (S := S)
  have kl := kS_len (S := S)
  have fl := fS_len (S := S)
  refine smGo [9999] 60 rfl ?_
  refine ru_moveOn (mem 79 0) (lS S) (by omega) (by omega) (by omega) (fun x hx => by rw [kP]; exact (lS_ok ho x hx).1) (fun j x gx => ?_) (fun m1 l1 x1 => ?_)
  · have lj := ge_lt gx
    rw [lS_get (by omega)] at gx
    cases gx
    obtain ⟨k1, k2, k3, k4, k5⟩ := ki j (by omega) (by omega)
    obtain ⟨g1, g2⟩ := aG_in k5 (oi j (by omega) (by omega)).2.2.2.2.1
    exact ⟨k1, k2, k3, k4, g1, by rw [g2, g1, k3, k4]; rfl⟩
  · rw [kP] at l1
    refine ru_endIn (S := S) (mS S) oP (by rw [x1 87 0 (by omega), kN, ml]; omega) (by omega) (mS_ok ho) l1 (fun p x y => ⟨by rw [x1 80 p (by omega)]; exact (kp p x y).1, (op p x y).1⟩) (by rw [x1 79 4 (by omega)]; exact kT) (fun q x y => ⟨by rw [x1 83 q (by omega)]; exact (kq q x y).1, (oq q x y).1⟩) (fun m2 l2 c2 h2 h2' x2 => ?_)
    refine ru_fallDown (S 0 0) oP (kS S) c2 (by omega) (kS_ok ho) l2 (fun m3 l3 c3 h3 x3 => ?_)
    refine h m3 ⟨?_, ?_, c3, fun p x y => ⟨?_, ?_, ?_⟩, fun q x y => ⟨?_, ?_, ?_, ?_⟩, fun i x y => ?_⟩ (fun k i z => ?_)
    · rw [x3 79 0 (by decide) (by omega), x2 79 0 (by decide) (by decide) (by decide) (by omega), x1 79 0 (by omega)]; exact kP
    · rw [x3 79 4 (by decide) (by omega), x2 79 4 (by decide) (by decide) (by decide) (by omega), x1 79 4 (by omega)]; exact kT
    · rw [x3 80 p (by decide) (by omega), x2 80 p (by decide) (by decide) (by decide) (by omega), x1 80 p (by omega)]; exact (kp p x y).1
    · rw [h3 p, x2 81 p (by decide) (by decide) (by decide) (by omega), x1 81 p (by omega), (kp p x y).2.1]; rfl
    · rw [x3 82 p (by decide) (by omega), h2 p, x1 82 p (by omega), (kp p x y).2.2]; rfl
    · rw [x3 83 q (by decide) (by omega), x2 83 q (by decide) (by decide) (by decide) (by omega), x1 83 q (by omega)]; exact (kq q x y).1
    · rw [x3 84 q (by decide) (by omega), x2 84 q (by decide) (by decide) (by decide) (by omega), x1 84 q (by omega)]; exact (kq q x y).2.1
    · rw [x3 85 q (by decide) (by omega), (h2' q x).1, x1 85 q (by omega), (kq q x y).2.2.1]; rfl
    · rw [x3 86 q (by decide) (by omega), (h2' q x).2, x1 86 q (by omega), (kq q x y).2.2.2]; rfl
    · change i < ((fS S).length : Int) at y
      obtain ⟨j, rfl⟩ := Int.eq_ofNat_of_zero_le x
      obtain ⟨w, gw⟩ := ge_s (show j < (fS S).length by omega)
      have e := gS_get gw
      obtain ⟨b1, b2, b3, b4, b5, b6⟩ := l3 j w gw
      show m3 88 j = (gS (fS S) j).1 ∧ m3 89 j = (gS (fS S) j).2.1 ∧ m3 90 j = (gS (fS S) j).2.2.1 ∧ m3 91 j = (gS (fS S) j).2.2.2.1 ∧ aG (m3 87 (100 + (j : Int))) (m3 92 j) (m3 90 j) (m3 91 j) = (gS (fS S) j).2.2.2.2
      rw [e]
      refine ⟨b1, b2, b3, b4, ?_⟩
      rw [b3, b4, b5, b6]
      exact aG_mk rfl
    · rw [x3 k i (by omega) (by omega), x2 k i (by omega) (by omega) (by omega) (by omega), x1 k i (by omega)]
end
