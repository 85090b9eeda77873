/-! a minute passes: class -/
def aC (m : smM) (j : Nat) (x : St) : Prop := m 88 j = x.1 ∧ m 89 j = x.2.1 ∧ m 90 j = x.2.2.1 ∧ m 91 j = x.2.2.2.1 ∧ m 92 j = x.2.2.2.2 ∧ m 87 (100 + (j : Int)) = sHt x
def lC (m : smM) (l : List St) : Prop := ∀ (j : Nat) (x : St), l[j]? = some x → aC m j x
def cHp (S : sS) (p : Int) (x : St) : Bool := inH S x && decide (x.1 = p)
def cCq (S : sS) (q : Int) (x : St) : Bool := !(inH S x) && decide (ctc S x = q)
def cCa (S : sS) (x : St) : Bool := !(inH S x) && decide (ctc S x ≠ -6)
def cFp (K : List St) (p : Int) (x : St) : Bool := fll K x && decide (x.1 = p)
theorem smU_o {m : smM} {k k' : Nat} {j v j' : Int} (h : k' ≠ k ∨ j' ≠ j) : smU m k j v k' j' = m k' j' := by
  rcases h with h | h
  · exact smU_ne h j'
  · by_cases e : k' = k
    · subst e; exact smU_d h
    · exact smU_ne e j'
theorem ge_s {l : List St} {i : Nat} (h : i < l.length) : ∃ x, l[i]? = some x := ⟨l[i], List.getElem?_eq_getElem h⟩
theorem ge_lt {l : List St} {i : Nat} {x : St} (h : l[i]? = some x) : i < l.length := (List.getElem?_eq_some_iff.mp h).1
theorem ge_mem {l : List St} {i : Nat} {x : St} (h : l[i]? = some x) : x ∈ l := List.mem_of_getElem? h
theorem ap_ge {K : List St} {x : St} {j : Nat} {y : St} (h : (K ++ [x])[j]? = some y) : K[j]? = some y ∨ (j = K.length ∧ y = x) := by
  by_cases c : j < K.length
  · rw [List.getElem?_append_left c] at h
    exact Or.inl h
  · have e := ge_lt h
    simp at e
    have e2 : j = K.length := by omega
    subst e2
    right
    simp at h
    exact ⟨rfl, h.symm⟩
section
variable {mem : smM} {Post : Option smV → smM → Prop} {N : Int} {S : sS}
theorem ru_moveOn (n : Int) (l : List St) (hn : 4 ≤ n ∧ n ≤ 9) (hc : mem 87 0 = (l.length : Int)) (hl : l.length ≤ 12) (hs : ∀ x ∈ l, stOK n x) (ha : lC mem l) (h : ∀ m, lC m (l.map (sMv n)) → (∀ k i, k < 87 ∨ 92 < k ∨ (k = 87 ∧ i = 0) → m k i = mem k i) → Post none m) : smRun 13 [oR 1 87, .inl n] mem Post := by
  have loop : ∀ (f i : Nat) (m : smM), i + f = l.length → (∀ (j : Nat) (x : St), j < i → l[j]? = some x → aC m j (sMv n x)) → (∀ (j : Nat) (x : St), i ≤ j → l[j]? = some x → aC m j x) → (∀ k i, k < 87 ∨ 92 < k ∨ (k = 87 ∧ i = 0) → m k i = mem k i) → smWp 13 2 [some (oR 1 87), some (.inl n), some (.inl (i : Int))] [] m Post := by
    intro f
    induction f with
    | zero =>
      intro i m hf h1 h2 hx
      have e : m 87 0 = (l.length : Int) := by rw [hx 87 0 (by omega)]; exact hc
      refine smAt [2, 9999] 60 rfl ?_
      repeat' first
        | refine And.intro ?_ ?_
        | intro _
      all_goals try omega
      refine h m (fun j x hj => ?_) hx
      rw [List.getElem?_map, Option.map_eq_some_iff] at hj
      obtain ⟨y, y1, y2⟩ := hj
      rw [← y2]
      exact h1 j y (by have := ge_lt y1; omega) y1
    | succ f ih =>
      intro i m hf h1 h2 hx
      have e : m 87 0 = (l.length : Int) := by rw [hx 87 0 (by omega)]; exact hc
      obtain ⟨x, gx⟩ := ge_s (show i < l.length by omega)
      obtain ⟨a1, a2, a3, a4, a5, a6⟩ := h2 i x (Nat.le_refl i) gx
      obtain ⟨o1, o2, o3, o4, o5⟩ := hs x (ge_mem gx)
      have ei : ((i + 1 : Nat) : Int) = (i : Int) + 1 := by omega
      have t42 : ∀ m2 : smM, m2 88 i = fNx x.1 x.2.1 n → m2 89 i = x.2.1 → m2 90 i = x.2.2.1 → m2 91 i = x.2.2.2.1 → m2 92 i = x.2.2.2.2 + 1 → (∀ k q, k < 88 ∨ 92 < k ∨ q ≠ (i : Int) → m2 k q = m k q) → smWp 13 42 [some (oR 1 87), some (.inl n), some (.inl (i : Int))] [] m2 Post := by
        intro m2 c1 c2 c3 c4 c5 cx
        refine smAt [2, 9999] 60 rfl ?_
        repeat' first
          | refine And.intro ?_ ?_
          | intro _
        all_goals try omega
        refine ru_heightBehind _ _ _ (by omega) (by omega) (by omega) ?_
        repeat' first
          | refine And.intro ?_ ?_
          | intro _
        all_goals try omega
        have g := ih (i + 1) (smU m2 87 (100 + (i : Int)) (fH (m2 92 i) (m2 90 i) (m2 91 i))) (by omega) (fun j y hj gy => ?_) (fun j y hj gy => ?_) (fun k q z => by rw [smU_o (by omega), cx k q (by omega)]; exact hx k q z)
        · rw [ei] at g; exact g
        · by_cases d : j = i
          · subst d
            rw [gx] at gy
            cases gy
            refine ⟨?_, ?_, ?_, ?_, ?_, ?_⟩
            · rw [smU_ne (by decide)]; exact c1
            · rw [smU_ne (by decide)]; exact c2
            · rw [smU_ne (by decide)]; exact c3
            · rw [smU_ne (by decide)]; exact c4
            · rw [smU_ne (by decide)]; exact c5
            · rw [smU_s, c3, c4, c5]; rfl
          · obtain ⟨b1, b2, b3, b4, b5, b6⟩ := h1 j y (by omega) gy
            refine ⟨?_, ?_, ?_, ?_, ?_, ?_⟩
            all_goals rw [smU_o (by omega), cx _ _ (by omega)]
            all_goals assumption
        · obtain ⟨b1, b2, b3, b4, b5, b6⟩ := h2 j y (by omega) gy
          refine ⟨?_, ?_, ?_, ?_, ?_, ?_⟩
          all_goals rw [smU_o (by omega), cx _ _ (by omega)]
          all_goals assumption
      refine smAt [2, 42, 9999] 60 rfl ?_
      repeat' first
        | refine And.intro ?_ ?_
        | intro _
      all_goals try omega
      refine ru_nextPlace _ _ _ (by omega) (by omega) (by omega) ?_
      repeat' first
        | refine And.intro ?_ ?_
        | intro _
      all_goals try omega
      refine t42 _ ?_ ?_ ?_ ?_ ?_ (fun k q z => ?_)
      · rw [smU_ne (by decide), smU_s, a1, a2]
      · rw [smU_ne (by decide), smU_ne (by decide)]; exact a2
      · rw [smU_ne (by decide), smU_ne (by decide)]; exact a3
      · rw [smU_ne (by decide), smU_ne (by decide)]; exact a4
      · rw [smU_s, smU_ne (by decide), a5]
      · rw [smU_o (by omega), smU_o (by omega)]
  refine smGo [2, 9999] 60 rfl ?_
  exact loop l.length 0 mem (by omega) (fun j x hj => by omega) (fun j x _ => ha j x) (fun _ _ _ => rfl)
theorem ru_moveStone (i j : Nat) (x : St) (hi : i < 12) (hj : j < 12) (ha : aC mem i x) (h : ∀ m, aC m j x → (∀ k q, (k < 87 ∨ 92 < k) ∨ (k = 87 ∧ q ≠ 100 + (j : Int)) ∨ (k ≠ 87 ∧ q ≠ (j : Int)) → m k q = mem k q) → Post none m) : smRun 14 [oR 1 87, .inl (i : Int), .inl (j : Int)] mem Post := by
  obtain ⟨a1, a2, a3, a4, a5, a6⟩ := ha
  refine smGo [9999] 60 rfl ?_
  repeat' first
    | refine And.intro ?_ ?_
    | intro _
  all_goals try omega
  refine h _ ⟨?_, ?_, ?_, ?_, ?_, ?_⟩ (fun k q z => ?_)
  · rw [smU_ne (by decide), smU_ne (by decide), smU_ne (by decide), smU_ne (by decide), smU_ne (by decide), smU_s]; exact a1
  · rw [smU_ne (by decide), smU_ne (by decide), smU_ne (by decide), smU_ne (by decide), smU_s, smU_ne (by decide)]; exact a2
  · rw [smU_ne (by decide), smU_ne (by decide), smU_ne (by decide), smU_s, smU_ne (by decide), smU_ne (by decide)]; exact a3
  · rw [smU_ne (by decide), smU_ne (by decide), smU_s, smU_ne (by decide), smU_ne (by decide), smU_ne (by decide)]; exact a4
  · rw [smU_ne (by decide), smU_s, smU_ne (by decide), smU_ne (by decide), smU_ne (by decide), smU_ne (by decide)]; exact a5
  · rw [smU_s, smU_ne (by decide), smU_ne (by decide), smU_ne (by decide), smU_ne (by decide), smU_ne (by decide)]; exact a6
  · rw [smU_o (by omega), smU_o (by omega), smU_o (by omega), smU_o (by omega), smU_o (by omega), smU_o (by omega)]
set_option maxRecDepth 4000 in
theorem ru_endIn (l : List St) (hn : 4 ≤ S 0 0 ∧ S 0 0 ≤ 9) (hc : mem 87 0 = (l.length : Int)) (hl : l.length ≤ 12) (hs : ∀ x ∈ l, stOK (S 0 0) x) (ha : lC mem l) (hH : ∀ p, 0 ≤ p → p < 9 → mem 80 p = S 1 p ∧ (0 ≤ S 1 p ∧ S 1 p ≤ 5)) (hT : mem 79 4 = S 4 0) (hA : ∀ q, 0 ≤ q → q < 5 → mem 83 q = S 5 q ∧ (0 ≤ S 5 q ∧ S 5 q < 9)) (h : ∀ m, lC m (l.filter (kp1 S)) → m 87 0 = ((l.filter (kp1 S)).length : Int) → (∀ p, m 82 p = mem 82 p + cL (cHp S p) l) → (∀ q, 0 ≤ q → (m 85 q = mem 85 q + cL (cCq S q) l ∧ m 86 q = mem 86 q + cL (cCq S q) l)) → (∀ k i, k ≠ 82 → k ≠ 85 → k ≠ 86 → (k < 87 ∨ 92 < k) → m k i = mem k i) → Post (some (.inl (cL (cCa S) l))) m) : smRun 49 [oR 9 79] mem Post := by
  have loop : ∀ (f i : Nat) (m : smM) (x4 x5 x6 : Option smV), i + f = l.length → lC m ((l.take i).filter (kp1 S)) → (∀ (j : Nat) (x : St), i ≤ j → l[j]? = some x → aC m j x) → m 87 0 = (l.length : Int) → (∀ p, m 82 p = mem 82 p + cL (cHp S p) (l.take i)) → (∀ q, 0 ≤ q → (m 85 q = mem 85 q + cL (cCq S q) (l.take i) ∧ m 86 q = mem 86 q + cL (cCq S q) (l.take i))) → (∀ k i, k ≠ 82 → k ≠ 85 → k ≠ 86 → (k < 87 ∨ 92 < k) → m k i = mem k i) → smWp 49 6 [some (oR 9 79), some (.inl (cL (cCa S) (l.take i))), some (.inl (((l.take i).filter (kp1 S)).length : Int)), some (.inl (i : Int)), x4, x5, x6] [] m Post := by
    intro f
    induction f with
    | zero =>
      intro i m x4 x5 x6 hf h1 h2 hc2 h3 h4 hx
      have e : l.take i = l := List.take_of_length_le (by omega)
      rw [e] at h1 h3 h4 ⊢
      refine smAt [6, 9999] 60 rfl ?_
      repeat' first
        | refine And.intro ?_ ?_
        | intro _
      all_goals try omega
      refine h _ (fun j x gx => ?_) rfl h3 h4 (fun k q z1 z2 z3 z4 => ?_)
      · obtain ⟨d1, d2, d3, d4, d5, d6⟩ := h1 j x gx
        exact ⟨d1, d2, d3, d4, d5, by rw [smU_d (by omega)]; exact d6⟩
      · rw [smU_ne (by omega)]; exact hx k q z1 z2 z3 z4
    | succ f ih =>
      intro i m x4 x5 x6 hf h1 h2 hc2 h3 h4 hx
      obtain ⟨x, gx⟩ := ge_s (show i < l.length by omega)
      have ax := h2 i x (Nat.le_refl i) gx
      obtain ⟨a1, a2, a3, a4, a5, a6⟩ := id ax
      have ox := hs x (ge_mem gx)
      obtain ⟨o1, o2, o3, o4, o5⟩ := id ox
      have sx := sHt_in ox
      have cx := ctc_in S x
      have ei : ((i + 1 : Nat) : Int) = (i : Int) + 1 := by omega
      have lk : ((l.take i).filter (kp1 S)).length ≤ i := by
        have q1 := List.length_filter_le (kp1 S) (l.take i)
        have q2 : (l.take i).length ≤ i := by rw [List.length_take]; omega
        omega
      have e80 : m 80 x.1 = S 1 x.1 := by rw [hx 80 _ (by decide) (by decide) (by decide) (by decide)]; exact (hH x.1 (by omega) (by omega)).1
      have b80 := (hH x.1 (by omega) (by omega)).2
      have fin : ∀ (m2 : smM) (many left : Int) (y4 y5 y6 : Option smV), many = cL (cCa S) (l.take (i + 1)) → left = (((l.take (i + 1)).filter (kp1 S)).length : Int) → lC m2 ((l.take (i + 1)).filter (kp1 S)) → (∀ (j : Nat) (x : St), i + 1 ≤ j → l[j]? = some x → aC m2 j x) → m2 87 0 = (l.length : Int) → (∀ p, m2 82 p = mem 82 p + cL (cHp S p) (l.take (i + 1))) → (∀ q, 0 ≤ q → (m2 85 q = mem 85 q + cL (cCq S q) (l.take (i + 1)) ∧ m2 86 q = mem 86 q + cL (cCq S q) (l.take (i + 1)))) → (∀ k i, k ≠ 82 → k ≠ 85 → k ≠ 86 → (k < 87 ∨ 92 < k) → m2 k i = mem k i) → smWp 49 6 [some (oR 9 79), some (.inl many), some (.inl left), some (.inl ((i : Int) + 1)), y4, y5, y6] [] m2 Post := by
        intro m2 many left y4 y5 y6 e1 e2 g1 g2 g3 g4 g5 g6
        subst e1; subst e2
        have g := ih (i + 1) m2 y4 y5 y6 (by omega) g1 g2 g3 g4 g5 g6
        rw [ei] at g; exact g
      have t58 : ∀ c, c = ctc S x → smWp 49 58 [some (oR 9 79), some (.inl (cL (cCa S) (l.take i))), some (.inl (((l.take i).filter (kp1 S)).length : Int)), some (.inl (i : Int)), some (.inl x.1), some (.inl (sHt x)), x6] [.inl c] m Post := by
        intro c hcx
        subst hcx
        have hu : ∀ (f : St → Bool), f x = false → cL f (l.take (i + 1)) = cL f (l.take i) := fun f z => by rw [cL_tk f gx, z]; simp
        have hv : ∀ (f : St → Bool), f x = true → cL f (l.take (i + 1)) = cL f (l.take i) + 1 := fun f z => by rw [cL_tk f gx, z]; simp
        refine smAt [6, 72, 86, 9999] 60 rfl ?_
        repeat' first
          | refine And.intro ?_ ?_
          | intro _
        all_goals try omega
        · have nH : inH S x = false := decide_eq_false (by omega)
          refine smAt [6, 93, 121, 9999] 60 rfl ?_
          repeat' first
            | refine And.intro ?_ ?_
            | intro _
          all_goals try omega
          · -- it goes on
            have kx : kp1 S x = true := by
              unfold kp1
              rw [nH, decide_eq_true (by assumption)]; rfl
            refine smAt [6, 9999] 60 rfl ?_
            refine ru_moveStone i _ x (by omega) (by omega) ax (fun m2 b1 bx => ?_)
            have ke : (l.take (i + 1)).filter (kp1 S) = (l.take i).filter (kp1 S) ++ [x] := by rw [ft_tk _ gx, if_pos kx]
            refine fin m2 _ _ _ _ _ ?_ ?_ ?_ (fun j y z gy => ?_) ?_ (fun p => ?_) (fun q z => ?_) (fun k q z1 z2 z3 z4 => ?_)
            · rw [hu (cCa S) (by unfold cCa; rw [nH, decide_eq_false (by simpa using by assumption)]; rfl)]
            · rw [ke, List.length_append, List.length_singleton]; omega
            · rw [ke]
              intro j y gy
              rcases ap_ge gy with z | ⟨z1, z2⟩
              · have lj := ge_lt z
                obtain ⟨d1, d2, d3, d4, d5, d6⟩ := h1 j y z
                refine ⟨?_, ?_, ?_, ?_, ?_, ?_⟩
                all_goals rw [bx _ _ (by omega)]
                all_goals assumption
              · rw [z1, z2]; exact b1
            · obtain ⟨d1, d2, d3, d4, d5, d6⟩ := h2 j y (by omega) gy
              refine ⟨?_, ?_, ?_, ?_, ?_, ?_⟩
              all_goals rw [bx _ _ (by omega)]
              all_goals assumption
            · rw [bx 87 0 (by omega)]; exact hc2
            · rw [bx 82 _ (by omega), h3, hu (cHp S p) (by unfold cHp; rw [nH]; rfl)]
            · have cq : cCq S q x = false := by
                unfold cCq
                rw [decide_eq_false (by omega), Bool.and_false]
              rw [bx 85 _ (by omega), bx 86 _ (by omega), hu (cCq S q) cq]
              exact h4 q z
            · rw [bx k q (by omega)]; exact hx k q z1 z2 z3 z4
          · -- caught
            have kx : ¬ kp1 S x = true := by
              unfold kp1
              rw [nH, decide_eq_false (by assumption)]; decide
            have ke : (l.take (i + 1)).filter (kp1 S) = (l.take i).filter (kp1 S) := by rw [ft_tk _ gx, if_neg kx, List.append_nil]
            refine smAt [6, 9999] 60 rfl ?_
            repeat' first
              | refine And.intro ?_ ?_
              | intro _
            all_goals try omega
            refine fin (smU (smU m 85 (ctc S x) (m 85 (ctc S x) + 1)) 86 (ctc S x) (smU m 85 (ctc S x) (m 85 (ctc S x) + 1) 86 (ctc S x) + 1)) _ _ _ _ _ ?_ ?_ ?_ (fun j y z gy => ?_) ?_ (fun p => ?_) (fun q z => ?_) (fun k q z1 z2 z3 z4 => ?_)
            · rw [hv (cCa S) (by unfold cCa; rw [nH, decide_eq_true (by assumption)]; rfl)]
            · rw [ke]
            · rw [ke]
              intro j y gy
              exact h1 j y gy
            · exact h2 j y (by omega) gy
            · exact hc2
            · rw [smU_ne (by decide), smU_ne (by decide), h3, hu (cHp S p) (by unfold cHp; rw [nH]; rfl)]
            · have q4 := h4 q z
              by_cases d : q = ctc S x
              · have cq : cCq S q x = true := by
                  unfold cCq
                  rw [nH, decide_eq_true d.symm]; rfl
                rw [hv (cCq S q) cq, d, smU_ne (by decide), smU_s, smU_s, smU_ne (by decide)]
                rw [d] at q4
                omega
              · have cq : cCq S q x = false := by
                  unfold cCq
                  rw [decide_eq_false (fun e => d e.symm), Bool.and_false]
                rw [hu (cCq S q) cq, smU_ne (by decide), smU_d d, smU_d d, smU_ne (by decide)]
                exact q4
            · rw [smU_ne (by omega), smU_ne (by omega)]; exact hx k q z1 z2 z3 z4
        · -- in a hedge
          have yH : inH S x = true := decide_eq_true (by omega)
          have kx : ¬ kp1 S x = true := by
            unfold kp1
            rw [yH]; simp
          have ke : (l.take (i + 1)).filter (kp1 S) = (l.take i).filter (kp1 S) := by rw [ft_tk _ gx, if_neg kx, List.append_nil]
          refine smAt [6, 9999] 60 rfl ?_
          repeat' first
            | refine And.intro ?_ ?_
            | intro _
          all_goals try omega
          refine fin (smU m 82 x.1 (m 82 x.1 + 1)) _ _ _ _ _ ?_ ?_ ?_ (fun j y z gy => ?_) ?_ (fun p => ?_) (fun q z => ?_) (fun k q z1 z2 z3 z4 => ?_)
          · rw [hu (cCa S) (by unfold cCa; rw [yH]; rfl)]
          · rw [ke]
          · rw [ke]
            intro j y gy
            exact h1 j y gy
          · exact h2 j y (by omega) gy
          · exact hc2
          · by_cases d : p = x.1
            · rw [hv (cHp S p) (by unfold cHp; rw [yH, decide_eq_true d.symm]; rfl), d, smU_s, h3]
              omega
            · rw [hu (cHp S p) (by unfold cHp; rw [decide_eq_false (fun e => d e.symm), Bool.and_false]), smU_d d]
              exact h3 p
          · rw [smU_ne (by decide), smU_ne (by decide), hu (cCq S q) (by unfold cCq; rw [yH]; rfl)]
            exact h4 q z
          · rw [smU_ne (by omega)]; exact hx k q z1 z2 z3 z4
      refine smAt [6, 28, 9999] 60 rfl ?_
      repeat' first
        | refine And.intro ?_ ?_
        | intro _
      all_goals try omega
      rw [a1]
      refine smAt [6, 37, 9999] 60 rfl ?_
      repeat' first
        | refine And.intro ?_ ?_
        | intro _
      all_goals try omega
      rw [a6]
      refine smAt [6, 58, 9999] 60 rfl ?_
      refine ru_isCatchable _ (by unfold smIR; omega) (fun w1 => ?_) (fun w1 => ?_)
      · skip
        repeat' first
          | refine And.intro ?_ ?_
          | intro _
        all_goals try omega
        have e8 : ∀ q, 0 ≤ q → q < 5 → m 83 q = S 5 q := fun q y z => by rw [hx 83 _ (by decide) (by decide) (by decide) (by decide)]; exact (hA q y z).1
        refine ru_leastAt 79 83 rfl _ (by unfold smIR; omega) (fun q y z => ?_) ?_
        · have := (hA q y z).2
          rw [e8 q y z]; unfold smIR; omega
        · refine t58 _ ?_
          unfold ctc
          unfold fLow at w1
          rw [if_pos w1]
          exact fWho_congr (by rw [hx 79 4 (by decide) (by decide) (by decide) (by decide)]; exact hT) e8 x.1
      · skip
        repeat' first
          | refine And.intro ?_ ?_
          | intro _
        all_goals try omega
        refine t58 _ ?_
        unfold ctc
        unfold fLow at w1
        rw [if_neg w1]
  refine smGo [6, 9999] 60 rfl ?_
  exact loop l.length 0 mem none none none (by omega) (fun j x gx => by simp at gx) (fun j x _ => ha j x) hc (fun p => by simp [cL]) (fun q _ => by simp [cL]) (fun _ _ _ _ _ _ => rfl)
end
