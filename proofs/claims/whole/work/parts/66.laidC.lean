/-! laid, class -/
theorem ab5 : ∀ a s : Int, 0 ≤ a → a < (32 : Nat) → 0 ≤ s → s < (32 : Nat) → ∀ q : Nat, q < 5 → (0 ≤ smAnd (smAnd a (smXor s (-1))) (smShl 1 (q : Int)) ∧ smAnd (smAnd a (smXor s (-1))) (smShl 1 (q : Int)) < 32) ∧ (smAnd (smAnd a (smXor s (-1))) (smShl 1 (q : Int)) = 0 ↔ ¬ (smAnd (smShr a (q : Int)) 1 = 1 ∧ ¬ smAnd (smShr s (q : Int)) 1 = 1)) := fin2 32 32 (by decide +kernel)
theorem su5 : ∀ a b : Int, 0 ≤ a → a < (32 : Nat) → 0 ≤ b → b < (32 : Nat) → (0 ≤ smAnd a (smXor b (-1)) ∧ smAnd a (smXor b (-1)) < 32) ∧ (smAnd a (smXor b (-1)) = 0 ↔ ∀ j : Nat, j < 5 → smAnd (smShr a (j : Int)) 1 = 1 → smAnd (smShr b (j : Int)) 1 = 1) ∧ (smAnd a (smXor b (-1)) = 0 → a ≤ b) := fin2 32 32 (by decide +kernel)
theorem cl5 : ∀ a q : Int, 0 ≤ a → a < (32 : Nat) → 0 ≤ q → q < (5 : Nat) → (smAnd (smShr a q) 1 = 1 → smOr (smAnd a (smXor (smShl 1 q) (-1))) (smShl 1 q) = a ∧ smAnd a (smXor (smShl 1 q) (-1)) < a) ∧ (¬ smAnd (smShr a q) 1 = 1 → smAnd (smOr a (smShl 1 q)) (smXor (smShl 1 q) (-1)) = a ∧ a < smOr a (smShl 1 q)) := fin2 32 5 (by decide +kernel)
def mB (T : Int) : Nat → Bool := fun j => decide (j < 5 ∧ bB T j)
abbrev clr (T : Int) (q : Nat) : Int := smAnd T (smXor (smShl 1 q) (-1))
theorem mB_1 {T : Int} {j : Nat} : mB T j = true ↔ j < 5 ∧ bB T j := decide_eq_true_iff
theorem mB_cl {T : Int} (hT : 0 ≤ T ∧ T < 32) {q : Nat} (hq : q < 5) : (fun j => mB T j && !decide (j = q)) = mB (clr T q) := by
  funext j
  have e := clr_bB32 T q hT.1 hT.2 (by omega) (by omega)
  rw [Bool.eq_iff_iff, Bool.and_eq_true, mB_1, mB_1, Bool.not_eq_true', decide_eq_false_iff_not]
  constructor
  · rintro ⟨⟨h1, h2⟩, h3⟩
    exact ⟨h1, (e j h1).mpr ⟨h2, by omega⟩⟩
  · rintro ⟨h1, h2⟩
    have := (e j h1).mp h2
    exact ⟨⟨h1, this.1⟩, by omega⟩
def cand (S : sS) (p all : Int) (old : Int → Int) (P : Int → Nat → Prop) (T c : Int) : Prop := c = old T ∨ ∃ (R : Int) (q : Nat), (0 ≤ R ∧ R < 32) ∧ q < 5 ∧ smAnd R (smXor all (-1)) = 0 ∧ bB all q ∧ ¬ bB R q ∧ old R < 1000000 ∧ P R q ∧ T = smOr R (smShl 1 q) ∧ c = old R + ds S q p
def mnC (S : sS) (p all : Int) (old : Int → Int) (P : Int → Nat → Prop) (T v : Int) : Prop := cand S p all old P T v ∧ ∀ c, cand S p all old P T c → v ≤ c
theorem mnC_cg {S : sS} {p all : Int} {old : Int → Int} {P P' : Int → Nat → Prop} {T v : Int} (h : mnC S p all old P T v) (e : ∀ (R : Int) (q : Nat), (0 ≤ R ∧ R < 32) → q < 5 → smAnd R (smXor all (-1)) = 0 → bB all q → ¬ bB R q → old R < 1000000 → T = smOr R (smShl 1 q) → (P R q ↔ P' R q)) : mnC S p all old P' T v := by
  have k : ∀ c, cand S p all old P T c ↔ cand S p all old P' T c := by
    intro c
    refine or_congr Iff.rfl ⟨?_, ?_⟩
    · rintro ⟨R, q, a1, a2, a3, a4, a5, a6, a7, a8, a9⟩
      exact ⟨R, q, a1, a2, a3, a4, a5, a6, (e R q a1 a2 a3 a4 a5 a6 a8).mp a7, a8, a9⟩
    · rintro ⟨R, q, a1, a2, a3, a4, a5, a6, a7, a8, a9⟩
      exact ⟨R, q, a1, a2, a3, a4, a5, a6, (e R q a1 a2 a3 a4 a5 a6 a8).mpr a7, a8, a9⟩
  exact ⟨(k v).mp h.1, fun c hc => h.2 c ((k c).mpr hc)⟩
section
variable {mem : smM} {Post : Option smV → smM → Prop} {N : Int} {S : sS}
theorem ru_distance (q p : Int) (hq : 0 ≤ S 5 q ∧ S 5 q < 9) (hp : 0 ≤ p ∧ p < 9) (hP : mem 2 0 = S 0 0) (hn : 4 ≤ S 0 0 ∧ S 0 0 ≤ 9) (h : Post (some (.inl (ds S q p))) mem) : smRun 70 [oR 9 2, .inl (S 5 q), .inl p] mem Post := by
  have e : dsA (S 5 q - p) = if 0 ≤ S 5 q - p then S 5 q - p else 0 - (S 5 q - p) := rfl
  have b : 0 ≤ dsA (S 5 q - p) ∧ dsA (S 5 q - p) ≤ 9 := by
    unfold dsA
    split <;> omega
  unfold ds at h
  rw [← hP] at h
  refine smGo [6, 9999] 60 rfl ?_
  repeat' first
    | refine And.intro ?_ ?_
    | intro _
  all_goals try omega
  rw [← e]
  refine smAt [9999] 60 rfl ?_
  repeat' first
    | refine And.intro ?_ ?_
    | intro _
  all_goals try omega
  exact h
theorem ru_emptyHands (hk : kC mem S) (ho : ok N S) (h : ∀ B, (0 ≤ B ∧ B < 32) → (∀ j : Nat, j < 5 → (bB B j ↔ wn S j = true)) → Post (some (.inl B)) mem) : smRun 69 [oR 9 2] mem Post := by
  obtain ⟨⟨kP, kT, kN, kp, kq, ki⟩, ⟨kB, kb⟩, ⟨kS, ks⟩⟩ := id hk
  obtain ⟨oN, ⟨oP, oT, oA, op, oq, oi⟩, ⟨oB, ob⟩, ⟨oS, os⟩⟩ := id ho
  have loop : ∀ (f i : Nat) (B : Int), i + f = 5 → (0 ≤ B ∧ B < 32) → (∀ j : Nat, j < 5 → (bB B j ↔ j < i ∧ wn S j = true)) → smWp 69 4 [some (oR 9 2), some (.inl B), some (.inl (i : Int))] [] mem Post := by
    intro f
    induction f with
    | zero =>
      intro i B hf hB hb
      refine smAt [4, 9999] 60 rfl ?_
      repeat' first
        | refine And.intro ?_ ?_
        | intro _
      all_goals try omega
      exact h B hB (fun j hj => by rw [hb j hj]; exact ⟨fun z => z.2, fun z => ⟨by omega, z⟩⟩)
    | succ f ih =>
      intro i B hf hB hb
      have k1 := kq i (by omega) (by omega)
      have o1 := oq i (by omega) (by omega)
      have hi : smIR (i : Int) := by unfold smIR; omega
      have ei : ((i + 1 : Nat) : Int) = (i : Int) + 1 := by omega
      have l1 := or_lt32 B i hB.1 hB.2 (by omega) (by omega)
      have l2 := or_bB32 B i hB.1 hB.2 (by omega) (by omega)
      have no : ¬ wn S i = true → smWp 69 32 [some (oR 9 2), some (.inl B), some (.inl (i : Int))] [] mem Post := by
        intro c
        refine smAt [4, 9999] 60 rfl ?_
        have g := ih (i + 1) B (by omega) hB (fun j hj => ?_)
        · rw [ei] at g; exact g
        · rw [hb j hj]
          refine ⟨fun z => ⟨by omega, z.2⟩, fun z => ⟨?_, z.2⟩⟩
          by_cases e : j = i
          · subst e; exact absurd z.2 c
          · omega
      refine smAt [4, 32, 9999] 60 rfl ?_
      repeat' first
        | refine And.intro ?_ ?_
        | intro _
        | (show smRun _ _ _ _; first | with_reducible refine ru_hasPerson 2 _ hi (fun _ _ w1 => ?_) (fun w1 => ?_))
      all_goals try omega
      · refine no (fun z => ?_)
        have z2 := of_decide_eq_true z
        omega
      · have wt : wn S i = true := decide_eq_true ⟨by rw [← kT]; exact w1, by omega⟩
        refine smAt [4, 9999] 60 rfl ?_
        have g := ih (i + 1) _ (by omega) l1 (fun j hj => ?_)
        · rw [ei] at g; exact g
        · have l3 := l2 j hj
          have b3 := hb j hj
          unfold bB at *
          rw [l3, b3]
          constructor
          · rintro (z | z)
            · exact ⟨by omega, z.2⟩
            · have e : j = i := by omega
              subst e
              exact ⟨by omega, wt⟩
          · intro z
            by_cases e : j = i
            · right; omega
            · exact Or.inl ⟨by omega, z.2⟩
      · refine no (fun z => w1 ?_)
        have z2 := of_decide_eq_true z
        rw [kT]
        exact ⟨by omega, by omega, z2.1⟩
  refine smGo [4, 9999] 60 rfl ?_
  exact loop 5 0 0 (by omega) (by omega) (fun j hj => ⟨fun z => absurd z (bB_00 j (by omega) (by omega)), fun z => by omega⟩)
set_option maxRecDepth 4000 in
theorem ru_offerStone (p all : Int) (hp : 0 ≤ p ∧ p < S 0 0) (hall : 0 ≤ all ∧ all < 32) (hk : kC mem S) (ho : ok N S) (hb : ∀ T, 0 ≤ T → T < 32 → 0 ≤ mem 113 T ∧ mem 113 T ≤ 1000000) (h : ∀ m, (∀ k i, k ≠ 113 → m k i = mem k i) → (∀ T, 0 ≤ T → T < 32 → mnC S p all (mem 113) (fun _ _ => True) T (m 113 T)) → Post none m) : smRun 95 [oR 10 0, .inl p, .inl all] mem Post := by
  obtain ⟨oN, ⟨oP, oT, oA, op, oq, oi⟩, ⟨oB, ob⟩, ⟨oS, os⟩⟩ := id ho
  have kw : ∀ m, (∀ k i, k ≠ 113 → m k i = mem k i) → kC m S := fun m e => kC_of (fun j i hj => e j i (by omega)) hk
  have vb : ∀ P T v, (0 ≤ T ∧ T < 32) → mnC S p all (mem 113) P T v → -20 ≤ v ∧ v ≤ 1000000 := by
    intro P T v hT hv
    have a := hv.2 _ (Or.inl rfl)
    have b := hb T hT.1 hT.2
    rcases hv.1 with e | ⟨R, q, a1, a2, a3, a4, a5, a6, a7, a8, a9⟩
    · omega
    · have c := hb R a1.1 a1.2
      have d := ds_in ho.2.1 (show 0 ≤ (q : Int) ∧ (q : Int) < 5 by omega) hp
      omega
  have inner : ∀ (s : Int), (0 ≤ s ∧ s < 32) → smAnd s (smXor all (-1)) = 0 → mem 113 s < 1000000 → (∀ m x4 x5 x6, (∀ k i, k ≠ 113 → m k i = mem k i) → (∀ T, 0 ≤ T → T < 32 → mnC S p all (mem 113) (fun R q => s - 1 < R) T (m 113 T)) → smWp 95 2 [some (oR 10 0), some (.inl p), some (.inl all), some (.inl (s - 1)), x4, x5, x6] [] m Post) → ∀ (f q : Nat) (m : smM) (x5 x6 : Option smV), q + f = 5 → (∀ k i, k ≠ 113 → m k i = mem k i) → (∀ T, 0 ≤ T → T < 32 → mnC S p all (mem 113) (fun R j => s < R ∨ (R = s ∧ j < q)) T (m 113 T)) → smWp 95 31 [some (oR 10 0), some (.inl p), some (.inl all), some (.inl s), some (.inl (q : Int)), x5, x6] [] m Post := by
    intro s hs hsub hfar K f
    induction f with
    | zero =>
      intro q m x5 x6 hf hx hm
      refine smAt [2, 31, 9999] 60 rfl ?_
      repeat' first
        | refine And.intro ?_ ?_
        | intro _
      all_goals try omega
      refine K m _ _ _ hx (fun T t0 t1 => mnC_cg (hm T t0 t1) (fun R j _ _ _ _ _ _ _ => ⟨fun z => by omega, fun z => by omega⟩))
    | succ f ih =>
      intro q m x5 x6 hf hx hm
      have kC1 := kw m hx
      have kP : m 2 0 = S 0 0 := kC1.1.1
      have e5 : m 6 q = S 5 q := (kC1.1.2.2.2.2.1 q (by omega) (by omega)).1
      have o5 := oq q (by omega) (by omega)
      have eq1 : ((q + 1 : Nat) : Int) = (q : Int) + 1 := by omega
      have a5 := ab5 all s hall.1 hall.2 hs.1 hs.2 q (by omega)
      have l1 := or_lt32 s q hs.1 hs.2 (by omega) (by omega)
      -- what it was is there still
      have es : m 113 s = mem 113 s := by
        rcases (hm s hs.1 hs.2).1 with e | ⟨R, j, b1, b2, b3, b4, b5, b6, b7, b8, b9⟩
        · exact e
        · have := (cl5 R j b1.1 b1.2 (by omega) (by omega)).2 b5
          omega
      have bs := hb s hs.1 hs.2
      have d := ds_in ho.2.1 (show 0 ≤ (q : Int) ∧ (q : Int) < 5 by omega) hp
      have b1 := vb _ _ _ l1 (hm _ l1.1 l1.2)
      have no : ¬ (bB all q ∧ ¬ bB s q) → ∀ y5 y6, smWp 95 110 [some (oR 10 0), some (.inl p), some (.inl all), some (.inl s), some (.inl (q : Int)), y5, y6] [] m Post := by
        intro c y5 y6
        refine smAt [31, 9999] 60 rfl ?_
        have g := ih (q + 1) m y5 y6 (by omega) hx (fun T t0 t1 => mnC_cg (hm T t0 t1) (fun R j _ _ _ c4 c5 _ _ => ⟨fun z => by omega, fun z => ?_⟩))
        · rw [eq1] at g; exact g
        · by_cases e : R = s ∧ j = q
          · rw [e.1, e.2] at c5
            rw [e.2] at c4
            exact absurd ⟨c4, c5⟩ c
          · omega
      refine smAt [31, 54, 110, 9999] 60 rfl ?_
      repeat' first
        | refine And.intro ?_ ?_
        | intro _
      all_goals try omega
      · exact no (a5.2.mp (by assumption)) _ _
      · have c : bB all q ∧ ¬ bB s q := by
          by_cases z : bB all q ∧ ¬ bB s q
          · exact z
          · exact absurd (a5.2.mpr z) (by assumption)
        refine smAt [31, 85, 9999] 60 rfl ?_
        repeat' first
          | refine And.intro ?_ ?_
          | intro _
        all_goals try omega
        rw [e5]
        refine ru_distance q p o5.1 (by omega) kP oP ?_
        rw [es]
        refine smAt [31, 9999] 60 rfl ?_
        repeat' first
          | refine And.intro ?_ ?_
          | intro _
        all_goals try omega
        have g := ih (q + 1) (smU m 113 (smOr s (smShl 1 q)) (if mem 113 s + ds S q p < m 113 (smOr s (smShl 1 q)) then mem 113 s + ds S q p else m 113 (smOr s (smShl 1 q)))) (some (.inl (smShl 1 q))) (some (.inl (mem 113 s + ds S q p))) (by omega) (fun k i z => by rw [smU_ne z]; exact hx k i z) (fun T t0 t1 => ?_)
        · rw [eq1] at g; exact g
        · by_cases e : T = smOr s (smShl 1 q)
          · rw [e, smU_s]
            have old := hm _ l1.1 l1.2
            refine ⟨?_, fun c2 hc2 => ?_⟩
            · split
              · exact Or.inr ⟨s, q, hs, by omega, hsub, c.1, c.2, hfar, by omega, rfl, rfl⟩
              · rcases old.1 with z | ⟨R, j, b1, b2, b3, b4, b5, b6, b7, b8, b9⟩
                · exact Or.inl z
                · exact Or.inr ⟨R, j, b1, b2, b3, b4, b5, b6, by omega, b8, b9⟩
            · rcases hc2 with z | ⟨R, j, b1, b2, b3, b4, b5, b6, b7, b8, b9⟩
              · have := old.2 _ (Or.inl rfl)
                split <;> omega
              · by_cases z : R = s ∧ j = q
                · rw [z.1, z.2] at b9
                  split <;> omega
                · have := old.2 c2 (Or.inr ⟨R, j, b1, b2, b3, b4, b5, b6, by omega, b8, b9⟩)
                  split <;> omega
          · rw [smU_d e]
            refine mnC_cg (hm T t0 t1) (fun R j _ _ _ _ _ _ c7 => ⟨fun z => by omega, fun z => ?_⟩)
            by_cases y : R = s ∧ j = q
            · rw [y.1, y.2] at c7
              exact absurd c7 e
            · omega
  have outer : ∀ (f : Nat) (s : Int) (m : smM) (x4 x5 x6 : Option smV), s + 1 = f → s < 32 → (∀ k i, k ≠ 113 → m k i = mem k i) → (∀ T, 0 ≤ T → T < 32 → mnC S p all (mem 113) (fun R _ => s < R) T (m 113 T)) → smWp 95 2 [some (oR 10 0), some (.inl p), some (.inl all), some (.inl s), x4, x5, x6] [] m Post := by
    intro f
    induction f with
    | zero =>
      intro s m x4 x5 x6 hf s32 hx hm
      refine smAt [2, 31, 9999] 60 rfl ?_
      repeat' first
        | refine And.intro ?_ ?_
        | intro _
      all_goals try omega
      exact h m hx (fun T t0 t1 => mnC_cg (hm T t0 t1) (fun R j c1 _ _ _ _ _ _ => ⟨fun _ => trivial, fun _ => by omega⟩))
    | succ f ih =>
      intro s m x4 x5 x6 hf s32 hx hm
      have hs : 0 ≤ s ∧ s < 32 := by omega
      have a5 := su5 s all hs.1 hs.2 hall.1 hall.2
      have b1 := vb _ _ _ hs (hm _ hs.1 hs.2)
      have es : m 113 s = mem 113 s := by
        rcases (hm s hs.1 hs.2).1 with e | ⟨R, j, b1, b2, b3, b4, b5, b6, b7, b8, b9⟩
        · exact e
        · have := (cl5 R j b1.1 b1.2 (by omega) (by omega)).2 b5
          omega
      have no : ¬ (smAnd s (smXor all (-1)) = 0 ∧ mem 113 s < 1000000) → smWp 95 116 [some (oR 10 0), some (.inl p), some (.inl all), some (.inl s), x4, x5, x6] [] m Post := by
        intro c
        refine smAt [2, 9999] 60 rfl ?_
        refine ih (s - 1) m x4 x5 x6 (by omega) (by omega) hx (fun T t0 t1 => mnC_cg (hm T t0 t1) (fun R j c1 c2 c3 c4 c5 c6 c7 => ⟨fun z => by omega, fun z => ?_⟩))
        by_cases e : R = s
        · rw [e] at c3 c6
          exact absurd ⟨c3, c6⟩ c
        · omega
      refine smAt [2, 31, 116, 9999] 60 rfl ?_
      repeat' first
        | refine And.intro ?_ ?_
        | intro _
      all_goals try omega
      · exact no (fun z => by omega)
      · have g := inner s hs (by assumption) (by omega) (fun m2 y4 y5 y6 hx2 hm2 => ih (s - 1) m2 y4 y5 y6 (by omega) (by omega) hx2 hm2) 5 0 m x5 x6 (by omega) hx (fun T t0 t1 => mnC_cg (hm T t0 t1) (fun R j _ _ _ _ _ _ _ => ⟨fun z => Or.inl z, fun z => by omega⟩))
        exact g
      · exact no (fun z => by omega)
  refine smGo [2, 9999] 60 rfl ?_
  refine outer (all + 1).toNat all mem none none none (by omega) hall.2 (fun _ _ _ => rfl) (fun T t0 t1 => ⟨Or.inl rfl, fun c hc => ?_⟩)
  rcases hc with e | ⟨R, q, a1, a2, a3, a4, a5, a6, a7, a8, a9⟩
  · omega
  · have := (su5 R all a1.1 a1.2 hall.1 hall.2).2.2 a3
    omega
end
