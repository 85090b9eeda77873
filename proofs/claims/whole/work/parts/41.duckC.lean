/-! duck, class -/
def gE (S : sS) (i : Int) : Int := gH S (S 18 i) (S 19 i) (S 20 i) (S 21 i)
def dkL (S : sS) (p i : Int) (k : Nat) : Prop := (1 ≤ k ∧ (k < lT S i ∨ (k = lT S i ∧ gE S i = 2))) ∧ lP S i k = p ∧ fLow (lH S i k)
def dkI (S : sS) (p i : Int) (n : Nat) (y : Int) : Prop := ∃ k : Nat, k < n ∧ dkL S p i k ∧ iR y (S 16 i + k) (S 17 i)
def dkU (S : sS) (p y : Int) (n : Nat) : Prop := ∃ i : Nat, i < n ∧ bB (S 15 0) i ∧ dkI S p i 37 y
noncomputable def cI (P : Prop) : Int := @ite Int P (Classical.propDecidable P) 1 0
theorem cI_1 {P : Prop} (h : P) : cI P = 1 := by
  unfold cI
  exact if_pos h
theorem cI_0 {P : Prop} (h : ¬ P) : cI P = 0 := by
  unfold cI
  exact if_neg h
theorem cI_in (P : Prop) : cI P = 0 ∨ cI P = 1 := by
  by_cases h : P
  · exact Or.inr (cI_1 h)
  · exact Or.inl (cI_0 h)
noncomputable def cnP (P : Int → Prop) : Nat → Int
  | 0 => 0
  | n + 1 => cnP P n + cI (P ((n : Int) + 1))
theorem cnP_in (P : Int → Prop) : ∀ n : Nat, 0 ≤ cnP P n ∧ cnP P n ≤ n
  | 0 => ⟨Int.le_refl 0, Int.le_refl 0⟩
  | n + 1 => by
    have := cnP_in P n
    have := cI_in (P ((n : Int) + 1))
    simp only [cnP]
    omega
def fiR (P : Int → Prop) (m v : Int) : Prop := (v = -6 ∧ ∀ y, 1 ≤ y → y ≤ m → ¬ P y) ∨ ((1 ≤ v ∧ v ≤ m) ∧ P v ∧ ∀ y, 1 ≤ y → y < v → ¬ P y)
theorem fiR_uni {P : Int → Prop} {m v u : Int} (h : fiR P m v) (g : fiR P m u) : v = u := by
  rcases h with ⟨h1, h2⟩ | ⟨h1, h2, h3⟩ <;> rcases g with ⟨g1, g2⟩ | ⟨g1, g2, g3⟩
  · omega
  · exact absurd g2 (h2 u g1.1 g1.2)
  · exact absurd h2 (g2 v h1.1 h1.2)
  · rcases Int.lt_trichotomy v u with z | z | z
    · exact absurd h2 (g3 v h1.1 z)
    · exact z
    · exact absurd g2 (h3 u g1.1 z)
theorem iR_add {y a e : Int} (he : 1 ≤ e) (h : iR y a e) : iR (y + e) a e := by
  have g := iR_ge h
  have d := iR_dvd h
  refine iR_of he (by omega) (Int.emod_eq_zero_of_dvd ?_)
  rw [show y + e - a = (y - a) + e by omega]
  exact Int.dvd_add d (Int.dvd_refl e)
theorem iR_st {y a e st la : Int} (hs : e < 1 ∧ st = 999 ∨ 1 ≤ e ∧ st = e) (ha : 1 ≤ a) (hl : la ≤ 999) (hy : y ≤ la) : iR y a e ↔ ∃ t : Nat, y = a + (t : Int) * st := by
  rcases hs with ⟨h1, h2⟩ | ⟨h1, h2⟩
  · rw [iR_0 h1]
    constructor
    · intro h
      exact ⟨0, by omega⟩
    · rintro ⟨t, h⟩
      subst h2
      omega
  · subst h2
    constructor
    · intro h
      have g := iR_ge h
      have d := iR_dvd h
      refine ⟨((y - a) / st).toNat, ?_⟩
      have q := Int.ediv_nonneg (show 0 ≤ y - a by omega) (show 0 ≤ st by omega)
      rw [Int.toNat_of_nonneg q, Int.ediv_mul_cancel d]
      omega
    · rintro ⟨t, h⟩
      have q : 0 ≤ (t : Int) * st := Int.mul_nonneg (by omega) (by omega)
      refine iR_of h1 (by omega) ?_
      rw [show y - a = (t : Int) * st by omega, Int.mul_comm, Int.mul_emod_right]
theorem mk_an : ∀ a i : Int, 0 ≤ a → a < (64 : Nat) → 0 ≤ i → i < (6 : Nat) → (0 ≤ smAnd a (smShl 1 i) ∧ smAnd a (smShl 1 i) < 64) ∧ (smAnd a (smShl 1 i) = 0 ↔ ¬ smAnd (smShr a i) 1 = 1) := fin2 64 6 (by decide +kernel)
theorem mk_nz : ∀ a : Int, 0 ≤ a → a < (64 : Nat) → (a = 0 ↔ ∀ j : Nat, j < 6 → ¬ smAnd (smShr a (j : Int)) 1 = 1) := fin1 64 (by decide +kernel)
def mk6 (m : smM) : Prop := ∀ y, 0 ≤ y → y ≤ 999 → 0 ≤ m 112 y ∧ m 112 y < 64
def kD (mem mem' : smM) : Prop := ∀ k i, k ≠ 112 → mem' k i = mem k i
section
variable {mem : smM} {Post : Option smV → smM → Prop} {N : Int} {S : sS}
theorem ru_isLowAt (i p : Int) (k : Nat) (hp : 0 ≤ p ∧ p < 1000) (hk : 1 ≤ k ∧ k ≤ lT S i) (hT : mem 105 1 = (lT S i : Int)) (hE : mem 105 0 = gE S i) (hP : mem 106 k = lP S i k) (hH : mem 107 k = lH S i k) (bP : 0 ≤ lP S i k ∧ lP S i k < 1000) (bH : -1000 ≤ lH S i k ∧ lH S i k < 1000) (h1 : dkL S p i k → Post (some (.inl 1)) mem) (h0 : ¬ dkL S p i k → Post (some (.inl 0)) mem) : smRun 19 [oR 2 105, .inl (k : Int), .inl p] mem Post := by
  have i1 := lT_in S i
  have i2 := flH_in (S 1) (cP S) (S 0 0) (S 18 i) (S 19 i) (S 20 i) (S 21 i) (lT S i)
  rw [show flH (S 1) (cP S) (S 0 0) (S 18 i) (S 19 i) (S 20 i) (S 21 i) (lT S i) = gE S i from rfl] at i2
  unfold dkL fLow at h1 h0
  refine smGo [9999] 60 rfl ?_
  repeat' first
    | refine And.intro ?_ ?_
    | intro _
    | (show smRun _ _ _ _; first | with_reducible refine ru_isCatchable _ ?_ (fun w1 => ?_) (fun w1 => ?_))
  all_goals try omega
  all_goals unfold fLow at *
  all_goals first | exact h1 (by omega) | exact h0 (by omega)
set_option maxRecDepth 4000 in
theorem ru_markRow (i : Nat) (a e la : Int) (hi : i < 6) (ha : 1 ≤ a ∧ a ≤ 200) (he : 0 ≤ e ∧ e ≤ 20) (hl : 1 ≤ la ∧ la ≤ 999) (hm : mk6 mem) (hc : ∀ y, 1 ≤ y → y + e ≤ la → 1 ≤ e → bB (mem 112 y) i → bB (mem 112 (y + e)) i) (h : ∀ m, kD mem m → mk6 m → (∀ y, 0 ≤ y → y ≤ 999 → ∀ j : Nat, j < 6 → (bB (m 112 y) j ↔ bB (mem 112 y) j ∨ (j = i ∧ y ≤ la ∧ iR y a e))) → Post none m) : smRun 35 [oR 4 104, .inl a, .inl e, .inl la, .inl (smShl 1 i)] mem Post := by
  have loop : ∀ (st : Int), (e < 1 ∧ st = 999 ∨ 1 ≤ e ∧ st = e) → ∀ (f s : Nat) (m : smM) (y : Int), y = a + (s : Int) * st → 1 ≤ y → y ≤ 2000 → 1000 ≤ y + f → (∀ t : Nat, t < s → a + (t : Int) * st ≤ la) → kD mem m → mk6 m → (∀ y, 0 ≤ y → y ≤ 999 → ∀ j : Nat, j < 6 → (bB (m 112 y) j ↔ bB (mem 112 y) j ∨ (j = i ∧ ∃ t : Nat, t < s ∧ y = a + (t : Int) * st))) → smWp 35 17 [some (oR 4 104), some (.inl a), some (.inl e), some (.inl la), some (.inl (smShl 1 i)), some (.inl st), some (.inl y)] [] m Post := by
    intro st hst f
    have st1 : 1 ≤ st ∧ st ≤ 999 := by omega
    have hcs : ∀ (t : Nat) (y : Int), 1 ≤ y → y + (t : Int) * st ≤ la → bB (mem 112 y) i → bB (mem 112 (y + (t : Int) * st)) i := by
      intro t
      induction t with
      | zero =>
        intro y _ _ b
        rw [show y + ((0 : Nat) : Int) * st = y by omega]; exact b
      | succ t ih =>
        intro y y1 y2 b
        have e1 : ((t + 1 : Nat) : Int) * st = (t : Int) * st + st := by
          rw [show ((t + 1 : Nat) : Int) = (t : Int) + 1 by omega, Int.add_mul, Int.one_mul]
        have q : 0 ≤ (t : Int) * st := Int.mul_nonneg (by omega) (by omega)
        rcases hst with z | z
        · omega
        · have b1 := hc y y1 (by omega) z.1 b
          have b2 := ih (y + e) (by omega) (by omega) b1
          rw [e1, show y + ((t : Int) * st + st) = y + e + (t : Int) * st by omega]
          exact b2
    have mono : ∀ s t : Nat, s ≤ t → (s : Int) * st ≤ (t : Int) * st := fun s t x => Int.mul_le_mul_of_nonneg_right (by omega) (by omega)
    induction f with
    | zero =>
      intro s m y hy y1 y2 hf hla km m6 hb
      refine smAt [17, 9999] 60 rfl ?_
      repeat' first
        | refine And.intro ?_ ?_
        | intro _
      all_goals try omega
      all_goals refine h m km m6 (fun y' b1 b2 j hj => ?_)
      all_goals rw [hb y' b1 b2 j hj]
      all_goals refine or_congr Iff.rfl (and_congr Iff.rfl ?_)
      all_goals constructor
      all_goals first
        | (rintro ⟨t, t1, t2⟩; have q := hla t t1; exact ⟨by omega, (iR_st hst ha.1 hl.2 (by omega)).mpr ⟨t, t2⟩⟩)
        | (rintro ⟨q1, q2⟩; obtain ⟨t, t2⟩ := (iR_st hst ha.1 hl.2 q1).mp q2; refine ⟨t, ?_, t2⟩; rcases Nat.lt_or_ge t s with z | z; exact z; (have := mono s t z; omega))
    | succ f ih =>
      intro s m y hy y1 y2 hf hla km m6 hb
      by_cases cy : y ≤ la
      · have m1 := m6 y (by omega) (by omega)
        have a1 := mk_an (m 112 y) i m1.1 m1.2 (by omega) (by omega)
        have o1 := or_lt64 (m 112 y) i m1.1 m1.2 (by omega) (by omega)
        have o2 := or_bB64 (m 112 y) i m1.1 m1.2 (by omega) (by omega)
        have es : ((s + 1 : Nat) : Int) * st = (s : Int) * st + st := by
          rw [show ((s + 1 : Nat) : Int) = (s : Int) + 1 by omega, Int.add_mul, Int.one_mul]
        refine smAt [17, 9999] 60 rfl ?_
        repeat' first
          | refine And.intro ?_ ?_
          | intro _
        all_goals try omega
        · -- not yet marked
          refine ih (s + 1) (smU m 112 y (smOr (m 112 y) (smShl 1 i))) (y + st) (by omega) (by omega) (by omega) (by omega) (fun t x => ?_) (fun k q x => by rw [smU_ne x]; exact km k q x) (fun y' b1 b2 => ?_) (fun y' b1 b2 j hj => ?_)
          · by_cases d : t = s
            · rw [d]; omega
            · exact hla t (by omega)
          · by_cases d : y' = y
            · rw [d, smU_s]; exact o1
            · rw [smU_d d]; exact m6 y' b1 b2
          · by_cases d : y' = y
            · rw [d, smU_s]
              have o3 := o2 j hj
              have b3 := hb y (by omega) (by omega) j hj
              unfold bB at *
              rw [o3, b3]
              constructor
              · rintro ((z | ⟨z1, t, t1, t2⟩) | z)
                · exact Or.inl z
                · exact Or.inr ⟨z1, t, by omega, t2⟩
                · exact Or.inr ⟨by omega, s, by omega, hy⟩
              · rintro (z | ⟨z1, t, t1, t2⟩)
                · exact Or.inl (Or.inl z)
                · exact Or.inr (by omega)
            · rw [smU_d d, hb y' b1 b2 j hj]
              refine or_congr Iff.rfl (and_congr Iff.rfl ⟨?_, ?_⟩)
              · rintro ⟨t, t1, t2⟩
                exact ⟨t, by omega, t2⟩
              · rintro ⟨t, t1, t2⟩
                refine ⟨t, ?_, t2⟩
                by_cases d2 : t = s
                · rw [d2] at t2; omega
                · omega
        · -- it was marked
          have bi : bB (m 112 y) i := by
            have := a1.2
            unfold bB
            omega
          have old : bB (mem 112 y) i := by
            rcases (hb y (by omega) (by omega) i hi).mp bi with z | ⟨_, t, t1, t2⟩
            · exact z
            · exfalso
              have := mono (t + 1) s (by omega)
              have e2 : ((t + 1 : Nat) : Int) * st = (t : Int) * st + st := by
                rw [show ((t + 1 : Nat) : Int) = (t : Int) + 1 by omega, Int.add_mul, Int.one_mul]
              omega
          refine h m km m6 (fun y' b1 b2 j hj => ?_)
          rw [hb y' b1 b2 j hj]
          constructor
          · rintro (z | ⟨z, t, t1, t2⟩)
            · exact Or.inl z
            · have q := hla t t1
              exact Or.inr ⟨z, by omega, (iR_st hst ha.1 hl.2 (by omega)).mpr ⟨t, t2⟩⟩
          · rintro (z | ⟨z, q1, q2⟩)
            · exact Or.inl z
            · obtain ⟨t, t2⟩ := (iR_st hst ha.1 hl.2 q1).mp q2
              rcases Nat.lt_or_ge t s with c | c
              · exact Or.inr ⟨z, t, c, t2⟩
              · left
                have e3 : y' = y + ((t - s : Nat) : Int) * st := by
                  rw [show ((t - s : Nat) : Int) = (t : Int) - s by omega, Int.sub_mul]; omega
                have := hcs (t - s) y y1 (by omega) old
                rw [← e3] at this
                rw [z]; exact this
      · refine smAt [17, 9999] 60 rfl ?_
        repeat' first
          | refine And.intro ?_ ?_
          | intro _
        all_goals try omega
        refine h m km m6 (fun y' b1 b2 j hj => ?_)
        rw [hb y' b1 b2 j hj]
        refine or_congr Iff.rfl (and_congr Iff.rfl ⟨?_, ?_⟩)
        · rintro ⟨t, t1, t2⟩
          have q := hla t t1
          exact ⟨by omega, (iR_st hst ha.1 hl.2 (by omega)).mpr ⟨t, t2⟩⟩
        · rintro ⟨q1, q2⟩
          obtain ⟨t, t2⟩ := (iR_st hst ha.1 hl.2 q1).mp q2
          refine ⟨t, ?_, t2⟩
          rcases Nat.lt_or_ge t s with z | z
          · exact z
          · have := mono s t z; omega
  refine smGo [17, 9999] 60 rfl ?_
  repeat' first
    | refine And.intro ?_ ?_
    | intro _
  all_goals try omega
  · refine loop e (by omega) 1000 0 mem a (by omega) (by omega) (by omega) (by omega) (fun t x => by omega) (fun _ _ _ => rfl) hm (fun y b1 b2 j hj => ⟨Or.inl, fun z => z.elim id (fun z => by obtain ⟨_, t, t1, _⟩ := z; omega)⟩)
  · refine loop 999 (by omega) 1000 0 mem a (by omega) (by omega) (by omega) (by omega) (fun t x => by omega) (fun _ _ _ => rfl) hm (fun y b1 b2 j hj => ⟨Or.inl, fun z => z.elim id (fun z => by obtain ⟨_, t, t1, _⟩ := z; omega)⟩)
end
