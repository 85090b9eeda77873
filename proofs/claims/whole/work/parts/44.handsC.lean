/-! hands: sets of places as numbers; what a hand catches -/
theorem nAnd (a b : Nat) (ha : a < 2 ^ 31) : smAnd (a : Int) (b : Int) = ((a &&& b : Nat) : Int) := by
  have h1 : a &&& b ≤ a := Nat.and_le_left
  have e : smAnd (a : Int) (b : Int) = (BitVec.ofInt 32 (a : Int) &&& BitVec.ofInt 32 (b : Int)).toInt := rfl
  rw [e, BitVec.ofInt_natCast, BitVec.ofInt_natCast, ← BitVec.ofNat_and]
  have h2 : (BitVec.ofNat 32 (a &&& b)).toNat = a &&& b := by
    rw [BitVec.toNat_ofNat]
    exact Nat.mod_eq_of_lt (by omega)
  rw [BitVec.toInt_eq_toNat_of_lt (by omega), h2]
theorem bB_tb : ∀ s k : Int, 0 ≤ s → s < (512 : Nat) → 0 ≤ k → k < (9 : Nat) → (smAnd (smShr s k) 1 = 1 ↔ Nat.testBit s.toNat k.toNat = true) := fin2 512 9 (by decide +kernel)
theorem an_9 (a b : Int) (ha : 0 ≤ a ∧ a < 512) (hb : 0 ≤ b ∧ b < 512) : (0 ≤ smAnd a b ∧ smAnd a b < 512) ∧ (smAnd a b = 0 ↔ ∀ j : Nat, j < 9 → ¬ (bB a j ∧ bB b j)) := by
  obtain ⟨x, rfl⟩ := Int.eq_ofNat_of_zero_le ha.1
  obtain ⟨y, rfl⟩ := Int.eq_ofNat_of_zero_le hb.1
  rw [nAnd x y (by omega)]
  have h1 : x &&& y ≤ x := Nat.and_le_left
  refine ⟨by omega, ?_⟩
  constructor
  · intro h j hj c
    have c1 := (bB_tb x j (by omega) (by omega) (by omega) (by omega)).mp c.1
    have c2 := (bB_tb y j (by omega) (by omega) (by omega) (by omega)).mp c.2
    have e : x &&& y = 0 := by omega
    have t : (x &&& y).testBit j = false := by rw [e]; exact Nat.zero_testBit j
    rw [Nat.testBit_and] at t
    simp only [Int.toNat_natCast] at c1 c2
    rw [c1, c2] at t
    cases t
  · intro h
    have e : x &&& y = 0 := by
      apply Nat.eq_of_testBit_eq
      intro j
      rw [Nat.zero_testBit, Nat.testBit_and]
      by_cases hj : j < 9
      · have q := h j hj
        cases c1 : x.testBit j with
        | false => rfl
        | true =>
          cases c2 : y.testBit j with
          | false => rfl
          | true =>
            exfalso
            exact q ⟨(bB_tb x j (by omega) (by omega) (by omega) (by omega)).mpr c1, (bB_tb y j (by omega) (by omega) (by omega) (by omega)).mpr c2⟩
      · have p9 : 2 ^ 9 ≤ 2 ^ j := Nat.pow_le_pow_right (by decide) (by omega)
        rw [Nat.testBit_lt_two_pow (show x < 2 ^ j by omega)]
        rfl
    omega
theorem or_9 : ∀ s q : Int, 0 ≤ s → s < (512 : Nat) → 0 ≤ q → q < (9 : Nat) → 0 ≤ smOr s (smShl 1 q) ∧ smOr s (smShl 1 q) < 512 := fin2 512 9 (by decide +kernel)
theorem or_bB9 : ∀ s q : Int, 0 ≤ s → s < (512 : Nat) → 0 ≤ q → q < (9 : Nat) → ∀ j : Nat, j < 9 → (smAnd (smShr (smOr s (smShl 1 q)) (j : Int)) 1 = 1 ↔ smAnd (smShr s (j : Int)) 1 = 1 ∨ (j : Int) = q) := fin2 512 9 (by decide +kernel)
theorem sh_9 : ∀ n : Int, 0 ≤ n → n < (10 : Nat) → 0 ≤ smShl 1 n ∧ smShl 1 n ≤ 512 := fin1 10 (by decide +kernel)
theorem pc_9 : ∀ a : Int, 0 ≤ a → a < (512 : Nat) → 0 ≤ fPc a ∧ fPc a ≤ 9 := fin1 512 (by decide +kernel)
theorem bB_09 : ∀ j : Int, 0 ≤ j → j < (9 : Nat) → ¬ smAnd (smShr 0 j) 1 = 1 := fin1 9 (by decide +kernel)
/-- a hand catches: somewhere on its way ahead of its end -/
theorem flT_1 (hd : Int → Int) (cb : Int → Bool) (n p w r t : Int) : 1 ≤ flT hd cb n p w r t := by
  unfold flT
  show 1 ≤ flN hd cb n p w r t (35 + 1) 0
  rw [flN]
  split
  · exact Nat.le_refl 1
  · exact (flN_ge hd cb n p w r t 35 (0 + 1)).1
theorem hand_iff {hd : Int → Int} {cb : Int → Bool} {n p w r t : Int} (ht : fThr w r t) : flH hd cb n p w r t (flT hd cb n p w r t) = 2 ↔ ∃ k : Nat, (1 ≤ k ∧ k < flT hd (fun _ => false) n p w r t) ∧ fLow (fH k r t) ∧ cb (fPos p w n k) = true := by
  have a1 := flN_end hd cb n p w r t 36 0 (by omega) (by omega)
  have b1 := flN_end hd (fun _ => false) n p w r t 36 0 (by omega) (by omega)
  have a2 := flN_not hd cb n p w r t 36 0
  have b2 := flN_not hd (fun _ => false) n p w r t 36 0
  have a3 := flT_1 hd cb n p w r t
  have b3 := flT_1 hd (fun _ => false) n p w r t
  change fEn hd cb n p w r t (flT hd cb n p w r t) at a1
  change fEn hd (fun _ => false) n p w r t (flT hd (fun _ => false) n p w r t) at b1
  change ∀ j, 0 < j → j < flT hd cb n p w r t → ¬ fEn hd cb n p w r t j at a2
  change ∀ j, 0 < j → j < flT hd (fun _ => false) n p w r t → ¬ fEn hd (fun _ => false) n p w r t j at b2
  generalize flT hd cb n p w r t = T at *
  generalize flT hd (fun _ => false) n p w r t = U at *
  unfold fLow
  constructor
  · intro h
    unfold flH at h
    split at h
    · omega
    · next h1 =>
      split at h
      · next h2 =>
        refine ⟨T, ⟨a3, ?_⟩, h2⟩
        have hr : (T : Int) < r := by
          by_cases c : (T : Int) < r
          · exact c
          · exfalso
            by_cases d : (T : Int) = r
            · have e : fH (T : Int) r t = 0 := by rw [d]; exact fH_r (by omega) (by omega)
              omega
            · refine a2 r.toNat (by omega) (by omega) (Or.inr (Or.inr (by omega)))
        rcases Nat.lt_trichotomy T U with z | z | z
        · exact z
        · exfalso
          rw [← z] at b1
          rcases b1 with q | q | q
          · exact h1 q
          · cases q.2
          · omega
        · exfalso
          refine a2 U (by omega) z ?_
          rcases b1 with q | q | q
          · exact Or.inl q
          · cases q.2
          · exact Or.inr (Or.inr q)
      · omega
  · rintro ⟨k, k1, k2, k3⟩
    have e1 : fEn hd cb n p w r t k := Or.inr (Or.inl ⟨k2, k3⟩)
    have e2 : T ≤ k := by
      rcases Nat.lt_or_ge k T with z | z
      · exact absurd e1 (a2 k (by omega) z)
      · exact z
    have e3 := b2 T (by omega) (by omega)
    have n1 : ¬ fH T r t < hd (fPos p w n T) := fun z => e3 (Or.inl z)
    have n2 : ¬ r ≤ (T : Int) := fun z => e3 (Or.inr (Or.inr z))
    unfold flH
    rw [if_neg n1]
    rcases a1 with q | q | q
    · exact absurd q n1
    · rw [if_pos q]
    · exact absurd q n2
def hT (S : sS) (i : Int) : Nat := flT (S 1) (fun _ => false) (S 0 0) (S 18 i) (S 19 i) (S 20 i) (S 21 i)
def hdN (S : sS) (i : Int) (n : Nat) (q : Int) : Prop := ∃ k : Nat, (1 ≤ k ∧ k < n) ∧ fLow (lH S i k) ∧ lP S i k = q
def hdW (S : sS) (i set : Int) : Prop := ∃ k : Nat, (1 ≤ k ∧ k < hT S i) ∧ fLow (lH S i k) ∧ bB set (lP S i k)
def hdV (S : sS) (set : Int) : Prop := ∀ i : Nat, i < 6 → bB (S 15 0) i → hdW S i set
theorem hT_in (S : sS) (i : Int) : 1 ≤ hT S i ∧ hT S i ≤ 36 := ⟨flT_1 _ _ _ _ _ _ _, by have := (flN_ge (S 1) (fun _ => false) (S 0 0) (S 18 i) (S 19 i) (S 20 i) (S 21 i) 36 0).2; unfold hT flT; omega⟩
theorem cbs_m6 : cbs (fun _ => -6) = fun _ => false := by
  funext q
  simp [cbs]
section
variable {mem : smM} {Post : Option smV → smM → Prop} {N : Int} {S : sS}
theorem ru_catchPlaces (i : Int) (hi : liB S i) (hk : kC mem S) (ho : ok N S) (hs : scn mem (S 0 0) (S 1) (fun _ => -6)) (h : ∀ v m, (0 ≤ v ∧ v < 512) → (∀ q : Nat, q < 9 → (bB v q ↔ hdN S i (hT S i) q)) → kM mem m → Post (some (.inl v)) m) : smRun 39 [oR 4 104, oR 8 16, oR 6 95, .inl i] mem Post := by
  refine smGo [16, 9999] 60 rfl ?_
  refine ru_fly105 i (fun _ => -6) hi hk ho hs (fun q x y => ⟨by omega, by omega⟩) (fun m t1 e1 => ?_)
  unfold trp105 at t1
  rw [cbs_m6] at t1
  have T1 : m 105 1 = (hT S i : Int) := t1.1
  have P1 : ∀ k : Nat, k ≤ hT S i → m 106 k = lP S i k ∧ m 107 k = lH S i k := fun k x => t1.2.2.2 k x
  have keep : kM mem m := fun k q x => e1 k q (by omega) (by omega) (by omega)
  have i1 := hT_in S i
  have oi := ok_thr ho hi
  have oP := ho.2.1.1
  have loop : ∀ (f k : Nat) (v : Int), k + f = hT S i → 1 ≤ k → (0 ≤ v ∧ v < 512) → (∀ q : Nat, q < 9 → (bB v q ↔ hdN S i k q)) → smWp 39 16 [some (oR 4 104), some (oR 8 16), some (oR 6 95), some (.inl i), some (.inl v), some (.inl (k : Int))] [] m Post := by
    intro f
    induction f with
    | zero =>
      intro k v hf k1 hv hb
      refine smAt [16, 9999] 60 rfl ?_
      repeat' first
        | refine And.intro ?_ ?_
        | intro _
      all_goals try omega
      rw [show k = hT S i by omega] at hb
      exact h v m hv hb keep
    | succ f ih =>
      intro k v hf k1 hv hb
      have p1 := P1 k (by omega)
      have q1 := fPos_in (w := S 19 i) oi.1 k
      rw [show fPos (S 18 i) (S 19 i) (S 0 0) k = lP S i k from rfl] at q1
      have q3 := lH_in (S := S) (i := i) (k := k) (by omega) oi.2.1
      have ek : ((k + 1 : Nat) : Int) = (k : Int) + 1 := by omega
      have o1 := or_9 v (lP S i k) hv.1 hv.2 q1.1 (by omega)
      have o2 := or_bB9 v (lP S i k) hv.1 hv.2 q1.1 (by omega)
      refine smAt [16, 9999] 60 rfl ?_
      repeat' first
        | refine And.intro ?_ ?_
        | intro _
        | (show smRun _ _ _ _; first | with_reducible refine ru_isCatchable _ ?_ (fun w1 => ?_) (fun w1 => ?_))
      all_goals try omega
      all_goals rw [p1.2] at w1
      · rw [p1.1]
        have g := ih (k + 1) _ (by omega) (by omega) o1 (fun q hq => ?_)
        · rw [ek] at g; exact g
        · have o3 := o2 q hq
          have b3 := hb q hq
          unfold bB at *
          rw [o3, b3]
          constructor
          · rintro (⟨k', c1, c2, c3⟩ | c)
            · exact ⟨k', by omega, c2, c3⟩
            · exact ⟨k, by omega, w1, c.symm⟩
          · rintro ⟨k', c1, c2, c3⟩
            by_cases d : k' = k
            · subst d; exact Or.inr c3.symm
            · exact Or.inl ⟨k', by omega, c2, c3⟩
      · have g := ih (k + 1) v (by omega) (by omega) hv (fun q hq => ?_)
        · rw [ek] at g; exact g
        · rw [hb q hq]
          constructor
          · rintro ⟨k', c1, c2, c3⟩
            exact ⟨k', by omega, c2, c3⟩
          · rintro ⟨k', c1, c2, c3⟩
            by_cases d : k' = k
            · subst d; exact absurd c2 w1
            · exact ⟨k', by omega, c2, c3⟩
  exact loop (hT S i - 1) 1 0 (by omega) (by omega) (by omega) (fun q hq => ⟨fun z => absurd z (bB_09 q (by omega) (by omega)), fun ⟨k', c1, _⟩ => by omega⟩)
theorem ru_catchesAll (set B : Int) (hs : 0 ≤ set ∧ set < 512) (hm : ∀ i : Nat, i < 6 → 0 ≤ mem 111 i ∧ mem 111 i < 512) (h1 : (∀ i : Nat, i < 6 → bB B i → smAnd (mem 111 i) set ≠ 0) → Post (some (.inl 1)) mem) (h0 : ¬ (∀ i : Nat, i < 6 → bB B i → smAnd (mem 111 i) set ≠ 0) → Post (some (.inl 0)) mem) : smRun 40 [oR 4 104, .inl set, .inl B] mem Post := by
  have loop : ∀ (f i : Nat), i + f = 6 → (∀ i' : Nat, i' < i → bB B i' → smAnd (mem 111 i') set ≠ 0) → smWp 40 2 [some (oR 4 104), some (.inl set), some (.inl B), some (.inl (i : Int))] [] mem Post := by
    intro f
    induction f with
    | zero =>
      intro i hf hp
      refine smAt [2, 9999] 60 rfl ?_
      repeat' first
        | refine And.intro ?_ ?_
        | intro _
      all_goals try omega
      exact h1 (fun i' x => hp i' (by omega))
    | succ f ih =>
      intro i hf hp
      have a1 := (an_9 (mem 111 i) set (hm i (by omega)) hs).1
      have b1 := and1 (smShr B (i : Int))
      have ei : ((i + 1 : Nat) : Int) = (i : Int) + 1 := by omega
      have nx : (bB B i → smAnd (mem 111 i) set ≠ 0) → smWp 40 2 [some (oR 4 104), some (.inl set), some (.inl B), some (.inl ((i : Int) + 1))] [] mem Post := by
        intro c
        have g := ih (i + 1) (by omega) (fun i' x => ?_)
        · rw [ei] at g; exact g
        · by_cases d : i' = i
          · rw [d]; exact c
          · exact hp i' (by omega)
      refine smAt [2, 9999] 60 rfl ?_
      repeat' first
        | refine And.intro ?_ ?_
        | intro _
      all_goals try omega
      · exact nx (fun c => by unfold bB at c; omega)
      · exact nx (fun _ => by assumption)
      · refine h0 (fun c => ?_)
        exact c i (by omega) (bB_n0 (by assumption)) (by assumption)
  refine smGo [2, 9999] 60 rfl ?_
  exact loop 6 0 (by omega) (fun i' x => by omega)
set_option maxRecDepth 4000 in
theorem ru_fewestHands (hk : kC mem S) (ho : ok N S) (hs : scn mem (S 0 0) (S 1) (fun _ => -6)) (h : ∀ v m, lxR (smShl 1 (S 0 0)) (hdV S) v → kN mem m → Post (some (.inl v)) m) : smRun 41 [oR 4 104, oR 8 16, oR 6 95] mem Post := by
  have oB := ho.2.2.1.1
  have oP := ho.2.1.1
  have hM := sh_9 (S 0 0) (by omega) (by omega)
  have kmk : ∀ m, kN mem m → kC m S ∧ scn m (S 0 0) (S 1) (fun _ => -6) := fun m e => ⟨kC_of (fun k q x => e k q (by omega)) hk, ⟨by rw [e 95 0 (by omega)]; exact hs.1, fun p x y => by rw [e 96 p (by omega), e 97 p (by omega)]; exact hs.2 p x y⟩⟩
  have second : ∀ (m : smM), kN mem m → (∀ i : Nat, i < 6 → 0 ≤ m 111 i ∧ m 111 i < 512) → (∀ i : Nat, i < 6 → bB (S 15 0) i → ∀ q : Nat, q < 9 → (bB (m 111 i) q ↔ hdN S i (hT S i) q)) → ∀ (f : Nat) (set best : Int), set + f = smShl 1 (S 0 0) → 0 ≤ set → lxR set (hdV S) best → smWp 41 45 [some (oR 4 104), some (oR 8 16), some (oR 6 95), some (.inl best), some (.inl set)] [] m Post := by
    intro m km h5 hb f
    have kB : m 16 0 = S 15 0 := (kmk m km).1.2.1.1
    have kP : m 95 0 = S 0 0 := (kmk m km).2.1
    have vI : ∀ set, 0 ≤ set → set < 512 → ((∀ i : Nat, i < 6 → bB (S 15 0) i → smAnd (m 111 i) set ≠ 0) ↔ hdV S set) := by
      intro set s0 s1
      refine ⟨fun c i hi b => ?_, fun c i hi b => ?_⟩
      · have c1 := c i hi b
        have c2 : ¬ ∀ j : Nat, j < 9 → ¬ (bB (m 111 i) j ∧ bB set j) := fun d => c1 ((an_9 _ _ (h5 i hi) ⟨s0, s1⟩).2.mpr d)
        refine Classical.byContradiction (fun d => c2 (fun j hj q => d ?_))
        obtain ⟨k, k1, k2, k3⟩ := (hb i hi b j hj).mp q.1
        exact ⟨k, k1, k2, by rw [k3]; exact q.2⟩
      · intro c1
        obtain ⟨k, k1, k2, k3⟩ := c i hi b
        have oi := ok_thr ho (show liB S (i : Int) from ⟨by omega, b⟩)
        have q1 := fPos_in (w := S 19 i) oi.1 k
        rw [show fPos (S 18 i) (S 19 i) (S 0 0) k = lP S i k from rfl] at q1
        have e : (((lP S i k).toNat : Nat) : Int) = lP S i k := Int.toNat_of_nonneg q1.1
        refine (an_9 _ _ (h5 i hi) ⟨s0, s1⟩).2.mp c1 (lP S i k).toNat (by omega) ⟨(hb i hi b _ (by omega)).mpr ⟨k, k1, k2, e.symm⟩, ?_⟩
        rw [e]; exact k3
    induction f with
    | zero =>
      intro set best hf s0 hl
      have hbi := lxR_in hl
      have hM2 := hM
      have hf2 := hf
      rw [← kP] at hM2 hf2
      refine smAt [45, 9999] 60 rfl ?_
      repeat' first
        | refine And.intro ?_ ?_
        | intro _
      all_goals try omega
      rw [show set = smShl 1 (S 0 0) by omega] at hl
      exact h best m hl km
    | succ f ih =>
      intro set best hf s0 hl
      have hbi := lxR_in hl
      have p1 := pc_9 set s0 (by omega)
      have hM2 := hM
      have hf2 := hf
      rw [← kP] at hM2 hf2
      have no : (¬ hdV S set ∨ (0 ≤ best ∧ fPc best ≤ fPc set)) → smWp 41 90 [some (oR 4 104), some (oR 8 16), some (oR 6 95), some (.inl best), some (.inl set)] [] m Post := by
        intro c
        refine smAt [45, 9999] 60 rfl ?_
        exact ih (set + 1) best (by omega) (by omega) (lxR_no hl c)
      have yes : (best < 0 ∨ fPc set < fPc best) → smWp 41 74 [some (oR 4 104), some (oR 8 16), some (oR 6 95), some (.inl best), some (.inl set)] [] m Post := by
        intro c
        refine smAt [45, 90, 9999] 60 rfl ?_
        refine ru_catchesAll set _ ⟨s0, by omega⟩ h5 (fun w1 => ?_) (fun w1 => ?_)
        all_goals rw [kB, vI set s0 (by omega)] at w1
        · skip
          repeat' first
            | refine And.intro ?_ ?_
            | intro _
          all_goals try omega
          refine smAt [45, 9999] 60 rfl ?_
          exact ih (set + 1) set (by omega) (by omega) (lxR_yes s0 hl w1 c)
        · skip
          repeat' first
            | refine And.intro ?_ ?_
            | intro _
          all_goals try omega
          exact no (Or.inl w1)
      by_cases cb : best = -6
      · refine smAt [45, 74, 90, 9999] 60 rfl ?_
        repeat' first
          | refine And.intro ?_ ?_
          | intro _
          | (show smRun _ _ _ _; first | with_reducible refine ru_bitCount _ ?_ ?_)
        all_goals try omega
        exact yes (by omega)
      · have p2 := pc_9 best (by omega) (by omega)
        refine smAt [45, 74, 90, 9999] 60 rfl ?_
        repeat' first
          | refine And.intro ?_ ?_
          | intro _
          | (show smRun _ _ _ _; first | with_reducible refine ru_bitCount _ ?_ ?_)
        all_goals try omega
        · exact no (Or.inr (by omega))
        · exact yes (by omega)
  have first : ∀ (f i : Nat) (m : smM), i + f = 6 → kN mem m → (∀ i' : Nat, i' < i → 0 ≤ m 111 i' ∧ m 111 i' < 512) → (∀ i' : Nat, i' < i → bB (S 15 0) i' → ∀ q : Nat, q < 9 → (bB (m 111 i') q ↔ hdN S i' (hT S i') q)) → smWp 41 2 [some (oR 4 104), some (oR 8 16), some (oR 6 95), some (.inl (i : Int)), none] [] m Post := by
    intro f
    induction f with
    | zero =>
      intro i m hf km h5 hb
      refine smAt [2, 45, 9999] 60 rfl ?_
      repeat' first
        | refine And.intro ?_ ?_
        | intro _
      all_goals try omega
      exact second m km (fun i' x => h5 i' (by omega)) (fun i' x => hb i' (by omega)) (smShl 1 (S 0 0)).toNat 0 (-6) (by omega) (by omega) lxR_0
    | succ f ih =>
      intro i m hf km h5 hb
      obtain ⟨kC1, sC1⟩ := kmk m km
      have kB := kC1.2.1.1
      have hii : smIR (i : Int) := by unfold smIR; omega
      have ei : ((i + 1 : Nat) : Int) = (i : Int) + 1 := by omega
      have nx : ∀ m2 v, kM m m2 → (0 ≤ v ∧ v < 512) → (bB (S 15 0) i → ∀ q : Nat, q < 9 → (bB v q ↔ hdN S i (hT S i) q)) → smWp 41 2 [some (oR 4 104), some (oR 8 16), some (oR 6 95), some (.inl ((i : Int) + 1)), none] [] (smU m2 111 i v) Post := by
        intro m2 v k2 hv hq
        have g := ih (i + 1) (smU m2 111 i v) (by omega) (fun k q x => by rw [smU_ne (by omega), k2 k q (by omega)]; exact km k q x) (fun i' x => ?_) (fun i' x => ?_)
        · rw [ei] at g; exact g
        · by_cases d : i' = i
          · rw [d, smU_s]; exact hv
          · rw [smU_d (by omega), k2 111 _ (by omega)]; exact h5 i' (by omega)
        · by_cases d : i' = i
          · rw [d, smU_s]; exact hq
          · rw [smU_d (by omega), k2 111 _ (by omega)]; exact hb i' (by omega)
      refine smAt [2, 45, 9999] 60 rfl ?_
      repeat' first
        | refine And.intro ?_ ?_
        | intro _
        | (show smRun _ _ _ _; first | with_reducible refine ru_listedHas _ hii (fun _ _ w1 => ?_) (fun w1 => ?_))
      all_goals try omega
      · have bi : bB (S 15 0) (i : Int) := by rw [← kB]; exact w1
        refine ru_catchPlaces i ⟨by omega, bi⟩ kC1 ho sC1 (fun v m2 g1 g2 g3 => ?_)
        repeat' first
          | refine And.intro ?_ ?_
          | intro _
        all_goals try omega
        exact nx m2 v g3 g1 (fun _ => g2)
      · exact nx m 0 (fun _ _ _ => rfl) (by omega) (fun z => absurd ⟨by omega, by omega, by rw [kB]; exact z⟩ w1)
  refine smGo [2, 9999] 60 rfl ?_
  exact first 6 0 mem (by omega) (fun _ _ _ => rfl) (fun i' x => by omega) (fun i' x => by omega)
def hdA (w v : Int) : Int := if v < 0 then -6 else if w = 0 then fPc v else v
theorem pC_hands (w : Int) (hw : smIR w) (hk : kC mem S) (ho : ok N S) (h0 : ¬ (0 ≤ w ∧ w ≤ 1) → Post (some (.inl (-2))) mem) (h1 : 0 ≤ w ∧ w ≤ 1 → ∀ v m, lxR (smShl 1 (S 0 0)) (hdV S) v → keepC mem m → Post (some (.inl (hdA w v))) m) : smRun 102 [oR 10 0, .inl w] mem Post := by
  have oP := ho.2.1.1
  have hM := sh_9 (S 0 0) (by omega) (by omega)
  refine smGo [12, 9999] 60 rfl ?_
  repeat' first
    | refine And.intro ?_ ?_
    | intro _
    | (show smRun _ _ _ _; first | with_reducible refine ru_within _ _ _ hw ?_ ?_ ?_ ?_)
    | (show Post _ _; first | exact h0 (by omega))
  all_goals try omega
  refine smAt [9999] 60 rfl ?_
  refine ru_look 0 (Or.inl rfl) hk.1 ho.2.1 (fun m1 s1 e1 => ?_)
  have k1 : keepC mem m1 := ⟨fun k i hh => e1 k i (by omega) (by omega) (by omega), e1 93 0 (by decide) (by decide) (by decide)⟩
  refine ru_fewestHands (kC_keep k1 hk) ho s1 (fun v m g1 g2 => ?_)
  have h9 := h1 (by omega) v m g1 (keepC_tr k1 (kN_keep g2))
  have hv := lxR_in g1
  unfold hdA at h9
  repeat' first
    | refine And.intro ?_ ?_
    | intro _
    | (show smRun _ _ _ _; first | with_reducible refine ru_bitCount _ ?_ ?_)
  all_goals try omega
  · rw [if_neg (by omega), if_neg (by omega)] at h9; exact h9
  · rw [if_neg (by omega), if_pos (by omega)] at h9; exact h9
  · rw [if_pos (by omega)] at h9; exact h9
end
