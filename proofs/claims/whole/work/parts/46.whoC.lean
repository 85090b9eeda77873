/-! who, class -/
def wfN (S : sS) (q w r t : Int) (n : Nat) : Prop := ∀ s : Nat, s < n → S 23 s ≤ (gT S (S 5 q) w r t : Int) ∧ fPos (S 5 q) w (S 0 0) (S 23 s).toNat = S 24 s ∧ fH (S 23 s) r t = S 25 s
def wF (S : sS) (q w r t : Int) : Prop := wfN S q w r t (S 22 0).toNat
def hsN (S : sS) (r t : Int) (n : Nat) : Prop := ∀ s : Nat, s < n → S 23 s ≤ r ∧ fH (S 23 s) r t = S 25 s
theorem gT_r {S : sS} {p w r t : Int} (hr : 1 ≤ r ∧ r ≤ 36) : (gT S p w r t : Int) ≤ r := by
  by_cases c : (gT S p w r t : Int) ≤ r
  · exact c
  · exfalso
    refine flN_not (S 1) (cP S) (S 0 0) p w r t 36 0 r.toNat (by omega) ?_ (Or.inr (Or.inr (by omega)))
    show r.toNat < gT S p w r t
    omega
theorem wF_hs {S : sS} {q w r t : Int} (hr : 1 ≤ r ∧ r ≤ 36) (h : wF S q w r t) : hsN S r t (S 22 0).toNat := by
  intro s hs
  have := h s hs
  have := gT_r (S := S) (p := S 5 q) (w := w) (t := t) hr
  omega
noncomputable def wcT (S : sS) (q r : Int) : Nat → Int
  | 0 => 0
  | n + 1 => wcT S q r n + cI (wF S q 0 r ((n : Int) + 1)) + cI (wF S q 1 r ((n : Int) + 1))
noncomputable def wcR (S : sS) (q : Int) : Nat → Int
  | 0 => 0
  | n + 1 => wcR S q n + wcT S q ((n : Int) + 1) 5
noncomputable def wcQ (S : sS) (q : Int) : Int := if bB (S 4 0) q then wcR S q (S 6 q).toNat else 0
noncomputable def wcS (S : sS) : Nat → Int
  | 0 => 0
  | n + 1 => wcS S n + wcQ S n
noncomputable def wcB (S : sS) : Nat → Int
  | 0 => 0
  | n + 1 => smOr (wcB S n) (if 0 < wcQ S n then smShl 1 n else 0)
theorem wcT_in (S : sS) (q r : Int) : ∀ n : Nat, 0 ≤ wcT S q r n ∧ wcT S q r n ≤ 2 * n
  | 0 => ⟨Int.le_refl 0, Int.le_refl 0⟩
  | n + 1 => by
    have := wcT_in S q r n
    have := cI_in (wF S q 0 r ((n : Int) + 1))
    have := cI_in (wF S q 1 r ((n : Int) + 1))
    simp only [wcT]
    omega
theorem wcR_in (S : sS) (q : Int) : ∀ n : Nat, 0 ≤ wcR S q n ∧ wcR S q n ≤ 10 * n
  | 0 => ⟨Int.le_refl 0, Int.le_refl 0⟩
  | n + 1 => by
    have := wcR_in S q n
    have := wcT_in S q ((n : Int) + 1) 5
    simp only [wcR]
    omega
theorem or_031 : ∀ a : Int, 0 ≤ a → a < (32 : Nat) → smOr a 0 = a := fin1 32 (by decide +kernel)
theorem wcB_in (S : sS) : ∀ n : Nat, n ≤ 5 → 0 ≤ wcB S n ∧ wcB S n < 32
  | 0, _ => ⟨Int.le_refl 0, by show (0 : Int) < 32; decide⟩
  | n + 1, h => by
    have h1 := wcB_in S n (by omega)
    simp only [wcB]
    split
    · exact or_lt32 _ _ h1.1 h1.2 (by omega) (by omega)
    · rw [or_031 _ h1.1 h1.2]; exact h1
section
variable {mem : smM} {Post : Option smV → smM → Prop} {N : Int} {S : sS}
theorem ru_fitHeights (r t : Int) (hr : 1 ≤ r ∧ r ≤ 36) (ht : 1 ≤ t ∧ t ≤ 5) (hk : kC mem S) (ho : ok N S) (h1 : hsN S r t (S 22 0).toNat → Post (some (.inl 1)) mem) (h0 : ¬ hsN S r t (S 22 0).toNat → Post (some (.inl 0)) mem) : smRun 61 [oR 7 23, .inl r, .inl t] mem Post := by
  obtain ⟨-, -, ⟨kS, ks⟩⟩ := id hk
  obtain ⟨-, -, -, ⟨oS, os⟩⟩ := id ho
  have loop : ∀ (f s : Nat), (s : Int) + f = S 22 0 → hsN S r t s → smWp 61 2 [some (oR 7 23), some (.inl r), some (.inl t), some (.inl (s : Int))] [] mem Post := by
    intro f
    induction f with
    | zero =>
      intro s hf hp
      refine smAt [2, 9999] 60 rfl ?_
      repeat' first
        | refine And.intro ?_ ?_
        | intro _
      all_goals try omega
      rw [show s = (S 22 0).toNat by omega] at hp
      exact h1 hp
    | succ f ih =>
      intro s hf hp
      have k1 := ks s (by omega) (by omega)
      have o1 := os s (by omega) (by omega)
      have es : ((s + 1 : Nat) : Int) = (s : Int) + 1 := by omega
      refine smAt [2, 20, 9999] 60 rfl ?_
      repeat' first
        | refine And.intro ?_ ?_
        | intro _
      all_goals try omega
      · exact h0 (fun z => by have := z s (by omega); omega)
      · have q := fH_in (k := S 23 s) (r := r) (t := t) (by omega) (by omega)
        refine smAt [2, 9999] 60 rfl ?_
        repeat' first
          | refine And.intro ?_ ?_
          | intro _
        all_goals try omega
        refine ru_heightBehind _ _ _ (by omega) (by omega) (by omega) ?_
        rw [k1.1]
        repeat' first
          | refine And.intro ?_ ?_
          | intro _
        all_goals try omega
        · have g := ih (s + 1) (by omega) (fun s' x => ?_)
          · rw [es] at g; exact g
          · by_cases d : s' = s
            · rw [d]; omega
            · exact hp s' (by omega)
        · exact h0 (fun z => by have := z s (by omega); omega)
  refine smGo [2, 9999] 60 rfl ?_
  exact loop (S 22 0).toNat 0 (by omega) (fun s' x => by omega)
theorem ru_fit (q w r t : Int) (hr : 1 ≤ r ∧ r ≤ 36) (ht : 1 ≤ t ∧ t ≤ 5) (hq : 0 ≤ S 5 q ∧ S 5 q < S 0 0) (hm : trS mem S (S 5 q) w r t) (hk : kC mem S) (ho : ok N S) (h1 : wF S q w r t → Post (some (.inl 1)) mem) (h0 : ¬ wF S q w r t → Post (some (.inl 0)) mem) : smRun 62 [oR 7 23, oR 2 98] mem Post := by
  obtain ⟨-, -, ⟨kS, ks⟩⟩ := id hk
  obtain ⟨-, -, -, ⟨oS, os⟩⟩ := id ho
  have oP := ho.2.1.1
  have e1 : mem 98 1 = (gT S (S 5 q) w r t : Int) := hm.1
  have e3 : ∀ j : Nat, j ≤ gT S (S 5 q) w r t → mem 99 j = fPos (S 5 q) w (S 0 0) j ∧ mem 100 j = fH j r t := hm.2.2.2
  have i1 := gT_in (S := S) (p := S 5 q) (w := w) (r := r) (t := t)
  have i2 := gT_r (S := S) (p := S 5 q) (w := w) (t := t) hr
  have loop : ∀ (f s : Nat) (x3 : Option smV), (s : Int) + f = S 22 0 → wfN S q w r t s → smWp 62 2 [some (oR 7 23), some (oR 2 98), some (.inl (s : Int)), x3] [] mem Post := by
    intro f
    induction f with
    | zero =>
      intro s x3 hf hp
      refine smAt [2, 9999] 60 rfl ?_
      repeat' first
        | refine And.intro ?_ ?_
        | intro _
      all_goals try omega
      rw [show s = (S 22 0).toNat by omega] at hp
      exact h1 hp
    | succ f ih =>
      intro s x3 hf hp
      have k1 := ks s (by omega) (by omega)
      have o1 := os s (by omega) (by omega)
      have es : ((s + 1 : Nat) : Int) = (s : Int) + 1 := by omega
      refine smAt [2, 25, 9999] 60 rfl ?_
      repeat' first
        | refine And.intro ?_ ?_
        | intro _
      all_goals try omega
      · exact h0 (fun z => by have := z s (by omega); omega)
      · have j1 : S 23 s ≤ (gT S (S 5 q) w r t : Int) := by omega
        have e4 := e3 (S 23 s).toNat (by omega)
        rw [Int.toNat_of_nonneg o1.1.1, ← k1.1] at e4
        have q1 := fH_in (k := mem 24 s) (r := r) (t := t) (by omega) (by omega)
        have q2 := fPos_in (w := w) hq (S 23 s).toNat
        rw [← k1.1] at q2
        refine smAt [2, 9999] 60 rfl ?_
        repeat' first
          | refine And.intro ?_ ?_
          | intro _
        all_goals try omega
        · exact h0 (fun z => by have := z s (by omega); rw [← k1.1] at this; omega)
        · have g := ih (s + 1) (some (.inl (mem 24 s))) (by omega) (fun s' x => ?_)
          · rw [es] at g; exact g
          · by_cases d : s' = s
            · rw [d, ← k1.1]; rw [← k1.1] at j1; omega
            · exact hp s' (by omega)
        · exact h0 (fun z => by have := z s (by omega); rw [← k1.1] at this; omega)
  refine smGo [2, 9999] 60 rfl ?_
  exact loop (S 22 0).toNat 0 none (by omega) (fun s' x => by omega)
theorem ru_fitsSights (q w r t : Int) (ht : fThr w r t) (hq : 0 ≤ q ∧ q ≤ 4 ∧ bB (S 4 0) q) (hs : scS mem S) (hk : kC mem S) (ho : ok N S) (h1 : wF S q w r t → ∀ m, kT8 mem m → Post (some (.inl 1)) m) (h0 : ¬ wF S q w r t → ∀ m, kT8 mem m → Post (some (.inl 0)) m) : smRun 105 [oR 10 0, .inl q, .inl w, .inl r, .inl t] mem Post := by
  have kS : mem 23 0 = S 22 0 := hk.2.2.1
  have oS := ho.2.2.2.1
  have e5 := (hk.1.2.2.2.2.1 q (by omega) (by omega)).1
  have o5 := ho.2.1.2.2.2.2.1 q (by omega) (by omega)
  have hp : 0 ≤ S 5 q ∧ S 5 q < S 0 0 := ⟨o5.1.1, (o5.2.2.2.2 hq.2.2).1⟩
  refine smGo [15, 9999] 60 rfl ?_
  repeat' first
    | refine And.intro ?_ ?_
    | intro _
  all_goals try omega
  · refine smAt [9999] 60 rfl ?_
    repeat' first
      | refine And.intro ?_ ?_
      | intro _
    all_goals try omega
    rw [e5]
    refine ru_goS _ w r t hs ho.2.1 hp ht (fun m1 t1 k1 => ?_)
    refine ru_fit q w r t ht.2.1 ht.2.2 hp t1 (kC_keep (kT8_keep k1) hk) ho (fun c => ?_) (fun c => ?_)
    · exact And.intro (Or.inr rfl) (h1 c m1 k1)
    · exact And.intro (Or.inl rfl) (h0 c m1 k1)
  · refine h1 ?_ mem (kT8_rf mem)
    intro s hs
    omega
set_option maxRecDepth 4000 in
theorem ru_fittingThrows (q : Int) (hq : 0 ≤ q ∧ q ≤ 4 ∧ bB (S 4 0) q) (hs : scS mem S) (hk : kC mem S) (ho : ok N S) (h : ∀ m, kT8 mem m → Post (some (.inl (wcR S q (S 6 q).toNat))) m) : smRun 106 [oR 10 0, .inl q] mem Post := by
  have o5 := ho.2.1.2.2.2.2.1 q (by omega) (by omega)
  have kmk : ∀ m, kT8 mem m → kC m S ∧ scS m S := fun m e => ⟨kC_keep (kT8_keep e) hk, kT8_sc e hs⟩
  have inner : ∀ (r : Nat), (1 ≤ r ∧ r ≤ 36) → (∀ m, kT8 mem m → smWp 106 4 [some (oR 10 0), some (.inl q), some (.inl (wcR S q r)), some (.inl ((r : Int) + 1)), some (.inl 6)] [] m Post) → ∀ (f t : Nat) (m : smM), t + f = 5 → kT8 mem m → smWp 106 23 [some (oR 10 0), some (.inl q), some (.inl (wcR S q (r - 1) + wcT S q r t)), some (.inl (r : Int)), some (.inl ((t : Int) + 1))] [] m Post := by
    intro r hr K f
    induction f with
    | zero =>
      intro t m hf km
      have e : t = 5 := by omega
      subst e
      have e2 : wcR S q r = wcR S q (r - 1) + wcT S q r 5 := by
        have e3 : r = (r - 1) + 1 := by omega
        conv => lhs; rw [e3]
        simp only [wcR]
        rw [show ((r - 1 : Nat) : Int) + 1 = (r : Int) by omega]
      have g := K m km
      rw [e2] at g
      refine smAt [4, 23, 9999] 60 rfl ?_
      repeat' first
        | refine And.intro ?_ ?_
        | intro _
      all_goals try omega
      exact g
    | succ f ih =>
      intro t m hf km
      obtain ⟨kC1, sC1⟩ := kmk m km
      have et : ((t + 1 : Nat) : Int) = (t : Int) + 1 := by omega
      have th : ∀ w, (w = 0 ∨ w = 1) → fThr w r ((t : Int) + 1) := fun w hw => ⟨by omega, by omega, by omega⟩
      have g := fun m' km' => ih (t + 1) m' (by omega) km'
      simp only [wcT] at g
      rw [et] at g
      refine smAt [4, 23, 45, 85, 9999] 60 rfl ?_
      repeat' first
        | refine And.intro ?_ ?_
        | intro _
      all_goals try omega
      refine ru_fitHeights r ((t : Int) + 1) (by omega) (by omega) kC1 ho (fun w1 => ?_) (fun w1 => ?_)
      · skip
        repeat' first
          | refine And.intro ?_ ?_
          | intro _
        all_goals try omega
        refine smAt [4, 23, 65, 9999] 60 rfl ?_
        have two : ∀ (a : Int) (m1 : smM), a = cI (wF S q 0 r ((t : Int) + 1)) → kT8 mem m1 → smWp 106 65 [some (oR 10 0), some (.inl q), some (.inl (wcR S q (r - 1) + wcT S q r t + a)), some (.inl (r : Int)), some (.inl ((t : Int) + 1))] [] m1 Post := by
          intro a m1 ha km1
          obtain ⟨kC2, sC2⟩ := kmk m1 km1
          refine smAt [4, 23, 9999] 60 rfl ?_
          refine ru_fitsSights q 1 r _ (th 1 (Or.inr rfl)) hq sC2 kC2 ho (fun c m2 k2 => ?_) (fun c m2 k2 => ?_)
          · skip
            repeat' first
              | refine And.intro ?_ ?_
              | intro _
            all_goals try omega
            have g2 := g m2 (kT8_tr km1 k2)
            rw [cI_1 c, ← ha, ← Int.add_assoc, ← Int.add_assoc] at g2
            exact g2
          · skip
            repeat' first
              | refine And.intro ?_ ?_
              | intro _
            all_goals try omega
            have g2 := g m2 (kT8_tr km1 k2)
            rw [cI_0 c, ← ha, ← Int.add_assoc, ← Int.add_assoc] at g2
            exact g2
        refine ru_fitsSights q 0 r _ (th 0 (Or.inl rfl)) hq sC1 kC1 ho (fun c m2 k2 => ?_) (fun c m2 k2 => ?_)
        · skip
          repeat' first
            | refine And.intro ?_ ?_
            | intro _
          all_goals try omega
          exact two 1 m2 (cI_1 c).symm (kT8_tr km k2)
        · skip
          repeat' first
            | refine And.intro ?_ ?_
            | intro _
          all_goals try omega
          exact two 0 m2 (cI_0 c).symm (kT8_tr km k2)
      · skip
        repeat' first
          | refine And.intro ?_ ?_
          | intro _
        all_goals try omega
        refine smAt [4, 23, 9999] 60 rfl ?_
        have g2 := g m km
        rw [cI_0 (fun z => w1 (wF_hs (by omega) z)), cI_0 (fun z => w1 (wF_hs (by omega) z)), Int.add_zero, Int.add_zero] at g2
        exact g2
  have outer : ∀ (f r : Nat) (m : smM) (x4 : Option smV), (r : Int) + f = S 6 q → kT8 mem m → smWp 106 4 [some (oR 10 0), some (.inl q), some (.inl (wcR S q r)), some (.inl ((r : Int) + 1)), x4] [] m Post := by
    intro f
    induction f with
    | zero =>
      intro r m x4 hf km
      obtain ⟨kC1, sC1⟩ := kmk m km
      have e6 := (kC1.1.2.2.2.2.1 q (by omega) (by omega)).2.1
      have g := h m km
      rw [show (S 6 q).toNat = r by omega] at g
      refine smAt [4, 23, 9999] 60 rfl ?_
      repeat' first
        | refine And.intro ?_ ?_
        | intro _
      all_goals try omega
      exact g
    | succ f ih =>
      intro r m x4 hf km
      obtain ⟨kC1, sC1⟩ := kmk m km
      have e6 := (kC1.1.2.2.2.2.1 q (by omega) (by omega)).2.1
      have er : ((r + 1 : Nat) : Int) = (r : Int) + 1 := by omega
      refine smAt [4, 23, 9999] 60 rfl ?_
      repeat' first
        | refine And.intro ?_ ?_
        | intro _
      all_goals try omega
      have g := inner (r + 1) (by omega) (fun m2 k2 => ?_) 5 0 m (by omega) km
      · rw [er] at g
        simp only [wcT, Nat.add_sub_cancel, Int.add_zero] at g
        exact g
      · have g := ih (r + 1) m2 (some (.inl 6)) (by omega) k2
        exact g
  refine smGo [4, 9999] 60 rfl ?_
  exact outer (S 6 q).toNat 0 mem none (by omega) (kT8_rf mem)
set_option maxRecDepth 4000 in
theorem pC_who (w : Int) (hw : smIR w) (hk : kC mem S) (ho : ok N S) (h0 : ¬ (0 ≤ w ∧ w ≤ 1) → Post (some (.inl (-2))) mem) (h1 : 0 ≤ w ∧ w ≤ 1 → ∀ m, keepC mem m → Post (some (.inl (if w = 0 then wcB S 5 else wcS S 5))) m) : smRun 107 [oR 10 0, .inl w] mem Post := by
  refine smGo [12, 9999] 60 rfl ?_
  repeat' first
    | refine And.intro ?_ ?_
    | intro _
    | (show smRun _ _ _ _; first | with_reducible refine ru_within _ _ _ hw ?_ ?_ ?_ ?_)
    | (show Post _ _; first | exact h0 (by omega))
  all_goals try omega
  refine smAt [34, 9999] 60 rfl ?_
  refine ru_lookS hk.1 ho.2.1 (fun m1 s1 e1 => ?_)
  have kk1 := kC_keep e1 hk
  have loop : ∀ (f q : Nat) (m : smM) (x5 : Option smV), q + f = 5 → kT8 m1 m → smWp 107 34 [some (oR 10 0), some (.inl w), some (.inl (wcB S q)), some (.inl (wcS S q)), some (.inl (q : Int)), x5] [] m Post := by
    intro f
    induction f with
    | zero =>
      intro q m x5 hf km
      have e : q = 5 := by omega
      subst e
      have g := h1 (by omega) m (keepC_tr e1 (kT8_keep km))
      refine smAt [34, 9999] 60 rfl ?_
      repeat' first
        | refine And.intro ?_ ?_
        | intro _
      all_goals try omega
      · rw [if_neg (by omega)] at g; exact g
      · rw [if_pos (by omega)] at g; exact g
    | succ f ih =>
      intro q m x5 hf km
      have kC1 := kC_keep (kT8_keep km) kk1
      have sC1 := kT8_sc km s1
      have kT := kC1.1.2.1
      have eq1 : ((q + 1 : Nat) : Int) = (q : Int) + 1 := by omega
      have hqi : smIR (q : Int) := by unfold smIR; omega
      have o5 := ho.2.1.2.2.2.2.1 q (by omega) (by omega)
      have tl : ∀ (c : Int) (m2 : smM), c = wcQ S q → (0 ≤ c ∧ c ≤ 360) → kT8 m1 m2 → smWp 107 65 [some (oR 10 0), some (.inl w), some (.inl (wcB S q)), some (.inl (wcS S q)), some (.inl (q : Int)), x5] [.inl c] m2 Post := by
        intro c m2 hc hb k2
        have g := ih (q + 1) m2 (some (.inl c)) (by omega) k2
        simp only [wcB, wcS, ← hc] at g
        rw [eq1] at g
        refine smAt [34, 9999] 60 rfl ?_
        repeat' first
          | refine And.intro ?_ ?_
          | intro _
        all_goals try omega
        · rw [if_neg (by omega)] at g; exact g
        · rw [if_pos (by omega)] at g; exact g
      refine smAt [34, 65, 9999] 60 rfl ?_
      repeat' first
        | refine And.intro ?_ ?_
        | intro _
        | (show smRun _ _ _ _; first | with_reducible refine ru_hasPerson 2 _ hqi (fun _ _ w1 => ?_) (fun w1 => ?_))
      all_goals try omega
      · rw [kT] at w1
        refine ru_fittingThrows q ⟨by omega, by omega, w1⟩ sC1 kC1 ho (fun m2 k2 => ?_)
        have i1 := wcR_in S q (S 6 q).toNat
        exact tl _ m2 (by unfold wcQ; rw [if_pos w1]) (by omega) (kT8_tr km k2)
      · rw [kT] at w1
        exact tl 0 m (by unfold wcQ; rw [if_neg (fun z => w1 ⟨by omega, by omega, z⟩)]) (by omega) km
  exact loop 5 0 m1 none (by omega) (kT8_rf m1)
end
