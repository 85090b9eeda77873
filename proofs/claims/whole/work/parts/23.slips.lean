section
variable {mem : smM} {Post : Option smV → smM → Prop} {N : Int} {S : sS}
abbrev cg (S : sS) (p c w r t : Int) : Prop := gH S p w r t = 2 ∧ gB S p w r t = c
def shF (u : Int) : Int := if u % 10 = 0 then 10 else if u % 5 = 0 then 5 else if u % 2 = 0 then 2 else 1
def loR (r : Int) : Int := if r - 1 < 1 then 1 else r - 1
def hiR (r : Int) : Int := if 36 < r + 1 then 36 else r + 1
def upF (S : sS) (p o w r t c : Int) : Int := (if cg S p o w (loR r) t then c else 0) + (if cg S p o w (hiR r) t then c else 0) + (if cg S p o w r t then 10 - 2 * c else 0)
def slF (S : sS) (p o w r t c k : Int) : Int := if k = 0 then (upF S p o w r t c).tdiv (shF (upF S p o w r t c)) else (10 : Int).tdiv (shF (upF S p o w r t c))
theorem shF_in (u : Int) : 1 ≤ shF u ∧ shF u ≤ 10 := by
  unfold shF
  repeat' split
  all_goals omega
theorem upF_in {p o w r t c : Int} (hc : 0 ≤ c ∧ c ≤ 5) : 0 ≤ upF S p o w r t c ∧ upF S p o w r t c ≤ 10 := by
  unfold upF
  repeat' split
  all_goals omega
theorem loR_in {r : Int} (h : 1 ≤ r ∧ r ≤ 36) : 1 ≤ loR r ∧ loR r ≤ 36 := by unfold loR; split <;> omega
theorem hiR_in {r : Int} (h : 1 ≤ r ∧ r ≤ 36) : 1 ≤ hiR r ∧ hiR r ≤ 36 := by unfold hiR; split <;> omega
theorem tdiv_in {a b : Int} (ha : 0 ≤ a ∧ a ≤ 10) (hb : 1 ≤ b) : 0 ≤ a.tdiv b ∧ a.tdiv b ≤ 10 := by
  rw [Int.tdiv_eq_ediv_of_nonneg ha.1]
  refine ⟨Int.ediv_nonneg ha.1 (by omega), ?_⟩
  have := Int.ediv_le_self b ha.1
  omega
theorem ru_sharedWithTen (u : Int) (hu : 0 ≤ u ∧ u ≤ 10) (h : Post (some (.inl (shF u))) mem) : smRun 108 [.inl u] mem Post := by
  have t1 : u.tmod 10 = u % 10 := Int.tmod_eq_emod_of_nonneg hu.1
  have t2 : u.tmod 5 = u % 5 := Int.tmod_eq_emod_of_nonneg hu.1
  have t3 : u.tmod 2 = u % 2 := Int.tmod_eq_emod_of_nonneg hu.1
  unfold shF at h
  refine smGo [9999] 60 rfl ?_
  repeat' first
    | refine And.intro ?_ ?_
    | intro _
  all_goals try omega
  · rw [if_neg (by omega), if_neg (by omega), if_neg (by omega)] at h; exact h
  · rw [if_neg (by omega), if_neg (by omega), if_pos (by omega)] at h; exact h
  · rw [if_neg (by omega), if_pos (by omega)] at h; exact h
  · rw [if_pos (by omega)] at h; exact h
abbrev pers (S : sS) (q : Int) : Prop := 0 ≤ q ∧ q ≤ 4 ∧ bB (S 4 0) q
set_option maxHeartbeats 1000000 in
theorem pC_slips (q o w r t c k : Int) (hq : smIR q) (ho' : smIR o) (hw : smIR w) (hr : smIR r) (ht : smIR t) (hc : smIR c) (hkk : smIR k) (hk : kC mem S) (ho : ok N S) (h0 : ¬ (pers S q ∧ pers S o) → Post (some (.inr (.inr (.inl (-1000000000000000001))))) mem) (h1 : pers S q → pers S o → ¬ (fThr w r t ∧ (0 ≤ c ∧ c ≤ 5) ∧ (0 ≤ k ∧ k ≤ 1)) → Post (some (.inr (.inr (.inl (-1000000000000000002))))) mem) (h2 : pers S q → pers S o → fThr w r t → 0 ≤ c ∧ c ≤ 5 → 0 ≤ k ∧ k ≤ 1 → ∀ mem', keepC mem mem' → Post (some (.inr (.inr (.inl (slF S (S 5 q) o w r t c k))))) mem') : smRun 109 [oR 10 0, .inl q, .inl o, .inl w, .inl r, .inl t, .inl c, .inl k] mem Post := by
  obtain ⟨⟨kP, kT, kN, kp, kq, ki⟩, ⟨kB, kb⟩, ⟨kS, ks⟩⟩ := id hk
  obtain ⟨oN, ⟨oP, oT, oA, op, oq, oi⟩, ⟨oB, ob⟩, ⟨oS, os⟩⟩ := id ho
  have hp' : ∀ x, pers S x ↔ 0 ≤ x ∧ x ≤ 4 ∧ bB (mem 2 4) x := by intro x; unfold pers; rw [kT]
  rw [hp', hp'] at h0 h1 h2
  -- the part behind the look
  have body : ∀ m1, scS m1 S → keepC mem m1 → (0 ≤ q ∧ q ≤ 4 ∧ bB (mem 2 4) q) → (0 ≤ o ∧ o ≤ 4 ∧ bB (mem 2 4) o) → fThr w r t → 0 ≤ c ∧ c ≤ 5 → 0 ≤ k ∧ k ≤ 1 → smWp 109 82 [some (oR 10 0), some (.inl q), some (.inl o), some (.inl w), some (.inl r), some (.inl t), some (.inl c), some (.inl k), none, none, none] [] m1 Post := by
    intro m1 s1 k1 c1 c2 c3 c4 c5
    have e6 := k1.1 6 q (by omega)
    have e7 := (kq q (by omega) (by omega)).1
    have o7 := oq q (by omega) (by omega)
    have hp : 0 ≤ S 5 q ∧ S 5 q < S 0 0 := ⟨o7.1.1, (o7.2.2.2.2 (by rw [← kT]; exact c1.2.2)).1⟩
    have i1 := loR_in (r := r) (by omega)
    have i2 := hiR_in (r := r) (by omega)
    -- behind the three flights
    have fin : ∀ (m : smM) (u : Int), u = upF S (S 5 q) o w r t c → kT8 m1 m → smWp 109 195 [some (oR 10 0), some (.inl q), some (.inl o), some (.inl w), some (.inl r), some (.inl t), some (.inl c), some (.inl k), some (.inl (S 5 q)), some (.inl u), none] [] m Post := by
      intro m u hu hm
      have iu := upF_in (S := S) (p := S 5 q) (o := o) (w := w) (r := r) (t := t) c4
      have is := shF_in u
      have d1 := tdiv_in (a := u) (b := shF u) (by omega) is.1
      have d2 := tdiv_in (a := 10) (b := shF u) (by omega) is.1
      have h9 := h2 c1 c2 c3 c4 c5 m (keepC_tr k1 (kT8_keep hm))
      unfold slF at h9
      rw [← hu] at h9
      refine smAt [9999] 60 rfl ?_
      refine ru_sharedWithTen _ (by omega) ?_
      repeat' first
        | refine And.intro ?_ ?_
        | intro _
      all_goals try omega
      · rw [if_neg (by omega)] at h9; exact h9
      · rw [if_pos (by omega)] at h9; exact h9
    have g3 : ∀ (m : smM) (u : Int), u = (if cg S (S 5 q) o w (loR r) t then c else 0) + (if cg S (S 5 q) o w (hiR r) t then c else 0) → kT8 m1 m → smWp 109 164 [some (oR 10 0), some (.inl q), some (.inl o), some (.inl w), some (.inl r), some (.inl t), some (.inl c), some (.inl k), some (.inl (S 5 q)), some (.inl u), none] [] m Post := by
      intro m u hu hm
      refine smAt [195, 9999] 60 rfl ?_
      refine ru_goesTo o _ _ _ _ ho' (kT8_sc hm s1) ho.2.1 hp c3 ?_ ?_
      · intro a b m2 _ hm2
        repeat' first
          | refine And.intro ?_ ?_
          | intro _
        all_goals try omega
        refine fin m2 _ ?_ (kT8_tr hm hm2)
        unfold upF
        rw [if_pos (show cg S (S 5 q) o w r t from ⟨a, b⟩), ← hu]
      · intro a m2 hm2
        repeat' first
          | refine And.intro ?_ ?_
          | intro _
        all_goals try omega
        refine fin m2 _ ?_ (kT8_tr hm hm2)
        unfold upF
        rw [if_neg (show ¬ cg S (S 5 q) o w r t from a), ← hu]
    have g2 : ∀ (m : smM) (u : Int), u = (if cg S (S 5 q) o w (loR r) t then c else 0) → kT8 m1 m → smWp 109 131 [some (oR 10 0), some (.inl q), some (.inl o), some (.inl w), some (.inl r), some (.inl t), some (.inl c), some (.inl k), some (.inl (S 5 q)), some (.inl u), none] [] m Post := by
      intro m u hu hm
      refine smAt [164, 9999] 60 rfl ?_
      repeat' first
        | refine And.intro ?_ ?_
        | intro _
      all_goals try omega
      refine ru_goesTo o _ _ (hiR r) _ ho' (kT8_sc hm s1) ho.2.1 hp (by omega) ?_ ?_
      · intro a b m2 _ hm2
        repeat' first
          | refine And.intro ?_ ?_
          | intro _
        all_goals try omega
        refine g3 m2 _ ?_ (kT8_tr hm hm2)
        rw [if_pos (show cg S (S 5 q) o w (hiR r) t from ⟨a, b⟩), ← hu]
      · intro a m2 hm2
        repeat' first
          | refine And.intro ?_ ?_
          | intro _
        all_goals try omega
        refine g3 m2 _ ?_ (kT8_tr hm hm2)
        rw [if_neg (show ¬ cg S (S 5 q) o w (hiR r) t from a), ← hu]
    refine smAt [131, 9999] 60 rfl ?_
    repeat' first
      | refine And.intro ?_ ?_
      | intro _
    all_goals try omega
    rw [e6, e7]
    refine ru_goesTo o _ _ (loR r) _ ho' s1 ho.2.1 hp (by omega) ?_ ?_
    · intro a b m2 _ hm2
      repeat' first
        | refine And.intro ?_ ?_
        | intro _
      all_goals try omega
      refine g2 m2 _ ?_ hm2
      rw [if_pos (show cg S (S 5 q) o w (loR r) t from ⟨a, b⟩)]
      omega
    · intro a m2 hm2
      repeat' first
        | refine And.intro ?_ ?_
        | intro _
      all_goals try omega
      refine g2 m2 _ ?_ hm2
      rw [if_neg (show ¬ cg S (S 5 q) o w (loR r) t from a)]
      omega
  refine smGo [82, 9999] 60 rfl ?_
  repeat' first
    | refine And.intro ?_ ?_
    | intro _
    | (show smRun _ _ _ _; first | with_reducible refine ru_hasPerson 2 _ (by assumption) ?_ ?_ | with_reducible refine ru_isThrowC _ _ _ hw hr ht ?_ ?_ | with_reducible refine ru_within _ _ _ (by assumption) ?_ ?_ ?_ ?_)
    | (show Post _ _; first | exact h0 (by omega) | exact h1 (by omega) (by omega) (by omega))
  all_goals try omega
  refine ru_lookS hk.1 ho.2.1 (fun m1 s1 k1 => ?_)
  exact body m1 s1 k1 (by omega) (by omega) (by omega) (by omega) (by omega)
theorem gcd_sh : ∀ u : Nat, u < 11 → ((Nat.gcd u 10 : Nat) : Int) = shF (u : Int) := by decide
set_option maxHeartbeats 1000000 in
theorem pR_slips (q o w r t c k : Int) (hq : smIR q) (ho' : smIR o) (hw : smIR w) (hr : smIR r) (ht : smIR t) (hc : smIR c) (hkk : smIR k) (hk : rC mem S) (ho : ok N S) (h0 : ¬ (pers S q ∧ pers S o) → Post (some (.inr (.inr (.inl (-1000000000000000001))))) mem) (h1 : pers S q → pers S o → ¬ (fThr w r t ∧ (0 ≤ c ∧ c ≤ 5) ∧ (0 ≤ k ∧ k ≤ 1)) → Post (some (.inr (.inr (.inl (-1000000000000000002))))) mem) (h2 : pers S q → pers S o → fThr w r t → 0 ≤ c ∧ c ≤ 5 → 0 ≤ k ∧ k ≤ 1 → ∀ mem', keepR mem mem' → Post (some (.inr (.inr (.inl (slF S (S 5 q) o w r t c k))))) mem') : smRun 173 [oR 11 114, .inl q, .inl o, .inl w, .inl r, .inl t, .inl c, .inl k] mem Post := by
  obtain ⟨⟨kP, kT, kN, kp, kq, ki⟩, ⟨kB, kb⟩, ⟨kS, ks⟩⟩ := id hk
  obtain ⟨oN, ⟨oP, oT, oA, op, oq, oi⟩, ⟨oB, ob⟩, ⟨oS, os⟩⟩ := id ho
  have hp' : ∀ x, pers S x ↔ 0 ≤ x ∧ x ≤ 4 ∧ bB (mem 114 2) x := by intro x; unfold pers; rw [kT]
  rw [hp', hp'] at h0 h1 h2
  have body : (0 ≤ q ∧ q ≤ 4 ∧ bB (mem 114 2) q) → (0 ≤ o ∧ o ≤ 4 ∧ bB (mem 114 2) o) → fThr w r t → 0 ≤ c ∧ c ≤ 5 → 0 ≤ k ∧ k ≤ 1 → smWp 173 61 [some (oR 11 114), some (.inl q), some (.inl o), some (.inl w), some (.inl r), some (.inl t), some (.inl c), some (.inl k), some (.inl 0), some (.inl (-1)), none, none] [] mem Post := by
    intro c1 c2 c3 c4 c5
    have hq9 : 0 ≤ q ∧ q ≤ 4 ∧ bB (S 4 0) q := ⟨c1.1, c1.2.1, by rw [← kT]; exact c1.2.2⟩
    have i1 := loR_in (r := r) (by omega)
    have i2 := hiR_in (r := r) (by omega)
    have iu := upF_in (S := S) (p := S 5 q) (o := o) (w := w) (r := r) (t := t) c4
    -- the greatest common part
    have gcdL : ∀ (f x y : Nat) (m : smM) (x11 : Option smV), y < f → y ≤ 10 → x ≤ 10 → Nat.gcd x y = Nat.gcd (upF S (S 5 q) o w r t c).toNat 10 → keepF mem m → smWp 173 166 [some (oR 11 114), some (.inl q), some (.inl o), some (.inl w), some (.inl r), some (.inl t), some (.inl c), some (.inl k), some (.inl (upF S (S 5 q) o w r t c)), some (.inl (x : Int)), some (.inl (y : Int)), x11] [] m Post := by
      intro f
      induction f with
      | zero => intro x y m x11 h; omega
      | succ f ih =>
        intro x y m x11 hy hy10 hx10 hg hm
        have is := shF_in (upF S (S 5 q) o w r t c)
        by_cases hy0 : y = 0
        · subst hy0
          rw [Nat.gcd_zero_right] at hg
          have hx : (x : Int) = shF (upF S (S 5 q) o w r t c) := by
            have h9 := gcd_sh (upF S (S 5 q) o w r t c).toNat (by omega)
            rw [← hg, Int.toNat_of_nonneg iu.1] at h9
            exact h9
          have d1 := tdiv_in (a := upF S (S 5 q) o w r t c) (b := (x : Int)) (by omega) (by omega)
          have d2 := tdiv_in (a := 10) (b := (x : Int)) (by omega) (by omega)
          have h9 := h2 c1 c2 c3 c4 c5 m (keepF_keep hm)
          unfold slF at h9
          rw [← hx] at h9
          refine smAt [166, 9999] 60 rfl ?_
          repeat' first
            | refine And.intro ?_ ?_
            | intro _
          all_goals try omega
          · rw [if_neg (by omega)] at h9; exact h9
          · rw [if_pos (by omega)] at h9; exact h9
        · have e : (x : Int).tmod (y : Int) = ((x % y : Nat) : Int) := by
            rw [Int.tmod_eq_emod_of_nonneg (by omega)]
            rfl
          have hmod : x % y < y := Nat.mod_lt _ (by omega)
          have h9 := ih y (x % y) m (some (.inl ((x % y : Nat) : Int))) (by omega) (by omega) (by omega) (by rw [Nat.gcd_comm y (x % y), ← hg, Nat.gcd_comm x y, ← Nat.gcd_rec]) hm
          rw [← e] at h9
          refine smAt [166, 9999] 60 rfl ?_
          repeat' first
            | refine And.intro ?_ ?_
            | intro _
          all_goals try omega
          exact h9
    have fin : ∀ (m : smM) (x10 : Option smV), keepF mem m → smWp 173 61 [some (oR 11 114), some (.inl q), some (.inl o), some (.inl w), some (.inl r), some (.inl t), some (.inl c), some (.inl k), some (.inl (upF S (S 5 q) o w r t c)), some (.inl 2), x10, none] [] m Post := by
      intro m x10 hm
      refine smAt [166, 9999] 60 rfl ?_
      repeat' first
        | refine And.intro ?_ ?_
        | intro _
      all_goals try omega
      have h9 := gcdL 11 (upF S (S 5 q) o w r t c).toNat 10 m none (by omega) (by omega) (by omega) rfl hm
      rw [Int.toNat_of_nonneg iu.1] at h9
      exact h9
    -- one flight
    have one : ∀ (m : smM) (u s own : Int) (x10 : Option smV), keepF mem m → -1 ≤ s → s ≤ 1 → own = (if r + s < 1 then 1 else if 36 < r + s then 36 else r + s) → (∀ m', keepF mem m' → smWp 173 61 [some (oR 11 114), some (.inl q), some (.inl o), some (.inl w), some (.inl r), some (.inl t), some (.inl c), some (.inl k), some (.inl (u + (if cg S (S 5 q) o w own t then (if s = 0 then 10 - 2 * c else c) else 0))), some (.inl (s + 1)), some (.inl own), none] [] m' Post) → smWp 173 61 [some (oR 11 114), some (.inl q), some (.inl o), some (.inl w), some (.inl r), some (.inl t), some (.inl c), some (.inl k), some (.inl u), some (.inl s), x10, none] [] m Post := by
      intro m u s own x10 hm hs1 hs2 hown hnext
      have go : smWp 173 98 [some (oR 11 114), some (.inl q), some (.inl o), some (.inl w), some (.inl r), some (.inl t), some (.inl c), some (.inl k), some (.inl u), some (.inl s), some (.inl (r + s)), none] [.inl own] m Post := by
        refine smAt [61, 9999] 60 rfl ?_
        refine ru_flyFrom q _ _ _ (rC_keep (keepF_keep hm) hk).1 ho.2.1 oN.2 hq9 (by rw [hown]; repeat' split; all_goals omega) (fun m1 f1 k1 => ?_)
        have hm1 : keepF mem m1 := fun k i z => (k1 k i z).trans (hm k i z)
        obtain ⟨b0, b1, b2, b3⟩ := flR_bnd f1
        have iH := flH_in (S 1) (cP S) (S 0 0) (S 5 q) w own t (gT S (S 5 q) w own t)
        have iB := gB_in S (S 5 q) w own t
        have i0 : 0 ≤ m1 114 28 ∧ m1 114 28 ≤ 2 := by rw [b0]; exact iH
        have i3 : -6 ≤ m1 114 31 ∧ m1 114 31 < 5 := by rw [b3]; exact iB
        have h9 := hnext m1 hm1
        repeat' first
          | refine And.intro ?_ ?_
          | intro _
        all_goals try omega
        · rw [if_neg (show ¬ cg S (S 5 q) o w own t from fun z => by have z1 := z.1; have z2 := z.2; omega)] at h9; exact h9
        · rw [if_neg (show ¬ cg S (S 5 q) o w own t from fun z => by have z1 := z.1; have z2 := z.2; omega)] at h9; exact h9
        · rw [if_pos (show cg S (S 5 q) o w own t from ⟨by omega, by omega⟩), if_neg (by omega)] at h9; exact h9
        · rw [if_pos (show cg S (S 5 q) o w own t from ⟨by omega, by omega⟩), if_pos (by omega)] at h9; exact h9
      refine smAt [98, 9999] 60 rfl ?_
      repeat' first
        | refine And.intro ?_ ?_
        | intro _
      all_goals try omega
      · rw [if_neg (by omega), if_neg (by omega)] at hown; subst hown; exact go
      · rw [if_neg (by omega), if_pos (by omega)] at hown; subst hown; exact go
      · rw [if_pos (by omega)] at hown; subst hown; exact go
    refine one mem 0 (-1) (loR r) none (fun _ _ _ => rfl) (by omega) (by omega) ?_ (fun m1 hm1 => ?_)
    · unfold loR
      repeat' split
      all_goals omega
    · refine one m1 _ (-1 + 1) r _ hm1 (by omega) (by omega) ?_ (fun m2 hm2 => ?_)
      · repeat' split
        all_goals omega
      · refine one m2 _ (-1 + 1 + 1) (hiR r) _ hm2 (by omega) (by omega) ?_ (fun m3 hm3 => ?_)
        · unfold hiR
          repeat' split
          all_goals omega
        · have e : 0 + (if cg S (S 5 q) o w (loR r) t then (if (-1 : Int) = 0 then 10 - 2 * c else c) else 0) + (if cg S (S 5 q) o w r t then (if (-1 : Int) + 1 = 0 then 10 - 2 * c else c) else 0) + (if cg S (S 5 q) o w (hiR r) t then (if (-1 : Int) + 1 + 1 = 0 then 10 - 2 * c else c) else 0) = upF S (S 5 q) o w r t c := by
            unfold upF
            rw [if_neg (show ¬ (-1 : Int) = 0 by decide), if_pos (show (-1 : Int) + 1 = 0 by decide), if_neg (show ¬ (-1 : Int) + 1 + 1 = 0 by decide)]
            omega
          rw [e]
          exact fin m3 _ hm3
  refine smGo [61, 9999] 60 rfl ?_
  repeat' first
    | refine And.intro ?_ ?_
    | intro _
    | (show smRun _ _ _ _; first | with_reducible refine ru_isThere _ (by assumption) ?_ ?_ | with_reducible refine ru_isThrowR _ _ _ hw hr ht ?_ ?_ | with_reducible refine ru_in _ _ _ (by assumption) ?_ ?_ ?_ ?_)
    | (show Post _ _; first | exact h0 (by omega) | exact h1 (by omega) (by omega) (by omega))
  all_goals try omega
  exact body (by omega) (by omega) (by omega) (by omega) (by omega)
def agrL (v v' : Option smV) : Prop := ∃ x : Int, v = some (.inr (.inr (.inl x))) ∧ v' = some (.inr (.inr (.inl x)))
theorem agrL_rf (x : Int) : agrL (some (.inr (.inr (.inl x)))) (some (.inr (.inr (.inl x)))) := ⟨x, rfl, rfl⟩
def bothL (N : Int) (c r : Nat) (as : List smV) (mem : smM) : Prop := smRun c (oR 10 0 :: as) mem (fun v m1 => smRun r (oR 11 114 :: as) m1 (fun v' m2 => agrL v v' ∧ jI (N + 1000) m2))
theorem lw_slips (q o w r t c k : Int) (hq : smIR q) (ho : smIR o) (hw : smIR w) (hr : smIR r) (ht : smIR t) (hc : smIR c) (hkk : smIR k) (hN : N ≤ 900000) (h : jI N mem) : bothL N 109 173 [.inl q, .inl o, .inl w, .inl r, .inl t, .inl c, .inl k] mem := by
  have hj := jI_rf hN h
  obtain ⟨S, S1, S2, n, d, h⟩ := h
  obtain ⟨a1, a2, a3, -⟩ := id h
  refine pC_slips q o w r t c k hq ho hw hr ht hc hkk a2 a1 (fun z => ?_) (fun c1 c2 c3 => ?_) (fun c1 c2 c3 c4 c5 m1 k1 => ?_)
  · refine pR_slips q o w r t c k hq ho hw hr ht hc hkk a3 a1 (fun _ => ⟨agrL_rf _, hj⟩) (fun x y _ => absurd ⟨x, y⟩ z) (fun x y _ _ _ => absurd ⟨x, y⟩ z)
  · refine pR_slips q o w r t c k hq ho hw hr ht hc hkk a3 a1 (fun z => absurd ⟨c1, c2⟩ z) (fun _ _ _ => ⟨agrL_rf _, hj⟩) (fun _ _ x y z => absurd ⟨x, y, z⟩ c3)
  · refine pR_slips q o w r t c k hq ho hw hr ht hc hkk (rC_eqR (keepC_eqR k1) a3) a1 (fun z => absurd ⟨c1, c2⟩ z) (fun _ _ z => absurd ⟨c3, c4, c5⟩ z) (fun _ _ _ _ _ m2 k2 => ?_)
    exact ⟨agrL_rf _, S, S1, S2, n, d, jO_keep h (by omega) k1 k2⟩
end
