/-! laid, reference -/
def cdP (S : sS) : Nat → Int
  | 0 => 1
  | k + 1 => cdP S k * (if wn S k = true then S 0 0 else 1)
def rsN (S : sS) (code : Int) : Nat → Int
  | 0 => code
  | k + 1 => if wn S k = true then (rsN S code k).tdiv (S 0 0) else rsN S code k
def dgN (S : sS) (code : Int) (q : Nat) : Int := (rsN S code q).tmod (S 0 0)
theorem cdP_in {S : sS} (hn : 4 ≤ S 0 0 ∧ S 0 0 ≤ 9) : (1 ≤ cdP S 0 ∧ cdP S 0 ≤ 1) ∧ (1 ≤ cdP S 1 ∧ cdP S 1 ≤ 9) ∧ (1 ≤ cdP S 2 ∧ cdP S 2 ≤ 81) ∧ (1 ≤ cdP S 3 ∧ cdP S 3 ≤ 729) ∧ (1 ≤ cdP S 4 ∧ cdP S 4 ≤ 6561) ∧ (1 ≤ cdP S 5 ∧ cdP S 5 ≤ 59049) := by
  have st : ∀ (k : Nat) (B : Int), 1 ≤ cdP S k ∧ cdP S k ≤ B → 1 ≤ cdP S (k + 1) ∧ cdP S (k + 1) ≤ B * 9 := by
    intro k B h
    have c : 1 ≤ (if wn S k = true then S 0 0 else 1) ∧ (if wn S k = true then S 0 0 else 1) ≤ 9 := by split <;> omega
    have a1 := Int.mul_le_mul h.2 c.2 (by omega) (by omega)
    have a2 := Int.mul_le_mul h.1 c.1 (by omega) (by omega)
    simp only [cdP]
    omega
  have s0 : 1 ≤ cdP S 0 ∧ cdP S 0 ≤ 1 := ⟨Int.le_refl 1, Int.le_refl 1⟩
  have s1 : 1 ≤ cdP S 1 ∧ cdP S 1 ≤ 9 := st 0 1 s0
  have s2 : 1 ≤ cdP S 2 ∧ cdP S 2 ≤ 81 := st 1 9 s1
  have s3 : 1 ≤ cdP S 3 ∧ cdP S 3 ≤ 729 := st 2 81 s2
  have s4 : 1 ≤ cdP S 4 ∧ cdP S 4 ≤ 6561 := st 3 729 s3
  have s5 : 1 ≤ cdP S 5 ∧ cdP S 5 ≤ 59049 := st 4 6561 s4
  exact ⟨s0, s1, s2, s3, s4, s5⟩
theorem rsN_in {S : sS} {code : Int} (hn : 4 ≤ S 0 0 ∧ S 0 0 ≤ 9) (hc : 0 ≤ code) : ∀ k : Nat, 0 ≤ rsN S code k ∧ rsN S code k ≤ code
  | 0 => ⟨hc, Int.le_refl _⟩
  | k + 1 => by
    have ih := rsN_in hn hc k
    simp only [rsN]
    split
    · rw [Int.tdiv_eq_ediv_of_nonneg ih.1]
      have a1 := Int.ediv_nonneg ih.1 (show 0 ≤ S 0 0 by omega)
      have a2 := Int.ediv_le_self (S 0 0) ih.1
      omega
    · exact ih
theorem dgN_in {S : sS} {code : Int} (hn : 4 ≤ S 0 0 ∧ S 0 0 ≤ 9) (hc : 0 ≤ code) (k : Nat) : 0 ≤ dgN S code k ∧ dgN S code k < S 0 0 := by
  have ih := rsN_in hn hc k
  unfold dgN
  rw [Int.tmod_eq_emod_of_nonneg ih.1]
  exact ⟨Int.emod_nonneg _ (by omega), Int.emod_lt_of_pos _ (by omega)⟩
/-- who goes where, as a code -/
def enR (S : sS) (f : Nat → Int) : Nat → Int
  | 0 => 0
  | j + 1 => if wn S (4 - j) = true then f (4 - j) + S 0 0 * enR S f j else enR S f j
def pwR (S : sS) : Nat → Int
  | 0 => 1
  | j + 1 => (if wn S (4 - j) = true then S 0 0 else 1) * pwR S j
theorem pw_cd (S : sS) : pwR S 5 = cdP S 5 := by
  simp only [pwR, cdP, Int.one_mul, Int.mul_one, Int.mul_assoc]
theorem enR_in {S : sS} {f : Nat → Int} (hn : 4 ≤ S 0 0 ∧ S 0 0 ≤ 9) (hf : ∀ q : Nat, q < 5 → wn S q = true → 0 ≤ f q ∧ f q < S 0 0) : ∀ j : Nat, 0 ≤ enR S f j ∧ enR S f j < pwR S j
  | 0 => ⟨Int.le_refl 0, by show (0 : Int) < 1; decide⟩
  | j + 1 => by
    have ih := enR_in hn hf j
    simp only [enR, pwR]
    split
    · next c =>
      have h1 := hf (4 - j) (by omega) c
      have a1 : 0 ≤ S 0 0 * enR S f j := Int.mul_nonneg (by omega) ih.1
      have a2 : S 0 0 * enR S f j ≤ S 0 0 * (pwR S j - 1) := Int.mul_le_mul_of_nonneg_left (by omega) (by omega)
      rw [Int.mul_sub, Int.mul_one] at a2
      omega
    · rw [Int.one_mul]; exact ih
theorem enR_rs {S : sS} {f : Nat → Int} (hn : 4 ≤ S 0 0 ∧ S 0 0 ≤ 9) (hf : ∀ q : Nat, q < 5 → wn S q = true → 0 ≤ f q ∧ f q < S 0 0) : ∀ k : Nat, k ≤ 5 → rsN S (enR S f 5) k = enR S f (5 - k)
  | 0, _ => rfl
  | k + 1, h => by
    have ih := enR_rs hn hf k (by omega)
    have i1 := enR_in hn hf (5 - k)
    have i2 := enR_in hn hf (5 - (k + 1))
    simp only [rsN]
    rw [ih]
    have e : enR S f (5 - k) = if wn S k = true then f k + S 0 0 * enR S f (5 - (k + 1)) else enR S f (5 - (k + 1)) := by
      rw [show 5 - k = (5 - (k + 1)) + 1 by omega]
      simp only [enR]
      rw [show 4 - (5 - (k + 1)) = k by omega, show 5 - (k + 1) = 4 - k by omega]
    split
    · next c =>
      rw [if_pos c] at e
      have h1 := hf k (by omega) c
      rw [Int.tdiv_eq_ediv_of_nonneg i1.1, e, Int.add_mul_ediv_left _ _ (show S 0 0 ≠ 0 by omega), Int.ediv_eq_zero_of_lt h1.1 h1.2]
      omega
    · next c =>
      rw [if_neg c] at e
      exact e
theorem enR_dg {S : sS} {f : Nat → Int} (hn : 4 ≤ S 0 0 ∧ S 0 0 ≤ 9) (hf : ∀ q : Nat, q < 5 → wn S q = true → 0 ≤ f q ∧ f q < S 0 0) (k : Nat) (hk : k < 5) (c : wn S k = true) : dgN S (enR S f 5) k = f k := by
  have i1 := enR_in hn hf (5 - k)
  have h1 := hf k hk c
  unfold dgN
  rw [enR_rs hn hf k (by omega), Int.tmod_eq_emod_of_nonneg i1.1]
  have e : enR S f (5 - k) = f k + S 0 0 * enR S f (5 - (k + 1)) := by
    rw [show 5 - k = (5 - (k + 1)) + 1 by omega]
    simp only [enR]
    rw [show 4 - (5 - (k + 1)) = k by omega, if_pos c, show 5 - (k + 1) = 4 - k by omega]
  rw [e, Int.add_mul_emod_self_left, Int.emod_eq_of_lt h1.1 h1.2]
/-- the least of the codes below k; -6: none -/
def lsR (S : sS) (k v : Int) : Prop := (v = -6 ∧ ∀ c, 0 ≤ c → c < k → ¬ vld S (S 2) (wn S) (dgN S c)) ∨ (0 ≤ v ∧ ∃ c, (0 ≤ c ∧ c < k) ∧ vld S (S 2) (wn S) (dgN S c) ∧ v = cst S (wn S) (dgN S c) ∧ ∀ c', 0 ≤ c' → c' < k → vld S (S 2) (wn S) (dgN S c') → v ≤ cst S (wn S) (dgN S c'))
theorem lsR_laA {N : Int} {S : sS} {v : Int} (ho : okW N S) (h : lsR S (cdP S 5) v) : laA S v := by
  have hn := ho.1
  have cv : ∀ f, vld S (S 2) (wn S) f → ∃ c, (0 ≤ c ∧ c < cdP S 5) ∧ vld S (S 2) (wn S) (dgN S c) ∧ cst S (wn S) (dgN S c) = cst S (wn S) f := by
    intro f hf
    have i := enR_in hn hf.1 5
    rw [pw_cd] at i
    have d := enR_dg hn hf.1
    have e1 : cst S (wn S) (dgN S (enR S f 5)) = cst S (wn S) f := by
      refine sQ_cg 5 (fun j hj => ?_)
      by_cases c : wn S j = true
      · rw [if_pos c, if_pos c, d j hj c]
      · rw [if_neg c, if_neg c]
    have e2 : ∀ x, cnq (wn S) (dgN S (enR S f 5)) x = cnq (wn S) f x := by
      intro x
      refine sQ_cg 5 (fun j hj => ?_)
      by_cases c : wn S j = true
      · rw [d j hj c]
      · rw [if_neg (fun z => c z.1), if_neg (fun z => c z.1)]
    exact ⟨enR S f 5, i, ⟨fun q hq hw => by rw [d q hq hw]; exact hf.1 q hq hw, fun x x0 x1 => by rw [e2 x]; exact hf.2 x x0 x1⟩, e1⟩
  rcases h with ⟨h1, h2⟩ | ⟨h0, c, h1, h2, h3, h4⟩
  · refine Or.inl ⟨h1, fun f hf => ?_⟩
    obtain ⟨c, c1, c2, c3⟩ := cv f hf
    exact h2 c c1.1 c1.2 c2
  · refine Or.inr ⟨dgN S c, h2, h3, fun g hg => ?_⟩
    obtain ⟨c', c1, c2, c3⟩ := cv g hg
    rw [← c3]
    exact h4 c' c1.1 c1.2 c2
theorem laA_uni {S : sS} {x y : Int} (hx : laA S x) (hy : laA S y) : x = y := by
  rcases hx with ⟨h1, h2⟩ | ⟨f, h1, h2, h3⟩ <;> rcases hy with ⟨g1, g2⟩ | ⟨g, g1, g2, g3⟩
  · omega
  · exact absurd g1 (h2 g)
  · exact absurd h1 (g2 f)
  · have := h3 g g1
    have := g3 f h1
    omega
section
variable {mem : smM} {Post : Option smV → smM → Prop} {N : Int} {S : sS}
def stQ (S : sS) (c : Int) (k : Nat) : Int := sQ (fun q => if wn S q = true then ds S q (dgN S c q) else 0) k
def ctQ (S : sS) (c x : Int) (k : Nat) : Int := sQ (fun q => if wn S q = true ∧ dgN S c q = x then 1 else 0) k
set_option maxRecDepth 4000 in
theorem pR_laid (hk : rC mem S) (ho : ok N S) (h : ∀ x m, laA S x → keepR mem m → Post (some (.inl x)) m) : smRun 156 [oR 11 114] mem Post := by
  obtain ⟨⟨kP, kT, kN, kp, kq, ki⟩, ⟨kB, kb⟩, ⟨kS, ks⟩⟩ := id hk
  obtain ⟨oN, ⟨oP, oT, oA, op, oq, oi⟩, ⟨oB, ob⟩, ⟨oS, os⟩⟩ := id ho
  have cb := cdP_in oP
  have stb : ∀ c k, 0 ≤ c → k ≤ 5 → 0 ≤ stQ S c k ∧ stQ S c k ≤ 100 := by
    intro c k c0 k5
    have := sQ_in (g := fun q => if wn S q = true then ds S q (dgN S c q) else 0) (b := 20) k (fun j hj => by
      split
      · next w => exact ds_in2 ho.2.1 (by omega) (of_decide_eq_true w).1 (dgN_in oP c0 j)
      · omega)
    unfold stQ
    have : (k : Int) * 20 ≤ 5 * 20 := by omega
    omega
  have ctb : ∀ c x k, k ≤ 5 → 0 ≤ ctQ S c x k ∧ ctQ S c x k ≤ 5 := by
    intro c x k k5
    have := sQ_in (g := fun q => if wn S q = true ∧ dgN S c q = x then 1 else 0) (b := 1) k (fun j hj => by split <;> omega)
    unfold ctQ
    omega
  -- one code
  have persons : ∀ (c : Int) (ma least : Int), 0 ≤ c → c < 60000 → (∀ m good x10 x9, (∀ k i, k ≠ 133 → m k i = mem k i) → (good = 1 ∧ vld S (S 2) (wn S) (dgN S c) ∨ good = 0 ∧ ¬ vld S (S 2) (wn S) (dgN S c)) → smWp 156 279 [some (oR 11 114), some (.inl ma), some (.inl (cdP S 5)), some (.inl least), some (.inl c), some (.inl (rsN S c 5)), some (.inl (cst S (wn S) (dgN S c))), some (.inl good), some (.inl 5), x9, x10] [] m Post) → ∀ (f k : Nat) (m : smM) (good : Int) (x9 x10 : Option smV), k + f = 5 → (∀ k i, k ≠ 133 → m k i = mem k i) → (∀ x, 0 ≤ x → x < 9 → m 133 x = S 2 x - ctQ S c x k) → (good = 1 ∧ (∀ x, 0 ≤ x → x < S 0 0 → ctQ S c x k ≤ S 2 x) ∨ good = 0 ∧ ¬ (∀ x, 0 ≤ x → x < S 0 0 → ctQ S c x k ≤ S 2 x)) → smWp 156 128 [some (oR 11 114), some (.inl ma), some (.inl (cdP S 5)), some (.inl least), some (.inl c), some (.inl (rsN S c k)), some (.inl (stQ S c k)), some (.inl good), some (.inl (k : Int)), x9, x10] [] m Post := by
    intro c ma least c0 c6 K f
    induction f with
    | zero =>
      intro k m good x9 x10 hf hx hl hg
      have e : k = 5 := by omega
      subst e
      refine smAt [79, 128, 279, 9999] 60 rfl ?_
      repeat' first
        | refine And.intro ?_ ?_
        | intro _
      all_goals try omega
      refine K m good _ _ hx ?_
      have ev : vld S (S 2) (wn S) (dgN S c) ↔ (∀ x, 0 ≤ x → x < S 0 0 → ctQ S c x 5 ≤ S 2 x) := ⟨fun z => z.2, fun z => ⟨fun q _ _ => dgN_in oP c0 q, z⟩⟩
      rw [ev]
      exact hg
    | succ f ih =>
      intro k m good x9 x10 hf hx hl hg
      have ek : ((k + 1 : Nat) : Int) = (k : Int) + 1 := by omega
      have eT : m 114 2 = S 4 0 := by rw [hx 114 2 (by decide)]; exact kT
      have eP : m 114 0 = S 0 0 := by rw [hx 114 0 (by decide)]; exact kP
      have k1 := kq k (by omega) (by omega)
      have o1 := oq k (by omega) (by omega)
      have e18 : m 118 k = S 7 k := by rw [hx 118 _ (by decide)]; exact k1.2.2.1
      have e17 : m 117 k = S 5 k := by rw [hx 117 _ (by decide)]; exact k1.1
      have r1 := rsN_in oP c0 k
      have d1 := dgN_in oP c0 k
      have s1 := stb c k c0 (by omega)
      have gb : good = 0 ∨ good = 1 := by rcases hg with z | z <;> omega
      have no : ¬ wn S k = true → smWp 156 273 [some (oR 11 114), some (.inl ma), some (.inl (cdP S 5)), some (.inl least), some (.inl c), some (.inl (rsN S c k)), some (.inl (stQ S c k)), some (.inl good), some (.inl (k : Int)), x9, x10] [] m Post := by
        intro w
        have e1 : ∀ x, ctQ S c x (k + 1) = ctQ S c x k := by
          intro x
          unfold ctQ
          simp only [sQ]
          rw [if_neg (fun z => w z.1), Int.add_zero]
        have e2 : stQ S c (k + 1) = stQ S c k := by
          unfold stQ
          simp only [sQ]
          rw [if_neg w, Int.add_zero]
        have e3 : rsN S c (k + 1) = rsN S c k := by
          simp only [rsN]
          rw [if_neg w]
        refine smAt [128, 9999] 60 rfl ?_
        have g := ih (k + 1) m good x9 x10 (by omega) hx (fun x x0 x1 => by rw [e1]; exact hl x x0 x1) (by simp only [e1]; exact hg)
        rw [ek, e2, e3] at g
        exact g
      refine smAt [128, 156, 273, 279, 9999] 60 rfl ?_
      repeat' first
        | refine And.intro ?_ ?_
        | intro _
        | (show smRun _ _ _ _; first | with_reducible refine ru_has _ _ (fun w1 => ?_) (fun w1 => ?_))
      all_goals try omega
      · refine no (fun z => ?_)
        have z2 := of_decide_eq_true z
        omega
      · rw [eT] at w1
        have w : wn S k = true := decide_eq_true ⟨w1, by omega⟩
        have o2 := o1.2.2.2.2 w1
        have d2 : m 133 (dgN S c k) = S 2 (dgN S c k) - ctQ S c (dgN S c k) k := hl _ d1.1 (by omega)
        have cb2 := ctb c (dgN S c k) k (by omega)
        have g2 := op (dgN S c k) d1.1 (by omega)
        have e1 : ∀ x, ctQ S c x (k + 1) = ctQ S c x k + if dgN S c k = x then 1 else 0 := by
          intro x
          unfold ctQ
          simp only [sQ]
          by_cases z : dgN S c k = x
          · rw [if_pos ⟨w, z⟩, if_pos z]
          · rw [if_neg (fun y => z y.2), if_neg z]
        have e2 : stQ S c (k + 1) = stQ S c k + ds S k (dgN S c k) := by
          unfold stQ
          simp only [sQ]
          rw [if_pos w]
        have e3 : rsN S c (k + 1) = (rsN S c k).tdiv (S 0 0) := by
          simp only [rsN]
          rw [if_pos w]
        have dd : (rsN S c k).tmod (S 0 0) = dgN S c k := rfl
        -- from the distance on
        have t240 : ∀ y10, smWp 156 240 [some (oR 11 114), some (.inl ma), some (.inl (cdP S 5)), some (.inl least), some (.inl c), some (.inl (rsN S c (k + 1))), some (.inl (stQ S c (k + 1))), some (.inl good), some (.inl (k : Int)), some (.inl (dgN S c k)), y10] [] m Post := by
          intro y10
          refine smAt [251, 9999] 60 rfl ?_
          repeat' first
            | refine And.intro ?_ ?_
            | intro _
          all_goals try omega
          have hx2 : ∀ j i, j ≠ 133 → smU m 133 (dgN S c k) (m 133 (dgN S c k) - 1) j i = mem j i := fun j i z => by rw [smU_ne z]; exact hx j i z
          have hl2 : ∀ x, 0 ≤ x → x < 9 → smU m 133 (dgN S c k) (m 133 (dgN S c k) - 1) 133 x = S 2 x - ctQ S c x (k + 1) := by
            intro x x0 x1
            rw [e1]
            by_cases z : x = dgN S c k
            · rw [z, smU_s, d2, if_pos rfl]; omega
            · rw [smU_d z, if_neg (fun y => z y.symm), hl x x0 x1]; omega
          have v2 := hl2 _ d1.1 (show dgN S c k < 9 by omega)
          show smWp 156 251 [some (oR 11 114), some (.inl ma), some (.inl (cdP S 5)), some (.inl least), some (.inl c), some (.inl (rsN S c (k + 1))), some (.inl (stQ S c (k + 1))), some (.inl good), some (.inl (k : Int)), some (.inl (dgN S c k)), y10] [] (smU m 133 (dgN S c k) (m 133 (dgN S c k) - 1)) Post
          generalize smU m 133 (dgN S c k) (m 133 (dgN S c k) - 1) = m2 at *
          have cb3 := ctb c (dgN S c k) (k + 1) (by omega)
          have ev : (∀ x, 0 ≤ x → x < S 0 0 → ctQ S c x (k + 1) ≤ S 2 x) ↔ ((∀ x, 0 ≤ x → x < S 0 0 → ctQ S c x k ≤ S 2 x) ∧ 0 ≤ m2 133 (dgN S c k)) := by
            constructor
            · intro z
              refine ⟨fun x x0 x1 => ?_, ?_⟩
              · have y := z x x0 x1
                rw [e1] at y
                split at y <;> omega
              · have y := z _ d1.1 d1.2
                omega
            · rintro ⟨z1, z2⟩ x x0 x1
              by_cases y : dgN S c k = x
              · rw [← y]; omega
              · rw [e1, if_neg y]
                have := z1 x x0 x1
                omega
          have nx : ∀ g2, (g2 = 1 ∧ (∀ x, 0 ≤ x → x < S 0 0 → ctQ S c x (k + 1) ≤ S 2 x) ∨ g2 = 0 ∧ ¬ (∀ x, 0 ≤ x → x < S 0 0 → ctQ S c x (k + 1) ≤ S 2 x)) → smWp 156 128 [some (oR 11 114), some (.inl ma), some (.inl (cdP S 5)), some (.inl least), some (.inl c), some (.inl (rsN S c (k + 1))), some (.inl (stQ S c (k + 1))), some (.inl g2), some (.inl ((k : Int) + 1)), some (.inl (dgN S c k)), y10] [] m2 Post := by
            intro g2 hg2
            have g := ih (k + 1) m2 g2 (some (.inl (dgN S c k))) y10 (by omega) hx2 hl2 hg2
            rw [ek] at g
            exact g
          refine smAt [128, 9999] 60 rfl ?_
          repeat' first
            | refine And.intro ?_ ?_
            | intro _
          all_goals try omega
          · refine nx 0 (Or.inr ⟨rfl, fun z => ?_⟩)
            rcases hg with y | y
            · omega
            · exact y.2 (ev.mp z).1
          · refine nx 0 (Or.inr ⟨rfl, fun z => ?_⟩)
            have := (ev.mp z).2
            omega
          · refine nx 1 (Or.inl ⟨rfl, ev.mpr ⟨?_, by omega⟩⟩)
            rcases hg with y | y
            · exact y.2
            · omega
        have t211 : ∀ off, off = dsA (S 5 k - dgN S c k) → smWp 156 211 [some (oR 11 114), some (.inl ma), some (.inl (cdP S 5)), some (.inl least), some (.inl c), some (.inl (rsN S c (k + 1))), some (.inl (stQ S c k)), some (.inl good), some (.inl (k : Int)), some (.inl (dgN S c k)), some (.inl off)] [] m Post := by
          intro off hoff
          have ob : 0 ≤ off ∧ off ≤ 9 := by
            rw [hoff]
            unfold dsA
            split <;> omega
          have t := t240 (some (.inl off))
          rw [e2] at t
          unfold ds at t
          rw [← hoff, ← eP] at t
          refine smAt [240, 9999] 60 rfl ?_
          repeat' first
            | refine And.intro ?_ ?_
            | intro _
          all_goals try omega
          · by_cases z : m 114 0 - off < off
            · rw [if_pos z] at t; exact t
            · rw [if_neg z] at t
              have ez : stQ S c k + off = stQ S c k + (m 114 0 - off) := by omega
              rw [ez] at t
              exact t
          · rw [if_neg (by omega)] at t; exact t
        have x5b : 0 ≤ (rsN S c k).tdiv (S 0 0) := by rw [Int.tdiv_eq_ediv_of_nonneg r1.1]; exact Int.ediv_nonneg r1.1 (by omega)
        refine smAt [165, 9999] 60 rfl ?_
        repeat' first
          | refine And.intro ?_ ?_
          | intro _
        all_goals try omega
        rw [eP, dd]
        refine smAt [174, 9999] 60 rfl ?_
        repeat' first
          | refine And.intro ?_ ?_
          | intro _
        all_goals try omega
        rw [eP, ← e3]
        refine smAt [211, 9999] 60 rfl ?_
        repeat' first
          | refine And.intro ?_ ?_
          | intro _
        all_goals try omega
        · refine t211 _ ?_
          rw [e17]
          unfold dsA
          rw [if_pos (by omega)]
        · refine t211 _ ?_
          rw [e17]
          unfold dsA
          rw [if_neg (by omega)]
          omega
      · rw [eT] at w1
        exact no (fun z => w1 (of_decide_eq_true z).1)
  -- all codes
  have codes : ∀ (f : Nat) (c ma least : Int) (m : smM) (x5 x6 x7 x8 x9 x10 : Option smV), c + f = cdP S 5 → 0 ≤ c → (∀ k i, k ≠ 133 → m k i = mem k i) → lsR S c least → smWp 156 79 [some (oR 11 114), some (.inl ma), some (.inl (cdP S 5)), some (.inl least), some (.inl c), x5, x6, x7, x8, x9, x10] [] m Post := by
    intro f
    induction f with
    | zero =>
      intro c ma least m x5 x6 x7 x8 x9 x10 hf c0 hx hl
      refine smAt [79, 88, 9999] 60 rfl ?_
      repeat' first
        | refine And.intro ?_ ?_
        | intro _
      all_goals try omega
      rw [show c = cdP S 5 by omega] at hl
      exact h least m (lsR_laA ho.2.1 hl) ⟨fun k i z => hx k i (by omega), fun j z => hx 114 j (by decide)⟩
    | succ f ih =>
      intro c ma least m x5 x6 x7 x8 x9 x10 hf c0 hx hl
      have lb : -6 ≤ least ∧ least ≤ 100 := by
        rcases hl with z | ⟨z0, c', z1, z2, z3, z4⟩
        · omega
        · have := stb c' 5 z1.1 (by omega)
          rw [show stQ S c' 5 = cst S (wn S) (dgN S c') from rfl] at this
          omega
      have copy : ∀ (g : Nat) (j : Int) (m2 : smM), j + g = 9 → 0 ≤ j → (∀ k i, k ≠ 133 → m2 k i = mem k i) → (∀ x, 0 ≤ x → x < j → m2 133 x = S 2 x) → smWp 156 88 [some (oR 11 114), some (.inl ma), some (.inl (cdP S 5)), some (.inl least), some (.inl c), some (.inl j), x6, x7, x8, x9, x10] [] m2 Post := by
        intro g
        induction g with
        | zero =>
          intro j m2 hj j0 hx2 hz
          refine smAt [88, 128, 9999] 60 rfl ?_
          repeat' first
            | refine And.intro ?_ ?_
            | intro _
          all_goals try omega
          refine persons c ma least c0 (by omega) (fun m3 good y10 y9 hx3 hg => ?_) 5 0 m2 1 x9 x10 (by omega) hx2 (fun x x0 x1 => by rw [hz x x0 (by omega)]; show S 2 x = S 2 x - 0; omega) (Or.inl ⟨rfl, fun x x0 x1 => by have := op x x0 (by omega); show (0 : Int) ≤ S 2 x; omega⟩)
          have cs := stb c 5 c0 (by omega)
          rw [show stQ S c 5 = cst S (wn S) (dgN S c) from rfl] at cs
          have gb : good = 0 ∨ good = 1 := by rcases hg with z | z <;> omega
          have no : (¬ vld S (S 2) (wn S) (dgN S c) ∨ (0 ≤ least ∧ least ≤ cst S (wn S) (dgN S c))) → lsR S (c + 1) least := by
            intro z
            rcases hl with ⟨h1, h2⟩ | ⟨h0, c', h1, h2, h3, h4⟩
            · refine Or.inl ⟨h1, fun c2 a b y => ?_⟩
              by_cases e : c2 = c
              · rw [e] at y
                rcases z with z | z
                · exact z y
                · omega
              · exact h2 c2 a (by omega) y
            · refine Or.inr ⟨h0, c', by omega, h2, h3, fun c2 a b y => ?_⟩
              by_cases e : c2 = c
              · rw [e] at y ⊢
                rcases z with z | z
                · exact absurd y z
                · exact z.2
              · exact h4 c2 a (by omega) y
          have yes : vld S (S 2) (wn S) (dgN S c) → (least < 0 ∨ cst S (wn S) (dgN S c) < least) → lsR S (c + 1) (cst S (wn S) (dgN S c)) := by
            intro v z
            refine Or.inr ⟨cs.1, c, by omega, v, rfl, fun c2 a b y => ?_⟩
            by_cases e : c2 = c
            · rw [e]; exact Int.le_refl _
            · rcases hl with ⟨h1, h2⟩ | ⟨h0, c', h1, h2, h3, h4⟩
              · exact absurd y (h2 c2 a (by omega))
              · have := h4 c2 a (by omega) y
                omega
          refine smAt [79, 9999] 60 rfl ?_
          repeat' first
            | refine And.intro ?_ ?_
            | intro _
          all_goals try omega
          · refine ih (c + 1) ma least m3 _ _ _ _ _ _ (by omega) (by omega) hx3 (no ?_)
            left
            rcases hg with z | z
            · omega
            · exact z.2
          · refine ih (c + 1) ma _ m3 _ _ _ _ _ _ (by omega) (by omega) hx3 (yes ?_ (by omega))
            rcases hg with z | z
            · exact z.2
            · omega
          · exact ih (c + 1) ma least m3 _ _ _ _ _ _ (by omega) (by omega) hx3 (no (Or.inr (by omega)))
          · refine ih (c + 1) ma _ m3 _ _ _ _ _ _ (by omega) (by omega) hx3 (yes ?_ (by omega))
            rcases hg with z | z
            · exact z.2
            · omega
        | succ g ih2 =>
          intro j m2 hj j0 hx2 hz
          have e20 : m2 120 j = S 2 j := by rw [hx2 120 _ (by decide)]; exact (kp j j0 (by omega)).2.1
          refine smAt [88, 128, 9999] 60 rfl ?_
          repeat' first
            | refine And.intro ?_ ?_
            | intro _
          all_goals try omega
          refine ih2 (j + 1) _ (by omega) (by omega) (fun k i z => by rw [smU_ne z]; exact hx2 k i z) (fun x x0 x1 => ?_)
          by_cases e : x = j
          · rw [e, smU_s]; exact e20
          · rw [smU_d e]; exact hz x x0 (by omega)
      refine smAt [79, 88, 9999] 60 rfl ?_
      repeat' first
        | refine And.intro ?_ ?_
        | intro _
      all_goals try omega
      exact copy 9 0 m (by omega) (by omega) hx (fun x x0 x1 => by omega)
  have first : ∀ (f k : Nat) (ma : Int) (x4 : Option smV), k + f = 5 → smWp 156 6 [some (oR 11 114), some (.inl ma), some (.inl (cdP S k)), some (.inl (k : Int)), x4, none, none, none, none, none, none] [] mem Post := by
    intro f
    induction f with
    | zero =>
      intro k ma x4 hf
      have e : k = 5 := by omega
      subst e
      refine smAt [6, 79, 9999] 60 rfl ?_
      repeat' first
        | refine And.intro ?_ ?_
        | intro _
      all_goals try omega
      exact codes (cdP S 5).toNat 0 ma (-6) mem _ _ _ _ _ _ (by omega) (by omega) (fun _ _ _ => rfl) (Or.inl ⟨rfl, fun c a b => by omega⟩)
    | succ f ih =>
      intro k ma x4 hf
      have k1 := kq k (by omega) (by omega)
      have o1 := oq k (by omega) (by omega)
      have ek : ((k + 1 : Nat) : Int) = (k : Int) + 1 := by omega
      have g := fun ma2 y4 => ih (k + 1) ma2 y4 (by omega)
      simp only [cdP] at g
      rw [ek] at g
      rw [← kP] at g
      refine smAt [6, 79, 9999] 60 rfl ?_
      repeat' first
        | refine And.intro ?_ ?_
        | intro _
        | (show smRun _ _ _ _; first | with_reducible refine ru_has _ _ (fun w1 => ?_) (fun w1 => ?_))
      all_goals try omega
      all_goals rw [kT] at w1
      · have w : ¬ wn S k = true := fun z => by
          have z2 := of_decide_eq_true z
          omega
        simp only [if_neg w] at g
        exact g _ _
      · have w : wn S k = true := decide_eq_true ⟨w1, by omega⟩
        simp only [if_pos w] at g
        exact g _ _
      · have w : ¬ wn S k = true := fun z => w1 (of_decide_eq_true z).1
        simp only [if_neg w] at g
        exact g _ _
  refine smGo [6, 9999] 60 rfl ?_
  exact first 5 0 0 none (by omega)
theorem lw_laid (hN : N ≤ 900000) (h : jI N mem) : both N 96 156 [] mem := by
  obtain ⟨S, S1, S2, n, d, h⟩ := h
  obtain ⟨a1, a2, a3, -⟩ := id h
  have hM : N ≤ N + 1000 ∧ N + 1000 ≤ 1000000 := by have := a1.1; omega
  refine pC_laid a2 a1 (fun x m g1 g2 => ?_)
  refine pR_laid (rC_eqR (keepC_eqR g2) a3) a1 (fun u m2 r1 r2 => ?_)
  rw [laA_uni g1 r1]
  exact ⟨agr_rf _, S, S1, S2, n, d, jO_keep h hM g2 r2⟩
end
