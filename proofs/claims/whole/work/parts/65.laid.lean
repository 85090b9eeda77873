/-! laid: who goes to which stone -/
def wn (S : sS) (q : Nat) : Bool := decide (bB (S 4 0) q ∧ S 7 q = 0)
def dsA (x : Int) : Int := if 0 ≤ x then x else 0 - x
def ds (S : sS) (q p : Int) : Int := if S 0 0 - dsA (S 5 q - p) < dsA (S 5 q - p) then S 0 0 - dsA (S 5 q - p) else dsA (S 5 q - p)
def sQ (g : Nat → Int) : Nat → Int
  | 0 => 0
  | n + 1 => sQ g n + g n
theorem sQ_cg {g g' : Nat → Int} : ∀ n : Nat, (∀ j, j < n → g' j = g j) → sQ g' n = sQ g n
  | 0, _ => rfl
  | n + 1, h => by
    simp only [sQ]
    rw [sQ_cg n (fun j hj => h j (by omega)), h n (by omega)]
theorem sQ_add {g g' : Nat → Int} {q : Nat} {d : Int} (hq : g' q = g q + d) : ∀ n : Nat, q < n → (∀ j, j < n → j ≠ q → g' j = g j) → sQ g' n = sQ g n + d
  | 0, h, _ => by omega
  | n + 1, h, hh => by
    simp only [sQ]
    by_cases e : q = n
    · subst e
      rw [sQ_cg q (fun j hj => hh j (by omega) (by omega)), hq]
      omega
    · rw [sQ_add hq n (by omega) (fun j hj => hh j (by omega)), hh n (by omega) (by omega)]
      omega
theorem sQ_in {g : Nat → Int} {b : Int} : ∀ n : Nat, (∀ j, j < n → 0 ≤ g j ∧ g j ≤ b) → 0 ≤ sQ g n ∧ sQ g n ≤ n * b
  | 0, _ => by simp [sQ]
  | n + 1, h => by
    have ih := sQ_in n (fun j hj => h j (by omega))
    have h1 := h n (by omega)
    simp only [sQ]
    rw [show ((n + 1 : Nat) : Int) * b = n * b + b by rw [show ((n + 1 : Nat) : Int) = (n : Int) + 1 by omega, Int.add_mul, Int.one_mul]]
    omega
theorem sQ_pos {g : Nat → Int} {q : Nat} : ∀ n : Nat, (∀ j, j < n → 0 ≤ g j) → q < n → g q ≤ sQ g n
  | 0, _, h => by omega
  | n + 1, h, hq => by
    simp only [sQ]
    have h1 := h n (by omega)
    have h2 : 0 ≤ sQ g n := by
      clear hq
      induction n with
      | zero => exact Int.le_refl 0
      | succ n ih =>
        simp only [sQ]
        have := ih (fun j hj => h j (by omega)) (h n (by omega))
        have := h n (by omega)
        omega
    by_cases e : q = n
    · subst e; omega
    · have := sQ_pos n (fun j hj => h j (by omega)) (show q < n by omega)
      omega
theorem sQ_ex {g : Nat → Int} : ∀ n : Nat, (∀ j, j < n → 0 ≤ g j) → 0 < sQ g n → ∃ q, q < n ∧ 0 < g q
  | 0, _, h => by simp [sQ] at h
  | n + 1, hn, h => by
    simp only [sQ] at h
    by_cases c : 0 < g n
    · exact ⟨n, by omega, c⟩
    · obtain ⟨q, h1, h2⟩ := sQ_ex n (fun j hj => hn j (by omega)) (by have := hn n (by omega); omega)
      exact ⟨q, by omega, h2⟩
def cst (S : sS) (M : Nat → Bool) (f : Nat → Int) : Int := sQ (fun q => if M q = true then ds S q (f q) else 0) 5
def cnq (M : Nat → Bool) (f : Nat → Int) (x : Int) : Int := sQ (fun q => if M q = true ∧ f q = x then 1 else 0) 5
def vld (S : sS) (cap : Int → Int) (M : Nat → Bool) (f : Nat → Int) : Prop := (∀ q : Nat, q < 5 → M q = true → 0 ≤ f q ∧ f q < S 0 0) ∧ ∀ x, 0 ≤ x → x < S 0 0 → cnq M f x ≤ cap x
def mnA (S : sS) (cap : Int → Int) (M : Nat → Bool) (v : Int) : Prop := (v = 1000000 ∧ ∀ f, ¬ vld S cap M f) ∨ (∃ f, vld S cap M f ∧ v = cst S M f ∧ ∀ g, vld S cap M g → v ≤ cst S M g)
theorem cnq_in (M : Nat → Bool) (f : Nat → Int) (x : Int) : 0 ≤ cnq M f x ∧ cnq M f x ≤ 5 := by
  have := sQ_in (g := fun q => if M q = true ∧ f q = x then 1 else 0) (b := 1) 5 (fun j hj => by
    split <;> omega)
  unfold cnq
  omega
theorem ds_in {N : Int} {S : sS} {q p : Int} (ho : okW N S) (hq : 0 ≤ q ∧ q < 5) (hp : 0 ≤ p ∧ p < S 0 0) : 0 ≤ S 5 q ∧ S 5 q < 9 ∧ -20 ≤ ds S q p ∧ ds S q p ≤ 20 := by
  have oP := ho.1
  have o := ho.2.2.2.2.1 q hq.1 hq.2
  unfold ds dsA
  repeat' split
  all_goals omega
theorem ds_in2 {N : Int} {S : sS} {q p : Int} (ho : okW N S) (hq : 0 ≤ q ∧ q < 5) (hb : bB (S 4 0) q) (hp : 0 ≤ p ∧ p < S 0 0) : 0 ≤ ds S q p ∧ ds S q p ≤ 20 := by
  have oP := ho.1
  have o := ho.2.2.2.2.1 q hq.1 hq.2
  have o2 := o.2.2.2.2 hb
  unfold ds dsA
  repeat' split
  all_goals omega
abbrev uM (M : Nat → Bool) (q : Nat) : Nat → Bool := fun j => M j || decide (j = q)
abbrev uF (f : Nat → Int) (q : Nat) (p : Int) : Nat → Int := fun j => if j = q then p else f j
theorem cst_add {S : sS} {M : Nat → Bool} {q : Nat} (f : Nat → Int) (hq : q < 5) (hM : M q = false) : cst S (uM M q) f = cst S M f + ds S q (f q) := by
  refine sQ_add (q := q) ?_ 5 hq (fun j _ hj => ?_)
  · simp [hM]
  · simp [hj]
theorem cnq_add {M : Nat → Bool} {q : Nat} (f : Nat → Int) (x : Int) (hq : q < 5) (hM : M q = false) : cnq (uM M q) f x = cnq M f x + if f q = x then 1 else 0 := by
  refine sQ_add (q := q) ?_ 5 hq (fun j _ hj => ?_)
  · simp [hM]
  · simp [hj]
theorem cst_uF {S : sS} {M : Nat → Bool} {q : Nat} (f : Nat → Int) (p : Int) (hM : M q = false) : cst S M (uF f q p) = cst S M f := by
  refine sQ_cg 5 (fun j _ => ?_)
  by_cases e : j = q
  · subst e; simp [hM]
  · have e2 : uF f q p j = f j := if_neg e
    simp only [e2]
theorem cnq_uF {M : Nat → Bool} {q : Nat} (f : Nat → Int) (p x : Int) (hM : M q = false) : cnq M (uF f q p) x = cnq M f x := by
  refine sQ_cg 5 (fun j _ => ?_)
  by_cases e : j = q
  · subst e; simp [hM]
  · have e2 : uF f q p j = f j := if_neg e
    simp only [e2]
/-- one stone more at p: the least is the least of what it was and of what a person there makes of it -/
theorem mn_step {S : sS} {cap : Int → Int} {M : Nat → Bool} {p v old : Int} (Rs : Nat → Int) (hp : 0 ≤ p ∧ p < S 0 0) (hcap : ∀ x, 0 ≤ cap x) (hold : mnA S cap M old) (hR : ∀ q : Nat, q < 5 → M q = true → mnA S cap (fun j => M j && !decide (j = q)) (Rs q)) (hd : ∀ q : Nat, q < 5 → M q = true → ds S q p < 1000) (h1 : v ≤ old) (h2 : ∀ q : Nat, q < 5 → M q = true → Rs q < 1000000 → v ≤ Rs q + ds S q p) (h3 : v = old ∨ ∃ q : Nat, q < 5 ∧ M q = true ∧ Rs q < 1000000 ∧ v = Rs q + ds S q p) (hb : ∀ f, (∀ q : Nat, q < 5 → M q = true → 0 ≤ f q ∧ f q < S 0 0) → 0 ≤ cst S M f ∧ cst S M f < 1000) (hb2 : ∀ q : Nat, q < 5 → M q = true → ∀ f, (∀ j : Nat, j < 5 → (M j && !decide (j = q)) = true → 0 ≤ f j ∧ f j < S 0 0) → cst S (fun j => M j && !decide (j = q)) f < 1000) : mnA S (fun x => cap x + if x = p then 1 else 0) M v := by
  have uMM : ∀ q : Nat, M q = true → uM (fun j => M j && !decide (j = q)) q = M := by
    intro q hq
    funext j
    by_cases e : j = q
    · subst e; simp [hq]
    · show ((M j && !decide (j = q)) || decide (j = q)) = M j
      rw [decide_eq_false e]
      simp
  have qf : ∀ q : Nat, (fun j => M j && !decide (j = q)) q = false := fun q => by simp
  -- every valid one costs v at least
  have low : ∀ g, vld S (fun x => cap x + if x = p then 1 else 0) M g → v ≤ cst S M g := by
    intro g hg
    by_cases c : cnq M g p ≤ cap p
    · have gv : vld S cap M g := by
        refine ⟨hg.1, fun x x0 x1 => ?_⟩
        by_cases e : x = p
        · rw [e]; exact c
        · have := hg.2 x x0 x1
          dsimp only at this
          rw [if_neg e] at this
          omega
      rcases hold with ⟨_, z⟩ | ⟨f, z1, z2, z3⟩
      · exact absurd gv (z g)
      · have := z3 g gv
        omega
    · have hc := hcap p
      obtain ⟨q, q5, hq⟩ := sQ_ex (g := fun q => if M q = true ∧ g q = p then 1 else 0) 5 (fun j _ => by split <;> omega) (show 0 < cnq M g p by omega)
      have hq2 : M q = true ∧ g q = p := by
        by_cases z : M q = true ∧ g q = p
        · exact z
        · simp only [if_neg z] at hq
          omega
      have ec := cst_add (S := S) (M := fun j => M j && !decide (j = q)) g q5 (qf q)
      rw [uMM q hq2.1, hq2.2] at ec
      have gv : vld S cap (fun j => M j && !decide (j = q)) g := by
        refine ⟨fun j j5 hj => hg.1 j j5 (by rw [Bool.and_eq_true] at hj; exact hj.1), fun x x0 x1 => ?_⟩
        have en := cnq_add (M := fun j => M j && !decide (j = q)) g x q5 (qf q)
        rw [uMM q hq2.1, hq2.2] at en
        have := hg.2 x x0 x1
        dsimp only at this
        by_cases e : x = p
        · rw [if_pos e] at this
          rw [if_pos e.symm] at en
          omega
        · rw [if_neg e] at this
          rw [if_neg (fun z => e z.symm)] at en
          omega
      rcases hR q q5 hq2.1 with ⟨_, z⟩ | ⟨f, z1, z2, z3⟩
      · exact absurd gv (z g)
      · have a1 := z3 g gv
        have a2 := hb2 q q5 hq2.1 f z1.1
        have a3 := h2 q q5 hq2.1 (by omega)
        omega
  rcases h3 with h3 | ⟨q, q5, hq, h4, h5⟩
  · rcases hold with ⟨z1, z2⟩ | ⟨f, z1, z2, z3⟩
    · left
      refine ⟨by omega, fun g hg => ?_⟩
      have a1 := low g hg
      have a2 := hb g hg.1
      omega
    · right
      refine ⟨f, ⟨z1.1, fun x x0 x1 => ?_⟩, by omega, low⟩
      have := z1.2 x x0 x1
      dsimp only
      split <;> omega
  · right
    rcases hR q q5 hq with ⟨z, _⟩ | ⟨f, z1, z2, z3⟩
    · omega
    · have ec := cst_add (S := S) (M := fun j => M j && !decide (j = q)) (uF f q p) q5 (qf q)
      rw [uMM q hq, cst_uF (M := fun j => M j && !decide (j = q)) f p (qf q)] at ec
      have eq : uF f q p q = p := by simp [uF]
      rw [eq] at ec
      refine ⟨uF f q p, ⟨fun j j5 hj => ?_, fun x x0 x1 => ?_⟩, by omega, low⟩
      · by_cases e : j = q
        · simp only [uF, if_pos e]; exact hp
        · simp only [uF, if_neg e]
          exact z1.1 j j5 (by simp [hj, e])
      · have en := cnq_add (M := fun j => M j && !decide (j = q)) (uF f q p) x q5 (qf q)
        rw [uMM q hq, cnq_uF (M := fun j => M j && !decide (j = q)) f p x (qf q), eq] at en
        have := z1.2 x x0 x1
        dsimp only
        by_cases e : x = p
        · rw [if_pos e]
          rw [if_pos e.symm] at en
          omega
        · rw [if_neg e]
          rw [if_neg (fun z => e z.symm)] at en
          omega
