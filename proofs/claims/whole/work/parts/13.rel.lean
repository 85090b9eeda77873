/-! what a state is: S, by fields; the class's cells, the reference's cells, the images, the pad -/
abbrev sS : Type := Nat → Int → Int
def wV (P T N : Int) (h g l a r d c : Int → Int) (ap aw ar tt aa : Int → Int) (S : sS) : Prop :=
  P = S 0 0 ∧ T = S 4 0 ∧ N = S 9 0 ∧ (∀ p, 0 ≤ p → p < 9 → h p = S 1 p ∧ g p = S 2 p ∧ l p = S 3 p) ∧ (∀ q, 0 ≤ q → q < 5 → a q = S 5 q ∧ r q = S 6 q ∧ d q = S 7 q ∧ c q = S 8 q) ∧ (∀ i, 0 ≤ i → i < S 9 0 → ap i = S 10 i ∧ aw i = S 11 i ∧ ar i = S 12 i ∧ tt i = S 13 i ∧ aa i = S 14 i)
def tV (B : Int) (a e f w r t : Int → Int) (S : sS) : Prop := B = S 15 0 ∧ ∀ i, 0 ≤ i → i < 6 → a i = S 16 i ∧ e i = S 17 i ∧ f i = S 18 i ∧ w i = S 19 i ∧ r i = S 20 i ∧ t i = S 21 i
def sV (C : Int) (m p h : Int → Int) (S : sS) : Prop := C = S 22 0 ∧ ∀ i, 0 ≤ i → i < 6 → m i = S 23 i ∧ p i = S 24 i ∧ h i = S 25 i
/-- how long a stone is in the air, where its height is kept as it should be -/
def aG (h a r t : Int) : Int := if h = fH a r t then a else -1
theorem aG_in {h a r t x : Int} (e : aG h a r t = x) (h0 : 0 ≤ x) : a = x ∧ h = fH a r t := by
  unfold aG at e
  split at e
  · next c => exact ⟨e, c⟩
  · omega
theorem aG_mk {h a r t : Int} (e : h = fH a r t) : aG h a r t = a := by
  unfold aG
  rw [if_pos e]
/-- the class's worlds and images -/
def wC (mem : smM) (S : sS) : Prop := wV (mem 2 0) (mem 2 4) (mem 10 0) (mem 3) (mem 4) (mem 5) (mem 6) (mem 7) (mem 8) (mem 9) (mem 11) (mem 12) (mem 13) (mem 14) (fun i => aG (mem 10 (100 + i)) (mem 15 i) (mem 13 i) (mem 14 i)) S
def wT (mem : smM) (S : sS) : Prop := wV (mem 79 0) (mem 79 4) (mem 87 0) (mem 80) (mem 81) (mem 82) (mem 83) (mem 84) (mem 85) (mem 86) (mem 88) (mem 89) (mem 90) (mem 91) (fun i => aG (mem 87 (100 + i)) (mem 92 i) (mem 90 i) (mem 91 i)) S
def kC (mem : smM) (S : sS) : Prop := wC mem S ∧ tV (mem 16 0) (mem 17) (mem 18) (mem 19) (mem 20) (mem 21) (mem 22) S ∧ sV (mem 23 0) (mem 24) (mem 25) (mem 26) S
def kI (mem : smM) (S : sS) : Prop := wV (mem 28 0) (mem 28 4) (mem 36 0) (mem 29) (mem 30) (mem 31) (mem 32) (mem 33) (mem 34) (mem 35) (mem 37) (mem 38) (mem 39) (mem 40) (fun i => aG (mem 36 (100 + i)) (mem 41 i) (mem 39 i) (mem 40 i)) S ∧ tV (mem 42 0) (mem 43) (mem 44) (mem 45) (mem 46) (mem 47) (mem 48) S ∧ sV (mem 49 0) (mem 50) (mem 51) (mem 52) S
def kJ (mem : smM) (S : sS) : Prop := wV (mem 54 0) (mem 54 4) (mem 62 0) (mem 55) (mem 56) (mem 57) (mem 58) (mem 59) (mem 60) (mem 61) (mem 63) (mem 64) (mem 65) (mem 66) (fun i => aG (mem 62 (100 + i)) (mem 67 i) (mem 65 i) (mem 66 i)) S ∧ tV (mem 68 0) (mem 69) (mem 70) (mem 71) (mem 72) (mem 73) (mem 74) S ∧ sV (mem 75 0) (mem 76) (mem 77) (mem 78) S
/-- the reference's: as it is, as it is now in a day, its images -/
def wR (mem : smM) (S : sS) : Prop := wV (mem 114 0) (mem 114 2) (mem 114 9) (mem 115) (mem 120) (mem 121) (mem 117) (mem 116) (mem 118) (mem 119) (fun i => mem 122 (5 * i)) (fun i => mem 122 (5 * i + 1)) (fun i => mem 122 (5 * i + 2)) (fun i => mem 122 (5 * i + 3)) (fun i => mem 122 (5 * i + 4)) S
def wN (mem : smM) (S : sS) : Prop := wV (mem 114 0) (mem 114 2) (mem 114 22) (mem 115) (mem 129) (mem 130) (mem 126) (mem 116) (mem 127) (mem 128) (fun i => mem 131 (5 * i)) (fun i => mem 131 (5 * i + 1)) (fun i => mem 131 (5 * i + 2)) (fun i => mem 131 (5 * i + 3)) (fun i => mem 131 (5 * i + 4)) S
def rC (mem : smM) (S : sS) : Prop := wR mem S ∧ tV (mem 114 11) (fun i => mem 123 (6 * i + 4)) (fun i => mem 123 (6 * i + 5)) (fun i => mem 123 (6 * i)) (fun i => mem 123 (6 * i + 1)) (fun i => mem 123 (6 * i + 2)) (fun i => mem 123 (6 * i + 3)) S ∧ sV (mem 114 13) (fun i => mem 124 (3 * i)) (fun i => mem 124 (3 * i + 1)) (fun i => mem 124 (3 * i + 2)) S
def rI (mem : smM) (b : Int) (S : sS) : Prop := wV (mem 134 (b + 170)) (mem 134 (b + 171)) (mem 134 (b + 172)) (fun i => mem 134 (b + i)) (fun i => mem 134 (b + 10 + i)) (fun i => mem 134 (b + 20 + i)) (fun i => mem 134 (b + 35 + i)) (fun i => mem 134 (b + 30 + i)) (fun i => mem 134 (b + 40 + i)) (fun i => mem 134 (b + 45 + i)) (fun i => mem 134 (b + 50 + 5 * i)) (fun i => mem 134 (b + 50 + (5 * i + 1))) (fun i => mem 134 (b + 50 + (5 * i + 2))) (fun i => mem 134 (b + 50 + (5 * i + 3))) (fun i => mem 134 (b + 50 + (5 * i + 4))) S
  ∧ tV (mem 134 (b + 173)) (fun i => mem 134 (b + 110 + (6 * i + 4))) (fun i => mem 134 (b + 110 + (6 * i + 5))) (fun i => mem 134 (b + 110 + 6 * i)) (fun i => mem 134 (b + 110 + (6 * i + 1))) (fun i => mem 134 (b + 110 + (6 * i + 2))) (fun i => mem 134 (b + 110 + (6 * i + 3))) S
  ∧ sV (mem 134 (b + 174)) (fun i => mem 134 (b + 150 + 3 * i)) (fun i => mem 134 (b + 150 + (3 * i + 1))) (fun i => mem 134 (b + 150 + (3 * i + 2))) S
/-- in what ranges all is -/
def okW (N : Int) (S : sS) : Prop := (4 ≤ S 0 0 ∧ S 0 0 ≤ 9) ∧ (0 ≤ S 4 0 ∧ S 4 0 < 32) ∧ (0 ≤ S 9 0 ∧ S 9 0 ≤ 12) ∧ (∀ p, 0 ≤ p → p < 9 → (0 ≤ S 1 p ∧ S 1 p ≤ 5) ∧ (0 ≤ S 2 p ∧ S 2 p ≤ N) ∧ (0 ≤ S 3 p ∧ S 3 p ≤ N ∧ (S 0 0 ≤ p → S 3 p = 0)))
  ∧ (∀ q, 0 ≤ q → q < 5 → (0 ≤ S 5 q ∧ S 5 q < 9) ∧ (0 ≤ S 6 q ∧ S 6 q ≤ 36) ∧ (0 ≤ S 7 q ∧ S 7 q ≤ N) ∧ (0 ≤ S 8 q ∧ S 8 q ≤ N) ∧ (bB (S 4 0) q → S 5 q < S 0 0 ∧ 1 ≤ S 6 q))
  ∧ (∀ i, 0 ≤ i → i < S 9 0 → (0 ≤ S 10 i ∧ S 10 i < S 0 0) ∧ (S 11 i = 0 ∨ S 11 i = 1) ∧ (1 ≤ S 12 i ∧ S 12 i ≤ 36) ∧ (1 ≤ S 13 i ∧ S 13 i ≤ 5) ∧ (0 ≤ S 14 i ∧ S 14 i < S 12 i))
def okT (S : sS) : Prop := (0 ≤ S 15 0 ∧ S 15 0 < 64) ∧ ∀ i, 0 ≤ i → i < 6 → (0 ≤ S 16 i ∧ S 16 i ≤ 99) ∧ (0 ≤ S 17 i ∧ S 17 i ≤ 20) ∧ (0 ≤ S 18 i ∧ S 18 i < 9) ∧ (S 19 i = 0 ∨ S 19 i = 1) ∧ (0 ≤ S 20 i ∧ S 20 i ≤ 36) ∧ (0 ≤ S 21 i ∧ S 21 i ≤ 5) ∧ (bB (S 15 0) i → S 18 i < S 0 0 ∧ 1 ≤ S 20 i ∧ 1 ≤ S 21 i)
def okS (S : sS) : Prop := (0 ≤ S 22 0 ∧ S 22 0 ≤ 6) ∧ ∀ i, 0 ≤ i → i < 6 → (0 ≤ S 23 i ∧ S 23 i ≤ 36) ∧ (0 ≤ S 24 i ∧ S 24 i < 9) ∧ (0 ≤ S 25 i ∧ S 25 i ≤ 5)
def ok (N : Int) (S : sS) : Prop := (9 ≤ N ∧ N ≤ 1000000) ∧ okW N S ∧ okT S ∧ okS S
/-- the pad -/
def padC (mem : smM) (n : Int) (d : Int → Int) : Prop := mem 93 0 = n ∧ ∀ i, 0 ≤ i → i < n → mem 94 i = d i
def padR (mem : smM) (n : Int) (d : Int → Int) : Prop := mem 114 15 = n ∧ ∀ i, 0 ≤ i → i < n → mem 125 i = d i
def okP (n : Int) (d : Int → Int) : Prop := (0 ≤ n ∧ n ≤ 60) ∧ ∀ i, 0 ≤ i → i < n → 33 ≤ d i ∧ d i ≤ 126
/-- what stays: the class's state (images and pad, too) and all of the reference's -/
def keepC (mem mem' : smM) : Prop := (∀ k i, k < 79 ∨ k = 94 ∨ 114 ≤ k → mem' k i = mem k i) ∧ mem' 93 0 = mem 93 0
def keepR (mem mem' : smM) : Prop := (∀ k i, k < 114 ∨ (115 ≤ k ∧ k ≤ 125) ∨ 134 ≤ k → mem' k i = mem k i) ∧ ∀ j, j = 0 ∨ j = 2 ∨ j = 9 ∨ j = 11 ∨ j = 13 ∨ j = 15 → mem' 114 j = mem 114 j
theorem keepC_rf (mem : smM) : keepC mem mem := ⟨fun _ _ _ => rfl, rfl⟩
theorem keepR_rf (mem : smM) : keepR mem mem := ⟨fun _ _ _ => rfl, fun _ _ => rfl⟩
theorem keepC_tr {a b c : smM} (h1 : keepC a b) (h2 : keepC b c) : keepC a c := ⟨fun k i h => (h2.1 k i h).trans (h1.1 k i h), h2.2.trans h1.2⟩
theorem keepR_tr {a b c : smM} (h1 : keepR a b) (h2 : keepR b c) : keepR a c := ⟨fun k i h => (h2.1 k i h).trans (h1.1 k i h), fun j h => (h2.2 j h).trans (h1.2 j h)⟩
/-- the whole of it -/
def jO (N : Int) (mem : smM) (S S1 S2 : sS) (n : Int) (d : Int → Int) : Prop :=
  ok N S ∧ kC mem S ∧ rC mem S ∧ okP n d ∧ padC mem n d ∧ padR mem n d ∧ (mem 27 3 = mem 135 0 ∧ (mem 27 3 = 0 ∨ mem 27 3 = 1)) ∧ (mem 53 3 = mem 135 1 ∧ (mem 53 3 = 0 ∨ mem 53 3 = 1)) ∧ (mem 27 3 = 1 → ok N S1 ∧ kI mem S1 ∧ rI mem 0 S1) ∧ (mem 53 3 = 1 → ok N S2 ∧ kJ mem S2 ∧ rI mem 220 S2)
def jI (N : Int) (mem : smM) : Prop := ∃ S S1 S2 n d, jO N mem S S1 S2 n d
/-- cells of the class alone, of the reference alone, have changed -/
def eqR (mem mem' : smM) : Prop := ∀ k i, 114 ≤ k → mem' k i = mem k i
def eqC (mem mem' : smM) : Prop := ∀ k i, k < 114 → mem' k i = mem k i
theorem kC_of {mem mem' : smM} {S : sS} (e : ∀ j i, j < 27 → mem' j i = mem j i) (h : kC mem S) : kC mem' S := by
  unfold kC wC wV tV sV at *
  simp only [e 2 _ (by decide), e 3 _ (by decide), e 4 _ (by decide), e 5 _ (by decide), e 6 _ (by decide), e 7 _ (by decide), e 8 _ (by decide), e 9 _ (by decide), e 10 _ (by decide), e 11 _ (by decide), e 12 _ (by decide), e 13 _ (by decide), e 14 _ (by decide), e 15 _ (by decide), e 16 _ (by decide), e 17 _ (by decide), e 18 _ (by decide), e 19 _ (by decide), e 20 _ (by decide), e 21 _ (by decide), e 22 _ (by decide), e 23 _ (by decide), e 24 _ (by decide), e 25 _ (by decide), e 26 _ (by decide)]
  exact h
theorem kI_of {mem mem' : smM} {S : sS} (e : ∀ j i, j < 79 → mem' j i = mem j i) (h : kI mem S) : kI mem' S := by
  unfold kI wV tV sV at *
  simp only [e 28 _ (by decide), e 29 _ (by decide), e 30 _ (by decide), e 31 _ (by decide), e 32 _ (by decide), e 33 _ (by decide), e 34 _ (by decide), e 35 _ (by decide), e 36 _ (by decide), e 37 _ (by decide), e 38 _ (by decide), e 39 _ (by decide), e 40 _ (by decide), e 41 _ (by decide), e 42 _ (by decide), e 43 _ (by decide), e 44 _ (by decide), e 45 _ (by decide), e 46 _ (by decide), e 47 _ (by decide), e 48 _ (by decide), e 49 _ (by decide), e 50 _ (by decide), e 51 _ (by decide), e 52 _ (by decide)]
  exact h
theorem kJ_of {mem mem' : smM} {S : sS} (e : ∀ j i, j < 79 → mem' j i = mem j i) (h : kJ mem S) : kJ mem' S := by
  unfold kJ wV tV sV at *
  simp only [e 54 _ (by decide), e 55 _ (by decide), e 56 _ (by decide), e 57 _ (by decide), e 58 _ (by decide), e 59 _ (by decide), e 60 _ (by decide), e 61 _ (by decide), e 62 _ (by decide), e 63 _ (by decide), e 64 _ (by decide), e 65 _ (by decide), e 66 _ (by decide), e 67 _ (by decide), e 68 _ (by decide), e 69 _ (by decide), e 70 _ (by decide), e 71 _ (by decide), e 72 _ (by decide), e 73 _ (by decide), e 74 _ (by decide), e 75 _ (by decide), e 76 _ (by decide), e 77 _ (by decide), e 78 _ (by decide)]
  exact h
theorem rC_of {mem mem' : smM} {S : sS} (e : ∀ j i, 115 ≤ j ∧ j ≤ 124 → mem' j i = mem j i) (e2 : ∀ j, j = 0 ∨ j = 2 ∨ j = 9 ∨ j = 11 ∨ j = 13 → mem' 114 j = mem 114 j) (h : rC mem S) : rC mem' S := by
  unfold rC wR wV tV sV at *
  simp only [e 115 _ (by decide), e 116 _ (by decide), e 117 _ (by decide), e 118 _ (by decide), e 119 _ (by decide), e 120 _ (by decide), e 121 _ (by decide), e 122 _ (by decide), e 123 _ (by decide), e 124 _ (by decide), e2 0 (by decide), e2 2 (by decide), e2 9 (by decide), e2 11 (by decide), e2 13 (by decide)]
  exact h
theorem rI_of {mem mem' : smM} {S : sS} {b : Int} (e : ∀ i, mem' 134 i = mem 134 i) (h : rI mem b S) : rI mem' b S := by
  unfold rI wV tV sV at *
  simp only [e]
  exact h
theorem kC_keep {mem mem' : smM} {S : sS} (k : keepC mem mem') (h : kC mem S) : kC mem' S := kC_of (fun j i hj => k.1 j i (by omega)) h
theorem rC_keep {mem mem' : smM} {S : sS} (k : keepR mem mem') (h : rC mem S) : rC mem' S := rC_of (fun j i hj => k.1 j i (by omega)) (fun j hj => k.2 j (by omega)) h
theorem rC_eqR {mem mem' : smM} {S : sS} (k : eqR mem mem') (h : rC mem S) : rC mem' S := rC_of (fun j i hj => k j i (by omega)) (fun j hj => k 114 j (by omega)) h
theorem kC_eqC {mem mem' : smM} {S : sS} (k : eqC mem mem') (h : kC mem S) : kC mem' S := kC_of (fun j i hj => k j i (by omega)) h
theorem keepC_eqR {mem mem' : smM} (k : keepC mem mem') : eqR mem mem' := fun j i hj => k.1 j i (by omega)
theorem ok_mono {N M : Int} {S : sS} (hM : N ≤ M ∧ M ≤ 1000000) (h : ok N S) : ok M S := by
  unfold ok okW at *
  obtain ⟨h1, ⟨a1, a2, a3, a4, a5, a6⟩, h3, h4⟩ := h
  refine ⟨by omega, ⟨a1, a2, a3, fun p x y => ?_, fun q x y => ?_, a6⟩, h3, h4⟩
  · have := a4 p x y; omega
  · obtain ⟨b1, b2, b3, b4, b5⟩ := a5 q x y
    exact ⟨b1, b2, by omega, by omega, b5⟩
/-- a state anew, images and pad as they were -/
theorem jO_put {N M : Int} {mem mem' : smM} {S S' S1 S2 : sS} {n : Int} {d : Int → Int} (h : jO N mem S S1 S2 n d) (hM : N ≤ M ∧ M ≤ 1000000) (h1 : ok M S') (h2 : kC mem' S') (h3 : rC mem' S') (e : ∀ k i, (27 ≤ k ∧ k < 79) ∨ k = 94 ∨ k = 125 ∨ 134 ≤ k → mem' k i = mem k i) (e2 : mem' 93 0 = mem 93 0) (e3 : mem' 114 15 = mem 114 15) : jO M mem' S' S1 S2 n d := by
  obtain ⟨a1, a2, a3, a4, a5, a6, a7, a8, a9, a10⟩ := h
  have kIe : ∀ {T : sS}, kI mem T → kI mem' T := by
    intro T hT
    unfold kI wV tV sV at *
    simp only [e 28 _ (by omega), e 29 _ (by omega), e 30 _ (by omega), e 31 _ (by omega), e 32 _ (by omega), e 33 _ (by omega), e 34 _ (by omega), e 35 _ (by omega), e 36 _ (by omega), e 37 _ (by omega), e 38 _ (by omega), e 39 _ (by omega), e 40 _ (by omega), e 41 _ (by omega), e 42 _ (by omega), e 43 _ (by omega), e 44 _ (by omega), e 45 _ (by omega), e 46 _ (by omega), e 47 _ (by omega), e 48 _ (by omega), e 49 _ (by omega), e 50 _ (by omega), e 51 _ (by omega), e 52 _ (by omega)]
    exact hT
  have kJe : ∀ {T : sS}, kJ mem T → kJ mem' T := by
    intro T hT
    unfold kJ wV tV sV at *
    simp only [e 54 _ (by omega), e 55 _ (by omega), e 56 _ (by omega), e 57 _ (by omega), e 58 _ (by omega), e 59 _ (by omega), e 60 _ (by omega), e 61 _ (by omega), e 62 _ (by omega), e 63 _ (by omega), e 64 _ (by omega), e 65 _ (by omega), e 66 _ (by omega), e 67 _ (by omega), e 68 _ (by omega), e 69 _ (by omega), e 70 _ (by omega), e 71 _ (by omega), e 72 _ (by omega), e 73 _ (by omega), e 74 _ (by omega), e 75 _ (by omega), e 76 _ (by omega), e 77 _ (by omega), e 78 _ (by omega)]
    exact hT
  refine ⟨h1, h2, h3, a4, ⟨by rw [e2]; exact a5.1, fun i x y => by rw [e 94 i (by omega)]; exact a5.2 i x y⟩, ⟨by rw [e3]; exact a6.1, fun i x y => by rw [e 125 i (by omega)]; exact a6.2 i x y⟩, ?_, ?_, ?_, ?_⟩
  · rw [e 27 3 (by omega), e 135 0 (by omega)]; exact a7
  · rw [e 53 3 (by omega), e 135 1 (by omega)]; exact a8
  · rw [e 27 3 (by omega)]
    intro z
    obtain ⟨b1, b2, b3⟩ := a9 z
    exact ⟨ok_mono hM b1, kIe b2, rI_of (fun i => e 134 i (by omega)) b3⟩
  · rw [e 53 3 (by omega)]
    intro z
    obtain ⟨b1, b2, b3⟩ := a10 z
    exact ⟨ok_mono hM b1, kJe b2, rI_of (fun i => e 134 i (by omega)) b3⟩
/-- nothing that counts has changed -/
theorem jO_keep {N M : Int} {mem m1 m2 : smM} {S S1 S2 : sS} {n : Int} {d : Int → Int} (h : jO N mem S S1 S2 n d) (hM : N ≤ M ∧ M ≤ 1000000) (c : keepC mem m1) (r : keepR m1 m2) : jO M m2 S S1 S2 n d := by
  refine jO_put h hM (ok_mono hM h.1) (kC_of (fun j i hj => (r.1 j i (by omega)).trans (c.1 j i (by omega))) h.2.1) (rC_keep r (rC_eqR (keepC_eqR c) h.2.2.1)) (fun k i hk => (r.1 k i (by omega)).trans (c.1 k i (by omega))) ((r.1 93 0 (by omega)).trans c.2) ((r.2 15 (by omega)).trans (c.1 114 15 (by omega)))
/-- the two answers are one number -/
def agr (v v' : Option smV) : Prop := ∃ x : Int, v = some (.inl x) ∧ v' = some (.inl x)
theorem agr_rf (x : Int) : agr (some (.inl x)) (some (.inl x)) := ⟨x, rfl, rfl⟩
theorem smU_s {m : smM} {k : Nat} {j v : Int} : smU m k j v k j = v := by simp [smU]
theorem smU_d {m : smM} {k : Nat} {j v j' : Int} (h : j' ≠ j) : smU m k j v k j' = m k j' := by simp [smU, h]
