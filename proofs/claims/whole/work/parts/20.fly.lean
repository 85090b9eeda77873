section
variable {mem : smM} {Post : Option smV → smM → Prop} {N : Int} {S : sS}
def hdG (hd : Int → Int) (g G : Int) : Int → Int := fun q => if q = g ∧ hd q < G then G else hd q
def cbH (H : Int) (who : Int → Int) : Int → Bool := fun q => if H < 0 then decide (who q ≠ -6) else decide (bB H q)
def byH (H : Int) (who : Int → Int) : Int → Int := fun q => if H < 0 then who q else -6
/-- what the reference holds behind fly -/
def flR (mem : smM) (hd : Int → Int) (cb : Int → Bool) (by_ : Int → Int) (n p w r t : Int) : Prop := mem 114 29 = (flT hd cb n p w r t : Int) ∧ mem 114 28 = flH hd cb n p w r t (flT hd cb n p w r t) ∧ mem 114 31 = (if flH hd cb n p w r t (flT hd cb n p w r t) = 2 then by_ (fPos p w n (flT hd cb n p w r t)) else -6) ∧ mem 114 30 = fPos p w n (flT hd cb n p w r t)
def keepF (mem mem' : smM) : Prop := ∀ k i, (k = 114 → i ≠ 28 ∧ i ≠ 29 ∧ i ≠ 30 ∧ i ≠ 31) → mem' k i = mem k i
set_option maxHeartbeats 4000000 in
set_option maxRecDepth 4000 in
theorem ru_fly (n p w r t H g G : Int) (hd : Int → Int) (who : Int → Int) (hP : mem 114 0 = n) (hn : 0 < n ∧ n ≤ 9) (hh : ∀ q, 0 ≤ q → q < n → mem 115 q = hd q ∧ 0 ≤ hd q ∧ hd q ≤ 5) (hwho : ∀ q, 0 ≤ q → q < n → fWho (mem 114 2) (mem 117) q = who q) (hat : ∀ q, 0 ≤ q → q < 5 → smIR (mem 117 q)) (hH : -1 ≤ H ∧ H < 1000) (hg : -6 ≤ g ∧ g ≤ 9) (hG : 0 ≤ G ∧ G ≤ 5) (hp : 0 ≤ p ∧ p < n) (ht : fThr w r t)
    (h : ∀ mem', flR mem' (hdG hd g G) (cbH H who) (byH H who) n p w r t → keepF mem mem' → Post none mem') : smRun 148 [oR 11 114, .inl p, .inl w, .inl r, .inl t, .inl H, .inl g, .inl G] mem Post := by
  obtain ⟨hw, hr, ht⟩ := ht
  have exitL : ∀ (m : smM) (cur : Int) (x9 x10 x11 x12 : Option smV), cur = fPos p w n (flT (hdG hd g G) (cbH H who) n p w r t) → m 114 29 = (flT (hdG hd g G) (cbH H who) n p w r t : Int) → m 114 28 = flH (hdG hd g G) (cbH H who) n p w r t (flT (hdG hd g G) (cbH H who) n p w r t) → (0 ≤ m 114 28 ∧ m 114 28 ≤ 2) → m 114 31 = (if flH (hdG hd g G) (cbH H who) n p w r t (flT (hdG hd g G) (cbH H who) n p w r t) = 2 then byH H who (fPos p w n (flT (hdG hd g G) (cbH H who) n p w r t)) else -6) → keepF mem m → smWp 148 20 [some (oR 11 114), some (.inl p), some (.inl w), some (.inl r), some (.inl t), some (.inl H), some (.inl g), some (.inl G), some (.inl cur), x9, x10, x11, x12] [] m Post := by
    intro m cur x9 x10 x11 x12 hc h1 h2 h3 h4 hk
    refine smAt [20, 9999] 30 rfl ?_
    repeat' first
      | refine And.intro ?_ ?_
      | intro _
    all_goals try omega
    refine h _ ⟨h1, h2, h4, hc⟩ ?_
    intro k i z
    by_cases e : k = 114
    · subst e
      have z2 := z rfl
      rw [smU_d z2.2.2.1]
      exact hk _ _ z
    · rw [smU_ne e]
      exact hk _ _ z
  have loop : ∀ (f k : Nat) (m : smM) (x9 x10 x11 x12 : Option smV), k + f = 36 → (k : Int) < r → flN (hdG hd g G) (cbH H who) n p w r t f k = flT (hdG hd g G) (cbH H who) n p w r t → m 114 29 = k → m 114 28 = -6 → m 114 31 = -6 → keepF mem m → smWp 148 20 [some (oR 11 114), some (.inl p), some (.inl w), some (.inl r), some (.inl t), some (.inl H), some (.inl g), some (.inl G), some (.inl (fPos p w n k)), x9, x10, x11, x12] [] m Post := by
    intro f
    induction f with
    | zero =>
      intro k m x9 x10 x11 x12 hk hkr
      omega
    | succ f ih =>
      intro k m x9 x10 x11 x12 hk hkr he h1 h0 h2 hx
      have q1 := fPos_in (w := w) hp k
      have q2 := fPos_in (w := w) hp (k + 1)
      have q3 : fPos p w n (k + 1) = fNx (fPos p w n k) w n := rfl
      have q4 : ((k + 1 : Nat) : Int) = (k : Int) + 1 := by omega
      have q5 := fH_in (k := (k : Int) + 1) (r := r) (t := t) (by omega) (by omega)
      have s4 := hh _ q2.1 q2.2
      have s5 := fWhoN_in (mem 114 2) (mem 117) (fPos p w n (k + 1)) 5 0
      have s6 : fWhoN (mem 114 2) (mem 117) (fPos p w n (k + 1)) 5 0 = who (fPos p w n (k + 1)) := hwho _ q2.1 q2.2
      rw [s6] at s5
      simp only [flN, fEn, q4] at he
      have fin : fEn (hdG hd g G) (cbH H who) n p w r t (k + 1) → flT (hdG hd g G) (cbH H who) n p w r t = k + 1 := by
        intro z
        simp only [fEn, q4] at z
        rw [if_pos z] at he
        exact he.symm
      have hb : 0 ≤ hdG hd g G (fPos p w n (k + 1)) ∧ hdG hd g G (fPos p w n (k + 1)) ≤ 5 := by
        unfold hdG
        split <;> omega
      -- from 133 on: barrier, low, who are known
      have t3 : ∀ (m3 : smM) (lo q : Int), m3 114 29 = (k : Int) + 1 → m3 114 28 = -6 → m3 114 31 = -6 → keepF mem m3 → (lo = 1 ∧ (fH ((k : Int) + 1) r t = 1 ∨ fH ((k : Int) + 1) r t = 2) ∨ lo = 0 ∧ ¬ (fH ((k : Int) + 1) r t = 1 ∨ fH ((k : Int) + 1) r t = 2)) → (H < 0 ∧ lo = 1 ∧ q = who (fPos p w n (k + 1)) ∨ ¬ (H < 0 ∧ lo = 1) ∧ q = -6) → smWp 148 133 [some (oR 11 114), some (.inl p), some (.inl w), some (.inl r), some (.inl t), some (.inl H), some (.inl g), some (.inl G), some (.inl (fPos p w n (k + 1))), some (.inl (fH ((k : Int) + 1) r t)), some (.inl (hdG hd g G (fPos p w n (k + 1)))), some (.inl lo), some (.inl q)] [] m3 Post := by
        intro m3 lo q g1 g0 g2 gx hlo hq
        refine smAt [20, 9999] 60 rfl ?_
        repeat' first
          | refine And.intro ?_ ?_
          | intro _
          | (show smRun _ _ _ _; first | with_reducible refine ru_has _ _ ?_ ?_)
        all_goals try omega
        · have hlt : (k : Int) + 1 < r := by
            rcases Int.lt_or_eq_of_le (show (k : Int) + 1 ≤ r by omega) with z | z
            · exact z
            · exfalso
              have h9 : fH ((k : Int) + 1) r t = 0 := by rw [z]; exact fH_r (by omega) (by omega)
              omega
          refine ih (k + 1) m3 _ _ _ _ (by omega) (by omega) ?_ (by rw [q4]; exact g1) g0 g2 gx
          rw [if_neg] at he
          · exact he
          · intro z
            try simp only [q4] at z
            rcases z with z | z | z
            · omega
            · have hcb := z.2
              unfold cbH at hcb
              split at hcb
              · simp only [decide_eq_true_eq] at hcb
                omega
              · simp only [decide_eq_true_eq] at hcb
                omega
            · omega
        · have hk1 : (k : Int) + 1 = r := by
            rcases Int.lt_or_eq_of_le (show (k : Int) + 1 ≤ r by omega) with z | z
            · exfalso
              have := fH_pos (k := (k : Int) + 1) (r := r) (t := t) (by omega) z (by omega)
              omega
            · exact z
          have z1 := fin (Or.inr (Or.inr (by omega)))
          have z2 : flH (hdG hd g G) (cbH H who) n p w r t (k + 1) = 0 := by
            unfold flH
            rw [q4, if_neg (by omega), if_neg (by omega)]
          refine exitL _ _ _ _ _ _ (by rw [z1]) (by rw [z1, q4]; exact g1) (by rw [z1, z2]; rfl) ⟨by show (0 : Int) ≤ 0; decide, by show (0 : Int) ≤ 2; decide⟩ ?_ (fun c i z => ?_)
          · rw [z1, z2]; exact g2
          · by_cases e : c = 114
            · subst e
              have z3 := z rfl
              rw [smU_d z3.1]
              exact gx _ _ z
            · rw [smU_ne e]
              exact gx _ _ z
        · have hcb : cbH H who (fPos p w n (k + 1)) = true := by
            unfold cbH
            rw [if_pos (by omega)]
            simp only [decide_eq_true_eq]
            omega
          have z1 := fin (Or.inr (Or.inl ⟨by rw [q4]; omega, hcb⟩))
          have z2 : flH (hdG hd g G) (cbH H who) n p w r t (k + 1) = 2 := by
            unfold flH
            rw [q4, if_neg (by omega), if_pos ⟨by omega, hcb⟩]
          refine exitL _ _ _ _ _ _ (by rw [z1]) (by rw [z1, q4]; exact g1) (by rw [z1, z2]; rfl) ⟨by show (0 : Int) ≤ 2; decide, by show (2 : Int) ≤ 2; decide⟩ ?_ (fun c i z => ?_)
          · rw [z1, z2]; rw [if_pos rfl]; unfold byH; rw [if_pos (by omega)]; show q = _; omega
          · by_cases e : c = 114
            · subst e
              have z3 := z rfl
              rw [smU_d z3.2.2.2, smU_d z3.1]
              exact gx _ _ z
            · rw [smU_ne e, smU_ne e]
              exact gx _ _ z
        · have hlt : (k : Int) + 1 < r := by
            rcases Int.lt_or_eq_of_le (show (k : Int) + 1 ≤ r by omega) with z | z
            · exact z
            · exfalso
              have h9 : fH ((k : Int) + 1) r t = 0 := by rw [z]; exact fH_r (by omega) (by omega)
              omega
          refine ih (k + 1) m3 _ _ _ _ (by omega) (by omega) ?_ (by rw [q4]; exact g1) g0 g2 gx
          rw [if_neg] at he
          · exact he
          · intro z
            try simp only [q4] at z
            rcases z with z | z | z
            · omega
            · have hcb := z.2
              unfold cbH at hcb
              split at hcb
              · simp only [decide_eq_true_eq] at hcb
                omega
              · simp only [decide_eq_true_eq] at hcb
                omega
            · omega
        · have hcb : cbH H who (fPos p w n (k + 1)) = true := by
            unfold cbH
            rw [if_neg (by omega)]
            simp only [decide_eq_true_eq]
            assumption
          have z1 := fin (Or.inr (Or.inl ⟨by rw [q4]; omega, hcb⟩))
          have z2 : flH (hdG hd g G) (cbH H who) n p w r t (k + 1) = 2 := by
            unfold flH
            rw [q4, if_neg (by omega), if_pos ⟨by omega, hcb⟩]
          refine exitL _ _ _ _ _ _ (by rw [z1]) (by rw [z1, q4]; exact g1) (by rw [z1, z2]; rfl) ⟨by show (0 : Int) ≤ 2; decide, by show (2 : Int) ≤ 2; decide⟩ ?_ (fun c i z => ?_)
          · rw [z1, z2]; rw [if_pos rfl]; unfold byH; rw [if_neg (by omega)]; show q = _; omega
          · by_cases e : c = 114
            · subst e
              have z3 := z rfl
              rw [smU_d z3.2.2.2, smU_d z3.1]
              exact gx _ _ z
            · rw [smU_ne e, smU_ne e]
              exact gx _ _ z
        · have hlt : (k : Int) + 1 < r := by
            rcases Int.lt_or_eq_of_le (show (k : Int) + 1 ≤ r by omega) with z | z
            · exact z
            · exfalso
              have h9 : fH ((k : Int) + 1) r t = 0 := by rw [z]; exact fH_r (by omega) (by omega)
              omega
          refine ih (k + 1) m3 _ _ _ _ (by omega) (by omega) ?_ (by rw [q4]; exact g1) g0 g2 gx
          rw [if_neg] at he
          · exact he
          · intro z
            try simp only [q4] at z
            rcases z with z | z | z
            · omega
            · have hcb := z.2
              unfold cbH at hcb
              split at hcb
              · simp only [decide_eq_true_eq] at hcb
                omega
              · simp only [decide_eq_true_eq] at hcb
                omega
            · omega
        · have z1 := fin (Or.inl (by rw [q4]; omega))
          have z2 : flH (hdG hd g G) (cbH H who) n p w r t (k + 1) = 1 := by
            unfold flH
            rw [q4, if_pos (by omega)]
          refine exitL _ _ _ _ _ _ (by rw [z1]) (by rw [z1, q4]; exact g1) (by rw [z1, z2]; rfl) ⟨by show (0 : Int) ≤ 1; decide, by show (1 : Int) ≤ 2; decide⟩ ?_ (fun c i z => ?_)
          · rw [z1, z2]; exact g2
          · by_cases e : c = 114
            · subst e
              have z3 := z rfl
              rw [smU_d z3.1]
              exact gx _ _ z
            · rw [smU_ne e]
              exact gx _ _ z
      -- from 91 on
      have t2 : ∀ (m3 : smM) (y11 y12 : Option smV), m3 114 29 = (k : Int) + 1 → m3 114 28 = -6 → m3 114 31 = -6 → keepF mem m3 → smWp 148 91 [some (oR 11 114), some (.inl p), some (.inl w), some (.inl r), some (.inl t), some (.inl H), some (.inl g), some (.inl G), some (.inl (fPos p w n (k + 1))), some (.inl (fH ((k : Int) + 1) r t)), some (.inl (hdG hd g G (fPos p w n (k + 1)))), y11, y12] [] m3 Post := by
        intro m3 y11 y12 g1 g0 g2 gx
        have e2 : m3 114 2 = mem 114 2 := gx 114 2 (fun _ => by decide)
        have e7 : m3 117 = mem 117 := funext fun i => gx 117 i (fun z => by omega)
        refine smAt [133, 9999] 60 rfl ?_
        repeat' first
          | refine And.intro ?_ ?_
          | intro _
          | (show smRun _ _ _ _; first | with_reducible refine ru_standsAt _ ?_ ?_ ?_)
        all_goals try omega
        all_goals first | exact t3 m3 _ _ g1 g0 g2 gx (by omega) (by omega) | skip
        all_goals first | (intro; rw [e7]; exact (hat _ (by omega) (by omega)).1) | (rw [e7]; exact (hat _ (by omega) (by omega)).1) | (rw [e7]; exact (hat _ (by omega) (by omega)).2) | skip
        all_goals (rw [e2, e7, show fWho (mem 114 2) (mem 117) (fPos p w n (k + 1)) = who (fPos p w n (k + 1)) from s6]; exact t3 m3 _ _ g1 g0 g2 gx (by omega) (by omega))
      -- from 58 on
      have t1 : ∀ (m3 : smM) (y10 y11 y12 : Option smV), m3 114 29 = (k : Int) + 1 → m3 114 28 = -6 → m3 114 31 = -6 → keepF mem m3 → smWp 148 58 [some (oR 11 114), some (.inl p), some (.inl w), some (.inl r), some (.inl t), some (.inl H), some (.inl g), some (.inl G), some (.inl (fPos p w n (k + 1))), some (.inl (fH ((k : Int) + 1) r t)), y10, y11, y12] [] m3 Post := by
        intro m3 y10 y11 y12 g1 g0 g2 gx
        have e5 : m3 115 (fPos p w n (k + 1)) = hd (fPos p w n (k + 1)) := by rw [gx 115 _ (fun z => by omega)]; exact s4.1
        have t2' := t2 m3 y11 y12 g1 g0 g2 gx
        unfold hdG at t2'
        rw [← e5] at t2'
        refine smAt [91, 9999] 60 rfl ?_
        repeat' first
          | refine And.intro ?_ ?_
          | intro _
        all_goals try omega
        all_goals first | (rw [if_pos (by omega)] at t2'; exact t2') | (rw [if_neg (by omega)] at t2'; exact t2')
      have s1 : m 114 0 = n := by rw [hx 114 0 (fun _ => by decide)]; exact hP
      refine smAt [58, 9999] 60 rfl ?_
      repeat' first
        | refine And.intro ?_ ?_
        | intro _
      all_goals try omega
      refine ru_step _ _ (by omega) (by omega) (by omega) ?_
      have e9 : smU m 114 29 (m 114 29 + 1) 114 29 = (k : Int) + 1 := by rw [smU_s, h1]
      refine ru_heightOf _ _ _ (by rw [e9]; omega) (by omega) (by omega) ?_
      rw [e9, s1, ← q3]
      refine t1 _ _ _ _ e9 h0 h2 (fun c i z => ?_)
      by_cases e : c = 114
      · subst e
        rw [smU_d (z rfl).2.1]
        exact hx _ _ z
      · rw [smU_ne e]
        exact hx _ _ z
  refine smGo [20, 9999] 60 rfl ?_
  refine loop 36 0 _ none none none none (by omega) (by omega) rfl rfl rfl rfl ?_
  intro k i z
  by_cases e : k = 114
  · subst e
    have z2 := z rfl
    rw [smU_d z2.2.2.2, smU_d z2.2.1, smU_d z2.1]
  · rw [smU_ne e, smU_ne e, smU_ne e]
/-- the throws of people, and the listed ones, of S -/
abbrev wh (S : sS) : Int → Int := fWho (S 4 0) (S 5)
abbrev cP (S : sS) : Int → Bool := cbs (wh S)
theorem cbH_m1 (who : Int → Int) : cbH (-1) who = cbs who := by
  funext q
  simp [cbH, cbs]
theorem byH_m1 (who : Int → Int) : byH (-1) who = who := by
  funext q
  simp [byH]
theorem hdG_no (hd : Int → Int) (g : Int) (q : Int) (h : q ≠ g) (G : Int) : hdG hd g G q = hd q := by
  simp [hdG, h]
theorem fWho_congr {T T' : Int} {a a' : Int → Int} (hT : T = T') (ha : ∀ q, 0 ≤ q → q < 5 → a q = a' q) (p : Int) : fWho T a p = fWho T' a' p := by
  subst hT
  simp only [fWho, fWhoN]
  rw [ha 0 (by decide) (by decide), ha (0 + 1) (by decide) (by decide), ha (0 + 1 + 1) (by decide) (by decide), ha (0 + 1 + 1 + 1) (by decide) (by decide), ha (0 + 1 + 1 + 1 + 1) (by decide) (by decide)]
theorem flT_congr {hd hd' : Int → Int} {cb cb' : Int → Bool} {n p w r t : Int} (hp : 0 ≤ p ∧ p < n) (h : ∀ q, 0 ≤ q → q < n → hd q = hd' q ∧ cb q = cb' q) : flT hd cb n p w r t = flT hd' cb' n p w r t := flN_congr hp h 36 0
/-- fly, of S -/
theorem ru_flyS (p w r t H g G : Int) (hk : wR mem S) (ho : okW N S) (hN : N ≤ 1000000) (hH : -1 ≤ H ∧ H < 1000) (hg : -6 ≤ g ∧ g ≤ 9) (hG : 0 ≤ G ∧ G ≤ 5) (hp : 0 ≤ p ∧ p < S 0 0) (ht : fThr w r t)
    (h : ∀ mem', flR mem' (hdG (S 1) g G) (cbH H (wh S)) (byH H (wh S)) (S 0 0) p w r t → keepF mem mem' → Post none mem') : smRun 148 [oR 11 114, .inl p, .inl w, .inl r, .inl t, .inl H, .inl g, .inl G] mem Post := by
  obtain ⟨kP, kT, kN, kp, kq, ki⟩ := hk
  obtain ⟨oP, oT, oA, op, oq, oi⟩ := ho
  refine ru_fly (S 0 0) p w r t H g G (S 1) (wh S) kP (by omega) (fun q x y => ⟨(kp q x (by omega)).1, (op q x (by omega)).1⟩) (fun q x y => fWho_congr kT (fun j x y => (kq j x y).1) q) (fun q x y => ?_) hH hg hG hp ht h
  have h1 := (kq q x y).1
  have h2 := oq q x y
  unfold smIR
  omega
theorem ru_flyFrom (q w r t : Int) (hk : wR mem S) (ho : okW N S) (hN : N ≤ 1000000) (hq : 0 ≤ q ∧ q ≤ 4 ∧ bB (S 4 0) q) (ht : fThr w r t) (h : ∀ mem', flR mem' (S 1) (cP S) (wh S) (S 0 0) (S 5 q) w r t → keepF mem mem' → Post none mem') : smRun 150 [oR 11 114, .inl q, .inl w, .inl r, .inl t] mem Post := by
  obtain ⟨kP, kT, kN, kp, kq, ki⟩ := id hk
  obtain ⟨oP, oT, oA, op, oq, oi⟩ := id ho
  have h1 := (kq q (by omega) (by omega)).1
  have h2 := oq q (by omega) (by omega)
  have hp : 0 ≤ S 5 q ∧ S 5 q < S 0 0 := ⟨h2.1.1, (h2.2.2.2.2 hq.2.2).1⟩
  refine smGo [9999] 60 rfl ?_
  repeat' first
    | refine And.intro ?_ ?_
    | intro _
  all_goals try omega
  rw [h1]
  refine ru_flyS _ _ _ _ _ _ _ hk ho hN (by omega) (by omega) (by omega) hp ht (fun mem' f k => ?_)
  refine h mem' ?_ k
  rw [cbH_m1, byH_m1] at f
  have e1 : flT (hdG (S 1) (-6) 0) (cbs (wh S)) (S 0 0) (S 5 q) w r t = flT (S 1) (cP S) (S 0 0) (S 5 q) w r t := flT_congr hp (fun q x y => ⟨hdG_no _ _ _ (by omega) _, rfl⟩)
  have e2 : ∀ k, flH (hdG (S 1) (-6) 0) (cbs (wh S)) (S 0 0) (S 5 q) w r t k = flH (S 1) (cP S) (S 0 0) (S 5 q) w r t k := flH_congr hp (fun q x y => ⟨hdG_no _ _ _ (by omega) _, rfl⟩)
  unfold flR at f
  rw [e1, e2] at f
  exact f
end
