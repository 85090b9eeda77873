section
variable {mem : smM} {Post : Option smV → smM → Prop} {N : Int} {S : sS}
abbrev gT (S : sS) (p w r t : Int) : Nat := flT (S 1) (cP S) (S 0 0) p w r t
abbrev gH (S : sS) (p w r t : Int) : Int := flH (S 1) (cP S) (S 0 0) p w r t (gT S p w r t)
abbrev gP (S : sS) (p w r t : Int) : Int := fPos p w (S 0 0) (gT S p w r t)
abbrev gB (S : sS) (p w r t : Int) : Int := if gH S p w r t = 2 then wh S (gP S p w r t) else -6
theorem wh_in (S : sS) (p : Int) : wh S p = -6 ∨ (0 ≤ wh S p ∧ wh S p < 5) := by
  rcases fWhoN_in (S 4 0) (S 5) p 5 0 with h | h
  · exact Or.inl h
  · right
    exact ⟨h.1, by have h2 := h.2; simpa using h2⟩
theorem gT_in {S : sS} {p w r t : Int} : gT S p w r t ≤ 36 := by
  have := (flN_ge (S 1) (cP S) (S 0 0) p w r t 36 0).2
  unfold gT flT
  omega
theorem gT_1 {S : sS} {p w r t : Int} : 1 ≤ gT S p w r t := by
  unfold gT flT
  show 1 ≤ flN (S 1) (cP S) (S 0 0) p w r t (35 + 1) 0
  rw [flN]
  split
  · exact Nat.le_refl 1
  · exact (flN_ge (S 1) (cP S) (S 0 0) p w r t 35 (0 + 1)).1
theorem flH_in (hd : Int → Int) (cb : Int → Bool) (n p w r t : Int) (k : Nat) : 0 ≤ flH hd cb n p w r t k ∧ flH hd cb n p w r t k ≤ 2 := by
  unfold flH
  repeat' split
  all_goals omega
theorem gB_in (S : sS) (p w r t : Int) : -6 ≤ gB S p w r t ∧ gB S p w r t < 5 := by
  unfold gB
  split
  · rcases wh_in S (gP S p w r t) with h | h <;> omega
  · omega
/-- the class's scene is S's -/
abbrev scS (mem : smM) (S : sS) : Prop := scn mem (S 0 0) (S 1) (wh S)
abbrev trS (mem : smM) (S : sS) (p w r t : Int) : Prop := trp98 mem (S 1) (wh S) (S 0 0) p w r t
/-- nothing but the trip has changed -/
def kT8 (mem mem' : smM) : Prop := ∀ k i, k ≠ 98 → k ≠ 99 → k ≠ 100 → mem' k i = mem k i
theorem kT8_rf (mem : smM) : kT8 mem mem := fun _ _ _ _ _ => rfl
theorem kT8_tr {a b c : smM} (h1 : kT8 a b) (h2 : kT8 b c) : kT8 a c := fun k i x y z => (h2 k i x y z).trans (h1 k i x y z)
theorem kT8_sc {a b : smM} (h : kT8 a b) (hs : scS a S) : scS b S := ⟨by rw [h 95 0 (by decide) (by decide) (by decide)]; exact hs.1, fun p x y => by rw [h 96 p (by decide) (by decide) (by decide), h 97 p (by decide) (by decide) (by decide)]; exact hs.2 p x y⟩
theorem kT8_keep {a b : smM} (h : kT8 a b) : keepC a b := ⟨fun k i hk => h k i (by omega) (by omega) (by omega), h 93 0 (by decide) (by decide) (by decide)⟩
theorem ru_lookS (hk : wC mem S) (ho : okW N S) (h : ∀ mem', scS mem' S → keepC mem mem' → Post none mem') : smRun 59 [oR 6 95, oR 9 2, .inl 1] mem Post := by
  have e : (fun p => if (1 : Int) = 0 then -6 else fWho (S 4 0) (S 5) p) = wh S := by
    funext p
    rw [if_neg (by decide)]
  refine ru_look 1 (Or.inr rfl) hk ho (fun mem' hs hx => h mem' (by rw [e] at hs; exact hs) ⟨fun k i hh => hx k i (by omega) (by omega) (by omega), hx 93 0 (by decide) (by decide) (by decide)⟩)
theorem ru_goS (p w r t : Int) (hs : scS mem S) (ho : okW N S) (hp : 0 ≤ p ∧ p < S 0 0) (ht : fThr w r t) (h : ∀ mem', trS mem' S p w r t → kT8 mem mem' → Post none mem') : smRun 3 [oR 2 98, oR 6 95, .inl p, .inl w, .inl r, .inl t] mem Post := by
  obtain ⟨oP, oT, oA, op, oq, oi⟩ := id ho
  refine ru_go98 (S 0 0) p w r t (S 1) (wh S) hs (by omega) (fun q x y => ?_) (fun q x y => ?_) hp ht h
  · have := (op q x (by omega)).1; omega
  · rcases wh_in S q with h | h <;> omega
theorem ru_isCaughtBy (q : Int) (hq : smIR q) (h0 : 0 ≤ mem 98 0 ∧ mem 98 0 ≤ 2) (h2 : -6 ≤ mem 98 2 ∧ mem 98 2 < 5) (g1 : mem 98 0 = 2 → mem 98 2 = q → Post (some (.inl 1)) mem) (g0 : ¬ (mem 98 0 = 2 ∧ mem 98 2 = q) → Post (some (.inl 0)) mem) : smRun 4 [oR 2 98, .inl q] mem Post := by
  unfold smIR at hq
  refine smGo [9999] 30 rfl ?_
  repeat' first
    | refine And.intro ?_ ?_
    | intro _
  all_goals try omega
  · exact g0 (by omega)
  · exact g0 (by omega)
  · exact g1 (by omega) (by omega)
theorem ru_goesTo (c p w r t : Int) (hc : smIR c) (hs : scS mem S) (ho : okW N S) (hp : 0 ≤ p ∧ p < S 0 0) (ht : fThr w r t) (h1 : gH S p w r t = 2 → gB S p w r t = c → ∀ mem', mem' 98 1 = (gT S p w r t : Int) → kT8 mem mem' → Post (some (.inl 1)) mem') (h0 : ¬ (gH S p w r t = 2 ∧ gB S p w r t = c) → ∀ mem', kT8 mem mem' → Post (some (.inl 0)) mem') : smRun 91 [oR 10 0, .inl c, .inl p, .inl w, .inl r, .inl t] mem Post := by
  refine smGo [9999] 30 rfl ?_
  refine ru_goS p w r t hs ho hp ht (fun m hm hx => ?_)
  obtain ⟨e1, e0, e2, -⟩ := hm
  have i0 := flH_in (S 1) (cP S) (S 0 0) p w r t (gT S p w r t)
  have i2 := gB_in S p w r t
  have e2' : m 98 2 = gB S p w r t := e2
  have e0' : m 98 0 = gH S p w r t := e0
  refine ru_isCaughtBy c hc (by rw [e0']; exact i0) (by rw [e2']; exact i2) ?_ ?_
  · intro a b
    refine And.intro (Or.inr rfl) ?_
    exact h1 (by rw [← e0']; exact a) (by rw [← e2']; exact b) m e1 hx
  · intro a
    refine And.intro (Or.inl rfl) ?_
    exact h0 (by rw [← e0', ← e2']; exact a) m hx
-- flight
def flightF (S : sS) (p w r t k : Int) : Int := if k = 0 then gH S p w r t else if k = 1 then (gT S p w r t : Int) else if k = 2 then gP S p w r t else gB S p w r t
theorem ru_tellEnd (p w r t k : Int) (hk : 0 ≤ k ∧ k ≤ 3) (hm : trS mem S p w r t) (h : Post (some (.inl (flightF S p w r t k))) mem) : smRun 20 [oR 2 98, .inl k] mem Post := by
  obtain ⟨e1, e0, e2, e3⟩ := hm
  have e2' : mem 98 2 = gB S p w r t := e2
  have e0' : mem 98 0 = gH S p w r t := e0
  have e3' := (e3 _ (Nat.le_refl _)).1
  rw [← e1] at e3'
  have i1 := gT_in (S := S) (p := p) (w := w) (r := r) (t := t)
  have e1' : mem 98 1 = (gT S p w r t : Int) := e1
  unfold flightF at h
  refine smGo [9999] 30 rfl ?_
  repeat' first
    | refine And.intro ?_ ?_
    | intro _
    | exact trivial
  all_goals try omega
  · rw [if_neg (by omega), if_neg (by omega), if_neg (by omega), ← e2'] at h; exact h
  · rw [if_pos (by omega), ← e0'] at h; exact h
  · rw [if_neg (by omega), if_pos (by omega), ← e1'] at h; exact h
  · rw [if_neg (by omega), if_neg (by omega), if_pos (by omega)] at h
    have h9 : Post (some (.inl (fPos p w (S 0 0) (flT (S 1) (cbs (wh S)) (S 0 0) p w r t)))) mem := h
    rw [← e3'] at h9
    exact h9
theorem pC_flight (q w r t k : Int) (hq : smIR q) (hw : smIR w) (hr : smIR r) (ht : smIR t) (hkk : smIR k) (hk : kC mem S) (ho : ok N S) (h0 : ¬ (0 ≤ q ∧ q ≤ 4 ∧ bB (S 4 0) q) → Post (some (.inl (-1))) mem) (h1 : 0 ≤ q ∧ q ≤ 4 ∧ bB (S 4 0) q → ¬ (fThr w r t ∧ (0 ≤ k ∧ k ≤ 3)) → Post (some (.inl (-2))) mem) (h2 : 0 ≤ q ∧ q ≤ 4 ∧ bB (S 4 0) q → fThr w r t → 0 ≤ k ∧ k ≤ 3 → ∀ mem', keepC mem mem' → Post (some (.inl (flightF S (S 5 q) w r t k))) mem') : smRun 89 [oR 10 0, .inl q, .inl w, .inl r, .inl t, .inl k] mem Post := by
  obtain ⟨⟨kP, kT, kN, kp, kq, ki⟩, ⟨kB, kb⟩, ⟨kS, ks⟩⟩ := id hk
  obtain ⟨oN, ⟨oP, oT, oA, op, oq, oi⟩, ⟨oB, ob⟩, ⟨oS, os⟩⟩ := id ho
  rw [← kT] at h0 h1 h2
  refine smGo [9999] 60 rfl ?_
  repeat' first
    | refine And.intro ?_ ?_
    | intro _
    | (show smRun _ _ _ _; first | with_reducible refine ru_hasPerson 2 _ hq ?_ ?_ | with_reducible refine ru_isThrowC _ _ _ hw hr ht ?_ ?_ | with_reducible refine ru_within _ _ _ hkk ?_ ?_ ?_ ?_)
    | (show Post _ _; first | exact h0 (by omega) | exact h1 (by omega) (by omega))
  all_goals try omega
  · refine ru_lookS hk.1 ho.2.1 (fun m1 s1 k1 => ?_)
    have e6 := k1.1 6 q (by omega)
    have e7 := (kq q (by omega) (by omega)).1
    have o7 := oq q (by omega) (by omega)
    refine And.intro ⟨by omega, by show q < 5; omega⟩ ?_
    rw [e6, e7]
    refine ru_goS _ w r t s1 ho.2.1 ⟨o7.1.1, (o7.2.2.2.2 (by rw [← kT]; assumption)).1⟩ (by omega) (fun m2 t2 k2 => ?_)
    refine ru_tellEnd _ w r t k (by omega) t2 ?_
    exact h2 (by omega) (by omega) (by omega) m2 (keepC_tr k1 (kT8_keep k2))
theorem keepF_keep {a b : smM} (h : keepF a b) : keepR a b := ⟨fun k i hk => h k i (fun z => by omega), fun j hj => h 114 j (fun _ => by omega)⟩
theorem flR_bnd {p w r t : Int} (h : flR mem (S 1) (cP S) (wh S) (S 0 0) p w r t) : mem 114 28 = gH S p w r t ∧ mem 114 29 = (gT S p w r t : Int) ∧ mem 114 30 = gP S p w r t ∧ mem 114 31 = gB S p w r t := ⟨h.2.1, h.1, h.2.2.2, h.2.2.1⟩
theorem pR_flight (q w r t k : Int) (hq : smIR q) (hw : smIR w) (hr : smIR r) (ht : smIR t) (hkk : smIR k) (hk : rC mem S) (ho : ok N S) (h0 : ¬ (0 ≤ q ∧ q ≤ 4 ∧ bB (S 4 0) q) → Post (some (.inl (-1))) mem) (h1 : 0 ≤ q ∧ q ≤ 4 ∧ bB (S 4 0) q → ¬ (fThr w r t ∧ (0 ≤ k ∧ k ≤ 3)) → Post (some (.inl (-2))) mem) (h2 : 0 ≤ q ∧ q ≤ 4 ∧ bB (S 4 0) q → fThr w r t → 0 ≤ k ∧ k ≤ 3 → ∀ mem', keepR mem mem' → Post (some (.inl (flightF S (S 5 q) w r t k))) mem') : smRun 151 [oR 11 114, .inl q, .inl w, .inl r, .inl t, .inl k] mem Post := by
  obtain ⟨⟨kP, kT, kN, kp, kq, ki⟩, ⟨kB, kb⟩, ⟨kS, ks⟩⟩ := id hk
  obtain ⟨oN, ⟨oP, oT, oA, op, oq, oi⟩, ⟨oB, ob⟩, ⟨oS, os⟩⟩ := id ho
  rw [← kT] at h0 h1 h2
  refine smGo [9999] 60 rfl ?_
  repeat' first
    | refine And.intro ?_ ?_
    | intro _
    | (show smRun _ _ _ _; first | with_reducible refine ru_isThere _ hq ?_ ?_ | with_reducible refine ru_isThrowR _ _ _ hw hr ht ?_ ?_ | with_reducible refine ru_in _ _ _ hkk ?_ ?_ ?_ ?_)
    | (show Post _ _; first | exact h0 (by omega) | exact h1 (by omega) (by omega))
  all_goals try omega
  · refine ru_flyFrom q w r t hk.1 ho.2.1 oN.2 ⟨by omega, by omega, by rw [← kT]; assumption⟩ (by omega) (fun m1 f1 k1 => ?_)
    obtain ⟨b0, b1, b2, b3⟩ := flR_bnd f1
    have h9 := h2 (by omega) (by omega) (by omega) m1 (keepF_keep k1)
    unfold flightF at h9
    repeat' first
      | refine And.intro ?_ ?_
      | intro _
    all_goals try omega
    · rw [if_neg (by omega), if_neg (by omega), if_neg (by omega), ← b3] at h9; exact h9
    · rw [if_neg (by omega), if_neg (by omega), if_pos (by omega), ← b2] at h9; exact h9
    · rw [if_neg (by omega), if_pos (by omega), ← b1] at h9; exact h9
    · rw [if_pos (by omega), ← b0] at h9; exact h9
theorem lw_flight (q w r t k : Int) (hq : smIR q) (hw : smIR w) (hr : smIR r) (ht : smIR t) (hkk : smIR k) (hN : N ≤ 900000) (h : jI N mem) : both N 89 151 [.inl q, .inl w, .inl r, .inl t, .inl k] mem := by
  have hj := jI_rf hN h
  obtain ⟨S, S1, S2, n, d, h⟩ := h
  obtain ⟨a1, a2, a3, -⟩ := id h
  refine pC_flight q w r t k hq hw hr ht hkk a2 a1 (fun c => ?_) (fun c1 c2 => ?_) (fun c1 c2 c3 m1 k1 => ?_)
  · refine pR_flight q w r t k hq hw hr ht hkk a3 a1 ?_ ?_ ?_ <;> intros <;> first | (exfalso; omega) | exact ⟨agr_rf _, hj⟩
  · refine pR_flight q w r t k hq hw hr ht hkk a3 a1 ?_ ?_ ?_ <;> intros <;> first | (exfalso; omega) | exact ⟨agr_rf _, hj⟩
  · refine pR_flight q w r t k hq hw hr ht hkk (rC_eqR (keepC_eqR k1) a3) a1 ?_ ?_ ?_
    · intros; exfalso; omega
    · intros; exfalso; omega
    · intro _ _ _ m2 k2
      exact ⟨agr_rf _, S, S1, S2, n, d, jO_keep h (by omega) k1 k2⟩
end
