/-! the day on the pad: reference -/
def kU (mem mem' : smM) : Prop := ∀ k i, (k < 126 ∨ 132 < k) → (k = 114 → i ≠ 22 ∧ i ≠ 24 ∧ i ≠ 26 ∧ i ≠ 27) → mem' k i = mem k i
theorem kU_keep {a b : smM} (h : kU a b) : keepR a b := ⟨fun k i hk => h k i (by omega) (by omega), fun j hj => h 114 j (by omega) (by omega)⟩
theorem kU_tr {a b c : smM} (h1 : kU a b) (h2 : kU b c) : kU a c := fun k i x y => (h2 k i x y).trans (h1 k i x y)
theorem kV_kU {a b : smM} (h : kV a b) : kU a b := fun k i x y => h k i x (fun z => ⟨(y z).1, (y z).2.1⟩)
section
variable {mem : smM} {Post : Option smV → smM → Prop} {N : Int} {S : sS} {n : Int} {d : Int → Int}
set_option maxRecDepth 4000 in
theorem gd_24 (i : Int) (x2 x3 x4 : Option smV) (hi : 0 ≤ i ∧ i < n) (hp : padR mem n d) (hop : okP n d) (wf : wfE d n i) (hk : wN mem S) (ho : okW N S) (hN : N ≤ 1002000) (hr : mem 114 26 = 0) (K0 : evY d S i = 0 → ∀ m y2 y3 y4, wN m (evS d S i) → m 114 26 = 0 → m 114 27 = mem 114 27 → kU mem m → smWp 139 214 [some (oR 11 114), some (.inl (i + evL d i)), y2, y3, y4] [] m Post) (K1 : evY d S i ≠ 0 → ∀ m y2 y3 y4, m 114 26 = evY d S i → m 114 27 = mem 114 27 → kU mem m → smWp 139 214 [some (oR 11 114), some (.inl (i + evL d i)), y2, y3, y4] [] m Post) : smWp 139 24 [some (oR 11 114), some (.inl i), x2, x3, x4] [] mem Post := by
  have on := hop.1
  have oi := hop.2 i hi.1 hi.2
  have p0 := hp.2 i hi.1 hi.2
  unfold evY evS evL at K0
  unfold evY evL at K1
  unfold wfE at wf
  by_cases c : d i = 46
  · simp only [if_pos c] at K0
    refine smAt [35, 45, 214, 9999] 60 rfl ?_
    repeat' first
      | refine And.intro ?_ ?_
      | intro _
    all_goals try omega
    refine smAt [214, 9999] 60 rfl ?_
    refine ru_pass hk ho (fun m g1 g2 g3 => ?_)
    refine K0 trivial m _ _ _ g1 ?_ ?_ (kV_kU g3)
    · rw [g3 114 26 (by omega) (by omega)]; exact hr
    · exact g3 114 27 (by omega) (by omega)
  · simp only [if_neg c] at K0 K1
    have o1 := hop.2 (i + 1) (by omega) (by omega)
    have p1 := hp.2 (i + 1) (by omega) (by omega)
    have hq : smIR (d i - 65) := by unfold smIR; omega
    refine smAt [35, 45, 214, 9999] 60 rfl ?_
    repeat' first
      | refine And.intro ?_ ?_
      | intro _
    all_goals try omega
    refine smAt [64, 9999] 60 rfl ?_
    repeat' first
      | refine And.intro ?_ ?_
      | intro _
    all_goals try omega
    rw [p0, p1]
    by_cases c2 : d (i + 1) = 62 ∨ d (i + 1) = 60
    · simp only [if_pos c2] at K0 K1
      have p2 := hp.2 (i + 2) (by omega) (by omega)
      have p3 := hp.2 (i + 3) (by omega) (by omega)
      have p4 := hp.2 (i + 4) (by omega) (by omega)
      have t76 : smWp 139 76 [some (oR 11 114), some (.inl i), some (.inl (d i - 65)), some (.inl (d (i + 1))), x4] [] mem Post := by
        refine smAt [102, 9999] 60 rfl ?_
        repeat' first
          | refine And.intro ?_ ?_
          | intro _
        all_goals try omega
        rw [p2, p3]
        refine smAt [112, 9999] 60 rfl ?_
        refine ru_whyNot _ (eRch d i) hq (by unfold eRch; omega) hk ho hN (fun y hy => ?_)
        have ey := wyT_uni hy (fTw_r S (d i - 65) (eRch d i))
        have yb : 0 ≤ y ∧ y ≤ 4 := by unfold wyT at hy; omega
        rw [← ey] at K0 K1
        refine smAt [115, 9999] 60 rfl ?_
        have a1 : smU mem 114 26 y 114 26 = y := smU_s
        have a2 : smU mem 114 26 y 114 27 = mem 114 27 := smU_d (by decide)
        have wt : wN (smU mem 114 26 y) S := hk
        have ku : kU mem (smU mem 114 26 y) := fun k j z1 z2 => smU_o (by omega)
        have pp4 : smU mem 114 26 y 125 (i + 4) = d (i + 4) := by rw [smU_ne (by decide)]; exact p4
        show smWp 139 115 [some (oR 11 114), some (.inl i), some (.inl (d i - 65)), some (.inl (d (i + 1))), some (.inl (eRch d i))] [] (smU mem 114 26 y) Post
        generalize smU mem 114 26 y = m4 at *
        by_cases y0 : y = 0
        · subst y0
          have go : ∀ w, w = (if d (i + 1) = 62 then 0 else 1) → smWp 139 135 [some (oR 11 114), some (.inl i), some (.inl (d i - 65)), some (.inl (d (i + 1))), some (.inl (eRch d i))] [.inl w, .inl (d i - 65), oR 11 114] m4 Post := by
            intro w hw
            rw [← hw] at K0
            refine smAt [148, 9999] 60 rfl ?_
            repeat' first
              | refine And.intro ?_ ?_
              | intro _
            all_goals try omega
            rw [pp4]
            refine smAt [214, 9999] 60 rfl ?_
            refine ru_fling _ w (eRch d i) (d (i + 4) - 48) hy wt ho (fun m g1 g2 g3 => ?_)
            refine K0 rfl m _ _ _ g1 ?_ ?_ (kU_tr ku (kV_kU g3))
            · rw [g3 114 26 (by omega) (by omega)]; exact a1
            · rw [g3 114 27 (by omega) (by omega)]; exact a2
          refine smAt [135, 9999] 60 rfl ?_
          repeat' first
            | refine And.intro ?_ ?_
            | intro _
          all_goals try omega
          · exact go 1 (by rw [if_neg (by omega)])
          · exact go 0 (by rw [if_pos (by omega)])
        · refine smAt [214, 122, 9999] 60 rfl ?_
          repeat' first
            | refine And.intro ?_ ?_
            | intro _
          all_goals try omega
          exact K1 y0 m4 _ _ _ a1 a2 ku
      refine smAt [76, 157, 9999] 60 rfl ?_
      repeat' first
        | refine And.intro ?_ ?_
        | intro _
      all_goals try omega
      · exact t76
      · exact t76
    · simp only [if_neg c2] at K0 K1
      refine smAt [76, 157, 9999] 60 rfl ?_
      repeat' first
        | refine And.intro ?_ ?_
        | intro _
      all_goals try omega
      obtain ⟨kP, kT, kN, kp, kq, ki⟩ := id hk
      have k1 := kq (d i - 65) (by omega) (by omega)
      have o5 := ho.2.2.2.2.1 (d i - 65) (by omega) (by omega)
      have k2 := kp (S 5 (d i - 65)) (by omega) (by omega)
      have o2 := ho.2.2.2.1 (S 5 (d i - 65)) (by omega) (by omega)
      have e29 : mem 129 (mem 126 (d i - 65)) = S 2 (S 5 (d i - 65)) := by rw [k1.1]; exact k2.2.1
      have t195 : ∀ y, (if d (i + 1) = 43 then wyP S (d i - 65) y else wyW S (d i - 65) y) → smWp 139 195 [some (oR 11 114), some (.inl i), some (.inl (d i - 65)), some (.inl (d (i + 1))), x4] [.inl y, oR 11 114] mem Post := by
        intro y hy
        have ey : (if d (i + 1) = 43 then fPw S (d i - 65) else fWw S (d i - 65)) = y := by
          by_cases c3 : d (i + 1) = 43
          · rw [if_pos c3] at hy ⊢
            exact wyP_uni (fPw_r S _) hy
          · rw [if_neg c3] at hy ⊢
            exact wyW_uni (fWw_r S _) hy
        have yb : 0 ≤ y ∧ y ≤ 5 := by
          rw [← ey]
          unfold fPw fWw
          repeat' split
          all_goals omega
        rw [ey] at K0 K1
        refine smAt [198, 9999] 60 rfl ?_
        have a1 : smU mem 114 26 y 114 26 = y := smU_s
        have a2 : smU mem 114 26 y 114 27 = mem 114 27 := smU_d (by decide)
        have wt : wN (smU mem 114 26 y) S := hk
        have ku : kU mem (smU mem 114 26 y) := fun k j z1 z2 => smU_o (by omega)
        show smWp 139 198 [some (oR 11 114), some (.inl i), some (.inl (d i - 65)), some (.inl (d (i + 1))), x4] [] (smU mem 114 26 y) Post
        generalize smU mem 114 26 y = m4 at *
        by_cases y0 : y = 0
        · subst y0
          refine smAt [205, 211, 9999] 60 rfl ?_
          repeat' first
            | refine And.intro ?_ ?_
            | intro _
          all_goals try omega
          refine smAt [214, 9999] 60 rfl ?_
          refine ru_goR _ (d (i + 1)) (by omega) hy wt ho (fun m g1 g2 g3 => ?_)
          refine K0 rfl m _ _ _ g1 ?_ ?_ (kU_tr ku (kV_kU g3))
          · rw [g3 114 26 (by omega) (by omega)]; exact a1
          · rw [g3 114 27 (by omega) (by omega)]; exact a2
        · refine smAt [205, 214, 9999] 60 rfl ?_
          repeat' first
            | refine And.intro ?_ ?_
            | intro _
          all_goals try omega
          exact K1 y0 m4 _ _ _ a1 a2 ku
      refine smAt [195, 9999] 60 rfl ?_
      refine ru_isThere _ hq (fun z1 z2 w1 => ?_) (fun w1 => ?_)
      · rw [kT] at w1
        repeat' first
          | refine And.intro ?_ ?_
          | intro _
        all_goals try omega
        · refine t195 0 ?_
          rw [if_neg (by omega)]
          exact Or.inr ⟨⟨z1, z2, w1⟩, rfl⟩
        · refine t195 0 ?_
          rw [if_pos (by omega)]
          exact Or.inr (Or.inr ⟨⟨z1, z2, w1⟩, by omega, rfl⟩)
        · refine t195 5 ?_
          rw [if_pos (by omega)]
          exact Or.inr (Or.inl ⟨⟨z1, z2, w1⟩, by omega, rfl⟩)
      · rw [kT] at w1
        repeat' first
          | refine And.intro ?_ ?_
          | intro _
        all_goals try omega
        refine t195 1 ?_
        by_cases c3 : d (i + 1) = 43
        · rw [if_pos c3]; exact Or.inl ⟨w1, rfl⟩
        · rw [if_neg c3]; exact Or.inl ⟨w1, rfl⟩
set_option maxRecDepth 4000 in
theorem ru_goDay (hp : padR mem n d) (hop : okP n d) (hw : fwF d n = -6) (hk : rC mem S) (ho : ok N S) (h : ∀ m, keepR mem m → m 114 27 = (plF d n S).2.1 → ((plF d n S).1 ≠ 0 → m 114 26 = (plF d n S).1) → ((plF d n S).1 = 0 → wN m (plF d n S).2.2) → Post (some (.inl (if (plF d n S).1 = 0 then -6 else (plF d n S).2.1))) m) : smRun 139 [oR 11 114] mem Post := by
  have on := hop.1
  have hN := ho.1
  have loop : ∀ (f g : Nat) (i e : Int) (T : sS) (m : smM) (x2 x3 x4 : Option smV), i + f = n → f ≤ g → 0 ≤ i → (0 ≤ e ∧ e ≤ i) → fwN d n f i 0 = -6 → plN d n g i e T = plF d n S → keepR mem m → m 114 27 = e → wN m T → okW (N + 12 * e) T → smWp 139 11 [some (oR 11 114), some (.inl i), x2, x3, x4] [] m Post := by
    intro f
    induction f using Nat.strongRecOn with
    | ind f ih =>
      intro g i e T m x2 x3 x4 hf hg i0 he hfw hpl km m1 wt ok1
      have pm : padR m n d := ⟨by rw [km.2 15 (by omega)]; exact hp.1, fun j x y => by rw [km.1 125 j (by omega)]; exact hp.2 j x y⟩
      have p0 := pm.1
      by_cases f0 : f = 0
      · have ei : n ≤ i := by omega
        have ep : plN d n g i e T = (0, e, T) := by
          cases g with
          | zero => rfl
          | succ g => simp only [plN]; rw [if_pos ei]
        rw [ep] at hpl
        have q := h m km (by rw [m1, ← hpl]) (fun z => by rw [← hpl] at z; exact absurd rfl z) (fun _ => by rw [← hpl]; exact wt)
        rw [← hpl, if_pos rfl] at q
        refine smAt [19, 239, 9999] 60 rfl ?_
        repeat' first
          | refine And.intro ?_ ?_
          | intro _
        all_goals try omega
        refine smAt [9999] 60 rfl ?_
        exact q
      · obtain ⟨wf, f', hf', lt', hfw'⟩ := ev_wf i0 on.1 hf f0 hfw
        have eL : evL d i = 1 ∨ evL d i = 2 ∨ evL d i = 5 := by
          unfold evL
          repeat' split
          all_goals omega
        cases g with
        | zero => omega
        | succ g =>
        have ey := evY_in (d := d) (S := T) (i := i)
        simp only [plN] at hpl
        rw [if_neg (by omega)] at hpl
        refine smAt [19, 239, 9999] 60 rfl ?_
        repeat' first
          | refine And.intro ?_ ?_
          | intro _
        all_goals try omega
        refine smAt [24, 9999] 60 rfl ?_
        have a1 : smU m 114 26 0 114 26 = 0 := smU_s
        have a2 : smU m 114 26 0 114 27 = e := by rw [smU_d (by decide)]; exact m1
        have wt4 : wN (smU m 114 26 0) T := wt
        have pm4 : padR (smU m 114 26 0) n d := pm
        have km4 : keepR mem (smU m 114 26 0) := keepR_tr km (kU_keep (fun k j z1 z2 => smU_o (by omega)))
        show smWp 139 24 [some (oR 11 114), some (.inl i), x2, x3, x4] [] (smU m 114 26 0) Post
        generalize smU m 114 26 0 = m4 at *
        refine gd_24 i x2 x3 x4 ⟨i0, by omega⟩ pm4 hop wf wt4 ok1 (by omega) a1 (fun y m5 y2 y3 y4 g1 g2 g3 g4 => ?_) (fun y m5 y2 y3 y4 g2 g3 g4 => ?_)
        · rw [if_pos y] at hpl
          refine smAt [11, 221, 226, 9999] 60 rfl ?_
          repeat' first
            | refine And.intro ?_ ?_
            | intro _
          all_goals try omega
          refine smAt [11, 9999] 60 rfl ?_
          refine ih f' lt' g (i + evL d i) (e + 1) (evS d T i) _ _ _ _ hf' (by omega) (by omega) (by omega) hfw' hpl (keepR_tr km4 (kU_keep (kU_tr g4 (fun k j z1 z2 => smU_o (by omega))))) ?_ ?_ ?_
          · rw [smU_s, g3, a2]
          · exact g1
          · have := evS_ok ok1 (by omega) wf y
            rw [show N + 12 * (e + 1) = N + 12 * e + 12 by omega]
            exact this
        · rw [if_neg y] at hpl
          have q := h m5 (keepR_tr km4 (kU_keep g4)) (by rw [g3, a2, ← hpl]) (fun _ => by rw [g2, ← hpl]) (fun z => by rw [← hpl] at z; exact absurd z y)
          rw [← hpl, if_neg y] at q
          have e27 : m5 114 27 = e := g3.trans a2
          rw [← e27] at q
          refine smAt [11, 221, 226, 9999] 60 rfl ?_
          repeat' first
            | refine And.intro ?_ ?_
            | intro _
          all_goals try omega
          refine smAt [9999] 60 rfl ?_
          exact q
  refine smGo [11, 9999] 60 rfl ?_
  refine ru_asNowS hk ho (fun m1 w1 c1 k1 => ?_)
  refine loop n.toNat n.toNat 0 0 S (smU m1 114 27 0) none none none (by omega) (by omega) (by omega) (by omega) hw rfl (keepR_tr k1 (kU_keep (fun k j z1 z2 => smU_o (by omega)))) smU_s w1 ?_
  rw [show N + 12 * 0 = N by omega]
  exact ho.2.1
end
