/-! the world of the two new objects -/
def lwM0 : smM := fun k j => if j = 0 ∧ (smSh[k]? = some (.inl 9) ∨ smSh[k]? = some (.inl 6) ∨ smSh[k]? = some (.inl 11)) then 8 else 0
theorem scW_get (cI cZ : ClassId) : ∀ (sh : List smT) (ads : List Nat) (k : Nat), sh.length = ads.length → (scW cI cZ sh ads)[k]? = (sh[k]?).map (fun t => (ads.getD k 0, scCe cI cZ (ads.drop (k + 1)) t))
  | [], [], k, _ => by simp [scW]
  | [], _ :: _, k, h => by simp at h
  | _ :: _, [], k, h => by simp at h
  | t :: r, a :: as, 0, h => by simp [scW]
  | t :: r, a :: as, k + 1, h => by
    show (scW cI cZ r as)[k]? = _
    rw [scW_get cI cZ r as k (by simpa using h)]
    simp
/-- where a cell stands among those that the constructors make, one behind another -/
def pmK (k : Nat) : Nat := if k < 16 then k else if k < 42 then k + 1 else if k < 68 then k + 2 else if k < 93 then k + 3 else if k < 136 then k + 4 else if k = 1010 then 16 else if k = 1036 then 43 else if k = 1062 then 70 else 96
def lwAd (ads : List Nat) (k : Nat) : Nat := ads.getD (pmK k) 0
def lwE1 (i : Nat) (e e' : Nat ⊕ (smT × Nat)) : Bool := match e, e' with
  | .inl n, .inl _ => !(n == 2)
  | .inl n, .inr q => (n == 2) && Nat.ble 1 q.2 && (pmK (i + 1000) == pmK i + q.2) && Nat.blt (pmK i + q.2) 140
  | .inr p, .inr q => Nat.ble 1 q.2 && (pmK (i + p.2) == pmK i + q.2) && Nat.blt (pmK i + q.2) 140
  | .inr _, .inl _ => false
def lwEB : Bool := (List.range 136).all fun i => decide (scS0[pmK i]? = smSh[i]?) && match smSh[i]? with
  | some (.inl c) => decide ((scLay c).length = (smLay c).length) && (List.range (smLay c).length).all (fun j => match (smLay c)[j]?, (scLay c)[j]? with
    | some e, some e' => lwE1 i e e'
    | _, _ => false)
  | _ => true
theorem lwEB_ok : lwEB = true := by decide +kernel
theorem scS0_len : scS0.length = 140 := by decide +kernel
theorem lw_e1 {i : Nat} (hi : i < 136) : scS0[pmK i]? = smSh[i]? := by
  have h := List.all_eq_true.mp lwEB_ok i (List.mem_range.mpr hi)
  rw [Bool.and_eq_true] at h
  exact of_decide_eq_true h.1
theorem lw_e2 {i c : Nat} (hi : i < 136) (hc : smSh[i]? = some (.inl c)) : (scLay c).length = (smLay c).length ∧ ∀ (j : Nat) (e e' : Nat ⊕ (smT × Nat)), (smLay c)[j]? = some e → (scLay c)[j]? = some e' → lwE1 i e e' = true := by
  have h := List.all_eq_true.mp lwEB_ok i (List.mem_range.mpr hi)
  rw [Bool.and_eq_true] at h
  have h2 := h.2
  rw [hc] at h2
  simp only [Bool.and_eq_true] at h2
  refine ⟨of_decide_eq_true h2.1, fun j e e' h3 h4 => ?_⟩
  have h5 := List.all_eq_true.mp h2.2 j (List.mem_range.mpr (List.getElem?_eq_some_iff.mp h3).1)
  rw [h3, h4] at h5
  exact h5
theorem lw_ref {ads : List Nat} {a n k : Nat} (h : ads.length = 140) (h1 : 1 ≤ n) (h2 : k = a + n) (h3 : a + n < 140) : (match (ads.drop (a + 1))[n - 1]? with
    | some a => Value.ref a
    | none => Value.null) = Value.ref (ads.getD k 0) := by
  subst h2
  rw [List.getElem?_drop, show a + 1 + (n - 1) = a + n by omega]
  have h4 : a + n < ads.length := by omega
  rw [List.getElem?_eq_getElem h4]
  simp [List.getD, List.getElem?_eq_getElem h4]
theorem lw_worldA {D : va_G} {cI cZ : ClassId} {ads : List Nat} (h : ads.length = 140) {i : Nat} (hi : i < 136) : (smWs (D, (cI, cZ), lwAd ads) lwM0)[i]? = (scW cI cZ scS0 ads)[pmK i]? := by
  rw [scW_get cI cZ scS0 ads _ (by rw [scS0_len, h]), smWs_lo _ _ hi, lw_e1 hi]
  cases ht : smSh[i]? with
  | none => rfl
  | some t =>
    simp only [Option.map_some]
    congr 2
    rcases t with c | ⟨b, n⟩
    · obtain ⟨hlen, hq⟩ := lw_e2 hi ht
      simp only [scCe, smCe]
      congr 2
      apply List.ext_getElem?
      intro j
      rw [scF_get, smFv_get]
      cases hj : (smLay c)[j]? with
      | none =>
        have hj2 : (scLay c)[j]? = none := by
          rw [List.getElem?_eq_none_iff] at hj ⊢
          omega
        rw [hj2]
        rfl
      | some e =>
        have hl : j < (scLay c).length := by
          rw [hlen]
          exact (List.getElem?_eq_some_iff.mp hj).1
        have hj2 : (scLay c)[j]? = some (scLay c)[j] := List.getElem?_eq_getElem hl
        have hb := hq j e _ hj hj2
        rw [hj2]
        generalize (scLay c)[j] = e' at hb
        simp only [Option.map_some, Nat.zero_add]
        congr 1
        rcases e with m | p
        · rcases e' with m' | q
          · have hm : (m == 2) = false := by
              simp only [lwE1, Bool.not_eq_true'] at hb
              exact hb
            have hv : scV c = if smSh[i]? = some (.inl 9) ∨ smSh[i]? = some (.inl 6) ∨ smSh[i]? = some (.inl 11) then 8 else 0 := by
              rw [ht]
              simp only [scV, Option.some.injEq, Sum.inl.injEq]
            simp only [scF1, smF1, smFi, hm, cond_false, hv, lwM0]
            by_cases h0 : j = 0
            · subst h0
              by_cases hs : smSh[i]? = some (.inl 9) ∨ smSh[i]? = some (.inl 6) ∨ smSh[i]? = some (.inl 11)
              · simp [hs]
              · simp [hs]
            · have : ¬ ((j : Nat) : Int) = 0 := by omega
              simp [h0, this]
          · simp only [lwE1, Bool.and_eq_true, beq_iff_eq, Nat.ble_eq, Nat.blt_eq] at hb
            obtain ⟨⟨⟨b1, b2⟩, b3⟩, b4⟩ := hb
            subst b1
            simp only [scF1, smF1, smFi]
            exact (lw_ref h b2 b3 b4).symm
        · rcases e' with m' | q
          · simp [lwE1] at hb
          · simp only [lwE1, Bool.and_eq_true, beq_iff_eq, Nat.ble_eq, Nat.blt_eq] at hb
            obtain ⟨⟨b2, b3⟩, b4⟩ := hb
            simp only [scF1, smF1]
            exact (lw_ref h b2 b3 b4).symm
    · have h0 : ∀ j : Int, lwM0 i j = 0 := fun j => by
        simp [lwM0, ht]
      cases b <;> simp only [scCe, smCe, h0] <;> rfl
theorem lw_worldB {D : va_G} {cI cZ : ClassId} {ads : List Nat} (h : ads.length = 140) {i k n : Nat} (h1 : smVi[i]? = some k) (h2 : pmK (k + 1000) = n) (h3 : scS0[n]? = some (.inr (false, 12))) : (smWs (D, (cI, cZ), lwAd ads) lwM0)[136 + i]? = (scW cI cZ scS0 ads)[n]? := by
  rw [scW_get cI cZ scS0 ads _ (by rw [scS0_len, h]), smWs_hi _ _ (Nat.le_add_right _ _), Nat.add_sub_cancel_left, h1, h3]
  have h0 : ∀ j : Nat, lwM0 k (100 + (j : Int)) = 0 := fun j => by
    have : ¬ (100 + (j : Int)) = 0 := by omega
    simp [lwM0, this]
  subst h2
  simp only [Option.map_some, smVe, scCe, h0]
  rfl
theorem lw_world {D : va_G} {cI cZ : ClassId} {ads : List Nat} (h : ads.length = 140) {i : Nat} (hi : i < 140) : (smWs (D, (cI, cZ), lwAd ads) lwM0)[i]? = (scW cI cZ scS0 ads)[pmK (smKy i)]? := by
  rcases Nat.lt_or_ge i 136 with h4 | h4
  · rw [smKy, if_pos h4]
    exact lw_worldA h h4
  · rcases (show i = 136 + 0 ∨ i = 136 + 1 ∨ i = 136 + 2 ∨ i = 136 + 3 by omega) with rfl | rfl | rfl | rfl
    · exact lw_worldB h (k := 10) rfl rfl (by decide +kernel)
    · exact lw_worldB h (k := 36) rfl rfl (by decide +kernel)
    · exact lw_worldB h (k := 62) rfl rfl (by decide +kernel)
    · exact lw_worldB h (k := 87) rfl rfl (by decide +kernel)
theorem pmK_inj {i j : Nat} (hi : smDm i) (hj : smDm j) (h : pmK i = pmK j) : i = j := by
  unfold smDm at hi hj
  unfold pmK at h
  repeat' split at h
  all_goals omega
theorem lw_worldP {D : va_G} {cI cZ : ClassId} {ads : List Nat} {H : Heap} (h : ads.length = 140) (hP : va_P D vwCl (scW cI cZ scS0 ads) H) : va_P D vwCl (smWs (D, (cI, cZ), lwAd ads) lwM0) H := fun k q hq => by
  obtain ⟨a1, -⟩ := smWs_inv hq
  rw [lw_world h a1] at hq
  exact hP _ q hq
theorem lw_worldD {D : va_G} {cI cZ : ClassId} {ads : List Nat} {A : Nat → Prop} (h : ads.length = 140) (hD : va_D A (scW cI cZ scS0 ads)) : va_D A (smWs (D, (cI, cZ), lwAd ads) lwM0) := by
  refine ⟨fun i j p q h1 h2 h3 => ?_, fun k q hq => ?_⟩
  · obtain ⟨a1, -⟩ := smWs_inv h1
    obtain ⟨a2, -⟩ := smWs_inv h2
    rw [lw_world h a1] at h1
    rw [lw_world h a2] at h2
    exact smKy_inj a1 a2 (pmK_inj (smKy_dm a1) (smKy_dm a2) (hD.1 _ _ p q h1 h2 h3))
  · obtain ⟨a1, -⟩ := smWs_inv hq
    rw [lw_world h a1] at hq
    exact hD.2 _ q hq
theorem smWs_key {E : smE} {mem : smM} {k : Nat} (h : smDm k) : ∃ (i : Nat) (e : va_E), (smWs E mem)[i]? = some (E.2.2 k, e) ∧ smKy i = k := by
  rcases h with h | h | h | h | h
  · have h1 : smSh[k]? = some smSh[k] := List.getElem?_eq_getElem (by rw [smSh_len]; exact h)
    exact ⟨k, _, smWs_at h1, by rw [smKy, if_pos h]⟩
  · subst h
    exact ⟨136, _, by rw [smWs_hi _ _ (Nat.le_of_ble_eq_true rfl)]; rfl, rfl⟩
  · subst h
    exact ⟨137, _, by rw [smWs_hi _ _ (Nat.le_of_ble_eq_true rfl)]; rfl, rfl⟩
  · subst h
    exact ⟨138, _, by rw [smWs_hi _ _ (Nat.le_of_ble_eq_true rfl)]; rfl, rfl⟩
  · subst h
    exact ⟨139, _, by rw [smWs_hi _ _ (Nat.le_of_ble_eq_true rfl)]; rfl, rfl⟩
def lwS0 : sS := fun a j => if a = 0 ∧ j = 0 then 8 else 0
theorem lw_m0 {k : Nat} {t : smT} (h : smSh[k]? = some t) (ht : t ≠ .inl 9 ∧ t ≠ .inl 6 ∧ t ≠ .inl 11) (j : Int) : lwM0 k j = 0 := by
  simp [lwM0, h, ht.1, ht.2.1, ht.2.2]
theorem lw_m8 {k : Nat} (h : smSh[k]? = some (.inl 9) ∨ smSh[k]? = some (.inl 11)) (j : Int) : lwM0 k j = if j = 0 then 8 else 0 := by
  rcases h with h | h <;> simp [lwM0, h]
theorem lw_zero {k : Nat} (h : (match smSh[k]? with
  | some (.inl c) => !(Nat.beq c 9) && !(Nat.beq c 6) && !(Nat.beq c 11)
  | some (.inr _) => true
  | none => false) = true) (j : Int) : lwM0 k j = 0 := by
  cases ht : smSh[k]? with
  | none => rw [ht] at h; cases h
  | some t =>
    rw [ht] at h
    refine lw_m0 ht ?_ j
    rcases t with c | q
    · simp only [Bool.and_eq_true, Bool.not_eq_true'] at h
      refine ⟨?_, ?_, ?_⟩ <;> (intro e; cases e; simp at h)
    · exact ⟨by simp, by simp, by simp⟩
set_option maxHeartbeats 2000000 in
theorem lw_j0 : jI 9 lwM0 := by
  refine ⟨lwS0, lwS0, lwS0, 0, fun _ => 0, ?_, ?_, ?_, ⟨by decide, fun i h1 h2 => by omega⟩, ⟨lw_zero (by decide +kernel) 0, fun i h1 h2 => by omega⟩, ⟨?_, fun i h1 h2 => by omega⟩, ⟨?_, Or.inl (lw_zero (by decide +kernel) 3)⟩, ⟨?_, Or.inl (lw_zero (by decide +kernel) 3)⟩, fun h => ?_, fun h => ?_⟩
  · refine ⟨by decide, ⟨by decide, by decide, by decide, fun p h1 h2 => ?_, fun q h1 h2 => ?_, fun i h1 h2 => ?_⟩, ⟨by decide, fun i h1 h2 => ?_⟩, by decide, fun i h1 h2 => ?_⟩
    · simp [lwS0]
    · have hb : ¬ smAnd (smShr 0 q) 1 = 1 := by
        rcases (show q = 0 ∨ q = 1 ∨ q = 2 ∨ q = 3 ∨ q = 4 by omega) with rfl | rfl | rfl | rfl | rfl <;> decide
      simp [lwS0, bB, hb]
    · simp only [lwS0] at h2; simp at h2; omega
    · have hb : ¬ smAnd (smShr 0 i) 1 = 1 := by
        rcases (show i = 0 ∨ i = 1 ∨ i = 2 ∨ i = 3 ∨ i = 4 ∨ i = 5 by omega) with rfl | rfl | rfl | rfl | rfl | rfl <;> decide
      simp [lwS0, bB, hb]
    · simp [lwS0]
  · refine ⟨⟨lw_m8 (.inl (by decide +kernel)) 0, lw_m8 (.inl (by decide +kernel)) 4, lw_zero (by decide +kernel) 0, fun p h1 h2 => ⟨lw_zero (by decide +kernel) p, lw_zero (by decide +kernel) p, lw_zero (by decide +kernel) p⟩, fun q h1 h2 => ⟨lw_zero (by decide +kernel) q, lw_zero (by decide +kernel) q, lw_zero (by decide +kernel) q, lw_zero (by decide +kernel) q⟩, fun i h1 h2 => by simp only [lwS0] at h2; simp at h2; omega⟩, ⟨lw_zero (by decide +kernel) 0, fun i h1 h2 => ⟨lw_zero (by decide +kernel) i, lw_zero (by decide +kernel) i, lw_zero (by decide +kernel) i, lw_zero (by decide +kernel) i, lw_zero (by decide +kernel) i, lw_zero (by decide +kernel) i⟩⟩, ⟨lw_zero (by decide +kernel) 0, fun i h1 h2 => ⟨lw_zero (by decide +kernel) i, lw_zero (by decide +kernel) i, lw_zero (by decide +kernel) i⟩⟩⟩
  · refine ⟨⟨lw_m8 (.inr (by decide +kernel)) 0, lw_m8 (.inr (by decide +kernel)) 2, lw_m8 (.inr (by decide +kernel)) 9, fun p h1 h2 => ⟨lw_zero (by decide +kernel) p, lw_zero (by decide +kernel) p, lw_zero (by decide +kernel) p⟩, fun q h1 h2 => ⟨lw_zero (by decide +kernel) q, lw_zero (by decide +kernel) q, lw_zero (by decide +kernel) q, lw_zero (by decide +kernel) q⟩, fun i h1 h2 => ⟨lw_zero (by decide +kernel) _, lw_zero (by decide +kernel) _, lw_zero (by decide +kernel) _, lw_zero (by decide +kernel) _, lw_zero (by decide +kernel) _⟩⟩, ⟨lw_m8 (.inr (by decide +kernel)) 11, fun i h1 h2 => ⟨lw_zero (by decide +kernel) _, lw_zero (by decide +kernel) _, lw_zero (by decide +kernel) _, lw_zero (by decide +kernel) _, lw_zero (by decide +kernel) _, lw_zero (by decide +kernel) _⟩⟩, ⟨lw_m8 (.inr (by decide +kernel)) 13, fun i h1 h2 => ⟨lw_zero (by decide +kernel) _, lw_zero (by decide +kernel) _, lw_zero (by decide +kernel) _⟩⟩⟩
  · exact lw_m8 (.inr (by decide +kernel)) 15
  · rw [lw_zero (k := 27) (by decide +kernel), lw_zero (k := 135) (by decide +kernel)]
  · rw [lw_zero (k := 53) (by decide +kernel), lw_zero (k := 135) (by decide +kernel)]
  · rw [lw_zero (k := 27) (by decide +kernel)] at h; cases h
  · rw [lw_zero (k := 53) (by decide +kernel)] at h; cases h
