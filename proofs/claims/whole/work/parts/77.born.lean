/-! the world of the two new objects -/
def lwM0 : smM := fun k j => if j = 0 ∧ (smSh[k]? = some (.inl 9) ∨ smSh[k]? = some (.inl 6) ∨ smSh[k]? = some (.inl 11)) then 8 else 0
theorem scW_get (cI cZ : ClassId) : ∀ (sh : List smT) (ads : List Nat) (k : Nat), sh.length = ads.length → (scW cI cZ sh ads)[k]? = (sh[k]?).map (fun t => (ads.getD k 0, scCe cI cZ (ads.drop (k + 1)) t))
  | [], [], k, _ => by simp [scW]
  | [], _ :: _, k, h => by simp at h
  | _ :: _, [], k, h => by simp at h
  | t :: r, a :: as, 0, h => by simp [scW]
  | t :: r, a :: as, k + 1, h => by
    show (scW cI cZ r as)[k]? = _
    rw [scW_get cI cZ r as k (by simpa using h)]
    simp
def lwLayB : Bool := (List.range 12).all fun c => (smLay c).all fun e => match e with
  | .inr q => Nat.ble 1 q.2
  | _ => true
theorem lwLayB_ok : lwLayB = true := by decide +kernel
theorem lw_world {D : va_G} {cI cZ : ClassId} {ads : List Nat} (h : ads.length = 136) : scW cI cZ smSh ads = smWs (D, (cI, cZ), fun k => ads.getD k 0) lwM0 := by
  apply List.ext_getElem?
  intro k
  rw [scW_get cI cZ smSh ads k (by rw [smSh_len, h]), smWs_get]
  cases ht : smSh[k]? with
  | none => rfl
  | some t =>
    simp only [Option.map_some]
    congr 2
    rcases t with c | ⟨b, n⟩
    · obtain ⟨hc, hq⟩ := smSh_cls ht
      simp only [scCe, smCe]
      congr 2
      apply List.ext_getElem?
      intro i
      rw [scF_get, smFv_get]
      cases hi : (smLay c)[i]? with
      | none => rfl
      | some e =>
        simp only [Option.map_some, Nat.zero_add]
        congr 1
        rcases e with m | q
        · have hv : scV c = if smSh[k]? = some (.inl 9) ∨ smSh[k]? = some (.inl 6) ∨ smSh[k]? = some (.inl 11) then 8 else 0 := by
            rw [ht]
            simp only [scV, Option.some.injEq, Sum.inl.injEq]
          simp only [scF1, smF1, hv, lwM0]
          by_cases h0 : i = 0
          · subst h0
            by_cases hs : smSh[k]? = some (.inl 9) ∨ smSh[k]? = some (.inl 6) ∨ smSh[k]? = some (.inl 11)
            · simp [hs]
            · simp [hs]
          · have : ¬ ((i : Nat) : Int) = 0 := by omega
            simp [h0, this]
        · have h1 := List.all_eq_true.mp (List.all_eq_true.mp lwLayB_ok c (List.mem_range.mpr hc)) _ (List.mem_of_getElem? hi)
          have h2 : 1 ≤ q.2 := by simpa using h1
          have h3 := smSh_lt (hq i q hi)
          simp only [scF1, smF1]
          rw [List.getElem?_drop, show k + 1 + (q.2 - 1) = k + q.2 by omega]
          have h4 : k + q.2 < ads.length := by omega
          rw [List.getElem?_eq_getElem h4]
          simp [List.getD, List.getElem?_eq_getElem h4]
    · have h0 : ∀ j : Int, lwM0 k j = 0 := fun j => by
        simp [lwM0, ht]
      cases b <;> simp only [scCe, smCe, h0] <;> rfl
def lwS0 : sS := fun a j => if a = 0 ∧ j = 0 then 8 else 0
theorem lw_m0 {k : Nat} {t : smT} (h : smSh[k]? = some t) (ht : t ≠ .inl 9 ∧ t ≠ .inl 6 ∧ t ≠ .inl 11) (j : Int) : lwM0 k j = 0 := by
  simp [lwM0, h, ht.1, ht.2.1, ht.2.2]
theorem lw_m8 {k : Nat} (h : smSh[k]? = some (.inl 9) ∨ smSh[k]? = some (.inl 11)) (j : Int) : lwM0 k j = if j = 0 then 8 else 0 := by
  rcases h with h | h <;> simp [lwM0, h]
theorem lw_zero {k : Nat} (h : (match smSh[k]? with
  | some (.inl c) => !(Nat.beq c 9) && !(Nat.beq c 6) && !(Nat.beq c 11)
  | some (.inr _) => true
  | none => false) = true) (j : Int) : lwM0 k j = 0 := by
  cases ht : smSh[k]? with
  | none => rw [ht] at h; cases h
  | some t =>
    rw [ht] at h
    refine lw_m0 ht ?_ j
    rcases t with c | q
    · simp only [Bool.and_eq_true, Bool.not_eq_true'] at h
      refine ⟨?_, ?_, ?_⟩ <;> (intro e; cases e; simp at h)
    · exact ⟨by simp, by simp, by simp⟩
set_option maxHeartbeats 2000000 in
theorem lw_j0 : jI 9 lwM0 := by
  refine ⟨lwS0, lwS0, lwS0, 0, fun _ => 0, ?_, ?_, ?_, ⟨by decide, fun i h1 h2 => by omega⟩, ⟨lw_zero (by decide +kernel) 0, fun i h1 h2 => by omega⟩, ⟨?_, fun i h1 h2 => by omega⟩, ⟨?_, Or.inl (lw_zero (by decide +kernel) 3)⟩, ⟨?_, Or.inl (lw_zero (by decide +kernel) 3)⟩, fun h => ?_, fun h => ?_⟩
  · refine ⟨by decide, ⟨by decide, by decide, by decide, fun p h1 h2 => ?_, fun q h1 h2 => ?_, fun i h1 h2 => ?_⟩, ⟨by decide, fun i h1 h2 => ?_⟩, by decide, fun i h1 h2 => ?_⟩
    · simp [lwS0]
    · have hb : ¬ smAnd (smShr 0 q) 1 = 1 := by
        rcases (show q = 0 ∨ q = 1 ∨ q = 2 ∨ q = 3 ∨ q = 4 by omega) with rfl | rfl | rfl | rfl | rfl <;> decide
      simp [lwS0, bB, hb]
    · simp only [lwS0] at h2; simp at h2; omega
    · have hb : ¬ smAnd (smShr 0 i) 1 = 1 := by
        rcases (show i = 0 ∨ i = 1 ∨ i = 2 ∨ i = 3 ∨ i = 4 ∨ i = 5 by omega) with rfl | rfl | rfl | rfl | rfl | rfl <;> decide
      simp [lwS0, bB, hb]
    · simp [lwS0]
  · refine ⟨⟨lw_m8 (.inl (by decide +kernel)) 0, lw_m8 (.inl (by decide +kernel)) 4, lw_zero (by decide +kernel) 0, fun p h1 h2 => ⟨lw_zero (by decide +kernel) p, lw_zero (by decide +kernel) p, lw_zero (by decide +kernel) p⟩, fun q h1 h2 => ⟨lw_zero (by decide +kernel) q, lw_zero (by decide +kernel) q, lw_zero (by decide +kernel) q, lw_zero (by decide +kernel) q⟩, fun i h1 h2 => ⟨lw_zero (by decide +kernel) i, lw_zero (by decide +kernel) i, lw_zero (by decide +kernel) i, lw_zero (by decide +kernel) i, lw_zero (by decide +kernel) i⟩⟩, ⟨lw_zero (by decide +kernel) 0, fun i h1 h2 => ⟨lw_zero (by decide +kernel) i, lw_zero (by decide +kernel) i, lw_zero (by decide +kernel) i, lw_zero (by decide +kernel) i, lw_zero (by decide +kernel) i, lw_zero (by decide +kernel) i⟩⟩, ⟨lw_zero (by decide +kernel) 0, fun i h1 h2 => ⟨lw_zero (by decide +kernel) i, lw_zero (by decide +kernel) i, lw_zero (by decide +kernel) i⟩⟩⟩
  · refine ⟨⟨lw_m8 (.inr (by decide +kernel)) 0, lw_m8 (.inr (by decide +kernel)) 2, lw_m8 (.inr (by decide +kernel)) 9, fun p h1 h2 => ⟨lw_zero (by decide +kernel) p, lw_zero (by decide +kernel) p, lw_zero (by decide +kernel) p⟩, fun q h1 h2 => ⟨lw_zero (by decide +kernel) q, lw_zero (by decide +kernel) q, lw_zero (by decide +kernel) q, lw_zero (by decide +kernel) q⟩, fun i h1 h2 => ⟨lw_zero (by decide +kernel) _, lw_zero (by decide +kernel) _, lw_zero (by decide +kernel) _, lw_zero (by decide +kernel) _, lw_zero (by decide +kernel) _⟩⟩, ⟨lw_m8 (.inr (by decide +kernel)) 11, fun i h1 h2 => ⟨lw_zero (by decide +kernel) _, lw_zero (by decide +kernel) _, lw_zero (by decide +kernel) _, lw_zero (by decide +kernel) _, lw_zero (by decide +kernel) _, lw_zero (by decide +kernel) _⟩⟩, ⟨lw_m8 (.inr (by decide +kernel)) 13, fun i h1 h2 => ⟨lw_zero (by decide +kernel) _, lw_zero (by decide +kernel) _, lw_zero (by decide +kernel) _⟩⟩⟩
  · exact lw_m8 (.inr (by decide +kernel)) 15
  · rw [lw_zero (k := 27) (by decide +kernel), lw_zero (k := 135) (by decide +kernel)]
  · rw [lw_zero (k := 53) (by decide +kernel), lw_zero (k := 135) (by decide +kernel)]
  · rw [lw_zero (k := 27) (by decide +kernel)] at h; cases h
  · rw [lw_zero (k := 53) (by decide +kernel)] at h; cases h
