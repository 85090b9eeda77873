/-! the law's loop, and its start -/
theorem jI_mono {N M : Int} {mem : smM} (h1 : N ≤ M) (h2 : M ≤ 1000000) (h : jI N mem) : jI M mem := by
  obtain ⟨S, S1, S2, n, d, a1, a2, a3, a4, a5, a6, a7, a8, a9, a10⟩ := h
  exact ⟨S, S1, S2, n, d, ok_mono ⟨h1, h2⟩ a1, a2, a3, a4, a5, a6, a7, a8, fun q => ⟨ok_mono ⟨h1, h2⟩ (a9 q).1, (a9 q).2⟩, fun q => ⟨ok_mono ⟨h1, h2⟩ (a10 q).1, (a10 q).2⟩⟩
section LWL
variable {X : lwX} {L : Nat} {xs : Nat → Int32}
set_option maxHeartbeats 2000000 in
theorem lw_loop (C : lwCx X L xs) : ∀ (f : Nat) (i N : Int) (mem : smM), 0 ≤ i → i ≤ 520 → L + 8 ≤ i + 8 * f → N + 1000 * f ≤ 900000 → jI N mem → lwW X 18 i [] mem := by
  intro f
  induction f with
  | zero =>
    intro i N mem h0 h5 hf hN hj
    obtain ⟨p, l, e, s, m, below, meth, co, b, E⟩ := X
    obtain ⟨⟨hx, hb, hr, hml, hown, hts, hX, hbl, hlk, hgv⟩, hL, hK, hinj, hE⟩ := C
    intro H locs ls hP hS hl
    refine lv_iload_n (k := 3) hx hb (by decide +kernel) rfl (lv_at hl 0 rfl) ?_
    refine lv_aload_n (k := 0) hx hb (by decide +kernel) rfl (lv_at hl 1 rfl) ?_
    refine va_slen hx hb hX hbl (lw_notA hE hbl) hS (by decide +kernel) ?_
    refine lv_bipush (n := 8) (v := Int32.ofInt 8) hx hb (by decide +kernel) rfl ?_
    refine lv_isub hx hb (by decide +kernel) ?_
    rw [← Int32.ofInt_eq_ofNat, ← Int32.ofInt_sub]
    refine lv_icmp_gt (off := 1230) (tgt := 1254) hx hb (by decide +kernel) (by decide) (fun _ => ?_) (fun c => ?_)
    · refine lv_iconst (n := 1) (v := 1) hx hb (by decide +kernel) rfl ?_
      refine va_forget (fun q hq => ?_) ?_
      · rcases hS.2.2 q hq with ⟨k, hk, h1⟩ | h1
        · rw [h1]; exact hE k hk
        · exact h1
      exact lw_ret hx hb hr hlk (by decide +kernel)
    · exact absurd ((sm_lt ⟨by omega, by omega⟩ ⟨by omega, by omega⟩).mpr (by omega)) c
  | succ f ih =>
    intro i N mem h0 h5 hf hN hj
    have kk : i + 8 ≤ L → ∀ m2, jI (N + 1000) m2 → lwW X 1248 i [] m2 := by
      intro hi m2 hj2
      have hnext := ih (i + 8) (N + 1000) m2 (by omega) (by have := C.2.1; omega) (by omega) (by omega) hj2
      clear ih
      obtain ⟨p, l, e, s, m, below, meth, co, b, E⟩ := X
      obtain ⟨⟨hx, hb, hr, hml, hown, hts, hX, hbl, hlk, hgv⟩, hL, hK, hinj, hE⟩ := C
      intro H locs ls hP hS hl
      refine lv_iinc (n := 8) (v := Int32.ofInt (i + 8)) (lv' := [(3, .int (Int32.ofInt (i + 8))), (0, .ref b), (1, .ref (E.2.2 0)), (2, .ref (E.2.2 114))]) hx hb (by decide +kernel) hl (k := 0) rfl (by rw [← Int32.ofInt_add]) (by decide) rfl (fun ls hl => ?_)
      refine lv_goto (off := -1233) (tgt := 18) hx hb (by decide +kernel) (by decide) ?_
      exact hnext H locs ls hP hS hl
    have hall := fun (hi : i + 8 ≤ L) => lc_all C ⟨h0, hi⟩ (by omega) hj (kk hi)
    have hskip : i + 8 ≤ L → lwW X 1248 i [] mem := fun hi => by
      refine kk hi mem ?_
      exact jI_mono (by omega) (by omega) hj
    clear ih kk
    obtain ⟨p, l, e, s, m, below, meth, co, b, E⟩ := X
    obtain ⟨⟨hx, hb, hr, hml, hown, hts, hX, hbl, hlk, hgv⟩, hL, hK, hinj, hE⟩ := C
    intro H locs ls hP hS hl
    refine lv_iload_n (k := 3) hx hb (by decide +kernel) rfl (lv_at hl 0 rfl) ?_
    refine lv_aload_n (k := 0) hx hb (by decide +kernel) rfl (lv_at hl 1 rfl) ?_
    refine va_slen hx hb hX hbl (lw_notA hE hbl) hS (by decide +kernel) ?_
    refine lv_bipush (n := 8) (v := Int32.ofInt 8) hx hb (by decide +kernel) rfl ?_
    refine lv_isub hx hb (by decide +kernel) ?_
    rw [← Int32.ofInt_eq_ofNat, ← Int32.ofInt_sub]
    refine lv_icmp_gt (off := 1230) (tgt := 1254) hx hb (by decide +kernel) (by decide) (fun _ => ?_) (fun c => ?_)
    · refine lv_iconst (n := 1) (v := 1) hx hb (by decide +kernel) rfl ?_
      refine va_forget (fun q hq => ?_) ?_
      · rcases hS.2.2 q hq with ⟨k, hk, h1⟩ | h1
        · rw [h1]; exact hE k hk
        · exact h1
      exact lw_ret hx hb hr hlk (by decide +kernel)
    · have hi : i + 8 ≤ L := by
        have c1 : ¬ ((L : Int) - 8 < i) := fun h => c ((sm_lt ⟨by omega, by omega⟩ ⟨by omega, by omega⟩).mpr h)
        omega
      have hall := hall hi
      have hskip := hskip hi
      obtain ⟨g1, g2⟩ := sm_idx (i := i) (n := L) (by omega) (by omega) (by omega)
      refine lv_aload_n (k := 0) hx hb (by decide +kernel) rfl (lv_at hl 1 rfl) ?_
      refine lv_iload_n (k := 3) hx hb (by decide +kernel) rfl (lv_at hl 0 rfl) ?_
      refine va_sld hx hb hX hbl (lw_notA hE hbl) hS g1 (by decide +kernel) ?_
      refine lv_bipush (n := 63) (v := 63) hx hb (by decide +kernel) rfl ?_
      refine lv_iand hx hb (by decide +kernel) ?_
      generalize xs (Int32.ofInt i).toNatClampNeg &&& 63 = y
      have hd : decode code 33 = .ok (.tableswitch 1215 0 32 lwO, 147) := by decide +kernel
      by_cases hy : y.toInt < 0 ∨ 32 < y.toInt
      · exact lv_tableOut (tgt := 1248) hx hb hd hy (by decide) (hskip H locs ls hP hS hl)
      · obtain ⟨t, ht, hw⟩ := hall y.toInt.toNat (by omega)
        exact lv_tableIn (tgt := t) hx hb hd (by omega) (by omega) (by rw [Int.sub_zero]; exact ht) (by omega) (hw H locs ls hP hS hl)
end LWL
