/-! the small machine's steps are the machine's -/
theorem smI1_inv {st : List smV} {f : Int → List smV → Prop} (h : smI1 st f) : ∃ x r, st = .inl x :: r ∧ f x r := by
  rcases st with _ | ⟨v, r⟩
  · exact False.elim h
  · rcases v with x | q
    · exact ⟨x, r, rfl, h⟩
    · exact False.elim h
theorem smI2_inv {st : List smV} {f : Int → Int → List smV → Prop} (h : smI2 st f) : ∃ x y r, st = .inl y :: .inl x :: r ∧ f x y r := by
  rcases st with _ | ⟨v, _ | ⟨w, r⟩⟩
  · exact False.elim h
  · rcases v with x | q <;> exact False.elim h
  · rcases v with y | q
    · rcases w with x | q
      · exact ⟨x, y, r, rfl, h⟩
      · exact False.elim h
    · exact False.elim h
theorem smNth_eq : ∀ {L : List (Option smV)} {i : Nat} {v : smV}, smNth L i = some v → L[i]? = some (some v)
  | [], i, v, h => by cases h
  | x :: r, 0, v, h => by
    have h' : x = some v := h
    rw [h']; rfl
  | x :: r, n + 1, v, h => by
    rw [List.getElem?_cons_succ]
    exact smNth_eq (L := r) h
theorem smLI_inv {L : List (Option smV)} {i : Nat} {f : Int → Prop} (h : smLI L i f) : ∃ x, L[i]? = some (some (.inl x)) ∧ f x := by
  unfold smLI at h
  rcases hL : smNth L i with _ | v
  · rw [hL] at h; exact False.elim h
  · rcases v with x | q
    · rw [hL] at h; exact ⟨x, smNth_eq hL, h⟩
    · rw [hL] at h; exact False.elim h
theorem smLR_inv {L : List (Option smV)} {i : Nat} {f : smT × Nat → Prop} (h : smLR L i f) : ∃ q, L[i]? = some (some (.inr (.inl q))) ∧ f q := by
  unfold smLR at h
  rcases hL : smNth L i with _ | v
  · rw [hL] at h; exact False.elim h
  · rcases v with x | q | z
    · rw [hL] at h; exact False.elim h
    · rw [hL] at h; exact ⟨q, smNth_eq hL, h⟩
    · rw [hL] at h; exact False.elim h
theorem smSet_eq : ∀ {L : List (Option smV)} {i : Nat} {v : smV} {k : List (Option smV) → Prop}, smSet L i v k → k (L.set i (some v))
  | [], i, v, k, h => h
  | x :: r, 0, v, k, h => h
  | x :: r, n + 1, v, k, h => smSet_eq (L := r) (k := fun r' => k (x :: r')) h
theorem smTk_eq : ∀ {n : Nat} {st acc : List smV} {k : List smV → List smV → Prop}, smTk n st acc k → n ≤ st.length ∧ k ((st.take n).reverse ++ acc) (st.drop n)
  | 0, st, acc, k, h => ⟨Nat.zero_le _, h⟩
  | n + 1, [], acc, k, h => False.elim h
  | n + 1, v :: r, acc, k, h => by
    obtain ⟨h1, h2⟩ := smTk_eq (n := n) (st := r) (acc := v :: acc) h
    refine ⟨by simpa using h1, ?_⟩
    simpa using h2
theorem smBack_eq {v : Option smV} {r : List smV} {k : List smV → Prop} (h : smBack v r k) : k (v.toList ++ r) := by
  cases v <;> exact h
theorem smR1_inv {st : List smV} {f : smT × Nat → List smV → Prop} (h : smR1 st f) : ∃ q r, st = .inr (.inl q) :: r ∧ f q r := by
  rcases st with _ | ⟨v, r⟩
  · exact False.elim h
  · rcases v with x | q | z
    · exact False.elim h
    · exact ⟨q, r, rfl, h⟩
    · exact False.elim h
theorem smO1_inv {st : List smV} {c : Nat} {f : Nat → List smV → Prop} (h : smO1 st c f) : ∃ o r, st = .inr (.inl (.inl c, o)) :: r ∧ f o r := by
  rcases st with _ | ⟨v, r⟩
  · exact False.elim h
  · rcases v with x | ⟨t, o⟩ | z
    · exact False.elim h
    · rcases t with c' | z
      · have h' : cond (c' == c) (f o r) False := h
        cases hc : (c' == c) with
        | false => rw [hc] at h'; exact False.elim h'
        | true =>
          rw [hc] at h'
          have := beq_iff_eq.mp hc
          subst this
          exact ⟨o, r, rfl, h'⟩
      · exact False.elim h
    · exact False.elim h
theorem smX1_inv {st : List smV} {z : Bool} {f : Nat → Nat → Int → List smV → Prop} (h : smX1 st z f) : ∃ n o i r, st = .inl i :: .inr (.inl (.inr (z, n), o)) :: r ∧ n < 2000 ∧ f n o i r := by
  rcases st with _ | ⟨v, _ | ⟨w, r⟩⟩
  · exact False.elim h
  · rcases v with x | q <;> exact False.elim h
  · rcases v with i | q
    · rcases w with x | ⟨t, o⟩ | y
      · exact False.elim h
      · rcases t with c | ⟨z', n⟩
        · exact False.elim h
        · have h' : cond (z' == z && decide (n < 2000)) (f n o i r) False := h
          cases hc : (z' == z && decide (n < 2000)) with
          | false => rw [hc] at h'; exact False.elim h'
          | true =>
            rw [hc] at h'
            simp only [Bool.and_eq_true, beq_iff_eq, decide_eq_true_eq] at hc
            obtain ⟨rfl, hn⟩ := hc
            exact ⟨n, o, i, r, rfl, hn, h'⟩
      · exact False.elim h
    · exact False.elim h
theorem smX2_inv {st : List smV} {f : Nat → Nat → Int → List smV → Prop} {g : Nat → Int → List smV → Prop} (h : smX2 st f g) : (∃ n o i r, st = .inl i :: .inr (.inl (.inr (false, n), o)) :: r ∧ n < 2000 ∧ f n o i r) ∨ ∃ o i r, st = .inl i :: .inr (.inr (.inr o)) :: r ∧ g o i r := by
  unfold smX2 at h
  split at h
  · next i o r => exact Or.inr ⟨o, i, r, rfl, h⟩
  · exact Or.inl (smX1_inv h)
theorem smLitL_eq : ∀ {l : List Nat} {m n : Nat} {k : Nat → Prop}, smLitL l m n k → k n
  | x :: r, 0, n, k, h => by
    have h' : cond (x == n) (k x) False := h
    cases hc : (x == n) with
    | false => rw [hc] at h'; exact False.elim h'
    | true =>
      rw [hc] at h'
      rw [← beq_iff_eq.mp hc]
      exact h'
  | x :: r, m + 1, n, k, h => smLitL_eq (l := r) (m := m) h
  | [], _, _, _, h => False.elim h
theorem smLit_eq {t : Bool} {n : Nat} {k : Nat → Prop} (h : smLit t n k) : k n := by
  cases t
  · exact h
  · exact smLitL_eq h
theorem smNthE_eq : ∀ (l : List (Nat ⊕ (smT × Nat))) (b : Nat), smNthE l b = l[b]?
  | [], b => by simp [smNthE]
  | x :: r, 0 => rfl
  | x :: r, n + 1 => by rw [List.getElem?_cons_succ]; exact smNthE_eq r n
theorem smGf_inv {lit : Bool} {a b : Nat} {z : Int} {mem : smM} {o : Nat} {f : smV → Prop} (h : smGf lit a b z mem o f) : ((smLay a)[b]? = some (.inl 2) ∧ f (.inr (.inr (.inr o)))) ∨ (∃ n, (smLay a)[b]? = some (.inl n) ∧ n ≠ 2 ∧ f (.inl (mem o z))) ∨ ∃ q, (smLay a)[b]? = some (.inr q) ∧ f (.inr (.inl (q.1, o + q.2))) := by
  unfold smGf at h
  rw [smNthE_eq] at h
  split at h
  · next hn => exact Or.inl ⟨hn, h⟩
  · next n h2 hn => exact Or.inr (Or.inl ⟨n, hn, fun e => h2 (by rw [e]), h⟩)
  · next t d hq => exact Or.inr (Or.inr ⟨(t, d), hq, smLit_eq h⟩)
  · exact False.elim h
theorem smPf_inv {a b : Nat} {x : Int} {P : Prop} (h : smPf a b x P) : ((smLay a)[b]? = some (.inl 0) ∧ P) ∨ ((smLay a)[b]? = some (.inl 1) ∧ (x = 0 ∨ x = 1) ∧ P) := by
  unfold smPf at h
  rw [smNthE_eq] at h
  split at h
  · next hn => exact Or.inl ⟨hn, h⟩
  · next hn => exact Or.inr ⟨hn, h⟩
  · exact False.elim h
theorem smRi_inv {t : Option FieldType} {x : Int} {P : Prop} (h : smRi t x P) : (t = some .int ∧ P) ∨ (t = some .boolean ∧ (x = 0 ∨ x = 1) ∧ P) := by
  unfold smRi at h
  split at h
  · exact Or.inl ⟨rfl, h⟩
  · exact Or.inr ⟨rfl, h⟩
  · exact False.elim h
theorem smRl_inv {t : Option FieldType} {P : Prop} (h : smRl t P) : t = some .long ∧ P := by
  unfold smRl at h
  split at h
  · exact ⟨rfl, h⟩
  · exact False.elim h
theorem smRa_inv {t : Option FieldType} {P : Prop} (h : smRa t P) : ∃ z, t = some (.object z) ∧ P := by
  unfold smRa at h
  split at h
  · next z => exact ⟨z, rfl, h⟩
  · exact False.elim h
theorem smRv_inv {t : Option FieldType} {P : Prop} (h : smRv t P) : t = none ∧ P := by
  unfold smRv at h
  split at h
  · exact ⟨rfl, h⟩
  · exact False.elim h
theorem smS1_inv {st : List smV} {f : smV → Prop} (h : smS1 st f) : ∃ v, st = [v] ∧ f v := by
  unfold smS1 at h
  split at h
  · next v => exact ⟨v, rfl, h⟩
  · exact False.elim h
theorem smCond_inv {b : Bool} {P : Prop} (h : cond b P False) : b = true ∧ P := by
  cases b
  · exact False.elim h
  · exact ⟨rfl, h⟩
theorem smGet_inv : ∀ {l : List smI} {pc : Nat} {e : smI}, smGet l pc = some e → e ∈ l ∧ e.1 = pc
  | [], pc, e, h => by cases h
  | a :: r, pc, e, h => by
    simp only [smGet] at h
    cases hc : (a.1 == pc) with
    | true =>
      rw [hc] at h
      cases h
      exact ⟨List.mem_cons_self, beq_iff_eq.mp hc⟩
    | false =>
      rw [hc] at h
      obtain ⟨h1, h2⟩ := smGet_inv h
      exact ⟨List.mem_cons_of_mem _ h1, h2⟩
theorem smOKs_1 {v : smV} {r : List smV} (hv : smOK v) (h : ∀ w ∈ r, smOK w) : ∀ w ∈ v :: r, smOK w := List.forall_mem_cons.mpr ⟨hv, h⟩
theorem smOKs_t {v : smV} {r : List smV} (h : ∀ w ∈ v :: r, smOK w) : ∀ w ∈ r, smOK w := (List.forall_mem_cons.mp h).2
theorem smPc_blind (E : smE) (args : List smV) (mem : smM) (sz : Nat) : FrameBlind (smPc E args mem sz) := by
  intro a U g mk q
  obtain ⟨q0, q1, q2, q3, q4⟩ := q
  exact ⟨q0, q1, q2, va_K.moved (u := U) (U := U.calling g mk a) (Vm.Alike.refl U.vm) q3, fun w hw => va_Nw.same rfl rfl (q4 w hw)⟩
section SMC
variable {p : Program} {l : Launch} {e : Env} {R : Room} {s : State} {m : MethodId} {args : Array Value} {below : List Frame} {meth : Method} {c : Code} {H : Heap} {locs : List Loc} {Q : State → Prop}
theorem sm_cont {E : smE} {sz : Nat} {Po : Option smV → smM → Prop} {a : Array Value} {pc : Nat} {ls : Array Slot} {st0 rest : List Value} (hr : va_Run p l e R s m args below meth c H locs 0 0 0 0 (F0 m pc ls st0) rest (smQc E sz Po a) (smA E sz)) (hS : va_S (smA E s.heap.size) s.heap H locs) (hsz : H.size = sz)
    (kk : ∀ (v : Option smV) (mem' : smM) (H1 : Heap) (locs1 : List Loc), Po v mem' → (∀ w, v = some w → smOK w) → va_P E.1 vwCl (smWs E mem') H1 → va_S (smA E s.heap.size) s.heap H1 locs1 → W p l e R s m args below meth c H1 locs1 0 0 Q (F0 m (pc + 3) ls ((v.map (smCv E.2.2)).toList ++ rest))) : W p l e R s m args below meth c H locs 0 0 Q (F0 m pc ls st0) := by
  intro T hT X
  obtain ⟨v, st₀, t, T', L, h0, X', hL, e1, e2, ⟨⟨w, mem', hv, hpo, hok, hp1⟩, hz, hk⟩, st⟩ := hr T hT X
  cases hv
  rw [h0] at hz hk
  have hle : s.heap.size ≤ sz := by rw [← hsz]; exact hS.1
  obtain ⟨t2, a1, b1⟩ := kk w mem' T'.heap (locs ++ L) hpo hok (by rw [e1]; exact hp1)
    ⟨Nat.le_trans hS.1 (by rw [e1]; exact hz), fun q h1 h2 => by
      rw [e1, hk q (Nat.lt_of_lt_of_le h1 hS.1) (fun z => h2 (smA_mono hle z))]
      exact hS.2.1 q h1 h2, fun q hq => by
      rcases List.mem_append.mp hq with h | h
      · exact hS.2.2 q h
      · exact smA_mono hle (hL q h)⟩ T' rfl X'
  exact ⟨t2, st t2 a1, b1⟩
end SMC
/-- a method's entry -/
theorem smRun_of {k : Nat} {args : List smV} {mem : smM} {Post : Option smV → smM → Prop} (hk : k < 178) (hn : args.length ≤ smMx k) (h : smWp k 0 (args.map some ++ List.replicate (smMx k - args.length) none) [] mem Post) : smRun k args mem Post := by
  refine eq_true ?_
  have h : smWpB k 0 (args.map some ++ List.replicate (smMx k - args.length) none) [] mem Post := of_eq_true h
  intro hargs l E sz hE
  have hok := smMd_ok hk
  refine Met.ofW (cc := smCd k) (maxL := smMx k) (ret := smRt k) hok.1 rfl ?_
  intro p e s m a below meth c s₁ B hml hv
  obtain ⟨rfl, hsz, hP, hKs⟩ := hv
  subst hsz
  have hts := atoms_spec (ws := smWd k) B.pre
  have hown0 : s.vm.findClass (smNm k).cls = some m.cls := findClass_of_methodNamed B.named
  have hown : s.vm.findClass (smRn (smOwn k)) = some m.cls := by
    rw [← show (smNm k).cls = smRn (smOwn k) from hok.2.1]
    exact hown0
  have hcat : ∀ (vs : List smV), (∀ v ∈ vs, smOK v ∧ smC1 v = true) → lg_sl (vs.map (smCv E.2.2)) = (vs.map (smCv E.2.2)).map Slot.val := by
    intro vs
    induction vs with
    | nil => intro _; rfl
    | cons v r ih =>
      intro hv
      have h1 := smCv_c1 E.2.2 (hv v List.mem_cons_self).2
      have h2 := ih (fun w hw => hv w (List.mem_cons_of_mem _ hw))
      simp only [lg_sl] at h2 ⊢
      simp only [List.map_cons, List.flatMap_cons, h1, h2]
      rfl
  have hlen : (lg_sl (args.map (smCv E.2.2))).length ≤ smMx k := by
    rw [hcat args hargs]
    simpa using hn
  have hl := lv_entry (args.map (smCv E.2.2)) (n := smMx k) hlen
  rw [lg_entry_eq]
  refine h p l e s m _ below meth c E s.heap [] _ ⟨B.exec, B.bytes, hml, B.returns, B.notSynchronized, hown, fun w hw => hts w (List.mem_cons_of_mem _ hw), hKs, hE⟩ hP va_S.rf ?_ (fun v hv => absurd hv List.not_mem_nil)
  refine ⟨hl.1, hl.2.1, fun i v hi => ?_⟩
  have hlt : i < args.length := by
    rcases Nat.lt_or_ge i args.length with q | q
    · exact q
    · rw [List.getElem?_append_right (by simpa using q)] at hi
      obtain ⟨_, h9⟩ := List.getElem?_eq_some_iff.mp hi
      simp at h9
  rw [List.getElem?_append_left (by simpa using hlt)] at hi
  rw [List.getElem?_map] at hi
  obtain ⟨w, hw, hw2⟩ := Option.map_eq_some_iff.mp hi
  cases hw2
  refine ⟨?_, hargs v (List.mem_of_getElem? hw)⟩
  rw [hcat args hargs, List.getElem?_toArray, List.getElem?_append_left (by simpa using hlt)]
  rw [List.getElem?_map, List.getElem?_map, hw]
  rfl
theorem smFv_set {ad : Nat → Nat} {mem : smM} {k b n : Nat} {x : Int} {l : List (Nat ⊕ (smT × Nat))} (hn : n ≠ 2) (h : l[b]? = some (.inl n)) : smFv ad (smU mem k (b : Int) x) k l 0 = (smFv ad mem k l 0).set b (.int (Int32.ofInt x)) := by
  apply List.ext_getElem?
  intro i
  by_cases hi : i = b
  · subst hi
    have hl : i < (smFv ad mem k l 0).length := by
      rw [smFv_len]
      exact (List.getElem?_eq_some_iff.mp h).1
    rw [smFv_get, h, List.getElem?_set_self hl]
    have hn' : (n == 2) = false := by simpa using hn
    simp [smF1, smFi, smU, hn']
  · rw [List.getElem?_set_ne (Ne.symm hi), smFv_get, smFv_get]
    cases l[i]? with
    | none => rfl
    | some e =>
      rcases e with z | q
      · have : ((0 + i : Nat) : Int) ≠ (b : Int) := by omega
        simp only [Option.map_some, smF1, smFi, smU, this, and_false, if_false]
      · rfl
theorem smVe_set {E : smE} {mem : smM} {o : Nat} {i x : Int} (h0 : 0 ≤ i) : smVe E (smU mem o (100 + i) x) o = .inl (E.2.1.1, 12, .inl (upd (fun j => Int32.ofInt (mem o (100 + (j : Int)))) i.toNat (Int32.ofInt x))) := by
  have hf : (fun j : Nat => Int32.ofInt (smU mem o (100 + i) x o (100 + (j : Int)))) = upd (fun j => Int32.ofInt (mem o (100 + (j : Int)))) i.toNat (Int32.ofInt x) := by
    funext j
    simp only [smU, upd, true_and]
    by_cases hj : j = i.toNat
    · have h3 : (100 + (j : Int)) = 100 + i := by omega
      rw [if_pos h3, if_pos hj]
    · have h2 : ¬ (100 + (j : Int)) = 100 + i := by omega
      rw [if_neg h2, if_neg hj]
  simp only [smVe, hf]
theorem smVe_cpy {E : smE} {mem : smM} {k0 k1 : Nat} {n : Int} (h0 : 0 ≤ n) : smVe E (smCv2 mem k0 k1 n) k1 = .inl (E.2.1.1, 12, .inl (va_cpy (fun j => Int32.ofInt (mem k0 (100 + (j : Int)))) (fun j => Int32.ofInt (mem k1 (100 + (j : Int)))) 0 0 n.toNat)) := by
  have hf : (fun j : Nat => Int32.ofInt (smCv2 mem k0 k1 n k1 (100 + (j : Int)))) = va_cpy (fun j => Int32.ofInt (mem k0 (100 + (j : Int)))) (fun j => Int32.ofInt (mem k1 (100 + (j : Int)))) 0 0 n.toNat := by
    funext j
    simp only [smCv2, va_cpy, true_and, Nat.zero_le, Nat.zero_add, Nat.sub_zero]
    by_cases hj : j < n.toNat
    · have : (100 : Int) ≤ 100 + (j : Int) ∧ 100 + (j : Int) < 100 + n := by omega
      rw [if_pos this, if_pos hj]
    · have h2 : ¬ ((100 : Int) ≤ 100 + (j : Int) ∧ 100 + (j : Int) < 100 + n) := by omega
      rw [if_neg h2, if_neg hj]
  simp only [smVe, hf]
theorem smRow_set {E : smE} {mem : smM} {o n : Nat} {z : Bool} {i x : Int} (h0 : 0 ≤ i) (y : Int32) (hy : y = Int32.ofInt x) : smCe E (smU mem o i x) o (.inr (z, n)) = .inl (cond z E.2.1.2 E.2.1.1, n, .inl (upd (fun j => Int32.ofInt (mem o (j : Int))) i.toNat y)) := by
  subst hy
  have hf : (fun j : Nat => Int32.ofInt (smU mem o i x o (j : Int))) = upd (fun j => Int32.ofInt (mem o (j : Int))) i.toNat (Int32.ofInt x) := by
    funext j
    simp only [smU, upd, true_and]
    by_cases hj : j = i.toNat
    · have h3 : (j : Int) = i := by omega
      rw [if_pos h3, if_pos hj]
    · have h2 : ¬ (j : Int) = i := by omega
      rw [if_neg h2, if_neg hj]
  cases z
  · simp only [smCe, hf]; rfl
  · simp only [smCe, hf]; rfl
theorem smCp_row {E : smE} {mem : smM} {k0 k1 n1 : Nat} {n : Int} (h0 : 0 ≤ n) : smCe E (smCp mem k0 k1 n) k1 (.inr (false, n1)) = .inl (E.2.1.1, n1, .inl (va_cpy (fun j => Int32.ofInt (mem k0 (j : Int))) (fun j => Int32.ofInt (mem k1 (j : Int))) 0 0 n.toNat)) := by
  have hf : (fun j : Nat => Int32.ofInt (smCp mem k0 k1 n k1 (j : Int))) = va_cpy (fun j => Int32.ofInt (mem k0 (j : Int))) (fun j => Int32.ofInt (mem k1 (j : Int))) 0 0 n.toNat := by
    funext j
    simp only [smCp, va_cpy, true_and, Nat.zero_le, Nat.zero_add, Nat.sub_zero]
    by_cases hj : j < n.toNat
    · have : (0 : Int) ≤ (j : Int) ∧ (j : Int) < n := by omega
      rw [if_pos this, if_pos hj]
    · have h2 : ¬ ((0 : Int) ≤ (j : Int) ∧ (j : Int) < n) := by omega
      rw [if_neg h2, if_neg hj]
  simp only [smCe, hf]
theorem smSw_at {pc : Nat} {x : Int} {f : Nat → Prop} : ∀ {l : List Int} {v : Int}, smSw pc x f v l → v ≤ x → x < v + l.length → ∃ o, l[(x - v).toNat]? = some o ∧ f ((pc : Int) + o).toNat
  | [], v, _, h1, h2 => by simp at h2; omega
  | o :: r, v, h, h1, h2 => by
    by_cases hx : x = v
    · refine ⟨o, ?_, h.1 hx⟩
      have : (x - v).toNat = 0 := by omega
      rw [this]; rfl
    · obtain ⟨o2, h3, h4⟩ := smSw_at h.2 (by omega) (by simp at h2; omega)
      refine ⟨o2, ?_, h4⟩
      have : (x - v).toNat = (x - (v + 1)).toNat + 1 := by omega
      rw [this, List.getElem?_cons_succ]
      exact h3
theorem smLk_at {pc : Nat} {x df : Int} {f : Nat → Prop} : ∀ {l : List (Int × Int)}, smLk pc x f df l → f ((pc : Int) + Op.lookupswitch.offset l df x).toNat
  | [], h => h
  | q :: r, h => by
    by_cases hx : x = q.1
    · have h1 := h.1 hx
      have e : Op.lookupswitch.offset (q :: r) df x = q.2 := by
        obtain ⟨a, o⟩ := q
        rw [Op.lookupswitch.offset_cons]
        exact if_pos hx.symm
      rw [e]; exact h1
    · have h1 := smLk_at (h.2 hx)
      have e : Op.lookupswitch.offset (q :: r) df x = Op.lookupswitch.offset r df x := by
        obtain ⟨a, o⟩ := q
        rw [Op.lookupswitch.offset_cons]
        exact if_neg (fun z => hx z.symm)
      rw [e]; exact h1
theorem smLk_off {df x : Int} {pc : Nat} : ∀ {l : List (Int × Int)}, l.all (fun o => decide (0 ≤ (pc : Int) + o.2)) = true → 0 ≤ (pc : Int) + df → 0 ≤ (pc : Int) + Op.lookupswitch.offset l df x
  | [], _, h => h
  | (a, o) :: r, h1, h => by
    simp only [List.all_cons, Bool.and_eq_true, decide_eq_true_eq] at h1
    rw [Op.lookupswitch.offset_cons]
    split
    · exact h1.1
    · exact smLk_off h1.2 h
