/-! ===== the class: keep, bring, as, same ===== -/
section CL31
variable {d : Nat} {F : Nat → Nat → Nat} {A : Nat → Nat → Int32} {G : Nat → Option Nat} {g : Nat → Int64} {h : jxH} {Q : List Value → jxH → Prop}
theorem va_cpy25 {f f' : Nat → Int32} {j : Nat} (hj : j < 25) : va_cpy f f' 0 0 25 j = f j := by
  unfold va_cpy
  rw [if_pos (by omega)]
  congr 1
  omega
theorem tb_keep_f (hR : jR F A G g h) {s : Int32} (hb : ¬ jbel s 4 = true) (k : ∀ h', jR (jup F 1 11 (F 1 11 + 1)) A G g h' → jD h h' → Q [.int (-1)] h') : jx_Go jxP (d + 1) 114 0 [.ref 1, .int s] [] h Q := by
  simp (disch := omega) only [s114_0, s114_1, Option.some.injEq, exists_eq_left', exists_eq_left, List.cons_append, List.nil_append, List.length_nil, List.length_cons, Nat.reduceAdd, Nat.reduceMul, Nat.reduceSub, Nat.reduceLeDiff, true_and, and_true, ↓reduceIte, not_false_eq_true, not_true_eq_false, nI_add, pk_mul, jn_ltT, jn_ltF, jn_leT, jn_leF, jn_eqT, jn_eqF, jn_lt0, jn_ge0, jn_eq0T, jn_eq0F, jn_in, jn_cl, tb_noSlot]
  rw [if_neg hb]
  simp (disch := omega) only [s114_4, s114_7, s114_8, s114_9, Option.some.injEq, exists_eq_left', exists_eq_left, List.cons_append, List.nil_append, List.length_nil, List.length_cons, Nat.reduceAdd, Nat.reduceMul, Nat.reduceSub, Nat.reduceLeDiff, true_and, and_true, ↓reduceIte, not_false_eq_true, not_true_eq_false, nI_add, pk_mul, jn_ltT, jn_ltF, jn_leT, jn_leF, jn_eqT, jn_eqF, jn_lt0, jn_ge0, jn_eq0T, jn_eq0F, jn_in, jn_cl, jc_of_1 hR]
  exact tb_finding hR (fun h' hR' hD' => by simp only [s114_12, Option.some.injEq, exists_eq_left', exists_eq_left, List.cons_append, List.nil_append, List.length_nil, List.length_cons, Nat.reduceAdd, Nat.reduceMul, Nat.reduceSub, Nat.reduceLeDiff, true_and, and_true, ↓reduceIte, not_false_eq_true, not_true_eq_false, nI_add, pk_mul, jn_ltT, jn_ltF, jn_leT, jn_leF, jn_eqT, jn_eqF, jn_lt0, jn_ge0, jn_eq0T, jn_eq0F, jn_in, jn_cl]; exact k h' hR' hD')
/-- from 35 on: the task is copied into the slot's -/
theorem tb_keep35 (hR : jR F A G g h) (hr : F 2 0 ≤ 5) (hc : F 2 1 ≤ 5) {s o R C : Nat} {f w : Nat → Int32} (hs : s < 4) (eo : G s = some o) (ho : 182 ≤ o) (t : jTk h o (o + 1) (o + 2) R C f w) (k : ∀ h' f' w', (∀ j, j < 25 → f' j = A 3 j ∧ w' j = A 4 j) → jTk h' o (o + 1) (o + 2) (F 2 0) (F 2 1) f' w' → (∀ i, i ≠ o → i ≠ o + 1 → i ≠ o + 2 → h'.2.2 i = h.2.2 i) → h'.1 = h.1 → h'.2.1 = h.2.1 → jR F A G g h' → Q [.int (nI (jkind (A 3) (F 2 0) (F 2 1)))] h') : jx_Go jxP (d + 2) 114 35 [.ref 1, .int (nI s)] [] h Q := by
  have a5 := hR.2.2.2.1
  simp (disch := omega) only [s114_35, s114_36, s114_39, s114_40, s114_41, s114_42, s114_45, Option.some.injEq, exists_eq_left', exists_eq_left, List.cons_append, List.nil_append, List.length_nil, List.length_cons, Nat.reduceAdd, Nat.reduceMul, Nat.reduceSub, Nat.reduceLeDiff, true_and, and_true, ↓reduceIte, not_false_eq_true, not_true_eq_false, nI_add, pk_mul, jn_ltT, jn_ltF, jn_leT, jn_leF, jn_eqT, jn_eqF, jn_lt0, jn_ge0, jn_eq0T, jn_eq0F, jn_in, jn_cl, jf_1_0 hR, jf_1_1 hR, a5, eo, jx_rv, t.1]
  rw [tk_become t hR.tk2 (by omega) (by omega) (by omega) (by omega) (by omega)]
  generalize e1 : jx_wi (jx_wi (jx_uf (jx_uf h o 0 (.int (nI (F 2 0)))) o 1 (.int (nI (F 2 1)))) (o + 1) 25 (va_cpy (A 3) f 0 0 25)) (o + 2) 25 (va_cpy (A 4) w 0 0 25) = h1
  have fr : ∀ i, i ≠ o → i ≠ o + 1 → i ≠ o + 2 → h1.2.2 i = h.2.2 i := fun i n1 n2 n3 => by
    rw [← e1]
    show (jx_w _ _ _).2.2 i = _
    rw [jh_w_ne n3]
    show (jx_w _ _ _).2.2 i = _
    rw [jh_w_ne n2, jh_uf_ne n1, jh_uf_ne n1]
  have hR1 : jR F A G g h1 := hR.eq (fun i hi => fr i (by omega) (by omega) (by omega))
  have t1 : jTk h1 o (o + 1) (o + 2) (F 2 0) (F 2 1) (va_cpy (A 3) f 0 0 25) (va_cpy (A 4) w 0 0 25) := by
    obtain ⟨t1, t2, t3, t4, t5, t6, t7⟩ := t
    rw [← e1]
    refine ⟨?_, ?_, ?_, ?_, ?_, ?_, jh_ai_wi⟩
    · rw [jh_cl_wi_ne (by omega), jh_cl_wi_ne (by omega), jh_cl_uf, jh_cl_uf]; exact t1
    · rw [jh_fl_wi_ne (by omega), jh_fl_wi_ne (by omega), jh_fl_uf_ne (by decide), jh_fl_uf (by rw [t2]; rfl)]
    · rw [jh_fl_wi_ne (by omega), jh_fl_wi_ne (by omega), jh_fl_uf (by rw [jh_fl_uf_ne (by decide), t3]; rfl)]
    · rw [jh_fl_wi_ne (by omega), jh_fl_wi_ne (by omega), jh_fl_uf_ne (by decide), jh_fl_uf_ne (by decide)]; exact t4
    · rw [jh_fl_wi_ne (by omega), jh_fl_wi_ne (by omega), jh_fl_uf_ne (by decide), jh_fl_uf_ne (by decide)]; exact t5
    · rw [jh_ai_wi_ne (by omega), jh_ai_wi]
  simp (disch := omega) only [s114_48, s114_49, s114_52, Option.some.injEq, exists_eq_left', exists_eq_left, List.cons_append, List.nil_append, List.length_nil, List.length_cons, Nat.reduceAdd, Nat.reduceMul, Nat.reduceSub, Nat.reduceLeDiff, true_and, and_true, ↓reduceIte, not_false_eq_true, not_true_eq_false, nI_add, pk_mul, jn_ltT, jn_ltF, jn_leT, jn_leF, jn_eqT, jn_eqF, jn_lt0, jn_ge0, jn_eq0T, jn_eq0F, jn_in, jn_cl, jf_1_0 hR1, jc_of_2 hR1]
  refine tk_findKind hR1.tk2 hr hc ?_
  simp (disch := omega) only [s114_55, Option.some.injEq, exists_eq_left', exists_eq_left, List.cons_append, List.nil_append, List.length_nil, List.length_cons, Nat.reduceAdd, Nat.reduceMul, Nat.reduceSub, Nat.reduceLeDiff, true_and, and_true, ↓reduceIte, not_false_eq_true, not_true_eq_false, nI_add, pk_mul, jn_ltT, jn_ltF, jn_leT, jn_leF, jn_eqT, jn_eqF, jn_lt0, jn_ge0, jn_eq0T, jn_eq0F, jn_in, jn_cl]
  exact k h1 _ _ (fun j hj => ⟨va_cpy25 hj, va_cpy25 hj⟩) t1 fr (by rw [← e1]; rfl) (by rw [← e1]; rfl) hR1
theorem tb_keep_s (hR : jR F A G g h) (hr : F 2 0 ≤ 5) (hc : F 2 1 ≤ 5) {s o R C : Nat} {f w : Nat → Int32} (hs : s < 4) (eo : G s = some o) (ho : 182 ≤ o) (t : jTk h o (o + 1) (o + 2) R C f w) (k : ∀ h' f' w', (∀ j, j < 25 → f' j = A 3 j ∧ w' j = A 4 j) → jTk h' o (o + 1) (o + 2) (F 2 0) (F 2 1) f' w' → (∀ i, i ≠ o → i ≠ o + 1 → i ≠ o + 2 → h'.2.2 i = h.2.2 i) → h'.1 = h.1 → h'.2.1 = h.2.1 → jR F A G g h' → Q [.int (nI (jkind (A 3) (F 2 0) (F 2 1)))] h') : jx_Go jxP (d + 2) 114 0 [.ref 1, .int (nI s)] [] h Q := by
  have a5 := hR.2.2.2.1
  simp (disch := omega) only [s114_0, s114_1, Option.some.injEq, exists_eq_left', exists_eq_left, List.cons_append, List.nil_append, List.length_nil, List.length_cons, Nat.reduceAdd, Nat.reduceMul, Nat.reduceSub, Nat.reduceLeDiff, true_and, and_true, ↓reduceIte, not_false_eq_true, not_true_eq_false, nI_add, pk_mul, jn_ltT, jn_ltF, jn_leT, jn_leF, jn_eqT, jn_eqF, jn_lt0, jn_ge0, jn_eq0T, jn_eq0F, jn_in, jn_cl, tb_noSlot, jbel_n]
  simp (disch := omega) only [s114_4, s114_13, s114_14, s114_17, s114_18, s114_19r, s114_19n, Option.some.injEq, exists_eq_left', exists_eq_left, List.cons_append, List.nil_append, List.length_nil, List.length_cons, Nat.reduceAdd, Nat.reduceMul, Nat.reduceSub, Nat.reduceLeDiff, true_and, and_true, ↓reduceIte, not_false_eq_true, not_true_eq_false, nI_add, pk_mul, jn_ltT, jn_ltF, jn_leT, jn_leF, jn_eqT, jn_eqF, jn_lt0, jn_ge0, jn_eq0T, jn_eq0F, jn_in, jn_cl, jf_1_1 hR, a5, eo, jx_rv]
  exact tb_keep35 hR hr hc hs eo ho t k
theorem tb_keep_n (hR : jR F A G g h) (h182 : 182 ≤ h.1) (hr : F 2 0 ≤ 5) (hc : F 2 1 ≤ 5) {s : Nat} (hs : s < 4) (eo : G s = none) (k : ∀ h' f' w', (∀ j, j < 25 → f' j = A 3 j ∧ w' j = A 4 j) → jTk h' h.1 (h.1 + 1) (h.1 + 2) (F 2 0) (F 2 1) f' w' → (∀ i, i < h.1 → i ≠ 5 → h'.2.2 i = h.2.2 i) → h'.1 = h.1 + 3 → h'.2.1 = h.2.1 + 54 → jR F A (fun i => if i = s then some h.1 else G i) g h' → Q [.int (nI (jkind (A 3) (F 2 0) (F 2 1)))] h') : jx_Go jxP (d + 2) 114 0 [.ref 1, .int (nI s)] [] h Q := by
  have a5 := hR.2.2.2.1
  simp (disch := omega) only [s114_0, s114_1, Option.some.injEq, exists_eq_left', exists_eq_left, List.cons_append, List.nil_append, List.length_nil, List.length_cons, Nat.reduceAdd, Nat.reduceMul, Nat.reduceSub, Nat.reduceLeDiff, true_and, and_true, ↓reduceIte, not_false_eq_true, not_true_eq_false, nI_add, pk_mul, jn_ltT, jn_ltF, jn_leT, jn_leF, jn_eqT, jn_eqF, jn_lt0, jn_ge0, jn_eq0T, jn_eq0F, jn_in, jn_cl, tb_noSlot, jbel_n]
  simp (disch := omega) only [s114_4, s114_13, s114_14, s114_17, s114_18, s114_19r, s114_19n, s114_22, s114_23, s114_26, s114_27, s114_30i, s114_30r, Option.some.injEq, exists_eq_left', exists_eq_left, List.cons_append, List.nil_append, List.length_nil, List.length_cons, Nat.reduceAdd, Nat.reduceMul, Nat.reduceSub, Nat.reduceLeDiff, true_and, and_true, ↓reduceIte, not_false_eq_true, not_true_eq_false, nI_add, pk_mul, jn_ltT, jn_ltF, jn_leT, jn_leF, jn_eqT, jn_eqF, jn_lt0, jn_ge0, jn_eq0T, jn_eq0F, jn_in, jn_cl, jf_1_1 hR, a5, eo, jx_rv]
  have cl : jx_cl (jx_mk h 4 (.inr (10, [.int 0, .int 0, .null, .null]))) h.1 = some 10 := by unfold jx_cl; rw [jh_mk_eq]
  simp (disch := omega) only [s114_31, Option.some.injEq, exists_eq_left', exists_eq_left, List.cons_append, List.nil_append, List.length_nil, List.length_cons, Nat.reduceAdd, Nat.reduceMul, Nat.reduceSub, Nat.reduceLeDiff, true_and, and_true, ↓reduceIte, not_false_eq_true, not_true_eq_false, nI_add, pk_mul, jn_ltT, jn_ltF, jn_leT, jn_leF, jn_eqT, jn_eqF, jn_lt0, jn_ge0, jn_eq0T, jn_eq0F, jn_in, jn_cl, cl]
  refine tk_new (fun h1 f w hw t fr c1 l1 => ?_)
  have hR1 : jR F A G g h1 := hR.eq (fun i hi => fr i (by omega))
  have b5 := hR1.2.2.2.1
  simp (disch := omega) only [s114_34, Option.some.injEq, exists_eq_left', exists_eq_left, List.cons_append, List.nil_append, List.length_nil, List.length_cons, Nat.reduceAdd, Nat.reduceMul, Nat.reduceSub, Nat.reduceLeDiff, true_and, and_true, ↓reduceIte, not_false_eq_true, not_true_eq_false, nI_add, pk_mul, jn_ltT, jn_ltF, jn_leT, jn_leF, jn_eqT, jn_eqF, jn_lt0, jn_ge0, jn_eq0T, jn_eq0F, jn_in, jn_cl, b5, t.1]
  generalize e2 : jx_wr h1 5 2 4 _ = h2
  have e5 : jx_ar h2 5 2 = some (4, fun i => if i = s then some h.1 else G i) := by
    rw [← e2, jh_ar_wr]
    rfl
  have fr2 : ∀ i, i ≠ 5 → h2.2.2 i = h1.2.2 i := fun i hi => by
    rw [← e2]
    show (jx_w _ _ _).2.2 i = _
    rw [jh_w_ne hi]
  have hR2 : jR F A (fun i => if i = s then some h.1 else G i) g h2 := hR1.g5 (fun i _ hi => fr2 i hi) e5
  have t2 := t.eq (h' := h2) (fr2 _ (by omega)) (fr2 _ (by omega)) (fr2 _ (by omega))
  have c2 : h2.1 = h.1 + 3 := by rw [← e2]; exact c1
  have l2 : h2.2.1 = h.2.1 + 54 := by rw [← e2]; exact l1
  refine tb_keep35 hR2 hr hc hs (by rw [if_pos rfl]) h182 t2 (fun h3 f' w' fw t3 fr3 c3 l3 hR3 => ?_)
  exact k h3 f' w' fw t3 (fun i h1 h2 => by rw [fr3 i (by omega) (by omega) (by omega), fr2 i h2, fr i h1]) (by omega) (by omega) hR3
theorem tb_bring_f (hR : jR F A G g h) {K : Nat → Option Nat} (hK : ∀ s, s < 4 → ((G s).isSome = (K s).isSome)) {s x : Int32} (e : jbrA K s = some x) (k : ∀ h', jR (jup F 1 11 (F 1 11 + 1)) A G g h' → jD h h' → Q [.int x] h') : jx_Go jxP (d + 1) 115 0 [.ref 1, .int s] [] h Q := by
  have a5 := hR.2.2.2.1
  unfold jbrA at e
  simp (disch := omega) only [s115_0, s115_1, Option.some.injEq, exists_eq_left', exists_eq_left, List.cons_append, List.nil_append, List.length_nil, List.length_cons, Nat.reduceAdd, Nat.reduceMul, Nat.reduceSub, Nat.reduceLeDiff, true_and, and_true, ↓reduceIte, not_false_eq_true, not_true_eq_false, nI_add, pk_mul, jn_ltT, jn_ltF, jn_leT, jn_leF, jn_eqT, jn_eqF, jn_lt0, jn_ge0, jn_eq0T, jn_eq0F, jn_in, jn_cl, tb_noSlot]
  by_cases hs : jbel s 4 = true
  · rw [if_pos hs] at e ⊢
    obtain ⟨s', hs', es⟩ := (jbel_iff (by omega)).mp hs
    subst es
    rw [jn_cl (by omega)] at e
    have hk := hK s' hs'
    cases eg : G s' with
    | some o =>
      rw [eg] at hk
      rw [← hk, if_pos (show (some o).isSome = true from rfl)] at e
      cases e
    | none =>
      rw [eg] at hk
      rw [← hk, if_neg (show ¬ (none : Option Nat).isSome = true by decide)] at e
      have ex : -6 = x := Option.some.inj e
      subst ex
      simp (disch := omega) only [s115_4, s115_13, s115_14, s115_17, s115_18, s115_19r, s115_19n, s115_22, s115_23, s115_25, Option.some.injEq, exists_eq_left', exists_eq_left, List.cons_append, List.nil_append, List.length_nil, List.length_cons, Nat.reduceAdd, Nat.reduceMul, Nat.reduceSub, Nat.reduceLeDiff, true_and, and_true, ↓reduceIte, not_false_eq_true, not_true_eq_false, nI_add, pk_mul, jn_ltT, jn_ltF, jn_leT, jn_leF, jn_eqT, jn_eqF, jn_lt0, jn_ge0, jn_eq0T, jn_eq0F, jn_in, jn_cl, jf_1_1 hR, a5, eg, jx_rv, jc_of_1 hR]
      exact tb_finding hR (fun h' hR' hD' => by simp only [s115_28, Option.some.injEq, exists_eq_left', exists_eq_left, List.cons_append, List.nil_append, List.length_nil, List.length_cons, Nat.reduceAdd, Nat.reduceMul, Nat.reduceSub, Nat.reduceLeDiff, true_and, and_true, ↓reduceIte, not_false_eq_true, not_true_eq_false, nI_add, pk_mul, jn_ltT, jn_ltF, jn_leT, jn_leF, jn_eqT, jn_eqF, jn_lt0, jn_ge0, jn_eq0T, jn_eq0F, jn_in, jn_cl]; exact k h' hR' hD')
  · rw [if_neg hs] at e ⊢
    have ex : -1 = x := Option.some.inj e
    subst ex
    simp (disch := omega) only [s115_4, s115_7, s115_8, s115_9, Option.some.injEq, exists_eq_left', exists_eq_left, List.cons_append, List.nil_append, List.length_nil, List.length_cons, Nat.reduceAdd, Nat.reduceMul, Nat.reduceSub, Nat.reduceLeDiff, true_and, and_true, ↓reduceIte, not_false_eq_true, not_true_eq_false, nI_add, pk_mul, jn_ltT, jn_ltF, jn_leT, jn_leF, jn_eqT, jn_eqF, jn_lt0, jn_ge0, jn_eq0T, jn_eq0F, jn_in, jn_cl, jc_of_1 hR]
    exact tb_finding hR (fun h' hR' hD' => by simp only [s115_12, Option.some.injEq, exists_eq_left', exists_eq_left, List.cons_append, List.nil_append, List.length_nil, List.length_cons, Nat.reduceAdd, Nat.reduceMul, Nat.reduceSub, Nat.reduceLeDiff, true_and, and_true, ↓reduceIte, not_false_eq_true, not_true_eq_false, nI_add, pk_mul, jn_ltT, jn_ltF, jn_leT, jn_leF, jn_eqT, jn_eqF, jn_lt0, jn_ge0, jn_eq0T, jn_eq0F, jn_in, jn_cl]; exact k h' hR' hD')
theorem tb_bring_t (hR : jR F A G g h) (hn : F 7 1 < 30) (hk : F 7 2 ≤ 30) {s o R C : Nat} {f w : Nat → Int32} (hs : s < 4) (eo : G s = some o) (ho : 182 ≤ o) (t : jTk h o (o + 1) (o + 2) R C f w) (hr : R ≤ 5) (hc : C ≤ 5) (k : ∀ h' F' A' pl wt, (∀ j, j < 25 → pl j = f j ∧ wt j = w j) → jNw F A F' A' R C pl wt → jR F' A' G g h' → jD h h' → Q [.int (nI (R * C))] h') : jx_Go jxP (d + 3) 115 0 [.ref 1, .int (nI s)] [] h Q := by
  have a5 := hR.2.2.2.1
  simp (disch := omega) only [s115_0, s115_1, Option.some.injEq, exists_eq_left', exists_eq_left, List.cons_append, List.nil_append, List.length_nil, List.length_cons, Nat.reduceAdd, Nat.reduceMul, Nat.reduceSub, Nat.reduceLeDiff, true_and, and_true, ↓reduceIte, not_false_eq_true, not_true_eq_false, nI_add, pk_mul, jn_ltT, jn_ltF, jn_leT, jn_leF, jn_eqT, jn_eqF, jn_lt0, jn_ge0, jn_eq0T, jn_eq0F, jn_in, jn_cl, tb_noSlot, jbel_n]
  simp (disch := omega) only [s115_4, s115_13, s115_14, s115_17, s115_18, s115_19r, s115_19n, s115_29, s115_30, s115_33, s115_34, s115_37, Option.some.injEq, exists_eq_left', exists_eq_left, List.cons_append, List.nil_append, List.length_nil, List.length_cons, Nat.reduceAdd, Nat.reduceMul, Nat.reduceSub, Nat.reduceLeDiff, true_and, and_true, ↓reduceIte, not_false_eq_true, not_true_eq_false, nI_add, pk_mul, jn_ltT, jn_ltF, jn_leT, jn_leF, jn_eqT, jn_eqF, jn_lt0, jn_ge0, jn_eq0T, jn_eq0F, jn_in, jn_cl, jf_1_0 hR, jf_1_1 hR, jf_1_3 hR, a5, eo, jx_rv, jc_of_7 hR]
  refine tb_push hR hn hk (fun h1 hR1 hD1 => ?_)
  have b5 := hR1.2.2.2.1
  have t1 := t.fr hD1 ho (by omega) (by omega)
  have e3 : jphA F A 3 = A 3 := jphA_o hn (by omega)
  have e4 : jphA F A 4 = A 4 := jphA_o hn (by omega)
  simp (disch := omega) only [s115_40, s115_41, s115_44, s115_45, s115_48, s115_49, s115_50, Option.some.injEq, exists_eq_left', exists_eq_left, List.cons_append, List.nil_append, List.length_nil, List.length_cons, Nat.reduceAdd, Nat.reduceMul, Nat.reduceSub, Nat.reduceLeDiff, true_and, and_true, ↓reduceIte, not_false_eq_true, not_true_eq_false, nI_add, pk_mul, jn_ltT, jn_ltF, jn_leT, jn_leF, jn_eqT, jn_eqF, jn_lt0, jn_ge0, jn_eq0T, jn_eq0F, jn_in, jn_cl, jf_1_0 hR1, jf_1_1 hR1, b5, eo, jx_rv, jc_of_2 hR1]
  rw [tk_become hR1.tk2 t1 (by omega) (by omega) (by omega) (by omega) (by omega)]
  have hR2 := (((hR1.uf (o := 2) (k := 0) (v := R) rfl rfl).uf (o := 2) (k := 1) (v := C) rfl rfl).wi (a := 3) (f := va_cpy f (jphA F A 3) 0 0 25) rfl).wi (a := 4) (f := va_cpy w (jphA F A 4) 0 0 25) rfl
  have hD2 := (((hD1.uf (a := 2) (k := 0) (v := .int (nI R)) (by decide)).uf (a := 2) (k := 1) (v := .int (nI C)) (by decide)).wi (a := 3) (n := 25) (f := va_cpy f (jphA F A 3) 0 0 25) (by decide)).wi (a := 4) (n := 25) (f := va_cpy w (jphA F A 4) 0 0 25) (by decide)
  generalize jx_wi (jx_wi (jx_uf (jx_uf h1 2 0 (.int (nI R))) 2 1 (.int (nI C))) 3 25 (va_cpy f (jphA F A 3) 0 0 25)) 4 25 (va_cpy w (jphA F A 4) 0 0 25) = h2 at hR2 hD2 ⊢
  simp (disch := omega) only [s115_53, s115_54, Option.some.injEq, exists_eq_left', exists_eq_left, List.cons_append, List.nil_append, List.length_nil, List.length_cons, Nat.reduceAdd, Nat.reduceMul, Nat.reduceSub, Nat.reduceLeDiff, true_and, and_true, ↓reduceIte, not_false_eq_true, not_true_eq_false, nI_add, pk_mul, jn_ltT, jn_ltF, jn_leT, jn_leF, jn_eqT, jn_eqF, jn_lt0, jn_ge0, jn_eq0T, jn_eq0F, jn_in, jn_cl, jc_of_1 hR2]
  refine tb_fin2 (F := F) (A := A) (h := h) hR2 hD2 hn (by rw [jup_ne (Or.inr (by decide)), jup_same]; omega) (by rw [jup_same]; omega) (fun o k ho => by rw [jup_ne (Or.inl ho), jup_ne (Or.inl ho)]) (fun a n1 n2 => by rw [jua_ne n2, jua_ne n1]) (fun h3 F3 A3 hN hR3 hD3 => ?_)
  rw [jup_ne (Or.inr (by decide)), jup_same, jup_same, jua_ne (by decide), jua_same, jua_same] at hN
  have hN' := hN
  obtain ⟨_, _, _, n1, n2, n3, n4⟩ := hN'
  have t3 := hR3.tk2
  rw [n1, n2] at t3
  simp (disch := omega) only [s115_57, s115_58, s115_61, s115_64, Option.some.injEq, exists_eq_left', exists_eq_left, List.cons_append, List.nil_append, List.length_nil, List.length_cons, Nat.reduceAdd, Nat.reduceMul, Nat.reduceSub, Nat.reduceLeDiff, true_and, and_true, ↓reduceIte, not_false_eq_true, not_true_eq_false, nI_add, pk_mul, jn_ltT, jn_ltF, jn_leT, jn_leF, jn_eqT, jn_eqF, jn_lt0, jn_ge0, jn_eq0T, jn_eq0F, jn_in, jn_cl, jf_1_0 hR3, jc_of_2 hR3, tk_size t3]
  exact k h3 F3 A3 _ _ (fun j hj => ⟨va_cpy25 hj, va_cpy25 hj⟩) hN hR3 hD3
theorem tb_as_f (hR : jR F A G g h) {K : Nat → Option Nat} (hK : ∀ s, s < 4 → (K s = none ∧ G s = none) ∨ ∃ o R C f w, G s = some o ∧ 182 ≤ o ∧ jTk h o (o + 1) (o + 2) R C f w ∧ R ≤ 5 ∧ C ≤ 5 ∧ K s = some (jkind f R C)) {s q x : Int32} (e : jasA K s q = some x) (k : ∀ h', jR (jup F 1 11 (F 1 11 + 1)) A G g h' → jD h h' → Q [.int x] h') : jx_Go jxP (d + 2) 116 0 [.ref 1, .int s, .int q] [] h Q := by
  have a5 := hR.2.2.2.1
  unfold jasA at e
  have k16 : x = -1 → jx_Go jxP (d + 2) 116 16 [.ref 1, .int s, .int q] [] h Q := by
    intro ex
    subst ex
    simp (disch := omega) only [s116_16, s116_17, s116_18, Option.some.injEq, exists_eq_left', exists_eq_left, List.cons_append, List.nil_append, List.length_nil, List.length_cons, Nat.reduceAdd, Nat.reduceMul, Nat.reduceSub, Nat.reduceLeDiff, true_and, and_true, ↓reduceIte, not_false_eq_true, not_true_eq_false, nI_add, pk_mul, jn_ltT, jn_ltF, jn_leT, jn_leF, jn_eqT, jn_eqF, jn_lt0, jn_ge0, jn_eq0T, jn_eq0F, jn_in, jn_cl, jc_of_1 hR]
    exact tb_finding hR (fun h' hR' hD' => by simp only [s116_21, Option.some.injEq, exists_eq_left', exists_eq_left, List.cons_append, List.nil_append, List.length_nil, List.length_cons, Nat.reduceAdd, Nat.reduceMul, Nat.reduceSub, Nat.reduceLeDiff, true_and, and_true, ↓reduceIte, not_false_eq_true, not_true_eq_false, nI_add, pk_mul, jn_ltT, jn_ltF, jn_leT, jn_leF, jn_eqT, jn_eqF, jn_lt0, jn_ge0, jn_eq0T, jn_eq0F, jn_in, jn_cl]; exact k h' hR' hD')
  simp (disch := omega) only [s116_0, s116_1, Option.some.injEq, exists_eq_left', exists_eq_left, List.cons_append, List.nil_append, List.length_nil, List.length_cons, Nat.reduceAdd, Nat.reduceMul, Nat.reduceSub, Nat.reduceLeDiff, true_and, and_true, ↓reduceIte, not_false_eq_true, not_true_eq_false, nI_add, pk_mul, jn_ltT, jn_ltF, jn_leT, jn_leF, jn_eqT, jn_eqF, jn_lt0, jn_ge0, jn_eq0T, jn_eq0F, jn_in, jn_cl, tb_noSlot]
  by_cases hs : jbel s 4 = true
  · rw [if_pos hs]
    simp (disch := omega) only [s116_4, s116_7, Option.some.injEq, exists_eq_left', exists_eq_left, List.cons_append, List.nil_append, List.length_nil, List.length_cons, Nat.reduceAdd, Nat.reduceMul, Nat.reduceSub, Nat.reduceLeDiff, true_and, and_true, ↓reduceIte, not_false_eq_true, not_true_eq_false, nI_add, pk_mul, jn_ltT, jn_ltF, jn_leT, jn_leF, jn_eqT, jn_eqF, jn_lt0, jn_ge0, jn_eq0T, jn_eq0F, jn_in, jn_cl]
    by_cases hq : jbel q 4 = true
    · rw [if_pos ⟨hs, hq⟩] at e
      obtain ⟨s', hs', es⟩ := (jbel_iff (by omega)).mp hs
      obtain ⟨q', hq', eq⟩ := (jbel_iff (by omega)).mp hq
      subst es; subst eq
      rw [jn_cl (by omega)] at e
      rcases hK s' hs' with ⟨k1, k2⟩ | ⟨o, R, C, f, w, g1, g2, g3, g4, g5, g6⟩
      · rw [k1] at e
        have ex : -6 = x := Option.some.inj e
        subst ex
        simp (disch := omega) only [s116_8, s116_11, s116_12, s116_13, s116_22, s116_23, s116_26, s116_27, s116_28r, s116_28n, s116_31, s116_32, s116_34, Option.some.injEq, exists_eq_left', exists_eq_left, List.cons_append, List.nil_append, List.length_nil, List.length_cons, Nat.reduceAdd, Nat.reduceMul, Nat.reduceSub, Nat.reduceLeDiff, true_and, and_true, ↓reduceIte, not_false_eq_true, not_true_eq_false, nI_add, pk_mul, jn_ltT, jn_ltF, jn_leT, jn_leF, jn_eqT, jn_eqF, jn_lt0, jn_ge0, jn_eq0T, jn_eq0F, jn_in, jn_cl, jf_1_1 hR, a5, k2, jx_rv, jc_of_1 hR]
        exact tb_finding hR (fun h' hR' hD' => by simp only [s116_37, Option.some.injEq, exists_eq_left', exists_eq_left, List.cons_append, List.nil_append, List.length_nil, List.length_cons, Nat.reduceAdd, Nat.reduceMul, Nat.reduceSub, Nat.reduceLeDiff, true_and, and_true, ↓reduceIte, not_false_eq_true, not_true_eq_false, nI_add, pk_mul, jn_ltT, jn_ltF, jn_leT, jn_leF, jn_eqT, jn_eqF, jn_lt0, jn_ge0, jn_eq0T, jn_eq0F, jn_in, jn_cl]; exact k h' hR' hD')
      · rw [g6] at e
        have kd4 : jkind f R C < 4 := by unfold jkind; split; omega; split <;> omega
        simp (disch := omega) only [s116_8, s116_11, s116_12, s116_13, s116_22, s116_23, s116_26, s116_27, s116_28r, s116_28n, s116_38, s116_39, s116_42, s116_43, s116_44, Option.some.injEq, exists_eq_left', exists_eq_left, List.cons_append, List.nil_append, List.length_nil, List.length_cons, Nat.reduceAdd, Nat.reduceMul, Nat.reduceSub, Nat.reduceLeDiff, true_and, and_true, ↓reduceIte, not_false_eq_true, not_true_eq_false, nI_add, pk_mul, jn_ltT, jn_ltF, jn_leT, jn_leF, jn_eqT, jn_eqF, jn_lt0, jn_ge0, jn_eq0T, jn_eq0F, jn_in, jn_cl, jf_1_1 hR, a5, g1, jx_rv, g3.1]
        refine tk_findKind g3 g4 g5 ?_
        simp (disch := omega) only [s116_47, s116_48, Option.some.injEq, exists_eq_left', exists_eq_left, List.cons_append, List.nil_append, List.length_nil, List.length_cons, Nat.reduceAdd, Nat.reduceMul, Nat.reduceSub, Nat.reduceLeDiff, true_and, and_true, ↓reduceIte, not_false_eq_true, not_true_eq_false, nI_add, pk_mul, jn_ltT, jn_ltF, jn_leT, jn_leF, jn_eqT, jn_eqF, jn_lt0, jn_ge0, jn_eq0T, jn_eq0F, jn_in, jn_cl, tb_isUnder]
        dsimp only at e
        generalize jkind f R C = kd at *
        have iff : (nI kd = nI q' ∨ nI q' = 0 ∨ (nI q' = nI 1 ∧ kd = 2)) ↔ (kd = q' ∨ q' = 0 ∨ (q' = 1 ∧ kd = 2)) := by
          rw [jn_eq (by omega) (by omega), show (0 : Int32) = nI 0 from rfl, jn_eq (by omega) (by omega), jn_eq (by omega) (by omega)]
        by_cases z : kd = q' ∨ q' = 0 ∨ (q' = 1 ∧ kd = 2)
        · rw [if_pos (iff.mpr z)] at e
          cases e
        · rw [if_neg (fun y => z (iff.mp y))] at e
          have ex : -4 = x := Option.some.inj e
          subst ex
          rw [if_neg z]
          simp (disch := omega) only [s116_51, s116_54, s116_55, s116_57, Option.some.injEq, exists_eq_left', exists_eq_left, List.cons_append, List.nil_append, List.length_nil, List.length_cons, Nat.reduceAdd, Nat.reduceMul, Nat.reduceSub, Nat.reduceLeDiff, true_and, and_true, ↓reduceIte, not_false_eq_true, not_true_eq_false, nI_add, pk_mul, jn_ltT, jn_ltF, jn_leT, jn_leF, jn_eqT, jn_eqF, jn_lt0, jn_ge0, jn_eq0T, jn_eq0F, jn_in, jn_cl, jc_of_1 hR]
          exact tb_finding hR (fun h' hR' hD' => by simp only [s116_60, Option.some.injEq, exists_eq_left', exists_eq_left, List.cons_append, List.nil_append, List.length_nil, List.length_cons, Nat.reduceAdd, Nat.reduceMul, Nat.reduceSub, Nat.reduceLeDiff, true_and, and_true, ↓reduceIte, not_false_eq_true, not_true_eq_false, nI_add, pk_mul, jn_ltT, jn_ltF, jn_leT, jn_leF, jn_eqT, jn_eqF, jn_lt0, jn_ge0, jn_eq0T, jn_eq0F, jn_in, jn_cl]; exact k h' hR' hD')
    · rw [if_neg (fun z => hq z.2)] at e
      rw [s116_8]
      rcases jbel_f hq with a | ⟨a, b⟩
      · rw [if_pos a]; exact k16 (Option.some.inj e).symm
      · rw [if_neg a, s116_11, s116_12, s116_13, if_neg (by rw [jle_bel (by omega)]; exact fun z => z b)]
        exact k16 (Option.some.inj e).symm
  · rw [if_neg hs]
    rw [if_neg (fun z => hs z.1)] at e
    simp (disch := omega) only [s116_4, Option.some.injEq, exists_eq_left', exists_eq_left, List.cons_append, List.nil_append, List.length_nil, List.length_cons, Nat.reduceAdd, Nat.reduceMul, Nat.reduceSub, Nat.reduceLeDiff, true_and, and_true, ↓reduceIte, not_false_eq_true, not_true_eq_false, nI_add, pk_mul, jn_ltT, jn_ltF, jn_leT, jn_leF, jn_eqT, jn_eqF, jn_lt0, jn_ge0, jn_eq0T, jn_eq0F, jn_in, jn_cl]
    exact k16 (Option.some.inj e).symm
theorem tb_as_t (hR : jR F A G g h) {s q o R C : Nat} {f w : Nat → Int32} (hs : s < 4) (hq : q < 4) (eo : G s = some o) (t : jTk h o (o + 1) (o + 2) R C f w) (hr : R ≤ 5) (hc : C ≤ 5) (hok : jkind f R C = q ∨ q = 0 ∨ (q = 1 ∧ jkind f R C = 2)) (k : Q [.int (nI (jcnt f R C (nI 1)))] h) : jx_Go jxP (d + 2) 116 0 [.ref 1, .int (nI s), .int (nI q)] [] h Q := by
  have a5 := hR.2.2.2.1
  have kd4 : jkind f R C < 4 := by unfold jkind; split; omega; split <;> omega
  simp (disch := omega) only [s116_0, s116_1, Option.some.injEq, exists_eq_left', exists_eq_left, List.cons_append, List.nil_append, List.length_nil, List.length_cons, Nat.reduceAdd, Nat.reduceMul, Nat.reduceSub, Nat.reduceLeDiff, true_and, and_true, ↓reduceIte, not_false_eq_true, not_true_eq_false, nI_add, pk_mul, jn_ltT, jn_ltF, jn_leT, jn_leF, jn_eqT, jn_eqF, jn_lt0, jn_ge0, jn_eq0T, jn_eq0F, jn_in, jn_cl, tb_noSlot, jbel_n]
  simp (disch := omega) only [s116_4, s116_7, s116_8, s116_11, s116_12, s116_13, s116_22, s116_23, s116_26, s116_27, s116_28r, s116_28n, s116_38, s116_39, s116_42, s116_43, s116_44, Option.some.injEq, exists_eq_left', exists_eq_left, List.cons_append, List.nil_append, List.length_nil, List.length_cons, Nat.reduceAdd, Nat.reduceMul, Nat.reduceSub, Nat.reduceLeDiff, true_and, and_true, ↓reduceIte, not_false_eq_true, not_true_eq_false, nI_add, pk_mul, jn_ltT, jn_ltF, jn_leT, jn_leF, jn_eqT, jn_eqF, jn_lt0, jn_ge0, jn_eq0T, jn_eq0F, jn_in, jn_cl, jf_1_1 hR, a5, eo, jx_rv, t.1]
  refine tk_findKind t hr hc ?_
  simp (disch := omega) only [s116_47, s116_48, Option.some.injEq, exists_eq_left', exists_eq_left, List.cons_append, List.nil_append, List.length_nil, List.length_cons, Nat.reduceAdd, Nat.reduceMul, Nat.reduceSub, Nat.reduceLeDiff, true_and, and_true, ↓reduceIte, not_false_eq_true, not_true_eq_false, nI_add, pk_mul, jn_ltT, jn_ltF, jn_leT, jn_leF, jn_eqT, jn_eqF, jn_lt0, jn_ge0, jn_eq0T, jn_eq0F, jn_in, jn_cl, tb_isUnder]
  rw [if_pos hok]
  simp (disch := omega) only [s116_51, s116_61, s116_62, s116_65, s116_66, s116_67, s116_68, Option.some.injEq, exists_eq_left', exists_eq_left, List.cons_append, List.nil_append, List.length_nil, List.length_cons, Nat.reduceAdd, Nat.reduceMul, Nat.reduceSub, Nat.reduceLeDiff, true_and, and_true, ↓reduceIte, not_false_eq_true, not_true_eq_false, nI_add, pk_mul, jn_ltT, jn_ltF, jn_leT, jn_leF, jn_eqT, jn_eqF, jn_lt0, jn_ge0, jn_eq0T, jn_eq0F, jn_in, jn_cl, jf_1_1 hR, a5, eo, jx_rv, t.1]
  refine tk_count t hr hc ?_
  simp (disch := omega) only [s116_71, Option.some.injEq, exists_eq_left', exists_eq_left, List.cons_append, List.nil_append, List.length_nil, List.length_cons, Nat.reduceAdd, Nat.reduceMul, Nat.reduceSub, Nat.reduceLeDiff, true_and, and_true, ↓reduceIte, not_false_eq_true, not_true_eq_false, nI_add, pk_mul, jn_ltT, jn_ltF, jn_leT, jn_leF, jn_eqT, jn_eqF, jn_lt0, jn_ge0, jn_eq0T, jn_eq0F, jn_in, jn_cl]
  exact k
theorem tb_same_b (hR : jR F A G g h) {s : Int32} (hb : ¬ jbel s 4 = true) (k : ∀ h', jR (jup F 1 11 (F 1 11 + 1)) A G g h' → jD h h' → Q [.int (-1)] h') : jx_Go jxP (d + 1) 117 0 [.ref 1, .int s] [] h Q := by
  simp (disch := omega) only [s117_0, s117_1, Option.some.injEq, exists_eq_left', exists_eq_left, List.cons_append, List.nil_append, List.length_nil, List.length_cons, Nat.reduceAdd, Nat.reduceMul, Nat.reduceSub, Nat.reduceLeDiff, true_and, and_true, ↓reduceIte, not_false_eq_true, not_true_eq_false, nI_add, pk_mul, jn_ltT, jn_ltF, jn_leT, jn_leF, jn_eqT, jn_eqF, jn_lt0, jn_ge0, jn_eq0T, jn_eq0F, jn_in, jn_cl, tb_noSlot]
  rw [if_neg hb]
  simp (disch := omega) only [s117_4, s117_7, s117_8, s117_9, Option.some.injEq, exists_eq_left', exists_eq_left, List.cons_append, List.nil_append, List.length_nil, List.length_cons, Nat.reduceAdd, Nat.reduceMul, Nat.reduceSub, Nat.reduceLeDiff, true_and, and_true, ↓reduceIte, not_false_eq_true, not_true_eq_false, nI_add, pk_mul, jn_ltT, jn_ltF, jn_leT, jn_leF, jn_eqT, jn_eqF, jn_lt0, jn_ge0, jn_eq0T, jn_eq0F, jn_in, jn_cl, jc_of_1 hR]
  exact tb_finding hR (fun h' hR' hD' => by simp only [s117_12, Option.some.injEq, exists_eq_left', exists_eq_left, List.cons_append, List.nil_append, List.length_nil, List.length_cons, Nat.reduceAdd, Nat.reduceMul, Nat.reduceSub, Nat.reduceLeDiff, true_and, and_true, ↓reduceIte, not_false_eq_true, not_true_eq_false, nI_add, pk_mul, jn_ltT, jn_ltF, jn_leT, jn_leF, jn_eqT, jn_eqF, jn_lt0, jn_ge0, jn_eq0T, jn_eq0F, jn_in, jn_cl]; exact k h' hR' hD')
theorem tb_same_n (hR : jR F A G g h) {s : Nat} (hs : s < 4) (eo : G s = none) (k : ∀ h', jR (jup F 1 11 (F 1 11 + 1)) A G g h' → jD h h' → Q [.int (-6)] h') : jx_Go jxP (d + 1) 117 0 [.ref 1, .int (nI s)] [] h Q := by
  have a5 := hR.2.2.2.1
  simp (disch := omega) only [s117_0, s117_1, Option.some.injEq, exists_eq_left', exists_eq_left, List.cons_append, List.nil_append, List.length_nil, List.length_cons, Nat.reduceAdd, Nat.reduceMul, Nat.reduceSub, Nat.reduceLeDiff, true_and, and_true, ↓reduceIte, not_false_eq_true, not_true_eq_false, nI_add, pk_mul, jn_ltT, jn_ltF, jn_leT, jn_leF, jn_eqT, jn_eqF, jn_lt0, jn_ge0, jn_eq0T, jn_eq0F, jn_in, jn_cl, tb_noSlot, jbel_n]
  simp (disch := omega) only [s117_4, s117_13, s117_14, s117_17, s117_18, s117_19r, s117_19n, s117_22, s117_23, s117_25, Option.some.injEq, exists_eq_left', exists_eq_left, List.cons_append, List.nil_append, List.length_nil, List.length_cons, Nat.reduceAdd, Nat.reduceMul, Nat.reduceSub, Nat.reduceLeDiff, true_and, and_true, ↓reduceIte, not_false_eq_true, not_true_eq_false, nI_add, pk_mul, jn_ltT, jn_ltF, jn_leT, jn_leF, jn_eqT, jn_eqF, jn_lt0, jn_ge0, jn_eq0T, jn_eq0F, jn_in, jn_cl, jf_1_1 hR, a5, eo, jx_rv, jc_of_1 hR]
  exact tb_finding hR (fun h' hR' hD' => by simp only [s117_28, Option.some.injEq, exists_eq_left', exists_eq_left, List.cons_append, List.nil_append, List.length_nil, List.length_cons, Nat.reduceAdd, Nat.reduceMul, Nat.reduceSub, Nat.reduceLeDiff, true_and, and_true, ↓reduceIte, not_false_eq_true, not_true_eq_false, nI_add, pk_mul, jn_ltT, jn_ltF, jn_leT, jn_leF, jn_eqT, jn_eqF, jn_lt0, jn_ge0, jn_eq0T, jn_eq0F, jn_in, jn_cl]; exact k h' hR' hD')
theorem tb_same_0 (hR : jR F A G g h) {s o R C : Nat} {f w : Nat → Int32} (hs : s < 4) (eo : G s = some o) (t : jTk h o (o + 1) (o + 2) R C f w) (hr : F 2 0 ≤ 5) (hc : F 2 1 ≤ 5) (hr' : R ≤ 5) (hc' : C ≤ 5) (ne : F 2 0 ≠ R ∨ F 2 1 ≠ C) (k : Q [.int (nI 0)] h) : jx_Go jxP (d + 1) 117 0 [.ref 1, .int (nI s)] [] h Q := by
  have a5 := hR.2.2.2.1
  simp (disch := omega) only [s117_0, s117_1, Option.some.injEq, exists_eq_left', exists_eq_left, List.cons_append, List.nil_append, List.length_nil, List.length_cons, Nat.reduceAdd, Nat.reduceMul, Nat.reduceSub, Nat.reduceLeDiff, true_and, and_true, ↓reduceIte, not_false_eq_true, not_true_eq_false, nI_add, pk_mul, jn_ltT, jn_ltF, jn_leT, jn_leF, jn_eqT, jn_eqF, jn_lt0, jn_ge0, jn_eq0T, jn_eq0F, jn_in, jn_cl, tb_noSlot, jbel_n]
  simp (disch := omega) only [s117_4, s117_13, s117_14, s117_17, s117_18, s117_19r, s117_19n, s117_29, s117_30, s117_33, s117_34, s117_37, s117_38, s117_41, s117_42, s117_43, Option.some.injEq, exists_eq_left', exists_eq_left, List.cons_append, List.nil_append, List.length_nil, List.length_cons, Nat.reduceAdd, Nat.reduceMul, Nat.reduceSub, Nat.reduceLeDiff, true_and, and_true, ↓reduceIte, not_false_eq_true, not_true_eq_false, nI_add, pk_mul, jn_ltT, jn_ltF, jn_leT, jn_leF, jn_eqT, jn_eqF, jn_lt0, jn_ge0, jn_eq0T, jn_eq0F, jn_in, jn_cl, jf_1_0 hR, jf_1_1 hR, jf_1_10 hR, a5, eo, jx_rv, jc_of_102 hR]
  refine li_isReordered_0 hR t hr hc hr' hc' ne ?_
  simp (disch := omega) only [s117_46, s117_49, s117_50, s117_53, s117_54, Option.some.injEq, exists_eq_left', exists_eq_left, List.cons_append, List.nil_append, List.length_nil, List.length_cons, Nat.reduceAdd, Nat.reduceMul, Nat.reduceSub, Nat.reduceLeDiff, true_and, and_true, ↓reduceIte, not_false_eq_true, not_true_eq_false, nI_add, pk_mul, jn_ltT, jn_ltF, jn_leT, jn_leF, jn_eqT, jn_eqF, jn_lt0, jn_ge0, jn_eq0T, jn_eq0F, jn_in, jn_cl]
  exact k
theorem tb_same_t (hR : jR F A G g h) {s o : Nat} {f w : Nat → Int32} (hs : s < 4) (eo : G s = some o) (ho : 182 ≤ o) (t : jTk h o (o + 1) (o + 2) (F 2 0) (F 2 1) f w) (hr : F 2 0 ≤ 5) (hc : F 2 1 ≤ 5) (hr1 : 1 ≤ F 2 0) (hc1 : 1 ≤ F 2 1) (hv : jV (A 3) (F 2 0) (F 2 1)) (hf : jV f (F 2 0) (F 2 1)) (z0 : ∀ c, c < 5 → A 104 c = nI 0) (z1 : ∀ c, c < 5 → A 111 c = nI 0) (k : ∀ h' A', (∀ a, (a < 105 ∨ 116 < a ∨ a = 110 ∨ a = 111) → A' a = A a) → jR F A' G g h' → jD h h' → Q [.int (nI (jsm (A 3) f (F 2 0) (F 2 1)).toNat)] h') : jx_Go jxP (d + 9) 117 0 [.ref 1, .int (nI s)] [] h Q := by
  have a5 := hR.2.2.2.1
  simp (disch := omega) only [s117_0, s117_1, Option.some.injEq, exists_eq_left', exists_eq_left, List.cons_append, List.nil_append, List.length_nil, List.length_cons, Nat.reduceAdd, Nat.reduceMul, Nat.reduceSub, Nat.reduceLeDiff, true_and, and_true, ↓reduceIte, not_false_eq_true, not_true_eq_false, nI_add, pk_mul, jn_ltT, jn_ltF, jn_leT, jn_leF, jn_eqT, jn_eqF, jn_lt0, jn_ge0, jn_eq0T, jn_eq0F, jn_in, jn_cl, tb_noSlot, jbel_n]
  simp (disch := omega) only [s117_4, s117_13, s117_14, s117_17, s117_18, s117_19r, s117_19n, s117_29, s117_30, s117_33, s117_34, s117_37, s117_38, s117_41, s117_42, s117_43, Option.some.injEq, exists_eq_left', exists_eq_left, List.cons_append, List.nil_append, List.length_nil, List.length_cons, Nat.reduceAdd, Nat.reduceMul, Nat.reduceSub, Nat.reduceLeDiff, true_and, and_true, ↓reduceIte, not_false_eq_true, not_true_eq_false, nI_add, pk_mul, jn_ltT, jn_ltF, jn_leT, jn_leF, jn_eqT, jn_eqF, jn_lt0, jn_ge0, jn_eq0T, jn_eq0F, jn_in, jn_cl, jf_1_0 hR, jf_1_1 hR, jf_1_10 hR, a5, eo, jx_rv, jc_of_102 hR]
  refine li_isReordered hR hr hc hr1 hc1 t ho (by omega) (by omega) hv hf z0 z1 (fun h' A' hA hR' hD' => ?_)
  have k' := k h' A' hA hR' hD'
  cases eb : jsm (A 3) f (F 2 0) (F 2 1) with
  | true =>
    rw [eb] at k'
    simp (disch := omega) only [Bool.toNat_true, s117_46, s117_49, s117_50, s117_53, s117_54, Option.some.injEq, exists_eq_left', exists_eq_left, List.cons_append, List.nil_append, List.length_nil, List.length_cons, Nat.reduceAdd, Nat.reduceMul, Nat.reduceSub, Nat.reduceLeDiff, true_and, and_true, ↓reduceIte, not_false_eq_true, not_true_eq_false, nI_add, pk_mul, jn_ltT, jn_ltF, jn_leT, jn_leF, jn_eqT, jn_eqF, jn_lt0, jn_ge0, jn_eq0T, jn_eq0F, jn_in, jn_cl]
    exact k'
  | false =>
    rw [eb] at k'
    simp (disch := omega) only [Bool.toNat_false, s117_46, s117_49, s117_50, s117_53, s117_54, Option.some.injEq, exists_eq_left', exists_eq_left, List.cons_append, List.nil_append, List.length_nil, List.length_cons, Nat.reduceAdd, Nat.reduceMul, Nat.reduceSub, Nat.reduceLeDiff, true_and, and_true, ↓reduceIte, not_false_eq_true, not_true_eq_false, nI_add, pk_mul, jn_ltT, jn_ltF, jn_leT, jn_leF, jn_eqT, jn_eqF, jn_lt0, jn_ge0, jn_eq0T, jn_eq0F, jn_in, jn_cl]
    exact k'
end CL31
