/-! ===== the class: unlike, the history ===== -/
section CL4
variable {d : Nat} {F : Nat → Nat → Nat} {A : Nat → Nat → Int32} {G : Nat → Option Nat} {g : Nat → Int64} {h : jxH} {Q : List Value → jxH → Prop}
theorem tk_areAlike (hR : jR F A G g h) (hr : F 2 0 ≤ 5) (hc : F 2 1 ≤ 5) {a e b : Nat} (hb : b ≤ 1) (ha : a < 5) (he : e < 5) (k : Q [.int (nI (jall (if b = 0 then F 2 1 else F 2 0) fun k => A 3 (if b = 0 then 5 * a + k else 5 * k + a) == A 3 (if b = 0 then 5 * e + k else 5 * k + e)).toNat)] h) : jx_Go jxP d 81 0 [.ref 2, .int (nI a), .int (nI e), .int (nI b), jx_u, jx_u, jx_u, jx_u, jx_u] [] h Q := by
  rcases (show b = 0 ∨ b = 1 by omega) with z | z
  · subst z
    rw [if_pos rfl] at k
    simp (disch := omega) only [s81_0, s81_1, s81_4, s81_5, s81_8, s81_11, s81_12, s81_15, s81_17, s81_18, s81_21, s81_22, s81_25, s81_26, s81_28, s81_29, s81_32, s81_33, s81_36, s81_37, s81_38, s81_39, s81_41, s81_42, s81_45, s81_46, s81_49, s81_50, s81_51, s81_52, s81_54, s81_55, Option.some.injEq, exists_eq_left', exists_eq_left, List.cons_append, List.nil_append, List.length_nil, List.length_cons, Nat.reduceAdd, Nat.reduceMul, Nat.reduceSub, Nat.reduceLeDiff, true_and, and_true, ↓reduceIte, not_false_eq_true, not_true_eq_false, nI_add, pk_mul, jn_ltT, jn_ltF, jn_leT, jn_leF, jn_eqT, jn_eqF, jn_lt0, jn_ge0, jn_eq0T, jn_eq0F, jn_in, jn_cl, jf_2_1 hR]
    have e1 : ∀ k, (A 3 (if (0 : Nat) = 0 then 5 * a + k else 5 * k + a) == A 3 (if (0 : Nat) = 0 then 5 * e + k else 5 * k + e)) = (A 3 (5 * a + k) == A 3 (5 * e + k)) := fun k => by rw [if_pos rfl, if_pos rfl]
    rw [jall_congr (fun i _ => e1 i)] at k
    refine jloop (fun i => (∀ j, j < i → A 3 (5 * a + j) = A 3 (5 * e + j)) → jx_Go jxP d 81 57 [.ref 2, .int (nI a), .int (nI e), .int (nI 0), .int (nI (F 2 1)), .int (nI 1), .int (nI (5 * a)), .int (nI (5 * e)), .int (nI i)] [] h Q) (F 2 1) ?_ ?_ 0 (Nat.zero_le _) (fun j hj => by omega)
    · intro al
      rw [jall_iff.mpr (fun i hi => by rw [al i hi]; exact beq_self_eq_true _)] at k
      rw [s81_57]
      simp (disch := omega) only [s81_59, s81_61, s81_101, s81_102b0, s81_102b1, Option.some.injEq, exists_eq_left', exists_eq_left, List.cons_append, List.nil_append, List.length_nil, List.length_cons, Nat.reduceAdd, Nat.reduceMul, Nat.reduceSub, Nat.reduceLeDiff, true_and, and_true, ↓reduceIte, not_false_eq_true, not_true_eq_false, nI_add, pk_mul, jn_ltT, jn_ltF, jn_leT, jn_leF, jn_eqT, jn_eqF, jn_lt0, jn_ge0, jn_eq0T, jn_eq0F, jn_in, jn_cl]
      exact k
    · intro i hi ih al
      rw [s81_57]
      by_cases q : A 3 (5 * a + i) = A 3 (5 * e + i)
      · simp (disch := omega) only [s81_59, s81_61, s81_64, s81_65, s81_68, s81_70, s81_72, s81_74, s81_75, s81_76, s81_77, s81_78, s81_81, s81_83, s81_85, s81_87, s81_88, s81_89, s81_90, s81_95, s81_98, Option.some.injEq, exists_eq_left', exists_eq_left, List.cons_append, List.nil_append, List.length_nil, List.length_cons, Nat.reduceAdd, Nat.reduceMul, Nat.reduceSub, Nat.reduceLeDiff, true_and, and_true, ↓reduceIte, not_false_eq_true, not_true_eq_false, nI_add, pk_mul, jn_ltT, jn_ltF, jn_leT, jn_leF, jn_eqT, jn_eqF, jn_lt0, jn_ge0, jn_eq0T, jn_eq0F, jn_in, jn_cl, jf_2_2 hR, ja_3 hR, Nat.one_mul, q]
        refine ih (fun j hj => ?_)
        rcases (show j < i ∨ j = i by omega) with w | w
        · exact al j w
        · subst w; exact q
      · rw [show (jall (F 2 1) fun i => A 3 (5 * a + i) == A 3 (5 * e + i)) = false from Bool.eq_false_iff.mpr (fun w => q (beq_iff_eq.mp (jall_iff.mp w i hi)))] at k
        simp (disch := omega) only [s81_59, s81_61, s81_64, s81_65, s81_68, s81_70, s81_72, s81_74, s81_75, s81_76, s81_77, s81_78, s81_81, s81_83, s81_85, s81_87, s81_88, s81_89, s81_90, s81_93, s81_94b0, s81_94b1, Option.some.injEq, exists_eq_left', exists_eq_left, List.cons_append, List.nil_append, List.length_nil, List.length_cons, Nat.reduceAdd, Nat.reduceMul, Nat.reduceSub, Nat.reduceLeDiff, true_and, and_true, ↓reduceIte, not_false_eq_true, not_true_eq_false, nI_add, pk_mul, jn_ltT, jn_ltF, jn_leT, jn_leF, jn_eqT, jn_eqF, jn_lt0, jn_ge0, jn_eq0T, jn_eq0F, jn_in, jn_cl, jf_2_2 hR, ja_3 hR, Nat.one_mul, q]
        exact k
  · subst z
    rw [if_neg (by decide)] at k
    simp (disch := omega) only [s81_0, s81_1, s81_4, s81_5, s81_8, s81_11, s81_12, s81_15, s81_17, s81_18, s81_21, s81_22, s81_25, s81_26, s81_28, s81_29, s81_32, s81_33, s81_36, s81_37, s81_38, s81_39, s81_41, s81_42, s81_45, s81_46, s81_49, s81_50, s81_51, s81_52, s81_54, s81_55, Option.some.injEq, exists_eq_left', exists_eq_left, List.cons_append, List.nil_append, List.length_nil, List.length_cons, Nat.reduceAdd, Nat.reduceMul, Nat.reduceSub, Nat.reduceLeDiff, true_and, and_true, ↓reduceIte, not_false_eq_true, not_true_eq_false, nI_add, pk_mul, jn_ltT, jn_ltF, jn_leT, jn_leF, jn_eqT, jn_eqF, jn_lt0, jn_ge0, jn_eq0T, jn_eq0F, jn_in, jn_cl, jf_2_0 hR]
    have e1 : ∀ k, (A 3 (if (1 : Nat) = 0 then 5 * a + k else 5 * k + a) == A 3 (if (1 : Nat) = 0 then 5 * e + k else 5 * k + e)) = (A 3 (a + 5 * k) == A 3 (e + 5 * k)) := fun k => by rw [if_neg (by decide), if_neg (by decide), Nat.add_comm a, Nat.add_comm e]
    rw [jall_congr (fun i _ => e1 i)] at k
    refine jloop (fun i => (∀ j, j < i → A 3 (a + 5 * j) = A 3 (e + 5 * j)) → jx_Go jxP d 81 57 [.ref 2, .int (nI a), .int (nI e), .int (nI 1), .int (nI (F 2 0)), .int (nI 5), .int (nI a), .int (nI e), .int (nI i)] [] h Q) (F 2 0) ?_ ?_ 0 (Nat.zero_le _) (fun j hj => by omega)
    · intro al
      rw [jall_iff.mpr (fun i hi => by rw [al i hi]; exact beq_self_eq_true _)] at k
      rw [s81_57]
      simp (disch := omega) only [s81_59, s81_61, s81_101, s81_102b0, s81_102b1, Option.some.injEq, exists_eq_left', exists_eq_left, List.cons_append, List.nil_append, List.length_nil, List.length_cons, Nat.reduceAdd, Nat.reduceMul, Nat.reduceSub, Nat.reduceLeDiff, true_and, and_true, ↓reduceIte, not_false_eq_true, not_true_eq_false, nI_add, pk_mul, jn_ltT, jn_ltF, jn_leT, jn_leF, jn_eqT, jn_eqF, jn_lt0, jn_ge0, jn_eq0T, jn_eq0F, jn_in, jn_cl]
      exact k
    · intro i hi ih al
      rw [s81_57]
      by_cases q : A 3 (a + 5 * i) = A 3 (e + 5 * i)
      · simp (disch := omega) only [s81_59, s81_61, s81_64, s81_65, s81_68, s81_70, s81_72, s81_74, s81_75, s81_76, s81_77, s81_78, s81_81, s81_83, s81_85, s81_87, s81_88, s81_89, s81_90, s81_95, s81_98, Option.some.injEq, exists_eq_left', exists_eq_left, List.cons_append, List.nil_append, List.length_nil, List.length_cons, Nat.reduceAdd, Nat.reduceMul, Nat.reduceSub, Nat.reduceLeDiff, true_and, and_true, ↓reduceIte, not_false_eq_true, not_true_eq_false, nI_add, pk_mul, jn_ltT, jn_ltF, jn_leT, jn_leF, jn_eqT, jn_eqF, jn_lt0, jn_ge0, jn_eq0T, jn_eq0F, jn_in, jn_cl, jf_2_2 hR, ja_3 hR, q]
        refine ih (fun j hj => ?_)
        rcases (show j < i ∨ j = i by omega) with w | w
        · exact al j w
        · subst w; exact q
      · rw [show (jall (F 2 0) fun i => A 3 (a + 5 * i) == A 3 (e + 5 * i)) = false from Bool.eq_false_iff.mpr (fun w => q (beq_iff_eq.mp (jall_iff.mp w i hi)))] at k
        simp (disch := omega) only [s81_59, s81_61, s81_64, s81_65, s81_68, s81_70, s81_72, s81_74, s81_75, s81_76, s81_77, s81_78, s81_81, s81_83, s81_85, s81_87, s81_88, s81_89, s81_90, s81_93, s81_94b0, s81_94b1, Option.some.injEq, exists_eq_left', exists_eq_left, List.cons_append, List.nil_append, List.length_nil, List.length_cons, Nat.reduceAdd, Nat.reduceMul, Nat.reduceSub, Nat.reduceLeDiff, true_and, and_true, ↓reduceIte, not_false_eq_true, not_true_eq_false, nI_add, pk_mul, jn_ltT, jn_ltF, jn_leT, jn_leF, jn_eqT, jn_eqF, jn_lt0, jn_ge0, jn_eq0T, jn_eq0F, jn_in, jn_cl, jf_2_2 hR, ja_3 hR, q]
        exact k
theorem tk_countUnlike (hR : jR F A G g h) (hr : F 2 0 ≤ 5) (hc : F 2 1 ≤ 5) {b : Nat} (hb : b ≤ 1) (k : Q [.int (nI (junl (A 3) (F 2 0) (F 2 1) b))] h) : jx_Go jxP (d + 1) 80 0 [.ref 2, .int (nI b), jx_u, jx_u, jx_u, jx_u, jx_u] [] h Q := by
  have st : ∀ n, n = (if b = 0 then F 2 0 else F 2 1) → n ≤ 5 → jx_Go jxP (d + 1) 80 15 [.ref 2, .int (nI b), jx_u, jx_u, jx_u, jx_u, jx_u] [.int (nI n)] h Q := by
    intro n hn n5
    unfold junl at k
    rw [← hn] at k
    simp (disch := omega) only [s80_15, s80_16, s80_17, s80_18, s80_19, Option.some.injEq, exists_eq_left', exists_eq_left, List.cons_append, List.nil_append, List.length_nil, List.length_cons, Nat.reduceAdd, Nat.reduceMul, Nat.reduceSub, Nat.reduceLeDiff, true_and, and_true, ↓reduceIte, not_false_eq_true, not_true_eq_false, nI_add, pk_mul, jn_ltT, jn_ltF, jn_leT, jn_leF, jn_eqT, jn_eqF, jn_lt0, jn_ge0, jn_eq0T, jn_eq0F, jn_in, jn_cl]
    generalize eP : (fun a e => jall (if b = 0 then F 2 1 else F 2 0) (fun k => A 3 (if b = 0 then 5 * a + k else 5 * k + a) == A 3 (if b = 0 then 5 * e + k else 5 * k + e))) = P
    have al : ∀ {a e : Nat} {d : Nat} {Q : List Value → jxH → Prop}, a < 5 → e < 5 → Q [.int (nI (P a e).toNat)] h → jx_Go jxP d 81 0 [.ref 2, .int (nI a), .int (nI e), .int (nI b), jx_u, jx_u, jx_u, jx_u, jx_u] [] h Q := fun ha he kk => tk_areAlike hR hr hc hb ha he (by rw [← eP] at kk; exact kk)
    have k' : Q [.int (nI (jsum n fun a => if jall a (fun e => !P a e) = true then 1 else 0))] h := by rw [← eP]; exact k
    refine jloop (fun a => ∀ w5 w6, jx_Go jxP (d + 1) 80 21 [.ref 2, .int (nI b), .int (nI n), .int (nI (jsum a fun a => if jall a (fun e => !P a e) = true then 1 else 0)), .int (nI a), w5, w6] [] h Q) n ?_ ?_ 0 (Nat.zero_le _) _ _
    · intro w5 w6
      rw [s80_21]
      simp (disch := omega) only [s80_23, s80_24, s80_84, s80_85, Option.some.injEq, exists_eq_left', exists_eq_left, List.cons_append, List.nil_append, List.length_nil, List.length_cons, Nat.reduceAdd, Nat.reduceMul, Nat.reduceSub, Nat.reduceLeDiff, true_and, and_true, ↓reduceIte, not_false_eq_true, not_true_eq_false, nI_add, pk_mul, jn_ltT, jn_ltF, jn_leT, jn_leF, jn_eqT, jn_eqF, jn_lt0, jn_ge0, jn_eq0T, jn_eq0F, jn_in, jn_cl]
      exact k'
    · intro a ha ih w5 w6
      rw [jsum_s] at ih
      generalize (jsum a fun a => if jall a (fun e => !P a e) = true then 1 else 0) = m at ih ⊢
      rw [s80_21]
      simp (disch := omega) only [s80_23, s80_24, s80_27, s80_28, s80_30, s80_31, Option.some.injEq, exists_eq_left', exists_eq_left, List.cons_append, List.nil_append, List.length_nil, List.length_cons, Nat.reduceAdd, Nat.reduceMul, Nat.reduceSub, Nat.reduceLeDiff, true_and, and_true, ↓reduceIte, not_false_eq_true, not_true_eq_false, nI_add, pk_mul, jn_ltT, jn_ltF, jn_leT, jn_leF, jn_eqT, jn_eqF, jn_lt0, jn_ge0, jn_eq0T, jn_eq0F, jn_in, jn_cl]
      refine jloop (fun e => jx_Go jxP (d + 1) 80 33 [.ref 2, .int (nI b), .int (nI n), .int (nI m), .int (nI a), .int (nI (jall e (fun e => !P a e)).toNat), .int (nI e)] [] h Q) a ?_ ?_ 0 (Nat.zero_le _)
      · rw [s80_33]
        cases q : jall a (fun e => !P a e) with
        | true =>
          rw [q, if_pos rfl] at ih
          simp (disch := omega) only [s80_35, s80_37, s80_70, s80_72, s80_75, s80_78, s80_81, Option.some.injEq, exists_eq_left', exists_eq_left, List.cons_append, List.nil_append, List.length_nil, List.length_cons, Nat.reduceAdd, Nat.reduceMul, Nat.reduceSub, Nat.reduceLeDiff, true_and, and_true, ↓reduceIte, not_false_eq_true, not_true_eq_false, nI_add, pk_mul, jn_ltT, jn_ltF, jn_leT, jn_leF, jn_eqT, jn_eqF, jn_lt0, jn_ge0, jn_eq0T, jn_eq0F, jn_in, jn_cl, Bool.toNat_true]
          exact ih _ _
        | false =>
          rw [q, if_neg (by decide)] at ih
          simp (disch := omega) only [s80_35, s80_37, s80_70, s80_72, s80_75, s80_78, s80_81, Option.some.injEq, exists_eq_left', exists_eq_left, List.cons_append, List.nil_append, List.length_nil, List.length_cons, Nat.reduceAdd, Nat.reduceMul, Nat.reduceSub, Nat.reduceLeDiff, true_and, and_true, ↓reduceIte, not_false_eq_true, not_true_eq_false, nI_add, pk_mul, jn_ltT, jn_ltF, jn_leT, jn_leF, jn_eqT, jn_eqF, jn_lt0, jn_ge0, jn_eq0T, jn_eq0F, jn_in, jn_cl, Bool.toNat_false]
          exact ih _ _
      · intro e he ih2
        rw [jall_s] at ih2
        rw [s80_33]
        cases q : jall e (fun e => !P a e) with
        | false =>
          rw [q, Bool.false_and] at ih2
          simp (disch := omega) only [s80_35, s80_37, s80_40, s80_42, s80_61, s80_62, s80_64, s80_67, Option.some.injEq, exists_eq_left', exists_eq_left, List.cons_append, List.nil_append, List.length_nil, List.length_cons, Nat.reduceAdd, Nat.reduceMul, Nat.reduceSub, Nat.reduceLeDiff, true_and, and_true, ↓reduceIte, not_false_eq_true, not_true_eq_false, nI_add, pk_mul, jn_ltT, jn_ltF, jn_leT, jn_leF, jn_eqT, jn_eqF, jn_lt0, jn_ge0, jn_eq0T, jn_eq0F, jn_in, jn_cl, Bool.toNat_false]
          exact ih2
        | true =>
          rw [q, Bool.true_and] at ih2
          simp (disch := omega) only [s80_35, s80_37, s80_40, s80_42, s80_45, s80_46, s80_48, s80_50, s80_51, Option.some.injEq, exists_eq_left', exists_eq_left, List.cons_append, List.nil_append, List.length_nil, List.length_cons, Nat.reduceAdd, Nat.reduceMul, Nat.reduceSub, Nat.reduceLeDiff, true_and, and_true, ↓reduceIte, not_false_eq_true, not_true_eq_false, nI_add, pk_mul, jn_ltT, jn_ltF, jn_leT, jn_leF, jn_eqT, jn_eqF, jn_lt0, jn_ge0, jn_eq0T, jn_eq0F, jn_in, jn_cl, Bool.toNat_true, jc_of_2 hR]
          refine al (by omega) (by omega) ?_
          cases q2 : P a e with
          | true =>
            rw [q2] at ih2
            simp (disch := omega) only [s80_54, s80_61, s80_62, s80_64, s80_67, Option.some.injEq, exists_eq_left', exists_eq_left, List.cons_append, List.nil_append, List.length_nil, List.length_cons, Nat.reduceAdd, Nat.reduceMul, Nat.reduceSub, Nat.reduceLeDiff, true_and, and_true, ↓reduceIte, not_false_eq_true, not_true_eq_false, nI_add, pk_mul, jn_ltT, jn_ltF, jn_leT, jn_leF, jn_eqT, jn_eqF, jn_lt0, jn_ge0, jn_eq0T, jn_eq0F, jn_in, jn_cl, Bool.toNat_true]
            exact ih2
          | false =>
            rw [q2] at ih2
            simp (disch := omega) only [s80_54, s80_57, s80_58, s80_61, s80_62, s80_64, s80_67, Option.some.injEq, exists_eq_left', exists_eq_left, List.cons_append, List.nil_append, List.length_nil, List.length_cons, Nat.reduceAdd, Nat.reduceMul, Nat.reduceSub, Nat.reduceLeDiff, true_and, and_true, ↓reduceIte, not_false_eq_true, not_true_eq_false, nI_add, pk_mul, jn_ltT, jn_ltF, jn_leT, jn_leF, jn_eqT, jn_eqF, jn_lt0, jn_ge0, jn_eq0T, jn_eq0F, jn_in, jn_cl, Bool.toNat_false]
            exact ih2
  rcases (show b = 0 ∨ b = 1 by omega) with rfl | rfl
  · simp (disch := omega) only [s80_0, s80_1, s80_4, s80_5, s80_8, s80_11, s80_12, Option.some.injEq, exists_eq_left', exists_eq_left, List.cons_append, List.nil_append, List.length_nil, List.length_cons, Nat.reduceAdd, Nat.reduceMul, Nat.reduceSub, Nat.reduceLeDiff, true_and, and_true, ↓reduceIte, not_false_eq_true, not_true_eq_false, nI_add, pk_mul, jn_ltT, jn_ltF, jn_leT, jn_leF, jn_eqT, jn_eqF, jn_lt0, jn_ge0, jn_eq0T, jn_eq0F, jn_in, jn_cl, jf_2_0 hR]
    exact st _ rfl hr
  · simp (disch := omega) only [s80_0, s80_1, s80_4, s80_5, s80_8, s80_11, s80_12, Option.some.injEq, exists_eq_left', exists_eq_left, List.cons_append, List.nil_append, List.length_nil, List.length_cons, Nat.reduceAdd, Nat.reduceMul, Nat.reduceSub, Nat.reduceLeDiff, true_and, and_true, ↓reduceIte, not_false_eq_true, not_true_eq_false, nI_add, pk_mul, jn_ltT, jn_ltF, jn_leT, jn_leF, jn_eqT, jn_eqF, jn_lt0, jn_ge0, jn_eq0T, jn_eq0F, jn_in, jn_cl, jf_2_1 hR]
    exact st _ rfl hc
theorem jmin2 {a b : Nat} (ha : a < 2147483648) (hb : b < 2147483648) : (if nI b < nI a then nI b else nI a) = nI (min a b) := by
  by_cases w : b < a
  · rw [if_pos (of_eq_true (jn_ltT w ha)), Nat.min_eq_right (by omega)]
  · rw [if_neg (of_eq_false (jn_ltF (Nat.le_of_not_lt w) hb)), Nat.min_eq_left (by omega)]
theorem hi_push (hR : jR F A G g h) (hn : F 7 1 < 30) (hk : F 7 2 ≤ 30) (k : ∀ h', jR (jup (jup (jup (jup F (9 + 3 * F 7 1) 0 (F 2 0)) (9 + 3 * F 7 1) 1 (F 2 1)) 7 1 (if F 7 1 + 1 = 30 then 0 else F 7 1 + 1)) 7 2 (min (F 7 2 + 1) 30)) (jua (jua A (10 + 3 * F 7 1) (va_cpy (A 3) (A (10 + 3 * F 7 1)) 0 0 25)) (11 + 3 * F 7 1) (va_cpy (A 4) (A (11 + 3 * F 7 1)) 0 0 25)) G g h' → jD h h' → Q [] h') : jx_Go jxP (d + 1) 12 0 [.ref 7, .ref 2] [] h Q := by
  obtain ⟨e1, e2, e3, e4, e5, e6, e7⟩ := jhist _ hn
  have t := hR.tkh hn
  obtain ⟨r', a8, r8⟩ := hR.2.2.1 8 2 _ _ rfl
  have rn : r' (F 7 1) = some (9 + 3 * F 7 1) := by rw [r8 _ hn, if_pos hn]
  simp (disch := omega) only [s12_0, s12_1, s12_4, s12_5, s12_8, s12_9, s12_10, Option.some.injEq, exists_eq_left', exists_eq_left, List.cons_append, List.nil_append, List.length_nil, List.length_cons, Nat.reduceAdd, Nat.reduceMul, Nat.reduceSub, Nat.reduceLeDiff, true_and, and_true, ↓reduceIte, not_false_eq_true, not_true_eq_false, nI_add, pk_mul, jn_ltT, jn_ltF, jn_leT, jn_leF, jn_eqT, jn_eqF, jn_lt0, jn_ge0, jn_eq0T, jn_eq0F, jn_in, jn_cl, jf_7_0 hR, jf_7_1 hR, a8, rn, jx_rv, t.1]
  rw [tk_become t hR.tk2 (by omega) (by omega) (by omega) (by omega) (by omega)]
  have hR1 := (((hR.uf (v := F 2 0) e1 e2).uf (v := F 2 1) e1 e3).wi (f := va_cpy (A 3) (A (10 + 3 * F 7 1)) 0 0 25) e6).wi (f := va_cpy (A 4) (A (11 + 3 * F 7 1)) 0 0 25) e7
  have hD1 := ((((jD.rf (h := h)).uf (a := 9 + 3 * F 7 1) (k := 0) (v := .int (nI (F 2 0))) (by omega)).uf (a := 9 + 3 * F 7 1) (k := 1) (v := .int (nI (F 2 1))) (by omega)).wi (a := 10 + 3 * F 7 1) (n := 25) (f := va_cpy (A 3) (A (10 + 3 * F 7 1)) 0 0 25) (by omega)).wi (a := 11 + 3 * F 7 1) (n := 25) (f := va_cpy (A 4) (A (11 + 3 * F 7 1)) 0 0 25) (by omega)
  generalize jx_wi (jx_wi (jx_uf (jx_uf h (9 + 3 * F 7 1) 0 (.int (nI (F 2 0)))) (9 + 3 * F 7 1) 1 (.int (nI (F 2 1)))) (10 + 3 * F 7 1) 25 (va_cpy (A 3) (A (10 + 3 * F 7 1)) 0 0 25)) (11 + 3 * F 7 1) 25 (va_cpy (A 4) (A (11 + 3 * F 7 1)) 0 0 25) = h1 at hR1 hD1 ⊢
  have f1 := jf_7_1 hR1
  have f2 := jf_7_2 hR1
  rw [show jup (jup F (9 + 3 * F 7 1) 0 (F 2 0)) (9 + 3 * F 7 1) 1 (F 2 1) 7 1 = F 7 1 by rw [jup_ne (Or.inl (by omega)), jup_ne (Or.inl (by omega))]] at f1
  rw [show jup (jup F (9 + 3 * F 7 1) 0 (F 2 0)) (9 + 3 * F 7 1) 1 (F 2 1) 7 2 = F 7 2 by rw [jup_ne (Or.inl (by omega)), jup_ne (Or.inl (by omega))]] at f2
  have fin : ∀ v, v = (if F 7 1 + 1 = 30 then 0 else F 7 1 + 1) → jx_Go jxP (d + 1) 12 35 [.ref 7, .ref 2] [.int (nI v), .ref 7] h1 Q := by
    intro v hv
    simp (disch := first | omega | decide) only [s12_35, s12_38, s12_39, s12_40, s12_43, s12_44, s12_45, s12_47, s12_50, s12_53, Option.some.injEq, exists_eq_left', exists_eq_left, List.cons_append, List.nil_append, List.length_nil, List.length_cons, Nat.reduceAdd, Nat.reduceMul, Nat.reduceSub, Nat.reduceLeDiff, true_and, and_true, ↓reduceIte, not_false_eq_true, not_true_eq_false, nI_add, pk_mul, jn_ltT, jn_ltF, jn_leT, jn_leF, jn_eqT, jn_eqF, jn_lt0, jn_ge0, jn_eq0T, jn_eq0F, jn_in, jn_cl, jh_ai_wi, jh_ai_wi_ne, jh_ai_uf, jh_fl_wi_ne, jh_fl_uf_ne, jh_fl_uf_o, jh_cl_wi_ne, jh_cl_uf, jh_al_wi_ne, jh_al_uf, jh_al_wl, jh_al_wl_ne, jh_ai_wl_ne, jh_fl_wl_ne, jh_cl_wl_ne, jh_ar_wi_ne, jh_ar_uf, jh_ar_wl_ne, jh_1_wi, jh_1_uf, jh_1_wl, f1, f2, jmin2]
    rw [hv]
    exact k _ ((hR1.uf (o := 7) (k := 1) (v := if F 7 1 + 1 = 30 then 0 else F 7 1 + 1) rfl rfl).uf (o := 7) (k := 2) (v := min (F 7 2 + 1) 30) rfl rfl) ((hD1.uf (by decide)).uf (by decide))
  by_cases w : F 7 1 + 1 = 30
  · simp (disch := omega) only [s12_13, s12_14, s12_15, s12_18, s12_19, s12_20, s12_22, s12_25, s12_26, Option.some.injEq, exists_eq_left', exists_eq_left, List.cons_append, List.nil_append, List.length_nil, List.length_cons, Nat.reduceAdd, Nat.reduceMul, Nat.reduceSub, Nat.reduceLeDiff, true_and, and_true, ↓reduceIte, not_false_eq_true, not_true_eq_false, nI_add, pk_mul, jn_ltT, jn_ltF, jn_leT, jn_leF, jn_eqT, jn_eqF, jn_lt0, jn_ge0, jn_eq0T, jn_eq0F, jn_in, jn_cl, f1]
    exact fin 0 (by rw [if_pos w])
  · simp (disch := omega) only [s12_13, s12_14, s12_15, s12_18, s12_19, s12_20, s12_22, s12_29, s12_30, s12_33, s12_34, Option.some.injEq, exists_eq_left', exists_eq_left, List.cons_append, List.nil_append, List.length_nil, List.length_cons, Nat.reduceAdd, Nat.reduceMul, Nat.reduceSub, Nat.reduceLeDiff, true_and, and_true, ↓reduceIte, not_false_eq_true, not_true_eq_false, nI_add, pk_mul, jn_ltT, jn_ltF, jn_leT, jn_leF, jn_eqT, jn_eqF, jn_lt0, jn_ge0, jn_eq0T, jn_eq0F, jn_in, jn_cl, f1]
    exact fin _ (by rw [if_neg w])
theorem hi_pop (hR : jR F A G g h) (hn : F 7 1 < 30) (hk : 1 ≤ F 7 2) {n : Nat} (en : n = if F 7 1 = 0 then 29 else F 7 1 - 1) (k : ∀ h', jR (jup (jup (jup (jup F 7 1 n) 7 2 (F 7 2 - 1)) 2 0 (F (9 + 3 * n) 0)) 2 1 (F (9 + 3 * n) 1)) (jua (jua A 3 (va_cpy (A (10 + 3 * n)) (A 3) 0 0 25)) 4 (va_cpy (A (11 + 3 * n)) (A 4) 0 0 25)) G g h' → jD h h' → Q [] h') : jx_Go jxP (d + 1) 13 0 [.ref 7, .ref 2] [] h Q := by
  have n30 : n < 30 := by rw [en]; split <;> omega
  have fin : jx_Go jxP (d + 1) 13 19 [.ref 7, .ref 2] [.int (nI n), .ref 7] h Q := by
    simp (disch := first | omega | decide) only [s13_19, s13_22, s13_23i, s13_23r, s13_24, s13_27, s13_28, s13_29, Option.some.injEq, exists_eq_left', exists_eq_left, List.cons_append, List.nil_append, List.length_nil, List.length_cons, Nat.reduceAdd, Nat.reduceMul, Nat.reduceSub, Nat.reduceLeDiff, true_and, and_true, ↓reduceIte, not_false_eq_true, not_true_eq_false, nI_add, pk_mul, jn_ltT, jn_ltF, jn_leT, jn_leF, jn_eqT, jn_eqF, jn_lt0, jn_ge0, jn_eq0T, jn_eq0F, jn_in, jn_cl, jh_ai_wi, jh_ai_wi_ne, jh_ai_uf, jh_fl_wi_ne, jh_fl_uf_ne, jh_fl_uf_o, jh_cl_wi_ne, jh_cl_uf, jh_al_wi_ne, jh_al_uf, jh_al_wl, jh_al_wl_ne, jh_ai_wl_ne, jh_fl_wl_ne, jh_cl_wl_ne, jh_ar_wi_ne, jh_ar_uf, jh_ar_wl_ne, jh_1_wi, jh_1_uf, jh_1_wl, jf_7_1 hR, jf_7_2 hR, jn_sub]
    have hR1 := (hR.uf (o := 7) (k := 1) (v := n) rfl rfl).uf (o := 7) (k := 2) (v := F 7 2 - 1) rfl rfl
    have hD1 := ((jD.rf (h := h)).uf (a := 7) (k := 1) (v := .int (nI n)) (by decide)).uf (a := 7) (k := 2) (v := .int (nI (F 7 2 - 1))) (by decide)
    generalize jx_uf (jx_uf h 7 1 (.int (nI n))) 7 2 (.int (nI (F 7 2 - 1))) = h1 at hR1 hD1 ⊢
    have f1 := jf_7_1 hR1
    rw [show jup (jup F 7 1 n) 7 2 (F 7 2 - 1) 7 1 = n by rw [jup_ne (Or.inr (by decide)), jup_same]] at f1
    have t := hR1.tkh n30
    have g0 : ∀ j, jup (jup F 7 1 n) 7 2 (F 7 2 - 1) (9 + 3 * n) j = F (9 + 3 * n) j := fun j => by rw [jup_ne (Or.inl (by omega)), jup_ne (Or.inl (by omega))]
    rw [g0, g0] at t
    obtain ⟨r', a8, r8⟩ := hR1.2.2.1 8 2 _ _ rfl
    have rn : r' n = some (9 + 3 * n) := by rw [r8 _ n30, if_pos n30]
    simp (disch := omega) only [s13_32, s13_33, s13_34, s13_37, s13_38, s13_41, s13_42, Option.some.injEq, exists_eq_left', exists_eq_left, List.cons_append, List.nil_append, List.length_nil, List.length_cons, Nat.reduceAdd, Nat.reduceMul, Nat.reduceSub, Nat.reduceLeDiff, true_and, and_true, ↓reduceIte, not_false_eq_true, not_true_eq_false, nI_add, pk_mul, jn_ltT, jn_ltF, jn_leT, jn_leF, jn_eqT, jn_eqF, jn_lt0, jn_ge0, jn_eq0T, jn_eq0F, jn_in, jn_cl, jf_7_0 hR1, f1, a8, rn, jx_rv, jc_of_2 hR1]
    rw [tk_become hR1.tk2 t (by omega) (by omega) (by omega) (by omega) (by omega)]
    simp (disch := omega) only [s13_45, Option.some.injEq, exists_eq_left', exists_eq_left, List.cons_append, List.nil_append, List.length_nil, List.length_cons, Nat.reduceAdd, Nat.reduceMul, Nat.reduceSub, Nat.reduceLeDiff, true_and, and_true, ↓reduceIte, not_false_eq_true, not_true_eq_false, nI_add, pk_mul, jn_ltT, jn_ltF, jn_leT, jn_leF, jn_eqT, jn_eqF, jn_lt0, jn_ge0, jn_eq0T, jn_eq0F, jn_in, jn_cl]
    exact k _ ((((hR1.uf (o := 2) (k := 0) rfl rfl).uf (o := 2) (k := 1) rfl rfl).wi (a := 3) rfl).wi (a := 4) rfl) ((((hD1.uf (by decide)).uf (by decide)).wi (by decide)).wi (by decide))
  by_cases w : F 7 1 = 0
  · rw [if_pos w] at en
    simp (disch := omega) only [s13_0, s13_1, s13_2, s13_5, s13_8, s13_10, Option.some.injEq, exists_eq_left', exists_eq_left, List.cons_append, List.nil_append, List.length_nil, List.length_cons, Nat.reduceAdd, Nat.reduceMul, Nat.reduceSub, Nat.reduceLeDiff, true_and, and_true, ↓reduceIte, not_false_eq_true, not_true_eq_false, nI_add, pk_mul, jn_ltT, jn_ltF, jn_leT, jn_leF, jn_eqT, jn_eqF, jn_lt0, jn_ge0, jn_eq0T, jn_eq0F, jn_in, jn_cl, jf_7_1 hR]
    rw [en] at fin
    exact fin
  · rw [if_neg w] at en
    simp (disch := omega) only [s13_0, s13_1, s13_2, s13_5, s13_13, s13_14, s13_17, s13_18, Option.some.injEq, exists_eq_left', exists_eq_left, List.cons_append, List.nil_append, List.length_nil, List.length_cons, Nat.reduceAdd, Nat.reduceMul, Nat.reduceSub, Nat.reduceLeDiff, true_and, and_true, ↓reduceIte, not_false_eq_true, not_true_eq_false, nI_add, pk_mul, jn_ltT, jn_ltF, jn_leT, jn_leF, jn_eqT, jn_eqF, jn_lt0, jn_ge0, jn_eq0T, jn_eq0F, jn_in, jn_cl, jf_7_1 hR, jn_sub]
    rw [en] at fin
    exact fin
end CL4
