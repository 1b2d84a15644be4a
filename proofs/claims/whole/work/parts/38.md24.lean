/-! ===== the reference: cover and part, refused; the places that are x ===== -/
section MD24
variable {d : Nat} {F : Nat → Nat → Nat} {A : Nat → Nat → Int32} {G : Nat → Option Nat} {g : Nat → Int64} {h : jxH} {Q : List Value → jxH → Prop}
theorem md_cover_f (hR : jR F A G g h) {x : Int32} (hx : ¬ jbel x 2 = true) (k : ∀ h', jR (jup F 149 13 (F 149 13 + 1)) A G g h' → jD h h' → Q [.int (-1)] h') : jx_Go jxP (d + 1) 179 0 [.ref 149, .int x, jx_u, jx_u, jx_u] [] h Q := by
  have key : jx_Go jxP (d + 1) 179 9 [.ref 149, .int x, jx_u, jx_u, jx_u] [] h Q := by
    simp only [s179_9, s179_10, s179_11, Option.some.injEq, exists_eq_left', exists_eq_left, List.cons_append, List.nil_append, List.length_nil, List.length_cons, Nat.reduceAdd, Nat.reduceMul, Nat.reduceSub, Nat.reduceLeDiff, true_and, and_true, ↓reduceIte, not_false_eq_true, not_true_eq_false, nI_add, pk_mul, jn_ltT, jn_ltF, jn_leT, jn_leF, jn_eqT, jn_eqF, jn_lt0, jn_ge0, jn_eq0T, jn_eq0F, jn_in, jn_cl, jc_of_149 hR]
    exact md_finding hR (fun h' hR' hD' => by simp only [s179_14, Option.some.injEq, exists_eq_left', exists_eq_left, List.cons_append, List.nil_append, List.length_nil, List.length_cons, Nat.reduceAdd, Nat.reduceMul, Nat.reduceSub, Nat.reduceLeDiff, true_and, and_true, ↓reduceIte, not_false_eq_true, not_true_eq_false, nI_add, pk_mul, jn_ltT, jn_ltF, jn_leT, jn_leF, jn_eqT, jn_eqF, jn_lt0, jn_ge0, jn_eq0T, jn_eq0F, jn_in, jn_cl]; exact k h' hR' hD')
  simp only [s179_0, s179_1, Option.some.injEq, exists_eq_left', exists_eq_left, List.cons_append, List.nil_append, List.length_nil, List.length_cons, Nat.reduceAdd, Nat.reduceMul, Nat.reduceSub, Nat.reduceLeDiff, true_and, and_true, ↓reduceIte, not_false_eq_true, not_true_eq_false, nI_add, pk_mul, jn_ltT, jn_ltF, jn_leT, jn_leF, jn_eqT, jn_eqF, jn_lt0, jn_ge0, jn_eq0T, jn_eq0F, jn_in, jn_cl]
  rcases jbel_f hx with w | ⟨w, w2⟩
  · rw [if_pos w]; exact key
  · rw [if_neg w]
    simp only [s179_4, s179_5, s179_6, Option.some.injEq, exists_eq_left', exists_eq_left, List.cons_append, List.nil_append, List.length_nil, List.length_cons, Nat.reduceAdd, Nat.reduceMul, Nat.reduceSub, Nat.reduceLeDiff, true_and, and_true, ↓reduceIte, not_false_eq_true, not_true_eq_false, nI_add, pk_mul, jn_ltT, jn_ltF, jn_leT, jn_leF, jn_eqT, jn_eqF, jn_lt0, jn_ge0, jn_eq0T, jn_eq0F, jn_in, jn_cl]
    rw [if_neg (by rw [jle_bel (by omega)]; exact fun z => z w2)]
    exact key
theorem md_part_f (hR : jR F A G g h) (hr : F 149 0 ≤ 5) (hc : F 149 1 ≤ 5) (e : 4 < F 149 0 ∨ 4 < F 149 1) (k : ∀ h', jR (jup F 149 13 (F 149 13 + 1)) A G g h' → jD h h' → Q [.int (-7)] h') : jx_Go jxP (d + 1) 180 0 [.ref 149, jx_u, jx_u, jx_u, jx_u, jx_u, jx_u] [] h Q := by
  have key : jx_Go jxP (d + 1) 180 16 [.ref 149, jx_u, jx_u, jx_u, jx_u, jx_u, jx_u] [] h Q := by
    simp only [s180_16, s180_17, s180_19, Option.some.injEq, exists_eq_left', exists_eq_left, List.cons_append, List.nil_append, List.length_nil, List.length_cons, Nat.reduceAdd, Nat.reduceMul, Nat.reduceSub, Nat.reduceLeDiff, true_and, and_true, ↓reduceIte, not_false_eq_true, not_true_eq_false, nI_add, pk_mul, jn_ltT, jn_ltF, jn_leT, jn_leF, jn_eqT, jn_eqF, jn_lt0, jn_ge0, jn_eq0T, jn_eq0F, jn_in, jn_cl, jc_of_149 hR]
    exact md_finding hR (fun h' hR' hD' => by simp only [s180_22, Option.some.injEq, exists_eq_left', exists_eq_left, List.cons_append, List.nil_append, List.length_nil, List.length_cons, Nat.reduceAdd, Nat.reduceMul, Nat.reduceSub, Nat.reduceLeDiff, true_and, and_true, ↓reduceIte, not_false_eq_true, not_true_eq_false, nI_add, pk_mul, jn_ltT, jn_ltF, jn_leT, jn_leF, jn_eqT, jn_eqF, jn_lt0, jn_ge0, jn_eq0T, jn_eq0F, jn_in, jn_cl]; exact k h' hR' hD')
  by_cases w : 4 < F 149 0
  · simp (disch := omega) only [s180_0, s180_1, s180_4, s180_5, Option.some.injEq, exists_eq_left', exists_eq_left, List.cons_append, List.nil_append, List.length_nil, List.length_cons, Nat.reduceAdd, Nat.reduceMul, Nat.reduceSub, Nat.reduceLeDiff, true_and, and_true, ↓reduceIte, not_false_eq_true, not_true_eq_false, nI_add, pk_mul, jn_ltT, jn_ltF, jn_leT, jn_leF, jn_eqT, jn_eqF, jn_lt0, jn_ge0, jn_eq0T, jn_eq0F, jn_in, jn_cl, jf_149_0 hR]
    exact key
  · simp (disch := omega) only [s180_0, s180_1, s180_4, s180_5, s180_8, s180_9, s180_12, s180_13, Option.some.injEq, exists_eq_left', exists_eq_left, List.cons_append, List.nil_append, List.length_nil, List.length_cons, Nat.reduceAdd, Nat.reduceMul, Nat.reduceSub, Nat.reduceLeDiff, true_and, and_true, ↓reduceIte, not_false_eq_true, not_true_eq_false, nI_add, pk_mul, jn_ltT, jn_ltF, jn_leT, jn_leF, jn_eqT, jn_eqF, jn_lt0, jn_ge0, jn_eq0T, jn_eq0F, jn_in, jn_cl, jf_149_0 hR, jf_149_1 hR]
    exact key
/-- the places that are x -/
def jpx (v : Nat → Int32) (R C : Nat) (x : Int32) : Nat := jmk (5 * R) fun p => decide (p % 5 < C) && v p == x
theorem md_cover1 (hR : jR F A G g h) (hr : F 149 0 ≤ 5) (hc : F 149 1 ≤ 5) {x : Nat} (hx : x < 2) (k : ∀ w4, jx_Go jxP (d + 1) 179 83 [.ref 149, .int (nI x), .int (nI (jpx (A 150) (F 149 0) (F 149 1) (nI x))), .int (nI 0), w4] [] h Q) : jx_Go jxP (d + 1) 179 0 [.ref 149, .int (nI x), jx_u, jx_u, jx_u] [] h Q := by
  simp (disch := omega) only [s179_0, s179_1, s179_4, s179_5, s179_6, s179_9, s179_10, s179_11, s179_14, s179_15, s179_16, s179_17, s179_18, Option.some.injEq, exists_eq_left', exists_eq_left, List.cons_append, List.nil_append, List.length_nil, List.length_cons, Nat.reduceAdd, Nat.reduceMul, Nat.reduceSub, Nat.reduceLeDiff, true_and, and_true, ↓reduceIte, not_false_eq_true, not_true_eq_false, nI_add, pk_mul, jn_ltT, jn_ltF, jn_leT, jn_leF, jn_eqT, jn_eqF, jn_lt0, jn_ge0, jn_eq0T, jn_eq0F, jn_in, jn_cl]
  refine jloop (fun r => ∀ w4, jx_Go jxP (d + 1) 179 19 [.ref 149, .int (nI x), .int (nI (jmk (5 * r) fun p => decide (p % 5 < F 149 1) && A 150 p == nI x)), .int (nI r), w4] [] h Q) (F 149 0) ?_ ?_ 0 (Nat.zero_le _) _
  · intro w4
    rw [s179_19]
    simp (disch := omega) only [s179_20, s179_21, s179_24, s179_81, s179_82, Option.some.injEq, exists_eq_left', exists_eq_left, List.cons_append, List.nil_append, List.length_nil, List.length_cons, Nat.reduceAdd, Nat.reduceMul, Nat.reduceSub, Nat.reduceLeDiff, true_and, and_true, ↓reduceIte, not_false_eq_true, not_true_eq_false, nI_add, pk_mul, jn_ltT, jn_ltF, jn_leT, jn_leF, jn_eqT, jn_eqF, jn_lt0, jn_ge0, jn_eq0T, jn_eq0F, jn_in, jn_cl, jf_149_0 hR]
    exact k _
  · intro r hr' ih w4
    rw [s179_19]
    simp (disch := omega) only [s179_20, s179_21, s179_24, s179_27, s179_28, Option.some.injEq, exists_eq_left', exists_eq_left, List.cons_append, List.nil_append, List.length_nil, List.length_cons, Nat.reduceAdd, Nat.reduceMul, Nat.reduceSub, Nat.reduceLeDiff, true_and, and_true, ↓reduceIte, not_false_eq_true, not_true_eq_false, nI_add, pk_mul, jn_ltT, jn_ltF, jn_leT, jn_leF, jn_eqT, jn_eqF, jn_lt0, jn_ge0, jn_eq0T, jn_eq0F, jn_in, jn_cl, jf_149_0 hR]
    refine jloop (fun c => jx_Go jxP (d + 1) 179 30 [.ref 149, .int (nI x), .int (nI (jmk (5 * r + c) fun p => decide (p % 5 < F 149 1) && A 150 p == nI x)), .int (nI r), .int (nI c)] [] h Q) (F 149 1) ?_ ?_ 0 (Nat.zero_le _)
    · have sk := jmk_skip (p := fun p => decide (p % 5 < F 149 1) && A 150 p == nI x) (n := 5 * r + F 149 1) (5 * (r + 1)) (by omega) (fun i h1 h2 => by
        rw [decide_eq_false (by omega)]
        rfl)
      rw [sk] at ih
      rw [s179_30]
      simp (disch := omega) only [s179_32, s179_33, s179_36, s179_75, s179_78, Option.some.injEq, exists_eq_left', exists_eq_left, List.cons_append, List.nil_append, List.length_nil, List.length_cons, Nat.reduceAdd, Nat.reduceMul, Nat.reduceSub, Nat.reduceLeDiff, true_and, and_true, ↓reduceIte, not_false_eq_true, not_true_eq_false, nI_add, pk_mul, jn_ltT, jn_ltF, jn_leT, jn_leF, jn_eqT, jn_eqF, jn_lt0, jn_ge0, jn_eq0T, jn_eq0F, jn_in, jn_cl, jf_149_1 hR]
      exact ih _
    · intro c hc' ih2
      rw [← Nat.add_assoc, ← jmk_or, show (5 * r + c) % 5 = c by omega, decide_eq_true hc', Bool.true_and] at ih2
      generalize (jmk (5 * r + c) fun p => decide (p % 5 < F 149 1) && A 150 p == nI x) = acc at ih2 ⊢
      rw [s179_30]
      simp (disch := omega) only [s179_32, s179_33, s179_36, s179_39, s179_40, s179_41, s179_44, s179_45, s179_46, s179_47, s179_49, s179_50, s179_51, Option.some.injEq, exists_eq_left', exists_eq_left, List.cons_append, List.nil_append, List.length_nil, List.length_cons, Nat.reduceAdd, Nat.reduceMul, Nat.reduceSub, Nat.reduceLeDiff, true_and, and_true, ↓reduceIte, not_false_eq_true, not_true_eq_false, nI_add, pk_mul, jn_ltT, jn_ltF, jn_leT, jn_leF, jn_eqT, jn_eqF, jn_lt0, jn_ge0, jn_eq0T, jn_eq0F, jn_in, jn_cl, jf_149_1 hR, jf_149_2 hR, ja_150 hR]
      by_cases z : A 150 (5 * r + c) = nI x
      · rw [z, beq_self_eq_true, if_pos rfl] at ih2
        simp (disch := omega) only [s179_52, s179_55, s179_56, s179_57, s179_58, s179_59, s179_61, s179_62, s179_63, s179_66, s179_67, s179_68, s179_69, s179_72, Option.some.injEq, exists_eq_left', exists_eq_left, List.cons_append, List.nil_append, List.length_nil, List.length_cons, Nat.reduceAdd, Nat.reduceMul, Nat.reduceSub, Nat.reduceLeDiff, true_and, and_true, ↓reduceIte, not_false_eq_true, not_true_eq_false, nI_add, pk_mul, jn_ltT, jn_ltF, jn_leT, jn_leF, jn_eqT, jn_eqF, jn_lt0, jn_ge0, jn_eq0T, jn_eq0F, jn_in, jn_cl, z, jsh1, jn_or]
        exact ih2
      · rw [beq_eq_false_iff_ne.mpr z, if_neg (by decide)] at ih2
        simp (disch := omega) only [s179_52, s179_66, s179_67, s179_68, s179_69, s179_72, Option.some.injEq, exists_eq_left', exists_eq_left, List.cons_append, List.nil_append, List.length_nil, List.length_cons, Nat.reduceAdd, Nat.reduceMul, Nat.reduceSub, Nat.reduceLeDiff, true_and, and_true, ↓reduceIte, not_false_eq_true, not_true_eq_false, nI_add, pk_mul, jn_ltT, jn_ltF, jn_leT, jn_leF, jn_eqT, jn_eqF, jn_lt0, jn_ge0, jn_eq0T, jn_eq0F, jn_in, jn_cl, z, jn_or]
        exact ih2
end MD24
