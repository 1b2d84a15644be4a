/-! ===== the reference: weights of blocks ===== -/
section MD19
variable {d : Nat} {F : Nat → Nat → Nat} {A : Nat → Nat → Int32} {G : Nat → Option Nat} {g : Nat → Int64} {h : jxH} {Q : List Value → jxH → Prop}
/-- the weights of the places within -/
def jW (wt : Nat → Int32) (R C : Nat) (W : Nat → Nat) : Prop := ∀ r c, r < R → c < C → wt (5 * r + c) = nI (W (5 * r + c)) ∧ W (5 * r + c) ≤ 1000
/-- the weight of what is x in the block B -/
def jwo (v : Nat → Int32) (W : Nat → Nat) (R C B : Nat) (x : Int32) : Nat := jsum R fun r => jsum C fun c => if (B / 32).testBit r = true ∧ (B % 32).testBit c = true ∧ v (5 * r + c) = x then W (5 * r + c) else 0
theorem jwo_le {v : Nat → Int32} {W : Nat → Nat} {wt : Nat → Int32} {R C B : Nat} {x : Int32} (hw : jW wt R C W) (hr : R ≤ 5) (hc : C ≤ 5) : jwo v W R C B x ≤ 25000 := by
  have h1 : ∀ r, r < R → (jsum C fun c => if (B / 32).testBit r = true ∧ (B % 32).testBit c = true ∧ v (5 * r + c) = x then W (5 * r + c) else 0) ≤ 5000 := fun r h' => by
    have := jsum_le (n := C) (m := 1000) (f := fun c => if (B / 32).testBit r = true ∧ (B % 32).testBit c = true ∧ v (5 * r + c) = x then W (5 * r + c) else 0) (fun i hi => by
      split
      · exact (hw r i h' hi).2
      · omega)
    have : C * 1000 ≤ 5000 := by omega
    omega
  have := jsum_le h1
  unfold jwo
  omega
theorem md_weightOf (hR : jR F A G g h) (hr : F 149 0 ≤ 5) (hc : F 149 1 ≤ 5) {W : Nat → Nat} (hw : jW (A 151) (F 149 0) (F 149 1) W) {B : Nat} {x : Int32} (hB : B < 1024) (k : Q [.int (nI (jwo (A 150) W (F 149 0) (F 149 1) B x))] h) : jx_Go jxP (d + 1) 181 0 [.ref 149, .int (nI B), .int x, jx_u, jx_u, jx_u] [] h Q := by
  simp (disch := omega) only [s181_0, s181_1, s181_2, s181_3, Option.some.injEq, exists_eq_left', exists_eq_left, List.cons_append, List.nil_append, List.length_nil, List.length_cons, Nat.reduceAdd, Nat.reduceMul, Nat.reduceSub, Nat.reduceLeDiff, true_and, and_true, ↓reduceIte, not_false_eq_true, not_true_eq_false, nI_add, pk_mul, jn_ltT, jn_ltF, jn_leT, jn_leF, jn_eqT, jn_eqF, jn_lt0, jn_ge0, jn_eq0T, jn_eq0F, jn_in, jn_cl]
  refine jloop (fun r => ∀ w5, jx_Go jxP (d + 1) 181 5 [.ref 149, .int (nI B), .int x, .int (nI (jsum r fun r => jsum (F 149 1) fun c => if (B / 32).testBit r = true ∧ (B % 32).testBit c = true ∧ A 150 (5 * r + c) = x then W (5 * r + c) else 0)), .int (nI r), w5] [] h Q) (F 149 0) ?_ ?_ 0 (Nat.zero_le _) _
  · intro w5
    rw [s181_5]
    simp (disch := omega) only [s181_7, s181_8, s181_11, s181_96, s181_97, Option.some.injEq, exists_eq_left', exists_eq_left, List.cons_append, List.nil_append, List.length_nil, List.length_cons, Nat.reduceAdd, Nat.reduceMul, Nat.reduceSub, Nat.reduceLeDiff, true_and, and_true, ↓reduceIte, not_false_eq_true, not_true_eq_false, nI_add, pk_mul, jn_ltT, jn_ltF, jn_leT, jn_leF, jn_eqT, jn_eqF, jn_lt0, jn_ge0, jn_eq0T, jn_eq0F, jn_in, jn_cl, jf_149_0 hR]
    exact k
  · intro r hr' ih w5
    rw [jsum_s] at ih
    generalize (jsum r fun r => jsum (F 149 1) fun c => if (B / 32).testBit r = true ∧ (B % 32).testBit c = true ∧ A 150 (5 * r + c) = x then W (5 * r + c) else 0) = acc at ih ⊢
    rw [s181_5]
    simp (disch := omega) only [s181_7, s181_8, s181_11, s181_14, s181_15, Option.some.injEq, exists_eq_left', exists_eq_left, List.cons_append, List.nil_append, List.length_nil, List.length_cons, Nat.reduceAdd, Nat.reduceMul, Nat.reduceSub, Nat.reduceLeDiff, true_and, and_true, ↓reduceIte, not_false_eq_true, not_true_eq_false, nI_add, pk_mul, jn_ltT, jn_ltF, jn_leT, jn_leF, jn_eqT, jn_eqF, jn_lt0, jn_ge0, jn_eq0T, jn_eq0F, jn_in, jn_cl, jf_149_0 hR]
    refine jloop (fun c => jx_Go jxP (d + 1) 181 17 [.ref 149, .int (nI B), .int x, .int (nI (acc + jsum c fun c => if (B / 32).testBit r = true ∧ (B % 32).testBit c = true ∧ A 150 (5 * r + c) = x then W (5 * r + c) else 0)), .int (nI r), .int (nI c)] [] h Q) (F 149 1) ?_ ?_ 0 (Nat.zero_le _)
    · rw [s181_17]
      simp (disch := omega) only [s181_19, s181_20, s181_23, s181_90, s181_93, Option.some.injEq, exists_eq_left', exists_eq_left, List.cons_append, List.nil_append, List.length_nil, List.length_cons, Nat.reduceAdd, Nat.reduceMul, Nat.reduceSub, Nat.reduceLeDiff, true_and, and_true, ↓reduceIte, not_false_eq_true, not_true_eq_false, nI_add, pk_mul, jn_ltT, jn_ltF, jn_leT, jn_leF, jn_eqT, jn_eqF, jn_lt0, jn_ge0, jn_eq0T, jn_eq0F, jn_in, jn_cl, jf_149_1 hR]
      exact ih _
    · intro c hc' ih2
      have hw' := hw r c hr' hc'
      rw [jsum_s, ← Nat.add_assoc] at ih2
      generalize (acc + jsum c fun c => if (B / 32).testBit r = true ∧ (B % 32).testBit c = true ∧ A 150 (5 * r + c) = x then W (5 * r + c) else 0) = s at ih2 ⊢
      rw [s181_17]
      simp (disch := omega) only [s181_19, s181_20, s181_23, s181_26, s181_27, s181_28, s181_29, s181_30, s181_32, Option.some.injEq, exists_eq_left', exists_eq_left, List.cons_append, List.nil_append, List.length_nil, List.length_cons, Nat.reduceAdd, Nat.reduceMul, Nat.reduceSub, Nat.reduceLeDiff, true_and, and_true, ↓reduceIte, not_false_eq_true, not_true_eq_false, nI_add, pk_mul, jn_ltT, jn_ltF, jn_leT, jn_leF, jn_eqT, jn_eqF, jn_lt0, jn_ge0, jn_eq0T, jn_eq0F, jn_in, jn_cl, jf_149_1 hR, jsh5, md_in]
      by_cases e1 : (B / 32).testBit r = true
      · simp (disch := omega) only [s181_35, s181_38, s181_39, s181_41, s181_42, s181_44, Option.some.injEq, exists_eq_left', exists_eq_left, List.cons_append, List.nil_append, List.length_nil, List.length_cons, Nat.reduceAdd, Nat.reduceMul, Nat.reduceSub, Nat.reduceLeDiff, true_and, and_true, ↓reduceIte, not_false_eq_true, not_true_eq_false, nI_add, pk_mul, jn_ltT, jn_ltF, jn_leT, jn_leF, jn_eqT, jn_eqF, jn_lt0, jn_ge0, jn_eq0T, jn_eq0F, jn_in, jn_cl, e1, jan31, md_in]
        by_cases e2 : (B % 32).testBit c = true
        · simp (disch := omega) only [s181_47, s181_50, s181_51, s181_54, s181_55, s181_57, s181_58, s181_60, s181_61, s181_62, Option.some.injEq, exists_eq_left', exists_eq_left, List.cons_append, List.nil_append, List.length_nil, List.length_cons, Nat.reduceAdd, Nat.reduceMul, Nat.reduceSub, Nat.reduceLeDiff, true_and, and_true, ↓reduceIte, not_false_eq_true, not_true_eq_false, nI_add, pk_mul, jn_ltT, jn_ltF, jn_leT, jn_leF, jn_eqT, jn_eqF, jn_lt0, jn_ge0, jn_eq0T, jn_eq0F, jn_in, jn_cl, e2, jf_149_2 hR, ja_150 hR]
          by_cases e3 : A 150 (5 * r + c) = x
          · rw [if_pos ⟨e1, e2, e3⟩] at ih2
            simp (disch := omega) only [s181_63, s181_66, s181_67, s181_70, s181_71, s181_73, s181_74, s181_76, s181_77, s181_78, s181_81, s181_82, s181_83, s181_84, s181_87, Option.some.injEq, exists_eq_left', exists_eq_left, List.cons_append, List.nil_append, List.length_nil, List.length_cons, Nat.reduceAdd, Nat.reduceMul, Nat.reduceSub, Nat.reduceLeDiff, true_and, and_true, ↓reduceIte, not_false_eq_true, not_true_eq_false, nI_add, pk_mul, jn_ltT, jn_ltF, jn_leT, jn_leF, jn_eqT, jn_eqF, jn_lt0, jn_ge0, jn_eq0T, jn_eq0F, jn_in, jn_cl, e3, jf_149_3 hR, ja_151 hR, hw'.1]
            exact ih2
          · rw [if_neg (fun z => e3 z.2.2)] at ih2
            simp (disch := omega) only [s181_63, s181_81, s181_82, s181_83, s181_84, s181_87, Option.some.injEq, exists_eq_left', exists_eq_left, List.cons_append, List.nil_append, List.length_nil, List.length_cons, Nat.reduceAdd, Nat.reduceMul, Nat.reduceSub, Nat.reduceLeDiff, true_and, and_true, ↓reduceIte, not_false_eq_true, not_true_eq_false, nI_add, pk_mul, jn_ltT, jn_ltF, jn_leT, jn_leF, jn_eqT, jn_eqF, jn_lt0, jn_ge0, jn_eq0T, jn_eq0F, jn_in, jn_cl, e3]
            exact ih2
        · rw [if_neg (fun z => e2 z.2.1)] at ih2
          simp (disch := omega) only [s181_47, s181_81, s181_82, s181_83, s181_84, s181_87, Option.some.injEq, exists_eq_left', exists_eq_left, List.cons_append, List.nil_append, List.length_nil, List.length_cons, Nat.reduceAdd, Nat.reduceMul, Nat.reduceSub, Nat.reduceLeDiff, true_and, and_true, ↓reduceIte, not_false_eq_true, not_true_eq_false, nI_add, pk_mul, jn_ltT, jn_ltF, jn_leT, jn_leF, jn_eqT, jn_eqF, jn_lt0, jn_ge0, jn_eq0T, jn_eq0F, jn_in, jn_cl, e2]
          exact ih2
      · rw [if_neg (fun z => e1 z.1)] at ih2
        simp (disch := omega) only [s181_35, s181_81, s181_82, s181_83, s181_84, s181_87, Option.some.injEq, exists_eq_left', exists_eq_left, List.cons_append, List.nil_append, List.length_nil, List.length_cons, Nat.reduceAdd, Nat.reduceMul, Nat.reduceSub, Nat.reduceLeDiff, true_and, and_true, ↓reduceIte, not_false_eq_true, not_true_eq_false, nI_add, pk_mul, jn_ltT, jn_ltF, jn_leT, jn_leF, jn_eqT, jn_eqF, jn_lt0, jn_ge0, jn_eq0T, jn_eq0F, jn_in, jn_cl, e1]
        exact ih2
end MD19
