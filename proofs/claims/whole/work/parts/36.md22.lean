/-! ===== the reference: how many orders ===== -/
section MD22
variable {d : Nat} {h : jxH} {Q : List Value → jxH → Prop}
def jfct (n : Nat) : Nat := match n with
  | 0 => 1
  | n + 1 => jfct n * (n + 1)
theorem jfct_s {n : Nat} : jfct (n + 1) = jfct n * (n + 1) := rfl
theorem jfct_le : ∀ n, n ≤ 5 → jfct n ≤ 120 := by decide
theorem md_orders {n : Nat} (h1 : 1 ≤ n) (hn : n ≤ 5) (k : Q [.int (nI (jfct n))] h) : jx_Go jxP d 194 0 [.int (nI n), jx_u, jx_u] [] h Q := by
  simp (disch := omega) only [s194_0, s194_1, s194_2, s194_3, Option.some.injEq, exists_eq_left', exists_eq_left, List.cons_append, List.nil_append, List.length_nil, List.length_cons, Nat.reduceAdd, Nat.reduceMul, Nat.reduceSub, Nat.reduceLeDiff, true_and, and_true, ↓reduceIte, not_false_eq_true, not_true_eq_false, nI_add, pk_mul, jn_ltT, jn_ltF, jn_leT, jn_leF, jn_eqT, jn_eqF, jn_lt0, jn_ge0, jn_eq0T, jn_eq0F, jn_in, jn_cl]
  refine jloop (fun i => 2 ≤ i → jx_Go jxP d 194 4 [.int (nI n), .int (nI (jfct (i - 1))), .int (nI i)] [] h Q) (n + 1) ?_ ?_ 2 (by omega) (by omega)
  · intro _
    rw [s194_4]
    simp (disch := omega) only [s194_5, s194_6, s194_19, s194_20, Option.some.injEq, exists_eq_left', exists_eq_left, List.cons_append, List.nil_append, List.length_nil, List.length_cons, Nat.reduceAdd, Nat.reduceMul, Nat.reduceSub, Nat.reduceLeDiff, true_and, and_true, ↓reduceIte, not_false_eq_true, not_true_eq_false, nI_add, pk_mul, jn_ltT, jn_ltF, jn_leT, jn_leF, jn_eqT, jn_eqF, jn_lt0, jn_ge0, jn_eq0T, jn_eq0F, jn_in, jn_cl]
    exact k
  · intro i hi ih h2
    obtain ⟨j, rfl⟩ : ∃ j, i = j + 1 := ⟨i - 1, by omega⟩
    have ih' := ih (by omega)
    rw [show j + 1 + 1 - 1 = j + 1 by omega, jfct_s] at ih'
    rw [show j + 1 - 1 = j by omega]
    rw [s194_4]
    simp (disch := omega) only [s194_5, s194_6, s194_9, s194_10, s194_11, s194_12, s194_13, s194_16, Option.some.injEq, exists_eq_left', exists_eq_left, List.cons_append, List.nil_append, List.length_nil, List.length_cons, Nat.reduceAdd, Nat.reduceMul, Nat.reduceSub, Nat.reduceLeDiff, true_and, and_true, ↓reduceIte, not_false_eq_true, not_true_eq_false, nI_add, pk_mul, jn_ltT, jn_ltF, jn_leT, jn_leF, jn_eqT, jn_eqF, jn_lt0, jn_ge0, jn_eq0T, jn_eq0F, jn_in, jn_cl]
    exact ih'
end MD22
