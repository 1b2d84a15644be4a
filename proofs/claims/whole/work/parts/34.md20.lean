/-! ===== the reference: the swing ===== -/
section MD20
variable {d : Nat} {F : Nat → Nat → Nat} {A : Nat → Nat → Int32} {G : Nat → Option Nat} {g : Nat → Int64} {h : jxH} {Q : List Value → jxH → Prop}
/-- how far ones and zeros of B are apart -/
def jdf (v : Nat → Int32) (W : Nat → Nat) (R C B : Nat) : Nat := if jblk R C B = true then (jwo v W R C B (nI 1) - jwo v W R C B (nI 0)) + (jwo v W R C B (nI 0) - jwo v W R C B (nI 1)) else 0
def jsw (v : Nat → Int32) (W : Nat → Nat) (R C n : Nat) : Nat := match n with
  | 0 => 0
  | n + 1 => max (jdf v W R C n) (jsw v W R C n)
theorem jsw_s {v : Nat → Int32} {W : Nat → Nat} {R C n : Nat} : jsw v W R C (n + 1) = max (jdf v W R C n) (jsw v W R C n) := rfl
theorem jdf_le {v : Nat → Int32} {W : Nat → Nat} {wt : Nat → Int32} {R C B : Nat} (hw : jW wt R C W) (hr : R ≤ 5) (hc : C ≤ 5) : jdf v W R C B ≤ 25000 := by
  have h0 := jwo_le (v := v) (B := B) (x := nI 0) hw hr hc
  have h1 := jwo_le (v := v) (B := B) (x := nI 1) hw hr hc
  unfold jdf
  split <;> omega
theorem jsw_le {v : Nat → Int32} {W : Nat → Nat} {wt : Nat → Int32} {R C : Nat} (hw : jW wt R C W) (hr : R ≤ 5) (hc : C ≤ 5) : ∀ n, jsw v W R C n ≤ 25000 := by
  intro n
  induction n with
  | zero => exact Nat.zero_le _
  | succ n ih =>
    rw [jsw_s]
    have := jdf_le (v := v) (B := n) hw hr hc
    omega
theorem jn_subneg {a b : Nat} (h1 : a < b) (hb : b < 2147483648) : (0 ≤ nI a - nI b) = False ∧ -(nI a - nI b) = nI (b - a) := by
  have e : -(nI a - nI b) = nI (b - a) := by
    rw [Int32.neg_sub, jn_sub (by omega)]
  refine ⟨eq_false (fun w => ?_), e⟩
  rw [Int32.le_iff_toInt_le, Int32.toInt_sub, nI_toInt (by omega), nI_toInt (by omega), Int.bmod_def] at w
  have z : (0 : Int32).toInt = 0 := rfl
  rw [z] at w
  split at w <;> omega
theorem md_swing (hR : jR F A G g h) (hr : F 149 0 ≤ 5) (hc : F 149 1 ≤ 5) {W : Nat → Nat} (hw : jW (A 151) (F 149 0) (F 149 1) W) (k : Q [.int (nI (jsw (A 150) W (F 149 0) (F 149 1) (jalB (F 149 0) (F 149 1) + 1)))] h) : jx_Go jxP (d + 2) 182 0 [.ref 149, jx_u, jx_u, jx_u] [] h Q := by
  have p1 := jp2 _ hr
  have p2 := jp2 _ hc
  have al : ∀ (d : Nat) (Q : List Value → jxH → Prop), jx_Go jxP d 154 0 [.ref 149] [] h Q ↔ Q [.int (nI (jalB (F 149 0) (F 149 1)))] h := fun d Q => md_all hR hr hc
  have ub : jalB (F 149 0) (F 149 1) < 1024 := by unfold jalB; omega
  simp (disch := omega) only [s182_0, s182_1, s182_2, s182_3, Option.some.injEq, exists_eq_left', exists_eq_left, List.cons_append, List.nil_append, List.length_nil, List.length_cons, Nat.reduceAdd, Nat.reduceMul, Nat.reduceSub, Nat.reduceLeDiff, true_and, and_true, ↓reduceIte, not_false_eq_true, not_true_eq_false, nI_add, pk_mul, jn_ltT, jn_ltF, jn_leT, jn_leF, jn_eqT, jn_eqF, jn_lt0, jn_ge0, jn_eq0T, jn_eq0F, jn_in, jn_cl]
  refine jloop (fun B => ∀ w3, jx_Go jxP (d + 2) 182 4 [.ref 149, .int (nI (jsw (A 150) W (F 149 0) (F 149 1) B)), .int (nI B), w3] [] h Q) (jalB (F 149 0) (F 149 1) + 1) ?_ ?_ 0 (Nat.zero_le _) _
  · intro w3
    rw [s182_4]
    simp (disch := omega) only [s182_5, s182_6, s182_9, s182_66, s182_67, Option.some.injEq, exists_eq_left', exists_eq_left, List.cons_append, List.nil_append, List.length_nil, List.length_cons, Nat.reduceAdd, Nat.reduceMul, Nat.reduceSub, Nat.reduceLeDiff, true_and, and_true, ↓reduceIte, not_false_eq_true, not_true_eq_false, nI_add, pk_mul, jn_ltT, jn_ltF, jn_leT, jn_leF, jn_eqT, jn_eqF, jn_lt0, jn_ge0, jn_eq0T, jn_eq0F, jn_in, jn_cl, jc_of_149 hR, al]
    exact k
  · intro B hB ih w3
    rw [jsw_s] at ih
    have b1 := jsw_le (v := A 150) hw hr hc B
    have b2 := jdf_le (v := A 150) (B := B) hw hr hc
    have k48 : ∀ w3, jx_Go jxP (d + 2) 182 48 [.ref 149, .int (nI (jsw (A 150) W (F 149 0) (F 149 1) B)), .int (nI B), w3] [.int (nI (jdf (A 150) W (F 149 0) (F 149 1) B))] h Q := by
      intro w3
      by_cases w : jdf (A 150) W (F 149 0) (F 149 1) B ≤ jsw (A 150) W (F 149 0) (F 149 1) B
      · rw [Nat.max_eq_right w] at ih
        simp (disch := omega) only [s182_48, s182_49, s182_50, s182_51, s182_54, s182_55, s182_58, s182_59, s182_60, s182_63, Option.some.injEq, exists_eq_left', exists_eq_left, List.cons_append, List.nil_append, List.length_nil, List.length_cons, Nat.reduceAdd, Nat.reduceMul, Nat.reduceSub, Nat.reduceLeDiff, true_and, and_true, ↓reduceIte, not_false_eq_true, not_true_eq_false, nI_add, pk_mul, jn_ltT, jn_ltF, jn_leT, jn_leF, jn_eqT, jn_eqF, jn_lt0, jn_ge0, jn_eq0T, jn_eq0F, jn_in, jn_cl]
        exact ih _
      · rw [Nat.max_eq_left (by omega)] at ih
        simp (disch := omega) only [s182_48, s182_49, s182_50, s182_51, s182_54, s182_55, s182_58, s182_59, s182_60, s182_63, Option.some.injEq, exists_eq_left', exists_eq_left, List.cons_append, List.nil_append, List.length_nil, List.length_cons, Nat.reduceAdd, Nat.reduceMul, Nat.reduceSub, Nat.reduceLeDiff, true_and, and_true, ↓reduceIte, not_false_eq_true, not_true_eq_false, nI_add, pk_mul, jn_ltT, jn_ltF, jn_leT, jn_leF, jn_eqT, jn_eqF, jn_lt0, jn_ge0, jn_eq0T, jn_eq0F, jn_in, jn_cl]
        exact ih _
    rw [s182_4]
    simp (disch := omega) only [s182_5, s182_6, s182_9, s182_12, s182_13, s182_14, Option.some.injEq, exists_eq_left', exists_eq_left, List.cons_append, List.nil_append, List.length_nil, List.length_cons, Nat.reduceAdd, Nat.reduceMul, Nat.reduceSub, Nat.reduceLeDiff, true_and, and_true, ↓reduceIte, not_false_eq_true, not_true_eq_false, nI_add, pk_mul, jn_ltT, jn_ltF, jn_leT, jn_leF, jn_eqT, jn_eqF, jn_lt0, jn_ge0, jn_eq0T, jn_eq0F, jn_in, jn_cl, jc_of_149 hR, al]
    rw [md_isBlock hR hr hc (by unfold jalB at hB; omega)]
    by_cases hb : jblk (F 149 0) (F 149 1) B = true
    · rw [if_pos hb]
      have ed : jdf (A 150) W (F 149 0) (F 149 1) B = (jwo (A 150) W (F 149 0) (F 149 1) B (nI 1) - jwo (A 150) W (F 149 0) (F 149 1) B (nI 0)) + (jwo (A 150) W (F 149 0) (F 149 1) B (nI 0) - jwo (A 150) W (F 149 0) (F 149 1) B (nI 1)) := if_pos hb
      have h0 := jwo_le (v := A 150) (B := B) (x := nI 0) hw hr hc
      have h1 := jwo_le (v := A 150) (B := B) (x := nI 1) hw hr hc
      simp (disch := omega) only [s182_17, s182_20, s182_21, s182_22, s182_23, Option.some.injEq, exists_eq_left', exists_eq_left, List.cons_append, List.nil_append, List.length_nil, List.length_cons, Nat.reduceAdd, Nat.reduceMul, Nat.reduceSub, Nat.reduceLeDiff, true_and, and_true, ↓reduceIte, not_false_eq_true, not_true_eq_false, nI_add, pk_mul, jn_ltT, jn_ltF, jn_leT, jn_leF, jn_eqT, jn_eqF, jn_lt0, jn_ge0, jn_eq0T, jn_eq0F, jn_in, jn_cl, jc_of_149 hR]
      refine md_weightOf hR hr hc hw (by omega) ?_
      simp (disch := omega) only [s182_26, s182_27, s182_28, s182_29, Option.some.injEq, exists_eq_left', exists_eq_left, List.cons_append, List.nil_append, List.length_nil, List.length_cons, Nat.reduceAdd, Nat.reduceMul, Nat.reduceSub, Nat.reduceLeDiff, true_and, and_true, ↓reduceIte, not_false_eq_true, not_true_eq_false, nI_add, pk_mul, jn_ltT, jn_ltF, jn_leT, jn_leF, jn_eqT, jn_eqF, jn_lt0, jn_ge0, jn_eq0T, jn_eq0F, jn_in, jn_cl, jc_of_149 hR]
      refine md_weightOf hR hr hc hw (by omega) ?_
      rw [ed] at k48
      generalize jwo (A 150) W (F 149 0) (F 149 1) B (nI 1) = x1 at *
      generalize jwo (A 150) W (F 149 0) (F 149 1) B (nI 0) = x0 at *
      by_cases w : x0 ≤ x1
      · rw [show x1 - x0 + (x0 - x1) = x1 - x0 by omega] at k48
        simp (disch := omega) only [s182_32, s182_33, s182_36, s182_37, s182_38, s182_39, s182_42, s182_43, s182_44, s182_47, Option.some.injEq, exists_eq_left', exists_eq_left, List.cons_append, List.nil_append, List.length_nil, List.length_cons, Nat.reduceAdd, Nat.reduceMul, Nat.reduceSub, Nat.reduceLeDiff, true_and, and_true, ↓reduceIte, not_false_eq_true, not_true_eq_false, nI_add, pk_mul, jn_ltT, jn_ltF, jn_leT, jn_leF, jn_eqT, jn_eqF, jn_lt0, jn_ge0, jn_eq0T, jn_eq0F, jn_in, jn_cl, jn_sub]
        exact k48 _
      · rw [show x1 - x0 + (x0 - x1) = x0 - x1 by omega] at k48
        obtain ⟨q1, q2⟩ := jn_subneg (a := x1) (b := x0) (by omega) (by omega)
        simp (disch := omega) only [s182_32, s182_33, s182_36, s182_37, s182_38, s182_39, s182_42, s182_43, s182_44, Option.some.injEq, exists_eq_left', exists_eq_left, List.cons_append, List.nil_append, List.length_nil, List.length_cons, Nat.reduceAdd, Nat.reduceMul, Nat.reduceSub, Nat.reduceLeDiff, true_and, and_true, ↓reduceIte, not_false_eq_true, not_true_eq_false, nI_add, pk_mul, jn_ltT, jn_ltF, jn_leT, jn_leF, jn_eqT, jn_eqF, jn_lt0, jn_ge0, jn_eq0T, jn_eq0F, jn_in, jn_cl, q1, q2]
        exact k48 _
    · rw [if_neg hb]
      have ed : jdf (A 150) W (F 149 0) (F 149 1) B = 0 := if_neg hb
      rw [ed] at k48
      simp (disch := omega) only [s182_17, s182_36, s182_37, s182_38, s182_39, s182_42, s182_43, s182_44, s182_47, Option.some.injEq, exists_eq_left', exists_eq_left, List.cons_append, List.nil_append, List.length_nil, List.length_cons, Nat.reduceAdd, Nat.reduceMul, Nat.reduceSub, Nat.reduceLeDiff, true_and, and_true, ↓reduceIte, not_false_eq_true, not_true_eq_false, nI_add, pk_mul, jn_ltT, jn_ltF, jn_leT, jn_leF, jn_eqT, jn_eqF, jn_lt0, jn_ge0, jn_eq0T, jn_eq0F, jn_in, jn_cl]
      exact k48 _
end MD20
