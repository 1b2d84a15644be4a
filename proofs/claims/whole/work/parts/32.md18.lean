/-! ===== the reference: sets of rows and of places ===== -/
section MD18
variable {d : Nat} {F : Nat → Nat → Nat} {A : Nat → Nat → Int32} {G : Nat → Option Nat} {g : Nat → Int64} {h : jxH} {Q : List Value → jxH → Prop}
/-- the set of those below n with p -/
def jmk (n : Nat) (p : Nat → Bool) : Nat := match n with
  | 0 => 0
  | n + 1 => jmk n p + if p n = true then 2 ^ n else 0
theorem jmk_s {n : Nat} {p : Nat → Bool} : jmk (n + 1) p = jmk n p + if p n = true then 2 ^ n else 0 := rfl
theorem jmk_lt {p : Nat → Bool} : ∀ n, jmk n p < 2 ^ n := by
  intro n
  induction n with
  | zero => exact Nat.zero_lt_one
  | succ n ih =>
    rw [jmk_s, Nat.pow_succ]
    split <;> omega
theorem jmk_or {p : Nat → Bool} {n : Nat} : jmk n p ||| (if p n = true then 2 ^ n else 0) = jmk (n + 1) p := by
  rw [jmk_s]
  by_cases w : p n = true
  · rw [if_pos w]
    have := Nat.two_pow_add_eq_or_of_lt (jmk_lt (p := p) n) 1
    rw [Nat.mul_one] at this
    rw [Nat.or_comm, ← this, Nat.add_comm]
  · rw [if_neg w, Nat.or_zero, Nat.add_zero]
theorem jmk_bit {p : Nat → Bool} {i : Nat} : ∀ n, (jmk n p).testBit i = (decide (i < n) && p i) := by
  intro n
  induction n with
  | zero => rw [show jmk 0 p = 0 from rfl, Nat.zero_testBit, decide_eq_false (Nat.not_lt_zero _)]; rfl
  | succ n ih =>
    rw [← jmk_or, Nat.testBit_or, ih]
    by_cases e : i = n
    · subst e
      rw [decide_eq_false (Nat.lt_irrefl _), decide_eq_true (Nat.lt_succ_self _), Bool.false_and, Bool.false_or, Bool.true_and]
      by_cases w : p i = true
      · rw [if_pos w, Nat.testBit_two_pow_self, w]
      · rw [if_neg w, Nat.zero_testBit, Bool.eq_false_iff.mpr w]
    · have z : (if p n = true then 2 ^ n else 0).testBit i = false := by
        split
        · rw [Nat.testBit_two_pow, decide_eq_false (fun w => e w.symm)]
        · exact Nat.zero_testBit _
      rw [z, Bool.or_false]
      congr 1
      exact decide_eq_decide.mpr ⟨fun w => by omega, fun w => by omega⟩
theorem jmk_skip {p : Nat → Bool} {n : Nat} : ∀ m, n ≤ m → (∀ i, n ≤ i → i < m → p i = false) → jmk m p = jmk n p := by
  intro m
  induction m with
  | zero => intro h1 _; rw [show n = 0 by omega]
  | succ m ih =>
    intro h1 h2
    rcases Nat.lt_or_ge m n with w | w
    · rw [show n = m + 1 by omega]
    · rw [jmk_s, h2 m w (by omega), ih w (fun i h3 h4 => h2 i h3 (by omega))]
      rfl
theorem jmk_31 {p : Nat → Bool} {n : Nat} (hn : n ≤ 25) : jmk n p < 33554432 := Nat.lt_of_lt_of_le (jmk_lt n) (Nat.le_trans (Nat.pow_le_pow_right (by omega) hn) (by decide))
/-- the rows that have no 1 - x in the columns y -/
def jrw (v : Nat → Int32) (R C y x : Nat) : Nat := jmk R fun r => jall C fun c => !(y.testBit c && v (5 * r + c) == nI (1 - x))
theorem md_rowsFor (hR : jR F A G g h) (hr : F 149 0 ≤ 5) (hc : F 149 1 ≤ 5) {x y : Nat} (hx : x < 2) (hy : y < 32) (k : Q [.int (nI (jrw (A 150) (F 149 0) (F 149 1) y x))] h) : jx_Go jxP (d + 1) 176 0 [.ref 149, .int (nI y), .int (nI x), jx_u, jx_u, jx_u, jx_u] [] h Q := by
  simp (disch := omega) only [s176_0, s176_1, s176_2, s176_3, Option.some.injEq, exists_eq_left', exists_eq_left, List.cons_append, List.nil_append, List.length_nil, List.length_cons, Nat.reduceAdd, Nat.reduceMul, Nat.reduceSub, Nat.reduceLeDiff, true_and, and_true, ↓reduceIte, not_false_eq_true, not_true_eq_false, nI_add, pk_mul, jn_ltT, jn_ltF, jn_leT, jn_leF, jn_eqT, jn_eqF, jn_lt0, jn_ge0, jn_eq0T, jn_eq0F, jn_in, jn_cl]
  refine jloop (fun r => ∀ w5 w6, jx_Go jxP (d + 1) 176 5 [.ref 149, .int (nI y), .int (nI x), .int (nI (jmk r fun r => jall (F 149 1) fun c => !(y.testBit c && A 150 (5 * r + c) == nI (1 - x)))), .int (nI r), w5, w6] [] h Q) (F 149 0) ?_ ?_ 0 (Nat.zero_le _) _ _
  · intro w5 w6
    rw [s176_5]
    simp (disch := omega) only [s176_7, s176_8, s176_11, s176_94, s176_95, Option.some.injEq, exists_eq_left', exists_eq_left, List.cons_append, List.nil_append, List.length_nil, List.length_cons, Nat.reduceAdd, Nat.reduceMul, Nat.reduceSub, Nat.reduceLeDiff, true_and, and_true, ↓reduceIte, not_false_eq_true, not_true_eq_false, nI_add, pk_mul, jn_ltT, jn_ltF, jn_leT, jn_leF, jn_eqT, jn_eqF, jn_lt0, jn_ge0, jn_eq0T, jn_eq0F, jn_in, jn_cl, jf_149_0 hR]
    exact k
  · intro r hr' ih w5 w6
    rw [← jmk_or] at ih
    generalize (jmk r fun r => jall (F 149 1) fun c => !(y.testBit c && A 150 (5 * r + c) == nI (1 - x))) = acc at ih ⊢
    rw [s176_5]
    simp (disch := omega) only [s176_7, s176_8, s176_11, s176_14, s176_15, s176_17, s176_18, Option.some.injEq, exists_eq_left', exists_eq_left, List.cons_append, List.nil_append, List.length_nil, List.length_cons, Nat.reduceAdd, Nat.reduceMul, Nat.reduceSub, Nat.reduceLeDiff, true_and, and_true, ↓reduceIte, not_false_eq_true, not_true_eq_false, nI_add, pk_mul, jn_ltT, jn_ltF, jn_leT, jn_leF, jn_eqT, jn_eqF, jn_lt0, jn_ge0, jn_eq0T, jn_eq0F, jn_in, jn_cl, jf_149_0 hR]
    refine jloop (fun c => jx_Go jxP (d + 1) 176 20 [.ref 149, .int (nI y), .int (nI x), .int (nI acc), .int (nI r), .int (nI (jall c fun c => !(y.testBit c && A 150 (5 * r + c) == nI (1 - x))).toNat), .int (nI c)] [] h Q) (F 149 1) ?_ ?_ 0 (Nat.zero_le _)
    · rw [s176_20]
      simp (disch := omega) only [s176_22, s176_23, s176_26, s176_72, s176_73, Option.some.injEq, exists_eq_left', exists_eq_left, List.cons_append, List.nil_append, List.length_nil, List.length_cons, Nat.reduceAdd, Nat.reduceMul, Nat.reduceSub, Nat.reduceLeDiff, true_and, and_true, ↓reduceIte, not_false_eq_true, not_true_eq_false, nI_add, pk_mul, jn_ltT, jn_ltF, jn_leT, jn_leF, jn_eqT, jn_eqF, jn_lt0, jn_ge0, jn_eq0T, jn_eq0F, jn_in, jn_cl, jf_149_1 hR]
      cases e : (jall (F 149 1) fun c => !(y.testBit c && A 150 (5 * r + c) == nI (1 - x))) with
      | false =>
        rw [e, if_neg (by decide)] at ih
        simp (disch := omega) only [s176_75, s176_85, s176_86, s176_87, s176_88, s176_91, Option.some.injEq, exists_eq_left', exists_eq_left, List.cons_append, List.nil_append, List.length_nil, List.length_cons, Nat.reduceAdd, Nat.reduceMul, Nat.reduceSub, Nat.reduceLeDiff, true_and, and_true, ↓reduceIte, not_false_eq_true, not_true_eq_false, nI_add, pk_mul, jn_ltT, jn_ltF, jn_leT, jn_leF, jn_eqT, jn_eqF, jn_lt0, jn_ge0, jn_eq0T, jn_eq0F, jn_in, jn_cl, Bool.toNat_false, jn_or]
        exact ih _ _
      | true =>
        rw [e, if_pos rfl] at ih
        simp (disch := omega) only [s176_75, s176_78, s176_79, s176_81, s176_82, s176_85, s176_86, s176_87, s176_88, s176_91, Option.some.injEq, exists_eq_left', exists_eq_left, List.cons_append, List.nil_append, List.length_nil, List.length_cons, Nat.reduceAdd, Nat.reduceMul, Nat.reduceSub, Nat.reduceLeDiff, true_and, and_true, ↓reduceIte, not_false_eq_true, not_true_eq_false, nI_add, pk_mul, jn_ltT, jn_ltF, jn_leT, jn_leF, jn_eqT, jn_eqF, jn_lt0, jn_ge0, jn_eq0T, jn_eq0F, jn_in, jn_cl, Bool.toNat_true, jsh1, jn_or]
        exact ih _ _
    · intro c hc' ih2
      rw [jall_s] at ih2
      generalize (jall c fun c => !(y.testBit c && A 150 (5 * r + c) == nI (1 - x))) = a at ih2 ⊢
      have k63 : ∀ u : Bool, u = (!(y.testBit c && A 150 (5 * r + c) == nI (1 - x))) → jx_Go jxP (d + 1) 176 63 [.ref 149, .int (nI y), .int (nI x), .int (nI acc), .int (nI r), .int (nI a.toNat), .int (nI c)] [.int (nI u.toNat), .int (nI a.toNat)] h Q := by
        rintro u rfl
        simp (disch := omega) only [s176_63, s176_64, s176_66, s176_69, Option.some.injEq, exists_eq_left', exists_eq_left, List.cons_append, List.nil_append, List.length_nil, List.length_cons, Nat.reduceAdd, Nat.reduceMul, Nat.reduceSub, Nat.reduceLeDiff, true_and, and_true, ↓reduceIte, not_false_eq_true, not_true_eq_false, nI_add, pk_mul, jn_ltT, jn_ltF, jn_leT, jn_leF, jn_eqT, jn_eqF, jn_lt0, jn_ge0, jn_eq0T, jn_eq0F, jn_in, jn_cl, jb_and]
        exact ih2
      rw [s176_20]
      simp (disch := omega) only [s176_22, s176_23, s176_26, s176_29, s176_31, s176_32, s176_34, Option.some.injEq, exists_eq_left', exists_eq_left, List.cons_append, List.nil_append, List.length_nil, List.length_cons, Nat.reduceAdd, Nat.reduceMul, Nat.reduceSub, Nat.reduceLeDiff, true_and, and_true, ↓reduceIte, not_false_eq_true, not_true_eq_false, nI_add, pk_mul, jn_ltT, jn_ltF, jn_leT, jn_leF, jn_eqT, jn_eqF, jn_lt0, jn_ge0, jn_eq0T, jn_eq0F, jn_in, jn_cl, jf_149_1 hR, md_in]
      cases e1 : y.testBit c with
      | false =>
        rw [e1] at k63
        simp (disch := omega) only [s176_37, s176_58, s176_59, Option.some.injEq, exists_eq_left', exists_eq_left, List.cons_append, List.nil_append, List.length_nil, List.length_cons, Nat.reduceAdd, Nat.reduceMul, Nat.reduceSub, Nat.reduceLeDiff, true_and, and_true, ↓reduceIte, not_false_eq_true, not_true_eq_false, nI_add, pk_mul, jn_ltT, jn_ltF, jn_leT, jn_leF, jn_eqT, jn_eqF, jn_lt0, jn_ge0, jn_eq0T, jn_eq0F, jn_in, jn_cl, Bool.false_eq_true]
        exact k63 true rfl
      | true =>
        rw [e1] at k63
        simp (disch := omega) only [s176_37, s176_40, s176_41, s176_44, s176_45, s176_47, s176_48, s176_50, s176_51, s176_52, s176_53, s176_54, Option.some.injEq, exists_eq_left', exists_eq_left, List.cons_append, List.nil_append, List.length_nil, List.length_cons, Nat.reduceAdd, Nat.reduceMul, Nat.reduceSub, Nat.reduceLeDiff, true_and, and_true, ↓reduceIte, not_false_eq_true, not_true_eq_false, nI_add, pk_mul, jn_ltT, jn_ltF, jn_leT, jn_leF, jn_eqT, jn_eqF, jn_lt0, jn_ge0, jn_eq0T, jn_eq0F, jn_in, jn_cl, jf_149_2 hR, ja_150 hR, jn_sub]
        by_cases z : A 150 (5 * r + c) = nI (1 - x)
        · simp (disch := omega) only [s176_55, s176_62, Option.some.injEq, exists_eq_left', exists_eq_left, List.cons_append, List.nil_append, List.length_nil, List.length_cons, Nat.reduceAdd, Nat.reduceMul, Nat.reduceSub, Nat.reduceLeDiff, true_and, and_true, ↓reduceIte, not_false_eq_true, not_true_eq_false, nI_add, pk_mul, jn_ltT, jn_ltF, jn_leT, jn_leF, jn_eqT, jn_eqF, jn_lt0, jn_ge0, jn_eq0T, jn_eq0F, jn_in, jn_cl, z]
          exact k63 false (by rw [z, beq_self_eq_true]; rfl)
        · simp (disch := omega) only [s176_55, s176_58, s176_59, Option.some.injEq, exists_eq_left', exists_eq_left, List.cons_append, List.nil_append, List.length_nil, List.length_cons, Nat.reduceAdd, Nat.reduceMul, Nat.reduceSub, Nat.reduceLeDiff, true_and, and_true, ↓reduceIte, not_false_eq_true, not_true_eq_false, nI_add, pk_mul, jn_ltT, jn_ltF, jn_leT, jn_leF, jn_eqT, jn_eqF, jn_lt0, jn_ge0, jn_eq0T, jn_eq0F, jn_in, jn_cl, z]
          exact k63 true (by rw [beq_eq_false_iff_ne.mpr z]; rfl)
/-- the places of a block -/
def jpl (R C x y : Nat) : Nat := jmk (5 * R) fun p => (decide (p % 5 < C) && x.testBit (p / 5)) && y.testBit (p % 5)
theorem md_placesOf (hR : jR F A G g h) (hr : F 149 0 ≤ 5) (hc : F 149 1 ≤ 5) {x y : Nat} (hx : x < 32) (hy : y < 32) (k : Q [.int (nI (jpl (F 149 0) (F 149 1) x y))] h) : jx_Go jxP (d + 1) 177 0 [.ref 149, .int (nI x), .int (nI y), jx_u, jx_u, jx_u] [] h Q := by
  simp (disch := omega) only [s177_0, s177_1, s177_2, s177_3, Option.some.injEq, exists_eq_left', exists_eq_left, List.cons_append, List.nil_append, List.length_nil, List.length_cons, Nat.reduceAdd, Nat.reduceMul, Nat.reduceSub, Nat.reduceLeDiff, true_and, and_true, ↓reduceIte, not_false_eq_true, not_true_eq_false, nI_add, pk_mul, jn_ltT, jn_ltF, jn_leT, jn_leF, jn_eqT, jn_eqF, jn_lt0, jn_ge0, jn_eq0T, jn_eq0F, jn_in, jn_cl]
  refine jloop (fun r => ∀ w5, jx_Go jxP (d + 1) 177 5 [.ref 149, .int (nI x), .int (nI y), .int (nI (jmk (5 * r) fun p => (decide (p % 5 < F 149 1) && x.testBit (p / 5)) && y.testBit (p % 5))), .int (nI r), w5] [] h Q) (F 149 0) ?_ ?_ 0 (Nat.zero_le _) _
  · intro w5
    rw [s177_5]
    simp (disch := omega) only [s177_7, s177_8, s177_11, s177_72, s177_73, Option.some.injEq, exists_eq_left', exists_eq_left, List.cons_append, List.nil_append, List.length_nil, List.length_cons, Nat.reduceAdd, Nat.reduceMul, Nat.reduceSub, Nat.reduceLeDiff, true_and, and_true, ↓reduceIte, not_false_eq_true, not_true_eq_false, nI_add, pk_mul, jn_ltT, jn_ltF, jn_leT, jn_leF, jn_eqT, jn_eqF, jn_lt0, jn_ge0, jn_eq0T, jn_eq0F, jn_in, jn_cl, jf_149_0 hR]
    exact k
  · intro r hr' ih w5
    rw [s177_5]
    simp (disch := omega) only [s177_7, s177_8, s177_11, s177_14, s177_15, Option.some.injEq, exists_eq_left', exists_eq_left, List.cons_append, List.nil_append, List.length_nil, List.length_cons, Nat.reduceAdd, Nat.reduceMul, Nat.reduceSub, Nat.reduceLeDiff, true_and, and_true, ↓reduceIte, not_false_eq_true, not_true_eq_false, nI_add, pk_mul, jn_ltT, jn_ltF, jn_leT, jn_leF, jn_eqT, jn_eqF, jn_lt0, jn_ge0, jn_eq0T, jn_eq0F, jn_in, jn_cl, jf_149_0 hR]
    refine jloop (fun c => jx_Go jxP (d + 1) 177 17 [.ref 149, .int (nI x), .int (nI y), .int (nI (jmk (5 * r + c) fun p => (decide (p % 5 < F 149 1) && x.testBit (p / 5)) && y.testBit (p % 5))), .int (nI r), .int (nI c)] [] h Q) (F 149 1) ?_ ?_ 0 (Nat.zero_le _)
    · have sk := jmk_skip (p := fun p => (decide (p % 5 < F 149 1) && x.testBit (p / 5)) && y.testBit (p % 5)) (n := 5 * r + F 149 1) (5 * (r + 1)) (by omega) (fun i h1 h2 => by
        rw [decide_eq_false (by omega)]
        rfl)
      rw [sk] at ih
      rw [s177_17]
      simp (disch := omega) only [s177_19, s177_20, s177_23, s177_66, s177_69, Option.some.injEq, exists_eq_left', exists_eq_left, List.cons_append, List.nil_append, List.length_nil, List.length_cons, Nat.reduceAdd, Nat.reduceMul, Nat.reduceSub, Nat.reduceLeDiff, true_and, and_true, ↓reduceIte, not_false_eq_true, not_true_eq_false, nI_add, pk_mul, jn_ltT, jn_ltF, jn_leT, jn_leF, jn_eqT, jn_eqF, jn_lt0, jn_ge0, jn_eq0T, jn_eq0F, jn_in, jn_cl, jf_149_1 hR]
      exact ih _
    · intro c hc' ih2
      rw [← Nat.add_assoc, ← jmk_or, show (5 * r + c) % 5 = c by omega, show (5 * r + c) / 5 = r by omega, decide_eq_true hc', Bool.true_and] at ih2
      generalize (jmk (5 * r + c) fun p => (decide (p % 5 < F 149 1) && x.testBit (p / 5)) && y.testBit (p % 5)) = acc at ih2 ⊢
      rw [s177_17]
      simp (disch := omega) only [s177_19, s177_20, s177_23, s177_26, s177_27, s177_28, s177_30, Option.some.injEq, exists_eq_left', exists_eq_left, List.cons_append, List.nil_append, List.length_nil, List.length_cons, Nat.reduceAdd, Nat.reduceMul, Nat.reduceSub, Nat.reduceLeDiff, true_and, and_true, ↓reduceIte, not_false_eq_true, not_true_eq_false, nI_add, pk_mul, jn_ltT, jn_ltF, jn_leT, jn_leF, jn_eqT, jn_eqF, jn_lt0, jn_ge0, jn_eq0T, jn_eq0F, jn_in, jn_cl, jf_149_1 hR, md_in]
      cases e1 : x.testBit r with
      | false =>
        rw [e1, Bool.false_and, if_neg (by decide)] at ih2
        simp (disch := omega) only [s177_33, s177_57, s177_58, s177_59, s177_60, s177_63, Option.some.injEq, exists_eq_left', exists_eq_left, List.cons_append, List.nil_append, List.length_nil, List.length_cons, Nat.reduceAdd, Nat.reduceMul, Nat.reduceSub, Nat.reduceLeDiff, true_and, and_true, ↓reduceIte, not_false_eq_true, not_true_eq_false, nI_add, pk_mul, jn_ltT, jn_ltF, jn_leT, jn_leF, jn_eqT, jn_eqF, jn_lt0, jn_ge0, jn_eq0T, jn_eq0F, jn_in, jn_cl, Bool.false_eq_true, jn_or]
        exact ih2
      | true =>
        rw [e1, Bool.true_and] at ih2
        simp (disch := omega) only [s177_33, s177_36, s177_37, s177_39, Option.some.injEq, exists_eq_left', exists_eq_left, List.cons_append, List.nil_append, List.length_nil, List.length_cons, Nat.reduceAdd, Nat.reduceMul, Nat.reduceSub, Nat.reduceLeDiff, true_and, and_true, ↓reduceIte, not_false_eq_true, not_true_eq_false, nI_add, pk_mul, jn_ltT, jn_ltF, jn_leT, jn_leF, jn_eqT, jn_eqF, jn_lt0, jn_ge0, jn_eq0T, jn_eq0F, jn_in, jn_cl, md_in]
        cases e2 : y.testBit c with
        | false =>
          rw [e2, if_neg (by decide)] at ih2
          simp (disch := omega) only [s177_42, s177_57, s177_58, s177_59, s177_60, s177_63, Option.some.injEq, exists_eq_left', exists_eq_left, List.cons_append, List.nil_append, List.length_nil, List.length_cons, Nat.reduceAdd, Nat.reduceMul, Nat.reduceSub, Nat.reduceLeDiff, true_and, and_true, ↓reduceIte, not_false_eq_true, not_true_eq_false, nI_add, pk_mul, jn_ltT, jn_ltF, jn_leT, jn_leF, jn_eqT, jn_eqF, jn_lt0, jn_ge0, jn_eq0T, jn_eq0F, jn_in, jn_cl, Bool.false_eq_true, jn_or]
          exact ih2
        | true =>
          rw [e2, if_pos rfl] at ih2
          simp (disch := omega) only [s177_42, s177_45, s177_46, s177_47, s177_49, s177_50, s177_52, s177_53, s177_54, s177_57, s177_58, s177_59, s177_60, s177_63, Option.some.injEq, exists_eq_left', exists_eq_left, List.cons_append, List.nil_append, List.length_nil, List.length_cons, Nat.reduceAdd, Nat.reduceMul, Nat.reduceSub, Nat.reduceLeDiff, true_and, and_true, ↓reduceIte, not_false_eq_true, not_true_eq_false, nI_add, pk_mul, jn_ltT, jn_ltF, jn_leT, jn_leF, jn_eqT, jn_eqF, jn_lt0, jn_ge0, jn_eq0T, jn_eq0F, jn_in, jn_cl, jsh1, jn_or]
          exact ih2
end MD18
