/-! ===== the reference: lineOf, same ===== -/
section MD30
variable {d : Nat} {F : Nat → Nat → Nat} {A : Nat → Nat → Int32} {G : Nat → Option Nat} {g : Nat → Int64} {h : jxH} {Q : List Value → jxH → Prop}
/-- the line of left, from l on, before which w others lie -/
def jnt (left f w l : Nat) : Nat := match f with
  | 0 => 99
  | f + 1 => if left.testBit l = true ∧ w = 0 then l else jnt left f (w - (if left.testBit l = true then 1 else 0)) (l + 1)
theorem jnt_s {left f w l : Nat} : jnt left (f + 1) w l = if left.testBit l = true ∧ w = 0 then l else jnt left f (w - (if left.testBit l = true then 1 else 0)) (l + 1) := rfl
/-- the lines of the order o of m: what is left of the number, the lines that are left, the last line -/
def jls (m o i : Nat) : Nat × Nat × Nat := match i with
  | 0 => (o, 2 ^ m - 1, 0)
  | i + 1 => ((jls m o i).1 / (m - i), jan (jls m o i).2.1 (2 ^ jnt (jls m o i).2.1 6 ((jls m o i).1 % (m - i)) 0), jnt (jls m o i).2.1 6 ((jls m o i).1 % (m - i)) 0)
theorem jls_s {m o i : Nat} : jls m o (i + 1) = ((jls m o i).1 / (m - i), jan (jls m o i).2.1 (2 ^ jnt (jls m o i).2.1 6 ((jls m o i).1 % (m - i)) 0), jnt (jls m o i).2.1 6 ((jls m o i).1 % (m - i)) 0) := rfl
def jlin (m o j : Nat) : Nat := (jls m o (j + 1)).2.2
theorem jls_ok : ∀ m, m < 6 → ∀ o, o < 120 → ∀ i, i < m → jnt (jls m o i).2.1 6 ((jls m o i).1 % (m - i)) 0 < m ∧ (jls m o i).2.1 < 32 ∧ (jls m o i).1 < 120 := by decide +kernel
theorem jlin_lt {m o j : Nat} (hm : m ≤ 5) (ho : o < 120) (hj : j < m) : jlin m o j < m := (jls_ok m (by omega) o ho j hj).1
theorem md_line1 {left : Nat} (hl : left < 32) {v0 v1 v2 v3 v6 : Value} : ∀ f w l, l + f ≤ 6 → w ≤ 5 → jnt left f w l < 99 → (∀ w7, jx_Go jxP (d + 1) 193 80 [v0, v1, v2, v3, .int (nI left), .int (nI (jnt left f w l)), v6, w7] [] h Q) → jx_Go jxP (d + 1) 193 39 [v0, v1, v2, v3, .int (nI left), .int (nI l), v6, .int (nI w)] [] h Q := by
  intro f
  induction f with
  | zero => intro w l _ _ z; exact absurd z (by show ¬ 99 < 99; omega)
  | succ f ih =>
    intro w l hl' hw z k
    rw [jnt_s] at z k
    rw [s193_39]
    simp (disch := omega) only [s193_41, s193_43, Option.some.injEq, exists_eq_left', exists_eq_left, List.cons_append, List.nil_append, List.length_nil, List.length_cons, Nat.reduceAdd, Nat.reduceMul, Nat.reduceSub, Nat.reduceLeDiff, true_and, and_true, ↓reduceIte, not_false_eq_true, not_true_eq_false, nI_add, pk_mul, jn_ltT, jn_ltF, jn_leT, jn_leF, jn_eqT, jn_eqF, jn_lt0, jn_ge0, jn_eq0T, jn_eq0F, jn_in, jn_cl, md_in]
    by_cases b : left.testBit l = true
    · rw [if_pos b] at z k ⊢
      by_cases w0 : w = 0
      · rw [if_pos ⟨b, w0⟩] at k
        simp (disch := omega) only [s193_46, s193_49, s193_51, Option.some.injEq, exists_eq_left', exists_eq_left, List.cons_append, List.nil_append, List.length_nil, List.length_cons, Nat.reduceAdd, Nat.reduceMul, Nat.reduceSub, Nat.reduceLeDiff, true_and, and_true, ↓reduceIte, not_false_eq_true, not_true_eq_false, nI_add, pk_mul, jn_ltT, jn_ltF, jn_leT, jn_leF, jn_eqT, jn_eqF, jn_lt0, jn_ge0, jn_eq0T, jn_eq0F, jn_in, jn_cl, jn_le0T]
        exact k _
      · rw [if_neg (fun u => w0 u.2)] at z k
        simp (disch := omega) only [s193_46, s193_49, s193_51, s193_54, s193_56, s193_58, s193_60, Option.some.injEq, exists_eq_left', exists_eq_left, List.cons_append, List.nil_append, List.length_nil, List.length_cons, Nat.reduceAdd, Nat.reduceMul, Nat.reduceSub, Nat.reduceLeDiff, true_and, and_true, ↓reduceIte, not_false_eq_true, not_true_eq_false, nI_add, pk_mul, jn_ltT, jn_ltF, jn_leT, jn_leF, jn_eqT, jn_eqF, jn_lt0, jn_ge0, jn_eq0T, jn_eq0F, jn_in, jn_cl, jn_le0F, md_in]
        rw [if_pos b]
        simp (disch := omega) only [s193_63, s193_66, s193_67, s193_70, s193_71, s193_72, s193_74, s193_77, Option.some.injEq, exists_eq_left', exists_eq_left, List.cons_append, List.nil_append, List.length_nil, List.length_cons, Nat.reduceAdd, Nat.reduceMul, Nat.reduceSub, Nat.reduceLeDiff, true_and, and_true, ↓reduceIte, not_false_eq_true, not_true_eq_false, nI_add, pk_mul, jn_ltT, jn_ltF, jn_leT, jn_leF, jn_eqT, jn_eqF, jn_lt0, jn_ge0, jn_eq0T, jn_eq0F, jn_in, jn_cl, jn_sub]
        exact ih _ _ (by omega) (by omega) z k
    · rw [if_neg b] at z k ⊢
      rw [if_neg (fun u => b u.1)] at z k
      simp (disch := omega) only [s193_46, s193_54, s193_56, s193_58, s193_60, Option.some.injEq, exists_eq_left', exists_eq_left, List.cons_append, List.nil_append, List.length_nil, List.length_cons, Nat.reduceAdd, Nat.reduceMul, Nat.reduceSub, Nat.reduceLeDiff, true_and, and_true, ↓reduceIte, not_false_eq_true, not_true_eq_false, nI_add, pk_mul, jn_ltT, jn_ltF, jn_leT, jn_leF, jn_eqT, jn_eqF, jn_lt0, jn_ge0, jn_eq0T, jn_eq0F, jn_in, jn_cl, md_in]
      rw [if_neg b]
      simp (disch := omega) only [s193_63, s193_66, s193_67, s193_70, s193_71, s193_72, s193_74, s193_77, Option.some.injEq, exists_eq_left', exists_eq_left, List.cons_append, List.nil_append, List.length_nil, List.length_cons, Nat.reduceAdd, Nat.reduceMul, Nat.reduceSub, Nat.reduceLeDiff, true_and, and_true, ↓reduceIte, not_false_eq_true, not_true_eq_false, nI_add, pk_mul, jn_ltT, jn_ltF, jn_leT, jn_leF, jn_eqT, jn_eqF, jn_lt0, jn_ge0, jn_eq0T, jn_eq0F, jn_in, jn_cl, jn_sub]
      exact ih _ _ (by omega) (by omega) z k
theorem md_lineOf {m o j : Nat} (hm : m ≤ 5) (ho : o < 120) (hj : j < m) (k : Q [.int (nI (jlin m o j))] h) : jx_Go jxP (d + 1) 193 0 [.int (nI o), .int (nI j), .int (nI m), jx_u, jx_u, jx_u, jx_u, jx_u] [] h Q := by
  have p2 := jp2 _ hm
  simp (disch := omega) only [s193_0, s193_1, s193_2, s193_3, s193_4, s193_5, s193_6, s193_7, s193_9, s193_10, s193_12, s193_13, Option.some.injEq, exists_eq_left', exists_eq_left, List.cons_append, List.nil_append, List.length_nil, List.length_cons, Nat.reduceAdd, Nat.reduceMul, Nat.reduceSub, Nat.reduceLeDiff, true_and, and_true, ↓reduceIte, not_false_eq_true, not_true_eq_false, nI_add, pk_mul, jn_ltT, jn_ltF, jn_leT, jn_leF, jn_eqT, jn_eqF, jn_lt0, jn_ge0, jn_eq0T, jn_eq0F, jn_in, jn_cl, jsh1, jn_sub]
  refine jloop (fun i => ∀ w7, jx_Go jxP (d + 1) 193 15 [.int (nI o), .int (nI j), .int (nI m), .int (nI (jls m o i).1), .int (nI (jls m o i).2.1), .int (nI (jls m o i).2.2), .int (nI i), w7] [] h Q) (j + 1) ?_ ?_ 0 (Nat.zero_le _) _
  · intro w7
    rw [s193_15]
    simp (disch := omega) only [s193_17, s193_18, s193_97, s193_99, Option.some.injEq, exists_eq_left', exists_eq_left, List.cons_append, List.nil_append, List.length_nil, List.length_cons, Nat.reduceAdd, Nat.reduceMul, Nat.reduceSub, Nat.reduceLeDiff, true_and, and_true, ↓reduceIte, not_false_eq_true, not_true_eq_false, nI_add, pk_mul, jn_ltT, jn_ltF, jn_leT, jn_leF, jn_eqT, jn_eqF, jn_lt0, jn_ge0, jn_eq0T, jn_eq0F, jn_in, jn_cl]
    exact k
  · intro i hi ih w7
    obtain ⟨t1, t2, t3⟩ := jls_ok m (by omega) o ho i (by omega)
    rw [jls_s] at ih
    dsimp only at ih
    generalize (jls m o i).1 = rest at *
    generalize (jls m o i).2.1 = left at *
    generalize (jls m o i).2.2 = line at *
    have wl : rest % (m - i) < m - i := Nat.mod_lt _ (by omega)
    rw [s193_15]
    simp (disch := omega) only [s193_17, s193_18, s193_21, s193_22, s193_23, s193_25, s193_26, s193_27, s193_29, s193_30, s193_31, s193_33, s193_34, s193_35, s193_36, s193_37, Option.some.injEq, exists_eq_left', exists_eq_left, List.cons_append, List.nil_append, List.length_nil, List.length_cons, Nat.reduceAdd, Nat.reduceMul, Nat.reduceSub, Nat.reduceLeDiff, true_and, and_true, ↓reduceIte, not_false_eq_true, not_true_eq_false, nI_add, pk_mul, jn_ltT, jn_ltF, jn_leT, jn_leF, jn_eqT, jn_eqF, jn_lt0, jn_ge0, jn_eq0T, jn_eq0F, jn_in, jn_cl, jn_sub, jn_div, jn_rem2]
    refine md_line1 t2 6 _ 0 (by omega) (by omega) (by omega) (fun w7 => ?_)
    simp (disch := omega) only [s193_80, s193_82, s193_83, s193_85, s193_86, s193_87, s193_88, s193_89, s193_91, s193_94, Option.some.injEq, exists_eq_left', exists_eq_left, List.cons_append, List.nil_append, List.length_nil, List.length_cons, Nat.reduceAdd, Nat.reduceMul, Nat.reduceSub, Nat.reduceLeDiff, true_and, and_true, ↓reduceIte, not_false_eq_true, not_true_eq_false, nI_add, pk_mul, jn_ltT, jn_ltF, jn_leT, jn_leF, jn_eqT, jn_eqF, jn_lt0, jn_ge0, jn_eq0T, jn_eq0F, jn_in, jn_cl, jsh1, jn_anot]
    exact ih _
/-- what same() finds: some order of the rows and of the columns takes the one to the other -/
def jsmB (v s : Nat → Int32) (R C a b : Nat) : Bool := jall (R * C) fun k => v (5 * (k / C) + k % C) == s (5 * jlin R a (k / C) + jlin C b (k % C))
def jsm (v s : Nat → Int32) (R C : Nat) : Bool := jany (jfct R) fun a => jany (jfct C) fun b => jsmB v s R C a b
theorem md_same_b (hR : jR F A G g h) {s : Int32} (hb : ¬ jbel s 4 = true) (k : ∀ h', jR (jup F 149 13 (F 149 13 + 1)) A G g h' → jD h h' → Q [.int (-1)] h') : jx_Go jxP (d + 1) 195 0 [.ref 149, .int s, jx_u, jx_u, jx_u, jx_u] [] h Q := by
  simp (disch := omega) only [s195_0, s195_1, Option.some.injEq, exists_eq_left', exists_eq_left, List.cons_append, List.nil_append, List.length_nil, List.length_cons, Nat.reduceAdd, Nat.reduceMul, Nat.reduceSub, Nat.reduceLeDiff, true_and, and_true, ↓reduceIte, not_false_eq_true, not_true_eq_false, nI_add, pk_mul, jn_ltT, jn_ltF, jn_leT, jn_leF, jn_eqT, jn_eqF, jn_lt0, jn_ge0, jn_eq0T, jn_eq0F, jn_in, jn_cl, md_isSlot]
  rw [if_neg hb]
  simp (disch := omega) only [s195_4, s195_7, s195_8, s195_9, Option.some.injEq, exists_eq_left', exists_eq_left, List.cons_append, List.nil_append, List.length_nil, List.length_cons, Nat.reduceAdd, Nat.reduceMul, Nat.reduceSub, Nat.reduceLeDiff, true_and, and_true, ↓reduceIte, not_false_eq_true, not_true_eq_false, nI_add, pk_mul, jn_ltT, jn_ltF, jn_leT, jn_leF, jn_eqT, jn_eqF, jn_lt0, jn_ge0, jn_eq0T, jn_eq0F, jn_in, jn_cl, jc_of_149 hR]
  exact md_finding hR (fun h' hR' hD' => by simp only [s195_12, Option.some.injEq, exists_eq_left', exists_eq_left, List.cons_append, List.nil_append, List.length_nil, List.length_cons, Nat.reduceAdd, Nat.reduceMul, Nat.reduceSub, Nat.reduceLeDiff, true_and, and_true, ↓reduceIte, not_false_eq_true, not_true_eq_false, nI_add, pk_mul, jn_ltT, jn_ltF, jn_leT, jn_leF, jn_eqT, jn_eqF, jn_lt0, jn_ge0, jn_eq0T, jn_eq0F, jn_in, jn_cl]; exact k h' hR' hD')
theorem md_same_n (hR : jR F A G g h) {s : Nat} (hs : s < 4) (e : A 154 s < 0) (k : ∀ h', jR (jup F 149 13 (F 149 13 + 1)) A G g h' → jD h h' → Q [.int (-6)] h') : jx_Go jxP (d + 1) 195 0 [.ref 149, .int (nI s), jx_u, jx_u, jx_u, jx_u] [] h Q := by
  have e' : ((0 : Int32) ≤ A 154 s) = False := eq_false (Int32.not_le.mpr e)
  simp (disch := omega) only [s195_0, s195_1, Option.some.injEq, exists_eq_left', exists_eq_left, List.cons_append, List.nil_append, List.length_nil, List.length_cons, Nat.reduceAdd, Nat.reduceMul, Nat.reduceSub, Nat.reduceLeDiff, true_and, and_true, ↓reduceIte, not_false_eq_true, not_true_eq_false, nI_add, pk_mul, jn_ltT, jn_ltF, jn_leT, jn_leF, jn_eqT, jn_eqF, jn_lt0, jn_ge0, jn_eq0T, jn_eq0F, jn_in, jn_cl, md_isSlot, jbel_n]
  simp (disch := omega) only [s195_4, s195_13, s195_14, s195_17, s195_18, s195_19, s195_22, s195_23, s195_25, Option.some.injEq, exists_eq_left', exists_eq_left, List.cons_append, List.nil_append, List.length_nil, List.length_cons, Nat.reduceAdd, Nat.reduceMul, Nat.reduceSub, Nat.reduceLeDiff, true_and, and_true, ↓reduceIte, not_false_eq_true, not_true_eq_false, nI_add, pk_mul, jn_ltT, jn_ltF, jn_leT, jn_leF, jn_eqT, jn_eqF, jn_lt0, jn_ge0, jn_eq0T, jn_eq0F, jn_in, jn_cl, jf_149_7 hR, ja_154 hR, e', jc_of_149 hR]
  exact md_finding hR (fun h' hR' hD' => by simp only [s195_28, Option.some.injEq, exists_eq_left', exists_eq_left, List.cons_append, List.nil_append, List.length_nil, List.length_cons, Nat.reduceAdd, Nat.reduceMul, Nat.reduceSub, Nat.reduceLeDiff, true_and, and_true, ↓reduceIte, not_false_eq_true, not_true_eq_false, nI_add, pk_mul, jn_ltT, jn_ltF, jn_leT, jn_leF, jn_eqT, jn_eqF, jn_lt0, jn_ge0, jn_eq0T, jn_eq0F, jn_in, jn_cl]; exact k h' hR' hD')
theorem md_same_0 (hR : jR F A G g h) {s R C : Nat} (hs : s < 4) (e : ¬ A 154 s < 0) (e1 : A 153 (52 * s) = nI R) (e2 : A 153 (52 * s + 1) = nI C) (hr' : R ≤ 5) (hc' : C ≤ 5) (hr : F 149 0 ≤ 5) (hc : F 149 1 ≤ 5) (ne : R ≠ F 149 0 ∨ C ≠ F 149 1) (k : Q [.int (nI 0)] h) : jx_Go jxP (d + 1) 195 0 [.ref 149, .int (nI s), jx_u, jx_u, jx_u, jx_u] [] h Q := by
  have e' : ((0 : Int32) ≤ A 154 s) = True := eq_true (Int32.not_lt.mp e)
  simp (disch := omega) only [s195_0, s195_1, Option.some.injEq, exists_eq_left', exists_eq_left, List.cons_append, List.nil_append, List.length_nil, List.length_cons, Nat.reduceAdd, Nat.reduceMul, Nat.reduceSub, Nat.reduceLeDiff, true_and, and_true, ↓reduceIte, not_false_eq_true, not_true_eq_false, nI_add, pk_mul, jn_ltT, jn_ltF, jn_leT, jn_leF, jn_eqT, jn_eqF, jn_lt0, jn_ge0, jn_eq0T, jn_eq0F, jn_in, jn_cl, md_isSlot, jbel_n]
  by_cases w : R = F 149 0
  · simp (disch := omega) only [s195_4, s195_13, s195_14, s195_17, s195_18, s195_19, s195_29, s195_30, s195_33, s195_35, s195_36, s195_37, s195_38, s195_39, s195_42, s195_45, s195_46, s195_49, s195_51, s195_52, s195_53, s195_54, s195_55, s195_56, s195_57, s195_60, s195_63, s195_64, Option.some.injEq, exists_eq_left', exists_eq_left, List.cons_append, List.nil_append, List.length_nil, List.length_cons, Nat.reduceAdd, Nat.reduceMul, Nat.reduceSub, Nat.reduceLeDiff, true_and, and_true, ↓reduceIte, not_false_eq_true, not_true_eq_false, nI_add, pk_mul, jn_ltT, jn_ltF, jn_leT, jn_leF, jn_eqT, jn_eqF, jn_lt0, jn_ge0, jn_eq0T, jn_eq0F, jn_in, jn_cl, jf_149_0 hR, jf_149_1 hR, jf_149_6 hR, jf_149_7 hR, ja_153 hR, ja_154 hR, e', e1, e2, jc_of_149 hR]
    exact k
  · simp (disch := omega) only [s195_4, s195_13, s195_14, s195_17, s195_18, s195_19, s195_29, s195_30, s195_33, s195_35, s195_36, s195_37, s195_38, s195_39, s195_42, s195_45, s195_46, s195_49, s195_51, s195_52, s195_53, s195_54, s195_55, s195_56, s195_57, s195_60, s195_63, s195_64, Option.some.injEq, exists_eq_left', exists_eq_left, List.cons_append, List.nil_append, List.length_nil, List.length_cons, Nat.reduceAdd, Nat.reduceMul, Nat.reduceSub, Nat.reduceLeDiff, true_and, and_true, ↓reduceIte, not_false_eq_true, not_true_eq_false, nI_add, pk_mul, jn_ltT, jn_ltF, jn_leT, jn_leF, jn_eqT, jn_eqF, jn_lt0, jn_ge0, jn_eq0T, jn_eq0F, jn_in, jn_cl, jf_149_0 hR, jf_149_1 hR, jf_149_6 hR, jf_149_7 hR, ja_153 hR, ja_154 hR, e', e1, e2, jc_of_149 hR]
    exact k
theorem md_same_t (hR : jR F A G g h) {s : Nat} (hs : s < 4) (e : ¬ A 154 s < 0) (e1 : A 153 (52 * s) = nI (F 149 0)) (e2 : A 153 (52 * s + 1) = nI (F 149 1)) (hr : F 149 0 ≤ 5) (hc : F 149 1 ≤ 5) (hr1 : 1 ≤ F 149 0) (hc1 : 1 ≤ F 149 1) (k : ∀ A2 h2, (∀ a, a ≠ 180 → a ≠ 181 → A2 a = A a) → jR F A2 G g h2 → jD h h2 → Q [.int (nI (jsm (A 150) (fun j => A 153 (52 * s + 2 + j)) (F 149 0) (F 149 1)).toNat)] h2) : jx_Go jxP (d + 2) 195 0 [.ref 149, .int (nI s), jx_u, jx_u, jx_u, jx_u] [] h Q := by
  have e' : ((0 : Int32) ≤ A 154 s) = True := eq_true (Int32.not_lt.mp e)
  have f1 := jfct_le _ hr
  have f2 := jfct_le _ hc
  have hm : F 149 0 * F 149 1 ≤ 25 := Nat.mul_le_mul hr hc
  simp (disch := omega) only [s195_0, s195_1, Option.some.injEq, exists_eq_left', exists_eq_left, List.cons_append, List.nil_append, List.length_nil, List.length_cons, Nat.reduceAdd, Nat.reduceMul, Nat.reduceSub, Nat.reduceLeDiff, true_and, and_true, ↓reduceIte, not_false_eq_true, not_true_eq_false, nI_add, pk_mul, jn_ltT, jn_ltF, jn_leT, jn_leF, jn_eqT, jn_eqF, jn_lt0, jn_ge0, jn_eq0T, jn_eq0F, jn_in, jn_cl, md_isSlot, jbel_n]
  simp (disch := omega) only [s195_4, s195_13, s195_14, s195_17, s195_18, s195_19, s195_29, s195_30, s195_33, s195_35, s195_36, s195_37, s195_38, s195_39, s195_42, s195_45, s195_46, s195_49, s195_51, s195_52, s195_53, s195_54, s195_55, s195_56, s195_57, s195_60, s195_65, s195_66, Option.some.injEq, exists_eq_left', exists_eq_left, List.cons_append, List.nil_append, List.length_nil, List.length_cons, Nat.reduceAdd, Nat.reduceMul, Nat.reduceSub, Nat.reduceLeDiff, true_and, and_true, ↓reduceIte, not_false_eq_true, not_true_eq_false, nI_add, pk_mul, jn_ltT, jn_ltF, jn_leT, jn_leF, jn_eqT, jn_eqF, jn_lt0, jn_ge0, jn_eq0T, jn_eq0F, jn_in, jn_cl, jf_149_0 hR, jf_149_1 hR, jf_149_6 hR, jf_149_7 hR, ja_153 hR, ja_154 hR, e', e1, e2, jc_of_149 hR]
  refine jloop (fun a => (∀ a', a' < a → (jany (jfct (F 149 1)) fun b => jsmB (A 150) (fun j => A 153 (52 * s + 2 + j)) (F 149 0) (F 149 1) a' b) = false) → ∀ A1 h1 w3 w4 w5, (∀ a, a ≠ 180 → a ≠ 181 → A1 a = A a) → jR F A1 G g h1 → jD h h1 → jx_Go jxP (d + 2) 195 67 [.ref 149, .int (nI s), .int (nI a), w3, w4, w5] [] h1 Q) (jfct (F 149 0)) ?_ ?_ 0 (Nat.zero_le _) (fun a' ha' => by omega) A h _ _ _ (fun _ _ _ => rfl) hR jD.rf
  · intro no A1 h1 w3 w4 w5 fr hR1 hD1
    have kk := k A1 h1 fr hR1 hD1
    have : jsm (A 150) (fun j => A 153 (52 * s + 2 + j)) (F 149 0) (F 149 1) = false := by
      apply Bool.eq_false_iff.mpr
      intro w
      unfold jsm at w
      obtain ⟨a, ha, wa⟩ := jany_iff.mp w
      rw [no a ha] at wa
      cases wa
    rw [this] at kk
    rw [s195_67]
    simp (disch := omega) only [s195_68, s195_69, s195_72, Option.some.injEq, exists_eq_left', exists_eq_left, List.cons_append, List.nil_append, List.length_nil, List.length_cons, Nat.reduceAdd, Nat.reduceMul, Nat.reduceSub, Nat.reduceLeDiff, true_and, and_true, ↓reduceIte, not_false_eq_true, not_true_eq_false, nI_add, pk_mul, jn_ltT, jn_ltF, jn_leT, jn_leF, jn_eqT, jn_eqF, jn_lt0, jn_ge0, jn_eq0T, jn_eq0F, jn_in, jn_cl, jf_149_0 hR1]
    refine md_orders hr1 hr ?_
    simp (disch := omega) only [s195_75, s195_268, s195_269, Option.some.injEq, exists_eq_left', exists_eq_left, List.cons_append, List.nil_append, List.length_nil, List.length_cons, Nat.reduceAdd, Nat.reduceMul, Nat.reduceSub, Nat.reduceLeDiff, true_and, and_true, ↓reduceIte, not_false_eq_true, not_true_eq_false, nI_add, pk_mul, jn_ltT, jn_ltF, jn_leT, jn_leF, jn_eqT, jn_eqF, jn_lt0, jn_ge0, jn_eq0T, jn_eq0F, jn_in, jn_cl]
    exact kk
  · intro a ha iha no A1 h1 w3 w4 w5 fr hR1 hD1
    rw [s195_67]
    simp (disch := omega) only [s195_68, s195_69, s195_72, Option.some.injEq, exists_eq_left', exists_eq_left, List.cons_append, List.nil_append, List.length_nil, List.length_cons, Nat.reduceAdd, Nat.reduceMul, Nat.reduceSub, Nat.reduceLeDiff, true_and, and_true, ↓reduceIte, not_false_eq_true, not_true_eq_false, nI_add, pk_mul, jn_ltT, jn_ltF, jn_leT, jn_leF, jn_eqT, jn_eqF, jn_lt0, jn_ge0, jn_eq0T, jn_eq0F, jn_in, jn_cl, jf_149_0 hR1]
    refine md_orders hr1 hr ?_
    simp (disch := omega) only [s195_75, s195_78, s195_79, Option.some.injEq, exists_eq_left', exists_eq_left, List.cons_append, List.nil_append, List.length_nil, List.length_cons, Nat.reduceAdd, Nat.reduceMul, Nat.reduceSub, Nat.reduceLeDiff, true_and, and_true, ↓reduceIte, not_false_eq_true, not_true_eq_false, nI_add, pk_mul, jn_ltT, jn_ltF, jn_leT, jn_leF, jn_eqT, jn_eqF, jn_lt0, jn_ge0, jn_eq0T, jn_eq0F, jn_in, jn_cl]
    refine jloop (fun r => ∀ A1 h1 w4 w5, (∀ j, j < r → A1 180 j = nI (jlin (F 149 0) a j)) → (∀ a, a ≠ 180 → a ≠ 181 → A1 a = A a) → jR F A1 G g h1 → jD h h1 → jx_Go jxP (d + 2) 195 80 [.ref 149, .int (nI s), .int (nI a), .int (nI r), w4, w5] [] h1 Q) (F 149 0) ?_ ?_ 0 (Nat.zero_le _) A1 h1 _ _ (fun j hj => by omega) fr hR1 hD1
    · intro A1 h1 w4 w5 ro fr hR1 hD1
      rw [s195_80]
      simp (disch := omega) only [s195_81, s195_82, s195_85, s195_109, s195_110, Option.some.injEq, exists_eq_left', exists_eq_left, List.cons_append, List.nil_append, List.length_nil, List.length_cons, Nat.reduceAdd, Nat.reduceMul, Nat.reduceSub, Nat.reduceLeDiff, true_and, and_true, ↓reduceIte, not_false_eq_true, not_true_eq_false, nI_add, pk_mul, jn_ltT, jn_ltF, jn_leT, jn_leF, jn_eqT, jn_eqF, jn_lt0, jn_ge0, jn_eq0T, jn_eq0F, jn_in, jn_cl, jf_149_0 hR1]
      refine jloop (fun b => (∀ b', b' < b → jsmB (A 150) (fun j => A 153 (52 * s + 2 + j)) (F 149 0) (F 149 1) a b' = false) → ∀ A1 h1 w4 w5, (∀ j, j < F 149 0 → A1 180 j = nI (jlin (F 149 0) a j)) → (∀ a, a ≠ 180 → a ≠ 181 → A1 a = A a) → jR F A1 G g h1 → jD h h1 → jx_Go jxP (d + 2) 195 111 [.ref 149, .int (nI s), .int (nI a), .int (nI b), w4, w5] [] h1 Q) (jfct (F 149 1)) ?_ ?_ 0 (Nat.zero_le _) (fun b' hb' => by omega) A1 h1 _ _ ro fr hR1 hD1
      · intro nb A1 h1 w4 w5 ro fr hR1 hD1
        rw [s195_111]
        simp (disch := omega) only [s195_112, s195_113, s195_116, Option.some.injEq, exists_eq_left', exists_eq_left, List.cons_append, List.nil_append, List.length_nil, List.length_cons, Nat.reduceAdd, Nat.reduceMul, Nat.reduceSub, Nat.reduceLeDiff, true_and, and_true, ↓reduceIte, not_false_eq_true, not_true_eq_false, nI_add, pk_mul, jn_ltT, jn_ltF, jn_leT, jn_leF, jn_eqT, jn_eqF, jn_lt0, jn_ge0, jn_eq0T, jn_eq0F, jn_in, jn_cl, jf_149_1 hR1]
        refine md_orders hc1 hc ?_
        simp (disch := omega) only [s195_119, s195_262, s195_265, Option.some.injEq, exists_eq_left', exists_eq_left, List.cons_append, List.nil_append, List.length_nil, List.length_cons, Nat.reduceAdd, Nat.reduceMul, Nat.reduceSub, Nat.reduceLeDiff, true_and, and_true, ↓reduceIte, not_false_eq_true, not_true_eq_false, nI_add, pk_mul, jn_ltT, jn_ltF, jn_leT, jn_leF, jn_eqT, jn_eqF, jn_lt0, jn_ge0, jn_eq0T, jn_eq0F, jn_in, jn_cl]
        refine iha (fun a' ha' => ?_) A1 h1 _ _ _ fr hR1 hD1
        rcases (show a' < a ∨ a' = a by omega) with w | w
        · exact no a' w
        · subst w
          apply Bool.eq_false_iff.mpr
          intro w
          obtain ⟨b, hb, wb⟩ := jany_iff.mp w
          rw [nb b hb] at wb
          cases wb
      · intro b hb ihb nb A1 h1 w4 w5 ro fr hR1 hD1
        rw [s195_111]
        simp (disch := omega) only [s195_112, s195_113, s195_116, Option.some.injEq, exists_eq_left', exists_eq_left, List.cons_append, List.nil_append, List.length_nil, List.length_cons, Nat.reduceAdd, Nat.reduceMul, Nat.reduceSub, Nat.reduceLeDiff, true_and, and_true, ↓reduceIte, not_false_eq_true, not_true_eq_false, nI_add, pk_mul, jn_ltT, jn_ltF, jn_leT, jn_leF, jn_eqT, jn_eqF, jn_lt0, jn_ge0, jn_eq0T, jn_eq0F, jn_in, jn_cl, jf_149_1 hR1]
        refine md_orders hc1 hc ?_
        simp (disch := omega) only [s195_119, s195_122, s195_123, Option.some.injEq, exists_eq_left', exists_eq_left, List.cons_append, List.nil_append, List.length_nil, List.length_cons, Nat.reduceAdd, Nat.reduceMul, Nat.reduceSub, Nat.reduceLeDiff, true_and, and_true, ↓reduceIte, not_false_eq_true, not_true_eq_false, nI_add, pk_mul, jn_ltT, jn_ltF, jn_leT, jn_leF, jn_eqT, jn_eqF, jn_lt0, jn_ge0, jn_eq0T, jn_eq0F, jn_in, jn_cl]
        refine jloop (fun c => ∀ A1 h1 w5, (∀ j, j < c → A1 181 j = nI (jlin (F 149 1) b j)) → (∀ j, j < F 149 0 → A1 180 j = nI (jlin (F 149 0) a j)) → (∀ a, a ≠ 180 → a ≠ 181 → A1 a = A a) → jR F A1 G g h1 → jD h h1 → jx_Go jxP (d + 2) 195 125 [.ref 149, .int (nI s), .int (nI a), .int (nI b), .int (nI c), w5] [] h1 Q) (F 149 1) ?_ ?_ 0 (Nat.zero_le _) A1 h1 _ (fun j hj => by omega) ro fr hR1 hD1
        · intro A1 h1 w5 co ro fr hR1 hD1
          have g150 : A1 150 = A 150 := fr 150 (by decide) (by decide)
          have g153 : A1 153 = A 153 := fr 153 (by decide) (by decide)
          rw [s195_125]
          simp (disch := omega) only [s195_127, s195_128, s195_131, s195_157, s195_158, s195_160, s195_161, Option.some.injEq, exists_eq_left', exists_eq_left, List.cons_append, List.nil_append, List.length_nil, List.length_cons, Nat.reduceAdd, Nat.reduceMul, Nat.reduceSub, Nat.reduceLeDiff, true_and, and_true, ↓reduceIte, not_false_eq_true, not_true_eq_false, nI_add, pk_mul, jn_ltT, jn_ltF, jn_leT, jn_leF, jn_eqT, jn_eqF, jn_lt0, jn_ge0, jn_eq0T, jn_eq0F, jn_in, jn_cl, jf_149_1 hR1]
          have e249 : ∀ w5, jx_Go jxP (d + 2) 195 249 [.ref 149, .int (nI s), .int (nI a), .int (nI b), .int (nI (jsmB (A 150) (fun j => A 153 (52 * s + 2 + j)) (F 149 0) (F 149 1) a b).toNat), w5] [] h1 Q := by
            intro w5
            cases q : jsmB (A 150) (fun j => A 153 (52 * s + 2 + j)) (F 149 0) (F 149 1) a b with
            | true =>
              have kk := k A1 h1 fr hR1 hD1
              have : jsm (A 150) (fun j => A 153 (52 * s + 2 + j)) (F 149 0) (F 149 1) = true := jany_iff.mpr ⟨a, ha, jany_iff.mpr ⟨b, hb, q⟩⟩
              rw [this] at kk
              simp (disch := omega) only [s195_249, s195_251, s195_254, s195_255, Option.some.injEq, exists_eq_left', exists_eq_left, List.cons_append, List.nil_append, List.length_nil, List.length_cons, Nat.reduceAdd, Nat.reduceMul, Nat.reduceSub, Nat.reduceLeDiff, true_and, and_true, ↓reduceIte, not_false_eq_true, not_true_eq_false, nI_add, pk_mul, jn_ltT, jn_ltF, jn_leT, jn_leF, jn_eqT, jn_eqF, jn_lt0, jn_ge0, jn_eq0T, jn_eq0F, jn_in, jn_cl, Bool.toNat_true]
              exact kk
            | false =>
              simp (disch := omega) only [s195_249, s195_251, s195_256, s195_259, Option.some.injEq, exists_eq_left', exists_eq_left, List.cons_append, List.nil_append, List.length_nil, List.length_cons, Nat.reduceAdd, Nat.reduceMul, Nat.reduceSub, Nat.reduceLeDiff, true_and, and_true, ↓reduceIte, not_false_eq_true, not_true_eq_false, nI_add, pk_mul, jn_ltT, jn_ltF, jn_leT, jn_leF, jn_eqT, jn_eqF, jn_lt0, jn_ge0, jn_eq0T, jn_eq0F, jn_in, jn_cl, Bool.toNat_false]
              refine ihb (fun b' hb' => ?_) A1 h1 _ _ ro fr hR1 hD1
              rcases (show b' < b ∨ b' = b by omega) with w | w
              · exact nb b' w
              · subst w; exact q
          refine jloop (fun k => jx_Go jxP (d + 2) 195 163 [.ref 149, .int (nI s), .int (nI a), .int (nI b), .int (nI (jall k fun k => A 150 (5 * (k / F 149 1) + k % F 149 1) == A 153 (52 * s + 2 + (5 * jlin (F 149 0) a (k / F 149 1) + jlin (F 149 1) b (k % F 149 1)))).toNat), .int (nI k)] [] h1 Q) (F 149 0 * F 149 1) ?_ ?_ 0 (Nat.zero_le _)
          · rw [s195_163]
            simp (disch := omega) only [s195_165, s195_166, s195_169, s195_170, s195_173, s195_174, Option.some.injEq, exists_eq_left', exists_eq_left, List.cons_append, List.nil_append, List.length_nil, List.length_cons, Nat.reduceAdd, Nat.reduceMul, Nat.reduceSub, Nat.reduceLeDiff, true_and, and_true, ↓reduceIte, not_false_eq_true, not_true_eq_false, nI_add, pk_mul, jn_ltT, jn_ltF, jn_leT, jn_leF, jn_eqT, jn_eqF, jn_lt0, jn_ge0, jn_eq0T, jn_eq0F, jn_in, jn_cl, jf_149_0 hR1, jf_149_1 hR1]
            exact e249 _
          · intro q hq ihq
            rw [jall_s] at ihq
            have q1 : q / F 149 1 < F 149 0 := Nat.div_lt_of_lt_mul (by rw [Nat.mul_comm]; exact hq)
            have q2 : q % F 149 1 < F 149 1 := Nat.mod_lt _ (by omega)
            have l1 := jlin_lt (o := a) hr (by omega) q1
            have l2 := jlin_lt (o := b) hc (by omega) q2
            rw [s195_163]
            cases z : (jall q fun k => A 150 (5 * (k / F 149 1) + k % F 149 1) == A 153 (52 * s + 2 + (5 * jlin (F 149 0) a (k / F 149 1) + jlin (F 149 1) b (k % F 149 1)))) with
            | false =>
              have := e249 (.int (nI q))
              rw [show jsmB (A 150) (fun j => A 153 (52 * s + 2 + j)) (F 149 0) (F 149 1) a b = false by
                apply Bool.eq_false_iff.mpr
                intro w
                unfold jsmB at w
                rw [jall_iff.mpr (fun i hi => jall_iff.mp w i (by omega))] at z
                cases z] at this
              simp (disch := omega) only [s195_165, s195_166, s195_169, s195_170, s195_173, s195_174, s195_177, s195_179, Option.some.injEq, exists_eq_left', exists_eq_left, List.cons_append, List.nil_append, List.length_nil, List.length_cons, Nat.reduceAdd, Nat.reduceMul, Nat.reduceSub, Nat.reduceLeDiff, true_and, and_true, ↓reduceIte, not_false_eq_true, not_true_eq_false, nI_add, pk_mul, jn_ltT, jn_ltF, jn_leT, jn_leF, jn_eqT, jn_eqF, jn_lt0, jn_ge0, jn_eq0T, jn_eq0F, jn_in, jn_cl, jf_149_0 hR1, jf_149_1 hR1, Bool.toNat_false]
              exact this
            | true =>
              rw [z, Bool.true_and] at ihq
              have r1 := ro _ q1
              have r2 := co _ q2
              simp (disch := omega) only [s195_165, s195_166, s195_169, s195_170, s195_173, s195_174, s195_177, s195_179, s195_182, s195_183, s195_186, s195_187, s195_189, s195_190, s195_193, s195_194, s195_195, s195_197, s195_198, s195_201, s195_202, s195_203, s195_204, s195_205, s195_206, s195_207, s195_210, s195_212, s195_213, s195_216, s195_217, s195_218, s195_219, s195_222, s195_224, s195_225, s195_228, s195_229, s195_230, Option.some.injEq, exists_eq_left', exists_eq_left, List.cons_append, List.nil_append, List.length_nil, List.length_cons, Nat.reduceAdd, Nat.reduceMul, Nat.reduceSub, Nat.reduceLeDiff, true_and, and_true, ↓reduceIte, not_false_eq_true, not_true_eq_false, nI_add, pk_mul, jn_ltT, jn_ltF, jn_leT, jn_leF, jn_eqT, jn_eqF, jn_lt0, jn_ge0, jn_eq0T, jn_eq0F, jn_in, jn_cl, jf_149_0 hR1, jf_149_1 hR1, jf_149_2 hR1, jf_149_36 hR1, jf_149_37 hR1, ja_150 hR1, ja_180 hR1, ja_181 hR1, jc_of_149 hR1, Bool.toNat_true, jn_div, jn_rem2, r1, r2, md_slotPlace hR1]
              rw [g150, g153]
              by_cases y : A 150 (5 * (q / F 149 1) + q % F 149 1) = A 153 (52 * s + 2 + (5 * jlin (F 149 0) a (q / F 149 1) + jlin (F 149 1) b (q % F 149 1)))
              · rw [y, beq_self_eq_true] at ihq
                have y' : (A 150 (5 * (q / F 149 1) + q % F 149 1) = A 153 (52 * s + 2 + 5 * jlin (F 149 0) a (q / F 149 1) + jlin (F 149 1) b (q % F 149 1))) = True := eq_true (by rw [y, ← Nat.add_assoc])
                simp (disch := omega) only [s195_233, s195_236, s195_237, s195_240, s195_241, s195_243, s195_246, Option.some.injEq, exists_eq_left', exists_eq_left, List.cons_append, List.nil_append, List.length_nil, List.length_cons, Nat.reduceAdd, Nat.reduceMul, Nat.reduceSub, Nat.reduceLeDiff, true_and, and_true, ↓reduceIte, not_false_eq_true, not_true_eq_false, nI_add, pk_mul, jn_ltT, jn_ltF, jn_leT, jn_leF, jn_eqT, jn_eqF, jn_lt0, jn_ge0, jn_eq0T, jn_eq0F, jn_in, jn_cl, y']
                exact ihq
              · rw [beq_eq_false_iff_ne.mpr y] at ihq
                have y' : (A 150 (5 * (q / F 149 1) + q % F 149 1) = A 153 (52 * s + 2 + 5 * jlin (F 149 0) a (q / F 149 1) + jlin (F 149 1) b (q % F 149 1))) = False := eq_false (by rw [Nat.add_assoc]; exact y)
                simp (disch := omega) only [s195_233, s195_236, s195_237, s195_240, s195_241, s195_243, s195_246, Option.some.injEq, exists_eq_left', exists_eq_left, List.cons_append, List.nil_append, List.length_nil, List.length_cons, Nat.reduceAdd, Nat.reduceMul, Nat.reduceSub, Nat.reduceLeDiff, true_and, and_true, ↓reduceIte, not_false_eq_true, not_true_eq_false, nI_add, pk_mul, jn_ltT, jn_ltF, jn_leT, jn_leF, jn_eqT, jn_eqF, jn_lt0, jn_ge0, jn_eq0T, jn_eq0F, jn_in, jn_cl, y']
                exact ihq
        · intro c hc2 ihc A1 h1 w5 co ro fr hR1 hD1
          rw [s195_125]
          simp (disch := omega) only [s195_127, s195_128, s195_131, s195_134, s195_135, s195_138, s195_140, s195_141, s195_143, s195_144, s195_147, Option.some.injEq, exists_eq_left', exists_eq_left, List.cons_append, List.nil_append, List.length_nil, List.length_cons, Nat.reduceAdd, Nat.reduceMul, Nat.reduceSub, Nat.reduceLeDiff, true_and, and_true, ↓reduceIte, not_false_eq_true, not_true_eq_false, nI_add, pk_mul, jn_ltT, jn_ltF, jn_leT, jn_leF, jn_eqT, jn_eqF, jn_lt0, jn_ge0, jn_eq0T, jn_eq0F, jn_in, jn_cl, jf_149_1 hR1, jf_149_37 hR1]
          refine md_lineOf hc (by omega) hc2 ?_
          simp (disch := omega) only [s195_150, s195_151, s195_154, Option.some.injEq, exists_eq_left', exists_eq_left, List.cons_append, List.nil_append, List.length_nil, List.length_cons, Nat.reduceAdd, Nat.reduceMul, Nat.reduceSub, Nat.reduceLeDiff, true_and, and_true, ↓reduceIte, not_false_eq_true, not_true_eq_false, nI_add, pk_mul, jn_ltT, jn_ltF, jn_leT, jn_leF, jn_eqT, jn_eqF, jn_lt0, jn_ge0, jn_eq0T, jn_eq0F, jn_in, jn_cl, ja_181 hR1]
          refine ihc _ _ _ (fun j hj => ?_) (fun j hj => ?_) (fun a' n1 n2 => ?_) (hR1.wi (a := 181) (f := upd (A1 181) c (nI (jlin (F 149 1) b c))) rfl) (hD1.wi (by decide))
          · rw [jua_same]
            rcases (show j = c ∨ j < c by omega) with w | w
            · subst w; rw [jupd_same]
            · rw [jupd_ne (by omega)]; exact co j w
          · rw [jua_ne (by decide)]; exact ro j hj
          · rw [jua_ne n2]; exact fr a' n1 n2
    · intro r hr2 ihr A1 h1 w4 w5 ro fr hR1 hD1
      rw [s195_80]
      simp (disch := omega) only [s195_81, s195_82, s195_85, s195_88, s195_89, s195_92, s195_93, s195_94, s195_95, s195_96, s195_99, Option.some.injEq, exists_eq_left', exists_eq_left, List.cons_append, List.nil_append, List.length_nil, List.length_cons, Nat.reduceAdd, Nat.reduceMul, Nat.reduceSub, Nat.reduceLeDiff, true_and, and_true, ↓reduceIte, not_false_eq_true, not_true_eq_false, nI_add, pk_mul, jn_ltT, jn_ltF, jn_leT, jn_leF, jn_eqT, jn_eqF, jn_lt0, jn_ge0, jn_eq0T, jn_eq0F, jn_in, jn_cl, jf_149_0 hR1, jf_149_36 hR1]
      refine md_lineOf hr (by omega) hr2 ?_
      simp (disch := omega) only [s195_102, s195_103, s195_106, Option.some.injEq, exists_eq_left', exists_eq_left, List.cons_append, List.nil_append, List.length_nil, List.length_cons, Nat.reduceAdd, Nat.reduceMul, Nat.reduceSub, Nat.reduceLeDiff, true_and, and_true, ↓reduceIte, not_false_eq_true, not_true_eq_false, nI_add, pk_mul, jn_ltT, jn_ltF, jn_leT, jn_leF, jn_eqT, jn_eqF, jn_lt0, jn_ge0, jn_eq0T, jn_eq0F, jn_in, jn_cl, ja_180 hR1]
      refine ihr _ _ _ _ (fun j hj => ?_) (fun a' n1 n2 => ?_) (hR1.wi (a := 180) (f := upd (A1 180) r (nI (jlin (F 149 0) a r))) rfl) (hD1.wi (by decide))
      · rw [jua_same]
        rcases (show j = r ∨ j < r by omega) with w | w
        · subst w; rw [jupd_same]
        · rw [jupd_ne (by omega)]; exact ro j w
      · rw [jua_ne n1]; exact fr a' n1 n2
end MD30
