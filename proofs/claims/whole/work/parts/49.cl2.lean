/-! ===== the class: the task itself is written ===== -/
section CL2
variable {d : Nat} {F : Nat → Nat → Nat} {A : Nat → Nat → Int32} {G : Nat → Option Nat} {g : Nat → Int64} {h : jxH} {Q : List Value → jxH → Prop}
theorem tk_clear (hR : jR F A G g h) {r c : Nat} (k : ∀ h' pl wt, (∀ j, j < 25 → pl j = nI 0) → (∀ j, j < 25 → wt j = nI 1) → jR (jup (jup F 2 0 r) 2 1 c) (jua (jua A 3 pl) 4 wt) G g h' → jD h h' → Q [] h') : jx_Go jxP (d + 1) 70 0 [.ref 2, .int (nI r), .int (nI c)] [] h Q := by
  simp (disch := first | omega | decide) only [s70_0, s70_1, s70_2, s70_5, s70_6, s70_7, s70_10, s70_11, s70_14, s70_15, Option.some.injEq, exists_eq_left', exists_eq_left, List.cons_append, List.nil_append, List.length_nil, List.length_cons, Nat.reduceAdd, Nat.reduceMul, Nat.reduceSub, Nat.reduceLeDiff, true_and, and_true, ↓reduceIte, not_false_eq_true, not_true_eq_false, nI_add, pk_mul, jn_ltT, jn_ltF, jn_leT, jn_leF, jn_eqT, jn_eqF, jn_lt0, jn_ge0, jn_eq0T, jn_eq0F, jn_in, jn_cl, jh_ai_wi, jh_ai_wi_ne, jh_ai_uf, jh_fl_wi_ne, jh_fl_uf_ne, jh_fl_uf_o, jh_cl_wi_ne, jh_cl_uf, jh_al_wi_ne, jh_al_uf, jh_al_wl, jh_al_wl_ne, jh_ai_wl_ne, jh_fl_wl_ne, jh_cl_wl_ne, jh_ar_wi_ne, jh_ar_uf, jh_ar_wl_ne, jh_1_wi, jh_1_uf, jh_1_wl, jf_2_0 hR, jf_2_1 hR, jf_2_2 hR]
  have hR1 := (hR.uf (o := 2) (k := 0) (v := r) rfl rfl).uf (o := 2) (k := 1) (v := c) rfl rfl
  have hD1 := ((jD.rf (h := h)).uf (a := 2) (k := 0) (v := .int (nI r)) (by decide)).uf (a := 2) (k := 1) (v := .int (nI c)) (by decide)
  generalize jx_uf (jx_uf h 2 0 (.int (nI r))) 2 1 (.int (nI c)) = h1 at hR1 hD1 ⊢
  refine ar_fill (ja_3 hR1) (by omega) (fun pl hp => ?_)
  have hR2 := hR1.wi (a := 3) (f := pl) rfl
  have hD2 := hD1.wi (a := 3) (n := 25) (f := pl) (by decide)
  generalize jx_wi h1 3 25 pl = h2 at hR2 hD2 ⊢
  simp (disch := omega) only [s70_18, s70_19, s70_22, s70_23, Option.some.injEq, exists_eq_left', exists_eq_left, List.cons_append, List.nil_append, List.length_nil, List.length_cons, Nat.reduceAdd, Nat.reduceMul, Nat.reduceSub, Nat.reduceLeDiff, true_and, and_true, ↓reduceIte, not_false_eq_true, not_true_eq_false, nI_add, pk_mul, jn_ltT, jn_ltF, jn_leT, jn_leF, jn_eqT, jn_eqF, jn_lt0, jn_ge0, jn_eq0T, jn_eq0F, jn_in, jn_cl, jf_2_3 hR2]
  refine ar_fill (ja_4 hR2) (by omega) (fun wt hw => ?_)
  simp (disch := omega) only [s70_26, Option.some.injEq, exists_eq_left', exists_eq_left, List.cons_append, List.nil_append, List.length_nil, List.length_cons, Nat.reduceAdd, Nat.reduceMul, Nat.reduceSub, Nat.reduceLeDiff, true_and, and_true, ↓reduceIte, not_false_eq_true, not_true_eq_false, nI_add, pk_mul, jn_ltT, jn_ltF, jn_leT, jn_leF, jn_eqT, jn_eqF, jn_lt0, jn_ge0, jn_eq0T, jn_eq0F, jn_in, jn_cl]
  exact k _ pl wt hp hw (hR2.wi (a := 4) (f := wt) rfl) (hD2.wi (by decide))
theorem jab5 : ∀ i, i < 5 → ∀ j, j < 5 → (if 0 ≤ nI i - nI j then nI i - nI j else 0 - (nI i - nI j)) = nI (i - j + (j - i)) := by decide +kernel
theorem tk_byRule {q i j : Nat} (hq : q ≤ 4) (hi : i < 5) (hj : j < 5) : jx_Go jxP (d + 1) 75 0 [.int (nI q), .int (nI i), .int (nI j), jx_u, jx_u] [] h Q ↔ Q [.int (nI (jrule q i j))] h := by
  have hand : (i &&& j) < 8 := jand_lt (by omega)
  have hpop := jpop_le (i &&& j)
  have e5 := jab5 i hi j hj
  simp (disch := omega) only [s75_0, s75_1, s75_2, s75_3, s75_6, s75_7, s75_8, s75_9, s75_10, s75_13, s75_15, Option.some.injEq, exists_eq_left', exists_eq_left, List.cons_append, List.nil_append, List.length_nil, List.length_cons, Nat.reduceAdd, Nat.reduceMul, Nat.reduceSub, Nat.reduceLeDiff, true_and, and_true, ↓reduceIte, not_false_eq_true, not_true_eq_false, nI_add, pk_mul, jn_ltT, jn_ltF, jn_leT, jn_leF, jn_eqT, jn_eqF, jn_lt0, jn_ge0, jn_eq0T, jn_eq0F, jn_in, jn_cl, jn_and, in_bitCount, jbc_32, e5]
  rcases (show q = 0 ∨ q = 1 ∨ q = 2 ∨ q = 3 ∨ q = 4 by omega) with rfl | rfl | rfl | rfl | rfl
  · rw [s75_16, show js_swt 16 68 0 3 [32, 43, 54, 64] (nI 0) = 48 by decide +kernel]
    by_cases w : i = j
    · simp (disch := omega) only [s75_0, s75_1, s75_2, s75_3, s75_6, s75_7, s75_8, s75_9, s75_10, s75_13, s75_15, s75_16, s75_48, s75_49, s75_50, s75_53, s75_54, s75_57, s75_58, s75_59, s75_60, s75_61, s75_64, s75_65, s75_68, s75_69, s75_70, s75_71, s75_74, s75_75, s75_78, s75_79, s75_80, s75_81, s75_82, s75_83, s75_84, s75_86, s75_87, s75_90, s75_91, s75_94, s75_96, s75_97, s75_100, s75_101, s75_104, s75_105, Option.some.injEq, exists_eq_left', exists_eq_left, List.cons_append, List.nil_append, List.length_nil, List.length_cons, Nat.reduceAdd, Nat.reduceMul, Nat.reduceSub, Nat.reduceLeDiff, true_and, and_true, ↓reduceIte, not_false_eq_true, not_true_eq_false, nI_add, pk_mul, jn_ltT, jn_ltF, jn_leT, jn_leF, jn_eqT, jn_eqF, jn_lt0, jn_ge0, jn_eq0T, jn_eq0F, jn_in, jn_cl]
      simp [jrule, w]
    · simp (disch := omega) only [s75_0, s75_1, s75_2, s75_3, s75_6, s75_7, s75_8, s75_9, s75_10, s75_13, s75_15, s75_16, s75_48, s75_49, s75_50, s75_53, s75_54, s75_57, s75_58, s75_59, s75_60, s75_61, s75_64, s75_65, s75_68, s75_69, s75_70, s75_71, s75_74, s75_75, s75_78, s75_79, s75_80, s75_81, s75_82, s75_83, s75_84, s75_86, s75_87, s75_90, s75_91, s75_94, s75_96, s75_97, s75_100, s75_101, s75_104, s75_105, Option.some.injEq, exists_eq_left', exists_eq_left, List.cons_append, List.nil_append, List.length_nil, List.length_cons, Nat.reduceAdd, Nat.reduceMul, Nat.reduceSub, Nat.reduceLeDiff, true_and, and_true, ↓reduceIte, not_false_eq_true, not_true_eq_false, nI_add, pk_mul, jn_ltT, jn_ltF, jn_leT, jn_leF, jn_eqT, jn_eqF, jn_lt0, jn_ge0, jn_eq0T, jn_eq0F, jn_in, jn_cl]
      simp [jrule, w]
  · rw [s75_16, show js_swt 16 68 0 3 [32, 43, 54, 64] (nI 1) = 59 by decide +kernel]
    by_cases w : i < j
    · simp (disch := omega) only [s75_0, s75_1, s75_2, s75_3, s75_6, s75_7, s75_8, s75_9, s75_10, s75_13, s75_15, s75_16, s75_48, s75_49, s75_50, s75_53, s75_54, s75_57, s75_58, s75_59, s75_60, s75_61, s75_64, s75_65, s75_68, s75_69, s75_70, s75_71, s75_74, s75_75, s75_78, s75_79, s75_80, s75_81, s75_82, s75_83, s75_84, s75_86, s75_87, s75_90, s75_91, s75_94, s75_96, s75_97, s75_100, s75_101, s75_104, s75_105, Option.some.injEq, exists_eq_left', exists_eq_left, List.cons_append, List.nil_append, List.length_nil, List.length_cons, Nat.reduceAdd, Nat.reduceMul, Nat.reduceSub, Nat.reduceLeDiff, true_and, and_true, ↓reduceIte, not_false_eq_true, not_true_eq_false, nI_add, pk_mul, jn_ltT, jn_ltF, jn_leT, jn_leF, jn_eqT, jn_eqF, jn_lt0, jn_ge0, jn_eq0T, jn_eq0F, jn_in, jn_cl]
      simp [jrule, w]
    · simp (disch := omega) only [s75_0, s75_1, s75_2, s75_3, s75_6, s75_7, s75_8, s75_9, s75_10, s75_13, s75_15, s75_16, s75_48, s75_49, s75_50, s75_53, s75_54, s75_57, s75_58, s75_59, s75_60, s75_61, s75_64, s75_65, s75_68, s75_69, s75_70, s75_71, s75_74, s75_75, s75_78, s75_79, s75_80, s75_81, s75_82, s75_83, s75_84, s75_86, s75_87, s75_90, s75_91, s75_94, s75_96, s75_97, s75_100, s75_101, s75_104, s75_105, Option.some.injEq, exists_eq_left', exists_eq_left, List.cons_append, List.nil_append, List.length_nil, List.length_cons, Nat.reduceAdd, Nat.reduceMul, Nat.reduceSub, Nat.reduceLeDiff, true_and, and_true, ↓reduceIte, not_false_eq_true, not_true_eq_false, nI_add, pk_mul, jn_ltT, jn_ltF, jn_leT, jn_leF, jn_eqT, jn_eqF, jn_lt0, jn_ge0, jn_eq0T, jn_eq0F, jn_in, jn_cl]
      simp [jrule, w]
  · rw [s75_16, show js_swt 16 68 0 3 [32, 43, 54, 64] (nI 2) = 70 by decide +kernel]
    have p0 : ∀ x, x < 8 → (jpop x = 0 ↔ x = 0) := by decide +kernel
    have p0 := p0 _ hand
    by_cases w : i &&& j = 0
    · have w2 := p0.mpr w
      simp (disch := omega) only [s75_0, s75_1, s75_2, s75_3, s75_6, s75_7, s75_8, s75_9, s75_10, s75_13, s75_15, s75_16, s75_48, s75_49, s75_50, s75_53, s75_54, s75_57, s75_58, s75_59, s75_60, s75_61, s75_64, s75_65, s75_68, s75_69, s75_70, s75_71, s75_74, s75_75, s75_78, s75_79, s75_80, s75_81, s75_82, s75_83, s75_84, s75_86, s75_87, s75_90, s75_91, s75_94, s75_96, s75_97, s75_100, s75_101, s75_104, s75_105, Option.some.injEq, exists_eq_left', exists_eq_left, List.cons_append, List.nil_append, List.length_nil, List.length_cons, Nat.reduceAdd, Nat.reduceMul, Nat.reduceSub, Nat.reduceLeDiff, true_and, and_true, ↓reduceIte, not_false_eq_true, not_true_eq_false, nI_add, pk_mul, jn_ltT, jn_ltF, jn_leT, jn_leF, jn_eqT, jn_eqF, jn_lt0, jn_ge0, jn_eq0T, jn_eq0F, jn_in, jn_cl]
      simp [jrule, w]
    · have w2 : ¬ jpop (i &&& j) = 0 := fun z => w (p0.mp z)
      simp (disch := omega) only [s75_0, s75_1, s75_2, s75_3, s75_6, s75_7, s75_8, s75_9, s75_10, s75_13, s75_15, s75_16, s75_48, s75_49, s75_50, s75_53, s75_54, s75_57, s75_58, s75_59, s75_60, s75_61, s75_64, s75_65, s75_68, s75_69, s75_70, s75_71, s75_74, s75_75, s75_78, s75_79, s75_80, s75_81, s75_82, s75_83, s75_84, s75_86, s75_87, s75_90, s75_91, s75_94, s75_96, s75_97, s75_100, s75_101, s75_104, s75_105, Option.some.injEq, exists_eq_left', exists_eq_left, List.cons_append, List.nil_append, List.length_nil, List.length_cons, Nat.reduceAdd, Nat.reduceMul, Nat.reduceSub, Nat.reduceLeDiff, true_and, and_true, ↓reduceIte, not_false_eq_true, not_true_eq_false, nI_add, pk_mul, jn_ltT, jn_ltF, jn_leT, jn_leF, jn_eqT, jn_eqF, jn_lt0, jn_ge0, jn_eq0T, jn_eq0F, jn_in, jn_cl]
      simp [jrule, w]
  · rw [s75_16, show js_swt 16 68 0 3 [32, 43, 54, 64] (nI 3) = 80 by decide +kernel]
    simp (disch := omega) only [s75_0, s75_1, s75_2, s75_3, s75_6, s75_7, s75_8, s75_9, s75_10, s75_13, s75_15, s75_16, s75_48, s75_49, s75_50, s75_53, s75_54, s75_57, s75_58, s75_59, s75_60, s75_61, s75_64, s75_65, s75_68, s75_69, s75_70, s75_71, s75_74, s75_75, s75_78, s75_79, s75_80, s75_81, s75_82, s75_83, s75_84, s75_86, s75_87, s75_90, s75_91, s75_94, s75_96, s75_97, s75_100, s75_101, s75_104, s75_105, Option.some.injEq, exists_eq_left', exists_eq_left, List.cons_append, List.nil_append, List.length_nil, List.length_cons, Nat.reduceAdd, Nat.reduceMul, Nat.reduceSub, Nat.reduceLeDiff, true_and, and_true, ↓reduceIte, not_false_eq_true, not_true_eq_false, nI_add, pk_mul, jn_ltT, jn_ltF, jn_leT, jn_leF, jn_eqT, jn_eqF, jn_lt0, jn_ge0, jn_eq0T, jn_eq0F, jn_in, jn_cl, jn_and, Nat.and_one_is_mod]
    have : jrule 3 i j = jpop (i &&& j) % 2 := by
      simp [jrule]
      split <;> omega
    rw [this]
  · rw [s75_16, show js_swt 16 68 0 3 [32, 43, 54, 64] (nI 4) = 84 by decide +kernel]
    by_cases w : i - j + (j - i) ≤ 1
    · simp (disch := omega) only [s75_0, s75_1, s75_2, s75_3, s75_6, s75_7, s75_8, s75_9, s75_10, s75_13, s75_15, s75_16, s75_48, s75_49, s75_50, s75_53, s75_54, s75_57, s75_58, s75_59, s75_60, s75_61, s75_64, s75_65, s75_68, s75_69, s75_70, s75_71, s75_74, s75_75, s75_78, s75_79, s75_80, s75_81, s75_82, s75_83, s75_84, s75_86, s75_87, s75_90, s75_91, s75_94, s75_96, s75_97, s75_100, s75_101, s75_104, s75_105, Option.some.injEq, exists_eq_left', exists_eq_left, List.cons_append, List.nil_append, List.length_nil, List.length_cons, Nat.reduceAdd, Nat.reduceMul, Nat.reduceSub, Nat.reduceLeDiff, true_and, and_true, ↓reduceIte, not_false_eq_true, not_true_eq_false, nI_add, pk_mul, jn_ltT, jn_ltF, jn_leT, jn_leF, jn_eqT, jn_eqF, jn_lt0, jn_ge0, jn_eq0T, jn_eq0F, jn_in, jn_cl]
      simp [jrule, w]
    · by_cases w2 : i - j + (j - i) = 2
      · simp (disch := omega) only [s75_0, s75_1, s75_2, s75_3, s75_6, s75_7, s75_8, s75_9, s75_10, s75_13, s75_15, s75_16, s75_48, s75_49, s75_50, s75_53, s75_54, s75_57, s75_58, s75_59, s75_60, s75_61, s75_64, s75_65, s75_68, s75_69, s75_70, s75_71, s75_74, s75_75, s75_78, s75_79, s75_80, s75_81, s75_82, s75_83, s75_84, s75_86, s75_87, s75_90, s75_91, s75_94, s75_96, s75_97, s75_100, s75_101, s75_104, s75_105, Option.some.injEq, exists_eq_left', exists_eq_left, List.cons_append, List.nil_append, List.length_nil, List.length_cons, Nat.reduceAdd, Nat.reduceMul, Nat.reduceSub, Nat.reduceLeDiff, true_and, and_true, ↓reduceIte, not_false_eq_true, not_true_eq_false, nI_add, pk_mul, jn_ltT, jn_ltF, jn_leT, jn_leF, jn_eqT, jn_eqF, jn_lt0, jn_ge0, jn_eq0T, jn_eq0F, jn_in, jn_cl]
        simp [jrule, w2]
      · simp (disch := omega) only [s75_0, s75_1, s75_2, s75_3, s75_6, s75_7, s75_8, s75_9, s75_10, s75_13, s75_15, s75_16, s75_48, s75_49, s75_50, s75_53, s75_54, s75_57, s75_58, s75_59, s75_60, s75_61, s75_64, s75_65, s75_68, s75_69, s75_70, s75_71, s75_74, s75_75, s75_78, s75_79, s75_80, s75_81, s75_82, s75_83, s75_84, s75_86, s75_87, s75_90, s75_91, s75_94, s75_96, s75_97, s75_100, s75_101, s75_104, s75_105, Option.some.injEq, exists_eq_left', exists_eq_left, List.cons_append, List.nil_append, List.length_nil, List.length_cons, Nat.reduceAdd, Nat.reduceMul, Nat.reduceSub, Nat.reduceLeDiff, true_and, and_true, ↓reduceIte, not_false_eq_true, not_true_eq_false, nI_add, pk_mul, jn_ltT, jn_ltF, jn_leT, jn_leF, jn_eqT, jn_eqF, jn_lt0, jn_ge0, jn_eq0T, jn_eq0F, jn_in, jn_cl]
        simp [jrule, w, w2]
theorem tk_fillByRule (hR : jR F A G g h) (hr : F 2 0 ≤ 5) (hc : F 2 1 ≤ 5) {q : Nat} (hq : q ≤ 4) (k : ∀ h' pl, (∀ i j, i < F 2 0 → j < F 2 1 → pl (5 * i + j) = nI (jrule q i j)) → jR F (jua A 3 pl) G g h' → jD h h' → Q [] h') : jx_Go jxP (d + 2) 74 0 [.ref 2, .int (nI q), jx_u, jx_u] [] h Q := by
  simp (disch := omega) only [s74_0, s74_1, Option.some.injEq, exists_eq_left', exists_eq_left, List.cons_append, List.nil_append, List.length_nil, List.length_cons, Nat.reduceAdd, Nat.reduceMul, Nat.reduceSub, Nat.reduceLeDiff, true_and, and_true, ↓reduceIte, not_false_eq_true, not_true_eq_false, nI_add, pk_mul, jn_ltT, jn_ltF, jn_leT, jn_leF, jn_eqT, jn_eqF, jn_lt0, jn_ge0, jn_eq0T, jn_eq0F, jn_in, jn_cl]
  refine jloop (fun i => ∀ pl w3, (∀ a b, a < i → b < F 2 1 → pl (5 * a + b) = nI (jrule q a b)) → jx_Go jxP (d + 2) 74 2 [.ref 2, .int (nI q), .int (nI i), w3] [] (jx_wi h 3 25 pl) Q) (F 2 0) ?_ ?_ 0 (Nat.zero_le _) (A 3) _ (by omega) |> fun z => by rw [jh_wi_id (ja_3 hR)] at z; exact z
  · intro pl w3 hp
    rw [s74_2]
    simp (disch := first | omega | decide) only [s74_3, s74_4, s74_7, s74_48, Option.some.injEq, exists_eq_left', exists_eq_left, List.cons_append, List.nil_append, List.length_nil, List.length_cons, Nat.reduceAdd, Nat.reduceMul, Nat.reduceSub, Nat.reduceLeDiff, true_and, and_true, ↓reduceIte, not_false_eq_true, not_true_eq_false, nI_add, pk_mul, jn_ltT, jn_ltF, jn_leT, jn_leF, jn_eqT, jn_eqF, jn_lt0, jn_ge0, jn_eq0T, jn_eq0F, jn_in, jn_cl, jh_ai_wi, jh_ai_wi_ne, jh_ai_uf, jh_fl_wi_ne, jh_fl_uf_ne, jh_fl_uf_o, jh_cl_wi_ne, jh_cl_uf, jh_al_wi_ne, jh_al_uf, jh_al_wl, jh_al_wl_ne, jh_ai_wl_ne, jh_fl_wl_ne, jh_cl_wl_ne, jh_ar_wi_ne, jh_ar_uf, jh_ar_wl_ne, jh_1_wi, jh_1_uf, jh_1_wl, jf_2_0 hR]
    exact k _ pl hp (hR.wi (a := 3) (f := pl) rfl) (jD.rf.wi (by decide))
  · intro i hi ih pl w3 hp
    rw [s74_2]
    simp (disch := first | omega | decide) only [s74_3, s74_4, s74_7, s74_10, s74_11, Option.some.injEq, exists_eq_left', exists_eq_left, List.cons_append, List.nil_append, List.length_nil, List.length_cons, Nat.reduceAdd, Nat.reduceMul, Nat.reduceSub, Nat.reduceLeDiff, true_and, and_true, ↓reduceIte, not_false_eq_true, not_true_eq_false, nI_add, pk_mul, jn_ltT, jn_ltF, jn_leT, jn_leF, jn_eqT, jn_eqF, jn_lt0, jn_ge0, jn_eq0T, jn_eq0F, jn_in, jn_cl, jh_ai_wi, jh_ai_wi_ne, jh_ai_uf, jh_fl_wi_ne, jh_fl_uf_ne, jh_fl_uf_o, jh_cl_wi_ne, jh_cl_uf, jh_al_wi_ne, jh_al_uf, jh_al_wl, jh_al_wl_ne, jh_ai_wl_ne, jh_fl_wl_ne, jh_cl_wl_ne, jh_ar_wi_ne, jh_ar_uf, jh_ar_wl_ne, jh_1_wi, jh_1_uf, jh_1_wl, jf_2_0 hR]
    refine jloop (fun j => ∀ pl, (∀ a b, jbef i j a b → b < F 2 1 → pl (5 * a + b) = nI (jrule q a b)) → jx_Go jxP (d + 2) 74 12 [.ref 2, .int (nI q), .int (nI i), .int (nI j)] [] (jx_wi h 3 25 pl) Q) (F 2 1) ?_ ?_ 0 (Nat.zero_le _) pl (fun a b hab hb => hp a b (by unfold jbef at hab; omega) hb)
    · intro pl hp
      rw [s74_12]
      simp (disch := first | omega | decide) only [s74_13, s74_14, s74_17, s74_42, s74_45, Option.some.injEq, exists_eq_left', exists_eq_left, List.cons_append, List.nil_append, List.length_nil, List.length_cons, Nat.reduceAdd, Nat.reduceMul, Nat.reduceSub, Nat.reduceLeDiff, true_and, and_true, ↓reduceIte, not_false_eq_true, not_true_eq_false, nI_add, pk_mul, jn_ltT, jn_ltF, jn_leT, jn_leF, jn_eqT, jn_eqF, jn_lt0, jn_ge0, jn_eq0T, jn_eq0F, jn_in, jn_cl, jh_ai_wi, jh_ai_wi_ne, jh_ai_uf, jh_fl_wi_ne, jh_fl_uf_ne, jh_fl_uf_o, jh_cl_wi_ne, jh_cl_uf, jh_al_wi_ne, jh_al_uf, jh_al_wl, jh_al_wl_ne, jh_ai_wl_ne, jh_fl_wl_ne, jh_cl_wl_ne, jh_ar_wi_ne, jh_ar_uf, jh_ar_wl_ne, jh_1_wi, jh_1_uf, jh_1_wl, jf_2_1 hR]
      exact ih pl _ (fun a b ha hb => hp a b (by unfold jbef; omega) hb)
    · intro j hj ih2 pl hp
      rw [s74_12]
      simp (disch := first | omega | decide) only [s74_13, s74_14, s74_17, s74_20, s74_21, s74_24, s74_25, s74_26, s74_27, s74_28, s74_29, s74_30, s74_31, s74_32, Option.some.injEq, exists_eq_left', exists_eq_left, List.cons_append, List.nil_append, List.length_nil, List.length_cons, Nat.reduceAdd, Nat.reduceMul, Nat.reduceSub, Nat.reduceLeDiff, true_and, and_true, ↓reduceIte, not_false_eq_true, not_true_eq_false, nI_add, pk_mul, jn_ltT, jn_ltF, jn_leT, jn_leF, jn_eqT, jn_eqF, jn_lt0, jn_ge0, jn_eq0T, jn_eq0F, jn_in, jn_cl, jh_ai_wi, jh_ai_wi_ne, jh_ai_uf, jh_fl_wi_ne, jh_fl_uf_ne, jh_fl_uf_o, jh_cl_wi_ne, jh_cl_uf, jh_al_wi_ne, jh_al_uf, jh_al_wl, jh_al_wl_ne, jh_ai_wl_ne, jh_fl_wl_ne, jh_cl_wl_ne, jh_ar_wi_ne, jh_ar_uf, jh_ar_wl_ne, jh_1_wi, jh_1_uf, jh_1_wl, jf_2_1 hR, jf_2_2 hR, tk_byRule]
      simp (disch := first | omega | decide) only [s74_35, s74_36, s74_39, Option.some.injEq, exists_eq_left', exists_eq_left, List.cons_append, List.nil_append, List.length_nil, List.length_cons, Nat.reduceAdd, Nat.reduceMul, Nat.reduceSub, Nat.reduceLeDiff, true_and, and_true, ↓reduceIte, not_false_eq_true, not_true_eq_false, nI_add, pk_mul, jn_ltT, jn_ltF, jn_leT, jn_leF, jn_eqT, jn_eqF, jn_lt0, jn_ge0, jn_eq0T, jn_eq0F, jn_in, jn_cl, jh_ai_wi, jh_ai_wi_ne, jh_ai_uf, jh_fl_wi_ne, jh_fl_uf_ne, jh_fl_uf_o, jh_cl_wi_ne, jh_cl_uf, jh_al_wi_ne, jh_al_uf, jh_al_wl, jh_al_wl_ne, jh_ai_wl_ne, jh_fl_wl_ne, jh_cl_wl_ne, jh_ar_wi_ne, jh_ar_uf, jh_ar_wl_ne, jh_1_wi, jh_1_uf, jh_1_wl, jh_wi_wi]
      refine ih2 _ (fun a b hab hb => ?_)
      by_cases e : 5 * a + b = 5 * i + j
      · have ea : a = i := by unfold jbef at hab; omega
        have eb : b = j := by unfold jbef at hab; omega
        subst ea; subst eb
        rw [jupd_same]
      · rw [jupd_ne e]
        exact hp a b (by unfold jbef at hab ⊢; omega) hb
theorem tk_fillFrom (hR : jR F A G g h) (hr : F 2 0 ≤ 5) (hc : F 2 1 ≤ 5) {so nu z : Nat} {f : Nat → Int32} (s1 : jx_fl h so 8 1 = some (.int (nI z))) (s2 : jx_fl h so 8 2 = some (.ref nu)) (s3 : jx_ai h nu = some (30, f)) (n1 : so ≠ 3) (n2 : nu ≠ 3) (hz : z ≤ 30) (k : ∀ h' pl, (∀ i j, i < F 2 0 → j < F 2 1 → pl (5 * i + j) = if i * F 2 1 + j < z then f (i * F 2 1 + j) else nI 2) → jR F (jua A 3 pl) G g h' → jD h h' → Q [] h') : jx_Go jxP d 76 0 [.ref 2, .ref so, jx_u, jx_u, jx_u] [] h Q := by
  have hm : F 2 0 * F 2 1 ≤ 25 := Nat.mul_le_mul hr hc
  simp (disch := omega) only [s76_0, s76_1, s76_2, s76_3, Option.some.injEq, exists_eq_left', exists_eq_left, List.cons_append, List.nil_append, List.length_nil, List.length_cons, Nat.reduceAdd, Nat.reduceMul, Nat.reduceSub, Nat.reduceLeDiff, true_and, and_true, ↓reduceIte, not_false_eq_true, not_true_eq_false, nI_add, pk_mul, jn_ltT, jn_ltF, jn_leT, jn_leF, jn_eqT, jn_eqF, jn_lt0, jn_ge0, jn_eq0T, jn_eq0F, jn_in, jn_cl]
  refine jloop (fun i => ∀ pl w4, (∀ a b, a < i → b < F 2 1 → pl (5 * a + b) = if a * F 2 1 + b < z then f (a * F 2 1 + b) else nI 2) → jx_Go jxP d 76 4 [.ref 2, .ref so, .int (nI (i * F 2 1)), .int (nI i), w4] [] (jx_wi h 3 25 pl) Q) (F 2 0) ?_ ?_ 0 (Nat.zero_le _) (A 3) jx_u (by omega) |> fun z => by rw [jh_wi_id (ja_3 hR), Nat.zero_mul] at z; exact z
  · intro pl w4 hp
    rw [s76_4]
    simp (disch := first | omega | decide) only [s76_5, s76_6, s76_9, s76_68, Option.some.injEq, exists_eq_left', exists_eq_left, List.cons_append, List.nil_append, List.length_nil, List.length_cons, Nat.reduceAdd, Nat.reduceMul, Nat.reduceSub, Nat.reduceLeDiff, true_and, and_true, ↓reduceIte, not_false_eq_true, not_true_eq_false, nI_add, pk_mul, jn_ltT, jn_ltF, jn_leT, jn_leF, jn_eqT, jn_eqF, jn_lt0, jn_ge0, jn_eq0T, jn_eq0F, jn_in, jn_cl, jh_ai_wi, jh_ai_wi_ne, jh_ai_uf, jh_fl_wi_ne, jh_fl_uf_ne, jh_fl_uf_o, jh_cl_wi_ne, jh_cl_uf, jh_al_wi_ne, jh_al_uf, jh_al_wl, jh_al_wl_ne, jh_ai_wl_ne, jh_fl_wl_ne, jh_cl_wl_ne, jh_ar_wi_ne, jh_ar_uf, jh_ar_wl_ne, jh_1_wi, jh_1_uf, jh_1_wl, jf_2_0 hR]
    exact k _ pl hp (hR.wi (a := 3) (f := pl) rfl) (jD.rf.wi (by decide))
  · intro i hi ih pl w4 hp
    have hmi : i * F 2 1 + F 2 1 ≤ 25 := by
      have : (i + 1) * F 2 1 ≤ F 2 0 * F 2 1 := Nat.mul_le_mul_right _ (by omega)
      rw [Nat.succ_mul] at this
      omega
    rw [Nat.succ_mul] at ih
    rw [s76_4]
    simp (disch := first | omega | decide) only [s76_5, s76_6, s76_9, s76_12, s76_13, Option.some.injEq, exists_eq_left', exists_eq_left, List.cons_append, List.nil_append, List.length_nil, List.length_cons, Nat.reduceAdd, Nat.reduceMul, Nat.reduceSub, Nat.reduceLeDiff, true_and, and_true, ↓reduceIte, not_false_eq_true, not_true_eq_false, nI_add, pk_mul, jn_ltT, jn_ltF, jn_leT, jn_leF, jn_eqT, jn_eqF, jn_lt0, jn_ge0, jn_eq0T, jn_eq0F, jn_in, jn_cl, jh_ai_wi, jh_ai_wi_ne, jh_ai_uf, jh_fl_wi_ne, jh_fl_uf_ne, jh_fl_uf_o, jh_cl_wi_ne, jh_cl_uf, jh_al_wi_ne, jh_al_uf, jh_al_wl, jh_al_wl_ne, jh_ai_wl_ne, jh_fl_wl_ne, jh_cl_wl_ne, jh_ar_wi_ne, jh_ar_uf, jh_ar_wl_ne, jh_1_wi, jh_1_uf, jh_1_wl, jf_2_0 hR]
    refine jloop (fun j => ∀ pl, (∀ a b, jbef i j a b → b < F 2 1 → pl (5 * a + b) = if a * F 2 1 + b < z then f (a * F 2 1 + b) else nI 2) → jx_Go jxP d 76 15 [.ref 2, .ref so, .int (nI (i * F 2 1 + j)), .int (nI i), .int (nI j)] [] (jx_wi h 3 25 pl) Q) (F 2 1) ?_ ?_ 0 (Nat.zero_le _) pl (fun a b hab hb => hp a b (by unfold jbef at hab; omega) hb)
    · intro pl hp
      rw [s76_15]
      simp (disch := first | omega | decide) only [s76_17, s76_18, s76_21, s76_62, s76_65, Option.some.injEq, exists_eq_left', exists_eq_left, List.cons_append, List.nil_append, List.length_nil, List.length_cons, Nat.reduceAdd, Nat.reduceMul, Nat.reduceSub, Nat.reduceLeDiff, true_and, and_true, ↓reduceIte, not_false_eq_true, not_true_eq_false, nI_add, pk_mul, jn_ltT, jn_ltF, jn_leT, jn_leF, jn_eqT, jn_eqF, jn_lt0, jn_ge0, jn_eq0T, jn_eq0F, jn_in, jn_cl, jh_ai_wi, jh_ai_wi_ne, jh_ai_uf, jh_fl_wi_ne, jh_fl_uf_ne, jh_fl_uf_o, jh_cl_wi_ne, jh_cl_uf, jh_al_wi_ne, jh_al_uf, jh_al_wl, jh_al_wl_ne, jh_ai_wl_ne, jh_fl_wl_ne, jh_cl_wl_ne, jh_ar_wi_ne, jh_ar_uf, jh_ar_wl_ne, jh_1_wi, jh_1_uf, jh_1_wl, jf_2_1 hR]
      exact ih pl _ (fun a b ha hb => hp a b (by unfold jbef; omega) hb)
    · intro j hj ih2 pl hp
      rw [s76_15]
      have fin : ∀ v, v = (if i * F 2 1 + j < z then f (i * F 2 1 + j) else nI 2) → jx_Go jxP d 76 15 [.ref 2, .ref so, .int (nI (i * F 2 1 + j + 1)), .int (nI i), .int (nI (j + 1))] [] (jx_wi h 3 25 (upd pl (5 * i + j) v)) Q := by
        intro v hv
        refine ih2 _ (fun a b hab hb => ?_)
        by_cases e : 5 * a + b = 5 * i + j
        · have ea : a = i := by unfold jbef at hab; omega
          have eb : b = j := by unfold jbef at hab; omega
          subst ea; subst eb
          rw [jupd_same]; exact hv
        · rw [jupd_ne e]
          exact hp a b (by unfold jbef at hab ⊢; omega) hb
      by_cases w : i * F 2 1 + j < z
      · simp (disch := first | assumption | omega | decide) only [s76_17, s76_18, s76_21, s76_24, s76_25, s76_28, s76_29, s76_30, s76_31, s76_33, s76_34, s76_35, s76_36, s76_39, s76_42, s76_43, s76_46, s76_47, s76_48, s76_51, s76_52, s76_53, s76_56, s76_59, Option.some.injEq, exists_eq_left', exists_eq_left, List.cons_append, List.nil_append, List.length_nil, List.length_cons, Nat.reduceAdd, Nat.reduceMul, Nat.reduceSub, Nat.reduceLeDiff, true_and, and_true, ↓reduceIte, not_false_eq_true, not_true_eq_false, nI_add, pk_mul, jn_ltT, jn_ltF, jn_leT, jn_leF, jn_eqT, jn_eqF, jn_lt0, jn_ge0, jn_eq0T, jn_eq0F, jn_in, jn_cl, jh_ai_wi, jh_ai_wi_ne, jh_ai_uf, jh_fl_wi_ne, jh_fl_uf_ne, jh_fl_uf_o, jh_cl_wi_ne, jh_cl_uf, jh_al_wi_ne, jh_al_uf, jh_al_wl, jh_al_wl_ne, jh_ai_wl_ne, jh_fl_wl_ne, jh_cl_wl_ne, jh_ar_wi_ne, jh_ar_uf, jh_ar_wl_ne, jh_1_wi, jh_1_uf, jh_1_wl, jf_2_1 hR, jf_2_2 hR, s1, s2, s3, jh_wi_wi]
        exact fin _ (by rw [if_pos w])
      · simp (disch := first | assumption | omega | decide) only [s76_17, s76_18, s76_21, s76_24, s76_25, s76_28, s76_29, s76_30, s76_31, s76_33, s76_34, s76_35, s76_36, s76_39, s76_42, s76_43, s76_46, s76_47, s76_48, s76_51, s76_52, s76_53, s76_56, s76_59, Option.some.injEq, exists_eq_left', exists_eq_left, List.cons_append, List.nil_append, List.length_nil, List.length_cons, Nat.reduceAdd, Nat.reduceMul, Nat.reduceSub, Nat.reduceLeDiff, true_and, and_true, ↓reduceIte, not_false_eq_true, not_true_eq_false, nI_add, pk_mul, jn_ltT, jn_ltF, jn_leT, jn_leF, jn_eqT, jn_eqF, jn_lt0, jn_ge0, jn_eq0T, jn_eq0F, jn_in, jn_cl, jh_ai_wi, jh_ai_wi_ne, jh_ai_uf, jh_fl_wi_ne, jh_fl_uf_ne, jh_fl_uf_o, jh_cl_wi_ne, jh_cl_uf, jh_al_wi_ne, jh_al_uf, jh_al_wl, jh_al_wl_ne, jh_ai_wl_ne, jh_fl_wl_ne, jh_cl_wl_ne, jh_ar_wi_ne, jh_ar_uf, jh_ar_wl_ne, jh_1_wi, jh_1_uf, jh_1_wl, jf_2_1 hR, jf_2_2 hR, s1, s2, s3, jh_wi_wi]
        exact fin _ (by rw [if_neg w])
theorem tk_swap {a n x y : Nat} {f : Nat → Int32} (e : jx_ai h a = some (n, f)) (hx : x < n) (hy : y < n) (hn : n < 2000) : jx_Go jxP d 78 0 [.ref a, .int (nI x), .int (nI y), jx_u] [] h Q ↔ Q [] (jx_wi h a n (upd (upd f x (f y)) y (f x))) := by
  simp (disch := omega) only [s78_0, s78_1, s78_2, s78_3, s78_4, s78_5, s78_6, s78_7, s78_8, s78_9, s78_10, s78_11, s78_12, s78_13, s78_14, Option.some.injEq, exists_eq_left', exists_eq_left, List.cons_append, List.nil_append, List.length_nil, List.length_cons, Nat.reduceAdd, Nat.reduceMul, Nat.reduceSub, Nat.reduceLeDiff, true_and, and_true, ↓reduceIte, not_false_eq_true, not_true_eq_false, nI_add, pk_mul, jn_ltT, jn_ltF, jn_leT, jn_leF, jn_eqT, jn_eqF, jn_lt0, jn_ge0, jn_eq0T, jn_eq0F, jn_in, jn_cl, jh_ai_wi, jh_ai_wi_ne, jh_ai_uf, jh_fl_wi_ne, jh_fl_uf_ne, jh_fl_uf_o, jh_cl_wi_ne, jh_cl_uf, jh_al_wi_ne, jh_al_uf, jh_al_wl, jh_al_wl_ne, jh_ai_wl_ne, jh_fl_wl_ne, jh_cl_wl_ne, jh_ar_wi_ne, jh_ar_uf, jh_ar_wl_ne, jh_1_wi, jh_1_uf, jh_1_wl, e, jh_wi_wi]
theorem tk_swapSides (hR : jR F A G g h) (k : ∀ h' pl wt, (∀ i j, i < 5 → j < 5 → pl (5 * i + j) = A 3 (5 * j + i)) → (∀ i j, i < 5 → j < 5 → wt (5 * i + j) = A 4 (5 * j + i)) → jR (jup (jup F 2 0 (F 2 1)) 2 1 (F 2 0)) (jua (jua A 3 pl) 4 wt) G g h' → jD h h' → Q [] h') : jx_Go jxP (d + 1) 77 0 [.ref 2, jx_u, jx_u] [] h Q := by
  simp (disch := omega) only [s77_0, s77_1, Option.some.injEq, exists_eq_left', exists_eq_left, List.cons_append, List.nil_append, List.length_nil, List.length_cons, Nat.reduceAdd, Nat.reduceMul, Nat.reduceSub, Nat.reduceLeDiff, true_and, and_true, ↓reduceIte, not_false_eq_true, not_true_eq_false, nI_add, pk_mul, jn_ltT, jn_ltF, jn_leT, jn_leF, jn_eqT, jn_eqF, jn_lt0, jn_ge0, jn_eq0T, jn_eq0F, jn_in, jn_cl]
  refine jloop (fun i => ∀ pl wt w2, jtrn (A 3) pl i 0 → jtrn (A 4) wt i 0 → jx_Go jxP (d + 1) 77 2 [.ref 2, .int (nI i), w2] [] (jx_wi (jx_wi h 3 25 pl) 4 25 wt) Q) 5 ?_ ?_ 0 (Nat.zero_le _) (A 3) (A 4) _ (by intro a b ha hb; rw [if_neg (by omega)]) (by intro a b ha hb; rw [if_neg (by omega)]) |> fun z => by rw [jh_wi_id (ja_3 hR), jh_wi_id (ja_4 hR)] at z; exact z
  · intro pl wt w2 hp hw
    have fin : ∀ (f f' : Nat → Int32), jtrn f f' 5 0 → ∀ i j, i < 5 → j < 5 → f' (5 * i + j) = f (5 * j + i) := by
      intro f f' t i j hi hj
      rw [t i j hi hj]
      by_cases e : i = j
      · subst e; rw [if_neg (by omega)]
      · rw [if_pos (by omega)]
    rw [s77_2]
    have hR2 := (hR.wi (a := 3) (n := 25) (f := pl) rfl).wi (a := 4) (n := 25) (f := wt) rfl
    have hD2 := ((jD.rf (h := h)).wi (a := 3) (n := 25) (f := pl) (by decide)).wi (a := 4) (n := 25) (f := wt) (by decide)
    generalize jx_wi (jx_wi h 3 25 pl) 4 25 wt = h2 at hR2 hD2 ⊢
    simp (disch := first | omega | decide) only [s77_3, s77_4, s77_60, s77_61, s77_64, s77_65, s77_66, s77_67, s77_70, s77_73, s77_74, s77_75, s77_78, Option.some.injEq, exists_eq_left', exists_eq_left, List.cons_append, List.nil_append, List.length_nil, List.length_cons, Nat.reduceAdd, Nat.reduceMul, Nat.reduceSub, Nat.reduceLeDiff, true_and, and_true, ↓reduceIte, not_false_eq_true, not_true_eq_false, nI_add, pk_mul, jn_ltT, jn_ltF, jn_leT, jn_leF, jn_eqT, jn_eqF, jn_lt0, jn_ge0, jn_eq0T, jn_eq0F, jn_in, jn_cl, jh_ai_wi, jh_ai_wi_ne, jh_ai_uf, jh_fl_wi_ne, jh_fl_uf_ne, jh_fl_uf_o, jh_cl_wi_ne, jh_cl_uf, jh_al_wi_ne, jh_al_uf, jh_al_wl, jh_al_wl_ne, jh_ai_wl_ne, jh_fl_wl_ne, jh_cl_wl_ne, jh_ar_wi_ne, jh_ar_uf, jh_ar_wl_ne, jh_1_wi, jh_1_uf, jh_1_wl, jf_2_0 hR2, jf_2_1 hR2]
    exact k _ pl wt (fin _ _ hp) (fin _ _ hw) ((hR2.uf (o := 2) (k := 0) (v := F 2 1) rfl rfl).uf (o := 2) (k := 1) (v := F 2 0) rfl rfl) ((hD2.uf (by decide)).uf (by decide))
  · intro i hi ih pl wt w2 hp hw
    rw [s77_2]
    simp (disch := omega) only [s77_3, s77_4, s77_7, s77_8, Option.some.injEq, exists_eq_left', exists_eq_left, List.cons_append, List.nil_append, List.length_nil, List.length_cons, Nat.reduceAdd, Nat.reduceMul, Nat.reduceSub, Nat.reduceLeDiff, true_and, and_true, ↓reduceIte, not_false_eq_true, not_true_eq_false, nI_add, pk_mul, jn_ltT, jn_ltF, jn_leT, jn_leF, jn_eqT, jn_eqF, jn_lt0, jn_ge0, jn_eq0T, jn_eq0F, jn_in, jn_cl]
    refine jloop (fun j => ∀ pl wt, jtrn (A 3) pl i j → jtrn (A 4) wt i j → jx_Go jxP (d + 1) 77 9 [.ref 2, .int (nI i), .int (nI j)] [] (jx_wi (jx_wi h 3 25 pl) 4 25 wt) Q) i ?_ ?_ 0 (Nat.zero_le _) pl wt hp hw
    · intro pl wt hp hw
      rw [s77_9]
      simp (disch := omega) only [s77_10, s77_11, s77_54, s77_57, Option.some.injEq, exists_eq_left', exists_eq_left, List.cons_append, List.nil_append, List.length_nil, List.length_cons, Nat.reduceAdd, Nat.reduceMul, Nat.reduceSub, Nat.reduceLeDiff, true_and, and_true, ↓reduceIte, not_false_eq_true, not_true_eq_false, nI_add, pk_mul, jn_ltT, jn_ltF, jn_leT, jn_leF, jn_eqT, jn_eqF, jn_lt0, jn_ge0, jn_eq0T, jn_eq0F, jn_in, jn_cl]
      have nx : ∀ (f f' : Nat → Int32), jtrn f f' i i → jtrn f f' (i + 1) 0 := by
        intro f f' t a b ha hb
        rw [t a b ha hb]
        by_cases q : (b < a ∧ (a < i ∨ (a = i ∧ b < i))) ∨ (a < b ∧ (b < i ∨ (b = i ∧ a < i)))
        · rw [if_pos q, if_pos (by omega)]
        · rw [if_neg q, if_neg (by omega)]
      exact ih pl wt _ (nx _ _ hp) (nx _ _ hw)
    · intro j hj ih2 pl wt hp hw
      have a1 : jx_ai (jx_wi (jx_wi h 3 25 pl) 4 25 wt) 3 = some (25, pl) := by rw [jh_ai_wi_ne (by decide), jh_ai_wi]
      have sw1 : ∀ (d : Nat) (Q : List Value → jxH → Prop), jx_Go jxP d 78 0 [.ref 3, .int (nI (5 * i + j)), .int (nI (5 * j + i)), jx_u] [] (jx_wi (jx_wi h 3 25 pl) 4 25 wt) Q ↔ Q [] (jx_wi (jx_wi (jx_wi h 3 25 pl) 4 25 wt) 3 25 (upd (upd pl (5 * i + j) (pl (5 * j + i))) (5 * j + i) (pl (5 * i + j)))) := fun d Q => tk_swap a1 (by omega) (by omega) (by omega)
      rw [s77_9]
      simp (disch := first | omega | decide) only [s77_10, s77_11, s77_14, s77_15, s77_18, s77_19, s77_20, s77_21, s77_22, s77_23, s77_24, s77_25, s77_26, s77_27, s77_28, Option.some.injEq, exists_eq_left', exists_eq_left, List.cons_append, List.nil_append, List.length_nil, List.length_cons, Nat.reduceAdd, Nat.reduceMul, Nat.reduceSub, Nat.reduceLeDiff, true_and, and_true, ↓reduceIte, not_false_eq_true, not_true_eq_false, nI_add, pk_mul, jn_ltT, jn_ltF, jn_leT, jn_leF, jn_eqT, jn_eqF, jn_lt0, jn_ge0, jn_eq0T, jn_eq0F, jn_in, jn_cl, jh_ai_wi, jh_ai_wi_ne, jh_ai_uf, jh_fl_wi_ne, jh_fl_uf_ne, jh_fl_uf_o, jh_cl_wi_ne, jh_cl_uf, jh_al_wi_ne, jh_al_uf, jh_al_wl, jh_al_wl_ne, jh_ai_wl_ne, jh_fl_wl_ne, jh_cl_wl_ne, jh_ar_wi_ne, jh_ar_uf, jh_ar_wl_ne, jh_1_wi, jh_1_uf, jh_1_wl, jf_2_2 hR, sw1]
      rw [jh_wi_c (a := 3) (b := 4) (by decide), jh_wi_wi]
      have a2 : ∀ pl, jx_ai (jx_wi (jx_wi h 3 25 pl) 4 25 wt) 4 = some (25, wt) := fun pl => by rw [jh_ai_wi]
      have sw2 : ∀ (d : Nat) (Q : List Value → jxH → Prop) pl, jx_Go jxP d 78 0 [.ref 4, .int (nI (5 * i + j)), .int (nI (5 * j + i)), jx_u] [] (jx_wi (jx_wi h 3 25 pl) 4 25 wt) Q ↔ Q [] (jx_wi (jx_wi (jx_wi h 3 25 pl) 4 25 wt) 4 25 (upd (upd wt (5 * i + j) (wt (5 * j + i))) (5 * j + i) (wt (5 * i + j)))) := fun d Q pl => tk_swap (a2 pl) (by omega) (by omega) (by omega)
      simp (disch := first | omega | decide) only [s77_31, s77_32, s77_35, s77_36, s77_37, s77_38, s77_39, s77_40, s77_41, s77_42, s77_43, s77_44, s77_45, Option.some.injEq, exists_eq_left', exists_eq_left, List.cons_append, List.nil_append, List.length_nil, List.length_cons, Nat.reduceAdd, Nat.reduceMul, Nat.reduceSub, Nat.reduceLeDiff, true_and, and_true, ↓reduceIte, not_false_eq_true, not_true_eq_false, nI_add, pk_mul, jn_ltT, jn_ltF, jn_leT, jn_leF, jn_eqT, jn_eqF, jn_lt0, jn_ge0, jn_eq0T, jn_eq0F, jn_in, jn_cl, jh_ai_wi, jh_ai_wi_ne, jh_ai_uf, jh_fl_wi_ne, jh_fl_uf_ne, jh_fl_uf_o, jh_cl_wi_ne, jh_cl_uf, jh_al_wi_ne, jh_al_uf, jh_al_wl, jh_al_wl_ne, jh_ai_wl_ne, jh_fl_wl_ne, jh_cl_wl_ne, jh_ar_wi_ne, jh_ar_uf, jh_ar_wl_ne, jh_1_wi, jh_1_uf, jh_1_wl, jf_2_3 hR, sw2, jh_wi_wi]
      simp (disch := omega) only [s77_48, s77_51, Option.some.injEq, exists_eq_left', exists_eq_left, List.cons_append, List.nil_append, List.length_nil, List.length_cons, Nat.reduceAdd, Nat.reduceMul, Nat.reduceSub, Nat.reduceLeDiff, true_and, and_true, ↓reduceIte, not_false_eq_true, not_true_eq_false, nI_add, pk_mul, jn_ltT, jn_ltF, jn_leT, jn_leF, jn_eqT, jn_eqF, jn_lt0, jn_ge0, jn_eq0T, jn_eq0F, jn_in, jn_cl]
      exact ih2 _ _ (jtrn_s hi hj hp) (jtrn_s hi hj hw)
theorem jupd_id {f : Nat → Int32} {i : Nat} : upd f i (f i) = f := by
  funext x
  unfold upd
  by_cases z : x = i
  · rw [if_pos z, z]
  · rw [if_neg z]
theorem tk_swapAnswers (hR : jR F A G g h) (hr : F 2 0 ≤ 5) (hc : F 2 1 ≤ 5) (k : ∀ h' pl, (∀ i j, i < F 2 0 → j < F 2 1 → pl (5 * i + j) = if A 3 (5 * i + j) = nI 2 then nI 2 else nI 1 - A 3 (5 * i + j)) → jR F (jua A 3 pl) G g h' → jD h h' → Q [] h') : jx_Go jxP d 79 0 [.ref 2, jx_u, jx_u, jx_u] [] h Q := by
  simp (disch := omega) only [s79_0, s79_1, Option.some.injEq, exists_eq_left', exists_eq_left, List.cons_append, List.nil_append, List.length_nil, List.length_cons, Nat.reduceAdd, Nat.reduceMul, Nat.reduceSub, Nat.reduceLeDiff, true_and, and_true, ↓reduceIte, not_false_eq_true, not_true_eq_false, nI_add, pk_mul, jn_ltT, jn_ltF, jn_leT, jn_leF, jn_eqT, jn_eqF, jn_lt0, jn_ge0, jn_eq0T, jn_eq0F, jn_in, jn_cl]
  refine jloop (fun i => ∀ pl w2 w3, (∀ a b, b < F 2 1 → pl (5 * a + b) = if a < i then (if A 3 (5 * a + b) = nI 2 then nI 2 else nI 1 - A 3 (5 * a + b)) else A 3 (5 * a + b)) → jx_Go jxP d 79 2 [.ref 2, .int (nI i), w2, w3] [] (jx_wi h 3 25 pl) Q) (F 2 0) ?_ ?_ 0 (Nat.zero_le _) (A 3) _ _ (fun a b hb => by rw [if_neg (by omega)]) |> fun z => by rw [jh_wi_id (ja_3 hR)] at z; exact z
  · intro pl w2 w3 hp
    rw [s79_2]
    simp (disch := first | omega | decide) only [s79_3, s79_4, s79_7, s79_62, Option.some.injEq, exists_eq_left', exists_eq_left, List.cons_append, List.nil_append, List.length_nil, List.length_cons, Nat.reduceAdd, Nat.reduceMul, Nat.reduceSub, Nat.reduceLeDiff, true_and, and_true, ↓reduceIte, not_false_eq_true, not_true_eq_false, nI_add, pk_mul, jn_ltT, jn_ltF, jn_leT, jn_leF, jn_eqT, jn_eqF, jn_lt0, jn_ge0, jn_eq0T, jn_eq0F, jn_in, jn_cl, jh_ai_wi, jh_ai_wi_ne, jh_ai_uf, jh_fl_wi_ne, jh_fl_uf_ne, jh_fl_uf_o, jh_cl_wi_ne, jh_cl_uf, jh_al_wi_ne, jh_al_uf, jh_al_wl, jh_al_wl_ne, jh_ai_wl_ne, jh_fl_wl_ne, jh_cl_wl_ne, jh_ar_wi_ne, jh_ar_uf, jh_ar_wl_ne, jh_1_wi, jh_1_uf, jh_1_wl, jf_2_0 hR]
    exact k _ pl (fun i j hi hj => by rw [hp i j hj, if_pos hi]) (hR.wi (a := 3) (f := pl) rfl) (jD.rf.wi (by decide))
  · intro i hi ih pl w2 w3 hp
    rw [s79_2]
    simp (disch := first | omega | decide) only [s79_3, s79_4, s79_7, s79_10, s79_11, Option.some.injEq, exists_eq_left', exists_eq_left, List.cons_append, List.nil_append, List.length_nil, List.length_cons, Nat.reduceAdd, Nat.reduceMul, Nat.reduceSub, Nat.reduceLeDiff, true_and, and_true, ↓reduceIte, not_false_eq_true, not_true_eq_false, nI_add, pk_mul, jn_ltT, jn_ltF, jn_leT, jn_leF, jn_eqT, jn_eqF, jn_lt0, jn_ge0, jn_eq0T, jn_eq0F, jn_in, jn_cl, jh_ai_wi, jh_ai_wi_ne, jh_ai_uf, jh_fl_wi_ne, jh_fl_uf_ne, jh_fl_uf_o, jh_cl_wi_ne, jh_cl_uf, jh_al_wi_ne, jh_al_uf, jh_al_wl, jh_al_wl_ne, jh_ai_wl_ne, jh_fl_wl_ne, jh_cl_wl_ne, jh_ar_wi_ne, jh_ar_uf, jh_ar_wl_ne, jh_1_wi, jh_1_uf, jh_1_wl, jf_2_0 hR]
    refine jloop (fun j => ∀ pl w3, (∀ a b, b < F 2 1 → pl (5 * a + b) = if a < i ∨ (a = i ∧ b < j) then (if A 3 (5 * a + b) = nI 2 then nI 2 else nI 1 - A 3 (5 * a + b)) else A 3 (5 * a + b)) → jx_Go jxP d 79 12 [.ref 2, .int (nI i), .int (nI j), w3] [] (jx_wi h 3 25 pl) Q) (F 2 1) ?_ ?_ 0 (Nat.zero_le _) pl w3 (fun a b hb => by
      rw [hp a b hb]
      by_cases q : a < i
      · rw [if_pos q, if_pos (Or.inl q)]
      · rw [if_neg q, if_neg (by omega)])
    · intro pl w3 hp
      rw [s79_12]
      simp (disch := first | omega | decide) only [s79_13, s79_14, s79_17, s79_56, s79_59, Option.some.injEq, exists_eq_left', exists_eq_left, List.cons_append, List.nil_append, List.length_nil, List.length_cons, Nat.reduceAdd, Nat.reduceMul, Nat.reduceSub, Nat.reduceLeDiff, true_and, and_true, ↓reduceIte, not_false_eq_true, not_true_eq_false, nI_add, pk_mul, jn_ltT, jn_ltF, jn_leT, jn_leF, jn_eqT, jn_eqF, jn_lt0, jn_ge0, jn_eq0T, jn_eq0F, jn_in, jn_cl, jh_ai_wi, jh_ai_wi_ne, jh_ai_uf, jh_fl_wi_ne, jh_fl_uf_ne, jh_fl_uf_o, jh_cl_wi_ne, jh_cl_uf, jh_al_wi_ne, jh_al_uf, jh_al_wl, jh_al_wl_ne, jh_ai_wl_ne, jh_fl_wl_ne, jh_cl_wl_ne, jh_ar_wi_ne, jh_ar_uf, jh_ar_wl_ne, jh_1_wi, jh_1_uf, jh_1_wl, jf_2_1 hR]
      refine ih pl _ _ (fun a b hb => ?_)
      rw [hp a b hb]
      by_cases q : a < i + 1
      · rw [if_pos q, if_pos (by omega)]
      · rw [if_neg q, if_neg (by omega)]
    · intro j hj ih2 pl w3 hp
      have ei : pl (5 * i + j) = A 3 (5 * i + j) := by rw [hp i j hj, if_neg (by omega)]
      have fin : ∀ v w3, v = (if A 3 (5 * i + j) = nI 2 then nI 2 else nI 1 - A 3 (5 * i + j)) → jx_Go jxP d 79 12 [.ref 2, .int (nI i), .int (nI (j + 1)), w3] [] (jx_wi h 3 25 (upd pl (5 * i + j) v)) Q := by
        intro v w3 hv
        refine ih2 _ w3 (fun a b hb => ?_)
        by_cases e : 5 * a + b = 5 * i + j
        · have ea : a = i := by omega
          have eb : b = j := by omega
          subst ea; subst eb
          rw [jupd_same, if_pos (by omega)]; exact hv
        · rw [jupd_ne e, hp a b hb]
          by_cases q : a < i ∨ (a = i ∧ b < j)
          · rw [if_pos q, if_pos (show a < i ∨ (a = i ∧ b < j + 1) by omega)]
          · rw [if_neg q, if_neg (show ¬ (a < i ∨ (a = i ∧ b < j + 1)) by omega)]
      rw [s79_12]
      by_cases q : A 3 (5 * i + j) = nI 2
      · have fn := fin (A 3 (5 * i + j)) (.int (nI (5 * i + j))) (by rw [if_pos q]; exact q)
        rw [← ei, jupd_id] at fn
        simp (disch := first | omega | decide) only [s79_13, s79_14, s79_17, s79_20, s79_21, s79_22, s79_23, s79_24, s79_25, s79_26, s79_27, s79_30, s79_31, s79_32, s79_33, s79_50, s79_53, Option.some.injEq, exists_eq_left', exists_eq_left, List.cons_append, List.nil_append, List.length_nil, List.length_cons, Nat.reduceAdd, Nat.reduceMul, Nat.reduceSub, Nat.reduceLeDiff, true_and, and_true, ↓reduceIte, not_false_eq_true, not_true_eq_false, nI_add, pk_mul, jn_ltT, jn_ltF, jn_leT, jn_leF, jn_eqT, jn_eqF, jn_lt0, jn_ge0, jn_eq0T, jn_eq0F, jn_in, jn_cl, jh_ai_wi, jh_ai_wi_ne, jh_ai_uf, jh_fl_wi_ne, jh_fl_uf_ne, jh_fl_uf_o, jh_cl_wi_ne, jh_cl_uf, jh_al_wi_ne, jh_al_uf, jh_al_wl, jh_al_wl_ne, jh_ai_wl_ne, jh_fl_wl_ne, jh_cl_wl_ne, jh_ar_wi_ne, jh_ar_uf, jh_ar_wl_ne, jh_1_wi, jh_1_uf, jh_1_wl, jf_2_1 hR, jf_2_2 hR, ei, q]
        exact fn
      · simp (disch := first | omega | decide) only [s79_13, s79_14, s79_17, s79_20, s79_21, s79_22, s79_23, s79_24, s79_25, s79_26, s79_27, s79_30, s79_31, s79_32, s79_33, s79_36, s79_37, s79_40, s79_41, s79_42, s79_43, s79_46, s79_47, s79_48, s79_49, s79_50, s79_53, Option.some.injEq, exists_eq_left', exists_eq_left, List.cons_append, List.nil_append, List.length_nil, List.length_cons, Nat.reduceAdd, Nat.reduceMul, Nat.reduceSub, Nat.reduceLeDiff, true_and, and_true, ↓reduceIte, not_false_eq_true, not_true_eq_false, nI_add, pk_mul, jn_ltT, jn_ltF, jn_leT, jn_leF, jn_eqT, jn_eqF, jn_lt0, jn_ge0, jn_eq0T, jn_eq0F, jn_in, jn_cl, jh_ai_wi, jh_ai_wi_ne, jh_ai_uf, jh_fl_wi_ne, jh_fl_uf_ne, jh_fl_uf_o, jh_cl_wi_ne, jh_cl_uf, jh_al_wi_ne, jh_al_uf, jh_al_wl, jh_al_wl_ne, jh_ai_wl_ne, jh_fl_wl_ne, jh_cl_wl_ne, jh_ar_wi_ne, jh_ar_uf, jh_ar_wl_ne, jh_1_wi, jh_1_uf, jh_1_wl, jf_2_1 hR, jf_2_2 hR, ei, q, jh_wi_wi]
        exact fin _ _ (by rw [if_neg q])
end CL2
