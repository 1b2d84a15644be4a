/-! ===== the class: sheets ===== -/
section CL25
variable {d : Nat} {F : Nat → Nat → Nat} {A : Nat → Nat → Int32} {G : Nat → Option Nat} {g : Nat → Int64} {h : jxH} {Q : List Value → jxH → Prop}
theorem jsht : ∀ s, s < 4 → jcl (117 + 2 * s) = some 8 ∧ jkd (117 + 2 * s) 0 = some none ∧ jkd (117 + 2 * s) 1 = some none ∧ jkd (117 + 2 * s) 2 = some (some (118 + 2 * s)) ∧ jln (118 + 2 * s) = some 30 := by decide +kernel
/-- a sheet lies at 117 + 2 * s -/
theorem jR.sh (hR : jR F A G g h) {s : Nat} (hs : s < 4) : jx_cl h (117 + 2 * s) = some 8 ∧ jx_fl h (117 + 2 * s) 8 0 = some (.int (nI (F (117 + 2 * s) 0))) ∧ jx_fl h (117 + 2 * s) 8 1 = some (.int (nI (F (117 + 2 * s) 1))) ∧ jx_fl h (117 + 2 * s) 8 2 = some (.ref (118 + 2 * s)) ∧ jx_ai h (118 + 2 * s) = some (30, A (118 + 2 * s)) := by
  obtain ⟨e1, e2, e3, e4, e5⟩ := jsht s hs
  exact ⟨jh_cl_fl ((hR.1 _ 8 0 e1).1 e2), (hR.1 _ 8 0 e1).1 e2, (hR.1 _ 8 1 e1).1 e3, (hR.1 _ 8 2 e1).2 _ e4, hR.2.1 _ _ e5⟩
theorem jR.shr (hR : jR F A G g h) : ∃ r', jx_ar h 6 3 = some (4, r') ∧ ∀ i, i < 4 → r' i = some (117 + 2 * i) := by
  obtain ⟨r', a1, a2⟩ := hR.2.2.1 6 3 _ _ rfl
  exact ⟨r', a1, fun i hi => by rw [a2 i hi, if_pos hi]⟩
theorem sh_isMissing (hR : jR F A G g h) {s : Nat} (hs : s < 4) (hb : F (117 + 2 * s) 0 ≤ 32) : jx_Go jxP d 56 0 [.ref (117 + 2 * s)] [] h Q ↔ Q [.int (nI (if F (117 + 2 * s) 0 = 0 then 1 else 0))] h := by
  have t := hR.sh hs
  by_cases w : F (117 + 2 * s) 0 = 0
  · rw [if_pos w]
    simp (disch := omega) only [s56_0, s56_1, s56_4, s56_7, s56_8, s56_11, s56_12b0, s56_12b1, Option.some.injEq, exists_eq_left', exists_eq_left, List.cons_append, List.nil_append, List.length_nil, List.length_cons, Nat.reduceAdd, Nat.reduceMul, Nat.reduceSub, Nat.reduceLeDiff, true_and, and_true, ↓reduceIte, not_false_eq_true, not_true_eq_false, nI_add, pk_mul, jn_ltT, jn_ltF, jn_leT, jn_leF, jn_eqT, jn_eqF, jn_lt0, jn_ge0, jn_eq0T, jn_eq0F, jn_in, jn_cl, t.2.1]
  · rw [if_neg w]
    simp (disch := omega) only [s56_0, s56_1, s56_4, s56_7, s56_8, s56_11, s56_12b0, s56_12b1, Option.some.injEq, exists_eq_left', exists_eq_left, List.cons_append, List.nil_append, List.length_nil, List.length_cons, Nat.reduceAdd, Nat.reduceMul, Nat.reduceSub, Nat.reduceLeDiff, true_and, and_true, ↓reduceIte, not_false_eq_true, not_true_eq_false, nI_add, pk_mul, jn_ltT, jn_ltF, jn_leT, jn_leF, jn_eqT, jn_eqF, jn_lt0, jn_ge0, jn_eq0T, jn_eq0F, jn_in, jn_cl, t.2.1]
theorem tb_sheet_f (hR : jR F A G g h) {s b n x : Int32} (e : jshA s b n = some x) (k : ∀ h', jR (jup F 1 11 (F 1 11 + 1)) A G g h' → jD h h' → Q [.int x] h') : jx_Go jxP (d + 1) 94 0 [.ref 1, .int s, .int b, .int n, jx_u] [] h Q := by
  unfold jshA at e
  have k29 : x = -1 → jx_Go jxP (d + 1) 94 29 [.ref 1, .int s, .int b, .int n, jx_u] [] h Q := by
    intro ex
    subst ex
    simp (disch := omega) only [s94_29, s94_30, s94_31, Option.some.injEq, exists_eq_left', exists_eq_left, List.cons_append, List.nil_append, List.length_nil, List.length_cons, Nat.reduceAdd, Nat.reduceMul, Nat.reduceSub, Nat.reduceLeDiff, true_and, and_true, ↓reduceIte, not_false_eq_true, not_true_eq_false, nI_add, pk_mul, jn_ltT, jn_ltF, jn_leT, jn_leF, jn_eqT, jn_eqF, jn_lt0, jn_ge0, jn_eq0T, jn_eq0F, jn_in, jn_cl, jc_of_1 hR]
    exact tb_finding hR (fun h' hR' hD' => by simp only [s94_34, Option.some.injEq, exists_eq_left', exists_eq_left, List.cons_append, List.nil_append, List.length_nil, List.length_cons, Nat.reduceAdd, Nat.reduceMul, Nat.reduceSub, Nat.reduceLeDiff, true_and, and_true, ↓reduceIte, not_false_eq_true, not_true_eq_false, nI_add, pk_mul, jn_ltT, jn_ltF, jn_leT, jn_leF, jn_eqT, jn_eqF, jn_lt0, jn_ge0, jn_eq0T, jn_eq0F, jn_in, jn_cl]; exact k h' hR' hD')
  have k35 : (if n < 0 then some (-3) else if nI 30 < n then some (-1) else none) = some x → jx_Go jxP (d + 1) 94 35 [.ref 1, .int s, .int b, .int n, jx_u] [] h Q := by
    intro e
    rw [s94_35, s94_36]
    by_cases w : n < 0
    · rw [if_pos w] at e
      have ex : -3 = x := Option.some.inj e
      subst ex
      rw [if_neg (Int32.not_le.mpr w)]
      simp (disch := omega) only [s94_39, s94_40, s94_42, Option.some.injEq, exists_eq_left', exists_eq_left, List.cons_append, List.nil_append, List.length_nil, List.length_cons, Nat.reduceAdd, Nat.reduceMul, Nat.reduceSub, Nat.reduceLeDiff, true_and, and_true, ↓reduceIte, not_false_eq_true, not_true_eq_false, nI_add, pk_mul, jn_ltT, jn_ltF, jn_leT, jn_leF, jn_eqT, jn_eqF, jn_lt0, jn_ge0, jn_eq0T, jn_eq0F, jn_in, jn_cl, jc_of_1 hR]
      exact tb_finding hR (fun h' hR' hD' => by simp only [s94_45, Option.some.injEq, exists_eq_left', exists_eq_left, List.cons_append, List.nil_append, List.length_nil, List.length_cons, Nat.reduceAdd, Nat.reduceMul, Nat.reduceSub, Nat.reduceLeDiff, true_and, and_true, ↓reduceIte, not_false_eq_true, not_true_eq_false, nI_add, pk_mul, jn_ltT, jn_ltF, jn_leT, jn_leF, jn_eqT, jn_eqF, jn_lt0, jn_ge0, jn_eq0T, jn_eq0F, jn_in, jn_cl]; exact k h' hR' hD')
    · rw [if_neg w] at e
      rw [if_pos (Int32.not_lt.mp w)]
      by_cases w2 : nI 30 < n
      · rw [if_pos w2] at e
        have ex : -1 = x := Option.some.inj e
        subst ex
        rw [s94_46, s94_47, s94_49, if_neg (Int32.not_le.mpr w2)]
        simp (disch := omega) only [s94_52, s94_53, s94_54, Option.some.injEq, exists_eq_left', exists_eq_left, List.cons_append, List.nil_append, List.length_nil, List.length_cons, Nat.reduceAdd, Nat.reduceMul, Nat.reduceSub, Nat.reduceLeDiff, true_and, and_true, ↓reduceIte, not_false_eq_true, not_true_eq_false, nI_add, pk_mul, jn_ltT, jn_ltF, jn_leT, jn_leF, jn_eqT, jn_eqF, jn_lt0, jn_ge0, jn_eq0T, jn_eq0F, jn_in, jn_cl, jc_of_1 hR]
        exact tb_finding hR (fun h' hR' hD' => by simp only [s94_57, Option.some.injEq, exists_eq_left', exists_eq_left, List.cons_append, List.nil_append, List.length_nil, List.length_cons, Nat.reduceAdd, Nat.reduceMul, Nat.reduceSub, Nat.reduceLeDiff, true_and, and_true, ↓reduceIte, not_false_eq_true, not_true_eq_false, nI_add, pk_mul, jn_ltT, jn_ltF, jn_leT, jn_leF, jn_eqT, jn_eqF, jn_lt0, jn_ge0, jn_eq0T, jn_eq0F, jn_in, jn_cl]; exact k h' hR' hD')
      · rw [if_neg w2] at e; cases e
  simp (disch := omega) only [s94_0, s94_1, Option.some.injEq, exists_eq_left', exists_eq_left, List.cons_append, List.nil_append, List.length_nil, List.length_cons, Nat.reduceAdd, Nat.reduceMul, Nat.reduceSub, Nat.reduceLeDiff, true_and, and_true, ↓reduceIte, not_false_eq_true, not_true_eq_false, nI_add, pk_mul, jn_ltT, jn_ltF, jn_leT, jn_leF, jn_eqT, jn_eqF, jn_lt0, jn_ge0, jn_eq0T, jn_eq0F, jn_in, jn_cl, tb_noSheet]
  by_cases hs : jbel s 4 = true
  · rw [if_pos hs]
    simp (disch := omega) only [s94_4, s94_7, Option.some.injEq, exists_eq_left', exists_eq_left, List.cons_append, List.nil_append, List.length_nil, List.length_cons, Nat.reduceAdd, Nat.reduceMul, Nat.reduceSub, Nat.reduceLeDiff, true_and, and_true, ↓reduceIte, not_false_eq_true, not_true_eq_false, nI_add, pk_mul, jn_ltT, jn_ltF, jn_leT, jn_leF, jn_eqT, jn_eqF, jn_lt0, jn_ge0, jn_eq0T, jn_eq0F, jn_in, jn_cl]
    by_cases hb : b = 0 ∨ b = nI 8 ∨ b = nI 16 ∨ b = nI 32
    · rw [if_pos ⟨hs, hb⟩] at e
      rw [s94_8]
      by_cases b0 : b = 0
      · rw [if_pos b0]; exact k35 e
      rw [if_neg b0, s94_11, s94_12, s94_14]
      by_cases b1 : b = nI 8
      · rw [if_pos b1]; exact k35 e
      rw [if_neg b1, s94_17, s94_18, s94_20]
      by_cases b2 : b = nI 16
      · rw [if_pos b2]; exact k35 e
      rw [if_neg b2, s94_23, s94_24, s94_26]
      by_cases b3 : b = nI 32
      · rw [if_pos b3]; exact k35 e
      · exact absurd hb (by rintro (z | z | z | z); exact b0 z; exact b1 z; exact b2 z; exact b3 z)
    · rw [if_neg (fun z => hb z.2)] at e
      have ex : x = -1 := (Option.some.inj e).symm
      have nb := not_or.mp hb
      have nb1 := not_or.mp nb.2
      have nb2 := not_or.mp nb1.2
      rw [s94_8, if_neg nb.1, s94_11, s94_12, s94_14, if_neg nb1.1, s94_17, s94_18, s94_20, if_neg nb2.1, s94_23, s94_24, s94_26, if_neg nb2.2]
      exact k29 ex
  · rw [if_neg hs]
    rw [if_neg (fun z => hs z.1)] at e
    simp (disch := omega) only [s94_4, Option.some.injEq, exists_eq_left', exists_eq_left, List.cons_append, List.nil_append, List.length_nil, List.length_cons, Nat.reduceAdd, Nat.reduceMul, Nat.reduceSub, Nat.reduceLeDiff, true_and, and_true, ↓reduceIte, not_false_eq_true, not_true_eq_false, nI_add, pk_mul, jn_ltT, jn_ltF, jn_leT, jn_leF, jn_eqT, jn_eqF, jn_lt0, jn_ge0, jn_eq0T, jn_eq0F, jn_in, jn_cl]
    exact k29 (Option.some.inj e).symm
theorem tb_sheet_t (hR : jR F A G g h) {s b n : Nat} (hs : s < 4) (hb : b = 0 ∨ b = 8 ∨ b = 16 ∨ b = 32) (hn : n ≤ 30) (k : ∀ h' nu, (∀ i, i < 30 → nu i = nI 0) → jR (jup (jup F (117 + 2 * s) 0 b) (117 + 2 * s) 1 (if b = 0 then 0 else n)) (jua A (118 + 2 * s) nu) G g h' → jD h h' → Q [.int (nI (if b = 0 then 0 else n))] h') : jx_Go jxP (d + 2) 94 0 [.ref 1, .int (nI s), .int (nI b), .int (nI n), jx_u] [] h Q := by
  obtain ⟨r', ar, rr⟩ := hR.shr
  have rs := rr s hs
  obtain ⟨e1, e2, e3, e4, e5⟩ := jsht s hs
  have t := hR.sh hs
  have fin : ∀ c, c ≤ 30 → c = (if b = 0 then 0 else n) → jx_Go jxP (d + 2) 94 67 [.ref 1, .int (nI s), .int (nI b), .int (nI n), jx_u] [.int (nI c)] h Q := by
    intro c hc ec
    have hR1 := (hR.uf (v := b) e1 e2).uf (v := c) e1 e3
    have hD1 := ((jD.rf (h := h)).uf (a := 117 + 2 * s) (k := 0) (v := .int (nI b)) (by omega)).uf (a := 117 + 2 * s) (k := 1) (v := .int (nI c)) (by omega)
    have t1 := hR1.sh hs
    simp (disch := first | omega | decide) only [s94_67, s94_69, s94_70, s94_73, s94_74, s94_75, s94_76, s94_78, Option.some.injEq, exists_eq_left', exists_eq_left, List.cons_append, List.nil_append, List.length_nil, List.length_cons, Nat.reduceAdd, Nat.reduceMul, Nat.reduceSub, Nat.reduceLeDiff, true_and, and_true, ↓reduceIte, not_false_eq_true, not_true_eq_false, nI_add, pk_mul, jn_ltT, jn_ltF, jn_leT, jn_leF, jn_eqT, jn_eqF, jn_lt0, jn_ge0, jn_eq0T, jn_eq0F, jn_in, jn_cl, jh_ai_wi, jh_ai_wi_ne, jh_ai_uf, jh_fl_wi_ne, jh_fl_uf_ne, jh_fl_uf_o, jh_cl_wi_ne, jh_cl_uf, jh_al_wi_ne, jh_al_uf, jh_al_wl, jh_al_wl_ne, jh_ai_wl_ne, jh_fl_wl_ne, jh_cl_wl_ne, jh_ar_wi_ne, jh_ar_uf, jh_ar_wl_ne, jh_1_wi, jh_1_uf, jh_1_wl, jf_1_2 hR, ar, rs, jx_rv, t.1, s57_0, s57_1, s57_2, s57_5, s57_6, s57_7, s57_10, s57_11, s57_14, s57_15, t.2.1, t.2.2.1, t.2.2.2.1]
    generalize jx_uf (jx_uf h (117 + 2 * s) 0 (.int (nI b))) (117 + 2 * s) 1 (.int (nI c)) = h1 at hR1 hD1 t1 ⊢
    refine ar_fill t1.2.2.2.2 (by omega) (fun nu hnu => ?_)
    simp (disch := omega) only [s57_18, s94_81, s94_83, Option.some.injEq, exists_eq_left', exists_eq_left, List.cons_append, List.nil_append, List.length_nil, List.length_cons, Nat.reduceAdd, Nat.reduceMul, Nat.reduceSub, Nat.reduceLeDiff, true_and, and_true, ↓reduceIte, not_false_eq_true, not_true_eq_false, nI_add, pk_mul, jn_ltT, jn_ltF, jn_leT, jn_leF, jn_eqT, jn_eqF, jn_lt0, jn_ge0, jn_eq0T, jn_eq0F, jn_in, jn_cl]
    rw [ec] at hR1 ⊢
    exact k _ nu hnu (hR1.wi e5) (hD1.wi (by omega))
  have n3 : ((nI n) ≤ nI 30) = True := jn_leT hn (by omega)
  simp (disch := omega) only [s94_0, s94_1, Option.some.injEq, exists_eq_left', exists_eq_left, List.cons_append, List.nil_append, List.length_nil, List.length_cons, Nat.reduceAdd, Nat.reduceMul, Nat.reduceSub, Nat.reduceLeDiff, true_and, and_true, ↓reduceIte, not_false_eq_true, not_true_eq_false, nI_add, pk_mul, jn_ltT, jn_ltF, jn_leT, jn_leF, jn_eqT, jn_eqF, jn_lt0, jn_ge0, jn_eq0T, jn_eq0F, jn_in, jn_cl, tb_noSheet, jbel_n]
  rcases hb with e | e | e | e <;> subst e
  · simp (disch := omega) only [s94_4, s94_7, s94_8, s94_11, s94_12, s94_14, s94_17, s94_18, s94_20, s94_23, s94_24, s94_26, s94_29, s94_30, s94_31, s94_34, s94_35, s94_36, s94_39, s94_40, s94_42, s94_45, s94_46, s94_47, s94_49, s94_52, s94_53, s94_54, s94_57, s94_58, s94_59, s94_62, s94_63, s94_66, Option.some.injEq, exists_eq_left', exists_eq_left, List.cons_append, List.nil_append, List.length_nil, List.length_cons, Nat.reduceAdd, Nat.reduceMul, Nat.reduceSub, Nat.reduceLeDiff, true_and, and_true, ↓reduceIte, not_false_eq_true, not_true_eq_false, nI_add, pk_mul, jn_ltT, jn_ltF, jn_leT, jn_leF, jn_eqT, jn_eqF, jn_lt0, jn_ge0, jn_eq0T, jn_eq0F, jn_in, jn_cl]
    exact fin 0 (by omega) rfl
  · simp (disch := omega) only [s94_4, s94_7, s94_8, s94_11, s94_12, s94_14, s94_17, s94_18, s94_20, s94_23, s94_24, s94_26, s94_29, s94_30, s94_31, s94_34, s94_35, s94_36, s94_39, s94_40, s94_42, s94_45, s94_46, s94_47, s94_49, s94_52, s94_53, s94_54, s94_57, s94_58, s94_59, s94_62, s94_63, s94_66, Option.some.injEq, exists_eq_left', exists_eq_left, List.cons_append, List.nil_append, List.length_nil, List.length_cons, Nat.reduceAdd, Nat.reduceMul, Nat.reduceSub, Nat.reduceLeDiff, true_and, and_true, ↓reduceIte, not_false_eq_true, not_true_eq_false, nI_add, pk_mul, jn_ltT, jn_ltF, jn_leT, jn_leF, jn_eqT, jn_eqF, jn_lt0, jn_ge0, jn_eq0T, jn_eq0F, jn_in, jn_cl]
    exact fin n hn rfl
  · simp (disch := omega) only [s94_4, s94_7, s94_8, s94_11, s94_12, s94_14, s94_17, s94_18, s94_20, s94_23, s94_24, s94_26, s94_29, s94_30, s94_31, s94_34, s94_35, s94_36, s94_39, s94_40, s94_42, s94_45, s94_46, s94_47, s94_49, s94_52, s94_53, s94_54, s94_57, s94_58, s94_59, s94_62, s94_63, s94_66, Option.some.injEq, exists_eq_left', exists_eq_left, List.cons_append, List.nil_append, List.length_nil, List.length_cons, Nat.reduceAdd, Nat.reduceMul, Nat.reduceSub, Nat.reduceLeDiff, true_and, and_true, ↓reduceIte, not_false_eq_true, not_true_eq_false, nI_add, pk_mul, jn_ltT, jn_ltF, jn_leT, jn_leF, jn_eqT, jn_eqF, jn_lt0, jn_ge0, jn_eq0T, jn_eq0F, jn_in, jn_cl]
    exact fin n hn rfl
  · simp (disch := omega) only [s94_4, s94_7, s94_8, s94_11, s94_12, s94_14, s94_17, s94_18, s94_20, s94_23, s94_24, s94_26, s94_29, s94_30, s94_31, s94_34, s94_35, s94_36, s94_39, s94_40, s94_42, s94_45, s94_46, s94_47, s94_49, s94_52, s94_53, s94_54, s94_57, s94_58, s94_59, s94_62, s94_63, s94_66, Option.some.injEq, exists_eq_left', exists_eq_left, List.cons_append, List.nil_append, List.length_nil, List.length_cons, Nat.reduceAdd, Nat.reduceMul, Nat.reduceSub, Nat.reduceLeDiff, true_and, and_true, ↓reduceIte, not_false_eq_true, not_true_eq_false, nI_add, pk_mul, jn_ltT, jn_ltF, jn_leT, jn_leF, jn_eqT, jn_eqF, jn_lt0, jn_ge0, jn_eq0T, jn_eq0F, jn_in, jn_cl]
    exact fin n hn rfl
theorem tb_write_f (hR : jR F A G g h) (hB : ∀ s, s < 4 → F (117 + 2 * s) 0 ≤ 32 ∧ F (117 + 2 * s) 1 ≤ 30) {s i v x : Int32} (e : jwrA (fun s => F (117 + 2 * s) 0) (fun s => F (117 + 2 * s) 1) s i = some x) (k : ∀ h', jR (jup F 1 11 (F 1 11 + 1)) A G g h' → jD h h' → Q [.int x] h') : jx_Go jxP (d + 1) 95 0 [.ref 1, .int s, .int i, .int v] [] h Q := by
  obtain ⟨r', ar, rr⟩ := hR.shr
  unfold jwrA at e
  simp (disch := omega) only [s95_0, s95_1, Option.some.injEq, exists_eq_left', exists_eq_left, List.cons_append, List.nil_append, List.length_nil, List.length_cons, Nat.reduceAdd, Nat.reduceMul, Nat.reduceSub, Nat.reduceLeDiff, true_and, and_true, ↓reduceIte, not_false_eq_true, not_true_eq_false, nI_add, pk_mul, jn_ltT, jn_ltF, jn_leT, jn_leF, jn_eqT, jn_eqF, jn_lt0, jn_ge0, jn_eq0T, jn_eq0F, jn_in, jn_cl, tb_noSheet]
  by_cases hs : jbel s 4 = true
  · rw [if_pos hs] at e ⊢
    obtain ⟨s', hs', es⟩ := (jbel_iff (by omega)).mp hs
    subst es
    rw [jn_cl (by omega)] at e
    obtain ⟨b32, z30⟩ := hB s' hs'
    have t := hR.sh hs'
    have rs := rr s' hs'
    have mi : ∀ (d : Nat) (Q : List Value → jxH → Prop), jx_Go jxP d 56 0 [.ref (117 + 2 * s')] [] h Q ↔ Q [.int (nI (if F (117 + 2 * s') 0 = 0 then 1 else 0))] h := fun d Q => sh_isMissing hR hs' b32
    simp (disch := omega) only [s95_4, s95_13, s95_14, s95_17, s95_18, s95_19, Option.some.injEq, exists_eq_left', exists_eq_left, List.cons_append, List.nil_append, List.length_nil, List.length_cons, Nat.reduceAdd, Nat.reduceMul, Nat.reduceSub, Nat.reduceLeDiff, true_and, and_true, ↓reduceIte, not_false_eq_true, not_true_eq_false, nI_add, pk_mul, jn_ltT, jn_ltF, jn_leT, jn_leF, jn_eqT, jn_eqF, jn_lt0, jn_ge0, jn_eq0T, jn_eq0F, jn_in, jn_cl, jf_1_2 hR, ar, rs, jx_rv, t.1, mi]
    dsimp only at e
    by_cases b0 : F (117 + 2 * s') 0 = 0
    · rw [if_pos b0] at e ⊢
      have ex : -2 = x := Option.some.inj e
      subst ex
      simp (disch := omega) only [s95_22, s95_25, s95_26, s95_28, Option.some.injEq, exists_eq_left', exists_eq_left, List.cons_append, List.nil_append, List.length_nil, List.length_cons, Nat.reduceAdd, Nat.reduceMul, Nat.reduceSub, Nat.reduceLeDiff, true_and, and_true, ↓reduceIte, not_false_eq_true, not_true_eq_false, nI_add, pk_mul, jn_ltT, jn_ltF, jn_leT, jn_leF, jn_eqT, jn_eqF, jn_lt0, jn_ge0, jn_eq0T, jn_eq0F, jn_in, jn_cl, jc_of_1 hR]
      exact tb_finding hR (fun h' hR' hD' => by simp only [s95_31, Option.some.injEq, exists_eq_left', exists_eq_left, List.cons_append, List.nil_append, List.length_nil, List.length_cons, Nat.reduceAdd, Nat.reduceMul, Nat.reduceSub, Nat.reduceLeDiff, true_and, and_true, ↓reduceIte, not_false_eq_true, not_true_eq_false, nI_add, pk_mul, jn_ltT, jn_ltF, jn_leT, jn_leF, jn_eqT, jn_eqF, jn_lt0, jn_ge0, jn_eq0T, jn_eq0F, jn_in, jn_cl]; exact k h' hR' hD')
    · rw [if_neg b0] at e ⊢
      by_cases ib : jbel i (F (117 + 2 * s') 1) = true
      · rw [if_pos ib] at e; cases e
      · rw [if_neg ib] at e
        have ex : -1 = x := Option.some.inj e
        subst ex
        have k49 : jx_Go jxP (d + 1) 95 49 [.ref 1, .int (nI s'), .int i, .int v] [] h Q := by
          simp (disch := omega) only [s95_49, s95_50, s95_51, Option.some.injEq, exists_eq_left', exists_eq_left, List.cons_append, List.nil_append, List.length_nil, List.length_cons, Nat.reduceAdd, Nat.reduceMul, Nat.reduceSub, Nat.reduceLeDiff, true_and, and_true, ↓reduceIte, not_false_eq_true, not_true_eq_false, nI_add, pk_mul, jn_ltT, jn_ltF, jn_leT, jn_leF, jn_eqT, jn_eqF, jn_lt0, jn_ge0, jn_eq0T, jn_eq0F, jn_in, jn_cl, jc_of_1 hR]
          exact tb_finding hR (fun h' hR' hD' => by simp only [s95_54, Option.some.injEq, exists_eq_left', exists_eq_left, List.cons_append, List.nil_append, List.length_nil, List.length_cons, Nat.reduceAdd, Nat.reduceMul, Nat.reduceSub, Nat.reduceLeDiff, true_and, and_true, ↓reduceIte, not_false_eq_true, not_true_eq_false, nI_add, pk_mul, jn_ltT, jn_ltF, jn_leT, jn_leF, jn_eqT, jn_eqF, jn_lt0, jn_ge0, jn_eq0T, jn_eq0F, jn_in, jn_cl]; exact k h' hR' hD')
        simp (disch := omega) only [s95_22, s95_32, Option.some.injEq, exists_eq_left', exists_eq_left, List.cons_append, List.nil_append, List.length_nil, List.length_cons, Nat.reduceAdd, Nat.reduceMul, Nat.reduceSub, Nat.reduceLeDiff, true_and, and_true, ↓reduceIte, not_false_eq_true, not_true_eq_false, nI_add, pk_mul, jn_ltT, jn_ltF, jn_leT, jn_leF, jn_eqT, jn_eqF, jn_lt0, jn_ge0, jn_eq0T, jn_eq0F, jn_in, jn_cl]
        rcases jbel_f ib with w | ⟨w, w2⟩
        · rw [s95_33, if_pos w]; exact k49
        · rw [s95_33, if_neg w]
          simp (disch := omega) only [s95_36, s95_37, s95_38, s95_41, s95_42, s95_43, Option.some.injEq, exists_eq_left', exists_eq_left, List.cons_append, List.nil_append, List.length_nil, List.length_cons, Nat.reduceAdd, Nat.reduceMul, Nat.reduceSub, Nat.reduceLeDiff, true_and, and_true, ↓reduceIte, not_false_eq_true, not_true_eq_false, nI_add, pk_mul, jn_ltT, jn_ltF, jn_leT, jn_leF, jn_eqT, jn_eqF, jn_lt0, jn_ge0, jn_eq0T, jn_eq0F, jn_in, jn_cl, jf_1_2 hR, ar, rs, jx_rv, t.2.2.1]
          rw [s95_46, if_neg (Int32.not_lt.mpr w2)]
          exact k49
  · rw [if_neg hs] at e ⊢
    have ex : -1 = x := Option.some.inj e
    subst ex
    simp (disch := omega) only [s95_4, s95_7, s95_8, s95_9, Option.some.injEq, exists_eq_left', exists_eq_left, List.cons_append, List.nil_append, List.length_nil, List.length_cons, Nat.reduceAdd, Nat.reduceMul, Nat.reduceSub, Nat.reduceLeDiff, true_and, and_true, ↓reduceIte, not_false_eq_true, not_true_eq_false, nI_add, pk_mul, jn_ltT, jn_ltF, jn_leT, jn_leF, jn_eqT, jn_eqF, jn_lt0, jn_ge0, jn_eq0T, jn_eq0F, jn_in, jn_cl, jc_of_1 hR]
    exact tb_finding hR (fun h' hR' hD' => by simp only [s95_12, Option.some.injEq, exists_eq_left', exists_eq_left, List.cons_append, List.nil_append, List.length_nil, List.length_cons, Nat.reduceAdd, Nat.reduceMul, Nat.reduceSub, Nat.reduceLeDiff, true_and, and_true, ↓reduceIte, not_false_eq_true, not_true_eq_false, nI_add, pk_mul, jn_ltT, jn_ltF, jn_leT, jn_leF, jn_eqT, jn_eqF, jn_lt0, jn_ge0, jn_eq0T, jn_eq0F, jn_in, jn_cl]; exact k h' hR' hD')
/-- what the class writes down -/
def jmsk (b : Nat) (v : Int32) : Int32 := if b = 32 then v else v &&& (nI 1 <<< (nI b &&& 31) - nI 1)
theorem tb_write_t (hR : jR F A G g h) {s i : Nat} (hs : s < 4) (hb : F (117 + 2 * s) 0 = 8 ∨ F (117 + 2 * s) 0 = 16 ∨ F (117 + 2 * s) 0 = 32) (hz : F (117 + 2 * s) 1 ≤ 30) (hi : i < F (117 + 2 * s) 1) {v : Int32} (k : ∀ h', jR F (jua A (118 + 2 * s) (upd (A (118 + 2 * s)) i (jmsk (F (117 + 2 * s) 0) v))) G g h' → jD h h' → Q [.int (nI 0)] h') : jx_Go jxP (d + 1) 95 0 [.ref 1, .int (nI s), .int (nI i), .int v] [] h Q := by
  obtain ⟨r', ar, rr⟩ := hR.shr
  have rs := rr s hs
  obtain ⟨e1, e2, e3, e4, e5⟩ := jsht s hs
  have t := hR.sh hs
  have mi : ∀ (d : Nat) (Q : List Value → jxH → Prop), jx_Go jxP d 56 0 [.ref (117 + 2 * s)] [] h Q ↔ Q [.int (nI (if F (117 + 2 * s) 0 = 0 then 1 else 0))] h := fun d Q => sh_isMissing hR hs (by omega)
  have kk := k _ (hR.wi (f := upd (A (118 + 2 * s)) i (jmsk (F (117 + 2 * s) 0) v)) e5) (jD.rf.wi (by omega))
  unfold jmsk at kk
  simp (disch := omega) only [s95_0, s95_1, Option.some.injEq, exists_eq_left', exists_eq_left, List.cons_append, List.nil_append, List.length_nil, List.length_cons, Nat.reduceAdd, Nat.reduceMul, Nat.reduceSub, Nat.reduceLeDiff, true_and, and_true, ↓reduceIte, not_false_eq_true, not_true_eq_false, nI_add, pk_mul, jn_ltT, jn_ltF, jn_leT, jn_leF, jn_eqT, jn_eqF, jn_lt0, jn_ge0, jn_eq0T, jn_eq0F, jn_in, jn_cl, tb_noSheet, jbel_n]
  simp (disch := omega) only [s95_4, s95_13, s95_14, s95_17, s95_18, s95_19, Option.some.injEq, exists_eq_left', exists_eq_left, List.cons_append, List.nil_append, List.length_nil, List.length_cons, Nat.reduceAdd, Nat.reduceMul, Nat.reduceSub, Nat.reduceLeDiff, true_and, and_true, ↓reduceIte, not_false_eq_true, not_true_eq_false, nI_add, pk_mul, jn_ltT, jn_ltF, jn_leT, jn_leF, jn_eqT, jn_eqF, jn_lt0, jn_ge0, jn_eq0T, jn_eq0F, jn_in, jn_cl, jf_1_2 hR, ar, rs, jx_rv, t.1, mi]
  rw [if_neg (by omega)]
  simp (disch := omega) only [s95_22, s95_32, s95_33, s95_36, s95_37, s95_38, s95_41, s95_42, s95_43, s95_46, s95_49, s95_50, s95_51, s95_54, s95_55, s95_56, s95_59, s95_60, s95_61, s95_62, s95_63, Option.some.injEq, exists_eq_left', exists_eq_left, List.cons_append, List.nil_append, List.length_nil, List.length_cons, Nat.reduceAdd, Nat.reduceMul, Nat.reduceSub, Nat.reduceLeDiff, true_and, and_true, ↓reduceIte, not_false_eq_true, not_true_eq_false, nI_add, pk_mul, jn_ltT, jn_ltF, jn_leT, jn_leF, jn_eqT, jn_eqF, jn_lt0, jn_ge0, jn_eq0T, jn_eq0F, jn_in, jn_cl, jf_1_2 hR, ar, rs, jx_rv, t.1, t.2.2.1]
  by_cases w : F (117 + 2 * s) 0 = 32
  · rw [if_pos w] at kk
    simp (disch := omega) only [s58_0, s58_1, s58_4, s58_5, s58_6, s58_9, s58_11, s58_14, s58_15, s58_28, s58_29, s95_66, s95_67, Option.some.injEq, exists_eq_left', exists_eq_left, List.cons_append, List.nil_append, List.length_nil, List.length_cons, Nat.reduceAdd, Nat.reduceMul, Nat.reduceSub, Nat.reduceLeDiff, true_and, and_true, ↓reduceIte, not_false_eq_true, not_true_eq_false, nI_add, pk_mul, jn_ltT, jn_ltF, jn_leT, jn_leF, jn_eqT, jn_eqF, jn_lt0, jn_ge0, jn_eq0T, jn_eq0F, jn_in, jn_cl, t.2.1, t.2.2.2.1, t.2.2.2.2]
    exact kk
  · rw [if_neg w] at kk
    simp (disch := omega) only [s58_0, s58_1, s58_4, s58_5, s58_6, s58_9, s58_11, s58_18, s58_19, s58_20, s58_21, s58_24, s58_25, s58_26, s58_27, s58_28, s58_29, s95_66, s95_67, Option.some.injEq, exists_eq_left', exists_eq_left, List.cons_append, List.nil_append, List.length_nil, List.length_cons, Nat.reduceAdd, Nat.reduceMul, Nat.reduceSub, Nat.reduceLeDiff, true_and, and_true, ↓reduceIte, not_false_eq_true, not_true_eq_false, nI_add, pk_mul, jn_ltT, jn_ltF, jn_leT, jn_leF, jn_eqT, jn_eqF, jn_lt0, jn_ge0, jn_eq0T, jn_eq0F, jn_in, jn_cl, t.2.1, t.2.2.2.1, t.2.2.2.2]
    exact kk
end CL25
