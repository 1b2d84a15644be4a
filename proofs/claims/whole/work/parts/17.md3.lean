/-! ===== the reference: tables ===== -/
section MD3
variable {d : Nat} {F : Nat → Nat → Nat} {A : Nat → Nat → Int32} {G : Nat → Option Nat} {g : Nat → Int64} {h : jxH} {Q : List Value → jxH → Prop}
theorem jle_bel {x : Int32} {n : Nat} (hn : n < 2147483647) : (x ≤ nI n) = ¬ (nI (n + 1) ≤ x) := by
  apply propext
  rw [Int32.le_iff_toInt_le, Int32.le_iff_toInt_le, nI_toInt (by omega), nI_toInt (by omega)]
  omega
theorem jlt_bel {x : Int32} {n : Nat} (hn : n < 2147483647) : (nI n < x) = (nI (n + 1) ≤ x) := by
  apply propext
  rw [Int32.lt_iff_toInt_lt, Int32.le_iff_toInt_le, nI_toInt (by omega), nI_toInt (by omega)]
  omega
theorem jlt_1 {x : Int32} : (x < nI 1) = (x < 0 ∨ x = nI 0) := by
  apply propext
  have e0 : (0 : Int32) = nI 0 := rfl
  rw [e0, Int32.lt_iff_toInt_lt, Int32.lt_iff_toInt_lt, ← Int32.toInt_inj, nI_toInt (by omega), nI_toInt (by omega)]
  omega
/-- one of 1 to 5 -/
def jr15 (x : Int32) : Bool := decide (¬ x < nI 1) && decide (¬ nI 5 < x)
theorem jr15_t {x : Int32} (e : jr15 x = true) : ∃ r, 1 ≤ r ∧ r ≤ 5 ∧ x = nI r := by
  unfold jr15 at e
  rw [Bool.and_eq_true, decide_eq_true_eq, decide_eq_true_eq] at e
  have e1 : ¬ x < 0 := fun q => e.1 (by rw [jlt_1]; exact Or.inl q)
  obtain ⟨j, hj, rfl⟩ := nI_of e1
  refine ⟨j, ?_, ?_, rfl⟩
  · have := e.1
    rw [nI_ltI (by omega) (by omega)] at this
    omega
  · have := e.2
    rw [nI_ltI (by omega) (by omega)] at this
    omega
theorem jr15_n {r : Nat} (h1 : 1 ≤ r) (h5 : r ≤ 5) : jr15 (nI r) = true := by
  unfold jr15
  rw [Bool.and_eq_true, decide_eq_true_eq, decide_eq_true_eq, nI_ltI (by omega) (by omega), nI_ltI (by omega) (by omega)]
  omega
theorem md_table_f (hR : jR F A G g h) {x y : Int32} (hb : ¬ (jr15 x = true ∧ jr15 y = true)) (k : ∀ h', jR (jup F 149 13 (F 149 13 + 1)) A G g h' → jD h h' → Q [.int (-1)] h') : jx_Go jxP (d + 1) 139 0 [.ref 149, .int x, .int y, jx_u, jx_u] [] h Q := by
  have key : jx_Go jxP (d + 1) 139 20 [.ref 149, .int x, .int y, jx_u, jx_u] [] h Q := by
    simp only [s139_0, s139_1, s139_2, s139_5, s139_6, s139_7, s139_10, s139_11, s139_12, s139_15, s139_16, s139_17, s139_20, s139_21, s139_22, s139_25, s139_26, s139_27, s139_30, s139_31, s139_34, s139_35, s139_38, s139_39, s139_40, s139_41, s139_42, s139_45, s139_46, s139_47, s139_50, s139_51, s139_55, s139_57, s139_60, s139_61, s139_64, s139_66, s139_67, s139_68, s139_69, s139_72, s139_74, s139_75, s139_76, s139_79, s139_82, s139_83, s139_84, s139_87, s139_88, Option.some.injEq, exists_eq_left', exists_eq_left, List.cons_append, List.nil_append, List.length_nil, List.length_cons, Nat.reduceAdd, Nat.reduceMul, Nat.reduceSub, Nat.reduceLeDiff, true_and, and_true, ↓reduceIte, not_false_eq_true, not_true_eq_false, nI_add, pk_mul, jn_ltT, jn_ltF, jn_leT, jn_leF, jn_eqT, jn_eqF, jn_lt0, jn_ge0, jn_eq0T, jn_eq0F, jn_in, jn_cl, jc_of_149 hR]
    exact md_finding hR (fun h' hR' hD' => by simp only [s139_0, s139_1, s139_2, s139_5, s139_6, s139_7, s139_10, s139_11, s139_12, s139_15, s139_16, s139_17, s139_20, s139_21, s139_22, s139_25, s139_26, s139_27, s139_30, s139_31, s139_34, s139_35, s139_38, s139_39, s139_40, s139_41, s139_42, s139_45, s139_46, s139_47, s139_50, s139_51, s139_55, s139_57, s139_60, s139_61, s139_64, s139_66, s139_67, s139_68, s139_69, s139_72, s139_74, s139_75, s139_76, s139_79, s139_82, s139_83, s139_84, s139_87, s139_88, Option.some.injEq, exists_eq_left', exists_eq_left, List.cons_append, List.nil_append, List.length_nil, List.length_cons, Nat.reduceAdd, Nat.reduceMul, Nat.reduceSub, Nat.reduceLeDiff, true_and, and_true, ↓reduceIte, not_false_eq_true, not_true_eq_false, nI_add, pk_mul, jn_ltT, jn_ltF, jn_leT, jn_leF, jn_eqT, jn_eqF, jn_lt0, jn_ge0, jn_eq0T, jn_eq0F, jn_in, jn_cl]; exact k h' hR' hD')
  simp only [s139_0, s139_1, s139_2, s139_5, s139_6, s139_7, s139_10, s139_11, s139_12, s139_15, s139_16, s139_17, Option.some.injEq, exists_eq_left', exists_eq_left, List.cons_append, List.nil_append, List.length_nil, List.length_cons, Nat.reduceAdd, Nat.reduceMul, Nat.reduceSub, Nat.reduceLeDiff, true_and, and_true, ↓reduceIte, not_false_eq_true, not_true_eq_false, nI_add, pk_mul, jn_ltT, jn_ltF, jn_leT, jn_leF, jn_eqT, jn_eqF, jn_lt0, jn_ge0, jn_eq0T, jn_eq0F, jn_in, jn_cl]
  by_cases a : x < nI 1
  · rw [if_pos a]; exact key
  · rw [if_neg a]
    by_cases b : nI 5 < x
    · rw [if_pos b]; exact key
    · rw [if_neg b]
      by_cases c : y < nI 1
      · rw [if_pos c]; exact key
      · rw [if_neg c]
        have : ¬ y ≤ nI 5 := fun q => hb ⟨by simp [jr15, a, b], by
          rw [jle_bel (by omega), ← jlt_bel (by omega)] at q
          simp [jr15, c, q]⟩
        rw [if_neg this]
        exact key
theorem md_table_t (hR : jR F A G g h) (hr : F 149 0 ≤ 5) (hc : F 149 1 ≤ 5) (hk : F 149 4 ≤ 30) {r c : Nat} (r1 : 1 ≤ r) (r5 : r ≤ 5) (c1 : 1 ≤ c) (c5 : c ≤ 5) (k : ∀ h' pl wt, (∀ j, j < 25 → pl j = nI 0) → (∀ j, j < 25 → wt j = nI 1) → jR (jup (jup (jup (jup F 149 4 (if F 149 4 = 30 then 30 else F 149 4 + 1)) 149 0 r) 149 1 c) 149 14 0) (jua (jua (jua A 152 (jkt (A 152) (F 149 4) (F 149 0) (F 149 1) (A 150) (A 151))) 150 pl) 151 wt) G g h' → jD h h' → Q [.int (nI (F 149 0 * F 149 1))] h') : jx_Go jxP (d + 2) 139 0 [.ref 149, .int (nI r), .int (nI c), jx_u, jx_u] [] h Q := by
  simp (disch := omega) only [s139_0, s139_1, s139_2, s139_5, s139_6, s139_7, s139_10, s139_11, s139_12, s139_15, s139_16, s139_17, s139_20, s139_21, s139_22, s139_25, s139_26, s139_27, Option.some.injEq, exists_eq_left', exists_eq_left, List.cons_append, List.nil_append, List.length_nil, List.length_cons, Nat.reduceAdd, Nat.reduceMul, Nat.reduceSub, Nat.reduceLeDiff, true_and, and_true, ↓reduceIte, not_false_eq_true, not_true_eq_false, nI_add, pk_mul, jn_ltT, jn_ltF, jn_leT, jn_leF, jn_eqT, jn_eqF, jn_lt0, jn_ge0, jn_eq0T, jn_eq0F, jn_in, jn_cl, jc_of_149 hR]
  refine md_keepTask hR hr hc hk (fun h1 hR1 hD1 => ?_)
  generalize hF1 : jup F 149 4 (if F 149 4 = 30 then 30 else F 149 4 + 1) = F1 at hR1 k
  have e0 : F1 149 0 = F 149 0 := by rw [← hF1]; simp [jup]
  have e1 : F1 149 1 = F 149 1 := by rw [← hF1]; simp [jup]
  simp (disch := omega) only [s139_30, s139_31, s139_34, s139_35, s139_38, s139_39, s139_40, s139_41, s139_42, s139_45, s139_46, s139_47, s139_50, s139_51, Option.some.injEq, exists_eq_left', exists_eq_left, List.cons_append, List.nil_append, List.length_nil, List.length_cons, Nat.reduceAdd, Nat.reduceMul, Nat.reduceSub, Nat.reduceLeDiff, true_and, and_true, ↓reduceIte, not_false_eq_true, not_true_eq_false, nI_add, pk_mul, jn_ltT, jn_ltF, jn_leT, jn_leF, jn_eqT, jn_eqF, jn_lt0, jn_ge0, jn_eq0T, jn_eq0F, jn_in, jn_cl, jh_ai_wi, jh_ai_wi_ne, jh_ai_uf, jh_fl_wi_ne, jh_fl_uf_ne, jh_fl_uf_o, jh_cl_wi_ne, jh_cl_uf, jh_al_wi_ne, jh_al_uf, jh_al_wl, jh_al_wl_ne, jh_ai_wl_ne, jh_fl_wl_ne, jh_cl_wl_ne, jh_ar_wi_ne, jh_ar_uf, jh_ar_wl_ne, jh_1_wi, jh_1_uf, jh_1_wl, jf_149_0 hR1, jf_149_1 hR1, e0, e1]
  have hR2 : jR (jup (jup F1 149 0 r) 149 1 c) (jua A 152 (jkt (A 152) (F 149 4) (F 149 0) (F 149 1) (A 150) (A 151))) G g (jx_uf (jx_uf h1 149 0 (.int (nI r))) 149 1 (.int (nI c))) := (hR1.uf rfl rfl).uf rfl rfl
  have hD2 : jD h (jx_uf (jx_uf h1 149 0 (.int (nI r))) 149 1 (.int (nI c))) := (hD1.uf (by decide)).uf (by decide)
  generalize jx_uf (jx_uf h1 149 0 (.int (nI r))) 149 1 (.int (nI c)) = h2 at hR2 hD2 ⊢
  generalize hA2 : jua A 152 (jkt (A 152) (F 149 4) (F 149 0) (F 149 1) (A 150) (A 151)) = A2 at hR2 k
  refine jloop (fun i => ∀ pl wt, (∀ j, j < i → pl j = nI 0) → (∀ j, j < i → wt j = nI 1) → jx_Go jxP (d + 2) 139 53 [.ref 149, .int (nI r), .int (nI c), .int (nI (F 149 0 * F 149 1)), .int (nI i)] [] (jx_wi (jx_wi h2 150 25 pl) 151 25 wt) Q) 25 ?_ ?_ 0 (Nat.zero_le _) (A2 150) (A2 151) (by omega) (by omega) |> fun z => by rw [jh_wi_id (ja_150 hR2), jh_wi_id (ja_151 hR2)] at z; exact z
  · intro pl wt hp hw
    rw [s139_53]
    simp (disch := omega) only [s139_55, s139_57, s139_60, s139_61, s139_64, s139_66, s139_67, s139_68, s139_69, s139_72, s139_74, s139_75, s139_76, s139_79, s139_82, s139_83, s139_84, s139_87, s139_88, Option.some.injEq, exists_eq_left', exists_eq_left, List.cons_append, List.nil_append, List.length_nil, List.length_cons, Nat.reduceAdd, Nat.reduceMul, Nat.reduceSub, Nat.reduceLeDiff, true_and, and_true, ↓reduceIte, not_false_eq_true, not_true_eq_false, nI_add, pk_mul, jn_ltT, jn_ltF, jn_leT, jn_leF, jn_eqT, jn_eqF, jn_lt0, jn_ge0, jn_eq0T, jn_eq0F, jn_in, jn_cl, jh_ai_wi, jh_ai_wi_ne, jh_ai_uf, jh_fl_wi_ne, jh_fl_uf_ne, jh_fl_uf_o, jh_cl_wi_ne, jh_cl_uf, jh_al_wi_ne, jh_al_uf, jh_al_wl, jh_al_wl_ne, jh_ai_wl_ne, jh_fl_wl_ne, jh_cl_wl_ne, jh_ar_wi_ne, jh_ar_uf, jh_ar_wl_ne, jh_1_wi, jh_1_uf, jh_1_wl, jf_149_14 hR2]
    exact k _ pl wt hp hw (((hR2.wi rfl).wi rfl).uf rfl rfl) (((hD2.wi (by decide)).wi (by decide)).uf (by decide))
  · intro i hi ih pl wt hp hw
    rw [s139_53]
    simp (disch := omega) only [s139_55, s139_57, s139_60, s139_61, s139_64, s139_66, s139_67, s139_68, s139_69, s139_72, s139_74, s139_75, s139_76, s139_79, s139_82, s139_83, s139_84, s139_87, s139_88, Option.some.injEq, exists_eq_left', exists_eq_left, List.cons_append, List.nil_append, List.length_nil, List.length_cons, Nat.reduceAdd, Nat.reduceMul, Nat.reduceSub, Nat.reduceLeDiff, true_and, and_true, ↓reduceIte, not_false_eq_true, not_true_eq_false, nI_add, pk_mul, jn_ltT, jn_ltF, jn_leT, jn_leF, jn_eqT, jn_eqF, jn_lt0, jn_ge0, jn_eq0T, jn_eq0F, jn_in, jn_cl, jh_ai_wi, jh_ai_wi_ne, jh_ai_uf, jh_fl_wi_ne, jh_fl_uf_ne, jh_fl_uf_o, jh_cl_wi_ne, jh_cl_uf, jh_al_wi_ne, jh_al_uf, jh_al_wl, jh_al_wl_ne, jh_ai_wl_ne, jh_fl_wl_ne, jh_cl_wl_ne, jh_ar_wi_ne, jh_ar_uf, jh_ar_wl_ne, jh_1_wi, jh_1_uf, jh_1_wl, jf_149_2 hR2, jf_149_3 hR2, jh_wi_wi, jh_wi_c]
    rw [jh_wi_c (a := 150) (b := 151) (by decide), jh_wi_wi, jh_wi_wi]
    refine ih _ _ (fun j hj => ?_) (fun j hj => ?_)
    · by_cases e : j = i
      · simp [upd, e]
      · simp only [upd, if_neg e]; exact hp j (by omega)
    · by_cases e : j = i
      · simp [upd, e]
      · simp only [upd, if_neg e]; exact hw j (by omega)
theorem md_put_f (hR : jR F A G g h) {x y v : Int32} (hb : ¬ ((jbel x (F 149 0) = true ∧ jbel y (F 149 1) = true) ∧ jbel v 3 = true)) (k : ∀ h', jR (jup F 149 13 (F 149 13 + 1)) A G g h' → jD h h' → Q [.int (-1)] h') : jx_Go jxP (d + 1) 140 0 [.ref 149, .int x, .int y, .int v, jx_u] [] h Q := by
  have key : jx_Go jxP (d + 1) 140 18 [.ref 149, .int x, .int y, .int v, jx_u] [] h Q := by
    simp only [s140_0, s140_1, s140_2, s140_3, s140_6, s140_9, s140_10, s140_13, s140_14, s140_15, s140_18, s140_19, s140_20, s140_23, s140_24, s140_25, s140_28, s140_29, s140_32, s140_33, s140_34, s140_35, s140_36, s140_37, s140_38, s140_40, s140_41, s140_44, s140_45, s140_46, s140_47, s140_48, s140_49, s140_50, s140_51, s140_52, s140_53, s140_56, s140_58, Option.some.injEq, exists_eq_left', exists_eq_left, List.cons_append, List.nil_append, List.length_nil, List.length_cons, Nat.reduceAdd, Nat.reduceMul, Nat.reduceSub, Nat.reduceLeDiff, true_and, and_true, ↓reduceIte, not_false_eq_true, not_true_eq_false, nI_add, pk_mul, jn_ltT, jn_ltF, jn_leT, jn_leF, jn_eqT, jn_eqF, jn_lt0, jn_ge0, jn_eq0T, jn_eq0F, jn_in, jn_cl, jc_of_149 hR]
    exact md_finding hR (fun h' hR' hD' => by simp only [s140_0, s140_1, s140_2, s140_3, s140_6, s140_9, s140_10, s140_13, s140_14, s140_15, s140_18, s140_19, s140_20, s140_23, s140_24, s140_25, s140_28, s140_29, s140_32, s140_33, s140_34, s140_35, s140_36, s140_37, s140_38, s140_40, s140_41, s140_44, s140_45, s140_46, s140_47, s140_48, s140_49, s140_50, s140_51, s140_52, s140_53, s140_56, s140_58, Option.some.injEq, exists_eq_left', exists_eq_left, List.cons_append, List.nil_append, List.length_nil, List.length_cons, Nat.reduceAdd, Nat.reduceMul, Nat.reduceSub, Nat.reduceLeDiff, true_and, and_true, ↓reduceIte, not_false_eq_true, not_true_eq_false, nI_add, pk_mul, jn_ltT, jn_ltF, jn_leT, jn_leF, jn_eqT, jn_eqF, jn_lt0, jn_ge0, jn_eq0T, jn_eq0F, jn_in, jn_cl]; exact k h' hR' hD')
  simp only [s140_0, s140_1, s140_2, s140_3, Option.some.injEq, exists_eq_left', exists_eq_left, List.cons_append, List.nil_append, List.length_nil, List.length_cons, Nat.reduceAdd, Nat.reduceMul, Nat.reduceSub, Nat.reduceLeDiff, true_and, and_true, ↓reduceIte, not_false_eq_true, not_true_eq_false, nI_add, pk_mul, jn_ltT, jn_ltF, jn_leT, jn_leF, jn_eqT, jn_eqF, jn_lt0, jn_ge0, jn_eq0T, jn_eq0F, jn_in, jn_cl, jc_of_149 hR, md_isPlace hR]
  by_cases a : jbel x (F 149 0) = true ∧ jbel y (F 149 1) = true
  · rw [if_pos a]
    simp (disch := omega) only [s140_6, s140_9, s140_10, s140_13, s140_14, s140_15, Option.some.injEq, exists_eq_left', exists_eq_left, List.cons_append, List.nil_append, List.length_nil, List.length_cons, Nat.reduceAdd, Nat.reduceMul, Nat.reduceSub, Nat.reduceLeDiff, true_and, and_true, ↓reduceIte, not_false_eq_true, not_true_eq_false, nI_add, pk_mul, jn_ltT, jn_ltF, jn_leT, jn_leF, jn_eqT, jn_eqF, jn_lt0, jn_ge0, jn_eq0T, jn_eq0F, jn_in, jn_cl]
    by_cases b : v < 0
    · rw [if_pos b]; exact key
    · rw [if_neg b]
      have : ¬ v ≤ nI 2 := fun q => hb ⟨a, by rw [jle_bel (by omega)] at q; simp [jbel, b, q]⟩
      rw [if_neg this]; exact key
  · rw [if_neg a]
    simp (disch := omega) only [s140_6, s140_9, s140_10, s140_13, s140_14, s140_15, Option.some.injEq, exists_eq_left', exists_eq_left, List.cons_append, List.nil_append, List.length_nil, List.length_cons, Nat.reduceAdd, Nat.reduceMul, Nat.reduceSub, Nat.reduceLeDiff, true_and, and_true, ↓reduceIte, not_false_eq_true, not_true_eq_false, nI_add, pk_mul, jn_ltT, jn_ltF, jn_leT, jn_leF, jn_eqT, jn_eqF, jn_lt0, jn_ge0, jn_eq0T, jn_eq0F, jn_in, jn_cl]
    exact key
theorem jbel_n {r R : Nat} (h1 : r < R) (h5 : R < 2147483648) : jbel (nI r) R = true := (jbel_iff h5).mpr ⟨r, h1, rfl⟩
theorem md_put_t (hR : jR F A G g h) (hr : F 149 0 ≤ 5) (hc : F 149 1 ≤ 5) (hk : F 149 4 ≤ 30) {r c v : Nat} (r1 : r < F 149 0) (c1 : c < F 149 1) (v1 : v ≤ 2) (k : ∀ h', jR (jup (jup F 149 4 (if F 149 4 = 30 then 30 else F 149 4 + 1)) 149 14 0) (jua (jua A 152 (jkt (A 152) (F 149 4) (F 149 0) (F 149 1) (A 150) (A 151))) 150 (upd (A 150) (5 * r + c) (nI v))) G g h' → jD h h' → Q [.int (A 150 (5 * r + c))] h') : jx_Go jxP (d + 2) 140 0 [.ref 149, .int (nI r), .int (nI c), .int (nI v), jx_u] [] h Q := by
  simp (disch := omega) only [s140_0, s140_1, s140_2, s140_3, Option.some.injEq, exists_eq_left', exists_eq_left, List.cons_append, List.nil_append, List.length_nil, List.length_cons, Nat.reduceAdd, Nat.reduceMul, Nat.reduceSub, Nat.reduceLeDiff, true_and, and_true, ↓reduceIte, not_false_eq_true, not_true_eq_false, nI_add, pk_mul, jn_ltT, jn_ltF, jn_leT, jn_leF, jn_eqT, jn_eqF, jn_lt0, jn_ge0, jn_eq0T, jn_eq0F, jn_in, jn_cl, jc_of_149 hR, md_isPlace hR, jbel_n]
  simp (disch := omega) only [s140_6, s140_9, s140_10, s140_13, s140_14, s140_15, s140_18, s140_19, s140_20, s140_23, s140_24, s140_25, Option.some.injEq, exists_eq_left', exists_eq_left, List.cons_append, List.nil_append, List.length_nil, List.length_cons, Nat.reduceAdd, Nat.reduceMul, Nat.reduceSub, Nat.reduceLeDiff, true_and, and_true, ↓reduceIte, not_false_eq_true, not_true_eq_false, nI_add, pk_mul, jn_ltT, jn_ltF, jn_leT, jn_leF, jn_eqT, jn_eqF, jn_lt0, jn_ge0, jn_eq0T, jn_eq0F, jn_in, jn_cl, jc_of_149 hR]
  refine md_keepTask hR hr hc hk (fun h1 hR1 hD1 => ?_)
  have e1 : jua A 152 (jkt (A 152) (F 149 4) (F 149 0) (F 149 1) (A 150) (A 151)) 150 = A 150 := by simp [jua]
  simp (disch := omega) only [s140_28, s140_29, s140_32, s140_33, s140_34, s140_35, s140_36, s140_37, s140_38, s140_40, s140_41, s140_44, s140_45, s140_46, s140_47, s140_48, s140_49, s140_50, s140_51, s140_52, s140_53, s140_56, s140_58, Option.some.injEq, exists_eq_left', exists_eq_left, List.cons_append, List.nil_append, List.length_nil, List.length_cons, Nat.reduceAdd, Nat.reduceMul, Nat.reduceSub, Nat.reduceLeDiff, true_and, and_true, ↓reduceIte, not_false_eq_true, not_true_eq_false, nI_add, pk_mul, jn_ltT, jn_ltF, jn_leT, jn_leF, jn_eqT, jn_eqF, jn_lt0, jn_ge0, jn_eq0T, jn_eq0F, jn_in, jn_cl, jh_ai_wi, jh_ai_wi_ne, jh_ai_uf, jh_fl_wi_ne, jh_fl_uf_ne, jh_fl_uf_o, jh_cl_wi_ne, jh_cl_uf, jh_al_wi_ne, jh_al_uf, jh_al_wl, jh_al_wl_ne, jh_ai_wl_ne, jh_fl_wl_ne, jh_cl_wl_ne, jh_ar_wi_ne, jh_ar_uf, jh_ar_wl_ne, jh_1_wi, jh_1_uf, jh_1_wl, jf_149_2 hR1, jf_149_14 hR1, ja_150 hR1, e1]
  rw [jh_uf_wi (by decide)]
  exact k _ ((hR1.uf rfl rfl).wi rfl) ((hD1.uf (by decide)).wi (by decide))
theorem md_place_f (hR : jR F A G g h) {x y : Int32} (hb : ¬ (jbel x (F 149 0) = true ∧ jbel y (F 149 1) = true)) (k : ∀ h', jR (jup F 149 13 (F 149 13 + 1)) A G g h' → jD h h' → Q [.int (-1)] h') : jx_Go jxP (d + 1) 141 0 [.ref 149, .int x, .int y] [] h Q := by
  simp only [s141_0, s141_1, s141_2, s141_3, Option.some.injEq, exists_eq_left', exists_eq_left, List.cons_append, List.nil_append, List.length_nil, List.length_cons, Nat.reduceAdd, Nat.reduceMul, Nat.reduceSub, Nat.reduceLeDiff, true_and, and_true, ↓reduceIte, not_false_eq_true, not_true_eq_false, nI_add, pk_mul, jn_ltT, jn_ltF, jn_leT, jn_leF, jn_eqT, jn_eqF, jn_lt0, jn_ge0, jn_eq0T, jn_eq0F, jn_in, jn_cl, jc_of_149 hR, md_isPlace hR]
  rw [if_neg hb]
  simp (disch := omega) only [s141_0, s141_1, s141_2, s141_3, s141_6, s141_9, s141_10, s141_13, s141_14, s141_15, s141_16, s141_17, s141_18, s141_19, s141_22, s141_23, s141_24, s141_27, Option.some.injEq, exists_eq_left', exists_eq_left, List.cons_append, List.nil_append, List.length_nil, List.length_cons, Nat.reduceAdd, Nat.reduceMul, Nat.reduceSub, Nat.reduceLeDiff, true_and, and_true, ↓reduceIte, not_false_eq_true, not_true_eq_false, nI_add, pk_mul, jn_ltT, jn_ltF, jn_leT, jn_leF, jn_eqT, jn_eqF, jn_lt0, jn_ge0, jn_eq0T, jn_eq0F, jn_in, jn_cl, jc_of_149 hR]
  exact md_finding hR (fun h' hR' hD' => by simp only [s141_0, s141_1, s141_2, s141_3, s141_6, s141_9, s141_10, s141_13, s141_14, s141_15, s141_16, s141_17, s141_18, s141_19, s141_22, s141_23, s141_24, s141_27, Option.some.injEq, exists_eq_left', exists_eq_left, List.cons_append, List.nil_append, List.length_nil, List.length_cons, Nat.reduceAdd, Nat.reduceMul, Nat.reduceSub, Nat.reduceLeDiff, true_and, and_true, ↓reduceIte, not_false_eq_true, not_true_eq_false, nI_add, pk_mul, jn_ltT, jn_ltF, jn_leT, jn_leF, jn_eqT, jn_eqF, jn_lt0, jn_ge0, jn_eq0T, jn_eq0F, jn_in, jn_cl]; exact k h' hR' hD')
theorem md_place_t (hR : jR F A G g h) (hr : F 149 0 ≤ 5) (hc : F 149 1 ≤ 5) {r c : Nat} (r1 : r < F 149 0) (c1 : c < F 149 1) (k : Q [.int (A 150 (5 * r + c))] h) : jx_Go jxP (d + 1) 141 0 [.ref 149, .int (nI r), .int (nI c)] [] h Q := by
  simp (disch := omega) only [s141_0, s141_1, s141_2, s141_3, Option.some.injEq, exists_eq_left', exists_eq_left, List.cons_append, List.nil_append, List.length_nil, List.length_cons, Nat.reduceAdd, Nat.reduceMul, Nat.reduceSub, Nat.reduceLeDiff, true_and, and_true, ↓reduceIte, not_false_eq_true, not_true_eq_false, nI_add, pk_mul, jn_ltT, jn_ltF, jn_leT, jn_leF, jn_eqT, jn_eqF, jn_lt0, jn_ge0, jn_eq0T, jn_eq0F, jn_in, jn_cl, jc_of_149 hR, md_isPlace hR, jbel_n]
  simp (disch := omega) only [s141_0, s141_1, s141_2, s141_3, s141_6, s141_9, s141_10, s141_13, s141_14, s141_15, s141_16, s141_17, s141_18, s141_19, s141_22, s141_23, s141_24, s141_27, Option.some.injEq, exists_eq_left', exists_eq_left, List.cons_append, List.nil_append, List.length_nil, List.length_cons, Nat.reduceAdd, Nat.reduceMul, Nat.reduceSub, Nat.reduceLeDiff, true_and, and_true, ↓reduceIte, not_false_eq_true, not_true_eq_false, nI_add, pk_mul, jn_ltT, jn_ltF, jn_leT, jn_leF, jn_eqT, jn_eqF, jn_lt0, jn_ge0, jn_eq0T, jn_eq0F, jn_in, jn_cl, jh_ai_wi, jh_ai_wi_ne, jh_ai_uf, jh_fl_wi_ne, jh_fl_uf_ne, jh_fl_uf_o, jh_cl_wi_ne, jh_cl_uf, jh_al_wi_ne, jh_al_uf, jh_al_wl, jh_al_wl_ne, jh_ai_wl_ne, jh_fl_wl_ne, jh_cl_wl_ne, jh_ar_wi_ne, jh_ar_uf, jh_ar_wl_ne, jh_1_wi, jh_1_uf, jh_1_wl, jf_149_2 hR, ja_150 hR]
  exact k
theorem md_weigh_f (hR : jR F A G g h) {x y v : Int32} (hb : ¬ ((jbel x (F 149 0) = true ∧ jbel y (F 149 1) = true) ∧ jbel v 10 = true)) (k : ∀ h', jR (jup F 149 13 (F 149 13 + 1)) A G g h' → jD h h' → Q [.int (-1)] h') : jx_Go jxP (d + 1) 142 0 [.ref 149, .int x, .int y, .int v, jx_u] [] h Q := by
  have key : jx_Go jxP (d + 1) 142 19 [.ref 149, .int x, .int y, .int v, jx_u] [] h Q := by
    simp only [s142_0, s142_1, s142_2, s142_3, s142_6, s142_9, s142_10, s142_13, s142_14, s142_16, s142_19, s142_20, s142_21, s142_24, s142_25, s142_26, s142_29, s142_30, s142_33, s142_34, s142_35, s142_36, s142_37, s142_38, s142_39, s142_41, s142_42, s142_45, s142_46, s142_47, s142_48, s142_49, s142_50, s142_51, s142_52, s142_54, Option.some.injEq, exists_eq_left', exists_eq_left, List.cons_append, List.nil_append, List.length_nil, List.length_cons, Nat.reduceAdd, Nat.reduceMul, Nat.reduceSub, Nat.reduceLeDiff, true_and, and_true, ↓reduceIte, not_false_eq_true, not_true_eq_false, nI_add, pk_mul, jn_ltT, jn_ltF, jn_leT, jn_leF, jn_eqT, jn_eqF, jn_lt0, jn_ge0, jn_eq0T, jn_eq0F, jn_in, jn_cl, jc_of_149 hR]
    exact md_finding hR (fun h' hR' hD' => by simp only [s142_0, s142_1, s142_2, s142_3, s142_6, s142_9, s142_10, s142_13, s142_14, s142_16, s142_19, s142_20, s142_21, s142_24, s142_25, s142_26, s142_29, s142_30, s142_33, s142_34, s142_35, s142_36, s142_37, s142_38, s142_39, s142_41, s142_42, s142_45, s142_46, s142_47, s142_48, s142_49, s142_50, s142_51, s142_52, s142_54, Option.some.injEq, exists_eq_left', exists_eq_left, List.cons_append, List.nil_append, List.length_nil, List.length_cons, Nat.reduceAdd, Nat.reduceMul, Nat.reduceSub, Nat.reduceLeDiff, true_and, and_true, ↓reduceIte, not_false_eq_true, not_true_eq_false, nI_add, pk_mul, jn_ltT, jn_ltF, jn_leT, jn_leF, jn_eqT, jn_eqF, jn_lt0, jn_ge0, jn_eq0T, jn_eq0F, jn_in, jn_cl]; exact k h' hR' hD')
  simp only [s142_0, s142_1, s142_2, s142_3, Option.some.injEq, exists_eq_left', exists_eq_left, List.cons_append, List.nil_append, List.length_nil, List.length_cons, Nat.reduceAdd, Nat.reduceMul, Nat.reduceSub, Nat.reduceLeDiff, true_and, and_true, ↓reduceIte, not_false_eq_true, not_true_eq_false, nI_add, pk_mul, jn_ltT, jn_ltF, jn_leT, jn_leF, jn_eqT, jn_eqF, jn_lt0, jn_ge0, jn_eq0T, jn_eq0F, jn_in, jn_cl, jc_of_149 hR, md_isPlace hR]
  by_cases a : jbel x (F 149 0) = true ∧ jbel y (F 149 1) = true
  · rw [if_pos a]
    simp (disch := omega) only [s142_6, s142_9, s142_10, s142_13, s142_14, s142_16, Option.some.injEq, exists_eq_left', exists_eq_left, List.cons_append, List.nil_append, List.length_nil, List.length_cons, Nat.reduceAdd, Nat.reduceMul, Nat.reduceSub, Nat.reduceLeDiff, true_and, and_true, ↓reduceIte, not_false_eq_true, not_true_eq_false, nI_add, pk_mul, jn_ltT, jn_ltF, jn_leT, jn_leF, jn_eqT, jn_eqF, jn_lt0, jn_ge0, jn_eq0T, jn_eq0F, jn_in, jn_cl]
    by_cases b : v < 0
    · rw [if_pos b]; exact key
    · rw [if_neg b]
      have : ¬ v ≤ nI 9 := fun q => hb ⟨a, by rw [jle_bel (by omega)] at q; simp [jbel, b, q]⟩
      rw [if_neg this]; exact key
  · rw [if_neg a]
    simp (disch := omega) only [s142_6, s142_9, s142_10, s142_13, s142_14, s142_16, Option.some.injEq, exists_eq_left', exists_eq_left, List.cons_append, List.nil_append, List.length_nil, List.length_cons, Nat.reduceAdd, Nat.reduceMul, Nat.reduceSub, Nat.reduceLeDiff, true_and, and_true, ↓reduceIte, not_false_eq_true, not_true_eq_false, nI_add, pk_mul, jn_ltT, jn_ltF, jn_leT, jn_leF, jn_eqT, jn_eqF, jn_lt0, jn_ge0, jn_eq0T, jn_eq0F, jn_in, jn_cl]
    exact key
theorem md_weigh_t (hR : jR F A G g h) (hr : F 149 0 ≤ 5) (hc : F 149 1 ≤ 5) (hk : F 149 4 ≤ 30) {r c v : Nat} (r1 : r < F 149 0) (c1 : c < F 149 1) (v1 : v ≤ 9) (k : ∀ h', jR (jup F 149 4 (if F 149 4 = 30 then 30 else F 149 4 + 1)) (jua (jua A 152 (jkt (A 152) (F 149 4) (F 149 0) (F 149 1) (A 150) (A 151))) 151 (upd (A 151) (5 * r + c) (nI v))) G g h' → jD h h' → Q [.int (A 151 (5 * r + c))] h') : jx_Go jxP (d + 2) 142 0 [.ref 149, .int (nI r), .int (nI c), .int (nI v), jx_u] [] h Q := by
  simp (disch := omega) only [s142_0, s142_1, s142_2, s142_3, Option.some.injEq, exists_eq_left', exists_eq_left, List.cons_append, List.nil_append, List.length_nil, List.length_cons, Nat.reduceAdd, Nat.reduceMul, Nat.reduceSub, Nat.reduceLeDiff, true_and, and_true, ↓reduceIte, not_false_eq_true, not_true_eq_false, nI_add, pk_mul, jn_ltT, jn_ltF, jn_leT, jn_leF, jn_eqT, jn_eqF, jn_lt0, jn_ge0, jn_eq0T, jn_eq0F, jn_in, jn_cl, jc_of_149 hR, md_isPlace hR, jbel_n]
  simp (disch := omega) only [s142_6, s142_9, s142_10, s142_13, s142_14, s142_16, s142_19, s142_20, s142_21, s142_24, s142_25, s142_26, Option.some.injEq, exists_eq_left', exists_eq_left, List.cons_append, List.nil_append, List.length_nil, List.length_cons, Nat.reduceAdd, Nat.reduceMul, Nat.reduceSub, Nat.reduceLeDiff, true_and, and_true, ↓reduceIte, not_false_eq_true, not_true_eq_false, nI_add, pk_mul, jn_ltT, jn_ltF, jn_leT, jn_leF, jn_eqT, jn_eqF, jn_lt0, jn_ge0, jn_eq0T, jn_eq0F, jn_in, jn_cl, jc_of_149 hR]
  refine md_keepTask hR hr hc hk (fun h1 hR1 hD1 => ?_)
  have e1 : jua A 152 (jkt (A 152) (F 149 4) (F 149 0) (F 149 1) (A 150) (A 151)) 151 = A 151 := by simp [jua]
  simp (disch := omega) only [s142_29, s142_30, s142_33, s142_34, s142_35, s142_36, s142_37, s142_38, s142_39, s142_41, s142_42, s142_45, s142_46, s142_47, s142_48, s142_49, s142_50, s142_51, s142_52, s142_54, Option.some.injEq, exists_eq_left', exists_eq_left, List.cons_append, List.nil_append, List.length_nil, List.length_cons, Nat.reduceAdd, Nat.reduceMul, Nat.reduceSub, Nat.reduceLeDiff, true_and, and_true, ↓reduceIte, not_false_eq_true, not_true_eq_false, nI_add, pk_mul, jn_ltT, jn_ltF, jn_leT, jn_leF, jn_eqT, jn_eqF, jn_lt0, jn_ge0, jn_eq0T, jn_eq0F, jn_in, jn_cl, jh_ai_wi, jh_ai_wi_ne, jh_ai_uf, jh_fl_wi_ne, jh_fl_uf_ne, jh_fl_uf_o, jh_cl_wi_ne, jh_cl_uf, jh_al_wi_ne, jh_al_uf, jh_al_wl, jh_al_wl_ne, jh_ai_wl_ne, jh_fl_wl_ne, jh_cl_wl_ne, jh_ar_wi_ne, jh_ar_uf, jh_ar_wl_ne, jh_1_wi, jh_1_uf, jh_1_wl, jf_149_3 hR1, ja_151 hR1, e1]
  exact k _ (hR1.wi rfl) (hD1.wi (by decide))
end MD3
