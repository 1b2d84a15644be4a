/-! ===== the reference: turns and lines ===== -/
section MD5
variable {d : Nat} {F : Nat → Nat → Nat} {A : Nat → Nat → Int32} {G : Nat → Option Nat} {g : Nat → Int64} {h : jxH} {Q : List Value → jxH → Prop}
theorem md_rule_f (hR : jR F A G g h) {x : Int32} (hb : ¬ jbel x 5 = true) (k : ∀ h', jR (jup F 149 13 (F 149 13 + 1)) A G g h' → jD h h' → Q [.int (-1)] h') : jx_Go jxP (d + 1) 143 0 [.ref 149, .int x, jx_u, jx_u, jx_u, jx_u] [] h Q := by
  have key : jx_Go jxP (d + 1) 143 9 [.ref 149, .int x, jx_u, jx_u, jx_u, jx_u] [] h Q := by
    simp only [s143_9, s143_10, s143_11, s143_14, Option.some.injEq, exists_eq_left', exists_eq_left, List.cons_append, List.nil_append, List.length_nil, List.length_cons, Nat.reduceAdd, Nat.reduceMul, Nat.reduceSub, Nat.reduceLeDiff, true_and, and_true, ↓reduceIte, not_false_eq_true, not_true_eq_false, nI_add, pk_mul, jn_ltT, jn_ltF, jn_leT, jn_leF, jn_eqT, jn_eqF, jn_lt0, jn_ge0, jn_eq0T, jn_eq0F, jn_in, jn_cl, jc_of_149 hR]
    exact md_finding hR (fun h' hR' hD' => by simp only [s143_14, Option.some.injEq, exists_eq_left', exists_eq_left, List.cons_append, List.nil_append, List.length_nil, List.length_cons, Nat.reduceAdd, Nat.reduceMul, Nat.reduceSub, Nat.reduceLeDiff, true_and, and_true, ↓reduceIte, not_false_eq_true, not_true_eq_false, nI_add, pk_mul, jn_ltT, jn_ltF, jn_leT, jn_leF, jn_eqT, jn_eqF, jn_lt0, jn_ge0, jn_eq0T, jn_eq0F, jn_in, jn_cl]; exact k h' hR' hD')
  simp only [s143_0, s143_1, s143_4, s143_5, s143_6, Option.some.injEq, exists_eq_left', exists_eq_left, List.cons_append, List.nil_append, List.length_nil, List.length_cons, Nat.reduceAdd, Nat.reduceMul, Nat.reduceSub, Nat.reduceLeDiff, true_and, and_true, ↓reduceIte, not_false_eq_true, not_true_eq_false, nI_add, pk_mul, jn_ltT, jn_ltF, jn_leT, jn_leF, jn_eqT, jn_eqF, jn_lt0, jn_ge0, jn_eq0T, jn_eq0F, jn_in, jn_cl]
  by_cases b : x < 0
  · rw [if_pos b]; exact key
  · rw [if_neg b]
    have : ¬ x ≤ nI 4 := fun q => hb (by rw [jle_bel (by omega)] at q; simp [jbel, b, q])
    rw [if_neg this]; exact key
/-- swapped so far: the pairs below the line that stand before (i, j) -/
def jtrn (f f' : Nat → Int32) (i j : Nat) : Prop := ∀ a b, a < 5 → b < 5 → f' (5 * a + b) = if (b < a ∧ (a < i ∨ (a = i ∧ b < j))) ∨ (a < b ∧ (b < i ∨ (b = i ∧ a < j))) then f (5 * b + a) else f (5 * a + b)
theorem jtrn_s {f f' : Nat → Int32} {i j : Nat} (hi : i < 5) (hj : j < i) (t : jtrn f f' i j) : jtrn f (upd (upd f' (5 * i + j) (f' (5 * j + i))) (5 * j + i) (f' (5 * i + j))) i (j + 1) := by
  intro a b ha hb
  have t1 := t i j hi (by omega)
  have t2 := t j i (by omega) hi
  rw [if_neg (by omega)] at t1 t2
  by_cases e1 : 5 * a + b = 5 * j + i
  · have ea : a = j := by omega
    have eb : b = i := by omega
    subst ea; subst eb
    simp only [upd, if_true]
    rw [if_pos (Or.inr ⟨hj, Or.inr ⟨trivial, Nat.lt_succ_self _⟩⟩), t1]
  · by_cases e2 : 5 * a + b = 5 * i + j
    · have ea : a = i := by omega
      have eb : b = j := by omega
      subst ea; subst eb
      simp only [upd, if_neg e1, if_true]
      rw [if_pos (Or.inl ⟨hj, Or.inr ⟨trivial, Nat.lt_succ_self _⟩⟩), t2]
    · simp only [upd, if_neg e1, if_neg e2]
      rw [t a b ha hb]
      by_cases q : (b < a ∧ (a < i ∨ (a = i ∧ b < j))) ∨ (a < b ∧ (b < i ∨ (b = i ∧ a < j)))
      · rw [if_pos q, if_pos (by omega)]
      · rw [if_neg q, if_neg (by omega)]
theorem md_turn (hR : jR F A G g h) (hr : F 149 0 ≤ 5) (hc : F 149 1 ≤ 5) (hk : F 149 4 ≤ 30) (k : ∀ h' pl wt, (∀ i j, i < 5 → j < 5 → pl (5 * i + j) = A 150 (5 * j + i)) → (∀ i j, i < 5 → j < 5 → wt (5 * i + j) = A 151 (5 * j + i)) → jR (jup (jup (jup (jup F 149 4 (if F 149 4 = 30 then 30 else F 149 4 + 1)) 149 0 (F 149 1)) 149 1 (F 149 0)) 149 14 0) (jua (jua (jua A 152 (jkt (A 152) (F 149 4) (F 149 0) (F 149 1) (A 150) (A 151))) 150 pl) 151 wt) G g h' → jD h h' → Q [.int (nI (F 149 1))] h') : jx_Go jxP (d + 2) 144 0 [.ref 149, jx_u, jx_u, jx_u] [] h Q := by
  simp (disch := omega) only [s144_0, s144_1, Option.some.injEq, exists_eq_left', exists_eq_left, List.cons_append, List.nil_append, List.length_nil, List.length_cons, Nat.reduceAdd, Nat.reduceMul, Nat.reduceSub, Nat.reduceLeDiff, true_and, and_true, ↓reduceIte, not_false_eq_true, not_true_eq_false, nI_add, pk_mul, jn_ltT, jn_ltF, jn_leT, jn_leF, jn_eqT, jn_eqF, jn_lt0, jn_ge0, jn_eq0T, jn_eq0F, jn_in, jn_cl, jc_of_149 hR]
  refine md_keepTask hR hr hc hk (fun h1 hR1 hD1 => ?_)
  have ep : jua A 152 (jkt (A 152) (F 149 4) (F 149 0) (F 149 1) (A 150) (A 151)) 150 = A 150 := by simp [jua]
  have ew : jua A 152 (jkt (A 152) (F 149 4) (F 149 0) (F 149 1) (A 150) (A 151)) 151 = A 151 := by simp [jua]
  generalize hA1 : jua A 152 (jkt (A 152) (F 149 4) (F 149 0) (F 149 1) (A 150) (A 151)) = A1 at hR1 k ep ew
  generalize hF1 : jup F 149 4 (if F 149 4 = 30 then 30 else F 149 4 + 1) = F1 at hR1 k
  have e0 : F1 149 0 = F 149 0 := by rw [← hF1]; simp [jup]
  have e1 : F1 149 1 = F 149 1 := by rw [← hF1]; simp [jup]
  simp (disch := omega) only [s144_4, s144_5, Option.some.injEq, exists_eq_left', exists_eq_left, List.cons_append, List.nil_append, List.length_nil, List.length_cons, Nat.reduceAdd, Nat.reduceMul, Nat.reduceSub, Nat.reduceLeDiff, true_and, and_true, ↓reduceIte, not_false_eq_true, not_true_eq_false, nI_add, pk_mul, jn_ltT, jn_ltF, jn_leT, jn_leF, jn_eqT, jn_eqF, jn_lt0, jn_ge0, jn_eq0T, jn_eq0F, jn_in, jn_cl]
  refine jloop (fun i => ∀ pl wt w2 w3, jtrn (A 150) pl i 0 → jtrn (A 151) wt i 0 → jx_Go jxP (d + 2) 144 6 [.ref 149, .int (nI i), w2, w3] [] (jx_wi (jx_wi h1 150 25 pl) 151 25 wt) Q) 5 ?_ ?_ 0 (Nat.zero_le _) (A1 150) (A1 151) _ _ (by rw [ep]; intro a b ha hb; rw [if_neg (by omega)]) (by rw [ew]; intro a b ha hb; rw [if_neg (by omega)]) |> fun z => by rw [jh_wi_id (ja_150 hR1), jh_wi_id (ja_151 hR1)] at z; exact z
  · intro pl wt w2 w3 hp hw
    have fin : ∀ (f f' : Nat → Int32), jtrn f f' 5 0 → ∀ i j, i < 5 → j < 5 → f' (5 * i + j) = f (5 * j + i) := by
      intro f f' t i j hi hj
      rw [t i j hi hj]
      by_cases e : i = j
      · subst e; rw [if_neg (by omega)]
      · rw [if_pos (by omega)]
    rw [s144_6]
    simp (disch := omega) only [s144_7, s144_8, s144_11, s144_12, s144_14, s144_15, s144_18, s144_19, s144_22, s144_23, s144_24, s144_25, s144_26, s144_27, s144_28, s144_29, s144_30, s144_33, s144_34, s144_35, s144_36, s144_37, s144_38, s144_39, s144_42, s144_43, s144_44, s144_45, s144_46, s144_47, s144_48, s144_49, s144_50, s144_53, s144_54, s144_55, s144_56, s144_57, s144_58, s144_59, s144_60, s144_61, s144_64, s144_65, s144_66, s144_67, s144_68, s144_69, s144_70, s144_71, s144_72, s144_75, s144_76, s144_77, s144_78, s144_79, s144_80, s144_81, s144_84, s144_85, s144_86, s144_87, s144_88, s144_89, s144_90, s144_91, s144_92, s144_95, s144_96, s144_97, s144_98, s144_99, s144_100, s144_101, s144_102, s144_105, s144_108, s144_111, s144_114, s144_115, s144_118, s144_119, s144_120, s144_121, s144_124, s144_127, s144_128, s144_129, s144_132, s144_133, s144_134, Option.some.injEq, exists_eq_left', exists_eq_left, List.cons_append, List.nil_append, List.length_nil, List.length_cons, Nat.reduceAdd, Nat.reduceMul, Nat.reduceSub, Nat.reduceLeDiff, true_and, and_true, ↓reduceIte, not_false_eq_true, not_true_eq_false, nI_add, pk_mul, jn_ltT, jn_ltF, jn_leT, jn_leF, jn_eqT, jn_eqF, jn_lt0, jn_ge0, jn_eq0T, jn_eq0F, jn_in, jn_cl, jh_ai_wi, jh_ai_wi_ne, jh_ai_uf, jh_fl_wi_ne, jh_fl_uf_ne, jh_fl_uf_o, jh_cl_wi_ne, jh_cl_uf, jh_al_wi_ne, jh_al_uf, jh_al_wl, jh_al_wl_ne, jh_ai_wl_ne, jh_fl_wl_ne, jh_cl_wl_ne, jh_ar_wi_ne, jh_ar_uf, jh_ar_wl_ne, jh_1_wi, jh_1_uf, jh_1_wl, jf_149_0 hR1, jf_149_1 hR1, jf_149_14 hR1, e0, e1]
    have hR2 := ((hR1.wi (a := 150) (n := 25) (f := pl) rfl).wi (a := 151) (n := 25) (f := wt) rfl)
    have hR3 := ((hR2.uf (o := 149) (k := 0) (c := 12) (v := F 149 1) rfl rfl).uf (o := 149) (k := 1) (c := 12) (v := F 149 0) rfl rfl).uf (o := 149) (k := 14) (c := 12) (v := 0) rfl rfl
    have e9 : jup (jup (jup F1 149 0 (F 149 1)) 149 1 (F 149 0)) 149 14 0 149 0 = F 149 1 := by simp [jup]
    generalize hh3 : jx_uf (jx_uf (jx_uf (jx_wi (jx_wi h1 150 25 pl) 151 25 wt) 149 0 (.int (nI (F 149 1)))) 149 1 (.int (nI (F 149 0)))) 149 14 (.int (nI 0)) = h3 at hR3 ⊢
    simp (disch := omega) only [s144_137, s144_138, s144_141, Option.some.injEq, exists_eq_left', exists_eq_left, List.cons_append, List.nil_append, List.length_nil, List.length_cons, Nat.reduceAdd, Nat.reduceMul, Nat.reduceSub, Nat.reduceLeDiff, true_and, and_true, ↓reduceIte, not_false_eq_true, not_true_eq_false, nI_add, pk_mul, jn_ltT, jn_ltF, jn_leT, jn_leF, jn_eqT, jn_eqF, jn_lt0, jn_ge0, jn_eq0T, jn_eq0F, jn_in, jn_cl, jf_149_0 hR3, e9]
    refine k _ pl wt (fin _ _ hp) (fin _ _ hw) hR3 ?_
    rw [← hh3]
    exact ((((hD1.wi (by decide)).wi (by decide)).uf (by decide)).uf (by decide)).uf (by decide)
  · intro i hi ih pl wt w2 w3 hp hw
    rw [s144_6]
    simp (disch := omega) only [s144_7, s144_8, s144_11, s144_12, Option.some.injEq, exists_eq_left', exists_eq_left, List.cons_append, List.nil_append, List.length_nil, List.length_cons, Nat.reduceAdd, Nat.reduceMul, Nat.reduceSub, Nat.reduceLeDiff, true_and, and_true, ↓reduceIte, not_false_eq_true, not_true_eq_false, nI_add, pk_mul, jn_ltT, jn_ltF, jn_leT, jn_leF, jn_eqT, jn_eqF, jn_lt0, jn_ge0, jn_eq0T, jn_eq0F, jn_in, jn_cl]
    refine jloop (fun j => ∀ pl wt w3, jtrn (A 150) pl i j → jtrn (A 151) wt i j → jx_Go jxP (d + 2) 144 13 [.ref 149, .int (nI i), .int (nI j), w3] [] (jx_wi (jx_wi h1 150 25 pl) 151 25 wt) Q) i ?_ ?_ 0 (Nat.zero_le _) pl wt w3 hp hw
    · intro pl wt w3 hp hw
      rw [s144_13]
      simp (disch := omega) only [s144_14, s144_15, s144_18, s144_19, s144_22, s144_23, s144_24, s144_25, s144_26, s144_27, s144_28, s144_29, s144_30, s144_33, s144_34, s144_35, s144_36, s144_37, s144_38, s144_39, s144_42, s144_43, s144_44, s144_45, s144_46, s144_47, s144_48, s144_49, s144_50, s144_53, s144_54, s144_55, s144_56, s144_57, s144_58, s144_59, s144_60, s144_61, s144_64, s144_65, s144_66, s144_67, s144_68, s144_69, s144_70, s144_71, s144_72, s144_75, s144_76, s144_77, s144_78, s144_79, s144_80, s144_81, s144_84, s144_85, s144_86, s144_87, s144_88, s144_89, s144_90, s144_91, s144_92, s144_95, s144_96, s144_97, s144_98, s144_99, s144_100, s144_101, s144_102, s144_105, s144_108, s144_111, Option.some.injEq, exists_eq_left', exists_eq_left, List.cons_append, List.nil_append, List.length_nil, List.length_cons, Nat.reduceAdd, Nat.reduceMul, Nat.reduceSub, Nat.reduceLeDiff, true_and, and_true, ↓reduceIte, not_false_eq_true, not_true_eq_false, nI_add, pk_mul, jn_ltT, jn_ltF, jn_leT, jn_leF, jn_eqT, jn_eqF, jn_lt0, jn_ge0, jn_eq0T, jn_eq0F, jn_in, jn_cl]
      have nx : ∀ (f f' : Nat → Int32), jtrn f f' i i → jtrn f f' (i + 1) 0 := by
        intro f f' t a b ha hb
        rw [t a b ha hb]
        by_cases q : (b < a ∧ (a < i ∨ (a = i ∧ b < i))) ∨ (a < b ∧ (b < i ∨ (b = i ∧ a < i)))
        · rw [if_pos q, if_pos (by omega)]
        · rw [if_neg q, if_neg (by omega)]
      exact ih pl wt _ _ (nx _ _ hp) (nx _ _ hw)
    · intro j hj ih2 pl wt w3 hp hw
      rw [s144_13]
      simp (disch := omega) only [s144_14, s144_15, s144_18, s144_19, s144_22, s144_23, s144_24, s144_25, s144_26, s144_27, s144_28, s144_29, s144_30, s144_33, s144_34, s144_35, s144_36, s144_37, s144_38, s144_39, s144_42, s144_43, s144_44, s144_45, s144_46, s144_47, s144_48, s144_49, s144_50, s144_53, s144_54, s144_55, s144_56, s144_57, s144_58, s144_59, s144_60, s144_61, s144_64, s144_65, s144_66, s144_67, s144_68, s144_69, s144_70, s144_71, s144_72, s144_75, s144_76, s144_77, s144_78, s144_79, s144_80, s144_81, s144_84, s144_85, s144_86, s144_87, s144_88, s144_89, s144_90, s144_91, s144_92, s144_95, s144_96, s144_97, s144_98, s144_99, s144_100, s144_101, s144_102, s144_105, s144_108, s144_111, Option.some.injEq, exists_eq_left', exists_eq_left, List.cons_append, List.nil_append, List.length_nil, List.length_cons, Nat.reduceAdd, Nat.reduceMul, Nat.reduceSub, Nat.reduceLeDiff, true_and, and_true, ↓reduceIte, not_false_eq_true, not_true_eq_false, nI_add, pk_mul, jn_ltT, jn_ltF, jn_leT, jn_leF, jn_eqT, jn_eqF, jn_lt0, jn_ge0, jn_eq0T, jn_eq0F, jn_in, jn_cl, jh_ai_wi, jh_ai_wi_ne, jh_ai_uf, jh_fl_wi_ne, jh_fl_uf_ne, jh_fl_uf_o, jh_cl_wi_ne, jh_cl_uf, jh_al_wi_ne, jh_al_uf, jh_al_wl, jh_al_wl_ne, jh_ai_wl_ne, jh_fl_wl_ne, jh_cl_wl_ne, jh_ar_wi_ne, jh_ar_uf, jh_ar_wl_ne, jh_1_wi, jh_1_uf, jh_1_wl, jf_149_2 hR1, jf_149_3 hR1, jh_wi_wi]
      have n1 : ¬ 5 * j + i = 5 * i + j := by omega
      have u1 : ∀ (f : Nat → Int32) (x : Int32), upd f (5 * i + j) x (5 * j + i) = f (5 * j + i) := fun f x => by simp only [upd, if_neg n1]
      try rw [jh_wi_c (a := 150) (b := 151) (by decide)]
      simp only [jh_wi_wi]
      exact ih2 _ _ _ (jtrn_s hi hj hp) (jtrn_s hi hj hw)
theorem md_turnAnswers (hR : jR F A G g h) (hr : F 149 0 ≤ 5) (hc : F 149 1 ≤ 5) (hk : F 149 4 ≤ 30) (k : ∀ h' pl, (∀ j, j < 25 → pl j = if A 150 j = nI 2 then nI 2 else nI 1 - A 150 j) → jR (jup (jup F 149 4 (if F 149 4 = 30 then 30 else F 149 4 + 1)) 149 14 0) (jua (jua A 152 (jkt (A 152) (F 149 4) (F 149 0) (F 149 1) (A 150) (A 151))) 150 pl) G g h' → jD h h' → Q [.int (nI (jsum (F 149 0) fun r => jsum (F 149 1) fun c => if pl (5 * r + c) = nI 1 then 1 else 0))] h') : jx_Go jxP (d + 2) 145 0 [.ref 149, jx_u] [] h Q := by
  simp (disch := omega) only [s145_0, s145_1, Option.some.injEq, exists_eq_left', exists_eq_left, List.cons_append, List.nil_append, List.length_nil, List.length_cons, Nat.reduceAdd, Nat.reduceMul, Nat.reduceSub, Nat.reduceLeDiff, true_and, and_true, ↓reduceIte, not_false_eq_true, not_true_eq_false, nI_add, pk_mul, jn_ltT, jn_ltF, jn_leT, jn_leF, jn_eqT, jn_eqF, jn_lt0, jn_ge0, jn_eq0T, jn_eq0F, jn_in, jn_cl, jc_of_149 hR]
  refine md_keepTask hR hr hc hk (fun h1 hR1 hD1 => ?_)
  have ep : jua A 152 (jkt (A 152) (F 149 4) (F 149 0) (F 149 1) (A 150) (A 151)) 150 = A 150 := by simp [jua]
  generalize hA1 : jua A 152 (jkt (A 152) (F 149 4) (F 149 0) (F 149 1) (A 150) (A 151)) = A1 at hR1 k ep
  generalize hF1 : jup F 149 4 (if F 149 4 = 30 then 30 else F 149 4 + 1) = F1 at hR1 k
  have e0 : F1 149 0 = F 149 0 := by rw [← hF1]; simp [jup]
  have e1 : F1 149 1 = F 149 1 := by rw [← hF1]; simp [jup]
  simp (disch := omega) only [s145_4, s145_5, Option.some.injEq, exists_eq_left', exists_eq_left, List.cons_append, List.nil_append, List.length_nil, List.length_cons, Nat.reduceAdd, Nat.reduceMul, Nat.reduceSub, Nat.reduceLeDiff, true_and, and_true, ↓reduceIte, not_false_eq_true, not_true_eq_false, nI_add, pk_mul, jn_ltT, jn_ltF, jn_leT, jn_leF, jn_eqT, jn_eqF, jn_lt0, jn_ge0, jn_eq0T, jn_eq0F, jn_in, jn_cl]
  refine jloop (fun i => ∀ pl, (∀ j, j < 25 → pl j = if j < i then (if A 150 j = nI 2 then nI 2 else nI 1 - A 150 j) else A 150 j) → jx_Go jxP (d + 2) 145 6 [.ref 149, .int (nI i)] [] (jx_wi h1 150 25 pl) Q) 25 ?_ ?_ 0 (Nat.zero_le _) (A1 150) (by intro j hj; rw [ep]; simp) |> fun z => by rw [jh_wi_id (ja_150 hR1)] at z; exact z
  · intro pl hp
    rw [s145_6]
    simp (disch := omega) only [s145_7, s145_9, s145_12, s145_13, s145_16, s145_17, s145_18, s145_21, s145_22, s145_23, s145_24, s145_27, s145_28, s145_31, s145_32, s145_33, s145_36, s145_37, s145_38, s145_39, s145_40, s145_43, s145_46, s145_47, s145_48, s145_51, s145_52, s145_53, Option.some.injEq, exists_eq_left', exists_eq_left, List.cons_append, List.nil_append, List.length_nil, List.length_cons, Nat.reduceAdd, Nat.reduceMul, Nat.reduceSub, Nat.reduceLeDiff, true_and, and_true, ↓reduceIte, not_false_eq_true, not_true_eq_false, nI_add, pk_mul, jn_ltT, jn_ltF, jn_leT, jn_leF, jn_eqT, jn_eqF, jn_lt0, jn_ge0, jn_eq0T, jn_eq0F, jn_in, jn_cl, jh_ai_wi, jh_ai_wi_ne, jh_ai_uf, jh_fl_wi_ne, jh_fl_uf_ne, jh_fl_uf_o, jh_cl_wi_ne, jh_cl_uf, jh_al_wi_ne, jh_al_uf, jh_al_wl, jh_al_wl_ne, jh_ai_wl_ne, jh_fl_wl_ne, jh_cl_wl_ne, jh_ar_wi_ne, jh_ar_uf, jh_ar_wl_ne, jh_1_wi, jh_1_uf, jh_1_wl, jf_149_14 hR1, jc_of_149 hR1]
    have hR2 : jR (jup F1 149 14 0) (jua A1 150 pl) G g (jx_uf (jx_wi h1 150 25 pl) 149 14 (.int (nI 0))) := (hR1.wi rfl).uf rfl rfl
    refine md_ones (R := F 149 0) (C := F 149 1) (pl := 150) (f := pl) ?_ ?_ ?_ ?_ hr hc ?_
    · rw [jf_149_0 hR2, ← e0]; simp [jup]
    · rw [jf_149_1 hR2, ← e1]; simp [jup]
    · exact jf_149_2 hR2
    · rw [ja_150 hR2]; simp [jua]
    · simp only [s145_56, Option.some.injEq, exists_eq_left', exists_eq_left, List.cons_append, List.nil_append, List.length_nil, List.length_cons, Nat.reduceAdd, Nat.reduceMul, Nat.reduceSub, Nat.reduceLeDiff, true_and, and_true, ↓reduceIte, not_false_eq_true, not_true_eq_false, nI_add, pk_mul, jn_ltT, jn_ltF, jn_leT, jn_leF, jn_eqT, jn_eqF, jn_lt0, jn_ge0, jn_eq0T, jn_eq0F, jn_in, jn_cl]
      exact k _ pl (fun j hj => by rw [hp j hj, if_pos hj]) hR2 ((hD1.wi (by decide)).uf (by decide))
  · intro i hi ih pl hp
    have ei : pl i = A 150 i := by rw [hp i hi, if_neg (by omega)]
    have fin : ∀ v, v = (if A 150 i = nI 2 then nI 2 else nI 1 - A 150 i) → jx_Go jxP (d + 2) 145 6 [.ref 149, .int (nI (i + 1))] [] (jx_wi h1 150 25 (upd pl i v)) Q := by
      intro v hv
      refine ih _ (fun j hj => ?_)
      by_cases e : j = i
      · subst e
        rw [if_pos (show j < j + 1 by omega)]
        simp only [upd, if_true, hv]
      · simp only [upd, if_neg e]
        rw [hp j hj]
        by_cases q : j < i
        · rw [if_pos q, if_pos (show j < i + 1 by omega)]
        · rw [if_neg q, if_neg (show ¬ j < i + 1 by omega)]
    rw [s145_6]
    simp (disch := omega) only [s145_7, s145_9, s145_12, s145_13, s145_16, s145_17, s145_18, s145_21, s145_22, s145_23, s145_24, s145_27, s145_28, s145_31, s145_32, s145_33, s145_36, s145_37, s145_38, s145_39, s145_40, s145_43, s145_46, s145_47, s145_48, s145_51, s145_52, s145_53, Option.some.injEq, exists_eq_left', exists_eq_left, List.cons_append, List.nil_append, List.length_nil, List.length_cons, Nat.reduceAdd, Nat.reduceMul, Nat.reduceSub, Nat.reduceLeDiff, true_and, and_true, ↓reduceIte, not_false_eq_true, not_true_eq_false, nI_add, pk_mul, jn_ltT, jn_ltF, jn_leT, jn_leF, jn_eqT, jn_eqF, jn_lt0, jn_ge0, jn_eq0T, jn_eq0F, jn_in, jn_cl, jh_ai_wi, jh_ai_wi_ne, jh_ai_uf, jh_fl_wi_ne, jh_fl_uf_ne, jh_fl_uf_o, jh_cl_wi_ne, jh_cl_uf, jh_al_wi_ne, jh_al_uf, jh_al_wl, jh_al_wl_ne, jh_ai_wl_ne, jh_fl_wl_ne, jh_cl_wl_ne, jh_ar_wi_ne, jh_ar_uf, jh_ar_wl_ne, jh_1_wi, jh_1_uf, jh_1_wl, jf_149_2 hR1, jh_wi_wi, ei]
    by_cases q : A 150 i = nI 2
    · rw [if_pos q]; exact fin _ (by rw [if_pos q])
    · rw [if_neg q]; exact fin _ (by rw [if_neg q])
theorem md_at (hR : jR F A G g h) {b l k' : Nat} (hb : b ≤ 1) (hl : l < 5) (hk : k' < 5) : jx_Go jxP d 146 0 [.ref 149, .int (nI b), .int (nI l), .int (nI k')] [] h Q ↔ Q [.int (A 150 (if b = 0 then 5 * l + k' else 5 * k' + l))] h := by
  rcases (show b = 0 ∨ b = 1 by omega) with rfl | rfl
  · simp (disch := omega) only [s146_0, s146_1, s146_4, s146_5, s146_8, s146_9, s146_10, s146_11, s146_12, s146_13, s146_14, s146_17, s146_18, s146_21, s146_22, s146_23, s146_24, s146_25, s146_26, s146_27, Option.some.injEq, exists_eq_left', exists_eq_left, List.cons_append, List.nil_append, List.length_nil, List.length_cons, Nat.reduceAdd, Nat.reduceMul, Nat.reduceSub, Nat.reduceLeDiff, true_and, and_true, ↓reduceIte, not_false_eq_true, not_true_eq_false, nI_add, pk_mul, jn_ltT, jn_ltF, jn_leT, jn_leF, jn_eqT, jn_eqF, jn_lt0, jn_ge0, jn_eq0T, jn_eq0F, jn_in, jn_cl, jf_149_2 hR, ja_150 hR]
  · simp (disch := omega) only [s146_0, s146_1, s146_4, s146_5, s146_8, s146_9, s146_10, s146_11, s146_12, s146_13, s146_14, s146_17, s146_18, s146_21, s146_22, s146_23, s146_24, s146_25, s146_26, s146_27, Option.some.injEq, exists_eq_left', exists_eq_left, List.cons_append, List.nil_append, List.length_nil, List.length_cons, Nat.reduceAdd, Nat.reduceMul, Nat.reduceSub, Nat.reduceLeDiff, true_and, and_true, ↓reduceIte, not_false_eq_true, not_true_eq_false, nI_add, pk_mul, jn_ltT, jn_ltF, jn_leT, jn_leF, jn_eqT, jn_eqF, jn_lt0, jn_ge0, jn_eq0T, jn_eq0F, jn_in, jn_cl, jf_149_2 hR, ja_150 hR]
    simp
/-- all below n -/
def jall (n : Nat) (f : Nat → Bool) : Bool := match n with
  | 0 => true
  | n + 1 => jall n f && f n
theorem jall_s {n : Nat} {f : Nat → Bool} : jall (n + 1) f = (jall n f && f n) := rfl
theorem jall_iff {n : Nat} {f : Nat → Bool} : jall n f = true ↔ ∀ i, i < n → f i = true := by
  induction n with
  | zero => simp [jall]
  | succ n ih =>
    rw [jall_s, Bool.and_eq_true, ih]
    constructor
    · rintro ⟨a, b⟩ i hi
      by_cases e : i = n
      · subst e; exact b
      · exact a i (by omega)
    · intro a
      exact ⟨fun i hi => a i (by omega), a n (by omega)⟩
theorem jall_congr {n : Nat} {f f' : Nat → Bool} (e : ∀ i, i < n → f i = f' i) : jall n f = jall n f' := by
  induction n with
  | zero => rfl
  | succ n ih => rw [jall_s, jall_s, ih (fun i hi => e i (by omega)), e n (by omega)]
theorem jsum_congr {n : Nat} {f f' : Nat → Nat} (e : ∀ i, i < n → f i = f' i) : jsum n f = jsum n f' := by
  induction n with
  | zero => rfl
  | succ n ih => rw [jsum_s, jsum_s, ih (fun i hi => e i (by omega)), e n (by omega)]
theorem jb_and (a b : Bool) : nI a.toNat &&& nI b.toNat = nI (a && b).toNat := by cases a <;> cases b <;> decide
theorem jb_le (a : Bool) : a.toNat ≤ 1 := by cases a <;> decide
theorem jb_and1 (a : Bool) : nI a.toNat &&& nI 1 = nI a.toNat := by cases a <;> decide
theorem jb_and0 (a : Bool) : nI a.toNat &&& nI 0 = nI 0 := by cases a <;> decide
/-- unlike lines -/
def junl (f : Nat → Int32) (R C b : Nat) : Nat := jsum (if b = 0 then R else C) fun a => if jall a (fun e => !jall (if b = 0 then C else R) (fun k => f (if b = 0 then 5 * a + k else 5 * k + a) == f (if b = 0 then 5 * e + k else 5 * k + e))) = true then 1 else 0
theorem md_unlike (hR : jR F A G g h) (hr : F 149 0 ≤ 5) (hc : F 149 1 ≤ 5) {b : Nat} (hb : b ≤ 1) (k : Q [.int (nI (junl (A 150) (F 149 0) (F 149 1) b))] h) : jx_Go jxP (d + 1) 147 0 [.ref 149, .int (nI b), jx_u, jx_u, jx_u, jx_u, jx_u, jx_u, jx_u] [] h Q := by
  have st : ∀ n m, n = (if b = 0 then F 149 0 else F 149 1) → m = (if b = 0 then F 149 1 else F 149 0) → n ≤ 5 → m ≤ 5 → jx_Go jxP (d + 1) 147 16 [.ref 149, .int (nI b), .int (nI n), jx_u, jx_u, jx_u, jx_u, jx_u, jx_u] [] h Q := by
    intro n m hn hm n5 m5
    simp (disch := omega) only [s147_16, s147_17, s147_18, s147_19, Option.some.injEq, exists_eq_left', exists_eq_left, List.cons_append, List.nil_append, List.length_nil, List.length_cons, Nat.reduceAdd, Nat.reduceMul, Nat.reduceSub, Nat.reduceLeDiff, true_and, and_true, ↓reduceIte, not_false_eq_true, not_true_eq_false, nI_add, pk_mul, jn_ltT, jn_ltF, jn_leT, jn_leF, jn_eqT, jn_eqF, jn_lt0, jn_ge0, jn_eq0T, jn_eq0F, jn_in, jn_cl]
    refine jloop (fun a => ∀ w5 w6 w7 w8, jx_Go jxP (d + 1) 147 21 [.ref 149, .int (nI b), .int (nI n), .int (nI (jsum a fun a => if jall a (fun e => !jall m (fun k => A 150 (if b = 0 then 5 * a + k else 5 * k + a) == A 150 (if b = 0 then 5 * e + k else 5 * k + e))) = true then 1 else 0)), .int (nI a), w5, w6, w7, w8] [] h Q) n ?_ ?_ 0 (Nat.zero_le _) _ _ _ _
    · intro w5 w6 w7 w8
      rw [s147_21]
      simp (disch := omega) only [s147_23, s147_24, s147_27, s147_28, s147_30, s147_31, s147_35, s147_37, s147_40, s147_41, s147_43, s147_44, s147_48, s147_49, s147_52, s147_53, s147_56, s147_59, s147_60, s147_63, s147_66, s147_68, s147_69, s147_70, s147_72, s147_74, s147_77, s147_78, s147_79, s147_81, s147_83, s147_86, s147_89, s147_90, s147_93, s147_94, s147_95, s147_97, s147_100, s147_103, s147_105, s147_107, s147_110, s147_111, s147_114, s147_115, s147_116, s147_118, s147_121, s147_124, s147_125, s147_127, s147_130, s147_131, s147_134, s147_135, s147_136, s147_137, s147_140, s147_143, s147_144, Option.some.injEq, exists_eq_left', exists_eq_left, List.cons_append, List.nil_append, List.length_nil, List.length_cons, Nat.reduceAdd, Nat.reduceMul, Nat.reduceSub, Nat.reduceLeDiff, true_and, and_true, ↓reduceIte, not_false_eq_true, not_true_eq_false, nI_add, pk_mul, jn_ltT, jn_ltF, jn_leT, jn_leF, jn_eqT, jn_eqF, jn_lt0, jn_ge0, jn_eq0T, jn_eq0F, jn_in, jn_cl]
      rw [junl, ← hn, ← hm] at k
      exact k
    · intro a ha ih w5 w6 w7 w8
      rw [s147_21]
      simp (disch := omega) only [s147_23, s147_24, s147_27, s147_28, s147_30, s147_31, Option.some.injEq, exists_eq_left', exists_eq_left, List.cons_append, List.nil_append, List.length_nil, List.length_cons, Nat.reduceAdd, Nat.reduceMul, Nat.reduceSub, Nat.reduceLeDiff, true_and, and_true, ↓reduceIte, not_false_eq_true, not_true_eq_false, nI_add, pk_mul, jn_ltT, jn_ltF, jn_leT, jn_leF, jn_eqT, jn_eqF, jn_lt0, jn_ge0, jn_eq0T, jn_eq0F, jn_in, jn_cl]
      refine jloop (fun e => ∀ w7 w8, jx_Go jxP (d + 1) 147 33 [.ref 149, .int (nI b), .int (nI n), .int (nI (jsum a fun a => if jall a (fun e => !jall m (fun k => A 150 (if b = 0 then 5 * a + k else 5 * k + a) == A 150 (if b = 0 then 5 * e + k else 5 * k + e))) = true then 1 else 0)), .int (nI a), .int (nI (jall e (fun e => !jall m (fun k => A 150 (if b = 0 then 5 * a + k else 5 * k + a) == A 150 (if b = 0 then 5 * e + k else 5 * k + e)))).toNat), .int (nI e), w7, w8] [] h Q) a ?_ ?_ 0 (Nat.zero_le _) w7 w8
      · intro w7 w8
        rw [s147_33]
        have ih' := ih
        rw [jsum_s] at ih'
        cases hb9 : jall a (fun e => !jall m (fun k => A 150 (if b = 0 then 5 * a + k else 5 * k + a) == A 150 (if b = 0 then 5 * e + k else 5 * k + e)))
        · simp (disch := omega) only [s147_35, s147_37, s147_40, s147_41, s147_43, s147_44, s147_48, s147_49, s147_52, s147_53, s147_56, s147_59, s147_60, s147_63, s147_66, s147_68, s147_69, s147_70, s147_72, s147_74, s147_77, s147_78, s147_79, s147_81, s147_83, s147_86, s147_89, s147_90, s147_93, s147_94, s147_95, s147_97, s147_100, s147_103, s147_105, s147_107, s147_110, s147_111, s147_114, s147_115, s147_116, s147_118, s147_121, s147_124, s147_125, s147_127, s147_130, s147_131, s147_134, s147_135, s147_136, s147_137, s147_140, Option.some.injEq, exists_eq_left', exists_eq_left, List.cons_append, List.nil_append, List.length_nil, List.length_cons, Nat.reduceAdd, Nat.reduceMul, Nat.reduceSub, Nat.reduceLeDiff, true_and, and_true, ↓reduceIte, not_false_eq_true, not_true_eq_false, nI_add, pk_mul, jn_ltT, jn_ltF, jn_leT, jn_leF, jn_eqT, jn_eqF, jn_lt0, jn_ge0, jn_eq0T, jn_eq0F, jn_in, jn_cl, Bool.toNat_false]
          simp only [hb9] at ih'
          exact ih' _ _ _ _
        · simp (disch := omega) only [s147_35, s147_37, s147_40, s147_41, s147_43, s147_44, s147_48, s147_49, s147_52, s147_53, s147_56, s147_59, s147_60, s147_63, s147_66, s147_68, s147_69, s147_70, s147_72, s147_74, s147_77, s147_78, s147_79, s147_81, s147_83, s147_86, s147_89, s147_90, s147_93, s147_94, s147_95, s147_97, s147_100, s147_103, s147_105, s147_107, s147_110, s147_111, s147_114, s147_115, s147_116, s147_118, s147_121, s147_124, s147_125, s147_127, s147_130, s147_131, s147_134, s147_135, s147_136, s147_137, s147_140, Option.some.injEq, exists_eq_left', exists_eq_left, List.cons_append, List.nil_append, List.length_nil, List.length_cons, Nat.reduceAdd, Nat.reduceMul, Nat.reduceSub, Nat.reduceLeDiff, true_and, and_true, ↓reduceIte, not_false_eq_true, not_true_eq_false, nI_add, pk_mul, jn_ltT, jn_ltF, jn_leT, jn_leF, jn_eqT, jn_eqF, jn_lt0, jn_ge0, jn_eq0T, jn_eq0F, jn_in, jn_cl, Bool.toNat_true]
          simp only [hb9] at ih'
          exact ih' _ _ _ _
      · intro e he ih2 w7 w8
        rw [s147_33]
        simp (disch := omega) only [s147_35, s147_37, s147_40, s147_41, s147_43, s147_44, Option.some.injEq, exists_eq_left', exists_eq_left, List.cons_append, List.nil_append, List.length_nil, List.length_cons, Nat.reduceAdd, Nat.reduceMul, Nat.reduceSub, Nat.reduceLeDiff, true_and, and_true, ↓reduceIte, not_false_eq_true, not_true_eq_false, nI_add, pk_mul, jn_ltT, jn_ltF, jn_leT, jn_leF, jn_eqT, jn_eqF, jn_lt0, jn_ge0, jn_eq0T, jn_eq0F, jn_in, jn_cl]
        generalize (jsum a fun a => if jall a (fun e => !jall m (fun k => A 150 (if b = 0 then 5 * a + k else 5 * k + a) == A 150 (if b = 0 then 5 * e + k else 5 * k + e))) = true then 1 else 0) = n3 at ih2 ⊢
        rw [jall_s] at ih2
        generalize jall e (fun e => !jall m (fun k => A 150 (if b = 0 then 5 * a + k else 5 * k + a) == A 150 (if b = 0 then 5 * e + k else 5 * k + e))) = B5 at ih2 ⊢
        refine jloop (fun k => jx_Go jxP (d + 1) 147 46 [.ref 149, .int (nI b), .int (nI n), .int (nI n3), .int (nI a), .int (nI B5.toNat), .int (nI e), .int (nI (jall k (fun k => A 150 (if b = 0 then 5 * a + k else 5 * k + a) == A 150 (if b = 0 then 5 * e + k else 5 * k + e))).toNat), .int (nI k)] [] h Q) m ?_ ?_ 0 (Nat.zero_le _)
        · rw [s147_46]
          generalize jall m (fun k => A 150 (if b = 0 then 5 * a + k else 5 * k + a) == A 150 (if b = 0 then 5 * e + k else 5 * k + e)) = B7 at ih2 ⊢
          rcases (show b = 0 ∨ b = 1 by omega) with rfl | rfl
          · simp only [if_true] at hm
            cases B7
            · simp (disch := omega) only [s147_48, s147_49, s147_52, s147_53, s147_56, s147_59, s147_60, s147_63, s147_66, s147_68, s147_69, s147_70, s147_72, s147_74, s147_77, s147_78, s147_79, s147_81, s147_83, s147_86, s147_89, s147_90, s147_93, s147_94, s147_95, s147_97, s147_100, s147_103, s147_105, s147_107, s147_110, s147_111, s147_114, s147_115, s147_116, s147_118, s147_121, Option.some.injEq, exists_eq_left', exists_eq_left, List.cons_append, List.nil_append, List.length_nil, List.length_cons, Nat.reduceAdd, Nat.reduceMul, Nat.reduceSub, Nat.reduceLeDiff, true_and, and_true, ↓reduceIte, not_false_eq_true, not_true_eq_false, nI_add, pk_mul, jn_ltT, jn_ltF, jn_leT, jn_leF, jn_eqT, jn_eqF, jn_lt0, jn_ge0, jn_eq0T, jn_eq0F, jn_in, jn_cl, jf_149_0 hR, jf_149_1 hR, Bool.toNat_false, jb_and1]
              simpa using ih2 _ _
            · simp (disch := omega) only [s147_48, s147_49, s147_52, s147_53, s147_56, s147_59, s147_60, s147_63, s147_66, s147_68, s147_69, s147_70, s147_72, s147_74, s147_77, s147_78, s147_79, s147_81, s147_83, s147_86, s147_89, s147_90, s147_93, s147_94, s147_95, s147_97, s147_100, s147_103, s147_105, s147_107, s147_110, s147_111, s147_114, s147_115, s147_116, s147_118, s147_121, Option.some.injEq, exists_eq_left', exists_eq_left, List.cons_append, List.nil_append, List.length_nil, List.length_cons, Nat.reduceAdd, Nat.reduceMul, Nat.reduceSub, Nat.reduceLeDiff, true_and, and_true, ↓reduceIte, not_false_eq_true, not_true_eq_false, nI_add, pk_mul, jn_ltT, jn_ltF, jn_leT, jn_leF, jn_eqT, jn_eqF, jn_lt0, jn_ge0, jn_eq0T, jn_eq0F, jn_in, jn_cl, jf_149_0 hR, jf_149_1 hR, Bool.toNat_true, jb_and0]
              simpa using ih2 _ _
          · simp only [Nat.one_ne_zero, if_false] at hm
            cases B7
            · simp (disch := omega) only [s147_48, s147_49, s147_52, s147_53, s147_56, s147_59, s147_60, s147_63, s147_66, s147_68, s147_69, s147_70, s147_72, s147_74, s147_77, s147_78, s147_79, s147_81, s147_83, s147_86, s147_89, s147_90, s147_93, s147_94, s147_95, s147_97, s147_100, s147_103, s147_105, s147_107, s147_110, s147_111, s147_114, s147_115, s147_116, s147_118, s147_121, Option.some.injEq, exists_eq_left', exists_eq_left, List.cons_append, List.nil_append, List.length_nil, List.length_cons, Nat.reduceAdd, Nat.reduceMul, Nat.reduceSub, Nat.reduceLeDiff, true_and, and_true, ↓reduceIte, not_false_eq_true, not_true_eq_false, nI_add, pk_mul, jn_ltT, jn_ltF, jn_leT, jn_leF, jn_eqT, jn_eqF, jn_lt0, jn_ge0, jn_eq0T, jn_eq0F, jn_in, jn_cl, jf_149_0 hR, jf_149_1 hR, Bool.toNat_false, jb_and1]
              simpa using ih2 _ _
            · simp (disch := omega) only [s147_48, s147_49, s147_52, s147_53, s147_56, s147_59, s147_60, s147_63, s147_66, s147_68, s147_69, s147_70, s147_72, s147_74, s147_77, s147_78, s147_79, s147_81, s147_83, s147_86, s147_89, s147_90, s147_93, s147_94, s147_95, s147_97, s147_100, s147_103, s147_105, s147_107, s147_110, s147_111, s147_114, s147_115, s147_116, s147_118, s147_121, Option.some.injEq, exists_eq_left', exists_eq_left, List.cons_append, List.nil_append, List.length_nil, List.length_cons, Nat.reduceAdd, Nat.reduceMul, Nat.reduceSub, Nat.reduceLeDiff, true_and, and_true, ↓reduceIte, not_false_eq_true, not_true_eq_false, nI_add, pk_mul, jn_ltT, jn_ltF, jn_leT, jn_leF, jn_eqT, jn_eqF, jn_lt0, jn_ge0, jn_eq0T, jn_eq0F, jn_in, jn_cl, jf_149_0 hR, jf_149_1 hR, Bool.toNat_true, jb_and0]
              simpa using ih2 _ _
        · intro k' hk ih3
          rw [s147_46]
          rw [jall_s] at ih3
          generalize jall k' (fun k => A 150 (if b = 0 then 5 * a + k else 5 * k + a) == A 150 (if b = 0 then 5 * e + k else 5 * k + e)) = B7 at ih3 ⊢
          have h63 : jx_Go jxP (d + 1) 147 66 [.ref 149, .int (nI b), .int (nI n), .int (nI n3), .int (nI a), .int (nI B5.toNat), .int (nI e), .int (nI B7.toNat), .int (nI k')] [] h Q := by
            simp (disch := omega) only [s147_66, s147_68, s147_69, s147_70, s147_72, s147_74, Option.some.injEq, exists_eq_left', exists_eq_left, List.cons_append, List.nil_append, List.length_nil, List.length_cons, Nat.reduceAdd, Nat.reduceMul, Nat.reduceSub, Nat.reduceLeDiff, true_and, and_true, ↓reduceIte, not_false_eq_true, not_true_eq_false, nI_add, pk_mul, jn_ltT, jn_ltF, jn_leT, jn_leF, jn_eqT, jn_eqF, jn_lt0, jn_ge0, jn_eq0T, jn_eq0F, jn_in, jn_cl, jc_of_149 hR, md_at hR]
            simp (disch := omega) only [s147_77, s147_78, s147_79, s147_81, s147_83, Option.some.injEq, exists_eq_left', exists_eq_left, List.cons_append, List.nil_append, List.length_nil, List.length_cons, Nat.reduceAdd, Nat.reduceMul, Nat.reduceSub, Nat.reduceLeDiff, true_and, and_true, ↓reduceIte, not_false_eq_true, not_true_eq_false, nI_add, pk_mul, jn_ltT, jn_ltF, jn_leT, jn_leF, jn_eqT, jn_eqF, jn_lt0, jn_ge0, jn_eq0T, jn_eq0F, jn_in, jn_cl, jc_of_149 hR, md_at hR]
            simp (disch := omega) only [s147_86, Option.some.injEq, exists_eq_left', exists_eq_left, List.cons_append, List.nil_append, List.length_nil, List.length_cons, Nat.reduceAdd, Nat.reduceMul, Nat.reduceSub, Nat.reduceLeDiff, true_and, and_true, ↓reduceIte, not_false_eq_true, not_true_eq_false, nI_add, pk_mul, jn_ltT, jn_ltF, jn_leT, jn_leF, jn_eqT, jn_eqF, jn_lt0, jn_ge0, jn_eq0T, jn_eq0F, jn_in, jn_cl]
            by_cases q : A 150 (if b = 0 then 5 * a + k' else 5 * k' + a) = A 150 (if b = 0 then 5 * e + k' else 5 * k' + e)
            · rw [if_pos q]
              simp (disch := omega) only [s147_89, s147_90, s147_93, s147_94, s147_95, s147_97, s147_100, Option.some.injEq, exists_eq_left', exists_eq_left, List.cons_append, List.nil_append, List.length_nil, List.length_cons, Nat.reduceAdd, Nat.reduceMul, Nat.reduceSub, Nat.reduceLeDiff, true_and, and_true, ↓reduceIte, not_false_eq_true, not_true_eq_false, nI_add, pk_mul, jn_ltT, jn_ltF, jn_leT, jn_leF, jn_eqT, jn_eqF, jn_lt0, jn_ge0, jn_eq0T, jn_eq0F, jn_in, jn_cl, jb_and1]
              rw [beq_iff_eq.mpr q, Bool.and_true] at ih3
              exact ih3
            · rw [if_neg q]
              simp (disch := omega) only [s147_89, s147_90, s147_93, s147_94, s147_95, s147_97, s147_100, Option.some.injEq, exists_eq_left', exists_eq_left, List.cons_append, List.nil_append, List.length_nil, List.length_cons, Nat.reduceAdd, Nat.reduceMul, Nat.reduceSub, Nat.reduceLeDiff, true_and, and_true, ↓reduceIte, not_false_eq_true, not_true_eq_false, nI_add, pk_mul, jn_ltT, jn_ltF, jn_leT, jn_leF, jn_eqT, jn_eqF, jn_lt0, jn_ge0, jn_eq0T, jn_eq0F, jn_in, jn_cl, jb_and0]
              rw [beq_false_of_ne q, Bool.and_false] at ih3
              exact ih3
          rcases (show b = 0 ∨ b = 1 by omega) with rfl | rfl
          · simp only [if_true] at hm
            simp (disch := omega) only [s147_48, s147_49, s147_52, s147_53, s147_56, s147_59, s147_60, s147_63, Option.some.injEq, exists_eq_left', exists_eq_left, List.cons_append, List.nil_append, List.length_nil, List.length_cons, Nat.reduceAdd, Nat.reduceMul, Nat.reduceSub, Nat.reduceLeDiff, true_and, and_true, ↓reduceIte, not_false_eq_true, not_true_eq_false, nI_add, pk_mul, jn_ltT, jn_ltF, jn_leT, jn_leF, jn_eqT, jn_eqF, jn_lt0, jn_ge0, jn_eq0T, jn_eq0F, jn_in, jn_cl, jf_149_0 hR, jf_149_1 hR]
            exact h63
          · simp only [Nat.one_ne_zero, if_false] at hm
            simp (disch := omega) only [s147_48, s147_49, s147_52, s147_53, s147_56, s147_59, s147_60, s147_63, Option.some.injEq, exists_eq_left', exists_eq_left, List.cons_append, List.nil_append, List.length_nil, List.length_cons, Nat.reduceAdd, Nat.reduceMul, Nat.reduceSub, Nat.reduceLeDiff, true_and, and_true, ↓reduceIte, not_false_eq_true, not_true_eq_false, nI_add, pk_mul, jn_ltT, jn_ltF, jn_leT, jn_leF, jn_eqT, jn_eqF, jn_lt0, jn_ge0, jn_eq0T, jn_eq0F, jn_in, jn_cl, jf_149_0 hR, jf_149_1 hR]
            exact h63
  rcases (show b = 0 ∨ b = 1 by omega) with rfl | rfl
  · simp (disch := omega) only [s147_0, s147_1, s147_4, s147_5, s147_8, s147_11, s147_12, s147_15, Option.some.injEq, exists_eq_left', exists_eq_left, List.cons_append, List.nil_append, List.length_nil, List.length_cons, Nat.reduceAdd, Nat.reduceMul, Nat.reduceSub, Nat.reduceLeDiff, true_and, and_true, ↓reduceIte, not_false_eq_true, not_true_eq_false, nI_add, pk_mul, jn_ltT, jn_ltF, jn_leT, jn_leF, jn_eqT, jn_eqF, jn_lt0, jn_ge0, jn_eq0T, jn_eq0F, jn_in, jn_cl, jf_149_0 hR, jf_149_1 hR]
    exact st _ _ rfl rfl hr hc
  · simp (disch := omega) only [s147_0, s147_1, s147_4, s147_5, s147_8, s147_11, s147_12, s147_15, Option.some.injEq, exists_eq_left', exists_eq_left, List.cons_append, List.nil_append, List.length_nil, List.length_cons, Nat.reduceAdd, Nat.reduceMul, Nat.reduceSub, Nat.reduceLeDiff, true_and, and_true, ↓reduceIte, not_false_eq_true, not_true_eq_false, nI_add, pk_mul, jn_ltT, jn_ltF, jn_leT, jn_leF, jn_eqT, jn_eqF, jn_lt0, jn_ge0, jn_eq0T, jn_eq0F, jn_in, jn_cl, jf_149_0 hR, jf_149_1 hR]
    exact st _ _ rfl rfl hc hr
end MD5
