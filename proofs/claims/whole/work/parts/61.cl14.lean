/-! ===== the class: the talk is made and told ===== -/
section CL14
variable {d : Nat} {F : Nat → Nat → Nat} {A : Nat → Nat → Int32} {G : Nat → Option Nat} {g : Nat → Int64} {h : jxH} {Q : List Value → jxH → Prop}
theorem jpop_f : ∀ n, n < 6 → jpop (2 ^ n - 1) = n := by decide +kernel
theorem ta_make (hR : jR F A G g h) (hP : jPa A) {v : Nat → Int32} {R C : Nat} (hM : jMk F A v R C) (hr : R ≤ 5) (hc : C ≤ 5) (hr1 : 1 ≤ R) (hc1 : 1 ≤ C) (hK : F 128 5 = 0 ∨ (F 128 5 = 1 ∧ jBl A v R C)) (k : ∀ h' A' q, (q = 0 ∨ (q = 1 ∧ jBl A' v R C)) → (∀ a, a ≠ 129 → a ≠ 130 → (a < 138 ∨ 143 < a) → A' a = A a) → jtc v R C 1024 0 (jalB R C) 0 A' → jR (jup (jup F 128 5 q) 137 8 (jtS v R C 1024 (jalB R C))) A' G g h' → jD h h' → Q [] h') : jx_Go jxP (d + 15) 63 0 [.ref 137] [] h Q := by
  have p1 := jp2 _ hr
  have p2 := jp2 _ hc
  obtain ⟨bb, bl⟩ := jalB_blk hr hc hr1 hc1
  have e := jalB_x (R := R) (C := C)
  have f1 := jpop_f R (by omega)
  have f2 := jpop_f C (by omega)
  have hR1 := hR.uf (o := 137) (k := 8) (v := 0) rfl rfl
  have hD1 := (jD.rf (h := h)).uf (a := 137) (k := 8) (v := .int (nI 0)) (by decide)
  simp (disch := first | omega | decide) only [s63_0, s63_1, s63_2, s63_5, Option.some.injEq, exists_eq_left', exists_eq_left, List.cons_append, List.nil_append, List.length_nil, List.length_cons, Nat.reduceAdd, Nat.reduceMul, Nat.reduceSub, Nat.reduceLeDiff, true_and, and_true, ↓reduceIte, not_false_eq_true, not_true_eq_false, nI_add, pk_mul, jn_ltT, jn_ltF, jn_leT, jn_leF, jn_eqT, jn_eqF, jn_lt0, jn_ge0, jn_eq0T, jn_eq0F, jn_in, jn_cl, jf_137_8 hR]
  generalize jx_uf h 137 8 (.int (nI 0)) = h1 at hR1 hD1 ⊢
  have g0 : jup F 137 8 0 99 0 = 2 ^ R - 1 := hM.1
  have g1 : jup F 137 8 0 99 1 = 2 ^ C - 1 := hM.2.1
  simp (disch := first | omega | decide) only [s63_6, s63_7, s63_10, s63_13, s63_14, s63_17, s63_20, s63_21, Option.some.injEq, exists_eq_left', exists_eq_left, List.cons_append, List.nil_append, List.length_nil, List.length_cons, Nat.reduceAdd, Nat.reduceMul, Nat.reduceSub, Nat.reduceLeDiff, true_and, and_true, ↓reduceIte, not_false_eq_true, not_true_eq_false, nI_add, pk_mul, jn_ltT, jn_ltF, jn_leT, jn_leF, jn_eqT, jn_eqF, jn_lt0, jn_ge0, jn_eq0T, jn_eq0F, jn_in, jn_cl, jf_137_0 hR1, jf_99_0 hR1, jf_99_1 hR1, g0, g1, jc_of_137 hR1]
  have id : jup F 128 5 (F 128 5) = F := jup_id rfl
  have a25 := jar_25 bl
  have := ta_grow (F := F) (G := G) (g := g) (h := h) (v := v) hr hc 1024 (2 ^ R - 1) (2 ^ C - 1) (by rw [e]; exact bl) (by rw [e]; exact bb) (by omega) (d + 10 - (R + C)) A h1 0 0 (F 128 5) hM hP hK (by rw [id]; exact hR1) hD1 (by rw [f1, f2]; omega) (by rw [e]; omega) (Q := fun s1 h1 => jx_Go jxP (d + 14 + 1) 63 24 [.ref 137] (s1 ++ []) h1 Q) (fun q A2 h2 hK2 fr2 _ tr2 hR2 hD2 => by
    rw [e] at tr2 hR2
    rw [Nat.zero_add] at hR2
    simp (disch := omega) only [s63_24, s63_25, Option.some.injEq, exists_eq_left', exists_eq_left, List.cons_append, List.nil_append, List.length_nil, List.length_cons, Nat.reduceAdd, Nat.reduceMul, Nat.reduceSub, Nat.reduceLeDiff, true_and, and_true, ↓reduceIte, not_false_eq_true, not_true_eq_false, nI_add, pk_mul, jn_ltT, jn_ltF, jn_leT, jn_leF, jn_eqT, jn_eqF, jn_lt0, jn_ge0, jn_eq0T, jn_eq0F, jn_in, jn_cl]
    exact k h2 A2 q hK2 fr2 tr2 hR2 hD2)
  rw [f1, f2, show d + 10 - (R + C) + (R + C) + 4 = d + 14 by omega] at this
  exact this
/-- what a knot tells -/
theorem ta_tellOf (hR : jR F A G g h) {k' x : Nat} (hk : k' < 49) (hx : x < 6) : jx_Go jxP d 65 0 [.ref 137, .int (nI k'), .int (nI x)] [] h Q ↔ Q [.int (if x = 0 then A 138 k' else if x = 1 then A 139 k' else if x = 2 then A 140 k' else if x = 3 then A 141 k' else if x = 4 then A 142 k' else A 143 k')] h := by
  rw [s65_0, s65_1]
  rcases (show x = 0 ∨ x = 1 ∨ x = 2 ∨ x = 3 ∨ x = 4 ∨ x = 5 by omega) with rfl | rfl | rfl | rfl | rfl | rfl
  · rw [show js_swt 1 70 0 4 [35, 42, 49, 56, 63] (nI 0) = 36 by decide +kernel]
    simp (disch := omega) only [s65_0, s65_1, s65_36, s65_37, s65_40, s65_41, s65_42, s65_43, s65_44, s65_47, s65_48, s65_49, s65_50, s65_51, s65_54, s65_55, s65_56, s65_57, s65_58, s65_61, s65_62, s65_63, s65_64, s65_65, s65_68, s65_69, s65_70, s65_71, s65_72, s65_75, s65_76, s65_77, Option.some.injEq, exists_eq_left', exists_eq_left, List.cons_append, List.nil_append, List.length_nil, List.length_cons, Nat.reduceAdd, Nat.reduceMul, Nat.reduceSub, Nat.reduceLeDiff, true_and, and_true, ↓reduceIte, not_false_eq_true, not_true_eq_false, nI_add, pk_mul, jn_ltT, jn_ltF, jn_leT, jn_leF, jn_eqT, jn_eqF, jn_lt0, jn_ge0, jn_eq0T, jn_eq0F, jn_in, jn_cl, jf_137_2 hR, ja_138 hR]
  · rw [show js_swt 1 70 0 4 [35, 42, 49, 56, 63] (nI 1) = 43 by decide +kernel]
    simp (disch := omega) only [s65_0, s65_1, s65_36, s65_37, s65_40, s65_41, s65_42, s65_43, s65_44, s65_47, s65_48, s65_49, s65_50, s65_51, s65_54, s65_55, s65_56, s65_57, s65_58, s65_61, s65_62, s65_63, s65_64, s65_65, s65_68, s65_69, s65_70, s65_71, s65_72, s65_75, s65_76, s65_77, Option.some.injEq, exists_eq_left', exists_eq_left, List.cons_append, List.nil_append, List.length_nil, List.length_cons, Nat.reduceAdd, Nat.reduceMul, Nat.reduceSub, Nat.reduceLeDiff, true_and, and_true, ↓reduceIte, not_false_eq_true, not_true_eq_false, nI_add, pk_mul, jn_ltT, jn_ltF, jn_leT, jn_leF, jn_eqT, jn_eqF, jn_lt0, jn_ge0, jn_eq0T, jn_eq0F, jn_in, jn_cl, jf_137_3 hR, ja_139 hR]
    exact Iff.rfl
  · rw [show js_swt 1 70 0 4 [35, 42, 49, 56, 63] (nI 2) = 50 by decide +kernel]
    simp (disch := omega) only [s65_0, s65_1, s65_36, s65_37, s65_40, s65_41, s65_42, s65_43, s65_44, s65_47, s65_48, s65_49, s65_50, s65_51, s65_54, s65_55, s65_56, s65_57, s65_58, s65_61, s65_62, s65_63, s65_64, s65_65, s65_68, s65_69, s65_70, s65_71, s65_72, s65_75, s65_76, s65_77, Option.some.injEq, exists_eq_left', exists_eq_left, List.cons_append, List.nil_append, List.length_nil, List.length_cons, Nat.reduceAdd, Nat.reduceMul, Nat.reduceSub, Nat.reduceLeDiff, true_and, and_true, ↓reduceIte, not_false_eq_true, not_true_eq_false, nI_add, pk_mul, jn_ltT, jn_ltF, jn_leT, jn_leF, jn_eqT, jn_eqF, jn_lt0, jn_ge0, jn_eq0T, jn_eq0F, jn_in, jn_cl, jf_137_4 hR, ja_140 hR]
    exact Iff.rfl
  · rw [show js_swt 1 70 0 4 [35, 42, 49, 56, 63] (nI 3) = 57 by decide +kernel]
    simp (disch := omega) only [s65_0, s65_1, s65_36, s65_37, s65_40, s65_41, s65_42, s65_43, s65_44, s65_47, s65_48, s65_49, s65_50, s65_51, s65_54, s65_55, s65_56, s65_57, s65_58, s65_61, s65_62, s65_63, s65_64, s65_65, s65_68, s65_69, s65_70, s65_71, s65_72, s65_75, s65_76, s65_77, Option.some.injEq, exists_eq_left', exists_eq_left, List.cons_append, List.nil_append, List.length_nil, List.length_cons, Nat.reduceAdd, Nat.reduceMul, Nat.reduceSub, Nat.reduceLeDiff, true_and, and_true, ↓reduceIte, not_false_eq_true, not_true_eq_false, nI_add, pk_mul, jn_ltT, jn_ltF, jn_leT, jn_leF, jn_eqT, jn_eqF, jn_lt0, jn_ge0, jn_eq0T, jn_eq0F, jn_in, jn_cl, jf_137_5 hR, ja_141 hR]
    exact Iff.rfl
  · rw [show js_swt 1 70 0 4 [35, 42, 49, 56, 63] (nI 4) = 64 by decide +kernel]
    simp (disch := omega) only [s65_0, s65_1, s65_36, s65_37, s65_40, s65_41, s65_42, s65_43, s65_44, s65_47, s65_48, s65_49, s65_50, s65_51, s65_54, s65_55, s65_56, s65_57, s65_58, s65_61, s65_62, s65_63, s65_64, s65_65, s65_68, s65_69, s65_70, s65_71, s65_72, s65_75, s65_76, s65_77, Option.some.injEq, exists_eq_left', exists_eq_left, List.cons_append, List.nil_append, List.length_nil, List.length_cons, Nat.reduceAdd, Nat.reduceMul, Nat.reduceSub, Nat.reduceLeDiff, true_and, and_true, ↓reduceIte, not_false_eq_true, not_true_eq_false, nI_add, pk_mul, jn_ltT, jn_ltF, jn_leT, jn_leF, jn_eqT, jn_eqF, jn_lt0, jn_ge0, jn_eq0T, jn_eq0F, jn_in, jn_cl, jf_137_6 hR, ja_142 hR]
    exact Iff.rfl
  · rw [show js_swt 1 70 0 4 [35, 42, 49, 56, 63] (nI 5) = 71 by decide +kernel]
    simp (disch := omega) only [s65_0, s65_1, s65_36, s65_37, s65_40, s65_41, s65_42, s65_43, s65_44, s65_47, s65_48, s65_49, s65_50, s65_51, s65_54, s65_55, s65_56, s65_57, s65_58, s65_61, s65_62, s65_63, s65_64, s65_65, s65_68, s65_69, s65_70, s65_71, s65_72, s65_75, s65_76, s65_77, Option.some.injEq, exists_eq_left', exists_eq_left, List.cons_append, List.nil_append, List.length_nil, List.length_cons, Nat.reduceAdd, Nat.reduceMul, Nat.reduceSub, Nat.reduceLeDiff, true_and, and_true, ↓reduceIte, not_false_eq_true, not_true_eq_false, nI_add, pk_mul, jn_ltT, jn_ltF, jn_leT, jn_leF, jn_eqT, jn_eqF, jn_lt0, jn_ge0, jn_eq0T, jn_eq0F, jn_in, jn_cl, jf_137_7 hR, ja_143 hR]
    exact Iff.rfl
/-- both talks tell the same -/
theorem jtk_jtc {v : Nat → Int32} {R C : Nat} (hr : R ≤ 5) (hc : C ≤ 5) : ∀ n k B D, jblk R C B = true → jtk v R C n k B D A → jtc v R C n k B D A → ∀ j, k ≤ j → j < k + jtS v R C n B → ∃ b, b < 1024 ∧ A 162 j = nI b ∧ A 139 j = nI (b / 32) ∧ A 140 j = nI (b % 32) ∧ A 138 j = A 163 j ∧ A 141 j = A 164 j ∧ A 142 j = A 165 j ∧ A 143 j = A 166 j := by
  have p1 := jp2 _ hr
  have p2 := jp2 _ hc
  intro n
  induction n with
  | zero => intro k B D _ t; exact t.elim
  | succ n ih =>
    intro k B D hb t c j h1 h2
    have hb' := jblk_iff.mp hb
    obtain ⟨t1, t2, t3⟩ := t
    obtain ⟨c1, c2, c3, c4⟩ := c
    rw [jtS_s] at h2
    by_cases he : jev v R C B = true
    · rw [if_pos he] at t3 c4 h2
      have : j = k := by omega
      subst this
      exact ⟨B, by omega, t1, c1, c2, by rw [c4.1, t3.1], by rw [c4.2.1, t3.2.1], by rw [c4.2.2, t3.2.2], by rw [c3, t2]⟩
    · rw [if_neg he] at t3 c4 h2
      obtain ⟨b1, b2, _⟩ := jcut_ok hr hc hb he
      obtain ⟨t4, t5, t6, t7, t8, t9⟩ := t3
      obtain ⟨c5, c6, c7, c8, c9⟩ := c4
      rcases (show j = k ∨ (k + 1 ≤ j ∧ j < k + 1 + jtS v R C n (jfr v R C B)) ∨ (k + 1 + jtS v R C n (jfr v R C B) ≤ j) by omega) with w | w | w
      · subst w
        exact ⟨B, by omega, t1, c1, c2, by rw [c5, t4], by rw [c6, t6], by rw [c7, t7], by rw [c3, t2]⟩
      · exact ih _ _ _ b1 t8 c8 j w.1 w.2
      · exact ih _ _ _ b2 t9 c9 j w (by omega)
theorem ta_words (hR : jR F A G g h) {v : Nat → Int32} {R C : Nat} (hr : R ≤ 5) (hc : C ≤ 5) {r c : Nat} (hr' : r < 5) (hc' : c < 5) : ∀ n B k D w (w6 w7 : Value), B < n → jblk R C B = true → D + jlb v R C B ≤ 6 → w < 2 ^ (D + 1) → k + 2 * jar B ≤ 50 → jtc v R C n k B D A → Q [.int (nI (jsaid v R C r c n B w))] h → jx_Go jxP d 66 8 [.ref 137, .int (nI r), .int (nI c), .int (nI w), .int (nI k), .int (nI D), w6, w7] [] h Q := by
  have p1 := jp2 _ hr
  have p2 := jp2 _ hc
  intro n
  induction n with
  | zero => intro B k D w w6 w7 hB; omega
  | succ n ih =>
    intro B k D w w6 w7 hB hb hD hw hk t kq
    have hb' := jblk_iff.mp hb
    have hBB : B < 1024 := by omega
    have ha := jar_1 hBB (by omega) (by omega)
    have pw : 2 ^ (D + 1) ≤ 128 := Nat.le_trans (Nat.pow_le_pow_right (by omega) (show D + 1 ≤ 7 by omega)) (by decide)
    have pw2 : 2 ^ (D + 1 + 1) = 2 ^ (D + 1) * 2 := Nat.pow_succ _ _
    obtain ⟨t0, t1, t2, t3⟩ := t
    rw [jsaid_s] at kq
    by_cases he : jev v R C B = true
    · rw [if_pos he] at t3 kq
      rw [s66_8]
      simp (disch := omega) only [s66_10, s66_12, s66_15, s66_16, s66_19, s66_21, s66_22, s66_23, s66_105, s66_106, Option.some.injEq, exists_eq_left', exists_eq_left, List.cons_append, List.nil_append, List.length_nil, List.length_cons, Nat.reduceAdd, Nat.reduceMul, Nat.reduceSub, Nat.reduceLeDiff, true_and, and_true, ↓reduceIte, not_false_eq_true, not_true_eq_false, nI_add, pk_mul, jn_ltT, jn_ltF, jn_leT, jn_leF, jn_eqT, jn_eqF, jn_lt0, jn_ge0, jn_eq0T, jn_eq0F, jn_in, jn_cl, jf_137_2 hR, ja_138 hR, t3.1]
      exact kq
    · rw [if_neg he] at t3 kq
      obtain ⟨b1, b2, l1, l2, hX, hS, hL, hA⟩ := jcut_ok hr hc hb he
      obtain ⟨t4, t6, t7, t8, t9⟩ := t3
      have b1' := jblk_iff.mp b1
      have b2' := jblk_iff.mp b2
      have r1 := jar_1 (B := jfr v R C B) (by omega) (by omega) (by omega)
      have r2 := jar_1 (B := jsn v R C B) (by omega) (by omega) (by omega)
      have S1 := jtS_le (v := v) hr hc n _ b1
      have n1 : 1 ≤ n := by omega
      have hd2 : A 139 (k + 1 + jtS v R C n (jfr v R C B)) = nI (jsn v R C B / 32) ∧ A 140 (k + 1 + jtS v R C n (jfr v R C B)) = nI (jsn v R C B % 32) := by
        cases n with
        | zero => omega
        | succ n => exact ⟨t9.1, t9.2.1⟩
      have k70 : ∀ u : Bool, u = (if 32 ≤ jcut v R C B then (jcut v R C B / 32).testBit r else (jcut v R C B).testBit c) → jx_Go jxP d 66 70 [.ref 137, .int (nI r), .int (nI c), .int (nI w), .int (nI k), .int (nI D), .int (nI (k + 1 + jtS v R C n (jfr v R C B))), w7] [.int (nI (if u = true then 1 else 0))] h Q := by
        intro u eu
        rw [← eu] at kq
        cases u with
        | true =>
          rw [if_pos rfl] at kq
          simp (disch := omega) only [s66_70, s66_72, s66_73, s66_74, s66_75, s66_77, s66_78, s66_79, s66_81, s66_82, s66_85, s66_87, s66_97, s66_99, s66_102, Option.some.injEq, exists_eq_left', exists_eq_left, List.cons_append, List.nil_append, List.length_nil, List.length_cons, Nat.reduceAdd, Nat.reduceMul, Nat.reduceSub, Nat.reduceLeDiff, true_and, and_true, ↓reduceIte, not_false_eq_true, not_true_eq_false, nI_add, pk_mul, jn_ltT, jn_ltF, jn_leT, jn_leF, jn_eqT, jn_eqF, jn_lt0, jn_ge0, jn_eq0T, jn_eq0F, jn_in, jn_cl]
          exact ih _ _ (D + 1) _ _ _ (by omega) b2 (by omega) (by omega) (by omega) t9 kq
        | false =>
          rw [if_neg (by decide)] at kq
          simp (disch := omega) only [s66_70, s66_72, s66_73, s66_74, s66_75, s66_77, s66_78, s66_79, s66_81, s66_82, s66_90, s66_91, s66_94, s66_96, s66_97, s66_99, s66_102, Option.some.injEq, exists_eq_left', exists_eq_left, List.cons_append, List.nil_append, List.length_nil, List.length_cons, Nat.reduceAdd, Nat.reduceMul, Nat.reduceSub, Nat.reduceLeDiff, true_and, and_true, ↓reduceIte, not_false_eq_true, not_true_eq_false, nI_add, pk_mul, jn_ltT, jn_ltF, jn_leT, jn_leF, jn_eqT, jn_eqF, jn_lt0, jn_ge0, jn_eq0T, jn_eq0F, jn_in, jn_cl, jf_137_5 hR, ja_141 hR, t6, Bool.false_eq_true]
          exact ih _ _ (D + 1) _ _ _ (by omega) b1 (by omega) (by omega) (by omega) t8 kq
      rw [s66_8]
      rcases jcut_pt hr hc hBB he with ⟨s, hs, ec, hp⟩ | ⟨s, hs, ec, hp⟩
      · have s3 := jpt_lt (B % 32) (by omega) s hs hp
        have es : jsn v R C B % 32 = s := by unfold jsn; rw [ec, if_pos hs]; omega
        have k71 := k70 _ rfl
        rw [ec, if_neg (show ¬ 32 ≤ s by omega)] at t4 k71
        rw [es] at hd2
        simp (disch := omega) only [s66_10, s66_12, s66_15, s66_16, s66_19, s66_21, s66_22, s66_23, s66_26, s66_27, s66_30, s66_32, s66_33, s66_35, s66_36, s66_39, s66_41, s66_42, s66_59, s66_60, s66_63, s66_65, s66_66, s66_67, s66_68, s66_69, Option.some.injEq, exists_eq_left', exists_eq_left, List.cons_append, List.nil_append, List.length_nil, List.length_cons, Nat.reduceAdd, Nat.reduceMul, Nat.reduceSub, Nat.reduceLeDiff, true_and, and_true, ↓reduceIte, not_false_eq_true, not_true_eq_false, nI_add, pk_mul, jn_ltT, jn_ltF, jn_leT, jn_leF, jn_eqT, jn_eqF, jn_lt0, jn_ge0, jn_eq0T, jn_eq0F, jn_in, jn_cl, jf_137_2 hR, jf_137_4 hR, jf_137_6 hR, ja_138 hR, ja_140 hR, ja_142 hR, t4, t7, hd2.2, jsh_bit]
        exact k71
      · have s3 := jpt_lt (B / 32) (by omega) s hs hp
        have es : jsn v R C B / 32 = s := by unfold jsn; rw [ec, if_neg (by omega)]; omega
        have k71 := k70 _ rfl
        rw [ec, if_pos (show 32 ≤ 32 * s by omega)] at t4 k71
        rw [show 32 * s / 32 = s by omega] at k71
        rw [es] at hd2
        simp (disch := omega) only [s66_10, s66_12, s66_15, s66_16, s66_19, s66_21, s66_22, s66_23, s66_26, s66_27, s66_30, s66_32, s66_33, s66_35, s66_36, s66_39, s66_41, s66_42, s66_45, s66_46, s66_49, s66_51, s66_52, s66_53, s66_54, s66_55, s66_56, Option.some.injEq, exists_eq_left', exists_eq_left, List.cons_append, List.nil_append, List.length_nil, List.length_cons, Nat.reduceAdd, Nat.reduceMul, Nat.reduceSub, Nat.reduceLeDiff, true_and, and_true, ↓reduceIte, not_false_eq_true, not_true_eq_false, nI_add, pk_mul, jn_ltT, jn_ltF, jn_leT, jn_leF, jn_eqT, jn_eqF, jn_lt0, jn_ge0, jn_eq0T, jn_eq0F, jn_in, jn_cl, jf_137_2 hR, jf_137_3 hR, jf_137_6 hR, ja_138 hR, ja_139 hR, ja_142 hR, t4, t7, hd2.1, jsh_bit]
        exact k71
theorem ta_wordsFor (hR : jR F A G g h) {v : Nat → Int32} {R C : Nat} (hr : R ≤ 5) (hc : C ≤ 5) (hr1 : 1 ≤ R) (hc1 : 1 ≤ C) {r c : Nat} (hr' : r < 5) (hc' : c < 5) (t : jtc v R C 1024 0 (jalB R C) 0 A) (k : Q [.int (nI (jsaid v R C r c 1024 (jalB R C) 1))] h) : jx_Go jxP d 66 0 [.ref 137, .int (nI r), .int (nI c), jx_u, jx_u, jx_u, jx_u, jx_u] [] h Q := by
  obtain ⟨bb, bl⟩ := jalB_blk hr hc hr1 hc1
  have a25 := jar_25 bl
  have l6 := jlb_6 (v := v) hr hc bl
  simp (disch := omega) only [s66_0, s66_1, s66_2, s66_3, s66_5, s66_6, Option.some.injEq, exists_eq_left', exists_eq_left, List.cons_append, List.nil_append, List.length_nil, List.length_cons, Nat.reduceAdd, Nat.reduceMul, Nat.reduceSub, Nat.reduceLeDiff, true_and, and_true, ↓reduceIte, not_false_eq_true, not_true_eq_false, nI_add, pk_mul, jn_ltT, jn_ltF, jn_leT, jn_leF, jn_eqT, jn_eqF, jn_lt0, jn_ge0, jn_eq0T, jn_eq0F, jn_in, jn_cl]
  exact ta_words hR hr hc hr' hc' 1024 _ 0 0 1 _ _ bl bb (by omega) (by decide) (by omega) t k
end CL14
