/-! ===== the law: to its end ===== -/
section LAW2
variable {d n : Nat} {f : Nat → Int32} {Q : List Value → jxH → Prop}
theorem jlw_lt {n i : Nat} (hn : n < 2147483648) (hi : i < 2147483648) : (nI n - nI 6 < nI i) = (n < i + 6) := by
  rw [Int32.lt_iff_toInt_lt, Int32.toInt_sub, nI_toInt (by omega), nI_toInt (by omega), nI_toInt (by omega), Int.bmod_def]
  apply propext
  split <;> omega
theorem jlw_63 (v : Int32) : ∃ c, c < 64 ∧ v &&& nI 63 = nI c := by
  have t : (v &&& nI 63).toBitVec.toNat = v.toBitVec.toNat % 64 := by
    rw [Int32.toBitVec_and, BitVec.toNat_and, show (nI 63).toBitVec.toNat = 2 ^ 6 - 1 by decide +kernel, Nat.and_two_pow_sub_one_eq_mod]
  have q : (v &&& nI 63).toInt = Int.bmod (v &&& nI 63).toBitVec.toNat (2 ^ 32) := BitVec.toInt_eq_toNat_bmod _
  refine ⟨v.toBitVec.toNat % 64, by omega, Int32.toInt_inj.mp ?_⟩
  rw [q, t, nI_toInt (by omega), Int.bmod_def]
  generalize v.toBitVec.toNat = n
  split <;> omega
theorem jlw_sw : ∀ c, c < 64 → js_swt 33 1117 0 33 [151, 184, 227, 260, 303, 326, 339, 352, 391, 434, 477, 540, 563, 596, 629, 642, 675, 708, 747, 786, 825, 848, 871, 884, 897, 920, 943, 956, 979, 1002, 1025, 1058, 1081, 1094] (nI c) = ([184, 217, 260, 293, 336, 359, 372, 385, 424, 467, 510, 573, 596, 629, 662, 675, 708, 741, 780, 819, 858, 881, 904, 917, 930, 953, 976, 989, 1012, 1035, 1058, 1091, 1114, 1127] : List Nat).getD c 1150 := by decide +kernel
theorem jlw_df : ∀ c, c < 64 → 34 ≤ c → ([184, 217, 260, 293, 336, 359, 372, 385, 424, 467, 510, 573, 596, 629, 662, 675, 708, 741, 780, 819, 858, 881, 904, 917, 930, 953, 976, 989, 1012, 1035, 1058, 1091, 1114, 1127] : List Nat).getD c 1150 = 1150 := by decide +kernel
theorem jlaw (hp : jPart) (hn : n < 2147483648) : ∀ m i h, n < i + 6 * m + 6 → i ≤ n → jZ h → jx_sc h 0 = some (n, f) → (∀ h', h'.1 ≤ h.1 + 3 * m → h'.2.1 ≤ h.2.1 + 60 * m → Q [.int (nI 1)] h') → jx_Go jxP (d + 17) 200 18 [.ref 0, .ref 1, .ref 149, .int (nI i)] [] h Q := by
  intro m
  induction m with
  | zero =>
    intro i h hm hi hZ sc k
    rw [s200_18]
    simp (disch := omega) only [s200_19, s200_20, s200_21, s200_23, s200_24, Option.some.injEq, exists_eq_left', exists_eq_left, List.cons_append, List.nil_append, List.length_nil, List.length_cons, Nat.reduceAdd, Nat.reduceMul, Nat.reduceSub, Nat.reduceLeDiff, true_and, and_true, ↓reduceIte, not_false_eq_true, not_true_eq_false, nI_add, pk_mul, jn_ltT, jn_ltF, jn_leT, jn_leF, jn_eqT, jn_eqF, jn_lt0, jn_ge0, jn_eq0T, jn_eq0F, jn_in, jn_cl, sc, jlw_lt]
    rw [if_pos (by omega)]
    simp (disch := omega) only [s200_1156, s200_1157b0, s200_1157b1, Option.some.injEq, exists_eq_left', exists_eq_left, List.cons_append, List.nil_append, List.length_nil, List.length_cons, Nat.reduceAdd, Nat.reduceMul, Nat.reduceSub, Nat.reduceLeDiff, true_and, and_true, ↓reduceIte, not_false_eq_true, not_true_eq_false, nI_add, pk_mul, jn_ltT, jn_ltF, jn_leT, jn_leF, jn_eqT, jn_eqF, jn_lt0, jn_ge0, jn_eq0T, jn_eq0F, jn_in, jn_cl]
    exact k h (by omega) (by omega)
  | succ m ih =>
    intro i h hm hi hZ sc k
    rw [s200_18]
    simp (disch := omega) only [s200_19, s200_20, s200_21, s200_23, s200_24, Option.some.injEq, exists_eq_left', exists_eq_left, List.cons_append, List.nil_append, List.length_nil, List.length_cons, Nat.reduceAdd, Nat.reduceMul, Nat.reduceSub, Nat.reduceLeDiff, true_and, and_true, ↓reduceIte, not_false_eq_true, not_true_eq_false, nI_add, pk_mul, jn_ltT, jn_ltF, jn_leT, jn_leF, jn_eqT, jn_eqF, jn_lt0, jn_ge0, jn_eq0T, jn_eq0F, jn_in, jn_cl, sc, jlw_lt]
    by_cases y : n < i + 6
    · rw [if_pos y]
      simp (disch := omega) only [s200_1156, s200_1157b0, s200_1157b1, Option.some.injEq, exists_eq_left', exists_eq_left, List.cons_append, List.nil_append, List.length_nil, List.length_cons, Nat.reduceAdd, Nat.reduceMul, Nat.reduceSub, Nat.reduceLeDiff, true_and, and_true, ↓reduceIte, not_false_eq_true, not_true_eq_false, nI_add, pk_mul, jn_ltT, jn_ltF, jn_leT, jn_leF, jn_eqT, jn_eqF, jn_lt0, jn_ge0, jn_eq0T, jn_eq0F, jn_in, jn_cl]
      exact k h (by omega) (by omega)
    · rw [if_neg y]
      have K : ∀ h', jZ h' → jLg h h' → jx_Go jxP (d + 17) 200 1150 [.ref 0, .ref 1, .ref 149, .int (nI i)] [] h' Q := by
        intro h' hZ' hL
        simp (disch := omega) only [s200_1150, s200_1153, Option.some.injEq, exists_eq_left', exists_eq_left, List.cons_append, List.nil_append, List.length_nil, List.length_cons, Nat.reduceAdd, Nat.reduceMul, Nat.reduceSub, Nat.reduceLeDiff, true_and, and_true, ↓reduceIte, not_false_eq_true, not_true_eq_false, nI_add, pk_mul, jn_ltT, jn_ltF, jn_leT, jn_leF, jn_eqT, jn_eqF, jn_lt0, jn_ge0, jn_eq0T, jn_eq0F, jn_in, jn_cl]
        refine ih (i + 6) h' (by omega) (by omega) hZ' ((jsc_eq hL.2.2.2).trans sc) (fun h2 b1 b2 => k h2 ?_ ?_)
        · have := hL.2.1
          omega
        · have := hL.2.2.1
          omega
      have i6 : i + 6 ≤ n := by omega
      simp (disch := omega) only [s200_27, s200_28, s200_29, s200_30, s200_32, Option.some.injEq, exists_eq_left', exists_eq_left, List.cons_append, List.nil_append, List.length_nil, List.length_cons, Nat.reduceAdd, Nat.reduceMul, Nat.reduceSub, Nat.reduceLeDiff, true_and, and_true, ↓reduceIte, not_false_eq_true, not_true_eq_false, nI_add, pk_mul, jn_ltT, jn_ltF, jn_leT, jn_leF, jn_eqT, jn_eqF, jn_lt0, jn_ge0, jn_eq0T, jn_eq0F, jn_in, jn_cl, sc]
      obtain ⟨c, hc, ec⟩ := jlw_63 (f i)
      rw [ec, s200_33, jlw_sw c hc]
      by_cases c34 : 34 ≤ c
      · rw [jlw_df c hc c34]
        exact K h hZ ⟨by omega, by omega, by omega, rfl⟩
      · rcases (show c = 0 ∨ c = 1 ∨ c = 2 ∨ c = 3 ∨ c = 4 ∨ c = 5 ∨ c = 6 ∨ c = 7 ∨ c = 8 ∨ c = 9 ∨ c = 10 ∨ c = 11 ∨ c = 12 ∨ c = 13 ∨ c = 14 ∨ c = 15 ∨ c = 16 ∨ c = 17 ∨ c = 18 ∨ c = 19 ∨ c = 20 ∨ c = 21 ∨ c = 22 ∨ c = 23 ∨ c = 24 ∨ c = 25 ∨ c = 26 ∨ c = 27 ∨ c = 28 ∨ c = 29 ∨ c = 30 ∨ c = 31 ∨ c = 32 ∨ c = 33 by omega) with e | e | e | e | e | e | e | e | e | e | e | e | e | e | e | e | e | e | e | e | e | e | e | e | e | e | e | e | e | e | e | e | e | e <;> subst e
        · exact jlc_table hZ sc hn i6 K
        · exact jlc_put hZ sc hn i6 K
        · exact jlc_place hZ sc hn i6 K
        · exact jlc_weigh hZ sc hn i6 K
        · exact jlc_rule hZ sc hn i6 K
        · exact jlc_turn hZ sc hn i6 K
        · exact jlc_turnAnswers hZ sc hn i6 K
        · exact jlc_unlike hZ sc hn i6 K
        · exact jlc_sheet hZ sc hn i6 K
        · exact jlc_write hZ sc hn i6 K
        · exact jlc_copy hZ sc hn i6 K
        · exact jlc_lay hZ sc hn i6 K
        · exact jlc_bits hZ sc hn i6 K
        · exact jlc_ends hZ sc hn i6 K
        · exact jlc_talk hZ sc hn i6 K
        · exact jlc_knot hZ sc hn i6 K
        · exact jlc_said hZ sc hn i6 K
        · exact jlc_classes hZ sc hn i6 K
        · exact jlc_once hZ sc hn i6 K
        · exact jlc_rank hZ sc hn i6 K
        · exact jlc_fool hZ sc hn i6 K
        · exact jlc_cover hZ sc hn i6 K
        · exact jlc_part hp hZ sc hn i6 K
        · exact jlc_swing hZ sc hn i6 K
        · exact jlc_wrong hZ sc hn i6 K
        · exact jlc_tell hZ sc hn i6 K
        · exact jlc_check hZ sc hn i6 K
        · exact jlc_fools hZ sc hn i6 K
        · exact jlc_keep hZ sc hn i6 K
        · exact jlc_bring hZ sc hn i6 K
        · exact jlc_as hZ sc hn i6 K
        · exact jlc_same hZ sc hn i6 K
        · exact jlc_undo hZ sc hn i6 K
        · exact jlc_told hZ sc hn i6 K
end LAW2
