/-! ===== the reference: talk, knot ===== -/
section MD14
variable {d : Nat} {F : Nat → Nat → Nat} {A : Nat → Nat → Int32} {G : Nat → Option Nat} {g : Nat → Int64} {h : jxH} {Q : List Value → jxH → Prop}
/-- the block of all -/
def jalB (R C : Nat) : Nat := 32 * (2 ^ R - 1) + 2 ^ C - 1
theorem jp2' : ∀ k, k ≤ 5 → 1 ≤ k → 2 ≤ 2 ^ k := by decide +kernel
theorem jalB_blk {R C : Nat} (hr : R ≤ 5) (hc : C ≤ 5) (hr1 : 1 ≤ R) (hc1 : 1 ≤ C) : jblk R C (jalB R C) = true ∧ jalB R C < 1024 := by
  have := jp2 _ hr
  have := jp2 _ hc
  have := jp2' _ hr hr1
  have := jp2' _ hc hc1
  unfold jalB
  exact ⟨jblk_iff.mpr (by omega), by omega⟩
theorem md_talk (hR : jR F A G g h) (hr : F 149 0 ≤ 5) (hc : F 149 1 ≤ 5) (hr1 : 1 ≤ F 149 0) (hc1 : 1 ≤ F 149 1) (hv : jV (A 150) (F 149 0) (F 149 1)) (kk : ∀ h' A', (∀ a, a < 160 ∨ 169 < a → A' a = A a) → jtk (A 150) (F 149 0) (F 149 1) 1024 0 (jalB (F 149 0) (F 149 1)) 0 A' → jR (jup F 149 14 (jtS (A 150) (F 149 0) (F 149 1) 1024 (jalB (F 149 0) (F 149 1)))) A' G g h' → jD h h' → Q [.int (nI (jtS (A 150) (F 149 0) (F 149 1) 1024 (jalB (F 149 0) (F 149 1))))] h') : jx_Go jxP (d + 4) 166 0 [.ref 149, jx_u, jx_u, jx_u, jx_u, jx_u] [] h Q := by
  obtain ⟨hb, hB⟩ := jalB_blk hr hc hr1 hc1
  have h25 := jar_25 hB
  simp (disch := omega) only [s166_0, s166_1, Option.some.injEq, exists_eq_left', exists_eq_left, List.cons_append, List.nil_append, List.length_nil, List.length_cons, Nat.reduceAdd, Nat.reduceMul, Nat.reduceSub, Nat.reduceLeDiff, true_and, and_true, ↓reduceIte, not_false_eq_true, not_true_eq_false, nI_add, pk_mul, jn_ltT, jn_ltF, jn_leT, jn_leF, jn_eqT, jn_eqF, jn_lt0, jn_ge0, jn_eq0T, jn_eq0F, jn_in, jn_cl, jc_of_149 hR]
  refine md_tellBlocks hR hr hc hv (fun h1 tb te hT hR1 hD1 => ?_)
  simp (disch := omega) only [s166_4, s166_5, s166_6, Option.some.injEq, exists_eq_left', exists_eq_left, List.cons_append, List.nil_append, List.length_nil, List.length_cons, Nat.reduceAdd, Nat.reduceMul, Nat.reduceSub, Nat.reduceLeDiff, true_and, and_true, ↓reduceIte, not_false_eq_true, not_true_eq_false, nI_add, pk_mul, jn_ltT, jn_ltF, jn_leT, jn_leF, jn_eqT, jn_eqF, jn_lt0, jn_ge0, jn_eq0T, jn_eq0F, jn_in, jn_cl, jc_of_149 hR1, jf_149_14 hR1]
  have hR2 : jR (jup F 149 14 0) (jua (jua A 160 tb) 161 te) G g (jx_uf h1 149 14 (.int (nI 0))) := hR1.uf rfl rfl
  have hD2 : jD h (jx_uf h1 149 14 (.int (nI 0))) := hD1.uf (by decide)
  generalize jx_uf h1 149 14 (.int (nI 0)) = h2 at hR2 hD2 ⊢
  have z168 : jua (jua A 160 tb) 161 te 168 = A 168 := by rw [jua_ne (by decide), jua_ne (by decide)]
  have z169 : jua (jua A 160 tb) 161 te 169 = A 169 := by rw [jua_ne (by decide), jua_ne (by decide)]
  have hR3 := (hR2.wi (a := 168) (f := upd (A 168) 0 (nI (jalB (F 149 0) (F 149 1)))) rfl).wi (a := 169) (f := upd (A 169) 0 (-1)) rfl
  have hD3 := (hD2.wi (a := 168) (n := 64) (f := upd (A 168) 0 (nI (jalB (F 149 0) (F 149 1)))) (by decide)).wi (a := 169) (n := 64) (f := upd (A 169) 0 (-1)) (by decide)
  have al : ∀ (d : Nat) (Q : List Value → jxH → Prop), jx_Go jxP d 154 0 [.ref 149] [] h2 Q ↔ Q [.int (nI (jalB (F 149 0) (F 149 1)))] h2 := fun d Q => md_all (F := jup F 149 14 0) hR2 hr hc
  simp (disch := omega) only [s166_9, s166_10, s166_11, s166_12, s166_15, s166_16, s166_17, s166_20, s166_21, s166_22, s166_25, s166_26, s166_27, Option.some.injEq, exists_eq_left', exists_eq_left, List.cons_append, List.nil_append, List.length_nil, List.length_cons, Nat.reduceAdd, Nat.reduceMul, Nat.reduceSub, Nat.reduceLeDiff, true_and, and_true, ↓reduceIte, not_false_eq_true, not_true_eq_false, nI_add, pk_mul, jn_ltT, jn_ltF, jn_leT, jn_leF, jn_eqT, jn_eqF, jn_lt0, jn_ge0, jn_eq0T, jn_eq0F, jn_in, jn_cl, jh_ai_wi, jh_ai_wi_ne, jh_ai_uf, jh_fl_wi_ne, jh_fl_uf_ne, jh_fl_uf_o, jh_cl_wi_ne, jh_cl_uf, jh_al_wi_ne, jh_al_uf, jh_al_wl, jh_al_wl_ne, jh_ai_wl_ne, jh_fl_wl_ne, jh_cl_wl_ne, jh_ar_wi_ne, jh_ar_uf, jh_ar_wl_ne, jh_1_wi, jh_1_uf, jh_1_wl, jf_149_24 hR2, jf_149_25 hR2, ja_168 hR2, ja_169 hR2, jc_of_149 hR2, z168, z169, al]
  generalize hA3 : jua (jua (jua (jua A 160 tb) 161 te) 168 (upd (A 168) 0 (nI (jalB (F 149 0) (F 149 1))))) 169 (upd (A 169) 0 (-1)) = A3 at hR3
  have o : ∀ a, a < 160 ∨ (161 < a ∧ a < 168) ∨ 169 < a → A3 a = A a := by
    intro a w
    rw [← hA3, jua_ne (by omega), jua_ne (by omega), jua_ne (by omega), jua_ne (by omega)]
  have o160 : A3 160 = tb := by rw [← hA3, jua_ne (by decide), jua_ne (by decide), jua_ne (by decide), jua_same]
  have o168 : A3 168 0 = nI (jalB (F 149 0) (F 149 1)) := by rw [← hA3, jua_ne (by decide), jua_same, jupd_same]
  have o169 : A3 169 0 = -1 := by rw [← hA3, jua_same, jupd_same]
  have o150 : A3 150 = A 150 := o 150 (by omega)
  rw [← o150] at hv hT kk
  refine md_talk2 (A := A3) hr hc hv (fun B w => by rw [o160]; exact (hT B w).1) 1024 (jalB (F 149 0) (F 149 1)) hB hb A3 _ 0 0 0 none _ _ _ _ hR3 hD3 rfl rfl (by omega) (by omega) o168 o169 rfl (fun A4 h4 w2 w3 w4 w5 hR4 hD4 P1 P2 P3 P4 P5 P6 => ?_)
  rw [Nat.zero_add] at hR4
  have y : ∀ u, jup F 149 14 u 149 14 = u := fun u => jup_same
  rw [s166_28]
  simp (disch := omega) only [s166_29, s166_290, s166_291, s166_294, Option.some.injEq, exists_eq_left', exists_eq_left, List.cons_append, List.nil_append, List.length_nil, List.length_cons, Nat.reduceAdd, Nat.reduceMul, Nat.reduceSub, Nat.reduceLeDiff, true_and, and_true, ↓reduceIte, not_false_eq_true, not_true_eq_false, nI_add, pk_mul, jn_ltT, jn_ltF, jn_leT, jn_leF, jn_eqT, jn_eqF, jn_lt0, jn_ge0, jn_eq0T, jn_eq0F, jn_in, jn_cl, jn_le0T, jf_149_14 hR4, y]
  exact kk h4 A4 (fun a w => by rw [P1 a (by omega), o a (by omega)]) P6 hR4 hD4
theorem md_knot_0 (hR : jR F A G g h) (e : F 149 14 = 0) {x y : Int32} (k : ∀ h', jR (jup F 149 13 (F 149 13 + 1)) A G g h' → jD h h' → Q [.int (-6)] h') : jx_Go jxP (d + 1) 167 0 [.ref 149, .int x, .int y] [] h Q := by
  simp (disch := omega) only [s167_0, s167_1, s167_4, s167_7, s167_8, s167_10, Option.some.injEq, exists_eq_left', exists_eq_left, List.cons_append, List.nil_append, List.length_nil, List.length_cons, Nat.reduceAdd, Nat.reduceMul, Nat.reduceSub, Nat.reduceLeDiff, true_and, and_true, ↓reduceIte, not_false_eq_true, not_true_eq_false, nI_add, pk_mul, jn_ltT, jn_ltF, jn_leT, jn_leF, jn_eqT, jn_eqF, jn_lt0, jn_ge0, jn_eq0T, jn_eq0F, jn_in, jn_cl, jf_149_14 hR, jc_of_149 hR]
  exact md_finding hR (fun h' hR' hD' => by simp only [s167_13, Option.some.injEq, exists_eq_left', exists_eq_left, List.cons_append, List.nil_append, List.length_nil, List.length_cons, Nat.reduceAdd, Nat.reduceMul, Nat.reduceSub, Nat.reduceLeDiff, true_and, and_true, ↓reduceIte, not_false_eq_true, not_true_eq_false, nI_add, pk_mul, jn_ltT, jn_ltF, jn_leT, jn_leF, jn_eqT, jn_eqF, jn_lt0, jn_ge0, jn_eq0T, jn_eq0F, jn_in, jn_cl]; exact k h' hR' hD')
theorem md_knot_f (hR : jR F A G g h) (e : 0 < F 149 14) (e2 : F 149 14 < 64) {x y : Int32} (hn : ¬ (jbel x (F 149 14) = true ∧ jbel y 6 = true)) (k : ∀ h', jR (jup F 149 13 (F 149 13 + 1)) A G g h' → jD h h' → Q [.int (-1)] h') : jx_Go jxP (d + 1) 167 0 [.ref 149, .int x, .int y] [] h Q := by
  have key : jx_Go jxP (d + 1) 167 35 [.ref 149, .int x, .int y] [] h Q := by
    simp only [s167_35, s167_36, s167_37, Option.some.injEq, exists_eq_left', exists_eq_left, List.cons_append, List.nil_append, List.length_nil, List.length_cons, Nat.reduceAdd, Nat.reduceMul, Nat.reduceSub, Nat.reduceLeDiff, true_and, and_true, ↓reduceIte, not_false_eq_true, not_true_eq_false, nI_add, pk_mul, jn_ltT, jn_ltF, jn_leT, jn_leF, jn_eqT, jn_eqF, jn_lt0, jn_ge0, jn_eq0T, jn_eq0F, jn_in, jn_cl, jc_of_149 hR]
    exact md_finding hR (fun h' hR' hD' => by simp only [s167_40, Option.some.injEq, exists_eq_left', exists_eq_left, List.cons_append, List.nil_append, List.length_nil, List.length_cons, Nat.reduceAdd, Nat.reduceMul, Nat.reduceSub, Nat.reduceLeDiff, true_and, and_true, ↓reduceIte, not_false_eq_true, not_true_eq_false, nI_add, pk_mul, jn_ltT, jn_ltF, jn_leT, jn_leF, jn_eqT, jn_eqF, jn_lt0, jn_ge0, jn_eq0T, jn_eq0F, jn_in, jn_cl]; exact k h' hR' hD')
  simp (disch := omega) only [s167_0, s167_1, s167_4, s167_14, s167_15, Option.some.injEq, exists_eq_left', exists_eq_left, List.cons_append, List.nil_append, List.length_nil, List.length_cons, Nat.reduceAdd, Nat.reduceMul, Nat.reduceSub, Nat.reduceLeDiff, true_and, and_true, ↓reduceIte, not_false_eq_true, not_true_eq_false, nI_add, pk_mul, jn_ltT, jn_ltF, jn_leT, jn_leF, jn_eqT, jn_eqF, jn_lt0, jn_ge0, jn_eq0T, jn_eq0F, jn_in, jn_cl, jf_149_14 hR]
  by_cases hb : jbel x (F 149 14) = true
  · have hq : ¬ jbel y 6 = true := fun w => hn ⟨hb, w⟩
    obtain ⟨x', hx', rfl⟩ := (jbel_iff (by omega)).mp hb
    simp (disch := omega) only [s167_15, s167_18, s167_19, s167_20, s167_23, s167_26, s167_27, Option.some.injEq, exists_eq_left', exists_eq_left, List.cons_append, List.nil_append, List.length_nil, List.length_cons, Nat.reduceAdd, Nat.reduceMul, Nat.reduceSub, Nat.reduceLeDiff, true_and, and_true, ↓reduceIte, not_false_eq_true, not_true_eq_false, nI_add, pk_mul, jn_ltT, jn_ltF, jn_leT, jn_leF, jn_eqT, jn_eqF, jn_lt0, jn_ge0, jn_eq0T, jn_eq0F, jn_in, jn_cl, jf_149_14 hR]
    rcases jbel_f hq with w | ⟨w, w2⟩
    · rw [if_pos w]; exact key
    · rw [if_neg w]
      simp only [s167_30, s167_31, s167_32, Option.some.injEq, exists_eq_left', exists_eq_left, List.cons_append, List.nil_append, List.length_nil, List.length_cons, Nat.reduceAdd, Nat.reduceMul, Nat.reduceSub, Nat.reduceLeDiff, true_and, and_true, ↓reduceIte, not_false_eq_true, not_true_eq_false, nI_add, pk_mul, jn_ltT, jn_ltF, jn_leT, jn_leF, jn_eqT, jn_eqF, jn_lt0, jn_ge0, jn_eq0T, jn_eq0F, jn_in, jn_cl]
      rw [if_neg (by rw [jle_bel (by omega)]; exact fun z => z w2)]
      exact key
  · rcases jbel_f hb with w | ⟨w, w2⟩
    · rw [if_pos w]; exact key
    · rw [if_neg w]
      simp (disch := omega) only [s167_18, s167_19, s167_20, s167_23, Option.some.injEq, exists_eq_left', exists_eq_left, List.cons_append, List.nil_append, List.length_nil, List.length_cons, Nat.reduceAdd, Nat.reduceMul, Nat.reduceSub, Nat.reduceLeDiff, true_and, and_true, ↓reduceIte, not_false_eq_true, not_true_eq_false, nI_add, pk_mul, jn_ltT, jn_ltF, jn_leT, jn_leF, jn_eqT, jn_eqF, jn_lt0, jn_ge0, jn_eq0T, jn_eq0F, jn_in, jn_cl, jf_149_14 hR]
      rw [if_pos w2]
      exact key
/-- what knot() tells -/
def jkn (A : Nat → Nat → Int32) (b k x : Nat) : Int32 := if x = 0 then A 163 k else if x = 1 then nI (b / 32) else if x = 2 then nI (b % 32) else if x = 3 then A 164 k else if x = 4 then A 165 k else A 166 k
theorem md_knot_t (hR : jR F A G g h) (e2 : F 149 14 < 64) {k' x b : Nat} (hk : k' < F 149 14) (hx : x < 6) (hb : b < 1024) (e : A 162 k' = nI b) (k : Q [.int (jkn A b k' x)] h) : jx_Go jxP (d + 1) 167 0 [.ref 149, .int (nI k'), .int (nI x)] [] h Q := by
  simp (disch := omega) only [s167_0, s167_1, s167_4, s167_7, s167_8, s167_10, s167_13, s167_14, s167_15, s167_18, s167_19, s167_20, s167_23, s167_26, s167_27, s167_30, s167_31, s167_32, s167_41, s167_42, Option.some.injEq, exists_eq_left', exists_eq_left, List.cons_append, List.nil_append, List.length_nil, List.length_cons, Nat.reduceAdd, Nat.reduceMul, Nat.reduceSub, Nat.reduceLeDiff, true_and, and_true, ↓reduceIte, not_false_eq_true, not_true_eq_false, nI_add, pk_mul, jn_ltT, jn_ltF, jn_leT, jn_leF, jn_eqT, jn_eqF, jn_lt0, jn_ge0, jn_eq0T, jn_eq0F, jn_in, jn_cl, jf_149_14 hR]
  rcases (show x = 0 ∨ x = 1 ∨ x = 2 ∨ x = 3 ∨ x = 4 ∨ x = 5 by omega) with rfl | rfl | rfl | rfl | rfl | rfl
  · rw [show js_swt 42 74 0 4 [34, 41, 50, 60, 67] (nI 0) = 76 by decide +kernel]
    simp (disch := omega) only [s167_0, s167_1, s167_4, s167_7, s167_8, s167_10, s167_13, s167_14, s167_15, s167_18, s167_19, s167_20, s167_23, s167_26, s167_27, s167_30, s167_31, s167_32, s167_35, s167_36, s167_37, s167_40, s167_41, s167_42, s167_76, s167_77, s167_80, s167_81, s167_82, s167_83, s167_84, s167_87, s167_88, s167_89, s167_90, s167_91, s167_92, s167_93, s167_96, s167_97, s167_98, s167_100, s167_101, s167_102, s167_103, s167_106, s167_107, s167_108, s167_109, s167_110, s167_113, s167_114, s167_115, s167_116, s167_117, s167_120, s167_121, s167_122, Option.some.injEq, exists_eq_left', exists_eq_left, List.cons_append, List.nil_append, List.length_nil, List.length_cons, Nat.reduceAdd, Nat.reduceMul, Nat.reduceSub, Nat.reduceLeDiff, true_and, and_true, ↓reduceIte, not_false_eq_true, not_true_eq_false, nI_add, pk_mul, jn_ltT, jn_ltF, jn_leT, jn_leF, jn_eqT, jn_eqF, jn_lt0, jn_ge0, jn_eq0T, jn_eq0F, jn_in, jn_cl, jf_149_19 hR, ja_163 hR]
    exact k
  · rw [show js_swt 42 74 0 4 [34, 41, 50, 60, 67] (nI 1) = 83 by decide +kernel]
    simp (disch := omega) only [s167_0, s167_1, s167_4, s167_7, s167_8, s167_10, s167_13, s167_14, s167_15, s167_18, s167_19, s167_20, s167_23, s167_26, s167_27, s167_30, s167_31, s167_32, s167_35, s167_36, s167_37, s167_40, s167_41, s167_42, s167_76, s167_77, s167_80, s167_81, s167_82, s167_83, s167_84, s167_87, s167_88, s167_89, s167_90, s167_91, s167_92, s167_93, s167_96, s167_97, s167_98, s167_100, s167_101, s167_102, s167_103, s167_106, s167_107, s167_108, s167_109, s167_110, s167_113, s167_114, s167_115, s167_116, s167_117, s167_120, s167_121, s167_122, Option.some.injEq, exists_eq_left', exists_eq_left, List.cons_append, List.nil_append, List.length_nil, List.length_cons, Nat.reduceAdd, Nat.reduceMul, Nat.reduceSub, Nat.reduceLeDiff, true_and, and_true, ↓reduceIte, not_false_eq_true, not_true_eq_false, nI_add, pk_mul, jn_ltT, jn_ltF, jn_leT, jn_leF, jn_eqT, jn_eqF, jn_lt0, jn_ge0, jn_eq0T, jn_eq0F, jn_in, jn_cl, jf_149_18 hR, ja_162 hR, e, jsh5]
    exact k
  · rw [show js_swt 42 74 0 4 [34, 41, 50, 60, 67] (nI 2) = 92 by decide +kernel]
    simp (disch := omega) only [s167_0, s167_1, s167_4, s167_7, s167_8, s167_10, s167_13, s167_14, s167_15, s167_18, s167_19, s167_20, s167_23, s167_26, s167_27, s167_30, s167_31, s167_32, s167_35, s167_36, s167_37, s167_40, s167_41, s167_42, s167_76, s167_77, s167_80, s167_81, s167_82, s167_83, s167_84, s167_87, s167_88, s167_89, s167_90, s167_91, s167_92, s167_93, s167_96, s167_97, s167_98, s167_100, s167_101, s167_102, s167_103, s167_106, s167_107, s167_108, s167_109, s167_110, s167_113, s167_114, s167_115, s167_116, s167_117, s167_120, s167_121, s167_122, Option.some.injEq, exists_eq_left', exists_eq_left, List.cons_append, List.nil_append, List.length_nil, List.length_cons, Nat.reduceAdd, Nat.reduceMul, Nat.reduceSub, Nat.reduceLeDiff, true_and, and_true, ↓reduceIte, not_false_eq_true, not_true_eq_false, nI_add, pk_mul, jn_ltT, jn_ltF, jn_leT, jn_leF, jn_eqT, jn_eqF, jn_lt0, jn_ge0, jn_eq0T, jn_eq0F, jn_in, jn_cl, jf_149_18 hR, ja_162 hR, e, jan31]
    exact k
  · rw [show js_swt 42 74 0 4 [34, 41, 50, 60, 67] (nI 3) = 102 by decide +kernel]
    simp (disch := omega) only [s167_0, s167_1, s167_4, s167_7, s167_8, s167_10, s167_13, s167_14, s167_15, s167_18, s167_19, s167_20, s167_23, s167_26, s167_27, s167_30, s167_31, s167_32, s167_35, s167_36, s167_37, s167_40, s167_41, s167_42, s167_76, s167_77, s167_80, s167_81, s167_82, s167_83, s167_84, s167_87, s167_88, s167_89, s167_90, s167_91, s167_92, s167_93, s167_96, s167_97, s167_98, s167_100, s167_101, s167_102, s167_103, s167_106, s167_107, s167_108, s167_109, s167_110, s167_113, s167_114, s167_115, s167_116, s167_117, s167_120, s167_121, s167_122, Option.some.injEq, exists_eq_left', exists_eq_left, List.cons_append, List.nil_append, List.length_nil, List.length_cons, Nat.reduceAdd, Nat.reduceMul, Nat.reduceSub, Nat.reduceLeDiff, true_and, and_true, ↓reduceIte, not_false_eq_true, not_true_eq_false, nI_add, pk_mul, jn_ltT, jn_ltF, jn_leT, jn_leF, jn_eqT, jn_eqF, jn_lt0, jn_ge0, jn_eq0T, jn_eq0F, jn_in, jn_cl, jf_149_20 hR, ja_164 hR]
    exact k
  · rw [show js_swt 42 74 0 4 [34, 41, 50, 60, 67] (nI 4) = 109 by decide +kernel]
    simp (disch := omega) only [s167_0, s167_1, s167_4, s167_7, s167_8, s167_10, s167_13, s167_14, s167_15, s167_18, s167_19, s167_20, s167_23, s167_26, s167_27, s167_30, s167_31, s167_32, s167_35, s167_36, s167_37, s167_40, s167_41, s167_42, s167_76, s167_77, s167_80, s167_81, s167_82, s167_83, s167_84, s167_87, s167_88, s167_89, s167_90, s167_91, s167_92, s167_93, s167_96, s167_97, s167_98, s167_100, s167_101, s167_102, s167_103, s167_106, s167_107, s167_108, s167_109, s167_110, s167_113, s167_114, s167_115, s167_116, s167_117, s167_120, s167_121, s167_122, Option.some.injEq, exists_eq_left', exists_eq_left, List.cons_append, List.nil_append, List.length_nil, List.length_cons, Nat.reduceAdd, Nat.reduceMul, Nat.reduceSub, Nat.reduceLeDiff, true_and, and_true, ↓reduceIte, not_false_eq_true, not_true_eq_false, nI_add, pk_mul, jn_ltT, jn_ltF, jn_leT, jn_leF, jn_eqT, jn_eqF, jn_lt0, jn_ge0, jn_eq0T, jn_eq0F, jn_in, jn_cl, jf_149_21 hR, ja_165 hR]
    exact k
  · rw [show js_swt 42 74 0 4 [34, 41, 50, 60, 67] (nI 5) = 116 by decide +kernel]
    simp (disch := omega) only [s167_0, s167_1, s167_4, s167_7, s167_8, s167_10, s167_13, s167_14, s167_15, s167_18, s167_19, s167_20, s167_23, s167_26, s167_27, s167_30, s167_31, s167_32, s167_35, s167_36, s167_37, s167_40, s167_41, s167_42, s167_76, s167_77, s167_80, s167_81, s167_82, s167_83, s167_84, s167_87, s167_88, s167_89, s167_90, s167_91, s167_92, s167_93, s167_96, s167_97, s167_98, s167_100, s167_101, s167_102, s167_103, s167_106, s167_107, s167_108, s167_109, s167_110, s167_113, s167_114, s167_115, s167_116, s167_117, s167_120, s167_121, s167_122, Option.some.injEq, exists_eq_left', exists_eq_left, List.cons_append, List.nil_append, List.length_nil, List.length_cons, Nat.reduceAdd, Nat.reduceMul, Nat.reduceSub, Nat.reduceLeDiff, true_and, and_true, ↓reduceIte, not_false_eq_true, not_true_eq_false, nI_add, pk_mul, jn_ltT, jn_ltF, jn_leT, jn_leF, jn_eqT, jn_eqF, jn_lt0, jn_ge0, jn_eq0T, jn_eq0F, jn_in, jn_cl, jf_149_22 hR, ja_166 hR]
    exact k
/-- what is said at a place -/
def jsaid (v : Nat → Int32) (R C r c : Nat) (n B w : Nat) : Nat := match n with
  | 0 => w
  | n + 1 => if jev v R C B = true then w else if (if 32 ≤ jcut v R C B then (jcut v R C B / 32).testBit r else (jcut v R C B).testBit c) = true then jsaid v R C r c n (jsn v R C B) (2 * w + 1) else jsaid v R C r c n (jfr v R C B) (2 * w)
theorem jsaid_s {v : Nat → Int32} {R C r c n B w : Nat} : jsaid v R C r c (n + 1) B w = if jev v R C B = true then w else if (if 32 ≤ jcut v R C B then (jcut v R C B / 32).testBit r else (jcut v R C B).testBit c) = true then jsaid v R C r c n (jsn v R C B) (2 * w + 1) else jsaid v R C r c n (jfr v R C B) (2 * w) := rfl
theorem md_said_l (hR : jR F A G g h) (hr : F 149 0 ≤ 5) (hc : F 149 1 ≤ 5) {v : Nat → Int32} {r c : Nat} (hr' : r < 5) (hc' : c < 5) : ∀ n B k D w (w5 : Value), B < n → jblk (F 149 0) (F 149 1) B = true → D + jlb v (F 149 0) (F 149 1) B ≤ 6 → w < 2 ^ (D + 1) → k + 2 * jar B ≤ 60 → jtk v (F 149 0) (F 149 1) n k B D A → Q [.int (nI (jsaid v (F 149 0) (F 149 1) r c n B w))] h → jx_Go jxP (d + 1) 168 34 [.ref 149, .int (nI r), .int (nI c), .int (nI k), .int (nI w), w5] [] h Q := by
  have p1 := jp2 _ hr
  have p2 := jp2 _ hc
  intro n
  induction n with
  | zero => intro B k D w w5 hB; omega
  | succ n ih =>
    intro B k D w w5 hB hb hD hw hk t kq
    have hb' := jblk_iff.mp hb
    have hBB : B < 1024 := by omega
    have ha := jar_1 hBB (by omega) (by omega)
    have pw : 2 ^ (D + 1) ≤ 128 := Nat.le_trans (Nat.pow_le_pow_right (by omega) (show D + 1 ≤ 7 by omega)) (by decide)
    have pw2 : 2 ^ (D + 1 + 1) = 2 ^ (D + 1) * 2 := Nat.pow_succ _ _
    obtain ⟨t1, t2, t3⟩ := t
    rw [jsaid_s] at kq
    by_cases he : jev v (F 149 0) (F 149 1) B = true
    · rw [if_pos he] at t3 kq
      rw [s168_34]
      simp (disch := omega) only [s168_35, s168_38, s168_39, s168_40, s168_41, s168_121, s168_123, Option.some.injEq, exists_eq_left', exists_eq_left, List.cons_append, List.nil_append, List.length_nil, List.length_cons, Nat.reduceAdd, Nat.reduceMul, Nat.reduceSub, Nat.reduceLeDiff, true_and, and_true, ↓reduceIte, not_false_eq_true, not_true_eq_false, nI_add, pk_mul, jn_ltT, jn_ltF, jn_leT, jn_leF, jn_eqT, jn_eqF, jn_lt0, jn_ge0, jn_eq0T, jn_eq0F, jn_in, jn_cl, jf_149_19 hR, ja_163 hR, t3.1]
      exact kq
    · rw [if_neg he] at t3 kq
      obtain ⟨b1, b2, l1, l2, hX, hS, hL, hA⟩ := jcut_ok hr hc hb he
      obtain ⟨t4, t5, t6, t7, t8, t9⟩ := t3
      have b1' := jblk_iff.mp b1
      have b2' := jblk_iff.mp b2
      have r1 := jar_1 (B := jfr v (F 149 0) (F 149 1) B) (by omega) (by omega) (by omega)
      have r2 := jar_1 (B := jsn v (F 149 0) (F 149 1) B) (by omega) (by omega) (by omega)
      have S1 := jtS_le (v := v) hr hc n _ b1
      have k78 : ∀ u : Bool, u = (if 32 ≤ jcut v (F 149 0) (F 149 1) B then (jcut v (F 149 0) (F 149 1) B / 32).testBit r else (jcut v (F 149 0) (F 149 1) B).testBit c) → jx_Go jxP (d + 1) 168 78 [.ref 149, .int (nI r), .int (nI c), .int (nI k), .int (nI w), w5] [.int (nI (if u = true then 1 else 0))] h Q := by
        intro u eu
        rw [← eu] at kq
        cases u with
        | true =>
          rw [if_pos rfl] at kq
          simp (disch := omega) only [s168_78, s168_80, s168_81, s168_83, s168_84, s168_86, s168_89, s168_90, s168_93, s168_94, s168_95, s168_97, s168_99, s168_102, s168_103, s168_106, s168_107, s168_108, s168_111, s168_112, s168_115, s168_116, s168_117, s168_118, Option.some.injEq, exists_eq_left', exists_eq_left, List.cons_append, List.nil_append, List.length_nil, List.length_cons, Nat.reduceAdd, Nat.reduceMul, Nat.reduceSub, Nat.reduceLeDiff, true_and, and_true, ↓reduceIte, not_false_eq_true, not_true_eq_false, nI_add, pk_mul, jn_ltT, jn_ltF, jn_leT, jn_leF, jn_eqT, jn_eqF, jn_lt0, jn_ge0, jn_eq0T, jn_eq0F, jn_in, jn_cl, jf_149_21 hR, ja_165 hR, t7]
          exact ih _ _ (D + 1) _ _ (by omega) b2 (by omega) (by omega) (by omega) t9 kq
        | false =>
          rw [if_neg (by decide)] at kq
          simp (disch := omega) only [s168_78, s168_80, s168_81, s168_83, s168_84, s168_86, s168_89, s168_90, s168_93, s168_94, s168_95, s168_97, s168_99, s168_102, s168_103, s168_106, s168_107, s168_108, s168_111, s168_112, s168_115, s168_116, s168_117, s168_118, Option.some.injEq, exists_eq_left', exists_eq_left, List.cons_append, List.nil_append, List.length_nil, List.length_cons, Nat.reduceAdd, Nat.reduceMul, Nat.reduceSub, Nat.reduceLeDiff, true_and, and_true, ↓reduceIte, not_false_eq_true, not_true_eq_false, nI_add, pk_mul, jn_ltT, jn_ltF, jn_leT, jn_leF, jn_eqT, jn_eqF, jn_lt0, jn_ge0, jn_eq0T, jn_eq0F, jn_in, jn_cl, jf_149_20 hR, ja_164 hR, t6, Bool.false_eq_true]
          exact ih _ _ (D + 1) _ _ (by omega) b1 (by omega) (by omega) (by omega) t8 kq
      rw [s168_34]
      by_cases wc : 32 ≤ jcut v (F 149 0) (F 149 1) B
      · rw [if_pos wc] at t4
        have k79 := k78 _ rfl
        rw [if_pos wc] at k79
        simp (disch := omega) only [s168_35, s168_38, s168_39, s168_40, s168_41, s168_44, s168_45, s168_48, s168_49, s168_50, s168_53, s168_54, s168_57, s168_58, s168_59, s168_60, s168_61, s168_62, s168_65, Option.some.injEq, exists_eq_left', exists_eq_left, List.cons_append, List.nil_append, List.length_nil, List.length_cons, Nat.reduceAdd, Nat.reduceMul, Nat.reduceSub, Nat.reduceLeDiff, true_and, and_true, ↓reduceIte, not_false_eq_true, not_true_eq_false, nI_add, pk_mul, jn_ltT, jn_ltF, jn_leT, jn_leF, jn_eqT, jn_eqF, jn_lt0, jn_ge0, jn_eq0T, jn_eq0F, jn_in, jn_cl, jf_149_19 hR, jf_149_23 hR, ja_163 hR, ja_167 hR, t4, t5, jsh5, md_in]
        exact k79
      · rw [if_neg wc] at t4
        have k79 := k78 _ rfl
        rw [if_neg wc] at k79
        simp (disch := omega) only [s168_35, s168_38, s168_39, s168_40, s168_41, s168_44, s168_45, s168_48, s168_49, s168_50, s168_68, s168_69, s168_72, s168_73, s168_74, s168_75, Option.some.injEq, exists_eq_left', exists_eq_left, List.cons_append, List.nil_append, List.length_nil, List.length_cons, Nat.reduceAdd, Nat.reduceMul, Nat.reduceSub, Nat.reduceLeDiff, true_and, and_true, ↓reduceIte, not_false_eq_true, not_true_eq_false, nI_add, pk_mul, jn_ltT, jn_ltF, jn_leT, jn_leF, jn_eqT, jn_eqF, jn_lt0, jn_ge0, jn_eq0T, jn_eq0F, jn_in, jn_cl, jf_149_19 hR, jf_149_23 hR, ja_163 hR, ja_167 hR, t4, t5, md_in]
        exact k79
theorem md_said_0 (hR : jR F A G g h) (e : F 149 14 = 0) {x y : Int32} (k : ∀ h', jR (jup F 149 13 (F 149 13 + 1)) A G g h' → jD h h' → Q [.int (-6)] h') : jx_Go jxP (d + 1) 168 0 [.ref 149, .int x, .int y, jx_u, jx_u, jx_u] [] h Q := by
  simp (disch := omega) only [s168_0, s168_1, s168_4, s168_7, s168_8, s168_10, Option.some.injEq, exists_eq_left', exists_eq_left, List.cons_append, List.nil_append, List.length_nil, List.length_cons, Nat.reduceAdd, Nat.reduceMul, Nat.reduceSub, Nat.reduceLeDiff, true_and, and_true, ↓reduceIte, not_false_eq_true, not_true_eq_false, nI_add, pk_mul, jn_ltT, jn_ltF, jn_leT, jn_leF, jn_eqT, jn_eqF, jn_lt0, jn_ge0, jn_eq0T, jn_eq0F, jn_in, jn_cl, jf_149_14 hR, jc_of_149 hR]
  exact md_finding hR (fun h' hR' hD' => by simp only [s168_13, Option.some.injEq, exists_eq_left', exists_eq_left, List.cons_append, List.nil_append, List.length_nil, List.length_cons, Nat.reduceAdd, Nat.reduceMul, Nat.reduceSub, Nat.reduceLeDiff, true_and, and_true, ↓reduceIte, not_false_eq_true, not_true_eq_false, nI_add, pk_mul, jn_ltT, jn_ltF, jn_leT, jn_leF, jn_eqT, jn_eqF, jn_lt0, jn_ge0, jn_eq0T, jn_eq0F, jn_in, jn_cl]; exact k h' hR' hD')
theorem md_said_f (hR : jR F A G g h) (e : 0 < F 149 14) (e2 : F 149 14 < 64) {x y : Int32} (hn : ¬ (jbel x (F 149 0) = true ∧ jbel y (F 149 1) = true)) (k : ∀ h', jR (jup F 149 13 (F 149 13 + 1)) A G g h' → jD h h' → Q [.int (-1)] h') : jx_Go jxP (d + 1) 168 0 [.ref 149, .int x, .int y, jx_u, jx_u, jx_u] [] h Q := by
  simp (disch := omega) only [s168_0, s168_1, s168_4, s168_14, s168_15, s168_16, s168_17, Option.some.injEq, exists_eq_left', exists_eq_left, List.cons_append, List.nil_append, List.length_nil, List.length_cons, Nat.reduceAdd, Nat.reduceMul, Nat.reduceSub, Nat.reduceLeDiff, true_and, and_true, ↓reduceIte, not_false_eq_true, not_true_eq_false, nI_add, pk_mul, jn_ltT, jn_ltF, jn_leT, jn_leF, jn_eqT, jn_eqF, jn_lt0, jn_ge0, jn_eq0T, jn_eq0F, jn_in, jn_cl, jf_149_14 hR, jc_of_149 hR, md_isPlace hR]
  rw [if_neg hn]
  simp (disch := omega) only [s168_20, s168_23, s168_24, s168_25, Option.some.injEq, exists_eq_left', exists_eq_left, List.cons_append, List.nil_append, List.length_nil, List.length_cons, Nat.reduceAdd, Nat.reduceMul, Nat.reduceSub, Nat.reduceLeDiff, true_and, and_true, ↓reduceIte, not_false_eq_true, not_true_eq_false, nI_add, pk_mul, jn_ltT, jn_ltF, jn_leT, jn_leF, jn_eqT, jn_eqF, jn_lt0, jn_ge0, jn_eq0T, jn_eq0F, jn_in, jn_cl, jc_of_149 hR]
  exact md_finding hR (fun h' hR' hD' => by simp only [s168_28, Option.some.injEq, exists_eq_left', exists_eq_left, List.cons_append, List.nil_append, List.length_nil, List.length_cons, Nat.reduceAdd, Nat.reduceMul, Nat.reduceSub, Nat.reduceLeDiff, true_and, and_true, ↓reduceIte, not_false_eq_true, not_true_eq_false, nI_add, pk_mul, jn_ltT, jn_ltF, jn_leT, jn_leF, jn_eqT, jn_eqF, jn_lt0, jn_ge0, jn_eq0T, jn_eq0F, jn_in, jn_cl]; exact k h' hR' hD')
theorem md_said_t (hR : jR F A G g h) (e : 0 < F 149 14) (e2 : F 149 14 < 64) (hr : F 149 0 ≤ 5) (hc : F 149 1 ≤ 5) {v : Nat → Int32} {r c : Nat} (hr' : r < F 149 0) (hc' : c < F 149 1) (t : jtk v (F 149 0) (F 149 1) 1024 0 (jalB (F 149 0) (F 149 1)) 0 A) (k : Q [.int (nI (jsaid v (F 149 0) (F 149 1) r c 1024 (jalB (F 149 0) (F 149 1)) 1))] h) : jx_Go jxP (d + 1) 168 0 [.ref 149, .int (nI r), .int (nI c), jx_u, jx_u, jx_u] [] h Q := by
  obtain ⟨hb, hB⟩ := jalB_blk hr hc (by omega) (by omega)
  have h25 := jar_25 hB
  simp (disch := omega) only [s168_0, s168_1, s168_4, s168_14, s168_15, s168_16, s168_17, Option.some.injEq, exists_eq_left', exists_eq_left, List.cons_append, List.nil_append, List.length_nil, List.length_cons, Nat.reduceAdd, Nat.reduceMul, Nat.reduceSub, Nat.reduceLeDiff, true_and, and_true, ↓reduceIte, not_false_eq_true, not_true_eq_false, nI_add, pk_mul, jn_ltT, jn_ltF, jn_leT, jn_leF, jn_eqT, jn_eqF, jn_lt0, jn_ge0, jn_eq0T, jn_eq0F, jn_in, jn_cl, jf_149_14 hR, jc_of_149 hR, md_isPlace hR]
  rw [if_pos ⟨jbel_n (by omega) (by omega), jbel_n (by omega) (by omega)⟩]
  simp (disch := omega) only [s168_20, s168_29, s168_30, s168_31, s168_32, Option.some.injEq, exists_eq_left', exists_eq_left, List.cons_append, List.nil_append, List.length_nil, List.length_cons, Nat.reduceAdd, Nat.reduceMul, Nat.reduceSub, Nat.reduceLeDiff, true_and, and_true, ↓reduceIte, not_false_eq_true, not_true_eq_false, nI_add, pk_mul, jn_ltT, jn_ltF, jn_leT, jn_leF, jn_eqT, jn_eqF, jn_lt0, jn_ge0, jn_eq0T, jn_eq0F, jn_in, jn_cl]
  exact md_said_l hR hr hc (by omega) (by omega) 1024 _ 0 0 1 _ hB hb (by have := jlb_6 (v := v) hr hc hB; omega) (by decide) (by omega) t k
end MD14
