/-! ===== the reference: the least that is wrong ===== -/
section MD21
variable {d : Nat} {F : Nat → Nat → Nat} {A : Nat → Nat → Int32} {G : Nat → Option Nat} {g : Nat → Int64} {h : jxH} {Q : List Value → jxH → Prop}
/-- what is wrong with one answer for the whole block -/
def jw0 (v : Nat → Int32) (W : Nat → Nat) (R C B : Nat) : Nat := min (jwo v W R C B (nI 1)) (jwo v W R C B (nI 0))
/-- the least that is wrong with e bits -/
def jwr (v : Nat → Int32) (W : Nat → Nat) (R C e : Nat) : Nat → Nat := match e with
  | 0 => jw0 v W R C
  | e + 1 => fun B => jbst (fun a b => a + b) (jwr v W R C e) (B / 32) (B % 32) 32 (jw0 v W R C B)
theorem jwr_s {v : Nat → Int32} {W : Nat → Nat} {R C e B : Nat} : jwr v W R C (e + 1) B = jbst (fun a b => a + b) (jwr v W R C e) (B / 32) (B % 32) 32 (jw0 v W R C B) := rfl
theorem jw0_le {v : Nat → Int32} {W : Nat → Nat} {wt : Nat → Int32} {R C B : Nat} (hw : jW wt R C W) (hr : R ≤ 5) (hc : C ≤ 5) : jw0 v W R C B ≤ 25000 := Nat.le_trans (Nat.min_le_left _ _) (jwo_le hw hr hc)
theorem jwr_le {v : Nat → Int32} {W : Nat → Nat} {wt : Nat → Int32} {R C e B : Nat} (hw : jW wt R C W) (hr : R ≤ 5) (hc : C ≤ 5) : jwr v W R C e B ≤ 25000 := by
  cases e with
  | zero => exact jw0_le hw hr hc
  | succ e => rw [jwr_s]; exact Nat.le_trans (jbst_le _) (jw0_le hw hr hc)
theorem md_lessWrong {c : Bool} (hR : jR F A G g h) {B S e B1 B2 c1 c2 u : Nat} (hB : B < 1024) (he : 1 ≤ e) (he6 : e ≤ 6) (hc : c = true → B1 < B ∧ B2 < B ∧ ((S < 32 ∧ 32 * (B / 32) ||| S = B2) ∨ (32 ≤ S ∧ S < 1024 ∧ S ||| B % 32 = B2)) ∧ B ^^^ S = B1 ∧ A 177 (1024 * (e - 1) + B1) = nI c1 ∧ A 177 (1024 * (e - 1) + B2) = nI c2 ∧ c1 ≤ 25000 ∧ c2 ≤ 25000) (hu : u ≤ 25000) (k : Q [.int (nI (if c = true then min (c1 + c2) u else u))] h) : jx_Go jxP d 184 0 [.ref 149, .int (nI B), .int (nI c.toNat), .int (nI S), .int (nI e), .int (nI u), jx_u, jx_u] [] h Q := by
  cases c with
  | false =>
    rw [if_neg (by decide)] at k
    simp (disch := omega) only [s184_0, s184_1, s184_4, s184_6, Option.some.injEq, exists_eq_left', exists_eq_left, List.cons_append, List.nil_append, List.length_nil, List.length_cons, Nat.reduceAdd, Nat.reduceMul, Nat.reduceSub, Nat.reduceLeDiff, true_and, and_true, ↓reduceIte, not_false_eq_true, not_true_eq_false, nI_add, pk_mul, jn_ltT, jn_ltF, jn_leT, jn_leF, jn_eqT, jn_eqF, jn_lt0, jn_ge0, jn_eq0T, jn_eq0F, jn_in, jn_cl, Bool.toNat_false]
    exact k
  | true =>
    rw [if_pos rfl] at k
    obtain ⟨a1, a2, a3, hX, a5, a6, a7, a8⟩ := hc rfl
    have k28 : jx_Go jxP d 184 28 [.ref 149, .int (nI B), .int (nI 1), .int (nI S), .int (nI e), .int (nI u), jx_u, jx_u] [.int (nI B2)] h Q := by
      by_cases w : u ≤ c1 + c2
      · rw [Nat.min_eq_right w] at k
        simp (disch := omega) only [s184_28, s184_30, s184_31, s184_34, s184_37, s184_39, s184_40, s184_41, s184_42, s184_43, s184_44, s184_45, s184_46, s184_47, s184_48, s184_51, s184_54, s184_56, s184_57, s184_58, s184_59, s184_61, s184_62, s184_63, s184_64, s184_66, s184_68, s184_70, s184_73, s184_75, s184_78, s184_80, Option.some.injEq, exists_eq_left', exists_eq_left, List.cons_append, List.nil_append, List.length_nil, List.length_cons, Nat.reduceAdd, Nat.reduceMul, Nat.reduceSub, Nat.reduceLeDiff, true_and, and_true, ↓reduceIte, not_false_eq_true, not_true_eq_false, nI_add, pk_mul, jn_ltT, jn_ltF, jn_leT, jn_leF, jn_eqT, jn_eqF, jn_lt0, jn_ge0, jn_eq0T, jn_eq0F, jn_in, jn_cl, jf_149_33 hR, ja_177 hR, jn_sub, jn_xor, hX, a5, a6]
        exact k
      · rw [Nat.min_eq_left (by omega)] at k
        simp (disch := omega) only [s184_28, s184_30, s184_31, s184_34, s184_37, s184_39, s184_40, s184_41, s184_42, s184_43, s184_44, s184_45, s184_46, s184_47, s184_48, s184_51, s184_54, s184_56, s184_57, s184_58, s184_59, s184_61, s184_62, s184_63, s184_64, s184_66, s184_68, s184_70, s184_73, s184_75, s184_78, s184_80, Option.some.injEq, exists_eq_left', exists_eq_left, List.cons_append, List.nil_append, List.length_nil, List.length_cons, Nat.reduceAdd, Nat.reduceMul, Nat.reduceSub, Nat.reduceLeDiff, true_and, and_true, ↓reduceIte, not_false_eq_true, not_true_eq_false, nI_add, pk_mul, jn_ltT, jn_ltF, jn_leT, jn_leF, jn_eqT, jn_eqF, jn_lt0, jn_ge0, jn_eq0T, jn_eq0F, jn_in, jn_cl, jf_149_33 hR, ja_177 hR, jn_sub, jn_xor, hX, a5, a6]
        exact k
    rcases a3 with ⟨w, e'⟩ | ⟨w, w2, e'⟩
    · simp (disch := omega) only [s184_0, s184_1, s184_4, s184_6, s184_7, s184_8, s184_10, s184_13, s184_14, s184_16, s184_17, s184_18, s184_19, Option.some.injEq, exists_eq_left', exists_eq_left, List.cons_append, List.nil_append, List.length_nil, List.length_cons, Nat.reduceAdd, Nat.reduceMul, Nat.reduceSub, Nat.reduceLeDiff, true_and, and_true, ↓reduceIte, not_false_eq_true, not_true_eq_false, nI_add, pk_mul, jn_ltT, jn_ltF, jn_leT, jn_leF, jn_eqT, jn_eqF, jn_lt0, jn_ge0, jn_eq0T, jn_eq0F, jn_in, jn_cl, Bool.toNat_true, jx4, jn_or, e']
      exact k28
    · simp (disch := omega) only [s184_0, s184_1, s184_4, s184_6, s184_7, s184_8, s184_10, s184_13, s184_14, s184_16, s184_17, s184_18, s184_19, s184_22, s184_23, s184_24, s184_26, s184_27, Option.some.injEq, exists_eq_left', exists_eq_left, List.cons_append, List.nil_append, List.length_nil, List.length_cons, Nat.reduceAdd, Nat.reduceMul, Nat.reduceSub, Nat.reduceLeDiff, true_and, and_true, ↓reduceIte, not_false_eq_true, not_true_eq_false, nI_add, pk_mul, jn_ltT, jn_ltF, jn_leT, jn_leF, jn_eqT, jn_eqF, jn_lt0, jn_ge0, jn_eq0T, jn_eq0F, jn_in, jn_cl, Bool.toNat_true, jan31, jn_or, e']
      exact k28
theorem md_wrong_f (hR : jR F A G g h) {x : Int32} (hx : ¬ jbel x 7 = true) (k : ∀ h', jR (jup F 149 13 (F 149 13 + 1)) A G g h' → jD h h' → Q [.int (-1)] h') : jx_Go jxP (d + 1) 183 0 [.ref 149, .int x, jx_u, jx_u, jx_u, jx_u, jx_u, jx_u] [] h Q := by
  have key : jx_Go jxP (d + 1) 183 10 [.ref 149, .int x, jx_u, jx_u, jx_u, jx_u, jx_u, jx_u] [] h Q := by
    simp only [s183_10, s183_11, s183_12, Option.some.injEq, exists_eq_left', exists_eq_left, List.cons_append, List.nil_append, List.length_nil, List.length_cons, Nat.reduceAdd, Nat.reduceMul, Nat.reduceSub, Nat.reduceLeDiff, true_and, and_true, ↓reduceIte, not_false_eq_true, not_true_eq_false, nI_add, pk_mul, jn_ltT, jn_ltF, jn_leT, jn_leF, jn_eqT, jn_eqF, jn_lt0, jn_ge0, jn_eq0T, jn_eq0F, jn_in, jn_cl, jc_of_149 hR]
    exact md_finding hR (fun h' hR' hD' => by simp only [s183_15, Option.some.injEq, exists_eq_left', exists_eq_left, List.cons_append, List.nil_append, List.length_nil, List.length_cons, Nat.reduceAdd, Nat.reduceMul, Nat.reduceSub, Nat.reduceLeDiff, true_and, and_true, ↓reduceIte, not_false_eq_true, not_true_eq_false, nI_add, pk_mul, jn_ltT, jn_ltF, jn_leT, jn_leF, jn_eqT, jn_eqF, jn_lt0, jn_ge0, jn_eq0T, jn_eq0F, jn_in, jn_cl]; exact k h' hR' hD')
  simp only [s183_0, s183_1, Option.some.injEq, exists_eq_left', exists_eq_left, List.cons_append, List.nil_append, List.length_nil, List.length_cons, Nat.reduceAdd, Nat.reduceMul, Nat.reduceSub, Nat.reduceLeDiff, true_and, and_true, ↓reduceIte, not_false_eq_true, not_true_eq_false, nI_add, pk_mul, jn_ltT, jn_ltF, jn_leT, jn_leF, jn_eqT, jn_eqF, jn_lt0, jn_ge0, jn_eq0T, jn_eq0F, jn_in, jn_cl]
  rcases jbel_f hx with w | ⟨w, w2⟩
  · rw [if_pos w]; exact key
  · rw [if_neg w]
    simp only [s183_4, s183_5, s183_7, Option.some.injEq, exists_eq_left', exists_eq_left, List.cons_append, List.nil_append, List.length_nil, List.length_cons, Nat.reduceAdd, Nat.reduceMul, Nat.reduceSub, Nat.reduceLeDiff, true_and, and_true, ↓reduceIte, not_false_eq_true, not_true_eq_false, nI_add, pk_mul, jn_ltT, jn_ltF, jn_leT, jn_leF, jn_eqT, jn_eqF, jn_lt0, jn_ge0, jn_eq0T, jn_eq0F, jn_in, jn_cl]
    rw [if_neg (by rw [jle_bel (by omega)]; exact fun z => z w2)]
    exact key
theorem md_wrong_t (hR : jR F A G g h) (hr : F 149 0 ≤ 5) (hc : F 149 1 ≤ 5) (hr1 : 1 ≤ F 149 0) (hc1 : 1 ≤ F 149 1) {W : Nat → Nat} (hw : jW (A 151) (F 149 0) (F 149 1) W) {n : Nat} (hn : n < 7) (kk : ∀ h' f, jR F (jua A 177 f) G g h' → jD h h' → Q [.int (nI (jwr (A 150) W (F 149 0) (F 149 1) n (jalB (F 149 0) (F 149 1))))] h') : jx_Go jxP (d + 2) 183 0 [.ref 149, .int (nI n), jx_u, jx_u, jx_u, jx_u, jx_u, jx_u] [] h Q := by
  have p1 := jp2 _ hr
  have p2 := jp2 _ hc
  obtain ⟨hball, ub⟩ := jalB_blk hr hc hr1 hc1
  have al : ∀ f h1, jR F (jua A 177 f) G g h1 → ∀ (d : Nat) (Q : List Value → jxH → Prop), jx_Go jxP d 154 0 [.ref 149] [] h1 Q ↔ Q [.int (nI (jalB (F 149 0) (F 149 1)))] h1 := fun f h1 hR1 d Q => md_all hR1 hr hc
  have e150 : ∀ f, jua A 177 f 150 = A 150 := fun f => jua_ne (by decide)
  have e151 : ∀ f, jua A 177 f 151 = A 151 := fun f => jua_ne (by decide)
  have e177 : ∀ f, jua A 177 f 177 = f := fun f => jua_same
  simp (disch := omega) only [s183_0, s183_1, s183_4, s183_5, s183_7, s183_10, s183_11, s183_12, s183_15, s183_16, s183_17, Option.some.injEq, exists_eq_left', exists_eq_left, List.cons_append, List.nil_append, List.length_nil, List.length_cons, Nat.reduceAdd, Nat.reduceMul, Nat.reduceSub, Nat.reduceLeDiff, true_and, and_true, ↓reduceIte, not_false_eq_true, not_true_eq_false, nI_add, pk_mul, jn_ltT, jn_ltF, jn_leT, jn_leF, jn_eqT, jn_eqF, jn_lt0, jn_ge0, jn_eq0T, jn_eq0F, jn_in, jn_cl]
  refine jloop (fun e => ∀ w3 w4 w5 w6 w7 h1 f, jR F (jua A 177 f) G g h1 → jD h h1 → (∀ e' B, e' < e → jblk (F 149 0) (F 149 1) B = true → f (1024 * e' + B) = nI (jwr (A 150) W (F 149 0) (F 149 1) e' B)) → jx_Go jxP (d + 2) 183 18 [.ref 149, .int (nI n), .int (nI e), w3, w4, w5, w6, w7] [] h1 Q) (n + 1) ?_ ?_ 0 (Nat.zero_le _) _ _ _ _ _ h (A 177) (by rw [jua_id]; exact hR) jD.rf (fun e' B w => by omega)
  · intro w3 w4 w5 w6 w7 h1 f hR1 hD1 hI
    rw [s183_18]
    simp (disch := omega) only [s183_19, s183_20, s183_164, s183_165, s183_168, s183_171, s183_172, s183_173, s183_174, s183_177, s183_178, s183_179, Option.some.injEq, exists_eq_left', exists_eq_left, List.cons_append, List.nil_append, List.length_nil, List.length_cons, Nat.reduceAdd, Nat.reduceMul, Nat.reduceSub, Nat.reduceLeDiff, true_and, and_true, ↓reduceIte, not_false_eq_true, not_true_eq_false, nI_add, pk_mul, jn_ltT, jn_ltF, jn_leT, jn_leF, jn_eqT, jn_eqF, jn_lt0, jn_ge0, jn_eq0T, jn_eq0F, jn_in, jn_cl, jf_149_33 hR1, ja_177 hR1, jc_of_149 hR1, al f h1 hR1, e177, hI n _ (Nat.lt_succ_self n) hball]
    exact kk h1 f hR1 hD1
  · intro e he ih w3 w4 w5 w6 w7 h1 f hR1 hD1 hI
    rw [s183_18]
    simp (disch := omega) only [s183_19, s183_20, s183_23, s183_24, Option.some.injEq, exists_eq_left', exists_eq_left, List.cons_append, List.nil_append, List.length_nil, List.length_cons, Nat.reduceAdd, Nat.reduceMul, Nat.reduceSub, Nat.reduceLeDiff, true_and, and_true, ↓reduceIte, not_false_eq_true, not_true_eq_false, nI_add, pk_mul, jn_ltT, jn_ltF, jn_leT, jn_leF, jn_eqT, jn_eqF, jn_lt0, jn_ge0, jn_eq0T, jn_eq0F, jn_in, jn_cl]
    refine jloop (fun B => ∀ w4 w5 w6 w7 h2 f2, jR F (jua A 177 f2) G g h2 → jD h h2 → (∀ e' B', e' < e → jblk (F 149 0) (F 149 1) B' = true → f2 (1024 * e' + B') = nI (jwr (A 150) W (F 149 0) (F 149 1) e' B')) → (∀ B', B' < B → jblk (F 149 0) (F 149 1) B' = true → f2 (1024 * e + B') = nI (jwr (A 150) W (F 149 0) (F 149 1) e B')) → jx_Go jxP (d + 2) 183 25 [.ref 149, .int (nI n), .int (nI e), .int (nI B), w4, w5, w6, w7] [] h2 Q) (jalB (F 149 0) (F 149 1) + 1) ?_ ?_ 0 (Nat.zero_le _) _ _ _ _ h1 f hR1 hD1 hI (fun B' w => by omega)
    · intro w4 w5 w6 w7 h2 f2 hR2 hD2 hI2 hJ2
      rw [s183_25]
      simp (disch := omega) only [s183_26, s183_27, s183_30, s183_158, s183_161, Option.some.injEq, exists_eq_left', exists_eq_left, List.cons_append, List.nil_append, List.length_nil, List.length_cons, Nat.reduceAdd, Nat.reduceMul, Nat.reduceSub, Nat.reduceLeDiff, true_and, and_true, ↓reduceIte, not_false_eq_true, not_true_eq_false, nI_add, pk_mul, jn_ltT, jn_ltF, jn_leT, jn_leF, jn_eqT, jn_eqF, jn_lt0, jn_ge0, jn_eq0T, jn_eq0F, jn_in, jn_cl, jc_of_149 hR2, al f2 h2 hR2]
      refine ih _ _ _ _ _ h2 f2 hR2 hD2 (fun e' B w hb => ?_)
      rcases Nat.lt_succ_iff_lt_or_eq.mp w with w | w
      · exact hI2 e' B w hb
      · rw [w]
        refine hJ2 B ?_ hb
        have := jblk_iff.mp hb
        unfold jalB
        omega
    · intro B hB ih2 w4 w5 w6 w7 h2 f2 hR2 hD2 hI2 hJ2
      rw [s183_25]
      simp (disch := omega) only [s183_26, s183_27, s183_30, s183_33, s183_34, s183_35, Option.some.injEq, exists_eq_left', exists_eq_left, List.cons_append, List.nil_append, List.length_nil, List.length_cons, Nat.reduceAdd, Nat.reduceMul, Nat.reduceSub, Nat.reduceLeDiff, true_and, and_true, ↓reduceIte, not_false_eq_true, not_true_eq_false, nI_add, pk_mul, jn_ltT, jn_ltF, jn_leT, jn_leF, jn_eqT, jn_eqF, jn_lt0, jn_ge0, jn_eq0T, jn_eq0F, jn_in, jn_cl, jc_of_149 hR2, al f2 h2 hR2]
      rw [md_isBlock hR2 hr hc (by unfold jalB at hB; omega)]
      by_cases hb : jblk (F 149 0) (F 149 1) B = true
      · rw [if_pos hb]
        have hb' := jblk_iff.mp hb
        have hB1 : B < 1024 := by omega
        have k138 : ∀ w4 w5 w7, jx_Go jxP (d + 2) 183 138 [.ref 149, .int (nI n), .int (nI e), .int (nI B), w4, w5, .int (nI (jwr (A 150) W (F 149 0) (F 149 1) e B)), w7] [] h2 Q := by
          intro w4 w5 w7
          simp (disch := omega) only [s183_138, s183_139, s183_142, s183_145, s183_146, s183_147, s183_148, s183_149, s183_151, s183_152, s183_155, Option.some.injEq, exists_eq_left', exists_eq_left, List.cons_append, List.nil_append, List.length_nil, List.length_cons, Nat.reduceAdd, Nat.reduceMul, Nat.reduceSub, Nat.reduceLeDiff, true_and, and_true, ↓reduceIte, not_false_eq_true, not_true_eq_false, nI_add, pk_mul, jn_ltT, jn_ltF, jn_leT, jn_leF, jn_eqT, jn_eqF, jn_lt0, jn_ge0, jn_eq0T, jn_eq0F, jn_in, jn_cl, jh_ai_wi, jh_ai_wi_ne, jh_ai_uf, jh_fl_wi_ne, jh_fl_uf_ne, jh_fl_uf_o, jh_cl_wi_ne, jh_cl_uf, jh_al_wi_ne, jh_al_uf, jh_al_wl, jh_al_wl_ne, jh_ai_wl_ne, jh_fl_wl_ne, jh_cl_wl_ne, jh_ar_wi_ne, jh_ar_uf, jh_ar_wl_ne, jh_1_wi, jh_1_uf, jh_1_wl, jf_149_33 hR2, ja_177 hR2, e177]
          have hR3 : jR F (jua A 177 (upd f2 (1024 * e + B) (nI (jwr (A 150) W (F 149 0) (F 149 1) e B)))) G g (jx_wi h2 177 7168 (upd f2 (1024 * e + B) (nI (jwr (A 150) W (F 149 0) (F 149 1) e B)))) := by
            have := hR2.wi (a := 177) (f := upd f2 (1024 * e + B) (nI (jwr (A 150) W (F 149 0) (F 149 1) e B))) rfl
            rw [jua_jua] at this
            exact this
          refine ih2 _ _ _ _ _ _ hR3 (hD2.wi (by decide)) (fun e' B' w hb2 => ?_) (fun B' w hb2 => ?_)
          · have hb3 := jblk_iff.mp hb2
            rw [jupd_ne (by omega)]
            exact hI2 e' B' w hb2
          · by_cases z : B' = B
            · rw [z, jupd_same]
            · rw [jupd_ne (by omega)]
              exact hJ2 B' (by omega) hb2
        have k79 : ∀ w4 w5, jx_Go jxP (d + 2) 183 79 [.ref 149, .int (nI n), .int (nI e), .int (nI B), w4, w5, .int (nI (jw0 (A 150) W (F 149 0) (F 149 1) B)), .int (nI 1)] [] h2 Q := by
          intro w4 w5
          have b0 := jw0_le (v := A 150) (B := B) hw hr hc
          cases e with
          | zero =>
            rw [s183_79]
            simp (disch := omega) only [s183_81, s183_83, s183_86, s183_87, Option.some.injEq, exists_eq_left', exists_eq_left, List.cons_append, List.nil_append, List.length_nil, List.length_cons, Nat.reduceAdd, Nat.reduceMul, Nat.reduceSub, Nat.reduceLeDiff, true_and, and_true, ↓reduceIte, not_false_eq_true, not_true_eq_false, nI_add, pk_mul, jn_ltT, jn_ltF, jn_leT, jn_leF, jn_eqT, jn_eqF, jn_lt0, jn_ge0, jn_eq0T, jn_eq0F, jn_in, jn_cl, jn_le0T]
            exact k138 _ _ _
          | succ e =>
            have T : ∀ B', jwr (A 150) W (F 149 0) (F 149 1) e B' ≤ 25000 := fun B' => jwr_le hw hr hc
            refine jloop (fun s => 1 ≤ s → jx_Go jxP (d + 2) 183 79 [.ref 149, .int (nI n), .int (nI (e + 1)), .int (nI B), w4, w5, .int (nI (jbst (fun a b => a + b) (jwr (A 150) W (F 149 0) (F 149 1) e) (B / 32) (B % 32) s (jw0 (A 150) W (F 149 0) (F 149 1) B))), .int (nI s)] [] h2 Q) 32 ?_ ?_ 1 (by omega) (by omega)
            · intro _
              rw [s183_79]
              simp (disch := omega) only [s183_81, s183_83, Option.some.injEq, exists_eq_left', exists_eq_left, List.cons_append, List.nil_append, List.length_nil, List.length_cons, Nat.reduceAdd, Nat.reduceMul, Nat.reduceSub, Nat.reduceLeDiff, true_and, and_true, ↓reduceIte, not_false_eq_true, not_true_eq_false, nI_add, pk_mul, jn_ltT, jn_ltF, jn_leT, jn_leF, jn_eqT, jn_eqF, jn_lt0, jn_ge0, jn_eq0T, jn_eq0F, jn_in, jn_cl]
              exact k138 _ _ _
            · intro s hs ih3 h1s
              have b1 := jbst_le (f := fun a b => a + b) (T := jwr (A 150) W (F 149 0) (F 149 1) e) (x := B / 32) (y := B % 32) (hi := jw0 (A 150) W (F 149 0) (F 149 1) B) s
              rw [jbst_s] at ih3
              generalize jbst (fun a b => a + b) (jwr (A 150) W (F 149 0) (F 149 1) e) (B / 32) (B % 32) s (jw0 (A 150) W (F 149 0) (F 149 1) B) = cur at *
              rw [s183_79]
              simp (disch := omega) only [s183_81, s183_83, s183_86, s183_87, s183_90, s183_91, s183_92, s183_93, s183_94, s183_96, s183_97, s183_100, s183_102, s183_103, s183_104, s183_105, s183_107, Option.some.injEq, exists_eq_left', exists_eq_left, List.cons_append, List.nil_append, List.length_nil, List.length_cons, Nat.reduceAdd, Nat.reduceMul, Nat.reduceSub, Nat.reduceLeDiff, true_and, and_true, ↓reduceIte, not_false_eq_true, not_true_eq_false, nI_add, pk_mul, jn_ltT, jn_ltF, jn_leT, jn_leF, jn_eqT, jn_eqF, jn_lt0, jn_ge0, jn_eq0T, jn_eq0F, jn_in, jn_cl, jn_le0F, jc_of_149 hR2, md_parted, jsh5l]
              refine md_lessWrong (B1 := 32 * (B / 32 ^^^ s) + B % 32) (B2 := 32 * s + B % 32) (c1 := jwr (A 150) W (F 149 0) (F 149 1) e (32 * (B / 32 ^^^ s) + B % 32)) (c2 := jwr (A 150) W (F 149 0) (F 149 1) e (32 * s + B % 32)) hR2 hB1 (by omega) (by omega) ?_ (by omega) ?_
              · intro hp
                have q := jpt_lt (B / 32) (by omega) s hs hp
                have x1 := jx1 (B / 32) (by omega) (B % 32) (by omega) s hs
                rw [show 32 * (B / 32) + B % 32 = B by omega] at x1
                refine ⟨by omega, by omega, Or.inr ⟨by omega, by omega, jx3 _ (by omega) _ hs⟩, x1, ?_, ?_, T _, T _⟩
                · rw [e177]; exact hI2 e _ (by omega) (jblk_iff.mpr (by omega))
                · rw [e177]; exact hI2 e _ (by omega) (jblk_iff.mpr (by omega))
              · have b2 : (if jpt (B / 32) s = true then min (jwr (A 150) W (F 149 0) (F 149 1) e (32 * (B / 32 ^^^ s) + B % 32) + jwr (A 150) W (F 149 0) (F 149 1) e (32 * s + B % 32)) cur else cur) ≤ 25000 := by split <;> omega
                generalize (if jpt (B / 32) s = true then min (jwr (A 150) W (F 149 0) (F 149 1) e (32 * (B / 32 ^^^ s) + B % 32) + jwr (A 150) W (F 149 0) (F 149 1) e (32 * s + B % 32)) cur else cur) = cur2 at ih3 b2 ⊢
                simp (disch := omega) only [s183_110, s183_112, s183_113, s183_114, s183_115, s183_116, s183_118, s183_119, s183_122, s183_124, s183_125, s183_127, Option.some.injEq, exists_eq_left', exists_eq_left, List.cons_append, List.nil_append, List.length_nil, List.length_cons, Nat.reduceAdd, Nat.reduceMul, Nat.reduceSub, Nat.reduceLeDiff, true_and, and_true, ↓reduceIte, not_false_eq_true, not_true_eq_false, nI_add, pk_mul, jn_ltT, jn_ltF, jn_leT, jn_leF, jn_eqT, jn_eqF, jn_lt0, jn_ge0, jn_eq0T, jn_eq0F, jn_in, jn_cl, jc_of_149 hR2, md_parted]
                refine md_lessWrong (B1 := 32 * (B / 32) + (B % 32 ^^^ s)) (B2 := 32 * (B / 32) + s) (c1 := jwr (A 150) W (F 149 0) (F 149 1) e (32 * (B / 32) + (B % 32 ^^^ s))) (c2 := jwr (A 150) W (F 149 0) (F 149 1) e (32 * (B / 32) + s)) hR2 hB1 (by omega) (by omega) ?_ b2 ?_
                · intro hp
                  have q := jpt_lt (B % 32) (by omega) s hs hp
                  have x1 := jx2 (B / 32) (by omega) (B % 32) (by omega) s hs
                  rw [show 32 * (B / 32) + B % 32 = B by omega] at x1
                  refine ⟨by omega, by omega, Or.inl ⟨hs, jx3 _ hs _ (by omega)⟩, x1, ?_, ?_, T _, T _⟩
                  · rw [e177]; exact hI2 e _ (by omega) (jblk_iff.mpr (by omega))
                  · rw [e177]; exact hI2 e _ (by omega) (jblk_iff.mpr (by omega))
                · simp (disch := omega) only [s183_130, s183_132, s183_135, Option.some.injEq, exists_eq_left', exists_eq_left, List.cons_append, List.nil_append, List.length_nil, List.length_cons, Nat.reduceAdd, Nat.reduceMul, Nat.reduceSub, Nat.reduceLeDiff, true_and, and_true, ↓reduceIte, not_false_eq_true, not_true_eq_false, nI_add, pk_mul, jn_ltT, jn_ltF, jn_leT, jn_leF, jn_eqT, jn_eqF, jn_lt0, jn_ge0, jn_eq0T, jn_eq0F, jn_in, jn_cl]
                  exact ih3 (by omega)
        simp (disch := omega) only [s183_38, s183_41, s183_44, s183_45, s183_46, s183_47, Option.some.injEq, exists_eq_left', exists_eq_left, List.cons_append, List.nil_append, List.length_nil, List.length_cons, Nat.reduceAdd, Nat.reduceMul, Nat.reduceSub, Nat.reduceLeDiff, true_and, and_true, ↓reduceIte, not_false_eq_true, not_true_eq_false, nI_add, pk_mul, jn_ltT, jn_ltF, jn_leT, jn_leF, jn_eqT, jn_eqF, jn_lt0, jn_ge0, jn_eq0T, jn_eq0F, jn_in, jn_cl, jc_of_149 hR2]
        refine md_weightOf hR2 hr hc (by rw [e151]; exact hw) hB1 ?_
        simp (disch := omega) only [s183_50, s183_52, s183_53, s183_54, s183_55, Option.some.injEq, exists_eq_left', exists_eq_left, List.cons_append, List.nil_append, List.length_nil, List.length_cons, Nat.reduceAdd, Nat.reduceMul, Nat.reduceSub, Nat.reduceLeDiff, true_and, and_true, ↓reduceIte, not_false_eq_true, not_true_eq_false, nI_add, pk_mul, jn_ltT, jn_ltF, jn_leT, jn_leF, jn_eqT, jn_eqF, jn_lt0, jn_ge0, jn_eq0T, jn_eq0F, jn_in, jn_cl, jc_of_149 hR2]
        refine md_weightOf hR2 hr hc (by rw [e151]; exact hw) hB1 ?_
        rw [e150]
        have h0 := jwo_le (v := A 150) (B := B) (x := nI 0) hw hr hc
        have h1' := jwo_le (v := A 150) (B := B) (x := nI 1) hw hr hc
        unfold jw0 at k79
        generalize jwo (A 150) W (F 149 0) (F 149 1) B (nI 1) = x1 at *
        generalize jwo (A 150) W (F 149 0) (F 149 1) B (nI 0) = x0 at *
        by_cases w : x0 ≤ x1
        · rw [Nat.min_eq_right w] at k79
          simp (disch := omega) only [s183_58, s183_60, s183_62, s183_64, s183_67, s183_69, s183_72, s183_74, s183_76, s183_77, Option.some.injEq, exists_eq_left', exists_eq_left, List.cons_append, List.nil_append, List.length_nil, List.length_cons, Nat.reduceAdd, Nat.reduceMul, Nat.reduceSub, Nat.reduceLeDiff, true_and, and_true, ↓reduceIte, not_false_eq_true, not_true_eq_false, nI_add, pk_mul, jn_ltT, jn_ltF, jn_leT, jn_leF, jn_eqT, jn_eqF, jn_lt0, jn_ge0, jn_eq0T, jn_eq0F, jn_in, jn_cl]
          exact k79 _ _
        · rw [Nat.min_eq_left (by omega)] at k79
          simp (disch := omega) only [s183_58, s183_60, s183_62, s183_64, s183_67, s183_69, s183_72, s183_74, s183_76, s183_77, Option.some.injEq, exists_eq_left', exists_eq_left, List.cons_append, List.nil_append, List.length_nil, List.length_cons, Nat.reduceAdd, Nat.reduceMul, Nat.reduceSub, Nat.reduceLeDiff, true_and, and_true, ↓reduceIte, not_false_eq_true, not_true_eq_false, nI_add, pk_mul, jn_ltT, jn_ltF, jn_leT, jn_leF, jn_eqT, jn_eqF, jn_lt0, jn_ge0, jn_eq0T, jn_eq0F, jn_in, jn_cl]
          exact k79 _ _
      · rw [if_neg hb]
        simp (disch := omega) only [s183_38, s183_41, s183_152, s183_155, Option.some.injEq, exists_eq_left', exists_eq_left, List.cons_append, List.nil_append, List.length_nil, List.length_cons, Nat.reduceAdd, Nat.reduceMul, Nat.reduceSub, Nat.reduceLeDiff, true_and, and_true, ↓reduceIte, not_false_eq_true, not_true_eq_false, nI_add, pk_mul, jn_ltT, jn_ltF, jn_leT, jn_leF, jn_eqT, jn_eqF, jn_lt0, jn_ge0, jn_eq0T, jn_eq0F, jn_in, jn_cl]
        refine ih2 _ _ _ _ h2 f2 hR2 hD2 hI2 (fun B' w hb2 => ?_)
        by_cases z : B' = B
        · rw [z] at hb2; exact absurd hb2 hb
        · exact hJ2 B' (by omega) hb2
end MD21
