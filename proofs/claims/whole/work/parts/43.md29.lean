/-! ===== the reference: rank ===== -/
section MD29
variable {d : Nat} {F : Nat → Nat → Nat} {A : Nat → Nat → Int32} {G : Nat → Option Nat} {g : Nat → Int64} {h : jxH} {Q : List Value → jxH → Prop}
theorem jlst_congr {p p' : Nat → Bool} : ∀ n, (∀ i, i < n → p i = p' i) → jlst p n = jlst p' n := by
  intro n
  induction n with
  | zero => intro _; rfl
  | succ n ih =>
    intro e
    rw [jlst_s, jlst_s, ih (fun i hi => e i (by omega)), e n (by omega)]
theorem jrs_congr {fr : Bool} {R C : Nat} {z z' : Nat → Int} (hC : C ≤ 5) (e : ∀ q, q / 5 < R → q % 5 < C → z q = z' q) : ∀ c, c ≤ C → (jrs fr R C z c).1 = (jrs fr R C z' c).1 ∧ ∀ q, q / 5 < R → q % 5 < C → (jrs fr R C z c).2 q = (jrs fr R C z' c).2 q := by
  intro c
  induction c with
  | zero => intro _; exact ⟨rfl, e⟩
  | succ c ih =>
    intro hc
    obtain ⟨i1, i2⟩ := ih (by omega)
    rw [jrs_s, jrs_s]
    generalize jrs fr R C z c = x at i1 i2 ⊢
    generalize jrs fr R C z' c = y at i1 i2 ⊢
    obtain ⟨x1, x2⟩ := x
    obtain ⟨y1, y2⟩ := y
    dsimp only at i1 i2 ⊢
    subst i1
    have ep : jpv x2 R c x1 = jpv y2 R c x1 := by
      unfold jpv
      refine jlst_congr R (fun i hi => ?_)
      rw [i2 (5 * i + c) (by omega) (by omega)]
    rw [ep]
    by_cases w : x1 < R ∧ jpv y2 R c x1 < R
    · rw [if_pos w, if_pos w]
      have e3 : ∀ q, q / 5 < R → q % 5 < C → jsz x2 C x1 (jpv y2 R c x1) q = jsz y2 C x1 (jpv y2 R c x1) q := by
        intro q q1 q2
        unfold jsz
        rw [i2 _ q1 q2, i2 (5 * jpv y2 R c x1 + q % 5) (by omega) (by omega), i2 (5 * x1 + q % 5) (by omega) (by omega)]
      refine ⟨rfl, fun q q1 q2 => ?_⟩
      unfold jel jnw
      dsimp only
      rw [e3 q q1 q2, e3 (5 * x1 + c) (by omega) (by omega), e3 (5 * x1 + q % 5) (by omega) (by omega), e3 (5 * (q / 5) + c) (by omega) (by omega)]
    · rw [if_neg w, if_neg w]
      exact ⟨rfl, i2⟩
theorem jrs_full {fr : Bool} {R C : Nat} {z : Nat → Int} {c : Nat} (e : R ≤ (jrs fr R C z c).1) : ∀ m, jrs fr R C z (c + m) = jrs fr R C z c := by
  intro m
  induction m with
  | zero => rfl
  | succ m ih =>
    rw [← Nat.add_assoc, jrs_s, ih, if_neg (by omega)]
/-- the rows below the row s are made clear -/
theorem md_rank1 {z : Nat → Int} {fr : Bool} (hR : jR F A G (jgl z) h) (hr : F 149 0 ≤ 5) (hc : F 149 1 ≤ 5) {s c p : Nat} (hs : s < F 149 0) (hc' : c < F 149 1) (k : ∀ h' w5 w6 w7 w8 w9 w10 w11 w12 w13 w14 w15 w16 w17 w18 w19 w20 w21 w22 w23 w24 w25 w26, jR F A G (jgl (jel fr z (F 149 1) c s (F 149 0) 0)) h' → jD h h' → jx_Go jxP d 173 235 [.ref 149, .int (nI fr.toNat), .int (nI s), .int (nI c), .int (nI p), w5, w6, w7, w8, w9, w10, w11, w12, w13, w14, w15, w16, w17, w18, w19, w20, w21, w22, w23, w24, w25, w26] [] h' Q) : ∀ w6 w7 w8 w9 w10 w11 w12 w13 w14 w15 w16 w17 w18 w19 w20 w21 w22 w23 w24 w25 w26, jx_Go jxP d 173 120 [.ref 149, .int (nI fr.toNat), .int (nI s), .int (nI c), .int (nI p), .int (nI (s + 1)), w6, w7, w8, w9, w10, w11, w12, w13, w14, w15, w16, w17, w18, w19, w20, w21, w22, w23, w24, w25, w26] [] h Q := by
  have e0 : jel fr z (F 149 1) c s (s + 1) 0 = z := by
    funext q
    unfold jel
    rw [if_neg (by omega)]
  intro w6 w7 w8 w9 w10 w11 w12 w13 w14 w15 w16 w17 w18 w19 w20 w21 w22 w23 w24 w25 w26
  refine jloop (fun r => s < r → ∀ h1 w6 w7 w8 w9 w10 w11 w12 w13 w14 w15 w16 w17 w18 w19 w20 w21 w22 w23 w24 w25 w26, jR F A G (jgl (jel fr z (F 149 1) c s r 0)) h1 → jD h h1 → jx_Go jxP d 173 120 [.ref 149, .int (nI fr.toNat), .int (nI s), .int (nI c), .int (nI p), .int (nI r), w6, w7, w8, w9, w10, w11, w12, w13, w14, w15, w16, w17, w18, w19, w20, w21, w22, w23, w24, w25, w26] [] h1 Q) (F 149 0) ?_ ?_ (s + 1) (by omega) (by omega) _ _ _ _ _ _ _ _ _ _ _ _ _ _ _ _ _ _ _ _ _ _ (by rw [e0]; exact hR) jD.rf
  · intro _ h1 w6 w7 w8 w9 w10 w11 w12 w13 w14 w15 w16 w17 w18 w19 w20 w21 w22 w23 w24 w25 w26 hR1 hD1
    rw [s173_120]
    simp (disch := omega) only [s173_122, s173_123, s173_126, Option.some.injEq, exists_eq_left', exists_eq_left, List.cons_append, List.nil_append, List.length_nil, List.length_cons, Nat.reduceAdd, Nat.reduceMul, Nat.reduceSub, Nat.reduceLeDiff, true_and, and_true, ↓reduceIte, not_false_eq_true, not_true_eq_false, nI_add, pk_mul, jn_ltT, jn_ltF, jn_leT, jn_leF, jn_eqT, jn_eqF, jn_lt0, jn_ge0, jn_eq0T, jn_eq0F, jn_in, jn_cl, jf_149_0 hR1]
    exact k h1 _ _ _ _ _ _ _ _ _ _ _ _ _ _ _ _ _ _ _ _ _ _ hR1 hD1
  · intro r hr' ih sr h1 w6 w7 w8 w9 w10 w11 w12 w13 w14 w15 w16 w17 w18 w19 w20 w21 w22 w23 w24 w25 w26 hR1 hD1
    have a1 : jel fr z (F 149 1) c s r 0 (5 * s + c) = z (5 * s + c) := by unfold jel; rw [if_neg (by omega)]
    have a2 : jel fr z (F 149 1) c s r 0 (5 * r + c) = z (5 * r + c) := by unfold jel; rw [if_neg (by omega)]
    have b1 : jgl (jel fr z (F 149 1) c s r 0) (5 * s + c) = jgl z (5 * s + c) := by unfold jgl; rw [a1]
    have b2 : jgl (jel fr z (F 149 1) c s r 0) (5 * r + c) = jgl z (5 * r + c) := by unfold jgl; rw [a2]
    rw [s173_120]
    simp (disch := omega) only [s173_122, s173_123, s173_126, s173_129, s173_130, s173_133, s173_134, s173_135, s173_136, s173_137, s173_138, s173_139, s173_141, s173_142, s173_145, s173_146, s173_148, s173_149, s173_150, s173_151, s173_152, s173_154, s173_155, Option.some.injEq, exists_eq_left', exists_eq_left, List.cons_append, List.nil_append, List.length_nil, List.length_cons, Nat.reduceAdd, Nat.reduceMul, Nat.reduceSub, Nat.reduceLeDiff, true_and, and_true, ↓reduceIte, not_false_eq_true, not_true_eq_false, nI_add, pk_mul, jn_ltT, jn_ltF, jn_leT, jn_leF, jn_eqT, jn_eqF, jn_lt0, jn_ge0, jn_eq0T, jn_eq0F, jn_in, jn_cl, jf_149_0 hR1, jf_149_27 hR1, ja_171 hR1, b1, b2]
    refine jloop (fun k => ∀ h1 w6 w7 w8 w9 w11 w12 w13 w14 w15 w16 w17 w18 w19 w21 w23 w24 w25 w26, jR F A G (jgl (jel fr z (F 149 1) c s r k)) h1 → jD h h1 → jx_Go jxP d 173 157 [.ref 149, .int (nI fr.toNat), .int (nI s), .int (nI c), .int (nI p), .int (nI r), w6, w7, w8, w9, .int (nI k), w11, w12, w13, w14, w15, w16, w17, w18, w19, .long (jgl z (5 * s + c)), w21, .long (jgl z (5 * r + c)), w23, w24, w25, w26] [] h1 Q) (F 149 1) ?_ ?_ 0 (Nat.zero_le _) _ _ _ _ _ _ _ _ _ _ _ _ _ _ _ _ _ _ _ hR1 hD1
    · intro h1 w6 w7 w8 w9 w11 w12 w13 w14 w15 w16 w17 w18 w19 w21 w23 w24 w25 w26 hR1 hD1
      have e1 : jel fr z (F 149 1) c s r (F 149 1) = jel fr z (F 149 1) c s (r + 1) 0 := by
        funext q
        unfold jel
        by_cases x : q % 5 < F 149 1 ∧ s < q / 5 ∧ q / 5 < r + 1
        · rw [if_pos (by omega), if_pos (by omega)]
        · rw [if_neg (by omega), if_neg (by omega)]
      rw [e1] at hR1
      rw [s173_157]
      simp (disch := omega) only [s173_159, s173_160, s173_163, s173_229, s173_232, Option.some.injEq, exists_eq_left', exists_eq_left, List.cons_append, List.nil_append, List.length_nil, List.length_cons, Nat.reduceAdd, Nat.reduceMul, Nat.reduceSub, Nat.reduceLeDiff, true_and, and_true, ↓reduceIte, not_false_eq_true, not_true_eq_false, nI_add, pk_mul, jn_ltT, jn_ltF, jn_leT, jn_leF, jn_eqT, jn_eqF, jn_lt0, jn_ge0, jn_eq0T, jn_eq0F, jn_in, jn_cl, jf_149_1 hR1]
      exact ih (by omega) h1 _ _ _ _ _ _ _ _ _ _ _ _ _ _ _ _ _ _ _ _ _ hR1 hD1
    · intro k hk ih2 h1 w6 w7 w8 w9 w11 w12 w13 w14 w15 w16 w17 w18 w19 w21 w23 w24 w25 w26 hR1 hD1
      have a1 : jgl (jel fr z (F 149 1) c s r k) (5 * s + k) = jgl z (5 * s + k) := by unfold jgl jel; rw [if_neg (by omega)]
      have a2 : jgl (jel fr z (F 149 1) c s r k) (5 * r + k) = jgl z (5 * r + k) := by unfold jgl jel; rw [if_neg (by omega)]
      have e1 : jnw fr z c s (5 * r + k) = if fr = true then z (5 * r + k) * z (5 * s + c) - z (5 * s + k) * z (5 * r + c) else (z (5 * r + k) * z (5 * s + c) - z (5 * s + k) * z (5 * r + c)) % 2 := by
        unfold jnw
        rw [show (5 * r + k) % 5 = k by omega, show (5 * r + k) / 5 = r by omega]
      have e2 : (fun q => if q = 5 * r + k then jnw fr z c s (5 * r + k) else jel fr z (F 149 1) c s r k q) = jel fr z (F 149 1) c s r (k + 1) := by
        funext q
        by_cases x : q = 5 * r + k
        · subst x
          rw [if_pos rfl]
          unfold jel
          rw [if_pos (by omega)]
        · rw [if_neg x]
          unfold jel
          by_cases y : (q % 5 < F 149 1 ∧ s < q / 5 ∧ q / 5 < r) ∨ (q / 5 = r ∧ q % 5 < k)
          · rw [if_pos y, if_pos (by omega)]
          · rw [if_neg y, if_neg (by omega)]
      rw [s173_157]
      cases fr with
      | true =>
        rw [if_pos rfl] at e1
        rw [e1] at e2
        simp (disch := omega) only [s173_159, s173_160, s173_163, s173_166, s173_167, s173_170, s173_171, s173_173, s173_174, s173_176, s173_177, s173_178, s173_180, s173_181, s173_182, s173_185, s173_186, s173_187, s173_188, s173_190, s173_191, s173_192, s173_194, s173_195, s173_196, s173_198, s173_199, s173_202, s173_203, s173_205, s173_206, s173_208, s173_209, s173_210, s173_213, s173_215, s173_218, s173_220, s173_221, s173_222, s173_223, s173_226, Option.some.injEq, exists_eq_left', exists_eq_left, List.cons_append, List.nil_append, List.length_nil, List.length_cons, Nat.reduceAdd, Nat.reduceMul, Nat.reduceSub, Nat.reduceLeDiff, true_and, and_true, ↓reduceIte, not_false_eq_true, not_true_eq_false, nI_add, pk_mul, jn_ltT, jn_ltF, jn_leT, jn_leF, jn_eqT, jn_eqF, jn_lt0, jn_ge0, jn_eq0T, jn_eq0F, jn_in, jn_cl, jh_ai_wi, jh_ai_wi_ne, jh_ai_uf, jh_fl_wi_ne, jh_fl_uf_ne, jh_fl_uf_o, jh_cl_wi_ne, jh_cl_uf, jh_al_wi_ne, jh_al_uf, jh_al_wl, jh_al_wl_ne, jh_ai_wl_ne, jh_fl_wl_ne, jh_cl_wl_ne, jh_ar_wi_ne, jh_ar_uf, jh_ar_wl_ne, jh_1_wi, jh_1_uf, jh_1_wl, jf_149_1 hR1, jf_149_27 hR1, ja_171 hR1, a1, a2, jgl_op, jgl_v, Bool.toNat_true, e2]
        exact ih2 _ _ _ _ _ _ _ _ _ _ _ _ _ _ _ _ _ _ _ hR1.wl (hD1.wl (by decide))
      | false =>
        rw [if_neg (by decide)] at e1
        rw [e1] at e2
        simp (disch := omega) only [s173_159, s173_160, s173_163, s173_166, s173_167, s173_170, s173_171, s173_173, s173_174, s173_176, s173_177, s173_178, s173_180, s173_181, s173_182, s173_185, s173_186, s173_187, s173_188, s173_190, s173_191, s173_192, s173_194, s173_195, s173_196, s173_198, s173_199, s173_202, s173_203, s173_205, s173_206, s173_208, s173_209, s173_210, s173_213, s173_215, s173_218, s173_220, s173_221, s173_222, s173_223, s173_226, Option.some.injEq, exists_eq_left', exists_eq_left, List.cons_append, List.nil_append, List.length_nil, List.length_cons, Nat.reduceAdd, Nat.reduceMul, Nat.reduceSub, Nat.reduceLeDiff, true_and, and_true, ↓reduceIte, not_false_eq_true, not_true_eq_false, nI_add, pk_mul, jn_ltT, jn_ltF, jn_leT, jn_leF, jn_eqT, jn_eqF, jn_lt0, jn_ge0, jn_eq0T, jn_eq0F, jn_in, jn_cl, jh_ai_wi, jh_ai_wi_ne, jh_ai_uf, jh_fl_wi_ne, jh_fl_uf_ne, jh_fl_uf_o, jh_cl_wi_ne, jh_cl_uf, jh_al_wi_ne, jh_al_uf, jh_al_wl, jh_al_wl_ne, jh_ai_wl_ne, jh_fl_wl_ne, jh_cl_wl_ne, jh_ar_wi_ne, jh_ar_uf, jh_ar_wl_ne, jh_1_wi, jh_1_uf, jh_1_wl, jf_149_1 hR1, jf_149_27 hR1, ja_171 hR1, a1, a2, jgl_op, jL_and, jgl_v, Bool.toNat_false, e2]
        exact ih2 _ _ _ _ _ _ _ _ _ _ _ _ _ _ _ _ _ _ _ hR1.wl (hD1.wl (by decide))
theorem md_rank2 {z : Nat → Int} {fr : Bool} (hr : F 149 0 ≤ 5) (hc : F 149 1 ≤ 5) (hz : ∀ q, q / 5 < F 149 0 → q % 5 < F 149 1 → (z q).natAbs ≤ 1) (k : ∀ h' g', jR F A G g' h' → jD h h' → Q [.int (nI (jrs fr (F 149 0) (F 149 1) z (F 149 1)).1)] h') : ∀ c, c ≤ F 149 1 → ∀ h1 w4 w5 w6 w7 w8 w9 w10 w11 w12 w13 w14 w15 w16 w17 w18 w19 w20 w21 w22 w23 w24 w25 w26, jR F A G (jgl (jrs fr (F 149 0) (F 149 1) z c).2) h1 → jD h h1 → jx_Go jxP (d + 1) 173 46 [.ref 149, .int (nI fr.toNat), .int (nI (jrs fr (F 149 0) (F 149 1) z c).1), .int (nI c), w4, w5, w6, w7, w8, w9, w10, w11, w12, w13, w14, w15, w16, w17, w18, w19, w20, w21, w22, w23, w24, w25, w26] [] h1 Q := by
  refine jloop _ (F 149 1) ?_ ?_
  · intro h1 w4 w5 w6 w7 w8 w9 w10 w11 w12 w13 w14 w15 w16 w17 w18 w19 w20 w21 w22 w23 w24 w25 w26 hR1 hD1
    rw [s173_46]
    simp (disch := omega) only [s173_47, s173_48, s173_51, s173_244, s173_245, Option.some.injEq, exists_eq_left', exists_eq_left, List.cons_append, List.nil_append, List.length_nil, List.length_cons, Nat.reduceAdd, Nat.reduceMul, Nat.reduceSub, Nat.reduceLeDiff, true_and, and_true, ↓reduceIte, not_false_eq_true, not_true_eq_false, nI_add, pk_mul, jn_ltT, jn_ltF, jn_leT, jn_leF, jn_eqT, jn_eqF, jn_lt0, jn_ge0, jn_eq0T, jn_eq0F, jn_in, jn_cl, jf_149_1 hR1]
    exact k h1 _ hR1 hD1
  · intro c hc' ih h1 w4 w5 w6 w7 w8 w9 w10 w11 w12 w13 w14 w15 w16 w17 w18 w19 w20 w21 w22 w23 w24 w25 w26 hR1 hD1
    obtain ⟨b1, b2, b3⟩ := jrs_bd (fr := fr) hr hc hz c (by omega)
    have full := jrs_full (fr := fr) (R := F 149 0) (C := F 149 1) (z := z) (c := c)
    rw [jrs_s] at ih
    rw [s173_46]
    by_cases w : (jrs fr (F 149 0) (F 149 1) z c).1 < F 149 0
    · generalize jrs fr (F 149 0) (F 149 1) z c = x at *
      obtain ⟨s, y⟩ := x
      dsimp only at b1 b2 b3 w ih hR1 ⊢
      obtain ⟨v1, v2, v3⟩ := jpv_lt (z := y) (R := F 149 0) (c := c) (s := s)
      have bs := jbn_le s
      simp (disch := omega) only [s173_47, s173_48, s173_51, s173_54, s173_55, s173_56, s173_59, s173_62, s173_63, Option.some.injEq, exists_eq_left', exists_eq_left, List.cons_append, List.nil_append, List.length_nil, List.length_cons, Nat.reduceAdd, Nat.reduceMul, Nat.reduceSub, Nat.reduceLeDiff, true_and, and_true, ↓reduceIte, not_false_eq_true, not_true_eq_false, nI_add, pk_mul, jn_ltT, jn_ltF, jn_leT, jn_leF, jn_eqT, jn_eqF, jn_lt0, jn_ge0, jn_eq0T, jn_eq0F, jn_in, jn_cl, jf_149_0 hR1, jf_149_1 hR1]
      have sp : s ≤ jpv y (F 149 0) c s := by
        rcases Nat.lt_or_ge (jpv y (F 149 0) c s) (F 149 0) with u | u
        · exact (v2 u).1
        · omega
      have key : ∀ w5 w6 w7 w8 w9 w10 w11 w12 w13 w14 w15 w16 w17 w18 w19 w20 w21 w22 w23 w24 w25 w26, jx_Go jxP (d + 1) 173 96 [.ref 149, .int (nI fr.toNat), .int (nI s), .int (nI c), .int (nI (jpv y (F 149 0) c s)), w5, w6, w7, w8, w9, w10, w11, w12, w13, w14, w15, w16, w17, w18, w19, w20, w21, w22, w23, w24, w25, w26] [] h1 Q := by
        intro w5 w6 w7 w8 w9 w10 w11 w12 w13 w14 w15 w16 w17 w18 w19 w20 w21 w22 w23 w24 w25 w26
        rcases Nat.lt_or_ge (jpv y (F 149 0) c s) (F 149 0) with u | u
        · rw [if_pos ⟨w, u⟩] at ih
          simp (disch := omega) only [s173_96, s173_98, s173_99, s173_102, s173_108, s173_109, s173_110, s173_112, Option.some.injEq, exists_eq_left', exists_eq_left, List.cons_append, List.nil_append, List.length_nil, List.length_cons, Nat.reduceAdd, Nat.reduceMul, Nat.reduceSub, Nat.reduceLeDiff, true_and, and_true, ↓reduceIte, not_false_eq_true, not_true_eq_false, nI_add, pk_mul, jn_ltT, jn_ltF, jn_leT, jn_leF, jn_eqT, jn_eqF, jn_lt0, jn_ge0, jn_eq0T, jn_eq0F, jn_in, jn_cl, jf_149_0 hR1, jc_of_149 hR1]
          refine md_swapLines hR1 hc (by omega) (by omega) (fun h2 hR2 hD2 => ?_)
          simp (disch := omega) only [s173_115, s173_116, s173_117, s173_118, Option.some.injEq, exists_eq_left', exists_eq_left, List.cons_append, List.nil_append, List.length_nil, List.length_cons, Nat.reduceAdd, Nat.reduceMul, Nat.reduceSub, Nat.reduceLeDiff, true_and, and_true, ↓reduceIte, not_false_eq_true, not_true_eq_false, nI_add, pk_mul, jn_ltT, jn_ltF, jn_leT, jn_leF, jn_eqT, jn_eqF, jn_lt0, jn_ge0, jn_eq0T, jn_eq0F, jn_in, jn_cl]
          refine md_rank1 hR2 hr hc w hc' (fun h3 w5 w6 w7 w8 w9 w10 w11 w12 w13 w14 w15 w16 w17 w18 w19 w20 w21 w22 w23 w24 w25 w26 hR3 hD3 => ?_) _ _ _ _ _ _ _ _ _ _ _ _ _ _ _ _ _ _ _ _ _
          simp (disch := omega) only [s173_235, s173_238, s173_241, Option.some.injEq, exists_eq_left', exists_eq_left, List.cons_append, List.nil_append, List.length_nil, List.length_cons, Nat.reduceAdd, Nat.reduceMul, Nat.reduceSub, Nat.reduceLeDiff, true_and, and_true, ↓reduceIte, not_false_eq_true, not_true_eq_false, nI_add, pk_mul, jn_ltT, jn_ltF, jn_leT, jn_leF, jn_eqT, jn_eqF, jn_lt0, jn_ge0, jn_eq0T, jn_eq0F, jn_in, jn_cl]
          exact ih h3 _ _ _ _ _ _ _ _ _ _ _ _ _ _ _ _ _ _ _ _ _ _ _ hR3 ((hD1.tr hD2).tr hD3)
        · rw [if_neg (by omega)] at ih
          simp (disch := omega) only [s173_96, s173_98, s173_99, s173_102, s173_105, s173_238, s173_241, Option.some.injEq, exists_eq_left', exists_eq_left, List.cons_append, List.nil_append, List.length_nil, List.length_cons, Nat.reduceAdd, Nat.reduceMul, Nat.reduceSub, Nat.reduceLeDiff, true_and, and_true, ↓reduceIte, not_false_eq_true, not_true_eq_false, nI_add, pk_mul, jn_ltT, jn_ltF, jn_leT, jn_leF, jn_eqT, jn_eqF, jn_lt0, jn_ge0, jn_eq0T, jn_eq0F, jn_in, jn_cl, jf_149_0 hR1]
          exact ih h1 _ _ _ _ _ _ _ _ _ _ _ _ _ _ _ _ _ _ _ _ _ _ _ hR1 hD1
      refine jloop (fun i => s ≤ i → ∀ w5 w6 w7 w8 w9 w10 w11 w12 w13 w14 w15 w16 w17 w18 w19 w20 w21 w22 w23 w24 w25 w26, jx_Go jxP (d + 1) 173 65 [.ref 149, .int (nI fr.toNat), .int (nI s), .int (nI c), .int (nI i), w5, w6, w7, w8, w9, w10, w11, w12, w13, w14, w15, w16, w17, w18, w19, w20, w21, w22, w23, w24, w25, w26] [] h1 Q) (jpv y (F 149 0) c s) ?_ ?_ s sp (Nat.le_refl _) _ _ _ _ _ _ _ _ _ _ _ _ _ _ _ _ _ _ _ _ _ _
      · intro _ w5 w6 w7 w8 w9 w10 w11 w12 w13 w14 w15 w16 w17 w18 w19 w20 w21 w22 w23 w24 w25 w26
        rw [s173_65]
        rcases Nat.lt_or_ge (jpv y (F 149 0) c s) (F 149 0) with u | u
        · have nz := (v2 u).2
          have zb := b3 (5 * jpv y (F 149 0) c s + c) (by omega) (by omega)
          have zz : (lg_cmp (jgl y (5 * jpv y (F 149 0) c s + c)) 0 = 0) = False := by rw [jL_z (by omega)]; exact eq_false nz
          simp (disch := omega) only [s173_67, s173_68, s173_71, s173_74, s173_75, s173_78, s173_79, s173_81, s173_82, s173_83, s173_84, s173_85, s173_86, s173_87, Option.some.injEq, exists_eq_left', exists_eq_left, List.cons_append, List.nil_append, List.length_nil, List.length_cons, Nat.reduceAdd, Nat.reduceMul, Nat.reduceSub, Nat.reduceLeDiff, true_and, and_true, ↓reduceIte, not_false_eq_true, not_true_eq_false, nI_add, pk_mul, jn_ltT, jn_ltF, jn_leT, jn_leF, jn_eqT, jn_eqF, jn_lt0, jn_ge0, jn_eq0T, jn_eq0F, jn_in, jn_cl, jf_149_0 hR1, jf_149_27 hR1, ja_171 hR1, zz]
          exact key _ _ _ _ _ _ _ _ _ _ _ _ _ _ _ _ _ _ _ _ _ _
        · simp (disch := omega) only [s173_67, s173_68, s173_71, Option.some.injEq, exists_eq_left', exists_eq_left, List.cons_append, List.nil_append, List.length_nil, List.length_cons, Nat.reduceAdd, Nat.reduceMul, Nat.reduceSub, Nat.reduceLeDiff, true_and, and_true, ↓reduceIte, not_false_eq_true, not_true_eq_false, nI_add, pk_mul, jn_ltT, jn_ltF, jn_leT, jn_leF, jn_eqT, jn_eqF, jn_lt0, jn_ge0, jn_eq0T, jn_eq0F, jn_in, jn_cl, jf_149_0 hR1]
          exact key _ _ _ _ _ _ _ _ _ _ _ _ _ _ _ _ _ _ _ _ _ _
      · intro i hi ih3 si w5 w6 w7 w8 w9 w10 w11 w12 w13 w14 w15 w16 w17 w18 w19 w20 w21 w22 w23 w24 w25 w26
        rw [s173_65]
        have z0 := v3 i si hi
        have zz : (lg_cmp (jgl y (5 * i + c)) 0 = 0) = True := by rw [jL_z (by omega)]; exact eq_true z0
        simp (disch := omega) only [s173_67, s173_68, s173_71, s173_74, s173_75, s173_78, s173_79, s173_81, s173_82, s173_83, s173_84, s173_85, s173_86, s173_87, s173_90, s173_93, Option.some.injEq, exists_eq_left', exists_eq_left, List.cons_append, List.nil_append, List.length_nil, List.length_cons, Nat.reduceAdd, Nat.reduceMul, Nat.reduceSub, Nat.reduceLeDiff, true_and, and_true, ↓reduceIte, not_false_eq_true, not_true_eq_false, nI_add, pk_mul, jn_ltT, jn_ltF, jn_leT, jn_leF, jn_eqT, jn_eqF, jn_lt0, jn_ge0, jn_eq0T, jn_eq0F, jn_in, jn_cl, jf_149_0 hR1, jf_149_27 hR1, ja_171 hR1, zz]
        exact ih3 (by omega) _ _ _ _ _ _ _ _ _ _ _ _ _ _ _ _ _ _ _ _ _ _
    · have kk := k h1 _ hR1 hD1
      have fu := full (by omega) (F 149 1 - c)
      rw [show c + (F 149 1 - c) = F 149 1 by omega] at fu
      rw [fu] at kk
      simp (disch := omega) only [s173_47, s173_48, s173_51, s173_54, s173_55, s173_56, s173_59, s173_244, s173_245, Option.some.injEq, exists_eq_left', exists_eq_left, List.cons_append, List.nil_append, List.length_nil, List.length_cons, Nat.reduceAdd, Nat.reduceMul, Nat.reduceSub, Nat.reduceLeDiff, true_and, and_true, ↓reduceIte, not_false_eq_true, not_true_eq_false, nI_add, pk_mul, jn_ltT, jn_ltF, jn_leT, jn_leF, jn_eqT, jn_eqF, jn_lt0, jn_ge0, jn_eq0T, jn_eq0F, jn_in, jn_cl, jf_149_0 hR1, jf_149_1 hR1]
      exact kk
theorem jsum_z {n : Nat} {f : Nat → Nat} : jsum n f = 0 → ∀ i, i < n → f i = 0 := by
  induction n with
  | zero => intro _ i hi; omega
  | succ n ih =>
    intro e i hi
    rw [jsum_s] at e
    rcases (show i < n ∨ i = n by omega) with w | w
    · exact ih (by omega) i w
    · subst w; omega
theorem jcnt_0 {v : Nat → Int32} {R C : Nat} {x : Int32} (hC : C ≤ 5) (e : jcnt v R C x = 0) : ∀ q, q / 5 < R → q % 5 < C → v q ≠ x := by
  intro q q1 q2 w
  have := jsum_z (jsum_z e (q / 5) q1) (q % 5) q2
  rw [show 5 * (q / 5) + q % 5 = q by omega, if_pos w] at this
  omega
theorem md_rank_f (hR : jR F A G g h) (hr : F 149 0 ≤ 5) (hc : F 149 1 ≤ 5) {fr : Bool} (e : 0 < jcnt (A 150) (F 149 0) (F 149 1) (nI 2)) (k : ∀ h', jR (jup F 149 13 (F 149 13 + 1)) A G g h' → jD h h' → Q [.int (-8)] h') : jx_Go jxP (d + 1) 173 0 [.ref 149, .int (nI fr.toNat), jx_u, jx_u, jx_u, jx_u, jx_u, jx_u, jx_u, jx_u, jx_u, jx_u, jx_u, jx_u, jx_u, jx_u, jx_u, jx_u, jx_u, jx_u, jx_u, jx_u, jx_u, jx_u, jx_u, jx_u, jx_u] [] h Q := by
  have hcnt := jcnt_le (f := A 150) (v := nI 2) hr hc
  simp (disch := omega) only [s173_0, s173_1, s173_2, Option.some.injEq, exists_eq_left', exists_eq_left, List.cons_append, List.nil_append, List.length_nil, List.length_cons, Nat.reduceAdd, Nat.reduceMul, Nat.reduceSub, Nat.reduceLeDiff, true_and, and_true, ↓reduceIte, not_false_eq_true, not_true_eq_false, nI_add, pk_mul, jn_ltT, jn_ltF, jn_leT, jn_leF, jn_eqT, jn_eqF, jn_lt0, jn_ge0, jn_eq0T, jn_eq0F, jn_in, jn_cl, jc_of_149 hR]
  refine md_ones (jf_149_0 hR) (jf_149_1 hR) (jf_149_2 hR) (ja_150 hR) hr hc ?_
  unfold jcnt at e hcnt
  generalize (jsum (F 149 0) fun r => jsum (F 149 1) fun c => if A 150 (5 * r + c) = nI 2 then 1 else 0) = n at e hcnt ⊢
  simp (disch := omega) only [s173_5, s173_8, s173_9, s173_11, Option.some.injEq, exists_eq_left', exists_eq_left, List.cons_append, List.nil_append, List.length_nil, List.length_cons, Nat.reduceAdd, Nat.reduceMul, Nat.reduceSub, Nat.reduceLeDiff, true_and, and_true, ↓reduceIte, not_false_eq_true, not_true_eq_false, nI_add, pk_mul, jn_ltT, jn_ltF, jn_leT, jn_leF, jn_eqT, jn_eqF, jn_lt0, jn_ge0, jn_eq0T, jn_eq0F, jn_in, jn_cl, jn_le0F, jc_of_149 hR]
  exact md_finding hR (fun h' hR' hD' => by simp only [s173_14, Option.some.injEq, exists_eq_left', exists_eq_left, List.cons_append, List.nil_append, List.length_nil, List.length_cons, Nat.reduceAdd, Nat.reduceMul, Nat.reduceSub, Nat.reduceLeDiff, true_and, and_true, ↓reduceIte, not_false_eq_true, not_true_eq_false, nI_add, pk_mul, jn_ltT, jn_ltF, jn_leT, jn_leF, jn_eqT, jn_eqF, jn_lt0, jn_ge0, jn_eq0T, jn_eq0F, jn_in, jn_cl]; exact k h' hR' hD')
theorem md_rank_t (hR : jR F A G g h) (hr : F 149 0 ≤ 5) (hc : F 149 1 ≤ 5) (hv : jV (A 150) (F 149 0) (F 149 1)) {fr : Bool} (e : jcnt (A 150) (F 149 0) (F 149 1) (nI 2) = 0) (k : ∀ h' g', jR F A G g' h' → jD h h' → Q [.int (nI (jrs fr (F 149 0) (F 149 1) (fun q => (A 150 q).toInt) (F 149 1)).1)] h') : jx_Go jxP (d + 1) 173 0 [.ref 149, .int (nI fr.toNat), jx_u, jx_u, jx_u, jx_u, jx_u, jx_u, jx_u, jx_u, jx_u, jx_u, jx_u, jx_u, jx_u, jx_u, jx_u, jx_u, jx_u, jx_u, jx_u, jx_u, jx_u, jx_u, jx_u, jx_u, jx_u] [] h Q := by
  simp (disch := omega) only [s173_0, s173_1, s173_2, Option.some.injEq, exists_eq_left', exists_eq_left, List.cons_append, List.nil_append, List.length_nil, List.length_cons, Nat.reduceAdd, Nat.reduceMul, Nat.reduceSub, Nat.reduceLeDiff, true_and, and_true, ↓reduceIte, not_false_eq_true, not_true_eq_false, nI_add, pk_mul, jn_ltT, jn_ltF, jn_leT, jn_leF, jn_eqT, jn_eqF, jn_lt0, jn_ge0, jn_eq0T, jn_eq0F, jn_in, jn_cl, jc_of_149 hR]
  refine md_ones (jf_149_0 hR) (jf_149_1 hR) (jf_149_2 hR) (ja_150 hR) hr hc ?_
  have e' := e
  unfold jcnt at e'
  rw [e']
  simp (disch := omega) only [s173_5, s173_15, s173_16, Option.some.injEq, exists_eq_left', exists_eq_left, List.cons_append, List.nil_append, List.length_nil, List.length_cons, Nat.reduceAdd, Nat.reduceMul, Nat.reduceSub, Nat.reduceLeDiff, true_and, and_true, ↓reduceIte, not_false_eq_true, not_true_eq_false, nI_add, pk_mul, jn_ltT, jn_ltF, jn_leT, jn_leF, jn_eqT, jn_eqF, jn_lt0, jn_ge0, jn_eq0T, jn_eq0F, jn_in, jn_cl, jn_le0T]
  refine jloop (fun i => ∀ g' h1 w3 w4 w5 w6 w7 w8 w9 w10 w11 w12 w13 w14 w15 w16 w17 w18 w19 w20 w21 w22 w23 w24 w25 w26, (∀ j, j < i → g' j = Int64.ofInt (A 150 j).toInt) → jR F A G g' h1 → jD h h1 → jx_Go jxP (d + 1) 173 17 [.ref 149, .int (nI fr.toNat), .int (nI i), w3, w4, w5, w6, w7, w8, w9, w10, w11, w12, w13, w14, w15, w16, w17, w18, w19, w20, w21, w22, w23, w24, w25, w26] [] h1 Q) 25 ?_ ?_ 0 (Nat.zero_le _) g h _ _ _ _ _ _ _ _ _ _ _ _ _ _ _ _ _ _ _ _ _ _ _ _ (fun j hj => by omega) hR jD.rf
  · intro g' h1 w3 w4 w5 w6 w7 w8 w9 w10 w11 w12 w13 w14 w15 w16 w17 w18 w19 w20 w21 w22 w23 w24 w25 w26 eg hR1 hD1
    rw [s173_17]
    simp (disch := omega) only [s173_18, s173_20, s173_42, s173_43, s173_44, s173_45, Option.some.injEq, exists_eq_left', exists_eq_left, List.cons_append, List.nil_append, List.length_nil, List.length_cons, Nat.reduceAdd, Nat.reduceMul, Nat.reduceSub, Nat.reduceLeDiff, true_and, and_true, ↓reduceIte, not_false_eq_true, not_true_eq_false, nI_add, pk_mul, jn_ltT, jn_ltF, jn_leT, jn_leF, jn_eqT, jn_eqF, jn_lt0, jn_ge0, jn_eq0T, jn_eq0F, jn_in, jn_cl]
    have ez : g' = jgl (fun q => if q < 25 then (A 150 q).toInt else (g' q).toInt) := by
      funext q
      show g' q = Int64.ofInt (if q < 25 then (A 150 q).toInt else (g' q).toInt)
      by_cases w : q < 25
      · rw [if_pos w, eg q w]
      · rw [if_neg w, Int64.ofInt_toInt]
    rw [ez] at hR1
    have hz1 : ∀ q, q / 5 < F 149 0 → q % 5 < F 149 1 → (if q < 25 then (A 150 q).toInt else (g' q).toInt) = (A 150 q).toInt := fun q q1 q2 => if_pos (by omega)
    have hz : ∀ q, q / 5 < F 149 0 → q % 5 < F 149 1 → (if q < 25 then (A 150 q).toInt else (g' q).toInt).natAbs ≤ 1 := by
      intro q q1 q2
      rw [hz1 q q1 q2]
      have n2 := jcnt_0 hc e q q1 q2
      have n3 := hv (q / 5) (q % 5) q1 q2
      rw [show 5 * (q / 5) + q % 5 = q by omega] at n3
      rcases n3 with n3 | n3 | n3
      · rw [n3]; decide
      · rw [n3]; decide
      · exact absurd n3 n2
    have cg := jrs_congr (fr := fr) hc hz1 (F 149 1) (Nat.le_refl _)
    refine md_rank2 (d := d) (fr := fr) (z := fun q => if q < 25 then (A 150 q).toInt else (g' q).toInt) hr hc hz (fun h2 g2 hR2 hD2 => ?_) 0 (Nat.zero_le _) h1 _ _ _ _ _ _ _ _ _ _ _ _ _ _ _ _ _ _ _ _ _ _ _ hR1 hD1
    rw [cg.1]
    exact k h2 g2 hR2 hD2
  · intro i hi ih g' h1 w3 w4 w5 w6 w7 w8 w9 w10 w11 w12 w13 w14 w15 w16 w17 w18 w19 w20 w21 w22 w23 w24 w25 w26 eg hR1 hD1
    rw [s173_17]
    simp (disch := omega) only [s173_18, s173_20, s173_23, s173_24, s173_27, s173_28, s173_29, s173_32, s173_33, s173_34, s173_35, s173_36, s173_39, Option.some.injEq, exists_eq_left', exists_eq_left, List.cons_append, List.nil_append, List.length_nil, List.length_cons, Nat.reduceAdd, Nat.reduceMul, Nat.reduceSub, Nat.reduceLeDiff, true_and, and_true, ↓reduceIte, not_false_eq_true, not_true_eq_false, nI_add, pk_mul, jn_ltT, jn_ltF, jn_leT, jn_leF, jn_eqT, jn_eqF, jn_lt0, jn_ge0, jn_eq0T, jn_eq0F, jn_in, jn_cl, jh_ai_wi, jh_ai_wi_ne, jh_ai_uf, jh_fl_wi_ne, jh_fl_uf_ne, jh_fl_uf_o, jh_cl_wi_ne, jh_cl_uf, jh_al_wi_ne, jh_al_uf, jh_al_wl, jh_al_wl_ne, jh_ai_wl_ne, jh_fl_wl_ne, jh_cl_wl_ne, jh_ar_wi_ne, jh_ar_uf, jh_ar_wl_ne, jh_1_wi, jh_1_uf, jh_1_wl, jf_149_2 hR1, jf_149_27 hR1, ja_150 hR1, ja_171 hR1]
    refine ih _ _ _ _ _ _ _ _ _ _ _ _ _ _ _ _ _ _ _ _ _ _ _ _ _ _ (fun j hj => ?_) hR1.wl (hD1.wl (by decide))
    unfold vp_updL
    by_cases w : j = i
    · rw [if_pos w, w, Int64.ofInt_int32ToInt]
    · rw [if_neg w, eg j (by omega)]
end MD29
