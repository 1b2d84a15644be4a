/-! ===== the law: one call after the other ===== -/
section LAW1
variable {d n i : Nat} {f : Nat → Int32} {h : jxH} {Q : List Value → jxH → Prop}
theorem jsc_eq {h1 : jxH} (e : h1.2.2 0 = h.2.2 0) : jx_sc h1 0 = jx_sc h 0 := by
  unfold jx_sc
  rw [e]
theorem jZ.c1 (hZ : jZ h) : jx_cl h 1 = some 11 := by
  obtain ⟨F, A, G, g, hR, _⟩ := hZ
  exact jc_of_1 hR
theorem jlc_table (hZ : jZ h) (sc : jx_sc h 0 = some (n, f)) (hn : n < 2147483648) (hi : i + 6 ≤ n) (k : ∀ h', jZ h' → jLg h h' → jx_Go jxP (d + 17) 200 1150 [.ref 0, .ref 1, .ref 149, .int (nI i)] [] h' Q) : jx_Go jxP (d + 17) 200 184 [.ref 0, .ref 1, .ref 149, .int (nI i)] [] h Q := by
  have c1 := hZ.c1
  simp (disch := omega) only [s200_184, s200_185, s200_186, s200_187, s200_188, s200_189, s200_190, s200_191, s200_192, s200_193, s200_194, s200_195, Option.some.injEq, exists_eq_left', exists_eq_left, List.cons_append, List.nil_append, List.length_nil, List.length_cons, Nat.reduceAdd, Nat.reduceMul, Nat.reduceSub, Nat.reduceLeDiff, true_and, and_true, ↓reduceIte, not_false_eq_true, not_true_eq_false, nI_add, pk_mul, jn_ltT, jn_ltF, jn_leT, jn_leF, jn_eqT, jn_eqF, jn_lt0, jn_ge0, jn_eq0T, jn_eq0F, jn_in, jn_cl, sc, c1]
  refine (jp_table (d := d) hZ _ _).imp (fun s1 h1 e => ?_)
  obtain ⟨a, e1, ⟨e2, e3⟩, gm⟩ := e
  subst e1
  have sc1 := (jsc_eq e2).trans sc
  simp (disch := omega) only [s200_198, s200_199, s200_200, s200_201, s200_202, s200_203, s200_204, s200_205, s200_206, s200_207, s200_208, s200_209, Option.some.injEq, exists_eq_left', exists_eq_left, List.cons_append, List.nil_append, List.length_nil, List.length_cons, Nat.reduceAdd, Nat.reduceMul, Nat.reduceSub, Nat.reduceLeDiff, true_and, and_true, ↓reduceIte, not_false_eq_true, not_true_eq_false, nI_add, pk_mul, jn_ltT, jn_ltF, jn_leT, jn_leF, jn_eqT, jn_eqF, jn_lt0, jn_ge0, jn_eq0T, jn_eq0F, jn_in, jn_cl, sc1, e3]
  refine gm.imp (fun s2 h2 e => ?_)
  obtain ⟨e4, z2, l2⟩ := e
  subst e4
  simp (disch := omega) only [s200_212, Option.some.injEq, exists_eq_left', exists_eq_left, List.cons_append, List.nil_append, List.length_nil, List.length_cons, Nat.reduceAdd, Nat.reduceMul, Nat.reduceSub, Nat.reduceLeDiff, true_and, and_true, ↓reduceIte, not_false_eq_true, not_true_eq_false, nI_add, pk_mul, jn_ltT, jn_ltF, jn_leT, jn_leF, jn_eqT, jn_eqF, jn_lt0, jn_ge0, jn_eq0T, jn_eq0F, jn_in, jn_cl, eq_self]
  exact k h2 z2 l2
theorem jlc_put (hZ : jZ h) (sc : jx_sc h 0 = some (n, f)) (hn : n < 2147483648) (hi : i + 6 ≤ n) (k : ∀ h', jZ h' → jLg h h' → jx_Go jxP (d + 17) 200 1150 [.ref 0, .ref 1, .ref 149, .int (nI i)] [] h' Q) : jx_Go jxP (d + 17) 200 217 [.ref 0, .ref 1, .ref 149, .int (nI i)] [] h Q := by
  have c1 := hZ.c1
  simp (disch := omega) only [s200_217, s200_218, s200_219, s200_220, s200_221, s200_222, s200_223, s200_224, s200_225, s200_226, s200_227, s200_228, s200_229, s200_230, s200_231, s200_232, s200_233, Option.some.injEq, exists_eq_left', exists_eq_left, List.cons_append, List.nil_append, List.length_nil, List.length_cons, Nat.reduceAdd, Nat.reduceMul, Nat.reduceSub, Nat.reduceLeDiff, true_and, and_true, ↓reduceIte, not_false_eq_true, not_true_eq_false, nI_add, pk_mul, jn_ltT, jn_ltF, jn_leT, jn_leF, jn_eqT, jn_eqF, jn_lt0, jn_ge0, jn_eq0T, jn_eq0F, jn_in, jn_cl, sc, c1]
  refine (jp_put (d := d) hZ _ _ _).imp (fun s1 h1 e => ?_)
  obtain ⟨a, e1, ⟨e2, e3⟩, gm⟩ := e
  subst e1
  have sc1 := (jsc_eq e2).trans sc
  simp (disch := omega) only [s200_236, s200_237, s200_238, s200_239, s200_240, s200_241, s200_242, s200_243, s200_244, s200_245, s200_246, s200_247, s200_248, s200_249, s200_250, s200_251, s200_252, Option.some.injEq, exists_eq_left', exists_eq_left, List.cons_append, List.nil_append, List.length_nil, List.length_cons, Nat.reduceAdd, Nat.reduceMul, Nat.reduceSub, Nat.reduceLeDiff, true_and, and_true, ↓reduceIte, not_false_eq_true, not_true_eq_false, nI_add, pk_mul, jn_ltT, jn_ltF, jn_leT, jn_leF, jn_eqT, jn_eqF, jn_lt0, jn_ge0, jn_eq0T, jn_eq0F, jn_in, jn_cl, sc1, e3]
  refine gm.imp (fun s2 h2 e => ?_)
  obtain ⟨e4, z2, l2⟩ := e
  subst e4
  simp (disch := omega) only [s200_255, Option.some.injEq, exists_eq_left', exists_eq_left, List.cons_append, List.nil_append, List.length_nil, List.length_cons, Nat.reduceAdd, Nat.reduceMul, Nat.reduceSub, Nat.reduceLeDiff, true_and, and_true, ↓reduceIte, not_false_eq_true, not_true_eq_false, nI_add, pk_mul, jn_ltT, jn_ltF, jn_leT, jn_leF, jn_eqT, jn_eqF, jn_lt0, jn_ge0, jn_eq0T, jn_eq0F, jn_in, jn_cl, eq_self]
  exact k h2 z2 l2
theorem jlc_place (hZ : jZ h) (sc : jx_sc h 0 = some (n, f)) (hn : n < 2147483648) (hi : i + 6 ≤ n) (k : ∀ h', jZ h' → jLg h h' → jx_Go jxP (d + 17) 200 1150 [.ref 0, .ref 1, .ref 149, .int (nI i)] [] h' Q) : jx_Go jxP (d + 17) 200 260 [.ref 0, .ref 1, .ref 149, .int (nI i)] [] h Q := by
  have c1 := hZ.c1
  simp (disch := omega) only [s200_260, s200_261, s200_262, s200_263, s200_264, s200_265, s200_266, s200_267, s200_268, s200_269, s200_270, s200_271, Option.some.injEq, exists_eq_left', exists_eq_left, List.cons_append, List.nil_append, List.length_nil, List.length_cons, Nat.reduceAdd, Nat.reduceMul, Nat.reduceSub, Nat.reduceLeDiff, true_and, and_true, ↓reduceIte, not_false_eq_true, not_true_eq_false, nI_add, pk_mul, jn_ltT, jn_ltF, jn_leT, jn_leF, jn_eqT, jn_eqF, jn_lt0, jn_ge0, jn_eq0T, jn_eq0F, jn_in, jn_cl, sc, c1]
  refine (jp_place (d := d) hZ _ _).imp (fun s1 h1 e => ?_)
  obtain ⟨a, e1, ⟨e2, e3⟩, gm⟩ := e
  subst e1
  have sc1 := (jsc_eq e2).trans sc
  simp (disch := omega) only [s200_274, s200_275, s200_276, s200_277, s200_278, s200_279, s200_280, s200_281, s200_282, s200_283, s200_284, s200_285, Option.some.injEq, exists_eq_left', exists_eq_left, List.cons_append, List.nil_append, List.length_nil, List.length_cons, Nat.reduceAdd, Nat.reduceMul, Nat.reduceSub, Nat.reduceLeDiff, true_and, and_true, ↓reduceIte, not_false_eq_true, not_true_eq_false, nI_add, pk_mul, jn_ltT, jn_ltF, jn_leT, jn_leF, jn_eqT, jn_eqF, jn_lt0, jn_ge0, jn_eq0T, jn_eq0F, jn_in, jn_cl, sc1, e3]
  refine gm.imp (fun s2 h2 e => ?_)
  obtain ⟨e4, z2, l2⟩ := e
  subst e4
  simp (disch := omega) only [s200_288, Option.some.injEq, exists_eq_left', exists_eq_left, List.cons_append, List.nil_append, List.length_nil, List.length_cons, Nat.reduceAdd, Nat.reduceMul, Nat.reduceSub, Nat.reduceLeDiff, true_and, and_true, ↓reduceIte, not_false_eq_true, not_true_eq_false, nI_add, pk_mul, jn_ltT, jn_ltF, jn_leT, jn_leF, jn_eqT, jn_eqF, jn_lt0, jn_ge0, jn_eq0T, jn_eq0F, jn_in, jn_cl, eq_self]
  exact k h2 z2 l2
theorem jlc_weigh (hZ : jZ h) (sc : jx_sc h 0 = some (n, f)) (hn : n < 2147483648) (hi : i + 6 ≤ n) (k : ∀ h', jZ h' → jLg h h' → jx_Go jxP (d + 17) 200 1150 [.ref 0, .ref 1, .ref 149, .int (nI i)] [] h' Q) : jx_Go jxP (d + 17) 200 293 [.ref 0, .ref 1, .ref 149, .int (nI i)] [] h Q := by
  have c1 := hZ.c1
  simp (disch := omega) only [s200_293, s200_294, s200_295, s200_296, s200_297, s200_298, s200_299, s200_300, s200_301, s200_302, s200_303, s200_304, s200_305, s200_306, s200_307, s200_308, s200_309, Option.some.injEq, exists_eq_left', exists_eq_left, List.cons_append, List.nil_append, List.length_nil, List.length_cons, Nat.reduceAdd, Nat.reduceMul, Nat.reduceSub, Nat.reduceLeDiff, true_and, and_true, ↓reduceIte, not_false_eq_true, not_true_eq_false, nI_add, pk_mul, jn_ltT, jn_ltF, jn_leT, jn_leF, jn_eqT, jn_eqF, jn_lt0, jn_ge0, jn_eq0T, jn_eq0F, jn_in, jn_cl, sc, c1]
  refine (jp_weigh (d := d) hZ _ _ _).imp (fun s1 h1 e => ?_)
  obtain ⟨a, e1, ⟨e2, e3⟩, gm⟩ := e
  subst e1
  have sc1 := (jsc_eq e2).trans sc
  simp (disch := omega) only [s200_312, s200_313, s200_314, s200_315, s200_316, s200_317, s200_318, s200_319, s200_320, s200_321, s200_322, s200_323, s200_324, s200_325, s200_326, s200_327, s200_328, Option.some.injEq, exists_eq_left', exists_eq_left, List.cons_append, List.nil_append, List.length_nil, List.length_cons, Nat.reduceAdd, Nat.reduceMul, Nat.reduceSub, Nat.reduceLeDiff, true_and, and_true, ↓reduceIte, not_false_eq_true, not_true_eq_false, nI_add, pk_mul, jn_ltT, jn_ltF, jn_leT, jn_leF, jn_eqT, jn_eqF, jn_lt0, jn_ge0, jn_eq0T, jn_eq0F, jn_in, jn_cl, sc1, e3]
  refine gm.imp (fun s2 h2 e => ?_)
  obtain ⟨e4, z2, l2⟩ := e
  subst e4
  simp (disch := omega) only [s200_331, Option.some.injEq, exists_eq_left', exists_eq_left, List.cons_append, List.nil_append, List.length_nil, List.length_cons, Nat.reduceAdd, Nat.reduceMul, Nat.reduceSub, Nat.reduceLeDiff, true_and, and_true, ↓reduceIte, not_false_eq_true, not_true_eq_false, nI_add, pk_mul, jn_ltT, jn_ltF, jn_leT, jn_leF, jn_eqT, jn_eqF, jn_lt0, jn_ge0, jn_eq0T, jn_eq0F, jn_in, jn_cl, eq_self]
  exact k h2 z2 l2
theorem jlc_rule (hZ : jZ h) (sc : jx_sc h 0 = some (n, f)) (hn : n < 2147483648) (hi : i + 6 ≤ n) (k : ∀ h', jZ h' → jLg h h' → jx_Go jxP (d + 17) 200 1150 [.ref 0, .ref 1, .ref 149, .int (nI i)] [] h' Q) : jx_Go jxP (d + 17) 200 336 [.ref 0, .ref 1, .ref 149, .int (nI i)] [] h Q := by
  have c1 := hZ.c1
  simp (disch := omega) only [s200_336, s200_337, s200_338, s200_339, s200_340, s200_341, s200_342, Option.some.injEq, exists_eq_left', exists_eq_left, List.cons_append, List.nil_append, List.length_nil, List.length_cons, Nat.reduceAdd, Nat.reduceMul, Nat.reduceSub, Nat.reduceLeDiff, true_and, and_true, ↓reduceIte, not_false_eq_true, not_true_eq_false, nI_add, pk_mul, jn_ltT, jn_ltF, jn_leT, jn_leF, jn_eqT, jn_eqF, jn_lt0, jn_ge0, jn_eq0T, jn_eq0F, jn_in, jn_cl, sc, c1]
  refine (jp_rule (d := d) hZ _).imp (fun s1 h1 e => ?_)
  obtain ⟨a, e1, ⟨e2, e3⟩, gm⟩ := e
  subst e1
  have sc1 := (jsc_eq e2).trans sc
  simp (disch := omega) only [s200_345, s200_346, s200_347, s200_348, s200_349, s200_350, s200_351, Option.some.injEq, exists_eq_left', exists_eq_left, List.cons_append, List.nil_append, List.length_nil, List.length_cons, Nat.reduceAdd, Nat.reduceMul, Nat.reduceSub, Nat.reduceLeDiff, true_and, and_true, ↓reduceIte, not_false_eq_true, not_true_eq_false, nI_add, pk_mul, jn_ltT, jn_ltF, jn_leT, jn_leF, jn_eqT, jn_eqF, jn_lt0, jn_ge0, jn_eq0T, jn_eq0F, jn_in, jn_cl, sc1, e3]
  refine gm.imp (fun s2 h2 e => ?_)
  obtain ⟨e4, z2, l2⟩ := e
  subst e4
  simp (disch := omega) only [s200_354, Option.some.injEq, exists_eq_left', exists_eq_left, List.cons_append, List.nil_append, List.length_nil, List.length_cons, Nat.reduceAdd, Nat.reduceMul, Nat.reduceSub, Nat.reduceLeDiff, true_and, and_true, ↓reduceIte, not_false_eq_true, not_true_eq_false, nI_add, pk_mul, jn_ltT, jn_ltF, jn_leT, jn_leF, jn_eqT, jn_eqF, jn_lt0, jn_ge0, jn_eq0T, jn_eq0F, jn_in, jn_cl, eq_self]
  exact k h2 z2 l2
theorem jlc_turn (hZ : jZ h) (sc : jx_sc h 0 = some (n, f)) (hn : n < 2147483648) (hi : i + 6 ≤ n) (k : ∀ h', jZ h' → jLg h h' → jx_Go jxP (d + 17) 200 1150 [.ref 0, .ref 1, .ref 149, .int (nI i)] [] h' Q) : jx_Go jxP (d + 17) 200 359 [.ref 0, .ref 1, .ref 149, .int (nI i)] [] h Q := by
  have c1 := hZ.c1
  simp (disch := omega) only [s200_359, s200_360, Option.some.injEq, exists_eq_left', exists_eq_left, List.cons_append, List.nil_append, List.length_nil, List.length_cons, Nat.reduceAdd, Nat.reduceMul, Nat.reduceSub, Nat.reduceLeDiff, true_and, and_true, ↓reduceIte, not_false_eq_true, not_true_eq_false, nI_add, pk_mul, jn_ltT, jn_ltF, jn_leT, jn_leF, jn_eqT, jn_eqF, jn_lt0, jn_ge0, jn_eq0T, jn_eq0F, jn_in, jn_cl, sc, c1]
  refine (jp_turn (d := d) hZ).imp (fun s1 h1 e => ?_)
  obtain ⟨a, e1, ⟨e2, e3⟩, gm⟩ := e
  subst e1
  have sc1 := (jsc_eq e2).trans sc
  simp (disch := omega) only [s200_363, s200_364, Option.some.injEq, exists_eq_left', exists_eq_left, List.cons_append, List.nil_append, List.length_nil, List.length_cons, Nat.reduceAdd, Nat.reduceMul, Nat.reduceSub, Nat.reduceLeDiff, true_and, and_true, ↓reduceIte, not_false_eq_true, not_true_eq_false, nI_add, pk_mul, jn_ltT, jn_ltF, jn_leT, jn_leF, jn_eqT, jn_eqF, jn_lt0, jn_ge0, jn_eq0T, jn_eq0F, jn_in, jn_cl, sc1, e3]
  refine gm.imp (fun s2 h2 e => ?_)
  obtain ⟨e4, z2, l2⟩ := e
  subst e4
  simp (disch := omega) only [s200_367, Option.some.injEq, exists_eq_left', exists_eq_left, List.cons_append, List.nil_append, List.length_nil, List.length_cons, Nat.reduceAdd, Nat.reduceMul, Nat.reduceSub, Nat.reduceLeDiff, true_and, and_true, ↓reduceIte, not_false_eq_true, not_true_eq_false, nI_add, pk_mul, jn_ltT, jn_ltF, jn_leT, jn_leF, jn_eqT, jn_eqF, jn_lt0, jn_ge0, jn_eq0T, jn_eq0F, jn_in, jn_cl, eq_self]
  exact k h2 z2 l2
theorem jlc_turnAnswers (hZ : jZ h) (sc : jx_sc h 0 = some (n, f)) (hn : n < 2147483648) (hi : i + 6 ≤ n) (k : ∀ h', jZ h' → jLg h h' → jx_Go jxP (d + 17) 200 1150 [.ref 0, .ref 1, .ref 149, .int (nI i)] [] h' Q) : jx_Go jxP (d + 17) 200 372 [.ref 0, .ref 1, .ref 149, .int (nI i)] [] h Q := by
  have c1 := hZ.c1
  simp (disch := omega) only [s200_372, s200_373, Option.some.injEq, exists_eq_left', exists_eq_left, List.cons_append, List.nil_append, List.length_nil, List.length_cons, Nat.reduceAdd, Nat.reduceMul, Nat.reduceSub, Nat.reduceLeDiff, true_and, and_true, ↓reduceIte, not_false_eq_true, not_true_eq_false, nI_add, pk_mul, jn_ltT, jn_ltF, jn_leT, jn_leF, jn_eqT, jn_eqF, jn_lt0, jn_ge0, jn_eq0T, jn_eq0F, jn_in, jn_cl, sc, c1]
  refine (jp_turnAnswers (d := d) hZ).imp (fun s1 h1 e => ?_)
  obtain ⟨a, e1, ⟨e2, e3⟩, gm⟩ := e
  subst e1
  have sc1 := (jsc_eq e2).trans sc
  simp (disch := omega) only [s200_376, s200_377, Option.some.injEq, exists_eq_left', exists_eq_left, List.cons_append, List.nil_append, List.length_nil, List.length_cons, Nat.reduceAdd, Nat.reduceMul, Nat.reduceSub, Nat.reduceLeDiff, true_and, and_true, ↓reduceIte, not_false_eq_true, not_true_eq_false, nI_add, pk_mul, jn_ltT, jn_ltF, jn_leT, jn_leF, jn_eqT, jn_eqF, jn_lt0, jn_ge0, jn_eq0T, jn_eq0F, jn_in, jn_cl, sc1, e3]
  refine gm.imp (fun s2 h2 e => ?_)
  obtain ⟨e4, z2, l2⟩ := e
  subst e4
  simp (disch := omega) only [s200_380, Option.some.injEq, exists_eq_left', exists_eq_left, List.cons_append, List.nil_append, List.length_nil, List.length_cons, Nat.reduceAdd, Nat.reduceMul, Nat.reduceSub, Nat.reduceLeDiff, true_and, and_true, ↓reduceIte, not_false_eq_true, not_true_eq_false, nI_add, pk_mul, jn_ltT, jn_ltF, jn_leT, jn_leF, jn_eqT, jn_eqF, jn_lt0, jn_ge0, jn_eq0T, jn_eq0F, jn_in, jn_cl, eq_self]
  exact k h2 z2 l2
theorem jlc_unlike (hZ : jZ h) (sc : jx_sc h 0 = some (n, f)) (hn : n < 2147483648) (hi : i + 6 ≤ n) (k : ∀ h', jZ h' → jLg h h' → jx_Go jxP (d + 17) 200 1150 [.ref 0, .ref 1, .ref 149, .int (nI i)] [] h' Q) : jx_Go jxP (d + 17) 200 385 [.ref 0, .ref 1, .ref 149, .int (nI i)] [] h Q := by
  have c1 := hZ.c1
  by_cases z : f (i + 1) = 0
  · have z' : (f (i + 1) = 0) = True := eq_true z
    simp (disch := omega) only [s200_385, s200_386, s200_387, s200_388, s200_389, s200_390, s200_391, s200_394, s200_395, s200_398, s200_399, Option.some.injEq, exists_eq_left', exists_eq_left, List.cons_append, List.nil_append, List.length_nil, List.length_cons, Nat.reduceAdd, Nat.reduceMul, Nat.reduceSub, Nat.reduceLeDiff, true_and, and_true, ↓reduceIte, not_false_eq_true, not_true_eq_false, nI_add, pk_mul, jn_ltT, jn_ltF, jn_leT, jn_leF, jn_eqT, jn_eqF, jn_lt0, jn_ge0, jn_eq0T, jn_eq0F, jn_in, jn_cl, sc, c1, z']
    refine (jp_unlike (d := d) (b := 0) hZ (by omega)).imp (fun s1 h1 e => ?_)
    obtain ⟨a, e1, ⟨e2, e3⟩, gm⟩ := e
    subst e1
    have sc1 := (jsc_eq e2).trans sc
    simp (disch := omega) only [s200_402, s200_403, s200_404, s200_405, s200_406, s200_407, s200_408, s200_411, s200_412, s200_415, s200_416, Option.some.injEq, exists_eq_left', exists_eq_left, List.cons_append, List.nil_append, List.length_nil, List.length_cons, Nat.reduceAdd, Nat.reduceMul, Nat.reduceSub, Nat.reduceLeDiff, true_and, and_true, ↓reduceIte, not_false_eq_true, not_true_eq_false, nI_add, pk_mul, jn_ltT, jn_ltF, jn_leT, jn_leF, jn_eqT, jn_eqF, jn_lt0, jn_ge0, jn_eq0T, jn_eq0F, jn_in, jn_cl, sc1, e3, z']
    refine gm.imp (fun s2 h2 e => ?_)
    obtain ⟨e4, z2, l2⟩ := e
    subst e4
    simp (disch := omega) only [s200_419, Option.some.injEq, exists_eq_left', exists_eq_left, List.cons_append, List.nil_append, List.length_nil, List.length_cons, Nat.reduceAdd, Nat.reduceMul, Nat.reduceSub, Nat.reduceLeDiff, true_and, and_true, ↓reduceIte, not_false_eq_true, not_true_eq_false, nI_add, pk_mul, jn_ltT, jn_ltF, jn_leT, jn_leF, jn_eqT, jn_eqF, jn_lt0, jn_ge0, jn_eq0T, jn_eq0F, jn_in, jn_cl, eq_self]
    exact k h2 z2 l2
  · have z' : (f (i + 1) = 0) = False := eq_false z
    simp (disch := omega) only [s200_385, s200_386, s200_387, s200_388, s200_389, s200_390, s200_391, s200_394, s200_395, s200_398, s200_399, Option.some.injEq, exists_eq_left', exists_eq_left, List.cons_append, List.nil_append, List.length_nil, List.length_cons, Nat.reduceAdd, Nat.reduceMul, Nat.reduceSub, Nat.reduceLeDiff, true_and, and_true, ↓reduceIte, not_false_eq_true, not_true_eq_false, nI_add, pk_mul, jn_ltT, jn_ltF, jn_leT, jn_leF, jn_eqT, jn_eqF, jn_lt0, jn_ge0, jn_eq0T, jn_eq0F, jn_in, jn_cl, sc, c1, z']
    refine (jp_unlike (d := d) (b := 1) hZ (by omega)).imp (fun s1 h1 e => ?_)
    obtain ⟨a, e1, ⟨e2, e3⟩, gm⟩ := e
    subst e1
    have sc1 := (jsc_eq e2).trans sc
    simp (disch := omega) only [s200_402, s200_403, s200_404, s200_405, s200_406, s200_407, s200_408, s200_411, s200_412, s200_415, s200_416, Option.some.injEq, exists_eq_left', exists_eq_left, List.cons_append, List.nil_append, List.length_nil, List.length_cons, Nat.reduceAdd, Nat.reduceMul, Nat.reduceSub, Nat.reduceLeDiff, true_and, and_true, ↓reduceIte, not_false_eq_true, not_true_eq_false, nI_add, pk_mul, jn_ltT, jn_ltF, jn_leT, jn_leF, jn_eqT, jn_eqF, jn_lt0, jn_ge0, jn_eq0T, jn_eq0F, jn_in, jn_cl, sc1, e3, z']
    refine gm.imp (fun s2 h2 e => ?_)
    obtain ⟨e4, z2, l2⟩ := e
    subst e4
    simp (disch := omega) only [s200_419, Option.some.injEq, exists_eq_left', exists_eq_left, List.cons_append, List.nil_append, List.length_nil, List.length_cons, Nat.reduceAdd, Nat.reduceMul, Nat.reduceSub, Nat.reduceLeDiff, true_and, and_true, ↓reduceIte, not_false_eq_true, not_true_eq_false, nI_add, pk_mul, jn_ltT, jn_ltF, jn_leT, jn_leF, jn_eqT, jn_eqF, jn_lt0, jn_ge0, jn_eq0T, jn_eq0F, jn_in, jn_cl, eq_self]
    exact k h2 z2 l2
theorem jlc_sheet (hZ : jZ h) (sc : jx_sc h 0 = some (n, f)) (hn : n < 2147483648) (hi : i + 6 ≤ n) (k : ∀ h', jZ h' → jLg h h' → jx_Go jxP (d + 17) 200 1150 [.ref 0, .ref 1, .ref 149, .int (nI i)] [] h' Q) : jx_Go jxP (d + 17) 200 424 [.ref 0, .ref 1, .ref 149, .int (nI i)] [] h Q := by
  have c1 := hZ.c1
  simp (disch := omega) only [s200_424, s200_425, s200_426, s200_427, s200_428, s200_429, s200_430, s200_431, s200_432, s200_433, s200_434, s200_435, s200_436, s200_437, s200_438, s200_439, s200_440, Option.some.injEq, exists_eq_left', exists_eq_left, List.cons_append, List.nil_append, List.length_nil, List.length_cons, Nat.reduceAdd, Nat.reduceMul, Nat.reduceSub, Nat.reduceLeDiff, true_and, and_true, ↓reduceIte, not_false_eq_true, not_true_eq_false, nI_add, pk_mul, jn_ltT, jn_ltF, jn_leT, jn_leF, jn_eqT, jn_eqF, jn_lt0, jn_ge0, jn_eq0T, jn_eq0F, jn_in, jn_cl, sc, c1]
  refine (jp_sheet (d := d) hZ _ _ _).imp (fun s1 h1 e => ?_)
  obtain ⟨a, e1, ⟨e2, e3⟩, gm⟩ := e
  subst e1
  have sc1 := (jsc_eq e2).trans sc
  simp (disch := omega) only [s200_443, s200_444, s200_445, s200_446, s200_447, s200_448, s200_449, s200_450, s200_451, s200_452, s200_453, s200_454, s200_455, s200_456, s200_457, s200_458, s200_459, Option.some.injEq, exists_eq_left', exists_eq_left, List.cons_append, List.nil_append, List.length_nil, List.length_cons, Nat.reduceAdd, Nat.reduceMul, Nat.reduceSub, Nat.reduceLeDiff, true_and, and_true, ↓reduceIte, not_false_eq_true, not_true_eq_false, nI_add, pk_mul, jn_ltT, jn_ltF, jn_leT, jn_leF, jn_eqT, jn_eqF, jn_lt0, jn_ge0, jn_eq0T, jn_eq0F, jn_in, jn_cl, sc1, e3]
  refine gm.imp (fun s2 h2 e => ?_)
  obtain ⟨e4, z2, l2⟩ := e
  subst e4
  simp (disch := omega) only [s200_462, Option.some.injEq, exists_eq_left', exists_eq_left, List.cons_append, List.nil_append, List.length_nil, List.length_cons, Nat.reduceAdd, Nat.reduceMul, Nat.reduceSub, Nat.reduceLeDiff, true_and, and_true, ↓reduceIte, not_false_eq_true, not_true_eq_false, nI_add, pk_mul, jn_ltT, jn_ltF, jn_leT, jn_leF, jn_eqT, jn_eqF, jn_lt0, jn_ge0, jn_eq0T, jn_eq0F, jn_in, jn_cl, eq_self]
  exact k h2 z2 l2
theorem jlc_write (hZ : jZ h) (sc : jx_sc h 0 = some (n, f)) (hn : n < 2147483648) (hi : i + 6 ≤ n) (k : ∀ h', jZ h' → jLg h h' → jx_Go jxP (d + 17) 200 1150 [.ref 0, .ref 1, .ref 149, .int (nI i)] [] h' Q) : jx_Go jxP (d + 17) 200 467 [.ref 0, .ref 1, .ref 149, .int (nI i)] [] h Q := by
  have c1 := hZ.c1
  simp (disch := omega) only [s200_467, s200_468, s200_469, s200_470, s200_471, s200_472, s200_473, s200_474, s200_475, s200_476, s200_477, s200_478, s200_479, s200_480, s200_481, s200_482, s200_483, Option.some.injEq, exists_eq_left', exists_eq_left, List.cons_append, List.nil_append, List.length_nil, List.length_cons, Nat.reduceAdd, Nat.reduceMul, Nat.reduceSub, Nat.reduceLeDiff, true_and, and_true, ↓reduceIte, not_false_eq_true, not_true_eq_false, nI_add, pk_mul, jn_ltT, jn_ltF, jn_leT, jn_leF, jn_eqT, jn_eqF, jn_lt0, jn_ge0, jn_eq0T, jn_eq0F, jn_in, jn_cl, sc, c1]
  refine (jp_write (d := d) hZ _ _ _).imp (fun s1 h1 e => ?_)
  obtain ⟨a, e1, ⟨e2, e3⟩, gm⟩ := e
  subst e1
  have sc1 := (jsc_eq e2).trans sc
  simp (disch := omega) only [s200_486, s200_487, s200_488, s200_489, s200_490, s200_491, s200_492, s200_493, s200_494, s200_495, s200_496, s200_497, s200_498, s200_499, s200_500, s200_501, s200_502, Option.some.injEq, exists_eq_left', exists_eq_left, List.cons_append, List.nil_append, List.length_nil, List.length_cons, Nat.reduceAdd, Nat.reduceMul, Nat.reduceSub, Nat.reduceLeDiff, true_and, and_true, ↓reduceIte, not_false_eq_true, not_true_eq_false, nI_add, pk_mul, jn_ltT, jn_ltF, jn_leT, jn_leF, jn_eqT, jn_eqF, jn_lt0, jn_ge0, jn_eq0T, jn_eq0F, jn_in, jn_cl, sc1, e3]
  refine gm.imp (fun s2 h2 e => ?_)
  obtain ⟨e4, z2, l2⟩ := e
  subst e4
  simp (disch := omega) only [s200_505, Option.some.injEq, exists_eq_left', exists_eq_left, List.cons_append, List.nil_append, List.length_nil, List.length_cons, Nat.reduceAdd, Nat.reduceMul, Nat.reduceSub, Nat.reduceLeDiff, true_and, and_true, ↓reduceIte, not_false_eq_true, not_true_eq_false, nI_add, pk_mul, jn_ltT, jn_ltF, jn_leT, jn_leF, jn_eqT, jn_eqF, jn_lt0, jn_ge0, jn_eq0T, jn_eq0F, jn_in, jn_cl, eq_self]
  exact k h2 z2 l2
theorem jlc_copy (hZ : jZ h) (sc : jx_sc h 0 = some (n, f)) (hn : n < 2147483648) (hi : i + 6 ≤ n) (k : ∀ h', jZ h' → jLg h h' → jx_Go jxP (d + 17) 200 1150 [.ref 0, .ref 1, .ref 149, .int (nI i)] [] h' Q) : jx_Go jxP (d + 17) 200 510 [.ref 0, .ref 1, .ref 149, .int (nI i)] [] h Q := by
  have c1 := hZ.c1
  simp (disch := omega) only [s200_510, s200_511, s200_512, s200_513, s200_514, s200_515, s200_516, s200_517, s200_518, s200_519, s200_520, s200_521, s200_522, s200_523, s200_524, s200_525, s200_526, s200_527, s200_528, s200_529, s200_530, s200_531, s200_532, s200_533, s200_534, s200_535, s200_536, Option.some.injEq, exists_eq_left', exists_eq_left, List.cons_append, List.nil_append, List.length_nil, List.length_cons, Nat.reduceAdd, Nat.reduceMul, Nat.reduceSub, Nat.reduceLeDiff, true_and, and_true, ↓reduceIte, not_false_eq_true, not_true_eq_false, nI_add, pk_mul, jn_ltT, jn_ltF, jn_leT, jn_leF, jn_eqT, jn_eqF, jn_lt0, jn_ge0, jn_eq0T, jn_eq0F, jn_in, jn_cl, sc, c1]
  refine (jp_copy (d := d) hZ _ _ _ _ _).imp (fun s1 h1 e => ?_)
  obtain ⟨a, e1, ⟨e2, e3⟩, gm⟩ := e
  subst e1
  have sc1 := (jsc_eq e2).trans sc
  simp (disch := omega) only [s200_539, s200_540, s200_541, s200_542, s200_543, s200_544, s200_545, s200_546, s200_547, s200_548, s200_549, s200_550, s200_551, s200_552, s200_553, s200_554, s200_555, s200_556, s200_557, s200_558, s200_559, s200_560, s200_561, s200_562, s200_563, s200_564, s200_565, Option.some.injEq, exists_eq_left', exists_eq_left, List.cons_append, List.nil_append, List.length_nil, List.length_cons, Nat.reduceAdd, Nat.reduceMul, Nat.reduceSub, Nat.reduceLeDiff, true_and, and_true, ↓reduceIte, not_false_eq_true, not_true_eq_false, nI_add, pk_mul, jn_ltT, jn_ltF, jn_leT, jn_leF, jn_eqT, jn_eqF, jn_lt0, jn_ge0, jn_eq0T, jn_eq0F, jn_in, jn_cl, sc1, e3]
  refine gm.imp (fun s2 h2 e => ?_)
  obtain ⟨e4, z2, l2⟩ := e
  subst e4
  simp (disch := omega) only [s200_568, Option.some.injEq, exists_eq_left', exists_eq_left, List.cons_append, List.nil_append, List.length_nil, List.length_cons, Nat.reduceAdd, Nat.reduceMul, Nat.reduceSub, Nat.reduceLeDiff, true_and, and_true, ↓reduceIte, not_false_eq_true, not_true_eq_false, nI_add, pk_mul, jn_ltT, jn_ltF, jn_leT, jn_leF, jn_eqT, jn_eqF, jn_lt0, jn_ge0, jn_eq0T, jn_eq0F, jn_in, jn_cl, eq_self]
  exact k h2 z2 l2
theorem jlc_lay (hZ : jZ h) (sc : jx_sc h 0 = some (n, f)) (hn : n < 2147483648) (hi : i + 6 ≤ n) (k : ∀ h', jZ h' → jLg h h' → jx_Go jxP (d + 17) 200 1150 [.ref 0, .ref 1, .ref 149, .int (nI i)] [] h' Q) : jx_Go jxP (d + 17) 200 573 [.ref 0, .ref 1, .ref 149, .int (nI i)] [] h Q := by
  have c1 := hZ.c1
  simp (disch := omega) only [s200_573, s200_574, s200_575, s200_576, s200_577, s200_578, s200_579, Option.some.injEq, exists_eq_left', exists_eq_left, List.cons_append, List.nil_append, List.length_nil, List.length_cons, Nat.reduceAdd, Nat.reduceMul, Nat.reduceSub, Nat.reduceLeDiff, true_and, and_true, ↓reduceIte, not_false_eq_true, not_true_eq_false, nI_add, pk_mul, jn_ltT, jn_ltF, jn_leT, jn_leF, jn_eqT, jn_eqF, jn_lt0, jn_ge0, jn_eq0T, jn_eq0F, jn_in, jn_cl, sc, c1]
  refine (jp_lay (d := d) hZ _).imp (fun s1 h1 e => ?_)
  obtain ⟨a, e1, ⟨e2, e3⟩, gm⟩ := e
  subst e1
  have sc1 := (jsc_eq e2).trans sc
  simp (disch := omega) only [s200_582, s200_583, s200_584, s200_585, s200_586, s200_587, s200_588, Option.some.injEq, exists_eq_left', exists_eq_left, List.cons_append, List.nil_append, List.length_nil, List.length_cons, Nat.reduceAdd, Nat.reduceMul, Nat.reduceSub, Nat.reduceLeDiff, true_and, and_true, ↓reduceIte, not_false_eq_true, not_true_eq_false, nI_add, pk_mul, jn_ltT, jn_ltF, jn_leT, jn_leF, jn_eqT, jn_eqF, jn_lt0, jn_ge0, jn_eq0T, jn_eq0F, jn_in, jn_cl, sc1, e3]
  refine gm.imp (fun s2 h2 e => ?_)
  obtain ⟨e4, z2, l2⟩ := e
  subst e4
  simp (disch := omega) only [s200_591, Option.some.injEq, exists_eq_left', exists_eq_left, List.cons_append, List.nil_append, List.length_nil, List.length_cons, Nat.reduceAdd, Nat.reduceMul, Nat.reduceSub, Nat.reduceLeDiff, true_and, and_true, ↓reduceIte, not_false_eq_true, not_true_eq_false, nI_add, pk_mul, jn_ltT, jn_ltF, jn_leT, jn_leF, jn_eqT, jn_eqF, jn_lt0, jn_ge0, jn_eq0T, jn_eq0F, jn_in, jn_cl, eq_self]
  exact k h2 z2 l2
theorem jlc_bits (hZ : jZ h) (sc : jx_sc h 0 = some (n, f)) (hn : n < 2147483648) (hi : i + 6 ≤ n) (k : ∀ h', jZ h' → jLg h h' → jx_Go jxP (d + 17) 200 1150 [.ref 0, .ref 1, .ref 149, .int (nI i)] [] h' Q) : jx_Go jxP (d + 17) 200 596 [.ref 0, .ref 1, .ref 149, .int (nI i)] [] h Q := by
  have c1 := hZ.c1
  simp (disch := omega) only [s200_596, s200_597, s200_598, s200_599, s200_600, s200_601, s200_602, s200_603, s200_604, s200_605, s200_606, s200_607, Option.some.injEq, exists_eq_left', exists_eq_left, List.cons_append, List.nil_append, List.length_nil, List.length_cons, Nat.reduceAdd, Nat.reduceMul, Nat.reduceSub, Nat.reduceLeDiff, true_and, and_true, ↓reduceIte, not_false_eq_true, not_true_eq_false, nI_add, pk_mul, jn_ltT, jn_ltF, jn_leT, jn_leF, jn_eqT, jn_eqF, jn_lt0, jn_ge0, jn_eq0T, jn_eq0F, jn_in, jn_cl, sc, c1]
  refine (jp_bits (d := d) hZ _ _).imp (fun s1 h1 e => ?_)
  obtain ⟨a, e1, ⟨e2, e3⟩, gm⟩ := e
  subst e1
  have sc1 := (jsc_eq e2).trans sc
  simp (disch := omega) only [s200_610, s200_611, s200_612, s200_613, s200_614, s200_615, s200_616, s200_617, s200_618, s200_619, s200_620, s200_621, Option.some.injEq, exists_eq_left', exists_eq_left, List.cons_append, List.nil_append, List.length_nil, List.length_cons, Nat.reduceAdd, Nat.reduceMul, Nat.reduceSub, Nat.reduceLeDiff, true_and, and_true, ↓reduceIte, not_false_eq_true, not_true_eq_false, nI_add, pk_mul, jn_ltT, jn_ltF, jn_leT, jn_leF, jn_eqT, jn_eqF, jn_lt0, jn_ge0, jn_eq0T, jn_eq0F, jn_in, jn_cl, sc1, e3]
  refine gm.imp (fun s2 h2 e => ?_)
  obtain ⟨e4, z2, l2⟩ := e
  subst e4
  simp (disch := omega) only [s200_624, Option.some.injEq, exists_eq_left', exists_eq_left, List.cons_append, List.nil_append, List.length_nil, List.length_cons, Nat.reduceAdd, Nat.reduceMul, Nat.reduceSub, Nat.reduceLeDiff, true_and, and_true, ↓reduceIte, not_false_eq_true, not_true_eq_false, nI_add, pk_mul, jn_ltT, jn_ltF, jn_leT, jn_leF, jn_eqT, jn_eqF, jn_lt0, jn_ge0, jn_eq0T, jn_eq0F, jn_in, jn_cl, eq_self]
  exact k h2 z2 l2
theorem jlc_ends (hZ : jZ h) (sc : jx_sc h 0 = some (n, f)) (hn : n < 2147483648) (hi : i + 6 ≤ n) (k : ∀ h', jZ h' → jLg h h' → jx_Go jxP (d + 17) 200 1150 [.ref 0, .ref 1, .ref 149, .int (nI i)] [] h' Q) : jx_Go jxP (d + 17) 200 629 [.ref 0, .ref 1, .ref 149, .int (nI i)] [] h Q := by
  have c1 := hZ.c1
  simp (disch := omega) only [s200_629, s200_630, s200_631, s200_632, s200_633, s200_634, s200_635, s200_636, s200_637, s200_638, s200_639, s200_640, Option.some.injEq, exists_eq_left', exists_eq_left, List.cons_append, List.nil_append, List.length_nil, List.length_cons, Nat.reduceAdd, Nat.reduceMul, Nat.reduceSub, Nat.reduceLeDiff, true_and, and_true, ↓reduceIte, not_false_eq_true, not_true_eq_false, nI_add, pk_mul, jn_ltT, jn_ltF, jn_leT, jn_leF, jn_eqT, jn_eqF, jn_lt0, jn_ge0, jn_eq0T, jn_eq0F, jn_in, jn_cl, sc, c1]
  refine (jp_ends (d := d) hZ _ _).imp (fun s1 h1 e => ?_)
  obtain ⟨a, e1, ⟨e2, e3⟩, gm⟩ := e
  subst e1
  have sc1 := (jsc_eq e2).trans sc
  simp (disch := omega) only [s200_643, s200_644, s200_645, s200_646, s200_647, s200_648, s200_649, s200_650, s200_651, s200_652, s200_653, s200_654, Option.some.injEq, exists_eq_left', exists_eq_left, List.cons_append, List.nil_append, List.length_nil, List.length_cons, Nat.reduceAdd, Nat.reduceMul, Nat.reduceSub, Nat.reduceLeDiff, true_and, and_true, ↓reduceIte, not_false_eq_true, not_true_eq_false, nI_add, pk_mul, jn_ltT, jn_ltF, jn_leT, jn_leF, jn_eqT, jn_eqF, jn_lt0, jn_ge0, jn_eq0T, jn_eq0F, jn_in, jn_cl, sc1, e3]
  refine gm.imp (fun s2 h2 e => ?_)
  obtain ⟨e4, z2, l2⟩ := e
  subst e4
  simp (disch := omega) only [s200_657, Option.some.injEq, exists_eq_left', exists_eq_left, List.cons_append, List.nil_append, List.length_nil, List.length_cons, Nat.reduceAdd, Nat.reduceMul, Nat.reduceSub, Nat.reduceLeDiff, true_and, and_true, ↓reduceIte, not_false_eq_true, not_true_eq_false, nI_add, pk_mul, jn_ltT, jn_ltF, jn_leT, jn_leF, jn_eqT, jn_eqF, jn_lt0, jn_ge0, jn_eq0T, jn_eq0F, jn_in, jn_cl, eq_self]
  exact k h2 z2 l2
theorem jlc_talk (hZ : jZ h) (sc : jx_sc h 0 = some (n, f)) (hn : n < 2147483648) (hi : i + 6 ≤ n) (k : ∀ h', jZ h' → jLg h h' → jx_Go jxP (d + 17) 200 1150 [.ref 0, .ref 1, .ref 149, .int (nI i)] [] h' Q) : jx_Go jxP (d + 17) 200 662 [.ref 0, .ref 1, .ref 149, .int (nI i)] [] h Q := by
  have c1 := hZ.c1
  simp (disch := omega) only [s200_662, s200_663, Option.some.injEq, exists_eq_left', exists_eq_left, List.cons_append, List.nil_append, List.length_nil, List.length_cons, Nat.reduceAdd, Nat.reduceMul, Nat.reduceSub, Nat.reduceLeDiff, true_and, and_true, ↓reduceIte, not_false_eq_true, not_true_eq_false, nI_add, pk_mul, jn_ltT, jn_ltF, jn_leT, jn_leF, jn_eqT, jn_eqF, jn_lt0, jn_ge0, jn_eq0T, jn_eq0F, jn_in, jn_cl, sc, c1]
  refine (jp_talk (d := d) hZ).imp (fun s1 h1 e => ?_)
  obtain ⟨a, e1, ⟨e2, e3⟩, gm⟩ := e
  subst e1
  have sc1 := (jsc_eq e2).trans sc
  simp (disch := omega) only [s200_666, s200_667, Option.some.injEq, exists_eq_left', exists_eq_left, List.cons_append, List.nil_append, List.length_nil, List.length_cons, Nat.reduceAdd, Nat.reduceMul, Nat.reduceSub, Nat.reduceLeDiff, true_and, and_true, ↓reduceIte, not_false_eq_true, not_true_eq_false, nI_add, pk_mul, jn_ltT, jn_ltF, jn_leT, jn_leF, jn_eqT, jn_eqF, jn_lt0, jn_ge0, jn_eq0T, jn_eq0F, jn_in, jn_cl, sc1, e3]
  refine gm.imp (fun s2 h2 e => ?_)
  obtain ⟨e4, z2, l2⟩ := e
  subst e4
  simp (disch := omega) only [s200_670, Option.some.injEq, exists_eq_left', exists_eq_left, List.cons_append, List.nil_append, List.length_nil, List.length_cons, Nat.reduceAdd, Nat.reduceMul, Nat.reduceSub, Nat.reduceLeDiff, true_and, and_true, ↓reduceIte, not_false_eq_true, not_true_eq_false, nI_add, pk_mul, jn_ltT, jn_ltF, jn_leT, jn_leF, jn_eqT, jn_eqF, jn_lt0, jn_ge0, jn_eq0T, jn_eq0F, jn_in, jn_cl, eq_self]
  exact k h2 z2 l2
theorem jlc_knot (hZ : jZ h) (sc : jx_sc h 0 = some (n, f)) (hn : n < 2147483648) (hi : i + 6 ≤ n) (k : ∀ h', jZ h' → jLg h h' → jx_Go jxP (d + 17) 200 1150 [.ref 0, .ref 1, .ref 149, .int (nI i)] [] h' Q) : jx_Go jxP (d + 17) 200 675 [.ref 0, .ref 1, .ref 149, .int (nI i)] [] h Q := by
  have c1 := hZ.c1
  simp (disch := omega) only [s200_675, s200_676, s200_677, s200_678, s200_679, s200_680, s200_681, s200_682, s200_683, s200_684, s200_685, s200_686, Option.some.injEq, exists_eq_left', exists_eq_left, List.cons_append, List.nil_append, List.length_nil, List.length_cons, Nat.reduceAdd, Nat.reduceMul, Nat.reduceSub, Nat.reduceLeDiff, true_and, and_true, ↓reduceIte, not_false_eq_true, not_true_eq_false, nI_add, pk_mul, jn_ltT, jn_ltF, jn_leT, jn_leF, jn_eqT, jn_eqF, jn_lt0, jn_ge0, jn_eq0T, jn_eq0F, jn_in, jn_cl, sc, c1]
  refine (jp_knot (d := d) hZ _ _).imp (fun s1 h1 e => ?_)
  obtain ⟨a, e1, ⟨e2, e3⟩, gm⟩ := e
  subst e1
  have sc1 := (jsc_eq e2).trans sc
  simp (disch := omega) only [s200_689, s200_690, s200_691, s200_692, s200_693, s200_694, s200_695, s200_696, s200_697, s200_698, s200_699, s200_700, Option.some.injEq, exists_eq_left', exists_eq_left, List.cons_append, List.nil_append, List.length_nil, List.length_cons, Nat.reduceAdd, Nat.reduceMul, Nat.reduceSub, Nat.reduceLeDiff, true_and, and_true, ↓reduceIte, not_false_eq_true, not_true_eq_false, nI_add, pk_mul, jn_ltT, jn_ltF, jn_leT, jn_leF, jn_eqT, jn_eqF, jn_lt0, jn_ge0, jn_eq0T, jn_eq0F, jn_in, jn_cl, sc1, e3]
  refine gm.imp (fun s2 h2 e => ?_)
  obtain ⟨e4, z2, l2⟩ := e
  subst e4
  simp (disch := omega) only [s200_703, Option.some.injEq, exists_eq_left', exists_eq_left, List.cons_append, List.nil_append, List.length_nil, List.length_cons, Nat.reduceAdd, Nat.reduceMul, Nat.reduceSub, Nat.reduceLeDiff, true_and, and_true, ↓reduceIte, not_false_eq_true, not_true_eq_false, nI_add, pk_mul, jn_ltT, jn_ltF, jn_leT, jn_leF, jn_eqT, jn_eqF, jn_lt0, jn_ge0, jn_eq0T, jn_eq0F, jn_in, jn_cl, eq_self]
  exact k h2 z2 l2
theorem jlc_said (hZ : jZ h) (sc : jx_sc h 0 = some (n, f)) (hn : n < 2147483648) (hi : i + 6 ≤ n) (k : ∀ h', jZ h' → jLg h h' → jx_Go jxP (d + 17) 200 1150 [.ref 0, .ref 1, .ref 149, .int (nI i)] [] h' Q) : jx_Go jxP (d + 17) 200 708 [.ref 0, .ref 1, .ref 149, .int (nI i)] [] h Q := by
  have c1 := hZ.c1
  simp (disch := omega) only [s200_708, s200_709, s200_710, s200_711, s200_712, s200_713, s200_714, s200_715, s200_716, s200_717, s200_718, s200_719, Option.some.injEq, exists_eq_left', exists_eq_left, List.cons_append, List.nil_append, List.length_nil, List.length_cons, Nat.reduceAdd, Nat.reduceMul, Nat.reduceSub, Nat.reduceLeDiff, true_and, and_true, ↓reduceIte, not_false_eq_true, not_true_eq_false, nI_add, pk_mul, jn_ltT, jn_ltF, jn_leT, jn_leF, jn_eqT, jn_eqF, jn_lt0, jn_ge0, jn_eq0T, jn_eq0F, jn_in, jn_cl, sc, c1]
  refine (jp_said (d := d) hZ _ _).imp (fun s1 h1 e => ?_)
  obtain ⟨a, e1, ⟨e2, e3⟩, gm⟩ := e
  subst e1
  have sc1 := (jsc_eq e2).trans sc
  simp (disch := omega) only [s200_722, s200_723, s200_724, s200_725, s200_726, s200_727, s200_728, s200_729, s200_730, s200_731, s200_732, s200_733, Option.some.injEq, exists_eq_left', exists_eq_left, List.cons_append, List.nil_append, List.length_nil, List.length_cons, Nat.reduceAdd, Nat.reduceMul, Nat.reduceSub, Nat.reduceLeDiff, true_and, and_true, ↓reduceIte, not_false_eq_true, not_true_eq_false, nI_add, pk_mul, jn_ltT, jn_ltF, jn_leT, jn_leF, jn_eqT, jn_eqF, jn_lt0, jn_ge0, jn_eq0T, jn_eq0F, jn_in, jn_cl, sc1, e3]
  refine gm.imp (fun s2 h2 e => ?_)
  obtain ⟨e4, z2, l2⟩ := e
  subst e4
  simp (disch := omega) only [s200_736, Option.some.injEq, exists_eq_left', exists_eq_left, List.cons_append, List.nil_append, List.length_nil, List.length_cons, Nat.reduceAdd, Nat.reduceMul, Nat.reduceSub, Nat.reduceLeDiff, true_and, and_true, ↓reduceIte, not_false_eq_true, not_true_eq_false, nI_add, pk_mul, jn_ltT, jn_ltF, jn_leT, jn_leF, jn_eqT, jn_eqF, jn_lt0, jn_ge0, jn_eq0T, jn_eq0F, jn_in, jn_cl, eq_self]
  exact k h2 z2 l2
theorem jlc_classes (hZ : jZ h) (sc : jx_sc h 0 = some (n, f)) (hn : n < 2147483648) (hi : i + 6 ≤ n) (k : ∀ h', jZ h' → jLg h h' → jx_Go jxP (d + 17) 200 1150 [.ref 0, .ref 1, .ref 149, .int (nI i)] [] h' Q) : jx_Go jxP (d + 17) 200 741 [.ref 0, .ref 1, .ref 149, .int (nI i)] [] h Q := by
  have c1 := hZ.c1
  by_cases z : f (i + 1) = 0
  · have z' : (f (i + 1) = 0) = True := eq_true z
    simp (disch := omega) only [s200_741, s200_742, s200_743, s200_744, s200_745, s200_746, s200_747, s200_750, s200_751, s200_754, s200_755, Option.some.injEq, exists_eq_left', exists_eq_left, List.cons_append, List.nil_append, List.length_nil, List.length_cons, Nat.reduceAdd, Nat.reduceMul, Nat.reduceSub, Nat.reduceLeDiff, true_and, and_true, ↓reduceIte, not_false_eq_true, not_true_eq_false, nI_add, pk_mul, jn_ltT, jn_ltF, jn_leT, jn_leF, jn_eqT, jn_eqF, jn_lt0, jn_ge0, jn_eq0T, jn_eq0F, jn_in, jn_cl, sc, c1, z']
    refine (jp_classes (d := d) (b := 0) hZ (by omega)).imp (fun s1 h1 e => ?_)
    obtain ⟨a, e1, ⟨e2, e3⟩, gm⟩ := e
    subst e1
    have sc1 := (jsc_eq e2).trans sc
    simp (disch := omega) only [s200_758, s200_759, s200_760, s200_761, s200_762, s200_763, s200_764, s200_767, s200_768, s200_771, s200_772, Option.some.injEq, exists_eq_left', exists_eq_left, List.cons_append, List.nil_append, List.length_nil, List.length_cons, Nat.reduceAdd, Nat.reduceMul, Nat.reduceSub, Nat.reduceLeDiff, true_and, and_true, ↓reduceIte, not_false_eq_true, not_true_eq_false, nI_add, pk_mul, jn_ltT, jn_ltF, jn_leT, jn_leF, jn_eqT, jn_eqF, jn_lt0, jn_ge0, jn_eq0T, jn_eq0F, jn_in, jn_cl, sc1, e3, z']
    refine gm.imp (fun s2 h2 e => ?_)
    obtain ⟨e4, z2, l2⟩ := e
    subst e4
    simp (disch := omega) only [s200_775, Option.some.injEq, exists_eq_left', exists_eq_left, List.cons_append, List.nil_append, List.length_nil, List.length_cons, Nat.reduceAdd, Nat.reduceMul, Nat.reduceSub, Nat.reduceLeDiff, true_and, and_true, ↓reduceIte, not_false_eq_true, not_true_eq_false, nI_add, pk_mul, jn_ltT, jn_ltF, jn_leT, jn_leF, jn_eqT, jn_eqF, jn_lt0, jn_ge0, jn_eq0T, jn_eq0F, jn_in, jn_cl, eq_self]
    exact k h2 z2 l2
  · have z' : (f (i + 1) = 0) = False := eq_false z
    simp (disch := omega) only [s200_741, s200_742, s200_743, s200_744, s200_745, s200_746, s200_747, s200_750, s200_751, s200_754, s200_755, Option.some.injEq, exists_eq_left', exists_eq_left, List.cons_append, List.nil_append, List.length_nil, List.length_cons, Nat.reduceAdd, Nat.reduceMul, Nat.reduceSub, Nat.reduceLeDiff, true_and, and_true, ↓reduceIte, not_false_eq_true, not_true_eq_false, nI_add, pk_mul, jn_ltT, jn_ltF, jn_leT, jn_leF, jn_eqT, jn_eqF, jn_lt0, jn_ge0, jn_eq0T, jn_eq0F, jn_in, jn_cl, sc, c1, z']
    refine (jp_classes (d := d) (b := 1) hZ (by omega)).imp (fun s1 h1 e => ?_)
    obtain ⟨a, e1, ⟨e2, e3⟩, gm⟩ := e
    subst e1
    have sc1 := (jsc_eq e2).trans sc
    simp (disch := omega) only [s200_758, s200_759, s200_760, s200_761, s200_762, s200_763, s200_764, s200_767, s200_768, s200_771, s200_772, Option.some.injEq, exists_eq_left', exists_eq_left, List.cons_append, List.nil_append, List.length_nil, List.length_cons, Nat.reduceAdd, Nat.reduceMul, Nat.reduceSub, Nat.reduceLeDiff, true_and, and_true, ↓reduceIte, not_false_eq_true, not_true_eq_false, nI_add, pk_mul, jn_ltT, jn_ltF, jn_leT, jn_leF, jn_eqT, jn_eqF, jn_lt0, jn_ge0, jn_eq0T, jn_eq0F, jn_in, jn_cl, sc1, e3, z']
    refine gm.imp (fun s2 h2 e => ?_)
    obtain ⟨e4, z2, l2⟩ := e
    subst e4
    simp (disch := omega) only [s200_775, Option.some.injEq, exists_eq_left', exists_eq_left, List.cons_append, List.nil_append, List.length_nil, List.length_cons, Nat.reduceAdd, Nat.reduceMul, Nat.reduceSub, Nat.reduceLeDiff, true_and, and_true, ↓reduceIte, not_false_eq_true, not_true_eq_false, nI_add, pk_mul, jn_ltT, jn_ltF, jn_leT, jn_leF, jn_eqT, jn_eqF, jn_lt0, jn_ge0, jn_eq0T, jn_eq0F, jn_in, jn_cl, eq_self]
    exact k h2 z2 l2
theorem jlc_once (hZ : jZ h) (sc : jx_sc h 0 = some (n, f)) (hn : n < 2147483648) (hi : i + 6 ≤ n) (k : ∀ h', jZ h' → jLg h h' → jx_Go jxP (d + 17) 200 1150 [.ref 0, .ref 1, .ref 149, .int (nI i)] [] h' Q) : jx_Go jxP (d + 17) 200 780 [.ref 0, .ref 1, .ref 149, .int (nI i)] [] h Q := by
  have c1 := hZ.c1
  by_cases z : f (i + 1) = 0
  · have z' : (f (i + 1) = 0) = True := eq_true z
    simp (disch := omega) only [s200_780, s200_781, s200_782, s200_783, s200_784, s200_785, s200_786, s200_789, s200_790, s200_793, s200_794, Option.some.injEq, exists_eq_left', exists_eq_left, List.cons_append, List.nil_append, List.length_nil, List.length_cons, Nat.reduceAdd, Nat.reduceMul, Nat.reduceSub, Nat.reduceLeDiff, true_and, and_true, ↓reduceIte, not_false_eq_true, not_true_eq_false, nI_add, pk_mul, jn_ltT, jn_ltF, jn_leT, jn_leF, jn_eqT, jn_eqF, jn_lt0, jn_ge0, jn_eq0T, jn_eq0F, jn_in, jn_cl, sc, c1, z']
    refine (jp_once (d := d) (b := 0) hZ (by omega)).imp (fun s1 h1 e => ?_)
    obtain ⟨a, e1, ⟨e2, e3⟩, gm⟩ := e
    subst e1
    have sc1 := (jsc_eq e2).trans sc
    simp (disch := omega) only [s200_797, s200_798, s200_799, s200_800, s200_801, s200_802, s200_803, s200_806, s200_807, s200_810, s200_811, Option.some.injEq, exists_eq_left', exists_eq_left, List.cons_append, List.nil_append, List.length_nil, List.length_cons, Nat.reduceAdd, Nat.reduceMul, Nat.reduceSub, Nat.reduceLeDiff, true_and, and_true, ↓reduceIte, not_false_eq_true, not_true_eq_false, nI_add, pk_mul, jn_ltT, jn_ltF, jn_leT, jn_leF, jn_eqT, jn_eqF, jn_lt0, jn_ge0, jn_eq0T, jn_eq0F, jn_in, jn_cl, sc1, e3, z']
    refine gm.imp (fun s2 h2 e => ?_)
    obtain ⟨e4, z2, l2⟩ := e
    subst e4
    simp (disch := omega) only [s200_814, Option.some.injEq, exists_eq_left', exists_eq_left, List.cons_append, List.nil_append, List.length_nil, List.length_cons, Nat.reduceAdd, Nat.reduceMul, Nat.reduceSub, Nat.reduceLeDiff, true_and, and_true, ↓reduceIte, not_false_eq_true, not_true_eq_false, nI_add, pk_mul, jn_ltT, jn_ltF, jn_leT, jn_leF, jn_eqT, jn_eqF, jn_lt0, jn_ge0, jn_eq0T, jn_eq0F, jn_in, jn_cl, eq_self]
    exact k h2 z2 l2
  · have z' : (f (i + 1) = 0) = False := eq_false z
    simp (disch := omega) only [s200_780, s200_781, s200_782, s200_783, s200_784, s200_785, s200_786, s200_789, s200_790, s200_793, s200_794, Option.some.injEq, exists_eq_left', exists_eq_left, List.cons_append, List.nil_append, List.length_nil, List.length_cons, Nat.reduceAdd, Nat.reduceMul, Nat.reduceSub, Nat.reduceLeDiff, true_and, and_true, ↓reduceIte, not_false_eq_true, not_true_eq_false, nI_add, pk_mul, jn_ltT, jn_ltF, jn_leT, jn_leF, jn_eqT, jn_eqF, jn_lt0, jn_ge0, jn_eq0T, jn_eq0F, jn_in, jn_cl, sc, c1, z']
    refine (jp_once (d := d) (b := 1) hZ (by omega)).imp (fun s1 h1 e => ?_)
    obtain ⟨a, e1, ⟨e2, e3⟩, gm⟩ := e
    subst e1
    have sc1 := (jsc_eq e2).trans sc
    simp (disch := omega) only [s200_797, s200_798, s200_799, s200_800, s200_801, s200_802, s200_803, s200_806, s200_807, s200_810, s200_811, Option.some.injEq, exists_eq_left', exists_eq_left, List.cons_append, List.nil_append, List.length_nil, List.length_cons, Nat.reduceAdd, Nat.reduceMul, Nat.reduceSub, Nat.reduceLeDiff, true_and, and_true, ↓reduceIte, not_false_eq_true, not_true_eq_false, nI_add, pk_mul, jn_ltT, jn_ltF, jn_leT, jn_leF, jn_eqT, jn_eqF, jn_lt0, jn_ge0, jn_eq0T, jn_eq0F, jn_in, jn_cl, sc1, e3, z']
    refine gm.imp (fun s2 h2 e => ?_)
    obtain ⟨e4, z2, l2⟩ := e
    subst e4
    simp (disch := omega) only [s200_814, Option.some.injEq, exists_eq_left', exists_eq_left, List.cons_append, List.nil_append, List.length_nil, List.length_cons, Nat.reduceAdd, Nat.reduceMul, Nat.reduceSub, Nat.reduceLeDiff, true_and, and_true, ↓reduceIte, not_false_eq_true, not_true_eq_false, nI_add, pk_mul, jn_ltT, jn_ltF, jn_leT, jn_leF, jn_eqT, jn_eqF, jn_lt0, jn_ge0, jn_eq0T, jn_eq0F, jn_in, jn_cl, eq_self]
    exact k h2 z2 l2
theorem jlc_rank (hZ : jZ h) (sc : jx_sc h 0 = some (n, f)) (hn : n < 2147483648) (hi : i + 6 ≤ n) (k : ∀ h', jZ h' → jLg h h' → jx_Go jxP (d + 17) 200 1150 [.ref 0, .ref 1, .ref 149, .int (nI i)] [] h' Q) : jx_Go jxP (d + 17) 200 819 [.ref 0, .ref 1, .ref 149, .int (nI i)] [] h Q := by
  have c1 := hZ.c1
  by_cases z : f (i + 1) = 0
  · have z' : (f (i + 1) = 0) = True := eq_true z
    simp (disch := omega) only [s200_819, s200_820, s200_821, s200_822, s200_823, s200_824, s200_825, s200_828, s200_829, s200_832, s200_833, Option.some.injEq, exists_eq_left', exists_eq_left, List.cons_append, List.nil_append, List.length_nil, List.length_cons, Nat.reduceAdd, Nat.reduceMul, Nat.reduceSub, Nat.reduceLeDiff, true_and, and_true, ↓reduceIte, not_false_eq_true, not_true_eq_false, nI_add, pk_mul, jn_ltT, jn_ltF, jn_leT, jn_leF, jn_eqT, jn_eqF, jn_lt0, jn_ge0, jn_eq0T, jn_eq0F, jn_in, jn_cl, sc, c1, z']
    refine (jp_rank (d := d) hZ false).imp (fun s1 h1 e => ?_)
    obtain ⟨a, e1, ⟨e2, e3⟩, gm⟩ := e
    subst e1
    have sc1 := (jsc_eq e2).trans sc
    simp (disch := omega) only [s200_836, s200_837, s200_838, s200_839, s200_840, s200_841, s200_842, s200_845, s200_846, s200_849, s200_850, Option.some.injEq, exists_eq_left', exists_eq_left, List.cons_append, List.nil_append, List.length_nil, List.length_cons, Nat.reduceAdd, Nat.reduceMul, Nat.reduceSub, Nat.reduceLeDiff, true_and, and_true, ↓reduceIte, not_false_eq_true, not_true_eq_false, nI_add, pk_mul, jn_ltT, jn_ltF, jn_leT, jn_leF, jn_eqT, jn_eqF, jn_lt0, jn_ge0, jn_eq0T, jn_eq0F, jn_in, jn_cl, sc1, e3, z']
    refine gm.imp (fun s2 h2 e => ?_)
    obtain ⟨e4, z2, l2⟩ := e
    subst e4
    simp (disch := omega) only [s200_853, Option.some.injEq, exists_eq_left', exists_eq_left, List.cons_append, List.nil_append, List.length_nil, List.length_cons, Nat.reduceAdd, Nat.reduceMul, Nat.reduceSub, Nat.reduceLeDiff, true_and, and_true, ↓reduceIte, not_false_eq_true, not_true_eq_false, nI_add, pk_mul, jn_ltT, jn_ltF, jn_leT, jn_leF, jn_eqT, jn_eqF, jn_lt0, jn_ge0, jn_eq0T, jn_eq0F, jn_in, jn_cl, eq_self]
    exact k h2 z2 l2
  · have z' : (f (i + 1) = 0) = False := eq_false z
    simp (disch := omega) only [s200_819, s200_820, s200_821, s200_822, s200_823, s200_824, s200_825, s200_828, s200_829, s200_832, s200_833, Option.some.injEq, exists_eq_left', exists_eq_left, List.cons_append, List.nil_append, List.length_nil, List.length_cons, Nat.reduceAdd, Nat.reduceMul, Nat.reduceSub, Nat.reduceLeDiff, true_and, and_true, ↓reduceIte, not_false_eq_true, not_true_eq_false, nI_add, pk_mul, jn_ltT, jn_ltF, jn_leT, jn_leF, jn_eqT, jn_eqF, jn_lt0, jn_ge0, jn_eq0T, jn_eq0F, jn_in, jn_cl, sc, c1, z']
    refine (jp_rank (d := d) hZ true).imp (fun s1 h1 e => ?_)
    obtain ⟨a, e1, ⟨e2, e3⟩, gm⟩ := e
    subst e1
    have sc1 := (jsc_eq e2).trans sc
    simp (disch := omega) only [s200_836, s200_837, s200_838, s200_839, s200_840, s200_841, s200_842, s200_845, s200_846, s200_849, s200_850, Option.some.injEq, exists_eq_left', exists_eq_left, List.cons_append, List.nil_append, List.length_nil, List.length_cons, Nat.reduceAdd, Nat.reduceMul, Nat.reduceSub, Nat.reduceLeDiff, true_and, and_true, ↓reduceIte, not_false_eq_true, not_true_eq_false, nI_add, pk_mul, jn_ltT, jn_ltF, jn_leT, jn_leF, jn_eqT, jn_eqF, jn_lt0, jn_ge0, jn_eq0T, jn_eq0F, jn_in, jn_cl, sc1, e3, z']
    refine gm.imp (fun s2 h2 e => ?_)
    obtain ⟨e4, z2, l2⟩ := e
    subst e4
    simp (disch := omega) only [s200_853, Option.some.injEq, exists_eq_left', exists_eq_left, List.cons_append, List.nil_append, List.length_nil, List.length_cons, Nat.reduceAdd, Nat.reduceMul, Nat.reduceSub, Nat.reduceLeDiff, true_and, and_true, ↓reduceIte, not_false_eq_true, not_true_eq_false, nI_add, pk_mul, jn_ltT, jn_ltF, jn_leT, jn_leF, jn_eqT, jn_eqF, jn_lt0, jn_ge0, jn_eq0T, jn_eq0F, jn_in, jn_cl, eq_self]
    exact k h2 z2 l2
theorem jlc_fool (hZ : jZ h) (sc : jx_sc h 0 = some (n, f)) (hn : n < 2147483648) (hi : i + 6 ≤ n) (k : ∀ h', jZ h' → jLg h h' → jx_Go jxP (d + 17) 200 1150 [.ref 0, .ref 1, .ref 149, .int (nI i)] [] h' Q) : jx_Go jxP (d + 17) 200 858 [.ref 0, .ref 1, .ref 149, .int (nI i)] [] h Q := by
  have c1 := hZ.c1
  simp (disch := omega) only [s200_858, s200_859, s200_860, s200_861, s200_862, s200_863, s200_864, Option.some.injEq, exists_eq_left', exists_eq_left, List.cons_append, List.nil_append, List.length_nil, List.length_cons, Nat.reduceAdd, Nat.reduceMul, Nat.reduceSub, Nat.reduceLeDiff, true_and, and_true, ↓reduceIte, not_false_eq_true, not_true_eq_false, nI_add, pk_mul, jn_ltT, jn_ltF, jn_leT, jn_leF, jn_eqT, jn_eqF, jn_lt0, jn_ge0, jn_eq0T, jn_eq0F, jn_in, jn_cl, sc, c1]
  refine (jp_fool (d := d) hZ _).imp (fun s1 h1 e => ?_)
  obtain ⟨a, e1, ⟨e2, e3⟩, gm⟩ := e
  subst e1
  have sc1 := (jsc_eq e2).trans sc
  simp (disch := omega) only [s200_867, s200_868, s200_869, s200_870, s200_871, s200_872, s200_873, Option.some.injEq, exists_eq_left', exists_eq_left, List.cons_append, List.nil_append, List.length_nil, List.length_cons, Nat.reduceAdd, Nat.reduceMul, Nat.reduceSub, Nat.reduceLeDiff, true_and, and_true, ↓reduceIte, not_false_eq_true, not_true_eq_false, nI_add, pk_mul, jn_ltT, jn_ltF, jn_leT, jn_leF, jn_eqT, jn_eqF, jn_lt0, jn_ge0, jn_eq0T, jn_eq0F, jn_in, jn_cl, sc1, e3]
  refine gm.imp (fun s2 h2 e => ?_)
  obtain ⟨e4, z2, l2⟩ := e
  subst e4
  simp (disch := omega) only [s200_876, Option.some.injEq, exists_eq_left', exists_eq_left, List.cons_append, List.nil_append, List.length_nil, List.length_cons, Nat.reduceAdd, Nat.reduceMul, Nat.reduceSub, Nat.reduceLeDiff, true_and, and_true, ↓reduceIte, not_false_eq_true, not_true_eq_false, nI_add, pk_mul, jn_ltT, jn_ltF, jn_leT, jn_leF, jn_eqT, jn_eqF, jn_lt0, jn_ge0, jn_eq0T, jn_eq0F, jn_in, jn_cl, eq_self]
  exact k h2 z2 l2
theorem jlc_cover (hZ : jZ h) (sc : jx_sc h 0 = some (n, f)) (hn : n < 2147483648) (hi : i + 6 ≤ n) (k : ∀ h', jZ h' → jLg h h' → jx_Go jxP (d + 17) 200 1150 [.ref 0, .ref 1, .ref 149, .int (nI i)] [] h' Q) : jx_Go jxP (d + 17) 200 881 [.ref 0, .ref 1, .ref 149, .int (nI i)] [] h Q := by
  have c1 := hZ.c1
  simp (disch := omega) only [s200_881, s200_882, s200_883, s200_884, s200_885, s200_886, s200_887, Option.some.injEq, exists_eq_left', exists_eq_left, List.cons_append, List.nil_append, List.length_nil, List.length_cons, Nat.reduceAdd, Nat.reduceMul, Nat.reduceSub, Nat.reduceLeDiff, true_and, and_true, ↓reduceIte, not_false_eq_true, not_true_eq_false, nI_add, pk_mul, jn_ltT, jn_ltF, jn_leT, jn_leF, jn_eqT, jn_eqF, jn_lt0, jn_ge0, jn_eq0T, jn_eq0F, jn_in, jn_cl, sc, c1]
  refine (jp_cover (d := d) hZ _).imp (fun s1 h1 e => ?_)
  obtain ⟨a, e1, ⟨e2, e3⟩, gm⟩ := e
  subst e1
  have sc1 := (jsc_eq e2).trans sc
  simp (disch := omega) only [s200_890, s200_891, s200_892, s200_893, s200_894, s200_895, s200_896, Option.some.injEq, exists_eq_left', exists_eq_left, List.cons_append, List.nil_append, List.length_nil, List.length_cons, Nat.reduceAdd, Nat.reduceMul, Nat.reduceSub, Nat.reduceLeDiff, true_and, and_true, ↓reduceIte, not_false_eq_true, not_true_eq_false, nI_add, pk_mul, jn_ltT, jn_ltF, jn_leT, jn_leF, jn_eqT, jn_eqF, jn_lt0, jn_ge0, jn_eq0T, jn_eq0F, jn_in, jn_cl, sc1, e3]
  refine gm.imp (fun s2 h2 e => ?_)
  obtain ⟨e4, z2, l2⟩ := e
  subst e4
  simp (disch := omega) only [s200_899, Option.some.injEq, exists_eq_left', exists_eq_left, List.cons_append, List.nil_append, List.length_nil, List.length_cons, Nat.reduceAdd, Nat.reduceMul, Nat.reduceSub, Nat.reduceLeDiff, true_and, and_true, ↓reduceIte, not_false_eq_true, not_true_eq_false, nI_add, pk_mul, jn_ltT, jn_ltF, jn_leT, jn_leF, jn_eqT, jn_eqF, jn_lt0, jn_ge0, jn_eq0T, jn_eq0F, jn_in, jn_cl, eq_self]
  exact k h2 z2 l2
theorem jlc_part (hp : jPart) (hZ : jZ h) (sc : jx_sc h 0 = some (n, f)) (hn : n < 2147483648) (hi : i + 6 ≤ n) (k : ∀ h', jZ h' → jLg h h' → jx_Go jxP (d + 17) 200 1150 [.ref 0, .ref 1, .ref 149, .int (nI i)] [] h' Q) : jx_Go jxP (d + 17) 200 904 [.ref 0, .ref 1, .ref 149, .int (nI i)] [] h Q := by
  have c1 := hZ.c1
  simp (disch := omega) only [s200_904, s200_905, Option.some.injEq, exists_eq_left', exists_eq_left, List.cons_append, List.nil_append, List.length_nil, List.length_cons, Nat.reduceAdd, Nat.reduceMul, Nat.reduceSub, Nat.reduceLeDiff, true_and, and_true, ↓reduceIte, not_false_eq_true, not_true_eq_false, nI_add, pk_mul, jn_ltT, jn_ltF, jn_leT, jn_leF, jn_eqT, jn_eqF, jn_lt0, jn_ge0, jn_eq0T, jn_eq0F, jn_in, jn_cl, sc, c1]
  refine (jp_part (d := d) hp hZ).imp (fun s1 h1 e => ?_)
  obtain ⟨a, e1, ⟨e2, e3⟩, gm⟩ := e
  subst e1
  have sc1 := (jsc_eq e2).trans sc
  simp (disch := omega) only [s200_908, s200_909, Option.some.injEq, exists_eq_left', exists_eq_left, List.cons_append, List.nil_append, List.length_nil, List.length_cons, Nat.reduceAdd, Nat.reduceMul, Nat.reduceSub, Nat.reduceLeDiff, true_and, and_true, ↓reduceIte, not_false_eq_true, not_true_eq_false, nI_add, pk_mul, jn_ltT, jn_ltF, jn_leT, jn_leF, jn_eqT, jn_eqF, jn_lt0, jn_ge0, jn_eq0T, jn_eq0F, jn_in, jn_cl, sc1, e3]
  refine gm.imp (fun s2 h2 e => ?_)
  obtain ⟨e4, z2, l2⟩ := e
  subst e4
  simp (disch := omega) only [s200_912, Option.some.injEq, exists_eq_left', exists_eq_left, List.cons_append, List.nil_append, List.length_nil, List.length_cons, Nat.reduceAdd, Nat.reduceMul, Nat.reduceSub, Nat.reduceLeDiff, true_and, and_true, ↓reduceIte, not_false_eq_true, not_true_eq_false, nI_add, pk_mul, jn_ltT, jn_ltF, jn_leT, jn_leF, jn_eqT, jn_eqF, jn_lt0, jn_ge0, jn_eq0T, jn_eq0F, jn_in, jn_cl, eq_self]
  exact k h2 z2 l2
theorem jlc_swing (hZ : jZ h) (sc : jx_sc h 0 = some (n, f)) (hn : n < 2147483648) (hi : i + 6 ≤ n) (k : ∀ h', jZ h' → jLg h h' → jx_Go jxP (d + 17) 200 1150 [.ref 0, .ref 1, .ref 149, .int (nI i)] [] h' Q) : jx_Go jxP (d + 17) 200 917 [.ref 0, .ref 1, .ref 149, .int (nI i)] [] h Q := by
  have c1 := hZ.c1
  simp (disch := omega) only [s200_917, s200_918, Option.some.injEq, exists_eq_left', exists_eq_left, List.cons_append, List.nil_append, List.length_nil, List.length_cons, Nat.reduceAdd, Nat.reduceMul, Nat.reduceSub, Nat.reduceLeDiff, true_and, and_true, ↓reduceIte, not_false_eq_true, not_true_eq_false, nI_add, pk_mul, jn_ltT, jn_ltF, jn_leT, jn_leF, jn_eqT, jn_eqF, jn_lt0, jn_ge0, jn_eq0T, jn_eq0F, jn_in, jn_cl, sc, c1]
  refine (jp_swing (d := d) hZ).imp (fun s1 h1 e => ?_)
  obtain ⟨a, e1, ⟨e2, e3⟩, gm⟩ := e
  subst e1
  have sc1 := (jsc_eq e2).trans sc
  simp (disch := omega) only [s200_921, s200_922, Option.some.injEq, exists_eq_left', exists_eq_left, List.cons_append, List.nil_append, List.length_nil, List.length_cons, Nat.reduceAdd, Nat.reduceMul, Nat.reduceSub, Nat.reduceLeDiff, true_and, and_true, ↓reduceIte, not_false_eq_true, not_true_eq_false, nI_add, pk_mul, jn_ltT, jn_ltF, jn_leT, jn_leF, jn_eqT, jn_eqF, jn_lt0, jn_ge0, jn_eq0T, jn_eq0F, jn_in, jn_cl, sc1, e3]
  refine gm.imp (fun s2 h2 e => ?_)
  obtain ⟨e4, z2, l2⟩ := e
  subst e4
  simp (disch := omega) only [s200_925, Option.some.injEq, exists_eq_left', exists_eq_left, List.cons_append, List.nil_append, List.length_nil, List.length_cons, Nat.reduceAdd, Nat.reduceMul, Nat.reduceSub, Nat.reduceLeDiff, true_and, and_true, ↓reduceIte, not_false_eq_true, not_true_eq_false, nI_add, pk_mul, jn_ltT, jn_ltF, jn_leT, jn_leF, jn_eqT, jn_eqF, jn_lt0, jn_ge0, jn_eq0T, jn_eq0F, jn_in, jn_cl, eq_self]
  exact k h2 z2 l2
theorem jlc_wrong (hZ : jZ h) (sc : jx_sc h 0 = some (n, f)) (hn : n < 2147483648) (hi : i + 6 ≤ n) (k : ∀ h', jZ h' → jLg h h' → jx_Go jxP (d + 17) 200 1150 [.ref 0, .ref 1, .ref 149, .int (nI i)] [] h' Q) : jx_Go jxP (d + 17) 200 930 [.ref 0, .ref 1, .ref 149, .int (nI i)] [] h Q := by
  have c1 := hZ.c1
  simp (disch := omega) only [s200_930, s200_931, s200_932, s200_933, s200_934, s200_935, s200_936, Option.some.injEq, exists_eq_left', exists_eq_left, List.cons_append, List.nil_append, List.length_nil, List.length_cons, Nat.reduceAdd, Nat.reduceMul, Nat.reduceSub, Nat.reduceLeDiff, true_and, and_true, ↓reduceIte, not_false_eq_true, not_true_eq_false, nI_add, pk_mul, jn_ltT, jn_ltF, jn_leT, jn_leF, jn_eqT, jn_eqF, jn_lt0, jn_ge0, jn_eq0T, jn_eq0F, jn_in, jn_cl, sc, c1]
  refine (jp_wrong (d := d) hZ _).imp (fun s1 h1 e => ?_)
  obtain ⟨a, e1, ⟨e2, e3⟩, gm⟩ := e
  subst e1
  have sc1 := (jsc_eq e2).trans sc
  simp (disch := omega) only [s200_939, s200_940, s200_941, s200_942, s200_943, s200_944, s200_945, Option.some.injEq, exists_eq_left', exists_eq_left, List.cons_append, List.nil_append, List.length_nil, List.length_cons, Nat.reduceAdd, Nat.reduceMul, Nat.reduceSub, Nat.reduceLeDiff, true_and, and_true, ↓reduceIte, not_false_eq_true, not_true_eq_false, nI_add, pk_mul, jn_ltT, jn_ltF, jn_leT, jn_leF, jn_eqT, jn_eqF, jn_lt0, jn_ge0, jn_eq0T, jn_eq0F, jn_in, jn_cl, sc1, e3]
  refine gm.imp (fun s2 h2 e => ?_)
  obtain ⟨e4, z2, l2⟩ := e
  subst e4
  simp (disch := omega) only [s200_948, Option.some.injEq, exists_eq_left', exists_eq_left, List.cons_append, List.nil_append, List.length_nil, List.length_cons, Nat.reduceAdd, Nat.reduceMul, Nat.reduceSub, Nat.reduceLeDiff, true_and, and_true, ↓reduceIte, not_false_eq_true, not_true_eq_false, nI_add, pk_mul, jn_ltT, jn_ltF, jn_leT, jn_leF, jn_eqT, jn_eqF, jn_lt0, jn_ge0, jn_eq0T, jn_eq0F, jn_in, jn_cl, eq_self]
  exact k h2 z2 l2
theorem jlc_tell (hZ : jZ h) (sc : jx_sc h 0 = some (n, f)) (hn : n < 2147483648) (hi : i + 6 ≤ n) (k : ∀ h', jZ h' → jLg h h' → jx_Go jxP (d + 17) 200 1150 [.ref 0, .ref 1, .ref 149, .int (nI i)] [] h' Q) : jx_Go jxP (d + 17) 200 953 [.ref 0, .ref 1, .ref 149, .int (nI i)] [] h Q := by
  have c1 := hZ.c1
  simp (disch := omega) only [s200_953, s200_954, s200_955, s200_956, s200_957, s200_958, s200_959, Option.some.injEq, exists_eq_left', exists_eq_left, List.cons_append, List.nil_append, List.length_nil, List.length_cons, Nat.reduceAdd, Nat.reduceMul, Nat.reduceSub, Nat.reduceLeDiff, true_and, and_true, ↓reduceIte, not_false_eq_true, not_true_eq_false, nI_add, pk_mul, jn_ltT, jn_ltF, jn_leT, jn_leF, jn_eqT, jn_eqF, jn_lt0, jn_ge0, jn_eq0T, jn_eq0F, jn_in, jn_cl, sc, c1]
  refine (jp_tell (d := d) hZ _).imp (fun s1 h1 e => ?_)
  obtain ⟨a, e1, ⟨e2, e3⟩, gm⟩ := e
  subst e1
  have sc1 := (jsc_eq e2).trans sc
  simp (disch := omega) only [s200_962, s200_963, s200_964, s200_965, s200_966, s200_967, s200_968, Option.some.injEq, exists_eq_left', exists_eq_left, List.cons_append, List.nil_append, List.length_nil, List.length_cons, Nat.reduceAdd, Nat.reduceMul, Nat.reduceSub, Nat.reduceLeDiff, true_and, and_true, ↓reduceIte, not_false_eq_true, not_true_eq_false, nI_add, pk_mul, jn_ltT, jn_ltF, jn_leT, jn_leF, jn_eqT, jn_eqF, jn_lt0, jn_ge0, jn_eq0T, jn_eq0F, jn_in, jn_cl, sc1, e3]
  refine gm.imp (fun s2 h2 e => ?_)
  obtain ⟨e4, z2, l2⟩ := e
  subst e4
  simp (disch := omega) only [s200_971, Option.some.injEq, exists_eq_left', exists_eq_left, List.cons_append, List.nil_append, List.length_nil, List.length_cons, Nat.reduceAdd, Nat.reduceMul, Nat.reduceSub, Nat.reduceLeDiff, true_and, and_true, ↓reduceIte, not_false_eq_true, not_true_eq_false, nI_add, pk_mul, jn_ltT, jn_ltF, jn_leT, jn_leF, jn_eqT, jn_eqF, jn_lt0, jn_ge0, jn_eq0T, jn_eq0F, jn_in, jn_cl, eq_self]
  exact k h2 z2 l2
theorem jlc_check (hZ : jZ h) (sc : jx_sc h 0 = some (n, f)) (hn : n < 2147483648) (hi : i + 6 ≤ n) (k : ∀ h', jZ h' → jLg h h' → jx_Go jxP (d + 17) 200 1150 [.ref 0, .ref 1, .ref 149, .int (nI i)] [] h' Q) : jx_Go jxP (d + 17) 200 976 [.ref 0, .ref 1, .ref 149, .int (nI i)] [] h Q := by
  have c1 := hZ.c1
  simp (disch := omega) only [s200_976, s200_977, Option.some.injEq, exists_eq_left', exists_eq_left, List.cons_append, List.nil_append, List.length_nil, List.length_cons, Nat.reduceAdd, Nat.reduceMul, Nat.reduceSub, Nat.reduceLeDiff, true_and, and_true, ↓reduceIte, not_false_eq_true, not_true_eq_false, nI_add, pk_mul, jn_ltT, jn_ltF, jn_leT, jn_leF, jn_eqT, jn_eqF, jn_lt0, jn_ge0, jn_eq0T, jn_eq0F, jn_in, jn_cl, sc, c1]
  refine (jp_check (d := d) hZ).imp (fun s1 h1 e => ?_)
  obtain ⟨a, e1, ⟨e2, e3⟩, gm⟩ := e
  subst e1
  have sc1 := (jsc_eq e2).trans sc
  simp (disch := omega) only [s200_980, s200_981, Option.some.injEq, exists_eq_left', exists_eq_left, List.cons_append, List.nil_append, List.length_nil, List.length_cons, Nat.reduceAdd, Nat.reduceMul, Nat.reduceSub, Nat.reduceLeDiff, true_and, and_true, ↓reduceIte, not_false_eq_true, not_true_eq_false, nI_add, pk_mul, jn_ltT, jn_ltF, jn_leT, jn_leF, jn_eqT, jn_eqF, jn_lt0, jn_ge0, jn_eq0T, jn_eq0F, jn_in, jn_cl, sc1, e3]
  refine gm.imp (fun s2 h2 e => ?_)
  obtain ⟨e4, z2, l2⟩ := e
  subst e4
  simp (disch := omega) only [s200_984, Option.some.injEq, exists_eq_left', exists_eq_left, List.cons_append, List.nil_append, List.length_nil, List.length_cons, Nat.reduceAdd, Nat.reduceMul, Nat.reduceSub, Nat.reduceLeDiff, true_and, and_true, ↓reduceIte, not_false_eq_true, not_true_eq_false, nI_add, pk_mul, jn_ltT, jn_ltF, jn_leT, jn_leF, jn_eqT, jn_eqF, jn_lt0, jn_ge0, jn_eq0T, jn_eq0F, jn_in, jn_cl, eq_self]
  exact k h2 z2 l2
theorem jlc_fools (hZ : jZ h) (sc : jx_sc h 0 = some (n, f)) (hn : n < 2147483648) (hi : i + 6 ≤ n) (k : ∀ h', jZ h' → jLg h h' → jx_Go jxP (d + 17) 200 1150 [.ref 0, .ref 1, .ref 149, .int (nI i)] [] h' Q) : jx_Go jxP (d + 17) 200 989 [.ref 0, .ref 1, .ref 149, .int (nI i)] [] h Q := by
  have c1 := hZ.c1
  simp (disch := omega) only [s200_989, s200_990, s200_991, s200_992, s200_993, s200_994, s200_995, Option.some.injEq, exists_eq_left', exists_eq_left, List.cons_append, List.nil_append, List.length_nil, List.length_cons, Nat.reduceAdd, Nat.reduceMul, Nat.reduceSub, Nat.reduceLeDiff, true_and, and_true, ↓reduceIte, not_false_eq_true, not_true_eq_false, nI_add, pk_mul, jn_ltT, jn_ltF, jn_leT, jn_leF, jn_eqT, jn_eqF, jn_lt0, jn_ge0, jn_eq0T, jn_eq0F, jn_in, jn_cl, sc, c1]
  refine (jp_fools (d := d) hZ _).imp (fun s1 h1 e => ?_)
  obtain ⟨a, e1, ⟨e2, e3⟩, gm⟩ := e
  subst e1
  have sc1 := (jsc_eq e2).trans sc
  simp (disch := omega) only [s200_998, s200_999, s200_1000, s200_1001, s200_1002, s200_1003, s200_1004, Option.some.injEq, exists_eq_left', exists_eq_left, List.cons_append, List.nil_append, List.length_nil, List.length_cons, Nat.reduceAdd, Nat.reduceMul, Nat.reduceSub, Nat.reduceLeDiff, true_and, and_true, ↓reduceIte, not_false_eq_true, not_true_eq_false, nI_add, pk_mul, jn_ltT, jn_ltF, jn_leT, jn_leF, jn_eqT, jn_eqF, jn_lt0, jn_ge0, jn_eq0T, jn_eq0F, jn_in, jn_cl, sc1, e3]
  refine gm.imp (fun s2 h2 e => ?_)
  obtain ⟨e4, z2, l2⟩ := e
  subst e4
  simp (disch := omega) only [s200_1007, Option.some.injEq, exists_eq_left', exists_eq_left, List.cons_append, List.nil_append, List.length_nil, List.length_cons, Nat.reduceAdd, Nat.reduceMul, Nat.reduceSub, Nat.reduceLeDiff, true_and, and_true, ↓reduceIte, not_false_eq_true, not_true_eq_false, nI_add, pk_mul, jn_ltT, jn_ltF, jn_leT, jn_leF, jn_eqT, jn_eqF, jn_lt0, jn_ge0, jn_eq0T, jn_eq0F, jn_in, jn_cl, eq_self]
  exact k h2 z2 l2
theorem jlc_keep (hZ : jZ h) (sc : jx_sc h 0 = some (n, f)) (hn : n < 2147483648) (hi : i + 6 ≤ n) (k : ∀ h', jZ h' → jLg h h' → jx_Go jxP (d + 17) 200 1150 [.ref 0, .ref 1, .ref 149, .int (nI i)] [] h' Q) : jx_Go jxP (d + 17) 200 1012 [.ref 0, .ref 1, .ref 149, .int (nI i)] [] h Q := by
  have c1 := hZ.c1
  simp (disch := omega) only [s200_1012, s200_1013, s200_1014, s200_1015, s200_1016, s200_1017, s200_1018, Option.some.injEq, exists_eq_left', exists_eq_left, List.cons_append, List.nil_append, List.length_nil, List.length_cons, Nat.reduceAdd, Nat.reduceMul, Nat.reduceSub, Nat.reduceLeDiff, true_and, and_true, ↓reduceIte, not_false_eq_true, not_true_eq_false, nI_add, pk_mul, jn_ltT, jn_ltF, jn_leT, jn_leF, jn_eqT, jn_eqF, jn_lt0, jn_ge0, jn_eq0T, jn_eq0F, jn_in, jn_cl, sc, c1]
  refine (jp_keep (d := d) hZ _).imp (fun s1 h1 e => ?_)
  obtain ⟨a, e1, ⟨e2, e3⟩, gm⟩ := e
  subst e1
  have sc1 := (jsc_eq e2).trans sc
  simp (disch := omega) only [s200_1021, s200_1022, s200_1023, s200_1024, s200_1025, s200_1026, s200_1027, Option.some.injEq, exists_eq_left', exists_eq_left, List.cons_append, List.nil_append, List.length_nil, List.length_cons, Nat.reduceAdd, Nat.reduceMul, Nat.reduceSub, Nat.reduceLeDiff, true_and, and_true, ↓reduceIte, not_false_eq_true, not_true_eq_false, nI_add, pk_mul, jn_ltT, jn_ltF, jn_leT, jn_leF, jn_eqT, jn_eqF, jn_lt0, jn_ge0, jn_eq0T, jn_eq0F, jn_in, jn_cl, sc1, e3]
  refine gm.imp (fun s2 h2 e => ?_)
  obtain ⟨e4, z2, l2⟩ := e
  subst e4
  simp (disch := omega) only [s200_1030, Option.some.injEq, exists_eq_left', exists_eq_left, List.cons_append, List.nil_append, List.length_nil, List.length_cons, Nat.reduceAdd, Nat.reduceMul, Nat.reduceSub, Nat.reduceLeDiff, true_and, and_true, ↓reduceIte, not_false_eq_true, not_true_eq_false, nI_add, pk_mul, jn_ltT, jn_ltF, jn_leT, jn_leF, jn_eqT, jn_eqF, jn_lt0, jn_ge0, jn_eq0T, jn_eq0F, jn_in, jn_cl, eq_self]
  exact k h2 z2 l2
theorem jlc_bring (hZ : jZ h) (sc : jx_sc h 0 = some (n, f)) (hn : n < 2147483648) (hi : i + 6 ≤ n) (k : ∀ h', jZ h' → jLg h h' → jx_Go jxP (d + 17) 200 1150 [.ref 0, .ref 1, .ref 149, .int (nI i)] [] h' Q) : jx_Go jxP (d + 17) 200 1035 [.ref 0, .ref 1, .ref 149, .int (nI i)] [] h Q := by
  have c1 := hZ.c1
  simp (disch := omega) only [s200_1035, s200_1036, s200_1037, s200_1038, s200_1039, s200_1040, s200_1041, Option.some.injEq, exists_eq_left', exists_eq_left, List.cons_append, List.nil_append, List.length_nil, List.length_cons, Nat.reduceAdd, Nat.reduceMul, Nat.reduceSub, Nat.reduceLeDiff, true_and, and_true, ↓reduceIte, not_false_eq_true, not_true_eq_false, nI_add, pk_mul, jn_ltT, jn_ltF, jn_leT, jn_leF, jn_eqT, jn_eqF, jn_lt0, jn_ge0, jn_eq0T, jn_eq0F, jn_in, jn_cl, sc, c1]
  refine (jp_bring (d := d) hZ _).imp (fun s1 h1 e => ?_)
  obtain ⟨a, e1, ⟨e2, e3⟩, gm⟩ := e
  subst e1
  have sc1 := (jsc_eq e2).trans sc
  simp (disch := omega) only [s200_1044, s200_1045, s200_1046, s200_1047, s200_1048, s200_1049, s200_1050, Option.some.injEq, exists_eq_left', exists_eq_left, List.cons_append, List.nil_append, List.length_nil, List.length_cons, Nat.reduceAdd, Nat.reduceMul, Nat.reduceSub, Nat.reduceLeDiff, true_and, and_true, ↓reduceIte, not_false_eq_true, not_true_eq_false, nI_add, pk_mul, jn_ltT, jn_ltF, jn_leT, jn_leF, jn_eqT, jn_eqF, jn_lt0, jn_ge0, jn_eq0T, jn_eq0F, jn_in, jn_cl, sc1, e3]
  refine gm.imp (fun s2 h2 e => ?_)
  obtain ⟨e4, z2, l2⟩ := e
  subst e4
  simp (disch := omega) only [s200_1053, Option.some.injEq, exists_eq_left', exists_eq_left, List.cons_append, List.nil_append, List.length_nil, List.length_cons, Nat.reduceAdd, Nat.reduceMul, Nat.reduceSub, Nat.reduceLeDiff, true_and, and_true, ↓reduceIte, not_false_eq_true, not_true_eq_false, nI_add, pk_mul, jn_ltT, jn_ltF, jn_leT, jn_leF, jn_eqT, jn_eqF, jn_lt0, jn_ge0, jn_eq0T, jn_eq0F, jn_in, jn_cl, eq_self]
  exact k h2 z2 l2
theorem jlc_as (hZ : jZ h) (sc : jx_sc h 0 = some (n, f)) (hn : n < 2147483648) (hi : i + 6 ≤ n) (k : ∀ h', jZ h' → jLg h h' → jx_Go jxP (d + 17) 200 1150 [.ref 0, .ref 1, .ref 149, .int (nI i)] [] h' Q) : jx_Go jxP (d + 17) 200 1058 [.ref 0, .ref 1, .ref 149, .int (nI i)] [] h Q := by
  have c1 := hZ.c1
  simp (disch := omega) only [s200_1058, s200_1059, s200_1060, s200_1061, s200_1062, s200_1063, s200_1064, s200_1065, s200_1066, s200_1067, s200_1068, s200_1069, Option.some.injEq, exists_eq_left', exists_eq_left, List.cons_append, List.nil_append, List.length_nil, List.length_cons, Nat.reduceAdd, Nat.reduceMul, Nat.reduceSub, Nat.reduceLeDiff, true_and, and_true, ↓reduceIte, not_false_eq_true, not_true_eq_false, nI_add, pk_mul, jn_ltT, jn_ltF, jn_leT, jn_leF, jn_eqT, jn_eqF, jn_lt0, jn_ge0, jn_eq0T, jn_eq0F, jn_in, jn_cl, sc, c1]
  refine (jp_as (d := d) hZ _ _).imp (fun s1 h1 e => ?_)
  obtain ⟨a, e1, ⟨e2, e3⟩, gm⟩ := e
  subst e1
  have sc1 := (jsc_eq e2).trans sc
  simp (disch := omega) only [s200_1072, s200_1073, s200_1074, s200_1075, s200_1076, s200_1077, s200_1078, s200_1079, s200_1080, s200_1081, s200_1082, s200_1083, Option.some.injEq, exists_eq_left', exists_eq_left, List.cons_append, List.nil_append, List.length_nil, List.length_cons, Nat.reduceAdd, Nat.reduceMul, Nat.reduceSub, Nat.reduceLeDiff, true_and, and_true, ↓reduceIte, not_false_eq_true, not_true_eq_false, nI_add, pk_mul, jn_ltT, jn_ltF, jn_leT, jn_leF, jn_eqT, jn_eqF, jn_lt0, jn_ge0, jn_eq0T, jn_eq0F, jn_in, jn_cl, sc1, e3]
  refine gm.imp (fun s2 h2 e => ?_)
  obtain ⟨e4, z2, l2⟩ := e
  subst e4
  simp (disch := omega) only [s200_1086, Option.some.injEq, exists_eq_left', exists_eq_left, List.cons_append, List.nil_append, List.length_nil, List.length_cons, Nat.reduceAdd, Nat.reduceMul, Nat.reduceSub, Nat.reduceLeDiff, true_and, and_true, ↓reduceIte, not_false_eq_true, not_true_eq_false, nI_add, pk_mul, jn_ltT, jn_ltF, jn_leT, jn_leF, jn_eqT, jn_eqF, jn_lt0, jn_ge0, jn_eq0T, jn_eq0F, jn_in, jn_cl, eq_self]
  exact k h2 z2 l2
theorem jlc_same (hZ : jZ h) (sc : jx_sc h 0 = some (n, f)) (hn : n < 2147483648) (hi : i + 6 ≤ n) (k : ∀ h', jZ h' → jLg h h' → jx_Go jxP (d + 17) 200 1150 [.ref 0, .ref 1, .ref 149, .int (nI i)] [] h' Q) : jx_Go jxP (d + 17) 200 1091 [.ref 0, .ref 1, .ref 149, .int (nI i)] [] h Q := by
  have c1 := hZ.c1
  simp (disch := omega) only [s200_1091, s200_1092, s200_1093, s200_1094, s200_1095, s200_1096, s200_1097, Option.some.injEq, exists_eq_left', exists_eq_left, List.cons_append, List.nil_append, List.length_nil, List.length_cons, Nat.reduceAdd, Nat.reduceMul, Nat.reduceSub, Nat.reduceLeDiff, true_and, and_true, ↓reduceIte, not_false_eq_true, not_true_eq_false, nI_add, pk_mul, jn_ltT, jn_ltF, jn_leT, jn_leF, jn_eqT, jn_eqF, jn_lt0, jn_ge0, jn_eq0T, jn_eq0F, jn_in, jn_cl, sc, c1]
  refine (jp_same (d := d) hZ _).imp (fun s1 h1 e => ?_)
  obtain ⟨a, e1, ⟨e2, e3⟩, gm⟩ := e
  subst e1
  have sc1 := (jsc_eq e2).trans sc
  simp (disch := omega) only [s200_1100, s200_1101, s200_1102, s200_1103, s200_1104, s200_1105, s200_1106, Option.some.injEq, exists_eq_left', exists_eq_left, List.cons_append, List.nil_append, List.length_nil, List.length_cons, Nat.reduceAdd, Nat.reduceMul, Nat.reduceSub, Nat.reduceLeDiff, true_and, and_true, ↓reduceIte, not_false_eq_true, not_true_eq_false, nI_add, pk_mul, jn_ltT, jn_ltF, jn_leT, jn_leF, jn_eqT, jn_eqF, jn_lt0, jn_ge0, jn_eq0T, jn_eq0F, jn_in, jn_cl, sc1, e3]
  refine gm.imp (fun s2 h2 e => ?_)
  obtain ⟨e4, z2, l2⟩ := e
  subst e4
  simp (disch := omega) only [s200_1109, Option.some.injEq, exists_eq_left', exists_eq_left, List.cons_append, List.nil_append, List.length_nil, List.length_cons, Nat.reduceAdd, Nat.reduceMul, Nat.reduceSub, Nat.reduceLeDiff, true_and, and_true, ↓reduceIte, not_false_eq_true, not_true_eq_false, nI_add, pk_mul, jn_ltT, jn_ltF, jn_leT, jn_leF, jn_eqT, jn_eqF, jn_lt0, jn_ge0, jn_eq0T, jn_eq0F, jn_in, jn_cl, eq_self]
  exact k h2 z2 l2
theorem jlc_undo (hZ : jZ h) (sc : jx_sc h 0 = some (n, f)) (hn : n < 2147483648) (hi : i + 6 ≤ n) (k : ∀ h', jZ h' → jLg h h' → jx_Go jxP (d + 17) 200 1150 [.ref 0, .ref 1, .ref 149, .int (nI i)] [] h' Q) : jx_Go jxP (d + 17) 200 1114 [.ref 0, .ref 1, .ref 149, .int (nI i)] [] h Q := by
  have c1 := hZ.c1
  simp (disch := omega) only [s200_1114, s200_1115, Option.some.injEq, exists_eq_left', exists_eq_left, List.cons_append, List.nil_append, List.length_nil, List.length_cons, Nat.reduceAdd, Nat.reduceMul, Nat.reduceSub, Nat.reduceLeDiff, true_and, and_true, ↓reduceIte, not_false_eq_true, not_true_eq_false, nI_add, pk_mul, jn_ltT, jn_ltF, jn_leT, jn_leF, jn_eqT, jn_eqF, jn_lt0, jn_ge0, jn_eq0T, jn_eq0F, jn_in, jn_cl, sc, c1]
  refine (jp_undo (d := d) hZ).imp (fun s1 h1 e => ?_)
  obtain ⟨a, e1, ⟨e2, e3⟩, gm⟩ := e
  subst e1
  have sc1 := (jsc_eq e2).trans sc
  simp (disch := omega) only [s200_1118, s200_1119, Option.some.injEq, exists_eq_left', exists_eq_left, List.cons_append, List.nil_append, List.length_nil, List.length_cons, Nat.reduceAdd, Nat.reduceMul, Nat.reduceSub, Nat.reduceLeDiff, true_and, and_true, ↓reduceIte, not_false_eq_true, not_true_eq_false, nI_add, pk_mul, jn_ltT, jn_ltF, jn_leT, jn_leF, jn_eqT, jn_eqF, jn_lt0, jn_ge0, jn_eq0T, jn_eq0F, jn_in, jn_cl, sc1, e3]
  refine gm.imp (fun s2 h2 e => ?_)
  obtain ⟨e4, z2, l2⟩ := e
  subst e4
  simp (disch := omega) only [s200_1122, Option.some.injEq, exists_eq_left', exists_eq_left, List.cons_append, List.nil_append, List.length_nil, List.length_cons, Nat.reduceAdd, Nat.reduceMul, Nat.reduceSub, Nat.reduceLeDiff, true_and, and_true, ↓reduceIte, not_false_eq_true, not_true_eq_false, nI_add, pk_mul, jn_ltT, jn_ltF, jn_leT, jn_leF, jn_eqT, jn_eqF, jn_lt0, jn_ge0, jn_eq0T, jn_eq0F, jn_in, jn_cl, eq_self]
  exact k h2 z2 l2
theorem jlc_told (hZ : jZ h) (sc : jx_sc h 0 = some (n, f)) (hn : n < 2147483648) (hi : i + 6 ≤ n) (k : ∀ h', jZ h' → jLg h h' → jx_Go jxP (d + 17) 200 1150 [.ref 0, .ref 1, .ref 149, .int (nI i)] [] h' Q) : jx_Go jxP (d + 17) 200 1127 [.ref 0, .ref 1, .ref 149, .int (nI i)] [] h Q := by
  have c1 := hZ.c1
  simp (disch := omega) only [s200_1127, s200_1128, s200_1129, s200_1130, s200_1131, s200_1132, s200_1133, Option.some.injEq, exists_eq_left', exists_eq_left, List.cons_append, List.nil_append, List.length_nil, List.length_cons, Nat.reduceAdd, Nat.reduceMul, Nat.reduceSub, Nat.reduceLeDiff, true_and, and_true, ↓reduceIte, not_false_eq_true, not_true_eq_false, nI_add, pk_mul, jn_ltT, jn_ltF, jn_leT, jn_leF, jn_eqT, jn_eqF, jn_lt0, jn_ge0, jn_eq0T, jn_eq0F, jn_in, jn_cl, sc, c1]
  refine (jp_told (d := d) hZ _).imp (fun s1 h1 e => ?_)
  obtain ⟨a, e1, ⟨e2, e3⟩, gm⟩ := e
  subst e1
  have sc1 := (jsc_eq e2).trans sc
  simp (disch := omega) only [s200_1136, s200_1137, s200_1138, s200_1139, s200_1140, s200_1141, s200_1142, Option.some.injEq, exists_eq_left', exists_eq_left, List.cons_append, List.nil_append, List.length_nil, List.length_cons, Nat.reduceAdd, Nat.reduceMul, Nat.reduceSub, Nat.reduceLeDiff, true_and, and_true, ↓reduceIte, not_false_eq_true, not_true_eq_false, nI_add, pk_mul, jn_ltT, jn_ltF, jn_leT, jn_leF, jn_eqT, jn_eqF, jn_lt0, jn_ge0, jn_eq0T, jn_eq0F, jn_in, jn_cl, sc1, e3]
  refine gm.imp (fun s2 h2 e => ?_)
  obtain ⟨e4, z2, l2⟩ := e
  subst e4
  simp (disch := omega) only [s200_1145, Option.some.injEq, exists_eq_left', exists_eq_left, List.cons_append, List.nil_append, List.length_nil, List.length_cons, Nat.reduceAdd, Nat.reduceMul, Nat.reduceSub, Nat.reduceLeDiff, true_and, and_true, ↓reduceIte, not_false_eq_true, not_true_eq_false, nI_add, pk_mul, jn_ltT, jn_ltF, jn_leT, jn_leF, jn_eqT, jn_eqF, jn_lt0, jn_ge0, jn_eq0T, jn_eq0F, jn_in, jn_cl, eq_self]
  exact k h2 z2 l2
end LAW1
