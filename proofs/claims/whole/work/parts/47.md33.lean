/-! ===== the reference: part, to its end ===== -/
section MD33
variable {d : Nat} {F : Nat → Nat → Nat} {A : Nat → Nat → Int32} {G : Nat → Option Nat} {g : Nat → Int64} {h : jxH} {Q : List Value → jxH → Prop}
/-- one set after another, from the greatest down -/
theorem md_part2 {m : Nat} {E : Nat → Nat} (hr : F 149 0 ≤ 4) (hc : F 149 1 ≤ 4) (hm : m < 256) (hE : jEv (A 150) (F 149 0) (F 149 1) 1024 m E) (k : ∀ A2 h2, (∀ a, a ≠ 175 → a ≠ 176 → A2 a = A a) → jR F A2 G g h2 → jD h h2 → Q [.int (nI (jps (A 150) (F 149 0) (F 149 1) (jw4 (F 149 0) (F 149 1))))] h2) : ∀ s, s ≤ jw4 (F 149 0) (F 149 1) → ∀ A1 h1 w4 w5 w6, (∀ k, k < m → A1 176 k = nI (E k)) → (∀ t, s < t → jan t (jw4 (F 149 0) (F 149 1)) = 0 → A1 175 t = nI (jps (A 150) (F 149 0) (F 149 1) (jan (jw4 (F 149 0) (F 149 1)) t))) → (∀ a, a ≠ 175 → a ≠ 176 → A1 a = A a) → jR F A1 G g h1 → jD h h1 → jx_Go jxP (d + 3) 180 149 [.ref 149, .int (nI m), .int (nI (jw4 (F 149 0) (F 149 1))), .int (nI s), w4, w5, w6] [] h1 Q := by
  have hW := jw4_lt (C := F 149 1) hr
  intro s
  -- what is left to do when the set s is done
  have next : ∀ s, s ≤ jw4 (F 149 0) (F 149 1) → (∀ s', s = s' + 1 → ∀ A1 h1 w4 w5 w6, (∀ k, k < m → A1 176 k = nI (E k)) → (∀ t, s' < t → jan t (jw4 (F 149 0) (F 149 1)) = 0 → A1 175 t = nI (jps (A 150) (F 149 0) (F 149 1) (jan (jw4 (F 149 0) (F 149 1)) t))) → (∀ a, a ≠ 175 → a ≠ 176 → A1 a = A a) → jR F A1 G g h1 → jD h h1 → jx_Go jxP (d + 3) 180 149 [.ref 149, .int (nI m), .int (nI (jw4 (F 149 0) (F 149 1))), .int (nI s'), w4, w5, w6] [] h1 Q) → ∀ A1 h1 w4 w5 w6, (∀ k, k < m → A1 176 k = nI (E k)) → (∀ t, s ≤ t → jan t (jw4 (F 149 0) (F 149 1)) = 0 → A1 175 t = nI (jps (A 150) (F 149 0) (F 149 1) (jan (jw4 (F 149 0) (F 149 1)) t))) → (∀ a, a ≠ 175 → a ≠ 176 → A1 a = A a) → jR F A1 G g h1 → jD h h1 → jx_Go jxP (d + 3) 180 296 [.ref 149, .int (nI m), .int (nI (jw4 (F 149 0) (F 149 1))), .int (nI s), w4, w5, w6] [] h1 Q := by
    intro s hs ih A1 h1 w4 w5 w6 eE eT fr hR1 hD1
    cases s with
    | zero =>
      have z := eT 0 (Nat.le_refl _) (by unfold jan; rw [Nat.zero_and]; rfl)
      rw [jan_0] at z
      have m1 : (nI 0 + -1 < 0) = True := by decide
      simp (disch := omega) only [s180_296, s180_299, Option.some.injEq, exists_eq_left', exists_eq_left, List.cons_append, List.nil_append, List.length_nil, List.length_cons, Nat.reduceAdd, Nat.reduceMul, Nat.reduceSub, Nat.reduceLeDiff, true_and, and_true, ↓reduceIte, not_false_eq_true, not_true_eq_false, nI_add, pk_mul, jn_ltT, jn_ltF, jn_leT, jn_leF, jn_eqT, jn_eqF, jn_lt0, jn_ge0, jn_eq0T, jn_eq0F, jn_in, jn_cl]
      rw [s180_149]
      simp (disch := omega) only [s180_150, s180_302, s180_303, s180_306, s180_307, s180_308, Option.some.injEq, exists_eq_left', exists_eq_left, List.cons_append, List.nil_append, List.length_nil, List.length_cons, Nat.reduceAdd, Nat.reduceMul, Nat.reduceSub, Nat.reduceLeDiff, true_and, and_true, ↓reduceIte, not_false_eq_true, not_true_eq_false, nI_add, pk_mul, jn_ltT, jn_ltF, jn_leT, jn_leF, jn_eqT, jn_eqF, jn_lt0, jn_ge0, jn_eq0T, jn_eq0F, jn_in, jn_cl, m1, jf_149_31 hR1, ja_175 hR1, z]
      exact k A1 h1 fr hR1 hD1
    | succ s =>
      simp (disch := omega) only [s180_296, s180_299, Option.some.injEq, exists_eq_left', exists_eq_left, List.cons_append, List.nil_append, List.length_nil, List.length_cons, Nat.reduceAdd, Nat.reduceMul, Nat.reduceSub, Nat.reduceLeDiff, true_and, and_true, ↓reduceIte, not_false_eq_true, not_true_eq_false, nI_add, pk_mul, jn_ltT, jn_ltF, jn_leT, jn_leF, jn_eqT, jn_eqF, jn_lt0, jn_ge0, jn_eq0T, jn_eq0F, jn_in, jn_cl, jn_m1, Nat.add_sub_cancel]
      exact ih s rfl A1 h1 _ _ _ eE (fun t ht => eT t (by omega)) fr hR1 hD1
  induction s with
  | zero =>
    intro hs A1 h1 w4 w5 w6 eE eT fr hR1 hD1
    have nx := next (0) hs (fun s' e => by omega)
    by_cases sub : jan (0) (jw4 (F 149 0) (F 149 1)) = 0
    · have hL := jan_lt (W := jw4 (F 149 0) (F 149 1)) (H := 0) (n := 16) hW
      rw [s180_149]
      simp (disch := omega) only [s180_150, s180_153, s180_154, s180_155, s180_156, s180_157, s180_158, s180_164, s180_165, s180_166, s180_167, s180_168, s180_169, s180_171, Option.some.injEq, exists_eq_left', exists_eq_left, List.cons_append, List.nil_append, List.length_nil, List.length_cons, Nat.reduceAdd, Nat.reduceMul, Nat.reduceSub, Nat.reduceLeDiff, true_and, and_true, ↓reduceIte, not_false_eq_true, not_true_eq_false, nI_add, pk_mul, jn_ltT, jn_ltF, jn_leT, jn_leF, jn_eqT, jn_eqF, jn_lt0, jn_ge0, jn_eq0T, jn_eq0F, jn_in, jn_cl, jn_anot, sub]
      by_cases z : jan (jw4 (F 149 0) (F 149 1)) (0) = 0
      · simp (disch := omega) only [s180_172, s180_175, s180_176, s180_178, s180_181, s180_182, s180_185, s180_187, s180_188, s180_189, Option.some.injEq, exists_eq_left', exists_eq_left, List.cons_append, List.nil_append, List.length_nil, List.length_cons, Nat.reduceAdd, Nat.reduceMul, Nat.reduceSub, Nat.reduceLeDiff, true_and, and_true, ↓reduceIte, not_false_eq_true, not_true_eq_false, nI_add, pk_mul, jn_ltT, jn_ltF, jn_leT, jn_leF, jn_eqT, jn_eqF, jn_lt0, jn_ge0, jn_eq0T, jn_eq0F, jn_in, jn_cl, jf_149_31 hR1, ja_175 hR1, z]
        have hR2 := hR1.wi (a := 175) (f := upd (A1 175) (0) (nI 0)) rfl
        have hD2 := hD1.wi (a := 175) (n := 65536) (f := upd (A1 175) (0) (nI 0)) (by decide)
        have fin := nx _ _ (.int (nI 0)) (.int (nI 0)) w6 (fun k hk => by rw [jua_ne (by decide)]; exact eE k hk) (fun t ht st => by
          rw [jua_same]
          by_cases e : t = 0
          · subst e; rw [jupd_same, z, jps_0]
          · rw [jupd_ne e]; exact eT t (by omega) st) (fun a n1 n2 => by rw [jua_ne n1]; exact fr a n1 n2) hR2 hD2
        rw [s180_191]
        rcases Nat.lt_or_ge 0 m with u | u
        · simp (disch := omega) only [s180_193, s180_194, s180_197, s180_199, Option.some.injEq, exists_eq_left', exists_eq_left, List.cons_append, List.nil_append, List.length_nil, List.length_cons, Nat.reduceAdd, Nat.reduceMul, Nat.reduceSub, Nat.reduceLeDiff, true_and, and_true, ↓reduceIte, not_false_eq_true, not_true_eq_false, nI_add, pk_mul, jn_ltT, jn_ltF, jn_leT, jn_leF, jn_eqT, jn_eqF, jn_lt0, jn_ge0, jn_eq0T, jn_eq0F, jn_in, jn_cl]
          exact fin
        · simp (disch := omega) only [s180_193, s180_194, Option.some.injEq, exists_eq_left', exists_eq_left, List.cons_append, List.nil_append, List.length_nil, List.length_cons, Nat.reduceAdd, Nat.reduceMul, Nat.reduceSub, Nat.reduceLeDiff, true_and, and_true, ↓reduceIte, not_false_eq_true, not_true_eq_false, nI_add, pk_mul, jn_ltT, jn_ltF, jn_leT, jn_leF, jn_eqT, jn_eqF, jn_lt0, jn_ge0, jn_eq0T, jn_eq0F, jn_in, jn_cl]
          exact fin
      · obtain ⟨l1, l2, l3, l4⟩ := jlo_ok (L := jan (jw4 (F 149 0) (F 149 1)) (0)) (by omega) (by omega)
        have eR := jps_rm hr hc hE sub z
        have hR2 := hR1.wi (a := 175) (f := upd (A1 175) (0) (nI 100)) rfl
        have hD2 := hD1.wi (a := 175) (n := 65536) (f := upd (A1 175) (0) (nI 100)) (by decide)
        simp (disch := omega) only [s180_172, s180_175, s180_176, s180_178, s180_181, s180_182, s180_185, s180_187, s180_188, s180_189, Option.some.injEq, exists_eq_left', exists_eq_left, List.cons_append, List.nil_append, List.length_nil, List.length_cons, Nat.reduceAdd, Nat.reduceMul, Nat.reduceSub, Nat.reduceLeDiff, true_and, and_true, ↓reduceIte, not_false_eq_true, not_true_eq_false, nI_add, pk_mul, jn_ltT, jn_ltF, jn_leT, jn_leF, jn_eqT, jn_eqF, jn_lt0, jn_ge0, jn_eq0T, jn_eq0F, jn_in, jn_cl, jf_149_31 hR1, ja_175 hR1]
        have bl := jan_bit (W := jw4 (F 149 0) (F 149 1)) (H := 0) (i := jlo (jan (jw4 (F 149 0) (F 149 1)) (0)))
        rw [l2] at bl
        have bl' := (Bool.and_eq_true _ _).mp bl.symm
        generalize eL : jan (jw4 (F 149 0) (F 149 1)) (0) = L at *
        refine jloop (fun j => ∀ A2 h2 w6, A2 175 (0) = nI (jrm E (0) L (fun t => jps (A 150) (F 149 0) (F 149 1) (jan (jw4 (F 149 0) (F 149 1)) t)) j) → (∀ t, 0 < t → A2 175 t = A1 175 t) → (∀ a, a ≠ 175 → A2 a = A1 a) → jR F A2 G g h2 → jD h h2 → jx_Go jxP (d + 3) 180 191 [.ref 149, .int (nI m), .int (nI (jw4 (F 149 0) (F 149 1))), .int (nI (0)), .int (nI L), .int (nI j), w6] [] h2 Q) m ?_ ?_ 0 (Nat.zero_le _) _ _ _ (by rw [jua_same, jupd_same]; rfl) (fun t ht => by rw [jua_same, jupd_ne (by omega)]) (fun a na => by rw [jua_ne na]) hR2 hD2
        · intro A2 h2 w6 e1 e2 fr2 hR2 hD2
          rw [s180_191]
          simp (disch := omega) only [s180_193, s180_194, Option.some.injEq, exists_eq_left', exists_eq_left, List.cons_append, List.nil_append, List.length_nil, List.length_cons, Nat.reduceAdd, Nat.reduceMul, Nat.reduceSub, Nat.reduceLeDiff, true_and, and_true, ↓reduceIte, not_false_eq_true, not_true_eq_false, nI_add, pk_mul, jn_ltT, jn_ltF, jn_leT, jn_leF, jn_eqT, jn_eqF, jn_lt0, jn_ge0, jn_eq0T, jn_eq0F, jn_in, jn_cl]
          refine nx A2 h2 _ _ _ (fun k hk => by rw [fr2 176 (by decide)]; exact eE k hk) (fun t ht st => ?_) (fun a n1 n2 => by rw [fr2 a n1]; exact fr a n1 n2) hR2 hD2
          by_cases e : t = 0
          · subst e; rw [e1, ← eR, eL]
          · rw [e2 t (by omega)]; exact eT t (by omega) st
        · intro j hj ihj A2 h2 w6 e1 e2 fr2 hR2 hD2
          have ej : A2 176 j = nI (E j) := by rw [fr2 176 (by decide)]; exact eE j hj
          obtain ⟨B, hB, eB, eEB⟩ := hE.2 j hj
          have hEl : E j < 65536 := by rw [eEB]; exact jp4_lt hr
          unfold jeb at eB
          rw [Bool.and_eq_true] at eB
          have esub : jan (E j) (jw4 (F 149 0) (F 149 1)) = 0 := by rw [eEB]; exact jp4_sub hc eB.1
          have rle := (jrm_le (E := E) (s := 0) (L := L) (P := fun t => jps (A 150) (F 149 0) (F 149 1) (jan (jw4 (F 149 0) (F 149 1)) t)) j).1
          rw [jrm_s] at ihj
          have skip : ¬ ((E j &&& (0) = 0 ∧ (E j).testBit (jlo L) = true) ∧ 1 + (fun t => jps (A 150) (F 149 0) (F 149 1) (jan (jw4 (F 149 0) (F 149 1)) t)) ((0) ||| E j) < jrm E (0) L (fun t => jps (A 150) (F 149 0) (F 149 1) (jan (jw4 (F 149 0) (F 149 1)) t)) j) → ∀ w6, jx_Go jxP (d + 3) 180 290 [.ref 149, .int (nI m), .int (nI (jw4 (F 149 0) (F 149 1))), .int (nI (0)), .int (nI L), .int (nI j), w6] [] h2 Q := by
            intro ne w6
            rw [if_neg ne] at ihj
            simp (disch := omega) only [s180_290, s180_293, Option.some.injEq, exists_eq_left', exists_eq_left, List.cons_append, List.nil_append, List.length_nil, List.length_cons, Nat.reduceAdd, Nat.reduceMul, Nat.reduceSub, Nat.reduceLeDiff, true_and, and_true, ↓reduceIte, not_false_eq_true, not_true_eq_false, nI_add, pk_mul, jn_ltT, jn_ltF, jn_leT, jn_leF, jn_eqT, jn_eqF, jn_lt0, jn_ge0, jn_eq0T, jn_eq0F, jn_in, jn_cl]
            exact ihj A2 h2 _ e1 e2 fr2 hR2 hD2
          have hand : E j &&& (0) < 65536 := Nat.lt_of_le_of_lt Nat.and_le_left hEl
          rw [s180_191]
          simp (disch := omega) only [s180_193, s180_194, s180_197, s180_199, s180_202, s180_203, s180_206, s180_208, s180_209, s180_210, Option.some.injEq, exists_eq_left', exists_eq_left, List.cons_append, List.nil_append, List.length_nil, List.length_cons, Nat.reduceAdd, Nat.reduceMul, Nat.reduceSub, Nat.reduceLeDiff, true_and, and_true, ↓reduceIte, not_false_eq_true, not_true_eq_false, nI_add, pk_mul, jn_ltT, jn_ltF, jn_leT, jn_leF, jn_eqT, jn_eqF, jn_lt0, jn_ge0, jn_eq0T, jn_eq0F, jn_in, jn_cl, jf_149_32 hR2, ja_176 hR2, ej, jn_and]
          by_cases c1 : E j &&& (0) = 0
          · simp (disch := omega) only [s180_211, s180_214, s180_215, s180_218, s180_220, s180_221, s180_223, s180_225, s180_226, Option.some.injEq, exists_eq_left', exists_eq_left, List.cons_append, List.nil_append, List.length_nil, List.length_cons, Nat.reduceAdd, Nat.reduceMul, Nat.reduceSub, Nat.reduceLeDiff, true_and, and_true, ↓reduceIte, not_false_eq_true, not_true_eq_false, nI_add, pk_mul, jn_ltT, jn_ltF, jn_leT, jn_leF, jn_eqT, jn_eqF, jn_lt0, jn_ge0, jn_eq0T, jn_eq0F, jn_in, jn_cl, jf_149_32 hR2, ja_176 hR2, ej, c1, l4]
            rw [s180_227]
            by_cases c2 : (E j).testBit (jlo L) = true
            · have nb : (nI (E j) &&& nI (2 ^ jlo L) = 0) = False := by rw [jand_p l1, c2]; exact eq_false (by decide)
              have osub : jan ((0) ||| E j) (jw4 (F 149 0) (F 149 1)) = 0 := jan_sub.mpr (fun i hi => by
                rw [Nat.testBit_or, Bool.or_eq_true] at hi
                rcases hi with hi | hi
                · exact jan_sub.mp sub i hi
                · exact jan_sub.mp esub i hi)
              have ole := jan_le osub
              have ogt : 0 < (0) ||| E j := by
                rcases Nat.lt_or_ge (0) ((0) ||| E j) with y | y
                · exact y
                · exfalso
                  have e : (0) ||| E j = 0 := Nat.le_antisymm y Nat.left_le_or
                  have := congrArg (fun x => x.testBit (jlo L)) e
                  rw [Nat.testBit_or, c2, Bool.or_true] at this
                  rw [← this] at bl'
                  cases bl'.2
              have eo : A2 175 ((0) ||| E j) = nI (jps (A 150) (F 149 0) (F 149 1) (jan (jw4 (F 149 0) (F 149 1)) ((0) ||| E j))) := by rw [e2 _ ogt]; exact eT _ ogt osub
              have ple : jps (A 150) (F 149 0) (F 149 1) (jan (jw4 (F 149 0) (F 149 1)) ((0) ||| E j)) ≤ 100 := (jlst_le 100).1
              simp (disch := omega) only [s180_228, s180_231, s180_232, s180_235, s180_236, s180_238, s180_240, s180_243, s180_244, s180_245, s180_248, s180_249, s180_250, s180_253, s180_255, s180_256, s180_257, s180_258, s180_259, s180_260, s180_263, s180_264, Option.some.injEq, exists_eq_left', exists_eq_left, List.cons_append, List.nil_append, List.length_nil, List.length_cons, Nat.reduceAdd, Nat.reduceMul, Nat.reduceSub, Nat.reduceLeDiff, true_and, and_true, ↓reduceIte, not_false_eq_true, not_true_eq_false, nI_add, pk_mul, jn_ltT, jn_ltF, jn_leT, jn_leF, jn_eqT, jn_eqF, jn_lt0, jn_ge0, jn_eq0T, jn_eq0F, jn_in, jn_cl, jf_149_31 hR2, jf_149_32 hR2, ja_175 hR2, ja_176 hR2, ej, nb, jn_or, eo, e1]
              by_cases c3 : 1 + jps (A 150) (F 149 0) (F 149 1) (jan (jw4 (F 149 0) (F 149 1)) ((0) ||| E j)) < jrm E (0) L (fun t => jps (A 150) (F 149 0) (F 149 1) (jan (jw4 (F 149 0) (F 149 1)) t)) j
              · rw [if_pos ⟨⟨c1, c2⟩, c3⟩] at ihj
                simp (disch := omega) only [s180_265, s180_268, s180_269, s180_272, s180_273, s180_274, s180_275, s180_278, s180_279, s180_280, s180_283, s180_285, s180_286, s180_287, s180_288, s180_289, s180_290, s180_293, Option.some.injEq, exists_eq_left', exists_eq_left, List.cons_append, List.nil_append, List.length_nil, List.length_cons, Nat.reduceAdd, Nat.reduceMul, Nat.reduceSub, Nat.reduceLeDiff, true_and, and_true, ↓reduceIte, not_false_eq_true, not_true_eq_false, nI_add, pk_mul, jn_ltT, jn_ltF, jn_leT, jn_leF, jn_eqT, jn_eqF, jn_lt0, jn_ge0, jn_eq0T, jn_eq0F, jn_in, jn_cl, jf_149_31 hR2, jf_149_32 hR2, ja_175 hR2, ja_176 hR2, ej, jn_or, eo]
                refine ihj _ _ _ ?_ ?_ ?_ (hR2.wi (a := 175) (f := upd (A2 175) (0) (nI (1 + jps (A 150) (F 149 0) (F 149 1) (jan (jw4 (F 149 0) (F 149 1)) ((0) ||| E j))))) rfl) (hD2.wi (by decide))
                · rw [jua_same, jupd_same]
                · intro t ht; rw [jua_same, jupd_ne (by omega)]; exact e2 t ht
                · intro a na; rw [jua_ne na]; exact fr2 a na
              · simp (disch := omega) only [s180_265, Option.some.injEq, exists_eq_left', exists_eq_left, List.cons_append, List.nil_append, List.length_nil, List.length_cons, Nat.reduceAdd, Nat.reduceMul, Nat.reduceSub, Nat.reduceLeDiff, true_and, and_true, ↓reduceIte, not_false_eq_true, not_true_eq_false, nI_add, pk_mul, jn_ltT, jn_ltF, jn_leT, jn_leF, jn_eqT, jn_eqF, jn_lt0, jn_ge0, jn_eq0T, jn_eq0F, jn_in, jn_cl]
                exact skip (fun w => c3 w.2) _
            · have nb : (nI (E j) &&& nI (2 ^ jlo L) = 0) = True := by rw [jand_p l1, Bool.eq_false_iff.mpr c2]; exact eq_true rfl
              simp (disch := omega) only [s180_228, s180_231, s180_232, s180_235, s180_236, s180_238, s180_240, Option.some.injEq, exists_eq_left', exists_eq_left, List.cons_append, List.nil_append, List.length_nil, List.length_cons, Nat.reduceAdd, Nat.reduceMul, Nat.reduceSub, Nat.reduceLeDiff, true_and, and_true, ↓reduceIte, not_false_eq_true, not_true_eq_false, nI_add, pk_mul, jn_ltT, jn_ltF, jn_leT, jn_leF, jn_eqT, jn_eqF, jn_lt0, jn_ge0, jn_eq0T, jn_eq0F, jn_in, jn_cl, nb]
              exact skip (fun w => c2 w.1.2) _
          · simp (disch := omega) only [s180_211, s180_235, s180_236, s180_238, s180_240, Option.some.injEq, exists_eq_left', exists_eq_left, List.cons_append, List.nil_append, List.length_nil, List.length_cons, Nat.reduceAdd, Nat.reduceMul, Nat.reduceSub, Nat.reduceLeDiff, true_and, and_true, ↓reduceIte, not_false_eq_true, not_true_eq_false, nI_add, pk_mul, jn_ltT, jn_ltF, jn_leT, jn_leF, jn_eqT, jn_eqF, jn_lt0, jn_ge0, jn_eq0T, jn_eq0F, jn_in, jn_cl]
            exact skip (fun w => c1 w.1.1) _
    · have sl := jan_lt (W := 0) (H := jw4 (F 149 0) (F 149 1)) (n := 16) (by omega)
      rw [s180_149]
      simp (disch := omega) only [s180_150, s180_153, s180_154, s180_155, s180_156, s180_157, s180_158, s180_161, Option.some.injEq, exists_eq_left', exists_eq_left, List.cons_append, List.nil_append, List.length_nil, List.length_cons, Nat.reduceAdd, Nat.reduceMul, Nat.reduceSub, Nat.reduceLeDiff, true_and, and_true, ↓reduceIte, not_false_eq_true, not_true_eq_false, nI_add, pk_mul, jn_ltT, jn_ltF, jn_leT, jn_leF, jn_eqT, jn_eqF, jn_lt0, jn_ge0, jn_eq0T, jn_eq0F, jn_in, jn_cl, jn_anot]
      refine nx A1 h1 _ _ _ eE (fun t ht st => ?_) fr hR1 hD1
      by_cases e : t = 0
      · subst e; exact absurd st sub
      · exact eT t (by omega) st
  | succ s ih =>
    intro hs A1 h1 w4 w5 w6 eE eT fr hR1 hD1
    have nx := next (s + 1) hs (fun s' e => by cases e; exact ih (by omega))
    by_cases sub : jan (s + 1) (jw4 (F 149 0) (F 149 1)) = 0
    · have hL := jan_lt (W := jw4 (F 149 0) (F 149 1)) (H := s + 1) (n := 16) hW
      rw [s180_149]
      simp (disch := omega) only [s180_150, s180_153, s180_154, s180_155, s180_156, s180_157, s180_158, s180_164, s180_165, s180_166, s180_167, s180_168, s180_169, s180_171, Option.some.injEq, exists_eq_left', exists_eq_left, List.cons_append, List.nil_append, List.length_nil, List.length_cons, Nat.reduceAdd, Nat.reduceMul, Nat.reduceSub, Nat.reduceLeDiff, true_and, and_true, ↓reduceIte, not_false_eq_true, not_true_eq_false, nI_add, pk_mul, jn_ltT, jn_ltF, jn_leT, jn_leF, jn_eqT, jn_eqF, jn_lt0, jn_ge0, jn_eq0T, jn_eq0F, jn_in, jn_cl, jn_anot, sub]
      by_cases z : jan (jw4 (F 149 0) (F 149 1)) (s + 1) = 0
      · simp (disch := omega) only [s180_172, s180_175, s180_176, s180_178, s180_181, s180_182, s180_185, s180_187, s180_188, s180_189, Option.some.injEq, exists_eq_left', exists_eq_left, List.cons_append, List.nil_append, List.length_nil, List.length_cons, Nat.reduceAdd, Nat.reduceMul, Nat.reduceSub, Nat.reduceLeDiff, true_and, and_true, ↓reduceIte, not_false_eq_true, not_true_eq_false, nI_add, pk_mul, jn_ltT, jn_ltF, jn_leT, jn_leF, jn_eqT, jn_eqF, jn_lt0, jn_ge0, jn_eq0T, jn_eq0F, jn_in, jn_cl, jf_149_31 hR1, ja_175 hR1, z]
        have hR2 := hR1.wi (a := 175) (f := upd (A1 175) (s + 1) (nI 0)) rfl
        have hD2 := hD1.wi (a := 175) (n := 65536) (f := upd (A1 175) (s + 1) (nI 0)) (by decide)
        have fin := nx _ _ (.int (nI 0)) (.int (nI 0)) w6 (fun k hk => by rw [jua_ne (by decide)]; exact eE k hk) (fun t ht st => by
          rw [jua_same]
          by_cases e : t = s + 1
          · subst e; rw [jupd_same, z, jps_0]
          · rw [jupd_ne e]; exact eT t (by omega) st) (fun a n1 n2 => by rw [jua_ne n1]; exact fr a n1 n2) hR2 hD2
        rw [s180_191]
        rcases Nat.lt_or_ge 0 m with u | u
        · simp (disch := omega) only [s180_193, s180_194, s180_197, s180_199, Option.some.injEq, exists_eq_left', exists_eq_left, List.cons_append, List.nil_append, List.length_nil, List.length_cons, Nat.reduceAdd, Nat.reduceMul, Nat.reduceSub, Nat.reduceLeDiff, true_and, and_true, ↓reduceIte, not_false_eq_true, not_true_eq_false, nI_add, pk_mul, jn_ltT, jn_ltF, jn_leT, jn_leF, jn_eqT, jn_eqF, jn_lt0, jn_ge0, jn_eq0T, jn_eq0F, jn_in, jn_cl]
          exact fin
        · simp (disch := omega) only [s180_193, s180_194, Option.some.injEq, exists_eq_left', exists_eq_left, List.cons_append, List.nil_append, List.length_nil, List.length_cons, Nat.reduceAdd, Nat.reduceMul, Nat.reduceSub, Nat.reduceLeDiff, true_and, and_true, ↓reduceIte, not_false_eq_true, not_true_eq_false, nI_add, pk_mul, jn_ltT, jn_ltF, jn_leT, jn_leF, jn_eqT, jn_eqF, jn_lt0, jn_ge0, jn_eq0T, jn_eq0F, jn_in, jn_cl]
          exact fin
      · obtain ⟨l1, l2, l3, l4⟩ := jlo_ok (L := jan (jw4 (F 149 0) (F 149 1)) (s + 1)) (by omega) (by omega)
        have eR := jps_rm hr hc hE sub z
        have hR2 := hR1.wi (a := 175) (f := upd (A1 175) (s + 1) (nI 100)) rfl
        have hD2 := hD1.wi (a := 175) (n := 65536) (f := upd (A1 175) (s + 1) (nI 100)) (by decide)
        simp (disch := omega) only [s180_172, s180_175, s180_176, s180_178, s180_181, s180_182, s180_185, s180_187, s180_188, s180_189, Option.some.injEq, exists_eq_left', exists_eq_left, List.cons_append, List.nil_append, List.length_nil, List.length_cons, Nat.reduceAdd, Nat.reduceMul, Nat.reduceSub, Nat.reduceLeDiff, true_and, and_true, ↓reduceIte, not_false_eq_true, not_true_eq_false, nI_add, pk_mul, jn_ltT, jn_ltF, jn_leT, jn_leF, jn_eqT, jn_eqF, jn_lt0, jn_ge0, jn_eq0T, jn_eq0F, jn_in, jn_cl, jf_149_31 hR1, ja_175 hR1]
        have bl := jan_bit (W := jw4 (F 149 0) (F 149 1)) (H := s + 1) (i := jlo (jan (jw4 (F 149 0) (F 149 1)) (s + 1)))
        rw [l2] at bl
        have bl' := (Bool.and_eq_true _ _).mp bl.symm
        generalize eL : jan (jw4 (F 149 0) (F 149 1)) (s + 1) = L at *
        refine jloop (fun j => ∀ A2 h2 w6, A2 175 (s + 1) = nI (jrm E (s + 1) L (fun t => jps (A 150) (F 149 0) (F 149 1) (jan (jw4 (F 149 0) (F 149 1)) t)) j) → (∀ t, s + 1 < t → A2 175 t = A1 175 t) → (∀ a, a ≠ 175 → A2 a = A1 a) → jR F A2 G g h2 → jD h h2 → jx_Go jxP (d + 3) 180 191 [.ref 149, .int (nI m), .int (nI (jw4 (F 149 0) (F 149 1))), .int (nI (s + 1)), .int (nI L), .int (nI j), w6] [] h2 Q) m ?_ ?_ 0 (Nat.zero_le _) _ _ _ (by rw [jua_same, jupd_same]; rfl) (fun t ht => by rw [jua_same, jupd_ne (by omega)]) (fun a na => by rw [jua_ne na]) hR2 hD2
        · intro A2 h2 w6 e1 e2 fr2 hR2 hD2
          rw [s180_191]
          simp (disch := omega) only [s180_193, s180_194, Option.some.injEq, exists_eq_left', exists_eq_left, List.cons_append, List.nil_append, List.length_nil, List.length_cons, Nat.reduceAdd, Nat.reduceMul, Nat.reduceSub, Nat.reduceLeDiff, true_and, and_true, ↓reduceIte, not_false_eq_true, not_true_eq_false, nI_add, pk_mul, jn_ltT, jn_ltF, jn_leT, jn_leF, jn_eqT, jn_eqF, jn_lt0, jn_ge0, jn_eq0T, jn_eq0F, jn_in, jn_cl]
          refine nx A2 h2 _ _ _ (fun k hk => by rw [fr2 176 (by decide)]; exact eE k hk) (fun t ht st => ?_) (fun a n1 n2 => by rw [fr2 a n1]; exact fr a n1 n2) hR2 hD2
          by_cases e : t = s + 1
          · subst e; rw [e1, ← eR, eL]
          · rw [e2 t (by omega)]; exact eT t (by omega) st
        · intro j hj ihj A2 h2 w6 e1 e2 fr2 hR2 hD2
          have ej : A2 176 j = nI (E j) := by rw [fr2 176 (by decide)]; exact eE j hj
          obtain ⟨B, hB, eB, eEB⟩ := hE.2 j hj
          have hEl : E j < 65536 := by rw [eEB]; exact jp4_lt hr
          unfold jeb at eB
          rw [Bool.and_eq_true] at eB
          have esub : jan (E j) (jw4 (F 149 0) (F 149 1)) = 0 := by rw [eEB]; exact jp4_sub hc eB.1
          have rle := (jrm_le (E := E) (s := s + 1) (L := L) (P := fun t => jps (A 150) (F 149 0) (F 149 1) (jan (jw4 (F 149 0) (F 149 1)) t)) j).1
          rw [jrm_s] at ihj
          have skip : ¬ ((E j &&& (s + 1) = 0 ∧ (E j).testBit (jlo L) = true) ∧ 1 + (fun t => jps (A 150) (F 149 0) (F 149 1) (jan (jw4 (F 149 0) (F 149 1)) t)) ((s + 1) ||| E j) < jrm E (s + 1) L (fun t => jps (A 150) (F 149 0) (F 149 1) (jan (jw4 (F 149 0) (F 149 1)) t)) j) → ∀ w6, jx_Go jxP (d + 3) 180 290 [.ref 149, .int (nI m), .int (nI (jw4 (F 149 0) (F 149 1))), .int (nI (s + 1)), .int (nI L), .int (nI j), w6] [] h2 Q := by
            intro ne w6
            rw [if_neg ne] at ihj
            simp (disch := omega) only [s180_290, s180_293, Option.some.injEq, exists_eq_left', exists_eq_left, List.cons_append, List.nil_append, List.length_nil, List.length_cons, Nat.reduceAdd, Nat.reduceMul, Nat.reduceSub, Nat.reduceLeDiff, true_and, and_true, ↓reduceIte, not_false_eq_true, not_true_eq_false, nI_add, pk_mul, jn_ltT, jn_ltF, jn_leT, jn_leF, jn_eqT, jn_eqF, jn_lt0, jn_ge0, jn_eq0T, jn_eq0F, jn_in, jn_cl]
            exact ihj A2 h2 _ e1 e2 fr2 hR2 hD2
          have hand : E j &&& (s + 1) < 65536 := Nat.lt_of_le_of_lt Nat.and_le_left hEl
          rw [s180_191]
          simp (disch := omega) only [s180_193, s180_194, s180_197, s180_199, s180_202, s180_203, s180_206, s180_208, s180_209, s180_210, Option.some.injEq, exists_eq_left', exists_eq_left, List.cons_append, List.nil_append, List.length_nil, List.length_cons, Nat.reduceAdd, Nat.reduceMul, Nat.reduceSub, Nat.reduceLeDiff, true_and, and_true, ↓reduceIte, not_false_eq_true, not_true_eq_false, nI_add, pk_mul, jn_ltT, jn_ltF, jn_leT, jn_leF, jn_eqT, jn_eqF, jn_lt0, jn_ge0, jn_eq0T, jn_eq0F, jn_in, jn_cl, jf_149_32 hR2, ja_176 hR2, ej, jn_and]
          by_cases c1 : E j &&& (s + 1) = 0
          · simp (disch := omega) only [s180_211, s180_214, s180_215, s180_218, s180_220, s180_221, s180_223, s180_225, s180_226, Option.some.injEq, exists_eq_left', exists_eq_left, List.cons_append, List.nil_append, List.length_nil, List.length_cons, Nat.reduceAdd, Nat.reduceMul, Nat.reduceSub, Nat.reduceLeDiff, true_and, and_true, ↓reduceIte, not_false_eq_true, not_true_eq_false, nI_add, pk_mul, jn_ltT, jn_ltF, jn_leT, jn_leF, jn_eqT, jn_eqF, jn_lt0, jn_ge0, jn_eq0T, jn_eq0F, jn_in, jn_cl, jf_149_32 hR2, ja_176 hR2, ej, c1, l4]
            rw [s180_227]
            by_cases c2 : (E j).testBit (jlo L) = true
            · have nb : (nI (E j) &&& nI (2 ^ jlo L) = 0) = False := by rw [jand_p l1, c2]; exact eq_false (by decide)
              have osub : jan ((s + 1) ||| E j) (jw4 (F 149 0) (F 149 1)) = 0 := jan_sub.mpr (fun i hi => by
                rw [Nat.testBit_or, Bool.or_eq_true] at hi
                rcases hi with hi | hi
                · exact jan_sub.mp sub i hi
                · exact jan_sub.mp esub i hi)
              have ole := jan_le osub
              have ogt : s + 1 < (s + 1) ||| E j := by
                rcases Nat.lt_or_ge (s + 1) ((s + 1) ||| E j) with y | y
                · exact y
                · exfalso
                  have e : (s + 1) ||| E j = s + 1 := Nat.le_antisymm y Nat.left_le_or
                  have := congrArg (fun x => x.testBit (jlo L)) e
                  rw [Nat.testBit_or, c2, Bool.or_true] at this
                  rw [← this] at bl'
                  cases bl'.2
              have eo : A2 175 ((s + 1) ||| E j) = nI (jps (A 150) (F 149 0) (F 149 1) (jan (jw4 (F 149 0) (F 149 1)) ((s + 1) ||| E j))) := by rw [e2 _ ogt]; exact eT _ ogt osub
              have ple : jps (A 150) (F 149 0) (F 149 1) (jan (jw4 (F 149 0) (F 149 1)) ((s + 1) ||| E j)) ≤ 100 := (jlst_le 100).1
              simp (disch := omega) only [s180_228, s180_231, s180_232, s180_235, s180_236, s180_238, s180_240, s180_243, s180_244, s180_245, s180_248, s180_249, s180_250, s180_253, s180_255, s180_256, s180_257, s180_258, s180_259, s180_260, s180_263, s180_264, Option.some.injEq, exists_eq_left', exists_eq_left, List.cons_append, List.nil_append, List.length_nil, List.length_cons, Nat.reduceAdd, Nat.reduceMul, Nat.reduceSub, Nat.reduceLeDiff, true_and, and_true, ↓reduceIte, not_false_eq_true, not_true_eq_false, nI_add, pk_mul, jn_ltT, jn_ltF, jn_leT, jn_leF, jn_eqT, jn_eqF, jn_lt0, jn_ge0, jn_eq0T, jn_eq0F, jn_in, jn_cl, jf_149_31 hR2, jf_149_32 hR2, ja_175 hR2, ja_176 hR2, ej, nb, jn_or, eo, e1]
              by_cases c3 : 1 + jps (A 150) (F 149 0) (F 149 1) (jan (jw4 (F 149 0) (F 149 1)) ((s + 1) ||| E j)) < jrm E (s + 1) L (fun t => jps (A 150) (F 149 0) (F 149 1) (jan (jw4 (F 149 0) (F 149 1)) t)) j
              · rw [if_pos ⟨⟨c1, c2⟩, c3⟩] at ihj
                simp (disch := omega) only [s180_265, s180_268, s180_269, s180_272, s180_273, s180_274, s180_275, s180_278, s180_279, s180_280, s180_283, s180_285, s180_286, s180_287, s180_288, s180_289, s180_290, s180_293, Option.some.injEq, exists_eq_left', exists_eq_left, List.cons_append, List.nil_append, List.length_nil, List.length_cons, Nat.reduceAdd, Nat.reduceMul, Nat.reduceSub, Nat.reduceLeDiff, true_and, and_true, ↓reduceIte, not_false_eq_true, not_true_eq_false, nI_add, pk_mul, jn_ltT, jn_ltF, jn_leT, jn_leF, jn_eqT, jn_eqF, jn_lt0, jn_ge0, jn_eq0T, jn_eq0F, jn_in, jn_cl, jf_149_31 hR2, jf_149_32 hR2, ja_175 hR2, ja_176 hR2, ej, jn_or, eo]
                refine ihj _ _ _ ?_ ?_ ?_ (hR2.wi (a := 175) (f := upd (A2 175) (s + 1) (nI (1 + jps (A 150) (F 149 0) (F 149 1) (jan (jw4 (F 149 0) (F 149 1)) ((s + 1) ||| E j))))) rfl) (hD2.wi (by decide))
                · rw [jua_same, jupd_same]
                · intro t ht; rw [jua_same, jupd_ne (by omega)]; exact e2 t ht
                · intro a na; rw [jua_ne na]; exact fr2 a na
              · simp (disch := omega) only [s180_265, Option.some.injEq, exists_eq_left', exists_eq_left, List.cons_append, List.nil_append, List.length_nil, List.length_cons, Nat.reduceAdd, Nat.reduceMul, Nat.reduceSub, Nat.reduceLeDiff, true_and, and_true, ↓reduceIte, not_false_eq_true, not_true_eq_false, nI_add, pk_mul, jn_ltT, jn_ltF, jn_leT, jn_leF, jn_eqT, jn_eqF, jn_lt0, jn_ge0, jn_eq0T, jn_eq0F, jn_in, jn_cl]
                exact skip (fun w => c3 w.2) _
            · have nb : (nI (E j) &&& nI (2 ^ jlo L) = 0) = True := by rw [jand_p l1, Bool.eq_false_iff.mpr c2]; exact eq_true rfl
              simp (disch := omega) only [s180_228, s180_231, s180_232, s180_235, s180_236, s180_238, s180_240, Option.some.injEq, exists_eq_left', exists_eq_left, List.cons_append, List.nil_append, List.length_nil, List.length_cons, Nat.reduceAdd, Nat.reduceMul, Nat.reduceSub, Nat.reduceLeDiff, true_and, and_true, ↓reduceIte, not_false_eq_true, not_true_eq_false, nI_add, pk_mul, jn_ltT, jn_ltF, jn_leT, jn_leF, jn_eqT, jn_eqF, jn_lt0, jn_ge0, jn_eq0T, jn_eq0F, jn_in, jn_cl, nb]
              exact skip (fun w => c2 w.1.2) _
          · simp (disch := omega) only [s180_211, s180_235, s180_236, s180_238, s180_240, Option.some.injEq, exists_eq_left', exists_eq_left, List.cons_append, List.nil_append, List.length_nil, List.length_cons, Nat.reduceAdd, Nat.reduceMul, Nat.reduceSub, Nat.reduceLeDiff, true_and, and_true, ↓reduceIte, not_false_eq_true, not_true_eq_false, nI_add, pk_mul, jn_ltT, jn_ltF, jn_leT, jn_leF, jn_eqT, jn_eqF, jn_lt0, jn_ge0, jn_eq0T, jn_eq0F, jn_in, jn_cl]
            exact skip (fun w => c1 w.1.1) _
    · have sl := jan_lt (W := s + 1) (H := jw4 (F 149 0) (F 149 1)) (n := 16) (by omega)
      rw [s180_149]
      simp (disch := omega) only [s180_150, s180_153, s180_154, s180_155, s180_156, s180_157, s180_158, s180_161, Option.some.injEq, exists_eq_left', exists_eq_left, List.cons_append, List.nil_append, List.length_nil, List.length_cons, Nat.reduceAdd, Nat.reduceMul, Nat.reduceSub, Nat.reduceLeDiff, true_and, and_true, ↓reduceIte, not_false_eq_true, not_true_eq_false, nI_add, pk_mul, jn_ltT, jn_ltF, jn_leT, jn_leF, jn_eqT, jn_eqF, jn_lt0, jn_ge0, jn_eq0T, jn_eq0F, jn_in, jn_cl, jn_anot]
      refine nx A1 h1 _ _ _ eE (fun t ht st => ?_) fr hR1 hD1
      by_cases e : t = s + 1
      · subst e; exact absurd st sub
      · exact eT t (by omega) st
theorem jw4_s {R C : Nat} (hc : C ≤ 4) : jmk (4 * R) (fun p => decide (p % 4 < C)) ||| (2 ^ C - 1) * 2 ^ (4 * R) = jmk (4 * (R + 1)) (fun p => decide (p % 4 < C)) := by
  have p2 : 2 ^ C ≤ 2 ^ 4 := Nat.pow_le_pow_right (by decide) hc
  have p0 := Nat.two_pow_pos C
  refine jmk4 (by omega) (fun j hj => ?_)
  rw [Nat.testBit_two_pow_sub_one, show (4 * R + j) % 4 = j by omega]
theorem md_part (hR : jR F A G g h) (hr : F 149 0 ≤ 4) (hc : F 149 1 ≤ 4) (hv : jV (A 150) (F 149 0) (F 149 1)) (k : ∀ A2 h2, (∀ a, a ≠ 175 → a ≠ 176 → A2 a = A a) → jR F A2 G g h2 → jD h h2 → Q [.int (nI (jps (A 150) (F 149 0) (F 149 1) (jw4 (F 149 0) (F 149 1))))] h2) : jx_Go jxP (d + 3) 180 0 [.ref 149, jx_u, jx_u, jx_u, jx_u, jx_u, jx_u] [] h Q := by
  have p2 := jp2 (F 149 1) (by omega)
  refine md_part1 hr hc hv (fun A2 h2 m w3 w4 w5 w6 hm hE fr hR2 hD2 => ?_) hR
  obtain ⟨E, eE, hE⟩ := hE
  simp (disch := omega) only [s180_114, s180_115, s180_116, s180_117, Option.some.injEq, exists_eq_left', exists_eq_left, List.cons_append, List.nil_append, List.length_nil, List.length_cons, Nat.reduceAdd, Nat.reduceMul, Nat.reduceSub, Nat.reduceLeDiff, true_and, and_true, ↓reduceIte, not_false_eq_true, not_true_eq_false, nI_add, pk_mul, jn_ltT, jn_ltF, jn_leT, jn_leF, jn_eqT, jn_eqF, jn_lt0, jn_ge0, jn_eq0T, jn_eq0F, jn_in, jn_cl]
  refine jloop (fun r => jx_Go jxP (d + 3) 180 118 [.ref 149, .int (nI m), .int (nI (jmk (4 * r) fun p => decide (p % 4 < F 149 1))), .int (nI r), w4, w5, w6] [] h2 Q) (F 149 0) ?_ ?_ 0 (Nat.zero_le _)
  · rw [s180_118]
    simp (disch := omega) only [s180_119, s180_120, s180_123, s180_147, s180_148, Option.some.injEq, exists_eq_left', exists_eq_left, List.cons_append, List.nil_append, List.length_nil, List.length_cons, Nat.reduceAdd, Nat.reduceMul, Nat.reduceSub, Nat.reduceLeDiff, true_and, and_true, ↓reduceIte, not_false_eq_true, not_true_eq_false, nI_add, pk_mul, jn_ltT, jn_ltF, jn_leT, jn_leF, jn_eqT, jn_eqF, jn_lt0, jn_ge0, jn_eq0T, jn_eq0F, jn_in, jn_cl, jf_149_0 hR2]
    have hW := jw4_lt (C := F 149 1) hr
    refine md_part2 hr hc hm hE (fun A3 h3 fr3 hR3 hD3 => k A3 h3 fr3 hR3 hD3) (jw4 (F 149 0) (F 149 1)) (Nat.le_refl _) A2 h2 _ _ _ eE (fun t ht st => ?_) (fun a n1 n2 => fr a n2) hR2 hD2
    have := jan_le st
    omega
  · intro r hr' ih
    rw [← jw4_s hc] at ih
    have hs := jsh4 (2 ^ F 149 1 - 1) (by omega) r (by omega)
    rw [s180_118]
    simp (disch := omega) only [s180_119, s180_120, s180_123, s180_126, s180_127, s180_128, s180_129, s180_132, s180_133, s180_134, s180_135, s180_136, s180_137, s180_138, s180_139, s180_140, s180_141, s180_144, Option.some.injEq, exists_eq_left', exists_eq_left, List.cons_append, List.nil_append, List.length_nil, List.length_cons, Nat.reduceAdd, Nat.reduceMul, Nat.reduceSub, Nat.reduceLeDiff, true_and, and_true, ↓reduceIte, not_false_eq_true, not_true_eq_false, nI_add, pk_mul, jn_ltT, jn_ltF, jn_leT, jn_leF, jn_eqT, jn_eqF, jn_lt0, jn_ge0, jn_eq0T, jn_eq0F, jn_in, jn_cl, jf_149_0 hR2, jf_149_1 hR2, jsh1, jn_sub, hs, jn_or]
    exact ih
end MD33
