/-! ===== the reference: fooling places ===== -/
section MD17
variable {d : Nat} {F : Nat → Nat → Nat} {A : Nat → Nat → Int32} {G : Nat → Option Nat} {g : Nat → Int64} {h : jxH} {Q : List Value → jxH → Prop}
theorem jtake_all {L : List Nat} {P : Nat → Bool} {q : Nat} (e : (L.take q).all P = false) : L.all P = false := by
  rw [Bool.eq_false_iff] at e ⊢
  intro w
  apply e
  rw [List.all_eq_true] at w ⊢
  exact fun x hx => w x (List.mem_of_mem_take hx)
theorem jtake_s {L : List Nat} {P : Nat → Bool} {q : Nat} (hq : q < L.length) : (L.take (q + 1)).all P = ((L.take q).all P && P L[q]) := by
  rw [List.take_succ_eq_append_getElem hq, List.all_append]
  simp
theorem md_fool_t (hR : jR F A G g h) (hr : F 149 0 ≤ 5) (hc : F 149 1 ≤ 5) (hv : jV (A 150) (F 149 0) (F 149 1)) {x : Nat} (hx : x < 2) (kk : ∀ h' f, jR F (jua A 172 f) G g h' → jD h h' → Q [.int (nI (jfm (A 150) (F 149 0) (F 149 1) (nI x) ((F 149 1 + 1) ^ F 149 0)))] h') : jx_Go jxP (d + 4) 175 0 [.ref 149, .int (nI x), jx_u, jx_u, jx_u, jx_u, jx_u, jx_u, jx_u, jx_u, jx_u] [] h Q := by
  have pw := fun r hr => jpw6 (F 149 1) hc r hr
  have k42 : jx_Go jxP (d + 4) 175 42 [.ref 149, .int (nI x), .int (nI ((F 149 1 + 1) ^ F 149 0)), .int (nI (F 149 0)), jx_u, jx_u, jx_u, jx_u, jx_u, jx_u, jx_u] [] h Q := by
    have pR := pw (F 149 0) hr
    simp (disch := omega) only [s175_42, s175_43, s175_44, s175_45, Option.some.injEq, exists_eq_left', exists_eq_left, List.cons_append, List.nil_append, List.length_nil, List.length_cons, Nat.reduceAdd, Nat.reduceMul, Nat.reduceSub, Nat.reduceLeDiff, true_and, and_true, ↓reduceIte, not_false_eq_true, not_true_eq_false, nI_add, pk_mul, jn_ltT, jn_ltF, jn_leT, jn_leF, jn_eqT, jn_eqF, jn_lt0, jn_ge0, jn_eq0T, jn_eq0F, jn_in, jn_cl]
    refine jloop (fun m => ∀ w5 w6 w7 w8 w9 w10 h1 f, jR F (jua A 172 f) G g h1 → jD h h1 → jx_Go jxP (d + 4) 175 47 [.ref 149, .int (nI x), .int (nI ((F 149 1 + 1) ^ F 149 0)), .int (nI (jfm (A 150) (F 149 0) (F 149 1) (nI x) m)), .int (nI m), w5, w6, w7, w8, w9, w10] [] h1 Q) ((F 149 1 + 1) ^ F 149 0) ?_ ?_ 0 (Nat.zero_le _) _ _ _ _ _ _ h (A 172) (by rw [jua_id]; exact hR) jD.rf
    · intro w5 w6 w7 w8 w9 w10 h1 f hR1 hD1
      rw [s175_47]
      simp (disch := omega) only [s175_49, s175_50, s175_226, s175_227, Option.some.injEq, exists_eq_left', exists_eq_left, List.cons_append, List.nil_append, List.length_nil, List.length_cons, Nat.reduceAdd, Nat.reduceMul, Nat.reduceSub, Nat.reduceLeDiff, true_and, and_true, ↓reduceIte, not_false_eq_true, not_true_eq_false, nI_add, pk_mul, jn_ltT, jn_ltF, jn_leT, jn_leF, jn_eqT, jn_eqF, jn_lt0, jn_ge0, jn_eq0T, jn_eq0F, jn_in, jn_cl]
      exact kk h1 f hR1 hD1
    · intro m hm ihm w5 w6 w7 w8 w9 w10 h1 f hR1 hD1
      have bl := jfm_le (v := A 150) (R := F 149 0) (x := nI x) hr hc m
      have ihm' := ihm
      rw [jfm_s] at ihm'
      generalize jfm (A 150) (F 149 0) (F 149 1) (nI x) m = best at *
      rw [s175_47]
      simp (disch := omega) only [s175_49, s175_50, s175_53, s175_55, s175_57, s175_58, s175_60, s175_61, s175_63, s175_64, Option.some.injEq, exists_eq_left', exists_eq_left, List.cons_append, List.nil_append, List.length_nil, List.length_cons, Nat.reduceAdd, Nat.reduceMul, Nat.reduceSub, Nat.reduceLeDiff, true_and, and_true, ↓reduceIte, not_false_eq_true, not_true_eq_false, nI_add, pk_mul, jn_ltT, jn_ltF, jn_leT, jn_leF, jn_eqT, jn_eqF, jn_lt0, jn_ge0, jn_eq0T, jn_eq0F, jn_in, jn_cl]
      refine jloop (fun r => ∀ w9 w10 h2 f2, jR F (jua A 172 f2) G g h2 → jD h h2 → (∀ q, (hq : q < (jfl (A 150) (F 149 0) (F 149 1) (nI x) m r).1.length) → f2 q = nI (jfl (A 150) (F 149 0) (F 149 1) (nI x) m r).1[q]) → jx_Go jxP (d + 4) 175 66 [.ref 149, .int (nI x), .int (nI ((F 149 1 + 1) ^ F 149 0)), .int (nI best), .int (nI m), .int (nI (m / (F 149 1 + 1) ^ r)), .int (nI (jfl (A 150) (F 149 0) (F 149 1) (nI x) m r).1.length), .int (nI (jfl (A 150) (F 149 0) (F 149 1) (nI x) m r).2.toNat), .int (nI r), w9, w10] [] h2 Q) (F 149 0) ?_ ?_ 0 (Nat.zero_le _) w9 w10 h1 f hR1 hD1 (fun q hq => by cases hq) |> fun z => by
        simp only [Nat.pow_zero, Nat.div_one] at z
        exact z
      · intro w9 w10 h2 f2 hR2 hD2 hf
        have ll := (jfl_lt (v := A 150) (R := F 149 0) (m := m) (x := nI x) hc (F 149 0) hr).1
        clear hf ihm
        generalize (jfl (A 150) (F 149 0) (F 149 1) (nI x) m (F 149 0)).1.length = n at ihm' ll ⊢
        rw [s175_66]
        simp (disch := omega) only [s175_68, s175_69, s175_72, s175_202, Option.some.injEq, exists_eq_left', exists_eq_left, List.cons_append, List.nil_append, List.length_nil, List.length_cons, Nat.reduceAdd, Nat.reduceMul, Nat.reduceSub, Nat.reduceLeDiff, true_and, and_true, ↓reduceIte, not_false_eq_true, not_true_eq_false, nI_add, pk_mul, jn_ltT, jn_ltF, jn_leT, jn_leF, jn_eqT, jn_eqF, jn_lt0, jn_ge0, jn_eq0T, jn_eq0F, jn_in, jn_cl, jf_149_0 hR2]
        cases ok : (jfl (A 150) (F 149 0) (F 149 1) (nI x) m (F 149 0)).2 with
        | false =>
          rw [ok, if_neg (fun z => by cases z.1)] at ihm'
          simp (disch := omega) only [s175_204, s175_218, s175_219, s175_220, s175_223, Option.some.injEq, exists_eq_left', exists_eq_left, List.cons_append, List.nil_append, List.length_nil, List.length_cons, Nat.reduceAdd, Nat.reduceMul, Nat.reduceSub, Nat.reduceLeDiff, true_and, and_true, ↓reduceIte, not_false_eq_true, not_true_eq_false, nI_add, pk_mul, jn_ltT, jn_ltF, jn_leT, jn_leF, jn_eqT, jn_eqF, jn_lt0, jn_ge0, jn_eq0T, jn_eq0F, jn_in, jn_cl, Bool.toNat_false]
          exact ihm' _ _ _ _ _ _ h2 f2 hR2 hD2
        | true =>
          rw [ok] at ihm'
          by_cases w : best < n
          · rw [if_pos ⟨rfl, w⟩] at ihm'
            simp (disch := omega) only [s175_204, s175_207, s175_209, s175_210, s175_213, s175_215, s175_218, s175_219, s175_220, s175_223, Option.some.injEq, exists_eq_left', exists_eq_left, List.cons_append, List.nil_append, List.length_nil, List.length_cons, Nat.reduceAdd, Nat.reduceMul, Nat.reduceSub, Nat.reduceLeDiff, true_and, and_true, ↓reduceIte, not_false_eq_true, not_true_eq_false, nI_add, pk_mul, jn_ltT, jn_ltF, jn_leT, jn_leF, jn_eqT, jn_eqF, jn_lt0, jn_ge0, jn_eq0T, jn_eq0F, jn_in, jn_cl, Bool.toNat_true]
            exact ihm' _ _ _ _ _ _ h2 f2 hR2 hD2
          · rw [if_neg (fun z => w z.2)] at ihm'
            simp (disch := omega) only [s175_204, s175_207, s175_209, s175_210, s175_213, s175_215, s175_218, s175_219, s175_220, s175_223, Option.some.injEq, exists_eq_left', exists_eq_left, List.cons_append, List.nil_append, List.length_nil, List.length_cons, Nat.reduceAdd, Nat.reduceMul, Nat.reduceSub, Nat.reduceLeDiff, true_and, and_true, ↓reduceIte, not_false_eq_true, not_true_eq_false, nI_add, pk_mul, jn_ltT, jn_ltF, jn_leT, jn_leF, jn_eqT, jn_eqF, jn_lt0, jn_ge0, jn_eq0T, jn_eq0F, jn_in, jn_cl, Bool.toNat_true]
            exact ihm' _ _ _ _ _ _ h2 f2 hR2 hD2
      · intro r hr' ih w9 w10 h2 f2 hR2 hD2 hf
        have pr := pw r (by omega)
        have tm : m / (F 149 1 + 1) ^ r ≤ m := Nat.div_le_self _ _
        have e1 : m / (F 149 1 + 1) ^ r / (F 149 1 + 1) = m / (F 149 1 + 1) ^ (r + 1) := by rw [Nat.div_div_eq_div_mul, Nat.pow_succ]
        have ed : m / (F 149 1 + 1) ^ r % (F 149 1 + 1) = jdig (F 149 1) m r := rfl
        have e2 : m / (F 149 1 + 1) ^ r / (F 149 1 + 1) * (F 149 1 + 1) ≤ m / (F 149 1 + 1) ^ r := Nat.div_mul_le_self _ _
        have e3 : m / (F 149 1 + 1) ^ r - m / (F 149 1 + 1) ^ r / (F 149 1 + 1) * (F 149 1 + 1) = jdig (F 149 1) m r := by
          have := Nat.div_add_mod (m / (F 149 1 + 1) ^ r) (F 149 1 + 1)
          rw [Nat.mul_comm, ed] at this
          omega
        have hd : jdig (F 149 1) m r < F 149 1 + 1 := Nat.mod_lt _ (by omega)
        obtain ⟨ll, lm⟩ := jfl_lt (v := A 150) (R := F 149 0) (m := m) (x := nI x) hc r (by omega)
        rw [jfl_s, ← e1] at ih
        generalize jfl (A 150) (F 149 0) (F 149 1) (nI x) m r = P at *
        obtain ⟨L, ok⟩ := P
        dsimp only at *
        generalize m / (F 149 1 + 1) ^ r = t at *
        generalize jdig (F 149 1) m r = dg at *
        rw [s175_66]
        by_cases w : dg = 0
        · rw [if_pos w] at ih
          have em : nI dg - nI 1 = -1 := by rw [w]; decide
          have m1 : ((-1 : Int32) < 0) = True := by decide
          simp (disch := omega) only [s175_68, s175_69, s175_72, s175_75, s175_77, s175_78, s175_81, s175_82, s175_83, s175_84, s175_85, s175_86, s175_88, s175_90, s175_91, s175_94, s175_95, s175_96, s175_97, s175_99, s175_101, s175_196, s175_199, Option.some.injEq, exists_eq_left', exists_eq_left, List.cons_append, List.nil_append, List.length_nil, List.length_cons, Nat.reduceAdd, Nat.reduceMul, Nat.reduceSub, Nat.reduceLeDiff, true_and, and_true, ↓reduceIte, not_false_eq_true, not_true_eq_false, nI_add, pk_mul, jn_ltT, jn_ltF, jn_leT, jn_leF, jn_eqT, jn_eqF, jn_lt0, jn_ge0, jn_eq0T, jn_eq0F, jn_in, jn_cl, jf_149_0 hR2, jf_149_1 hR2, jn_div, jn_sub, e3, em, m1]
          exact ih _ _ h2 f2 hR2 hD2 hf
        · rw [if_neg w] at ih
          dsimp only at ih
          have e150 : jua A 172 f2 150 = A 150 := jua_ne (by decide)
          have e172 : jua A 172 f2 172 = f2 := jua_same
          have el : (L ++ [5 * r + (dg - 1)]).length = L.length + 1 := by rw [List.length_append]; rfl
          have k127 : ∀ (u : Bool) (w10 : Value), u = (A 150 (5 * r + (dg - 1)) == nI x) → jx_Go jxP (d + 4) 175 127 [.ref 149, .int (nI x), .int (nI ((F 149 1 + 1) ^ F 149 0)), .int (nI best), .int (nI m), .int (nI (t / (F 149 1 + 1))), .int (nI L.length), .int (nI ok.toNat), .int (nI r), .int (nI (dg - 1)), w10] [.int (nI u.toNat), .int (nI ok.toNat)] h2 Q := by
            rintro u w10 rfl
            simp (disch := omega) only [s175_127, s175_128, s175_130, s175_131, Option.some.injEq, exists_eq_left', exists_eq_left, List.cons_append, List.nil_append, List.length_nil, List.length_cons, Nat.reduceAdd, Nat.reduceMul, Nat.reduceSub, Nat.reduceLeDiff, true_and, and_true, ↓reduceIte, not_false_eq_true, not_true_eq_false, nI_add, pk_mul, jn_ltT, jn_ltF, jn_leT, jn_leF, jn_eqT, jn_eqF, jn_lt0, jn_ge0, jn_eq0T, jn_eq0F, jn_in, jn_cl, jb_and]
            generalize (ok && A 150 (5 * r + (dg - 1)) == nI x) = a at ih ⊢
            have k179 : ∀ w10, jx_Go jxP (d + 4) 175 179 [.ref 149, .int (nI x), .int (nI ((F 149 1 + 1) ^ F 149 0)), .int (nI best), .int (nI m), .int (nI (t / (F 149 1 + 1))), .int (nI L.length), .int (nI (a && L.all fun p => !jlie (A 150) (F 149 0) (F 149 1) p (5 * r + (dg - 1))).toNat), .int (nI r), .int (nI (dg - 1)), w10] [] h2 Q := by
              intro w10
              simp (disch := omega) only [s175_179, s175_180, s175_183, s175_185, s175_186, s175_188, s175_189, s175_191, s175_192, s175_193, s175_196, s175_199, Option.some.injEq, exists_eq_left', exists_eq_left, List.cons_append, List.nil_append, List.length_nil, List.length_cons, Nat.reduceAdd, Nat.reduceMul, Nat.reduceSub, Nat.reduceLeDiff, true_and, and_true, ↓reduceIte, not_false_eq_true, not_true_eq_false, nI_add, pk_mul, jn_ltT, jn_ltF, jn_leT, jn_leF, jn_eqT, jn_eqF, jn_lt0, jn_ge0, jn_eq0T, jn_eq0F, jn_in, jn_cl, jh_ai_wi, jh_ai_wi_ne, jh_ai_uf, jh_fl_wi_ne, jh_fl_uf_ne, jh_fl_uf_o, jh_cl_wi_ne, jh_cl_uf, jh_al_wi_ne, jh_al_uf, jh_al_wl, jh_al_wl_ne, jh_ai_wl_ne, jh_fl_wl_ne, jh_cl_wl_ne, jh_ar_wi_ne, jh_ar_uf, jh_ar_wl_ne, jh_1_wi, jh_1_uf, jh_1_wl, jf_149_28 hR2, ja_172 hR2, e172]
              have hR3 : jR F (jua A 172 (upd f2 L.length (nI (5 * r + (dg - 1))))) G g (jx_wi h2 172 5 (upd f2 L.length (nI (5 * r + (dg - 1))))) := by
                have := hR2.wi (a := 172) (f := upd f2 L.length (nI (5 * r + (dg - 1)))) rfl
                rw [jua_jua] at this
                exact this
              rw [← el]
              refine ih _ _ _ _ hR3 (hD2.wi (by decide)) (fun q hq => ?_)
              by_cases z : q < L.length
              · rw [List.getElem_append_left z, jupd_ne (by omega)]
                exact hf q z
              · have : q = L.length := by omega
                subst this
                rw [jupd_same]
                simp
            refine jloop (fun q => jx_Go jxP (d + 4) 175 133 [.ref 149, .int (nI x), .int (nI ((F 149 1 + 1) ^ F 149 0)), .int (nI best), .int (nI m), .int (nI (t / (F 149 1 + 1))), .int (nI L.length), .int (nI (a && (L.take q).all fun p => !jlie (A 150) (F 149 0) (F 149 1) p (5 * r + (dg - 1))).toNat), .int (nI r), .int (nI (dg - 1)), .int (nI q)] [] h2 Q) L.length ?_ ?_ 0 (Nat.zero_le _) |> fun z => by
              simp only [List.take_zero, List.all_nil, Bool.and_true] at z
              exact z
            · rw [List.take_length, s175_133]
              simp (disch := omega) only [s175_135, s175_137, Option.some.injEq, exists_eq_left', exists_eq_left, List.cons_append, List.nil_append, List.length_nil, List.length_cons, Nat.reduceAdd, Nat.reduceMul, Nat.reduceSub, Nat.reduceLeDiff, true_and, and_true, ↓reduceIte, not_false_eq_true, not_true_eq_false, nI_add, pk_mul, jn_ltT, jn_ltF, jn_leT, jn_leF, jn_eqT, jn_eqF, jn_lt0, jn_ge0, jn_eq0T, jn_eq0F, jn_in, jn_cl]
              exact k179 _
            · intro q hq ih5
              rw [s175_133]
              rw [jtake_s hq, ← Bool.and_assoc] at ih5
              cases hz : (a && (L.take q).all fun p => !jlie (A 150) (F 149 0) (F 149 1) p (5 * r + (dg - 1))) with
              | false =>
                have k180 := k179 (.int (nI q))
                rw [show (a && L.all fun p => !jlie (A 150) (F 149 0) (F 149 1) p (5 * r + (dg - 1))) = false by
                  cases a with
                  | false => rfl
                  | true => rw [Bool.true_and] at hz ⊢; exact jtake_all hz] at k180
                simp (disch := omega) only [s175_135, s175_137, s175_140, s175_142, Option.some.injEq, exists_eq_left', exists_eq_left, List.cons_append, List.nil_append, List.length_nil, List.length_cons, Nat.reduceAdd, Nat.reduceMul, Nat.reduceSub, Nat.reduceLeDiff, true_and, and_true, ↓reduceIte, not_false_eq_true, not_true_eq_false, nI_add, pk_mul, jn_ltT, jn_ltF, jn_leT, jn_leF, jn_eqT, jn_eqF, jn_lt0, jn_ge0, jn_eq0T, jn_eq0F, jn_in, jn_cl, Bool.toNat_false] at k180 ⊢
                exact k180
              | true =>
                rw [hz, Bool.true_and] at ih5
                simp (disch := omega) only [s175_135, s175_137, s175_140, s175_142, s175_145, s175_146, s175_147, s175_150, s175_152, s175_153, s175_154, s175_156, s175_157, s175_159, s175_160, Option.some.injEq, exists_eq_left', exists_eq_left, List.cons_append, List.nil_append, List.length_nil, List.length_cons, Nat.reduceAdd, Nat.reduceMul, Nat.reduceSub, Nat.reduceLeDiff, true_and, and_true, ↓reduceIte, not_false_eq_true, not_true_eq_false, nI_add, pk_mul, jn_ltT, jn_ltF, jn_leT, jn_leF, jn_eqT, jn_eqF, jn_lt0, jn_ge0, jn_eq0T, jn_eq0F, jn_in, jn_cl, jf_149_28 hR2, ja_172 hR2, e172, hf q hq, jc_of_149 hR2, Bool.toNat_true]
                refine md_lieTogether hR2 hr hc (by rw [e150]; exact hv) (lm _ (List.getElem_mem hq)) (by omega) ?_
                rw [e150]
                cases hy : jlie (A 150) (F 149 0) (F 149 1) L[q] (5 * r + (dg - 1)) with
                | false =>
                  rw [hy] at ih5
                  simp (disch := omega) only [s175_163, s175_166, s175_167, s175_170, s175_171, s175_173, s175_176, Option.some.injEq, exists_eq_left', exists_eq_left, List.cons_append, List.nil_append, List.length_nil, List.length_cons, Nat.reduceAdd, Nat.reduceMul, Nat.reduceSub, Nat.reduceLeDiff, true_and, and_true, ↓reduceIte, not_false_eq_true, not_true_eq_false, nI_add, pk_mul, jn_ltT, jn_ltF, jn_leT, jn_leF, jn_eqT, jn_eqF, jn_lt0, jn_ge0, jn_eq0T, jn_eq0F, jn_in, jn_cl, Bool.toNat_false]
                  exact ih5
                | true =>
                  rw [hy] at ih5
                  simp (disch := omega) only [s175_163, s175_166, s175_167, s175_170, s175_171, s175_173, s175_176, Option.some.injEq, exists_eq_left', exists_eq_left, List.cons_append, List.nil_append, List.length_nil, List.length_cons, Nat.reduceAdd, Nat.reduceMul, Nat.reduceSub, Nat.reduceLeDiff, true_and, and_true, ↓reduceIte, not_false_eq_true, not_true_eq_false, nI_add, pk_mul, jn_ltT, jn_ltF, jn_leT, jn_leF, jn_eqT, jn_eqF, jn_lt0, jn_ge0, jn_eq0T, jn_eq0F, jn_in, jn_cl, Bool.toNat_true]
                  exact ih5
          simp (disch := omega) only [s175_68, s175_69, s175_72, s175_75, s175_77, s175_78, s175_81, s175_82, s175_83, s175_84, s175_85, s175_86, s175_88, s175_90, s175_91, s175_94, s175_95, s175_96, s175_97, s175_99, s175_101, s175_104, s175_106, s175_107, s175_110, s175_111, s175_113, s175_114, s175_116, s175_117, s175_118, Option.some.injEq, exists_eq_left', exists_eq_left, List.cons_append, List.nil_append, List.length_nil, List.length_cons, Nat.reduceAdd, Nat.reduceMul, Nat.reduceSub, Nat.reduceLeDiff, true_and, and_true, ↓reduceIte, not_false_eq_true, not_true_eq_false, nI_add, pk_mul, jn_ltT, jn_ltF, jn_leT, jn_leF, jn_eqT, jn_eqF, jn_lt0, jn_ge0, jn_eq0T, jn_eq0F, jn_in, jn_cl, jf_149_0 hR2, jf_149_1 hR2, jf_149_2 hR2, ja_150 hR2, jn_div, jn_sub, e3, e150]
          by_cases z : A 150 (5 * r + (dg - 1)) = nI x
          · simp (disch := omega) only [s175_119, s175_122, s175_123, s175_126, Option.some.injEq, exists_eq_left', exists_eq_left, List.cons_append, List.nil_append, List.length_nil, List.length_cons, Nat.reduceAdd, Nat.reduceMul, Nat.reduceSub, Nat.reduceLeDiff, true_and, and_true, ↓reduceIte, not_false_eq_true, not_true_eq_false, nI_add, pk_mul, jn_ltT, jn_ltF, jn_leT, jn_leF, jn_eqT, jn_eqF, jn_lt0, jn_ge0, jn_eq0T, jn_eq0F, jn_in, jn_cl, z]
            exact k127 true _ (by rw [z]; exact (beq_self_eq_true _).symm)
          · simp (disch := omega) only [s175_119, s175_122, s175_123, s175_126, Option.some.injEq, exists_eq_left', exists_eq_left, List.cons_append, List.nil_append, List.length_nil, List.length_cons, Nat.reduceAdd, Nat.reduceMul, Nat.reduceSub, Nat.reduceLeDiff, true_and, and_true, ↓reduceIte, not_false_eq_true, not_true_eq_false, nI_add, pk_mul, jn_ltT, jn_ltF, jn_leT, jn_leF, jn_eqT, jn_eqF, jn_lt0, jn_ge0, jn_eq0T, jn_eq0F, jn_in, jn_cl, z]
            exact k127 false _ (by rw [eq_comm, beq_eq_false_iff_ne]; exact z)
  simp (disch := omega) only [s175_0, s175_1, s175_4, s175_5, s175_6, s175_9, s175_10, s175_11, s175_14, s175_15, s175_16, s175_17, s175_18, Option.some.injEq, exists_eq_left', exists_eq_left, List.cons_append, List.nil_append, List.length_nil, List.length_cons, Nat.reduceAdd, Nat.reduceMul, Nat.reduceSub, Nat.reduceLeDiff, true_and, and_true, ↓reduceIte, not_false_eq_true, not_true_eq_false, nI_add, pk_mul, jn_ltT, jn_ltF, jn_leT, jn_leF, jn_eqT, jn_eqF, jn_lt0, jn_ge0, jn_eq0T, jn_eq0F, jn_in, jn_cl]
  refine jloop (fun r => jx_Go jxP (d + 4) 175 19 [.ref 149, .int (nI x), .int (nI ((F 149 1 + 1) ^ r)), .int (nI r), jx_u, jx_u, jx_u, jx_u, jx_u, jx_u, jx_u] [] h Q) (F 149 0) ?_ ?_ 0 (Nat.zero_le _)
  · rw [s175_19]
    simp (disch := omega) only [s175_20, s175_21, s175_24, Option.some.injEq, exists_eq_left', exists_eq_left, List.cons_append, List.nil_append, List.length_nil, List.length_cons, Nat.reduceAdd, Nat.reduceMul, Nat.reduceSub, Nat.reduceLeDiff, true_and, and_true, ↓reduceIte, not_false_eq_true, not_true_eq_false, nI_add, pk_mul, jn_ltT, jn_ltF, jn_leT, jn_leF, jn_eqT, jn_eqF, jn_lt0, jn_ge0, jn_eq0T, jn_eq0F, jn_in, jn_cl, jf_149_0 hR]
    exact k42
  · intro r hr' ih
    rw [Nat.pow_succ] at ih
    rw [s175_19]
    simp (disch := omega) only [s175_20, s175_21, s175_24, s175_27, s175_28, s175_29, s175_32, s175_33, s175_34, s175_35, s175_36, s175_39, Option.some.injEq, exists_eq_left', exists_eq_left, List.cons_append, List.nil_append, List.length_nil, List.length_cons, Nat.reduceAdd, Nat.reduceMul, Nat.reduceSub, Nat.reduceLeDiff, true_and, and_true, ↓reduceIte, not_false_eq_true, not_true_eq_false, nI_add, pk_mul, jn_ltT, jn_ltF, jn_leT, jn_leF, jn_eqT, jn_eqF, jn_lt0, jn_ge0, jn_eq0T, jn_eq0F, jn_in, jn_cl, jf_149_0 hR, jf_149_1 hR]
    exact ih
end MD17
