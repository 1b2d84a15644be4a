/-! ===== the class: told places are judged ===== -/
section CL16
variable {d : Nat} {F : Nat → Nat → Nat} {A : Nat → Nat → Int32} {G : Nat → Option Nat} {g : Nat → Int64} {h : jxH} {Q : List Value → jxH → Prop}
theorem ju_take (hR : jR F A G g h) (hn : F 144 3 < 120) {x : Int32} (k : ∀ h', jR (jup F 144 3 (F 144 3 + 1)) (jua A 145 (upd (A 145) (F 144 3) x)) G g h' → jD h h' → Q [] h') : jx_Go jxP d 15 0 [.ref 144, .int x] [] h Q := by
  simp (disch := first | omega | decide) only [s15_0, s15_1, s15_4, s15_5, s15_8, s15_9, s15_10, s15_11i, s15_11r, s15_12, s15_15, s15_16, s15_17, s15_20, Option.some.injEq, exists_eq_left', exists_eq_left, List.cons_append, List.nil_append, List.length_nil, List.length_cons, Nat.reduceAdd, Nat.reduceMul, Nat.reduceSub, Nat.reduceLeDiff, true_and, and_true, ↓reduceIte, not_false_eq_true, not_true_eq_false, nI_add, pk_mul, jn_ltT, jn_ltF, jn_leT, jn_leF, jn_eqT, jn_eqF, jn_lt0, jn_ge0, jn_eq0T, jn_eq0F, jn_in, jn_cl, jh_ai_wi, jh_ai_wi_ne, jh_ai_uf, jh_fl_wi_ne, jh_fl_uf_ne, jh_fl_uf_o, jh_cl_wi_ne, jh_cl_uf, jh_al_wi_ne, jh_al_uf, jh_al_wl, jh_al_wl_ne, jh_ai_wl_ne, jh_fl_wl_ne, jh_cl_wl_ne, jh_ar_wi_ne, jh_ar_uf, jh_ar_wl_ne, jh_1_wi, jh_1_uf, jh_1_wl, jf_144_2 hR, jf_144_3 hR, ja_145 hR]
  exact k _ ((hR.wi (a := 145) rfl).uf (o := 144) (k := 3) rfl rfl) ((jD.rf.wi (by decide)).uf (by decide))
theorem jlie_c {v : Nat → Int32} {R C p q : Nat} : jlie v R C p q = jlie v R C q p := by
  unfold jlie
  rw [Nat.or_comm (2 ^ (p / 5)), Nat.or_comm (2 ^ (p % 5))]
theorem jpw_pop : ∀ i, i < 5 → jpop (2 ^ i) = 1 := by decide +kernel
theorem jlie_s {v : Nat → Int32} {R C p : Nat} (hr : R ≤ 5) (hc : C ≤ 5) (hp : p < 25) : jlie v R C p p = true := by
  have e1 : 2 ^ (p / 5) < 32 := Nat.pow_lt_pow_right (by decide) (show p / 5 < 5 by omega)
  have e2 : 2 ^ (p % 5) < 32 := Nat.pow_lt_pow_right (by decide) (show p % 5 < 5 by omega)
  unfold jlie
  rw [Nat.or_self, Nat.or_self]
  exact jev_small hr hc e1 e2 (jpw_pop _ (by omega)) (jpw_pop _ (by omega))
theorem ju_liesWithEarlier (hR : jR F A G g h) {v : Nat → Int32} {R C : Nat} (hM : jMk F A v R C) (hr : R ≤ 5) (hc : C ≤ 5) {i : Nat} (hi : i < 120) (hp : ∀ j, j ≤ i → jnp R C (A 145 j) = true) (k : Q [.int (nI (jany i fun j => jlie v R C (A 145 i).toNatClampNeg (A 145 j).toNatClampNeg).toNat)] h) : jx_Go jxP (d + 2) 20 0 [.ref 144, .int (nI i), jx_u] [] h Q := by
  obtain ⟨p, p1, p2, p3, p4⟩ := jnp_p hr hc (hp i (Nat.le_refl _))
  rw [p2, jn_cl (by omega)] at k
  simp (disch := omega) only [s20_0, s20_1, Option.some.injEq, exists_eq_left', exists_eq_left, List.cons_append, List.nil_append, List.length_nil, List.length_cons, Nat.reduceAdd, Nat.reduceMul, Nat.reduceSub, Nat.reduceLeDiff, true_and, and_true, ↓reduceIte, not_false_eq_true, not_true_eq_false, nI_add, pk_mul, jn_ltT, jn_ltF, jn_leT, jn_leF, jn_eqT, jn_eqF, jn_lt0, jn_ge0, jn_eq0T, jn_eq0F, jn_in, jn_cl]
  refine jloop (fun j => (∀ e, e < j → jlie v R C p (A 145 e).toNatClampNeg = false) → jx_Go jxP (d + 2) 20 2 [.ref 144, .int (nI i), .int (nI j)] [] h Q) i ?_ ?_ 0 (Nat.zero_le _) (fun e he => by omega)
  · intro no
    rw [show (jany i fun j => jlie v R C p (A 145 j).toNatClampNeg) = false from Bool.eq_false_iff.mpr (fun w => by
      obtain ⟨j, h1, h2⟩ := jany_iff.mp w
      rw [no j h1] at h2
      cases h2)] at k
    rw [s20_2]
    simp (disch := omega) only [s20_3, s20_4, s20_37, s20_38b0, s20_38b1, Option.some.injEq, exists_eq_left', exists_eq_left, List.cons_append, List.nil_append, List.length_nil, List.length_cons, Nat.reduceAdd, Nat.reduceMul, Nat.reduceSub, Nat.reduceLeDiff, true_and, and_true, ↓reduceIte, not_false_eq_true, not_true_eq_false, nI_add, pk_mul, jn_ltT, jn_ltF, jn_leT, jn_leF, jn_eqT, jn_eqF, jn_lt0, jn_ge0, jn_eq0T, jn_eq0F, jn_in, jn_cl]
    exact k
  · intro j hj ih no
    obtain ⟨q, q1, q2, q3, q4⟩ := jnp_p hr hc (hp j (by omega))
    have ae : ∀ (d : Nat) (Q : List Value → jxH → Prop), jx_Go jxP (d + 1) 33 0 [.ref 99, .int (nI p), .int (nI q), jx_u, jx_u] [] h Q ↔ Q [.int (nI (jlie v R C p q).toNat)] h := fun d Q => ma_areInOneEvenBlock hR hM hr hc p3 q3
    rw [s20_2]
    simp (disch := omega) only [s20_3, s20_4, s20_7, s20_8, s20_11, s20_12, s20_15, s20_16, s20_17, s20_18, s20_21, s20_22, s20_23, Option.some.injEq, exists_eq_left', exists_eq_left, List.cons_append, List.nil_append, List.length_nil, List.length_cons, Nat.reduceAdd, Nat.reduceMul, Nat.reduceSub, Nat.reduceLeDiff, true_and, and_true, ↓reduceIte, not_false_eq_true, not_true_eq_false, nI_add, pk_mul, jn_ltT, jn_ltF, jn_leT, jn_leF, jn_eqT, jn_eqF, jn_lt0, jn_ge0, jn_eq0T, jn_eq0F, jn_in, jn_cl, jf_144_1 hR, jf_144_2 hR, ja_145 hR, p2, q2, jc_of_99 hR, ae]
    cases z : jlie v R C p q with
    | true =>
      rw [show (jany i fun j => jlie v R C p (A 145 j).toNatClampNeg) = true from jany_iff.mpr ⟨j, hj, by rw [q2, jn_cl (by omega)]; exact z⟩] at k
      simp (disch := omega) only [s20_26, s20_29, s20_30b0, s20_30b1, Option.some.injEq, exists_eq_left', exists_eq_left, List.cons_append, List.nil_append, List.length_nil, List.length_cons, Nat.reduceAdd, Nat.reduceMul, Nat.reduceSub, Nat.reduceLeDiff, true_and, and_true, ↓reduceIte, not_false_eq_true, not_true_eq_false, nI_add, pk_mul, jn_ltT, jn_ltF, jn_leT, jn_leF, jn_eqT, jn_eqF, jn_lt0, jn_ge0, jn_eq0T, jn_eq0F, jn_in, jn_cl, Bool.toNat_true]
      exact k
    | false =>
      simp (disch := omega) only [s20_26, s20_31, s20_34, Option.some.injEq, exists_eq_left', exists_eq_left, List.cons_append, List.nil_append, List.length_nil, List.length_cons, Nat.reduceAdd, Nat.reduceMul, Nat.reduceSub, Nat.reduceLeDiff, true_and, and_true, ↓reduceIte, not_false_eq_true, not_true_eq_false, nI_add, pk_mul, jn_ltT, jn_ltF, jn_leT, jn_leF, jn_eqT, jn_eqF, jn_lt0, jn_ge0, jn_eq0T, jn_eq0F, jn_in, jn_cl, Bool.toNat_false]
      refine ih (fun e he => ?_)
      rcases (show e < j ∨ e = j by omega) with w | w
      · exact no e w
      · subst w; rw [q2, jn_cl (by omega)]; exact z
theorem ju_judgeFooling (hR : jR F A G g h) (hr : F 2 0 ≤ 5) (hc : F 2 1 ≤ 5) (hM : jMk F A (A 3) (F 2 0) (F 2 1)) (hn : F 144 3 ≤ 120) {u : Int32} (k : Q [.int (if (jall (F 144 3) fun i => jnp (F 2 0) (F 2 1) (A 145 i)) = true then nI (jfoB (A 3) (F 2 0) (F 2 1) (F 144 3) (A 145) u).toNat else -1)] h) : jx_Go jxP (d + 3) 19 0 [.ref 144, .int u, jx_u] [] h Q := by
  have b5 : ¬ nI 5 = 0 := by decide
  simp (disch := omega) only [s19_0, s19_1, Option.some.injEq, exists_eq_left', exists_eq_left, List.cons_append, List.nil_append, List.length_nil, List.length_cons, Nat.reduceAdd, Nat.reduceMul, Nat.reduceSub, Nat.reduceLeDiff, true_and, and_true, ↓reduceIte, not_false_eq_true, not_true_eq_false, nI_add, pk_mul, jn_ltT, jn_ltF, jn_leT, jn_leF, jn_eqT, jn_eqF, jn_lt0, jn_ge0, jn_eq0T, jn_eq0F, jn_in, jn_cl]
  refine jloop (fun i => (∀ j, j < i → jnp (F 2 0) (F 2 1) (A 145 j) = true) → jx_Go jxP (d + 3) 19 2 [.ref 144, .int u, .int (nI i)] [] h Q) (F 144 3) ?_ ?_ 0 (Nat.zero_le _) (fun j hj => by omega)
  · intro al
    rw [if_pos (jall_iff.mpr al)] at k
    rw [s19_2]
    simp (disch := omega) only [s19_3, s19_4, s19_7, s19_53, s19_54, Option.some.injEq, exists_eq_left', exists_eq_left, List.cons_append, List.nil_append, List.length_nil, List.length_cons, Nat.reduceAdd, Nat.reduceMul, Nat.reduceSub, Nat.reduceLeDiff, true_and, and_true, ↓reduceIte, not_false_eq_true, not_true_eq_false, nI_add, pk_mul, jn_ltT, jn_ltF, jn_leT, jn_leF, jn_eqT, jn_eqF, jn_lt0, jn_ge0, jn_eq0T, jn_eq0F, jn_in, jn_cl, jf_144_3 hR]
    refine jloop (fun i => (∀ j, j < i → ((A 3 (A 145 j).toNatClampNeg == u) && jall j fun e => !(A 145 e == A 145 j) && !jlie (A 3) (F 2 0) (F 2 1) (A 145 e).toNatClampNeg (A 145 j).toNatClampNeg) = true) → jx_Go jxP (d + 3) 19 55 [.ref 144, .int u, .int (nI i)] [] h Q) (F 144 3) ?_ ?_ 0 (Nat.zero_le _) (fun j hj => by omega)
    · intro gd
      rw [show jfoB (A 3) (F 2 0) (F 2 1) (F 144 3) (A 145) u = true from jall_iff.mpr gd] at k
      rw [s19_55]
      simp (disch := omega) only [s19_56, s19_57, s19_60, s19_97, s19_98, Option.some.injEq, exists_eq_left', exists_eq_left, List.cons_append, List.nil_append, List.length_nil, List.length_cons, Nat.reduceAdd, Nat.reduceMul, Nat.reduceSub, Nat.reduceLeDiff, true_and, and_true, ↓reduceIte, not_false_eq_true, not_true_eq_false, nI_add, pk_mul, jn_ltT, jn_ltF, jn_leT, jn_leF, jn_eqT, jn_eqF, jn_lt0, jn_ge0, jn_eq0T, jn_eq0F, jn_in, jn_cl, jf_144_3 hR]
      exact k
    · intro i hi ih gd
      obtain ⟨p, p1, p2, p3, p4⟩ := jnp_p hr hc (al i hi)
      have bad : ((A 3 (A 145 i).toNatClampNeg == u) && jall i fun e => !(A 145 e == A 145 i) && !jlie (A 3) (F 2 0) (F 2 1) (A 145 e).toNatClampNeg (A 145 i).toNatClampNeg) = false → jx_Go jxP (d + 3) 19 89 [.ref 144, .int u, .int (nI i)] [] h Q := by
        intro z
        rw [show jfoB (A 3) (F 2 0) (F 2 1) (F 144 3) (A 145) u = false from Bool.eq_false_iff.mpr (fun w => by
          have := jall_iff.mp w i hi
          rw [z] at this
          cases this)] at k
        simp (disch := omega) only [s19_89, s19_90, Option.some.injEq, exists_eq_left', exists_eq_left, List.cons_append, List.nil_append, List.length_nil, List.length_cons, Nat.reduceAdd, Nat.reduceMul, Nat.reduceSub, Nat.reduceLeDiff, true_and, and_true, ↓reduceIte, not_false_eq_true, not_true_eq_false, nI_add, pk_mul, jn_ltT, jn_ltF, jn_leT, jn_leF, jn_eqT, jn_eqF, jn_lt0, jn_ge0, jn_eq0T, jn_eq0F, jn_in, jn_cl]
        exact k
      rw [s19_55]
      rw [p2, jn_cl (by omega)] at bad
      by_cases q : A 3 p = u
      · simp (disch := omega) only [s19_56, s19_57, s19_60, s19_63, s19_64, s19_67, s19_70, s19_71, s19_74, s19_75, s19_76, s19_77, s19_78, s19_81, s19_82, s19_83, Option.some.injEq, exists_eq_left', exists_eq_left, List.cons_append, List.nil_append, List.length_nil, List.length_cons, Nat.reduceAdd, Nat.reduceMul, Nat.reduceSub, Nat.reduceLeDiff, true_and, and_true, ↓reduceIte, not_false_eq_true, not_true_eq_false, nI_add, pk_mul, jn_ltT, jn_ltF, jn_leT, jn_leF, jn_eqT, jn_eqF, jn_lt0, jn_ge0, jn_eq0T, jn_eq0F, jn_in, jn_cl, jf_144_0 hR, jf_144_2 hR, jf_144_3 hR, jf_2_2 hR, ja_3 hR, ja_145 hR, p2, q, jc_of_144 hR]
        refine ju_liesWithEarlier hR hM hr hc (by omega) (fun j hj => al j (by omega)) ?_
        rw [p2, jn_cl (by omega)]
        cases z : jany i fun j => jlie (A 3) (F 2 0) (F 2 1) p (A 145 j).toNatClampNeg with
        | true =>
          simp (disch := omega) only [s19_86, Option.some.injEq, exists_eq_left', exists_eq_left, List.cons_append, List.nil_append, List.length_nil, List.length_cons, Nat.reduceAdd, Nat.reduceMul, Nat.reduceSub, Nat.reduceLeDiff, true_and, and_true, ↓reduceIte, not_false_eq_true, not_true_eq_false, nI_add, pk_mul, jn_ltT, jn_ltF, jn_leT, jn_leF, jn_eqT, jn_eqF, jn_lt0, jn_ge0, jn_eq0T, jn_eq0F, jn_in, jn_cl, Bool.toNat_true]
          refine bad ?_
          obtain ⟨j, h1, h2⟩ := jany_iff.mp z
          apply Bool.eq_false_iff.mpr
          intro w
          have := jall_iff.mp ((Bool.and_eq_true _ _).mp w).2 j h1
          rw [jlie_c, h2] at this
          rw [Bool.and_eq_true] at this
          cases this.2
        | false =>
          simp (disch := omega) only [s19_86, s19_91, s19_94, Option.some.injEq, exists_eq_left', exists_eq_left, List.cons_append, List.nil_append, List.length_nil, List.length_cons, Nat.reduceAdd, Nat.reduceMul, Nat.reduceSub, Nat.reduceLeDiff, true_and, and_true, ↓reduceIte, not_false_eq_true, not_true_eq_false, nI_add, pk_mul, jn_ltT, jn_ltF, jn_leT, jn_leF, jn_eqT, jn_eqF, jn_lt0, jn_ge0, jn_eq0T, jn_eq0F, jn_in, jn_cl, Bool.toNat_false]
          refine ih (fun j hj => ?_)
          rcases (show j < i ∨ j = i by omega) with w | w
          · exact gd j w
          · subst w
            rw [p2, jn_cl (by omega), q, beq_self_eq_true, Bool.true_and]
            refine jall_iff.mpr (fun e he => ?_)
            have nl : jlie (A 3) (F 2 0) (F 2 1) p (A 145 e).toNatClampNeg = false := Bool.eq_false_iff.mpr (fun w => by rw [jany_iff.mpr ⟨e, he, w⟩] at z; cases z)
            have ne : A 145 e ≠ nI p := fun w => by
              rw [w, jn_cl (by omega), jlie_s hr hc p1] at nl
              cases nl
            rw [beq_eq_false_iff_ne.mpr ne, jlie_c, nl]
            rfl
      · simp (disch := omega) only [s19_56, s19_57, s19_60, s19_63, s19_64, s19_67, s19_70, s19_71, s19_74, s19_75, s19_76, s19_77, s19_78, Option.some.injEq, exists_eq_left', exists_eq_left, List.cons_append, List.nil_append, List.length_nil, List.length_cons, Nat.reduceAdd, Nat.reduceMul, Nat.reduceSub, Nat.reduceLeDiff, true_and, and_true, ↓reduceIte, not_false_eq_true, not_true_eq_false, nI_add, pk_mul, jn_ltT, jn_ltF, jn_leT, jn_leF, jn_eqT, jn_eqF, jn_lt0, jn_ge0, jn_eq0T, jn_eq0F, jn_in, jn_cl, jf_144_0 hR, jf_144_2 hR, jf_144_3 hR, jf_2_2 hR, ja_3 hR, ja_145 hR, p2, q]
        exact bad (by rw [beq_eq_false_iff_ne.mpr q, Bool.false_and])
  · intro i hi ih al
    have bad : jnp (F 2 0) (F 2 1) (A 145 i) = false → jx_Go jxP (d + 3) 19 45 [.ref 144, .int u, .int (nI i)] [] h Q := by
      intro z
      rw [if_neg (fun w => by rw [jall_iff.mp w i hi] at z; cases z)] at k
      simp (disch := omega) only [s19_45, s19_46, Option.some.injEq, exists_eq_left', exists_eq_left, List.cons_append, List.nil_append, List.length_nil, List.length_cons, Nat.reduceAdd, Nat.reduceMul, Nat.reduceSub, Nat.reduceLeDiff, true_and, and_true, ↓reduceIte, not_false_eq_true, not_true_eq_false, nI_add, pk_mul, jn_ltT, jn_ltF, jn_leT, jn_leF, jn_eqT, jn_eqF, jn_lt0, jn_ge0, jn_eq0T, jn_eq0F, jn_in, jn_cl]
      exact k
    have good : jnp (F 2 0) (F 2 1) (A 145 i) = true → jx_Go jxP (d + 3) 19 47 [.ref 144, .int u, .int (nI i)] [] h Q := by
      intro z
      simp (disch := omega) only [s19_47, s19_50, Option.some.injEq, exists_eq_left', exists_eq_left, List.cons_append, List.nil_append, List.length_nil, List.length_cons, Nat.reduceAdd, Nat.reduceMul, Nat.reduceSub, Nat.reduceLeDiff, true_and, and_true, ↓reduceIte, not_false_eq_true, not_true_eq_false, nI_add, pk_mul, jn_ltT, jn_ltF, jn_leT, jn_leF, jn_eqT, jn_eqF, jn_lt0, jn_ge0, jn_eq0T, jn_eq0F, jn_in, jn_cl]
      refine ih (fun j hj => ?_)
      rcases (show j < i ∨ j = i by omega) with w | w
      · exact al j w
      · subst w; exact z
    rw [s19_2]
    simp (disch := omega) only [s19_3, s19_4, s19_7, s19_10, s19_11, s19_14, s19_15, Option.some.injEq, exists_eq_left', exists_eq_left, List.cons_append, List.nil_append, List.length_nil, List.length_cons, Nat.reduceAdd, Nat.reduceMul, Nat.reduceSub, Nat.reduceLeDiff, true_and, and_true, ↓reduceIte, not_false_eq_true, not_true_eq_false, nI_add, pk_mul, jn_ltT, jn_ltF, jn_leT, jn_leF, jn_eqT, jn_eqF, jn_lt0, jn_ge0, jn_eq0T, jn_eq0F, jn_in, jn_cl, jf_144_2 hR, jf_144_3 hR, ja_145 hR]
    by_cases a : A 145 i < 0
    · rw [s19_16, if_pos a]
      exact bad (by unfold jnp; rw [decide_eq_false (fun w => w a), Bool.false_and])
    · rw [s19_16, if_neg a]
      simp (disch := omega) only [s19_19, s19_20, s19_23, s19_24, s19_27, s19_28, Option.some.injEq, exists_eq_left', exists_eq_left, List.cons_append, List.nil_append, List.length_nil, List.length_cons, Nat.reduceAdd, Nat.reduceMul, Nat.reduceSub, Nat.reduceLeDiff, true_and, and_true, ↓reduceIte, not_false_eq_true, not_true_eq_false, nI_add, pk_mul, jn_ltT, jn_ltF, jn_leT, jn_leF, jn_eqT, jn_eqF, jn_lt0, jn_ge0, jn_eq0T, jn_eq0F, jn_in, jn_cl, jf_144_0 hR, jf_144_2 hR, ja_145 hR]
      rw [s19_29, s19_30]
      refine ⟨b5, ?_⟩
      simp (disch := omega) only [s19_31, s19_32, s19_35, s19_36, Option.some.injEq, exists_eq_left', exists_eq_left, List.cons_append, List.nil_append, List.length_nil, List.length_cons, Nat.reduceAdd, Nat.reduceMul, Nat.reduceSub, Nat.reduceLeDiff, true_and, and_true, ↓reduceIte, not_false_eq_true, not_true_eq_false, nI_add, pk_mul, jn_ltT, jn_ltF, jn_leT, jn_leF, jn_eqT, jn_eqF, jn_lt0, jn_ge0, jn_eq0T, jn_eq0F, jn_in, jn_cl, jf_144_2 hR, ja_145 hR]
      rw [s19_37, s19_38]
      refine ⟨b5, ?_⟩
      simp (disch := omega) only [s19_39, Option.some.injEq, exists_eq_left', exists_eq_left, List.cons_append, List.nil_append, List.length_nil, List.length_cons, Nat.reduceAdd, Nat.reduceMul, Nat.reduceSub, Nat.reduceLeDiff, true_and, and_true, ↓reduceIte, not_false_eq_true, not_true_eq_false, nI_add, pk_mul, jn_ltT, jn_ltF, jn_leT, jn_leF, jn_eqT, jn_eqF, jn_lt0, jn_ge0, jn_eq0T, jn_eq0F, jn_in, jn_cl, jc_of_2 hR, tk_has hR.tk2]
      by_cases b : jbel (A 145 i / nI 5) (F 2 0) = true ∧ jbel (A 145 i - A 145 i / nI 5 * nI 5) (F 2 1) = true
      · rw [if_pos b]
        simp (disch := omega) only [s19_42, Option.some.injEq, exists_eq_left', exists_eq_left, List.cons_append, List.nil_append, List.length_nil, List.length_cons, Nat.reduceAdd, Nat.reduceMul, Nat.reduceSub, Nat.reduceLeDiff, true_and, and_true, ↓reduceIte, not_false_eq_true, not_true_eq_false, nI_add, pk_mul, jn_ltT, jn_ltF, jn_leT, jn_leF, jn_eqT, jn_eqF, jn_lt0, jn_ge0, jn_eq0T, jn_eq0F, jn_in, jn_cl]
        exact good (by unfold jnp; rw [decide_eq_true a, decide_eq_true b]; rfl)
      · rw [if_neg b]
        simp (disch := omega) only [s19_42, Option.some.injEq, exists_eq_left', exists_eq_left, List.cons_append, List.nil_append, List.length_nil, List.length_cons, Nat.reduceAdd, Nat.reduceMul, Nat.reduceSub, Nat.reduceLeDiff, true_and, and_true, ↓reduceIte, not_false_eq_true, not_true_eq_false, nI_add, pk_mul, jn_ltT, jn_ltF, jn_leT, jn_leF, jn_eqT, jn_eqF, jn_lt0, jn_ge0, jn_eq0T, jn_eq0F, jn_in, jn_cl]
        exact bad (by unfold jnp; rw [decide_eq_false b, Bool.and_false])
end CL16
