/-! ===== the class: lay, undo, told ===== -/
section CL29
variable {d : Nat} {F : Nat → Nat → Nat} {A : Nat → Nat → Int32} {G : Nat → Option Nat} {g : Nat → Int64} {h : jxH} {Q : List Value → jxH → Prop}
theorem sh_holdsPlaces (hR : jR F A G g h) {s : Nat} (hs : s < 4) (hz : F (117 + 2 * s) 1 ≤ 30) (k : Q [.int (nI (jall (F (117 + 2 * s) 1) fun i => jbel (A (118 + 2 * s) i) 3).toNat)] h) : jx_Go jxP d 60 0 [.ref (117 + 2 * s), jx_u] [] h Q := by
  have t := hR.sh hs
  generalize F (117 + 2 * s) 1 = z at hz t k
  simp (disch := omega) only [s60_0, s60_1, Option.some.injEq, exists_eq_left', exists_eq_left, List.cons_append, List.nil_append, List.length_nil, List.length_cons, Nat.reduceAdd, Nat.reduceMul, Nat.reduceSub, Nat.reduceLeDiff, true_and, and_true, ↓reduceIte, not_false_eq_true, not_true_eq_false, nI_add, pk_mul, jn_ltT, jn_ltF, jn_leT, jn_leF, jn_eqT, jn_eqF, jn_lt0, jn_ge0, jn_eq0T, jn_eq0F, jn_in, jn_cl]
  refine jloop (fun i => (∀ j, j < i → jbel (A (118 + 2 * s) j) 3 = true) → jx_Go jxP d 60 2 [.ref (117 + 2 * s), .int (nI i)] [] h Q) z ?_ ?_ 0 (Nat.zero_le _) (fun j hj => by omega)
  · intro al
    rw [jall_iff.mpr al] at k
    rw [s60_2]
    simp (disch := omega) only [s60_3, s60_4, s60_7, s60_37, s60_38b0, s60_38b1, Option.some.injEq, exists_eq_left', exists_eq_left, List.cons_append, List.nil_append, List.length_nil, List.length_cons, Nat.reduceAdd, Nat.reduceMul, Nat.reduceSub, Nat.reduceLeDiff, true_and, and_true, ↓reduceIte, not_false_eq_true, not_true_eq_false, nI_add, pk_mul, jn_ltT, jn_ltF, jn_leT, jn_leF, jn_eqT, jn_eqF, jn_lt0, jn_ge0, jn_eq0T, jn_eq0F, jn_in, jn_cl, t.2.2.1]
    exact k
  · intro i hi ih al
    have bad : ¬ jbel (A (118 + 2 * s) i) 3 = true → jx_Go jxP d 60 29 [.ref (117 + 2 * s), .int (nI i)] [] h Q := by
      intro w
      rw [show (jall z fun i => jbel (A (118 + 2 * s) i) 3) = false from Bool.eq_false_iff.mpr (fun q => w (jall_iff.mp q i hi))] at k
      simp (disch := omega) only [s60_29, s60_30b0, s60_30b1, Option.some.injEq, exists_eq_left', exists_eq_left, List.cons_append, List.nil_append, List.length_nil, List.length_cons, Nat.reduceAdd, Nat.reduceMul, Nat.reduceSub, Nat.reduceLeDiff, true_and, and_true, ↓reduceIte, not_false_eq_true, not_true_eq_false, nI_add, pk_mul, jn_ltT, jn_ltF, jn_leT, jn_leF, jn_eqT, jn_eqF, jn_lt0, jn_ge0, jn_eq0T, jn_eq0F, jn_in, jn_cl]
      exact k
    rw [s60_2]
    simp (disch := omega) only [s60_3, s60_4, s60_7, s60_10, s60_11, s60_14, s60_15, Option.some.injEq, exists_eq_left', exists_eq_left, List.cons_append, List.nil_append, List.length_nil, List.length_cons, Nat.reduceAdd, Nat.reduceMul, Nat.reduceSub, Nat.reduceLeDiff, true_and, and_true, ↓reduceIte, not_false_eq_true, not_true_eq_false, nI_add, pk_mul, jn_ltT, jn_ltF, jn_leT, jn_leF, jn_eqT, jn_eqF, jn_lt0, jn_ge0, jn_eq0T, jn_eq0F, jn_in, jn_cl, t.2.2.1, t.2.2.2.1, t.2.2.2.2]
    rw [s60_16]
    by_cases a : A (118 + 2 * s) i < 0
    · rw [if_pos a]; exact bad (jbel_a a)
    rw [if_neg a]
    simp (disch := omega) only [s60_19, s60_20, s60_23, s60_24, s60_25, Option.some.injEq, exists_eq_left', exists_eq_left, List.cons_append, List.nil_append, List.length_nil, List.length_cons, Nat.reduceAdd, Nat.reduceMul, Nat.reduceSub, Nat.reduceLeDiff, true_and, and_true, ↓reduceIte, not_false_eq_true, not_true_eq_false, nI_add, pk_mul, jn_ltT, jn_ltF, jn_leT, jn_leF, jn_eqT, jn_eqF, jn_lt0, jn_ge0, jn_eq0T, jn_eq0F, jn_in, jn_cl, t.2.2.2.1, t.2.2.2.2]
    rw [s60_26]
    by_cases b : nI 3 ≤ A (118 + 2 * s) i
    · rw [if_neg (by rw [jle_bel (by omega)]; exact fun q => q b)]; exact bad (jbel_b b)
    · rw [if_pos (by rw [jle_bel (by omega)]; exact b)]
      simp (disch := omega) only [s60_31, s60_34, Option.some.injEq, exists_eq_left', exists_eq_left, List.cons_append, List.nil_append, List.length_nil, List.length_cons, Nat.reduceAdd, Nat.reduceMul, Nat.reduceSub, Nat.reduceLeDiff, true_and, and_true, ↓reduceIte, not_false_eq_true, not_true_eq_false, nI_add, pk_mul, jn_ltT, jn_ltF, jn_leT, jn_leF, jn_eqT, jn_eqF, jn_lt0, jn_ge0, jn_eq0T, jn_eq0F, jn_in, jn_cl]
      refine ih (fun j hj => ?_)
      rcases (show j < i ∨ j = i by omega) with w | w
      · exact al j w
      · subst w; exact jbel_c a b
theorem tb_lay_f (hR : jR F A G g h) (hr : F 2 0 ≤ 5) (hc : F 2 1 ≤ 5) (hB : ∀ s, s < 4 → F (117 + 2 * s) 0 ≤ 32 ∧ F (117 + 2 * s) 1 ≤ 30) {s w : Int32} (e : jlyA (fun s => F (117 + 2 * s) 0) (fun s => F (117 + 2 * s) 1) (fun s i => A (118 + 2 * s) i) (F 2 0 * F 2 1) s = some w) (k : ∀ h', jR (jup F 1 11 (F 1 11 + 1)) A G g h' → jD h h' → Q [.int w] h') : jx_Go jxP (d + 1) 97 0 [.ref 1, .int s, jx_u] [] h Q := by
  obtain ⟨r', ar, rr⟩ := hR.shr
  have hm : F 2 0 * F 2 1 ≤ 25 := Nat.mul_le_mul hr hc
  unfold jlyA at e
  simp (disch := omega) only [s97_0, s97_1, Option.some.injEq, exists_eq_left', exists_eq_left, List.cons_append, List.nil_append, List.length_nil, List.length_cons, Nat.reduceAdd, Nat.reduceMul, Nat.reduceSub, Nat.reduceLeDiff, true_and, and_true, ↓reduceIte, not_false_eq_true, not_true_eq_false, nI_add, pk_mul, jn_ltT, jn_ltF, jn_leT, jn_leF, jn_eqT, jn_eqF, jn_lt0, jn_ge0, jn_eq0T, jn_eq0F, jn_in, jn_cl, tb_noSheet]
  by_cases hs : jbel s 4 = true
  · rw [if_pos hs] at e ⊢
    obtain ⟨s', hs', es⟩ := (jbel_iff (by omega)).mp hs
    subst es
    rw [jn_cl (by omega)] at e
    dsimp only at e
    obtain ⟨b32, z30⟩ := hB s' hs'
    have t := hR.sh hs'
    have rs := rr s' hs'
    have mi : ∀ (d : Nat) (Q : List Value → jxH → Prop), jx_Go jxP d 56 0 [.ref (117 + 2 * s')] [] h Q ↔ Q [.int (nI (if F (117 + 2 * s') 0 = 0 then 1 else 0))] h := fun d Q => sh_isMissing hR hs' b32
    simp (disch := omega) only [s97_4, s97_13, s97_14, s97_17, s97_18, s97_19, s97_20, s97_21, Option.some.injEq, exists_eq_left', exists_eq_left, List.cons_append, List.nil_append, List.length_nil, List.length_cons, Nat.reduceAdd, Nat.reduceMul, Nat.reduceSub, Nat.reduceLeDiff, true_and, and_true, ↓reduceIte, not_false_eq_true, not_true_eq_false, nI_add, pk_mul, jn_ltT, jn_ltF, jn_leT, jn_leF, jn_eqT, jn_eqF, jn_lt0, jn_ge0, jn_eq0T, jn_eq0F, jn_in, jn_cl, jf_1_2 hR, ar, rs, jx_rv, t.1, mi]
    by_cases b0 : F (117 + 2 * s') 0 = 0
    · rw [if_pos b0] at e ⊢
      have ex : -2 = w := Option.some.inj e
      subst ex
      simp (disch := omega) only [s97_24, s97_27, s97_28, s97_30, Option.some.injEq, exists_eq_left', exists_eq_left, List.cons_append, List.nil_append, List.length_nil, List.length_cons, Nat.reduceAdd, Nat.reduceMul, Nat.reduceSub, Nat.reduceLeDiff, true_and, and_true, ↓reduceIte, not_false_eq_true, not_true_eq_false, nI_add, pk_mul, jn_ltT, jn_ltF, jn_leT, jn_leF, jn_eqT, jn_eqF, jn_lt0, jn_ge0, jn_eq0T, jn_eq0F, jn_in, jn_cl, jc_of_1 hR]
      exact tb_finding hR (fun h' hR' hD' => by simp only [s97_33, Option.some.injEq, exists_eq_left', exists_eq_left, List.cons_append, List.nil_append, List.length_nil, List.length_cons, Nat.reduceAdd, Nat.reduceMul, Nat.reduceSub, Nat.reduceLeDiff, true_and, and_true, ↓reduceIte, not_false_eq_true, not_true_eq_false, nI_add, pk_mul, jn_ltT, jn_ltF, jn_leT, jn_leF, jn_eqT, jn_eqF, jn_lt0, jn_ge0, jn_eq0T, jn_eq0F, jn_in, jn_cl]; exact k h' hR' hD')
    · rw [if_neg b0] at e ⊢
      by_cases z0 : F 2 0 * F 2 1 < F (117 + 2 * s') 1
      · rw [if_pos z0] at e
        have ex : -3 = w := Option.some.inj e
        subst ex
        simp (disch := omega) only [s97_24, s97_34, s97_35, s97_38, s97_39, s97_42, s97_45, s97_48, s97_49, s97_51, Option.some.injEq, exists_eq_left', exists_eq_left, List.cons_append, List.nil_append, List.length_nil, List.length_cons, Nat.reduceAdd, Nat.reduceMul, Nat.reduceSub, Nat.reduceLeDiff, true_and, and_true, ↓reduceIte, not_false_eq_true, not_true_eq_false, nI_add, pk_mul, jn_ltT, jn_ltF, jn_leT, jn_leF, jn_eqT, jn_eqF, jn_lt0, jn_ge0, jn_eq0T, jn_eq0F, jn_in, jn_cl, jf_1_0 hR, t.2.2.1, jc_of_2 hR, tk_size hR.tk2, jc_of_1 hR]
        exact tb_finding hR (fun h' hR' hD' => by simp only [s97_54, Option.some.injEq, exists_eq_left', exists_eq_left, List.cons_append, List.nil_append, List.length_nil, List.length_cons, Nat.reduceAdd, Nat.reduceMul, Nat.reduceSub, Nat.reduceLeDiff, true_and, and_true, ↓reduceIte, not_false_eq_true, not_true_eq_false, nI_add, pk_mul, jn_ltT, jn_ltF, jn_leT, jn_leF, jn_eqT, jn_eqF, jn_lt0, jn_ge0, jn_eq0T, jn_eq0F, jn_in, jn_cl]; exact k h' hR' hD')
      · rw [if_neg z0] at e
        simp (disch := omega) only [s97_24, s97_34, s97_35, s97_38, s97_39, s97_42, s97_45, s97_55, s97_56, Option.some.injEq, exists_eq_left', exists_eq_left, List.cons_append, List.nil_append, List.length_nil, List.length_cons, Nat.reduceAdd, Nat.reduceMul, Nat.reduceSub, Nat.reduceLeDiff, true_and, and_true, ↓reduceIte, not_false_eq_true, not_true_eq_false, nI_add, pk_mul, jn_ltT, jn_ltF, jn_leT, jn_leF, jn_eqT, jn_eqF, jn_lt0, jn_ge0, jn_eq0T, jn_eq0F, jn_in, jn_cl, jf_1_0 hR, t.1, t.2.2.1, jc_of_2 hR, tk_size hR.tk2]
        refine sh_holdsPlaces hR hs' z30 ?_
        cases al : jall (F (117 + 2 * s') 1) fun i => jbel (A (118 + 2 * s') i) 3 with
        | true => rw [al, if_pos rfl] at e; cases e
        | false =>
          rw [al, if_neg (by decide)] at e
          have ex : -1 = w := Option.some.inj e
          subst ex
          simp (disch := omega) only [s97_59, s97_62, s97_63, s97_64, Option.some.injEq, exists_eq_left', exists_eq_left, List.cons_append, List.nil_append, List.length_nil, List.length_cons, Nat.reduceAdd, Nat.reduceMul, Nat.reduceSub, Nat.reduceLeDiff, true_and, and_true, ↓reduceIte, not_false_eq_true, not_true_eq_false, nI_add, pk_mul, jn_ltT, jn_ltF, jn_leT, jn_leF, jn_eqT, jn_eqF, jn_lt0, jn_ge0, jn_eq0T, jn_eq0F, jn_in, jn_cl, jc_of_1 hR, Bool.toNat_false]
          exact tb_finding hR (fun h' hR' hD' => by simp only [s97_67, Option.some.injEq, exists_eq_left', exists_eq_left, List.cons_append, List.nil_append, List.length_nil, List.length_cons, Nat.reduceAdd, Nat.reduceMul, Nat.reduceSub, Nat.reduceLeDiff, true_and, and_true, ↓reduceIte, not_false_eq_true, not_true_eq_false, nI_add, pk_mul, jn_ltT, jn_ltF, jn_leT, jn_leF, jn_eqT, jn_eqF, jn_lt0, jn_ge0, jn_eq0T, jn_eq0F, jn_in, jn_cl]; exact k h' hR' hD')
  · rw [if_neg hs] at e ⊢
    have ex : -1 = w := Option.some.inj e
    subst ex
    simp (disch := omega) only [s97_4, s97_7, s97_8, s97_9, Option.some.injEq, exists_eq_left', exists_eq_left, List.cons_append, List.nil_append, List.length_nil, List.length_cons, Nat.reduceAdd, Nat.reduceMul, Nat.reduceSub, Nat.reduceLeDiff, true_and, and_true, ↓reduceIte, not_false_eq_true, not_true_eq_false, nI_add, pk_mul, jn_ltT, jn_ltF, jn_leT, jn_leF, jn_eqT, jn_eqF, jn_lt0, jn_ge0, jn_eq0T, jn_eq0F, jn_in, jn_cl, jc_of_1 hR]
    exact tb_finding hR (fun h' hR' hD' => by simp only [s97_12, Option.some.injEq, exists_eq_left', exists_eq_left, List.cons_append, List.nil_append, List.length_nil, List.length_cons, Nat.reduceAdd, Nat.reduceMul, Nat.reduceSub, Nat.reduceLeDiff, true_and, and_true, ↓reduceIte, not_false_eq_true, not_true_eq_false, nI_add, pk_mul, jn_ltT, jn_ltF, jn_leT, jn_leF, jn_eqT, jn_eqF, jn_lt0, jn_ge0, jn_eq0T, jn_eq0F, jn_in, jn_cl]; exact k h' hR' hD')
theorem tb_lay_t (hR : jR F A G g h) (hn : F 7 1 < 30) (hk : F 7 2 ≤ 30) (hr : F 2 0 ≤ 5) (hc : F 2 1 ≤ 5) {s : Nat} (hs : s < 4) (hb : 0 < F (117 + 2 * s) 0) (hb2 : F (117 + 2 * s) 0 ≤ 32) (hz : F (117 + 2 * s) 1 ≤ F 2 0 * F 2 1) (hv : ∀ i, i < F (117 + 2 * s) 1 → jbel (A (118 + 2 * s) i) 3 = true) (k : ∀ h' F' A' pl, (∀ i j, i < F 2 0 → j < F 2 1 → pl (5 * i + j) = if i * F 2 1 + j < F (117 + 2 * s) 1 then A (118 + 2 * s) (i * F 2 1 + j) else nI 2) → jNw F A F' A' (F 2 0) (F 2 1) pl (A 4) → jR F' A' G g h' → jD h h' → Q [.int (nI (F (117 + 2 * s) 1))] h') : jx_Go jxP (d + 3) 97 0 [.ref 1, .int (nI s), jx_u] [] h Q := by
  obtain ⟨r', ar, rr⟩ := hR.shr
  have hm : F 2 0 * F 2 1 ≤ 25 := Nat.mul_le_mul hr hc
  have rs := rr s hs
  have t := hR.sh hs
  have eR : jphF F 2 0 = F 2 0 := jphF_o hn (by omega)
  have eC : jphF F 2 1 = F 2 1 := jphF_o hn (by omega)
  have e4 : jphA F A 4 = A 4 := jphA_o hn (by omega)
  have mi : ∀ (d : Nat) (Q : List Value → jxH → Prop), jx_Go jxP d 56 0 [.ref (117 + 2 * s)] [] h Q ↔ Q [.int (nI (if F (117 + 2 * s) 0 = 0 then 1 else 0))] h := fun d Q => sh_isMissing hR hs hb2
  simp (disch := omega) only [s97_0, s97_1, Option.some.injEq, exists_eq_left', exists_eq_left, List.cons_append, List.nil_append, List.length_nil, List.length_cons, Nat.reduceAdd, Nat.reduceMul, Nat.reduceSub, Nat.reduceLeDiff, true_and, and_true, ↓reduceIte, not_false_eq_true, not_true_eq_false, nI_add, pk_mul, jn_ltT, jn_ltF, jn_leT, jn_leF, jn_eqT, jn_eqF, jn_lt0, jn_ge0, jn_eq0T, jn_eq0F, jn_in, jn_cl, tb_noSheet, jbel_n]
  simp (disch := omega) only [s97_4, s97_13, s97_14, s97_17, s97_18, s97_19, s97_20, s97_21, Option.some.injEq, exists_eq_left', exists_eq_left, List.cons_append, List.nil_append, List.length_nil, List.length_cons, Nat.reduceAdd, Nat.reduceMul, Nat.reduceSub, Nat.reduceLeDiff, true_and, and_true, ↓reduceIte, not_false_eq_true, not_true_eq_false, nI_add, pk_mul, jn_ltT, jn_ltF, jn_leT, jn_leF, jn_eqT, jn_eqF, jn_lt0, jn_ge0, jn_eq0T, jn_eq0F, jn_in, jn_cl, jf_1_2 hR, ar, rs, jx_rv, t.1, mi]
  rw [if_neg (by omega)]
  simp (disch := omega) only [s97_24, s97_34, s97_35, s97_38, s97_39, s97_42, s97_45, s97_55, s97_56, Option.some.injEq, exists_eq_left', exists_eq_left, List.cons_append, List.nil_append, List.length_nil, List.length_cons, Nat.reduceAdd, Nat.reduceMul, Nat.reduceSub, Nat.reduceLeDiff, true_and, and_true, ↓reduceIte, not_false_eq_true, not_true_eq_false, nI_add, pk_mul, jn_ltT, jn_ltF, jn_leT, jn_leF, jn_eqT, jn_eqF, jn_lt0, jn_ge0, jn_eq0T, jn_eq0F, jn_in, jn_cl, jf_1_0 hR, t.1, t.2.2.1, jc_of_2 hR, tk_size hR.tk2]
  refine sh_holdsPlaces hR hs (by omega) ?_
  rw [jall_iff.mpr hv]
  simp (disch := omega) only [s97_59, s97_68, s97_69, s97_72, s97_73, s97_76, Option.some.injEq, exists_eq_left', exists_eq_left, List.cons_append, List.nil_append, List.length_nil, List.length_cons, Nat.reduceAdd, Nat.reduceMul, Nat.reduceSub, Nat.reduceLeDiff, true_and, and_true, ↓reduceIte, not_false_eq_true, not_true_eq_false, nI_add, pk_mul, jn_ltT, jn_ltF, jn_leT, jn_leF, jn_eqT, jn_eqF, jn_lt0, jn_ge0, jn_eq0T, jn_eq0F, jn_in, jn_cl, jf_1_0 hR, jf_1_3 hR, jc_of_7 hR, Bool.toNat_true]
  refine tb_push hR hn hk (fun h1 hR1 hD1 => ?_)
  have t1 := hR1.sh hs
  have z1 : jphF F (117 + 2 * s) 1 = F (117 + 2 * s) 1 := jphF_o hn (by omega)
  have a1 : jphA F A (118 + 2 * s) = A (118 + 2 * s) := jphA_o hn (by omega)
  rw [z1, a1] at t1
  simp (disch := omega) only [s97_79, s97_80, s97_83, s97_84, Option.some.injEq, exists_eq_left', exists_eq_left, List.cons_append, List.nil_append, List.length_nil, List.length_cons, Nat.reduceAdd, Nat.reduceMul, Nat.reduceSub, Nat.reduceLeDiff, true_and, and_true, ↓reduceIte, not_false_eq_true, not_true_eq_false, nI_add, pk_mul, jn_ltT, jn_ltF, jn_leT, jn_leF, jn_eqT, jn_eqF, jn_lt0, jn_ge0, jn_eq0T, jn_eq0F, jn_in, jn_cl, jf_1_0 hR1, jc_of_2 hR1]
  refine tk_fillFrom hR1 (by omega) (by omega) t1.2.2.1 t1.2.2.2.1 t1.2.2.2.2 (by omega) (by omega) (by omega) (fun h2 pl hp hR2 hD2 => ?_)
  rw [eR, eC] at hp
  simp (disch := omega) only [s97_87, s97_88, Option.some.injEq, exists_eq_left', exists_eq_left, List.cons_append, List.nil_append, List.length_nil, List.length_cons, Nat.reduceAdd, Nat.reduceMul, Nat.reduceSub, Nat.reduceLeDiff, true_and, and_true, ↓reduceIte, not_false_eq_true, not_true_eq_false, nI_add, pk_mul, jn_ltT, jn_ltF, jn_leT, jn_leF, jn_eqT, jn_eqF, jn_lt0, jn_ge0, jn_eq0T, jn_eq0F, jn_in, jn_cl, jc_of_1 hR2]
  refine tb_fin2 (F := F) (A := A) (h := h) hR2 (hD1.tr hD2) hn (by omega) (by omega) (fun o k ho => rfl) (fun a n1 n2 => jua_ne n1) (fun h3 F3 A3 hN hR3 hD3 => ?_)
  rw [eR, eC, jua_same, jua_ne (by decide), e4] at hN
  have t3 := (hR3.sh hs).2.2.1
  rw [hN.2.1.1 (117 + 2 * s) 1 (Or.inr (by omega))] at t3
  simp (disch := omega) only [s97_91, s97_92, s97_95, Option.some.injEq, exists_eq_left', exists_eq_left, List.cons_append, List.nil_append, List.length_nil, List.length_cons, Nat.reduceAdd, Nat.reduceMul, Nat.reduceSub, Nat.reduceLeDiff, true_and, and_true, ↓reduceIte, not_false_eq_true, not_true_eq_false, nI_add, pk_mul, jn_ltT, jn_ltF, jn_leT, jn_leF, jn_eqT, jn_eqF, jn_lt0, jn_ge0, jn_eq0T, jn_eq0F, jn_in, jn_cl, t3]
  exact k h3 F3 A3 pl hp hN hR3 hD3
theorem tb_undo_0 (hR : jR F A G g h) (e : F 7 2 = 0) (k : ∀ h', jR (jup F 1 11 (F 1 11 + 1)) A G g h' → jD h h' → Q [.int (-6)] h') : jx_Go jxP (d + 1) 118 0 [.ref 1] [] h Q := by
  simp (disch := omega) only [s118_0, s118_1, s118_4, s118_7, s118_10, s118_11, s118_13, Option.some.injEq, exists_eq_left', exists_eq_left, List.cons_append, List.nil_append, List.length_nil, List.length_cons, Nat.reduceAdd, Nat.reduceMul, Nat.reduceSub, Nat.reduceLeDiff, true_and, and_true, ↓reduceIte, not_false_eq_true, not_true_eq_false, nI_add, pk_mul, jn_ltT, jn_ltF, jn_leT, jn_leF, jn_eqT, jn_eqF, jn_lt0, jn_ge0, jn_eq0T, jn_eq0F, jn_in, jn_cl, jf_1_3 hR, jf_7_2 hR, jc_of_1 hR]
  exact tb_finding hR (fun h' hR' hD' => by simp only [s118_16, Option.some.injEq, exists_eq_left', exists_eq_left, List.cons_append, List.nil_append, List.length_nil, List.length_cons, Nat.reduceAdd, Nat.reduceMul, Nat.reduceSub, Nat.reduceLeDiff, true_and, and_true, ↓reduceIte, not_false_eq_true, not_true_eq_false, nI_add, pk_mul, jn_ltT, jn_ltF, jn_leT, jn_leF, jn_eqT, jn_eqF, jn_lt0, jn_ge0, jn_eq0T, jn_eq0F, jn_in, jn_cl]; exact k h' hR' hD')
/-- the history after a pop: the task n is back -/
def jPop (F : Nat → Nat → Nat) (A : Nat → Nat → Int32) (F' : Nat → Nat → Nat) (A' : Nat → Nat → Int32) (n : Nat) : Prop := F' 7 1 = n ∧ F' 7 2 = F 7 2 - 1 ∧ F' 2 0 = F (9 + 3 * n) 0 ∧ F' 2 1 = F (9 + 3 * n) 1 ∧ (∀ j, j < 25 → A' 3 j = A (10 + 3 * n) j ∧ A' 4 j = A (11 + 3 * n) j) ∧ ∀ i, i < 30 → F' (9 + 3 * i) 0 = F (9 + 3 * i) 0 ∧ F' (9 + 3 * i) 1 = F (9 + 3 * i) 1 ∧ A' (10 + 3 * i) = A (10 + 3 * i) ∧ A' (11 + 3 * i) = A (11 + 3 * i)
theorem tb_undo_t (hR : jR F A G g h) (hn : F 7 1 < 30) (hk : F 7 2 ≤ 30) (e : 0 < F 7 2) {n : Nat} (en : n = if F 7 1 = 0 then 29 else F 7 1 - 1) (hr : F (9 + 3 * n) 0 ≤ 5) (hc : F (9 + 3 * n) 1 ≤ 5) (k : ∀ h' F' A', jPop F A F' A' n → jRs F A F' A' → jVd F' A' → jR F' A' G g h' → jD h h' → Q [.int (nI (F 7 2 - 1))] h') : jx_Go jxP (d + 3) 118 0 [.ref 1] [] h Q := by
  have n30 : n < 30 := by rw [en]; split <;> omega
  simp (disch := omega) only [s118_0, s118_1, s118_4, s118_7, s118_17, s118_18, s118_21, s118_22, s118_25, Option.some.injEq, exists_eq_left', exists_eq_left, List.cons_append, List.nil_append, List.length_nil, List.length_cons, Nat.reduceAdd, Nat.reduceMul, Nat.reduceSub, Nat.reduceLeDiff, true_and, and_true, ↓reduceIte, not_false_eq_true, not_true_eq_false, nI_add, pk_mul, jn_ltT, jn_ltF, jn_leT, jn_leF, jn_eqT, jn_eqF, jn_lt0, jn_ge0, jn_eq0T, jn_eq0F, jn_in, jn_cl, jf_1_0 hR, jf_1_3 hR, jf_7_2 hR, jc_of_7 hR]
  refine hi_pop hR hn e en (fun h1 hR1 hD1 => ?_)
  simp (disch := omega) only [s118_28, s118_29, Option.some.injEq, exists_eq_left', exists_eq_left, List.cons_append, List.nil_append, List.length_nil, List.length_cons, Nat.reduceAdd, Nat.reduceMul, Nat.reduceSub, Nat.reduceLeDiff, true_and, and_true, ↓reduceIte, not_false_eq_true, not_true_eq_false, nI_add, pk_mul, jn_ltT, jn_ltF, jn_leT, jn_leF, jn_eqT, jn_eqF, jn_lt0, jn_ge0, jn_eq0T, jn_eq0F, jn_in, jn_cl, jc_of_1 hR1]
  have cp : ∀ (f f' : Nat → Int32) j, j < 25 → va_cpy f f' 0 0 25 j = f j := fun f f' j hj => by
    unfold va_cpy
    rw [if_pos (by omega)]
    congr 1
    omega
  refine tb_fin (F := F) (A := A) (h := h) hR1 hD1 (by rw [jup_ne (Or.inr (by decide)), jup_same]; omega) (by rw [jup_same]; omega) (fun o k ho => by rw [jup_ne (Or.inl (by omega)), jup_ne (Or.inl (by omega)), jup_ne (Or.inl (by omega)), jup_ne (Or.inl (by omega))]) (fun a ha => by rw [jua_ne (by omega), jua_ne (by omega)]) (fun h3 F3 A3 a1 a2 a3 a4 hR3 hD3 => ?_)
  have f2 := jf_7_2 hR3
  rw [a3 7 2 (by decide), jup_ne (Or.inl (by decide)), jup_ne (Or.inl (by decide)), jup_same] at f2
  simp (disch := omega) only [s118_32, s118_33, s118_36, s118_39, Option.some.injEq, exists_eq_left', exists_eq_left, List.cons_append, List.nil_append, List.length_nil, List.length_cons, Nat.reduceAdd, Nat.reduceMul, Nat.reduceSub, Nat.reduceLeDiff, true_and, and_true, ↓reduceIte, not_false_eq_true, not_true_eq_false, nI_add, pk_mul, jn_ltT, jn_ltF, jn_leT, jn_leF, jn_eqT, jn_eqF, jn_lt0, jn_ge0, jn_eq0T, jn_eq0F, jn_in, jn_cl, jf_1_3 hR3, f2]
  refine k h3 F3 A3 ⟨?_, ?_, ?_, ?_, fun j hj => ⟨?_, ?_⟩, fun i hi => ⟨?_, ?_, ?_, ?_⟩⟩ a1 a2 hR3 hD3
  · rw [a3 7 1 (by decide), jup_ne (Or.inl (by decide)), jup_ne (Or.inl (by decide)), jup_ne (Or.inr (by decide)), jup_same]
  · rw [a3 7 2 (by decide), jup_ne (Or.inl (by decide)), jup_ne (Or.inl (by decide)), jup_same]
  · rw [a3 2 0 (by decide), jup_ne (Or.inr (by decide)), jup_same]
  · rw [a3 2 1 (by decide), jup_same]
  · rw [a4 3 (by decide), jua_ne (by decide), jua_same, cp _ _ j hj]
  · rw [a4 4 (by decide), jua_same, cp _ _ j hj]
  · rw [a3 _ 0 (by omega), jup_ne (Or.inl (by omega)), jup_ne (Or.inl (by omega)), jup_ne (Or.inl (by omega)), jup_ne (Or.inl (by omega))]
  · rw [a3 _ 1 (by omega), jup_ne (Or.inl (by omega)), jup_ne (Or.inl (by omega)), jup_ne (Or.inl (by omega)), jup_ne (Or.inl (by omega))]
  · rw [a4 _ (by omega), jua_ne (by omega), jua_ne (by omega)]
  · rw [a4 _ (by omega), jua_ne (by omega), jua_ne (by omega)]
theorem jtold_f {x : Int32} (hb : ¬ jbel x 7 = true) : js_swt 1 98 0 6 [43, 51, 59, 68, 77, 85, 93] x = 99 := by
  unfold js_swt
  have : x.toInt < 0 ∨ 6 < x.toInt := by
    rcases jbel_f hb with w | ⟨w, w2⟩
    · left
      rw [Int32.lt_iff_toInt_lt] at w
      exact w
    · right
      rw [Int32.le_iff_toInt_le, nI_toInt (by omega)] at w2
      omega
  rw [if_pos this]
  rfl
theorem tb_told_f (hR : jR F A G g h) {x : Int32} (hb : ¬ jbel x 7 = true) (k : ∀ h', jR (jup F 1 11 (F 1 11 + 1)) A G g h' → jD h h' → Q [.int (-1)] h') : jx_Go jxP (d + 1) 119 0 [.ref 1, .int x] [] h Q := by
  rw [s119_0, s119_1, jtold_f hb]
  simp (disch := omega) only [s119_99, s119_100, s119_101, Option.some.injEq, exists_eq_left', exists_eq_left, List.cons_append, List.nil_append, List.length_nil, List.length_cons, Nat.reduceAdd, Nat.reduceMul, Nat.reduceSub, Nat.reduceLeDiff, true_and, and_true, ↓reduceIte, not_false_eq_true, not_true_eq_false, nI_add, pk_mul, jn_ltT, jn_ltF, jn_leT, jn_leF, jn_eqT, jn_eqF, jn_lt0, jn_ge0, jn_eq0T, jn_eq0F, jn_in, jn_cl, jc_of_1 hR]
  exact tb_finding hR (fun h' hR' hD' => by simp only [s119_104, Option.some.injEq, exists_eq_left', exists_eq_left, List.cons_append, List.nil_append, List.length_nil, List.length_cons, Nat.reduceAdd, Nat.reduceMul, Nat.reduceSub, Nat.reduceLeDiff, true_and, and_true, ↓reduceIte, not_false_eq_true, not_true_eq_false, nI_add, pk_mul, jn_ltT, jn_ltF, jn_leT, jn_leF, jn_eqT, jn_eqF, jn_lt0, jn_ge0, jn_eq0T, jn_eq0F, jn_in, jn_cl]; exact k h' hR' hD')
theorem tb_told_t (hR : jR F A G g h) (hr : F 2 0 ≤ 5) (hc : F 2 1 ≤ 5) {x : Nat} (hx : x < 7) (k : Q [.int (nI (jtold (F 2 0) (F 2 1) (jcnt (A 3) (F 2 0) (F 2 1) (nI 1)) (jcnt (A 3) (F 2 0) (F 2 1) (nI 2)) (F 144 3) (F 137 8) (F 1 11) x))] h) : jx_Go jxP (d + 1) 119 0 [.ref 1, .int (nI x)] [] h Q := by
  rw [s119_0, s119_1]
  rcases (show x = 0 ∨ x = 1 ∨ x = 2 ∨ x = 3 ∨ x = 4 ∨ x = 5 ∨ x = 6 by omega) with rfl | rfl | rfl | rfl | rfl | rfl | rfl
  · rw [show js_swt 1 98 0 6 [43, 51, 59, 68, 77, 85, 93] (nI 0) = 44 by decide +kernel]
    simp (disch := omega) only [s119_0, s119_1, s119_44, s119_45, s119_48, s119_51, s119_52, s119_53, s119_56, s119_59, s119_60, s119_61, s119_64, s119_65, s119_68, s119_69, s119_70, s119_73, s119_74, s119_77, s119_78, s119_79, s119_82, s119_85, s119_86, s119_87, s119_90, s119_93, s119_94, s119_95, s119_98, s119_99, s119_100, s119_101, s119_104, Option.some.injEq, exists_eq_left', exists_eq_left, List.cons_append, List.nil_append, List.length_nil, List.length_cons, Nat.reduceAdd, Nat.reduceMul, Nat.reduceSub, Nat.reduceLeDiff, true_and, and_true, ↓reduceIte, not_false_eq_true, not_true_eq_false, nI_add, pk_mul, jn_ltT, jn_ltF, jn_leT, jn_leF, jn_eqT, jn_eqF, jn_lt0, jn_ge0, jn_eq0T, jn_eq0F, jn_in, jn_cl, jf_1_0 hR, jf_2_0 hR]
    exact k
  · rw [show js_swt 1 98 0 6 [43, 51, 59, 68, 77, 85, 93] (nI 1) = 52 by decide +kernel]
    simp (disch := omega) only [s119_0, s119_1, s119_44, s119_45, s119_48, s119_51, s119_52, s119_53, s119_56, s119_59, s119_60, s119_61, s119_64, s119_65, s119_68, s119_69, s119_70, s119_73, s119_74, s119_77, s119_78, s119_79, s119_82, s119_85, s119_86, s119_87, s119_90, s119_93, s119_94, s119_95, s119_98, s119_99, s119_100, s119_101, s119_104, Option.some.injEq, exists_eq_left', exists_eq_left, List.cons_append, List.nil_append, List.length_nil, List.length_cons, Nat.reduceAdd, Nat.reduceMul, Nat.reduceSub, Nat.reduceLeDiff, true_and, and_true, ↓reduceIte, not_false_eq_true, not_true_eq_false, nI_add, pk_mul, jn_ltT, jn_ltF, jn_leT, jn_leF, jn_eqT, jn_eqF, jn_lt0, jn_ge0, jn_eq0T, jn_eq0F, jn_in, jn_cl, jf_1_0 hR, jf_2_1 hR]
    exact k
  · rw [show js_swt 1 98 0 6 [43, 51, 59, 68, 77, 85, 93] (nI 2) = 60 by decide +kernel]
    simp (disch := omega) only [s119_0, s119_1, s119_44, s119_45, s119_48, s119_51, s119_52, s119_53, s119_56, s119_59, s119_60, s119_61, s119_64, s119_65, s119_68, s119_69, s119_70, s119_73, s119_74, s119_77, s119_78, s119_79, s119_82, s119_85, s119_86, s119_87, s119_90, s119_93, s119_94, s119_95, s119_98, s119_99, s119_100, s119_101, s119_104, Option.some.injEq, exists_eq_left', exists_eq_left, List.cons_append, List.nil_append, List.length_nil, List.length_cons, Nat.reduceAdd, Nat.reduceMul, Nat.reduceSub, Nat.reduceLeDiff, true_and, and_true, ↓reduceIte, not_false_eq_true, not_true_eq_false, nI_add, pk_mul, jn_ltT, jn_ltF, jn_leT, jn_leF, jn_eqT, jn_eqF, jn_lt0, jn_ge0, jn_eq0T, jn_eq0F, jn_in, jn_cl, jf_1_0 hR, jc_of_2 hR]
    exact tk_count hR.tk2 hr hc (by simp only [s119_0, s119_1, s119_44, s119_45, s119_48, s119_51, s119_52, s119_53, s119_56, s119_59, s119_60, s119_61, s119_64, s119_65, s119_68, s119_69, s119_70, s119_73, s119_74, s119_77, s119_78, s119_79, s119_82, s119_85, s119_86, s119_87, s119_90, s119_93, s119_94, s119_95, s119_98, s119_99, s119_100, s119_101, s119_104, Option.some.injEq, exists_eq_left', exists_eq_left, List.cons_append, List.nil_append, List.length_nil, List.length_cons, Nat.reduceAdd, Nat.reduceMul, Nat.reduceSub, Nat.reduceLeDiff, true_and, and_true, ↓reduceIte, not_false_eq_true, not_true_eq_false, nI_add, pk_mul, jn_ltT, jn_ltF, jn_leT, jn_leF, jn_eqT, jn_eqF, jn_lt0, jn_ge0, jn_eq0T, jn_eq0F, jn_in, jn_cl]; exact k)
  · rw [show js_swt 1 98 0 6 [43, 51, 59, 68, 77, 85, 93] (nI 3) = 69 by decide +kernel]
    simp (disch := omega) only [s119_0, s119_1, s119_44, s119_45, s119_48, s119_51, s119_52, s119_53, s119_56, s119_59, s119_60, s119_61, s119_64, s119_65, s119_68, s119_69, s119_70, s119_73, s119_74, s119_77, s119_78, s119_79, s119_82, s119_85, s119_86, s119_87, s119_90, s119_93, s119_94, s119_95, s119_98, s119_99, s119_100, s119_101, s119_104, Option.some.injEq, exists_eq_left', exists_eq_left, List.cons_append, List.nil_append, List.length_nil, List.length_cons, Nat.reduceAdd, Nat.reduceMul, Nat.reduceSub, Nat.reduceLeDiff, true_and, and_true, ↓reduceIte, not_false_eq_true, not_true_eq_false, nI_add, pk_mul, jn_ltT, jn_ltF, jn_leT, jn_leF, jn_eqT, jn_eqF, jn_lt0, jn_ge0, jn_eq0T, jn_eq0F, jn_in, jn_cl, jf_1_0 hR, jc_of_2 hR]
    exact tk_count hR.tk2 hr hc (by simp only [s119_0, s119_1, s119_44, s119_45, s119_48, s119_51, s119_52, s119_53, s119_56, s119_59, s119_60, s119_61, s119_64, s119_65, s119_68, s119_69, s119_70, s119_73, s119_74, s119_77, s119_78, s119_79, s119_82, s119_85, s119_86, s119_87, s119_90, s119_93, s119_94, s119_95, s119_98, s119_99, s119_100, s119_101, s119_104, Option.some.injEq, exists_eq_left', exists_eq_left, List.cons_append, List.nil_append, List.length_nil, List.length_cons, Nat.reduceAdd, Nat.reduceMul, Nat.reduceSub, Nat.reduceLeDiff, true_and, and_true, ↓reduceIte, not_false_eq_true, not_true_eq_false, nI_add, pk_mul, jn_ltT, jn_ltF, jn_leT, jn_leF, jn_eqT, jn_eqF, jn_lt0, jn_ge0, jn_eq0T, jn_eq0F, jn_in, jn_cl]; exact k)
  · rw [show js_swt 1 98 0 6 [43, 51, 59, 68, 77, 85, 93] (nI 4) = 78 by decide +kernel]
    simp (disch := omega) only [s119_0, s119_1, s119_44, s119_45, s119_48, s119_51, s119_52, s119_53, s119_56, s119_59, s119_60, s119_61, s119_64, s119_65, s119_68, s119_69, s119_70, s119_73, s119_74, s119_77, s119_78, s119_79, s119_82, s119_85, s119_86, s119_87, s119_90, s119_93, s119_94, s119_95, s119_98, s119_99, s119_100, s119_101, s119_104, Option.some.injEq, exists_eq_left', exists_eq_left, List.cons_append, List.nil_append, List.length_nil, List.length_cons, Nat.reduceAdd, Nat.reduceMul, Nat.reduceSub, Nat.reduceLeDiff, true_and, and_true, ↓reduceIte, not_false_eq_true, not_true_eq_false, nI_add, pk_mul, jn_ltT, jn_ltF, jn_leT, jn_leF, jn_eqT, jn_eqF, jn_lt0, jn_ge0, jn_eq0T, jn_eq0F, jn_in, jn_cl, jf_1_8 hR, jf_144_3 hR]
    exact k
  · rw [show js_swt 1 98 0 6 [43, 51, 59, 68, 77, 85, 93] (nI 5) = 86 by decide +kernel]
    simp (disch := omega) only [s119_0, s119_1, s119_44, s119_45, s119_48, s119_51, s119_52, s119_53, s119_56, s119_59, s119_60, s119_61, s119_64, s119_65, s119_68, s119_69, s119_70, s119_73, s119_74, s119_77, s119_78, s119_79, s119_82, s119_85, s119_86, s119_87, s119_90, s119_93, s119_94, s119_95, s119_98, s119_99, s119_100, s119_101, s119_104, Option.some.injEq, exists_eq_left', exists_eq_left, List.cons_append, List.nil_append, List.length_nil, List.length_cons, Nat.reduceAdd, Nat.reduceMul, Nat.reduceSub, Nat.reduceLeDiff, true_and, and_true, ↓reduceIte, not_false_eq_true, not_true_eq_false, nI_add, pk_mul, jn_ltT, jn_ltF, jn_leT, jn_leF, jn_eqT, jn_eqF, jn_lt0, jn_ge0, jn_eq0T, jn_eq0F, jn_in, jn_cl, jf_1_7 hR, jf_137_8 hR]
    exact k
  · rw [show js_swt 1 98 0 6 [43, 51, 59, 68, 77, 85, 93] (nI 6) = 94 by decide +kernel]
    simp (disch := omega) only [s119_0, s119_1, s119_44, s119_45, s119_48, s119_51, s119_52, s119_53, s119_56, s119_59, s119_60, s119_61, s119_64, s119_65, s119_68, s119_69, s119_70, s119_73, s119_74, s119_77, s119_78, s119_79, s119_82, s119_85, s119_86, s119_87, s119_90, s119_93, s119_94, s119_95, s119_98, s119_99, s119_100, s119_101, s119_104, Option.some.injEq, exists_eq_left', exists_eq_left, List.cons_append, List.nil_append, List.length_nil, List.length_cons, Nat.reduceAdd, Nat.reduceMul, Nat.reduceSub, Nat.reduceLeDiff, true_and, and_true, ↓reduceIte, not_false_eq_true, not_true_eq_false, nI_add, pk_mul, jn_ltT, jn_ltF, jn_leT, jn_leF, jn_eqT, jn_eqF, jn_lt0, jn_ge0, jn_eq0T, jn_eq0F, jn_in, jn_cl, jf_1_11 hR]
    exact k
end CL29
