/-! ===== the reference: fools ===== -/
section MD23
variable {d : Nat} {F : Nat → Nat → Nat} {A : Nat → Nat → Int32} {G : Nat → Option Nat} {g : Nat → Int64} {h : jxH} {Q : List Value → jxH → Prop}
/-- a number that is a place -/
def jnp (R C : Nat) (x : Int32) : Bool := decide (¬ x < 0) && decide (jbel (x / nI 5) R = true ∧ jbel (x - x / nI 5 * nI 5) C = true)
theorem jnp_p {R C : Nat} {x : Int32} (hr : R ≤ 5) (hc : C ≤ 5) (e : jnp R C x = true) : ∃ p, p < 25 ∧ x = nI p ∧ p / 5 < R ∧ p % 5 < C := by
  unfold jnp at e
  rw [Bool.and_eq_true, decide_eq_true_iff, decide_eq_true_iff] at e
  obtain ⟨e0, e1, e2⟩ := e
  have hx : x = nI x.toNatClampNeg ∧ x.toNatClampNeg < 2147483648 := by
    have t : (0 : Int) ≤ x.toInt := by
      rw [Int32.lt_iff_toInt_lt] at e0
      have : (0 : Int32).toInt = 0 := rfl
      omega
    have t2 := Int32.toInt_lt x
    have t3 : x.toNatClampNeg = x.toInt.toNat := rfl
    refine ⟨?_, by omega⟩
    apply Int32.toInt_inj.mp
    rw [nI_toInt (by omega)]
    omega
  obtain ⟨hx1, hx2⟩ := hx
  generalize x.toNatClampNeg = p at hx1 hx2
  subst hx1
  have d1 : nI p / nI 5 = nI (p / 5) := jn_div hx2 (by omega) (by omega)
  have d2 : nI p - nI p / nI 5 * nI 5 = nI (p % 5) := jn_rem hx2 (by omega) (by omega)
  rw [d2] at e2
  rw [d1] at e1
  obtain ⟨a, ha, ea⟩ := (jbel_iff (by omega)).mp e1
  obtain ⟨b, hb, eb⟩ := (jbel_iff (by omega)).mp e2
  have := (nI_eq (by omega) (by omega)).mp ea
  have := (nI_eq (by omega) (by omega)).mp eb
  exact ⟨p, by omega, rfl, by omega, by omega⟩
/-- all that wait are places -/
def jfoA (R C n : Nat) (num : Nat → Int32) (v : Int32) : Bool := jbel v 2 && jall n fun i => jnp R C (num i)
/-- no two lie together, all are v -/
def jfoB (pl : Nat → Int32) (R C n : Nat) (num : Nat → Int32) (v : Int32) : Bool := jall n fun i => (pl (num i).toNatClampNeg == v) && jall i fun j => !(num j == num i) && !jlie pl R C (num j).toNatClampNeg (num i).toNatClampNeg
theorem md_fools1 (hR : jR F A G g h) (hn : F 149 11 ≤ 120) {v : Int32} (kk : ∀ h1 w4, jR (jup F 149 11 0) A G g h1 → jD h h1 → jx_Go jxP (d + 1) 187 83 [.ref 149, .int v, .int (nI (F 149 11)), .int (nI (jfoA (F 149 0) (F 149 1) (F 149 11) (A 158) v).toNat), w4, jx_u, jx_u] [] h1 Q) : jx_Go jxP (d + 1) 187 0 [.ref 149, .int v, jx_u, jx_u, jx_u, jx_u, jx_u] [] h Q := by
  simp (disch := omega) only [s187_0, s187_1, s187_4, s187_5, s187_6, s187_7, Option.some.injEq, exists_eq_left', exists_eq_left, List.cons_append, List.nil_append, List.length_nil, List.length_cons, Nat.reduceAdd, Nat.reduceMul, Nat.reduceSub, Nat.reduceLeDiff, true_and, and_true, ↓reduceIte, not_false_eq_true, not_true_eq_false, nI_add, pk_mul, jn_ltT, jn_ltF, jn_leT, jn_leF, jn_eqT, jn_eqF, jn_lt0, jn_ge0, jn_eq0T, jn_eq0F, jn_in, jn_cl, jf_149_11 hR]
  have hR1 : jR (jup F 149 11 0) A G g (jx_uf h 149 11 (.int (nI 0))) := hR.uf rfl rfl
  have hD1 : jD h (jx_uf h 149 11 (.int (nI 0))) := jD.rf.uf (by decide)
  generalize jx_uf h 149 11 (.int (nI 0)) = h1 at hR1 hD1 ⊢
  have kk' := fun w4 => kk h1 w4 hR1 hD1
  unfold jfoA at kk'
  generalize F 149 11 = n at *
  have k24 : ∀ u : Bool, u = jbel v 2 → jx_Go jxP (d + 1) 187 24 [.ref 149, .int v, .int (nI n), jx_u, jx_u, jx_u, jx_u] [.int (nI u.toNat)] h1 Q := by
    rintro u rfl
    generalize jbel v 2 = D at kk' ⊢
    simp (disch := omega) only [s187_24, s187_25, s187_26, Option.some.injEq, exists_eq_left', exists_eq_left, List.cons_append, List.nil_append, List.length_nil, List.length_cons, Nat.reduceAdd, Nat.reduceMul, Nat.reduceSub, Nat.reduceLeDiff, true_and, and_true, ↓reduceIte, not_false_eq_true, not_true_eq_false, nI_add, pk_mul, jn_ltT, jn_ltF, jn_leT, jn_leF, jn_eqT, jn_eqF, jn_lt0, jn_ge0, jn_eq0T, jn_eq0F, jn_in, jn_cl]
    refine jloop (fun i => jx_Go jxP (d + 1) 187 28 [.ref 149, .int v, .int (nI n), .int (nI (D && jall i fun i => jnp (F 149 0) (F 149 1) (A 158 i)).toNat), .int (nI i), jx_u, jx_u] [] h1 Q) n ?_ ?_ 0 (Nat.zero_le _) |> fun z => by
      simp only [jall, Bool.and_true] at z
      exact z
    · rw [s187_28]
      simp (disch := omega) only [s187_30, s187_31, Option.some.injEq, exists_eq_left', exists_eq_left, List.cons_append, List.nil_append, List.length_nil, List.length_cons, Nat.reduceAdd, Nat.reduceMul, Nat.reduceSub, Nat.reduceLeDiff, true_and, and_true, ↓reduceIte, not_false_eq_true, not_true_eq_false, nI_add, pk_mul, jn_ltT, jn_ltF, jn_leT, jn_leF, jn_eqT, jn_eqF, jn_lt0, jn_ge0, jn_eq0T, jn_eq0F, jn_in, jn_cl]
      exact kk' _
    · intro i hi ih
      rw [jall_s, ← Bool.and_assoc] at ih
      generalize (D && jall i fun i => jnp (F 149 0) (F 149 1) (A 158 i)) = a at ih ⊢
      have k75 : ∀ u : Bool, u = jnp (F 149 0) (F 149 1) (A 158 i) → jx_Go jxP (d + 1) 187 75 [.ref 149, .int v, .int (nI n), .int (nI a.toNat), .int (nI i), jx_u, jx_u] [.int (nI u.toNat), .int (nI a.toNat)] h1 Q := by
        rintro u rfl
        simp (disch := omega) only [s187_75, s187_76, s187_77, s187_80, Option.some.injEq, exists_eq_left', exists_eq_left, List.cons_append, List.nil_append, List.length_nil, List.length_cons, Nat.reduceAdd, Nat.reduceMul, Nat.reduceSub, Nat.reduceLeDiff, true_and, and_true, ↓reduceIte, not_false_eq_true, not_true_eq_false, nI_add, pk_mul, jn_ltT, jn_ltF, jn_leT, jn_leF, jn_eqT, jn_eqF, jn_lt0, jn_ge0, jn_eq0T, jn_eq0F, jn_in, jn_cl, jb_and]
        exact ih
      rw [s187_28]
      simp (disch := omega) only [s187_30, s187_31, s187_34, s187_35, s187_36, s187_39, s187_41, s187_42, Option.some.injEq, exists_eq_left', exists_eq_left, List.cons_append, List.nil_append, List.length_nil, List.length_cons, Nat.reduceAdd, Nat.reduceMul, Nat.reduceSub, Nat.reduceLeDiff, true_and, and_true, ↓reduceIte, not_false_eq_true, not_true_eq_false, nI_add, pk_mul, jn_ltT, jn_ltF, jn_leT, jn_leF, jn_eqT, jn_eqF, jn_lt0, jn_ge0, jn_eq0T, jn_eq0F, jn_in, jn_cl, jf_149_12 hR1, ja_158 hR1]
      unfold jnp at k75
      by_cases w : A 158 i < 0
      · rw [if_pos w]
        simp (disch := omega) only [s187_74, Option.some.injEq, exists_eq_left', exists_eq_left, List.cons_append, List.nil_append, List.length_nil, List.length_cons, Nat.reduceAdd, Nat.reduceMul, Nat.reduceSub, Nat.reduceLeDiff, true_and, and_true, ↓reduceIte, not_false_eq_true, not_true_eq_false, nI_add, pk_mul, jn_ltT, jn_ltF, jn_leT, jn_leF, jn_eqT, jn_eqF, jn_lt0, jn_ge0, jn_eq0T, jn_eq0F, jn_in, jn_cl]
        exact k75 false (by rw [decide_eq_false (fun z => z w)]; rfl)
      · rw [if_neg w]
        simp (disch := omega) only [s187_45, s187_46, s187_47, s187_50, s187_52, s187_53, s187_54, s187_55, s187_56, s187_59, s187_61, s187_62, s187_63, s187_64, Option.some.injEq, exists_eq_left', exists_eq_left, List.cons_append, List.nil_append, List.length_nil, List.length_cons, Nat.reduceAdd, Nat.reduceMul, Nat.reduceSub, Nat.reduceLeDiff, true_and, and_true, ↓reduceIte, not_false_eq_true, not_true_eq_false, nI_add, pk_mul, jn_ltT, jn_ltF, jn_leT, jn_leF, jn_eqT, jn_eqF, jn_lt0, jn_ge0, jn_eq0T, jn_eq0F, jn_in, jn_cl, jf_149_12 hR1, ja_158 hR1, jc_of_149 hR1, show (nI 5 = 0) = False from by decide]
        rw [md_isPlace hR1]
        by_cases z : jbel (A 158 i / nI 5) (F 149 0) = true ∧ jbel (A 158 i - A 158 i / nI 5 * nI 5) (F 149 1) = true
        · rw [if_pos (show jbel (A 158 i / nI 5) (jup F 149 11 0 149 0) = true ∧ jbel (A 158 i - A 158 i / nI 5 * nI 5) (jup F 149 11 0 149 1) = true from z)]
          simp (disch := omega) only [s187_67, s187_70, s187_71, Option.some.injEq, exists_eq_left', exists_eq_left, List.cons_append, List.nil_append, List.length_nil, List.length_cons, Nat.reduceAdd, Nat.reduceMul, Nat.reduceSub, Nat.reduceLeDiff, true_and, and_true, ↓reduceIte, not_false_eq_true, not_true_eq_false, nI_add, pk_mul, jn_ltT, jn_ltF, jn_leT, jn_leF, jn_eqT, jn_eqF, jn_lt0, jn_ge0, jn_eq0T, jn_eq0F, jn_in, jn_cl]
          exact k75 true (by rw [decide_eq_true w, decide_eq_true z]; rfl)
        · rw [if_neg (show ¬ (jbel (A 158 i / nI 5) (jup F 149 11 0 149 0) = true ∧ jbel (A 158 i - A 158 i / nI 5 * nI 5) (jup F 149 11 0 149 1) = true) from z)]
          simp (disch := omega) only [s187_67, s187_74, Option.some.injEq, exists_eq_left', exists_eq_left, List.cons_append, List.nil_append, List.length_nil, List.length_cons, Nat.reduceAdd, Nat.reduceMul, Nat.reduceSub, Nat.reduceLeDiff, true_and, and_true, ↓reduceIte, not_false_eq_true, not_true_eq_false, nI_add, pk_mul, jn_ltT, jn_ltF, jn_leT, jn_leF, jn_eqT, jn_eqF, jn_lt0, jn_ge0, jn_eq0T, jn_eq0F, jn_in, jn_cl]
          exact k75 false (by rw [decide_eq_true w, decide_eq_false z]; rfl)
  have b01 : ∀ j, v = nI j → j < 2 → jbel v 2 = true := fun j e hj => by rw [e]; exact jbel_n hj (by omega)
  simp (disch := omega) only [s187_10, s187_11, Option.some.injEq, exists_eq_left', exists_eq_left, List.cons_append, List.nil_append, List.length_nil, List.length_cons, Nat.reduceAdd, Nat.reduceMul, Nat.reduceSub, Nat.reduceLeDiff, true_and, and_true, ↓reduceIte, not_false_eq_true, not_true_eq_false, nI_add, pk_mul, jn_ltT, jn_ltF, jn_leT, jn_leF, jn_eqT, jn_eqF, jn_lt0, jn_ge0, jn_eq0T, jn_eq0F, jn_in, jn_cl]
  by_cases w : v = 0
  · rw [if_pos w]
    simp (disch := omega) only [s187_19, s187_20, Option.some.injEq, exists_eq_left', exists_eq_left, List.cons_append, List.nil_append, List.length_nil, List.length_cons, Nat.reduceAdd, Nat.reduceMul, Nat.reduceSub, Nat.reduceLeDiff, true_and, and_true, ↓reduceIte, not_false_eq_true, not_true_eq_false, nI_add, pk_mul, jn_ltT, jn_ltF, jn_leT, jn_leF, jn_eqT, jn_eqF, jn_lt0, jn_ge0, jn_eq0T, jn_eq0F, jn_in, jn_cl]
    exact k24 true (b01 0 (by rw [w]; rfl) (by omega)).symm
  · rw [if_neg w]
    simp (disch := omega) only [s187_14, s187_15, s187_16, Option.some.injEq, exists_eq_left', exists_eq_left, List.cons_append, List.nil_append, List.length_nil, List.length_cons, Nat.reduceAdd, Nat.reduceMul, Nat.reduceSub, Nat.reduceLeDiff, true_and, and_true, ↓reduceIte, not_false_eq_true, not_true_eq_false, nI_add, pk_mul, jn_ltT, jn_ltF, jn_leT, jn_leF, jn_eqT, jn_eqF, jn_lt0, jn_ge0, jn_eq0T, jn_eq0F, jn_in, jn_cl]
    by_cases w2 : v = nI 1
    · rw [if_pos w2]
      simp (disch := omega) only [s187_19, s187_20, Option.some.injEq, exists_eq_left', exists_eq_left, List.cons_append, List.nil_append, List.length_nil, List.length_cons, Nat.reduceAdd, Nat.reduceMul, Nat.reduceSub, Nat.reduceLeDiff, true_and, and_true, ↓reduceIte, not_false_eq_true, not_true_eq_false, nI_add, pk_mul, jn_ltT, jn_ltF, jn_leT, jn_leF, jn_eqT, jn_eqF, jn_lt0, jn_ge0, jn_eq0T, jn_eq0F, jn_in, jn_cl]
      exact k24 true (b01 1 w2 (by omega)).symm
    · rw [if_neg w2]
      simp (disch := omega) only [s187_23, Option.some.injEq, exists_eq_left', exists_eq_left, List.cons_append, List.nil_append, List.length_nil, List.length_cons, Nat.reduceAdd, Nat.reduceMul, Nat.reduceSub, Nat.reduceLeDiff, true_and, and_true, ↓reduceIte, not_false_eq_true, not_true_eq_false, nI_add, pk_mul, jn_ltT, jn_ltF, jn_leT, jn_leF, jn_eqT, jn_eqF, jn_lt0, jn_ge0, jn_eq0T, jn_eq0F, jn_in, jn_cl]
      refine k24 false ?_
      symm
      rw [Bool.eq_false_iff]
      intro z
      obtain ⟨j, hj, e⟩ := (jbel_iff (by omega)).mp z
      rcases (show j = 0 ∨ j = 1 by omega) with rfl | rfl
      · exact w (by rw [e]; rfl)
      · exact w2 e
theorem md_fools_f (hR : jR F A G g h) (hn : F 149 11 ≤ 120) {v : Int32} (e : ¬ jfoA (F 149 0) (F 149 1) (F 149 11) (A 158) v = true) (k : ∀ h', jR (jup (jup F 149 11 0) 149 13 (F 149 13 + 1)) A G g h' → jD h h' → Q [.int (-1)] h') : jx_Go jxP (d + 1) 187 0 [.ref 149, .int v, jx_u, jx_u, jx_u, jx_u, jx_u] [] h Q := by
  refine md_fools1 hR hn (fun h1 w4 hR1 hD1 => ?_)
  rw [Bool.eq_false_iff.mpr e]
  simp (disch := omega) only [s187_83, s187_84, s187_87, s187_88, s187_89, Option.some.injEq, exists_eq_left', exists_eq_left, List.cons_append, List.nil_append, List.length_nil, List.length_cons, Nat.reduceAdd, Nat.reduceMul, Nat.reduceSub, Nat.reduceLeDiff, true_and, and_true, ↓reduceIte, not_false_eq_true, not_true_eq_false, nI_add, pk_mul, jn_ltT, jn_ltF, jn_leT, jn_leF, jn_eqT, jn_eqF, jn_lt0, jn_ge0, jn_eq0T, jn_eq0F, jn_in, jn_cl, jc_of_149 hR1, Bool.toNat_false]
  exact md_finding hR1 (fun h' hR' hD' => by simp only [s187_92, Option.some.injEq, exists_eq_left', exists_eq_left, List.cons_append, List.nil_append, List.length_nil, List.length_cons, Nat.reduceAdd, Nat.reduceMul, Nat.reduceSub, Nat.reduceLeDiff, true_and, and_true, ↓reduceIte, not_false_eq_true, not_true_eq_false, nI_add, pk_mul, jn_ltT, jn_ltF, jn_leT, jn_leF, jn_eqT, jn_eqF, jn_lt0, jn_ge0, jn_eq0T, jn_eq0F, jn_in, jn_cl]; exact k h' hR' (hD1.tr hD'))
theorem md_fools_t (hR : jR F A G g h) (hn : F 149 11 ≤ 120) (hr : F 149 0 ≤ 5) (hc : F 149 1 ≤ 5) (hv : jV (A 150) (F 149 0) (F 149 1)) {v : Int32} (e : jfoA (F 149 0) (F 149 1) (F 149 11) (A 158) v = true) (k : ∀ h', jR (jup F 149 11 0) A G g h' → jD h h' → Q [.int (nI (jfoB (A 150) (F 149 0) (F 149 1) (F 149 11) (A 158) v).toNat)] h') : jx_Go jxP (d + 4) 187 0 [.ref 149, .int v, jx_u, jx_u, jx_u, jx_u, jx_u] [] h Q := by
  refine md_fools1 hR hn (fun h1 w4 hR1 hD1 => ?_)
  rw [e]
  have kk := k h1 hR1 hD1
  unfold jfoA at e
  rw [Bool.and_eq_true, jall_iff] at e
  have hp := fun i hi => jnp_p hr hc (e.2 i hi)
  unfold jfoB at kk
  generalize F 149 11 = n at *
  simp (disch := omega) only [s187_83, s187_84, s187_87, s187_88, s187_89, s187_92, s187_93, s187_94, s187_96, s187_97, Option.some.injEq, exists_eq_left', exists_eq_left, List.cons_append, List.nil_append, List.length_nil, List.length_cons, Nat.reduceAdd, Nat.reduceMul, Nat.reduceSub, Nat.reduceLeDiff, true_and, and_true, ↓reduceIte, not_false_eq_true, not_true_eq_false, nI_add, pk_mul, jn_ltT, jn_ltF, jn_leT, jn_leF, jn_eqT, jn_eqF, jn_lt0, jn_ge0, jn_eq0T, jn_eq0F, jn_in, jn_cl, Bool.toNat_true]
  refine jloop (fun i => ∀ w6, jx_Go jxP (d + 4) 187 99 [.ref 149, .int v, .int (nI n), .int (nI 1), .int (nI (jall i fun i => (A 150 (A 158 i).toNatClampNeg == v) && jall i fun j => !(A 158 j == A 158 i) && !jlie (A 150) (F 149 0) (F 149 1) (A 158 j).toNatClampNeg (A 158 i).toNatClampNeg).toNat), .int (nI i), w6] [] h1 Q) n ?_ ?_ 0 (Nat.zero_le _) _
  · intro w6
    generalize (jall n fun i => (A 150 (A 158 i).toNatClampNeg == v) && jall i fun j => !(A 158 j == A 158 i) && !jlie (A 150) (F 149 0) (F 149 1) (A 158 j).toNatClampNeg (A 158 i).toNatClampNeg) = u at kk ⊢
    rw [s187_99]
    cases u with
    | false =>
      simp (disch := omega) only [s187_101, s187_102, s187_201, s187_203, s187_206, s187_207, s187_210, s187_211, Option.some.injEq, exists_eq_left', exists_eq_left, List.cons_append, List.nil_append, List.length_nil, List.length_cons, Nat.reduceAdd, Nat.reduceMul, Nat.reduceSub, Nat.reduceLeDiff, true_and, and_true, ↓reduceIte, not_false_eq_true, not_true_eq_false, nI_add, pk_mul, jn_ltT, jn_ltF, jn_leT, jn_leF, jn_eqT, jn_eqF, jn_lt0, jn_ge0, jn_eq0T, jn_eq0F, jn_in, jn_cl, Bool.toNat_false]
      exact kk
    | true =>
      simp (disch := omega) only [s187_101, s187_102, s187_201, s187_203, s187_206, s187_207, s187_210, s187_211, Option.some.injEq, exists_eq_left', exists_eq_left, List.cons_append, List.nil_append, List.length_nil, List.length_cons, Nat.reduceAdd, Nat.reduceMul, Nat.reduceSub, Nat.reduceLeDiff, true_and, and_true, ↓reduceIte, not_false_eq_true, not_true_eq_false, nI_add, pk_mul, jn_ltT, jn_ltF, jn_leT, jn_leF, jn_eqT, jn_eqF, jn_lt0, jn_ge0, jn_eq0T, jn_eq0F, jn_in, jn_cl, Bool.toNat_true]
      exact kk
  · intro i hi ih w6
    rw [jall_s] at ih
    generalize (jall i fun i => (A 150 (A 158 i).toNatClampNeg == v) && jall i fun j => !(A 158 j == A 158 i) && !jlie (A 150) (F 149 0) (F 149 1) (A 158 j).toNatClampNeg (A 158 i).toNatClampNeg) = a at ih ⊢
    obtain ⟨p, hp25, ep, _, _⟩ := hp i hi
    rw [ep, nI_clamp (by omega)] at ih
    rw [s187_99]
    have k128 : ∀ u : Bool, u = (A 150 p == v) → jx_Go jxP (d + 4) 187 128 [.ref 149, .int v, .int (nI n), .int (nI 1), .int (nI a.toNat), .int (nI i), w6] [.int (nI u.toNat), .int (nI a.toNat)] h1 Q := by
      rintro u rfl
      rw [← Bool.and_assoc] at ih
      simp (disch := omega) only [s187_128, s187_129, s187_131, s187_132, Option.some.injEq, exists_eq_left', exists_eq_left, List.cons_append, List.nil_append, List.length_nil, List.length_cons, Nat.reduceAdd, Nat.reduceMul, Nat.reduceSub, Nat.reduceLeDiff, true_and, and_true, ↓reduceIte, not_false_eq_true, not_true_eq_false, nI_add, pk_mul, jn_ltT, jn_ltF, jn_leT, jn_leF, jn_eqT, jn_eqF, jn_lt0, jn_ge0, jn_eq0T, jn_eq0F, jn_in, jn_cl, jb_and]
      generalize (a && A 150 p == v) = b at ih ⊢
      refine jloop (fun j => jx_Go jxP (d + 4) 187 134 [.ref 149, .int v, .int (nI n), .int (nI 1), .int (nI (b && jall j fun j => !(A 158 j == nI p) && !jlie (A 150) (F 149 0) (F 149 1) (A 158 j).toNatClampNeg p).toNat), .int (nI i), .int (nI j)] [] h1 Q) i ?_ ?_ 0 (Nat.zero_le _) |> fun z => by
        simp only [jall, Bool.and_true] at z
        exact z
      · rw [s187_134]
        simp (disch := omega) only [s187_136, s187_138, s187_195, s187_198, Option.some.injEq, exists_eq_left', exists_eq_left, List.cons_append, List.nil_append, List.length_nil, List.length_cons, Nat.reduceAdd, Nat.reduceMul, Nat.reduceSub, Nat.reduceLeDiff, true_and, and_true, ↓reduceIte, not_false_eq_true, not_true_eq_false, nI_add, pk_mul, jn_ltT, jn_ltF, jn_leT, jn_leF, jn_eqT, jn_eqF, jn_lt0, jn_ge0, jn_eq0T, jn_eq0F, jn_in, jn_cl]
        exact ih _
      · intro j hj ih2
        rw [jall_s, ← Bool.and_assoc] at ih2
        generalize (b && jall j fun j => !(A 158 j == nI p) && !jlie (A 150) (F 149 0) (F 149 1) (A 158 j).toNatClampNeg p) = c at ih2 ⊢
        obtain ⟨q, hq25, eq, _, _⟩ := hp j (by omega)
        rw [eq, nI_clamp (by omega)] at ih2
        have k186 : ∀ u : Bool, u = (!(nI q == nI p) && !jlie (A 150) (F 149 0) (F 149 1) q p) → jx_Go jxP (d + 4) 187 186 [.ref 149, .int v, .int (nI n), .int (nI 1), .int (nI c.toNat), .int (nI i), .int (nI j)] [.int (nI u.toNat), .int (nI c.toNat)] h1 Q := by
          rintro u rfl
          simp (disch := omega) only [s187_186, s187_187, s187_189, s187_192, Option.some.injEq, exists_eq_left', exists_eq_left, List.cons_append, List.nil_append, List.length_nil, List.length_cons, Nat.reduceAdd, Nat.reduceMul, Nat.reduceSub, Nat.reduceLeDiff, true_and, and_true, ↓reduceIte, not_false_eq_true, not_true_eq_false, nI_add, pk_mul, jn_ltT, jn_ltF, jn_leT, jn_leF, jn_eqT, jn_eqF, jn_lt0, jn_ge0, jn_eq0T, jn_eq0F, jn_in, jn_cl, jb_and]
          exact ih2
        rw [s187_134]
        by_cases w : q = p
        · simp (disch := omega) only [s187_136, s187_138, s187_141, s187_143, s187_144, s187_147, s187_149, s187_150, s187_151, s187_154, s187_156, s187_157, s187_185, Option.some.injEq, exists_eq_left', exists_eq_left, List.cons_append, List.nil_append, List.length_nil, List.length_cons, Nat.reduceAdd, Nat.reduceMul, Nat.reduceSub, Nat.reduceLeDiff, true_and, and_true, ↓reduceIte, not_false_eq_true, not_true_eq_false, nI_add, pk_mul, jn_ltT, jn_ltF, jn_leT, jn_leF, jn_eqT, jn_eqF, jn_lt0, jn_ge0, jn_eq0T, jn_eq0F, jn_in, jn_cl, jf_149_12 hR1, ja_158 hR1, ep, eq]
          exact k186 false (by rw [w, beq_self_eq_true]; rfl)
        · simp (disch := omega) only [s187_136, s187_138, s187_141, s187_143, s187_144, s187_147, s187_149, s187_150, s187_151, s187_154, s187_156, s187_157, s187_160, s187_161, s187_162, s187_165, s187_167, s187_168, s187_169, s187_172, s187_174, s187_175, Option.some.injEq, exists_eq_left', exists_eq_left, List.cons_append, List.nil_append, List.length_nil, List.length_cons, Nat.reduceAdd, Nat.reduceMul, Nat.reduceSub, Nat.reduceLeDiff, true_and, and_true, ↓reduceIte, not_false_eq_true, not_true_eq_false, nI_add, pk_mul, jn_ltT, jn_ltF, jn_leT, jn_leF, jn_eqT, jn_eqF, jn_lt0, jn_ge0, jn_eq0T, jn_eq0F, jn_in, jn_cl, jf_149_12 hR1, ja_158 hR1, jc_of_149 hR1, ep, eq]
          refine md_lieTogether hR1 hr hc hv hq25 hp25 ?_
          have ne : (nI q == nI p) = false := beq_eq_false_iff_ne.mpr (fun z => w ((nI_eq (by omega) (by omega)).mp z))
          rw [ne] at k186
          show jx_Go jxP _ _ _ _ _ _ _
          cases hy : jlie (A 150) (F 149 0) (F 149 1) q p with
          | false =>
            rw [hy] at k186
            rw [show jlie (A 150) (jup F 149 11 0 149 0) (jup F 149 11 0 149 1) q p = false from hy]
            simp (disch := omega) only [s187_178, s187_181, s187_182, Option.some.injEq, exists_eq_left', exists_eq_left, List.cons_append, List.nil_append, List.length_nil, List.length_cons, Nat.reduceAdd, Nat.reduceMul, Nat.reduceSub, Nat.reduceLeDiff, true_and, and_true, ↓reduceIte, not_false_eq_true, not_true_eq_false, nI_add, pk_mul, jn_ltT, jn_ltF, jn_leT, jn_leF, jn_eqT, jn_eqF, jn_lt0, jn_ge0, jn_eq0T, jn_eq0F, jn_in, jn_cl, Bool.toNat_false]
            exact k186 true rfl
          | true =>
            rw [hy] at k186
            rw [show jlie (A 150) (jup F 149 11 0 149 0) (jup F 149 11 0 149 1) q p = true from hy]
            simp (disch := omega) only [s187_178, s187_185, Option.some.injEq, exists_eq_left', exists_eq_left, List.cons_append, List.nil_append, List.length_nil, List.length_cons, Nat.reduceAdd, Nat.reduceMul, Nat.reduceSub, Nat.reduceLeDiff, true_and, and_true, ↓reduceIte, not_false_eq_true, not_true_eq_false, nI_add, pk_mul, jn_ltT, jn_ltF, jn_leT, jn_leF, jn_eqT, jn_eqF, jn_lt0, jn_ge0, jn_eq0T, jn_eq0F, jn_in, jn_cl, Bool.toNat_true]
            exact k186 false rfl
    simp (disch := omega) only [s187_101, s187_102, s187_105, s187_107, s187_108, s187_111, s187_112, s187_115, s187_117, s187_118, s187_119, Option.some.injEq, exists_eq_left', exists_eq_left, List.cons_append, List.nil_append, List.length_nil, List.length_cons, Nat.reduceAdd, Nat.reduceMul, Nat.reduceSub, Nat.reduceLeDiff, true_and, and_true, ↓reduceIte, not_false_eq_true, not_true_eq_false, nI_add, pk_mul, jn_ltT, jn_ltF, jn_leT, jn_leF, jn_eqT, jn_eqF, jn_lt0, jn_ge0, jn_eq0T, jn_eq0F, jn_in, jn_cl, jf_149_2 hR1, jf_149_12 hR1, ja_150 hR1, ja_158 hR1, ep]
    by_cases w : A 150 p = v
    · simp (disch := omega) only [s187_120, s187_123, s187_124, Option.some.injEq, exists_eq_left', exists_eq_left, List.cons_append, List.nil_append, List.length_nil, List.length_cons, Nat.reduceAdd, Nat.reduceMul, Nat.reduceSub, Nat.reduceLeDiff, true_and, and_true, ↓reduceIte, not_false_eq_true, not_true_eq_false, nI_add, pk_mul, jn_ltT, jn_ltF, jn_leT, jn_leF, jn_eqT, jn_eqF, jn_lt0, jn_ge0, jn_eq0T, jn_eq0F, jn_in, jn_cl, w]
      exact k128 true (by rw [w]; exact (beq_self_eq_true _).symm)
    · simp (disch := omega) only [s187_120, s187_127, Option.some.injEq, exists_eq_left', exists_eq_left, List.cons_append, List.nil_append, List.length_nil, List.length_cons, Nat.reduceAdd, Nat.reduceMul, Nat.reduceSub, Nat.reduceLeDiff, true_and, and_true, ↓reduceIte, not_false_eq_true, not_true_eq_false, nI_add, pk_mul, jn_ltT, jn_ltF, jn_leT, jn_leF, jn_eqT, jn_eqF, jn_lt0, jn_ge0, jn_eq0T, jn_eq0F, jn_in, jn_cl, w]
      exact k128 false (by rw [eq_comm, beq_eq_false_iff_ne]; exact w)
end MD23
