/-! ===== the class: marks ===== -/
section CL5
variable {d : Nat} {F : Nat → Nat → Nat} {A : Nat → Nat → Int32} {G : Nat → Option Nat} {g : Nat → Int64} {h : jxH} {Q : List Value → jxH → Prop}
/-- the columns in which one of the rows x has a u -/
def jmo (v : Nat → Int32) (R C x : Nat) (u : Int32) : Nat := jmk C fun c => jany R fun r => x.testBit r && v (5 * r + c) == u
theorem jmo_bit {v : Nat → Int32} {R C x i : Nat} {u : Int32} : (jmo v R C x u).testBit i = true ↔ i < C ∧ ∃ r, r < R ∧ x.testBit r = true ∧ v (5 * r + i) = u := by
  unfold jmo
  rw [jmk_bit, Bool.and_eq_true, decide_eq_true_iff, jany_iff]
  refine and_congr Iff.rfl (exists_congr fun r => ?_)
  rw [Bool.and_eq_true, beq_iff_eq]
theorem jmo_lt {v : Nat → Int32} {R C x : Nat} {u : Int32} (hc : C ≤ 5) : jmo v R C x u < 32 := Nat.lt_of_lt_of_le (jmk_lt C) (jp2 _ hc).2
theorem jmo_or {v : Nat → Int32} {R C x y w : Nat} {u : Int32} (e : ∀ r, r < R → x.testBit r = (y.testBit r || w.testBit r)) : jmo v R C y u ||| jmo v R C w u = jmo v R C x u := by
  apply Nat.eq_of_testBit_eq
  intro i
  rw [Nat.testBit_or]
  apply Bool.eq_iff_iff.mpr
  rw [Bool.or_eq_true, jmo_bit, jmo_bit, jmo_bit]
  constructor
  · rintro (⟨h1, r, h2, h3, h4⟩ | ⟨h1, r, h2, h3, h4⟩)
    · exact ⟨h1, r, h2, by rw [e r h2, h3]; rfl, h4⟩
    · exact ⟨h1, r, h2, by rw [e r h2, h3, Bool.or_true], h4⟩
  · rintro ⟨h1, r, h2, h3, h4⟩
    rw [e r h2, Bool.or_eq_true] at h3
    rcases h3 with h3 | h3
    · exact Or.inl ⟨h1, r, h2, h3, h4⟩
    · exact Or.inr ⟨h1, r, h2, h3, h4⟩
theorem jmo_hz {v : Nat → Int32} {R C x y : Nat} {u : Int32} (hy : y < 32) : (jmo v R C x u &&& y = 0) = (jhz v R C (32 * x + y) u = false) := by
  apply propext
  rw [jand_0, Bool.eq_false_iff]
  unfold Ne
  rw [jhz_iff, show (32 * x + y) / 32 = x by omega, show (32 * x + y) % 32 = y by omega]
  constructor
  · rintro w ⟨r, c, h1, h2, h3, h4, h5⟩
    have := w c (jmo_bit.mpr ⟨h2, r, h1, h3, h5⟩)
    rw [h4] at this
    cases this
  · intro w i hi
    obtain ⟨h1, r, h2, h3, h4⟩ := jmo_bit.mp hi
    cases q : y.testBit i with
    | false => rfl
    | true => exact absurd ⟨r, i, h2, h1, h3, q, h4⟩ w
/-- the marks are those of the places v -/
def jMk (F : Nat → Nat → Nat) (A : Nat → Nat → Int32) (v : Nat → Int32) (R C : Nat) : Prop := F 99 0 = 2 ^ R - 1 ∧ F 99 1 = 2 ^ C - 1 ∧ ∀ x, 1 ≤ x → x < 2 ^ R → A 100 x = nI (jmo v R C x (nI 1)) ∧ A 101 x = nI (jmo v R C x (nI 0))
theorem ma_isEven (hR : jR F A G g h) {v : Nat → Int32} {R C : Nat} (hM : jMk F A v R C) (hr : R ≤ 5) (hc : C ≤ 5) {x y : Nat} (h1 : 1 ≤ x) (h2 : x < 2 ^ R) (h3 : y < 32) : jx_Go jxP d 31 0 [.ref 99, .int (nI x), .int (nI y)] [] h Q ↔ Q [.int (nI (jev v R C (32 * x + y)).toNat)] h := by
  have p1 := jp2 _ hr
  obtain ⟨m1, m2⟩ := hM.2.2 x h1 h2
  have l1 := jmo_lt (v := v) (R := R) (x := x) (u := nI 1) hc
  have l0 := jmo_lt (v := v) (R := R) (x := x) (u := nI 0) hc
  have a1 : jmo v R C x (nI 1) &&& y < 32 := Nat.lt_of_le_of_lt Nat.and_le_left l1
  have a0 : jmo v R C x (nI 0) &&& y < 32 := Nat.lt_of_le_of_lt Nat.and_le_left l0
  have z1 : (nI (jmo v R C x (nI 1) &&& y) = 0) = (jhz v R C (32 * x + y) (nI 1) = false) := by
    rw [← jmo_hz h3, show (0 : Int32) = nI 0 from rfl, jn_eq (by omega) (by omega)]
  have z0 : (nI (jmo v R C x (nI 0) &&& y) = 0) = (jhz v R C (32 * x + y) (nI 0) = false) := by
    rw [← jmo_hz h3, show (0 : Int32) = nI 0 from rfl, jn_eq (by omega) (by omega)]
  have he : jev v R C (32 * x + y) = !(jhz v R C (32 * x + y) (nI 0) && jhz v R C (32 * x + y) (nI 1)) := by
    apply Bool.eq_iff_iff.mpr
    rw [jev_iff]
    cases jhz v R C (32 * x + y) (nI 0) <;> cases jhz v R C (32 * x + y) (nI 1) <;> decide
  rw [he]
  cases q1 : jhz v R C (32 * x + y) (nI 1) with
  | false =>
    have z1' := z1.trans (eq_true q1)
    simp (disch := omega) only [s31_0, s31_1, s31_4, s31_5, s31_6, s31_7, s31_8, s31_11, s31_12, s31_15, s31_16, s31_17, s31_18, s31_19, s31_22, s31_23, s31_26, s31_27b0, s31_27b1, Option.some.injEq, exists_eq_left', exists_eq_left, List.cons_append, List.nil_append, List.length_nil, List.length_cons, Nat.reduceAdd, Nat.reduceMul, Nat.reduceSub, Nat.reduceLeDiff, true_and, and_true, ↓reduceIte, not_false_eq_true, not_true_eq_false, nI_add, pk_mul, jn_ltT, jn_ltF, jn_leT, jn_leF, jn_eqT, jn_eqF, jn_lt0, jn_ge0, jn_eq0T, jn_eq0F, jn_in, jn_cl, jf_99_2 hR, jf_99_3 hR, ja_100 hR, ja_101 hR, m1, m2, jn_and, z1', Bool.and_false]
    exact Iff.rfl
  | true =>
    have z1' := z1.trans (eq_false (by rw [q1]; decide))
    cases q0 : jhz v R C (32 * x + y) (nI 0) with
    | false =>
      have z0' := z0.trans (eq_true q0)
      simp (disch := omega) only [s31_0, s31_1, s31_4, s31_5, s31_6, s31_7, s31_8, s31_11, s31_12, s31_15, s31_16, s31_17, s31_18, s31_19, s31_22, s31_23, s31_26, s31_27b0, s31_27b1, Option.some.injEq, exists_eq_left', exists_eq_left, List.cons_append, List.nil_append, List.length_nil, List.length_cons, Nat.reduceAdd, Nat.reduceMul, Nat.reduceSub, Nat.reduceLeDiff, true_and, and_true, ↓reduceIte, not_false_eq_true, not_true_eq_false, nI_add, pk_mul, jn_ltT, jn_ltF, jn_leT, jn_leF, jn_eqT, jn_eqF, jn_lt0, jn_ge0, jn_eq0T, jn_eq0F, jn_in, jn_cl, jf_99_2 hR, jf_99_3 hR, ja_100 hR, ja_101 hR, m1, m2, jn_and, z1', z0']
      exact Iff.rfl
    | true =>
      have z0' := z0.trans (eq_false (by rw [q0]; decide))
      simp (disch := omega) only [s31_0, s31_1, s31_4, s31_5, s31_6, s31_7, s31_8, s31_11, s31_12, s31_15, s31_16, s31_17, s31_18, s31_19, s31_22, s31_23, s31_26, s31_27b0, s31_27b1, Option.some.injEq, exists_eq_left', exists_eq_left, List.cons_append, List.nil_append, List.length_nil, List.length_cons, Nat.reduceAdd, Nat.reduceMul, Nat.reduceSub, Nat.reduceLeDiff, true_and, and_true, ↓reduceIte, not_false_eq_true, not_true_eq_false, nI_add, pk_mul, jn_ltT, jn_ltF, jn_leT, jn_leF, jn_eqT, jn_eqF, jn_lt0, jn_ge0, jn_eq0T, jn_eq0F, jn_in, jn_cl, jf_99_2 hR, jf_99_3 hR, ja_100 hR, ja_101 hR, m1, m2, jn_and, z1', z0']
      exact Iff.rfl
theorem ma_columnsWith (hR : jR F A G g h) {v : Nat → Int32} {R C : Nat} (hM : jMk F A v R C) (hr : R ≤ 5) {x b : Nat} (hb : b ≤ 1) (h1 : 1 ≤ x) (h2 : x < 2 ^ R) : jx_Go jxP d 32 0 [.ref 99, .int (nI b), .int (nI x)] [] h Q ↔ Q [.int (nI (jmo v R C x (nI b)))] h := by
  have p1 := jp2 _ hr
  obtain ⟨m1, m2⟩ := hM.2.2 x h1 h2
  rcases (show b = 0 ∨ b = 1 by omega) with e | e
  · subst e
    simp (disch := omega) only [s32_0, s32_1, s32_2, s32_5, s32_6, s32_9, s32_10, s32_11, s32_14, s32_15, s32_18, s32_19, s32_20, Option.some.injEq, exists_eq_left', exists_eq_left, List.cons_append, List.nil_append, List.length_nil, List.length_cons, Nat.reduceAdd, Nat.reduceMul, Nat.reduceSub, Nat.reduceLeDiff, true_and, and_true, ↓reduceIte, not_false_eq_true, not_true_eq_false, nI_add, pk_mul, jn_ltT, jn_ltF, jn_leT, jn_leF, jn_eqT, jn_eqF, jn_lt0, jn_ge0, jn_eq0T, jn_eq0F, jn_in, jn_cl, jf_99_2 hR, jf_99_3 hR, ja_100 hR, ja_101 hR, m1, m2]
  · subst e
    simp (disch := omega) only [s32_0, s32_1, s32_2, s32_5, s32_6, s32_9, s32_10, s32_11, s32_14, s32_15, s32_18, s32_19, s32_20, Option.some.injEq, exists_eq_left', exists_eq_left, List.cons_append, List.nil_append, List.length_nil, List.length_cons, Nat.reduceAdd, Nat.reduceMul, Nat.reduceSub, Nat.reduceLeDiff, true_and, and_true, ↓reduceIte, not_false_eq_true, not_true_eq_false, nI_add, pk_mul, jn_ltT, jn_ltF, jn_leT, jn_leF, jn_eqT, jn_eqF, jn_lt0, jn_ge0, jn_eq0T, jn_eq0F, jn_in, jn_cl, jf_99_2 hR, jf_99_3 hR, ja_100 hR, ja_101 hR, m1, m2]
theorem jor_p : ∀ R, R < 6 → ∀ i, i < R → ∀ j, j < R → 1 ≤ (2 ^ i ||| 2 ^ j) ∧ (2 ^ i ||| 2 ^ j) < 2 ^ R := by decide +kernel
theorem ma_areInOneEvenBlock (hR : jR F A G g h) {v : Nat → Int32} {R C : Nat} (hM : jMk F A v R C) (hr : R ≤ 5) (hc : C ≤ 5) {p q : Nat} (hp : p / 5 < R) (hq : q / 5 < R) : jx_Go jxP (d + 1) 33 0 [.ref 99, .int (nI p), .int (nI q), jx_u, jx_u] [] h Q ↔ Q [.int (nI (jlie v R C p q).toNat)] h := by
  obtain ⟨o1, o2⟩ := jor_p R (by omega) _ hp _ hq
  have o3 := (jor_p 5 (by omega) (p % 5) (by omega) (q % 5) (by omega)).2
  have d1 : nI p / nI 5 = nI (p / 5) := jn_div (by omega) (by omega) (by omega)
  have d2 : nI p - nI p / nI 5 * nI 5 = nI (p % 5) := jn_rem (by omega) (by omega) (by omega)
  have d3 : nI q / nI 5 = nI (q / 5) := jn_div (by omega) (by omega) (by omega)
  have d4 : nI q - nI q / nI 5 * nI 5 = nI (q % 5) := jn_rem (by omega) (by omega) (by omega)
  have ev : ∀ (d : Nat) (Q : List Value → jxH → Prop), jx_Go jxP d 31 0 [.ref 99, .int (nI (2 ^ (p / 5) ||| 2 ^ (q / 5))), .int (nI (2 ^ (p % 5) ||| 2 ^ (q % 5)))] [] h Q ↔ Q [.int (nI (jlie v R C p q).toNat)] h := fun d Q => ma_isEven hR hM hr hc o1 o2 o3
  have b5 : ¬ nI 5 = 0 := by decide
  rw [s33_0, s33_1, s33_2, s33_3, d1]
  simp (disch := omega) only [s33_4, s33_5, s33_6, s33_7, s33_8, s33_9, s33_10, s33_11, s33_12, s33_13, s33_14, Option.some.injEq, exists_eq_left', exists_eq_left, List.cons_append, List.nil_append, List.length_nil, List.length_cons, Nat.reduceAdd, Nat.reduceMul, Nat.reduceSub, Nat.reduceLeDiff, true_and, and_true, ↓reduceIte, not_false_eq_true, not_true_eq_false, nI_add, pk_mul, jn_ltT, jn_ltF, jn_leT, jn_leF, jn_eqT, jn_eqF, jn_lt0, jn_ge0, jn_eq0T, jn_eq0F, jn_in, jn_cl, d3, jsh1, jn_or]
  rw [s33_15, d2]
  simp (disch := omega) only [s33_16, s33_17, s33_18, s33_19, Option.some.injEq, exists_eq_left', exists_eq_left, List.cons_append, List.nil_append, List.length_nil, List.length_cons, Nat.reduceAdd, Nat.reduceMul, Nat.reduceSub, Nat.reduceLeDiff, true_and, and_true, ↓reduceIte, not_false_eq_true, not_true_eq_false, nI_add, pk_mul, jn_ltT, jn_ltF, jn_leT, jn_leF, jn_eqT, jn_eqF, jn_lt0, jn_ge0, jn_eq0T, jn_eq0F, jn_in, jn_cl, jsh1, jn_or]
  rw [s33_20, d4]
  simp (disch := omega) only [s33_21, s33_22, s33_23, s33_25, s33_26, s33_27, s33_29, s33_32b0, s33_32b1, Option.some.injEq, exists_eq_left', exists_eq_left, List.cons_append, List.nil_append, List.length_nil, List.length_cons, Nat.reduceAdd, Nat.reduceMul, Nat.reduceSub, Nat.reduceLeDiff, true_and, and_true, ↓reduceIte, not_false_eq_true, not_true_eq_false, nI_add, pk_mul, jn_ltT, jn_ltF, jn_leT, jn_leF, jn_eqT, jn_eqF, jn_lt0, jn_ge0, jn_eq0T, jn_eq0F, jn_in, jn_cl, jsh1, jn_or, jc_of_99 hR, ev]
  cases jlie v R C p q <;> simp (disch := omega) only [s33_32b0, s33_32b1, Option.some.injEq, exists_eq_left', exists_eq_left, List.cons_append, List.nil_append, List.length_nil, List.length_cons, Nat.reduceAdd, Nat.reduceMul, Nat.reduceSub, Nat.reduceLeDiff, true_and, and_true, ↓reduceIte, not_false_eq_true, not_true_eq_false, nI_add, pk_mul, jn_ltT, jn_ltF, jn_leT, jn_leF, jn_eqT, jn_eqF, jn_lt0, jn_ge0, jn_eq0T, jn_eq0F, jn_in, jn_cl, Bool.toNat_true, Bool.toNat_false] <;> simp [b5]
theorem jlow5 : ∀ x, x < 32 → 1 ≤ x → (jlo x < 5 ∧ 2 ^ jlo x ≤ x ∧ (x ≠ 2 ^ jlo x → 1 ≤ x - 2 ^ jlo x ∧ ∀ r, r < 5 → x.testBit r = ((2 ^ jlo x).testBit r || (x - 2 ^ jlo x).testBit r))) := by decide +kernel
/-- one row of a task is read -/
theorem ma_readRow (hR : jR F A G g h) (hr : F 2 0 ≤ 5) (hc : F 2 1 ≤ 5) {r : Nat} (hr' : r < F 2 0) (k : ∀ h', jR F (jua (jua A 100 (upd (A 100) (2 ^ r) (nI (jmo (A 3) (F 2 0) (F 2 1) (2 ^ r) (nI 1))))) 101 (upd (A 101) (2 ^ r) (nI (jmo (A 3) (F 2 0) (F 2 1) (2 ^ r) (nI 0))))) G g h' → jD h h' → Q [] h') : jx_Go jxP d 29 0 [.ref 99, .ref 2, .int (nI r), jx_u, jx_u, jx_u, jx_u] [] h Q := by
  have pr : 2 ^ r < 32 := Nat.lt_of_lt_of_le (Nat.pow_lt_pow_right (by decide) hr') (jp2 _ hr).2
  have em : ∀ u, jmo (A 3) (F 2 0) (F 2 1) (2 ^ r) u = jmk (F 2 1) fun c => A 3 (5 * r + c) == u := by
    intro u
    apply Nat.eq_of_testBit_eq
    intro i
    apply Bool.eq_iff_iff.mpr
    rw [jmo_bit, jmk_bit, Bool.and_eq_true, decide_eq_true_iff, beq_iff_eq]
    refine and_congr Iff.rfl ⟨?_, fun w => ⟨r, hr', by rw [Nat.testBit_two_pow_self], w⟩⟩
    rintro ⟨r', h1, h2, h3⟩
    rw [Nat.testBit_two_pow, decide_eq_true_iff] at h2
    subst h2
    exact h3
  rw [em, em] at k
  simp (disch := omega) only [s29_0, s29_1, s29_2, s29_3, s29_5, s29_6, Option.some.injEq, exists_eq_left', exists_eq_left, List.cons_append, List.nil_append, List.length_nil, List.length_cons, Nat.reduceAdd, Nat.reduceMul, Nat.reduceSub, Nat.reduceLeDiff, true_and, and_true, ↓reduceIte, not_false_eq_true, not_true_eq_false, nI_add, pk_mul, jn_ltT, jn_ltF, jn_leT, jn_leF, jn_eqT, jn_eqF, jn_lt0, jn_ge0, jn_eq0T, jn_eq0F, jn_in, jn_cl]
  refine jloop (fun c => ∀ w6, jx_Go jxP d 29 8 [.ref 99, .ref 2, .int (nI r), .int (nI (jmk c fun c => A 3 (5 * r + c) == nI 1)), .int (nI (jmk c fun c => A 3 (5 * r + c) == nI 0)), .int (nI c), w6] [] h Q) (F 2 1) ?_ ?_ 0 (Nat.zero_le _) _
  · intro w6
    rw [s29_8]
    simp (disch := first | omega | decide) only [s29_10, s29_11, s29_14, s29_66, s29_67, s29_70, s29_71, s29_72, s29_73, s29_74, s29_75, s29_76, s29_79, s29_80, s29_81, s29_82, s29_84, s29_85, Option.some.injEq, exists_eq_left', exists_eq_left, List.cons_append, List.nil_append, List.length_nil, List.length_cons, Nat.reduceAdd, Nat.reduceMul, Nat.reduceSub, Nat.reduceLeDiff, true_and, and_true, ↓reduceIte, not_false_eq_true, not_true_eq_false, nI_add, pk_mul, jn_ltT, jn_ltF, jn_leT, jn_leF, jn_eqT, jn_eqF, jn_lt0, jn_ge0, jn_eq0T, jn_eq0F, jn_in, jn_cl, jh_ai_wi, jh_ai_wi_ne, jh_ai_uf, jh_fl_wi_ne, jh_fl_uf_ne, jh_fl_uf_o, jh_cl_wi_ne, jh_cl_uf, jh_al_wi_ne, jh_al_uf, jh_al_wl, jh_al_wl_ne, jh_ai_wl_ne, jh_fl_wl_ne, jh_cl_wl_ne, jh_ar_wi_ne, jh_ar_uf, jh_ar_wl_ne, jh_1_wi, jh_1_uf, jh_1_wl, jf_2_1 hR, jf_99_2 hR, jf_99_3 hR, ja_100 hR, ja_101 hR, jsh1]
    exact k _ ((hR.wi (a := 100) rfl).wi (a := 101) rfl) ((jD.rf.wi (by decide)).wi (by decide))
  · intro c hc' ih w6
    rw [← jmk_or, ← jmk_or] at ih
    generalize (jmk c fun c => A 3 (5 * r + c) == nI 1) = m1 at ih ⊢
    generalize (jmk c fun c => A 3 (5 * r + c) == nI 0) = m0 at ih ⊢
    rw [s29_8]
    simp (disch := omega) only [s29_10, s29_11, s29_14, s29_17, s29_18, s29_21, s29_22, s29_23, s29_24, s29_26, s29_27, s29_28, s29_30, Option.some.injEq, exists_eq_left', exists_eq_left, List.cons_append, List.nil_append, List.length_nil, List.length_cons, Nat.reduceAdd, Nat.reduceMul, Nat.reduceSub, Nat.reduceLeDiff, true_and, and_true, ↓reduceIte, not_false_eq_true, not_true_eq_false, nI_add, pk_mul, jn_ltT, jn_ltF, jn_leT, jn_leF, jn_eqT, jn_eqF, jn_lt0, jn_ge0, jn_eq0T, jn_eq0F, jn_in, jn_cl, jf_2_1 hR, jf_2_2 hR, ja_3 hR]
    by_cases z1 : A 3 (5 * r + c) = nI 1
    · rw [z1, beq_self_eq_true, if_pos rfl, show (nI 1 == nI 0) = false by decide, if_neg (by decide), Nat.or_zero] at ih
      simp (disch := omega) only [s29_32, s29_33, s29_36, s29_37, s29_38, s29_40, s29_41, s29_42, s29_43, s29_60, s29_63, Option.some.injEq, exists_eq_left', exists_eq_left, List.cons_append, List.nil_append, List.length_nil, List.length_cons, Nat.reduceAdd, Nat.reduceMul, Nat.reduceSub, Nat.reduceLeDiff, true_and, and_true, ↓reduceIte, not_false_eq_true, not_true_eq_false, nI_add, pk_mul, jn_ltT, jn_ltF, jn_leT, jn_leF, jn_eqT, jn_eqF, jn_lt0, jn_ge0, jn_eq0T, jn_eq0F, jn_in, jn_cl, z1, jsh1, jn_or]
      exact ih _
    · rw [beq_eq_false_iff_ne.mpr z1, if_neg (by decide), Nat.or_zero] at ih
      by_cases z0 : A 3 (5 * r + c) = nI 0
      · rw [z0, beq_self_eq_true, if_pos rfl] at ih
        simp (disch := omega) only [s29_32, s29_33, s29_46, s29_48, s29_51, s29_53, s29_54, s29_56, s29_57, s29_58, s29_60, s29_63, Option.some.injEq, exists_eq_left', exists_eq_left, List.cons_append, List.nil_append, List.length_nil, List.length_cons, Nat.reduceAdd, Nat.reduceMul, Nat.reduceSub, Nat.reduceLeDiff, true_and, and_true, ↓reduceIte, not_false_eq_true, not_true_eq_false, nI_add, pk_mul, jn_ltT, jn_ltF, jn_leT, jn_leF, jn_eqT, jn_eqF, jn_lt0, jn_ge0, jn_eq0T, jn_eq0F, jn_in, jn_cl, z0, jsh1, jn_or]
        exact ih _
      · rw [beq_eq_false_iff_ne.mpr z0, if_neg (by decide), Nat.or_zero] at ih
        have z0' : ¬ A 3 (5 * r + c) = 0 := z0
        simp (disch := omega) only [s29_32, s29_33, s29_46, s29_48, s29_60, s29_63, Option.some.injEq, exists_eq_left', exists_eq_left, List.cons_append, List.nil_append, List.length_nil, List.length_cons, Nat.reduceAdd, Nat.reduceMul, Nat.reduceSub, Nat.reduceLeDiff, true_and, and_true, ↓reduceIte, not_false_eq_true, not_true_eq_false, nI_add, pk_mul, jn_ltT, jn_ltF, jn_leT, jn_leF, jn_eqT, jn_eqF, jn_lt0, jn_ge0, jn_eq0T, jn_eq0F, jn_in, jn_cl, z1, z0']
        exact ih _
theorem ma_read (hR : jR F A G g h) (hr : F 2 0 ≤ 5) (hc : F 2 1 ≤ 5) (k : ∀ h' f e, (∀ x, 1 ≤ x → x < 2 ^ F 2 0 → f x = nI (jmo (A 3) (F 2 0) (F 2 1) x (nI 1)) ∧ e x = nI (jmo (A 3) (F 2 0) (F 2 1) x (nI 0))) → jR (jup (jup F 99 0 (2 ^ F 2 0 - 1)) 99 1 (2 ^ F 2 1 - 1)) (jua (jua A 100 f) 101 e) G g h' → jD h h' → Q [] h') : jx_Go jxP (d + 1) 28 0 [.ref 99, .ref 2, jx_u, jx_u] [] h Q := by
  have p1 := jp2 _ hr
  have p2 := jp2 _ hc
  simp (disch := first | omega | decide) only [s28_0, s28_1, s28_2, s28_3, s28_6, s28_7, s28_8, s28_9, s28_12, s28_13, s28_14, s28_15, s28_18, s28_19, s28_20, s28_21, s28_24, s28_25, Option.some.injEq, exists_eq_left', exists_eq_left, List.cons_append, List.nil_append, List.length_nil, List.length_cons, Nat.reduceAdd, Nat.reduceMul, Nat.reduceSub, Nat.reduceLeDiff, true_and, and_true, ↓reduceIte, not_false_eq_true, not_true_eq_false, nI_add, pk_mul, jn_ltT, jn_ltF, jn_leT, jn_leF, jn_eqT, jn_eqF, jn_lt0, jn_ge0, jn_eq0T, jn_eq0F, jn_in, jn_cl, jh_ai_wi, jh_ai_wi_ne, jh_ai_uf, jh_fl_wi_ne, jh_fl_uf_ne, jh_fl_uf_o, jh_cl_wi_ne, jh_cl_uf, jh_al_wi_ne, jh_al_uf, jh_al_wl, jh_al_wl_ne, jh_ai_wl_ne, jh_fl_wl_ne, jh_cl_wl_ne, jh_ar_wi_ne, jh_ar_uf, jh_ar_wl_ne, jh_1_wi, jh_1_uf, jh_1_wl, jf_2_0 hR, jf_2_1 hR, jf_99_0 hR, jf_99_1 hR, jsh1, jn_sub]
  have hR1 := (hR.uf (o := 99) (k := 0) (v := 2 ^ F 2 0 - 1) rfl rfl).uf (o := 99) (k := 1) (v := 2 ^ F 2 1 - 1) rfl rfl
  have hD1 := ((jD.rf (h := h)).uf (a := 99) (k := 0) (v := .int (nI (2 ^ F 2 0 - 1))) (by decide)).uf (a := 99) (k := 1) (v := .int (nI (2 ^ F 2 1 - 1))) (by decide)
  generalize jx_uf (jx_uf h 99 0 (.int (nI (2 ^ F 2 0 - 1)))) 99 1 (.int (nI (2 ^ F 2 1 - 1))) = h1 at hR1 hD1 ⊢
  refine jloop (fun r => ∀ f e h1 w3, (∀ j, j < r → f (2 ^ j) = nI (jmo (A 3) (F 2 0) (F 2 1) (2 ^ j) (nI 1)) ∧ e (2 ^ j) = nI (jmo (A 3) (F 2 0) (F 2 1) (2 ^ j) (nI 0))) → jR (jup (jup F 99 0 (2 ^ F 2 0 - 1)) 99 1 (2 ^ F 2 1 - 1)) (jua (jua A 100 f) 101 e) G g h1 → jD h h1 → jx_Go jxP (d + 1) 28 26 [.ref 99, .ref 2, .int (nI r), w3] [] h1 Q) (F 2 0) ?_ ?_ 0 (Nat.zero_le _) (A 100) (A 101) h1 _ (fun j hj => by omega) (by rw [jua_id, jua_id]; exact hR1) hD1
  · intro f e h1 w3 fe hR1 hD1
    rw [s28_26]
    simp (disch := omega) only [s28_27, s28_28, s28_31, s28_46, s28_47, Option.some.injEq, exists_eq_left', exists_eq_left, List.cons_append, List.nil_append, List.length_nil, List.length_cons, Nat.reduceAdd, Nat.reduceMul, Nat.reduceSub, Nat.reduceLeDiff, true_and, and_true, ↓reduceIte, not_false_eq_true, not_true_eq_false, nI_add, pk_mul, jn_ltT, jn_ltF, jn_leT, jn_leF, jn_eqT, jn_eqF, jn_lt0, jn_ge0, jn_eq0T, jn_eq0F, jn_in, jn_cl, jf_2_0 hR1, show jup (jup F 99 0 (2 ^ F 2 0 - 1)) 99 1 (2 ^ F 2 1 - 1) 2 0 = F 2 0 from rfl]
    refine jloop (fun x => 1 ≤ x → ∀ f e h1 w3, (∀ y, 1 ≤ y → y < 2 ^ F 2 0 → (y < x ∨ ∃ j, j < F 2 0 ∧ y = 2 ^ j) → f y = nI (jmo (A 3) (F 2 0) (F 2 1) y (nI 1)) ∧ e y = nI (jmo (A 3) (F 2 0) (F 2 1) y (nI 0))) → jR (jup (jup F 99 0 (2 ^ F 2 0 - 1)) 99 1 (2 ^ F 2 1 - 1)) (jua (jua A 100 f) 101 e) G g h1 → jD h h1 → jx_Go jxP (d + 1) 28 48 [.ref 99, .ref 2, .int (nI x), w3] [] h1 Q) (2 ^ F 2 0) ?_ ?_ 1 (by omega) (Nat.le_refl _) f e h1 _ (fun y y1 y2 y3 => by
      rcases y3 with y3 | ⟨j, j1, j2⟩
      · omega
      · rw [j2]; exact fe j j1) hR1 hD1
    · intro _ f e h1 w3 fe hR1 hD1
      rw [s28_48]
      simp (disch := omega) only [s28_49, s28_50, s28_53, s28_114, Option.some.injEq, exists_eq_left', exists_eq_left, List.cons_append, List.nil_append, List.length_nil, List.length_cons, Nat.reduceAdd, Nat.reduceMul, Nat.reduceSub, Nat.reduceLeDiff, true_and, and_true, ↓reduceIte, not_false_eq_true, not_true_eq_false, nI_add, pk_mul, jn_ltT, jn_ltF, jn_leT, jn_leF, jn_eqT, jn_eqF, jn_lt0, jn_ge0, jn_eq0T, jn_eq0F, jn_in, jn_cl, jf_99_0 hR1, show jup (jup F 99 0 (2 ^ F 2 0 - 1)) 99 1 (2 ^ F 2 1 - 1) 99 0 = 2 ^ F 2 0 - 1 from rfl]
      exact k h1 f e (fun x x1 x2 => fe x x1 x2 (Or.inl x2)) hR1 hD1
    · intro x hx ih x1 f e h1 w3 fe hR1 hD1
      obtain ⟨l1, l2, l3⟩ := jlow5 x (by omega) x1
      have u100 : jua (jua A 100 f) 101 e 100 = f := by rw [jua_ne (by decide), jua_same]
      have u101 : jua (jua A 100 f) 101 e 101 = e := jua_same
      rw [s28_48]
      simp (disch := omega) only [s28_49, s28_50, s28_53, s28_56, s28_57, s28_60, s28_61, s28_62, Option.some.injEq, exists_eq_left', exists_eq_left, List.cons_append, List.nil_append, List.length_nil, List.length_cons, Nat.reduceAdd, Nat.reduceMul, Nat.reduceSub, Nat.reduceLeDiff, true_and, and_true, ↓reduceIte, not_false_eq_true, not_true_eq_false, nI_add, pk_mul, jn_ltT, jn_ltF, jn_leT, jn_leF, jn_eqT, jn_eqF, jn_lt0, jn_ge0, jn_eq0T, jn_eq0F, jn_in, jn_cl, jf_99_0 hR1, show jup (jup F 99 0 (2 ^ F 2 0 - 1)) 99 1 (2 ^ F 2 1 - 1) 99 0 = 2 ^ F 2 0 - 1 from rfl, tb_lowestOf]
      by_cases w : x = 2 ^ jlo x
      · have lR : jlo x < F 2 0 := (Nat.pow_lt_pow_iff_right (by decide : 1 < 2)).mp (by rw [← w]; exact hx)
        simp (disch := omega) only [s28_63, s28_108, s28_111, Option.some.injEq, exists_eq_left', exists_eq_left, List.cons_append, List.nil_append, List.length_nil, List.length_cons, Nat.reduceAdd, Nat.reduceMul, Nat.reduceSub, Nat.reduceLeDiff, true_and, and_true, ↓reduceIte, not_false_eq_true, not_true_eq_false, nI_add, pk_mul, jn_ltT, jn_ltF, jn_leT, jn_leF, jn_eqT, jn_eqF, jn_lt0, jn_ge0, jn_eq0T, jn_eq0F, jn_in, jn_cl]
        refine ih (by omega) f e h1 _ (fun y y1 y2 y3 => fe y y1 y2 ?_) hR1 hD1
        rcases y3 with y3 | y3
        · rcases (show y < x ∨ y = x by omega) with z | z
          · exact Or.inl z
          · exact Or.inr ⟨jlo x, lR, by rw [z]; exact w⟩
        · exact Or.inr y3
      · obtain ⟨l4, l5⟩ := l3 w
        have q0 := Nat.two_pow_pos (jlo x)
        have f1 := fe (2 ^ jlo x) (by omega) (by omega) (Or.inl (by omega))
        have f2 := fe (x - 2 ^ jlo x) (by omega) (by omega) (Or.inl (by omega))
        have o := fun u => jmo_or (v := A 3) (R := F 2 0) (C := F 2 1) (u := u) (fun r hr' => l5 r (by omega))
        simp (disch := first | omega | decide) only [s28_63, s28_66, s28_67, s28_70, s28_71, s28_72, s28_75, s28_76, s28_77, s28_78, s28_81, s28_82, s28_83, s28_84, s28_85, s28_86, s28_87, s28_88, s28_91, s28_92, s28_93, s28_96, s28_97, s28_98, s28_99, s28_102, s28_103, s28_104, s28_105, s28_106, s28_107, s28_108, s28_111, Option.some.injEq, exists_eq_left', exists_eq_left, List.cons_append, List.nil_append, List.length_nil, List.length_cons, Nat.reduceAdd, Nat.reduceMul, Nat.reduceSub, Nat.reduceLeDiff, true_and, and_true, ↓reduceIte, not_false_eq_true, not_true_eq_false, nI_add, pk_mul, jn_ltT, jn_ltF, jn_leT, jn_leF, jn_eqT, jn_eqF, jn_lt0, jn_ge0, jn_eq0T, jn_eq0F, jn_in, jn_cl, jh_ai_wi, jh_ai_wi_ne, jh_ai_uf, jh_fl_wi_ne, jh_fl_uf_ne, jh_fl_uf_o, jh_cl_wi_ne, jh_cl_uf, jh_al_wi_ne, jh_al_uf, jh_al_wl, jh_al_wl_ne, jh_ai_wl_ne, jh_fl_wl_ne, jh_cl_wl_ne, jh_ar_wi_ne, jh_ar_uf, jh_ar_wl_ne, jh_1_wi, jh_1_uf, jh_1_wl, jf_99_2 hR1, jf_99_3 hR1, ja_100 hR1, ja_101 hR1, u100, u101, jn_sub, f1.1, f1.2, f2.1, f2.2, jn_or, o]
        have hR2 := (hR1.wi (a := 100) (f := upd f x (nI (jmo (A 3) (F 2 0) (F 2 1) x (nI 1)))) rfl).wi (a := 101) (f := upd e x (nI (jmo (A 3) (F 2 0) (F 2 1) x (nI 0)))) rfl
        have eA : ∀ f' e', jua (jua (jua (jua A 100 f) 101 e) 100 f') 101 e' = jua (jua A 100 f') 101 e' := by
          intro f' e'
          funext b
          by_cases z : b = 101
          · subst z; rw [jua_same, jua_same]
          · rw [jua_ne z, jua_ne z]
            by_cases z2 : b = 100
            · subst z2; rw [jua_same, jua_same]
            · rw [jua_ne z2, jua_ne z2, jua_ne z, jua_ne z2]
        rw [eA] at hR2
        refine ih (by omega) _ _ _ _ (fun y y1 y2 y3 => ?_) hR2 ((hD1.wi (by decide)).wi (by decide))
        by_cases z : y = x
        · subst z; rw [jupd_same, jupd_same]; exact ⟨rfl, rfl⟩
        · rw [jupd_ne z, jupd_ne z]
          exact fe y y1 y2 (by rcases y3 with y3 | y3; exact Or.inl (by omega); exact Or.inr y3)
  · intro r hr' ih f e h1 w3 fe hR1 hD1
    have u100 : jua (jua A 100 f) 101 e 100 = f := by rw [jua_ne (by decide), jua_same]
    have u101 : jua (jua A 100 f) 101 e 101 = e := jua_same
    have u3 : jua (jua A 100 f) 101 e 3 = A 3 := by rw [jua_ne (by decide), jua_ne (by decide)]
    rw [s28_26]
    simp (disch := omega) only [s28_27, s28_28, s28_31, s28_34, s28_35, s28_36, s28_37, Option.some.injEq, exists_eq_left', exists_eq_left, List.cons_append, List.nil_append, List.length_nil, List.length_cons, Nat.reduceAdd, Nat.reduceMul, Nat.reduceSub, Nat.reduceLeDiff, true_and, and_true, ↓reduceIte, not_false_eq_true, not_true_eq_false, nI_add, pk_mul, jn_ltT, jn_ltF, jn_leT, jn_leF, jn_eqT, jn_eqF, jn_lt0, jn_ge0, jn_eq0T, jn_eq0F, jn_in, jn_cl, jf_2_0 hR1, show jup (jup F 99 0 (2 ^ F 2 0 - 1)) 99 1 (2 ^ F 2 1 - 1) 2 0 = F 2 0 from rfl, jc_of_99 hR1]
    refine ma_readRow hR1 hr hc hr' (fun h2 hR2 hD2 => ?_)
    simp (disch := omega) only [s28_40, s28_43, Option.some.injEq, exists_eq_left', exists_eq_left, List.cons_append, List.nil_append, List.length_nil, List.length_cons, Nat.reduceAdd, Nat.reduceMul, Nat.reduceSub, Nat.reduceLeDiff, true_and, and_true, ↓reduceIte, not_false_eq_true, not_true_eq_false, nI_add, pk_mul, jn_ltT, jn_ltF, jn_leT, jn_leF, jn_eqT, jn_eqF, jn_lt0, jn_ge0, jn_eq0T, jn_eq0F, jn_in, jn_cl]
    rw [u100, u101, u3] at hR2
    have eA : ∀ f' e', jua (jua (jua (jua A 100 f) 101 e) 100 f') 101 e' = jua (jua A 100 f') 101 e' := by
      intro f' e'
      funext b
      by_cases z : b = 101
      · subst z; rw [jua_same, jua_same]
      · rw [jua_ne z, jua_ne z]
        by_cases z2 : b = 100
        · subst z2; rw [jua_same, jua_same]
        · rw [jua_ne z2, jua_ne z2, jua_ne z, jua_ne z2]
    rw [eA] at hR2
    refine ih _ _ h2 _ (fun j hj => ?_) hR2 (hD1.tr hD2)
    rcases (show j < r ∨ j = r by omega) with w | w
    · have ne : 2 ^ j ≠ 2 ^ r := fun z => by have := Nat.pow_lt_pow_right (by decide : 1 < 2) w; omega
      rw [jupd_ne ne, jupd_ne ne]
      exact fe j w
    · subst w
      rw [jupd_same, jupd_same]
      exact ⟨rfl, rfl⟩
end CL5
