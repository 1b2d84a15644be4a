/-! ===== the class: the greatest blocks ===== -/
section CL19
variable {d : Nat} {F : Nat → Nat → Nat} {A : Nat → Nat → Int32} {G : Nat → Option Nat} {g : Nat → Int64} {h : jxH} {Q : List Value → jxH → Prop}
theorem jmo_row {v : Nat → Int32} {R C r c : Nat} {u : Int32} (hr : r < R) : (jmo v R C (2 ^ r) u).testBit c = (decide (c < C) && v (5 * r + c) == u) := by
  apply Bool.eq_iff_iff.mpr
  rw [jmo_bit, Bool.and_eq_true, decide_eq_true_iff, beq_iff_eq]
  refine and_congr Iff.rfl ⟨?_, fun w => ⟨r, hr, Nat.testBit_two_pow_self, w⟩⟩
  rintro ⟨r', h1, h2, h3⟩
  rw [Nat.testBit_two_pow, decide_eq_true_iff] at h2
  subst h2
  exact h3
theorem jrw_bit {v : Nat → Int32} {R C x y r : Nat} : (jrw v R C y x).testBit r = true ↔ r < R ∧ ∀ c, c < C → y.testBit c = true → v (5 * r + c) ≠ nI (1 - x) := by
  unfold jrw
  rw [jmk_bit, Bool.and_eq_true, decide_eq_true_iff, jall_iff]
  refine and_congr Iff.rfl (forall_congr' fun c => forall_congr' fun hc => ?_)
  cases y.testBit c with
  | false => exact ⟨fun _ w => (by cases w), fun _ => rfl⟩
  | true =>
    rw [Bool.true_and]
    by_cases w : v (5 * r + c) = nI (1 - x)
    · rw [w, beq_self_eq_true]
      exact ⟨fun z => (by cases z), fun z => absurd rfl (z rfl)⟩
    · rw [beq_eq_false_iff_ne.mpr w]
      exact ⟨fun _ _ => w, fun _ => rfl⟩
theorem se_rowsWithout (hR : jR F A G g h) {v : Nat → Int32} {R C : Nat} (hM : jMk F A v R C) (e2 : F 2 0 = R) (hr : R ≤ 5) (hc : C ≤ 5) {b y : Nat} (hb : b ≤ 1) (hy : y < 32) (k : Q [.int (nI (jrw v R C y b))] h) : jx_Go jxP (d + 1) 52 0 [.ref 146, .int (nI (1 - b)), .int (nI y), jx_u, jx_u] [] h Q := by
  simp (disch := omega) only [s52_0, s52_1, s52_2, s52_3, Option.some.injEq, exists_eq_left', exists_eq_left, List.cons_append, List.nil_append, List.length_nil, List.length_cons, Nat.reduceAdd, Nat.reduceMul, Nat.reduceSub, Nat.reduceLeDiff, true_and, and_true, ↓reduceIte, not_false_eq_true, not_true_eq_false, nI_add, pk_mul, jn_ltT, jn_ltF, jn_leT, jn_leF, jn_eqT, jn_eqF, jn_lt0, jn_ge0, jn_eq0T, jn_eq0F, jn_in, jn_cl]
  refine jloop (fun r => jx_Go jxP (d + 1) 52 5 [.ref 146, .int (nI (1 - b)), .int (nI y), .int (nI (jmk r fun r => jall C fun c => !(y.testBit c && v (5 * r + c) == nI (1 - b)))), .int (nI r)] [] h Q) R ?_ ?_ 0 (Nat.zero_le _)
  · rw [s52_5]
    simp (disch := omega) only [s52_7, s52_8, s52_11, s52_14, s52_47, s52_48, Option.some.injEq, exists_eq_left', exists_eq_left, List.cons_append, List.nil_append, List.length_nil, List.length_cons, Nat.reduceAdd, Nat.reduceMul, Nat.reduceSub, Nat.reduceLeDiff, true_and, and_true, ↓reduceIte, not_false_eq_true, not_true_eq_false, nI_add, pk_mul, jn_ltT, jn_ltF, jn_leT, jn_leF, jn_eqT, jn_eqF, jn_lt0, jn_ge0, jn_eq0T, jn_eq0F, jn_in, jn_cl, jf_146_0 hR, jf_2_0 hR, e2]
    exact k
  · intro r hr' ih
    rw [← jmk_or] at ih
    generalize (jmk r fun r => jall C fun c => !(y.testBit c && v (5 * r + c) == nI (1 - b))) = m at ih ⊢
    have pr : 2 ^ r < 2 ^ R := Nat.pow_lt_pow_right (by decide) hr'
    have p0 := Nat.two_pow_pos r
    have l1 := jmo_lt (v := v) (R := R) (x := 2 ^ r) (u := nI (1 - b)) hc
    have an : jmo v R C (2 ^ r) (nI (1 - b)) &&& y < 32 := Nat.lt_of_le_of_lt Nat.and_le_left l1
    have cw : ∀ (d : Nat) (Q : List Value → jxH → Prop), jx_Go jxP d 32 0 [.ref 99, .int (nI (1 - b)), .int (nI (2 ^ r))] [] h Q ↔ Q [.int (nI (jmo v R C (2 ^ r) (nI (1 - b))))] h := fun d Q => ma_columnsWith hR hM hr (by omega) p0 pr
    have eq : (jmo v R C (2 ^ r) (nI (1 - b)) &&& y = 0) ↔ (jall C fun c => !(y.testBit c && v (5 * r + c) == nI (1 - b))) = true := by
      rw [jand_0, jall_iff]
      constructor
      · intro w c hc'
        have := w c
        rw [jmo_row hr', decide_eq_true hc', Bool.true_and] at this
        cases u : (v (5 * r + c) == nI (1 - b)) with
        | false => rw [Bool.and_false]; rfl
        | true => rw [this u]; rfl
      · intro w c hc'
        rw [jmo_row hr', Bool.and_eq_true, decide_eq_true_iff] at hc'
        have := w c hc'.1
        rw [hc'.2, Bool.and_true] at this
        cases u : y.testBit c with
        | false => rfl
        | true => rw [u] at this; cases this
    rw [s52_5]
    simp (disch := omega) only [s52_7, s52_8, s52_11, s52_14, s52_17, s52_18, s52_21, s52_22, s52_23, s52_25, s52_26, Option.some.injEq, exists_eq_left', exists_eq_left, List.cons_append, List.nil_append, List.length_nil, List.length_cons, Nat.reduceAdd, Nat.reduceMul, Nat.reduceSub, Nat.reduceLeDiff, true_and, and_true, ↓reduceIte, not_false_eq_true, not_true_eq_false, nI_add, pk_mul, jn_ltT, jn_ltF, jn_leT, jn_leF, jn_eqT, jn_eqF, jn_lt0, jn_ge0, jn_eq0T, jn_eq0F, jn_in, jn_cl, jf_146_0 hR, jf_146_1 hR, jf_2_0 hR, e2, jsh1, jc_of_99 hR, cw]
    by_cases w : jmo v R C (2 ^ r) (nI (1 - b)) &&& y = 0
    · rw [if_pos (eq.mp w)] at ih
      simp (disch := omega) only [s52_29, s52_30, s52_31, s52_34, s52_35, s52_36, s52_38, s52_39, s52_40, s52_41, s52_44, Option.some.injEq, exists_eq_left', exists_eq_left, List.cons_append, List.nil_append, List.length_nil, List.length_cons, Nat.reduceAdd, Nat.reduceMul, Nat.reduceSub, Nat.reduceLeDiff, true_and, and_true, ↓reduceIte, not_false_eq_true, not_true_eq_false, nI_add, pk_mul, jn_ltT, jn_ltF, jn_leT, jn_leF, jn_eqT, jn_eqF, jn_lt0, jn_ge0, jn_eq0T, jn_eq0F, jn_in, jn_cl, jn_and, w, jsh1, jn_or]
      exact ih
    · rw [if_neg (fun z => w (eq.mpr z)), Nat.or_zero] at ih
      simp (disch := omega) only [s52_29, s52_30, s52_31, s52_41, s52_44, Option.some.injEq, exists_eq_left', exists_eq_left, List.cons_append, List.nil_append, List.length_nil, List.length_cons, Nat.reduceAdd, Nat.reduceMul, Nat.reduceSub, Nat.reduceLeDiff, true_and, and_true, ↓reduceIte, not_false_eq_true, not_true_eq_false, nI_add, pk_mul, jn_ltT, jn_ltF, jn_leT, jn_leF, jn_eqT, jn_eqF, jn_lt0, jn_ge0, jn_eq0T, jn_eq0F, jn_in, jn_cl, jn_and]
      exact ih
theorem se_placesOf (hR : jR F A G g h) {R C : Nat} (e2 : F 2 0 = R) (hr : R ≤ 5) (hc : C ≤ 5) {x y : Nat} (hx : x < 32) (hy : y < 2 ^ C) (k : Q [.int (nI (jpl R C x y))] h) : jx_Go jxP d 54 0 [.ref 146, .int (nI x), .int (nI y), jx_u, jx_u] [] h Q := by
  have p2 := jp2 _ hc
  simp (disch := omega) only [s54_0, s54_1, s54_2, s54_3, Option.some.injEq, exists_eq_left', exists_eq_left, List.cons_append, List.nil_append, List.length_nil, List.length_cons, Nat.reduceAdd, Nat.reduceMul, Nat.reduceSub, Nat.reduceLeDiff, true_and, and_true, ↓reduceIte, not_false_eq_true, not_true_eq_false, nI_add, pk_mul, jn_ltT, jn_ltF, jn_leT, jn_leF, jn_eqT, jn_eqF, jn_lt0, jn_ge0, jn_eq0T, jn_eq0F, jn_in, jn_cl]
  refine jloop (fun r => jx_Go jxP d 54 5 [.ref 146, .int (nI x), .int (nI y), .int (nI (jmk (5 * r) fun p => (decide (p % 5 < C) && x.testBit (p / 5)) && y.testBit (p % 5))), .int (nI r)] [] h Q) R ?_ ?_ 0 (Nat.zero_le _)
  · rw [s54_5]
    simp (disch := omega) only [s54_7, s54_8, s54_11, s54_14, s54_42, s54_43, Option.some.injEq, exists_eq_left', exists_eq_left, List.cons_append, List.nil_append, List.length_nil, List.length_cons, Nat.reduceAdd, Nat.reduceMul, Nat.reduceSub, Nat.reduceLeDiff, true_and, and_true, ↓reduceIte, not_false_eq_true, not_true_eq_false, nI_add, pk_mul, jn_ltT, jn_ltF, jn_leT, jn_leF, jn_eqT, jn_eqF, jn_lt0, jn_ge0, jn_eq0T, jn_eq0F, jn_in, jn_cl, jf_146_0 hR, jf_2_0 hR, e2]
    exact k
  · intro r hr' ih
    have yC : ∀ c, y.testBit c = true → c < C := fun c hc' => by
      rcases Nat.lt_or_ge c C with w | w
      · exact w
      · rw [Nat.testBit_lt_two_pow (Nat.lt_of_lt_of_le hy (Nat.pow_le_pow_right (by decide) w))] at hc'; cases hc'
    rw [s54_5]
    simp (disch := omega) only [s54_7, s54_8, s54_11, s54_14, s54_17, s54_18, s54_20, s54_21, s54_22, s54_23, Option.some.injEq, exists_eq_left', exists_eq_left, List.cons_append, List.nil_append, List.length_nil, List.length_cons, Nat.reduceAdd, Nat.reduceMul, Nat.reduceSub, Nat.reduceLeDiff, true_and, and_true, ↓reduceIte, not_false_eq_true, not_true_eq_false, nI_add, pk_mul, jn_ltT, jn_ltF, jn_leT, jn_leF, jn_eqT, jn_eqF, jn_lt0, jn_ge0, jn_eq0T, jn_eq0F, jn_in, jn_cl, jf_146_0 hR, jf_2_0 hR, e2, jsh_bit]
    by_cases w : x.testBit r = true
    · have e : jmk (5 * r) (fun p => (decide (p % 5 < C) && x.testBit (p / 5)) && y.testBit (p % 5)) ||| y * 2 ^ (5 * r) = jmk (5 * (r + 1)) (fun p => (decide (p % 5 < C) && x.testBit (p / 5)) && y.testBit (p % 5)) := by
        apply Nat.eq_of_testBit_eq
        intro i
        rw [Nat.testBit_or, jmk_bit, jmk_bit, Nat.testBit_mul_two_pow]
        by_cases w1 : i < 5 * r
        · rw [decide_eq_true w1, decide_eq_true (show i < 5 * (r + 1) by omega), decide_eq_false (show ¬ 5 * r ≤ i by omega), Bool.false_and, Bool.or_false]
        · rw [decide_eq_false w1, Bool.false_and, Bool.false_or, decide_eq_true (show 5 * r ≤ i by omega), Bool.true_and]
          apply Bool.eq_iff_iff.mpr
          rw [Bool.and_eq_true, Bool.and_eq_true, Bool.and_eq_true, decide_eq_true_iff, decide_eq_true_iff]
          constructor
          · intro z
            have := yC _ z
            exact ⟨by omega, ⟨by omega, by rw [show i / 5 = r by omega]; exact w⟩, by rw [show i % 5 = i - 5 * r by omega]; exact z⟩
          · rintro ⟨z1, ⟨z2, z3⟩, z4⟩
            rw [show i % 5 = i - 5 * r by omega] at z4
            exact z4
      rw [← e] at ih
      rw [if_pos w]
      simp (disch := omega) only [s54_24, s54_27, s54_28, s54_29, s54_30, s54_32, s54_33, s54_34, s54_35, s54_36, s54_39, Option.some.injEq, exists_eq_left', exists_eq_left, List.cons_append, List.nil_append, List.length_nil, List.length_cons, Nat.reduceAdd, Nat.reduceMul, Nat.reduceSub, Nat.reduceLeDiff, true_and, and_true, ↓reduceIte, not_false_eq_true, not_true_eq_false, nI_add, pk_mul, jn_ltT, jn_ltF, jn_leT, jn_leF, jn_eqT, jn_eqF, jn_lt0, jn_ge0, jn_eq0T, jn_eq0F, jn_in, jn_cl, jsh55, jn_or]
      exact ih
    · have sk := jmk_skip (p := fun p => (decide (p % 5 < C) && x.testBit (p / 5)) && y.testBit (p % 5)) (n := 5 * r) (5 * (r + 1)) (by omega) (fun i h1 h2 => by
        rw [show i / 5 = r by omega, Bool.eq_false_iff.mpr w, Bool.and_false, Bool.false_and])
      rw [sk] at ih
      rw [if_neg w]
      simp (disch := omega) only [s54_24, s54_36, s54_39, Option.some.injEq, exists_eq_left', exists_eq_left, List.cons_append, List.nil_append, List.length_nil, List.length_cons, Nat.reduceAdd, Nat.reduceMul, Nat.reduceSub, Nat.reduceLeDiff, true_and, and_true, ↓reduceIte, not_false_eq_true, not_true_eq_false, nI_add, pk_mul, jn_ltT, jn_ltF, jn_leT, jn_leF, jn_eqT, jn_eqF, jn_lt0, jn_ge0, jn_eq0T, jn_eq0F, jn_in, jn_cl]
      exact ih
/-- the columns that have no 1 - x in the rows a -/
def jcw (v : Nat → Int32) (R C x a : Nat) : Nat := jan (2 ^ C - 1) (jmo v R C a (nI (1 - x)))
theorem jcw_bit {v : Nat → Int32} {R C x a c : Nat} : (jcw v R C x a).testBit c = true ↔ c < C ∧ ∀ r, r < R → a.testBit r = true → v (5 * r + c) ≠ nI (1 - x) := by
  unfold jcw
  rw [jan_bit, Bool.and_eq_true, Nat.testBit_two_pow_sub_one, decide_eq_true_iff]
  refine ⟨fun ⟨h1, h2⟩ => ⟨h1, fun r hr ha e => ?_⟩, fun ⟨h1, h2⟩ => ⟨h1, ?_⟩⟩
  · rw [jmo_bit.mpr ⟨h1, r, hr, ha, e⟩] at h2
    cases h2
  · cases u : (jmo v R C a (nI (1 - x))).testBit c with
    | false => rfl
    | true =>
      obtain ⟨_, r, h3, h4, h5⟩ := jmo_bit.mp u
      exact absurd h5 (h2 r h3 h4)
theorem jcw_lt {v : Nat → Int32} {R C x a : Nat} : jcw v R C x a < 2 ^ C := jan_lt (by have := Nat.two_pow_pos C; omega)
/-- the blocks that are listed -/
def jGl (v : Nat → Int32) (R C x n m : Nat) (E : Nat → Nat) : Prop := (∀ a, 1 ≤ a → a < n → jcw v R C x a ≠ 0 → jrw v R C (jcw v R C x a) x = a → ∃ k, k < m ∧ E k = jgb v R C x (jcw v R C x a)) ∧ ∀ k, k < m → ∃ y, 1 ≤ y ∧ y < 2 ^ C ∧ E k = jgb v R C x y
theorem se_listGreatestBlocks (hR : jR F A G g h) {v : Nat → Int32} {R C : Nat} (hM : jMk F A v R C) (e2 : F 2 0 = R) (hr : R ≤ 5) (hc : C ≤ 5) {b : Nat} (hb : b ≤ 1) (k : ∀ h' m E f, m < 32 → (∀ k, k < m → f k = nI (E k)) → jGl v R C b (2 ^ R) m E → jR (jup F 146 4 m) (jua A 148 f) G g h' → jD h h' → Q [] h') : jx_Go jxP (d + 2) 51 0 [.ref 146, .int (nI b), jx_u, jx_u] [] h Q := by
  have p1 := jp2 _ hr
  have p2 := jp2 _ hc
  have hR1 := hR.uf (o := 146) (k := 4) (v := 0) rfl rfl
  have hD1 := (jD.rf (h := h)).uf (a := 146) (k := 4) (v := .int (nI 0)) (by decide)
  simp (disch := omega) only [s51_0, s51_1, s51_2, s51_5, s51_6, Option.some.injEq, exists_eq_left', exists_eq_left, List.cons_append, List.nil_append, List.length_nil, List.length_cons, Nat.reduceAdd, Nat.reduceMul, Nat.reduceSub, Nat.reduceLeDiff, true_and, and_true, ↓reduceIte, not_false_eq_true, not_true_eq_false, nI_add, pk_mul, jn_ltT, jn_ltF, jn_leT, jn_leF, jn_eqT, jn_eqF, jn_lt0, jn_ge0, jn_eq0T, jn_eq0F, jn_in, jn_cl, jf_146_4 hR]
  generalize jx_uf h 146 4 (.int (nI 0)) = h1 at hR1 hD1 ⊢
  refine jloop (fun a => 1 ≤ a → ∀ m E f h1 w3, m < a → (∀ k, k < m → f k = nI (E k)) → jGl v R C b a m E → jR (jup F 146 4 m) (jua A 148 f) G g h1 → jD h h1 → jx_Go jxP (d + 2) 51 7 [.ref 146, .int (nI b), .int (nI a), w3] [] h1 Q) (2 ^ R) ?_ ?_ 1 (by omega) (Nat.le_refl _) 0 (fun _ => 0) (A 148) h1 _ (by omega) (fun k hk => by omega) ⟨fun a h1 h2 => by omega, fun k hk => by omega⟩ (by rw [jua_id]; exact hR1) hD1
  · intro _ m E f h1 w3 hm hf hG hR1 hD1
    have f0 : jup F 146 4 m 99 0 = 2 ^ R - 1 := hM.1
    rw [s51_7]
    simp (disch := omega) only [s51_8, s51_9, s51_12, s51_15, s51_87, Option.some.injEq, exists_eq_left', exists_eq_left, List.cons_append, List.nil_append, List.length_nil, List.length_cons, Nat.reduceAdd, Nat.reduceMul, Nat.reduceSub, Nat.reduceLeDiff, true_and, and_true, ↓reduceIte, not_false_eq_true, not_true_eq_false, nI_add, pk_mul, jn_ltT, jn_ltF, jn_leT, jn_leF, jn_eqT, jn_eqF, jn_lt0, jn_ge0, jn_eq0T, jn_eq0F, jn_in, jn_cl, jf_146_1 hR1, jf_99_0 hR1, f0]
    exact k h1 m E f (by omega) hf hG hR1 hD1
  · intro a ha ih a1 m E f h1 w3 hm hf hG hR1 hD1
    have f0 : jup F 146 4 m 99 0 = 2 ^ R - 1 := hM.1
    have f1 : jup F 146 4 m 99 1 = 2 ^ C - 1 := hM.2.1
    have f4 : jup F 146 4 m 146 4 = m := jup_same
    have hM1 : jMk (jup F 146 4 m) (jua A 148 f) v R C := hM.fr rfl rfl (jua_ne (by decide)) (jua_ne (by decide))
    have cw : ∀ (d : Nat) (Q : List Value → jxH → Prop), jx_Go jxP d 32 0 [.ref 99, .int (nI (1 - b)), .int (nI a)] [] h1 Q ↔ Q [.int (nI (jmo v R C a (nI (1 - b))))] h1 := fun d Q => ma_columnsWith hR1 hM1 hr (by omega) a1 ha
    have lc := jcw_lt (v := v) (R := R) (C := C) (x := b) (a := a)
    have ecw : nI (2 ^ C - 1) &&& (nI (jmo v R C a (nI (1 - b))) ^^^ -1) = nI (jcw v R C b a) := jn_anot _ _
    have skip : (jcw v R C b a ≠ 0 → jrw v R C (jcw v R C b a) b ≠ a) → ∀ w3, jx_Go jxP (d + 2) 51 81 [.ref 146, .int (nI b), .int (nI a), w3] [] h1 Q := by
      intro ne w3
      simp (disch := omega) only [s51_81, s51_84, Option.some.injEq, exists_eq_left', exists_eq_left, List.cons_append, List.nil_append, List.length_nil, List.length_cons, Nat.reduceAdd, Nat.reduceMul, Nat.reduceSub, Nat.reduceLeDiff, true_and, and_true, ↓reduceIte, not_false_eq_true, not_true_eq_false, nI_add, pk_mul, jn_ltT, jn_ltF, jn_leT, jn_leF, jn_eqT, jn_eqF, jn_lt0, jn_ge0, jn_eq0T, jn_eq0F, jn_in, jn_cl]
      refine ih (by omega) m E f h1 _ (by omega) hf ⟨fun a' h1 h2 h3 h4 => ?_, hG.2⟩ hR1 hD1
      rcases (show a' < a ∨ a' = a by omega) with z | z
      · exact hG.1 a' h1 z h3 h4
      · subst z; exact absurd h4 (ne h3)
    rw [s51_7]
    simp (disch := omega) only [s51_8, s51_9, s51_12, s51_15, s51_18, s51_19, s51_22, s51_25, s51_26, s51_29, s51_30, s51_31, s51_32, s51_33, s51_36, s51_37, s51_38, s51_39, s51_40, Option.some.injEq, exists_eq_left', exists_eq_left, List.cons_append, List.nil_append, List.length_nil, List.length_cons, Nat.reduceAdd, Nat.reduceMul, Nat.reduceSub, Nat.reduceLeDiff, true_and, and_true, ↓reduceIte, not_false_eq_true, not_true_eq_false, nI_add, pk_mul, jn_ltT, jn_ltF, jn_leT, jn_leF, jn_eqT, jn_eqF, jn_lt0, jn_ge0, jn_eq0T, jn_eq0F, jn_in, jn_cl, jf_146_1 hR1, jf_99_0 hR1, jf_99_1 hR1, f0, f1, jn_sub, jc_of_99 hR1, cw, ecw]
    by_cases w : jcw v R C b a = 0
    · simp (disch := omega) only [s51_41, Option.some.injEq, exists_eq_left', exists_eq_left, List.cons_append, List.nil_append, List.length_nil, List.length_cons, Nat.reduceAdd, Nat.reduceMul, Nat.reduceSub, Nat.reduceLeDiff, true_and, and_true, ↓reduceIte, not_false_eq_true, not_true_eq_false, nI_add, pk_mul, jn_ltT, jn_ltF, jn_leT, jn_leF, jn_eqT, jn_eqF, jn_lt0, jn_ge0, jn_eq0T, jn_eq0F, jn_in, jn_cl]
      exact skip (fun z => absurd w z) _
    · simp (disch := omega) only [s51_41, s51_44, s51_45, s51_46, s51_47, s51_48, s51_49, s51_50, Option.some.injEq, exists_eq_left', exists_eq_left, List.cons_append, List.nil_append, List.length_nil, List.length_cons, Nat.reduceAdd, Nat.reduceMul, Nat.reduceSub, Nat.reduceLeDiff, true_and, and_true, ↓reduceIte, not_false_eq_true, not_true_eq_false, nI_add, pk_mul, jn_ltT, jn_ltF, jn_leT, jn_leF, jn_eqT, jn_eqF, jn_lt0, jn_ge0, jn_eq0T, jn_eq0F, jn_in, jn_cl, jn_sub, jc_of_146 hR1]
      refine se_rowsWithout hR1 hM1 e2 hr hc hb (by omega) ?_
      have lr := jrw_lt (v := v) (C := C) (x := b) (y := jcw v R C b a) hr
      by_cases w2 : jrw v R C (jcw v R C b a) b = a
      · simp (disch := omega) only [s51_53, s51_56, s51_57, s51_60, s51_61, s51_64, s51_65, s51_66, s51_67, Option.some.injEq, exists_eq_left', exists_eq_left, List.cons_append, List.nil_append, List.length_nil, List.length_cons, Nat.reduceAdd, Nat.reduceMul, Nat.reduceSub, Nat.reduceLeDiff, true_and, and_true, ↓reduceIte, not_false_eq_true, not_true_eq_false, nI_add, pk_mul, jn_ltT, jn_ltF, jn_leT, jn_leF, jn_eqT, jn_eqF, jn_lt0, jn_ge0, jn_eq0T, jn_eq0F, jn_in, jn_cl, jf_146_3 hR1, jf_146_4 hR1, f4, jc_of_146 hR1]
        refine se_placesOf hR1 e2 hr hc (by omega) lc ?_
        have u : jua A 148 f 148 = f := jua_same
        have eg : jpl R C a (jcw v R C b a) = jgb v R C b (jcw v R C b a) := by unfold jgb; rw [w2]
        rw [eg]
        simp (disch := first | omega | decide) only [s51_70, s51_71, s51_72i, s51_72r, s51_73, s51_76, s51_77, s51_78, s51_81, s51_84, Option.some.injEq, exists_eq_left', exists_eq_left, List.cons_append, List.nil_append, List.length_nil, List.length_cons, Nat.reduceAdd, Nat.reduceMul, Nat.reduceSub, Nat.reduceLeDiff, true_and, and_true, ↓reduceIte, not_false_eq_true, not_true_eq_false, nI_add, pk_mul, jn_ltT, jn_ltF, jn_leT, jn_leF, jn_eqT, jn_eqF, jn_lt0, jn_ge0, jn_eq0T, jn_eq0F, jn_in, jn_cl, jh_ai_wi, jh_ai_wi_ne, jh_ai_uf, jh_fl_wi_ne, jh_fl_uf_ne, jh_fl_uf_o, jh_cl_wi_ne, jh_cl_uf, jh_al_wi_ne, jh_al_uf, jh_al_wl, jh_al_wl_ne, jh_ai_wl_ne, jh_fl_wl_ne, jh_cl_wl_ne, jh_ar_wi_ne, jh_ar_uf, jh_ar_wl_ne, jh_1_wi, jh_1_uf, jh_1_wl, jf_146_4 hR1, f4, ja_148 hR1, u]
        have hR2 := (hR1.wi (a := 148) (f := upd f m (nI (jgb v R C b (jcw v R C b a)))) rfl).uf (o := 146) (k := 4) (v := m + 1) rfl rfl
        rw [jup_jup, jua_jua] at hR2
        refine ih (by omega) (m + 1) (fun k => if k = m then jgb v R C b (jcw v R C b a) else E k) _ _ _ (by omega) (fun k hk => ?_) ⟨fun a' h1 h2 h3 h4 => ?_, fun k hk => ?_⟩ hR2 ((hD1.wi (by decide)).uf (by decide))
        · by_cases z : k = m
          · rw [if_pos z, z, jupd_same]
          · rw [if_neg z, jupd_ne z]; exact hf k (by omega)
        · rcases (show a' < a ∨ a' = a by omega) with z | z
          · obtain ⟨k, k1, k2⟩ := hG.1 a' h1 z h3 h4
            exact ⟨k, by omega, by dsimp only; rw [if_neg (by omega)]; exact k2⟩
          · exact ⟨m, by omega, by dsimp only; rw [if_pos rfl, z]⟩
        · by_cases z : k = m
          · exact ⟨_, by omega, lc, by dsimp only; rw [if_pos z]⟩
          · obtain ⟨y, y1, y2, y3⟩ := hG.2 k (by omega)
            exact ⟨y, y1, y2, by dsimp only; rw [if_neg z]; exact y3⟩
      · simp (disch := omega) only [s51_53, Option.some.injEq, exists_eq_left', exists_eq_left, List.cons_append, List.nil_append, List.length_nil, List.length_cons, Nat.reduceAdd, Nat.reduceMul, Nat.reduceSub, Nat.reduceLeDiff, true_and, and_true, ↓reduceIte, not_false_eq_true, not_true_eq_false, nI_add, pk_mul, jn_ltT, jn_ltF, jn_leT, jn_leF, jn_eqT, jn_eqF, jn_lt0, jn_ge0, jn_eq0T, jn_eq0F, jn_in, jn_cl]
        exact skip (fun _ => w2) _
def jrc (v : Nat → Int32) (R C x : Nat) : Nat := jsum R fun r => if jmo v R C (2 ^ r) (nI x) ≠ 0 then 1 else 0
theorem jrc_le {v : Nat → Int32} {R C x : Nat} : jrc v R C x ≤ R := by
  have := jsum_le (n := R) (m := 1) (f := fun r => if jmo v R C (2 ^ r) (nI x) ≠ 0 then 1 else 0) (fun i _ => by split <;> omega)
  unfold jrc
  omega
theorem se_countRowsWith (hR : jR F A G g h) {v : Nat → Int32} {R C : Nat} (hM : jMk F A v R C) (e2 : F 2 0 = R) (hr : R ≤ 5) (hc : C ≤ 5) {b : Nat} (hb : b ≤ 1) (k : Q [.int (nI (jrc v R C b))] h) : jx_Go jxP (d + 1) 50 0 [.ref 146, .int (nI b), jx_u, jx_u] [] h Q := by
  simp (disch := omega) only [s50_0, s50_1, s50_2, s50_3, Option.some.injEq, exists_eq_left', exists_eq_left, List.cons_append, List.nil_append, List.length_nil, List.length_cons, Nat.reduceAdd, Nat.reduceMul, Nat.reduceSub, Nat.reduceLeDiff, true_and, and_true, ↓reduceIte, not_false_eq_true, not_true_eq_false, nI_add, pk_mul, jn_ltT, jn_ltF, jn_leT, jn_leF, jn_eqT, jn_eqF, jn_lt0, jn_ge0, jn_eq0T, jn_eq0F, jn_in, jn_cl]
  refine jloop (fun r => jx_Go jxP (d + 1) 50 4 [.ref 146, .int (nI b), .int (nI (jsum r fun r => if jmo v R C (2 ^ r) (nI b) ≠ 0 then 1 else 0)), .int (nI r)] [] h Q) R ?_ ?_ 0 (Nat.zero_le _)
  · rw [s50_4]
    simp (disch := omega) only [s50_5, s50_6, s50_9, s50_12, s50_38, s50_39, Option.some.injEq, exists_eq_left', exists_eq_left, List.cons_append, List.nil_append, List.length_nil, List.length_cons, Nat.reduceAdd, Nat.reduceMul, Nat.reduceSub, Nat.reduceLeDiff, true_and, and_true, ↓reduceIte, not_false_eq_true, not_true_eq_false, nI_add, pk_mul, jn_ltT, jn_ltF, jn_leT, jn_leF, jn_eqT, jn_eqF, jn_lt0, jn_ge0, jn_eq0T, jn_eq0F, jn_in, jn_cl, jf_146_0 hR, jf_2_0 hR, e2]
    exact k
  · intro r hr' ih
    rw [jsum_s] at ih
    generalize (jsum r fun r => if jmo v R C (2 ^ r) (nI b) ≠ 0 then 1 else 0) = m at ih ⊢
    have pr : 2 ^ r < 2 ^ R := Nat.pow_lt_pow_right (by decide) hr'
    have p0 := Nat.two_pow_pos r
    have l1 := jmo_lt (v := v) (R := R) (x := 2 ^ r) (u := nI b) hc
    have cw : ∀ (d : Nat) (Q : List Value → jxH → Prop), jx_Go jxP d 32 0 [.ref 99, .int (nI b), .int (nI (2 ^ r))] [] h Q ↔ Q [.int (nI (jmo v R C (2 ^ r) (nI b)))] h := fun d Q => ma_columnsWith hR hM hr hb p0 pr
    rw [s50_4]
    simp (disch := omega) only [s50_5, s50_6, s50_9, s50_12, s50_15, s50_16, s50_19, s50_20, s50_21, s50_22, s50_23, Option.some.injEq, exists_eq_left', exists_eq_left, List.cons_append, List.nil_append, List.length_nil, List.length_cons, Nat.reduceAdd, Nat.reduceMul, Nat.reduceSub, Nat.reduceLeDiff, true_and, and_true, ↓reduceIte, not_false_eq_true, not_true_eq_false, nI_add, pk_mul, jn_ltT, jn_ltF, jn_leT, jn_leF, jn_eqT, jn_eqF, jn_lt0, jn_ge0, jn_eq0T, jn_eq0F, jn_in, jn_cl, jf_146_0 hR, jf_146_1 hR, jf_2_0 hR, e2, jsh1, jc_of_99 hR, cw]
    by_cases w : jmo v R C (2 ^ r) (nI b) = 0
    · rw [if_neg (fun z => z w)] at ih
      simp (disch := omega) only [s50_26, s50_32, s50_35, Option.some.injEq, exists_eq_left', exists_eq_left, List.cons_append, List.nil_append, List.length_nil, List.length_cons, Nat.reduceAdd, Nat.reduceMul, Nat.reduceSub, Nat.reduceLeDiff, true_and, and_true, ↓reduceIte, not_false_eq_true, not_true_eq_false, nI_add, pk_mul, jn_ltT, jn_ltF, jn_leT, jn_leF, jn_eqT, jn_eqF, jn_lt0, jn_ge0, jn_eq0T, jn_eq0F, jn_in, jn_cl]
      exact ih
    · rw [if_pos w] at ih
      simp (disch := omega) only [s50_26, s50_29, s50_32, s50_35, Option.some.injEq, exists_eq_left', exists_eq_left, List.cons_append, List.nil_append, List.length_nil, List.length_cons, Nat.reduceAdd, Nat.reduceMul, Nat.reduceSub, Nat.reduceLeDiff, true_and, and_true, ↓reduceIte, not_false_eq_true, not_true_eq_false, nI_add, pk_mul, jn_ltT, jn_ltF, jn_leT, jn_leF, jn_eqT, jn_eqF, jn_lt0, jn_ge0, jn_eq0T, jn_eq0F, jn_in, jn_cl]
      exact ih
end CL19
