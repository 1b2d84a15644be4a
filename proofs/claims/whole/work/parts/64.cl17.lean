/-! ===== the class: fooling places ===== -/
section CL17
variable {d : Nat} {F : Nat → Nat → Nat} {A : Nat → Nat → Int32} {G : Nat → Option Nat} {g : Nat → Int64} {h : jxH} {Q : List Value → jxH → Prop}
theorem jsh55 : ∀ y, y < 32 → ∀ r, r < 5 → nI y <<< (nI (5 * r) &&& 31) = nI (y * 2 ^ (5 * r)) := by decide +kernel
theorem se_placesThatAre (hR : jR F A G g h) {v : Nat → Int32} {R C : Nat} (hM : jMk F A v R C) (eR : F 2 0 = R) (hr : R ≤ 5) (hc : C ≤ 5) {b : Nat} (hb : b ≤ 1) (k : Q [.int (nI (jpx v R C (nI b)))] h) : jx_Go jxP (d + 1) 46 0 [.ref 146, .int (nI b), jx_u, jx_u] [] h Q := by
  simp (disch := omega) only [s46_0, s46_1, s46_2, s46_3, Option.some.injEq, exists_eq_left', exists_eq_left, List.cons_append, List.nil_append, List.length_nil, List.length_cons, Nat.reduceAdd, Nat.reduceMul, Nat.reduceSub, Nat.reduceLeDiff, true_and, and_true, ↓reduceIte, not_false_eq_true, not_true_eq_false, nI_add, pk_mul, jn_ltT, jn_ltF, jn_leT, jn_leF, jn_eqT, jn_eqF, jn_lt0, jn_ge0, jn_eq0T, jn_eq0F, jn_in, jn_cl]
  refine jloop (fun r => jx_Go jxP (d + 1) 46 4 [.ref 146, .int (nI b), .int (nI (jmk (5 * r) fun p => decide (p % 5 < C) && v p == nI b)), .int (nI r)] [] h Q) R ?_ ?_ 0 (Nat.zero_le _)
  · rw [s46_4]
    simp (disch := omega) only [s46_5, s46_6, s46_9, s46_12, s46_39, s46_40, Option.some.injEq, exists_eq_left', exists_eq_left, List.cons_append, List.nil_append, List.length_nil, List.length_cons, Nat.reduceAdd, Nat.reduceMul, Nat.reduceSub, Nat.reduceLeDiff, true_and, and_true, ↓reduceIte, not_false_eq_true, not_true_eq_false, nI_add, pk_mul, jn_ltT, jn_ltF, jn_leT, jn_leF, jn_eqT, jn_eqF, jn_lt0, jn_ge0, jn_eq0T, jn_eq0F, jn_in, jn_cl, jf_146_0 hR, jf_2_0 hR, eR]
    exact k
  · intro r hr' ih
    have pr : 2 ^ r < 2 ^ R := Nat.pow_lt_pow_right (by decide) hr'
    have p0 := Nat.two_pow_pos r
    have l1 := jmo_lt (v := v) (R := R) (x := 2 ^ r) (u := nI b) hc
    have cw : ∀ (d : Nat) (Q : List Value → jxH → Prop), jx_Go jxP d 32 0 [.ref 99, .int (nI b), .int (nI (2 ^ r))] [] h Q ↔ Q [.int (nI (jmo v R C (2 ^ r) (nI b)))] h := fun d Q => ma_columnsWith hR hM hr hb p0 pr
    have e : jmk (5 * r) (fun p => decide (p % 5 < C) && v p == nI b) ||| jmo v R C (2 ^ r) (nI b) * 2 ^ (5 * r) = jmk (5 * (r + 1)) (fun p => decide (p % 5 < C) && v p == nI b) := by
      apply Nat.eq_of_testBit_eq
      intro i
      rw [Nat.testBit_or, jmk_bit, jmk_bit, Nat.testBit_mul_two_pow]
      by_cases w : i < 5 * r
      · rw [decide_eq_true w, decide_eq_true (show i < 5 * (r + 1) by omega), decide_eq_false (show ¬ 5 * r ≤ i by omega), Bool.false_and, Bool.or_false]
      · rw [decide_eq_false w, Bool.false_and, Bool.false_or, decide_eq_true (show 5 * r ≤ i by omega), Bool.true_and]
        apply Bool.eq_iff_iff.mpr
        rw [jmo_bit, Bool.and_eq_true, Bool.and_eq_true, decide_eq_true_iff, decide_eq_true_iff, beq_iff_eq]
        constructor
        · rintro ⟨a1, r', a2, a3, a4⟩
          rw [Nat.testBit_two_pow, decide_eq_true_iff] at a3
          subst a3
          exact ⟨by omega, by omega, by rw [show 5 * r + (i - 5 * r) = i by omega] at a4; exact a4⟩
        · rintro ⟨a1, a2, a3⟩
          exact ⟨by omega, r, hr', Nat.testBit_two_pow_self, by rw [show 5 * r + (i - 5 * r) = i by omega]; exact a3⟩
    rw [← e] at ih
    rw [s46_4]
    simp (disch := omega) only [s46_5, s46_6, s46_9, s46_12, s46_15, s46_16, s46_17, s46_20, s46_21, s46_22, s46_23, s46_24, Option.some.injEq, exists_eq_left', exists_eq_left, List.cons_append, List.nil_append, List.length_nil, List.length_cons, Nat.reduceAdd, Nat.reduceMul, Nat.reduceSub, Nat.reduceLeDiff, true_and, and_true, ↓reduceIte, not_false_eq_true, not_true_eq_false, nI_add, pk_mul, jn_ltT, jn_ltF, jn_leT, jn_leF, jn_eqT, jn_eqF, jn_lt0, jn_ge0, jn_eq0T, jn_eq0F, jn_in, jn_cl, jf_146_0 hR, jf_146_1 hR, jf_2_0 hR, eR, jsh1, jc_of_99 hR, cw]
    simp (disch := omega) only [s46_27, s46_28, s46_29, s46_30, s46_31, s46_32, s46_33, s46_36, Option.some.injEq, exists_eq_left', exists_eq_left, List.cons_append, List.nil_append, List.length_nil, List.length_cons, Nat.reduceAdd, Nat.reduceMul, Nat.reduceSub, Nat.reduceLeDiff, true_and, and_true, ↓reduceIte, not_false_eq_true, not_true_eq_false, nI_add, pk_mul, jn_ltT, jn_ltF, jn_leT, jn_leF, jn_eqT, jn_eqF, jn_lt0, jn_ge0, jn_eq0T, jn_eq0F, jn_in, jn_cl, jsh55, jn_or]
    exact ih
theorem se_placesApart (hR : jR F A G g h) {v : Nat → Int32} {R C : Nat} (hM : jMk F A v R C) (hr : R ≤ 5) (hc : C ≤ 5) {p P : Nat} (hp : p / 5 < R) (hP : P < 33554432) (hP2 : ∀ q, P.testBit q = true → q / 5 < R) (k : Q [.int (nI (jmk 25 fun q => P.testBit q && !jlie v R C p q))] h) : jx_Go jxP (d + 2) 47 0 [.ref 146, .int (nI p), .int (nI P), jx_u, jx_u] [] h Q := by
  simp (disch := omega) only [s47_0, s47_1, s47_2, s47_3, Option.some.injEq, exists_eq_left', exists_eq_left, List.cons_append, List.nil_append, List.length_nil, List.length_cons, Nat.reduceAdd, Nat.reduceMul, Nat.reduceSub, Nat.reduceLeDiff, true_and, and_true, ↓reduceIte, not_false_eq_true, not_true_eq_false, nI_add, pk_mul, jn_ltT, jn_ltF, jn_leT, jn_leF, jn_eqT, jn_eqF, jn_lt0, jn_ge0, jn_eq0T, jn_eq0F, jn_in, jn_cl]
  refine jloop (fun q => jx_Go jxP (d + 2) 47 5 [.ref 146, .int (nI p), .int (nI P), .int (nI (jmk q fun q => P.testBit q && !jlie v R C p q)), .int (nI q)] [] h Q) 25 ?_ ?_ 0 (Nat.zero_le _)
  · rw [s47_5]
    simp (disch := omega) only [s47_7, s47_9, s47_48, s47_49, Option.some.injEq, exists_eq_left', exists_eq_left, List.cons_append, List.nil_append, List.length_nil, List.length_cons, Nat.reduceAdd, Nat.reduceMul, Nat.reduceSub, Nat.reduceLeDiff, true_and, and_true, ↓reduceIte, not_false_eq_true, not_true_eq_false, nI_add, pk_mul, jn_ltT, jn_ltF, jn_leT, jn_leF, jn_eqT, jn_eqF, jn_lt0, jn_ge0, jn_eq0T, jn_eq0F, jn_in, jn_cl]
    exact k
  · intro q hq ih
    rw [← jmk_or] at ih
    generalize (jmk q fun q => P.testBit q && !jlie v R C p q) = m at ih ⊢
    rw [s47_5]
    simp (disch := omega) only [s47_7, s47_9, s47_12, s47_13, s47_15, s47_16, s47_17, s47_18, Option.some.injEq, exists_eq_left', exists_eq_left, List.cons_append, List.nil_append, List.length_nil, List.length_cons, Nat.reduceAdd, Nat.reduceMul, Nat.reduceSub, Nat.reduceLeDiff, true_and, and_true, ↓reduceIte, not_false_eq_true, not_true_eq_false, nI_add, pk_mul, jn_ltT, jn_ltF, jn_leT, jn_leF, jn_eqT, jn_eqF, jn_lt0, jn_ge0, jn_eq0T, jn_eq0F, jn_in, jn_cl, jsh_bit]
    by_cases w : P.testBit q = true
    · have q5 := hP2 q w
      have ae : ∀ (d : Nat) (Q : List Value → jxH → Prop), jx_Go jxP (d + 1) 33 0 [.ref 99, .int (nI p), .int (nI q), jx_u, jx_u] [] h Q ↔ Q [.int (nI (jlie v R C p q).toNat)] h := fun d Q => ma_areInOneEvenBlock hR hM hr hc hp q5
      rw [w, Bool.true_and] at ih
      rw [if_pos w]
      simp (disch := omega) only [s47_19, s47_22, s47_23, s47_26, s47_27, s47_29, Option.some.injEq, exists_eq_left', exists_eq_left, List.cons_append, List.nil_append, List.length_nil, List.length_cons, Nat.reduceAdd, Nat.reduceMul, Nat.reduceSub, Nat.reduceLeDiff, true_and, and_true, ↓reduceIte, not_false_eq_true, not_true_eq_false, nI_add, pk_mul, jn_ltT, jn_ltF, jn_leT, jn_leF, jn_eqT, jn_eqF, jn_lt0, jn_ge0, jn_eq0T, jn_eq0F, jn_in, jn_cl, jf_146_1 hR, jc_of_99 hR, ae]
      cases z : jlie v R C p q with
      | true =>
        rw [z, if_neg (by decide), Nat.or_zero] at ih
        simp (disch := omega) only [s47_32, s47_42, s47_45, Option.some.injEq, exists_eq_left', exists_eq_left, List.cons_append, List.nil_append, List.length_nil, List.length_cons, Nat.reduceAdd, Nat.reduceMul, Nat.reduceSub, Nat.reduceLeDiff, true_and, and_true, ↓reduceIte, not_false_eq_true, not_true_eq_false, nI_add, pk_mul, jn_ltT, jn_ltF, jn_leT, jn_leF, jn_eqT, jn_eqF, jn_lt0, jn_ge0, jn_eq0T, jn_eq0F, jn_in, jn_cl, Bool.toNat_true]
        exact ih
      | false =>
        rw [z, Bool.not_false, if_pos rfl] at ih
        simp (disch := omega) only [s47_32, s47_35, s47_36, s47_37, s47_39, s47_40, s47_41, s47_42, s47_45, Option.some.injEq, exists_eq_left', exists_eq_left, List.cons_append, List.nil_append, List.length_nil, List.length_cons, Nat.reduceAdd, Nat.reduceMul, Nat.reduceSub, Nat.reduceLeDiff, true_and, and_true, ↓reduceIte, not_false_eq_true, not_true_eq_false, nI_add, pk_mul, jn_ltT, jn_ltF, jn_leT, jn_leF, jn_eqT, jn_eqF, jn_lt0, jn_ge0, jn_eq0T, jn_eq0F, jn_in, jn_cl, Bool.toNat_false, jsh1, jn_or]
        exact ih
    · rw [Bool.eq_false_iff.mpr w, Bool.false_and, if_neg (by decide), Nat.or_zero] at ih
      rw [if_neg w]
      simp (disch := omega) only [s47_19, s47_42, s47_45, Option.some.injEq, exists_eq_left', exists_eq_left, List.cons_append, List.nil_append, List.length_nil, List.length_cons, Nat.reduceAdd, Nat.reduceMul, Nat.reduceSub, Nat.reduceLeDiff, true_and, and_true, ↓reduceIte, not_false_eq_true, not_true_eq_false, nI_add, pk_mul, jn_ltT, jn_ltF, jn_leT, jn_leF, jn_eqT, jn_eqF, jn_lt0, jn_ge0, jn_eq0T, jn_eq0F, jn_in, jn_cl]
      exact ih
/-- a choice: of each row a column, or none (5) -/
def jcS (c : Nat → Nat) : Nat := jmk 25 fun p => c (p / 5) == p % 5
def jcN (c : Nat → Nat) : Nat := jsum 5 fun r => jcsn (c r)
theorem jcS_t : ∀ c0, c0 < 6 → ∀ c1, c1 < 6 → ∀ c2, c2 < 6 → ∀ c3, c3 < 6 → ∀ c4, c4 < 6 → jmk 25 (fun p => (if p / 5 = 0 then c0 else if p / 5 = 1 then c1 else if p / 5 = 2 then c2 else if p / 5 = 3 then c3 else c4) == p % 5) = jcs c0 c1 c2 c3 c4 := by decide +kernel
theorem jmk_congr {p q : Nat → Bool} : ∀ n, (∀ i, i < n → p i = q i) → jmk n p = jmk n q := by
  intro n
  induction n with
  | zero => intro _; rfl
  | succ n ih =>
    intro e
    rw [jmk_s, jmk_s, ih (fun i hi => e i (by omega)), e n (by omega)]
theorem jcS_bc {c : Nat → Nat} (hc : ∀ r, c r < 6) : jbc (nI (jcS c)) = nI (jcN c) := by
  have e : jcS c = jcs (c 0) (c 1) (c 2) (c 3) (c 4) := by
    rw [← jcS_t _ (hc 0) _ (hc 1) _ (hc 2) _ (hc 3) _ (hc 4)]
    refine jmk_congr 25 (fun p hp => ?_)
    congr 1
    rcases (show p / 5 = 0 ∨ p / 5 = 1 ∨ p / 5 = 2 ∨ p / 5 = 3 ∨ p / 5 = 4 by omega) with w | w | w | w | w <;> rw [w] <;> rfl
  rw [e, jbc_cs _ (hc 0) _ (hc 1) _ (hc 2) _ (hc 3) _ (hc 4)]
  congr 1
  unfold jcN
  simp only [jsum]
  omega
theorem jcS_lt {c : Nat → Nat} : jcS c < 33554432 := jmk_31 (by omega)
theorem jcN_le {c : Nat → Nat} : jcN c ≤ 5 := by
  have := jsum_le (n := 5) (m := 1) (f := fun r => jcsn (c r)) (fun i _ => by unfold jcsn; split <;> omega)
  unfold jcN
  omega
/-- a choice of places that are x, no two of which lie together -/
def jGc (v : Nat → Int32) (R C : Nat) (x : Int32) (c : Nat → Nat) : Prop := (∀ r, c r < 6) ∧ (∀ r, c r < 5 → r < R ∧ c r < C ∧ v (5 * r + c r) = x) ∧ ∀ r r', r' < r → c r < 5 → c r' < 5 → jlie v R C (5 * r' + c r') (5 * r + c r) = false
theorem jcN_up {c e : Nat → Nat} {row : Nat} (hrow : row ≤ 5) (h1 : ∀ r, r < row → e r = c r) (h2 : ∀ r, row ≤ r → c r = 5) {R : Nat} (hR : R ≤ 5) (h3 : ∀ r, R ≤ r → 5 ≤ e r) : jcN e ≤ jcN c + (R - row) := by
  unfold jcN
  have z : ∀ n, n ≤ 5 → jsum n (fun r => jcsn (e r)) ≤ jsum n (fun r => jcsn (c r)) + (min n R - row) := by
    intro n
    induction n with
    | zero => intro _; exact Nat.zero_le _
    | succ n ih =>
      intro hn
      have := ih (by omega)
      rw [jsum_s, jsum_s]
      rcases Nat.lt_or_ge n row with w | w
      · rw [h1 n w]; omega
      · have hc : jcsn (c n) = 0 := by unfold jcsn; rw [h2 n w]; rfl
        rcases Nat.lt_or_ge n R with u | u
        · have : jcsn (e n) ≤ 1 := by unfold jcsn; split <;> omega
          omega
        · have : jcsn (e n) = 0 := by unfold jcsn; rw [if_neg (by have := h3 n u; omega)]
          omega
  have := z 5 (Nat.le_refl _)
  omega
/-- what is allowed: the places that are x and lie with none of those chosen -/
def jAl (v : Nat → Int32) (R C : Nat) (x : Int32) (c : Nat → Nat) (row al : Nat) : Prop := al < 33554432 ∧ ∀ p, row ≤ p / 5 → (al.testBit p = true ↔ p / 5 < R ∧ p % 5 < C ∧ v p = x ∧ ∀ r, r < row → c r < 5 → jlie v R C (5 * r + c r) p = false)
def jcu (c : Nat → Nat) (row col : Nat) : Nat → Nat := fun r => if r = row then col else c r
theorem jcu_s {c : Nat → Nat} {row col : Nat} : jcu c row col row = col := if_pos rfl
theorem jcu_n {c : Nat → Nat} {row col r : Nat} (e : r ≠ row) : jcu c row col r = c r := if_neg e
theorem jcS_up {c : Nat → Nat} {row col : Nat} (hrow : row < 5) (hcol : col < 5) (e : c row = 5) : jcS c ||| 2 ^ (5 * row + col) = jcS (jcu c row col) := by
  apply Nat.eq_of_testBit_eq
  intro i
  unfold jcS
  rw [Nat.testBit_or, jmk_bit, jmk_bit, Nat.testBit_two_pow]
  by_cases w : i < 25
  · rw [decide_eq_true w, Bool.true_and, Bool.true_and]
    show (c (i / 5) == i % 5 || decide (5 * row + col = i)) = ((if i / 5 = row then col else c (i / 5)) == i % 5)
    by_cases w2 : i / 5 = row
    · rw [if_pos w2, w2, e]
      by_cases w3 : 5 * row + col = i
      · rw [decide_eq_true w3, Bool.or_true, show col = i % 5 by omega, beq_self_eq_true]
      · rw [decide_eq_false w3, Bool.or_false, beq_eq_false_iff_ne.mpr (show 5 ≠ i % 5 by omega), beq_eq_false_iff_ne.mpr (show col ≠ i % 5 by omega)]
    · rw [if_neg w2, decide_eq_false (show ¬ 5 * row + col = i by omega), Bool.or_false]
  · rw [decide_eq_false w, Bool.false_and, Bool.false_and, decide_eq_false (show ¬ 5 * row + col = i by omega)]
    rfl
theorem se_choose {v : Nat → Int32} {R C : Nat} {x : Int32} (hr : R ≤ 5) (hc : C ≤ 5) (e2 : F 2 0 = R) (e3 : F 2 1 = C) (hA : ∀ p, p < 25 → p / 5 < R → p % 5 < C → v p = x → A 147 p = nI (jmk 25 fun q => (jpx v R C x).testBit q && !jlie v R C p q)) : ∀ n row, row + n = R → ∀ d al c b h1, jAl v R C x c row al → jGc v R C x c → (∀ r, row ≤ r → c r = 5) → jGc v R C x b → jR (jup F 146 5 (jcS b)) A G g h1 → jD h h1 → ∀ {Q : List Value → jxH → Prop}, (∀ b' h2, jGc v R C x b' → jcN b ≤ jcN b' → (∀ e, jGc v R C x e → (∀ r, r < row → e r = c r) → jcN e ≤ jcN b') → jR (jup F 146 5 (jcS b')) A G g h2 → jD h h2 → Q [] h2) → jx_Go jxP (d + n + 1) 48 0 [.ref 146, .int (nI row), .int (nI al), .int (nI (jcS c)), jx_u, jx_u, jx_u, jx_u] [] h1 Q := by
  intro n
  induction n with
  | zero =>
    intro row hrow d al c b h1 hal hG hn hB hR1 hD1 Q kk
    have lc := jcN_le (c := c)
    have lb := jcN_le (c := b)
    have sc := jcS_lt (c := c)
    have fb : jup F 146 5 (jcS b) 146 5 = jcS b := jup_same
    have top : ∀ e, jGc v R C x e → (∀ r, r < row → e r = c r) → jcN e ≤ jcN c := by
      intro e he h2
      have := jcN_up (R := R) (by omega) h2 hn hr (fun r hr' => by
        rcases Nat.lt_or_ge (e r) 5 with w | w
        · have := (he.2.1 r w).1; omega
        · exact w)
      omega
    simp (disch := omega) only [s48_0, s48_1, s48_4, s48_6, s48_7, s48_10, s48_13, s48_15, s48_17, Option.some.injEq, exists_eq_left', exists_eq_left, List.cons_append, List.nil_append, List.length_nil, List.length_cons, Nat.reduceAdd, Nat.reduceMul, Nat.reduceSub, Nat.reduceLeDiff, true_and, and_true, ↓reduceIte, not_false_eq_true, not_true_eq_false, nI_add, pk_mul, jn_ltT, jn_ltF, jn_leT, jn_leF, jn_eqT, jn_eqF, jn_lt0, jn_ge0, jn_eq0T, jn_eq0F, jn_in, jn_cl, in_bitCount, jcS_bc hG.1, jcS_bc hB.1, jf_146_5 hR1, fb]
    by_cases w : jcN c ≤ jcN b
    · simp (disch := omega) only [s48_19, s48_31, s48_32, s48_33, s48_36, s48_39, s48_59, Option.some.injEq, exists_eq_left', exists_eq_left, List.cons_append, List.nil_append, List.length_nil, List.length_cons, Nat.reduceAdd, Nat.reduceMul, Nat.reduceSub, Nat.reduceLeDiff, true_and, and_true, ↓reduceIte, not_false_eq_true, not_true_eq_false, nI_add, pk_mul, jn_ltT, jn_ltF, jn_leT, jn_leF, jn_eqT, jn_eqF, jn_lt0, jn_ge0, jn_eq0T, jn_eq0F, jn_in, jn_cl, jf_146_0 hR1, jf_2_0 hR1, show jup F 146 5 (jcS b) 2 0 = R from e2]
      exact kk b h1 hB (Nat.le_refl _) (fun e he h2 => by have := top e he h2; omega) hR1 hD1
    · have hR2 := hR1.uf (o := 146) (k := 5) (v := jcS c) rfl rfl
      rw [jup_jup] at hR2
      have hD2 := hD1.uf (a := 146) (k := 5) (v := .int (nI (jcS c))) (by decide)
      simp (disch := omega) only [s48_19, s48_22, s48_23, s48_24, s48_27, s48_29, Option.some.injEq, exists_eq_left', exists_eq_left, List.cons_append, List.nil_append, List.length_nil, List.length_cons, Nat.reduceAdd, Nat.reduceMul, Nat.reduceSub, Nat.reduceLeDiff, true_and, and_true, ↓reduceIte, not_false_eq_true, not_true_eq_false, nI_add, pk_mul, jn_ltT, jn_ltF, jn_leT, jn_leF, jn_eqT, jn_eqF, jn_lt0, jn_ge0, jn_eq0T, jn_eq0F, jn_in, jn_cl, jf_146_5 hR1]
      generalize jx_uf h1 146 5 (.int (nI (jcS c))) = h2 at hR2 hD2 ⊢
      simp (disch := omega) only [s48_31, s48_32, s48_33, s48_36, s48_39, s48_59, Option.some.injEq, exists_eq_left', exists_eq_left, List.cons_append, List.nil_append, List.length_nil, List.length_cons, Nat.reduceAdd, Nat.reduceMul, Nat.reduceSub, Nat.reduceLeDiff, true_and, and_true, ↓reduceIte, not_false_eq_true, not_true_eq_false, nI_add, pk_mul, jn_ltT, jn_ltF, jn_leT, jn_leF, jn_eqT, jn_eqF, jn_lt0, jn_ge0, jn_eq0T, jn_eq0F, jn_in, jn_cl, jf_146_0 hR2, jf_2_0 hR2, show jup F 146 5 (jcS c) 2 0 = R from e2]
      exact kk c h2 hG (by omega) (fun e he h2 => top e he h2) hR2 hD2
  | succ n ih =>
    intro row hrow d al c b h1 hal hG hn hB hR1 hD1 Q kk
    have lc := jcN_le (c := c)
    have lb := jcN_le (c := b)
    have sc := jcS_lt (c := c)
    have fb : jup F 146 5 (jcS b) 146 5 = jcS b := jup_same
    have up : ∀ e, jGc v R C x e → (∀ r, r < row → e r = c r) → jcN e ≤ jcN c + (R - row) := fun e he h2 => jcN_up (R := R) (by omega) h2 hn hr (fun r hr' => by
      rcases Nat.lt_or_ge (e r) 5 with w | w
      · have := (he.2.1 r w).1; omega
      · exact w)
    -- from 31 on, with the better of both
    have st : ∀ b1 h1 , jGc v R C x b1 → jcN b ≤ jcN b1 → jcN c ≤ jcN b1 → jR (jup F 146 5 (jcS b1)) A G g h1 → jD h h1 → jx_Go jxP (d + (n + 1) + 1) 48 31 [.ref 146, .int (nI row), .int (nI al), .int (nI (jcS c)), .int (nI (jcN c)), .int (nI (jcN b1)), jx_u, jx_u] [] h1 Q := by
      intro b1 h1 hB1 n1 n2 hR1 hD1
      have lb1 := jcN_le (c := b1)
      rcases Nat.lt_or_ge (jcN b1) (jcN c + R - row) with w | w
      · simp (disch := omega) only [s48_31, s48_32, s48_33, s48_36, s48_39, s48_42, s48_44, s48_45, s48_48, s48_51, s48_52, s48_53, s48_54, s48_56, s48_60, s48_61, Option.some.injEq, exists_eq_left', exists_eq_left, List.cons_append, List.nil_append, List.length_nil, List.length_cons, Nat.reduceAdd, Nat.reduceMul, Nat.reduceSub, Nat.reduceLeDiff, true_and, and_true, ↓reduceIte, not_false_eq_true, not_true_eq_false, nI_add, pk_mul, jn_ltT, jn_ltF, jn_leT, jn_leF, jn_eqT, jn_eqF, jn_lt0, jn_ge0, jn_eq0T, jn_eq0F, jn_in, jn_cl, jf_146_0 hR1, jf_2_0 hR1, show jup F 146 5 (jcS b1) 2 0 = R from e2, jn_sub]
        refine jloop (fun col => ∀ b2 h1 w7, jGc v R C x b2 → jcN b ≤ jcN b2 → (∀ e, jGc v R C x e → (∀ r, r < row → e r = c r) → e row < col → jcN e ≤ jcN b2) → jR (jup F 146 5 (jcS b2)) A G g h1 → jD h h1 → jx_Go jxP (d + (n + 1) + 1) 48 63 [.ref 146, .int (nI row), .int (nI al), .int (nI (jcS c)), .int (nI (jcN c)), .int (nI (jcN b1)), .int (nI col), w7] [] h1 Q) C ?_ ?_ 0 (Nat.zero_le _) b1 h1 _ hB1 n1 (fun e _ _ z => by omega) hR1 hD1
        · intro b2 h1 w7 hB2 m1 m2 hR1 hD1
          rw [s48_63]
          simp (disch := omega) only [s48_65, s48_66, s48_69, s48_72, s48_121, s48_122, s48_123, s48_124, s48_125, s48_126, s48_127, Option.some.injEq, exists_eq_left', exists_eq_left, List.cons_append, List.nil_append, List.length_nil, List.length_cons, Nat.reduceAdd, Nat.reduceMul, Nat.reduceSub, Nat.reduceLeDiff, true_and, and_true, ↓reduceIte, not_false_eq_true, not_true_eq_false, nI_add, pk_mul, jn_ltT, jn_ltF, jn_leT, jn_leF, jn_eqT, jn_eqF, jn_lt0, jn_ge0, jn_eq0T, jn_eq0F, jn_in, jn_cl, jf_146_0 hR1, jf_2_1 hR1, show jup F 146 5 (jcS b2) 2 1 = C from e3, jc_of_146 hR1]
          refine ih (row + 1) (by omega) d al c b2 h1 ⟨hal.1, fun p hp => ?_⟩ hG (fun r hr' => hn r (by omega)) hB2 hR1 hD1 (fun b' h2 hb1 hb2 hb3 hR2 hD2 => ?_)
          · rw [hal.2 p (by omega)]
            constructor
            · rintro ⟨a1, a2, a3, a4⟩
              refine ⟨a1, a2, a3, fun r hr' h5 => ?_⟩
              rcases (show r < row ∨ r = row by omega) with z | z
              · exact a4 r z h5
              · subst z; rw [hn r (Nat.le_refl _)] at h5; omega
            · rintro ⟨a1, a2, a3, a4⟩
              exact ⟨a1, a2, a3, fun r hr' h5 => a4 r (by omega) h5⟩
          · simp (disch := omega) only [s48_130, Option.some.injEq, exists_eq_left', exists_eq_left, List.cons_append, List.nil_append, List.length_nil, List.length_cons, Nat.reduceAdd, Nat.reduceMul, Nat.reduceSub, Nat.reduceLeDiff, true_and, and_true, ↓reduceIte, not_false_eq_true, not_true_eq_false, nI_add, pk_mul, jn_ltT, jn_ltF, jn_leT, jn_leF, jn_eqT, jn_eqF, jn_lt0, jn_ge0, jn_eq0T, jn_eq0F, jn_in, jn_cl]
            refine kk b' h2 hb1 (by omega) (fun e he h3 => ?_) hR2 hD2
            rcases Nat.lt_or_ge (e row) 5 with z | z
            · have := m2 e he h3 (he.2.1 row z).2.1
              omega
            · refine hb3 e he (fun r hr' => ?_)
              rcases (show r < row ∨ r = row by omega) with y | y
              · exact h3 r y
              · subst y
                have := he.1 r
                rw [hn r (Nat.le_refl _)]; omega
        · intro col hcol ihc b2 h1 w7 hB2 m1 m2 hR1 hD1
          have ap := hal.2 (5 * row + col) (by omega)
          have al31 := hal.1
          rw [show (5 * row + col) / 5 = row by omega, show (5 * row + col) % 5 = col by omega] at ap
          rw [s48_63]
          simp (disch := omega) only [s48_65, s48_66, s48_69, s48_72, s48_75, s48_76, s48_77, s48_78, s48_80, s48_81, s48_83, s48_84, s48_86, s48_87, s48_88, s48_89, Option.some.injEq, exists_eq_left', exists_eq_left, List.cons_append, List.nil_append, List.length_nil, List.length_cons, Nat.reduceAdd, Nat.reduceMul, Nat.reduceSub, Nat.reduceLeDiff, true_and, and_true, ↓reduceIte, not_false_eq_true, not_true_eq_false, nI_add, pk_mul, jn_ltT, jn_ltF, jn_leT, jn_leF, jn_eqT, jn_eqF, jn_lt0, jn_ge0, jn_eq0T, jn_eq0F, jn_in, jn_cl, jf_146_0 hR1, jf_2_1 hR1, show jup F 146 5 (jcS b2) 2 1 = C from e3, jsh_bit]
          by_cases q : al.testBit (5 * row + col) = true
          · obtain ⟨a1, a2, a3, a4⟩ := ap.mp q
            have eA := hA (5 * row + col) (by omega) (by omega) (by omega) a3
            rw [if_pos q]
            have hcr := hn row (Nat.le_refl _)
            simp (disch := omega) only [s48_90, s48_93, s48_94, s48_95, s48_96, s48_97, s48_98, s48_99, s48_102, s48_104, s48_105, s48_106, s48_107, s48_108, s48_110, s48_111, s48_112, Option.some.injEq, exists_eq_left', exists_eq_left, List.cons_append, List.nil_append, List.length_nil, List.length_cons, Nat.reduceAdd, Nat.reduceMul, Nat.reduceSub, Nat.reduceLeDiff, true_and, and_true, ↓reduceIte, not_false_eq_true, not_true_eq_false, nI_add, pk_mul, jn_ltT, jn_ltF, jn_leT, jn_leF, jn_eqT, jn_eqF, jn_lt0, jn_ge0, jn_eq0T, jn_eq0F, jn_in, jn_cl, jf_146_2 hR1, ja_147 hR1, eA, jn_and, jsh1, jn_or, jcS_up, jc_of_146 hR1]
            refine ih (row + 1) (by omega) d _ (jcu c row col) b2 h1 ⟨Nat.lt_of_le_of_lt Nat.and_le_left hal.1, fun p hp => ?_⟩ ⟨fun r => ?_, fun r h5 => ?_, fun r r' h6 h7 h8 => ?_⟩ (fun r hr' => ?_) hB2 hR1 hD1 (fun b' h2 hb1 hb2 hb3 hR2 hD2 => ?_)
            · rw [Nat.testBit_and, Bool.and_eq_true, hal.2 p (by omega), jmk_bit, Bool.and_eq_true, Bool.and_eq_true, decide_eq_true_iff, jpx_bit, Bool.and_eq_true, Bool.and_eq_true, decide_eq_true_iff, decide_eq_true_iff, beq_iff_eq]
              constructor
              · rintro ⟨⟨b1, b2, b3, b4⟩, b5, b6, b7⟩
                refine ⟨b1, b2, b3, fun r hr' h5 => ?_⟩
                rcases (show r < row ∨ r = row by omega) with z | z
                · rw [jcu_n (by omega)] at h5 ⊢
                  exact b4 r z h5
                · subst z
                  rw [jcu_s]
                  cases u : jlie v R C (5 * r + col) p with
                  | false => rfl
                  | true => rw [u] at b7; cases b7
              · rintro ⟨b1, b2, b3, b4⟩
                refine ⟨⟨b1, b2, b3, fun r hr' h5 => ?_⟩, by omega, ⟨by omega, b2, b3⟩, ?_⟩
                · have := b4 r (by omega)
                  rw [jcu_n (by omega)] at this
                  exact this h5
                · have := b4 row (by omega)
                  rw [jcu_s] at this
                  rw [this (by omega)]
                  rfl
            · by_cases z : r = row
              · rw [z, jcu_s]; omega
              · rw [jcu_n z]; exact hG.1 r
            · by_cases z : r = row
              · rw [z, jcu_s]; exact ⟨a1, a2, a3⟩
              · rw [jcu_n z] at h5 ⊢; exact hG.2.1 r h5
            · by_cases z : r = row
              · subst z
                rw [jcu_s, jcu_n (by omega)]
                rw [jcu_n (by omega)] at h8
                exact a4 r' (by omega) h8
              · rw [jcu_n z] at h7 ⊢
                have rr : r < row := by
                  rcases Nat.lt_or_ge r row with y | y
                  · exact y
                  · rw [hn r y] at h7; omega
                rw [jcu_n (by omega)] at h8 ⊢
                exact hG.2.2 r r' h6 h7 h8
            · rw [jcu_n (by omega)]; exact hn r (by omega)
            · simp (disch := omega) only [s48_115, s48_118, Option.some.injEq, exists_eq_left', exists_eq_left, List.cons_append, List.nil_append, List.length_nil, List.length_cons, Nat.reduceAdd, Nat.reduceMul, Nat.reduceSub, Nat.reduceLeDiff, true_and, and_true, ↓reduceIte, not_false_eq_true, not_true_eq_false, nI_add, pk_mul, jn_ltT, jn_ltF, jn_leT, jn_leF, jn_eqT, jn_eqF, jn_lt0, jn_ge0, jn_eq0T, jn_eq0F, jn_in, jn_cl]
              refine ihc b' h2 _ hb1 (by omega) (fun e he h3 h4 => ?_) hR2 hD2
              rcases (show e row < col ∨ e row = col by omega) with z | z
              · have := m2 e he h3 z; omega
              · refine hb3 e he (fun r hr' => ?_)
                rcases (show r < row ∨ r = row by omega) with y | y
                · rw [jcu_n (by omega)]; exact h3 r y
                · rw [y, jcu_s]; exact z
          · rw [if_neg q]
            simp (disch := omega) only [s48_90, s48_115, s48_118, Option.some.injEq, exists_eq_left', exists_eq_left, List.cons_append, List.nil_append, List.length_nil, List.length_cons, Nat.reduceAdd, Nat.reduceMul, Nat.reduceSub, Nat.reduceLeDiff, true_and, and_true, ↓reduceIte, not_false_eq_true, not_true_eq_false, nI_add, pk_mul, jn_ltT, jn_ltF, jn_leT, jn_leF, jn_eqT, jn_eqF, jn_lt0, jn_ge0, jn_eq0T, jn_eq0F, jn_in, jn_cl]
            refine ihc b2 h1 _ hB2 m1 (fun e he h3 h4 => ?_) hR1 hD1
            rcases (show e row < col ∨ e row = col by omega) with z | z
            · exact m2 e he h3 z
            · exfalso
              apply q
              apply ap.mpr
              obtain ⟨g1, g2, g3⟩ := he.2.1 row (by omega)
              rw [z] at g2 g3
              refine ⟨g1, g2, g3, fun r hr' h5 => ?_⟩
              have := he.2.2 row r hr' (by omega) (by rw [h3 r hr']; exact h5)
              rw [h3 r hr', z] at this
              exact this
      · simp (disch := omega) only [s48_31, s48_32, s48_33, s48_36, s48_39, s48_42, s48_44, s48_45, s48_48, s48_51, s48_52, s48_53, s48_54, s48_56, s48_59, Option.some.injEq, exists_eq_left', exists_eq_left, List.cons_append, List.nil_append, List.length_nil, List.length_cons, Nat.reduceAdd, Nat.reduceMul, Nat.reduceSub, Nat.reduceLeDiff, true_and, and_true, ↓reduceIte, not_false_eq_true, not_true_eq_false, nI_add, pk_mul, jn_ltT, jn_ltF, jn_leT, jn_leF, jn_eqT, jn_eqF, jn_lt0, jn_ge0, jn_eq0T, jn_eq0F, jn_in, jn_cl, jf_146_0 hR1, jf_2_0 hR1, show jup F 146 5 (jcS b1) 2 0 = R from e2, jn_sub]
        exact kk b1 h1 hB1 n1 (fun e he h2 => by have := up e he h2; omega) hR1 hD1
    simp (disch := omega) only [s48_0, s48_1, s48_4, s48_6, s48_7, s48_10, s48_13, s48_15, s48_17, Option.some.injEq, exists_eq_left', exists_eq_left, List.cons_append, List.nil_append, List.length_nil, List.length_cons, Nat.reduceAdd, Nat.reduceMul, Nat.reduceSub, Nat.reduceLeDiff, true_and, and_true, ↓reduceIte, not_false_eq_true, not_true_eq_false, nI_add, pk_mul, jn_ltT, jn_ltF, jn_leT, jn_leF, jn_eqT, jn_eqF, jn_lt0, jn_ge0, jn_eq0T, jn_eq0F, jn_in, jn_cl, in_bitCount, jcS_bc hG.1, jcS_bc hB.1, jf_146_5 hR1, fb]
    by_cases w : jcN c ≤ jcN b
    · simp (disch := omega) only [s48_19, Option.some.injEq, exists_eq_left', exists_eq_left, List.cons_append, List.nil_append, List.length_nil, List.length_cons, Nat.reduceAdd, Nat.reduceMul, Nat.reduceSub, Nat.reduceLeDiff, true_and, and_true, ↓reduceIte, not_false_eq_true, not_true_eq_false, nI_add, pk_mul, jn_ltT, jn_ltF, jn_leT, jn_leF, jn_eqT, jn_eqF, jn_lt0, jn_ge0, jn_eq0T, jn_eq0F, jn_in, jn_cl]
      exact st b h1 hB (Nat.le_refl _) w hR1 hD1
    · have hR2 := hR1.uf (o := 146) (k := 5) (v := jcS c) rfl rfl
      rw [jup_jup] at hR2
      have hD2 := hD1.uf (a := 146) (k := 5) (v := .int (nI (jcS c))) (by decide)
      simp (disch := omega) only [s48_19, s48_22, s48_23, s48_24, s48_27, s48_29, Option.some.injEq, exists_eq_left', exists_eq_left, List.cons_append, List.nil_append, List.length_nil, List.length_cons, Nat.reduceAdd, Nat.reduceMul, Nat.reduceSub, Nat.reduceLeDiff, true_and, and_true, ↓reduceIte, not_false_eq_true, not_true_eq_false, nI_add, pk_mul, jn_ltT, jn_ltF, jn_leT, jn_leF, jn_eqT, jn_eqF, jn_lt0, jn_ge0, jn_eq0T, jn_eq0F, jn_in, jn_cl, jf_146_5 hR1]
      exact st c _ hG (by omega) (Nat.le_refl _) hR2 hD2
end CL17
