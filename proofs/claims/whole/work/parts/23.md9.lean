/-! ===== the reference: blocks ===== -/
section MD9
variable {d : Nat} {F : Nat → Nat → Nat} {A : Nat → Nat → Int32} {G : Nat → Option Nat} {g : Nat → Int64} {h : jxH} {Q : List Value → jxH → Prop}
def jany (n : Nat) (f : Nat → Bool) : Bool := match n with
  | 0 => false
  | n + 1 => jany n f || f n
theorem jany_s {n : Nat} {f : Nat → Bool} : jany (n + 1) f = (jany n f || f n) := rfl
theorem jany_iff {n : Nat} {f : Nat → Bool} : jany n f = true ↔ ∃ i, i < n ∧ f i = true := by
  induction n with
  | zero => exact ⟨fun e => (by cases e), fun ⟨i, hi, _⟩ => (by omega)⟩
  | succ n ih =>
    rw [jany_s, Bool.or_eq_true, ih]
    constructor
    · rintro (⟨i, hi, e⟩ | e)
      · exact ⟨i, by omega, e⟩
      · exact ⟨n, by omega, e⟩
    · rintro ⟨i, hi, e⟩
      rcases Nat.lt_succ_iff_lt_or_eq.mp hi with w | w
      · exact Or.inl ⟨i, w, e⟩
      · exact Or.inr (w ▸ e)
/-- the places are 0, 1 or 2 -/
def jV (v : Nat → Int32) (R C : Nat) : Prop := ∀ r c, r < R → c < C → v (5 * r + c) = nI 0 ∨ v (5 * r + c) = nI 1 ∨ v (5 * r + c) = nI 2
/-- the block B has a place that is x -/
def jhz (v : Nat → Int32) (R C B : Nat) (x : Int32) : Bool := jany R fun r => jany C fun c => (B / 32).testBit r && ((B % 32).testBit c && v (5 * r + c) == x)
def jhas (v : Nat → Int32) (R C B : Nat) : Nat := (jhz v R C B (nI 0)).toNat + 2 * (jhz v R C B (nI 1)).toNat
theorem jhas_le {v : Nat → Int32} {R C B : Nat} : jhas v R C B ≤ 3 := by
  have := jb_le (jhz v R C B (nI 0))
  have := jb_le (jhz v R C B (nI 1))
  unfold jhas; omega
theorem jsh5 : ∀ B, B < 1024 → nI B >>> (nI 5 &&& 31) = nI (B / 32) := by decide +kernel
theorem jan31 : ∀ B, B < 1024 → nI B &&& nI 31 = nI (B % 32) := by decide +kernel
theorem jsh1 : ∀ k, k < 31 → nI 1 <<< (nI k &&& 31) = nI (2 ^ k) := by decide +kernel
theorem jp2 : ∀ k, k ≤ 5 → 1 ≤ 2 ^ k ∧ 2 ^ k ≤ 32 := by decide +kernel
theorem jor0 (a b : Bool) : nI (a.toNat + 2 * b.toNat) ||| nI 1 <<< (nI 0 &&& 31) = nI ((a || true).toNat + 2 * (b || false).toNat) := by cases a <;> cases b <;> decide +kernel
theorem jor1 (a b : Bool) : nI (a.toNat + 2 * b.toNat) ||| nI 1 <<< (nI 1 &&& 31) = nI ((a || false).toNat + 2 * (b || true).toNat) := by cases a <;> cases b <;> decide +kernel
theorem md_all (hR : jR F A G g h) (hr : F 149 0 ≤ 5) (hc : F 149 1 ≤ 5) : jx_Go jxP d 154 0 [.ref 149] [] h Q ↔ Q [.int (nI (32 * (2 ^ F 149 0 - 1) + 2 ^ F 149 1 - 1))] h := by
  have := jp2 _ hr
  have := jp2 _ hc
  simp (disch := omega) only [s154_0, s154_2, s154_3, s154_4, s154_7, s154_8, s154_9, s154_10, s154_11, s154_12, s154_13, s154_16, s154_17, s154_18, s154_19, s154_20, Option.some.injEq, exists_eq_left', exists_eq_left, List.cons_append, List.nil_append, List.length_nil, List.length_cons, Nat.reduceAdd, Nat.reduceMul, Nat.reduceSub, Nat.reduceLeDiff, true_and, and_true, ↓reduceIte, not_false_eq_true, not_true_eq_false, nI_add, pk_mul, jn_ltT, jn_ltF, jn_leT, jn_leF, jn_eqT, jn_eqF, jn_lt0, jn_ge0, jn_eq0T, jn_eq0F, jn_in, jn_cl, jf_149_0 hR, jf_149_1 hR, jsh1, jn_sub]
theorem md_has (hR : jR F A G g h) (hr : F 149 0 ≤ 5) (hc : F 149 1 ≤ 5) (hv : jV (A 150) (F 149 0) (F 149 1)) {B : Nat} (hB : B < 1024) (k : Q [.int (nI (jhas (A 150) (F 149 0) (F 149 1) B))] h) : jx_Go jxP (d + 1) 155 0 [.ref 149, .int (nI B), jx_u, jx_u, jx_u] [] h Q := by
  simp (disch := omega) only [s155_0, s155_1, s155_2, s155_3, Option.some.injEq, exists_eq_left', exists_eq_left, List.cons_append, List.nil_append, List.length_nil, List.length_cons, Nat.reduceAdd, Nat.reduceMul, Nat.reduceSub, Nat.reduceLeDiff, true_and, and_true, ↓reduceIte, not_false_eq_true, not_true_eq_false, nI_add, pk_mul, jn_ltT, jn_ltF, jn_leT, jn_leF, jn_eqT, jn_eqF, jn_lt0, jn_ge0, jn_eq0T, jn_eq0F, jn_in, jn_cl]
  refine jloop (fun r => ∀ w4, jx_Go jxP (d + 1) 155 4 [.ref 149, .int (nI B), .int (nI ((jhz (A 150) r (F 149 1) B (nI 0)).toNat + 2 * (jhz (A 150) r (F 149 1) B (nI 1)).toNat)), .int (nI r), w4] [] h Q) (F 149 0) ?_ ?_ 0 (Nat.zero_le _) _
  · intro w4
    rw [s155_4]
    simp (disch := omega) only [s155_5, s155_6, s155_9, s155_89, s155_90, Option.some.injEq, exists_eq_left', exists_eq_left, List.cons_append, List.nil_append, List.length_nil, List.length_cons, Nat.reduceAdd, Nat.reduceMul, Nat.reduceSub, Nat.reduceLeDiff, true_and, and_true, ↓reduceIte, not_false_eq_true, not_true_eq_false, nI_add, pk_mul, jn_ltT, jn_ltF, jn_leT, jn_leF, jn_eqT, jn_eqF, jn_lt0, jn_ge0, jn_eq0T, jn_eq0F, jn_in, jn_cl, jf_149_0 hR]
    exact k
  · intro r hr' ih w4
    rw [s155_4]
    simp (disch := omega) only [s155_5, s155_6, s155_9, s155_12, s155_13, Option.some.injEq, exists_eq_left', exists_eq_left, List.cons_append, List.nil_append, List.length_nil, List.length_cons, Nat.reduceAdd, Nat.reduceMul, Nat.reduceSub, Nat.reduceLeDiff, true_and, and_true, ↓reduceIte, not_false_eq_true, not_true_eq_false, nI_add, pk_mul, jn_ltT, jn_ltF, jn_leT, jn_leF, jn_eqT, jn_eqF, jn_lt0, jn_ge0, jn_eq0T, jn_eq0F, jn_in, jn_cl, jf_149_0 hR]
    refine jloop (fun c => jx_Go jxP (d + 1) 155 15 [.ref 149, .int (nI B), .int (nI ((jhz (A 150) r (F 149 1) B (nI 0) || jany c fun c => (B / 32).testBit r && ((B % 32).testBit c && A 150 (5 * r + c) == nI 0)).toNat + 2 * (jhz (A 150) r (F 149 1) B (nI 1) || jany c fun c => (B / 32).testBit r && ((B % 32).testBit c && A 150 (5 * r + c) == nI 1)).toNat)), .int (nI r), .int (nI c)] [] h Q) (F 149 1) ?_ ?_ 0 (Nat.zero_le _) |> (fun z => by simpa only [jany, Bool.or_false] using z)
    · rw [s155_15]
      simp (disch := omega) only [s155_17, s155_18, s155_21, s155_83, s155_86, Option.some.injEq, exists_eq_left', exists_eq_left, List.cons_append, List.nil_append, List.length_nil, List.length_cons, Nat.reduceAdd, Nat.reduceMul, Nat.reduceSub, Nat.reduceLeDiff, true_and, and_true, ↓reduceIte, not_false_eq_true, not_true_eq_false, nI_add, pk_mul, jn_ltT, jn_ltF, jn_leT, jn_leF, jn_eqT, jn_eqF, jn_lt0, jn_ge0, jn_eq0T, jn_eq0F, jn_in, jn_cl, jf_149_1 hR]
      exact ih _
    · intro c hc' ih2
      rw [s155_15]
      simp (disch := omega) only [s155_17, s155_18, s155_21, s155_24, s155_25, s155_26, s155_27, s155_28, Option.some.injEq, exists_eq_left', exists_eq_left, List.cons_append, List.nil_append, List.length_nil, List.length_cons, Nat.reduceAdd, Nat.reduceMul, Nat.reduceSub, Nat.reduceLeDiff, true_and, and_true, ↓reduceIte, not_false_eq_true, not_true_eq_false, nI_add, pk_mul, jn_ltT, jn_ltF, jn_leT, jn_leF, jn_eqT, jn_eqF, jn_lt0, jn_ge0, jn_eq0T, jn_eq0F, jn_in, jn_cl, jf_149_1 hR, jsh5, md_in]
      simp only [jany_s, ← Bool.or_assoc] at ih2
      generalize (jhz (A 150) r (F 149 1) B (nI 0) || jany c fun c => (B / 32).testBit r && ((B % 32).testBit c && A 150 (5 * r + c) == nI 0)) = a at ih2 ⊢
      generalize (jhz (A 150) r (F 149 1) B (nI 1) || jany c fun c => (B / 32).testBit r && ((B % 32).testBit c && A 150 (5 * r + c) == nI 1)) = b at ih2 ⊢
      cases e1 : (B / 32).testBit r with
      | false =>
        simp only [e1, Bool.false_and, Bool.or_false] at ih2
        simp (disch := omega) only [s155_31, s155_77, s155_80, Option.some.injEq, exists_eq_left', exists_eq_left, List.cons_append, List.nil_append, List.length_nil, List.length_cons, Nat.reduceAdd, Nat.reduceMul, Nat.reduceSub, Nat.reduceLeDiff, true_and, and_true, ↓reduceIte, not_false_eq_true, not_true_eq_false, nI_add, pk_mul, jn_ltT, jn_ltF, jn_leT, jn_leF, jn_eqT, jn_eqF, jn_lt0, jn_ge0, jn_eq0T, jn_eq0F, jn_in, jn_cl, Bool.false_eq_true]
        exact ih2
      | true =>
        simp (disch := omega) only [s155_31, s155_34, s155_35, s155_37, s155_38, s155_40, Option.some.injEq, exists_eq_left', exists_eq_left, List.cons_append, List.nil_append, List.length_nil, List.length_cons, Nat.reduceAdd, Nat.reduceMul, Nat.reduceSub, Nat.reduceLeDiff, true_and, and_true, ↓reduceIte, not_false_eq_true, not_true_eq_false, nI_add, pk_mul, jn_ltT, jn_ltF, jn_leT, jn_leF, jn_eqT, jn_eqF, jn_lt0, jn_ge0, jn_eq0T, jn_eq0F, jn_in, jn_cl, jan31, md_in]
        cases e2 : (B % 32).testBit c with
        | false =>
          simp only [e1, e2, Bool.false_and, Bool.and_false, Bool.or_false] at ih2
          simp (disch := omega) only [s155_43, s155_77, s155_80, Option.some.injEq, exists_eq_left', exists_eq_left, List.cons_append, List.nil_append, List.length_nil, List.length_cons, Nat.reduceAdd, Nat.reduceMul, Nat.reduceSub, Nat.reduceLeDiff, true_and, and_true, ↓reduceIte, not_false_eq_true, not_true_eq_false, nI_add, pk_mul, jn_ltT, jn_ltF, jn_leT, jn_leF, jn_eqT, jn_eqF, jn_lt0, jn_ge0, jn_eq0T, jn_eq0F, jn_in, jn_cl, Bool.false_eq_true]
          exact ih2
        | true =>
          simp only [e1, e2, Bool.true_and] at ih2
          rcases hv r c hr' hc' with w | w | w
          · simp only [w, show (nI 0 == nI 0) = true by decide, show (nI 0 == nI 1) = false by decide] at ih2
            simp (disch := omega) only [s155_43, s155_46, s155_47, s155_50, s155_51, s155_52, s155_53, s155_55, s155_56, s155_57, s155_58, s155_61, s155_62, s155_63, s155_64, s155_67, s155_68, s155_69, s155_70, s155_72, s155_73, s155_74, s155_75, s155_76, s155_77, s155_80, Option.some.injEq, exists_eq_left', exists_eq_left, List.cons_append, List.nil_append, List.length_nil, List.length_cons, Nat.reduceAdd, Nat.reduceMul, Nat.reduceSub, Nat.reduceLeDiff, true_and, and_true, ↓reduceIte, not_false_eq_true, not_true_eq_false, nI_add, pk_mul, jn_ltT, jn_ltF, jn_leT, jn_leF, jn_eqT, jn_eqF, jn_lt0, jn_ge0, jn_eq0T, jn_eq0F, jn_in, jn_cl, jf_149_2 hR, ja_150 hR, w, jor0]
            exact ih2
          · simp only [w, show (nI 1 == nI 1) = true by decide, show (nI 1 == nI 0) = false by decide] at ih2
            simp (disch := omega) only [s155_43, s155_46, s155_47, s155_50, s155_51, s155_52, s155_53, s155_55, s155_56, s155_57, s155_58, s155_61, s155_62, s155_63, s155_64, s155_67, s155_68, s155_69, s155_70, s155_72, s155_73, s155_74, s155_75, s155_76, s155_77, s155_80, Option.some.injEq, exists_eq_left', exists_eq_left, List.cons_append, List.nil_append, List.length_nil, List.length_cons, Nat.reduceAdd, Nat.reduceMul, Nat.reduceSub, Nat.reduceLeDiff, true_and, and_true, ↓reduceIte, not_false_eq_true, not_true_eq_false, nI_add, pk_mul, jn_ltT, jn_ltF, jn_leT, jn_leF, jn_eqT, jn_eqF, jn_lt0, jn_ge0, jn_eq0T, jn_eq0F, jn_in, jn_cl, jf_149_2 hR, ja_150 hR, w, jor1]
            exact ih2
          · simp only [w, show (nI 2 == nI 0) = false by decide, show (nI 2 == nI 1) = false by decide, Bool.or_false] at ih2
            simp (disch := omega) only [s155_43, s155_46, s155_47, s155_50, s155_51, s155_52, s155_53, s155_55, s155_56, s155_57, s155_58, s155_61, s155_62, s155_63, s155_64, s155_67, s155_68, s155_69, s155_70, s155_72, s155_73, s155_74, s155_75, s155_76, s155_77, s155_80, Option.some.injEq, exists_eq_left', exists_eq_left, List.cons_append, List.nil_append, List.length_nil, List.length_cons, Nat.reduceAdd, Nat.reduceMul, Nat.reduceSub, Nat.reduceLeDiff, true_and, and_true, ↓reduceIte, not_false_eq_true, not_true_eq_false, nI_add, pk_mul, jn_ltT, jn_ltF, jn_leT, jn_leF, jn_eqT, jn_eqF, jn_lt0, jn_ge0, jn_eq0T, jn_eq0F, jn_in, jn_cl, jf_149_2 hR, ja_150 hR, w]
            exact ih2
/-- the block is even -/
def jev (v : Nat → Int32) (R C B : Nat) : Bool := decide (jhas v R C B ≠ 3)
theorem md_isEven (hR : jR F A G g h) (hr : F 149 0 ≤ 5) (hc : F 149 1 ≤ 5) (hv : jV (A 150) (F 149 0) (F 149 1)) {B : Nat} (hB : B < 1024) (k : Q [.int (nI (jev (A 150) (F 149 0) (F 149 1) B).toNat)] h) : jx_Go jxP (d + 2) 156 0 [.ref 149, .int (nI B)] [] h Q := by
  simp (disch := omega) only [s156_0, s156_1, s156_2, Option.some.injEq, exists_eq_left', exists_eq_left, List.cons_append, List.nil_append, List.length_nil, List.length_cons, Nat.reduceAdd, Nat.reduceMul, Nat.reduceSub, Nat.reduceLeDiff, true_and, and_true, ↓reduceIte, not_false_eq_true, not_true_eq_false, nI_add, pk_mul, jn_ltT, jn_ltF, jn_leT, jn_leF, jn_eqT, jn_eqF, jn_lt0, jn_ge0, jn_eq0T, jn_eq0F, jn_in, jn_cl, jc_of_149 hR]
  refine md_has hR hr hc hv hB ?_
  have := jhas_le (v := A 150) (R := F 149 0) (C := F 149 1) (B := B)
  unfold jev at k
  by_cases w : jhas (A 150) (F 149 0) (F 149 1) B = 3
  · rw [decide_eq_false (fun z => z w)] at k
    simp (disch := omega) only [s156_5, s156_6, s156_9, s156_10, s156_13, s156_14b0, s156_14b1, Option.some.injEq, exists_eq_left', exists_eq_left, List.cons_append, List.nil_append, List.length_nil, List.length_cons, Nat.reduceAdd, Nat.reduceMul, Nat.reduceSub, Nat.reduceLeDiff, true_and, and_true, ↓reduceIte, not_false_eq_true, not_true_eq_false, nI_add, pk_mul, jn_ltT, jn_ltF, jn_leT, jn_leF, jn_eqT, jn_eqF, jn_lt0, jn_ge0, jn_eq0T, jn_eq0F, jn_in, jn_cl]
    exact k
  · rw [decide_eq_true w] at k
    simp (disch := omega) only [s156_5, s156_6, s156_9, s156_10, s156_13, s156_14b0, s156_14b1, Option.some.injEq, exists_eq_left', exists_eq_left, List.cons_append, List.nil_append, List.length_nil, List.length_cons, Nat.reduceAdd, Nat.reduceMul, Nat.reduceSub, Nat.reduceLeDiff, true_and, and_true, ↓reduceIte, not_false_eq_true, not_true_eq_false, nI_add, pk_mul, jn_ltT, jn_ltF, jn_leT, jn_leF, jn_eqT, jn_eqF, jn_lt0, jn_ge0, jn_eq0T, jn_eq0F, jn_in, jn_cl]
    exact k
/-- B is a block -/
def jblk (R C B : Nat) : Bool := decide (0 < B / 32 ∧ B / 32 < 2 ^ R ∧ 0 < B % 32 ∧ B % 32 < 2 ^ C)
theorem jblk_iff {R C B : Nat} : jblk R C B = true ↔ 0 < B / 32 ∧ B / 32 < 2 ^ R ∧ 0 < B % 32 ∧ B % 32 < 2 ^ C := decide_eq_true_iff
theorem md_isBlock (hR : jR F A G g h) (hr : F 149 0 ≤ 5) (hc : F 149 1 ≤ 5) {B : Nat} (hB : B / 32 < 2 ^ F 149 0) : jx_Go jxP d 157 0 [.ref 149, .int (nI B)] [] h Q ↔ Q [.int (nI (if jblk (F 149 0) (F 149 1) B = true then 1 else 0))] h := by
  have := jp2 _ hr
  have := jp2 _ hc
  simp (disch := omega) only [s157_0, s157_1, s157_2, s157_3, Option.some.injEq, exists_eq_left', exists_eq_left, List.cons_append, List.nil_append, List.length_nil, List.length_cons, Nat.reduceAdd, Nat.reduceMul, Nat.reduceSub, Nat.reduceLeDiff, true_and, and_true, ↓reduceIte, not_false_eq_true, not_true_eq_false, nI_add, pk_mul, jn_ltT, jn_ltF, jn_leT, jn_leF, jn_eqT, jn_eqF, jn_lt0, jn_ge0, jn_eq0T, jn_eq0F, jn_in, jn_cl, jsh5]
  by_cases w1 : B / 32 = 0
  · rw [if_neg (show ¬ jblk (F 149 0) (F 149 1) B = true by rw [jblk_iff]; omega)]
    simp (disch := omega) only [s157_3, s157_6, s157_7, s157_9, s157_10, s157_13, s157_14, s157_16, s157_17, s157_18, s157_19, s157_22, s157_23, s157_26, s157_27, s157_30, s157_31b0, s157_31b1, Option.some.injEq, exists_eq_left', exists_eq_left, List.cons_append, List.nil_append, List.length_nil, List.length_cons, Nat.reduceAdd, Nat.reduceMul, Nat.reduceSub, Nat.reduceLeDiff, true_and, and_true, ↓reduceIte, not_false_eq_true, not_true_eq_false, nI_add, pk_mul, jn_ltT, jn_ltF, jn_leT, jn_leF, jn_eqT, jn_eqF, jn_lt0, jn_ge0, jn_eq0T, jn_eq0F, jn_in, jn_cl, jan31]
  · simp (disch := omega) only [s157_3, s157_6, s157_7, s157_9, s157_10, Option.some.injEq, exists_eq_left', exists_eq_left, List.cons_append, List.nil_append, List.length_nil, List.length_cons, Nat.reduceAdd, Nat.reduceMul, Nat.reduceSub, Nat.reduceLeDiff, true_and, and_true, ↓reduceIte, not_false_eq_true, not_true_eq_false, nI_add, pk_mul, jn_ltT, jn_ltF, jn_leT, jn_leF, jn_eqT, jn_eqF, jn_lt0, jn_ge0, jn_eq0T, jn_eq0F, jn_in, jn_cl, jan31]
    by_cases w2 : B % 32 = 0
    · rw [if_neg (show ¬ jblk (F 149 0) (F 149 1) B = true by rw [jblk_iff]; omega)]
      simp (disch := omega) only [s157_10, s157_13, s157_14, s157_16, s157_17, s157_18, s157_19, s157_22, s157_23, s157_26, s157_27, s157_30, s157_31b0, s157_31b1, Option.some.injEq, exists_eq_left', exists_eq_left, List.cons_append, List.nil_append, List.length_nil, List.length_cons, Nat.reduceAdd, Nat.reduceMul, Nat.reduceSub, Nat.reduceLeDiff, true_and, and_true, ↓reduceIte, not_false_eq_true, not_true_eq_false, nI_add, pk_mul, jn_ltT, jn_ltF, jn_leT, jn_leF, jn_eqT, jn_eqF, jn_lt0, jn_ge0, jn_eq0T, jn_eq0F, jn_in, jn_cl, jan31]
    · simp (disch := omega) only [s157_10, s157_13, s157_14, s157_16, s157_17, s157_18, s157_19, s157_22, Option.some.injEq, exists_eq_left', exists_eq_left, List.cons_append, List.nil_append, List.length_nil, List.length_cons, Nat.reduceAdd, Nat.reduceMul, Nat.reduceSub, Nat.reduceLeDiff, true_and, and_true, ↓reduceIte, not_false_eq_true, not_true_eq_false, nI_add, pk_mul, jn_ltT, jn_ltF, jn_leT, jn_leF, jn_eqT, jn_eqF, jn_lt0, jn_ge0, jn_eq0T, jn_eq0F, jn_in, jn_cl, jan31, jf_149_1 hR, jsh1]
      by_cases w3 : B % 32 < 2 ^ F 149 1
      · rw [if_pos (jblk_iff.mpr ⟨by omega, hB, by omega, w3⟩)]
        simp (disch := omega) only [s157_23, s157_26, s157_27, s157_30, s157_31b0, s157_31b1, Option.some.injEq, exists_eq_left', exists_eq_left, List.cons_append, List.nil_append, List.length_nil, List.length_cons, Nat.reduceAdd, Nat.reduceMul, Nat.reduceSub, Nat.reduceLeDiff, true_and, and_true, ↓reduceIte, not_false_eq_true, not_true_eq_false, nI_add, pk_mul, jn_ltT, jn_ltF, jn_leT, jn_leF, jn_eqT, jn_eqF, jn_lt0, jn_ge0, jn_eq0T, jn_eq0F, jn_in, jn_cl]
      · rw [if_neg (fun z => w3 (jblk_iff.mp z).2.2.2)]
        simp (disch := omega) only [s157_23, s157_26, s157_27, s157_30, s157_31b0, s157_31b1, Option.some.injEq, exists_eq_left', exists_eq_left, List.cons_append, List.nil_append, List.length_nil, List.length_cons, Nat.reduceAdd, Nat.reduceMul, Nat.reduceSub, Nat.reduceLeDiff, true_and, and_true, ↓reduceIte, not_false_eq_true, not_true_eq_false, nI_add, pk_mul, jn_ltT, jn_ltF, jn_leT, jn_leF, jn_eqT, jn_eqF, jn_lt0, jn_ge0, jn_eq0T, jn_eq0F, jn_in, jn_cl]
/-- s parts x: not empty, in x, without x's least -/
def jpt (x s : Nat) : Bool := decide (s ≠ 0) && (decide (s &&& x = s) && decide (s &&& (x &&& (32 - x)) = 0))
theorem jpt1 : ∀ x, x < 32 → ∀ s, s < 32 → ((nI s &&& (nI x ^^^ -1) = 0) ↔ s &&& x = s) := by decide +kernel
theorem jpt2 : ∀ x, x < 32 → ∀ s, s < 32 → ((nI s &&& (nI x &&& -nI x) = 0) ↔ s &&& (x &&& (32 - x)) = 0) := by decide +kernel
theorem jpt_lt : ∀ x, x < 32 → ∀ s, s < 32 → jpt x s = true → 0 < s ∧ s < x ∧ 0 < x ^^^ s ∧ x ^^^ s < x := by decide +kernel
theorem md_parted {B s b : Nat} (hB : B < 1024) (hs : s < 32) (hb : b ≤ 1) : jx_Go jxP d 159 0 [.ref 149, .int (nI B), .int (nI s), .int (nI b), jx_u] [] h Q ↔ Q [.int (nI (jpt (if b = 1 then B / 32 else B % 32) s).toNat)] h := by
  have key : ∀ x, x < 32 → (jx_Go jxP d 159 14 [.ref 149, .int (nI B), .int (nI s), .int (nI b), jx_u] [.int (nI x)] h Q ↔ Q [.int (nI (jpt x s).toNat)] h) := by
    intro x hx
    simp (disch := omega) only [s159_14, s159_16, s159_17, Option.some.injEq, exists_eq_left', exists_eq_left, List.cons_append, List.nil_append, List.length_nil, List.length_cons, Nat.reduceAdd, Nat.reduceMul, Nat.reduceSub, Nat.reduceLeDiff, true_and, and_true, ↓reduceIte, not_false_eq_true, not_true_eq_false, nI_add, pk_mul, jn_ltT, jn_ltF, jn_leT, jn_leF, jn_eqT, jn_eqF, jn_lt0, jn_ge0, jn_eq0T, jn_eq0F, jn_in, jn_cl]
    unfold jpt
    by_cases w1 : s = 0
    · simp (disch := omega) only [s159_17, s159_20, s159_21, s159_23, s159_24, s159_25, s159_26, s159_29, s159_30, s159_32, s159_34, s159_35, s159_36, s159_37, s159_40, s159_41, s159_44, s159_45b0, s159_45b1, Option.some.injEq, exists_eq_left', exists_eq_left, List.cons_append, List.nil_append, List.length_nil, List.length_cons, Nat.reduceAdd, Nat.reduceMul, Nat.reduceSub, Nat.reduceLeDiff, true_and, and_true, ↓reduceIte, not_false_eq_true, not_true_eq_false, nI_add, pk_mul, jn_ltT, jn_ltF, jn_leT, jn_leF, jn_eqT, jn_eqF, jn_lt0, jn_ge0, jn_eq0T, jn_eq0F, jn_in, jn_cl]
      rw [decide_eq_false (fun z => z w1)]
      rfl
    · simp (disch := omega) only [s159_17, s159_20, s159_21, s159_23, s159_24, s159_25, s159_26, Option.some.injEq, exists_eq_left', exists_eq_left, List.cons_append, List.nil_append, List.length_nil, List.length_cons, Nat.reduceAdd, Nat.reduceMul, Nat.reduceSub, Nat.reduceLeDiff, true_and, and_true, ↓reduceIte, not_false_eq_true, not_true_eq_false, nI_add, pk_mul, jn_ltT, jn_ltF, jn_leT, jn_leF, jn_eqT, jn_eqF, jn_lt0, jn_ge0, jn_eq0T, jn_eq0F, jn_in, jn_cl]
      rw [decide_eq_true w1]
      by_cases w2 : s &&& x = s
      · rw [if_pos ((jpt1 x hx s hs).mpr w2), decide_eq_true w2]
        simp (disch := omega) only [s159_29, s159_30, s159_32, s159_34, s159_35, s159_36, s159_37, Option.some.injEq, exists_eq_left', exists_eq_left, List.cons_append, List.nil_append, List.length_nil, List.length_cons, Nat.reduceAdd, Nat.reduceMul, Nat.reduceSub, Nat.reduceLeDiff, true_and, and_true, ↓reduceIte, not_false_eq_true, not_true_eq_false, nI_add, pk_mul, jn_ltT, jn_ltF, jn_leT, jn_leF, jn_eqT, jn_eqF, jn_lt0, jn_ge0, jn_eq0T, jn_eq0F, jn_in, jn_cl]
        by_cases w3 : s &&& (x &&& (32 - x)) = 0
        · rw [if_pos ((jpt2 x hx s hs).mpr w3), decide_eq_true w3]
          simp (disch := omega) only [s159_40, s159_41, s159_44, s159_45b0, s159_45b1, Option.some.injEq, exists_eq_left', exists_eq_left, List.cons_append, List.nil_append, List.length_nil, List.length_cons, Nat.reduceAdd, Nat.reduceMul, Nat.reduceSub, Nat.reduceLeDiff, true_and, and_true, ↓reduceIte, not_false_eq_true, not_true_eq_false, nI_add, pk_mul, jn_ltT, jn_ltF, jn_leT, jn_leF, jn_eqT, jn_eqF, jn_lt0, jn_ge0, jn_eq0T, jn_eq0F, jn_in, jn_cl]
          rfl
        · rw [if_neg (fun z => w3 ((jpt2 x hx s hs).mp z)), decide_eq_false w3]
          simp (disch := omega) only [s159_40, s159_41, s159_44, s159_45b0, s159_45b1, Option.some.injEq, exists_eq_left', exists_eq_left, List.cons_append, List.nil_append, List.length_nil, List.length_cons, Nat.reduceAdd, Nat.reduceMul, Nat.reduceSub, Nat.reduceLeDiff, true_and, and_true, ↓reduceIte, not_false_eq_true, not_true_eq_false, nI_add, pk_mul, jn_ltT, jn_ltF, jn_leT, jn_leF, jn_eqT, jn_eqF, jn_lt0, jn_ge0, jn_eq0T, jn_eq0F, jn_in, jn_cl]
          rfl
      · rw [if_neg (fun z => w2 ((jpt1 x hx s hs).mp z)), decide_eq_false w2]
        simp (disch := omega) only [s159_40, s159_41, s159_44, s159_45b0, s159_45b1, Option.some.injEq, exists_eq_left', exists_eq_left, List.cons_append, List.nil_append, List.length_nil, List.length_cons, Nat.reduceAdd, Nat.reduceMul, Nat.reduceSub, Nat.reduceLeDiff, true_and, and_true, ↓reduceIte, not_false_eq_true, not_true_eq_false, nI_add, pk_mul, jn_ltT, jn_ltF, jn_leT, jn_leF, jn_eqT, jn_eqF, jn_lt0, jn_ge0, jn_eq0T, jn_eq0F, jn_in, jn_cl]
        rfl
  by_cases w : b = 1
  · simp (disch := omega) only [s159_0, s159_1, s159_4, s159_5, s159_6, s159_7, Option.some.injEq, exists_eq_left', exists_eq_left, List.cons_append, List.nil_append, List.length_nil, List.length_cons, Nat.reduceAdd, Nat.reduceMul, Nat.reduceSub, Nat.reduceLeDiff, true_and, and_true, ↓reduceIte, not_false_eq_true, not_true_eq_false, nI_add, pk_mul, jn_ltT, jn_ltF, jn_leT, jn_leF, jn_eqT, jn_eqF, jn_lt0, jn_ge0, jn_eq0T, jn_eq0F, jn_in, jn_cl, jsh5]
    rw [if_pos w]
    exact key _ (by omega)
  · simp (disch := omega) only [s159_0, s159_1, s159_4, s159_5, s159_6, s159_7, s159_10, s159_11, s159_13, Option.some.injEq, exists_eq_left', exists_eq_left, List.cons_append, List.nil_append, List.length_nil, List.length_cons, Nat.reduceAdd, Nat.reduceMul, Nat.reduceSub, Nat.reduceLeDiff, true_and, and_true, ↓reduceIte, not_false_eq_true, not_true_eq_false, nI_add, pk_mul, jn_ltT, jn_ltF, jn_leT, jn_leF, jn_eqT, jn_eqF, jn_lt0, jn_ge0, jn_eq0T, jn_eq0F, jn_in, jn_cl, jan31]
    rw [if_neg w]
    exact key _ (by omega)
end MD9
