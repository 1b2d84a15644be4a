/-! ===== the class: what is small ===== -/
section CL1
variable {d : Nat} {F : Nat → Nat → Nat} {A : Nat → Nat → Int32} {G : Nat → Option Nat} {g : Nat → Int64} {h : jxH} {Q : List Value → jxH → Prop}
theorem tb_finding (hR : jR F A G g h) {x : Int32} (k : ∀ h', jR (jup F 1 11 (F 1 11 + 1)) A G g h' → jD h h' → Q [.int x] h') : jx_Go jxP d 120 0 [.ref 1, .int x] [] h Q := by
  simp (disch := omega) only [s120_0, s120_1i, s120_1r, s120_2, s120_5, s120_6, s120_7, s120_10, s120_11, Option.some.injEq, exists_eq_left', exists_eq_left, List.cons_append, List.nil_append, List.length_nil, List.length_cons, Nat.reduceAdd, Nat.reduceMul, Nat.reduceSub, Nat.reduceLeDiff, true_and, and_true, ↓reduceIte, not_false_eq_true, not_true_eq_false, nI_add, pk_mul, jn_ltT, jn_ltF, jn_leT, jn_leF, jn_eqT, jn_eqF, jn_lt0, jn_ge0, jn_eq0T, jn_eq0F, jn_in, jn_cl, jf_1_11 hR]
  exact k _ (hR.uf (o := 1) (k := 11) rfl rfl) (jD.rf.uf (by decide))
theorem jbel_a {x : Int32} {n : Nat} (a : x < 0) : ¬ jbel x n = true := by
  unfold jbel
  rw [decide_eq_false (fun w => w a), Bool.false_and]
  decide
theorem jbel_b {x : Int32} {n : Nat} (a : nI n ≤ x) : ¬ jbel x n = true := by
  unfold jbel
  rw [decide_eq_false (fun (w : ¬ nI n ≤ x) => w a), Bool.and_false]
  decide
theorem jbel_c {x : Int32} {n : Nat} (a : ¬ x < 0) (b : ¬ nI n ≤ x) : jbel x n = true := by
  unfold jbel
  rw [decide_eq_true a, decide_eq_true b]
  rfl
theorem tb_noSheet {x : Int32} : jx_Go jxP d 122 0 [.int x] [] h Q ↔ Q [.int (nI (if jbel x 4 = true then 0 else 1))] h := by
  simp only [s122_0, s122_1, s122_4, s122_5, s122_6, s122_9, s122_10, s122_13, s122_14b0, s122_14b1, Option.some.injEq, exists_eq_left', exists_eq_left, List.cons_append, List.nil_append, List.length_nil, List.length_cons, Nat.reduceAdd, Nat.reduceMul, Nat.reduceSub, Nat.reduceLeDiff, true_and, and_true, ↓reduceIte, not_false_eq_true, not_true_eq_false, nI_add, pk_mul, jn_ltT, jn_ltF, jn_leT, jn_leF, jn_eqT, jn_eqF, jn_lt0, jn_ge0, jn_eq0T, jn_eq0F, jn_in, jn_cl]
  by_cases a : x < 0
  · rw [if_pos a, if_neg (jbel_a a)]
  · rw [if_neg a]
    by_cases b : x < nI 4
    · rw [if_pos b, if_pos (jbel_c a (Int32.not_le.mpr b))]
    · rw [if_neg b, if_neg (jbel_b (Int32.not_lt.mp b))]
theorem tb_noSlot {x : Int32} : jx_Go jxP d 123 0 [.int x] [] h Q ↔ Q [.int (nI (if jbel x 4 = true then 0 else 1))] h := by
  simp only [s123_0, s123_1, s123_4, s123_5, s123_6, s123_9, s123_10, s123_13, s123_14b0, s123_14b1, Option.some.injEq, exists_eq_left', exists_eq_left, List.cons_append, List.nil_append, List.length_nil, List.length_cons, Nat.reduceAdd, Nat.reduceMul, Nat.reduceSub, Nat.reduceLeDiff, true_and, and_true, ↓reduceIte, not_false_eq_true, not_true_eq_false, nI_add, pk_mul, jn_ltT, jn_ltF, jn_leT, jn_leF, jn_eqT, jn_eqF, jn_lt0, jn_ge0, jn_eq0T, jn_eq0F, jn_in, jn_cl]
  by_cases a : x < 0
  · rw [if_pos a, if_neg (jbel_a a)]
  · rw [if_neg a]
    by_cases b : x < nI 4
    · rw [if_pos b, if_pos (jbel_c a (Int32.not_le.mpr b))]
    · rw [if_neg b, if_neg (jbel_b (Int32.not_lt.mp b))]
theorem tb_isNoAnswer {x : Int32} : jx_Go jxP d 124 0 [.int x] [] h Q ↔ Q [.int (nI (if jbel x 2 = true then 0 else 1))] h := by
  simp only [s124_0, s124_1, s124_4, s124_5, s124_6, s124_9, s124_10, s124_13, s124_14b0, s124_14b1, Option.some.injEq, exists_eq_left', exists_eq_left, List.cons_append, List.nil_append, List.length_nil, List.length_cons, Nat.reduceAdd, Nat.reduceMul, Nat.reduceSub, Nat.reduceLeDiff, true_and, and_true, ↓reduceIte, not_false_eq_true, not_true_eq_false, nI_add, pk_mul, jn_ltT, jn_ltF, jn_leT, jn_leF, jn_eqT, jn_eqF, jn_lt0, jn_ge0, jn_eq0T, jn_eq0F, jn_in, jn_cl]
  by_cases a : x = 0
  · subst a
    rw [if_pos rfl, if_pos (by decide)]
  · rw [if_neg a]
    by_cases b : x = nI 1
    · subst b
      rw [if_pos rfl, if_pos (by decide)]
    · rw [if_neg b, if_neg]
      intro w
      obtain ⟨j, hj, e⟩ := (jbel_iff (by omega)).mp w
      rcases (show j = 0 ∨ j = 1 by omega) with u | u <;> subst u
      · exact a e
      · exact b e
theorem tb_isUnder {a b : Nat} (ha : a < 4) (hb : b < 4) : jx_Go jxP d 125 0 [.int (nI a), .int (nI b)] [] h Q ↔ Q [.int (nI (if a = b ∨ b = 0 ∨ (b = 1 ∧ a = 2) then 1 else 0))] h := by
  rcases (show b = 0 ∨ b = 1 ∨ b = 2 ∨ b = 3 by omega) with e | e | e | e <;> rcases (show a = 0 ∨ a = 1 ∨ a = 2 ∨ a = 3 by omega) with f | f | f | f <;> subst e <;> subst f <;> (simp (disch := omega) only [s125_0, s125_1, s125_4, s125_5, s125_6, s125_9, s125_10, s125_11, s125_14, s125_15, s125_16, s125_19, s125_20, s125_23, s125_24b0, s125_24b1, Option.some.injEq, exists_eq_left', exists_eq_left, List.cons_append, List.nil_append, List.length_nil, List.length_cons, Nat.reduceAdd, Nat.reduceMul, Nat.reduceSub, Nat.reduceLeDiff, true_and, and_true, ↓reduceIte, not_false_eq_true, not_true_eq_false, nI_add, pk_mul, jn_ltT, jn_ltF, jn_leT, jn_leF, jn_eqT, jn_eqF, jn_lt0, jn_ge0, jn_eq0T, jn_eq0F, jn_in, jn_cl]; exact Iff.rfl)
theorem tb_lowestOf {L : Nat} (h0 : 0 < L) (hL : L < 33554432) : jx_Go jxP d 127 0 [.int (nI L)] [] h Q ↔ Q [.int (nI (2 ^ jlo L))] h := by
  simp (disch := omega) only [s127_0, s127_1, s127_2, s127_3, s127_4, Option.some.injEq, exists_eq_left', exists_eq_left, List.cons_append, List.nil_append, List.length_nil, List.length_cons, Nat.reduceAdd, Nat.reduceMul, Nat.reduceSub, Nat.reduceLeDiff, true_and, and_true, ↓reduceIte, not_false_eq_true, not_true_eq_false, nI_add, pk_mul, jn_ltT, jn_ltF, jn_leT, jn_leF, jn_eqT, jn_eqF, jn_lt0, jn_ge0, jn_eq0T, jn_eq0F, jn_in, jn_cl, (jlo_ok h0 hL).2.2.2]
theorem tb_blockAt {x y : Nat} : jx_Go jxP d 128 0 [.int (nI x), .int (nI y)] [] h Q ↔ Q [.int (nI (32 * x + y))] h := by
  simp (disch := omega) only [s128_0, s128_2, s128_3, s128_4, s128_5, s128_6, s128_7, s128_8, Option.some.injEq, exists_eq_left', exists_eq_left, List.cons_append, List.nil_append, List.length_nil, List.length_cons, Nat.reduceAdd, Nat.reduceMul, Nat.reduceSub, Nat.reduceLeDiff, true_and, and_true, ↓reduceIte, not_false_eq_true, not_true_eq_false, nI_add, pk_mul, jn_ltT, jn_ltF, jn_leT, jn_leF, jn_eqT, jn_eqF, jn_lt0, jn_ge0, jn_eq0T, jn_eq0F, jn_in, jn_cl, Nat.one_mul]
/-- Integer.bitCount -/
def jbc1 (x : Int32) : Int32 := x - ((x.toUInt32 >>> ((nI 1).toUInt32 &&& Int32.toUInt32 31)).toInt32 &&& nI 1431655765)
def jbc2 (x : Int32) : Int32 := (x &&& nI 858993459) + ((x.toUInt32 >>> ((nI 2).toUInt32 &&& Int32.toUInt32 31)).toInt32 &&& nI 858993459)
def jbc3 (x : Int32) : Int32 := (x + (x.toUInt32 >>> ((nI 4).toUInt32 &&& Int32.toUInt32 31)).toInt32) &&& nI 252645135
def jbc4 (x : Int32) : Int32 := x + (x.toUInt32 >>> ((nI 8).toUInt32 &&& Int32.toUInt32 31)).toInt32
def jbc5 (x : Int32) : Int32 := (x + (x.toUInt32 >>> ((nI 16).toUInt32 &&& Int32.toUInt32 31)).toInt32) &&& nI 63
def jbc (x : Int32) : Int32 := jbc5 (jbc4 (jbc3 (jbc2 (jbc1 x))))
theorem in_bitCount {x : Int32} : jx_Go jxP d 197 0 [.int x] [] h Q ↔ Q [.int (jbc x)] h := by
  simp only [s197_0, s197_1, s197_2, s197_3, s197_4, s197_7, s197_8, s197_9, s197_10, s197_11, s197_14, s197_15, s197_16, s197_17, s197_18, s197_21, s197_22, s197_23, s197_24, s197_25, s197_26, s197_27, s197_28, s197_29, s197_32, s197_33, s197_34, s197_35, s197_36, s197_38, s197_39, s197_40, s197_41, s197_42, s197_43, s197_45, s197_46, s197_47, s197_48, s197_49, s197_51, s197_52, Option.some.injEq, exists_eq_left', exists_eq_left, List.cons_append, List.nil_append, List.length_nil, List.length_cons, Nat.reduceAdd, Nat.reduceMul, Nat.reduceSub, Nat.reduceLeDiff, true_and, and_true, ↓reduceIte, not_false_eq_true, not_true_eq_false, nI_add, pk_mul, jn_ltT, jn_ltF, jn_leT, jn_leF, jn_eqT, jn_eqF, jn_lt0, jn_ge0, jn_eq0T, jn_eq0F, jn_in, jn_cl]
  exact Iff.rfl
theorem jbc_32 : ∀ s, s < 32 → jbc (nI s) = nI (jpop s) := by decide +kernel
/-- a set of places, one of each row at most: the digit 5 is none -/
def jcs (c0 c1 c2 c3 c4 : Nat) : Nat := (if c0 < 5 then 2 ^ c0 else 0) + (if c1 < 5 then 2 ^ (5 + c1) else 0) + (if c2 < 5 then 2 ^ (10 + c2) else 0) + (if c3 < 5 then 2 ^ (15 + c3) else 0) + (if c4 < 5 then 2 ^ (20 + c4) else 0)
def jcsn (c : Nat) : Nat := if c < 5 then 1 else 0
theorem jbc_cs : ∀ c0, c0 < 6 → ∀ c1, c1 < 6 → ∀ c2, c2 < 6 → ∀ c3, c3 < 6 → ∀ c4, c4 < 6 → jbc (nI (jcs c0 c1 c2 c3 c4)) = nI (jcsn c0 + jcsn c1 + jcsn c2 + jcsn c3 + jcsn c4) := by decide +kernel
theorem jpw1 : ∀ i, i < 5 → nI (2 ^ i) - nI 1 = nI (2 ^ i - 1) ∧ jbc (nI (2 ^ i - 1)) = nI i := by decide +kernel
theorem tb_memberOf {i : Nat} (hi : i < 5) : jx_Go jxP (d + 1) 126 0 [.int (nI (2 ^ i))] [] h Q ↔ Q [.int (nI i)] h := by
  obtain ⟨e1, e2⟩ := jpw1 i hi
  simp (disch := omega) only [s126_0, s126_1, s126_2, s126_3, s126_6, Option.some.injEq, exists_eq_left', exists_eq_left, List.cons_append, List.nil_append, List.length_nil, List.length_cons, Nat.reduceAdd, Nat.reduceMul, Nat.reduceSub, Nat.reduceLeDiff, true_and, and_true, ↓reduceIte, not_false_eq_true, not_true_eq_false, nI_add, pk_mul, jn_ltT, jn_ltF, jn_leT, jn_leF, jn_eqT, jn_eqF, jn_lt0, jn_ge0, jn_eq0T, jn_eq0F, jn_in, jn_cl, e1, in_bitCount, e2]
/-- Arrays.fill -/
theorem ar_fill {a n : Nat} {f : Nat → Int32} {x : Int32} (e : jx_ai h a = some (n, f)) (hn : n < 2000) (k : ∀ f', (∀ i, i < n → f' i = x) → Q [] (jx_wi h a n f')) : jx_Go jxP d 198 0 [.ref a, .int x, jx_u, jx_u] [] h Q := by
  simp (disch := omega) only [s198_0, s198_1, s198_2, s198_3, s198_4, Option.some.injEq, exists_eq_left', exists_eq_left, List.cons_append, List.nil_append, List.length_nil, List.length_cons, Nat.reduceAdd, Nat.reduceMul, Nat.reduceSub, Nat.reduceLeDiff, true_and, and_true, ↓reduceIte, not_false_eq_true, not_true_eq_false, nI_add, pk_mul, jn_ltT, jn_ltF, jn_leT, jn_leF, jn_eqT, jn_eqF, jn_lt0, jn_ge0, jn_eq0T, jn_eq0F, jn_in, jn_cl, e]
  refine jloop (fun i => ∀ f', (∀ j, j < i → f' j = x) → jx_Go jxP d 198 5 [.ref a, .int x, .int (nI i), .int (nI n)] [] (jx_wi h a n f') Q) n ?_ ?_ 0 (Nat.zero_le _) f (fun j hj => by omega) |> fun z => by rw [jh_wi_id e] at z; exact z
  · intro f' e'
    rw [s198_5]
    simp (disch := omega) only [s198_6, s198_7, s198_20, Option.some.injEq, exists_eq_left', exists_eq_left, List.cons_append, List.nil_append, List.length_nil, List.length_cons, Nat.reduceAdd, Nat.reduceMul, Nat.reduceSub, Nat.reduceLeDiff, true_and, and_true, ↓reduceIte, not_false_eq_true, not_true_eq_false, nI_add, pk_mul, jn_ltT, jn_ltF, jn_leT, jn_leF, jn_eqT, jn_eqF, jn_lt0, jn_ge0, jn_eq0T, jn_eq0F, jn_in, jn_cl]
    exact k f' e'
  · intro i hi ih f' e'
    rw [s198_5]
    simp (disch := omega) only [s198_6, s198_7, s198_10, s198_11, s198_12, s198_13, s198_14, s198_17, Option.some.injEq, exists_eq_left', exists_eq_left, List.cons_append, List.nil_append, List.length_nil, List.length_cons, Nat.reduceAdd, Nat.reduceMul, Nat.reduceSub, Nat.reduceLeDiff, true_and, and_true, ↓reduceIte, not_false_eq_true, not_true_eq_false, nI_add, pk_mul, jn_ltT, jn_ltF, jn_leT, jn_leF, jn_eqT, jn_eqF, jn_lt0, jn_ge0, jn_eq0T, jn_eq0F, jn_in, jn_cl, jh_ai_wi, jh_ai_wi_ne, jh_ai_uf, jh_fl_wi_ne, jh_fl_uf_ne, jh_fl_uf_o, jh_cl_wi_ne, jh_cl_uf, jh_al_wi_ne, jh_al_uf, jh_al_wl, jh_al_wl_ne, jh_ai_wl_ne, jh_fl_wl_ne, jh_cl_wl_ne, jh_ar_wi_ne, jh_ar_uf, jh_ar_wl_ne, jh_1_wi, jh_1_uf, jh_1_wl, jh_wi_wi]
    exact ih _ (fun j hj => by
      rcases (show j < i ∨ j = i by omega) with w | w
      · rw [jupd_ne (by omega)]; exact e' j w
      · subst w; rw [jupd_same])
/-- a task lies at o, its rows at p and w -/
def jTk (h : jxH) (o p w R C : Nat) (f v : Nat → Int32) : Prop := jx_cl h o = some 10 ∧ jx_fl h o 10 0 = some (.int (nI R)) ∧ jx_fl h o 10 1 = some (.int (nI C)) ∧ jx_fl h o 10 2 = some (.ref p) ∧ jx_fl h o 10 3 = some (.ref w) ∧ jx_ai h p = some (25, f) ∧ jx_ai h w = some (25, v)
theorem jR.tk2 (hR : jR F A G g h) : jTk h 2 3 4 (F 2 0) (F 2 1) (A 3) (A 4) := ⟨jc_of_2 hR, jf_2_0 hR, jf_2_1 hR, jf_2_2 hR, jf_2_3 hR, ja_3 hR, ja_4 hR⟩
theorem jhist : ∀ i, i < 30 → jcl (9 + 3 * i) = some 10 ∧ jkd (9 + 3 * i) 0 = some none ∧ jkd (9 + 3 * i) 1 = some none ∧ jkd (9 + 3 * i) 2 = some (some (10 + 3 * i)) ∧ jkd (9 + 3 * i) 3 = some (some (11 + 3 * i)) ∧ jln (10 + 3 * i) = some 25 ∧ jln (11 + 3 * i) = some 25 := by decide +kernel
theorem jR.tkh (hR : jR F A G g h) {i : Nat} (hi : i < 30) : jTk h (9 + 3 * i) (10 + 3 * i) (11 + 3 * i) (F (9 + 3 * i) 0) (F (9 + 3 * i) 1) (A (10 + 3 * i)) (A (11 + 3 * i)) := by
  obtain ⟨e1, e2, e3, e4, e5, e6, e7⟩ := jhist i hi
  exact ⟨jh_cl_fl ((hR.1 _ 10 0 e1).1 e2), (hR.1 _ 10 0 e1).1 e2, (hR.1 _ 10 1 e1).1 e3, (hR.1 _ 10 2 e1).2 _ e4, (hR.1 _ 10 3 e1).2 _ e5, hR.2.1 _ _ e6, hR.2.1 _ _ e7⟩
theorem tk_size {o p w R C : Nat} {f v : Nat → Int32} (t : jTk h o p w R C f v) : jx_Go jxP d 68 0 [.ref o] [] h Q ↔ Q [.int (nI (R * C))] h := by
  simp (disch := omega) only [s68_0, s68_1, s68_4, s68_5, s68_8, s68_9, Option.some.injEq, exists_eq_left', exists_eq_left, List.cons_append, List.nil_append, List.length_nil, List.length_cons, Nat.reduceAdd, Nat.reduceMul, Nat.reduceSub, Nat.reduceLeDiff, true_and, and_true, ↓reduceIte, not_false_eq_true, not_true_eq_false, nI_add, pk_mul, jn_ltT, jn_ltF, jn_leT, jn_leF, jn_eqT, jn_eqF, jn_lt0, jn_ge0, jn_eq0T, jn_eq0F, jn_in, jn_cl, t.2.1, t.2.2.1]
theorem tk_has {o p w R C : Nat} {f v : Nat → Int32} (t : jTk h o p w R C f v) {x y : Int32} : jx_Go jxP d 69 0 [.ref o, .int x, .int y] [] h Q ↔ Q [.int (nI (if jbel x R = true ∧ jbel y C = true then 1 else 0))] h := by
  simp (disch := omega) only [s69_0, s69_1, s69_4, s69_5, s69_6, s69_9, s69_12, s69_13, s69_16, s69_17, s69_18, s69_21, s69_24, s69_25, s69_28, s69_29b0, s69_29b1, Option.some.injEq, exists_eq_left', exists_eq_left, List.cons_append, List.nil_append, List.length_nil, List.length_cons, Nat.reduceAdd, Nat.reduceMul, Nat.reduceSub, Nat.reduceLeDiff, true_and, and_true, ↓reduceIte, not_false_eq_true, not_true_eq_false, nI_add, pk_mul, jn_ltT, jn_ltF, jn_leT, jn_leF, jn_eqT, jn_eqF, jn_lt0, jn_ge0, jn_eq0T, jn_eq0F, jn_in, jn_cl, t.2.1, t.2.2.1]
  by_cases a : x < 0
  · rw [if_pos a, if_neg (fun z => jbel_a a z.1)]
  rw [if_neg a]
  by_cases b : nI R ≤ x
  · rw [if_pos b, if_neg (fun z => jbel_b b z.1)]
  rw [if_neg b]
  by_cases a' : y < 0
  · rw [if_pos a', if_neg (fun z => jbel_a a' z.2)]
  rw [if_neg a']
  by_cases b' : nI C ≤ y
  · rw [if_pos b', if_neg (fun z => jbel_b b' z.2)]
  rw [if_neg b', if_pos ⟨jbel_c a b, jbel_c a' b'⟩]
theorem tk_count {o p w R C : Nat} {f v : Nat → Int32} (t : jTk h o p w R C f v) (hr : R ≤ 5) (hc : C ≤ 5) {x : Int32} (k : Q [.int (nI (jcnt f R C x))] h) : jx_Go jxP d 72 0 [.ref o, .int x, jx_u, jx_u, jx_u] [] h Q := by
  obtain ⟨t1, t2, t3, t4, t5, t6, t7⟩ := t
  unfold jcnt at k
  simp only [s72_0, s72_1, s72_2, s72_3]
  refine jloop (fun r => ∀ w, jx_Go jxP d 72 4 [.ref o, .int x, .int (nI (jsum r fun r => jsum C fun c => if f (5 * r + c) = x then 1 else 0)), .int (nI r), w] [] h Q) R ?_ ?_ 0 (Nat.zero_le _) _
  · intro w
    rw [s72_4]
    simp (disch := omega) only [s72_5, s72_6, s72_9, s72_54, s72_55, Option.some.injEq, exists_eq_left', exists_eq_left, List.cons_append, List.nil_append, List.length_nil, List.length_cons, Nat.reduceAdd, Nat.reduceMul, Nat.reduceSub, Nat.reduceLeDiff, true_and, and_true, ↓reduceIte, not_false_eq_true, not_true_eq_false, nI_add, pk_mul, jn_ltT, jn_ltF, jn_leT, jn_leF, jn_eqT, jn_eqF, jn_lt0, jn_ge0, jn_eq0T, jn_eq0F, jn_in, jn_cl, t2]
    exact k
  · intro r hr' ih w
    rw [jsum_s] at ih
    generalize (jsum r fun r => jsum C fun c => if f (5 * r + c) = x then 1 else 0) = n at ih ⊢
    rw [s72_4]
    simp (disch := omega) only [s72_5, s72_6, s72_9, s72_12, s72_13, Option.some.injEq, exists_eq_left', exists_eq_left, List.cons_append, List.nil_append, List.length_nil, List.length_cons, Nat.reduceAdd, Nat.reduceMul, Nat.reduceSub, Nat.reduceLeDiff, true_and, and_true, ↓reduceIte, not_false_eq_true, not_true_eq_false, nI_add, pk_mul, jn_ltT, jn_ltF, jn_leT, jn_leF, jn_eqT, jn_eqF, jn_lt0, jn_ge0, jn_eq0T, jn_eq0F, jn_in, jn_cl, t2]
    refine jloop (fun c => jx_Go jxP d 72 15 [.ref o, .int x, .int (nI (n + jsum c fun c => if f (5 * r + c) = x then 1 else 0)), .int (nI r), .int (nI c)] [] h Q) C ?_ ?_ 0 (Nat.zero_le _)
    · rw [s72_15]
      simp (disch := omega) only [s72_17, s72_18, s72_21, s72_48, s72_51, Option.some.injEq, exists_eq_left', exists_eq_left, List.cons_append, List.nil_append, List.length_nil, List.length_cons, Nat.reduceAdd, Nat.reduceMul, Nat.reduceSub, Nat.reduceLeDiff, true_and, and_true, ↓reduceIte, not_false_eq_true, not_true_eq_false, nI_add, pk_mul, jn_ltT, jn_ltF, jn_leT, jn_leF, jn_eqT, jn_eqF, jn_lt0, jn_ge0, jn_eq0T, jn_eq0F, jn_in, jn_cl, t3]
      exact ih _
    · intro c hc' ih2
      rw [jsum_s, ← Nat.add_assoc] at ih2
      generalize (n + jsum c fun c => if f (5 * r + c) = x then 1 else 0) = m at ih2 ⊢
      rw [s72_15]
      simp (disch := omega) only [s72_17, s72_18, s72_21, s72_24, s72_25, s72_28, s72_29, s72_30, s72_31, s72_33, s72_34, Option.some.injEq, exists_eq_left', exists_eq_left, List.cons_append, List.nil_append, List.length_nil, List.length_cons, Nat.reduceAdd, Nat.reduceMul, Nat.reduceSub, Nat.reduceLeDiff, true_and, and_true, ↓reduceIte, not_false_eq_true, not_true_eq_false, nI_add, pk_mul, jn_ltT, jn_ltF, jn_leT, jn_leF, jn_eqT, jn_eqF, jn_lt0, jn_ge0, jn_eq0T, jn_eq0F, jn_in, jn_cl, t3, t4, t6]
      by_cases z : f (5 * r + c) = x
      · rw [if_pos z] at ih2
        simp (disch := omega) only [s72_35, s72_36, s72_39, s72_42, s72_45, Option.some.injEq, exists_eq_left', exists_eq_left, List.cons_append, List.nil_append, List.length_nil, List.length_cons, Nat.reduceAdd, Nat.reduceMul, Nat.reduceSub, Nat.reduceLeDiff, true_and, and_true, ↓reduceIte, not_false_eq_true, not_true_eq_false, nI_add, pk_mul, jn_ltT, jn_ltF, jn_leT, jn_leF, jn_eqT, jn_eqF, jn_lt0, jn_ge0, jn_eq0T, jn_eq0F, jn_in, jn_cl, z]
        exact ih2
      · rw [if_neg z] at ih2
        simp (disch := omega) only [s72_35, s72_36, s72_42, s72_45, Option.some.injEq, exists_eq_left', exists_eq_left, List.cons_append, List.nil_append, List.length_nil, List.length_cons, Nat.reduceAdd, Nat.reduceMul, Nat.reduceSub, Nat.reduceLeDiff, true_and, and_true, ↓reduceIte, not_false_eq_true, not_true_eq_false, nI_add, pk_mul, jn_ltT, jn_ltF, jn_leT, jn_leF, jn_eqT, jn_eqF, jn_lt0, jn_ge0, jn_eq0T, jn_eq0F, jn_in, jn_cl, z]
        exact ih2
theorem tk_findKind {o p w R C : Nat} {f v : Nat → Int32} (t : jTk h o p w R C f v) (hr : R ≤ 5) (hc : C ≤ 5) (k : Q [.int (nI (jkind f R C))] h) : jx_Go jxP (d + 1) 73 0 [.ref o] [] h Q := by
  have hcnt := jcnt_le (f := f) (v := nI 2) hr hc
  unfold jkind at k
  simp (disch := omega) only [s73_0, s73_1, s73_2, Option.some.injEq, exists_eq_left', exists_eq_left, List.cons_append, List.nil_append, List.length_nil, List.length_cons, Nat.reduceAdd, Nat.reduceMul, Nat.reduceSub, Nat.reduceLeDiff, true_and, and_true, ↓reduceIte, not_false_eq_true, not_true_eq_false, nI_add, pk_mul, jn_ltT, jn_ltF, jn_leT, jn_leF, jn_eqT, jn_eqF, jn_lt0, jn_ge0, jn_eq0T, jn_eq0F, jn_in, jn_cl, t.1]
  refine tk_count t hr hc ?_
  by_cases a : 0 < jcnt f R C (nI 2)
  · rw [if_pos a] at k
    simp (disch := omega) only [s73_5, s73_8, s73_9, Option.some.injEq, exists_eq_left', exists_eq_left, List.cons_append, List.nil_append, List.length_nil, List.length_cons, Nat.reduceAdd, Nat.reduceMul, Nat.reduceSub, Nat.reduceLeDiff, true_and, and_true, ↓reduceIte, not_false_eq_true, not_true_eq_false, nI_add, pk_mul, jn_ltT, jn_ltF, jn_leT, jn_leF, jn_eqT, jn_eqF, jn_lt0, jn_ge0, jn_eq0T, jn_eq0F, jn_in, jn_cl, jn_le0F]
    exact k
  · rw [if_neg a] at k
    by_cases b : R = C
    · rw [if_pos b] at k
      simp (disch := omega) only [s73_5, s73_10, s73_11, s73_14, s73_15, s73_18, s73_21, s73_22, s73_25, s73_26, Option.some.injEq, exists_eq_left', exists_eq_left, List.cons_append, List.nil_append, List.length_nil, List.length_cons, Nat.reduceAdd, Nat.reduceMul, Nat.reduceSub, Nat.reduceLeDiff, true_and, and_true, ↓reduceIte, not_false_eq_true, not_true_eq_false, nI_add, pk_mul, jn_ltT, jn_ltF, jn_leT, jn_leF, jn_eqT, jn_eqF, jn_lt0, jn_ge0, jn_eq0T, jn_eq0F, jn_in, jn_cl, jn_le0T, t.2.1, t.2.2.1]
      exact k
    · rw [if_neg b] at k
      simp (disch := omega) only [s73_5, s73_10, s73_11, s73_14, s73_15, s73_18, s73_21, s73_22, s73_25, s73_26, Option.some.injEq, exists_eq_left', exists_eq_left, List.cons_append, List.nil_append, List.length_nil, List.length_cons, Nat.reduceAdd, Nat.reduceMul, Nat.reduceSub, Nat.reduceLeDiff, true_and, and_true, ↓reduceIte, not_false_eq_true, not_true_eq_false, nI_add, pk_mul, jn_ltT, jn_ltF, jn_leT, jn_leF, jn_eqT, jn_eqF, jn_lt0, jn_ge0, jn_eq0T, jn_eq0F, jn_in, jn_cl, jn_le0T, t.2.1, t.2.2.1]
      exact k
theorem tk_become {o p w R C o' p' w' R' C' : Nat} {f v f' v' : Nat → Int32} (t : jTk h o p w R C f v) (t' : jTk h o' p' w' R' C' f' v') (n1 : o ≠ o') (n2 : o ≠ p) (n3 : o' ≠ p) (n4 : w' ≠ p) (n5 : w ≠ p) : jx_Go jxP d 71 0 [.ref o, .ref o'] [] h Q ↔ Q [] (jx_wi (jx_wi (jx_uf (jx_uf h o 0 (.int (nI R'))) o 1 (.int (nI C'))) p 25 (va_cpy f' f 0 0 25)) w 25 (va_cpy v' v 0 0 25)) := by
  obtain ⟨t1, t2, t3, t4, t5, t6, t7⟩ := t
  obtain ⟨u1, u2, u3, u4, u5, u6, u7⟩ := t'
  have z0 : ((nI 0) < 0) = False := by decide
  have z25 : ((nI 25) < 0) = False := by decide
  simp (disch := first | assumption | omega | decide) only [s71_0, s71_1, s71_2, s71_5, s71_8, s71_9, s71_10, s71_13, s71_16, s71_17, s71_20, s71_21, s71_22, s71_25, s71_26, s71_28, s71_31, s71_32, s71_35, s71_36, s71_37, s71_40, s71_41, s71_43, s71_46, Option.some.injEq, exists_eq_left', exists_eq_left, List.cons_append, List.nil_append, List.length_nil, List.length_cons, Nat.reduceAdd, Nat.reduceMul, Nat.reduceSub, Nat.reduceLeDiff, true_and, and_true, ↓reduceIte, not_false_eq_true, not_true_eq_false, nI_add, pk_mul, jn_ltT, jn_ltF, jn_leT, jn_leF, jn_eqT, jn_eqF, jn_lt0, jn_ge0, jn_eq0T, jn_eq0F, jn_in, jn_cl, jh_ai_wi, jh_ai_wi_ne, jh_ai_uf, jh_fl_wi_ne, jh_fl_uf_ne, jh_fl_uf_o, jh_cl_wi_ne, jh_cl_uf, jh_al_wi_ne, jh_al_uf, jh_al_wl, jh_al_wl_ne, jh_ai_wl_ne, jh_fl_wl_ne, jh_cl_wl_ne, jh_ar_wi_ne, jh_ar_uf, jh_ar_wl_ne, jh_1_wi, jh_1_uf, jh_1_wl, t1, t2, t3, t4, t5, t6, t7, u2, u3, u4, u5, u6, u7, Ne.symm n1, n1, z0, z25]
end CL1
