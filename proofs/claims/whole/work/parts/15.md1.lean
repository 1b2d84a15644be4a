/-! ===== the reference: its small methods ===== -/
section MD1
variable {d : Nat} {F : Nat → Nat → Nat} {A : Nat → Nat → Int32} {G : Nat → Option Nat} {g : Nat → Int64} {h : jxH} {Q : List Value → jxH → Prop}
theorem md_finding (hR : jR F A G g h) {x : Int32} (k : ∀ h', jR (jup F 149 13 (F 149 13 + 1)) A G g h' → jD h h' → Q [.int x] h') : jx_Go jxP d 130 0 [.ref 149, .int x] [] h Q := by
  simp only [s130_0, s130_1i, s130_1r, s130_2, s130_5, s130_6, s130_7, s130_10, s130_11, Option.some.injEq, exists_eq_left', exists_eq_left, List.cons_append, List.nil_append, List.length_nil, List.length_cons, Nat.reduceAdd, Nat.reduceMul, Nat.reduceSub, Nat.reduceLeDiff, true_and, and_true, ↓reduceIte, not_false_eq_true, not_true_eq_false, nI_add, pk_mul, jn_ltT, jn_ltF, jn_leT, jn_leF, jn_eqT, jn_eqF, jn_lt0, jn_ge0, jn_eq0T, jn_eq0F, jn_in, jn_cl, jf_149_13 hR]
  exact k _ (hR.uf rfl rfl) (jD.rf.uf (by decide))
/-- is x a number below n -/
def jbel (x : Int32) (n : Nat) : Bool := decide (¬ x < 0) && decide (¬ nI n ≤ x)
theorem jbel_iff {x : Int32} {n : Nat} (hn : n < 2147483648) : jbel x n = true ↔ ∃ j, j < n ∧ x = nI j := by
  unfold jbel
  rw [Bool.and_eq_true, decide_eq_true_eq, decide_eq_true_eq]
  constructor
  · rintro ⟨a, b⟩
    rcases pk_ix x (n := n) (by omega) with q | q | q
    · exact absurd q a
    · exact absurd q b
    · exact q
  · rintro ⟨j, hj, rfl⟩
    exact ⟨nI_pos (by omega), nI_ge hj (by omega)⟩
theorem jbel_f {x : Int32} {n : Nat} (e : ¬ jbel x n = true) : x < 0 ∨ (¬ x < 0 ∧ nI n ≤ x) := by
  unfold jbel at e
  rw [Bool.and_eq_true, decide_eq_true_eq, decide_eq_true_eq] at e
  by_cases a : x < 0
  · exact Or.inl a
  · exact Or.inr ⟨a, Classical.not_not.mp fun b => e ⟨a, b⟩⟩
theorem md_isPlace (hR : jR F A G g h) {x y : Int32} : jx_Go jxP d 131 0 [.ref 149, .int x, .int y] [] h Q ↔ Q [.int (nI (if jbel x (F 149 0) = true ∧ jbel y (F 149 1) = true then 1 else 0))] h := by
  simp only [s131_0, s131_1, s131_4, s131_5, s131_6, s131_9, s131_12, s131_13, s131_16, s131_17, s131_18, s131_21, s131_24, s131_25, s131_28, s131_29b0, s131_29b1, Option.some.injEq, exists_eq_left', exists_eq_left, List.cons_append, List.nil_append, List.length_nil, List.length_cons, Nat.reduceAdd, Nat.reduceMul, Nat.reduceSub, Nat.reduceLeDiff, true_and, and_true, ↓reduceIte, not_false_eq_true, not_true_eq_false, nI_add, pk_mul, jn_ltT, jn_ltF, jn_leT, jn_leF, jn_eqT, jn_eqF, jn_lt0, jn_ge0, jn_eq0T, jn_eq0F, jn_in, jn_cl, jf_149_0 hR, jf_149_1 hR]
  by_cases a : x < 0
  · simp [a, jbel]
  · by_cases b : nI (F 149 0) ≤ x
    · simp [a, b, jbel]
    · by_cases c : y < 0
      · simp [a, b, c, jbel]
      · by_cases e : nI (F 149 1) ≤ y
        · simp [a, b, c, e, jbel]
        · simp [a, b, c, e, jbel]
theorem jsh_bit {s k : Nat} (hs : s < 2147483648) (hk : k < 31) : (nI s >>> (nI k &&& 31)) &&& nI 1 = nI (if s.testBit k = true then 1 else 0) := by
  have e1 : nI s >>> (nI k &&& 31) = nI (s / 2 ^ k) := pk_shrN (by omega) _ k (by revert k; decide +kernel)
  rw [e1, show (nI 1 : Int32) = 1 from rfl, pk_andN (k := 1) (by have := Nat.div_le_self s (2 ^ k); omega) (by decide)]
  rw [Nat.testBit_eq_decide_div_mod_eq]
  congr 1
  have : s / 2 ^ k % 2 < 2 := Nat.mod_lt _ (by decide)
  by_cases h : s / 2 ^ k % 2 = 1
  · simp [h]
  · simp [h]; omega
theorem md_in {s i : Nat} (hs : s < 2147483648) (hi : i < 31) : jx_Go jxP d 132 0 [.int (nI s), .int (nI i)] [] h Q ↔ Q [.int (nI (if s.testBit i = true then 1 else 0))] h := by
  simp only [s132_0, s132_1, s132_2, s132_3, s132_4, s132_5, s132_6, s132_9, s132_10, s132_13, s132_14b0, s132_14b1, Option.some.injEq, exists_eq_left', exists_eq_left, List.cons_append, List.nil_append, List.length_nil, List.length_cons, Nat.reduceAdd, Nat.reduceMul, Nat.reduceSub, Nat.reduceLeDiff, true_and, and_true, ↓reduceIte, not_false_eq_true, not_true_eq_false, nI_add, pk_mul, jn_ltT, jn_ltF, jn_leT, jn_leF, jn_eqT, jn_eqF, jn_lt0, jn_ge0, jn_eq0T, jn_eq0F, jn_in, jn_cl, jsh_bit hs hi]
  cases s.testBit i
  · simp (disch := omega) only [s132_0, s132_1, s132_2, s132_3, s132_4, s132_5, s132_6, s132_9, s132_10, s132_13, s132_14b0, s132_14b1, Option.some.injEq, exists_eq_left', exists_eq_left, List.cons_append, List.nil_append, List.length_nil, List.length_cons, Nat.reduceAdd, Nat.reduceMul, Nat.reduceSub, Nat.reduceLeDiff, true_and, and_true, ↓reduceIte, not_false_eq_true, not_true_eq_false, nI_add, pk_mul, jn_ltT, jn_ltF, jn_leT, jn_leF, jn_eqT, jn_eqF, jn_lt0, jn_ge0, jn_eq0T, jn_eq0F, jn_in, jn_cl, Bool.false_eq_true]
  · simp (disch := omega) only [s132_0, s132_1, s132_2, s132_3, s132_4, s132_5, s132_6, s132_9, s132_10, s132_13, s132_14b0, s132_14b1, Option.some.injEq, exists_eq_left', exists_eq_left, List.cons_append, List.nil_append, List.length_nil, List.length_cons, Nat.reduceAdd, Nat.reduceMul, Nat.reduceSub, Nat.reduceLeDiff, true_and, and_true, ↓reduceIte, not_false_eq_true, not_true_eq_false, nI_add, pk_mul, jn_ltT, jn_ltF, jn_leT, jn_leF, jn_eqT, jn_eqF, jn_lt0, jn_ge0, jn_eq0T, jn_eq0F, jn_in, jn_cl]
/-- a task laid into a row of numbers at o, so far as i places -/
def jsv (f : Nat → Int32) (o : Nat) (R C : Nat) (pl wt : Nat → Int32) (i : Nat) : Nat → Int32 := fun j => if j = o then nI R else if j = o + 1 then nI C else if o + 2 ≤ j ∧ j < o + 2 + i then pl (j - (o + 2)) else if o + 27 ≤ j ∧ j < o + 27 + i then wt (j - (o + 27)) else f j
theorem jsv_s {f : Nat → Int32} {o R C i : Nat} {pl wt : Nat → Int32} (hi : i < 25) : upd (upd (jsv f o R C pl wt i) (o + 2 + i) (pl i)) (o + 27 + i) (wt i) = jsv f o R C pl wt (i + 1) := by
  funext j
  by_cases e1 : j = o + 27 + i
  · subst e1
    simp only [upd, jsv, if_true]
    rw [if_neg (by omega), if_neg (by omega), if_neg (by omega), if_pos (by omega)]
    congr 1
    omega
  · by_cases e2 : j = o + 2 + i
    · subst e2
      simp only [upd, jsv, if_true]
      rw [if_neg (by omega), if_neg (by omega), if_neg (by omega), if_pos (by omega)]
      congr 1
      omega
    · simp only [upd, jsv, if_neg e1, if_neg e2]
      by_cases e3 : j = o
      · simp [e3]
      · by_cases e4 : j = o + 1
        · simp [e4]
        · rw [if_neg e3, if_neg e4, if_neg e3, if_neg e4]
          by_cases e5 : o + 2 ≤ j ∧ j < o + 2 + i
          · rw [if_pos e5, if_pos (by omega)]
          · rw [if_neg e5, if_neg (by omega : ¬ (o + 2 ≤ j ∧ j < o + 2 + (i + 1)))]
            by_cases e6 : o + 27 ≤ j ∧ j < o + 27 + i
            · rw [if_pos e6, if_pos (by omega)]
            · rw [if_neg e6, if_neg (by omega)]
theorem md_save (hR : jR F A G g h) {a n o : Nat} (ha : jln a = some n) (ho : o + 52 ≤ n) (hn : n < 2000) (h1 : a ≠ 150) (h2 : a ≠ 151) (hr : F 149 0 ≤ 5) (hc : F 149 1 ≤ 5) (k : ∀ h', jR F (jua A a (jsv (A a) o (F 149 0) (F 149 1) (A 150) (A 151) 25)) G g h' → jD h h' → Q [] h') : jx_Go jxP d 134 0 [.ref 149, .ref a, .int (nI o), jx_u] [] h Q := by
  have hlt := jln_lt a n ha
  have hq := jln_ne a hlt (by rw [ha]; rfl)
  have h149 : 149 ≠ a := fun e => by rw [← e] at hq; cases hq.1
  have aa : jx_ai h a = some (n, A a) := hR.2.1 a n ha
  simp (disch := omega) only [s134_0, s134_1, s134_2, s134_3, s134_6, s134_7, s134_8, s134_9, s134_10, s134_11, s134_12, s134_15, s134_16, s134_17, s134_19, s134_21, s134_24, s134_25, s134_26, s134_27, s134_28, s134_29, s134_30, s134_31, s134_34, s134_35, s134_36, s134_37, s134_38, s134_39, s134_41, s134_42, s134_43, s134_44, s134_45, s134_48, s134_49, s134_50, s134_51, s134_54, s134_57, Option.some.injEq, exists_eq_left', exists_eq_left, List.cons_append, List.nil_append, List.length_nil, List.length_cons, Nat.reduceAdd, Nat.reduceMul, Nat.reduceSub, Nat.reduceLeDiff, true_and, and_true, ↓reduceIte, not_false_eq_true, not_true_eq_false, nI_add, pk_mul, jn_ltT, jn_ltF, jn_leT, jn_leF, jn_eqT, jn_eqF, jn_lt0, jn_ge0, jn_eq0T, jn_eq0F, jn_in, jn_cl, jh_ai_wi, jh_ai_wi_ne, jh_ai_uf, jh_fl_wi_ne, jh_fl_uf_ne, jh_fl_uf_o, jh_cl_wi_ne, jh_cl_uf, jh_al_wi_ne, jh_al_uf, jh_al_wl, jh_al_wl_ne, jh_ai_wl_ne, jh_fl_wl_ne, jh_cl_wl_ne, jh_ar_wi_ne, jh_ar_uf, jh_ar_wl_ne, jh_1_wi, jh_1_uf, jh_1_wl, jf_149_0 hR, jf_149_1 hR, jf_149_2 hR, jf_149_3 hR, ja_150 hR, ja_151 hR, aa, jh_wi_wi]
  have e0 : upd (upd (A a) o (nI (F 149 0))) (o + 1) (nI (F 149 1)) = jsv (A a) o (F 149 0) (F 149 1) (A 150) (A 151) 0 := by
    funext j
    by_cases e1 : j = o + 1
    · subst e1
      simp [upd, jsv]
    · by_cases e2 : j = o
      · subst e2
        simp [upd, jsv]
      · simp only [upd, jsv, if_neg e1, if_neg e2]
        rw [if_neg (by omega), if_neg (by omega)]
  rw [e0]
  refine jloop (fun i => jx_Go jxP d 134 18 [.ref 149, .ref a, .int (nI o), .int (nI i)] [] (jx_wi h a n (jsv (A a) o (F 149 0) (F 149 1) (A 150) (A 151) i)) Q) 25 ?_ ?_ 0 (Nat.zero_le _)
  · rw [s134_18]
    simp (disch := omega) only [s134_0, s134_1, s134_2, s134_3, s134_6, s134_7, s134_8, s134_9, s134_10, s134_11, s134_12, s134_15, s134_16, s134_17, s134_19, s134_21, s134_24, s134_25, s134_26, s134_27, s134_28, s134_29, s134_30, s134_31, s134_34, s134_35, s134_36, s134_37, s134_38, s134_39, s134_41, s134_42, s134_43, s134_44, s134_45, s134_48, s134_49, s134_50, s134_51, s134_54, s134_57, Option.some.injEq, exists_eq_left', exists_eq_left, List.cons_append, List.nil_append, List.length_nil, List.length_cons, Nat.reduceAdd, Nat.reduceMul, Nat.reduceSub, Nat.reduceLeDiff, true_and, and_true, ↓reduceIte, not_false_eq_true, not_true_eq_false, nI_add, pk_mul, jn_ltT, jn_ltF, jn_leT, jn_leF, jn_eqT, jn_eqF, jn_lt0, jn_ge0, jn_eq0T, jn_eq0F, jn_in, jn_cl]
    exact k _ (hR.wi ha) (jD.rf.wi (by omega))
  · intro i hi ih
    rw [s134_18]
    simp (disch := omega) only [s134_0, s134_1, s134_2, s134_3, s134_6, s134_7, s134_8, s134_9, s134_10, s134_11, s134_12, s134_15, s134_16, s134_17, s134_19, s134_21, s134_24, s134_25, s134_26, s134_27, s134_28, s134_29, s134_30, s134_31, s134_34, s134_35, s134_36, s134_37, s134_38, s134_39, s134_41, s134_42, s134_43, s134_44, s134_45, s134_48, s134_49, s134_50, s134_51, s134_54, s134_57, Option.some.injEq, exists_eq_left', exists_eq_left, List.cons_append, List.nil_append, List.length_nil, List.length_cons, Nat.reduceAdd, Nat.reduceMul, Nat.reduceSub, Nat.reduceLeDiff, true_and, and_true, ↓reduceIte, not_false_eq_true, not_true_eq_false, nI_add, pk_mul, jn_ltT, jn_ltF, jn_leT, jn_leF, jn_eqT, jn_eqF, jn_lt0, jn_ge0, jn_eq0T, jn_eq0F, jn_in, jn_cl, jh_ai_wi, jh_ai_wi_ne, jh_ai_uf, jh_fl_wi_ne, jh_fl_uf_ne, jh_fl_uf_o, jh_cl_wi_ne, jh_cl_uf, jh_al_wi_ne, jh_al_uf, jh_al_wl, jh_al_wl_ne, jh_ai_wl_ne, jh_fl_wl_ne, jh_cl_wl_ne, jh_ar_wi_ne, jh_ar_uf, jh_ar_wl_ne, jh_1_wi, jh_1_uf, jh_1_wl, jf_149_0 hR, jf_149_1 hR, jf_149_2 hR, jf_149_3 hR, ja_150 hR, ja_151 hR, aa, jh_wi_wi]
    rw [jsv_s hi]
    exact ih
theorem md_ones {mo pl R C : Nat} {f : Nat → Int32} {v : Int32} (f0 : jx_fl h mo 12 0 = some (.int (nI R))) (f1 : jx_fl h mo 12 1 = some (.int (nI C))) (f2 : jx_fl h mo 12 2 = some (.ref pl)) (fp : jx_ai h pl = some (25, f)) (hR : R ≤ 5) (hC : C ≤ 5) (k : Q [.int (nI (jsum R fun r => jsum C fun c => if f (5 * r + c) = v then 1 else 0))] h) : jx_Go jxP d 138 0 [.ref mo, .int v, jx_u, jx_u, jx_u] [] h Q := by
  simp only [s138_0, s138_1, s138_2, s138_3]
  refine jloop (fun r => ∀ w, jx_Go jxP d 138 4 [.ref mo, .int v, .int (nI (jsum r fun r => jsum C fun c => if f (5 * r + c) = v then 1 else 0)), .int (nI r), w] [] h Q) R ?_ ?_ 0 (Nat.zero_le _) _
  · intro w
    rw [s138_4]
    simp (disch := omega) only [s138_0, s138_1, s138_2, s138_3, s138_5, s138_6, s138_9, s138_12, s138_13, s138_17, s138_18, s138_21, s138_24, s138_25, s138_26, s138_29, s138_30, s138_31, s138_32, s138_34, s138_35, s138_36, s138_37, s138_40, s138_41, s138_44, s138_45, s138_46, s138_47, s138_50, s138_53, s138_56, s138_59, s138_60, Option.some.injEq, exists_eq_left', exists_eq_left, List.cons_append, List.nil_append, List.length_nil, List.length_cons, Nat.reduceAdd, Nat.reduceMul, Nat.reduceSub, Nat.reduceLeDiff, true_and, and_true, ↓reduceIte, not_false_eq_true, not_true_eq_false, nI_add, pk_mul, jn_ltT, jn_ltF, jn_leT, jn_leF, jn_eqT, jn_eqF, jn_lt0, jn_ge0, jn_eq0T, jn_eq0F, jn_in, jn_cl, f0, f1, f2, fp]
    exact k
  · intro r hr ih w
    rw [s138_4]
    simp (disch := omega) only [s138_0, s138_1, s138_2, s138_3, s138_5, s138_6, s138_9, s138_12, s138_13, s138_17, s138_18, s138_21, s138_24, s138_25, s138_26, s138_29, s138_30, s138_31, s138_32, s138_34, s138_35, s138_36, s138_37, s138_40, s138_41, s138_44, s138_45, s138_46, s138_47, s138_50, s138_53, s138_56, s138_59, s138_60, Option.some.injEq, exists_eq_left', exists_eq_left, List.cons_append, List.nil_append, List.length_nil, List.length_cons, Nat.reduceAdd, Nat.reduceMul, Nat.reduceSub, Nat.reduceLeDiff, true_and, and_true, ↓reduceIte, not_false_eq_true, not_true_eq_false, nI_add, pk_mul, jn_ltT, jn_ltF, jn_leT, jn_leF, jn_eqT, jn_eqF, jn_lt0, jn_ge0, jn_eq0T, jn_eq0F, jn_in, jn_cl, f0, f1, f2, fp]
    refine jloop (fun c => jx_Go jxP d 138 15 [.ref mo, .int v, .int (nI (jsum r (fun r => jsum C fun c => if f (5 * r + c) = v then 1 else 0) + jsum c fun c => if f (5 * r + c) = v then 1 else 0)), .int (nI r), .int (nI c)] [] h Q) C ?_ ?_ 0 (Nat.zero_le _)
    · rw [s138_15]
      simp (disch := omega) only [s138_0, s138_1, s138_2, s138_3, s138_5, s138_6, s138_9, s138_12, s138_13, s138_17, s138_18, s138_21, s138_24, s138_25, s138_26, s138_29, s138_30, s138_31, s138_32, s138_34, s138_35, s138_36, s138_37, s138_40, s138_41, s138_44, s138_45, s138_46, s138_47, s138_50, s138_53, s138_56, s138_59, s138_60, Option.some.injEq, exists_eq_left', exists_eq_left, List.cons_append, List.nil_append, List.length_nil, List.length_cons, Nat.reduceAdd, Nat.reduceMul, Nat.reduceSub, Nat.reduceLeDiff, true_and, and_true, ↓reduceIte, not_false_eq_true, not_true_eq_false, nI_add, pk_mul, jn_ltT, jn_ltF, jn_leT, jn_leF, jn_eqT, jn_eqF, jn_lt0, jn_ge0, jn_eq0T, jn_eq0F, jn_in, jn_cl, f0, f1, f2, fp]
      exact ih _
    · intro c hc ih2
      rw [s138_15]
      simp (disch := omega) only [s138_0, s138_1, s138_2, s138_3, s138_5, s138_6, s138_9, s138_12, s138_13, s138_17, s138_18, s138_21, s138_24, s138_25, s138_26, s138_29, s138_30, s138_31, s138_32, s138_34, s138_35, s138_36, s138_37, s138_40, s138_41, s138_44, s138_45, s138_46, s138_47, s138_50, s138_53, s138_56, s138_59, s138_60, Option.some.injEq, exists_eq_left', exists_eq_left, List.cons_append, List.nil_append, List.length_nil, List.length_cons, Nat.reduceAdd, Nat.reduceMul, Nat.reduceSub, Nat.reduceLeDiff, true_and, and_true, ↓reduceIte, not_false_eq_true, not_true_eq_false, nI_add, pk_mul, jn_ltT, jn_ltF, jn_leT, jn_leF, jn_eqT, jn_eqF, jn_lt0, jn_ge0, jn_eq0T, jn_eq0F, jn_in, jn_cl, f0, f1, f2, fp]
      split
      · next e => simpa [jsum_s, e, Nat.add_assoc] using ih2
      · next e => simpa [jsum_s, e, Nat.add_assoc] using ih2
end MD1
