/-! ===== the reference: sheets are written, copied and laid ===== -/
section MD7
variable {d : Nat} {F : Nat → Nat → Nat} {A : Nat → Nat → Int32} {G : Nat → Option Nat} {g : Nat → Int64} {h : jxH} {Q : List Value → jxH → Prop}
theorem jn_rem2 {a b : Nat} : nI a - nI (a / b * b) = nI (a % b) := by
  rw [pk_sub (Nat.div_mul_le_self a b)]
  congr 1
  have h1 := Nat.div_add_mod a b
  rw [Nat.mul_comm] at h1
  omega
/-- what write() finds: sheets of bits B, of Z numbers -/
def jwrA (B Z : Nat → Nat) (s i : Int32) : Option Int32 := if jbel s 4 = true then (if B s.toNatClampNeg = 0 then some (-2) else if jbel i (Z s.toNatClampNeg) = true then none else some (-1)) else some (-1)
/-- a number's lowest bits, as the reference keeps them -/
def jtrc (b : Nat) (v : Int32) : Int32 := if b = 8 then v.toInt8.toInt32 else if b = 16 then v.toInt16.toInt32 else v
theorem md_write_f (hR : jR F A G g h) {B Z : Nat → Nat} (hB : ∀ s, s < 4 → A 155 s = nI (B s) ∧ A 156 s = nI (Z s) ∧ B s ≤ 32 ∧ Z s ≤ 30) {s i v x : Int32} (e : jwrA B Z s i = some x) (k : ∀ h', jR (jup F 149 13 (F 149 13 + 1)) A G g h' → jD h h' → Q [.int x] h') : jx_Go jxP (d + 1) 150 0 [.ref 149, .int s, .int i, .int v] [] h Q := by
  unfold jwrA at e
  simp only [s150_0, s150_1, Option.some.injEq, exists_eq_left', exists_eq_left, List.cons_append, List.nil_append, List.length_nil, List.length_cons, Nat.reduceAdd, Nat.reduceMul, Nat.reduceSub, Nat.reduceLeDiff, true_and, and_true, ↓reduceIte, not_false_eq_true, not_true_eq_false, nI_add, pk_mul, jn_ltT, jn_ltF, jn_leT, jn_leF, jn_eqT, jn_eqF, jn_lt0, jn_ge0, jn_eq0T, jn_eq0F, jn_in, jn_cl, md_isSheet]
  by_cases hs : jbel s 4 = true
  · rw [if_pos hs] at e ⊢
    obtain ⟨s', hs', rfl⟩ := (jbel_iff (by omega)).mp hs
    obtain ⟨b1, b2, b3, b4⟩ := hB s' hs'
    rw [nI_clamp (by omega)] at e
    by_cases q : B s' = 0
    · rw [if_pos q] at e
      cases e
      simp (disch := omega) only [s150_4, s150_7, s150_8, s150_9, s150_12, s150_13, s150_14, s150_17, s150_18, s150_19, s150_22, s150_23, s150_25, s150_28, Option.some.injEq, exists_eq_left', exists_eq_left, List.cons_append, List.nil_append, List.length_nil, List.length_cons, Nat.reduceAdd, Nat.reduceMul, Nat.reduceSub, Nat.reduceLeDiff, true_and, and_true, ↓reduceIte, not_false_eq_true, not_true_eq_false, nI_add, pk_mul, jn_ltT, jn_ltF, jn_leT, jn_leF, jn_eqT, jn_eqF, jn_lt0, jn_ge0, jn_eq0T, jn_eq0F, jn_in, jn_cl, jf_149_8 hR, ja_155 hR, jc_of_149 hR, b1]
      exact md_finding hR (fun h' hR' hD' => by simp only [s150_28, Option.some.injEq, exists_eq_left', exists_eq_left, List.cons_append, List.nil_append, List.length_nil, List.length_cons, Nat.reduceAdd, Nat.reduceMul, Nat.reduceSub, Nat.reduceLeDiff, true_and, and_true, ↓reduceIte, not_false_eq_true, not_true_eq_false, nI_add, pk_mul, jn_ltT, jn_ltF, jn_leT, jn_leF, jn_eqT, jn_eqF, jn_lt0, jn_ge0, jn_eq0T, jn_eq0F, jn_in, jn_cl]; exact k h' hR' hD')
    · rw [if_neg q] at e
      have hb : ¬ jbel i (Z s') = true := fun w => by rw [if_pos w] at e; cases e
      rw [if_neg hb] at e
      cases e
      have k43 : jx_Go jxP (d + 1) 150 43 [.ref 149, .int (nI s'), .int i, .int v] [] h Q := by
        simp (disch := omega) only [s150_43, s150_44, s150_45, Option.some.injEq, exists_eq_left', exists_eq_left, List.cons_append, List.nil_append, List.length_nil, List.length_cons, Nat.reduceAdd, Nat.reduceMul, Nat.reduceSub, Nat.reduceLeDiff, true_and, and_true, ↓reduceIte, not_false_eq_true, not_true_eq_false, nI_add, pk_mul, jn_ltT, jn_ltF, jn_leT, jn_leF, jn_eqT, jn_eqF, jn_lt0, jn_ge0, jn_eq0T, jn_eq0F, jn_in, jn_cl, jc_of_149 hR]
        exact md_finding hR (fun h' hR' hD' => by simp only [s150_48, Option.some.injEq, exists_eq_left', exists_eq_left, List.cons_append, List.nil_append, List.length_nil, List.length_cons, Nat.reduceAdd, Nat.reduceMul, Nat.reduceSub, Nat.reduceLeDiff, true_and, and_true, ↓reduceIte, not_false_eq_true, not_true_eq_false, nI_add, pk_mul, jn_ltT, jn_ltF, jn_leT, jn_leF, jn_eqT, jn_eqF, jn_lt0, jn_ge0, jn_eq0T, jn_eq0F, jn_in, jn_cl]; exact k h' hR' hD')
      simp (disch := omega) only [s150_4, s150_7, s150_8, s150_9, s150_12, s150_13, s150_14, s150_17, s150_18, s150_19, s150_22, s150_23, s150_25, s150_28, s150_29, s150_30, Option.some.injEq, exists_eq_left', exists_eq_left, List.cons_append, List.nil_append, List.length_nil, List.length_cons, Nat.reduceAdd, Nat.reduceMul, Nat.reduceSub, Nat.reduceLeDiff, true_and, and_true, ↓reduceIte, not_false_eq_true, not_true_eq_false, nI_add, pk_mul, jn_ltT, jn_ltF, jn_leT, jn_leF, jn_eqT, jn_eqF, jn_lt0, jn_ge0, jn_eq0T, jn_eq0F, jn_in, jn_cl, jf_149_8 hR, ja_155 hR, jc_of_149 hR, b1]
      rcases jbel_f hb with w | ⟨w, w2⟩
      · rw [if_pos w]; exact k43
      · rw [if_neg w]
        simp (disch := omega) only [s150_33, s150_34, s150_35, s150_38, s150_39, s150_40, Option.some.injEq, exists_eq_left', exists_eq_left, List.cons_append, List.nil_append, List.length_nil, List.length_cons, Nat.reduceAdd, Nat.reduceMul, Nat.reduceSub, Nat.reduceLeDiff, true_and, and_true, ↓reduceIte, not_false_eq_true, not_true_eq_false, nI_add, pk_mul, jn_ltT, jn_ltF, jn_leT, jn_leF, jn_eqT, jn_eqF, jn_lt0, jn_ge0, jn_eq0T, jn_eq0F, jn_in, jn_cl, jf_149_9 hR, ja_156 hR, b2]
        rw [if_neg (fun w3 => by rw [Int32.lt_iff_toInt_lt] at w3; rw [Int32.le_iff_toInt_le] at w2; omega)]
        exact k43
  · rw [if_neg hs] at e ⊢
    cases e
    simp (disch := omega) only [s150_4, s150_7, s150_8, s150_9, Option.some.injEq, exists_eq_left', exists_eq_left, List.cons_append, List.nil_append, List.length_nil, List.length_cons, Nat.reduceAdd, Nat.reduceMul, Nat.reduceSub, Nat.reduceLeDiff, true_and, and_true, ↓reduceIte, not_false_eq_true, not_true_eq_false, nI_add, pk_mul, jn_ltT, jn_ltF, jn_leT, jn_leF, jn_eqT, jn_eqF, jn_lt0, jn_ge0, jn_eq0T, jn_eq0F, jn_in, jn_cl, jc_of_149 hR]
    exact md_finding hR (fun h' hR' hD' => by simp only [s150_12, Option.some.injEq, exists_eq_left', exists_eq_left, List.cons_append, List.nil_append, List.length_nil, List.length_cons, Nat.reduceAdd, Nat.reduceMul, Nat.reduceSub, Nat.reduceLeDiff, true_and, and_true, ↓reduceIte, not_false_eq_true, not_true_eq_false, nI_add, pk_mul, jn_ltT, jn_ltF, jn_leT, jn_leF, jn_eqT, jn_eqF, jn_lt0, jn_ge0, jn_eq0T, jn_eq0F, jn_in, jn_cl]; exact k h' hR' hD')
theorem md_write_t (hR : jR F A G g h) {s i b z : Nat} (hs : s < 4) (e1 : A 155 s = nI b) (e2 : A 156 s = nI z) (hb : b = 8 ∨ b = 16 ∨ b = 32) (hz : z ≤ 30) (hi : i < z) {v : Int32} (k : ∀ h', jR F (jua A 157 (upd (A 157) (30 * s + i) (jtrc b v))) G g h' → jD h h' → Q [.int (nI 0)] h') : jx_Go jxP (d + 1) 150 0 [.ref 149, .int (nI s), .int (nI i), .int v] [] h Q := by
  simp (disch := omega) only [s150_0, s150_1, Option.some.injEq, exists_eq_left', exists_eq_left, List.cons_append, List.nil_append, List.length_nil, List.length_cons, Nat.reduceAdd, Nat.reduceMul, Nat.reduceSub, Nat.reduceLeDiff, true_and, and_true, ↓reduceIte, not_false_eq_true, not_true_eq_false, nI_add, pk_mul, jn_ltT, jn_ltF, jn_leT, jn_leF, jn_eqT, jn_eqF, jn_lt0, jn_ge0, jn_eq0T, jn_eq0F, jn_in, jn_cl, md_isSheet, jbel_n]
  rcases hb with rfl | rfl | rfl <;> simp (disch := omega) only [s150_4, s150_7, s150_8, s150_9, s150_12, s150_13, s150_14, s150_17, s150_18, s150_19, s150_22, s150_23, s150_25, s150_28, s150_29, s150_30, s150_33, s150_34, s150_35, s150_38, s150_39, s150_40, s150_43, s150_44, s150_45, s150_48, s150_49, s150_50, s150_53, s150_55, s150_56, s150_57, s150_58, s150_59, s150_60, s150_63, s150_64, s150_65, s150_67, s150_70, s150_71, s150_72, s150_75, s150_76, s150_79, s150_80, s150_81, s150_83, s150_86, s150_87, s150_88, s150_91, s150_92, s150_93, s150_94, Option.some.injEq, exists_eq_left', exists_eq_left, List.cons_append, List.nil_append, List.length_nil, List.length_cons, Nat.reduceAdd, Nat.reduceMul, Nat.reduceSub, Nat.reduceLeDiff, true_and, and_true, ↓reduceIte, not_false_eq_true, not_true_eq_false, nI_add, pk_mul, jn_ltT, jn_ltF, jn_leT, jn_leF, jn_eqT, jn_eqF, jn_lt0, jn_ge0, jn_eq0T, jn_eq0F, jn_in, jn_cl, jh_ai_wi, jh_ai_wi_ne, jh_ai_uf, jh_fl_wi_ne, jh_fl_uf_ne, jh_fl_uf_o, jh_cl_wi_ne, jh_cl_uf, jh_al_wi_ne, jh_al_uf, jh_al_wl, jh_al_wl_ne, jh_ai_wl_ne, jh_fl_wl_ne, jh_cl_wl_ne, jh_ar_wi_ne, jh_ar_uf, jh_ar_wl_ne, jh_1_wi, jh_1_uf, jh_1_wl, jf_149_8 hR, jf_149_9 hR, jf_149_10 hR, ja_155 hR, ja_156 hR, ja_157 hR, e1, e2] <;> exact k _ (hR.wi rfl) (jD.rf.wi (by decide))
/-- n numbers from x on lie in a row of z -/
def jhp (z : Nat) (x y : Int32) : Bool := decide (¬ x < 0) && (decide (¬ y < 0) && decide (x.toInt + y.toInt ≤ z))
theorem jhp_t {z : Nat} {x y : Int32} (hz : z ≤ 30) (e : jhp z x y = true) : ∃ f n, x = nI f ∧ y = nI n ∧ f + n ≤ z := by
  unfold jhp at e
  rw [Bool.and_eq_true, Bool.and_eq_true, decide_eq_true_eq, decide_eq_true_eq, decide_eq_true_eq] at e
  obtain ⟨e1, e2, e3⟩ := e
  obtain ⟨f, hf, rfl⟩ := nI_of e1
  obtain ⟨n, hn, rfl⟩ := nI_of e2
  rw [nI_toInt (by omega), nI_toInt (by omega)] at e3
  exact ⟨f, n, rfl, rfl, by omega⟩
theorem jhp_n {z f n : Nat} (h1 : f + n ≤ z) (hz : z ≤ 30) : jhp z (nI f) (nI n) = true := by
  unfold jhp
  rw [Bool.and_eq_true, Bool.and_eq_true, decide_eq_true_eq, decide_eq_true_eq, decide_eq_true_eq, nI_toInt (by omega), nI_toInt (by omega)]
  exact ⟨nI_pos (by omega), nI_pos (by omega), by omega⟩
theorem md_hasPart (hR : jR F A G g h) {s z : Nat} (hs : s < 4) (e2 : A 156 s = nI z) (hz : z ≤ 30) {x y : Int32} : jx_Go jxP d 151 0 [.ref 149, .int (nI s), .int x, .int y] [] h Q ↔ Q [.int (nI (if jhp z x y = true then 1 else 0))] h := by
  simp only [s151_0, s151_1, s151_4, s151_5, Option.some.injEq, exists_eq_left', exists_eq_left, List.cons_append, List.nil_append, List.length_nil, List.length_cons, Nat.reduceAdd, Nat.reduceMul, Nat.reduceSub, Nat.reduceLeDiff, true_and, and_true, ↓reduceIte, not_false_eq_true, not_true_eq_false, nI_add, pk_mul, jn_ltT, jn_ltF, jn_leT, jn_leF, jn_eqT, jn_eqF, jn_lt0, jn_ge0, jn_eq0T, jn_eq0F, jn_in, jn_cl]
  by_cases a : x < 0
  · simp (disch := omega) only [s151_34, s151_35b0, s151_35b1, Option.some.injEq, exists_eq_left', exists_eq_left, List.cons_append, List.nil_append, List.length_nil, List.length_cons, Nat.reduceAdd, Nat.reduceMul, Nat.reduceSub, Nat.reduceLeDiff, true_and, and_true, ↓reduceIte, not_false_eq_true, not_true_eq_false, nI_add, pk_mul, jn_ltT, jn_ltF, jn_leT, jn_leF, jn_eqT, jn_eqF, jn_lt0, jn_ge0, jn_eq0T, jn_eq0F, jn_in, jn_cl, a]
    simp [jhp, a]
  · by_cases b : y < 0
    · simp (disch := omega) only [s151_34, s151_35b0, s151_35b1, Option.some.injEq, exists_eq_left', exists_eq_left, List.cons_append, List.nil_append, List.length_nil, List.length_cons, Nat.reduceAdd, Nat.reduceMul, Nat.reduceSub, Nat.reduceLeDiff, true_and, and_true, ↓reduceIte, not_false_eq_true, not_true_eq_false, nI_add, pk_mul, jn_ltT, jn_ltF, jn_leT, jn_leF, jn_eqT, jn_eqF, jn_lt0, jn_ge0, jn_eq0T, jn_eq0F, jn_in, jn_cl, a, b]
      simp [jhp, b]
    · obtain ⟨f, hf, rfl⟩ := nI_of a
      obtain ⟨n, hn, rfl⟩ := nI_of b
      rw [if_neg a, if_neg b]
      by_cases c : n ≤ z
      · by_cases e : f + n ≤ z
        · simp (disch := omega) only [s151_8, s151_9, s151_10, s151_13, s151_14, s151_15, s151_18, s151_19, s151_20, s151_23, s151_24, s151_25, s151_26, s151_27, s151_30, s151_31, s151_34, s151_35b0, s151_35b1, Option.some.injEq, exists_eq_left', exists_eq_left, List.cons_append, List.nil_append, List.length_nil, List.length_cons, Nat.reduceAdd, Nat.reduceMul, Nat.reduceSub, Nat.reduceLeDiff, true_and, and_true, ↓reduceIte, not_false_eq_true, not_true_eq_false, nI_add, pk_mul, jn_ltT, jn_ltF, jn_leT, jn_leF, jn_eqT, jn_eqF, jn_lt0, jn_ge0, jn_eq0T, jn_eq0F, jn_in, jn_cl, jf_149_9 hR, ja_156 hR, e2, jn_sub, jhp_n e hz]
        · have : ¬ jhp z (nI f) (nI n) = true := fun q => by
            obtain ⟨f', n', q1, q2, q3⟩ := jhp_t hz q
            rw [nI_eq (by omega) (by omega)] at q1 q2
            omega
          rw [if_neg this]
          simp (disch := omega) only [s151_8, s151_9, s151_10, s151_13, s151_14, s151_15, s151_18, s151_19, s151_20, s151_23, s151_24, s151_25, s151_26, s151_27, s151_30, s151_31, s151_34, s151_35b0, s151_35b1, Option.some.injEq, exists_eq_left', exists_eq_left, List.cons_append, List.nil_append, List.length_nil, List.length_cons, Nat.reduceAdd, Nat.reduceMul, Nat.reduceSub, Nat.reduceLeDiff, true_and, and_true, ↓reduceIte, not_false_eq_true, not_true_eq_false, nI_add, pk_mul, jn_ltT, jn_ltF, jn_leT, jn_leF, jn_eqT, jn_eqF, jn_lt0, jn_ge0, jn_eq0T, jn_eq0F, jn_in, jn_cl, jf_149_9 hR, ja_156 hR, e2, jn_sub]
      · have : ¬ jhp z (nI f) (nI n) = true := fun q => by
          obtain ⟨f', n', q1, q2, q3⟩ := jhp_t hz q
          rw [nI_eq (by omega) (by omega)] at q1 q2
          omega
        rw [if_neg this]
        simp (disch := omega) only [s151_8, s151_9, s151_10, s151_13, s151_14, s151_15, s151_18, s151_19, s151_20, s151_23, s151_24, s151_25, s151_26, s151_27, s151_30, s151_31, s151_34, s151_35b0, s151_35b1, Option.some.injEq, exists_eq_left', exists_eq_left, List.cons_append, List.nil_append, List.length_nil, List.length_cons, Nat.reduceAdd, Nat.reduceMul, Nat.reduceSub, Nat.reduceLeDiff, true_and, and_true, ↓reduceIte, not_false_eq_true, not_true_eq_false, nI_add, pk_mul, jn_ltT, jn_ltF, jn_leT, jn_leF, jn_eqT, jn_eqF, jn_lt0, jn_ge0, jn_eq0T, jn_eq0F, jn_in, jn_cl, jf_149_9 hR, ja_156 hR, e2]
/-- what copy() finds -/
def jcpA (B Z : Nat → Nat) (s x t y n : Int32) : Option Int32 := if jbel s 4 = true ∧ jbel t 4 = true then (if B s.toNatClampNeg = 0 ∨ B t.toNatClampNeg = 0 then some (-2) else if B s.toNatClampNeg = B t.toNatClampNeg then (if jhp (Z s.toNatClampNeg) x n = true ∧ jhp (Z t.toNatClampNeg) y n = true then none else some (-1)) else some (-4)) else some (-1)
theorem md_copy_f (hR : jR F A G g h) {B Z : Nat → Nat} (hB : ∀ s, s < 4 → A 155 s = nI (B s) ∧ A 156 s = nI (Z s) ∧ B s ≤ 32 ∧ Z s ≤ 30) {s x t y n w : Int32} (e : jcpA B Z s x t y n = some w) (k : ∀ h', jR (jup F 149 13 (F 149 13 + 1)) A G g h' → jD h h' → Q [.int w] h') : jx_Go jxP (d + 1) 152 0 [.ref 149, .int s, .int x, .int t, .int y, .int n, jx_u] [] h Q := by
  unfold jcpA at e
  have k14 : w = -1 → jx_Go jxP (d + 1) 152 14 [.ref 149, .int s, .int x, .int t, .int y, .int n, jx_u] [] h Q := by
    rintro rfl
    simp (disch := omega) only [s152_14, s152_15, s152_16, Option.some.injEq, exists_eq_left', exists_eq_left, List.cons_append, List.nil_append, List.length_nil, List.length_cons, Nat.reduceAdd, Nat.reduceMul, Nat.reduceSub, Nat.reduceLeDiff, true_and, and_true, ↓reduceIte, not_false_eq_true, not_true_eq_false, nI_add, pk_mul, jn_ltT, jn_ltF, jn_leT, jn_leF, jn_eqT, jn_eqF, jn_lt0, jn_ge0, jn_eq0T, jn_eq0F, jn_in, jn_cl, jc_of_149 hR]
    exact md_finding hR (fun h' hR' hD' => by simp only [s152_19, Option.some.injEq, exists_eq_left', exists_eq_left, List.cons_append, List.nil_append, List.length_nil, List.length_cons, Nat.reduceAdd, Nat.reduceMul, Nat.reduceSub, Nat.reduceLeDiff, true_and, and_true, ↓reduceIte, not_false_eq_true, not_true_eq_false, nI_add, pk_mul, jn_ltT, jn_ltF, jn_leT, jn_leF, jn_eqT, jn_eqF, jn_lt0, jn_ge0, jn_eq0T, jn_eq0F, jn_in, jn_cl]; exact k h' hR' hD')
  simp only [s152_0, s152_1, Option.some.injEq, exists_eq_left', exists_eq_left, List.cons_append, List.nil_append, List.length_nil, List.length_cons, Nat.reduceAdd, Nat.reduceMul, Nat.reduceSub, Nat.reduceLeDiff, true_and, and_true, ↓reduceIte, not_false_eq_true, not_true_eq_false, nI_add, pk_mul, jn_ltT, jn_ltF, jn_leT, jn_leF, jn_eqT, jn_eqF, jn_lt0, jn_ge0, jn_eq0T, jn_eq0F, jn_in, jn_cl, md_isSheet]
  by_cases hs : jbel s 4 = true
  · rw [if_pos hs]
    simp (disch := omega) only [s152_4, s152_7, s152_8, Option.some.injEq, exists_eq_left', exists_eq_left, List.cons_append, List.nil_append, List.length_nil, List.length_cons, Nat.reduceAdd, Nat.reduceMul, Nat.reduceSub, Nat.reduceLeDiff, true_and, and_true, ↓reduceIte, not_false_eq_true, not_true_eq_false, nI_add, pk_mul, jn_ltT, jn_ltF, jn_leT, jn_leF, jn_eqT, jn_eqF, jn_lt0, jn_ge0, jn_eq0T, jn_eq0F, jn_in, jn_cl, md_isSheet]
    by_cases ht : jbel t 4 = true
    · rw [if_pos ht]
      rw [if_pos ⟨hs, ht⟩] at e
      obtain ⟨s', hs', rfl⟩ := (jbel_iff (by omega)).mp hs
      obtain ⟨t', ht', rfl⟩ := (jbel_iff (by omega)).mp ht
      obtain ⟨b1, b2, b3, b4⟩ := hB s' hs'
      obtain ⟨c1, c2, c3, c4⟩ := hB t' ht'
      rw [nI_clamp (by omega), nI_clamp (by omega)] at e
      have k38 : w = -2 → jx_Go jxP (d + 1) 152 38 [.ref 149, .int (nI s'), .int x, .int (nI t'), .int y, .int n, jx_u] [] h Q := by
        rintro rfl
        simp (disch := omega) only [s152_38, s152_39, s152_41, Option.some.injEq, exists_eq_left', exists_eq_left, List.cons_append, List.nil_append, List.length_nil, List.length_cons, Nat.reduceAdd, Nat.reduceMul, Nat.reduceSub, Nat.reduceLeDiff, true_and, and_true, ↓reduceIte, not_false_eq_true, not_true_eq_false, nI_add, pk_mul, jn_ltT, jn_ltF, jn_leT, jn_leF, jn_eqT, jn_eqF, jn_lt0, jn_ge0, jn_eq0T, jn_eq0F, jn_in, jn_cl, jc_of_149 hR]
        exact md_finding hR (fun h' hR' hD' => by simp only [s152_44, Option.some.injEq, exists_eq_left', exists_eq_left, List.cons_append, List.nil_append, List.length_nil, List.length_cons, Nat.reduceAdd, Nat.reduceMul, Nat.reduceSub, Nat.reduceLeDiff, true_and, and_true, ↓reduceIte, not_false_eq_true, not_true_eq_false, nI_add, pk_mul, jn_ltT, jn_ltF, jn_leT, jn_leF, jn_eqT, jn_eqF, jn_lt0, jn_ge0, jn_eq0T, jn_eq0F, jn_in, jn_cl]; exact k h' hR' hD')
      by_cases q1 : B s' = 0
      · rw [if_pos (Or.inl q1)] at e
        simp (disch := omega) only [s152_11, s152_14, s152_15, s152_16, s152_19, s152_20, s152_21, s152_24, s152_25, s152_26, Option.some.injEq, exists_eq_left', exists_eq_left, List.cons_append, List.nil_append, List.length_nil, List.length_cons, Nat.reduceAdd, Nat.reduceMul, Nat.reduceSub, Nat.reduceLeDiff, true_and, and_true, ↓reduceIte, not_false_eq_true, not_true_eq_false, nI_add, pk_mul, jn_ltT, jn_ltF, jn_leT, jn_leF, jn_eqT, jn_eqF, jn_lt0, jn_ge0, jn_eq0T, jn_eq0F, jn_in, jn_cl, jf_149_8 hR, ja_155 hR, b1]
        exact k38 (Option.some.inj e).symm
      · by_cases q2 : B t' = 0
        · rw [if_pos (Or.inr q2)] at e
          simp (disch := omega) only [s152_11, s152_14, s152_15, s152_16, s152_19, s152_20, s152_21, s152_24, s152_25, s152_26, s152_29, s152_30, s152_33, s152_34, s152_35, Option.some.injEq, exists_eq_left', exists_eq_left, List.cons_append, List.nil_append, List.length_nil, List.length_cons, Nat.reduceAdd, Nat.reduceMul, Nat.reduceSub, Nat.reduceLeDiff, true_and, and_true, ↓reduceIte, not_false_eq_true, not_true_eq_false, nI_add, pk_mul, jn_ltT, jn_ltF, jn_leT, jn_leF, jn_eqT, jn_eqF, jn_lt0, jn_ge0, jn_eq0T, jn_eq0F, jn_in, jn_cl, jf_149_8 hR, ja_155 hR, b1, c1]
          exact k38 (Option.some.inj e).symm
        · rw [if_neg (by omega)] at e
          by_cases q3 : B s' = B t'
          · rw [if_pos q3] at e
            have hne : ¬ (jhp (Z s') x n = true ∧ jhp (Z t') y n = true) := fun q => by rw [if_pos q] at e; cases e
            rw [if_neg hne] at e
            cases e
            have k90 : jx_Go jxP (d + 1) 152 90 [.ref 149, .int (nI s'), .int x, .int (nI t'), .int y, .int n, jx_u] [] h Q := by
              simp (disch := omega) only [s152_90, s152_91, s152_92, Option.some.injEq, exists_eq_left', exists_eq_left, List.cons_append, List.nil_append, List.length_nil, List.length_cons, Nat.reduceAdd, Nat.reduceMul, Nat.reduceSub, Nat.reduceLeDiff, true_and, and_true, ↓reduceIte, not_false_eq_true, not_true_eq_false, nI_add, pk_mul, jn_ltT, jn_ltF, jn_leT, jn_leF, jn_eqT, jn_eqF, jn_lt0, jn_ge0, jn_eq0T, jn_eq0F, jn_in, jn_cl, jc_of_149 hR]
              exact md_finding hR (fun h' hR' hD' => by simp only [s152_95, Option.some.injEq, exists_eq_left', exists_eq_left, List.cons_append, List.nil_append, List.length_nil, List.length_cons, Nat.reduceAdd, Nat.reduceMul, Nat.reduceSub, Nat.reduceLeDiff, true_and, and_true, ↓reduceIte, not_false_eq_true, not_true_eq_false, nI_add, pk_mul, jn_ltT, jn_ltF, jn_leT, jn_leF, jn_eqT, jn_eqF, jn_lt0, jn_ge0, jn_eq0T, jn_eq0F, jn_in, jn_cl]; exact k h' hR' hD')
            simp (disch := omega) only [s152_11, s152_14, s152_15, s152_16, s152_19, s152_20, s152_21, s152_24, s152_25, s152_26, s152_29, s152_30, s152_33, s152_34, s152_35, s152_38, s152_39, s152_41, s152_44, s152_45, s152_46, s152_49, s152_50, s152_51, s152_52, s152_55, s152_56, s152_57, s152_60, s152_61, s152_63, s152_66, s152_67, s152_68, s152_69, s152_70, s152_72, Option.some.injEq, exists_eq_left', exists_eq_left, List.cons_append, List.nil_append, List.length_nil, List.length_cons, Nat.reduceAdd, Nat.reduceMul, Nat.reduceSub, Nat.reduceLeDiff, true_and, and_true, ↓reduceIte, not_false_eq_true, not_true_eq_false, nI_add, pk_mul, jn_ltT, jn_ltF, jn_leT, jn_leF, jn_eqT, jn_eqF, jn_lt0, jn_ge0, jn_eq0T, jn_eq0F, jn_in, jn_cl, jf_149_8 hR, ja_155 hR, b1, c1, jc_of_149 hR, md_hasPart hR hs' b2 b4]
            by_cases q4 : jhp (Z s') x n = true
            · rw [if_pos q4]
              simp (disch := omega) only [s152_75, s152_78, s152_79, s152_80, s152_82, s152_84, Option.some.injEq, exists_eq_left', exists_eq_left, List.cons_append, List.nil_append, List.length_nil, List.length_cons, Nat.reduceAdd, Nat.reduceMul, Nat.reduceSub, Nat.reduceLeDiff, true_and, and_true, ↓reduceIte, not_false_eq_true, not_true_eq_false, nI_add, pk_mul, jn_ltT, jn_ltF, jn_leT, jn_leF, jn_eqT, jn_eqF, jn_lt0, jn_ge0, jn_eq0T, jn_eq0F, jn_in, jn_cl, jc_of_149 hR, md_hasPart hR ht' c2 c4]
              rw [if_neg (fun q => hne ⟨q4, q⟩)]
              simp (disch := omega) only [s152_87, Option.some.injEq, exists_eq_left', exists_eq_left, List.cons_append, List.nil_append, List.length_nil, List.length_cons, Nat.reduceAdd, Nat.reduceMul, Nat.reduceSub, Nat.reduceLeDiff, true_and, and_true, ↓reduceIte, not_false_eq_true, not_true_eq_false, nI_add, pk_mul, jn_ltT, jn_ltF, jn_leT, jn_leF, jn_eqT, jn_eqF, jn_lt0, jn_ge0, jn_eq0T, jn_eq0F, jn_in, jn_cl]
              exact k90
            · rw [if_neg q4]
              simp (disch := omega) only [s152_75, s152_78, s152_79, s152_80, s152_82, s152_84, Option.some.injEq, exists_eq_left', exists_eq_left, List.cons_append, List.nil_append, List.length_nil, List.length_cons, Nat.reduceAdd, Nat.reduceMul, Nat.reduceSub, Nat.reduceLeDiff, true_and, and_true, ↓reduceIte, not_false_eq_true, not_true_eq_false, nI_add, pk_mul, jn_ltT, jn_ltF, jn_leT, jn_leF, jn_eqT, jn_eqF, jn_lt0, jn_ge0, jn_eq0T, jn_eq0F, jn_in, jn_cl]
              exact k90
          · rw [if_neg q3] at e
            cases e
            simp (disch := omega) only [s152_11, s152_14, s152_15, s152_16, s152_19, s152_20, s152_21, s152_24, s152_25, s152_26, s152_29, s152_30, s152_33, s152_34, s152_35, s152_38, s152_39, s152_41, s152_44, s152_45, s152_46, s152_49, s152_50, s152_51, s152_52, s152_55, s152_56, s152_57, s152_60, s152_61, s152_63, Option.some.injEq, exists_eq_left', exists_eq_left, List.cons_append, List.nil_append, List.length_nil, List.length_cons, Nat.reduceAdd, Nat.reduceMul, Nat.reduceSub, Nat.reduceLeDiff, true_and, and_true, ↓reduceIte, not_false_eq_true, not_true_eq_false, nI_add, pk_mul, jn_ltT, jn_ltF, jn_leT, jn_leF, jn_eqT, jn_eqF, jn_lt0, jn_ge0, jn_eq0T, jn_eq0F, jn_in, jn_cl, jf_149_8 hR, ja_155 hR, b1, c1, jc_of_149 hR]
            exact md_finding hR (fun h' hR' hD' => by simp only [s152_66, Option.some.injEq, exists_eq_left', exists_eq_left, List.cons_append, List.nil_append, List.length_nil, List.length_cons, Nat.reduceAdd, Nat.reduceMul, Nat.reduceSub, Nat.reduceLeDiff, true_and, and_true, ↓reduceIte, not_false_eq_true, not_true_eq_false, nI_add, pk_mul, jn_ltT, jn_ltF, jn_leT, jn_leF, jn_eqT, jn_eqF, jn_lt0, jn_ge0, jn_eq0T, jn_eq0F, jn_in, jn_cl]; exact k h' hR' hD')
    · rw [if_neg ht]
      rw [if_neg (fun q => ht q.2)] at e
      simp (disch := omega) only [s152_11, Option.some.injEq, exists_eq_left', exists_eq_left, List.cons_append, List.nil_append, List.length_nil, List.length_cons, Nat.reduceAdd, Nat.reduceMul, Nat.reduceSub, Nat.reduceLeDiff, true_and, and_true, ↓reduceIte, not_false_eq_true, not_true_eq_false, nI_add, pk_mul, jn_ltT, jn_ltF, jn_leT, jn_leF, jn_eqT, jn_eqF, jn_lt0, jn_ge0, jn_eq0T, jn_eq0F, jn_in, jn_cl]
      exact k14 (Option.some.inj e).symm
  · rw [if_neg hs]
    rw [if_neg (fun q => hs q.1)] at e
    simp (disch := omega) only [s152_4, Option.some.injEq, exists_eq_left', exists_eq_left, List.cons_append, List.nil_append, List.length_nil, List.length_cons, Nat.reduceAdd, Nat.reduceMul, Nat.reduceSub, Nat.reduceLeDiff, true_and, and_true, ↓reduceIte, not_false_eq_true, not_true_eq_false, nI_add, pk_mul, jn_ltT, jn_ltF, jn_leT, jn_leF, jn_eqT, jn_eqF, jn_lt0, jn_ge0, jn_eq0T, jn_eq0F, jn_in, jn_cl]
    exact k14 (Option.some.inj e).symm
theorem md_copy_t (hR : jR F A G g h) {s x t y n b z z' : Nat} (hs : s < 4) (ht : t < 4) (e1 : A 155 s = nI b) (e2 : A 155 t = nI b) (e3 : A 156 s = nI z) (e4 : A 156 t = nI z') (hb : 0 < b) (hb2 : b ≤ 32) (hz : z ≤ 30) (hz' : z' ≤ 30) (hx : x + n ≤ z) (hy : y + n ≤ z') (k : ∀ h' nu ca, (∀ j, nu j = if 30 * t + y ≤ j ∧ j < 30 * t + y + n then A 157 (30 * s + x + (j - (30 * t + y))) else A 157 j) → jR F (jua (jua A 157 nu) 159 ca) G g h' → jD h h' → Q [.int (nI n)] h') : jx_Go jxP (d + 1) 152 0 [.ref 149, .int (nI s), .int (nI x), .int (nI t), .int (nI y), .int (nI n), jx_u] [] h Q := by
  have p1 : jhp z (nI x) (nI n) = true := jhp_n hx hz
  have p2 : jhp z' (nI y) (nI n) = true := jhp_n hy hz'
  simp (disch := omega) only [s152_0, s152_1, s152_4, s152_7, s152_8, Option.some.injEq, exists_eq_left', exists_eq_left, List.cons_append, List.nil_append, List.length_nil, List.length_cons, Nat.reduceAdd, Nat.reduceMul, Nat.reduceSub, Nat.reduceLeDiff, true_and, and_true, ↓reduceIte, not_false_eq_true, not_true_eq_false, nI_add, pk_mul, jn_ltT, jn_ltF, jn_leT, jn_leF, jn_eqT, jn_eqF, jn_lt0, jn_ge0, jn_eq0T, jn_eq0F, jn_in, jn_cl, md_isSheet, jbel_n]
  simp (disch := omega) only [s152_11, s152_14, s152_15, s152_16, s152_19, s152_20, s152_21, s152_24, s152_25, s152_26, s152_29, s152_30, s152_33, s152_34, s152_35, s152_38, s152_39, s152_41, s152_44, s152_45, s152_46, s152_49, s152_50, s152_51, s152_52, s152_55, s152_56, s152_57, s152_60, s152_61, s152_63, s152_66, s152_67, s152_68, s152_69, s152_70, s152_72, Option.some.injEq, exists_eq_left', exists_eq_left, List.cons_append, List.nil_append, List.length_nil, List.length_cons, Nat.reduceAdd, Nat.reduceMul, Nat.reduceSub, Nat.reduceLeDiff, true_and, and_true, ↓reduceIte, not_false_eq_true, not_true_eq_false, nI_add, pk_mul, jn_ltT, jn_ltF, jn_leT, jn_leF, jn_eqT, jn_eqF, jn_lt0, jn_ge0, jn_eq0T, jn_eq0F, jn_in, jn_cl, jf_149_8 hR, ja_155 hR, e1, e2, jc_of_149 hR, md_hasPart hR hs e3 hz, p1]
  simp (disch := omega) only [s152_75, s152_78, s152_79, s152_80, s152_82, s152_84, s152_87, s152_90, s152_91, s152_92, s152_95, s152_96, s152_97, Option.some.injEq, exists_eq_left', exists_eq_left, List.cons_append, List.nil_append, List.length_nil, List.length_cons, Nat.reduceAdd, Nat.reduceMul, Nat.reduceSub, Nat.reduceLeDiff, true_and, and_true, ↓reduceIte, not_false_eq_true, not_true_eq_false, nI_add, pk_mul, jn_ltT, jn_ltF, jn_leT, jn_leF, jn_eqT, jn_eqF, jn_lt0, jn_ge0, jn_eq0T, jn_eq0F, jn_in, jn_cl, jc_of_149 hR, md_hasPart hR ht e4 hz', p2]
  refine jloop (fun i => ∀ ca, (∀ j, j < i → ca j = A 157 (30 * s + x + j)) → jx_Go jxP (d + 1) 152 99 [.ref 149, .int (nI s), .int (nI x), .int (nI t), .int (nI y), .int (nI n), .int (nI i)] [] (jx_wi h 159 30 ca) Q) n ?_ ?_ 0 (Nat.zero_le _) (A 159) (by omega) |> fun z => by rw [jh_wi_id (ja_159 hR)] at z; exact z
  · intro ca hca
    rw [s152_99]
    simp (disch := omega) only [s152_101, s152_103, s152_106, s152_107, s152_110, s152_112, s152_113, s152_116, s152_118, s152_119, s152_120, s152_121, s152_122, s152_124, s152_125, s152_126, s152_127, s152_130, s152_133, s152_134, Option.some.injEq, exists_eq_left', exists_eq_left, List.cons_append, List.nil_append, List.length_nil, List.length_cons, Nat.reduceAdd, Nat.reduceMul, Nat.reduceSub, Nat.reduceLeDiff, true_and, and_true, ↓reduceIte, not_false_eq_true, not_true_eq_false, nI_add, pk_mul, jn_ltT, jn_ltF, jn_leT, jn_leF, jn_eqT, jn_eqF, jn_lt0, jn_ge0, jn_eq0T, jn_eq0F, jn_in, jn_cl]
    refine jloop (fun i => ∀ nu, (∀ j, nu j = if 30 * t + y ≤ j ∧ j < 30 * t + y + i then A 157 (30 * s + x + (j - (30 * t + y))) else A 157 j) → jx_Go jxP (d + 1) 152 136 [.ref 149, .int (nI s), .int (nI x), .int (nI t), .int (nI y), .int (nI n), .int (nI i)] [] (jx_wi (jx_wi h 157 120 nu) 159 30 ca) Q) n ?_ ?_ 0 (Nat.zero_le _) (A 157) (by intro j; rw [if_neg (by omega)]) |> fun z => by rw [jh_wi_id (ja_157 hR)] at z; exact z
    · intro nu hnu
      rw [s152_136]
      simp (disch := omega) only [s152_138, s152_140, s152_143, s152_144, s152_147, s152_149, s152_150, s152_151, s152_153, s152_154, s152_156, s152_157, s152_158, s152_161, s152_163, s152_164, s152_165, s152_168, s152_171, s152_173, Option.some.injEq, exists_eq_left', exists_eq_left, List.cons_append, List.nil_append, List.length_nil, List.length_cons, Nat.reduceAdd, Nat.reduceMul, Nat.reduceSub, Nat.reduceLeDiff, true_and, and_true, ↓reduceIte, not_false_eq_true, not_true_eq_false, nI_add, pk_mul, jn_ltT, jn_ltF, jn_leT, jn_leF, jn_eqT, jn_eqF, jn_lt0, jn_ge0, jn_eq0T, jn_eq0F, jn_in, jn_cl]
      exact k _ nu ca hnu ((hR.wi rfl).wi rfl) ((jD.rf.wi (by decide)).wi (by decide))
    · intro i hi ih nu hnu
      rw [s152_136]
      simp (disch := omega) only [s152_138, s152_140, s152_143, s152_144, s152_147, s152_149, s152_150, s152_151, s152_153, s152_154, s152_156, s152_157, s152_158, s152_161, s152_163, s152_164, s152_165, s152_168, Option.some.injEq, exists_eq_left', exists_eq_left, List.cons_append, List.nil_append, List.length_nil, List.length_cons, Nat.reduceAdd, Nat.reduceMul, Nat.reduceSub, Nat.reduceLeDiff, true_and, and_true, ↓reduceIte, not_false_eq_true, not_true_eq_false, nI_add, pk_mul, jn_ltT, jn_ltF, jn_leT, jn_leF, jn_eqT, jn_eqF, jn_lt0, jn_ge0, jn_eq0T, jn_eq0F, jn_in, jn_cl, jh_ai_wi, jh_ai_wi_ne, jh_ai_uf, jh_fl_wi_ne, jh_fl_uf_ne, jh_fl_uf_o, jh_cl_wi_ne, jh_cl_uf, jh_al_wi_ne, jh_al_uf, jh_al_wl, jh_al_wl_ne, jh_ai_wl_ne, jh_fl_wl_ne, jh_cl_wl_ne, jh_ar_wi_ne, jh_ar_uf, jh_ar_wl_ne, jh_1_wi, jh_1_uf, jh_1_wl, jf_149_10 hR, jf_149_15 hR]
      rw [jh_wi_c (a := 157) (b := 159) (by decide), jh_wi_wi]
      refine ih _ (fun j => ?_)
      by_cases e : j = 30 * t + y + i
      · subst e
        simp only [upd, if_true]
        rw [if_pos (show 30 * t + y ≤ 30 * t + y + i ∧ 30 * t + y + i < 30 * t + y + (i + 1) by omega), hca i hi]
        congr 1
        omega
      · simp only [upd, if_neg e]
        rw [hnu j]
        by_cases q : 30 * t + y ≤ j ∧ j < 30 * t + y + i
        · rw [if_pos q, if_pos (show 30 * t + y ≤ j ∧ j < 30 * t + y + (i + 1) by omega)]
        · rw [if_neg q, if_neg (show ¬ (30 * t + y ≤ j ∧ j < 30 * t + y + (i + 1)) by omega)]
  · intro i hi ih ca hca
    rw [s152_99]
    simp (disch := omega) only [s152_101, s152_103, s152_106, s152_107, s152_110, s152_112, s152_113, s152_116, s152_118, s152_119, s152_120, s152_121, s152_122, s152_124, s152_125, s152_126, s152_127, s152_130, Option.some.injEq, exists_eq_left', exists_eq_left, List.cons_append, List.nil_append, List.length_nil, List.length_cons, Nat.reduceAdd, Nat.reduceMul, Nat.reduceSub, Nat.reduceLeDiff, true_and, and_true, ↓reduceIte, not_false_eq_true, not_true_eq_false, nI_add, pk_mul, jn_ltT, jn_ltF, jn_leT, jn_leF, jn_eqT, jn_eqF, jn_lt0, jn_ge0, jn_eq0T, jn_eq0F, jn_in, jn_cl, jh_ai_wi, jh_ai_wi_ne, jh_ai_uf, jh_fl_wi_ne, jh_fl_uf_ne, jh_fl_uf_o, jh_cl_wi_ne, jh_cl_uf, jh_al_wi_ne, jh_al_uf, jh_al_wl, jh_al_wl_ne, jh_ai_wl_ne, jh_fl_wl_ne, jh_cl_wl_ne, jh_ar_wi_ne, jh_ar_uf, jh_ar_wl_ne, jh_1_wi, jh_1_uf, jh_1_wl, jf_149_10 hR, jf_149_15 hR, ja_157 hR, jh_wi_wi]
    refine ih _ (fun j hj => ?_)
    by_cases e : j = i
    · subst e
      simp only [upd, if_true]
    · simp only [upd, if_neg e]
      exact hca j (by omega)
/-- what lay() finds: of sheets f of bits B, of Z numbers; n places -/
def jlyA (B Z : Nat → Nat) (f : Nat → Nat → Int32) (n : Nat) (s : Int32) : Option Int32 := if jbel s 4 = true then (if B s.toNatClampNeg = 0 then some (-2) else if n < Z s.toNatClampNeg then some (-3) else if jall (Z s.toNatClampNeg) (fun i => jbel (f s.toNatClampNeg i) 3) = true then none else some (-1)) else some (-1)
theorem md_lay_f (hR : jR F A G g h) (hr : F 149 0 ≤ 5) (hc : F 149 1 ≤ 5) {B Z : Nat → Nat} (hB : ∀ s, s < 4 → A 155 s = nI (B s) ∧ A 156 s = nI (Z s) ∧ B s ≤ 32 ∧ Z s ≤ 30) {s w : Int32} (e : jlyA B Z (fun s i => A 157 (30 * s + i)) (F 149 0 * F 149 1) s = some w) (k : ∀ h', jR (jup F 149 13 (F 149 13 + 1)) A G g h' → jD h h' → Q [.int w] h') : jx_Go jxP (d + 1) 153 0 [.ref 149, .int s, jx_u] [] h Q := by
  unfold jlyA at e
  simp only [s153_0, s153_1, Option.some.injEq, exists_eq_left', exists_eq_left, List.cons_append, List.nil_append, List.length_nil, List.length_cons, Nat.reduceAdd, Nat.reduceMul, Nat.reduceSub, Nat.reduceLeDiff, true_and, and_true, ↓reduceIte, not_false_eq_true, not_true_eq_false, nI_add, pk_mul, jn_ltT, jn_ltF, jn_leT, jn_leF, jn_eqT, jn_eqF, jn_lt0, jn_ge0, jn_eq0T, jn_eq0F, jn_in, jn_cl, md_isSheet]
  have hm : F 149 0 * F 149 1 ≤ 25 := by
    have := Nat.mul_le_mul hr hc
    omega
  by_cases hs : jbel s 4 = true
  · rw [if_pos hs] at e ⊢
    obtain ⟨s', hs', rfl⟩ := (jbel_iff (by omega)).mp hs
    obtain ⟨b1, b2, b3, b4⟩ := hB s' hs'
    rw [nI_clamp (by omega)] at e
    by_cases q : B s' = 0
    · rw [if_pos q] at e
      cases e
      simp (disch := omega) only [s153_4, s153_7, s153_8, s153_9, s153_12, s153_13, s153_14, s153_17, s153_18, s153_19, s153_22, s153_23, s153_25, Option.some.injEq, exists_eq_left', exists_eq_left, List.cons_append, List.nil_append, List.length_nil, List.length_cons, Nat.reduceAdd, Nat.reduceMul, Nat.reduceSub, Nat.reduceLeDiff, true_and, and_true, ↓reduceIte, not_false_eq_true, not_true_eq_false, nI_add, pk_mul, jn_ltT, jn_ltF, jn_leT, jn_leF, jn_eqT, jn_eqF, jn_lt0, jn_ge0, jn_eq0T, jn_eq0F, jn_in, jn_cl, jf_149_8 hR, ja_155 hR, jc_of_149 hR, b1]
      exact md_finding hR (fun h' hR' hD' => by simp only [s153_28, Option.some.injEq, exists_eq_left', exists_eq_left, List.cons_append, List.nil_append, List.length_nil, List.length_cons, Nat.reduceAdd, Nat.reduceMul, Nat.reduceSub, Nat.reduceLeDiff, true_and, and_true, ↓reduceIte, not_false_eq_true, not_true_eq_false, nI_add, pk_mul, jn_ltT, jn_ltF, jn_leT, jn_leF, jn_eqT, jn_eqF, jn_lt0, jn_ge0, jn_eq0T, jn_eq0F, jn_in, jn_cl]; exact k h' hR' hD')
    · rw [if_neg q] at e
      by_cases q2 : F 149 0 * F 149 1 < Z s'
      · rw [if_pos q2] at e
        cases e
        simp (disch := omega) only [s153_4, s153_7, s153_8, s153_9, s153_12, s153_13, s153_14, s153_17, s153_18, s153_19, s153_22, s153_23, s153_25, s153_28, s153_29, s153_30, s153_33, s153_34, s153_35, s153_36, s153_39, s153_40, s153_43, s153_44, s153_47, s153_48, s153_50, Option.some.injEq, exists_eq_left', exists_eq_left, List.cons_append, List.nil_append, List.length_nil, List.length_cons, Nat.reduceAdd, Nat.reduceMul, Nat.reduceSub, Nat.reduceLeDiff, true_and, and_true, ↓reduceIte, not_false_eq_true, not_true_eq_false, nI_add, pk_mul, jn_ltT, jn_ltF, jn_leT, jn_leF, jn_eqT, jn_eqF, jn_lt0, jn_ge0, jn_eq0T, jn_eq0F, jn_in, jn_cl, jf_149_0 hR, jf_149_1 hR, jf_149_8 hR, jf_149_9 hR, ja_155 hR, ja_156 hR, jc_of_149 hR, b1, b2]
        exact md_finding hR (fun h' hR' hD' => by simp only [s153_53, Option.some.injEq, exists_eq_left', exists_eq_left, List.cons_append, List.nil_append, List.length_nil, List.length_cons, Nat.reduceAdd, Nat.reduceMul, Nat.reduceSub, Nat.reduceLeDiff, true_and, and_true, ↓reduceIte, not_false_eq_true, not_true_eq_false, nI_add, pk_mul, jn_ltT, jn_ltF, jn_leT, jn_leF, jn_eqT, jn_eqF, jn_lt0, jn_ge0, jn_eq0T, jn_eq0F, jn_in, jn_cl]; exact k h' hR' hD')
      · rw [if_neg q2] at e
        have hbad : ¬ jall (Z s') (fun i => jbel (A 157 (30 * s' + i)) 3) = true := fun q => by rw [if_pos q] at e; cases e
        rw [if_neg hbad] at e
        cases e
        simp (disch := omega) only [s153_4, s153_7, s153_8, s153_9, s153_12, s153_13, s153_14, s153_17, s153_18, s153_19, s153_22, s153_23, s153_25, s153_28, s153_29, s153_30, s153_33, s153_34, s153_35, s153_36, s153_39, s153_40, s153_43, s153_44, s153_47, s153_48, s153_50, s153_53, s153_54, s153_55, Option.some.injEq, exists_eq_left', exists_eq_left, List.cons_append, List.nil_append, List.length_nil, List.length_cons, Nat.reduceAdd, Nat.reduceMul, Nat.reduceSub, Nat.reduceLeDiff, true_and, and_true, ↓reduceIte, not_false_eq_true, not_true_eq_false, nI_add, pk_mul, jn_ltT, jn_ltF, jn_leT, jn_leF, jn_eqT, jn_eqF, jn_lt0, jn_ge0, jn_eq0T, jn_eq0F, jn_in, jn_cl, jf_149_0 hR, jf_149_1 hR, jf_149_8 hR, jf_149_9 hR, ja_155 hR, ja_156 hR, jc_of_149 hR, b1, b2]
        refine jloop (fun i => (∀ j, j < i → jbel (A 157 (30 * s' + j)) 3 = true) → jx_Go jxP (d + 1) 153 56 [.ref 149, .int (nI s'), .int (nI i)] [] h Q) (Z s') ?_ ?_ 0 (Nat.zero_le _) (by omega)
        · intro q
          exact absurd (jall_iff.mpr q) hbad
        · intro i hi ih q
          have k95 : jx_Go jxP (d + 1) 153 95 [.ref 149, .int (nI s'), .int (nI i)] [] h Q := by
            simp (disch := omega) only [s153_95, s153_96, s153_97, Option.some.injEq, exists_eq_left', exists_eq_left, List.cons_append, List.nil_append, List.length_nil, List.length_cons, Nat.reduceAdd, Nat.reduceMul, Nat.reduceSub, Nat.reduceLeDiff, true_and, and_true, ↓reduceIte, not_false_eq_true, not_true_eq_false, nI_add, pk_mul, jn_ltT, jn_ltF, jn_leT, jn_leF, jn_eqT, jn_eqF, jn_lt0, jn_ge0, jn_eq0T, jn_eq0F, jn_in, jn_cl, jc_of_149 hR]
            exact md_finding hR (fun h' hR' hD' => by simp only [s153_100, Option.some.injEq, exists_eq_left', exists_eq_left, List.cons_append, List.nil_append, List.length_nil, List.length_cons, Nat.reduceAdd, Nat.reduceMul, Nat.reduceSub, Nat.reduceLeDiff, true_and, and_true, ↓reduceIte, not_false_eq_true, not_true_eq_false, nI_add, pk_mul, jn_ltT, jn_ltF, jn_leT, jn_leF, jn_eqT, jn_eqF, jn_lt0, jn_ge0, jn_eq0T, jn_eq0F, jn_in, jn_cl]; exact k h' hR' hD')
          rw [s153_56]
          simp (disch := omega) only [s153_57, s153_58, s153_61, s153_62, s153_63, s153_66, s153_67, s153_70, s153_72, s153_73, s153_74, s153_75, s153_76, s153_77, Option.some.injEq, exists_eq_left', exists_eq_left, List.cons_append, List.nil_append, List.length_nil, List.length_cons, Nat.reduceAdd, Nat.reduceMul, Nat.reduceSub, Nat.reduceLeDiff, true_and, and_true, ↓reduceIte, not_false_eq_true, not_true_eq_false, nI_add, pk_mul, jn_ltT, jn_ltF, jn_leT, jn_leF, jn_eqT, jn_eqF, jn_lt0, jn_ge0, jn_eq0T, jn_eq0F, jn_in, jn_cl, jf_149_9 hR, jf_149_10 hR, ja_156 hR, ja_157 hR, b2]
          by_cases w : A 157 (30 * s' + i) < 0
          · rw [if_pos w]; exact k95
          · rw [if_neg w]
            simp (disch := omega) only [s153_80, s153_81, s153_84, s153_86, s153_87, s153_88, s153_89, s153_90, s153_91, s153_92, Option.some.injEq, exists_eq_left', exists_eq_left, List.cons_append, List.nil_append, List.length_nil, List.length_cons, Nat.reduceAdd, Nat.reduceMul, Nat.reduceSub, Nat.reduceLeDiff, true_and, and_true, ↓reduceIte, not_false_eq_true, not_true_eq_false, nI_add, pk_mul, jn_ltT, jn_ltF, jn_leT, jn_leF, jn_eqT, jn_eqF, jn_lt0, jn_ge0, jn_eq0T, jn_eq0F, jn_in, jn_cl, jf_149_9 hR, jf_149_10 hR, ja_156 hR, ja_157 hR, b2]
            by_cases w2 : A 157 (30 * s' + i) ≤ nI 2
            · rw [if_pos w2]
              simp (disch := omega) only [s153_101, s153_104, Option.some.injEq, exists_eq_left', exists_eq_left, List.cons_append, List.nil_append, List.length_nil, List.length_cons, Nat.reduceAdd, Nat.reduceMul, Nat.reduceSub, Nat.reduceLeDiff, true_and, and_true, ↓reduceIte, not_false_eq_true, not_true_eq_false, nI_add, pk_mul, jn_ltT, jn_ltF, jn_leT, jn_leF, jn_eqT, jn_eqF, jn_lt0, jn_ge0, jn_eq0T, jn_eq0F, jn_in, jn_cl]
              refine ih (fun j hj => ?_)
              by_cases e : j = i
              · subst e
                rw [jle_bel (by omega)] at w2
                simp [jbel, w, w2]
              · exact q j (by omega)
            · rw [if_neg w2]; exact k95
  · rw [if_neg hs] at e ⊢
    cases e
    simp (disch := omega) only [s153_4, s153_7, s153_8, s153_9, Option.some.injEq, exists_eq_left', exists_eq_left, List.cons_append, List.nil_append, List.length_nil, List.length_cons, Nat.reduceAdd, Nat.reduceMul, Nat.reduceSub, Nat.reduceLeDiff, true_and, and_true, ↓reduceIte, not_false_eq_true, not_true_eq_false, nI_add, pk_mul, jn_ltT, jn_ltF, jn_leT, jn_leF, jn_eqT, jn_eqF, jn_lt0, jn_ge0, jn_eq0T, jn_eq0F, jn_in, jn_cl, jc_of_149 hR]
    exact md_finding hR (fun h' hR' hD' => by simp only [s153_12, Option.some.injEq, exists_eq_left', exists_eq_left, List.cons_append, List.nil_append, List.length_nil, List.length_cons, Nat.reduceAdd, Nat.reduceMul, Nat.reduceSub, Nat.reduceLeDiff, true_and, and_true, ↓reduceIte, not_false_eq_true, not_true_eq_false, nI_add, pk_mul, jn_ltT, jn_ltF, jn_leT, jn_leF, jn_eqT, jn_eqF, jn_lt0, jn_ge0, jn_eq0T, jn_eq0F, jn_in, jn_cl]; exact k h' hR' hD')
theorem md_lay_t (hR : jR F A G g h) (hr : F 149 0 ≤ 5) (hc : F 149 1 ≤ 5) (hc1 : 1 ≤ F 149 1) (hk : F 149 4 ≤ 30) {s b z : Nat} (hs : s < 4) (e1 : A 155 s = nI b) (e2 : A 156 s = nI z) (hb : 0 < b) (hb2 : b ≤ 32) (hz : z ≤ F 149 0 * F 149 1) (hv : ∀ i, i < z → ∃ v, v ≤ 2 ∧ A 157 (30 * s + i) = nI v) (k : ∀ h' pl, (∀ i j, i < F 149 0 → j < F 149 1 → pl (5 * i + j) = if i * F 149 1 + j < z then A 157 (30 * s + (i * F 149 1 + j)) else nI 2) → jR (jup (jup F 149 4 (if F 149 4 = 30 then 30 else F 149 4 + 1)) 149 14 0) (jua (jua A 152 (jkt (A 152) (F 149 4) (F 149 0) (F 149 1) (A 150) (A 151))) 150 pl) G g h' → jD h h' → Q [.int (nI z)] h') : jx_Go jxP (d + 2) 153 0 [.ref 149, .int (nI s), jx_u] [] h Q := by
  have hm : F 149 0 * F 149 1 ≤ 25 := by
    have := Nat.mul_le_mul hr hc
    omega
  simp (disch := omega) only [s153_0, s153_1, Option.some.injEq, exists_eq_left', exists_eq_left, List.cons_append, List.nil_append, List.length_nil, List.length_cons, Nat.reduceAdd, Nat.reduceMul, Nat.reduceSub, Nat.reduceLeDiff, true_and, and_true, ↓reduceIte, not_false_eq_true, not_true_eq_false, nI_add, pk_mul, jn_ltT, jn_ltF, jn_leT, jn_leF, jn_eqT, jn_eqF, jn_lt0, jn_ge0, jn_eq0T, jn_eq0F, jn_in, jn_cl, md_isSheet, jbel_n]
  simp (disch := omega) only [s153_4, s153_7, s153_8, s153_9, s153_12, s153_13, s153_14, s153_17, s153_18, s153_19, s153_22, s153_23, s153_25, s153_28, s153_29, s153_30, s153_33, s153_34, s153_35, s153_36, s153_39, s153_40, s153_43, s153_44, s153_47, s153_48, s153_50, s153_53, s153_54, s153_55, Option.some.injEq, exists_eq_left', exists_eq_left, List.cons_append, List.nil_append, List.length_nil, List.length_cons, Nat.reduceAdd, Nat.reduceMul, Nat.reduceSub, Nat.reduceLeDiff, true_and, and_true, ↓reduceIte, not_false_eq_true, not_true_eq_false, nI_add, pk_mul, jn_ltT, jn_ltF, jn_leT, jn_leF, jn_eqT, jn_eqF, jn_lt0, jn_ge0, jn_eq0T, jn_eq0F, jn_in, jn_cl, jf_149_0 hR, jf_149_1 hR, jf_149_8 hR, jf_149_9 hR, ja_155 hR, ja_156 hR, jc_of_149 hR, e1, e2]
  refine jloop (fun i => jx_Go jxP (d + 2) 153 56 [.ref 149, .int (nI s), .int (nI i)] [] h Q) z ?_ ?_ 0 (Nat.zero_le _)
  · rw [s153_56]
    simp (disch := omega) only [s153_57, s153_58, s153_61, s153_62, s153_63, s153_66, s153_67, s153_70, s153_72, s153_73, s153_74, s153_75, s153_76, s153_77, s153_80, s153_81, s153_84, s153_86, s153_87, s153_88, s153_89, s153_90, s153_91, s153_92, s153_95, s153_96, s153_97, s153_100, s153_101, s153_104, s153_107, s153_108, Option.some.injEq, exists_eq_left', exists_eq_left, List.cons_append, List.nil_append, List.length_nil, List.length_cons, Nat.reduceAdd, Nat.reduceMul, Nat.reduceSub, Nat.reduceLeDiff, true_and, and_true, ↓reduceIte, not_false_eq_true, not_true_eq_false, nI_add, pk_mul, jn_ltT, jn_ltF, jn_leT, jn_leF, jn_eqT, jn_eqF, jn_lt0, jn_ge0, jn_eq0T, jn_eq0F, jn_in, jn_cl, jf_149_9 hR, ja_156 hR, e2, jc_of_149 hR]
    refine md_keepTask hR hr hc hk (fun h1 hR1 hD1 => ?_)
    have x155 : jua A 152 (jkt (A 152) (F 149 4) (F 149 0) (F 149 1) (A 150) (A 151)) 156 = A 156 := by simp [jua]
    have x157 : jua A 152 (jkt (A 152) (F 149 4) (F 149 0) (F 149 1) (A 150) (A 151)) 157 = A 157 := by simp [jua]
    generalize hA1 : jua A 152 (jkt (A 152) (F 149 4) (F 149 0) (F 149 1) (A 150) (A 151)) = A1 at hR1 k x155 x157
    generalize hF1 : jup F 149 4 (if F 149 4 = 30 then 30 else F 149 4 + 1) = F1 at hR1 k
    have e0 : F1 149 0 = F 149 0 := by rw [← hF1]; simp [jup]
    have e9 : F1 149 1 = F 149 1 := by rw [← hF1]; simp [jup]
    generalize F 149 0 = R at hr k e0 hm hz
    generalize F 149 1 = C at hc k e9 hm hz hc1
    simp (disch := omega) only [s153_111, s153_112, Option.some.injEq, exists_eq_left', exists_eq_left, List.cons_append, List.nil_append, List.length_nil, List.length_cons, Nat.reduceAdd, Nat.reduceMul, Nat.reduceSub, Nat.reduceLeDiff, true_and, and_true, ↓reduceIte, not_false_eq_true, not_true_eq_false, nI_add, pk_mul, jn_ltT, jn_ltF, jn_leT, jn_leF, jn_eqT, jn_eqF, jn_lt0, jn_ge0, jn_eq0T, jn_eq0F, jn_in, jn_cl]
    refine jloop (fun n => ∀ pl, (∀ i j, i < R → j < C → i * C + j < n → pl (5 * i + j) = if i * C + j < z then A 157 (30 * s + (i * C + j)) else nI 2) → jx_Go jxP (d + 2) 153 113 [.ref 149, .int (nI s), .int (nI n)] [] (jx_wi h1 150 25 pl) Q) (R * C) ?_ ?_ 0 (Nat.zero_le _) (A1 150) (by omega) |> fun z => by rw [jh_wi_id (ja_150 hR1)] at z; exact z
    · intro pl hp
      rw [s153_113]
      simp (disch := omega) only [s153_114, s153_115, s153_118, s153_119, s153_122, s153_123, s153_126, s153_127, s153_130, s153_131, s153_132, s153_133, s153_136, s153_137, s153_138, s153_139, s153_140, s153_143, s153_144, s153_145, s153_146, s153_147, s153_150, s153_151, s153_152, s153_155, s153_156, s153_159, s153_161, s153_162, s153_163, s153_164, s153_165, s153_166, s153_169, s153_170, s153_171, s153_174, s153_177, s153_178, s153_179, s153_182, s153_183, s153_186, s153_187, s153_188, Option.some.injEq, exists_eq_left', exists_eq_left, List.cons_append, List.nil_append, List.length_nil, List.length_cons, Nat.reduceAdd, Nat.reduceMul, Nat.reduceSub, Nat.reduceLeDiff, true_and, and_true, ↓reduceIte, not_false_eq_true, not_true_eq_false, nI_add, pk_mul, jn_ltT, jn_ltF, jn_leT, jn_leF, jn_eqT, jn_eqF, jn_lt0, jn_ge0, jn_eq0T, jn_eq0F, jn_in, jn_cl, jh_ai_wi, jh_ai_wi_ne, jh_ai_uf, jh_fl_wi_ne, jh_fl_uf_ne, jh_fl_uf_o, jh_cl_wi_ne, jh_cl_uf, jh_al_wi_ne, jh_al_uf, jh_al_wl, jh_al_wl_ne, jh_ai_wl_ne, jh_fl_wl_ne, jh_cl_wl_ne, jh_ar_wi_ne, jh_ar_uf, jh_ar_wl_ne, jh_1_wi, jh_1_uf, jh_1_wl, jf_149_0 hR1, jf_149_1 hR1, jf_149_9 hR1, jf_149_14 hR1, ja_156 hR1, e0, e9, x155, e2]
      refine k _ pl (fun i j hi hj => hp i j hi hj ?_) ((hR1.wi rfl).uf rfl rfl) ((hD1.wi (by decide)).uf (by decide))
      have : (i + 1) * C ≤ R * C := Nat.mul_le_mul_right _ hi
      rw [Nat.succ_mul] at this
      omega
    · intro n hn ih pl hp
      have hdm := Nat.div_add_mod n C
      have hlt := Nat.mod_lt n (show 0 < C by omega)
      have hdl : n / C < R := (Nat.div_lt_iff_lt_mul (by omega)).mpr hn
      have fin : ∀ v, v = (if n < z then A 157 (30 * s + n) else nI 2) → jx_Go jxP (d + 2) 153 113 [.ref 149, .int (nI s), .int (nI (n + 1))] [] (jx_wi h1 150 25 (upd pl (5 * (n / C) + n % C) v)) Q := by
        intro v hv
        refine ih _ (fun i j hi hj hij => ?_)
        by_cases e : 5 * i + j = 5 * (n / C) + n % C
        · have ei : i = n / C := by omega
          have ej : j = n % C := by omega
          have : i * C + j = n := by rw [ei, ej, Nat.mul_comm]; exact hdm
          rw [e, this]
          simp only [upd, if_true, hv]
        · simp only [upd, if_neg e]
          refine hp i j hi hj ?_
          have : i * C + j ≠ n := by
            intro q
            apply e
            have e1 : n / C = i := by
              rw [← q, Nat.mul_comm, Nat.mul_add_div (by omega), Nat.div_eq_of_lt hj]
              omega
            have e2 : n % C = j := by
              rw [← q, Nat.mul_comm, Nat.mul_add_mod, Nat.mod_eq_of_lt hj]
            omega
          omega
      rw [s153_113]
      by_cases q : n < z
      · simp (disch := omega) only [s153_114, s153_115, s153_118, s153_119, s153_122, s153_123, s153_126, s153_127, s153_130, s153_131, s153_132, s153_133, s153_136, s153_137, s153_138, s153_139, s153_140, s153_143, s153_144, s153_145, s153_146, s153_147, s153_150, s153_151, s153_152, s153_155, s153_156, s153_159, s153_161, s153_162, s153_163, s153_164, s153_165, s153_166, s153_169, s153_170, s153_171, s153_174, Option.some.injEq, exists_eq_left', exists_eq_left, List.cons_append, List.nil_append, List.length_nil, List.length_cons, Nat.reduceAdd, Nat.reduceMul, Nat.reduceSub, Nat.reduceLeDiff, true_and, and_true, ↓reduceIte, not_false_eq_true, not_true_eq_false, nI_add, pk_mul, jn_ltT, jn_ltF, jn_leT, jn_leF, jn_eqT, jn_eqF, jn_lt0, jn_ge0, jn_eq0T, jn_eq0F, jn_in, jn_cl, jh_ai_wi, jh_ai_wi_ne, jh_ai_uf, jh_fl_wi_ne, jh_fl_uf_ne, jh_fl_uf_o, jh_cl_wi_ne, jh_cl_uf, jh_al_wi_ne, jh_al_uf, jh_al_wl, jh_al_wl_ne, jh_ai_wl_ne, jh_fl_wl_ne, jh_cl_wl_ne, jh_ar_wi_ne, jh_ar_uf, jh_ar_wl_ne, jh_1_wi, jh_1_uf, jh_1_wl, jf_149_0 hR1, jf_149_1 hR1, jf_149_2 hR1, jf_149_9 hR1, jf_149_10 hR1, ja_156 hR1, ja_157 hR1, e0, e9, x155, x157, e2, jn_div, jn_rem2, jh_wi_wi]
        exact fin _ (by rw [if_pos q])
      · simp (disch := omega) only [s153_114, s153_115, s153_118, s153_119, s153_122, s153_123, s153_126, s153_127, s153_130, s153_131, s153_132, s153_133, s153_136, s153_137, s153_138, s153_139, s153_140, s153_143, s153_144, s153_145, s153_146, s153_147, s153_150, s153_151, s153_152, s153_155, s153_156, s153_159, s153_161, s153_162, s153_163, s153_164, s153_165, s153_166, s153_169, s153_170, s153_171, s153_174, Option.some.injEq, exists_eq_left', exists_eq_left, List.cons_append, List.nil_append, List.length_nil, List.length_cons, Nat.reduceAdd, Nat.reduceMul, Nat.reduceSub, Nat.reduceLeDiff, true_and, and_true, ↓reduceIte, not_false_eq_true, not_true_eq_false, nI_add, pk_mul, jn_ltT, jn_ltF, jn_leT, jn_leF, jn_eqT, jn_eqF, jn_lt0, jn_ge0, jn_eq0T, jn_eq0F, jn_in, jn_cl, jh_ai_wi, jh_ai_wi_ne, jh_ai_uf, jh_fl_wi_ne, jh_fl_uf_ne, jh_fl_uf_o, jh_cl_wi_ne, jh_cl_uf, jh_al_wi_ne, jh_al_uf, jh_al_wl, jh_al_wl_ne, jh_ai_wl_ne, jh_fl_wl_ne, jh_cl_wl_ne, jh_ar_wi_ne, jh_ar_uf, jh_ar_wl_ne, jh_1_wi, jh_1_uf, jh_1_wl, jf_149_0 hR1, jf_149_1 hR1, jf_149_2 hR1, jf_149_9 hR1, jf_149_10 hR1, ja_156 hR1, ja_157 hR1, e0, e9, x155, x157, e2, jn_div, jn_rem2, jh_wi_wi]
        exact fin _ (by rw [if_neg q])
  · intro i hi ih
    obtain ⟨v, hv1, hv2⟩ := hv i hi
    rw [s153_56]
    simp (disch := omega) only [s153_57, s153_58, s153_61, s153_62, s153_63, s153_66, s153_67, s153_70, s153_72, s153_73, s153_74, s153_75, s153_76, s153_77, s153_80, s153_81, s153_84, s153_86, s153_87, s153_88, s153_89, s153_90, s153_91, s153_92, s153_95, s153_96, s153_97, s153_100, s153_101, s153_104, Option.some.injEq, exists_eq_left', exists_eq_left, List.cons_append, List.nil_append, List.length_nil, List.length_cons, Nat.reduceAdd, Nat.reduceMul, Nat.reduceSub, Nat.reduceLeDiff, true_and, and_true, ↓reduceIte, not_false_eq_true, not_true_eq_false, nI_add, pk_mul, jn_ltT, jn_ltF, jn_leT, jn_leF, jn_eqT, jn_eqF, jn_lt0, jn_ge0, jn_eq0T, jn_eq0F, jn_in, jn_cl, jf_149_9 hR, jf_149_10 hR, ja_156 hR, ja_157 hR, e2, hv2]
    exact ih
end MD7
