/-! ===== the class: new tasks ===== -/
section CL27
variable {d : Nat} {F : Nat → Nat → Nat} {A : Nat → Nat → Int32} {G : Nat → Option Nat} {g : Nat → Int64} {h : jxH} {Q : List Value → jxH → Prop}
/-- the task is pushed into the history -/
def jphF (F : Nat → Nat → Nat) : Nat → Nat → Nat := jup (jup (jup (jup F (9 + 3 * F 7 1) 0 (F 2 0)) (9 + 3 * F 7 1) 1 (F 2 1)) 7 1 (if F 7 1 + 1 = 30 then 0 else F 7 1 + 1)) 7 2 (min (F 7 2 + 1) 30)
def jphA (F : Nat → Nat → Nat) (A : Nat → Nat → Int32) : Nat → Nat → Int32 := jua (jua A (10 + 3 * F 7 1) (va_cpy (A 3) (A (10 + 3 * F 7 1)) 0 0 25)) (11 + 3 * F 7 1) (va_cpy (A 4) (A (11 + 3 * F 7 1)) 0 0 25)
theorem jphF_o {o k : Nat} (hn : F 7 1 < 30) (ho : o = 1 ∨ o = 2 ∨ 99 ≤ o) : jphF F o k = F o k := by
  unfold jphF
  rw [jup_ne (Or.inl (by omega)), jup_ne (Or.inl (by omega)), jup_ne (Or.inl (by omega)), jup_ne (Or.inl (by omega))]
theorem jphA_o {a : Nat} (hn : F 7 1 < 30) (ha : a < 9 ∨ 99 ≤ a) : jphA F A a = A a := by
  unfold jphA
  rw [jua_ne (by omega), jua_ne (by omega)]
/-- the history after a push -/
def jHst (F : Nat → Nat → Nat) (A : Nat → Nat → Int32) (F' : Nat → Nat → Nat) (A' : Nat → Nat → Int32) : Prop := F' 7 1 = (if F 7 1 + 1 = 30 then 0 else F 7 1 + 1) ∧ F' 7 2 = min (F 7 2 + 1) 30 ∧ F' (9 + 3 * F 7 1) 0 = F 2 0 ∧ F' (9 + 3 * F 7 1) 1 = F 2 1 ∧ (∀ j, j < 25 → A' (10 + 3 * F 7 1) j = A 3 j ∧ A' (11 + 3 * F 7 1) j = A 4 j) ∧ ∀ i, i < 30 → i ≠ F 7 1 → F' (9 + 3 * i) 0 = F (9 + 3 * i) 0 ∧ F' (9 + 3 * i) 1 = F (9 + 3 * i) 1 ∧ A' (10 + 3 * i) = A (10 + 3 * i) ∧ A' (11 + 3 * i) = A (11 + 3 * i)
theorem jHst_of {F' : Nat → Nat → Nat} {A' : Nat → Nat → Int32} (hn : F 7 1 < 30) (eF : ∀ o k, 7 ≤ o → o < 99 → F' o k = jphF F o k) (eA : ∀ a, 9 ≤ a → a < 99 → A' a = jphA F A a) : jHst F A F' A' := by
  refine ⟨?_, ?_, ?_, ?_, fun j hj => ⟨?_, ?_⟩, fun i hi ne => ⟨?_, ?_, ?_, ?_⟩⟩
  · rw [eF 7 1 (by omega) (by omega)]; unfold jphF; rw [jup_ne (Or.inr (by decide)), jup_same]
  · rw [eF 7 2 (by omega) (by omega)]; unfold jphF; rw [jup_same]
  · rw [eF _ 0 (by omega) (by omega)]; unfold jphF; rw [jup_ne (Or.inl (by omega)), jup_ne (Or.inl (by omega)), jup_ne (Or.inr (by decide)), jup_same]
  · rw [eF _ 1 (by omega) (by omega)]; unfold jphF; rw [jup_ne (Or.inl (by omega)), jup_ne (Or.inl (by omega)), jup_same]
  · rw [eA _ (by omega) (by omega)]
    unfold jphA
    rw [jua_ne (by omega), jua_same]
    unfold va_cpy
    rw [if_pos (by omega)]
    congr 1
    omega
  · rw [eA _ (by omega) (by omega)]
    unfold jphA
    rw [jua_same]
    unfold va_cpy
    rw [if_pos (by omega)]
    congr 1
    omega
  · rw [eF _ 0 (by omega) (by omega)]; unfold jphF; rw [jup_ne (Or.inl (by omega)), jup_ne (Or.inl (by omega)), jup_ne (Or.inl (by omega)), jup_ne (Or.inl (by omega))]
  · rw [eF _ 1 (by omega) (by omega)]; unfold jphF; rw [jup_ne (Or.inl (by omega)), jup_ne (Or.inl (by omega)), jup_ne (Or.inl (by omega)), jup_ne (Or.inl (by omega))]
  · rw [eA _ (by omega) (by omega)]; unfold jphA; rw [jua_ne (by omega), jua_ne (by omega)]
  · rw [eA _ (by omega) (by omega)]; unfold jphA; rw [jua_ne (by omega), jua_ne (by omega)]
/-- what a new task leaves as it is; what it makes void -/
def jRs (F : Nat → Nat → Nat) (A : Nat → Nat → Int32) (F' : Nat → Nat → Nat) (A' : Nat → Nat → Int32) : Prop := (∀ o k, (o = 1 ∨ (102 ≤ o ∧ o ≠ 128 ∧ o ≠ 132 ∧ o ≠ 137)) → F' o k = F o k) ∧ ∀ a, 102 ≤ a → A' a = A a
def jVd (F' : Nat → Nat → Nat) (A' : Nat → Nat → Int32) : Prop := jMk F' A' (A' 3) (F' 2 0) (F' 2 1) ∧ F' 128 5 = 0 ∧ F' 132 7 = 4294967295 ∧ F' 137 8 = 0
theorem tb_fin {F2 : Nat → Nat → Nat} {A2 : Nat → Nat → Int32} {h2 : jxH} (hR2 : jR F2 A2 G g h2) (hD2 : jD h h2) (hr : F2 2 0 ≤ 5) (hc : F2 2 1 ≤ 5) (e7 : ∀ o k, o = 1 ∨ 99 ≤ o → F2 o k = F o k) (eA : ∀ a, 99 ≤ a → A2 a = A a) (k : ∀ h' F' A', jRs F A F' A' → jVd F' A' → (∀ o k, o < 99 → F' o k = F2 o k) → (∀ a, a < 99 → A' a = A2 a) → jR F' A' G g h' → jD h h' → Q [] h') : jx_Go jxP (d + 2) 121 0 [.ref 1] [] h2 Q := by
  refine tb_takeNewPlaces hR2 hr hc (fun h3 f e hM hR3 hD3 => ?_)
  refine k h3 _ _ ⟨fun o k ho => ?_, fun a ha => ?_⟩ ⟨?_, ?_, ?_, ?_⟩ (fun o k ho => ?_) (fun a ha => ?_) hR3 (hD2.tr hD3)
  · rw [jup_ne (Or.inl (by omega)), jup_ne (Or.inl (by omega)), jup_ne (Or.inl (by omega)), jup_ne (Or.inl (by omega)), jup_ne (Or.inl (by omega))]
    exact e7 o k (by omega)
  · rw [jua_ne (by omega), jua_ne (by omega)]; exact eA a (by omega)
  · have e3 : jua (jua A2 100 f) 101 e 3 = A2 3 := by rw [jua_ne (by decide), jua_ne (by decide)]
    rw [e3]; exact hM
  · rw [jup_ne (Or.inl (by decide)), jup_ne (Or.inl (by decide)), jup_same]
  · rw [jup_ne (Or.inl (by decide)), jup_same]
  · rw [jup_same]
  · rw [jup_ne (Or.inl (by omega)), jup_ne (Or.inl (by omega)), jup_ne (Or.inl (by omega)), jup_ne (Or.inl (by omega)), jup_ne (Or.inl (by omega))]
  · rw [jua_ne (by omega), jua_ne (by omega)]
/-- all of it: the places pl, the weights wt, R' rows, C' columns -/
def jNw (F : Nat → Nat → Nat) (A : Nat → Nat → Int32) (F' : Nat → Nat → Nat) (A' : Nat → Nat → Int32) (R' C' : Nat) (pl wt : Nat → Int32) : Prop := jHst F A F' A' ∧ jRs F A F' A' ∧ jVd F' A' ∧ F' 2 0 = R' ∧ F' 2 1 = C' ∧ A' 3 = pl ∧ A' 4 = wt
theorem tb_fin2 {F2 : Nat → Nat → Nat} {A2 : Nat → Nat → Int32} {h2 : jxH} (hR2 : jR F2 A2 G g h2) (hD2 : jD h h2) (hn : F 7 1 < 30) (hr : F2 2 0 ≤ 5) (hc : F2 2 1 ≤ 5) (e7 : ∀ o k, o ≠ 2 → F2 o k = jphF F o k) (eA : ∀ a, a ≠ 3 → a ≠ 4 → A2 a = jphA F A a) (k : ∀ h' F' A', jNw F A F' A' (F2 2 0) (F2 2 1) (A2 3) (A2 4) → jR F' A' G g h' → jD h h' → Q [] h') : jx_Go jxP (d + 2) 121 0 [.ref 1] [] h2 Q := by
  refine tb_fin (F := F) (A := A) hR2 hD2 hr hc (fun o k ho => ?_) (fun a ha => ?_) (fun h3 F3 A3 a1 a2 a3 a4 hR3 hD3 => ?_)
  · rw [e7 o k (by omega), jphF_o hn (by omega)]
  · rw [eA a (by omega) (by omega), jphA_o hn (by omega)]
  · exact k h3 F3 A3 ⟨jHst_of hn (fun o k h1 h2 => by rw [a3 o k h2]; exact e7 o k (by omega)) (fun a h1 h2 => by rw [a4 a h2]; exact eA a (by omega) (by omega)), a1, a2, a3 2 0 (by decide), a3 2 1 (by decide), a4 3 (by decide), a4 4 (by decide)⟩ hR3 hD3
theorem tb_push (hR : jR F A G g h) (hn : F 7 1 < 30) (hk : F 7 2 ≤ 30) (k : ∀ h', jR (jphF F) (jphA F A) G g h' → jD h h' → Q [] h') : jx_Go jxP (d + 1) 12 0 [.ref 7, .ref 2] [] h Q := hi_push hR hn hk k
theorem tb_table_f (hR : jR F A G g h) {x y : Int32} (hb : ¬ (jr15 x = true ∧ jr15 y = true)) (k : ∀ h', jR (jup F 1 11 (F 1 11 + 1)) A G g h' → jD h h' → Q [.int (-1)] h') : jx_Go jxP (d + 1) 86 0 [.ref 1, .int x, .int y, jx_u] [] h Q := by
  have k20 : jx_Go jxP (d + 1) 86 20 [.ref 1, .int x, .int y, jx_u] [] h Q := by
    simp (disch := omega) only [s86_20, s86_21, s86_22, Option.some.injEq, exists_eq_left', exists_eq_left, List.cons_append, List.nil_append, List.length_nil, List.length_cons, Nat.reduceAdd, Nat.reduceMul, Nat.reduceSub, Nat.reduceLeDiff, true_and, and_true, ↓reduceIte, not_false_eq_true, not_true_eq_false, nI_add, pk_mul, jn_ltT, jn_ltF, jn_leT, jn_leF, jn_eqT, jn_eqF, jn_lt0, jn_ge0, jn_eq0T, jn_eq0F, jn_in, jn_cl, jc_of_1 hR]
    exact tb_finding hR (fun h' hR' hD' => by simp only [s86_25, Option.some.injEq, exists_eq_left', exists_eq_left, List.cons_append, List.nil_append, List.length_nil, List.length_cons, Nat.reduceAdd, Nat.reduceMul, Nat.reduceSub, Nat.reduceLeDiff, true_and, and_true, ↓reduceIte, not_false_eq_true, not_true_eq_false, nI_add, pk_mul, jn_ltT, jn_ltF, jn_leT, jn_leF, jn_eqT, jn_eqF, jn_lt0, jn_ge0, jn_eq0T, jn_eq0F, jn_in, jn_cl]; exact k h' hR' hD')
  simp (disch := omega) only [s86_0, s86_1, Option.some.injEq, exists_eq_left', exists_eq_left, List.cons_append, List.nil_append, List.length_nil, List.length_cons, Nat.reduceAdd, Nat.reduceMul, Nat.reduceSub, Nat.reduceLeDiff, true_and, and_true, ↓reduceIte, not_false_eq_true, not_true_eq_false, nI_add, pk_mul, jn_ltT, jn_ltF, jn_leT, jn_leF, jn_eqT, jn_eqF, jn_lt0, jn_ge0, jn_eq0T, jn_eq0F, jn_in, jn_cl]
  rw [s86_2]
  by_cases a : x < nI 1
  · rw [if_pos a]; exact k20
  rw [if_neg a, s86_5, s86_6, s86_7]
  by_cases b : nI 5 < x
  · rw [if_pos b]; exact k20
  rw [if_neg b, s86_10, s86_11, s86_12]
  by_cases a' : y < nI 1
  · rw [if_pos a']; exact k20
  rw [if_neg a', s86_15, s86_16, s86_17]
  by_cases b' : nI 5 < y
  · rw [if_neg (Int32.not_le.mpr b')]; exact k20
  · exfalso
    apply hb
    unfold jr15
    rw [decide_eq_true a, decide_eq_true b, decide_eq_true a', decide_eq_true b']
    exact ⟨rfl, rfl⟩
theorem tb_table_t (hR : jR F A G g h) (hn : F 7 1 < 30) (hk : F 7 2 ≤ 30) (hr : F 2 0 ≤ 5) (hc : F 2 1 ≤ 5) {r c : Nat} (r1 : 1 ≤ r) (r5 : r ≤ 5) (c1 : 1 ≤ c) (c5 : c ≤ 5) (k : ∀ h' F' A' pl wt, (∀ j, j < 25 → pl j = nI 0) → (∀ j, j < 25 → wt j = nI 1) → jNw F A F' A' r c pl wt → jR F' A' G g h' → jD h h' → Q [.int (nI (F 2 0 * F 2 1))] h') : jx_Go jxP (d + 3) 86 0 [.ref 1, .int (nI r), .int (nI c), jx_u] [] h Q := by
  simp (disch := omega) only [s86_0, s86_1, s86_2, s86_5, s86_6, s86_7, s86_10, s86_11, s86_12, s86_15, s86_16, s86_17, s86_26, s86_27, s86_30, s86_33, s86_34, s86_35, s86_38, s86_39, s86_42, Option.some.injEq, exists_eq_left', exists_eq_left, List.cons_append, List.nil_append, List.length_nil, List.length_cons, Nat.reduceAdd, Nat.reduceMul, Nat.reduceSub, Nat.reduceLeDiff, true_and, and_true, ↓reduceIte, not_false_eq_true, not_true_eq_false, nI_add, pk_mul, jn_ltT, jn_ltF, jn_leT, jn_leF, jn_eqT, jn_eqF, jn_lt0, jn_ge0, jn_eq0T, jn_eq0F, jn_in, jn_cl, jf_1_0 hR, jf_1_3 hR, jc_of_2 hR, jc_of_7 hR, tk_size hR.tk2]
  refine tb_push hR hn hk (fun h1 hR1 hD1 => ?_)
  simp (disch := omega) only [s86_45, s86_46, s86_49, s86_50, s86_51, Option.some.injEq, exists_eq_left', exists_eq_left, List.cons_append, List.nil_append, List.length_nil, List.length_cons, Nat.reduceAdd, Nat.reduceMul, Nat.reduceSub, Nat.reduceLeDiff, true_and, and_true, ↓reduceIte, not_false_eq_true, not_true_eq_false, nI_add, pk_mul, jn_ltT, jn_ltF, jn_leT, jn_leF, jn_eqT, jn_eqF, jn_lt0, jn_ge0, jn_eq0T, jn_eq0F, jn_in, jn_cl, jf_1_0 hR1, jc_of_2 hR1]
  refine tk_clear hR1 (fun h2 pl wt hp hw hR2 hD2 => ?_)
  simp (disch := omega) only [s86_54, s86_55, Option.some.injEq, exists_eq_left', exists_eq_left, List.cons_append, List.nil_append, List.length_nil, List.length_cons, Nat.reduceAdd, Nat.reduceMul, Nat.reduceSub, Nat.reduceLeDiff, true_and, and_true, ↓reduceIte, not_false_eq_true, not_true_eq_false, nI_add, pk_mul, jn_ltT, jn_ltF, jn_leT, jn_leF, jn_eqT, jn_eqF, jn_lt0, jn_ge0, jn_eq0T, jn_eq0F, jn_in, jn_cl, jc_of_1 hR2]
  refine tb_fin2 (F := F) (A := A) (h := h) hR2 (hD1.tr hD2) hn (by rw [jup_ne (Or.inr (by decide)), jup_same]; omega) (by rw [jup_same]; omega) (fun o k ho => by rw [jup_ne (Or.inl ho), jup_ne (Or.inl ho)]) (fun a n1 n2 => by rw [jua_ne n2, jua_ne n1]) (fun h3 F3 A3 hN hR3 hD3 => ?_)
  simp (disch := omega) only [s86_58, s86_59, Option.some.injEq, exists_eq_left', exists_eq_left, List.cons_append, List.nil_append, List.length_nil, List.length_cons, Nat.reduceAdd, Nat.reduceMul, Nat.reduceSub, Nat.reduceLeDiff, true_and, and_true, ↓reduceIte, not_false_eq_true, not_true_eq_false, nI_add, pk_mul, jn_ltT, jn_ltF, jn_leT, jn_leF, jn_eqT, jn_eqF, jn_lt0, jn_ge0, jn_eq0T, jn_eq0F, jn_in, jn_cl]
  refine k h3 F3 A3 pl wt hp hw ?_ hR3 hD3
  rw [jup_ne (Or.inr (by decide)), jup_same, jup_same, jua_ne (by decide), jua_same, jua_same] at hN
  exact hN
theorem tb_put_f (hR : jR F A G g h) {x y v : Int32} (hb : ¬ ((jbel x (F 2 0) = true ∧ jbel y (F 2 1) = true) ∧ jbel v 3 = true)) (k : ∀ h', jR (jup F 1 11 (F 1 11 + 1)) A G g h' → jD h h' → Q [.int (-1)] h') : jx_Go jxP (d + 1) 87 0 [.ref 1, .int x, .int y, .int v, jx_u, jx_u] [] h Q := by
  have k21 : jx_Go jxP (d + 1) 87 21 [.ref 1, .int x, .int y, .int v, jx_u, jx_u] [] h Q := by
    simp (disch := omega) only [s87_21, s87_22, s87_23, Option.some.injEq, exists_eq_left', exists_eq_left, List.cons_append, List.nil_append, List.length_nil, List.length_cons, Nat.reduceAdd, Nat.reduceMul, Nat.reduceSub, Nat.reduceLeDiff, true_and, and_true, ↓reduceIte, not_false_eq_true, not_true_eq_false, nI_add, pk_mul, jn_ltT, jn_ltF, jn_leT, jn_leF, jn_eqT, jn_eqF, jn_lt0, jn_ge0, jn_eq0T, jn_eq0F, jn_in, jn_cl, jc_of_1 hR]
    exact tb_finding hR (fun h' hR' hD' => by simp only [s87_26, Option.some.injEq, exists_eq_left', exists_eq_left, List.cons_append, List.nil_append, List.length_nil, List.length_cons, Nat.reduceAdd, Nat.reduceMul, Nat.reduceSub, Nat.reduceLeDiff, true_and, and_true, ↓reduceIte, not_false_eq_true, not_true_eq_false, nI_add, pk_mul, jn_ltT, jn_ltF, jn_leT, jn_leF, jn_eqT, jn_eqF, jn_lt0, jn_ge0, jn_eq0T, jn_eq0F, jn_in, jn_cl]; exact k h' hR' hD')
  simp (disch := omega) only [s87_0, s87_1, s87_4, s87_5, s87_6, Option.some.injEq, exists_eq_left', exists_eq_left, List.cons_append, List.nil_append, List.length_nil, List.length_cons, Nat.reduceAdd, Nat.reduceMul, Nat.reduceSub, Nat.reduceLeDiff, true_and, and_true, ↓reduceIte, not_false_eq_true, not_true_eq_false, nI_add, pk_mul, jn_ltT, jn_ltF, jn_leT, jn_leF, jn_eqT, jn_eqF, jn_lt0, jn_ge0, jn_eq0T, jn_eq0F, jn_in, jn_cl, jf_1_0 hR, jc_of_2 hR, tk_has hR.tk2]
  by_cases p : jbel x (F 2 0) = true ∧ jbel y (F 2 1) = true
  · rw [if_pos p]
    simp (disch := omega) only [s87_9, s87_12, Option.some.injEq, exists_eq_left', exists_eq_left, List.cons_append, List.nil_append, List.length_nil, List.length_cons, Nat.reduceAdd, Nat.reduceMul, Nat.reduceSub, Nat.reduceLeDiff, true_and, and_true, ↓reduceIte, not_false_eq_true, not_true_eq_false, nI_add, pk_mul, jn_ltT, jn_ltF, jn_leT, jn_leF, jn_eqT, jn_eqF, jn_lt0, jn_ge0, jn_eq0T, jn_eq0F, jn_in, jn_cl]
    rw [s87_13]
    by_cases a : v < 0
    · rw [if_pos a]; exact k21
    rw [if_neg a, s87_16, s87_17, s87_18]
    by_cases b : nI 3 ≤ v
    · rw [if_neg (by rw [jle_bel (by omega)]; exact fun z => z b)]; exact k21
    · exact absurd ⟨p, jbel_c a b⟩ hb
  · rw [if_neg p]
    simp (disch := omega) only [s87_9, Option.some.injEq, exists_eq_left', exists_eq_left, List.cons_append, List.nil_append, List.length_nil, List.length_cons, Nat.reduceAdd, Nat.reduceMul, Nat.reduceSub, Nat.reduceLeDiff, true_and, and_true, ↓reduceIte, not_false_eq_true, not_true_eq_false, nI_add, pk_mul, jn_ltT, jn_ltF, jn_leT, jn_leF, jn_eqT, jn_eqF, jn_lt0, jn_ge0, jn_eq0T, jn_eq0F, jn_in, jn_cl]
    exact k21
theorem tb_put_t (hR : jR F A G g h) (hn : F 7 1 < 30) (hk : F 7 2 ≤ 30) (hr : F 2 0 ≤ 5) (hc : F 2 1 ≤ 5) {r c v : Nat} (r1 : r < F 2 0) (c1 : c < F 2 1) (v1 : v ≤ 2) (k : ∀ h' F' A', jNw F A F' A' (F 2 0) (F 2 1) (upd (A 3) (5 * r + c) (nI v)) (A 4) → jR F' A' G g h' → jD h h' → Q [.int (A 3 (5 * r + c))] h') : jx_Go jxP (d + 3) 87 0 [.ref 1, .int (nI r), .int (nI c), .int (nI v), jx_u, jx_u] [] h Q := by
  simp (disch := omega) only [s87_0, s87_1, s87_4, s87_5, s87_6, Option.some.injEq, exists_eq_left', exists_eq_left, List.cons_append, List.nil_append, List.length_nil, List.length_cons, Nat.reduceAdd, Nat.reduceMul, Nat.reduceSub, Nat.reduceLeDiff, true_and, and_true, ↓reduceIte, not_false_eq_true, not_true_eq_false, nI_add, pk_mul, jn_ltT, jn_ltF, jn_leT, jn_leF, jn_eqT, jn_eqF, jn_lt0, jn_ge0, jn_eq0T, jn_eq0F, jn_in, jn_cl, jf_1_0 hR, jc_of_2 hR, tk_has hR.tk2, jbel_n]
  simp (disch := omega) only [s87_9, s87_12, s87_13, s87_16, s87_17, s87_18, s87_27, s87_28, s87_31, s87_32, s87_35, Option.some.injEq, exists_eq_left', exists_eq_left, List.cons_append, List.nil_append, List.length_nil, List.length_cons, Nat.reduceAdd, Nat.reduceMul, Nat.reduceSub, Nat.reduceLeDiff, true_and, and_true, ↓reduceIte, not_false_eq_true, not_true_eq_false, nI_add, pk_mul, jn_ltT, jn_ltF, jn_leT, jn_leF, jn_eqT, jn_eqF, jn_lt0, jn_ge0, jn_eq0T, jn_eq0F, jn_in, jn_cl, jf_1_0 hR, jf_1_3 hR, jc_of_7 hR]
  refine tb_push hR hn hk (fun h1 hR1 hD1 => ?_)
  have e3 : jphA F A 3 = A 3 := jphA_o hn (by omega)
  have e4 : jphA F A 4 = A 4 := jphA_o hn (by omega)
  simp (disch := omega) only [s87_38, s87_39, s87_40, s87_41, s87_42, s87_43, s87_45, s87_46, s87_49, s87_52, s87_54, s87_55, s87_57, s87_58, s87_61, s87_64, s87_66, s87_67, s87_68, s87_69, Option.some.injEq, exists_eq_left', exists_eq_left, List.cons_append, List.nil_append, List.length_nil, List.length_cons, Nat.reduceAdd, Nat.reduceMul, Nat.reduceSub, Nat.reduceLeDiff, true_and, and_true, ↓reduceIte, not_false_eq_true, not_true_eq_false, nI_add, pk_mul, jn_ltT, jn_ltF, jn_leT, jn_leF, jn_eqT, jn_eqF, jn_lt0, jn_ge0, jn_eq0T, jn_eq0F, jn_in, jn_cl, jf_1_0 hR1, jf_2_2 hR1, ja_3 hR1, e3, jc_of_1 (hR1.wi (a := 3) (f := upd (A 3) (5 * r + c) (nI v)) rfl)]
  have hR2 := hR1.wi (a := 3) (f := upd (A 3) (5 * r + c) (nI v)) rfl
  have hD2 := hD1.wi (a := 3) (n := 25) (f := upd (A 3) (5 * r + c) (nI v)) (by decide)
  refine tb_fin2 (F := F) (A := A) (h := h) hR2 hD2 hn (by rw [jphF_o hn (by omega)]; omega) (by rw [jphF_o hn (by omega)]; omega) (fun o k ho => rfl) (fun a n1 n2 => jua_ne n1) (fun h3 F3 A3 hN hR3 hD3 => ?_)
  rw [jphF_o hn (by omega), jphF_o hn (by omega), jua_same, jua_ne (by decide), e4] at hN
  simp (disch := omega) only [s87_72, s87_74, Option.some.injEq, exists_eq_left', exists_eq_left, List.cons_append, List.nil_append, List.length_nil, List.length_cons, Nat.reduceAdd, Nat.reduceMul, Nat.reduceSub, Nat.reduceLeDiff, true_and, and_true, ↓reduceIte, not_false_eq_true, not_true_eq_false, nI_add, pk_mul, jn_ltT, jn_ltF, jn_leT, jn_leF, jn_eqT, jn_eqF, jn_lt0, jn_ge0, jn_eq0T, jn_eq0F, jn_in, jn_cl]
  exact k h3 F3 A3 hN hR3 hD3
theorem tb_place_f (hR : jR F A G g h) {x y : Int32} (hb : ¬ (jbel x (F 2 0) = true ∧ jbel y (F 2 1) = true)) (k : ∀ h', jR (jup F 1 11 (F 1 11 + 1)) A G g h' → jD h h' → Q [.int (-1)] h') : jx_Go jxP (d + 1) 88 0 [.ref 1, .int x, .int y] [] h Q := by
  simp (disch := omega) only [s88_0, s88_1, s88_4, s88_5, s88_6, Option.some.injEq, exists_eq_left', exists_eq_left, List.cons_append, List.nil_append, List.length_nil, List.length_cons, Nat.reduceAdd, Nat.reduceMul, Nat.reduceSub, Nat.reduceLeDiff, true_and, and_true, ↓reduceIte, not_false_eq_true, not_true_eq_false, nI_add, pk_mul, jn_ltT, jn_ltF, jn_leT, jn_leF, jn_eqT, jn_eqF, jn_lt0, jn_ge0, jn_eq0T, jn_eq0F, jn_in, jn_cl, jf_1_0 hR, jc_of_2 hR, tk_has hR.tk2]
  rw [if_neg hb]
  simp (disch := omega) only [s88_9, s88_12, s88_13, s88_14, Option.some.injEq, exists_eq_left', exists_eq_left, List.cons_append, List.nil_append, List.length_nil, List.length_cons, Nat.reduceAdd, Nat.reduceMul, Nat.reduceSub, Nat.reduceLeDiff, true_and, and_true, ↓reduceIte, not_false_eq_true, not_true_eq_false, nI_add, pk_mul, jn_ltT, jn_ltF, jn_leT, jn_leF, jn_eqT, jn_eqF, jn_lt0, jn_ge0, jn_eq0T, jn_eq0F, jn_in, jn_cl, jc_of_1 hR]
  exact tb_finding hR (fun h' hR' hD' => by simp only [s88_17, Option.some.injEq, exists_eq_left', exists_eq_left, List.cons_append, List.nil_append, List.length_nil, List.length_cons, Nat.reduceAdd, Nat.reduceMul, Nat.reduceSub, Nat.reduceLeDiff, true_and, and_true, ↓reduceIte, not_false_eq_true, not_true_eq_false, nI_add, pk_mul, jn_ltT, jn_ltF, jn_leT, jn_leF, jn_eqT, jn_eqF, jn_lt0, jn_ge0, jn_eq0T, jn_eq0F, jn_in, jn_cl]; exact k h' hR' hD')
theorem tb_place_t (hR : jR F A G g h) (hr : F 2 0 ≤ 5) (hc : F 2 1 ≤ 5) {r c : Nat} (r1 : r < F 2 0) (c1 : c < F 2 1) (k : Q [.int (A 3 (5 * r + c))] h) : jx_Go jxP (d + 1) 88 0 [.ref 1, .int (nI r), .int (nI c)] [] h Q := by
  simp (disch := omega) only [s88_0, s88_1, s88_4, s88_5, s88_6, Option.some.injEq, exists_eq_left', exists_eq_left, List.cons_append, List.nil_append, List.length_nil, List.length_cons, Nat.reduceAdd, Nat.reduceMul, Nat.reduceSub, Nat.reduceLeDiff, true_and, and_true, ↓reduceIte, not_false_eq_true, not_true_eq_false, nI_add, pk_mul, jn_ltT, jn_ltF, jn_leT, jn_leF, jn_eqT, jn_eqF, jn_lt0, jn_ge0, jn_eq0T, jn_eq0F, jn_in, jn_cl, jf_1_0 hR, jc_of_2 hR, tk_has hR.tk2, jbel_n]
  simp (disch := omega) only [s88_9, s88_18, s88_19, s88_22, s88_25, s88_26, s88_27, s88_28, s88_29, s88_30, s88_31, Option.some.injEq, exists_eq_left', exists_eq_left, List.cons_append, List.nil_append, List.length_nil, List.length_cons, Nat.reduceAdd, Nat.reduceMul, Nat.reduceSub, Nat.reduceLeDiff, true_and, and_true, ↓reduceIte, not_false_eq_true, not_true_eq_false, nI_add, pk_mul, jn_ltT, jn_ltF, jn_leT, jn_leF, jn_eqT, jn_eqF, jn_lt0, jn_ge0, jn_eq0T, jn_eq0F, jn_in, jn_cl, jf_1_0 hR, jf_2_2 hR, ja_3 hR]
  exact k
theorem tb_weigh_f (hR : jR F A G g h) {x y v : Int32} (hb : ¬ ((jbel x (F 2 0) = true ∧ jbel y (F 2 1) = true) ∧ jbel v 10 = true)) (k : ∀ h', jR (jup F 1 11 (F 1 11 + 1)) A G g h' → jD h h' → Q [.int (-1)] h') : jx_Go jxP (d + 1) 89 0 [.ref 1, .int x, .int y, .int v, jx_u, jx_u] [] h Q := by
  have k22 : jx_Go jxP (d + 1) 89 22 [.ref 1, .int x, .int y, .int v, jx_u, jx_u] [] h Q := by
    simp (disch := omega) only [s89_22, s89_23, s89_24, Option.some.injEq, exists_eq_left', exists_eq_left, List.cons_append, List.nil_append, List.length_nil, List.length_cons, Nat.reduceAdd, Nat.reduceMul, Nat.reduceSub, Nat.reduceLeDiff, true_and, and_true, ↓reduceIte, not_false_eq_true, not_true_eq_false, nI_add, pk_mul, jn_ltT, jn_ltF, jn_leT, jn_leF, jn_eqT, jn_eqF, jn_lt0, jn_ge0, jn_eq0T, jn_eq0F, jn_in, jn_cl, jc_of_1 hR]
    exact tb_finding hR (fun h' hR' hD' => by simp only [s89_27, Option.some.injEq, exists_eq_left', exists_eq_left, List.cons_append, List.nil_append, List.length_nil, List.length_cons, Nat.reduceAdd, Nat.reduceMul, Nat.reduceSub, Nat.reduceLeDiff, true_and, and_true, ↓reduceIte, not_false_eq_true, not_true_eq_false, nI_add, pk_mul, jn_ltT, jn_ltF, jn_leT, jn_leF, jn_eqT, jn_eqF, jn_lt0, jn_ge0, jn_eq0T, jn_eq0F, jn_in, jn_cl]; exact k h' hR' hD')
  simp (disch := omega) only [s89_0, s89_1, s89_4, s89_5, s89_6, Option.some.injEq, exists_eq_left', exists_eq_left, List.cons_append, List.nil_append, List.length_nil, List.length_cons, Nat.reduceAdd, Nat.reduceMul, Nat.reduceSub, Nat.reduceLeDiff, true_and, and_true, ↓reduceIte, not_false_eq_true, not_true_eq_false, nI_add, pk_mul, jn_ltT, jn_ltF, jn_leT, jn_leF, jn_eqT, jn_eqF, jn_lt0, jn_ge0, jn_eq0T, jn_eq0F, jn_in, jn_cl, jf_1_0 hR, jc_of_2 hR, tk_has hR.tk2]
  by_cases p : jbel x (F 2 0) = true ∧ jbel y (F 2 1) = true
  · rw [if_pos p]
    simp (disch := omega) only [s89_9, s89_12, Option.some.injEq, exists_eq_left', exists_eq_left, List.cons_append, List.nil_append, List.length_nil, List.length_cons, Nat.reduceAdd, Nat.reduceMul, Nat.reduceSub, Nat.reduceLeDiff, true_and, and_true, ↓reduceIte, not_false_eq_true, not_true_eq_false, nI_add, pk_mul, jn_ltT, jn_ltF, jn_leT, jn_leF, jn_eqT, jn_eqF, jn_lt0, jn_ge0, jn_eq0T, jn_eq0F, jn_in, jn_cl]
    rw [s89_13]
    by_cases a : v < 0
    · rw [if_pos a]; exact k22
    rw [if_neg a, s89_16, s89_17, s89_19]
    by_cases b : nI 10 ≤ v
    · rw [if_neg (by rw [jle_bel (by omega)]; exact fun z => z b)]; exact k22
    · exact absurd ⟨p, jbel_c a b⟩ hb
  · rw [if_neg p]
    simp (disch := omega) only [s89_9, Option.some.injEq, exists_eq_left', exists_eq_left, List.cons_append, List.nil_append, List.length_nil, List.length_cons, Nat.reduceAdd, Nat.reduceMul, Nat.reduceSub, Nat.reduceLeDiff, true_and, and_true, ↓reduceIte, not_false_eq_true, not_true_eq_false, nI_add, pk_mul, jn_ltT, jn_ltF, jn_leT, jn_leF, jn_eqT, jn_eqF, jn_lt0, jn_ge0, jn_eq0T, jn_eq0F, jn_in, jn_cl]
    exact k22
theorem tb_weigh_t (hR : jR F A G g h) (hn : F 7 1 < 30) (hk : F 7 2 ≤ 30) (hr : F 2 0 ≤ 5) (hc : F 2 1 ≤ 5) {r c v : Nat} (r1 : r < F 2 0) (c1 : c < F 2 1) (v1 : v ≤ 9) (k : ∀ h', jR (jup (jphF F) 132 7 4294967295) (jua (jphA F A) 4 (upd (A 4) (5 * r + c) (nI v))) G g h' → jD h h' → Q [.int (A 4 (5 * r + c))] h') : jx_Go jxP (d + 3) 89 0 [.ref 1, .int (nI r), .int (nI c), .int (nI v), jx_u, jx_u] [] h Q := by
  simp (disch := omega) only [s89_0, s89_1, s89_4, s89_5, s89_6, Option.some.injEq, exists_eq_left', exists_eq_left, List.cons_append, List.nil_append, List.length_nil, List.length_cons, Nat.reduceAdd, Nat.reduceMul, Nat.reduceSub, Nat.reduceLeDiff, true_and, and_true, ↓reduceIte, not_false_eq_true, not_true_eq_false, nI_add, pk_mul, jn_ltT, jn_ltF, jn_leT, jn_leF, jn_eqT, jn_eqF, jn_lt0, jn_ge0, jn_eq0T, jn_eq0F, jn_in, jn_cl, jf_1_0 hR, jc_of_2 hR, tk_has hR.tk2, jbel_n]
  simp (disch := omega) only [s89_9, s89_12, s89_13, s89_16, s89_17, s89_19, s89_28, s89_29, s89_32, s89_33, s89_36, Option.some.injEq, exists_eq_left', exists_eq_left, List.cons_append, List.nil_append, List.length_nil, List.length_cons, Nat.reduceAdd, Nat.reduceMul, Nat.reduceSub, Nat.reduceLeDiff, true_and, and_true, ↓reduceIte, not_false_eq_true, not_true_eq_false, nI_add, pk_mul, jn_ltT, jn_ltF, jn_leT, jn_leF, jn_eqT, jn_eqF, jn_lt0, jn_ge0, jn_eq0T, jn_eq0F, jn_in, jn_cl, jf_1_0 hR, jf_1_3 hR, jc_of_7 hR]
  refine tb_push hR hn hk (fun h1 hR1 hD1 => ?_)
  have e4 : jphA F A 4 = A 4 := jphA_o hn (by omega)
  have m1 : (-1 : Int32) = nI 4294967295 := by decide
  have hR2 := hR1.wi (a := 4) (f := upd (A 4) (5 * r + c) (nI v)) rfl
  have hD2 := hD1.wi (a := 4) (n := 25) (f := upd (A 4) (5 * r + c) (nI v)) (by decide)
  simp (disch := omega) only [s89_39, s89_40, s89_41, s89_42, s89_43, s89_44, s89_46, s89_47, s89_50, s89_53, s89_55, s89_56, s89_58, s89_59, s89_62, s89_65, s89_67, s89_68, Option.some.injEq, exists_eq_left', exists_eq_left, List.cons_append, List.nil_append, List.length_nil, List.length_cons, Nat.reduceAdd, Nat.reduceMul, Nat.reduceSub, Nat.reduceLeDiff, true_and, and_true, ↓reduceIte, not_false_eq_true, not_true_eq_false, nI_add, pk_mul, jn_ltT, jn_ltF, jn_leT, jn_leF, jn_eqT, jn_eqF, jn_lt0, jn_ge0, jn_eq0T, jn_eq0F, jn_in, jn_cl, jf_1_0 hR1, jf_2_3 hR1, ja_4 hR1, e4]
  generalize jx_wi h1 4 25 (upd (A 4) (5 * r + c) (nI v)) = h2 at hR2 hD2 ⊢
  simp (disch := omega) only [s89_69, s89_70, s89_73, s89_76, s89_78, Option.some.injEq, exists_eq_left', exists_eq_left, List.cons_append, List.nil_append, List.length_nil, List.length_cons, Nat.reduceAdd, Nat.reduceMul, Nat.reduceSub, Nat.reduceLeDiff, true_and, and_true, ↓reduceIte, not_false_eq_true, not_true_eq_false, nI_add, pk_mul, jn_ltT, jn_ltF, jn_leT, jn_leF, jn_eqT, jn_eqF, jn_lt0, jn_ge0, jn_eq0T, jn_eq0F, jn_in, jn_cl, jf_1_6 hR2, jc_of_132 hR2, s36_0, s36_1, s36_2, s36_5, jf_132_7 hR2, m1]
  exact k _ (hR2.uf (o := 132) (k := 7) rfl rfl) (hD2.uf (by decide))
theorem tb_rule_f (hR : jR F A G g h) {x : Int32} (hb : ¬ jbel x 5 = true) (k : ∀ h', jR (jup F 1 11 (F 1 11 + 1)) A G g h' → jD h h' → Q [.int (-1)] h') : jx_Go jxP (d + 1) 90 0 [.ref 1, .int x] [] h Q := by
  have k9 : jx_Go jxP (d + 1) 90 9 [.ref 1, .int x] [] h Q := by
    simp (disch := omega) only [s90_9, s90_10, s90_11, Option.some.injEq, exists_eq_left', exists_eq_left, List.cons_append, List.nil_append, List.length_nil, List.length_cons, Nat.reduceAdd, Nat.reduceMul, Nat.reduceSub, Nat.reduceLeDiff, true_and, and_true, ↓reduceIte, not_false_eq_true, not_true_eq_false, nI_add, pk_mul, jn_ltT, jn_ltF, jn_leT, jn_leF, jn_eqT, jn_eqF, jn_lt0, jn_ge0, jn_eq0T, jn_eq0F, jn_in, jn_cl, jc_of_1 hR]
    exact tb_finding hR (fun h' hR' hD' => by simp only [s90_14, Option.some.injEq, exists_eq_left', exists_eq_left, List.cons_append, List.nil_append, List.length_nil, List.length_cons, Nat.reduceAdd, Nat.reduceMul, Nat.reduceSub, Nat.reduceLeDiff, true_and, and_true, ↓reduceIte, not_false_eq_true, not_true_eq_false, nI_add, pk_mul, jn_ltT, jn_ltF, jn_leT, jn_leF, jn_eqT, jn_eqF, jn_lt0, jn_ge0, jn_eq0T, jn_eq0F, jn_in, jn_cl]; exact k h' hR' hD')
  rw [s90_0, s90_1]
  rcases jbel_f hb with a | ⟨a, b⟩
  · rw [if_pos a]; exact k9
  · rw [if_neg a, s90_4, s90_5, s90_6, if_neg (by rw [jle_bel (by omega)]; exact fun z => z b)]
    exact k9
theorem tb_rule_t (hR : jR F A G g h) (hn : F 7 1 < 30) (hk : F 7 2 ≤ 30) (hr : F 2 0 ≤ 5) (hc : F 2 1 ≤ 5) {q : Nat} (hq : q ≤ 4) (k : ∀ h' F' A' pl, (∀ i j, i < F 2 0 → j < F 2 1 → pl (5 * i + j) = nI (jrule q i j)) → jNw F A F' A' (F 2 0) (F 2 1) pl (A 4) → jR F' A' G g h' → jD h h' → Q [.int (nI (jcnt pl (F 2 0) (F 2 1) (nI 1)))] h') : jx_Go jxP (d + 3) 90 0 [.ref 1, .int (nI q)] [] h Q := by
  have eR : jphF F 2 0 = F 2 0 := jphF_o hn (by omega)
  have eC : jphF F 2 1 = F 2 1 := jphF_o hn (by omega)
  have e4 : jphA F A 4 = A 4 := jphA_o hn (by omega)
  simp (disch := omega) only [s90_0, s90_1, s90_4, s90_5, s90_6, s90_15, s90_16, s90_19, s90_20, s90_23, Option.some.injEq, exists_eq_left', exists_eq_left, List.cons_append, List.nil_append, List.length_nil, List.length_cons, Nat.reduceAdd, Nat.reduceMul, Nat.reduceSub, Nat.reduceLeDiff, true_and, and_true, ↓reduceIte, not_false_eq_true, not_true_eq_false, nI_add, pk_mul, jn_ltT, jn_ltF, jn_leT, jn_leF, jn_eqT, jn_eqF, jn_lt0, jn_ge0, jn_eq0T, jn_eq0F, jn_in, jn_cl, jf_1_0 hR, jf_1_3 hR, jc_of_7 hR]
  refine tb_push hR hn hk (fun h1 hR1 hD1 => ?_)
  simp (disch := omega) only [s90_26, s90_27, s90_30, s90_31, Option.some.injEq, exists_eq_left', exists_eq_left, List.cons_append, List.nil_append, List.length_nil, List.length_cons, Nat.reduceAdd, Nat.reduceMul, Nat.reduceSub, Nat.reduceLeDiff, true_and, and_true, ↓reduceIte, not_false_eq_true, not_true_eq_false, nI_add, pk_mul, jn_ltT, jn_ltF, jn_leT, jn_leF, jn_eqT, jn_eqF, jn_lt0, jn_ge0, jn_eq0T, jn_eq0F, jn_in, jn_cl, jf_1_0 hR1, jc_of_2 hR1]
  refine tk_fillByRule hR1 (by omega) (by omega) hq (fun h2 pl hp hR2 hD2 => ?_)
  rw [eR, eC] at hp
  simp (disch := omega) only [s90_34, s90_35, Option.some.injEq, exists_eq_left', exists_eq_left, List.cons_append, List.nil_append, List.length_nil, List.length_cons, Nat.reduceAdd, Nat.reduceMul, Nat.reduceSub, Nat.reduceLeDiff, true_and, and_true, ↓reduceIte, not_false_eq_true, not_true_eq_false, nI_add, pk_mul, jn_ltT, jn_ltF, jn_leT, jn_leF, jn_eqT, jn_eqF, jn_lt0, jn_ge0, jn_eq0T, jn_eq0F, jn_in, jn_cl, jc_of_1 hR2]
  refine tb_fin2 (F := F) (A := A) (h := h) hR2 (hD1.tr hD2) hn (by omega) (by omega) (fun o k ho => rfl) (fun a n1 n2 => jua_ne n1) (fun h3 F3 A3 hN hR3 hD3 => ?_)
  rw [eR, eC, jua_same, jua_ne (by decide), e4] at hN
  have hN' := hN
  obtain ⟨_, _, _, n1, n2, n3, n4⟩ := hN'
  simp (disch := omega) only [s90_38, s90_39, s90_42, s90_43, Option.some.injEq, exists_eq_left', exists_eq_left, List.cons_append, List.nil_append, List.length_nil, List.length_cons, Nat.reduceAdd, Nat.reduceMul, Nat.reduceSub, Nat.reduceLeDiff, true_and, and_true, ↓reduceIte, not_false_eq_true, not_true_eq_false, nI_add, pk_mul, jn_ltT, jn_ltF, jn_leT, jn_leF, jn_eqT, jn_eqF, jn_lt0, jn_ge0, jn_eq0T, jn_eq0F, jn_in, jn_cl, jf_1_0 hR3, jc_of_2 hR3]
  refine tk_count hR3.tk2 (by omega) (by omega) ?_
  simp (disch := omega) only [s90_46, Option.some.injEq, exists_eq_left', exists_eq_left, List.cons_append, List.nil_append, List.length_nil, List.length_cons, Nat.reduceAdd, Nat.reduceMul, Nat.reduceSub, Nat.reduceLeDiff, true_and, and_true, ↓reduceIte, not_false_eq_true, not_true_eq_false, nI_add, pk_mul, jn_ltT, jn_ltF, jn_leT, jn_leF, jn_eqT, jn_eqF, jn_lt0, jn_ge0, jn_eq0T, jn_eq0F, jn_in, jn_cl]
  rw [n1, n2, n3]
  exact k h3 F3 A3 pl hp hN hR3 hD3
theorem tb_turn (hR : jR F A G g h) (hn : F 7 1 < 30) (hk : F 7 2 ≤ 30) (hr : F 2 0 ≤ 5) (hc : F 2 1 ≤ 5) (k : ∀ h' F' A' pl wt, (∀ i j, i < 5 → j < 5 → pl (5 * i + j) = A 3 (5 * j + i)) → (∀ i j, i < 5 → j < 5 → wt (5 * i + j) = A 4 (5 * j + i)) → jNw F A F' A' (F 2 1) (F 2 0) pl wt → jR F' A' G g h' → jD h h' → Q [.int (nI (F 2 1))] h') : jx_Go jxP (d + 3) 91 0 [.ref 1] [] h Q := by
  have eR : jphF F 2 0 = F 2 0 := jphF_o hn (by omega)
  have eC : jphF F 2 1 = F 2 1 := jphF_o hn (by omega)
  have e3 : jphA F A 3 = A 3 := jphA_o hn (by omega)
  have e4 : jphA F A 4 = A 4 := jphA_o hn (by omega)
  simp (disch := omega) only [s91_0, s91_1, s91_4, s91_5, s91_8, Option.some.injEq, exists_eq_left', exists_eq_left, List.cons_append, List.nil_append, List.length_nil, List.length_cons, Nat.reduceAdd, Nat.reduceMul, Nat.reduceSub, Nat.reduceLeDiff, true_and, and_true, ↓reduceIte, not_false_eq_true, not_true_eq_false, nI_add, pk_mul, jn_ltT, jn_ltF, jn_leT, jn_leF, jn_eqT, jn_eqF, jn_lt0, jn_ge0, jn_eq0T, jn_eq0F, jn_in, jn_cl, jf_1_0 hR, jf_1_3 hR, jc_of_7 hR]
  refine tb_push hR hn hk (fun h1 hR1 hD1 => ?_)
  simp (disch := omega) only [s91_11, s91_12, s91_15, Option.some.injEq, exists_eq_left', exists_eq_left, List.cons_append, List.nil_append, List.length_nil, List.length_cons, Nat.reduceAdd, Nat.reduceMul, Nat.reduceSub, Nat.reduceLeDiff, true_and, and_true, ↓reduceIte, not_false_eq_true, not_true_eq_false, nI_add, pk_mul, jn_ltT, jn_ltF, jn_leT, jn_leF, jn_eqT, jn_eqF, jn_lt0, jn_ge0, jn_eq0T, jn_eq0F, jn_in, jn_cl, jf_1_0 hR1, jc_of_2 hR1]
  refine tk_swapSides hR1 (fun h2 pl wt hp hw hR2 hD2 => ?_)
  rw [e3] at hp
  rw [e4] at hw
  rw [eR, eC] at hR2
  simp (disch := omega) only [s91_18, s91_19, Option.some.injEq, exists_eq_left', exists_eq_left, List.cons_append, List.nil_append, List.length_nil, List.length_cons, Nat.reduceAdd, Nat.reduceMul, Nat.reduceSub, Nat.reduceLeDiff, true_and, and_true, ↓reduceIte, not_false_eq_true, not_true_eq_false, nI_add, pk_mul, jn_ltT, jn_ltF, jn_leT, jn_leF, jn_eqT, jn_eqF, jn_lt0, jn_ge0, jn_eq0T, jn_eq0F, jn_in, jn_cl, jc_of_1 hR2]
  refine tb_fin2 (F := F) (A := A) (h := h) hR2 (hD1.tr hD2) hn (by rw [jup_ne (Or.inr (by decide)), jup_same]; omega) (by rw [jup_same]; omega) (fun o k ho => by rw [jup_ne (Or.inl ho), jup_ne (Or.inl ho)]) (fun a n1 n2 => by rw [jua_ne n2, jua_ne n1]) (fun h3 F3 A3 hN hR3 hD3 => ?_)
  rw [jup_ne (Or.inr (by decide)), jup_same, jup_same, jua_ne (by decide), jua_same, jua_same] at hN
  have hN' := hN
  obtain ⟨_, _, _, n1, n2, n3, n4⟩ := hN'
  simp (disch := omega) only [s91_22, s91_23, s91_26, s91_29, Option.some.injEq, exists_eq_left', exists_eq_left, List.cons_append, List.nil_append, List.length_nil, List.length_cons, Nat.reduceAdd, Nat.reduceMul, Nat.reduceSub, Nat.reduceLeDiff, true_and, and_true, ↓reduceIte, not_false_eq_true, not_true_eq_false, nI_add, pk_mul, jn_ltT, jn_ltF, jn_leT, jn_leF, jn_eqT, jn_eqF, jn_lt0, jn_ge0, jn_eq0T, jn_eq0F, jn_in, jn_cl, jf_1_0 hR3, jf_2_0 hR3, n1]
  exact k h3 F3 A3 pl wt hp hw hN hR3 hD3
theorem tb_turnAnswers (hR : jR F A G g h) (hn : F 7 1 < 30) (hk : F 7 2 ≤ 30) (hr : F 2 0 ≤ 5) (hc : F 2 1 ≤ 5) (k : ∀ h' F' A' pl, (∀ i j, i < F 2 0 → j < F 2 1 → pl (5 * i + j) = if A 3 (5 * i + j) = nI 2 then nI 2 else nI 1 - A 3 (5 * i + j)) → jNw F A F' A' (F 2 0) (F 2 1) pl (A 4) → jR F' A' G g h' → jD h h' → Q [.int (nI (jcnt pl (F 2 0) (F 2 1) (nI 1)))] h') : jx_Go jxP (d + 3) 92 0 [.ref 1] [] h Q := by
  have eR : jphF F 2 0 = F 2 0 := jphF_o hn (by omega)
  have eC : jphF F 2 1 = F 2 1 := jphF_o hn (by omega)
  have e3 : jphA F A 3 = A 3 := jphA_o hn (by omega)
  have e4 : jphA F A 4 = A 4 := jphA_o hn (by omega)
  simp (disch := omega) only [s92_0, s92_1, s92_4, s92_5, s92_8, Option.some.injEq, exists_eq_left', exists_eq_left, List.cons_append, List.nil_append, List.length_nil, List.length_cons, Nat.reduceAdd, Nat.reduceMul, Nat.reduceSub, Nat.reduceLeDiff, true_and, and_true, ↓reduceIte, not_false_eq_true, not_true_eq_false, nI_add, pk_mul, jn_ltT, jn_ltF, jn_leT, jn_leF, jn_eqT, jn_eqF, jn_lt0, jn_ge0, jn_eq0T, jn_eq0F, jn_in, jn_cl, jf_1_0 hR, jf_1_3 hR, jc_of_7 hR]
  refine tb_push hR hn hk (fun h1 hR1 hD1 => ?_)
  simp (disch := omega) only [s92_11, s92_12, s92_15, Option.some.injEq, exists_eq_left', exists_eq_left, List.cons_append, List.nil_append, List.length_nil, List.length_cons, Nat.reduceAdd, Nat.reduceMul, Nat.reduceSub, Nat.reduceLeDiff, true_and, and_true, ↓reduceIte, not_false_eq_true, not_true_eq_false, nI_add, pk_mul, jn_ltT, jn_ltF, jn_leT, jn_leF, jn_eqT, jn_eqF, jn_lt0, jn_ge0, jn_eq0T, jn_eq0F, jn_in, jn_cl, jf_1_0 hR1, jc_of_2 hR1]
  refine tk_swapAnswers hR1 (by omega) (by omega) (fun h2 pl hp hR2 hD2 => ?_)
  rw [eR, eC, e3] at hp
  simp (disch := omega) only [s92_18, s92_19, Option.some.injEq, exists_eq_left', exists_eq_left, List.cons_append, List.nil_append, List.length_nil, List.length_cons, Nat.reduceAdd, Nat.reduceMul, Nat.reduceSub, Nat.reduceLeDiff, true_and, and_true, ↓reduceIte, not_false_eq_true, not_true_eq_false, nI_add, pk_mul, jn_ltT, jn_ltF, jn_leT, jn_leF, jn_eqT, jn_eqF, jn_lt0, jn_ge0, jn_eq0T, jn_eq0F, jn_in, jn_cl, jc_of_1 hR2]
  refine tb_fin2 (F := F) (A := A) (h := h) hR2 (hD1.tr hD2) hn (by omega) (by omega) (fun o k ho => rfl) (fun a n1 n2 => jua_ne n1) (fun h3 F3 A3 hN hR3 hD3 => ?_)
  rw [eR, eC, jua_same, jua_ne (by decide), e4] at hN
  have hN' := hN
  obtain ⟨_, _, _, n1, n2, n3, n4⟩ := hN'
  simp (disch := omega) only [s92_22, s92_23, s92_26, s92_27, Option.some.injEq, exists_eq_left', exists_eq_left, List.cons_append, List.nil_append, List.length_nil, List.length_cons, Nat.reduceAdd, Nat.reduceMul, Nat.reduceSub, Nat.reduceLeDiff, true_and, and_true, ↓reduceIte, not_false_eq_true, not_true_eq_false, nI_add, pk_mul, jn_ltT, jn_ltF, jn_leT, jn_leF, jn_eqT, jn_eqF, jn_lt0, jn_ge0, jn_eq0T, jn_eq0F, jn_in, jn_cl, jf_1_0 hR3, jc_of_2 hR3]
  refine tk_count hR3.tk2 (by omega) (by omega) ?_
  simp (disch := omega) only [s92_30, Option.some.injEq, exists_eq_left', exists_eq_left, List.cons_append, List.nil_append, List.length_nil, List.length_cons, Nat.reduceAdd, Nat.reduceMul, Nat.reduceSub, Nat.reduceLeDiff, true_and, and_true, ↓reduceIte, not_false_eq_true, not_true_eq_false, nI_add, pk_mul, jn_ltT, jn_ltF, jn_leT, jn_leF, jn_eqT, jn_eqF, jn_lt0, jn_ge0, jn_eq0T, jn_eq0F, jn_in, jn_cl]
  rw [n1, n2, n3]
  exact k h3 F3 A3 pl hp hN hR3 hD3
theorem tb_unlike (hR : jR F A G g h) (hr : F 2 0 ≤ 5) (hc : F 2 1 ≤ 5) {b : Nat} (hb : b ≤ 1) (k : Q [.int (nI (junl (A 3) (F 2 0) (F 2 1) b))] h) : jx_Go jxP (d + 2) 93 0 [.ref 1, .int (nI b)] [] h Q := by
  simp (disch := omega) only [s93_0, s93_1, s93_4, s93_5, Option.some.injEq, exists_eq_left', exists_eq_left, List.cons_append, List.nil_append, List.length_nil, List.length_cons, Nat.reduceAdd, Nat.reduceMul, Nat.reduceSub, Nat.reduceLeDiff, true_and, and_true, ↓reduceIte, not_false_eq_true, not_true_eq_false, nI_add, pk_mul, jn_ltT, jn_ltF, jn_leT, jn_leF, jn_eqT, jn_eqF, jn_lt0, jn_ge0, jn_eq0T, jn_eq0F, jn_in, jn_cl, jf_1_0 hR, jc_of_2 hR]
  refine tk_countUnlike hR hr hc hb ?_
  simp (disch := omega) only [s93_8, Option.some.injEq, exists_eq_left', exists_eq_left, List.cons_append, List.nil_append, List.length_nil, List.length_cons, Nat.reduceAdd, Nat.reduceMul, Nat.reduceSub, Nat.reduceLeDiff, true_and, and_true, ↓reduceIte, not_false_eq_true, not_true_eq_false, nI_add, pk_mul, jn_ltT, jn_ltF, jn_leT, jn_leF, jn_eqT, jn_eqF, jn_lt0, jn_ge0, jn_eq0T, jn_eq0F, jn_in, jn_cl]
  exact k
end CL27
