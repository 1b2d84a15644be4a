/-! ===== the reference: sheets ===== -/
section MD6
variable {d : Nat} {F : Nat → Nat → Nat} {A : Nat → Nat → Int32} {G : Nat → Option Nat} {g : Nat → Int64} {h : jxH} {Q : List Value → jxH → Prop}
theorem jbel_le {x : Int32} {n : Nat} (hn : n < 2147483647) : (if x < 0 then False else nI n < x ∨ x ≤ nI n) ∨ x < 0 := by
  by_cases a : x < 0
  · exact Or.inr a
  · left
    rw [if_neg a, jlt_bel hn, jle_bel hn]
    exact Classical.em _
theorem md_isSheet {x : Int32} : jx_Go jxP d 148 0 [.int x] [] h Q ↔ Q [.int (nI (if jbel x 4 = true then 1 else 0))] h := by
  simp only [s148_0, s148_1, s148_4, s148_5, s148_6, s148_9, s148_10, s148_13, s148_14b0, s148_14b1, Option.some.injEq, exists_eq_left', exists_eq_left, List.cons_append, List.nil_append, List.length_nil, List.length_cons, Nat.reduceAdd, Nat.reduceMul, Nat.reduceSub, Nat.reduceLeDiff, true_and, and_true, ↓reduceIte, not_false_eq_true, not_true_eq_false, nI_add, pk_mul, jn_ltT, jn_ltF, jn_leT, jn_leF, jn_eqT, jn_eqF, jn_lt0, jn_ge0, jn_eq0T, jn_eq0F, jn_in, jn_cl]
  by_cases a : x < 0
  · simp [a, jbel]
  · by_cases b : nI 4 ≤ x
    · simp [a, b, jbel]
    · simp [a, b, jbel]
theorem md_isSlot {x : Int32} : jx_Go jxP d 188 0 [.int x] [] h Q ↔ Q [.int (nI (if jbel x 4 = true then 1 else 0))] h := by
  simp only [s188_0, s188_1, s188_4, s188_5, s188_6, s188_9, s188_10, s188_13, s188_14b0, s188_14b1, Option.some.injEq, exists_eq_left', exists_eq_left, List.cons_append, List.nil_append, List.length_nil, List.length_cons, Nat.reduceAdd, Nat.reduceMul, Nat.reduceSub, Nat.reduceLeDiff, true_and, and_true, ↓reduceIte, not_false_eq_true, not_true_eq_false, nI_add, pk_mul, jn_ltT, jn_ltF, jn_leT, jn_leF, jn_eqT, jn_eqF, jn_lt0, jn_ge0, jn_eq0T, jn_eq0F, jn_in, jn_cl]
  by_cases a : x < 0
  · simp [a, jbel]
  · by_cases b : nI 4 ≤ x
    · simp [a, b, jbel]
    · simp [a, b, jbel]
theorem jn_ge0' {x : Int32} : (0 ≤ x) = ¬ x < 0 := by
  apply propext
  exact Int32.not_lt.symm
/-- what sheet() finds -/
def jshA (s b n : Int32) : Option Int32 := if jbel s 4 = true ∧ (b = 0 ∨ b = nI 8 ∨ b = nI 16 ∨ b = nI 32) then (if n < 0 then some (-3) else if nI 30 < n then some (-1) else none) else some (-1)
theorem jshA_n {s b n : Int32} (e : jshA s b n = none) : (∃ s', s' < 4 ∧ s = nI s') ∧ (∃ b', (b' = 0 ∨ b' = 8 ∨ b' = 16 ∨ b' = 32) ∧ b = nI b') ∧ ∃ n', n' ≤ 30 ∧ n = nI n' := by
  unfold jshA at e
  split at e
  · next hs =>
    split at e
    · cases e
    · next h1 =>
      split at e
      · cases e
      · next h2 =>
        refine ⟨(jbel_iff (by omega)).mp hs.1, ?_, ?_⟩
        · rcases hs.2 with q | q | q | q
          · exact ⟨0, by omega, q⟩
          · exact ⟨8, by omega, q⟩
          · exact ⟨16, by omega, q⟩
          · exact ⟨32, by omega, q⟩
        · obtain ⟨j, hj, rfl⟩ := nI_of h1
          rw [nI_ltI (by omega) (by omega)] at h2
          exact ⟨j, by omega, rfl⟩
  · cases e
theorem md_sheet_f (hR : jR F A G g h) {s b n x : Int32} (e : jshA s b n = some x) (k : ∀ h', jR (jup F 149 13 (F 149 13 + 1)) A G g h' → jD h h' → Q [.int x] h') : jx_Go jxP (d + 1) 149 0 [.ref 149, .int s, .int b, .int n, jx_u] [] h Q := by
  have k29 : x = -1 → jx_Go jxP (d + 1) 149 29 [.ref 149, .int s, .int b, .int n, jx_u] [] h Q := by
    rintro rfl
    simp only [s149_29, s149_30, s149_31, s149_34, Option.some.injEq, exists_eq_left', exists_eq_left, List.cons_append, List.nil_append, List.length_nil, List.length_cons, Nat.reduceAdd, Nat.reduceMul, Nat.reduceSub, Nat.reduceLeDiff, true_and, and_true, ↓reduceIte, not_false_eq_true, not_true_eq_false, nI_add, pk_mul, jn_ltT, jn_ltF, jn_leT, jn_leF, jn_eqT, jn_eqF, jn_lt0, jn_ge0, jn_eq0T, jn_eq0F, jn_in, jn_cl, jc_of_149 hR]
    exact md_finding hR (fun h' hR' hD' => by simp only [s149_34, Option.some.injEq, exists_eq_left', exists_eq_left, List.cons_append, List.nil_append, List.length_nil, List.length_cons, Nat.reduceAdd, Nat.reduceMul, Nat.reduceSub, Nat.reduceLeDiff, true_and, and_true, ↓reduceIte, not_false_eq_true, not_true_eq_false, nI_add, pk_mul, jn_ltT, jn_ltF, jn_leT, jn_leF, jn_eqT, jn_eqF, jn_lt0, jn_ge0, jn_eq0T, jn_eq0F, jn_in, jn_cl]; exact k h' hR' hD')
  have k35 : jbel s 4 = true ∧ (b = 0 ∨ b = nI 8 ∨ b = nI 16 ∨ b = nI 32) → jx_Go jxP (d + 1) 149 35 [.ref 149, .int s, .int b, .int n, jx_u] [] h Q := by
    intro hs
    rw [jshA, if_pos hs] at e
    simp only [s149_35, s149_36, Option.some.injEq, exists_eq_left', exists_eq_left, List.cons_append, List.nil_append, List.length_nil, List.length_cons, Nat.reduceAdd, Nat.reduceMul, Nat.reduceSub, Nat.reduceLeDiff, true_and, and_true, ↓reduceIte, not_false_eq_true, not_true_eq_false, nI_add, pk_mul, jn_ltT, jn_ltF, jn_leT, jn_leF, jn_eqT, jn_eqF, jn_lt0, jn_ge0, jn_eq0T, jn_eq0F, jn_in, jn_cl]
    by_cases q : n < 0
    · rw [if_pos q] at e
      cases e
      rw [if_neg (by rw [jn_ge0']; exact fun w => w q)]
      simp only [s149_39, s149_40, s149_42, s149_45, Option.some.injEq, exists_eq_left', exists_eq_left, List.cons_append, List.nil_append, List.length_nil, List.length_cons, Nat.reduceAdd, Nat.reduceMul, Nat.reduceSub, Nat.reduceLeDiff, true_and, and_true, ↓reduceIte, not_false_eq_true, not_true_eq_false, nI_add, pk_mul, jn_ltT, jn_ltF, jn_leT, jn_leF, jn_eqT, jn_eqF, jn_lt0, jn_ge0, jn_eq0T, jn_eq0F, jn_in, jn_cl, jc_of_149 hR]
      exact md_finding hR (fun h' hR' hD' => by simp only [s149_45, Option.some.injEq, exists_eq_left', exists_eq_left, List.cons_append, List.nil_append, List.length_nil, List.length_cons, Nat.reduceAdd, Nat.reduceMul, Nat.reduceSub, Nat.reduceLeDiff, true_and, and_true, ↓reduceIte, not_false_eq_true, not_true_eq_false, nI_add, pk_mul, jn_ltT, jn_ltF, jn_leT, jn_leF, jn_eqT, jn_eqF, jn_lt0, jn_ge0, jn_eq0T, jn_eq0F, jn_in, jn_cl]; exact k h' hR' hD')
    · rw [if_neg q] at e
      rw [if_pos (by rw [jn_ge0']; exact q)]
      simp only [s149_46, s149_47, s149_49, Option.some.injEq, exists_eq_left', exists_eq_left, List.cons_append, List.nil_append, List.length_nil, List.length_cons, Nat.reduceAdd, Nat.reduceMul, Nat.reduceSub, Nat.reduceLeDiff, true_and, and_true, ↓reduceIte, not_false_eq_true, not_true_eq_false, nI_add, pk_mul, jn_ltT, jn_ltF, jn_leT, jn_leF, jn_eqT, jn_eqF, jn_lt0, jn_ge0, jn_eq0T, jn_eq0F, jn_in, jn_cl]
      by_cases q2 : nI 30 < n
      · rw [if_pos q2] at e
        cases e
        rw [if_neg (by rw [jle_bel (by omega), ← jlt_bel (by omega)]; exact fun w => w q2)]
        simp only [s149_52, s149_53, s149_54, s149_57, Option.some.injEq, exists_eq_left', exists_eq_left, List.cons_append, List.nil_append, List.length_nil, List.length_cons, Nat.reduceAdd, Nat.reduceMul, Nat.reduceSub, Nat.reduceLeDiff, true_and, and_true, ↓reduceIte, not_false_eq_true, not_true_eq_false, nI_add, pk_mul, jn_ltT, jn_ltF, jn_leT, jn_leF, jn_eqT, jn_eqF, jn_lt0, jn_ge0, jn_eq0T, jn_eq0F, jn_in, jn_cl, jc_of_149 hR]
        exact md_finding hR (fun h' hR' hD' => by simp only [s149_57, Option.some.injEq, exists_eq_left', exists_eq_left, List.cons_append, List.nil_append, List.length_nil, List.length_cons, Nat.reduceAdd, Nat.reduceMul, Nat.reduceSub, Nat.reduceLeDiff, true_and, and_true, ↓reduceIte, not_false_eq_true, not_true_eq_false, nI_add, pk_mul, jn_ltT, jn_ltF, jn_leT, jn_leF, jn_eqT, jn_eqF, jn_lt0, jn_ge0, jn_eq0T, jn_eq0F, jn_in, jn_cl]; exact k h' hR' hD')
      · rw [if_neg q2] at e
        cases e
  simp only [s149_0, s149_1, Option.some.injEq, exists_eq_left', exists_eq_left, List.cons_append, List.nil_append, List.length_nil, List.length_cons, Nat.reduceAdd, Nat.reduceMul, Nat.reduceSub, Nat.reduceLeDiff, true_and, and_true, ↓reduceIte, not_false_eq_true, not_true_eq_false, nI_add, pk_mul, jn_ltT, jn_ltF, jn_leT, jn_leF, jn_eqT, jn_eqF, jn_lt0, jn_ge0, jn_eq0T, jn_eq0F, jn_in, jn_cl, md_isSheet]
  by_cases hs : jbel s 4 = true
  · rw [if_pos hs]
    simp (disch := omega) only [s149_4, s149_7, s149_8, Option.some.injEq, exists_eq_left', exists_eq_left, List.cons_append, List.nil_append, List.length_nil, List.length_cons, Nat.reduceAdd, Nat.reduceMul, Nat.reduceSub, Nat.reduceLeDiff, true_and, and_true, ↓reduceIte, not_false_eq_true, not_true_eq_false, nI_add, pk_mul, jn_ltT, jn_ltF, jn_leT, jn_leF, jn_eqT, jn_eqF, jn_lt0, jn_ge0, jn_eq0T, jn_eq0F, jn_in, jn_cl]
    by_cases q0 : b = 0
    · rw [if_pos q0]; exact k35 ⟨hs, Or.inl q0⟩
    · rw [if_neg q0]
      simp (disch := omega) only [s149_11, s149_12, s149_14, Option.some.injEq, exists_eq_left', exists_eq_left, List.cons_append, List.nil_append, List.length_nil, List.length_cons, Nat.reduceAdd, Nat.reduceMul, Nat.reduceSub, Nat.reduceLeDiff, true_and, and_true, ↓reduceIte, not_false_eq_true, not_true_eq_false, nI_add, pk_mul, jn_ltT, jn_ltF, jn_leT, jn_leF, jn_eqT, jn_eqF, jn_lt0, jn_ge0, jn_eq0T, jn_eq0F, jn_in, jn_cl]
      by_cases q1 : b = nI 8
      · rw [if_pos q1]; exact k35 ⟨hs, Or.inr (Or.inl q1)⟩
      · rw [if_neg q1]
        simp (disch := omega) only [s149_17, s149_18, s149_20, Option.some.injEq, exists_eq_left', exists_eq_left, List.cons_append, List.nil_append, List.length_nil, List.length_cons, Nat.reduceAdd, Nat.reduceMul, Nat.reduceSub, Nat.reduceLeDiff, true_and, and_true, ↓reduceIte, not_false_eq_true, not_true_eq_false, nI_add, pk_mul, jn_ltT, jn_ltF, jn_leT, jn_leF, jn_eqT, jn_eqF, jn_lt0, jn_ge0, jn_eq0T, jn_eq0F, jn_in, jn_cl]
        by_cases q2 : b = nI 16
        · rw [if_pos q2]; exact k35 ⟨hs, Or.inr (Or.inr (Or.inl q2))⟩
        · rw [if_neg q2]
          simp (disch := omega) only [s149_23, s149_24, s149_26, Option.some.injEq, exists_eq_left', exists_eq_left, List.cons_append, List.nil_append, List.length_nil, List.length_cons, Nat.reduceAdd, Nat.reduceMul, Nat.reduceSub, Nat.reduceLeDiff, true_and, and_true, ↓reduceIte, not_false_eq_true, not_true_eq_false, nI_add, pk_mul, jn_ltT, jn_ltF, jn_leT, jn_leF, jn_eqT, jn_eqF, jn_lt0, jn_ge0, jn_eq0T, jn_eq0F, jn_in, jn_cl]
          by_cases q3 : b = nI 32
          · rw [if_pos q3]; exact k35 ⟨hs, Or.inr (Or.inr (Or.inr q3))⟩
          · rw [if_neg q3]
            have := e
            rw [jshA, if_neg (by rintro ⟨-, q | q | q | q⟩ <;> first | exact q0 q | exact q1 q | exact q2 q | exact q3 q)] at this
            exact k29 (Option.some.inj this).symm
  · rw [if_neg hs]
    simp (disch := omega) only [s149_4, s149_7, s149_8, Option.some.injEq, exists_eq_left', exists_eq_left, List.cons_append, List.nil_append, List.length_nil, List.length_cons, Nat.reduceAdd, Nat.reduceMul, Nat.reduceSub, Nat.reduceLeDiff, true_and, and_true, ↓reduceIte, not_false_eq_true, not_true_eq_false, nI_add, pk_mul, jn_ltT, jn_ltF, jn_leT, jn_leF, jn_eqT, jn_eqF, jn_lt0, jn_ge0, jn_eq0T, jn_eq0F, jn_in, jn_cl]
    have := e
    rw [jshA, if_neg (fun q => hs q.1)] at this
    exact k29 (Option.some.inj this).symm
theorem md_sheet_t (hR : jR F A G g h) {s b n : Nat} (hs : s < 4) (hb : b = 0 ∨ b = 8 ∨ b = 16 ∨ b = 32) (hn : n ≤ 30) (k : ∀ h' nu, (∀ i, i < 30 → nu (30 * s + i) = nI 0) → (∀ j, (j < 30 * s ∨ 30 * s + 30 ≤ j) → nu j = A 157 j) → jR F (jua (jua (jua A 155 (upd (A 155) s (nI b))) 156 (upd (A 156) s (nI (if b = 0 then 0 else n)))) 157 nu) G g h' → jD h h' → Q [.int (nI (if b = 0 then 0 else n))] h') : jx_Go jxP (d + 1) 149 0 [.ref 149, .int (nI s), .int (nI b), .int (nI n), jx_u] [] h Q := by
  have hbel : jbel (nI s) 4 = true := jbel_n hs (by omega)
  have k58 : jx_Go jxP (d + 1) 149 35 [.ref 149, .int (nI s), .int (nI b), .int (nI n), jx_u] [] h Q := by
    have tail : ∀ z, z = (if b = 0 then 0 else n) → jx_Go jxP (d + 1) 149 80 [.ref 149, .int (nI s), .int (nI b), .int (nI n), jx_u] [] (jx_wi (jx_wi h 155 4 (upd (A 155) s (nI b))) 156 4 (upd (A 156) s (nI z))) Q := by
      intro z hz
      have hR2 : jR F (jua (jua A 155 (upd (A 155) s (nI b))) 156 (upd (A 156) s (nI z))) G g (jx_wi (jx_wi h 155 4 (upd (A 155) s (nI b))) 156 4 (upd (A 156) s (nI z))) := (hR.wi rfl).wi rfl
      have hD2 : jD h (jx_wi (jx_wi h 155 4 (upd (A 155) s (nI b))) 156 4 (upd (A 156) s (nI z))) := (jD.rf.wi (by decide)).wi (by decide)
      generalize jx_wi (jx_wi h 155 4 (upd (A 155) s (nI b))) 156 4 (upd (A 156) s (nI z)) = h2 at hR2 hD2 ⊢
      have e157 : jua (jua A 155 (upd (A 155) s (nI b))) 156 (upd (A 156) s (nI z)) 157 = A 157 := by simp [jua]
      have e156 : jua (jua A 155 (upd (A 155) s (nI b))) 156 (upd (A 156) s (nI z)) 156 s = nI z := by simp [jua, upd]
      simp (disch := omega) only [s149_80, s149_81, Option.some.injEq, exists_eq_left', exists_eq_left, List.cons_append, List.nil_append, List.length_nil, List.length_cons, Nat.reduceAdd, Nat.reduceMul, Nat.reduceSub, Nat.reduceLeDiff, true_and, and_true, ↓reduceIte, not_false_eq_true, not_true_eq_false, nI_add, pk_mul, jn_ltT, jn_ltF, jn_leT, jn_leF, jn_eqT, jn_eqF, jn_lt0, jn_ge0, jn_eq0T, jn_eq0F, jn_in, jn_cl]
      refine jloop (fun i => ∀ nu, (∀ j, j < i → nu (30 * s + j) = nI 0) → (∀ j, (j < 30 * s ∨ 30 * s + 30 ≤ j) → nu j = A 157 j) → jx_Go jxP (d + 1) 149 83 [.ref 149, .int (nI s), .int (nI b), .int (nI n), .int (nI i)] [] (jx_wi h2 157 120 nu) Q) 30 ?_ ?_ 0 (Nat.zero_le _) (A 157) (by omega) (fun _ _ => rfl) |> fun z => by rw [jh_wi_id (by rw [ja_157 hR2, e157])] at z; exact z
      · intro nu h1 h2'
        rw [s149_83]
        simp (disch := omega) only [s149_85, s149_87, s149_90, s149_91, s149_94, s149_96, s149_97, s149_98, s149_100, s149_101, s149_102, s149_103, s149_106, s149_109, s149_110, s149_113, s149_114, s149_115, Option.some.injEq, exists_eq_left', exists_eq_left, List.cons_append, List.nil_append, List.length_nil, List.length_cons, Nat.reduceAdd, Nat.reduceMul, Nat.reduceSub, Nat.reduceLeDiff, true_and, and_true, ↓reduceIte, not_false_eq_true, not_true_eq_false, nI_add, pk_mul, jn_ltT, jn_ltF, jn_leT, jn_leF, jn_eqT, jn_eqF, jn_lt0, jn_ge0, jn_eq0T, jn_eq0F, jn_in, jn_cl, jh_ai_wi, jh_ai_wi_ne, jh_ai_uf, jh_fl_wi_ne, jh_fl_uf_ne, jh_fl_uf_o, jh_cl_wi_ne, jh_cl_uf, jh_al_wi_ne, jh_al_uf, jh_al_wl, jh_al_wl_ne, jh_ai_wl_ne, jh_fl_wl_ne, jh_cl_wl_ne, jh_ar_wi_ne, jh_ar_uf, jh_ar_wl_ne, jh_1_wi, jh_1_uf, jh_1_wl, jf_149_9 hR2, ja_156 hR2, e156]
        rw [hz] at hR2 ⊢
        exact k _ nu h1 h2' (hR2.wi rfl) (hD2.wi (by decide))
      · intro i hi ih nu h1 h2'
        rw [s149_83]
        simp (disch := omega) only [s149_85, s149_87, s149_90, s149_91, s149_94, s149_96, s149_97, s149_98, s149_100, s149_101, s149_102, s149_103, s149_106, Option.some.injEq, exists_eq_left', exists_eq_left, List.cons_append, List.nil_append, List.length_nil, List.length_cons, Nat.reduceAdd, Nat.reduceMul, Nat.reduceSub, Nat.reduceLeDiff, true_and, and_true, ↓reduceIte, not_false_eq_true, not_true_eq_false, nI_add, pk_mul, jn_ltT, jn_ltF, jn_leT, jn_leF, jn_eqT, jn_eqF, jn_lt0, jn_ge0, jn_eq0T, jn_eq0F, jn_in, jn_cl, jh_ai_wi, jh_ai_wi_ne, jh_ai_uf, jh_fl_wi_ne, jh_fl_uf_ne, jh_fl_uf_o, jh_cl_wi_ne, jh_cl_uf, jh_al_wi_ne, jh_al_uf, jh_al_wl, jh_al_wl_ne, jh_ai_wl_ne, jh_fl_wl_ne, jh_cl_wl_ne, jh_ar_wi_ne, jh_ar_uf, jh_ar_wl_ne, jh_1_wi, jh_1_uf, jh_1_wl, jf_149_10 hR2, jh_wi_wi]
        refine ih _ (fun j hj => ?_) (fun j hj => ?_)
        · by_cases e : j = i
          · simp [upd, e]
          · simp only [upd]
            rw [if_neg (by omega)]
            exact h1 j (by omega)
        · simp only [upd]
          rw [if_neg (by omega)]
          exact h2' j hj
    simp (disch := omega) only [s149_35, s149_36, s149_39, s149_40, s149_42, s149_45, s149_46, s149_47, s149_49, s149_52, s149_53, s149_54, s149_57, s149_58, s149_59, s149_62, s149_63, s149_64, s149_65, s149_66, s149_69, s149_70, s149_71, Option.some.injEq, exists_eq_left', exists_eq_left, List.cons_append, List.nil_append, List.length_nil, List.length_cons, Nat.reduceAdd, Nat.reduceMul, Nat.reduceSub, Nat.reduceLeDiff, true_and, and_true, ↓reduceIte, not_false_eq_true, not_true_eq_false, nI_add, pk_mul, jn_ltT, jn_ltF, jn_leT, jn_leF, jn_eqT, jn_eqF, jn_lt0, jn_ge0, jn_eq0T, jn_eq0F, jn_in, jn_cl, jh_ai_wi, jh_ai_wi_ne, jh_ai_uf, jh_fl_wi_ne, jh_fl_uf_ne, jh_fl_uf_o, jh_cl_wi_ne, jh_cl_uf, jh_al_wi_ne, jh_al_uf, jh_al_wl, jh_al_wl_ne, jh_ai_wl_ne, jh_fl_wl_ne, jh_cl_wl_ne, jh_ar_wi_ne, jh_ar_uf, jh_ar_wl_ne, jh_1_wi, jh_1_uf, jh_1_wl, jf_149_8 hR, jf_149_9 hR, ja_155 hR, ja_156 hR]
    by_cases q : b = 0
    · simp (disch := omega) only [s149_71, s149_74, s149_75, s149_78, s149_79, Option.some.injEq, exists_eq_left', exists_eq_left, List.cons_append, List.nil_append, List.length_nil, List.length_cons, Nat.reduceAdd, Nat.reduceMul, Nat.reduceSub, Nat.reduceLeDiff, true_and, and_true, ↓reduceIte, not_false_eq_true, not_true_eq_false, nI_add, pk_mul, jn_ltT, jn_ltF, jn_leT, jn_leF, jn_eqT, jn_eqF, jn_lt0, jn_ge0, jn_eq0T, jn_eq0F, jn_in, jn_cl, jh_ai_wi, jh_ai_wi_ne, jh_ai_uf, jh_fl_wi_ne, jh_fl_uf_ne, jh_fl_uf_o, jh_cl_wi_ne, jh_cl_uf, jh_al_wi_ne, jh_al_uf, jh_al_wl, jh_al_wl_ne, jh_ai_wl_ne, jh_fl_wl_ne, jh_cl_wl_ne, jh_ar_wi_ne, jh_ar_uf, jh_ar_wl_ne, jh_1_wi, jh_1_uf, jh_1_wl, ja_155 hR, ja_156 hR]
      exact tail 0 (by rw [if_pos q])
    · simp (disch := omega) only [s149_71, s149_74, s149_75, s149_78, s149_79, Option.some.injEq, exists_eq_left', exists_eq_left, List.cons_append, List.nil_append, List.length_nil, List.length_cons, Nat.reduceAdd, Nat.reduceMul, Nat.reduceSub, Nat.reduceLeDiff, true_and, and_true, ↓reduceIte, not_false_eq_true, not_true_eq_false, nI_add, pk_mul, jn_ltT, jn_ltF, jn_leT, jn_leF, jn_eqT, jn_eqF, jn_lt0, jn_ge0, jn_eq0T, jn_eq0F, jn_in, jn_cl, jh_ai_wi, jh_ai_wi_ne, jh_ai_uf, jh_fl_wi_ne, jh_fl_uf_ne, jh_fl_uf_o, jh_cl_wi_ne, jh_cl_uf, jh_al_wi_ne, jh_al_uf, jh_al_wl, jh_al_wl_ne, jh_ai_wl_ne, jh_fl_wl_ne, jh_cl_wl_ne, jh_ar_wi_ne, jh_ar_uf, jh_ar_wl_ne, jh_1_wi, jh_1_uf, jh_1_wl, ja_155 hR, ja_156 hR]
      exact tail n (by rw [if_neg q])
  simp only [s149_0, s149_1, Option.some.injEq, exists_eq_left', exists_eq_left, List.cons_append, List.nil_append, List.length_nil, List.length_cons, Nat.reduceAdd, Nat.reduceMul, Nat.reduceSub, Nat.reduceLeDiff, true_and, and_true, ↓reduceIte, not_false_eq_true, not_true_eq_false, nI_add, pk_mul, jn_ltT, jn_ltF, jn_leT, jn_leF, jn_eqT, jn_eqF, jn_lt0, jn_ge0, jn_eq0T, jn_eq0F, jn_in, jn_cl, md_isSheet, hbel]
  rcases hb with rfl | rfl | rfl | rfl <;> simp (disch := omega) only [s149_4, s149_7, s149_8, s149_11, s149_12, s149_14, s149_17, s149_18, s149_20, s149_23, s149_24, s149_26, Option.some.injEq, exists_eq_left', exists_eq_left, List.cons_append, List.nil_append, List.length_nil, List.length_cons, Nat.reduceAdd, Nat.reduceMul, Nat.reduceSub, Nat.reduceLeDiff, true_and, and_true, ↓reduceIte, not_false_eq_true, not_true_eq_false, nI_add, pk_mul, jn_ltT, jn_ltF, jn_leT, jn_leF, jn_eqT, jn_eqF, jn_lt0, jn_ge0, jn_eq0T, jn_eq0F, jn_in, jn_cl] <;> exact k58
end MD6
