/-! ===== the reference: tasks are kept, and come back ===== -/
section MD2
variable {d : Nat} {F : Nat → Nat → Nat} {A : Nat → Nat → Int32} {G : Nat → Option Nat} {g : Nat → Int64} {h : jxH} {Q : List Value → jxH → Prop}
/-- places i from a row from o on -/
def jld (f p : Nat → Int32) (o i : Nat) : Nat → Int32 := fun j => if j < i then f (o + j) else p j
theorem jld_s {f p : Nat → Int32} {o i : Nat} : upd (jld f p o i) i (f (o + i)) = jld f p o (i + 1) := by
  funext j
  by_cases e : j = i
  · subst e
    simp [upd, jld]
  · simp only [upd, jld, if_neg e]
    by_cases e2 : j < i
    · rw [if_pos e2, if_pos (by omega)]
    · rw [if_neg e2, if_neg (by omega)]
theorem jld_0 {f p : Nat → Int32} {o : Nat} : jld f p o 0 = p := by
  funext j
  simp [jld]
theorem jua_id {A : Nat → Nat → Int32} {a : Nat} : jua A a (A a) = A := by
  funext b
  by_cases e : b = a
  · subst e; simp [jua]
  · simp [jua, e]
theorem md_load (hR : jR F A G g h) {a n o R C : Nat} (ha : jln a = some n) (ho : o + 52 ≤ n) (hn : n < 2000) (h1 : a ≠ 150) (h2 : a ≠ 151) (e0 : A a o = nI R) (e1 : A a (o + 1) = nI C) (k : ∀ h', jR (jup (jup (jup F 149 0 R) 149 1 C) 149 14 0) (jua (jua A 150 (jld (A a) (A 150) (o + 2) 25)) 151 (jld (A a) (A 151) (o + 27) 25)) G g h' → jD h h' → Q [] h') : jx_Go jxP d 135 0 [.ref 149, .ref a, .int (nI o), jx_u] [] h Q := by
  have hlt := jln_lt a n ha
  have hq := jln_ne a hlt (by rw [ha]; rfl)
  have h149 : 149 ≠ a := fun e => by rw [← e] at hq; cases hq.1
  have aa : jx_ai h a = some (n, A a) := hR.2.1 a n ha
  simp (disch := omega) only [s135_0, s135_1, s135_2, s135_3, s135_4, s135_7, s135_8, s135_9, s135_10, s135_11, s135_12, s135_13, s135_16, s135_17, s135_19, s135_21, s135_24, s135_25, s135_28, s135_29, s135_30, s135_31, s135_32, s135_33, s135_34, s135_35, s135_36, s135_37, s135_38, s135_41, s135_42, s135_43, s135_44, s135_46, s135_47, s135_48, s135_49, s135_50, s135_51, s135_54, s135_57, s135_58, s135_59, s135_62, Option.some.injEq, exists_eq_left', exists_eq_left, List.cons_append, List.nil_append, List.length_nil, List.length_cons, Nat.reduceAdd, Nat.reduceMul, Nat.reduceSub, Nat.reduceLeDiff, true_and, and_true, ↓reduceIte, not_false_eq_true, not_true_eq_false, nI_add, pk_mul, jn_ltT, jn_ltF, jn_leT, jn_leF, jn_eqT, jn_eqF, jn_lt0, jn_ge0, jn_eq0T, jn_eq0F, jn_in, jn_cl, jh_ai_wi, jh_ai_wi_ne, jh_ai_uf, jh_fl_wi_ne, jh_fl_uf_ne, jh_fl_uf_o, jh_cl_wi_ne, jh_cl_uf, jh_al_wi_ne, jh_al_uf, jh_al_wl, jh_al_wl_ne, jh_ai_wl_ne, jh_fl_wl_ne, jh_cl_wl_ne, jh_ar_wi_ne, jh_ar_uf, jh_ar_wl_ne, jh_1_wi, jh_1_uf, jh_1_wl, jf_149_0 hR, jf_149_1 hR, jf_149_2 hR, jf_149_3 hR, jf_149_14 hR, ja_150 hR, ja_151 hR, aa, e0, e1]
  have hR2 : jR (jup (jup F 149 0 R) 149 1 C) A G g (jx_uf (jx_uf h 149 0 (.int (nI R))) 149 1 (.int (nI C))) := (hR.uf rfl rfl).uf rfl rfl
  have hD2 : jD h (jx_uf (jx_uf h 149 0 (.int (nI R))) 149 1 (.int (nI C))) := (jD.rf.uf (by decide)).uf (by decide)
  generalize jx_uf (jx_uf h 149 0 (.int (nI R))) 149 1 (.int (nI C)) = h2 at hR2 hD2 ⊢
  have aa2 : jx_ai h2 a = some (n, A a) := hR2.2.1 a n ha
  have start : h2 = jx_wi (jx_wi h2 150 25 (jld (A a) (A 150) (o + 2) 0)) 151 25 (jld (A a) (A 151) (o + 27) 0) := by
    rw [jld_0, jld_0, jh_wi_id (ja_150 hR2), jh_wi_id (ja_151 hR2)]
  rw [start]
  refine jloop (fun i => jx_Go jxP d 135 18 [.ref 149, .ref a, .int (nI o), .int (nI i)] [] (jx_wi (jx_wi h2 150 25 (jld (A a) (A 150) (o + 2) i)) 151 25 (jld (A a) (A 151) (o + 27) i)) Q) 25 ?_ ?_ 0 (Nat.zero_le _)
  · rw [s135_18]
    simp (disch := omega) only [s135_0, s135_1, s135_2, s135_3, s135_4, s135_7, s135_8, s135_9, s135_10, s135_11, s135_12, s135_13, s135_16, s135_17, s135_19, s135_21, s135_24, s135_25, s135_28, s135_29, s135_30, s135_31, s135_32, s135_33, s135_34, s135_35, s135_36, s135_37, s135_38, s135_41, s135_42, s135_43, s135_44, s135_46, s135_47, s135_48, s135_49, s135_50, s135_51, s135_54, s135_57, s135_58, s135_59, s135_62, Option.some.injEq, exists_eq_left', exists_eq_left, List.cons_append, List.nil_append, List.length_nil, List.length_cons, Nat.reduceAdd, Nat.reduceMul, Nat.reduceSub, Nat.reduceLeDiff, true_and, and_true, ↓reduceIte, not_false_eq_true, not_true_eq_false, nI_add, pk_mul, jn_ltT, jn_ltF, jn_leT, jn_leF, jn_eqT, jn_eqF, jn_lt0, jn_ge0, jn_eq0T, jn_eq0F, jn_in, jn_cl, jh_ai_wi, jh_ai_wi_ne, jh_ai_uf, jh_fl_wi_ne, jh_fl_uf_ne, jh_fl_uf_o, jh_cl_wi_ne, jh_cl_uf, jh_al_wi_ne, jh_al_uf, jh_al_wl, jh_al_wl_ne, jh_ai_wl_ne, jh_fl_wl_ne, jh_cl_wl_ne, jh_ar_wi_ne, jh_ar_uf, jh_ar_wl_ne, jh_1_wi, jh_1_uf, jh_1_wl, jf_149_14 hR2]
    exact k _ (((hR2.wi rfl).wi rfl).uf rfl rfl) (((hD2.wi (by decide)).wi (by decide)).uf (by decide))
  · intro i hi ih
    rw [s135_18]
    simp (disch := omega) only [s135_0, s135_1, s135_2, s135_3, s135_4, s135_7, s135_8, s135_9, s135_10, s135_11, s135_12, s135_13, s135_16, s135_17, s135_19, s135_21, s135_24, s135_25, s135_28, s135_29, s135_30, s135_31, s135_32, s135_33, s135_34, s135_35, s135_36, s135_37, s135_38, s135_41, s135_42, s135_43, s135_44, s135_46, s135_47, s135_48, s135_49, s135_50, s135_51, s135_54, s135_57, s135_58, s135_59, s135_62, Option.some.injEq, exists_eq_left', exists_eq_left, List.cons_append, List.nil_append, List.length_nil, List.length_cons, Nat.reduceAdd, Nat.reduceMul, Nat.reduceSub, Nat.reduceLeDiff, true_and, and_true, ↓reduceIte, not_false_eq_true, not_true_eq_false, nI_add, pk_mul, jn_ltT, jn_ltF, jn_leT, jn_leF, jn_eqT, jn_eqF, jn_lt0, jn_ge0, jn_eq0T, jn_eq0F, jn_in, jn_cl, jh_ai_wi, jh_ai_wi_ne, jh_ai_uf, jh_fl_wi_ne, jh_fl_uf_ne, jh_fl_uf_o, jh_cl_wi_ne, jh_cl_uf, jh_al_wi_ne, jh_al_uf, jh_al_wl, jh_al_wl_ne, jh_ai_wl_ne, jh_fl_wl_ne, jh_cl_wl_ne, jh_ar_wi_ne, jh_ar_uf, jh_ar_wl_ne, jh_1_wi, jh_1_uf, jh_1_wl, jf_149_2 hR2, jf_149_3 hR2, aa2, jh_wi_wi, jh_wi_c, jld_s]
    exact ih
/-- the latest kept tasks, one further -/
def jsh (f : Nat → Int32) (i : Nat) : Nat → Int32 := fun j => if j < i then f (j + 52) else f j
theorem jsh_s {f : Nat → Int32} {i : Nat} : upd (jsh f i) i (jsh f i (i + 52)) = jsh f (i + 1) := by
  funext j
  by_cases e : j = i
  · subst e
    simp [upd, jsh]
    intro q
    omega
  · simp only [upd, jsh, if_neg e]
    by_cases e2 : j < i
    · rw [if_pos e2, if_pos (by omega)]
    · rw [if_neg e2, if_neg (by omega)]
/-- the row of kept tasks once one more is kept -/
def jkt (f : Nat → Int32) (kp R C : Nat) (pl wt : Nat → Int32) : Nat → Int32 := if kp = 30 then jsv (jsh f 1508) (52 * 29) R C pl wt 25 else jsv f (52 * kp) R C pl wt 25
theorem jua_jua {A : Nat → Nat → Int32} {a : Nat} {f f' : Nat → Int32} : jua (jua A a f) a f' = jua A a f' := by
  funext b
  by_cases e : b = a <;> simp [jua, e]
theorem jup_jup {F : Nat → Nat → Nat} {o k v w : Nat} : jup (jup F o k v) o k w = jup F o k w := by
  funext a b
  by_cases e : a = o ∧ b = k <;> simp [jup, e]
theorem jup_id {F : Nat → Nat → Nat} {o k v : Nat} (e : F o k = v) : jup F o k v = F := by
  funext a b
  by_cases q : a = o ∧ b = k
  · obtain ⟨rfl, rfl⟩ := q
    simp [jup, e]
  · simp [jup, q]
theorem jup_same {F : Nat → Nat → Nat} {o k v : Nat} : jup F o k v o k = v := by simp [jup]
theorem jua_same {A : Nat → Nat → Int32} {a : Nat} {f : Nat → Int32} : jua A a f a = f := by simp [jua]
theorem jua_ne {A : Nat → Nat → Int32} {a b : Nat} {f : Nat → Int32} (hb : b ≠ a) : jua A a f b = A b := by simp [jua, hb]
theorem jup_ne {F : Nat → Nat → Nat} {o k v o' k' : Nat} (hb : o' ≠ o ∨ k' ≠ k) : jup F o k v o' k' = F o' k' := by
  have : ¬ (o' = o ∧ k' = k) := by omega
  simp [jup, this]
set_option maxHeartbeats 2000000 in
theorem md_keepTask (hR : jR F A G g h) (hr : F 149 0 ≤ 5) (hc : F 149 1 ≤ 5) (hk : F 149 4 ≤ 30) (k : ∀ h', jR (jup F 149 4 (if F 149 4 = 30 then 30 else F 149 4 + 1)) (jua A 152 (jkt (A 152) (F 149 4) (F 149 0) (F 149 1) (A 150) (A 151))) G g h' → jD h h' → Q [] h') : jx_Go jxP (d + 1) 136 0 [.ref 149, jx_u] [] h Q := by
  by_cases h30 : F 149 4 = 30
  · simp (disch := omega) only [s136_0, s136_1, s136_4, s136_6, s136_9, s136_10, Option.some.injEq, exists_eq_left', exists_eq_left, List.cons_append, List.nil_append, List.length_nil, List.length_cons, Nat.reduceAdd, Nat.reduceMul, Nat.reduceSub, Nat.reduceLeDiff, true_and, and_true, ↓reduceIte, not_false_eq_true, not_true_eq_false, nI_add, pk_mul, jn_ltT, jn_ltF, jn_leT, jn_leF, jn_eqT, jn_eqF, jn_lt0, jn_ge0, jn_eq0T, jn_eq0F, jn_in, jn_cl, jh_ai_wi, jh_ai_wi_ne, jh_ai_uf, jh_fl_wi_ne, jh_fl_uf_ne, jh_fl_uf_o, jh_cl_wi_ne, jh_cl_uf, jh_al_wi_ne, jh_al_uf, jh_al_wl, jh_al_wl_ne, jh_ai_wl_ne, jh_fl_wl_ne, jh_cl_wl_ne, jh_ar_wi_ne, jh_ar_uf, jh_ar_wl_ne, jh_1_wi, jh_1_uf, jh_1_wl, jf_149_4 hR]
    have start : h = jx_wi h 152 1560 (jsh (A 152) 0) := by
      rw [show jsh (A 152) 0 = A 152 by funext j; simp [jsh], jh_wi_id (ja_152 hR)]
    rw [start]
    refine jloop (fun i => jx_Go jxP (d + 1) 136 11 [.ref 149, .int (nI i)] [] (jx_wi h 152 1560 (jsh (A 152) i)) Q) 1508 ?_ ?_ 0 (Nat.zero_le _)
    · rw [s136_11]
      simp (disch := omega) only [s136_12, s136_15, s136_18, s136_19, s136_22, s136_23, s136_24, s136_27, s136_28, s136_30, s136_31, s136_32, s136_33, s136_36, s136_39, s136_40i, s136_40r, s136_41, s136_44, s136_45, s136_46, Option.some.injEq, exists_eq_left', exists_eq_left, List.cons_append, List.nil_append, List.length_nil, List.length_cons, Nat.reduceAdd, Nat.reduceMul, Nat.reduceSub, Nat.reduceLeDiff, true_and, and_true, ↓reduceIte, not_false_eq_true, not_true_eq_false, nI_add, pk_mul, jn_ltT, jn_ltF, jn_leT, jn_leF, jn_eqT, jn_eqF, jn_lt0, jn_ge0, jn_eq0T, jn_eq0F, jn_in, jn_cl, jh_ai_wi, jh_ai_wi_ne, jh_ai_uf, jh_fl_wi_ne, jh_fl_uf_ne, jh_fl_uf_o, jh_cl_wi_ne, jh_cl_uf, jh_al_wi_ne, jh_al_uf, jh_al_wl, jh_al_wl_ne, jh_ai_wl_ne, jh_fl_wl_ne, jh_cl_wl_ne, jh_ar_wi_ne, jh_ar_uf, jh_ar_wl_ne, jh_1_wi, jh_1_uf, jh_1_wl, jf_149_4 hR, jn_sub, h30]
      have hR2 : jR (jup F 149 4 29) (jua A 152 (jsh (A 152) 1508)) G g (jx_uf (jx_wi h 152 1560 (jsh (A 152) 1508)) 149 4 (.int (nI 29))) := (hR.wi rfl).uf rfl rfl
      have hD2 : jD h (jx_uf (jx_wi h 152 1560 (jsh (A 152) 1508)) 149 4 (.int (nI 29))) := (jD.rf.wi (by decide)).uf (by decide)
      generalize jx_uf (jx_wi h 152 1560 (jsh (A 152) 1508)) 149 4 (.int (nI 29)) = h2 at hR2 hD2 ⊢
      have e4 : jup F 149 4 29 149 4 = 29 := jup_same
      simp (disch := omega) only [s136_49, s136_50, s136_51, s136_54, s136_56, s136_57, s136_60, s136_61, Option.some.injEq, exists_eq_left', exists_eq_left, List.cons_append, List.nil_append, List.length_nil, List.length_cons, Nat.reduceAdd, Nat.reduceMul, Nat.reduceSub, Nat.reduceLeDiff, true_and, and_true, ↓reduceIte, not_false_eq_true, not_true_eq_false, nI_add, pk_mul, jn_ltT, jn_ltF, jn_leT, jn_leF, jn_eqT, jn_eqF, jn_lt0, jn_ge0, jn_eq0T, jn_eq0F, jn_in, jn_cl, jh_ai_wi, jh_ai_wi_ne, jh_ai_uf, jh_fl_wi_ne, jh_fl_uf_ne, jh_fl_uf_o, jh_cl_wi_ne, jh_cl_uf, jh_al_wi_ne, jh_al_uf, jh_al_wl, jh_al_wl_ne, jh_ai_wl_ne, jh_fl_wl_ne, jh_cl_wl_ne, jh_ar_wi_ne, jh_ar_uf, jh_ar_wl_ne, jh_1_wi, jh_1_uf, jh_1_wl, jf_149_4 hR2, jf_149_5 hR2, jc_of_149 hR2, e4]
      refine md_save hR2 rfl (by decide) (by decide) (by decide) (by decide) (by simpa [jup] using hr) (by simpa [jup] using hc) (fun h' hR3 hD3 => ?_)
      simp (disch := omega) only [s136_64, s136_65i, s136_65r, s136_66, s136_69, s136_70, s136_71, s136_74, Option.some.injEq, exists_eq_left', exists_eq_left, List.cons_append, List.nil_append, List.length_nil, List.length_cons, Nat.reduceAdd, Nat.reduceMul, Nat.reduceSub, Nat.reduceLeDiff, true_and, and_true, ↓reduceIte, not_false_eq_true, not_true_eq_false, nI_add, pk_mul, jn_ltT, jn_ltF, jn_leT, jn_leF, jn_eqT, jn_eqF, jn_lt0, jn_ge0, jn_eq0T, jn_eq0F, jn_in, jn_cl, jh_ai_wi, jh_ai_wi_ne, jh_ai_uf, jh_fl_wi_ne, jh_fl_uf_ne, jh_fl_uf_o, jh_cl_wi_ne, jh_cl_uf, jh_al_wi_ne, jh_al_uf, jh_al_wl, jh_al_wl_ne, jh_ai_wl_ne, jh_fl_wl_ne, jh_cl_wl_ne, jh_ar_wi_ne, jh_ar_uf, jh_ar_wl_ne, jh_1_wi, jh_1_uf, jh_1_wl, jf_149_4 hR3, e4]
      refine k _ ?_ ((hD2.tr hD3).uf (by decide))
      have := hR3.uf (o := 149) (k := 4) (c := 12) (v := 30) rfl rfl
      rw [jup_jup, jua_jua] at this
      rw [if_pos h30, jkt, if_pos h30]
      simpa [jup, jua] using this
    · intro i hi ih
      rw [s136_11]
      simp (disch := omega) only [s136_0, s136_1, s136_4, s136_6, s136_9, s136_10, s136_12, s136_15, s136_18, s136_19, s136_22, s136_23, s136_24, s136_27, s136_28, s136_30, s136_31, s136_32, s136_33, s136_36, s136_39, s136_40i, s136_40r, s136_41, s136_44, s136_45, s136_46, s136_49, s136_50, s136_51, s136_54, s136_56, s136_57, s136_60, s136_61, s136_64, s136_65i, s136_65r, s136_66, s136_69, s136_70, s136_71, s136_74, Option.some.injEq, exists_eq_left', exists_eq_left, List.cons_append, List.nil_append, List.length_nil, List.length_cons, Nat.reduceAdd, Nat.reduceMul, Nat.reduceSub, Nat.reduceLeDiff, true_and, and_true, ↓reduceIte, not_false_eq_true, not_true_eq_false, nI_add, pk_mul, jn_ltT, jn_ltF, jn_leT, jn_leF, jn_eqT, jn_eqF, jn_lt0, jn_ge0, jn_eq0T, jn_eq0F, jn_in, jn_cl, jh_ai_wi, jh_ai_wi_ne, jh_ai_uf, jh_fl_wi_ne, jh_fl_uf_ne, jh_fl_uf_o, jh_cl_wi_ne, jh_cl_uf, jh_al_wi_ne, jh_al_uf, jh_al_wl, jh_al_wl_ne, jh_ai_wl_ne, jh_fl_wl_ne, jh_cl_wl_ne, jh_ar_wi_ne, jh_ar_uf, jh_ar_wl_ne, jh_1_wi, jh_1_uf, jh_1_wl, jf_149_5 hR, jh_wi_wi, jsh_s]
      exact ih
  · simp (disch := omega) only [s136_0, s136_1, s136_4, s136_6, s136_9, s136_10, s136_12, s136_15, s136_18, s136_19, s136_22, s136_23, s136_24, s136_27, s136_28, s136_30, s136_31, s136_32, s136_33, s136_36, s136_39, s136_40i, s136_40r, s136_41, s136_44, s136_45, s136_46, s136_49, s136_50, s136_51, s136_54, s136_56, s136_57, s136_60, s136_61, Option.some.injEq, exists_eq_left', exists_eq_left, List.cons_append, List.nil_append, List.length_nil, List.length_cons, Nat.reduceAdd, Nat.reduceMul, Nat.reduceSub, Nat.reduceLeDiff, true_and, and_true, ↓reduceIte, not_false_eq_true, not_true_eq_false, nI_add, pk_mul, jn_ltT, jn_ltF, jn_leT, jn_leF, jn_eqT, jn_eqF, jn_lt0, jn_ge0, jn_eq0T, jn_eq0F, jn_in, jn_cl, jh_ai_wi, jh_ai_wi_ne, jh_ai_uf, jh_fl_wi_ne, jh_fl_uf_ne, jh_fl_uf_o, jh_cl_wi_ne, jh_cl_uf, jh_al_wi_ne, jh_al_uf, jh_al_wl, jh_al_wl_ne, jh_ai_wl_ne, jh_fl_wl_ne, jh_cl_wl_ne, jh_ar_wi_ne, jh_ar_uf, jh_ar_wl_ne, jh_1_wi, jh_1_uf, jh_1_wl, jf_149_4 hR, jf_149_5 hR, jc_of_149 hR]
    refine md_save hR rfl (by omega) (by decide) (by decide) (by decide) hr hc (fun h' hR3 hD3 => ?_)
    simp (disch := omega) only [s136_64, s136_65i, s136_65r, s136_66, s136_69, s136_70, s136_71, s136_74, Option.some.injEq, exists_eq_left', exists_eq_left, List.cons_append, List.nil_append, List.length_nil, List.length_cons, Nat.reduceAdd, Nat.reduceMul, Nat.reduceSub, Nat.reduceLeDiff, true_and, and_true, ↓reduceIte, not_false_eq_true, not_true_eq_false, nI_add, pk_mul, jn_ltT, jn_ltF, jn_leT, jn_leF, jn_eqT, jn_eqF, jn_lt0, jn_ge0, jn_eq0T, jn_eq0F, jn_in, jn_cl, jh_ai_wi, jh_ai_wi_ne, jh_ai_uf, jh_fl_wi_ne, jh_fl_uf_ne, jh_fl_uf_o, jh_cl_wi_ne, jh_cl_uf, jh_al_wi_ne, jh_al_uf, jh_al_wl, jh_al_wl_ne, jh_ai_wl_ne, jh_fl_wl_ne, jh_cl_wl_ne, jh_ar_wi_ne, jh_ar_uf, jh_ar_wl_ne, jh_1_wi, jh_1_uf, jh_1_wl, jf_149_4 hR3]
    refine k _ ?_ (hD3.uf (by decide))
    have := hR3.uf (o := 149) (k := 4) (c := 12) (v := F 149 4 + 1) rfl rfl
    rw [if_neg h30, jkt, if_neg h30]
    exact this
theorem md_undo (hR : jR F A G g h) (hk : F 149 4 ≤ 30) {R C : Nat} (e0 : 0 < F 149 4 → A 152 (52 * (F 149 4 - 1)) = nI R) (e1 : 0 < F 149 4 → A 152 (52 * (F 149 4 - 1) + 1) = nI C)
    (k0 : F 149 4 = 0 → ∀ h', jR (jup F 149 13 (F 149 13 + 1)) A G g h' → jD h h' → Q [.int (-6)] h')
    (k1 : 0 < F 149 4 → ∀ h', jR (jup (jup (jup (jup F 149 4 (F 149 4 - 1)) 149 0 R) 149 1 C) 149 14 0) (jua (jua A 150 (jld (A 152) (A 150) (52 * (F 149 4 - 1) + 2) 25)) 151 (jld (A 152) (A 151) (52 * (F 149 4 - 1) + 27) 25)) G g h' → jD h h' → Q [.int (nI (F 149 4 - 1))] h') : jx_Go jxP (d + 1) 137 0 [.ref 149] [] h Q := by
  by_cases h0 : F 149 4 = 0
  · simp (disch := omega) only [s137_0, s137_1, s137_4, s137_7, s137_8, s137_10, s137_13, s137_14, s137_15i, s137_15r, s137_16, s137_19, s137_20, s137_21, s137_24, s137_25, s137_26, s137_29, s137_31, s137_32, s137_35, s137_36, s137_39, s137_40, s137_43, Option.some.injEq, exists_eq_left', exists_eq_left, List.cons_append, List.nil_append, List.length_nil, List.length_cons, Nat.reduceAdd, Nat.reduceMul, Nat.reduceSub, Nat.reduceLeDiff, true_and, and_true, ↓reduceIte, not_false_eq_true, not_true_eq_false, nI_add, pk_mul, jn_ltT, jn_ltF, jn_leT, jn_leF, jn_eqT, jn_eqF, jn_lt0, jn_ge0, jn_eq0T, jn_eq0F, jn_in, jn_cl, jh_ai_wi, jh_ai_wi_ne, jh_ai_uf, jh_fl_wi_ne, jh_fl_uf_ne, jh_fl_uf_o, jh_cl_wi_ne, jh_cl_uf, jh_al_wi_ne, jh_al_uf, jh_al_wl, jh_al_wl_ne, jh_ai_wl_ne, jh_fl_wl_ne, jh_cl_wl_ne, jh_ar_wi_ne, jh_ar_uf, jh_ar_wl_ne, jh_1_wi, jh_1_uf, jh_1_wl, jf_149_4 hR, jc_of_149 hR]
    exact md_finding hR (fun h' hR' hD' => by simp only [s137_0, s137_1, s137_4, s137_7, s137_8, s137_10, s137_13, s137_14, s137_15i, s137_15r, s137_16, s137_19, s137_20, s137_21, s137_24, s137_25, s137_26, s137_29, s137_31, s137_32, s137_35, s137_36, s137_39, s137_40, s137_43, Option.some.injEq, exists_eq_left', exists_eq_left, List.cons_append, List.nil_append, List.length_nil, List.length_cons, Nat.reduceAdd, Nat.reduceMul, Nat.reduceSub, Nat.reduceLeDiff, true_and, and_true, ↓reduceIte, not_false_eq_true, not_true_eq_false, nI_add, pk_mul, jn_ltT, jn_ltF, jn_leT, jn_leF, jn_eqT, jn_eqF, jn_lt0, jn_ge0, jn_eq0T, jn_eq0F, jn_in, jn_cl]; exact k0 h0 h' hR' hD')
  · simp (disch := omega) only [s137_0, s137_1, s137_4, s137_7, s137_8, s137_10, s137_13, s137_14, s137_15i, s137_15r, s137_16, s137_19, s137_20, s137_21, s137_24, s137_25, s137_26, s137_29, s137_31, s137_32, s137_35, s137_36, s137_39, s137_40, s137_43, Option.some.injEq, exists_eq_left', exists_eq_left, List.cons_append, List.nil_append, List.length_nil, List.length_cons, Nat.reduceAdd, Nat.reduceMul, Nat.reduceSub, Nat.reduceLeDiff, true_and, and_true, ↓reduceIte, not_false_eq_true, not_true_eq_false, nI_add, pk_mul, jn_ltT, jn_ltF, jn_leT, jn_leF, jn_eqT, jn_eqF, jn_lt0, jn_ge0, jn_eq0T, jn_eq0F, jn_in, jn_cl, jh_ai_wi, jh_ai_wi_ne, jh_ai_uf, jh_fl_wi_ne, jh_fl_uf_ne, jh_fl_uf_o, jh_cl_wi_ne, jh_cl_uf, jh_al_wi_ne, jh_al_uf, jh_al_wl, jh_al_wl_ne, jh_ai_wl_ne, jh_fl_wl_ne, jh_cl_wl_ne, jh_ar_wi_ne, jh_ar_uf, jh_ar_wl_ne, jh_1_wi, jh_1_uf, jh_1_wl, jf_149_4 hR, jf_149_5 hR, jc_of_149 hR, jn_sub]
    have hR2 : jR (jup F 149 4 (F 149 4 - 1)) A G g (jx_uf h 149 4 (.int (nI (F 149 4 - 1)))) := hR.uf rfl rfl
    have hD2 : jD h (jx_uf h 149 4 (.int (nI (F 149 4 - 1)))) := jD.rf.uf (by decide)
    generalize jx_uf h 149 4 (.int (nI (F 149 4 - 1))) = h2 at hR2 hD2 ⊢
    have e4 : jup F 149 4 (F 149 4 - 1) 149 4 = F 149 4 - 1 := jup_same
    simp (disch := omega) only [s137_0, s137_1, s137_4, s137_7, s137_8, s137_10, s137_13, s137_14, s137_15i, s137_15r, s137_16, s137_19, s137_20, s137_21, s137_24, s137_25, s137_26, s137_29, s137_31, s137_32, s137_35, s137_36, s137_39, s137_40, s137_43, Option.some.injEq, exists_eq_left', exists_eq_left, List.cons_append, List.nil_append, List.length_nil, List.length_cons, Nat.reduceAdd, Nat.reduceMul, Nat.reduceSub, Nat.reduceLeDiff, true_and, and_true, ↓reduceIte, not_false_eq_true, not_true_eq_false, nI_add, pk_mul, jn_ltT, jn_ltF, jn_leT, jn_leF, jn_eqT, jn_eqF, jn_lt0, jn_ge0, jn_eq0T, jn_eq0F, jn_in, jn_cl, jh_ai_wi, jh_ai_wi_ne, jh_ai_uf, jh_fl_wi_ne, jh_fl_uf_ne, jh_fl_uf_o, jh_cl_wi_ne, jh_cl_uf, jh_al_wi_ne, jh_al_uf, jh_al_wl, jh_al_wl_ne, jh_ai_wl_ne, jh_fl_wl_ne, jh_cl_wl_ne, jh_ar_wi_ne, jh_ar_uf, jh_ar_wl_ne, jh_1_wi, jh_1_uf, jh_1_wl, jf_149_4 hR2, jf_149_5 hR2, jc_of_149 hR2, e4]
    refine md_load hR2 rfl (by omega) (by decide) (by decide) (by decide) (e0 (by omega)) (e1 (by omega)) (fun h' hR3 hD3 => ?_)
    have e5 : jup (jup (jup (jup F 149 4 (F 149 4 - 1)) 149 0 R) 149 1 C) 149 14 0 149 4 = F 149 4 - 1 := by simp [jup]
    simp (disch := omega) only [s137_0, s137_1, s137_4, s137_7, s137_8, s137_10, s137_13, s137_14, s137_15i, s137_15r, s137_16, s137_19, s137_20, s137_21, s137_24, s137_25, s137_26, s137_29, s137_31, s137_32, s137_35, s137_36, s137_39, s137_40, s137_43, Option.some.injEq, exists_eq_left', exists_eq_left, List.cons_append, List.nil_append, List.length_nil, List.length_cons, Nat.reduceAdd, Nat.reduceMul, Nat.reduceSub, Nat.reduceLeDiff, true_and, and_true, ↓reduceIte, not_false_eq_true, not_true_eq_false, nI_add, pk_mul, jn_ltT, jn_ltF, jn_leT, jn_leF, jn_eqT, jn_eqF, jn_lt0, jn_ge0, jn_eq0T, jn_eq0F, jn_in, jn_cl, jh_ai_wi, jh_ai_wi_ne, jh_ai_uf, jh_fl_wi_ne, jh_fl_uf_ne, jh_fl_uf_o, jh_cl_wi_ne, jh_cl_uf, jh_al_wi_ne, jh_al_uf, jh_al_wl, jh_al_wl_ne, jh_ai_wl_ne, jh_fl_wl_ne, jh_cl_wl_ne, jh_ar_wi_ne, jh_ar_uf, jh_ar_wl_ne, jh_1_wi, jh_1_uf, jh_1_wl, jf_149_4 hR3, e5]
    exact k1 (by omega) h' hR3 (hD2.tr hD3)
end MD2
