/-! ===== the class: slots ===== -/
section CL30
variable {d : Nat} {F : Nat → Nat → Nat} {A : Nat → Nat → Int32} {G : Nat → Option Nat} {g : Nat → Int64} {h : jxH} {Q : List Value → jxH → Prop}
theorem jh_mk_ne {n b : Nat} {x : jxC} (hb : b ≠ h.1) : (jx_mk h n x).2.2 b = h.2.2 b := by
  unfold jx_mk
  exact if_neg hb
theorem jh_mk_eq {n : Nat} {x : jxC} : (jx_mk h n x).2.2 h.1 = x := by
  unfold jx_mk
  exact if_pos rfl
/-- the cells of two heaps are the same at b -/
theorem jTk.eq {h' : jxH} {o p w R C : Nat} {f v : Nat → Int32} (t : jTk h o p w R C f v) (eo : h'.2.2 o = h.2.2 o) (ep : h'.2.2 p = h.2.2 p) (ew : h'.2.2 w = h.2.2 w) : jTk h' o p w R C f v := by
  obtain ⟨t1, t2, t3, t4, t5, t6, t7⟩ := t
  refine ⟨?_, ?_, ?_, ?_, ?_, ?_, ?_⟩
  · unfold jx_cl at t1 ⊢; rw [eo]; exact t1
  · unfold jx_fl at t2 ⊢; rw [eo]; exact t2
  · unfold jx_fl at t3 ⊢; rw [eo]; exact t3
  · unfold jx_fl at t4 ⊢; rw [eo]; exact t4
  · unfold jx_fl at t5 ⊢; rw [eo]; exact t5
  · unfold jx_ai at t6 ⊢; rw [ep]; exact t6
  · unfold jx_ai at t7 ⊢; rw [ew]; exact t7
theorem jh_fl_eq {h' : jxH} {o c k : Nat} (eo : h'.2.2 o = h.2.2 o) : jx_fl h' o c k = jx_fl h o c k := by
  unfold jx_fl; rw [eo]
theorem jh_cl_eq {h' : jxH} {o : Nat} (eo : h'.2.2 o = h.2.2 o) : jx_cl h' o = jx_cl h o := by
  unfold jx_cl; rw [eo]
theorem jh_ai_eq {h' : jxH} {o : Nat} (eo : h'.2.2 o = h.2.2 o) : jx_ai h' o = jx_ai h o := by
  unfold jx_ai; rw [eo]
theorem jR.g5 {h' : jxH} {G' : Nat → Option Nat} (hR : jR F A G g h) (e : ∀ i, i < 182 → i ≠ 5 → h'.2.2 i = h.2.2 i) (e5 : jx_ar h' 5 2 = some (4, G')) : jR F A G' g h' := by
  obtain ⟨a1, a2, a3, a4, a5⟩ := hR
  refine ⟨fun o c k hc => ?_, fun a n ha => ?_, fun a t n r ha => ?_, e5, ?_⟩
  · have ho := jcl_lt o c hc
    have hne : o ≠ 5 := (jcl_ln o ho (by rw [hc]; rfl)).2.1
    rw [jh_fl_eq (h := h) (h' := h') (e o ho hne)]
    exact a1 o c k hc
  · have ha' := jln_lt a n ha
    have hne : a ≠ 5 := (jln_ne a ha' (by rw [ha]; rfl)).2.1
    rw [jh_ai_eq (h := h) (h' := h') (e a ha' hne)]
    exact a2 a n ha
  · obtain ⟨r', b1, b2⟩ := a3 a t n r ha
    refine ⟨r', ?_, b2⟩
    have hne : a ≠ 5 ∧ a < 182 := by
      unfold jrf at ha
      split at ha <;> first | (constructor <;> omega) | cases ha
    unfold jx_ar at b1 ⊢
    rw [e a hne.2 hne.1]
    exact b1
  · unfold jx_al at a5 ⊢
    rw [e 171 (by decide) (by decide)]
    exact a5
/-- a new task -/
theorem tk_new (k : ∀ h' f w, (∀ j, j < 25 → w j = nI 1) → jTk h' h.1 (h.1 + 1) (h.1 + 2) 1 1 f w → (∀ i, i < h.1 → h'.2.2 i = h.2.2 i) → h'.1 = h.1 + 3 → h'.2.1 = h.2.1 + 54 → Q [] h') : jx_Go jxP (d + 1) 67 0 [.ref h.1] [] (jx_mk h 4 (.inr (10, [.int 0, .int 0, .null, .null]))) Q := by
  generalize e1 : jx_mk h 4 (.inr (10, [.int 0, .int 0, .null, .null])) = h1
  have o1 : h1.2.2 h.1 = .inr (10, [.int 0, .int 0, .null, .null]) := by rw [← e1]; exact jh_mk_eq
  have c1 : h1.1 = h.1 + 1 := by rw [← e1]; rfl
  have l1 : h1.2.1 = h.2.1 + 4 := by rw [← e1]; rfl
  have f1 : ∀ i, i ≠ h.1 → h1.2.2 i = h.2.2 i := fun i hi => by rw [← e1]; exact jh_mk_ne hi
  have g0 : jx_fl h1 h.1 10 0 = some (.int 0) := by unfold jx_fl; rw [o1]; rfl
  have g1 : jx_fl h1 h.1 10 1 = some (.int 0) := by unfold jx_fl; rw [o1]; rfl
  have g2 : jx_fl h1 h.1 10 2 = some .null := by unfold jx_fl; rw [o1]; rfl
  have g3 : jx_fl h1 h.1 10 3 = some .null := by unfold jx_fl; rw [o1]; rfl
  rw [s67_0, s67_1]
  simp (disch := first | omega | decide) only [s67_4, s67_5, s67_6, s67_9, s67_10, s67_11, s67_14, s67_15, Option.some.injEq, exists_eq_left', exists_eq_left, List.cons_append, List.nil_append, List.length_nil, List.length_cons, Nat.reduceAdd, Nat.reduceMul, Nat.reduceSub, Nat.reduceLeDiff, true_and, and_true, ↓reduceIte, not_false_eq_true, not_true_eq_false, nI_add, pk_mul, jn_ltT, jn_ltF, jn_leT, jn_leF, jn_eqT, jn_eqF, jn_lt0, jn_ge0, jn_eq0T, jn_eq0F, jn_in, jn_cl, jh_ai_wi, jh_ai_wi_ne, jh_ai_uf, jh_fl_wi_ne, jh_fl_uf_ne, jh_fl_uf_o, jh_cl_wi_ne, jh_cl_uf, jh_al_wi_ne, jh_al_uf, jh_al_wl, jh_al_wl_ne, jh_ai_wl_ne, jh_fl_wl_ne, jh_cl_wl_ne, jh_ar_wi_ne, jh_ar_uf, jh_ar_wl_ne, jh_1_wi, jh_1_uf, jh_1_wl, g0, g1]
  generalize e2 : jx_uf (jx_uf h1 h.1 0 (.int (nI 1))) h.1 1 (.int (nI 1)) = h2
  have c2 : h2.1 = h.1 + 1 := by rw [← e2]; exact c1
  have l2 : h2.2.1 = h.2.1 + 4 := by rw [← e2]; exact l1
  have f2 : ∀ i, i ≠ h.1 → h2.2.2 i = h.2.2 i := fun i hi => by rw [← e2, jh_uf_ne hi, jh_uf_ne hi]; exact f1 i hi
  have k0 : jx_fl h2 h.1 10 0 = some (.int (nI 1)) := by rw [← e2, jh_fl_uf_ne (by decide), jh_fl_uf (by rw [g0]; rfl)]
  have k1 : jx_fl h2 h.1 10 1 = some (.int (nI 1)) := by rw [← e2, jh_fl_uf (by rw [jh_fl_uf_ne (by decide), g1]; rfl)]
  have k2 : jx_fl h2 h.1 10 2 = some .null := by rw [← e2, jh_fl_uf_ne (by decide), jh_fl_uf_ne (by decide), g2]
  have k3 : jx_fl h2 h.1 10 3 = some .null := by rw [← e2, jh_fl_uf_ne (by decide), jh_fl_uf_ne (by decide), g3]
  rw [s67_17]
  generalize e3 : jx_mk h2 25 (.inl (0, 25, .inl (fun _ => 0))) = h3
  have c3 : h3.1 = h.1 + 2 := by rw [← e3]; show h2.1 + 1 = _; omega
  have l3 : h3.2.1 = h.2.1 + 29 := by rw [← e3]; show h2.2.1 + 25 = _; omega
  have f3 : ∀ i, i ≠ h.1 + 1 → h3.2.2 i = h2.2.2 i := fun i hi => by rw [← e3]; exact jh_mk_ne (by rw [c2]; exact hi)
  have a3 : h3.2.2 (h.1 + 1) = .inl (0, 25, .inl (fun _ => 0)) := by
    have := jh_mk_eq (h := h2) (n := 25) (x := .inl (0, 25, .inl (fun _ => 0)))
    rw [e3, c2] at this
    exact this
  have q : ∀ k, jx_fl h3 h.1 10 k = jx_fl h2 h.1 10 k := fun k => jh_fl_eq (f3 h.1 (by omega))
  rw [c2]
  simp (disch := first | omega | decide) only [s67_19, s67_22, s67_23, Option.some.injEq, exists_eq_left', exists_eq_left, List.cons_append, List.nil_append, List.length_nil, List.length_cons, Nat.reduceAdd, Nat.reduceMul, Nat.reduceSub, Nat.reduceLeDiff, true_and, and_true, ↓reduceIte, not_false_eq_true, not_true_eq_false, nI_add, pk_mul, jn_ltT, jn_ltF, jn_leT, jn_leF, jn_eqT, jn_eqF, jn_lt0, jn_ge0, jn_eq0T, jn_eq0F, jn_in, jn_cl, q, k2]
  generalize e4 : jx_uf h3 h.1 2 (.ref (h.1 + 1)) = h4
  have c4 : h4.1 = h.1 + 2 := by rw [← e4]; exact c3
  have l4 : h4.2.1 = h.2.1 + 29 := by rw [← e4]; exact l3
  have f4 : ∀ i, i ≠ h.1 → h4.2.2 i = h3.2.2 i := fun i hi => by rw [← e4, jh_uf_ne hi]
  have m0 : jx_fl h4 h.1 10 0 = some (.int (nI 1)) := by rw [← e4, jh_fl_uf_ne (by decide), q, k0]
  have m1 : jx_fl h4 h.1 10 1 = some (.int (nI 1)) := by rw [← e4, jh_fl_uf_ne (by decide), q, k1]
  have m2 : jx_fl h4 h.1 10 2 = some (.ref (h.1 + 1)) := by rw [← e4, jh_fl_uf (by rw [q, k2]; rfl)]
  have m3 : jx_fl h4 h.1 10 3 = some .null := by rw [← e4, jh_fl_uf_ne (by decide), q, k3]
  rw [s67_25]
  generalize e5 : jx_mk h4 25 (.inl (0, 25, .inl (fun _ => 0))) = h5
  have c5 : h5.1 = h.1 + 3 := by rw [← e5]; show h4.1 + 1 = _; omega
  have l5 : h5.2.1 = h.2.1 + 54 := by rw [← e5]; show h4.2.1 + 25 = _; omega
  have f5 : ∀ i, i ≠ h.1 + 2 → h5.2.2 i = h4.2.2 i := fun i hi => by rw [← e5]; exact jh_mk_ne (by rw [c4]; exact hi)
  have a5 : h5.2.2 (h.1 + 2) = .inl (0, 25, .inl (fun _ => 0)) := by
    have := jh_mk_eq (h := h4) (n := 25) (x := .inl (0, 25, .inl (fun _ => 0)))
    rw [e5, c4] at this
    exact this
  have q5 : ∀ k, jx_fl h5 h.1 10 k = jx_fl h4 h.1 10 k := fun k => jh_fl_eq (f5 h.1 (by omega))
  have n3 : jx_fl (jx_uf h5 h.1 3 (.ref (h.1 + 2))) h.1 10 3 = some (.ref (h.1 + 2)) := jh_fl_uf (by rw [q5, m3]; rfl)
  rw [c4]
  simp (disch := first | omega | decide) only [s67_27, s67_30, s67_31, s67_34, Option.some.injEq, exists_eq_left', exists_eq_left, List.cons_append, List.nil_append, List.length_nil, List.length_cons, Nat.reduceAdd, Nat.reduceMul, Nat.reduceSub, Nat.reduceLeDiff, true_and, and_true, ↓reduceIte, not_false_eq_true, not_true_eq_false, nI_add, pk_mul, jn_ltT, jn_ltF, jn_leT, jn_leF, jn_eqT, jn_eqF, jn_lt0, jn_ge0, jn_eq0T, jn_eq0F, jn_in, jn_cl, q5, m3, n3]
  generalize e6 : jx_uf h5 h.1 3 (.ref (h.1 + 2)) = h6 at n3 ⊢
  have c6 : h6.1 = h.1 + 3 := by rw [← e6]; exact c5
  have l6 : h6.2.1 = h.2.1 + 54 := by rw [← e6]; exact l5
  have f6 : ∀ i, i ≠ h.1 → h6.2.2 i = h5.2.2 i := fun i hi => by rw [← e6, jh_uf_ne hi]
  have ai6 : jx_ai h6 (h.1 + 2) = some (25, fun _ => 0) := by unfold jx_ai; rw [f6 _ (by omega), a5]; rfl
  have ai5 : jx_ai h6 (h.1 + 1) = some (25, fun _ => 0) := by unfold jx_ai; rw [f6 _ (by omega), f5 _ (by omega), f4 _ (by omega), a3]; rfl
  simp (disch := omega) only [s67_35, Option.some.injEq, exists_eq_left', exists_eq_left, List.cons_append, List.nil_append, List.length_nil, List.length_cons, Nat.reduceAdd, Nat.reduceMul, Nat.reduceSub, Nat.reduceLeDiff, true_and, and_true, ↓reduceIte, not_false_eq_true, not_true_eq_false, nI_add, pk_mul, jn_ltT, jn_ltF, jn_leT, jn_leF, jn_eqT, jn_eqF, jn_lt0, jn_ge0, jn_eq0T, jn_eq0F, jn_in, jn_cl]
  refine ar_fill ai6 (by omega) (fun w hw => ?_)
  simp (disch := omega) only [s67_38, Option.some.injEq, exists_eq_left', exists_eq_left, List.cons_append, List.nil_append, List.length_nil, List.length_cons, Nat.reduceAdd, Nat.reduceMul, Nat.reduceSub, Nat.reduceLeDiff, true_and, and_true, ↓reduceIte, not_false_eq_true, not_true_eq_false, nI_add, pk_mul, jn_ltT, jn_ltF, jn_leT, jn_leF, jn_eqT, jn_eqF, jn_lt0, jn_ge0, jn_eq0T, jn_eq0F, jn_in, jn_cl]
  have r : ∀ k, k ≠ 3 → jx_fl h6 h.1 10 k = jx_fl h4 h.1 10 k := fun k hk => by rw [← e6, jh_fl_uf_ne hk, q5]
  refine k _ (fun _ => 0) w hw ⟨?_, ?_, ?_, ?_, ?_, ?_, jh_ai_wi⟩ (fun i hi => ?_) c6 l6
  · rw [jh_cl_wi_ne (by omega)]; exact jh_cl_fl n3
  · rw [jh_fl_wi_ne (by omega), r 0 (by decide)]; exact m0
  · rw [jh_fl_wi_ne (by omega), r 1 (by decide)]; exact m1
  · rw [jh_fl_wi_ne (by omega), r 2 (by decide)]; exact m2
  · rw [jh_fl_wi_ne (by omega)]; exact n3
  · rw [jh_ai_wi_ne (by omega)]; exact ai5
  · show (jx_w h6 (h.1 + 2) _).2.2 i = _
    rw [jh_w_ne (by omega), f6 i (by omega), f5 i (by omega), f4 i (by omega), f3 i (by omega), f2 i (by omega)]
end CL30
