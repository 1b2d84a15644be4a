/-! ===== the class: scales ===== -/
section CL10
variable {d : Nat} {F : Nat → Nat → Nat} {A : Nat → Nat → Int32} {G : Nat → Option Nat} {g : Nat → Int64} {h : jxH} {Q : List Value → jxH → Prop}

theorem sc_try32 (hR : jR F A G g h) (hP : jPa A) {B X c : Nat} (hX : X < 32) (hB : B < 1024) (hXB : X * 32 ≤ B) {tl : Nat → Nat} (ht : ∀ s, s < 32 → jpt X s = true → (A 135 (B - s * 32) = nI (tl (B - s * 32)) ∧ tl (B - s * 32) ≤ 25000) ∧ (A 135 (B - (X - s) * 32) = nI (tl (B - (X - s) * 32)) ∧ tl (B - (X - s) * 32) ≤ 25000)) (ec : A 135 B = nI c) (hc : c ≤ 25000) (k : ∀ h' m, jMin m c (jpt X) (fun s => tl (B - s * 32) + tl (B - (X - s) * 32)) → jR F (jua A 135 (upd (A 135) B (nI m))) G g h' → jD h h' → Q [] h') : jx_Go jxP d 43 0 [.ref 132, .int (nI B), .int (nI X), .int (nI 32), jx_u, jx_u, jx_u, jx_u] [] h Q := by
  obtain ⟨q1, q2⟩ := jpF_le X hX
  have a0 := hP.1 X (by omega)
  have a1 := hP.1 (X + 1) (by omega)
  simp (disch := omega) only [s43_0, s43_1, s43_4, s43_5, s43_6, s43_8, s43_9, s43_12, s43_15, s43_16, s43_17, Option.some.injEq, exists_eq_left', exists_eq_left, List.cons_append, List.nil_append, List.length_nil, List.length_cons, Nat.reduceAdd, Nat.reduceMul, Nat.reduceSub, Nat.reduceLeDiff, true_and, and_true, ↓reduceIte, not_false_eq_true, not_true_eq_false, nI_add, pk_mul, jn_ltT, jn_ltF, jn_leT, jn_leF, jn_eqT, jn_eqF, jn_lt0, jn_ge0, jn_eq0T, jn_eq0F, jn_in, jn_cl, jf_132_2 hR, jf_132_5 hR, jf_125_0 hR, ja_126 hR, ja_135 hR, ec, a0]
  refine jloop (fun p => jpF X ≤ p → ∀ m w6 w7, jMinP m c X p (fun s => tl (B - s * 32) + tl (B - (X - s) * 32)) → jx_Go jxP d 43 19 [.ref 132, .int (nI B), .int (nI X), .int (nI 32), .int (nI m), .int (nI p), w6, w7] [] h Q) (jpF (X + 1)) ?_ ?_ (jpF X) q1 (Nat.le_refl _) c _ _ jMinP.z
  · intro _ m w6 w7 hm
    rw [s43_19]
    simp (disch := first | omega | decide) only [s43_21, s43_22, s43_25, s43_28, s43_29, s43_30, s43_31, s43_32, s43_97, s43_98, s43_101, s43_102, s43_104, s43_105, Option.some.injEq, exists_eq_left', exists_eq_left, List.cons_append, List.nil_append, List.length_nil, List.length_cons, Nat.reduceAdd, Nat.reduceMul, Nat.reduceSub, Nat.reduceLeDiff, true_and, and_true, ↓reduceIte, not_false_eq_true, not_true_eq_false, nI_add, pk_mul, jn_ltT, jn_ltF, jn_leT, jn_leF, jn_eqT, jn_eqF, jn_lt0, jn_ge0, jn_eq0T, jn_eq0F, jn_in, jn_cl, jh_ai_wi, jh_ai_wi_ne, jh_ai_uf, jh_fl_wi_ne, jh_fl_uf_ne, jh_fl_uf_o, jh_cl_wi_ne, jh_cl_uf, jh_al_wi_ne, jh_al_uf, jh_al_wl, jh_al_wl_ne, jh_ai_wl_ne, jh_fl_wl_ne, jh_cl_wl_ne, jh_ar_wi_ne, jh_ar_uf, jh_ar_wl_ne, jh_1_wi, jh_1_uf, jh_1_wl, jf_132_2 hR, jf_132_5 hR, jf_125_0 hR, ja_126 hR, ja_135 hR, a1]
    exact k _ m (hm.fin hX) (hR.wi (a := 135) rfl) (jD.rf.wi (by decide))
  · intro p hp ih pX m w6 w7 hm
    obtain ⟨s1, s2⟩ := jpS_ok X hX p (by omega) pX hp
    have s3 := jpt_lt X hX _ s1 s2
    have as := hP.2 p (by omega)
    obtain ⟨⟨t1, t2⟩, t5, t6⟩ := ht _ s1 s2
    have hm1 := hm.1
    have hm2 := hm.s (x := tl (B - jpS p * 32) + tl (B - (X - jpS p) * 32)) pX rfl
    generalize jpS p = s at *
    rw [s43_19]
    simp (disch := omega) only [s43_21, s43_22, s43_25, s43_28, s43_29, s43_30, s43_31, s43_32, s43_35, s43_36, s43_37, s43_40, s43_43, s43_45, s43_46, s43_47, s43_48, s43_49, s43_51, s43_52, s43_53, s43_54, s43_57, s43_60, s43_62, s43_63, s43_64, s43_65, s43_66, s43_67, s43_69, s43_71, s43_72, s43_75, s43_77, s43_78, s43_79, s43_82, s43_84, s43_85, s43_86, s43_89, s43_91, s43_94, Option.some.injEq, exists_eq_left', exists_eq_left, List.cons_append, List.nil_append, List.length_nil, List.length_cons, Nat.reduceAdd, Nat.reduceMul, Nat.reduceSub, Nat.reduceLeDiff, true_and, and_true, ↓reduceIte, not_false_eq_true, not_true_eq_false, nI_add, pk_mul, jn_ltT, jn_ltF, jn_leT, jn_leF, jn_eqT, jn_eqF, jn_lt0, jn_ge0, jn_eq0T, jn_eq0F, jn_in, jn_cl, jf_132_2 hR, jf_132_5 hR, jf_125_0 hR, jf_125_1 hR, ja_126 hR, ja_127 hR, ja_135 hR, a1, as, jn_sub, t1, t5, jmin2]
    exact ih (by omega) _ _ _ hm2

theorem sc_try1 (hR : jR F A G g h) (hP : jPa A) {B X c : Nat} (hX : X < 32) (hB : B < 1024) (hXB : X * 1 ≤ B) {tl : Nat → Nat} (ht : ∀ s, s < 32 → jpt X s = true → (A 135 (B - s * 1) = nI (tl (B - s * 1)) ∧ tl (B - s * 1) ≤ 25000) ∧ (A 135 (B - (X - s) * 1) = nI (tl (B - (X - s) * 1)) ∧ tl (B - (X - s) * 1) ≤ 25000)) (ec : A 135 B = nI c) (hc : c ≤ 25000) (k : ∀ h' m, jMin m c (jpt X) (fun s => tl (B - s * 1) + tl (B - (X - s) * 1)) → jR F (jua A 135 (upd (A 135) B (nI m))) G g h' → jD h h' → Q [] h') : jx_Go jxP d 43 0 [.ref 132, .int (nI B), .int (nI X), .int (nI 1), jx_u, jx_u, jx_u, jx_u] [] h Q := by
  obtain ⟨q1, q2⟩ := jpF_le X hX
  have a0 := hP.1 X (by omega)
  have a1 := hP.1 (X + 1) (by omega)
  simp (disch := omega) only [s43_0, s43_1, s43_4, s43_5, s43_6, s43_8, s43_9, s43_12, s43_15, s43_16, s43_17, Option.some.injEq, exists_eq_left', exists_eq_left, List.cons_append, List.nil_append, List.length_nil, List.length_cons, Nat.reduceAdd, Nat.reduceMul, Nat.reduceSub, Nat.reduceLeDiff, true_and, and_true, ↓reduceIte, not_false_eq_true, not_true_eq_false, nI_add, pk_mul, jn_ltT, jn_ltF, jn_leT, jn_leF, jn_eqT, jn_eqF, jn_lt0, jn_ge0, jn_eq0T, jn_eq0F, jn_in, jn_cl, jf_132_2 hR, jf_132_5 hR, jf_125_0 hR, ja_126 hR, ja_135 hR, ec, a0]
  refine jloop (fun p => jpF X ≤ p → ∀ m w6 w7, jMinP m c X p (fun s => tl (B - s * 1) + tl (B - (X - s) * 1)) → jx_Go jxP d 43 19 [.ref 132, .int (nI B), .int (nI X), .int (nI 1), .int (nI m), .int (nI p), w6, w7] [] h Q) (jpF (X + 1)) ?_ ?_ (jpF X) q1 (Nat.le_refl _) c _ _ jMinP.z
  · intro _ m w6 w7 hm
    rw [s43_19]
    simp (disch := first | omega | decide) only [s43_21, s43_22, s43_25, s43_28, s43_29, s43_30, s43_31, s43_32, s43_97, s43_98, s43_101, s43_102, s43_104, s43_105, Option.some.injEq, exists_eq_left', exists_eq_left, List.cons_append, List.nil_append, List.length_nil, List.length_cons, Nat.reduceAdd, Nat.reduceMul, Nat.reduceSub, Nat.reduceLeDiff, true_and, and_true, ↓reduceIte, not_false_eq_true, not_true_eq_false, nI_add, pk_mul, jn_ltT, jn_ltF, jn_leT, jn_leF, jn_eqT, jn_eqF, jn_lt0, jn_ge0, jn_eq0T, jn_eq0F, jn_in, jn_cl, jh_ai_wi, jh_ai_wi_ne, jh_ai_uf, jh_fl_wi_ne, jh_fl_uf_ne, jh_fl_uf_o, jh_cl_wi_ne, jh_cl_uf, jh_al_wi_ne, jh_al_uf, jh_al_wl, jh_al_wl_ne, jh_ai_wl_ne, jh_fl_wl_ne, jh_cl_wl_ne, jh_ar_wi_ne, jh_ar_uf, jh_ar_wl_ne, jh_1_wi, jh_1_uf, jh_1_wl, jf_132_2 hR, jf_132_5 hR, jf_125_0 hR, ja_126 hR, ja_135 hR, a1]
    exact k _ m (hm.fin hX) (hR.wi (a := 135) rfl) (jD.rf.wi (by decide))
  · intro p hp ih pX m w6 w7 hm
    obtain ⟨s1, s2⟩ := jpS_ok X hX p (by omega) pX hp
    have s3 := jpt_lt X hX _ s1 s2
    have as := hP.2 p (by omega)
    obtain ⟨⟨t1, t2⟩, t5, t6⟩ := ht _ s1 s2
    have hm1 := hm.1
    have hm2 := hm.s (x := tl (B - jpS p * 1) + tl (B - (X - jpS p) * 1)) pX rfl
    generalize jpS p = s at *
    rw [s43_19]
    simp (disch := omega) only [s43_21, s43_22, s43_25, s43_28, s43_29, s43_30, s43_31, s43_32, s43_35, s43_36, s43_37, s43_40, s43_43, s43_45, s43_46, s43_47, s43_48, s43_49, s43_51, s43_52, s43_53, s43_54, s43_57, s43_60, s43_62, s43_63, s43_64, s43_65, s43_66, s43_67, s43_69, s43_71, s43_72, s43_75, s43_77, s43_78, s43_79, s43_82, s43_84, s43_85, s43_86, s43_89, s43_91, s43_94, Option.some.injEq, exists_eq_left', exists_eq_left, List.cons_append, List.nil_append, List.length_nil, List.length_cons, Nat.reduceAdd, Nat.reduceMul, Nat.reduceSub, Nat.reduceLeDiff, true_and, and_true, ↓reduceIte, not_false_eq_true, not_true_eq_false, nI_add, pk_mul, jn_ltT, jn_ltF, jn_leT, jn_leF, jn_eqT, jn_eqF, jn_lt0, jn_ge0, jn_eq0T, jn_eq0F, jn_in, jn_cl, jf_132_2 hR, jf_132_5 hR, jf_125_0 hR, jf_125_1 hR, ja_126 hR, ja_127 hR, ja_135 hR, a1, as, jn_sub, t1, t5, jmin2]
    exact ih (by omega) _ _ _ hm2

theorem jsum_add {n : Nat} {f g' : Nat → Nat} : jsum n (fun i => f i + g' i) = jsum n f + jsum n g' := by
  induction n with
  | zero => rfl
  | succ n ih => rw [jsum_s, jsum_s, jsum_s, ih]; omega
theorem jsum_one {n i : Nat} {f : Nat → Nat} (hi : i < n) (h0 : ∀ j, j < n → j ≠ i → f j = 0) : jsum n f = f i := by
  induction n with
  | zero => omega
  | succ n ih =>
    rw [jsum_s]
    rcases (show i < n ∨ i = n by omega) with w | w
    · rw [ih w (fun j hj ne => h0 j (by omega) ne), h0 n (by omega) (by omega)]; rfl
    · subst w
      have : jsum i f = 0 := by
        have z : ∀ m, m ≤ i → jsum m f = 0 := by
          intro m
          induction m with
          | zero => intro _; rfl
          | succ m ihm => intro hm; rw [jsum_s, ihm (by omega), h0 m (by omega) (by omega)]
        exact z i (Nat.le_refl _)
      omega
theorem jwo_rows {v : Nat → Int32} {W : Nat → Nat} {R C x y a b : Nat} {u : Int32} (hy : y < 32) (e : ∀ r, r < R → x.testBit r = (a.testBit r || b.testBit r)) (ne : ∀ r, r < R → (a.testBit r && b.testBit r) = false) : jwo v W R C (32 * x + y) u = jwo v W R C (32 * a + y) u + jwo v W R C (32 * b + y) u := by
  unfold jwo
  rw [← jsum_add]
  refine jsum_congr (fun r hr => ?_)
  rw [← jsum_add]
  refine jsum_congr (fun c hc => ?_)
  rw [show (32 * x + y) / 32 = x by omega, show (32 * x + y) % 32 = y by omega, show (32 * a + y) / 32 = a by omega, show (32 * a + y) % 32 = y by omega, show (32 * b + y) / 32 = b by omega, show (32 * b + y) % 32 = y by omega, e r hr]
  have := ne r hr
  revert this
  cases a.testBit r <;> cases b.testBit r <;> simp
theorem jwo_cols {v : Nat → Int32} {W : Nat → Nat} {R C x y a b : Nat} {u : Int32} (hy : y < 32) (ha : a < 32) (hb : b < 32) (e : ∀ r, r < C → y.testBit r = (a.testBit r || b.testBit r)) (ne : ∀ r, r < C → (a.testBit r && b.testBit r) = false) : jwo v W R C (32 * x + y) u = jwo v W R C (32 * x + a) u + jwo v W R C (32 * x + b) u := by
  unfold jwo
  rw [← jsum_add]
  refine jsum_congr (fun r hr => ?_)
  rw [← jsum_add]
  refine jsum_congr (fun c hc => ?_)
  rw [show (32 * x + y) / 32 = x by omega, show (32 * x + y) % 32 = y by omega, show (32 * x + a) / 32 = x by omega, show (32 * x + a) % 32 = a by omega, show (32 * x + b) / 32 = x by omega, show (32 * x + b) % 32 = b by omega, e c hc]
  have := ne c hc
  revert this
  cases a.testBit c <;> cases b.testBit c <;> simp
theorem jwo_one {v : Nat → Int32} {W : Nat → Nat} {R C i j : Nat} {u : Int32} (hi : i < R) (hj : j < C) (hC : C ≤ 5) : jwo v W R C (32 * 2 ^ i + 2 ^ j) u = if v (5 * i + j) = u then W (5 * i + j) else 0 := by
  have pj : 2 ^ j < 32 := Nat.lt_of_lt_of_le (Nat.pow_lt_pow_right (by decide) hj) (jp2 _ hC).2
  have pj0 := Nat.two_pow_pos j
  unfold jwo
  rw [show (32 * 2 ^ i + 2 ^ j) / 32 = 2 ^ i by omega, show (32 * 2 ^ i + 2 ^ j) % 32 = 2 ^ j by omega]
  rw [jsum_one hi (fun r _ ne => ?_), jsum_one hj (fun c _ ne => ?_)]
  · rw [Nat.testBit_two_pow_self, Nat.testBit_two_pow_self]
    simp
  · rw [Nat.testBit_two_pow (n := j), decide_eq_false (fun w => ne w.symm)]
    simp
  · have z : ∀ m, jsum m (fun c => if (2 ^ i).testBit r = true ∧ (2 ^ j).testBit c = true ∧ v (5 * r + c) = u then W (5 * r + c) else 0) = 0 := by
      intro m
      induction m with
      | zero => rfl
      | succ m ih =>
        rw [jsum_s, ih, Nat.testBit_two_pow (n := i), decide_eq_false (fun w => ne w.symm)]
        simp
    exact z C
theorem jlow6 : ∀ x, x < 32 → 1 ≤ x → x ≠ 2 ^ jlo x → ∀ r, r < 5 → ((2 ^ jlo x).testBit r && (x - 2 ^ jlo x).testBit r) = false := by decide +kernel
theorem sc_addUp (hR : jR F A G g h) {B B1 B2 a1 a2 b1 b2 : Nat} (hB : B < 1024) (h1 : B1 < 1024) (h2 : B2 < 1024) (n1 : B1 ≠ B) (n2 : B2 ≠ B) (e1 : A 133 B1 = nI a1) (e2 : A 133 B2 = nI a2) (e3 : A 134 B1 = nI b1) (e4 : A 134 B2 = nI b2) (k : ∀ h', jR F (jua (jua A 133 (upd (A 133) B (nI (a1 + a2)))) 134 (upd (A 134) B (nI (b1 + b2)))) G g h' → jD h h' → Q [] h') : jx_Go jxP d 41 0 [.ref 132, .int (nI B), .int (nI B1), .int (nI B2)] [] h Q := by
  simp (disch := first | omega | decide) only [s41_0, s41_1, s41_4, s41_5, s41_6, s41_9, s41_10, s41_11, s41_12, s41_15, s41_16, s41_17, s41_18, s41_19, s41_20, s41_23, s41_24, s41_25, s41_28, s41_29, s41_30, s41_31, s41_34, s41_35, s41_36, s41_37, s41_38, Option.some.injEq, exists_eq_left', exists_eq_left, List.cons_append, List.nil_append, List.length_nil, List.length_cons, Nat.reduceAdd, Nat.reduceMul, Nat.reduceSub, Nat.reduceLeDiff, true_and, and_true, ↓reduceIte, not_false_eq_true, not_true_eq_false, nI_add, pk_mul, jn_ltT, jn_ltF, jn_leT, jn_leF, jn_eqT, jn_eqF, jn_lt0, jn_ge0, jn_eq0T, jn_eq0F, jn_in, jn_cl, jh_ai_wi, jh_ai_wi_ne, jh_ai_uf, jh_fl_wi_ne, jh_fl_uf_ne, jh_fl_uf_o, jh_cl_wi_ne, jh_cl_uf, jh_al_wi_ne, jh_al_uf, jh_al_wl, jh_al_wl_ne, jh_ai_wl_ne, jh_fl_wl_ne, jh_cl_wl_ne, jh_ar_wi_ne, jh_ar_uf, jh_ar_wl_ne, jh_1_wi, jh_1_uf, jh_1_wl, jf_132_3 hR, jf_132_4 hR, ja_133 hR, ja_134 hR, e1, e2, e3, e4]
  exact k _ ((hR.wi (a := 133) rfl).wi (a := 134) rfl) ((jD.rf.wi (by decide)).wi (by decide))
theorem jua_abc {f e : Nat → Int32} : jua (jua A 133 f) 134 e 133 = f ∧ jua (jua A 133 f) 134 e 134 = e ∧ jua (jua A 133 f) 134 e 135 = A 135 := ⟨by rw [jua_ne (by decide), jua_same], jua_same, by rw [jua_ne (by decide), jua_ne (by decide)]⟩
/-- one block is weighed -/
theorem sc_weighBlock (hR : jR F A G g h) (hr : F 2 0 ≤ 5) (hc : F 2 1 ≤ 5) {W : Nat → Nat} (hw : jW (A 4) (F 2 0) (F 2 1) W) {x y : Nat} (x1 : 1 ≤ x) (x2 : x < 2 ^ F 2 0) (y1 : 1 ≤ y) (y2 : y < 2 ^ F 2 1) (hT : ∀ B, jblk (F 2 0) (F 2 1) B = true → ((B / 32 < x ∧ B % 32 = y) ∨ (B / 32 = x ∧ B % 32 < y)) → A 133 B = nI (jwo (A 3) W (F 2 0) (F 2 1) B (nI 1)) ∧ A 134 B = nI (jwo (A 3) W (F 2 0) (F 2 1) B (nI 0))) (k : ∀ h', jR F (jua (jua (jua A 133 (upd (A 133) (32 * x + y) (nI (jwo (A 3) W (F 2 0) (F 2 1) (32 * x + y) (nI 1))))) 134 (upd (A 134) (32 * x + y) (nI (jwo (A 3) W (F 2 0) (F 2 1) (32 * x + y) (nI 0))))) 135 (upd (A 135) (32 * x + y) (nI (jw0 (A 3) W (F 2 0) (F 2 1) (32 * x + y))))) G g h' → jD h h' → Q [] h') : jx_Go jxP (d + 2) 40 0 [.ref 132, .int (nI x), .int (nI y), jx_u, jx_u, jx_u, jx_u] [] h Q := by
  have p1 := jp2 _ hr
  have p2 := jp2 _ hc
  obtain ⟨l1, l2, l3⟩ := jlow5 x (by omega) x1
  obtain ⟨c1, c2, c3⟩ := jlow5 y (by omega) y1
  have q1 := Nat.two_pow_pos (jlo x)
  have q2 := Nat.two_pow_pos (jlo y)
  have w1 := jwo_le (v := A 3) (B := 32 * x + y) (x := nI 1) hw hr hc
  have w0 := jwo_le (v := A 3) (B := 32 * x + y) (x := nI 0) hw hr hc
  have fin : ∀ h1, jR F (jua (jua A 133 (upd (A 133) (32 * x + y) (nI (jwo (A 3) W (F 2 0) (F 2 1) (32 * x + y) (nI 1))))) 134 (upd (A 134) (32 * x + y) (nI (jwo (A 3) W (F 2 0) (F 2 1) (32 * x + y) (nI 0))))) G g h1 → jD h h1 → ∀ w4 w5 w6, jx_Go jxP (d + 2) 40 154 [.ref 132, .int (nI x), .int (nI y), .int (nI (32 * x + y)), w4, w5, w6] [] h1 Q := by
    intro h1 hR1 hD1 w4 w5 w6
    obtain ⟨u1, u2, u3⟩ := jua_abc (A := A) (f := upd (A 133) (32 * x + y) (nI (jwo (A 3) W (F 2 0) (F 2 1) (32 * x + y) (nI 1)))) (e := upd (A 134) (32 * x + y) (nI (jwo (A 3) W (F 2 0) (F 2 1) (32 * x + y) (nI 0))))
    simp (disch := omega) only [s40_154, s40_155, s40_158, s40_159, s40_160, s40_163, s40_164, s40_165, s40_166, s40_169, s40_170, s40_171, s40_174, s40_175, Option.some.injEq, exists_eq_left', exists_eq_left, List.cons_append, List.nil_append, List.length_nil, List.length_cons, Nat.reduceAdd, Nat.reduceMul, Nat.reduceSub, Nat.reduceLeDiff, true_and, and_true, ↓reduceIte, not_false_eq_true, not_true_eq_false, nI_add, pk_mul, jn_ltT, jn_ltF, jn_leT, jn_leF, jn_eqT, jn_eqF, jn_lt0, jn_ge0, jn_eq0T, jn_eq0F, jn_in, jn_cl, jf_132_3 hR1, jf_132_4 hR1, jf_132_5 hR1, ja_133 hR1, ja_134 hR1, ja_135 hR1, u1, u2, u3, jupd_same, jmin2]
    exact k _ (hR1.wi (a := 135) rfl) (hD1.wi (by decide))
  simp (disch := omega) only [s40_0, s40_1, s40_2, s40_5, s40_6, s40_7, s40_10, s40_12, s40_13, s40_16, s40_18, s40_19, Option.some.injEq, exists_eq_left', exists_eq_left, List.cons_append, List.nil_append, List.length_nil, List.length_cons, Nat.reduceAdd, Nat.reduceMul, Nat.reduceSub, Nat.reduceLeDiff, true_and, and_true, ↓reduceIte, not_false_eq_true, not_true_eq_false, nI_add, pk_mul, jn_ltT, jn_ltF, jn_leT, jn_leF, jn_eqT, jn_eqF, jn_lt0, jn_ge0, jn_eq0T, jn_eq0F, jn_in, jn_cl, tb_blockAt, tb_lowestOf]
  by_cases wx : x = 2 ^ jlo x
  · have lR : jlo x < F 2 0 := (Nat.pow_lt_pow_iff_right (by decide : 1 < 2)).mp (by rw [← wx]; exact x2)
    by_cases wy : y = 2 ^ jlo y
    · have lC : jlo y < F 2 1 := (Nat.pow_lt_pow_iff_right (by decide : 1 < 2)).mp (by rw [← wy]; exact y2)
      obtain ⟨hw1, hw2⟩ := hw _ _ lR lC
      have o1 := jwo_one (v := A 3) (W := W) (u := nI 1) lR lC hc
      have o0 := jwo_one (v := A 3) (W := W) (u := nI 0) lR lC hc
      rw [← wx, ← wy] at o1 o0
      have mx : ∀ (Q : List Value → jxH → Prop), jx_Go jxP (d + 1) 126 0 [.int (nI x)] [] h Q ↔ Q [.int (nI (jlo x))] h := fun Q => by
        have := tb_memberOf (d := d) (h := h) (Q := Q) l1
        rw [← wx] at this
        exact this
      have my : ∀ (Q : List Value → jxH → Prop), jx_Go jxP (d + 1) 126 0 [.int (nI y)] [] h Q ↔ Q [.int (nI (jlo y))] h := fun Q => by
        have := tb_memberOf (d := d) (h := h) (Q := Q) c1
        rw [← wy] at this
        exact this
      simp (disch := omega) only [s40_21, s40_46, s40_47, s40_49, s40_74, s40_75, s40_76, s40_79, s40_80, s40_81, s40_84, s40_85, s40_87, s40_88, s40_91, s40_92, s40_93, s40_96, s40_99, s40_101, Option.some.injEq, exists_eq_left', exists_eq_left, List.cons_append, List.nil_append, List.length_nil, List.length_cons, Nat.reduceAdd, Nat.reduceMul, Nat.reduceSub, Nat.reduceLeDiff, true_and, and_true, ↓reduceIte, not_false_eq_true, not_true_eq_false, nI_add, pk_mul, jn_ltT, jn_ltF, jn_leT, jn_leF, jn_eqT, jn_eqF, jn_lt0, jn_ge0, jn_eq0T, jn_eq0F, jn_in, jn_cl, mx, my, jf_132_0 hR, jf_132_3 hR, jf_2_2 hR, ja_3 hR]
      have st2 : ∀ h1, jR F (jua A 133 (upd (A 133) (32 * x + y) (nI (jwo (A 3) W (F 2 0) (F 2 1) (32 * x + y) (nI 1))))) G g h1 → jD h h1 → jx_Go jxP (d + 2) 40 121 [.ref 132, .int (nI x), .int (nI y), .int (nI (32 * x + y)), .int (nI (2 ^ jlo x)), .int (nI (2 ^ jlo y)), .int (nI (5 * jlo x + jlo y))] [] h1 Q := by
        intro h1 hR1 hD1
        have u3 : ∀ f, jua A 133 f 3 = A 3 := fun f => jua_ne (by decide)
        have u4 : ∀ f, jua A 133 f 4 = A 4 := fun f => jua_ne (by decide)
        have u134 : ∀ f, jua A 133 f 134 = A 134 := fun f => jua_ne (by decide)
        by_cases z : A 3 (5 * jlo x + jlo y) = nI 0
        · rw [if_pos z] at o0
          rw [o0] at fin
          simp (disch := omega) only [s40_121, s40_122, s40_125, s40_126, s40_127, s40_130, s40_133, s40_135, s40_136, s40_139, s40_140, s40_143, s40_146, s40_148, s40_149, s40_152, s40_153, Option.some.injEq, exists_eq_left', exists_eq_left, List.cons_append, List.nil_append, List.length_nil, List.length_cons, Nat.reduceAdd, Nat.reduceMul, Nat.reduceSub, Nat.reduceLeDiff, true_and, and_true, ↓reduceIte, not_false_eq_true, not_true_eq_false, nI_add, pk_mul, jn_ltT, jn_ltF, jn_leT, jn_leF, jn_eqT, jn_eqF, jn_lt0, jn_ge0, jn_eq0T, jn_eq0F, jn_in, jn_cl, jf_132_0 hR1, jf_132_4 hR1, jf_2_2 hR1, jf_2_3 hR1, ja_3 hR1, ja_4 hR1, ja_134 hR1, u3, u4, u134, z, hw1]
          exact fin _ (hR1.wi (a := 134) rfl) (hD1.wi (by decide)) _ _ _
        · rw [if_neg z] at o0
          rw [o0] at fin
          have z' : ¬ A 3 (5 * jlo x + jlo y) = 0 := z
          simp (disch := omega) only [s40_121, s40_122, s40_125, s40_126, s40_127, s40_130, s40_133, s40_135, s40_136, s40_139, s40_140, s40_143, s40_146, s40_148, s40_149, s40_152, s40_153, Option.some.injEq, exists_eq_left', exists_eq_left, List.cons_append, List.nil_append, List.length_nil, List.length_cons, Nat.reduceAdd, Nat.reduceMul, Nat.reduceSub, Nat.reduceLeDiff, true_and, and_true, ↓reduceIte, not_false_eq_true, not_true_eq_false, nI_add, pk_mul, jn_ltT, jn_ltF, jn_leT, jn_leF, jn_eqT, jn_eqF, jn_lt0, jn_ge0, jn_eq0T, jn_eq0F, jn_in, jn_cl, jf_132_0 hR1, jf_132_4 hR1, jf_2_2 hR1, jf_2_3 hR1, ja_3 hR1, ja_4 hR1, ja_134 hR1, u3, u4, u134, z']
          exact fin _ (hR1.wi (a := 134) rfl) (hD1.wi (by decide)) _ _ _
      by_cases z : A 3 (5 * jlo x + jlo y) = nI 1
      · rw [if_pos z] at o1
        rw [o1] at st2
        simp (disch := omega) only [s40_102, s40_103, s40_106, s40_107, s40_110, s40_113, s40_115, s40_116, s40_119, s40_120, Option.some.injEq, exists_eq_left', exists_eq_left, List.cons_append, List.nil_append, List.length_nil, List.length_cons, Nat.reduceAdd, Nat.reduceMul, Nat.reduceSub, Nat.reduceLeDiff, true_and, and_true, ↓reduceIte, not_false_eq_true, not_true_eq_false, nI_add, pk_mul, jn_ltT, jn_ltF, jn_leT, jn_leF, jn_eqT, jn_eqF, jn_lt0, jn_ge0, jn_eq0T, jn_eq0F, jn_in, jn_cl, jf_132_0 hR, jf_2_3 hR, ja_4 hR, ja_133 hR, z, hw1]
        exact st2 _ (hR.wi (a := 133) rfl) (jD.rf.wi (by decide))
      · rw [if_neg z] at o1
        rw [o1] at st2
        simp (disch := omega) only [s40_102, s40_103, s40_119, s40_120, Option.some.injEq, exists_eq_left', exists_eq_left, List.cons_append, List.nil_append, List.length_nil, List.length_cons, Nat.reduceAdd, Nat.reduceMul, Nat.reduceSub, Nat.reduceLeDiff, true_and, and_true, ↓reduceIte, not_false_eq_true, not_true_eq_false, nI_add, pk_mul, jn_ltT, jn_ltF, jn_leT, jn_leF, jn_eqT, jn_eqF, jn_lt0, jn_ge0, jn_eq0T, jn_eq0F, jn_in, jn_cl, ja_133 hR, z]
        exact st2 _ (hR.wi (a := 133) rfl) (jD.rf.wi (by decide))
    · obtain ⟨c4, c5⟩ := c3 wy
      have n6 := jlow6 y (by omega) y1 wy
      have ad := fun u => jwo_cols (v := A 3) (W := W) (R := F 2 0) (C := F 2 1) (x := x) (u := u) (by omega) (by omega) (by omega) (fun r hr' => c5 r (by omega)) (fun r hr' => n6 r (by omega))
      have t1 := hT (32 * x + 2 ^ jlo y) (jblk_iff.mpr (by omega)) (by omega)
      have t2 := hT (32 * x + (y - 2 ^ jlo y)) (jblk_iff.mpr (by omega)) (by omega)
      rw [ad, ad] at fin
      simp (disch := omega) only [s40_21, s40_46, s40_47, s40_49, s40_52, s40_53, s40_54, s40_55, s40_57, s40_60, s40_61, s40_62, s40_64, s40_65, s40_68, Option.some.injEq, exists_eq_left', exists_eq_left, List.cons_append, List.nil_append, List.length_nil, List.length_cons, Nat.reduceAdd, Nat.reduceMul, Nat.reduceSub, Nat.reduceLeDiff, true_and, and_true, ↓reduceIte, not_false_eq_true, not_true_eq_false, nI_add, pk_mul, jn_ltT, jn_ltF, jn_leT, jn_leF, jn_eqT, jn_eqF, jn_lt0, jn_ge0, jn_eq0T, jn_eq0F, jn_in, jn_cl, tb_blockAt, jn_sub, jc_of_132 hR]
      refine sc_addUp hR (by omega) (by omega) (by omega) (by omega) (by omega) t1.1 t2.1 t1.2 t2.2 (fun h1 hR1 hD1 => ?_)
      simp (disch := omega) only [s40_71, Option.some.injEq, exists_eq_left', exists_eq_left, List.cons_append, List.nil_append, List.length_nil, List.length_cons, Nat.reduceAdd, Nat.reduceMul, Nat.reduceSub, Nat.reduceLeDiff, true_and, and_true, ↓reduceIte, not_false_eq_true, not_true_eq_false, nI_add, pk_mul, jn_ltT, jn_ltF, jn_leT, jn_leF, jn_eqT, jn_eqF, jn_lt0, jn_ge0, jn_eq0T, jn_eq0F, jn_in, jn_cl]
      exact fin _ hR1 hD1 _ _ _
  · obtain ⟨l4, l5⟩ := l3 wx
    have n6 := jlow6 x (by omega) x1 wx
    have ad := fun u => jwo_rows (v := A 3) (W := W) (R := F 2 0) (C := F 2 1) (y := y) (u := u) (by omega) (fun r hr' => l5 r (by omega)) (fun r hr' => n6 r (by omega))
    have t1 := hT (32 * 2 ^ jlo x + y) (jblk_iff.mpr (by omega)) (by omega)
    have t2 := hT (32 * (x - 2 ^ jlo x) + y) (jblk_iff.mpr (by omega)) (by omega)
    rw [ad, ad] at fin
    simp (disch := omega) only [s40_21, s40_24, s40_25, s40_26, s40_28, s40_29, s40_32, s40_33, s40_35, s40_36, s40_37, s40_40, Option.some.injEq, exists_eq_left', exists_eq_left, List.cons_append, List.nil_append, List.length_nil, List.length_cons, Nat.reduceAdd, Nat.reduceMul, Nat.reduceSub, Nat.reduceLeDiff, true_and, and_true, ↓reduceIte, not_false_eq_true, not_true_eq_false, nI_add, pk_mul, jn_ltT, jn_ltF, jn_leT, jn_leF, jn_eqT, jn_eqF, jn_lt0, jn_ge0, jn_eq0T, jn_eq0F, jn_in, jn_cl, tb_blockAt, jn_sub, jc_of_132 hR]
    refine sc_addUp hR (by omega) (by omega) (by omega) (by omega) (by omega) t1.1 t2.1 t1.2 t2.2 (fun h1 hR1 hD1 => ?_)
    simp (disch := omega) only [s40_43, Option.some.injEq, exists_eq_left', exists_eq_left, List.cons_append, List.nil_append, List.length_nil, List.length_cons, Nat.reduceAdd, Nat.reduceMul, Nat.reduceSub, Nat.reduceLeDiff, true_and, and_true, ↓reduceIte, not_false_eq_true, not_true_eq_false, nI_add, pk_mul, jn_ltT, jn_ltF, jn_leT, jn_leF, jn_eqT, jn_eqF, jn_lt0, jn_ge0, jn_eq0T, jn_eq0F, jn_in, jn_cl]
    exact fin _ hR1 hD1 _ _ _
end CL10
