/-! ===== the class: the best talk ===== -/
section CL13
variable {d : Nat} {F : Nat → Nat → Nat} {A : Nat → Nat → Int32} {G : Nat → Option Nat} {g : Nat → Int64} {h : jxH} {Q : List Value → jxH → Prop}
/-- the knots from k on are those of the talk over B, in the rows of the class -/
def jtc (v : Nat → Int32) (R C : Nat) (n k B D : Nat) (A : Nat → Nat → Int32) : Prop := match n with
  | 0 => False
  | n + 1 => A 139 k = nI (B / 32) ∧ A 140 k = nI (B % 32) ∧ A 143 k = nI D ∧ if jev v R C B = true then A 138 k = nI 2 ∧ A 141 k = nI (if jhas v R C B = 2 then 1 else 0) ∧ A 142 k = -100 else A 138 k = nI (if 32 ≤ jcut v R C B then 0 else 1) ∧ A 141 k = nI (k + 1) ∧ A 142 k = nI (k + 1 + jtS v R C n (jfr v R C B)) ∧ jtc v R C n (k + 1) (jfr v R C B) (D + 1) A ∧ jtc v R C n (k + 1 + jtS v R C n (jfr v R C B)) (jsn v R C B) (D + 1) A
theorem jtc_congr {v : Nat → Int32} {R C : Nat} {A A' : Nat → Nat → Int32} : ∀ n k B D, (∀ a j, 138 ≤ a → a ≤ 143 → k ≤ j → j < k + jtS v R C n B → A' a j = A a j) → jtc v R C n k B D A → jtc v R C n k B D A' := by
  intro n
  induction n with
  | zero => intro k B D _ t; exact t
  | succ n ih =>
    intro k B D e t
    have s1 := jtS_1 (v := v) (R := R) (C := C) (n := n + 1) (B := B)
    obtain ⟨t0, t1, t2, t3⟩ := t
    have ee : ∀ a, 138 ≤ a → a ≤ 143 → A' a k = A a k := fun a h1 h2 => e a k h1 h2 (by omega) (by omega)
    refine ⟨by rw [ee _ (by omega) (by omega)]; exact t0, by rw [ee _ (by omega) (by omega)]; exact t1, by rw [ee _ (by omega) (by omega)]; exact t2, ?_⟩
    by_cases he : jev v R C B = true
    · rw [if_pos he] at t3 ⊢
      rw [ee 138 (by omega) (by omega), ee 141 (by omega) (by omega), ee 142 (by omega) (by omega)]
      exact t3
    · rw [if_neg he] at t3 ⊢
      rw [jtS_s, if_neg he] at e
      obtain ⟨t4, t6, t7, t8, t9⟩ := t3
      refine ⟨by rw [ee 138 (by omega) (by omega)]; exact t4, by rw [ee 141 (by omega) (by omega)]; exact t6, by rw [ee 142 (by omega) (by omega)]; exact t7, ih _ _ _ (fun a j h1 h2 h3 h4 => e a j h1 h2 (by omega) (by omega)) t8, ih _ _ _ (fun a j h1 h2 h3 h4 => e a j h1 h2 (by omega) (by omega)) t9⟩
theorem jcut_pt {v : Nat → Int32} {R C B : Nat} (hR : R ≤ 5) (hC : C ≤ 5) (hB : B < 1024) (he : ¬ jev v R C B = true) : (∃ s, s < 32 ∧ jcut v R C B = s ∧ jpt (B % 32) s = true) ∨ ∃ s, s < 32 ∧ jcut v R C B = 32 * s ∧ jpt (B / 32) s = true := by
  obtain ⟨c1, c2, c3⟩ := jlst_le (p := jrx v R C B) 32
  obtain ⟨d1, d2, d3⟩ := jlst_le (p := jry v R C B) 32
  unfold jcut
  by_cases w : jlst (jrx v R C B) 32 < 32
  · have cp := c2 w
    rw [if_pos w]
    generalize jlst (jrx v R C B) 32 = s at *
    unfold jrx at cp
    rw [Bool.and_eq_true] at cp
    exact Or.inr ⟨s, w, rfl, cp.1⟩
  · have lt : jlst (jry v R C B) 32 < 32 := by
      rcases jcut_ex hR hC hB he with ⟨s, hs, e⟩ | ⟨s, hs, e⟩
      · rw [c3 s (by omega)] at e; cases e
      · rcases Nat.lt_or_ge (jlst (jry v R C B) 32) 32 with z | z
        · exact z
        · rw [d3 s (by omega)] at e; cases e
    have cp := d2 lt
    rw [if_neg w]
    generalize jlst (jry v R C B) 32 = s at *
    unfold jry at cp
    rw [Bool.and_eq_true] at cp
    exact Or.inl ⟨s, lt, rfl, cp.1⟩
theorem jhas_2 {v : Nat → Int32} {R C B : Nat} (he : jev v R C B = true) : (if jhz v R C B (nI 1) = true then 1 else 0) = if jhas v R C B = 2 then 1 else 0 := by
  rw [jev_iff] at he
  unfold jhas
  cases a : jhz v R C B (nI 0) <;> cases b : jhz v R C B (nI 1) <;> first | rfl | exact absurd ⟨a, b⟩ he
theorem jpop_e : ∀ x, x < 32 → ∀ i, i < 5 → ∀ j, j < 5 → (!(decide (jpop x = 1) && (x.testBit i && (x.testBit j && decide (i ≠ j))))) = true := by decide +kernel
theorem jev_small {v : Nat → Int32} {R C x y : Nat} (hr : R ≤ 5) (hc : C ≤ 5) (hx : x < 32) (hy : y < 32) (px : jpop x = 1) (py : jpop y = 1) : jev v R C (32 * x + y) = true := by
  rw [jev_iff, jhz_iff, jhz_iff, show (32 * x + y) / 32 = x by omega, show (32 * x + y) % 32 = y by omega]
  rintro ⟨⟨r, c, h1, h2, h3, h4, h5⟩, ⟨r', c', g1, g2, g3, g4, g5⟩⟩
  have e1 := jpop_e x hx r (by omega) r' (by omega)
  have e2 := jpop_e y hy c (by omega) c' (by omega)
  rw [decide_eq_true px, h3, g3] at e1
  rw [decide_eq_true py, h4, g4] at e2
  have er : r = r' := by
    by_cases w : r = r'
    · exact w
    · rw [decide_eq_true w] at e1; cases e1
  have ec : c = c' := by
    by_cases w : c = c'
    · exact w
    · rw [decide_eq_true w] at e2; cases e2
  subst er; subst ec
  rw [h5] at g5
  exact absurd g5 (by decide)
theorem ta_grow {v : Nat → Int32} {R C : Nat} (hr : R ≤ 5) (hc : C ≤ 5) : ∀ m x y, 32 * x + y < m → jblk R C (32 * x + y) = true → y < 32 → ∀ d (A1 : Nat → Nat → Int32) (h1 : jxH) (k D q : Nat), jMk F A1 v R C → jPa A1 → (q = 0 ∨ (q = 1 ∧ jBl A1 v R C)) → jR (jup (jup F 128 5 q) 137 8 k) A1 G g h1 → jD h h1 → D + (jpop x + jpop y) ≤ 10 → k + 2 * jar (32 * x + y) ≤ 50 → ∀ {Q : List Value → jxH → Prop}, (∀ q2 A2 h2, (q2 = 0 ∨ (q2 = 1 ∧ jBl A2 v R C)) → (∀ a, a ≠ 129 → a ≠ 130 → (a < 138 ∨ 143 < a) → A2 a = A1 a) → (∀ a j, 138 ≤ a → a ≤ 143 → j < k → A2 a j = A1 a j) → jtc v R C m k (32 * x + y) D A2 → jR (jup (jup F 128 5 q2) 137 8 (k + jtS v R C m (32 * x + y))) A2 G g h2 → jD h h2 → Q [.int (nI k)] h2) → jx_Go jxP (d + (jpop x + jpop y) + 4) 64 0 [.ref 137, .int (nI x), .int (nI y), .int (nI D), jx_u, jx_u, jx_u] [] h1 Q := by
  have p1 := jp2 _ hr
  have p2 := jp2 _ hc
  intro m
  induction m with
  | zero => intro x y h1; omega
  | succ m ih =>
    intro x y hBm hb hy d A1 h1 k D q hM hP hK hR1 hD1 hDp hk Q kk
    have hb' := jblk_iff.mp hb
    have x1 : (32 * x + y) / 32 = x := by omega
    have y1 : (32 * x + y) % 32 = y := by omega
    rw [x1, y1] at hb'
    have ha := jar_1 (B := 32 * x + y) (by omega) (by omega) (by omega)
    have a25 := jar_25 (B := 32 * x + y) (by omega)
    have px1 := jpop_1 x (by omega) (by omega)
    have py1 := jpop_1 y (by omega) (by omega)
    have c8 : jup (jup F 128 5 q) 137 8 k 137 8 = k := jup_same
    simp (disch := first | omega | decide) only [s64_0, s64_1, s64_4, s64_6, s64_12, s64_13, s64_16, s64_18, s64_19i, s64_19r, s64_20, s64_23, s64_24, s64_25, s64_28, s64_29, s64_32, s64_34, s64_35, s64_36, s64_37, s64_40, s64_42, s64_43, s64_44, s64_45, s64_48, s64_50, s64_51, Option.some.injEq, exists_eq_left', exists_eq_left, List.cons_append, List.nil_append, List.length_nil, List.length_cons, Nat.reduceAdd, Nat.reduceMul, Nat.reduceSub, Nat.reduceLeDiff, true_and, and_true, ↓reduceIte, not_false_eq_true, not_true_eq_false, nI_add, pk_mul, jn_ltT, jn_ltF, jn_leT, jn_leF, jn_eqT, jn_eqF, jn_lt0, jn_ge0, jn_eq0T, jn_eq0F, jn_in, jn_cl, jh_ai_wi, jh_ai_wi_ne, jh_ai_uf, jh_fl_wi_ne, jh_fl_uf_ne, jh_fl_uf_o, jh_cl_wi_ne, jh_cl_uf, jh_al_wi_ne, jh_al_uf, jh_al_wl, jh_al_wl_ne, jh_ai_wl_ne, jh_fl_wl_ne, jh_cl_wl_ne, jh_ar_wi_ne, jh_ar_uf, jh_ar_wl_ne, jh_1_wi, jh_1_uf, jh_1_wl, jf_137_3 hR1, jf_137_4 hR1, jf_137_7 hR1, jf_137_8 hR1, c8, ja_139 hR1, ja_140 hR1, ja_143 hR1]
    have hR2 := (((hR1.uf (o := 137) (k := 8) (v := k + 1) rfl rfl).wi (a := 139) (f := upd (A1 139) k (nI x)) rfl).wi (a := 140) (f := upd (A1 140) k (nI y)) rfl).wi (a := 143) (f := upd (A1 143) k (nI D)) rfl
    have hD2 := (((hD1.uf (a := 137) (k := 8) (v := .int (nI (k + 1))) (by decide)).wi (a := 139) (n := 49) (f := upd (A1 139) k (nI x)) (by decide)).wi (a := 140) (n := 49) (f := upd (A1 140) k (nI y)) (by decide)).wi (a := 143) (n := 49) (f := upd (A1 143) k (nI D)) (by decide)
    rw [jup_jup] at hR2
    generalize jx_wi (jx_wi (jx_wi (jx_uf h1 137 8 (.int (nI (k + 1)))) 139 49 (upd (A1 139) k (nI x))) 140 49 (upd (A1 140) k (nI y))) 143 49 (upd (A1 143) k (nI D)) = h2 at hR2 hD2 ⊢
    generalize eA2 : jua (jua (jua A1 139 (upd (A1 139) k (nI x))) 140 (upd (A1 140) k (nI y))) 143 (upd (A1 143) k (nI D)) = A2 at hR2
    have m2 : ∀ a, (a < 138 ∨ 143 < a) → A2 a = A1 a := fun a ha => by rw [← eA2, jua_ne (by omega), jua_ne (by omega), jua_ne (by omega)]
    have e39 : A2 139 k = nI x := by rw [← eA2, jua_ne (by decide), jua_ne (by decide), jua_same, jupd_same]
    have e40 : A2 140 k = nI y := by rw [← eA2, jua_ne (by decide), jua_same, jupd_same]
    have e43 : A2 143 k = nI D := by rw [← eA2, jua_same, jupd_same]
    have e2 : ∀ a j, j < k → A2 a j = A1 a j := by
      intro a j hj
      rw [← eA2]
      by_cases z : a = 143
      · subst z; rw [jua_same, jupd_ne (by omega)]
      · rw [jua_ne z]
        by_cases z : a = 140
        · subst z; rw [jua_same, jupd_ne (by omega)]
        · rw [jua_ne z]
          by_cases z : a = 139
          · subst z; rw [jua_same, jupd_ne (by omega)]
          · rw [jua_ne z]
    have hM2 : jMk (jup (jup F 128 5 q) 137 8 (k + 1)) A2 v R C := hM.fr rfl rfl (m2 100 (by omega)) (m2 101 (by omega))
    have hP2 : jPa A2 := hP.fr (m2 126 (by omega)) (m2 127 (by omega))
    have ev : ∀ (d : Nat) (Q : List Value → jxH → Prop), jx_Go jxP d 31 0 [.ref 99, .int (nI x), .int (nI y)] [] h2 Q ↔ Q [.int (nI (jev v R C (32 * x + y)).toNat)] h2 := fun d Q => ma_isEven hR2 hM2 hr hc (by omega) hb'.2.1 hy
    by_cases he : jev v R C (32 * x + y) = true
    · have e70 : jx_Go jxP (d + (jpop x + jpop y) + 4) 64 70 [.ref 137, .int (nI x), .int (nI y), .int (nI D), .int (nI k), jx_u, jx_u] [] h2 Q := by
        have l1 := jmo_lt (v := v) (R := R) (x := x) (u := nI 1) hc
        have an : jmo v R C x (nI 1) &&& y < 32 := Nat.lt_of_le_of_lt Nat.and_le_left l1
        have z1 : (nI (jmo v R C x (nI 1) &&& y) = 0) = (jhz v R C (32 * x + y) (nI 1) = false) := by
          rw [← jmo_hz hy, show (0 : Int32) = nI 0 from rfl, jn_eq (by omega) (by omega)]
        have m1 := (hM2.2.2 x (by omega) hb'.2.1).1
        have fin : ∀ w, w = (if jhas v R C (32 * x + y) = 2 then 1 else 0) → jx_Go jxP (d + (jpop x + jpop y) + 4) 64 103 [.ref 137, .int (nI x), .int (nI y), .int (nI D), .int (nI k), jx_u, jx_u] [.int (nI w), .int (nI k), .ref 141] (jx_wi h2 138 49 (upd (A2 138) k (nI 2))) Q := by
          rintro w rfl
          have hR3 := ((hR2.wi (a := 138) (f := upd (A2 138) k (nI 2)) rfl).wi (a := 141) (f := upd (A2 141) k (nI (if jhas v R C (32 * x + y) = 2 then 1 else 0))) rfl).wi (a := 142) (f := upd (A2 142) k (-100)) rfl
          have hD3 := ((hD2.wi (a := 138) (n := 49) (f := upd (A2 138) k (nI 2)) (by decide)).wi (a := 141) (n := 49) (f := upd (A2 141) k (nI (if jhas v R C (32 * x + y) = 2 then 1 else 0))) (by decide)).wi (a := 142) (n := 49) (f := upd (A2 142) k (-100)) (by decide)
          simp (disch := first | omega | decide) only [s64_103, s64_104, s64_105, s64_108, s64_110, s64_112, s64_113, s64_115, Option.some.injEq, exists_eq_left', exists_eq_left, List.cons_append, List.nil_append, List.length_nil, List.length_cons, Nat.reduceAdd, Nat.reduceMul, Nat.reduceSub, Nat.reduceLeDiff, true_and, and_true, ↓reduceIte, not_false_eq_true, not_true_eq_false, nI_add, pk_mul, jn_ltT, jn_ltF, jn_leT, jn_leF, jn_eqT, jn_eqF, jn_lt0, jn_ge0, jn_eq0T, jn_eq0F, jn_in, jn_cl, jh_ai_wi, jh_ai_wi_ne, jh_ai_uf, jh_fl_wi_ne, jh_fl_uf_ne, jh_fl_uf_o, jh_cl_wi_ne, jh_cl_uf, jh_al_wi_ne, jh_al_uf, jh_al_wl, jh_al_wl_ne, jh_ai_wl_ne, jh_fl_wl_ne, jh_cl_wl_ne, jh_ar_wi_ne, jh_ar_uf, jh_ar_wl_ne, jh_1_wi, jh_1_uf, jh_1_wl, jf_137_6 hR2, ja_141 hR2, ja_142 hR2]
          generalize jx_wi (jx_wi (jx_wi h2 138 49 (upd (A2 138) k (nI 2))) 141 49 (upd (A2 141) k (nI (if jhas v R C (32 * x + y) = 2 then 1 else 0)))) 142 49 (upd (A2 142) k (-100)) = h3 at hR3 hD3 ⊢
          generalize eA3 : jua (jua (jua A2 138 (upd (A2 138) k (nI 2))) 141 (upd (A2 141) k (nI (if jhas v R C (32 * x + y) = 2 then 1 else 0)))) 142 (upd (A2 142) k (-100)) = A3 at hR3
          have a3 : ∀ a, a ≠ 138 → a ≠ 141 → a ≠ 142 → A3 a = A2 a := fun a n1 n2 n3 => by rw [← eA3, jua_ne n3, jua_ne n2, jua_ne n1]
          have e38 : A3 138 = upd (A2 138) k (nI 2) := by rw [← eA3, jua_ne (by decide), jua_ne (by decide), jua_same]
          have e41 : A3 141 = upd (A2 141) k (nI (if jhas v R C (32 * x + y) = 2 then 1 else 0)) := by rw [← eA3, jua_ne (by decide), jua_same]
          have e42 : A3 142 = upd (A2 142) k (-100) := by rw [← eA3, jua_same]
          rw [jtS_s, if_pos he] at kk
          refine kk q A3 h3 ?_ (fun a n1 n2 n3 => by rw [a3 a (by omega) (by omega) (by omega), m2 a n3]) (fun a j n1 n2 n3 => ?_) ⟨?_, ?_, ?_, ?_⟩ hR3 hD3
          · rcases hK with hK | ⟨hK, hB⟩
            · exact Or.inl hK
            · exact Or.inr ⟨hK, fun B hB' => by rw [a3 129 (by decide) (by decide) (by decide), a3 130 (by decide) (by decide) (by decide), m2 129 (by omega), m2 130 (by omega)]; exact hB B hB'⟩
          · by_cases z : a = 138
            · subst z; rw [e38, jupd_ne (by omega)]; exact e2 _ j n3
            · by_cases z2 : a = 141
              · subst z2; rw [e41, jupd_ne (by omega)]; exact e2 _ j n3
              · by_cases z3 : a = 142
                · subst z3; rw [e42, jupd_ne (by omega)]; exact e2 _ j n3
                · rw [a3 a z z2 z3]; exact e2 _ j n3
          · rw [a3 139 (by decide) (by decide) (by decide), x1]; exact e39
          · rw [a3 140 (by decide) (by decide) (by decide), y1]; exact e40
          · rw [a3 143 (by decide) (by decide) (by decide)]; exact e43
          · rw [if_pos he, e38, e41, e42, jupd_same, jupd_same, jupd_same]
            exact ⟨rfl, rfl, rfl⟩
        have j2 := jhas_2 he
        cases hz : jhz v R C (32 * x + y) (nI 1) with
        | true =>
          rw [hz, if_pos rfl] at j2
          have z1' := z1.trans (eq_false (by rw [hz]; decide))
          simp (disch := first | omega | decide) only [s64_70, s64_71, s64_74, s64_76, s64_77, s64_78, s64_79, s64_82, s64_84, s64_85, s64_88, s64_91, s64_92, s64_93, s64_94, s64_95, s64_98, s64_99, Option.some.injEq, exists_eq_left', exists_eq_left, List.cons_append, List.nil_append, List.length_nil, List.length_cons, Nat.reduceAdd, Nat.reduceMul, Nat.reduceSub, Nat.reduceLeDiff, true_and, and_true, ↓reduceIte, not_false_eq_true, not_true_eq_false, nI_add, pk_mul, jn_ltT, jn_ltF, jn_leT, jn_leF, jn_eqT, jn_eqF, jn_lt0, jn_ge0, jn_eq0T, jn_eq0F, jn_in, jn_cl, jh_ai_wi, jh_ai_wi_ne, jh_ai_uf, jh_fl_wi_ne, jh_fl_uf_ne, jh_fl_uf_o, jh_cl_wi_ne, jh_cl_uf, jh_al_wi_ne, jh_al_uf, jh_al_wl, jh_al_wl_ne, jh_ai_wl_ne, jh_fl_wl_ne, jh_cl_wl_ne, jh_ar_wi_ne, jh_ar_uf, jh_ar_wl_ne, jh_1_wi, jh_1_uf, jh_1_wl, jf_137_0 hR2, jf_137_2 hR2, jf_137_5 hR2, jf_99_2 hR2, ja_100 hR2, ja_138 hR2, m1, jn_and, z1']
          exact fin 1 j2
        | false =>
          rw [hz, if_neg (by decide)] at j2
          have z1' := z1.trans (eq_true hz)
          simp (disch := first | omega | decide) only [s64_70, s64_71, s64_74, s64_76, s64_77, s64_78, s64_79, s64_82, s64_84, s64_85, s64_88, s64_91, s64_92, s64_93, s64_94, s64_95, s64_102, Option.some.injEq, exists_eq_left', exists_eq_left, List.cons_append, List.nil_append, List.length_nil, List.length_cons, Nat.reduceAdd, Nat.reduceMul, Nat.reduceSub, Nat.reduceLeDiff, true_and, and_true, ↓reduceIte, not_false_eq_true, not_true_eq_false, nI_add, pk_mul, jn_ltT, jn_ltF, jn_leT, jn_leF, jn_eqT, jn_eqF, jn_lt0, jn_ge0, jn_eq0T, jn_eq0F, jn_in, jn_cl, jh_ai_wi, jh_ai_wi_ne, jh_ai_uf, jh_fl_wi_ne, jh_fl_uf_ne, jh_fl_uf_o, jh_cl_wi_ne, jh_cl_uf, jh_al_wi_ne, jh_al_uf, jh_al_wl, jh_al_wl_ne, jh_ai_wl_ne, jh_fl_wl_ne, jh_cl_wl_ne, jh_ar_wi_ne, jh_ar_uf, jh_ar_wl_ne, jh_1_wi, jh_1_uf, jh_1_wl, jf_137_0 hR2, jf_137_2 hR2, jf_137_5 hR2, jf_99_2 hR2, ja_100 hR2, ja_138 hR2, m1, jn_and, z1']
          exact fin 0 j2
      rcases Nat.lt_or_ge D 8 with w | w
      · simp (disch := omega) only [s64_52, s64_53, s64_55, s64_58, s64_59, s64_62, s64_63, s64_64, Option.some.injEq, exists_eq_left', exists_eq_left, List.cons_append, List.nil_append, List.length_nil, List.length_cons, Nat.reduceAdd, Nat.reduceMul, Nat.reduceSub, Nat.reduceLeDiff, true_and, and_true, ↓reduceIte, not_false_eq_true, not_true_eq_false, nI_add, pk_mul, jn_ltT, jn_ltF, jn_leT, jn_leF, jn_eqT, jn_eqF, jn_lt0, jn_ge0, jn_eq0T, jn_eq0F, jn_in, jn_cl, jf_137_0 hR2, jc_of_99 hR2, ev]
        rw [he]
        simp (disch := omega) only [s64_67, Option.some.injEq, exists_eq_left', exists_eq_left, List.cons_append, List.nil_append, List.length_nil, List.length_cons, Nat.reduceAdd, Nat.reduceMul, Nat.reduceSub, Nat.reduceLeDiff, true_and, and_true, ↓reduceIte, not_false_eq_true, not_true_eq_false, nI_add, pk_mul, jn_ltT, jn_ltF, jn_leT, jn_leF, jn_eqT, jn_eqF, jn_lt0, jn_ge0, jn_eq0T, jn_eq0F, jn_in, jn_cl, Bool.toNat_true]
        exact e70
      · simp (disch := omega) only [s64_52, s64_53, s64_55, Option.some.injEq, exists_eq_left', exists_eq_left, List.cons_append, List.nil_append, List.length_nil, List.length_cons, Nat.reduceAdd, Nat.reduceMul, Nat.reduceSub, Nat.reduceLeDiff, true_and, and_true, ↓reduceIte, not_false_eq_true, not_true_eq_false, nI_add, pk_mul, jn_ltT, jn_ltF, jn_leT, jn_leF, jn_eqT, jn_eqF, jn_lt0, jn_ge0, jn_eq0T, jn_eq0F, jn_in, jn_cl]
        exact e70
    · have D8 : D < 8 := by
        rcases Nat.lt_or_ge D 8 with w | w
        · exact w
        · exact absurd (jev_small hr hc (by omega) hy (by omega) (by omega)) he
      obtain ⟨b1, b2, l1, l2, _, _, _, hA⟩ := jcut_ok hr hc hb he
      have l1' := Nat.lt_of_lt_of_le l1 (Nat.le_of_lt_succ hBm)
      have l2' := Nat.lt_of_lt_of_le l2 (Nat.le_of_lt_succ hBm)
      simp (disch := omega) only [s64_52, s64_53, s64_55, s64_58, s64_59, s64_62, s64_63, s64_64, Option.some.injEq, exists_eq_left', exists_eq_left, List.cons_append, List.nil_append, List.length_nil, List.length_cons, Nat.reduceAdd, Nat.reduceMul, Nat.reduceSub, Nat.reduceLeDiff, true_and, and_true, ↓reduceIte, not_false_eq_true, not_true_eq_false, nI_add, pk_mul, jn_ltT, jn_ltF, jn_leT, jn_leF, jn_eqT, jn_eqF, jn_lt0, jn_ge0, jn_eq0T, jn_eq0F, jn_in, jn_cl, jf_137_0 hR2, jc_of_99 hR2, ev]
      rw [Bool.eq_false_iff.mpr he]
      simp (disch := omega) only [s64_67, s64_116, s64_117, s64_120, s64_121, s64_122, Option.some.injEq, exists_eq_left', exists_eq_left, List.cons_append, List.nil_append, List.length_nil, List.length_cons, Nat.reduceAdd, Nat.reduceMul, Nat.reduceSub, Nat.reduceLeDiff, true_and, and_true, ↓reduceIte, not_false_eq_true, not_true_eq_false, nI_add, pk_mul, jn_ltT, jn_ltF, jn_leT, jn_leF, jn_eqT, jn_eqF, jn_lt0, jn_ge0, jn_eq0T, jn_eq0F, jn_in, jn_cl, jf_137_1 hR2, jc_of_128 hR2, Bool.toNat_false]
      refine bl_bestParting hR2 hP2 hM2 hr hc (by
        rcases hK with hK | ⟨hK, hB⟩
        · exact Or.inl hK
        · exact Or.inr ⟨hK, fun B hB' => by rw [m2 129 (by omega), m2 130 (by omega)]; exact hB B hB'⟩) hb hy he (fun h3 A3 hB3 fr3 hR3 hD3' => ?_)
      have hD3 := hD2.tr hD3'
      rw [show jup (jup (jup F 128 5 q) 137 8 (k + 1)) 128 5 1 = jup (jup F 128 5 1) 137 8 (k + 1) by
        funext a b
        unfold jup
        by_cases z : a = 128 ∧ b = 5
        · rw [if_pos z, if_neg (by omega), if_pos z]
        · rw [if_neg z, if_neg z, if_neg z]] at hR3
      rcases jcut_pt hr hc (by omega) he with ⟨s, hs, ec, hp⟩ | ⟨s, hs, ec, hp⟩
      · rw [y1] at hp
        have hcut : jcut v R C (32 * x + y) = s := ec
        have ebp : jbp v R C (32 * x + y) = 32 + s := by unfold jbp; rw [hcut, if_neg (by omega)]
        have s3 := jpt_lt y (by omega) s hs hp
        have px := jpop_x y (by omega) s hs hp
        have pz := jpt_x (by omega) hs hp
        rw [pz] at px
        have q1 := jpop_1 (y - s) (by omega) (by omega)
        have q2 := jpop_1 s (by omega) (by omega)
        have ef : jfr v R C (32 * x + y) = 32 * x + (y - s) := by
          unfold jfr
          rw [hcut, if_pos (by omega), x1, y1]
          rw [pz]
        have es : jsn v R C (32 * x + y) = 32 * x + s := by
          unfold jsn
          rw [hcut, if_pos (by omega), x1]
        rw [ef] at b1 l1 l1' hA
        rw [es] at b2 l2 l2' hA
        have b1' := jblk_iff.mp b1
        have b2' := jblk_iff.mp b2
        have r1 := jar_1 (B := 32 * x + (y - s)) (by omega) (by omega) (by omega)
        have r2 := jar_1 (B := 32 * x + s) (by omega) (by omega) (by omega)
        have S1 := jtS_le (v := v) hr hc m _ b1
        have S2 := jtS_le (v := v) hr hc m _ b2
        have hR4 := hR3.wi (a := 138) (f := upd (A3 138) k (nI 1)) rfl
        have hD4 := hD3.wi (a := 138) (n := 49) (f := upd (A3 138) k (nI 1)) (by decide)
        rw [ebp]
        simp (disch := omega) only [s64_125, s64_127, s64_129, s64_131, s64_132, s64_134, s64_136, s64_138, s64_141, s64_142, s64_145, s64_147, s64_148, s64_149, s64_150, s64_153, s64_155, s64_156, s64_157, s64_158, s64_160, s64_161, s64_162, s64_163, s64_164, Option.some.injEq, exists_eq_left', exists_eq_left, List.cons_append, List.nil_append, List.length_nil, List.length_cons, Nat.reduceAdd, Nat.reduceMul, Nat.reduceSub, Nat.reduceLeDiff, true_and, and_true, ↓reduceIte, not_false_eq_true, not_true_eq_false, nI_add, pk_mul, jn_ltT, jn_ltF, jn_leT, jn_leF, jn_eqT, jn_eqF, jn_lt0, jn_ge0, jn_eq0T, jn_eq0F, jn_in, jn_cl, jh_ai_wi, jh_ai_wi_ne, jh_ai_uf, jh_fl_wi_ne, jh_fl_uf_ne, jh_fl_uf_o, jh_cl_wi_ne, jh_cl_uf, jh_al_wi_ne, jh_al_uf, jh_al_wl, jh_al_wl_ne, jh_ai_wl_ne, jh_fl_wl_ne, jh_cl_wl_ne, jh_ar_wi_ne, jh_ar_uf, jh_ar_wl_ne, jh_1_wi, jh_1_uf, jh_1_wl, jf_137_2 hR3, jf_137_5 hR3, ja_138 hR3, jc_of_137 hR3, jn_div, jn_rem2, jn_sub, show 32 + s - (32 + s) / 32 * 32 = s by omega]
        have dl : ∃ d', d + (jpop x + jpop y) + 3 = d' + (jpop x + jpop (y - s)) + 4 := ⟨d + (jpop x + jpop y) - 1 - (jpop x + jpop (y - s)), by omega⟩
        obtain ⟨d', ed⟩ := dl
        rw [show d + (jpop x + jpop y) + 3 = d' + (jpop x + jpop (y - s)) + 4 from ed]
        generalize jx_wi h3 138 49 (upd (A3 138) k (nI 1)) = h4 at hR4 hD4 ⊢
        generalize eA4 : jua A3 138 (upd (A3 138) k (nI 1)) = A4 at hR4
        have a4 : ∀ a, a ≠ 138 → A4 a = A3 a := fun a na => by rw [← eA4, jua_ne na]
        have a48 : A4 138 = upd (A3 138) k (nI 1) := by rw [← eA4, jua_same]
        refine ih _ _ l1' b1 (by omega) d' A4 h4 (k + 1) (D + 1) 1 (hM.fr rfl rfl (by rw [a4 100 (by decide), fr3 100 (by omega) (by omega)]; exact m2 100 (by omega)) (by rw [a4 101 (by decide), fr3 101 (by omega) (by omega)]; exact m2 101 (by omega))) (hP.fr (by rw [a4 126 (by decide), fr3 126 (by omega) (by omega)]; exact m2 126 (by omega)) (by rw [a4 127 (by decide), fr3 127 (by omega) (by omega)]; exact m2 127 (by omega))) (Or.inr ⟨rfl, fun B hB => by rw [a4 129 (by decide), a4 130 (by decide)]; exact hB3 B hB⟩) hR4 hD4 (by omega) (by omega) (fun q5 A5 h5 hK5 fr5 ent5 tr5 hR5 hD5 => ?_)
        have u5 : ∀ a, 138 ≤ a → a ≤ 143 → A5 a k = A4 a k := fun a h1 h2 => ent5 a k h1 h2 (by omega)
        have hR6 := hR5.wi (a := 141) (f := upd (A5 141) k (nI (k + 1))) rfl
        have hD6 := hD5.wi (a := 141) (n := 49) (f := upd (A5 141) k (nI (k + 1))) (by decide)
        simp (disch := omega) only [s64_167, s64_168, s64_169, s64_172, s64_174, s64_175, s64_176, s64_178, s64_179, s64_180, s64_181, Option.some.injEq, exists_eq_left', exists_eq_left, List.cons_append, List.nil_append, List.length_nil, List.length_cons, Nat.reduceAdd, Nat.reduceMul, Nat.reduceSub, Nat.reduceLeDiff, true_and, and_true, ↓reduceIte, not_false_eq_true, not_true_eq_false, nI_add, pk_mul, jn_ltT, jn_ltF, jn_leT, jn_leF, jn_eqT, jn_eqF, jn_lt0, jn_ge0, jn_eq0T, jn_eq0F, jn_in, jn_cl, jh_ai_wi, jh_ai_wi_ne, jh_ai_uf, jh_fl_wi_ne, jh_fl_uf_ne, jh_fl_uf_o, jh_cl_wi_ne, jh_cl_uf, jh_al_wi_ne, jh_al_uf, jh_al_wl, jh_al_wl_ne, jh_ai_wl_ne, jh_fl_wl_ne, jh_cl_wl_ne, jh_ar_wi_ne, jh_ar_uf, jh_ar_wl_ne, jh_1_wi, jh_1_uf, jh_1_wl, jf_137_6 hR5, ja_141 hR5, jc_of_137 hR5]
        have dl : ∃ d', d + (jpop x + jpop y) + 3 = d' + (jpop x + jpop s) + 4 := ⟨d + (jpop x + jpop y) - 1 - (jpop x + jpop s), by omega⟩
        obtain ⟨d2, ed2⟩ := dl
        rw [show d' + (jpop x + jpop (y - s)) + 4 = d2 + (jpop x + jpop s) + 4 by omega]
        generalize jx_wi h5 141 49 (upd (A5 141) k (nI (k + 1))) = h6 at hR6 hD6 ⊢
        generalize eA6 : jua A5 141 (upd (A5 141) k (nI (k + 1))) = A6 at hR6
        have a6 : ∀ a, a ≠ 141 → A6 a = A5 a := fun a na => by rw [← eA6, jua_ne na]
        have a61 : A6 141 = upd (A5 141) k (nI (k + 1)) := by rw [← eA6, jua_same]
        have fr6 : ∀ a, a ≠ 129 → a ≠ 130 → (a < 138 ∨ 143 < a) → A6 a = A1 a := fun a n1 n2 n3 => by rw [a6 a (by omega), fr5 a n1 n2 n3, a4 a (by omega), fr3 a n1 n2, m2 a n3]
        refine ih _ _ l2' b2 (by omega) d2 A6 h6 (k + 1 + jtS v R C m (32 * x + (y - s))) (D + 1) q5 (hM.fr rfl rfl (fr6 100 (by decide) (by decide) (by omega)) (fr6 101 (by decide) (by decide) (by omega))) (hP.fr (fr6 126 (by decide) (by decide) (by omega)) (fr6 127 (by decide) (by decide) (by omega))) (by
          rcases hK5 with hK5 | ⟨hK5, hB5⟩
          · exact Or.inl hK5
          · exact Or.inr ⟨hK5, fun B hB => by rw [a6 129 (by decide), a6 130 (by decide)]; exact hB5 B hB⟩) hR6 hD6 (by omega) (by omega) (fun q7 A7 h7 hK7 fr7 ent7 tr7 hR7 hD7 => ?_)
        have hR8 := hR7.wi (a := 142) (f := upd (A7 142) k (nI (k + 1 + jtS v R C m (32 * x + (y - s))))) rfl
        have hD8 := hD7.wi (a := 142) (n := 49) (f := upd (A7 142) k (nI (k + 1 + jtS v R C m (32 * x + (y - s))))) (by decide)
        simp (disch := omega) only [s64_184, s64_185, s64_232, s64_234, Option.some.injEq, exists_eq_left', exists_eq_left, List.cons_append, List.nil_append, List.length_nil, List.length_cons, Nat.reduceAdd, Nat.reduceMul, Nat.reduceSub, Nat.reduceLeDiff, true_and, and_true, ↓reduceIte, not_false_eq_true, not_true_eq_false, nI_add, pk_mul, jn_ltT, jn_ltF, jn_leT, jn_leF, jn_eqT, jn_eqF, jn_lt0, jn_ge0, jn_eq0T, jn_eq0F, jn_in, jn_cl, jh_ai_wi, jh_ai_wi_ne, jh_ai_uf, jh_fl_wi_ne, jh_fl_uf_ne, jh_fl_uf_o, jh_cl_wi_ne, jh_cl_uf, jh_al_wi_ne, jh_al_uf, jh_al_wl, jh_al_wl_ne, jh_ai_wl_ne, jh_fl_wl_ne, jh_cl_wl_ne, jh_ar_wi_ne, jh_ar_uf, jh_ar_wl_ne, jh_1_wi, jh_1_uf, jh_1_wl, ja_142 hR7]
        generalize jx_wi h7 142 49 (upd (A7 142) k (nI (k + 1 + jtS v R C m (32 * x + (y - s))))) = h8 at hR8 hD8 ⊢
        generalize eA8 : jua A7 142 (upd (A7 142) k (nI (k + 1 + jtS v R C m (32 * x + (y - s))))) = A8 at hR8
        have a8 : ∀ a, a ≠ 142 → A8 a = A7 a := fun a na => by rw [← eA8, jua_ne na]
        have a82 : A8 142 = upd (A7 142) k (nI (k + 1 + jtS v R C m (32 * x + (y - s)))) := by rw [← eA8, jua_same]
        have ne8 : ∀ a j, j ≠ k → A8 a j = A7 a j := fun a j hj => by
          by_cases z : a = 142
          · subst z; rw [a82, jupd_ne hj]
          · rw [a8 a z]
        have ne6 : ∀ a j, j ≠ k → A6 a j = A5 a j := fun a j hj => by
          by_cases z : a = 141
          · subst z; rw [a61, jupd_ne hj]
          · rw [a6 a z]
        have ne4 : ∀ a j, j ≠ k → A4 a j = A3 a j := fun a j hj => by
          by_cases z : a = 138
          · subst z; rw [a48, jupd_ne hj]
          · rw [a4 a z]
        have eS : k + 1 + jtS v R C m (32 * x + (y - s)) + jtS v R C m (32 * x + s) = k + jtS v R C (m + 1) (32 * x + y) := by
          rw [jtS_s, if_neg he, ef, es]; omega
        rw [eS] at hR8
        refine kk q7 A8 h8 ?_ (fun a n1 n2 n3 => ?_) (fun a j n1 n2 n3 => ?_) ?_ hR8 hD8
        · rcases hK7 with hK7 | ⟨hK7, hB7⟩
          · exact Or.inl hK7
          · exact Or.inr ⟨hK7, fun B hB => by rw [a8 129 (by decide), a8 130 (by decide)]; exact hB7 B hB⟩
        · rw [a8 a (by omega), fr7 a n1 n2 n3, fr6 a n1 n2 n3]
        · rw [ne8 a j (by omega), ent7 a j n1 n2 (by omega), ne6 a j (by omega), ent5 a j n1 n2 (by omega), ne4 a j (by omega), fr3 a (by omega) (by omega), e2 a j (by omega)]
        · have v7 : ∀ a, 138 ≤ a → a ≤ 143 → A7 a k = A6 a k := fun a h1 h2 => ent7 a k h1 h2 (by omega)
          refine ⟨?_, ?_, ?_, ?_⟩
          · rw [a8 139 (by decide), v7 139 (by omega) (by omega), a6 139 (by decide), u5 139 (by omega) (by omega), a4 139 (by decide), fr3 139 (by omega) (by omega), x1]; exact e39
          · rw [a8 140 (by decide), v7 140 (by omega) (by omega), a6 140 (by decide), u5 140 (by omega) (by omega), a4 140 (by decide), fr3 140 (by omega) (by omega), y1]; exact e40
          · rw [a8 143 (by decide), v7 143 (by omega) (by omega), a6 143 (by decide), u5 143 (by omega) (by omega), a4 143 (by decide), fr3 143 (by omega) (by omega)]; exact e43
          · rw [if_neg he, ef, es]
            refine ⟨?_, ?_, ?_, ?_, ?_⟩
            · rw [a8 138 (by decide), v7 138 (by omega) (by omega), a6 138 (by decide), u5 138 (by omega) (by omega), a48, jupd_same, hcut, if_neg (by omega)]
            · rw [a8 141 (by decide), v7 141 (by omega) (by omega), a61, jupd_same]
            · rw [a82, jupd_same]
            · refine jtc_congr m _ _ _ (fun a j h1 h2 h3 h4 => ?_) tr5
              rw [ne8 a j (by omega), ent7 a j h1 h2 (by omega), ne6 a j (by omega)]
            · refine jtc_congr m _ _ _ (fun a j h1 h2 h3 h4 => ?_) tr7
              rw [ne8 a j (by omega)]
      · rw [x1] at hp
        have hcut : jcut v R C (32 * x + y) = 32 * s := ec
        have ebp : jbp v R C (32 * x + y) = s := by unfold jbp; rw [hcut, if_pos (by have := (jpt_lt x (by omega) s hs hp).1; omega), show 32 * s / 32 = s by omega]
        have s3 := jpt_lt x (by omega) s hs hp
        have px := jpop_x x (by omega) s hs hp
        have pz := jpt_x (by omega) hs hp
        rw [pz] at px
        have q1 := jpop_1 (x - s) (by omega) (by omega)
        have q2 := jpop_1 s (by omega) (by omega)
        have ef : jfr v R C (32 * x + y) = 32 * (x - s) + y := by
          unfold jfr
          rw [hcut, if_neg (by omega), x1, y1]
          rw [show 32 * s / 32 = s by omega]
          rw [pz]
        have es : jsn v R C (32 * x + y) = 32 * s + y := by
          unfold jsn
          rw [hcut, if_neg (by omega), y1]
        rw [ef] at b1 l1 l1' hA
        rw [es] at b2 l2 l2' hA
        have b1' := jblk_iff.mp b1
        have b2' := jblk_iff.mp b2
        have r1 := jar_1 (B := 32 * (x - s) + y) (by omega) (by omega) (by omega)
        have r2 := jar_1 (B := 32 * s + y) (by omega) (by omega) (by omega)
        have S1 := jtS_le (v := v) hr hc m _ b1
        have S2 := jtS_le (v := v) hr hc m _ b2
        have hR4 := hR3.wi (a := 138) (f := upd (A3 138) k (nI 0)) rfl
        have hD4 := hD3.wi (a := 138) (n := 49) (f := upd (A3 138) k (nI 0)) (by decide)
        rw [ebp]
        simp (disch := omega) only [s64_125, s64_127, s64_129, s64_131, s64_132, s64_134, s64_136, s64_138, s64_188, s64_189, s64_192, s64_194, s64_195, s64_196, s64_197, s64_200, s64_202, s64_203, s64_204, s64_206, s64_207, s64_208, s64_209, s64_210, s64_211, Option.some.injEq, exists_eq_left', exists_eq_left, List.cons_append, List.nil_append, List.length_nil, List.length_cons, Nat.reduceAdd, Nat.reduceMul, Nat.reduceSub, Nat.reduceLeDiff, true_and, and_true, ↓reduceIte, not_false_eq_true, not_true_eq_false, nI_add, pk_mul, jn_ltT, jn_ltF, jn_leT, jn_leF, jn_eqT, jn_eqF, jn_lt0, jn_ge0, jn_eq0T, jn_eq0F, jn_in, jn_cl, jh_ai_wi, jh_ai_wi_ne, jh_ai_uf, jh_fl_wi_ne, jh_fl_uf_ne, jh_fl_uf_o, jh_cl_wi_ne, jh_cl_uf, jh_al_wi_ne, jh_al_uf, jh_al_wl, jh_al_wl_ne, jh_ai_wl_ne, jh_fl_wl_ne, jh_cl_wl_ne, jh_ar_wi_ne, jh_ar_uf, jh_ar_wl_ne, jh_1_wi, jh_1_uf, jh_1_wl, jf_137_2 hR3, jf_137_5 hR3, ja_138 hR3, jc_of_137 hR3, jn_div, jn_rem2, jn_sub, show s - s / 32 * 32 = s by omega]
        have dl : ∃ d', d + (jpop x + jpop y) + 3 = d' + (jpop (x - s) + jpop y) + 4 := ⟨d + (jpop x + jpop y) - 1 - (jpop (x - s) + jpop y), by omega⟩
        obtain ⟨d', ed⟩ := dl
        rw [show d + (jpop x + jpop y) + 3 = d' + (jpop (x - s) + jpop y) + 4 from ed]
        generalize jx_wi h3 138 49 (upd (A3 138) k (nI 0)) = h4 at hR4 hD4 ⊢
        generalize eA4 : jua A3 138 (upd (A3 138) k (nI 0)) = A4 at hR4
        have a4 : ∀ a, a ≠ 138 → A4 a = A3 a := fun a na => by rw [← eA4, jua_ne na]
        have a48 : A4 138 = upd (A3 138) k (nI 0) := by rw [← eA4, jua_same]
        refine ih _ _ l1' b1 (by omega) d' A4 h4 (k + 1) (D + 1) 1 (hM.fr rfl rfl (by rw [a4 100 (by decide), fr3 100 (by omega) (by omega)]; exact m2 100 (by omega)) (by rw [a4 101 (by decide), fr3 101 (by omega) (by omega)]; exact m2 101 (by omega))) (hP.fr (by rw [a4 126 (by decide), fr3 126 (by omega) (by omega)]; exact m2 126 (by omega)) (by rw [a4 127 (by decide), fr3 127 (by omega) (by omega)]; exact m2 127 (by omega))) (Or.inr ⟨rfl, fun B hB => by rw [a4 129 (by decide), a4 130 (by decide)]; exact hB3 B hB⟩) hR4 hD4 (by omega) (by omega) (fun q5 A5 h5 hK5 fr5 ent5 tr5 hR5 hD5 => ?_)
        have u5 : ∀ a, 138 ≤ a → a ≤ 143 → A5 a k = A4 a k := fun a h1 h2 => ent5 a k h1 h2 (by omega)
        have hR6 := hR5.wi (a := 141) (f := upd (A5 141) k (nI (k + 1))) rfl
        have hD6 := hD5.wi (a := 141) (n := 49) (f := upd (A5 141) k (nI (k + 1))) (by decide)
        simp (disch := omega) only [s64_214, s64_215, s64_216, s64_219, s64_221, s64_222, s64_224, s64_225, s64_226, s64_227, s64_228, Option.some.injEq, exists_eq_left', exists_eq_left, List.cons_append, List.nil_append, List.length_nil, List.length_cons, Nat.reduceAdd, Nat.reduceMul, Nat.reduceSub, Nat.reduceLeDiff, true_and, and_true, ↓reduceIte, not_false_eq_true, not_true_eq_false, nI_add, pk_mul, jn_ltT, jn_ltF, jn_leT, jn_leF, jn_eqT, jn_eqF, jn_lt0, jn_ge0, jn_eq0T, jn_eq0F, jn_in, jn_cl, jh_ai_wi, jh_ai_wi_ne, jh_ai_uf, jh_fl_wi_ne, jh_fl_uf_ne, jh_fl_uf_o, jh_cl_wi_ne, jh_cl_uf, jh_al_wi_ne, jh_al_uf, jh_al_wl, jh_al_wl_ne, jh_ai_wl_ne, jh_fl_wl_ne, jh_cl_wl_ne, jh_ar_wi_ne, jh_ar_uf, jh_ar_wl_ne, jh_1_wi, jh_1_uf, jh_1_wl, jf_137_6 hR5, ja_141 hR5, jc_of_137 hR5]
        have dl : ∃ d', d + (jpop x + jpop y) + 3 = d' + (jpop s + jpop y) + 4 := ⟨d + (jpop x + jpop y) - 1 - (jpop s + jpop y), by omega⟩
        obtain ⟨d2, ed2⟩ := dl
        rw [show d' + (jpop (x - s) + jpop y) + 4 = d2 + (jpop s + jpop y) + 4 by omega]
        generalize jx_wi h5 141 49 (upd (A5 141) k (nI (k + 1))) = h6 at hR6 hD6 ⊢
        generalize eA6 : jua A5 141 (upd (A5 141) k (nI (k + 1))) = A6 at hR6
        have a6 : ∀ a, a ≠ 141 → A6 a = A5 a := fun a na => by rw [← eA6, jua_ne na]
        have a61 : A6 141 = upd (A5 141) k (nI (k + 1)) := by rw [← eA6, jua_same]
        have fr6 : ∀ a, a ≠ 129 → a ≠ 130 → (a < 138 ∨ 143 < a) → A6 a = A1 a := fun a n1 n2 n3 => by rw [a6 a (by omega), fr5 a n1 n2 n3, a4 a (by omega), fr3 a n1 n2, m2 a n3]
        refine ih _ _ l2' b2 (by omega) d2 A6 h6 (k + 1 + jtS v R C m (32 * (x - s) + y)) (D + 1) q5 (hM.fr rfl rfl (fr6 100 (by decide) (by decide) (by omega)) (fr6 101 (by decide) (by decide) (by omega))) (hP.fr (fr6 126 (by decide) (by decide) (by omega)) (fr6 127 (by decide) (by decide) (by omega))) (by
          rcases hK5 with hK5 | ⟨hK5, hB5⟩
          · exact Or.inl hK5
          · exact Or.inr ⟨hK5, fun B hB => by rw [a6 129 (by decide), a6 130 (by decide)]; exact hB5 B hB⟩) hR6 hD6 (by omega) (by omega) (fun q7 A7 h7 hK7 fr7 ent7 tr7 hR7 hD7 => ?_)
        have hR8 := hR7.wi (a := 142) (f := upd (A7 142) k (nI (k + 1 + jtS v R C m (32 * (x - s) + y)))) rfl
        have hD8 := hD7.wi (a := 142) (n := 49) (f := upd (A7 142) k (nI (k + 1 + jtS v R C m (32 * (x - s) + y)))) (by decide)
        simp (disch := omega) only [s64_231, s64_232, s64_234, Option.some.injEq, exists_eq_left', exists_eq_left, List.cons_append, List.nil_append, List.length_nil, List.length_cons, Nat.reduceAdd, Nat.reduceMul, Nat.reduceSub, Nat.reduceLeDiff, true_and, and_true, ↓reduceIte, not_false_eq_true, not_true_eq_false, nI_add, pk_mul, jn_ltT, jn_ltF, jn_leT, jn_leF, jn_eqT, jn_eqF, jn_lt0, jn_ge0, jn_eq0T, jn_eq0F, jn_in, jn_cl, jh_ai_wi, jh_ai_wi_ne, jh_ai_uf, jh_fl_wi_ne, jh_fl_uf_ne, jh_fl_uf_o, jh_cl_wi_ne, jh_cl_uf, jh_al_wi_ne, jh_al_uf, jh_al_wl, jh_al_wl_ne, jh_ai_wl_ne, jh_fl_wl_ne, jh_cl_wl_ne, jh_ar_wi_ne, jh_ar_uf, jh_ar_wl_ne, jh_1_wi, jh_1_uf, jh_1_wl, ja_142 hR7]
        generalize jx_wi h7 142 49 (upd (A7 142) k (nI (k + 1 + jtS v R C m (32 * (x - s) + y)))) = h8 at hR8 hD8 ⊢
        generalize eA8 : jua A7 142 (upd (A7 142) k (nI (k + 1 + jtS v R C m (32 * (x - s) + y)))) = A8 at hR8
        have a8 : ∀ a, a ≠ 142 → A8 a = A7 a := fun a na => by rw [← eA8, jua_ne na]
        have a82 : A8 142 = upd (A7 142) k (nI (k + 1 + jtS v R C m (32 * (x - s) + y))) := by rw [← eA8, jua_same]
        have ne8 : ∀ a j, j ≠ k → A8 a j = A7 a j := fun a j hj => by
          by_cases z : a = 142
          · subst z; rw [a82, jupd_ne hj]
          · rw [a8 a z]
        have ne6 : ∀ a j, j ≠ k → A6 a j = A5 a j := fun a j hj => by
          by_cases z : a = 141
          · subst z; rw [a61, jupd_ne hj]
          · rw [a6 a z]
        have ne4 : ∀ a j, j ≠ k → A4 a j = A3 a j := fun a j hj => by
          by_cases z : a = 138
          · subst z; rw [a48, jupd_ne hj]
          · rw [a4 a z]
        have eS : k + 1 + jtS v R C m (32 * (x - s) + y) + jtS v R C m (32 * s + y) = k + jtS v R C (m + 1) (32 * x + y) := by
          rw [jtS_s, if_neg he, ef, es]; omega
        rw [eS] at hR8
        refine kk q7 A8 h8 ?_ (fun a n1 n2 n3 => ?_) (fun a j n1 n2 n3 => ?_) ?_ hR8 hD8
        · rcases hK7 with hK7 | ⟨hK7, hB7⟩
          · exact Or.inl hK7
          · exact Or.inr ⟨hK7, fun B hB => by rw [a8 129 (by decide), a8 130 (by decide)]; exact hB7 B hB⟩
        · rw [a8 a (by omega), fr7 a n1 n2 n3, fr6 a n1 n2 n3]
        · rw [ne8 a j (by omega), ent7 a j n1 n2 (by omega), ne6 a j (by omega), ent5 a j n1 n2 (by omega), ne4 a j (by omega), fr3 a (by omega) (by omega), e2 a j (by omega)]
        · have v7 : ∀ a, 138 ≤ a → a ≤ 143 → A7 a k = A6 a k := fun a h1 h2 => ent7 a k h1 h2 (by omega)
          refine ⟨?_, ?_, ?_, ?_⟩
          · rw [a8 139 (by decide), v7 139 (by omega) (by omega), a6 139 (by decide), u5 139 (by omega) (by omega), a4 139 (by decide), fr3 139 (by omega) (by omega), x1]; exact e39
          · rw [a8 140 (by decide), v7 140 (by omega) (by omega), a6 140 (by decide), u5 140 (by omega) (by omega), a4 140 (by decide), fr3 140 (by omega) (by omega), y1]; exact e40
          · rw [a8 143 (by decide), v7 143 (by omega) (by omega), a6 143 (by decide), u5 143 (by omega) (by omega), a4 143 (by decide), fr3 143 (by omega) (by omega)]; exact e43
          · rw [if_neg he, ef, es]
            refine ⟨?_, ?_, ?_, ?_, ?_⟩
            · rw [a8 138 (by decide), v7 138 (by omega) (by omega), a6 138 (by decide), u5 138 (by omega) (by omega), a48, jupd_same, hcut, if_pos (by omega)]
            · rw [a8 141 (by decide), v7 141 (by omega) (by omega), a61, jupd_same]
            · rw [a82, jupd_same]
            · refine jtc_congr m _ _ _ (fun a j h1 h2 h3 h4 => ?_) tr5
              rw [ne8 a j (by omega), ent7 a j h1 h2 (by omega), ne6 a j (by omega)]
            · refine jtc_congr m _ _ _ (fun a j h1 h2 h3 h4 => ?_) tr7
              rw [ne8 a j (by omega)]
end CL13
