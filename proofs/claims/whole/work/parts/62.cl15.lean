/-! ===== the class: told talks are judged ===== -/
section CL15
variable {d : Nat} {F : Nat → Nat → Nat} {A : Nat → Nat → Int32} {G : Nat → Option Nat} {g : Nat → Int64} {h : jxH} {Q : List Value → jxH → Prop}
theorem jI_n (x : Int32) : x = nI x.toBitVec.toNat := by
  apply Int32.toBitVec_inj.mp
  show x.toBitVec = BitVec.ofNat 32 x.toBitVec.toNat
  rw [BitVec.ofNat_toNat, BitVec.setWidth_eq]
theorem jI_sub {x : Int32} {y : Nat} (hy : y < 32) (e : x &&& nI y = x) : ∃ t, t < 32 ∧ x = nI t := by
  refine ⟨x.toBitVec.toNat &&& y, Nat.lt_of_le_of_lt Nat.and_le_right hy, ?_⟩
  rw [← jn_and, ← jI_n, e]
theorem jprs' : ∀ x, x < 32 → 1 ≤ x → ∀ t, t < 32 → ((decide (t ≠ 0) && (t &&& (x &&& (x - 1)) == t)) == jpt x t) = true := by decide +kernel
theorem jprs {x t : Nat} (hx : x < 32) (x1 : 1 ≤ x) (ht : t < 32) : (t ≠ 0 ∧ t &&& (x &&& (x - 1)) = t) ↔ jpt x t = true := by
  have := beq_iff_eq.mp (jprs' x hx x1 t ht)
  rw [← this, Bool.and_eq_true, decide_eq_true_iff, beq_iff_eq]
theorem jup_c {o k1 k2 v w : Nat} (hk : k1 ≠ k2) : jup (jup F o k1 v) o k2 w = jup (jup F o k2 w) o k1 v := by
  funext a b
  unfold jup
  by_cases z : a = o ∧ b = k1
  · rw [if_neg (by omega), if_pos z, if_pos z]
  · rw [if_neg z]
    by_cases z2 : a = o ∧ b = k2
    · rw [if_pos z2, if_neg z]
    · rw [if_neg z2, if_neg z]
theorem ju45 {a b c : Nat} : jup (jup (jup F 144 4 a) 144 5 b) 144 4 c = jup (jup F 144 4 c) 144 5 b := by
  rw [jup_c (k1 := 5) (k2 := 4) (by decide), jup_jup]
theorem ju_endIsRight {v : Nat → Int32} {R C k b : Nat} (hR : jR (jup (jup F 144 4 k) 144 5 b) A G g h) (hM : jMk F A v R C) (hr : R ≤ 5) (hc : C ≤ 5) {x y D : Nat} (hx1 : 1 ≤ x) (hx : x < 2 ^ R) (hy : y < 32) (hb : b ≤ 100) (hD : D ≤ 100) (hk : k ≤ 200) {told : Int32} (kk : ∀ h', jR (jup (jup F 144 4 (if jend v R C (32 * x + y) told = true then k + 1 else k)) 144 5 (if jend v R C (32 * x + y) told = true then max b D else b)) A G g h' → jD h h' → Q [.int (nI (jend v R C (32 * x + y) told).toNat)] h') : jx_Go jxP (d + 1) 18 0 [.ref 144, .int (nI x), .int (nI y), .int told, .int (nI D)] [] h Q := by
  have p1 := jp2 _ hr
  have g4 : jup (jup F 144 4 k) 144 5 b 144 4 = k := by rw [jup_ne (Or.inr (by decide)), jup_same]
  have g5 : jup (jup F 144 4 k) 144 5 b 144 5 = b := jup_same
  have hM1 : jMk (jup (jup F 144 4 k) 144 5 b) A v R C := hM
  simp (disch := omega) only [s18_0, s18_1, Option.some.injEq, exists_eq_left', exists_eq_left, List.cons_append, List.nil_append, List.length_nil, List.length_cons, Nat.reduceAdd, Nat.reduceMul, Nat.reduceSub, Nat.reduceLeDiff, true_and, and_true, ↓reduceIte, not_false_eq_true, not_true_eq_false, nI_add, pk_mul, jn_ltT, jn_ltF, jn_leT, jn_leF, jn_eqT, jn_eqF, jn_lt0, jn_ge0, jn_eq0T, jn_eq0F, jn_in, jn_cl, tb_isNoAnswer]
  by_cases w : jbel told 2 = true
  · obtain ⟨t, ht, et⟩ := (jbel_iff (by omega)).mp w
    subst et
    rw [if_pos w]
    have l1 := jmo_lt (v := v) (R := R) (x := x) (u := nI (1 - t)) hc
    have an : jmo v R C x (nI (1 - t)) &&& y < 32 := Nat.lt_of_le_of_lt Nat.and_le_left l1
    have z1 : (nI (jmo v R C x (nI (1 - t)) &&& y) = 0) = (jhz v R C (32 * x + y) (nI (1 - t)) = false) := by
      rw [← jmo_hz hy, show (0 : Int32) = nI 0 from rfl, jn_eq (by omega) (by omega)]
    have cw : ∀ (d : Nat) (Q : List Value → jxH → Prop), jx_Go jxP d 32 0 [.ref 99, .int (nI (1 - t)), .int (nI x)] [] h Q ↔ Q [.int (nI (jmo v R C x (nI (1 - t))))] h := fun d Q => ma_columnsWith hR hM1 hr (by omega) hx1 hx
    have je : jend v R C (32 * x + y) (nI t) = !jhz v R C (32 * x + y) (nI (1 - t)) := by
      rcases (show t = 0 ∨ t = 1 by omega) with e | e <;> subst e
      · exact jend0
      · exact jend1
    rw [je] at kk
    cases hz : jhz v R C (32 * x + y) (nI (1 - t)) with
    | true =>
      rw [hz] at kk
      have z1' := z1.trans (eq_false (by rw [hz]; decide))
      have id : jup (jup F 144 4 k) 144 5 b = jup (jup F 144 4 k) 144 5 b := rfl
      simp (disch := omega) only [s18_4, s18_7, s18_8, s18_11, s18_12, s18_13, s18_14, s18_15, s18_18, s18_19, s18_20, s18_23, s18_24b0, s18_24b1, Option.some.injEq, exists_eq_left', exists_eq_left, List.cons_append, List.nil_append, List.length_nil, List.length_cons, Nat.reduceAdd, Nat.reduceMul, Nat.reduceSub, Nat.reduceLeDiff, true_and, and_true, ↓reduceIte, not_false_eq_true, not_true_eq_false, nI_add, pk_mul, jn_ltT, jn_ltF, jn_leT, jn_leF, jn_eqT, jn_eqF, jn_lt0, jn_ge0, jn_eq0T, jn_eq0F, jn_in, jn_cl, jf_144_1 hR, jc_of_99 hR, jn_sub, cw, jn_and, z1']
      exact kk h hR jD.rf
    | false =>
      rw [hz] at kk
      have z1' := z1.trans (eq_true hz)
      simp (disch := first | omega | decide) only [s18_4, s18_7, s18_8, s18_11, s18_12, s18_13, s18_14, s18_15, s18_18, s18_19, s18_20, s18_25, s18_26i, s18_26r, s18_27, s18_30, s18_31, s18_32, s18_35, s18_36, s18_37, s18_40, s18_42, s18_45, s18_48, s18_49b0, s18_49b1, Option.some.injEq, exists_eq_left', exists_eq_left, List.cons_append, List.nil_append, List.length_nil, List.length_cons, Nat.reduceAdd, Nat.reduceMul, Nat.reduceSub, Nat.reduceLeDiff, true_and, and_true, ↓reduceIte, not_false_eq_true, not_true_eq_false, nI_add, pk_mul, jn_ltT, jn_ltF, jn_leT, jn_leF, jn_eqT, jn_eqF, jn_lt0, jn_ge0, jn_eq0T, jn_eq0F, jn_in, jn_cl, jh_ai_wi, jh_ai_wi_ne, jh_ai_uf, jh_fl_wi_ne, jh_fl_uf_ne, jh_fl_uf_o, jh_cl_wi_ne, jh_cl_uf, jh_al_wi_ne, jh_al_uf, jh_al_wl, jh_al_wl_ne, jh_ai_wl_ne, jh_fl_wl_ne, jh_cl_wl_ne, jh_ar_wi_ne, jh_ar_uf, jh_ar_wl_ne, jh_1_wi, jh_1_uf, jh_1_wl, jf_144_1 hR, jf_144_4 hR, jf_144_5 hR, g4, g5, jc_of_99 hR, jn_sub, cw, jn_and, z1', jmax2]
      have hR2 := (hR.uf (o := 144) (k := 4) (v := k + 1) rfl rfl).uf (o := 144) (k := 5) (v := max b D) rfl rfl
      rw [ju45, jup_jup] at hR2
      exact kk _ hR2 ((jD.rf.uf (by decide)).uf (by decide))
  · rw [if_neg w]
    have je : jend v R C (32 * x + y) told = false := by
      apply Bool.eq_false_iff.mpr
      intro z
      apply w
      unfold jend at z
      rw [Bool.or_eq_true, Bool.and_eq_true, Bool.and_eq_true, beq_iff_eq, beq_iff_eq] at z
      rcases z with z | z
      · rw [z.1]; decide
      · rw [z.1]; decide
    rw [je] at kk
    simp (disch := omega) only [s18_4, s18_23, s18_24b0, s18_24b1, Option.some.injEq, exists_eq_left', exists_eq_left, List.cons_append, List.nil_append, List.length_nil, List.length_cons, Nat.reduceAdd, Nat.reduceMul, Nat.reduceSub, Nat.reduceLeDiff, true_and, and_true, ↓reduceIte, not_false_eq_true, not_true_eq_false, nI_add, pk_mul, jn_ltT, jn_ltF, jn_leT, jn_leF, jn_eqT, jn_eqF, jn_lt0, jn_ge0, jn_eq0T, jn_eq0F, jn_in, jn_cl]
    exact kk h hR jD.rf
theorem ju_isRight {v : Nat → Int32} {R C : Nat} (hM : jMk F A v R C) (hr : R ≤ 5) (hc : C ≤ 5) (hn : F 144 3 ≤ 120) : ∀ f x y, 32 * x + y < f → jblk R C (32 * x + y) = true → y < 32 → ∀ d h1 k D b, D + (jpop x + jpop y) ≤ 10 → k + 2 * jar (32 * x + y) ≤ 100 → b ≤ 60 → jR (jup (jup F 144 4 k) 144 5 b) A G g h1 → jD h h1 → ∀ {Q : List Value → jxH → Prop}, (∀ h2, jR (jup (jup F 144 4 (jck v R C (A 145) (F 144 3) f k (32 * x + y) D b).2.1) 144 5 (jck v R C (A 145) (F 144 3) f k (32 * x + y) D b).2.2) A G g h2 → jD h h2 → Q [.int (nI (jck v R C (A 145) (F 144 3) f k (32 * x + y) D b).1.toNat)] h2) → jx_Go jxP (d + (jpop x + jpop y) + 3) 17 0 [.ref 144, .int (nI x), .int (nI y), .int (nI D), jx_u, jx_u, jx_u, jx_u, jx_u] [] h1 Q := by
  have p1 := jp2 _ hr
  have p2 := jp2 _ hc
  intro f
  induction f with
  | zero => intro x y h1; omega
  | succ f ih =>
    intro x y hBf hb hy d h1 k D b hDp hk hbb hR1 hD1 Q kk
    have hb' := jblk_iff.mp hb
    have x1 : (32 * x + y) / 32 = x := by omega
    have y1 : (32 * x + y) % 32 = y := by omega
    rw [x1, y1] at hb'
    have ha := jar_1 (B := 32 * x + y) (by omega) (by omega) (by omega)
    have px1 := jpop_1 x (by omega) (by omega)
    have py1 := jpop_1 y (by omega) (by omega)
    have g3 : jup (jup F 144 4 k) 144 5 b 144 3 = F 144 3 := rfl
    have g4 : jup (jup F 144 4 k) 144 5 b 144 4 = k := by rw [jup_ne (Or.inr (by decide)), jup_same]
    rcases Nat.lt_or_ge (2 * k + 1) (F 144 3) with w | w
    · simp (disch := omega) only [s17_0, s17_1, s17_2, s17_5, s17_6, s17_8, s17_10, s17_11, s17_12, s17_13, s17_16, s17_19, s17_20, s17_22, s17_27, s17_28, s17_31, s17_33, s17_34, s17_36, s17_37, s17_40, s17_42, s17_43, s17_44, s17_45, Option.some.injEq, exists_eq_left', exists_eq_left, List.cons_append, List.nil_append, List.length_nil, List.length_cons, Nat.reduceAdd, Nat.reduceMul, Nat.reduceSub, Nat.reduceLeDiff, true_and, and_true, ↓reduceIte, not_false_eq_true, not_true_eq_false, nI_add, pk_mul, jn_ltT, jn_ltF, jn_leT, jn_leF, jn_eqT, jn_eqF, jn_lt0, jn_ge0, jn_eq0T, jn_eq0F, jn_in, jn_cl, jf_144_2 hR1, jf_144_3 hR1, jf_144_4 hR1, g3, g4, ja_145 hR1]
      by_cases w2 : A 145 (2 * k) = nI 2
      · rw [jck_e w w2] at kk
        simp (disch := omega) only [s17_47, s17_49, s17_50, s17_53, s17_54, s17_55, s17_56, s17_58, s17_59, Option.some.injEq, exists_eq_left', exists_eq_left, List.cons_append, List.nil_append, List.length_nil, List.length_cons, Nat.reduceAdd, Nat.reduceMul, Nat.reduceSub, Nat.reduceLeDiff, true_and, and_true, ↓reduceIte, not_false_eq_true, not_true_eq_false, nI_add, pk_mul, jn_ltT, jn_ltF, jn_leT, jn_leF, jn_eqT, jn_eqF, jn_lt0, jn_ge0, jn_eq0T, jn_eq0F, jn_in, jn_cl, w2, jc_of_144 hR1]
        refine ju_endIsRight hR1 hM hr hc (by omega) hb'.2.1 hy (by omega) (by omega) (by omega) (fun h2 hR2 hD2 => ?_)
        cases z : jend v R C (32 * x + y) (A 145 (2 * k + 1)) with
        | true =>
          rw [z, if_pos rfl] at kk
          rw [z, if_pos rfl, if_pos rfl] at hR2
          have k2 := kk h2 hR2 (hD1.tr hD2)
          simp (disch := omega) only [s17_62b0, s17_62b1, Option.some.injEq, exists_eq_left', exists_eq_left, List.cons_append, List.nil_append, List.length_nil, List.length_cons, Nat.reduceAdd, Nat.reduceMul, Nat.reduceSub, Nat.reduceLeDiff, true_and, and_true, ↓reduceIte, not_false_eq_true, not_true_eq_false, nI_add, pk_mul, jn_ltT, jn_ltF, jn_leT, jn_leF, jn_eqT, jn_eqF, jn_lt0, jn_ge0, jn_eq0T, jn_eq0F, jn_in, jn_cl, Bool.toNat_true]
          exact k2
        | false =>
          rw [z, if_neg (by decide)] at kk
          rw [z, if_neg (by decide), if_neg (by decide)] at hR2
          have k2 := kk h2 hR2 (hD1.tr hD2)
          simp (disch := omega) only [s17_62b0, s17_62b1, Option.some.injEq, exists_eq_left', exists_eq_left, List.cons_append, List.nil_append, List.length_nil, List.length_cons, Nat.reduceAdd, Nat.reduceMul, Nat.reduceSub, Nat.reduceLeDiff, true_and, and_true, ↓reduceIte, not_false_eq_true, not_true_eq_false, nI_add, pk_mul, jn_ltT, jn_ltF, jn_leT, jn_leF, jn_eqT, jn_eqF, jn_lt0, jn_ge0, jn_eq0T, jn_eq0F, jn_in, jn_cl, Bool.toNat_false]
          exact k2
      · by_cases w3 : jprt (A 145 (2 * k)) (A 145 (2 * k + 1)) (32 * x + y) = true
        · obtain ⟨a, t, i1, i2, i3, i4⟩ := jprt_t w3
          obtain ⟨b1, b2, l1, l2, hX, hS1, hS2, hA, ht⟩ := jpa_ok hr hc hb i3 i4
          rw [jck_p w i1 i2 i3 i4] at kk
          rw [x1, y1] at i4
          cases a with
          | true =>
            rw [if_pos rfl] at i1 i4
            obtain ⟨cc0, cc1⟩ := (jprs (by omega) (by omega) i3).mpr i4
            have c0 : (nI t = 0) = False := jn_eq0F (by omega) (by omega)
            have c1 : t &&& (x &&& (x - 1)) = t := cc1
            have s3 := jpt_lt x (by omega) t i3 i4
            have px := jpop_x x (by omega) t i3 i4
            have pz := jpt_x (by omega) i3 i4
            rw [pz] at px
            have q1 := jpop_1 (x - t) (by omega) (by omega)
            have q2 := jpop_1 t (by omega) (by omega)
            have ef : jfA true (32 * x + y) t = 32 * (x - t) + y := by
              unfold jfA
              rw [if_pos rfl, x1, y1, pz]
            have es : jsA true (32 * x + y) t = 32 * t + y := by
              unfold jsA
              rw [if_pos rfl, y1]
            rw [ef] at b1 l1 hA
            rw [es] at b2 l2 hA
            rw [ef, es] at kk
            have b1' := jblk_iff.mp b1
            have b2' := jblk_iff.mp b2
            have r1 := jar_1 (B := 32 * (x - t) + y) (by omega) (by omega) (by omega)
            have r2 := jar_1 (B := 32 * t + y) (by omega) (by omega) (by omega)
            have le1 := jck_le (v := v) (wt := A 145) (n := F 144 3) hr hc f (k + 1) _ (D + 1) b b1
            simp (disch := first | omega | decide) only [s17_47, s17_49, s17_50, s17_63, s17_65, s17_76, s17_78, s17_81, s17_82, s17_86, s17_88, s17_90, s17_92, s17_93, s17_94, s17_95, s17_97, s17_99, s17_102, s17_104, s17_106, s17_107, s17_109, s17_112, s17_113b0, s17_113b1, s17_114, s17_115i, s17_115r, s17_116, s17_119, s17_120, s17_121, s17_124, s17_126, s17_129, s17_130, s17_131, s17_133, s17_134, s17_135, s17_136, s17_137, s17_138, Option.some.injEq, exists_eq_left', exists_eq_left, List.cons_append, List.nil_append, List.length_nil, List.length_cons, Nat.reduceAdd, Nat.reduceMul, Nat.reduceSub, Nat.reduceLeDiff, true_and, and_true, ↓reduceIte, not_false_eq_true, not_true_eq_false, nI_add, pk_mul, jn_ltT, jn_ltF, jn_leT, jn_leF, jn_eqT, jn_eqF, jn_lt0, jn_ge0, jn_eq0T, jn_eq0F, jn_in, jn_cl, jh_ai_wi, jh_ai_wi_ne, jh_ai_uf, jh_fl_wi_ne, jh_fl_uf_ne, jh_fl_uf_o, jh_cl_wi_ne, jh_cl_uf, jh_al_wi_ne, jh_al_uf, jh_al_wl, jh_al_wl_ne, jh_ai_wl_ne, jh_fl_wl_ne, jh_cl_wl_ne, jh_ar_wi_ne, jh_ar_uf, jh_ar_wl_ne, jh_1_wi, jh_1_uf, jh_1_wl, i1, i2, jn_sub, jn_and, c0, c1, jf_144_4 hR1, g4, jc_of_144 hR1]
            have hR2 := hR1.uf (o := 144) (k := 4) (v := k + 1) rfl rfl
            have hD2 := hD1.uf (a := 144) (k := 4) (v := .int (nI (k + 1))) (by decide)
            rw [ju45] at hR2
            obtain ⟨d', ed⟩ : ∃ d', d + (jpop x + jpop y) + 2 = d' + (jpop (x - t) + jpop y) + 3 := ⟨d + (jpop x + jpop y) - 1 - (jpop (x - t) + jpop y), by omega⟩
            rw [show d + (jpop x + jpop y) + 2 = d' + (jpop (x - t) + jpop y) + 3 from ed]
            generalize jx_uf h1 144 4 (.int (nI (k + 1))) = h2 at hR2 hD2 ⊢
            refine ih _ _ (by omega) b1 (by omega) d' h2 (k + 1) (D + 1) b (by omega) (by omega) (by omega) hR2 hD2 (fun h3 hR3 hD3 => ?_)
            cases z1 : (jck v R C (A 145) (F 144 3) f (k + 1) (32 * (x - t) + y) (D + 1) b).1 with
            | false =>
              rw [z1, if_neg (by decide)] at kk
              rw [z1] at kk
              have k2 := kk h3 hR3 hD3
              simp (disch := omega) only [s17_141, s17_161, s17_162b0, s17_162b1, Option.some.injEq, exists_eq_left', exists_eq_left, List.cons_append, List.nil_append, List.length_nil, List.length_cons, Nat.reduceAdd, Nat.reduceMul, Nat.reduceSub, Nat.reduceLeDiff, true_and, and_true, ↓reduceIte, not_false_eq_true, not_true_eq_false, nI_add, pk_mul, jn_ltT, jn_ltF, jn_leT, jn_leF, jn_eqT, jn_eqF, jn_lt0, jn_ge0, jn_eq0T, jn_eq0F, jn_in, jn_cl, Bool.toNat_false]
              exact k2
            | true =>
              rw [z1, if_pos rfl] at kk
              simp (disch := omega) only [s17_141, s17_144, s17_145, s17_147, s17_148, s17_149, s17_150, s17_151, Option.some.injEq, exists_eq_left', exists_eq_left, List.cons_append, List.nil_append, List.length_nil, List.length_cons, Nat.reduceAdd, Nat.reduceMul, Nat.reduceSub, Nat.reduceLeDiff, true_and, and_true, ↓reduceIte, not_false_eq_true, not_true_eq_false, nI_add, pk_mul, jn_ltT, jn_ltF, jn_leT, jn_leF, jn_eqT, jn_eqF, jn_lt0, jn_ge0, jn_eq0T, jn_eq0F, jn_in, jn_cl, jc_of_144 hR3, Bool.toNat_true]
              obtain ⟨d2, ed2⟩ : ∃ d', d + (jpop x + jpop y) + 2 = d' + (jpop t + jpop y) + 3 := ⟨d + (jpop x + jpop y) - 1 - (jpop t + jpop y), by omega⟩
              rw [show d' + (jpop (x - t) + jpop y) + 3 = d2 + (jpop t + jpop y) + 3 by omega]
              refine ih _ _ (by omega) b2 (by omega) d2 h3 _ (D + 1) _ (by omega) (by omega) (by omega) hR3 hD3 (fun h4 hR4 hD4 => ?_)
              have k2 := kk h4 hR4 hD4
              cases z2 : (jck v R C (A 145) (F 144 3) f (jck v R C (A 145) (F 144 3) f (k + 1) (32 * (x - t) + y) (D + 1) b).2.1 (32 * t + y) (D + 1) (jck v R C (A 145) (F 144 3) f (k + 1) (32 * (x - t) + y) (D + 1) b).2.2).1 with
              | false =>
                rw [z2] at k2
                simp (disch := omega) only [s17_154, s17_161, s17_162b0, s17_162b1, Option.some.injEq, exists_eq_left', exists_eq_left, List.cons_append, List.nil_append, List.length_nil, List.length_cons, Nat.reduceAdd, Nat.reduceMul, Nat.reduceSub, Nat.reduceLeDiff, true_and, and_true, ↓reduceIte, not_false_eq_true, not_true_eq_false, nI_add, pk_mul, jn_ltT, jn_ltF, jn_leT, jn_leF, jn_eqT, jn_eqF, jn_lt0, jn_ge0, jn_eq0T, jn_eq0F, jn_in, jn_cl, Bool.toNat_false]
                exact k2
              | true =>
                rw [z2] at k2
                simp (disch := omega) only [s17_154, s17_157, s17_158, s17_162b0, s17_162b1, Option.some.injEq, exists_eq_left', exists_eq_left, List.cons_append, List.nil_append, List.length_nil, List.length_cons, Nat.reduceAdd, Nat.reduceMul, Nat.reduceSub, Nat.reduceLeDiff, true_and, and_true, ↓reduceIte, not_false_eq_true, not_true_eq_false, nI_add, pk_mul, jn_ltT, jn_ltF, jn_leT, jn_leF, jn_eqT, jn_eqF, jn_lt0, jn_ge0, jn_eq0T, jn_eq0F, jn_in, jn_cl, Bool.toNat_true]
                exact k2
          | false =>
            rw [if_neg (by decide)] at i1 i4
            obtain ⟨cc0, cc1⟩ := (jprs (by omega) (by omega) i3).mpr i4
            have c0 : (nI t = 0) = False := jn_eq0F (by omega) (by omega)
            have c1 : t &&& (y &&& (y - 1)) = t := cc1
            have s3 := jpt_lt y (by omega) t i3 i4
            have px := jpop_x y (by omega) t i3 i4
            have pz := jpt_x (by omega) i3 i4
            rw [pz] at px
            have q1 := jpop_1 (y - t) (by omega) (by omega)
            have q2 := jpop_1 t (by omega) (by omega)
            have ef : jfA false (32 * x + y) t = 32 * x + (y - t) := by
              unfold jfA
              rw [if_neg (by decide), x1, y1, pz]
            have es : jsA false (32 * x + y) t = 32 * x + t := by
              unfold jsA
              rw [if_neg (by decide), x1]
            rw [ef] at b1 l1 hA
            rw [es] at b2 l2 hA
            rw [ef, es] at kk
            have b1' := jblk_iff.mp b1
            have b2' := jblk_iff.mp b2
            have r1 := jar_1 (B := 32 * x + (y - t)) (by omega) (by omega) (by omega)
            have r2 := jar_1 (B := 32 * x + t) (by omega) (by omega) (by omega)
            have le1 := jck_le (v := v) (wt := A 145) (n := F 144 3) hr hc f (k + 1) _ (D + 1) b b1
            simp (disch := first | omega | decide) only [s17_47, s17_49, s17_50, s17_63, s17_65, s17_68, s17_70, s17_71, s17_76, s17_78, s17_85, s17_86, s17_88, s17_90, s17_92, s17_93, s17_94, s17_95, s17_97, s17_99, s17_102, s17_104, s17_106, s17_107, s17_109, s17_112, s17_113b0, s17_113b1, s17_114, s17_115i, s17_115r, s17_116, s17_119, s17_120, s17_121, s17_124, s17_126, s17_163, s17_164, s17_165, s17_166, s17_168, s17_169, s17_170, s17_171, s17_172, Option.some.injEq, exists_eq_left', exists_eq_left, List.cons_append, List.nil_append, List.length_nil, List.length_cons, Nat.reduceAdd, Nat.reduceMul, Nat.reduceSub, Nat.reduceLeDiff, true_and, and_true, ↓reduceIte, not_false_eq_true, not_true_eq_false, nI_add, pk_mul, jn_ltT, jn_ltF, jn_leT, jn_leF, jn_eqT, jn_eqF, jn_lt0, jn_ge0, jn_eq0T, jn_eq0F, jn_in, jn_cl, jh_ai_wi, jh_ai_wi_ne, jh_ai_uf, jh_fl_wi_ne, jh_fl_uf_ne, jh_fl_uf_o, jh_cl_wi_ne, jh_cl_uf, jh_al_wi_ne, jh_al_uf, jh_al_wl, jh_al_wl_ne, jh_ai_wl_ne, jh_fl_wl_ne, jh_cl_wl_ne, jh_ar_wi_ne, jh_ar_uf, jh_ar_wl_ne, jh_1_wi, jh_1_uf, jh_1_wl, i1, i2, jn_sub, jn_and, c0, c1, jf_144_4 hR1, g4, jc_of_144 hR1]
            have hR2 := hR1.uf (o := 144) (k := 4) (v := k + 1) rfl rfl
            have hD2 := hD1.uf (a := 144) (k := 4) (v := .int (nI (k + 1))) (by decide)
            rw [ju45] at hR2
            obtain ⟨d', ed⟩ : ∃ d', d + (jpop x + jpop y) + 2 = d' + (jpop x + jpop (y - t)) + 3 := ⟨d + (jpop x + jpop y) - 1 - (jpop x + jpop (y - t)), by omega⟩
            rw [show d + (jpop x + jpop y) + 2 = d' + (jpop x + jpop (y - t)) + 3 from ed]
            generalize jx_uf h1 144 4 (.int (nI (k + 1))) = h2 at hR2 hD2 ⊢
            refine ih _ _ (by omega) b1 (by omega) d' h2 (k + 1) (D + 1) b (by omega) (by omega) (by omega) hR2 hD2 (fun h3 hR3 hD3 => ?_)
            cases z1 : (jck v R C (A 145) (F 144 3) f (k + 1) (32 * x + (y - t)) (D + 1) b).1 with
            | false =>
              rw [z1, if_neg (by decide)] at kk
              rw [z1] at kk
              have k2 := kk h3 hR3 hD3
              simp (disch := omega) only [s17_175, s17_195, s17_196b0, s17_196b1, Option.some.injEq, exists_eq_left', exists_eq_left, List.cons_append, List.nil_append, List.length_nil, List.length_cons, Nat.reduceAdd, Nat.reduceMul, Nat.reduceSub, Nat.reduceLeDiff, true_and, and_true, ↓reduceIte, not_false_eq_true, not_true_eq_false, nI_add, pk_mul, jn_ltT, jn_ltF, jn_leT, jn_leF, jn_eqT, jn_eqF, jn_lt0, jn_ge0, jn_eq0T, jn_eq0F, jn_in, jn_cl, Bool.toNat_false]
              exact k2
            | true =>
              rw [z1, if_pos rfl] at kk
              simp (disch := omega) only [s17_175, s17_178, s17_179, s17_180, s17_182, s17_183, s17_184, s17_185, Option.some.injEq, exists_eq_left', exists_eq_left, List.cons_append, List.nil_append, List.length_nil, List.length_cons, Nat.reduceAdd, Nat.reduceMul, Nat.reduceSub, Nat.reduceLeDiff, true_and, and_true, ↓reduceIte, not_false_eq_true, not_true_eq_false, nI_add, pk_mul, jn_ltT, jn_ltF, jn_leT, jn_leF, jn_eqT, jn_eqF, jn_lt0, jn_ge0, jn_eq0T, jn_eq0F, jn_in, jn_cl, jc_of_144 hR3, Bool.toNat_true]
              obtain ⟨d2, ed2⟩ : ∃ d', d + (jpop x + jpop y) + 2 = d' + (jpop x + jpop t) + 3 := ⟨d + (jpop x + jpop y) - 1 - (jpop x + jpop t), by omega⟩
              rw [show d' + (jpop x + jpop (y - t)) + 3 = d2 + (jpop x + jpop t) + 3 by omega]
              refine ih _ _ (by omega) b2 (by omega) d2 h3 _ (D + 1) _ (by omega) (by omega) (by omega) hR3 hD3 (fun h4 hR4 hD4 => ?_)
              have k2 := kk h4 hR4 hD4
              cases z2 : (jck v R C (A 145) (F 144 3) f (jck v R C (A 145) (F 144 3) f (k + 1) (32 * x + (y - t)) (D + 1) b).2.1 (32 * x + t) (D + 1) (jck v R C (A 145) (F 144 3) f (k + 1) (32 * x + (y - t)) (D + 1) b).2.2).1 with
              | false =>
                rw [z2] at k2
                simp (disch := omega) only [s17_188, s17_195, s17_196b0, s17_196b1, Option.some.injEq, exists_eq_left', exists_eq_left, List.cons_append, List.nil_append, List.length_nil, List.length_cons, Nat.reduceAdd, Nat.reduceMul, Nat.reduceSub, Nat.reduceLeDiff, true_and, and_true, ↓reduceIte, not_false_eq_true, not_true_eq_false, nI_add, pk_mul, jn_ltT, jn_ltF, jn_leT, jn_leF, jn_eqT, jn_eqF, jn_lt0, jn_ge0, jn_eq0T, jn_eq0F, jn_in, jn_cl, Bool.toNat_false]
                exact k2
              | true =>
                rw [z2] at k2
                simp (disch := omega) only [s17_188, s17_191, s17_192, s17_196b0, s17_196b1, Option.some.injEq, exists_eq_left', exists_eq_left, List.cons_append, List.nil_append, List.length_nil, List.length_cons, Nat.reduceAdd, Nat.reduceMul, Nat.reduceSub, Nat.reduceLeDiff, true_and, and_true, ↓reduceIte, not_false_eq_true, not_true_eq_false, nI_add, pk_mul, jn_ltT, jn_ltF, jn_leT, jn_leF, jn_eqT, jn_eqF, jn_lt0, jn_ge0, jn_eq0T, jn_eq0F, jn_in, jn_cl, Bool.toNat_true]
                exact k2
        · rw [jck_b w w2 w3] at kk
          have k2 := kk h1 hR1 hD1
          unfold jprt at w3
          rw [Bool.or_eq_true, Bool.and_eq_true, not_or] at w3
          obtain ⟨w3, w4⟩ := w3
          have k97 : ∀ z, 1 ≤ z → z < 32 → ¬ jin z (A 145 (2 * k + 1)) = true → ∀ w7, jx_Go jxP (d + (jpop x + jpop y) + 3) 17 97 [.ref 144, .int (nI x), .int (nI y), .int (nI D), .int (nI (2 * k)), .int (A 145 (2 * k)), .int (A 145 (2 * k + 1)), w7, .int (nI (z &&& (z - 1)))] [] h1 Q := by
            intro z z1 z2 nj w7
            have zz : z &&& (z - 1) < 32 := Nat.lt_of_le_of_lt Nat.and_le_left z2
            by_cases t0 : A 145 (2 * k + 1) = 0
            · simp (disch := omega) only [s17_97, s17_99, s17_112, s17_113b0, s17_113b1, Option.some.injEq, exists_eq_left', exists_eq_left, List.cons_append, List.nil_append, List.length_nil, List.length_cons, Nat.reduceAdd, Nat.reduceMul, Nat.reduceSub, Nat.reduceLeDiff, true_and, and_true, ↓reduceIte, not_false_eq_true, not_true_eq_false, nI_add, pk_mul, jn_ltT, jn_ltF, jn_leT, jn_leF, jn_eqT, jn_eqF, jn_lt0, jn_ge0, jn_eq0T, jn_eq0F, jn_in, jn_cl, t0]
              exact k2
            · by_cases t1 : A 145 (2 * k + 1) &&& nI (z &&& (z - 1)) = A 145 (2 * k + 1)
              · exfalso
                obtain ⟨t, ht, et⟩ := jI_sub zz t1
                rw [et] at t0 t1 nj
                rw [jn_and, jn_eq (Nat.lt_of_le_of_lt Nat.and_le_left (by omega)) (by omega)] at t1
                apply nj
                unfold jin
                rw [jbel_n ht (by omega), jn_cl (by omega), Bool.true_and]
                exact (jprs z2 z1 ht).mp ⟨fun e => t0 (by rw [e]; rfl), t1⟩
              · simp (disch := omega) only [s17_97, s17_99, s17_102, s17_104, s17_106, s17_107, s17_109, s17_112, s17_113b0, s17_113b1, Option.some.injEq, exists_eq_left', exists_eq_left, List.cons_append, List.nil_append, List.length_nil, List.length_cons, Nat.reduceAdd, Nat.reduceMul, Nat.reduceSub, Nat.reduceLeDiff, true_and, and_true, ↓reduceIte, not_false_eq_true, not_true_eq_false, nI_add, pk_mul, jn_ltT, jn_ltF, jn_leT, jn_leF, jn_eqT, jn_eqF, jn_lt0, jn_ge0, jn_eq0T, jn_eq0F, jn_in, jn_cl, t0, t1]
                exact k2
          by_cases a0 : A 145 (2 * k) = nI 0
          · have nj : ¬ jin x (A 145 (2 * k + 1)) = true := by
              rw [a0, x1] at w3
              exact fun z => w3 ⟨by decide, z⟩
            have a0' : (A 145 (2 * k) = 0) = True := eq_true a0
            have k98 := k97 x (by omega) (by omega) nj
            rw [a0] at k98
            simp (disch := omega) only [s17_47, s17_49, s17_50, s17_63, s17_65, s17_76, s17_78, s17_81, s17_82, s17_86, s17_88, s17_90, s17_92, s17_93, s17_94, s17_95, Option.some.injEq, exists_eq_left', exists_eq_left, List.cons_append, List.nil_append, List.length_nil, List.length_cons, Nat.reduceAdd, Nat.reduceMul, Nat.reduceSub, Nat.reduceLeDiff, true_and, and_true, ↓reduceIte, not_false_eq_true, not_true_eq_false, nI_add, pk_mul, jn_ltT, jn_ltF, jn_leT, jn_leF, jn_eqT, jn_eqF, jn_lt0, jn_ge0, jn_eq0T, jn_eq0F, jn_in, jn_cl, a0, jn_sub, jn_and]
            exact k98 _
          · have a0' : ¬ A 145 (2 * k) = 0 := a0
            by_cases a1 : A 145 (2 * k) = nI 1
            · have nj : ¬ jin y (A 145 (2 * k + 1)) = true := by
                rw [a1, y1] at w4
                exact fun z => w4 (by rw [z]; decide)
              have k98 := k97 y (by omega) (by omega) nj
              rw [a1] at k98
              simp (disch := omega) only [s17_47, s17_49, s17_50, s17_63, s17_65, s17_68, s17_70, s17_71, s17_76, s17_78, s17_85, s17_86, s17_88, s17_90, s17_92, s17_93, s17_94, s17_95, Option.some.injEq, exists_eq_left', exists_eq_left, List.cons_append, List.nil_append, List.length_nil, List.length_cons, Nat.reduceAdd, Nat.reduceMul, Nat.reduceSub, Nat.reduceLeDiff, true_and, and_true, ↓reduceIte, not_false_eq_true, not_true_eq_false, nI_add, pk_mul, jn_ltT, jn_ltF, jn_leT, jn_leF, jn_eqT, jn_eqF, jn_lt0, jn_ge0, jn_eq0T, jn_eq0F, jn_in, jn_cl, a1, jn_sub, jn_and]
              exact k98 _
            · simp (disch := omega) only [s17_47, s17_49, s17_50, s17_63, s17_65, s17_68, s17_70, s17_71, s17_74, s17_75b0, s17_75b1, Option.some.injEq, exists_eq_left', exists_eq_left, List.cons_append, List.nil_append, List.length_nil, List.length_cons, Nat.reduceAdd, Nat.reduceMul, Nat.reduceSub, Nat.reduceLeDiff, true_and, and_true, ↓reduceIte, not_false_eq_true, not_true_eq_false, nI_add, pk_mul, jn_ltT, jn_ltF, jn_leT, jn_leF, jn_eqT, jn_eqF, jn_lt0, jn_ge0, jn_eq0T, jn_eq0F, jn_in, jn_cl, w2, a0', a1]
              exact k2
    · rw [jck_n w] at kk
      simp (disch := omega) only [s17_0, s17_1, s17_2, s17_5, s17_6, s17_8, s17_10, s17_11, s17_12, s17_13, s17_16, s17_25, s17_26b0, s17_26b1, Option.some.injEq, exists_eq_left', exists_eq_left, List.cons_append, List.nil_append, List.length_nil, List.length_cons, Nat.reduceAdd, Nat.reduceMul, Nat.reduceSub, Nat.reduceLeDiff, true_and, and_true, ↓reduceIte, not_false_eq_true, not_true_eq_false, nI_add, pk_mul, jn_ltT, jn_ltF, jn_leT, jn_leF, jn_eqT, jn_eqF, jn_lt0, jn_ge0, jn_eq0T, jn_eq0F, jn_in, jn_cl, jf_144_3 hR1, jf_144_4 hR1, g3, g4]
      exact kk h1 hR1 hD1
theorem ju_judgeTalk (hR : jR F A G g h) {v : Nat → Int32} {R C : Nat} (hM : jMk F A v R C) (hr : R ≤ 5) (hc : C ≤ 5) (hr1 : 1 ≤ R) (hc1 : 1 ≤ C) (hn : F 144 3 ≤ 120) (k : ∀ h' a b, jR (jup (jup F 144 4 a) 144 5 b) A G g h' → jD h h' → Q [.int (nI (jchk v R C (A 145) (F 144 3)))] h') : jx_Go jxP (d + 14) 16 0 [.ref 144] [] h Q := by
  have p1 := jp2 _ hr
  have p2 := jp2 _ hc
  obtain ⟨bb, bl⟩ := jalB_blk hr hc hr1 hc1
  have e := jalB_x (R := R) (C := C)
  have f1 := jpop_f R (by omega)
  have f2 := jpop_f C (by omega)
  have a25 := jar_25 bl
  have hR1 := (hR.uf (o := 144) (k := 4) (v := 0) rfl rfl).uf (o := 144) (k := 5) (v := 0) rfl rfl
  have hD1 := ((jD.rf (h := h)).uf (a := 144) (k := 4) (v := .int (nI 0)) (by decide)).uf (a := 144) (k := 5) (v := .int (nI 0)) (by decide)
  simp (disch := first | omega | decide) only [s16_0, s16_1, s16_2, s16_5, s16_6, s16_7, s16_10, Option.some.injEq, exists_eq_left', exists_eq_left, List.cons_append, List.nil_append, List.length_nil, List.length_cons, Nat.reduceAdd, Nat.reduceMul, Nat.reduceSub, Nat.reduceLeDiff, true_and, and_true, ↓reduceIte, not_false_eq_true, not_true_eq_false, nI_add, pk_mul, jn_ltT, jn_ltF, jn_leT, jn_leF, jn_eqT, jn_eqF, jn_lt0, jn_ge0, jn_eq0T, jn_eq0F, jn_in, jn_cl, jh_ai_wi, jh_ai_wi_ne, jh_ai_uf, jh_fl_wi_ne, jh_fl_uf_ne, jh_fl_uf_o, jh_cl_wi_ne, jh_cl_uf, jh_al_wi_ne, jh_al_uf, jh_al_wl, jh_al_wl_ne, jh_ai_wl_ne, jh_fl_wl_ne, jh_cl_wl_ne, jh_ar_wi_ne, jh_ar_uf, jh_ar_wl_ne, jh_1_wi, jh_1_uf, jh_1_wl, jf_144_4 hR, jf_144_5 hR]
  generalize jx_uf (jx_uf h 144 4 (.int (nI 0))) 144 5 (.int (nI 0)) = h1 at hR1 hD1 ⊢
  have g0 : jup (jup F 144 4 0) 144 5 0 99 0 = 2 ^ R - 1 := hM.1
  have g1 : jup (jup F 144 4 0) 144 5 0 99 1 = 2 ^ C - 1 := hM.2.1
  simp (disch := first | omega | decide) only [s16_11, s16_12, s16_15, s16_18, s16_19, s16_22, s16_25, s16_26, Option.some.injEq, exists_eq_left', exists_eq_left, List.cons_append, List.nil_append, List.length_nil, List.length_cons, Nat.reduceAdd, Nat.reduceMul, Nat.reduceSub, Nat.reduceLeDiff, true_and, and_true, ↓reduceIte, not_false_eq_true, not_true_eq_false, nI_add, pk_mul, jn_ltT, jn_ltF, jn_leT, jn_leF, jn_eqT, jn_eqF, jn_lt0, jn_ge0, jn_eq0T, jn_eq0F, jn_in, jn_cl, jf_144_1 hR1, jf_99_0 hR1, jf_99_1 hR1, g0, g1, jc_of_144 hR1]
  have le := jck_le (v := v) (wt := A 145) (n := F 144 3) hr hc 1024 0 _ 0 0 bb
  have := ju_isRight (F := F) (A := A) (G := G) (g := g) (h := h) hM hr hc hn 1024 (2 ^ R - 1) (2 ^ C - 1) (by rw [e]; exact bl) (by rw [e]; exact bb) (by omega) (d + 10 - (R + C)) h1 0 0 0 (by rw [f1, f2]; omega) (by rw [e]; omega) (by omega) hR1 hD1 (Q := fun s1 h1 => jx_Go jxP (d + 13 + 1) 16 29 [.ref 144] (s1 ++ []) h1 Q) (fun h2 hR2 hD2 => by
    rw [e] at hR2 ⊢
    have kk := k h2 _ _ hR2 hD2
    unfold jchk at kk
    have f4 := jf_144_4 hR2
    have f5 := jf_144_5 hR2
    have f3 := jf_144_3 hR2
    rw [jup_ne (Or.inr (by decide)), jup_same] at f4
    rw [jup_same] at f5
    rw [jup_ne (Or.inr (by decide)), jup_ne (Or.inr (by decide))] at f3
    cases z : (jck v R C (A 145) (F 144 3) 1024 0 (jalB R C) 0 0).1 with
    | false =>
      rw [z, if_neg (by decide)] at kk
      simp (disch := omega) only [s16_29, s16_32, s16_34, s16_35, s16_38, s16_39, Option.some.injEq, exists_eq_left', exists_eq_left, List.cons_append, List.nil_append, List.length_nil, List.length_cons, Nat.reduceAdd, Nat.reduceMul, Nat.reduceSub, Nat.reduceLeDiff, true_and, and_true, ↓reduceIte, not_false_eq_true, not_true_eq_false, nI_add, pk_mul, jn_ltT, jn_ltF, jn_leT, jn_leF, jn_eqT, jn_eqF, jn_lt0, jn_ge0, jn_eq0T, jn_eq0F, jn_in, jn_cl, f4, Bool.toNat_false]
      exact kk
    | true =>
      rw [z, if_pos rfl] at kk
      generalize (jck v R C (A 145) (F 144 3) 1024 0 (jalB R C) 0 0).2.1 = k' at *
      generalize (jck v R C (A 145) (F 144 3) 1024 0 (jalB R C) 0 0).2.2 = b' at *
      by_cases z2 : 2 * k' < F 144 3
      · rw [if_pos z2] at kk
        simp (disch := omega) only [s16_29, s16_40, s16_41, s16_42, s16_45, s16_46, s16_47, s16_50, s16_53, s16_55, s16_58, s16_59, s16_62, Option.some.injEq, exists_eq_left', exists_eq_left, List.cons_append, List.nil_append, List.length_nil, List.length_cons, Nat.reduceAdd, Nat.reduceMul, Nat.reduceSub, Nat.reduceLeDiff, true_and, and_true, ↓reduceIte, not_false_eq_true, not_true_eq_false, nI_add, pk_mul, jn_ltT, jn_ltF, jn_leT, jn_leF, jn_eqT, jn_eqF, jn_lt0, jn_ge0, jn_eq0T, jn_eq0F, jn_in, jn_cl, f3, f4, f5, Bool.toNat_true]
        exact kk
      · rw [if_neg z2] at kk
        simp (disch := omega) only [s16_29, s16_40, s16_41, s16_42, s16_45, s16_46, s16_47, s16_50, s16_53, s16_55, s16_58, s16_59, s16_62, Option.some.injEq, exists_eq_left', exists_eq_left, List.cons_append, List.nil_append, List.length_nil, List.length_cons, Nat.reduceAdd, Nat.reduceMul, Nat.reduceSub, Nat.reduceLeDiff, true_and, and_true, ↓reduceIte, not_false_eq_true, not_true_eq_false, nI_add, pk_mul, jn_ltT, jn_ltF, jn_leT, jn_leF, jn_eqT, jn_eqF, jn_lt0, jn_ge0, jn_eq0T, jn_eq0F, jn_in, jn_cl, f3, f4, f5, Bool.toNat_true]
        exact kk)
  rw [f1, f2, show d + 10 - (R + C) + (R + C) + 3 = d + 13 by omega] at this
  exact this
end CL15
