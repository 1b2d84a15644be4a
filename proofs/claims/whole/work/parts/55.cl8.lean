/-! ===== the class: the best parting; what all changes of places bring ===== -/
section CL8
variable {d : Nat} {F : Nat → Nat → Nat} {A : Nat → Nat → Int32} {G : Nat → Option Nat} {g : Nat → Int64} {h : jxH} {Q : List Value → jxH → Prop}
theorem jset_n {x : Int32} {n : Nat} (hn : n ≤ 5) : jset x n = (decide (¬ x < nI 1) && decide (¬ nI (2 ^ n - 1) < x)) := by
  have p := jp2 _ hn
  unfold jset
  have e1 : (¬ x ≤ 0) ↔ ¬ x < nI 1 := by
    rw [Int32.le_iff_toInt_le, Int32.lt_iff_toInt_lt, nI_toInt (by omega)]
    have : (0 : Int32).toInt = 0 := rfl
    omega
  have e2 : (¬ nI (2 ^ n) ≤ x) ↔ ¬ nI (2 ^ n - 1) < x := by
    rw [Int32.le_iff_toInt_le, Int32.lt_iff_toInt_lt, nI_toInt (by omega), nI_toInt (by omega)]
    omega
  rw [decide_eq_decide.mpr e1, decide_eq_decide.mpr e2]
theorem ma_hasBlock (hR : jR F A G g h) {v : Nat → Int32} {R C : Nat} (hM : jMk F A v R C) (hr : R ≤ 5) (hc : C ≤ 5) {x y : Int32} : jx_Go jxP d 30 0 [.ref 99, .int x, .int y] [] h Q ↔ Q [.int (nI (jset x R && jset y C).toNat)] h := by
  rw [jset_n hr, jset_n hc]
  simp (disch := omega) only [s30_0, s30_1, s30_2, s30_5, s30_6, s30_7, s30_10, s30_13, s30_14, s30_15, s30_18, s30_19, s30_20, s30_23, s30_26, s30_27, s30_30, s30_31b0, s30_31b1, Option.some.injEq, exists_eq_left', exists_eq_left, List.cons_append, List.nil_append, List.length_nil, List.length_cons, Nat.reduceAdd, Nat.reduceMul, Nat.reduceSub, Nat.reduceLeDiff, true_and, and_true, ↓reduceIte, not_false_eq_true, not_true_eq_false, nI_add, pk_mul, jn_ltT, jn_ltF, jn_leT, jn_leF, jn_eqT, jn_eqF, jn_lt0, jn_ge0, jn_eq0T, jn_eq0F, jn_in, jn_cl, jf_99_0 hR, jf_99_1 hR, hM.1, hM.2.1]
  by_cases a : x < nI 1
  · rw [if_pos a, decide_eq_false (fun w => w a)]; exact Iff.rfl
  rw [if_neg a, decide_eq_true a]
  by_cases b : nI (2 ^ R - 1) < x
  · rw [if_pos b, decide_eq_false (fun w => w b)]; exact Iff.rfl
  rw [if_neg b, decide_eq_true b]
  by_cases a' : y < nI 1
  · rw [if_pos a', decide_eq_false (fun w => w a')]; exact Iff.rfl
  rw [if_neg a', decide_eq_true a']
  by_cases b' : nI (2 ^ C - 1) < y
  · rw [if_pos b', decide_eq_false (fun w => w b')]; exact Iff.rfl
  rw [if_neg b', decide_eq_true b']; exact Iff.rfl
theorem tb_takeNewPlaces (hR : jR F A G g h) (hr : F 2 0 ≤ 5) (hc : F 2 1 ≤ 5) (k : ∀ h' f e, jMk (jup (jup (jup (jup (jup F 99 0 (2 ^ F 2 0 - 1)) 99 1 (2 ^ F 2 1 - 1)) 128 5 0) 132 7 4294967295) 137 8 0) (jua (jua A 100 f) 101 e) (A 3) (F 2 0) (F 2 1) → jR (jup (jup (jup (jup (jup F 99 0 (2 ^ F 2 0 - 1)) 99 1 (2 ^ F 2 1 - 1)) 128 5 0) 132 7 4294967295) 137 8 0) (jua (jua A 100 f) 101 e) G g h' → jD h h' → Q [] h') : jx_Go jxP (d + 2) 121 0 [.ref 1] [] h Q := by
  simp (disch := omega) only [s121_0, s121_1, s121_4, s121_5, s121_8, Option.some.injEq, exists_eq_left', exists_eq_left, List.cons_append, List.nil_append, List.length_nil, List.length_cons, Nat.reduceAdd, Nat.reduceMul, Nat.reduceSub, Nat.reduceLeDiff, true_and, and_true, ↓reduceIte, not_false_eq_true, not_true_eq_false, nI_add, pk_mul, jn_ltT, jn_ltF, jn_leT, jn_leF, jn_eqT, jn_eqF, jn_lt0, jn_ge0, jn_eq0T, jn_eq0F, jn_in, jn_cl, jf_1_0 hR, jf_1_4 hR, jc_of_99 hR]
  refine ma_read hR hr hc (fun h1 f e fe hR1 hD1 => ?_)
  have m1 : (-1 : Int32) = nI 4294967295 := by decide
  simp (disch := first | omega | decide) only [s121_0, s121_1, s121_4, s121_5, s121_8, s121_11, s121_12, s121_15, s121_18, s121_19, s121_22, s121_25, s121_26, s121_29, s121_32, Option.some.injEq, exists_eq_left', exists_eq_left, List.cons_append, List.nil_append, List.length_nil, List.length_cons, Nat.reduceAdd, Nat.reduceMul, Nat.reduceSub, Nat.reduceLeDiff, true_and, and_true, ↓reduceIte, not_false_eq_true, not_true_eq_false, nI_add, pk_mul, jn_ltT, jn_ltF, jn_leT, jn_leF, jn_eqT, jn_eqF, jn_lt0, jn_ge0, jn_eq0T, jn_eq0F, jn_in, jn_cl, jh_ai_wi, jh_ai_wi_ne, jh_ai_uf, jh_fl_wi_ne, jh_fl_uf_ne, jh_fl_uf_o, jh_cl_wi_ne, jh_cl_uf, jh_al_wi_ne, jh_al_uf, jh_al_wl, jh_al_wl_ne, jh_ai_wl_ne, jh_fl_wl_ne, jh_cl_wl_ne, jh_ar_wi_ne, jh_ar_uf, jh_ar_wl_ne, jh_1_wi, jh_1_uf, jh_1_wl, jf_1_5 hR1, jf_1_6 hR1, jf_1_7 hR1, jc_of_128 hR1, jc_of_132 hR1, jc_of_137 hR1, s1_0, s1_1, s1_2z0, s1_2z1, s1_5, s36_0, s36_1, s36_2, s36_5, s62_0, s62_1, s62_2, s62_5, jf_128_5 hR1, jf_132_7 hR1, jf_137_8 hR1, m1]
  refine k _ f e ⟨rfl, rfl, fun x h1 h2 => ?_⟩ (((hR1.uf (o := 128) (k := 5) rfl rfl).uf (o := 132) (k := 7) rfl rfl).uf (o := 137) (k := 8) rfl rfl) (((hD1.uf (by decide)).uf (by decide)).uf (by decide))
  rw [jua_ne (by decide), jua_same, jua_same]
  exact fe x h1 h2

theorem bl_first32 (hR : jR F A G g h) (hP : jPa A) {B X b : Nat} (hX : X < 32) (hB : B < 1024) (hXB : X * 32 ≤ B) {tb : Nat → Nat} (ht : ∀ s, s < 32 → jpt X s = true → (A 129 (B - s * 32) = nI (tb (B - s * 32)) ∧ tb (B - s * 32) ≤ 1000) ∧ (A 129 (B - (X - s) * 32) = nI (tb (B - (X - s) * 32)) ∧ tb (B - (X - s) * 32) ≤ 1000)) (eb : A 129 B = nI b) (hb : b ≤ 1000) (k : Q [.int (nI (if jlst (fun s => jpt X s && (decide (tb (B - s * 32) < b) && decide (tb (B - (X - s) * 32) < b))) 32 < 32 then jlst (fun s => jpt X s && (decide (tb (B - s * 32) < b) && decide (tb (B - (X - s) * 32) < b))) 32 else 0))] h) : jx_Go jxP d 8 0 [.ref 128, .int (nI B), .int (nI X), .int (nI 32), jx_u, jx_u, jx_u] [] h Q := by
  obtain ⟨q1, q2⟩ := jpF_le X hX
  have a0 := hP.1 X (by omega)
  have a1 := hP.1 (X + 1) (by omega)
  simp (disch := omega) only [s8_0, s8_1, s8_4, s8_7, s8_8, s8_9, Option.some.injEq, exists_eq_left', exists_eq_left, List.cons_append, List.nil_append, List.length_nil, List.length_cons, Nat.reduceAdd, Nat.reduceMul, Nat.reduceSub, Nat.reduceLeDiff, true_and, and_true, ↓reduceIte, not_false_eq_true, not_true_eq_false, nI_add, pk_mul, jn_ltT, jn_ltF, jn_leT, jn_leF, jn_eqT, jn_eqF, jn_lt0, jn_ge0, jn_eq0T, jn_eq0F, jn_in, jn_cl, jf_128_1 hR, jf_125_0 hR, ja_126 hR, a0]
  refine jloop (fun p => jpF X ≤ p → (∀ q, jpF X ≤ q → q < p → (decide (tb (B - jpS q * 32) < b) && decide (tb (B - (X - jpS q) * 32) < b)) = false) → ∀ w5 w6, jx_Go jxP d 8 11 [.ref 128, .int (nI B), .int (nI X), .int (nI 32), .int (nI p), w5, w6] [] h Q) (jpF (X + 1)) ?_ ?_ (jpF X) q1 (Nat.le_refl _) (fun q h1 h2 => by omega) _ _
  · intro _ no w5 w6
    have : jlst (fun s => jpt X s && (decide (tb (B - s * 32) < b) && decide (tb (B - (X - s) * 32) < b))) 32 = 32 := jlst_no (fun s hs => by
      cases z : jpt X s with
      | false => rfl
      | true =>
        obtain ⟨p, p1, p2, p3⟩ := jpS_ex X hX s hs z
        have := no p p1 p2
        rw [p3] at this
        rw [this]; rfl)
    rw [this, if_neg (by omega)] at k
    rw [s8_11]
    simp (disch := omega) only [s8_13, s8_14, s8_17, s8_20, s8_21, s8_22, s8_23, s8_24, s8_110, s8_111, Option.some.injEq, exists_eq_left', exists_eq_left, List.cons_append, List.nil_append, List.length_nil, List.length_cons, Nat.reduceAdd, Nat.reduceMul, Nat.reduceSub, Nat.reduceLeDiff, true_and, and_true, ↓reduceIte, not_false_eq_true, not_true_eq_false, nI_add, pk_mul, jn_ltT, jn_ltF, jn_leT, jn_leF, jn_eqT, jn_eqF, jn_lt0, jn_ge0, jn_eq0T, jn_eq0F, jn_in, jn_cl, jf_128_1 hR, jf_125_0 hR, ja_126 hR, a1]
    exact k
  · intro p hp ih pX no w5 w6
    obtain ⟨s1, s2⟩ := jpS_ok X hX p (by omega) pX hp
    have s3 := jpt_lt X hX _ s1 s2
    have as := hP.2 p (by omega)
    obtain ⟨⟨t1, t3⟩, t5, t7⟩ := ht _ s1 s2
    have nx : (decide (tb (B - jpS p * 32) < b) && decide (tb (B - (X - jpS p) * 32) < b)) = false → ∀ w5 w6, jx_Go jxP d 8 104 [.ref 128, .int (nI B), .int (nI X), .int (nI 32), .int (nI p), w5, w6] [] h Q := by
      intro ne w5 w6
      simp (disch := omega) only [s8_104, s8_107, Option.some.injEq, exists_eq_left', exists_eq_left, List.cons_append, List.nil_append, List.length_nil, List.length_cons, Nat.reduceAdd, Nat.reduceMul, Nat.reduceSub, Nat.reduceLeDiff, true_and, and_true, ↓reduceIte, not_false_eq_true, not_true_eq_false, nI_add, pk_mul, jn_ltT, jn_ltF, jn_leT, jn_leF, jn_eqT, jn_eqF, jn_lt0, jn_ge0, jn_eq0T, jn_eq0F, jn_in, jn_cl]
      refine ih (by omega) (fun q h1 h2 => ?_) _ _
      rcases (show q < p ∨ q = p by omega) with w | w
      · exact no q h1 w
      · subst w; exact ne
    have hit : (decide (tb (B - jpS p * 32) < b) && decide (tb (B - (X - jpS p) * 32) < b)) = true → jlst (fun s => jpt X s && (decide (tb (B - s * 32) < b) && decide (tb (B - (X - s) * 32) < b))) 32 = jpS p := by
      intro ye
      refine jlst_at s1 (by rw [s2, ye]; rfl) (fun s hs => ?_)
      cases z : jpt X s with
      | false => rfl
      | true =>
        obtain ⟨q, p1, p2, p3⟩ := jpS_ex X hX s (by omega) z
        rcases Nat.lt_trichotomy q p with w | w | w
        · have := no q p1 w
          rw [p3] at this
          rw [this]; rfl
        · subst w; omega
        · have := jpS_inc X hX p pX q w p2
          omega
    rw [s8_11]
    generalize jpS p = s at *
    simp (disch := omega) only [s8_13, s8_14, s8_17, s8_20, s8_21, s8_22, s8_23, s8_24, s8_27, s8_28, s8_29, s8_32, s8_35, s8_37, s8_38, s8_39, s8_40, s8_41, s8_43, s8_44, s8_45, s8_46, s8_49, s8_52, s8_54, s8_55, s8_56, s8_57, s8_58, s8_59, s8_61, s8_62, s8_65, s8_67, s8_68, s8_69, s8_72, s8_73, Option.some.injEq, exists_eq_left', exists_eq_left, List.cons_append, List.nil_append, List.length_nil, List.length_cons, Nat.reduceAdd, Nat.reduceMul, Nat.reduceSub, Nat.reduceLeDiff, true_and, and_true, ↓reduceIte, not_false_eq_true, not_true_eq_false, nI_add, pk_mul, jn_ltT, jn_ltF, jn_leT, jn_leF, jn_eqT, jn_eqF, jn_lt0, jn_ge0, jn_eq0T, jn_eq0F, jn_in, jn_cl, jf_128_1 hR, jf_128_2 hR, jf_125_0 hR, jf_125_1 hR, ja_126 hR, ja_127 hR, ja_129 hR, a1, as, jn_sub, t1, t5, eb]
    by_cases c1 : tb (B - s * 32) < b
    · by_cases c2 : tb (B - (X - s) * 32) < b
      · rw [hit (by rw [decide_eq_true c1, decide_eq_true c2]; rfl), if_pos s1] at k
        simp (disch := omega) only [s8_74, s8_77, s8_78, s8_81, s8_83, s8_84, s8_85, s8_88, s8_89, s8_90, s8_93, s8_94, s8_97, s8_100, s8_102, s8_103, Option.some.injEq, exists_eq_left', exists_eq_left, List.cons_append, List.nil_append, List.length_nil, List.length_cons, Nat.reduceAdd, Nat.reduceMul, Nat.reduceSub, Nat.reduceLeDiff, true_and, and_true, ↓reduceIte, not_false_eq_true, not_true_eq_false, nI_add, pk_mul, jn_ltT, jn_ltF, jn_leT, jn_leF, jn_eqT, jn_eqF, jn_lt0, jn_ge0, jn_eq0T, jn_eq0F, jn_in, jn_cl, jf_128_1 hR, jf_128_2 hR, jf_125_1 hR, ja_127 hR, ja_129 hR, as, t5, eb]
        exact k
      · simp (disch := omega) only [s8_74, s8_77, s8_78, s8_81, s8_83, s8_84, s8_85, s8_88, s8_89, s8_90, Option.some.injEq, exists_eq_left', exists_eq_left, List.cons_append, List.nil_append, List.length_nil, List.length_cons, Nat.reduceAdd, Nat.reduceMul, Nat.reduceSub, Nat.reduceLeDiff, true_and, and_true, ↓reduceIte, not_false_eq_true, not_true_eq_false, nI_add, pk_mul, jn_ltT, jn_ltF, jn_leT, jn_leF, jn_eqT, jn_eqF, jn_lt0, jn_ge0, jn_eq0T, jn_eq0F, jn_in, jn_cl, jf_128_2 hR, ja_129 hR, t5, eb]
        exact nx (by rw [decide_eq_false c2, Bool.and_false]) _ _
    · simp (disch := omega) only [s8_74, Option.some.injEq, exists_eq_left', exists_eq_left, List.cons_append, List.nil_append, List.length_nil, List.length_cons, Nat.reduceAdd, Nat.reduceMul, Nat.reduceSub, Nat.reduceLeDiff, true_and, and_true, ↓reduceIte, not_false_eq_true, not_true_eq_false, nI_add, pk_mul, jn_ltT, jn_ltF, jn_leT, jn_leF, jn_eqT, jn_eqF, jn_lt0, jn_ge0, jn_eq0T, jn_eq0F, jn_in, jn_cl]
      exact nx (by rw [decide_eq_false c1, Bool.false_and]) _ _

theorem bl_first1 (hR : jR F A G g h) (hP : jPa A) {B X b : Nat} (hX : X < 32) (hB : B < 1024) (hXB : X * 1 ≤ B) {tb : Nat → Nat} (ht : ∀ s, s < 32 → jpt X s = true → (A 129 (B - s * 1) = nI (tb (B - s * 1)) ∧ tb (B - s * 1) ≤ 1000) ∧ (A 129 (B - (X - s) * 1) = nI (tb (B - (X - s) * 1)) ∧ tb (B - (X - s) * 1) ≤ 1000)) (eb : A 129 B = nI b) (hb : b ≤ 1000) (k : Q [.int (nI (if jlst (fun s => jpt X s && (decide (tb (B - s * 1) < b) && decide (tb (B - (X - s) * 1) < b))) 32 < 32 then jlst (fun s => jpt X s && (decide (tb (B - s * 1) < b) && decide (tb (B - (X - s) * 1) < b))) 32 else 0))] h) : jx_Go jxP d 8 0 [.ref 128, .int (nI B), .int (nI X), .int (nI 1), jx_u, jx_u, jx_u] [] h Q := by
  obtain ⟨q1, q2⟩ := jpF_le X hX
  have a0 := hP.1 X (by omega)
  have a1 := hP.1 (X + 1) (by omega)
  simp (disch := omega) only [s8_0, s8_1, s8_4, s8_7, s8_8, s8_9, Option.some.injEq, exists_eq_left', exists_eq_left, List.cons_append, List.nil_append, List.length_nil, List.length_cons, Nat.reduceAdd, Nat.reduceMul, Nat.reduceSub, Nat.reduceLeDiff, true_and, and_true, ↓reduceIte, not_false_eq_true, not_true_eq_false, nI_add, pk_mul, jn_ltT, jn_ltF, jn_leT, jn_leF, jn_eqT, jn_eqF, jn_lt0, jn_ge0, jn_eq0T, jn_eq0F, jn_in, jn_cl, jf_128_1 hR, jf_125_0 hR, ja_126 hR, a0]
  refine jloop (fun p => jpF X ≤ p → (∀ q, jpF X ≤ q → q < p → (decide (tb (B - jpS q * 1) < b) && decide (tb (B - (X - jpS q) * 1) < b)) = false) → ∀ w5 w6, jx_Go jxP d 8 11 [.ref 128, .int (nI B), .int (nI X), .int (nI 1), .int (nI p), w5, w6] [] h Q) (jpF (X + 1)) ?_ ?_ (jpF X) q1 (Nat.le_refl _) (fun q h1 h2 => by omega) _ _
  · intro _ no w5 w6
    have : jlst (fun s => jpt X s && (decide (tb (B - s * 1) < b) && decide (tb (B - (X - s) * 1) < b))) 32 = 32 := jlst_no (fun s hs => by
      cases z : jpt X s with
      | false => rfl
      | true =>
        obtain ⟨p, p1, p2, p3⟩ := jpS_ex X hX s hs z
        have := no p p1 p2
        rw [p3] at this
        rw [this]; rfl)
    rw [this, if_neg (by omega)] at k
    rw [s8_11]
    simp (disch := omega) only [s8_13, s8_14, s8_17, s8_20, s8_21, s8_22, s8_23, s8_24, s8_110, s8_111, Option.some.injEq, exists_eq_left', exists_eq_left, List.cons_append, List.nil_append, List.length_nil, List.length_cons, Nat.reduceAdd, Nat.reduceMul, Nat.reduceSub, Nat.reduceLeDiff, true_and, and_true, ↓reduceIte, not_false_eq_true, not_true_eq_false, nI_add, pk_mul, jn_ltT, jn_ltF, jn_leT, jn_leF, jn_eqT, jn_eqF, jn_lt0, jn_ge0, jn_eq0T, jn_eq0F, jn_in, jn_cl, jf_128_1 hR, jf_125_0 hR, ja_126 hR, a1]
    exact k
  · intro p hp ih pX no w5 w6
    obtain ⟨s1, s2⟩ := jpS_ok X hX p (by omega) pX hp
    have s3 := jpt_lt X hX _ s1 s2
    have as := hP.2 p (by omega)
    obtain ⟨⟨t1, t3⟩, t5, t7⟩ := ht _ s1 s2
    have nx : (decide (tb (B - jpS p * 1) < b) && decide (tb (B - (X - jpS p) * 1) < b)) = false → ∀ w5 w6, jx_Go jxP d 8 104 [.ref 128, .int (nI B), .int (nI X), .int (nI 1), .int (nI p), w5, w6] [] h Q := by
      intro ne w5 w6
      simp (disch := omega) only [s8_104, s8_107, Option.some.injEq, exists_eq_left', exists_eq_left, List.cons_append, List.nil_append, List.length_nil, List.length_cons, Nat.reduceAdd, Nat.reduceMul, Nat.reduceSub, Nat.reduceLeDiff, true_and, and_true, ↓reduceIte, not_false_eq_true, not_true_eq_false, nI_add, pk_mul, jn_ltT, jn_ltF, jn_leT, jn_leF, jn_eqT, jn_eqF, jn_lt0, jn_ge0, jn_eq0T, jn_eq0F, jn_in, jn_cl]
      refine ih (by omega) (fun q h1 h2 => ?_) _ _
      rcases (show q < p ∨ q = p by omega) with w | w
      · exact no q h1 w
      · subst w; exact ne
    have hit : (decide (tb (B - jpS p * 1) < b) && decide (tb (B - (X - jpS p) * 1) < b)) = true → jlst (fun s => jpt X s && (decide (tb (B - s * 1) < b) && decide (tb (B - (X - s) * 1) < b))) 32 = jpS p := by
      intro ye
      refine jlst_at s1 (by rw [s2, ye]; rfl) (fun s hs => ?_)
      cases z : jpt X s with
      | false => rfl
      | true =>
        obtain ⟨q, p1, p2, p3⟩ := jpS_ex X hX s (by omega) z
        rcases Nat.lt_trichotomy q p with w | w | w
        · have := no q p1 w
          rw [p3] at this
          rw [this]; rfl
        · subst w; omega
        · have := jpS_inc X hX p pX q w p2
          omega
    rw [s8_11]
    generalize jpS p = s at *
    simp (disch := omega) only [s8_13, s8_14, s8_17, s8_20, s8_21, s8_22, s8_23, s8_24, s8_27, s8_28, s8_29, s8_32, s8_35, s8_37, s8_38, s8_39, s8_40, s8_41, s8_43, s8_44, s8_45, s8_46, s8_49, s8_52, s8_54, s8_55, s8_56, s8_57, s8_58, s8_59, s8_61, s8_62, s8_65, s8_67, s8_68, s8_69, s8_72, s8_73, Option.some.injEq, exists_eq_left', exists_eq_left, List.cons_append, List.nil_append, List.length_nil, List.length_cons, Nat.reduceAdd, Nat.reduceMul, Nat.reduceSub, Nat.reduceLeDiff, true_and, and_true, ↓reduceIte, not_false_eq_true, not_true_eq_false, nI_add, pk_mul, jn_ltT, jn_ltF, jn_leT, jn_leF, jn_eqT, jn_eqF, jn_lt0, jn_ge0, jn_eq0T, jn_eq0F, jn_in, jn_cl, jf_128_1 hR, jf_128_2 hR, jf_125_0 hR, jf_125_1 hR, ja_126 hR, ja_127 hR, ja_129 hR, a1, as, jn_sub, t1, t5, eb]
    by_cases c1 : tb (B - s * 1) < b
    · by_cases c2 : tb (B - (X - s) * 1) < b
      · rw [hit (by rw [decide_eq_true c1, decide_eq_true c2]; rfl), if_pos s1] at k
        simp (disch := omega) only [s8_74, s8_77, s8_78, s8_81, s8_83, s8_84, s8_85, s8_88, s8_89, s8_90, s8_93, s8_94, s8_97, s8_100, s8_102, s8_103, Option.some.injEq, exists_eq_left', exists_eq_left, List.cons_append, List.nil_append, List.length_nil, List.length_cons, Nat.reduceAdd, Nat.reduceMul, Nat.reduceSub, Nat.reduceLeDiff, true_and, and_true, ↓reduceIte, not_false_eq_true, not_true_eq_false, nI_add, pk_mul, jn_ltT, jn_ltF, jn_leT, jn_leF, jn_eqT, jn_eqF, jn_lt0, jn_ge0, jn_eq0T, jn_eq0F, jn_in, jn_cl, jf_128_1 hR, jf_128_2 hR, jf_125_1 hR, ja_127 hR, ja_129 hR, as, t5, eb]
        exact k
      · simp (disch := omega) only [s8_74, s8_77, s8_78, s8_81, s8_83, s8_84, s8_85, s8_88, s8_89, s8_90, Option.some.injEq, exists_eq_left', exists_eq_left, List.cons_append, List.nil_append, List.length_nil, List.length_cons, Nat.reduceAdd, Nat.reduceMul, Nat.reduceSub, Nat.reduceLeDiff, true_and, and_true, ↓reduceIte, not_false_eq_true, not_true_eq_false, nI_add, pk_mul, jn_ltT, jn_ltF, jn_leT, jn_leF, jn_eqT, jn_eqF, jn_lt0, jn_ge0, jn_eq0T, jn_eq0F, jn_in, jn_cl, jf_128_2 hR, ja_129 hR, t5, eb]
        exact nx (by rw [decide_eq_false c2, Bool.and_false]) _ _
    · simp (disch := omega) only [s8_74, Option.some.injEq, exists_eq_left', exists_eq_left, List.cons_append, List.nil_append, List.length_nil, List.length_cons, Nat.reduceAdd, Nat.reduceMul, Nat.reduceSub, Nat.reduceLeDiff, true_and, and_true, ↓reduceIte, not_false_eq_true, not_true_eq_false, nI_add, pk_mul, jn_ltT, jn_ltF, jn_leT, jn_leF, jn_eqT, jn_eqF, jn_lt0, jn_ge0, jn_eq0T, jn_eq0F, jn_in, jn_cl]
      exact nx (by rw [decide_eq_false c1, Bool.false_and]) _ _

theorem jlb_cx {v : Nat → Int32} {R C B s : Nat} (hB : B < 1024) (he : ¬ jev v R C B = true) (hs : s < 32) (hp : jpt (B / 32) s = true) : jlb v R C B ≤ max (jlb v R C (32 * (B / 32 ^^^ s) + B % 32)) (jlb v R C (32 * s + B % 32)) + 1 := by
  have := jbst_cutx (f := fun a b => max a b + 1) (T := jbt (fun a b => max a b + 1) (jev v R C) 0 100) (y := B % 32) (hi := 100) hp 32 hs
  have eq := jbt_eq (f := fun a b => max a b + 1) (ev := jev v R C) (lo := 0) (hi := 100) hB
  rw [if_neg he] at eq
  unfold jlb
  omega
theorem jlb_cy {v : Nat → Int32} {R C B s : Nat} (hB : B < 1024) (he : ¬ jev v R C B = true) (hs : s < 32) (hp : jpt (B % 32) s = true) : jlb v R C B ≤ max (jlb v R C (32 * (B / 32) + (B % 32 ^^^ s))) (jlb v R C (32 * (B / 32) + s)) + 1 := by
  have := jbst_cuty (f := fun a b => max a b + 1) (T := jbt (fun a b => max a b + 1) (jev v R C) 0 100) (x := B / 32) (hi := 100) hp 32 hs
  have eq := jbt_eq (f := fun a b => max a b + 1) (ev := jev v R C) (lo := 0) (hi := 100) hB
  rw [if_neg he] at eq
  unfold jlb
  omega
/-- the best parting as the class tells it -/
def jbp (v : Nat → Int32) (R C B : Nat) : Nat := if 32 ≤ jcut v R C B then jcut v R C B / 32 else 32 + jcut v R C B
theorem bl_bestParting (hR : jR F A G g h) (hP : jPa A) {v : Nat → Int32} {R C : Nat} (hM : jMk F A v R C) (hr : R ≤ 5) (hc : C ≤ 5) (hK : F 128 5 = 0 ∨ (F 128 5 = 1 ∧ jBl A v R C)) {x y : Nat} (hb : jblk R C (32 * x + y) = true) (hy : y < 32) (he : ¬ jev v R C (32 * x + y) = true) (k : ∀ h' A', jBl A' v R C → (∀ a, a ≠ 129 → a ≠ 130 → A' a = A a) → jR (jup F 128 5 1) A' G g h' → jD h h' → Q [.int (nI (jbp v R C (32 * x + y)))] h') : jx_Go jxP (d + 3) 7 0 [.ref 128, .int (nI x), .int (nI y), jx_u, jx_u, jx_u] [] h Q := by
  have p1 := jp2 _ hr
  have p2 := jp2 _ hc
  have hb' := jblk_iff.mp hb
  have x1 : (32 * x + y) / 32 = x := by omega
  have y1 : (32 * x + y) % 32 = y := by omega
  have l6 := jlb_6 (v := v) (B := 32 * x + y) hr hc (by omega)
  simp (disch := omega) only [s7_0, s7_1, Option.some.injEq, exists_eq_left', exists_eq_left, List.cons_append, List.nil_append, List.length_nil, List.length_cons, Nat.reduceAdd, Nat.reduceMul, Nat.reduceSub, Nat.reduceLeDiff, true_and, and_true, ↓reduceIte, not_false_eq_true, not_true_eq_false, nI_add, pk_mul, jn_ltT, jn_ltF, jn_leT, jn_leF, jn_eqT, jn_eqF, jn_lt0, jn_ge0, jn_eq0T, jn_eq0F, jn_in, jn_cl, jc_of_128 hR]
  refine bl_learn hR hP hM hr hc hK (fun h1 A1 hB1 fr1 hR1 hD1 => ?_)
  have kk := k h1 A1 hB1 fr1 hR1 hD1
  have hP1 := hP.fr (A' := A1) (fr1 126 (by decide) (by decide)) (fr1 127 (by decide) (by decide))
  have l9 : ∀ B, jblk R C B = true → A1 129 B = nI (jlb v R C B) ∧ jlb v R C B ≤ 1000 := fun B hB => ⟨(hB1 B hB).1, by
    have := jblk_iff.mp hB
    have := jlb_6 (v := v) (B := B) hr hc (by omega)
    omega⟩
  have ex : jlst (fun s => jpt x s && (decide (jlb v R C (32 * x + y - s * 32) < jlb v R C (32 * x + y)) && decide (jlb v R C (32 * x + y - (x - s) * 32) < jlb v R C (32 * x + y)))) 32 = jlst (jrx v R C (32 * x + y)) 32 := by
    refine jlst_congr 32 (fun s hs => ?_)
    unfold jrx
    rw [x1, y1]
    cases z : jpt x s with
    | false => rfl
    | true =>
      have s3 := jpt_lt x (by omega) s hs z
      have cx := jlb_cx (v := v) (R := R) (C := C) (B := 32 * x + y) (by omega) he hs (by rw [x1]; exact z)
      rw [x1, y1, jpt_x (by omega) hs z] at cx
      rw [jpt_x (by omega) hs z, show 32 * x + y - s * 32 = 32 * (x - s) + y by omega, show 32 * x + y - (x - s) * 32 = 32 * s + y by omega]
      rw [Bool.true_and, Bool.true_and]
      apply Bool.eq_iff_iff.mpr
      rw [Bool.and_eq_true, decide_eq_true_iff, decide_eq_true_iff, beq_iff_eq]
      omega
  have ey : jlst (fun s => jpt y s && (decide (jlb v R C (32 * x + y - s * 1) < jlb v R C (32 * x + y)) && decide (jlb v R C (32 * x + y - (y - s) * 1) < jlb v R C (32 * x + y)))) 32 = jlst (jry v R C (32 * x + y)) 32 := by
    refine jlst_congr 32 (fun s hs => ?_)
    unfold jry
    rw [x1, y1]
    cases z : jpt y s with
    | false => rfl
    | true =>
      have s3 := jpt_lt y (by omega) s hs z
      have cy := jlb_cy (v := v) (R := R) (C := C) (B := 32 * x + y) (by omega) he hs (by rw [y1]; exact z)
      rw [x1, y1, jpt_x (by omega) hs z] at cy
      rw [jpt_x (by omega) hs z, show 32 * x + y - s * 1 = 32 * x + (y - s) by omega, show 32 * x + y - (y - s) * 1 = 32 * x + s by omega]
      rw [Bool.true_and, Bool.true_and]
      apply Bool.eq_iff_iff.mpr
      rw [Bool.and_eq_true, decide_eq_true_iff, decide_eq_true_iff, beq_iff_eq]
      omega
  simp (disch := omega) only [s7_4, s7_5, s7_6, s7_9, s7_10, s7_11, s7_12, s7_13, s7_15, Option.some.injEq, exists_eq_left', exists_eq_left, List.cons_append, List.nil_append, List.length_nil, List.length_cons, Nat.reduceAdd, Nat.reduceMul, Nat.reduceSub, Nat.reduceLeDiff, true_and, and_true, ↓reduceIte, not_false_eq_true, not_true_eq_false, nI_add, pk_mul, jn_ltT, jn_ltF, jn_leT, jn_leF, jn_eqT, jn_eqF, jn_lt0, jn_ge0, jn_eq0T, jn_eq0F, jn_in, jn_cl, jc_of_128 hR1, tb_blockAt]
  refine bl_first32 (tb := jlb v R C) (b := jlb v R C (32 * x + y)) hR1 hP1 (by omega) (by omega) (by omega) (fun s hs hp => ?_) (l9 _ hb).1 (by omega) ?_
  · have s3 := jpt_lt x (by omega) s hs hp
    exact ⟨l9 _ (jblk_iff.mpr (by omega)), l9 _ (jblk_iff.mpr (by omega))⟩
  · rw [ex]
    unfold jbp jcut at kk
    obtain ⟨c1, c2, c3⟩ := jlst_le (p := jrx v R C (32 * x + y)) 32
    obtain ⟨d1, d2, d3⟩ := jlst_le (p := jry v R C (32 * x + y)) 32
    by_cases w : jlst (jrx v R C (32 * x + y)) 32 < 32
    · rw [if_pos w]
      rw [if_pos w] at kk
      have cp := c2 w
      generalize jlst (jrx v R C (32 * x + y)) 32 = s at *
      unfold jrx at cp
      rw [Bool.and_eq_true, x1] at cp
      have s3 := jpt_lt x (by omega) s w cp.1
      rw [if_pos (by omega), show 32 * s / 32 = s by omega] at kk
      simp (disch := omega) only [s7_18, s7_20, s7_22, s7_25, s7_27, Option.some.injEq, exists_eq_left', exists_eq_left, List.cons_append, List.nil_append, List.length_nil, List.length_cons, Nat.reduceAdd, Nat.reduceMul, Nat.reduceSub, Nat.reduceLeDiff, true_and, and_true, ↓reduceIte, not_false_eq_true, not_true_eq_false, nI_add, pk_mul, jn_ltT, jn_ltF, jn_leT, jn_leF, jn_eqT, jn_eqF, jn_lt0, jn_ge0, jn_eq0T, jn_eq0F, jn_in, jn_cl]
      exact kk
    · rw [if_neg w]
      rw [if_neg w] at kk
      have lt : jlst (jry v R C (32 * x + y)) 32 < 32 := by
        rcases jcut_ex hr hc (by omega) he with ⟨s, hs, e⟩ | ⟨s, hs, e⟩
        · rw [c3 s (by omega)] at e; cases e
        · rcases Nat.lt_or_ge (jlst (jry v R C (32 * x + y)) 32) 32 with z | z
          · exact z
          · rw [d3 s (by omega)] at e; cases e
      have cp := d2 lt
      rw [if_neg (by omega)] at kk
      simp (disch := omega) only [s7_18, s7_20, s7_22, s7_28, s7_29, s7_30, s7_31, s7_32, Option.some.injEq, exists_eq_left', exists_eq_left, List.cons_append, List.nil_append, List.length_nil, List.length_cons, Nat.reduceAdd, Nat.reduceMul, Nat.reduceSub, Nat.reduceLeDiff, true_and, and_true, ↓reduceIte, not_false_eq_true, not_true_eq_false, nI_add, pk_mul, jn_ltT, jn_ltF, jn_leT, jn_leF, jn_eqT, jn_eqF, jn_lt0, jn_ge0, jn_eq0T, jn_eq0F, jn_in, jn_cl, jc_of_128 hR1]
      refine bl_first1 (tb := jlb v R C) (b := jlb v R C (32 * x + y)) hR1 hP1 (by omega) (by omega) (by omega) (fun s hs hp => ?_) (l9 _ hb).1 (by omega) ?_
      · have s3 := jpt_lt y (by omega) s hs hp
        exact ⟨l9 _ (jblk_iff.mpr (by omega)), l9 _ (jblk_iff.mpr (by omega))⟩
      · rw [ey, if_pos lt]
        generalize jlst (jry v R C (32 * x + y)) 32 = s at *
        unfold jry at cp
        rw [Bool.and_eq_true, y1] at cp
        have s3 := jpt_lt y (by omega) s lt cp.1
        simp (disch := omega) only [s7_35, s7_37, s7_39, s7_46, s7_48, s7_50, s7_51, Option.some.injEq, exists_eq_left', exists_eq_left, List.cons_append, List.nil_append, List.length_nil, List.length_cons, Nat.reduceAdd, Nat.reduceMul, Nat.reduceSub, Nat.reduceLeDiff, true_and, and_true, ↓reduceIte, not_false_eq_true, not_true_eq_false, nI_add, pk_mul, jn_ltT, jn_ltF, jn_leT, jn_leF, jn_eqT, jn_eqF, jn_lt0, jn_ge0, jn_eq0T, jn_eq0F, jn_in, jn_cl]
        exact kk
end CL8
