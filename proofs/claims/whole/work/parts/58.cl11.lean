/-! ===== the class: scales, all blocks ===== -/
section CL11
variable {d : Nat} {F : Nat → Nat → Nat} {A : Nat → Nat → Int32} {G : Nat → Option Nat} {g : Nat → Int64} {h : jxH} {Q : List Value → jxH → Prop}
theorem jalB_x {R C : Nat} : 32 * (2 ^ R - 1) + (2 ^ C - 1) = jalB R C := by
  have := Nat.two_pow_pos C
  unfold jalB
  omega
/-- what the scales know: b bits are told; the row loss holds e of them -/
def jSc (F : Nat → Nat → Nat) (A : Nat → Nat → Int32) (v : Nat → Int32) (W : Nat → Nat) (R C b : Nat) : Prop := F 132 7 = b ∧ b ≤ 6 ∧ (∀ B, jblk R C B = true → A 133 B = nI (jwo v W R C B (nI 1)) ∧ A 134 B = nI (jwo v W R C B (nI 0))) ∧ (∃ e, e ≤ b ∧ (∀ B, jblk R C B = true → A 135 B = nI (jwr v W R C e B)) ∧ (e = b ∨ jwr v W R C e (jalB R C) = 0)) ∧ ∀ j, j ≤ b → A 136 j = nI (jwr v W R C j (jalB R C))
theorem sc_weighBlocks (hR : jR F A G g h) (hr : F 2 0 ≤ 5) (hc : F 2 1 ≤ 5) (hr1 : 1 ≤ F 2 0) (hc1 : 1 ≤ F 2 1) (hM : jMk F A (A 3) (F 2 0) (F 2 1)) {W : Nat → Nat} (hw : jW (A 4) (F 2 0) (F 2 1) W) (hK : F 132 7 = 4294967295 ∨ ∃ b, jSc F A (A 3) W (F 2 0) (F 2 1) b) (k : ∀ h' A' b, jSc (jup F 132 7 b) A' (A 3) W (F 2 0) (F 2 1) b → (∀ a, a < 133 ∨ 136 < a → A' a = A a) → jR (jup F 132 7 b) A' G g h' → jD h h' → Q [] h') : jx_Go jxP (d + 3) 39 0 [.ref 132, jx_u, jx_u] [] h Q := by
  have p1 := jp2 _ hr
  have p2 := jp2 _ hc
  have m1 : (-1 : Int32) = nI 4294967295 := by decide
  rcases hK with hK | ⟨b, hS⟩
  · have z1 : (nI 4294967295 = -1) = True := eq_true m1.symm
    simp (disch := omega) only [s39_0, s39_1, s39_4, s39_5, s39_9, s39_10, Option.some.injEq, exists_eq_left', exists_eq_left, List.cons_append, List.nil_append, List.length_nil, List.length_cons, Nat.reduceAdd, Nat.reduceMul, Nat.reduceSub, Nat.reduceLeDiff, true_and, and_true, ↓reduceIte, not_false_eq_true, not_true_eq_false, nI_add, pk_mul, jn_ltT, jn_ltF, jn_leT, jn_leF, jn_eqT, jn_eqF, jn_lt0, jn_ge0, jn_eq0T, jn_eq0F, jn_in, jn_cl, jf_132_7 hR, hK, z1]
    refine jloop (fun x => 1 ≤ x → ∀ A1 h1 w2, (∀ B, jblk (F 2 0) (F 2 1) B = true → B / 32 < x → (A1 133 B = nI (jwo (A 3) W (F 2 0) (F 2 1) B (nI 1)) ∧ A1 134 B = nI (jwo (A 3) W (F 2 0) (F 2 1) B (nI 0))) ∧ A1 135 B = nI (jw0 (A 3) W (F 2 0) (F 2 1) B)) → (∀ a, a ≠ 133 → a ≠ 134 → a ≠ 135 → A1 a = A a) → jR F A1 G g h1 → jD h h1 → jx_Go jxP (d + 3) 39 11 [.ref 132, .int (nI x), w2] [] h1 Q) (2 ^ F 2 0) ?_ ?_ 1 (by omega) (Nat.le_refl _) A h _ (fun B b1 b2 => by have := jblk_iff.mp b1; omega) (fun _ _ _ _ => rfl) hR jD.rf
    · intro _ A1 h1 w2 hT fr hR1 hD1
      have f0 : F 99 0 = 2 ^ F 2 0 - 1 := hM.1
      have f1 : F 99 1 = 2 ^ F 2 1 - 1 := hM.2.1
      obtain ⟨bb, bl⟩ := jalB_blk hr hc hr1 hc1
      have t := (hT _ bb (jblk_iff.mp bb).2.1).2
      rw [s39_11]
      simp (disch := first | omega | decide) only [s39_12, s39_13, s39_16, s39_19, s39_53, s39_54, s39_55, Option.some.injEq, exists_eq_left', exists_eq_left, List.cons_append, List.nil_append, List.length_nil, List.length_cons, Nat.reduceAdd, Nat.reduceMul, Nat.reduceSub, Nat.reduceLeDiff, true_and, and_true, ↓reduceIte, not_false_eq_true, not_true_eq_false, nI_add, pk_mul, jn_ltT, jn_ltF, jn_leT, jn_leF, jn_eqT, jn_eqF, jn_lt0, jn_ge0, jn_eq0T, jn_eq0F, jn_in, jn_cl, jf_132_1 hR1, jf_132_7 hR1, jf_99_0 hR1, f0]
      have hR2 := hR1.uf (o := 132) (k := 7) (v := 0) rfl rfl
      have hD2 := hD1.uf (a := 132) (k := 7) (v := .int (nI 0)) (by decide)
      generalize jx_uf h1 132 7 (.int (nI 0)) = h2 at hR2 hD2 ⊢
      have f0' : jup F 132 7 0 99 0 = 2 ^ F 2 0 - 1 := hM.1
      have f1' : jup F 132 7 0 99 1 = 2 ^ F 2 1 - 1 := hM.2.1
      simp (disch := first | omega | decide) only [s39_58, s39_59, s39_62, s39_63, s39_64, s39_67, s39_68, s39_71, s39_74, s39_75, s39_78, s39_81, s39_84, s39_85, s39_86, Option.some.injEq, exists_eq_left', exists_eq_left, List.cons_append, List.nil_append, List.length_nil, List.length_cons, Nat.reduceAdd, Nat.reduceMul, Nat.reduceSub, Nat.reduceLeDiff, true_and, and_true, ↓reduceIte, not_false_eq_true, not_true_eq_false, nI_add, pk_mul, jn_ltT, jn_ltF, jn_leT, jn_leF, jn_eqT, jn_eqF, jn_lt0, jn_ge0, jn_eq0T, jn_eq0F, jn_in, jn_cl, jf_132_1 hR2, jf_132_5 hR2, jf_132_6 hR2, jf_99_0 hR2, jf_99_1 hR2, f0', f1', tb_blockAt, jalB_x, ja_135 hR2, ja_136 hR2, t]
      refine k _ _ 0 ⟨jup_same, by omega, fun B hB => ?_, ⟨0, by omega, fun B hB => ?_, Or.inl rfl⟩, fun j hj => ?_⟩ (fun a ha => ?_) (hR2.wi (a := 136) rfl) (hD2.wi (by decide))
      · rw [jua_ne (by decide), jua_ne (by decide)]
        exact (hT B hB (jblk_iff.mp hB).2.1).1
      · rw [jua_ne (by decide)]
        exact (hT B hB (jblk_iff.mp hB).2.1).2
      · rw [show j = 0 by omega, jua_same, jupd_same]; rfl
      · rw [jua_ne (by omega)]
        exact fr a (by omega) (by omega) (by omega)
    · intro x hx ih x1 A1 h1 w2 hT fr hR1 hD1
      have f0 : F 99 0 = 2 ^ F 2 0 - 1 := hM.1
      rw [s39_11]
      simp (disch := first | omega | decide) only [s39_12, s39_13, s39_16, s39_19, s39_22, s39_23, Option.some.injEq, exists_eq_left', exists_eq_left, List.cons_append, List.nil_append, List.length_nil, List.length_cons, Nat.reduceAdd, Nat.reduceMul, Nat.reduceSub, Nat.reduceLeDiff, true_and, and_true, ↓reduceIte, not_false_eq_true, not_true_eq_false, nI_add, pk_mul, jn_ltT, jn_ltF, jn_leT, jn_leF, jn_eqT, jn_eqF, jn_lt0, jn_ge0, jn_eq0T, jn_eq0F, jn_in, jn_cl, jf_132_1 hR1, jf_99_0 hR1, f0]
      refine jloop (fun y => 1 ≤ y → ∀ A1 h1, (∀ B, jblk (F 2 0) (F 2 1) B = true → (B / 32 < x ∨ (B / 32 = x ∧ B % 32 < y)) → (A1 133 B = nI (jwo (A 3) W (F 2 0) (F 2 1) B (nI 1)) ∧ A1 134 B = nI (jwo (A 3) W (F 2 0) (F 2 1) B (nI 0))) ∧ A1 135 B = nI (jw0 (A 3) W (F 2 0) (F 2 1) B)) → (∀ a, a ≠ 133 → a ≠ 134 → a ≠ 135 → A1 a = A a) → jR F A1 G g h1 → jD h h1 → jx_Go jxP (d + 3) 39 24 [.ref 132, .int (nI x), .int (nI y)] [] h1 Q) (2 ^ F 2 1) ?_ ?_ 1 (by omega) (Nat.le_refl _) A1 h1 (fun B b1 b2 => hT B b1 (by have := jblk_iff.mp b1; omega)) fr hR1 hD1
      · intro _ A1 h1 hT fr hR1 hD1
        have f1 : F 99 1 = 2 ^ F 2 1 - 1 := hM.2.1
        rw [s39_24]
        simp (disch := first | omega | decide) only [s39_25, s39_26, s39_29, s39_32, s39_47, s39_50, Option.some.injEq, exists_eq_left', exists_eq_left, List.cons_append, List.nil_append, List.length_nil, List.length_cons, Nat.reduceAdd, Nat.reduceMul, Nat.reduceSub, Nat.reduceLeDiff, true_and, and_true, ↓reduceIte, not_false_eq_true, not_true_eq_false, nI_add, pk_mul, jn_ltT, jn_ltF, jn_leT, jn_leF, jn_eqT, jn_eqF, jn_lt0, jn_ge0, jn_eq0T, jn_eq0F, jn_in, jn_cl, jf_132_1 hR1, jf_99_1 hR1, f1]
        exact ih (by omega) A1 h1 _ (fun B b1 b2 => hT B b1 (by have := jblk_iff.mp b1; omega)) fr hR1 hD1
      · intro y hy ih2 y1 A1 h1 hT fr hR1 hD1
        have f1 : F 99 1 = 2 ^ F 2 1 - 1 := hM.2.1
        have e3 : A1 3 = A 3 := fr 3 (by decide) (by decide) (by decide)
        have e4 : A1 4 = A 4 := fr 4 (by decide) (by decide) (by decide)
        rw [s39_24]
        simp (disch := first | omega | decide) only [s39_25, s39_26, s39_29, s39_32, s39_35, s39_36, s39_37, s39_38, Option.some.injEq, exists_eq_left', exists_eq_left, List.cons_append, List.nil_append, List.length_nil, List.length_cons, Nat.reduceAdd, Nat.reduceMul, Nat.reduceSub, Nat.reduceLeDiff, true_and, and_true, ↓reduceIte, not_false_eq_true, not_true_eq_false, nI_add, pk_mul, jn_ltT, jn_ltF, jn_leT, jn_leF, jn_eqT, jn_eqF, jn_lt0, jn_ge0, jn_eq0T, jn_eq0F, jn_in, jn_cl, jf_132_1 hR1, jf_99_1 hR1, f1, jc_of_132 hR1]
        refine sc_weighBlock hR1 hr hc (W := W) (by rw [e4]; exact hw) x1 hx y1 hy (fun B b1 b2 => by rw [e3]; exact (hT B b1 (by omega)).1) (fun h2 hR2 hD2 => ?_)
        rw [e3] at hR2
        simp (disch := omega) only [s39_41, s39_44, Option.some.injEq, exists_eq_left', exists_eq_left, List.cons_append, List.nil_append, List.length_nil, List.length_cons, Nat.reduceAdd, Nat.reduceMul, Nat.reduceSub, Nat.reduceLeDiff, true_and, and_true, ↓reduceIte, not_false_eq_true, not_true_eq_false, nI_add, pk_mul, jn_ltT, jn_ltF, jn_leT, jn_leF, jn_eqT, jn_eqF, jn_lt0, jn_ge0, jn_eq0T, jn_eq0F, jn_in, jn_cl]
        refine ih2 (by omega) _ h2 (fun B b1 b2 => ?_) (fun a n1 n2 n3 => by rw [jua_ne n3, jua_ne n2, jua_ne n1]; exact fr a n1 n2 n3) hR2 (hD1.tr hD2)
        rw [jua_same, jua_ne (show 133 ≠ 135 by decide), jua_ne (show 133 ≠ 134 by decide), jua_same, jua_ne (show 134 ≠ 135 by decide), jua_same]
        by_cases z : B = 32 * x + y
        · subst z; rw [jupd_same, jupd_same, jupd_same]; exact ⟨⟨rfl, rfl⟩, rfl⟩
        · rw [jupd_ne z, jupd_ne z, jupd_ne z]
          exact hT B b1 (by omega)
  · have hb := hS.1
    have hb6 := hS.2.1
    have z1 : (nI b = -1) = False := by rw [m1]; exact eq_false (fun w => by
      have := congrArg Int32.toInt w
      rw [nI_toInt (by omega)] at this
      have e : (nI 4294967295).toInt = -1 := by decide
      omega)
    have id : jup F 132 7 b = F := jup_id hb
    have kk := k h A b (by rw [id]; exact hS) (fun _ _ => rfl) (by rw [id]; exact hR) jD.rf
    simp (disch := omega) only [s39_0, s39_1, s39_4, s39_5, s39_8, Option.some.injEq, exists_eq_left', exists_eq_left, List.cons_append, List.nil_append, List.length_nil, List.length_cons, Nat.reduceAdd, Nat.reduceMul, Nat.reduceSub, Nat.reduceLeDiff, true_and, and_true, ↓reduceIte, not_false_eq_true, not_true_eq_false, nI_add, pk_mul, jn_ltT, jn_ltF, jn_leT, jn_leF, jn_eqT, jn_eqF, jn_lt0, jn_ge0, jn_eq0T, jn_eq0F, jn_in, jn_cl, jf_132_7 hR, hb, z1]
    exact kk
theorem jabs2 {a b : Nat} (ha : a < 1073741824) (hb : b < 1073741824) : (if 0 ≤ nI a - nI b then nI a - nI b else 0 - (nI a - nI b)) = nI ((a - b) + (b - a)) := by
  rcases Nat.lt_or_ge a b with w | w
  · obtain ⟨e1, e2⟩ := jn_subneg w (show b < 2147483648 by omega)
    rw [if_neg (of_eq_false e1), Int32.zero_sub, e2, show a - b + (b - a) = b - a by omega]
  · rw [jn_sub w, if_pos (of_eq_true (jn_ge0 (by omega))), show a - b + (b - a) = a - b by omega]
theorem jsw_ge {v : Nat → Int32} {W : Nat → Nat} {R C : Nat} : ∀ n B, B < n → jdf v W R C B ≤ jsw v W R C n := by
  intro n
  induction n with
  | zero => intro B h1; omega
  | succ n ih =>
    intro B h1
    rw [jsw_s]
    rcases (show B < n ∨ B = n by omega) with w | w
    · have := ih B w; omega
    · subst w; omega
theorem jsw_att {v : Nat → Int32} {W : Nat → Nat} {R C : Nat} : ∀ n, jsw v W R C n = 0 ∨ ∃ B, B < n ∧ jblk R C B = true ∧ jsw v W R C n = jdf v W R C B := by
  intro n
  induction n with
  | zero => exact Or.inl rfl
  | succ n ih =>
    rw [jsw_s]
    rcases Nat.lt_or_ge (jsw v W R C n) (jdf v W R C n) with w | w
    · right
      refine ⟨n, by omega, ?_, by omega⟩
      cases z : jblk R C n with
      | true => rfl
      | false =>
        unfold jdf at w
        rw [z, if_neg (by decide)] at w
        omega
    · rcases ih with ih | ⟨B, h1, h2, h3⟩
      · exact Or.inl (by omega)
      · exact Or.inr ⟨B, by omega, h2, by omega⟩
def jAt (v : Nat → Int32) (W : Nat → Nat) (R C m : Nat) : Prop := m = 0 ∨ ∃ B, jblk R C B = true ∧ m = jdf v W R C B
theorem sc_greatestDifference (hR : jR F A G g h) (hr : F 2 0 ≤ 5) (hc : F 2 1 ≤ 5) (hr1 : 1 ≤ F 2 0) (hc1 : 1 ≤ F 2 1) (hM : jMk F A (A 3) (F 2 0) (F 2 1)) {W : Nat → Nat} (hw : jW (A 4) (F 2 0) (F 2 1) W) (hK : F 132 7 = 4294967295 ∨ ∃ b, jSc F A (A 3) W (F 2 0) (F 2 1) b) (k : ∀ h' A' b, jSc (jup F 132 7 b) A' (A 3) W (F 2 0) (F 2 1) b → (∀ a, a < 133 ∨ 136 < a → A' a = A a) → jR (jup F 132 7 b) A' G g h' → jD h h' → Q [.int (nI (jsw (A 3) W (F 2 0) (F 2 1) (jalB (F 2 0) (F 2 1) + 1)))] h') : jx_Go jxP (d + 4) 37 0 [.ref 132, jx_u, jx_u, jx_u, jx_u] [] h Q := by
  have p1 := jp2 _ hr
  have p2 := jp2 _ hc
  simp (disch := omega) only [s37_0, s37_1, Option.some.injEq, exists_eq_left', exists_eq_left, List.cons_append, List.nil_append, List.length_nil, List.length_cons, Nat.reduceAdd, Nat.reduceMul, Nat.reduceSub, Nat.reduceLeDiff, true_and, and_true, ↓reduceIte, not_false_eq_true, not_true_eq_false, nI_add, pk_mul, jn_ltT, jn_ltF, jn_leT, jn_leF, jn_eqT, jn_eqF, jn_lt0, jn_ge0, jn_eq0T, jn_eq0F, jn_in, jn_cl, jc_of_132 hR]
  refine sc_weighBlocks hR hr hc hr1 hc1 hM hw hK (fun h1 A1 b hS fr hR1 hD1 => ?_)
  have kk := k h1 A1 b hS fr hR1 hD1
  have f0 : jup F 132 7 b 99 0 = 2 ^ F 2 0 - 1 := hM.1
  have f1 : jup F 132 7 b 99 1 = 2 ^ F 2 1 - 1 := hM.2.1
  have hT := hS.2.2.1
  have dB : ∀ B, jblk (F 2 0) (F 2 1) B = true → (jwo (A 3) W (F 2 0) (F 2 1) B (nI 1) - jwo (A 3) W (F 2 0) (F 2 1) B (nI 0)) + (jwo (A 3) W (F 2 0) (F 2 1) B (nI 0) - jwo (A 3) W (F 2 0) (F 2 1) B (nI 1)) = jdf (A 3) W (F 2 0) (F 2 1) B := fun B hB => by unfold jdf; rw [if_pos hB]
  simp (disch := omega) only [s37_4, s37_5, s37_6, s37_7, Option.some.injEq, exists_eq_left', exists_eq_left, List.cons_append, List.nil_append, List.length_nil, List.length_cons, Nat.reduceAdd, Nat.reduceMul, Nat.reduceSub, Nat.reduceLeDiff, true_and, and_true, ↓reduceIte, not_false_eq_true, not_true_eq_false, nI_add, pk_mul, jn_ltT, jn_ltF, jn_leT, jn_leF, jn_eqT, jn_eqF, jn_lt0, jn_ge0, jn_eq0T, jn_eq0F, jn_in, jn_cl]
  refine jloop (fun x => 1 ≤ x → ∀ m w3 w4, m ≤ 25000 → (∀ B, jblk (F 2 0) (F 2 1) B = true → B / 32 < x → jdf (A 3) W (F 2 0) (F 2 1) B ≤ m) → jAt (A 3) W (F 2 0) (F 2 1) m → jx_Go jxP (d + 4) 37 8 [.ref 132, .int (nI m), .int (nI x), w3, w4] [] h1 Q) (2 ^ F 2 0) ?_ ?_ 1 (by omega) (Nat.le_refl _) 0 _ _ (by omega) (fun B b1 b2 => by have := jblk_iff.mp b1; omega) (Or.inl rfl)
  · intro _ m w3 w4 hm h2 h3
    rw [s37_8]
    simp (disch := omega) only [s37_9, s37_10, s37_13, s37_16, s37_74, s37_75, Option.some.injEq, exists_eq_left', exists_eq_left, List.cons_append, List.nil_append, List.length_nil, List.length_cons, Nat.reduceAdd, Nat.reduceMul, Nat.reduceSub, Nat.reduceLeDiff, true_and, and_true, ↓reduceIte, not_false_eq_true, not_true_eq_false, nI_add, pk_mul, jn_ltT, jn_ltF, jn_leT, jn_leF, jn_eqT, jn_eqF, jn_lt0, jn_ge0, jn_eq0T, jn_eq0F, jn_in, jn_cl, jf_132_1 hR1, jf_99_0 hR1, f0]
    have em : m = jsw (A 3) W (F 2 0) (F 2 1) (jalB (F 2 0) (F 2 1) + 1) := by
      apply Nat.le_antisymm
      · rcases h3 with h3 | ⟨B, h3, h4⟩
        · omega
        · have : B ≤ jalB (F 2 0) (F 2 1) := by have := jblk_iff.mp h3; unfold jalB; omega
          rw [h4]
          exact jsw_ge _ B (by omega)
      · rcases jsw_att (v := A 3) (W := W) (R := F 2 0) (C := F 2 1) (jalB (F 2 0) (F 2 1) + 1) with w | ⟨B, w1, w2, w3⟩
        · omega
        · rw [w3]; exact h2 B w2 (jblk_iff.mp w2).2.1
    rw [em]
    exact kk
  · intro x hx ih x1 m w3 w4 hm h2 h3
    rw [s37_8]
    simp (disch := omega) only [s37_9, s37_10, s37_13, s37_16, s37_19, s37_20, Option.some.injEq, exists_eq_left', exists_eq_left, List.cons_append, List.nil_append, List.length_nil, List.length_cons, Nat.reduceAdd, Nat.reduceMul, Nat.reduceSub, Nat.reduceLeDiff, true_and, and_true, ↓reduceIte, not_false_eq_true, not_true_eq_false, nI_add, pk_mul, jn_ltT, jn_ltF, jn_leT, jn_leF, jn_eqT, jn_eqF, jn_lt0, jn_ge0, jn_eq0T, jn_eq0F, jn_in, jn_cl, jf_132_1 hR1, jf_99_0 hR1, f0]
    refine jloop (fun y => 1 ≤ y → ∀ m w4, m ≤ 25000 → (∀ B, jblk (F 2 0) (F 2 1) B = true → (B / 32 < x ∨ (B / 32 = x ∧ B % 32 < y)) → jdf (A 3) W (F 2 0) (F 2 1) B ≤ m) → jAt (A 3) W (F 2 0) (F 2 1) m → jx_Go jxP (d + 4) 37 21 [.ref 132, .int (nI m), .int (nI x), .int (nI y), w4] [] h1 Q) (2 ^ F 2 1) ?_ ?_ 1 (by omega) (Nat.le_refl _) m _ hm (fun B b1 b2 => h2 B b1 (by have := jblk_iff.mp b1; omega)) h3
    · intro _ m w4 hm h2 h3
      rw [s37_21]
      simp (disch := omega) only [s37_22, s37_23, s37_26, s37_29, s37_68, s37_71, Option.some.injEq, exists_eq_left', exists_eq_left, List.cons_append, List.nil_append, List.length_nil, List.length_cons, Nat.reduceAdd, Nat.reduceMul, Nat.reduceSub, Nat.reduceLeDiff, true_and, and_true, ↓reduceIte, not_false_eq_true, not_true_eq_false, nI_add, pk_mul, jn_ltT, jn_ltF, jn_leT, jn_leF, jn_eqT, jn_eqF, jn_lt0, jn_ge0, jn_eq0T, jn_eq0F, jn_in, jn_cl, jf_132_1 hR1, jf_99_1 hR1, f1]
      exact ih (by omega) m _ _ hm (fun B b1 b2 => h2 B b1 (by have := jblk_iff.mp b1; omega)) h3
    · intro y hy ih2 y1 m w4 hm h2 h3
      have bb : jblk (F 2 0) (F 2 1) (32 * x + y) = true := jblk_iff.mpr (by omega)
      obtain ⟨t1, t0⟩ := hT _ bb
      have w1 := jwo_le (v := A 3) (B := 32 * x + y) (x := nI 1) hw hr hc
      have w0 := jwo_le (v := A 3) (B := 32 * x + y) (x := nI 0) hw hr hc
      have dl := jdf_le (v := A 3) (B := 32 * x + y) hw hr hc
      have dd := dB _ bb
      rw [s37_21]
      simp (disch := omega) only [s37_22, s37_23, s37_26, s37_29, s37_32, s37_33, s37_34, s37_37, s37_39, s37_40, s37_41, s37_44, s37_46, s37_47, s37_48, s37_51, s37_53, s37_54, s37_55, s37_58, s37_61, s37_62, s37_65, Option.some.injEq, exists_eq_left', exists_eq_left, List.cons_append, List.nil_append, List.length_nil, List.length_cons, Nat.reduceAdd, Nat.reduceMul, Nat.reduceSub, Nat.reduceLeDiff, true_and, and_true, ↓reduceIte, not_false_eq_true, not_true_eq_false, nI_add, pk_mul, jn_ltT, jn_ltF, jn_leT, jn_leF, jn_eqT, jn_eqF, jn_lt0, jn_ge0, jn_eq0T, jn_eq0F, jn_in, jn_cl, jf_132_1 hR1, jf_132_3 hR1, jf_132_4 hR1, jf_99_1 hR1, f1, tb_blockAt, ja_133 hR1, ja_134 hR1, t1, t0, jabs2, dd, jmax2]
      refine ih2 (by omega) _ _ (by omega) (fun B b1 b2 => ?_) ?_
      · by_cases z : B = 32 * x + y
        · subst z; omega
        · have := h2 B b1 (by omega); omega
      · rcases Nat.lt_or_ge m (jdf (A 3) W (F 2 0) (F 2 1) (32 * x + y)) with z | z
        · exact Or.inr ⟨_, bb, by omega⟩
        · rw [Nat.max_eq_left z]; exact h3
end CL11
