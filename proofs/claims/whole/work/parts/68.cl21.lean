/-! ===== the class: the fewest blocks that cover ===== -/
section CL21
variable {d : Nat} {F : Nat → Nat → Nat} {A : Nat → Nat → Int32} {G : Nat → Option Nat} {g : Nat → Int64} {h : jxH} {Q : List Value → jxH → Prop}
def jAch (P : Nat → Prop) (used L b b' : Nat) : Prop := b' = b ∨ ∃ q, jCL P q L ∧ b' = used + q
theorem jci_6 {c : Nat → Nat} {L : Nat} : ∀ r, jci c L r < 6 := by
  intro r
  unfold jci
  split <;> omega
theorem se_coverRest {v : Nat → Int32} {R C x m : Nat} {E c : Nat → Nat} (hr : R ≤ 5) (hc : C ≤ 5) (hx : x < 2) (hG : jGl v R C x (2 ^ R) m E) (hg : jGc v R C (nI x) c) (hm : m < 32) (eE : ∀ k, k < m → A 148 k = nI (E k)) (e4 : F 146 4 = m) (e6 : F 146 6 = jcS c) : ∀ n used, used + n = 5 → ∀ d L b h1, L < 33554432 → b ≤ 5 → jR (jup F 146 7 b) A G g h1 → jD h h1 → ∀ {Q : List Value → jxH → Prop}, (∀ b' h2, b' ≤ b → jAch (fun B => ∃ k, k < m ∧ E k = B) used L b b' → (∀ q, jCL (fun B => ∃ k, k < m ∧ E k = B) q L → b' ≤ used + q) → jR (jup F 146 7 b') A G g h2 → jD h h2 → Q [] h2) → jx_Go jxP (d + n + 2) 53 0 [.ref 146, .int (nI L), .int (nI used), jx_u, jx_u] [] h1 Q := by
  have sc := jcS_lt (c := c)
  intro n
  induction n with
  | zero =>
    intro used hu d L b h1 hL hb hR1 hD1 Q kk
    have f7 : jup F 146 7 b 146 7 = b := jup_same
    have f6 : jup F 146 7 b 146 6 = jcS c := e6
    by_cases z : L = 0
    · subst z
      simp (disch := omega) only [s53_0, s53_1, s53_4, s53_5, s53_6, s53_9, s53_10, s53_13, s53_16, Option.some.injEq, exists_eq_left', exists_eq_left, List.cons_append, List.nil_append, List.length_nil, List.length_cons, Nat.reduceAdd, Nat.reduceMul, Nat.reduceSub, Nat.reduceLeDiff, true_and, and_true, ↓reduceIte, not_false_eq_true, not_true_eq_false, nI_add, pk_mul, jn_ltT, jn_ltF, jn_leT, jn_leF, jn_eqT, jn_eqF, jn_lt0, jn_ge0, jn_eq0T, jn_eq0F, jn_in, jn_cl, jf_146_7 hR1, f7, jmin2]
      have hR2 := hR1.uf (o := 146) (k := 7) (v := b) rfl rfl
      rw [jup_jup] at hR2
      exact kk b _ (by omega) (Or.inl rfl) (fun q _ => by omega) hR2 (hD1.uf (by decide))
    · have lN := jcN_le (c := jci c L)
      simp (disch := omega) only [s53_0, s53_1, s53_17, s53_18, s53_19, s53_20, s53_21, s53_24, s53_25, s53_28, s53_31, s53_32, s53_33, s53_36, Option.some.injEq, exists_eq_left', exists_eq_left, List.cons_append, List.nil_append, List.length_nil, List.length_cons, Nat.reduceAdd, Nat.reduceMul, Nat.reduceSub, Nat.reduceLeDiff, true_and, and_true, ↓reduceIte, not_false_eq_true, not_true_eq_false, nI_add, pk_mul, jn_ltT, jn_ltF, jn_leT, jn_leF, jn_eqT, jn_eqF, jn_lt0, jn_ge0, jn_eq0T, jn_eq0F, jn_in, jn_cl, jf_146_6 hR1, jf_146_7 hR1, f6, f7, jn_and, jci_S hg.1, in_bitCount, jcS_bc jci_6, jmax2]
      simp (disch := omega) only [s53_36, s53_39, Option.some.injEq, exists_eq_left', exists_eq_left, List.cons_append, List.nil_append, List.length_nil, List.length_cons, Nat.reduceAdd, Nat.reduceMul, Nat.reduceSub, Nat.reduceLeDiff, true_and, and_true, ↓reduceIte, not_false_eq_true, not_true_eq_false, nI_add, pk_mul, jn_ltT, jn_ltF, jn_leT, jn_leF, jn_eqT, jn_eqF, jn_lt0, jn_ge0, jn_eq0T, jn_eq0F, jn_in, jn_cl]
      refine kk b h1 (Nat.le_refl _) (Or.inl rfl) (fun q hq => ?_) hR1 hD1
      omega
  | succ n ih =>
    intro used hu d L b h1 hL hb hR1 hD1 Q kk
    have f7 : jup F 146 7 b 146 7 = b := jup_same
    have f6 : jup F 146 7 b 146 6 = jcS c := e6
    by_cases z : L = 0
    · subst z
      simp (disch := omega) only [s53_0, s53_1, s53_4, s53_5, s53_6, s53_9, s53_10, s53_13, s53_16, Option.some.injEq, exists_eq_left', exists_eq_left, List.cons_append, List.nil_append, List.length_nil, List.length_cons, Nat.reduceAdd, Nat.reduceMul, Nat.reduceSub, Nat.reduceLeDiff, true_and, and_true, ↓reduceIte, not_false_eq_true, not_true_eq_false, nI_add, pk_mul, jn_ltT, jn_ltF, jn_leT, jn_leF, jn_eqT, jn_eqF, jn_lt0, jn_ge0, jn_eq0T, jn_eq0F, jn_in, jn_cl, jf_146_7 hR1, f7, jmin2]
      have hR2 := hR1.uf (o := 146) (k := 7) (v := min b used) rfl rfl
      rw [jup_jup] at hR2
      refine kk (min b used) _ (by omega) ?_ (fun q _ => by omega) hR2 (hD1.uf (by decide))
      rcases Nat.lt_or_ge used b with w | w
      · exact Or.inr ⟨0, jCL_0, by omega⟩
      · exact Or.inl (by omega)
    · have lN := jcN_le (c := jci c L)
      obtain ⟨l1, l2, l3, l4⟩ := jlo_ok (L := L) (by omega) hL
      simp (disch := omega) only [s53_0, s53_1, s53_17, s53_18, s53_19, s53_20, s53_21, s53_24, s53_25, s53_28, s53_31, s53_32, s53_33, Option.some.injEq, exists_eq_left', exists_eq_left, List.cons_append, List.nil_append, List.length_nil, List.length_cons, Nat.reduceAdd, Nat.reduceMul, Nat.reduceSub, Nat.reduceLeDiff, true_and, and_true, ↓reduceIte, not_false_eq_true, not_true_eq_false, nI_add, pk_mul, jn_ltT, jn_ltF, jn_leT, jn_leF, jn_eqT, jn_eqF, jn_lt0, jn_ge0, jn_eq0T, jn_eq0F, jn_in, jn_cl, jf_146_6 hR1, jf_146_7 hR1, f6, f7, jn_and, jci_S hg.1, in_bitCount, jcS_bc jci_6, jmax2]
      by_cases w : used + max 1 (jcN (jci c L)) < b
      · simp (disch := omega) only [s53_36, s53_40, s53_41, s53_44, s53_45, s53_46, Option.some.injEq, exists_eq_left', exists_eq_left, List.cons_append, List.nil_append, List.length_nil, List.length_cons, Nat.reduceAdd, Nat.reduceMul, Nat.reduceSub, Nat.reduceLeDiff, true_and, and_true, ↓reduceIte, not_false_eq_true, not_true_eq_false, nI_add, pk_mul, jn_ltT, jn_ltF, jn_leT, jn_leF, jn_eqT, jn_eqF, jn_lt0, jn_ge0, jn_eq0T, jn_eq0F, jn_in, jn_cl, tb_lowestOf]
        refine jloop (fun k => ∀ b1 h1, b1 ≤ b → jAch (fun B => ∃ k, k < m ∧ E k = B) used L b b1 → (∀ k', k' < k → (E k').testBit (jlo L) = true → ∀ q, jCL (fun B => ∃ k, k < m ∧ E k = B) q (jan L (E k')) → b1 ≤ used + 1 + q) → jR (jup F 146 7 b1) A G g h1 → jD h h1 → jx_Go jxP (d + (n + 1) + 2) 53 48 [.ref 146, .int (nI L), .int (nI used), .int (nI (2 ^ jlo L)), .int (nI k)] [] h1 Q) m ?_ ?_ 0 (Nat.zero_le _) b h1 (Nat.le_refl _) (Or.inl rfl) (fun k' hk' => by omega) hR1 hD1
        · intro b1 h1 m1 m2 m3 hR1 hD1
          have f4 : jup F 146 7 b1 146 4 = m := e4
          rw [s53_48]
          simp (disch := omega) only [s53_50, s53_51, s53_54, s53_93, Option.some.injEq, exists_eq_left', exists_eq_left, List.cons_append, List.nil_append, List.length_nil, List.length_cons, Nat.reduceAdd, Nat.reduceMul, Nat.reduceSub, Nat.reduceLeDiff, true_and, and_true, ↓reduceIte, not_false_eq_true, not_true_eq_false, nI_add, pk_mul, jn_ltT, jn_ltF, jn_leT, jn_leF, jn_eqT, jn_eqF, jn_lt0, jn_ge0, jn_eq0T, jn_eq0F, jn_in, jn_cl, jf_146_4 hR1, f4]
          refine kk b1 h1 m1 m2 (fun q hq => ?_) hR1 hD1
          obtain ⟨q', B, e1, ⟨k', k1, k2⟩, e3, e5⟩ := jCL_cut hq l2
          subst k2
          have := m3 k' k1 e3 q' e5
          omega
        · intro k hk ihk b1 h1 m1 m2 m3 hR1 hD1
          have f4 : jup F 146 7 b1 146 4 = m := e4
          have ek := eE k hk
          obtain ⟨y, y1, y2, y3⟩ := hG.2 k hk
          have lE : E k < 33554432 := by rw [y3]; exact jgb_lt hr
          rw [s53_48]
          simp (disch := omega) only [s53_50, s53_51, s53_54, s53_57, s53_58, s53_61, s53_63, s53_64, s53_65, Option.some.injEq, exists_eq_left', exists_eq_left, List.cons_append, List.nil_append, List.length_nil, List.length_cons, Nat.reduceAdd, Nat.reduceMul, Nat.reduceSub, Nat.reduceLeDiff, true_and, and_true, ↓reduceIte, not_false_eq_true, not_true_eq_false, nI_add, pk_mul, jn_ltT, jn_ltF, jn_leT, jn_leF, jn_eqT, jn_eqF, jn_lt0, jn_ge0, jn_eq0T, jn_eq0F, jn_in, jn_cl, jf_146_3 hR1, jf_146_4 hR1, f4, ja_148 hR1, ek]
          by_cases q : (E k).testBit (jlo L) = true
          · have nb : (nI (E k) &&& nI (2 ^ jlo L) = 0) = False := by rw [jand_p l1, q]; exact eq_false (by decide)
            simp (disch := omega) only [s53_66, s53_69, s53_70, s53_71, s53_72, s53_75, s53_77, s53_78, s53_79, s53_80, s53_81, s53_82, s53_83, s53_84, Option.some.injEq, exists_eq_left', exists_eq_left, List.cons_append, List.nil_append, List.length_nil, List.length_cons, Nat.reduceAdd, Nat.reduceMul, Nat.reduceSub, Nat.reduceLeDiff, true_and, and_true, ↓reduceIte, not_false_eq_true, not_true_eq_false, nI_add, pk_mul, jn_ltT, jn_ltF, jn_leT, jn_leF, jn_eqT, jn_eqF, jn_lt0, jn_ge0, jn_eq0T, jn_eq0F, jn_in, jn_cl, jf_146_3 hR1, ja_148 hR1, ek, nb, jn_anot, jc_of_146 hR1]
            refine ih (used + 1) (by omega) d (jan L (E k)) b1 h1 (jan_lt (n := 25) hL) (by omega) hR1 hD1 (fun b' h2 n1 n2 n3 hR2 hD2 => ?_)
            simp (disch := omega) only [s53_87, s53_90, Option.some.injEq, exists_eq_left', exists_eq_left, List.cons_append, List.nil_append, List.length_nil, List.length_cons, Nat.reduceAdd, Nat.reduceMul, Nat.reduceSub, Nat.reduceLeDiff, true_and, and_true, ↓reduceIte, not_false_eq_true, not_true_eq_false, nI_add, pk_mul, jn_ltT, jn_ltF, jn_leT, jn_leF, jn_eqT, jn_eqF, jn_lt0, jn_ge0, jn_eq0T, jn_eq0F, jn_in, jn_cl]
            refine ihk b' h2 (by omega) ?_ (fun k' hk' q' q1 q2 => ?_) hR2 hD2
            · rcases n2 with n2 | ⟨q1, q2, q3⟩
              · rw [n2]; exact m2
              · exact Or.inr ⟨q1 + 1, jCL_add ⟨k, hk, rfl⟩ q2, by omega⟩
            · rcases (show k' < k ∨ k' = k by omega) with u | u
              · have := m3 k' u q' q1 q2; omega
              · subst u
                exact n3 q1 q2
          · have nb : (nI (E k) &&& nI (2 ^ jlo L) = 0) = True := by rw [jand_p l1, Bool.eq_false_iff.mpr q]; exact eq_true rfl
            simp (disch := omega) only [s53_66, s53_87, s53_90, Option.some.injEq, exists_eq_left', exists_eq_left, List.cons_append, List.nil_append, List.length_nil, List.length_cons, Nat.reduceAdd, Nat.reduceMul, Nat.reduceSub, Nat.reduceLeDiff, true_and, and_true, ↓reduceIte, not_false_eq_true, not_true_eq_false, nI_add, pk_mul, jn_ltT, jn_ltF, jn_leT, jn_leF, jn_eqT, jn_eqF, jn_lt0, jn_ge0, jn_eq0T, jn_eq0F, jn_in, jn_cl, nb]
            refine ihk b1 h1 m1 m2 (fun k' hk' q' q1 q2 => ?_) hR1 hD1
            rcases (show k' < k ∨ k' = k by omega) with u | u
            · exact m3 k' u q' q1 q2
            · subst u; exact absurd q' q
      · simp (disch := omega) only [s53_36, s53_39, Option.some.injEq, exists_eq_left', exists_eq_left, List.cons_append, List.nil_append, List.length_nil, List.length_cons, Nat.reduceAdd, Nat.reduceMul, Nat.reduceSub, Nat.reduceLeDiff, true_and, and_true, ↓reduceIte, not_false_eq_true, not_true_eq_false, nI_add, pk_mul, jn_ltT, jn_ltF, jn_leT, jn_leF, jn_eqT, jn_eqF, jn_lt0, jn_ge0, jn_eq0T, jn_eq0F, jn_in, jn_cl]
        refine kk b h1 (Nat.le_refl _) (Or.inl rfl) (fun q hq => ?_) hR1 hD1
        have a1 := jCL_fool hr hc hx hG hg hq
        obtain ⟨q', _, e1, _⟩ := jCL_cut hq l2
        omega
theorem jCL_sub {P : Nat → Prop} {m L L' : Nat} (e : jCL P m L) (h1 : ∀ p, L'.testBit p = true → L.testBit p = true) : jCL P m L' := by
  obtain ⟨l, a1, a2, a3⟩ := e
  exact ⟨l, a1, a2, fun p hp => a3 p (h1 p hp)⟩
theorem jrc_CL {v : Nat → Int32} {R C x : Nat} (hr : R ≤ 5) (hc : C ≤ 5) (hx : x < 2) : jCL (fun B => ∃ y, 1 ≤ y ∧ y < 2 ^ C ∧ jgb v R C x y = B) (jrc v R C x) (jpx v R C (nI x)) := by
  unfold jrc jpx
  have ne : nI x ≠ nI (1 - x) := by
    rcases (show x = 0 ∨ x = 1 by omega) with e | e <;> subst e <;> decide
  have key : ∀ r, r ≤ R → jCL (fun B => ∃ y, 1 ≤ y ∧ y < 2 ^ C ∧ jgb v R C x y = B) (jsum r fun r => if jmo v R C (2 ^ r) (nI x) ≠ 0 then 1 else 0) (jmk (5 * r) fun p => decide (p % 5 < C) && v p == nI x) := by
    intro r
    induction r with
    | zero => intro _; exact jCL_0
    | succ r ih =>
      intro hr'
      have i := ih (by omega)
      rw [jsum_s]
      by_cases w : jmo v R C (2 ^ r) (nI x) = 0
      · rw [if_neg (fun z => z w)]
        refine jCL_sub i (fun p hp => ?_)
        rw [jmk_bit, Bool.and_eq_true, decide_eq_true_iff, Bool.and_eq_true, decide_eq_true_iff, beq_iff_eq] at hp
        rw [jmk_bit, Bool.and_eq_true, decide_eq_true_iff, Bool.and_eq_true, decide_eq_true_iff, beq_iff_eq]
        refine ⟨?_, hp.2⟩
        rcases Nat.lt_or_ge p (5 * r) with z | z
        · exact z
        · exfalso
          have : (jmo v R C (2 ^ r) (nI x)).testBit (p % 5) = true := by
            rw [jmo_row (by omega), decide_eq_true hp.2.1, show 5 * r + p % 5 = p by omega, hp.2.2, beq_self_eq_true]; rfl
          rw [w, Nat.zero_testBit] at this
          cases this
      · rw [if_pos w]
        refine jCL_add ⟨jmo v R C (2 ^ r) (nI x), by omega, jmk_lt C, rfl⟩ (jCL_sub i (fun p hp => ?_))
        rw [jan_bit, Bool.and_eq_true, jmk_bit, Bool.and_eq_true, decide_eq_true_iff, Bool.and_eq_true, decide_eq_true_iff, beq_iff_eq] at hp
        rw [jmk_bit, Bool.and_eq_true, decide_eq_true_iff, Bool.and_eq_true, decide_eq_true_iff, beq_iff_eq]
        obtain ⟨⟨p1, p2, p3⟩, p4⟩ := hp
        refine ⟨?_, p2, p3⟩
        rcases Nat.lt_or_ge p (5 * r) with z | z
        · exact z
        · exfalso
          have pr : p / 5 = r := by omega
          have b1 : (jgb v R C x (jmo v R C (2 ^ r) (nI x))).testBit p = true := by
            unfold jgb jpl
            rw [jmk_bit, decide_eq_true (show p < 5 * R by omega), decide_eq_true p2, pr]
            rw [show (jrw v R C (jmo v R C (2 ^ r) (nI x)) x).testBit r = true from jrw_bit.mpr ⟨by omega, fun c hc' hy => by
              rw [jmo_row (by omega), Bool.and_eq_true, beq_iff_eq] at hy
              rw [hy.2]; exact ne⟩]
            rw [jmo_row (by omega), decide_eq_true p2, show 5 * r + p % 5 = p by omega, p3, beq_self_eq_true]
            rfl
          rw [b1] at p4
          cases p4
  exact key R (Nat.le_refl _)
theorem se_fewestToCover (hR : jR F A G g h) {v : Nat → Int32} {R C : Nat} (hM : jMk F A v R C) (e2 : F 2 0 = R) (e3 : F 2 1 = C) (hr : R ≤ 5) (hc : C ≤ 5) {b : Nat} (hb : b ≤ 1) (k : ∀ h' A' F', (∀ a, a ≠ 147 → a ≠ 148 → A' a = A a) → (∀ o j, o ≠ 146 → F' o j = F o j) → jR F' A' G g h' → jD h h' → Q [.int (nI (jcn v R C b))] h') : jx_Go jxP (d + 8) 49 0 [.ref 146, .int (nI b)] [] h Q := by
  have p1 := jp2 _ hr
  simp (disch := omega) only [s49_0, s49_1, s49_2, Option.some.injEq, exists_eq_left', exists_eq_left, List.cons_append, List.nil_append, List.length_nil, List.length_cons, Nat.reduceAdd, Nat.reduceMul, Nat.reduceSub, Nat.reduceLeDiff, true_and, and_true, ↓reduceIte, not_false_eq_true, not_true_eq_false, nI_add, pk_mul, jn_ltT, jn_ltF, jn_leT, jn_leF, jn_eqT, jn_eqF, jn_lt0, jn_ge0, jn_eq0T, jn_eq0F, jn_in, jn_cl, jc_of_146 hR]
  refine se_listGreatestBlocks hR hM e2 hr hc hb (fun h1 m E f hm hf hG hR1 hD1 => ?_)
  have hM1 : jMk (jup F 146 4 m) (jua A 148 f) v R C := hM.fr rfl rfl (jua_ne (by decide)) (jua_ne (by decide))
  simp (disch := omega) only [s49_5, s49_6, s49_7, s49_8, Option.some.injEq, exists_eq_left', exists_eq_left, List.cons_append, List.nil_append, List.length_nil, List.length_cons, Nat.reduceAdd, Nat.reduceMul, Nat.reduceSub, Nat.reduceLeDiff, true_and, and_true, ↓reduceIte, not_false_eq_true, not_true_eq_false, nI_add, pk_mul, jn_ltT, jn_ltF, jn_leT, jn_leF, jn_eqT, jn_eqF, jn_lt0, jn_ge0, jn_eq0T, jn_eq0F, jn_in, jn_cl, jc_of_146 hR1]
  refine se_greatestFooling hR1 hM1 e2 e3 hr hc hb (fun h2 f2 c hg _ hR2 hD2 => ?_)
  have sc := jcS_lt (c := c)
  have hR3 := hR2.uf (o := 146) (k := 6) (v := jcS c) rfl rfl
  have hD3 := (hD1.tr hD2).uf (a := 146) (k := 6) (v := .int (nI (jcS c))) (by decide)
  simp (disch := omega) only [s49_11, Option.some.injEq, exists_eq_left', exists_eq_left, List.cons_append, List.nil_append, List.length_nil, List.length_cons, Nat.reduceAdd, Nat.reduceMul, Nat.reduceSub, Nat.reduceLeDiff, true_and, and_true, ↓reduceIte, not_false_eq_true, not_true_eq_false, nI_add, pk_mul, jn_ltT, jn_ltF, jn_leT, jn_leF, jn_eqT, jn_eqF, jn_lt0, jn_ge0, jn_eq0T, jn_eq0F, jn_in, jn_cl, jf_146_6 hR2]
  generalize jx_uf h2 146 6 (.int (nI (jcS c))) = h3 at hR3 hD3 ⊢
  have hM3 : jMk (jup (jup (jup F 146 4 m) 146 5 (jcS c)) 146 6 (jcS c)) (jua (jua A 148 f) 147 f2) v R C := hM.fr rfl rfl (by rw [jua_ne (by decide), jua_ne (by decide)]) (by rw [jua_ne (by decide), jua_ne (by decide)])
  simp (disch := omega) only [s49_14, s49_15, s49_16, s49_17, Option.some.injEq, exists_eq_left', exists_eq_left, List.cons_append, List.nil_append, List.length_nil, List.length_cons, Nat.reduceAdd, Nat.reduceMul, Nat.reduceSub, Nat.reduceLeDiff, true_and, and_true, ↓reduceIte, not_false_eq_true, not_true_eq_false, nI_add, pk_mul, jn_ltT, jn_ltF, jn_leT, jn_leF, jn_eqT, jn_eqF, jn_lt0, jn_ge0, jn_eq0T, jn_eq0F, jn_in, jn_cl, jc_of_146 hR3]
  refine se_countRowsWith hR3 hM3 e2 hr hc hb ?_
  have rc := jrc_le (v := v) (R := R) (C := C) (x := b)
  have hR4 := hR3.uf (o := 146) (k := 7) (v := jrc v R C b) rfl rfl
  have hD4 := hD3.uf (a := 146) (k := 7) (v := .int (nI (jrc v R C b))) (by decide)
  simp (disch := omega) only [s49_20, Option.some.injEq, exists_eq_left', exists_eq_left, List.cons_append, List.nil_append, List.length_nil, List.length_cons, Nat.reduceAdd, Nat.reduceMul, Nat.reduceSub, Nat.reduceLeDiff, true_and, and_true, ↓reduceIte, not_false_eq_true, not_true_eq_false, nI_add, pk_mul, jn_ltT, jn_ltF, jn_leT, jn_leF, jn_eqT, jn_eqF, jn_lt0, jn_ge0, jn_eq0T, jn_eq0F, jn_in, jn_cl, jf_146_7 hR3]
  generalize jx_uf h3 146 7 (.int (nI (jrc v R C b))) = h4 at hR4 hD4 ⊢
  have hM4 : jMk (jup (jup (jup (jup F 146 4 m) 146 5 (jcS c)) 146 6 (jcS c)) 146 7 (jrc v R C b)) (jua (jua A 148 f) 147 f2) v R C := hM3.fr rfl rfl rfl rfl
  simp (disch := omega) only [s49_23, s49_24, s49_25, s49_26, Option.some.injEq, exists_eq_left', exists_eq_left, List.cons_append, List.nil_append, List.length_nil, List.length_cons, Nat.reduceAdd, Nat.reduceMul, Nat.reduceSub, Nat.reduceLeDiff, true_and, and_true, ↓reduceIte, not_false_eq_true, not_true_eq_false, nI_add, pk_mul, jn_ltT, jn_ltF, jn_leT, jn_leF, jn_eqT, jn_eqF, jn_lt0, jn_ge0, jn_eq0T, jn_eq0F, jn_in, jn_cl, jc_of_146 hR4]
  refine se_placesThatAre hR4 hM4 e2 hr hc hb ?_
  simp (disch := omega) only [s49_29, s49_30, Option.some.injEq, exists_eq_left', exists_eq_left, List.cons_append, List.nil_append, List.length_nil, List.length_cons, Nat.reduceAdd, Nat.reduceMul, Nat.reduceSub, Nat.reduceLeDiff, true_and, and_true, ↓reduceIte, not_false_eq_true, not_true_eq_false, nI_add, pk_mul, jn_ltT, jn_ltF, jn_leT, jn_leF, jn_eqT, jn_eqF, jn_lt0, jn_ge0, jn_eq0T, jn_eq0F, jn_in, jn_cl, jc_of_146 hR4]
  have hP := jpx_lt (v := v) (C := C) (x := nI b) hr
  refine se_coverRest (F := jup (jup (jup F 146 4 m) 146 5 (jcS c)) 146 6 (jcS c)) (h := h) hr hc (by omega) hG hg hm (fun k' hk' => by rw [jua_ne (by decide), jua_same]; exact hf k' hk') rfl rfl 5 0 (by omega) d (jpx v R C (nI b)) (jrc v R C b) h4 hP (by omega) hR4 hD4 (fun b' h5 n1 n2 n3 hR5 hD5 => ?_)
  have f7 := jf_146_7 hR5
  rw [jup_same] at f7
  have ach : jCL (fun B => ∃ k, k < m ∧ E k = B) b' (jpx v R C (nI b)) := by
    rcases n2 with n2 | ⟨q, q1, q2⟩
    · rw [n2]; exact (jGl_CL hG).mp (jrc_CL hr hc (by omega))
    · rw [q2, Nat.zero_add]; exact q1
  have eb : jcn v R C b = b' := by
    unfold jcn
    refine jlst_at (by omega) ((jcvt_CL b' _ hP).mpr ((jGl_CL hG).mpr ach)) (fun j hj => ?_)
    apply Bool.eq_false_iff.mpr
    intro w
    have := n3 j ((jGl_CL hG).mp ((jcvt_CL j _ hP).mp w))
    omega
  have kk := k h5 _ _ (fun a n1 n2 => by rw [jua_ne n1, jua_ne n2]) (fun o j no => by rw [jup_ne (Or.inl no), jup_ne (Or.inl no), jup_ne (Or.inl no), jup_ne (Or.inl no)]) hR5 hD5
  rw [eb] at kk
  simp (disch := omega) only [s49_33, s49_34, s49_37, Option.some.injEq, exists_eq_left', exists_eq_left, List.cons_append, List.nil_append, List.length_nil, List.length_cons, Nat.reduceAdd, Nat.reduceMul, Nat.reduceSub, Nat.reduceLeDiff, true_and, and_true, ↓reduceIte, not_false_eq_true, not_true_eq_false, nI_add, pk_mul, jn_ltT, jn_ltF, jn_leT, jn_leF, jn_eqT, jn_eqF, jn_lt0, jn_ge0, jn_eq0T, jn_eq0F, jn_in, jn_cl, f7]
  exact kk
end CL21
