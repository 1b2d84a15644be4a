/-! ===== the class: copy, lay ===== -/
section CL26
variable {d : Nat} {F : Nat → Nat → Nat} {A : Nat → Nat → Int32} {G : Nat → Option Nat} {g : Nat → Int64} {h : jxH} {Q : List Value → jxH → Prop}
theorem sh_hasRun (hR : jR F A G g h) {s : Nat} (hs : s < 4) (hz : F (117 + 2 * s) 1 ≤ 30) {x y : Int32} : jx_Go jxP d 59 0 [.ref (117 + 2 * s), .int x, .int y] [] h Q ↔ Q [.int (nI (if jhp (F (117 + 2 * s) 1) x y = true then 1 else 0))] h := by
  have t := hR.sh hs
  generalize F (117 + 2 * s) 1 = z at hz t ⊢
  simp (disch := omega) only [s59_0, s59_1, s59_4, s59_5, s59_8, s59_9, s59_10, s59_13, s59_14, s59_15, s59_18, s59_19, s59_22, s59_23b0, s59_23b1, Option.some.injEq, exists_eq_left', exists_eq_left, List.cons_append, List.nil_append, List.length_nil, List.length_cons, Nat.reduceAdd, Nat.reduceMul, Nat.reduceSub, Nat.reduceLeDiff, true_and, and_true, ↓reduceIte, not_false_eq_true, not_true_eq_false, nI_add, pk_mul, jn_ltT, jn_ltF, jn_leT, jn_leF, jn_eqT, jn_eqF, jn_lt0, jn_ge0, jn_eq0T, jn_eq0F, jn_in, jn_cl, t.2.2.1]
  unfold jhp
  by_cases a : x < 0
  · rw [if_pos a, if_neg (by rw [decide_eq_false (fun w => w a), Bool.false_and]; decide)]
  rw [if_neg a, decide_eq_true a, Bool.true_and]
  by_cases b : y < 0
  · rw [if_pos b, if_neg (by rw [decide_eq_false (fun w => w b), Bool.false_and]; decide)]
  rw [if_neg b, decide_eq_true b, Bool.true_and]
  have a' : 0 ≤ x.toInt := by
    have := Int32.not_lt.mp a
    rw [Int32.le_iff_toInt_le] at this
    exact this
  have b' : 0 ≤ y.toInt := by
    have := Int32.not_lt.mp b
    rw [Int32.le_iff_toInt_le] at this
    exact this
  have ly := Int32.toInt_lt y
  have e : (nI z - y).toInt = z - y.toInt := by
    rw [Int32.toInt_sub, nI_toInt (by omega), Int.bmod_def]
    split <;> omega
  have eq : (nI z - y < x) ↔ ¬ (x.toInt + y.toInt ≤ z) := by
    rw [Int32.lt_iff_toInt_lt, e]
    omega
  by_cases w : x.toInt + y.toInt ≤ z
  · rw [if_neg (fun q => eq.mp q w), decide_eq_true w, if_pos rfl]
  · rw [if_pos (eq.mpr w), decide_eq_false w, if_neg (by decide)]
theorem tb_copy_f (hR : jR F A G g h) (hB : ∀ s, s < 4 → F (117 + 2 * s) 0 ≤ 32 ∧ F (117 + 2 * s) 1 ≤ 30) {s x t y n w : Int32} (e : jcpA (fun s => F (117 + 2 * s) 0) (fun s => F (117 + 2 * s) 1) s x t y n = some w) (k : ∀ h', jR (jup F 1 11 (F 1 11 + 1)) A G g h' → jD h h' → Q [.int w] h') : jx_Go jxP (d + 1) 96 0 [.ref 1, .int s, .int x, .int t, .int y, .int n, jx_u, jx_u] [] h Q := by
  obtain ⟨r', ar, rr⟩ := hR.shr
  unfold jcpA at e
  have k14 : w = -1 → jx_Go jxP (d + 1) 96 14 [.ref 1, .int s, .int x, .int t, .int y, .int n, jx_u, jx_u] [] h Q := by
    intro ew
    subst ew
    simp (disch := omega) only [s96_14, s96_15, s96_16, Option.some.injEq, exists_eq_left', exists_eq_left, List.cons_append, List.nil_append, List.length_nil, List.length_cons, Nat.reduceAdd, Nat.reduceMul, Nat.reduceSub, Nat.reduceLeDiff, true_and, and_true, ↓reduceIte, not_false_eq_true, not_true_eq_false, nI_add, pk_mul, jn_ltT, jn_ltF, jn_leT, jn_leF, jn_eqT, jn_eqF, jn_lt0, jn_ge0, jn_eq0T, jn_eq0F, jn_in, jn_cl, jc_of_1 hR]
    exact tb_finding hR (fun h' hR' hD' => by simp only [s96_19, Option.some.injEq, exists_eq_left', exists_eq_left, List.cons_append, List.nil_append, List.length_nil, List.length_cons, Nat.reduceAdd, Nat.reduceMul, Nat.reduceSub, Nat.reduceLeDiff, true_and, and_true, ↓reduceIte, not_false_eq_true, not_true_eq_false, nI_add, pk_mul, jn_ltT, jn_ltF, jn_leT, jn_leF, jn_eqT, jn_eqF, jn_lt0, jn_ge0, jn_eq0T, jn_eq0F, jn_in, jn_cl]; exact k h' hR' hD')
  simp (disch := omega) only [s96_0, s96_1, Option.some.injEq, exists_eq_left', exists_eq_left, List.cons_append, List.nil_append, List.length_nil, List.length_cons, Nat.reduceAdd, Nat.reduceMul, Nat.reduceSub, Nat.reduceLeDiff, true_and, and_true, ↓reduceIte, not_false_eq_true, not_true_eq_false, nI_add, pk_mul, jn_ltT, jn_ltF, jn_leT, jn_leF, jn_eqT, jn_eqF, jn_lt0, jn_ge0, jn_eq0T, jn_eq0F, jn_in, jn_cl, tb_noSheet]
  by_cases hs : jbel s 4 = true
  · rw [if_pos hs]
    simp (disch := omega) only [s96_4, s96_7, s96_8, Option.some.injEq, exists_eq_left', exists_eq_left, List.cons_append, List.nil_append, List.length_nil, List.length_cons, Nat.reduceAdd, Nat.reduceMul, Nat.reduceSub, Nat.reduceLeDiff, true_and, and_true, ↓reduceIte, not_false_eq_true, not_true_eq_false, nI_add, pk_mul, jn_ltT, jn_ltF, jn_leT, jn_leF, jn_eqT, jn_eqF, jn_lt0, jn_ge0, jn_eq0T, jn_eq0F, jn_in, jn_cl, tb_noSheet]
    by_cases ht : jbel t 4 = true
    · rw [if_pos ht]
      rw [if_pos ⟨hs, ht⟩] at e
      obtain ⟨s', hs', es⟩ := (jbel_iff (by omega)).mp hs
      obtain ⟨t', ht', et⟩ := (jbel_iff (by omega)).mp ht
      subst es; subst et
      rw [jn_cl (by omega), jn_cl (by omega)] at e
      obtain ⟨b1, z1⟩ := hB s' hs'
      obtain ⟨b2, z2⟩ := hB t' ht'
      have ts := hR.sh hs'
      have tt := hR.sh ht'
      have rs := rr s' hs'
      have rt := rr t' ht'
      have mi : ∀ (d : Nat) (Q : List Value → jxH → Prop), jx_Go jxP d 56 0 [.ref (117 + 2 * s')] [] h Q ↔ Q [.int (nI (if F (117 + 2 * s') 0 = 0 then 1 else 0))] h := fun d Q => sh_isMissing hR hs' b1
      have mi2 : ∀ (d : Nat) (Q : List Value → jxH → Prop), jx_Go jxP d 56 0 [.ref (117 + 2 * t')] [] h Q ↔ Q [.int (nI (if F (117 + 2 * t') 0 = 0 then 1 else 0))] h := fun d Q => sh_isMissing hR ht' b2
      have hr1 : ∀ (d : Nat) (Q : List Value → jxH → Prop) x y, jx_Go jxP d 59 0 [.ref (117 + 2 * s'), .int x, .int y] [] h Q ↔ Q [.int (nI (if jhp (F (117 + 2 * s') 1) x y = true then 1 else 0))] h := fun d Q x y => sh_hasRun hR hs' z1
      have hr2 : ∀ (d : Nat) (Q : List Value → jxH → Prop) x y, jx_Go jxP d 59 0 [.ref (117 + 2 * t'), .int x, .int y] [] h Q ↔ Q [.int (nI (if jhp (F (117 + 2 * t') 1) x y = true then 1 else 0))] h := fun d Q x y => sh_hasRun hR ht' z2
      have k52 : w = -2 → jx_Go jxP (d + 1) 96 52 [.ref 1, .int (nI s'), .int x, .int (nI t'), .int y, .int n, .ref (117 + 2 * s'), .ref (117 + 2 * t')] [] h Q := by
        intro ew
        subst ew
        simp (disch := omega) only [s96_52, s96_53, s96_55, Option.some.injEq, exists_eq_left', exists_eq_left, List.cons_append, List.nil_append, List.length_nil, List.length_cons, Nat.reduceAdd, Nat.reduceMul, Nat.reduceSub, Nat.reduceLeDiff, true_and, and_true, ↓reduceIte, not_false_eq_true, not_true_eq_false, nI_add, pk_mul, jn_ltT, jn_ltF, jn_leT, jn_leF, jn_eqT, jn_eqF, jn_lt0, jn_ge0, jn_eq0T, jn_eq0F, jn_in, jn_cl, jc_of_1 hR]
        exact tb_finding hR (fun h' hR' hD' => by simp only [s96_58, Option.some.injEq, exists_eq_left', exists_eq_left, List.cons_append, List.nil_append, List.length_nil, List.length_cons, Nat.reduceAdd, Nat.reduceMul, Nat.reduceSub, Nat.reduceLeDiff, true_and, and_true, ↓reduceIte, not_false_eq_true, not_true_eq_false, nI_add, pk_mul, jn_ltT, jn_ltF, jn_leT, jn_leF, jn_eqT, jn_eqF, jn_lt0, jn_ge0, jn_eq0T, jn_eq0F, jn_in, jn_cl]; exact k h' hR' hD')
      dsimp only at e
      simp (disch := omega) only [s96_11, s96_20, s96_21, s96_24, s96_25, s96_26, s96_28, s96_29, s96_32, s96_33, s96_34, s96_36, s96_38, Option.some.injEq, exists_eq_left', exists_eq_left, List.cons_append, List.nil_append, List.length_nil, List.length_cons, Nat.reduceAdd, Nat.reduceMul, Nat.reduceSub, Nat.reduceLeDiff, true_and, and_true, ↓reduceIte, not_false_eq_true, not_true_eq_false, nI_add, pk_mul, jn_ltT, jn_ltF, jn_leT, jn_leF, jn_eqT, jn_eqF, jn_lt0, jn_ge0, jn_eq0T, jn_eq0F, jn_in, jn_cl, jf_1_2 hR, ar, rs, rt, jx_rv, ts.1, tt.1, mi]
      by_cases c1 : F (117 + 2 * s') 0 = 0
      · rw [if_pos (Or.inl c1)] at e
        rw [if_pos c1]
        simp (disch := omega) only [s96_41, Option.some.injEq, exists_eq_left', exists_eq_left, List.cons_append, List.nil_append, List.length_nil, List.length_cons, Nat.reduceAdd, Nat.reduceMul, Nat.reduceSub, Nat.reduceLeDiff, true_and, and_true, ↓reduceIte, not_false_eq_true, not_true_eq_false, nI_add, pk_mul, jn_ltT, jn_ltF, jn_leT, jn_leF, jn_eqT, jn_eqF, jn_lt0, jn_ge0, jn_eq0T, jn_eq0F, jn_in, jn_cl]
        exact k52 (Option.some.inj e).symm
      · rw [if_neg c1]
        simp (disch := omega) only [s96_41, s96_44, s96_46, Option.some.injEq, exists_eq_left', exists_eq_left, List.cons_append, List.nil_append, List.length_nil, List.length_cons, Nat.reduceAdd, Nat.reduceMul, Nat.reduceSub, Nat.reduceLeDiff, true_and, and_true, ↓reduceIte, not_false_eq_true, not_true_eq_false, nI_add, pk_mul, jn_ltT, jn_ltF, jn_leT, jn_leF, jn_eqT, jn_eqF, jn_lt0, jn_ge0, jn_eq0T, jn_eq0F, jn_in, jn_cl, tt.1, mi2]
        by_cases c2 : F (117 + 2 * t') 0 = 0
        · rw [if_pos (Or.inr c2)] at e
          rw [if_pos c2]
          simp (disch := omega) only [s96_49, Option.some.injEq, exists_eq_left', exists_eq_left, List.cons_append, List.nil_append, List.length_nil, List.length_cons, Nat.reduceAdd, Nat.reduceMul, Nat.reduceSub, Nat.reduceLeDiff, true_and, and_true, ↓reduceIte, not_false_eq_true, not_true_eq_false, nI_add, pk_mul, jn_ltT, jn_ltF, jn_leT, jn_leF, jn_eqT, jn_eqF, jn_lt0, jn_ge0, jn_eq0T, jn_eq0F, jn_in, jn_cl]
          exact k52 (Option.some.inj e).symm
        · rw [if_neg (by rintro (z | z); exact c1 z; exact c2 z)] at e
          rw [if_neg c2]
          by_cases c3 : F (117 + 2 * s') 0 = F (117 + 2 * t') 0
          · rw [if_pos c3] at e
            have k102 : w = -1 → jx_Go jxP (d + 1) 96 102 [.ref 1, .int (nI s'), .int x, .int (nI t'), .int y, .int n, .ref (117 + 2 * s'), .ref (117 + 2 * t')] [] h Q := by
              intro ew
              subst ew
              simp (disch := omega) only [s96_102, s96_103, s96_104, Option.some.injEq, exists_eq_left', exists_eq_left, List.cons_append, List.nil_append, List.length_nil, List.length_cons, Nat.reduceAdd, Nat.reduceMul, Nat.reduceSub, Nat.reduceLeDiff, true_and, and_true, ↓reduceIte, not_false_eq_true, not_true_eq_false, nI_add, pk_mul, jn_ltT, jn_ltF, jn_leT, jn_leF, jn_eqT, jn_eqF, jn_lt0, jn_ge0, jn_eq0T, jn_eq0F, jn_in, jn_cl, jc_of_1 hR]
              exact tb_finding hR (fun h' hR' hD' => by simp only [s96_107, Option.some.injEq, exists_eq_left', exists_eq_left, List.cons_append, List.nil_append, List.length_nil, List.length_cons, Nat.reduceAdd, Nat.reduceMul, Nat.reduceSub, Nat.reduceLeDiff, true_and, and_true, ↓reduceIte, not_false_eq_true, not_true_eq_false, nI_add, pk_mul, jn_ltT, jn_ltF, jn_leT, jn_leF, jn_eqT, jn_eqF, jn_lt0, jn_ge0, jn_eq0T, jn_eq0F, jn_in, jn_cl]; exact k h' hR' hD')
            simp (disch := omega) only [s96_49, s96_59, s96_61, s96_64, s96_66, s96_69, s96_72, s96_73, s96_75, s96_78, s96_79, s96_81, s96_82, s96_84, Option.some.injEq, exists_eq_left', exists_eq_left, List.cons_append, List.nil_append, List.length_nil, List.length_cons, Nat.reduceAdd, Nat.reduceMul, Nat.reduceSub, Nat.reduceLeDiff, true_and, and_true, ↓reduceIte, not_false_eq_true, not_true_eq_false, nI_add, pk_mul, jn_ltT, jn_ltF, jn_leT, jn_leF, jn_eqT, jn_eqF, jn_lt0, jn_ge0, jn_eq0T, jn_eq0F, jn_in, jn_cl, ts.1, ts.2.1, tt.2.1, hr1]
            by_cases c4 : jhp (F (117 + 2 * s') 1) x n = true
            · rw [if_pos c4]
              simp (disch := omega) only [s96_87, s96_90, s96_92, s96_94, s96_96, Option.some.injEq, exists_eq_left', exists_eq_left, List.cons_append, List.nil_append, List.length_nil, List.length_cons, Nat.reduceAdd, Nat.reduceMul, Nat.reduceSub, Nat.reduceLeDiff, true_and, and_true, ↓reduceIte, not_false_eq_true, not_true_eq_false, nI_add, pk_mul, jn_ltT, jn_ltF, jn_leT, jn_leF, jn_eqT, jn_eqF, jn_lt0, jn_ge0, jn_eq0T, jn_eq0F, jn_in, jn_cl, tt.1, hr2]
              by_cases c5 : jhp (F (117 + 2 * t') 1) y n = true
              · rw [if_pos ⟨c4, c5⟩] at e; cases e
              · rw [if_neg (fun z => c5 z.2)] at e
                rw [if_neg c5]
                simp (disch := omega) only [s96_99, Option.some.injEq, exists_eq_left', exists_eq_left, List.cons_append, List.nil_append, List.length_nil, List.length_cons, Nat.reduceAdd, Nat.reduceMul, Nat.reduceSub, Nat.reduceLeDiff, true_and, and_true, ↓reduceIte, not_false_eq_true, not_true_eq_false, nI_add, pk_mul, jn_ltT, jn_ltF, jn_leT, jn_leF, jn_eqT, jn_eqF, jn_lt0, jn_ge0, jn_eq0T, jn_eq0F, jn_in, jn_cl]
                exact k102 (Option.some.inj e).symm
            · rw [if_neg (fun z => c4 z.1)] at e
              rw [if_neg c4]
              simp (disch := omega) only [s96_87, Option.some.injEq, exists_eq_left', exists_eq_left, List.cons_append, List.nil_append, List.length_nil, List.length_cons, Nat.reduceAdd, Nat.reduceMul, Nat.reduceSub, Nat.reduceLeDiff, true_and, and_true, ↓reduceIte, not_false_eq_true, not_true_eq_false, nI_add, pk_mul, jn_ltT, jn_ltF, jn_leT, jn_leF, jn_eqT, jn_eqF, jn_lt0, jn_ge0, jn_eq0T, jn_eq0F, jn_in, jn_cl]
              exact k102 (Option.some.inj e).symm
          · rw [if_neg c3] at e
            have ew : -4 = w := Option.some.inj e
            subst ew
            simp (disch := omega) only [s96_49, s96_59, s96_61, s96_64, s96_66, s96_69, s96_72, s96_73, s96_75, Option.some.injEq, exists_eq_left', exists_eq_left, List.cons_append, List.nil_append, List.length_nil, List.length_cons, Nat.reduceAdd, Nat.reduceMul, Nat.reduceSub, Nat.reduceLeDiff, true_and, and_true, ↓reduceIte, not_false_eq_true, not_true_eq_false, nI_add, pk_mul, jn_ltT, jn_ltF, jn_leT, jn_leF, jn_eqT, jn_eqF, jn_lt0, jn_ge0, jn_eq0T, jn_eq0F, jn_in, jn_cl, ts.2.1, tt.2.1, jc_of_1 hR]
            exact tb_finding hR (fun h' hR' hD' => by simp only [s96_78, Option.some.injEq, exists_eq_left', exists_eq_left, List.cons_append, List.nil_append, List.length_nil, List.length_cons, Nat.reduceAdd, Nat.reduceMul, Nat.reduceSub, Nat.reduceLeDiff, true_and, and_true, ↓reduceIte, not_false_eq_true, not_true_eq_false, nI_add, pk_mul, jn_ltT, jn_ltF, jn_leT, jn_leF, jn_eqT, jn_eqF, jn_lt0, jn_ge0, jn_eq0T, jn_eq0F, jn_in, jn_cl]; exact k h' hR' hD')
    · rw [if_neg ht]
      rw [if_neg (fun z => ht z.2)] at e
      simp (disch := omega) only [s96_11, Option.some.injEq, exists_eq_left', exists_eq_left, List.cons_append, List.nil_append, List.length_nil, List.length_cons, Nat.reduceAdd, Nat.reduceMul, Nat.reduceSub, Nat.reduceLeDiff, true_and, and_true, ↓reduceIte, not_false_eq_true, not_true_eq_false, nI_add, pk_mul, jn_ltT, jn_ltF, jn_leT, jn_leF, jn_eqT, jn_eqF, jn_lt0, jn_ge0, jn_eq0T, jn_eq0F, jn_in, jn_cl]
      exact k14 (Option.some.inj e).symm
  · rw [if_neg hs]
    rw [if_neg (fun z => hs z.1)] at e
    simp (disch := omega) only [s96_4, Option.some.injEq, exists_eq_left', exists_eq_left, List.cons_append, List.nil_append, List.length_nil, List.length_cons, Nat.reduceAdd, Nat.reduceMul, Nat.reduceSub, Nat.reduceLeDiff, true_and, and_true, ↓reduceIte, not_false_eq_true, not_true_eq_false, nI_add, pk_mul, jn_ltT, jn_ltF, jn_leT, jn_leF, jn_eqT, jn_eqF, jn_lt0, jn_ge0, jn_eq0T, jn_eq0F, jn_in, jn_cl]
    exact k14 (Option.some.inj e).symm
theorem tb_copy_t (hR : jR F A G g h) {s x t y n : Nat} (hs : s < 4) (ht : t < 4) (hb : 0 < F (117 + 2 * s) 0) (hb2 : F (117 + 2 * s) 0 ≤ 32) (eb : F (117 + 2 * s) 0 = F (117 + 2 * t) 0) (z1 : F (117 + 2 * s) 1 ≤ 30) (z2 : F (117 + 2 * t) 1 ≤ 30) (hx : x + n ≤ F (117 + 2 * s) 1) (hy : y + n ≤ F (117 + 2 * t) 1) (k : ∀ h', jR F (jua A (118 + 2 * t) (va_cpy (A (118 + 2 * s)) (A (118 + 2 * t)) x y n)) G g h' → jD h h' → Q [.int (nI n)] h') : jx_Go jxP (d + 1) 96 0 [.ref 1, .int (nI s), .int (nI x), .int (nI t), .int (nI y), .int (nI n), jx_u, jx_u] [] h Q := by
  obtain ⟨r', ar, rr⟩ := hR.shr
  have ts := hR.sh hs
  have tt := hR.sh ht
  have rs := rr s hs
  have rt := rr t ht
  have mi : ∀ (d : Nat) (Q : List Value → jxH → Prop), jx_Go jxP d 56 0 [.ref (117 + 2 * s)] [] h Q ↔ Q [.int (nI (if F (117 + 2 * s) 0 = 0 then 1 else 0))] h := fun d Q => sh_isMissing hR hs (by omega)
  have mi2 : ∀ (d : Nat) (Q : List Value → jxH → Prop), jx_Go jxP d 56 0 [.ref (117 + 2 * t)] [] h Q ↔ Q [.int (nI (if F (117 + 2 * t) 0 = 0 then 1 else 0))] h := fun d Q => sh_isMissing hR ht (by omega)
  have hr1 : ∀ (d : Nat) (Q : List Value → jxH → Prop) x y, jx_Go jxP d 59 0 [.ref (117 + 2 * s), .int x, .int y] [] h Q ↔ Q [.int (nI (if jhp (F (117 + 2 * s) 1) x y = true then 1 else 0))] h := fun d Q x y => sh_hasRun hR hs z1
  have hr2 : ∀ (d : Nat) (Q : List Value → jxH → Prop) x y, jx_Go jxP d 59 0 [.ref (117 + 2 * t), .int x, .int y] [] h Q ↔ Q [.int (nI (if jhp (F (117 + 2 * t) 1) x y = true then 1 else 0))] h := fun d Q x y => sh_hasRun hR ht z2
  have e5 := (jsht t ht).2.2.2.2
  simp (disch := omega) only [s96_0, s96_1, Option.some.injEq, exists_eq_left', exists_eq_left, List.cons_append, List.nil_append, List.length_nil, List.length_cons, Nat.reduceAdd, Nat.reduceMul, Nat.reduceSub, Nat.reduceLeDiff, true_and, and_true, ↓reduceIte, not_false_eq_true, not_true_eq_false, nI_add, pk_mul, jn_ltT, jn_ltF, jn_leT, jn_leF, jn_eqT, jn_eqF, jn_lt0, jn_ge0, jn_eq0T, jn_eq0F, jn_in, jn_cl, tb_noSheet, jbel_n]
  simp (disch := omega) only [s96_4, s96_7, s96_8, Option.some.injEq, exists_eq_left', exists_eq_left, List.cons_append, List.nil_append, List.length_nil, List.length_cons, Nat.reduceAdd, Nat.reduceMul, Nat.reduceSub, Nat.reduceLeDiff, true_and, and_true, ↓reduceIte, not_false_eq_true, not_true_eq_false, nI_add, pk_mul, jn_ltT, jn_ltF, jn_leT, jn_leF, jn_eqT, jn_eqF, jn_lt0, jn_ge0, jn_eq0T, jn_eq0F, jn_in, jn_cl, tb_noSheet, jbel_n]
  simp (disch := omega) only [s96_11, s96_20, s96_21, s96_24, s96_25, s96_26, s96_28, s96_29, s96_32, s96_33, s96_34, s96_36, s96_38, Option.some.injEq, exists_eq_left', exists_eq_left, List.cons_append, List.nil_append, List.length_nil, List.length_cons, Nat.reduceAdd, Nat.reduceMul, Nat.reduceSub, Nat.reduceLeDiff, true_and, and_true, ↓reduceIte, not_false_eq_true, not_true_eq_false, nI_add, pk_mul, jn_ltT, jn_ltF, jn_leT, jn_leF, jn_eqT, jn_eqF, jn_lt0, jn_ge0, jn_eq0T, jn_eq0F, jn_in, jn_cl, jf_1_2 hR, ar, rs, rt, jx_rv, ts.1, tt.1, mi]
  rw [if_neg (by omega)]
  simp (disch := omega) only [s96_41, s96_44, s96_46, Option.some.injEq, exists_eq_left', exists_eq_left, List.cons_append, List.nil_append, List.length_nil, List.length_cons, Nat.reduceAdd, Nat.reduceMul, Nat.reduceSub, Nat.reduceLeDiff, true_and, and_true, ↓reduceIte, not_false_eq_true, not_true_eq_false, nI_add, pk_mul, jn_ltT, jn_ltF, jn_leT, jn_leF, jn_eqT, jn_eqF, jn_lt0, jn_ge0, jn_eq0T, jn_eq0F, jn_in, jn_cl, tt.1, mi2]
  rw [if_neg (by omega)]
  simp (disch := omega) only [s96_49, s96_59, s96_61, s96_64, s96_66, s96_69, s96_72, s96_73, s96_75, s96_78, s96_79, s96_81, s96_82, s96_84, Option.some.injEq, exists_eq_left', exists_eq_left, List.cons_append, List.nil_append, List.length_nil, List.length_cons, Nat.reduceAdd, Nat.reduceMul, Nat.reduceSub, Nat.reduceLeDiff, true_and, and_true, ↓reduceIte, not_false_eq_true, not_true_eq_false, nI_add, pk_mul, jn_ltT, jn_ltF, jn_leT, jn_leF, jn_eqT, jn_eqF, jn_lt0, jn_ge0, jn_eq0T, jn_eq0F, jn_in, jn_cl, ts.1, ts.2.1, tt.2.1, hr1]
  rw [if_pos (jhp_n hx z1)]
  simp (disch := omega) only [s96_87, s96_90, s96_92, s96_94, s96_96, Option.some.injEq, exists_eq_left', exists_eq_left, List.cons_append, List.nil_append, List.length_nil, List.length_cons, Nat.reduceAdd, Nat.reduceMul, Nat.reduceSub, Nat.reduceLeDiff, true_and, and_true, ↓reduceIte, not_false_eq_true, not_true_eq_false, nI_add, pk_mul, jn_ltT, jn_ltF, jn_leT, jn_leF, jn_eqT, jn_eqF, jn_lt0, jn_ge0, jn_eq0T, jn_eq0F, jn_in, jn_cl, tt.1, hr2]
  rw [if_pos (jhp_n hy z2)]
  simp (disch := omega) only [s96_99, s96_108, s96_110, s96_113, s96_114, s96_116, s96_119, s96_121, s96_123, s96_126, s96_128, Option.some.injEq, exists_eq_left', exists_eq_left, List.cons_append, List.nil_append, List.length_nil, List.length_cons, Nat.reduceAdd, Nat.reduceMul, Nat.reduceSub, Nat.reduceLeDiff, true_and, and_true, ↓reduceIte, not_false_eq_true, not_true_eq_false, nI_add, pk_mul, jn_ltT, jn_ltF, jn_leT, jn_leF, jn_eqT, jn_eqF, jn_lt0, jn_ge0, jn_eq0T, jn_eq0F, jn_in, jn_cl, ts.2.2.2.1, ts.2.2.2.2, tt.2.2.2.1, tt.2.2.2.2]
  refine ⟨⟨by omega, by omega⟩, ?_⟩
  exact k _ (hR.wi e5) (jD.rf.wi (by omega))
end CL26
