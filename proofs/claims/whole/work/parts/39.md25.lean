/-! ===== the reference: cover ===== -/
section MD25
variable {d : Nat} {F : Nat → Nat → Nat} {A : Nat → Nat → Int32} {G : Nat → Option Nat} {g : Nat → Int64} {h : jxH} {Q : List Value → jxH → Prop}
/-- W without H -/
def jan (W H : Nat) : Nat := W ^^^ (W &&& H)
theorem jan_bit {W H i : Nat} : (jan W H).testBit i = (W.testBit i && !H.testBit i) := by
  unfold jan
  rw [Nat.testBit_xor, Nat.testBit_and]
  cases W.testBit i <;> cases H.testBit i <;> rfl
theorem jn_anot (W H : Nat) : nI W &&& (nI H ^^^ -1) = nI (jan W H) := by
  unfold jan
  rw [← jn_xor, ← jn_and]
  generalize nI W = x
  generalize nI H = y
  apply Int32.toBitVec_inj.mp
  have e : (-1 : Int32).toBitVec = BitVec.allOnes 32 := by decide
  simp only [Int32.toBitVec_and, Int32.toBitVec_xor, e]
  ext i hi
  simp only [BitVec.getElem_and, BitVec.getElem_xor, BitVec.getElem_allOnes]
  cases x.toBitVec[i] <;> cases y.toBitVec[i] <;> rfl
theorem jan_lt {W H n : Nat} (hW : W < 2 ^ n) : jan W H < 2 ^ n := Nat.xor_lt_two_pow hW (Nat.lt_of_le_of_lt Nat.and_le_left hW)
theorem jan_or {W H P : Nat} : jan W (H ||| P) = jan (jan W H) P := by
  apply Nat.eq_of_testBit_eq
  intro i
  rw [jan_bit, jan_bit, jan_bit, Nat.testBit_or]
  cases W.testBit i <;> cases H.testBit i <;> cases P.testBit i <;> rfl
theorem jan_0 {W : Nat} : jan W 0 = W := by unfold jan; rw [Nat.and_zero, Nat.xor_zero]
/-- the lowest of L -/
def jlo (L : Nat) : Nat := jlst (fun i => L.testBit i) 25
theorem jneg {L : Nat} (h0 : 0 < L) (hL : L < 33554432) : -nI L = nI (4294967296 - L) := by
  have e : nI (4294967296 - L) + nI L = 0 := by
    rw [nI_add, show 4294967296 - L + L = 4294967296 by omega]
    decide
  have e2 : nI L + -nI L = 0 := Int32.add_right_neg _
  calc -nI L = (nI (4294967296 - L) + nI L) + -nI L := by rw [e, Int32.zero_add]
    _ = nI (4294967296 - L) := by rw [Int32.add_assoc, e2, Int32.add_zero]
theorem jlow {L p : Nat} (hp : p < 25) (hb : L.testBit p = true) (hl : ∀ i, i < p → L.testBit i = false) (hL : L < 4294967296) : L &&& (4294967296 - L) = 2 ^ p := by
  have m : L % 2 ^ (p + 1) = 2 ^ p := by
    apply Nat.eq_of_testBit_eq
    intro i
    rw [Nat.testBit_mod_two_pow, Nat.testBit_two_pow]
    rcases Nat.lt_trichotomy i p with w | w | w
    · rw [hl i w, Bool.and_false, decide_eq_false (by omega)]
    · subst w; rw [hb, Bool.and_true, decide_eq_true (by omega), decide_eq_true rfl]
    · rw [decide_eq_false (by omega), decide_eq_false (by omega), Bool.false_and]
  have dm := Nat.div_add_mod L (2 ^ (p + 1))
  rw [m] at dm
  generalize L / 2 ^ (p + 1) = k at dm
  have pp : 0 < 2 ^ p := Nat.two_pow_pos p
  have e1 : L - 1 = 2 ^ (p + 1) * k + (2 ^ p - 1) := by omega
  have l1 : 2 ^ p - 1 < 2 ^ (p + 1) := by rw [Nat.pow_succ]; omega
  have l2 : 2 ^ p < 2 ^ (p + 1) := by rw [Nat.pow_succ]; omega
  apply Nat.eq_of_testBit_eq
  intro i
  have sc := Nat.testBit_two_pow_sub_succ (x := L - 1) (n := 32) (by omega) i
  rw [show 2 ^ 32 - (L - 1 + 1) = 4294967296 - L by omega] at sc
  rw [Nat.testBit_and, sc, e1, Nat.testBit_two_pow_mul_add _ l1, Nat.testBit_two_pow]
  rcases Nat.lt_trichotomy i p with w | w | w
  · rw [hl i w, Bool.false_and, decide_eq_false (by omega)]
  · subst w
    rw [hb, if_pos (by omega), decide_eq_true (show i < 32 by omega), decide_eq_true rfl, Nat.testBit_two_pow_sub_one, decide_eq_false (Nat.lt_irrefl _)]
    rfl
  · rw [if_neg (by omega), decide_eq_false (show ¬ p = i by omega), ← dm, Nat.testBit_two_pow_mul_add _ l2, if_neg (by omega)]
    cases k.testBit (i - (p + 1)) <;> simp
theorem jlo_ok {L : Nat} (h0 : 0 < L) (hL : L < 33554432) : jlo L < 25 ∧ L.testBit (jlo L) = true ∧ (∀ i, i < jlo L → L.testBit i = false) ∧ nI L &&& -nI L = nI (2 ^ jlo L) := by
  obtain ⟨a, b, c⟩ := jlst_le (p := fun i => L.testBit i) 25
  have lt : jlo L < 25 := by
    rcases Nat.lt_or_ge (jlo L) 25 with w | w
    · exact w
    · exfalso
      have : L = 0 := by
        apply Nat.eq_of_testBit_eq
        intro i
        rw [Nat.zero_testBit]
        rcases Nat.lt_or_ge i 25 with z | z
        · exact c i (Nat.lt_of_lt_of_le z w)
        · exact Nat.testBit_lt_two_pow (Nat.lt_of_lt_of_le hL (Nat.le_trans (by decide) (Nat.pow_le_pow_right (by decide) z)))
      omega
  have hb := b lt
  refine ⟨lt, hb, c, ?_⟩
  rw [jneg h0 hL, jn_and, jlow lt hb c (by omega)]
theorem jand_p {P p : Nat} (hp : p < 25) : (nI P &&& nI (2 ^ p) = 0) = (P.testBit p = false) := by
  have e : P &&& 2 ^ p = (P.testBit p).toNat * 2 ^ p := by
    apply Nat.eq_of_testBit_eq
    intro i
    rw [Nat.testBit_and, Nat.testBit_two_pow]
    by_cases w : p = i
    · subst w
      cases P.testBit p with
      | false => rw [Bool.toNat_false, Nat.zero_mul, Nat.zero_testBit, Bool.false_and]
      | true => rw [Bool.toNat_true, Nat.one_mul, Nat.testBit_two_pow]; rfl
    · rw [decide_eq_false w, Bool.and_false]
      cases P.testBit p with
      | false => rw [Bool.toNat_false, Nat.zero_mul, Nat.zero_testBit]
      | true => rw [Bool.toNat_true, Nat.one_mul, Nat.testBit_two_pow, decide_eq_false w]
  rw [jn_and, e]
  have pp : 0 < 2 ^ p := Nat.two_pow_pos p
  have p2 : 2 ^ p ≤ 2 ^ 25 := Nat.pow_le_pow_right (by decide) (by omega)
  cases P.testBit p with
  | false => rw [Bool.toNat_false, Nat.zero_mul]; exact eq_true rfl |>.trans (eq_true rfl).symm
  | true =>
    rw [Bool.toNat_true, Nat.one_mul, jn_eq0F pp (by omega)]
    exact (eq_false (by decide)).symm
/-- m blocks of the list P cover L; from the block t + 1 on at the first -/
def jcvt (P : Nat → Nat) (N m L t : Nat) : Bool := match m with
  | 0 => L == 0
  | m + 1 => L == 0 || jany N fun y => (decide (t < y) && (P y).testBit (jlo L)) && jcvt P N m (jan L (P y)) 0
theorem jcvt_iff {P : Nat → Nat} {N m L t : Nat} : jcvt P N (m + 1) L t = true ↔ L = 0 ∨ ∃ y, y < N ∧ t < y ∧ (P y).testBit (jlo L) = true ∧ jcvt P N m (jan L (P y)) 0 = true := by
  show (L == 0 || jany N _) = true ↔ _
  rw [Bool.or_eq_true, beq_iff_eq, jany_iff]
  refine or_congr Iff.rfl (exists_congr fun y => ?_)
  rw [Bool.and_eq_true, Bool.and_eq_true, decide_eq_true_iff]
  exact ⟨fun w => ⟨w.1, w.2.1.1, w.2.1.2, w.2.2⟩, fun w => ⟨w.1, ⟨w.2.1, w.2.2.1⟩, w.2.2.2⟩⟩
theorem jcvt_z {P : Nat → Nat} {N m t : Nat} : jcvt P N m 0 t = true := by
  cases m with
  | zero => rfl
  | succ m => exact jcvt_iff.mpr (Or.inl rfl)
/-- the greatest block over the columns y that has no 1 - x -/
def jgb (v : Nat → Int32) (R C x y : Nat) : Nat := jpl R C (jrw v R C y x) y
theorem jgb_lt {v : Nat → Int32} {R C x y : Nat} (hr : R ≤ 5) : jgb v R C x y < 33554432 := jmk_31 (by omega)
theorem jrw_lt {v : Nat → Int32} {R C x y : Nat} (hr : R ≤ 5) : jrw v R C y x < 32 := Nat.lt_of_lt_of_le (jmk_lt R) (jp2 _ hr).2
theorem md_covers1 (hr : F 149 0 ≤ 5) (hc : F 149 1 ≤ 5) {x W n : Nat} (hx : x < 2) (hn : n ≤ 6) (hW : W < 33554432) : ∀ m i, i + m = n → ∀ t, t ≤ 2 ^ F 149 1 - 1 → ∀ H A1 h1 w5 w6, H < 33554432 → (∀ a, a ≠ 173 → a ≠ 174 → A1 a = A a) → jR F A1 G g h1 → jD h h1 → A1 173 i = nI H → A1 174 i = nI t → (jcvt (jgb (A 150) (F 149 0) (F 149 1) x) (2 ^ F 149 1) m (jan W H) t = true → ∀ A2 h2, (∀ a, a ≠ 173 → a ≠ 174 → A2 a = A a) → jR F A2 G g h2 → jD h h2 → Q [.int (nI 1)] h2) → (jcvt (jgb (A 150) (F 149 0) (F 149 1) x) (2 ^ F 149 1) m (jan W H) t = false → ∀ A2 h2 w5 w6, (∀ a, a ≠ 173 → a ≠ 174 → A2 a = A a) → jR F A2 G g h2 → jD h h2 → (∀ j, j < i → A2 173 j = A1 173 j ∧ A2 174 j = A1 174 j) → jx_Go jxP (d + 2) 178 17 [.ref 149, .int (nI W), .int (nI x), .int (nI n), .int (nI i + -1), w5, w6] [] h2 Q) → jx_Go jxP (d + 2) 178 17 [.ref 149, .int (nI W), .int (nI x), .int (nI n), .int (nI i), w5, w6] [] h1 Q := by
  have p2 := jp2 _ hc
  intro m
  induction m with
  | zero =>
    intro i hi t ht H A1 h1 w5 w6 hH fr hR1 hD1 e1 e2 ks kf
    rw [s178_17]
    have hL : jan W H < 33554432 := jan_lt (n := 25) hW
    simp (disch := omega) only [s178_19, s178_22, s178_23, s178_24, s178_27, s178_29, s178_30, s178_31, s178_32, s178_33, s178_35, Option.some.injEq, exists_eq_left', exists_eq_left, List.cons_append, List.nil_append, List.length_nil, List.length_cons, Nat.reduceAdd, Nat.reduceMul, Nat.reduceSub, Nat.reduceLeDiff, true_and, and_true, ↓reduceIte, not_false_eq_true, not_true_eq_false, nI_add, pk_mul, jn_ltT, jn_ltF, jn_leT, jn_leF, jn_eqT, jn_eqF, jn_lt0, jn_ge0, jn_eq0T, jn_eq0F, jn_in, jn_cl, jf_149_29 hR1, ja_173 hR1, e1, jn_anot]
    by_cases z : jan W H = 0
    · simp (disch := omega) only [s178_37, s178_40, s178_41b0, s178_41b1, Option.some.injEq, exists_eq_left', exists_eq_left, List.cons_append, List.nil_append, List.length_nil, List.length_cons, Nat.reduceAdd, Nat.reduceMul, Nat.reduceSub, Nat.reduceLeDiff, true_and, and_true, ↓reduceIte, not_false_eq_true, not_true_eq_false, nI_add, pk_mul, jn_ltT, jn_ltF, jn_leT, jn_leF, jn_eqT, jn_eqF, jn_lt0, jn_ge0, jn_eq0T, jn_eq0F, jn_in, jn_cl, z]
      rw [z] at ks
      exact ks jcvt_z A1 h1 fr hR1 hD1
    · have hR2 := hR1.wi (a := 174) (f := upd (A1 174) i (nI (t + 1))) rfl
      have hD2 := hD1.wi (a := 174) (n := 7) (f := upd (A1 174) i (nI (t + 1))) (by decide)
      have kf' := kf (by show (jan W H == 0) = false; exact beq_eq_false_iff_ne.mpr z)
      simp (disch := omega) only [s178_37, s178_40, s178_41b0, s178_41b1, s178_42, s178_43, s178_46, s178_48, s178_49, s178_50, s178_51, s178_52, s178_53, s178_55, s178_56, s178_59, s178_60, s178_63, s178_65, s178_66, s178_67, s178_68, s178_71, s178_72, s178_75, s178_78, Option.some.injEq, exists_eq_left', exists_eq_left, List.cons_append, List.nil_append, List.length_nil, List.length_cons, Nat.reduceAdd, Nat.reduceMul, Nat.reduceSub, Nat.reduceLeDiff, true_and, and_true, ↓reduceIte, not_false_eq_true, not_true_eq_false, nI_add, pk_mul, jn_ltT, jn_ltF, jn_leT, jn_leF, jn_eqT, jn_eqF, jn_lt0, jn_ge0, jn_eq0T, jn_eq0F, jn_in, jn_cl, jf_149_30 hR1, ja_174 hR1, e2]
      exact kf' _ _ _ _ (fun a n1 n2 => by rw [jua_ne n2, fr a n1 n2]) hR2 hD2 (fun j hj => by rw [jua_ne (by decide), jua_same, jupd_ne (by omega)]; exact ⟨rfl, rfl⟩)
  | succ m ih =>
    intro i hi
    refine jloop _ (2 ^ F 149 1 - 1) ?_ ?_
    · intro H A1 h1 w5 w6 hH fr hR1 hD1 e1 e2 ks kf
      rw [s178_17]
      have hL : jan W H < 33554432 := jan_lt (n := 25) hW
      simp (disch := omega) only [s178_19, s178_22, s178_23, s178_24, s178_27, s178_29, s178_30, s178_31, s178_32, s178_33, s178_35, Option.some.injEq, exists_eq_left', exists_eq_left, List.cons_append, List.nil_append, List.length_nil, List.length_cons, Nat.reduceAdd, Nat.reduceMul, Nat.reduceSub, Nat.reduceLeDiff, true_and, and_true, ↓reduceIte, not_false_eq_true, not_true_eq_false, nI_add, pk_mul, jn_ltT, jn_ltF, jn_leT, jn_leF, jn_eqT, jn_eqF, jn_lt0, jn_ge0, jn_eq0T, jn_eq0F, jn_in, jn_cl, jf_149_29 hR1, ja_173 hR1, e1, jn_anot]
      by_cases z : jan W H = 0
      · simp (disch := omega) only [s178_37, s178_40, s178_41b0, s178_41b1, Option.some.injEq, exists_eq_left', exists_eq_left, List.cons_append, List.nil_append, List.length_nil, List.length_cons, Nat.reduceAdd, Nat.reduceMul, Nat.reduceSub, Nat.reduceLeDiff, true_and, and_true, ↓reduceIte, not_false_eq_true, not_true_eq_false, nI_add, pk_mul, jn_ltT, jn_ltF, jn_leT, jn_leF, jn_eqT, jn_eqF, jn_lt0, jn_ge0, jn_eq0T, jn_eq0F, jn_in, jn_cl, z]
        rw [z] at ks
        exact ks jcvt_z A1 h1 fr hR1 hD1
      · have hR2 := hR1.wi (a := 174) (f := upd (A1 174) i (nI (2 ^ F 149 1 - 1 + 1))) rfl
        have hD2 := hD1.wi (a := 174) (n := 7) (f := upd (A1 174) i (nI (2 ^ F 149 1 - 1 + 1))) (by decide)
        have kf' := kf (by
          apply Bool.eq_false_iff.mpr
          intro w
          rcases jcvt_iff.mp w with w | ⟨y, y1, y2, _⟩
          · exact z w
          · omega)
        simp (disch := omega) only [s178_37, s178_40, s178_41b0, s178_41b1, s178_42, s178_43, s178_46, s178_48, s178_49, s178_50, s178_51, s178_52, s178_53, Option.some.injEq, exists_eq_left', exists_eq_left, List.cons_append, List.nil_append, List.length_nil, List.length_cons, Nat.reduceAdd, Nat.reduceMul, Nat.reduceSub, Nat.reduceLeDiff, true_and, and_true, ↓reduceIte, not_false_eq_true, not_true_eq_false, nI_add, pk_mul, jn_ltT, jn_ltF, jn_leT, jn_leF, jn_eqT, jn_eqF, jn_lt0, jn_ge0, jn_eq0T, jn_eq0F, jn_in, jn_cl, jf_149_30 hR1, ja_174 hR1, e2]
        generalize jx_wi h1 174 7 (upd (A1 174) i (nI (2 ^ F 149 1 - 1 + 1))) = h2 at hR2 hD2 ⊢
        have g174 : jua A1 174 (upd (A1 174) i (nI (2 ^ F 149 1 - 1 + 1))) 174 i = nI (2 ^ F 149 1 - 1 + 1) := by rw [jua_same, jupd_same]
        simp (disch := omega) only [s178_55, s178_56, s178_59, s178_60, s178_63, s178_65, s178_66, s178_67, s178_68, s178_71, s178_72, s178_75, s178_78, Option.some.injEq, exists_eq_left', exists_eq_left, List.cons_append, List.nil_append, List.length_nil, List.length_cons, Nat.reduceAdd, Nat.reduceMul, Nat.reduceSub, Nat.reduceLeDiff, true_and, and_true, ↓reduceIte, not_false_eq_true, not_true_eq_false, nI_add, pk_mul, jn_ltT, jn_ltF, jn_leT, jn_leF, jn_eqT, jn_eqF, jn_lt0, jn_ge0, jn_eq0T, jn_eq0F, jn_in, jn_cl, jf_149_1 hR2, jf_149_30 hR2, ja_174 hR2, g174, jsh1]
        exact kf' _ _ _ _ (fun a n1 n2 => by rw [jua_ne n2, fr a n1 n2]) hR2 hD2 (fun j hj => by rw [jua_ne (by decide), jua_same, jupd_ne (by omega)]; exact ⟨rfl, rfl⟩)
    · intro t ht iht H A1 h1 w5 w6 hH fr hR1 hD1 e1 e2 ks kf
      rw [s178_17]
      have hL : jan W H < 33554432 := jan_lt (n := 25) hW
      simp (disch := omega) only [s178_19, s178_22, s178_23, s178_24, s178_27, s178_29, s178_30, s178_31, s178_32, s178_33, s178_35, Option.some.injEq, exists_eq_left', exists_eq_left, List.cons_append, List.nil_append, List.length_nil, List.length_cons, Nat.reduceAdd, Nat.reduceMul, Nat.reduceSub, Nat.reduceLeDiff, true_and, and_true, ↓reduceIte, not_false_eq_true, not_true_eq_false, nI_add, pk_mul, jn_ltT, jn_ltF, jn_leT, jn_leF, jn_eqT, jn_eqF, jn_lt0, jn_ge0, jn_eq0T, jn_eq0F, jn_in, jn_cl, jf_149_29 hR1, ja_173 hR1, e1, jn_anot]
      by_cases z : jan W H = 0
      · simp (disch := omega) only [s178_37, s178_40, s178_41b0, s178_41b1, Option.some.injEq, exists_eq_left', exists_eq_left, List.cons_append, List.nil_append, List.length_nil, List.length_cons, Nat.reduceAdd, Nat.reduceMul, Nat.reduceSub, Nat.reduceLeDiff, true_and, and_true, ↓reduceIte, not_false_eq_true, not_true_eq_false, nI_add, pk_mul, jn_ltT, jn_ltF, jn_leT, jn_leF, jn_eqT, jn_eqF, jn_lt0, jn_ge0, jn_eq0T, jn_eq0F, jn_in, jn_cl, z]
        rw [z] at ks
        exact ks jcvt_z A1 h1 fr hR1 hD1
      · have hR2 := hR1.wi (a := 174) (f := upd (A1 174) i (nI (t + 1))) rfl
        have hD2 := hD1.wi (a := 174) (n := 7) (f := upd (A1 174) i (nI (t + 1))) (by decide)
        simp (disch := omega) only [s178_37, s178_40, s178_41b0, s178_41b1, s178_42, s178_43, s178_46, s178_48, s178_49, s178_50, s178_51, s178_52, s178_53, Option.some.injEq, exists_eq_left', exists_eq_left, List.cons_append, List.nil_append, List.length_nil, List.length_cons, Nat.reduceAdd, Nat.reduceMul, Nat.reduceSub, Nat.reduceLeDiff, true_and, and_true, ↓reduceIte, not_false_eq_true, not_true_eq_false, nI_add, pk_mul, jn_ltT, jn_ltF, jn_leT, jn_leF, jn_eqT, jn_eqF, jn_lt0, jn_ge0, jn_eq0T, jn_eq0F, jn_in, jn_cl, jf_149_30 hR1, ja_174 hR1, e2]
        generalize jx_wi h1 174 7 (upd (A1 174) i (nI (t + 1))) = h2 at hR2 hD2 ⊢
        have fr2 : ∀ a, a ≠ 173 → a ≠ 174 → jua A1 174 (upd (A1 174) i (nI (t + 1))) a = A a := fun a n1 n2 => by rw [jua_ne n2, fr a n1 n2]
        have g174 : jua A1 174 (upd (A1 174) i (nI (t + 1))) 174 i = nI (t + 1) := by rw [jua_same, jupd_same]
        have g173 : jua A1 174 (upd (A1 174) i (nI (t + 1))) 173 = A1 173 := jua_ne (by decide)
        have b174 : ∀ j, j < i → jua A1 174 (upd (A1 174) i (nI (t + 1))) 174 j = A1 174 j := fun j hj => by rw [jua_same, jupd_ne (by omega)]
        generalize jua A1 174 (upd (A1 174) i (nI (t + 1))) = A2 at hR2 fr2 g174 g173 b174 ⊢
        have g150 : A2 150 = A 150 := fr2 150 (by decide) (by decide)
        simp (disch := omega) only [s178_55, s178_56, s178_59, s178_60, s178_63, s178_65, s178_66, s178_67, s178_68, s178_71, s178_72, s178_75, s178_78, s178_81, s178_82, s178_83, s178_84, s178_87, s178_89, s178_90, s178_91, Option.some.injEq, exists_eq_left', exists_eq_left, List.cons_append, List.nil_append, List.length_nil, List.length_cons, Nat.reduceAdd, Nat.reduceMul, Nat.reduceSub, Nat.reduceLeDiff, true_and, and_true, ↓reduceIte, not_false_eq_true, not_true_eq_false, nI_add, pk_mul, jn_ltT, jn_ltF, jn_leT, jn_leF, jn_eqT, jn_eqF, jn_lt0, jn_ge0, jn_eq0T, jn_eq0F, jn_in, jn_cl, jf_149_1 hR2, jf_149_30 hR2, ja_174 hR2, jc_of_149 hR2, g174, jsh1]
        refine md_rowsFor hR2 hr hc hx (by omega) ?_
        rw [g150]
        simp (disch := omega) only [s178_94, s178_95, s178_98, s178_100, s178_101, Option.some.injEq, exists_eq_left', exists_eq_left, List.cons_append, List.nil_append, List.length_nil, List.length_cons, Nat.reduceAdd, Nat.reduceMul, Nat.reduceSub, Nat.reduceLeDiff, true_and, and_true, ↓reduceIte, not_false_eq_true, not_true_eq_false, nI_add, pk_mul, jn_ltT, jn_ltF, jn_leT, jn_leF, jn_eqT, jn_eqF, jn_lt0, jn_ge0, jn_eq0T, jn_eq0F, jn_in, jn_cl, jf_149_30 hR2, ja_174 hR2, jc_of_149 hR2, g174]
        refine md_placesOf hR2 hr hc (jrw_lt hr) (by omega) ?_
        have hP := jgb_lt (v := A 150) (C := F 149 1) (x := x) (y := t + 1) hr
        have gd : jpl (F 149 0) (F 149 1) (jrw (A 150) (F 149 0) (F 149 1) (t + 1) x) (t + 1) = jgb (A 150) (F 149 0) (F 149 1) x (t + 1) := rfl
        rw [gd]
        obtain ⟨l1, l2, l3, l4⟩ := jlo_ok (L := jan W H) (by omega) hL
        simp (disch := omega) only [s178_104, s178_106, s178_108, s178_110, s178_112, s178_113, s178_114, Option.some.injEq, exists_eq_left', exists_eq_left, List.cons_append, List.nil_append, List.length_nil, List.length_cons, Nat.reduceAdd, Nat.reduceMul, Nat.reduceSub, Nat.reduceLeDiff, true_and, and_true, ↓reduceIte, not_false_eq_true, not_true_eq_false, nI_add, pk_mul, jn_ltT, jn_ltF, jn_leT, jn_leF, jn_eqT, jn_eqF, jn_lt0, jn_ge0, jn_eq0T, jn_eq0F, jn_in, jn_cl, l4]
        by_cases b : (jgb (A 150) (F 149 0) (F 149 1) x (t + 1)).testBit (jlo (jan W H)) = true
        · have nb : (nI (jgb (A 150) (F 149 0) (F 149 1) x (t + 1)) &&& nI (2 ^ jlo (jan W H)) = 0) = False := by rw [jand_p l1, b]; exact eq_false (by decide)
          have e1' : A2 173 i = nI H := by rw [g173]; exact e1
          simp (disch := omega) only [s178_115, s178_118, s178_119, s178_122, s178_124, s178_125, s178_126, s178_127, s178_130, s178_132, s178_133, s178_135, s178_136, s178_137, s178_138, s178_141, s178_143, s178_144, s178_145, s178_146, s178_147, s178_150, Option.some.injEq, exists_eq_left', exists_eq_left, List.cons_append, List.nil_append, List.length_nil, List.length_cons, Nat.reduceAdd, Nat.reduceMul, Nat.reduceSub, Nat.reduceLeDiff, true_and, and_true, ↓reduceIte, not_false_eq_true, not_true_eq_false, nI_add, pk_mul, jn_ltT, jn_ltF, jn_leT, jn_leF, jn_eqT, jn_eqF, jn_lt0, jn_ge0, jn_eq0T, jn_eq0F, jn_in, jn_cl, jh_ai_wi, jh_ai_wi_ne, jh_ai_uf, jh_fl_wi_ne, jh_fl_uf_ne, jh_fl_uf_o, jh_cl_wi_ne, jh_cl_uf, jh_al_wi_ne, jh_al_uf, jh_al_wl, jh_al_wl_ne, jh_ai_wl_ne, jh_fl_wl_ne, jh_cl_wl_ne, jh_ar_wi_ne, jh_ar_uf, jh_ar_wl_ne, jh_1_wi, jh_1_uf, jh_1_wl, jf_149_29 hR2, jf_149_30 hR2, ja_173 hR2, ja_174 hR2, nb, e1', jn_or]
          have hR3 := (hR2.wi (a := 173) (f := upd (A2 173) (i + 1) (nI (H ||| jgb (A 150) (F 149 0) (F 149 1) x (t + 1)))) rfl).wi (a := 174) (f := upd (A2 174) (i + 1) (nI 0)) rfl
          have hD3 := (hD2.wi (a := 173) (n := 7) (f := upd (A2 173) (i + 1) (nI (H ||| jgb (A 150) (F 149 0) (F 149 1) x (t + 1)))) (by decide)).wi (a := 174) (n := 7) (f := upd (A2 174) (i + 1) (nI 0)) (by decide)
          refine ih (i + 1) (by omega) 0 (Nat.zero_le _) (H ||| jgb (A 150) (F 149 0) (F 149 1) x (t + 1)) _ _ _ _ (Nat.or_lt_two_pow (n := 25) hH hP) (fun a n1 n2 => by rw [jua_ne n2, jua_ne n1, fr2 a n1 n2]) hR3 hD3 (by rw [jua_ne (by decide), jua_same, jupd_same]) (by rw [jua_same, jupd_same]) ?_ ?_
          · intro c
            rw [jan_or] at c
            exact ks (jcvt_iff.mpr (Or.inr ⟨t + 1, by omega, by omega, b, c⟩))
          · intro c A4 h4 w5 w6 fr4 hR4 hD4 k4
            rw [jan_or] at c
            rw [jn_m1 (by omega), show i + 1 - 1 = i from rfl]
            have q := k4 i (by omega)
            rw [jua_ne (by decide), jua_same, jua_same, jupd_ne (by omega), jupd_ne (by omega), e1', g174] at q
            refine iht H A4 h4 w5 w6 hH fr4 hR4 hD4 q.1 q.2 ?_ ?_
            · intro c2
              refine ks ?_
              rcases jcvt_iff.mp c2 with u | ⟨y, y1, y2, y3⟩
              · exact absurd u z
              · exact jcvt_iff.mpr (Or.inr ⟨y, y1, by omega, y3⟩)
            · intro c2 A5 h5 w5 w6 fr5 hR5 hD5 k5
              refine kf ?_ A5 h5 w5 w6 fr5 hR5 hD5 (fun j hj => ?_)
              · apply Bool.eq_false_iff.mpr
                intro u
                rcases jcvt_iff.mp u with u | ⟨y, y1, y2, y3, y4⟩
                · exact z u
                · rcases Nat.lt_or_ge (t + 1) y with r | r
                  · rw [jcvt_iff.mpr (Or.inr ⟨y, y1, r, y3, y4⟩)] at c2; cases c2
                  · rw [show y = t + 1 by omega] at y4; rw [y4] at c; cases c
              · have q5 := k5 j hj
                have q4 := k4 j (by omega)
                rw [jua_ne (by decide), jua_same, jua_same, jupd_ne (by omega), jupd_ne (by omega), g173, b174 j hj] at q4
                exact ⟨q5.1.trans q4.1, q5.2.trans q4.2⟩
        · have nb : (nI (jgb (A 150) (F 149 0) (F 149 1) x (t + 1)) &&& nI (2 ^ jlo (jan W H)) = 0) = True := by rw [jand_p l1, Bool.eq_false_iff.mpr b]; exact eq_true rfl
          simp (disch := omega) only [s178_115, s178_150, Option.some.injEq, exists_eq_left', exists_eq_left, List.cons_append, List.nil_append, List.length_nil, List.length_cons, Nat.reduceAdd, Nat.reduceMul, Nat.reduceSub, Nat.reduceLeDiff, true_and, and_true, ↓reduceIte, not_false_eq_true, not_true_eq_false, nI_add, pk_mul, jn_ltT, jn_ltF, jn_leT, jn_leF, jn_eqT, jn_eqF, jn_lt0, jn_ge0, jn_eq0T, jn_eq0F, jn_in, jn_cl, nb]
          refine iht H A2 h2 _ _ hH fr2 hR2 hD2 (by rw [g173]; exact e1) g174 ?_ ?_
          · intro c2
            refine ks ?_
            rcases jcvt_iff.mp c2 with u | ⟨y, y1, y2, y3⟩
            · exact absurd u z
            · exact jcvt_iff.mpr (Or.inr ⟨y, y1, by omega, y3⟩)
          · intro c2 A5 h5 w5 w6 fr5 hR5 hD5 k5
            refine kf ?_ A5 h5 w5 w6 fr5 hR5 hD5 (fun j hj => ?_)
            · apply Bool.eq_false_iff.mpr
              intro u
              rcases jcvt_iff.mp u with u | ⟨y, y1, y2, y3, y4⟩
              · exact z u
              · rcases Nat.lt_or_ge (t + 1) y with r | r
                · rw [jcvt_iff.mpr (Or.inr ⟨y, y1, r, y3, y4⟩)] at c2; cases c2
                · rw [show y = t + 1 by omega] at y3; exact b y3
            · have q5 := k5 j hj
              rw [g173, b174 j hj] at q5
              exact q5
theorem md_covers (hR : jR F A G g h) (hr : F 149 0 ≤ 5) (hc : F 149 1 ≤ 5) {x W n : Nat} (hx : x < 2) (hn : n ≤ 6) (hW : W < 33554432) (k : ∀ A2 h2, (∀ a, a ≠ 173 → a ≠ 174 → A2 a = A a) → jR F A2 G g h2 → jD h h2 → Q [.int (nI (jcvt (jgb (A 150) (F 149 0) (F 149 1) x) (2 ^ F 149 1) n W 0).toNat)] h2) : jx_Go jxP (d + 2) 178 0 [.ref 149, .int (nI W), .int (nI x), .int (nI n), jx_u, jx_u, jx_u] [] h Q := by
  have p2 := jp2 _ hc
  have hR3 := (hR.wi (a := 173) (f := upd (A 173) 0 (nI 0)) rfl).wi (a := 174) (f := upd (A 174) 0 (nI 0)) rfl
  have hD3 := ((jD.rf (h := h)).wi (a := 173) (n := 7) (f := upd (A 173) 0 (nI 0)) (by decide)).wi (a := 174) (n := 7) (f := upd (A 174) 0 (nI 0)) (by decide)
  simp (disch := omega) only [s178_0, s178_1, s178_3, s178_4, s178_7, s178_8, s178_9, s178_10, s178_11, s178_14, s178_15, s178_16, Option.some.injEq, exists_eq_left', exists_eq_left, List.cons_append, List.nil_append, List.length_nil, List.length_cons, Nat.reduceAdd, Nat.reduceMul, Nat.reduceSub, Nat.reduceLeDiff, true_and, and_true, ↓reduceIte, not_false_eq_true, not_true_eq_false, nI_add, pk_mul, jn_ltT, jn_ltF, jn_leT, jn_leF, jn_eqT, jn_eqF, jn_lt0, jn_ge0, jn_eq0T, jn_eq0F, jn_in, jn_cl, jh_ai_wi, jh_ai_wi_ne, jh_ai_uf, jh_fl_wi_ne, jh_fl_uf_ne, jh_fl_uf_o, jh_cl_wi_ne, jh_cl_uf, jh_al_wi_ne, jh_al_uf, jh_al_wl, jh_al_wl_ne, jh_ai_wl_ne, jh_fl_wl_ne, jh_cl_wl_ne, jh_ar_wi_ne, jh_ar_uf, jh_ar_wl_ne, jh_1_wi, jh_1_uf, jh_1_wl, jf_149_29 hR, jf_149_30 hR, ja_173 hR, ja_174 hR]
  refine md_covers1 (A := A) (n := n) hr hc hx hn hW n 0 (by omega) 0 (Nat.zero_le _) 0 _ _ _ _ (by decide) (fun a n1 n2 => by rw [jua_ne n2, jua_ne n1]) hR3 hD3 (by rw [jua_ne (by decide), jua_same, jupd_same]) (by rw [jua_same, jupd_same]) ?_ ?_
  · intro c A2 h2 fr2 hR2 hD2
    rw [jan_0] at c
    have := k A2 h2 fr2 hR2 hD2
    rw [c] at this
    exact this
  · intro c A2 h2 w5 w6 fr2 hR2 hD2 _
    rw [jan_0] at c
    have := k A2 h2 fr2 hR2 hD2
    rw [c] at this
    rw [s178_17]
    have m1 : (nI 0 + -1 < 0) = True := by decide
    simp (disch := omega) only [s178_19, s178_153, s178_154b0, s178_154b1, Option.some.injEq, exists_eq_left', exists_eq_left, List.cons_append, List.nil_append, List.length_nil, List.length_cons, Nat.reduceAdd, Nat.reduceMul, Nat.reduceSub, Nat.reduceLeDiff, true_and, and_true, ↓reduceIte, not_false_eq_true, not_true_eq_false, nI_add, pk_mul, jn_ltT, jn_ltF, jn_leT, jn_leF, jn_eqT, jn_eqF, jn_lt0, jn_ge0, jn_eq0T, jn_eq0F, jn_in, jn_cl, m1]
    exact this
end MD25
