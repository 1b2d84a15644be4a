/-! ===== the reference: the parting of a block ===== -/
section MD12
variable {d : Nat} {F : Nat → Nat → Nat} {A : Nat → Nat → Int32} {G : Nat → Option Nat} {g : Nat → Int64} {h : jxH} {Q : List Value → jxH → Prop}
theorem jbst_cutx {f : Nat → Nat → Nat} {T : Nat → Nat} {x y hi s : Nat} (hp : jpt x s = true) : ∀ n, s < n → jbst f T x y n hi ≤ f (T (32 * (x ^^^ s) + y)) (T (32 * s + y)) := by
  intro n
  induction n with
  | zero => intro w; omega
  | succ n ih =>
    intro w
    rw [jbst_s]
    have h1 : (if jpt x n = true then min (f (T (32 * (x ^^^ n) + y)) (T (32 * n + y))) (jbst f T x y n hi) else jbst f T x y n hi) ≤ f (T (32 * (x ^^^ s) + y)) (T (32 * s + y)) := by
      rcases Nat.lt_succ_iff_lt_or_eq.mp w with w | w
      · have := ih w
        split
        · exact Nat.le_trans (Nat.min_le_right _ _) this
        · exact this
      · subst w
        rw [if_pos hp]
        exact Nat.min_le_left _ _
    split
    · exact Nat.le_trans (Nat.min_le_right _ _) h1
    · exact h1
theorem jbst_cuty {f : Nat → Nat → Nat} {T : Nat → Nat} {x y hi s : Nat} (hp : jpt y s = true) : ∀ n, s < n → jbst f T x y n hi ≤ f (T (32 * x + (y ^^^ s))) (T (32 * x + s)) := by
  intro n
  induction n with
  | zero => intro w; omega
  | succ n ih =>
    intro w
    rw [jbst_s]
    rcases Nat.lt_succ_iff_lt_or_eq.mp w with w | w
    · have := ih w
      have h1 : (if jpt x n = true then min (f (T (32 * (x ^^^ n) + y)) (T (32 * n + y))) (jbst f T x y n hi) else jbst f T x y n hi) ≤ f (T (32 * x + (y ^^^ s))) (T (32 * x + s)) := by
        split
        · exact Nat.le_trans (Nat.min_le_right _ _) this
        · exact this
      split
      · exact Nat.le_trans (Nat.min_le_right _ _) h1
      · exact h1
    · subst w
      rw [if_pos hp]
      exact Nat.min_le_left _ _
theorem jbst_att {f : Nat → Nat → Nat} {T : Nat → Nat} {x y hi : Nat} : ∀ n, jbst f T x y n hi = hi ∨ ∃ s, s < n ∧ ((jpt x s = true ∧ jbst f T x y n hi = f (T (32 * (x ^^^ s) + y)) (T (32 * s + y))) ∨ (jpt y s = true ∧ jbst f T x y n hi = f (T (32 * x + (y ^^^ s))) (T (32 * x + s)))) := by
  intro n
  induction n with
  | zero => exact Or.inl rfl
  | succ n ih =>
    rw [jbst_s]
    have h1 : (if jpt x n = true then min (f (T (32 * (x ^^^ n) + y)) (T (32 * n + y))) (jbst f T x y n hi) else jbst f T x y n hi) = hi ∨ ∃ s, s < n + 1 ∧ ((jpt x s = true ∧ (if jpt x n = true then min (f (T (32 * (x ^^^ n) + y)) (T (32 * n + y))) (jbst f T x y n hi) else jbst f T x y n hi) = f (T (32 * (x ^^^ s) + y)) (T (32 * s + y))) ∨ (jpt y s = true ∧ (if jpt x n = true then min (f (T (32 * (x ^^^ n) + y)) (T (32 * n + y))) (jbst f T x y n hi) else jbst f T x y n hi) = f (T (32 * x + (y ^^^ s))) (T (32 * x + s)))) := by
      have old : jbst f T x y n hi = hi ∨ ∃ s, s < n + 1 ∧ ((jpt x s = true ∧ jbst f T x y n hi = f (T (32 * (x ^^^ s) + y)) (T (32 * s + y))) ∨ (jpt y s = true ∧ jbst f T x y n hi = f (T (32 * x + (y ^^^ s))) (T (32 * x + s)))) := by
        rcases ih with e | ⟨s, hs, e⟩
        · exact Or.inl e
        · exact Or.inr ⟨s, by omega, e⟩
      by_cases w : jpt x n = true
      · rw [if_pos w]
        rcases Nat.le_total (f (T (32 * (x ^^^ n) + y)) (T (32 * n + y))) (jbst f T x y n hi) with z | z
        · rw [Nat.min_eq_left z]
          exact Or.inr ⟨n, by omega, Or.inl ⟨w, rfl⟩⟩
        · rw [Nat.min_eq_right z]
          exact old
      · rw [if_neg w]
        exact old
    by_cases w : jpt y n = true
    · rw [if_pos w]
      generalize (if jpt x n = true then min (f (T (32 * (x ^^^ n) + y)) (T (32 * n + y))) (jbst f T x y n hi) else jbst f T x y n hi) = u at h1 ⊢
      rcases Nat.le_total (f (T (32 * x + (y ^^^ n))) (T (32 * x + n))) u with z | z
      · rw [Nat.min_eq_left z]
        exact Or.inr ⟨n, by omega, Or.inr ⟨w, rfl⟩⟩
      · rw [Nat.min_eq_right z]
        exact h1
    · rw [if_neg w]
      exact h1
def jL (x : Nat) : Nat := if jpop x ≤ 1 then 0 else if jpop x ≤ 2 then 1 else if jpop x ≤ 4 then 2 else 3
def jhalf (x : Nat) : Nat := jsum 32 fun s => if jpt x s = true ∧ jL s < jL x ∧ jL (x ^^^ s) < jL x ∧ (jall s fun t => !(jpt x t && decide (jL t < jL x ∧ jL (x ^^^ t) < jL x))) = true then s else 0
theorem jhalf_ok : ∀ x, x < 32 → 0 < jL x → jhalf x < 32 ∧ jpt x (jhalf x) = true ∧ jL (jhalf x) < jL x ∧ jL (x ^^^ jhalf x) < jL x := by decide +kernel
theorem jL_le : ∀ x, x < 32 → jL x ≤ 3 := by decide +kernel
theorem jL0' : ∀ x, x < 32 → ∀ i, i < 5 → ∀ j, j < 5 → (decide (jL x = 0) && (x.testBit i && (x.testBit j && decide (i ≠ j)))) = false := by decide +kernel
theorem jL0 : ∀ x, x < 32 → ∀ i, i < 5 → ∀ j, j < 5 → jL x = 0 → x.testBit i = true → x.testBit j = true → i = j := by
  intro x hx i hi j hj e0 e1 e2
  have := jL0' x hx i hi j hj
  rw [e1, e2, decide_eq_true e0, Bool.true_and, Bool.true_and, Bool.true_and] at this
  exact Decidable.byContradiction (fun w => by rw [decide_eq_true w] at this; cases this)
theorem jhz_iff {v : Nat → Int32} {R C B : Nat} {x : Int32} : jhz v R C B x = true ↔ ∃ r c, r < R ∧ c < C ∧ (B / 32).testBit r = true ∧ (B % 32).testBit c = true ∧ v (5 * r + c) = x := by
  unfold jhz
  rw [jany_iff]
  constructor
  · rintro ⟨r, hr, e⟩
    obtain ⟨c, hc, e⟩ := jany_iff.mp e
    rw [Bool.and_eq_true, Bool.and_eq_true, beq_iff_eq] at e
    exact ⟨r, c, hr, hc, e.1, e.2.1, e.2.2⟩
  · rintro ⟨r, c, hr, hc, e1, e2, e3⟩
    exact ⟨r, hr, jany_iff.mpr ⟨c, hc, by rw [Bool.and_eq_true, Bool.and_eq_true, beq_iff_eq]; exact ⟨e1, e2, e3⟩⟩⟩
theorem jev_iff {v : Nat → Int32} {R C B : Nat} : jev v R C B = true ↔ ¬ (jhz v R C B (nI 0) = true ∧ jhz v R C B (nI 1) = true) := by
  unfold jev jhas
  rw [decide_eq_true_iff]
  cases jhz v R C B (nI 0) <;> cases jhz v R C B (nI 1) <;> decide
theorem jlb_L {v : Nat → Int32} {R C : Nat} (hR : R ≤ 5) (hC : C ≤ 5) : ∀ B, B < 1024 → jlb v R C B ≤ jL (B / 32) + jL (B % 32) := by
  intro B
  induction B using Nat.strongRecOn with
  | _ B ih =>
    intro hB
    have eq : jlb v R C B = if jev v R C B = true then 0 else jbst (fun a b => max a b + 1) (jlb v R C) (B / 32) (B % 32) 32 100 := jbt_eq hB
    rw [eq]
    by_cases he : jev v R C B = true
    · rw [if_pos he]; omega
    · rw [if_neg he]
      by_cases w : 0 < jL (B / 32)
      · obtain ⟨a1, a2, a3, a4⟩ := jhalf_ok (B / 32) (by omega) w
        have q := jpt_lt (B / 32) (by omega) _ a1 a2
        have c := jbst_cutx (f := fun a b => max a b + 1) (T := jlb v R C) (y := B % 32) (hi := 100) a2 32 a1
        have i1 := ih (32 * (B / 32 ^^^ jhalf (B / 32)) + B % 32) (by omega) (by omega)
        have i2 := ih (32 * (jhalf (B / 32)) + B % 32) (by omega) (by omega)
        rw [show (32 * (B / 32 ^^^ jhalf (B / 32)) + B % 32) / 32 = B / 32 ^^^ jhalf (B / 32) by omega, show (32 * (B / 32 ^^^ jhalf (B / 32)) + B % 32) % 32 = B % 32 by omega] at i1
        rw [show (32 * (jhalf (B / 32)) + B % 32) / 32 = jhalf (B / 32) by omega, show (32 * (jhalf (B / 32)) + B % 32) % 32 = B % 32 by omega] at i2
        omega
      · by_cases w2 : 0 < jL (B % 32)
        · obtain ⟨a1, a2, a3, a4⟩ := jhalf_ok (B % 32) (by omega) w2
          have q := jpt_lt (B % 32) (by omega) _ a1 a2
          have c := jbst_cuty (f := fun a b => max a b + 1) (T := jlb v R C) (x := B / 32) (hi := 100) a2 32 a1
          have i1 := ih (32 * (B / 32) + (B % 32 ^^^ jhalf (B % 32))) (by omega) (by omega)
          have i2 := ih (32 * (B / 32) + jhalf (B % 32)) (by omega) (by omega)
          rw [show (32 * (B / 32) + (B % 32 ^^^ jhalf (B % 32))) / 32 = B / 32 by omega, show (32 * (B / 32) + (B % 32 ^^^ jhalf (B % 32))) % 32 = B % 32 ^^^ jhalf (B % 32) by omega] at i1
          rw [show (32 * (B / 32) + jhalf (B % 32)) / 32 = B / 32 by omega, show (32 * (B / 32) + jhalf (B % 32)) % 32 = jhalf (B % 32) by omega] at i2
          omega
        · exfalso
          apply he
          rw [jev_iff]
          rintro ⟨z0, z1⟩
          obtain ⟨r, c, hr, hc, e1, e2, e3⟩ := jhz_iff.mp z0
          obtain ⟨r', c', hr', hc', e1', e2', e3'⟩ := jhz_iff.mp z1
          have := jL0 (B / 32) (by omega) r (by omega) r' (by omega) (by omega) e1 e1'
          have := jL0 (B % 32) (by omega) c (by omega) c' (by omega) (by omega) e2 e2'
          subst_vars
          rw [e3] at e3'
          exact absurd e3' (by decide)
theorem jlb_6 {v : Nat → Int32} {R C B : Nat} (hR : R ≤ 5) (hC : C ≤ 5) (hB : B < 1024) : jlb v R C B ≤ 6 := by
  have := jlb_L (v := v) hR hC B hB
  have := jL_le (B / 32) (by omega)
  have := jL_le (B % 32) (by omega)
  omega
/-- the least i below n with p, or n -/
def jlst (p : Nat → Bool) (n : Nat) : Nat := match n with
  | 0 => 0
  | n + 1 => if jlst p n < n then jlst p n else if p n = true then n else n + 1
theorem jlst_s {p : Nat → Bool} {n : Nat} : jlst p (n + 1) = if jlst p n < n then jlst p n else if p n = true then n else n + 1 := rfl
theorem jlst_le {p : Nat → Bool} : ∀ n, jlst p n ≤ n ∧ (jlst p n < n → p (jlst p n) = true) ∧ ∀ i, i < jlst p n → p i = false := by
  intro n
  induction n with
  | zero => exact ⟨Nat.le_refl _, fun w => absurd w (Nat.lt_irrefl _), fun i hi => absurd hi (Nat.not_lt_zero _)⟩
  | succ n ih =>
    rw [jlst_s]
    by_cases w : jlst p n < n
    · rw [if_pos w]
      exact ⟨by omega, fun _ => ih.2.1 w, ih.2.2⟩
    · rw [if_neg w]
      have en : jlst p n = n := by omega
      rw [en] at ih
      by_cases z : p n = true
      · rw [if_pos z]
        exact ⟨by omega, fun _ => z, ih.2.2⟩
      · rw [if_neg z]
        refine ⟨Nat.le_refl _, fun w => by omega, fun i hi => ?_⟩
        rcases Nat.lt_succ_iff_lt_or_eq.mp hi with w | w
        · exact ih.2.2 i w
        · rw [w]; exact Bool.eq_false_iff.mpr z
theorem jlst_at {p : Nat → Bool} {n i : Nat} (hi : i < n) (hp : p i = true) (hn : ∀ j, j < i → p j = false) : jlst p n = i := by
  obtain ⟨a, b, c⟩ := jlst_le (p := p) n
  rcases Nat.lt_trichotomy (jlst p n) i with w | w | w
  · have := b (by omega); rw [hn _ w] at this; cases this
  · exact w
  · have := c i w; rw [hp] at this; cases this
theorem jlst_no {p : Nat → Bool} {n : Nat} (hn : ∀ j, j < n → p j = false) : jlst p n = n := by
  obtain ⟨a, b, c⟩ := jlst_le (p := p) n
  rcases Nat.lt_or_ge (jlst p n) n with w | w
  · have := b w; rw [hn _ w] at this; cases this
  · omega
/-- row and column partings that reach the least bits -/
def jrx (v : Nat → Int32) (R C B s : Nat) : Bool := jpt (B / 32) s && (max (jlb v R C (32 * (B / 32 ^^^ s) + B % 32)) (jlb v R C (32 * s + B % 32)) + 1 == jlb v R C B)
def jry (v : Nat → Int32) (R C B s : Nat) : Bool := jpt (B % 32) s && (max (jlb v R C (32 * (B / 32) + (B % 32 ^^^ s))) (jlb v R C (32 * (B / 32) + s)) + 1 == jlb v R C B)
/-- the parting that THE BEST TALK takes -/
def jcut (v : Nat → Int32) (R C B : Nat) : Nat := if jlst (jrx v R C B) 32 < 32 then 32 * jlst (jrx v R C B) 32 else jlst (jry v R C B) 32
theorem jcut_ex {v : Nat → Int32} {R C B : Nat} (hR : R ≤ 5) (hC : C ≤ 5) (hB : B < 1024) (he : ¬ jev v R C B = true) : (∃ s, s < 32 ∧ jrx v R C B s = true) ∨ ∃ s, s < 32 ∧ jry v R C B s = true := by
  have eq : jlb v R C B = if jev v R C B = true then 0 else jbst (fun a b => max a b + 1) (jlb v R C) (B / 32) (B % 32) 32 100 := jbt_eq hB
  rw [if_neg he] at eq
  have l := jlb_6 (v := v) hR hC hB
  rcases jbst_att (f := fun a b => max a b + 1) (T := jlb v R C) (x := B / 32) (y := B % 32) (hi := 100) 32 with e | ⟨s, hs, ⟨hp, e⟩ | ⟨hp, e⟩⟩
  · omega
  · left
    refine ⟨s, hs, ?_⟩
    unfold jrx
    rw [Bool.and_eq_true, beq_iff_eq]
    exact ⟨hp, by rw [eq, e]⟩
  · right
    refine ⟨s, hs, ?_⟩
    unfold jry
    rw [Bool.and_eq_true, beq_iff_eq]
    exact ⟨hp, by rw [eq, e]⟩
theorem md_reaches (hR : jR F A G g h) {B S B1 B2 b1 b2 b : Nat} (hB : B < 1024) (hB1 : B1 < B) (hB2 : B2 < B) (hS : (S < 32 ∧ 32 * (B / 32) ||| S = B2) ∨ (32 ≤ S ∧ S < 1024 ∧ S ||| B % 32 = B2)) (hX : B ^^^ S = B1) (k1 : A 160 B1 = nI b1) (k2 : A 160 B2 = nI b2) (k3 : A 160 B = nI b) (q1 : b1 ≤ 100) (q2 : b2 ≤ 100) (q3 : b ≤ 100) : jx_Go jxP d 164 0 [.ref 149, .int (nI B), .int (nI S), jx_u, jx_u, jx_u] [] h Q ↔ Q [.int (nI (max b1 b2 + 1 == b).toNat)] h := by
  have k25 : jx_Go jxP d 164 25 [.ref 149, .int (nI B), .int (nI S), .int (nI B1), jx_u, jx_u] [.int (nI B2)] h Q ↔ Q [.int (nI (max b1 b2 + 1 == b).toNat)] h := by
    have k59 : jx_Go jxP d 164 59 [.ref 149, .int (nI B), .int (nI S), .int (nI B1), .int (nI B2), jx_u] [.int (nI (max b1 b2))] h Q ↔ Q [.int (nI (max b1 b2 + 1 == b).toNat)] h := by
      by_cases w : max b1 b2 + 1 = b
      · rw [beq_iff_eq.mpr w]
        simp (disch := omega) only [s164_59, s164_61, s164_63, s164_64, s164_65, s164_66, s164_69, s164_70, s164_71, s164_74, s164_75, s164_78, s164_79b0, s164_79b1, Option.some.injEq, exists_eq_left', exists_eq_left, List.cons_append, List.nil_append, List.length_nil, List.length_cons, Nat.reduceAdd, Nat.reduceMul, Nat.reduceSub, Nat.reduceLeDiff, true_and, and_true, ↓reduceIte, not_false_eq_true, not_true_eq_false, nI_add, pk_mul, jn_ltT, jn_ltF, jn_leT, jn_leF, jn_eqT, jn_eqF, jn_lt0, jn_ge0, jn_eq0T, jn_eq0F, jn_in, jn_cl, jf_149_16 hR, ja_160 hR, k3]
        rfl
      · rw [beq_eq_false_iff_ne.mpr w]
        simp (disch := omega) only [s164_59, s164_61, s164_63, s164_64, s164_65, s164_66, s164_69, s164_70, s164_71, s164_74, s164_75, s164_78, s164_79b0, s164_79b1, Option.some.injEq, exists_eq_left', exists_eq_left, List.cons_append, List.nil_append, List.length_nil, List.length_cons, Nat.reduceAdd, Nat.reduceMul, Nat.reduceSub, Nat.reduceLeDiff, true_and, and_true, ↓reduceIte, not_false_eq_true, not_true_eq_false, nI_add, pk_mul, jn_ltT, jn_ltF, jn_leT, jn_leF, jn_eqT, jn_eqF, jn_lt0, jn_ge0, jn_eq0T, jn_eq0F, jn_in, jn_cl, jf_149_16 hR, ja_160 hR, k3]
        rfl
    rw [← k59]
    by_cases w : b1 ≤ b2
    · rw [show max b1 b2 = b2 by omega]
      simp (disch := omega) only [s164_25, s164_27, s164_28, s164_31, s164_32, s164_33, s164_34, s164_37, s164_39, s164_40, s164_43, s164_44, s164_47, s164_48, s164_49, s164_52, s164_53, s164_56, s164_58, Option.some.injEq, exists_eq_left', exists_eq_left, List.cons_append, List.nil_append, List.length_nil, List.length_cons, Nat.reduceAdd, Nat.reduceMul, Nat.reduceSub, Nat.reduceLeDiff, true_and, and_true, ↓reduceIte, not_false_eq_true, not_true_eq_false, nI_add, pk_mul, jn_ltT, jn_ltF, jn_leT, jn_leF, jn_eqT, jn_eqF, jn_lt0, jn_ge0, jn_eq0T, jn_eq0F, jn_in, jn_cl, jf_149_16 hR, ja_160 hR, k1, k2]
    · rw [show max b1 b2 = b1 by omega]
      simp (disch := omega) only [s164_25, s164_27, s164_28, s164_31, s164_32, s164_33, s164_34, s164_37, s164_39, s164_40, s164_43, s164_44, s164_47, s164_48, s164_49, s164_52, s164_53, s164_56, s164_58, Option.some.injEq, exists_eq_left', exists_eq_left, List.cons_append, List.nil_append, List.length_nil, List.length_cons, Nat.reduceAdd, Nat.reduceMul, Nat.reduceSub, Nat.reduceLeDiff, true_and, and_true, ↓reduceIte, not_false_eq_true, not_true_eq_false, nI_add, pk_mul, jn_ltT, jn_ltF, jn_leT, jn_leF, jn_eqT, jn_eqF, jn_lt0, jn_ge0, jn_eq0T, jn_eq0F, jn_in, jn_cl, jf_149_16 hR, ja_160 hR, k1, k2]
  rw [← k25]
  rcases hS with ⟨w, e'⟩ | ⟨w, w2, e'⟩
  · simp (disch := omega) only [s164_0, s164_1, s164_2, s164_3, s164_4, s164_5, s164_7, s164_10, s164_11, s164_13, s164_14, s164_15, s164_16, Option.some.injEq, exists_eq_left', exists_eq_left, List.cons_append, List.nil_append, List.length_nil, List.length_cons, Nat.reduceAdd, Nat.reduceMul, Nat.reduceSub, Nat.reduceLeDiff, true_and, and_true, ↓reduceIte, not_false_eq_true, not_true_eq_false, nI_add, pk_mul, jn_ltT, jn_ltF, jn_leT, jn_leF, jn_eqT, jn_eqF, jn_lt0, jn_ge0, jn_eq0T, jn_eq0F, jn_in, jn_cl, jn_xor, hX, jx4, jn_or, e']
  · simp (disch := omega) only [s164_0, s164_1, s164_2, s164_3, s164_4, s164_5, s164_7, s164_10, s164_11, s164_13, s164_14, s164_15, s164_16, s164_19, s164_20, s164_21, s164_23, s164_24, Option.some.injEq, exists_eq_left', exists_eq_left, List.cons_append, List.nil_append, List.length_nil, List.length_cons, Nat.reduceAdd, Nat.reduceMul, Nat.reduceSub, Nat.reduceLeDiff, true_and, and_true, ↓reduceIte, not_false_eq_true, not_true_eq_false, nI_add, pk_mul, jn_ltT, jn_ltF, jn_leT, jn_leF, jn_eqT, jn_eqF, jn_lt0, jn_ge0, jn_eq0T, jn_eq0F, jn_in, jn_cl, jn_xor, hX, jan31, jn_or, e']
theorem md_parting (hR : jR F A G g h) (hr : F 149 0 ≤ 5) (hc : F 149 1 ≤ 5) (hT : ∀ B, jblk (F 149 0) (F 149 1) B = true → A 160 B = nI (jlb (A 150) (F 149 0) (F 149 1) B)) {B : Nat} (hb : jblk (F 149 0) (F 149 1) B = true) (he : ¬ jev (A 150) (F 149 0) (F 149 1) B = true) (k : Q [.int (nI (jcut (A 150) (F 149 0) (F 149 1) B))] h) : jx_Go jxP (d + 1) 165 0 [.ref 149, .int (nI B), jx_u] [] h Q := by
  have p1 := jp2 _ hr
  have p2 := jp2 _ hc
  have hb' := jblk_iff.mp hb
  have hB : B < 1024 := by omega
  have bl : ∀ B', B' < 1024 → jlb (A 150) (F 149 0) (F 149 1) B' ≤ 100 := fun B' h' => jbt_le (by omega) h'
  have rx : ∀ n, n < 32 → jpt (B / 32) n = true → ∀ (d : Nat) (Q : List Value → jxH → Prop), (jx_Go jxP d 164 0 [.ref 149, .int (nI B), .int (nI (32 * n)), jx_u, jx_u, jx_u] [] h Q ↔ Q [.int (nI (jrx (A 150) (F 149 0) (F 149 1) B n).toNat)] h) := by
    intro n hn hp d Q
    have q := jpt_lt (B / 32) (by omega) n hn hp
    have l1 := hT (32 * (B / 32 ^^^ n) + B % 32) (jblk_iff.mpr (by omega))
    have l2 := hT (32 * n + B % 32) (jblk_iff.mpr (by omega))
    have x1 := jx1 (B / 32) (by omega) (B % 32) (by omega) n hn
    rw [show 32 * (B / 32) + B % 32 = B by omega] at x1
    rw [md_reaches hR hB (by omega) (by omega) (Or.inr ⟨by omega, by omega, jx3 _ (by omega) _ hn⟩) x1 l1 l2 (hT B hb) (bl _ (by omega)) (bl _ (by omega)) (bl _ hB)]
    unfold jrx
    rw [hp, Bool.true_and]
  have ry : ∀ n, n < 32 → jpt (B % 32) n = true → ∀ (d : Nat) (Q : List Value → jxH → Prop), (jx_Go jxP d 164 0 [.ref 149, .int (nI B), .int (nI n), jx_u, jx_u, jx_u] [] h Q ↔ Q [.int (nI (jry (A 150) (F 149 0) (F 149 1) B n).toNat)] h) := by
    intro n hn hp d Q
    have q := jpt_lt (B % 32) (by omega) n hn hp
    have l1 := hT (32 * (B / 32) + (B % 32 ^^^ n)) (jblk_iff.mpr (by omega))
    have l2 := hT (32 * (B / 32) + n) (jblk_iff.mpr (by omega))
    have x1 := jx2 (B / 32) (by omega) (B % 32) (by omega) n hn
    rw [show 32 * (B / 32) + B % 32 = B by omega] at x1
    rw [md_reaches hR hB (by omega) (by omega) (Or.inl ⟨hn, jx3 _ hn _ (by omega)⟩) x1 l1 l2 (hT B hb) (bl _ (by omega)) (bl _ (by omega)) (bl _ hB)]
    unfold jry
    rw [hp, Bool.true_and]
  have nx0 : ∀ x, jpt x 0 = false := fun x => rfl
  simp (disch := omega) only [s165_0, s165_1, Option.some.injEq, exists_eq_left', exists_eq_left, List.cons_append, List.nil_append, List.length_nil, List.length_cons, Nat.reduceAdd, Nat.reduceMul, Nat.reduceSub, Nat.reduceLeDiff, true_and, and_true, ↓reduceIte, not_false_eq_true, not_true_eq_false, nI_add, pk_mul, jn_ltT, jn_ltF, jn_leT, jn_leF, jn_eqT, jn_eqF, jn_lt0, jn_ge0, jn_eq0T, jn_eq0F, jn_in, jn_cl]
  refine jloop (fun n => 1 ≤ n → (∀ j, j < n → jrx (A 150) (F 149 0) (F 149 1) B j = false) → jx_Go jxP (d + 1) 165 2 [.ref 149, .int (nI B), .int (nI n)] [] h Q) 32 ?_ ?_ 1 (by omega) (by omega) (fun j hj => by rw [show j = 0 by omega]; unfold jrx; rw [nx0]; rfl)
  · intro _ hno
    rw [s165_2]
    simp (disch := omega) only [s165_3, s165_5, s165_39, s165_40, Option.some.injEq, exists_eq_left', exists_eq_left, List.cons_append, List.nil_append, List.length_nil, List.length_cons, Nat.reduceAdd, Nat.reduceMul, Nat.reduceSub, Nat.reduceLeDiff, true_and, and_true, ↓reduceIte, not_false_eq_true, not_true_eq_false, nI_add, pk_mul, jn_ltT, jn_ltF, jn_leT, jn_leF, jn_eqT, jn_eqF, jn_lt0, jn_ge0, jn_eq0T, jn_eq0F, jn_in, jn_cl]
    obtain ⟨s, hs, es⟩ : ∃ s, s < 32 ∧ jry (A 150) (F 149 0) (F 149 1) B s = true := by
      rcases jcut_ex hr hc hB he with ⟨s, hs, e⟩ | w
      · rw [hno s hs] at e; cases e
      · exact w
    have ek : jcut (A 150) (F 149 0) (F 149 1) B = jlst (jry (A 150) (F 149 0) (F 149 1) B) 32 := by
      unfold jcut
      rw [jlst_no hno, if_neg (by omega)]
    rw [ek] at k
    obtain ⟨c1, c2, c3⟩ := jlst_le (p := jry (A 150) (F 149 0) (F 149 1) B) 32
    have lt : jlst (jry (A 150) (F 149 0) (F 149 1) B) 32 < 32 := by
      rcases Nat.lt_or_ge (jlst (jry (A 150) (F 149 0) (F 149 1) B) 32) 32 with w | w
      · exact w
      · have := c3 s (by omega); rw [es] at this; cases this
    have cp := c2 lt
    generalize jlst (jry (A 150) (F 149 0) (F 149 1) B) 32 = m at k c3 lt cp
    have hm1 : 1 ≤ m := by
      rcases Nat.eq_zero_or_pos m with w | w
      · subst w
        have : jry (A 150) (F 149 0) (F 149 1) B 0 = false := by unfold jry; rw [nx0]; rfl
        rw [this] at cp; cases cp
      · exact w
    have pm : jpt (B % 32) m = true := by
      unfold jry at cp; rw [Bool.and_eq_true] at cp; exact cp.1
    refine jloop (fun n => 1 ≤ n → jx_Go jxP (d + 1) 165 41 [.ref 149, .int (nI B), .int (nI n)] [] h Q) m ?_ ?_ 1 hm1 (by omega)
    · intro _
      rw [s165_41]
      simp (disch := omega) only [s165_42, s165_43, s165_44, s165_45, Option.some.injEq, exists_eq_left', exists_eq_left, List.cons_append, List.nil_append, List.length_nil, List.length_cons, Nat.reduceAdd, Nat.reduceMul, Nat.reduceSub, Nat.reduceLeDiff, true_and, and_true, ↓reduceIte, not_false_eq_true, not_true_eq_false, nI_add, pk_mul, jn_ltT, jn_ltF, jn_leT, jn_leF, jn_eqT, jn_eqF, jn_lt0, jn_ge0, jn_eq0T, jn_eq0F, jn_in, jn_cl, jc_of_149 hR, md_parted]
      rw [if_neg (by omega), pm]
      simp (disch := omega) only [s165_48, s165_51, s165_52, s165_53, s165_54, Option.some.injEq, exists_eq_left', exists_eq_left, List.cons_append, List.nil_append, List.length_nil, List.length_cons, Nat.reduceAdd, Nat.reduceMul, Nat.reduceSub, Nat.reduceLeDiff, true_and, and_true, ↓reduceIte, not_false_eq_true, not_true_eq_false, nI_add, pk_mul, jn_ltT, jn_ltF, jn_leT, jn_leF, jn_eqT, jn_eqF, jn_lt0, jn_ge0, jn_eq0T, jn_eq0F, jn_in, jn_cl, jc_of_149 hR, Bool.toNat_true]
      rw [ry m lt pm, cp]
      simp (disch := omega) only [s165_57, s165_60, s165_63, s165_66, s165_67, Option.some.injEq, exists_eq_left', exists_eq_left, List.cons_append, List.nil_append, List.length_nil, List.length_cons, Nat.reduceAdd, Nat.reduceMul, Nat.reduceSub, Nat.reduceLeDiff, true_and, and_true, ↓reduceIte, not_false_eq_true, not_true_eq_false, nI_add, pk_mul, jn_ltT, jn_ltF, jn_leT, jn_leF, jn_eqT, jn_eqF, jn_lt0, jn_ge0, jn_eq0T, jn_eq0F, jn_in, jn_cl, Bool.toNat_true]
      exact k
    · intro n hn ih _
      have nf := c3 n hn
      rw [s165_41]
      simp (disch := omega) only [s165_42, s165_43, s165_44, s165_45, Option.some.injEq, exists_eq_left', exists_eq_left, List.cons_append, List.nil_append, List.length_nil, List.length_cons, Nat.reduceAdd, Nat.reduceMul, Nat.reduceSub, Nat.reduceLeDiff, true_and, and_true, ↓reduceIte, not_false_eq_true, not_true_eq_false, nI_add, pk_mul, jn_ltT, jn_ltF, jn_leT, jn_leF, jn_eqT, jn_eqF, jn_lt0, jn_ge0, jn_eq0T, jn_eq0F, jn_in, jn_cl, jc_of_149 hR, md_parted]
      rw [if_neg (by omega)]
      cases hp : jpt (B % 32) n with
      | false =>
        simp (disch := omega) only [s165_48, s165_60, s165_63, Option.some.injEq, exists_eq_left', exists_eq_left, List.cons_append, List.nil_append, List.length_nil, List.length_cons, Nat.reduceAdd, Nat.reduceMul, Nat.reduceSub, Nat.reduceLeDiff, true_and, and_true, ↓reduceIte, not_false_eq_true, not_true_eq_false, nI_add, pk_mul, jn_ltT, jn_ltF, jn_leT, jn_leF, jn_eqT, jn_eqF, jn_lt0, jn_ge0, jn_eq0T, jn_eq0F, jn_in, jn_cl, Bool.toNat_false]
        exact ih (by omega)
      | true =>
        simp (disch := omega) only [s165_48, s165_51, s165_52, s165_53, s165_54, Option.some.injEq, exists_eq_left', exists_eq_left, List.cons_append, List.nil_append, List.length_nil, List.length_cons, Nat.reduceAdd, Nat.reduceMul, Nat.reduceSub, Nat.reduceLeDiff, true_and, and_true, ↓reduceIte, not_false_eq_true, not_true_eq_false, nI_add, pk_mul, jn_ltT, jn_ltF, jn_leT, jn_leF, jn_eqT, jn_eqF, jn_lt0, jn_ge0, jn_eq0T, jn_eq0F, jn_in, jn_cl, jc_of_149 hR, Bool.toNat_true]
        rw [ry n (by omega) hp, nf]
        simp (disch := omega) only [s165_57, s165_60, s165_63, Option.some.injEq, exists_eq_left', exists_eq_left, List.cons_append, List.nil_append, List.length_nil, List.length_cons, Nat.reduceAdd, Nat.reduceMul, Nat.reduceSub, Nat.reduceLeDiff, true_and, and_true, ↓reduceIte, not_false_eq_true, not_true_eq_false, nI_add, pk_mul, jn_ltT, jn_ltF, jn_leT, jn_leF, jn_eqT, jn_eqF, jn_lt0, jn_ge0, jn_eq0T, jn_eq0F, jn_in, jn_cl, Bool.toNat_false]
        exact ih (by omega)
  · intro n hn ih h1 hno
    rw [s165_2]
    simp (disch := omega) only [s165_3, s165_5, s165_8, s165_9, s165_10, s165_11, s165_12, Option.some.injEq, exists_eq_left', exists_eq_left, List.cons_append, List.nil_append, List.length_nil, List.length_cons, Nat.reduceAdd, Nat.reduceMul, Nat.reduceSub, Nat.reduceLeDiff, true_and, and_true, ↓reduceIte, not_false_eq_true, not_true_eq_false, nI_add, pk_mul, jn_ltT, jn_ltF, jn_leT, jn_leF, jn_eqT, jn_eqF, jn_lt0, jn_ge0, jn_eq0T, jn_eq0F, jn_in, jn_cl, jc_of_149 hR, md_parted]
    cases hp : jpt (B / 32) n with
    | false =>
      simp (disch := omega) only [s165_15, s165_33, s165_36, Option.some.injEq, exists_eq_left', exists_eq_left, List.cons_append, List.nil_append, List.length_nil, List.length_cons, Nat.reduceAdd, Nat.reduceMul, Nat.reduceSub, Nat.reduceLeDiff, true_and, and_true, ↓reduceIte, not_false_eq_true, not_true_eq_false, nI_add, pk_mul, jn_ltT, jn_ltF, jn_leT, jn_leF, jn_eqT, jn_eqF, jn_lt0, jn_ge0, jn_eq0T, jn_eq0F, jn_in, jn_cl, Bool.toNat_false]
      refine ih (by omega) (fun j hj => ?_)
      rcases Nat.lt_succ_iff_lt_or_eq.mp hj with w | w
      · exact hno j w
      · rw [w]; unfold jrx; rw [hp]; rfl
    | true =>
      simp (disch := omega) only [s165_15, s165_18, s165_19, s165_20, s165_21, s165_22, s165_23, Option.some.injEq, exists_eq_left', exists_eq_left, List.cons_append, List.nil_append, List.length_nil, List.length_cons, Nat.reduceAdd, Nat.reduceMul, Nat.reduceSub, Nat.reduceLeDiff, true_and, and_true, ↓reduceIte, not_false_eq_true, not_true_eq_false, nI_add, pk_mul, jn_ltT, jn_ltF, jn_leT, jn_leF, jn_eqT, jn_eqF, jn_lt0, jn_ge0, jn_eq0T, jn_eq0F, jn_in, jn_cl, jc_of_149 hR, Bool.toNat_true, jsh5l]
      rw [rx n hn hp]
      cases hx : jrx (A 150) (F 149 0) (F 149 1) B n with
      | false =>
        simp (disch := omega) only [s165_26, s165_33, s165_36, Option.some.injEq, exists_eq_left', exists_eq_left, List.cons_append, List.nil_append, List.length_nil, List.length_cons, Nat.reduceAdd, Nat.reduceMul, Nat.reduceSub, Nat.reduceLeDiff, true_and, and_true, ↓reduceIte, not_false_eq_true, not_true_eq_false, nI_add, pk_mul, jn_ltT, jn_ltF, jn_leT, jn_leF, jn_eqT, jn_eqF, jn_lt0, jn_ge0, jn_eq0T, jn_eq0F, jn_in, jn_cl, Bool.toNat_false]
        refine ih (by omega) (fun j hj => ?_)
        rcases Nat.lt_succ_iff_lt_or_eq.mp hj with w | w
        · exact hno j w
        · rw [w]; exact hx
      | true =>
        simp (disch := omega) only [s165_26, s165_29, s165_30, s165_31, s165_32, Option.some.injEq, exists_eq_left', exists_eq_left, List.cons_append, List.nil_append, List.length_nil, List.length_cons, Nat.reduceAdd, Nat.reduceMul, Nat.reduceSub, Nat.reduceLeDiff, true_and, and_true, ↓reduceIte, not_false_eq_true, not_true_eq_false, nI_add, pk_mul, jn_ltT, jn_ltF, jn_leT, jn_leF, jn_eqT, jn_eqF, jn_lt0, jn_ge0, jn_eq0T, jn_eq0F, jn_in, jn_cl, Bool.toNat_true, jsh5l]
        have ek : jcut (A 150) (F 149 0) (F 149 1) B = 32 * n := by
          unfold jcut
          rw [jlst_at hn hx hno, if_pos hn]
        rw [ek] at k
        exact k
end MD12
