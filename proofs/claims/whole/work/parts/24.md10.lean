/-! ===== the reference: blocks, least bits and fewest ends ===== -/
section MD10
variable {d : Nat} {F : Nat → Nat → Nat} {A : Nat → Nat → Int32} {G : Nat → Option Nat} {g : Nat → Int64} {h : jxH} {Q : List Value → jxH → Prop}
/-- the best of the cuts below n -/
def jbst (f : Nat → Nat → Nat) (T : Nat → Nat) (x y : Nat) (n : Nat) (hi : Nat) : Nat := match n with
  | 0 => hi
  | n + 1 => if jpt y n = true then min (f (T (32 * x + (y ^^^ n))) (T (32 * x + n))) (if jpt x n = true then min (f (T (32 * (x ^^^ n) + y)) (T (32 * n + y))) (jbst f T x y n hi) else jbst f T x y n hi) else if jpt x n = true then min (f (T (32 * (x ^^^ n) + y)) (T (32 * n + y))) (jbst f T x y n hi) else jbst f T x y n hi
theorem jbst_s {f : Nat → Nat → Nat} {T : Nat → Nat} {x y n hi : Nat} : jbst f T x y (n + 1) hi = if jpt y n = true then min (f (T (32 * x + (y ^^^ n))) (T (32 * x + n))) (if jpt x n = true then min (f (T (32 * (x ^^^ n) + y)) (T (32 * n + y))) (jbst f T x y n hi) else jbst f T x y n hi) else if jpt x n = true then min (f (T (32 * (x ^^^ n) + y)) (T (32 * n + y))) (jbst f T x y n hi) else jbst f T x y n hi := rfl
theorem jbst_congr {f : Nat → Nat → Nat} {T T' : Nat → Nat} {x y hi : Nat} (hx : x < 32) (hy : y < 32) (e : ∀ B, B < 32 * x + y → T B = T' B) : ∀ n, n ≤ 32 → jbst f T x y n hi = jbst f T' x y n hi := by
  intro n
  induction n with
  | zero => intro _; rfl
  | succ n ih =>
    intro hn
    rw [jbst_s, jbst_s, ih (by omega)]
    by_cases w1 : jpt x n = true
    · have k1 := jpt_lt x hx n (by omega) w1
      rw [e (32 * (x ^^^ n) + y) (by omega), e (32 * n + y) (by omega)]
      by_cases w2 : jpt y n = true
      · have k2 := jpt_lt y hy n (by omega) w2
        rw [e (32 * x + (y ^^^ n)) (by omega), e (32 * x + n) (by omega)]
      · rw [if_neg w2, if_neg w2]
    · rw [if_neg w1, if_neg w1]
      by_cases w2 : jpt y n = true
      · have k2 := jpt_lt y hy n (by omega) w2
        rw [e (32 * x + (y ^^^ n)) (by omega), e (32 * x + n) (by omega)]
      · rw [if_neg w2, if_neg w2]
theorem jbst_le {f : Nat → Nat → Nat} {T : Nat → Nat} {x y hi : Nat} : ∀ n, jbst f T x y n hi ≤ hi := by
  intro n
  induction n with
  | zero => exact Nat.le_refl _
  | succ n ih =>
    rw [jbst_s]
    have h1 : (if jpt x n = true then min (f (T (32 * (x ^^^ n) + y)) (T (32 * n + y))) (jbst f T x y n hi) else jbst f T x y n hi) ≤ hi := by
      split
      · exact Nat.le_trans (Nat.min_le_right _ _) ih
      · exact ih
    split
    · exact Nat.le_trans (Nat.min_le_right _ _) h1
    · exact h1
def jtb (f : Nat → Nat → Nat) (ev : Nat → Bool) (lo hi : Nat) (n : Nat) : Nat → Nat := match n with
  | 0 => fun _ => 0
  | n + 1 => fun B => if ev B = true then lo else jbst f (jtb f ev lo hi n) (B / 32) (B % 32) 32 hi
theorem jtb_s {f : Nat → Nat → Nat} {ev : Nat → Bool} {lo hi n B : Nat} : jtb f ev lo hi (n + 1) B = if ev B = true then lo else jbst f (jtb f ev lo hi n) (B / 32) (B % 32) 32 hi := rfl
theorem jtb_st {f : Nat → Nat → Nat} {ev : Nat → Bool} {lo hi : Nat} : ∀ B, B < 1024 → ∀ n m, B < n → B < m → jtb f ev lo hi n B = jtb f ev lo hi m B := by
  intro B
  induction B using Nat.strongRecOn with
  | _ B ih =>
    intro hB n m hn hm
    obtain ⟨n, rfl⟩ : ∃ n', n = n' + 1 := ⟨n - 1, by omega⟩
    obtain ⟨m, rfl⟩ : ∃ n', m = n' + 1 := ⟨m - 1, by omega⟩
    rw [jtb_s, jtb_s, jbst_congr (T := jtb f ev lo hi n) (T' := jtb f ev lo hi m) (by omega) (by omega) (fun B' h' => ih B' (by omega) (by omega) n m (by omega) (by omega)) 32 (Nat.le_refl _)]
/-- the least of all ways to cut B -/
def jbt (f : Nat → Nat → Nat) (ev : Nat → Bool) (lo hi B : Nat) : Nat := jtb f ev lo hi 1024 B
theorem jbt_eq {f : Nat → Nat → Nat} {ev : Nat → Bool} {lo hi B : Nat} (hB : B < 1024) : jbt f ev lo hi B = if ev B = true then lo else jbst f (jbt f ev lo hi) (B / 32) (B % 32) 32 hi := by
  unfold jbt
  rw [show (1024 : Nat) = 1023 + 1 from rfl, jtb_s, jbst_congr (T := jtb f ev lo hi 1023) (T' := jtb f ev lo hi (1023 + 1)) (by omega) (by omega) (fun B' h' => jtb_st B' (by omega) _ _ (by omega) (by omega)) 32 (Nat.le_refl _)]
theorem jbt_le {f : Nat → Nat → Nat} {ev : Nat → Bool} {lo hi B : Nat} (hl : lo ≤ hi) (hB : B < 1024) : jbt f ev lo hi B ≤ hi := by
  rw [jbt_eq hB]
  split
  · exact hl
  · exact jbst_le _
/-- LEAST BITS and FEWEST ENDS of a block -/
def jlb (v : Nat → Int32) (R C B : Nat) : Nat := jbt (fun a b => max a b + 1) (jev v R C) 0 100 B
def jfe (v : Nat → Int32) (R C B : Nat) : Nat := jbt (fun a b => a + b) (jev v R C) 1 1000 B
theorem jx1 : ∀ x, x < 32 → ∀ y, y < 32 → ∀ s, s < 32 → (32 * x + y) ^^^ (32 * s) = 32 * (x ^^^ s) + y := by decide +kernel
theorem jx2 : ∀ x, x < 32 → ∀ y, y < 32 → ∀ s, s < 32 → (32 * x + y) ^^^ s = 32 * x + (y ^^^ s) := by decide +kernel
theorem jx3 : ∀ y, y < 32 → ∀ s, s < 32 → (32 * s) ||| y = 32 * s + y := by decide +kernel
theorem jx4 : ∀ B, B < 1024 → nI B &&& -32 = nI (32 * (B / 32)) := by decide +kernel
theorem jsh5l : ∀ s, s < 32 → nI s <<< (nI 5 &&& 31) = nI (32 * s) := by decide +kernel
theorem md_takeBest_f {B s : Int32} : jx_Go jxP d 160 0 [.ref 149, .int B, .int (nI 0), .int s, jx_u, jx_u, jx_u, jx_u] [] h Q ↔ Q [] h := by
  simp (disch := omega) only [s160_0, s160_1, s160_4, s160_5, s160_6, s160_7, s160_9, s160_10, s160_12, s160_15, s160_16, s160_18, s160_19, s160_20, s160_21, s160_24, s160_25, s160_26, s160_28, s160_29, s160_30, s160_32, s160_33, s160_36, s160_38, s160_39, s160_40, s160_43, s160_45, s160_46, s160_49, s160_50, s160_53, s160_55, s160_56, s160_59, s160_60, s160_63, s160_65, s160_66, s160_68, s160_69, s160_72, s160_73, s160_75, s160_76, s160_77, s160_78, s160_81, s160_82, s160_83, s160_86, s160_88, s160_89, s160_90, s160_93, s160_94, s160_97, s160_98, s160_99, s160_100, s160_101, s160_104, s160_106, s160_107, s160_108, s160_111, s160_113, s160_114, s160_115, s160_117, s160_118, s160_121, s160_122, s160_124, s160_125, s160_128, s160_129, s160_130, s160_133, s160_135, s160_138, s160_139, s160_142, s160_143, s160_144, s160_145, Option.some.injEq, exists_eq_left', exists_eq_left, List.cons_append, List.nil_append, List.length_nil, List.length_cons, Nat.reduceAdd, Nat.reduceMul, Nat.reduceSub, Nat.reduceLeDiff, true_and, and_true, ↓reduceIte, not_false_eq_true, not_true_eq_false, nI_add, pk_mul, jn_ltT, jn_ltF, jn_leT, jn_leF, jn_eqT, jn_eqF, jn_lt0, jn_ge0, jn_eq0T, jn_eq0F, jn_in, jn_cl]
theorem md_takeBest_t (hR : jR F A G g h) {B S B1 B2 b1 b2 b e1 e2 e : Nat} (hB : B < 1024) (hB1 : B1 < B) (hB2 : B2 < B) (hS : (S < 32 ∧ 32 * (B / 32) ||| S = B2) ∨ (32 ≤ S ∧ S < 1024 ∧ S ||| B % 32 = B2)) (hX : B ^^^ S = B1) (k1 : A 160 B1 = nI b1) (k2 : A 160 B2 = nI b2) (k3 : A 160 B = nI b) (l1 : A 161 B1 = nI e1) (l2 : A 161 B2 = nI e2) (l3 : A 161 B = nI e) (q1 : b1 ≤ 100) (q2 : b2 ≤ 100) (q3 : b ≤ 100) (r1 : e1 ≤ 1000) (r2 : e2 ≤ 1000) (r3 : e ≤ 1000) (k : ∀ h', jR F (jua (jua A 160 (upd (A 160) B (nI (min (max b1 b2 + 1) b)))) 161 (upd (A 161) B (nI (min (e1 + e2) e)))) G g h' → jD h h' → Q [] h') : jx_Go jxP d 160 0 [.ref 149, .int (nI B), .int (nI 1), .int (nI S), jx_u, jx_u, jx_u, jx_u] [] h Q := by
  have k30 : jx_Go jxP d 160 30 [.ref 149, .int (nI B), .int (nI 1), .int (nI S), .int (nI B1), jx_u, jx_u, jx_u] [.int (nI B2)] h Q := by
    have k66 : jx_Go jxP d 160 66 [.ref 149, .int (nI B), .int (nI 1), .int (nI S), .int (nI B1), .int (nI B2), jx_u, jx_u] [.int (nI (max b1 b2))] h Q := by
      have hR1 : jR F (jua A 160 (upd (A 160) B (nI (min (max b1 b2 + 1) b)))) G g (jx_wi h 160 1024 (upd (A 160) B (nI (min (max b1 b2 + 1) b)))) := hR.wi rfl
      have hD1 : jD h (jx_wi h 160 1024 (upd (A 160) B (nI (min (max b1 b2 + 1) b)))) := jD.rf.wi (by decide)
      have a161 : jua A 160 (upd (A 160) B (nI (min (max b1 b2 + 1) b))) 161 = A 161 := by simp [jua]
      have k100 : jx_Go jxP d 160 100 [.ref 149, .int (nI B), .int (nI 1), .int (nI S), .int (nI B1), .int (nI B2), .int (nI (max b1 b2)), jx_u] [] (jx_wi h 160 1024 (upd (A 160) B (nI (min (max b1 b2 + 1) b)))) Q := by
        generalize jx_wi h 160 1024 (upd (A 160) B (nI (min (max b1 b2 + 1) b))) = h1 at hR1 hD1 ⊢
        have kk : ∀ u, u = min (e1 + e2) e → Q [] (jx_wi h1 161 1024 (upd (A 161) B (nI u))) := by
          rintro u rfl
          have hR2 := hR1.wi (a := 161) (f := upd (A 161) B (nI (min (e1 + e2) e))) rfl
          exact k _ hR2 (hD1.wi (by decide))
        by_cases w : e ≤ e1 + e2
        · simp (disch := omega) only [s160_100, s160_101, s160_104, s160_106, s160_107, s160_108, s160_111, s160_113, s160_114, s160_115, s160_117, s160_118, s160_121, s160_122, s160_124, s160_125, s160_128, s160_129, s160_130, s160_133, s160_135, s160_138, s160_139, s160_142, s160_143, s160_144, s160_145, Option.some.injEq, exists_eq_left', exists_eq_left, List.cons_append, List.nil_append, List.length_nil, List.length_cons, Nat.reduceAdd, Nat.reduceMul, Nat.reduceSub, Nat.reduceLeDiff, true_and, and_true, ↓reduceIte, not_false_eq_true, not_true_eq_false, nI_add, pk_mul, jn_ltT, jn_ltF, jn_leT, jn_leF, jn_eqT, jn_eqF, jn_lt0, jn_ge0, jn_eq0T, jn_eq0F, jn_in, jn_cl, jf_149_17 hR1, ja_161 hR1, a161, l1, l2, l3]
          exact kk _ (by omega)
        · simp (disch := omega) only [s160_100, s160_101, s160_104, s160_106, s160_107, s160_108, s160_111, s160_113, s160_114, s160_115, s160_117, s160_118, s160_121, s160_122, s160_124, s160_125, s160_128, s160_129, s160_130, s160_133, s160_135, s160_138, s160_139, s160_142, s160_143, s160_144, s160_145, Option.some.injEq, exists_eq_left', exists_eq_left, List.cons_append, List.nil_append, List.length_nil, List.length_cons, Nat.reduceAdd, Nat.reduceMul, Nat.reduceSub, Nat.reduceLeDiff, true_and, and_true, ↓reduceIte, not_false_eq_true, not_true_eq_false, nI_add, pk_mul, jn_ltT, jn_ltF, jn_leT, jn_leF, jn_eqT, jn_eqF, jn_lt0, jn_ge0, jn_eq0T, jn_eq0F, jn_in, jn_cl, jf_149_17 hR1, ja_161 hR1, a161, l1, l2, l3]
          exact kk _ (by omega)
      by_cases w : b ≤ max b1 b2 + 1
      · rw [show min (max b1 b2 + 1) b = b by omega] at k100
        simp (disch := omega) only [s160_66, s160_68, s160_69, s160_72, s160_73, s160_75, s160_76, s160_77, s160_78, s160_81, s160_82, s160_83, s160_86, s160_88, s160_89, s160_90, s160_93, s160_94, s160_97, s160_98, s160_99, Option.some.injEq, exists_eq_left', exists_eq_left, List.cons_append, List.nil_append, List.length_nil, List.length_cons, Nat.reduceAdd, Nat.reduceMul, Nat.reduceSub, Nat.reduceLeDiff, true_and, and_true, ↓reduceIte, not_false_eq_true, not_true_eq_false, nI_add, pk_mul, jn_ltT, jn_ltF, jn_leT, jn_leF, jn_eqT, jn_eqF, jn_lt0, jn_ge0, jn_eq0T, jn_eq0F, jn_in, jn_cl, jf_149_16 hR, ja_160 hR, k3]
        exact k100
      · rw [show min (max b1 b2 + 1) b = max b1 b2 + 1 by omega] at k100
        simp (disch := omega) only [s160_66, s160_68, s160_69, s160_72, s160_73, s160_75, s160_76, s160_77, s160_78, s160_81, s160_82, s160_83, s160_86, s160_88, s160_89, s160_90, s160_93, s160_94, s160_97, s160_98, s160_99, Option.some.injEq, exists_eq_left', exists_eq_left, List.cons_append, List.nil_append, List.length_nil, List.length_cons, Nat.reduceAdd, Nat.reduceMul, Nat.reduceSub, Nat.reduceLeDiff, true_and, and_true, ↓reduceIte, not_false_eq_true, not_true_eq_false, nI_add, pk_mul, jn_ltT, jn_ltF, jn_leT, jn_leF, jn_eqT, jn_eqF, jn_lt0, jn_ge0, jn_eq0T, jn_eq0F, jn_in, jn_cl, jf_149_16 hR, ja_160 hR, k3]
        exact k100
    by_cases w : b1 ≤ b2
    · rw [show max b1 b2 = b2 by omega] at k66
      simp (disch := omega) only [s160_30, s160_32, s160_33, s160_36, s160_38, s160_39, s160_40, s160_43, s160_45, s160_46, s160_49, s160_50, s160_53, s160_55, s160_56, s160_59, s160_60, s160_63, s160_65, Option.some.injEq, exists_eq_left', exists_eq_left, List.cons_append, List.nil_append, List.length_nil, List.length_cons, Nat.reduceAdd, Nat.reduceMul, Nat.reduceSub, Nat.reduceLeDiff, true_and, and_true, ↓reduceIte, not_false_eq_true, not_true_eq_false, nI_add, pk_mul, jn_ltT, jn_ltF, jn_leT, jn_leF, jn_eqT, jn_eqF, jn_lt0, jn_ge0, jn_eq0T, jn_eq0F, jn_in, jn_cl, jf_149_16 hR, ja_160 hR, k1, k2]
      exact k66
    · rw [show max b1 b2 = b1 by omega] at k66
      simp (disch := omega) only [s160_30, s160_32, s160_33, s160_36, s160_38, s160_39, s160_40, s160_43, s160_45, s160_46, s160_49, s160_50, s160_53, s160_55, s160_56, s160_59, s160_60, s160_63, s160_65, Option.some.injEq, exists_eq_left', exists_eq_left, List.cons_append, List.nil_append, List.length_nil, List.length_cons, Nat.reduceAdd, Nat.reduceMul, Nat.reduceSub, Nat.reduceLeDiff, true_and, and_true, ↓reduceIte, not_false_eq_true, not_true_eq_false, nI_add, pk_mul, jn_ltT, jn_ltF, jn_leT, jn_leF, jn_eqT, jn_eqF, jn_lt0, jn_ge0, jn_eq0T, jn_eq0F, jn_in, jn_cl, jf_149_16 hR, ja_160 hR, k1, k2]
      exact k66
  rcases hS with ⟨w, e'⟩ | ⟨w, w2, e'⟩
  · simp (disch := omega) only [s160_0, s160_1, s160_4, s160_5, s160_6, s160_7, s160_9, s160_10, s160_12, s160_15, s160_16, s160_18, s160_19, s160_20, s160_21, Option.some.injEq, exists_eq_left', exists_eq_left, List.cons_append, List.nil_append, List.length_nil, List.length_cons, Nat.reduceAdd, Nat.reduceMul, Nat.reduceSub, Nat.reduceLeDiff, true_and, and_true, ↓reduceIte, not_false_eq_true, not_true_eq_false, nI_add, pk_mul, jn_ltT, jn_ltF, jn_leT, jn_leF, jn_eqT, jn_eqF, jn_lt0, jn_ge0, jn_eq0T, jn_eq0F, jn_in, jn_cl, jn_xor, hX, jx4, jn_or, e']
    exact k30
  · simp (disch := omega) only [s160_0, s160_1, s160_4, s160_5, s160_6, s160_7, s160_9, s160_10, s160_12, s160_15, s160_16, s160_18, s160_19, s160_20, s160_21, s160_24, s160_25, s160_26, s160_28, s160_29, Option.some.injEq, exists_eq_left', exists_eq_left, List.cons_append, List.nil_append, List.length_nil, List.length_cons, Nat.reduceAdd, Nat.reduceMul, Nat.reduceSub, Nat.reduceLeDiff, true_and, and_true, ↓reduceIte, not_false_eq_true, not_true_eq_false, nI_add, pk_mul, jn_ltT, jn_ltF, jn_leT, jn_leF, jn_eqT, jn_eqF, jn_lt0, jn_ge0, jn_eq0T, jn_eq0F, jn_in, jn_cl, jn_xor, hX, jan31, jn_or, e']
    exact k30
def jset (x : Int32) (n : Nat) : Bool := decide (¬ x ≤ 0) && decide (¬ nI (2 ^ n) ≤ x)
theorem jset_iff {x : Int32} {n : Nat} (hn : n ≤ 5) : jset x n = true ↔ ∃ j, 0 < j ∧ j < 2 ^ n ∧ x = nI j := by
  have := jp2 n hn
  unfold jset
  rw [Bool.and_eq_true, decide_eq_true_iff, decide_eq_true_iff]
  constructor
  · rintro ⟨a, b⟩
    have hb : jbel x (2 ^ n) = true := by
      unfold jbel
      rw [Bool.and_eq_true, decide_eq_true_iff, decide_eq_true_iff]
      exact ⟨fun z => a (Int32.le_of_lt z), b⟩
    obtain ⟨j, hj, rfl⟩ := (jbel_iff (by omega)).mp hb
    refine ⟨j, ?_, hj, rfl⟩
    rcases Nat.eq_zero_or_pos j with w | w
    · subst w; exact absurd (by decide) a
    · exact w
  · rintro ⟨j, h0, hj, rfl⟩
    exact ⟨nI_nle h0 (by omega), nI_ge hj (by omega)⟩
theorem md_areSets (hR : jR F A G g h) (hr : F 149 0 ≤ 5) (hc : F 149 1 ≤ 5) {x y : Int32} : jx_Go jxP d 161 0 [.ref 149, .int x, .int y] [] h Q ↔ Q [.int (nI (jset x (F 149 0) && jset y (F 149 1)).toNat)] h := by
  simp (disch := omega) only [s161_0, s161_1, Option.some.injEq, exists_eq_left', exists_eq_left, List.cons_append, List.nil_append, List.length_nil, List.length_cons, Nat.reduceAdd, Nat.reduceMul, Nat.reduceSub, Nat.reduceLeDiff, true_and, and_true, ↓reduceIte, not_false_eq_true, not_true_eq_false, nI_add, pk_mul, jn_ltT, jn_ltF, jn_leT, jn_leF, jn_eqT, jn_eqF, jn_lt0, jn_ge0, jn_eq0T, jn_eq0F, jn_in, jn_cl]
  unfold jset
  by_cases w1 : x ≤ 0
  · rw [if_pos w1, decide_eq_false (fun z => z w1)]
    simp (disch := omega) only [s161_32, s161_33b0, s161_33b1, Option.some.injEq, exists_eq_left', exists_eq_left, List.cons_append, List.nil_append, List.length_nil, List.length_cons, Nat.reduceAdd, Nat.reduceMul, Nat.reduceSub, Nat.reduceLeDiff, true_and, and_true, ↓reduceIte, not_false_eq_true, not_true_eq_false, nI_add, pk_mul, jn_ltT, jn_ltF, jn_leT, jn_leF, jn_eqT, jn_eqF, jn_lt0, jn_ge0, jn_eq0T, jn_eq0F, jn_in, jn_cl]
    rfl
  · rw [if_neg w1, decide_eq_true w1]
    simp (disch := omega) only [s161_4, s161_5, s161_6, s161_7, s161_10, s161_11, Option.some.injEq, exists_eq_left', exists_eq_left, List.cons_append, List.nil_append, List.length_nil, List.length_cons, Nat.reduceAdd, Nat.reduceMul, Nat.reduceSub, Nat.reduceLeDiff, true_and, and_true, ↓reduceIte, not_false_eq_true, not_true_eq_false, nI_add, pk_mul, jn_ltT, jn_ltF, jn_leT, jn_leF, jn_eqT, jn_eqF, jn_lt0, jn_ge0, jn_eq0T, jn_eq0F, jn_in, jn_cl, jf_149_0 hR, jsh1]
    by_cases w2 : nI (2 ^ F 149 0) ≤ x
    · rw [if_pos w2, decide_eq_false (fun z => z w2)]
      simp (disch := omega) only [s161_32, s161_33b0, s161_33b1, Option.some.injEq, exists_eq_left', exists_eq_left, List.cons_append, List.nil_append, List.length_nil, List.length_cons, Nat.reduceAdd, Nat.reduceMul, Nat.reduceSub, Nat.reduceLeDiff, true_and, and_true, ↓reduceIte, not_false_eq_true, not_true_eq_false, nI_add, pk_mul, jn_ltT, jn_ltF, jn_leT, jn_leF, jn_eqT, jn_eqF, jn_lt0, jn_ge0, jn_eq0T, jn_eq0F, jn_in, jn_cl]
      rfl
    · rw [if_neg w2, decide_eq_true w2]
      simp (disch := omega) only [s161_14, s161_15, Option.some.injEq, exists_eq_left', exists_eq_left, List.cons_append, List.nil_append, List.length_nil, List.length_cons, Nat.reduceAdd, Nat.reduceMul, Nat.reduceSub, Nat.reduceLeDiff, true_and, and_true, ↓reduceIte, not_false_eq_true, not_true_eq_false, nI_add, pk_mul, jn_ltT, jn_ltF, jn_leT, jn_leF, jn_eqT, jn_eqF, jn_lt0, jn_ge0, jn_eq0T, jn_eq0F, jn_in, jn_cl]
      by_cases w3 : y ≤ 0
      · rw [if_pos w3, decide_eq_false (p := ¬ y ≤ 0) (fun z => z w3)]
        simp (disch := omega) only [s161_32, s161_33b0, s161_33b1, Option.some.injEq, exists_eq_left', exists_eq_left, List.cons_append, List.nil_append, List.length_nil, List.length_cons, Nat.reduceAdd, Nat.reduceMul, Nat.reduceSub, Nat.reduceLeDiff, true_and, and_true, ↓reduceIte, not_false_eq_true, not_true_eq_false, nI_add, pk_mul, jn_ltT, jn_ltF, jn_leT, jn_leF, jn_eqT, jn_eqF, jn_lt0, jn_ge0, jn_eq0T, jn_eq0F, jn_in, jn_cl]
        rfl
      · rw [if_neg w3, decide_eq_true w3]
        simp (disch := omega) only [s161_18, s161_19, s161_20, s161_21, s161_24, s161_25, Option.some.injEq, exists_eq_left', exists_eq_left, List.cons_append, List.nil_append, List.length_nil, List.length_cons, Nat.reduceAdd, Nat.reduceMul, Nat.reduceSub, Nat.reduceLeDiff, true_and, and_true, ↓reduceIte, not_false_eq_true, not_true_eq_false, nI_add, pk_mul, jn_ltT, jn_ltF, jn_leT, jn_leF, jn_eqT, jn_eqF, jn_lt0, jn_ge0, jn_eq0T, jn_eq0F, jn_in, jn_cl, jf_149_1 hR, jsh1]
        by_cases w4 : nI (2 ^ F 149 1) ≤ y
        · rw [if_pos w4, decide_eq_false (fun z => z w4)]
          simp (disch := omega) only [s161_32, s161_33b0, s161_33b1, Option.some.injEq, exists_eq_left', exists_eq_left, List.cons_append, List.nil_append, List.length_nil, List.length_cons, Nat.reduceAdd, Nat.reduceMul, Nat.reduceSub, Nat.reduceLeDiff, true_and, and_true, ↓reduceIte, not_false_eq_true, not_true_eq_false, nI_add, pk_mul, jn_ltT, jn_ltF, jn_leT, jn_leF, jn_eqT, jn_eqF, jn_lt0, jn_ge0, jn_eq0T, jn_eq0F, jn_in, jn_cl]
          rfl
        · rw [if_neg w4, decide_eq_true w4]
          simp (disch := omega) only [s161_28, s161_29, s161_32, s161_33b0, s161_33b1, Option.some.injEq, exists_eq_left', exists_eq_left, List.cons_append, List.nil_append, List.length_nil, List.length_cons, Nat.reduceAdd, Nat.reduceMul, Nat.reduceSub, Nat.reduceLeDiff, true_and, and_true, ↓reduceIte, not_false_eq_true, not_true_eq_false, nI_add, pk_mul, jn_ltT, jn_ltF, jn_leT, jn_leF, jn_eqT, jn_eqF, jn_lt0, jn_ge0, jn_eq0T, jn_eq0F, jn_in, jn_cl]
          rfl
end MD10
