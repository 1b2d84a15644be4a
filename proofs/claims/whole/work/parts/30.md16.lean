/-! ===== the reference: once, lieTogether ===== -/
section MD16
variable {d : Nat} {F : Nat → Nat → Nat} {A : Nat → Nat → Int32} {G : Nat → Option Nat} {g : Nat → Int64} {h : jxH} {Q : List Value → jxH → Prop}
/-- the bits that tell one of c things -/
def jlg (c : Nat) : Nat := jlst (fun e => decide (c ≤ 2 ^ e)) 8
theorem md_once (hR : jR F A G g h) (hr : F 149 0 ≤ 5) (hc : F 149 1 ≤ 5) (hv : jV (A 150) (F 149 0) (F 149 1)) {b : Nat} (hb : b ≤ 1) (kk : ∀ h' f, jR F (jua A 170 f) G g h' → jD h h' → Q [.int (nI (jlg (jcl0 (A 150) (F 149 0) (F 149 1) b)))] h') : jx_Go jxP (d + 3) 171 0 [.ref 149, .int (nI b), jx_u, jx_u] [] h Q := by
  simp (disch := omega) only [s171_0, s171_1, s171_2, Option.some.injEq, exists_eq_left', exists_eq_left, List.cons_append, List.nil_append, List.length_nil, List.length_cons, Nat.reduceAdd, Nat.reduceMul, Nat.reduceSub, Nat.reduceLeDiff, true_and, and_true, ↓reduceIte, not_false_eq_true, not_true_eq_false, nI_add, pk_mul, jn_ltT, jn_ltF, jn_leT, jn_leF, jn_eqT, jn_eqF, jn_lt0, jn_ge0, jn_eq0T, jn_eq0F, jn_in, jn_cl, jc_of_149 hR]
  refine md_classes hR hr hc hv hb (fun h1 f hR1 hD1 => ?_)
  have hN5 : jN (F 149 0) (F 149 1) b ≤ 5 := by unfold jN; split <;> omega
  have p2 := jp2 _ hN5
  have c100 : jcl0 (A 150) (F 149 0) (F 149 1) b ≤ 100 := jfw_le (by omega)
  have k := kk h1 f hR1 hD1
  generalize jcl0 (A 150) (F 149 0) (F 149 1) b = c at c100 k ⊢
  unfold jlg at k
  obtain ⟨a1, a2, a3⟩ := jlst_le (p := fun e => decide (c ≤ 2 ^ e)) 8
  have lt : jlst (fun e => decide (c ≤ 2 ^ e)) 8 < 8 := by
    rcases Nat.lt_or_ge (jlst (fun e => decide (c ≤ 2 ^ e)) 8) 8 with w | w
    · exact w
    · have := a3 7 (by omega)
      rw [decide_eq_false_iff_not] at this
      omega
  have a4 := a2 lt
  generalize jlst (fun e => decide (c ≤ 2 ^ e)) 8 = m at *
  have pw : ∀ e, e ≤ 7 → 2 ^ e ≤ 128 := by decide
  simp (disch := omega) only [s171_5, s171_6, s171_7, Option.some.injEq, exists_eq_left', exists_eq_left, List.cons_append, List.nil_append, List.length_nil, List.length_cons, Nat.reduceAdd, Nat.reduceMul, Nat.reduceSub, Nat.reduceLeDiff, true_and, and_true, ↓reduceIte, not_false_eq_true, not_true_eq_false, nI_add, pk_mul, jn_ltT, jn_ltF, jn_leT, jn_leF, jn_eqT, jn_eqF, jn_lt0, jn_ge0, jn_eq0T, jn_eq0F, jn_in, jn_cl]
  refine jloop (fun e => jx_Go jxP (d + 3) 171 8 [.ref 149, .int (nI b), .int (nI c), .int (nI e)] [] h1 Q) m ?_ ?_ 0 (Nat.zero_le _)
  · have := pw m (by omega)
    have := of_decide_eq_true a4
    rw [s171_8]
    simp (disch := omega) only [s171_9, s171_10, s171_11, s171_12, s171_21, s171_22, Option.some.injEq, exists_eq_left', exists_eq_left, List.cons_append, List.nil_append, List.length_nil, List.length_cons, Nat.reduceAdd, Nat.reduceMul, Nat.reduceSub, Nat.reduceLeDiff, true_and, and_true, ↓reduceIte, not_false_eq_true, not_true_eq_false, nI_add, pk_mul, jn_ltT, jn_ltF, jn_leT, jn_leF, jn_eqT, jn_eqF, jn_lt0, jn_ge0, jn_eq0T, jn_eq0F, jn_in, jn_cl, jsh1]
    exact k
  · intro e he ih
    have := pw e (by omega)
    have := of_decide_eq_false (a3 e he)
    rw [s171_8]
    simp (disch := omega) only [s171_9, s171_10, s171_11, s171_12, s171_15, s171_18, Option.some.injEq, exists_eq_left', exists_eq_left, List.cons_append, List.nil_append, List.length_nil, List.length_cons, Nat.reduceAdd, Nat.reduceMul, Nat.reduceSub, Nat.reduceLeDiff, true_and, and_true, ↓reduceIte, not_false_eq_true, not_true_eq_false, nI_add, pk_mul, jn_ltT, jn_ltF, jn_leT, jn_leF, jn_eqT, jn_eqF, jn_lt0, jn_ge0, jn_eq0T, jn_eq0F, jn_in, jn_cl, jsh1]
    exact ih
/-- two places lie together in an even block -/
def jlie (v : Nat → Int32) (R C p q : Nat) : Bool := jev v R C (32 * (2 ^ (p / 5) ||| 2 ^ (q / 5)) + (2 ^ (p % 5) ||| 2 ^ (q % 5)))
theorem jlie1 : ∀ p, p < 25 → ∀ q, q < 25 → (2 ^ (p / 5) ||| 2 ^ (q / 5)) < 32 ∧ (2 ^ (p % 5) ||| 2 ^ (q % 5)) < 32 ∧ 32 * (2 ^ (p / 5) ||| 2 ^ (q / 5)) ||| 2 ^ (p % 5) ||| 2 ^ (q % 5) = 32 * (2 ^ (p / 5) ||| 2 ^ (q / 5)) + (2 ^ (p % 5) ||| 2 ^ (q % 5)) := by decide +kernel
theorem md_lieTogether (hR : jR F A G g h) (hr : F 149 0 ≤ 5) (hc : F 149 1 ≤ 5) (hv : jV (A 150) (F 149 0) (F 149 1)) {p q : Nat} (hp : p < 25) (hq : q < 25) (k : Q [.int (nI (jlie (A 150) (F 149 0) (F 149 1) p q).toNat)] h) : jx_Go jxP (d + 3) 174 0 [.ref 149, .int (nI p), .int (nI q), jx_u] [] h Q := by
  obtain ⟨a1, a2, a3⟩ := jlie1 p hp q hq
  have m1 : p - p / 5 * 5 = p % 5 := by omega
  have m2 : q - q / 5 * 5 = q % 5 := by omega
  simp (disch := omega) only [s174_0, s174_1, s174_2, s174_3, s174_4, s174_5, s174_6, s174_7, s174_8, s174_9, s174_10, s174_11, s174_12, s174_13, s174_14, s174_15, s174_16, s174_17, s174_18, s174_19, s174_20, s174_21, s174_22, s174_23, s174_24, s174_25, s174_26, s174_27, s174_28, Option.some.injEq, exists_eq_left', exists_eq_left, List.cons_append, List.nil_append, List.length_nil, List.length_cons, Nat.reduceAdd, Nat.reduceMul, Nat.reduceSub, Nat.reduceLeDiff, true_and, and_true, ↓reduceIte, not_false_eq_true, not_true_eq_false, nI_add, pk_mul, jn_ltT, jn_ltF, jn_leT, jn_leF, jn_eqT, jn_eqF, jn_lt0, jn_ge0, jn_eq0T, jn_eq0F, jn_in, jn_cl, jc_of_149 hR, jn_div, jn_sub, m1, m2, jsh1, jn_or, jsh5l, a3]
  refine md_isEven hR hr hc hv (B := 32 * (2 ^ (p / 5) ||| 2 ^ (q / 5)) + (2 ^ (p % 5) ||| 2 ^ (q % 5))) (by omega) ?_
  unfold jlie at k
  generalize jev (A 150) (F 149 0) (F 149 1) (32 * (2 ^ (p / 5) ||| 2 ^ (q / 5)) + (2 ^ (p % 5) ||| 2 ^ (q % 5))) = u at k ⊢
  cases u with
  | false =>
    simp (disch := omega) only [s174_31b0, s174_31b1, Option.some.injEq, exists_eq_left', exists_eq_left, List.cons_append, List.nil_append, List.length_nil, List.length_cons, Nat.reduceAdd, Nat.reduceMul, Nat.reduceSub, Nat.reduceLeDiff, true_and, and_true, ↓reduceIte, not_false_eq_true, not_true_eq_false, nI_add, pk_mul, jn_ltT, jn_ltF, jn_leT, jn_leF, jn_eqT, jn_eqF, jn_lt0, jn_ge0, jn_eq0T, jn_eq0F, jn_in, jn_cl, Bool.toNat_false]
    exact k
  | true =>
    simp (disch := omega) only [s174_31b0, s174_31b1, Option.some.injEq, exists_eq_left', exists_eq_left, List.cons_append, List.nil_append, List.length_nil, List.length_cons, Nat.reduceAdd, Nat.reduceMul, Nat.reduceSub, Nat.reduceLeDiff, true_and, and_true, ↓reduceIte, not_false_eq_true, not_true_eq_false, nI_add, pk_mul, jn_ltT, jn_ltF, jn_leT, jn_leF, jn_eqT, jn_eqF, jn_lt0, jn_ge0, jn_eq0T, jn_eq0F, jn_in, jn_cl, Bool.toNat_true]
    exact k
/-- the r-th choice of the number m -/
def jdig (C m r : Nat) : Nat := m / (C + 1) ^ r % (C + 1)
/-- the places that the number m chooses in the first r rows, and whether they fool -/
def jfl (v : Nat → Int32) (R C : Nat) (x : Int32) (m r : Nat) : List Nat × Bool := match r with
  | 0 => ([], true)
  | r + 1 => if jdig C m r = 0 then jfl v R C x m r else ((jfl v R C x m r).1 ++ [5 * r + (jdig C m r - 1)], ((jfl v R C x m r).2 && v (5 * r + (jdig C m r - 1)) == x) && (jfl v R C x m r).1.all fun p => !jlie v R C p (5 * r + (jdig C m r - 1)))
theorem jfl_s {v : Nat → Int32} {R C m r : Nat} {x : Int32} : jfl v R C x m (r + 1) = if jdig C m r = 0 then jfl v R C x m r else ((jfl v R C x m r).1 ++ [5 * r + (jdig C m r - 1)], ((jfl v R C x m r).2 && v (5 * r + (jdig C m r - 1)) == x) && (jfl v R C x m r).1.all fun p => !jlie v R C p (5 * r + (jdig C m r - 1))) := rfl
theorem jfl_lt {v : Nat → Int32} {R C m : Nat} {x : Int32} (hC : C ≤ 5) : ∀ r, r ≤ 5 → (jfl v R C x m r).1.length ≤ r ∧ ∀ p, p ∈ (jfl v R C x m r).1 → p < 25 := by
  intro r
  induction r with
  | zero => intro _; exact ⟨Nat.le_refl _, fun p hp => by cases hp⟩
  | succ r ih =>
    intro hr
    obtain ⟨i1, i2⟩ := ih (by omega)
    rw [jfl_s]
    by_cases w : jdig C m r = 0
    · rw [if_pos w]; exact ⟨by omega, i2⟩
    · rw [if_neg w]
      have hd : jdig C m r < C + 1 := Nat.mod_lt _ (by omega)
      refine ⟨by rw [List.length_append]; show _ + 1 ≤ _; omega, fun p hp => ?_⟩
      rcases List.mem_append.mp hp with z | z
      · exact i2 p z
      · rw [List.mem_singleton] at z; omega
/-- the most that fool, over the numbers below n -/
def jfm (v : Nat → Int32) (R C : Nat) (x : Int32) (n : Nat) : Nat := match n with
  | 0 => 0
  | n + 1 => if (jfl v R C x n R).2 = true ∧ jfm v R C x n < (jfl v R C x n R).1.length then (jfl v R C x n R).1.length else jfm v R C x n
theorem jfm_s {v : Nat → Int32} {R C n : Nat} {x : Int32} : jfm v R C x (n + 1) = if (jfl v R C x n R).2 = true ∧ jfm v R C x n < (jfl v R C x n R).1.length then (jfl v R C x n R).1.length else jfm v R C x n := rfl
theorem jfm_le {v : Nat → Int32} {R C : Nat} {x : Int32} (hR : R ≤ 5) (hC : C ≤ 5) : ∀ n, jfm v R C x n ≤ 5 := by
  intro n
  induction n with
  | zero => exact Nat.zero_le _
  | succ n ih =>
    rw [jfm_s]
    have := (jfl_lt (v := v) (R := R) (m := n) (x := x) hC R hR).1
    split <;> omega
theorem jpw6 : ∀ C, C ≤ 5 → ∀ r, r ≤ 5 → 1 ≤ (C + 1) ^ r ∧ (C + 1) ^ r ≤ 7776 := by decide +kernel
theorem md_fool_f (hR : jR F A G g h) {x : Int32} (hx : ¬ jbel x 2 = true) (k : ∀ h', jR (jup F 149 13 (F 149 13 + 1)) A G g h' → jD h h' → Q [.int (-1)] h') : jx_Go jxP (d + 1) 175 0 [.ref 149, .int x, jx_u, jx_u, jx_u, jx_u, jx_u, jx_u, jx_u, jx_u, jx_u] [] h Q := by
  have key : jx_Go jxP (d + 1) 175 9 [.ref 149, .int x, jx_u, jx_u, jx_u, jx_u, jx_u, jx_u, jx_u, jx_u, jx_u] [] h Q := by
    simp only [s175_9, s175_10, s175_11, Option.some.injEq, exists_eq_left', exists_eq_left, List.cons_append, List.nil_append, List.length_nil, List.length_cons, Nat.reduceAdd, Nat.reduceMul, Nat.reduceSub, Nat.reduceLeDiff, true_and, and_true, ↓reduceIte, not_false_eq_true, not_true_eq_false, nI_add, pk_mul, jn_ltT, jn_ltF, jn_leT, jn_leF, jn_eqT, jn_eqF, jn_lt0, jn_ge0, jn_eq0T, jn_eq0F, jn_in, jn_cl, jc_of_149 hR]
    exact md_finding hR (fun h' hR' hD' => by simp only [s175_14, Option.some.injEq, exists_eq_left', exists_eq_left, List.cons_append, List.nil_append, List.length_nil, List.length_cons, Nat.reduceAdd, Nat.reduceMul, Nat.reduceSub, Nat.reduceLeDiff, true_and, and_true, ↓reduceIte, not_false_eq_true, not_true_eq_false, nI_add, pk_mul, jn_ltT, jn_ltF, jn_leT, jn_leF, jn_eqT, jn_eqF, jn_lt0, jn_ge0, jn_eq0T, jn_eq0F, jn_in, jn_cl]; exact k h' hR' hD')
  simp only [s175_0, s175_1, Option.some.injEq, exists_eq_left', exists_eq_left, List.cons_append, List.nil_append, List.length_nil, List.length_cons, Nat.reduceAdd, Nat.reduceMul, Nat.reduceSub, Nat.reduceLeDiff, true_and, and_true, ↓reduceIte, not_false_eq_true, not_true_eq_false, nI_add, pk_mul, jn_ltT, jn_ltF, jn_leT, jn_leF, jn_eqT, jn_eqF, jn_lt0, jn_ge0, jn_eq0T, jn_eq0F, jn_in, jn_cl]
  rcases jbel_f hx with w | ⟨w, w2⟩
  · rw [if_pos w]; exact key
  · rw [if_neg w]
    simp only [s175_4, s175_5, s175_6, Option.some.injEq, exists_eq_left', exists_eq_left, List.cons_append, List.nil_append, List.length_nil, List.length_cons, Nat.reduceAdd, Nat.reduceMul, Nat.reduceSub, Nat.reduceLeDiff, true_and, and_true, ↓reduceIte, not_false_eq_true, not_true_eq_false, nI_add, pk_mul, jn_ltT, jn_ltF, jn_leT, jn_leF, jn_eqT, jn_eqF, jn_lt0, jn_ge0, jn_eq0T, jn_eq0F, jn_in, jn_cl]
    rw [if_neg (by rw [jle_bel (by omega)]; exact fun z => z w2)]
    exact key
end MD16
