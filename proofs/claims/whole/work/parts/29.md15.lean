/-! ===== the reference: classes of lines ===== -/
section MD15
variable {d : Nat} {F : Nat → Nat → Nat} {A : Nat → Nat → Int32} {G : Nat → Option Nat} {g : Nat → Int64} {h : jxH} {Q : List Value → jxH → Prop}
def jix (b l k : Nat) : Nat := if b = 0 then 5 * l + k else 5 * k + l
/-- how many lines, and how long they are -/
def jN (R C b : Nat) : Nat := if b = 0 then R else C
def jM (R C b : Nat) : Nat := if b = 0 then C else R
/-- two lines quarrel -/
def jqr (v : Nat → Int32) (R C b l m : Nat) : Bool := jany (jM R C b) fun k => (v (jix b l k) == nI 0 && v (jix b m k) == nI 1) || (v (jix b l k) == nI 1 && v (jix b m k) == nI 0)
theorem jV_at {v : Nat → Int32} {R C b l k : Nat} (hv : jV v R C) (hl : l < jN R C b) (hk : k < jM R C b) : v (jix b l k) = nI 0 ∨ v (jix b l k) = nI 1 ∨ v (jix b l k) = nI 2 := by
  unfold jN at hl
  unfold jM at hk
  unfold jix
  by_cases w : b = 0
  · rw [if_pos w] at *; exact hv l k hl hk
  · rw [if_neg w] at *; exact hv k l hk hl
theorem jb_or (a b : Bool) : nI a.toNat ||| nI b.toNat = nI (a || b).toNat := by cases a <;> cases b <;> decide
theorem md_quarrel (hR : jR F A G g h) (hr : F 149 0 ≤ 5) (hc : F 149 1 ≤ 5) (hv : jV (A 150) (F 149 0) (F 149 1)) {b l m : Nat} (hb : b ≤ 1) (hl : l < jN (F 149 0) (F 149 1) b) (hm : m < jN (F 149 0) (F 149 1) b) (k : Q [.int (nI (jqr (A 150) (F 149 0) (F 149 1) b l m).toNat)] h) : jx_Go jxP (d + 1) 169 0 [.ref 149, .int (nI b), .int (nI l), .int (nI m), jx_u, jx_u] [] h Q := by
  have hl5 : l < 5 := by unfold jN at hl; split at hl <;> omega
  have hm5 : m < 5 := by unfold jN at hm; split at hm <;> omega
  have hM5 : jM (F 149 0) (F 149 1) b ≤ 5 := by unfold jM; split <;> omega
  have at' : ∀ (d : Nat) (Q : List Value → jxH → Prop) (l k : Nat), l < 5 → k < 5 → (jx_Go jxP d 146 0 [.ref 149, .int (nI b), .int (nI l), .int (nI k)] [] h Q ↔ Q [.int (A 150 (jix b l k))] h) := fun d Q l k h1 h2 => md_at hR hb h1 h2
  have hd : ∀ (k : Nat) (w4 : Value), jx_Go jxP (d + 1) 169 6 [.ref 149, .int (nI b), .int (nI l), .int (nI m), w4, .int (nI k)] [] h Q ↔ jx_Go jxP (d + 1) 169 23 [.ref 149, .int (nI b), .int (nI l), .int (nI m), w4, .int (nI k)] [.int (nI (jM (F 149 0) (F 149 1) b)), .int (nI k)] h Q := by
    intro k w4
    rw [s169_6]
    unfold jM
    by_cases w : b = 0
    · rw [if_pos w]
      simp (disch := omega) only [s169_8, s169_9, s169_12, s169_13, s169_16, s169_19, s169_20, Option.some.injEq, exists_eq_left', exists_eq_left, List.cons_append, List.nil_append, List.length_nil, List.length_cons, Nat.reduceAdd, Nat.reduceMul, Nat.reduceSub, Nat.reduceLeDiff, true_and, and_true, ↓reduceIte, not_false_eq_true, not_true_eq_false, nI_add, pk_mul, jn_ltT, jn_ltF, jn_leT, jn_leF, jn_eqT, jn_eqF, jn_lt0, jn_ge0, jn_eq0T, jn_eq0F, jn_in, jn_cl, jf_149_1 hR]
    · rw [if_neg w]
      simp (disch := omega) only [s169_8, s169_9, s169_12, s169_13, s169_16, s169_19, s169_20, Option.some.injEq, exists_eq_left', exists_eq_left, List.cons_append, List.nil_append, List.length_nil, List.length_cons, Nat.reduceAdd, Nat.reduceMul, Nat.reduceSub, Nat.reduceLeDiff, true_and, and_true, ↓reduceIte, not_false_eq_true, not_true_eq_false, nI_add, pk_mul, jn_ltT, jn_ltF, jn_leT, jn_leF, jn_eqT, jn_eqF, jn_lt0, jn_ge0, jn_eq0T, jn_eq0F, jn_in, jn_cl, jf_149_0 hR]
  simp (disch := omega) only [s169_0, s169_1, s169_3, s169_4, Option.some.injEq, exists_eq_left', exists_eq_left, List.cons_append, List.nil_append, List.length_nil, List.length_cons, Nat.reduceAdd, Nat.reduceMul, Nat.reduceSub, Nat.reduceLeDiff, true_and, and_true, ↓reduceIte, not_false_eq_true, not_true_eq_false, nI_add, pk_mul, jn_ltT, jn_ltF, jn_leT, jn_leF, jn_eqT, jn_eqF, jn_lt0, jn_ge0, jn_eq0T, jn_eq0F, jn_in, jn_cl]
  refine jloop (fun i => jx_Go jxP (d + 1) 169 6 [.ref 149, .int (nI b), .int (nI l), .int (nI m), .int (nI (jany i fun k => (A 150 (jix b l k) == nI 0 && A 150 (jix b m k) == nI 1) || (A 150 (jix b l k) == nI 1 && A 150 (jix b m k) == nI 0)).toNat), .int (nI i)] [] h Q) (jM (F 149 0) (F 149 1) b) ?_ ?_ 0 (Nat.zero_le _)
  · rw [hd]
    simp (disch := omega) only [s169_23, s169_87, Option.some.injEq, exists_eq_left', exists_eq_left, List.cons_append, List.nil_append, List.length_nil, List.length_cons, Nat.reduceAdd, Nat.reduceMul, Nat.reduceSub, Nat.reduceLeDiff, true_and, and_true, ↓reduceIte, not_false_eq_true, not_true_eq_false, nI_add, pk_mul, jn_ltT, jn_ltF, jn_leT, jn_leF, jn_eqT, jn_eqF, jn_lt0, jn_ge0, jn_eq0T, jn_eq0F, jn_in, jn_cl]
    unfold jqr at k
    generalize (jany (jM (F 149 0) (F 149 1) b) fun k => (A 150 (jix b l k) == nI 0 && A 150 (jix b m k) == nI 1) || (A 150 (jix b l k) == nI 1 && A 150 (jix b m k) == nI 0)) = u at k ⊢
    cases u with
    | false =>
      simp (disch := omega) only [s169_89b0, s169_89b1, Option.some.injEq, exists_eq_left', exists_eq_left, List.cons_append, List.nil_append, List.length_nil, List.length_cons, Nat.reduceAdd, Nat.reduceMul, Nat.reduceSub, Nat.reduceLeDiff, true_and, and_true, ↓reduceIte, not_false_eq_true, not_true_eq_false, nI_add, pk_mul, jn_ltT, jn_ltF, jn_leT, jn_leF, jn_eqT, jn_eqF, jn_lt0, jn_ge0, jn_eq0T, jn_eq0F, jn_in, jn_cl, Bool.toNat_false]
      exact k
    | true =>
      simp (disch := omega) only [s169_89b0, s169_89b1, Option.some.injEq, exists_eq_left', exists_eq_left, List.cons_append, List.nil_append, List.length_nil, List.length_cons, Nat.reduceAdd, Nat.reduceMul, Nat.reduceSub, Nat.reduceLeDiff, true_and, and_true, ↓reduceIte, not_false_eq_true, not_true_eq_false, nI_add, pk_mul, jn_ltT, jn_ltF, jn_leT, jn_leF, jn_eqT, jn_eqF, jn_lt0, jn_ge0, jn_eq0T, jn_eq0F, jn_in, jn_cl, Bool.toNat_true]
      exact k
  · intro i hi ih
    rw [hd]
    rw [jany_s] at ih
    generalize (jany i fun k => (A 150 (jix b l k) == nI 0 && A 150 (jix b m k) == nI 1) || (A 150 (jix b l k) == nI 1 && A 150 (jix b m k) == nI 0)) = a at ih ⊢
    have k78 : ∀ u : Bool, u = ((A 150 (jix b l i) == nI 0 && A 150 (jix b m i) == nI 1) || (A 150 (jix b l i) == nI 1 && A 150 (jix b m i) == nI 0)) → jx_Go jxP (d + 1) 169 78 [.ref 149, .int (nI b), .int (nI l), .int (nI m), .int (nI a.toNat), .int (nI i)] [.int (nI u.toNat), .int (nI a.toNat)] h Q := by
      rintro u rfl
      simp (disch := omega) only [s169_78, s169_79, s169_81, s169_84, Option.some.injEq, exists_eq_left', exists_eq_left, List.cons_append, List.nil_append, List.length_nil, List.length_cons, Nat.reduceAdd, Nat.reduceMul, Nat.reduceSub, Nat.reduceLeDiff, true_and, and_true, ↓reduceIte, not_false_eq_true, not_true_eq_false, nI_add, pk_mul, jn_ltT, jn_ltF, jn_leT, jn_leF, jn_eqT, jn_eqF, jn_lt0, jn_ge0, jn_eq0T, jn_eq0F, jn_in, jn_cl, jb_or]
      exact ih
    simp (disch := omega) only [s169_23, s169_26, s169_28, s169_29, s169_30, s169_31, s169_33, s169_36, s169_37, s169_38, s169_39, s169_41, Option.some.injEq, exists_eq_left', exists_eq_left, List.cons_append, List.nil_append, List.length_nil, List.length_cons, Nat.reduceAdd, Nat.reduceMul, Nat.reduceSub, Nat.reduceLeDiff, true_and, and_true, ↓reduceIte, not_false_eq_true, not_true_eq_false, nI_add, pk_mul, jn_ltT, jn_ltF, jn_leT, jn_leF, jn_eqT, jn_eqF, jn_lt0, jn_ge0, jn_eq0T, jn_eq0F, jn_in, jn_cl, jc_of_149 hR, at']
    have fa := fun (e : false = ((A 150 (jix b l i) == nI 0 && A 150 (jix b m i) == nI 1) || (A 150 (jix b l i) == nI 1 && A 150 (jix b m i) == nI 0))) => k78 false e
    have tr := fun (e : true = ((A 150 (jix b l i) == nI 0 && A 150 (jix b m i) == nI 1) || (A 150 (jix b l i) == nI 1 && A 150 (jix b m i) == nI 0))) => k78 true e
    rcases jV_at hv hl hi with w | w | w <;> rcases jV_at hv hm hi with w' | w' | w'
    · simp (disch := omega) only [s169_44, s169_45, s169_46, s169_49, s169_50, s169_51, s169_52, s169_54, s169_57, s169_58, s169_61, s169_62, s169_63, s169_64, s169_66, s169_69, s169_70, s169_73, s169_74, s169_77, Option.some.injEq, exists_eq_left', exists_eq_left, List.cons_append, List.nil_append, List.length_nil, List.length_cons, Nat.reduceAdd, Nat.reduceMul, Nat.reduceSub, Nat.reduceLeDiff, true_and, and_true, ↓reduceIte, not_false_eq_true, not_true_eq_false, nI_add, pk_mul, jn_ltT, jn_ltF, jn_leT, jn_leF, jn_eqT, jn_eqF, jn_lt0, jn_ge0, jn_eq0T, jn_eq0F, jn_in, jn_cl, jc_of_149 hR, at', w, w']
      exact fa (by rw [w, w']; decide)
    · simp (disch := omega) only [s169_44, s169_45, s169_46, s169_49, s169_50, s169_51, s169_52, s169_54, s169_57, s169_58, s169_61, s169_62, s169_63, s169_64, s169_66, s169_69, s169_70, s169_73, s169_74, s169_77, Option.some.injEq, exists_eq_left', exists_eq_left, List.cons_append, List.nil_append, List.length_nil, List.length_cons, Nat.reduceAdd, Nat.reduceMul, Nat.reduceSub, Nat.reduceLeDiff, true_and, and_true, ↓reduceIte, not_false_eq_true, not_true_eq_false, nI_add, pk_mul, jn_ltT, jn_ltF, jn_leT, jn_leF, jn_eqT, jn_eqF, jn_lt0, jn_ge0, jn_eq0T, jn_eq0F, jn_in, jn_cl, jc_of_149 hR, at', w, w']
      exact tr (by rw [w, w']; decide)
    · simp (disch := omega) only [s169_44, s169_45, s169_46, s169_49, s169_50, s169_51, s169_52, s169_54, s169_57, s169_58, s169_61, s169_62, s169_63, s169_64, s169_66, s169_69, s169_70, s169_73, s169_74, s169_77, Option.some.injEq, exists_eq_left', exists_eq_left, List.cons_append, List.nil_append, List.length_nil, List.length_cons, Nat.reduceAdd, Nat.reduceMul, Nat.reduceSub, Nat.reduceLeDiff, true_and, and_true, ↓reduceIte, not_false_eq_true, not_true_eq_false, nI_add, pk_mul, jn_ltT, jn_ltF, jn_leT, jn_leF, jn_eqT, jn_eqF, jn_lt0, jn_ge0, jn_eq0T, jn_eq0F, jn_in, jn_cl, jc_of_149 hR, at', w, w']
      exact fa (by rw [w, w']; decide)
    · simp (disch := omega) only [s169_44, s169_45, s169_46, s169_49, s169_50, s169_51, s169_52, s169_54, s169_57, s169_58, s169_61, s169_62, s169_63, s169_64, s169_66, s169_69, s169_70, s169_73, s169_74, s169_77, Option.some.injEq, exists_eq_left', exists_eq_left, List.cons_append, List.nil_append, List.length_nil, List.length_cons, Nat.reduceAdd, Nat.reduceMul, Nat.reduceSub, Nat.reduceLeDiff, true_and, and_true, ↓reduceIte, not_false_eq_true, not_true_eq_false, nI_add, pk_mul, jn_ltT, jn_ltF, jn_leT, jn_leF, jn_eqT, jn_eqF, jn_lt0, jn_ge0, jn_eq0T, jn_eq0F, jn_in, jn_cl, jc_of_149 hR, at', w, w']
      exact tr (by rw [w, w']; decide)
    · simp (disch := omega) only [s169_44, s169_45, s169_46, s169_49, s169_50, s169_51, s169_52, s169_54, s169_57, s169_58, s169_61, s169_62, s169_63, s169_64, s169_66, s169_69, s169_70, s169_73, s169_74, s169_77, Option.some.injEq, exists_eq_left', exists_eq_left, List.cons_append, List.nil_append, List.length_nil, List.length_cons, Nat.reduceAdd, Nat.reduceMul, Nat.reduceSub, Nat.reduceLeDiff, true_and, and_true, ↓reduceIte, not_false_eq_true, not_true_eq_false, nI_add, pk_mul, jn_ltT, jn_ltF, jn_leT, jn_leF, jn_eqT, jn_eqF, jn_lt0, jn_ge0, jn_eq0T, jn_eq0F, jn_in, jn_cl, jc_of_149 hR, at', w, w']
      exact fa (by rw [w, w']; decide)
    · simp (disch := omega) only [s169_44, s169_45, s169_46, s169_49, s169_50, s169_51, s169_52, s169_54, s169_57, s169_58, s169_61, s169_62, s169_63, s169_64, s169_66, s169_69, s169_70, s169_73, s169_74, s169_77, Option.some.injEq, exists_eq_left', exists_eq_left, List.cons_append, List.nil_append, List.length_nil, List.length_cons, Nat.reduceAdd, Nat.reduceMul, Nat.reduceSub, Nat.reduceLeDiff, true_and, and_true, ↓reduceIte, not_false_eq_true, not_true_eq_false, nI_add, pk_mul, jn_ltT, jn_ltF, jn_leT, jn_leF, jn_eqT, jn_eqF, jn_lt0, jn_ge0, jn_eq0T, jn_eq0F, jn_in, jn_cl, jc_of_149 hR, at', w, w']
      exact fa (by rw [w, w']; decide)
    · simp (disch := omega) only [s169_44, s169_45, s169_46, s169_49, s169_50, s169_51, s169_52, s169_54, s169_57, s169_58, s169_61, s169_62, s169_63, s169_64, s169_66, s169_69, s169_70, s169_73, s169_74, s169_77, Option.some.injEq, exists_eq_left', exists_eq_left, List.cons_append, List.nil_append, List.length_nil, List.length_cons, Nat.reduceAdd, Nat.reduceMul, Nat.reduceSub, Nat.reduceLeDiff, true_and, and_true, ↓reduceIte, not_false_eq_true, not_true_eq_false, nI_add, pk_mul, jn_ltT, jn_ltF, jn_leT, jn_leF, jn_eqT, jn_eqF, jn_lt0, jn_ge0, jn_eq0T, jn_eq0F, jn_in, jn_cl, jc_of_149 hR, at', w, w']
      exact fa (by rw [w, w']; decide)
    · simp (disch := omega) only [s169_44, s169_45, s169_46, s169_49, s169_50, s169_51, s169_52, s169_54, s169_57, s169_58, s169_61, s169_62, s169_63, s169_64, s169_66, s169_69, s169_70, s169_73, s169_74, s169_77, Option.some.injEq, exists_eq_left', exists_eq_left, List.cons_append, List.nil_append, List.length_nil, List.length_cons, Nat.reduceAdd, Nat.reduceMul, Nat.reduceSub, Nat.reduceLeDiff, true_and, and_true, ↓reduceIte, not_false_eq_true, not_true_eq_false, nI_add, pk_mul, jn_ltT, jn_ltF, jn_leT, jn_leF, jn_eqT, jn_eqF, jn_lt0, jn_ge0, jn_eq0T, jn_eq0F, jn_in, jn_cl, jc_of_149 hR, at', w, w']
      exact fa (by rw [w, w']; decide)
    · simp (disch := omega) only [s169_44, s169_45, s169_46, s169_49, s169_50, s169_51, s169_52, s169_54, s169_57, s169_58, s169_61, s169_62, s169_63, s169_64, s169_66, s169_69, s169_70, s169_73, s169_74, s169_77, Option.some.injEq, exists_eq_left', exists_eq_left, List.cons_append, List.nil_append, List.length_nil, List.length_cons, Nat.reduceAdd, Nat.reduceMul, Nat.reduceSub, Nat.reduceLeDiff, true_and, and_true, ↓reduceIte, not_false_eq_true, not_true_eq_false, nI_add, pk_mul, jn_ltT, jn_ltF, jn_leT, jn_leF, jn_eqT, jn_eqF, jn_lt0, jn_ge0, jn_eq0T, jn_eq0F, jn_in, jn_cl, jc_of_149 hR, at', w, w']
      exact fa (by rw [w, w']; decide)
/-- no two lines of s quarrel -/
def jpc (v : Nat → Int32) (R C b s : Nat) : Bool := jall (jN R C b) fun i => jall i fun j => !(s.testBit i && (s.testBit j && jqr v R C b i j))
/-- the fewest classes of x, over the sets below n -/
def jfws (T : Nat → Nat) (p : Nat → Bool) (x n : Nat) : Nat := match n with
  | 0 => 100
  | n + 1 => if 1 ≤ n ∧ n &&& x = n ∧ p n = true then min (1 + T (x ^^^ n)) (jfws T p x n) else jfws T p x n
theorem jfws_s {T : Nat → Nat} {p : Nat → Bool} {x n : Nat} : jfws T p x (n + 1) = if 1 ≤ n ∧ n &&& x = n ∧ p n = true then min (1 + T (x ^^^ n)) (jfws T p x n) else jfws T p x n := rfl
theorem jsub_lt : ∀ x, x < 32 → ∀ s, s < 32 → 1 ≤ s → s &&& x = s → x ^^^ s < x := by decide +kernel
theorem jfws_le {T : Nat → Nat} {p : Nat → Bool} {x : Nat} : ∀ n, jfws T p x n ≤ 100 := by
  intro n
  induction n with
  | zero => exact Nat.le_refl _
  | succ n ih =>
    rw [jfws_s]
    split
    · exact Nat.le_trans (Nat.min_le_right _ _) ih
    · exact ih
theorem jfws_congr {T T' : Nat → Nat} {p : Nat → Bool} {x : Nat} (hx : x < 32) (e : ∀ y, y < x → T y = T' y) : ∀ n, n ≤ 32 → jfws T p x n = jfws T' p x n := by
  intro n
  induction n with
  | zero => intro _; rfl
  | succ n ih =>
    intro hn
    rw [jfws_s, jfws_s, ih (by omega)]
    by_cases w : 1 ≤ n ∧ n &&& x = n ∧ p n = true
    · rw [if_pos w, if_pos w, e _ (jsub_lt x hx n (by omega) w.1 w.2.1)]
    · rw [if_neg w, if_neg w]
def jfwn (p : Nat → Bool) (n : Nat) : Nat → Nat := match n with
  | 0 => fun _ => 0
  | n + 1 => fun x => if x = 0 then 0 else jfws (jfwn p n) p x (x + 1)
theorem jfwn_s {p : Nat → Bool} {n x : Nat} : jfwn p (n + 1) x = if x = 0 then 0 else jfws (jfwn p n) p x (x + 1) := rfl
theorem jfwn_st {p : Nat → Bool} : ∀ x, x < 32 → ∀ n m, x < n → x < m → jfwn p n x = jfwn p m x := by
  intro x
  induction x using Nat.strongRecOn with
  | _ x ih =>
    intro hx n m hn hm
    obtain ⟨n, rfl⟩ : ∃ n', n = n' + 1 := ⟨n - 1, by omega⟩
    obtain ⟨m, rfl⟩ : ∃ n', m = n' + 1 := ⟨m - 1, by omega⟩
    rw [jfwn_s, jfwn_s, jfws_congr (T := jfwn p n) (T' := jfwn p m) hx (fun y h' => ih y h' (by omega) n m (by omega) (by omega)) (x + 1) (by omega)]
/-- the fewest classes of x -/
def jfw (p : Nat → Bool) (x : Nat) : Nat := jfwn p 32 x
theorem jfw_eq {p : Nat → Bool} {x : Nat} (hx : x < 32) : jfw p x = if x = 0 then 0 else jfws (jfw p) p x (x + 1) := by
  unfold jfw
  rw [show (32 : Nat) = 31 + 1 from rfl, jfwn_s, jfws_congr (T := jfwn p 31) (T' := jfwn p (31 + 1)) (by omega) (fun y h' => jfwn_st y (by omega) _ _ (by omega) (by omega)) (x + 1) (by omega)]
theorem jfw_le {p : Nat → Bool} {x : Nat} (hx : x < 32) : jfw p x ≤ 100 := by
  rw [jfw_eq hx]
  split
  · omega
  · exact jfws_le _
def jcl0 (v : Nat → Int32) (R C b : Nat) : Nat := jfw (jpc v R C b) (2 ^ jN R C b - 1)
theorem jandn : ∀ x, x < 32 → ∀ s, s < 32 → s &&& x = s → nI x &&& (nI s ^^^ -1) = nI (x ^^^ s) := by decide +kernel
theorem md_classes (hR : jR F A G g h) (hr : F 149 0 ≤ 5) (hc : F 149 1 ≤ 5) (hv : jV (A 150) (F 149 0) (F 149 1)) {b : Nat} (hb : b ≤ 1) (kk : ∀ h' f, jR F (jua A 170 f) G g h' → jD h h' → Q [.int (nI (jcl0 (A 150) (F 149 0) (F 149 1) b))] h') : jx_Go jxP (d + 2) 170 0 [.ref 149, .int (nI b), jx_u, jx_u, jx_u, jx_u, jx_u, jx_u] [] h Q := by
  have hN5 : jN (F 149 0) (F 149 1) b ≤ 5 := by unfold jN; split <;> omega
  have p2 := jp2 _ hN5
  have k15 : jx_Go jxP (d + 2) 170 15 [.ref 149, .int (nI b), jx_u, jx_u, jx_u, jx_u, jx_u, jx_u] [.int (nI (jN (F 149 0) (F 149 1) b))] h Q := by
    have hR1 : jR F (jua A 170 (upd (A 170) 0 (nI 0))) G g (jx_wi h 170 32 (upd (A 170) 0 (nI 0))) := hR.wi rfl
    have hD1 : jD h (jx_wi h 170 32 (upd (A 170) 0 (nI 0))) := jD.rf.wi (by decide)
    simp (disch := omega) only [s170_15, s170_16, s170_17, s170_20, s170_21, s170_22, s170_23, s170_24, Option.some.injEq, exists_eq_left', exists_eq_left, List.cons_append, List.nil_append, List.length_nil, List.length_cons, Nat.reduceAdd, Nat.reduceMul, Nat.reduceSub, Nat.reduceLeDiff, true_and, and_true, ↓reduceIte, not_false_eq_true, not_true_eq_false, nI_add, pk_mul, jn_ltT, jn_ltF, jn_leT, jn_leF, jn_eqT, jn_eqF, jn_lt0, jn_ge0, jn_eq0T, jn_eq0F, jn_in, jn_cl, jh_ai_wi, jh_ai_wi_ne, jh_ai_uf, jh_fl_wi_ne, jh_fl_uf_ne, jh_fl_uf_o, jh_cl_wi_ne, jh_cl_uf, jh_al_wi_ne, jh_al_uf, jh_al_wl, jh_al_wl_ne, jh_ai_wl_ne, jh_fl_wl_ne, jh_cl_wl_ne, jh_ar_wi_ne, jh_ar_uf, jh_ar_wl_ne, jh_1_wi, jh_1_uf, jh_1_wl, jf_149_26 hR, ja_170 hR]
    generalize jx_wi h 170 32 (upd (A 170) 0 (nI 0)) = h1 at hR1 hD1 ⊢
    unfold jcl0 at kk
    have hq : ∀ i j, i < jN (F 149 0) (F 149 1) b → j < i → ∀ h1 f, jR F (jua A 170 f) G g h1 → ∀ (Q : List Value → jxH → Prop), Q [.int (nI (jqr (A 150) (F 149 0) (F 149 1) b i j).toNat)] h1 → jx_Go jxP (d + 1) 169 0 [.ref 149, .int (nI b), .int (nI i), .int (nI j), jx_u, jx_u] [] h1 Q := by
      intro i j hi hj h1 f hR1 Q hQ
      have e : jua A 170 f 150 = A 150 := jua_ne (by decide)
      refine md_quarrel hR1 hr hc (by rw [e]; exact hv) hb hi (by omega) ?_
      rw [e]
      exact hQ
    generalize hN : jN (F 149 0) (F 149 1) b = N at *
    have hp : ∀ s, jpc (A 150) (F 149 0) (F 149 1) b s = jall N fun i => jall i fun j => !(s.testBit i && (s.testBit j && jqr (A 150) (F 149 0) (F 149 1) b i j)) := fun s => by unfold jpc; rw [hN]
    generalize jpc (A 150) (F 149 0) (F 149 1) b = P at *
    refine jloop (fun x => 1 ≤ x → ∀ w4 w5 w6 w7 h1 f, jR F (jua A 170 f) G g h1 → jD h h1 → (∀ y, y < x → f y = nI (jfw P y)) → jx_Go jxP (d + 2) 170 25 [.ref 149, .int (nI b), .int (nI N), .int (nI x), w4, w5, w6, w7] [] h1 Q) (2 ^ N) ?_ ?_ 1 (by omega) (by omega) _ _ _ _ h1 _ hR1 hD1 (fun y hy => by rw [show y = 0 by omega, jupd_same]; rfl)
    · intro _ w4 w5 w6 w7 h1 f hR1 hD1 hI
      rw [s170_25]
      have e : jua A 170 f 170 = f := jua_same
      simp (disch := omega) only [s170_26, s170_27, s170_28, s170_29, s170_205, s170_206, s170_209, s170_210, s170_211, s170_212, s170_213, s170_214, s170_215, Option.some.injEq, exists_eq_left', exists_eq_left, List.cons_append, List.nil_append, List.length_nil, List.length_cons, Nat.reduceAdd, Nat.reduceMul, Nat.reduceSub, Nat.reduceLeDiff, true_and, and_true, ↓reduceIte, not_false_eq_true, not_true_eq_false, nI_add, pk_mul, jn_ltT, jn_ltF, jn_leT, jn_leF, jn_eqT, jn_eqF, jn_lt0, jn_ge0, jn_eq0T, jn_eq0F, jn_in, jn_cl, jf_149_26 hR1, ja_170 hR1, jsh1, jn_sub, e, hI (2 ^ N - 1) (by omega)]
      exact kk h1 f hR1 hD1
    · intro x hx ih h1x w4 w5 w6 w7 h1 f hR1 hD1 hI
      rw [s170_25]
      have e : jua A 170 f 170 = f := jua_same
      simp (disch := omega) only [s170_26, s170_27, s170_28, s170_29, s170_32, s170_33, s170_36, s170_37, s170_39, s170_40, s170_41, Option.some.injEq, exists_eq_left', exists_eq_left, List.cons_append, List.nil_append, List.length_nil, List.length_cons, Nat.reduceAdd, Nat.reduceMul, Nat.reduceSub, Nat.reduceLeDiff, true_and, and_true, ↓reduceIte, not_false_eq_true, not_true_eq_false, nI_add, pk_mul, jn_ltT, jn_ltF, jn_leT, jn_leF, jn_eqT, jn_eqF, jn_lt0, jn_ge0, jn_eq0T, jn_eq0F, jn_in, jn_cl, jh_ai_wi, jh_ai_wi_ne, jh_ai_uf, jh_fl_wi_ne, jh_fl_uf_ne, jh_fl_uf_o, jh_cl_wi_ne, jh_cl_uf, jh_al_wi_ne, jh_al_uf, jh_al_wl, jh_al_wl_ne, jh_ai_wl_ne, jh_fl_wl_ne, jh_cl_wl_ne, jh_ar_wi_ne, jh_ar_uf, jh_ar_wl_ne, jh_1_wi, jh_1_uf, jh_1_wl, jf_149_26 hR1, ja_170 hR1, jsh1, e]
      have hR2 : jR F (jua A 170 (upd f x (nI 100))) G g (jx_wi h1 170 32 (upd f x (nI 100))) := by
        have := hR1.wi (a := 170) (f := upd f x (nI 100)) rfl
        rw [jua_jua] at this
        exact this
      have hD2 : jD h (jx_wi h1 170 32 (upd f x (nI 100))) := hD1.wi (by decide)
      generalize jx_wi h1 170 32 (upd f x (nI 100)) = h2 at hR2 hD2 ⊢
      refine jloop (fun s => 1 ≤ s → ∀ w5 w6 w7 h3 f3, jR F (jua A 170 f3) G g h3 → jD h h3 → (∀ y, y < x → f3 y = nI (jfw P y)) → f3 x = nI (jfws (jfw P) P x s) → jx_Go jxP (d + 2) 170 43 [.ref 149, .int (nI b), .int (nI N), .int (nI x), .int (nI s), w5, w6, w7] [] h3 Q) (x + 1) ?_ ?_ 1 (by omega) (by omega) _ _ _ h2 _ hR2 hD2 (fun y hy => by rw [jupd_ne (by omega)]; exact hI y hy) (by rw [jupd_same]; rfl)
      · intro _ w5 w6 w7 h3 f3 hR3 hD3 hI3 e3
        rw [s170_43]
        simp (disch := omega) only [s170_45, s170_46, s170_199, s170_202, Option.some.injEq, exists_eq_left', exists_eq_left, List.cons_append, List.nil_append, List.length_nil, List.length_cons, Nat.reduceAdd, Nat.reduceMul, Nat.reduceSub, Nat.reduceLeDiff, true_and, and_true, ↓reduceIte, not_false_eq_true, not_true_eq_false, nI_add, pk_mul, jn_ltT, jn_ltF, jn_leT, jn_leF, jn_eqT, jn_eqF, jn_lt0, jn_ge0, jn_eq0T, jn_eq0F, jn_in, jn_cl]
        refine ih (by omega) _ _ _ _ h3 f3 hR3 hD3 (fun y hy => ?_)
        by_cases w : y = x
        · rw [w, e3, jfw_eq (by omega), if_neg (by omega)]
        · exact hI3 y (by omega)
      · intro s hs ih2 h1s w5 w6 w7 h3 f3 hR3 hD3 hI3 e3
        have s32 : s < 32 := by omega
        have x32 : x < 32 := by omega
        have e' : jua A 170 f3 170 = f3 := jua_same
        rw [s170_43]
        have k138 : ∀ w6 w7, jx_Go jxP (d + 2) 170 138 [.ref 149, .int (nI b), .int (nI N), .int (nI x), .int (nI s), .int (nI (decide (s &&& x = s) && P s).toNat), w6, w7] [] h3 Q := by
          intro w6 w7
          have b1 := jfws_le (T := jfw P) (p := P) (x := x) s
          have stp : ∀ u, u = jfws (jfw P) P x (s + 1) → jx_Go jxP (d + 2) 170 43 [.ref 149, .int (nI b), .int (nI N), .int (nI x), .int (nI (s + 1)), .int (nI (decide (s &&& x = s) && P s).toNat), w6, w7] [] (jx_wi h3 170 32 (upd f3 x (nI u))) Q := by
            rintro u rfl
            have hR4 : jR F (jua A 170 (upd f3 x (nI (jfws (jfw P) P x (s + 1))))) G g (jx_wi h3 170 32 (upd f3 x (nI (jfws (jfw P) P x (s + 1))))) := by
              have := hR3.wi (a := 170) (f := upd f3 x (nI (jfws (jfw P) P x (s + 1)))) rfl
              rw [jua_jua] at this
              exact this
            exact ih2 (by omega) _ _ _ _ _ hR4 (hD3.wi (by decide)) (fun y hy => by rw [jupd_ne (by omega)]; exact hI3 y hy) jupd_same
          by_cases w : s &&& x = s ∧ P s = true
          · have sub := jsub_lt x x32 s s32 h1s w.1
            have b2 := jfw_le (p := P) (x := x ^^^ s) (by omega)
            have e4 := hI3 (x ^^^ s) sub
            rw [decide_eq_true w.1, w.2] at stp ⊢
            by_cases z : jfws (jfw P) P x s ≤ 1 + jfw P (x ^^^ s)
            · simp (disch := omega) only [s170_138, s170_139, s170_142, s170_143, s170_145, s170_148, s170_149, s170_150, s170_153, s170_154, s170_156, s170_157, s170_158, s170_159, s170_160, s170_161, s170_162, s170_165, s170_166, s170_167, s170_170, s170_171, s170_172, s170_175, s170_176, s170_178, s170_179, s170_180, s170_181, s170_182, s170_183, s170_186, s170_187, s170_190, s170_191, s170_192, s170_193, s170_196, Option.some.injEq, exists_eq_left', exists_eq_left, List.cons_append, List.nil_append, List.length_nil, List.length_cons, Nat.reduceAdd, Nat.reduceMul, Nat.reduceSub, Nat.reduceLeDiff, true_and, and_true, ↓reduceIte, not_false_eq_true, not_true_eq_false, nI_add, pk_mul, jn_ltT, jn_ltF, jn_leT, jn_leF, jn_eqT, jn_eqF, jn_lt0, jn_ge0, jn_eq0T, jn_eq0F, jn_in, jn_cl, jh_ai_wi, jh_ai_wi_ne, jh_ai_uf, jh_fl_wi_ne, jh_fl_uf_ne, jh_fl_uf_o, jh_cl_wi_ne, jh_cl_uf, jh_al_wi_ne, jh_al_uf, jh_al_wl, jh_al_wl_ne, jh_ai_wl_ne, jh_fl_wl_ne, jh_cl_wl_ne, jh_ar_wi_ne, jh_ar_uf, jh_ar_wl_ne, jh_1_wi, jh_1_uf, jh_1_wl, jf_149_26 hR3, ja_170 hR3, e', jandn _ x32 _ s32 w.1, e4, e3, Bool.and_self, Bool.toNat_true] at stp ⊢
              exact stp _ (by rw [jfws_s, if_pos ⟨h1s, w.1, w.2⟩, Nat.min_eq_right z])
            · simp (disch := omega) only [s170_138, s170_139, s170_142, s170_143, s170_145, s170_148, s170_149, s170_150, s170_153, s170_154, s170_156, s170_157, s170_158, s170_159, s170_160, s170_161, s170_162, s170_165, s170_166, s170_167, s170_170, s170_171, s170_172, s170_175, s170_176, s170_178, s170_179, s170_180, s170_181, s170_182, s170_183, s170_186, s170_187, s170_190, s170_191, s170_192, s170_193, s170_196, Option.some.injEq, exists_eq_left', exists_eq_left, List.cons_append, List.nil_append, List.length_nil, List.length_cons, Nat.reduceAdd, Nat.reduceMul, Nat.reduceSub, Nat.reduceLeDiff, true_and, and_true, ↓reduceIte, not_false_eq_true, not_true_eq_false, nI_add, pk_mul, jn_ltT, jn_ltF, jn_leT, jn_leF, jn_eqT, jn_eqF, jn_lt0, jn_ge0, jn_eq0T, jn_eq0F, jn_in, jn_cl, jh_ai_wi, jh_ai_wi_ne, jh_ai_uf, jh_fl_wi_ne, jh_fl_uf_ne, jh_fl_uf_o, jh_cl_wi_ne, jh_cl_uf, jh_al_wi_ne, jh_al_uf, jh_al_wl, jh_al_wl_ne, jh_ai_wl_ne, jh_fl_wl_ne, jh_cl_wl_ne, jh_ar_wi_ne, jh_ar_uf, jh_ar_wl_ne, jh_1_wi, jh_1_uf, jh_1_wl, jf_149_26 hR3, ja_170 hR3, e', jandn _ x32 _ s32 w.1, e4, e3, Bool.and_self, Bool.toNat_true] at stp ⊢
              exact stp _ (by rw [jfws_s, if_pos ⟨h1s, w.1, w.2⟩, Nat.min_eq_left (by omega)])
          · have ef : (decide (s &&& x = s) && P s) = false := by
              rw [Bool.eq_false_iff, Ne, Bool.and_eq_true, decide_eq_true_iff]
              exact w
            rw [ef] at stp ⊢
            simp (disch := omega) only [s170_138, s170_139, s170_142, s170_143, s170_145, s170_186, s170_187, s170_190, s170_191, s170_192, s170_193, s170_196, Option.some.injEq, exists_eq_left', exists_eq_left, List.cons_append, List.nil_append, List.length_nil, List.length_cons, Nat.reduceAdd, Nat.reduceMul, Nat.reduceSub, Nat.reduceLeDiff, true_and, and_true, ↓reduceIte, not_false_eq_true, not_true_eq_false, nI_add, pk_mul, jn_ltT, jn_ltF, jn_leT, jn_leF, jn_eqT, jn_eqF, jn_lt0, jn_ge0, jn_eq0T, jn_eq0F, jn_in, jn_cl, jh_ai_wi, jh_ai_wi_ne, jh_ai_uf, jh_fl_wi_ne, jh_fl_uf_ne, jh_fl_uf_o, jh_cl_wi_ne, jh_cl_uf, jh_al_wi_ne, jh_al_uf, jh_al_wl, jh_al_wl_ne, jh_ai_wl_ne, jh_fl_wl_ne, jh_cl_wl_ne, jh_ar_wi_ne, jh_ar_uf, jh_ar_wl_ne, jh_1_wi, jh_1_uf, jh_1_wl, jf_149_26 hR3, ja_170 hR3, e', e3, Bool.toNat_false] at stp ⊢
            exact stp _ (by rw [jfws_s, if_neg (fun z => w z.2)])
        have k63 : jx_Go jxP (d + 2) 170 63 [.ref 149, .int (nI b), .int (nI N), .int (nI x), .int (nI s), w5, w6, w7] [.int (nI (decide (s &&& x = s)).toNat)] h3 Q := by
          rw [hp s] at k138
          generalize decide (s &&& x = s) = D at k138 ⊢
          simp (disch := omega) only [s170_63, s170_65, s170_66, Option.some.injEq, exists_eq_left', exists_eq_left, List.cons_append, List.nil_append, List.length_nil, List.length_cons, Nat.reduceAdd, Nat.reduceMul, Nat.reduceSub, Nat.reduceLeDiff, true_and, and_true, ↓reduceIte, not_false_eq_true, not_true_eq_false, nI_add, pk_mul, jn_ltT, jn_ltF, jn_leT, jn_leF, jn_eqT, jn_eqF, jn_lt0, jn_ge0, jn_eq0T, jn_eq0F, jn_in, jn_cl]
          refine jloop (fun i => ∀ w7, jx_Go jxP (d + 2) 170 68 [.ref 149, .int (nI b), .int (nI N), .int (nI x), .int (nI s), .int (nI (D && jall i fun i => jall i fun j => !(s.testBit i && (s.testBit j && jqr (A 150) (F 149 0) (F 149 1) b i j))).toNat), .int (nI i), w7] [] h3 Q) N ?_ ?_ 0 (Nat.zero_le _) |> fun z => by
            have := z w7
            simp only [jall, Bool.and_true] at this
            exact this
          · intro w7
            rw [s170_68]
            simp (disch := omega) only [s170_70, s170_71, Option.some.injEq, exists_eq_left', exists_eq_left, List.cons_append, List.nil_append, List.length_nil, List.length_cons, Nat.reduceAdd, Nat.reduceMul, Nat.reduceSub, Nat.reduceLeDiff, true_and, and_true, ↓reduceIte, not_false_eq_true, not_true_eq_false, nI_add, pk_mul, jn_ltT, jn_ltF, jn_leT, jn_leF, jn_eqT, jn_eqF, jn_lt0, jn_ge0, jn_eq0T, jn_eq0F, jn_in, jn_cl]
            exact k138 _ _
          · intro i hi ih3 w7
            rw [s170_68]
            simp (disch := omega) only [s170_70, s170_71, s170_74, s170_75, Option.some.injEq, exists_eq_left', exists_eq_left, List.cons_append, List.nil_append, List.length_nil, List.length_cons, Nat.reduceAdd, Nat.reduceMul, Nat.reduceSub, Nat.reduceLeDiff, true_and, and_true, ↓reduceIte, not_false_eq_true, not_true_eq_false, nI_add, pk_mul, jn_ltT, jn_ltF, jn_leT, jn_leF, jn_eqT, jn_eqF, jn_lt0, jn_ge0, jn_eq0T, jn_eq0F, jn_in, jn_cl]
            refine jloop (fun j => jx_Go jxP (d + 2) 170 77 [.ref 149, .int (nI b), .int (nI N), .int (nI x), .int (nI s), .int (nI ((D && jall i fun i => jall i fun j => !(s.testBit i && (s.testBit j && jqr (A 150) (F 149 0) (F 149 1) b i j))) && jall j fun j => !(s.testBit i && (s.testBit j && jqr (A 150) (F 149 0) (F 149 1) b i j))).toNat), .int (nI i), .int (nI j)] [] h3 Q) i ?_ ?_ 0 (Nat.zero_le _) |> fun z => by
              simp only [jall, Bool.and_true] at z
              exact z
            · rw [s170_77]
              simp (disch := omega) only [s170_79, s170_81, s170_132, s170_135, Option.some.injEq, exists_eq_left', exists_eq_left, List.cons_append, List.nil_append, List.length_nil, List.length_cons, Nat.reduceAdd, Nat.reduceMul, Nat.reduceSub, Nat.reduceLeDiff, true_and, and_true, ↓reduceIte, not_false_eq_true, not_true_eq_false, nI_add, pk_mul, jn_ltT, jn_ltF, jn_leT, jn_leF, jn_eqT, jn_eqF, jn_lt0, jn_ge0, jn_eq0T, jn_eq0F, jn_in, jn_cl]
              have := ih3 (.int (nI i))
              rw [jall_s, ← Bool.and_assoc] at this
              exact this
            · intro j hj ih4
              rw [jall_s, ← Bool.and_assoc] at ih4
              generalize ((D && jall i fun i => jall i fun j => !(s.testBit i && (s.testBit j && jqr (A 150) (F 149 0) (F 149 1) b i j))) && jall j fun j => !(s.testBit i && (s.testBit j && jqr (A 150) (F 149 0) (F 149 1) b i j))) = a at ih4 ⊢
              have k123 : ∀ u : Bool, u = !(s.testBit i && (s.testBit j && jqr (A 150) (F 149 0) (F 149 1) b i j)) → jx_Go jxP (d + 2) 170 123 [.ref 149, .int (nI b), .int (nI N), .int (nI x), .int (nI s), .int (nI a.toNat), .int (nI i), .int (nI j)] [.int (nI u.toNat), .int (nI a.toNat)] h3 Q := by
                rintro u rfl
                simp (disch := omega) only [s170_123, s170_124, s170_126, s170_129, Option.some.injEq, exists_eq_left', exists_eq_left, List.cons_append, List.nil_append, List.length_nil, List.length_cons, Nat.reduceAdd, Nat.reduceMul, Nat.reduceSub, Nat.reduceLeDiff, true_and, and_true, ↓reduceIte, not_false_eq_true, not_true_eq_false, nI_add, pk_mul, jn_ltT, jn_ltF, jn_leT, jn_leF, jn_eqT, jn_eqF, jn_lt0, jn_ge0, jn_eq0T, jn_eq0F, jn_in, jn_cl, jb_and]
                exact ih4
              rw [s170_77]
              simp (disch := omega) only [s170_79, s170_81, s170_84, s170_86, s170_88, s170_90, Option.some.injEq, exists_eq_left', exists_eq_left, List.cons_append, List.nil_append, List.length_nil, List.length_cons, Nat.reduceAdd, Nat.reduceMul, Nat.reduceSub, Nat.reduceLeDiff, true_and, and_true, ↓reduceIte, not_false_eq_true, not_true_eq_false, nI_add, pk_mul, jn_ltT, jn_ltF, jn_leT, jn_leF, jn_eqT, jn_eqF, jn_lt0, jn_ge0, jn_eq0T, jn_eq0F, jn_in, jn_cl, md_in]
              cases e1 : s.testBit i with
              | false =>
                rw [e1] at k123
                simp (disch := omega) only [s170_93, s170_118, s170_119, Option.some.injEq, exists_eq_left', exists_eq_left, List.cons_append, List.nil_append, List.length_nil, List.length_cons, Nat.reduceAdd, Nat.reduceMul, Nat.reduceSub, Nat.reduceLeDiff, true_and, and_true, ↓reduceIte, not_false_eq_true, not_true_eq_false, nI_add, pk_mul, jn_ltT, jn_ltF, jn_leT, jn_leF, jn_eqT, jn_eqF, jn_lt0, jn_ge0, jn_eq0T, jn_eq0F, jn_in, jn_cl, Bool.false_eq_true]
                exact k123 true rfl
              | true =>
                simp (disch := omega) only [s170_93, s170_96, s170_98, s170_100, Option.some.injEq, exists_eq_left', exists_eq_left, List.cons_append, List.nil_append, List.length_nil, List.length_cons, Nat.reduceAdd, Nat.reduceMul, Nat.reduceSub, Nat.reduceLeDiff, true_and, and_true, ↓reduceIte, not_false_eq_true, not_true_eq_false, nI_add, pk_mul, jn_ltT, jn_ltF, jn_leT, jn_leF, jn_eqT, jn_eqF, jn_lt0, jn_ge0, jn_eq0T, jn_eq0F, jn_in, jn_cl, md_in]
                cases e2 : s.testBit j with
                | false =>
                  rw [e1, e2] at k123
                  simp (disch := omega) only [s170_103, s170_118, s170_119, Option.some.injEq, exists_eq_left', exists_eq_left, List.cons_append, List.nil_append, List.length_nil, List.length_cons, Nat.reduceAdd, Nat.reduceMul, Nat.reduceSub, Nat.reduceLeDiff, true_and, and_true, ↓reduceIte, not_false_eq_true, not_true_eq_false, nI_add, pk_mul, jn_ltT, jn_ltF, jn_leT, jn_leF, jn_eqT, jn_eqF, jn_lt0, jn_ge0, jn_eq0T, jn_eq0F, jn_in, jn_cl, Bool.false_eq_true]
                  exact k123 true rfl
                | true =>
                  rw [e1, e2] at k123
                  simp (disch := omega) only [s170_103, s170_106, s170_107, s170_108, s170_110, s170_112, Option.some.injEq, exists_eq_left', exists_eq_left, List.cons_append, List.nil_append, List.length_nil, List.length_cons, Nat.reduceAdd, Nat.reduceMul, Nat.reduceSub, Nat.reduceLeDiff, true_and, and_true, ↓reduceIte, not_false_eq_true, not_true_eq_false, nI_add, pk_mul, jn_ltT, jn_ltF, jn_leT, jn_leF, jn_eqT, jn_eqF, jn_lt0, jn_ge0, jn_eq0T, jn_eq0F, jn_in, jn_cl, jc_of_149 hR3]
                  refine hq i j hi hj h3 f3 hR3 _ ?_
                  cases e3' : jqr (A 150) (F 149 0) (F 149 1) b i j with
                  | false =>
                    rw [e3'] at k123
                    simp (disch := omega) only [s170_115, s170_118, s170_119, Option.some.injEq, exists_eq_left', exists_eq_left, List.cons_append, List.nil_append, List.length_nil, List.length_cons, Nat.reduceAdd, Nat.reduceMul, Nat.reduceSub, Nat.reduceLeDiff, true_and, and_true, ↓reduceIte, not_false_eq_true, not_true_eq_false, nI_add, pk_mul, jn_ltT, jn_ltF, jn_leT, jn_leF, jn_eqT, jn_eqF, jn_lt0, jn_ge0, jn_eq0T, jn_eq0F, jn_in, jn_cl, Bool.toNat_false]
                    exact k123 true rfl
                  | true =>
                    rw [e3'] at k123
                    simp (disch := omega) only [s170_115, s170_118, s170_119, s170_122, Option.some.injEq, exists_eq_left', exists_eq_left, List.cons_append, List.nil_append, List.length_nil, List.length_cons, Nat.reduceAdd, Nat.reduceMul, Nat.reduceSub, Nat.reduceLeDiff, true_and, and_true, ↓reduceIte, not_false_eq_true, not_true_eq_false, nI_add, pk_mul, jn_ltT, jn_ltF, jn_leT, jn_leF, jn_eqT, jn_eqF, jn_lt0, jn_ge0, jn_eq0T, jn_eq0F, jn_in, jn_cl, Bool.toNat_true]
                    exact k123 false rfl
        simp (disch := omega) only [s170_45, s170_46, s170_49, s170_51, s170_52, s170_53, s170_54, s170_55, Option.some.injEq, exists_eq_left', exists_eq_left, List.cons_append, List.nil_append, List.length_nil, List.length_cons, Nat.reduceAdd, Nat.reduceMul, Nat.reduceSub, Nat.reduceLeDiff, true_and, and_true, ↓reduceIte, not_false_eq_true, not_true_eq_false, nI_add, pk_mul, jn_ltT, jn_ltF, jn_leT, jn_leF, jn_eqT, jn_eqF, jn_lt0, jn_ge0, jn_eq0T, jn_eq0F, jn_in, jn_cl]
        by_cases w : s &&& x = s
        · rw [decide_eq_true w] at k63
          rw [if_pos ((jpt1 x x32 s s32).mpr w)]
          simp (disch := omega) only [s170_58, s170_59, Option.some.injEq, exists_eq_left', exists_eq_left, List.cons_append, List.nil_append, List.length_nil, List.length_cons, Nat.reduceAdd, Nat.reduceMul, Nat.reduceSub, Nat.reduceLeDiff, true_and, and_true, ↓reduceIte, not_false_eq_true, not_true_eq_false, nI_add, pk_mul, jn_ltT, jn_ltF, jn_leT, jn_leF, jn_eqT, jn_eqF, jn_lt0, jn_ge0, jn_eq0T, jn_eq0F, jn_in, jn_cl]
          exact k63
        · rw [decide_eq_false w] at k63
          rw [if_neg (fun z => w ((jpt1 x x32 s s32).mp z))]
          simp (disch := omega) only [s170_62, Option.some.injEq, exists_eq_left', exists_eq_left, List.cons_append, List.nil_append, List.length_nil, List.length_cons, Nat.reduceAdd, Nat.reduceMul, Nat.reduceSub, Nat.reduceLeDiff, true_and, and_true, ↓reduceIte, not_false_eq_true, not_true_eq_false, nI_add, pk_mul, jn_ltT, jn_ltF, jn_leT, jn_leF, jn_eqT, jn_eqF, jn_lt0, jn_ge0, jn_eq0T, jn_eq0F, jn_in, jn_cl]
          exact k63
  unfold jN at k15
  by_cases w : b = 0
  · rw [if_pos w] at k15
    simp (disch := omega) only [s170_0, s170_1, s170_4, s170_5, s170_8, s170_11, s170_12, Option.some.injEq, exists_eq_left', exists_eq_left, List.cons_append, List.nil_append, List.length_nil, List.length_cons, Nat.reduceAdd, Nat.reduceMul, Nat.reduceSub, Nat.reduceLeDiff, true_and, and_true, ↓reduceIte, not_false_eq_true, not_true_eq_false, nI_add, pk_mul, jn_ltT, jn_ltF, jn_leT, jn_leF, jn_eqT, jn_eqF, jn_lt0, jn_ge0, jn_eq0T, jn_eq0F, jn_in, jn_cl, jf_149_0 hR]
    exact k15
  · rw [if_neg w] at k15
    simp (disch := omega) only [s170_0, s170_1, s170_4, s170_5, s170_8, s170_11, s170_12, Option.some.injEq, exists_eq_left', exists_eq_left, List.cons_append, List.nil_append, List.length_nil, List.length_cons, Nat.reduceAdd, Nat.reduceMul, Nat.reduceSub, Nat.reduceLeDiff, true_and, and_true, ↓reduceIte, not_false_eq_true, not_true_eq_false, nI_add, pk_mul, jn_ltT, jn_ltF, jn_leT, jn_leF, jn_eqT, jn_eqF, jn_lt0, jn_ge0, jn_eq0T, jn_eq0F, jn_in, jn_cl, jf_149_1 hR]
    exact k15
end MD15
