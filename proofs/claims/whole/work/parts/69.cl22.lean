/-! ===== the class: likeness, columns ===== -/
section CL22
variable {d : Nat} {F : Nat → Nat → Nat} {A : Nat → Nat → Int32} {G : Nat → Option Nat} {g : Nat → Int64} {h : jxH} {Q : List Value → jxH → Prop}
/-- an order of those below n -/
def jPm (n : Nat) (t : Nat → Nat) : Prop := (∀ i, i < n → t i < n) ∧ ∀ i j, i < n → j < n → t i = t j → i = j
theorem li_findFree {a n C T : Nat} {f : Nat → Int32} {x : Int32} (e : jx_ai h a = some (n, f)) (hC : C ≤ n) (hn : n ≤ 5) (hT : T < 32) (k : Q [.int (nI (jlst (fun j => f j == x && !T.testBit j) C))] h) : jx_Go jxP d 26 0 [.ref a, .int (nI C), .int (nI T), .int x, jx_u] [] h Q := by
  obtain ⟨c1, c2, c3⟩ := jlst_le (p := fun j => f j == x && !T.testBit j) C
  simp (disch := omega) only [s26_0, s26_1, Option.some.injEq, exists_eq_left', exists_eq_left, List.cons_append, List.nil_append, List.length_nil, List.length_cons, Nat.reduceAdd, Nat.reduceMul, Nat.reduceSub, Nat.reduceLeDiff, true_and, and_true, ↓reduceIte, not_false_eq_true, not_true_eq_false, nI_add, pk_mul, jn_ltT, jn_ltF, jn_leT, jn_leF, jn_eqT, jn_eqF, jn_lt0, jn_ge0, jn_eq0T, jn_eq0F, jn_in, jn_cl]
  generalize jlst (fun j => f j == x && !T.testBit j) C = m at *
  refine jloop (fun j => jx_Go jxP d 26 3 [.ref a, .int (nI C), .int (nI T), .int x, .int (nI j)] [] h Q) m ?_ ?_ 0 (Nat.zero_le _)
  · rw [s26_3]
    rcases Nat.lt_or_ge m C with w | w
    · have cm := c2 w
      rw [Bool.and_eq_true, beq_iff_eq] at cm
      have tb : T.testBit m = false := by
        cases u : T.testBit m with
        | false => rfl
        | true => rw [u] at cm; cases cm.2
      simp (disch := omega) only [s26_5, s26_6, s26_9, s26_10, s26_12, s26_13, s26_14, s26_17, s26_18, s26_20, s26_21, s26_22, s26_23, Option.some.injEq, exists_eq_left', exists_eq_left, List.cons_append, List.nil_append, List.length_nil, List.length_cons, Nat.reduceAdd, Nat.reduceMul, Nat.reduceSub, Nat.reduceLeDiff, true_and, and_true, ↓reduceIte, not_false_eq_true, not_true_eq_false, nI_add, pk_mul, jn_ltT, jn_ltF, jn_leT, jn_leF, jn_eqT, jn_eqF, jn_lt0, jn_ge0, jn_eq0T, jn_eq0F, jn_in, jn_cl, e, cm.1, jsh_bit]
      rw [tb, if_neg (by decide)]
      simp (disch := omega) only [s26_24, s26_33, s26_35, Option.some.injEq, exists_eq_left', exists_eq_left, List.cons_append, List.nil_append, List.length_nil, List.length_cons, Nat.reduceAdd, Nat.reduceMul, Nat.reduceSub, Nat.reduceLeDiff, true_and, and_true, ↓reduceIte, not_false_eq_true, not_true_eq_false, nI_add, pk_mul, jn_ltT, jn_ltF, jn_leT, jn_leF, jn_eqT, jn_eqF, jn_lt0, jn_ge0, jn_eq0T, jn_eq0F, jn_in, jn_cl]
      exact k
    · simp (disch := omega) only [s26_5, s26_6, s26_33, s26_35, Option.some.injEq, exists_eq_left', exists_eq_left, List.cons_append, List.nil_append, List.length_nil, List.length_cons, Nat.reduceAdd, Nat.reduceMul, Nat.reduceSub, Nat.reduceLeDiff, true_and, and_true, ↓reduceIte, not_false_eq_true, not_true_eq_false, nI_add, pk_mul, jn_ltT, jn_ltF, jn_leT, jn_leF, jn_eqT, jn_eqF, jn_lt0, jn_ge0, jn_eq0T, jn_eq0F, jn_in, jn_cl]
      exact k
  · intro j hj ih
    have cj := c3 j hj
    rw [s26_3]
    by_cases w : f j = x
    · rw [w, beq_self_eq_true, Bool.true_and] at cj
      have tb : T.testBit j = true := by
        cases u : T.testBit j with
        | true => rfl
        | false => rw [u] at cj; cases cj
      simp (disch := omega) only [s26_5, s26_6, s26_9, s26_10, s26_12, s26_13, s26_14, s26_17, s26_18, s26_20, s26_21, s26_22, s26_23, Option.some.injEq, exists_eq_left', exists_eq_left, List.cons_append, List.nil_append, List.length_nil, List.length_cons, Nat.reduceAdd, Nat.reduceMul, Nat.reduceSub, Nat.reduceLeDiff, true_and, and_true, ↓reduceIte, not_false_eq_true, not_true_eq_false, nI_add, pk_mul, jn_ltT, jn_ltF, jn_leT, jn_leF, jn_eqT, jn_eqF, jn_lt0, jn_ge0, jn_eq0T, jn_eq0F, jn_in, jn_cl, e, w, jsh_bit]
      rw [tb, if_pos rfl]
      simp (disch := omega) only [s26_24, s26_27, s26_30, Option.some.injEq, exists_eq_left', exists_eq_left, List.cons_append, List.nil_append, List.length_nil, List.length_cons, Nat.reduceAdd, Nat.reduceMul, Nat.reduceSub, Nat.reduceLeDiff, true_and, and_true, ↓reduceIte, not_false_eq_true, not_true_eq_false, nI_add, pk_mul, jn_ltT, jn_ltF, jn_leT, jn_leF, jn_eqT, jn_eqF, jn_lt0, jn_ge0, jn_eq0T, jn_eq0F, jn_in, jn_cl]
      exact ih
    · simp (disch := omega) only [s26_5, s26_6, s26_9, s26_10, s26_12, s26_13, s26_14, s26_27, s26_30, Option.some.injEq, exists_eq_left', exists_eq_left, List.cons_append, List.nil_append, List.length_nil, List.length_cons, Nat.reduceAdd, Nat.reduceMul, Nat.reduceSub, Nat.reduceLeDiff, true_and, and_true, ↓reduceIte, not_false_eq_true, not_true_eq_false, nI_add, pk_mul, jn_ltT, jn_ltF, jn_leT, jn_leF, jn_eqT, jn_eqF, jn_lt0, jn_ge0, jn_eq0T, jn_eq0F, jn_in, jn_cl, e, w]
      exact ih
/-- both columns are the same ones -/
theorem li_haveSameColumns {a b C : Nat} {x y : Nat → Int32} (ea : jx_ai h a = some (5, x)) (eb : jx_ai h b = some (5, y)) (hC : C ≤ 5) {B : Bool} (hB : B = true ↔ ∃ t, jPm C t ∧ ∀ i, i < C → x i = y (t i)) (k : Q [.int (nI B.toNat)] h) : jx_Go jxP (d + 1) 25 0 [.ref a, .ref b, .int (nI C), jx_u, jx_u, jx_u] [] h Q := by
  simp (disch := omega) only [s25_0, s25_1, s25_2, s25_3, Option.some.injEq, exists_eq_left', exists_eq_left, List.cons_append, List.nil_append, List.length_nil, List.length_cons, Nat.reduceAdd, Nat.reduceMul, Nat.reduceSub, Nat.reduceLeDiff, true_and, and_true, ↓reduceIte, not_false_eq_true, not_true_eq_false, nI_add, pk_mul, jn_ltT, jn_ltF, jn_leT, jn_leF, jn_eqT, jn_eqF, jn_lt0, jn_ge0, jn_eq0T, jn_eq0F, jn_in, jn_cl]
  refine jloop (fun i => ∀ T w5, T < 32 → (∃ s : Nat → Nat, (∀ j, j < i → s j < C ∧ x j = y (s j)) ∧ (∀ j j', j < i → j' < i → s j = s j' → j = j') ∧ (∀ q, T.testBit q = true ↔ ∃ j, j < i ∧ s j = q) ∧ ((∃ t, jPm C t ∧ ∀ i, i < C → x i = y (t i)) → ∃ t, jPm C t ∧ (∀ i, i < C → x i = y (t i)) ∧ ∀ j, j < i → t j = s j)) → jx_Go jxP (d + 1) 25 5 [.ref a, .ref b, .int (nI C), .int (nI T), .int (nI i), w5] [] h Q) C ?_ ?_ 0 (Nat.zero_le _) 0 _ (by decide) ⟨fun _ => 0, fun j hj => by omega, fun j j' hj => by omega, fun q => ⟨fun w => (by rw [Nat.zero_testBit] at w; cases w), fun ⟨j, hj, _⟩ => (by omega)⟩, fun ⟨t, t1, t2⟩ => ⟨t, t1, t2, fun j hj => by omega⟩⟩
  · intro T w5 hT ⟨s, s1, s2, s3, s4⟩
    have : B = true := hB.mpr ⟨s, ⟨fun i hi => (s1 i hi).1, s2⟩, fun i hi => (s1 i hi).2⟩
    rw [this] at k
    rw [s25_5]
    simp (disch := omega) only [s25_7, s25_8, s25_44, s25_45b0, s25_45b1, Option.some.injEq, exists_eq_left', exists_eq_left, List.cons_append, List.nil_append, List.length_nil, List.length_cons, Nat.reduceAdd, Nat.reduceMul, Nat.reduceSub, Nat.reduceLeDiff, true_and, and_true, ↓reduceIte, not_false_eq_true, not_true_eq_false, nI_add, pk_mul, jn_ltT, jn_ltF, jn_leT, jn_leF, jn_eqT, jn_eqF, jn_lt0, jn_ge0, jn_eq0T, jn_eq0F, jn_in, jn_cl]
    exact k
  · intro i hi ih T w5 hT ⟨s, s1, s2, s3, s4⟩
    rw [s25_5]
    simp (disch := omega) only [s25_7, s25_8, s25_11, s25_12, s25_13, s25_14, s25_15, s25_17, s25_18, Option.some.injEq, exists_eq_left', exists_eq_left, List.cons_append, List.nil_append, List.length_nil, List.length_cons, Nat.reduceAdd, Nat.reduceMul, Nat.reduceSub, Nat.reduceLeDiff, true_and, and_true, ↓reduceIte, not_false_eq_true, not_true_eq_false, nI_add, pk_mul, jn_ltT, jn_ltF, jn_leT, jn_leF, jn_eqT, jn_eqF, jn_lt0, jn_ge0, jn_eq0T, jn_eq0F, jn_in, jn_cl, ea]
    refine li_findFree eb hC (Nat.le_refl _) hT ?_
    obtain ⟨c1, c2, c3⟩ := jlst_le (p := fun j => y j == x i && !T.testBit j) C
    generalize jlst (fun j => y j == x i && !T.testBit j) C = m at *
    rcases Nat.lt_or_ge m C with w | w
    · have cm := c2 w
      rw [Bool.and_eq_true, beq_iff_eq] at cm
      have tb : T.testBit m = false := by
        cases u : T.testBit m with
        | false => rfl
        | true => rw [u] at cm; cases cm.2
      have fresh : ∀ j, j < i → s j ≠ m := fun j hj e => by
        rw [(s3 m).mpr ⟨j, hj, e⟩] at tb; cases tb
      have pm : 2 ^ m < 32 := Nat.pow_lt_pow_right (by decide) (show m < 5 by omega)
      simp (disch := omega) only [s25_21, s25_23, s25_25, s25_26, s25_31, s25_32, s25_33, s25_35, s25_36, s25_37, s25_38, s25_41, Option.some.injEq, exists_eq_left', exists_eq_left, List.cons_append, List.nil_append, List.length_nil, List.length_cons, Nat.reduceAdd, Nat.reduceMul, Nat.reduceSub, Nat.reduceLeDiff, true_and, and_true, ↓reduceIte, not_false_eq_true, not_true_eq_false, nI_add, pk_mul, jn_ltT, jn_ltF, jn_leT, jn_leF, jn_eqT, jn_eqF, jn_lt0, jn_ge0, jn_eq0T, jn_eq0F, jn_in, jn_cl, jsh1, jn_or]
      refine ih _ _ (Nat.or_lt_two_pow (n := 5) hT pm) ⟨jcu s i m, fun j hj => ?_, fun j j' hj hj' e => ?_, fun q => ?_, fun ex => ?_⟩
      · by_cases z : j = i
        · rw [z, jcu_s]; exact ⟨w, cm.1.symm⟩
        · rw [jcu_n z]; exact s1 j (by omega)
      · by_cases z : j = i
        · by_cases z' : j' = i
          · omega
          · rw [z, jcu_s, jcu_n z'] at e
            exact absurd e.symm (fresh j' (by omega))
        · by_cases z' : j' = i
          · rw [z', jcu_s, jcu_n z] at e
            exact absurd e (fresh j (by omega))
          · rw [jcu_n z, jcu_n z'] at e
            exact s2 j j' (by omega) (by omega) e
      · rw [Nat.testBit_or, Bool.or_eq_true, s3, Nat.testBit_two_pow, decide_eq_true_iff]
        constructor
        · rintro (⟨j, j1, j2⟩ | e)
          · exact ⟨j, by omega, by rw [jcu_n (by omega)]; exact j2⟩
          · exact ⟨i, by omega, by rw [jcu_s]; exact e⟩
        · rintro ⟨j, j1, j2⟩
          by_cases z : j = i
          · rw [z, jcu_s] at j2; exact Or.inr j2
          · rw [jcu_n z] at j2; exact Or.inl ⟨j, by omega, j2⟩
      · obtain ⟨t, ⟨t1, t2⟩, t3, t4⟩ := s4 ex
        -- m and t i change places
        refine ⟨fun j => if j = i then m else if t j = m then t i else t j, ⟨fun j hj => ?_, fun j j' hj hj' e => ?_⟩, fun j hj => ?_, fun j hj => ?_⟩
        · dsimp only
          split
          · exact w
          · split
            · exact t1 i hi
            · exact t1 j hj
        · dsimp only at e
          by_cases z : j = i
          · by_cases z' : j' = i
            · omega
            · rw [if_pos z, if_neg z'] at e
              by_cases y : t j' = m
              · rw [if_pos y] at e
                have := t2 j' i hj' hi (by rw [y]; exact e)
                omega
              · rw [if_neg y] at e
                exact absurd e.symm y
          · by_cases z' : j' = i
            · rw [if_neg z, if_pos z'] at e
              by_cases y : t j = m
              · rw [if_pos y] at e
                have := t2 j i hj hi (by rw [y]; exact e.symm)
                omega
              · rw [if_neg y] at e
                exact absurd e y
            · rw [if_neg z, if_neg z'] at e
              by_cases y : t j = m
              · by_cases y' : t j' = m
                · exact t2 j j' hj hj' (by rw [y, y'])
                · rw [if_pos y, if_neg y'] at e
                  have := t2 i j' hi hj' e
                  omega
              · by_cases y' : t j' = m
                · rw [if_neg y, if_pos y'] at e
                  have := t2 j i hj hi e
                  omega
                · rw [if_neg y, if_neg y'] at e
                  exact t2 j j' hj hj' e
        · dsimp only
          by_cases z : j = i
          · rw [if_pos z, z]; exact cm.1.symm
          · rw [if_neg z]
            by_cases y' : t j = m
            · rw [if_pos y', t3 j hj, y', cm.1]; exact t3 i hi
            · rw [if_neg y']; exact t3 j hj
        · dsimp only
          by_cases z : j = i
          · rw [if_pos z, z, jcu_s]
          · rw [if_neg z, jcu_n z]
            have e := t4 j (by omega)
            rw [if_neg (by rw [e]; exact fresh j (by omega))]
            exact e
    · have : B = false := by
        apply Bool.eq_false_iff.mpr
        intro bt
        obtain ⟨t, ⟨t1, t2⟩, t3, t4⟩ := s4 (hB.mp bt)
        have c := c3 (t i) (by have := t1 i hi; omega)
        rw [← t3 i hi, beq_self_eq_true, Bool.true_and] at c
        have tb : T.testBit (t i) = true := by
          cases u : T.testBit (t i) with
          | true => rfl
          | false => rw [u] at c; cases c
        obtain ⟨j, j1, j2⟩ := (s3 _).mp tb
        rw [← t4 j j1] at j2
        have := t2 j i (by omega) hi j2
        omega
      rw [this] at k
      simp (disch := omega) only [s25_21, s25_23, s25_25, s25_26, s25_29, s25_30b0, s25_30b1, Option.some.injEq, exists_eq_left', exists_eq_left, List.cons_append, List.nil_append, List.length_nil, List.length_cons, Nat.reduceAdd, Nat.reduceMul, Nat.reduceSub, Nat.reduceLeDiff, true_and, and_true, ↓reduceIte, not_false_eq_true, not_true_eq_false, nI_add, pk_mul, jn_ltT, jn_ltF, jn_leT, jn_leF, jn_eqT, jn_eqF, jn_lt0, jn_ge0, jn_eq0T, jn_eq0F, jn_in, jn_cl]
      exact k
/-- a column, cut below the first i rows, as a number -/
def jkv (w : Nat → Nat → Nat) (i c : Nat) : Nat := match i with
  | 0 => 0
  | i + 1 => 3 * jkv w i c + w i c
theorem jkv_s {w : Nat → Nat → Nat} {i c : Nat} : jkv w (i + 1) c = 3 * jkv w i c + w i c := rfl
theorem jkv_lt {w : Nat → Nat → Nat} {c : Nat} : ∀ i, (∀ r, r < i → w r c ≤ 2) → jkv w i c < 3 ^ i := by
  intro i
  induction i with
  | zero => intro _; exact Nat.one_pos
  | succ i ih =>
    intro hw
    rw [jkv_s, Nat.pow_succ]
    have := ih (fun r hr => hw r (by omega))
    have := hw i (by omega)
    omega
theorem jkv_inj {w w' : Nat → Nat → Nat} {c c' : Nat} : ∀ i, (∀ r, r < i → w r c ≤ 2) → (∀ r, r < i → w' r c' ≤ 2) → jkv w i c = jkv w' i c' → ∀ r, r < i → w r c = w' r c' := by
  intro i
  induction i with
  | zero => intro _ _ _ r hr; omega
  | succ i ih =>
    intro hw hw' e r hr
    rw [jkv_s, jkv_s] at e
    have a := hw i (by omega)
    have b := hw' i (by omega)
    rcases (show r < i ∨ r = i by omega) with z | z
    · exact ih (fun r hr => hw r (by omega)) (fun r hr => hw' r (by omega)) (by omega) r z
    · subst z; omega
theorem jkv_congr {w w' : Nat → Nat → Nat} {c c' : Nat} : ∀ i, (∀ r, r < i → w r c = w' r c') → jkv w i c = jkv w' i c' := by
  intro i
  induction i with
  | zero => intro _; rfl
  | succ i ih =>
    intro e
    rw [jkv_s, jkv_s, ih (fun r hr => e r (by omega)), e i (by omega)]
theorem jcutr : ∀ i, i < 6 → jln (104 + i) = some 5 ∧ jln (111 + i) = some 5 := by decide +kernel
/-- a row of a task is added to the cuts -/
theorem li_addRow (hR : jR F A G g h) {cb bs : Nat} (hcb : (cb = 103 ∧ bs = 104) ∨ (cb = 110 ∧ bs = 111)) {o p w R C D r : Nat} {f wv : Nat → Int32} (t : jTk h o p w R C f wv) (hop : (o = 2 ∧ p = 3) ∨ (182 ≤ o ∧ 182 ≤ p)) (hC : C ≤ 5) (hD : D < 5) (hr : r < 5) {N V : Nat → Nat} (hN : ∀ c, c < C → A (bs + D) c = nI (N c)) (hV : ∀ c, c < C → f (5 * r + c) = nI (V c)) (k : ∀ h' f', (∀ c, c < C → f' c = nI (3 * N c + V c)) → jR F (jua A (bs + D + 1) f') G g h' → jD h h' → Q [] h') : jx_Go jxP d 24 0 [.ref cb, .int (nI D), .ref o, .int (nI r), jx_u] [] h Q := by
  have l0 : jln (bs + D) = some 5 := by
    rcases hcb with ⟨_, e⟩ | ⟨_, e⟩ <;> subst e
    · exact (jcutr D (by omega)).1
    · exact (jcutr D (by omega)).2
  have l1 : jln (bs + D + 1) = some 5 := by
    rcases hcb with ⟨_, e⟩ | ⟨_, e⟩ <;> subst e
    · exact (jcutr (D + 1) (by omega)).1
    · exact (jcutr (D + 1) (by omega)).2
  have bsb : bs = 104 ∨ bs = 111 := by omega
  obtain ⟨rr, ar, r0⟩ : ∃ r', jx_ar h cb 4 = some (6, r') ∧ ∀ i, i < 6 → r' i = some (bs + i) := by
    rcases hcb with ⟨e1, e2⟩ | ⟨e1, e2⟩ <;> subst e1 <;> subst e2
    · obtain ⟨r', a1, a2⟩ := hR.2.2.1 103 4 _ _ rfl
      exact ⟨r', a1, fun i hi => by rw [a2 i hi, if_pos hi]⟩
    · obtain ⟨r', a1, a2⟩ := hR.2.2.1 110 4 _ _ rfl
      exact ⟨r', a1, fun i hi => by rw [a2 i hi, if_pos hi]⟩
  have r1 := r0 D (by omega)
  have r2 := r0 (D + 1) (by omega)
  have ai0 := hR.2.1 _ _ l0
  have ai1 := hR.2.1 _ _ l1
  obtain ⟨t1, t2, t3, t4, t5, t6, t7⟩ := t
  have n1 : o ≠ bs + D + 1 := by omega
  have n2 : p ≠ bs + D + 1 := by omega
  have n3 : cb ≠ bs + D + 1 := by omega
  have n4 : bs + D ≠ bs + D + 1 := by omega
  simp (disch := omega) only [s24_0, s24_1, Option.some.injEq, exists_eq_left', exists_eq_left, List.cons_append, List.nil_append, List.length_nil, List.length_cons, Nat.reduceAdd, Nat.reduceMul, Nat.reduceSub, Nat.reduceLeDiff, true_and, and_true, ↓reduceIte, not_false_eq_true, not_true_eq_false, nI_add, pk_mul, jn_ltT, jn_ltF, jn_leT, jn_leF, jn_eqT, jn_eqF, jn_lt0, jn_ge0, jn_eq0T, jn_eq0F, jn_in, jn_cl]
  refine jloop (fun c => ∀ f', (∀ c', c' < c → f' c' = nI (3 * N c' + V c')) → jx_Go jxP d 24 3 [.ref cb, .int (nI D), .ref o, .int (nI r), .int (nI c)] [] (jx_wi h (bs + D + 1) 5 f') Q) C ?_ ?_ 0 (Nat.zero_le _) (A (bs + D + 1)) (fun c' hc' => by omega) |> fun z => by rw [jh_wi_id ai1] at z; exact z
  · intro f' hf'
    rw [s24_3]
    simp (disch := first | assumption | omega) only [s24_5, s24_6, s24_9, s24_46, Option.some.injEq, exists_eq_left', exists_eq_left, List.cons_append, List.nil_append, List.length_nil, List.length_cons, Nat.reduceAdd, Nat.reduceMul, Nat.reduceSub, Nat.reduceLeDiff, true_and, and_true, ↓reduceIte, not_false_eq_true, not_true_eq_false, nI_add, pk_mul, jn_ltT, jn_ltF, jn_leT, jn_leF, jn_eqT, jn_eqF, jn_lt0, jn_ge0, jn_eq0T, jn_eq0F, jn_in, jn_cl, jh_ai_wi, jh_ai_wi_ne, jh_ai_uf, jh_fl_wi_ne, jh_fl_uf_ne, jh_fl_uf_o, jh_cl_wi_ne, jh_cl_uf, jh_al_wi_ne, jh_al_uf, jh_al_wl, jh_al_wl_ne, jh_ai_wl_ne, jh_fl_wl_ne, jh_cl_wl_ne, jh_ar_wi_ne, jh_ar_uf, jh_ar_wl_ne, jh_1_wi, jh_1_uf, jh_1_wl, t3]
    exact k _ f' hf' (hR.wi l1) (jD.rf.wi (by omega))
  · intro c hc ih f' hf'
    have hn := hN c hc
    have hv := hV c hc
    rw [s24_3]
    simp (disch := first | assumption | omega) only [s24_5, s24_6, s24_9, s24_12, s24_13, s24_14, s24_15, s24_16, s24_17, s24_19, s24_20, s24_21, s24_22, s24_23, s24_25, s24_26, s24_27, s24_28, s24_31, s24_32, s24_33, s24_34, s24_36, s24_37, s24_38, s24_39, s24_40, s24_43, Option.some.injEq, exists_eq_left', exists_eq_left, List.cons_append, List.nil_append, List.length_nil, List.length_cons, Nat.reduceAdd, Nat.reduceMul, Nat.reduceSub, Nat.reduceLeDiff, true_and, and_true, ↓reduceIte, not_false_eq_true, not_true_eq_false, nI_add, pk_mul, jn_ltT, jn_ltF, jn_leT, jn_leF, jn_eqT, jn_eqF, jn_lt0, jn_ge0, jn_eq0T, jn_eq0F, jn_in, jn_cl, jh_ai_wi, jh_ai_wi_ne, jh_ai_uf, jh_fl_wi_ne, jh_fl_uf_ne, jh_fl_uf_o, jh_cl_wi_ne, jh_cl_uf, jh_al_wi_ne, jh_al_uf, jh_al_wl, jh_al_wl_ne, jh_ai_wl_ne, jh_fl_wl_ne, jh_cl_wl_ne, jh_ar_wi_ne, jh_ar_uf, jh_ar_wl_ne, jh_1_wi, jh_1_uf, jh_1_wl, t3, t4, t6, ar, jx_rv, r1, r2, ai0, hn, hv, jh_wi_wi, Nat.add_assoc]
    rw [← Nat.add_assoc]
    refine ih _ (fun c' hc' => ?_)
    rcases (show c' < c ∨ c' = c by omega) with z | z
    · rw [jupd_ne (by omega)]; exact hf' c' z
    · subst z; rw [jupd_same]
end CL22
