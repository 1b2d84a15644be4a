/-! ===== the class: likeness ===== -/
section CL23
variable {d : Nat} {F : Nat → Nat → Nat} {A : Nat → Nat → Int32} {G : Nat → Option Nat} {g : Nat → Int64} {h : jxH} {Q : List Value → jxH → Prop}
theorem jTk.fr {h' : jxH} {o p w R C : Nat} {f v : Nat → Int32} (t : jTk h o p w R C f v) (hD : jD h h') (ho : 182 ≤ o) (hp : 182 ≤ p) (hw : 182 ≤ w) : jTk h' o p w R C f v := by
  have e := fun i (hi : 182 ≤ i) => hD.2.2 i (Or.inl hi)
  obtain ⟨t1, t2, t3, t4, t5, t6, t7⟩ := t
  refine ⟨?_, ?_, ?_, ?_, ?_, ?_, ?_⟩
  · unfold jx_cl at t1 ⊢; rw [e o ho]; exact t1
  · unfold jx_fl at t2 ⊢; rw [e o ho]; exact t2
  · unfold jx_fl at t3 ⊢; rw [e o ho]; exact t3
  · unfold jx_fl at t4 ⊢; rw [e o ho]; exact t4
  · unfold jx_fl at t5 ⊢; rw [e o ho]; exact t5
  · unfold jx_ai at t6 ⊢; rw [e p hp]; exact t6
  · unfold jx_ai at t7 ⊢; rw [e w hw]; exact t7
theorem jD_diff {h1 h2 : jxH} (a : jD h h1) (b : jD h h2) : jD h1 h2 := ⟨b.1.trans a.1.symm, b.2.1.trans a.2.1.symm, fun i hi => (b.2.2 i hi).trans (a.2.2 i hi).symm⟩
/-- the columns cut below i rows are the same ones, the other's rows in the order s -/
def jMc (V U : Nat → Nat) (C : Nat) (s : Nat → Nat) (i : Nat) : Prop := ∃ t, jPm C t ∧ ∀ c, c < C → jkv (fun r c => V (5 * r + c)) i c = jkv (fun r c => U (5 * s r + c)) i (t c)
theorem jMc_congr {V U : Nat → Nat} {C i : Nat} {s s' : Nat → Nat} (e : ∀ r, r < i → s r = s' r) : jMc V U C s i ↔ jMc V U C s' i := by
  refine exists_congr fun t => and_congr Iff.rfl (forall_congr' fun c => forall_congr' fun hc => ?_)
  rw [jkv_congr (w := fun r c => U (5 * s r + c)) (w' := fun r c => U (5 * s' r + c)) i (fun r hr => by rw [e r hr])]
/-- the rest can be matched -/
def jMr (V U : Nat → Nat) (R C : Nat) (m : Nat) (s : Nat → Nat) : Prop := ∃ s', (∀ r, r < m → s' r = s r) ∧ jPm R s' ∧ ∀ i, m < i → i ≤ R → jMc V U C s' i
theorem li_matchRest {V U : Nat → Nat} {R C o p w : Nat} {f wv : Nat → Int32} (hr : R ≤ 5) (hc : C ≤ 5) (ho : 182 ≤ o) (hp : 182 ≤ p) (hw : 182 ≤ w) (hf : ∀ r c, r < R → c < C → f (5 * r + c) = nI (U (5 * r + c)) ∧ U (5 * r + c) ≤ 2) (hV : ∀ r c, r < R → c < C → V (5 * r + c) ≤ 2) (hcut : ∀ i c, i ≤ R → c < C → A (104 + i) c = nI (jkv (fun r c => V (5 * r + c)) i c)) : ∀ n m, m + n = R → ∀ d A1 h1 s used, (∀ a, (a < 112 ∨ 116 < a) → A1 a = A a) → jTk h1 o p w R C f wv → jR F A1 G g h1 → jD h h1 → used < 32 → (∀ q, used.testBit q = true ↔ ∃ j, j < m ∧ s j = q) → (∀ j, j < m → s j < R) → (∀ j j', j < m → j' < m → s j = s j' → j = j') → (∀ i c, i ≤ m → c < C → A1 (111 + i) c = nI (jkv (fun r c => U (5 * s r + c)) i c)) → ∀ {Q : List Value → jxH → Prop}, (∀ A2 h2, (∀ a, (a < 112 ∨ 116 < a) → A2 a = A a) → (∀ i c, i ≤ m → c < C → A2 (111 + i) c = A1 (111 + i) c) → jR F A2 G g h2 → jD h h2 → (jMr V U R C m s → Q [.int (nI 1)] h2) ∧ (¬ jMr V U R C m s → Q [.int (nI 0)] h2)) → jx_Go jxP (d + n + 2) 23 0 [.ref 102, .int (nI m), .int (nI used), .ref o, jx_u] [] h1 Q := by
  intro n
  induction n with
  | zero =>
    intro m hm d A1 h1 s used fr t hR1 hD1 hu u1 u2 u3 cu Q kk
    have e : m = R := by omega
    have yes : jMr V U R C m s := ⟨s, fun r hr => rfl, ⟨fun i hi => u2 i (by omega), fun i j hi hj => u3 i j (by omega) (by omega)⟩, fun i h1 h2 => by omega⟩
    simp (disch := omega) only [s23_0, s23_1, s23_2, s23_5, s23_8, s23_9b0, s23_9b1, Option.some.injEq, exists_eq_left', exists_eq_left, List.cons_append, List.nil_append, List.length_nil, List.length_cons, Nat.reduceAdd, Nat.reduceMul, Nat.reduceSub, Nat.reduceLeDiff, true_and, and_true, ↓reduceIte, not_false_eq_true, not_true_eq_false, nI_add, pk_mul, jn_ltT, jn_ltF, jn_leT, jn_leF, jn_eqT, jn_eqF, jn_lt0, jn_ge0, jn_eq0T, jn_eq0F, jn_in, jn_cl, t.2.1]
    exact (kk A1 h1 fr (fun _ _ _ _ => rfl) hR1 hD1).1 yes
  | succ n ih =>
    intro m hm d A1 h1 s used fr t hR1 hD1 hu u1 u2 u3 cu Q kk
    simp (disch := omega) only [s23_0, s23_1, s23_2, s23_5, s23_10, s23_11, Option.some.injEq, exists_eq_left', exists_eq_left, List.cons_append, List.nil_append, List.length_nil, List.length_cons, Nat.reduceAdd, Nat.reduceMul, Nat.reduceSub, Nat.reduceLeDiff, true_and, and_true, ↓reduceIte, not_false_eq_true, not_true_eq_false, nI_add, pk_mul, jn_ltT, jn_ltF, jn_leT, jn_leF, jn_eqT, jn_eqF, jn_lt0, jn_ge0, jn_eq0T, jn_eq0F, jn_in, jn_cl, t.2.1]
    refine jloop (fun row => ∀ A1 h1, (∀ a, (a < 112 ∨ 116 < a) → A1 a = A a) → jTk h1 o p w R C f wv → jR F A1 G g h1 → jD h h1 → (∀ i c, i ≤ m → c < C → A1 (111 + i) c = nI (jkv (fun r c => U (5 * s r + c)) i c)) → (∀ q, q < row → used.testBit q = false → ¬ (jMc V U C (jcu s m q) (m + 1) ∧ jMr V U R C (m + 1) (jcu s m q))) → jx_Go jxP (d + (n + 1) + 2) 23 13 [.ref 102, .int (nI m), .int (nI used), .ref o, .int (nI row)] [] h1 Q) R ?_ ?_ 0 (Nat.zero_le _) A1 h1 fr t hR1 hD1 cu (fun q hq => by omega)
    · intro A2 h2 fr2 t2 hR2 hD2 cu2 no
      rw [s23_13]
      simp (disch := omega) only [s23_15, s23_16, s23_19, s23_93, s23_94b0, s23_94b1, Option.some.injEq, exists_eq_left', exists_eq_left, List.cons_append, List.nil_append, List.length_nil, List.length_cons, Nat.reduceAdd, Nat.reduceMul, Nat.reduceSub, Nat.reduceLeDiff, true_and, and_true, ↓reduceIte, not_false_eq_true, not_true_eq_false, nI_add, pk_mul, jn_ltT, jn_ltF, jn_leT, jn_leF, jn_eqT, jn_eqF, jn_lt0, jn_ge0, jn_eq0T, jn_eq0F, jn_in, jn_cl, t2.2.1]
      refine (kk A2 h2 fr2 (fun i c h1 h2 => by rw [cu2 i c h1 h2, cu i c h1 h2]) hR2 hD2).2 ?_
      rintro ⟨s', e1, e2, e3⟩
      have sm := e2.1 m (by omega)
      have fresh : used.testBit (s' m) = false := by
        cases z : used.testBit (s' m) with
        | false => rfl
        | true =>
          obtain ⟨j, j1, j2⟩ := (u1 _).mp z
          rw [← e1 j j1] at j2
          have := e2.2 j m (by omega) (by omega) j2
          omega
      refine no (s' m) sm fresh ⟨?_, s', fun r hr => ?_, e2, fun i h1 h2 => e3 i (by omega) h2⟩
      · refine (jMc_congr (fun r hr => ?_)).mp (e3 (m + 1) (by omega) (by omega))
        by_cases z : r = m
        · rw [z, jcu_s]
        · rw [jcu_n z]; exact e1 r (by omega)
      · by_cases z : r = m
        · rw [z, jcu_s]
        · rw [jcu_n z]; exact e1 r (by omega)
    · intro row hrow ihr A2 h2 fr2 t2 hR2 hD2 cu2 no
      have skip : ∀ A3 h3, (∀ a, (a < 112 ∨ 116 < a) → A3 a = A a) → jR F A3 G g h3 → jD h h3 → jTk h3 o p w R C f wv → (∀ i c, i ≤ m → c < C → A3 (111 + i) c = nI (jkv (fun r c => U (5 * s r + c)) i c)) → (used.testBit row = false → ¬ (jMc V U C (jcu s m row) (m + 1) ∧ jMr V U R C (m + 1) (jcu s m row))) → jx_Go jxP (d + (n + 1) + 2) 23 87 [.ref 102, .int (nI m), .int (nI used), .ref o, .int (nI row)] [] h3 Q := by
        intro A3 h3 fr3 hR3 hD3 t3 cu3 nn
        simp (disch := omega) only [s23_87, s23_90, Option.some.injEq, exists_eq_left', exists_eq_left, List.cons_append, List.nil_append, List.length_nil, List.length_cons, Nat.reduceAdd, Nat.reduceMul, Nat.reduceSub, Nat.reduceLeDiff, true_and, and_true, ↓reduceIte, not_false_eq_true, not_true_eq_false, nI_add, pk_mul, jn_ltT, jn_ltF, jn_leT, jn_leF, jn_eqT, jn_eqF, jn_lt0, jn_ge0, jn_eq0T, jn_eq0F, jn_in, jn_cl]
        refine ihr A3 h3 fr3 t3 hR3 hD3 cu3 (fun q hq hb => ?_)
        rcases (show q < row ∨ q = row by omega) with z | z
        · exact no q z hb
        · subst z; exact nn hb
      rw [s23_13]
      simp (disch := omega) only [s23_15, s23_16, s23_19, s23_22, s23_23, s23_25, s23_26, s23_27, Option.some.injEq, exists_eq_left', exists_eq_left, List.cons_append, List.nil_append, List.length_nil, List.length_cons, Nat.reduceAdd, Nat.reduceMul, Nat.reduceSub, Nat.reduceLeDiff, true_and, and_true, ↓reduceIte, not_false_eq_true, not_true_eq_false, nI_add, pk_mul, jn_ltT, jn_ltF, jn_leT, jn_leF, jn_eqT, jn_eqF, jn_lt0, jn_ge0, jn_eq0T, jn_eq0F, jn_in, jn_cl, t2.2.1, jsh_bit]
      by_cases ub : used.testBit row = true
      · rw [if_pos ub]
        simp (disch := omega) only [s23_28, Option.some.injEq, exists_eq_left', exists_eq_left, List.cons_append, List.nil_append, List.length_nil, List.length_cons, Nat.reduceAdd, Nat.reduceMul, Nat.reduceSub, Nat.reduceLeDiff, true_and, and_true, ↓reduceIte, not_false_eq_true, not_true_eq_false, nI_add, pk_mul, jn_ltT, jn_ltF, jn_leT, jn_leF, jn_eqT, jn_eqF, jn_lt0, jn_ge0, jn_eq0T, jn_eq0F, jn_in, jn_cl]
        exact skip A2 h2 fr2 hR2 hD2 t2 cu2 (fun z => by rw [ub] at z; cases z)
      · have ub' := Bool.eq_false_iff.mpr ub
        rw [if_neg ub]
        simp (disch := omega) only [s23_28, s23_31, s23_32, s23_35, s23_36, s23_37, s23_39, Option.some.injEq, exists_eq_left', exists_eq_left, List.cons_append, List.nil_append, List.length_nil, List.length_cons, Nat.reduceAdd, Nat.reduceMul, Nat.reduceSub, Nat.reduceLeDiff, true_and, and_true, ↓reduceIte, not_false_eq_true, not_true_eq_false, nI_add, pk_mul, jn_ltT, jn_ltF, jn_leT, jn_leF, jn_eqT, jn_eqF, jn_lt0, jn_ge0, jn_eq0T, jn_eq0F, jn_in, jn_cl, jf_102_1 hR2]
        refine li_addRow hR2 (Or.inr ⟨rfl, rfl⟩) t2 (Or.inr ⟨ho, hp⟩) hc (by omega) (by omega) (N := fun c => jkv (fun r c => U (5 * s r + c)) m c) (V := fun c => U (5 * row + c)) (fun c hc' => cu2 m c (Nat.le_refl _) hc') (fun c hc' => (hf row c hrow hc').1) (fun h3 f3 hf3 hR3 hD3 => ?_)
        have t3 := t2.fr hD3 ho hp hw
        have hDD := hD2.tr hD3
        have fr3 : ∀ a, (a < 112 ∨ 116 < a) → jua A2 (111 + m + 1) f3 a = A a := fun a ha => by rw [jua_ne (by omega)]; exact fr2 a ha
        have cu3 : ∀ i c, i ≤ m + 1 → c < C → jua A2 (111 + m + 1) f3 (111 + i) c = nI (jkv (fun r c => U (5 * jcu s m row r + c)) i c) := by
          intro i c h1 h2
          by_cases z : i = m + 1
          · subst z
            rw [show 111 + (m + 1) = 111 + m + 1 by omega, jua_same, hf3 c h2, jkv_s, jcu_s]
            congr 1
            rw [jkv_congr (w := fun r c => U (5 * s r + c)) (w' := fun r c => U (5 * jcu s m row r + c)) m (fun r hr => by rw [jcu_n (by omega)])]
          · rw [jua_ne (by omega), cu2 i c (by omega) h2, jkv_congr (w := fun r c => U (5 * s r + c)) (w' := fun r c => U (5 * jcu s m row r + c)) i (fun r hr => by rw [jcu_n (by omega)])]
        have cu4 : ∀ i c, i ≤ m → c < C → jua A2 (111 + m + 1) f3 (111 + i) c = nI (jkv (fun r c => U (5 * s r + c)) i c) := fun i c h1 h2 => by rw [jua_ne (by omega)]; exact cu2 i c h1 h2
        generalize jua A2 (111 + m + 1) f3 = A3 at hR3 fr3 cu3 cu4
        obtain ⟨r1, ar1, rr1⟩ := hR3.2.2.1 103 4 _ _ rfl
        obtain ⟨r2, ar2, rr2⟩ := hR3.2.2.1 110 4 _ _ rfl
        have q1 : r1 (m + 1) = some (104 + (m + 1)) := by rw [rr1 (m + 1) (by omega), if_pos (by omega)]
        have q2 : r2 (m + 1) = some (111 + (m + 1)) := by rw [rr2 (m + 1) (by omega), if_pos (by omega)]
        simp (disch := omega) only [s23_42, s23_43, s23_46, s23_47, s23_48, s23_49, s23_50, s23_51, s23_54, s23_55, s23_56, s23_57, s23_58, s23_59, s23_62, Option.some.injEq, exists_eq_left', exists_eq_left, List.cons_append, List.nil_append, List.length_nil, List.length_cons, Nat.reduceAdd, Nat.reduceMul, Nat.reduceSub, Nat.reduceLeDiff, true_and, and_true, ↓reduceIte, not_false_eq_true, not_true_eq_false, nI_add, pk_mul, jn_ltT, jn_ltF, jn_leT, jn_leF, jn_eqT, jn_eqF, jn_lt0, jn_ge0, jn_eq0T, jn_eq0F, jn_in, jn_cl, jf_102_0 hR3, jf_102_1 hR3, ar1, ar2, q1, q2, jx_rv, t3.2.2.1]
        have la := (jcutr (m + 1) (by omega))
        have bnd : ∀ i c, i ≤ R → c < C → jkv (fun r c => V (5 * r + c)) i c < 243 := fun i c h1 h2 => Nat.lt_of_lt_of_le (jkv_lt i (fun r hr => hV r c (by omega) h2)) (Nat.le_trans (Nat.pow_le_pow_right (by decide) (show i ≤ 5 by omega)) (by decide))
        have bnd2 : ∀ c, c < C → jkv (fun r c => U (5 * jcu s m row r + c)) (m + 1) c < 243 := fun c h2 => Nat.lt_of_lt_of_le (jkv_lt (m + 1) (fun r hr => by
          by_cases z : r = m
          · rw [z, jcu_s]; exact (hf row c hrow h2).2
          · rw [jcu_n z]; exact (hf (s r) c (u2 r (by omega)) h2).2)) (Nat.le_trans (Nat.pow_le_pow_right (by decide) (show m + 1 ≤ 5 by omega)) (by decide))
        have hMc : (∃ t, jPm C t ∧ ∀ i, i < C → A3 (104 + (m + 1)) i = A3 (111 + (m + 1)) (t i)) ↔ jMc V U C (jcu s m row) (m + 1) := by
          refine exists_congr fun tt => and_congr_right fun ht => forall_congr' fun c => forall_congr' fun hc' => ?_
          rw [fr3 _ (by omega), hcut (m + 1) c (by omega) hc', cu3 (m + 1) (tt c) (Nat.le_refl _) (ht.1 c hc')]
          have b1 := bnd (m + 1) c (by omega) hc'
          have b2 := bnd2 (tt c) (ht.1 c hc')
          exact nI_eq (by omega) (by omega)
        by_cases mc : jMc V U C (jcu s m row) (m + 1)
        · refine li_haveSameColumns (hR3.2.1 _ _ la.1) (hR3.2.1 _ _ la.2) hc (B := true) ⟨fun _ => hMc.mpr mc, fun _ => rfl⟩ ?_
          have pr : 2 ^ row < 32 := Nat.pow_lt_pow_right (by decide) (show row < 5 by omega)
          simp (disch := omega) only [s23_65, s23_68, s23_69, s23_70, s23_71, s23_72, s23_73, s23_74, s23_76, s23_77, s23_78, s23_79, Option.some.injEq, exists_eq_left', exists_eq_left, List.cons_append, List.nil_append, List.length_nil, List.length_cons, Nat.reduceAdd, Nat.reduceMul, Nat.reduceSub, Nat.reduceLeDiff, true_and, and_true, ↓reduceIte, not_false_eq_true, not_true_eq_false, nI_add, pk_mul, jn_ltT, jn_ltF, jn_leT, jn_leF, jn_eqT, jn_eqF, jn_lt0, jn_ge0, jn_eq0T, jn_eq0F, jn_in, jn_cl, Bool.toNat_true, jsh1, jn_or, jc_of_102 hR3]
          refine ih (m + 1) (by omega) d A3 h3 (jcu s m row) (used ||| 2 ^ row) fr3 t3 hR3 hDD (Nat.or_lt_two_pow (n := 5) hu pr) (fun q => ?_) (fun j hj => ?_) (fun j j' hj hj' e => ?_) cu3 (fun A4 h4 fr4 cu5 hR4 hD4 => ⟨fun yes => ?_, fun nn => ?_⟩)
          · rw [Nat.testBit_or, Bool.or_eq_true, u1, Nat.testBit_two_pow, decide_eq_true_iff]
            constructor
            · rintro (⟨j, j1, j2⟩ | e)
              · exact ⟨j, by omega, by rw [jcu_n (by omega)]; exact j2⟩
              · exact ⟨m, by omega, by rw [jcu_s]; exact e⟩
            · rintro ⟨j, j1, j2⟩
              by_cases z : j = m
              · rw [z, jcu_s] at j2; exact Or.inr j2
              · rw [jcu_n z] at j2; exact Or.inl ⟨j, by omega, j2⟩
          · by_cases z : j = m
            · rw [z, jcu_s]; exact hrow
            · rw [jcu_n z]; exact u2 j (by omega)
          · have fresh : ∀ j, j < m → s j ≠ row := fun j hj e => ub ((u1 row).mpr ⟨j, hj, e⟩)
            by_cases z : j = m
            · by_cases z' : j' = m
              · omega
              · rw [z, jcu_s, jcu_n z'] at e; exact absurd e.symm (fresh j' (by omega))
            · by_cases z' : j' = m
              · rw [z', jcu_s, jcu_n z] at e; exact absurd e (fresh j (by omega))
              · rw [jcu_n z, jcu_n z'] at e; exact u3 j j' (by omega) (by omega) e
          · simp (disch := omega) only [s23_82, s23_85, s23_86b0, s23_86b1, Option.some.injEq, exists_eq_left', exists_eq_left, List.cons_append, List.nil_append, List.length_nil, List.length_cons, Nat.reduceAdd, Nat.reduceMul, Nat.reduceSub, Nat.reduceLeDiff, true_and, and_true, ↓reduceIte, not_false_eq_true, not_true_eq_false, nI_add, pk_mul, jn_ltT, jn_ltF, jn_leT, jn_leF, jn_eqT, jn_eqF, jn_lt0, jn_ge0, jn_eq0T, jn_eq0F, jn_in, jn_cl]
            refine (kk A4 h4 fr4 (fun i c h1 h2 => by rw [cu5 i c (by omega) h2, cu4 i c h1 h2, cu i c h1 h2]) hR4 hD4).1 ?_
            obtain ⟨s', e1, e2, e3⟩ := yes
            refine ⟨s', fun r hr => by rw [e1 r (by omega), jcu_n (by omega)], e2, fun i h1 h2 => ?_⟩
            rcases (show i = m + 1 ∨ m + 1 < i by omega) with z | z
            · subst z
              exact (jMc_congr (fun r hr => e1 r hr)).mpr mc
            · exact e3 i z h2
          · simp (disch := omega) only [s23_82, Option.some.injEq, exists_eq_left', exists_eq_left, List.cons_append, List.nil_append, List.length_nil, List.length_cons, Nat.reduceAdd, Nat.reduceMul, Nat.reduceSub, Nat.reduceLeDiff, true_and, and_true, ↓reduceIte, not_false_eq_true, not_true_eq_false, nI_add, pk_mul, jn_ltT, jn_ltF, jn_leT, jn_leF, jn_eqT, jn_eqF, jn_lt0, jn_ge0, jn_eq0T, jn_eq0F, jn_in, jn_cl]
            exact skip A4 h4 fr4 hR4 hD4 (t.fr (jD_diff hD1 hD4) ho hp hw) (fun i c h1 h2 => by rw [cu5 i c (by omega) h2]; exact cu4 i c h1 h2) (fun _ z => nn z.2)
        · refine li_haveSameColumns (hR3.2.1 _ _ la.1) (hR3.2.1 _ _ la.2) hc (B := false) ⟨fun z => (by cases z), fun z => absurd (hMc.mp z) mc⟩ ?_
          simp (disch := omega) only [s23_65, Option.some.injEq, exists_eq_left', exists_eq_left, List.cons_append, List.nil_append, List.length_nil, List.length_cons, Nat.reduceAdd, Nat.reduceMul, Nat.reduceSub, Nat.reduceLeDiff, true_and, and_true, ↓reduceIte, not_false_eq_true, not_true_eq_false, nI_add, pk_mul, jn_ltT, jn_ltF, jn_leT, jn_leF, jn_eqT, jn_eqF, jn_lt0, jn_ge0, jn_eq0T, jn_eq0F, jn_in, jn_cl, Bool.toNat_false]
          exact skip A3 h3 fr3 hR3 hDD t3 cu4 (fun _ z => mc z.1)
end CL23
