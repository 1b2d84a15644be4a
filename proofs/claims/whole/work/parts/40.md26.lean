/-! ===== the reference: cover, to its end ===== -/
section MD26
variable {d : Nat} {F : Nat → Nat → Nat} {A : Nat → Nat → Int32} {G : Nat → Option Nat} {g : Nat → Int64} {h : jxH} {Q : List Value → jxH → Prop}
theorem jgb_bit {v : Nat → Int32} {R C x y q : Nat} : (jgb v R C x y).testBit q = (decide (q < 5 * R) && ((decide (q % 5 < C) && (decide (q / 5 < R) && jall C fun c => !(y.testBit c && v (5 * (q / 5) + c) == nI (1 - x)))) && y.testBit (q % 5))) := by
  unfold jgb jpl jrw
  rw [jmk_bit, jmk_bit]
/-- a block for each row is enough -/
theorem jcvt_rows {v : Nat → Int32} {R C x : Nat} (hr : R ≤ 5) (hx : x < 2) : ∀ m L, m ≤ R → (∀ p, L.testBit p = true → p < 25 ∧ R - m ≤ p / 5 ∧ p / 5 < R ∧ p % 5 < C ∧ v p = nI x) → jcvt (jgb v R C x) (2 ^ C) m L 0 = true := by
  intro m
  induction m with
  | zero =>
    intro L _ hL
    have : L = 0 := by
      apply Nat.eq_of_testBit_eq
      intro i
      rw [Nat.zero_testBit]
      apply Bool.eq_false_iff.mpr
      intro w
      have := hL i w
      omega
    rw [this]
    exact jcvt_z
  | succ m ih =>
    intro L hm hL
    by_cases z : L = 0
    · rw [z]; exact jcvt_z
    have lt : L < 33554432 := by
      rcases Nat.lt_or_ge L 33554432 with w | w
      · exact w
      · obtain ⟨i, hi, hb⟩ := Nat.exists_ge_and_testBit_of_ge_two_pow (n := 25) w
        have := hL i hb
        omega
    obtain ⟨l1, l2, l3, _⟩ := jlo_ok (by omega) lt
    obtain ⟨_, q2, q3, q4, q5⟩ := hL _ l2
    have ep : 5 * (jlo L / 5) + jlo L % 5 = jlo L := Nat.div_add_mod _ _
    have yb : ∀ c, (jmk C fun c => v (5 * (jlo L / 5) + c) == nI x).testBit c = (decide (c < C) && v (5 * (jlo L / 5) + c) == nI x) := fun c => jmk_bit C
    have ne : nI x ≠ nI (1 - x) := by
      rcases (show x = 0 ∨ x = 1 by omega) with e | e <;> subst e <;> decide
    have gb : ∀ q, q / 5 = jlo L / 5 → q % 5 < C → v q = nI x → (jgb v R C x (jmk C fun c => v (5 * (jlo L / 5) + c) == nI x)).testBit q = true := by
      intro q e1 e2 e3
      have eq : 5 * (jlo L / 5) + q % 5 = q := by rw [← e1]; exact Nat.div_add_mod _ _
      rw [jgb_bit, yb, e1, eq, e3, decide_eq_true e2, decide_eq_true q3, decide_eq_true (show q < 5 * R by omega), beq_self_eq_true]
      have : (jall C fun c => !((jmk C fun c => v (5 * (jlo L / 5) + c) == nI x).testBit c && v (5 * (jlo L / 5) + c) == nI (1 - x))) = true := jall_iff.mpr (fun c hc => by
        rw [yb, decide_eq_true hc, Bool.true_and]
        by_cases w : v (5 * (jlo L / 5) + c) = nI x
        · rw [w, beq_self_eq_true, beq_eq_false_iff_ne.mpr ne]; rfl
        · rw [beq_eq_false_iff_ne.mpr w]; rfl)
      rw [this]
      rfl
    refine jcvt_iff.mpr (Or.inr ⟨jmk C fun c => v (5 * (jlo L / 5) + c) == nI x, jmk_lt C, ?_, gb _ rfl q4 q5, ?_⟩)
    · apply Nat.pos_of_ne_zero
      intro e
      have := yb (jlo L % 5)
      rw [e, Nat.zero_testBit, ep, q5, beq_self_eq_true, decide_eq_true q4] at this
      cases this
    · refine ih _ (by omega) (fun q hq => ?_)
      rw [jan_bit, Bool.and_eq_true] at hq
      obtain ⟨h1, h2⟩ := hq
      obtain ⟨r1, r2, r3, r4, r5⟩ := hL q h1
      refine ⟨r1, ?_, r3, r4, r5⟩
      have ge : jlo L ≤ q := by
        rcases Nat.lt_or_ge q (jlo L) with w | w
        · rw [l3 q w] at h1; cases h1
        · exact w
      have : ¬ q / 5 = jlo L / 5 := fun e => by rw [gb q e r4 r5] at h2; cases h2
      omega
/-- the fewest blocks that cover the places that are x -/
def jcn (v : Nat → Int32) (R C x : Nat) : Nat := jlst (fun n => jcvt (jgb v R C x) (2 ^ C) n (jpx v R C (nI x)) 0) 6
theorem jpx_bit {v : Nat → Int32} {R C p : Nat} {x : Int32} : (jpx v R C x).testBit p = (decide (p < 5 * R) && (decide (p % 5 < C) && v p == x)) := by
  unfold jpx
  rw [jmk_bit]
theorem jpx_lt {v : Nat → Int32} {R C : Nat} {x : Int32} (hr : R ≤ 5) : jpx v R C x < 33554432 := jmk_31 (by omega)
theorem jcn_le {v : Nat → Int32} {R C x : Nat} (hr : R ≤ 5) (hx : x < 2) : jcn v R C x ≤ R := by
  have t := jcvt_rows (v := v) (C := C) hr hx R (jpx v R C (nI x)) (Nat.le_refl _) (fun p hp => by
    rw [jpx_bit, Bool.and_eq_true, Bool.and_eq_true, decide_eq_true_iff, decide_eq_true_iff, beq_iff_eq] at hp
    refine ⟨by omega, by omega, by omega, hp.2.1, hp.2.2⟩)
  unfold jcn
  obtain ⟨a, b, c⟩ := jlst_le (p := fun n => jcvt (jgb v R C x) (2 ^ C) n (jpx v R C (nI x)) 0) 6
  rcases Nat.lt_or_ge R (jlst (fun n => jcvt (jgb v R C x) (2 ^ C) n (jpx v R C (nI x)) 0) 6) with w | w
  · rw [c R w] at t; cases t
  · exact w
theorem md_cover (hR : jR F A G g h) (hr : F 149 0 ≤ 5) (hc : F 149 1 ≤ 5) {x : Nat} (hx : x < 2) (k : ∀ A2 h2, (∀ a, a ≠ 173 → a ≠ 174 → A2 a = A a) → jR F A2 G g h2 → jD h h2 → Q [.int (nI (jcn (A 150) (F 149 0) (F 149 1) x))] h2) : jx_Go jxP (d + 3) 179 0 [.ref 149, .int (nI x), jx_u, jx_u, jx_u] [] h Q := by
  refine md_cover1 hR hr hc hx (fun w4 => ?_)
  have hW := jpx_lt (v := A 150) (C := F 149 1) (x := nI x) hr
  have le := jcn_le (v := A 150) (C := F 149 1) hr hx
  obtain ⟨ja, jb, jc⟩ := jlst_le (p := fun n => jcvt (jgb (A 150) (F 149 0) (F 149 1) x) (2 ^ F 149 1) n (jpx (A 150) (F 149 0) (F 149 1) (nI x)) 0) 6
  have lt : jcn (A 150) (F 149 0) (F 149 1) x < 6 := by omega
  have jb' := jb lt
  have jc' : ∀ i, i < jcn (A 150) (F 149 0) (F 149 1) x → _ := jc
  refine jloop (fun n => ∀ A1 h1 w4, (∀ a, a ≠ 173 → a ≠ 174 → A1 a = A a) → jR F A1 G g h1 → jD h h1 → jx_Go jxP (d + 3) 179 83 [.ref 149, .int (nI x), .int (nI (jpx (A 150) (F 149 0) (F 149 1) (nI x))), .int (nI n), w4] [] h1 Q) (jcn (A 150) (F 149 0) (F 149 1) x) ?_ ?_ 0 (Nat.zero_le _) A h w4 (fun _ _ _ => rfl) hR jD.rf
  · intro A1 h1 w4 fr hR1 hD1
    have g150 : A1 150 = A 150 := fr 150 (by decide) (by decide)
    rw [s179_83]
    simp (disch := omega) only [s179_84, s179_85, s179_86, s179_87, Option.some.injEq, exists_eq_left', exists_eq_left, List.cons_append, List.nil_append, List.length_nil, List.length_cons, Nat.reduceAdd, Nat.reduceMul, Nat.reduceSub, Nat.reduceLeDiff, true_and, and_true, ↓reduceIte, not_false_eq_true, not_true_eq_false, nI_add, pk_mul, jn_ltT, jn_ltF, jn_leT, jn_leF, jn_eqT, jn_eqF, jn_lt0, jn_ge0, jn_eq0T, jn_eq0F, jn_in, jn_cl, jc_of_149 hR1]
    refine md_covers hR1 hr hc hx (by omega) hW (fun A2 h2 fr2 hR2 hD2 => ?_)
    rw [g150]
    rw [show jcvt (jgb (A 150) (F 149 0) (F 149 1) x) (2 ^ F 149 1) (jcn (A 150) (F 149 0) (F 149 1) x) (jpx (A 150) (F 149 0) (F 149 1) (nI x)) 0 = true from jb']
    simp (disch := omega) only [s179_90, s179_99, s179_100, Option.some.injEq, exists_eq_left', exists_eq_left, List.cons_append, List.nil_append, List.length_nil, List.length_cons, Nat.reduceAdd, Nat.reduceMul, Nat.reduceSub, Nat.reduceLeDiff, true_and, and_true, ↓reduceIte, not_false_eq_true, not_true_eq_false, nI_add, pk_mul, jn_ltT, jn_ltF, jn_leT, jn_leF, jn_eqT, jn_eqF, jn_lt0, jn_ge0, jn_eq0T, jn_eq0F, jn_in, jn_cl, Bool.toNat_true]
    exact k A2 h2 (fun a n1 n2 => (fr2 a n1 n2).trans (fr a n1 n2)) hR2 (hD1.tr hD2)
  · intro n hn ih A1 h1 w4 fr hR1 hD1
    have g150 : A1 150 = A 150 := fr 150 (by decide) (by decide)
    rw [s179_83]
    simp (disch := omega) only [s179_84, s179_85, s179_86, s179_87, Option.some.injEq, exists_eq_left', exists_eq_left, List.cons_append, List.nil_append, List.length_nil, List.length_cons, Nat.reduceAdd, Nat.reduceMul, Nat.reduceSub, Nat.reduceLeDiff, true_and, and_true, ↓reduceIte, not_false_eq_true, not_true_eq_false, nI_add, pk_mul, jn_ltT, jn_ltF, jn_leT, jn_leF, jn_eqT, jn_eqF, jn_lt0, jn_ge0, jn_eq0T, jn_eq0F, jn_in, jn_cl, jc_of_149 hR1]
    refine md_covers hR1 hr hc hx (by omega) hW (fun A2 h2 fr2 hR2 hD2 => ?_)
    rw [g150]
    rw [show jcvt (jgb (A 150) (F 149 0) (F 149 1) x) (2 ^ F 149 1) n (jpx (A 150) (F 149 0) (F 149 1) (nI x)) 0 = false from jc' n hn]
    simp (disch := omega) only [s179_90, s179_93, s179_96, Option.some.injEq, exists_eq_left', exists_eq_left, List.cons_append, List.nil_append, List.length_nil, List.length_cons, Nat.reduceAdd, Nat.reduceMul, Nat.reduceSub, Nat.reduceLeDiff, true_and, and_true, ↓reduceIte, not_false_eq_true, not_true_eq_false, nI_add, pk_mul, jn_ltT, jn_ltF, jn_leT, jn_leF, jn_eqT, jn_eqF, jn_lt0, jn_ge0, jn_eq0T, jn_eq0F, jn_in, jn_cl, Bool.toNat_false]
    exact ih A2 h2 w4 (fun a n1 n2 => (fr2 a n1 n2).trans (fr a n1 n2)) hR2 (hD1.tr hD2)
end MD26
