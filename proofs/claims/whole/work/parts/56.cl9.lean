/-! ===== the class: classes ===== -/
section CL9
variable {d : Nat} {F : Nat → Nat → Nat} {A : Nat → Nat → Int32} {G : Nat → Option Nat} {g : Nat → Int64} {h : jxH} {Q : List Value → jxH → Prop}
theorem jfws_cut {T : Nat → Nat} {p : Nat → Bool} {x s : Nat} (h1 : 1 ≤ s) (h2 : s &&& x = s) (h3 : p s = true) : ∀ n, s < n → jfws T p x n ≤ 1 + T (x ^^^ s) := by
  intro n
  induction n with
  | zero => intro w; omega
  | succ n ih =>
    intro w
    rw [jfws_s]
    rcases (show s < n ∨ s = n by omega) with z | z
    · have := ih z
      split <;> omega
    · subst z
      rw [if_pos ⟨h1, h2, h3⟩]
      omega
theorem jfws_att {T : Nat → Nat} {p : Nat → Bool} {x : Nat} : ∀ n, jfws T p x n = 100 ∨ ∃ s, s < n ∧ 1 ≤ s ∧ s &&& x = s ∧ p s = true ∧ jfws T p x n = 1 + T (x ^^^ s) := by
  intro n
  induction n with
  | zero => exact Or.inl rfl
  | succ n ih =>
    rw [jfws_s]
    split
    case isTrue w =>
      rcases Nat.lt_or_ge (1 + T (x ^^^ n)) (jfws T p x n) with z | z
      · exact Or.inr ⟨n, by omega, w.1, w.2.1, w.2.2, by omega⟩
      · rcases ih with ih | ⟨s, h1, h2⟩
        · exact Or.inl (by omega)
        · exact Or.inr ⟨s, by omega, h2.1, h2.2.1, h2.2.2.1, by omega⟩
    case isFalse w =>
      rcases ih with ih | ⟨s, h1, h2⟩
      · exact Or.inl ih
      · exact Or.inr ⟨s, by omega, h2⟩
theorem jfw_0 {p : Nat → Bool} : jfw p 0 = 0 := by rw [jfw_eq (by omega), if_pos rfl]
theorem jsub_le : ∀ x, x < 32 → ∀ s, s < 32 → (!(s &&& x == s) || decide (s ≤ x)) = true := by decide +kernel
theorem jfw_cut {p : Nat → Bool} {x s : Nat} (hx : x < 32) (hs : s < 32) (h1 : 1 ≤ s) (h2 : s &&& x = s) (h3 : p s = true) : jfw p x ≤ 1 + jfw p (x ^^^ s) := by
  have := jsub_le x hx s hs
  rw [h2, beq_self_eq_true] at this
  have le : s ≤ x := of_decide_eq_true this
  rw [jfw_eq hx, if_neg (by omega)]
  exact jfws_cut h1 h2 h3 _ (by omega)
theorem jfw_att {p : Nat → Bool} {x : Nat} (hx : x < 32) (x1 : 1 ≤ x) : jfw p x = 100 ∨ ∃ s, s < 32 ∧ 1 ≤ s ∧ s &&& x = s ∧ p s = true ∧ jfw p x = 1 + jfw p (x ^^^ s) := by
  have := jfws_att (T := jfw p) (p := p) (x := x) (x + 1)
  rw [jfw_eq hx, if_neg (by omega)]
  rcases this with w | ⟨s, h1, h2⟩
  · exact Or.inl w
  · exact Or.inr ⟨s, by omega, h2⟩
theorem jpopl : ∀ x, x < 32 → 1 ≤ x → 2 ^ jlo x < 32 ∧ 2 ^ jlo x &&& x = 2 ^ jlo x ∧ jpop (x ^^^ 2 ^ jlo x) + 1 = jpop x ∧ x ^^^ 2 ^ jlo x < x := by decide +kernel
theorem jfw_pop {p : Nat → Bool} (hp : ∀ i, i < 5 → p (2 ^ i) = true) : ∀ n x, x < n → x < 32 → jfw p x ≤ jpop x := by
  intro n
  induction n with
  | zero => intro x h1; omega
  | succ n ih =>
    intro x h1 h2
    by_cases w : x = 0
    · subst w; rw [jfw_0]; exact Nat.zero_le _
    · obtain ⟨a1, a2, a3, a4⟩ := jpopl x h2 (by omega)
      have l5 := (jlow5 x h2 (by omega)).1
      have := jfw_cut h2 a1 (Nat.two_pow_pos _) a2 (hp _ l5)
      have := ih _ (by omega) (show x ^^^ 2 ^ jlo x < 32 by omega)
      omega
theorem jfw_5 {p : Nat → Bool} (hp : ∀ i, i < 5 → p (2 ^ i) = true) {x : Nat} (hx : x < 32) : jfw p x ≤ 5 := Nat.le_trans (jfw_pop hp 32 x hx hx) (jpop_5 x hx)
theorem jfw_1 {p : Nat → Bool} {x : Nat} (hx : x < 32) (x1 : 1 ≤ x) : 1 ≤ jfw p x := by
  rcases jfw_att (p := p) hx x1 with w | ⟨s, _, _, _, _, w⟩ <;> omega
theorem jfw_p {p : Nat → Bool} {x : Nat} (hx : x < 32) (x1 : 1 ≤ x) (hp : p x = true) : jfw p x = 1 := by
  have a := jfw_1 (p := p) hx x1
  have := jfw_cut hx hx x1 (Nat.and_self x) hp
  rw [Nat.xor_self, jfw_0] at this
  omega
theorem jbits {a b s : Nat} (h1 : s &&& a = s) (h2 : a &&& b = 0) : s &&& (a ||| b) = s ∧ (a ||| b) ^^^ s = (a ^^^ s) ||| b ∧ (a ^^^ s) &&& b = 0 := by
  have e1 : ∀ i, (s.testBit i && a.testBit i) = s.testBit i := fun i => by rw [← Nat.testBit_and, h1]
  have e2 : ∀ i, (a.testBit i && b.testBit i) = false := fun i => by rw [← Nat.testBit_and, h2, Nat.zero_testBit]
  refine ⟨?_, ?_, ?_⟩
  · apply Nat.eq_of_testBit_eq
    intro i
    have := e1 i
    rw [Nat.testBit_and, Nat.testBit_or]
    revert this
    cases s.testBit i <;> cases a.testBit i <;> cases b.testBit i <;> decide
  · apply Nat.eq_of_testBit_eq
    intro i
    have := e1 i
    have h3 := e2 i
    rw [Nat.testBit_xor, Nat.testBit_or, Nat.testBit_or, Nat.testBit_xor]
    revert this h3
    cases s.testBit i <;> cases a.testBit i <;> cases b.testBit i <;> decide
  · apply Nat.eq_of_testBit_eq
    intro i
    have := e1 i
    have h3 := e2 i
    rw [Nat.testBit_and, Nat.testBit_xor, Nat.zero_testBit]
    revert this h3
    cases s.testBit i <;> cases a.testBit i <;> cases b.testBit i <;> decide
theorem jfw_sub {p : Nat → Bool} (hp : ∀ i, i < 5 → p (2 ^ i) = true) : ∀ n a b, a < n → a < 32 → b < 32 → a &&& b = 0 → jfw p (a ||| b) ≤ jfw p a + jfw p b := by
  intro n
  induction n with
  | zero => intro a b h1; omega
  | succ n ih =>
    intro a b h1 h2 h3 h4
    by_cases w : a = 0
    · subst w; rw [Nat.zero_or]; omega
    · have l := jfw_5 hp h2
      rcases jfw_att (p := p) h2 (by omega) with z | ⟨s, s1, s2, s3, s4, s5⟩
      · omega
      · obtain ⟨b1, b2, b3⟩ := jbits s3 h4
        have lt := jsub_lt a h2 s s1 s2 s3
        have or32 : a ||| b < 32 := Nat.or_lt_two_pow (n := 5) h2 h3
        have c := jfw_cut or32 s1 s2 b1 s4
        rw [b2] at c
        have := ih (a ^^^ s) b (by omega) (by omega) h3 b3
        omega
theorem jptf : ∀ x, x < 32 → ∀ s, s < 32 → (!jpt x s || ((x ^^^ s) ||| s == x && ((x ^^^ s) &&& s == 0))) = true := by decide +kernel
theorem jptn : ∀ x, x < 32 → ∀ n, n < 32 → (!(decide (1 ≤ n) && (n &&& x == n && decide (n ≠ x))) || (jpt x n || (jpt x (x ^^^ n) && (x - (x ^^^ n) == n && decide (x ^^^ n < 32))))) = true := by decide +kernel
theorem jfw_min {p : Nat → Bool} (hp : ∀ i, i < 5 → p (2 ^ i) = true) {x m : Nat} (hx : x < 32) (x1 : 1 ≤ x) (np : ¬ p x = true) (hm : jMin m 1000 (jpt x) (fun s => jfw p (x - s) + jfw p s)) : m = jfw p x := by
  obtain ⟨m1, m2, m3⟩ := hm
  have l := jfw_5 hp hx
  apply Nat.le_antisymm
  · rcases jfw_att (p := p) hx x1 with z | ⟨n, n1, n2, n3, n4, n5⟩
    · omega
    · have ne : n ≠ x := fun w => np (by rw [← w]; exact n4)
      have t := jptn x hx n n1
      rw [decide_eq_true n2, n3, beq_self_eq_true, decide_eq_true ne] at t
      have one := jfw_p n1 n2 n4
      rcases (Bool.or_eq_true _ _).mp t with t | t
      · cases t
      · rcases (Bool.or_eq_true _ _).mp t with t | t
        · have := m2 n n1 t
          dsimp only at this
          rw [← jpt_x hx n1 t] at this
          omega
        · rw [Bool.and_eq_true, Bool.and_eq_true, beq_iff_eq, decide_eq_true_iff] at t
          have := m2 _ t.2.2 t.1
          dsimp only at this
          rw [t.2.1] at this
          omega
  · rcases m3 with m3 | ⟨s, s1, s2, s3⟩
    · omega
    · dsimp only at s3
      have t := jptf x hx s s1
      rw [s2] at t
      have t' : ((x ^^^ s) ||| s == x && ((x ^^^ s) &&& s == 0)) = true := t
      rw [Bool.and_eq_true, beq_iff_eq, beq_iff_eq] at t'
      have lt := jpt_lt x hx s s1 s2
      have := jfw_sub hp 32 (x ^^^ s) s (by omega) (by omega) s1 t'.2
      rw [t'.1, jpt_x hx s1 s2] at this
      omega
/-- a set of lines is peaceful, as the class tells it -/
def jpk (v : Nat → Int32) (R C b s : Nat) : Bool := jall (jM R C b) fun k => jev v R C (if b = 0 then 32 * s + 2 ^ k else 32 * 2 ^ k + s)
theorem jpk_hz {v : Nat → Int32} {R C b s k : Nat} {u : Int32} (hr : R ≤ 5) (hc : C ≤ 5) (hb : b ≤ 1) (hk : k < jM R C b) (hs : s < 32) : jhz v R C (if b = 0 then 32 * s + 2 ^ k else 32 * 2 ^ k + s) u = true ↔ ∃ i, i < jN R C b ∧ s.testBit i = true ∧ v (jix b i k) = u := by
  rw [jhz_iff]
  have pk : 2 ^ k < 32 := by
    have : k < 5 := by unfold jM at hk; split at hk <;> omega
    exact Nat.pow_lt_pow_right (by decide) this
  have pk0 := Nat.two_pow_pos k
  unfold jix jN
  unfold jM at hk
  rcases (show b = 0 ∨ b = 1 by omega) with e | e
  · subst e
    simp only [if_true] at hk ⊢
    rw [show (32 * s + 2 ^ k) / 32 = s by omega, show (32 * s + 2 ^ k) % 32 = 2 ^ k by omega]
    constructor
    · rintro ⟨r, c, h1, h2, h3, h4, h5⟩
      rw [Nat.testBit_two_pow, decide_eq_true_iff] at h4
      subst h4
      exact ⟨r, h1, h3, h5⟩
    · rintro ⟨i, h1, h2, h3⟩
      exact ⟨i, k, h1, hk, h2, Nat.testBit_two_pow_self, h3⟩
  · subst e
    simp only [Nat.one_ne_zero, if_false] at hk ⊢
    rw [show (32 * 2 ^ k + s) / 32 = 2 ^ k by omega, show (32 * 2 ^ k + s) % 32 = s by omega]
    constructor
    · rintro ⟨r, c, h1, h2, h3, h4, h5⟩
      rw [Nat.testBit_two_pow, decide_eq_true_iff] at h3
      subst h3
      exact ⟨c, h2, h4, h5⟩
    · rintro ⟨i, h1, h2, h3⟩
      exact ⟨k, i, hk, h1, Nat.testBit_two_pow_self, h2, h3⟩
theorem jpk_pc {v : Nat → Int32} {R C b s : Nat} (hr : R ≤ 5) (hc : C ≤ 5) (hb : b ≤ 1) (hs : s < 32) : jpk v R C b s = jpc v R C b s := by
  apply Bool.eq_iff_iff.mpr
  unfold jpk jpc
  rw [jall_iff, jall_iff]
  have qr : ∀ i j, jqr v R C b i j = true ↔ ∃ k, k < jM R C b ∧ ((v (jix b i k) = nI 0 ∧ v (jix b j k) = nI 1) ∨ (v (jix b i k) = nI 1 ∧ v (jix b j k) = nI 0)) := by
    intro i j
    unfold jqr
    rw [jany_iff]
    refine exists_congr fun k => and_congr Iff.rfl ?_
    rw [Bool.or_eq_true, Bool.and_eq_true, Bool.and_eq_true, beq_iff_eq, beq_iff_eq, beq_iff_eq, beq_iff_eq]
  constructor
  · intro w i hi
    rw [jall_iff]
    intro j hj
    cases z : (s.testBit i && (s.testBit j && jqr v R C b i j)) with
    | false => rfl
    | true =>
      exfalso
      rw [Bool.and_eq_true, Bool.and_eq_true, qr] at z
      obtain ⟨z1, z2, k, hk, z3⟩ := z
      have e := jev_iff.mp (w k hk)
      apply e
      rw [jpk_hz hr hc hb hk hs, jpk_hz hr hc hb hk hs]
      rcases z3 with ⟨a1, a2⟩ | ⟨a1, a2⟩
      · exact ⟨⟨i, hi, z1, a1⟩, ⟨j, by omega, z2, a2⟩⟩
      · exact ⟨⟨j, by omega, z2, a2⟩, ⟨i, hi, z1, a1⟩⟩
  · intro w k hk
    rw [jev_iff]
    rintro ⟨a0, a1⟩
    rw [jpk_hz hr hc hb hk hs] at a0 a1
    obtain ⟨i, hi, b1, b2⟩ := a0
    obtain ⟨j, hj, c1, c2⟩ := a1
    have ne : i ≠ j := fun e => by
      subst e
      rw [b2] at c2
      exact absurd c2 (by decide)
    rcases (show j < i ∨ i < j by omega) with lt | lt
    · have := jall_iff.mp (w i hi) j lt
      rw [b1, c1, (qr i j).mpr ⟨k, hk, Or.inl ⟨b2, c2⟩⟩] at this
      cases this
    · have := jall_iff.mp (w j hj) i lt
      rw [b1, c1, (qr j i).mpr ⟨k, hk, Or.inr ⟨c2, b2⟩⟩] at this
      cases this
theorem jpc_1 {v : Nat → Int32} {R C b : Nat} : ∀ i, i < 5 → jpc v R C b (2 ^ i) = true := by
  intro i _
  unfold jpc
  rw [jall_iff]
  intro a ha
  rw [jall_iff]
  intro c hc
  rw [Nat.testBit_two_pow, Nat.testBit_two_pow]
  by_cases w : i = a
  · rw [decide_eq_false (show ¬ i = c by omega), Bool.false_and, Bool.and_false]; rfl
  · rw [decide_eq_false w, Bool.false_and]; rfl
theorem jsh2 : ∀ k, k < 6 → nI (2 ^ k) <<< (nI 1 &&& 31) = nI (2 ^ (k + 1)) := by decide +kernel
theorem bl_isPeaceful (hR : jR F A G g h) {v : Nat → Int32} {R C : Nat} (hM : jMk F A v R C) (hr : R ≤ 5) (hc : C ≤ 5) {b s : Nat} (hb : b ≤ 1) (s1 : 1 ≤ s) (s2 : s < 2 ^ jN R C b) (k : Q [.int (nI (jpk v R C b s).toNat)] h) : jx_Go jxP (d + 1) 10 0 [.ref 128, .int (nI s), .int (nI b), jx_u, jx_u] [] h Q := by
  have p1 := jp2 _ hr
  have p2 := jp2 _ hc
  rcases (show b = 0 ∨ b = 1 by omega) with e | e
  · subst e
    have jn : jN R C 0 = R := rfl
    rw [jn] at s2
    have kk : Q [.int (nI (jall C fun k => jev v R C (32 * s + 2 ^ k)).toNat)] h := k
    simp (disch := omega) only [s10_0, s10_1, s10_14, s10_15, s10_18, s10_21, s10_22, s10_23, Option.some.injEq, exists_eq_left', exists_eq_left, List.cons_append, List.nil_append, List.length_nil, List.length_cons, Nat.reduceAdd, Nat.reduceMul, Nat.reduceSub, Nat.reduceLeDiff, true_and, and_true, ↓reduceIte, not_false_eq_true, not_true_eq_false, nI_add, pk_mul, jn_ltT, jn_ltF, jn_leT, jn_leF, jn_eqT, jn_eqF, jn_lt0, jn_ge0, jn_eq0T, jn_eq0F, jn_in, jn_cl, jf_128_0 hR, jf_99_1 hR, hM.2.1]
    refine jloop (fun i => (∀ j, j < i → jev v R C (32 * s + 2 ^ j) = true) → jx_Go jxP (d + 1) 10 25 [.ref 128, .int (nI s), .int (nI 0), .int (nI (2 ^ C - 1)), .int (nI (2 ^ i))] [] h Q) C ?_ ?_ 0 (Nat.zero_le _) (fun j hj => by omega)
    · intro al
      rw [jall_iff.mpr al] at kk
      rw [s10_25]
      simp (disch := omega) only [s10_27, s10_28, s10_75, s10_76b0, s10_76b1, Option.some.injEq, exists_eq_left', exists_eq_left, List.cons_append, List.nil_append, List.length_nil, List.length_cons, Nat.reduceAdd, Nat.reduceMul, Nat.reduceSub, Nat.reduceLeDiff, true_and, and_true, ↓reduceIte, not_false_eq_true, not_true_eq_false, nI_add, pk_mul, jn_ltT, jn_ltF, jn_leT, jn_leF, jn_eqT, jn_eqF, jn_lt0, jn_ge0, jn_eq0T, jn_eq0F, jn_in, jn_cl]
      exact kk
    · intro i hi ih al
      have pi : 2 ^ i < 2 ^ C := Nat.pow_lt_pow_right (by decide) hi
      have p0 := Nat.two_pow_pos i
      have ev : ∀ (d : Nat) (Q : List Value → jxH → Prop), jx_Go jxP d 31 0 [.ref 99, .int (nI s), .int (nI (2 ^ i))] [] h Q ↔ Q [.int (nI (jev v R C (32 * s + 2 ^ i)).toNat)] h := fun d Q => ma_isEven hR hM hr hc s1 s2 (by omega)
      rw [s10_25]
      simp (disch := omega) only [s10_27, s10_28, s10_31, s10_32, s10_51, s10_52, s10_55, s10_56, s10_58, Option.some.injEq, exists_eq_left', exists_eq_left, List.cons_append, List.nil_append, List.length_nil, List.length_cons, Nat.reduceAdd, Nat.reduceMul, Nat.reduceSub, Nat.reduceLeDiff, true_and, and_true, ↓reduceIte, not_false_eq_true, not_true_eq_false, nI_add, pk_mul, jn_ltT, jn_ltF, jn_leT, jn_leF, jn_eqT, jn_eqF, jn_lt0, jn_ge0, jn_eq0T, jn_eq0F, jn_in, jn_cl, jf_128_0 hR, jc_of_99 hR, ev]
      cases z : jev v R C (32 * s + 2 ^ i) with
      | true =>
        simp (disch := omega) only [s10_61, s10_66, s10_68, s10_69, s10_70, s10_72, Option.some.injEq, exists_eq_left', exists_eq_left, List.cons_append, List.nil_append, List.length_nil, List.length_cons, Nat.reduceAdd, Nat.reduceMul, Nat.reduceSub, Nat.reduceLeDiff, true_and, and_true, ↓reduceIte, not_false_eq_true, not_true_eq_false, nI_add, pk_mul, jn_ltT, jn_ltF, jn_leT, jn_leF, jn_eqT, jn_eqF, jn_lt0, jn_ge0, jn_eq0T, jn_eq0F, jn_in, jn_cl, Bool.toNat_true, jsh2]
        refine ih (fun j hj => ?_)
        rcases (show j < i ∨ j = i by omega) with w | w
        · exact al j w
        · subst w; exact z
      | false =>
        rw [show (jall C fun k => jev v R C (32 * s + 2 ^ k)) = false from Bool.eq_false_iff.mpr (fun w => by rw [jall_iff.mp w i hi] at z; cases z)] at kk
        simp (disch := omega) only [s10_61, s10_64, s10_65b0, s10_65b1, Option.some.injEq, exists_eq_left', exists_eq_left, List.cons_append, List.nil_append, List.length_nil, List.length_cons, Nat.reduceAdd, Nat.reduceMul, Nat.reduceSub, Nat.reduceLeDiff, true_and, and_true, ↓reduceIte, not_false_eq_true, not_true_eq_false, nI_add, pk_mul, jn_ltT, jn_ltF, jn_leT, jn_leF, jn_eqT, jn_eqF, jn_lt0, jn_ge0, jn_eq0T, jn_eq0F, jn_in, jn_cl, Bool.toNat_false]
        exact kk
  · subst e
    have jn : jN R C 1 = C := rfl
    rw [jn] at s2
    have kk : Q [.int (nI (jall R fun k => jev v R C (32 * 2 ^ k + s)).toNat)] h := k
    simp (disch := omega) only [s10_0, s10_1, s10_4, s10_5, s10_8, s10_11, s10_14, s10_15, s10_18, s10_21, s10_22, s10_23, Option.some.injEq, exists_eq_left', exists_eq_left, List.cons_append, List.nil_append, List.length_nil, List.length_cons, Nat.reduceAdd, Nat.reduceMul, Nat.reduceSub, Nat.reduceLeDiff, true_and, and_true, ↓reduceIte, not_false_eq_true, not_true_eq_false, nI_add, pk_mul, jn_ltT, jn_ltF, jn_leT, jn_leF, jn_eqT, jn_eqF, jn_lt0, jn_ge0, jn_eq0T, jn_eq0F, jn_in, jn_cl, jf_128_0 hR, jf_99_0 hR, hM.1]
    refine jloop (fun i => (∀ j, j < i → jev v R C (32 * 2 ^ j + s) = true) → jx_Go jxP (d + 1) 10 25 [.ref 128, .int (nI s), .int (nI 1), .int (nI (2 ^ R - 1)), .int (nI (2 ^ i))] [] h Q) R ?_ ?_ 0 (Nat.zero_le _) (fun j hj => by omega)
    · intro al
      rw [jall_iff.mpr al] at kk
      rw [s10_25]
      simp (disch := omega) only [s10_27, s10_28, s10_75, s10_76b0, s10_76b1, Option.some.injEq, exists_eq_left', exists_eq_left, List.cons_append, List.nil_append, List.length_nil, List.length_cons, Nat.reduceAdd, Nat.reduceMul, Nat.reduceSub, Nat.reduceLeDiff, true_and, and_true, ↓reduceIte, not_false_eq_true, not_true_eq_false, nI_add, pk_mul, jn_ltT, jn_ltF, jn_leT, jn_leF, jn_eqT, jn_eqF, jn_lt0, jn_ge0, jn_eq0T, jn_eq0F, jn_in, jn_cl]
      exact kk
    · intro i hi ih al
      have pi : 2 ^ i < 2 ^ R := Nat.pow_lt_pow_right (by decide) hi
      have p0 := Nat.two_pow_pos i
      have ev : ∀ (d : Nat) (Q : List Value → jxH → Prop), jx_Go jxP d 31 0 [.ref 99, .int (nI (2 ^ i)), .int (nI s)] [] h Q ↔ Q [.int (nI (jev v R C (32 * 2 ^ i + s)).toNat)] h := fun d Q => ma_isEven hR hM hr hc (by omega) pi (by omega)
      rw [s10_25]
      simp (disch := omega) only [s10_27, s10_28, s10_31, s10_32, s10_35, s10_36, s10_39, s10_41, s10_42, Option.some.injEq, exists_eq_left', exists_eq_left, List.cons_append, List.nil_append, List.length_nil, List.length_cons, Nat.reduceAdd, Nat.reduceMul, Nat.reduceSub, Nat.reduceLeDiff, true_and, and_true, ↓reduceIte, not_false_eq_true, not_true_eq_false, nI_add, pk_mul, jn_ltT, jn_ltF, jn_leT, jn_leF, jn_eqT, jn_eqF, jn_lt0, jn_ge0, jn_eq0T, jn_eq0F, jn_in, jn_cl, jf_128_0 hR, jc_of_99 hR, ev]
      cases z : jev v R C (32 * 2 ^ i + s) with
      | true =>
        simp (disch := omega) only [s10_45, s10_66, s10_68, s10_69, s10_70, s10_72, Option.some.injEq, exists_eq_left', exists_eq_left, List.cons_append, List.nil_append, List.length_nil, List.length_cons, Nat.reduceAdd, Nat.reduceMul, Nat.reduceSub, Nat.reduceLeDiff, true_and, and_true, ↓reduceIte, not_false_eq_true, not_true_eq_false, nI_add, pk_mul, jn_ltT, jn_ltF, jn_leT, jn_leF, jn_eqT, jn_eqF, jn_lt0, jn_ge0, jn_eq0T, jn_eq0F, jn_in, jn_cl, Bool.toNat_true, jsh2]
        refine ih (fun j hj => ?_)
        rcases (show j < i ∨ j = i by omega) with w | w
        · exact al j w
        · subst w; exact z
      | false =>
        rw [show (jall R fun k => jev v R C (32 * 2 ^ k + s)) = false from Bool.eq_false_iff.mpr (fun w => by rw [jall_iff.mp w i hi] at z; cases z)] at kk
        simp (disch := omega) only [s10_45, s10_48, s10_64, s10_65b0, s10_65b1, Option.some.injEq, exists_eq_left', exists_eq_left, List.cons_append, List.nil_append, List.length_nil, List.length_cons, Nat.reduceAdd, Nat.reduceMul, Nat.reduceSub, Nat.reduceLeDiff, true_and, and_true, ↓reduceIte, not_false_eq_true, not_true_eq_false, nI_add, pk_mul, jn_ltT, jn_ltF, jn_leT, jn_leF, jn_eqT, jn_eqF, jn_lt0, jn_ge0, jn_eq0T, jn_eq0F, jn_in, jn_cl, Bool.toNat_false]
        exact kk
theorem bl_classes1 (hP : jPa A) {v : Nat → Int32} {R C : Nat} (hM : jMk F A v R C) (hr : R ≤ 5) (hc : C ≤ 5) {b N : Nat} (hb : b ≤ 1) (hN : N = jN R C b) (hN1 : 1 ≤ N) (hN5 : N ≤ 5) (k : ∀ h' f, jR F (jua A 131 f) G g h' → jD h h' → Q [.int (nI (jcl0 v R C b))] h') : ∀ x, x ≤ 2 ^ N → 1 ≤ x → ∀ f h1 w4 w5 w6, (∀ s, 1 ≤ s → s < x → f s = nI (jfw (jpc v R C b) s)) → jR F (jua A 131 f) G g h1 → jD h h1 → jx_Go jxP (d + 2) 9 24 [.ref 128, .int (nI b), .int (nI (2 ^ N - 1)), .int (nI x), w4, w5, w6] [] h1 Q := by
  have pn := jp2 _ hN5
  have pn2 : 2 ≤ 2 ^ N := jp2' _ hN5 hN1
  refine jloop _ (2 ^ N) ?_ ?_
  · intro _ f h1 w4 w5 w6 hf hR1 hD1
    have e := hf (2 ^ N - 1) (by omega) (by omega)
    have kk := k h1 f hR1 hD1
    unfold jcl0 at kk
    rw [← hN] at kk
    have u : jua A 131 f 131 = f := jua_same
    rw [s9_24]
    simp (disch := omega) only [s9_25, s9_26, s9_136, s9_137, s9_140, s9_141, s9_142, Option.some.injEq, exists_eq_left', exists_eq_left, List.cons_append, List.nil_append, List.length_nil, List.length_cons, Nat.reduceAdd, Nat.reduceMul, Nat.reduceSub, Nat.reduceLeDiff, true_and, and_true, ↓reduceIte, not_false_eq_true, not_true_eq_false, nI_add, pk_mul, jn_ltT, jn_ltF, jn_leT, jn_leF, jn_eqT, jn_eqF, jn_lt0, jn_ge0, jn_eq0T, jn_eq0F, jn_in, jn_cl, jf_128_4 hR1, ja_131 hR1, u, e]
    exact kk
  · intro x hx ih x1 f h1 w4 w5 w6 hf hR1 hD1
    have hM1 : jMk F (jua A 131 f) v R C := hM.fr rfl rfl (jua_ne (by decide)) (jua_ne (by decide))
    have hP1 : jPa (jua A 131 f) := hP.fr (jua_ne (by decide)) (jua_ne (by decide))
    have u : jua A 131 f 131 = f := jua_same
    rw [s9_24]
    simp (disch := omega) only [s9_25, s9_26, s9_29, s9_30, s9_31, s9_32, Option.some.injEq, exists_eq_left', exists_eq_left, List.cons_append, List.nil_append, List.length_nil, List.length_cons, Nat.reduceAdd, Nat.reduceMul, Nat.reduceSub, Nat.reduceLeDiff, true_and, and_true, ↓reduceIte, not_false_eq_true, not_true_eq_false, nI_add, pk_mul, jn_ltT, jn_ltF, jn_leT, jn_leF, jn_eqT, jn_eqF, jn_lt0, jn_ge0, jn_eq0T, jn_eq0F, jn_in, jn_cl, jc_of_128 hR1]
    refine bl_isPeaceful hR1 hM1 hr hc hb x1 (by rw [← hN]; exact hx) ?_
    rw [jpk_pc hr hc hb (by omega)]
    obtain ⟨q1, q2⟩ := jpF_le x (by omega)
    have a0 := hP1.1 x (by omega)
    have a1 := hP1.1 (x + 1) (by omega)
    have nx : ∀ m, m = jfw (jpc v R C b) x → ∀ w5 w6, jx_Go jxP (d + 2) 9 122 [.ref 128, .int (nI b), .int (nI (2 ^ N - 1)), .int (nI x), .int (nI m), w5, w6] [] h1 Q := by
      intro m em w5 w6
      simp (disch := omega) only [s9_122, s9_123, s9_126, s9_127, s9_129, s9_130, s9_133, Option.some.injEq, exists_eq_left', exists_eq_left, List.cons_append, List.nil_append, List.length_nil, List.length_cons, Nat.reduceAdd, Nat.reduceMul, Nat.reduceSub, Nat.reduceLeDiff, true_and, and_true, ↓reduceIte, not_false_eq_true, not_true_eq_false, nI_add, pk_mul, jn_ltT, jn_ltF, jn_leT, jn_leF, jn_eqT, jn_eqF, jn_lt0, jn_ge0, jn_eq0T, jn_eq0F, jn_in, jn_cl, jf_128_4 hR1, ja_131 hR1, u]
      have hR2 := hR1.wi (a := 131) (f := upd f x (nI m)) rfl
      rw [jua_jua] at hR2
      refine ih (by omega) _ _ _ _ _ (fun s h1 h2 => ?_) hR2 (hD1.wi (by decide))
      by_cases z : s = x
      · subst z; rw [jupd_same, em]
      · rw [jupd_ne z]; exact hf s h1 (by omega)
    cases pc : jpc v R C b x with
    | true =>
      simp (disch := omega) only [s9_35, s9_38, s9_39, s9_42, s9_45, s9_47, s9_48, s9_51, s9_54, s9_55, s9_56, Option.some.injEq, exists_eq_left', exists_eq_left, List.cons_append, List.nil_append, List.length_nil, List.length_cons, Nat.reduceAdd, Nat.reduceMul, Nat.reduceSub, Nat.reduceLeDiff, true_and, and_true, ↓reduceIte, not_false_eq_true, not_true_eq_false, nI_add, pk_mul, jn_ltT, jn_ltF, jn_leT, jn_leF, jn_eqT, jn_eqF, jn_lt0, jn_ge0, jn_eq0T, jn_eq0F, jn_in, jn_cl, jf_128_1 hR1, jf_125_0 hR1, ja_126 hR1, a0, Bool.toNat_true]
      have n1 := nx 1 (jfw_p (by omega) x1 pc).symm
      rw [s9_58]
      rcases Nat.lt_or_ge (jpF x) (jpF (x + 1)) with w | w
      · simp (disch := omega) only [s9_60, s9_61, s9_64, s9_67, s9_68, s9_69, s9_70, s9_71, s9_74, s9_76, s9_77, Option.some.injEq, exists_eq_left', exists_eq_left, List.cons_append, List.nil_append, List.length_nil, List.length_cons, Nat.reduceAdd, Nat.reduceMul, Nat.reduceSub, Nat.reduceLeDiff, true_and, and_true, ↓reduceIte, not_false_eq_true, not_true_eq_false, nI_add, pk_mul, jn_ltT, jn_ltF, jn_leT, jn_leF, jn_eqT, jn_eqF, jn_lt0, jn_ge0, jn_eq0T, jn_eq0F, jn_in, jn_cl, jf_128_1 hR1, jf_125_0 hR1, ja_126 hR1, a1]
        exact n1 _ _
      · simp (disch := omega) only [s9_60, s9_61, s9_64, s9_67, s9_68, s9_69, s9_70, s9_71, Option.some.injEq, exists_eq_left', exists_eq_left, List.cons_append, List.nil_append, List.length_nil, List.length_cons, Nat.reduceAdd, Nat.reduceMul, Nat.reduceSub, Nat.reduceLeDiff, true_and, and_true, ↓reduceIte, not_false_eq_true, not_true_eq_false, nI_add, pk_mul, jn_ltT, jn_ltF, jn_leT, jn_leF, jn_eqT, jn_eqF, jn_lt0, jn_ge0, jn_eq0T, jn_eq0F, jn_in, jn_cl, jf_128_1 hR1, jf_125_0 hR1, ja_126 hR1, a1]
        exact n1 _ _
    | false =>
      simp (disch := omega) only [s9_35, s9_42, s9_45, s9_47, s9_48, s9_51, s9_54, s9_55, s9_56, Option.some.injEq, exists_eq_left', exists_eq_left, List.cons_append, List.nil_append, List.length_nil, List.length_cons, Nat.reduceAdd, Nat.reduceMul, Nat.reduceSub, Nat.reduceLeDiff, true_and, and_true, ↓reduceIte, not_false_eq_true, not_true_eq_false, nI_add, pk_mul, jn_ltT, jn_ltF, jn_leT, jn_leF, jn_eqT, jn_eqF, jn_lt0, jn_ge0, jn_eq0T, jn_eq0F, jn_in, jn_cl, jf_128_1 hR1, jf_125_0 hR1, ja_126 hR1, a0, Bool.toNat_false]
      refine jloop (fun p => jpF x ≤ p → ∀ m w6, 1 < m → jMinP m 1000 x p (fun s => jfw (jpc v R C b) (x - s) + jfw (jpc v R C b) s) → jx_Go jxP (d + 2) 9 58 [.ref 128, .int (nI b), .int (nI (2 ^ N - 1)), .int (nI x), .int (nI m), .int (nI p), w6] [] h1 Q) (jpF (x + 1)) ?_ ?_ (jpF x) q1 (Nat.le_refl _) 1000 _ (by omega) jMinP.z
      · intro _ m w6 m1 hm
        have hm1 := hm.1
        rw [s9_58]
        simp (disch := omega) only [s9_60, s9_61, s9_64, s9_67, s9_68, s9_69, s9_70, s9_71, Option.some.injEq, exists_eq_left', exists_eq_left, List.cons_append, List.nil_append, List.length_nil, List.length_cons, Nat.reduceAdd, Nat.reduceMul, Nat.reduceSub, Nat.reduceLeDiff, true_and, and_true, ↓reduceIte, not_false_eq_true, not_true_eq_false, nI_add, pk_mul, jn_ltT, jn_ltF, jn_leT, jn_leF, jn_eqT, jn_eqF, jn_lt0, jn_ge0, jn_eq0T, jn_eq0F, jn_in, jn_cl, jf_128_1 hR1, jf_125_0 hR1, ja_126 hR1, a1]
        exact nx m (jfw_min jpc_1 (by omega) x1 (by rw [pc]; decide) (hm.fin (by omega))) _ _
      · intro p hp ihp pX m w6 m1 hm
        obtain ⟨s1, s2⟩ := jpS_ok x (by omega) p (by omega) pX hp
        have s3 := jpt_lt x (by omega) _ s1 s2
        have as := hP1.2 p (by omega)
        have hm1 := hm.1
        have hm2 := hm.s (x := jfw (jpc v R C b) (x - jpS p) + jfw (jpc v R C b) (jpS p)) pX rfl
        generalize jpS p = s at *
        have f1 := hf (x - s) (by omega) (by omega)
        have f2 := hf s (by omega) (by omega)
        have g1 := jfw_1 (p := jpc v R C b) (x := x - s) (by omega) (by omega)
        have g2 := jfw_1 (p := jpc v R C b) (x := s) (by omega) (by omega)
        have g3 := jfw_le (p := jpc v R C b) (x := x - s) (by omega)
        have g4 := jfw_le (p := jpc v R C b) (x := s) (by omega)
        rw [s9_58]
        simp (disch := omega) only [s9_60, s9_61, s9_64, s9_67, s9_68, s9_69, s9_70, s9_71, s9_74, s9_76, s9_77, s9_80, s9_81, s9_84, s9_87, s9_89, s9_90, s9_92, s9_94, s9_95, s9_98, s9_99, s9_101, s9_102, s9_103, s9_104, s9_107, s9_109, s9_110, s9_111, s9_114, s9_116, s9_119, Option.some.injEq, exists_eq_left', exists_eq_left, List.cons_append, List.nil_append, List.length_nil, List.length_cons, Nat.reduceAdd, Nat.reduceMul, Nat.reduceSub, Nat.reduceLeDiff, true_and, and_true, ↓reduceIte, not_false_eq_true, not_true_eq_false, nI_add, pk_mul, jn_ltT, jn_ltF, jn_leT, jn_leF, jn_eqT, jn_eqF, jn_lt0, jn_ge0, jn_eq0T, jn_eq0F, jn_in, jn_cl, jf_128_1 hR1, jf_128_4 hR1, jf_125_0 hR1, jf_125_1 hR1, ja_126 hR1, ja_127 hR1, ja_131 hR1, a1, as, u, jn_sub, f1, f2, jmin2]
        exact ihp (by omega) _ _ (by omega) hm2
theorem bl_fewestClasses (hR : jR F A G g h) (hP : jPa A) {v : Nat → Int32} {R C : Nat} (hM : jMk F A v R C) (hr : R ≤ 5) (hc : C ≤ 5) (hr1 : 1 ≤ R) (hc1 : 1 ≤ C) {b : Nat} (hb : b ≤ 1) (k : ∀ h' f, jR F (jua A 131 f) G g h' → jD h h' → Q [.int (nI (jcl0 v R C b))] h') : jx_Go jxP (d + 2) 9 0 [.ref 128, .int (nI b), jx_u, jx_u, jx_u, jx_u, jx_u] [] h Q := by
  rcases (show b = 0 ∨ b = 1 by omega) with e | e
  · subst e
    have p := jp2 _ hr
    simp (disch := omega) only [s9_0, s9_1, s9_14, s9_15, s9_18, s9_21, s9_22, s9_23, Option.some.injEq, exists_eq_left', exists_eq_left, List.cons_append, List.nil_append, List.length_nil, List.length_cons, Nat.reduceAdd, Nat.reduceMul, Nat.reduceSub, Nat.reduceLeDiff, true_and, and_true, ↓reduceIte, not_false_eq_true, not_true_eq_false, nI_add, pk_mul, jn_ltT, jn_ltF, jn_leT, jn_leF, jn_eqT, jn_eqF, jn_lt0, jn_ge0, jn_eq0T, jn_eq0F, jn_in, jn_cl, jf_128_0 hR, jf_99_0 hR, hM.1]
    exact bl_classes1 hP hM hr hc hb (N := R) rfl hr1 hr k 1 (by omega) (Nat.le_refl _) (A 131) h _ _ _ (fun s h1 h2 => by omega) (by rw [jua_id]; exact hR) jD.rf
  · subst e
    have p := jp2 _ hc
    simp (disch := omega) only [s9_0, s9_1, s9_4, s9_5, s9_8, s9_11, s9_14, s9_15, s9_18, s9_21, s9_22, s9_23, Option.some.injEq, exists_eq_left', exists_eq_left, List.cons_append, List.nil_append, List.length_nil, List.length_cons, Nat.reduceAdd, Nat.reduceMul, Nat.reduceSub, Nat.reduceLeDiff, true_and, and_true, ↓reduceIte, not_false_eq_true, not_true_eq_false, nI_add, pk_mul, jn_ltT, jn_ltF, jn_leT, jn_leF, jn_eqT, jn_eqF, jn_lt0, jn_ge0, jn_eq0T, jn_eq0F, jn_in, jn_cl, jf_128_0 hR, jf_99_1 hR, hM.2.1]
    exact bl_classes1 hP hM hr hc hb (N := C) rfl hc1 hc k 1 (by omega) (Nat.le_refl _) (A 131) h _ _ _ (fun s h1 h2 => by omega) (by rw [jua_id]; exact hR) jD.rf
end CL9
