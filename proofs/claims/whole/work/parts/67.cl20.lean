/-! ===== the class: covers ===== -/
section CL20
variable {d : Nat} {F : Nat → Nat → Nat} {A : Nat → Nat → Int32} {G : Nat → Option Nat} {g : Nat → Int64} {h : jxH} {Q : List Value → jxH → Prop}
/-- m blocks of P or fewer cover L -/
def jCL (P : Nat → Prop) (m L : Nat) : Prop := ∃ l : List Nat, l.length ≤ m ∧ (∀ B, B ∈ l → P B) ∧ ∀ p, L.testBit p = true → ∃ B, B ∈ l ∧ B.testBit p = true
theorem jCL_0 {P : Nat → Prop} {m : Nat} : jCL P m 0 := ⟨[], Nat.zero_le _, fun B hB => (by cases hB), fun p hp => by rw [Nat.zero_testBit] at hp; cases hp⟩
theorem jCL_z {P : Nat → Prop} {L : Nat} (e : jCL P 0 L) : L = 0 := by
  obtain ⟨l, h1, h2, h3⟩ := e
  apply Nat.eq_of_testBit_eq
  intro i
  rw [Nat.zero_testBit]
  apply Bool.eq_false_iff.mpr
  intro w
  obtain ⟨B, hB, _⟩ := h3 i w
  cases l with
  | nil => cases hB
  | cons a l => rw [List.length_cons] at h1; omega
theorem jCL_add {P : Nat → Prop} {m L B : Nat} (hB : P B) (e : jCL P m (jan L B)) : jCL P (m + 1) L := by
  obtain ⟨l, h1, h2, h3⟩ := e
  refine ⟨B :: l, by rw [List.length_cons]; omega, fun B' hB' => ?_, fun p hp => ?_⟩
  · rcases List.mem_cons.mp hB' with w | w
    · rw [w]; exact hB
    · exact h2 B' w
  · cases u : B.testBit p with
    | true => exact ⟨B, List.mem_cons_self, u⟩
    | false =>
      obtain ⟨B', b1, b2⟩ := h3 p (by rw [jan_bit, hp, u]; rfl)
      exact ⟨B', List.mem_cons_of_mem _ b1, b2⟩
theorem jCL_cut {P : Nat → Prop} {m L p : Nat} (e : jCL P m L) (hp : L.testBit p = true) : ∃ m' B, m = m' + 1 ∧ P B ∧ B.testBit p = true ∧ jCL P m' (jan L B) := by
  obtain ⟨l, h1, h2, h3⟩ := e
  obtain ⟨B, b1, b2⟩ := h3 p hp
  obtain ⟨l1, l2, e1⟩ := List.append_of_mem b1
  have len : l.length = l1.length + (l2.length + 1) := by rw [e1, List.length_append, List.length_cons]
  refine ⟨m - 1, B, by omega, h2 B b1, b2, l1 ++ l2, by rw [List.length_append]; omega, fun B' hB' => h2 B' ?_, fun q hq => ?_⟩
  · rw [e1]
    rcases List.mem_append.mp hB' with w | w
    · exact List.mem_append.mpr (Or.inl w)
    · exact List.mem_append.mpr (Or.inr (List.mem_cons_of_mem _ w))
  · rw [jan_bit, Bool.and_eq_true] at hq
    obtain ⟨B', c1, c2⟩ := h3 q hq.1
    rw [e1] at c1
    refine ⟨B', ?_, c2⟩
    rcases List.mem_append.mp c1 with w | w
    · exact List.mem_append.mpr (Or.inl w)
    · rcases List.mem_cons.mp w with w | w
      · rw [w] at c2; rw [c2] at hq; cases hq.2
      · exact List.mem_append.mpr (Or.inr w)
theorem jCL_mono {P : Nat → Prop} {m m' L : Nat} (e : jCL P m L) (h1 : m ≤ m') : jCL P m' L := by
  obtain ⟨l, a1, a2⟩ := e
  exact ⟨l, by omega, a2⟩
theorem jCL_fam {P P' : Nat → Prop} (hP : ∀ B, P B → B = 0 ∨ ∃ B', P' B' ∧ ∀ p, B.testBit p = true → B'.testBit p = true) {m L : Nat} (e : jCL P m L) : jCL P' m L := by
  obtain ⟨l, h1, h2, h3⟩ := e
  have key : ∀ l : List Nat, (∀ B, B ∈ l → P B) → ∃ l' : List Nat, l'.length ≤ l.length ∧ (∀ B, B ∈ l' → P' B) ∧ ∀ p, (∃ B, B ∈ l ∧ B.testBit p = true) → ∃ B, B ∈ l' ∧ B.testBit p = true := by
    intro l
    induction l with
    | nil => intro _; exact ⟨[], Nat.le_refl _, fun B hB => (by cases hB), fun p ⟨B, hB, _⟩ => by cases hB⟩
    | cons a l ih =>
      intro hl
      obtain ⟨l', i1, i2, i3⟩ := ih (fun B hB => hl B (List.mem_cons_of_mem _ hB))
      rcases hP a (hl a List.mem_cons_self) with w | ⟨B', w1, w2⟩
      · refine ⟨l', by rw [List.length_cons]; omega, i2, fun p ⟨B, hB, hb⟩ => ?_⟩
        rcases List.mem_cons.mp hB with z | z
        · rw [z, w, Nat.zero_testBit] at hb; cases hb
        · exact i3 p ⟨B, z, hb⟩
      · refine ⟨B' :: l', by rw [List.length_cons, List.length_cons]; omega, fun B hB => ?_, fun p ⟨B, hB, hb⟩ => ?_⟩
        · rcases List.mem_cons.mp hB with z | z
          · rw [z]; exact w1
          · exact i2 B z
        · rcases List.mem_cons.mp hB with z | z
          · rw [z] at hb; exact ⟨B', List.mem_cons_self, w2 p hb⟩
          · obtain ⟨B2, c1, c2⟩ := i3 p ⟨B, z, hb⟩
            exact ⟨B2, List.mem_cons_of_mem _ c1, c2⟩
  obtain ⟨l', i1, i2, i3⟩ := key l h2
  exact ⟨l', by omega, i2, fun p hp => i3 p (h3 p hp)⟩
theorem jcvt_CL {P : Nat → Nat} {N : Nat} : ∀ m L, L < 33554432 → (jcvt P N m L 0 = true ↔ jCL (fun B => ∃ y, 1 ≤ y ∧ y < N ∧ P y = B) m L) := by
  intro m
  induction m with
  | zero =>
    intro L _
    show (L == 0) = true ↔ _
    rw [beq_iff_eq]
    exact ⟨fun w => by rw [w]; exact jCL_0, jCL_z⟩
  | succ m ih =>
    intro L hL
    rw [jcvt_iff]
    constructor
    · rintro (w | ⟨y, y1, y2, y3, y4⟩)
      · rw [w]; exact jCL_0
      · exact jCL_add ⟨y, y2, y1, rfl⟩ ((ih _ (jan_lt (n := 25) hL)).mp y4)
    · intro e
      by_cases z : L = 0
      · exact Or.inl z
      · right
        obtain ⟨l1, l2, _⟩ := jlo_ok (by omega) hL
        obtain ⟨m', B, e1, ⟨y, y1, y2, y3⟩, e3, e4⟩ := jCL_cut e l2
        have : m' = m := by omega
        subst this
        subst y3
        exact ⟨y, y2, y1, e3, (ih _ (jan_lt (n := 25) hL)).mpr e4⟩
/-- the blocks of columns y, and those that are listed, cover alike -/
theorem jGl_up {v : Nat → Int32} {R C x m : Nat} {E : Nat → Nat} (hG : jGl v R C x (2 ^ R) m E) {y : Nat} (y2 : y < 2 ^ C) : jgb v R C x y = 0 ∨ ∃ B, (∃ k, k < m ∧ E k = B) ∧ ∀ p, (jgb v R C x y).testBit p = true → B.testBit p = true := by
  have yC : ∀ c, y.testBit c = true → c < C := fun c hc' => by
    rcases Nat.lt_or_ge c C with w | w
    · exact w
    · rw [Nat.testBit_lt_two_pow (Nat.lt_of_lt_of_le y2 (Nat.pow_le_pow_right (by decide) w))] at hc'; cases hc'
  have bits : ∀ y p, (jgb v R C x y).testBit p = true ↔ p < 5 * R ∧ p % 5 < C ∧ (jrw v R C y x).testBit (p / 5) = true ∧ y.testBit (p % 5) = true := by
    intro y p
    unfold jgb jpl
    rw [jmk_bit, Bool.and_eq_true, Bool.and_eq_true, Bool.and_eq_true, decide_eq_true_iff, decide_eq_true_iff]
    exact ⟨fun w => ⟨w.1, w.2.1.1, w.2.1.2, w.2.2⟩, fun w => ⟨w.1, ⟨w.2.1, w.2.2.1⟩, w.2.2.2⟩⟩
  by_cases r0 : jrw v R C y x = 0
  · left
    apply Nat.eq_of_testBit_eq
    intro i
    rw [Nat.zero_testBit]
    apply Bool.eq_false_iff.mpr
    intro w
    have := ((bits y i).mp w).2.2.1
    rw [r0, Nat.zero_testBit] at this
    cases this
  · by_cases y0 : y = 0
    · left
      apply Nat.eq_of_testBit_eq
      intro i
      rw [Nat.zero_testBit]
      apply Bool.eq_false_iff.mpr
      intro w
      have := ((bits y i).mp w).2.2.2
      rw [y0, Nat.zero_testBit] at this
      cases this
    · right
      have sub : ∀ c, y.testBit c = true → (jcw v R C x (jrw v R C y x)).testBit c = true := fun c hc => jcw_bit.mpr ⟨yC c hc, fun r hr ha => (jrw_bit.mp ha).2 c (yC c hc) hc⟩
      have ne : jcw v R C x (jrw v R C y x) ≠ 0 := by
        intro z
        obtain ⟨c, hc⟩ := Nat.exists_testBit_of_ne_zero y0
        have := sub c hc
        rw [z, Nat.zero_testBit] at this
        cases this
      have fix : jrw v R C (jcw v R C x (jrw v R C y x)) x = jrw v R C y x := by
        apply Nat.eq_of_testBit_eq
        intro r
        apply Bool.eq_iff_iff.mpr
        rw [jrw_bit]
        constructor
        · rintro ⟨h1, h2⟩
          exact jrw_bit.mpr ⟨h1, fun c hc hy => h2 c hc (sub c hy)⟩
        · intro w
          refine ⟨(jrw_bit.mp w).1, fun c hc hy => ?_⟩
          exact (jcw_bit.mp hy).2 r (jrw_bit.mp w).1 w
      have lt : jrw v R C y x < 2 ^ R := jmk_lt R
      obtain ⟨k, k1, k2⟩ := hG.1 (jrw v R C y x) (by omega) lt ne fix
      refine ⟨_, ⟨k, k1, k2⟩, fun p hp => ?_⟩
      obtain ⟨a1, a2, a3, a4⟩ := (bits y p).mp hp
      exact (bits _ p).mpr ⟨a1, a2, by rw [fix]; exact a3, sub _ a4⟩
theorem jGl_CL {v : Nat → Int32} {R C x m : Nat} {E : Nat → Nat} (hG : jGl v R C x (2 ^ R) m E) {n L : Nat} : jCL (fun B => ∃ y, 1 ≤ y ∧ y < 2 ^ C ∧ jgb v R C x y = B) n L ↔ jCL (fun B => ∃ k, k < m ∧ E k = B) n L := by
  constructor
  · refine jCL_fam (fun B ⟨y, y1, y2, y3⟩ => ?_)
    subst y3
    exact jGl_up hG y2
  · refine jCL_fam (fun B ⟨k, k1, k2⟩ => ?_)
    obtain ⟨y, y1, y2, y3⟩ := hG.2 k k1
    exact Or.inr ⟨B, ⟨y, y1, y2, by rw [← y3, k2]⟩, fun p hp => hp⟩
/-- no block has two fooling places -/
theorem jgb_lie {v : Nat → Int32} {R C x y p q : Nat} (hr : R ≤ 5) (hc : C ≤ 5) (hx : x < 2) (hp : (jgb v R C x y).testBit p = true) (hq : (jgb v R C x y).testBit q = true) : jlie v R C p q = true := by
  have bits : ∀ p, (jgb v R C x y).testBit p = true → p < 5 * R ∧ p % 5 < C ∧ (jrw v R C y x).testBit (p / 5) = true ∧ y.testBit (p % 5) = true := by
    intro p w
    unfold jgb jpl at w
    rw [jmk_bit, Bool.and_eq_true, Bool.and_eq_true, Bool.and_eq_true, decide_eq_true_iff, decide_eq_true_iff] at w
    exact ⟨w.1, w.2.1.1, w.2.1.2, w.2.2⟩
  obtain ⟨p1, p2, p3, p4⟩ := bits p hp
  obtain ⟨q1, q2, q3, q4⟩ := bits q hq
  obtain ⟨b1, b2, _⟩ := jlie1 p (by omega) q (by omega)
  have no : jhz v R C (32 * (2 ^ (p / 5) ||| 2 ^ (q / 5)) + (2 ^ (p % 5) ||| 2 ^ (q % 5))) (nI (1 - x)) = false := by
    apply Bool.eq_false_iff.mpr
    intro w
    obtain ⟨r, c, h1, h2, h3, h4, h5⟩ := jhz_iff.mp w
    rw [show (32 * (2 ^ (p / 5) ||| 2 ^ (q / 5)) + (2 ^ (p % 5) ||| 2 ^ (q % 5))) / 32 = 2 ^ (p / 5) ||| 2 ^ (q / 5) by omega, Nat.testBit_or, Nat.testBit_two_pow, Nat.testBit_two_pow, Bool.or_eq_true, decide_eq_true_iff, decide_eq_true_iff] at h3
    rw [show (32 * (2 ^ (p / 5) ||| 2 ^ (q / 5)) + (2 ^ (p % 5) ||| 2 ^ (q % 5))) % 32 = 2 ^ (p % 5) ||| 2 ^ (q % 5) by omega, Nat.testBit_or, Nat.testBit_two_pow, Nat.testBit_two_pow, Bool.or_eq_true, decide_eq_true_iff, decide_eq_true_iff] at h4
    have rr : (jrw v R C y x).testBit r = true := by rcases h3 with z | z <;> rw [← z] <;> assumption
    have cc : y.testBit c = true := by rcases h4 with z | z <;> rw [← z] <;> assumption
    exact (jrw_bit.mp rr).2 c h2 cc h5
  unfold jlie
  rw [jev_iff]
  rintro ⟨a0, a1⟩
  rcases (show x = 0 ∨ x = 1 by omega) with e | e <;> subst e
  · rw [a1] at no; cases no
  · rw [a0] at no; cases no
theorem jcN_cu {c : Nat → Nat} {r0 : Nat} (h0 : r0 < 5) (h1 : c r0 < 5) : jcN (jcu c r0 5) + 1 = jcN c := by
  unfold jcN
  have z : ∀ n, jsum n (fun r => jcsn (jcu c r0 5 r)) + (if r0 < n then 1 else 0) = jsum n fun r => jcsn (c r) := by
    intro n
    induction n with
    | zero => rfl
    | succ n ih =>
      rw [jsum_s, jsum_s]
      by_cases w : n = r0
      · subst w
        rw [if_neg (by omega)] at ih
        rw [jcu_s, if_pos (by omega)]
        unfold jcsn at ih ⊢
        rw [if_pos h1, if_neg (by omega)]
        omega
      · rw [jcu_n w]
        by_cases w2 : r0 < n
        · rw [if_pos w2] at ih; rw [if_pos (by omega)]; omega
        · rw [if_neg w2] at ih; rw [if_neg (by omega)]; omega
  have := z 5
  rw [if_pos h0] at this
  exact this
theorem jcN_none {c : Nat → Nat} (h1 : ∀ r, r < 5 → 5 ≤ c r) : jcN c = 0 := by
  unfold jcN
  have z : ∀ n, n ≤ 5 → jsum n (fun r => jcsn (c r)) = 0 := by
    intro n
    induction n with
    | zero => intro _; rfl
    | succ n ih =>
      intro hn
      rw [jsum_s, ih (by omega)]
      unfold jcsn
      rw [if_neg (by have := h1 n (by omega); omega)]
  exact z 5 (Nat.le_refl _)
theorem jcN_list : ∀ (l : List Nat) (c : Nat → Nat), (∀ B, B ∈ l → ∀ r r', r < 5 → r' < 5 → r ≠ r' → c r < 5 → c r' < 5 → B.testBit (5 * r + c r) = true → B.testBit (5 * r' + c r') = true → False) → (∀ r, r < 5 → c r < 5 → ∃ B, B ∈ l ∧ B.testBit (5 * r + c r) = true) → jcN c ≤ l.length := by
  intro l
  induction l with
  | nil =>
    intro c _ h2
    rw [jcN_none (fun r hr => by
      rcases Nat.lt_or_ge (c r) 5 with w | w
      · obtain ⟨B, hB, _⟩ := h2 r hr w; cases hB
      · exact w)]
    exact Nat.zero_le _
  | cons B l ih =>
    intro c h1 h2
    rw [List.length_cons]
    by_cases w : ∃ r0, r0 < 5 ∧ c r0 < 5 ∧ B.testBit (5 * r0 + c r0) = true
    · obtain ⟨r0, a1, a2, a3⟩ := w
      have e := jcN_cu a1 a2
      have := ih (jcu c r0 5) (fun B' hB' r r' g1 g2 g3 g4 g5 g6 g7 => by
        have n1 : r ≠ r0 := fun z => by rw [z, jcu_s] at g4; omega
        have n2 : r' ≠ r0 := fun z => by rw [z, jcu_s] at g5; omega
        rw [jcu_n n1] at g4 g6
        rw [jcu_n n2] at g5 g7
        exact h1 B' (List.mem_cons_of_mem _ hB') r r' g1 g2 g3 g4 g5 g6 g7) (fun r hr hc => by
        have n1 : r ≠ r0 := fun z => by rw [z, jcu_s] at hc; omega
        rw [jcu_n n1] at hc ⊢
        obtain ⟨B', b1, b2⟩ := h2 r hr hc
        rcases List.mem_cons.mp b1 with z | z
        · rw [z] at b2
          exact (h1 B List.mem_cons_self r r0 hr a1 n1 hc a2 b2 a3).elim
        · exact ⟨B', z, b2⟩)
      omega
    · have := ih c (fun B' hB' => h1 B' (List.mem_cons_of_mem _ hB')) (fun r hr hc => by
        obtain ⟨B', b1, b2⟩ := h2 r hr hc
        rcases List.mem_cons.mp b1 with z | z
        · rw [z] at b2; exact absurd ⟨r, hr, hc, b2⟩ w
        · exact ⟨B', z, b2⟩)
      omega
/-- those of the choice that lie in L -/
def jci (c : Nat → Nat) (L : Nat) : Nat → Nat := fun r => if c r < 5 ∧ L.testBit (5 * r + c r) = true then c r else 5
theorem jci_S {c : Nat → Nat} {L : Nat} (hc : ∀ r, c r < 6) : L &&& jcS c = jcS (jci c L) := by
  apply Nat.eq_of_testBit_eq
  intro i
  unfold jcS
  rw [Nat.testBit_and, jmk_bit, jmk_bit]
  by_cases w : i < 25
  · rw [decide_eq_true w, Bool.true_and, Bool.true_and]
    apply Bool.eq_iff_iff.mpr
    rw [Bool.and_eq_true, beq_iff_eq, beq_iff_eq]
    unfold jci
    constructor
    · rintro ⟨a1, a2⟩
      rw [if_pos ⟨by omega, by rw [a2, Nat.div_add_mod]; exact a1⟩]
      exact a2
    · intro a
      by_cases z : c (i / 5) < 5 ∧ L.testBit (5 * (i / 5) + c (i / 5)) = true
      · rw [if_pos z] at a
        rw [a, Nat.div_add_mod] at z
        exact ⟨z.2, a⟩
      · rw [if_neg z] at a; omega
  · rw [decide_eq_false w, Bool.false_and, Bool.false_and, Bool.and_false]
theorem jCL_fool {v : Nat → Int32} {R C x m n L : Nat} {E : Nat → Nat} {c : Nat → Nat} (hr : R ≤ 5) (hc : C ≤ 5) (hx : x < 2) (hG : jGl v R C x (2 ^ R) m E) (hg : jGc v R C (nI x) c) (e : jCL (fun B => ∃ k, k < m ∧ E k = B) n L) : jcN (jci c L) ≤ n := by
  obtain ⟨l, h1, h2, h3⟩ := e
  refine Nat.le_trans (jcN_list l (jci c L) (fun B hB r r' g1 g2 g3 g4 g5 g6 g7 => ?_) (fun r hr' h5 => ?_)) h1
  · obtain ⟨k, k1, k2⟩ := h2 B hB
    obtain ⟨y, y1, y2, y3⟩ := hG.2 k k1
    rw [k2] at y3
    rw [y3] at g6 g7
    have ci : ∀ r, jci c L r < 5 → jci c L r = c r := by
      intro r h5
      unfold jci at h5 ⊢
      split at h5
      case isTrue z => rw [if_pos z]
      case isFalse z => omega
    have c4 := ci r g4
    have c5 := ci r' g5
    rw [c4] at g4 g6
    rw [c5] at g5 g7
    rcases Nat.lt_or_ge r' r with z | z
    · have := hg.2.2 r r' z g4 g5
      rw [jgb_lie hr hc hx g7 g6] at this
      cases this
    · have := hg.2.2 r' r (by omega) g5 g4
      rw [jgb_lie hr hc hx g6 g7] at this
      cases this
  · apply h3
    unfold jci at h5 ⊢
    split at h5
    case isTrue z => rw [if_pos z]; exact z.2
    case isFalse z => omega
end CL20
