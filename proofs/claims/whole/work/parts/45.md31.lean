/-! ===== the reference: part ===== -/
section MD31
variable {d : Nat} {F : Nat → Nat → Nat} {A : Nat → Nat → Int32} {G : Nat → Option Nat} {g : Nat → Int64} {h : jxH} {Q : List Value → jxH → Prop}
/-- the places of a block, four to a row; all places -/
def jp4 (R B : Nat) : Nat := jmk (4 * R) fun p => (B / 32).testBit (p / 4) && (B % 32).testBit (p % 4)
def jw4 (R C : Nat) : Nat := jmk (4 * R) fun p => decide (p % 4 < C)
theorem jsh4 : ∀ y, y < 32 → ∀ r, r < 4 → nI y <<< (nI (4 * r) &&& 31) = nI (y * 2 ^ (4 * r)) := by decide +kernel
theorem jmk4 {p : Nat → Bool} {r y : Nat} (hy : y < 16) (e : ∀ j, j < 4 → p (4 * r + j) = y.testBit j) : jmk (4 * r) p ||| y * 2 ^ (4 * r) = jmk (4 * (r + 1)) p := by
  apply Nat.eq_of_testBit_eq
  intro i
  rw [Nat.testBit_or, jmk_bit, jmk_bit, Nat.testBit_mul_two_pow]
  by_cases w : i < 4 * r
  · rw [decide_eq_true w, decide_eq_true (show i < 4 * (r + 1) by omega), decide_eq_false (show ¬ 4 * r ≤ i by omega), Bool.false_and, Bool.or_false]
  · rw [decide_eq_false w, Bool.false_and, Bool.false_or, decide_eq_true (show 4 * r ≤ i by omega), Bool.true_and]
    by_cases w2 : i < 4 * (r + 1)
    · rw [decide_eq_true w2, Bool.true_and, ← e (i - 4 * r) (by omega), show 4 * r + (i - 4 * r) = i by omega]
    · rw [decide_eq_false w2, Bool.false_and]
      exact Nat.testBit_lt_two_pow (Nat.lt_of_lt_of_le hy (Nat.le_trans (show 16 ≤ 2 ^ 4 by decide) (Nat.pow_le_pow_right (by decide) (by omega))))
theorem jmk4f {p : Nat → Bool} {r : Nat} (e : ∀ j, j < 4 → p (4 * r + j) = false) : jmk (4 * (r + 1)) p = jmk (4 * r) p := jmk_skip (4 * (r + 1)) (by omega) (fun i h1 h2 => by
  have := e (i - 4 * r) (by omega)
  rwa [show 4 * r + (i - 4 * r) = i by omega] at this)
theorem jp4_lt {R B : Nat} (hr : R ≤ 4) : jp4 R B < 65536 := Nat.lt_of_lt_of_le (jmk_lt _) (Nat.le_trans (Nat.pow_le_pow_right (by decide) (show 4 * R ≤ 16 by omega)) (by decide))
theorem jw4_lt {R C : Nat} (hr : R ≤ 4) : jw4 R C < 65536 := Nat.lt_of_lt_of_le (jmk_lt _) (Nat.le_trans (Nat.pow_le_pow_right (by decide) (show 4 * R ≤ 16 by omega)) (by decide))
/-- an even block -/
def jeb (v : Nat → Int32) (R C B : Nat) : Bool := jblk R C B && jev v R C B
/-- n even blocks or fewer part L -/
def jpn (v : Nat → Int32) (R C n L : Nat) : Bool := match n with
  | 0 => L == 0
  | n + 1 => L == 0 || jany 1024 fun B => (jeb v R C B && (jan (jp4 R B) L == 0 && (jp4 R B).testBit (jlo L))) && jpn v R C n (jan L (jp4 R B))
theorem jpn_iff {v : Nat → Int32} {R C n L : Nat} : jpn v R C (n + 1) L = true ↔ L = 0 ∨ ∃ B, B < 1024 ∧ jeb v R C B = true ∧ jan (jp4 R B) L = 0 ∧ (jp4 R B).testBit (jlo L) = true ∧ jpn v R C n (jan L (jp4 R B)) = true := by
  show (L == 0 || jany 1024 _) = true ↔ _
  rw [Bool.or_eq_true, beq_iff_eq, jany_iff]
  refine or_congr Iff.rfl (exists_congr fun y => ?_)
  rw [Bool.and_eq_true, Bool.and_eq_true, Bool.and_eq_true, beq_iff_eq]
  exact ⟨fun w => ⟨w.1, w.2.1.1, w.2.1.2.1, w.2.1.2.2, w.2.2⟩, fun w => ⟨w.1, ⟨w.2.1, w.2.2.1, w.2.2.2.1⟩, w.2.2.2.2⟩⟩
theorem jpn_z {v : Nat → Int32} {R C n : Nat} : jpn v R C n 0 = true := by
  cases n with
  | zero => rfl
  | succ n => exact jpn_iff.mpr (Or.inl rfl)
/-- the fewest parts of L -/
def jps (v : Nat → Int32) (R C L : Nat) : Nat := jlst (fun n => jpn v R C n L) 100
theorem jps_0 {v : Nat → Int32} {R C : Nat} : jps v R C 0 = 0 := jlst_at (by omega) jpn_z (fun j hj => by omega)
/-- the best of the first k -/
def jrm (E : Nat → Nat) (s L : Nat) (P : Nat → Nat) (k : Nat) : Nat := match k with
  | 0 => 100
  | k + 1 => if (E k &&& s = 0 ∧ (E k).testBit (jlo L) = true) ∧ 1 + P (s ||| E k) < jrm E s L P k then 1 + P (s ||| E k) else jrm E s L P k
theorem jrm_s {E : Nat → Nat} {s L : Nat} {P : Nat → Nat} {k : Nat} : jrm E s L P (k + 1) = if (E k &&& s = 0 ∧ (E k).testBit (jlo L) = true) ∧ 1 + P (s ||| E k) < jrm E s L P k then 1 + P (s ||| E k) else jrm E s L P k := rfl
theorem jrm_le {E : Nat → Nat} {s L : Nat} {P : Nat → Nat} : ∀ k, jrm E s L P k ≤ 100 ∧ (∀ j, j < k → E j &&& s = 0 → (E j).testBit (jlo L) = true → jrm E s L P k ≤ 1 + P (s ||| E j)) ∧ (jrm E s L P k = 100 ∨ ∃ j, j < k ∧ E j &&& s = 0 ∧ (E j).testBit (jlo L) = true ∧ jrm E s L P k = 1 + P (s ||| E j)) := by
  intro k
  induction k with
  | zero => exact ⟨Nat.le_refl _, fun j hj => by omega, Or.inl rfl⟩
  | succ k ih =>
    obtain ⟨i1, i2, i3⟩ := ih
    rw [jrm_s]
    split
    case isTrue w =>
      refine ⟨by omega, fun j hj a b => ?_, Or.inr ⟨k, by omega, w.1.1, w.1.2, rfl⟩⟩
      rcases (show j < k ∨ j = k by omega) with u | u
      · have := i2 j u a b; omega
      · subst u; exact Nat.le_refl _
    case isFalse w =>
      refine ⟨i1, fun j hj a b => ?_, ?_⟩
      · rcases (show j < k ∨ j = k by omega) with u | u
        · exact i2 j u a b
        · subst u
          rcases Nat.lt_or_ge (1 + P (s ||| E j)) (jrm E s L P j) with y | y
          · exact absurd ⟨⟨a, b⟩, y⟩ w
          · exact y
      · rcases i3 with i3 | ⟨j, j1, j2⟩
        · exact Or.inl i3
        · exact Or.inr ⟨j, by omega, j2⟩
theorem jan_sub {x y : Nat} : jan x y = 0 ↔ ∀ i, x.testBit i = true → y.testBit i = true := by
  constructor
  · intro w i hi
    have := congrArg (fun z => z.testBit i) w
    rw [jan_bit, hi, Bool.true_and, Nat.zero_testBit] at this
    cases q : y.testBit i with
    | true => rfl
    | false => rw [q] at this; cases this
  · intro w
    apply Nat.eq_of_testBit_eq
    intro i
    rw [jan_bit, Nat.zero_testBit]
    cases q : x.testBit i with
    | false => rfl
    | true => rw [w i q]; rfl
theorem jan_le {x y : Nat} (e : jan x y = 0) : x ≤ y := by
  have : x &&& y = x := by
    apply Nat.eq_of_testBit_eq
    intro i
    rw [Nat.testBit_and]
    cases q : x.testBit i with
    | false => rfl
    | true => rw [jan_sub.mp e i q]; rfl
  rw [← this]
  exact Nat.and_le_right
theorem jand_0 {x y : Nat} : x &&& y = 0 ↔ ∀ i, x.testBit i = true → y.testBit i = false := by
  constructor
  · intro w i hi
    have := congrArg (fun z => z.testBit i) w
    rw [Nat.testBit_and, hi, Bool.true_and, Nat.zero_testBit] at this
    exact this
  · intro w
    apply Nat.eq_of_testBit_eq
    intro i
    rw [Nat.testBit_and, Nat.zero_testBit]
    cases q : x.testBit i with
    | false => rfl
    | true => rw [w i q]; rfl
/-- the rows evenPlaces hold the even blocks -/
def jEv (v : Nat → Int32) (R C n m : Nat) (E : Nat → Nat) : Prop := (∀ B, B < n → jeb v R C B = true → ∃ k, k < m ∧ E k = jp4 R B) ∧ ∀ k, k < m → ∃ B, B < n ∧ jeb v R C B = true ∧ E k = jp4 R B
theorem jp4_sub {R C B : Nat} (hc : C ≤ 4) (hb : jblk R C B = true) : jan (jp4 R B) (jw4 R C) = 0 := by
  have hb' := jblk_iff.mp hb
  apply jan_sub.mpr
  intro i hi
  unfold jp4 at hi
  unfold jw4
  rw [jmk_bit, Bool.and_eq_true, Bool.and_eq_true] at hi
  rw [jmk_bit, hi.1, Bool.true_and]
  apply decide_eq_true
  rcases Nat.lt_or_ge (i % 4) C with w | w
  · exact w
  · have := Nat.testBit_lt_two_pow (x := B % 32) (i := i % 4) (Nat.lt_of_lt_of_le hb'.2.2.2 (Nat.pow_le_pow_right (by decide) w))
    rw [this] at hi
    cases hi.2.2
theorem jps_rm {v : Nat → Int32} {R C m s : Nat} {E : Nat → Nat} (hr : R ≤ 4) (hc : C ≤ 4) (hE : jEv v R C 1024 m E) (hs : jan s (jw4 R C) = 0) (hL : jan (jw4 R C) s ≠ 0) : jps v R C (jan (jw4 R C) s) = jrm E s (jan (jw4 R C) s) (fun t => jps v R C (jan (jw4 R C) t)) m := by
  obtain ⟨r1, r2, r3⟩ := jrm_le (E := E) (s := s) (L := jan (jw4 R C) s) (P := fun t => jps v R C (jan (jw4 R C) t)) m
  obtain ⟨p1, p2, p3⟩ := jlst_le (p := fun n => jpn v R C n (jan (jw4 R C) s)) 100
  have p1' : jps v R C (jan (jw4 R C) s) ≤ 100 := p1
  apply Nat.le_antisymm
  · rcases r3 with r3 | ⟨j, j1, j2, j3, j4⟩
    · omega
    · rw [jan_or] at j4
      obtain ⟨B, hB, eB, eE⟩ := hE.2 j j1
      rw [eE] at j2 j3 j4
      have eb := eB
      unfold jeb at eb
      rw [Bool.and_eq_true] at eb
      obtain ⟨q1, q2, q3⟩ := jlst_le (p := fun n => jpn v R C n (jan (jan (jw4 R C) s) (jp4 R B))) 100
      rcases Nat.lt_or_ge (jps v R C (jan (jan (jw4 R C) s) (jp4 R B))) 100 with u | u
      · have t := q2 u
        have t2 : jpn v R C (jps v R C (jan (jan (jw4 R C) s) (jp4 R B)) + 1) (jan (jw4 R C) s) = true := jpn_iff.mpr (Or.inr ⟨B, hB, eB, jan_sub.mpr (fun i hi => by
          rw [jan_bit, jan_sub.mp (jp4_sub hc eb.1) i hi, jand_0.mp j2 i hi]
          rfl), j3, t⟩)
        rcases Nat.lt_or_ge (jps v R C (jan (jan (jw4 R C) s) (jp4 R B)) + 1) (jps v R C (jan (jw4 R C) s)) with y | y
        · rw [p3 _ y] at t2; cases t2
        · omega
      · omega
  · rcases Nat.lt_or_ge (jps v R C (jan (jw4 R C) s)) 100 with u | u
    · have t := p2 u
      have t' : jpn v R C (jps v R C (jan (jw4 R C) s)) (jan (jw4 R C) s) = true := t
      generalize jps v R C (jan (jw4 R C) s) = x at t' u ⊢
      cases x with
      | zero => exact absurd (beq_iff_eq.mp t') hL
      | succ x =>
        rcases jpn_iff.mp t' with y | ⟨B, hB, eB, b1, b2, b3⟩
        · exact absurd y hL
        · obtain ⟨k, hk, ek⟩ := hE.1 B hB eB
          have c1 : E k &&& s = 0 := by
            rw [ek]
            apply jand_0.mpr
            intro i hi
            have := jan_sub.mp b1 i hi
            rw [jan_bit, Bool.and_eq_true] at this
            cases q : s.testBit i with
            | false => rfl
            | true => rw [q] at this; cases this.2
          have c2 := r2 k hk c1 (by rw [ek]; exact b2)
          rw [jan_or, ek] at c2
          obtain ⟨q1, q2, q3⟩ := jlst_le (p := fun n => jpn v R C n (jan (jan (jw4 R C) s) (jp4 R B))) 100
          rcases Nat.lt_or_ge x (jps v R C (jan (jan (jw4 R C) s) (jp4 R B))) with y | y
          · have := q3 x y
            rw [b3] at this; cases this
          · omega
    · omega
end MD31
