/-! ===== part: the search finds every parting ===== -/
section PART2
/-- the blocks of the list make up L, without touching each other -/
def jqD : List Nat → Nat → Prop
  | [], L => L = 0
  | P :: r, L => P &&& L = P ∧ jqD r (L ^^^ P)
theorem jq_sub {P L : Nat} : P &&& L = P ↔ ∀ i, P.testBit i = true → L.testBit i = true := by
  constructor
  · intro e i hi
    rw [← e, Nat.testBit_and, Bool.and_eq_true] at hi
    exact hi.2
  · intro e
    apply Nat.eq_of_testBit_eq
    intro i
    rw [Nat.testBit_and]
    cases q : P.testBit i with
    | false => rfl
    | true => rw [e i q]; rfl
theorem jqD_ex : ∀ (Ps : List Nat) (L P : Nat), jqD Ps L → P ∈ Ps → P &&& L = P ∧ jqD (Ps.erase P) (L ^^^ P) := by
  intro Ps
  induction Ps with
  | nil => intro L P _ h; cases h
  | cons Q r ih =>
    intro L P hD hP
    obtain ⟨h1, h2⟩ := hD
    by_cases z : Q = P
    · subst z
      rw [List.erase_cons_head]
      exact ⟨h1, h2⟩
    · have hr : P ∈ r := by
        rcases List.mem_cons.mp hP with w | w
        · exact absurd w.symm z
        · exact w
      obtain ⟨e1, e2⟩ := ih _ P h2 hr
      have s1 := jq_sub.mp h1
      have s2 := jq_sub.mp e1
      rw [List.erase_cons_tail (by simpa using z)]
      refine ⟨jq_sub.mpr (fun i hi => ?_), jq_sub.mpr (fun i hi => ?_), ?_⟩
      · have w := s2 i hi
        rw [Nat.testBit_xor] at w
        cases q : L.testBit i with
        | true => rfl
        | false =>
          rw [q] at w
          cases q2 : Q.testBit i with
          | true => have := s1 i q2; rw [q] at this; cases this
          | false => rw [q2] at w; cases w
      · rw [Nat.testBit_xor, s1 i hi]
        cases q : P.testBit i with
        | false => rfl
        | true =>
          have w := s2 i q
          rw [Nat.testBit_xor, s1 i hi, hi] at w
          cases w
      · rw [Nat.xor_assoc, Nat.xor_comm P Q, ← Nat.xor_assoc]
        exact e2
theorem jqD_bit : ∀ (Ps : List Nat) (L i : Nat), jqD Ps L → L.testBit i = true → ∃ P, P ∈ Ps ∧ P.testBit i = true := by
  intro Ps
  induction Ps with
  | nil => intro L i h hi; rw [show L = 0 from h, Nat.zero_testBit] at hi; cases hi
  | cons Q r ih =>
    intro L i hD hi
    cases q : Q.testBit i with
    | true => exact ⟨Q, List.mem_cons_self, q⟩
    | false =>
      obtain ⟨P, h1, h2⟩ := ih _ i hD.2 (by rw [Nat.testBit_xor, hi, q]; rfl)
      exact ⟨P, List.mem_cons_of_mem _ h1, h2⟩
theorem jq_land {x b : Nat} (h : x &&& b ≠ 0) : ∃ i, x.testBit i = true ∧ b.testBit i = true := by
  obtain ⟨i, hi⟩ := Nat.exists_testBit_of_ne_zero h
  rw [Nat.testBit_and, Bool.and_eq_true] at hi
  exact ⟨i, hi⟩
theorem jq_land2 {x b i : Nat} (h1 : x.testBit i = true) (h2 : b.testBit i = true) : x &&& b ≠ 0 := by
  intro w
  have : (x &&& b).testBit i = true := by rw [Nat.testBit_and, h1, h2]; rfl
  rw [w, Nat.zero_testBit] at this
  cases this
/-- the list of blocks is in order -/
def jqO : List (Nat × List Nat) → Bool
  | [] => true
  | e :: r => (e.2.all fun P => !Nat.beq (Nat.land P e.1) 0) && ((r.all fun e' => e'.2.all fun P => Nat.beq (Nat.land P e.1) 0) && jqO r)
theorem jqO_P : jqO jqP = true := by decide +kernel
end PART2
