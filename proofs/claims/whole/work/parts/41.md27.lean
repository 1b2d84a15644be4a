/-! ===== the reference: check ===== -/
section MD27
variable {d : Nat} {F : Nat → Nat → Nat} {A : Nat → Nat → Int32} {G : Nat → Option Nat} {g : Nat → Int64} {h : jxH} {Q : List Value → jxH → Prop}
/-- the parts of a block, when those of A or of B are parted by t -/
def jfA (a : Bool) (B t : Nat) : Nat := if a = true then 32 * (B / 32 ^^^ t) + B % 32 else 32 * (B / 32) + (B % 32 ^^^ t)
def jsA (a : Bool) (B t : Nat) : Nat := if a = true then 32 * t + B % 32 else 32 * (B / 32) + t
theorem jpa_ok {R C B t : Nat} {a : Bool} (hR : R ≤ 5) (hC : C ≤ 5) (hb : jblk R C B = true) (ht : t < 32) (hp : jpt (if a = true then B / 32 else B % 32) t = true) : jblk R C (jfA a B t) = true ∧ jblk R C (jsA a B t) = true ∧ jfA a B t < B ∧ jsA a B t < B ∧ B ^^^ (if a = true then 32 * t else t) = jfA a B t ∧ (a = true → 32 * t ||| B % 32 = jsA a B t) ∧ (a = false → 32 * (B / 32) ||| t = jsA a B t) ∧ jar (jfA a B t) + jar (jsA a B t) = jar B ∧ 0 < t := by
  have p1 := jp2 _ hR
  have p2 := jp2 _ hC
  have hb' := jblk_iff.mp hb
  have hB : B < 1024 := by omega
  cases a with
  | true =>
    rw [if_pos rfl] at hp ⊢
    unfold jfA jsA
    rw [if_pos rfl, if_pos rfl]
    have q := jpt_lt (B / 32) (by omega) t ht hp
    have x1 := jx1 (B / 32) (by omega) (B % 32) (by omega) t ht
    rw [show 32 * (B / 32) + B % 32 = B by omega] at x1
    refine ⟨jblk_iff.mpr (by omega), jblk_iff.mpr (by omega), by omega, by omega, x1, fun _ => jx3 _ (by omega) _ ht, (fun w => by cases w), ?_, q.1⟩
    unfold jar
    rw [show (32 * (B / 32 ^^^ t) + B % 32) / 32 = B / 32 ^^^ t by omega, show (32 * (B / 32 ^^^ t) + B % 32) % 32 = B % 32 by omega, show (32 * t + B % 32) / 32 = t by omega, show (32 * t + B % 32) % 32 = B % 32 by omega, ← Nat.add_mul, jpop_x _ (by omega) _ ht hp]
  | false =>
    rw [if_neg (by decide)] at hp ⊢
    unfold jfA jsA
    rw [if_neg (by decide), if_neg (by decide)]
    have q := jpt_lt (B % 32) (by omega) t ht hp
    have x1 := jx2 (B / 32) (by omega) (B % 32) (by omega) t ht
    rw [show 32 * (B / 32) + B % 32 = B by omega] at x1
    refine ⟨jblk_iff.mpr (by omega), jblk_iff.mpr (by omega), by omega, by omega, x1, (fun w => by cases w), fun _ => jx3 _ ht _ (by omega), ?_, q.1⟩
    unfold jar
    rw [show (32 * (B / 32) + (B % 32 ^^^ t)) / 32 = B / 32 by omega, show (32 * (B / 32) + (B % 32 ^^^ t)) % 32 = B % 32 ^^^ t by omega, show (32 * (B / 32) + t) / 32 = B / 32 by omega, show (32 * (B / 32) + t) % 32 = t by omega, ← Nat.mul_add, jpop_x _ (by omega) _ ht hp]
/-- an end is right; a parting is right -/
def jend (v : Nat → Int32) (R C B : Nat) (told : Int32) : Bool := (told == nI 0 && !jhz v R C B (nI 1)) || (told == nI 1 && !jhz v R C B (nI 0))
def jin (x : Nat) (told : Int32) : Bool := jbel told 32 && jpt x told.toNatClampNeg
def jprt (what told : Int32) (B : Nat) : Bool := (what == nI 0 && jin (B / 32) told) || (what == nI 1 && jin (B % 32) told)
/-- the told talk from the knot k on, over the block B: right?, the next knot, the most bits -/
def jck (v : Nat → Int32) (R C : Nat) (wt : Nat → Int32) (n f k B D b : Nat) : Bool × Nat × Nat := match f with
  | 0 => (false, k, b)
  | f + 1 => if n ≤ 2 * k + 1 then (false, k, b) else if wt (2 * k) = nI 2 then (if jend v R C B (wt (2 * k + 1)) = true then (true, k + 1, max b D) else (false, k, b)) else if jprt (wt (2 * k)) (wt (2 * k + 1)) B = true then (if (jck v R C wt n f (k + 1) (jfA (wt (2 * k) == nI 0) B (wt (2 * k + 1)).toNatClampNeg) (D + 1) b).1 = true then jck v R C wt n f (jck v R C wt n f (k + 1) (jfA (wt (2 * k) == nI 0) B (wt (2 * k + 1)).toNatClampNeg) (D + 1) b).2.1 (jsA (wt (2 * k) == nI 0) B (wt (2 * k + 1)).toNatClampNeg) (D + 1) (jck v R C wt n f (k + 1) (jfA (wt (2 * k) == nI 0) B (wt (2 * k + 1)).toNatClampNeg) (D + 1) b).2.2 else jck v R C wt n f (k + 1) (jfA (wt (2 * k) == nI 0) B (wt (2 * k + 1)).toNatClampNeg) (D + 1) b) else (false, k, b)
theorem jck_n {v : Nat → Int32} {R C : Nat} {wt : Nat → Int32} {n f k B D b : Nat} (h1 : n ≤ 2 * k + 1) : jck v R C wt n (f + 1) k B D b = (false, k, b) := by
  rw [jck, if_pos h1]
theorem jck_e {v : Nat → Int32} {R C : Nat} {wt : Nat → Int32} {n f k B D b : Nat} (h1 : 2 * k + 1 < n) (h2 : wt (2 * k) = nI 2) : jck v R C wt n (f + 1) k B D b = if jend v R C B (wt (2 * k + 1)) = true then (true, k + 1, max b D) else (false, k, b) := by
  rw [jck, if_neg (by omega), if_pos h2]
theorem jck_b {v : Nat → Int32} {R C : Nat} {wt : Nat → Int32} {n f k B D b : Nat} (h1 : 2 * k + 1 < n) (h2 : ¬ wt (2 * k) = nI 2) (h3 : ¬ jprt (wt (2 * k)) (wt (2 * k + 1)) B = true) : jck v R C wt n (f + 1) k B D b = (false, k, b) := by
  rw [jck, if_neg (by omega), if_neg h2, if_neg h3]
theorem jprt_t {what told : Int32} {B : Nat} (e : jprt what told B = true) : ∃ a t, what = nI (if a = true then 0 else 1) ∧ told = nI t ∧ t < 32 ∧ jpt (if a = true then B / 32 else B % 32) t = true := by
  unfold jprt jin at e
  rcases (Bool.or_eq_true _ _).mp e with e | e
  · rw [Bool.and_eq_true, beq_iff_eq, Bool.and_eq_true, jbel_iff (by omega)] at e
    obtain ⟨e1, ⟨t, h1, h2⟩, e3⟩ := e
    subst h2
    rw [jn_cl (by omega)] at e3
    exact ⟨true, t, e1, rfl, h1, e3⟩
  · rw [Bool.and_eq_true, beq_iff_eq, Bool.and_eq_true, jbel_iff (by omega)] at e
    obtain ⟨e1, ⟨t, h1, h2⟩, e3⟩ := e
    subst h2
    rw [jn_cl (by omega)] at e3
    exact ⟨false, t, e1, rfl, h1, e3⟩
theorem jck_p {v : Nat → Int32} {R C : Nat} {wt : Nat → Int32} {n f k B D b t : Nat} {a : Bool} (h1 : 2 * k + 1 < n) (h2 : wt (2 * k) = nI (if a = true then 0 else 1)) (h3 : wt (2 * k + 1) = nI t) (ht : t < 32) (h4 : jpt (if a = true then B / 32 else B % 32) t = true) : jck v R C wt n (f + 1) k B D b = if (jck v R C wt n f (k + 1) (jfA a B t) (D + 1) b).1 = true then jck v R C wt n f (jck v R C wt n f (k + 1) (jfA a B t) (D + 1) b).2.1 (jsA a B t) (D + 1) (jck v R C wt n f (k + 1) (jfA a B t) (D + 1) b).2.2 else jck v R C wt n f (k + 1) (jfA a B t) (D + 1) b := by
  have n2 : ¬ wt (2 * k) = nI 2 := by rw [h2]; cases a <;> decide
  have hb : jbel (nI t) 32 = true := jbel_n ht (by omega)
  have ea : (wt (2 * k) == nI 0) = a := by rw [h2]; cases a <;> decide
  have p : jprt (wt (2 * k)) (wt (2 * k + 1)) B = true := by
    unfold jprt jin
    rw [h2, h3, hb, jn_cl (by omega)]
    cases a with
    | true => rw [if_pos rfl] at h4 ⊢; rw [h4]; rfl
    | false => rw [if_neg (by decide)] at h4 ⊢; rw [h4]; rfl
  rw [jck, if_neg (by omega), if_neg n2, if_pos p, ea, h3, jn_cl (by omega)]
theorem jck_le {v : Nat → Int32} {R C : Nat} {wt : Nat → Int32} {n : Nat} (hr : R ≤ 5) (hc : C ≤ 5) : ∀ f k B D b, jblk R C B = true → (jck v R C wt n f k B D b).2.1 + 1 ≤ k + 2 * jar B ∧ (jck v R C wt n f k B D b).2.2 ≤ max b (D + jar B) := by
  have p1 := jp2 _ hr
  have p2 := jp2 _ hc
  intro f
  induction f with
  | zero =>
    intro k B D b hb
    have hb' := jblk_iff.mp hb
    have := jar_1 (B := B) (by omega) (by omega) (by omega)
    show k + 1 ≤ _ ∧ b ≤ _
    omega
  | succ f ih =>
    intro k B D b hb
    have hb' := jblk_iff.mp hb
    have h1 := jar_1 (B := B) (by omega) (by omega) (by omega)
    rcases Nat.lt_or_ge (2 * k + 1) n with w | w
    · by_cases w2 : wt (2 * k) = nI 2
      · rw [jck_e w w2]
        split
        · dsimp only; omega
        · dsimp only; omega
      · by_cases w3 : jprt (wt (2 * k)) (wt (2 * k + 1)) B = true
        · obtain ⟨a, t, e1, e2, e3, e4⟩ := jprt_t w3
          obtain ⟨b1, b2, _, _, _, _, _, ha, _⟩ := jpa_ok hr hc hb e3 e4
          have b1' := jblk_iff.mp b1
          have b2' := jblk_iff.mp b2
          have r1 := jar_1 (B := jfA a B t) (by omega) (by omega) (by omega)
          have r2 := jar_1 (B := jsA a B t) (by omega) (by omega) (by omega)
          rw [jck_p w e1 e2 e3 e4]
          have i1 := ih (k + 1) _ (D + 1) b b1
          have i2 := ih (jck v R C wt n f (k + 1) (jfA a B t) (D + 1) b).2.1 _ (D + 1) (jck v R C wt n f (k + 1) (jfA a B t) (D + 1) b).2.2 b2
          split <;> omega
        · rw [jck_b w w2 w3]
          dsimp only
          omega
    · rw [jck_n w]
      dsimp only
      omega
theorem jend0 {v : Nat → Int32} {R C B : Nat} : jend v R C B (nI 0) = !jhz v R C B (nI 1) := by
  unfold jend
  rw [show (nI 0 == nI 0) = true by decide, show (nI 0 == nI 1) = false by decide, Bool.true_and, Bool.false_and, Bool.or_false]
theorem jend1 {v : Nat → Int32} {R C B : Nat} : jend v R C B (nI 1) = !jhz v R C B (nI 0) := by
  unfold jend
  rw [show (nI 1 == nI 0) = false by decide, show (nI 1 == nI 1) = true by decide, Bool.true_and, Bool.false_and, Bool.false_or]
theorem jhb0 (a b : Bool) : (nI (a.toNat + 2 * b.toNat) >>> ((nI 1 - nI 1) &&& 31) &&& nI 1 = nI 1) = (a = true) := by cases a <;> cases b <;> decide +kernel
theorem jhb1 (a b : Bool) : (nI (a.toNat + 2 * b.toNat) >>> ((nI 1 - nI 0) &&& 31) &&& nI 1 = nI 1) = (b = true) := by cases a <;> cases b <;> decide +kernel
theorem md_check1 {n : Nat} (hn : n ≤ 120) (hr : F 149 0 ≤ 5) (hc : F 149 1 ≤ 5) (hv : jV (A 150) (F 149 0) (F 149 1)) : ∀ f B, B < f → jblk (F 149 0) (F 149 1) B = true → ∀ (A1 : Nat → Nat → Int32) (h1 : jxH) (p k D b : Nat) (w5 w6 w7 w8 w9 w10 : Value), (∀ a, a ≠ 178 → a ≠ 179 → A1 a = A a) → jR F A1 G g h1 → jD h h1 → p + jar B ≤ 30 → D + jar B ≤ 30 → k + 2 * jar B ≤ 100 → b ≤ 60 → A1 178 p = nI B → A1 179 p = nI D → ((jck (A 150) (F 149 0) (F 149 1) (A 158) n f k B D b).1 = true → ∀ A2 h2 w5 w6 w7 w8 w9 w10, (∀ a, a ≠ 178 → a ≠ 179 → A2 a = A a) → jR F A2 G g h2 → jD h h2 → (∀ j, j < p → A2 178 j = A1 178 j ∧ A2 179 j = A1 179 j) → jx_Go jxP (d + 2) 186 34 [.ref 149, .int (nI n), .int (nI p), .int (nI (jck (A 150) (F 149 0) (F 149 1) (A 158) n f k B D b).2.1), .int (nI (jck (A 150) (F 149 0) (F 149 1) (A 158) n f k B D b).2.2), w5, w6, w7, w8, w9, w10] [] h2 Q) → ((jck (A 150) (F 149 0) (F 149 1) (A 158) n f k B D b).1 = false → ∀ A2 h2, (∀ a, a ≠ 178 → a ≠ 179 → A2 a = A a) → jR F A2 G g h2 → jD h h2 → Q [.int (nI (100 + (jck (A 150) (F 149 0) (F 149 1) (A 158) n f k B D b).2.1))] h2) → jx_Go jxP (d + 2) 186 34 [.ref 149, .int (nI n), .int (nI (p + 1)), .int (nI k), .int (nI b), w5, w6, w7, w8, w9, w10] [] h1 Q := by
  have p1 := jp2 _ hr
  have p2 := jp2 _ hc
  intro f
  induction f with
  | zero => intro B hB; omega
  | succ f ih =>
    intro B hBf hb A1 h1 p k D b w5 w6 w7 w8 w9 w10 fr hR1 hD1 hp hDD hk hbb e1 e2 kt kf
    have hb' := jblk_iff.mp hb
    have hB : B < 1024 := by omega
    have ha := jar_1 hB (by omega) (by omega)
    have g150 : A1 150 = A 150 := fr 150 (by decide) (by decide)
    have g158 : A1 158 = A 158 := fr 158 (by decide) (by decide)
    rw [s186_34]
    simp (disch := omega) only [s186_35, s186_38, s186_41, s186_42, s186_45, s186_46, s186_47, s186_49, s186_50, s186_53, s186_54, s186_55, s186_57, s186_58, s186_59, s186_60, s186_61, s186_62, Option.some.injEq, exists_eq_left', exists_eq_left, List.cons_append, List.nil_append, List.length_nil, List.length_cons, Nat.reduceAdd, Nat.reduceMul, Nat.reduceSub, Nat.reduceLeDiff, true_and, and_true, ↓reduceIte, not_false_eq_true, not_true_eq_false, nI_add, pk_mul, jn_ltT, jn_ltF, jn_leT, jn_leF, jn_eqT, jn_eqF, jn_lt0, jn_ge0, jn_eq0T, jn_eq0F, jn_in, jn_cl, jn_m1, jn_le0F, Nat.add_sub_cancel, jf_149_34 hR1, jf_149_35 hR1, ja_178 hR1, ja_179 hR1, e1, e2]
    rcases Nat.lt_or_ge (2 * k + 1) n with w | w
    · simp (disch := omega) only [s186_63, s186_71, s186_72, s186_75, s186_76, s186_77, s186_78, s186_79, s186_81, s186_82, s186_85, s186_86, s186_87, s186_88, s186_89, s186_90, s186_91, Option.some.injEq, exists_eq_left', exists_eq_left, List.cons_append, List.nil_append, List.length_nil, List.length_cons, Nat.reduceAdd, Nat.reduceMul, Nat.reduceSub, Nat.reduceLeDiff, true_and, and_true, ↓reduceIte, not_false_eq_true, not_true_eq_false, nI_add, pk_mul, jn_ltT, jn_ltF, jn_leT, jn_leF, jn_eqT, jn_eqF, jn_lt0, jn_ge0, jn_eq0T, jn_eq0F, jn_in, jn_cl, jf_149_12 hR1, ja_158 hR1, g158]
      by_cases w2 : A 158 (2 * k) = nI 2
      · rw [jck_e w w2] at kt kf
        have bad : ¬ jend (A 150) (F 149 0) (F 149 1) B (A 158 (2 * k + 1)) = true → ∀ w7 w8, jx_Go jxP (d + 2) 186 127 [.ref 149, .int (nI n), .int (nI p), .int (nI k), .int (nI b), .int (nI B), .int (nI D), w7, w8, w9, w10] [] h1 Q := by
          intro ne w7 w8
          rw [if_neg ne] at kf
          simp (disch := omega) only [s186_127, s186_129, s186_130, s186_131, Option.some.injEq, exists_eq_left', exists_eq_left, List.cons_append, List.nil_append, List.length_nil, List.length_cons, Nat.reduceAdd, Nat.reduceMul, Nat.reduceSub, Nat.reduceLeDiff, true_and, and_true, ↓reduceIte, not_false_eq_true, not_true_eq_false, nI_add, pk_mul, jn_ltT, jn_ltF, jn_leT, jn_leF, jn_eqT, jn_eqF, jn_lt0, jn_ge0, jn_eq0T, jn_eq0F, jn_in, jn_cl]
          exact kf rfl A1 h1 fr hR1 hD1
        simp (disch := omega) only [s186_93, s186_95, s186_96, s186_99, Option.some.injEq, exists_eq_left', exists_eq_left, List.cons_append, List.nil_append, List.length_nil, List.length_cons, Nat.reduceAdd, Nat.reduceMul, Nat.reduceSub, Nat.reduceLeDiff, true_and, and_true, ↓reduceIte, not_false_eq_true, not_true_eq_false, nI_add, pk_mul, jn_ltT, jn_ltF, jn_leT, jn_leF, jn_eqT, jn_eqF, jn_lt0, jn_ge0, jn_eq0T, jn_eq0F, jn_in, jn_cl, w2]
        have good : jend (A 150) (F 149 0) (F 149 1) B (A 158 (2 * k + 1)) = true → ∀ w7 w8, jx_Go jxP (d + 2) 186 132 [.ref 149, .int (nI n), .int (nI p), .int (nI k), .int (nI b), .int (nI B), .int (nI D), w7, w8, w9, w10] [] h1 Q := by
          intro ye w7 w8
          rw [if_pos ye] at kt
          have kt' := fun b' (eb : max b D = b') w7 w8 => by
            have := kt rfl A1 h1 (.int (nI B)) (.int (nI D)) w7 w8 w9 w10 fr hR1 hD1 (fun j _ => ⟨rfl, rfl⟩)
            dsimp only at this
            rw [eb] at this
            exact this
          by_cases z : D ≤ b
          · simp (disch := omega) only [s186_132, s186_134, s186_136, s186_144, s186_146, s186_148, s186_298, s186_301, Option.some.injEq, exists_eq_left', exists_eq_left, List.cons_append, List.nil_append, List.length_nil, List.length_cons, Nat.reduceAdd, Nat.reduceMul, Nat.reduceSub, Nat.reduceLeDiff, true_and, and_true, ↓reduceIte, not_false_eq_true, not_true_eq_false, nI_add, pk_mul, jn_ltT, jn_ltF, jn_leT, jn_leF, jn_eqT, jn_eqF, jn_lt0, jn_ge0, jn_eq0T, jn_eq0F, jn_in, jn_cl]
            exact kt' b (by omega) _ _
          · simp (disch := omega) only [s186_132, s186_134, s186_136, s186_139, s186_141, s186_144, s186_146, s186_148, s186_298, s186_301, Option.some.injEq, exists_eq_left', exists_eq_left, List.cons_append, List.nil_append, List.length_nil, List.length_cons, Nat.reduceAdd, Nat.reduceMul, Nat.reduceSub, Nat.reduceLeDiff, true_and, and_true, ↓reduceIte, not_false_eq_true, not_true_eq_false, nI_add, pk_mul, jn_ltT, jn_ltF, jn_leT, jn_leF, jn_eqT, jn_eqF, jn_lt0, jn_ge0, jn_eq0T, jn_eq0F, jn_in, jn_cl]
            exact kt' D (by omega) _ _
        by_cases j2 : jbel (A 158 (2 * k + 1)) 2 = true
        · obtain ⟨t, ht, et⟩ := (jbel_iff (by omega)).mp j2
          have hl := jhas_le (v := A 150) (R := F 149 0) (C := F 149 1) (B := B)
          rw [et] at bad good ⊢
          simp (disch := omega) only [s186_101, s186_104, s186_106, s186_107, s186_110, s186_111, s186_113, Option.some.injEq, exists_eq_left', exists_eq_left, List.cons_append, List.nil_append, List.length_nil, List.length_cons, Nat.reduceAdd, Nat.reduceMul, Nat.reduceSub, Nat.reduceLeDiff, true_and, and_true, ↓reduceIte, not_false_eq_true, not_true_eq_false, nI_add, pk_mul, jn_ltT, jn_ltF, jn_leT, jn_leF, jn_eqT, jn_eqF, jn_lt0, jn_ge0, jn_eq0T, jn_eq0F, jn_in, jn_cl, jc_of_149 hR1]
          refine md_has hR1 hr hc (by rw [g150]; exact hv) hB ?_
          rw [g150]
          rcases (show t = 0 ∨ t = 1 by omega) with e | e
          · subst e
            simp (disch := omega) only [s186_116, s186_117, s186_119, s186_120, s186_121, s186_122, s186_123, Option.some.injEq, exists_eq_left', exists_eq_left, List.cons_append, List.nil_append, List.length_nil, List.length_cons, Nat.reduceAdd, Nat.reduceMul, Nat.reduceSub, Nat.reduceLeDiff, true_and, and_true, ↓reduceIte, not_false_eq_true, not_true_eq_false, nI_add, pk_mul, jn_ltT, jn_ltF, jn_leT, jn_leF, jn_eqT, jn_eqF, jn_lt0, jn_ge0, jn_eq0T, jn_eq0F, jn_in, jn_cl, jhas]
            cases q : jhz (A 150) (F 149 0) (F 149 1) B (nI 1) with
            | true =>
              rw [← q]
              simp (disch := omega) only [s186_124, Option.some.injEq, exists_eq_left', exists_eq_left, List.cons_append, List.nil_append, List.length_nil, List.length_cons, Nat.reduceAdd, Nat.reduceMul, Nat.reduceSub, Nat.reduceLeDiff, true_and, and_true, ↓reduceIte, not_false_eq_true, not_true_eq_false, nI_add, pk_mul, jn_ltT, jn_ltF, jn_leT, jn_leF, jn_eqT, jn_eqF, jn_lt0, jn_ge0, jn_eq0T, jn_eq0F, jn_in, jn_cl, jhb1]
              rw [if_pos q]
              exact bad (by rw [jend0, q]; decide) _ _
            | false =>
              rw [← q]
              simp (disch := omega) only [s186_124, Option.some.injEq, exists_eq_left', exists_eq_left, List.cons_append, List.nil_append, List.length_nil, List.length_cons, Nat.reduceAdd, Nat.reduceMul, Nat.reduceSub, Nat.reduceLeDiff, true_and, and_true, ↓reduceIte, not_false_eq_true, not_true_eq_false, nI_add, pk_mul, jn_ltT, jn_ltF, jn_leT, jn_leF, jn_eqT, jn_eqF, jn_lt0, jn_ge0, jn_eq0T, jn_eq0F, jn_in, jn_cl, jhb1]
              rw [if_neg (by rw [q]; decide)]
              exact good (by rw [jend0, q]; rfl) _ _
          · subst e
            simp (disch := omega) only [s186_116, s186_117, s186_119, s186_120, s186_121, s186_122, s186_123, Option.some.injEq, exists_eq_left', exists_eq_left, List.cons_append, List.nil_append, List.length_nil, List.length_cons, Nat.reduceAdd, Nat.reduceMul, Nat.reduceSub, Nat.reduceLeDiff, true_and, and_true, ↓reduceIte, not_false_eq_true, not_true_eq_false, nI_add, pk_mul, jn_ltT, jn_ltF, jn_leT, jn_leF, jn_eqT, jn_eqF, jn_lt0, jn_ge0, jn_eq0T, jn_eq0F, jn_in, jn_cl, jhas]
            cases q : jhz (A 150) (F 149 0) (F 149 1) B (nI 0) with
            | true =>
              rw [← q]
              simp (disch := omega) only [s186_124, Option.some.injEq, exists_eq_left', exists_eq_left, List.cons_append, List.nil_append, List.length_nil, List.length_cons, Nat.reduceAdd, Nat.reduceMul, Nat.reduceSub, Nat.reduceLeDiff, true_and, and_true, ↓reduceIte, not_false_eq_true, not_true_eq_false, nI_add, pk_mul, jn_ltT, jn_ltF, jn_leT, jn_leF, jn_eqT, jn_eqF, jn_lt0, jn_ge0, jn_eq0T, jn_eq0F, jn_in, jn_cl, jhb0]
              rw [if_pos q]
              exact bad (by rw [jend1, q]; decide) _ _
            | false =>
              rw [← q]
              simp (disch := omega) only [s186_124, Option.some.injEq, exists_eq_left', exists_eq_left, List.cons_append, List.nil_append, List.length_nil, List.length_cons, Nat.reduceAdd, Nat.reduceMul, Nat.reduceSub, Nat.reduceLeDiff, true_and, and_true, ↓reduceIte, not_false_eq_true, not_true_eq_false, nI_add, pk_mul, jn_ltT, jn_ltF, jn_leT, jn_leF, jn_eqT, jn_eqF, jn_lt0, jn_ge0, jn_eq0T, jn_eq0F, jn_in, jn_cl, jhb0]
              rw [if_neg (by rw [q]; decide)]
              exact good (by rw [jend1, q]; rfl) _ _
        · have nb : ¬ jend (A 150) (F 149 0) (F 149 1) B (A 158 (2 * k + 1)) = true := by
            intro w
            apply j2
            unfold jend at w
            rw [Bool.or_eq_true, Bool.and_eq_true, Bool.and_eq_true, beq_iff_eq, beq_iff_eq] at w
            rcases w with w | w
            · rw [w.1]; decide
            · rw [w.1]; decide
          rcases jbel_f j2 with u | ⟨u, u2⟩
          · rw [s186_101]
            rw [if_pos u]
            exact bad nb _ _
          · rw [s186_101]
            rw [if_neg u]
            simp (disch := omega) only [s186_104, s186_106, s186_107, Option.some.injEq, exists_eq_left', exists_eq_left, List.cons_append, List.nil_append, List.length_nil, List.length_cons, Nat.reduceAdd, Nat.reduceMul, Nat.reduceSub, Nat.reduceLeDiff, true_and, and_true, ↓reduceIte, not_false_eq_true, not_true_eq_false, nI_add, pk_mul, jn_ltT, jn_ltF, jn_leT, jn_leF, jn_eqT, jn_eqF, jn_lt0, jn_ge0, jn_eq0T, jn_eq0F, jn_in, jn_cl]
            rw [if_pos (by rw [jlt_bel (by omega)]; exact u2)]
            exact bad nb _ _
      · by_cases w3 : jprt (A 158 (2 * k)) (A 158 (2 * k + 1)) B = true
        · obtain ⟨a, t, i1, i2, i3, i4⟩ := jprt_t w3
          obtain ⟨b1, b2, l1, l2, hX, hS1, hS2, hA, ht⟩ := jpa_ok hr hc hb i3 i4
          have b1' := jblk_iff.mp b1
          have b2' := jblk_iff.mp b2
          have r1 := jar_1 (B := jfA a B t) (by omega) (by omega) (by omega)
          have r2 := jar_1 (B := jsA a B t) (by omega) (by omega) (by omega)
          rw [jck_p w i1 i2 i3 i4] at kt kf
          have fin : ∀ w5 w6 w7 w8 w9 w10, jx_Go jxP (d + 2) 186 34 [.ref 149, .int (nI n), .int (nI (p + 1 + 1)), .int (nI (k + 1)), .int (nI b), w5, w6, w7, w8, w9, w10] [] (jx_wi (jx_wi (jx_wi (jx_wi h1 178 64 (upd (A1 178) p (nI (jsA a B t)))) 179 64 (upd (A1 179) p (nI (D + 1)))) 178 64 (upd (upd (A1 178) p (nI (jsA a B t))) (p + 1) (nI (jfA a B t)))) 179 64 (upd (upd (A1 179) p (nI (D + 1))) (p + 1) (nI (D + 1)))) Q := by
            intro w5 w6 w7 w8 w9 w10
            have hR2 := (((hR1.wi (a := 178) (f := upd (A1 178) p (nI (jsA a B t))) rfl).wi (a := 179) (f := upd (A1 179) p (nI (D + 1))) rfl).wi (a := 178) (f := upd (upd (A1 178) p (nI (jsA a B t))) (p + 1) (nI (jfA a B t))) rfl).wi (a := 179) (f := upd (upd (A1 179) p (nI (D + 1))) (p + 1) (nI (D + 1))) rfl
            have hD2 := (((hD1.wi (a := 178) (n := 64) (f := upd (A1 178) p (nI (jsA a B t))) (by decide)).wi (a := 179) (n := 64) (f := upd (A1 179) p (nI (D + 1))) (by decide)).wi (a := 178) (n := 64) (f := upd (upd (A1 178) p (nI (jsA a B t))) (p + 1) (nI (jfA a B t))) (by decide)).wi (a := 179) (n := 64) (f := upd (upd (A1 179) p (nI (D + 1))) (p + 1) (nI (D + 1))) (by decide)
            generalize jx_wi (jx_wi (jx_wi (jx_wi h1 178 64 (upd (A1 178) p (nI (jsA a B t)))) 179 64 (upd (A1 179) p (nI (D + 1)))) 178 64 (upd (upd (A1 178) p (nI (jsA a B t))) (p + 1) (nI (jfA a B t)))) 179 64 (upd (upd (A1 179) p (nI (D + 1))) (p + 1) (nI (D + 1))) = h2 at hR2 hD2 ⊢
            have c178 : jua (jua (jua (jua A1 178 (upd (A1 178) p (nI (jsA a B t)))) 179 (upd (A1 179) p (nI (D + 1)))) 178 (upd (upd (A1 178) p (nI (jsA a B t))) (p + 1) (nI (jfA a B t)))) 179 (upd (upd (A1 179) p (nI (D + 1))) (p + 1) (nI (D + 1))) 178 = upd (upd (A1 178) p (nI (jsA a B t))) (p + 1) (nI (jfA a B t)) := by rw [jua_ne (by decide), jua_same]
            have c179 : jua (jua (jua (jua A1 178 (upd (A1 178) p (nI (jsA a B t)))) 179 (upd (A1 179) p (nI (D + 1)))) 178 (upd (upd (A1 178) p (nI (jsA a B t))) (p + 1) (nI (jfA a B t)))) 179 (upd (upd (A1 179) p (nI (D + 1))) (p + 1) (nI (D + 1))) 179 = upd (upd (A1 179) p (nI (D + 1))) (p + 1) (nI (D + 1)) := jua_same
            have co : ∀ a', a' ≠ 178 → a' ≠ 179 → jua (jua (jua (jua A1 178 (upd (A1 178) p (nI (jsA a B t)))) 179 (upd (A1 179) p (nI (D + 1)))) 178 (upd (upd (A1 178) p (nI (jsA a B t))) (p + 1) (nI (jfA a B t)))) 179 (upd (upd (A1 179) p (nI (D + 1))) (p + 1) (nI (D + 1))) a' = A a' := fun a' n1 n2 => by rw [jua_ne n2, jua_ne n1, jua_ne n2, jua_ne n1, fr a' n1 n2]
            generalize jua (jua (jua (jua A1 178 (upd (A1 178) p (nI (jsA a B t)))) 179 (upd (A1 179) p (nI (D + 1)))) 178 (upd (upd (A1 178) p (nI (jsA a B t))) (p + 1) (nI (jfA a B t)))) 179 (upd (upd (A1 179) p (nI (D + 1))) (p + 1) (nI (D + 1))) = A2 at hR2 c178 c179 co
            have le1 := jck_le (v := A 150) (wt := A 158) (n := n) hr hc f (k + 1) _ (D + 1) b b1
            refine ih _ (by omega) b1 A2 h2 (p + 1) (k + 1) (D + 1) b w5 w6 w7 w8 w9 w10 co hR2 hD2 (by omega) (by omega) (by omega) hbb (by rw [c178, jupd_same]) (by rw [c179, jupd_same]) ?_ ?_
            · intro y1 A3 h3 w5 w6 w7 w8 w9 w10 fr3 hR3 hD3 k3
              rw [if_pos y1] at kt kf
              have q := k3 p (by omega)
              rw [c178, c179, jupd_ne (by omega), jupd_same, jupd_ne (by omega), jupd_same] at q
              refine ih _ (by omega) b2 A3 h3 p _ (D + 1) _ w5 w6 w7 w8 w9 w10 fr3 hR3 hD3 (by omega) (by omega) (by omega) (by omega) q.1 q.2 ?_ kf
              intro y2 A4 h4 w5 w6 w7 w8 w9 w10 fr4 hR4 hD4 k4
              refine kt y2 A4 h4 w5 w6 w7 w8 w9 w10 fr4 hR4 hD4 (fun j hj => ?_)
              have q4 := k4 j hj
              have q3 := k3 j (by omega)
              rw [c178, c179, jupd_ne (by omega), jupd_ne (by omega), jupd_ne (by omega), jupd_ne (by omega)] at q3
              exact ⟨q4.1.trans q3.1, q4.2.trans q3.2⟩
            · intro y1 A3 h3 fr3 hR3 hD3
              rw [if_neg (by rw [y1]; decide)] at kf
              exact kf y1 A3 h3 fr3 hR3 hD3
          cases a with
          | true =>
            rw [if_pos rfl] at i1 i4 hX
            have hS := hS1 rfl
            simp (disch := omega) only [s186_93, s186_95, s186_96, s186_151, s186_153, s186_156, s186_162, s186_164, s186_167, s186_169, s186_171, s186_174, s186_175, s186_177, s186_179, s186_181, s186_184, s186_185, s186_188, s186_189, Option.some.injEq, exists_eq_left', exists_eq_left, List.cons_append, List.nil_append, List.length_nil, List.length_cons, Nat.reduceAdd, Nat.reduceMul, Nat.reduceSub, Nat.reduceLeDiff, true_and, and_true, ↓reduceIte, not_false_eq_true, not_true_eq_false, nI_add, pk_mul, jn_ltT, jn_ltF, jn_leT, jn_leF, jn_eqT, jn_eqF, jn_lt0, jn_ge0, jn_eq0T, jn_eq0F, jn_in, jn_cl, jn_le0F, i1, i2, jc_of_149 hR1, md_parted, i4, Bool.toNat_true]
            simp (disch := omega) only [s186_192, s186_195, s186_196, s186_199, s186_200, s186_202, s186_204, s186_207, s186_209, s186_210, s186_211, s186_212, s186_214, s186_217, s186_219, s186_220, s186_221, s186_224, s186_226, s186_228, s186_229, s186_232, s186_233, s186_235, s186_237, s186_240, s186_242, s186_244, s186_245, s186_247, s186_248, s186_251, s186_253, s186_255, s186_257, s186_258, s186_259, s186_260, s186_261, s186_264, s186_265, s186_267, s186_268, s186_269, s186_270, s186_271, s186_274, s186_275, s186_276, s186_277, s186_279, s186_281, s186_282, s186_283, s186_284, s186_287, s186_288, s186_289, s186_290, s186_292, s186_293, s186_294, s186_295, s186_298, s186_301, Option.some.injEq, exists_eq_left', exists_eq_left, List.cons_append, List.nil_append, List.length_nil, List.length_cons, Nat.reduceAdd, Nat.reduceMul, Nat.reduceSub, Nat.reduceLeDiff, true_and, and_true, ↓reduceIte, not_false_eq_true, not_true_eq_false, nI_add, pk_mul, jn_ltT, jn_ltF, jn_leT, jn_leF, jn_eqT, jn_eqF, jn_lt0, jn_ge0, jn_eq0T, jn_eq0F, jn_in, jn_cl, jh_ai_wi, jh_ai_wi_ne, jh_ai_uf, jh_fl_wi_ne, jh_fl_uf_ne, jh_fl_uf_o, jh_cl_wi_ne, jh_cl_uf, jh_al_wi_ne, jh_al_uf, jh_al_wl, jh_al_wl_ne, jh_ai_wl_ne, jh_fl_wl_ne, jh_cl_wl_ne, jh_ar_wi_ne, jh_ar_uf, jh_ar_wl_ne, jh_1_wi, jh_1_uf, jh_1_wl, jf_149_34 hR1, jf_149_35 hR1, ja_178 hR1, ja_179 hR1, jsh5l, jn_xor, hX, jan31, jn_or, hS]
            exact fin _ _ _ _ _ _
          | false =>
            rw [if_neg (by decide)] at i1 i4 hX
            have hS := hS2 rfl
            simp (disch := omega) only [s186_93, s186_95, s186_96, s186_151, s186_153, s186_156, s186_158, s186_159, s186_162, s186_164, s186_167, s186_169, s186_171, s186_174, s186_175, s186_177, s186_179, s186_181, s186_184, s186_185, s186_188, s186_189, Option.some.injEq, exists_eq_left', exists_eq_left, List.cons_append, List.nil_append, List.length_nil, List.length_cons, Nat.reduceAdd, Nat.reduceMul, Nat.reduceSub, Nat.reduceLeDiff, true_and, and_true, ↓reduceIte, not_false_eq_true, not_true_eq_false, nI_add, pk_mul, jn_ltT, jn_ltF, jn_leT, jn_leF, jn_eqT, jn_eqF, jn_lt0, jn_ge0, jn_eq0T, jn_eq0F, jn_in, jn_cl, jn_le0F, i1, i2, jc_of_149 hR1, md_parted, if_neg (show ¬ (0 : Nat) = 1 by decide), i4, Bool.toNat_true]
            simp (disch := omega) only [s186_192, s186_195, s186_196, s186_199, s186_200, s186_202, s186_204, s186_207, s186_209, s186_210, s186_211, s186_212, s186_214, s186_217, s186_219, s186_220, s186_221, s186_224, s186_226, s186_228, s186_229, s186_232, s186_233, s186_235, s186_237, s186_240, s186_242, s186_244, s186_245, s186_247, s186_248, s186_251, s186_253, s186_255, s186_257, s186_258, s186_259, s186_260, s186_261, s186_264, s186_265, s186_267, s186_268, s186_269, s186_270, s186_271, s186_274, s186_275, s186_276, s186_277, s186_279, s186_281, s186_282, s186_283, s186_284, s186_287, s186_288, s186_289, s186_290, s186_292, s186_293, s186_294, s186_295, s186_298, s186_301, Option.some.injEq, exists_eq_left', exists_eq_left, List.cons_append, List.nil_append, List.length_nil, List.length_cons, Nat.reduceAdd, Nat.reduceMul, Nat.reduceSub, Nat.reduceLeDiff, true_and, and_true, ↓reduceIte, not_false_eq_true, not_true_eq_false, nI_add, pk_mul, jn_ltT, jn_ltF, jn_leT, jn_leF, jn_eqT, jn_eqF, jn_lt0, jn_ge0, jn_eq0T, jn_eq0F, jn_in, jn_cl, jh_ai_wi, jh_ai_wi_ne, jh_ai_uf, jh_fl_wi_ne, jh_fl_uf_ne, jh_fl_uf_o, jh_cl_wi_ne, jh_cl_uf, jh_al_wi_ne, jh_al_uf, jh_al_wl, jh_al_wl_ne, jh_ai_wl_ne, jh_fl_wl_ne, jh_cl_wl_ne, jh_ar_wi_ne, jh_ar_uf, jh_ar_wl_ne, jh_1_wi, jh_1_uf, jh_1_wl, jf_149_34 hR1, jf_149_35 hR1, ja_178 hR1, ja_179 hR1, jn_xor, hX, jx4, jn_or, hS]
            exact fin _ _ _ _ _ _
        · rw [jck_b w w2 w3] at kf
          have bad : ∀ w7 w8, jx_Go jxP (d + 2) 186 199 [.ref 149, .int (nI n), .int (nI p), .int (nI k), .int (nI b), .int (nI B), .int (nI D), w7, w8, w9, w10] [] h1 Q := by
            intro w7 w8
            simp (disch := omega) only [s186_199, s186_200, s186_202, s186_204, s186_207, s186_209, s186_210, s186_211, Option.some.injEq, exists_eq_left', exists_eq_left, List.cons_append, List.nil_append, List.length_nil, List.length_cons, Nat.reduceAdd, Nat.reduceMul, Nat.reduceSub, Nat.reduceLeDiff, true_and, and_true, ↓reduceIte, not_false_eq_true, not_true_eq_false, nI_add, pk_mul, jn_ltT, jn_ltF, jn_leT, jn_leF, jn_eqT, jn_eqF, jn_lt0, jn_ge0, jn_eq0T, jn_eq0F, jn_in, jn_cl]
            exact kf rfl A1 h1 fr hR1 hD1
          unfold jprt at w3
          rw [Bool.or_eq_true, Bool.and_eq_true, not_or] at w3
          obtain ⟨w3, w4⟩ := w3
          have k162 : ∀ x, x ≤ 1 → A 158 (2 * k) = nI x → ¬ jin (if x = 0 then B / 32 else B % 32) (A 158 (2 * k + 1)) = true → jx_Go jxP (d + 2) 186 162 [.ref 149, .int (nI n), .int (nI p), .int (nI k), .int (nI b), .int (nI B), .int (nI D), .int (A 158 (2 * k)), .int (A 158 (2 * k + 1)), w9, w10] [] h1 Q := by
            intro x hx ex nj
            rw [ex]
            by_cases j2 : jbel (A 158 (2 * k + 1)) 32 = true
            · obtain ⟨t, ht, et⟩ := (jbel_iff (by omega)).mp j2
              unfold jin at nj
              rw [j2, Bool.true_and, et, jn_cl (by omega)] at nj
              have nj' := Bool.eq_false_iff.mpr nj
              rw [et]
              by_cases t0 : t = 0
              · simp (disch := omega) only [s186_162, s186_164, Option.some.injEq, exists_eq_left', exists_eq_left, List.cons_append, List.nil_append, List.length_nil, List.length_cons, Nat.reduceAdd, Nat.reduceMul, Nat.reduceSub, Nat.reduceLeDiff, true_and, and_true, ↓reduceIte, not_false_eq_true, not_true_eq_false, nI_add, pk_mul, jn_ltT, jn_ltF, jn_leT, jn_leF, jn_eqT, jn_eqF, jn_lt0, jn_ge0, jn_eq0T, jn_eq0F, jn_in, jn_cl, jn_le0T]
                rw [← et]
                exact bad _ _
              · rcases (show x = 0 ∨ x = 1 by omega) with e | e
                · subst e
                  rw [if_pos rfl] at nj'
                  simp (disch := omega) only [s186_162, s186_164, s186_167, s186_169, s186_171, s186_174, s186_175, s186_177, s186_179, s186_181, s186_184, s186_185, s186_188, s186_189, Option.some.injEq, exists_eq_left', exists_eq_left, List.cons_append, List.nil_append, List.length_nil, List.length_cons, Nat.reduceAdd, Nat.reduceMul, Nat.reduceSub, Nat.reduceLeDiff, true_and, and_true, ↓reduceIte, not_false_eq_true, not_true_eq_false, nI_add, pk_mul, jn_ltT, jn_ltF, jn_leT, jn_leF, jn_eqT, jn_eqF, jn_lt0, jn_ge0, jn_eq0T, jn_eq0F, jn_in, jn_cl, jn_le0F, jc_of_149 hR1, md_parted, nj', Bool.toNat_false]
                  simp (disch := omega) only [s186_192, Option.some.injEq, exists_eq_left', exists_eq_left, List.cons_append, List.nil_append, List.length_nil, List.length_cons, Nat.reduceAdd, Nat.reduceMul, Nat.reduceSub, Nat.reduceLeDiff, true_and, and_true, ↓reduceIte, not_false_eq_true, not_true_eq_false, nI_add, pk_mul, jn_ltT, jn_ltF, jn_leT, jn_leF, jn_eqT, jn_eqF, jn_lt0, jn_ge0, jn_eq0T, jn_eq0F, jn_in, jn_cl]
                  exact bad _ _
                · subst e
                  rw [if_neg (by decide)] at nj'
                  simp (disch := omega) only [s186_162, s186_164, s186_167, s186_169, s186_171, s186_174, s186_175, s186_177, s186_179, s186_181, s186_184, s186_185, s186_188, s186_189, Option.some.injEq, exists_eq_left', exists_eq_left, List.cons_append, List.nil_append, List.length_nil, List.length_cons, Nat.reduceAdd, Nat.reduceMul, Nat.reduceSub, Nat.reduceLeDiff, true_and, and_true, ↓reduceIte, not_false_eq_true, not_true_eq_false, nI_add, pk_mul, jn_ltT, jn_ltF, jn_leT, jn_leF, jn_eqT, jn_eqF, jn_lt0, jn_ge0, jn_eq0T, jn_eq0F, jn_in, jn_cl, jn_le0F, jc_of_149 hR1, md_parted, if_neg (show ¬ (0 : Nat) = 1 by decide), nj', Bool.toNat_false]
                  simp (disch := omega) only [s186_192, Option.some.injEq, exists_eq_left', exists_eq_left, List.cons_append, List.nil_append, List.length_nil, List.length_cons, Nat.reduceAdd, Nat.reduceMul, Nat.reduceSub, Nat.reduceLeDiff, true_and, and_true, ↓reduceIte, not_false_eq_true, not_true_eq_false, nI_add, pk_mul, jn_ltT, jn_ltF, jn_leT, jn_leF, jn_eqT, jn_eqF, jn_lt0, jn_ge0, jn_eq0T, jn_eq0F, jn_in, jn_cl]
                  exact bad _ _
            · rw [s186_162]
              rcases jbel_f j2 with u | ⟨u, u2⟩
              · simp (disch := omega) only [s186_164, Option.some.injEq, exists_eq_left', exists_eq_left, List.cons_append, List.nil_append, List.length_nil, List.length_cons, Nat.reduceAdd, Nat.reduceMul, Nat.reduceSub, Nat.reduceLeDiff, true_and, and_true, ↓reduceIte, not_false_eq_true, not_true_eq_false, nI_add, pk_mul, jn_ltT, jn_ltF, jn_leT, jn_leF, jn_eqT, jn_eqF, jn_lt0, jn_ge0, jn_eq0T, jn_eq0F, jn_in, jn_cl]
                rw [if_pos (Int32.le_of_lt u)]
                exact bad _ _
              · have u3 : ¬ A 158 (2 * k + 1) ≤ 0 := by
                  intro z
                  have := Int32.le_trans u2 z
                  revert this
                  decide
                simp (disch := omega) only [s186_164, Option.some.injEq, exists_eq_left', exists_eq_left, List.cons_append, List.nil_append, List.length_nil, List.length_cons, Nat.reduceAdd, Nat.reduceMul, Nat.reduceSub, Nat.reduceLeDiff, true_and, and_true, ↓reduceIte, not_false_eq_true, not_true_eq_false, nI_add, pk_mul, jn_ltT, jn_ltF, jn_leT, jn_leF, jn_eqT, jn_eqF, jn_lt0, jn_ge0, jn_eq0T, jn_eq0F, jn_in, jn_cl]
                rw [if_neg u3]
                simp (disch := omega) only [s186_167, s186_169, s186_171, Option.some.injEq, exists_eq_left', exists_eq_left, List.cons_append, List.nil_append, List.length_nil, List.length_cons, Nat.reduceAdd, Nat.reduceMul, Nat.reduceSub, Nat.reduceLeDiff, true_and, and_true, ↓reduceIte, not_false_eq_true, not_true_eq_false, nI_add, pk_mul, jn_ltT, jn_ltF, jn_leT, jn_leF, jn_eqT, jn_eqF, jn_lt0, jn_ge0, jn_eq0T, jn_eq0F, jn_in, jn_cl]
                rw [if_pos u2]
                exact bad _ _
          simp (disch := omega) only [s186_93, s186_95, s186_96, Option.some.injEq, exists_eq_left', exists_eq_left, List.cons_append, List.nil_append, List.length_nil, List.length_cons, Nat.reduceAdd, Nat.reduceMul, Nat.reduceSub, Nat.reduceLeDiff, true_and, and_true, ↓reduceIte, not_false_eq_true, not_true_eq_false, nI_add, pk_mul, jn_ltT, jn_ltF, jn_leT, jn_leF, jn_eqT, jn_eqF, jn_lt0, jn_ge0, jn_eq0T, jn_eq0F, jn_in, jn_cl, w2]
          by_cases a0 : A 158 (2 * k) = nI 0
          · have := k162 0 (by omega) a0 (by rw [if_pos rfl]; rw [a0] at w3; exact fun z => w3 ⟨by decide, z⟩)
            rw [a0] at this
            simp (disch := omega) only [s186_151, s186_153, Option.some.injEq, exists_eq_left', exists_eq_left, List.cons_append, List.nil_append, List.length_nil, List.length_cons, Nat.reduceAdd, Nat.reduceMul, Nat.reduceSub, Nat.reduceLeDiff, true_and, and_true, ↓reduceIte, not_false_eq_true, not_true_eq_false, nI_add, pk_mul, jn_ltT, jn_ltF, jn_leT, jn_leF, jn_eqT, jn_eqF, jn_lt0, jn_ge0, jn_eq0T, jn_eq0F, jn_in, jn_cl, a0]
            exact this
          · have a0' : ¬ A 158 (2 * k) = 0 := a0
            by_cases a1 : A 158 (2 * k) = nI 1
            · have := k162 1 (by omega) a1 (by rw [if_neg (by decide)]; rw [a1] at w4; exact fun z => w4 (by rw [z]; decide))
              rw [a1] at this
              simp (disch := omega) only [s186_151, s186_153, s186_156, s186_158, s186_159, Option.some.injEq, exists_eq_left', exists_eq_left, List.cons_append, List.nil_append, List.length_nil, List.length_cons, Nat.reduceAdd, Nat.reduceMul, Nat.reduceSub, Nat.reduceLeDiff, true_and, and_true, ↓reduceIte, not_false_eq_true, not_true_eq_false, nI_add, pk_mul, jn_ltT, jn_ltF, jn_leT, jn_leF, jn_eqT, jn_eqF, jn_lt0, jn_ge0, jn_eq0T, jn_eq0F, jn_in, jn_cl, a1]
              exact this
            · simp (disch := omega) only [s186_151, s186_153, s186_156, s186_158, s186_159, Option.some.injEq, exists_eq_left', exists_eq_left, List.cons_append, List.nil_append, List.length_nil, List.length_cons, Nat.reduceAdd, Nat.reduceMul, Nat.reduceSub, Nat.reduceLeDiff, true_and, and_true, ↓reduceIte, not_false_eq_true, not_true_eq_false, nI_add, pk_mul, jn_ltT, jn_ltF, jn_leT, jn_leF, jn_eqT, jn_eqF, jn_lt0, jn_ge0, jn_eq0T, jn_eq0F, jn_in, jn_cl, a0', a1]
              exact bad _ _
    · rw [jck_n w] at kf
      simp (disch := omega) only [s186_63, s186_66, s186_68, s186_69, s186_70, Option.some.injEq, exists_eq_left', exists_eq_left, List.cons_append, List.nil_append, List.length_nil, List.length_cons, Nat.reduceAdd, Nat.reduceMul, Nat.reduceSub, Nat.reduceLeDiff, true_and, and_true, ↓reduceIte, not_false_eq_true, not_true_eq_false, nI_add, pk_mul, jn_ltT, jn_ltF, jn_leT, jn_leF, jn_eqT, jn_eqF, jn_lt0, jn_ge0, jn_eq0T, jn_eq0F, jn_in, jn_cl]
      exact kf rfl A1 h1 fr hR1 hD1
end MD27
