/-! ===== the class: the greatest fooling set is that of the reference ===== -/
section CL18
variable {d : Nat} {F : Nat → Nat → Nat} {A : Nat → Nat → Int32} {G : Nat → Option Nat} {g : Nat → Int64} {h : jxH} {Q : List Value → jxH → Prop}
theorem jcS_0 : jcS (fun _ => 5) = 0 := by decide +kernel
theorem jGc_0 {v : Nat → Int32} {R C : Nat} {x : Int32} : jGc v R C x (fun _ => 5) := ⟨fun _ => (by decide : 5 < 6), fun _ (h : 5 < 5) => absurd h (by decide), fun _ _ _ (h : 5 < 5) => absurd h (by decide)⟩
theorem se_greatestFooling (hR : jR F A G g h) {v : Nat → Int32} {R C : Nat} (hM : jMk F A v R C) (e2 : F 2 0 = R) (e3 : F 2 1 = C) (hr : R ≤ 5) (hc : C ≤ 5) {b : Nat} (hb : b ≤ 1) (k : ∀ h' f c, jGc v R C (nI b) c → (∀ e, jGc v R C (nI b) e → jcN e ≤ jcN c) → jR (jup F 146 5 (jcS c)) (jua A 147 f) G g h' → jD h h' → Q [.int (nI (jcS c))] h') : jx_Go jxP (d + 7) 45 0 [.ref 146, .int (nI b), jx_u, jx_u] [] h Q := by
  have hP := jpx_lt (v := v) (C := C) (x := nI b) hr
  have hPb := fun p => jpx_bit (v := v) (R := R) (C := C) (x := nI b) (p := p)
  simp (disch := omega) only [s45_0, s45_1, s45_2, Option.some.injEq, exists_eq_left', exists_eq_left, List.cons_append, List.nil_append, List.length_nil, List.length_cons, Nat.reduceAdd, Nat.reduceMul, Nat.reduceSub, Nat.reduceLeDiff, true_and, and_true, ↓reduceIte, not_false_eq_true, not_true_eq_false, nI_add, pk_mul, jn_ltT, jn_ltF, jn_leT, jn_leF, jn_eqT, jn_eqF, jn_lt0, jn_ge0, jn_eq0T, jn_eq0F, jn_in, jn_cl, jc_of_146 hR]
  refine se_placesThatAre hR hM e2 hr hc hb ?_
  simp (disch := omega) only [s45_5, s45_6, s45_7, Option.some.injEq, exists_eq_left', exists_eq_left, List.cons_append, List.nil_append, List.length_nil, List.length_cons, Nat.reduceAdd, Nat.reduceMul, Nat.reduceSub, Nat.reduceLeDiff, true_and, and_true, ↓reduceIte, not_false_eq_true, not_true_eq_false, nI_add, pk_mul, jn_ltT, jn_ltF, jn_leT, jn_leF, jn_eqT, jn_eqF, jn_lt0, jn_ge0, jn_eq0T, jn_eq0F, jn_in, jn_cl]
  refine jloop (fun p => ∀ f h1, (∀ q, q < p → (jpx v R C (nI b)).testBit q = true → f q = nI (jmk 25 fun s => (jpx v R C (nI b)).testBit s && !jlie v R C q s)) → jR F (jua A 147 f) G g h1 → jD h h1 → jx_Go jxP (d + 7) 45 8 [.ref 146, .int (nI b), .int (nI (jpx v R C (nI b))), .int (nI p)] [] h1 Q) 25 ?_ ?_ 0 (Nat.zero_le _) (A 147) h (fun q hq => by omega) (by rw [jua_id]; exact hR) jD.rf
  · intro f h1 hf hR1 hD1
    rw [s45_8]
    have hR2 := hR1.uf (o := 146) (k := 5) (v := 0) rfl rfl
    have hD2 := hD1.uf (a := 146) (k := 5) (v := .int (nI 0)) (by decide)
    simp (disch := omega) only [s45_9, s45_11, s45_45, s45_46, s45_47, Option.some.injEq, exists_eq_left', exists_eq_left, List.cons_append, List.nil_append, List.length_nil, List.length_cons, Nat.reduceAdd, Nat.reduceMul, Nat.reduceSub, Nat.reduceLeDiff, true_and, and_true, ↓reduceIte, not_false_eq_true, not_true_eq_false, nI_add, pk_mul, jn_ltT, jn_ltF, jn_leT, jn_leF, jn_eqT, jn_eqF, jn_lt0, jn_ge0, jn_eq0T, jn_eq0F, jn_in, jn_cl, jf_146_5 hR1]
    generalize jx_uf h1 146 5 (.int (nI 0)) = h2 at hR2 hD2 ⊢
    simp (disch := omega) only [s45_50, s45_51, s45_52, s45_53, s45_54, Option.some.injEq, exists_eq_left', exists_eq_left, List.cons_append, List.nil_append, List.length_nil, List.length_cons, Nat.reduceAdd, Nat.reduceMul, Nat.reduceSub, Nat.reduceLeDiff, true_and, and_true, ↓reduceIte, not_false_eq_true, not_true_eq_false, nI_add, pk_mul, jn_ltT, jn_ltF, jn_leT, jn_leF, jn_eqT, jn_eqF, jn_lt0, jn_ge0, jn_eq0T, jn_eq0F, jn_in, jn_cl, jc_of_146 hR2]
    have fin := se_choose (F := F) (A := jua A 147 f) (G := G) (g := g) (h := h) (v := v) (x := nI b) hr hc e2 e3 (fun p p1 p2 p3 p4 => by
      rw [jua_same]
      exact hf p p1 (by rw [hPb, decide_eq_true (show p < 5 * R by omega), decide_eq_true p3, p4, beq_self_eq_true]; rfl)) R 0 (by omega) (d + 5 - R) (jpx v R C (nI b)) (fun _ => 5) (fun _ => 5) h2 ⟨hP, fun p _ => by
        rw [hPb, Bool.and_eq_true, Bool.and_eq_true, decide_eq_true_iff, decide_eq_true_iff, beq_iff_eq]
        exact ⟨fun w => ⟨by omega, w.2.1, w.2.2, fun r hr' => by omega⟩, fun w => ⟨by omega, w.2.1, w.2.2.1⟩⟩⟩ jGc_0 (fun _ _ => rfl) jGc_0 (by rw [jcS_0]; exact hR2) hD2 (Q := fun s1 h1 => jx_Go jxP (d + 6 + 1) 45 57 [.ref 146, .int (nI b), .int (nI (jpx v R C (nI b))), .int (nI 25)] (s1 ++ []) h1 Q) (fun c h3 c1 c2 c3 hR3 hD3 => by
        have f5 := jf_146_5 hR3
        rw [jup_same] at f5
        simp (disch := omega) only [s45_57, s45_58, s45_61, Option.some.injEq, exists_eq_left', exists_eq_left, List.cons_append, List.nil_append, List.length_nil, List.length_cons, Nat.reduceAdd, Nat.reduceMul, Nat.reduceSub, Nat.reduceLeDiff, true_and, and_true, ↓reduceIte, not_false_eq_true, not_true_eq_false, nI_add, pk_mul, jn_ltT, jn_ltF, jn_leT, jn_leF, jn_eqT, jn_eqF, jn_lt0, jn_ge0, jn_eq0T, jn_eq0F, jn_in, jn_cl, f5]
        exact k h3 f c c1 (fun e he => c3 e he (fun r hr' => by omega)) hR3 hD3)
    rw [show d + 5 - R + R + 1 = d + 6 by omega, jcS_0] at fin
    exact fin
  · intro p hp ih f h1 hf hR1 hD1
    have hM1 : jMk F (jua A 147 f) v R C := hM.fr rfl rfl (jua_ne (by decide)) (jua_ne (by decide))
    have u : jua A 147 f 147 = f := jua_same
    have nx : ∀ w, ((jpx v R C (nI b)).testBit p = true → w = nI (jmk 25 fun s => (jpx v R C (nI b)).testBit s && !jlie v R C p s)) → jx_Go jxP (d + 7) 45 38 [.ref 146, .int (nI b), .int (nI (jpx v R C (nI b))), .int (nI p)] [.int w, .int (nI p), .ref 147] h1 Q := by
      intro w hw
      simp (disch := omega) only [s45_38, s45_39, s45_42, Option.some.injEq, exists_eq_left', exists_eq_left, List.cons_append, List.nil_append, List.length_nil, List.length_cons, Nat.reduceAdd, Nat.reduceMul, Nat.reduceSub, Nat.reduceLeDiff, true_and, and_true, ↓reduceIte, not_false_eq_true, not_true_eq_false, nI_add, pk_mul, jn_ltT, jn_ltF, jn_leT, jn_leF, jn_eqT, jn_eqF, jn_lt0, jn_ge0, jn_eq0T, jn_eq0F, jn_in, jn_cl, ja_147 hR1, u]
      have hR2 := hR1.wi (a := 147) (f := upd f p w) rfl
      rw [jua_jua] at hR2
      refine ih _ _ (fun q hq hb' => ?_) hR2 (hD1.wi (by decide))
      by_cases z : q = p
      · subst z; rw [jupd_same]; exact hw hb'
      · rw [jupd_ne z]; exact hf q (by omega) hb'
    rw [s45_8]
    simp (disch := omega) only [s45_9, s45_11, s45_14, s45_15, s45_18, s45_19, s45_20, s45_21, s45_22, s45_23, s45_24, Option.some.injEq, exists_eq_left', exists_eq_left, List.cons_append, List.nil_append, List.length_nil, List.length_cons, Nat.reduceAdd, Nat.reduceMul, Nat.reduceSub, Nat.reduceLeDiff, true_and, and_true, ↓reduceIte, not_false_eq_true, not_true_eq_false, nI_add, pk_mul, jn_ltT, jn_ltF, jn_leT, jn_leF, jn_eqT, jn_eqF, jn_lt0, jn_ge0, jn_eq0T, jn_eq0F, jn_in, jn_cl, jf_146_2 hR1, jsh_bit]
    by_cases w : (jpx v R C (nI b)).testBit p = true
    · rw [if_pos w]
      have wb := w
      rw [hPb, Bool.and_eq_true, decide_eq_true_iff] at wb
      simp (disch := omega) only [s45_25, s45_28, s45_29, s45_30, s45_31, Option.some.injEq, exists_eq_left', exists_eq_left, List.cons_append, List.nil_append, List.length_nil, List.length_cons, Nat.reduceAdd, Nat.reduceMul, Nat.reduceSub, Nat.reduceLeDiff, true_and, and_true, ↓reduceIte, not_false_eq_true, not_true_eq_false, nI_add, pk_mul, jn_ltT, jn_ltF, jn_leT, jn_leF, jn_eqT, jn_eqF, jn_lt0, jn_ge0, jn_eq0T, jn_eq0F, jn_in, jn_cl, jc_of_146 hR1]
      refine se_placesApart hR1 hM1 hr hc (by omega) hP (fun q hq => by
        rw [hPb, Bool.and_eq_true, decide_eq_true_iff] at hq
        omega) ?_
      simp (disch := omega) only [s45_34, Option.some.injEq, exists_eq_left', exists_eq_left, List.cons_append, List.nil_append, List.length_nil, List.length_cons, Nat.reduceAdd, Nat.reduceMul, Nat.reduceSub, Nat.reduceLeDiff, true_and, and_true, ↓reduceIte, not_false_eq_true, not_true_eq_false, nI_add, pk_mul, jn_ltT, jn_ltF, jn_leT, jn_leF, jn_eqT, jn_eqF, jn_lt0, jn_ge0, jn_eq0T, jn_eq0F, jn_in, jn_cl]
      exact nx _ (fun _ => rfl)
    · rw [if_neg w]
      simp (disch := omega) only [s45_25, s45_37, Option.some.injEq, exists_eq_left', exists_eq_left, List.cons_append, List.nil_append, List.length_nil, List.length_cons, Nat.reduceAdd, Nat.reduceMul, Nat.reduceSub, Nat.reduceLeDiff, true_and, and_true, ↓reduceIte, not_false_eq_true, not_true_eq_false, nI_add, pk_mul, jn_ltT, jn_ltF, jn_leT, jn_leF, jn_eqT, jn_eqF, jn_lt0, jn_ge0, jn_eq0T, jn_eq0F, jn_in, jn_cl]
      exact nx _ (fun z => absurd z w)
theorem jfm_ge {v : Nat → Int32} {R C : Nat} {x : Int32} : ∀ n m, m < n → (jfl v R C x m R).2 = true → (jfl v R C x m R).1.length ≤ jfm v R C x n := by
  intro n
  induction n with
  | zero => intro m h1; omega
  | succ n ih =>
    intro m h1 h2
    rw [jfm_s]
    rcases (show m < n ∨ m = n by omega) with w | w
    · have := ih m w h2
      split <;> omega
    · subst w
      split
      case isTrue z => exact Nat.le_refl _
      case isFalse z =>
        rcases Nat.lt_or_ge (jfm v R C x m) (jfl v R C x m R).1.length with y | y
        · exact absurd ⟨h2, y⟩ z
        · exact y
theorem jfm_att {v : Nat → Int32} {R C : Nat} {x : Int32} : ∀ n, jfm v R C x n = 0 ∨ ∃ m, m < n ∧ (jfl v R C x m R).2 = true ∧ jfm v R C x n = (jfl v R C x m R).1.length := by
  intro n
  induction n with
  | zero => exact Or.inl rfl
  | succ n ih =>
    rw [jfm_s]
    split
    case isTrue z => exact Or.inr ⟨n, by omega, z.1, rfl⟩
    case isFalse z =>
      rcases ih with ih | ⟨m, h1, h2⟩
      · exact Or.inl ih
      · exact Or.inr ⟨m, by omega, h2⟩
/-- the choice that a number tells -/
def jce (R C m : Nat) : Nat → Nat := fun r => if r < R ∧ jdig C m r ≠ 0 then jdig C m r - 1 else 5
theorem jce_f {v : Nat → Int32} {R C : Nat} {x : Int32} {m : Nat} (hC : C ≤ 5) : ∀ r, r ≤ R → (∀ p, p ∈ (jfl v R C x m r).1 ↔ ∃ r', r' < r ∧ jce R C m r' < 5 ∧ p = 5 * r' + jce R C m r') ∧ (jfl v R C x m r).1.length = jsum r (fun r => jcsn (jce R C m r)) ∧ ((jfl v R C x m r).2 = true ↔ (∀ r', r' < r → jce R C m r' < 5 → v (5 * r' + jce R C m r') = x) ∧ ∀ r1 r2, r1 < r → r2 < r1 → jce R C m r1 < 5 → jce R C m r2 < 5 → jlie v R C (5 * r2 + jce R C m r2) (5 * r1 + jce R C m r1) = false) := by
  intro r
  induction r with
  | zero =>
    intro _
    refine ⟨fun p => ⟨fun h => (by cases h), fun ⟨r', h, _⟩ => by omega⟩, rfl, ⟨fun _ => ⟨fun r' h => by omega, fun r1 r2 h => by omega⟩, fun _ => rfl⟩⟩
  | succ r ih =>
    intro hr
    obtain ⟨i1, i2, i3⟩ := ih (by omega)
    have dl : jdig C m r < C + 1 := Nat.mod_lt _ (by omega)
    rw [jfl_s, jsum_s]
    by_cases w : jdig C m r = 0
    · have e5 : jce R C m r = 5 := by unfold jce; rw [if_neg (by omega)]
      rw [if_pos w]
      refine ⟨fun p => ?_, ?_, ?_⟩
      · rw [i1]
        constructor
        · rintro ⟨r', h1, h2⟩; exact ⟨r', by omega, h2⟩
        · rintro ⟨r', h1, h2, h3⟩
          rcases (show r' < r ∨ r' = r by omega) with z | z
          · exact ⟨r', z, h2, h3⟩
          · subst z; omega
      · rw [i2, e5]; rfl
      · rw [i3]
        constructor
        · rintro ⟨a1, a2⟩
          refine ⟨fun r' h1 h2 => ?_, fun r1 r2 h1 h2 h3 h4 => ?_⟩
          · rcases (show r' < r ∨ r' = r by omega) with z | z
            · exact a1 r' z h2
            · subst z; omega
          · rcases (show r1 < r ∨ r1 = r by omega) with z | z
            · exact a2 r1 r2 z h2 h3 h4
            · subst z; omega
        · rintro ⟨a1, a2⟩
          exact ⟨fun r' h1 h2 => a1 r' (by omega) h2, fun r1 r2 h1 h2 h3 h4 => a2 r1 r2 (by omega) h2 h3 h4⟩
    · have e5 : jce R C m r = jdig C m r - 1 := by unfold jce; rw [if_pos ⟨by omega, w⟩]
      have l5 : jce R C m r < 5 := by omega
      rw [if_neg w, ← e5]
      refine ⟨fun p => ?_, ?_, ?_⟩
      · rw [List.mem_append, List.mem_singleton, i1]
        constructor
        · rintro (⟨r', h1, h2⟩ | h1)
          · exact ⟨r', by omega, h2⟩
          · exact ⟨r, by omega, l5, h1⟩
        · rintro ⟨r', h1, h2, h3⟩
          rcases (show r' < r ∨ r' = r by omega) with z | z
          · exact Or.inl ⟨r', z, h2, h3⟩
          · subst z; exact Or.inr h3
      · rw [List.length_append, i2, List.length_singleton]
        unfold jcsn
        rw [if_pos l5]
      · rw [Bool.and_eq_true, Bool.and_eq_true, i3, beq_iff_eq, List.all_eq_true]
        constructor
        · rintro ⟨⟨⟨a1, a2⟩, a3⟩, a4⟩
          refine ⟨fun r' h1 h2 => ?_, fun r1 r2 h1 h2 h3 h4 => ?_⟩
          · rcases (show r' < r ∨ r' = r by omega) with z | z
            · exact a1 r' z h2
            · subst z; exact a3
          · rcases (show r1 < r ∨ r1 = r by omega) with z | z
            · exact a2 r1 r2 z h2 h3 h4
            · subst z
              have := a4 _ ((i1 _).mpr ⟨r2, h2, h4, rfl⟩)
              cases u : jlie v R C (5 * r2 + jce R C m r2) (5 * r1 + jce R C m r1) with
              | false => rfl
              | true => rw [u] at this; cases this
        · rintro ⟨a1, a2⟩
          refine ⟨⟨⟨fun r' h1 h2 => a1 r' (by omega) h2, fun r1 r2 h1 h2 h3 h4 => a2 r1 r2 (by omega) h2 h3 h4⟩, a1 r (by omega) l5⟩, fun p hp => ?_⟩
          obtain ⟨r', h1, h2, h3⟩ := (i1 p).mp hp
          rw [h3, a2 r r' (by omega) h1 l5 h2]
          rfl
theorem jsum_cut {f : Nat → Nat} {R : Nat} (h0 : ∀ r, R ≤ r → f r = 0) : ∀ n, R ≤ n → jsum n f = jsum R f := by
  intro n
  induction n with
  | zero => intro h1; rw [show R = 0 by omega]
  | succ n ih =>
    intro h1
    rcases (show R ≤ n ∨ R = n + 1 by omega) with w | w
    · rw [jsum_s, h0 n w, ih w]; rfl
    · rw [w]
theorem jdig_ex {C : Nat} {dg : Nat → Nat} : ∀ R, (∀ r, r < R → dg r ≤ C) → ∃ m, m < (C + 1) ^ R ∧ ∀ r, r < R → jdig C m r = dg r := by
  intro R
  induction R with
  | zero => intro _; exact ⟨0, Nat.one_pos, fun r h => by omega⟩
  | succ R ih =>
    intro hd
    obtain ⟨m, m1, m2⟩ := ih (fun r hr => hd r (by omega))
    have dR := hd R (by omega)
    refine ⟨m + (C + 1) ^ R * dg R, ?_, fun r hr => ?_⟩
    · rw [Nat.pow_succ]
      have : (C + 1) ^ R * dg R ≤ (C + 1) ^ R * C := Nat.mul_le_mul_left _ dR
      rw [Nat.mul_succ]
      omega
    · have pp : 0 < (C + 1) ^ r := Nat.pow_pos (by omega)
      unfold jdig
      rcases (show r < R ∨ r = R by omega) with w | w
      · have e : (C + 1) ^ R * dg R = (C + 1) ^ r * ((C + 1) * ((C + 1) ^ (R - r - 1) * dg R)) := by
          have : (C + 1) ^ R = (C + 1) ^ r * ((C + 1) * (C + 1) ^ (R - r - 1)) := by
            rw [← Nat.pow_succ', ← Nat.pow_add]
            congr 1
            omega
          rw [this, Nat.mul_assoc, Nat.mul_assoc]
        rw [e, Nat.add_mul_div_left _ _ pp, Nat.add_mul_mod_self_left]
        exact m2 r w
      · subst w
        rw [Nat.add_mul_div_left _ _ pp, Nat.div_eq_of_lt m1, Nat.zero_add]
        exact Nat.mod_eq_of_lt (by omega)
theorem jfm_max {v : Nat → Int32} {R C : Nat} {x : Int32} {c : Nat → Nat} (hR : R ≤ 5) (hC : C ≤ 5) (hc : jGc v R C x c) (hm : ∀ e, jGc v R C x e → jcN e ≤ jcN c) : jfm v R C x ((C + 1) ^ R) = jcN c := by
  have cut : ∀ e : Nat → Nat, (∀ r, R ≤ r → 5 ≤ e r) → jcN e = jsum R fun r => jcsn (e r) := fun e h1 => jsum_cut (fun r hr => by unfold jcsn; rw [if_neg (by have := h1 r hr; omega)]) 5 hR
  apply Nat.le_antisymm
  · rcases jfm_att (v := v) (R := R) (C := C) (x := x) ((C + 1) ^ R) with w | ⟨m, m1, m2, m3⟩
    · omega
    · obtain ⟨i1, i2, i3⟩ := jce_f (v := v) (x := x) (m := m) hC R (Nat.le_refl _)
      obtain ⟨a1, a2⟩ := i3.mp m2
      have ge : ∀ r, R ≤ r → 5 ≤ jce R C m r := fun r hr => by unfold jce; rw [if_neg (by omega)]; omega
      have dl : ∀ r, jdig C m r < C + 1 := fun r => Nat.mod_lt _ (by omega)
      have lt : ∀ r, jce R C m r < 5 → r < R := fun r h5 => by
        rcases Nat.lt_or_ge r R with z | z
        · exact z
        · have := ge r z; omega
      rw [m3, i2, ← cut _ ge]
      refine hm _ ⟨fun r => ?_, fun r h5 => ⟨lt r h5, ?_, a1 r (lt r h5) h5⟩, fun r r' h1 h2 h3 => a2 r r' (lt r h2) h1 h2 h3⟩
      · have := dl r
        unfold jce
        split <;> omega
      · have := dl r
        unfold jce at h5 ⊢
        split at h5
        case isTrue z => rw [if_pos z]; omega
        case isFalse z => omega
  · obtain ⟨m, m1, m2⟩ := jdig_ex (C := C) (dg := fun r => if c r < 5 then c r + 1 else 0) R (fun r hr => by
      split
      case isTrue z => have := (hc.2.1 r z).2.1; omega
      case isFalse z => omega)
    have ec : ∀ r, jce R C m r = c r := by
      intro r
      have c6 := hc.1 r
      unfold jce
      rcases Nat.lt_or_ge r R with z | z
      · rw [m2 r z]
        by_cases w : c r < 5
        · rw [if_pos w, if_pos ⟨z, by omega⟩]; omega
        · rw [if_neg w, if_neg (by omega)]; omega
      · rw [if_neg (by omega)]
        rcases Nat.lt_or_ge (c r) 5 with w | w
        · have := (hc.2.1 r w).1; omega
        · omega
    obtain ⟨i1, i2, i3⟩ := jce_f (v := v) (x := x) (m := m) hC R (Nat.le_refl _)
    have fl : (jfl v R C x m R).2 = true := i3.mpr ⟨fun r h1 h2 => by rw [ec] at h2 ⊢; exact (hc.2.1 r h2).2.2, fun r1 r2 h1 h2 h3 h4 => by rw [ec] at h3 h4; rw [ec, ec]; exact hc.2.2 r1 r2 h2 h3 h4⟩
    have := jfm_ge _ m m1 fl
    rw [i2] at this
    have e : jcN c = jsum R fun r => jcsn (jce R C m r) := by
      rw [cut c (fun r hr => by
        rcases Nat.lt_or_ge (c r) 5 with w | w
        · have := (hc.2.1 r w).1; omega
        · exact w)]
      exact jsum_congr (fun r _ => by rw [ec])
    omega
end CL18
