/-! ===== the class: likeness is that of the reference ===== -/
section CL24
variable {d : Nat} {F : Nat → Nat → Nat} {A : Nat → Nat → Int32} {G : Nat → Option Nat} {g : Nat → Int64} {h : jxH} {Q : List Value → jxH → Prop}
/-- the number of an order, from its line i on -/
def jrk (n : Nat) (p : Nat → Nat) (f i : Nat) : Nat := match f with
  | 0 => 0
  | f + 1 => (jsum (p i) fun l => if (jany i fun j => p j == l) = true then 0 else 1) + (n - i) * jrk n p f (i + 1)
theorem jlin_p' : ∀ m, m < 6 → ∀ o, o < 120 → (jall m fun i => jall i fun j => jlin m o i != jlin m o j) = true := by decide +kernel
theorem jlin_p {m o : Nat} (hm : m ≤ 5) (ho : o < 120) : jPm m (jlin m o) := by
  have t := jall_iff.mp (jlin_p' m (by omega) o ho)
  refine ⟨fun i hi => jlin_lt hm ho hi, fun i j hi hj e => ?_⟩
  rcases Nat.lt_trichotomy i j with w | w | w
  · have := jall_iff.mp (t j hj) i w
    rw [e, bne_self_eq_false] at this
    cases this
  · exact w
  · have := jall_iff.mp (t i hi) j w
    rw [e, bne_self_eq_false] at this
    cases this
theorem jlin_1 : ∀ p0, p0 < 1 → (!(jall 1 fun i => jall i fun j => (fun i => p0) i != (fun i => p0) j) || (decide (jrk 1 (fun i => p0) 1 0 < jfct 1) && jall 1 fun i => jlin 1 (jrk 1 (fun i => p0) 1 0) i == (fun i => p0) i)) = true := by decide +kernel
theorem jlin_2 : ∀ p0, p0 < 2 → ∀ p1, p1 < 2 → (!(jall 2 fun i => jall i fun j => (fun i => if i = 0 then p0 else p1) i != (fun i => if i = 0 then p0 else p1) j) || (decide (jrk 2 (fun i => if i = 0 then p0 else p1) 2 0 < jfct 2) && jall 2 fun i => jlin 2 (jrk 2 (fun i => if i = 0 then p0 else p1) 2 0) i == (fun i => if i = 0 then p0 else p1) i)) = true := by decide +kernel
theorem jlin_3 : ∀ p0, p0 < 3 → ∀ p1, p1 < 3 → ∀ p2, p2 < 3 → (!(jall 3 fun i => jall i fun j => (fun i => if i = 0 then p0 else if i = 1 then p1 else p2) i != (fun i => if i = 0 then p0 else if i = 1 then p1 else p2) j) || (decide (jrk 3 (fun i => if i = 0 then p0 else if i = 1 then p1 else p2) 3 0 < jfct 3) && jall 3 fun i => jlin 3 (jrk 3 (fun i => if i = 0 then p0 else if i = 1 then p1 else p2) 3 0) i == (fun i => if i = 0 then p0 else if i = 1 then p1 else p2) i)) = true := by decide +kernel
theorem jlin_4 : ∀ p0, p0 < 4 → ∀ p1, p1 < 4 → ∀ p2, p2 < 4 → ∀ p3, p3 < 4 → (!(jall 4 fun i => jall i fun j => (fun i => if i = 0 then p0 else if i = 1 then p1 else if i = 2 then p2 else p3) i != (fun i => if i = 0 then p0 else if i = 1 then p1 else if i = 2 then p2 else p3) j) || (decide (jrk 4 (fun i => if i = 0 then p0 else if i = 1 then p1 else if i = 2 then p2 else p3) 4 0 < jfct 4) && jall 4 fun i => jlin 4 (jrk 4 (fun i => if i = 0 then p0 else if i = 1 then p1 else if i = 2 then p2 else p3) 4 0) i == (fun i => if i = 0 then p0 else if i = 1 then p1 else if i = 2 then p2 else p3) i)) = true := by decide +kernel
theorem jlin_5 : ∀ p0, p0 < 5 → ∀ p1, p1 < 5 → ∀ p2, p2 < 5 → ∀ p3, p3 < 5 → ∀ p4, p4 < 5 → (!(jall 5 fun i => jall i fun j => (fun i => if i = 0 then p0 else if i = 1 then p1 else if i = 2 then p2 else if i = 3 then p3 else p4) i != (fun i => if i = 0 then p0 else if i = 1 then p1 else if i = 2 then p2 else if i = 3 then p3 else p4) j) || (decide (jrk 5 (fun i => if i = 0 then p0 else if i = 1 then p1 else if i = 2 then p2 else if i = 3 then p3 else p4) 5 0 < jfct 5) && jall 5 fun i => jlin 5 (jrk 5 (fun i => if i = 0 then p0 else if i = 1 then p1 else if i = 2 then p2 else if i = 3 then p3 else p4) 5 0) i == (fun i => if i = 0 then p0 else if i = 1 then p1 else if i = 2 then p2 else if i = 3 then p3 else p4) i)) = true := by decide +kernel
theorem jlin_ex {n : Nat} (h1 : 1 ≤ n) (h5 : n ≤ 5) {p : Nat → Nat} (hp : jPm n p) : ∃ a, a < jfct n ∧ ∀ i, i < n → jlin n a i = p i := by
  have key : ∀ q : Nat → Nat, (∀ i, i < n → q i = p i) → (!(jall n fun i => jall i fun j => q i != q j) || (decide (jrk n q n 0 < jfct n) && jall n fun i => jlin n (jrk n q n 0) i == q i)) = true → ∃ a, a < jfct n ∧ ∀ i, i < n → jlin n a i = p i := by
    intro q e t
    have inj : (jall n fun i => jall i fun j => q i != q j) = true := jall_iff.mpr (fun i hi => jall_iff.mpr (fun j hj => by
      rw [e i hi, e j (by omega)]
      exact bne_iff_ne.mpr (fun w => by have := hp.2 i j hi (by omega) w; omega)))
    rw [inj] at t
    have t' := (Bool.and_eq_true _ _).mp t
    refine ⟨_, of_decide_eq_true t'.1, fun i hi => ?_⟩
    rw [← e i hi]
    exact beq_iff_eq.mp (jall_iff.mp t'.2 i hi)
  rcases (show n = 1 ∨ n = 2 ∨ n = 3 ∨ n = 4 ∨ n = 5 by omega) with e | e | e | e | e
  · subst e
    refine key (fun i => p 0) (fun i hi => ?_) (jlin_1 _ (hp.1 0 (by omega)))
    rcases (show i = 0 by omega) with w <;> subst w <;> rfl
  · subst e
    refine key (fun i => if i = 0 then p 0 else p 1) (fun i hi => ?_) (jlin_2 _ (hp.1 0 (by omega)) _ (hp.1 1 (by omega)))
    rcases (show i = 0 ∨ i = 1 by omega) with w | w <;> subst w <;> rfl
  · subst e
    refine key (fun i => if i = 0 then p 0 else if i = 1 then p 1 else p 2) (fun i hi => ?_) (jlin_3 _ (hp.1 0 (by omega)) _ (hp.1 1 (by omega)) _ (hp.1 2 (by omega)))
    rcases (show i = 0 ∨ i = 1 ∨ i = 2 by omega) with w | w | w <;> subst w <;> rfl
  · subst e
    refine key (fun i => if i = 0 then p 0 else if i = 1 then p 1 else if i = 2 then p 2 else p 3) (fun i hi => ?_) (jlin_4 _ (hp.1 0 (by omega)) _ (hp.1 1 (by omega)) _ (hp.1 2 (by omega)) _ (hp.1 3 (by omega)))
    rcases (show i = 0 ∨ i = 1 ∨ i = 2 ∨ i = 3 by omega) with w | w | w | w <;> subst w <;> rfl
  · subst e
    refine key (fun i => if i = 0 then p 0 else if i = 1 then p 1 else if i = 2 then p 2 else if i = 3 then p 3 else p 4) (fun i hi => ?_) (jlin_5 _ (hp.1 0 (by omega)) _ (hp.1 1 (by omega)) _ (hp.1 2 (by omega)) _ (hp.1 3 (by omega)) _ (hp.1 4 (by omega)))
    rcases (show i = 0 ∨ i = 1 ∨ i = 2 ∨ i = 3 ∨ i = 4 by omega) with w | w | w | w | w <;> subst w <;> rfl
theorem jsm_iff {v s : Nat → Int32} {R C : Nat} (hr : R ≤ 5) (hc : C ≤ 5) (hr1 : 1 ≤ R) (hc1 : 1 ≤ C) : jsm v s R C = true ↔ ∃ a b, jPm R a ∧ jPm C b ∧ ∀ r c, r < R → c < C → v (5 * r + c) = s (5 * a r + b c) := by
  have f1 := jfct_le _ hr
  have f2 := jfct_le _ hc
  have body : ∀ a b, jsmB v s R C a b = true ↔ ∀ r c, r < R → c < C → v (5 * r + c) = s (5 * jlin R a r + jlin C b c) := by
    intro a b
    unfold jsmB
    rw [jall_iff]
    constructor
    · intro w r c h1 h2
      have lt : C * r + c < R * C := by
        have : C * (r + 1) ≤ C * R := Nat.mul_le_mul_left _ h1
        rw [Nat.mul_succ] at this
        rw [Nat.mul_comm R C]
        omega
      have := w (C * r + c) lt
      rw [Nat.mul_add_div (by omega), Nat.div_eq_of_lt h2, Nat.add_zero, Nat.mul_add_mod, Nat.mod_eq_of_lt h2] at this
      exact beq_iff_eq.mp this
    · intro w k hk
      exact beq_iff_eq.mpr (w _ _ (Nat.div_lt_of_lt_mul (by rw [Nat.mul_comm]; exact hk)) (Nat.mod_lt _ (by omega)))
  unfold jsm
  rw [jany_iff]
  constructor
  · rintro ⟨a, ha, w⟩
    obtain ⟨b, hb, w⟩ := jany_iff.mp w
    exact ⟨jlin R a, jlin C b, jlin_p hr (by omega), jlin_p hc (by omega), (body a b).mp w⟩
  · rintro ⟨a, b, pa, pb, w⟩
    obtain ⟨a', ha, ea⟩ := jlin_ex hr1 hr pa
    obtain ⟨b', hb, eb⟩ := jlin_ex hc1 hc pb
    exact ⟨a', ha, jany_iff.mpr ⟨b', hb, (body a' b').mpr (fun r c h1 h2 => by rw [ea r h1, eb c h2]; exact w r c h1 h2)⟩⟩
theorem jMr_iff {V U : Nat → Nat} {R C : Nat} (hr1 : 1 ≤ R) (hV : ∀ r c, r < R → c < C → V (5 * r + c) ≤ 2) (hU : ∀ r c, r < R → c < C → U (5 * r + c) ≤ 2) {s : Nat → Nat} : jMr V U R C 0 s ↔ ∃ a b, jPm R a ∧ jPm C b ∧ ∀ r c, r < R → c < C → V (5 * r + c) = U (5 * a r + b c) := by
  constructor
  · rintro ⟨a, _, pa, w⟩
    obtain ⟨b, pb, e⟩ := w R (by omega) (Nat.le_refl _)
    refine ⟨a, b, pa, pb, fun r c h1 h2 => ?_⟩
    exact jkv_inj (w := fun r c => V (5 * r + c)) (w' := fun r c => U (5 * a r + c)) R (fun r hr => hV r c hr h2) (fun r hr => hU _ _ (pa.1 r hr) (pb.1 c h2)) (e c h2) r h1
  · rintro ⟨a, b, pa, pb, w⟩
    exact ⟨a, fun r hr => by omega, pa, fun i h1 h2 => ⟨b, pb, fun c hc => jkv_congr i (fun r hr => w r c (by omega) hc)⟩⟩
theorem li_isReordered_0 (hR : jR F A G g h) {o p w R C : Nat} {f wv : Nat → Int32} (t : jTk h o p w R C f wv) (hr : F 2 0 ≤ 5) (hc : F 2 1 ≤ 5) (hr' : R ≤ 5) (hc' : C ≤ 5) (ne : F 2 0 ≠ R ∨ F 2 1 ≠ C) (k : Q [.int (nI 0)] h) : jx_Go jxP d 22 0 [.ref 102, .ref 2, .ref o, jx_u] [] h Q := by
  by_cases z : F 2 0 = R
  · simp (disch := omega) only [s22_0, s22_1, s22_4, s22_5, s22_8, s22_11, s22_12, s22_15, s22_16, s22_19, s22_22, s22_23b0, s22_23b1, Option.some.injEq, exists_eq_left', exists_eq_left, List.cons_append, List.nil_append, List.length_nil, List.length_cons, Nat.reduceAdd, Nat.reduceMul, Nat.reduceSub, Nat.reduceLeDiff, true_and, and_true, ↓reduceIte, not_false_eq_true, not_true_eq_false, nI_add, pk_mul, jn_ltT, jn_ltF, jn_leT, jn_leF, jn_eqT, jn_eqF, jn_lt0, jn_ge0, jn_eq0T, jn_eq0F, jn_in, jn_cl, jf_2_0 hR, jf_2_1 hR, t.2.1, t.2.2.1]
    exact k
  · simp (disch := omega) only [s22_0, s22_1, s22_4, s22_5, s22_8, s22_11, s22_12, s22_15, s22_16, s22_19, s22_22, s22_23b0, s22_23b1, Option.some.injEq, exists_eq_left', exists_eq_left, List.cons_append, List.nil_append, List.length_nil, List.length_cons, Nat.reduceAdd, Nat.reduceMul, Nat.reduceSub, Nat.reduceLeDiff, true_and, and_true, ↓reduceIte, not_false_eq_true, not_true_eq_false, nI_add, pk_mul, jn_ltT, jn_ltF, jn_leT, jn_leF, jn_eqT, jn_eqF, jn_lt0, jn_ge0, jn_eq0T, jn_eq0F, jn_in, jn_cl, jf_2_0 hR, jf_2_1 hR, t.2.1, t.2.2.1]
    exact k
theorem li_isReordered (hR : jR F A G g h) {o p w : Nat} {f wv : Nat → Int32} (hr : F 2 0 ≤ 5) (hc : F 2 1 ≤ 5) (hr1 : 1 ≤ F 2 0) (hc1 : 1 ≤ F 2 1) (t : jTk h o p w (F 2 0) (F 2 1) f wv) (ho : 182 ≤ o) (hp : 182 ≤ p) (hw : 182 ≤ w) (hv : jV (A 3) (F 2 0) (F 2 1)) (hf : jV f (F 2 0) (F 2 1)) (z0 : ∀ c, c < 5 → A 104 c = nI 0) (z1 : ∀ c, c < 5 → A 111 c = nI 0) (k : ∀ h' A', (∀ a, (a < 105 ∨ 116 < a ∨ a = 110 ∨ a = 111) → A' a = A a) → jR F A' G g h' → jD h h' → Q [.int (nI (jsm (A 3) f (F 2 0) (F 2 1)).toNat)] h') : jx_Go jxP (d + 8) 22 0 [.ref 102, .ref 2, .ref o, jx_u] [] h Q := by
  have vn : ∀ (v : Nat → Int32), jV v (F 2 0) (F 2 1) → ∃ V : Nat → Nat, ∀ r c, r < F 2 0 → c < F 2 1 → v (5 * r + c) = nI (V (5 * r + c)) ∧ V (5 * r + c) ≤ 2 := by
    intro v hv
    refine ⟨fun q => if v q = nI 0 then 0 else if v q = nI 1 then 1 else 2, fun r c h1 h2 => ?_⟩
    dsimp only
    rcases hv r c h1 h2 with e | e | e
    · rw [e, if_pos rfl]; exact ⟨rfl, by omega⟩
    · rw [e, if_neg (by decide), if_pos rfl]; exact ⟨rfl, by omega⟩
    · rw [e, if_neg (by decide), if_neg (by decide)]; exact ⟨rfl, by omega⟩
  obtain ⟨V, hV⟩ := vn _ hv
  obtain ⟨U, hU⟩ := vn _ hf
  have ejm : jsm (A 3) f (F 2 0) (F 2 1) = true ↔ jMr V U (F 2 0) (F 2 1) 0 (fun _ => 0) := by
    rw [jsm_iff hr hc hr1 hc1, jMr_iff hr1 (fun r c h1 h2 => (hV r c h1 h2).2) (fun r c h1 h2 => (hU r c h1 h2).2)]
    refine exists_congr fun a => exists_congr fun b => and_congr_right fun pa => and_congr_right fun pb => forall_congr' fun r => forall_congr' fun c => forall_congr' fun h1 => forall_congr' fun h2 => ?_
    have a1 := hV r c h1 h2
    have a2 := hU (a r) (b c) (pa.1 r h1) (pb.1 c h2)
    rw [a1.1, a2.1]
    exact nI_eq (by omega) (by omega)
  simp (disch := omega) only [s22_0, s22_1, s22_4, s22_5, s22_8, s22_11, s22_12, s22_15, s22_16, s22_19, s22_24, s22_25, Option.some.injEq, exists_eq_left', exists_eq_left, List.cons_append, List.nil_append, List.length_nil, List.length_cons, Nat.reduceAdd, Nat.reduceMul, Nat.reduceSub, Nat.reduceLeDiff, true_and, and_true, ↓reduceIte, not_false_eq_true, not_true_eq_false, nI_add, pk_mul, jn_ltT, jn_ltF, jn_leT, jn_leF, jn_eqT, jn_eqF, jn_lt0, jn_ge0, jn_eq0T, jn_eq0F, jn_in, jn_cl, jf_2_0 hR, jf_2_1 hR, t.2.1, t.2.2.1]
  refine jloop (fun r => ∀ A1 h1, (∀ a, (a < 105 ∨ 109 < a) → A1 a = A a) → (∀ i c, i ≤ r → c < F 2 1 → A1 (104 + i) c = nI (jkv (fun r c => V (5 * r + c)) i c)) → jR F A1 G g h1 → jD h h1 → jx_Go jxP (d + 8) 22 26 [.ref 102, .ref 2, .ref o, .int (nI r)] [] h1 Q) (F 2 0) ?_ ?_ 0 (Nat.zero_le _) A h (fun _ _ => rfl) (fun i c hi hc' => by rw [show i = 0 by omega]; exact z0 c (by omega)) hR jD.rf
  · intro A1 h1 fr cu hR1 hD1
    have t1 := t.fr hD1 ho hp hw
    rw [s22_26]
    simp (disch := omega) only [s22_27, s22_28, s22_31, s22_50, s22_51, s22_52, s22_53, s22_54, Option.some.injEq, exists_eq_left', exists_eq_left, List.cons_append, List.nil_append, List.length_nil, List.length_cons, Nat.reduceAdd, Nat.reduceMul, Nat.reduceSub, Nat.reduceLeDiff, true_and, and_true, ↓reduceIte, not_false_eq_true, not_true_eq_false, nI_add, pk_mul, jn_ltT, jn_ltF, jn_leT, jn_leF, jn_eqT, jn_eqF, jn_lt0, jn_ge0, jn_eq0T, jn_eq0F, jn_in, jn_cl, jf_2_0 hR1, jc_of_102 hR1]
    have fin := li_matchRest (F := F) (A := A1) (G := G) (g := g) (h := h) hr hc ho hp hw hU (fun r c h1 h2 => (hV r c h1 h2).2) cu (F 2 0) 0 (by omega) (d + 5 - F 2 0) A1 h1 (fun _ => 0) 0 (fun _ _ => rfl) t1 hR1 hD1 (by decide) (fun q => ⟨fun z => (by rw [Nat.zero_testBit] at z; cases z), fun ⟨j, hj, _⟩ => (by omega)⟩) (fun j hj => by omega) (fun j j' hj => by omega) (fun i c hi hc' => by rw [show i = 0 by omega, fr 111 (by omega)]; exact z1 c (by omega)) (Q := fun s1 h1 => jx_Go jxP (d + 7 + 1) 22 57 [.ref 102, .ref 2, .ref o, .int (nI (F 2 0))] (s1 ++ []) h1 Q) (fun A2 h2 fr2 _ hR2 hD2 => by
      have kk := k h2 A2 (fun a ha => by
        rw [fr2 a (by omega)]
        exact fr a (by omega)) hR2 hD2
      refine ⟨fun y => ?_, fun y => ?_⟩
      · rw [ejm.mpr y] at kk
        simp (disch := omega) only [s22_57b0, s22_57b1, Option.some.injEq, exists_eq_left', exists_eq_left, List.cons_append, List.nil_append, List.length_nil, List.length_cons, Nat.reduceAdd, Nat.reduceMul, Nat.reduceSub, Nat.reduceLeDiff, true_and, and_true, ↓reduceIte, not_false_eq_true, not_true_eq_false, nI_add, pk_mul, jn_ltT, jn_ltF, jn_leT, jn_leF, jn_eqT, jn_eqF, jn_lt0, jn_ge0, jn_eq0T, jn_eq0F, jn_in, jn_cl]
        exact kk
      · rw [Bool.eq_false_iff.mpr (fun z => y (ejm.mp z))] at kk
        simp (disch := omega) only [s22_57b0, s22_57b1, Option.some.injEq, exists_eq_left', exists_eq_left, List.cons_append, List.nil_append, List.length_nil, List.length_cons, Nat.reduceAdd, Nat.reduceMul, Nat.reduceSub, Nat.reduceLeDiff, true_and, and_true, ↓reduceIte, not_false_eq_true, not_true_eq_false, nI_add, pk_mul, jn_ltT, jn_ltF, jn_leT, jn_leF, jn_eqT, jn_eqF, jn_lt0, jn_ge0, jn_eq0T, jn_eq0F, jn_in, jn_cl]
        exact kk)
    rw [show d + 5 - F 2 0 + F 2 0 + 2 = d + 7 by omega] at fin
    exact fin
  · intro r hr' ih A1 h1 fr cu hR1 hD1
    have e3 : A1 3 = A 3 := fr 3 (by omega)
    rw [s22_26]
    simp (disch := omega) only [s22_27, s22_28, s22_31, s22_34, s22_35, s22_38, s22_39, s22_40, s22_41, Option.some.injEq, exists_eq_left', exists_eq_left, List.cons_append, List.nil_append, List.length_nil, List.length_cons, Nat.reduceAdd, Nat.reduceMul, Nat.reduceSub, Nat.reduceLeDiff, true_and, and_true, ↓reduceIte, not_false_eq_true, not_true_eq_false, nI_add, pk_mul, jn_ltT, jn_ltF, jn_leT, jn_leF, jn_eqT, jn_eqF, jn_lt0, jn_ge0, jn_eq0T, jn_eq0F, jn_in, jn_cl, jf_2_0 hR1, jf_102_0 hR1]
    refine li_addRow hR1 (Or.inl ⟨rfl, rfl⟩) hR1.tk2 (Or.inl ⟨rfl, rfl⟩) hc (by omega) (by omega) (N := fun c => jkv (fun r c => V (5 * r + c)) r c) (V := fun c => V (5 * r + c)) (fun c hc' => cu r c (Nat.le_refl _) hc') (fun c hc' => by rw [e3]; exact (hV r c hr' hc').1) (fun h2 f2 hf2 hR2 hD2 => ?_)
    simp (disch := omega) only [s22_44, s22_47, Option.some.injEq, exists_eq_left', exists_eq_left, List.cons_append, List.nil_append, List.length_nil, List.length_cons, Nat.reduceAdd, Nat.reduceMul, Nat.reduceSub, Nat.reduceLeDiff, true_and, and_true, ↓reduceIte, not_false_eq_true, not_true_eq_false, nI_add, pk_mul, jn_ltT, jn_ltF, jn_leT, jn_leF, jn_eqT, jn_eqF, jn_lt0, jn_ge0, jn_eq0T, jn_eq0F, jn_in, jn_cl]
    refine ih _ h2 (fun a ha => by rw [jua_ne (by omega)]; exact fr a ha) (fun i c hi hc' => ?_) hR2 (hD1.tr hD2)
    by_cases z : i = r + 1
    · subst z
      rw [show 104 + (r + 1) = 104 + r + 1 by omega, jua_same, hf2 c hc', jkv_s]
    · rw [jua_ne (by omega)]
      exact cu i c (by omega) hc'
end CL24
