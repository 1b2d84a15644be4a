/-! ===== the class: what is lost at least ===== -/
section CL12
variable {d : Nat} {F : Nat → Nat → Nat} {A : Nat → Nat → Int32} {G : Nat → Option Nat} {g : Nat → Int64} {h : jxH} {Q : List Value → jxH → Prop}
theorem jwr_w0 {v : Nat → Int32} {W : Nat → Nat} {R C e B : Nat} : jwr v W R C e B ≤ jw0 v W R C B := by
  cases e with
  | zero => exact Nat.le_refl _
  | succ e => rw [jwr_s]; exact jbst_le 32
theorem jwr_mono {v : Nat → Int32} {W : Nat → Nat} {R C : Nat} : ∀ e B, jwr v W R C (e + 1) B ≤ jwr v W R C e B := by
  intro e
  induction e with
  | zero => intro B; exact jwr_w0
  | succ e ih =>
    intro B
    rw [jwr_s (e := e)]
    rcases jbst_att (f := fun a b => a + b) (T := jwr v W R C e) (x := B / 32) (y := B % 32) (hi := jw0 v W R C B) 32 with w | ⟨s, hs, ⟨w1, w2⟩ | ⟨w1, w2⟩⟩
    · rw [w]; exact jwr_w0
    · rw [w2]
      have c := jbst_cutx (f := fun a b => a + b) (T := jwr v W R C (e + 1)) (y := B % 32) (hi := jw0 v W R C B) w1 32 hs
      rw [← jwr_s] at c
      have a1 := ih (32 * (B / 32 ^^^ s) + B % 32)
      have a2 := ih (32 * s + B % 32)
      omega
    · rw [w2]
      have c := jbst_cuty (f := fun a b => a + b) (T := jwr v W R C (e + 1)) (x := B / 32) (hi := jw0 v W R C B) w1 32 hs
      rw [← jwr_s] at c
      have a1 := ih (32 * (B / 32) + (B % 32 ^^^ s))
      have a2 := ih (32 * (B / 32) + s)
      omega
theorem jwr_anti {v : Nat → Int32} {W : Nat → Nat} {R C e B : Nat} : ∀ j, e ≤ j → jwr v W R C j B ≤ jwr v W R C e B := by
  intro j
  induction j with
  | zero => intro h1; rw [show e = 0 by omega]; exact Nat.le_refl _
  | succ j ih =>
    intro h1
    rcases (show e ≤ j ∨ e = j + 1 by omega) with w | w
    · exact Nat.le_trans (jwr_mono j B) (ih w)
    · rw [w]; exact Nat.le_refl _
theorem jwr_min {v : Nat → Int32} {W : Nat → Nat} {R C e x y m m1 : Nat} (hx : x < 32) (hy : y < 32) (h1 : jMin m1 (jwr v W R C e (32 * x + y)) (jpt x) (fun s => jwr v W R C e (32 * (x - s) + y) + jwr v W R C e (32 * s + y))) (h2 : jMin m m1 (jpt y) (fun s => jwr v W R C e (32 * x + (y - s)) + jwr v W R C e (32 * x + s))) : m = jwr v W R C (e + 1) (32 * x + y) := by
  obtain ⟨a1, a2, a3⟩ := h1
  obtain ⟨b1, b2, b3⟩ := h2
  have mo := jwr_mono (v := v) (W := W) (R := R) (C := C) e (32 * x + y)
  have eq := jwr_s (v := v) (W := W) (R := R) (C := C) (e := e) (B := 32 * x + y)
  rw [show (32 * x + y) / 32 = x by omega, show (32 * x + y) % 32 = y by omega] at eq
  have cx : ∀ s, s < 32 → jpt x s = true → jwr v W R C (e + 1) (32 * x + y) ≤ jwr v W R C e (32 * (x - s) + y) + jwr v W R C e (32 * s + y) := by
    intro s hs hp
    have := jbst_cutx (f := fun a b => a + b) (T := jwr v W R C e) (y := y) (hi := jw0 v W R C (32 * x + y)) hp 32 hs
    rw [← eq, jpt_x hx hs hp] at this
    exact this
  have cy : ∀ s, s < 32 → jpt y s = true → jwr v W R C (e + 1) (32 * x + y) ≤ jwr v W R C e (32 * x + (y - s)) + jwr v W R C e (32 * x + s) := by
    intro s hs hp
    have := jbst_cuty (f := fun a b => a + b) (T := jwr v W R C e) (x := x) (hi := jw0 v W R C (32 * x + y)) hp 32 hs
    rw [← eq, jpt_x hy hs hp] at this
    exact this
  apply Nat.le_antisymm
  · rcases jbst_att (f := fun a b => a + b) (T := jwr v W R C e) (x := x) (y := y) (hi := jw0 v W R C (32 * x + y)) 32 with w | ⟨s, hs, ⟨w1, w2⟩ | ⟨w1, w2⟩⟩
    · rw [← eq] at w
      have := jwr_w0 (v := v) (W := W) (R := R) (C := C) (e := e) (B := 32 * x + y)
      omega
    · rw [← eq, jpt_x hx hs w1] at w2
      have := a2 s hs w1
      dsimp only at this
      omega
    · rw [← eq, jpt_x hy hs w1] at w2
      have := b2 s hs w1
      dsimp only at this
      omega
  · rcases b3 with b3 | ⟨s, hs, w1, w2⟩
    · rcases a3 with a3 | ⟨s, hs, w1, w2⟩
      · omega
      · have := cx s hs w1
        dsimp only at w2
        omega
    · have := cy s hs w1
      dsimp only at w2
      omega
theorem sc_allowOneBitMore (hP : jPa A) {v : Nat → Int32} {W : Nat → Nat} {wt : Nat → Int32} {R C e : Nat} (hM : jMk F A v R C) (hw : jW wt R C W) (hr : R ≤ 5) (hc : C ≤ 5) (hR : jR F A G g h) (hT : ∀ B, jblk R C B = true → A 135 B = nI (jwr v W R C e B)) (k : ∀ h' f, (∀ B, jblk R C B = true → f B = nI (jwr v W R C (e + 1) B)) → jR F (jua A 135 f) G g h' → jD h h' → Q [] h') : jx_Go jxP (d + 1) 42 0 [.ref 132, jx_u, jx_u, jx_u] [] h Q := by
  have p1 := jp2 _ hr
  have p2 := jp2 _ hc
  have wl : ∀ B e, jwr v W R C e B ≤ 25000 := fun B e => jwr_le hw hr hc
  simp (disch := omega) only [s42_0, s42_1, s42_4, s42_7, Option.some.injEq, exists_eq_left', exists_eq_left, List.cons_append, List.nil_append, List.length_nil, List.length_cons, Nat.reduceAdd, Nat.reduceMul, Nat.reduceSub, Nat.reduceLeDiff, true_and, and_true, ↓reduceIte, not_false_eq_true, not_true_eq_false, nI_add, pk_mul, jn_ltT, jn_ltF, jn_leT, jn_leF, jn_eqT, jn_eqF, jn_lt0, jn_ge0, jn_eq0T, jn_eq0F, jn_in, jn_cl, jf_132_1 hR, jf_99_0 hR, hM.1]
  have lx : ∀ x, x < 2 ^ R → ∀ f h1 w2 w3, (∀ B, jblk R C B = true → f B = if x < B / 32 then nI (jwr v W R C (e + 1) B) else nI (jwr v W R C e B)) → jR F (jua A 135 f) G g h1 → jD h h1 → jx_Go jxP (d + 1) 42 8 [.ref 132, .int (nI x), w2, w3] [] h1 Q := by
    intro x
    induction x with
    | zero =>
      intro _ f h1 w2 w3 hf hR1 hD1
      rw [s42_8]
      simp (disch := omega) only [s42_9, s42_10, s42_68, Option.some.injEq, exists_eq_left', exists_eq_left, List.cons_append, List.nil_append, List.length_nil, List.length_cons, Nat.reduceAdd, Nat.reduceMul, Nat.reduceSub, Nat.reduceLeDiff, true_and, and_true, ↓reduceIte, not_false_eq_true, not_true_eq_false, nI_add, pk_mul, jn_ltT, jn_ltF, jn_leT, jn_leF, jn_eqT, jn_eqF, jn_lt0, jn_ge0, jn_eq0T, jn_eq0F, jn_in, jn_cl]
      exact k h1 f (fun B hB => by rw [hf B hB, if_pos (jblk_iff.mp hB).1]) hR1 hD1
    | succ x ih =>
      intro hx f h1 w2 w3 hf hR1 hD1
      rw [s42_8]
      simp (disch := omega) only [s42_9, s42_10, s42_13, s42_14, s42_17, s42_20, Option.some.injEq, exists_eq_left', exists_eq_left, List.cons_append, List.nil_append, List.length_nil, List.length_cons, Nat.reduceAdd, Nat.reduceMul, Nat.reduceSub, Nat.reduceLeDiff, true_and, and_true, ↓reduceIte, not_false_eq_true, not_true_eq_false, nI_add, pk_mul, jn_ltT, jn_ltF, jn_leT, jn_leF, jn_eqT, jn_eqF, jn_lt0, jn_ge0, jn_eq0T, jn_eq0F, jn_in, jn_cl, jf_132_1 hR1, jf_99_1 hR1, hM.2.1]
      have ly : ∀ y, y < 2 ^ C → ∀ f h1 w3, (∀ B, jblk R C B = true → f B = if x + 1 < B / 32 ∨ (B / 32 = x + 1 ∧ y < B % 32) then nI (jwr v W R C (e + 1) B) else nI (jwr v W R C e B)) → jR F (jua A 135 f) G g h1 → jD h h1 → jx_Go jxP (d + 1) 42 21 [.ref 132, .int (nI (x + 1)), .int (nI y), w3] [] h1 Q := by
        intro y
        induction y with
        | zero =>
          intro _ f h1 w3 hf hR1 hD1
          rw [s42_21]
          simp (disch := omega) only [s42_22, s42_23, s42_62, s42_65, Option.some.injEq, exists_eq_left', exists_eq_left, List.cons_append, List.nil_append, List.length_nil, List.length_cons, Nat.reduceAdd, Nat.reduceMul, Nat.reduceSub, Nat.reduceLeDiff, true_and, and_true, ↓reduceIte, not_false_eq_true, not_true_eq_false, nI_add, pk_mul, jn_ltT, jn_ltF, jn_leT, jn_leF, jn_eqT, jn_eqF, jn_lt0, jn_ge0, jn_eq0T, jn_eq0F, jn_in, jn_cl, jn_m1, Nat.add_sub_cancel]
          refine ih (by omega) f h1 _ _ (fun B hB => ?_) hR1 hD1
          have := jblk_iff.mp hB
          rw [hf B hB]
          by_cases z : x < B / 32
          · rw [if_pos z, if_pos (by omega)]
          · rw [if_neg z, if_neg (by omega)]
        | succ y ihy =>
          intro hy f h1 w3 hf hR1 hD1
          have bb : jblk R C (32 * (x + 1) + (y + 1)) = true := jblk_iff.mpr (by omega)
          have u : ∀ f : Nat → Int32, jua A 135 f 135 = f := fun f => jua_same
          have fb := hf _ bb
          rw [if_neg (by omega)] at fb
          have nx : ∀ f' h2 w3, (∀ B, B ≠ 32 * (x + 1) + (y + 1) → f' B = f B) → f' (32 * (x + 1) + (y + 1)) = nI (jwr v W R C (e + 1) (32 * (x + 1) + (y + 1))) → jR F (jua A 135 f') G g h2 → jD h h2 → jx_Go jxP (d + 1) 42 56 [.ref 132, .int (nI (x + 1)), .int (nI (y + 1)), w3] [] h2 Q := by
            intro f' h2 w3 e1 e2 hR2 hD2
            simp (disch := omega) only [s42_56, s42_59, Option.some.injEq, exists_eq_left', exists_eq_left, List.cons_append, List.nil_append, List.length_nil, List.length_cons, Nat.reduceAdd, Nat.reduceMul, Nat.reduceSub, Nat.reduceLeDiff, true_and, and_true, ↓reduceIte, not_false_eq_true, not_true_eq_false, nI_add, pk_mul, jn_ltT, jn_ltF, jn_leT, jn_leF, jn_eqT, jn_eqF, jn_lt0, jn_ge0, jn_eq0T, jn_eq0F, jn_in, jn_cl, jn_m1, Nat.add_sub_cancel]
            refine ihy (by omega) f' h2 _ (fun B hB => ?_) hR2 hD2
            by_cases z : B = 32 * (x + 1) + (y + 1)
            · rw [z, e2, if_pos (by omega)]
            · rw [e1 B z, hf B hB]
              by_cases z2 : x + 1 < B / 32 ∨ (B / 32 = x + 1 ∧ y + 1 < B % 32)
              · rw [if_pos z2, if_pos (by omega)]
              · rw [if_neg z2, if_neg (by omega)]
          rw [s42_21]
          have l1 := wl (32 * (x + 1) + (y + 1)) e
          simp (disch := omega) only [s42_22, s42_23, s42_26, s42_27, s42_28, s42_31, s42_32, s42_33, s42_36, s42_37, Option.some.injEq, exists_eq_left', exists_eq_left, List.cons_append, List.nil_append, List.length_nil, List.length_cons, Nat.reduceAdd, Nat.reduceMul, Nat.reduceSub, Nat.reduceLeDiff, true_and, and_true, ↓reduceIte, not_false_eq_true, not_true_eq_false, nI_add, pk_mul, jn_ltT, jn_ltF, jn_leT, jn_leF, jn_eqT, jn_eqF, jn_lt0, jn_ge0, jn_eq0T, jn_eq0F, jn_in, jn_cl, jf_132_5 hR1, tb_blockAt, ja_135 hR1, u, fb]
          by_cases z : jwr v W R C e (32 * (x + 1) + (y + 1)) = 0
          · have z2 : jwr v W R C (e + 1) (32 * (x + 1) + (y + 1)) = 0 := by
              have := jwr_mono (v := v) (W := W) (R := R) (C := C) e (32 * (x + 1) + (y + 1))
              omega
            simp (disch := omega) only [s42_38, Option.some.injEq, exists_eq_left', exists_eq_left, List.cons_append, List.nil_append, List.length_nil, List.length_cons, Nat.reduceAdd, Nat.reduceMul, Nat.reduceSub, Nat.reduceLeDiff, true_and, and_true, ↓reduceIte, not_false_eq_true, not_true_eq_false, nI_add, pk_mul, jn_ltT, jn_ltF, jn_leT, jn_leF, jn_eqT, jn_eqF, jn_lt0, jn_ge0, jn_eq0T, jn_eq0F, jn_in, jn_cl, jn_le0T]
            exact nx f h1 _ (fun _ _ => rfl) (by rw [fb, z, z2]) hR1 hD1
          · have hP1 : jPa (jua A 135 f) := hP.fr (jua_ne (by decide)) (jua_ne (by decide))
            have t9 : ∀ m B, B ≠ 32 * (x + 1) + (y + 1) → jblk R C B = true → (B / 32 ≤ x + 1 ∧ B % 32 ≤ y + 1) → upd f (32 * (x + 1) + (y + 1)) m B = nI (jwr v W R C e B) ∧ jwr v W R C e B ≤ 25000 := by
              intro m B n1 n2 n3
              rw [jupd_ne n1, hf B n2, if_neg (by omega)]
              exact ⟨rfl, wl B e⟩
            have t9f : ∀ B, B ≠ 32 * (x + 1) + (y + 1) → jblk R C B = true → (B / 32 ≤ x + 1 ∧ B % 32 ≤ y + 1) → f B = nI (jwr v W R C e B) ∧ jwr v W R C e B ≤ 25000 := by
              intro B n1 n2 n3
              rw [hf B n2, if_neg (by omega)]
              exact ⟨rfl, wl B e⟩
            simp (disch := omega) only [s42_38, s42_41, s42_42, s42_43, s42_44, s42_46, Option.some.injEq, exists_eq_left', exists_eq_left, List.cons_append, List.nil_append, List.length_nil, List.length_cons, Nat.reduceAdd, Nat.reduceMul, Nat.reduceSub, Nat.reduceLeDiff, true_and, and_true, ↓reduceIte, not_false_eq_true, not_true_eq_false, nI_add, pk_mul, jn_ltT, jn_ltF, jn_leT, jn_leF, jn_eqT, jn_eqF, jn_lt0, jn_ge0, jn_eq0T, jn_eq0F, jn_in, jn_cl, jn_le0F, jc_of_132 hR1]
            refine sc_try32 (tl := jwr v W R C e) (c := jwr v W R C e (32 * (x + 1) + (y + 1))) hR1 hP1 (by omega) (by omega) (by omega) (fun s hs hp => ?_) (by rw [u]; exact fb) l1 (fun h2 m hm hR2 hD2 => ?_)
            · have s3 := jpt_lt (x + 1) (by omega) s hs hp
              rw [u]
              exact ⟨t9f _ (by omega) (jblk_iff.mpr (by omega)) (by omega), t9f _ (by omega) (jblk_iff.mpr (by omega)) (by omega)⟩
            · rw [jua_jua, u] at hR2
              have hm1 := hm.1
              have hP2 : jPa (jua A 135 (upd f (32 * (x + 1) + (y + 1)) (nI m))) := hP.fr (jua_ne (by decide)) (jua_ne (by decide))
              simp (disch := omega) only [s42_49, s42_50, s42_51, s42_52, s42_53, Option.some.injEq, exists_eq_left', exists_eq_left, List.cons_append, List.nil_append, List.length_nil, List.length_cons, Nat.reduceAdd, Nat.reduceMul, Nat.reduceSub, Nat.reduceLeDiff, true_and, and_true, ↓reduceIte, not_false_eq_true, not_true_eq_false, nI_add, pk_mul, jn_ltT, jn_ltF, jn_leT, jn_leF, jn_eqT, jn_eqF, jn_lt0, jn_ge0, jn_eq0T, jn_eq0F, jn_in, jn_cl, jc_of_132 hR2]
              refine sc_try1 (tl := jwr v W R C e) (c := m) hR2 hP2 (by omega) (by omega) (by omega) (fun s hs hp => ?_) (by rw [u, jupd_same]) (by omega) (fun h3 m2 hm2 hR3 hD3 => ?_)
              · have s3 := jpt_lt (y + 1) (by omega) s hs hp
                rw [u]
                exact ⟨t9 _ _ (by omega) (jblk_iff.mpr (by omega)) (by omega), t9 _ _ (by omega) (jblk_iff.mpr (by omega)) (by omega)⟩
              · rw [jua_jua, u] at hR3
                refine nx _ h3 _ (fun B hB => by rw [jupd_ne hB, jupd_ne hB]) ?_ hR3 ((hD1.tr hD2).tr hD3)
                rw [jupd_same]
                congr 1
                refine jwr_min (m1 := m) (by omega) (by omega) (hm.congr fun s hs hp => ?_) (hm2.congr fun s hs hp => ?_)
                · have s3 := jpt_lt (x + 1) (by omega) s hs hp
                  rw [show 32 * (x + 1) + (y + 1) - s * 32 = 32 * (x + 1 - s) + (y + 1) by omega, show 32 * (x + 1) + (y + 1) - (x + 1 - s) * 32 = 32 * s + (y + 1) by omega]
                · have s3 := jpt_lt (y + 1) (by omega) s hs hp
                  rw [show 32 * (x + 1) + (y + 1) - s * 1 = 32 * (x + 1) + (y + 1 - s) by omega, show 32 * (x + 1) + (y + 1) - (y + 1 - s) * 1 = 32 * (x + 1) + s by omega]
      refine ly (2 ^ C - 1) (by omega) f h1 _ (fun B hB => ?_) hR1 hD1
      have := jblk_iff.mp hB
      rw [hf B hB]
      by_cases z : x + 1 < B / 32
      · rw [if_pos z, if_pos (by omega)]
      · rw [if_neg z, if_neg (by omega)]
  refine lx (2 ^ R - 1) (by omega) (A 135) h _ _ (fun B hB => ?_) (by rw [jua_id]; exact hR) jD.rf
  have := jblk_iff.mp hB
  rw [hT B hB, if_neg (by omega)]
theorem sc_leastLoss (hR : jR F A G g h) (hr : F 2 0 ≤ 5) (hc : F 2 1 ≤ 5) (hr1 : 1 ≤ F 2 0) (hc1 : 1 ≤ F 2 1) (hP : jPa A) (hM : jMk F A (A 3) (F 2 0) (F 2 1)) {W : Nat → Nat} (hw : jW (A 4) (F 2 0) (F 2 1) W) (hK : F 132 7 = 4294967295 ∨ ∃ b, jSc F A (A 3) W (F 2 0) (F 2 1) b) {n : Nat} (hn : n ≤ 6) (k : ∀ h' A' b, jSc (jup F 132 7 b) A' (A 3) W (F 2 0) (F 2 1) b → (∀ a, a < 133 ∨ 136 < a → A' a = A a) → jR (jup F 132 7 b) A' G g h' → jD h h' → Q [.int (nI (jwr (A 3) W (F 2 0) (F 2 1) n (jalB (F 2 0) (F 2 1))))] h') : jx_Go jxP (d + 4) 38 0 [.ref 132, .int (nI n), jx_u, jx_u] [] h Q := by
  have p1 := jp2 _ hr
  have p2 := jp2 _ hc
  obtain ⟨bb, bl⟩ := jalB_blk hr hc hr1 hc1
  simp (disch := omega) only [s38_0, s38_1, Option.some.injEq, exists_eq_left', exists_eq_left, List.cons_append, List.nil_append, List.length_nil, List.length_cons, Nat.reduceAdd, Nat.reduceMul, Nat.reduceSub, Nat.reduceLeDiff, true_and, and_true, ↓reduceIte, not_false_eq_true, not_true_eq_false, nI_add, pk_mul, jn_ltT, jn_ltF, jn_leT, jn_leF, jn_eqT, jn_eqF, jn_lt0, jn_ge0, jn_eq0T, jn_eq0F, jn_in, jn_cl, jc_of_132 hR]
  refine sc_weighBlocks hR hr hc hr1 hc1 hM hw hK (fun h1 A1 b hS fr hR1 hD1 => ?_)
  have f0 : ∀ b, jup F 132 7 b 99 0 = 2 ^ F 2 0 - 1 := fun b => hM.1
  have f1 : ∀ b, jup F 132 7 b 99 1 = 2 ^ F 2 1 - 1 := fun b => hM.2.1
  have f7 : ∀ b, jup F 132 7 b 132 7 = b := fun b => jup_same
  have fin : ∀ b A1 h1 j, n ≤ b → n < j → j ≤ 7 → jSc (jup F 132 7 b) A1 (A 3) W (F 2 0) (F 2 1) b → (∀ a, a < 133 ∨ 136 < a → A1 a = A a) → jR (jup F 132 7 b) A1 G g h1 → jD h h1 → jx_Go jxP (d + 4) 38 29 [.ref 132, .int (nI n), .int (nI (jalB (F 2 0) (F 2 1))), .int (nI j)] [] h1 Q := by
    intro b A1 h1 j nb nj j7 hS fr hR1 hD1
    have t := hS.2.2.2.2 n nb
    rw [s38_29]
    simp (disch := omega) only [s38_30, s38_31, s38_70, s38_71, s38_74, s38_75, s38_76, Option.some.injEq, exists_eq_left', exists_eq_left, List.cons_append, List.nil_append, List.length_nil, List.length_cons, Nat.reduceAdd, Nat.reduceMul, Nat.reduceSub, Nat.reduceLeDiff, true_and, and_true, ↓reduceIte, not_false_eq_true, not_true_eq_false, nI_add, pk_mul, jn_ltT, jn_ltF, jn_leT, jn_leF, jn_eqT, jn_eqF, jn_lt0, jn_ge0, jn_eq0T, jn_eq0F, jn_in, jn_cl, jf_132_6 hR1, ja_136 hR1, t]
    exact k h1 A1 b hS fr hR1 hD1
  have b6 := hS.2.1
  simp (disch := omega) only [s38_4, s38_5, s38_8, s38_11, s38_12, s38_15, s38_18, s38_21, s38_22, s38_23, s38_26, s38_27, s38_28, Option.some.injEq, exists_eq_left', exists_eq_left, List.cons_append, List.nil_append, List.length_nil, List.length_cons, Nat.reduceAdd, Nat.reduceMul, Nat.reduceSub, Nat.reduceLeDiff, true_and, and_true, ↓reduceIte, not_false_eq_true, not_true_eq_false, nI_add, pk_mul, jn_ltT, jn_ltF, jn_leT, jn_leF, jn_eqT, jn_eqF, jn_lt0, jn_ge0, jn_eq0T, jn_eq0F, jn_in, jn_cl, jf_132_1 hR1, jf_132_7 hR1, jf_99_0 hR1, jf_99_1 hR1, f0, f1, f7, tb_blockAt, jalB_x]
  rcases Nat.lt_or_ge b n with w | w
  · refine jloop (fun j => 1 ≤ j → ∀ A1 h1, jSc (jup F 132 7 (j - 1)) A1 (A 3) W (F 2 0) (F 2 1) (j - 1) → (∀ a, a < 133 ∨ 136 < a → A1 a = A a) → jR (jup F 132 7 (j - 1)) A1 G g h1 → jD h h1 → jx_Go jxP (d + 4) 38 29 [.ref 132, .int (nI n), .int (nI (jalB (F 2 0) (F 2 1))), .int (nI j)] [] h1 Q) (n + 1) ?_ ?_ (b + 1) (by omega) (by omega) A1 h1 hS fr hR1 hD1
    · intro _ A1 h1 hS fr hR1 hD1
      exact fin n A1 h1 (n + 1) (Nat.le_refl _) (by omega) (by omega) hS fr hR1 hD1
    · intro j hj ih j1 A1 h1 hS fr hR1 hD1
      obtain ⟨s1, s2, s3, ⟨e, e1, e2, e3⟩, s5⟩ := hS
      have t := e2 _ bb
      have l1 := jwr_le (v := A 3) (e := e) (B := jalB (F 2 0) (F 2 1)) hw hr hc
      have m3 : A1 3 = A 3 := fr 3 (by omega)
      have hM1 : jMk (jup F 132 7 (j - 1)) A1 (A 3) (F 2 0) (F 2 1) := hM.fr rfl rfl (fr 100 (by omega)) (fr 101 (by omega))
      have hP1 : jPa A1 := hP.fr (fr 126 (by omega)) (fr 127 (by omega))
      have st : ∀ h2 e' f, e' ≤ j → (∀ B, jblk (F 2 0) (F 2 1) B = true → f B = nI (jwr (A 3) W (F 2 0) (F 2 1) e' B)) → (e' = j ∨ jwr (A 3) W (F 2 0) (F 2 1) e' (jalB (F 2 0) (F 2 1)) = 0) → jR (jup F 132 7 (j - 1)) (jua A1 135 f) G g h2 → jD h h2 → jx_Go jxP (d + 4) 38 47 [.ref 132, .int (nI n), .int (nI (jalB (F 2 0) (F 2 1))), .int (nI j)] [] h2 Q := by
        intro h2 e' f g1 g2 g3 hR2 hD2
        have u : jua A1 135 f 135 = f := jua_same
        have u6 : jua A1 135 f 136 = A1 136 := jua_ne (by decide)
        have t2 := g2 _ bb
        have ej : jwr (A 3) W (F 2 0) (F 2 1) e' (jalB (F 2 0) (F 2 1)) = jwr (A 3) W (F 2 0) (F 2 1) j (jalB (F 2 0) (F 2 1)) := by
          rcases g3 with g3 | g3
          · rw [g3]
          · have := jwr_anti (v := A 3) (W := W) (R := F 2 0) (C := F 2 1) (B := jalB (F 2 0) (F 2 1)) j g1
            omega
        simp (disch := first | omega | decide) only [s38_47, s38_48, s38_51, s38_52, s38_53, s38_56, s38_57, s38_58, s38_59, s38_60, s38_61, s38_64, s38_67, Option.some.injEq, exists_eq_left', exists_eq_left, List.cons_append, List.nil_append, List.length_nil, List.length_cons, Nat.reduceAdd, Nat.reduceMul, Nat.reduceSub, Nat.reduceLeDiff, true_and, and_true, ↓reduceIte, not_false_eq_true, not_true_eq_false, nI_add, pk_mul, jn_ltT, jn_ltF, jn_leT, jn_leF, jn_eqT, jn_eqF, jn_lt0, jn_ge0, jn_eq0T, jn_eq0F, jn_in, jn_cl, jh_ai_wi, jh_ai_wi_ne, jh_ai_uf, jh_fl_wi_ne, jh_fl_uf_ne, jh_fl_uf_o, jh_cl_wi_ne, jh_cl_uf, jh_al_wi_ne, jh_al_uf, jh_al_wl, jh_al_wl_ne, jh_ai_wl_ne, jh_fl_wl_ne, jh_cl_wl_ne, jh_ar_wi_ne, jh_ar_uf, jh_ar_wl_ne, jh_1_wi, jh_1_uf, jh_1_wl, jf_132_5 hR2, jf_132_6 hR2, jf_132_7 hR2, ja_135 hR2, ja_136 hR2, u, u6, t2]
        have hR3 := (hR2.wi (a := 136) (f := upd (A1 136) j (nI (jwr (A 3) W (F 2 0) (F 2 1) e' (jalB (F 2 0) (F 2 1))))) rfl).uf (o := 132) (k := 7) (v := j) rfl rfl
        rw [jup_jup] at hR3
        refine ih (by omega) _ _ ⟨jup_same, by omega, fun B hB => ?_, ⟨e', g1, fun B hB => ?_, g3⟩, fun i hi => ?_⟩ (fun a ha => ?_) hR3 ((hD2.wi (by decide)).uf (by decide))
        · rw [jua_ne (by decide), jua_ne (by decide), jua_ne (by decide), jua_ne (by decide)]
          exact s3 B hB
        · rw [jua_ne (by decide), jua_same]
          exact g2 B hB
        · rw [jua_same]
          by_cases z : i = j
          · subst z; rw [jupd_same, ej]
          · rw [jupd_ne z]; exact s5 i (by omega)
        · rw [jua_ne (by omega), jua_ne (by omega)]
          exact fr a ha
      rw [s38_29]
      simp (disch := omega) only [s38_30, s38_31, s38_34, s38_35, s38_38, s38_39, Option.some.injEq, exists_eq_left', exists_eq_left, List.cons_append, List.nil_append, List.length_nil, List.length_cons, Nat.reduceAdd, Nat.reduceMul, Nat.reduceSub, Nat.reduceLeDiff, true_and, and_true, ↓reduceIte, not_false_eq_true, not_true_eq_false, nI_add, pk_mul, jn_ltT, jn_ltF, jn_leT, jn_leF, jn_eqT, jn_eqF, jn_lt0, jn_ge0, jn_eq0T, jn_eq0F, jn_in, jn_cl, jf_132_5 hR1, ja_135 hR1, t]
      by_cases z : jwr (A 3) W (F 2 0) (F 2 1) e (jalB (F 2 0) (F 2 1)) = 0
      · simp (disch := omega) only [s38_40, Option.some.injEq, exists_eq_left', exists_eq_left, List.cons_append, List.nil_append, List.length_nil, List.length_cons, Nat.reduceAdd, Nat.reduceMul, Nat.reduceSub, Nat.reduceLeDiff, true_and, and_true, ↓reduceIte, not_false_eq_true, not_true_eq_false, nI_add, pk_mul, jn_ltT, jn_ltF, jn_leT, jn_leF, jn_eqT, jn_eqF, jn_lt0, jn_ge0, jn_eq0T, jn_eq0F, jn_in, jn_cl, jn_le0T]
        exact st h1 e (A1 135) (by omega) e2 (Or.inr z) (by rw [jua_id]; exact hR1) hD1
      · have ee : e = j - 1 := by
          rcases e3 with e3 | e3
          · exact e3
          · exact absurd e3 z
        simp (disch := omega) only [s38_40, s38_43, s38_44, Option.some.injEq, exists_eq_left', exists_eq_left, List.cons_append, List.nil_append, List.length_nil, List.length_cons, Nat.reduceAdd, Nat.reduceMul, Nat.reduceSub, Nat.reduceLeDiff, true_and, and_true, ↓reduceIte, not_false_eq_true, not_true_eq_false, nI_add, pk_mul, jn_ltT, jn_ltF, jn_leT, jn_leF, jn_eqT, jn_eqF, jn_lt0, jn_ge0, jn_eq0T, jn_eq0F, jn_in, jn_cl, jn_le0F, jc_of_132 hR1]
        refine sc_allowOneBitMore hP1 hM1 hw hr hc hR1 e2 (fun h2 f hf hR2 hD2 => ?_)
        exact st h2 (e + 1) f (by omega) hf (Or.inl (by omega)) hR2 (hD1.tr hD2)
  · exact fin b A1 h1 (b + 1) w (by omega) (by omega) hS fr hR1 hD1
end CL12
