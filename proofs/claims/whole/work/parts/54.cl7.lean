/-! ===== the class: blocks ===== -/
section CL7
variable {d : Nat} {F : Nat → Nat → Nat} {A : Nat → Nat → Int32} {G : Nat → Option Nat} {g : Nat → Int64} {h : jxH} {Q : List Value → jxH → Prop}
theorem jMin.congr {m hi : Nat} {S : Nat → Bool} {f f' : Nat → Nat} (e : jMin m hi S f) (c : ∀ s, s < 32 → S s = true → f s = f' s) : jMin m hi S f' := by
  obtain ⟨e1, e2, e3⟩ := e
  refine ⟨e1, fun s hs h1 => by rw [← c s hs h1]; exact e2 s hs h1, ?_⟩
  rcases e3 with e3 | ⟨s, hs, h1, h2⟩
  · exact Or.inl e3
  · exact Or.inr ⟨s, hs, h1, by rw [← c s hs h1]; exact h2⟩
theorem jua_ab {a b : Nat} (hab : a ≠ b) {f e f' e' : Nat → Int32} : jua (jua (jua (jua A a f) b e) a f') b e' = jua (jua A a f') b e' := by
  funext c
  by_cases z : c = b
  · subst z; rw [jua_same, jua_same]
  · rw [jua_ne z, jua_ne z]
    by_cases z2 : c = a
    · subst z2; rw [jua_same, jua_same]
    · rw [jua_ne z2, jua_ne z2, jua_ne z, jua_ne z2]
theorem jMk.fr {F' : Nat → Nat → Nat} {A' : Nat → Nat → Int32} {v : Nat → Int32} {R C : Nat} (e : jMk F A v R C) (f0 : F' 99 0 = F 99 0) (f1 : F' 99 1 = F 99 1) (a0 : A' 100 = A 100) (a1 : A' 101 = A 101) : jMk F' A' v R C := ⟨f0.trans e.1, f1.trans e.2.1, fun x h1 h2 => by rw [a0, a1]; exact e.2.2 x h1 h2⟩
theorem jPa.fr {A' : Nat → Nat → Int32} (e : jPa A) (a0 : A' 126 = A 126) (a1 : A' 127 = A 127) : jPa A' := ⟨fun x h1 => by rw [a0]; exact e.1 x h1, fun p h1 => by rw [a1]; exact e.2 p h1⟩
theorem bl_learnBlock (hR : jR F A G g h) (hP : jPa A) {v : Nat → Int32} {R C : Nat} (hM : jMk F A v R C) (hr : R ≤ 5) (hc : C ≤ 5) {x y : Nat} (x1 : 1 ≤ x) (x2 : x < 2 ^ R) (y1 : 1 ≤ y) (y2 : y < 2 ^ C) (hT : ∀ B, jblk R C B = true → ((B / 32 < x ∧ B % 32 = y) ∨ (B / 32 = x ∧ B % 32 < y)) → A 129 B = nI (jlb v R C B) ∧ A 130 B = nI (jfe v R C B)) (k : ∀ h' f e, (f (32 * x + y) = nI (jlb v R C (32 * x + y)) ∧ e (32 * x + y) = nI (jfe v R C (32 * x + y))) → (∀ B, B ≠ 32 * x + y → f B = A 129 B ∧ e B = A 130 B) → jR F (jua (jua A 129 f) 130 e) G g h' → jD h h' → Q [] h') : jx_Go jxP (d + 1) 5 0 [.ref 128, .int (nI x), .int (nI y), jx_u] [] h Q := by
  have p1 := jp2 _ hr
  have p2 := jp2 _ hc
  have bb : jblk R C (32 * x + y) = true := jblk_iff.mpr (by omega)
  have l6 := jlb_6 (v := v) (B := 32 * x + y) hr hc (by omega)
  have f25 := jfe_25 (v := v) hr hc bb
  have ev : ∀ (d : Nat) (Q : List Value → jxH → Prop), jx_Go jxP d 31 0 [.ref 99, .int (nI x), .int (nI y)] [] h Q ↔ Q [.int (nI (jev v R C (32 * x + y)).toNat)] h := fun d Q => ma_isEven hR hM hr hc x1 x2 (by omega)
  simp (disch := omega) only [s5_0, s5_1, s5_2, s5_5, s5_6, s5_7, s5_10, s5_11, s5_12, Option.some.injEq, exists_eq_left', exists_eq_left, List.cons_append, List.nil_append, List.length_nil, List.length_cons, Nat.reduceAdd, Nat.reduceMul, Nat.reduceSub, Nat.reduceLeDiff, true_and, and_true, ↓reduceIte, not_false_eq_true, not_true_eq_false, nI_add, pk_mul, jn_ltT, jn_ltF, jn_leT, jn_leF, jn_eqT, jn_eqF, jn_lt0, jn_ge0, jn_eq0T, jn_eq0F, jn_in, jn_cl, jf_128_0 hR, jc_of_99 hR, tb_blockAt, ev]
  by_cases he : jev v R C (32 * x + y) = true
  · rw [he]
    simp (disch := first | omega | decide) only [s5_15, s5_18, s5_19, s5_22, s5_23, s5_24, s5_25, s5_26, s5_29, s5_30, s5_31, s5_32, Option.some.injEq, exists_eq_left', exists_eq_left, List.cons_append, List.nil_append, List.length_nil, List.length_cons, Nat.reduceAdd, Nat.reduceMul, Nat.reduceSub, Nat.reduceLeDiff, true_and, and_true, ↓reduceIte, not_false_eq_true, not_true_eq_false, nI_add, pk_mul, jn_ltT, jn_ltF, jn_leT, jn_leF, jn_eqT, jn_eqF, jn_lt0, jn_ge0, jn_eq0T, jn_eq0F, jn_in, jn_cl, jh_ai_wi, jh_ai_wi_ne, jh_ai_uf, jh_fl_wi_ne, jh_fl_uf_ne, jh_fl_uf_o, jh_cl_wi_ne, jh_cl_uf, jh_al_wi_ne, jh_al_uf, jh_al_wl, jh_al_wl_ne, jh_ai_wl_ne, jh_fl_wl_ne, jh_cl_wl_ne, jh_ar_wi_ne, jh_ar_uf, jh_ar_wl_ne, jh_1_wi, jh_1_uf, jh_1_wl, jf_128_2 hR, jf_128_3 hR, ja_129 hR, ja_130 hR, Bool.toNat_true]
    refine k _ _ _ ⟨?_, ?_⟩ (fun B hB => ?_) ((hR.wi (a := 129) rfl).wi (a := 130) rfl) ((jD.rf.wi (by decide)).wi (by decide))
    · rw [jupd_same]
      unfold jlb
      rw [jbt_eq (by omega), if_pos he]
    · rw [jupd_same]
      unfold jfe
      rw [jbt_eq (by omega), if_pos he]
    · rw [jupd_ne hB, jupd_ne hB]; exact ⟨rfl, rfl⟩
  · rw [Bool.eq_false_iff.mpr he]
    simp (disch := first | omega | decide) only [s5_15, s5_33, s5_34, s5_37, s5_38, s5_41, s5_42, s5_43, s5_46, s5_47, s5_50, s5_51, s5_52, s5_53, s5_54, s5_56, Option.some.injEq, exists_eq_left', exists_eq_left, List.cons_append, List.nil_append, List.length_nil, List.length_cons, Nat.reduceAdd, Nat.reduceMul, Nat.reduceSub, Nat.reduceLeDiff, true_and, and_true, ↓reduceIte, not_false_eq_true, not_true_eq_false, nI_add, pk_mul, jn_ltT, jn_ltF, jn_leT, jn_leF, jn_eqT, jn_eqF, jn_lt0, jn_ge0, jn_eq0T, jn_eq0F, jn_in, jn_cl, jh_ai_wi, jh_ai_wi_ne, jh_ai_uf, jh_fl_wi_ne, jh_fl_uf_ne, jh_fl_uf_o, jh_cl_wi_ne, jh_cl_uf, jh_al_wi_ne, jh_al_uf, jh_al_wl, jh_al_wl_ne, jh_ai_wl_ne, jh_fl_wl_ne, jh_cl_wl_ne, jh_ar_wi_ne, jh_ar_uf, jh_ar_wl_ne, jh_1_wi, jh_1_uf, jh_1_wl, jf_128_2 hR, jf_128_3 hR, ja_129 hR, ja_130 hR, jc_of_128 hR, Bool.toNat_false]
    have hR1 := (hR.wi (a := 129) (f := upd (A 129) (32 * x + y) (nI 1000)) rfl).wi (a := 130) (f := upd (A 130) (32 * x + y) (nI 1000)) rfl
    have hD1 := ((jD.rf (h := h)).wi (a := 129) (n := 1024) (f := upd (A 129) (32 * x + y) (nI 1000)) (by decide)).wi (a := 130) (n := 1024) (f := upd (A 130) (32 * x + y) (nI 1000)) (by decide)
    generalize jx_wi (jx_wi h 129 1024 (upd (A 129) (32 * x + y) (nI 1000))) 130 1024 (upd (A 130) (32 * x + y) (nI 1000)) = h1 at hR1 hD1 ⊢
    have v9 : ∀ f e B, B ≠ 32 * x + y → jblk R C B = true → ((B / 32 < x ∧ B % 32 = y) ∨ (B / 32 = x ∧ B % 32 < y)) → (jua (jua A 129 (upd (A 129) (32 * x + y) f)) 130 (upd (A 130) (32 * x + y) e) 129 B = nI (jlb v R C B) ∧ jua (jua A 129 (upd (A 129) (32 * x + y) f)) 130 (upd (A 130) (32 * x + y) e) 130 B = nI (jfe v R C B) ∧ jlb v R C B ≤ 1000 ∧ jfe v R C B ≤ 1000) := by
      intro f e B h1 h2 h3
      have h2' := jblk_iff.mp h2
      have t := hT B h2 h3
      have := jlb_6 (v := v) (B := B) hr hc (by omega)
      have := jfe_25 (v := v) hr hc h2
      rw [jua_ne (by decide), jua_same, jua_same, jupd_ne h1, jupd_ne h1]
      exact ⟨t.1, t.2, by omega, by omega⟩
    refine bl_try32 (tb := jlb v R C) (te := jfe v R C) (b := 1000) (e := 1000) hR1 (hP.fr (by rw [jua_ne (by decide), jua_ne (by decide)]) (by rw [jua_ne (by decide), jua_ne (by decide)])) (by omega) (by omega) (by omega) (fun s hs hp => ?_) (by rw [jua_ne (by decide), jua_same, jupd_same]) (by rw [jua_same, jupd_same]) (by omega) (by omega) (fun h2 m n hm hn hR2 hD2 => ?_)
    · have s3 := jpt_lt x (by omega) s hs hp
      exact ⟨v9 _ _ _ (by omega) (jblk_iff.mpr (by omega)) (by omega), v9 _ _ _ (by omega) (jblk_iff.mpr (by omega)) (by omega)⟩
    · rw [jua_ab (by decide)] at hR2
      have u9 : ∀ f e : Nat → Int32, jua (jua A 129 f) 130 e 129 = f := fun f e => by rw [jua_ne (by decide), jua_same]
      have u0 : ∀ f e : Nat → Int32, jua (jua A 129 f) 130 e 130 = e := fun f e => by rw [jua_same]
      have uu : ∀ (f : Nat → Int32) i a b, upd (upd f i a) i b = upd f i b := by
        intro f i a b
        funext j
        by_cases z : j = i
        · subst z; rw [jupd_same, jupd_same]
        · rw [jupd_ne z, jupd_ne z, jupd_ne z]
      rw [u9, u0, uu, uu] at hR2
      have hm1 := hm.1
      have hn1 := hn.1
      simp (disch := omega) only [s5_59, s5_60, s5_61, s5_62, s5_63, Option.some.injEq, exists_eq_left', exists_eq_left, List.cons_append, List.nil_append, List.length_nil, List.length_cons, Nat.reduceAdd, Nat.reduceMul, Nat.reduceSub, Nat.reduceLeDiff, true_and, and_true, ↓reduceIte, not_false_eq_true, not_true_eq_false, nI_add, pk_mul, jn_ltT, jn_ltF, jn_leT, jn_leF, jn_eqT, jn_eqF, jn_lt0, jn_ge0, jn_eq0T, jn_eq0F, jn_in, jn_cl, jc_of_128 hR2]
      refine bl_try1 (tb := jlb v R C) (te := jfe v R C) (b := m) (e := n) hR2 (hP.fr (by rw [jua_ne (by decide), jua_ne (by decide)]) (by rw [jua_ne (by decide), jua_ne (by decide)])) (by omega) (by omega) (by omega) (fun s hs hp => ?_) (by rw [u9, jupd_same]) (by rw [u0, jupd_same]) (by omega) (by omega) (fun h3 m2 n2 hm2 hn2 hR3 hD3 => ?_)
      · have s3 := jpt_lt y (by omega) s hs hp
        exact ⟨v9 _ _ _ (by omega) (jblk_iff.mpr (by omega)) (by omega), v9 _ _ _ (by omega) (jblk_iff.mpr (by omega)) (by omega)⟩
      · rw [jua_ab (by decide), u9, u0, uu, uu] at hR3
        simp (disch := omega) only [s5_66, Option.some.injEq, exists_eq_left', exists_eq_left, List.cons_append, List.nil_append, List.length_nil, List.length_cons, Nat.reduceAdd, Nat.reduceMul, Nat.reduceSub, Nat.reduceLeDiff, true_and, and_true, ↓reduceIte, not_false_eq_true, not_true_eq_false, nI_add, pk_mul, jn_ltT, jn_ltF, jn_leT, jn_leF, jn_eqT, jn_eqF, jn_lt0, jn_ge0, jn_eq0T, jn_eq0F, jn_in, jn_cl]
        have em : m2 = jlb v R C (32 * x + y) := by
          unfold jlb
          refine jbt_min (hi' := 1000) (m1 := m) (by omega) (by omega) he (by unfold jlb at l6; omega) (by unfold jlb at l6; omega) (hm.congr fun s hs hp => ?_) (hm2.congr fun s hs hp => ?_)
          · have s3 := jpt_lt x (by omega) s hs hp
            rw [show 32 * x + y - s * 32 = 32 * (x - s) + y by omega, show 32 * x + y - (x - s) * 32 = 32 * s + y by omega, Nat.add_comm 1]
            rfl
          · have s3 := jpt_lt y (by omega) s hs hp
            rw [show 32 * x + y - s * 1 = 32 * x + (y - s) by omega, show 32 * x + y - (y - s) * 1 = 32 * x + s by omega, Nat.add_comm 1]
            rfl
        have en : n2 = jfe v R C (32 * x + y) := by
          unfold jfe
          refine jbt_min (hi' := 1000) (m1 := n) (by omega) (by omega) he (by unfold jfe at f25; omega) (by unfold jfe at f25; omega) (hn.congr fun s hs hp => ?_) (hn2.congr fun s hs hp => ?_)
          · have s3 := jpt_lt x (by omega) s hs hp
            rw [show 32 * x + y - s * 32 = 32 * (x - s) + y by omega, show 32 * x + y - (x - s) * 32 = 32 * s + y by omega]
            rfl
          · have s3 := jpt_lt y (by omega) s hs hp
            rw [show 32 * x + y - s * 1 = 32 * x + (y - s) by omega, show 32 * x + y - (y - s) * 1 = 32 * x + s by omega]
            rfl
        refine k h3 _ _ ⟨by rw [jupd_same, em], by rw [jupd_same, en]⟩ (fun B hB => by rw [jupd_ne hB, jupd_ne hB]; exact ⟨rfl, rfl⟩) hR3 ((hD1.tr hD2).tr hD3)
/-- all blocks are known -/
def jBl (A : Nat → Nat → Int32) (v : Nat → Int32) (R C : Nat) : Prop := ∀ B, jblk R C B = true → A 129 B = nI (jlb v R C B) ∧ A 130 B = nI (jfe v R C B)
theorem bl_learn (hR : jR F A G g h) (hP : jPa A) {v : Nat → Int32} {R C : Nat} (hM : jMk F A v R C) (hr : R ≤ 5) (hc : C ≤ 5) (hK : F 128 5 = 0 ∨ (F 128 5 = 1 ∧ jBl A v R C)) (k : ∀ h' A', jBl A' v R C → (∀ a, a ≠ 129 → a ≠ 130 → A' a = A a) → jR (jup F 128 5 1) A' G g h' → jD h h' → Q [] h') : jx_Go jxP (d + 2) 4 0 [.ref 128, jx_u, jx_u] [] h Q := by
  have p1 := jp2 _ hr
  have p2 := jp2 _ hc
  rcases hK with hK | ⟨hK, hB⟩
  · simp (disch := omega) only [s4_0, s4_1, s4_4, s4_8, s4_9, Option.some.injEq, exists_eq_left', exists_eq_left, List.cons_append, List.nil_append, List.length_nil, List.length_cons, Nat.reduceAdd, Nat.reduceMul, Nat.reduceSub, Nat.reduceLeDiff, true_and, and_true, ↓reduceIte, not_false_eq_true, not_true_eq_false, nI_add, pk_mul, jn_ltT, jn_ltF, jn_leT, jn_leF, jn_eqT, jn_eqF, jn_lt0, jn_ge0, jn_eq0T, jn_eq0F, jn_in, jn_cl, jf_128_5 hR, hK]
    refine jloop (fun x => 1 ≤ x → ∀ A1 h1 w2, (∀ B, jblk R C B = true → B / 32 < x → A1 129 B = nI (jlb v R C B) ∧ A1 130 B = nI (jfe v R C B)) → (∀ a, a ≠ 129 → a ≠ 130 → A1 a = A a) → jR F A1 G g h1 → jD h h1 → jx_Go jxP (d + 2) 4 10 [.ref 128, .int (nI x), w2] [] h1 Q) (2 ^ R) ?_ ?_ 1 (by omega) (Nat.le_refl _) A h _ (fun B b1 b2 => by have := jblk_iff.mp b1; omega) (fun _ _ _ => rfl) hR jD.rf
    · intro _ A1 h1 w2 hT fr hR1 hD1
      have f0 : F 99 0 = 2 ^ R - 1 := hM.1
      rw [s4_10]
      simp (disch := first | omega | decide) only [s4_11, s4_12, s4_15, s4_18, s4_52, s4_53, s4_54z0, s4_54z1, s4_57, Option.some.injEq, exists_eq_left', exists_eq_left, List.cons_append, List.nil_append, List.length_nil, List.length_cons, Nat.reduceAdd, Nat.reduceMul, Nat.reduceSub, Nat.reduceLeDiff, true_and, and_true, ↓reduceIte, not_false_eq_true, not_true_eq_false, nI_add, pk_mul, jn_ltT, jn_ltF, jn_leT, jn_leF, jn_eqT, jn_eqF, jn_lt0, jn_ge0, jn_eq0T, jn_eq0F, jn_in, jn_cl, jf_128_0 hR1, jf_128_5 hR1, jf_99_0 hR1, f0]
      exact k _ A1 (fun B hB => hT B hB (jblk_iff.mp hB).2.1) fr (hR1.uf (o := 128) (k := 5) rfl rfl) (hD1.uf (by decide))
    · intro x hx ih x1 A1 h1 w2 hT fr hR1 hD1
      have f0 : F 99 0 = 2 ^ R - 1 := hM.1
      rw [s4_10]
      simp (disch := first | omega | decide) only [s4_11, s4_12, s4_15, s4_18, s4_21, s4_22, Option.some.injEq, exists_eq_left', exists_eq_left, List.cons_append, List.nil_append, List.length_nil, List.length_cons, Nat.reduceAdd, Nat.reduceMul, Nat.reduceSub, Nat.reduceLeDiff, true_and, and_true, ↓reduceIte, not_false_eq_true, not_true_eq_false, nI_add, pk_mul, jn_ltT, jn_ltF, jn_leT, jn_leF, jn_eqT, jn_eqF, jn_lt0, jn_ge0, jn_eq0T, jn_eq0F, jn_in, jn_cl, jf_128_0 hR1, jf_99_0 hR1, f0]
      refine jloop (fun y => 1 ≤ y → ∀ A1 h1, (∀ B, jblk R C B = true → (B / 32 < x ∨ (B / 32 = x ∧ B % 32 < y)) → A1 129 B = nI (jlb v R C B) ∧ A1 130 B = nI (jfe v R C B)) → (∀ a, a ≠ 129 → a ≠ 130 → A1 a = A a) → jR F A1 G g h1 → jD h h1 → jx_Go jxP (d + 2) 4 23 [.ref 128, .int (nI x), .int (nI y)] [] h1 Q) (2 ^ C) ?_ ?_ 1 (by omega) (Nat.le_refl _) A1 h1 (fun B b1 b2 => hT B b1 (by have := jblk_iff.mp b1; omega)) fr hR1 hD1
      · intro _ A1 h1 hT fr hR1 hD1
        have f1 : F 99 1 = 2 ^ C - 1 := hM.2.1
        rw [s4_23]
        simp (disch := first | omega | decide) only [s4_24, s4_25, s4_28, s4_31, s4_46, s4_49, Option.some.injEq, exists_eq_left', exists_eq_left, List.cons_append, List.nil_append, List.length_nil, List.length_cons, Nat.reduceAdd, Nat.reduceMul, Nat.reduceSub, Nat.reduceLeDiff, true_and, and_true, ↓reduceIte, not_false_eq_true, not_true_eq_false, nI_add, pk_mul, jn_ltT, jn_ltF, jn_leT, jn_leF, jn_eqT, jn_eqF, jn_lt0, jn_ge0, jn_eq0T, jn_eq0F, jn_in, jn_cl, jf_128_0 hR1, jf_99_1 hR1, f1]
        exact ih (by omega) A1 h1 _ (fun B b1 b2 => hT B b1 (by have := jblk_iff.mp b1; omega)) fr hR1 hD1
      · intro y hy ih2 y1 A1 h1 hT fr hR1 hD1
        have f1 : F 99 1 = 2 ^ C - 1 := hM.2.1
        rw [s4_23]
        simp (disch := first | omega | decide) only [s4_24, s4_25, s4_28, s4_31, s4_34, s4_35, s4_36, s4_37, Option.some.injEq, exists_eq_left', exists_eq_left, List.cons_append, List.nil_append, List.length_nil, List.length_cons, Nat.reduceAdd, Nat.reduceMul, Nat.reduceSub, Nat.reduceLeDiff, true_and, and_true, ↓reduceIte, not_false_eq_true, not_true_eq_false, nI_add, pk_mul, jn_ltT, jn_ltF, jn_leT, jn_leF, jn_eqT, jn_eqF, jn_lt0, jn_ge0, jn_eq0T, jn_eq0F, jn_in, jn_cl, jf_128_0 hR1, jf_99_1 hR1, f1, jc_of_128 hR1]
        refine bl_learnBlock hR1 (hP.fr (fr 126 (by decide) (by decide)) (fr 127 (by decide) (by decide))) (hM.fr rfl rfl (fr 100 (by decide) (by decide)) (fr 101 (by decide) (by decide))) hr hc x1 hx y1 hy (fun B b1 b2 => hT B b1 (by omega)) (fun h2 f e fe ot hR2 hD2 => ?_)
        simp (disch := omega) only [s4_40, s4_43, Option.some.injEq, exists_eq_left', exists_eq_left, List.cons_append, List.nil_append, List.length_nil, List.length_cons, Nat.reduceAdd, Nat.reduceMul, Nat.reduceSub, Nat.reduceLeDiff, true_and, and_true, ↓reduceIte, not_false_eq_true, not_true_eq_false, nI_add, pk_mul, jn_ltT, jn_ltF, jn_leT, jn_leF, jn_eqT, jn_eqF, jn_lt0, jn_ge0, jn_eq0T, jn_eq0F, jn_in, jn_cl]
        refine ih2 (by omega) _ h2 (fun B b1 b2 => ?_) (fun a n1 n2 => by rw [jua_ne n2, jua_ne n1]; exact fr a n1 n2) hR2 (hD1.tr hD2)
        rw [jua_ne (by decide), jua_same, jua_same]
        by_cases z : B = 32 * x + y
        · subst z; exact fe
        · rw [(ot B z).1, (ot B z).2]
          exact hT B b1 (by omega)
  · have : jup F 128 5 1 = F := jup_id hK
    rw [this] at k
    simp (disch := omega) only [s4_0, s4_1, s4_4, s4_7, Option.some.injEq, exists_eq_left', exists_eq_left, List.cons_append, List.nil_append, List.length_nil, List.length_cons, Nat.reduceAdd, Nat.reduceMul, Nat.reduceSub, Nat.reduceLeDiff, true_and, and_true, ↓reduceIte, not_false_eq_true, not_true_eq_false, nI_add, pk_mul, jn_ltT, jn_ltF, jn_leT, jn_leF, jn_eqT, jn_eqF, jn_lt0, jn_ge0, jn_eq0T, jn_eq0F, jn_in, jn_cl, jf_128_5 hR, hK]
    exact k h A hB (fun _ _ _ => rfl) hR jD.rf
theorem bl_leastBits (hR : jR F A G g h) (hP : jPa A) {v : Nat → Int32} {R C : Nat} (hM : jMk F A v R C) (hr : R ≤ 5) (hc : C ≤ 5) (hK : F 128 5 = 0 ∨ (F 128 5 = 1 ∧ jBl A v R C)) {x y : Nat} (hb : jblk R C (32 * x + y) = true) (hy : y < 32) (k : ∀ h' A', jBl A' v R C → (∀ a, a ≠ 129 → a ≠ 130 → A' a = A a) → jR (jup F 128 5 1) A' G g h' → jD h h' → Q [.int (nI (jlb v R C (32 * x + y)))] h') : jx_Go jxP (d + 3) 2 0 [.ref 128, .int (nI x), .int (nI y)] [] h Q := by
  have p1 := jp2 _ hr
  have hb' := jblk_iff.mp hb
  simp (disch := omega) only [s2_0, s2_1, Option.some.injEq, exists_eq_left', exists_eq_left, List.cons_append, List.nil_append, List.length_nil, List.length_cons, Nat.reduceAdd, Nat.reduceMul, Nat.reduceSub, Nat.reduceLeDiff, true_and, and_true, ↓reduceIte, not_false_eq_true, not_true_eq_false, nI_add, pk_mul, jn_ltT, jn_ltF, jn_leT, jn_leF, jn_eqT, jn_eqF, jn_lt0, jn_ge0, jn_eq0T, jn_eq0F, jn_in, jn_cl, jc_of_128 hR]
  refine bl_learn hR hP hM hr hc hK (fun h1 A1 hB1 fr1 hR1 hD1 => ?_)
  have t := (hB1 _ hb).1
  simp (disch := omega) only [s2_4, s2_5, s2_8, s2_9, s2_10, s2_13, s2_14, Option.some.injEq, exists_eq_left', exists_eq_left, List.cons_append, List.nil_append, List.length_nil, List.length_cons, Nat.reduceAdd, Nat.reduceMul, Nat.reduceSub, Nat.reduceLeDiff, true_and, and_true, ↓reduceIte, not_false_eq_true, not_true_eq_false, nI_add, pk_mul, jn_ltT, jn_ltF, jn_leT, jn_leF, jn_eqT, jn_eqF, jn_lt0, jn_ge0, jn_eq0T, jn_eq0F, jn_in, jn_cl, jf_128_2 hR1, tb_blockAt, ja_129 hR1, t]
  exact k h1 A1 hB1 fr1 hR1 hD1
theorem bl_fewestEnds (hR : jR F A G g h) (hP : jPa A) {v : Nat → Int32} {R C : Nat} (hM : jMk F A v R C) (hr : R ≤ 5) (hc : C ≤ 5) (hK : F 128 5 = 0 ∨ (F 128 5 = 1 ∧ jBl A v R C)) {x y : Nat} (hb : jblk R C (32 * x + y) = true) (hy : y < 32) (k : ∀ h' A', jBl A' v R C → (∀ a, a ≠ 129 → a ≠ 130 → A' a = A a) → jR (jup F 128 5 1) A' G g h' → jD h h' → Q [.int (nI (jfe v R C (32 * x + y)))] h') : jx_Go jxP (d + 3) 3 0 [.ref 128, .int (nI x), .int (nI y)] [] h Q := by
  have p1 := jp2 _ hr
  have hb' := jblk_iff.mp hb
  simp (disch := omega) only [s3_0, s3_1, Option.some.injEq, exists_eq_left', exists_eq_left, List.cons_append, List.nil_append, List.length_nil, List.length_cons, Nat.reduceAdd, Nat.reduceMul, Nat.reduceSub, Nat.reduceLeDiff, true_and, and_true, ↓reduceIte, not_false_eq_true, not_true_eq_false, nI_add, pk_mul, jn_ltT, jn_ltF, jn_leT, jn_leF, jn_eqT, jn_eqF, jn_lt0, jn_ge0, jn_eq0T, jn_eq0F, jn_in, jn_cl, jc_of_128 hR]
  refine bl_learn hR hP hM hr hc hK (fun h1 A1 hB1 fr1 hR1 hD1 => ?_)
  have t := (hB1 _ hb).2
  simp (disch := omega) only [s3_0, s3_1, s3_4, s3_5, s3_8, s3_9, s3_10, s3_13, s3_14, Option.some.injEq, exists_eq_left', exists_eq_left, List.cons_append, List.nil_append, List.length_nil, List.length_cons, Nat.reduceAdd, Nat.reduceMul, Nat.reduceSub, Nat.reduceLeDiff, true_and, and_true, ↓reduceIte, not_false_eq_true, not_true_eq_false, nI_add, pk_mul, jn_ltT, jn_ltF, jn_leT, jn_leF, jn_eqT, jn_eqF, jn_lt0, jn_ge0, jn_eq0T, jn_eq0F, jn_in, jn_cl, jf_128_3 hR1, tb_blockAt, ja_130 hR1, t]
  exact k h1 A1 hB1 fr1 hR1 hD1
end CL7
