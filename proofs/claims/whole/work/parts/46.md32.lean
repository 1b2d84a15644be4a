/-! ===== the reference: part, its loops ===== -/
section MD32
variable {d : Nat} {F : Nat → Nat → Nat} {A : Nat → Nat → Int32} {G : Nat → Option Nat} {g : Nat → Int64} {h : jxH} {Q : List Value → jxH → Prop}
theorem jsum_mono {f : Nat → Nat} {n : Nat} : ∀ m, n ≤ m → jsum n f ≤ jsum m f := by
  intro m
  induction m with
  | zero => intro h1; rw [show n = 0 by omega]; exact Nat.le_refl _
  | succ m ih =>
    intro h1
    rcases (show n ≤ m ∨ n = m + 1 by omega) with w | w
    · rw [jsum_s]; have := ih w; omega
    · rw [w]; exact Nat.le_refl _
theorem jblk_n : ∀ R, R < 5 → ∀ C, C < 5 → (jsum 1024 fun B => if jblk R C B = true then 1 else 0) ≤ 225 := by decide +kernel
/-- the even blocks are laid down -/
theorem md_part1 (hr : F 149 0 ≤ 4) (hc : F 149 1 ≤ 4) (hv : jV (A 150) (F 149 0) (F 149 1)) (k : ∀ A2 h2 m w3 w4 w5 w6, m < 256 → (∃ E, (∀ k, k < m → A2 176 k = nI (E k)) ∧ jEv (A 150) (F 149 0) (F 149 1) 1024 m E) → (∀ a, a ≠ 176 → A2 a = A a) → jR F A2 G g h2 → jD h h2 → jx_Go jxP (d + 3) 180 114 [.ref 149, .int (nI m), .int (nI (jalB (F 149 0) (F 149 1) + 1)), w3, w4, w5, w6] [] h2 Q) (hR : jR F A G g h) : jx_Go jxP (d + 3) 180 0 [.ref 149, jx_u, jx_u, jx_u, jx_u, jx_u, jx_u] [] h Q := by
  have p1 := jp2 (F 149 0) (by omega)
  have p2 := jp2 (F 149 1) (by omega)
  have ub : jalB (F 149 0) (F 149 1) < 1024 := by unfold jalB; omega
  have lb : ∀ B, B ≤ jalB (F 149 0) (F 149 1) → B / 32 < 2 ^ F 149 0 := fun B hB => by unfold jalB at hB; omega
  have nb : ∀ B, jblk (F 149 0) (F 149 1) B = true → B ≤ jalB (F 149 0) (F 149 1) := fun B hB => by
    have := jblk_iff.mp hB
    unfold jalB
    omega
  have tn := jblk_n (F 149 0) (by omega) (F 149 1) (by omega)
  simp (disch := omega) only [s180_0, s180_1, s180_4, s180_5, s180_8, s180_9, s180_12, s180_13, s180_23, s180_24, s180_25, s180_26, Option.some.injEq, exists_eq_left', exists_eq_left, List.cons_append, List.nil_append, List.length_nil, List.length_cons, Nat.reduceAdd, Nat.reduceMul, Nat.reduceSub, Nat.reduceLeDiff, true_and, and_true, ↓reduceIte, not_false_eq_true, not_true_eq_false, nI_add, pk_mul, jn_ltT, jn_ltF, jn_leT, jn_leF, jn_eqT, jn_eqF, jn_lt0, jn_ge0, jn_eq0T, jn_eq0F, jn_in, jn_cl, jf_149_0 hR, jf_149_1 hR]
  refine jloop (fun B => ∀ A1 h1 m E w3 w4 w5 w6, m ≤ (jsum B fun B => if jblk (F 149 0) (F 149 1) B = true then 1 else 0) → (∀ k, k < m → A1 176 k = nI (E k)) → jEv (A 150) (F 149 0) (F 149 1) B m E → (∀ a, a ≠ 176 → A1 a = A a) → jR F A1 G g h1 → jD h h1 → jx_Go jxP (d + 3) 180 27 [.ref 149, .int (nI m), .int (nI B), w3, w4, w5, w6] [] h1 Q) (jalB (F 149 0) (F 149 1) + 1) ?_ ?_ 0 (Nat.zero_le _) A h 0 (fun _ => 0) _ _ _ _ (Nat.zero_le _) (fun k hk => by omega) ⟨fun B hB => by omega, fun k hk => by omega⟩ (fun _ _ => rfl) hR jD.rf
  · intro A1 h1 m E w3 w4 w5 w6 hm eE hE fr hR1 hD1
    have al : ∀ (d : Nat) (Q : List Value → jxH → Prop), jx_Go jxP d 154 0 [.ref 149] [] h1 Q ↔ Q [.int (nI (jalB (F 149 0) (F 149 1)))] h1 := fun d Q => md_all hR1 (by omega) (by omega)
    have mono := jsum_mono (f := fun B => if jblk (F 149 0) (F 149 1) B = true then 1 else 0) (n := jalB (F 149 0) (F 149 1) + 1) 1024 (by omega)
    rw [s180_27]
    simp (disch := omega) only [s180_28, s180_29, s180_32, Option.some.injEq, exists_eq_left', exists_eq_left, List.cons_append, List.nil_append, List.length_nil, List.length_cons, Nat.reduceAdd, Nat.reduceMul, Nat.reduceSub, Nat.reduceLeDiff, true_and, and_true, ↓reduceIte, not_false_eq_true, not_true_eq_false, nI_add, pk_mul, jn_ltT, jn_ltF, jn_leT, jn_leF, jn_eqT, jn_eqF, jn_lt0, jn_ge0, jn_eq0T, jn_eq0F, jn_in, jn_cl, al, jc_of_149 hR1]
    refine k A1 h1 m _ _ _ _ (by omega) ⟨E, eE, ?_⟩ fr hR1 hD1
    refine ⟨fun B hB eB => ?_, fun k hk => ?_⟩
    · have := eB
      unfold jeb at this
      rw [Bool.and_eq_true] at this
      exact hE.1 B (by have := nb B this.1; omega) eB
    · obtain ⟨B, h1, h2⟩ := hE.2 k hk
      exact ⟨B, by omega, h2⟩
  · intro B hB ih A1 h1 m E w3 w4 w5 w6 hm eE hE fr hR1 hD1
    have al : ∀ (d : Nat) (Q : List Value → jxH → Prop), jx_Go jxP d 154 0 [.ref 149] [] h1 Q ↔ Q [.int (nI (jalB (F 149 0) (F 149 1)))] h1 := fun d Q => md_all hR1 (by omega) (by omega)
    have isb : ∀ (d : Nat) (Q : List Value → jxH → Prop), jx_Go jxP d 157 0 [.ref 149, .int (nI B)] [] h1 Q ↔ Q [.int (nI (if jblk (F 149 0) (F 149 1) B = true then 1 else 0))] h1 := fun d Q => md_isBlock hR1 (by omega) (by omega) (lb B (by omega))
    have mono := jsum_mono (f := fun B => if jblk (F 149 0) (F 149 1) B = true then 1 else 0) (n := B + 1) 1024 (by omega)
    have g150 : A1 150 = A 150 := fr 150 (by decide)
    rw [jsum_s] at ih
    have skip : jeb (A 150) (F 149 0) (F 149 1) B = false → ∀ w3, jx_Go jxP (d + 3) 180 108 [.ref 149, .int (nI m), .int (nI B), w3, w4, w5, w6] [] h1 Q := by
      intro ne w3
      simp (disch := omega) only [s180_108, s180_111, Option.some.injEq, exists_eq_left', exists_eq_left, List.cons_append, List.nil_append, List.length_nil, List.length_cons, Nat.reduceAdd, Nat.reduceMul, Nat.reduceSub, Nat.reduceLeDiff, true_and, and_true, ↓reduceIte, not_false_eq_true, not_true_eq_false, nI_add, pk_mul, jn_ltT, jn_ltF, jn_leT, jn_leF, jn_eqT, jn_eqF, jn_lt0, jn_ge0, jn_eq0T, jn_eq0F, jn_in, jn_cl]
      refine ih A1 h1 m E _ _ _ _ (by omega) eE ⟨fun B' hB' eB' => ?_, fun k hk => ?_⟩ fr hR1 hD1
      · rcases (show B' < B ∨ B' = B by omega) with w | w
        · exact hE.1 B' w eB'
        · subst w; rw [ne] at eB'; cases eB'
      · obtain ⟨B', h1, h2⟩ := hE.2 k hk
        exact ⟨B', by omega, h2⟩
    rw [s180_27]
    simp (disch := omega) only [s180_28, s180_29, s180_32, s180_35, s180_36, s180_37, Option.some.injEq, exists_eq_left', exists_eq_left, List.cons_append, List.nil_append, List.length_nil, List.length_cons, Nat.reduceAdd, Nat.reduceMul, Nat.reduceSub, Nat.reduceLeDiff, true_and, and_true, ↓reduceIte, not_false_eq_true, not_true_eq_false, nI_add, pk_mul, jn_ltT, jn_ltF, jn_leT, jn_leF, jn_eqT, jn_eqF, jn_lt0, jn_ge0, jn_eq0T, jn_eq0F, jn_in, jn_cl, al, isb, jc_of_149 hR1]
    by_cases b : jblk (F 149 0) (F 149 1) B = true
    · rw [if_pos b] at ih ⊢
      have b' := jblk_iff.mp b
      have hy : B % 32 < 16 := Nat.lt_of_lt_of_le b'.2.2.2 (Nat.le_trans (Nat.pow_le_pow_right (by decide) hc) (by decide))
      have hB' : B < 1024 := by omega
      rw [jsum_s, if_pos b] at mono
      simp (disch := omega) only [s180_40, s180_43, s180_44, s180_45, Option.some.injEq, exists_eq_left', exists_eq_left, List.cons_append, List.nil_append, List.length_nil, List.length_cons, Nat.reduceAdd, Nat.reduceMul, Nat.reduceSub, Nat.reduceLeDiff, true_and, and_true, ↓reduceIte, not_false_eq_true, not_true_eq_false, nI_add, pk_mul, jn_ltT, jn_ltF, jn_leT, jn_leF, jn_eqT, jn_eqF, jn_lt0, jn_ge0, jn_eq0T, jn_eq0F, jn_in, jn_cl, jc_of_149 hR1]
      refine md_isEven hR1 (by omega) (by omega) (by rw [g150]; exact hv) hB' ?_
      rw [g150]
      cases ev : jev (A 150) (F 149 0) (F 149 1) B with
      | false =>
        simp (disch := omega) only [s180_48, Option.some.injEq, exists_eq_left', exists_eq_left, List.cons_append, List.nil_append, List.length_nil, List.length_cons, Nat.reduceAdd, Nat.reduceMul, Nat.reduceSub, Nat.reduceLeDiff, true_and, and_true, ↓reduceIte, not_false_eq_true, not_true_eq_false, nI_add, pk_mul, jn_ltT, jn_ltF, jn_leT, jn_leF, jn_eqT, jn_eqF, jn_lt0, jn_ge0, jn_eq0T, jn_eq0F, jn_in, jn_cl, Bool.toNat_false]
        exact skip (by unfold jeb; rw [b, ev]; rfl) _
      | true =>
        have eb : jeb (A 150) (F 149 0) (F 149 1) B = true := by unfold jeb; rw [b, ev]; rfl
        simp (disch := omega) only [s180_48, s180_51, s180_52, s180_55, s180_56, s180_57, s180_58, s180_59, Option.some.injEq, exists_eq_left', exists_eq_left, List.cons_append, List.nil_append, List.length_nil, List.length_cons, Nat.reduceAdd, Nat.reduceMul, Nat.reduceSub, Nat.reduceLeDiff, true_and, and_true, ↓reduceIte, not_false_eq_true, not_true_eq_false, nI_add, pk_mul, jn_ltT, jn_ltF, jn_leT, jn_leF, jn_eqT, jn_eqF, jn_lt0, jn_ge0, jn_eq0T, jn_eq0F, jn_in, jn_cl, jf_149_32 hR1, ja_176 hR1, Bool.toNat_true]
        have hR2 := hR1.wi (a := 176) (f := upd (A1 176) m (nI 0)) rfl
        have hD2 := hD1.wi (a := 176) (n := 256) (f := upd (A1 176) m (nI 0)) (by decide)
        refine jloop (fun r => ∀ A2 h2 w4 w5 w6, A2 176 m = nI (jmk (4 * r) fun p => (B / 32).testBit (p / 4) && (B % 32).testBit (p % 4)) → (∀ k, k < m → A2 176 k = A1 176 k) → (∀ a, a ≠ 176 → A2 a = A a) → jR F A2 G g h2 → jD h h2 → jx_Go jxP (d + 3) 180 60 [.ref 149, .int (nI m), .int (nI B), .int (nI r), w4, w5, w6] [] h2 Q) (F 149 0) ?_ ?_ 0 (Nat.zero_le _) _ _ _ _ _ (by rw [jua_same, jupd_same]; rfl) (fun k hk => by rw [jua_same, jupd_ne (by omega)]) (fun a na => by rw [jua_ne na]; exact fr a na) hR2 hD2
        · intro A2 h2 w4 w5 w6 e1 e2 fr2 hR2 hD2
          rw [s180_60]
          simp (disch := omega) only [s180_61, s180_62, s180_65, s180_105, s180_108, s180_111, Option.some.injEq, exists_eq_left', exists_eq_left, List.cons_append, List.nil_append, List.length_nil, List.length_cons, Nat.reduceAdd, Nat.reduceMul, Nat.reduceSub, Nat.reduceLeDiff, true_and, and_true, ↓reduceIte, not_false_eq_true, not_true_eq_false, nI_add, pk_mul, jn_ltT, jn_ltF, jn_leT, jn_leF, jn_eqT, jn_eqF, jn_lt0, jn_ge0, jn_eq0T, jn_eq0F, jn_in, jn_cl, jf_149_0 hR2]
          refine ih A2 h2 (m + 1) (fun k => if k = m then jp4 (F 149 0) B else E k) _ _ _ _ (by omega) (fun k hk => ?_) ⟨fun B' hB' eB' => ?_, fun k hk => ?_⟩ fr2 hR2 hD2
          · by_cases w : k = m
            · rw [if_pos w, w]; exact e1
            · rw [if_neg w, e2 k (by omega)]; exact eE k (by omega)
          · rcases (show B' < B ∨ B' = B by omega) with w | w
            · obtain ⟨k, k1, k2⟩ := hE.1 B' w eB'
              exact ⟨k, by omega, by dsimp only; rw [if_neg (by omega)]; exact k2⟩
            · exact ⟨m, by omega, by dsimp only; rw [if_pos rfl, w]⟩
          · by_cases w : k = m
            · exact ⟨B, by omega, eb, by dsimp only; rw [if_pos w]⟩
            · obtain ⟨B', h1, h2⟩ := hE.2 k (by omega)
              exact ⟨B', by omega, by dsimp only; rw [if_neg w]; exact h2⟩
        · intro r hr' ihr A2 h2 w4 w5 w6 e1 e2 fr2 hR2 hD2
          have bj : ∀ j, j < 4 → ((B / 32).testBit ((4 * r + j) / 4) && (B % 32).testBit ((4 * r + j) % 4)) = ((B / 32).testBit r && (B % 32).testBit j) := fun j hj => by rw [show (4 * r + j) / 4 = r by omega, show (4 * r + j) % 4 = j by omega]
          rw [s180_60]
          simp (disch := omega) only [s180_61, s180_62, s180_65, s180_68, s180_69, s180_72, s180_73, s180_74, s180_75, s180_76, s180_77, s180_78, s180_79, Option.some.injEq, exists_eq_left', exists_eq_left, List.cons_append, List.nil_append, List.length_nil, List.length_cons, Nat.reduceAdd, Nat.reduceMul, Nat.reduceSub, Nat.reduceLeDiff, true_and, and_true, ↓reduceIte, not_false_eq_true, not_true_eq_false, nI_add, pk_mul, jn_ltT, jn_ltF, jn_leT, jn_leF, jn_eqT, jn_eqF, jn_lt0, jn_ge0, jn_eq0T, jn_eq0F, jn_in, jn_cl, jf_149_0 hR2, jf_149_32 hR2, ja_176 hR2, jsh5, md_in, e1]
          by_cases t : (B / 32).testBit r = true
          · rw [if_pos t]
            have e4 := jmk4 (p := fun p => (B / 32).testBit (p / 4) && (B % 32).testBit (p % 4)) (r := r) hy (fun j hj => by rw [bj j hj, t]; rfl)
            simp (disch := omega) only [s180_82, s180_85, s180_86, s180_88, s180_89, s180_90, s180_91, s180_92, s180_93, s180_96, s180_97, s180_98, s180_99, s180_102, Option.some.injEq, exists_eq_left', exists_eq_left, List.cons_append, List.nil_append, List.length_nil, List.length_cons, Nat.reduceAdd, Nat.reduceMul, Nat.reduceSub, Nat.reduceLeDiff, true_and, and_true, ↓reduceIte, not_false_eq_true, not_true_eq_false, nI_add, pk_mul, jn_ltT, jn_ltF, jn_leT, jn_leF, jn_eqT, jn_eqF, jn_lt0, jn_ge0, jn_eq0T, jn_eq0F, jn_in, jn_cl, ja_176 hR2, jan31, jsh4, jn_or, e4]
            refine ihr _ _ _ _ _ ?_ ?_ ?_ (hR2.wi (a := 176) (f := upd (A2 176) m (nI (jmk (4 * (r + 1)) fun p => (B / 32).testBit (p / 4) && (B % 32).testBit (p % 4)))) rfl) (hD2.wi (by decide))
            · rw [jua_same, jupd_same]
            · intro k hk; rw [jua_same, jupd_ne (by omega)]; exact e2 k hk
            · intro a na; rw [jua_ne na]; exact fr2 a na
          · rw [if_neg t]
            have e4 := jmk4f (p := fun p => (B / 32).testBit (p / 4) && (B % 32).testBit (p % 4)) (r := r) (fun j hj => by rw [bj j hj, Bool.eq_false_iff.mpr t]; rfl)
            rw [e4] at ihr
            simp (disch := omega) only [s180_82, s180_96, s180_97, s180_98, s180_99, s180_102, Option.some.injEq, exists_eq_left', exists_eq_left, List.cons_append, List.nil_append, List.length_nil, List.length_cons, Nat.reduceAdd, Nat.reduceMul, Nat.reduceSub, Nat.reduceLeDiff, true_and, and_true, ↓reduceIte, not_false_eq_true, not_true_eq_false, nI_add, pk_mul, jn_ltT, jn_ltF, jn_leT, jn_leF, jn_eqT, jn_eqF, jn_lt0, jn_ge0, jn_eq0T, jn_eq0F, jn_in, jn_cl, ja_176 hR2, jn_or, Nat.or_zero]
            refine ihr _ _ _ _ _ ?_ ?_ ?_ (hR2.wi (a := 176) (f := upd (A2 176) m (nI (jmk (4 * r) fun p => (B / 32).testBit (p / 4) && (B % 32).testBit (p % 4)))) rfl) (hD2.wi (by decide))
            · rw [jua_same, jupd_same]
            · intro k hk; rw [jua_same, jupd_ne (by omega)]; exact e2 k hk
            · intro a na; rw [jua_ne na]; exact fr2 a na
    · rw [if_neg b]
      simp (disch := omega) only [s180_40, Option.some.injEq, exists_eq_left', exists_eq_left, List.cons_append, List.nil_append, List.length_nil, List.length_cons, Nat.reduceAdd, Nat.reduceMul, Nat.reduceSub, Nat.reduceLeDiff, true_and, and_true, ↓reduceIte, not_false_eq_true, not_true_eq_false, nI_add, pk_mul, jn_ltT, jn_ltF, jn_leT, jn_leF, jn_eqT, jn_eqF, jn_lt0, jn_ge0, jn_eq0T, jn_eq0F, jn_in, jn_cl]
      exact skip (by unfold jeb; rw [Bool.eq_false_iff.mpr b]; rfl) _
end MD32
