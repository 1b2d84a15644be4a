/-! ===== the law from its start ===== -/
section START4
variable {d : Nat} {X : jxC} {Q : List Value → jxH → Prop}
theorem jx_run_d (P : jxM) : ∀ (n d M pc : Nat) (ls st : List Value) (h : jxH) (r : Nat × List Value × jxH), jx_run P n d M pc ls st h = some r → jx_run P n (d + 1) M pc ls st h = some r
  | 0, _, _, _, _, _, _, _, e => by simp [jx_run] at e
  | n + 1, d, M, pc, ls, st, h, r, e => by
    rw [jx_run] at e ⊢
    cases hc : (P M).2 pc with
    | none => rw [hc] at e; exact e
    | some i =>
      rw [hc] at e
      rcases i with o | ⟨y, k, nx, ck⟩ | q
      · dsimp only at e ⊢
        cases ho : o ls st h with
        | none => rw [ho] at e; exact e
        | some x =>
          rw [ho] at e
          obtain ⟨pc', ls', st', h'⟩ := x
          exact jx_run_d P n d M pc' ls' st' h' r e
      · dsimp only at e ⊢
        cases d with
        | zero => cases e
        | succ d' =>
          dsimp only at e ⊢
          by_cases hk : jx_okc k ck st h = true
          · rw [if_pos hk] at e ⊢
            cases hr : jx_run P n d' y 0 (jx_ent (P y).1 k st) [] h with
            | none => rw [hr] at e; cases e
            | some x =>
              rw [hr] at e
              obtain ⟨a, s1, h1⟩ := x
              rw [jx_run_d P n d' y 0 _ _ h _ hr]
              exact jx_run_d P n (d' + 1) M nx ls _ h1 r e
          · rw [if_neg hk] at e
            cases e
      · exact e
theorem jx_run_D {P : jxM} {n d M pc : Nat} {ls st : List Value} {h : jxH} {r : Nat × List Value × jxH} (D : Nat) (e : jx_run P n d M pc ls st h = some r) : jx_run P n (d + D) M pc ls st h = some r := by
  induction D with
  | zero => exact e
  | succ D ih => exact jx_run_d P n (d + D) M pc ls st h r ih
theorem jR.s0 {F : Nat → Nat → Nat} {A : Nat → Nat → Int32} {G : Nat → Option Nat} {g : Nat → Int64} {h : jxH} (hR : jR F A G g h) : jR F A G g (jx_s0 X h) := by
  obtain ⟨h1, h2, h3, h4, h5⟩ := hR
  refine ⟨fun o c k hc => ?_, fun a n ha => ?_, fun a t n r hr => ?_, ?_, ?_⟩
  · have n0 : o ≠ 0 := fun w => by subst w; cases hc
    have e : jx_fl (jx_s0 X h) o c k = jx_fl h o c k := by unfold jx_fl; rw [jz_ne n0]
    rw [e]
    exact h1 o c k hc
  · have n0 : a ≠ 0 := fun w => by subst w; cases ha
    have e : jx_ai (jx_s0 X h) a = jx_ai h a := by unfold jx_ai; rw [jz_ne n0]
    rw [e]
    exact h2 a n ha
  · have n0 : a ≠ 0 := fun w => by subst w; cases hr
    have e : jx_ar (jx_s0 X h) a t = jx_ar h a t := by unfold jx_ar; rw [jz_ne n0]
    rw [e]
    exact h3 a t n r hr
  · have e : jx_ar (jx_s0 X h) 5 2 = jx_ar h 5 2 := by unfold jx_ar; rw [jz_ne (by decide)]
    rw [e]
    exact h4
  · have e : jx_al (jx_s0 X h) 171 = jx_al h 171 := by unfold jx_al; rw [jz_ne (by decide)]
    rw [e]
    exact h5
theorem jI.s0 {F : Nat → Nat → Nat} {A : Nat → Nat → Int32} {G : Nat → Option Nat} {h : jxH} (e : jI F A G h) : jI F A G (jx_s0 X h) := by
  refine ⟨e.ia, e.ih, ⟨fun s hs => ?_, e.is.2⟩, e.it, e.im, e.ib, e.ic, e.ik, e.iw, e.fd, e.hp⟩
  rcases e.is.1 s hs with q | ⟨o, q1, q2, q3, R, C, f, w, t, q4⟩
  · exact .inl q
  · exact .inr ⟨o, q1, q2, q3, R, C, f, w, t.eq (jz_ne (by omega)) (jz_ne (by omega)) (jz_ne (by omega)), q4⟩
theorem jst_get : ∃ pA hA pB hB, jx_run jxP 100000 8 85 0 [.ref 1, jx_u] [] jstA = some (pA, [], hA) ∧ hA.1 = 149 ∧ jx_run jxP 100000 8 129 0 [.ref 149, jx_u] [] (jstB hA) = some (pB, [], hB) ∧ jkR hB = true ∧ jkA hB = true := by
  have e := jst_ok
  unfold jst at e
  split at e
  · next pA hA eA =>
    rw [Bool.and_eq_true] at e
    obtain ⟨e1, e2⟩ := e
    split at e2
    · next pB hB eB =>
      rw [Bool.and_eq_true] at e2
      exact ⟨pA, hA, pB, hB, eA, Nat.eq_of_beq_eq_true e1, eB, e2.1, e2.2⟩
    · cases e2
  · cases e
theorem jstart (k : ∀ h', jZ h' → h'.2.2 0 = X → h'.1 = 182 → h'.2.1 ≤ 200000 → jx_Go jxP (d + 17) 200 18 [.ref 0, .ref 1, .ref 149, .int (nI 0)] [] h' Q) : jx_Go jxP (d + 17) 200 0 [.ref 0, jx_u, jx_u, jx_u] [] (jx_s0 X jst0) Q := by
  obtain ⟨pA, hA, pB, hB, eA, hA1, eB, kR, kA⟩ := jst_get
  rw [s200_0]
  have m1 : jx_mk (jx_s0 X jst0) 12 (.inr (11, [.null, .null, .null, .null, .null, .null, .null, .null, .null, .null, .null, .int 0])) = jx_s0 X jstA := jz_mk (by decide)
  rw [m1]
  show jx_Go jxP (d + 17) 200 3 [.ref 0, jx_u, jx_u, jx_u] [.ref 1] (jx_s0 X jstA) Q
  have c1 : jx_cl (jx_s0 X jstA) 1 = some 11 := rfl
  simp (disch := omega) only [s200_3i, s200_3r, s200_4, Option.some.injEq, exists_eq_left', exists_eq_left, List.cons_append, List.nil_append, List.length_nil, List.length_cons, Nat.reduceAdd, Nat.reduceMul, Nat.reduceSub, Nat.reduceLeDiff, true_and, and_true, ↓reduceIte, not_false_eq_true, not_true_eq_false, nI_add, pk_mul, jn_ltT, jn_ltF, jn_leT, jn_leF, jn_eqT, jn_eqF, jn_lt0, jn_ge0, jn_eq0T, jn_eq0F, jn_in, jn_cl, c1]
  obtain ⟨rA, zA, pA0⟩ := jz_run (X := X) 100000 8 85 0 _ _ _ _ rfl rfl (by decide) eA
  refine ⟨100000, pA, [], jx_s0 X hA, jx_run_D (d + 8) rA |> fun w => by rwa [show 8 + (d + 8) = d + 16 by omega] at w, ?_⟩
  dsimp only
  rw [List.nil_append, s200_7, s200_8]
  have m2 : jx_mk (jx_s0 X hA) 38 (.inr (12, [.int 0, .int 0, .null, .null, .int 0, .null, .null, .null, .null, .null, .null, .int 0, .null, .int 0, .int 0, .null, .null, .null, .null, .null, .null, .null, .null, .null, .null, .null, .null, .null, .null, .null, .null, .null, .null, .null, .null, .null, .null, .null])) = jx_s0 X (jstB hA) := jz_mk pA0
  rw [m2, show (jx_s0 X hA).1 = 149 from hA1]
  have zB : (jstB hA).2.2 0 = jx_no := jz_mk0 zA pA0
  have c2 : jx_cl (jx_s0 X (jstB hA)) 149 = some 12 := by
    unfold jx_cl
    rw [jz_ne (by decide)]
    unfold jstB
    rw [← hA1, jh_mk_eq]
  simp (disch := omega) only [s200_11i, s200_11r, s200_12, Option.some.injEq, exists_eq_left', exists_eq_left, List.cons_append, List.nil_append, List.length_nil, List.length_cons, Nat.reduceAdd, Nat.reduceMul, Nat.reduceSub, Nat.reduceLeDiff, true_and, and_true, ↓reduceIte, not_false_eq_true, not_true_eq_false, nI_add, pk_mul, jn_ltT, jn_ltF, jn_leT, jn_leF, jn_eqT, jn_eqF, jn_lt0, jn_ge0, jn_eq0T, jn_eq0F, jn_in, jn_cl, c2]
  obtain ⟨rB, zB2, pB0⟩ := jz_run (X := X) 100000 8 129 0 _ _ _ _ rfl zB (Nat.succ_pos _) eB
  refine ⟨100000, pB, [], jx_s0 X hB, jx_run_D (d + 8) rB |> fun w => by rwa [show 8 + (d + 8) = d + 16 by omega] at w, ?_⟩
  dsimp only
  rw [List.nil_append, s200_15, s200_16, s200_17]
  obtain ⟨hI, b1, b2⟩ := jkA_I kA
  have hR := jkR_R kR
  exact k _ ⟨_, _, _, _, hR.s0, hI.s0⟩ rfl b1 b2
/-- every script: the law says true, and it takes no more cells than this -/
theorem jwhole (hp : jPart) {n : Nat} {f : Nat → Int32} (hn : n < 2147483648) (k : ∀ h', h'.1 ≤ 182 + 3 * (n / 6) → h'.2.1 ≤ 200000 + 60 * (n / 6) → Q [.int (nI 1)] h') : jx_Go jxP (d + 17) 200 0 [.ref 0, jx_u, jx_u, jx_u] [] (jx_s0 (.inl (9, n, .inl f)) jst0) Q := by
  refine jstart (fun h' hZ h0 b1 b2 => ?_)
  refine jlaw (n := n) (f := f) hp hn (n / 6) 0 h' (by omega) (Nat.zero_le _) hZ (by unfold jx_sc; rw [h0]; rfl) (fun h2 c1 c2 => k h2 (by omega) (by omega))
end START4
