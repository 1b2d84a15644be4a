/-! ===== the class and the reference answer alike: new tasks ===== -/
section PAIR6
variable {d : Nat} {h : jxH}
theorem jTq.jw {R C : Nat} {f w f' w' : Nat → Int32} (e : jTq R C f w f' w') : ∀ r c, r < R → c < C → jbel (w' (5 * r + c)) 10 = true := e.2.2.2.2.2.2.2
theorem jp_table (hZ : jZ h) (x y : Int32) : jPr (d + 16) 86 [.ref 1, .int x, .int y, jx_u] 139 [.ref 149, .int x, .int y, jx_u, jx_u] h := by
  obtain ⟨F, A, G, g, hR, hI⟩ := hZ
  obtain ⟨a1, a2, r1, r5, c1, c5, a3, a4, a5, a6⟩ := hI.ia
  obtain ⟨n1, n2, n3, n4⟩ := hI.ih
  rw [← n2] at n3
  by_cases z : jr15 x = true ∧ jr15 y = true
  · obtain ⟨r, p1, p5, ex⟩ := jr15_t z.1
    obtain ⟨c, q1, q5, ey⟩ := jr15_t z.2
    subst ex; subst ey
    refine jPr.n (R' := r) (C' := c) hR hI (fun _ => nI (F 149 0 * F 149 1)) (fun pl wt => (∀ j, j < 25 → pl j = nI 0) ∧ ∀ j, j < 25 → wt j = nI 1) (fun pl wt => (∀ j, j < 25 → pl j = nI 0) ∧ ∀ j, j < 25 → wt j = nI 1) (fun pl wt pl' wt' e e' => ⟨⟨p1, p5, q1, q5, fun i j h1 h2 => ?_, fun i j h1 h2 => ?_, fun i j h1 h2 => ?_, fun i j h1 h2 => ?_⟩, rfl⟩) (fun Q k => ?_) (fun F1 A1 h1 Q eF eA hR1 k => ?_)
    · rw [e.1 _ (by omega), e'.1 _ (by omega)]
    · rw [e.2 _ (by omega), e'.2 _ (by omega)]
    · exact .inl (e'.1 _ (by omega))
    · rw [e'.2 _ (by omega)]; decide
    · refine tb_table_t hR n1 n3 (by omega) (by omega) p1 p5 q1 q5 (fun h1 F1 A1 pl wt e e' hN hR1 hD1 => ?_)
      rw [a1, a2]
      exact k h1 F1 A1 pl wt ⟨e, e'⟩ hN hR1 hD1
    · refine md_table_t hR1 (by rw [eF]; exact r5) (by rw [eF]; exact c5) (by rw [eF]; omega) p1 p5 q1 q5 (fun h2 pl wt e e' hR2 hD2 => ?_)
      rw [eF 0, eF 1]
      rw [eF 0, eF 1] at hR2
      exact k h2 _ _ ⟨fun o k ho => by rw [jup_ne (by omega), jup_ne (by omega), jup_ne (by omega), jup_ne (by omega)], by rw [jup_ne (by omega), jup_ne (by omega), jup_same], by rw [jup_ne (by omega), jup_same], by rw [jup_ne (by omega), jup_ne (by omega), jup_ne (by omega), jup_same], jup_same, fun a x1 x2 x3 => by rw [jua_ne x2, jua_ne x1, jua_ne x3], by rw [jua_ne (by omega), jua_ne (by omega), jua_same, eF 0, eF 1]⟩ (by rw [jua_ne (by omega), jua_same, jua_same]; exact ⟨e, e'⟩) hR2 hD2
  · exact jPr.f (x := -1) hR hI (fun Q k => tb_table_f hR z k) (fun F1 h1 Q e hR1 k => md_table_f hR1 z k)
theorem jp_put (hZ : jZ h) (x y v : Int32) : jPr (d + 16) 87 [.ref 1, .int x, .int y, .int v, jx_u, jx_u] 140 [.ref 149, .int x, .int y, .int v, jx_u] h := by
  obtain ⟨F, A, G, g, hR, hI⟩ := hZ
  obtain ⟨a1, a2, r1, r5, c1, c5, a3, a4, a5, a6⟩ := hI.ia
  obtain ⟨n1, n2, n3, n4⟩ := hI.ih
  rw [← n2] at n3
  by_cases z : (jbel x (F 149 0) = true ∧ jbel y (F 149 1) = true) ∧ jbel v 3 = true
  · obtain ⟨r, hr, ex⟩ := (jbel_iff (by omega)).mp z.1.1
    obtain ⟨c, hc, ey⟩ := (jbel_iff (by omega)).mp z.1.2
    obtain ⟨u, hu, ev⟩ := (jbel_iff (by omega)).mp z.2
    subst ex; subst ey; subst ev
    refine jPr.n (R' := F 149 0) (C' := F 149 1) hR hI (fun _ => A 150 (5 * r + c)) (fun pl wt => pl = upd (A 3) (5 * r + c) (nI u) ∧ wt = A 4) (fun pl wt => pl = upd (A 150) (5 * r + c) (nI u) ∧ wt = A 151) (fun pl wt pl' wt' e e' => ⟨⟨r1, r5, c1, c5, fun i j h1 h2 => ?_, ?_, fun i j h1 h2 => ?_, ?_⟩, rfl⟩) (fun Q k => ?_) (fun F1 A1 h1 Q eF eA hR1 k => ?_)
    · rw [e.1, e'.1]
      by_cases q : 5 * i + j = 5 * r + c
      · rw [q, jupd_same, jupd_same]
      · rw [jupd_ne q, jupd_ne q]; exact a3 i j h1 h2
    · rw [e.2, e'.2]; exact a4
    · rw [e'.1]
      by_cases q : 5 * i + j = 5 * r + c
      · rw [q, jupd_same]
        rcases (show u = 0 ∨ u = 1 ∨ u = 2 by omega) with w | w | w <;> subst w
        · exact .inl rfl
        · exact .inr (.inl rfl)
        · exact .inr (.inr rfl)
      · rw [jupd_ne q]; exact a5 i j h1 h2
    · rw [e'.2]; exact a6
    · refine tb_put_t hR n1 n3 (by omega) (by omega) (by omega) (by omega) (by omega) (fun h1 F1 A1 hN hR1 hD1 => ?_)
      rw [a1, a2] at hN
      rw [a3 r c hr hc]
      exact k h1 F1 A1 _ _ ⟨rfl, rfl⟩ hN hR1 hD1
    · refine md_put_t hR1 (by rw [eF]; exact r5) (by rw [eF]; exact c5) (by rw [eF]; omega) (by rw [eF]; exact hr) (by rw [eF]; exact hc) (show u ≤ 2 by omega) (fun h2 hR2 hD2 => ?_)
      rw [eA 150 (by omega)]
      have PM : upd (A1 150) (5 * r + c) (nI u) = upd (A 150) (5 * r + c) (nI u) ∧ A 151 = A 151 := ⟨by rw [eA 150 (by omega)], rfl⟩
      exact k h2 _ _ ⟨fun o k ho => by rw [jup_ne (by omega), jup_ne (by omega)], by rw [jup_ne (by omega), jup_ne (by omega), eF], by rw [jup_ne (by omega), jup_ne (by omega), eF], by rw [jup_ne (by omega), jup_same], jup_same, fun a x1 x2 x3 => by rw [jua_ne x1, jua_ne x3], by rw [jua_ne (by omega), jua_same]⟩ (by rw [jua_same, jua_ne (by omega), jua_ne (by omega), eA 151 (by omega)]; exact PM) hR2 hD2
  · exact jPr.f (x := -1) hR hI (fun Q k => tb_put_f hR (by rw [a1, a2]; exact z) k) (fun F1 h1 Q e hR1 k => md_put_f hR1 (by rw [e, e]; exact z) k)
theorem jrule_le {q i j : Nat} : jrule q i j ≤ 2 := by
  unfold jrule
  repeat' split
  all_goals omega
theorem jp_rule (hZ : jZ h) (x : Int32) : jPr (d + 16) 90 [.ref 1, .int x] 143 [.ref 149, .int x, jx_u, jx_u, jx_u, jx_u] h := by
  obtain ⟨F, A, G, g, hR, hI⟩ := hZ
  obtain ⟨a1, a2, r1, r5, c1, c5, a3, a4, a5, a6⟩ := hI.ia
  obtain ⟨n1, n2, n3, n4⟩ := hI.ih
  rw [← n2] at n3
  by_cases z : jbel x 5 = true
  · obtain ⟨u, hu, ev⟩ := (jbel_iff (by omega)).mp z
    subst ev
    refine jPr.n (R' := F 149 0) (C' := F 149 1) hR hI (fun pl => nI (jcnt pl (F 149 0) (F 149 1) (nI 1))) (fun pl wt => (∀ i j, i < F 149 0 → j < F 149 1 → pl (5 * i + j) = nI (jrule u i j)) ∧ wt = A 4) (fun pl wt => (∀ i j, i < F 149 0 → j < F 149 1 → pl (5 * i + j) = nI (jrule u i j)) ∧ wt = A 151) (fun pl wt pl' wt' e e' => ?_) (fun Q k => ?_) (fun F1 A1 h1 Q eF eA hR1 k => ?_)
    · have ag : jAg pl pl' (F 149 0) (F 149 1) := fun i j h1 h2 => by rw [e.1 i j h1 h2, e'.1 i j h1 h2]
      refine ⟨⟨r1, r5, c1, c5, ag, ?_, fun i j h1 h2 => ?_, ?_⟩, by rw [ag.cnt]⟩
      · rw [e.2, e'.2]; exact a4
      · rw [e'.1 i j h1 h2]
        have := @jrule_le u i j
        rcases (show jrule u i j = 0 ∨ jrule u i j = 1 ∨ jrule u i j = 2 by omega) with w | w | w <;> rw [w]
        · exact .inl rfl
        · exact .inr (.inl rfl)
        · exact .inr (.inr rfl)
      · rw [e'.2]; exact a6
    · refine tb_rule_t hR n1 n3 (by omega) (by omega) (show u ≤ 4 by omega) (fun h1 F1 A1 pl e hN hR1 hD1 => ?_)
      rw [a1, a2] at hN e ⊢
      exact k h1 F1 A1 _ _ ⟨e, rfl⟩ hN hR1 hD1
    · refine md_rule_t hR1 (by rw [eF]; exact r5) (by rw [eF]; exact c5) (by rw [eF]; omega) (show u ≤ 4 by omega) (fun h2 pl e hR2 hD2 => ?_)
      rw [eF 0, eF 1] at e ⊢
      have PM : (∀ i j, i < F 149 0 → j < F 149 1 → pl (5 * i + j) = nI (jrule u i j)) ∧ A 151 = A 151 := ⟨e, rfl⟩
      have K := k h2 (jup (jup F1 149 4 (if F1 149 4 = 30 then 30 else F1 149 4 + 1)) 149 14 0) (jua (jua A1 152 (jkt (A1 152) (F1 149 4) (F1 149 0) (F1 149 1) (A1 150) (A1 151))) 150 pl)
      rw [jua_same] at K
      exact K ⟨fun o k ho => by rw [jup_ne (by omega), jup_ne (by omega)], by rw [jup_ne (by omega), jup_ne (by omega), eF], by rw [jup_ne (by omega), jup_ne (by omega), eF], by rw [jup_ne (by omega), jup_same], jup_same, fun a x1 x2 x3 => by rw [jua_ne x1, jua_ne x3], by rw [jua_ne (by omega), jua_same]⟩ (by rw [jua_ne (by omega), jua_ne (by omega), eA 151 (by omega)]; exact PM) hR2 hD2
  · exact jPr.f (x := -1) hR hI (fun Q k => tb_rule_f hR z k) (fun F1 h1 Q e hR1 k => md_rule_f hR1 z k)
theorem jp_turnAnswers (hZ : jZ h) : jPr (d + 16) 92 [.ref 1] 145 [.ref 149, jx_u] h := by
  obtain ⟨F, A, G, g, hR, hI⟩ := hZ
  obtain ⟨a1, a2, r1, r5, c1, c5, a3, a4, a5, a6⟩ := hI.ia
  obtain ⟨n1, n2, n3, n4⟩ := hI.ih
  rw [← n2] at n3
  refine jPr.n (R' := F 149 0) (C' := F 149 1) hR hI (fun pl => nI (jcnt pl (F 149 0) (F 149 1) (nI 1))) (fun pl wt => (∀ i j, i < F 149 0 → j < F 149 1 → pl (5 * i + j) = if A 3 (5 * i + j) = nI 2 then nI 2 else nI 1 - A 3 (5 * i + j)) ∧ wt = A 4) (fun pl wt => (∀ j, j < 25 → pl j = if A 150 j = nI 2 then nI 2 else nI 1 - A 150 j) ∧ wt = A 151) (fun pl wt pl' wt' e e' => ?_) (fun Q k => ?_) (fun F1 A1 h1 Q eF eA hR1 k => ?_)
  · have ag : jAg pl pl' (F 149 0) (F 149 1) := fun i j h1 h2 => by rw [e.1 i j h1 h2, e'.1 _ (by omega), a3 i j h1 h2]
    refine ⟨⟨r1, r5, c1, c5, ag, ?_, fun i j h1 h2 => ?_, ?_⟩, by rw [ag.cnt]⟩
    · rw [e.2, e'.2]; exact a4
    · rw [e'.1 _ (by omega)]
      rcases a5 i j h1 h2 with w | w | w <;> rw [w]
      · exact .inr (.inl (by decide +kernel))
      · exact .inl (by decide +kernel)
      · exact .inr (.inr (by decide +kernel))
    · rw [e'.2]; exact a6
  · refine tb_turnAnswers hR n1 n3 (by omega) (by omega) (fun h1 F1 A1 pl e hN hR1 hD1 => ?_)
    rw [a1, a2] at hN e ⊢
    exact k h1 F1 A1 _ _ ⟨e, rfl⟩ hN hR1 hD1
  · refine md_turnAnswers hR1 (by rw [eF]; exact r5) (by rw [eF]; exact c5) (by rw [eF]; omega) (fun h2 pl e hR2 hD2 => ?_)
    rw [eA 150 (by omega)] at e
    rw [eF 0, eF 1]
    have PM : (∀ j, j < 25 → pl j = if A 150 j = nI 2 then nI 2 else nI 1 - A 150 j) ∧ A 151 = A 151 := ⟨e, rfl⟩
    have K := k h2 (jup (jup F1 149 4 (if F1 149 4 = 30 then 30 else F1 149 4 + 1)) 149 14 0) (jua (jua A1 152 (jkt (A1 152) (F1 149 4) (F1 149 0) (F1 149 1) (A1 150) (A1 151))) 150 pl)
    rw [jua_same] at K
    exact K ⟨fun o k ho => by rw [jup_ne (by omega), jup_ne (by omega)], by rw [jup_ne (by omega), jup_ne (by omega), eF], by rw [jup_ne (by omega), jup_ne (by omega), eF], by rw [jup_ne (by omega), jup_same], jup_same, fun a x1 x2 x3 => by rw [jua_ne x1, jua_ne x3], by rw [jua_ne (by omega), jua_same]⟩ (by rw [jua_ne (by omega), jua_ne (by omega), eA 151 (by omega)]; exact PM) hR2 hD2
theorem jp_turn (hZ : jZ h) : jPr (d + 16) 91 [.ref 1] 144 [.ref 149, jx_u, jx_u, jx_u] h := by
  obtain ⟨F, A, G, g, hR, hI⟩ := hZ
  obtain ⟨a1, a2, r1, r5, c1, c5, a3, a4, a5, a6⟩ := hI.ia
  obtain ⟨n1, n2, n3, n4⟩ := hI.ih
  rw [← n2] at n3
  refine jPr.n (R' := F 149 1) (C' := F 149 0) hR hI (fun _ => nI (F 149 1)) (fun pl wt => (∀ i j, i < 5 → j < 5 → pl (5 * i + j) = A 3 (5 * j + i)) ∧ ∀ i j, i < 5 → j < 5 → wt (5 * i + j) = A 4 (5 * j + i)) (fun pl wt => (∀ i j, i < 5 → j < 5 → pl (5 * i + j) = A 150 (5 * j + i)) ∧ ∀ i j, i < 5 → j < 5 → wt (5 * i + j) = A 151 (5 * j + i)) (fun pl wt pl' wt' e e' => ⟨⟨c1, c5, r1, r5, fun i j h1 h2 => ?_, fun i j h1 h2 => ?_, fun i j h1 h2 => ?_, fun i j h1 h2 => ?_⟩, rfl⟩) (fun Q k => ?_) (fun F1 A1 h1 Q eF eA hR1 k => ?_)
  · rw [e.1 i j (by omega) (by omega), e'.1 i j (by omega) (by omega)]; exact a3 j i h2 h1
  · rw [e.2 i j (by omega) (by omega), e'.2 i j (by omega) (by omega)]; exact a4 j i h2 h1
  · rw [e'.1 i j (by omega) (by omega)]; exact a5 j i h2 h1
  · rw [e'.2 i j (by omega) (by omega)]; exact a6 j i h2 h1
  · refine tb_turn hR n1 n3 (by omega) (by omega) (fun h1 F1 A1 pl wt e e' hN hR1 hD1 => ?_)
    rw [a1, a2] at hN
    rw [a2]
    exact k h1 F1 A1 pl wt ⟨e, e'⟩ hN hR1 hD1
  · refine md_turn hR1 (by rw [eF]; exact r5) (by rw [eF]; exact c5) (by rw [eF]; omega) (fun h2 pl wt e e' hR2 hD2 => ?_)
    rw [eA 150 (by omega)] at e
    rw [eA 151 (by omega)] at e'
    rw [eF 1]
    exact k h2 _ _ ⟨fun o k ho => by rw [jup_ne (by omega), jup_ne (by omega), jup_ne (by omega), jup_ne (by omega)], by rw [jup_ne (by omega), jup_ne (by omega), jup_same, eF], by rw [jup_ne (by omega), jup_same, eF], by rw [jup_ne (by omega), jup_ne (by omega), jup_ne (by omega), jup_same], jup_same, fun a x1 x2 x3 => by rw [jua_ne x2, jua_ne x1, jua_ne x3], by rw [jua_ne (by omega), jua_ne (by omega), jua_same]⟩ (by rw [jua_ne (by omega), jua_same, jua_same]; exact ⟨e, e'⟩) hR2 hD2
theorem jlyA_congr {B Z : Nat → Nat} {f f' : Nat → Nat → Int32} {n : Nat} {s : Int32} (e : ∀ s i, s < 4 → i < Z s → jbel (f s i) 3 = jbel (f' s i) 3) : jlyA B Z f n s = jlyA B Z f' n s := by
  unfold jlyA
  by_cases z : jbel s 4 = true
  · obtain ⟨s', hs, es⟩ := (jbel_iff (by omega)).mp z
    subst es
    rw [jn_cl (by omega), jall_congr (fun i hi => e s' i hs hi)]
  · rw [if_neg z, if_neg z]
theorem jp_lay (hZ : jZ h) (s : Int32) : jPr (d + 16) 97 [.ref 1, .int s, jx_u] 153 [.ref 149, .int s, jx_u] h := by
  obtain ⟨F, A, G, g, hR, hI⟩ := hZ
  obtain ⟨a1, a2, r1, r5, c1, c5, a3, a4, a5, a6⟩ := hI.ia
  obtain ⟨n1, n2, n3, n4⟩ := hI.ih
  rw [← n2] at n3
  have hB : ∀ s, s < 4 → F (117 + 2 * s) 0 ≤ 32 ∧ F (117 + 2 * s) 1 ≤ 30 := fun s hs => by
    obtain ⟨i1, i2, i3, i4, i5⟩ := hI.it s hs
    exact ⟨by omega, i4⟩
  have hB2 : ∀ s, s < 4 → A 155 s = nI ((fun s => F (117 + 2 * s) 0) s) ∧ A 156 s = nI ((fun s => F (117 + 2 * s) 1) s) ∧ (fun s => F (117 + 2 * s) 0) s ≤ 32 ∧ (fun s => F (117 + 2 * s) 1) s ≤ 30 := fun s hs => by
    obtain ⟨i1, i2, i3, i4, i5⟩ := hI.it s hs
    exact ⟨i1, i2, by dsimp only; omega, i4⟩
  have ec : jlyA (fun s => F (117 + 2 * s) 0) (fun s => F (117 + 2 * s) 1) (fun s i => A (118 + 2 * s) i) (F 149 0 * F 149 1) s = jlyA (fun s => F (117 + 2 * s) 0) (fun s => F (117 + 2 * s) 1) (fun s i => A 157 (30 * s + i)) (F 149 0 * F 149 1) s := jlyA_congr (fun s i hs hi => by
    obtain ⟨i1, i2, i3, i4, i5⟩ := hI.it s hs
    exact (i5 i (by omega)).1)
  cases e : jlyA (fun s => F (117 + 2 * s) 0) (fun s => F (117 + 2 * s) 1) (fun s i => A 157 (30 * s + i)) (F 149 0 * F 149 1) s with
  | some w =>
    rw [e] at ec
    exact jPr.f (x := w) hR hI (fun Q k => tb_lay_f hR (by omega) (by omega) hB (by rw [a1, a2]; exact ec) k) (fun F1 h1 Q eF hR1 k => md_lay_f hR1 (by rw [eF]; exact r5) (by rw [eF]; exact c5) hB2 (by rw [eF, eF]; exact e) k)
  | none =>
    unfold jlyA at e
    by_cases z : jbel s 4 = true
    · rw [if_pos z] at e
      obtain ⟨s', hs, es⟩ := (jbel_iff (by omega)).mp z
      subst es
      rw [jn_cl (by omega)] at e
      dsimp only at e
      obtain ⟨i1, i2, i3, i4, i5⟩ := hI.it s' hs
      by_cases z1 : F (117 + 2 * s') 0 = 0
      · rw [if_pos z1] at e; cases e
      · rw [if_neg z1] at e
        by_cases z2 : F 149 0 * F 149 1 < F (117 + 2 * s') 1
        · rw [if_pos z2] at e; cases e
        · rw [if_neg z2] at e
          by_cases z3 : jall (F (117 + 2 * s') 1) (fun i => jbel (A 157 (30 * s' + i)) 3) = true
          · have vv := jall_iff.mp z3
            clear z e z3 ec
            refine jPr.n (R' := F 149 0) (C' := F 149 1) hR hI (fun _ => nI (F (117 + 2 * s') 1)) (fun pl wt => (∀ i j, i < F 149 0 → j < F 149 1 → pl (5 * i + j) = if i * F 149 1 + j < F (117 + 2 * s') 1 then A (118 + 2 * s') (i * F 149 1 + j) else nI 2) ∧ wt = A 4) (fun pl wt => (∀ i j, i < F 149 0 → j < F 149 1 → pl (5 * i + j) = if i * F 149 1 + j < F (117 + 2 * s') 1 then A 157 (30 * s' + (i * F 149 1 + j)) else nI 2) ∧ wt = A 151) (fun pl wt pl' wt' e e' => ⟨⟨r1, r5, c1, c5, fun i j h1 h2 => ?_, ?_, fun i j h1 h2 => ?_, ?_⟩, rfl⟩) (fun Q k => ?_) (fun F1 A1 h1 Q eF eA hR1 k => ?_)
            · rw [e.1 i j h1 h2, e'.1 i j h1 h2]
              by_cases q : i * F 149 1 + j < F (117 + 2 * s') 1
              · rw [if_pos q, if_pos q]
                exact (i5 _ (by omega)).2 (vv _ q)
              · rw [if_neg q, if_neg q]
            · rw [e.2, e'.2]; exact a4
            · rw [e'.1 i j h1 h2]
              by_cases q : i * F 149 1 + j < F (117 + 2 * s') 1
              · rw [if_pos q]
                obtain ⟨u, hu, eu⟩ := (jbel_iff (by omega)).mp (vv _ q)
                rw [eu]
                rcases (show u = 0 ∨ u = 1 ∨ u = 2 by omega) with w | w | w <;> subst w
                · exact .inl rfl
                · exact .inr (.inl rfl)
                · exact .inr (.inr rfl)
              · rw [if_neg q]; exact .inr (.inr rfl)
            · rw [e'.2]; exact a6
            · refine tb_lay_t hR n1 n3 (by omega) (by omega) hs (by omega) (by omega) (by rw [a1, a2]; omega) (fun i hi => ?_) (fun h1 F1 A1 pl e hN hR1 hD1 => ?_)
              · rw [(i5 i (by omega)).1]; exact vv i hi
              · rw [a1, a2] at hN e
                exact k h1 F1 A1 _ _ ⟨e, rfl⟩ hN hR1 hD1
            · refine md_lay_t (b := F (117 + 2 * s') 0) (z := F (117 + 2 * s') 1) hR1 (by rw [eF]; exact r5) (by rw [eF]; exact c5) (by rw [eF]; exact c1) (by rw [eF]; omega) hs (by rw [eA 155 (by omega)]; exact i1) (by rw [eA 156 (by omega)]; exact i2) (by omega) (by omega) (by rw [eF, eF]; omega) (fun i hi => ?_) (fun h2 pl e hR2 hD2 => ?_)
              · obtain ⟨u, hu, eu⟩ := (jbel_iff (by omega)).mp (vv i hi)
                exact ⟨u, by omega, by rw [eA 157 (by omega)]; exact eu⟩
              · rw [eF 0, eF 1, eA 157 (by omega)] at e
                have PM : (∀ i j, i < F 149 0 → j < F 149 1 → pl (5 * i + j) = if i * F 149 1 + j < F (117 + 2 * s') 1 then A 157 (30 * s' + (i * F 149 1 + j)) else nI 2) ∧ A 151 = A 151 := ⟨e, rfl⟩
                exact k h2 _ _ ⟨fun o k ho => by rw [jup_ne (by omega), jup_ne (by omega)], by rw [jup_ne (by omega), jup_ne (by omega), eF], by rw [jup_ne (by omega), jup_ne (by omega), eF], by rw [jup_ne (by omega), jup_same], jup_same, fun a x1 x2 x3 => by rw [jua_ne x1, jua_ne x3], by rw [jua_ne (by omega), jua_same]⟩ (by rw [jua_same, jua_ne (by omega), jua_ne (by omega), eA 151 (by omega)]; exact PM) hR2 hD2
          · rw [if_neg z3] at e; cases e
    · rw [if_neg z] at e; cases e
theorem jp_bring (hZ : jZ h) (s : Int32) : jPr (d + 16) 115 [.ref 1, .int s] 190 [.ref 149, .int s] h := by
  obtain ⟨F, A, G, g, hR, hI⟩ := hZ
  obtain ⟨a1, a2, r1, r5, c1, c5, a3, a4, a5, a6⟩ := hI.ia
  obtain ⟨n1, n2, n3, n4⟩ := hI.ih
  rw [← n2] at n3
  obtain ⟨sl, _⟩ := hI.is
  obtain ⟨K, hK⟩ : ∃ K : Nat → Option Nat, ∀ s, s < 4 → A 154 s = jko (K s) ∧ (G s).isSome = (K s).isSome := by
    refine ⟨fun s => (G s).bind fun _ => some (A 154 s).toNatClampNeg, fun s hs => ?_⟩
    rcases sl s hs with ⟨q1, q2⟩ | ⟨o, q1, q2, q3, R, C, f, w, q4, q5, q6, q7, q8⟩
    · dsimp only
      rw [q1, q2]
      exact ⟨rfl, rfl⟩
    · dsimp only
      have k4 : jkind f R C < 4 := by unfold jkind; split; omega; split <;> omega
      rw [q1, q8, jn_cl (by omega)]
      exact ⟨rfl, rfl⟩
  cases e : jbrA K s with
  | some x => exact jPr.f (x := x) hR hI (fun Q k => tb_bring_f hR (fun s hs => (hK s hs).2) e k) (fun F1 h1 Q eF hR1 k => md_bring_f hR1 (fun s hs => (hK s hs).1) e k)
  | none =>
    unfold jbrA at e
    by_cases z : jbel s 4 = true
    · rw [if_pos z] at e
      obtain ⟨s', hs, es⟩ := (jbel_iff (by omega)).mp z
      subst es
      rw [jn_cl (by omega), ← (hK s' hs).2] at e
      rcases sl s' hs with ⟨q1, q2⟩ | ⟨o, q1, q2, q3, R, C, f, w, q4, q5, q6, q7, q8⟩
      · rw [q1] at e; cases e
      · obtain ⟨t1, t2, t3, t4, t5, t6, t7, t8⟩ := q7
        have k4 : jkind f R C < 4 := by unfold jkind; split; omega; split <;> omega
        refine jPr.n (R' := R) (C' := C) hR hI (fun _ => nI (R * C)) (fun pl wt => ∀ j, j < 25 → pl j = f j ∧ wt j = w j) (fun pl wt => ∀ j, j < 25 → pl j = A 153 (52 * s' + 2 + j) ∧ wt j = A 153 (52 * s' + 27 + j)) (fun pl wt pl' wt' e e' => ⟨⟨t1, t2, t3, t4, fun i j h1 h2 => ?_, fun i j h1 h2 => ?_, fun i j h1 h2 => ?_, fun i j h1 h2 => ?_⟩, rfl⟩) (fun Q k => ?_) (fun F1 A1 h1 Q eF eA hR1 k => ?_)
        · rw [(e _ (by omega)).1, (e' _ (by omega)).1]; exact t5 i j h1 h2
        · rw [(e _ (by omega)).2, (e' _ (by omega)).2]; exact t6 i j h1 h2
        · rw [(e' _ (by omega)).1]; exact t7 i j h1 h2
        · rw [(e' _ (by omega)).2]; exact t8 i j h1 h2
        · exact tb_bring_t hR n1 n3 hs q1 q2 q4 t2 t4 (fun h1 F1 A1 pl wt e hN hR1 hD1 => k h1 F1 A1 pl wt e hN hR1 hD1)
        · refine md_bring_t (kd := jkind f R C) (R := R) (C := C) hR1 (by rw [eF]; exact r5) (by rw [eF]; exact c5) (by rw [eF]; omega) hs (by rw [eA 154 (by omega)]; exact q8) (by omega) (by rw [eA 153 (by omega)]; exact q5) (by rw [eA 153 (by omega)]; exact q6) (fun h2 hR2 hD2 => ?_)
          refine k h2 _ _ ⟨fun o k ho => by rw [jup_ne (by omega), jup_ne (by omega), jup_ne (by omega), jup_ne (by omega)], by rw [jup_ne (by omega), jup_ne (by omega), jup_same], by rw [jup_ne (by omega), jup_same], by rw [jup_ne (by omega), jup_ne (by omega), jup_ne (by omega), jup_same], jup_same, fun a x1 x2 x3 => by rw [jua_ne x2, jua_ne x1, jua_ne x3], by rw [jua_ne (by omega), jua_ne (by omega), jua_same]⟩ (fun j hj => ?_) hR2 hD2
          rw [jua_ne (by omega), jua_same, jua_same, eA 153 (by omega)]
          unfold jld
          rw [if_pos hj, if_pos hj]
          exact ⟨rfl, rfl⟩
    · rw [if_neg z] at e; cases e
end PAIR6
