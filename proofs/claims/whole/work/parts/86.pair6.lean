/-! ===== the class and the reference answer alike: new tasks ===== -/
section PAIR6
variable {d : Nat} {h : jxH}
theorem jTq.jw {R C : Nat} {f w f' w' : Nat → Int32} (e : jTq R C f w f' w') : ∀ r c, r < R → c < C → jbel (w' (5 * r + c)) 10 = true := e.2.2.2.2.2.2.2
theorem jp_table (hZ : jZ h) (x y : Int32) : jPr (d + 16) 86 [.ref 1, .int x, .int y, jx_u] 139 [.ref 149, .int x, .int y, jx_u, jx_u] h := by
  obtain ⟨F, A, G, g, hR, hI⟩ := hZ
  obtain ⟨a1, a2, r1, r5, c1, c5, a3, a4, a5, a6⟩ := hI.ia
  obtain ⟨n1, n2, n3, n4⟩ := hI.ih
  rw [← n2] at n3
  by_cases z : jr15 x = true ∧ jr15 y = true
  · obtain ⟨r, p1, p5, ex⟩ := jr15_t z.1
    obtain ⟨c, q1, q5, ey⟩ := jr15_t z.2
    subst ex; subst ey
    refine jPr.n (R' := r) (C' := c) hR hI (fun _ => nI (F 149 0 * F 149 1)) (fun pl wt => (∀ j, j < 25 → pl j = nI 0) ∧ ∀ j, j < 25 → wt j = nI 1) (fun pl wt => (∀ j, j < 25 → pl j = nI 0) ∧ ∀ j, j < 25 → wt j = nI 1) (fun pl wt pl' wt' e e' => ⟨⟨p1, p5, q1, q5, fun i j h1 h2 => ?_, fun i j h1 h2 => ?_, fun i j h1 h2 => ?_, fun i j h1 h2 => ?_⟩, rfl⟩) (fun Q k => ?_) (fun F1 A1 h1 Q eF eA hR1 k => ?_)
    · rw [e.1 _ (by omega), e'.1 _ (by omega)]
    · rw [e.2 _ (by omega), e'.2 _ (by omega)]
    · exact .inl (e'.1 _ (by omega))
    · rw [e'.2 _ (by omega)]; decide
    · refine tb_table_t hR n1 n3 (by omega) (by omega) p1 p5 q1 q5 (fun h1 F1 A1 pl wt e e' hN hR1 hD1 => ?_)
      rw [a1, a2]
      exact k h1 F1 A1 pl wt ⟨e, e'⟩ hN hR1 hD1
    · refine md_table_t hR1 (by rw [eF]; exact r5) (by rw [eF]; exact c5) (by rw [eF]; omega) p1 p5 q1 q5 (fun h2 pl wt e e' hR2 hD2 => ?_)
      rw [eF 0, eF 1]
      rw [eF 0, eF 1] at hR2
      exact k h2 _ _ ⟨fun o k ho => by rw [jup_ne (by omega), jup_ne (by omega), jup_ne (by omega), jup_ne (by omega)], by rw [jup_ne (by omega), jup_ne (by omega), jup_same], by rw [jup_ne (by omega), jup_same], by rw [jup_ne (by omega), jup_ne (by omega), jup_ne (by omega), jup_same], jup_same, fun a x1 x2 x3 => by rw [jua_ne x2, jua_ne x1, jua_ne x3], by rw [jua_ne (by omega), jua_ne (by omega), jua_same, eF 0, eF 1]⟩ (by rw [jua_ne (by omega), jua_same, jua_same]; exact ⟨e, e'⟩) hR2 hD2
  · exact jPr.f (x := -1) hR hI (fun Q k => tb_table_f hR z k) (fun F1 h1 Q e hR1 k => md_table_f hR1 z k)
theorem jp_put (hZ : jZ h) (x y v : Int32) : jPr (d + 16) 87 [.ref 1, .int x, .int y, .int v, jx_u, jx_u] 140 [.ref 149, .int x, .int y, .int v, jx_u] h := by
  obtain ⟨F, A, G, g, hR, hI⟩ := hZ
  obtain ⟨a1, a2, r1, r5, c1, c5, a3, a4, a5, a6⟩ := hI.ia
  obtain ⟨n1, n2, n3, n4⟩ := hI.ih
  rw [← n2] at n3
  by_cases z : (jbel x (F 149 0) = true ∧ jbel y (F 149 1) = true) ∧ jbel v 3 = true
  · obtain ⟨r, hr, ex⟩ := (jbel_iff (by omega)).mp z.1.1
    obtain ⟨c, hc, ey⟩ := (jbel_iff (by omega)).mp z.1.2
    obtain ⟨u, hu, ev⟩ := (jbel_iff (by omega)).mp z.2
    subst ex; subst ey; subst ev
    refine jPr.n (R' := F 149 0) (C' := F 149 1) hR hI (fun _ => A 150 (5 * r + c)) (fun pl wt => pl = upd (A 3) (5 * r + c) (nI u) ∧ wt = A 4) (fun pl wt => pl = upd (A 150) (5 * r + c) (nI u) ∧ wt = A 151) (fun pl wt pl' wt' e e' => ⟨⟨r1, r5, c1, c5, fun i j h1 h2 => ?_, ?_, fun i j h1 h2 => ?_, ?_⟩, rfl⟩) (fun Q k => ?_) (fun F1 A1 h1 Q eF eA hR1 k => ?_)
    · rw [e.1, e'.1]
      by_cases q : 5 * i + j = 5 * r + c
      · rw [q, jupd_same, jupd_same]
      · rw [jupd_ne q, jupd_ne q]; exact a3 i j h1 h2
    · rw [e.2, e'.2]; exact a4
    · rw [e'.1]
      by_cases q : 5 * i + j = 5 * r + c
      · rw [q, jupd_same]
        rcases (show u = 0 ∨ u = 1 ∨ u = 2 by omega) with w | w | w <;> subst w
        · exact .inl rfl
        · exact .inr (.inl rfl)
        · exact .inr (.inr rfl)
      · rw [jupd_ne q]; exact a5 i j h1 h2
    · rw [e'.2]; exact a6
    · refine tb_put_t hR n1 n3 (by omega) (by omega) (by omega) (by omega) (by omega) (fun h1 F1 A1 hN hR1 hD1 => ?_)
      rw [a1, a2] at hN
      rw [a3 r c hr hc]
      exact k h1 F1 A1 _ _ ⟨rfl, rfl⟩ hN hR1 hD1
    · refine md_put_t hR1 (by rw [eF]; exact r5) (by rw [eF]; exact c5) (by rw [eF]; omega) (by rw [eF]; exact hr) (by rw [eF]; exact hc) (show u ≤ 2 by omega) (fun h2 hR2 hD2 => ?_)
      rw [eA 150 (by omega)]
      have PM : upd (A1 150) (5 * r + c) (nI u) = upd (A 150) (5 * r + c) (nI u) ∧ A 151 = A 151 := ⟨by rw [eA 150 (by omega)], rfl⟩
      exact k h2 _ _ ⟨fun o k ho => by rw [jup_ne (by omega), jup_ne (by omega)], by rw [jup_ne (by omega), jup_ne (by omega), eF], by rw [jup_ne (by omega), jup_ne (by omega), eF], by rw [jup_ne (by omega), jup_same], jup_same, fun a x1 x2 x3 => by rw [jua_ne x1, jua_ne x3], by rw [jua_ne (by omega), jua_same]⟩ (by rw [jua_same, jua_ne (by omega), jua_ne (by omega), eA 151 (by omega)]; exact PM) hR2 hD2
  · exact jPr.f (x := -1) hR hI (fun Q k => tb_put_f hR (by rw [a1, a2]; exact z) k) (fun F1 h1 Q e hR1 k => md_put_f hR1 (by rw [e, e]; exact z) k)
theorem jrule_le {q i j : Nat} : jrule q i j ≤ 2 := by
  sorry
theorem jp_rule (hZ : jZ h) (x : Int32) : jPr (d + 16) 90 [.ref 1, .int x] 143 [.ref 149, .int x, jx_u, jx_u, jx_u, jx_u] h := by
  obtain ⟨F, A, G, g, hR, hI⟩ := hZ
  obtain ⟨a1, a2, r1, r5, c1, c5, a3, a4, a5, a6⟩ := hI.ia
  obtain ⟨n1, n2, n3, n4⟩ := hI.ih
  rw [← n2] at n3
  by_cases z : jbel x 5 = true
  · obtain ⟨u, hu, ev⟩ := (jbel_iff (by omega)).mp z
    subst ev
    refine jPr.n (R' := F 149 0) (C' := F 149 1) hR hI (fun pl => nI (jcnt pl (F 149 0) (F 149 1) (nI 1))) (fun pl wt => (∀ i j, i < F 149 0 → j < F 149 1 → pl (5 * i + j) = nI (jrule u i j)) ∧ wt = A 4) (fun pl wt => (∀ i j, i < F 149 0 → j < F 149 1 → pl (5 * i + j) = nI (jrule u i j)) ∧ wt = A 151) (fun pl wt pl' wt' e e' => ?_) (fun Q k => ?_) (fun F1 A1 h1 Q eF eA hR1 k => ?_)
    · have ag : jAg pl pl' (F 149 0) (F 149 1) := fun i j h1 h2 => by rw [e.1 i j h1 h2, e'.1 i j h1 h2]
      refine ⟨⟨r1, r5, c1, c5, ag, ?_, fun i j h1 h2 => ?_, ?_⟩, by dsimp only; rw [ag.cnt]⟩
      · rw [e.2, e'.2]; exact a4
      · rw [e'.1 i j h1 h2]
        have := @jrule_le u i j
        rcases (show jrule u i j = 0 ∨ jrule u i j = 1 ∨ jrule u i j = 2 by omega) with w | w | w <;> rw [w]
        · exact .inl rfl
        · exact .inr (.inl rfl)
        · exact .inr (.inr rfl)
      · rw [e'.2]; exact a6
    · refine tb_rule_t hR n1 n3 (by omega) (by omega) (show u ≤ 4 by omega) (fun h1 F1 A1 pl e hN hR1 hD1 => ?_)
      rw [a1, a2] at hN e ⊢
      exact k h1 F1 A1 _ _ ⟨e, rfl⟩ hN hR1 hD1
    · refine md_rule_t hR1 (by rw [eF]; exact r5) (by rw [eF]; exact c5) (by rw [eF]; omega) (show u ≤ 4 by omega) (fun h2 pl e hR2 hD2 => ?_)
      rw [eF 0, eF 1] at e ⊢
      have PM : (∀ i j, i < F 149 0 → j < F 149 1 → pl (5 * i + j) = nI (jrule u i j)) ∧ A 151 = A 151 := ⟨e, rfl⟩
      have K := k h2 (jup (jup F1 149 4 (if F1 149 4 = 30 then 30 else F1 149 4 + 1)) 149 14 0) (jua (jua A1 152 (jkt (A1 152) (F1 149 4) (F1 149 0) (F1 149 1) (A1 150) (A1 151))) 150 pl)
      rw [jua_same] at K
      exact K ⟨fun o k ho => by rw [jup_ne (by omega), jup_ne (by omega)], by rw [jup_ne (by omega), jup_ne (by omega), eF], by rw [jup_ne (by omega), jup_ne (by omega), eF], by rw [jup_ne (by omega), jup_same], jup_same, fun a x1 x2 x3 => by rw [jua_ne x1, jua_ne x3], by rw [jua_ne (by omega), jua_same]⟩ (by rw [jua_ne (by omega), jua_ne (by omega), eA 151 (by omega)]; exact PM) hR2 hD2
  · exact jPr.f (x := -1) hR hI (fun Q k => tb_rule_f hR z k) (fun F1 h1 Q e hR1 k => md_rule_f hR1 z k)
theorem jp_turnAnswers (hZ : jZ h) : jPr (d + 16) 92 [.ref 1] 145 [.ref 149, jx_u] h := by
  obtain ⟨F, A, G, g, hR, hI⟩ := hZ
  obtain ⟨a1, a2, r1, r5, c1, c5, a3, a4, a5, a6⟩ := hI.ia
  obtain ⟨n1, n2, n3, n4⟩ := hI.ih
  rw [← n2] at n3
  refine jPr.n (R' := F 149 0) (C' := F 149 1) hR hI (fun pl => nI (jcnt pl (F 149 0) (F 149 1) (nI 1))) (fun pl wt => (∀ i j, i < F 149 0 → j < F 149 1 → pl (5 * i + j) = if A 3 (5 * i + j) = nI 2 then nI 2 else nI 1 - A 3 (5 * i + j)) ∧ wt = A 4) (fun pl wt => (∀ j, j < 25 → pl j = if A 150 j = nI 2 then nI 2 else nI 1 - A 150 j) ∧ wt = A 151) (fun pl wt pl' wt' e e' => ?_) (fun Q k => ?_) (fun F1 A1 h1 Q eF eA hR1 k => ?_)
  · have ag : jAg pl pl' (F 149 0) (F 149 1) := fun i j h1 h2 => by rw [e.1 i j h1 h2, e'.1 _ (by omega), a3 i j h1 h2]
    refine ⟨⟨r1, r5, c1, c5, ag, ?_, fun i j h1 h2 => ?_, ?_⟩, by dsimp only; rw [ag.cnt]⟩
    · rw [e.2, e'.2]; exact a4
    · rw [e'.1 _ (by omega)]
      rcases a5 i j h1 h2 with w | w | w <;> rw [w]
      · exact .inr (.inl (by decide +kernel))
      · exact .inl (by decide +kernel)
      · exact .inr (.inr (by decide +kernel))
    · rw [e'.2]; exact a6
  · refine tb_turnAnswers hR n1 n3 (by omega) (by omega) (fun h1 F1 A1 pl e hN hR1 hD1 => ?_)
    rw [a1, a2] at hN e ⊢
    exact k h1 F1 A1 _ _ ⟨e, rfl⟩ hN hR1 hD1
  · refine md_turnAnswers hR1 (by rw [eF]; exact r5) (by rw [eF]; exact c5) (by rw [eF]; omega) (fun h2 pl e hR2 hD2 => ?_)
    rw [eA 150 (by omega)] at e
    rw [eF 0, eF 1]
    have PM : (∀ j, j < 25 → pl j = if A 150 j = nI 2 then nI 2 else nI 1 - A 150 j) ∧ A 151 = A 151 := ⟨e, rfl⟩
    have K := k h2 (jup (jup F1 149 4 (if F1 149 4 = 30 then 30 else F1 149 4 + 1)) 149 14 0) (jua (jua A1 152 (jkt (A1 152) (F1 149 4) (F1 149 0) (F1 149 1) (A1 150) (A1 151))) 150 pl)
    rw [jua_same] at K
    exact K ⟨fun o k ho => by rw [jup_ne (by omega), jup_ne (by omega)], by rw [jup_ne (by omega), jup_ne (by omega), eF], by rw [jup_ne (by omega), jup_ne (by omega), eF], by rw [jup_ne (by omega), jup_same], jup_same, fun a x1 x2 x3 => by rw [jua_ne x1, jua_ne x3], by rw [jua_ne (by omega), jua_same]⟩ (by rw [jua_ne (by omega), jua_ne (by omega), eA 151 (by omega)]; exact PM) hR2 hD2
theorem jp_turn (hZ : jZ h) : jPr (d + 16) 91 [.ref 1] 144 [.ref 149, jx_u, jx_u, jx_u] h := by
  obtain ⟨F, A, G, g, hR, hI⟩ := hZ
  obtain ⟨a1, a2, r1, r5, c1, c5, a3, a4, a5, a6⟩ := hI.ia
  obtain ⟨n1, n2, n3, n4⟩ := hI.ih
  rw [← n2] at n3
  refine jPr.n (R' := F 149 1) (C' := F 149 0) hR hI (fun _ => nI (F 149 1)) (fun pl wt => (∀ i j, i < 5 → j < 5 → pl (5 * i + j) = A 3 (5 * j + i)) ∧ ∀ i j, i < 5 → j < 5 → wt (5 * i + j) = A 4 (5 * j + i)) (fun pl wt => (∀ i j, i < 5 → j < 5 → pl (5 * i + j) = A 150 (5 * j + i)) ∧ ∀ i j, i < 5 → j < 5 → wt (5 * i + j) = A 151 (5 * j + i)) (fun pl wt pl' wt' e e' => ⟨⟨c1, c5, r1, r5, fun i j h1 h2 => ?_, fun i j h1 h2 => ?_, fun i j h1 h2 => ?_, fun i j h1 h2 => ?_⟩, rfl⟩) (fun Q k => ?_) (fun F1 A1 h1 Q eF eA hR1 k => ?_)
  · rw [e.1 i j (by omega) (by omega), e'.1 i j (by omega) (by omega)]; exact a3 j i h2 h1
  · rw [e.2 i j (by omega) (by omega), e'.2 i j (by omega) (by omega)]; exact a4 j i h2 h1
  · rw [e'.1 i j (by omega) (by omega)]; exact a5 j i h2 h1
  · rw [e'.2 i j (by omega) (by omega)]; exact a6 j i h2 h1
  · refine tb_turn hR n1 n3 (by omega) (by omega) (fun h1 F1 A1 pl wt e e' hN hR1 hD1 => ?_)
    rw [a1, a2] at hN
    rw [a2]
    exact k h1 F1 A1 pl wt ⟨e, e'⟩ hN hR1 hD1
  · refine md_turn hR1 (by rw [eF]; exact r5) (by rw [eF]; exact c5) (by rw [eF]; omega) (fun h2 pl wt e e' hR2 hD2 => ?_)
    rw [eA 150 (by omega)] at e
    rw [eA 151 (by omega)] at e'
    rw [eF 1]
    exact k h2 _ _ ⟨fun o k ho => by rw [jup_ne (by omega), jup_ne (by omega), jup_ne (by omega), jup_ne (by omega)], by rw [jup_ne (by omega), jup_ne (by omega), jup_same, eF], by rw [jup_ne (by omega), jup_same, eF], by rw [jup_ne (by omega), jup_ne (by omega), jup_ne (by omega), jup_same], jup_same, fun a x1 x2 x3 => by rw [jua_ne x2, jua_ne x1, jua_ne x3], by rw [jua_ne (by omega), jua_ne (by omega), jua_same]⟩ (by rw [jua_ne (by omega), jua_same, jua_same]; exact ⟨e, e'⟩) hR2 hD2
end PAIR6
