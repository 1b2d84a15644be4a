/-! ===== the class and the reference answer alike: weigh, undo, slots ===== -/
section PAIR7
variable {d : Nat} {F F1 F2 : Nat → Nat → Nat} {A A1 A2 : Nat → Nat → Int32} {G G' : Nat → Option Nat} {g : Nat → Int64} {h h1 h2 : jxH}
theorem jphF_99 {o k : Nat} (hn : F 7 1 < 30) (ho : o < 7 ∨ 98 < o) : jphF F o k = F o k := by
  unfold jphF
  rw [jup_ne (by omega), jup_ne (by omega), jup_ne (by omega), jup_ne (by omega)]
theorem jphA_99 {a : Nat} (hn : F 7 1 < 30) (ho : a < 9 ∨ 98 < a) : jphA F A a = A a := by
  unfold jphA
  rw [jua_ne (by omega), jua_ne (by omega)]
theorem jp_weigh (hZ : jZ h) (x y v : Int32) : jPr (d + 16) 89 [.ref 1, .int x, .int y, .int v, jx_u, jx_u] 142 [.ref 149, .int x, .int y, .int v, jx_u] h := by
  obtain ⟨F, A, G, g, hR, hI⟩ := hZ
  obtain ⟨a1, a2, r1, r5, c1, c5, a3, a4, a5, a6⟩ := hI.ia
  obtain ⟨n1, n2, n3, n4⟩ := hI.ih
  rw [← n2] at n3
  by_cases z : (jbel x (F 149 0) = true ∧ jbel y (F 149 1) = true) ∧ jbel v 10 = true
  · obtain ⟨r, hr, ex⟩ := (jbel_iff (by omega)).mp z.1.1
    obtain ⟨c, hc, ey⟩ := (jbel_iff (by omega)).mp z.1.2
    obtain ⟨u, hu, ev⟩ := (jbel_iff (by omega)).mp z.2
    subst ex; subst ey; subst ev
    unfold jPr
    refine tb_weigh_t hR n1 n3 (by omega) (by omega) (by omega) (by omega) (show u ≤ 9 by omega) (fun h1 hR1 hD1 => ⟨_, rfl, jmid hR1 (hD1.2.2 0 (.inr rfl)), ?_⟩)
    have f9 : ∀ o k, (o < 7 ∨ 98 < o) → o ≠ 132 → jup (jphF F) 132 7 4294967295 o k = F o k := fun o k h1 h2 => by rw [jup_ne (by omega), jphF_99 n1 h1]
    have g9 : ∀ a, (a < 9 ∨ 98 < a) → a ≠ 4 → jua (jphA F A) 4 (upd (A 4) (5 * r + c) (nI u)) a = A a := fun a h1 h2 => by rw [jua_ne h2, jphA_99 n1 h1]
    have e7 : ∀ o k, 7 ≤ o → o < 99 → jup (jphF F) 132 7 4294967295 o k = jphF F o k := fun o k h1 h2 => jup_ne (by omega)
    have e8 : ∀ a, 9 ≤ a → a < 99 → jua (jphA F A) 4 (upd (A 4) (5 * r + c) (nI u)) a = jphA F A a := fun a h1 h2 => jua_ne (by omega)
    have w4 : jua (jphA F A) 4 (upd (A 4) (5 * r + c) (nI u)) 4 = upd (A 4) (5 * r + c) (nI u) := jua_same
    have w7 : jup (jphF F) 132 7 4294967295 132 7 = 4294967295 := jup_same
    generalize jup (jphF F) 132 7 4294967295 = F1 at *
    generalize jua (jphA F A) 4 (upd (A 4) (5 * r + c) (nI u)) = A1 at *
    have md := @md_weigh_t (d + 14) F1 A1 G g h1
    rw [f9 149 0 (by omega) (by omega), f9 149 1 (by omega) (by omega), f9 149 4 (by omega) (by omega), g9 150 (by omega) (by omega), g9 151 (by omega) (by omega), g9 152 (by omega) (by omega)] at md
    refine md hR1 r5 c5 (by omega) hr hc (show u ≤ 9 by omega) (fun h2 hR2 hD2 => ⟨by rw [a4 r c hr hc], ⟨_, _, _, _, hR2, ?_⟩, (hD1.tr hD2).jE.jLg⟩)
    have hE := (hD1.tr hD2).jE
    have gF : ∀ o k, (o < 7 ∨ 98 < o) → o ≠ 132 → (o ≠ 149 ∨ k ≠ 4) → jup F1 149 4 (if F 149 4 = 30 then 30 else F 149 4 + 1) o k = F o k := fun o k h1 h2 h3 => by rw [jup_ne h3, f9 o k h1 h2]
    have gA : ∀ a, (a < 9 ∨ 98 < a) → a ≠ 4 → a ≠ 151 → a ≠ 152 → jua (jua A1 152 (jkt (A 152) (F 149 4) (F 149 0) (F 149 1) (A 150) (A 151))) 151 (upd (A 151) (5 * r + c) (nI u)) a = A a := fun a h1 h2 h3 h4 => by rw [jua_ne h3, jua_ne h4, g9 a h1 h2]
    refine ⟨⟨?_, ?_, ?_⟩, ?_, ?_, ?_, ?_, ?_, ?_, ?_, ?_, ?_, Nat.le_trans hI.hp hE.1⟩
    · rw [gF _ _ (by omega) (by omega) (by omega), gF _ _ (by omega) (by omega) (by omega)]; exact a1
    · rw [gF _ _ (by omega) (by omega) (by omega), gF _ _ (by omega) (by omega) (by omega)]; exact a2
    · rw [gF _ _ (by omega) (by omega) (by omega), gF _ _ (by omega) (by omega) (by omega), gA 3 (by omega) (by omega) (by omega) (by omega), gA 150 (by omega) (by omega) (by omega) (by omega), jua_ne (show (4 : Nat) ≠ 151 by omega), jua_ne (show (4 : Nat) ≠ 152 by omega), w4, jua_same]
      refine ⟨r1, r5, c1, c5, a3, fun i j h1 h2 => ?_, a5, fun i j h1 h2 => ?_⟩
      · by_cases q : 5 * i + j = 5 * r + c
        · rw [q, jupd_same, jupd_same]
        · rw [jupd_ne q, jupd_ne q]; exact a4 i j h1 h2
      · by_cases q : 5 * i + j = 5 * r + c
        · rw [q, jupd_same]; exact jbel_n hu (by omega)
        · rw [jupd_ne q]; exact a6 i j h1 h2
    · refine hI.ih.push hI.ia (jHst_of n1 (fun o k h1 h2 => ?_) (fun a h1 h2 => ?_)) jup_same (by rw [jua_ne (by omega), jua_same])
      · rw [jup_ne (by omega), e7 o k h1 h2]
      · rw [jua_ne (by omega), jua_ne (by omega), e8 a h1 h2]
    · exact hI.is.fr (gA _ (by omega) (by omega) (by omega) (by omega)) (gA _ (by omega) (by omega) (by omega) (by omega)) hE
    · exact hI.it.fr (fun o k h1 h2 => gF o k (by omega) (by omega) (by omega)) (fun a ha => gA _ (by omega) (by omega) (by omega) (by omega))
    · exact hI.im.fr (fun k hk => ⟨gF _ _ (by omega) (by omega) (by omega), gF _ _ (by omega) (by omega) (by omega)⟩) (gA _ (by omega) (by omega) (by omega) (by omega)) (fun a ha => gA _ (by omega) (by omega) (by omega) (by omega))
    · exact hI.ib.fr (gF _ _ (by omega) (by omega) (by omega)) (fun k hk => gF _ _ (by omega) (by omega) (by omega)) (fun a ha => gA _ (by omega) (by omega) (by omega) (by omega))
    · exact .inl (by rw [jup_ne (by omega)]; exact w7)
    · exact hI.ik.fr (gF _ _ (by omega) (by omega) (by omega)) (gF _ _ (by omega) (by omega) (by omega)) (fun k hk => gF _ _ (by omega) (by omega) (by omega)) (fun a ha => gA _ (by omega) (by omega) (by omega) (by omega))
    · exact hI.iw.fr (gF _ _ (by omega) (by omega) (by omega)) (gF _ _ (by omega) (by omega) (by omega)) (gA _ (by omega) (by omega) (by omega) (by omega)) (gA _ (by omega) (by omega) (by omega) (by omega))
    · rw [gF 1 11 (by omega) (by omega) (by omega), gF 149 13 (by omega) (by omega) (by omega)]; exact hI.fd
  · exact jPr.f (x := -1) hR hI (fun Q k => tb_weigh_f hR (by rw [a1, a2]; exact z) k) (fun F1 h1 Q e hR1 k => md_weigh_f hR1 (by rw [e, e]; exact z) k)
theorem jp_undo (hZ : jZ h) : jPr (d + 16) 118 [.ref 1] 137 [.ref 149] h := by
  obtain ⟨F, A, G, g, hR, hI⟩ := hZ
  obtain ⟨a1, a2, r1, r5, c1, c5, a3, a4, a5, a6⟩ := hI.ia
  obtain ⟨n1, n2, n3, n4⟩ := hI.ih
  by_cases z : F 149 4 = 0
  · exact jPr.f (x := -6) hR hI (fun Q k => tb_undo_0 hR (by omega) k) (fun F1 h1 Q e hR1 k => md_undo (R := 1) (C := 1) hR1 (by rw [e]; omega) (fun w => by rw [e] at w; omega) (fun w => by rw [e] at w; omega) (fun _ => k) (fun w => by rw [e] at w; omega))
  · obtain ⟨n, en⟩ : ∃ n, n = if F 7 1 = 0 then 29 else F 7 1 - 1 := ⟨_, rfl⟩
    have hn : n < 30 := by rw [en]; split <;> omega
    have q := n4 (F 149 4 - 1) (by omega)
    rw [show (F 7 1 + 30 - F 149 4 + (F 149 4 - 1)) % 30 = n by rw [en]; split <;> omega] at q
    obtain ⟨q1, q2, q3⟩ := q
    have q3' := q3
    obtain ⟨t1, t2, t3, t4, t5, t6, t7, t8⟩ := q3'
    unfold jPr
    refine tb_undo_t hR n1 (by omega) (by omega) en t2 t4 (fun h1 F1 A1 hP rs vd hR1 hD1 => ⟨_, rfl, jmid hR1 (hD1.2.2 0 (.inr rfl)), ?_⟩)
    have f9 : ∀ k, F1 149 k = F 149 k := fun k => rs.1 _ _ (by omega)
    have md := @md_undo (d + 15) F1 A1 G g h1
    rw [f9, rs.2 150 (by omega), rs.2 151 (by omega), rs.2 152 (by omega)] at md
    refine md hR1 n3 (fun _ => q1) (fun _ => q2) (fun w => by omega) (fun _ h2 hR2 hD2 => ⟨by rw [n2], ⟨_, _, _, _, hR2, ?_⟩, (hD1.tr hD2).jE.jLg⟩)
    have hE := (hD1.tr hD2).jE
    obtain ⟨p1, p2, p3, p4, p5, p6⟩ := hP
    have gF : ∀ o k, (o ≠ 149 ∨ (k ≠ 0 ∧ k ≠ 1 ∧ k ≠ 4 ∧ k ≠ 14)) → jup (jup (jup (jup F1 149 4 (F 149 4 - 1)) 149 0 (F (9 + 3 * n) 0)) 149 1 (F (9 + 3 * n) 1)) 149 14 0 o k = F1 o k := fun o k ho => by rw [jup_ne (by omega), jup_ne (by omega), jup_ne (by omega), jup_ne (by omega)]
    have g0 : jup (jup (jup (jup F1 149 4 (F 149 4 - 1)) 149 0 (F (9 + 3 * n) 0)) 149 1 (F (9 + 3 * n) 1)) 149 14 0 149 0 = F (9 + 3 * n) 0 := by rw [jup_ne (by omega), jup_ne (by omega), jup_same]
    have g1 : jup (jup (jup (jup F1 149 4 (F 149 4 - 1)) 149 0 (F (9 + 3 * n) 0)) 149 1 (F (9 + 3 * n) 1)) 149 14 0 149 1 = F (9 + 3 * n) 1 := by rw [jup_ne (by omega), jup_same]
    have g4 : jup (jup (jup (jup F1 149 4 (F 149 4 - 1)) 149 0 (F (9 + 3 * n) 0)) 149 1 (F (9 + 3 * n) 1)) 149 14 0 149 4 = F 149 4 - 1 := by rw [jup_ne (by omega), jup_ne (by omega), jup_ne (by omega), jup_same]
    have g14 : jup (jup (jup (jup F1 149 4 (F 149 4 - 1)) 149 0 (F (9 + 3 * n) 0)) 149 1 (F (9 + 3 * n) 1)) 149 14 0 149 14 = 0 := jup_same
    have hF : ∀ o k, (o = 1 ∨ (102 ≤ o ∧ o ≠ 128 ∧ o ≠ 132 ∧ o ≠ 137 ∧ o ≠ 149)) → jup (jup (jup (jup F1 149 4 (F 149 4 - 1)) 149 0 (F (9 + 3 * n) 0)) 149 1 (F (9 + 3 * n) 1)) 149 14 0 o k = F o k := fun o k ho => by rw [gF o k (by omega), rs.1 o k (by omega)]
    generalize jup (jup (jup (jup F1 149 4 (F 149 4 - 1)) 149 0 (F (9 + 3 * n) 0)) 149 1 (F (9 + 3 * n) 1)) 149 14 0 = F2 at *
    have b0 : jua (jua A1 150 (jld (A 152) (A 150) (52 * (F 149 4 - 1) + 2) 25)) 151 (jld (A 152) (A 151) (52 * (F 149 4 - 1) + 27) 25) 150 = jld (A 152) (A 150) (52 * (F 149 4 - 1) + 2) 25 := by rw [jua_ne (by omega), jua_same]
    have b1 : jua (jua A1 150 (jld (A 152) (A 150) (52 * (F 149 4 - 1) + 2) 25)) 151 (jld (A 152) (A 151) (52 * (F 149 4 - 1) + 27) 25) 151 = jld (A 152) (A 151) (52 * (F 149 4 - 1) + 27) 25 := jua_same
    have gA : ∀ a, a ≠ 150 → a ≠ 151 → jua (jua A1 150 (jld (A 152) (A 150) (52 * (F 149 4 - 1) + 2) 25)) 151 (jld (A 152) (A 151) (52 * (F 149 4 - 1) + 27) 25) a = A1 a := fun a h1 h2 => by rw [jua_ne h2, jua_ne h1]
    generalize jua (jua A1 150 (jld (A 152) (A 150) (52 * (F 149 4 - 1) + 2) 25)) 151 (jld (A 152) (A 151) (52 * (F 149 4 - 1) + 27) 25) = A2 at *
    have hA : ∀ a, 102 ≤ a → a ≠ 150 → a ≠ 151 → A2 a = A a := fun a h1 h2 h3 => by rw [gA a h2 h3, rs.2 a h1]
    have ag : jAg (A1 3) (A2 150) (F (9 + 3 * n) 0) (F (9 + 3 * n) 1) := fun i j h1 h2 => by
      rw [b0, (p5 _ (by omega)).1, t5 i j h1 h2]
      unfold jld
      rw [if_pos (by omega)]
    refine ⟨⟨?_, ?_, ?_⟩, ?_, ?_, ?_, ⟨?_, ?_, ?_⟩, ?_, ?_, ?_, ?_, ?_, Nat.le_trans hI.hp hE.1⟩
    · rw [gF 2 0 (by omega), p3, g0]
    · rw [gF 2 1 (by omega), p4, g1]
    · rw [g0, g1, gA 3 (by omega) (by omega), gA 4 (by omega) (by omega)]
      refine ⟨t1, t2, t3, t4, ag, fun i j h1 h2 => ?_, fun i j h1 h2 => ?_, fun i j h1 h2 => ?_⟩
      · rw [b1, (p5 _ (by omega)).2, t6 i j h1 h2]
        unfold jld
        rw [if_pos (by omega)]
      · rw [b0]
        unfold jld
        rw [if_pos (by omega)]
        exact t7 i j h1 h2
      · rw [b1]
        unfold jld
        rw [if_pos (by omega)]
        exact t8 i j h1 h2
    · unfold jIh
      rw [g4, gF 7 1 (by omega), gF 7 2 (by omega), p1, p2, n2]
      refine ⟨hn, rfl, by omega, fun i hi => ?_⟩
      rw [show (n + 30 - (F 149 4 - 1) + i) % 30 = (F 7 1 + 30 - F 149 4 + i) % 30 by rw [en]; split <;> omega]
      have m := Nat.mod_lt (F 7 1 + 30 - F 149 4 + i) (show 0 < 30 by omega)
      obtain ⟨s1, s2, s3, s4⟩ := p6 _ m
      refine (n4 i (by omega)).fr (by rw [gF _ _ (by omega)]; exact s1) (by rw [gF _ _ (by omega)]; exact s2) (by rw [gA _ (by omega) (by omega)]; exact s3) (by rw [gA _ (by omega) (by omega)]; exact s4) (fun j _ => by rw [hA 152 (by omega) (by omega) (by omega)])
    · exact hI.is.fr (hA _ (by omega) (by omega) (by omega)) (hA _ (by omega) (by omega) (by omega)) hE
    · exact hI.it.fr (fun o k h1 h2 => hF o k (by omega)) (fun a ha => hA _ (by omega) (by omega) (by omega))
    · rw [g0, g1]
      have mk := vd.1
      rw [p3, p4] at mk
      exact (ag.mk mk).fr (gF _ _ (by omega)) (gF _ _ (by omega)) (gA _ (by omega) (by omega)) (gA _ (by omega) (by omega))
    · exact hI.im.2.1.fr (hA _ (by omega) (by omega) (by omega)) (hA _ (by omega) (by omega) (by omega))
    · intro c hc
      rw [hA 104 (by omega) (by omega) (by omega), hA 111 (by omega) (by omega) (by omega)]
      exact hI.im.2.2 c hc
    · exact .inl (by rw [gF _ _ (by omega)]; exact vd.2.1)
    · exact .inl (by rw [gF _ _ (by omega)]; exact vd.2.2.1)
    · exact ⟨by rw [gF _ _ (by omega), g14]; exact vd.2.2.2, .inl g14⟩
    · exact hI.iw.fr (hF _ _ (by omega)) (by rw [gF _ _ (by omega), f9]) (hA _ (by omega) (by omega) (by omega)) (hA _ (by omega) (by omega) (by omega))
    · rw [hF 1 11 (by omega), gF 149 13 (by omega), f9]
      exact hI.fd
end PAIR7
