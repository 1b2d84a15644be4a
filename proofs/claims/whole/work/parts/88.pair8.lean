/-! ===== the class and the reference answer alike: slots ===== -/
section PAIR8
variable {d : Nat} {F F1 F2 : Nat → Nat → Nat} {A A' A1 A2 : Nat → Nat → Int32} {G G' : Nat → Option Nat} {g : Nat → Int64} {h h' h1 h2 : jxH}
theorem jI.sl (e : jI F A G h) (hA : ∀ a, a ≠ 153 → a ≠ 154 → A' a = A a) (is : jIs A' G' h') (hp : 182 ≤ h'.1) : jI F A' G' h' :=
  ⟨e.ia.fr (fun k hk => ⟨rfl, rfl⟩) (hA _ (by omega) (by omega)) (hA _ (by omega) (by omega)) (hA _ (by omega) (by omega)) (hA _ (by omega) (by omega)),
   e.ih.fr (fun o k h1 h2 => rfl) rfl (fun a h1 h2 => hA _ (by omega) (by omega)) (hA _ (by omega) (by omega)),
   is,
   e.it.fr (fun o k h1 h2 => rfl) (fun a ha => hA _ (by omega) (by omega)),
   e.im.fr (fun k hk => ⟨rfl, rfl⟩) (hA _ (by omega) (by omega)) (fun a ha => hA _ (by omega) (by omega)),
   e.ib.fr rfl (fun k hk => rfl) (fun a ha => hA _ (by omega) (by omega)),
   e.ic.fr rfl (fun k hk => rfl) (fun a ha => hA _ (by omega) (by omega)),
   e.ik.fr rfl rfl (fun k hk => rfl) (fun a ha => hA _ (by omega) (by omega)),
   e.iw.fr rfl rfl (hA _ (by omega) (by omega)) (hA _ (by omega) (by omega)),
   e.fd, hp⟩
/-- the slot that is filled -/
theorem jSq.new (ia : jIa F A) {s o : Nat} {f w : Nat → Int32} (ho : 182 ≤ o) (ho2 : o + 2 < h.1) (t : jTk h o (o + 1) (o + 2) (F 2 0) (F 2 1) f w) (fw : ∀ j, j < 25 → f j = A 3 j ∧ w j = A 4 j) {f0 : Nat → Int32} (e : A' 153 = jsv f0 (52 * s) (F 149 0) (F 149 1) (A 150) (A 151) 25) (e4 : A' 154 s = nI (jkind (A 150) (F 149 0) (F 149 1))) : jSq A' h s o := by
  obtain ⟨a1, a2, r1, r5, c1, c5, a3, a4, a5, a6⟩ := ia
  rw [a1, a2] at t
  have p0 : ∀ r c, r < 5 → c < 5 → A' 153 (52 * s + 2 + (5 * r + c)) = A 150 (5 * r + c) := fun r c h1 h2 => by
    rw [e]
    unfold jsv
    rw [if_neg (by omega), if_neg (by omega), if_pos (by omega)]
    congr 1
    omega
  have p1 : ∀ r c, r < 5 → c < 5 → A' 153 (52 * s + 27 + (5 * r + c)) = A 151 (5 * r + c) := fun r c h1 h2 => by
    rw [e]
    unfold jsv
    rw [if_neg (by omega), if_neg (by omega), if_neg (by omega), if_pos (by omega)]
    congr 1
    omega
  have ag : jAg f (A 150) (F 149 0) (F 149 1) := fun r c h1 h2 => by
    rw [(fw _ (by omega)).1]; exact a3 r c h1 h2
  refine ⟨ho, ho2, F 149 0, F 149 1, f, w, t, ?_, ?_, ⟨r1, r5, c1, c5, fun r c h1 h2 => ?_, fun r c h1 h2 => ?_, fun r c h1 h2 => ?_, fun r c h1 h2 => ?_⟩, ?_⟩
  · rw [e]; unfold jsv; rw [if_pos rfl]
  · rw [e]; unfold jsv; rw [if_neg (by omega), if_pos rfl]
  · dsimp only
    rw [p0 r c (by omega) (by omega)]
    exact ag r c h1 h2
  · dsimp only
    rw [p1 r c (by omega) (by omega), (fw _ (by omega)).2]
    exact a4 r c h1 h2
  · dsimp only
    rw [p0 r c (by omega) (by omega)]
    exact a5 r c h1 h2
  · dsimp only
    rw [p1 r c (by omega) (by omega)]
    exact a6 r c h1 h2
  · rw [e4, ag.kind]
/-- another slot stays -/
theorem jSq.old {s p : Nat} (e : jSq A h s p) (hp : h.1 ≤ h'.1) (fr : ∀ i, p ≤ i → i ≤ p + 2 → h'.2.2 i = h.2.2 i) (e3 : ∀ j, j < 52 → A' 153 (52 * s + j) = A 153 (52 * s + j)) (e4 : A' 154 s = A 154 s) : jSq A' h' s p := by
  obtain ⟨q1, q2, R, C, f, w, t, q3, q4, ⟨t1, t2, t3, t4, t5, t6, t7, t8⟩, q6⟩ := e
  have b0 := e3 0 (by omega)
  rw [Nat.add_zero] at b0
  refine ⟨q1, by omega, R, C, f, w, t.eq (fr _ (by omega) (by omega)) (fr _ (by omega) (by omega)) (fr _ (by omega) (by omega)), by rw [b0]; exact q3, by rw [e3 1 (by omega)]; exact q4, ⟨t1, t2, t3, t4, fun r c h1 h2 => ?_, fun r c h1 h2 => ?_, fun r c h1 h2 => ?_, fun r c h1 h2 => ?_⟩, by rw [e4]; exact q6⟩
  · dsimp only
    rw [Nat.add_assoc, e3 _ (by omega), ← Nat.add_assoc]
    exact t5 r c h1 h2
  · dsimp only
    rw [Nat.add_assoc, e3 _ (by omega), ← Nat.add_assoc]
    exact t6 r c h1 h2
  · dsimp only
    rw [Nat.add_assoc, e3 _ (by omega), ← Nat.add_assoc]
    exact t7 r c h1 h2
  · dsimp only
    rw [Nat.add_assoc, e3 _ (by omega), ← Nat.add_assoc]
    exact t8 r c h1 h2
theorem jsv_o {f pl wt : Nat → Int32} {o R C j : Nat} (hj : j < o ∨ o + 52 ≤ j) : jsv f o R C pl wt 25 j = f j := by
  unfold jsv
  rw [if_neg (by omega), if_neg (by omega), if_neg (by omega), if_neg (by omega)]
theorem jp_keep (hZ : jZ h) (s : Int32) : jPr (d + 16) 114 [.ref 1, .int s] 189 [.ref 149, .int s] h := by
  obtain ⟨F, A, G, g, hR, hI⟩ := hZ
  have ia := hI.ia
  obtain ⟨a1, a2, r1, r5, c1, c5, a3, a4, a5, a6⟩ := hI.ia
  obtain ⟨sl, dj⟩ := hI.is
  by_cases z : jbel s 4 = true
  · obtain ⟨s', hs, es⟩ := (jbel_iff (by omega)).mp z
    subst es
    have ek : jkind (A 3) (F 2 0) (F 2 1) = jkind (A 150) (F 149 0) (F 149 1) := by rw [a1, a2, a3.kind]
    unfold jPr
    rcases sl s' hs with ⟨q1, q2⟩ | ⟨o, q1, q2, q3, R, C, f, w, q4, q5, q6, q7, q8⟩
    · refine tb_keep_n hR hI.hp (by omega) (by omega) hs q1 (fun h1 f' w' fw t fr hc1 hl1 hR1 => ⟨_, rfl, jmid hR1 (fr 0 (by have := hI.hp; omega) (by omega)), ?_⟩)
      refine md_keep_t hR1 r5 c5 hs (fun h2 hR2 hD2 => ⟨by rw [ek], ⟨_, _, _, _, hR2, ?_⟩, ?_⟩)
      · have hp := hI.hp
        have c2 := hD2.1
        have tt := t.eq (h' := h2) (hD2.2.2 _ (by omega)) (hD2.2.2 _ (by omega)) (hD2.2.2 _ (by omega))
        refine hI.sl (fun a n1 n2 => by rw [jua_ne n2, jua_ne n1]) ⟨fun u hu => ?_, fun u v o p hu hv n e1 e2 => ?_⟩ (by omega)
        · by_cases q : u = s'
          · subst q
            refine .inr ⟨h.1, if_pos rfl, ?_⟩
            exact jSq.new ia hp (by omega) tt fw (by rw [jua_ne (by omega), jua_same]) (by rw [jua_same, jupd_same])
          · dsimp only
            rw [if_neg q]
            rcases sl u hu with ⟨w1, w2⟩ | ⟨p, w1, w2⟩
            · exact .inl ⟨w1, by rw [jua_same, jupd_ne q]; exact w2⟩
            · have w3 := w2.1
              have w4 := w2.2.1
              refine .inr ⟨p, w1, w2.old (by omega) (fun i h1 h2 => ?_) (fun j hj => ?_) (by rw [jua_same, jupd_ne q])⟩
              · rw [hD2.2.2 i (by omega), fr i (by omega) (by omega)]
              · rw [jua_ne (by omega), jua_same, jsv_o (by omega)]
        · dsimp only at e1 e2
          by_cases x1 : u = s'
          · rw [if_pos x1] at e1
            rw [if_neg (by omega)] at e2
            have e1' := Option.some.inj e1
            rcases sl v hv with ⟨w1, w2⟩ | ⟨p', w1, w2⟩
            · rw [w1] at e2; cases e2
            · rw [w1] at e2
              have e2' := Option.some.inj e2
              have w4 := w2.2.1
              omega
          · rw [if_neg x1] at e1
            by_cases x2 : v = s'
            · rw [if_pos x2] at e2
              have e2' := Option.some.inj e2
              rcases sl u hu with ⟨w1, w2⟩ | ⟨p', w1, w2⟩
              · rw [w1] at e1; cases e1
              · rw [w1] at e1
                have e1' := Option.some.inj e1
                have w4 := w2.2.1
                omega
            · rw [if_neg x2] at e2
              exact dj u v o p hu hv n e1 e2
      · have hp := hI.hp
        exact ⟨by rw [hD2.1]; omega, by rw [hD2.1]; omega, by rw [hD2.2.1]; omega, by rw [hD2.2.2 0 (by omega), fr 0 (by omega) (by omega)]⟩
    · refine tb_keep_s hR (by omega) (by omega) hs q1 q2 q4 (fun h1 f' w' fw t fr hc1 hl1 hR1 => ⟨_, rfl, jmid hR1 (fr 0 (by omega) (by omega) (by omega)), ?_⟩)
      refine md_keep_t hR1 r5 c5 hs (fun h2 hR2 hD2 => ⟨by rw [ek], ⟨_, _, _, _, hR2, ?_⟩, ?_⟩)
      · have hp := hI.hp
        have c2 := hD2.1
        have tt := t.eq (h' := h2) (hD2.2.2 _ (by omega)) (hD2.2.2 _ (by omega)) (hD2.2.2 _ (by omega))
        refine hI.sl (fun a n1 n2 => by rw [jua_ne n2, jua_ne n1]) ⟨fun u hu => ?_, dj⟩ (by omega)
        by_cases q : u = s'
        · subst q
          refine .inr ⟨o, q1, ?_⟩
          exact jSq.new ia q2 (by omega) tt fw (by rw [jua_ne (by omega), jua_same]) (by rw [jua_same, jupd_same])
        · rcases sl u hu with ⟨w1, w2⟩ | ⟨p, w1, w2⟩
          · exact .inl ⟨w1, by rw [jua_same, jupd_ne q]; exact w2⟩
          · have w3 := w2.1
            have w4 := w2.2.1
            have w5 := dj u s' p o hu hs q w1 q1
            refine .inr ⟨p, w1, w2.old (by omega) (fun i h1 h2 => ?_) (fun j hj => ?_) (by rw [jua_same, jupd_ne q])⟩
            · rw [hD2.2.2 i (by omega), fr i (by omega) (by omega) (by omega)]
            · rw [jua_ne (by omega), jua_same, jsv_o (by omega)]
      · exact ⟨by rw [hD2.1]; omega, by rw [hD2.1]; omega, by rw [hD2.2.1]; omega, by rw [hD2.2.2 0 (by omega), fr 0 (by omega) (by omega) (by omega)]⟩
  · exact jPr.f (x := -1) hR hI (fun Q k => tb_keep_f hR z k) (fun F1 h1 Q e hR1 k => md_keep_f hR1 z k)
theorem jp_as (hZ : jZ h) (s q : Int32) : jPr (d + 16) 116 [.ref 1, .int s, .int q] 192 [.ref 149, .int s, .int q, jx_u, jx_u, jx_u, jx_u] h := by
  obtain ⟨F, A, G, g, hR, hI⟩ := hZ
  obtain ⟨sl, dj⟩ := hI.is
  obtain ⟨K, hK⟩ : ∃ K : Nat → Option Nat, ∀ s, s < 4 → A 154 s = jko (K s) ∧ (∀ o, K s = some o → o ≤ 3) ∧ ((K s = none ∧ G s = none) ∨ ∃ o R C f w, G s = some o ∧ 182 ≤ o ∧ jTk h o (o + 1) (o + 2) R C f w ∧ R ≤ 5 ∧ C ≤ 5 ∧ K s = some (jkind f R C)) := by
    refine ⟨fun s => (G s).bind fun _ => some (A 154 s).toNatClampNeg, fun s hs => ?_⟩
    rcases sl s hs with ⟨q1, q2⟩ | ⟨o, q1, q2, q3, R, C, f, w, q4, q5, q6, q7, q8⟩
    · dsimp only
      rw [q1, q2]
      exact ⟨rfl, (fun o w => (by cases w)), .inl ⟨rfl, rfl⟩⟩
    · dsimp only
      have k4 : jkind f R C < 4 := by unfold jkind; split; omega; split <;> omega
      rw [q1, q8, jn_cl (by omega)]
      refine ⟨rfl, fun o w => ?_, .inr ⟨o, R, C, f, w, rfl, q2, q4, q7.2.1, q7.2.2.2.1, rfl⟩⟩
      have := Option.some.inj w
      omega
  cases e : jasA K s q with
  | some x => exact jPr.f (x := x) hR hI (fun Q k => tb_as_f hR (fun s hs => (hK s hs).2.2) e k) (fun F1 h1 Q eF hR1 k => md_as_f hR1 (fun s hs => (hK s hs).1) (fun s o hs => (hK s hs).2.1 o) e k)
  | none =>
    unfold jasA at e
    by_cases z : jbel s 4 = true ∧ jbel q 4 = true
    · rw [if_pos z] at e
      obtain ⟨s', hs, es⟩ := (jbel_iff (by omega)).mp z.1
      obtain ⟨q', hq, eq⟩ := (jbel_iff (by omega)).mp z.2
      subst es; subst eq
      rw [jn_cl (by omega)] at e
      obtain ⟨x1, x2, x3⟩ := hK s' hs
      rcases sl s' hs with ⟨q1, q2⟩ | ⟨o, q1, q2, q3, R, C, f, w, q4, q5, q6, q7, q8⟩
      · rcases x3 with ⟨y1, y2⟩ | ⟨o, R, C, f, w, y1, _⟩
        · rw [y1] at e; cases e
        · rw [q1] at y1; cases y1
      · have k4 : jkind f R C < 4 := by unfold jkind; split; omega; split <;> omega
        have ks : K s' = some (jkind f R C) := by
          rcases x3 with ⟨y1, y2⟩ | ⟨o', R', C', f', w', y1, y2, y3, y4, y5, y6⟩
          · rw [q1] at y2; cases y2
          · rw [y6, q8] at x1
            have k5 : jkind f' R' C' < 4 := by unfold jkind; split; omega; split <;> omega
            have x1' : nI (jkind f R C) = nI (jkind f' R' C') := x1
            rw [jn_eq (by omega) (by omega)] at x1'
            rw [y6, x1']
        rw [ks] at e
        dsimp only at e
        have ok : jkind f R C = q' ∨ q' = 0 ∨ (q' = 1 ∧ jkind f R C = 2) := by
          by_cases w : nI (jkind f R C) = nI q' ∨ nI q' = 0 ∨ (nI q' = nI 1 ∧ jkind f R C = 2)
          · rw [jn_eq (by omega) (by omega), show (0 : Int32) = nI 0 from rfl, jn_eq (by omega) (by omega), jn_eq (by omega) (by omega)] at w
            exact w
          · rw [if_neg w] at e; cases e
        have ag := q7.2.2.2.2.1
        refine jPr.q (x := nI (jcnt f R C (nI 1))) hR hI (fun Q k => tb_as_t hR hs hq q1 q4 q7.2.1 q7.2.2.2.1 ok (k h F A jQF.rf jQA.rf hI.ib hI.ic hR jD.rf.jE)) (fun F1 A1 h1 Q eF eA hR1 k => ?_)
        refine md_as_t (R := R) (C := C) hR1 hs hq (by rw [eA 154 (by omega)]; exact q8) (by omega) ok (by rw [eA 153 (by omega)]; exact q5) (by rw [eA 153 (by omega)]; exact q6) q7.2.1 q7.2.2.2.1 ?_
        rw [eA 153 (by omega), ← ag.cnt]
        exact k h1 A1 g jQM.rf hR1 jD.rf
    · rw [if_neg z] at e; cases e
theorem jp_same (hZ : jZ h) (s : Int32) : jPr (d + 16) 117 [.ref 1, .int s] 195 [.ref 149, .int s, jx_u, jx_u, jx_u, jx_u] h := by
  obtain ⟨F, A, G, g, hR, hI⟩ := hZ
  obtain ⟨a1, a2, r1, r5, c1, c5, a3, a4, a5, a6⟩ := hI.ia
  obtain ⟨sl, dj⟩ := hI.is
  by_cases z : jbel s 4 = true
  · obtain ⟨s', hs, es⟩ := (jbel_iff (by omega)).mp z
    subst es
    rcases sl s' hs with ⟨q1, q2⟩ | ⟨o, q1, q2, q3, R, C, f, w, q4, q5, q6, q7, q8⟩
    · exact jPr.f (x := -6) hR hI (fun Q k => tb_same_n hR hs q1 k) (fun F1 h1 Q e hR1 k => md_same_n hR1 hs (by rw [q2]; decide) k)
    · have k4 : jkind f R C < 4 := by unfold jkind; split; omega; split <;> omega
      have nn : ¬ A 154 s' < 0 := by rw [q8]; exact nI_pos (by omega)
      obtain ⟨t1, t2, t3, t4, t5, t6, t7, t8⟩ := q7
      by_cases y : R = F 149 0 ∧ C = F 149 1
      · obtain ⟨y1, y2⟩ := y
        subst y1; subst y2
        have sm := a3.sm t5 r5 c5 r1 c1
        refine jPr.q (x := nI (jsm (A 150) (fun j => A 153 (52 * s' + 2 + j)) (F 149 0) (F 149 1)).toNat) hR hI (fun Q k => ?_) (fun F1 A1 h1 Q eF eA hR1 k => ?_)
        · have vv := hI.vv
          have ff := t5.sy.jv t7
          rw [← sm] at k
          rw [← a1, ← a2] at q4 ff k
          refine tb_same_t hR hs q1 q2 q4 (by omega) (by omega) (by omega) (by omega) vv ff (fun c hc => (hI.im.2.2 c hc).1) (fun c hc => (hI.im.2.2 c hc).2) (fun h1 A1 eA hR1 hD1 => ?_)
          exact k h1 F A1 jQF.rf (fun a ha => eA a (by omega)) (hI.ib.fr rfl (fun _ _ => rfl) (fun a ha => eA a (by omega))) (hI.ic.fr rfl (fun _ _ => rfl) (fun a ha => eA a (by omega))) hR1 hD1.jE
        · rw [← eA 153 (by omega)] at q5 q6 k
          rw [← eA 154 (by omega)] at nn
          simp only [← eF 0, ← eF 1, ← eA 150 (by omega)] at r1 c1 r5 c5 q5 q6 k
          exact md_same_t hR1 hs nn q5 q6 r5 c5 r1 c1 (fun A2 h2 eA2 hR2 hD2 => k h2 A2 g (fun a ha => eA2 a (by omega) (by omega)) hR2 hD2)
      · refine jPr.q (x := nI 0) hR hI (fun Q k => tb_same_0 hR hs q1 q4 (by omega) (by omega) t2 t4 (by omega) (k h F A jQF.rf jQA.rf hI.ib hI.ic hR jD.rf.jE)) (fun F1 A1 h1 Q eF eA hR1 k => ?_)
        exact md_same_0 (R := R) (C := C) hR1 hs (by rw [eA 154 (by omega)]; exact nn) (by rw [eA 153 (by omega)]; exact q5) (by rw [eA 153 (by omega)]; exact q6) t2 t4 (by rw [eF]; exact r5) (by rw [eF]; exact c5) (by rw [eF, eF]; omega) (k h1 A1 g jQM.rf hR1 jD.rf)
  · exact jPr.f (x := -1) hR hI (fun Q k => tb_same_b hR z k) (fun F1 h1 Q e hR1 k => md_same_b hR1 z k)
end PAIR8
