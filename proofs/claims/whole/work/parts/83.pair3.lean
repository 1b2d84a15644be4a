/-! ===== the class and the reference answer alike: talks and what is told ===== -/
section PAIR3
variable {d : Nat} {F F' : Nat → Nat → Nat} {A A' : Nat → Nat → Int32} {G : Nat → Option Nat} {g : Nat → Int64} {h h' : jxH}
theorem jI.t (e : jI F A G h) (hF : ∀ o k, o ≠ 128 → o ≠ 137 → (o ≠ 149 ∨ k ≠ 14) → F' o k = F o k) (hA : ∀ a, (a < 129 ∨ (130 < a ∧ a < 138) ∨ (143 < a ∧ a < 160) ∨ 169 < a) → A' a = A a) (ib : jIb F' A') (ik : jIk F' A') (hE : jE h h') : jI F' A' G h' :=
  ⟨e.ia.fr (fun k hk => ⟨hF _ _ (by omega) (by omega) (by omega), hF _ _ (by omega) (by omega) (by omega)⟩) (hA _ (by omega)) (hA _ (by omega)) (hA _ (by omega)) (hA _ (by omega)),
   e.ih.fr (fun o k h1 h2 => hF _ _ (by omega) (by omega) (by omega)) (hF _ _ (by omega) (by omega) (by omega)) (fun a h1 h2 => hA _ (by omega)) (hA _ (by omega)),
   e.is.fr (hA _ (by omega)) (hA _ (by omega)) hE,
   e.it.fr (fun o k h1 h2 => hF _ _ (by omega) (by omega) (by omega)) (fun a ha => hA _ (by omega)),
   e.im.fr (fun k hk => ⟨hF _ _ (by omega) (by omega) (by omega), hF _ _ (by omega) (by omega) (by omega)⟩) (hA _ (by omega)) (fun a ha => hA _ (by omega)),
   ib,
   e.ic.fr (hF _ _ (by omega) (by omega) (by omega)) (fun k hk => hF _ _ (by omega) (by omega) (by omega)) (fun a ha => hA _ (by omega)),
   ik,
   e.iw.fr (hF _ _ (by omega) (by omega) (by omega)) (hF _ _ (by omega) (by omega) (by omega)) (hA _ (by omega)) (hA _ (by omega)),
   by rw [hF 1 11 (by omega) (by omega) (by omega), hF 149 13 (by omega) (by omega) (by omega)]; exact e.fd,
   Nat.le_trans e.hp hE.1⟩
theorem jI.w (e : jI F A G h) (hF : ∀ o k, o ≠ 144 → (o ≠ 149 ∨ (k ≠ 11 ∧ k ≠ 13)) → (o ≠ 1 ∨ k ≠ 11) → F' o k = F o k) (hA : ∀ a, a ≠ 145 → a ≠ 158 → a ≠ 178 → a ≠ 179 → A' a = A a) (iw : jIw F' A') (fd : F' 1 11 = F' 149 13) (hE : jE h h') : jI F' A' G h' :=
  ⟨e.ia.fr (fun k hk => ⟨hF _ _ (by omega) (by omega) (by omega), hF _ _ (by omega) (by omega) (by omega)⟩) (hA _ (by omega) (by omega) (by omega) (by omega)) (hA _ (by omega) (by omega) (by omega) (by omega)) (hA _ (by omega) (by omega) (by omega) (by omega)) (hA _ (by omega) (by omega) (by omega) (by omega)),
   e.ih.fr (fun o k h1 h2 => hF _ _ (by omega) (by omega) (by omega)) (hF _ _ (by omega) (by omega) (by omega)) (fun a h1 h2 => hA _ (by omega) (by omega) (by omega) (by omega)) (hA _ (by omega) (by omega) (by omega) (by omega)),
   e.is.fr (hA _ (by omega) (by omega) (by omega) (by omega)) (hA _ (by omega) (by omega) (by omega) (by omega)) hE,
   e.it.fr (fun o k h1 h2 => hF _ _ (by omega) (by omega) (by omega)) (fun a ha => hA _ (by omega) (by omega) (by omega) (by omega)),
   e.im.fr (fun k hk => ⟨hF _ _ (by omega) (by omega) (by omega), hF _ _ (by omega) (by omega) (by omega)⟩) (hA _ (by omega) (by omega) (by omega) (by omega)) (fun a ha => hA _ (by omega) (by omega) (by omega) (by omega)),
   e.ib.fr (hF _ _ (by omega) (by omega) (by omega)) (fun k hk => hF _ _ (by omega) (by omega) (by omega)) (fun a ha => hA _ (by omega) (by omega) (by omega) (by omega)),
   e.ic.fr (hF _ _ (by omega) (by omega) (by omega)) (fun k hk => hF _ _ (by omega) (by omega) (by omega)) (fun a ha => hA _ (by omega) (by omega) (by omega) (by omega)),
   e.ik.fr (hF _ _ (by omega) (by omega) (by omega)) (hF _ _ (by omega) (by omega) (by omega)) (fun k hk => hF _ _ (by omega) (by omega) (by omega)) (fun a ha => hA _ (by omega) (by omega) (by omega) (by omega)),
   iw, fd,
   Nat.le_trans e.hp hE.1⟩
theorem jp_talk (hZ : jZ h) : jPr (d + 16) 100 [.ref 1] 166 [.ref 149, jx_u, jx_u, jx_u, jx_u, jx_u] h := by
  obtain ⟨F, A, G, g, hR, hI⟩ := hZ
  obtain ⟨a1, a2, r1, r5, c1, c5, a3, a4, a5, a6⟩ := hI.ia
  unfold jPr
  refine tb_talk hR hI.im.2.1 hI.im.1 r5 c5 r1 c1 hI.ib (fun h1 A1 q hq eA tc hR1 hD1 => ⟨_, rfl, jmid hR1 (hD1.2.2 0 (.inr rfl)), ?_⟩)
  generalize eS : jtS (A 150) (F 149 0) (F 149 1) 1024 (jalB (F 149 0) (F 149 1)) = S at *
  generalize eF1 : jup (jup F 128 5 q) 137 8 S = F1 at *
  have f0 : ∀ o k, o ≠ 128 → o ≠ 137 → F1 o k = F o k := fun o k n1 n2 => by rw [← eF1, jup_ne (Or.inl n2), jup_ne (Or.inl n1)]
  have e0 := f0 149 0 (by decide) (by decide)
  have e1 := f0 149 1 (by decide) (by decide)
  have e2 := eA 150 (by decide) (by decide) (by decide)
  have tk := @md_talk (d + 12) F1 A1 G g h1
  rw [e0, e1, e2, eS] at tk
  refine tk hR1 r5 c5 r1 c1 a5 (fun h2 A2 eA2 tk hR2 hD2 => ⟨rfl, ⟨_, _, _, _, hR2, ?_⟩, (hD1.tr hD2).jE.jLg⟩)
  have eF2 : ∀ o k, o ≠ 128 → o ≠ 137 → (o ≠ 149 ∨ k ≠ 14) → jup F1 149 14 S o k = F o k := fun o k n1 n2 n3 => by rw [jup_ne n3, f0 o k n1 n2]
  have eA3 : ∀ a, (a < 129 ∨ (130 < a ∧ a < 138) ∨ (143 < a ∧ a < 160) ∨ 169 < a) → A2 a = A a := fun a ha => by rw [eA2 a (by omega), eA a (by omega) (by omega) (by omega)]
  refine hI.t eF2 eA3 ?_ ?_ (hD1.tr hD2).jE
  · unfold jIb jBl
    rw [eF2 149 0 (by omega) (by omega) (by omega), eF2 149 1 (by omega) (by omega) (by omega), eA3 150 (by omega), eA2 129 (by omega), eA2 130 (by omega), jup_ne (by omega), ← eF1, jup_ne (by omega), jup_same]
    exact hq
  · unfold jIk
    rw [eF2 149 0 (by omega) (by omega) (by omega), eF2 149 1 (by omega) (by omega) (by omega), eA3 150 (by omega), jup_same, jup_ne (by omega), eS]
    refine ⟨by rw [← eF1, jup_same], .inr ⟨rfl, jtc_congr _ _ _ _ (fun a j h1 h2 _ _ => by rw [eA2 a (by omega)]) tc, tk⟩⟩
theorem jtS_64 {v : Nat → Int32} {R C : Nat} (hr : R ≤ 5) (hc : C ≤ 5) (hr1 : 1 ≤ R) (hc1 : 1 ≤ C) : jtS v R C 1024 (jalB R C) ≤ 49 ∧ 1 ≤ jtS v R C 1024 (jalB R C) := by
  obtain ⟨b1, b2⟩ := jalB_blk hr hc hr1 hc1
  have := jar_25 b2
  have := jtS_le (v := v) hr hc 1024 _ b1
  exact ⟨by omega, jtS_1⟩
theorem jp_knot (hZ : jZ h) (x y : Int32) : jPr (d + 16) 101 [.ref 1, .int x, .int y] 167 [.ref 149, .int x, .int y] h := by
  obtain ⟨F, A, G, g, hR, hI⟩ := hZ
  obtain ⟨a1, a2, r1, r5, c1, c5, a3, a4, a5, a6⟩ := hI.ia
  obtain ⟨k1, k2⟩ := hI.ik
  by_cases z0 : F 149 14 = 0
  · exact jPr.f (x := -6) hR hI (fun Q k => tb_knot_0 hR (by omega) k) (fun F1 h1 Q e hR1 k => md_knot_0 hR1 (by rw [e]; exact z0) k)
  · obtain ⟨k3, k4, k5⟩ := k2.resolve_left z0
    obtain ⟨s1, s2⟩ := jtS_64 (v := A 150) r5 c5 r1 c1
    by_cases z : jbel x (F 149 14) = true ∧ jbel y 6 = true
    · obtain ⟨n, hn, ex⟩ := (jbel_iff (by omega)).mp z.1
      obtain ⟨j, hj, ey⟩ := (jbel_iff (by omega)).mp z.2
      subst ex; subst ey
      obtain ⟨b, hb, e1, e2, e3, e4⟩ := jtk_jtc r5 c5 1024 0 _ 0 (jalB_blk r5 c5 r1 c1).1 k5 k4 n (by omega) (by omega)
      refine jPr.q (x := jkn A b n j) hR hI (fun Q k => tb_knot_t hR (by omega) (by omega) hj ?_) (fun F1 A1 h1 Q eF eA hR1 k => ?_)
      · have : (if j = 0 then A 138 n else if j = 1 then A 139 n else if j = 2 then A 140 n else if j = 3 then A 141 n else if j = 4 then A 142 n else A 143 n) = jkn A b n j := by
          obtain ⟨e5, e6, e7, e8⟩ := e4
          unfold jkn
          rw [e2, e3, e5, e6, e7, e8]
        rw [this]
        exact k h F A jQF.rf jQA.rf hI.ib hI.ic hR jD.rf.jE
      · refine md_knot_t hR1 (by rw [eF]; omega) (by rw [eF]; exact hn) hj hb (by rw [eA 162 (by omega)]; exact e1) ?_
        have : jkn A1 b n j = jkn A b n j := by
          unfold jkn
          rw [eA 163 (by omega), eA 164 (by omega), eA 165 (by omega), eA 166 (by omega)]
        rw [this]
        exact k h1 A1 g jQM.rf hR1 jD.rf
    · exact jPr.f (x := -1) hR hI (fun Q k => tb_knot_f hR (by omega) (by omega) (by rw [k1]; exact z) k) (fun F1 h1 Q e hR1 k => md_knot_f hR1 (by rw [e]; omega) (by rw [e]; omega) (by rw [e]; exact z) k)
theorem jp_said (hZ : jZ h) (x y : Int32) : jPr (d + 16) 102 [.ref 1, .int x, .int y] 168 [.ref 149, .int x, .int y, jx_u, jx_u, jx_u] h := by
  obtain ⟨F, A, G, g, hR, hI⟩ := hZ
  obtain ⟨a1, a2, r1, r5, c1, c5, a3, a4, a5, a6⟩ := hI.ia
  obtain ⟨k1, k2⟩ := hI.ik
  by_cases z0 : F 149 14 = 0
  · exact jPr.f (x := -6) hR hI (fun Q k => tb_said_0 hR (by omega) k) (fun F1 h1 Q e hR1 k => md_said_0 hR1 (by rw [e]; exact z0) k)
  · obtain ⟨k3, k4, k5⟩ := k2.resolve_left z0
    obtain ⟨s1, s2⟩ := jtS_64 (v := A 150) r5 c5 r1 c1
    by_cases z : jbel x (F 149 0) = true ∧ jbel y (F 149 1) = true
    · obtain ⟨n, hn, ex⟩ := (jbel_iff (by omega)).mp z.1
      obtain ⟨j, hj, ey⟩ := (jbel_iff (by omega)).mp z.2
      subst ex; subst ey
      refine jPr.q (x := nI (jsaid (A 150) (F 149 0) (F 149 1) n j 1024 (jalB (F 149 0) (F 149 1)) 1)) hR hI (fun Q k => tb_said_t hR (by omega) (by omega) a1 a2 r5 c5 r1 c1 hn hj k4 (k h F A jQF.rf jQA.rf hI.ib hI.ic hR jD.rf.jE)) (fun F1 A1 h1 Q eF eA hR1 k => ?_)
      have tk : jtk (A 150) (F 149 0) (F 149 1) 1024 0 (jalB (F 149 0) (F 149 1)) 0 A1 := jtk_congr _ _ _ _ (fun a j h1 h2 _ _ => by rw [eA a (by omega)]) k5
      simp only [← eF 0, ← eF 1] at r5 c5 hn hj tk k
      exact md_said_t hR1 (by rw [eF]; omega) (by rw [eF]; omega) r5 c5 hn hj tk (k h1 A1 g jQM.rf hR1 jD.rf)
    · exact jPr.f (x := -1) hR hI (fun Q k => tb_said_f hR (by omega) (by omega) (by rw [a1, a2]; exact z) k) (fun F1 h1 Q e hR1 k => md_said_f hR1 (by rw [e]; omega) (by rw [e]; omega) (by rw [e, e]; exact z) k)
theorem jp_tell (hZ : jZ h) (v : Int32) : jPr (d + 16) 111 [.ref 1, .int v] 185 [.ref 149, .int v] h := by
  obtain ⟨F, A, G, g, hR, hI⟩ := hZ
  obtain ⟨a1, a2, r1, r5, c1, c5, a3, a4, a5, a6⟩ := hI.ia
  obtain ⟨w1, w2, w3⟩ := hI.iw
  by_cases z : F 149 11 = 120
  · exact jPr.f (x := -5) hR hI (fun Q k => tb_tell_f hR (by omega) k) (fun F1 h1 Q e hR1 k => md_tell_f hR1 (by rw [e]; exact z) k)
  · unfold jPr
    refine tb_tell_t hR (by omega) (fun h1 hR1 hD1 => ⟨_, rfl, jmid hR1 (hD1.2.2 0 (.inr rfl)), ?_⟩)
    rw [w1] at *
    have e1 : jup F 144 3 (F 149 11 + 1) 149 11 = F 149 11 := jup_ne (by omega)
    have e2 : jua A 145 (upd (A 145) (F 149 11) v) 158 = A 158 := jua_ne (by omega)
    have tl := @md_tell_t (d + 15) (jup F 144 3 (F 149 11 + 1)) (jua A 145 (upd (A 145) (F 149 11) v)) G g h1
    rw [e1, e2] at tl
    refine tl hR1 (by omega) (fun h2 hR2 hD2 => ⟨rfl, ⟨_, _, _, _, hR2, ?_⟩, (hD1.tr hD2).jE.jLg⟩)
    refine hI.w (fun o k n1 n2 n3 => by rw [jup_ne (by omega), jup_ne (by omega)]) (fun a n1 n2 n3 n4 => by rw [jua_ne (by omega), jua_ne (by omega)]) ?_ (by rw [jup_ne (by omega), jup_ne (by omega), jup_ne (by omega), jup_ne (by omega)]; exact hI.fd) (hD1.tr hD2).jE
    unfold jIw
    rw [jup_same, jup_ne (by omega), jup_same, jua_same, jua_ne (by omega), jua_same]
    refine ⟨rfl, by omega, fun i hi => ?_⟩
    by_cases y : i = F 149 11
    · rw [y, jupd_same, jupd_same]
    · rw [jupd_ne y, jupd_ne y]
      exact w3 i (by omega)
theorem jp_check (hZ : jZ h) : jPr (d + 16) 112 [.ref 1, jx_u] 186 [.ref 149, jx_u, jx_u, jx_u, jx_u, jx_u, jx_u, jx_u, jx_u, jx_u, jx_u] h := by
  obtain ⟨F, A, G, g, hR, hI⟩ := hZ
  obtain ⟨a1, a2, r1, r5, c1, c5, a3, a4, a5, a6⟩ := hI.ia
  obtain ⟨w1, w2, w3⟩ := hI.iw
  unfold jPr
  refine tb_check hR hI.im.1 r5 c5 r1 c1 (by omega) (fun h1 a b hR1 hD1 => ⟨_, rfl, jmid hR1 (hD1.2.2 0 (.inr rfl)), ?_⟩)
  generalize eF1 : jup (jup (jup F 144 4 a) 144 5 b) 144 3 0 = F1 at *
  have f0 : ∀ o k, o ≠ 144 → F1 o k = F o k := fun o k n => by rw [← eF1, jup_ne (by omega), jup_ne (by omega), jup_ne (by omega)]
  have ck := @md_check (d + 14) F1 A G g h1
  rw [f0 149 0 (by decide), f0 149 1 (by decide), f0 149 11 (by decide)] at ck
  rw [w1, jchk_congr w3]
  refine ck hR1 w2 r5 c5 r1 c1 a5 (fun A2 h2 eA2 hR2 hD2 => ⟨rfl, ⟨_, _, _, _, hR2, ?_⟩, (hD1.tr hD2).jE.jLg⟩)
  refine hI.w (fun o k n1 n2 n3 => by rw [jup_ne (by omega), f0 o k n1]) (fun a n1 n2 n3 n4 => eA2 a n3 n4) ⟨?_, ?_, fun i hi => ?_⟩ (by rw [jup_ne (by omega), jup_ne (by omega), f0 _ _ (by decide), f0 _ _ (by decide)]; exact hI.fd) (hD1.tr hD2).jE
  · rw [jup_same, jup_ne (by omega), ← eF1, jup_same]
  · rw [jup_same]; omega
  · rw [jup_same] at hi; omega
theorem jp_fools (hZ : jZ h) (u : Int32) : jPr (d + 16) 113 [.ref 1, .int u, jx_u] 187 [.ref 149, .int u, jx_u, jx_u, jx_u, jx_u, jx_u] h := by
  obtain ⟨F, A, G, g, hR, hI⟩ := hZ
  obtain ⟨a1, a2, r1, r5, c1, c5, a3, a4, a5, a6⟩ := hI.ia
  obtain ⟨w1, w2, w3⟩ := hI.iw
  have mk := a3.sy.mk hI.im.1
  rw [← a1, ← a2] at mk
  unfold jPr
  have f0 : ∀ k, jup F 144 3 0 149 k = F 149 k := fun k => jup_ne (by omega)
  have ae := jfoA_congr (R := F 149 0) (C := F 149 1) w3 (u := u)
  refine tb_fools hR (by omega) (by omega) mk (by omega) (fun e h1 hR1 hD1 => ⟨_, rfl, jmid hR1 (hD1.2.2 0 (.inr rfl)), ?_⟩) (fun e h1 hR1 hD1 => ⟨_, rfl, jmid hR1 (hD1.2.2 0 (.inr rfl)), ?_⟩)
  · rw [a1, a2, w1] at e ⊢
    rw [a3.foB r5 c5 w3 e]
    have fo := @md_fools_t (d + 12) (jup F 144 3 0) A G g h1
    rw [f0, f0, f0] at fo
    refine fo hR1 w2 r5 c5 a5 (by rw [← ae]; exact e) (fun h2 hR2 hD2 => ⟨rfl, ⟨_, _, _, _, hR2, ?_⟩, (hD1.tr hD2).jE.jLg⟩)
    refine hI.w (fun o k n1 n2 n3 => by rw [jup_ne (by omega), jup_ne (by omega)]) (fun a _ _ _ _ => rfl) ⟨?_, ?_, fun i hi => ?_⟩ (by rw [jup_ne (by omega), jup_ne (by omega), jup_ne (by omega), jup_ne (by omega)]; exact hI.fd) (hD1.tr hD2).jE
    · rw [jup_same, jup_ne (by omega), jup_same]
    · rw [jup_same]; omega
    · rw [jup_same] at hi; omega
  · rw [a1, a2, w1] at e
    have f1 : ∀ k, jup (jup F 144 3 0) 1 11 (F 1 11 + 1) 149 k = F 149 k := fun k => by rw [jup_ne (by omega), jup_ne (by omega)]
    have fo := @md_fools_f (d + 15) (jup (jup F 144 3 0) 1 11 (F 1 11 + 1)) A G g h1
    rw [f1, f1, f1, f1] at fo
    refine fo hR1 w2 (by rw [← ae, e]; decide) (fun h2 hR2 hD2 => ⟨rfl, ⟨_, _, _, _, hR2, ?_⟩, (hD1.tr hD2).jE.jLg⟩)
    refine hI.w (fun o k n1 n2 n3 => by rw [jup_ne (by omega), jup_ne (by omega), jup_ne (by omega), jup_ne (by omega)]) (fun a _ _ _ _ => rfl) ⟨?_, ?_, fun i hi => ?_⟩ (by rw [jup_same, jup_ne (by omega), jup_ne (by omega), jup_same, hI.fd]) (hD1.tr hD2).jE
    · rw [jup_ne (by omega), jup_ne (by omega), jup_ne (by omega), jup_same, jup_ne (by omega), jup_same]
    · rw [jup_ne (by omega), jup_same]; omega
    · rw [jup_ne (by omega), jup_same] at hi; omega
end PAIR3
