/-! ===== the class and the reference answer alike: more that is asked ===== -/
section PAIR2
variable {d : Nat} {h : jxH}
theorem jp_classes (hZ : jZ h) {b : Nat} (hb : b ≤ 1) : jPr (d + 16) 103 [.ref 1, .int (nI b)] 170 [.ref 149, .int (nI b), jx_u, jx_u, jx_u, jx_u, jx_u, jx_u] h := by
  obtain ⟨F, A, G, g, hR, hI⟩ := hZ
  obtain ⟨a1, a2, r1, r5, c1, c5, a3, a4, a5, a6⟩ := hI.ia
  refine jPr.q (x := nI (jcl0 (A 150) (F 149 0) (F 149 1) b)) hR hI (fun Q k => tb_classes hR hI.im.2.1 hI.im.1 r5 c5 r1 c1 hb (fun h1 f hR1 hD1 => ?_)) (fun F1 A1 h1 Q eF eA hR1 k => ?_)
  · exact k h1 F (jua A 131 f) jQF.rf (fun a ha => jua_ne (by omega)) (hI.ib.fr rfl (fun _ _ => rfl) (fun a ha => jua_ne (by omega))) (hI.ic.fr rfl (fun _ _ => rfl) (fun a ha => jua_ne (by omega))) hR1 hD1.jE
  · simp only [← eF 0, ← eF 1, ← eA 150 (by omega)] at r5 c5 a5 k
    exact md_classes hR1 r5 c5 a5 hb (fun h2 f hR2 hD2 => k h2 _ g (fun a ha => jua_ne (by omega)) hR2 hD2)
theorem jp_once (hZ : jZ h) {b : Nat} (hb : b ≤ 1) : jPr (d + 16) 104 [.ref 1, .int (nI b), jx_u, jx_u] 171 [.ref 149, .int (nI b), jx_u, jx_u] h := by
  obtain ⟨F, A, G, g, hR, hI⟩ := hZ
  obtain ⟨a1, a2, r1, r5, c1, c5, a3, a4, a5, a6⟩ := hI.ia
  refine jPr.q (x := nI (jlg (jcl0 (A 150) (F 149 0) (F 149 1) b))) hR hI (fun Q k => tb_once hR hI.im.2.1 hI.im.1 r5 c5 r1 c1 hb (fun h1 f hR1 hD1 => ?_)) (fun F1 A1 h1 Q eF eA hR1 k => ?_)
  · exact k h1 F (jua A 131 f) jQF.rf (fun a ha => jua_ne (by omega)) (hI.ib.fr rfl (fun _ _ => rfl) (fun a ha => jua_ne (by omega))) (hI.ic.fr rfl (fun _ _ => rfl) (fun a ha => jua_ne (by omega))) hR1 hD1.jE
  · simp only [← eF 0, ← eF 1, ← eA 150 (by omega)] at r5 c5 a5 k
    exact md_once hR1 r5 c5 a5 hb (fun h2 f hR2 hD2 => k h2 _ g (fun a ha => jua_ne (by omega)) hR2 hD2)
theorem jp_unlike (hZ : jZ h) {b : Nat} (hb : b ≤ 1) : jPr (d + 16) 93 [.ref 1, .int (nI b)] 147 [.ref 149, .int (nI b), jx_u, jx_u, jx_u, jx_u, jx_u, jx_u, jx_u] h := by
  obtain ⟨F, A, G, g, hR, hI⟩ := hZ
  obtain ⟨a1, a2, r1, r5, c1, c5, a3, a4, a5, a6⟩ := hI.ia
  refine jPr.q (x := nI (junl (A 150) (F 149 0) (F 149 1) b)) hR hI (fun Q k => tb_unlike hR (by omega) (by omega) hb ?_) (fun F1 A1 h1 Q eF eA hR1 k => ?_)
  · rw [a1, a2, a3.unl]
    exact k h F A jQF.rf jQA.rf hI.ib hI.ic hR jD.rf.jE
  · simp only [← eF 0, ← eF 1, ← eA 150 (by omega)] at r5 c5 a5 k
    exact md_unlike hR1 r5 c5 hb (k h1 A1 g jQM.rf hR1 jD.rf)
theorem jp_place (hZ : jZ h) (x y : Int32) : jPr (d + 16) 88 [.ref 1, .int x, .int y] 141 [.ref 149, .int x, .int y] h := by
  obtain ⟨F, A, G, g, hR, hI⟩ := hZ
  obtain ⟨a1, a2, r1, r5, c1, c5, a3, a4, a5, a6⟩ := hI.ia
  by_cases z : jbel x (F 149 0) = true ∧ jbel y (F 149 1) = true
  · obtain ⟨r, hr, ex⟩ := (jbel_iff (by omega)).mp z.1
    obtain ⟨c, hc, ey⟩ := (jbel_iff (by omega)).mp z.2
    subst ex; subst ey
    refine jPr.q (x := A 150 (5 * r + c)) hR hI (fun Q k => tb_place_t hR (by omega) (by omega) (by omega) (by omega) ?_) (fun F1 A1 h1 Q eF eA hR1 k => ?_)
    · rw [a3 r c hr hc]
      exact k h F A jQF.rf jQA.rf hI.ib hI.ic hR jD.rf.jE
    · simp only [← eF 0, ← eF 1, ← eA 150 (by omega)] at r5 c5 hr hc k
      exact md_place_t hR1 r5 c5 hr hc (k h1 A1 g jQM.rf hR1 jD.rf)
  · refine jPr.f (x := -1) hR hI (fun Q k => tb_place_f hR (by rw [a1, a2]; exact z) k) (fun F1 h1 Q e hR1 k => md_place_f hR1 (by rw [e, e]; exact z) k)
theorem jp_told (hZ : jZ h) (x : Int32) : jPr (d + 16) 119 [.ref 1, .int x] 196 [.ref 149, .int x] h := by
  obtain ⟨F, A, G, g, hR, hI⟩ := hZ
  obtain ⟨a1, a2, r1, r5, c1, c5, a3, a4, a5, a6⟩ := hI.ia
  by_cases z : jbel x 7 = true
  · obtain ⟨r, hr, ex⟩ := (jbel_iff (by omega)).mp z
    subst ex
    refine jPr.q (x := nI (jtold (F 149 0) (F 149 1) (jcnt (A 150) (F 149 0) (F 149 1) (nI 1)) (jcnt (A 150) (F 149 0) (F 149 1) (nI 2)) (F 149 11) (F 149 14) (F 149 13) r)) hR hI (fun Q k => tb_told_t hR (by omega) (by omega) hr ?_) (fun F1 A1 h1 Q eF eA hR1 k => ?_)
    · rw [a1, a2, a3.cnt, a3.cnt, hI.iw.1, hI.ik.1, hI.fd]
      exact k h F A jQF.rf jQA.rf hI.ib hI.ic hR jD.rf.jE
    · simp only [← eF 0, ← eF 1, ← eF 11, ← eF 13, ← eF 14, ← eA 150 (by omega)] at r5 c5 k
      exact md_told_t hR1 r5 c5 hr (k h1 A1 g jQM.rf hR1 jD.rf)
  · refine jPr.f (x := -1) hR hI (fun Q k => tb_told_f hR z k) (fun F1 h1 Q e hR1 k => md_told_f hR1 z k)
theorem jp_rank (hZ : jZ h) (fr : Bool) : jPr (d + 16) 105 [.ref 1, .int (nI fr.toNat)] 173 [.ref 149, .int (nI fr.toNat), jx_u, jx_u, jx_u, jx_u, jx_u, jx_u, jx_u, jx_u, jx_u, jx_u, jx_u, jx_u, jx_u, jx_u, jx_u, jx_u, jx_u, jx_u, jx_u, jx_u, jx_u, jx_u, jx_u, jx_u, jx_u] h := by
  obtain ⟨F, A, G, g, hR, hI⟩ := hZ
  obtain ⟨a1, a2, r1, r5, c1, c5, a3, a4, a5, a6⟩ := hI.ia
  by_cases z : jcnt (A 150) (F 149 0) (F 149 1) (nI 2) = 0
  · refine jPr.q (x := nI (jrs fr (F 149 0) (F 149 1) (fun q => (A 150 q).toInt) (F 149 1)).1) hR hI (fun Q k => tb_rank_t hR hI.hp (by omega) (by omega) hI.vv (by rw [a1, a2, a3.cnt]; exact z) (fun h1 hR1 hE1 => ?_)) (fun F1 A1 h1 Q eF eA hR1 k => ?_)
    · rw [a1, a2, a3.rs c5]
      exact k h1 F A jQF.rf jQA.rf hI.ib hI.ic hR1 hE1
    · simp only [← eF 0, ← eF 1, ← eA 150 (by omega)] at r5 c5 a5 z k
      exact md_rank_t hR1 r5 c5 a5 z (fun h2 g2 hR2 hD2 => k h2 A1 g2 jQM.rf hR2 hD2)
  · refine jPr.f (x := -8) hR hI (fun Q k => tb_rank_f hR (by omega) (by omega) (by rw [a1, a2, a3.cnt]; omega) k) (fun F1 h1 Q e hR1 k => md_rank_f hR1 (by rw [e]; exact r5) (by rw [e]; exact c5) (by rw [e, e]; omega) k)
theorem jp_fool (hZ : jZ h) (x : Int32) : jPr (d + 16) 106 [.ref 1, .int x] 175 [.ref 149, .int x, jx_u, jx_u, jx_u, jx_u, jx_u, jx_u, jx_u, jx_u, jx_u] h := by
  obtain ⟨F, A, G, g, hR, hI⟩ := hZ
  obtain ⟨a1, a2, r1, r5, c1, c5, a3, a4, a5, a6⟩ := hI.ia
  by_cases z : jbel x 2 = true
  · obtain ⟨r, hr, ex⟩ := (jbel_iff (by omega)).mp z
    subst ex
    refine jPr.q (x := nI (jfm (A 150) (F 149 0) (F 149 1) (nI r) ((F 149 1 + 1) ^ F 149 0))) hR hI (fun Q k => tb_fool_t hR hI.im.1 a1 a2 r5 c5 hr (fun h1 f q hR1 hD1 => ?_)) (fun F1 A1 h1 Q eF eA hR1 k => ?_)
    · exact k h1 (jup F 146 5 q) (jua A 147 f) (fun o k _ _ n => jup_ne (Or.inl n)) (fun a ha => jua_ne (by omega)) (hI.ib.fr (jup_ne (by omega)) (fun k _ => jup_ne (by omega)) (fun a ha => jua_ne (by omega))) (hI.ic.fr (jup_ne (by omega)) (fun k _ => jup_ne (by omega)) (fun a ha => jua_ne (by omega))) hR1 hD1.jE
    · simp only [← eF 0, ← eF 1, ← eA 150 (by omega)] at r5 c5 a5 k
      exact md_fool_t hR1 r5 c5 a5 hr (fun h2 f hR2 hD2 => k h2 _ g (fun a ha => jua_ne (by omega)) hR2 hD2)
  · refine jPr.f (x := -1) hR hI (fun Q k => tb_fool_f hR z k) (fun F1 h1 Q e hR1 k => md_fool_f hR1 z k)
theorem jp_cover (hZ : jZ h) (x : Int32) : jPr (d + 16) 107 [.ref 1, .int x] 179 [.ref 149, .int x, jx_u, jx_u, jx_u] h := by
  obtain ⟨F, A, G, g, hR, hI⟩ := hZ
  obtain ⟨a1, a2, r1, r5, c1, c5, a3, a4, a5, a6⟩ := hI.ia
  by_cases z : jbel x 2 = true
  · obtain ⟨r, hr, ex⟩ := (jbel_iff (by omega)).mp z
    subst ex
    refine jPr.q (x := nI (jcn (A 150) (F 149 0) (F 149 1) r)) hR hI (fun Q k => tb_cover_t hR hI.im.1 a1 a2 r5 c5 hr (fun h1 A1 F1 eA eF hR1 hD1 => ?_)) (fun F1 A1 h1 Q eF eA hR1 k => ?_)
    · exact k h1 F1 A1 (fun o k _ _ n => eF o k n) (fun a ha => eA a (by omega) (by omega)) (hI.ib.fr (eF _ _ (by decide)) (fun k _ => eF _ _ (by decide)) (fun a ha => eA a (by omega) (by omega))) (hI.ic.fr (eF _ _ (by decide)) (fun k _ => eF _ _ (by decide)) (fun a ha => eA a (by omega) (by omega))) hR1 hD1.jE
    · simp only [← eF 0, ← eF 1, ← eA 150 (by omega)] at r5 c5 a5 k
      exact md_cover hR1 r5 c5 hr (fun A2 h2 eA2 hR2 hD2 => k h2 A2 g (fun a ha => eA2 a (by omega) (by omega)) hR2 hD2)
  · refine jPr.f (x := -1) hR hI (fun Q k => tb_cover_f hR z k) (fun F1 h1 Q e hR1 k => md_cover_f hR1 z k)
theorem jp_swing (hZ : jZ h) : jPr (d + 16) 109 [.ref 1] 182 [.ref 149, jx_u, jx_u, jx_u] h := by
  obtain ⟨F, A, G, g, hR, hI⟩ := hZ
  obtain ⟨a1, a2, r1, r5, c1, c5, a3, a4, a5, a6⟩ := hI.ia
  have w1 := hI.ww.1
  have w2 := hI.ww.2
  have sc := hI.ic
  unfold jIc at sc
  have mk := a3.sy.mk hI.im.1
  refine jPr.q (x := nI (jsw (A 150) (fun q => (A 4 q).toNatClampNeg) (F 149 0) (F 149 1) (jalB (F 149 0) (F 149 1) + 1))) hR hI (fun Q k => ?_) (fun F1 A1 h1 Q eF eA hR1 k => ?_)
  · rw [← a1, ← a2] at w1 sc mk a3 k
    refine tb_swing hR (by omega) (by omega) (by omega) (by omega) mk w1 sc (fun h1 A1 b hS eA hR1 hD1 => ?_)
    rw [a3.sw]
    rw [a1, a2] at hS
    refine k h1 (jup F 132 7 b) A1 (fun o k _ n _ => jup_ne (Or.inl n)) (fun a ha => eA a (by omega)) (hI.ib.fr (jup_ne (by omega)) (fun k _ => jup_ne (by omega)) (fun a ha => eA a (by omega))) (.inr ⟨b, ?_⟩) hR1 hD1.jE
    rw [jup_ne (by omega), jup_ne (by omega), eA 3 (by omega), eA 4 (by omega)]
    exact hS
  · simp only [← eF 0, ← eF 1, ← eA 150 (by omega), ← eA 151 (by omega)] at r5 c5 w2 k
    exact md_swing hR1 r5 c5 w2 (k h1 A1 g jQM.rf hR1 jD.rf)
theorem jp_wrong (hZ : jZ h) (x : Int32) : jPr (d + 16) 110 [.ref 1, .int x] 183 [.ref 149, .int x, jx_u, jx_u, jx_u, jx_u, jx_u, jx_u] h := by
  obtain ⟨F, A, G, g, hR, hI⟩ := hZ
  obtain ⟨a1, a2, r1, r5, c1, c5, a3, a4, a5, a6⟩ := hI.ia
  have w1 := hI.ww.1
  have w2 := hI.ww.2
  have sc := hI.ic
  unfold jIc at sc
  have mk := a3.sy.mk hI.im.1
  by_cases z : jbel x 7 = true
  · obtain ⟨n, hn, ex⟩ := (jbel_iff (by omega)).mp z
    subst ex
    refine jPr.q (x := nI (jwr (A 150) (fun q => (A 4 q).toNatClampNeg) (F 149 0) (F 149 1) n (jalB (F 149 0) (F 149 1)))) hR hI (fun Q k => ?_) (fun F1 A1 h1 Q eF eA hR1 k => ?_)
    · rw [← a1, ← a2] at w1 sc mk a3 k
      refine tb_wrong_t hR (by omega) (by omega) (by omega) (by omega) hI.im.2.1 mk w1 sc hn (fun h1 A1 b hS eA hR1 hD1 => ?_)
      rw [a3.wr]
      rw [a1, a2] at hS
      refine k h1 (jup F 132 7 b) A1 (fun o k _ n _ => jup_ne (Or.inl n)) (fun a ha => eA a (by omega)) (hI.ib.fr (jup_ne (by omega)) (fun k _ => jup_ne (by omega)) (fun a ha => eA a (by omega))) (.inr ⟨b, ?_⟩) hR1 hD1.jE
      rw [jup_ne (by omega), jup_ne (by omega), eA 3 (by omega), eA 4 (by omega)]
      exact hS
    · simp only [← eF 0, ← eF 1, ← eA 150 (by omega), ← eA 151 (by omega)] at r5 c5 r1 c1 w2 k
      exact md_wrong_t hR1 r5 c5 r1 c1 w2 hn (fun h2 f hR2 hD2 => k h2 _ g (fun a ha => jua_ne (by omega)) hR2 hD2)
  · refine jPr.f (x := -1) hR hI (fun Q k => tb_wrong_f hR z k) (fun F1 h1 Q e hR1 k => md_wrong_f hR1 z k)
/-- what is still owed for part: the fewest parts are the fewest ends, up to 4 by 4 -/
def jPart : Prop := ∀ (v : Nat → Int32) (R C : Nat), 1 ≤ R → R ≤ 4 → 1 ≤ C → C ≤ 4 → jV v R C → jps v R C (jw4 R C) = jfe v R C (jalB R C)
theorem jp_part (hp : jPart) (hZ : jZ h) : jPr (d + 16) 108 [.ref 1] 180 [.ref 149, jx_u, jx_u, jx_u, jx_u, jx_u, jx_u] h := by
  obtain ⟨F, A, G, g, hR, hI⟩ := hZ
  obtain ⟨a1, a2, r1, r5, c1, c5, a3, a4, a5, a6⟩ := hI.ia
  by_cases z : F 149 0 ≤ 4 ∧ F 149 1 ≤ 4
  · have pq := hp (A 150) (F 149 0) (F 149 1) r1 z.1 c1 z.2 a5
    refine jPr.q (x := nI (jps (A 150) (F 149 0) (F 149 1) (jw4 (F 149 0) (F 149 1)))) hR hI (fun Q k => ?_) (fun F1 A1 h1 Q eF eA hR1 k => ?_)
    · have mk := hI.im.1
      have ib := hI.ib
      unfold jIb at ib
      rw [pq] at k
      rw [← a1, ← a2] at mk ib k
      refine tb_part_t hR hI.im.2.1 mk (by omega) (by omega) (by omega) (by omega) ib (fun h1 A1 hB hA hR1 hD1 => ?_)
      rw [a1, a2] at hB
      refine k h1 (jup F 128 5 1) A1 (fun o k n1 _ _ => jup_ne (Or.inl n1)) (fun a ha => hA a (by omega) (by omega)) (.inr ⟨jup_same, ?_⟩) (hI.ic.fr (jup_ne (by omega)) (fun k _ => jup_ne (by omega)) (fun a ha => hA a (by omega) (by omega))) hR1 hD1.jE
      rw [jup_ne (by omega), jup_ne (by omega), hA 150 (by omega) (by omega)]
      exact hB
    · simp only [← eF 0, ← eF 1, ← eA 150 (by omega)] at r5 c5 z a5 k
      exact md_part hR1 z.1 z.2 a5 (fun A2 h2 eA2 hR2 hD2 => k h2 A2 g (fun a ha => eA2 a (by omega) (by omega)) hR2 hD2)
  · refine jPr.f (x := -7) hR hI (fun Q k => tb_part_f hR (by omega) (by omega) (by omega) k) (fun F1 h1 Q e hR1 k => md_part_f hR1 (by rw [e]; exact r5) (by rw [e]; exact c5) (by rw [e, e]; omega) k)
end PAIR2
