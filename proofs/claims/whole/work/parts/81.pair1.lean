/-! ===== the class and the reference answer alike: what is asked ===== -/
section PAIR1
def jZ (h : jxH) : Prop := ∃ F A G g, jR F A G g h ∧ jI F A G h
/-- what a call may do to the cells at large -/
def jLg (h h' : jxH) : Prop := h.1 ≤ h'.1 ∧ h'.1 ≤ h.1 + 3 ∧ h'.2.1 ≤ h.2.1 + 60 ∧ h'.2.2 0 = h.2.2 0
def jPr (d m1 : Nat) (l1 : List Value) (m2 : Nat) (l2 : List Value) (h : jxH) : Prop := jx_Go jxP d m1 0 l1 [] h (fun s1 h1 => ∃ a : Int32, s1 = [.int a] ∧ (h1.2.2 0 = h.2.2 0 ∧ jx_cl h1 149 = some 12) ∧ jx_Go jxP d m2 0 l2 [] h1 (fun s2 h2 => s2 = [.int a] ∧ jZ h2 ∧ jLg h h2))
variable {d m1 m2 : Nat} {l1 l2 : List Value} {F : Nat → Nat → Nat} {A : Nat → Nat → Int32} {G : Nat → Option Nat} {g : Nat → Int64} {h : jxH} {x : Int32}
theorem jE.tD {h1 h2 : jxH} (a : jE h h1) (b : jD h1 h2) : jE h h2 := ⟨by rw [b.1]; exact a.1, by rw [b.1]; exact a.2.1, by rw [b.2.1]; exact a.2.2.1, fun i hi => (b.2.2 i (by omega)).trans (a.2.2.2 i hi)⟩
theorem jE.jLg {h1 : jxH} (a : jE h h1) : jLg h h1 := ⟨a.1, a.2.1, a.2.2.1, a.2.2.2 0 (.inr rfl)⟩
theorem jmid {h1 : jxH} (hR : jR F A G g h1) (e : h1.2.2 0 = h.2.2 0) : h1.2.2 0 = h.2.2 0 ∧ jx_cl h1 149 = some 12 := ⟨e, jc_of_149 hR⟩
theorem jPr.f (hR : jR F A G g h) (hI : jI F A G h) (c : ∀ Q : List Value → jxH → Prop, (∀ h', jR (jup F 1 11 (F 1 11 + 1)) A G g h' → jD h h' → Q [.int x] h') → jx_Go jxP d m1 0 l1 [] h Q) (m : ∀ F1 h1 (Q : List Value → jxH → Prop), (∀ k, F1 149 k = F 149 k) → jR F1 A G g h1 → (∀ h', jR (jup F1 149 13 (F1 149 13 + 1)) A G g h' → jD h1 h' → Q [.int x] h') → jx_Go jxP d m2 0 l2 [] h1 Q) : jPr d m1 l1 m2 l2 h := by
  refine c _ (fun h1 hR1 hD1 => ⟨x, rfl, jmid hR1 (hD1.2.2 0 (.inr rfl)), ?_⟩)
  have e : ∀ k, jup F 1 11 (F 1 11 + 1) 149 k = F 149 k := fun k => jup_ne (by omega)
  refine m _ h1 _ e hR1 (fun h2 hR2 hD2 => ⟨rfl, ?_, (hD1.tr hD2).jE.jLg⟩)
  rw [e 13] at hR2
  exact ⟨_, _, _, _, hR2, hI.f (hD1.tr hD2).jE⟩
def jQF (F F1 : Nat → Nat → Nat) : Prop := ∀ o k, o ≠ 128 → o ≠ 132 → o ≠ 146 → F1 o k = F o k
def jQA (A A1 : Nat → Nat → Int32) : Prop := ∀ a, (a < 105 ∨ a = 110 ∨ a = 111 ∨ (116 < a ∧ a < 129) ∨ (136 < a ∧ a < 147) ∨ 148 < a) → A1 a = A a
def jQM (A A1 : Nat → Nat → Int32) : Prop := ∀ a, (a < 159 ∨ (161 < a ∧ a < 168)) → A1 a = A a
theorem jPr.q (hR : jR F A G g h) (hI : jI F A G h) (c : ∀ Q : List Value → jxH → Prop, (∀ h1 F1 A1, jQF F F1 → jQA A A1 → jIb F1 A1 → jIc F1 A1 → jR F1 A1 G g h1 → jE h h1 → Q [.int x] h1) → jx_Go jxP d m1 0 l1 [] h Q) (m : ∀ F1 A1 h1 (Q : List Value → jxH → Prop), (∀ k, F1 149 k = F 149 k) → (∀ a, 149 ≤ a → A1 a = A a) → jR F1 A1 G g h1 → (∀ h2 A2 g2, jQM A1 A2 → jR F1 A2 G g2 h2 → jD h1 h2 → Q [.int x] h2) → jx_Go jxP d m2 0 l2 [] h1 Q) : jPr d m1 l1 m2 l2 h := by
  refine c _ (fun h1 F1 A1 eF eA ib ic hR1 hE1 => ⟨x, rfl, jmid hR1 (hE1.2.2.2 0 (.inr rfl)), ?_⟩)
  refine m F1 A1 h1 _ (fun k => eF _ _ (by decide) (by decide) (by decide)) (fun a ha => eA a (by omega)) hR1 (fun h2 A2 g2 eM hR2 hD2 => ⟨rfl, ⟨F1, A2, G, g2, hR2, ?_⟩, (hE1.tD hD2).jLg⟩)
  exact hI.q eF (fun a ha => (eM a (by omega)).trans (eA a (by omega))) (ib.fr rfl (fun _ _ => rfl) (fun a ha => eM a (by omega))) (ic.fr rfl (fun _ _ => rfl) (fun a ha => eM a (by omega))) (hE1.tD hD2)
theorem jQF.rf : jQF F F := fun _ _ _ _ _ => rfl
theorem jQA.rf : jQA A A := fun _ _ => rfl
theorem jQM.rf : jQM A A := fun _ _ => rfl
theorem jI.vv (e : jI F A G h) : jV (A 3) (F 2 0) (F 2 1) := by
  obtain ⟨e1, e2, _, _, _, _, e3, _, e4, _⟩ := e.ia
  rw [e1, e2]
  exact e3.sy.jv e4
theorem jI.ww (e : jI F A G h) : jW (A 4) (F 149 0) (F 149 1) (fun q => (A 4 q).toNatClampNeg) ∧ jW (A 151) (F 149 0) (F 149 1) (fun q => (A 4 q).toNatClampNeg) := by
  obtain ⟨e1, e2, _, _, _, _, _, e3, _, e4⟩ := e.ia
  constructor
  · intro r c h1 h2
    obtain ⟨j, hj, ej⟩ := (jbel_iff (by omega)).mp (e4 r c h1 h2)
    dsimp only
    rw [e3 r c h1 h2, ej, jn_cl (by omega)]
    exact ⟨rfl, by omega⟩
  · intro r c h1 h2
    obtain ⟨j, hj, ej⟩ := (jbel_iff (by omega)).mp (e4 r c h1 h2)
    dsimp only
    rw [e3 r c h1 h2, ej, jn_cl (by omega)]
    exact ⟨rfl, by omega⟩
theorem jp_bits (hZ : jZ h) (x y : Int32) : jPr (d + 16) 98 [.ref 1, .int x, .int y] 162 [.ref 149, .int x, .int y] h := by
  obtain ⟨F, A, G, g, hR, hI⟩ := hZ
  obtain ⟨a1, a2, r1, r5, c1, c5, a3, a4, a5, a6⟩ := hI.ia
  by_cases z : (jset x (F 149 0) && jset y (F 149 1)) = true
  · obtain ⟨z1, z2⟩ := (Bool.and_eq_true _ _).mp z
    obtain ⟨x', x0, xl, ex⟩ := (jset_iff r5).mp z1
    obtain ⟨y', y0, yl, ey⟩ := (jset_iff c5).mp z2
    subst ex; subst ey
    refine jPr.q (x := nI (jlb (A 150) (F 149 0) (F 149 1) (32 * x' + y'))) hR hI (fun Q k => tb_bits_t hR hI.im.2.1 hI.im.1 r5 c5 hI.ib x0 xl y0 yl (fun h1 A1 hB hA hR1 hD1 => ?_)) (fun F1 A1 h1 Q eF eA hR1 k => ?_)
    · refine k h1 (jup F 128 5 1) A1 (fun o k n1 _ _ => jup_ne (Or.inl n1)) (fun a ha => hA a (by omega) (by omega)) (.inr ⟨jup_same, ?_⟩) (hI.ic.fr (jup_ne (by omega)) (fun k _ => jup_ne (by omega)) (fun a ha => hA a (by omega) (by omega))) hR1 hD1.jE
      rw [jup_ne (by omega), jup_ne (by omega), hA 150 (by omega) (by omega)]
      exact hB
    · simp only [← eF 0, ← eF 1, ← eA 150 (by omega)] at r5 c5 a5 xl yl k
      exact md_bits_t hR1 r5 c5 a5 x0 xl y0 yl (fun h2 tb te _ hR2 hD2 => k h2 _ g (fun a ha => by rw [jua_ne (by omega), jua_ne (by omega)]) hR2 hD2)
  · refine jPr.f (x := -1) hR hI (fun Q k => tb_bits_f hR hI.im.1 r5 c5 z k) (fun F1 h1 Q e hR1 k => md_bits_f hR1 (by rw [e]; exact r5) (by rw [e]; exact c5) (by rw [e, e]; exact z) k)
theorem jp_ends (hZ : jZ h) (x y : Int32) : jPr (d + 16) 99 [.ref 1, .int x, .int y] 163 [.ref 149, .int x, .int y] h := by
  obtain ⟨F, A, G, g, hR, hI⟩ := hZ
  obtain ⟨a1, a2, r1, r5, c1, c5, a3, a4, a5, a6⟩ := hI.ia
  by_cases z : (jset x (F 149 0) && jset y (F 149 1)) = true
  · obtain ⟨z1, z2⟩ := (Bool.and_eq_true _ _).mp z
    obtain ⟨x', x0, xl, ex⟩ := (jset_iff r5).mp z1
    obtain ⟨y', y0, yl, ey⟩ := (jset_iff c5).mp z2
    subst ex; subst ey
    refine jPr.q (x := nI (jfe (A 150) (F 149 0) (F 149 1) (32 * x' + y'))) hR hI (fun Q k => tb_ends_t hR hI.im.2.1 hI.im.1 r5 c5 hI.ib x0 xl y0 yl (fun h1 A1 hB hA hR1 hD1 => ?_)) (fun F1 A1 h1 Q eF eA hR1 k => ?_)
    · refine k h1 (jup F 128 5 1) A1 (fun o k n1 _ _ => jup_ne (Or.inl n1)) (fun a ha => hA a (by omega) (by omega)) (.inr ⟨jup_same, ?_⟩) (hI.ic.fr (jup_ne (by omega)) (fun k _ => jup_ne (by omega)) (fun a ha => hA a (by omega) (by omega))) hR1 hD1.jE
      rw [jup_ne (by omega), jup_ne (by omega), hA 150 (by omega) (by omega)]
      exact hB
    · simp only [← eF 0, ← eF 1, ← eA 150 (by omega)] at r5 c5 a5 xl yl k
      exact md_ends_t hR1 r5 c5 a5 x0 xl y0 yl (fun h2 tb te _ hR2 hD2 => k h2 _ g (fun a ha => by rw [jua_ne (by omega), jua_ne (by omega)]) hR2 hD2)
  · refine jPr.f (x := -1) hR hI (fun Q k => tb_ends_f hR hI.im.1 r5 c5 z k) (fun F1 h1 Q e hR1 k => md_ends_f hR1 (by rw [e]; exact r5) (by rw [e]; exact c5) (by rw [e, e]; exact z) k)
end PAIR1
