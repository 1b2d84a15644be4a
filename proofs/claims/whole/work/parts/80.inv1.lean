/-! ===== what holds between the calls ===== -/
section INV1
/-- one task, as the class and as the reference keep it -/
def jTq (R C : Nat) (f w f' w' : Nat → Int32) : Prop := 1 ≤ R ∧ R ≤ 5 ∧ 1 ≤ C ∧ C ≤ 5 ∧ jAg f f' R C ∧ jAg w w' R C ∧ jV f' R C ∧ ∀ r c, r < R → c < C → jbel (w' (5 * r + c)) 10 = true
def jIa (F : Nat → Nat → Nat) (A : Nat → Nat → Int32) : Prop := F 2 0 = F 149 0 ∧ F 2 1 = F 149 1 ∧ jTq (F 149 0) (F 149 1) (A 3) (A 4) (A 150) (A 151)
def jHq (F : Nat → Nat → Nat) (A : Nat → Nat → Int32) (i c : Nat) : Prop := A 152 (52 * i) = nI (F (9 + 3 * c) 0) ∧ A 152 (52 * i + 1) = nI (F (9 + 3 * c) 1) ∧ jTq (F (9 + 3 * c) 0) (F (9 + 3 * c) 1) (A (10 + 3 * c)) (A (11 + 3 * c)) (fun j => A 152 (52 * i + 2 + j)) (fun j => A 152 (52 * i + 27 + j))
def jIh (F : Nat → Nat → Nat) (A : Nat → Nat → Int32) : Prop := F 7 1 < 30 ∧ F 7 2 = F 149 4 ∧ F 149 4 ≤ 30 ∧ ∀ i, i < F 149 4 → jHq F A i ((F 7 1 + 30 - F 149 4 + i) % 30)
def jSq (A : Nat → Nat → Int32) (h : jxH) (s o : Nat) : Prop := 182 ≤ o ∧ o + 2 < h.1 ∧ ∃ R C f w, jTk h o (o + 1) (o + 2) R C f w ∧ A 153 (52 * s) = nI R ∧ A 153 (52 * s + 1) = nI C ∧ jTq R C f w (fun j => A 153 (52 * s + 2 + j)) (fun j => A 153 (52 * s + 27 + j)) ∧ A 154 s = nI (jkind f R C)
def jIs (A : Nat → Nat → Int32) (G : Nat → Option Nat) (h : jxH) : Prop := (∀ s, s < 4 → (G s = none ∧ A 154 s = -1) ∨ ∃ o, G s = some o ∧ jSq A h s o) ∧ ∀ s t o p, s < 4 → t < 4 → s ≠ t → G s = some o → G t = some p → o + 2 < p ∨ p + 2 < o
def jnr (x y : Int32) : Prop := jbel x 3 = jbel y 3 ∧ (jbel y 3 = true → x = y)
def jIt (F : Nat → Nat → Nat) (A : Nat → Nat → Int32) : Prop := ∀ s, s < 4 → A 155 s = nI (F (117 + 2 * s) 0) ∧ A 156 s = nI (F (117 + 2 * s) 1) ∧ (F (117 + 2 * s) 0 = 0 ∨ F (117 + 2 * s) 0 = 8 ∨ F (117 + 2 * s) 0 = 16 ∨ F (117 + 2 * s) 0 = 32) ∧ F (117 + 2 * s) 1 ≤ 30 ∧ ∀ i, i < 30 → jnr (A (118 + 2 * s) i) (A 157 (30 * s + i))
def jIm (F : Nat → Nat → Nat) (A : Nat → Nat → Int32) : Prop := jMk F A (A 150) (F 149 0) (F 149 1) ∧ jPa A ∧ ∀ c, c < 5 → A 104 c = nI 0 ∧ A 111 c = nI 0
def jIb (F : Nat → Nat → Nat) (A : Nat → Nat → Int32) : Prop := F 128 5 = 0 ∨ (F 128 5 = 1 ∧ jBl A (A 150) (F 149 0) (F 149 1))
def jIc (F : Nat → Nat → Nat) (A : Nat → Nat → Int32) : Prop := F 132 7 = 4294967295 ∨ ∃ b, jSc F A (A 3) (fun q => (A 4 q).toNatClampNeg) (F 149 0) (F 149 1) b
def jIk (F : Nat → Nat → Nat) (A : Nat → Nat → Int32) : Prop := F 137 8 = F 149 14 ∧ (F 149 14 = 0 ∨ (F 149 14 = jtS (A 150) (F 149 0) (F 149 1) 1024 (jalB (F 149 0) (F 149 1)) ∧ jtc (A 150) (F 149 0) (F 149 1) 1024 0 (jalB (F 149 0) (F 149 1)) 0 A ∧ jtk (A 150) (F 149 0) (F 149 1) 1024 0 (jalB (F 149 0) (F 149 1)) 0 A))
def jIw (F : Nat → Nat → Nat) (A : Nat → Nat → Int32) : Prop := F 144 3 = F 149 11 ∧ F 149 11 ≤ 120 ∧ ∀ i, i < F 149 11 → A 145 i = A 158 i
def jI (F : Nat → Nat → Nat) (A : Nat → Nat → Int32) (G : Nat → Option Nat) (h : jxH) : Prop := jIa F A ∧ jIh F A ∧ jIs A G h ∧ jIt F A ∧ jIm F A ∧ jIb F A ∧ jIc F A ∧ jIk F A ∧ jIw F A ∧ F 1 11 = F 149 13 ∧ 182 ≤ h.1
variable {F F' : Nat → Nat → Nat} {A A' : Nat → Nat → Int32} {G : Nat → Option Nat} {g : Nat → Int64} {h h' : jxH}
theorem jI.ia (e : jI F A G h) : jIa F A := e.1
theorem jI.ih (e : jI F A G h) : jIh F A := e.2.1
theorem jI.is (e : jI F A G h) : jIs A G h := e.2.2.1
theorem jI.it (e : jI F A G h) : jIt F A := e.2.2.2.1
theorem jI.im (e : jI F A G h) : jIm F A := e.2.2.2.2.1
theorem jI.ib (e : jI F A G h) : jIb F A := e.2.2.2.2.2.1
theorem jI.ic (e : jI F A G h) : jIc F A := e.2.2.2.2.2.2.1
theorem jI.ik (e : jI F A G h) : jIk F A := e.2.2.2.2.2.2.2.1
theorem jI.iw (e : jI F A G h) : jIw F A := e.2.2.2.2.2.2.2.2.1
theorem jI.fd (e : jI F A G h) : F 1 11 = F 149 13 := e.2.2.2.2.2.2.2.2.2.1
theorem jI.hp (e : jI F A G h) : 182 ≤ h.1 := e.2.2.2.2.2.2.2.2.2.2
theorem jIa.fr (e : jIa F A) (hF : ∀ k, k < 2 → F' 2 k = F 2 k ∧ F' 149 k = F 149 k) (a3 : A' 3 = A 3) (a4 : A' 4 = A 4) (a5 : A' 150 = A 150) (a6 : A' 151 = A 151) : jIa F' A' := by
  unfold jIa
  rw [(hF 0 (by omega)).1, (hF 1 (by omega)).1, (hF 0 (by omega)).2, (hF 1 (by omega)).2, a3, a4, a5, a6]
  exact e
theorem jHq.fr {i c : Nat} (e : jHq F A i c) (f0 : F' (9 + 3 * c) 0 = F (9 + 3 * c) 0) (f1 : F' (9 + 3 * c) 1 = F (9 + 3 * c) 1) (a0 : A' (10 + 3 * c) = A (10 + 3 * c)) (a1 : A' (11 + 3 * c) = A (11 + 3 * c)) (a2 : ∀ j, j < 52 → A' 152 (52 * i + j) = A 152 (52 * i + j)) : jHq F' A' i c := by
  obtain ⟨e1, e2, e3, e4, e5, e6, e7, e8, e9, e10⟩ := e
  have b0 := a2 0 (by omega)
  rw [Nat.add_zero] at b0
  unfold jHq
  rw [f0, f1, a0, a1, b0, a2 1 (by omega)]
  have bb : ∀ r c, r < 5 → c < 5 → A' 152 (52 * i + 2 + (5 * r + c)) = A 152 (52 * i + 2 + (5 * r + c)) := fun r c h1 h2 => by
    have := a2 (2 + (5 * r + c)) (by omega)
    rwa [← Nat.add_assoc] at this
  have bw : ∀ r c, r < 5 → c < 5 → A' 152 (52 * i + 27 + (5 * r + c)) = A 152 (52 * i + 27 + (5 * r + c)) := fun r c h1 h2 => by
    have := a2 (27 + (5 * r + c)) (by omega)
    rwa [← Nat.add_assoc] at this
  refine ⟨e1, e2, e3, e4, e5, e6, fun r c h1 h2 => ?_, fun r c h1 h2 => ?_, fun r c h1 h2 => ?_, fun r c h1 h2 => ?_⟩
  · rw [e7 r c h1 h2]; exact (bb r c (by omega) (by omega)).symm
  · rw [e8 r c h1 h2]; exact (bw r c (by omega) (by omega)).symm
  · have := e9 r c h1 h2
    dsimp only at this ⊢
    rwa [bb r c (by omega) (by omega)]
  · have := e10 r c h1 h2
    dsimp only at this ⊢
    rwa [bw r c (by omega) (by omega)]
theorem jIh.fr (e : jIh F A) (hF : ∀ o k, 7 ≤ o → o < 97 → F' o k = F o k) (f4 : F' 149 4 = F 149 4) (hA : ∀ a, 8 ≤ a → a < 99 → A' a = A a) (a2 : A' 152 = A 152) : jIh F' A' := by
  obtain ⟨e1, e2, e3, e4⟩ := e
  unfold jIh
  rw [hF 7 1 (by omega) (by omega), hF 7 2 (by omega) (by omega), f4]
  refine ⟨e1, e2, e3, fun i hi => ?_⟩
  have m := Nat.mod_lt (F 7 1 + 30 - F 149 4 + i) (show 0 < 30 by omega)
  exact (e4 i hi).fr (hF _ _ (by omega) (by omega)) (hF _ _ (by omega) (by omega)) (hA _ (by omega) (by omega)) (hA _ (by omega) (by omega)) (fun j _ => by rw [a2])
theorem jSq.fr {s o : Nat} (e : jSq A h s o) (a3 : A' 153 = A 153) (a4 : A' 154 = A 154) (hE : jE h h') : jSq A' h' s o := by
  obtain ⟨e1, e2, R, C, f, w, t, e3, e4, e5, e6⟩ := e
  refine ⟨e1, Nat.lt_of_lt_of_le e2 hE.1, R, C, f, w, t.eq (hE.2.2.2 _ (by omega)) (hE.2.2.2 _ (by omega)) (hE.2.2.2 _ (by omega)), ?_⟩
  rw [a3, a4]
  exact ⟨e3, e4, e5, e6⟩
theorem jIs.fr (e : jIs A G h) (a3 : A' 153 = A 153) (a4 : A' 154 = A 154) (hE : jE h h') : jIs A' G h' := by
  refine ⟨fun s hs => ?_, e.2⟩
  rcases e.1 s hs with q | ⟨o, q1, q2⟩
  · exact .inl (by rw [a4]; exact q)
  · exact .inr ⟨o, q1, q2.fr a3 a4 hE⟩
theorem jIt.fr (e : jIt F A) (hF : ∀ o k, 117 ≤ o → o < 125 → F' o k = F o k) (hA : ∀ a, (118 ≤ a ∧ a < 125) ∨ (155 ≤ a ∧ a < 158) → A' a = A a) : jIt F' A' := by
  intro s hs
  have e' := e s hs
  rw [hF _ _ (by omega) (by omega), hF _ _ (by omega) (by omega), hA _ (by omega), hA _ (by omega), hA _ (by omega), hA _ (by omega)]
  exact e'
theorem jIm.fr (e : jIm F A) (f0 : ∀ k, k < 2 → F' 99 k = F 99 k ∧ F' 149 k = F 149 k) (a0 : A' 150 = A 150) (hA : ∀ a, a = 100 ∨ a = 101 ∨ a = 104 ∨ a = 111 ∨ a = 126 ∨ a = 127 → A' a = A a) : jIm F' A' := by
  refine ⟨?_, e.2.1.fr (hA _ (by omega)) (hA _ (by omega)), fun c hc => ?_⟩
  · rw [a0, (f0 0 (by omega)).2, (f0 1 (by omega)).2]
    exact e.1.fr (f0 0 (by omega)).1 (f0 1 (by omega)).1 (hA _ (by omega)) (hA _ (by omega))
  · rw [hA 104 (by omega), hA 111 (by omega)]
    exact e.2.2 c hc
theorem jIb.fr (e : jIb F A) (f5 : F' 128 5 = F 128 5) (f0 : ∀ k, k < 2 → F' 149 k = F 149 k) (hA : ∀ a, a = 129 ∨ a = 130 ∨ a = 150 → A' a = A a) : jIb F' A' := by
  unfold jIb jBl
  rw [f5, f0 0 (by omega), f0 1 (by omega), hA 129 (by omega), hA 130 (by omega), hA 150 (by omega)]
  exact e
theorem jIc.fr (e : jIc F A) (f5 : F' 132 7 = F 132 7) (f0 : ∀ k, k < 2 → F' 149 k = F 149 k) (hA : ∀ a, a = 3 ∨ a = 4 ∨ (133 ≤ a ∧ a < 137) → A' a = A a) : jIc F' A' := by
  unfold jIc jSc
  rw [f5, f0 0 (by omega), f0 1 (by omega), hA 3 (by omega), hA 4 (by omega), hA 133 (by omega), hA 134 (by omega), hA 135 (by omega), hA 136 (by omega)]
  exact e
theorem jIk.fr (e : jIk F A) (f8 : F' 137 8 = F 137 8) (f14 : F' 149 14 = F 149 14) (f0 : ∀ k, k < 2 → F' 149 k = F 149 k) (hA : ∀ a, (138 ≤ a ∧ a < 144) ∨ a = 150 ∨ (162 ≤ a ∧ a < 168) → A' a = A a) : jIk F' A' := by
  unfold jIk
  rw [f8, f14, f0 0 (by omega), f0 1 (by omega), hA 150 (by omega)]
  refine ⟨e.1, ?_⟩
  rcases e.2 with q | ⟨q1, q2, q3⟩
  · exact .inl q
  · exact .inr ⟨q1, jtc_congr _ _ _ _ (fun a j h1 h2 _ _ => by rw [hA a (by omega)]) q2, jtk_congr _ _ _ _ (fun a j h1 h2 _ _ => by rw [hA a (by omega)]) q3⟩
theorem jIw.fr (e : jIw F A) (f3 : F' 144 3 = F 144 3) (f11 : F' 149 11 = F 149 11) (a0 : A' 145 = A 145) (a1 : A' 158 = A 158) : jIw F' A' := by
  unfold jIw
  rw [f3, f11, a0, a1]
  exact e
/-- a call that asks: nothing changes but what is worked with -/
theorem jI.q (e : jI F A G h) (hF : ∀ o k, o ≠ 128 → o ≠ 132 → o ≠ 146 → F' o k = F o k) (hA : ∀ a, (a < 105 ∨ a = 110 ∨ a = 111 ∨ (116 < a ∧ a < 129) ∨ (136 < a ∧ a < 147) ∨ (148 < a ∧ a < 159) ∨ (161 < a ∧ a < 168)) → A' a = A a) (ib : jIb F' A') (ic : jIc F' A') (hE : jE h h') : jI F' A' G h' := ⟨(e.ia.fr (fun k _ => ⟨hF _ _ (by decide) (by decide) (by decide), hF _ _ (by decide) (by decide) (by decide)⟩) (hA _ (by omega)) (hA _ (by omega)) (hA _ (by omega)) (hA _ (by omega))), (e.ih.fr (fun o k h1 h2 => hF _ _ (by omega) (by omega) (by omega)) (hF _ _ (by decide) (by decide) (by decide)) (fun a h1 h2 => hA _ (by omega)) (hA _ (by omega))), (e.is.fr (hA _ (by omega)) (hA _ (by omega)) hE), (e.it.fr (fun o k h1 h2 => hF _ _ (by omega) (by omega) (by omega)) (fun a ha => hA _ (by omega))), (e.im.fr (fun k _ => ⟨hF _ _ (by decide) (by decide) (by decide), hF _ _ (by decide) (by decide) (by decide)⟩) (hA _ (by omega)) (fun a ha => hA _ (by omega))), (ib), (ic), (e.ik.fr (hF _ _ (by decide) (by decide) (by decide)) (hF _ _ (by decide) (by decide) (by decide)) (fun k _ => hF _ _ (by decide) (by decide) (by decide)) (fun a ha => hA _ (by omega))), (e.iw.fr (hF _ _ (by decide) (by decide) (by decide)) (hF _ _ (by decide) (by decide) (by decide)) (hA _ (by omega)) (hA _ (by omega))), (by rw [hF _ _ (by decide) (by decide) (by decide), hF _ _ (by decide) (by decide) (by decide)]; exact e.fd), (Nat.le_trans e.hp hE.1)⟩
/-- a call that is refused -/
theorem jI.f (e : jI F A G h) (hE : jE h h') : jI (jup (jup F 1 11 (F 1 11 + 1)) 149 13 (F 149 13 + 1)) A G h' := ⟨(e.ia.fr (fun k hk => ⟨by rw [jup_ne (by omega), jup_ne (by omega)], by rw [jup_ne (by omega), jup_ne (by omega)]⟩) rfl rfl rfl rfl), (e.ih.fr (fun o k h1 h2 => by rw [jup_ne (by omega), jup_ne (by omega)]) (by rw [jup_ne (by omega), jup_ne (by omega)]) (fun a h1 h2 => rfl) rfl), (e.is.fr rfl rfl hE), (e.it.fr (fun o k h1 h2 => by rw [jup_ne (by omega), jup_ne (by omega)]) (fun a ha => rfl)), (e.im.fr (fun k hk => ⟨by rw [jup_ne (by omega), jup_ne (by omega)], by rw [jup_ne (by omega), jup_ne (by omega)]⟩) rfl (fun a ha => rfl)), (e.ib.fr (by rw [jup_ne (by omega), jup_ne (by omega)]) (fun k hk => by rw [jup_ne (by omega), jup_ne (by omega)]) (fun a ha => rfl)), (e.ic.fr (by rw [jup_ne (by omega), jup_ne (by omega)]) (fun k hk => by rw [jup_ne (by omega), jup_ne (by omega)]) (fun a ha => rfl)), (e.ik.fr (by rw [jup_ne (by omega), jup_ne (by omega)]) (by rw [jup_ne (by omega), jup_ne (by omega)]) (fun k hk => by rw [jup_ne (by omega), jup_ne (by omega)]) (fun a ha => rfl)), (e.iw.fr (by rw [jup_ne (by omega), jup_ne (by omega)]) (by rw [jup_ne (by omega), jup_ne (by omega)]) rfl rfl), (by rw [jup_ne (by omega), jup_same, jup_same, e.fd]), (Nat.le_trans e.hp hE.1)⟩
end INV1
