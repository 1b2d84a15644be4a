/-! ===== the class: partings, blocks ===== -/
section CL6
variable {d : Nat} {F : Nat → Nat → Nat} {A : Nat → Nat → Int32} {G : Nat → Option Nat} {g : Nat → Int64} {h : jxH} {Q : List Value → jxH → Prop}
/-- the rows of Partings -/
def jpF (x : Nat) : Nat := [0, 0, 0, 0, 1, 1, 2, 3, 6, 6, 7, 8, 11, 12, 15, 18, 25, 25, 26, 27, 30, 31, 34, 37, 44, 45, 48, 51, 58, 61, 68, 75, 90].getD x 0
def jpS (p : Nat) : Nat := [2, 4, 4, 2, 4, 6, 8, 8, 2, 8, 10, 8, 4, 8, 12, 4, 8, 12, 2, 4, 6, 8, 10, 12, 14, 16, 16, 2, 16, 18, 16, 4, 16, 20, 4, 16, 20, 2, 4, 6, 16, 18, 20, 22, 16, 8, 16, 24, 8, 16, 24, 2, 8, 10, 16, 18, 24, 26, 8, 16, 24, 4, 8, 12, 16, 20, 24, 28, 4, 8, 12, 16, 20, 24, 28, 2, 4, 6, 8, 10, 12, 14, 16, 18, 20, 22, 24, 26, 28, 30].getD p 0
def jPa (A : Nat → Nat → Int32) : Prop := (∀ x, x < 33 → A 126 x = nI (jpF x)) ∧ ∀ p, p < 90 → A 127 p = nI (jpS p)
theorem jpF_le : ∀ x, x < 32 → jpF x ≤ jpF (x + 1) ∧ jpF (x + 1) ≤ 90 := by decide +kernel
theorem jpS_ok' : ∀ x, x < 32 → ∀ p, p < 90 → (!(decide (jpF x ≤ p) && decide (p < jpF (x + 1))) || (decide (jpS p < 32) && jpt x (jpS p))) = true := by decide +kernel
theorem jpS_ok (x : Nat) (hx : x < 32) (p : Nat) (hp : p < 90) (h1 : jpF x ≤ p) (h2 : p < jpF (x + 1)) : jpS p < 32 ∧ jpt x (jpS p) = true := by
  have := jpS_ok' x hx p hp
  rw [decide_eq_true h1, decide_eq_true h2] at this
  have := (Bool.and_eq_true _ _).mp this
  exact ⟨of_decide_eq_true this.1, this.2⟩
theorem jpS_ex' : ∀ x, x < 32 → ∀ s, s < 32 → (!jpt x s || jany 90 fun p => decide (jpF x ≤ p) && (decide (p < jpF (x + 1)) && jpS p == s)) = true := by decide +kernel
theorem jpS_ex (x : Nat) (hx : x < 32) (s : Nat) (hs : s < 32) (h1 : jpt x s = true) : ∃ p, jpF x ≤ p ∧ p < jpF (x + 1) ∧ jpS p = s := by
  have := jpS_ex' x hx s hs
  rw [h1] at this
  obtain ⟨p, _, h2⟩ := jany_iff.mp this
  rw [Bool.and_eq_true, Bool.and_eq_true, decide_eq_true_iff, decide_eq_true_iff, beq_iff_eq] at h2
  exact ⟨p, h2⟩
theorem jpS_inc' : ∀ x, x < 32 → ∀ p, p < 90 → (!(decide (jpF x ≤ p) && decide (p + 1 < jpF (x + 1))) || decide (jpS p < jpS (p + 1))) = true := by decide +kernel
theorem jpS_inc (x : Nat) (hx : x < 32) (q : Nat) (h1 : jpF x ≤ q) : ∀ p, q < p → p < jpF (x + 1) → jpS q < jpS p := by
  have l := (jpF_le x hx).2
  have st : ∀ p, jpF x ≤ p → p + 1 < jpF (x + 1) → jpS p < jpS (p + 1) := by
    intro p a b
    have := jpS_inc' x hx p (by omega)
    rw [decide_eq_true a, decide_eq_true b] at this
    exact of_decide_eq_true this
  intro p
  induction p with
  | zero => intro h2; omega
  | succ p ih =>
    intro h2 h3
    have s1 := st p (by omega) h3
    rcases (show q < p ∨ q = p by omega) with w | w
    · have := ih w (by omega); omega
    · subst w; exact s1
theorem jpt_x' : ∀ x, x < 32 → ∀ s, s < 32 → (!jpt x s || x ^^^ s == x - s) = true := by decide +kernel
theorem jpt_x {x s : Nat} (hx : x < 32) (hs : s < 32) (h1 : jpt x s = true) : x ^^^ s = x - s := by
  have := jpt_x' x hx s hs
  rw [h1] at this
  exact beq_iff_eq.mp this
/-- the least of hi and of what is told of those in S -/
def jMin (m hi : Nat) (S : Nat → Bool) (f : Nat → Nat) : Prop := m ≤ hi ∧ (∀ s, s < 32 → S s = true → m ≤ f s) ∧ (m = hi ∨ ∃ s, s < 32 ∧ S s = true ∧ m = f s)
def jMinP (m hi X p : Nat) (f : Nat → Nat) : Prop := m ≤ hi ∧ (∀ q, jpF X ≤ q → q < p → m ≤ f (jpS q)) ∧ (m = hi ∨ ∃ q, jpF X ≤ q ∧ q < p ∧ m = f (jpS q))
theorem jMinP.z {hi X : Nat} {f : Nat → Nat} : jMinP hi hi X (jpF X) f := ⟨Nat.le_refl _, fun q h1 h2 => by omega, Or.inl rfl⟩
theorem jMinP.s {m hi X p x : Nat} {f : Nat → Nat} (e : jMinP m hi X p f) (hp : jpF X ≤ p) (hx : f (jpS p) = x) : jMinP (min m x) hi X (p + 1) f := by
  obtain ⟨e1, e2, e3⟩ := e
  subst hx
  refine ⟨by omega, fun q h1 h2 => ?_, ?_⟩
  · rcases (show q < p ∨ q = p by omega) with w | w
    · have := e2 q h1 w; omega
    · subst w; omega
  · rcases Nat.lt_or_ge (f (jpS p)) m with w | w
    · exact Or.inr ⟨p, hp, by omega, by omega⟩
    · rcases e3 with e3 | ⟨q, h1, h2, h3⟩
      · exact Or.inl (by omega)
      · exact Or.inr ⟨q, h1, by omega, by omega⟩
theorem jMinP.fin {m hi X : Nat} {f : Nat → Nat} (e : jMinP m hi X (jpF (X + 1)) f) (hX : X < 32) : jMin m hi (jpt X) f := by
  obtain ⟨e1, e2, e3⟩ := e
  have q90 := (jpF_le X hX).2
  refine ⟨e1, fun s hs h1 => ?_, ?_⟩
  · obtain ⟨p, p1, p2, p3⟩ := jpS_ex X hX s hs h1
    have := e2 p p1 p2
    rwa [p3] at this
  · rcases e3 with e3 | ⟨q, h1, h2, h3⟩
    · exact Or.inl e3
    · obtain ⟨s1, s2⟩ := jpS_ok X hX q (by omega) h1 h2
      exact Or.inr ⟨_, s1, s2, h3⟩
theorem jmax2 {a b : Nat} (ha : a < 2147483648) (hb : b < 2147483648) : (if nI a < nI b then nI b else nI a) = nI (max a b) := by
  by_cases w : a < b
  · rw [if_pos (of_eq_true (jn_ltT w hb)), Nat.max_eq_right (by omega)]
  · rw [if_neg (of_eq_false (jn_ltF (Nat.le_of_not_lt w) ha)), Nat.max_eq_left (by omega)]

theorem bl_try32 (hR : jR F A G g h) (hP : jPa A) {B X b e : Nat} (hX : X < 32) (hB : B < 1024) (hXB : X * 32 ≤ B) {tb te : Nat → Nat} (ht : ∀ s, s < 32 → jpt X s = true → (A 129 (B - s * 32) = nI (tb (B - s * 32)) ∧ A 130 (B - s * 32) = nI (te (B - s * 32)) ∧ tb (B - s * 32) ≤ 1000 ∧ te (B - s * 32) ≤ 1000) ∧ (A 129 (B - (X - s) * 32) = nI (tb (B - (X - s) * 32)) ∧ A 130 (B - (X - s) * 32) = nI (te (B - (X - s) * 32)) ∧ tb (B - (X - s) * 32) ≤ 1000 ∧ te (B - (X - s) * 32) ≤ 1000)) (eb : A 129 B = nI b) (ee : A 130 B = nI e) (hb : b ≤ 1000) (he : e ≤ 1000) (k : ∀ h' m n, jMin m b (jpt X) (fun s => 1 + max (tb (B - s * 32)) (tb (B - (X - s) * 32))) → jMin n e (jpt X) (fun s => te (B - s * 32) + te (B - (X - s) * 32)) → jR F (jua (jua A 129 (upd (A 129) B (nI m))) 130 (upd (A 130) B (nI n))) G g h' → jD h h' → Q [] h') : jx_Go jxP d 6 0 [.ref 128, .int (nI B), .int (nI X), .int (nI 32), jx_u, jx_u, jx_u, jx_u, jx_u] [] h Q := by
  obtain ⟨q1, q2⟩ := jpF_le X hX
  have a0 := hP.1 X (by omega)
  have a1 := hP.1 (X + 1) (by omega)
  simp (disch := omega) only [s6_0, s6_1, s6_4, s6_5, s6_6, s6_8, s6_9, s6_12, s6_13, s6_14, s6_16, s6_17, s6_20, s6_23, s6_24, s6_25, Option.some.injEq, exists_eq_left', exists_eq_left, List.cons_append, List.nil_append, List.length_nil, List.length_cons, Nat.reduceAdd, Nat.reduceMul, Nat.reduceSub, Nat.reduceLeDiff, true_and, and_true, ↓reduceIte, not_false_eq_true, not_true_eq_false, nI_add, pk_mul, jn_ltT, jn_ltF, jn_leT, jn_leF, jn_eqT, jn_eqF, jn_lt0, jn_ge0, jn_eq0T, jn_eq0F, jn_in, jn_cl, jf_128_1 hR, jf_128_2 hR, jf_128_3 hR, jf_125_0 hR, ja_126 hR, ja_129 hR, ja_130 hR, eb, ee, a0]
  refine jloop (fun p => jpF X ≤ p → ∀ m n w7 w8, jMinP m b X p (fun s => 1 + max (tb (B - s * 32)) (tb (B - (X - s) * 32))) → jMinP n e X p (fun s => te (B - s * 32) + te (B - (X - s) * 32)) → jx_Go jxP d 6 27 [.ref 128, .int (nI B), .int (nI X), .int (nI 32), .int (nI m), .int (nI n), .int (nI p), w7, w8] [] h Q) (jpF (X + 1)) ?_ ?_ (jpF X) q1 (Nat.le_refl _) b e _ _ jMinP.z jMinP.z
  · intro _ m n w7 w8 hm hn
    rw [s6_27]
    simp (disch := first | omega | decide) only [s6_29, s6_30, s6_33, s6_36, s6_37, s6_38, s6_39, s6_40, s6_131, s6_132, s6_135, s6_136, s6_138, s6_139, s6_140, s6_143, s6_144, s6_146, s6_147, Option.some.injEq, exists_eq_left', exists_eq_left, List.cons_append, List.nil_append, List.length_nil, List.length_cons, Nat.reduceAdd, Nat.reduceMul, Nat.reduceSub, Nat.reduceLeDiff, true_and, and_true, ↓reduceIte, not_false_eq_true, not_true_eq_false, nI_add, pk_mul, jn_ltT, jn_ltF, jn_leT, jn_leF, jn_eqT, jn_eqF, jn_lt0, jn_ge0, jn_eq0T, jn_eq0F, jn_in, jn_cl, jh_ai_wi, jh_ai_wi_ne, jh_ai_uf, jh_fl_wi_ne, jh_fl_uf_ne, jh_fl_uf_o, jh_cl_wi_ne, jh_cl_uf, jh_al_wi_ne, jh_al_uf, jh_al_wl, jh_al_wl_ne, jh_ai_wl_ne, jh_fl_wl_ne, jh_cl_wl_ne, jh_ar_wi_ne, jh_ar_uf, jh_ar_wl_ne, jh_1_wi, jh_1_uf, jh_1_wl, jf_128_1 hR, jf_128_2 hR, jf_128_3 hR, jf_125_0 hR, ja_126 hR, ja_129 hR, ja_130 hR, a1]
    exact k _ m n (hm.fin hX) (hn.fin hX) ((hR.wi (a := 129) rfl).wi (a := 130) rfl) ((jD.rf.wi (by decide)).wi (by decide))
  · intro p hp ih pX m n w7 w8 hm hn
    obtain ⟨s1, s2⟩ := jpS_ok X hX p (by omega) pX hp
    have s3 := jpt_lt X hX _ s1 s2
    have as := hP.2 p (by omega)
    obtain ⟨⟨t1, t2, t3, t4⟩, t5, t6, t7, t8⟩ := ht _ s1 s2
    have hm1 := hm.1
    have hn1 := hn.1
    have hm2 := hm.s (x := 1 + max (tb (B - jpS p * 32)) (tb (B - (X - jpS p) * 32))) pX rfl
    have hn2 := hn.s (x := te (B - jpS p * 32) + te (B - (X - jpS p) * 32)) pX rfl
    generalize jpS p = s at *
    rw [s6_27]
    simp (disch := omega) only [s6_29, s6_30, s6_33, s6_36, s6_37, s6_38, s6_39, s6_40, s6_43, s6_44, s6_45, s6_48, s6_51, s6_53, s6_54, s6_55, s6_56, s6_57, s6_59, s6_60, s6_61, s6_62, s6_65, s6_68, s6_70, s6_71, s6_72, s6_73, s6_74, s6_75, s6_77, s6_79, s6_80, s6_81, s6_84, s6_86, s6_87, s6_88, s6_91, s6_93, s6_94, s6_97, s6_98, s6_101, s6_103, s6_105, s6_106, s6_109, s6_111, s6_112, s6_113, s6_116, s6_118, s6_119, s6_120, s6_123, s6_125, s6_128, Option.some.injEq, exists_eq_left', exists_eq_left, List.cons_append, List.nil_append, List.length_nil, List.length_cons, Nat.reduceAdd, Nat.reduceMul, Nat.reduceSub, Nat.reduceLeDiff, true_and, and_true, ↓reduceIte, not_false_eq_true, not_true_eq_false, nI_add, pk_mul, jn_ltT, jn_ltF, jn_leT, jn_leF, jn_eqT, jn_eqF, jn_lt0, jn_ge0, jn_eq0T, jn_eq0F, jn_in, jn_cl, jf_128_1 hR, jf_128_2 hR, jf_128_3 hR, jf_125_0 hR, jf_125_1 hR, ja_126 hR, ja_127 hR, ja_129 hR, ja_130 hR, a1, as, jn_sub, t1, t2, t5, t6, jmax2, jmin2]
    exact ih (by omega) _ _ _ _ hm2 hn2

theorem bl_try1 (hR : jR F A G g h) (hP : jPa A) {B X b e : Nat} (hX : X < 32) (hB : B < 1024) (hXB : X * 1 ≤ B) {tb te : Nat → Nat} (ht : ∀ s, s < 32 → jpt X s = true → (A 129 (B - s * 1) = nI (tb (B - s * 1)) ∧ A 130 (B - s * 1) = nI (te (B - s * 1)) ∧ tb (B - s * 1) ≤ 1000 ∧ te (B - s * 1) ≤ 1000) ∧ (A 129 (B - (X - s) * 1) = nI (tb (B - (X - s) * 1)) ∧ A 130 (B - (X - s) * 1) = nI (te (B - (X - s) * 1)) ∧ tb (B - (X - s) * 1) ≤ 1000 ∧ te (B - (X - s) * 1) ≤ 1000)) (eb : A 129 B = nI b) (ee : A 130 B = nI e) (hb : b ≤ 1000) (he : e ≤ 1000) (k : ∀ h' m n, jMin m b (jpt X) (fun s => 1 + max (tb (B - s * 1)) (tb (B - (X - s) * 1))) → jMin n e (jpt X) (fun s => te (B - s * 1) + te (B - (X - s) * 1)) → jR F (jua (jua A 129 (upd (A 129) B (nI m))) 130 (upd (A 130) B (nI n))) G g h' → jD h h' → Q [] h') : jx_Go jxP d 6 0 [.ref 128, .int (nI B), .int (nI X), .int (nI 1), jx_u, jx_u, jx_u, jx_u, jx_u] [] h Q := by
  obtain ⟨q1, q2⟩ := jpF_le X hX
  have a0 := hP.1 X (by omega)
  have a1 := hP.1 (X + 1) (by omega)
  simp (disch := omega) only [s6_0, s6_1, s6_4, s6_5, s6_6, s6_8, s6_9, s6_12, s6_13, s6_14, s6_16, s6_17, s6_20, s6_23, s6_24, s6_25, Option.some.injEq, exists_eq_left', exists_eq_left, List.cons_append, List.nil_append, List.length_nil, List.length_cons, Nat.reduceAdd, Nat.reduceMul, Nat.reduceSub, Nat.reduceLeDiff, true_and, and_true, ↓reduceIte, not_false_eq_true, not_true_eq_false, nI_add, pk_mul, jn_ltT, jn_ltF, jn_leT, jn_leF, jn_eqT, jn_eqF, jn_lt0, jn_ge0, jn_eq0T, jn_eq0F, jn_in, jn_cl, jf_128_1 hR, jf_128_2 hR, jf_128_3 hR, jf_125_0 hR, ja_126 hR, ja_129 hR, ja_130 hR, eb, ee, a0]
  refine jloop (fun p => jpF X ≤ p → ∀ m n w7 w8, jMinP m b X p (fun s => 1 + max (tb (B - s * 1)) (tb (B - (X - s) * 1))) → jMinP n e X p (fun s => te (B - s * 1) + te (B - (X - s) * 1)) → jx_Go jxP d 6 27 [.ref 128, .int (nI B), .int (nI X), .int (nI 1), .int (nI m), .int (nI n), .int (nI p), w7, w8] [] h Q) (jpF (X + 1)) ?_ ?_ (jpF X) q1 (Nat.le_refl _) b e _ _ jMinP.z jMinP.z
  · intro _ m n w7 w8 hm hn
    rw [s6_27]
    simp (disch := first | omega | decide) only [s6_29, s6_30, s6_33, s6_36, s6_37, s6_38, s6_39, s6_40, s6_131, s6_132, s6_135, s6_136, s6_138, s6_139, s6_140, s6_143, s6_144, s6_146, s6_147, Option.some.injEq, exists_eq_left', exists_eq_left, List.cons_append, List.nil_append, List.length_nil, List.length_cons, Nat.reduceAdd, Nat.reduceMul, Nat.reduceSub, Nat.reduceLeDiff, true_and, and_true, ↓reduceIte, not_false_eq_true, not_true_eq_false, nI_add, pk_mul, jn_ltT, jn_ltF, jn_leT, jn_leF, jn_eqT, jn_eqF, jn_lt0, jn_ge0, jn_eq0T, jn_eq0F, jn_in, jn_cl, jh_ai_wi, jh_ai_wi_ne, jh_ai_uf, jh_fl_wi_ne, jh_fl_uf_ne, jh_fl_uf_o, jh_cl_wi_ne, jh_cl_uf, jh_al_wi_ne, jh_al_uf, jh_al_wl, jh_al_wl_ne, jh_ai_wl_ne, jh_fl_wl_ne, jh_cl_wl_ne, jh_ar_wi_ne, jh_ar_uf, jh_ar_wl_ne, jh_1_wi, jh_1_uf, jh_1_wl, jf_128_1 hR, jf_128_2 hR, jf_128_3 hR, jf_125_0 hR, ja_126 hR, ja_129 hR, ja_130 hR, a1]
    exact k _ m n (hm.fin hX) (hn.fin hX) ((hR.wi (a := 129) rfl).wi (a := 130) rfl) ((jD.rf.wi (by decide)).wi (by decide))
  · intro p hp ih pX m n w7 w8 hm hn
    obtain ⟨s1, s2⟩ := jpS_ok X hX p (by omega) pX hp
    have s3 := jpt_lt X hX _ s1 s2
    have as := hP.2 p (by omega)
    obtain ⟨⟨t1, t2, t3, t4⟩, t5, t6, t7, t8⟩ := ht _ s1 s2
    have hm1 := hm.1
    have hn1 := hn.1
    have hm2 := hm.s (x := 1 + max (tb (B - jpS p * 1)) (tb (B - (X - jpS p) * 1))) pX rfl
    have hn2 := hn.s (x := te (B - jpS p * 1) + te (B - (X - jpS p) * 1)) pX rfl
    generalize jpS p = s at *
    rw [s6_27]
    simp (disch := omega) only [s6_29, s6_30, s6_33, s6_36, s6_37, s6_38, s6_39, s6_40, s6_43, s6_44, s6_45, s6_48, s6_51, s6_53, s6_54, s6_55, s6_56, s6_57, s6_59, s6_60, s6_61, s6_62, s6_65, s6_68, s6_70, s6_71, s6_72, s6_73, s6_74, s6_75, s6_77, s6_79, s6_80, s6_81, s6_84, s6_86, s6_87, s6_88, s6_91, s6_93, s6_94, s6_97, s6_98, s6_101, s6_103, s6_105, s6_106, s6_109, s6_111, s6_112, s6_113, s6_116, s6_118, s6_119, s6_120, s6_123, s6_125, s6_128, Option.some.injEq, exists_eq_left', exists_eq_left, List.cons_append, List.nil_append, List.length_nil, List.length_cons, Nat.reduceAdd, Nat.reduceMul, Nat.reduceSub, Nat.reduceLeDiff, true_and, and_true, ↓reduceIte, not_false_eq_true, not_true_eq_false, nI_add, pk_mul, jn_ltT, jn_ltF, jn_leT, jn_leF, jn_eqT, jn_eqF, jn_lt0, jn_ge0, jn_eq0T, jn_eq0F, jn_in, jn_cl, jf_128_1 hR, jf_128_2 hR, jf_128_3 hR, jf_125_0 hR, jf_125_1 hR, ja_126 hR, ja_127 hR, ja_129 hR, ja_130 hR, a1, as, jn_sub, t1, t2, t5, t6, jmax2, jmin2]
    exact ih (by omega) _ _ _ _ hm2 hn2

theorem jfe_ar {v : Nat → Int32} {R C : Nat} (hR : R ≤ 5) (hC : C ≤ 5) : ∀ n B, B < n → jblk R C B = true → jfe v R C B ≤ jar B := by
  have p1 := jp2 _ hR
  have p2 := jp2 _ hC
  intro n
  induction n with
  | zero => intro B hB; omega
  | succ n ih =>
    intro B hBn hb
    have hb' := jblk_iff.mp hb
    have hB : B < 1024 := by omega
    have ha := jar_1 hB (by omega) (by omega)
    unfold jfe
    rw [jbt_eq hB]
    by_cases he : jev v R C B = true
    · rw [if_pos he]; exact ha
    · rw [if_neg he]
      rcases jcut_ex hR hC hB he with ⟨s, hs, e⟩ | ⟨s, hs, e⟩
      · unfold jrx at e
        rw [Bool.and_eq_true] at e
        obtain ⟨b1, b2, l1, l2, _, _, _, hA, _⟩ := jpa_ok (a := true) hR hC hb hs e.1
        have i1 := ih _ (by omega) b1
        have i2 := ih _ (by omega) b2
        have := jbst_cutx (f := fun a b => a + b) (T := jbt (fun a b => a + b) (jev v R C) 1 1000) (y := B % 32) (hi := 1000) e.1 32 hs
        unfold jfe at i1 i2
        unfold jfA at i1 hA
        unfold jsA at i2 hA
        rw [if_pos rfl] at i1 i2
        rw [if_pos rfl, if_pos rfl] at hA
        omega
      · unfold jry at e
        rw [Bool.and_eq_true] at e
        obtain ⟨b1, b2, l1, l2, _, _, _, hA, _⟩ := jpa_ok (a := false) hR hC hb hs e.1
        have i1 := ih _ (by omega) b1
        have i2 := ih _ (by omega) b2
        have := jbst_cuty (f := fun a b => a + b) (T := jbt (fun a b => a + b) (jev v R C) 1 1000) (x := B / 32) (hi := 1000) e.1 32 hs
        unfold jfe at i1 i2
        unfold jfA at i1 hA
        unfold jsA at i2 hA
        rw [if_neg (by decide)] at i1 i2
        rw [if_neg (by decide), if_neg (by decide)] at hA
        omega
theorem jfe_25 {v : Nat → Int32} {R C B : Nat} (hR : R ≤ 5) (hC : C ≤ 5) (hb : jblk R C B = true) : jfe v R C B ≤ 25 := by
  have p1 := jp2 _ hR
  have p2 := jp2 _ hC
  have hb' := jblk_iff.mp hb
  exact Nat.le_trans (jfe_ar hR hC 1024 B (by omega) hb) (jar_25 (by omega))
/-- the least over all cuts -/
theorem jbt_min {f : Nat → Nat → Nat} {ev : Nat → Bool} {lo hi hi' x y m m1 : Nat} (hx : x < 32) (hy : y < 32) (he : ¬ ev (32 * x + y) = true) (hb : jbt f ev lo hi (32 * x + y) < hi) (hb' : jbt f ev lo hi (32 * x + y) < hi') (h1 : jMin m1 hi' (jpt x) (fun s => f (jbt f ev lo hi (32 * (x - s) + y)) (jbt f ev lo hi (32 * s + y)))) (h2 : jMin m m1 (jpt y) (fun s => f (jbt f ev lo hi (32 * x + (y - s))) (jbt f ev lo hi (32 * x + s)))) : m = jbt f ev lo hi (32 * x + y) := by
  obtain ⟨a1, a2, a3⟩ := h1
  obtain ⟨b1, b2, b3⟩ := h2
  have eq := jbt_eq (f := f) (ev := ev) (lo := lo) (hi := hi) (B := 32 * x + y) (by omega)
  rw [if_neg he, show (32 * x + y) / 32 = x by omega, show (32 * x + y) % 32 = y by omega] at eq
  have up : jbt f ev lo hi (32 * x + y) < hi' → m ≤ jbt f ev lo hi (32 * x + y) := by
    intro _
    rcases jbst_att (f := f) (T := jbt f ev lo hi) (x := x) (y := y) (hi := hi) 32 with w | ⟨s, hs, ⟨w1, w2⟩ | ⟨w1, w2⟩⟩
    · rw [← eq] at w; omega
    · rw [← eq, jpt_x hx hs w1] at w2
      have := a2 s hs w1
      dsimp only at this
      omega
    · rw [← eq, jpt_x hy hs w1] at w2
      have := b2 s hs w1
      dsimp only at this
      omega
  have up := up hb'
  apply Nat.le_antisymm up
  rcases b3 with b3 | ⟨s, hs, w1, w2⟩
  · rcases a3 with a3 | ⟨s, hs, w1, w2⟩
    · omega
    · have := jbst_cutx (f := f) (T := jbt f ev lo hi) (y := y) (hi := hi) w1 32 hs
      rw [← eq, jpt_x hx hs w1] at this
      dsimp only at w2
      omega
  · have := jbst_cuty (f := f) (T := jbt f ev lo hi) (x := x) (hi := hi) w1 32 hs
    rw [← eq, jpt_x hy hs w1] at this
    dsimp only at w2
    omega
end CL6
