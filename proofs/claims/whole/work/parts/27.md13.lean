/-! ===== the reference: THE BEST TALK ===== -/
section MD13
variable {d : Nat} {F : Nat → Nat → Nat} {A : Nat → Nat → Int32} {G : Nat → Option Nat} {g : Nat → Int64} {h : jxH} {Q : List Value → jxH → Prop}
/-- the first and the second part of a block, as THE BEST TALK parts it -/
def jfr (v : Nat → Int32) (R C B : Nat) : Nat := if jcut v R C B < 32 then 32 * (B / 32) + (B % 32 ^^^ jcut v R C B) else 32 * (B / 32 ^^^ (jcut v R C B / 32)) + B % 32
def jsn (v : Nat → Int32) (R C B : Nat) : Nat := if jcut v R C B < 32 then 32 * (B / 32) + jcut v R C B else jcut v R C B + B % 32
def jar (B : Nat) : Nat := jpop (B / 32) * jpop (B % 32)
theorem jpop_x : ∀ x, x < 32 → ∀ s, s < 32 → jpt x s = true → jpop (x ^^^ s) + jpop s = jpop x := by decide +kernel
theorem jpop_1 : ∀ x, x < 32 → 0 < x → 1 ≤ jpop x := by decide +kernel
theorem jpop_5 : ∀ x, x < 32 → jpop x ≤ 5 := by decide +kernel
theorem jar_1 {B : Nat} (hB : B < 1024) (h1 : 0 < B / 32) (h2 : 0 < B % 32) : 1 ≤ jar B := Nat.mul_pos (jpop_1 _ (by omega) h1) (jpop_1 _ (by omega) h2)
theorem jar_25 {B : Nat} (hB : B < 1024) : jar B ≤ 25 := Nat.mul_le_mul (jpop_5 _ (by omega)) (jpop_5 _ (by omega))
theorem jcut_ok {v : Nat → Int32} {R C B : Nat} (hR : R ≤ 5) (hC : C ≤ 5) (hb : jblk R C B = true) (he : ¬ jev v R C B = true) : jblk R C (jfr v R C B) = true ∧ jblk R C (jsn v R C B) = true ∧ jfr v R C B < B ∧ jsn v R C B < B ∧ B ^^^ jcut v R C B = jfr v R C B ∧ ((jcut v R C B < 32 ∧ 32 * (B / 32) ||| jcut v R C B = jsn v R C B) ∨ (32 ≤ jcut v R C B ∧ jcut v R C B < 1024 ∧ jcut v R C B ||| B % 32 = jsn v R C B)) ∧ max (jlb v R C (jfr v R C B)) (jlb v R C (jsn v R C B)) + 1 = jlb v R C B ∧ jar (jfr v R C B) + jar (jsn v R C B) = jar B := by
  have p1 := jp2 _ hR
  have p2 := jp2 _ hC
  have hb' := jblk_iff.mp hb
  have hB : B < 1024 := by omega
  obtain ⟨c1, c2, c3⟩ := jlst_le (p := jrx v R C B) 32
  obtain ⟨d1, d2, d3⟩ := jlst_le (p := jry v R C B) 32
  by_cases w : jlst (jrx v R C B) 32 < 32
  · have cp := c2 w
    have ek : jcut v R C B = 32 * jlst (jrx v R C B) 32 := by unfold jcut; rw [if_pos w]
    generalize jlst (jrx v R C B) 32 = s at *
    unfold jrx at cp
    rw [Bool.and_eq_true, beq_iff_eq] at cp
    have q := jpt_lt (B / 32) (by omega) s w cp.1
    have x1 := jx1 (B / 32) (by omega) (B % 32) (by omega) s w
    rw [show 32 * (B / 32) + B % 32 = B by omega] at x1
    have e1 : jfr v R C B = 32 * (B / 32 ^^^ s) + B % 32 := by unfold jfr; rw [ek, if_neg (by omega), show 32 * s / 32 = s by omega]
    have e2 : jsn v R C B = 32 * s + B % 32 := by unfold jsn; rw [ek, if_neg (by omega)]
    rw [e1, e2, ek]
    refine ⟨jblk_iff.mpr (by omega), jblk_iff.mpr (by omega), by omega, by omega, x1, Or.inr ⟨by omega, by omega, jx3 _ (by omega) _ w⟩, cp.2, ?_⟩
    unfold jar
    rw [show (32 * (B / 32 ^^^ s) + B % 32) / 32 = B / 32 ^^^ s by omega, show (32 * (B / 32 ^^^ s) + B % 32) % 32 = B % 32 by omega, show (32 * s + B % 32) / 32 = s by omega, show (32 * s + B % 32) % 32 = B % 32 by omega, ← Nat.add_mul, jpop_x _ (by omega) _ w cp.1]
  · have lt : jlst (jry v R C B) 32 < 32 := by
      rcases jcut_ex hR hC hB he with ⟨s, hs, e⟩ | ⟨s, hs, e⟩
      · rw [c3 s (by omega)] at e; cases e
      · rcases Nat.lt_or_ge (jlst (jry v R C B) 32) 32 with z | z
        · exact z
        · rw [d3 s (by omega)] at e; cases e
    have cp := d2 lt
    have ek : jcut v R C B = jlst (jry v R C B) 32 := by unfold jcut; rw [if_neg w]
    generalize jlst (jry v R C B) 32 = s at *
    unfold jry at cp
    rw [Bool.and_eq_true, beq_iff_eq] at cp
    have q := jpt_lt (B % 32) (by omega) s lt cp.1
    have x1 := jx2 (B / 32) (by omega) (B % 32) (by omega) s lt
    rw [show 32 * (B / 32) + B % 32 = B by omega] at x1
    have e1 : jfr v R C B = 32 * (B / 32) + (B % 32 ^^^ s) := by unfold jfr; rw [ek, if_pos lt]
    have e2 : jsn v R C B = 32 * (B / 32) + s := by unfold jsn; rw [ek, if_pos lt]
    rw [e1, e2, ek]
    refine ⟨jblk_iff.mpr (by omega), jblk_iff.mpr (by omega), by omega, by omega, x1, Or.inl ⟨by omega, jx3 _ lt _ (by omega)⟩, cp.2, ?_⟩
    unfold jar
    rw [show (32 * (B / 32) + (B % 32 ^^^ s)) / 32 = B / 32 by omega, show (32 * (B / 32) + (B % 32 ^^^ s)) % 32 = B % 32 ^^^ s by omega, show (32 * (B / 32) + s) / 32 = B / 32 by omega, show (32 * (B / 32) + s) % 32 = s by omega, ← Nat.mul_add, jpop_x _ (by omega) _ lt cp.1]
/-- how many knots the talk over B has -/
def jtS (v : Nat → Int32) (R C : Nat) (n B : Nat) : Nat := match n with
  | 0 => 1
  | n + 1 => if jev v R C B = true then 1 else 1 + jtS v R C n (jfr v R C B) + jtS v R C n (jsn v R C B)
theorem jtS_s {v : Nat → Int32} {R C n B : Nat} : jtS v R C (n + 1) B = if jev v R C B = true then 1 else 1 + jtS v R C n (jfr v R C B) + jtS v R C n (jsn v R C B) := rfl
theorem jtS_1 {v : Nat → Int32} {R C n B : Nat} : 1 ≤ jtS v R C n B := by
  cases n with
  | zero => exact Nat.le_refl _
  | succ n => rw [jtS_s]; split <;> omega
theorem jtS_le {v : Nat → Int32} {R C : Nat} (hR : R ≤ 5) (hC : C ≤ 5) : ∀ n B, jblk R C B = true → jtS v R C n B + 1 ≤ 2 * jar B := by
  have p1 := jp2 _ hR
  have p2 := jp2 _ hC
  intro n
  induction n with
  | zero =>
    intro B hb
    have hb' := jblk_iff.mp hb
    have := jar_1 (B := B) (by omega) (by omega) (by omega)
    show 1 + 1 ≤ _
    omega
  | succ n ih =>
    intro B hb
    have hb' := jblk_iff.mp hb
    have := jar_1 (B := B) (by omega) (by omega) (by omega)
    rw [jtS_s]
    by_cases he : jev v R C B = true
    · rw [if_pos he]; omega
    · rw [if_neg he]
      obtain ⟨a1, a2, _, _, _, _, _, a3⟩ := jcut_ok hR hC hb he
      have := ih _ a1
      have := ih _ a2
      omega
/-- the knots from k on are those of the talk over B, at the depth D -/
def jtk (v : Nat → Int32) (R C : Nat) (n k B D : Nat) (A : Nat → Nat → Int32) : Prop := match n with
  | 0 => False
  | n + 1 => A 162 k = nI B ∧ A 166 k = nI D ∧ if jev v R C B = true then A 163 k = nI 2 ∧ A 164 k = nI (if jhas v R C B = 2 then 1 else 0) ∧ A 165 k = -100 else A 163 k = nI (if 32 ≤ jcut v R C B then 0 else 1) ∧ A 167 k = nI (jcut v R C B) ∧ A 164 k = nI (k + 1) ∧ A 165 k = nI (k + 1 + jtS v R C n (jfr v R C B)) ∧ jtk v R C n (k + 1) (jfr v R C B) (D + 1) A ∧ jtk v R C n (k + 1 + jtS v R C n (jfr v R C B)) (jsn v R C B) (D + 1) A
theorem jtk_congr {v : Nat → Int32} {R C : Nat} {A A' : Nat → Nat → Int32} : ∀ n k B D, (∀ a j, 162 ≤ a → a ≤ 167 → k ≤ j → j < k + jtS v R C n B → A' a j = A a j) → jtk v R C n k B D A → jtk v R C n k B D A' := by
  intro n
  induction n with
  | zero => intro k B D _ t; exact t
  | succ n ih =>
    intro k B D e t
    have s1 := jtS_1 (v := v) (R := R) (C := C) (n := n + 1) (B := B)
    obtain ⟨t1, t2, t3⟩ := t
    refine ⟨by rw [e _ _ (by omega) (by omega) (by omega) (by omega)]; exact t1, by rw [e _ _ (by omega) (by omega) (by omega) (by omega)]; exact t2, ?_⟩
    by_cases he : jev v R C B = true
    · rw [if_pos he] at t3 ⊢
      rw [e _ _ (by omega) (by omega) (by omega) (by omega), e _ _ (by omega) (by omega) (by omega) (by omega), e _ _ (by omega) (by omega) (by omega) (by omega)]
      exact t3
    · rw [if_neg he] at t3 ⊢
      rw [jtS_s, if_neg he] at e
      obtain ⟨t4, t5, t6, t7, t8, t9⟩ := t3
      refine ⟨by rw [e _ _ (by omega) (by omega) (by omega) (by omega)]; exact t4, by rw [e _ _ (by omega) (by omega) (by omega) (by omega)]; exact t5, by rw [e _ _ (by omega) (by omega) (by omega) (by omega)]; exact t6, by rw [e _ _ (by omega) (by omega) (by omega) (by omega)]; exact t7, ih _ _ _ (fun a j h1 h2 h3 h4 => e a j h1 h2 (by omega) (by omega)) t8, ih _ _ _ (fun a j h1 h2 h3 h4 => e a j h1 h2 (by omega) (by omega)) t9⟩
/-- the knot above, if there is one -/
def jqv (q : Option Nat) : Int32 := match q with
  | none => -1
  | some q => nI q
def jqp (q : Option Nat) (k D : Nat) (f : Nat → Int32) : Prop := match q with
  | none => D = 0
  | some q => q < k ∧ 1 ≤ D ∧ f q = nI (D - 1)
def jq4 (q : Option Nat) (k : Nat) (f : Nat → Int32) : Nat → Int32 := match q with
  | none => f
  | some q => if 0 ≤ f q then f else upd f q (nI k)
def jq5 (q : Option Nat) (k : Nat) (f e : Nat → Int32) : Nat → Int32 := match q with
  | none => e
  | some q => if 0 ≤ f q then upd e q (nI k) else e
/-- a knot is made: its block, its depth, its place with the knot above -/
theorem md_talk1 {p k B D : Nat} {q : Option Nat} {w2 w3 w4 w5 : Value} (hR : jR (jup F 149 14 k) A G g h) (hp : p < 64) (hk : k < 64) (e1 : A 168 p = nI B) (e2 : A 169 p = (jqv q)) (eq : jqp q k D (A 166)) (kk : ∀ A2 h2, jR (jup F 149 14 (k + 1)) A2 G g h2 → jD h h2 → (∀ a, a ≠ 162 → a ≠ 164 → a ≠ 165 → a ≠ 166 → A2 a = A a) → A2 162 = upd (A 162) k (nI B) → A2 166 = upd (A 166) k (nI D) → A2 164 = jq4 q k (A 164) → A2 165 = jq5 q k (A 164) (A 165) → jx_Go jxP d 166 132 [.ref 149, .int (nI p), .int (nI B), .int (jqv q), .int (nI k), w5] [] h2 Q) : jx_Go jxP d 166 28 [.ref 149, .int (nI (p + 1)), w2, w3, w4, w5] [] h Q := by
  have y : jup F 149 14 k 149 14 = k := jup_same
  rw [s166_28]
  simp (disch := omega) only [s166_29, s166_32, s166_35, s166_36, s166_39, s166_40, s166_41, s166_42, s166_43, s166_46, s166_47, s166_48, s166_49, s166_50, s166_53, s166_55, s166_56i, s166_56r, s166_57, s166_60, s166_61, s166_62, s166_65, Option.some.injEq, exists_eq_left', exists_eq_left, List.cons_append, List.nil_append, List.length_nil, List.length_cons, Nat.reduceAdd, Nat.reduceMul, Nat.reduceSub, Nat.reduceLeDiff, true_and, and_true, ↓reduceIte, not_false_eq_true, not_true_eq_false, nI_add, pk_mul, jn_ltT, jn_ltF, jn_leT, jn_leF, jn_eqT, jn_eqF, jn_lt0, jn_ge0, jn_eq0T, jn_eq0F, jn_in, jn_cl, jn_m1, jn_le0F, Nat.add_sub_cancel, jf_149_14 hR, jf_149_18 hR, jf_149_24 hR, jf_149_25 hR, ja_168 hR, ja_169 hR, y, e1, e2]
  have hR1 : jR (jup F 149 14 (k + 1)) A G g (jx_uf h 149 14 (.int (nI (k + 1)))) := by
    have := hR.uf (o := 149) (k := 14) (v := k + 1) rfl rfl
    rw [jup_jup] at this
    exact this
  have hD1 : jD h (jx_uf h 149 14 (.int (nI (k + 1)))) := jD.rf.uf (by decide)
  generalize jx_uf h 149 14 (.int (nI (k + 1))) = h1 at hR1 hD1 ⊢
  cases q with
  | none =>
    simp only [jqv, jqp, jq4, jq5] at e2 eq kk ⊢
    subst eq
    have hR2 := (hR1.wi (a := 162) (f := upd (A 162) k (nI B)) rfl).wi (a := 166) (f := upd (A 166) k (nI 0)) rfl
    have hD2 := (hD1.wi (a := 162) (n := 64) (f := upd (A 162) k (nI B)) (by decide)).wi (a := 166) (n := 64) (f := upd (A 166) k (nI 0)) (by decide)
    have m1 : ((-1 : Int32) < 0) = True := by decide
    have m2 : ((0 : Int32) ≤ -1) = False := by decide
    simp (disch := omega) only [s166_66, s166_69, s166_71, s166_72, s166_73, s166_74, s166_77, s166_79, s166_80, s166_83, s166_84, s166_87, s166_88, s166_91, s166_92, s166_93, s166_94, s166_95, s166_96, s166_97, s166_100, s166_101, s166_104, s166_105, s166_106, s166_109, s166_110, s166_113, s166_114, s166_116, s166_117, s166_120, s166_121, s166_124, Option.some.injEq, exists_eq_left', exists_eq_left, List.cons_append, List.nil_append, List.length_nil, List.length_cons, Nat.reduceAdd, Nat.reduceMul, Nat.reduceSub, Nat.reduceLeDiff, true_and, and_true, ↓reduceIte, not_false_eq_true, not_true_eq_false, nI_add, pk_mul, jn_ltT, jn_ltF, jn_leT, jn_leF, jn_eqT, jn_eqF, jn_lt0, jn_ge0, jn_eq0T, jn_eq0F, jn_in, jn_cl, jh_ai_wi, jh_ai_wi_ne, jh_ai_uf, jh_fl_wi_ne, jh_fl_uf_ne, jh_fl_uf_o, jh_cl_wi_ne, jh_cl_uf, jh_al_wi_ne, jh_al_uf, jh_al_wl, jh_al_wl_ne, jh_ai_wl_ne, jh_fl_wl_ne, jh_cl_wl_ne, jh_ar_wi_ne, jh_ar_uf, jh_ar_wl_ne, jh_1_wi, jh_1_uf, jh_1_wl, jf_149_18 hR1, jf_149_22 hR1, ja_162 hR1, ja_166 hR1, m1, m2]
    exact kk _ _ hR2 hD2 (fun a n1 n2 n3 n4 => by rw [jua_ne n4, jua_ne n1]) (by rw [jua_ne (by decide), jua_same]) jua_same (by rw [jua_ne (by decide), jua_ne (by decide)]) (by rw [jua_ne (by decide), jua_ne (by decide)])
  | some q =>
    simp only [jqv, jqp, jq4, jq5] at e2 eq kk ⊢
    obtain ⟨hq, hD, e3⟩ := eq
    have hDD : nI (D - 1) + nI 1 = nI D := by rw [nI_add, Nat.sub_add_cancel hD]
    have hR2 := (hR1.wi (a := 162) (f := upd (A 162) k (nI B)) rfl).wi (a := 166) (f := upd (A 166) k (nI D)) rfl
    have hD2 := (hD1.wi (a := 162) (n := 64) (f := upd (A 162) k (nI B)) (by decide)).wi (a := 166) (n := 64) (f := upd (A 166) k (nI D)) (by decide)
    have m1 : (nI q < 0) = False := jn_lt0 (by omega)
    have m2 : ((0 : Int32) ≤ nI q) = True := jn_ge0 (by omega)
    simp (disch := omega) only [s166_66, s166_69, s166_71, s166_72, s166_73, s166_74, s166_77, s166_79, s166_80, s166_83, s166_84, s166_87, s166_88, s166_91, s166_92, s166_93, s166_94, s166_95, s166_96, Option.some.injEq, exists_eq_left', exists_eq_left, List.cons_append, List.nil_append, List.length_nil, List.length_cons, Nat.reduceAdd, Nat.reduceMul, Nat.reduceSub, Nat.reduceLeDiff, true_and, and_true, ↓reduceIte, not_false_eq_true, not_true_eq_false, jn_in, jn_cl, jh_ai_wi, jh_ai_wi_ne, jh_ai_uf, jh_fl_wi_ne, jh_fl_uf_ne, jh_fl_uf_o, jh_cl_wi_ne, jh_cl_uf, jh_al_wi_ne, jh_al_uf, jh_al_wl, jh_al_wl_ne, jh_ai_wl_ne, jh_fl_wl_ne, jh_cl_wl_ne, jh_ar_wi_ne, jh_ar_uf, jh_ar_wl_ne, jh_1_wi, jh_1_uf, jh_1_wl, jf_149_18 hR1, jf_149_22 hR1, ja_162 hR1, ja_166 hR1, m1, m2, e3, hDD]
    generalize jx_wi (jx_wi h1 162 64 (upd (A 162) k (nI B))) 166 64 (upd (A 166) k (nI D)) = h2 at hR2 hD2 ⊢
    have z4 : jua (jua A 162 (upd (A 162) k (nI B))) 166 (upd (A 166) k (nI D)) 164 = A 164 := by rw [jua_ne (by decide), jua_ne (by decide)]
    have z5 : jua (jua A 162 (upd (A 162) k (nI B))) 166 (upd (A 166) k (nI D)) 165 = A 165 := by rw [jua_ne (by decide), jua_ne (by decide)]
    by_cases w : 0 ≤ A 164 q
    · have w' : ((0 : Int32) ≤ A 164 q) = True := eq_true w
      simp (disch := omega) only [s166_97, s166_100, s166_101, s166_104, s166_105, s166_106, s166_109, s166_110, s166_113, s166_114, s166_116, s166_117, s166_120, s166_121, s166_124, s166_125, s166_128, s166_129, s166_131, Option.some.injEq, exists_eq_left', exists_eq_left, List.cons_append, List.nil_append, List.length_nil, List.length_cons, Nat.reduceAdd, Nat.reduceMul, Nat.reduceSub, Nat.reduceLeDiff, true_and, and_true, ↓reduceIte, not_false_eq_true, not_true_eq_false, nI_add, pk_mul, jn_ltT, jn_ltF, jn_leT, jn_leF, jn_eqT, jn_eqF, jn_lt0, jn_ge0, jn_eq0T, jn_eq0F, jn_in, jn_cl, jh_ai_wi, jh_ai_wi_ne, jh_ai_uf, jh_fl_wi_ne, jh_fl_uf_ne, jh_fl_uf_o, jh_cl_wi_ne, jh_cl_uf, jh_al_wi_ne, jh_al_uf, jh_al_wl, jh_al_wl_ne, jh_ai_wl_ne, jh_fl_wl_ne, jh_cl_wl_ne, jh_ar_wi_ne, jh_ar_uf, jh_ar_wl_ne, jh_1_wi, jh_1_uf, jh_1_wl, jf_149_20 hR2, jf_149_21 hR2, ja_164 hR2, ja_165 hR2, z4, z5, m1, w']
      have hR3 := hR2.wi (a := 165) (f := upd (A 165) q (nI k)) rfl
      have hD3 := hD2.wi (a := 165) (n := 64) (f := upd (A 165) q (nI k)) (by decide)
      exact kk _ _ hR3 hD3 (fun a n1 n2 n3 n4 => by rw [jua_ne n3, jua_ne n4, jua_ne n1]) (by rw [jua_ne (by decide), jua_ne (by decide), jua_same]) (by rw [jua_ne (by decide), jua_same]) (by rw [jua_ne (by decide), z4, if_pos w]) (by rw [jua_same, if_pos w])
    · have w' : ((0 : Int32) ≤ A 164 q) = False := eq_false w
      simp (disch := omega) only [s166_97, s166_100, s166_101, s166_104, s166_105, s166_106, s166_109, s166_110, s166_113, s166_114, s166_116, s166_117, Option.some.injEq, exists_eq_left', exists_eq_left, List.cons_append, List.nil_append, List.length_nil, List.length_cons, Nat.reduceAdd, Nat.reduceMul, Nat.reduceSub, Nat.reduceLeDiff, true_and, and_true, ↓reduceIte, not_false_eq_true, not_true_eq_false, nI_add, pk_mul, jn_ltT, jn_ltF, jn_leT, jn_leF, jn_eqT, jn_eqF, jn_lt0, jn_ge0, jn_eq0T, jn_eq0F, jn_in, jn_cl, jh_ai_wi, jh_ai_wi_ne, jh_ai_uf, jh_fl_wi_ne, jh_fl_uf_ne, jh_fl_uf_o, jh_cl_wi_ne, jh_cl_uf, jh_al_wi_ne, jh_al_uf, jh_al_wl, jh_al_wl_ne, jh_ai_wl_ne, jh_fl_wl_ne, jh_cl_wl_ne, jh_ar_wi_ne, jh_ar_uf, jh_ar_wl_ne, jh_1_wi, jh_1_uf, jh_1_wl, jf_149_20 hR2, jf_149_21 hR2, ja_164 hR2, ja_165 hR2, z4, z5, m1, w']
      have hR3 := hR2.wi (a := 164) (f := upd (A 164) q (nI k)) rfl
      have hD3 := hD2.wi (a := 164) (n := 64) (f := upd (A 164) q (nI k)) (by decide)
      exact kk _ _ hR3 hD3 (fun a n1 n2 n3 n4 => by rw [jua_ne n2, jua_ne n4, jua_ne n1]) (by rw [jua_ne (by decide), jua_ne (by decide), jua_same]) (by rw [jua_ne (by decide), jua_same]) (by rw [jua_same, if_neg w]) (by rw [jua_ne (by decide), z5, if_neg w])
theorem md_talk2 (hr : F 149 0 ≤ 5) (hc : F 149 1 ≤ 5) (hv : jV (A 150) (F 149 0) (F 149 1)) (hT : ∀ B, jblk (F 149 0) (F 149 1) B = true → A 160 B = nI (jlb (A 150) (F 149 0) (F 149 1) B)) {h0 : jxH} : ∀ n B, B < n → jblk (F 149 0) (F 149 1) B = true → ∀ (A1 : Nat → Nat → Int32) (h1 : jxH) (p k D : Nat) (q : Option Nat) (w2 w3 w4 w5 : Value), jR (jup F 149 14 k) A1 G g h1 → jD h0 h1 → A1 150 = A 150 → A1 160 = A 160 → p + jar B ≤ 30 → k + 2 * jar B ≤ 60 → A1 168 p = nI B → A1 169 p = (jqv q) → jqp q k D (A1 166) → (∀ A2 h2 w2 w3 w4 w5, jR (jup F 149 14 (k + jtS (A 150) (F 149 0) (F 149 1) n B)) A2 G g h2 → jD h0 h2 → (∀ a, a < 162 ∨ 169 < a → A2 a = A1 a) → (∀ j, j < p → A2 168 j = A1 168 j ∧ A2 169 j = A1 169 j) → (∀ j, j < k → A2 162 j = A1 162 j ∧ A2 163 j = A1 163 j ∧ A2 166 j = A1 166 j ∧ A2 167 j = A1 167 j) → (∀ j, j < k → q ≠ some j → A2 164 j = A1 164 j ∧ A2 165 j = A1 165 j) → (∀ j, q = some j → A2 164 j = (if 0 ≤ A1 164 j then A1 164 j else nI k) ∧ A2 165 j = (if 0 ≤ A1 164 j then nI k else A1 165 j)) → jtk (A 150) (F 149 0) (F 149 1) n k B D A2 → jx_Go jxP (d + 3) 166 28 [.ref 149, .int (nI p), w2, w3, w4, w5] [] h2 Q) → jx_Go jxP (d + 3) 166 28 [.ref 149, .int (nI (p + 1)), w2, w3, w4, w5] [] h1 Q := by
  have p1 := jp2 _ hr
  have p2 := jp2 _ hc
  intro n
  induction n with
  | zero => intro B hB; omega
  | succ n ih =>
    intro B hBn hb A1 h1 p k D q w2 w3 w4 w5 hR1 hD1 f150 f160 hp hk e1 e2 e3 kk
    have hb' := jblk_iff.mp hb
    have hB : B < 1024 := by omega
    have ha := jar_1 hB (by omega) (by omega)
    refine md_talk1 hR1 (by omega) (by omega) e1 e2 e3 (fun A2 h2 hR2 hD2 fr a162 a166 a164 a165 => ?_)
    have g150 : A2 150 = A 150 := by rw [fr 150 (by decide) (by decide) (by decide) (by decide), f150]
    have g160 : A2 160 = A 160 := by rw [fr 160 (by decide) (by decide) (by decide) (by decide), f160]
    have hq : ∀ j, q = some j → j < k := fun j ej => by subst ej; exact e3.1
    have b164 : ∀ j, j < k → q ≠ some j → A2 164 j = A1 164 j ∧ A2 165 j = A1 165 j := by
      intro j hj nq
      rw [a164, a165]
      cases q with
      | none => exact ⟨rfl, rfl⟩
      | some q =>
        have : j ≠ q := fun w => nq (by rw [w])
        dsimp only [jq4, jq5]
        by_cases w : 0 ≤ A1 164 q
        · rw [if_pos w, if_pos w]; exact ⟨rfl, jupd_ne this⟩
        · rw [if_neg w, if_neg w]; exact ⟨jupd_ne this, rfl⟩
    have c164 : ∀ j, q = some j → A2 164 j = (if 0 ≤ A1 164 j then A1 164 j else nI k) ∧ A2 165 j = (if 0 ≤ A1 164 j then nI k else A1 165 j) := by
      intro j ej
      subst ej
      rw [a164, a165]
      dsimp only [jq4, jq5]
      by_cases w : 0 ≤ A1 164 j
      · rw [if_pos w, if_pos w, if_pos w, if_pos w]; exact ⟨rfl, jupd_same⟩
      · rw [if_neg w, if_neg w, if_neg w, if_neg w]; exact ⟨jupd_same, rfl⟩
    have hDD := hD1.tr hD2
    have hv2 : jV (A2 150) (jup F 149 14 (k + 1) 149 0) (jup F 149 14 (k + 1) 149 1) := by rw [g150]; exact hv
    simp (disch := omega) only [s166_132, s166_133, s166_134, Option.some.injEq, exists_eq_left', exists_eq_left, List.cons_append, List.nil_append, List.length_nil, List.length_cons, Nat.reduceAdd, Nat.reduceMul, Nat.reduceSub, Nat.reduceLeDiff, true_and, and_true, ↓reduceIte, not_false_eq_true, not_true_eq_false, nI_add, pk_mul, jn_ltT, jn_ltF, jn_leT, jn_leF, jn_eqT, jn_eqF, jn_lt0, jn_ge0, jn_eq0T, jn_eq0F, jn_in, jn_cl, jc_of_149 hR2]
    refine md_isEven hR2 hr hc hv2 hB ?_
    rw [show jev (A2 150) (jup F 149 14 (k + 1) 149 0) (jup F 149 14 (k + 1) 149 1) B = jev (A 150) (F 149 0) (F 149 1) B by rw [g150]; rfl]
    by_cases he : jev (A 150) (F 149 0) (F 149 1) B = true
    · rw [he]
      have hR3 := hR2.wi (a := 163) (f := upd (A2 163) k (nI 2)) rfl
      have hD3 := hDD.wi (a := 163) (n := 64) (f := upd (A2 163) k (nI 2)) (by decide)
      simp (disch := omega) only [s166_137, s166_140, s166_141, s166_144, s166_146, s166_147, s166_148, s166_149, s166_152, s166_154, s166_155, s166_156, Option.some.injEq, exists_eq_left', exists_eq_left, List.cons_append, List.nil_append, List.length_nil, List.length_cons, Nat.reduceAdd, Nat.reduceMul, Nat.reduceSub, Nat.reduceLeDiff, true_and, and_true, ↓reduceIte, not_false_eq_true, not_true_eq_false, nI_add, pk_mul, jn_ltT, jn_ltF, jn_leT, jn_leF, jn_eqT, jn_eqF, jn_lt0, jn_ge0, jn_eq0T, jn_eq0F, jn_in, jn_cl, jh_ai_wi, jh_ai_wi_ne, jh_ai_uf, jh_fl_wi_ne, jh_fl_uf_ne, jh_fl_uf_o, jh_cl_wi_ne, jh_cl_uf, jh_al_wi_ne, jh_al_uf, jh_al_wl, jh_al_wl_ne, jh_ai_wl_ne, jh_fl_wl_ne, jh_cl_wl_ne, jh_ar_wi_ne, jh_ar_uf, jh_ar_wl_ne, jh_1_wi, jh_1_uf, jh_1_wl, jf_149_19 hR2, jf_149_20 hR2, ja_163 hR2, jc_of_149 hR2, Bool.toNat_true]
      generalize jx_wi h2 163 64 (upd (A2 163) k (nI 2)) = h3 at hR3 hD3 ⊢
      have x3 : jua A2 163 (upd (A2 163) k (nI 2)) 150 = A 150 := by rw [jua_ne (by decide), g150]
      refine md_has hR3 hr hc (by rw [x3]; exact hv) hB ?_
      rw [show jhas (jua A2 163 (upd (A2 163) k (nI 2)) 150) (jup F 149 14 (k + 1) 149 0) (jup F 149 14 (k + 1) 149 1) B = jhas (A 150) (F 149 0) (F 149 1) B by rw [x3]; rfl]
      have hl := jhas_le (v := A 150) (R := F 149 0) (C := F 149 1) (B := B)
      have k168 : ∀ u, u = (if jhas (A 150) (F 149 0) (F 149 1) B = 2 then 1 else 0) → jx_Go jxP (d + 3) 166 168 [.ref 149, .int (nI p), .int (nI B), .int (jqv q), .int (nI k), w5] [.int (nI u), .int (nI k), .ref 164] h3 Q := by
        rintro u rfl
        have x4 : jua A2 163 (upd (A2 163) k (nI 2)) 164 = A2 164 := jua_ne (by decide)
        have x5 : jua A2 163 (upd (A2 163) k (nI 2)) 165 = A2 165 := jua_ne (by decide)
        simp (disch := omega) only [s166_168, s166_169, s166_170, s166_173, s166_175, s166_177, s166_178, Option.some.injEq, exists_eq_left', exists_eq_left, List.cons_append, List.nil_append, List.length_nil, List.length_cons, Nat.reduceAdd, Nat.reduceMul, Nat.reduceSub, Nat.reduceLeDiff, true_and, and_true, ↓reduceIte, not_false_eq_true, not_true_eq_false, nI_add, pk_mul, jn_ltT, jn_ltF, jn_leT, jn_leF, jn_eqT, jn_eqF, jn_lt0, jn_ge0, jn_eq0T, jn_eq0F, jn_in, jn_cl, jh_ai_wi, jh_ai_wi_ne, jh_ai_uf, jh_fl_wi_ne, jh_fl_uf_ne, jh_fl_uf_o, jh_cl_wi_ne, jh_cl_uf, jh_al_wi_ne, jh_al_uf, jh_al_wl, jh_al_wl_ne, jh_ai_wl_ne, jh_fl_wl_ne, jh_cl_wl_ne, jh_ar_wi_ne, jh_ar_uf, jh_ar_wl_ne, jh_1_wi, jh_1_uf, jh_1_wl, jf_149_21 hR3, ja_164 hR3, ja_165 hR3, x4, x5]
        have hR4 := (hR3.wi (a := 164) (f := upd (A2 164) k (nI (if jhas (A 150) (F 149 0) (F 149 1) B = 2 then 1 else 0))) rfl).wi (a := 165) (f := upd (A2 165) k (-100)) rfl
        have hD4 := (hD3.wi (a := 164) (n := 64) (f := upd (A2 164) k (nI (if jhas (A 150) (F 149 0) (F 149 1) B = 2 then 1 else 0))) (by decide)).wi (a := 165) (n := 64) (f := upd (A2 165) k (-100)) (by decide)
        have z163 : ∀ f1 f2 f3 : Nat → Int32, jua (jua (jua A2 163 f1) 164 f2) 165 f3 163 = f1 := fun f1 f2 f3 => by rw [jua_ne (by decide), jua_ne (by decide), jua_same]
        have z164 : ∀ f1 f2 f3 : Nat → Int32, jua (jua (jua A2 163 f1) 164 f2) 165 f3 164 = f2 := fun f1 f2 f3 => by rw [jua_ne (by decide), jua_same]
        have z165 : ∀ f1 f2 f3 : Nat → Int32, jua (jua (jua A2 163 f1) 164 f2) 165 f3 165 = f3 := fun f1 f2 f3 => jua_same
        have zo : ∀ f1 f2 f3 : Nat → Int32, ∀ a, a ≠ 163 → a ≠ 164 → a ≠ 165 → jua (jua (jua A2 163 f1) 164 f2) 165 f3 a = A2 a := fun f1 f2 f3 a n1 n2 n3 => by rw [jua_ne n3, jua_ne n2, jua_ne n1]
        rw [jtS_s, if_pos he] at kk
        refine kk _ _ _ _ _ _ hR4 hD4 ?_ ?_ ?_ ?_ ?_ ?_
        · intro a w
          rw [zo _ _ _ a (by omega) (by omega) (by omega), fr a (by omega) (by omega) (by omega) (by omega)]
        · intro j hj
          rw [zo _ _ _ 168 (by omega) (by omega) (by omega), zo _ _ _ 169 (by omega) (by omega) (by omega), fr 168 (by omega) (by omega) (by omega) (by omega), fr 169 (by omega) (by omega) (by omega) (by omega)]
          exact ⟨rfl, rfl⟩
        · intro j hj
          rw [zo _ _ _ 162 (by omega) (by omega) (by omega), zo _ _ _ 166 (by omega) (by omega) (by omega), zo _ _ _ 167 (by omega) (by omega) (by omega), z163, a162, a166, fr 167 (by omega) (by omega) (by omega) (by omega), fr 163 (by omega) (by omega) (by omega) (by omega), jupd_ne (show j ≠ k by omega), jupd_ne (show j ≠ k by omega), jupd_ne (show j ≠ k by omega)]
          exact ⟨rfl, rfl, rfl, rfl⟩
        · intro j hj nq
          rw [z164, z165, jupd_ne (show j ≠ k by omega), jupd_ne (show j ≠ k by omega)]
          exact b164 j hj nq
        · intro j ej
          have hj := hq j ej
          rw [z164, z165, jupd_ne (show j ≠ k by omega), jupd_ne (show j ≠ k by omega)]
          exact c164 j ej
        · refine ⟨?_, ?_, ?_⟩
          · rw [zo _ _ _ 162 (by omega) (by omega) (by omega), a162, jupd_same]
          · rw [zo _ _ _ 166 (by omega) (by omega) (by omega), a166, jupd_same]
          · rw [if_pos he, z163, z164, z165, jupd_same, jupd_same, jupd_same]
            exact ⟨rfl, rfl, rfl⟩
      by_cases w : jhas (A 150) (F 149 0) (F 149 1) B = 2
      · simp (disch := omega) only [s166_159, s166_160, s166_163, s166_164, Option.some.injEq, exists_eq_left', exists_eq_left, List.cons_append, List.nil_append, List.length_nil, List.length_cons, Nat.reduceAdd, Nat.reduceMul, Nat.reduceSub, Nat.reduceLeDiff, true_and, and_true, ↓reduceIte, not_false_eq_true, not_true_eq_false, nI_add, pk_mul, jn_ltT, jn_ltF, jn_leT, jn_leF, jn_eqT, jn_eqF, jn_lt0, jn_ge0, jn_eq0T, jn_eq0F, jn_in, jn_cl]
        exact k168 _ (by rw [if_pos w])
      · simp (disch := omega) only [s166_159, s166_160, s166_163, s166_164, s166_167, Option.some.injEq, exists_eq_left', exists_eq_left, List.cons_append, List.nil_append, List.length_nil, List.length_cons, Nat.reduceAdd, Nat.reduceMul, Nat.reduceSub, Nat.reduceLeDiff, true_and, and_true, ↓reduceIte, not_false_eq_true, not_true_eq_false, nI_add, pk_mul, jn_ltT, jn_ltF, jn_leT, jn_leF, jn_eqT, jn_eqF, jn_lt0, jn_ge0, jn_eq0T, jn_eq0F, jn_in, jn_cl]
        exact k168 _ (by rw [if_neg w])
    · rw [Bool.eq_false_iff.mpr he]
      obtain ⟨b1, b2, l1, l2, hX, hS, hL, hA⟩ := jcut_ok hr hc hb he
      have b1' := jblk_iff.mp b1
      have b2' := jblk_iff.mp b2
      have r1 := jar_1 (B := jfr (A 150) (F 149 0) (F 149 1) B) (by omega) (by omega) (by omega)
      have r2 := jar_1 (B := jsn (A 150) (F 149 0) (F 149 1) B) (by omega) (by omega) (by omega)
      have S1 := jtS_le (v := A 150) hr hc n _ b1
      simp (disch := omega) only [s166_137, s166_181, s166_182, s166_183, Option.some.injEq, exists_eq_left', exists_eq_left, List.cons_append, List.nil_append, List.length_nil, List.length_cons, Nat.reduceAdd, Nat.reduceMul, Nat.reduceSub, Nat.reduceLeDiff, true_and, and_true, ↓reduceIte, not_false_eq_true, not_true_eq_false, nI_add, pk_mul, jn_ltT, jn_ltF, jn_leT, jn_leF, jn_eqT, jn_eqF, jn_lt0, jn_ge0, jn_eq0T, jn_eq0F, jn_in, jn_cl, jc_of_149 hR2, Bool.toNat_false]
      refine md_parting hR2 hr hc (fun B' hB' => by rw [g150, g160]; exact hT B' hB') hb (by rw [g150]; exact he) ?_
      rw [show jcut (A2 150) (jup F 149 14 (k + 1) 149 0) (jup F 149 14 (k + 1) 149 1) B = jcut (A 150) (F 149 0) (F 149 1) B by rw [g150]; rfl]
      have fin : ∀ A3 h3, jR (jup F 149 14 (k + 1)) A3 G g h3 → jD h0 h3 → (∀ a, a ≠ 163 → a ≠ 164 → a ≠ 167 → a ≠ 168 → a ≠ 169 → A3 a = A2 a) → A3 163 = upd (A2 163) k (nI (if 32 ≤ jcut (A 150) (F 149 0) (F 149 1) B then 0 else 1)) → A3 164 = upd (A2 164) k (-1) → A3 167 = upd (A2 167) k (nI (jcut (A 150) (F 149 0) (F 149 1) B)) → A3 168 = upd (upd (A2 168) p (nI (jsn (A 150) (F 149 0) (F 149 1) B))) (p + 1) (nI (jfr (A 150) (F 149 0) (F 149 1) B)) → A3 169 = upd (upd (A2 169) p (nI k)) (p + 1) (nI k) → ∀ w2 w3 w4 w5, jx_Go jxP (d + 3) 166 28 [.ref 149, .int (nI (p + 1 + 1)), w2, w3, w4, w5] [] h3 Q := by
        intro A3 h3 hR3 hD3 fr3 x163 x164 x167 x168 x169 w2 w3 w4 w5
        have y166 : A3 166 = A2 166 := fr3 166 (by omega) (by omega) (by omega) (by omega) (by omega)
        refine ih _ (by omega) b1 A3 h3 (p + 1) (k + 1) (D + 1) (some k) w2 w3 w4 w5 hR3 hD3 (by rw [fr3 150 (by omega) (by omega) (by omega) (by omega) (by omega), g150]) (by rw [fr3 160 (by omega) (by omega) (by omega) (by omega) (by omega), g160]) (by omega) (by omega) (by rw [x168, jupd_same]) (by rw [x169, jupd_same]; rfl) ⟨by omega, by omega, by rw [y166, a166, jupd_same]; rfl⟩ (fun A4 h4 w2 w3 w4 w5 hR4 hD4 P1 P2 P3 P4 P5 P6 => ?_)
        have u166 : A4 166 k = nI D := by rw [(P3 k (by omega)).2.2.1, y166, a166, jupd_same]
        refine ih _ (by omega) b2 A4 h4 p (k + 1 + jtS (A 150) (F 149 0) (F 149 1) n (jfr (A 150) (F 149 0) (F 149 1) B)) (D + 1) (some k) w2 w3 w4 w5 hR4 hD4 (by rw [P1 150 (by omega), fr3 150 (by omega) (by omega) (by omega) (by omega) (by omega), g150]) (by rw [P1 160 (by omega), fr3 160 (by omega) (by omega) (by omega) (by omega) (by omega), g160]) (by omega) (by omega) (by rw [(P2 p (by omega)).1, x168, jupd_ne (by omega), jupd_same]) (by rw [(P2 p (by omega)).2, x169, jupd_ne (by omega), jupd_same]; rfl) ⟨by omega, by omega, u166⟩ (fun A5 h5 w2 w3 w4 w5 hR5 hD5 Q1 Q2 Q3 Q4 Q5 Q6 => ?_)
        rw [show k + 1 + jtS (A 150) (F 149 0) (F 149 1) n (jfr (A 150) (F 149 0) (F 149 1) B) + jtS (A 150) (F 149 0) (F 149 1) n (jsn (A 150) (F 149 0) (F 149 1) B) = k + jtS (A 150) (F 149 0) (F 149 1) (n + 1) B by rw [jtS_s, if_neg he]; omega] at hR5
        have v164 : A4 164 k = nI (k + 1) := by
          rw [(P5 k rfl).1, x164, jupd_same]
          rfl
        have nq : ∀ j, j < k → (some k : Option Nat) ≠ some j := fun j hj w => by cases w; omega
        refine kk A5 h5 w2 w3 w4 w5 hR5 hD5 ?_ ?_ ?_ ?_ ?_ ?_
        · intro a w
          rw [Q1 a w, P1 a w, fr3 a (by omega) (by omega) (by omega) (by omega) (by omega), fr a (by omega) (by omega) (by omega) (by omega)]
        · intro j hj
          rw [(Q2 j hj).1, (Q2 j hj).2, (P2 j (by omega)).1, (P2 j (by omega)).2, x168, x169, jupd_ne (by omega), jupd_ne (by omega), jupd_ne (by omega), jupd_ne (by omega), fr 168 (by omega) (by omega) (by omega) (by omega), fr 169 (by omega) (by omega) (by omega) (by omega)]
          exact ⟨rfl, rfl⟩
        · intro j hj
          have q3 := Q3 j (by omega)
          have p3 := P3 j (by omega)
          rw [q3.1, q3.2.1, q3.2.2.1, q3.2.2.2, p3.1, p3.2.1, p3.2.2.1, p3.2.2.2, fr3 162 (by omega) (by omega) (by omega) (by omega) (by omega), y166, x163, x167, a162, a166, fr 163 (by omega) (by omega) (by omega) (by omega), fr 167 (by omega) (by omega) (by omega) (by omega), jupd_ne (by omega), jupd_ne (by omega), jupd_ne (by omega), jupd_ne (by omega)]
          exact ⟨rfl, rfl, rfl, rfl⟩
        · intro j hj nj
          have q4 := Q4 j (by omega) (nq j hj)
          have p4 := P4 j (by omega) (nq j hj)
          rw [q4.1, q4.2, p4.1, p4.2, x164, fr3 165 (by omega) (by omega) (by omega) (by omega) (by omega), jupd_ne (by omega)]
          exact b164 j hj nj
        · intro j ej
          have hj := hq j ej
          have q4 := Q4 j (by omega) (nq j hj)
          have p4 := P4 j (by omega) (nq j hj)
          rw [q4.1, q4.2, p4.1, p4.2, x164, fr3 165 (by omega) (by omega) (by omega) (by omega) (by omega), jupd_ne (by omega)]
          exact c164 j ej
        · have q3 := Q3 k (by omega)
          have p3 := P3 k (by omega)
          refine ⟨?_, ?_, ?_⟩
          · rw [q3.1, p3.1, fr3 162 (by omega) (by omega) (by omega) (by omega) (by omega), a162, jupd_same]
          · rw [q3.2.2.1, u166]
          · rw [if_neg he]
            have z : (0 : Int32) ≤ nI (k + 1) := of_eq_true (jn_ge0 (by omega))
            refine ⟨?_, ?_, ?_, ?_, ?_, Q6⟩
            · rw [q3.2.1, p3.2.1, x163, jupd_same]
            · rw [q3.2.2.2, p3.2.2.2, x167, jupd_same]
            · rw [(Q5 k rfl).1, v164, if_pos z]
            · rw [(Q5 k rfl).2, v164, if_pos z]
            · refine jtk_congr n _ _ _ (fun a j h1 h2 h3 h4 => ?_) P6
              have q3 := Q3 j (by omega)
              have q4 := Q4 j (by omega) (fun w => by cases w; omega)
              rcases (show a = 162 ∨ a = 163 ∨ a = 164 ∨ a = 165 ∨ a = 166 ∨ a = 167 by omega) with rfl | rfl | rfl | rfl | rfl | rfl
              · exact q3.1
              · exact q3.2.1
              · exact q4.1
              · exact q4.2
              · exact q3.2.2.1
              · exact q3.2.2.2
      have mk : ∀ x y : Int32, ∀ s f : Int32, jR (jup F 149 14 (k + 1)) (jua (jua (jua (jua (jua (jua (jua A2 163 (upd (A2 163) k x)) 167 (upd (A2 167) k y)) 164 (upd (A2 164) k (-1))) 168 (upd (A2 168) p s)) 169 (upd (A2 169) p (nI k))) 168 (upd (upd (A2 168) p s) (p + 1) f)) 169 (upd (upd (A2 169) p (nI k)) (p + 1) (nI k))) G g (jx_wi (jx_wi (jx_wi (jx_wi (jx_wi (jx_wi (jx_wi h2 163 64 (upd (A2 163) k x)) 167 64 (upd (A2 167) k y)) 164 64 (upd (A2 164) k (-1))) 168 64 (upd (A2 168) p s)) 169 64 (upd (A2 169) p (nI k))) 168 64 (upd (upd (A2 168) p s) (p + 1) f)) 169 64 (upd (upd (A2 169) p (nI k)) (p + 1) (nI k))) ∧ jD h0 (jx_wi (jx_wi (jx_wi (jx_wi (jx_wi (jx_wi (jx_wi h2 163 64 (upd (A2 163) k x)) 167 64 (upd (A2 167) k y)) 164 64 (upd (A2 164) k (-1))) 168 64 (upd (A2 168) p s)) 169 64 (upd (A2 169) p (nI k))) 168 64 (upd (upd (A2 168) p s) (p + 1) f)) 169 64 (upd (upd (A2 169) p (nI k)) (p + 1) (nI k))) := fun x y s f => ⟨((((((hR2.wi rfl).wi rfl).wi rfl).wi rfl).wi rfl).wi rfl).wi rfl, ((((((hDD.wi (by decide)).wi (by decide)).wi (by decide)).wi (by decide)).wi (by decide)).wi (by decide)).wi (by decide)⟩
      rcases hS with ⟨w, e'⟩ | ⟨w, w2, e'⟩
      · simp (disch := omega) only [s166_186, s166_188, s166_189, s166_192, s166_194, s166_196, s166_198, s166_201, s166_202, s166_205, s166_206, s166_207, s166_208, s166_211, s166_213, s166_215, s166_216, s166_217, s166_220, s166_222, s166_223, s166_224, s166_225, s166_228, s166_229, s166_231, s166_233, s166_236, s166_237, s166_239, s166_240, s166_242, s166_243, s166_246, s166_248, s166_249, s166_251, s166_252, s166_253, s166_254, s166_255, s166_258, s166_259, s166_261, s166_262, s166_263, s166_266, s166_267, s166_268, s166_269, s166_270, s166_272, s166_273, s166_274, s166_275, s166_278, s166_279, s166_280, s166_281, s166_283, s166_284, s166_287, Option.some.injEq, exists_eq_left', exists_eq_left, List.cons_append, List.nil_append, List.length_nil, List.length_cons, Nat.reduceAdd, Nat.reduceMul, Nat.reduceSub, Nat.reduceLeDiff, true_and, and_true, ↓reduceIte, not_false_eq_true, not_true_eq_false, nI_add, pk_mul, jn_ltT, jn_ltF, jn_leT, jn_leF, jn_eqT, jn_eqF, jn_lt0, jn_ge0, jn_eq0T, jn_eq0F, jn_in, jn_cl, jh_ai_wi, jh_ai_wi_ne, jh_ai_uf, jh_fl_wi_ne, jh_fl_uf_ne, jh_fl_uf_o, jh_cl_wi_ne, jh_cl_uf, jh_al_wi_ne, jh_al_uf, jh_al_wl, jh_al_wl_ne, jh_ai_wl_ne, jh_fl_wl_ne, jh_cl_wl_ne, jh_ar_wi_ne, jh_ar_uf, jh_ar_wl_ne, jh_1_wi, jh_1_uf, jh_1_wl, jf_149_19 hR2, jf_149_20 hR2, jf_149_23 hR2, jf_149_24 hR2, jf_149_25 hR2, ja_163 hR2, ja_164 hR2, ja_167 hR2, ja_168 hR2, ja_169 hR2, jn_xor, hX, jx4, jn_or, e']
        obtain ⟨m1, m2⟩ := mk (nI 1) (nI (jcut (A 150) (F 149 0) (F 149 1) B)) (nI (jsn (A 150) (F 149 0) (F 149 1) B)) (nI (jfr (A 150) (F 149 0) (F 149 1) B))
        refine fin _ _ m1 m2 (fun a n1 n2 n3 n4 n5 => by rw [jua_ne n5, jua_ne n4, jua_ne n5, jua_ne n4, jua_ne n2, jua_ne n3, jua_ne n1]) ?_ ?_ ?_ ?_ ?_ _ _ _ _
        · rw [jua_ne (by decide), jua_ne (by decide), jua_ne (by decide), jua_ne (by decide), jua_ne (by decide), jua_ne (by decide), jua_same, if_neg (by omega)]
        · rw [jua_ne (by decide), jua_ne (by decide), jua_ne (by decide), jua_ne (by decide), jua_same]
        · rw [jua_ne (by decide), jua_ne (by decide), jua_ne (by decide), jua_ne (by decide), jua_ne (by decide), jua_same]
        · rw [jua_ne (by decide), jua_same]
        · rw [jua_same]
      · simp (disch := omega) only [s166_186, s166_188, s166_189, s166_192, s166_194, s166_196, s166_198, s166_201, s166_202, s166_205, s166_206, s166_207, s166_208, s166_211, s166_213, s166_215, s166_216, s166_217, s166_220, s166_222, s166_223, s166_224, s166_225, s166_228, s166_229, s166_231, s166_233, s166_236, s166_237, s166_239, s166_240, s166_242, s166_243, s166_246, s166_248, s166_249, s166_251, s166_252, s166_253, s166_254, s166_255, s166_258, s166_259, s166_261, s166_262, s166_263, s166_266, s166_267, s166_268, s166_269, s166_270, s166_272, s166_273, s166_274, s166_275, s166_278, s166_279, s166_280, s166_281, s166_283, s166_284, s166_287, Option.some.injEq, exists_eq_left', exists_eq_left, List.cons_append, List.nil_append, List.length_nil, List.length_cons, Nat.reduceAdd, Nat.reduceMul, Nat.reduceSub, Nat.reduceLeDiff, true_and, and_true, ↓reduceIte, not_false_eq_true, not_true_eq_false, nI_add, pk_mul, jn_ltT, jn_ltF, jn_leT, jn_leF, jn_eqT, jn_eqF, jn_lt0, jn_ge0, jn_eq0T, jn_eq0F, jn_in, jn_cl, jh_ai_wi, jh_ai_wi_ne, jh_ai_uf, jh_fl_wi_ne, jh_fl_uf_ne, jh_fl_uf_o, jh_cl_wi_ne, jh_cl_uf, jh_al_wi_ne, jh_al_uf, jh_al_wl, jh_al_wl_ne, jh_ai_wl_ne, jh_fl_wl_ne, jh_cl_wl_ne, jh_ar_wi_ne, jh_ar_uf, jh_ar_wl_ne, jh_1_wi, jh_1_uf, jh_1_wl, jf_149_19 hR2, jf_149_20 hR2, jf_149_23 hR2, jf_149_24 hR2, jf_149_25 hR2, ja_163 hR2, ja_164 hR2, ja_167 hR2, ja_168 hR2, ja_169 hR2, jn_xor, hX, jan31, jn_or, e']
        obtain ⟨m1, m2⟩ := mk (nI 0) (nI (jcut (A 150) (F 149 0) (F 149 1) B)) (nI (jsn (A 150) (F 149 0) (F 149 1) B)) (nI (jfr (A 150) (F 149 0) (F 149 1) B))
        refine fin _ _ m1 m2 (fun a n1 n2 n3 n4 n5 => by rw [jua_ne n5, jua_ne n4, jua_ne n5, jua_ne n4, jua_ne n2, jua_ne n3, jua_ne n1]) ?_ ?_ ?_ ?_ ?_ _ _ _ _
        · rw [jua_ne (by decide), jua_ne (by decide), jua_ne (by decide), jua_ne (by decide), jua_ne (by decide), jua_ne (by decide), jua_same, if_pos (by omega)]
        · rw [jua_ne (by decide), jua_ne (by decide), jua_ne (by decide), jua_ne (by decide), jua_same]
        · rw [jua_ne (by decide), jua_ne (by decide), jua_ne (by decide), jua_ne (by decide), jua_ne (by decide), jua_same]
        · rw [jua_ne (by decide), jua_same]
        · rw [jua_same]
end MD13
