/-! ===== the class: rank, unlike, the history ===== -/
section CL3
variable {d : Nat} {F : Nat → Nat → Nat} {A : Nat → Nat → Int32} {G : Nat → Option Nat} {g : Nat → Int64} {h : jxH} {Q : List Value → jxH → Prop}
/-- cells may have been added; those beyond the first 182, and the script, stay -/
def jE (h h' : jxH) : Prop := h.1 ≤ h'.1 ∧ h'.1 ≤ h.1 + 3 ∧ h'.2.1 ≤ h.2.1 + 60 ∧ ∀ i, ((182 ≤ i ∧ i < h.1) ∨ i = 0) → h'.2.2 i = h.2.2 i
theorem jD.jE {h h' : jxH} (e : jD h h') : jE h h' := ⟨Nat.le_of_eq e.1.symm, by rw [e.1]; omega, by rw [e.2.1]; omega, fun i hi => e.2.2 i (by omega)⟩
def jgi (z : Nat → Int) : Nat → Int32 := fun k => Int32.ofInt (z k)
theorem jgi_v {z : Nat → Int} {i : Nat} {x : Int} : upd (jgi z) i (Int32.ofInt x) = jgi (fun k => if k = i then x else z k) := by
  funext k
  simp only [upd, jgi]
  split <;> rfl
theorem jgi_op {z : Nat → Int} {i j k l : Nat} : jgi z i * jgi z j - jgi z k * jgi z l = Int32.ofInt (z i * z j - z k * z l) := by
  unfold jgi
  rw [Int32.ofInt_sub, Int32.ofInt_mul, Int32.ofInt_mul]
theorem jI_and (v : Int) : Int32.ofInt v &&& nI 1 = Int32.ofInt (v % 2) := by
  apply Int32.toBitVec_inj.mp
  show BitVec.ofInt 32 v &&& 1#32 = BitVec.ofInt 32 (v % 2)
  apply BitVec.eq_of_toNat_eq
  rw [BitVec.toNat_and, BitVec.toNat_ofInt, BitVec.toNat_ofInt, show (1#32).toNat = 1 from rfl, Nat.and_one_is_mod]
  omega
theorem jI_z {z : Nat → Int} {i : Nat} (hz : (z i).natAbs ≤ 32768) : (jgi z i = 0) = (z i = 0) := by
  have e0 : (0 : Int32) = Int32.ofInt 0 := rfl
  apply propext
  unfold jgi
  constructor
  · intro w
    have := congrArg Int32.toInt w
    rw [Int32.toInt_ofInt, e0, Int32.toInt_ofInt, Int.bmod_def, Int.bmod_def] at this
    simp only [Int32.size] at this
    omega
  · intro w; rw [w]; rfl
/-- a task with its grid elsewhere -/
def jGd (h : jxH) (a R C : Nat) (f : Nat → Int32) : Prop := jx_cl h 2 = some 10 ∧ jx_fl h 2 10 0 = some (.int (nI R)) ∧ jx_fl h 2 10 1 = some (.int (nI C)) ∧ jx_ai h a = some (25, f)
theorem jGd.wi {a R C : Nat} {f f' : Nat → Int32} (e : jGd h a R C f) (ha : 2 ≠ a) : jGd (jx_wi h a 25 f') a R C f' := ⟨by rw [jh_cl_wi_ne ha]; exact e.1, by rw [jh_fl_wi_ne ha]; exact e.2.1, by rw [jh_fl_wi_ne ha]; exact e.2.2.1, jh_ai_wi⟩
theorem tk_findPivot {a R C c s : Nat} {z : Nat → Int} (e : jGd h a R C (jgi z)) (hR : R ≤ 5) (hC : c < 5) (hs : s ≤ R) (hb : ∀ i, i < R → (z (5 * i + c)).natAbs ≤ 32768) (k : Q [.int (nI (jpv z R c s))] h) : jx_Go jxP d 83 0 [.ref 2, .ref a, .int (nI s), .int (nI c), jx_u] [] h Q := by
  obtain ⟨e1, e2, e3, e4⟩ := e
  obtain ⟨v1, v2, v3⟩ := jpv_lt (z := z) (R := R) (c := c) (s := s)
  have sp : s ≤ jpv z R c s := by
    rcases Nat.lt_or_ge (jpv z R c s) R with u | u
    · exact (v2 u).1
    · omega
  simp (disch := omega) only [s83_0, s83_1, Option.some.injEq, exists_eq_left', exists_eq_left, List.cons_append, List.nil_append, List.length_nil, List.length_cons, Nat.reduceAdd, Nat.reduceMul, Nat.reduceSub, Nat.reduceLeDiff, true_and, and_true, ↓reduceIte, not_false_eq_true, not_true_eq_false, nI_add, pk_mul, jn_ltT, jn_ltF, jn_leT, jn_leF, jn_eqT, jn_eqF, jn_lt0, jn_ge0, jn_eq0T, jn_eq0F, jn_in, jn_cl]
  refine jloop (fun i => s ≤ i → jx_Go jxP d 83 3 [.ref 2, .ref a, .int (nI s), .int (nI c), .int (nI i)] [] h Q) (jpv z R c s) ?_ ?_ s sp (Nat.le_refl _)
  · intro _
    rw [s83_3]
    rcases Nat.lt_or_ge (jpv z R c s) R with u | u
    · have zz : (jgi z (5 * jpv z R c s + c) = 0) = False := by rw [jI_z (hb _ u)]; exact eq_false (v2 u).2
      simp (disch := omega) only [s83_5, s83_6, s83_9, s83_12, s83_13, s83_14, s83_16, s83_17, s83_18, s83_19, s83_20, s83_29, s83_31, Option.some.injEq, exists_eq_left', exists_eq_left, List.cons_append, List.nil_append, List.length_nil, List.length_cons, Nat.reduceAdd, Nat.reduceMul, Nat.reduceSub, Nat.reduceLeDiff, true_and, and_true, ↓reduceIte, not_false_eq_true, not_true_eq_false, nI_add, pk_mul, jn_ltT, jn_ltF, jn_leT, jn_leF, jn_eqT, jn_eqF, jn_lt0, jn_ge0, jn_eq0T, jn_eq0F, jn_in, jn_cl, e2, e4, zz]
      exact k
    · simp (disch := omega) only [s83_5, s83_6, s83_9, s83_29, s83_31, Option.some.injEq, exists_eq_left', exists_eq_left, List.cons_append, List.nil_append, List.length_nil, List.length_cons, Nat.reduceAdd, Nat.reduceMul, Nat.reduceSub, Nat.reduceLeDiff, true_and, and_true, ↓reduceIte, not_false_eq_true, not_true_eq_false, nI_add, pk_mul, jn_ltT, jn_ltF, jn_leT, jn_leF, jn_eqT, jn_eqF, jn_lt0, jn_ge0, jn_eq0T, jn_eq0F, jn_in, jn_cl, e2]
      exact k
  · intro i hi ih si
    rw [s83_3]
    have zz : (jgi z (5 * i + c) = 0) = True := by rw [jI_z (hb _ (by omega))]; exact eq_true (v3 i si hi)
    simp (disch := omega) only [s83_5, s83_6, s83_9, s83_12, s83_13, s83_14, s83_16, s83_17, s83_18, s83_19, s83_20, s83_23, s83_26, Option.some.injEq, exists_eq_left', exists_eq_left, List.cons_append, List.nil_append, List.length_nil, List.length_cons, Nat.reduceAdd, Nat.reduceMul, Nat.reduceSub, Nat.reduceLeDiff, true_and, and_true, ↓reduceIte, not_false_eq_true, not_true_eq_false, nI_add, pk_mul, jn_ltT, jn_ltF, jn_leT, jn_leF, jn_eqT, jn_eqF, jn_lt0, jn_ge0, jn_eq0T, jn_eq0F, jn_in, jn_cl, e2, e4, zz]
    exact ih (by omega)
theorem tk_clearBelow {a R C c s : Nat} {z : Nat → Int} {fr : Bool} (e : jGd h a R C (jgi z)) (ha : 2 ≠ a) (hR : R ≤ 5) (hC : C ≤ 5) (hc : c < C) (hs : s < R) (k : Q [] (jx_wi h a 25 (jgi (jel fr z C c s R 0)))) : jx_Go jxP d 84 0 [.ref 2, .ref a, .int (nI s), .int (nI c), .int (nI fr.toNat), jx_u, jx_u, jx_u, jx_u, jx_u, jx_u] [] h Q := by
  obtain ⟨e1, e2, e3, e4⟩ := e
  have e0 : jel fr z C c s (s + 1) 0 = z := by
    funext q
    unfold jel
    rw [if_neg (by omega)]
  simp (disch := omega) only [s84_0, s84_1, s84_2, s84_3, s84_4, s84_5, s84_6, s84_7, s84_9, s84_10, s84_11, s84_12, Option.some.injEq, exists_eq_left', exists_eq_left, List.cons_append, List.nil_append, List.length_nil, List.length_cons, Nat.reduceAdd, Nat.reduceMul, Nat.reduceSub, Nat.reduceLeDiff, true_and, and_true, ↓reduceIte, not_false_eq_true, not_true_eq_false, nI_add, pk_mul, jn_ltT, jn_ltF, jn_leT, jn_leF, jn_eqT, jn_eqF, jn_lt0, jn_ge0, jn_eq0T, jn_eq0F, jn_in, jn_cl, e4]
  refine jloop (fun r => s < r → ∀ w7 w8 w9 w10, jx_Go jxP d 84 14 [.ref 2, .ref a, .int (nI s), .int (nI c), .int (nI fr.toNat), .int (jgi z (5 * s + c)), .int (nI r), w7, w8, w9, w10] [] (jx_wi h a 25 (jgi (jel fr z C c s r 0))) Q) R ?_ ?_ (s + 1) (by omega) (by omega) jx_u jx_u jx_u jx_u |> fun z => by rw [e0, jh_wi_id e4] at z; exact z
  · intro _ w7 w8 w9 w10
    rw [s84_14]
    simp (disch := first | assumption | omega) only [s84_16, s84_17, s84_20, s84_105, Option.some.injEq, exists_eq_left', exists_eq_left, List.cons_append, List.nil_append, List.length_nil, List.length_cons, Nat.reduceAdd, Nat.reduceMul, Nat.reduceSub, Nat.reduceLeDiff, true_and, and_true, ↓reduceIte, not_false_eq_true, not_true_eq_false, nI_add, pk_mul, jn_ltT, jn_ltF, jn_leT, jn_leF, jn_eqT, jn_eqF, jn_lt0, jn_ge0, jn_eq0T, jn_eq0F, jn_in, jn_cl, jh_ai_wi, jh_ai_wi_ne, jh_ai_uf, jh_fl_wi_ne, jh_fl_uf_ne, jh_fl_uf_o, jh_cl_wi_ne, jh_cl_uf, jh_al_wi_ne, jh_al_uf, jh_al_wl, jh_al_wl_ne, jh_ai_wl_ne, jh_fl_wl_ne, jh_cl_wl_ne, jh_ar_wi_ne, jh_ar_uf, jh_ar_wl_ne, jh_1_wi, jh_1_uf, jh_1_wl, e2]
    exact k
  · intro r hr' ih sr w7 w8 w9 w10
    have b2 : jgi (jel fr z C c s r 0) (5 * r + c) = jgi z (5 * r + c) := by unfold jgi jel; rw [if_neg (by omega)]
    rw [s84_14]
    simp (disch := first | assumption | omega) only [s84_16, s84_17, s84_20, s84_23, s84_24, s84_25, s84_27, s84_28, s84_29, s84_30, s84_31, s84_33, s84_34, Option.some.injEq, exists_eq_left', exists_eq_left, List.cons_append, List.nil_append, List.length_nil, List.length_cons, Nat.reduceAdd, Nat.reduceMul, Nat.reduceSub, Nat.reduceLeDiff, true_and, and_true, ↓reduceIte, not_false_eq_true, not_true_eq_false, nI_add, pk_mul, jn_ltT, jn_ltF, jn_leT, jn_leF, jn_eqT, jn_eqF, jn_lt0, jn_ge0, jn_eq0T, jn_eq0F, jn_in, jn_cl, jh_ai_wi, jh_ai_wi_ne, jh_ai_uf, jh_fl_wi_ne, jh_fl_uf_ne, jh_fl_uf_o, jh_cl_wi_ne, jh_cl_uf, jh_al_wi_ne, jh_al_uf, jh_al_wl, jh_al_wl_ne, jh_ai_wl_ne, jh_fl_wl_ne, jh_cl_wl_ne, jh_ar_wi_ne, jh_ar_uf, jh_ar_wl_ne, jh_1_wi, jh_1_uf, jh_1_wl, e2, b2]
    refine jloop (fun k => ∀ w9 w10, jx_Go jxP d 84 36 [.ref 2, .ref a, .int (nI s), .int (nI c), .int (nI fr.toNat), .int (jgi z (5 * s + c)), .int (nI r), .int (jgi z (5 * r + c)), .int (nI k), w9, w10] [] (jx_wi h a 25 (jgi (jel fr z C c s r k))) Q) C ?_ ?_ 0 (Nat.zero_le _) _ _
    · intro w9 w10
      have e1 : jel fr z C c s r C = jel fr z C c s (r + 1) 0 := by
        funext q
        unfold jel
        by_cases x : q % 5 < C ∧ s < q / 5 ∧ q / 5 < r + 1
        · rw [if_pos (by omega), if_pos (by omega)]
        · rw [if_neg (by omega), if_neg (by omega)]
      rw [e1, s84_36]
      simp (disch := first | assumption | omega) only [s84_38, s84_39, s84_42, s84_99, s84_102, Option.some.injEq, exists_eq_left', exists_eq_left, List.cons_append, List.nil_append, List.length_nil, List.length_cons, Nat.reduceAdd, Nat.reduceMul, Nat.reduceSub, Nat.reduceLeDiff, true_and, and_true, ↓reduceIte, not_false_eq_true, not_true_eq_false, nI_add, pk_mul, jn_ltT, jn_ltF, jn_leT, jn_leF, jn_eqT, jn_eqF, jn_lt0, jn_ge0, jn_eq0T, jn_eq0F, jn_in, jn_cl, jh_ai_wi, jh_ai_wi_ne, jh_ai_uf, jh_fl_wi_ne, jh_fl_uf_ne, jh_fl_uf_o, jh_cl_wi_ne, jh_cl_uf, jh_al_wi_ne, jh_al_uf, jh_al_wl, jh_al_wl_ne, jh_ai_wl_ne, jh_fl_wl_ne, jh_cl_wl_ne, jh_ar_wi_ne, jh_ar_uf, jh_ar_wl_ne, jh_1_wi, jh_1_uf, jh_1_wl, e3]
      exact ih (by omega) _ _ _ _
    · intro k hk ih2 w9 w10
      have a1 : jgi (jel fr z C c s r k) (5 * s + k) = jgi z (5 * s + k) := by unfold jgi jel; rw [if_neg (by omega)]
      have a2 : jgi (jel fr z C c s r k) (5 * r + k) = jgi z (5 * r + k) := by unfold jgi jel; rw [if_neg (by omega)]
      have e1 : jnw fr z c s (5 * r + k) = if fr = true then z (5 * r + k) * z (5 * s + c) - z (5 * s + k) * z (5 * r + c) else (z (5 * r + k) * z (5 * s + c) - z (5 * s + k) * z (5 * r + c)) % 2 := by
        unfold jnw
        rw [show (5 * r + k) % 5 = k by omega, show (5 * r + k) / 5 = r by omega]
      have e5 : (fun q => if q = 5 * r + k then jnw fr z c s (5 * r + k) else jel fr z C c s r k q) = jel fr z C c s r (k + 1) := by
        funext q
        by_cases x : q = 5 * r + k
        · subst x
          rw [if_pos rfl]
          unfold jel
          rw [if_pos (by omega)]
        · rw [if_neg x]
          unfold jel
          by_cases y : (q % 5 < C ∧ s < q / 5 ∧ q / 5 < r) ∨ (q / 5 = r ∧ q % 5 < k)
          · rw [if_pos y, if_pos (by omega)]
          · rw [if_neg y, if_neg (by omega)]
      rw [s84_36]
      cases fr with
      | true =>
        rw [if_pos rfl] at e1
        rw [e1] at e5
        simp (disch := first | assumption | omega) only [s84_38, s84_39, s84_42, s84_45, s84_46, s84_48, s84_49, s84_51, s84_52, s84_54, s84_55, s84_57, s84_58, s84_60, s84_61, s84_62, s84_63, s84_64, s84_65, s84_67, s84_68, s84_69, s84_71, s84_72, s84_73, s84_75, s84_76, s84_78, s84_80, s84_83, s84_85, s84_88, s84_90, s84_91, s84_92, s84_93, s84_96, Option.some.injEq, exists_eq_left', exists_eq_left, List.cons_append, List.nil_append, List.length_nil, List.length_cons, Nat.reduceAdd, Nat.reduceMul, Nat.reduceSub, Nat.reduceLeDiff, true_and, and_true, ↓reduceIte, not_false_eq_true, not_true_eq_false, nI_add, pk_mul, jn_ltT, jn_ltF, jn_leT, jn_leF, jn_eqT, jn_eqF, jn_lt0, jn_ge0, jn_eq0T, jn_eq0F, jn_in, jn_cl, jh_ai_wi, jh_ai_wi_ne, jh_ai_uf, jh_fl_wi_ne, jh_fl_uf_ne, jh_fl_uf_o, jh_cl_wi_ne, jh_cl_uf, jh_al_wi_ne, jh_al_uf, jh_al_wl, jh_al_wl_ne, jh_ai_wl_ne, jh_fl_wl_ne, jh_cl_wl_ne, jh_ar_wi_ne, jh_ar_uf, jh_ar_wl_ne, jh_1_wi, jh_1_uf, jh_1_wl, e3, a1, a2, jgi_op, jgi_v, Bool.toNat_true, e5, jh_wi_wi]
        exact ih2 _ _
      | false =>
        rw [if_neg (by decide)] at e1
        rw [e1] at e5
        simp (disch := first | assumption | omega) only [s84_38, s84_39, s84_42, s84_45, s84_46, s84_48, s84_49, s84_51, s84_52, s84_54, s84_55, s84_57, s84_58, s84_60, s84_61, s84_62, s84_63, s84_64, s84_65, s84_67, s84_68, s84_69, s84_71, s84_72, s84_73, s84_75, s84_76, s84_78, s84_80, s84_83, s84_85, s84_88, s84_90, s84_91, s84_92, s84_93, s84_96, Option.some.injEq, exists_eq_left', exists_eq_left, List.cons_append, List.nil_append, List.length_nil, List.length_cons, Nat.reduceAdd, Nat.reduceMul, Nat.reduceSub, Nat.reduceLeDiff, true_and, and_true, ↓reduceIte, not_false_eq_true, not_true_eq_false, nI_add, pk_mul, jn_ltT, jn_ltF, jn_leT, jn_leF, jn_eqT, jn_eqF, jn_lt0, jn_ge0, jn_eq0T, jn_eq0F, jn_in, jn_cl, jh_ai_wi, jh_ai_wi_ne, jh_ai_uf, jh_fl_wi_ne, jh_fl_uf_ne, jh_fl_uf_o, jh_cl_wi_ne, jh_cl_uf, jh_al_wi_ne, jh_al_uf, jh_al_wl, jh_al_wl_ne, jh_ai_wl_ne, jh_fl_wl_ne, jh_cl_wl_ne, jh_ar_wi_ne, jh_ar_uf, jh_ar_wl_ne, jh_1_wi, jh_1_uf, jh_1_wl, e3, a1, a2, jgi_op, jI_and, jgi_v, Bool.toNat_false, e5, jh_wi_wi]
        exact ih2 _ _
theorem tk_rank1 {a R C : Nat} {z : Nat → Int} {fr : Bool} (e : jGd h a R C (jgi z)) (ha : 2 ≠ a) (hR : R ≤ 5) (hC : C ≤ 5) (hz : ∀ q, q / 5 < R → q % 5 < C → (z q).natAbs ≤ 1) (k : ∀ f, Q [.int (nI (jrs fr R C z C).1)] (jx_wi h a 25 f)) : ∀ c, c ≤ C → ∀ w5 w6, jx_Go jxP (d + 1) 82 15 [.ref 2, .int (nI fr.toNat), .ref a, .int (nI (jrs fr R C z c).1), .int (nI c), w5, w6] [] (jx_wi h a 25 (jgi (jrs fr R C z c).2)) Q := by
  refine jloop _ C ?_ ?_
  · intro w5 w6
    have g := e.wi (f' := jgi (jrs fr R C z C).2) ha
    rw [s82_15]
    simp (disch := omega) only [s82_17, s82_18, s82_21, s82_104, s82_105, Option.some.injEq, exists_eq_left', exists_eq_left, List.cons_append, List.nil_append, List.length_nil, List.length_cons, Nat.reduceAdd, Nat.reduceMul, Nat.reduceSub, Nat.reduceLeDiff, true_and, and_true, ↓reduceIte, not_false_eq_true, not_true_eq_false, nI_add, pk_mul, jn_ltT, jn_ltF, jn_leT, jn_leF, jn_eqT, jn_eqF, jn_lt0, jn_ge0, jn_eq0T, jn_eq0F, jn_in, jn_cl, g.2.2.1]
    exact k _
  · intro c hc ih w5 w6
    have g := e.wi (f' := jgi (jrs fr R C z c).2) ha
    obtain ⟨b1, b2, b3⟩ := jrs_bd (fr := fr) hR hC hz c (by omega)
    have full := jrs_full (fr := fr) (R := R) (C := C) (z := z) (c := c)
    rw [jrs_s] at ih
    rw [s82_15]
    by_cases w : (jrs fr R C z c).1 < R
    · generalize jrs fr R C z c = x at *
      obtain ⟨s, y⟩ := x
      dsimp only at b1 b2 b3 w ih g ⊢
      obtain ⟨v1, v2, v3⟩ := jpv_lt (z := y) (R := R) (c := c) (s := s)
      have bs := jbn_le s
      simp (disch := omega) only [s82_17, s82_18, s82_21, s82_24, s82_25, s82_26, s82_29, s82_32, s82_33, s82_34, s82_35, s82_37, Option.some.injEq, exists_eq_left', exists_eq_left, List.cons_append, List.nil_append, List.length_nil, List.length_cons, Nat.reduceAdd, Nat.reduceMul, Nat.reduceSub, Nat.reduceLeDiff, true_and, and_true, ↓reduceIte, not_false_eq_true, not_true_eq_false, nI_add, pk_mul, jn_ltT, jn_ltF, jn_leT, jn_leF, jn_eqT, jn_eqF, jn_lt0, jn_ge0, jn_eq0T, jn_eq0F, jn_in, jn_cl, g.1, g.2.1, g.2.2.1]
      refine tk_findPivot g hR (by omega) (by omega) (fun i hi => by have := b3 (5 * i + c) (by omega) (by omega); omega) ?_
      rcases Nat.lt_or_ge (jpv y R c s) R with u | u
      · rw [if_pos ⟨w, u⟩] at ih
        simp (disch := omega) only [s82_40, s82_42, s82_44, s82_45, s82_48, s82_51, s82_52, Option.some.injEq, exists_eq_left', exists_eq_left, List.cons_append, List.nil_append, List.length_nil, List.length_cons, Nat.reduceAdd, Nat.reduceMul, Nat.reduceSub, Nat.reduceLeDiff, true_and, and_true, ↓reduceIte, not_false_eq_true, not_true_eq_false, nI_add, pk_mul, jn_ltT, jn_ltF, jn_leT, jn_leF, jn_eqT, jn_eqF, jn_lt0, jn_ge0, jn_eq0T, jn_eq0F, jn_in, jn_cl, g.2.1]
        have sw0 : jsz y 0 s (jpv y R c s) = y := by
          funext q
          unfold jsz
          rw [if_neg (by omega), if_neg (by omega)]
        refine jloop (fun j => jx_Go jxP (d + 1) 82 54 [.ref 2, .int (nI fr.toNat), .ref a, .int (nI s), .int (nI c), .int (nI (jpv y R c s)), .int (nI j)] [] (jx_wi h a 25 (jgi (jsz y j s (jpv y R c s)))) Q) C ?_ ?_ 0 (Nat.zero_le _) |> fun z => by rw [sw0] at z; exact z
        · have g2 := e.wi (f' := jgi (jsz y C s (jpv y R c s))) ha
          rw [s82_54]
          simp (disch := omega) only [s82_56, s82_57, s82_60, s82_86, s82_87, s82_88, s82_89, s82_91, s82_92, Option.some.injEq, exists_eq_left', exists_eq_left, List.cons_append, List.nil_append, List.length_nil, List.length_cons, Nat.reduceAdd, Nat.reduceMul, Nat.reduceSub, Nat.reduceLeDiff, true_and, and_true, ↓reduceIte, not_false_eq_true, not_true_eq_false, nI_add, pk_mul, jn_ltT, jn_ltF, jn_leT, jn_leF, jn_eqT, jn_eqF, jn_lt0, jn_ge0, jn_eq0T, jn_eq0F, jn_in, jn_cl, g2.1, g2.2.2.1]
          refine tk_clearBelow g2 ha hR hC hc w ?_
          simp (disch := omega) only [s82_95, s82_98, s82_101, Option.some.injEq, exists_eq_left', exists_eq_left, List.cons_append, List.nil_append, List.length_nil, List.length_cons, Nat.reduceAdd, Nat.reduceMul, Nat.reduceSub, Nat.reduceLeDiff, true_and, and_true, ↓reduceIte, not_false_eq_true, not_true_eq_false, nI_add, pk_mul, jn_ltT, jn_ltF, jn_leT, jn_leF, jn_eqT, jn_eqF, jn_lt0, jn_ge0, jn_eq0T, jn_eq0F, jn_in, jn_cl, jh_wi_wi]
          exact ih _ _
        · intro j hj ih2
          have g2 := e.wi (f' := jgi (jsz y j s (jpv y R c s))) ha
          have e1 : jsz y j s (jpv y R c s) (5 * s + j) = y (5 * s + j) := by unfold jsz; rw [if_neg (by omega), if_neg (by omega)]
          have e2 : jsz y j s (jpv y R c s) (5 * jpv y R c s + j) = y (5 * jpv y R c s + j) := by unfold jsz; rw [if_neg (by omega), if_neg (by omega)]
          have e3 : upd (upd (jgi (jsz y j s (jpv y R c s))) (5 * jpv y R c s + j) (jgi (jsz y j s (jpv y R c s)) (5 * s + j))) (5 * s + j) (jgi (jsz y j s (jpv y R c s)) (5 * jpv y R c s + j)) = jgi (jsz y (j + 1) s (jpv y R c s)) := by
            funext q
            unfold upd jgi
            rw [e1, e2]
            generalize jpv y R c s = p at *
            unfold jsz
            by_cases a1 : q = 5 * s + j
            · subst a1
              rw [if_pos rfl, if_pos (by omega), show (5 * s + j) % 5 = j by omega]
            · rw [if_neg a1]
              by_cases a2 : q = 5 * p + j
              · subst a2
                rw [if_pos rfl, if_neg (by omega), if_pos (by omega), show (5 * p + j) % 5 = j by omega]
              · rw [if_neg a2]
                by_cases b1 : q % 5 < j ∧ q / 5 = s
                · rw [if_pos b1, if_pos (by omega)]
                · by_cases b2 : q % 5 < j ∧ q / 5 = p
                  · rw [if_neg b1, if_pos b2, if_neg (by omega), if_pos (by omega)]
                  · rw [if_neg b1, if_neg b2, if_neg (by omega), if_neg (by omega)]
          have sw : ∀ (d : Nat) (Q : List Value → jxH → Prop), jx_Go jxP d 78 0 [.ref a, .int (nI (5 * jpv y R c s + j)), .int (nI (5 * s + j)), jx_u] [] (jx_wi h a 25 (jgi (jsz y j s (jpv y R c s)))) Q ↔ _ := fun d Q => tk_swap g2.2.2.2 (by omega) (by omega) (by omega)
          rw [e3, jh_wi_wi] at sw
          rw [s82_54]
          simp (disch := omega) only [s82_56, s82_57, s82_60, s82_63, s82_64, s82_65, s82_67, s82_68, s82_70, s82_71, s82_72, s82_73, s82_74, s82_76, s82_77, s82_80, s82_83, Option.some.injEq, exists_eq_left', exists_eq_left, List.cons_append, List.nil_append, List.length_nil, List.length_cons, Nat.reduceAdd, Nat.reduceMul, Nat.reduceSub, Nat.reduceLeDiff, true_and, and_true, ↓reduceIte, not_false_eq_true, not_true_eq_false, nI_add, pk_mul, jn_ltT, jn_ltF, jn_leT, jn_leF, jn_eqT, jn_eqF, jn_lt0, jn_ge0, jn_eq0T, jn_eq0F, jn_in, jn_cl, g2.2.2.1, sw]
          exact ih2
      · rw [if_neg (by omega)] at ih
        simp (disch := omega) only [s82_40, s82_42, s82_44, s82_45, s82_48, s82_98, s82_101, Option.some.injEq, exists_eq_left', exists_eq_left, List.cons_append, List.nil_append, List.length_nil, List.length_cons, Nat.reduceAdd, Nat.reduceMul, Nat.reduceSub, Nat.reduceLeDiff, true_and, and_true, ↓reduceIte, not_false_eq_true, not_true_eq_false, nI_add, pk_mul, jn_ltT, jn_ltF, jn_leT, jn_leF, jn_eqT, jn_eqF, jn_lt0, jn_ge0, jn_eq0T, jn_eq0F, jn_in, jn_cl, g.2.1]
        exact ih _ _
    · have kk := k (jgi (jrs fr R C z c).2)
      have fu := full (by omega) (C - c)
      rw [show c + (C - c) = C by omega] at fu
      rw [fu] at kk
      simp (disch := omega) only [s82_17, s82_18, s82_21, s82_24, s82_25, s82_26, s82_29, s82_104, s82_105, Option.some.injEq, exists_eq_left', exists_eq_left, List.cons_append, List.nil_append, List.length_nil, List.length_cons, Nat.reduceAdd, Nat.reduceMul, Nat.reduceSub, Nat.reduceLeDiff, true_and, and_true, ↓reduceIte, not_false_eq_true, not_true_eq_false, nI_add, pk_mul, jn_ltT, jn_ltF, jn_leT, jn_leF, jn_eqT, jn_eqF, jn_lt0, jn_ge0, jn_eq0T, jn_eq0F, jn_in, jn_cl, g.2.1, g.2.2.1]
      exact kk
theorem tk_findRank (hR : jR F A G g h) (h182 : 182 ≤ h.1) (hr : F 2 0 ≤ 5) (hc : F 2 1 ≤ 5) {fr : Bool} (hz : ∀ q, q / 5 < F 2 0 → q % 5 < F 2 1 → (A 3 q).toInt.natAbs ≤ 1) (k : ∀ h', jR F A G g h' → jE h h' → Q [.int (nI (jrs fr (F 2 0) (F 2 1) (fun q => (A 3 q).toInt) (F 2 1)).1)] h') : jx_Go jxP (d + 1) 82 0 [.ref 2, .int (nI fr.toNat), jx_u, jx_u, jx_u, jx_u, jx_u] [] h Q := by
  have ez : A 3 = jgi (fun q => (A 3 q).toInt) := by
    funext q
    unfold jgi
    rw [Int32.ofInt_toInt]
  have hR1 : jR F A G g (jx_mk h 25 (.inl (0, 25, .inl (A 3)))) := hR.eq (fun i hi => by show (if i = h.1 then _ else h.2.2 i) = _; rw [if_neg (by omega)])
  have ai : jx_ai (jx_mk h 25 (.inl (0, 25, .inl (A 3)))) h.1 = some (25, A 3) := by
    unfold jx_ai jx_mk
    simp
  simp (disch := omega) only [s82_0, s82_1, s82_4, s82_6, Option.some.injEq, exists_eq_left', exists_eq_left, List.cons_append, List.nil_append, List.length_nil, List.length_cons, Nat.reduceAdd, Nat.reduceMul, Nat.reduceSub, Nat.reduceLeDiff, true_and, and_true, ↓reduceIte, not_false_eq_true, not_true_eq_false, nI_add, pk_mul, jn_ltT, jn_ltF, jn_leT, jn_leF, jn_eqT, jn_eqF, jn_lt0, jn_ge0, jn_eq0T, jn_eq0F, jn_in, jn_cl, jf_2_2 hR, s199_0, s199_1, s199_2, s199_3, s199_6, s199_7, s199_10, s199_13, ja_3 hR, ai]
  have gd : jGd (jx_mk h 25 (.inl (0, 25, .inl (A 3)))) h.1 (F 2 0) (F 2 1) (jgi (fun q => (A 3 q).toInt)) := ⟨jc_of_2 hR1, jf_2_0 hR1, jf_2_1 hR1, by rw [ai, ← ez]⟩
  have hh : ∀ f, (jx_wi (jx_mk h 25 (.inl (0, 25, .inl (A 3)))) h.1 25 f).1 = h.1 + 1 ∧ (jx_wi (jx_mk h 25 (.inl (0, 25, .inl (A 3)))) h.1 25 f).2.1 = h.2.1 + 25 ∧ ∀ i, i ≠ h.1 → (jx_wi (jx_mk h 25 (.inl (0, 25, .inl (A 3)))) h.1 25 f).2.2 i = h.2.2 i := fun f => ⟨rfl, rfl, fun i hi => by
    unfold jx_wi
    rw [jh_w_ne hi]
    show (if i = h.1 then _ else h.2.2 i) = _
    rw [if_neg hi]⟩
  simp (disch := omega) only [s82_9, s82_10, s82_11, s82_12, s82_13, Option.some.injEq, exists_eq_left', exists_eq_left, List.cons_append, List.nil_append, List.length_nil, List.length_cons, Nat.reduceAdd, Nat.reduceMul, Nat.reduceSub, Nat.reduceLeDiff, true_and, and_true, ↓reduceIte, not_false_eq_true, not_true_eq_false, nI_add, pk_mul, jn_ltT, jn_ltF, jn_leT, jn_leF, jn_eqT, jn_eqF, jn_lt0, jn_ge0, jn_eq0T, jn_eq0F, jn_in, jn_cl]
  have fin := tk_rank1 (d := d) (Q := Q) (fr := fr) gd (by omega) hr hc hz (fun f => by
    obtain ⟨x1, x2, x3⟩ := hh f
    exact k _ (hR.eq (fun i hi => x3 i (by omega))) ⟨by omega, by omega, by omega, fun i hi => x3 i (by omega)⟩) 0 (Nat.zero_le _) jx_u jx_u
  have id : jx_wi (jx_mk h 25 (.inl (0, 25, .inl (A 3)))) h.1 25 (jgi (jrs fr (F 2 0) (F 2 1) (fun q => (A 3 q).toInt) 0).2) = jx_mk h 25 (.inl (0, 25, .inl (A 3))) := by
    apply jh_wi_id
    rw [ai]
    exact congrArg (fun x => some (25, x)) ez
  rw [id] at fin
  exact fin
end CL3
