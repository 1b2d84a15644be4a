/-! ===== the reference: check to its end; rows made clear ===== -/
section MD28
variable {d : Nat} {F : Nat → Nat → Nat} {A : Nat → Nat → Int32} {G : Nat → Option Nat} {g : Nat → Int64} {h : jxH} {Q : List Value → jxH → Prop}
/-- what check() answers -/
def jchk (v : Nat → Int32) (R C : Nat) (wt : Nat → Int32) (n : Nat) : Nat := if (jck v R C wt n 1024 0 (jalB R C) 0 0).1 = true then (if 2 * (jck v R C wt n 1024 0 (jalB R C) 0 0).2.1 < n then 90 else (jck v R C wt n 1024 0 (jalB R C) 0 0).2.2) else 100 + (jck v R C wt n 1024 0 (jalB R C) 0 0).2.1
theorem md_check (hR : jR F A G g h) (hn : F 149 11 ≤ 120) (hr : F 149 0 ≤ 5) (hc : F 149 1 ≤ 5) (hr1 : 1 ≤ F 149 0) (hc1 : 1 ≤ F 149 1) (hv : jV (A 150) (F 149 0) (F 149 1)) (k : ∀ A2 h2, (∀ a, a ≠ 178 → a ≠ 179 → A2 a = A a) → jR (jup F 149 11 0) A2 G g h2 → jD h h2 → Q [.int (nI (jchk (A 150) (F 149 0) (F 149 1) (A 158) (F 149 11)))] h2) : jx_Go jxP (d + 2) 186 0 [.ref 149, jx_u, jx_u, jx_u, jx_u, jx_u, jx_u, jx_u, jx_u, jx_u, jx_u] [] h Q := by
  obtain ⟨hb, hB⟩ := jalB_blk hr hc hr1 hc1
  have h25 := jar_25 hB
  have hR1 : jR (jup F 149 11 0) A G g (jx_uf h 149 11 (.int (nI 0))) := hR.uf (o := 149) (k := 11) (v := 0) rfl rfl
  have hD1 : jD h (jx_uf h 149 11 (.int (nI 0))) := jD.rf.uf (by decide)
  simp (disch := omega) only [s186_0, s186_1, s186_4, s186_5, s186_6, s186_7, s186_10, s186_11, s186_12, Option.some.injEq, exists_eq_left', exists_eq_left, List.cons_append, List.nil_append, List.length_nil, List.length_cons, Nat.reduceAdd, Nat.reduceMul, Nat.reduceSub, Nat.reduceLeDiff, true_and, and_true, ↓reduceIte, not_false_eq_true, not_true_eq_false, nI_add, pk_mul, jn_ltT, jn_ltF, jn_leT, jn_leF, jn_eqT, jn_eqF, jn_lt0, jn_ge0, jn_eq0T, jn_eq0F, jn_in, jn_cl, jh_ai_wi, jh_ai_wi_ne, jh_ai_uf, jh_fl_wi_ne, jh_fl_uf_ne, jh_fl_uf_o, jh_cl_wi_ne, jh_cl_uf, jh_al_wi_ne, jh_al_uf, jh_al_wl, jh_al_wl_ne, jh_ai_wl_ne, jh_fl_wl_ne, jh_cl_wl_ne, jh_ar_wi_ne, jh_ar_uf, jh_ar_wl_ne, jh_1_wi, jh_1_uf, jh_1_wl, jf_149_11 hR]
  generalize jx_uf h 149 11 (.int (nI 0)) = h1 at hR1 hD1 ⊢
  have al : ∀ (d : Nat) (Q : List Value → jxH → Prop), jx_Go jxP d 154 0 [.ref 149] [] h1 Q ↔ Q [.int (nI (jalB (F 149 0) (F 149 1)))] h1 := fun d Q => md_all (F := jup F 149 11 0) hR1 hr hc
  simp (disch := omega) only [s186_13, s186_16, s186_17, s186_18, s186_21, s186_22, s186_23, s186_26, s186_27, s186_28, s186_29, s186_30, s186_31, s186_32, Option.some.injEq, exists_eq_left', exists_eq_left, List.cons_append, List.nil_append, List.length_nil, List.length_cons, Nat.reduceAdd, Nat.reduceMul, Nat.reduceSub, Nat.reduceLeDiff, true_and, and_true, ↓reduceIte, not_false_eq_true, not_true_eq_false, nI_add, pk_mul, jn_ltT, jn_ltF, jn_leT, jn_leF, jn_eqT, jn_eqF, jn_lt0, jn_ge0, jn_eq0T, jn_eq0F, jn_in, jn_cl, jh_ai_wi, jh_ai_wi_ne, jh_ai_uf, jh_fl_wi_ne, jh_fl_uf_ne, jh_fl_uf_o, jh_cl_wi_ne, jh_cl_uf, jh_al_wi_ne, jh_al_uf, jh_al_wl, jh_al_wl_ne, jh_ai_wl_ne, jh_fl_wl_ne, jh_cl_wl_ne, jh_ar_wi_ne, jh_ar_uf, jh_ar_wl_ne, jh_1_wi, jh_1_uf, jh_1_wl, jf_149_34 hR1, jf_149_35 hR1, ja_178 hR1, ja_179 hR1, jc_of_149 hR1, al]
  have hR2 := (hR1.wi (a := 178) (f := upd (A 178) 0 (nI (jalB (F 149 0) (F 149 1)))) rfl).wi (a := 179) (f := upd (A 179) 0 (nI 0)) rfl
  have hD2 := (hD1.wi (a := 178) (n := 64) (f := upd (A 178) 0 (nI (jalB (F 149 0) (F 149 1)))) (by decide)).wi (a := 179) (n := 64) (f := upd (A 179) 0 (nI 0)) (by decide)
  have le := jck_le (v := A 150) (wt := A 158) (n := F 149 11) hr hc 1024 0 _ 0 0 hb
  refine md_check1 (A := A) (F := jup F 149 11 0) (n := F 149 11) hn hr hc hv 1024 (jalB (F 149 0) (F 149 1)) hB hb _ _ 0 0 0 0 _ _ _ _ _ _ (fun a n1 n2 => by rw [jua_ne n2, jua_ne n1]) hR2 hD2 (by omega) (by omega) (by omega) (by omega) (by rw [jua_ne (by decide), jua_same, jupd_same]) (by rw [jua_same, jupd_same]) ?_ ?_
  · intro c A3 h3 w5 w6 w7 w8 w9 w10 fr3 hR3 hD3 _
    have kk := k A3 h3 fr3 hR3 hD3
    have c' : (jck (A 150) (F 149 0) (F 149 1) (A 158) (F 149 11) 1024 0 (jalB (F 149 0) (F 149 1)) 0 0).1 = true := c
    unfold jchk at kk
    rw [if_pos c'] at kk
    have e0 : jup F 149 11 0 149 0 = F 149 0 := rfl
    have e1 : jup F 149 11 0 149 1 = F 149 1 := rfl
    rw [e0, e1]
    generalize (jck (A 150) (F 149 0) (F 149 1) (A 158) (F 149 11) 1024 0 (jalB (F 149 0) (F 149 1)) 0 0).2.1 = k' at *
    generalize (jck (A 150) (F 149 0) (F 149 1) (A 158) (F 149 11) 1024 0 (jalB (F 149 0) (F 149 1)) 0 0).2.2 = b' at *
    rw [s186_34]
    by_cases z : 2 * k' < F 149 11
    · rw [if_pos z] at kk
      simp (disch := omega) only [s186_35, s186_304, s186_305, s186_306, s186_307, s186_308, s186_311, s186_313, s186_316, s186_318, Option.some.injEq, exists_eq_left', exists_eq_left, List.cons_append, List.nil_append, List.length_nil, List.length_cons, Nat.reduceAdd, Nat.reduceMul, Nat.reduceSub, Nat.reduceLeDiff, true_and, and_true, ↓reduceIte, not_false_eq_true, not_true_eq_false, nI_add, pk_mul, jn_ltT, jn_ltF, jn_leT, jn_leF, jn_eqT, jn_eqF, jn_lt0, jn_ge0, jn_eq0T, jn_eq0F, jn_in, jn_cl, jn_le0T]
      exact kk
    · rw [if_neg z] at kk
      simp (disch := omega) only [s186_35, s186_304, s186_305, s186_306, s186_307, s186_308, s186_311, s186_313, s186_316, s186_318, Option.some.injEq, exists_eq_left', exists_eq_left, List.cons_append, List.nil_append, List.length_nil, List.length_cons, Nat.reduceAdd, Nat.reduceMul, Nat.reduceSub, Nat.reduceLeDiff, true_and, and_true, ↓reduceIte, not_false_eq_true, not_true_eq_false, nI_add, pk_mul, jn_ltT, jn_ltF, jn_leT, jn_leF, jn_eqT, jn_eqF, jn_lt0, jn_ge0, jn_eq0T, jn_eq0F, jn_in, jn_cl, jn_le0T]
      exact kk
  · intro c A3 h3 fr3 hR3 hD3
    have kk := k A3 h3 fr3 hR3 hD3
    have c' : (jck (A 150) (F 149 0) (F 149 1) (A 158) (F 149 11) 1024 0 (jalB (F 149 0) (F 149 1)) 0 0).1 = false := c
    unfold jchk at kk
    rw [if_neg (by rw [c']; decide)] at kk
    exact kk
/-- the row with the next number that is not 0 -/
def jpv (z : Nat → Int) (R c s : Nat) : Nat := jlst (fun i => decide (s ≤ i) && decide (z (5 * i + c) ≠ 0)) R
/-- two rows change places -/
def jsz (z : Nat → Int) (C s p : Nat) : Nat → Int := fun k => if k % 5 < C ∧ k / 5 = s then z (5 * p + k % 5) else if k % 5 < C ∧ k / 5 = p then z (5 * s + k % 5) else z k
/-- a number below the row s after the column c is made clear -/
def jnw (fr : Bool) (z : Nat → Int) (c s q : Nat) : Int := if fr = true then z q * z (5 * s + c) - z (5 * s + q % 5) * z (5 * (q / 5) + c) else (z q * z (5 * s + c) - z (5 * s + q % 5) * z (5 * (q / 5) + c)) % 2
/-- the rows below s as far as the row r, and of r as far as the column k -/
def jel (fr : Bool) (z : Nat → Int) (C c s r k : Nat) : Nat → Int := fun q => if (q % 5 < C ∧ s < q / 5 ∧ q / 5 < r) ∨ (q / 5 = r ∧ q % 5 < k) then jnw fr z c s q else z q
/-- the columns before c are done: the rank so far, the numbers -/
def jrs (fr : Bool) (R C : Nat) (z : Nat → Int) (c : Nat) : Nat × (Nat → Int) := match c with
  | 0 => (0, z)
  | c + 1 => if (jrs fr R C z c).1 < R ∧ jpv (jrs fr R C z c).2 R c (jrs fr R C z c).1 < R then ((jrs fr R C z c).1 + 1, jel fr (jsz (jrs fr R C z c).2 C (jrs fr R C z c).1 (jpv (jrs fr R C z c).2 R c (jrs fr R C z c).1)) C c (jrs fr R C z c).1 R 0) else jrs fr R C z c
theorem jrs_s {fr : Bool} {R C : Nat} {z : Nat → Int} {c : Nat} : jrs fr R C z (c + 1) = if (jrs fr R C z c).1 < R ∧ jpv (jrs fr R C z c).2 R c (jrs fr R C z c).1 < R then ((jrs fr R C z c).1 + 1, jel fr (jsz (jrs fr R C z c).2 C (jrs fr R C z c).1 (jpv (jrs fr R C z c).2 R c (jrs fr R C z c).1)) C c (jrs fr R C z c).1 R 0) else jrs fr R C z c := rfl
/-- how large the numbers come -/
def jbn (s : Nat) : Nat := match s with
  | 0 => 1
  | 1 => 2
  | 2 => 8
  | 3 => 128
  | _ => 32768
theorem jbn_le (s : Nat) : jbn s ≤ 32768 := by
  unfold jbn
  split <;> omega
theorem jabs {a b c d : Int} {M : Nat} (ha : a.natAbs ≤ M) (hb : b.natAbs ≤ M) (hc : c.natAbs ≤ M) (hd : d.natAbs ≤ M) : (a * b - c * d).natAbs ≤ 2 * (M * M) := by
  have h1 : (a * b).natAbs ≤ M * M := by rw [Int.natAbs_mul]; exact Nat.mul_le_mul ha hb
  have h2 : (c * d).natAbs ≤ M * M := by rw [Int.natAbs_mul]; exact Nat.mul_le_mul hc hd
  omega
theorem jsz_bd {z : Nat → Int} {R C s p M : Nat} (hs : s < R) (hp : p < R) (h1 : ∀ q, q / 5 < R → q % 5 < C → (z q).natAbs ≤ M) : ∀ q, q / 5 < R → q % 5 < C → (jsz z C s p q).natAbs ≤ M := by
  intro q q1 q2
  unfold jsz
  split
  · exact h1 _ (by omega) (by omega)
  · split
    · exact h1 _ (by omega) (by omega)
    · exact h1 _ q1 q2
theorem jnw_bd {fr : Bool} {z : Nat → Int} {R C c s q M : Nat} (hC : C ≤ 5) (hM : 1 ≤ M) (h1 : ∀ q, q / 5 < R → q % 5 < C → (z q).natAbs ≤ M) (hs : s < R) (hc : c < C) (q1 : q / 5 < R) (q2 : q % 5 < C) : (jnw fr z c s q).natAbs ≤ 2 * (M * M) := by
  have b := jabs (h1 q q1 q2) (h1 (5 * s + c) (by omega) (by omega)) (h1 (5 * s + q % 5) (by omega) (by omega)) (h1 (5 * (q / 5) + c) (by omega) (by omega))
  have : 1 ≤ M * M := Nat.mul_le_mul hM hM
  unfold jnw
  generalize z q * z (5 * s + c) - z (5 * s + q % 5) * z (5 * (q / 5) + c) = x at b ⊢
  split <;> omega
theorem jbn_s : ∀ s, s < 4 → 1 ≤ jbn s ∧ jbn (s + 1) = 2 * (jbn s * jbn s) := by decide +kernel
theorem jel_bd {fr : Bool} {z : Nat → Int} {R C c s : Nat} (hr : R ≤ 5) (hC : C ≤ 5) (hs : s < R) (hc : c < C) (h1 : ∀ q, q / 5 < R → q % 5 < C → (z q).natAbs ≤ jbn s) : ∀ q, q / 5 < R → q % 5 < C → (jel fr z C c s R 0 q).natAbs ≤ jbn (s + 1) := by
  intro q q1 q2
  unfold jel
  rcases Nat.lt_or_ge s 4 with w | w
  · obtain ⟨b1, b2⟩ := jbn_s s w
    have := jnw_bd (fr := fr) hC b1 h1 hs hc q1 q2
    have := h1 q q1 q2
    have : 1 * jbn s ≤ jbn s * jbn s := Nat.mul_le_mul_right _ b1
    split <;> omega
  · have e : s = 4 := by omega
    subst e
    rw [if_neg (by omega)]
    exact h1 q q1 q2
theorem jpv_lt {z : Nat → Int} {R c s : Nat} : jpv z R c s ≤ R ∧ (jpv z R c s < R → s ≤ jpv z R c s ∧ z (5 * jpv z R c s + c) ≠ 0) ∧ ∀ i, s ≤ i → i < jpv z R c s → z (5 * i + c) = 0 := by
  obtain ⟨a, b, e⟩ := jlst_le (p := fun i => decide (s ≤ i) && decide (z (5 * i + c) ≠ 0)) R
  refine ⟨a, fun w => ?_, fun i h1 h2 => ?_⟩
  · have := b w
    rw [Bool.and_eq_true, decide_eq_true_iff, decide_eq_true_iff] at this
    exact this
  · have := e i h2
    rw [decide_eq_true h1, Bool.true_and, decide_eq_false_iff_not] at this
    exact Classical.not_not.mp this
theorem jrs_bd {fr : Bool} {R C : Nat} {z : Nat → Int} (hr : R ≤ 5) (hC : C ≤ 5) (hz : ∀ q, q / 5 < R → q % 5 < C → (z q).natAbs ≤ 1) : ∀ c, c ≤ C → (jrs fr R C z c).1 ≤ R ∧ (jrs fr R C z c).1 ≤ c ∧ ∀ q, q / 5 < R → q % 5 < C → ((jrs fr R C z c).2 q).natAbs ≤ jbn (jrs fr R C z c).1 := by
  intro c
  induction c with
  | zero => intro _; exact ⟨Nat.zero_le _, Nat.zero_le _, hz⟩
  | succ c ih =>
    intro hc
    have ih := ih (by omega)
    rw [jrs_s]
    split
    case isTrue w => exact ⟨by dsimp only; omega, by dsimp only; omega, jel_bd hr hC w.1 (by omega) (jsz_bd w.1 w.2 ih.2.2)⟩
    case isFalse w => exact ⟨ih.1, by omega, ih.2.2⟩
/-- the numbers as longs -/
def jgl (z : Nat → Int) : Nat → Int64 := fun k => Int64.ofInt (z k)
theorem jgl_u {z z' : Nat → Int} {i j : Nat} : vp_updL (jgl z) i (jgl z' j) = jgl (fun k => if k = i then z' j else z k) := by
  funext k
  simp only [vp_updL, jgl]
  split <;> rfl
theorem jgl_v {z : Nat → Int} {i : Nat} {x : Int} : vp_updL (jgl z) i (Int64.ofInt x) = jgl (fun k => if k = i then x else z k) := by
  funext k
  simp only [vp_updL, jgl]
  split <;> rfl
theorem jgl_op {z : Nat → Int} {i j k l : Nat} : jgl z i * jgl z j - jgl z k * jgl z l = Int64.ofInt (z i * z j - z k * z l) := by
  unfold jgl
  rw [Int64.ofInt_sub, Int64.ofInt_mul, Int64.ofInt_mul]
theorem jL_and (v : Int) : Int64.ofInt v &&& 1 = Int64.ofInt (v % 2) := by
  apply Int64.toBitVec_inj.mp
  show BitVec.ofInt 64 v &&& 1#64 = BitVec.ofInt 64 (v % 2)
  apply BitVec.eq_of_toNat_eq
  rw [BitVec.toNat_and, BitVec.toNat_ofInt, BitVec.toNat_ofInt, show (1#64).toNat = 1 from rfl, Nat.and_one_is_mod]
  omega
theorem jL_z {z : Nat → Int} {i : Nat} (hz : (z i).natAbs ≤ 32768) : (lg_cmp (jgl z i) 0 = 0) = (z i = 0) := by
  have e0 : (0 : Int64) = Int64.ofInt 0 := rfl
  have key : jgl z i = 0 ↔ z i = 0 := by
    unfold jgl
    constructor
    · intro w
      have := congrArg Int64.toInt w
      rw [Int64.toInt_ofInt, e0, Int64.toInt_ofInt, Int.bmod_def, Int.bmod_def] at this
      simp only [Int64.size] at this
      omega
    · intro w; rw [w]; rfl
  apply propext
  rw [← key]
  unfold lg_cmp
  generalize jgl z i = x
  constructor
  · intro w
    by_cases a : x > 0
    · rw [if_pos a] at w; exact absurd w (by decide)
    · rw [if_neg a] at w
      by_cases b : x = 0
      · exact b
      · rw [if_neg b] at w; exact absurd w (by decide)
  · intro w; subst w; decide
theorem md_swapLines {z : Nat → Int} (hR : jR F A G (jgl z) h) (hc : F 149 1 ≤ 5) {s p : Nat} (hs : s < 5) (hp : p < 5) (k : ∀ h', jR F A G (jgl (jsz z (F 149 1) s p)) h' → jD h h' → Q [] h') : jx_Go jxP d 172 0 [.ref 149, .int (nI s), .int (nI p), jx_u, jx_u, jx_u, jx_u, jx_u, jx_u, jx_u, jx_u, jx_u, jx_u] [] h Q := by
  simp (disch := omega) only [s172_0, s172_1, Option.some.injEq, exists_eq_left', exists_eq_left, List.cons_append, List.nil_append, List.length_nil, List.length_cons, Nat.reduceAdd, Nat.reduceMul, Nat.reduceSub, Nat.reduceLeDiff, true_and, and_true, ↓reduceIte, not_false_eq_true, not_true_eq_false, nI_add, pk_mul, jn_ltT, jn_ltF, jn_leT, jn_leF, jn_eqT, jn_eqF, jn_lt0, jn_ge0, jn_eq0T, jn_eq0F, jn_in, jn_cl]
  have e0 : jsz z 0 s p = z := by
    funext q
    unfold jsz
    rw [if_neg (by omega), if_neg (by omega)]
  refine jloop (fun c => ∀ h1 w4 w5 w6 w7 w8 w9 w10 w11 w12, jR F A G (jgl (jsz z c s p)) h1 → jD h h1 → jx_Go jxP d 172 2 [.ref 149, .int (nI s), .int (nI p), .int (nI c), w4, w5, w6, w7, w8, w9, w10, w11, w12] [] h1 Q) (F 149 1) ?_ ?_ 0 (Nat.zero_le _) _ _ _ _ _ _ _ _ _ _ (by rw [e0]; exact hR) jD.rf
  · intro h1 w4 w5 w6 w7 w8 w9 w10 w11 w12 hR1 hD1
    rw [s172_2]
    simp (disch := omega) only [s172_3, s172_4, s172_7, s172_60, Option.some.injEq, exists_eq_left', exists_eq_left, List.cons_append, List.nil_append, List.length_nil, List.length_cons, Nat.reduceAdd, Nat.reduceMul, Nat.reduceSub, Nat.reduceLeDiff, true_and, and_true, ↓reduceIte, not_false_eq_true, not_true_eq_false, nI_add, pk_mul, jn_ltT, jn_ltF, jn_leT, jn_leF, jn_eqT, jn_eqF, jn_lt0, jn_ge0, jn_eq0T, jn_eq0F, jn_in, jn_cl, jf_149_1 hR1]
    exact k h1 hR1 hD1
  · intro c hc' ih h1 w4 w5 w6 w7 w8 w9 w10 w11 w12 hR1 hD1
    rw [s172_2]
    simp (disch := omega) only [s172_3, s172_4, s172_7, s172_10, s172_11, s172_14, s172_15, s172_16, s172_17, s172_18, s172_19, s172_20, s172_22, s172_23, s172_26, s172_27, s172_28, s172_29, s172_30, s172_31, s172_32, s172_35, s172_36, s172_37, s172_38, s172_39, s172_40, s172_41, s172_42, s172_43, s172_46, s172_47, s172_48, s172_49, s172_50, s172_51, s172_53, s172_54, s172_57, Option.some.injEq, exists_eq_left', exists_eq_left, List.cons_append, List.nil_append, List.length_nil, List.length_cons, Nat.reduceAdd, Nat.reduceMul, Nat.reduceSub, Nat.reduceLeDiff, true_and, and_true, ↓reduceIte, not_false_eq_true, not_true_eq_false, nI_add, pk_mul, jn_ltT, jn_ltF, jn_leT, jn_leF, jn_eqT, jn_eqF, jn_lt0, jn_ge0, jn_eq0T, jn_eq0F, jn_in, jn_cl, jh_ai_wi, jh_ai_wi_ne, jh_ai_uf, jh_fl_wi_ne, jh_fl_uf_ne, jh_fl_uf_o, jh_cl_wi_ne, jh_cl_uf, jh_al_wi_ne, jh_al_uf, jh_al_wl, jh_al_wl_ne, jh_ai_wl_ne, jh_fl_wl_ne, jh_cl_wl_ne, jh_ar_wi_ne, jh_ar_uf, jh_ar_wl_ne, jh_1_wi, jh_1_uf, jh_1_wl, jf_149_1 hR1, jf_149_27 hR1, ja_171 hR1, jgl_u, jh_wl_wl]
    have e1 : jsz z c s p (5 * s + c) = z (5 * s + c) := by unfold jsz; rw [if_neg (by omega), if_neg (by omega)]
    have e2 : jsz z c s p (5 * p + c) = z (5 * p + c) := by unfold jsz; rw [if_neg (by omega), if_neg (by omega)]
    have e3 : (fun k => if k = 5 * p + c then jsz z c s p (5 * s + c) else if k = 5 * s + c then jsz z c s p (5 * p + c) else jsz z c s p k) = jsz z (c + 1) s p := by
      funext q
      rw [e1, e2]
      unfold jsz
      by_cases a1 : q = 5 * p + c
      · subst a1
        rw [if_pos rfl]
        by_cases a2 : p = s
        · subst a2; rw [if_pos (by omega), show 5 * p + (5 * p + c) % 5 = 5 * p + c by omega]
        · rw [if_neg (by omega), if_pos (by omega), show 5 * s + (5 * p + c) % 5 = 5 * s + c by omega]
      · rw [if_neg a1]
        by_cases a2 : q = 5 * s + c
        · subst a2
          rw [if_pos rfl, if_pos (by omega), show 5 * p + (5 * s + c) % 5 = 5 * p + c by omega]
        · rw [if_neg a2]
          by_cases b1 : q % 5 < c ∧ q / 5 = s
          · rw [if_pos b1, if_pos (by omega)]
          · by_cases b2 : q % 5 < c ∧ q / 5 = p
            · rw [if_neg b1, if_pos b2, if_neg (by omega), if_pos (by omega)]
            · rw [if_neg b1, if_neg b2, if_neg (by omega), if_neg (by omega)]
    rw [e3]
    exact ih _ _ _ _ _ _ _ _ _ _ hR1.wl (hD1.wl (by decide))
end MD28
