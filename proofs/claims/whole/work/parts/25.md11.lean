/-! ===== the reference: the tables of blocks ===== -/
section MD11
variable {d : Nat} {F : Nat → Nat → Nat} {A : Nat → Nat → Int32} {G : Nat → Option Nat} {g : Nat → Int64} {h : jxH} {Q : List Value → jxH → Prop}
theorem jupd_ne {f : Nat → Int32} {i j : Nat} {x : Int32} (e : j ≠ i) : upd f i x j = f j := by simp [upd, e]
theorem jupd_same {f : Nat → Int32} {i : Nat} {x : Int32} : upd f i x i = x := by simp [upd]
theorem jua2 {x y x' y' : Nat → Int32} : jua (jua (jua (jua A 160 x) 161 y) 160 x') 161 y' = jua (jua A 160 x') 161 y' := by
  funext a j
  unfold jua
  by_cases h1 : a = 161
  · simp [h1]
  · by_cases h2 : a = 160
    · simp [h2]
    · simp [h1, h2]
theorem jua_i {A : Nat → Nat → Int32} {a : Nat} : jua A a (A a) = A := by
  funext b j
  unfold jua
  by_cases h1 : b = a
  · simp [h1]
  · simp [h1]
theorem jua_160 {x y : Nat → Int32} : jua (jua A 160 x) 161 y 160 = x := by simp [jua]
theorem jua_161 {x y : Nat → Int32} : jua (jua A 160 x) 161 y 161 = y := by simp [jua]
theorem jua_150 {x y : Nat → Int32} : jua (jua A 160 x) 161 y 150 = A 150 := by simp [jua]
theorem md_take {tb te : Nat → Int32} (hR : jR F (jua (jua A 160 tb) 161 te) G g h) {c : Bool} {B S B1 B2 b1 b2 b e1 e2 e : Nat} (hB : B < 1024) (hc : c = true → B1 < B ∧ B2 < B ∧ ((S < 32 ∧ 32 * (B / 32) ||| S = B2) ∨ (32 ≤ S ∧ S < 1024 ∧ S ||| B % 32 = B2)) ∧ B ^^^ S = B1 ∧ tb B1 = nI b1 ∧ tb B2 = nI b2 ∧ te B1 = nI e1 ∧ te B2 = nI e2 ∧ b1 ≤ 100 ∧ b2 ≤ 100 ∧ e1 ≤ 1000 ∧ e2 ≤ 1000) (k3 : tb B = nI b) (l3 : te B = nI e) (q3 : b ≤ 100) (r3 : e ≤ 1000) (k : ∀ h' tb' te', jR F (jua (jua A 160 tb') 161 te') G g h' → jD h h' → (∀ j, j ≠ B → tb' j = tb j ∧ te' j = te j) → tb' B = nI (if c = true then min (max b1 b2 + 1) b else b) → te' B = nI (if c = true then min (e1 + e2) e else e) → Q [] h') : jx_Go jxP d 160 0 [.ref 149, .int (nI B), .int (nI c.toNat), .int (nI S), jx_u, jx_u, jx_u, jx_u] [] h Q := by
  cases c with
  | false =>
    rw [show (false : Bool).toNat = 0 from rfl, md_takeBest_f]
    exact k h tb te hR jD.rf (fun _ _ => ⟨rfl, rfl⟩) (by rw [k3]; rfl) (by rw [l3]; rfl)
  | true =>
    obtain ⟨a1, a2, a3, a4, a5, a6, a7, a8, a9, a10, a11, a12⟩ := hc rfl
    rw [show (true : Bool).toNat = 1 from rfl]
    refine md_takeBest_t hR hB a1 a2 a3 a4 (by rw [jua_160]; exact a5) (by rw [jua_160]; exact a6) (by rw [jua_160]; exact k3) (by rw [jua_161]; exact a7) (by rw [jua_161]; exact a8) (by rw [jua_161]; exact l3) a9 a10 q3 a11 a12 r3 (fun h' hR' hD' => ?_)
    rw [jua2, jua_160, jua_161] at hR'
    exact k h' _ _ hR' hD' (fun j hj => ⟨jupd_ne hj, jupd_ne hj⟩) (by rw [if_pos rfl]; exact jupd_same) (by rw [if_pos rfl]; exact jupd_same)
theorem md_tellBlocks (hR : jR F A G g h) (hr : F 149 0 ≤ 5) (hc : F 149 1 ≤ 5) (hv : jV (A 150) (F 149 0) (F 149 1)) (k : ∀ h' tb te, (∀ B, jblk (F 149 0) (F 149 1) B = true → tb B = nI (jlb (A 150) (F 149 0) (F 149 1) B) ∧ te B = nI (jfe (A 150) (F 149 0) (F 149 1) B)) → jR F (jua (jua A 160 tb) 161 te) G g h' → jD h h' → Q [] h') : jx_Go jxP (d + 3) 158 0 [.ref 149, jx_u, jx_u, jx_u] [] h Q := by
  have p1 := jp2 _ hr
  have p2 := jp2 _ hc
  simp (disch := omega) only [s158_0, s158_1, Option.some.injEq, exists_eq_left', exists_eq_left, List.cons_append, List.nil_append, List.length_nil, List.length_cons, Nat.reduceAdd, Nat.reduceMul, Nat.reduceSub, Nat.reduceLeDiff, true_and, and_true, ↓reduceIte, not_false_eq_true, not_true_eq_false, nI_add, pk_mul, jn_ltT, jn_ltF, jn_leT, jn_leF, jn_eqT, jn_eqF, jn_lt0, jn_ge0, jn_eq0T, jn_eq0F, jn_in, jn_cl]
  refine jloop (fun B => ∀ w2 w3 h1 tb te, jR F (jua (jua A 160 tb) 161 te) G g h1 → jD h h1 → (∀ B', B' < B → jblk (F 149 0) (F 149 1) B' = true → tb B' = nI (jlb (A 150) (F 149 0) (F 149 1) B') ∧ te B' = nI (jfe (A 150) (F 149 0) (F 149 1) B')) → jx_Go jxP (d + 3) 158 2 [.ref 149, .int (nI B), w2, w3] [] h1 Q) (32 * (2 ^ F 149 0 - 1) + 2 ^ F 149 1 - 1 + 1) ?_ ?_ 0 (Nat.zero_le _) _ _ h (A 160) (A 161) (by rw [jua_i, jua_i]; exact hR) jD.rf (fun B' hB' => by omega)
  · intro w2 w3 h1 tb te hR1 hD1 hI
    rw [s158_2]
    simp (disch := omega) only [s158_3, s158_4, s158_7, s158_112, Option.some.injEq, exists_eq_left', exists_eq_left, List.cons_append, List.nil_append, List.length_nil, List.length_cons, Nat.reduceAdd, Nat.reduceMul, Nat.reduceSub, Nat.reduceLeDiff, true_and, and_true, ↓reduceIte, not_false_eq_true, not_true_eq_false, nI_add, pk_mul, jn_ltT, jn_ltF, jn_leT, jn_leF, jn_eqT, jn_eqF, jn_lt0, jn_ge0, jn_eq0T, jn_eq0F, jn_in, jn_cl, jc_of_149 hR1, md_all hR1 hr hc]
    refine k h1 tb te (fun B hB => hI B ?_ hB) hR1 hD1
    have := jblk_iff.mp hB
    omega
  · intro B hB ih w2 w3 h1 tb te hR1 hD1 hI
    rw [s158_2]
    simp (disch := omega) only [s158_3, s158_4, s158_7, s158_10, s158_11, s158_12, Option.some.injEq, exists_eq_left', exists_eq_left, List.cons_append, List.nil_append, List.length_nil, List.length_cons, Nat.reduceAdd, Nat.reduceMul, Nat.reduceSub, Nat.reduceLeDiff, true_and, and_true, ↓reduceIte, not_false_eq_true, not_true_eq_false, nI_add, pk_mul, jn_ltT, jn_ltF, jn_leT, jn_leF, jn_eqT, jn_eqF, jn_lt0, jn_ge0, jn_eq0T, jn_eq0F, jn_in, jn_cl, jc_of_149 hR1, md_all hR1 hr hc, md_isBlock hR1 hr hc]
    by_cases hb : jblk (F 149 0) (F 149 1) B = true
    · rw [if_pos hb]
      have hb' := jblk_iff.mp hb
      have hB1 : B < 1024 := by omega
      simp (disch := omega) only [s158_15, s158_18, s158_21, s158_22, s158_23, Option.some.injEq, exists_eq_left', exists_eq_left, List.cons_append, List.nil_append, List.length_nil, List.length_cons, Nat.reduceAdd, Nat.reduceMul, Nat.reduceSub, Nat.reduceLeDiff, true_and, and_true, ↓reduceIte, not_false_eq_true, not_true_eq_false, nI_add, pk_mul, jn_ltT, jn_ltF, jn_leT, jn_leF, jn_eqT, jn_eqF, jn_lt0, jn_ge0, jn_eq0T, jn_eq0F, jn_in, jn_cl, jc_of_149 hR1]
      refine md_isEven hR1 hr hc (by rw [jua_150]; exact hv) hB1 ?_
      rw [jua_150]
      -- the end of a block
      have fin : ∀ h2 tb2 te2 w2 w3, jR F (jua (jua A 160 tb2) 161 te2) G g h2 → jD h h2 → (∀ B', B' ≠ B → tb2 B' = tb B' ∧ te2 B' = te B') → tb2 B = nI (jlb (A 150) (F 149 0) (F 149 1) B) → te2 B = nI (jfe (A 150) (F 149 0) (F 149 1) B) → jx_Go jxP (d + 3) 158 106 [.ref 149, .int (nI B), w2, w3] [] h2 Q := by
        intro h2 tb2 te2 w2 w3 hR2 hD2 hne e1 e2
        simp (disch := omega) only [s158_106, s158_109, Option.some.injEq, exists_eq_left', exists_eq_left, List.cons_append, List.nil_append, List.length_nil, List.length_cons, Nat.reduceAdd, Nat.reduceMul, Nat.reduceSub, Nat.reduceLeDiff, true_and, and_true, ↓reduceIte, not_false_eq_true, not_true_eq_false, nI_add, pk_mul, jn_ltT, jn_ltF, jn_leT, jn_leF, jn_eqT, jn_eqF, jn_lt0, jn_ge0, jn_eq0T, jn_eq0F, jn_in, jn_cl]
        refine ih _ _ h2 tb2 te2 hR2 hD2 (fun B' hB' hb2 => ?_)
        by_cases w : B' = B
        · rw [w]; exact ⟨e1, e2⟩
        · rw [(hne B' w).1, (hne B' w).2]; exact hI B' (by omega) hb2
      have hm : ∀ x y : Int32, jR F (jua (jua A 160 (upd tb B x)) 161 (upd te B y)) G g (jx_wi (jx_wi h1 160 1024 (upd tb B x)) 161 1024 (upd te B y)) ∧ jD h (jx_wi (jx_wi h1 160 1024 (upd tb B x)) 161 1024 (upd te B y)) := by
        intro x y
        have := (hR1.wi (a := 160) (f := upd tb B x) rfl).wi (a := 161) (f := upd te B y) rfl
        rw [jua2] at this
        exact ⟨this, (hD1.wi (by decide)).wi (by decide)⟩
      cases he : jev (A 150) (F 149 0) (F 149 1) B with
      | true =>
        simp (disch := omega) only [s158_26, s158_27, s158_28, s158_31, s158_32, s158_33, s158_36, s158_37, s158_40, s158_42, s158_43, s158_44, s158_47, s158_48, s158_49, s158_52, s158_53, s158_56, s158_59, s158_60, s158_61, Option.some.injEq, exists_eq_left', exists_eq_left, List.cons_append, List.nil_append, List.length_nil, List.length_cons, Nat.reduceAdd, Nat.reduceMul, Nat.reduceSub, Nat.reduceLeDiff, true_and, and_true, ↓reduceIte, not_false_eq_true, not_true_eq_false, nI_add, pk_mul, jn_ltT, jn_ltF, jn_leT, jn_leF, jn_eqT, jn_eqF, jn_lt0, jn_ge0, jn_eq0T, jn_eq0F, jn_in, jn_cl, jh_ai_wi, jh_ai_wi_ne, jh_ai_uf, jh_fl_wi_ne, jh_fl_uf_ne, jh_fl_uf_o, jh_cl_wi_ne, jh_cl_uf, jh_al_wi_ne, jh_al_uf, jh_al_wl, jh_al_wl_ne, jh_ai_wl_ne, jh_fl_wl_ne, jh_cl_wl_ne, jh_ar_wi_ne, jh_ar_uf, jh_ar_wl_ne, jh_1_wi, jh_1_uf, jh_1_wl, jf_149_16 hR1, jf_149_17 hR1, ja_160 hR1, ja_161 hR1, jua_160, jua_161, Bool.toNat_true]
        obtain ⟨hR2, hD2⟩ := hm (nI 0) (nI 1)
        generalize jx_wi (jx_wi h1 160 1024 (upd tb B (nI 0))) 161 1024 (upd te B (nI 1)) = h2 at hR2 hD2 ⊢
        rw [s158_62]
        simp (disch := omega) only [s158_63, s158_65, s158_68, s158_69, Option.some.injEq, exists_eq_left', exists_eq_left, List.cons_append, List.nil_append, List.length_nil, List.length_cons, Nat.reduceAdd, Nat.reduceMul, Nat.reduceSub, Nat.reduceLeDiff, true_and, and_true, ↓reduceIte, not_false_eq_true, not_true_eq_false, nI_add, pk_mul, jn_ltT, jn_ltF, jn_leT, jn_leF, jn_eqT, jn_eqF, jn_lt0, jn_ge0, jn_eq0T, jn_eq0F, jn_in, jn_cl]
        refine fin h2 _ _ _ _ hR2 hD2 (fun j hj => ⟨jupd_ne hj, jupd_ne hj⟩) ?_ ?_
        · rw [jupd_same]; unfold jlb; rw [jbt_eq hB1, if_pos he]
        · rw [jupd_same]; unfold jfe; rw [jbt_eq hB1, if_pos he]
      | false =>
        simp (disch := omega) only [s158_26, s158_27, s158_28, s158_31, s158_32, s158_33, s158_36, s158_37, s158_40, s158_42, s158_43, s158_44, s158_47, s158_48, s158_49, s158_52, s158_53, s158_56, s158_59, s158_60, s158_61, Option.some.injEq, exists_eq_left', exists_eq_left, List.cons_append, List.nil_append, List.length_nil, List.length_cons, Nat.reduceAdd, Nat.reduceMul, Nat.reduceSub, Nat.reduceLeDiff, true_and, and_true, ↓reduceIte, not_false_eq_true, not_true_eq_false, nI_add, pk_mul, jn_ltT, jn_ltF, jn_leT, jn_leF, jn_eqT, jn_eqF, jn_lt0, jn_ge0, jn_eq0T, jn_eq0F, jn_in, jn_cl, jh_ai_wi, jh_ai_wi_ne, jh_ai_uf, jh_fl_wi_ne, jh_fl_uf_ne, jh_fl_uf_o, jh_cl_wi_ne, jh_cl_uf, jh_al_wi_ne, jh_al_uf, jh_al_wl, jh_al_wl_ne, jh_ai_wl_ne, jh_fl_wl_ne, jh_cl_wl_ne, jh_ar_wi_ne, jh_ar_uf, jh_ar_wl_ne, jh_1_wi, jh_1_uf, jh_1_wl, jf_149_16 hR1, jf_149_17 hR1, ja_160 hR1, ja_161 hR1, jua_160, jua_161, Bool.toNat_false]
        obtain ⟨hR2, hD2⟩ := hm (nI 100) (nI 1000)
        generalize jx_wi (jx_wi h1 160 1024 (upd tb B (nI 100))) 161 1024 (upd te B (nI 1000)) = h2 at hR2 hD2 ⊢
        have hev : ¬ jev (A 150) (F 149 0) (F 149 1) B = true := by rw [he]; decide
        refine jloop (fun n => ∀ h3 tb3 te3, jR F (jua (jua A 160 tb3) 161 te3) G g h3 → jD h h3 → (∀ B', B' ≠ B → tb3 B' = tb B' ∧ te3 B' = te B') → tb3 B = nI (jbst (fun a b => max a b + 1) (jlb (A 150) (F 149 0) (F 149 1)) (B / 32) (B % 32) n 100) → te3 B = nI (jbst (fun a b => a + b) (jfe (A 150) (F 149 0) (F 149 1)) (B / 32) (B % 32) n 1000) → jx_Go jxP (d + 3) 158 62 [.ref 149, .int (nI B), .int (nI 0), .int (nI n)] [] h3 Q) 32 ?_ ?_ 0 (Nat.zero_le _) h2 _ _ hR2 hD2 (fun j hj => ⟨jupd_ne hj, jupd_ne hj⟩) jupd_same jupd_same
        · intro h3 tb3 te3 hR3 hD3 hne e1 e2
          rw [s158_62]
          simp (disch := omega) only [s158_63, s158_65, Option.some.injEq, exists_eq_left', exists_eq_left, List.cons_append, List.nil_append, List.length_nil, List.length_cons, Nat.reduceAdd, Nat.reduceMul, Nat.reduceSub, Nat.reduceLeDiff, true_and, and_true, ↓reduceIte, not_false_eq_true, not_true_eq_false, nI_add, pk_mul, jn_ltT, jn_ltF, jn_leT, jn_leF, jn_eqT, jn_eqF, jn_lt0, jn_ge0, jn_eq0T, jn_eq0F, jn_in, jn_cl]
          refine fin h3 tb3 te3 _ _ hR3 hD3 hne ?_ ?_
          · rw [e1]; unfold jlb; rw [jbt_eq hB1, if_neg hev]; try rfl
          · rw [e2]; unfold jfe; rw [jbt_eq hB1, if_neg hev]; try rfl
        · intro n hn ih2 h3 tb3 te3 hR3 hD3 hne e1 e2
          have lo : ∀ B', B' < B → jblk (F 149 0) (F 149 1) B' = true → tb3 B' = nI (jlb (A 150) (F 149 0) (F 149 1) B') ∧ te3 B' = nI (jfe (A 150) (F 149 0) (F 149 1) B') := by
            intro B' h1' h2'
            rw [(hne B' (by omega)).1, (hne B' (by omega)).2]
            exact hI B' h1' h2'
          have bl : ∀ B', B' < 1024 → jlb (A 150) (F 149 0) (F 149 1) B' ≤ 100 := fun B' h' => jbt_le (by omega) h'
          have be : ∀ B', B' < 1024 → jfe (A 150) (F 149 0) (F 149 1) B' ≤ 1000 := fun B' h' => jbt_le (by omega) h'
          rw [s158_62]
          simp (disch := omega) only [s158_63, s158_65, s158_68, s158_69, s158_72, s158_73, s158_74, s158_75, s158_76, s158_77, s158_78, s158_81, s158_82, s158_83, s158_84, Option.some.injEq, exists_eq_left', exists_eq_left, List.cons_append, List.nil_append, List.length_nil, List.length_cons, Nat.reduceAdd, Nat.reduceMul, Nat.reduceSub, Nat.reduceLeDiff, true_and, and_true, ↓reduceIte, not_false_eq_true, not_true_eq_false, nI_add, pk_mul, jn_ltT, jn_ltF, jn_leT, jn_leF, jn_eqT, jn_eqF, jn_lt0, jn_ge0, jn_eq0T, jn_eq0F, jn_in, jn_cl, jc_of_149 hR3, md_parted, jsh5l]
          refine md_take (B1 := 32 * (B / 32 ^^^ n) + B % 32) (B2 := 32 * n + B % 32) (b1 := jlb (A 150) (F 149 0) (F 149 1) (32 * (B / 32 ^^^ n) + B % 32)) (b2 := jlb (A 150) (F 149 0) (F 149 1) (32 * n + B % 32)) (e1 := jfe (A 150) (F 149 0) (F 149 1) (32 * (B / 32 ^^^ n) + B % 32)) (e2 := jfe (A 150) (F 149 0) (F 149 1) (32 * n + B % 32)) hR3 hB1 ?_ e1 e2 (jbst_le _) (jbst_le _) (fun h4 tb4 te4 hR4 hD4 hne4 e14 e24 => ?_)
          · intro hp
            have q := jpt_lt (B / 32) (by omega) n hn hp
            have l1 := lo (32 * (B / 32 ^^^ n) + B % 32) (by omega) (jblk_iff.mpr (by omega))
            have l2 := lo (32 * n + B % 32) (by omega) (jblk_iff.mpr (by omega))
            refine ⟨by omega, by omega, Or.inr ⟨by omega, by omega, jx3 _ (by omega) _ hn⟩, ?_, l1.1, l2.1, l1.2, l2.2, bl _ (by omega), bl _ (by omega), be _ (by omega), be _ (by omega)⟩
            have := jx1 (B / 32) (by omega) (B % 32) (by omega) n hn
            rwa [show 32 * (B / 32) + B % 32 = B by omega] at this
          · have lo4 : ∀ B', B' < B → jblk (F 149 0) (F 149 1) B' = true → tb4 B' = nI (jlb (A 150) (F 149 0) (F 149 1) B') ∧ te4 B' = nI (jfe (A 150) (F 149 0) (F 149 1) B') := by
              intro B' h1' h2'
              rw [(hne4 B' (by omega)).1, (hne4 B' (by omega)).2]
              exact lo B' h1' h2'
            simp (disch := omega) only [s158_87, s158_88, s158_89, s158_90, s158_91, s158_92, s158_93, s158_96, s158_97, Option.some.injEq, exists_eq_left', exists_eq_left, List.cons_append, List.nil_append, List.length_nil, List.length_cons, Nat.reduceAdd, Nat.reduceMul, Nat.reduceSub, Nat.reduceLeDiff, true_and, and_true, ↓reduceIte, not_false_eq_true, not_true_eq_false, nI_add, pk_mul, jn_ltT, jn_ltF, jn_leT, jn_leF, jn_eqT, jn_eqF, jn_lt0, jn_ge0, jn_eq0T, jn_eq0F, jn_in, jn_cl, jc_of_149 hR4, md_parted]
            refine md_take (B1 := 32 * (B / 32) + (B % 32 ^^^ n)) (B2 := 32 * (B / 32) + n) (b1 := jlb (A 150) (F 149 0) (F 149 1) (32 * (B / 32) + (B % 32 ^^^ n))) (b2 := jlb (A 150) (F 149 0) (F 149 1) (32 * (B / 32) + n)) (e1 := jfe (A 150) (F 149 0) (F 149 1) (32 * (B / 32) + (B % 32 ^^^ n))) (e2 := jfe (A 150) (F 149 0) (F 149 1) (32 * (B / 32) + n)) hR4 hB1 ?_ e14 e24 ?_ ?_ (fun h5 tb5 te5 hR5 hD5 hne5 e15 e25 => ?_)
            · intro hp
              have q := jpt_lt (B % 32) (by omega) n hn hp
              have l1 := lo4 (32 * (B / 32) + (B % 32 ^^^ n)) (by omega) (jblk_iff.mpr (by omega))
              have l2 := lo4 (32 * (B / 32) + n) (by omega) (jblk_iff.mpr (by omega))
              refine ⟨by omega, by omega, Or.inl ⟨hn, jx3 _ hn _ (by omega)⟩, ?_, l1.1, l2.1, l1.2, l2.2, bl _ (by omega), bl _ (by omega), be _ (by omega), be _ (by omega)⟩
              have := jx2 (B / 32) (by omega) (B % 32) (by omega) n hn
              rwa [show 32 * (B / 32) + B % 32 = B by omega] at this
            · have := jbst_le (f := fun a b => max a b + 1) (T := jlb (A 150) (F 149 0) (F 149 1)) (x := B / 32) (y := B % 32) (hi := 100) n
              split <;> omega
            · have := jbst_le (f := fun a b => a + b) (T := jfe (A 150) (F 149 0) (F 149 1)) (x := B / 32) (y := B % 32) (hi := 1000) n
              split <;> omega
            · simp (disch := omega) only [s158_100, s158_103, Option.some.injEq, exists_eq_left', exists_eq_left, List.cons_append, List.nil_append, List.length_nil, List.length_cons, Nat.reduceAdd, Nat.reduceMul, Nat.reduceSub, Nat.reduceLeDiff, true_and, and_true, ↓reduceIte, not_false_eq_true, not_true_eq_false, nI_add, pk_mul, jn_ltT, jn_ltF, jn_leT, jn_leF, jn_eqT, jn_eqF, jn_lt0, jn_ge0, jn_eq0T, jn_eq0F, jn_in, jn_cl]
              refine ih2 h5 tb5 te5 hR5 ((hD3.tr hD4).tr hD5) (fun j hj => ?_) ?_ ?_
              · rw [(hne5 j hj).1, (hne5 j hj).2, (hne4 j hj).1, (hne4 j hj).2]; exact hne j hj
              · rw [e15, jbst_s]; rfl
              · rw [e25, jbst_s]; rfl
    · rw [if_neg hb]
      simp (disch := omega) only [s158_15, s158_18, s158_106, s158_109, Option.some.injEq, exists_eq_left', exists_eq_left, List.cons_append, List.nil_append, List.length_nil, List.length_cons, Nat.reduceAdd, Nat.reduceMul, Nat.reduceSub, Nat.reduceLeDiff, true_and, and_true, ↓reduceIte, not_false_eq_true, not_true_eq_false, nI_add, pk_mul, jn_ltT, jn_ltF, jn_leT, jn_leF, jn_eqT, jn_eqF, jn_lt0, jn_ge0, jn_eq0T, jn_eq0F, jn_in, jn_cl]
      refine ih _ _ h1 tb te hR1 hD1 (fun B' hB' hb2 => ?_)
      by_cases w : B' = B
      · rw [w] at hb2; exact absurd hb2 hb
      · exact hI B' (by omega) hb2
theorem md_bits_f (hR : jR F A G g h) (hr : F 149 0 ≤ 5) (hc : F 149 1 ≤ 5) {x y : Int32} (e : ¬ (jset x (F 149 0) && jset y (F 149 1)) = true) (k : ∀ h', jR (jup F 149 13 (F 149 13 + 1)) A G g h' → jD h h' → Q [.int (-1)] h') : jx_Go jxP (d + 1) 162 0 [.ref 149, .int x, .int y] [] h Q := by
  simp (disch := omega) only [s162_0, s162_1, s162_2, s162_3, Option.some.injEq, exists_eq_left', exists_eq_left, List.cons_append, List.nil_append, List.length_nil, List.length_cons, Nat.reduceAdd, Nat.reduceMul, Nat.reduceSub, Nat.reduceLeDiff, true_and, and_true, ↓reduceIte, not_false_eq_true, not_true_eq_false, nI_add, pk_mul, jn_ltT, jn_ltF, jn_leT, jn_leF, jn_eqT, jn_eqF, jn_lt0, jn_ge0, jn_eq0T, jn_eq0F, jn_in, jn_cl, jc_of_149 hR, md_areSets hR hr hc, Bool.eq_false_iff.mpr e, Bool.toNat_false]
  simp (disch := omega) only [s162_6, s162_9, s162_10, s162_11, Option.some.injEq, exists_eq_left', exists_eq_left, List.cons_append, List.nil_append, List.length_nil, List.length_cons, Nat.reduceAdd, Nat.reduceMul, Nat.reduceSub, Nat.reduceLeDiff, true_and, and_true, ↓reduceIte, not_false_eq_true, not_true_eq_false, nI_add, pk_mul, jn_ltT, jn_ltF, jn_leT, jn_leF, jn_eqT, jn_eqF, jn_lt0, jn_ge0, jn_eq0T, jn_eq0F, jn_in, jn_cl, jc_of_149 hR]
  exact md_finding hR (fun h' hR' hD' => by simp only [s162_14, Option.some.injEq, exists_eq_left', exists_eq_left, List.cons_append, List.nil_append, List.length_nil, List.length_cons, Nat.reduceAdd, Nat.reduceMul, Nat.reduceSub, Nat.reduceLeDiff, true_and, and_true, ↓reduceIte, not_false_eq_true, not_true_eq_false, nI_add, pk_mul, jn_ltT, jn_ltF, jn_leT, jn_leF, jn_eqT, jn_eqF, jn_lt0, jn_ge0, jn_eq0T, jn_eq0F, jn_in, jn_cl]; exact k h' hR' hD')
theorem md_bits_t (hR : jR F A G g h) (hr : F 149 0 ≤ 5) (hc : F 149 1 ≤ 5) (hv : jV (A 150) (F 149 0) (F 149 1)) {x y : Nat} (hx0 : 0 < x) (hx : x < 2 ^ F 149 0) (hy0 : 0 < y) (hy : y < 2 ^ F 149 1) (k : ∀ h' tb te, (∀ B, jblk (F 149 0) (F 149 1) B = true → tb B = nI (jlb (A 150) (F 149 0) (F 149 1) B) ∧ te B = nI (jfe (A 150) (F 149 0) (F 149 1) B)) → jR F (jua (jua A 160 tb) 161 te) G g h' → jD h h' → Q [.int (nI (jlb (A 150) (F 149 0) (F 149 1) (32 * x + y)))] h') : jx_Go jxP (d + 4) 162 0 [.ref 149, .int (nI x), .int (nI y)] [] h Q := by
  have p1 := jp2 _ hr
  have p2 := jp2 _ hc
  have e : (jset (nI x) (F 149 0) && jset (nI y) (F 149 1)) = true := by rw [(jset_iff hr).mpr ⟨x, hx0, hx, rfl⟩, (jset_iff hc).mpr ⟨y, hy0, hy, rfl⟩]; rfl
  simp (disch := omega) only [s162_0, s162_1, s162_2, s162_3, Option.some.injEq, exists_eq_left', exists_eq_left, List.cons_append, List.nil_append, List.length_nil, List.length_cons, Nat.reduceAdd, Nat.reduceMul, Nat.reduceSub, Nat.reduceLeDiff, true_and, and_true, ↓reduceIte, not_false_eq_true, not_true_eq_false, nI_add, pk_mul, jn_ltT, jn_ltF, jn_leT, jn_leF, jn_eqT, jn_eqF, jn_lt0, jn_ge0, jn_eq0T, jn_eq0F, jn_in, jn_cl, jc_of_149 hR, md_areSets hR hr hc, e, Bool.toNat_true]
  simp (disch := omega) only [s162_6, s162_9, s162_10, s162_11, s162_14, s162_15, s162_16, Option.some.injEq, exists_eq_left', exists_eq_left, List.cons_append, List.nil_append, List.length_nil, List.length_cons, Nat.reduceAdd, Nat.reduceMul, Nat.reduceSub, Nat.reduceLeDiff, true_and, and_true, ↓reduceIte, not_false_eq_true, not_true_eq_false, nI_add, pk_mul, jn_ltT, jn_ltF, jn_leT, jn_leF, jn_eqT, jn_eqF, jn_lt0, jn_ge0, jn_eq0T, jn_eq0F, jn_in, jn_cl, jc_of_149 hR]
  refine md_tellBlocks hR hr hc hv (fun h' tb te hT hR' hD' => ?_)
  have := (hT (32 * x + y) (jblk_iff.mpr (by omega))).1
  simp (disch := omega) only [s162_19, s162_20, s162_23, s162_25, s162_26, s162_27, s162_28, s162_29, s162_30, Option.some.injEq, exists_eq_left', exists_eq_left, List.cons_append, List.nil_append, List.length_nil, List.length_cons, Nat.reduceAdd, Nat.reduceMul, Nat.reduceSub, Nat.reduceLeDiff, true_and, and_true, ↓reduceIte, not_false_eq_true, not_true_eq_false, nI_add, pk_mul, jn_ltT, jn_ltF, jn_leT, jn_leF, jn_eqT, jn_eqF, jn_lt0, jn_ge0, jn_eq0T, jn_eq0F, jn_in, jn_cl, jf_149_16 hR', ja_160 hR', jua_160, this]
  exact k h' tb te hT hR' hD'
theorem md_ends_f (hR : jR F A G g h) (hr : F 149 0 ≤ 5) (hc : F 149 1 ≤ 5) {x y : Int32} (e : ¬ (jset x (F 149 0) && jset y (F 149 1)) = true) (k : ∀ h', jR (jup F 149 13 (F 149 13 + 1)) A G g h' → jD h h' → Q [.int (-1)] h') : jx_Go jxP (d + 1) 163 0 [.ref 149, .int x, .int y] [] h Q := by
  simp (disch := omega) only [s163_0, s163_1, s163_2, s163_3, Option.some.injEq, exists_eq_left', exists_eq_left, List.cons_append, List.nil_append, List.length_nil, List.length_cons, Nat.reduceAdd, Nat.reduceMul, Nat.reduceSub, Nat.reduceLeDiff, true_and, and_true, ↓reduceIte, not_false_eq_true, not_true_eq_false, nI_add, pk_mul, jn_ltT, jn_ltF, jn_leT, jn_leF, jn_eqT, jn_eqF, jn_lt0, jn_ge0, jn_eq0T, jn_eq0F, jn_in, jn_cl, jc_of_149 hR, md_areSets hR hr hc, Bool.eq_false_iff.mpr e, Bool.toNat_false]
  simp (disch := omega) only [s163_6, s163_9, s163_10, s163_11, Option.some.injEq, exists_eq_left', exists_eq_left, List.cons_append, List.nil_append, List.length_nil, List.length_cons, Nat.reduceAdd, Nat.reduceMul, Nat.reduceSub, Nat.reduceLeDiff, true_and, and_true, ↓reduceIte, not_false_eq_true, not_true_eq_false, nI_add, pk_mul, jn_ltT, jn_ltF, jn_leT, jn_leF, jn_eqT, jn_eqF, jn_lt0, jn_ge0, jn_eq0T, jn_eq0F, jn_in, jn_cl, jc_of_149 hR]
  exact md_finding hR (fun h' hR' hD' => by simp only [s163_14, Option.some.injEq, exists_eq_left', exists_eq_left, List.cons_append, List.nil_append, List.length_nil, List.length_cons, Nat.reduceAdd, Nat.reduceMul, Nat.reduceSub, Nat.reduceLeDiff, true_and, and_true, ↓reduceIte, not_false_eq_true, not_true_eq_false, nI_add, pk_mul, jn_ltT, jn_ltF, jn_leT, jn_leF, jn_eqT, jn_eqF, jn_lt0, jn_ge0, jn_eq0T, jn_eq0F, jn_in, jn_cl]; exact k h' hR' hD')
theorem md_ends_t (hR : jR F A G g h) (hr : F 149 0 ≤ 5) (hc : F 149 1 ≤ 5) (hv : jV (A 150) (F 149 0) (F 149 1)) {x y : Nat} (hx0 : 0 < x) (hx : x < 2 ^ F 149 0) (hy0 : 0 < y) (hy : y < 2 ^ F 149 1) (k : ∀ h' tb te, (∀ B, jblk (F 149 0) (F 149 1) B = true → tb B = nI (jlb (A 150) (F 149 0) (F 149 1) B) ∧ te B = nI (jfe (A 150) (F 149 0) (F 149 1) B)) → jR F (jua (jua A 160 tb) 161 te) G g h' → jD h h' → Q [.int (nI (jfe (A 150) (F 149 0) (F 149 1) (32 * x + y)))] h') : jx_Go jxP (d + 4) 163 0 [.ref 149, .int (nI x), .int (nI y)] [] h Q := by
  have p1 := jp2 _ hr
  have p2 := jp2 _ hc
  have e : (jset (nI x) (F 149 0) && jset (nI y) (F 149 1)) = true := by rw [(jset_iff hr).mpr ⟨x, hx0, hx, rfl⟩, (jset_iff hc).mpr ⟨y, hy0, hy, rfl⟩]; rfl
  simp (disch := omega) only [s163_0, s163_1, s163_2, s163_3, Option.some.injEq, exists_eq_left', exists_eq_left, List.cons_append, List.nil_append, List.length_nil, List.length_cons, Nat.reduceAdd, Nat.reduceMul, Nat.reduceSub, Nat.reduceLeDiff, true_and, and_true, ↓reduceIte, not_false_eq_true, not_true_eq_false, nI_add, pk_mul, jn_ltT, jn_ltF, jn_leT, jn_leF, jn_eqT, jn_eqF, jn_lt0, jn_ge0, jn_eq0T, jn_eq0F, jn_in, jn_cl, jc_of_149 hR, md_areSets hR hr hc, e, Bool.toNat_true]
  simp (disch := omega) only [s163_6, s163_9, s163_10, s163_11, s163_14, s163_15, s163_16, Option.some.injEq, exists_eq_left', exists_eq_left, List.cons_append, List.nil_append, List.length_nil, List.length_cons, Nat.reduceAdd, Nat.reduceMul, Nat.reduceSub, Nat.reduceLeDiff, true_and, and_true, ↓reduceIte, not_false_eq_true, not_true_eq_false, nI_add, pk_mul, jn_ltT, jn_ltF, jn_leT, jn_leF, jn_eqT, jn_eqF, jn_lt0, jn_ge0, jn_eq0T, jn_eq0F, jn_in, jn_cl, jc_of_149 hR]
  refine md_tellBlocks hR hr hc hv (fun h' tb te hT hR' hD' => ?_)
  have := (hT (32 * x + y) (jblk_iff.mpr (by omega))).2
  simp (disch := omega) only [s163_19, s163_20, s163_23, s163_25, s163_26, s163_27, s163_28, s163_29, s163_30, Option.some.injEq, exists_eq_left', exists_eq_left, List.cons_append, List.nil_append, List.length_nil, List.length_cons, Nat.reduceAdd, Nat.reduceMul, Nat.reduceSub, Nat.reduceLeDiff, true_and, and_true, ↓reduceIte, not_false_eq_true, not_true_eq_false, nI_add, pk_mul, jn_ltT, jn_ltF, jn_leT, jn_leF, jn_eqT, jn_eqF, jn_lt0, jn_ge0, jn_eq0T, jn_eq0F, jn_in, jn_cl, jf_149_17 hR', ja_161 hR', jua_161, this]
  exact k h' tb te hT hR' hD'
end MD11
