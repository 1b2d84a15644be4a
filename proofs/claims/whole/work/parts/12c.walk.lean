/-! ===== a step lemma for each instruction ===== -/
section JST
variable {d a b a0 a1 a2 a3 a4 : Nat} {l0 l1 l2 l3 l4 l5 l6 l7 l8 l9 l10 l11 l12 l13 l14 l15 l16 l17 l18 l19 l20 l21 l22 l23 l24 l25 l26 : Value} {x y z x0 x1 x2 x3 x4 : Int32} {u w : Int64} {st : List Value} {h : jxH} {Q : List Value → jxH → Prop}
-- 130 TalkBenchModel.finding
theorem s130_0 : jx_Go jxP d 130 0 [.ref a, l1] st h Q ↔ jx_Go jxP d 130 1 [.ref a, l1] (.ref a :: st) h Q := jg_al rfl rfl
theorem s130_1i : jx_Go jxP d 130 1 [l0, l1] (.int x :: st) h Q ↔ jx_Go jxP d 130 2 [l0, l1] (.int x :: .int x :: st) h Q := jg_dI rfl
theorem s130_1r : jx_Go jxP d 130 1 [l0, l1] (.ref a :: st) h Q ↔ jx_Go jxP d 130 2 [l0, l1] (.ref a :: .ref a :: st) h Q := jg_dR rfl
theorem s130_2 : jx_Go jxP d 130 2 [l0, l1] (.ref a :: st) h Q ↔ ∃ v, jx_fl h a 12 13 = some v ∧ jx_Go jxP d 130 5 [l0, l1] (v :: st) h Q := jg_gf rfl
theorem s130_5 : jx_Go jxP d 130 5 [l0, l1] st h Q ↔ jx_Go jxP d 130 6 [l0, l1] (.int (nI 1) :: st) h Q := jg_c rfl
theorem s130_6 : jx_Go jxP d 130 6 [l0, l1] (.int y :: .int x :: st) h Q ↔ jx_Go jxP d 130 7 [l0, l1] (.int (x + y) :: st) h Q := jg_b (f := fun x y => x + y) rfl
theorem s130_7 : jx_Go jxP d 130 7 [l0, l1] (.int x :: .ref a :: st) h Q ↔ ∃ v, jx_fl h a 12 13 = some v ∧ jx_Go jxP d 130 10 [l0, l1] st (jx_uf h a 13 (.int x)) Q := jg_pfI rfl
theorem s130_10 : jx_Go jxP d 130 10 [l0, .int x] st h Q ↔ jx_Go jxP d 130 11 [l0, .int x] (.int x :: st) h Q := jg_il rfl rfl
theorem s130_11 : jx_Go jxP d 130 11 [l0, l1] [.int x] h Q ↔ Q [.int x] h := jx_rt rfl rfl
-- 131 TalkBenchModel.isPlace
theorem s131_0 : jx_Go jxP d 131 0 [l0, .int x, l2] st h Q ↔ jx_Go jxP d 131 1 [l0, .int x, l2] (.int x :: st) h Q := jg_il rfl rfl
theorem s131_1 : jx_Go jxP d 131 1 [l0, l1, l2] (.int x :: st) h Q ↔ if x < 0 then jx_Go jxP d 131 28 [l0, l1, l2] st h Q else jx_Go jxP d 131 4 [l0, l1, l2] st h Q := jg_ifP rfl rfl
theorem s131_4 : jx_Go jxP d 131 4 [l0, .int x, l2] st h Q ↔ jx_Go jxP d 131 5 [l0, .int x, l2] (.int x :: st) h Q := jg_il rfl rfl
theorem s131_5 : jx_Go jxP d 131 5 [.ref a, l1, l2] st h Q ↔ jx_Go jxP d 131 6 [.ref a, l1, l2] (.ref a :: st) h Q := jg_al rfl rfl
theorem s131_6 : jx_Go jxP d 131 6 [l0, l1, l2] (.ref a :: st) h Q ↔ ∃ v, jx_fl h a 12 0 = some v ∧ jx_Go jxP d 131 9 [l0, l1, l2] (v :: st) h Q := jg_gf rfl
theorem s131_9 : jx_Go jxP d 131 9 [l0, l1, l2] (.int y :: .int x :: st) h Q ↔ if y ≤ x then jx_Go jxP d 131 28 [l0, l1, l2] st h Q else jx_Go jxP d 131 12 [l0, l1, l2] st h Q := jg_icP rfl rfl
theorem s131_12 : jx_Go jxP d 131 12 [l0, l1, .int x] st h Q ↔ jx_Go jxP d 131 13 [l0, l1, .int x] (.int x :: st) h Q := jg_il rfl rfl
theorem s131_13 : jx_Go jxP d 131 13 [l0, l1, l2] (.int x :: st) h Q ↔ if x < 0 then jx_Go jxP d 131 28 [l0, l1, l2] st h Q else jx_Go jxP d 131 16 [l0, l1, l2] st h Q := jg_ifP rfl rfl
theorem s131_16 : jx_Go jxP d 131 16 [l0, l1, .int x] st h Q ↔ jx_Go jxP d 131 17 [l0, l1, .int x] (.int x :: st) h Q := jg_il rfl rfl
theorem s131_17 : jx_Go jxP d 131 17 [.ref a, l1, l2] st h Q ↔ jx_Go jxP d 131 18 [.ref a, l1, l2] (.ref a :: st) h Q := jg_al rfl rfl
theorem s131_18 : jx_Go jxP d 131 18 [l0, l1, l2] (.ref a :: st) h Q ↔ ∃ v, jx_fl h a 12 1 = some v ∧ jx_Go jxP d 131 21 [l0, l1, l2] (v :: st) h Q := jg_gf rfl
theorem s131_21 : jx_Go jxP d 131 21 [l0, l1, l2] (.int y :: .int x :: st) h Q ↔ if y ≤ x then jx_Go jxP d 131 28 [l0, l1, l2] st h Q else jx_Go jxP d 131 24 [l0, l1, l2] st h Q := jg_icP rfl rfl
theorem s131_24 : jx_Go jxP d 131 24 [l0, l1, l2] st h Q ↔ jx_Go jxP d 131 25 [l0, l1, l2] (.int (nI 1) :: st) h Q := jg_c rfl
theorem s131_25 : jx_Go jxP d 131 25 [l0, l1, l2] st h Q ↔ jx_Go jxP d 131 29 [l0, l1, l2] st h Q := jg_go rfl
theorem s131_28 : jx_Go jxP d 131 28 [l0, l1, l2] st h Q ↔ jx_Go jxP d 131 29 [l0, l1, l2] (.int (nI 0) :: st) h Q := jg_c rfl
theorem s131_29b0 : jx_Go jxP d 131 29 [l0, l1, l2] [.int (nI 0)] h Q ↔ Q [.int (nI 0)] h := jx_rt rfl rfl
theorem s131_29b1 : jx_Go jxP d 131 29 [l0, l1, l2] [.int (nI 1)] h Q ↔ Q [.int (nI 1)] h := jx_rt rfl rfl
-- 132 TalkBenchModel.in
theorem s132_0 : jx_Go jxP d 132 0 [.int x, l1] st h Q ↔ jx_Go jxP d 132 1 [.int x, l1] (.int x :: st) h Q := jg_il rfl rfl
theorem s132_1 : jx_Go jxP d 132 1 [l0, .int x] st h Q ↔ jx_Go jxP d 132 2 [l0, .int x] (.int x :: st) h Q := jg_il rfl rfl
theorem s132_2 : jx_Go jxP d 132 2 [l0, l1] (.int y :: .int x :: st) h Q ↔ jx_Go jxP d 132 3 [l0, l1] (.int (x >>> (y &&& 31)) :: st) h Q := jg_b (f := fun x y => x >>> (y &&& 31)) rfl
theorem s132_3 : jx_Go jxP d 132 3 [l0, l1] st h Q ↔ jx_Go jxP d 132 4 [l0, l1] (.int (nI 1) :: st) h Q := jg_c rfl
theorem s132_4 : jx_Go jxP d 132 4 [l0, l1] (.int y :: .int x :: st) h Q ↔ jx_Go jxP d 132 5 [l0, l1] (.int (x &&& y) :: st) h Q := jg_b (f := fun x y => x &&& y) rfl
theorem s132_5 : jx_Go jxP d 132 5 [l0, l1] st h Q ↔ jx_Go jxP d 132 6 [l0, l1] (.int (nI 1) :: st) h Q := jg_c rfl
theorem s132_6 : jx_Go jxP d 132 6 [l0, l1] (.int y :: .int x :: st) h Q ↔ if x = y then jx_Go jxP d 132 9 [l0, l1] st h Q else jx_Go jxP d 132 13 [l0, l1] st h Q := jg_icN rfl rfl
theorem s132_9 : jx_Go jxP d 132 9 [l0, l1] st h Q ↔ jx_Go jxP d 132 10 [l0, l1] (.int (nI 1) :: st) h Q := jg_c rfl
theorem s132_10 : jx_Go jxP d 132 10 [l0, l1] st h Q ↔ jx_Go jxP d 132 14 [l0, l1] st h Q := jg_go rfl
theorem s132_13 : jx_Go jxP d 132 13 [l0, l1] st h Q ↔ jx_Go jxP d 132 14 [l0, l1] (.int (nI 0) :: st) h Q := jg_c rfl
theorem s132_14b0 : jx_Go jxP d 132 14 [l0, l1] [.int (nI 0)] h Q ↔ Q [.int (nI 0)] h := jx_rt rfl rfl
theorem s132_14b1 : jx_Go jxP d 132 14 [l0, l1] [.int (nI 1)] h Q ↔ Q [.int (nI 1)] h := jx_rt rfl rfl
-- 133 TalkBenchModel.countOf
theorem s133_0 : jx_Go jxP d 133 0 [l0, l1, l2] st h Q ↔ jx_Go jxP d 133 1 [l0, l1, l2] (.int (nI 0) :: st) h Q := jg_c rfl
theorem s133_1 : jx_Go jxP d 133 1 [l0, l1, l2] (.int x :: st) h Q ↔ jx_Go jxP d 133 2 [l0, .int x, l2] st h Q := jg_is rfl rfl
theorem s133_2 : jx_Go jxP d 133 2 [l0, l1, l2] st h Q ↔ jx_Go jxP d 133 3 [l0, l1, l2] (.int (nI 0) :: st) h Q := jg_c rfl
theorem s133_3 : jx_Go jxP d 133 3 [l0, l1, l2] (.int x :: st) h Q ↔ jx_Go jxP d 133 4 [l0, l1, .int x] st h Q := jg_is rfl rfl
theorem s133_4 : jx_Go jxP d 133 4 [l0, l1, .int x] st h Q ↔ jx_Go jxP d 133 5 [l0, l1, .int x] (.int x :: st) h Q := jg_il rfl rfl
theorem s133_5 : jx_Go jxP d 133 5 [l0, l1, l2] st h Q ↔ jx_Go jxP d 133 7 [l0, l1, l2] (.int (nI 31) :: st) h Q := jg_c rfl
theorem s133_7 : jx_Go jxP d 133 7 [l0, l1, l2] (.int y :: .int x :: st) h Q ↔ if y ≤ x then jx_Go jxP d 133 24 [l0, l1, l2] st h Q else jx_Go jxP d 133 10 [l0, l1, l2] st h Q := jg_icP rfl rfl
theorem s133_10 : jx_Go jxP d 133 10 [l0, .int x, l2] st h Q ↔ jx_Go jxP d 133 11 [l0, .int x, l2] (.int x :: st) h Q := jg_il rfl rfl
theorem s133_11 : jx_Go jxP d 133 11 [.int x, l1, l2] st h Q ↔ jx_Go jxP d 133 12 [.int x, l1, l2] (.int x :: st) h Q := jg_il rfl rfl
theorem s133_12 : jx_Go jxP d 133 12 [l0, l1, .int x] st h Q ↔ jx_Go jxP d 133 13 [l0, l1, .int x] (.int x :: st) h Q := jg_il rfl rfl
theorem s133_13 : jx_Go jxP d 133 13 [l0, l1, l2] (.int y :: .int x :: st) h Q ↔ jx_Go jxP d 133 14 [l0, l1, l2] (.int (x >>> (y &&& 31)) :: st) h Q := jg_b (f := fun x y => x >>> (y &&& 31)) rfl
theorem s133_14 : jx_Go jxP d 133 14 [l0, l1, l2] st h Q ↔ jx_Go jxP d 133 15 [l0, l1, l2] (.int (nI 1) :: st) h Q := jg_c rfl
theorem s133_15 : jx_Go jxP d 133 15 [l0, l1, l2] (.int y :: .int x :: st) h Q ↔ jx_Go jxP d 133 16 [l0, l1, l2] (.int (x &&& y) :: st) h Q := jg_b (f := fun x y => x &&& y) rfl
theorem s133_16 : jx_Go jxP d 133 16 [l0, l1, l2] (.int y :: .int x :: st) h Q ↔ jx_Go jxP d 133 17 [l0, l1, l2] (.int (x + y) :: st) h Q := jg_b (f := fun x y => x + y) rfl
theorem s133_17 : jx_Go jxP d 133 17 [l0, l1, l2] (.int x :: st) h Q ↔ jx_Go jxP d 133 18 [l0, .int x, l2] st h Q := jg_is rfl rfl
theorem s133_18 : jx_Go jxP d 133 18 [l0, l1, .int x] st h Q ↔ jx_Go jxP d 133 21 [l0, l1, .int (x + (nI 1))] st h Q := jg_inc rfl rfl rfl
theorem s133_21 : jx_Go jxP d 133 21 [l0, l1, l2] st h Q ↔ jx_Go jxP d 133 4 [l0, l1, l2] st h Q := jg_go rfl
theorem s133_24 : jx_Go jxP d 133 24 [l0, .int x, l2] st h Q ↔ jx_Go jxP d 133 25 [l0, .int x, l2] (.int x :: st) h Q := jg_il rfl rfl
theorem s133_25 : jx_Go jxP d 133 25 [l0, l1, l2] [.int x] h Q ↔ Q [.int x] h := jx_rt rfl rfl
-- 134 TalkBenchModel.save
theorem s134_0 : jx_Go jxP d 134 0 [l0, .ref a, l2, l3] st h Q ↔ jx_Go jxP d 134 1 [l0, .ref a, l2, l3] (.ref a :: st) h Q := jg_al rfl rfl
theorem s134_1 : jx_Go jxP d 134 1 [l0, l1, .int x, l3] st h Q ↔ jx_Go jxP d 134 2 [l0, l1, .int x, l3] (.int x :: st) h Q := jg_il rfl rfl
theorem s134_2 : jx_Go jxP d 134 2 [.ref a, l1, l2, l3] st h Q ↔ jx_Go jxP d 134 3 [.ref a, l1, l2, l3] (.ref a :: st) h Q := jg_al rfl rfl
theorem s134_3 : jx_Go jxP d 134 3 [l0, l1, l2, l3] (.ref a :: st) h Q ↔ ∃ v, jx_fl h a 12 0 = some v ∧ jx_Go jxP d 134 6 [l0, l1, l2, l3] (v :: st) h Q := jg_gf rfl
theorem s134_6 : jx_Go jxP d 134 6 [l0, l1, l2, l3] (.int y :: .int x :: .ref a :: st) h Q ↔ ∃ q, jx_ai h a = some q ∧ jx_in x q.1 ∧ jx_Go jxP d 134 7 [l0, l1, l2, l3] st (jx_wi h a q.1 (upd q.2 x.toNatClampNeg y)) Q := jg_iw rfl
theorem s134_7 : jx_Go jxP d 134 7 [l0, .ref a, l2, l3] st h Q ↔ jx_Go jxP d 134 8 [l0, .ref a, l2, l3] (.ref a :: st) h Q := jg_al rfl rfl
theorem s134_8 : jx_Go jxP d 134 8 [l0, l1, .int x, l3] st h Q ↔ jx_Go jxP d 134 9 [l0, l1, .int x, l3] (.int x :: st) h Q := jg_il rfl rfl
theorem s134_9 : jx_Go jxP d 134 9 [l0, l1, l2, l3] st h Q ↔ jx_Go jxP d 134 10 [l0, l1, l2, l3] (.int (nI 1) :: st) h Q := jg_c rfl
theorem s134_10 : jx_Go jxP d 134 10 [l0, l1, l2, l3] (.int y :: .int x :: st) h Q ↔ jx_Go jxP d 134 11 [l0, l1, l2, l3] (.int (x + y) :: st) h Q := jg_b (f := fun x y => x + y) rfl
theorem s134_11 : jx_Go jxP d 134 11 [.ref a, l1, l2, l3] st h Q ↔ jx_Go jxP d 134 12 [.ref a, l1, l2, l3] (.ref a :: st) h Q := jg_al rfl rfl
theorem s134_12 : jx_Go jxP d 134 12 [l0, l1, l2, l3] (.ref a :: st) h Q ↔ ∃ v, jx_fl h a 12 1 = some v ∧ jx_Go jxP d 134 15 [l0, l1, l2, l3] (v :: st) h Q := jg_gf rfl
theorem s134_15 : jx_Go jxP d 134 15 [l0, l1, l2, l3] (.int y :: .int x :: .ref a :: st) h Q ↔ ∃ q, jx_ai h a = some q ∧ jx_in x q.1 ∧ jx_Go jxP d 134 16 [l0, l1, l2, l3] st (jx_wi h a q.1 (upd q.2 x.toNatClampNeg y)) Q := jg_iw rfl
theorem s134_16 : jx_Go jxP d 134 16 [l0, l1, l2, l3] st h Q ↔ jx_Go jxP d 134 17 [l0, l1, l2, l3] (.int (nI 0) :: st) h Q := jg_c rfl
theorem s134_17 : jx_Go jxP d 134 17 [l0, l1, l2, l3] (.int x :: st) h Q ↔ jx_Go jxP d 134 18 [l0, l1, l2, .int x] st h Q := jg_is rfl rfl
theorem s134_18 : jx_Go jxP d 134 18 [l0, l1, l2, .int x] st h Q ↔ jx_Go jxP d 134 19 [l0, l1, l2, .int x] (.int x :: st) h Q := jg_il rfl rfl
theorem s134_19 : jx_Go jxP d 134 19 [l0, l1, l2, l3] st h Q ↔ jx_Go jxP d 134 21 [l0, l1, l2, l3] (.int (nI 25) :: st) h Q := jg_c rfl
theorem s134_21 : jx_Go jxP d 134 21 [l0, l1, l2, l3] (.int y :: .int x :: st) h Q ↔ if y ≤ x then jx_Go jxP d 134 57 [l0, l1, l2, l3] st h Q else jx_Go jxP d 134 24 [l0, l1, l2, l3] st h Q := jg_icP rfl rfl
theorem s134_24 : jx_Go jxP d 134 24 [l0, .ref a, l2, l3] st h Q ↔ jx_Go jxP d 134 25 [l0, .ref a, l2, l3] (.ref a :: st) h Q := jg_al rfl rfl
theorem s134_25 : jx_Go jxP d 134 25 [l0, l1, .int x, l3] st h Q ↔ jx_Go jxP d 134 26 [l0, l1, .int x, l3] (.int x :: st) h Q := jg_il rfl rfl
theorem s134_26 : jx_Go jxP d 134 26 [l0, l1, l2, l3] st h Q ↔ jx_Go jxP d 134 27 [l0, l1, l2, l3] (.int (nI 2) :: st) h Q := jg_c rfl
theorem s134_27 : jx_Go jxP d 134 27 [l0, l1, l2, l3] (.int y :: .int x :: st) h Q ↔ jx_Go jxP d 134 28 [l0, l1, l2, l3] (.int (x + y) :: st) h Q := jg_b (f := fun x y => x + y) rfl
theorem s134_28 : jx_Go jxP d 134 28 [l0, l1, l2, .int x] st h Q ↔ jx_Go jxP d 134 29 [l0, l1, l2, .int x] (.int x :: st) h Q := jg_il rfl rfl
theorem s134_29 : jx_Go jxP d 134 29 [l0, l1, l2, l3] (.int y :: .int x :: st) h Q ↔ jx_Go jxP d 134 30 [l0, l1, l2, l3] (.int (x + y) :: st) h Q := jg_b (f := fun x y => x + y) rfl
theorem s134_30 : jx_Go jxP d 134 30 [.ref a, l1, l2, l3] st h Q ↔ jx_Go jxP d 134 31 [.ref a, l1, l2, l3] (.ref a :: st) h Q := jg_al rfl rfl
theorem s134_31 : jx_Go jxP d 134 31 [l0, l1, l2, l3] (.ref a :: st) h Q ↔ ∃ v, jx_fl h a 12 2 = some v ∧ jx_Go jxP d 134 34 [l0, l1, l2, l3] (v :: st) h Q := jg_gf rfl
theorem s134_34 : jx_Go jxP d 134 34 [l0, l1, l2, .int x] st h Q ↔ jx_Go jxP d 134 35 [l0, l1, l2, .int x] (.int x :: st) h Q := jg_il rfl rfl
theorem s134_35 : jx_Go jxP d 134 35 [l0, l1, l2, l3] (.int x :: .ref a :: st) h Q ↔ ∃ q, jx_ai h a = some q ∧ jx_in x q.1 ∧ jx_Go jxP d 134 36 [l0, l1, l2, l3] (.int (q.2 x.toNatClampNeg) :: st) h Q := jg_ia rfl
theorem s134_36 : jx_Go jxP d 134 36 [l0, l1, l2, l3] (.int y :: .int x :: .ref a :: st) h Q ↔ ∃ q, jx_ai h a = some q ∧ jx_in x q.1 ∧ jx_Go jxP d 134 37 [l0, l1, l2, l3] st (jx_wi h a q.1 (upd q.2 x.toNatClampNeg y)) Q := jg_iw rfl
theorem s134_37 : jx_Go jxP d 134 37 [l0, .ref a, l2, l3] st h Q ↔ jx_Go jxP d 134 38 [l0, .ref a, l2, l3] (.ref a :: st) h Q := jg_al rfl rfl
theorem s134_38 : jx_Go jxP d 134 38 [l0, l1, .int x, l3] st h Q ↔ jx_Go jxP d 134 39 [l0, l1, .int x, l3] (.int x :: st) h Q := jg_il rfl rfl
theorem s134_39 : jx_Go jxP d 134 39 [l0, l1, l2, l3] st h Q ↔ jx_Go jxP d 134 41 [l0, l1, l2, l3] (.int (nI 27) :: st) h Q := jg_c rfl
theorem s134_41 : jx_Go jxP d 134 41 [l0, l1, l2, l3] (.int y :: .int x :: st) h Q ↔ jx_Go jxP d 134 42 [l0, l1, l2, l3] (.int (x + y) :: st) h Q := jg_b (f := fun x y => x + y) rfl
theorem s134_42 : jx_Go jxP d 134 42 [l0, l1, l2, .int x] st h Q ↔ jx_Go jxP d 134 43 [l0, l1, l2, .int x] (.int x :: st) h Q := jg_il rfl rfl
theorem s134_43 : jx_Go jxP d 134 43 [l0, l1, l2, l3] (.int y :: .int x :: st) h Q ↔ jx_Go jxP d 134 44 [l0, l1, l2, l3] (.int (x + y) :: st) h Q := jg_b (f := fun x y => x + y) rfl
theorem s134_44 : jx_Go jxP d 134 44 [.ref a, l1, l2, l3] st h Q ↔ jx_Go jxP d 134 45 [.ref a, l1, l2, l3] (.ref a :: st) h Q := jg_al rfl rfl
theorem s134_45 : jx_Go jxP d 134 45 [l0, l1, l2, l3] (.ref a :: st) h Q ↔ ∃ v, jx_fl h a 12 3 = some v ∧ jx_Go jxP d 134 48 [l0, l1, l2, l3] (v :: st) h Q := jg_gf rfl
theorem s134_48 : jx_Go jxP d 134 48 [l0, l1, l2, .int x] st h Q ↔ jx_Go jxP d 134 49 [l0, l1, l2, .int x] (.int x :: st) h Q := jg_il rfl rfl
theorem s134_49 : jx_Go jxP d 134 49 [l0, l1, l2, l3] (.int x :: .ref a :: st) h Q ↔ ∃ q, jx_ai h a = some q ∧ jx_in x q.1 ∧ jx_Go jxP d 134 50 [l0, l1, l2, l3] (.int (q.2 x.toNatClampNeg) :: st) h Q := jg_ia rfl
theorem s134_50 : jx_Go jxP d 134 50 [l0, l1, l2, l3] (.int y :: .int x :: .ref a :: st) h Q ↔ ∃ q, jx_ai h a = some q ∧ jx_in x q.1 ∧ jx_Go jxP d 134 51 [l0, l1, l2, l3] st (jx_wi h a q.1 (upd q.2 x.toNatClampNeg y)) Q := jg_iw rfl
theorem s134_51 : jx_Go jxP d 134 51 [l0, l1, l2, .int x] st h Q ↔ jx_Go jxP d 134 54 [l0, l1, l2, .int (x + (nI 1))] st h Q := jg_inc rfl rfl rfl
theorem s134_54 : jx_Go jxP d 134 54 [l0, l1, l2, l3] st h Q ↔ jx_Go jxP d 134 18 [l0, l1, l2, l3] st h Q := jg_go rfl
theorem s134_57 : jx_Go jxP d 134 57 [l0, l1, l2, l3] [] h Q ↔ Q [] h := jx_rt rfl rfl
-- 135 TalkBenchModel.load
theorem s135_0 : jx_Go jxP d 135 0 [.ref a, l1, l2, l3] st h Q ↔ jx_Go jxP d 135 1 [.ref a, l1, l2, l3] (.ref a :: st) h Q := jg_al rfl rfl
theorem s135_1 : jx_Go jxP d 135 1 [l0, .ref a, l2, l3] st h Q ↔ jx_Go jxP d 135 2 [l0, .ref a, l2, l3] (.ref a :: st) h Q := jg_al rfl rfl
theorem s135_2 : jx_Go jxP d 135 2 [l0, l1, .int x, l3] st h Q ↔ jx_Go jxP d 135 3 [l0, l1, .int x, l3] (.int x :: st) h Q := jg_il rfl rfl
theorem s135_3 : jx_Go jxP d 135 3 [l0, l1, l2, l3] (.int x :: .ref a :: st) h Q ↔ ∃ q, jx_ai h a = some q ∧ jx_in x q.1 ∧ jx_Go jxP d 135 4 [l0, l1, l2, l3] (.int (q.2 x.toNatClampNeg) :: st) h Q := jg_ia rfl
theorem s135_4 : jx_Go jxP d 135 4 [l0, l1, l2, l3] (.int x :: .ref a :: st) h Q ↔ ∃ v, jx_fl h a 12 0 = some v ∧ jx_Go jxP d 135 7 [l0, l1, l2, l3] st (jx_uf h a 0 (.int x)) Q := jg_pfI rfl
theorem s135_7 : jx_Go jxP d 135 7 [.ref a, l1, l2, l3] st h Q ↔ jx_Go jxP d 135 8 [.ref a, l1, l2, l3] (.ref a :: st) h Q := jg_al rfl rfl
theorem s135_8 : jx_Go jxP d 135 8 [l0, .ref a, l2, l3] st h Q ↔ jx_Go jxP d 135 9 [l0, .ref a, l2, l3] (.ref a :: st) h Q := jg_al rfl rfl
theorem s135_9 : jx_Go jxP d 135 9 [l0, l1, .int x, l3] st h Q ↔ jx_Go jxP d 135 10 [l0, l1, .int x, l3] (.int x :: st) h Q := jg_il rfl rfl
theorem s135_10 : jx_Go jxP d 135 10 [l0, l1, l2, l3] st h Q ↔ jx_Go jxP d 135 11 [l0, l1, l2, l3] (.int (nI 1) :: st) h Q := jg_c rfl
theorem s135_11 : jx_Go jxP d 135 11 [l0, l1, l2, l3] (.int y :: .int x :: st) h Q ↔ jx_Go jxP d 135 12 [l0, l1, l2, l3] (.int (x + y) :: st) h Q := jg_b (f := fun x y => x + y) rfl
theorem s135_12 : jx_Go jxP d 135 12 [l0, l1, l2, l3] (.int x :: .ref a :: st) h Q ↔ ∃ q, jx_ai h a = some q ∧ jx_in x q.1 ∧ jx_Go jxP d 135 13 [l0, l1, l2, l3] (.int (q.2 x.toNatClampNeg) :: st) h Q := jg_ia rfl
theorem s135_13 : jx_Go jxP d 135 13 [l0, l1, l2, l3] (.int x :: .ref a :: st) h Q ↔ ∃ v, jx_fl h a 12 1 = some v ∧ jx_Go jxP d 135 16 [l0, l1, l2, l3] st (jx_uf h a 1 (.int x)) Q := jg_pfI rfl
theorem s135_16 : jx_Go jxP d 135 16 [l0, l1, l2, l3] st h Q ↔ jx_Go jxP d 135 17 [l0, l1, l2, l3] (.int (nI 0) :: st) h Q := jg_c rfl
theorem s135_17 : jx_Go jxP d 135 17 [l0, l1, l2, l3] (.int x :: st) h Q ↔ jx_Go jxP d 135 18 [l0, l1, l2, .int x] st h Q := jg_is rfl rfl
theorem s135_18 : jx_Go jxP d 135 18 [l0, l1, l2, .int x] st h Q ↔ jx_Go jxP d 135 19 [l0, l1, l2, .int x] (.int x :: st) h Q := jg_il rfl rfl
theorem s135_19 : jx_Go jxP d 135 19 [l0, l1, l2, l3] st h Q ↔ jx_Go jxP d 135 21 [l0, l1, l2, l3] (.int (nI 25) :: st) h Q := jg_c rfl
theorem s135_21 : jx_Go jxP d 135 21 [l0, l1, l2, l3] (.int y :: .int x :: st) h Q ↔ if y ≤ x then jx_Go jxP d 135 57 [l0, l1, l2, l3] st h Q else jx_Go jxP d 135 24 [l0, l1, l2, l3] st h Q := jg_icP rfl rfl
theorem s135_24 : jx_Go jxP d 135 24 [.ref a, l1, l2, l3] st h Q ↔ jx_Go jxP d 135 25 [.ref a, l1, l2, l3] (.ref a :: st) h Q := jg_al rfl rfl
theorem s135_25 : jx_Go jxP d 135 25 [l0, l1, l2, l3] (.ref a :: st) h Q ↔ ∃ v, jx_fl h a 12 2 = some v ∧ jx_Go jxP d 135 28 [l0, l1, l2, l3] (v :: st) h Q := jg_gf rfl
theorem s135_28 : jx_Go jxP d 135 28 [l0, l1, l2, .int x] st h Q ↔ jx_Go jxP d 135 29 [l0, l1, l2, .int x] (.int x :: st) h Q := jg_il rfl rfl
theorem s135_29 : jx_Go jxP d 135 29 [l0, .ref a, l2, l3] st h Q ↔ jx_Go jxP d 135 30 [l0, .ref a, l2, l3] (.ref a :: st) h Q := jg_al rfl rfl
theorem s135_30 : jx_Go jxP d 135 30 [l0, l1, .int x, l3] st h Q ↔ jx_Go jxP d 135 31 [l0, l1, .int x, l3] (.int x :: st) h Q := jg_il rfl rfl
theorem s135_31 : jx_Go jxP d 135 31 [l0, l1, l2, l3] st h Q ↔ jx_Go jxP d 135 32 [l0, l1, l2, l3] (.int (nI 2) :: st) h Q := jg_c rfl
theorem s135_32 : jx_Go jxP d 135 32 [l0, l1, l2, l3] (.int y :: .int x :: st) h Q ↔ jx_Go jxP d 135 33 [l0, l1, l2, l3] (.int (x + y) :: st) h Q := jg_b (f := fun x y => x + y) rfl
theorem s135_33 : jx_Go jxP d 135 33 [l0, l1, l2, .int x] st h Q ↔ jx_Go jxP d 135 34 [l0, l1, l2, .int x] (.int x :: st) h Q := jg_il rfl rfl
theorem s135_34 : jx_Go jxP d 135 34 [l0, l1, l2, l3] (.int y :: .int x :: st) h Q ↔ jx_Go jxP d 135 35 [l0, l1, l2, l3] (.int (x + y) :: st) h Q := jg_b (f := fun x y => x + y) rfl
theorem s135_35 : jx_Go jxP d 135 35 [l0, l1, l2, l3] (.int x :: .ref a :: st) h Q ↔ ∃ q, jx_ai h a = some q ∧ jx_in x q.1 ∧ jx_Go jxP d 135 36 [l0, l1, l2, l3] (.int (q.2 x.toNatClampNeg) :: st) h Q := jg_ia rfl
theorem s135_36 : jx_Go jxP d 135 36 [l0, l1, l2, l3] (.int y :: .int x :: .ref a :: st) h Q ↔ ∃ q, jx_ai h a = some q ∧ jx_in x q.1 ∧ jx_Go jxP d 135 37 [l0, l1, l2, l3] st (jx_wi h a q.1 (upd q.2 x.toNatClampNeg y)) Q := jg_iw rfl
theorem s135_37 : jx_Go jxP d 135 37 [.ref a, l1, l2, l3] st h Q ↔ jx_Go jxP d 135 38 [.ref a, l1, l2, l3] (.ref a :: st) h Q := jg_al rfl rfl
theorem s135_38 : jx_Go jxP d 135 38 [l0, l1, l2, l3] (.ref a :: st) h Q ↔ ∃ v, jx_fl h a 12 3 = some v ∧ jx_Go jxP d 135 41 [l0, l1, l2, l3] (v :: st) h Q := jg_gf rfl
theorem s135_41 : jx_Go jxP d 135 41 [l0, l1, l2, .int x] st h Q ↔ jx_Go jxP d 135 42 [l0, l1, l2, .int x] (.int x :: st) h Q := jg_il rfl rfl
theorem s135_42 : jx_Go jxP d 135 42 [l0, .ref a, l2, l3] st h Q ↔ jx_Go jxP d 135 43 [l0, .ref a, l2, l3] (.ref a :: st) h Q := jg_al rfl rfl
theorem s135_43 : jx_Go jxP d 135 43 [l0, l1, .int x, l3] st h Q ↔ jx_Go jxP d 135 44 [l0, l1, .int x, l3] (.int x :: st) h Q := jg_il rfl rfl
theorem s135_44 : jx_Go jxP d 135 44 [l0, l1, l2, l3] st h Q ↔ jx_Go jxP d 135 46 [l0, l1, l2, l3] (.int (nI 27) :: st) h Q := jg_c rfl
theorem s135_46 : jx_Go jxP d 135 46 [l0, l1, l2, l3] (.int y :: .int x :: st) h Q ↔ jx_Go jxP d 135 47 [l0, l1, l2, l3] (.int (x + y) :: st) h Q := jg_b (f := fun x y => x + y) rfl
theorem s135_47 : jx_Go jxP d 135 47 [l0, l1, l2, .int x] st h Q ↔ jx_Go jxP d 135 48 [l0, l1, l2, .int x] (.int x :: st) h Q := jg_il rfl rfl
theorem s135_48 : jx_Go jxP d 135 48 [l0, l1, l2, l3] (.int y :: .int x :: st) h Q ↔ jx_Go jxP d 135 49 [l0, l1, l2, l3] (.int (x + y) :: st) h Q := jg_b (f := fun x y => x + y) rfl
theorem s135_49 : jx_Go jxP d 135 49 [l0, l1, l2, l3] (.int x :: .ref a :: st) h Q ↔ ∃ q, jx_ai h a = some q ∧ jx_in x q.1 ∧ jx_Go jxP d 135 50 [l0, l1, l2, l3] (.int (q.2 x.toNatClampNeg) :: st) h Q := jg_ia rfl
theorem s135_50 : jx_Go jxP d 135 50 [l0, l1, l2, l3] (.int y :: .int x :: .ref a :: st) h Q ↔ ∃ q, jx_ai h a = some q ∧ jx_in x q.1 ∧ jx_Go jxP d 135 51 [l0, l1, l2, l3] st (jx_wi h a q.1 (upd q.2 x.toNatClampNeg y)) Q := jg_iw rfl
theorem s135_51 : jx_Go jxP d 135 51 [l0, l1, l2, .int x] st h Q ↔ jx_Go jxP d 135 54 [l0, l1, l2, .int (x + (nI 1))] st h Q := jg_inc rfl rfl rfl
theorem s135_54 : jx_Go jxP d 135 54 [l0, l1, l2, l3] st h Q ↔ jx_Go jxP d 135 18 [l0, l1, l2, l3] st h Q := jg_go rfl
theorem s135_57 : jx_Go jxP d 135 57 [.ref a, l1, l2, l3] st h Q ↔ jx_Go jxP d 135 58 [.ref a, l1, l2, l3] (.ref a :: st) h Q := jg_al rfl rfl
theorem s135_58 : jx_Go jxP d 135 58 [l0, l1, l2, l3] st h Q ↔ jx_Go jxP d 135 59 [l0, l1, l2, l3] (.int (nI 0) :: st) h Q := jg_c rfl
theorem s135_59 : jx_Go jxP d 135 59 [l0, l1, l2, l3] (.int x :: .ref a :: st) h Q ↔ ∃ v, jx_fl h a 12 14 = some v ∧ jx_Go jxP d 135 62 [l0, l1, l2, l3] st (jx_uf h a 14 (.int x)) Q := jg_pfI rfl
theorem s135_62 : jx_Go jxP d 135 62 [l0, l1, l2, l3] [] h Q ↔ Q [] h := jx_rt rfl rfl
-- 136 TalkBenchModel.keepTask
theorem s136_0 : jx_Go jxP d 136 0 [.ref a, l1] st h Q ↔ jx_Go jxP d 136 1 [.ref a, l1] (.ref a :: st) h Q := jg_al rfl rfl
theorem s136_1 : jx_Go jxP d 136 1 [l0, l1] (.ref a :: st) h Q ↔ ∃ v, jx_fl h a 12 4 = some v ∧ jx_Go jxP d 136 4 [l0, l1] (v :: st) h Q := jg_gf rfl
theorem s136_4 : jx_Go jxP d 136 4 [l0, l1] st h Q ↔ jx_Go jxP d 136 6 [l0, l1] (.int (nI 30) :: st) h Q := jg_c rfl
theorem s136_6 : jx_Go jxP d 136 6 [l0, l1] (.int y :: .int x :: st) h Q ↔ if x = y then jx_Go jxP d 136 9 [l0, l1] st h Q else jx_Go jxP d 136 49 [l0, l1] st h Q := jg_icN rfl rfl
theorem s136_9 : jx_Go jxP d 136 9 [l0, l1] st h Q ↔ jx_Go jxP d 136 10 [l0, l1] (.int (nI 0) :: st) h Q := jg_c rfl
theorem s136_10 : jx_Go jxP d 136 10 [l0, l1] (.int x :: st) h Q ↔ jx_Go jxP d 136 11 [l0, .int x] st h Q := jg_is rfl rfl
theorem s136_11 : jx_Go jxP d 136 11 [l0, .int x] st h Q ↔ jx_Go jxP d 136 12 [l0, .int x] (.int x :: st) h Q := jg_il rfl rfl
theorem s136_12 : jx_Go jxP d 136 12 [l0, l1] st h Q ↔ jx_Go jxP d 136 15 [l0, l1] (.int (nI 1508) :: st) h Q := jg_c rfl
theorem s136_15 : jx_Go jxP d 136 15 [l0, l1] (.int y :: .int x :: st) h Q ↔ if y ≤ x then jx_Go jxP d 136 39 [l0, l1] st h Q else jx_Go jxP d 136 18 [l0, l1] st h Q := jg_icP rfl rfl
theorem s136_18 : jx_Go jxP d 136 18 [.ref a, l1] st h Q ↔ jx_Go jxP d 136 19 [.ref a, l1] (.ref a :: st) h Q := jg_al rfl rfl
theorem s136_19 : jx_Go jxP d 136 19 [l0, l1] (.ref a :: st) h Q ↔ ∃ v, jx_fl h a 12 5 = some v ∧ jx_Go jxP d 136 22 [l0, l1] (v :: st) h Q := jg_gf rfl
theorem s136_22 : jx_Go jxP d 136 22 [l0, .int x] st h Q ↔ jx_Go jxP d 136 23 [l0, .int x] (.int x :: st) h Q := jg_il rfl rfl
theorem s136_23 : jx_Go jxP d 136 23 [.ref a, l1] st h Q ↔ jx_Go jxP d 136 24 [.ref a, l1] (.ref a :: st) h Q := jg_al rfl rfl
theorem s136_24 : jx_Go jxP d 136 24 [l0, l1] (.ref a :: st) h Q ↔ ∃ v, jx_fl h a 12 5 = some v ∧ jx_Go jxP d 136 27 [l0, l1] (v :: st) h Q := jg_gf rfl
theorem s136_27 : jx_Go jxP d 136 27 [l0, .int x] st h Q ↔ jx_Go jxP d 136 28 [l0, .int x] (.int x :: st) h Q := jg_il rfl rfl
theorem s136_28 : jx_Go jxP d 136 28 [l0, l1] st h Q ↔ jx_Go jxP d 136 30 [l0, l1] (.int (nI 52) :: st) h Q := jg_c rfl
theorem s136_30 : jx_Go jxP d 136 30 [l0, l1] (.int y :: .int x :: st) h Q ↔ jx_Go jxP d 136 31 [l0, l1] (.int (x + y) :: st) h Q := jg_b (f := fun x y => x + y) rfl
theorem s136_31 : jx_Go jxP d 136 31 [l0, l1] (.int x :: .ref a :: st) h Q ↔ ∃ q, jx_ai h a = some q ∧ jx_in x q.1 ∧ jx_Go jxP d 136 32 [l0, l1] (.int (q.2 x.toNatClampNeg) :: st) h Q := jg_ia rfl
theorem s136_32 : jx_Go jxP d 136 32 [l0, l1] (.int y :: .int x :: .ref a :: st) h Q ↔ ∃ q, jx_ai h a = some q ∧ jx_in x q.1 ∧ jx_Go jxP d 136 33 [l0, l1] st (jx_wi h a q.1 (upd q.2 x.toNatClampNeg y)) Q := jg_iw rfl
theorem s136_33 : jx_Go jxP d 136 33 [l0, .int x] st h Q ↔ jx_Go jxP d 136 36 [l0, .int (x + (nI 1))] st h Q := jg_inc rfl rfl rfl
theorem s136_36 : jx_Go jxP d 136 36 [l0, l1] st h Q ↔ jx_Go jxP d 136 11 [l0, l1] st h Q := jg_go rfl
theorem s136_39 : jx_Go jxP d 136 39 [.ref a, l1] st h Q ↔ jx_Go jxP d 136 40 [.ref a, l1] (.ref a :: st) h Q := jg_al rfl rfl
theorem s136_40i : jx_Go jxP d 136 40 [l0, l1] (.int x :: st) h Q ↔ jx_Go jxP d 136 41 [l0, l1] (.int x :: .int x :: st) h Q := jg_dI rfl
theorem s136_40r : jx_Go jxP d 136 40 [l0, l1] (.ref a :: st) h Q ↔ jx_Go jxP d 136 41 [l0, l1] (.ref a :: .ref a :: st) h Q := jg_dR rfl
theorem s136_41 : jx_Go jxP d 136 41 [l0, l1] (.ref a :: st) h Q ↔ ∃ v, jx_fl h a 12 4 = some v ∧ jx_Go jxP d 136 44 [l0, l1] (v :: st) h Q := jg_gf rfl
theorem s136_44 : jx_Go jxP d 136 44 [l0, l1] st h Q ↔ jx_Go jxP d 136 45 [l0, l1] (.int (nI 1) :: st) h Q := jg_c rfl
theorem s136_45 : jx_Go jxP d 136 45 [l0, l1] (.int y :: .int x :: st) h Q ↔ jx_Go jxP d 136 46 [l0, l1] (.int (x - y) :: st) h Q := jg_b (f := fun x y => x - y) rfl
theorem s136_46 : jx_Go jxP d 136 46 [l0, l1] (.int x :: .ref a :: st) h Q ↔ ∃ v, jx_fl h a 12 4 = some v ∧ jx_Go jxP d 136 49 [l0, l1] st (jx_uf h a 4 (.int x)) Q := jg_pfI rfl
theorem s136_49 : jx_Go jxP d 136 49 [.ref a, l1] st h Q ↔ jx_Go jxP d 136 50 [.ref a, l1] (.ref a :: st) h Q := jg_al rfl rfl
theorem s136_50 : jx_Go jxP d 136 50 [.ref a, l1] st h Q ↔ jx_Go jxP d 136 51 [.ref a, l1] (.ref a :: st) h Q := jg_al rfl rfl
theorem s136_51 : jx_Go jxP d 136 51 [l0, l1] (.ref a :: st) h Q ↔ ∃ v, jx_fl h a 12 5 = some v ∧ jx_Go jxP d 136 54 [l0, l1] (v :: st) h Q := jg_gf rfl
theorem s136_54 : jx_Go jxP d 136 54 [l0, l1] st h Q ↔ jx_Go jxP d 136 56 [l0, l1] (.int (nI 52) :: st) h Q := jg_c rfl
theorem s136_56 : jx_Go jxP d 136 56 [.ref a, l1] st h Q ↔ jx_Go jxP d 136 57 [.ref a, l1] (.ref a :: st) h Q := jg_al rfl rfl
theorem s136_57 : jx_Go jxP d 136 57 [l0, l1] (.ref a :: st) h Q ↔ ∃ v, jx_fl h a 12 4 = some v ∧ jx_Go jxP d 136 60 [l0, l1] (v :: st) h Q := jg_gf rfl
theorem s136_60 : jx_Go jxP d 136 60 [l0, l1] (.int y :: .int x :: st) h Q ↔ jx_Go jxP d 136 61 [l0, l1] (.int (x * y) :: st) h Q := jg_b (f := fun x y => x * y) rfl
theorem s136_61 : jx_Go jxP (d + 1) 136 61 [l0, l1] (.int x1 :: .ref a0 :: .ref a :: st) h Q ↔ (st.length ≤ 4 ∧ jx_cl h a = some 12 ∧ jx_Go jxP d 134 0 [.ref a, .ref a0, .int x1, jx_u] [] h (fun s1 h1 => jx_Go jxP (d + 1) 136 64 [l0, l1] (s1 ++ st) h1 Q)) := jg_callV (as := [.int x1, .ref a0, .ref a]) rfl rfl rfl rfl rfl
theorem s136_64 : jx_Go jxP d 136 64 [.ref a, l1] st h Q ↔ jx_Go jxP d 136 65 [.ref a, l1] (.ref a :: st) h Q := jg_al rfl rfl
theorem s136_65i : jx_Go jxP d 136 65 [l0, l1] (.int x :: st) h Q ↔ jx_Go jxP d 136 66 [l0, l1] (.int x :: .int x :: st) h Q := jg_dI rfl
theorem s136_65r : jx_Go jxP d 136 65 [l0, l1] (.ref a :: st) h Q ↔ jx_Go jxP d 136 66 [l0, l1] (.ref a :: .ref a :: st) h Q := jg_dR rfl
theorem s136_66 : jx_Go jxP d 136 66 [l0, l1] (.ref a :: st) h Q ↔ ∃ v, jx_fl h a 12 4 = some v ∧ jx_Go jxP d 136 69 [l0, l1] (v :: st) h Q := jg_gf rfl
theorem s136_69 : jx_Go jxP d 136 69 [l0, l1] st h Q ↔ jx_Go jxP d 136 70 [l0, l1] (.int (nI 1) :: st) h Q := jg_c rfl
theorem s136_70 : jx_Go jxP d 136 70 [l0, l1] (.int y :: .int x :: st) h Q ↔ jx_Go jxP d 136 71 [l0, l1] (.int (x + y) :: st) h Q := jg_b (f := fun x y => x + y) rfl
theorem s136_71 : jx_Go jxP d 136 71 [l0, l1] (.int x :: .ref a :: st) h Q ↔ ∃ v, jx_fl h a 12 4 = some v ∧ jx_Go jxP d 136 74 [l0, l1] st (jx_uf h a 4 (.int x)) Q := jg_pfI rfl
theorem s136_74 : jx_Go jxP d 136 74 [l0, l1] [] h Q ↔ Q [] h := jx_rt rfl rfl
-- 137 TalkBenchModel.undo
theorem s137_0 : jx_Go jxP d 137 0 [.ref a] st h Q ↔ jx_Go jxP d 137 1 [.ref a] (.ref a :: st) h Q := jg_al rfl rfl
theorem s137_1 : jx_Go jxP d 137 1 [l0] (.ref a :: st) h Q ↔ ∃ v, jx_fl h a 12 4 = some v ∧ jx_Go jxP d 137 4 [l0] (v :: st) h Q := jg_gf rfl
theorem s137_4 : jx_Go jxP d 137 4 [l0] (.int x :: st) h Q ↔ if x = 0 then jx_Go jxP d 137 7 [l0] st h Q else jx_Go jxP d 137 14 [l0] st h Q := jg_ifN rfl rfl
theorem s137_7 : jx_Go jxP d 137 7 [.ref a] st h Q ↔ jx_Go jxP d 137 8 [.ref a] (.ref a :: st) h Q := jg_al rfl rfl
theorem s137_8 : jx_Go jxP d 137 8 [l0] st h Q ↔ jx_Go jxP d 137 10 [l0] (.int (-6) :: st) h Q := jg_c rfl
theorem s137_10 : jx_Go jxP (d + 1) 137 10 [l0] (.int x0 :: .ref a :: st) h Q ↔ (st.length ≤ 4 ∧ jx_cl h a = some 12 ∧ jx_Go jxP d 130 0 [.ref a, .int x0] [] h (fun s1 h1 => jx_Go jxP (d + 1) 137 13 [l0] (s1 ++ st) h1 Q)) := jg_callV (as := [.int x0, .ref a]) rfl rfl rfl rfl rfl
theorem s137_13 : jx_Go jxP d 137 13 [l0] [.int x] h Q ↔ Q [.int x] h := jx_rt rfl rfl
theorem s137_14 : jx_Go jxP d 137 14 [.ref a] st h Q ↔ jx_Go jxP d 137 15 [.ref a] (.ref a :: st) h Q := jg_al rfl rfl
theorem s137_15i : jx_Go jxP d 137 15 [l0] (.int x :: st) h Q ↔ jx_Go jxP d 137 16 [l0] (.int x :: .int x :: st) h Q := jg_dI rfl
theorem s137_15r : jx_Go jxP d 137 15 [l0] (.ref a :: st) h Q ↔ jx_Go jxP d 137 16 [l0] (.ref a :: .ref a :: st) h Q := jg_dR rfl
theorem s137_16 : jx_Go jxP d 137 16 [l0] (.ref a :: st) h Q ↔ ∃ v, jx_fl h a 12 4 = some v ∧ jx_Go jxP d 137 19 [l0] (v :: st) h Q := jg_gf rfl
theorem s137_19 : jx_Go jxP d 137 19 [l0] st h Q ↔ jx_Go jxP d 137 20 [l0] (.int (nI 1) :: st) h Q := jg_c rfl
theorem s137_20 : jx_Go jxP d 137 20 [l0] (.int y :: .int x :: st) h Q ↔ jx_Go jxP d 137 21 [l0] (.int (x - y) :: st) h Q := jg_b (f := fun x y => x - y) rfl
theorem s137_21 : jx_Go jxP d 137 21 [l0] (.int x :: .ref a :: st) h Q ↔ ∃ v, jx_fl h a 12 4 = some v ∧ jx_Go jxP d 137 24 [l0] st (jx_uf h a 4 (.int x)) Q := jg_pfI rfl
theorem s137_24 : jx_Go jxP d 137 24 [.ref a] st h Q ↔ jx_Go jxP d 137 25 [.ref a] (.ref a :: st) h Q := jg_al rfl rfl
theorem s137_25 : jx_Go jxP d 137 25 [.ref a] st h Q ↔ jx_Go jxP d 137 26 [.ref a] (.ref a :: st) h Q := jg_al rfl rfl
theorem s137_26 : jx_Go jxP d 137 26 [l0] (.ref a :: st) h Q ↔ ∃ v, jx_fl h a 12 5 = some v ∧ jx_Go jxP d 137 29 [l0] (v :: st) h Q := jg_gf rfl
theorem s137_29 : jx_Go jxP d 137 29 [l0] st h Q ↔ jx_Go jxP d 137 31 [l0] (.int (nI 52) :: st) h Q := jg_c rfl
theorem s137_31 : jx_Go jxP d 137 31 [.ref a] st h Q ↔ jx_Go jxP d 137 32 [.ref a] (.ref a :: st) h Q := jg_al rfl rfl
theorem s137_32 : jx_Go jxP d 137 32 [l0] (.ref a :: st) h Q ↔ ∃ v, jx_fl h a 12 4 = some v ∧ jx_Go jxP d 137 35 [l0] (v :: st) h Q := jg_gf rfl
theorem s137_35 : jx_Go jxP d 137 35 [l0] (.int y :: .int x :: st) h Q ↔ jx_Go jxP d 137 36 [l0] (.int (x * y) :: st) h Q := jg_b (f := fun x y => x * y) rfl
theorem s137_36 : jx_Go jxP (d + 1) 137 36 [l0] (.int x1 :: .ref a0 :: .ref a :: st) h Q ↔ (st.length ≤ 4 ∧ jx_cl h a = some 12 ∧ jx_Go jxP d 135 0 [.ref a, .ref a0, .int x1, jx_u] [] h (fun s1 h1 => jx_Go jxP (d + 1) 137 39 [l0] (s1 ++ st) h1 Q)) := jg_callV (as := [.int x1, .ref a0, .ref a]) rfl rfl rfl rfl rfl
theorem s137_39 : jx_Go jxP d 137 39 [.ref a] st h Q ↔ jx_Go jxP d 137 40 [.ref a] (.ref a :: st) h Q := jg_al rfl rfl
theorem s137_40 : jx_Go jxP d 137 40 [l0] (.ref a :: st) h Q ↔ ∃ v, jx_fl h a 12 4 = some v ∧ jx_Go jxP d 137 43 [l0] (v :: st) h Q := jg_gf rfl
theorem s137_43 : jx_Go jxP d 137 43 [l0] [.int x] h Q ↔ Q [.int x] h := jx_rt rfl rfl
-- 138 TalkBenchModel.ones
theorem s138_0 : jx_Go jxP d 138 0 [l0, l1, l2, l3, l4] st h Q ↔ jx_Go jxP d 138 1 [l0, l1, l2, l3, l4] (.int (nI 0) :: st) h Q := jg_c rfl
theorem s138_1 : jx_Go jxP d 138 1 [l0, l1, l2, l3, l4] (.int x :: st) h Q ↔ jx_Go jxP d 138 2 [l0, l1, .int x, l3, l4] st h Q := jg_is rfl rfl
theorem s138_2 : jx_Go jxP d 138 2 [l0, l1, l2, l3, l4] st h Q ↔ jx_Go jxP d 138 3 [l0, l1, l2, l3, l4] (.int (nI 0) :: st) h Q := jg_c rfl
theorem s138_3 : jx_Go jxP d 138 3 [l0, l1, l2, l3, l4] (.int x :: st) h Q ↔ jx_Go jxP d 138 4 [l0, l1, l2, .int x, l4] st h Q := jg_is rfl rfl
theorem s138_4 : jx_Go jxP d 138 4 [l0, l1, l2, .int x, l4] st h Q ↔ jx_Go jxP d 138 5 [l0, l1, l2, .int x, l4] (.int x :: st) h Q := jg_il rfl rfl
theorem s138_5 : jx_Go jxP d 138 5 [.ref a, l1, l2, l3, l4] st h Q ↔ jx_Go jxP d 138 6 [.ref a, l1, l2, l3, l4] (.ref a :: st) h Q := jg_al rfl rfl
theorem s138_6 : jx_Go jxP d 138 6 [l0, l1, l2, l3, l4] (.ref a :: st) h Q ↔ ∃ v, jx_fl h a 12 0 = some v ∧ jx_Go jxP d 138 9 [l0, l1, l2, l3, l4] (v :: st) h Q := jg_gf rfl
theorem s138_9 : jx_Go jxP d 138 9 [l0, l1, l2, l3, l4] (.int y :: .int x :: st) h Q ↔ if y ≤ x then jx_Go jxP d 138 59 [l0, l1, l2, l3, l4] st h Q else jx_Go jxP d 138 12 [l0, l1, l2, l3, l4] st h Q := jg_icP rfl rfl
theorem s138_12 : jx_Go jxP d 138 12 [l0, l1, l2, l3, l4] st h Q ↔ jx_Go jxP d 138 13 [l0, l1, l2, l3, l4] (.int (nI 0) :: st) h Q := jg_c rfl
theorem s138_13 : jx_Go jxP d 138 13 [l0, l1, l2, l3, l4] (.int x :: st) h Q ↔ jx_Go jxP d 138 15 [l0, l1, l2, l3, .int x] st h Q := jg_is rfl rfl
theorem s138_15 : jx_Go jxP d 138 15 [l0, l1, l2, l3, .int x] st h Q ↔ jx_Go jxP d 138 17 [l0, l1, l2, l3, .int x] (.int x :: st) h Q := jg_il rfl rfl
theorem s138_17 : jx_Go jxP d 138 17 [.ref a, l1, l2, l3, l4] st h Q ↔ jx_Go jxP d 138 18 [.ref a, l1, l2, l3, l4] (.ref a :: st) h Q := jg_al rfl rfl
theorem s138_18 : jx_Go jxP d 138 18 [l0, l1, l2, l3, l4] (.ref a :: st) h Q ↔ ∃ v, jx_fl h a 12 1 = some v ∧ jx_Go jxP d 138 21 [l0, l1, l2, l3, l4] (v :: st) h Q := jg_gf rfl
theorem s138_21 : jx_Go jxP d 138 21 [l0, l1, l2, l3, l4] (.int y :: .int x :: st) h Q ↔ if y ≤ x then jx_Go jxP d 138 53 [l0, l1, l2, l3, l4] st h Q else jx_Go jxP d 138 24 [l0, l1, l2, l3, l4] st h Q := jg_icP rfl rfl
theorem s138_24 : jx_Go jxP d 138 24 [l0, l1, .int x, l3, l4] st h Q ↔ jx_Go jxP d 138 25 [l0, l1, .int x, l3, l4] (.int x :: st) h Q := jg_il rfl rfl
theorem s138_25 : jx_Go jxP d 138 25 [.ref a, l1, l2, l3, l4] st h Q ↔ jx_Go jxP d 138 26 [.ref a, l1, l2, l3, l4] (.ref a :: st) h Q := jg_al rfl rfl
theorem s138_26 : jx_Go jxP d 138 26 [l0, l1, l2, l3, l4] (.ref a :: st) h Q ↔ ∃ v, jx_fl h a 12 2 = some v ∧ jx_Go jxP d 138 29 [l0, l1, l2, l3, l4] (v :: st) h Q := jg_gf rfl
theorem s138_29 : jx_Go jxP d 138 29 [l0, l1, l2, l3, l4] st h Q ↔ jx_Go jxP d 138 30 [l0, l1, l2, l3, l4] (.int (nI 5) :: st) h Q := jg_c rfl
theorem s138_30 : jx_Go jxP d 138 30 [l0, l1, l2, .int x, l4] st h Q ↔ jx_Go jxP d 138 31 [l0, l1, l2, .int x, l4] (.int x :: st) h Q := jg_il rfl rfl
theorem s138_31 : jx_Go jxP d 138 31 [l0, l1, l2, l3, l4] (.int y :: .int x :: st) h Q ↔ jx_Go jxP d 138 32 [l0, l1, l2, l3, l4] (.int (x * y) :: st) h Q := jg_b (f := fun x y => x * y) rfl
theorem s138_32 : jx_Go jxP d 138 32 [l0, l1, l2, l3, .int x] st h Q ↔ jx_Go jxP d 138 34 [l0, l1, l2, l3, .int x] (.int x :: st) h Q := jg_il rfl rfl
theorem s138_34 : jx_Go jxP d 138 34 [l0, l1, l2, l3, l4] (.int y :: .int x :: st) h Q ↔ jx_Go jxP d 138 35 [l0, l1, l2, l3, l4] (.int (x + y) :: st) h Q := jg_b (f := fun x y => x + y) rfl
theorem s138_35 : jx_Go jxP d 138 35 [l0, l1, l2, l3, l4] (.int x :: .ref a :: st) h Q ↔ ∃ q, jx_ai h a = some q ∧ jx_in x q.1 ∧ jx_Go jxP d 138 36 [l0, l1, l2, l3, l4] (.int (q.2 x.toNatClampNeg) :: st) h Q := jg_ia rfl
theorem s138_36 : jx_Go jxP d 138 36 [l0, .int x, l2, l3, l4] st h Q ↔ jx_Go jxP d 138 37 [l0, .int x, l2, l3, l4] (.int x :: st) h Q := jg_il rfl rfl
theorem s138_37 : jx_Go jxP d 138 37 [l0, l1, l2, l3, l4] (.int y :: .int x :: st) h Q ↔ if x = y then jx_Go jxP d 138 40 [l0, l1, l2, l3, l4] st h Q else jx_Go jxP d 138 44 [l0, l1, l2, l3, l4] st h Q := jg_icN rfl rfl
theorem s138_40 : jx_Go jxP d 138 40 [l0, l1, l2, l3, l4] st h Q ↔ jx_Go jxP d 138 41 [l0, l1, l2, l3, l4] (.int (nI 1) :: st) h Q := jg_c rfl
theorem s138_41 : jx_Go jxP d 138 41 [l0, l1, l2, l3, l4] st h Q ↔ jx_Go jxP d 138 45 [l0, l1, l2, l3, l4] st h Q := jg_go rfl
theorem s138_44 : jx_Go jxP d 138 44 [l0, l1, l2, l3, l4] st h Q ↔ jx_Go jxP d 138 45 [l0, l1, l2, l3, l4] (.int (nI 0) :: st) h Q := jg_c rfl
theorem s138_45 : jx_Go jxP d 138 45 [l0, l1, l2, l3, l4] (.int y :: .int x :: st) h Q ↔ jx_Go jxP d 138 46 [l0, l1, l2, l3, l4] (.int (x + y) :: st) h Q := jg_b (f := fun x y => x + y) rfl
theorem s138_46 : jx_Go jxP d 138 46 [l0, l1, l2, l3, l4] (.int x :: st) h Q ↔ jx_Go jxP d 138 47 [l0, l1, .int x, l3, l4] st h Q := jg_is rfl rfl
theorem s138_47 : jx_Go jxP d 138 47 [l0, l1, l2, l3, .int x] st h Q ↔ jx_Go jxP d 138 50 [l0, l1, l2, l3, .int (x + (nI 1))] st h Q := jg_inc rfl rfl rfl
theorem s138_50 : jx_Go jxP d 138 50 [l0, l1, l2, l3, l4] st h Q ↔ jx_Go jxP d 138 15 [l0, l1, l2, l3, l4] st h Q := jg_go rfl
theorem s138_53 : jx_Go jxP d 138 53 [l0, l1, l2, .int x, l4] st h Q ↔ jx_Go jxP d 138 56 [l0, l1, l2, .int (x + (nI 1)), l4] st h Q := jg_inc rfl rfl rfl
theorem s138_56 : jx_Go jxP d 138 56 [l0, l1, l2, l3, l4] st h Q ↔ jx_Go jxP d 138 4 [l0, l1, l2, l3, l4] st h Q := jg_go rfl
theorem s138_59 : jx_Go jxP d 138 59 [l0, l1, .int x, l3, l4] st h Q ↔ jx_Go jxP d 138 60 [l0, l1, .int x, l3, l4] (.int x :: st) h Q := jg_il rfl rfl
theorem s138_60 : jx_Go jxP d 138 60 [l0, l1, l2, l3, l4] [.int x] h Q ↔ Q [.int x] h := jx_rt rfl rfl
-- 139 TalkBenchModel.table
theorem s139_0 : jx_Go jxP d 139 0 [l0, .int x, l2, l3, l4] st h Q ↔ jx_Go jxP d 139 1 [l0, .int x, l2, l3, l4] (.int x :: st) h Q := jg_il rfl rfl
theorem s139_1 : jx_Go jxP d 139 1 [l0, l1, l2, l3, l4] st h Q ↔ jx_Go jxP d 139 2 [l0, l1, l2, l3, l4] (.int (nI 1) :: st) h Q := jg_c rfl
theorem s139_2 : jx_Go jxP d 139 2 [l0, l1, l2, l3, l4] (.int y :: .int x :: st) h Q ↔ if x < y then jx_Go jxP d 139 20 [l0, l1, l2, l3, l4] st h Q else jx_Go jxP d 139 5 [l0, l1, l2, l3, l4] st h Q := jg_icP rfl rfl
theorem s139_5 : jx_Go jxP d 139 5 [l0, .int x, l2, l3, l4] st h Q ↔ jx_Go jxP d 139 6 [l0, .int x, l2, l3, l4] (.int x :: st) h Q := jg_il rfl rfl
theorem s139_6 : jx_Go jxP d 139 6 [l0, l1, l2, l3, l4] st h Q ↔ jx_Go jxP d 139 7 [l0, l1, l2, l3, l4] (.int (nI 5) :: st) h Q := jg_c rfl
theorem s139_7 : jx_Go jxP d 139 7 [l0, l1, l2, l3, l4] (.int y :: .int x :: st) h Q ↔ if y < x then jx_Go jxP d 139 20 [l0, l1, l2, l3, l4] st h Q else jx_Go jxP d 139 10 [l0, l1, l2, l3, l4] st h Q := jg_icP rfl rfl
theorem s139_10 : jx_Go jxP d 139 10 [l0, l1, .int x, l3, l4] st h Q ↔ jx_Go jxP d 139 11 [l0, l1, .int x, l3, l4] (.int x :: st) h Q := jg_il rfl rfl
theorem s139_11 : jx_Go jxP d 139 11 [l0, l1, l2, l3, l4] st h Q ↔ jx_Go jxP d 139 12 [l0, l1, l2, l3, l4] (.int (nI 1) :: st) h Q := jg_c rfl
theorem s139_12 : jx_Go jxP d 139 12 [l0, l1, l2, l3, l4] (.int y :: .int x :: st) h Q ↔ if x < y then jx_Go jxP d 139 20 [l0, l1, l2, l3, l4] st h Q else jx_Go jxP d 139 15 [l0, l1, l2, l3, l4] st h Q := jg_icP rfl rfl
theorem s139_15 : jx_Go jxP d 139 15 [l0, l1, .int x, l3, l4] st h Q ↔ jx_Go jxP d 139 16 [l0, l1, .int x, l3, l4] (.int x :: st) h Q := jg_il rfl rfl
theorem s139_16 : jx_Go jxP d 139 16 [l0, l1, l2, l3, l4] st h Q ↔ jx_Go jxP d 139 17 [l0, l1, l2, l3, l4] (.int (nI 5) :: st) h Q := jg_c rfl
theorem s139_17 : jx_Go jxP d 139 17 [l0, l1, l2, l3, l4] (.int y :: .int x :: st) h Q ↔ if x ≤ y then jx_Go jxP d 139 26 [l0, l1, l2, l3, l4] st h Q else jx_Go jxP d 139 20 [l0, l1, l2, l3, l4] st h Q := jg_icP rfl rfl
theorem s139_20 : jx_Go jxP d 139 20 [.ref a, l1, l2, l3, l4] st h Q ↔ jx_Go jxP d 139 21 [.ref a, l1, l2, l3, l4] (.ref a :: st) h Q := jg_al rfl rfl
theorem s139_21 : jx_Go jxP d 139 21 [l0, l1, l2, l3, l4] st h Q ↔ jx_Go jxP d 139 22 [l0, l1, l2, l3, l4] (.int (-1) :: st) h Q := jg_c rfl
theorem s139_22 : jx_Go jxP (d + 1) 139 22 [l0, l1, l2, l3, l4] (.int x0 :: .ref a :: st) h Q ↔ (st.length ≤ 4 ∧ jx_cl h a = some 12 ∧ jx_Go jxP d 130 0 [.ref a, .int x0] [] h (fun s1 h1 => jx_Go jxP (d + 1) 139 25 [l0, l1, l2, l3, l4] (s1 ++ st) h1 Q)) := jg_callV (as := [.int x0, .ref a]) rfl rfl rfl rfl rfl
theorem s139_25 : jx_Go jxP d 139 25 [l0, l1, l2, l3, l4] [.int x] h Q ↔ Q [.int x] h := jx_rt rfl rfl
theorem s139_26 : jx_Go jxP d 139 26 [.ref a, l1, l2, l3, l4] st h Q ↔ jx_Go jxP d 139 27 [.ref a, l1, l2, l3, l4] (.ref a :: st) h Q := jg_al rfl rfl
theorem s139_27 : jx_Go jxP (d + 1) 139 27 [l0, l1, l2, l3, l4] (.ref a :: st) h Q ↔ (st.length ≤ 4 ∧ jx_cl h a = some 12 ∧ jx_Go jxP d 136 0 [.ref a, jx_u] [] h (fun s1 h1 => jx_Go jxP (d + 1) 139 30 [l0, l1, l2, l3, l4] (s1 ++ st) h1 Q)) := jg_callV (as := [.ref a]) rfl rfl rfl rfl rfl
theorem s139_30 : jx_Go jxP d 139 30 [.ref a, l1, l2, l3, l4] st h Q ↔ jx_Go jxP d 139 31 [.ref a, l1, l2, l3, l4] (.ref a :: st) h Q := jg_al rfl rfl
theorem s139_31 : jx_Go jxP d 139 31 [l0, l1, l2, l3, l4] (.ref a :: st) h Q ↔ ∃ v, jx_fl h a 12 0 = some v ∧ jx_Go jxP d 139 34 [l0, l1, l2, l3, l4] (v :: st) h Q := jg_gf rfl
theorem s139_34 : jx_Go jxP d 139 34 [.ref a, l1, l2, l3, l4] st h Q ↔ jx_Go jxP d 139 35 [.ref a, l1, l2, l3, l4] (.ref a :: st) h Q := jg_al rfl rfl
theorem s139_35 : jx_Go jxP d 139 35 [l0, l1, l2, l3, l4] (.ref a :: st) h Q ↔ ∃ v, jx_fl h a 12 1 = some v ∧ jx_Go jxP d 139 38 [l0, l1, l2, l3, l4] (v :: st) h Q := jg_gf rfl
theorem s139_38 : jx_Go jxP d 139 38 [l0, l1, l2, l3, l4] (.int y :: .int x :: st) h Q ↔ jx_Go jxP d 139 39 [l0, l1, l2, l3, l4] (.int (x * y) :: st) h Q := jg_b (f := fun x y => x * y) rfl
theorem s139_39 : jx_Go jxP d 139 39 [l0, l1, l2, l3, l4] (.int x :: st) h Q ↔ jx_Go jxP d 139 40 [l0, l1, l2, .int x, l4] st h Q := jg_is rfl rfl
theorem s139_40 : jx_Go jxP d 139 40 [.ref a, l1, l2, l3, l4] st h Q ↔ jx_Go jxP d 139 41 [.ref a, l1, l2, l3, l4] (.ref a :: st) h Q := jg_al rfl rfl
theorem s139_41 : jx_Go jxP d 139 41 [l0, .int x, l2, l3, l4] st h Q ↔ jx_Go jxP d 139 42 [l0, .int x, l2, l3, l4] (.int x :: st) h Q := jg_il rfl rfl
theorem s139_42 : jx_Go jxP d 139 42 [l0, l1, l2, l3, l4] (.int x :: .ref a :: st) h Q ↔ ∃ v, jx_fl h a 12 0 = some v ∧ jx_Go jxP d 139 45 [l0, l1, l2, l3, l4] st (jx_uf h a 0 (.int x)) Q := jg_pfI rfl
theorem s139_45 : jx_Go jxP d 139 45 [.ref a, l1, l2, l3, l4] st h Q ↔ jx_Go jxP d 139 46 [.ref a, l1, l2, l3, l4] (.ref a :: st) h Q := jg_al rfl rfl
theorem s139_46 : jx_Go jxP d 139 46 [l0, l1, .int x, l3, l4] st h Q ↔ jx_Go jxP d 139 47 [l0, l1, .int x, l3, l4] (.int x :: st) h Q := jg_il rfl rfl
theorem s139_47 : jx_Go jxP d 139 47 [l0, l1, l2, l3, l4] (.int x :: .ref a :: st) h Q ↔ ∃ v, jx_fl h a 12 1 = some v ∧ jx_Go jxP d 139 50 [l0, l1, l2, l3, l4] st (jx_uf h a 1 (.int x)) Q := jg_pfI rfl
theorem s139_50 : jx_Go jxP d 139 50 [l0, l1, l2, l3, l4] st h Q ↔ jx_Go jxP d 139 51 [l0, l1, l2, l3, l4] (.int (nI 0) :: st) h Q := jg_c rfl
theorem s139_51 : jx_Go jxP d 139 51 [l0, l1, l2, l3, l4] (.int x :: st) h Q ↔ jx_Go jxP d 139 53 [l0, l1, l2, l3, .int x] st h Q := jg_is rfl rfl
theorem s139_53 : jx_Go jxP d 139 53 [l0, l1, l2, l3, .int x] st h Q ↔ jx_Go jxP d 139 55 [l0, l1, l2, l3, .int x] (.int x :: st) h Q := jg_il rfl rfl
theorem s139_55 : jx_Go jxP d 139 55 [l0, l1, l2, l3, l4] st h Q ↔ jx_Go jxP d 139 57 [l0, l1, l2, l3, l4] (.int (nI 25) :: st) h Q := jg_c rfl
theorem s139_57 : jx_Go jxP d 139 57 [l0, l1, l2, l3, l4] (.int y :: .int x :: st) h Q ↔ if y ≤ x then jx_Go jxP d 139 82 [l0, l1, l2, l3, l4] st h Q else jx_Go jxP d 139 60 [l0, l1, l2, l3, l4] st h Q := jg_icP rfl rfl
theorem s139_60 : jx_Go jxP d 139 60 [.ref a, l1, l2, l3, l4] st h Q ↔ jx_Go jxP d 139 61 [.ref a, l1, l2, l3, l4] (.ref a :: st) h Q := jg_al rfl rfl
theorem s139_61 : jx_Go jxP d 139 61 [l0, l1, l2, l3, l4] (.ref a :: st) h Q ↔ ∃ v, jx_fl h a 12 2 = some v ∧ jx_Go jxP d 139 64 [l0, l1, l2, l3, l4] (v :: st) h Q := jg_gf rfl
theorem s139_64 : jx_Go jxP d 139 64 [l0, l1, l2, l3, .int x] st h Q ↔ jx_Go jxP d 139 66 [l0, l1, l2, l3, .int x] (.int x :: st) h Q := jg_il rfl rfl
theorem s139_66 : jx_Go jxP d 139 66 [l0, l1, l2, l3, l4] st h Q ↔ jx_Go jxP d 139 67 [l0, l1, l2, l3, l4] (.int (nI 0) :: st) h Q := jg_c rfl
theorem s139_67 : jx_Go jxP d 139 67 [l0, l1, l2, l3, l4] (.int y :: .int x :: .ref a :: st) h Q ↔ ∃ q, jx_ai h a = some q ∧ jx_in x q.1 ∧ jx_Go jxP d 139 68 [l0, l1, l2, l3, l4] st (jx_wi h a q.1 (upd q.2 x.toNatClampNeg y)) Q := jg_iw rfl
theorem s139_68 : jx_Go jxP d 139 68 [.ref a, l1, l2, l3, l4] st h Q ↔ jx_Go jxP d 139 69 [.ref a, l1, l2, l3, l4] (.ref a :: st) h Q := jg_al rfl rfl
theorem s139_69 : jx_Go jxP d 139 69 [l0, l1, l2, l3, l4] (.ref a :: st) h Q ↔ ∃ v, jx_fl h a 12 3 = some v ∧ jx_Go jxP d 139 72 [l0, l1, l2, l3, l4] (v :: st) h Q := jg_gf rfl
theorem s139_72 : jx_Go jxP d 139 72 [l0, l1, l2, l3, .int x] st h Q ↔ jx_Go jxP d 139 74 [l0, l1, l2, l3, .int x] (.int x :: st) h Q := jg_il rfl rfl
theorem s139_74 : jx_Go jxP d 139 74 [l0, l1, l2, l3, l4] st h Q ↔ jx_Go jxP d 139 75 [l0, l1, l2, l3, l4] (.int (nI 1) :: st) h Q := jg_c rfl
theorem s139_75 : jx_Go jxP d 139 75 [l0, l1, l2, l3, l4] (.int y :: .int x :: .ref a :: st) h Q ↔ ∃ q, jx_ai h a = some q ∧ jx_in x q.1 ∧ jx_Go jxP d 139 76 [l0, l1, l2, l3, l4] st (jx_wi h a q.1 (upd q.2 x.toNatClampNeg y)) Q := jg_iw rfl
theorem s139_76 : jx_Go jxP d 139 76 [l0, l1, l2, l3, .int x] st h Q ↔ jx_Go jxP d 139 79 [l0, l1, l2, l3, .int (x + (nI 1))] st h Q := jg_inc rfl rfl rfl
theorem s139_79 : jx_Go jxP d 139 79 [l0, l1, l2, l3, l4] st h Q ↔ jx_Go jxP d 139 53 [l0, l1, l2, l3, l4] st h Q := jg_go rfl
theorem s139_82 : jx_Go jxP d 139 82 [.ref a, l1, l2, l3, l4] st h Q ↔ jx_Go jxP d 139 83 [.ref a, l1, l2, l3, l4] (.ref a :: st) h Q := jg_al rfl rfl
theorem s139_83 : jx_Go jxP d 139 83 [l0, l1, l2, l3, l4] st h Q ↔ jx_Go jxP d 139 84 [l0, l1, l2, l3, l4] (.int (nI 0) :: st) h Q := jg_c rfl
theorem s139_84 : jx_Go jxP d 139 84 [l0, l1, l2, l3, l4] (.int x :: .ref a :: st) h Q ↔ ∃ v, jx_fl h a 12 14 = some v ∧ jx_Go jxP d 139 87 [l0, l1, l2, l3, l4] st (jx_uf h a 14 (.int x)) Q := jg_pfI rfl
theorem s139_87 : jx_Go jxP d 139 87 [l0, l1, l2, .int x, l4] st h Q ↔ jx_Go jxP d 139 88 [l0, l1, l2, .int x, l4] (.int x :: st) h Q := jg_il rfl rfl
theorem s139_88 : jx_Go jxP d 139 88 [l0, l1, l2, l3, l4] [.int x] h Q ↔ Q [.int x] h := jx_rt rfl rfl
-- 140 TalkBenchModel.put
theorem s140_0 : jx_Go jxP d 140 0 [.ref a, l1, l2, l3, l4] st h Q ↔ jx_Go jxP d 140 1 [.ref a, l1, l2, l3, l4] (.ref a :: st) h Q := jg_al rfl rfl
theorem s140_1 : jx_Go jxP d 140 1 [l0, .int x, l2, l3, l4] st h Q ↔ jx_Go jxP d 140 2 [l0, .int x, l2, l3, l4] (.int x :: st) h Q := jg_il rfl rfl
theorem s140_2 : jx_Go jxP d 140 2 [l0, l1, .int x, l3, l4] st h Q ↔ jx_Go jxP d 140 3 [l0, l1, .int x, l3, l4] (.int x :: st) h Q := jg_il rfl rfl
theorem s140_3 : jx_Go jxP (d + 1) 140 3 [l0, l1, l2, l3, l4] (.int x1 :: .int x0 :: .ref a :: st) h Q ↔ (st.length ≤ 4 ∧ jx_cl h a = some 12 ∧ jx_Go jxP d 131 0 [.ref a, .int x0, .int x1] [] h (fun s1 h1 => jx_Go jxP (d + 1) 140 6 [l0, l1, l2, l3, l4] (s1 ++ st) h1 Q)) := jg_callV (as := [.int x1, .int x0, .ref a]) rfl rfl rfl rfl rfl
theorem s140_6 : jx_Go jxP d 140 6 [l0, l1, l2, l3, l4] (.int x :: st) h Q ↔ if x = 0 then jx_Go jxP d 140 18 [l0, l1, l2, l3, l4] st h Q else jx_Go jxP d 140 9 [l0, l1, l2, l3, l4] st h Q := jg_ifP rfl rfl
theorem s140_9 : jx_Go jxP d 140 9 [l0, l1, l2, .int x, l4] st h Q ↔ jx_Go jxP d 140 10 [l0, l1, l2, .int x, l4] (.int x :: st) h Q := jg_il rfl rfl
theorem s140_10 : jx_Go jxP d 140 10 [l0, l1, l2, l3, l4] (.int x :: st) h Q ↔ if x < 0 then jx_Go jxP d 140 18 [l0, l1, l2, l3, l4] st h Q else jx_Go jxP d 140 13 [l0, l1, l2, l3, l4] st h Q := jg_ifP rfl rfl
theorem s140_13 : jx_Go jxP d 140 13 [l0, l1, l2, .int x, l4] st h Q ↔ jx_Go jxP d 140 14 [l0, l1, l2, .int x, l4] (.int x :: st) h Q := jg_il rfl rfl
theorem s140_14 : jx_Go jxP d 140 14 [l0, l1, l2, l3, l4] st h Q ↔ jx_Go jxP d 140 15 [l0, l1, l2, l3, l4] (.int (nI 2) :: st) h Q := jg_c rfl
theorem s140_15 : jx_Go jxP d 140 15 [l0, l1, l2, l3, l4] (.int y :: .int x :: st) h Q ↔ if x ≤ y then jx_Go jxP d 140 24 [l0, l1, l2, l3, l4] st h Q else jx_Go jxP d 140 18 [l0, l1, l2, l3, l4] st h Q := jg_icP rfl rfl
theorem s140_18 : jx_Go jxP d 140 18 [.ref a, l1, l2, l3, l4] st h Q ↔ jx_Go jxP d 140 19 [.ref a, l1, l2, l3, l4] (.ref a :: st) h Q := jg_al rfl rfl
theorem s140_19 : jx_Go jxP d 140 19 [l0, l1, l2, l3, l4] st h Q ↔ jx_Go jxP d 140 20 [l0, l1, l2, l3, l4] (.int (-1) :: st) h Q := jg_c rfl
theorem s140_20 : jx_Go jxP (d + 1) 140 20 [l0, l1, l2, l3, l4] (.int x0 :: .ref a :: st) h Q ↔ (st.length ≤ 4 ∧ jx_cl h a = some 12 ∧ jx_Go jxP d 130 0 [.ref a, .int x0] [] h (fun s1 h1 => jx_Go jxP (d + 1) 140 23 [l0, l1, l2, l3, l4] (s1 ++ st) h1 Q)) := jg_callV (as := [.int x0, .ref a]) rfl rfl rfl rfl rfl
theorem s140_23 : jx_Go jxP d 140 23 [l0, l1, l2, l3, l4] [.int x] h Q ↔ Q [.int x] h := jx_rt rfl rfl
theorem s140_24 : jx_Go jxP d 140 24 [.ref a, l1, l2, l3, l4] st h Q ↔ jx_Go jxP d 140 25 [.ref a, l1, l2, l3, l4] (.ref a :: st) h Q := jg_al rfl rfl
theorem s140_25 : jx_Go jxP (d + 1) 140 25 [l0, l1, l2, l3, l4] (.ref a :: st) h Q ↔ (st.length ≤ 4 ∧ jx_cl h a = some 12 ∧ jx_Go jxP d 136 0 [.ref a, jx_u] [] h (fun s1 h1 => jx_Go jxP (d + 1) 140 28 [l0, l1, l2, l3, l4] (s1 ++ st) h1 Q)) := jg_callV (as := [.ref a]) rfl rfl rfl rfl rfl
theorem s140_28 : jx_Go jxP d 140 28 [.ref a, l1, l2, l3, l4] st h Q ↔ jx_Go jxP d 140 29 [.ref a, l1, l2, l3, l4] (.ref a :: st) h Q := jg_al rfl rfl
theorem s140_29 : jx_Go jxP d 140 29 [l0, l1, l2, l3, l4] (.ref a :: st) h Q ↔ ∃ v, jx_fl h a 12 2 = some v ∧ jx_Go jxP d 140 32 [l0, l1, l2, l3, l4] (v :: st) h Q := jg_gf rfl
theorem s140_32 : jx_Go jxP d 140 32 [l0, l1, l2, l3, l4] st h Q ↔ jx_Go jxP d 140 33 [l0, l1, l2, l3, l4] (.int (nI 5) :: st) h Q := jg_c rfl
theorem s140_33 : jx_Go jxP d 140 33 [l0, .int x, l2, l3, l4] st h Q ↔ jx_Go jxP d 140 34 [l0, .int x, l2, l3, l4] (.int x :: st) h Q := jg_il rfl rfl
theorem s140_34 : jx_Go jxP d 140 34 [l0, l1, l2, l3, l4] (.int y :: .int x :: st) h Q ↔ jx_Go jxP d 140 35 [l0, l1, l2, l3, l4] (.int (x * y) :: st) h Q := jg_b (f := fun x y => x * y) rfl
theorem s140_35 : jx_Go jxP d 140 35 [l0, l1, .int x, l3, l4] st h Q ↔ jx_Go jxP d 140 36 [l0, l1, .int x, l3, l4] (.int x :: st) h Q := jg_il rfl rfl
theorem s140_36 : jx_Go jxP d 140 36 [l0, l1, l2, l3, l4] (.int y :: .int x :: st) h Q ↔ jx_Go jxP d 140 37 [l0, l1, l2, l3, l4] (.int (x + y) :: st) h Q := jg_b (f := fun x y => x + y) rfl
theorem s140_37 : jx_Go jxP d 140 37 [l0, l1, l2, l3, l4] (.int x :: .ref a :: st) h Q ↔ ∃ q, jx_ai h a = some q ∧ jx_in x q.1 ∧ jx_Go jxP d 140 38 [l0, l1, l2, l3, l4] (.int (q.2 x.toNatClampNeg) :: st) h Q := jg_ia rfl
theorem s140_38 : jx_Go jxP d 140 38 [l0, l1, l2, l3, l4] (.int x :: st) h Q ↔ jx_Go jxP d 140 40 [l0, l1, l2, l3, .int x] st h Q := jg_is rfl rfl
theorem s140_40 : jx_Go jxP d 140 40 [.ref a, l1, l2, l3, l4] st h Q ↔ jx_Go jxP d 140 41 [.ref a, l1, l2, l3, l4] (.ref a :: st) h Q := jg_al rfl rfl
theorem s140_41 : jx_Go jxP d 140 41 [l0, l1, l2, l3, l4] (.ref a :: st) h Q ↔ ∃ v, jx_fl h a 12 2 = some v ∧ jx_Go jxP d 140 44 [l0, l1, l2, l3, l4] (v :: st) h Q := jg_gf rfl
theorem s140_44 : jx_Go jxP d 140 44 [l0, l1, l2, l3, l4] st h Q ↔ jx_Go jxP d 140 45 [l0, l1, l2, l3, l4] (.int (nI 5) :: st) h Q := jg_c rfl
theorem s140_45 : jx_Go jxP d 140 45 [l0, .int x, l2, l3, l4] st h Q ↔ jx_Go jxP d 140 46 [l0, .int x, l2, l3, l4] (.int x :: st) h Q := jg_il rfl rfl
theorem s140_46 : jx_Go jxP d 140 46 [l0, l1, l2, l3, l4] (.int y :: .int x :: st) h Q ↔ jx_Go jxP d 140 47 [l0, l1, l2, l3, l4] (.int (x * y) :: st) h Q := jg_b (f := fun x y => x * y) rfl
theorem s140_47 : jx_Go jxP d 140 47 [l0, l1, .int x, l3, l4] st h Q ↔ jx_Go jxP d 140 48 [l0, l1, .int x, l3, l4] (.int x :: st) h Q := jg_il rfl rfl
theorem s140_48 : jx_Go jxP d 140 48 [l0, l1, l2, l3, l4] (.int y :: .int x :: st) h Q ↔ jx_Go jxP d 140 49 [l0, l1, l2, l3, l4] (.int (x + y) :: st) h Q := jg_b (f := fun x y => x + y) rfl
theorem s140_49 : jx_Go jxP d 140 49 [l0, l1, l2, .int x, l4] st h Q ↔ jx_Go jxP d 140 50 [l0, l1, l2, .int x, l4] (.int x :: st) h Q := jg_il rfl rfl
theorem s140_50 : jx_Go jxP d 140 50 [l0, l1, l2, l3, l4] (.int y :: .int x :: .ref a :: st) h Q ↔ ∃ q, jx_ai h a = some q ∧ jx_in x q.1 ∧ jx_Go jxP d 140 51 [l0, l1, l2, l3, l4] st (jx_wi h a q.1 (upd q.2 x.toNatClampNeg y)) Q := jg_iw rfl
theorem s140_51 : jx_Go jxP d 140 51 [.ref a, l1, l2, l3, l4] st h Q ↔ jx_Go jxP d 140 52 [.ref a, l1, l2, l3, l4] (.ref a :: st) h Q := jg_al rfl rfl
theorem s140_52 : jx_Go jxP d 140 52 [l0, l1, l2, l3, l4] st h Q ↔ jx_Go jxP d 140 53 [l0, l1, l2, l3, l4] (.int (nI 0) :: st) h Q := jg_c rfl
theorem s140_53 : jx_Go jxP d 140 53 [l0, l1, l2, l3, l4] (.int x :: .ref a :: st) h Q ↔ ∃ v, jx_fl h a 12 14 = some v ∧ jx_Go jxP d 140 56 [l0, l1, l2, l3, l4] st (jx_uf h a 14 (.int x)) Q := jg_pfI rfl
theorem s140_56 : jx_Go jxP d 140 56 [l0, l1, l2, l3, .int x] st h Q ↔ jx_Go jxP d 140 58 [l0, l1, l2, l3, .int x] (.int x :: st) h Q := jg_il rfl rfl
theorem s140_58 : jx_Go jxP d 140 58 [l0, l1, l2, l3, l4] [.int x] h Q ↔ Q [.int x] h := jx_rt rfl rfl
-- 141 TalkBenchModel.place
theorem s141_0 : jx_Go jxP d 141 0 [.ref a, l1, l2] st h Q ↔ jx_Go jxP d 141 1 [.ref a, l1, l2] (.ref a :: st) h Q := jg_al rfl rfl
theorem s141_1 : jx_Go jxP d 141 1 [l0, .int x, l2] st h Q ↔ jx_Go jxP d 141 2 [l0, .int x, l2] (.int x :: st) h Q := jg_il rfl rfl
theorem s141_2 : jx_Go jxP d 141 2 [l0, l1, .int x] st h Q ↔ jx_Go jxP d 141 3 [l0, l1, .int x] (.int x :: st) h Q := jg_il rfl rfl
theorem s141_3 : jx_Go jxP (d + 1) 141 3 [l0, l1, l2] (.int x1 :: .int x0 :: .ref a :: st) h Q ↔ (st.length ≤ 4 ∧ jx_cl h a = some 12 ∧ jx_Go jxP d 131 0 [.ref a, .int x0, .int x1] [] h (fun s1 h1 => jx_Go jxP (d + 1) 141 6 [l0, l1, l2] (s1 ++ st) h1 Q)) := jg_callV (as := [.int x1, .int x0, .ref a]) rfl rfl rfl rfl rfl
theorem s141_6 : jx_Go jxP d 141 6 [l0, l1, l2] (.int x :: st) h Q ↔ if x = 0 then jx_Go jxP d 141 22 [l0, l1, l2] st h Q else jx_Go jxP d 141 9 [l0, l1, l2] st h Q := jg_ifP rfl rfl
theorem s141_9 : jx_Go jxP d 141 9 [.ref a, l1, l2] st h Q ↔ jx_Go jxP d 141 10 [.ref a, l1, l2] (.ref a :: st) h Q := jg_al rfl rfl
theorem s141_10 : jx_Go jxP d 141 10 [l0, l1, l2] (.ref a :: st) h Q ↔ ∃ v, jx_fl h a 12 2 = some v ∧ jx_Go jxP d 141 13 [l0, l1, l2] (v :: st) h Q := jg_gf rfl
theorem s141_13 : jx_Go jxP d 141 13 [l0, l1, l2] st h Q ↔ jx_Go jxP d 141 14 [l0, l1, l2] (.int (nI 5) :: st) h Q := jg_c rfl
theorem s141_14 : jx_Go jxP d 141 14 [l0, .int x, l2] st h Q ↔ jx_Go jxP d 141 15 [l0, .int x, l2] (.int x :: st) h Q := jg_il rfl rfl
theorem s141_15 : jx_Go jxP d 141 15 [l0, l1, l2] (.int y :: .int x :: st) h Q ↔ jx_Go jxP d 141 16 [l0, l1, l2] (.int (x * y) :: st) h Q := jg_b (f := fun x y => x * y) rfl
theorem s141_16 : jx_Go jxP d 141 16 [l0, l1, .int x] st h Q ↔ jx_Go jxP d 141 17 [l0, l1, .int x] (.int x :: st) h Q := jg_il rfl rfl
theorem s141_17 : jx_Go jxP d 141 17 [l0, l1, l2] (.int y :: .int x :: st) h Q ↔ jx_Go jxP d 141 18 [l0, l1, l2] (.int (x + y) :: st) h Q := jg_b (f := fun x y => x + y) rfl
theorem s141_18 : jx_Go jxP d 141 18 [l0, l1, l2] (.int x :: .ref a :: st) h Q ↔ ∃ q, jx_ai h a = some q ∧ jx_in x q.1 ∧ jx_Go jxP d 141 19 [l0, l1, l2] (.int (q.2 x.toNatClampNeg) :: st) h Q := jg_ia rfl
theorem s141_19 : jx_Go jxP d 141 19 [l0, l1, l2] st h Q ↔ jx_Go jxP d 141 27 [l0, l1, l2] st h Q := jg_go rfl
theorem s141_22 : jx_Go jxP d 141 22 [.ref a, l1, l2] st h Q ↔ jx_Go jxP d 141 23 [.ref a, l1, l2] (.ref a :: st) h Q := jg_al rfl rfl
theorem s141_23 : jx_Go jxP d 141 23 [l0, l1, l2] st h Q ↔ jx_Go jxP d 141 24 [l0, l1, l2] (.int (-1) :: st) h Q := jg_c rfl
theorem s141_24 : jx_Go jxP (d + 1) 141 24 [l0, l1, l2] (.int x0 :: .ref a :: st) h Q ↔ (st.length ≤ 4 ∧ jx_cl h a = some 12 ∧ jx_Go jxP d 130 0 [.ref a, .int x0] [] h (fun s1 h1 => jx_Go jxP (d + 1) 141 27 [l0, l1, l2] (s1 ++ st) h1 Q)) := jg_callV (as := [.int x0, .ref a]) rfl rfl rfl rfl rfl
theorem s141_27 : jx_Go jxP d 141 27 [l0, l1, l2] [.int x] h Q ↔ Q [.int x] h := jx_rt rfl rfl
-- 142 TalkBenchModel.weigh
theorem s142_0 : jx_Go jxP d 142 0 [.ref a, l1, l2, l3, l4] st h Q ↔ jx_Go jxP d 142 1 [.ref a, l1, l2, l3, l4] (.ref a :: st) h Q := jg_al rfl rfl
theorem s142_1 : jx_Go jxP d 142 1 [l0, .int x, l2, l3, l4] st h Q ↔ jx_Go jxP d 142 2 [l0, .int x, l2, l3, l4] (.int x :: st) h Q := jg_il rfl rfl
theorem s142_2 : jx_Go jxP d 142 2 [l0, l1, .int x, l3, l4] st h Q ↔ jx_Go jxP d 142 3 [l0, l1, .int x, l3, l4] (.int x :: st) h Q := jg_il rfl rfl
theorem s142_3 : jx_Go jxP (d + 1) 142 3 [l0, l1, l2, l3, l4] (.int x1 :: .int x0 :: .ref a :: st) h Q ↔ (st.length ≤ 4 ∧ jx_cl h a = some 12 ∧ jx_Go jxP d 131 0 [.ref a, .int x0, .int x1] [] h (fun s1 h1 => jx_Go jxP (d + 1) 142 6 [l0, l1, l2, l3, l4] (s1 ++ st) h1 Q)) := jg_callV (as := [.int x1, .int x0, .ref a]) rfl rfl rfl rfl rfl
theorem s142_6 : jx_Go jxP d 142 6 [l0, l1, l2, l3, l4] (.int x :: st) h Q ↔ if x = 0 then jx_Go jxP d 142 19 [l0, l1, l2, l3, l4] st h Q else jx_Go jxP d 142 9 [l0, l1, l2, l3, l4] st h Q := jg_ifP rfl rfl
theorem s142_9 : jx_Go jxP d 142 9 [l0, l1, l2, .int x, l4] st h Q ↔ jx_Go jxP d 142 10 [l0, l1, l2, .int x, l4] (.int x :: st) h Q := jg_il rfl rfl
theorem s142_10 : jx_Go jxP d 142 10 [l0, l1, l2, l3, l4] (.int x :: st) h Q ↔ if x < 0 then jx_Go jxP d 142 19 [l0, l1, l2, l3, l4] st h Q else jx_Go jxP d 142 13 [l0, l1, l2, l3, l4] st h Q := jg_ifP rfl rfl
theorem s142_13 : jx_Go jxP d 142 13 [l0, l1, l2, .int x, l4] st h Q ↔ jx_Go jxP d 142 14 [l0, l1, l2, .int x, l4] (.int x :: st) h Q := jg_il rfl rfl
theorem s142_14 : jx_Go jxP d 142 14 [l0, l1, l2, l3, l4] st h Q ↔ jx_Go jxP d 142 16 [l0, l1, l2, l3, l4] (.int (nI 9) :: st) h Q := jg_c rfl
theorem s142_16 : jx_Go jxP d 142 16 [l0, l1, l2, l3, l4] (.int y :: .int x :: st) h Q ↔ if x ≤ y then jx_Go jxP d 142 25 [l0, l1, l2, l3, l4] st h Q else jx_Go jxP d 142 19 [l0, l1, l2, l3, l4] st h Q := jg_icP rfl rfl
theorem s142_19 : jx_Go jxP d 142 19 [.ref a, l1, l2, l3, l4] st h Q ↔ jx_Go jxP d 142 20 [.ref a, l1, l2, l3, l4] (.ref a :: st) h Q := jg_al rfl rfl
theorem s142_20 : jx_Go jxP d 142 20 [l0, l1, l2, l3, l4] st h Q ↔ jx_Go jxP d 142 21 [l0, l1, l2, l3, l4] (.int (-1) :: st) h Q := jg_c rfl
theorem s142_21 : jx_Go jxP (d + 1) 142 21 [l0, l1, l2, l3, l4] (.int x0 :: .ref a :: st) h Q ↔ (st.length ≤ 4 ∧ jx_cl h a = some 12 ∧ jx_Go jxP d 130 0 [.ref a, .int x0] [] h (fun s1 h1 => jx_Go jxP (d + 1) 142 24 [l0, l1, l2, l3, l4] (s1 ++ st) h1 Q)) := jg_callV (as := [.int x0, .ref a]) rfl rfl rfl rfl rfl
theorem s142_24 : jx_Go jxP d 142 24 [l0, l1, l2, l3, l4] [.int x] h Q ↔ Q [.int x] h := jx_rt rfl rfl
theorem s142_25 : jx_Go jxP d 142 25 [.ref a, l1, l2, l3, l4] st h Q ↔ jx_Go jxP d 142 26 [.ref a, l1, l2, l3, l4] (.ref a :: st) h Q := jg_al rfl rfl
theorem s142_26 : jx_Go jxP (d + 1) 142 26 [l0, l1, l2, l3, l4] (.ref a :: st) h Q ↔ (st.length ≤ 4 ∧ jx_cl h a = some 12 ∧ jx_Go jxP d 136 0 [.ref a, jx_u] [] h (fun s1 h1 => jx_Go jxP (d + 1) 142 29 [l0, l1, l2, l3, l4] (s1 ++ st) h1 Q)) := jg_callV (as := [.ref a]) rfl rfl rfl rfl rfl
theorem s142_29 : jx_Go jxP d 142 29 [.ref a, l1, l2, l3, l4] st h Q ↔ jx_Go jxP d 142 30 [.ref a, l1, l2, l3, l4] (.ref a :: st) h Q := jg_al rfl rfl
theorem s142_30 : jx_Go jxP d 142 30 [l0, l1, l2, l3, l4] (.ref a :: st) h Q ↔ ∃ v, jx_fl h a 12 3 = some v ∧ jx_Go jxP d 142 33 [l0, l1, l2, l3, l4] (v :: st) h Q := jg_gf rfl
theorem s142_33 : jx_Go jxP d 142 33 [l0, l1, l2, l3, l4] st h Q ↔ jx_Go jxP d 142 34 [l0, l1, l2, l3, l4] (.int (nI 5) :: st) h Q := jg_c rfl
theorem s142_34 : jx_Go jxP d 142 34 [l0, .int x, l2, l3, l4] st h Q ↔ jx_Go jxP d 142 35 [l0, .int x, l2, l3, l4] (.int x :: st) h Q := jg_il rfl rfl
theorem s142_35 : jx_Go jxP d 142 35 [l0, l1, l2, l3, l4] (.int y :: .int x :: st) h Q ↔ jx_Go jxP d 142 36 [l0, l1, l2, l3, l4] (.int (x * y) :: st) h Q := jg_b (f := fun x y => x * y) rfl
theorem s142_36 : jx_Go jxP d 142 36 [l0, l1, .int x, l3, l4] st h Q ↔ jx_Go jxP d 142 37 [l0, l1, .int x, l3, l4] (.int x :: st) h Q := jg_il rfl rfl
theorem s142_37 : jx_Go jxP d 142 37 [l0, l1, l2, l3, l4] (.int y :: .int x :: st) h Q ↔ jx_Go jxP d 142 38 [l0, l1, l2, l3, l4] (.int (x + y) :: st) h Q := jg_b (f := fun x y => x + y) rfl
theorem s142_38 : jx_Go jxP d 142 38 [l0, l1, l2, l3, l4] (.int x :: .ref a :: st) h Q ↔ ∃ q, jx_ai h a = some q ∧ jx_in x q.1 ∧ jx_Go jxP d 142 39 [l0, l1, l2, l3, l4] (.int (q.2 x.toNatClampNeg) :: st) h Q := jg_ia rfl
theorem s142_39 : jx_Go jxP d 142 39 [l0, l1, l2, l3, l4] (.int x :: st) h Q ↔ jx_Go jxP d 142 41 [l0, l1, l2, l3, .int x] st h Q := jg_is rfl rfl
theorem s142_41 : jx_Go jxP d 142 41 [.ref a, l1, l2, l3, l4] st h Q ↔ jx_Go jxP d 142 42 [.ref a, l1, l2, l3, l4] (.ref a :: st) h Q := jg_al rfl rfl
theorem s142_42 : jx_Go jxP d 142 42 [l0, l1, l2, l3, l4] (.ref a :: st) h Q ↔ ∃ v, jx_fl h a 12 3 = some v ∧ jx_Go jxP d 142 45 [l0, l1, l2, l3, l4] (v :: st) h Q := jg_gf rfl
theorem s142_45 : jx_Go jxP d 142 45 [l0, l1, l2, l3, l4] st h Q ↔ jx_Go jxP d 142 46 [l0, l1, l2, l3, l4] (.int (nI 5) :: st) h Q := jg_c rfl
theorem s142_46 : jx_Go jxP d 142 46 [l0, .int x, l2, l3, l4] st h Q ↔ jx_Go jxP d 142 47 [l0, .int x, l2, l3, l4] (.int x :: st) h Q := jg_il rfl rfl
theorem s142_47 : jx_Go jxP d 142 47 [l0, l1, l2, l3, l4] (.int y :: .int x :: st) h Q ↔ jx_Go jxP d 142 48 [l0, l1, l2, l3, l4] (.int (x * y) :: st) h Q := jg_b (f := fun x y => x * y) rfl
theorem s142_48 : jx_Go jxP d 142 48 [l0, l1, .int x, l3, l4] st h Q ↔ jx_Go jxP d 142 49 [l0, l1, .int x, l3, l4] (.int x :: st) h Q := jg_il rfl rfl
theorem s142_49 : jx_Go jxP d 142 49 [l0, l1, l2, l3, l4] (.int y :: .int x :: st) h Q ↔ jx_Go jxP d 142 50 [l0, l1, l2, l3, l4] (.int (x + y) :: st) h Q := jg_b (f := fun x y => x + y) rfl
theorem s142_50 : jx_Go jxP d 142 50 [l0, l1, l2, .int x, l4] st h Q ↔ jx_Go jxP d 142 51 [l0, l1, l2, .int x, l4] (.int x :: st) h Q := jg_il rfl rfl
theorem s142_51 : jx_Go jxP d 142 51 [l0, l1, l2, l3, l4] (.int y :: .int x :: .ref a :: st) h Q ↔ ∃ q, jx_ai h a = some q ∧ jx_in x q.1 ∧ jx_Go jxP d 142 52 [l0, l1, l2, l3, l4] st (jx_wi h a q.1 (upd q.2 x.toNatClampNeg y)) Q := jg_iw rfl
theorem s142_52 : jx_Go jxP d 142 52 [l0, l1, l2, l3, .int x] st h Q ↔ jx_Go jxP d 142 54 [l0, l1, l2, l3, .int x] (.int x :: st) h Q := jg_il rfl rfl
theorem s142_54 : jx_Go jxP d 142 54 [l0, l1, l2, l3, l4] [.int x] h Q ↔ Q [.int x] h := jx_rt rfl rfl
-- 143 TalkBenchModel.rule
theorem s143_0 : jx_Go jxP d 143 0 [l0, .int x, l2, l3, l4, l5] st h Q ↔ jx_Go jxP d 143 1 [l0, .int x, l2, l3, l4, l5] (.int x :: st) h Q := jg_il rfl rfl
theorem s143_1 : jx_Go jxP d 143 1 [l0, l1, l2, l3, l4, l5] (.int x :: st) h Q ↔ if x < 0 then jx_Go jxP d 143 9 [l0, l1, l2, l3, l4, l5] st h Q else jx_Go jxP d 143 4 [l0, l1, l2, l3, l4, l5] st h Q := jg_ifP rfl rfl
theorem s143_4 : jx_Go jxP d 143 4 [l0, .int x, l2, l3, l4, l5] st h Q ↔ jx_Go jxP d 143 5 [l0, .int x, l2, l3, l4, l5] (.int x :: st) h Q := jg_il rfl rfl
theorem s143_5 : jx_Go jxP d 143 5 [l0, l1, l2, l3, l4, l5] st h Q ↔ jx_Go jxP d 143 6 [l0, l1, l2, l3, l4, l5] (.int (nI 4) :: st) h Q := jg_c rfl
theorem s143_6 : jx_Go jxP d 143 6 [l0, l1, l2, l3, l4, l5] (.int y :: .int x :: st) h Q ↔ if x ≤ y then jx_Go jxP d 143 15 [l0, l1, l2, l3, l4, l5] st h Q else jx_Go jxP d 143 9 [l0, l1, l2, l3, l4, l5] st h Q := jg_icP rfl rfl
theorem s143_9 : jx_Go jxP d 143 9 [.ref a, l1, l2, l3, l4, l5] st h Q ↔ jx_Go jxP d 143 10 [.ref a, l1, l2, l3, l4, l5] (.ref a :: st) h Q := jg_al rfl rfl
theorem s143_10 : jx_Go jxP d 143 10 [l0, l1, l2, l3, l4, l5] st h Q ↔ jx_Go jxP d 143 11 [l0, l1, l2, l3, l4, l5] (.int (-1) :: st) h Q := jg_c rfl
theorem s143_11 : jx_Go jxP (d + 1) 143 11 [l0, l1, l2, l3, l4, l5] (.int x0 :: .ref a :: st) h Q ↔ (st.length ≤ 4 ∧ jx_cl h a = some 12 ∧ jx_Go jxP d 130 0 [.ref a, .int x0] [] h (fun s1 h1 => jx_Go jxP (d + 1) 143 14 [l0, l1, l2, l3, l4, l5] (s1 ++ st) h1 Q)) := jg_callV (as := [.int x0, .ref a]) rfl rfl rfl rfl rfl
theorem s143_14 : jx_Go jxP d 143 14 [l0, l1, l2, l3, l4, l5] [.int x] h Q ↔ Q [.int x] h := jx_rt rfl rfl
theorem s143_15 : jx_Go jxP d 143 15 [.ref a, l1, l2, l3, l4, l5] st h Q ↔ jx_Go jxP d 143 16 [.ref a, l1, l2, l3, l4, l5] (.ref a :: st) h Q := jg_al rfl rfl
theorem s143_16 : jx_Go jxP (d + 1) 143 16 [l0, l1, l2, l3, l4, l5] (.ref a :: st) h Q ↔ (st.length ≤ 4 ∧ jx_cl h a = some 12 ∧ jx_Go jxP d 136 0 [.ref a, jx_u] [] h (fun s1 h1 => jx_Go jxP (d + 1) 143 19 [l0, l1, l2, l3, l4, l5] (s1 ++ st) h1 Q)) := jg_callV (as := [.ref a]) rfl rfl rfl rfl rfl
theorem s143_19 : jx_Go jxP d 143 19 [l0, l1, l2, l3, l4, l5] st h Q ↔ jx_Go jxP d 143 20 [l0, l1, l2, l3, l4, l5] (.int (nI 0) :: st) h Q := jg_c rfl
theorem s143_20 : jx_Go jxP d 143 20 [l0, l1, l2, l3, l4, l5] (.int x :: st) h Q ↔ jx_Go jxP d 143 21 [l0, l1, .int x, l3, l4, l5] st h Q := jg_is rfl rfl
theorem s143_21 : jx_Go jxP d 143 21 [l0, l1, .int x, l3, l4, l5] st h Q ↔ jx_Go jxP d 143 22 [l0, l1, .int x, l3, l4, l5] (.int x :: st) h Q := jg_il rfl rfl
theorem s143_22 : jx_Go jxP d 143 22 [.ref a, l1, l2, l3, l4, l5] st h Q ↔ jx_Go jxP d 143 23 [.ref a, l1, l2, l3, l4, l5] (.ref a :: st) h Q := jg_al rfl rfl
theorem s143_23 : jx_Go jxP d 143 23 [l0, l1, l2, l3, l4, l5] (.ref a :: st) h Q ↔ ∃ v, jx_fl h a 12 0 = some v ∧ jx_Go jxP d 143 26 [l0, l1, l2, l3, l4, l5] (v :: st) h Q := jg_gf rfl
theorem s143_26 : jx_Go jxP d 143 26 [l0, l1, l2, l3, l4, l5] (.int y :: .int x :: st) h Q ↔ if y ≤ x then jx_Go jxP d 143 194 [l0, l1, l2, l3, l4, l5] st h Q else jx_Go jxP d 143 29 [l0, l1, l2, l3, l4, l5] st h Q := jg_icP rfl rfl
theorem s143_29 : jx_Go jxP d 143 29 [l0, l1, l2, l3, l4, l5] st h Q ↔ jx_Go jxP d 143 30 [l0, l1, l2, l3, l4, l5] (.int (nI 0) :: st) h Q := jg_c rfl
theorem s143_30 : jx_Go jxP d 143 30 [l0, l1, l2, l3, l4, l5] (.int x :: st) h Q ↔ jx_Go jxP d 143 31 [l0, l1, l2, .int x, l4, l5] st h Q := jg_is rfl rfl
theorem s143_31 : jx_Go jxP d 143 31 [l0, l1, l2, .int x, l4, l5] st h Q ↔ jx_Go jxP d 143 32 [l0, l1, l2, .int x, l4, l5] (.int x :: st) h Q := jg_il rfl rfl
theorem s143_32 : jx_Go jxP d 143 32 [.ref a, l1, l2, l3, l4, l5] st h Q ↔ jx_Go jxP d 143 33 [.ref a, l1, l2, l3, l4, l5] (.ref a :: st) h Q := jg_al rfl rfl
theorem s143_33 : jx_Go jxP d 143 33 [l0, l1, l2, l3, l4, l5] (.ref a :: st) h Q ↔ ∃ v, jx_fl h a 12 1 = some v ∧ jx_Go jxP d 143 36 [l0, l1, l2, l3, l4, l5] (v :: st) h Q := jg_gf rfl
theorem s143_36 : jx_Go jxP d 143 36 [l0, l1, l2, l3, l4, l5] (.int y :: .int x :: st) h Q ↔ if y ≤ x then jx_Go jxP d 143 188 [l0, l1, l2, l3, l4, l5] st h Q else jx_Go jxP d 143 39 [l0, l1, l2, l3, l4, l5] st h Q := jg_icP rfl rfl
theorem s143_39 : jx_Go jxP d 143 39 [l0, l1, .int x, l3, l4, l5] st h Q ↔ jx_Go jxP d 143 40 [l0, l1, .int x, l3, l4, l5] (.int x :: st) h Q := jg_il rfl rfl
theorem s143_40 : jx_Go jxP d 143 40 [l0, l1, l2, .int x, l4, l5] st h Q ↔ jx_Go jxP d 143 41 [l0, l1, l2, .int x, l4, l5] (.int x :: st) h Q := jg_il rfl rfl
theorem s143_41 : jx_Go jxP d 143 41 [l0, l1, l2, l3, l4, l5] (.int y :: .int x :: st) h Q ↔ if y ≤ x then jx_Go jxP d 143 50 [l0, l1, l2, l3, l4, l5] st h Q else jx_Go jxP d 143 44 [l0, l1, l2, l3, l4, l5] st h Q := jg_icP rfl rfl
theorem s143_44 : jx_Go jxP d 143 44 [l0, l1, l2, .int x, l4, l5] st h Q ↔ jx_Go jxP d 143 45 [l0, l1, l2, .int x, l4, l5] (.int x :: st) h Q := jg_il rfl rfl
theorem s143_45 : jx_Go jxP d 143 45 [l0, l1, .int x, l3, l4, l5] st h Q ↔ jx_Go jxP d 143 46 [l0, l1, .int x, l3, l4, l5] (.int x :: st) h Q := jg_il rfl rfl
theorem s143_46 : jx_Go jxP d 143 46 [l0, l1, l2, l3, l4, l5] (.int y :: .int x :: st) h Q ↔ jx_Go jxP d 143 47 [l0, l1, l2, l3, l4, l5] (.int (x - y) :: st) h Q := jg_b (f := fun x y => x - y) rfl
theorem s143_47 : jx_Go jxP d 143 47 [l0, l1, l2, l3, l4, l5] st h Q ↔ jx_Go jxP d 143 53 [l0, l1, l2, l3, l4, l5] st h Q := jg_go rfl
theorem s143_50 : jx_Go jxP d 143 50 [l0, l1, .int x, l3, l4, l5] st h Q ↔ jx_Go jxP d 143 51 [l0, l1, .int x, l3, l4, l5] (.int x :: st) h Q := jg_il rfl rfl
theorem s143_51 : jx_Go jxP d 143 51 [l0, l1, l2, .int x, l4, l5] st h Q ↔ jx_Go jxP d 143 52 [l0, l1, l2, .int x, l4, l5] (.int x :: st) h Q := jg_il rfl rfl
theorem s143_52 : jx_Go jxP d 143 52 [l0, l1, l2, l3, l4, l5] (.int y :: .int x :: st) h Q ↔ jx_Go jxP d 143 53 [l0, l1, l2, l3, l4, l5] (.int (x - y) :: st) h Q := jg_b (f := fun x y => x - y) rfl
theorem s143_53 : jx_Go jxP d 143 53 [l0, l1, l2, l3, l4, l5] (.int x :: st) h Q ↔ jx_Go jxP d 143 55 [l0, l1, l2, l3, .int x, l5] st h Q := jg_is rfl rfl
theorem s143_55 : jx_Go jxP d 143 55 [l0, .int x, l2, l3, l4, l5] st h Q ↔ jx_Go jxP d 143 56 [l0, .int x, l2, l3, l4, l5] (.int x :: st) h Q := jg_il rfl rfl
theorem s143_56 : jx_Go jxP d 143 56 [l0, l1, l2, l3, l4, l5] (.int x :: st) h Q ↔ if x = 0 then jx_Go jxP d 143 59 [l0, l1, l2, l3, l4, l5] st h Q else jx_Go jxP d 143 72 [l0, l1, l2, l3, l4, l5] st h Q := jg_ifN rfl rfl
theorem s143_59 : jx_Go jxP d 143 59 [l0, l1, .int x, l3, l4, l5] st h Q ↔ jx_Go jxP d 143 60 [l0, l1, .int x, l3, l4, l5] (.int x :: st) h Q := jg_il rfl rfl
theorem s143_60 : jx_Go jxP d 143 60 [l0, l1, l2, .int x, l4, l5] st h Q ↔ jx_Go jxP d 143 61 [l0, l1, l2, .int x, l4, l5] (.int x :: st) h Q := jg_il rfl rfl
theorem s143_61 : jx_Go jxP d 143 61 [l0, l1, l2, l3, l4, l5] (.int y :: .int x :: st) h Q ↔ if x = y then jx_Go jxP d 143 64 [l0, l1, l2, l3, l4, l5] st h Q else jx_Go jxP d 143 68 [l0, l1, l2, l3, l4, l5] st h Q := jg_icN rfl rfl
theorem s143_64 : jx_Go jxP d 143 64 [l0, l1, l2, l3, l4, l5] st h Q ↔ jx_Go jxP d 143 65 [l0, l1, l2, l3, l4, l5] (.int (nI 1) :: st) h Q := jg_c rfl
theorem s143_65 : jx_Go jxP d 143 65 [l0, l1, l2, l3, l4, l5] st h Q ↔ jx_Go jxP d 143 145 [l0, l1, l2, l3, l4, l5] st h Q := jg_go rfl
theorem s143_68 : jx_Go jxP d 143 68 [l0, l1, l2, l3, l4, l5] st h Q ↔ jx_Go jxP d 143 69 [l0, l1, l2, l3, l4, l5] (.int (nI 0) :: st) h Q := jg_c rfl
theorem s143_69 : jx_Go jxP d 143 69 [l0, l1, l2, l3, l4, l5] st h Q ↔ jx_Go jxP d 143 145 [l0, l1, l2, l3, l4, l5] st h Q := jg_go rfl
theorem s143_72 : jx_Go jxP d 143 72 [l0, .int x, l2, l3, l4, l5] st h Q ↔ jx_Go jxP d 143 73 [l0, .int x, l2, l3, l4, l5] (.int x :: st) h Q := jg_il rfl rfl
theorem s143_73 : jx_Go jxP d 143 73 [l0, l1, l2, l3, l4, l5] st h Q ↔ jx_Go jxP d 143 74 [l0, l1, l2, l3, l4, l5] (.int (nI 1) :: st) h Q := jg_c rfl
theorem s143_74 : jx_Go jxP d 143 74 [l0, l1, l2, l3, l4, l5] (.int y :: .int x :: st) h Q ↔ if x = y then jx_Go jxP d 143 77 [l0, l1, l2, l3, l4, l5] st h Q else jx_Go jxP d 143 90 [l0, l1, l2, l3, l4, l5] st h Q := jg_icN rfl rfl
theorem s143_77 : jx_Go jxP d 143 77 [l0, l1, .int x, l3, l4, l5] st h Q ↔ jx_Go jxP d 143 78 [l0, l1, .int x, l3, l4, l5] (.int x :: st) h Q := jg_il rfl rfl
theorem s143_78 : jx_Go jxP d 143 78 [l0, l1, l2, .int x, l4, l5] st h Q ↔ jx_Go jxP d 143 79 [l0, l1, l2, .int x, l4, l5] (.int x :: st) h Q := jg_il rfl rfl
theorem s143_79 : jx_Go jxP d 143 79 [l0, l1, l2, l3, l4, l5] (.int y :: .int x :: st) h Q ↔ if y ≤ x then jx_Go jxP d 143 86 [l0, l1, l2, l3, l4, l5] st h Q else jx_Go jxP d 143 82 [l0, l1, l2, l3, l4, l5] st h Q := jg_icP rfl rfl
theorem s143_82 : jx_Go jxP d 143 82 [l0, l1, l2, l3, l4, l5] st h Q ↔ jx_Go jxP d 143 83 [l0, l1, l2, l3, l4, l5] (.int (nI 1) :: st) h Q := jg_c rfl
theorem s143_83 : jx_Go jxP d 143 83 [l0, l1, l2, l3, l4, l5] st h Q ↔ jx_Go jxP d 143 145 [l0, l1, l2, l3, l4, l5] st h Q := jg_go rfl
theorem s143_86 : jx_Go jxP d 143 86 [l0, l1, l2, l3, l4, l5] st h Q ↔ jx_Go jxP d 143 87 [l0, l1, l2, l3, l4, l5] (.int (nI 0) :: st) h Q := jg_c rfl
theorem s143_87 : jx_Go jxP d 143 87 [l0, l1, l2, l3, l4, l5] st h Q ↔ jx_Go jxP d 143 145 [l0, l1, l2, l3, l4, l5] st h Q := jg_go rfl
theorem s143_90 : jx_Go jxP d 143 90 [l0, .int x, l2, l3, l4, l5] st h Q ↔ jx_Go jxP d 143 91 [l0, .int x, l2, l3, l4, l5] (.int x :: st) h Q := jg_il rfl rfl
theorem s143_91 : jx_Go jxP d 143 91 [l0, l1, l2, l3, l4, l5] st h Q ↔ jx_Go jxP d 143 92 [l0, l1, l2, l3, l4, l5] (.int (nI 2) :: st) h Q := jg_c rfl
theorem s143_92 : jx_Go jxP d 143 92 [l0, l1, l2, l3, l4, l5] (.int y :: .int x :: st) h Q ↔ if x = y then jx_Go jxP d 143 95 [l0, l1, l2, l3, l4, l5] st h Q else jx_Go jxP d 143 109 [l0, l1, l2, l3, l4, l5] st h Q := jg_icN rfl rfl
theorem s143_95 : jx_Go jxP d 143 95 [l0, l1, .int x, l3, l4, l5] st h Q ↔ jx_Go jxP d 143 96 [l0, l1, .int x, l3, l4, l5] (.int x :: st) h Q := jg_il rfl rfl
theorem s143_96 : jx_Go jxP d 143 96 [l0, l1, l2, .int x, l4, l5] st h Q ↔ jx_Go jxP d 143 97 [l0, l1, l2, .int x, l4, l5] (.int x :: st) h Q := jg_il rfl rfl
theorem s143_97 : jx_Go jxP d 143 97 [l0, l1, l2, l3, l4, l5] (.int y :: .int x :: st) h Q ↔ jx_Go jxP d 143 98 [l0, l1, l2, l3, l4, l5] (.int (x &&& y) :: st) h Q := jg_b (f := fun x y => x &&& y) rfl
theorem s143_98 : jx_Go jxP d 143 98 [l0, l1, l2, l3, l4, l5] (.int x :: st) h Q ↔ if x = 0 then jx_Go jxP d 143 101 [l0, l1, l2, l3, l4, l5] st h Q else jx_Go jxP d 143 105 [l0, l1, l2, l3, l4, l5] st h Q := jg_ifN rfl rfl
theorem s143_101 : jx_Go jxP d 143 101 [l0, l1, l2, l3, l4, l5] st h Q ↔ jx_Go jxP d 143 102 [l0, l1, l2, l3, l4, l5] (.int (nI 1) :: st) h Q := jg_c rfl
theorem s143_102 : jx_Go jxP d 143 102 [l0, l1, l2, l3, l4, l5] st h Q ↔ jx_Go jxP d 143 145 [l0, l1, l2, l3, l4, l5] st h Q := jg_go rfl
theorem s143_105 : jx_Go jxP d 143 105 [l0, l1, l2, l3, l4, l5] st h Q ↔ jx_Go jxP d 143 106 [l0, l1, l2, l3, l4, l5] (.int (nI 0) :: st) h Q := jg_c rfl
theorem s143_106 : jx_Go jxP d 143 106 [l0, l1, l2, l3, l4, l5] st h Q ↔ jx_Go jxP d 143 145 [l0, l1, l2, l3, l4, l5] st h Q := jg_go rfl
theorem s143_109 : jx_Go jxP d 143 109 [l0, .int x, l2, l3, l4, l5] st h Q ↔ jx_Go jxP d 143 110 [l0, .int x, l2, l3, l4, l5] (.int x :: st) h Q := jg_il rfl rfl
theorem s143_110 : jx_Go jxP d 143 110 [l0, l1, l2, l3, l4, l5] st h Q ↔ jx_Go jxP d 143 111 [l0, l1, l2, l3, l4, l5] (.int (nI 3) :: st) h Q := jg_c rfl
theorem s143_111 : jx_Go jxP d 143 111 [l0, l1, l2, l3, l4, l5] (.int y :: .int x :: st) h Q ↔ if x = y then jx_Go jxP d 143 114 [l0, l1, l2, l3, l4, l5] st h Q else jx_Go jxP d 143 134 [l0, l1, l2, l3, l4, l5] st h Q := jg_icN rfl rfl
theorem s143_114 : jx_Go jxP d 143 114 [l0, l1, .int x, l3, l4, l5] st h Q ↔ jx_Go jxP d 143 115 [l0, l1, .int x, l3, l4, l5] (.int x :: st) h Q := jg_il rfl rfl
theorem s143_115 : jx_Go jxP d 143 115 [l0, l1, l2, .int x, l4, l5] st h Q ↔ jx_Go jxP d 143 116 [l0, l1, l2, .int x, l4, l5] (.int x :: st) h Q := jg_il rfl rfl
theorem s143_116 : jx_Go jxP d 143 116 [l0, l1, l2, l3, l4, l5] (.int y :: .int x :: st) h Q ↔ jx_Go jxP d 143 117 [l0, l1, l2, l3, l4, l5] (.int (x &&& y) :: st) h Q := jg_b (f := fun x y => x &&& y) rfl
theorem s143_117 : jx_Go jxP (d + 1) 143 117 [l0, l1, l2, l3, l4, l5] (.int x0 :: st) h Q ↔ (st.length ≤ 4 ∧ jx_Go jxP d 133 0 [.int x0, jx_u, jx_u] [] h (fun s1 h1 => jx_Go jxP (d + 1) 143 120 [l0, l1, l2, l3, l4, l5] (s1 ++ st) h1 Q)) := jg_callS (as := [.int x0]) rfl rfl rfl rfl
theorem s143_120 : jx_Go jxP d 143 120 [l0, l1, l2, l3, l4, l5] st h Q ↔ jx_Go jxP d 143 121 [l0, l1, l2, l3, l4, l5] (.int (nI 2) :: st) h Q := jg_c rfl
theorem s143_121 : jx_Go jxP d 143 121 [l0, l1, l2, l3, l4, l5] (.int y :: .int x :: st) h Q ↔ (¬ y = 0 ∧ jx_Go jxP d 143 122 [l0, l1, l2, l3, l4, l5] (.int (x - x / y * y) :: st) h Q) := jg_q (f := fun x y => x - x / y * y) rfl
theorem s143_122 : jx_Go jxP d 143 122 [l0, l1, l2, l3, l4, l5] st h Q ↔ jx_Go jxP d 143 123 [l0, l1, l2, l3, l4, l5] (.int (nI 1) :: st) h Q := jg_c rfl
theorem s143_123 : jx_Go jxP d 143 123 [l0, l1, l2, l3, l4, l5] (.int y :: .int x :: st) h Q ↔ if x = y then jx_Go jxP d 143 126 [l0, l1, l2, l3, l4, l5] st h Q else jx_Go jxP d 143 130 [l0, l1, l2, l3, l4, l5] st h Q := jg_icN rfl rfl
theorem s143_126 : jx_Go jxP d 143 126 [l0, l1, l2, l3, l4, l5] st h Q ↔ jx_Go jxP d 143 127 [l0, l1, l2, l3, l4, l5] (.int (nI 1) :: st) h Q := jg_c rfl
theorem s143_127 : jx_Go jxP d 143 127 [l0, l1, l2, l3, l4, l5] st h Q ↔ jx_Go jxP d 143 145 [l0, l1, l2, l3, l4, l5] st h Q := jg_go rfl
theorem s143_130 : jx_Go jxP d 143 130 [l0, l1, l2, l3, l4, l5] st h Q ↔ jx_Go jxP d 143 131 [l0, l1, l2, l3, l4, l5] (.int (nI 0) :: st) h Q := jg_c rfl
theorem s143_131 : jx_Go jxP d 143 131 [l0, l1, l2, l3, l4, l5] st h Q ↔ jx_Go jxP d 143 145 [l0, l1, l2, l3, l4, l5] st h Q := jg_go rfl
theorem s143_134 : jx_Go jxP d 143 134 [l0, l1, l2, l3, .int x, l5] st h Q ↔ jx_Go jxP d 143 136 [l0, l1, l2, l3, .int x, l5] (.int x :: st) h Q := jg_il rfl rfl
theorem s143_136 : jx_Go jxP d 143 136 [l0, l1, l2, l3, l4, l5] st h Q ↔ jx_Go jxP d 143 137 [l0, l1, l2, l3, l4, l5] (.int (nI 1) :: st) h Q := jg_c rfl
theorem s143_137 : jx_Go jxP d 143 137 [l0, l1, l2, l3, l4, l5] (.int y :: .int x :: st) h Q ↔ if y < x then jx_Go jxP d 143 144 [l0, l1, l2, l3, l4, l5] st h Q else jx_Go jxP d 143 140 [l0, l1, l2, l3, l4, l5] st h Q := jg_icP rfl rfl
theorem s143_140 : jx_Go jxP d 143 140 [l0, l1, l2, l3, l4, l5] st h Q ↔ jx_Go jxP d 143 141 [l0, l1, l2, l3, l4, l5] (.int (nI 1) :: st) h Q := jg_c rfl
theorem s143_141 : jx_Go jxP d 143 141 [l0, l1, l2, l3, l4, l5] st h Q ↔ jx_Go jxP d 143 145 [l0, l1, l2, l3, l4, l5] st h Q := jg_go rfl
theorem s143_144 : jx_Go jxP d 143 144 [l0, l1, l2, l3, l4, l5] st h Q ↔ jx_Go jxP d 143 145 [l0, l1, l2, l3, l4, l5] (.int (nI 0) :: st) h Q := jg_c rfl
theorem s143_145 : jx_Go jxP d 143 145 [l0, l1, l2, l3, l4, l5] (.int x :: st) h Q ↔ jx_Go jxP d 143 147 [l0, l1, l2, l3, l4, .int x] st h Q := jg_is rfl rfl
theorem s143_147 : jx_Go jxP d 143 147 [.ref a, l1, l2, l3, l4, l5] st h Q ↔ jx_Go jxP d 143 148 [.ref a, l1, l2, l3, l4, l5] (.ref a :: st) h Q := jg_al rfl rfl
theorem s143_148 : jx_Go jxP d 143 148 [l0, l1, l2, l3, l4, l5] (.ref a :: st) h Q ↔ ∃ v, jx_fl h a 12 2 = some v ∧ jx_Go jxP d 143 151 [l0, l1, l2, l3, l4, l5] (v :: st) h Q := jg_gf rfl
theorem s143_151 : jx_Go jxP d 143 151 [l0, l1, l2, l3, l4, l5] st h Q ↔ jx_Go jxP d 143 152 [l0, l1, l2, l3, l4, l5] (.int (nI 5) :: st) h Q := jg_c rfl
theorem s143_152 : jx_Go jxP d 143 152 [l0, l1, .int x, l3, l4, l5] st h Q ↔ jx_Go jxP d 143 153 [l0, l1, .int x, l3, l4, l5] (.int x :: st) h Q := jg_il rfl rfl
theorem s143_153 : jx_Go jxP d 143 153 [l0, l1, l2, l3, l4, l5] (.int y :: .int x :: st) h Q ↔ jx_Go jxP d 143 154 [l0, l1, l2, l3, l4, l5] (.int (x * y) :: st) h Q := jg_b (f := fun x y => x * y) rfl
theorem s143_154 : jx_Go jxP d 143 154 [l0, l1, l2, .int x, l4, l5] st h Q ↔ jx_Go jxP d 143 155 [l0, l1, l2, .int x, l4, l5] (.int x :: st) h Q := jg_il rfl rfl
theorem s143_155 : jx_Go jxP d 143 155 [l0, l1, l2, l3, l4, l5] (.int y :: .int x :: st) h Q ↔ jx_Go jxP d 143 156 [l0, l1, l2, l3, l4, l5] (.int (x + y) :: st) h Q := jg_b (f := fun x y => x + y) rfl
theorem s143_156 : jx_Go jxP d 143 156 [l0, l1, l2, l3, l4, .int x] st h Q ↔ jx_Go jxP d 143 158 [l0, l1, l2, l3, l4, .int x] (.int x :: st) h Q := jg_il rfl rfl
theorem s143_158 : jx_Go jxP d 143 158 [l0, l1, l2, l3, l4, l5] (.int x :: st) h Q ↔ if x = 0 then jx_Go jxP d 143 165 [l0, l1, l2, l3, l4, l5] st h Q else jx_Go jxP d 143 161 [l0, l1, l2, l3, l4, l5] st h Q := jg_ifP rfl rfl
theorem s143_161 : jx_Go jxP d 143 161 [l0, l1, l2, l3, l4, l5] st h Q ↔ jx_Go jxP d 143 162 [l0, l1, l2, l3, l4, l5] (.int (nI 1) :: st) h Q := jg_c rfl
theorem s143_162 : jx_Go jxP d 143 162 [l0, l1, l2, l3, l4, l5] st h Q ↔ jx_Go jxP d 143 181 [l0, l1, l2, l3, l4, l5] st h Q := jg_go rfl
theorem s143_165 : jx_Go jxP d 143 165 [l0, .int x, l2, l3, l4, l5] st h Q ↔ jx_Go jxP d 143 166 [l0, .int x, l2, l3, l4, l5] (.int x :: st) h Q := jg_il rfl rfl
theorem s143_166 : jx_Go jxP d 143 166 [l0, l1, l2, l3, l4, l5] st h Q ↔ jx_Go jxP d 143 167 [l0, l1, l2, l3, l4, l5] (.int (nI 4) :: st) h Q := jg_c rfl
theorem s143_167 : jx_Go jxP d 143 167 [l0, l1, l2, l3, l4, l5] (.int y :: .int x :: st) h Q ↔ if x = y then jx_Go jxP d 143 170 [l0, l1, l2, l3, l4, l5] st h Q else jx_Go jxP d 143 180 [l0, l1, l2, l3, l4, l5] st h Q := jg_icN rfl rfl
theorem s143_170 : jx_Go jxP d 143 170 [l0, l1, l2, l3, .int x, l5] st h Q ↔ jx_Go jxP d 143 172 [l0, l1, l2, l3, .int x, l5] (.int x :: st) h Q := jg_il rfl rfl
theorem s143_172 : jx_Go jxP d 143 172 [l0, l1, l2, l3, l4, l5] st h Q ↔ jx_Go jxP d 143 173 [l0, l1, l2, l3, l4, l5] (.int (nI 2) :: st) h Q := jg_c rfl
theorem s143_173 : jx_Go jxP d 143 173 [l0, l1, l2, l3, l4, l5] (.int y :: .int x :: st) h Q ↔ if x = y then jx_Go jxP d 143 176 [l0, l1, l2, l3, l4, l5] st h Q else jx_Go jxP d 143 180 [l0, l1, l2, l3, l4, l5] st h Q := jg_icN rfl rfl
theorem s143_176 : jx_Go jxP d 143 176 [l0, l1, l2, l3, l4, l5] st h Q ↔ jx_Go jxP d 143 177 [l0, l1, l2, l3, l4, l5] (.int (nI 2) :: st) h Q := jg_c rfl
theorem s143_177 : jx_Go jxP d 143 177 [l0, l1, l2, l3, l4, l5] st h Q ↔ jx_Go jxP d 143 181 [l0, l1, l2, l3, l4, l5] st h Q := jg_go rfl
theorem s143_180 : jx_Go jxP d 143 180 [l0, l1, l2, l3, l4, l5] st h Q ↔ jx_Go jxP d 143 181 [l0, l1, l2, l3, l4, l5] (.int (nI 0) :: st) h Q := jg_c rfl
theorem s143_181 : jx_Go jxP d 143 181 [l0, l1, l2, l3, l4, l5] (.int y :: .int x :: .ref a :: st) h Q ↔ ∃ q, jx_ai h a = some q ∧ jx_in x q.1 ∧ jx_Go jxP d 143 182 [l0, l1, l2, l3, l4, l5] st (jx_wi h a q.1 (upd q.2 x.toNatClampNeg y)) Q := jg_iw rfl
theorem s143_182 : jx_Go jxP d 143 182 [l0, l1, l2, .int x, l4, l5] st h Q ↔ jx_Go jxP d 143 185 [l0, l1, l2, .int (x + (nI 1)), l4, l5] st h Q := jg_inc rfl rfl rfl
theorem s143_185 : jx_Go jxP d 143 185 [l0, l1, l2, l3, l4, l5] st h Q ↔ jx_Go jxP d 143 31 [l0, l1, l2, l3, l4, l5] st h Q := jg_go rfl
theorem s143_188 : jx_Go jxP d 143 188 [l0, l1, .int x, l3, l4, l5] st h Q ↔ jx_Go jxP d 143 191 [l0, l1, .int (x + (nI 1)), l3, l4, l5] st h Q := jg_inc rfl rfl rfl
theorem s143_191 : jx_Go jxP d 143 191 [l0, l1, l2, l3, l4, l5] st h Q ↔ jx_Go jxP d 143 21 [l0, l1, l2, l3, l4, l5] st h Q := jg_go rfl
theorem s143_194 : jx_Go jxP d 143 194 [.ref a, l1, l2, l3, l4, l5] st h Q ↔ jx_Go jxP d 143 195 [.ref a, l1, l2, l3, l4, l5] (.ref a :: st) h Q := jg_al rfl rfl
theorem s143_195 : jx_Go jxP d 143 195 [l0, l1, l2, l3, l4, l5] st h Q ↔ jx_Go jxP d 143 196 [l0, l1, l2, l3, l4, l5] (.int (nI 0) :: st) h Q := jg_c rfl
theorem s143_196 : jx_Go jxP d 143 196 [l0, l1, l2, l3, l4, l5] (.int x :: .ref a :: st) h Q ↔ ∃ v, jx_fl h a 12 14 = some v ∧ jx_Go jxP d 143 199 [l0, l1, l2, l3, l4, l5] st (jx_uf h a 14 (.int x)) Q := jg_pfI rfl
theorem s143_199 : jx_Go jxP d 143 199 [.ref a, l1, l2, l3, l4, l5] st h Q ↔ jx_Go jxP d 143 200 [.ref a, l1, l2, l3, l4, l5] (.ref a :: st) h Q := jg_al rfl rfl
theorem s143_200 : jx_Go jxP d 143 200 [l0, l1, l2, l3, l4, l5] st h Q ↔ jx_Go jxP d 143 201 [l0, l1, l2, l3, l4, l5] (.int (nI 1) :: st) h Q := jg_c rfl
theorem s143_201 : jx_Go jxP (d + 1) 143 201 [l0, l1, l2, l3, l4, l5] (.int x0 :: .ref a :: st) h Q ↔ (st.length ≤ 4 ∧ jx_cl h a = some 12 ∧ jx_Go jxP d 138 0 [.ref a, .int x0, jx_u, jx_u, jx_u] [] h (fun s1 h1 => jx_Go jxP (d + 1) 143 204 [l0, l1, l2, l3, l4, l5] (s1 ++ st) h1 Q)) := jg_callV (as := [.int x0, .ref a]) rfl rfl rfl rfl rfl
theorem s143_204 : jx_Go jxP d 143 204 [l0, l1, l2, l3, l4, l5] [.int x] h Q ↔ Q [.int x] h := jx_rt rfl rfl
-- 144 TalkBenchModel.turn
theorem s144_0 : jx_Go jxP d 144 0 [.ref a, l1, l2, l3] st h Q ↔ jx_Go jxP d 144 1 [.ref a, l1, l2, l3] (.ref a :: st) h Q := jg_al rfl rfl
theorem s144_1 : jx_Go jxP (d + 1) 144 1 [l0, l1, l2, l3] (.ref a :: st) h Q ↔ (st.length ≤ 4 ∧ jx_cl h a = some 12 ∧ jx_Go jxP d 136 0 [.ref a, jx_u] [] h (fun s1 h1 => jx_Go jxP (d + 1) 144 4 [l0, l1, l2, l3] (s1 ++ st) h1 Q)) := jg_callV (as := [.ref a]) rfl rfl rfl rfl rfl
theorem s144_4 : jx_Go jxP d 144 4 [l0, l1, l2, l3] st h Q ↔ jx_Go jxP d 144 5 [l0, l1, l2, l3] (.int (nI 0) :: st) h Q := jg_c rfl
theorem s144_5 : jx_Go jxP d 144 5 [l0, l1, l2, l3] (.int x :: st) h Q ↔ jx_Go jxP d 144 6 [l0, .int x, l2, l3] st h Q := jg_is rfl rfl
theorem s144_6 : jx_Go jxP d 144 6 [l0, .int x, l2, l3] st h Q ↔ jx_Go jxP d 144 7 [l0, .int x, l2, l3] (.int x :: st) h Q := jg_il rfl rfl
theorem s144_7 : jx_Go jxP d 144 7 [l0, l1, l2, l3] st h Q ↔ jx_Go jxP d 144 8 [l0, l1, l2, l3] (.int (nI 5) :: st) h Q := jg_c rfl
theorem s144_8 : jx_Go jxP d 144 8 [l0, l1, l2, l3] (.int y :: .int x :: st) h Q ↔ if y ≤ x then jx_Go jxP d 144 114 [l0, l1, l2, l3] st h Q else jx_Go jxP d 144 11 [l0, l1, l2, l3] st h Q := jg_icP rfl rfl
theorem s144_11 : jx_Go jxP d 144 11 [l0, l1, l2, l3] st h Q ↔ jx_Go jxP d 144 12 [l0, l1, l2, l3] (.int (nI 0) :: st) h Q := jg_c rfl
theorem s144_12 : jx_Go jxP d 144 12 [l0, l1, l2, l3] (.int x :: st) h Q ↔ jx_Go jxP d 144 13 [l0, l1, .int x, l3] st h Q := jg_is rfl rfl
theorem s144_13 : jx_Go jxP d 144 13 [l0, l1, .int x, l3] st h Q ↔ jx_Go jxP d 144 14 [l0, l1, .int x, l3] (.int x :: st) h Q := jg_il rfl rfl
theorem s144_14 : jx_Go jxP d 144 14 [l0, .int x, l2, l3] st h Q ↔ jx_Go jxP d 144 15 [l0, .int x, l2, l3] (.int x :: st) h Q := jg_il rfl rfl
theorem s144_15 : jx_Go jxP d 144 15 [l0, l1, l2, l3] (.int y :: .int x :: st) h Q ↔ if y ≤ x then jx_Go jxP d 144 108 [l0, l1, l2, l3] st h Q else jx_Go jxP d 144 18 [l0, l1, l2, l3] st h Q := jg_icP rfl rfl
theorem s144_18 : jx_Go jxP d 144 18 [.ref a, l1, l2, l3] st h Q ↔ jx_Go jxP d 144 19 [.ref a, l1, l2, l3] (.ref a :: st) h Q := jg_al rfl rfl
theorem s144_19 : jx_Go jxP d 144 19 [l0, l1, l2, l3] (.ref a :: st) h Q ↔ ∃ v, jx_fl h a 12 2 = some v ∧ jx_Go jxP d 144 22 [l0, l1, l2, l3] (v :: st) h Q := jg_gf rfl
theorem s144_22 : jx_Go jxP d 144 22 [l0, l1, l2, l3] st h Q ↔ jx_Go jxP d 144 23 [l0, l1, l2, l3] (.int (nI 5) :: st) h Q := jg_c rfl
theorem s144_23 : jx_Go jxP d 144 23 [l0, .int x, l2, l3] st h Q ↔ jx_Go jxP d 144 24 [l0, .int x, l2, l3] (.int x :: st) h Q := jg_il rfl rfl
theorem s144_24 : jx_Go jxP d 144 24 [l0, l1, l2, l3] (.int y :: .int x :: st) h Q ↔ jx_Go jxP d 144 25 [l0, l1, l2, l3] (.int (x * y) :: st) h Q := jg_b (f := fun x y => x * y) rfl
theorem s144_25 : jx_Go jxP d 144 25 [l0, l1, .int x, l3] st h Q ↔ jx_Go jxP d 144 26 [l0, l1, .int x, l3] (.int x :: st) h Q := jg_il rfl rfl
theorem s144_26 : jx_Go jxP d 144 26 [l0, l1, l2, l3] (.int y :: .int x :: st) h Q ↔ jx_Go jxP d 144 27 [l0, l1, l2, l3] (.int (x + y) :: st) h Q := jg_b (f := fun x y => x + y) rfl
theorem s144_27 : jx_Go jxP d 144 27 [l0, l1, l2, l3] (.int x :: .ref a :: st) h Q ↔ ∃ q, jx_ai h a = some q ∧ jx_in x q.1 ∧ jx_Go jxP d 144 28 [l0, l1, l2, l3] (.int (q.2 x.toNatClampNeg) :: st) h Q := jg_ia rfl
theorem s144_28 : jx_Go jxP d 144 28 [l0, l1, l2, l3] (.int x :: st) h Q ↔ jx_Go jxP d 144 29 [l0, l1, l2, .int x] st h Q := jg_is rfl rfl
theorem s144_29 : jx_Go jxP d 144 29 [.ref a, l1, l2, l3] st h Q ↔ jx_Go jxP d 144 30 [.ref a, l1, l2, l3] (.ref a :: st) h Q := jg_al rfl rfl
theorem s144_30 : jx_Go jxP d 144 30 [l0, l1, l2, l3] (.ref a :: st) h Q ↔ ∃ v, jx_fl h a 12 2 = some v ∧ jx_Go jxP d 144 33 [l0, l1, l2, l3] (v :: st) h Q := jg_gf rfl
theorem s144_33 : jx_Go jxP d 144 33 [l0, l1, l2, l3] st h Q ↔ jx_Go jxP d 144 34 [l0, l1, l2, l3] (.int (nI 5) :: st) h Q := jg_c rfl
theorem s144_34 : jx_Go jxP d 144 34 [l0, .int x, l2, l3] st h Q ↔ jx_Go jxP d 144 35 [l0, .int x, l2, l3] (.int x :: st) h Q := jg_il rfl rfl
theorem s144_35 : jx_Go jxP d 144 35 [l0, l1, l2, l3] (.int y :: .int x :: st) h Q ↔ jx_Go jxP d 144 36 [l0, l1, l2, l3] (.int (x * y) :: st) h Q := jg_b (f := fun x y => x * y) rfl
theorem s144_36 : jx_Go jxP d 144 36 [l0, l1, .int x, l3] st h Q ↔ jx_Go jxP d 144 37 [l0, l1, .int x, l3] (.int x :: st) h Q := jg_il rfl rfl
theorem s144_37 : jx_Go jxP d 144 37 [l0, l1, l2, l3] (.int y :: .int x :: st) h Q ↔ jx_Go jxP d 144 38 [l0, l1, l2, l3] (.int (x + y) :: st) h Q := jg_b (f := fun x y => x + y) rfl
theorem s144_38 : jx_Go jxP d 144 38 [.ref a, l1, l2, l3] st h Q ↔ jx_Go jxP d 144 39 [.ref a, l1, l2, l3] (.ref a :: st) h Q := jg_al rfl rfl
theorem s144_39 : jx_Go jxP d 144 39 [l0, l1, l2, l3] (.ref a :: st) h Q ↔ ∃ v, jx_fl h a 12 2 = some v ∧ jx_Go jxP d 144 42 [l0, l1, l2, l3] (v :: st) h Q := jg_gf rfl
theorem s144_42 : jx_Go jxP d 144 42 [l0, l1, l2, l3] st h Q ↔ jx_Go jxP d 144 43 [l0, l1, l2, l3] (.int (nI 5) :: st) h Q := jg_c rfl
theorem s144_43 : jx_Go jxP d 144 43 [l0, l1, .int x, l3] st h Q ↔ jx_Go jxP d 144 44 [l0, l1, .int x, l3] (.int x :: st) h Q := jg_il rfl rfl
theorem s144_44 : jx_Go jxP d 144 44 [l0, l1, l2, l3] (.int y :: .int x :: st) h Q ↔ jx_Go jxP d 144 45 [l0, l1, l2, l3] (.int (x * y) :: st) h Q := jg_b (f := fun x y => x * y) rfl
theorem s144_45 : jx_Go jxP d 144 45 [l0, .int x, l2, l3] st h Q ↔ jx_Go jxP d 144 46 [l0, .int x, l2, l3] (.int x :: st) h Q := jg_il rfl rfl
theorem s144_46 : jx_Go jxP d 144 46 [l0, l1, l2, l3] (.int y :: .int x :: st) h Q ↔ jx_Go jxP d 144 47 [l0, l1, l2, l3] (.int (x + y) :: st) h Q := jg_b (f := fun x y => x + y) rfl
theorem s144_47 : jx_Go jxP d 144 47 [l0, l1, l2, l3] (.int x :: .ref a :: st) h Q ↔ ∃ q, jx_ai h a = some q ∧ jx_in x q.1 ∧ jx_Go jxP d 144 48 [l0, l1, l2, l3] (.int (q.2 x.toNatClampNeg) :: st) h Q := jg_ia rfl
theorem s144_48 : jx_Go jxP d 144 48 [l0, l1, l2, l3] (.int y :: .int x :: .ref a :: st) h Q ↔ ∃ q, jx_ai h a = some q ∧ jx_in x q.1 ∧ jx_Go jxP d 144 49 [l0, l1, l2, l3] st (jx_wi h a q.1 (upd q.2 x.toNatClampNeg y)) Q := jg_iw rfl
theorem s144_49 : jx_Go jxP d 144 49 [.ref a, l1, l2, l3] st h Q ↔ jx_Go jxP d 144 50 [.ref a, l1, l2, l3] (.ref a :: st) h Q := jg_al rfl rfl
theorem s144_50 : jx_Go jxP d 144 50 [l0, l1, l2, l3] (.ref a :: st) h Q ↔ ∃ v, jx_fl h a 12 2 = some v ∧ jx_Go jxP d 144 53 [l0, l1, l2, l3] (v :: st) h Q := jg_gf rfl
theorem s144_53 : jx_Go jxP d 144 53 [l0, l1, l2, l3] st h Q ↔ jx_Go jxP d 144 54 [l0, l1, l2, l3] (.int (nI 5) :: st) h Q := jg_c rfl
theorem s144_54 : jx_Go jxP d 144 54 [l0, l1, .int x, l3] st h Q ↔ jx_Go jxP d 144 55 [l0, l1, .int x, l3] (.int x :: st) h Q := jg_il rfl rfl
theorem s144_55 : jx_Go jxP d 144 55 [l0, l1, l2, l3] (.int y :: .int x :: st) h Q ↔ jx_Go jxP d 144 56 [l0, l1, l2, l3] (.int (x * y) :: st) h Q := jg_b (f := fun x y => x * y) rfl
theorem s144_56 : jx_Go jxP d 144 56 [l0, .int x, l2, l3] st h Q ↔ jx_Go jxP d 144 57 [l0, .int x, l2, l3] (.int x :: st) h Q := jg_il rfl rfl
theorem s144_57 : jx_Go jxP d 144 57 [l0, l1, l2, l3] (.int y :: .int x :: st) h Q ↔ jx_Go jxP d 144 58 [l0, l1, l2, l3] (.int (x + y) :: st) h Q := jg_b (f := fun x y => x + y) rfl
theorem s144_58 : jx_Go jxP d 144 58 [l0, l1, l2, .int x] st h Q ↔ jx_Go jxP d 144 59 [l0, l1, l2, .int x] (.int x :: st) h Q := jg_il rfl rfl
theorem s144_59 : jx_Go jxP d 144 59 [l0, l1, l2, l3] (.int y :: .int x :: .ref a :: st) h Q ↔ ∃ q, jx_ai h a = some q ∧ jx_in x q.1 ∧ jx_Go jxP d 144 60 [l0, l1, l2, l3] st (jx_wi h a q.1 (upd q.2 x.toNatClampNeg y)) Q := jg_iw rfl
theorem s144_60 : jx_Go jxP d 144 60 [.ref a, l1, l2, l3] st h Q ↔ jx_Go jxP d 144 61 [.ref a, l1, l2, l3] (.ref a :: st) h Q := jg_al rfl rfl
theorem s144_61 : jx_Go jxP d 144 61 [l0, l1, l2, l3] (.ref a :: st) h Q ↔ ∃ v, jx_fl h a 12 3 = some v ∧ jx_Go jxP d 144 64 [l0, l1, l2, l3] (v :: st) h Q := jg_gf rfl
theorem s144_64 : jx_Go jxP d 144 64 [l0, l1, l2, l3] st h Q ↔ jx_Go jxP d 144 65 [l0, l1, l2, l3] (.int (nI 5) :: st) h Q := jg_c rfl
theorem s144_65 : jx_Go jxP d 144 65 [l0, .int x, l2, l3] st h Q ↔ jx_Go jxP d 144 66 [l0, .int x, l2, l3] (.int x :: st) h Q := jg_il rfl rfl
theorem s144_66 : jx_Go jxP d 144 66 [l0, l1, l2, l3] (.int y :: .int x :: st) h Q ↔ jx_Go jxP d 144 67 [l0, l1, l2, l3] (.int (x * y) :: st) h Q := jg_b (f := fun x y => x * y) rfl
theorem s144_67 : jx_Go jxP d 144 67 [l0, l1, .int x, l3] st h Q ↔ jx_Go jxP d 144 68 [l0, l1, .int x, l3] (.int x :: st) h Q := jg_il rfl rfl
theorem s144_68 : jx_Go jxP d 144 68 [l0, l1, l2, l3] (.int y :: .int x :: st) h Q ↔ jx_Go jxP d 144 69 [l0, l1, l2, l3] (.int (x + y) :: st) h Q := jg_b (f := fun x y => x + y) rfl
theorem s144_69 : jx_Go jxP d 144 69 [l0, l1, l2, l3] (.int x :: .ref a :: st) h Q ↔ ∃ q, jx_ai h a = some q ∧ jx_in x q.1 ∧ jx_Go jxP d 144 70 [l0, l1, l2, l3] (.int (q.2 x.toNatClampNeg) :: st) h Q := jg_ia rfl
theorem s144_70 : jx_Go jxP d 144 70 [l0, l1, l2, l3] (.int x :: st) h Q ↔ jx_Go jxP d 144 71 [l0, l1, l2, .int x] st h Q := jg_is rfl rfl
theorem s144_71 : jx_Go jxP d 144 71 [.ref a, l1, l2, l3] st h Q ↔ jx_Go jxP d 144 72 [.ref a, l1, l2, l3] (.ref a :: st) h Q := jg_al rfl rfl
theorem s144_72 : jx_Go jxP d 144 72 [l0, l1, l2, l3] (.ref a :: st) h Q ↔ ∃ v, jx_fl h a 12 3 = some v ∧ jx_Go jxP d 144 75 [l0, l1, l2, l3] (v :: st) h Q := jg_gf rfl
theorem s144_75 : jx_Go jxP d 144 75 [l0, l1, l2, l3] st h Q ↔ jx_Go jxP d 144 76 [l0, l1, l2, l3] (.int (nI 5) :: st) h Q := jg_c rfl
theorem s144_76 : jx_Go jxP d 144 76 [l0, .int x, l2, l3] st h Q ↔ jx_Go jxP d 144 77 [l0, .int x, l2, l3] (.int x :: st) h Q := jg_il rfl rfl
theorem s144_77 : jx_Go jxP d 144 77 [l0, l1, l2, l3] (.int y :: .int x :: st) h Q ↔ jx_Go jxP d 144 78 [l0, l1, l2, l3] (.int (x * y) :: st) h Q := jg_b (f := fun x y => x * y) rfl
theorem s144_78 : jx_Go jxP d 144 78 [l0, l1, .int x, l3] st h Q ↔ jx_Go jxP d 144 79 [l0, l1, .int x, l3] (.int x :: st) h Q := jg_il rfl rfl
theorem s144_79 : jx_Go jxP d 144 79 [l0, l1, l2, l3] (.int y :: .int x :: st) h Q ↔ jx_Go jxP d 144 80 [l0, l1, l2, l3] (.int (x + y) :: st) h Q := jg_b (f := fun x y => x + y) rfl
theorem s144_80 : jx_Go jxP d 144 80 [.ref a, l1, l2, l3] st h Q ↔ jx_Go jxP d 144 81 [.ref a, l1, l2, l3] (.ref a :: st) h Q := jg_al rfl rfl
theorem s144_81 : jx_Go jxP d 144 81 [l0, l1, l2, l3] (.ref a :: st) h Q ↔ ∃ v, jx_fl h a 12 3 = some v ∧ jx_Go jxP d 144 84 [l0, l1, l2, l3] (v :: st) h Q := jg_gf rfl
theorem s144_84 : jx_Go jxP d 144 84 [l0, l1, l2, l3] st h Q ↔ jx_Go jxP d 144 85 [l0, l1, l2, l3] (.int (nI 5) :: st) h Q := jg_c rfl
theorem s144_85 : jx_Go jxP d 144 85 [l0, l1, .int x, l3] st h Q ↔ jx_Go jxP d 144 86 [l0, l1, .int x, l3] (.int x :: st) h Q := jg_il rfl rfl
theorem s144_86 : jx_Go jxP d 144 86 [l0, l1, l2, l3] (.int y :: .int x :: st) h Q ↔ jx_Go jxP d 144 87 [l0, l1, l2, l3] (.int (x * y) :: st) h Q := jg_b (f := fun x y => x * y) rfl
theorem s144_87 : jx_Go jxP d 144 87 [l0, .int x, l2, l3] st h Q ↔ jx_Go jxP d 144 88 [l0, .int x, l2, l3] (.int x :: st) h Q := jg_il rfl rfl
theorem s144_88 : jx_Go jxP d 144 88 [l0, l1, l2, l3] (.int y :: .int x :: st) h Q ↔ jx_Go jxP d 144 89 [l0, l1, l2, l3] (.int (x + y) :: st) h Q := jg_b (f := fun x y => x + y) rfl
theorem s144_89 : jx_Go jxP d 144 89 [l0, l1, l2, l3] (.int x :: .ref a :: st) h Q ↔ ∃ q, jx_ai h a = some q ∧ jx_in x q.1 ∧ jx_Go jxP d 144 90 [l0, l1, l2, l3] (.int (q.2 x.toNatClampNeg) :: st) h Q := jg_ia rfl
theorem s144_90 : jx_Go jxP d 144 90 [l0, l1, l2, l3] (.int y :: .int x :: .ref a :: st) h Q ↔ ∃ q, jx_ai h a = some q ∧ jx_in x q.1 ∧ jx_Go jxP d 144 91 [l0, l1, l2, l3] st (jx_wi h a q.1 (upd q.2 x.toNatClampNeg y)) Q := jg_iw rfl
theorem s144_91 : jx_Go jxP d 144 91 [.ref a, l1, l2, l3] st h Q ↔ jx_Go jxP d 144 92 [.ref a, l1, l2, l3] (.ref a :: st) h Q := jg_al rfl rfl
theorem s144_92 : jx_Go jxP d 144 92 [l0, l1, l2, l3] (.ref a :: st) h Q ↔ ∃ v, jx_fl h a 12 3 = some v ∧ jx_Go jxP d 144 95 [l0, l1, l2, l3] (v :: st) h Q := jg_gf rfl
theorem s144_95 : jx_Go jxP d 144 95 [l0, l1, l2, l3] st h Q ↔ jx_Go jxP d 144 96 [l0, l1, l2, l3] (.int (nI 5) :: st) h Q := jg_c rfl
theorem s144_96 : jx_Go jxP d 144 96 [l0, l1, .int x, l3] st h Q ↔ jx_Go jxP d 144 97 [l0, l1, .int x, l3] (.int x :: st) h Q := jg_il rfl rfl
theorem s144_97 : jx_Go jxP d 144 97 [l0, l1, l2, l3] (.int y :: .int x :: st) h Q ↔ jx_Go jxP d 144 98 [l0, l1, l2, l3] (.int (x * y) :: st) h Q := jg_b (f := fun x y => x * y) rfl
theorem s144_98 : jx_Go jxP d 144 98 [l0, .int x, l2, l3] st h Q ↔ jx_Go jxP d 144 99 [l0, .int x, l2, l3] (.int x :: st) h Q := jg_il rfl rfl
theorem s144_99 : jx_Go jxP d 144 99 [l0, l1, l2, l3] (.int y :: .int x :: st) h Q ↔ jx_Go jxP d 144 100 [l0, l1, l2, l3] (.int (x + y) :: st) h Q := jg_b (f := fun x y => x + y) rfl
theorem s144_100 : jx_Go jxP d 144 100 [l0, l1, l2, .int x] st h Q ↔ jx_Go jxP d 144 101 [l0, l1, l2, .int x] (.int x :: st) h Q := jg_il rfl rfl
theorem s144_101 : jx_Go jxP d 144 101 [l0, l1, l2, l3] (.int y :: .int x :: .ref a :: st) h Q ↔ ∃ q, jx_ai h a = some q ∧ jx_in x q.1 ∧ jx_Go jxP d 144 102 [l0, l1, l2, l3] st (jx_wi h a q.1 (upd q.2 x.toNatClampNeg y)) Q := jg_iw rfl
theorem s144_102 : jx_Go jxP d 144 102 [l0, l1, .int x, l3] st h Q ↔ jx_Go jxP d 144 105 [l0, l1, .int (x + (nI 1)), l3] st h Q := jg_inc rfl rfl rfl
theorem s144_105 : jx_Go jxP d 144 105 [l0, l1, l2, l3] st h Q ↔ jx_Go jxP d 144 13 [l0, l1, l2, l3] st h Q := jg_go rfl
theorem s144_108 : jx_Go jxP d 144 108 [l0, .int x, l2, l3] st h Q ↔ jx_Go jxP d 144 111 [l0, .int (x + (nI 1)), l2, l3] st h Q := jg_inc rfl rfl rfl
theorem s144_111 : jx_Go jxP d 144 111 [l0, l1, l2, l3] st h Q ↔ jx_Go jxP d 144 6 [l0, l1, l2, l3] st h Q := jg_go rfl
theorem s144_114 : jx_Go jxP d 144 114 [.ref a, l1, l2, l3] st h Q ↔ jx_Go jxP d 144 115 [.ref a, l1, l2, l3] (.ref a :: st) h Q := jg_al rfl rfl
theorem s144_115 : jx_Go jxP d 144 115 [l0, l1, l2, l3] (.ref a :: st) h Q ↔ ∃ v, jx_fl h a 12 0 = some v ∧ jx_Go jxP d 144 118 [l0, l1, l2, l3] (v :: st) h Q := jg_gf rfl
theorem s144_118 : jx_Go jxP d 144 118 [l0, l1, l2, l3] (.int x :: st) h Q ↔ jx_Go jxP d 144 119 [l0, .int x, l2, l3] st h Q := jg_is rfl rfl
theorem s144_119 : jx_Go jxP d 144 119 [.ref a, l1, l2, l3] st h Q ↔ jx_Go jxP d 144 120 [.ref a, l1, l2, l3] (.ref a :: st) h Q := jg_al rfl rfl
theorem s144_120 : jx_Go jxP d 144 120 [.ref a, l1, l2, l3] st h Q ↔ jx_Go jxP d 144 121 [.ref a, l1, l2, l3] (.ref a :: st) h Q := jg_al rfl rfl
theorem s144_121 : jx_Go jxP d 144 121 [l0, l1, l2, l3] (.ref a :: st) h Q ↔ ∃ v, jx_fl h a 12 1 = some v ∧ jx_Go jxP d 144 124 [l0, l1, l2, l3] (v :: st) h Q := jg_gf rfl
theorem s144_124 : jx_Go jxP d 144 124 [l0, l1, l2, l3] (.int x :: .ref a :: st) h Q ↔ ∃ v, jx_fl h a 12 0 = some v ∧ jx_Go jxP d 144 127 [l0, l1, l2, l3] st (jx_uf h a 0 (.int x)) Q := jg_pfI rfl
theorem s144_127 : jx_Go jxP d 144 127 [.ref a, l1, l2, l3] st h Q ↔ jx_Go jxP d 144 128 [.ref a, l1, l2, l3] (.ref a :: st) h Q := jg_al rfl rfl
theorem s144_128 : jx_Go jxP d 144 128 [l0, .int x, l2, l3] st h Q ↔ jx_Go jxP d 144 129 [l0, .int x, l2, l3] (.int x :: st) h Q := jg_il rfl rfl
theorem s144_129 : jx_Go jxP d 144 129 [l0, l1, l2, l3] (.int x :: .ref a :: st) h Q ↔ ∃ v, jx_fl h a 12 1 = some v ∧ jx_Go jxP d 144 132 [l0, l1, l2, l3] st (jx_uf h a 1 (.int x)) Q := jg_pfI rfl
theorem s144_132 : jx_Go jxP d 144 132 [.ref a, l1, l2, l3] st h Q ↔ jx_Go jxP d 144 133 [.ref a, l1, l2, l3] (.ref a :: st) h Q := jg_al rfl rfl
theorem s144_133 : jx_Go jxP d 144 133 [l0, l1, l2, l3] st h Q ↔ jx_Go jxP d 144 134 [l0, l1, l2, l3] (.int (nI 0) :: st) h Q := jg_c rfl
theorem s144_134 : jx_Go jxP d 144 134 [l0, l1, l2, l3] (.int x :: .ref a :: st) h Q ↔ ∃ v, jx_fl h a 12 14 = some v ∧ jx_Go jxP d 144 137 [l0, l1, l2, l3] st (jx_uf h a 14 (.int x)) Q := jg_pfI rfl
theorem s144_137 : jx_Go jxP d 144 137 [.ref a, l1, l2, l3] st h Q ↔ jx_Go jxP d 144 138 [.ref a, l1, l2, l3] (.ref a :: st) h Q := jg_al rfl rfl
theorem s144_138 : jx_Go jxP d 144 138 [l0, l1, l2, l3] (.ref a :: st) h Q ↔ ∃ v, jx_fl h a 12 0 = some v ∧ jx_Go jxP d 144 141 [l0, l1, l2, l3] (v :: st) h Q := jg_gf rfl
theorem s144_141 : jx_Go jxP d 144 141 [l0, l1, l2, l3] [.int x] h Q ↔ Q [.int x] h := jx_rt rfl rfl
-- 145 TalkBenchModel.turnAnswers
theorem s145_0 : jx_Go jxP d 145 0 [.ref a, l1] st h Q ↔ jx_Go jxP d 145 1 [.ref a, l1] (.ref a :: st) h Q := jg_al rfl rfl
theorem s145_1 : jx_Go jxP (d + 1) 145 1 [l0, l1] (.ref a :: st) h Q ↔ (st.length ≤ 4 ∧ jx_cl h a = some 12 ∧ jx_Go jxP d 136 0 [.ref a, jx_u] [] h (fun s1 h1 => jx_Go jxP (d + 1) 145 4 [l0, l1] (s1 ++ st) h1 Q)) := jg_callV (as := [.ref a]) rfl rfl rfl rfl rfl
theorem s145_4 : jx_Go jxP d 145 4 [l0, l1] st h Q ↔ jx_Go jxP d 145 5 [l0, l1] (.int (nI 0) :: st) h Q := jg_c rfl
theorem s145_5 : jx_Go jxP d 145 5 [l0, l1] (.int x :: st) h Q ↔ jx_Go jxP d 145 6 [l0, .int x] st h Q := jg_is rfl rfl
theorem s145_6 : jx_Go jxP d 145 6 [l0, .int x] st h Q ↔ jx_Go jxP d 145 7 [l0, .int x] (.int x :: st) h Q := jg_il rfl rfl
theorem s145_7 : jx_Go jxP d 145 7 [l0, l1] st h Q ↔ jx_Go jxP d 145 9 [l0, l1] (.int (nI 25) :: st) h Q := jg_c rfl
theorem s145_9 : jx_Go jxP d 145 9 [l0, l1] (.int y :: .int x :: st) h Q ↔ if y ≤ x then jx_Go jxP d 145 46 [l0, l1] st h Q else jx_Go jxP d 145 12 [l0, l1] st h Q := jg_icP rfl rfl
theorem s145_12 : jx_Go jxP d 145 12 [.ref a, l1] st h Q ↔ jx_Go jxP d 145 13 [.ref a, l1] (.ref a :: st) h Q := jg_al rfl rfl
theorem s145_13 : jx_Go jxP d 145 13 [l0, l1] (.ref a :: st) h Q ↔ ∃ v, jx_fl h a 12 2 = some v ∧ jx_Go jxP d 145 16 [l0, l1] (v :: st) h Q := jg_gf rfl
theorem s145_16 : jx_Go jxP d 145 16 [l0, .int x] st h Q ↔ jx_Go jxP d 145 17 [l0, .int x] (.int x :: st) h Q := jg_il rfl rfl
theorem s145_17 : jx_Go jxP d 145 17 [.ref a, l1] st h Q ↔ jx_Go jxP d 145 18 [.ref a, l1] (.ref a :: st) h Q := jg_al rfl rfl
theorem s145_18 : jx_Go jxP d 145 18 [l0, l1] (.ref a :: st) h Q ↔ ∃ v, jx_fl h a 12 2 = some v ∧ jx_Go jxP d 145 21 [l0, l1] (v :: st) h Q := jg_gf rfl
theorem s145_21 : jx_Go jxP d 145 21 [l0, .int x] st h Q ↔ jx_Go jxP d 145 22 [l0, .int x] (.int x :: st) h Q := jg_il rfl rfl
theorem s145_22 : jx_Go jxP d 145 22 [l0, l1] (.int x :: .ref a :: st) h Q ↔ ∃ q, jx_ai h a = some q ∧ jx_in x q.1 ∧ jx_Go jxP d 145 23 [l0, l1] (.int (q.2 x.toNatClampNeg) :: st) h Q := jg_ia rfl
theorem s145_23 : jx_Go jxP d 145 23 [l0, l1] st h Q ↔ jx_Go jxP d 145 24 [l0, l1] (.int (nI 2) :: st) h Q := jg_c rfl
theorem s145_24 : jx_Go jxP d 145 24 [l0, l1] (.int y :: .int x :: st) h Q ↔ if x = y then jx_Go jxP d 145 27 [l0, l1] st h Q else jx_Go jxP d 145 31 [l0, l1] st h Q := jg_icN rfl rfl
theorem s145_27 : jx_Go jxP d 145 27 [l0, l1] st h Q ↔ jx_Go jxP d 145 28 [l0, l1] (.int (nI 2) :: st) h Q := jg_c rfl
theorem s145_28 : jx_Go jxP d 145 28 [l0, l1] st h Q ↔ jx_Go jxP d 145 39 [l0, l1] st h Q := jg_go rfl
theorem s145_31 : jx_Go jxP d 145 31 [l0, l1] st h Q ↔ jx_Go jxP d 145 32 [l0, l1] (.int (nI 1) :: st) h Q := jg_c rfl
theorem s145_32 : jx_Go jxP d 145 32 [.ref a, l1] st h Q ↔ jx_Go jxP d 145 33 [.ref a, l1] (.ref a :: st) h Q := jg_al rfl rfl
theorem s145_33 : jx_Go jxP d 145 33 [l0, l1] (.ref a :: st) h Q ↔ ∃ v, jx_fl h a 12 2 = some v ∧ jx_Go jxP d 145 36 [l0, l1] (v :: st) h Q := jg_gf rfl
theorem s145_36 : jx_Go jxP d 145 36 [l0, .int x] st h Q ↔ jx_Go jxP d 145 37 [l0, .int x] (.int x :: st) h Q := jg_il rfl rfl
theorem s145_37 : jx_Go jxP d 145 37 [l0, l1] (.int x :: .ref a :: st) h Q ↔ ∃ q, jx_ai h a = some q ∧ jx_in x q.1 ∧ jx_Go jxP d 145 38 [l0, l1] (.int (q.2 x.toNatClampNeg) :: st) h Q := jg_ia rfl
theorem s145_38 : jx_Go jxP d 145 38 [l0, l1] (.int y :: .int x :: st) h Q ↔ jx_Go jxP d 145 39 [l0, l1] (.int (x - y) :: st) h Q := jg_b (f := fun x y => x - y) rfl
theorem s145_39 : jx_Go jxP d 145 39 [l0, l1] (.int y :: .int x :: .ref a :: st) h Q ↔ ∃ q, jx_ai h a = some q ∧ jx_in x q.1 ∧ jx_Go jxP d 145 40 [l0, l1] st (jx_wi h a q.1 (upd q.2 x.toNatClampNeg y)) Q := jg_iw rfl
theorem s145_40 : jx_Go jxP d 145 40 [l0, .int x] st h Q ↔ jx_Go jxP d 145 43 [l0, .int (x + (nI 1))] st h Q := jg_inc rfl rfl rfl
theorem s145_43 : jx_Go jxP d 145 43 [l0, l1] st h Q ↔ jx_Go jxP d 145 6 [l0, l1] st h Q := jg_go rfl
theorem s145_46 : jx_Go jxP d 145 46 [.ref a, l1] st h Q ↔ jx_Go jxP d 145 47 [.ref a, l1] (.ref a :: st) h Q := jg_al rfl rfl
theorem s145_47 : jx_Go jxP d 145 47 [l0, l1] st h Q ↔ jx_Go jxP d 145 48 [l0, l1] (.int (nI 0) :: st) h Q := jg_c rfl
theorem s145_48 : jx_Go jxP d 145 48 [l0, l1] (.int x :: .ref a :: st) h Q ↔ ∃ v, jx_fl h a 12 14 = some v ∧ jx_Go jxP d 145 51 [l0, l1] st (jx_uf h a 14 (.int x)) Q := jg_pfI rfl
theorem s145_51 : jx_Go jxP d 145 51 [.ref a, l1] st h Q ↔ jx_Go jxP d 145 52 [.ref a, l1] (.ref a :: st) h Q := jg_al rfl rfl
theorem s145_52 : jx_Go jxP d 145 52 [l0, l1] st h Q ↔ jx_Go jxP d 145 53 [l0, l1] (.int (nI 1) :: st) h Q := jg_c rfl
theorem s145_53 : jx_Go jxP (d + 1) 145 53 [l0, l1] (.int x0 :: .ref a :: st) h Q ↔ (st.length ≤ 4 ∧ jx_cl h a = some 12 ∧ jx_Go jxP d 138 0 [.ref a, .int x0, jx_u, jx_u, jx_u] [] h (fun s1 h1 => jx_Go jxP (d + 1) 145 56 [l0, l1] (s1 ++ st) h1 Q)) := jg_callV (as := [.int x0, .ref a]) rfl rfl rfl rfl rfl
theorem s145_56 : jx_Go jxP d 145 56 [l0, l1] [.int x] h Q ↔ Q [.int x] h := jx_rt rfl rfl
-- 146 TalkBenchModel.at
theorem s146_0 : jx_Go jxP d 146 0 [l0, .int x, l2, l3] st h Q ↔ jx_Go jxP d 146 1 [l0, .int x, l2, l3] (.int x :: st) h Q := jg_il rfl rfl
theorem s146_1 : jx_Go jxP d 146 1 [l0, l1, l2, l3] (.int x :: st) h Q ↔ if x = 0 then jx_Go jxP d 146 17 [l0, l1, l2, l3] st h Q else jx_Go jxP d 146 4 [l0, l1, l2, l3] st h Q := jg_ifP rfl rfl
theorem s146_4 : jx_Go jxP d 146 4 [.ref a, l1, l2, l3] st h Q ↔ jx_Go jxP d 146 5 [.ref a, l1, l2, l3] (.ref a :: st) h Q := jg_al rfl rfl
theorem s146_5 : jx_Go jxP d 146 5 [l0, l1, l2, l3] (.ref a :: st) h Q ↔ ∃ v, jx_fl h a 12 2 = some v ∧ jx_Go jxP d 146 8 [l0, l1, l2, l3] (v :: st) h Q := jg_gf rfl
theorem s146_8 : jx_Go jxP d 146 8 [l0, l1, l2, l3] st h Q ↔ jx_Go jxP d 146 9 [l0, l1, l2, l3] (.int (nI 5) :: st) h Q := jg_c rfl
theorem s146_9 : jx_Go jxP d 146 9 [l0, l1, l2, .int x] st h Q ↔ jx_Go jxP d 146 10 [l0, l1, l2, .int x] (.int x :: st) h Q := jg_il rfl rfl
theorem s146_10 : jx_Go jxP d 146 10 [l0, l1, l2, l3] (.int y :: .int x :: st) h Q ↔ jx_Go jxP d 146 11 [l0, l1, l2, l3] (.int (x * y) :: st) h Q := jg_b (f := fun x y => x * y) rfl
theorem s146_11 : jx_Go jxP d 146 11 [l0, l1, .int x, l3] st h Q ↔ jx_Go jxP d 146 12 [l0, l1, .int x, l3] (.int x :: st) h Q := jg_il rfl rfl
theorem s146_12 : jx_Go jxP d 146 12 [l0, l1, l2, l3] (.int y :: .int x :: st) h Q ↔ jx_Go jxP d 146 13 [l0, l1, l2, l3] (.int (x + y) :: st) h Q := jg_b (f := fun x y => x + y) rfl
theorem s146_13 : jx_Go jxP d 146 13 [l0, l1, l2, l3] (.int x :: .ref a :: st) h Q ↔ ∃ q, jx_ai h a = some q ∧ jx_in x q.1 ∧ jx_Go jxP d 146 14 [l0, l1, l2, l3] (.int (q.2 x.toNatClampNeg) :: st) h Q := jg_ia rfl
theorem s146_14 : jx_Go jxP d 146 14 [l0, l1, l2, l3] st h Q ↔ jx_Go jxP d 146 27 [l0, l1, l2, l3] st h Q := jg_go rfl
theorem s146_17 : jx_Go jxP d 146 17 [.ref a, l1, l2, l3] st h Q ↔ jx_Go jxP d 146 18 [.ref a, l1, l2, l3] (.ref a :: st) h Q := jg_al rfl rfl
theorem s146_18 : jx_Go jxP d 146 18 [l0, l1, l2, l3] (.ref a :: st) h Q ↔ ∃ v, jx_fl h a 12 2 = some v ∧ jx_Go jxP d 146 21 [l0, l1, l2, l3] (v :: st) h Q := jg_gf rfl
theorem s146_21 : jx_Go jxP d 146 21 [l0, l1, l2, l3] st h Q ↔ jx_Go jxP d 146 22 [l0, l1, l2, l3] (.int (nI 5) :: st) h Q := jg_c rfl
theorem s146_22 : jx_Go jxP d 146 22 [l0, l1, .int x, l3] st h Q ↔ jx_Go jxP d 146 23 [l0, l1, .int x, l3] (.int x :: st) h Q := jg_il rfl rfl
theorem s146_23 : jx_Go jxP d 146 23 [l0, l1, l2, l3] (.int y :: .int x :: st) h Q ↔ jx_Go jxP d 146 24 [l0, l1, l2, l3] (.int (x * y) :: st) h Q := jg_b (f := fun x y => x * y) rfl
theorem s146_24 : jx_Go jxP d 146 24 [l0, l1, l2, .int x] st h Q ↔ jx_Go jxP d 146 25 [l0, l1, l2, .int x] (.int x :: st) h Q := jg_il rfl rfl
theorem s146_25 : jx_Go jxP d 146 25 [l0, l1, l2, l3] (.int y :: .int x :: st) h Q ↔ jx_Go jxP d 146 26 [l0, l1, l2, l3] (.int (x + y) :: st) h Q := jg_b (f := fun x y => x + y) rfl
theorem s146_26 : jx_Go jxP d 146 26 [l0, l1, l2, l3] (.int x :: .ref a :: st) h Q ↔ ∃ q, jx_ai h a = some q ∧ jx_in x q.1 ∧ jx_Go jxP d 146 27 [l0, l1, l2, l3] (.int (q.2 x.toNatClampNeg) :: st) h Q := jg_ia rfl
theorem s146_27 : jx_Go jxP d 146 27 [l0, l1, l2, l3] [.int x] h Q ↔ Q [.int x] h := jx_rt rfl rfl
-- 147 TalkBenchModel.unlike
theorem s147_0 : jx_Go jxP d 147 0 [l0, .int x, l2, l3, l4, l5, l6, l7, l8] st h Q ↔ jx_Go jxP d 147 1 [l0, .int x, l2, l3, l4, l5, l6, l7, l8] (.int x :: st) h Q := jg_il rfl rfl
theorem s147_1 : jx_Go jxP d 147 1 [l0, l1, l2, l3, l4, l5, l6, l7, l8] (.int x :: st) h Q ↔ if x = 0 then jx_Go jxP d 147 11 [l0, l1, l2, l3, l4, l5, l6, l7, l8] st h Q else jx_Go jxP d 147 4 [l0, l1, l2, l3, l4, l5, l6, l7, l8] st h Q := jg_ifP rfl rfl
theorem s147_4 : jx_Go jxP d 147 4 [.ref a, l1, l2, l3, l4, l5, l6, l7, l8] st h Q ↔ jx_Go jxP d 147 5 [.ref a, l1, l2, l3, l4, l5, l6, l7, l8] (.ref a :: st) h Q := jg_al rfl rfl
theorem s147_5 : jx_Go jxP d 147 5 [l0, l1, l2, l3, l4, l5, l6, l7, l8] (.ref a :: st) h Q ↔ ∃ v, jx_fl h a 12 1 = some v ∧ jx_Go jxP d 147 8 [l0, l1, l2, l3, l4, l5, l6, l7, l8] (v :: st) h Q := jg_gf rfl
theorem s147_8 : jx_Go jxP d 147 8 [l0, l1, l2, l3, l4, l5, l6, l7, l8] st h Q ↔ jx_Go jxP d 147 15 [l0, l1, l2, l3, l4, l5, l6, l7, l8] st h Q := jg_go rfl
theorem s147_11 : jx_Go jxP d 147 11 [.ref a, l1, l2, l3, l4, l5, l6, l7, l8] st h Q ↔ jx_Go jxP d 147 12 [.ref a, l1, l2, l3, l4, l5, l6, l7, l8] (.ref a :: st) h Q := jg_al rfl rfl
theorem s147_12 : jx_Go jxP d 147 12 [l0, l1, l2, l3, l4, l5, l6, l7, l8] (.ref a :: st) h Q ↔ ∃ v, jx_fl h a 12 0 = some v ∧ jx_Go jxP d 147 15 [l0, l1, l2, l3, l4, l5, l6, l7, l8] (v :: st) h Q := jg_gf rfl
theorem s147_15 : jx_Go jxP d 147 15 [l0, l1, l2, l3, l4, l5, l6, l7, l8] (.int x :: st) h Q ↔ jx_Go jxP d 147 16 [l0, l1, .int x, l3, l4, l5, l6, l7, l8] st h Q := jg_is rfl rfl
theorem s147_16 : jx_Go jxP d 147 16 [l0, l1, l2, l3, l4, l5, l6, l7, l8] st h Q ↔ jx_Go jxP d 147 17 [l0, l1, l2, l3, l4, l5, l6, l7, l8] (.int (nI 0) :: st) h Q := jg_c rfl
theorem s147_17 : jx_Go jxP d 147 17 [l0, l1, l2, l3, l4, l5, l6, l7, l8] (.int x :: st) h Q ↔ jx_Go jxP d 147 18 [l0, l1, l2, .int x, l4, l5, l6, l7, l8] st h Q := jg_is rfl rfl
theorem s147_18 : jx_Go jxP d 147 18 [l0, l1, l2, l3, l4, l5, l6, l7, l8] st h Q ↔ jx_Go jxP d 147 19 [l0, l1, l2, l3, l4, l5, l6, l7, l8] (.int (nI 0) :: st) h Q := jg_c rfl
theorem s147_19 : jx_Go jxP d 147 19 [l0, l1, l2, l3, l4, l5, l6, l7, l8] (.int x :: st) h Q ↔ jx_Go jxP d 147 21 [l0, l1, l2, l3, .int x, l5, l6, l7, l8] st h Q := jg_is rfl rfl
theorem s147_21 : jx_Go jxP d 147 21 [l0, l1, l2, l3, .int x, l5, l6, l7, l8] st h Q ↔ jx_Go jxP d 147 23 [l0, l1, l2, l3, .int x, l5, l6, l7, l8] (.int x :: st) h Q := jg_il rfl rfl
theorem s147_23 : jx_Go jxP d 147 23 [l0, l1, .int x, l3, l4, l5, l6, l7, l8] st h Q ↔ jx_Go jxP d 147 24 [l0, l1, .int x, l3, l4, l5, l6, l7, l8] (.int x :: st) h Q := jg_il rfl rfl
theorem s147_24 : jx_Go jxP d 147 24 [l0, l1, l2, l3, l4, l5, l6, l7, l8] (.int y :: .int x :: st) h Q ↔ if y ≤ x then jx_Go jxP d 147 143 [l0, l1, l2, l3, l4, l5, l6, l7, l8] st h Q else jx_Go jxP d 147 27 [l0, l1, l2, l3, l4, l5, l6, l7, l8] st h Q := jg_icP rfl rfl
theorem s147_27 : jx_Go jxP d 147 27 [l0, l1, l2, l3, l4, l5, l6, l7, l8] st h Q ↔ jx_Go jxP d 147 28 [l0, l1, l2, l3, l4, l5, l6, l7, l8] (.int (nI 1) :: st) h Q := jg_c rfl
theorem s147_28 : jx_Go jxP d 147 28 [l0, l1, l2, l3, l4, l5, l6, l7, l8] (.int x :: st) h Q ↔ jx_Go jxP d 147 30 [l0, l1, l2, l3, l4, .int x, l6, l7, l8] st h Q := jg_is rfl rfl
theorem s147_30 : jx_Go jxP d 147 30 [l0, l1, l2, l3, l4, l5, l6, l7, l8] st h Q ↔ jx_Go jxP d 147 31 [l0, l1, l2, l3, l4, l5, l6, l7, l8] (.int (nI 0) :: st) h Q := jg_c rfl
theorem s147_31 : jx_Go jxP d 147 31 [l0, l1, l2, l3, l4, l5, l6, l7, l8] (.int x :: st) h Q ↔ jx_Go jxP d 147 33 [l0, l1, l2, l3, l4, l5, .int x, l7, l8] st h Q := jg_is rfl rfl
theorem s147_33 : jx_Go jxP d 147 33 [l0, l1, l2, l3, l4, l5, .int x, l7, l8] st h Q ↔ jx_Go jxP d 147 35 [l0, l1, l2, l3, l4, l5, .int x, l7, l8] (.int x :: st) h Q := jg_il rfl rfl
theorem s147_35 : jx_Go jxP d 147 35 [l0, l1, l2, l3, .int x, l5, l6, l7, l8] st h Q ↔ jx_Go jxP d 147 37 [l0, l1, l2, l3, .int x, l5, l6, l7, l8] (.int x :: st) h Q := jg_il rfl rfl
theorem s147_37 : jx_Go jxP d 147 37 [l0, l1, l2, l3, l4, l5, l6, l7, l8] (.int y :: .int x :: st) h Q ↔ if y ≤ x then jx_Go jxP d 147 124 [l0, l1, l2, l3, l4, l5, l6, l7, l8] st h Q else jx_Go jxP d 147 40 [l0, l1, l2, l3, l4, l5, l6, l7, l8] st h Q := jg_icP rfl rfl
theorem s147_40 : jx_Go jxP d 147 40 [l0, l1, l2, l3, l4, l5, l6, l7, l8] st h Q ↔ jx_Go jxP d 147 41 [l0, l1, l2, l3, l4, l5, l6, l7, l8] (.int (nI 1) :: st) h Q := jg_c rfl
theorem s147_41 : jx_Go jxP d 147 41 [l0, l1, l2, l3, l4, l5, l6, l7, l8] (.int x :: st) h Q ↔ jx_Go jxP d 147 43 [l0, l1, l2, l3, l4, l5, l6, .int x, l8] st h Q := jg_is rfl rfl
theorem s147_43 : jx_Go jxP d 147 43 [l0, l1, l2, l3, l4, l5, l6, l7, l8] st h Q ↔ jx_Go jxP d 147 44 [l0, l1, l2, l3, l4, l5, l6, l7, l8] (.int (nI 0) :: st) h Q := jg_c rfl
theorem s147_44 : jx_Go jxP d 147 44 [l0, l1, l2, l3, l4, l5, l6, l7, l8] (.int x :: st) h Q ↔ jx_Go jxP d 147 46 [l0, l1, l2, l3, l4, l5, l6, l7, .int x] st h Q := jg_is rfl rfl
theorem s147_46 : jx_Go jxP d 147 46 [l0, l1, l2, l3, l4, l5, l6, l7, .int x] st h Q ↔ jx_Go jxP d 147 48 [l0, l1, l2, l3, l4, l5, l6, l7, .int x] (.int x :: st) h Q := jg_il rfl rfl
theorem s147_48 : jx_Go jxP d 147 48 [l0, .int x, l2, l3, l4, l5, l6, l7, l8] st h Q ↔ jx_Go jxP d 147 49 [l0, .int x, l2, l3, l4, l5, l6, l7, l8] (.int x :: st) h Q := jg_il rfl rfl
theorem s147_49 : jx_Go jxP d 147 49 [l0, l1, l2, l3, l4, l5, l6, l7, l8] (.int x :: st) h Q ↔ if x = 0 then jx_Go jxP d 147 59 [l0, l1, l2, l3, l4, l5, l6, l7, l8] st h Q else jx_Go jxP d 147 52 [l0, l1, l2, l3, l4, l5, l6, l7, l8] st h Q := jg_ifP rfl rfl
theorem s147_52 : jx_Go jxP d 147 52 [.ref a, l1, l2, l3, l4, l5, l6, l7, l8] st h Q ↔ jx_Go jxP d 147 53 [.ref a, l1, l2, l3, l4, l5, l6, l7, l8] (.ref a :: st) h Q := jg_al rfl rfl
theorem s147_53 : jx_Go jxP d 147 53 [l0, l1, l2, l3, l4, l5, l6, l7, l8] (.ref a :: st) h Q ↔ ∃ v, jx_fl h a 12 0 = some v ∧ jx_Go jxP d 147 56 [l0, l1, l2, l3, l4, l5, l6, l7, l8] (v :: st) h Q := jg_gf rfl
theorem s147_56 : jx_Go jxP d 147 56 [l0, l1, l2, l3, l4, l5, l6, l7, l8] st h Q ↔ jx_Go jxP d 147 63 [l0, l1, l2, l3, l4, l5, l6, l7, l8] st h Q := jg_go rfl
theorem s147_59 : jx_Go jxP d 147 59 [.ref a, l1, l2, l3, l4, l5, l6, l7, l8] st h Q ↔ jx_Go jxP d 147 60 [.ref a, l1, l2, l3, l4, l5, l6, l7, l8] (.ref a :: st) h Q := jg_al rfl rfl
theorem s147_60 : jx_Go jxP d 147 60 [l0, l1, l2, l3, l4, l5, l6, l7, l8] (.ref a :: st) h Q ↔ ∃ v, jx_fl h a 12 1 = some v ∧ jx_Go jxP d 147 63 [l0, l1, l2, l3, l4, l5, l6, l7, l8] (v :: st) h Q := jg_gf rfl
theorem s147_63 : jx_Go jxP d 147 63 [l0, l1, l2, l3, l4, l5, l6, l7, l8] (.int y :: .int x :: st) h Q ↔ if y ≤ x then jx_Go jxP d 147 103 [l0, l1, l2, l3, l4, l5, l6, l7, l8] st h Q else jx_Go jxP d 147 66 [l0, l1, l2, l3, l4, l5, l6, l7, l8] st h Q := jg_icP rfl rfl
theorem s147_66 : jx_Go jxP d 147 66 [l0, l1, l2, l3, l4, l5, l6, .int x, l8] st h Q ↔ jx_Go jxP d 147 68 [l0, l1, l2, l3, l4, l5, l6, .int x, l8] (.int x :: st) h Q := jg_il rfl rfl
theorem s147_68 : jx_Go jxP d 147 68 [.ref a, l1, l2, l3, l4, l5, l6, l7, l8] st h Q ↔ jx_Go jxP d 147 69 [.ref a, l1, l2, l3, l4, l5, l6, l7, l8] (.ref a :: st) h Q := jg_al rfl rfl
theorem s147_69 : jx_Go jxP d 147 69 [l0, .int x, l2, l3, l4, l5, l6, l7, l8] st h Q ↔ jx_Go jxP d 147 70 [l0, .int x, l2, l3, l4, l5, l6, l7, l8] (.int x :: st) h Q := jg_il rfl rfl
theorem s147_70 : jx_Go jxP d 147 70 [l0, l1, l2, l3, .int x, l5, l6, l7, l8] st h Q ↔ jx_Go jxP d 147 72 [l0, l1, l2, l3, .int x, l5, l6, l7, l8] (.int x :: st) h Q := jg_il rfl rfl
theorem s147_72 : jx_Go jxP d 147 72 [l0, l1, l2, l3, l4, l5, l6, l7, .int x] st h Q ↔ jx_Go jxP d 147 74 [l0, l1, l2, l3, l4, l5, l6, l7, .int x] (.int x :: st) h Q := jg_il rfl rfl
theorem s147_74 : jx_Go jxP (d + 1) 147 74 [l0, l1, l2, l3, l4, l5, l6, l7, l8] (.int x2 :: .int x1 :: .int x0 :: .ref a :: st) h Q ↔ (st.length ≤ 4 ∧ jx_cl h a = some 12 ∧ jx_Go jxP d 146 0 [.ref a, .int x0, .int x1, .int x2] [] h (fun s1 h1 => jx_Go jxP (d + 1) 147 77 [l0, l1, l2, l3, l4, l5, l6, l7, l8] (s1 ++ st) h1 Q)) := jg_callV (as := [.int x2, .int x1, .int x0, .ref a]) rfl rfl rfl rfl rfl
theorem s147_77 : jx_Go jxP d 147 77 [.ref a, l1, l2, l3, l4, l5, l6, l7, l8] st h Q ↔ jx_Go jxP d 147 78 [.ref a, l1, l2, l3, l4, l5, l6, l7, l8] (.ref a :: st) h Q := jg_al rfl rfl
theorem s147_78 : jx_Go jxP d 147 78 [l0, .int x, l2, l3, l4, l5, l6, l7, l8] st h Q ↔ jx_Go jxP d 147 79 [l0, .int x, l2, l3, l4, l5, l6, l7, l8] (.int x :: st) h Q := jg_il rfl rfl
theorem s147_79 : jx_Go jxP d 147 79 [l0, l1, l2, l3, l4, l5, .int x, l7, l8] st h Q ↔ jx_Go jxP d 147 81 [l0, l1, l2, l3, l4, l5, .int x, l7, l8] (.int x :: st) h Q := jg_il rfl rfl
theorem s147_81 : jx_Go jxP d 147 81 [l0, l1, l2, l3, l4, l5, l6, l7, .int x] st h Q ↔ jx_Go jxP d 147 83 [l0, l1, l2, l3, l4, l5, l6, l7, .int x] (.int x :: st) h Q := jg_il rfl rfl
theorem s147_83 : jx_Go jxP (d + 1) 147 83 [l0, l1, l2, l3, l4, l5, l6, l7, l8] (.int x2 :: .int x1 :: .int x0 :: .ref a :: st) h Q ↔ (st.length ≤ 4 ∧ jx_cl h a = some 12 ∧ jx_Go jxP d 146 0 [.ref a, .int x0, .int x1, .int x2] [] h (fun s1 h1 => jx_Go jxP (d + 1) 147 86 [l0, l1, l2, l3, l4, l5, l6, l7, l8] (s1 ++ st) h1 Q)) := jg_callV (as := [.int x2, .int x1, .int x0, .ref a]) rfl rfl rfl rfl rfl
theorem s147_86 : jx_Go jxP d 147 86 [l0, l1, l2, l3, l4, l5, l6, l7, l8] (.int y :: .int x :: st) h Q ↔ if x = y then jx_Go jxP d 147 89 [l0, l1, l2, l3, l4, l5, l6, l7, l8] st h Q else jx_Go jxP d 147 93 [l0, l1, l2, l3, l4, l5, l6, l7, l8] st h Q := jg_icN rfl rfl
theorem s147_89 : jx_Go jxP d 147 89 [l0, l1, l2, l3, l4, l5, l6, l7, l8] st h Q ↔ jx_Go jxP d 147 90 [l0, l1, l2, l3, l4, l5, l6, l7, l8] (.int (nI 1) :: st) h Q := jg_c rfl
theorem s147_90 : jx_Go jxP d 147 90 [l0, l1, l2, l3, l4, l5, l6, l7, l8] st h Q ↔ jx_Go jxP d 147 94 [l0, l1, l2, l3, l4, l5, l6, l7, l8] st h Q := jg_go rfl
theorem s147_93 : jx_Go jxP d 147 93 [l0, l1, l2, l3, l4, l5, l6, l7, l8] st h Q ↔ jx_Go jxP d 147 94 [l0, l1, l2, l3, l4, l5, l6, l7, l8] (.int (nI 0) :: st) h Q := jg_c rfl
theorem s147_94 : jx_Go jxP d 147 94 [l0, l1, l2, l3, l4, l5, l6, l7, l8] (.int y :: .int x :: st) h Q ↔ jx_Go jxP d 147 95 [l0, l1, l2, l3, l4, l5, l6, l7, l8] (.int (x &&& y) :: st) h Q := jg_b (f := fun x y => x &&& y) rfl
theorem s147_95 : jx_Go jxP d 147 95 [l0, l1, l2, l3, l4, l5, l6, l7, l8] (.int x :: st) h Q ↔ jx_Go jxP d 147 97 [l0, l1, l2, l3, l4, l5, l6, .int x, l8] st h Q := jg_is rfl rfl
theorem s147_97 : jx_Go jxP d 147 97 [l0, l1, l2, l3, l4, l5, l6, l7, .int x] st h Q ↔ jx_Go jxP d 147 100 [l0, l1, l2, l3, l4, l5, l6, l7, .int (x + (nI 1))] st h Q := jg_inc rfl rfl rfl
theorem s147_100 : jx_Go jxP d 147 100 [l0, l1, l2, l3, l4, l5, l6, l7, l8] st h Q ↔ jx_Go jxP d 147 46 [l0, l1, l2, l3, l4, l5, l6, l7, l8] st h Q := jg_go rfl
theorem s147_103 : jx_Go jxP d 147 103 [l0, l1, l2, l3, l4, .int x, l6, l7, l8] st h Q ↔ jx_Go jxP d 147 105 [l0, l1, l2, l3, l4, .int x, l6, l7, l8] (.int x :: st) h Q := jg_il rfl rfl
theorem s147_105 : jx_Go jxP d 147 105 [l0, l1, l2, l3, l4, l5, l6, .int x, l8] st h Q ↔ jx_Go jxP d 147 107 [l0, l1, l2, l3, l4, l5, l6, .int x, l8] (.int x :: st) h Q := jg_il rfl rfl
theorem s147_107 : jx_Go jxP d 147 107 [l0, l1, l2, l3, l4, l5, l6, l7, l8] (.int x :: st) h Q ↔ if x = 0 then jx_Go jxP d 147 110 [l0, l1, l2, l3, l4, l5, l6, l7, l8] st h Q else jx_Go jxP d 147 114 [l0, l1, l2, l3, l4, l5, l6, l7, l8] st h Q := jg_ifN rfl rfl
theorem s147_110 : jx_Go jxP d 147 110 [l0, l1, l2, l3, l4, l5, l6, l7, l8] st h Q ↔ jx_Go jxP d 147 111 [l0, l1, l2, l3, l4, l5, l6, l7, l8] (.int (nI 1) :: st) h Q := jg_c rfl
theorem s147_111 : jx_Go jxP d 147 111 [l0, l1, l2, l3, l4, l5, l6, l7, l8] st h Q ↔ jx_Go jxP d 147 115 [l0, l1, l2, l3, l4, l5, l6, l7, l8] st h Q := jg_go rfl
theorem s147_114 : jx_Go jxP d 147 114 [l0, l1, l2, l3, l4, l5, l6, l7, l8] st h Q ↔ jx_Go jxP d 147 115 [l0, l1, l2, l3, l4, l5, l6, l7, l8] (.int (nI 0) :: st) h Q := jg_c rfl
theorem s147_115 : jx_Go jxP d 147 115 [l0, l1, l2, l3, l4, l5, l6, l7, l8] (.int y :: .int x :: st) h Q ↔ jx_Go jxP d 147 116 [l0, l1, l2, l3, l4, l5, l6, l7, l8] (.int (x &&& y) :: st) h Q := jg_b (f := fun x y => x &&& y) rfl
theorem s147_116 : jx_Go jxP d 147 116 [l0, l1, l2, l3, l4, l5, l6, l7, l8] (.int x :: st) h Q ↔ jx_Go jxP d 147 118 [l0, l1, l2, l3, l4, .int x, l6, l7, l8] st h Q := jg_is rfl rfl
theorem s147_118 : jx_Go jxP d 147 118 [l0, l1, l2, l3, l4, l5, .int x, l7, l8] st h Q ↔ jx_Go jxP d 147 121 [l0, l1, l2, l3, l4, l5, .int (x + (nI 1)), l7, l8] st h Q := jg_inc rfl rfl rfl
theorem s147_121 : jx_Go jxP d 147 121 [l0, l1, l2, l3, l4, l5, l6, l7, l8] st h Q ↔ jx_Go jxP d 147 33 [l0, l1, l2, l3, l4, l5, l6, l7, l8] st h Q := jg_go rfl
theorem s147_124 : jx_Go jxP d 147 124 [l0, l1, l2, .int x, l4, l5, l6, l7, l8] st h Q ↔ jx_Go jxP d 147 125 [l0, l1, l2, .int x, l4, l5, l6, l7, l8] (.int x :: st) h Q := jg_il rfl rfl
theorem s147_125 : jx_Go jxP d 147 125 [l0, l1, l2, l3, l4, .int x, l6, l7, l8] st h Q ↔ jx_Go jxP d 147 127 [l0, l1, l2, l3, l4, .int x, l6, l7, l8] (.int x :: st) h Q := jg_il rfl rfl
theorem s147_127 : jx_Go jxP d 147 127 [l0, l1, l2, l3, l4, l5, l6, l7, l8] (.int x :: st) h Q ↔ if x = 0 then jx_Go jxP d 147 134 [l0, l1, l2, l3, l4, l5, l6, l7, l8] st h Q else jx_Go jxP d 147 130 [l0, l1, l2, l3, l4, l5, l6, l7, l8] st h Q := jg_ifP rfl rfl
theorem s147_130 : jx_Go jxP d 147 130 [l0, l1, l2, l3, l4, l5, l6, l7, l8] st h Q ↔ jx_Go jxP d 147 131 [l0, l1, l2, l3, l4, l5, l6, l7, l8] (.int (nI 1) :: st) h Q := jg_c rfl
theorem s147_131 : jx_Go jxP d 147 131 [l0, l1, l2, l3, l4, l5, l6, l7, l8] st h Q ↔ jx_Go jxP d 147 135 [l0, l1, l2, l3, l4, l5, l6, l7, l8] st h Q := jg_go rfl
theorem s147_134 : jx_Go jxP d 147 134 [l0, l1, l2, l3, l4, l5, l6, l7, l8] st h Q ↔ jx_Go jxP d 147 135 [l0, l1, l2, l3, l4, l5, l6, l7, l8] (.int (nI 0) :: st) h Q := jg_c rfl
theorem s147_135 : jx_Go jxP d 147 135 [l0, l1, l2, l3, l4, l5, l6, l7, l8] (.int y :: .int x :: st) h Q ↔ jx_Go jxP d 147 136 [l0, l1, l2, l3, l4, l5, l6, l7, l8] (.int (x + y) :: st) h Q := jg_b (f := fun x y => x + y) rfl
theorem s147_136 : jx_Go jxP d 147 136 [l0, l1, l2, l3, l4, l5, l6, l7, l8] (.int x :: st) h Q ↔ jx_Go jxP d 147 137 [l0, l1, l2, .int x, l4, l5, l6, l7, l8] st h Q := jg_is rfl rfl
theorem s147_137 : jx_Go jxP d 147 137 [l0, l1, l2, l3, .int x, l5, l6, l7, l8] st h Q ↔ jx_Go jxP d 147 140 [l0, l1, l2, l3, .int (x + (nI 1)), l5, l6, l7, l8] st h Q := jg_inc rfl rfl rfl
theorem s147_140 : jx_Go jxP d 147 140 [l0, l1, l2, l3, l4, l5, l6, l7, l8] st h Q ↔ jx_Go jxP d 147 21 [l0, l1, l2, l3, l4, l5, l6, l7, l8] st h Q := jg_go rfl
theorem s147_143 : jx_Go jxP d 147 143 [l0, l1, l2, .int x, l4, l5, l6, l7, l8] st h Q ↔ jx_Go jxP d 147 144 [l0, l1, l2, .int x, l4, l5, l6, l7, l8] (.int x :: st) h Q := jg_il rfl rfl
theorem s147_144 : jx_Go jxP d 147 144 [l0, l1, l2, l3, l4, l5, l6, l7, l8] [.int x] h Q ↔ Q [.int x] h := jx_rt rfl rfl
-- 148 TalkBenchModel.isSheet
theorem s148_0 : jx_Go jxP d 148 0 [.int x] st h Q ↔ jx_Go jxP d 148 1 [.int x] (.int x :: st) h Q := jg_il rfl rfl
theorem s148_1 : jx_Go jxP d 148 1 [l0] (.int x :: st) h Q ↔ if x < 0 then jx_Go jxP d 148 13 [l0] st h Q else jx_Go jxP d 148 4 [l0] st h Q := jg_ifP rfl rfl
theorem s148_4 : jx_Go jxP d 148 4 [.int x] st h Q ↔ jx_Go jxP d 148 5 [.int x] (.int x :: st) h Q := jg_il rfl rfl
theorem s148_5 : jx_Go jxP d 148 5 [l0] st h Q ↔ jx_Go jxP d 148 6 [l0] (.int (nI 4) :: st) h Q := jg_c rfl
theorem s148_6 : jx_Go jxP d 148 6 [l0] (.int y :: .int x :: st) h Q ↔ if y ≤ x then jx_Go jxP d 148 13 [l0] st h Q else jx_Go jxP d 148 9 [l0] st h Q := jg_icP rfl rfl
theorem s148_9 : jx_Go jxP d 148 9 [l0] st h Q ↔ jx_Go jxP d 148 10 [l0] (.int (nI 1) :: st) h Q := jg_c rfl
theorem s148_10 : jx_Go jxP d 148 10 [l0] st h Q ↔ jx_Go jxP d 148 14 [l0] st h Q := jg_go rfl
theorem s148_13 : jx_Go jxP d 148 13 [l0] st h Q ↔ jx_Go jxP d 148 14 [l0] (.int (nI 0) :: st) h Q := jg_c rfl
theorem s148_14b0 : jx_Go jxP d 148 14 [l0] [.int (nI 0)] h Q ↔ Q [.int (nI 0)] h := jx_rt rfl rfl
theorem s148_14b1 : jx_Go jxP d 148 14 [l0] [.int (nI 1)] h Q ↔ Q [.int (nI 1)] h := jx_rt rfl rfl
-- 149 TalkBenchModel.sheet
theorem s149_0 : jx_Go jxP d 149 0 [l0, .int x, l2, l3, l4] st h Q ↔ jx_Go jxP d 149 1 [l0, .int x, l2, l3, l4] (.int x :: st) h Q := jg_il rfl rfl
theorem s149_1 : jx_Go jxP (d + 1) 149 1 [l0, l1, l2, l3, l4] (.int x0 :: st) h Q ↔ (st.length ≤ 4 ∧ jx_Go jxP d 148 0 [.int x0] [] h (fun s1 h1 => jx_Go jxP (d + 1) 149 4 [l0, l1, l2, l3, l4] (s1 ++ st) h1 Q)) := jg_callS (as := [.int x0]) rfl rfl rfl rfl
theorem s149_4 : jx_Go jxP d 149 4 [l0, l1, l2, l3, l4] (.int x :: st) h Q ↔ if x = 0 then jx_Go jxP d 149 29 [l0, l1, l2, l3, l4] st h Q else jx_Go jxP d 149 7 [l0, l1, l2, l3, l4] st h Q := jg_ifP rfl rfl
theorem s149_7 : jx_Go jxP d 149 7 [l0, l1, .int x, l3, l4] st h Q ↔ jx_Go jxP d 149 8 [l0, l1, .int x, l3, l4] (.int x :: st) h Q := jg_il rfl rfl
theorem s149_8 : jx_Go jxP d 149 8 [l0, l1, l2, l3, l4] (.int x :: st) h Q ↔ if x = 0 then jx_Go jxP d 149 35 [l0, l1, l2, l3, l4] st h Q else jx_Go jxP d 149 11 [l0, l1, l2, l3, l4] st h Q := jg_ifP rfl rfl
theorem s149_11 : jx_Go jxP d 149 11 [l0, l1, .int x, l3, l4] st h Q ↔ jx_Go jxP d 149 12 [l0, l1, .int x, l3, l4] (.int x :: st) h Q := jg_il rfl rfl
theorem s149_12 : jx_Go jxP d 149 12 [l0, l1, l2, l3, l4] st h Q ↔ jx_Go jxP d 149 14 [l0, l1, l2, l3, l4] (.int (nI 8) :: st) h Q := jg_c rfl
theorem s149_14 : jx_Go jxP d 149 14 [l0, l1, l2, l3, l4] (.int y :: .int x :: st) h Q ↔ if x = y then jx_Go jxP d 149 35 [l0, l1, l2, l3, l4] st h Q else jx_Go jxP d 149 17 [l0, l1, l2, l3, l4] st h Q := jg_icP rfl rfl
theorem s149_17 : jx_Go jxP d 149 17 [l0, l1, .int x, l3, l4] st h Q ↔ jx_Go jxP d 149 18 [l0, l1, .int x, l3, l4] (.int x :: st) h Q := jg_il rfl rfl
theorem s149_18 : jx_Go jxP d 149 18 [l0, l1, l2, l3, l4] st h Q ↔ jx_Go jxP d 149 20 [l0, l1, l2, l3, l4] (.int (nI 16) :: st) h Q := jg_c rfl
theorem s149_20 : jx_Go jxP d 149 20 [l0, l1, l2, l3, l4] (.int y :: .int x :: st) h Q ↔ if x = y then jx_Go jxP d 149 35 [l0, l1, l2, l3, l4] st h Q else jx_Go jxP d 149 23 [l0, l1, l2, l3, l4] st h Q := jg_icP rfl rfl
theorem s149_23 : jx_Go jxP d 149 23 [l0, l1, .int x, l3, l4] st h Q ↔ jx_Go jxP d 149 24 [l0, l1, .int x, l3, l4] (.int x :: st) h Q := jg_il rfl rfl
theorem s149_24 : jx_Go jxP d 149 24 [l0, l1, l2, l3, l4] st h Q ↔ jx_Go jxP d 149 26 [l0, l1, l2, l3, l4] (.int (nI 32) :: st) h Q := jg_c rfl
theorem s149_26 : jx_Go jxP d 149 26 [l0, l1, l2, l3, l4] (.int y :: .int x :: st) h Q ↔ if x = y then jx_Go jxP d 149 35 [l0, l1, l2, l3, l4] st h Q else jx_Go jxP d 149 29 [l0, l1, l2, l3, l4] st h Q := jg_icP rfl rfl
theorem s149_29 : jx_Go jxP d 149 29 [.ref a, l1, l2, l3, l4] st h Q ↔ jx_Go jxP d 149 30 [.ref a, l1, l2, l3, l4] (.ref a :: st) h Q := jg_al rfl rfl
theorem s149_30 : jx_Go jxP d 149 30 [l0, l1, l2, l3, l4] st h Q ↔ jx_Go jxP d 149 31 [l0, l1, l2, l3, l4] (.int (-1) :: st) h Q := jg_c rfl
theorem s149_31 : jx_Go jxP (d + 1) 149 31 [l0, l1, l2, l3, l4] (.int x0 :: .ref a :: st) h Q ↔ (st.length ≤ 4 ∧ jx_cl h a = some 12 ∧ jx_Go jxP d 130 0 [.ref a, .int x0] [] h (fun s1 h1 => jx_Go jxP (d + 1) 149 34 [l0, l1, l2, l3, l4] (s1 ++ st) h1 Q)) := jg_callV (as := [.int x0, .ref a]) rfl rfl rfl rfl rfl
theorem s149_34 : jx_Go jxP d 149 34 [l0, l1, l2, l3, l4] [.int x] h Q ↔ Q [.int x] h := jx_rt rfl rfl
theorem s149_35 : jx_Go jxP d 149 35 [l0, l1, l2, .int x, l4] st h Q ↔ jx_Go jxP d 149 36 [l0, l1, l2, .int x, l4] (.int x :: st) h Q := jg_il rfl rfl
theorem s149_36 : jx_Go jxP d 149 36 [l0, l1, l2, l3, l4] (.int x :: st) h Q ↔ if 0 ≤ x then jx_Go jxP d 149 46 [l0, l1, l2, l3, l4] st h Q else jx_Go jxP d 149 39 [l0, l1, l2, l3, l4] st h Q := jg_ifP rfl rfl
theorem s149_39 : jx_Go jxP d 149 39 [.ref a, l1, l2, l3, l4] st h Q ↔ jx_Go jxP d 149 40 [.ref a, l1, l2, l3, l4] (.ref a :: st) h Q := jg_al rfl rfl
theorem s149_40 : jx_Go jxP d 149 40 [l0, l1, l2, l3, l4] st h Q ↔ jx_Go jxP d 149 42 [l0, l1, l2, l3, l4] (.int (-3) :: st) h Q := jg_c rfl
theorem s149_42 : jx_Go jxP (d + 1) 149 42 [l0, l1, l2, l3, l4] (.int x0 :: .ref a :: st) h Q ↔ (st.length ≤ 4 ∧ jx_cl h a = some 12 ∧ jx_Go jxP d 130 0 [.ref a, .int x0] [] h (fun s1 h1 => jx_Go jxP (d + 1) 149 45 [l0, l1, l2, l3, l4] (s1 ++ st) h1 Q)) := jg_callV (as := [.int x0, .ref a]) rfl rfl rfl rfl rfl
theorem s149_45 : jx_Go jxP d 149 45 [l0, l1, l2, l3, l4] [.int x] h Q ↔ Q [.int x] h := jx_rt rfl rfl
theorem s149_46 : jx_Go jxP d 149 46 [l0, l1, l2, .int x, l4] st h Q ↔ jx_Go jxP d 149 47 [l0, l1, l2, .int x, l4] (.int x :: st) h Q := jg_il rfl rfl
theorem s149_47 : jx_Go jxP d 149 47 [l0, l1, l2, l3, l4] st h Q ↔ jx_Go jxP d 149 49 [l0, l1, l2, l3, l4] (.int (nI 30) :: st) h Q := jg_c rfl
theorem s149_49 : jx_Go jxP d 149 49 [l0, l1, l2, l3, l4] (.int y :: .int x :: st) h Q ↔ if x ≤ y then jx_Go jxP d 149 58 [l0, l1, l2, l3, l4] st h Q else jx_Go jxP d 149 52 [l0, l1, l2, l3, l4] st h Q := jg_icP rfl rfl
theorem s149_52 : jx_Go jxP d 149 52 [.ref a, l1, l2, l3, l4] st h Q ↔ jx_Go jxP d 149 53 [.ref a, l1, l2, l3, l4] (.ref a :: st) h Q := jg_al rfl rfl
theorem s149_53 : jx_Go jxP d 149 53 [l0, l1, l2, l3, l4] st h Q ↔ jx_Go jxP d 149 54 [l0, l1, l2, l3, l4] (.int (-1) :: st) h Q := jg_c rfl
theorem s149_54 : jx_Go jxP (d + 1) 149 54 [l0, l1, l2, l3, l4] (.int x0 :: .ref a :: st) h Q ↔ (st.length ≤ 4 ∧ jx_cl h a = some 12 ∧ jx_Go jxP d 130 0 [.ref a, .int x0] [] h (fun s1 h1 => jx_Go jxP (d + 1) 149 57 [l0, l1, l2, l3, l4] (s1 ++ st) h1 Q)) := jg_callV (as := [.int x0, .ref a]) rfl rfl rfl rfl rfl
theorem s149_57 : jx_Go jxP d 149 57 [l0, l1, l2, l3, l4] [.int x] h Q ↔ Q [.int x] h := jx_rt rfl rfl
theorem s149_58 : jx_Go jxP d 149 58 [.ref a, l1, l2, l3, l4] st h Q ↔ jx_Go jxP d 149 59 [.ref a, l1, l2, l3, l4] (.ref a :: st) h Q := jg_al rfl rfl
theorem s149_59 : jx_Go jxP d 149 59 [l0, l1, l2, l3, l4] (.ref a :: st) h Q ↔ ∃ v, jx_fl h a 12 8 = some v ∧ jx_Go jxP d 149 62 [l0, l1, l2, l3, l4] (v :: st) h Q := jg_gf rfl
theorem s149_62 : jx_Go jxP d 149 62 [l0, .int x, l2, l3, l4] st h Q ↔ jx_Go jxP d 149 63 [l0, .int x, l2, l3, l4] (.int x :: st) h Q := jg_il rfl rfl
theorem s149_63 : jx_Go jxP d 149 63 [l0, l1, .int x, l3, l4] st h Q ↔ jx_Go jxP d 149 64 [l0, l1, .int x, l3, l4] (.int x :: st) h Q := jg_il rfl rfl
theorem s149_64 : jx_Go jxP d 149 64 [l0, l1, l2, l3, l4] (.int y :: .int x :: .ref a :: st) h Q ↔ ∃ q, jx_ai h a = some q ∧ jx_in x q.1 ∧ jx_Go jxP d 149 65 [l0, l1, l2, l3, l4] st (jx_wi h a q.1 (upd q.2 x.toNatClampNeg y)) Q := jg_iw rfl
theorem s149_65 : jx_Go jxP d 149 65 [.ref a, l1, l2, l3, l4] st h Q ↔ jx_Go jxP d 149 66 [.ref a, l1, l2, l3, l4] (.ref a :: st) h Q := jg_al rfl rfl
theorem s149_66 : jx_Go jxP d 149 66 [l0, l1, l2, l3, l4] (.ref a :: st) h Q ↔ ∃ v, jx_fl h a 12 9 = some v ∧ jx_Go jxP d 149 69 [l0, l1, l2, l3, l4] (v :: st) h Q := jg_gf rfl
theorem s149_69 : jx_Go jxP d 149 69 [l0, .int x, l2, l3, l4] st h Q ↔ jx_Go jxP d 149 70 [l0, .int x, l2, l3, l4] (.int x :: st) h Q := jg_il rfl rfl
theorem s149_70 : jx_Go jxP d 149 70 [l0, l1, .int x, l3, l4] st h Q ↔ jx_Go jxP d 149 71 [l0, l1, .int x, l3, l4] (.int x :: st) h Q := jg_il rfl rfl
theorem s149_71 : jx_Go jxP d 149 71 [l0, l1, l2, l3, l4] (.int x :: st) h Q ↔ if x = 0 then jx_Go jxP d 149 74 [l0, l1, l2, l3, l4] st h Q else jx_Go jxP d 149 78 [l0, l1, l2, l3, l4] st h Q := jg_ifN rfl rfl
theorem s149_74 : jx_Go jxP d 149 74 [l0, l1, l2, l3, l4] st h Q ↔ jx_Go jxP d 149 75 [l0, l1, l2, l3, l4] (.int (nI 0) :: st) h Q := jg_c rfl
theorem s149_75 : jx_Go jxP d 149 75 [l0, l1, l2, l3, l4] st h Q ↔ jx_Go jxP d 149 79 [l0, l1, l2, l3, l4] st h Q := jg_go rfl
theorem s149_78 : jx_Go jxP d 149 78 [l0, l1, l2, .int x, l4] st h Q ↔ jx_Go jxP d 149 79 [l0, l1, l2, .int x, l4] (.int x :: st) h Q := jg_il rfl rfl
theorem s149_79 : jx_Go jxP d 149 79 [l0, l1, l2, l3, l4] (.int y :: .int x :: .ref a :: st) h Q ↔ ∃ q, jx_ai h a = some q ∧ jx_in x q.1 ∧ jx_Go jxP d 149 80 [l0, l1, l2, l3, l4] st (jx_wi h a q.1 (upd q.2 x.toNatClampNeg y)) Q := jg_iw rfl
theorem s149_80 : jx_Go jxP d 149 80 [l0, l1, l2, l3, l4] st h Q ↔ jx_Go jxP d 149 81 [l0, l1, l2, l3, l4] (.int (nI 0) :: st) h Q := jg_c rfl
theorem s149_81 : jx_Go jxP d 149 81 [l0, l1, l2, l3, l4] (.int x :: st) h Q ↔ jx_Go jxP d 149 83 [l0, l1, l2, l3, .int x] st h Q := jg_is rfl rfl
theorem s149_83 : jx_Go jxP d 149 83 [l0, l1, l2, l3, .int x] st h Q ↔ jx_Go jxP d 149 85 [l0, l1, l2, l3, .int x] (.int x :: st) h Q := jg_il rfl rfl
theorem s149_85 : jx_Go jxP d 149 85 [l0, l1, l2, l3, l4] st h Q ↔ jx_Go jxP d 149 87 [l0, l1, l2, l3, l4] (.int (nI 30) :: st) h Q := jg_c rfl
theorem s149_87 : jx_Go jxP d 149 87 [l0, l1, l2, l3, l4] (.int y :: .int x :: st) h Q ↔ if y ≤ x then jx_Go jxP d 149 109 [l0, l1, l2, l3, l4] st h Q else jx_Go jxP d 149 90 [l0, l1, l2, l3, l4] st h Q := jg_icP rfl rfl
theorem s149_90 : jx_Go jxP d 149 90 [.ref a, l1, l2, l3, l4] st h Q ↔ jx_Go jxP d 149 91 [.ref a, l1, l2, l3, l4] (.ref a :: st) h Q := jg_al rfl rfl
theorem s149_91 : jx_Go jxP d 149 91 [l0, l1, l2, l3, l4] (.ref a :: st) h Q ↔ ∃ v, jx_fl h a 12 10 = some v ∧ jx_Go jxP d 149 94 [l0, l1, l2, l3, l4] (v :: st) h Q := jg_gf rfl
theorem s149_94 : jx_Go jxP d 149 94 [l0, l1, l2, l3, l4] st h Q ↔ jx_Go jxP d 149 96 [l0, l1, l2, l3, l4] (.int (nI 30) :: st) h Q := jg_c rfl
theorem s149_96 : jx_Go jxP d 149 96 [l0, .int x, l2, l3, l4] st h Q ↔ jx_Go jxP d 149 97 [l0, .int x, l2, l3, l4] (.int x :: st) h Q := jg_il rfl rfl
theorem s149_97 : jx_Go jxP d 149 97 [l0, l1, l2, l3, l4] (.int y :: .int x :: st) h Q ↔ jx_Go jxP d 149 98 [l0, l1, l2, l3, l4] (.int (x * y) :: st) h Q := jg_b (f := fun x y => x * y) rfl
theorem s149_98 : jx_Go jxP d 149 98 [l0, l1, l2, l3, .int x] st h Q ↔ jx_Go jxP d 149 100 [l0, l1, l2, l3, .int x] (.int x :: st) h Q := jg_il rfl rfl
theorem s149_100 : jx_Go jxP d 149 100 [l0, l1, l2, l3, l4] (.int y :: .int x :: st) h Q ↔ jx_Go jxP d 149 101 [l0, l1, l2, l3, l4] (.int (x + y) :: st) h Q := jg_b (f := fun x y => x + y) rfl
theorem s149_101 : jx_Go jxP d 149 101 [l0, l1, l2, l3, l4] st h Q ↔ jx_Go jxP d 149 102 [l0, l1, l2, l3, l4] (.int (nI 0) :: st) h Q := jg_c rfl
theorem s149_102 : jx_Go jxP d 149 102 [l0, l1, l2, l3, l4] (.int y :: .int x :: .ref a :: st) h Q ↔ ∃ q, jx_ai h a = some q ∧ jx_in x q.1 ∧ jx_Go jxP d 149 103 [l0, l1, l2, l3, l4] st (jx_wi h a q.1 (upd q.2 x.toNatClampNeg y)) Q := jg_iw rfl
theorem s149_103 : jx_Go jxP d 149 103 [l0, l1, l2, l3, .int x] st h Q ↔ jx_Go jxP d 149 106 [l0, l1, l2, l3, .int (x + (nI 1))] st h Q := jg_inc rfl rfl rfl
theorem s149_106 : jx_Go jxP d 149 106 [l0, l1, l2, l3, l4] st h Q ↔ jx_Go jxP d 149 83 [l0, l1, l2, l3, l4] st h Q := jg_go rfl
theorem s149_109 : jx_Go jxP d 149 109 [.ref a, l1, l2, l3, l4] st h Q ↔ jx_Go jxP d 149 110 [.ref a, l1, l2, l3, l4] (.ref a :: st) h Q := jg_al rfl rfl
theorem s149_110 : jx_Go jxP d 149 110 [l0, l1, l2, l3, l4] (.ref a :: st) h Q ↔ ∃ v, jx_fl h a 12 9 = some v ∧ jx_Go jxP d 149 113 [l0, l1, l2, l3, l4] (v :: st) h Q := jg_gf rfl
theorem s149_113 : jx_Go jxP d 149 113 [l0, .int x, l2, l3, l4] st h Q ↔ jx_Go jxP d 149 114 [l0, .int x, l2, l3, l4] (.int x :: st) h Q := jg_il rfl rfl
theorem s149_114 : jx_Go jxP d 149 114 [l0, l1, l2, l3, l4] (.int x :: .ref a :: st) h Q ↔ ∃ q, jx_ai h a = some q ∧ jx_in x q.1 ∧ jx_Go jxP d 149 115 [l0, l1, l2, l3, l4] (.int (q.2 x.toNatClampNeg) :: st) h Q := jg_ia rfl
theorem s149_115 : jx_Go jxP d 149 115 [l0, l1, l2, l3, l4] [.int x] h Q ↔ Q [.int x] h := jx_rt rfl rfl
-- 150 TalkBenchModel.write
theorem s150_0 : jx_Go jxP d 150 0 [l0, .int x, l2, l3] st h Q ↔ jx_Go jxP d 150 1 [l0, .int x, l2, l3] (.int x :: st) h Q := jg_il rfl rfl
theorem s150_1 : jx_Go jxP (d + 1) 150 1 [l0, l1, l2, l3] (.int x0 :: st) h Q ↔ (st.length ≤ 4 ∧ jx_Go jxP d 148 0 [.int x0] [] h (fun s1 h1 => jx_Go jxP (d + 1) 150 4 [l0, l1, l2, l3] (s1 ++ st) h1 Q)) := jg_callS (as := [.int x0]) rfl rfl rfl rfl
theorem s150_4 : jx_Go jxP d 150 4 [l0, l1, l2, l3] (.int x :: st) h Q ↔ if x = 0 then jx_Go jxP d 150 7 [l0, l1, l2, l3] st h Q else jx_Go jxP d 150 13 [l0, l1, l2, l3] st h Q := jg_ifN rfl rfl
theorem s150_7 : jx_Go jxP d 150 7 [.ref a, l1, l2, l3] st h Q ↔ jx_Go jxP d 150 8 [.ref a, l1, l2, l3] (.ref a :: st) h Q := jg_al rfl rfl
theorem s150_8 : jx_Go jxP d 150 8 [l0, l1, l2, l3] st h Q ↔ jx_Go jxP d 150 9 [l0, l1, l2, l3] (.int (-1) :: st) h Q := jg_c rfl
theorem s150_9 : jx_Go jxP (d + 1) 150 9 [l0, l1, l2, l3] (.int x0 :: .ref a :: st) h Q ↔ (st.length ≤ 4 ∧ jx_cl h a = some 12 ∧ jx_Go jxP d 130 0 [.ref a, .int x0] [] h (fun s1 h1 => jx_Go jxP (d + 1) 150 12 [l0, l1, l2, l3] (s1 ++ st) h1 Q)) := jg_callV (as := [.int x0, .ref a]) rfl rfl rfl rfl rfl
theorem s150_12 : jx_Go jxP d 150 12 [l0, l1, l2, l3] [.int x] h Q ↔ Q [.int x] h := jx_rt rfl rfl
theorem s150_13 : jx_Go jxP d 150 13 [.ref a, l1, l2, l3] st h Q ↔ jx_Go jxP d 150 14 [.ref a, l1, l2, l3] (.ref a :: st) h Q := jg_al rfl rfl
theorem s150_14 : jx_Go jxP d 150 14 [l0, l1, l2, l3] (.ref a :: st) h Q ↔ ∃ v, jx_fl h a 12 8 = some v ∧ jx_Go jxP d 150 17 [l0, l1, l2, l3] (v :: st) h Q := jg_gf rfl
theorem s150_17 : jx_Go jxP d 150 17 [l0, .int x, l2, l3] st h Q ↔ jx_Go jxP d 150 18 [l0, .int x, l2, l3] (.int x :: st) h Q := jg_il rfl rfl
theorem s150_18 : jx_Go jxP d 150 18 [l0, l1, l2, l3] (.int x :: .ref a :: st) h Q ↔ ∃ q, jx_ai h a = some q ∧ jx_in x q.1 ∧ jx_Go jxP d 150 19 [l0, l1, l2, l3] (.int (q.2 x.toNatClampNeg) :: st) h Q := jg_ia rfl
theorem s150_19 : jx_Go jxP d 150 19 [l0, l1, l2, l3] (.int x :: st) h Q ↔ if x = 0 then jx_Go jxP d 150 22 [l0, l1, l2, l3] st h Q else jx_Go jxP d 150 29 [l0, l1, l2, l3] st h Q := jg_ifN rfl rfl
theorem s150_22 : jx_Go jxP d 150 22 [.ref a, l1, l2, l3] st h Q ↔ jx_Go jxP d 150 23 [.ref a, l1, l2, l3] (.ref a :: st) h Q := jg_al rfl rfl
theorem s150_23 : jx_Go jxP d 150 23 [l0, l1, l2, l3] st h Q ↔ jx_Go jxP d 150 25 [l0, l1, l2, l3] (.int (-2) :: st) h Q := jg_c rfl
theorem s150_25 : jx_Go jxP (d + 1) 150 25 [l0, l1, l2, l3] (.int x0 :: .ref a :: st) h Q ↔ (st.length ≤ 4 ∧ jx_cl h a = some 12 ∧ jx_Go jxP d 130 0 [.ref a, .int x0] [] h (fun s1 h1 => jx_Go jxP (d + 1) 150 28 [l0, l1, l2, l3] (s1 ++ st) h1 Q)) := jg_callV (as := [.int x0, .ref a]) rfl rfl rfl rfl rfl
theorem s150_28 : jx_Go jxP d 150 28 [l0, l1, l2, l3] [.int x] h Q ↔ Q [.int x] h := jx_rt rfl rfl
theorem s150_29 : jx_Go jxP d 150 29 [l0, l1, .int x, l3] st h Q ↔ jx_Go jxP d 150 30 [l0, l1, .int x, l3] (.int x :: st) h Q := jg_il rfl rfl
theorem s150_30 : jx_Go jxP d 150 30 [l0, l1, l2, l3] (.int x :: st) h Q ↔ if x < 0 then jx_Go jxP d 150 43 [l0, l1, l2, l3] st h Q else jx_Go jxP d 150 33 [l0, l1, l2, l3] st h Q := jg_ifP rfl rfl
theorem s150_33 : jx_Go jxP d 150 33 [l0, l1, .int x, l3] st h Q ↔ jx_Go jxP d 150 34 [l0, l1, .int x, l3] (.int x :: st) h Q := jg_il rfl rfl
theorem s150_34 : jx_Go jxP d 150 34 [.ref a, l1, l2, l3] st h Q ↔ jx_Go jxP d 150 35 [.ref a, l1, l2, l3] (.ref a :: st) h Q := jg_al rfl rfl
theorem s150_35 : jx_Go jxP d 150 35 [l0, l1, l2, l3] (.ref a :: st) h Q ↔ ∃ v, jx_fl h a 12 9 = some v ∧ jx_Go jxP d 150 38 [l0, l1, l2, l3] (v :: st) h Q := jg_gf rfl
theorem s150_38 : jx_Go jxP d 150 38 [l0, .int x, l2, l3] st h Q ↔ jx_Go jxP d 150 39 [l0, .int x, l2, l3] (.int x :: st) h Q := jg_il rfl rfl
theorem s150_39 : jx_Go jxP d 150 39 [l0, l1, l2, l3] (.int x :: .ref a :: st) h Q ↔ ∃ q, jx_ai h a = some q ∧ jx_in x q.1 ∧ jx_Go jxP d 150 40 [l0, l1, l2, l3] (.int (q.2 x.toNatClampNeg) :: st) h Q := jg_ia rfl
theorem s150_40 : jx_Go jxP d 150 40 [l0, l1, l2, l3] (.int y :: .int x :: st) h Q ↔ if x < y then jx_Go jxP d 150 49 [l0, l1, l2, l3] st h Q else jx_Go jxP d 150 43 [l0, l1, l2, l3] st h Q := jg_icP rfl rfl
theorem s150_43 : jx_Go jxP d 150 43 [.ref a, l1, l2, l3] st h Q ↔ jx_Go jxP d 150 44 [.ref a, l1, l2, l3] (.ref a :: st) h Q := jg_al rfl rfl
theorem s150_44 : jx_Go jxP d 150 44 [l0, l1, l2, l3] st h Q ↔ jx_Go jxP d 150 45 [l0, l1, l2, l3] (.int (-1) :: st) h Q := jg_c rfl
theorem s150_45 : jx_Go jxP (d + 1) 150 45 [l0, l1, l2, l3] (.int x0 :: .ref a :: st) h Q ↔ (st.length ≤ 4 ∧ jx_cl h a = some 12 ∧ jx_Go jxP d 130 0 [.ref a, .int x0] [] h (fun s1 h1 => jx_Go jxP (d + 1) 150 48 [l0, l1, l2, l3] (s1 ++ st) h1 Q)) := jg_callV (as := [.int x0, .ref a]) rfl rfl rfl rfl rfl
theorem s150_48 : jx_Go jxP d 150 48 [l0, l1, l2, l3] [.int x] h Q ↔ Q [.int x] h := jx_rt rfl rfl
theorem s150_49 : jx_Go jxP d 150 49 [.ref a, l1, l2, l3] st h Q ↔ jx_Go jxP d 150 50 [.ref a, l1, l2, l3] (.ref a :: st) h Q := jg_al rfl rfl
theorem s150_50 : jx_Go jxP d 150 50 [l0, l1, l2, l3] (.ref a :: st) h Q ↔ ∃ v, jx_fl h a 12 10 = some v ∧ jx_Go jxP d 150 53 [l0, l1, l2, l3] (v :: st) h Q := jg_gf rfl
theorem s150_53 : jx_Go jxP d 150 53 [l0, l1, l2, l3] st h Q ↔ jx_Go jxP d 150 55 [l0, l1, l2, l3] (.int (nI 30) :: st) h Q := jg_c rfl
theorem s150_55 : jx_Go jxP d 150 55 [l0, .int x, l2, l3] st h Q ↔ jx_Go jxP d 150 56 [l0, .int x, l2, l3] (.int x :: st) h Q := jg_il rfl rfl
theorem s150_56 : jx_Go jxP d 150 56 [l0, l1, l2, l3] (.int y :: .int x :: st) h Q ↔ jx_Go jxP d 150 57 [l0, l1, l2, l3] (.int (x * y) :: st) h Q := jg_b (f := fun x y => x * y) rfl
theorem s150_57 : jx_Go jxP d 150 57 [l0, l1, .int x, l3] st h Q ↔ jx_Go jxP d 150 58 [l0, l1, .int x, l3] (.int x :: st) h Q := jg_il rfl rfl
theorem s150_58 : jx_Go jxP d 150 58 [l0, l1, l2, l3] (.int y :: .int x :: st) h Q ↔ jx_Go jxP d 150 59 [l0, l1, l2, l3] (.int (x + y) :: st) h Q := jg_b (f := fun x y => x + y) rfl
theorem s150_59 : jx_Go jxP d 150 59 [.ref a, l1, l2, l3] st h Q ↔ jx_Go jxP d 150 60 [.ref a, l1, l2, l3] (.ref a :: st) h Q := jg_al rfl rfl
theorem s150_60 : jx_Go jxP d 150 60 [l0, l1, l2, l3] (.ref a :: st) h Q ↔ ∃ v, jx_fl h a 12 8 = some v ∧ jx_Go jxP d 150 63 [l0, l1, l2, l3] (v :: st) h Q := jg_gf rfl
theorem s150_63 : jx_Go jxP d 150 63 [l0, .int x, l2, l3] st h Q ↔ jx_Go jxP d 150 64 [l0, .int x, l2, l3] (.int x :: st) h Q := jg_il rfl rfl
theorem s150_64 : jx_Go jxP d 150 64 [l0, l1, l2, l3] (.int x :: .ref a :: st) h Q ↔ ∃ q, jx_ai h a = some q ∧ jx_in x q.1 ∧ jx_Go jxP d 150 65 [l0, l1, l2, l3] (.int (q.2 x.toNatClampNeg) :: st) h Q := jg_ia rfl
theorem s150_65 : jx_Go jxP d 150 65 [l0, l1, l2, l3] st h Q ↔ jx_Go jxP d 150 67 [l0, l1, l2, l3] (.int (nI 8) :: st) h Q := jg_c rfl
theorem s150_67 : jx_Go jxP d 150 67 [l0, l1, l2, l3] (.int y :: .int x :: st) h Q ↔ if x = y then jx_Go jxP d 150 70 [l0, l1, l2, l3] st h Q else jx_Go jxP d 150 75 [l0, l1, l2, l3] st h Q := jg_icN rfl rfl
theorem s150_70 : jx_Go jxP d 150 70 [l0, l1, l2, .int x] st h Q ↔ jx_Go jxP d 150 71 [l0, l1, l2, .int x] (.int x :: st) h Q := jg_il rfl rfl
theorem s150_71 : jx_Go jxP d 150 71 [l0, l1, l2, l3] (.int x :: st) h Q ↔ jx_Go jxP d 150 72 [l0, l1, l2, l3] (.int (x.toInt8.toInt32) :: st) h Q := jg_1 (f := fun x => x.toInt8.toInt32) rfl
theorem s150_72 : jx_Go jxP d 150 72 [l0, l1, l2, l3] st h Q ↔ jx_Go jxP d 150 92 [l0, l1, l2, l3] st h Q := jg_go rfl
theorem s150_75 : jx_Go jxP d 150 75 [.ref a, l1, l2, l3] st h Q ↔ jx_Go jxP d 150 76 [.ref a, l1, l2, l3] (.ref a :: st) h Q := jg_al rfl rfl
theorem s150_76 : jx_Go jxP d 150 76 [l0, l1, l2, l3] (.ref a :: st) h Q ↔ ∃ v, jx_fl h a 12 8 = some v ∧ jx_Go jxP d 150 79 [l0, l1, l2, l3] (v :: st) h Q := jg_gf rfl
theorem s150_79 : jx_Go jxP d 150 79 [l0, .int x, l2, l3] st h Q ↔ jx_Go jxP d 150 80 [l0, .int x, l2, l3] (.int x :: st) h Q := jg_il rfl rfl
theorem s150_80 : jx_Go jxP d 150 80 [l0, l1, l2, l3] (.int x :: .ref a :: st) h Q ↔ ∃ q, jx_ai h a = some q ∧ jx_in x q.1 ∧ jx_Go jxP d 150 81 [l0, l1, l2, l3] (.int (q.2 x.toNatClampNeg) :: st) h Q := jg_ia rfl
theorem s150_81 : jx_Go jxP d 150 81 [l0, l1, l2, l3] st h Q ↔ jx_Go jxP d 150 83 [l0, l1, l2, l3] (.int (nI 16) :: st) h Q := jg_c rfl
theorem s150_83 : jx_Go jxP d 150 83 [l0, l1, l2, l3] (.int y :: .int x :: st) h Q ↔ if x = y then jx_Go jxP d 150 86 [l0, l1, l2, l3] st h Q else jx_Go jxP d 150 91 [l0, l1, l2, l3] st h Q := jg_icN rfl rfl
theorem s150_86 : jx_Go jxP d 150 86 [l0, l1, l2, .int x] st h Q ↔ jx_Go jxP d 150 87 [l0, l1, l2, .int x] (.int x :: st) h Q := jg_il rfl rfl
theorem s150_87 : jx_Go jxP d 150 87 [l0, l1, l2, l3] (.int x :: st) h Q ↔ jx_Go jxP d 150 88 [l0, l1, l2, l3] (.int (x.toInt16.toInt32) :: st) h Q := jg_1 (f := fun x => x.toInt16.toInt32) rfl
theorem s150_88 : jx_Go jxP d 150 88 [l0, l1, l2, l3] st h Q ↔ jx_Go jxP d 150 92 [l0, l1, l2, l3] st h Q := jg_go rfl
theorem s150_91 : jx_Go jxP d 150 91 [l0, l1, l2, .int x] st h Q ↔ jx_Go jxP d 150 92 [l0, l1, l2, .int x] (.int x :: st) h Q := jg_il rfl rfl
theorem s150_92 : jx_Go jxP d 150 92 [l0, l1, l2, l3] (.int y :: .int x :: .ref a :: st) h Q ↔ ∃ q, jx_ai h a = some q ∧ jx_in x q.1 ∧ jx_Go jxP d 150 93 [l0, l1, l2, l3] st (jx_wi h a q.1 (upd q.2 x.toNatClampNeg y)) Q := jg_iw rfl
theorem s150_93 : jx_Go jxP d 150 93 [l0, l1, l2, l3] st h Q ↔ jx_Go jxP d 150 94 [l0, l1, l2, l3] (.int (nI 0) :: st) h Q := jg_c rfl
theorem s150_94 : jx_Go jxP d 150 94 [l0, l1, l2, l3] [.int x] h Q ↔ Q [.int x] h := jx_rt rfl rfl
-- 151 TalkBenchModel.hasPart
theorem s151_0 : jx_Go jxP d 151 0 [l0, l1, .int x, l3] st h Q ↔ jx_Go jxP d 151 1 [l0, l1, .int x, l3] (.int x :: st) h Q := jg_il rfl rfl
theorem s151_1 : jx_Go jxP d 151 1 [l0, l1, l2, l3] (.int x :: st) h Q ↔ if x < 0 then jx_Go jxP d 151 34 [l0, l1, l2, l3] st h Q else jx_Go jxP d 151 4 [l0, l1, l2, l3] st h Q := jg_ifP rfl rfl
theorem s151_4 : jx_Go jxP d 151 4 [l0, l1, l2, .int x] st h Q ↔ jx_Go jxP d 151 5 [l0, l1, l2, .int x] (.int x :: st) h Q := jg_il rfl rfl
theorem s151_5 : jx_Go jxP d 151 5 [l0, l1, l2, l3] (.int x :: st) h Q ↔ if x < 0 then jx_Go jxP d 151 34 [l0, l1, l2, l3] st h Q else jx_Go jxP d 151 8 [l0, l1, l2, l3] st h Q := jg_ifP rfl rfl
theorem s151_8 : jx_Go jxP d 151 8 [l0, l1, l2, .int x] st h Q ↔ jx_Go jxP d 151 9 [l0, l1, l2, .int x] (.int x :: st) h Q := jg_il rfl rfl
theorem s151_9 : jx_Go jxP d 151 9 [.ref a, l1, l2, l3] st h Q ↔ jx_Go jxP d 151 10 [.ref a, l1, l2, l3] (.ref a :: st) h Q := jg_al rfl rfl
theorem s151_10 : jx_Go jxP d 151 10 [l0, l1, l2, l3] (.ref a :: st) h Q ↔ ∃ v, jx_fl h a 12 9 = some v ∧ jx_Go jxP d 151 13 [l0, l1, l2, l3] (v :: st) h Q := jg_gf rfl
theorem s151_13 : jx_Go jxP d 151 13 [l0, .int x, l2, l3] st h Q ↔ jx_Go jxP d 151 14 [l0, .int x, l2, l3] (.int x :: st) h Q := jg_il rfl rfl
theorem s151_14 : jx_Go jxP d 151 14 [l0, l1, l2, l3] (.int x :: .ref a :: st) h Q ↔ ∃ q, jx_ai h a = some q ∧ jx_in x q.1 ∧ jx_Go jxP d 151 15 [l0, l1, l2, l3] (.int (q.2 x.toNatClampNeg) :: st) h Q := jg_ia rfl
theorem s151_15 : jx_Go jxP d 151 15 [l0, l1, l2, l3] (.int y :: .int x :: st) h Q ↔ if y < x then jx_Go jxP d 151 34 [l0, l1, l2, l3] st h Q else jx_Go jxP d 151 18 [l0, l1, l2, l3] st h Q := jg_icP rfl rfl
theorem s151_18 : jx_Go jxP d 151 18 [l0, l1, .int x, l3] st h Q ↔ jx_Go jxP d 151 19 [l0, l1, .int x, l3] (.int x :: st) h Q := jg_il rfl rfl
theorem s151_19 : jx_Go jxP d 151 19 [.ref a, l1, l2, l3] st h Q ↔ jx_Go jxP d 151 20 [.ref a, l1, l2, l3] (.ref a :: st) h Q := jg_al rfl rfl
theorem s151_20 : jx_Go jxP d 151 20 [l0, l1, l2, l3] (.ref a :: st) h Q ↔ ∃ v, jx_fl h a 12 9 = some v ∧ jx_Go jxP d 151 23 [l0, l1, l2, l3] (v :: st) h Q := jg_gf rfl
theorem s151_23 : jx_Go jxP d 151 23 [l0, .int x, l2, l3] st h Q ↔ jx_Go jxP d 151 24 [l0, .int x, l2, l3] (.int x :: st) h Q := jg_il rfl rfl
theorem s151_24 : jx_Go jxP d 151 24 [l0, l1, l2, l3] (.int x :: .ref a :: st) h Q ↔ ∃ q, jx_ai h a = some q ∧ jx_in x q.1 ∧ jx_Go jxP d 151 25 [l0, l1, l2, l3] (.int (q.2 x.toNatClampNeg) :: st) h Q := jg_ia rfl
theorem s151_25 : jx_Go jxP d 151 25 [l0, l1, l2, .int x] st h Q ↔ jx_Go jxP d 151 26 [l0, l1, l2, .int x] (.int x :: st) h Q := jg_il rfl rfl
theorem s151_26 : jx_Go jxP d 151 26 [l0, l1, l2, l3] (.int y :: .int x :: st) h Q ↔ jx_Go jxP d 151 27 [l0, l1, l2, l3] (.int (x - y) :: st) h Q := jg_b (f := fun x y => x - y) rfl
theorem s151_27 : jx_Go jxP d 151 27 [l0, l1, l2, l3] (.int y :: .int x :: st) h Q ↔ if y < x then jx_Go jxP d 151 34 [l0, l1, l2, l3] st h Q else jx_Go jxP d 151 30 [l0, l1, l2, l3] st h Q := jg_icP rfl rfl
theorem s151_30 : jx_Go jxP d 151 30 [l0, l1, l2, l3] st h Q ↔ jx_Go jxP d 151 31 [l0, l1, l2, l3] (.int (nI 1) :: st) h Q := jg_c rfl
theorem s151_31 : jx_Go jxP d 151 31 [l0, l1, l2, l3] st h Q ↔ jx_Go jxP d 151 35 [l0, l1, l2, l3] st h Q := jg_go rfl
theorem s151_34 : jx_Go jxP d 151 34 [l0, l1, l2, l3] st h Q ↔ jx_Go jxP d 151 35 [l0, l1, l2, l3] (.int (nI 0) :: st) h Q := jg_c rfl
theorem s151_35b0 : jx_Go jxP d 151 35 [l0, l1, l2, l3] [.int (nI 0)] h Q ↔ Q [.int (nI 0)] h := jx_rt rfl rfl
theorem s151_35b1 : jx_Go jxP d 151 35 [l0, l1, l2, l3] [.int (nI 1)] h Q ↔ Q [.int (nI 1)] h := jx_rt rfl rfl
-- 152 TalkBenchModel.copy
theorem s152_0 : jx_Go jxP d 152 0 [l0, .int x, l2, l3, l4, l5, l6] st h Q ↔ jx_Go jxP d 152 1 [l0, .int x, l2, l3, l4, l5, l6] (.int x :: st) h Q := jg_il rfl rfl
theorem s152_1 : jx_Go jxP (d + 1) 152 1 [l0, l1, l2, l3, l4, l5, l6] (.int x0 :: st) h Q ↔ (st.length ≤ 4 ∧ jx_Go jxP d 148 0 [.int x0] [] h (fun s1 h1 => jx_Go jxP (d + 1) 152 4 [l0, l1, l2, l3, l4, l5, l6] (s1 ++ st) h1 Q)) := jg_callS (as := [.int x0]) rfl rfl rfl rfl
theorem s152_4 : jx_Go jxP d 152 4 [l0, l1, l2, l3, l4, l5, l6] (.int x :: st) h Q ↔ if x = 0 then jx_Go jxP d 152 14 [l0, l1, l2, l3, l4, l5, l6] st h Q else jx_Go jxP d 152 7 [l0, l1, l2, l3, l4, l5, l6] st h Q := jg_ifP rfl rfl
theorem s152_7 : jx_Go jxP d 152 7 [l0, l1, l2, .int x, l4, l5, l6] st h Q ↔ jx_Go jxP d 152 8 [l0, l1, l2, .int x, l4, l5, l6] (.int x :: st) h Q := jg_il rfl rfl
theorem s152_8 : jx_Go jxP (d + 1) 152 8 [l0, l1, l2, l3, l4, l5, l6] (.int x0 :: st) h Q ↔ (st.length ≤ 4 ∧ jx_Go jxP d 148 0 [.int x0] [] h (fun s1 h1 => jx_Go jxP (d + 1) 152 11 [l0, l1, l2, l3, l4, l5, l6] (s1 ++ st) h1 Q)) := jg_callS (as := [.int x0]) rfl rfl rfl rfl
theorem s152_11 : jx_Go jxP d 152 11 [l0, l1, l2, l3, l4, l5, l6] (.int x :: st) h Q ↔ if x = 0 then jx_Go jxP d 152 14 [l0, l1, l2, l3, l4, l5, l6] st h Q else jx_Go jxP d 152 20 [l0, l1, l2, l3, l4, l5, l6] st h Q := jg_ifN rfl rfl
theorem s152_14 : jx_Go jxP d 152 14 [.ref a, l1, l2, l3, l4, l5, l6] st h Q ↔ jx_Go jxP d 152 15 [.ref a, l1, l2, l3, l4, l5, l6] (.ref a :: st) h Q := jg_al rfl rfl
theorem s152_15 : jx_Go jxP d 152 15 [l0, l1, l2, l3, l4, l5, l6] st h Q ↔ jx_Go jxP d 152 16 [l0, l1, l2, l3, l4, l5, l6] (.int (-1) :: st) h Q := jg_c rfl
theorem s152_16 : jx_Go jxP (d + 1) 152 16 [l0, l1, l2, l3, l4, l5, l6] (.int x0 :: .ref a :: st) h Q ↔ (st.length ≤ 4 ∧ jx_cl h a = some 12 ∧ jx_Go jxP d 130 0 [.ref a, .int x0] [] h (fun s1 h1 => jx_Go jxP (d + 1) 152 19 [l0, l1, l2, l3, l4, l5, l6] (s1 ++ st) h1 Q)) := jg_callV (as := [.int x0, .ref a]) rfl rfl rfl rfl rfl
theorem s152_19 : jx_Go jxP d 152 19 [l0, l1, l2, l3, l4, l5, l6] [.int x] h Q ↔ Q [.int x] h := jx_rt rfl rfl
theorem s152_20 : jx_Go jxP d 152 20 [.ref a, l1, l2, l3, l4, l5, l6] st h Q ↔ jx_Go jxP d 152 21 [.ref a, l1, l2, l3, l4, l5, l6] (.ref a :: st) h Q := jg_al rfl rfl
theorem s152_21 : jx_Go jxP d 152 21 [l0, l1, l2, l3, l4, l5, l6] (.ref a :: st) h Q ↔ ∃ v, jx_fl h a 12 8 = some v ∧ jx_Go jxP d 152 24 [l0, l1, l2, l3, l4, l5, l6] (v :: st) h Q := jg_gf rfl
theorem s152_24 : jx_Go jxP d 152 24 [l0, .int x, l2, l3, l4, l5, l6] st h Q ↔ jx_Go jxP d 152 25 [l0, .int x, l2, l3, l4, l5, l6] (.int x :: st) h Q := jg_il rfl rfl
theorem s152_25 : jx_Go jxP d 152 25 [l0, l1, l2, l3, l4, l5, l6] (.int x :: .ref a :: st) h Q ↔ ∃ q, jx_ai h a = some q ∧ jx_in x q.1 ∧ jx_Go jxP d 152 26 [l0, l1, l2, l3, l4, l5, l6] (.int (q.2 x.toNatClampNeg) :: st) h Q := jg_ia rfl
theorem s152_26 : jx_Go jxP d 152 26 [l0, l1, l2, l3, l4, l5, l6] (.int x :: st) h Q ↔ if x = 0 then jx_Go jxP d 152 38 [l0, l1, l2, l3, l4, l5, l6] st h Q else jx_Go jxP d 152 29 [l0, l1, l2, l3, l4, l5, l6] st h Q := jg_ifP rfl rfl
theorem s152_29 : jx_Go jxP d 152 29 [.ref a, l1, l2, l3, l4, l5, l6] st h Q ↔ jx_Go jxP d 152 30 [.ref a, l1, l2, l3, l4, l5, l6] (.ref a :: st) h Q := jg_al rfl rfl
theorem s152_30 : jx_Go jxP d 152 30 [l0, l1, l2, l3, l4, l5, l6] (.ref a :: st) h Q ↔ ∃ v, jx_fl h a 12 8 = some v ∧ jx_Go jxP d 152 33 [l0, l1, l2, l3, l4, l5, l6] (v :: st) h Q := jg_gf rfl
theorem s152_33 : jx_Go jxP d 152 33 [l0, l1, l2, .int x, l4, l5, l6] st h Q ↔ jx_Go jxP d 152 34 [l0, l1, l2, .int x, l4, l5, l6] (.int x :: st) h Q := jg_il rfl rfl
theorem s152_34 : jx_Go jxP d 152 34 [l0, l1, l2, l3, l4, l5, l6] (.int x :: .ref a :: st) h Q ↔ ∃ q, jx_ai h a = some q ∧ jx_in x q.1 ∧ jx_Go jxP d 152 35 [l0, l1, l2, l3, l4, l5, l6] (.int (q.2 x.toNatClampNeg) :: st) h Q := jg_ia rfl
theorem s152_35 : jx_Go jxP d 152 35 [l0, l1, l2, l3, l4, l5, l6] (.int x :: st) h Q ↔ if x = 0 then jx_Go jxP d 152 38 [l0, l1, l2, l3, l4, l5, l6] st h Q else jx_Go jxP d 152 45 [l0, l1, l2, l3, l4, l5, l6] st h Q := jg_ifN rfl rfl
theorem s152_38 : jx_Go jxP d 152 38 [.ref a, l1, l2, l3, l4, l5, l6] st h Q ↔ jx_Go jxP d 152 39 [.ref a, l1, l2, l3, l4, l5, l6] (.ref a :: st) h Q := jg_al rfl rfl
theorem s152_39 : jx_Go jxP d 152 39 [l0, l1, l2, l3, l4, l5, l6] st h Q ↔ jx_Go jxP d 152 41 [l0, l1, l2, l3, l4, l5, l6] (.int (-2) :: st) h Q := jg_c rfl
theorem s152_41 : jx_Go jxP (d + 1) 152 41 [l0, l1, l2, l3, l4, l5, l6] (.int x0 :: .ref a :: st) h Q ↔ (st.length ≤ 4 ∧ jx_cl h a = some 12 ∧ jx_Go jxP d 130 0 [.ref a, .int x0] [] h (fun s1 h1 => jx_Go jxP (d + 1) 152 44 [l0, l1, l2, l3, l4, l5, l6] (s1 ++ st) h1 Q)) := jg_callV (as := [.int x0, .ref a]) rfl rfl rfl rfl rfl
theorem s152_44 : jx_Go jxP d 152 44 [l0, l1, l2, l3, l4, l5, l6] [.int x] h Q ↔ Q [.int x] h := jx_rt rfl rfl
theorem s152_45 : jx_Go jxP d 152 45 [.ref a, l1, l2, l3, l4, l5, l6] st h Q ↔ jx_Go jxP d 152 46 [.ref a, l1, l2, l3, l4, l5, l6] (.ref a :: st) h Q := jg_al rfl rfl
theorem s152_46 : jx_Go jxP d 152 46 [l0, l1, l2, l3, l4, l5, l6] (.ref a :: st) h Q ↔ ∃ v, jx_fl h a 12 8 = some v ∧ jx_Go jxP d 152 49 [l0, l1, l2, l3, l4, l5, l6] (v :: st) h Q := jg_gf rfl
theorem s152_49 : jx_Go jxP d 152 49 [l0, .int x, l2, l3, l4, l5, l6] st h Q ↔ jx_Go jxP d 152 50 [l0, .int x, l2, l3, l4, l5, l6] (.int x :: st) h Q := jg_il rfl rfl
theorem s152_50 : jx_Go jxP d 152 50 [l0, l1, l2, l3, l4, l5, l6] (.int x :: .ref a :: st) h Q ↔ ∃ q, jx_ai h a = some q ∧ jx_in x q.1 ∧ jx_Go jxP d 152 51 [l0, l1, l2, l3, l4, l5, l6] (.int (q.2 x.toNatClampNeg) :: st) h Q := jg_ia rfl
theorem s152_51 : jx_Go jxP d 152 51 [.ref a, l1, l2, l3, l4, l5, l6] st h Q ↔ jx_Go jxP d 152 52 [.ref a, l1, l2, l3, l4, l5, l6] (.ref a :: st) h Q := jg_al rfl rfl
theorem s152_52 : jx_Go jxP d 152 52 [l0, l1, l2, l3, l4, l5, l6] (.ref a :: st) h Q ↔ ∃ v, jx_fl h a 12 8 = some v ∧ jx_Go jxP d 152 55 [l0, l1, l2, l3, l4, l5, l6] (v :: st) h Q := jg_gf rfl
theorem s152_55 : jx_Go jxP d 152 55 [l0, l1, l2, .int x, l4, l5, l6] st h Q ↔ jx_Go jxP d 152 56 [l0, l1, l2, .int x, l4, l5, l6] (.int x :: st) h Q := jg_il rfl rfl
theorem s152_56 : jx_Go jxP d 152 56 [l0, l1, l2, l3, l4, l5, l6] (.int x :: .ref a :: st) h Q ↔ ∃ q, jx_ai h a = some q ∧ jx_in x q.1 ∧ jx_Go jxP d 152 57 [l0, l1, l2, l3, l4, l5, l6] (.int (q.2 x.toNatClampNeg) :: st) h Q := jg_ia rfl
theorem s152_57 : jx_Go jxP d 152 57 [l0, l1, l2, l3, l4, l5, l6] (.int y :: .int x :: st) h Q ↔ if x = y then jx_Go jxP d 152 67 [l0, l1, l2, l3, l4, l5, l6] st h Q else jx_Go jxP d 152 60 [l0, l1, l2, l3, l4, l5, l6] st h Q := jg_icP rfl rfl
theorem s152_60 : jx_Go jxP d 152 60 [.ref a, l1, l2, l3, l4, l5, l6] st h Q ↔ jx_Go jxP d 152 61 [.ref a, l1, l2, l3, l4, l5, l6] (.ref a :: st) h Q := jg_al rfl rfl
theorem s152_61 : jx_Go jxP d 152 61 [l0, l1, l2, l3, l4, l5, l6] st h Q ↔ jx_Go jxP d 152 63 [l0, l1, l2, l3, l4, l5, l6] (.int (-4) :: st) h Q := jg_c rfl
theorem s152_63 : jx_Go jxP (d + 1) 152 63 [l0, l1, l2, l3, l4, l5, l6] (.int x0 :: .ref a :: st) h Q ↔ (st.length ≤ 4 ∧ jx_cl h a = some 12 ∧ jx_Go jxP d 130 0 [.ref a, .int x0] [] h (fun s1 h1 => jx_Go jxP (d + 1) 152 66 [l0, l1, l2, l3, l4, l5, l6] (s1 ++ st) h1 Q)) := jg_callV (as := [.int x0, .ref a]) rfl rfl rfl rfl rfl
theorem s152_66 : jx_Go jxP d 152 66 [l0, l1, l2, l3, l4, l5, l6] [.int x] h Q ↔ Q [.int x] h := jx_rt rfl rfl
theorem s152_67 : jx_Go jxP d 152 67 [.ref a, l1, l2, l3, l4, l5, l6] st h Q ↔ jx_Go jxP d 152 68 [.ref a, l1, l2, l3, l4, l5, l6] (.ref a :: st) h Q := jg_al rfl rfl
theorem s152_68 : jx_Go jxP d 152 68 [l0, .int x, l2, l3, l4, l5, l6] st h Q ↔ jx_Go jxP d 152 69 [l0, .int x, l2, l3, l4, l5, l6] (.int x :: st) h Q := jg_il rfl rfl
theorem s152_69 : jx_Go jxP d 152 69 [l0, l1, .int x, l3, l4, l5, l6] st h Q ↔ jx_Go jxP d 152 70 [l0, l1, .int x, l3, l4, l5, l6] (.int x :: st) h Q := jg_il rfl rfl
theorem s152_70 : jx_Go jxP d 152 70 [l0, l1, l2, l3, l4, .int x, l6] st h Q ↔ jx_Go jxP d 152 72 [l0, l1, l2, l3, l4, .int x, l6] (.int x :: st) h Q := jg_il rfl rfl
theorem s152_72 : jx_Go jxP (d + 1) 152 72 [l0, l1, l2, l3, l4, l5, l6] (.int x2 :: .int x1 :: .int x0 :: .ref a :: st) h Q ↔ (st.length ≤ 4 ∧ jx_cl h a = some 12 ∧ jx_Go jxP d 151 0 [.ref a, .int x0, .int x1, .int x2] [] h (fun s1 h1 => jx_Go jxP (d + 1) 152 75 [l0, l1, l2, l3, l4, l5, l6] (s1 ++ st) h1 Q)) := jg_callV (as := [.int x2, .int x1, .int x0, .ref a]) rfl rfl rfl rfl rfl
theorem s152_75 : jx_Go jxP d 152 75 [l0, l1, l2, l3, l4, l5, l6] (.int x :: st) h Q ↔ if x = 0 then jx_Go jxP d 152 90 [l0, l1, l2, l3, l4, l5, l6] st h Q else jx_Go jxP d 152 78 [l0, l1, l2, l3, l4, l5, l6] st h Q := jg_ifP rfl rfl
theorem s152_78 : jx_Go jxP d 152 78 [.ref a, l1, l2, l3, l4, l5, l6] st h Q ↔ jx_Go jxP d 152 79 [.ref a, l1, l2, l3, l4, l5, l6] (.ref a :: st) h Q := jg_al rfl rfl
theorem s152_79 : jx_Go jxP d 152 79 [l0, l1, l2, .int x, l4, l5, l6] st h Q ↔ jx_Go jxP d 152 80 [l0, l1, l2, .int x, l4, l5, l6] (.int x :: st) h Q := jg_il rfl rfl
theorem s152_80 : jx_Go jxP d 152 80 [l0, l1, l2, l3, .int x, l5, l6] st h Q ↔ jx_Go jxP d 152 82 [l0, l1, l2, l3, .int x, l5, l6] (.int x :: st) h Q := jg_il rfl rfl
theorem s152_82 : jx_Go jxP d 152 82 [l0, l1, l2, l3, l4, .int x, l6] st h Q ↔ jx_Go jxP d 152 84 [l0, l1, l2, l3, l4, .int x, l6] (.int x :: st) h Q := jg_il rfl rfl
theorem s152_84 : jx_Go jxP (d + 1) 152 84 [l0, l1, l2, l3, l4, l5, l6] (.int x2 :: .int x1 :: .int x0 :: .ref a :: st) h Q ↔ (st.length ≤ 4 ∧ jx_cl h a = some 12 ∧ jx_Go jxP d 151 0 [.ref a, .int x0, .int x1, .int x2] [] h (fun s1 h1 => jx_Go jxP (d + 1) 152 87 [l0, l1, l2, l3, l4, l5, l6] (s1 ++ st) h1 Q)) := jg_callV (as := [.int x2, .int x1, .int x0, .ref a]) rfl rfl rfl rfl rfl
theorem s152_87 : jx_Go jxP d 152 87 [l0, l1, l2, l3, l4, l5, l6] (.int x :: st) h Q ↔ if x = 0 then jx_Go jxP d 152 90 [l0, l1, l2, l3, l4, l5, l6] st h Q else jx_Go jxP d 152 96 [l0, l1, l2, l3, l4, l5, l6] st h Q := jg_ifN rfl rfl
theorem s152_90 : jx_Go jxP d 152 90 [.ref a, l1, l2, l3, l4, l5, l6] st h Q ↔ jx_Go jxP d 152 91 [.ref a, l1, l2, l3, l4, l5, l6] (.ref a :: st) h Q := jg_al rfl rfl
theorem s152_91 : jx_Go jxP d 152 91 [l0, l1, l2, l3, l4, l5, l6] st h Q ↔ jx_Go jxP d 152 92 [l0, l1, l2, l3, l4, l5, l6] (.int (-1) :: st) h Q := jg_c rfl
theorem s152_92 : jx_Go jxP (d + 1) 152 92 [l0, l1, l2, l3, l4, l5, l6] (.int x0 :: .ref a :: st) h Q ↔ (st.length ≤ 4 ∧ jx_cl h a = some 12 ∧ jx_Go jxP d 130 0 [.ref a, .int x0] [] h (fun s1 h1 => jx_Go jxP (d + 1) 152 95 [l0, l1, l2, l3, l4, l5, l6] (s1 ++ st) h1 Q)) := jg_callV (as := [.int x0, .ref a]) rfl rfl rfl rfl rfl
theorem s152_95 : jx_Go jxP d 152 95 [l0, l1, l2, l3, l4, l5, l6] [.int x] h Q ↔ Q [.int x] h := jx_rt rfl rfl
theorem s152_96 : jx_Go jxP d 152 96 [l0, l1, l2, l3, l4, l5, l6] st h Q ↔ jx_Go jxP d 152 97 [l0, l1, l2, l3, l4, l5, l6] (.int (nI 0) :: st) h Q := jg_c rfl
theorem s152_97 : jx_Go jxP d 152 97 [l0, l1, l2, l3, l4, l5, l6] (.int x :: st) h Q ↔ jx_Go jxP d 152 99 [l0, l1, l2, l3, l4, l5, .int x] st h Q := jg_is rfl rfl
theorem s152_99 : jx_Go jxP d 152 99 [l0, l1, l2, l3, l4, l5, .int x] st h Q ↔ jx_Go jxP d 152 101 [l0, l1, l2, l3, l4, l5, .int x] (.int x :: st) h Q := jg_il rfl rfl
theorem s152_101 : jx_Go jxP d 152 101 [l0, l1, l2, l3, l4, .int x, l6] st h Q ↔ jx_Go jxP d 152 103 [l0, l1, l2, l3, l4, .int x, l6] (.int x :: st) h Q := jg_il rfl rfl
theorem s152_103 : jx_Go jxP d 152 103 [l0, l1, l2, l3, l4, l5, l6] (.int y :: .int x :: st) h Q ↔ if y ≤ x then jx_Go jxP d 152 133 [l0, l1, l2, l3, l4, l5, l6] st h Q else jx_Go jxP d 152 106 [l0, l1, l2, l3, l4, l5, l6] st h Q := jg_icP rfl rfl
theorem s152_106 : jx_Go jxP d 152 106 [.ref a, l1, l2, l3, l4, l5, l6] st h Q ↔ jx_Go jxP d 152 107 [.ref a, l1, l2, l3, l4, l5, l6] (.ref a :: st) h Q := jg_al rfl rfl
theorem s152_107 : jx_Go jxP d 152 107 [l0, l1, l2, l3, l4, l5, l6] (.ref a :: st) h Q ↔ ∃ v, jx_fl h a 12 15 = some v ∧ jx_Go jxP d 152 110 [l0, l1, l2, l3, l4, l5, l6] (v :: st) h Q := jg_gf rfl
theorem s152_110 : jx_Go jxP d 152 110 [l0, l1, l2, l3, l4, l5, .int x] st h Q ↔ jx_Go jxP d 152 112 [l0, l1, l2, l3, l4, l5, .int x] (.int x :: st) h Q := jg_il rfl rfl
theorem s152_112 : jx_Go jxP d 152 112 [.ref a, l1, l2, l3, l4, l5, l6] st h Q ↔ jx_Go jxP d 152 113 [.ref a, l1, l2, l3, l4, l5, l6] (.ref a :: st) h Q := jg_al rfl rfl
theorem s152_113 : jx_Go jxP d 152 113 [l0, l1, l2, l3, l4, l5, l6] (.ref a :: st) h Q ↔ ∃ v, jx_fl h a 12 10 = some v ∧ jx_Go jxP d 152 116 [l0, l1, l2, l3, l4, l5, l6] (v :: st) h Q := jg_gf rfl
theorem s152_116 : jx_Go jxP d 152 116 [l0, l1, l2, l3, l4, l5, l6] st h Q ↔ jx_Go jxP d 152 118 [l0, l1, l2, l3, l4, l5, l6] (.int (nI 30) :: st) h Q := jg_c rfl
theorem s152_118 : jx_Go jxP d 152 118 [l0, .int x, l2, l3, l4, l5, l6] st h Q ↔ jx_Go jxP d 152 119 [l0, .int x, l2, l3, l4, l5, l6] (.int x :: st) h Q := jg_il rfl rfl
theorem s152_119 : jx_Go jxP d 152 119 [l0, l1, l2, l3, l4, l5, l6] (.int y :: .int x :: st) h Q ↔ jx_Go jxP d 152 120 [l0, l1, l2, l3, l4, l5, l6] (.int (x * y) :: st) h Q := jg_b (f := fun x y => x * y) rfl
theorem s152_120 : jx_Go jxP d 152 120 [l0, l1, .int x, l3, l4, l5, l6] st h Q ↔ jx_Go jxP d 152 121 [l0, l1, .int x, l3, l4, l5, l6] (.int x :: st) h Q := jg_il rfl rfl
theorem s152_121 : jx_Go jxP d 152 121 [l0, l1, l2, l3, l4, l5, l6] (.int y :: .int x :: st) h Q ↔ jx_Go jxP d 152 122 [l0, l1, l2, l3, l4, l5, l6] (.int (x + y) :: st) h Q := jg_b (f := fun x y => x + y) rfl
theorem s152_122 : jx_Go jxP d 152 122 [l0, l1, l2, l3, l4, l5, .int x] st h Q ↔ jx_Go jxP d 152 124 [l0, l1, l2, l3, l4, l5, .int x] (.int x :: st) h Q := jg_il rfl rfl
theorem s152_124 : jx_Go jxP d 152 124 [l0, l1, l2, l3, l4, l5, l6] (.int y :: .int x :: st) h Q ↔ jx_Go jxP d 152 125 [l0, l1, l2, l3, l4, l5, l6] (.int (x + y) :: st) h Q := jg_b (f := fun x y => x + y) rfl
theorem s152_125 : jx_Go jxP d 152 125 [l0, l1, l2, l3, l4, l5, l6] (.int x :: .ref a :: st) h Q ↔ ∃ q, jx_ai h a = some q ∧ jx_in x q.1 ∧ jx_Go jxP d 152 126 [l0, l1, l2, l3, l4, l5, l6] (.int (q.2 x.toNatClampNeg) :: st) h Q := jg_ia rfl
theorem s152_126 : jx_Go jxP d 152 126 [l0, l1, l2, l3, l4, l5, l6] (.int y :: .int x :: .ref a :: st) h Q ↔ ∃ q, jx_ai h a = some q ∧ jx_in x q.1 ∧ jx_Go jxP d 152 127 [l0, l1, l2, l3, l4, l5, l6] st (jx_wi h a q.1 (upd q.2 x.toNatClampNeg y)) Q := jg_iw rfl
theorem s152_127 : jx_Go jxP d 152 127 [l0, l1, l2, l3, l4, l5, .int x] st h Q ↔ jx_Go jxP d 152 130 [l0, l1, l2, l3, l4, l5, .int (x + (nI 1))] st h Q := jg_inc rfl rfl rfl
theorem s152_130 : jx_Go jxP d 152 130 [l0, l1, l2, l3, l4, l5, l6] st h Q ↔ jx_Go jxP d 152 99 [l0, l1, l2, l3, l4, l5, l6] st h Q := jg_go rfl
theorem s152_133 : jx_Go jxP d 152 133 [l0, l1, l2, l3, l4, l5, l6] st h Q ↔ jx_Go jxP d 152 134 [l0, l1, l2, l3, l4, l5, l6] (.int (nI 0) :: st) h Q := jg_c rfl
theorem s152_134 : jx_Go jxP d 152 134 [l0, l1, l2, l3, l4, l5, l6] (.int x :: st) h Q ↔ jx_Go jxP d 152 136 [l0, l1, l2, l3, l4, l5, .int x] st h Q := jg_is rfl rfl
theorem s152_136 : jx_Go jxP d 152 136 [l0, l1, l2, l3, l4, l5, .int x] st h Q ↔ jx_Go jxP d 152 138 [l0, l1, l2, l3, l4, l5, .int x] (.int x :: st) h Q := jg_il rfl rfl
theorem s152_138 : jx_Go jxP d 152 138 [l0, l1, l2, l3, l4, .int x, l6] st h Q ↔ jx_Go jxP d 152 140 [l0, l1, l2, l3, l4, .int x, l6] (.int x :: st) h Q := jg_il rfl rfl
theorem s152_140 : jx_Go jxP d 152 140 [l0, l1, l2, l3, l4, l5, l6] (.int y :: .int x :: st) h Q ↔ if y ≤ x then jx_Go jxP d 152 171 [l0, l1, l2, l3, l4, l5, l6] st h Q else jx_Go jxP d 152 143 [l0, l1, l2, l3, l4, l5, l6] st h Q := jg_icP rfl rfl
theorem s152_143 : jx_Go jxP d 152 143 [.ref a, l1, l2, l3, l4, l5, l6] st h Q ↔ jx_Go jxP d 152 144 [.ref a, l1, l2, l3, l4, l5, l6] (.ref a :: st) h Q := jg_al rfl rfl
theorem s152_144 : jx_Go jxP d 152 144 [l0, l1, l2, l3, l4, l5, l6] (.ref a :: st) h Q ↔ ∃ v, jx_fl h a 12 10 = some v ∧ jx_Go jxP d 152 147 [l0, l1, l2, l3, l4, l5, l6] (v :: st) h Q := jg_gf rfl
theorem s152_147 : jx_Go jxP d 152 147 [l0, l1, l2, l3, l4, l5, l6] st h Q ↔ jx_Go jxP d 152 149 [l0, l1, l2, l3, l4, l5, l6] (.int (nI 30) :: st) h Q := jg_c rfl
theorem s152_149 : jx_Go jxP d 152 149 [l0, l1, l2, .int x, l4, l5, l6] st h Q ↔ jx_Go jxP d 152 150 [l0, l1, l2, .int x, l4, l5, l6] (.int x :: st) h Q := jg_il rfl rfl
theorem s152_150 : jx_Go jxP d 152 150 [l0, l1, l2, l3, l4, l5, l6] (.int y :: .int x :: st) h Q ↔ jx_Go jxP d 152 151 [l0, l1, l2, l3, l4, l5, l6] (.int (x * y) :: st) h Q := jg_b (f := fun x y => x * y) rfl
theorem s152_151 : jx_Go jxP d 152 151 [l0, l1, l2, l3, .int x, l5, l6] st h Q ↔ jx_Go jxP d 152 153 [l0, l1, l2, l3, .int x, l5, l6] (.int x :: st) h Q := jg_il rfl rfl
theorem s152_153 : jx_Go jxP d 152 153 [l0, l1, l2, l3, l4, l5, l6] (.int y :: .int x :: st) h Q ↔ jx_Go jxP d 152 154 [l0, l1, l2, l3, l4, l5, l6] (.int (x + y) :: st) h Q := jg_b (f := fun x y => x + y) rfl
theorem s152_154 : jx_Go jxP d 152 154 [l0, l1, l2, l3, l4, l5, .int x] st h Q ↔ jx_Go jxP d 152 156 [l0, l1, l2, l3, l4, l5, .int x] (.int x :: st) h Q := jg_il rfl rfl
theorem s152_156 : jx_Go jxP d 152 156 [l0, l1, l2, l3, l4, l5, l6] (.int y :: .int x :: st) h Q ↔ jx_Go jxP d 152 157 [l0, l1, l2, l3, l4, l5, l6] (.int (x + y) :: st) h Q := jg_b (f := fun x y => x + y) rfl
theorem s152_157 : jx_Go jxP d 152 157 [.ref a, l1, l2, l3, l4, l5, l6] st h Q ↔ jx_Go jxP d 152 158 [.ref a, l1, l2, l3, l4, l5, l6] (.ref a :: st) h Q := jg_al rfl rfl
theorem s152_158 : jx_Go jxP d 152 158 [l0, l1, l2, l3, l4, l5, l6] (.ref a :: st) h Q ↔ ∃ v, jx_fl h a 12 15 = some v ∧ jx_Go jxP d 152 161 [l0, l1, l2, l3, l4, l5, l6] (v :: st) h Q := jg_gf rfl
theorem s152_161 : jx_Go jxP d 152 161 [l0, l1, l2, l3, l4, l5, .int x] st h Q ↔ jx_Go jxP d 152 163 [l0, l1, l2, l3, l4, l5, .int x] (.int x :: st) h Q := jg_il rfl rfl
theorem s152_163 : jx_Go jxP d 152 163 [l0, l1, l2, l3, l4, l5, l6] (.int x :: .ref a :: st) h Q ↔ ∃ q, jx_ai h a = some q ∧ jx_in x q.1 ∧ jx_Go jxP d 152 164 [l0, l1, l2, l3, l4, l5, l6] (.int (q.2 x.toNatClampNeg) :: st) h Q := jg_ia rfl
theorem s152_164 : jx_Go jxP d 152 164 [l0, l1, l2, l3, l4, l5, l6] (.int y :: .int x :: .ref a :: st) h Q ↔ ∃ q, jx_ai h a = some q ∧ jx_in x q.1 ∧ jx_Go jxP d 152 165 [l0, l1, l2, l3, l4, l5, l6] st (jx_wi h a q.1 (upd q.2 x.toNatClampNeg y)) Q := jg_iw rfl
theorem s152_165 : jx_Go jxP d 152 165 [l0, l1, l2, l3, l4, l5, .int x] st h Q ↔ jx_Go jxP d 152 168 [l0, l1, l2, l3, l4, l5, .int (x + (nI 1))] st h Q := jg_inc rfl rfl rfl
theorem s152_168 : jx_Go jxP d 152 168 [l0, l1, l2, l3, l4, l5, l6] st h Q ↔ jx_Go jxP d 152 136 [l0, l1, l2, l3, l4, l5, l6] st h Q := jg_go rfl
theorem s152_171 : jx_Go jxP d 152 171 [l0, l1, l2, l3, l4, .int x, l6] st h Q ↔ jx_Go jxP d 152 173 [l0, l1, l2, l3, l4, .int x, l6] (.int x :: st) h Q := jg_il rfl rfl
theorem s152_173 : jx_Go jxP d 152 173 [l0, l1, l2, l3, l4, l5, l6] [.int x] h Q ↔ Q [.int x] h := jx_rt rfl rfl
-- 153 TalkBenchModel.lay
theorem s153_0 : jx_Go jxP d 153 0 [l0, .int x, l2] st h Q ↔ jx_Go jxP d 153 1 [l0, .int x, l2] (.int x :: st) h Q := jg_il rfl rfl
theorem s153_1 : jx_Go jxP (d + 1) 153 1 [l0, l1, l2] (.int x0 :: st) h Q ↔ (st.length ≤ 4 ∧ jx_Go jxP d 148 0 [.int x0] [] h (fun s1 h1 => jx_Go jxP (d + 1) 153 4 [l0, l1, l2] (s1 ++ st) h1 Q)) := jg_callS (as := [.int x0]) rfl rfl rfl rfl
theorem s153_4 : jx_Go jxP d 153 4 [l0, l1, l2] (.int x :: st) h Q ↔ if x = 0 then jx_Go jxP d 153 7 [l0, l1, l2] st h Q else jx_Go jxP d 153 13 [l0, l1, l2] st h Q := jg_ifN rfl rfl
theorem s153_7 : jx_Go jxP d 153 7 [.ref a, l1, l2] st h Q ↔ jx_Go jxP d 153 8 [.ref a, l1, l2] (.ref a :: st) h Q := jg_al rfl rfl
theorem s153_8 : jx_Go jxP d 153 8 [l0, l1, l2] st h Q ↔ jx_Go jxP d 153 9 [l0, l1, l2] (.int (-1) :: st) h Q := jg_c rfl
theorem s153_9 : jx_Go jxP (d + 1) 153 9 [l0, l1, l2] (.int x0 :: .ref a :: st) h Q ↔ (st.length ≤ 4 ∧ jx_cl h a = some 12 ∧ jx_Go jxP d 130 0 [.ref a, .int x0] [] h (fun s1 h1 => jx_Go jxP (d + 1) 153 12 [l0, l1, l2] (s1 ++ st) h1 Q)) := jg_callV (as := [.int x0, .ref a]) rfl rfl rfl rfl rfl
theorem s153_12 : jx_Go jxP d 153 12 [l0, l1, l2] [.int x] h Q ↔ Q [.int x] h := jx_rt rfl rfl
theorem s153_13 : jx_Go jxP d 153 13 [.ref a, l1, l2] st h Q ↔ jx_Go jxP d 153 14 [.ref a, l1, l2] (.ref a :: st) h Q := jg_al rfl rfl
theorem s153_14 : jx_Go jxP d 153 14 [l0, l1, l2] (.ref a :: st) h Q ↔ ∃ v, jx_fl h a 12 8 = some v ∧ jx_Go jxP d 153 17 [l0, l1, l2] (v :: st) h Q := jg_gf rfl
theorem s153_17 : jx_Go jxP d 153 17 [l0, .int x, l2] st h Q ↔ jx_Go jxP d 153 18 [l0, .int x, l2] (.int x :: st) h Q := jg_il rfl rfl
theorem s153_18 : jx_Go jxP d 153 18 [l0, l1, l2] (.int x :: .ref a :: st) h Q ↔ ∃ q, jx_ai h a = some q ∧ jx_in x q.1 ∧ jx_Go jxP d 153 19 [l0, l1, l2] (.int (q.2 x.toNatClampNeg) :: st) h Q := jg_ia rfl
theorem s153_19 : jx_Go jxP d 153 19 [l0, l1, l2] (.int x :: st) h Q ↔ if x = 0 then jx_Go jxP d 153 22 [l0, l1, l2] st h Q else jx_Go jxP d 153 29 [l0, l1, l2] st h Q := jg_ifN rfl rfl
theorem s153_22 : jx_Go jxP d 153 22 [.ref a, l1, l2] st h Q ↔ jx_Go jxP d 153 23 [.ref a, l1, l2] (.ref a :: st) h Q := jg_al rfl rfl
theorem s153_23 : jx_Go jxP d 153 23 [l0, l1, l2] st h Q ↔ jx_Go jxP d 153 25 [l0, l1, l2] (.int (-2) :: st) h Q := jg_c rfl
theorem s153_25 : jx_Go jxP (d + 1) 153 25 [l0, l1, l2] (.int x0 :: .ref a :: st) h Q ↔ (st.length ≤ 4 ∧ jx_cl h a = some 12 ∧ jx_Go jxP d 130 0 [.ref a, .int x0] [] h (fun s1 h1 => jx_Go jxP (d + 1) 153 28 [l0, l1, l2] (s1 ++ st) h1 Q)) := jg_callV (as := [.int x0, .ref a]) rfl rfl rfl rfl rfl
theorem s153_28 : jx_Go jxP d 153 28 [l0, l1, l2] [.int x] h Q ↔ Q [.int x] h := jx_rt rfl rfl
theorem s153_29 : jx_Go jxP d 153 29 [.ref a, l1, l2] st h Q ↔ jx_Go jxP d 153 30 [.ref a, l1, l2] (.ref a :: st) h Q := jg_al rfl rfl
theorem s153_30 : jx_Go jxP d 153 30 [l0, l1, l2] (.ref a :: st) h Q ↔ ∃ v, jx_fl h a 12 9 = some v ∧ jx_Go jxP d 153 33 [l0, l1, l2] (v :: st) h Q := jg_gf rfl
theorem s153_33 : jx_Go jxP d 153 33 [l0, .int x, l2] st h Q ↔ jx_Go jxP d 153 34 [l0, .int x, l2] (.int x :: st) h Q := jg_il rfl rfl
theorem s153_34 : jx_Go jxP d 153 34 [l0, l1, l2] (.int x :: .ref a :: st) h Q ↔ ∃ q, jx_ai h a = some q ∧ jx_in x q.1 ∧ jx_Go jxP d 153 35 [l0, l1, l2] (.int (q.2 x.toNatClampNeg) :: st) h Q := jg_ia rfl
theorem s153_35 : jx_Go jxP d 153 35 [.ref a, l1, l2] st h Q ↔ jx_Go jxP d 153 36 [.ref a, l1, l2] (.ref a :: st) h Q := jg_al rfl rfl
theorem s153_36 : jx_Go jxP d 153 36 [l0, l1, l2] (.ref a :: st) h Q ↔ ∃ v, jx_fl h a 12 0 = some v ∧ jx_Go jxP d 153 39 [l0, l1, l2] (v :: st) h Q := jg_gf rfl
theorem s153_39 : jx_Go jxP d 153 39 [.ref a, l1, l2] st h Q ↔ jx_Go jxP d 153 40 [.ref a, l1, l2] (.ref a :: st) h Q := jg_al rfl rfl
theorem s153_40 : jx_Go jxP d 153 40 [l0, l1, l2] (.ref a :: st) h Q ↔ ∃ v, jx_fl h a 12 1 = some v ∧ jx_Go jxP d 153 43 [l0, l1, l2] (v :: st) h Q := jg_gf rfl
theorem s153_43 : jx_Go jxP d 153 43 [l0, l1, l2] (.int y :: .int x :: st) h Q ↔ jx_Go jxP d 153 44 [l0, l1, l2] (.int (x * y) :: st) h Q := jg_b (f := fun x y => x * y) rfl
theorem s153_44 : jx_Go jxP d 153 44 [l0, l1, l2] (.int y :: .int x :: st) h Q ↔ if x ≤ y then jx_Go jxP d 153 54 [l0, l1, l2] st h Q else jx_Go jxP d 153 47 [l0, l1, l2] st h Q := jg_icP rfl rfl
theorem s153_47 : jx_Go jxP d 153 47 [.ref a, l1, l2] st h Q ↔ jx_Go jxP d 153 48 [.ref a, l1, l2] (.ref a :: st) h Q := jg_al rfl rfl
theorem s153_48 : jx_Go jxP d 153 48 [l0, l1, l2] st h Q ↔ jx_Go jxP d 153 50 [l0, l1, l2] (.int (-3) :: st) h Q := jg_c rfl
theorem s153_50 : jx_Go jxP (d + 1) 153 50 [l0, l1, l2] (.int x0 :: .ref a :: st) h Q ↔ (st.length ≤ 4 ∧ jx_cl h a = some 12 ∧ jx_Go jxP d 130 0 [.ref a, .int x0] [] h (fun s1 h1 => jx_Go jxP (d + 1) 153 53 [l0, l1, l2] (s1 ++ st) h1 Q)) := jg_callV (as := [.int x0, .ref a]) rfl rfl rfl rfl rfl
theorem s153_53 : jx_Go jxP d 153 53 [l0, l1, l2] [.int x] h Q ↔ Q [.int x] h := jx_rt rfl rfl
theorem s153_54 : jx_Go jxP d 153 54 [l0, l1, l2] st h Q ↔ jx_Go jxP d 153 55 [l0, l1, l2] (.int (nI 0) :: st) h Q := jg_c rfl
theorem s153_55 : jx_Go jxP d 153 55 [l0, l1, l2] (.int x :: st) h Q ↔ jx_Go jxP d 153 56 [l0, l1, .int x] st h Q := jg_is rfl rfl
theorem s153_56 : jx_Go jxP d 153 56 [l0, l1, .int x] st h Q ↔ jx_Go jxP d 153 57 [l0, l1, .int x] (.int x :: st) h Q := jg_il rfl rfl
theorem s153_57 : jx_Go jxP d 153 57 [.ref a, l1, l2] st h Q ↔ jx_Go jxP d 153 58 [.ref a, l1, l2] (.ref a :: st) h Q := jg_al rfl rfl
theorem s153_58 : jx_Go jxP d 153 58 [l0, l1, l2] (.ref a :: st) h Q ↔ ∃ v, jx_fl h a 12 9 = some v ∧ jx_Go jxP d 153 61 [l0, l1, l2] (v :: st) h Q := jg_gf rfl
theorem s153_61 : jx_Go jxP d 153 61 [l0, .int x, l2] st h Q ↔ jx_Go jxP d 153 62 [l0, .int x, l2] (.int x :: st) h Q := jg_il rfl rfl
theorem s153_62 : jx_Go jxP d 153 62 [l0, l1, l2] (.int x :: .ref a :: st) h Q ↔ ∃ q, jx_ai h a = some q ∧ jx_in x q.1 ∧ jx_Go jxP d 153 63 [l0, l1, l2] (.int (q.2 x.toNatClampNeg) :: st) h Q := jg_ia rfl
theorem s153_63 : jx_Go jxP d 153 63 [l0, l1, l2] (.int y :: .int x :: st) h Q ↔ if y ≤ x then jx_Go jxP d 153 107 [l0, l1, l2] st h Q else jx_Go jxP d 153 66 [l0, l1, l2] st h Q := jg_icP rfl rfl
theorem s153_66 : jx_Go jxP d 153 66 [.ref a, l1, l2] st h Q ↔ jx_Go jxP d 153 67 [.ref a, l1, l2] (.ref a :: st) h Q := jg_al rfl rfl
theorem s153_67 : jx_Go jxP d 153 67 [l0, l1, l2] (.ref a :: st) h Q ↔ ∃ v, jx_fl h a 12 10 = some v ∧ jx_Go jxP d 153 70 [l0, l1, l2] (v :: st) h Q := jg_gf rfl
theorem s153_70 : jx_Go jxP d 153 70 [l0, l1, l2] st h Q ↔ jx_Go jxP d 153 72 [l0, l1, l2] (.int (nI 30) :: st) h Q := jg_c rfl
theorem s153_72 : jx_Go jxP d 153 72 [l0, .int x, l2] st h Q ↔ jx_Go jxP d 153 73 [l0, .int x, l2] (.int x :: st) h Q := jg_il rfl rfl
theorem s153_73 : jx_Go jxP d 153 73 [l0, l1, l2] (.int y :: .int x :: st) h Q ↔ jx_Go jxP d 153 74 [l0, l1, l2] (.int (x * y) :: st) h Q := jg_b (f := fun x y => x * y) rfl
theorem s153_74 : jx_Go jxP d 153 74 [l0, l1, .int x] st h Q ↔ jx_Go jxP d 153 75 [l0, l1, .int x] (.int x :: st) h Q := jg_il rfl rfl
theorem s153_75 : jx_Go jxP d 153 75 [l0, l1, l2] (.int y :: .int x :: st) h Q ↔ jx_Go jxP d 153 76 [l0, l1, l2] (.int (x + y) :: st) h Q := jg_b (f := fun x y => x + y) rfl
theorem s153_76 : jx_Go jxP d 153 76 [l0, l1, l2] (.int x :: .ref a :: st) h Q ↔ ∃ q, jx_ai h a = some q ∧ jx_in x q.1 ∧ jx_Go jxP d 153 77 [l0, l1, l2] (.int (q.2 x.toNatClampNeg) :: st) h Q := jg_ia rfl
theorem s153_77 : jx_Go jxP d 153 77 [l0, l1, l2] (.int x :: st) h Q ↔ if x < 0 then jx_Go jxP d 153 95 [l0, l1, l2] st h Q else jx_Go jxP d 153 80 [l0, l1, l2] st h Q := jg_ifP rfl rfl
theorem s153_80 : jx_Go jxP d 153 80 [.ref a, l1, l2] st h Q ↔ jx_Go jxP d 153 81 [.ref a, l1, l2] (.ref a :: st) h Q := jg_al rfl rfl
theorem s153_81 : jx_Go jxP d 153 81 [l0, l1, l2] (.ref a :: st) h Q ↔ ∃ v, jx_fl h a 12 10 = some v ∧ jx_Go jxP d 153 84 [l0, l1, l2] (v :: st) h Q := jg_gf rfl
theorem s153_84 : jx_Go jxP d 153 84 [l0, l1, l2] st h Q ↔ jx_Go jxP d 153 86 [l0, l1, l2] (.int (nI 30) :: st) h Q := jg_c rfl
theorem s153_86 : jx_Go jxP d 153 86 [l0, .int x, l2] st h Q ↔ jx_Go jxP d 153 87 [l0, .int x, l2] (.int x :: st) h Q := jg_il rfl rfl
theorem s153_87 : jx_Go jxP d 153 87 [l0, l1, l2] (.int y :: .int x :: st) h Q ↔ jx_Go jxP d 153 88 [l0, l1, l2] (.int (x * y) :: st) h Q := jg_b (f := fun x y => x * y) rfl
theorem s153_88 : jx_Go jxP d 153 88 [l0, l1, .int x] st h Q ↔ jx_Go jxP d 153 89 [l0, l1, .int x] (.int x :: st) h Q := jg_il rfl rfl
theorem s153_89 : jx_Go jxP d 153 89 [l0, l1, l2] (.int y :: .int x :: st) h Q ↔ jx_Go jxP d 153 90 [l0, l1, l2] (.int (x + y) :: st) h Q := jg_b (f := fun x y => x + y) rfl
theorem s153_90 : jx_Go jxP d 153 90 [l0, l1, l2] (.int x :: .ref a :: st) h Q ↔ ∃ q, jx_ai h a = some q ∧ jx_in x q.1 ∧ jx_Go jxP d 153 91 [l0, l1, l2] (.int (q.2 x.toNatClampNeg) :: st) h Q := jg_ia rfl
theorem s153_91 : jx_Go jxP d 153 91 [l0, l1, l2] st h Q ↔ jx_Go jxP d 153 92 [l0, l1, l2] (.int (nI 2) :: st) h Q := jg_c rfl
theorem s153_92 : jx_Go jxP d 153 92 [l0, l1, l2] (.int y :: .int x :: st) h Q ↔ if x ≤ y then jx_Go jxP d 153 101 [l0, l1, l2] st h Q else jx_Go jxP d 153 95 [l0, l1, l2] st h Q := jg_icP rfl rfl
theorem s153_95 : jx_Go jxP d 153 95 [.ref a, l1, l2] st h Q ↔ jx_Go jxP d 153 96 [.ref a, l1, l2] (.ref a :: st) h Q := jg_al rfl rfl
theorem s153_96 : jx_Go jxP d 153 96 [l0, l1, l2] st h Q ↔ jx_Go jxP d 153 97 [l0, l1, l2] (.int (-1) :: st) h Q := jg_c rfl
theorem s153_97 : jx_Go jxP (d + 1) 153 97 [l0, l1, l2] (.int x0 :: .ref a :: st) h Q ↔ (st.length ≤ 4 ∧ jx_cl h a = some 12 ∧ jx_Go jxP d 130 0 [.ref a, .int x0] [] h (fun s1 h1 => jx_Go jxP (d + 1) 153 100 [l0, l1, l2] (s1 ++ st) h1 Q)) := jg_callV (as := [.int x0, .ref a]) rfl rfl rfl rfl rfl
theorem s153_100 : jx_Go jxP d 153 100 [l0, l1, l2] [.int x] h Q ↔ Q [.int x] h := jx_rt rfl rfl
theorem s153_101 : jx_Go jxP d 153 101 [l0, l1, .int x] st h Q ↔ jx_Go jxP d 153 104 [l0, l1, .int (x + (nI 1))] st h Q := jg_inc rfl rfl rfl
theorem s153_104 : jx_Go jxP d 153 104 [l0, l1, l2] st h Q ↔ jx_Go jxP d 153 56 [l0, l1, l2] st h Q := jg_go rfl
theorem s153_107 : jx_Go jxP d 153 107 [.ref a, l1, l2] st h Q ↔ jx_Go jxP d 153 108 [.ref a, l1, l2] (.ref a :: st) h Q := jg_al rfl rfl
theorem s153_108 : jx_Go jxP (d + 1) 153 108 [l0, l1, l2] (.ref a :: st) h Q ↔ (st.length ≤ 4 ∧ jx_cl h a = some 12 ∧ jx_Go jxP d 136 0 [.ref a, jx_u] [] h (fun s1 h1 => jx_Go jxP (d + 1) 153 111 [l0, l1, l2] (s1 ++ st) h1 Q)) := jg_callV (as := [.ref a]) rfl rfl rfl rfl rfl
theorem s153_111 : jx_Go jxP d 153 111 [l0, l1, l2] st h Q ↔ jx_Go jxP d 153 112 [l0, l1, l2] (.int (nI 0) :: st) h Q := jg_c rfl
theorem s153_112 : jx_Go jxP d 153 112 [l0, l1, l2] (.int x :: st) h Q ↔ jx_Go jxP d 153 113 [l0, l1, .int x] st h Q := jg_is rfl rfl
theorem s153_113 : jx_Go jxP d 153 113 [l0, l1, .int x] st h Q ↔ jx_Go jxP d 153 114 [l0, l1, .int x] (.int x :: st) h Q := jg_il rfl rfl
theorem s153_114 : jx_Go jxP d 153 114 [.ref a, l1, l2] st h Q ↔ jx_Go jxP d 153 115 [.ref a, l1, l2] (.ref a :: st) h Q := jg_al rfl rfl
theorem s153_115 : jx_Go jxP d 153 115 [l0, l1, l2] (.ref a :: st) h Q ↔ ∃ v, jx_fl h a 12 0 = some v ∧ jx_Go jxP d 153 118 [l0, l1, l2] (v :: st) h Q := jg_gf rfl
theorem s153_118 : jx_Go jxP d 153 118 [.ref a, l1, l2] st h Q ↔ jx_Go jxP d 153 119 [.ref a, l1, l2] (.ref a :: st) h Q := jg_al rfl rfl
theorem s153_119 : jx_Go jxP d 153 119 [l0, l1, l2] (.ref a :: st) h Q ↔ ∃ v, jx_fl h a 12 1 = some v ∧ jx_Go jxP d 153 122 [l0, l1, l2] (v :: st) h Q := jg_gf rfl
theorem s153_122 : jx_Go jxP d 153 122 [l0, l1, l2] (.int y :: .int x :: st) h Q ↔ jx_Go jxP d 153 123 [l0, l1, l2] (.int (x * y) :: st) h Q := jg_b (f := fun x y => x * y) rfl
theorem s153_123 : jx_Go jxP d 153 123 [l0, l1, l2] (.int y :: .int x :: st) h Q ↔ if y ≤ x then jx_Go jxP d 153 177 [l0, l1, l2] st h Q else jx_Go jxP d 153 126 [l0, l1, l2] st h Q := jg_icP rfl rfl
theorem s153_126 : jx_Go jxP d 153 126 [.ref a, l1, l2] st h Q ↔ jx_Go jxP d 153 127 [.ref a, l1, l2] (.ref a :: st) h Q := jg_al rfl rfl
theorem s153_127 : jx_Go jxP d 153 127 [l0, l1, l2] (.ref a :: st) h Q ↔ ∃ v, jx_fl h a 12 2 = some v ∧ jx_Go jxP d 153 130 [l0, l1, l2] (v :: st) h Q := jg_gf rfl
theorem s153_130 : jx_Go jxP d 153 130 [l0, l1, l2] st h Q ↔ jx_Go jxP d 153 131 [l0, l1, l2] (.int (nI 5) :: st) h Q := jg_c rfl
theorem s153_131 : jx_Go jxP d 153 131 [l0, l1, .int x] st h Q ↔ jx_Go jxP d 153 132 [l0, l1, .int x] (.int x :: st) h Q := jg_il rfl rfl
theorem s153_132 : jx_Go jxP d 153 132 [.ref a, l1, l2] st h Q ↔ jx_Go jxP d 153 133 [.ref a, l1, l2] (.ref a :: st) h Q := jg_al rfl rfl
theorem s153_133 : jx_Go jxP d 153 133 [l0, l1, l2] (.ref a :: st) h Q ↔ ∃ v, jx_fl h a 12 1 = some v ∧ jx_Go jxP d 153 136 [l0, l1, l2] (v :: st) h Q := jg_gf rfl
theorem s153_136 : jx_Go jxP d 153 136 [l0, l1, l2] (.int y :: .int x :: st) h Q ↔ (¬ y = 0 ∧ jx_Go jxP d 153 137 [l0, l1, l2] (.int (x / y) :: st) h Q) := jg_q (f := fun x y => x / y) rfl
theorem s153_137 : jx_Go jxP d 153 137 [l0, l1, l2] (.int y :: .int x :: st) h Q ↔ jx_Go jxP d 153 138 [l0, l1, l2] (.int (x * y) :: st) h Q := jg_b (f := fun x y => x * y) rfl
theorem s153_138 : jx_Go jxP d 153 138 [l0, l1, .int x] st h Q ↔ jx_Go jxP d 153 139 [l0, l1, .int x] (.int x :: st) h Q := jg_il rfl rfl
theorem s153_139 : jx_Go jxP d 153 139 [.ref a, l1, l2] st h Q ↔ jx_Go jxP d 153 140 [.ref a, l1, l2] (.ref a :: st) h Q := jg_al rfl rfl
theorem s153_140 : jx_Go jxP d 153 140 [l0, l1, l2] (.ref a :: st) h Q ↔ ∃ v, jx_fl h a 12 1 = some v ∧ jx_Go jxP d 153 143 [l0, l1, l2] (v :: st) h Q := jg_gf rfl
theorem s153_143 : jx_Go jxP d 153 143 [l0, l1, l2] (.int y :: .int x :: st) h Q ↔ (¬ y = 0 ∧ jx_Go jxP d 153 144 [l0, l1, l2] (.int (x - x / y * y) :: st) h Q) := jg_q (f := fun x y => x - x / y * y) rfl
theorem s153_144 : jx_Go jxP d 153 144 [l0, l1, l2] (.int y :: .int x :: st) h Q ↔ jx_Go jxP d 153 145 [l0, l1, l2] (.int (x + y) :: st) h Q := jg_b (f := fun x y => x + y) rfl
theorem s153_145 : jx_Go jxP d 153 145 [l0, l1, .int x] st h Q ↔ jx_Go jxP d 153 146 [l0, l1, .int x] (.int x :: st) h Q := jg_il rfl rfl
theorem s153_146 : jx_Go jxP d 153 146 [.ref a, l1, l2] st h Q ↔ jx_Go jxP d 153 147 [.ref a, l1, l2] (.ref a :: st) h Q := jg_al rfl rfl
theorem s153_147 : jx_Go jxP d 153 147 [l0, l1, l2] (.ref a :: st) h Q ↔ ∃ v, jx_fl h a 12 9 = some v ∧ jx_Go jxP d 153 150 [l0, l1, l2] (v :: st) h Q := jg_gf rfl
theorem s153_150 : jx_Go jxP d 153 150 [l0, .int x, l2] st h Q ↔ jx_Go jxP d 153 151 [l0, .int x, l2] (.int x :: st) h Q := jg_il rfl rfl
theorem s153_151 : jx_Go jxP d 153 151 [l0, l1, l2] (.int x :: .ref a :: st) h Q ↔ ∃ q, jx_ai h a = some q ∧ jx_in x q.1 ∧ jx_Go jxP d 153 152 [l0, l1, l2] (.int (q.2 x.toNatClampNeg) :: st) h Q := jg_ia rfl
theorem s153_152 : jx_Go jxP d 153 152 [l0, l1, l2] (.int y :: .int x :: st) h Q ↔ if y ≤ x then jx_Go jxP d 153 169 [l0, l1, l2] st h Q else jx_Go jxP d 153 155 [l0, l1, l2] st h Q := jg_icP rfl rfl
theorem s153_155 : jx_Go jxP d 153 155 [.ref a, l1, l2] st h Q ↔ jx_Go jxP d 153 156 [.ref a, l1, l2] (.ref a :: st) h Q := jg_al rfl rfl
theorem s153_156 : jx_Go jxP d 153 156 [l0, l1, l2] (.ref a :: st) h Q ↔ ∃ v, jx_fl h a 12 10 = some v ∧ jx_Go jxP d 153 159 [l0, l1, l2] (v :: st) h Q := jg_gf rfl
theorem s153_159 : jx_Go jxP d 153 159 [l0, l1, l2] st h Q ↔ jx_Go jxP d 153 161 [l0, l1, l2] (.int (nI 30) :: st) h Q := jg_c rfl
theorem s153_161 : jx_Go jxP d 153 161 [l0, .int x, l2] st h Q ↔ jx_Go jxP d 153 162 [l0, .int x, l2] (.int x :: st) h Q := jg_il rfl rfl
theorem s153_162 : jx_Go jxP d 153 162 [l0, l1, l2] (.int y :: .int x :: st) h Q ↔ jx_Go jxP d 153 163 [l0, l1, l2] (.int (x * y) :: st) h Q := jg_b (f := fun x y => x * y) rfl
theorem s153_163 : jx_Go jxP d 153 163 [l0, l1, .int x] st h Q ↔ jx_Go jxP d 153 164 [l0, l1, .int x] (.int x :: st) h Q := jg_il rfl rfl
theorem s153_164 : jx_Go jxP d 153 164 [l0, l1, l2] (.int y :: .int x :: st) h Q ↔ jx_Go jxP d 153 165 [l0, l1, l2] (.int (x + y) :: st) h Q := jg_b (f := fun x y => x + y) rfl
theorem s153_165 : jx_Go jxP d 153 165 [l0, l1, l2] (.int x :: .ref a :: st) h Q ↔ ∃ q, jx_ai h a = some q ∧ jx_in x q.1 ∧ jx_Go jxP d 153 166 [l0, l1, l2] (.int (q.2 x.toNatClampNeg) :: st) h Q := jg_ia rfl
theorem s153_166 : jx_Go jxP d 153 166 [l0, l1, l2] st h Q ↔ jx_Go jxP d 153 170 [l0, l1, l2] st h Q := jg_go rfl
theorem s153_169 : jx_Go jxP d 153 169 [l0, l1, l2] st h Q ↔ jx_Go jxP d 153 170 [l0, l1, l2] (.int (nI 2) :: st) h Q := jg_c rfl
theorem s153_170 : jx_Go jxP d 153 170 [l0, l1, l2] (.int y :: .int x :: .ref a :: st) h Q ↔ ∃ q, jx_ai h a = some q ∧ jx_in x q.1 ∧ jx_Go jxP d 153 171 [l0, l1, l2] st (jx_wi h a q.1 (upd q.2 x.toNatClampNeg y)) Q := jg_iw rfl
theorem s153_171 : jx_Go jxP d 153 171 [l0, l1, .int x] st h Q ↔ jx_Go jxP d 153 174 [l0, l1, .int (x + (nI 1))] st h Q := jg_inc rfl rfl rfl
theorem s153_174 : jx_Go jxP d 153 174 [l0, l1, l2] st h Q ↔ jx_Go jxP d 153 113 [l0, l1, l2] st h Q := jg_go rfl
theorem s153_177 : jx_Go jxP d 153 177 [.ref a, l1, l2] st h Q ↔ jx_Go jxP d 153 178 [.ref a, l1, l2] (.ref a :: st) h Q := jg_al rfl rfl
theorem s153_178 : jx_Go jxP d 153 178 [l0, l1, l2] st h Q ↔ jx_Go jxP d 153 179 [l0, l1, l2] (.int (nI 0) :: st) h Q := jg_c rfl
theorem s153_179 : jx_Go jxP d 153 179 [l0, l1, l2] (.int x :: .ref a :: st) h Q ↔ ∃ v, jx_fl h a 12 14 = some v ∧ jx_Go jxP d 153 182 [l0, l1, l2] st (jx_uf h a 14 (.int x)) Q := jg_pfI rfl
theorem s153_182 : jx_Go jxP d 153 182 [.ref a, l1, l2] st h Q ↔ jx_Go jxP d 153 183 [.ref a, l1, l2] (.ref a :: st) h Q := jg_al rfl rfl
theorem s153_183 : jx_Go jxP d 153 183 [l0, l1, l2] (.ref a :: st) h Q ↔ ∃ v, jx_fl h a 12 9 = some v ∧ jx_Go jxP d 153 186 [l0, l1, l2] (v :: st) h Q := jg_gf rfl
theorem s153_186 : jx_Go jxP d 153 186 [l0, .int x, l2] st h Q ↔ jx_Go jxP d 153 187 [l0, .int x, l2] (.int x :: st) h Q := jg_il rfl rfl
theorem s153_187 : jx_Go jxP d 153 187 [l0, l1, l2] (.int x :: .ref a :: st) h Q ↔ ∃ q, jx_ai h a = some q ∧ jx_in x q.1 ∧ jx_Go jxP d 153 188 [l0, l1, l2] (.int (q.2 x.toNatClampNeg) :: st) h Q := jg_ia rfl
theorem s153_188 : jx_Go jxP d 153 188 [l0, l1, l2] [.int x] h Q ↔ Q [.int x] h := jx_rt rfl rfl
-- 154 TalkBenchModel.all
theorem s154_0 : jx_Go jxP d 154 0 [l0] st h Q ↔ jx_Go jxP d 154 2 [l0] (.int (nI 32) :: st) h Q := jg_c rfl
theorem s154_2 : jx_Go jxP d 154 2 [l0] st h Q ↔ jx_Go jxP d 154 3 [l0] (.int (nI 1) :: st) h Q := jg_c rfl
theorem s154_3 : jx_Go jxP d 154 3 [.ref a] st h Q ↔ jx_Go jxP d 154 4 [.ref a] (.ref a :: st) h Q := jg_al rfl rfl
theorem s154_4 : jx_Go jxP d 154 4 [l0] (.ref a :: st) h Q ↔ ∃ v, jx_fl h a 12 0 = some v ∧ jx_Go jxP d 154 7 [l0] (v :: st) h Q := jg_gf rfl
theorem s154_7 : jx_Go jxP d 154 7 [l0] (.int y :: .int x :: st) h Q ↔ jx_Go jxP d 154 8 [l0] (.int (x <<< (y &&& 31)) :: st) h Q := jg_b (f := fun x y => x <<< (y &&& 31)) rfl
theorem s154_8 : jx_Go jxP d 154 8 [l0] st h Q ↔ jx_Go jxP d 154 9 [l0] (.int (nI 1) :: st) h Q := jg_c rfl
theorem s154_9 : jx_Go jxP d 154 9 [l0] (.int y :: .int x :: st) h Q ↔ jx_Go jxP d 154 10 [l0] (.int (x - y) :: st) h Q := jg_b (f := fun x y => x - y) rfl
theorem s154_10 : jx_Go jxP d 154 10 [l0] (.int y :: .int x :: st) h Q ↔ jx_Go jxP d 154 11 [l0] (.int (x * y) :: st) h Q := jg_b (f := fun x y => x * y) rfl
theorem s154_11 : jx_Go jxP d 154 11 [l0] st h Q ↔ jx_Go jxP d 154 12 [l0] (.int (nI 1) :: st) h Q := jg_c rfl
theorem s154_12 : jx_Go jxP d 154 12 [.ref a] st h Q ↔ jx_Go jxP d 154 13 [.ref a] (.ref a :: st) h Q := jg_al rfl rfl
theorem s154_13 : jx_Go jxP d 154 13 [l0] (.ref a :: st) h Q ↔ ∃ v, jx_fl h a 12 1 = some v ∧ jx_Go jxP d 154 16 [l0] (v :: st) h Q := jg_gf rfl
theorem s154_16 : jx_Go jxP d 154 16 [l0] (.int y :: .int x :: st) h Q ↔ jx_Go jxP d 154 17 [l0] (.int (x <<< (y &&& 31)) :: st) h Q := jg_b (f := fun x y => x <<< (y &&& 31)) rfl
theorem s154_17 : jx_Go jxP d 154 17 [l0] (.int y :: .int x :: st) h Q ↔ jx_Go jxP d 154 18 [l0] (.int (x + y) :: st) h Q := jg_b (f := fun x y => x + y) rfl
theorem s154_18 : jx_Go jxP d 154 18 [l0] st h Q ↔ jx_Go jxP d 154 19 [l0] (.int (nI 1) :: st) h Q := jg_c rfl
theorem s154_19 : jx_Go jxP d 154 19 [l0] (.int y :: .int x :: st) h Q ↔ jx_Go jxP d 154 20 [l0] (.int (x - y) :: st) h Q := jg_b (f := fun x y => x - y) rfl
theorem s154_20 : jx_Go jxP d 154 20 [l0] [.int x] h Q ↔ Q [.int x] h := jx_rt rfl rfl
-- 155 TalkBenchModel.has
theorem s155_0 : jx_Go jxP d 155 0 [l0, l1, l2, l3, l4] st h Q ↔ jx_Go jxP d 155 1 [l0, l1, l2, l3, l4] (.int (nI 0) :: st) h Q := jg_c rfl
theorem s155_1 : jx_Go jxP d 155 1 [l0, l1, l2, l3, l4] (.int x :: st) h Q ↔ jx_Go jxP d 155 2 [l0, l1, .int x, l3, l4] st h Q := jg_is rfl rfl
theorem s155_2 : jx_Go jxP d 155 2 [l0, l1, l2, l3, l4] st h Q ↔ jx_Go jxP d 155 3 [l0, l1, l2, l3, l4] (.int (nI 0) :: st) h Q := jg_c rfl
theorem s155_3 : jx_Go jxP d 155 3 [l0, l1, l2, l3, l4] (.int x :: st) h Q ↔ jx_Go jxP d 155 4 [l0, l1, l2, .int x, l4] st h Q := jg_is rfl rfl
theorem s155_4 : jx_Go jxP d 155 4 [l0, l1, l2, .int x, l4] st h Q ↔ jx_Go jxP d 155 5 [l0, l1, l2, .int x, l4] (.int x :: st) h Q := jg_il rfl rfl
theorem s155_5 : jx_Go jxP d 155 5 [.ref a, l1, l2, l3, l4] st h Q ↔ jx_Go jxP d 155 6 [.ref a, l1, l2, l3, l4] (.ref a :: st) h Q := jg_al rfl rfl
theorem s155_6 : jx_Go jxP d 155 6 [l0, l1, l2, l3, l4] (.ref a :: st) h Q ↔ ∃ v, jx_fl h a 12 0 = some v ∧ jx_Go jxP d 155 9 [l0, l1, l2, l3, l4] (v :: st) h Q := jg_gf rfl
theorem s155_9 : jx_Go jxP d 155 9 [l0, l1, l2, l3, l4] (.int y :: .int x :: st) h Q ↔ if y ≤ x then jx_Go jxP d 155 89 [l0, l1, l2, l3, l4] st h Q else jx_Go jxP d 155 12 [l0, l1, l2, l3, l4] st h Q := jg_icP rfl rfl
theorem s155_12 : jx_Go jxP d 155 12 [l0, l1, l2, l3, l4] st h Q ↔ jx_Go jxP d 155 13 [l0, l1, l2, l3, l4] (.int (nI 0) :: st) h Q := jg_c rfl
theorem s155_13 : jx_Go jxP d 155 13 [l0, l1, l2, l3, l4] (.int x :: st) h Q ↔ jx_Go jxP d 155 15 [l0, l1, l2, l3, .int x] st h Q := jg_is rfl rfl
theorem s155_15 : jx_Go jxP d 155 15 [l0, l1, l2, l3, .int x] st h Q ↔ jx_Go jxP d 155 17 [l0, l1, l2, l3, .int x] (.int x :: st) h Q := jg_il rfl rfl
theorem s155_17 : jx_Go jxP d 155 17 [.ref a, l1, l2, l3, l4] st h Q ↔ jx_Go jxP d 155 18 [.ref a, l1, l2, l3, l4] (.ref a :: st) h Q := jg_al rfl rfl
theorem s155_18 : jx_Go jxP d 155 18 [l0, l1, l2, l3, l4] (.ref a :: st) h Q ↔ ∃ v, jx_fl h a 12 1 = some v ∧ jx_Go jxP d 155 21 [l0, l1, l2, l3, l4] (v :: st) h Q := jg_gf rfl
theorem s155_21 : jx_Go jxP d 155 21 [l0, l1, l2, l3, l4] (.int y :: .int x :: st) h Q ↔ if y ≤ x then jx_Go jxP d 155 83 [l0, l1, l2, l3, l4] st h Q else jx_Go jxP d 155 24 [l0, l1, l2, l3, l4] st h Q := jg_icP rfl rfl
theorem s155_24 : jx_Go jxP d 155 24 [l0, .int x, l2, l3, l4] st h Q ↔ jx_Go jxP d 155 25 [l0, .int x, l2, l3, l4] (.int x :: st) h Q := jg_il rfl rfl
theorem s155_25 : jx_Go jxP d 155 25 [l0, l1, l2, l3, l4] st h Q ↔ jx_Go jxP d 155 26 [l0, l1, l2, l3, l4] (.int (nI 5) :: st) h Q := jg_c rfl
theorem s155_26 : jx_Go jxP d 155 26 [l0, l1, l2, l3, l4] (.int y :: .int x :: st) h Q ↔ jx_Go jxP d 155 27 [l0, l1, l2, l3, l4] (.int (x >>> (y &&& 31)) :: st) h Q := jg_b (f := fun x y => x >>> (y &&& 31)) rfl
theorem s155_27 : jx_Go jxP d 155 27 [l0, l1, l2, .int x, l4] st h Q ↔ jx_Go jxP d 155 28 [l0, l1, l2, .int x, l4] (.int x :: st) h Q := jg_il rfl rfl
theorem s155_28 : jx_Go jxP (d + 1) 155 28 [l0, l1, l2, l3, l4] (.int x1 :: .int x0 :: st) h Q ↔ (st.length ≤ 4 ∧ jx_Go jxP d 132 0 [.int x0, .int x1] [] h (fun s1 h1 => jx_Go jxP (d + 1) 155 31 [l0, l1, l2, l3, l4] (s1 ++ st) h1 Q)) := jg_callS (as := [.int x1, .int x0]) rfl rfl rfl rfl
theorem s155_31 : jx_Go jxP d 155 31 [l0, l1, l2, l3, l4] (.int x :: st) h Q ↔ if x = 0 then jx_Go jxP d 155 77 [l0, l1, l2, l3, l4] st h Q else jx_Go jxP d 155 34 [l0, l1, l2, l3, l4] st h Q := jg_ifP rfl rfl
theorem s155_34 : jx_Go jxP d 155 34 [l0, .int x, l2, l3, l4] st h Q ↔ jx_Go jxP d 155 35 [l0, .int x, l2, l3, l4] (.int x :: st) h Q := jg_il rfl rfl
theorem s155_35 : jx_Go jxP d 155 35 [l0, l1, l2, l3, l4] st h Q ↔ jx_Go jxP d 155 37 [l0, l1, l2, l3, l4] (.int (nI 31) :: st) h Q := jg_c rfl
theorem s155_37 : jx_Go jxP d 155 37 [l0, l1, l2, l3, l4] (.int y :: .int x :: st) h Q ↔ jx_Go jxP d 155 38 [l0, l1, l2, l3, l4] (.int (x &&& y) :: st) h Q := jg_b (f := fun x y => x &&& y) rfl
theorem s155_38 : jx_Go jxP d 155 38 [l0, l1, l2, l3, .int x] st h Q ↔ jx_Go jxP d 155 40 [l0, l1, l2, l3, .int x] (.int x :: st) h Q := jg_il rfl rfl
theorem s155_40 : jx_Go jxP (d + 1) 155 40 [l0, l1, l2, l3, l4] (.int x1 :: .int x0 :: st) h Q ↔ (st.length ≤ 4 ∧ jx_Go jxP d 132 0 [.int x0, .int x1] [] h (fun s1 h1 => jx_Go jxP (d + 1) 155 43 [l0, l1, l2, l3, l4] (s1 ++ st) h1 Q)) := jg_callS (as := [.int x1, .int x0]) rfl rfl rfl rfl
theorem s155_43 : jx_Go jxP d 155 43 [l0, l1, l2, l3, l4] (.int x :: st) h Q ↔ if x = 0 then jx_Go jxP d 155 77 [l0, l1, l2, l3, l4] st h Q else jx_Go jxP d 155 46 [l0, l1, l2, l3, l4] st h Q := jg_ifP rfl rfl
theorem s155_46 : jx_Go jxP d 155 46 [.ref a, l1, l2, l3, l4] st h Q ↔ jx_Go jxP d 155 47 [.ref a, l1, l2, l3, l4] (.ref a :: st) h Q := jg_al rfl rfl
theorem s155_47 : jx_Go jxP d 155 47 [l0, l1, l2, l3, l4] (.ref a :: st) h Q ↔ ∃ v, jx_fl h a 12 2 = some v ∧ jx_Go jxP d 155 50 [l0, l1, l2, l3, l4] (v :: st) h Q := jg_gf rfl
theorem s155_50 : jx_Go jxP d 155 50 [l0, l1, l2, l3, l4] st h Q ↔ jx_Go jxP d 155 51 [l0, l1, l2, l3, l4] (.int (nI 5) :: st) h Q := jg_c rfl
theorem s155_51 : jx_Go jxP d 155 51 [l0, l1, l2, .int x, l4] st h Q ↔ jx_Go jxP d 155 52 [l0, l1, l2, .int x, l4] (.int x :: st) h Q := jg_il rfl rfl
theorem s155_52 : jx_Go jxP d 155 52 [l0, l1, l2, l3, l4] (.int y :: .int x :: st) h Q ↔ jx_Go jxP d 155 53 [l0, l1, l2, l3, l4] (.int (x * y) :: st) h Q := jg_b (f := fun x y => x * y) rfl
theorem s155_53 : jx_Go jxP d 155 53 [l0, l1, l2, l3, .int x] st h Q ↔ jx_Go jxP d 155 55 [l0, l1, l2, l3, .int x] (.int x :: st) h Q := jg_il rfl rfl
theorem s155_55 : jx_Go jxP d 155 55 [l0, l1, l2, l3, l4] (.int y :: .int x :: st) h Q ↔ jx_Go jxP d 155 56 [l0, l1, l2, l3, l4] (.int (x + y) :: st) h Q := jg_b (f := fun x y => x + y) rfl
theorem s155_56 : jx_Go jxP d 155 56 [l0, l1, l2, l3, l4] (.int x :: .ref a :: st) h Q ↔ ∃ q, jx_ai h a = some q ∧ jx_in x q.1 ∧ jx_Go jxP d 155 57 [l0, l1, l2, l3, l4] (.int (q.2 x.toNatClampNeg) :: st) h Q := jg_ia rfl
theorem s155_57 : jx_Go jxP d 155 57 [l0, l1, l2, l3, l4] st h Q ↔ jx_Go jxP d 155 58 [l0, l1, l2, l3, l4] (.int (nI 2) :: st) h Q := jg_c rfl
theorem s155_58 : jx_Go jxP d 155 58 [l0, l1, l2, l3, l4] (.int y :: .int x :: st) h Q ↔ if y ≤ x then jx_Go jxP d 155 77 [l0, l1, l2, l3, l4] st h Q else jx_Go jxP d 155 61 [l0, l1, l2, l3, l4] st h Q := jg_icP rfl rfl
theorem s155_61 : jx_Go jxP d 155 61 [l0, l1, .int x, l3, l4] st h Q ↔ jx_Go jxP d 155 62 [l0, l1, .int x, l3, l4] (.int x :: st) h Q := jg_il rfl rfl
theorem s155_62 : jx_Go jxP d 155 62 [l0, l1, l2, l3, l4] st h Q ↔ jx_Go jxP d 155 63 [l0, l1, l2, l3, l4] (.int (nI 1) :: st) h Q := jg_c rfl
theorem s155_63 : jx_Go jxP d 155 63 [.ref a, l1, l2, l3, l4] st h Q ↔ jx_Go jxP d 155 64 [.ref a, l1, l2, l3, l4] (.ref a :: st) h Q := jg_al rfl rfl
theorem s155_64 : jx_Go jxP d 155 64 [l0, l1, l2, l3, l4] (.ref a :: st) h Q ↔ ∃ v, jx_fl h a 12 2 = some v ∧ jx_Go jxP d 155 67 [l0, l1, l2, l3, l4] (v :: st) h Q := jg_gf rfl
theorem s155_67 : jx_Go jxP d 155 67 [l0, l1, l2, l3, l4] st h Q ↔ jx_Go jxP d 155 68 [l0, l1, l2, l3, l4] (.int (nI 5) :: st) h Q := jg_c rfl
theorem s155_68 : jx_Go jxP d 155 68 [l0, l1, l2, .int x, l4] st h Q ↔ jx_Go jxP d 155 69 [l0, l1, l2, .int x, l4] (.int x :: st) h Q := jg_il rfl rfl
theorem s155_69 : jx_Go jxP d 155 69 [l0, l1, l2, l3, l4] (.int y :: .int x :: st) h Q ↔ jx_Go jxP d 155 70 [l0, l1, l2, l3, l4] (.int (x * y) :: st) h Q := jg_b (f := fun x y => x * y) rfl
theorem s155_70 : jx_Go jxP d 155 70 [l0, l1, l2, l3, .int x] st h Q ↔ jx_Go jxP d 155 72 [l0, l1, l2, l3, .int x] (.int x :: st) h Q := jg_il rfl rfl
theorem s155_72 : jx_Go jxP d 155 72 [l0, l1, l2, l3, l4] (.int y :: .int x :: st) h Q ↔ jx_Go jxP d 155 73 [l0, l1, l2, l3, l4] (.int (x + y) :: st) h Q := jg_b (f := fun x y => x + y) rfl
theorem s155_73 : jx_Go jxP d 155 73 [l0, l1, l2, l3, l4] (.int x :: .ref a :: st) h Q ↔ ∃ q, jx_ai h a = some q ∧ jx_in x q.1 ∧ jx_Go jxP d 155 74 [l0, l1, l2, l3, l4] (.int (q.2 x.toNatClampNeg) :: st) h Q := jg_ia rfl
theorem s155_74 : jx_Go jxP d 155 74 [l0, l1, l2, l3, l4] (.int y :: .int x :: st) h Q ↔ jx_Go jxP d 155 75 [l0, l1, l2, l3, l4] (.int (x <<< (y &&& 31)) :: st) h Q := jg_b (f := fun x y => x <<< (y &&& 31)) rfl
theorem s155_75 : jx_Go jxP d 155 75 [l0, l1, l2, l3, l4] (.int y :: .int x :: st) h Q ↔ jx_Go jxP d 155 76 [l0, l1, l2, l3, l4] (.int (x ||| y) :: st) h Q := jg_b (f := fun x y => x ||| y) rfl
theorem s155_76 : jx_Go jxP d 155 76 [l0, l1, l2, l3, l4] (.int x :: st) h Q ↔ jx_Go jxP d 155 77 [l0, l1, .int x, l3, l4] st h Q := jg_is rfl rfl
theorem s155_77 : jx_Go jxP d 155 77 [l0, l1, l2, l3, .int x] st h Q ↔ jx_Go jxP d 155 80 [l0, l1, l2, l3, .int (x + (nI 1))] st h Q := jg_inc rfl rfl rfl
theorem s155_80 : jx_Go jxP d 155 80 [l0, l1, l2, l3, l4] st h Q ↔ jx_Go jxP d 155 15 [l0, l1, l2, l3, l4] st h Q := jg_go rfl
theorem s155_83 : jx_Go jxP d 155 83 [l0, l1, l2, .int x, l4] st h Q ↔ jx_Go jxP d 155 86 [l0, l1, l2, .int (x + (nI 1)), l4] st h Q := jg_inc rfl rfl rfl
theorem s155_86 : jx_Go jxP d 155 86 [l0, l1, l2, l3, l4] st h Q ↔ jx_Go jxP d 155 4 [l0, l1, l2, l3, l4] st h Q := jg_go rfl
theorem s155_89 : jx_Go jxP d 155 89 [l0, l1, .int x, l3, l4] st h Q ↔ jx_Go jxP d 155 90 [l0, l1, .int x, l3, l4] (.int x :: st) h Q := jg_il rfl rfl
theorem s155_90 : jx_Go jxP d 155 90 [l0, l1, l2, l3, l4] [.int x] h Q ↔ Q [.int x] h := jx_rt rfl rfl
-- 156 TalkBenchModel.isEven
theorem s156_0 : jx_Go jxP d 156 0 [.ref a, l1] st h Q ↔ jx_Go jxP d 156 1 [.ref a, l1] (.ref a :: st) h Q := jg_al rfl rfl
theorem s156_1 : jx_Go jxP d 156 1 [l0, .int x] st h Q ↔ jx_Go jxP d 156 2 [l0, .int x] (.int x :: st) h Q := jg_il rfl rfl
theorem s156_2 : jx_Go jxP (d + 1) 156 2 [l0, l1] (.int x0 :: .ref a :: st) h Q ↔ (st.length ≤ 4 ∧ jx_cl h a = some 12 ∧ jx_Go jxP d 155 0 [.ref a, .int x0, jx_u, jx_u, jx_u] [] h (fun s1 h1 => jx_Go jxP (d + 1) 156 5 [l0, l1] (s1 ++ st) h1 Q)) := jg_callV (as := [.int x0, .ref a]) rfl rfl rfl rfl rfl
theorem s156_5 : jx_Go jxP d 156 5 [l0, l1] st h Q ↔ jx_Go jxP d 156 6 [l0, l1] (.int (nI 3) :: st) h Q := jg_c rfl
theorem s156_6 : jx_Go jxP d 156 6 [l0, l1] (.int y :: .int x :: st) h Q ↔ if x = y then jx_Go jxP d 156 13 [l0, l1] st h Q else jx_Go jxP d 156 9 [l0, l1] st h Q := jg_icP rfl rfl
theorem s156_9 : jx_Go jxP d 156 9 [l0, l1] st h Q ↔ jx_Go jxP d 156 10 [l0, l1] (.int (nI 1) :: st) h Q := jg_c rfl
theorem s156_10 : jx_Go jxP d 156 10 [l0, l1] st h Q ↔ jx_Go jxP d 156 14 [l0, l1] st h Q := jg_go rfl
theorem s156_13 : jx_Go jxP d 156 13 [l0, l1] st h Q ↔ jx_Go jxP d 156 14 [l0, l1] (.int (nI 0) :: st) h Q := jg_c rfl
theorem s156_14b0 : jx_Go jxP d 156 14 [l0, l1] [.int (nI 0)] h Q ↔ Q [.int (nI 0)] h := jx_rt rfl rfl
theorem s156_14b1 : jx_Go jxP d 156 14 [l0, l1] [.int (nI 1)] h Q ↔ Q [.int (nI 1)] h := jx_rt rfl rfl
-- 157 TalkBenchModel.isBlock
theorem s157_0 : jx_Go jxP d 157 0 [l0, .int x] st h Q ↔ jx_Go jxP d 157 1 [l0, .int x] (.int x :: st) h Q := jg_il rfl rfl
theorem s157_1 : jx_Go jxP d 157 1 [l0, l1] st h Q ↔ jx_Go jxP d 157 2 [l0, l1] (.int (nI 5) :: st) h Q := jg_c rfl
theorem s157_2 : jx_Go jxP d 157 2 [l0, l1] (.int y :: .int x :: st) h Q ↔ jx_Go jxP d 157 3 [l0, l1] (.int (x >>> (y &&& 31)) :: st) h Q := jg_b (f := fun x y => x >>> (y &&& 31)) rfl
theorem s157_3 : jx_Go jxP d 157 3 [l0, l1] (.int x :: st) h Q ↔ if x = 0 then jx_Go jxP d 157 30 [l0, l1] st h Q else jx_Go jxP d 157 6 [l0, l1] st h Q := jg_ifP rfl rfl
theorem s157_6 : jx_Go jxP d 157 6 [l0, .int x] st h Q ↔ jx_Go jxP d 157 7 [l0, .int x] (.int x :: st) h Q := jg_il rfl rfl
theorem s157_7 : jx_Go jxP d 157 7 [l0, l1] st h Q ↔ jx_Go jxP d 157 9 [l0, l1] (.int (nI 31) :: st) h Q := jg_c rfl
theorem s157_9 : jx_Go jxP d 157 9 [l0, l1] (.int y :: .int x :: st) h Q ↔ jx_Go jxP d 157 10 [l0, l1] (.int (x &&& y) :: st) h Q := jg_b (f := fun x y => x &&& y) rfl
theorem s157_10 : jx_Go jxP d 157 10 [l0, l1] (.int x :: st) h Q ↔ if x = 0 then jx_Go jxP d 157 30 [l0, l1] st h Q else jx_Go jxP d 157 13 [l0, l1] st h Q := jg_ifP rfl rfl
theorem s157_13 : jx_Go jxP d 157 13 [l0, .int x] st h Q ↔ jx_Go jxP d 157 14 [l0, .int x] (.int x :: st) h Q := jg_il rfl rfl
theorem s157_14 : jx_Go jxP d 157 14 [l0, l1] st h Q ↔ jx_Go jxP d 157 16 [l0, l1] (.int (nI 31) :: st) h Q := jg_c rfl
theorem s157_16 : jx_Go jxP d 157 16 [l0, l1] (.int y :: .int x :: st) h Q ↔ jx_Go jxP d 157 17 [l0, l1] (.int (x &&& y) :: st) h Q := jg_b (f := fun x y => x &&& y) rfl
theorem s157_17 : jx_Go jxP d 157 17 [l0, l1] st h Q ↔ jx_Go jxP d 157 18 [l0, l1] (.int (nI 1) :: st) h Q := jg_c rfl
theorem s157_18 : jx_Go jxP d 157 18 [.ref a, l1] st h Q ↔ jx_Go jxP d 157 19 [.ref a, l1] (.ref a :: st) h Q := jg_al rfl rfl
theorem s157_19 : jx_Go jxP d 157 19 [l0, l1] (.ref a :: st) h Q ↔ ∃ v, jx_fl h a 12 1 = some v ∧ jx_Go jxP d 157 22 [l0, l1] (v :: st) h Q := jg_gf rfl
theorem s157_22 : jx_Go jxP d 157 22 [l0, l1] (.int y :: .int x :: st) h Q ↔ jx_Go jxP d 157 23 [l0, l1] (.int (x <<< (y &&& 31)) :: st) h Q := jg_b (f := fun x y => x <<< (y &&& 31)) rfl
theorem s157_23 : jx_Go jxP d 157 23 [l0, l1] (.int y :: .int x :: st) h Q ↔ if y ≤ x then jx_Go jxP d 157 30 [l0, l1] st h Q else jx_Go jxP d 157 26 [l0, l1] st h Q := jg_icP rfl rfl
theorem s157_26 : jx_Go jxP d 157 26 [l0, l1] st h Q ↔ jx_Go jxP d 157 27 [l0, l1] (.int (nI 1) :: st) h Q := jg_c rfl
theorem s157_27 : jx_Go jxP d 157 27 [l0, l1] st h Q ↔ jx_Go jxP d 157 31 [l0, l1] st h Q := jg_go rfl
theorem s157_30 : jx_Go jxP d 157 30 [l0, l1] st h Q ↔ jx_Go jxP d 157 31 [l0, l1] (.int (nI 0) :: st) h Q := jg_c rfl
theorem s157_31b0 : jx_Go jxP d 157 31 [l0, l1] [.int (nI 0)] h Q ↔ Q [.int (nI 0)] h := jx_rt rfl rfl
theorem s157_31b1 : jx_Go jxP d 157 31 [l0, l1] [.int (nI 1)] h Q ↔ Q [.int (nI 1)] h := jx_rt rfl rfl
-- 158 TalkBenchModel.tellBlocks
theorem s158_0 : jx_Go jxP d 158 0 [l0, l1, l2, l3] st h Q ↔ jx_Go jxP d 158 1 [l0, l1, l2, l3] (.int (nI 0) :: st) h Q := jg_c rfl
theorem s158_1 : jx_Go jxP d 158 1 [l0, l1, l2, l3] (.int x :: st) h Q ↔ jx_Go jxP d 158 2 [l0, .int x, l2, l3] st h Q := jg_is rfl rfl
theorem s158_2 : jx_Go jxP d 158 2 [l0, .int x, l2, l3] st h Q ↔ jx_Go jxP d 158 3 [l0, .int x, l2, l3] (.int x :: st) h Q := jg_il rfl rfl
theorem s158_3 : jx_Go jxP d 158 3 [.ref a, l1, l2, l3] st h Q ↔ jx_Go jxP d 158 4 [.ref a, l1, l2, l3] (.ref a :: st) h Q := jg_al rfl rfl
theorem s158_4 : jx_Go jxP (d + 1) 158 4 [l0, l1, l2, l3] (.ref a :: st) h Q ↔ (st.length ≤ 4 ∧ jx_cl h a = some 12 ∧ jx_Go jxP d 154 0 [.ref a] [] h (fun s1 h1 => jx_Go jxP (d + 1) 158 7 [l0, l1, l2, l3] (s1 ++ st) h1 Q)) := jg_callV (as := [.ref a]) rfl rfl rfl rfl rfl
theorem s158_7 : jx_Go jxP d 158 7 [l0, l1, l2, l3] (.int y :: .int x :: st) h Q ↔ if y < x then jx_Go jxP d 158 112 [l0, l1, l2, l3] st h Q else jx_Go jxP d 158 10 [l0, l1, l2, l3] st h Q := jg_icP rfl rfl
theorem s158_10 : jx_Go jxP d 158 10 [.ref a, l1, l2, l3] st h Q ↔ jx_Go jxP d 158 11 [.ref a, l1, l2, l3] (.ref a :: st) h Q := jg_al rfl rfl
theorem s158_11 : jx_Go jxP d 158 11 [l0, .int x, l2, l3] st h Q ↔ jx_Go jxP d 158 12 [l0, .int x, l2, l3] (.int x :: st) h Q := jg_il rfl rfl
theorem s158_12 : jx_Go jxP (d + 1) 158 12 [l0, l1, l2, l3] (.int x0 :: .ref a :: st) h Q ↔ (st.length ≤ 4 ∧ jx_cl h a = some 12 ∧ jx_Go jxP d 157 0 [.ref a, .int x0] [] h (fun s1 h1 => jx_Go jxP (d + 1) 158 15 [l0, l1, l2, l3] (s1 ++ st) h1 Q)) := jg_callV (as := [.int x0, .ref a]) rfl rfl rfl rfl rfl
theorem s158_15 : jx_Go jxP d 158 15 [l0, l1, l2, l3] (.int x :: st) h Q ↔ if x = 0 then jx_Go jxP d 158 18 [l0, l1, l2, l3] st h Q else jx_Go jxP d 158 21 [l0, l1, l2, l3] st h Q := jg_ifN rfl rfl
theorem s158_18 : jx_Go jxP d 158 18 [l0, l1, l2, l3] st h Q ↔ jx_Go jxP d 158 106 [l0, l1, l2, l3] st h Q := jg_go rfl
theorem s158_21 : jx_Go jxP d 158 21 [.ref a, l1, l2, l3] st h Q ↔ jx_Go jxP d 158 22 [.ref a, l1, l2, l3] (.ref a :: st) h Q := jg_al rfl rfl
theorem s158_22 : jx_Go jxP d 158 22 [l0, .int x, l2, l3] st h Q ↔ jx_Go jxP d 158 23 [l0, .int x, l2, l3] (.int x :: st) h Q := jg_il rfl rfl
theorem s158_23 : jx_Go jxP (d + 1) 158 23 [l0, l1, l2, l3] (.int x0 :: .ref a :: st) h Q ↔ (st.length ≤ 4 ∧ jx_cl h a = some 12 ∧ jx_Go jxP d 156 0 [.ref a, .int x0] [] h (fun s1 h1 => jx_Go jxP (d + 1) 158 26 [l0, l1, l2, l3] (s1 ++ st) h1 Q)) := jg_callV (as := [.int x0, .ref a]) rfl rfl rfl rfl rfl
theorem s158_26 : jx_Go jxP d 158 26 [l0, l1, l2, l3] (.int x :: st) h Q ↔ jx_Go jxP d 158 27 [l0, l1, .int x, l3] st h Q := jg_is rfl rfl
theorem s158_27 : jx_Go jxP d 158 27 [.ref a, l1, l2, l3] st h Q ↔ jx_Go jxP d 158 28 [.ref a, l1, l2, l3] (.ref a :: st) h Q := jg_al rfl rfl
theorem s158_28 : jx_Go jxP d 158 28 [l0, l1, l2, l3] (.ref a :: st) h Q ↔ ∃ v, jx_fl h a 12 16 = some v ∧ jx_Go jxP d 158 31 [l0, l1, l2, l3] (v :: st) h Q := jg_gf rfl
theorem s158_31 : jx_Go jxP d 158 31 [l0, .int x, l2, l3] st h Q ↔ jx_Go jxP d 158 32 [l0, .int x, l2, l3] (.int x :: st) h Q := jg_il rfl rfl
theorem s158_32 : jx_Go jxP d 158 32 [l0, l1, .int x, l3] st h Q ↔ jx_Go jxP d 158 33 [l0, l1, .int x, l3] (.int x :: st) h Q := jg_il rfl rfl
theorem s158_33 : jx_Go jxP d 158 33 [l0, l1, l2, l3] (.int x :: st) h Q ↔ if x = 0 then jx_Go jxP d 158 40 [l0, l1, l2, l3] st h Q else jx_Go jxP d 158 36 [l0, l1, l2, l3] st h Q := jg_ifP rfl rfl
theorem s158_36 : jx_Go jxP d 158 36 [l0, l1, l2, l3] st h Q ↔ jx_Go jxP d 158 37 [l0, l1, l2, l3] (.int (nI 0) :: st) h Q := jg_c rfl
theorem s158_37 : jx_Go jxP d 158 37 [l0, l1, l2, l3] st h Q ↔ jx_Go jxP d 158 42 [l0, l1, l2, l3] st h Q := jg_go rfl
theorem s158_40 : jx_Go jxP d 158 40 [l0, l1, l2, l3] st h Q ↔ jx_Go jxP d 158 42 [l0, l1, l2, l3] (.int (nI 100) :: st) h Q := jg_c rfl
theorem s158_42 : jx_Go jxP d 158 42 [l0, l1, l2, l3] (.int y :: .int x :: .ref a :: st) h Q ↔ ∃ q, jx_ai h a = some q ∧ jx_in x q.1 ∧ jx_Go jxP d 158 43 [l0, l1, l2, l3] st (jx_wi h a q.1 (upd q.2 x.toNatClampNeg y)) Q := jg_iw rfl
theorem s158_43 : jx_Go jxP d 158 43 [.ref a, l1, l2, l3] st h Q ↔ jx_Go jxP d 158 44 [.ref a, l1, l2, l3] (.ref a :: st) h Q := jg_al rfl rfl
theorem s158_44 : jx_Go jxP d 158 44 [l0, l1, l2, l3] (.ref a :: st) h Q ↔ ∃ v, jx_fl h a 12 17 = some v ∧ jx_Go jxP d 158 47 [l0, l1, l2, l3] (v :: st) h Q := jg_gf rfl
theorem s158_47 : jx_Go jxP d 158 47 [l0, .int x, l2, l3] st h Q ↔ jx_Go jxP d 158 48 [l0, .int x, l2, l3] (.int x :: st) h Q := jg_il rfl rfl
theorem s158_48 : jx_Go jxP d 158 48 [l0, l1, .int x, l3] st h Q ↔ jx_Go jxP d 158 49 [l0, l1, .int x, l3] (.int x :: st) h Q := jg_il rfl rfl
theorem s158_49 : jx_Go jxP d 158 49 [l0, l1, l2, l3] (.int x :: st) h Q ↔ if x = 0 then jx_Go jxP d 158 56 [l0, l1, l2, l3] st h Q else jx_Go jxP d 158 52 [l0, l1, l2, l3] st h Q := jg_ifP rfl rfl
theorem s158_52 : jx_Go jxP d 158 52 [l0, l1, l2, l3] st h Q ↔ jx_Go jxP d 158 53 [l0, l1, l2, l3] (.int (nI 1) :: st) h Q := jg_c rfl
theorem s158_53 : jx_Go jxP d 158 53 [l0, l1, l2, l3] st h Q ↔ jx_Go jxP d 158 59 [l0, l1, l2, l3] st h Q := jg_go rfl
theorem s158_56 : jx_Go jxP d 158 56 [l0, l1, l2, l3] st h Q ↔ jx_Go jxP d 158 59 [l0, l1, l2, l3] (.int (nI 1000) :: st) h Q := jg_c rfl
theorem s158_59 : jx_Go jxP d 158 59 [l0, l1, l2, l3] (.int y :: .int x :: .ref a :: st) h Q ↔ ∃ q, jx_ai h a = some q ∧ jx_in x q.1 ∧ jx_Go jxP d 158 60 [l0, l1, l2, l3] st (jx_wi h a q.1 (upd q.2 x.toNatClampNeg y)) Q := jg_iw rfl
theorem s158_60 : jx_Go jxP d 158 60 [l0, l1, l2, l3] st h Q ↔ jx_Go jxP d 158 61 [l0, l1, l2, l3] (.int (nI 0) :: st) h Q := jg_c rfl
theorem s158_61 : jx_Go jxP d 158 61 [l0, l1, l2, l3] (.int x :: st) h Q ↔ jx_Go jxP d 158 62 [l0, l1, l2, .int x] st h Q := jg_is rfl rfl
theorem s158_62 : jx_Go jxP d 158 62 [l0, l1, l2, .int x] st h Q ↔ jx_Go jxP d 158 63 [l0, l1, l2, .int x] (.int x :: st) h Q := jg_il rfl rfl
theorem s158_63 : jx_Go jxP d 158 63 [l0, l1, l2, l3] st h Q ↔ jx_Go jxP d 158 65 [l0, l1, l2, l3] (.int (nI 32) :: st) h Q := jg_c rfl
theorem s158_65 : jx_Go jxP d 158 65 [l0, l1, l2, l3] (.int y :: .int x :: st) h Q ↔ if y ≤ x then jx_Go jxP d 158 106 [l0, l1, l2, l3] st h Q else jx_Go jxP d 158 68 [l0, l1, l2, l3] st h Q := jg_icP rfl rfl
theorem s158_68 : jx_Go jxP d 158 68 [l0, l1, .int x, l3] st h Q ↔ jx_Go jxP d 158 69 [l0, l1, .int x, l3] (.int x :: st) h Q := jg_il rfl rfl
theorem s158_69 : jx_Go jxP d 158 69 [l0, l1, l2, l3] (.int x :: st) h Q ↔ if x = 0 then jx_Go jxP d 158 72 [l0, l1, l2, l3] st h Q else jx_Go jxP d 158 106 [l0, l1, l2, l3] st h Q := jg_ifN rfl rfl
theorem s158_72 : jx_Go jxP d 158 72 [.ref a, l1, l2, l3] st h Q ↔ jx_Go jxP d 158 73 [.ref a, l1, l2, l3] (.ref a :: st) h Q := jg_al rfl rfl
theorem s158_73 : jx_Go jxP d 158 73 [l0, .int x, l2, l3] st h Q ↔ jx_Go jxP d 158 74 [l0, .int x, l2, l3] (.int x :: st) h Q := jg_il rfl rfl
theorem s158_74 : jx_Go jxP d 158 74 [.ref a, l1, l2, l3] st h Q ↔ jx_Go jxP d 158 75 [.ref a, l1, l2, l3] (.ref a :: st) h Q := jg_al rfl rfl
theorem s158_75 : jx_Go jxP d 158 75 [l0, .int x, l2, l3] st h Q ↔ jx_Go jxP d 158 76 [l0, .int x, l2, l3] (.int x :: st) h Q := jg_il rfl rfl
theorem s158_76 : jx_Go jxP d 158 76 [l0, l1, l2, .int x] st h Q ↔ jx_Go jxP d 158 77 [l0, l1, l2, .int x] (.int x :: st) h Q := jg_il rfl rfl
theorem s158_77 : jx_Go jxP d 158 77 [l0, l1, l2, l3] st h Q ↔ jx_Go jxP d 158 78 [l0, l1, l2, l3] (.int (nI 1) :: st) h Q := jg_c rfl
theorem s158_78 : jx_Go jxP (d + 1) 158 78 [l0, l1, l2, l3] (.int x2 :: .int x1 :: .int x0 :: .ref a :: st) h Q ↔ (st.length ≤ 4 ∧ jx_cl h a = some 12 ∧ jx_Go jxP d 159 0 [.ref a, .int x0, .int x1, .int x2, jx_u] [] h (fun s1 h1 => jx_Go jxP (d + 1) 158 81 [l0, l1, l2, l3] (s1 ++ st) h1 Q)) := jg_callV (as := [.int x2, .int x1, .int x0, .ref a]) rfl rfl rfl rfl rfl
theorem s158_81 : jx_Go jxP d 158 81 [l0, l1, l2, .int x] st h Q ↔ jx_Go jxP d 158 82 [l0, l1, l2, .int x] (.int x :: st) h Q := jg_il rfl rfl
theorem s158_82 : jx_Go jxP d 158 82 [l0, l1, l2, l3] st h Q ↔ jx_Go jxP d 158 83 [l0, l1, l2, l3] (.int (nI 5) :: st) h Q := jg_c rfl
theorem s158_83 : jx_Go jxP d 158 83 [l0, l1, l2, l3] (.int y :: .int x :: st) h Q ↔ jx_Go jxP d 158 84 [l0, l1, l2, l3] (.int (x <<< (y &&& 31)) :: st) h Q := jg_b (f := fun x y => x <<< (y &&& 31)) rfl
theorem s158_84 : jx_Go jxP (d + 1) 158 84 [l0, l1, l2, l3] (.int x2 :: .int x1 :: .int x0 :: .ref a :: st) h Q ↔ (st.length ≤ 4 ∧ jx_cl h a = some 12 ∧ jx_Go jxP d 160 0 [.ref a, .int x0, .int x1, .int x2, jx_u, jx_u, jx_u, jx_u] [] h (fun s1 h1 => jx_Go jxP (d + 1) 158 87 [l0, l1, l2, l3] (s1 ++ st) h1 Q)) := jg_callV (as := [.int x2, .int x1, .int x0, .ref a]) rfl rfl rfl rfl rfl
theorem s158_87 : jx_Go jxP d 158 87 [.ref a, l1, l2, l3] st h Q ↔ jx_Go jxP d 158 88 [.ref a, l1, l2, l3] (.ref a :: st) h Q := jg_al rfl rfl
theorem s158_88 : jx_Go jxP d 158 88 [l0, .int x, l2, l3] st h Q ↔ jx_Go jxP d 158 89 [l0, .int x, l2, l3] (.int x :: st) h Q := jg_il rfl rfl
theorem s158_89 : jx_Go jxP d 158 89 [.ref a, l1, l2, l3] st h Q ↔ jx_Go jxP d 158 90 [.ref a, l1, l2, l3] (.ref a :: st) h Q := jg_al rfl rfl
theorem s158_90 : jx_Go jxP d 158 90 [l0, .int x, l2, l3] st h Q ↔ jx_Go jxP d 158 91 [l0, .int x, l2, l3] (.int x :: st) h Q := jg_il rfl rfl
theorem s158_91 : jx_Go jxP d 158 91 [l0, l1, l2, .int x] st h Q ↔ jx_Go jxP d 158 92 [l0, l1, l2, .int x] (.int x :: st) h Q := jg_il rfl rfl
theorem s158_92 : jx_Go jxP d 158 92 [l0, l1, l2, l3] st h Q ↔ jx_Go jxP d 158 93 [l0, l1, l2, l3] (.int (nI 0) :: st) h Q := jg_c rfl
theorem s158_93 : jx_Go jxP (d + 1) 158 93 [l0, l1, l2, l3] (.int x2 :: .int x1 :: .int x0 :: .ref a :: st) h Q ↔ (st.length ≤ 4 ∧ jx_cl h a = some 12 ∧ jx_Go jxP d 159 0 [.ref a, .int x0, .int x1, .int x2, jx_u] [] h (fun s1 h1 => jx_Go jxP (d + 1) 158 96 [l0, l1, l2, l3] (s1 ++ st) h1 Q)) := jg_callV (as := [.int x2, .int x1, .int x0, .ref a]) rfl rfl rfl rfl rfl
theorem s158_96 : jx_Go jxP d 158 96 [l0, l1, l2, .int x] st h Q ↔ jx_Go jxP d 158 97 [l0, l1, l2, .int x] (.int x :: st) h Q := jg_il rfl rfl
theorem s158_97 : jx_Go jxP (d + 1) 158 97 [l0, l1, l2, l3] (.int x2 :: .int x1 :: .int x0 :: .ref a :: st) h Q ↔ (st.length ≤ 4 ∧ jx_cl h a = some 12 ∧ jx_Go jxP d 160 0 [.ref a, .int x0, .int x1, .int x2, jx_u, jx_u, jx_u, jx_u] [] h (fun s1 h1 => jx_Go jxP (d + 1) 158 100 [l0, l1, l2, l3] (s1 ++ st) h1 Q)) := jg_callV (as := [.int x2, .int x1, .int x0, .ref a]) rfl rfl rfl rfl rfl
theorem s158_100 : jx_Go jxP d 158 100 [l0, l1, l2, .int x] st h Q ↔ jx_Go jxP d 158 103 [l0, l1, l2, .int (x + (nI 1))] st h Q := jg_inc rfl rfl rfl
theorem s158_103 : jx_Go jxP d 158 103 [l0, l1, l2, l3] st h Q ↔ jx_Go jxP d 158 62 [l0, l1, l2, l3] st h Q := jg_go rfl
theorem s158_106 : jx_Go jxP d 158 106 [l0, .int x, l2, l3] st h Q ↔ jx_Go jxP d 158 109 [l0, .int (x + (nI 1)), l2, l3] st h Q := jg_inc rfl rfl rfl
theorem s158_109 : jx_Go jxP d 158 109 [l0, l1, l2, l3] st h Q ↔ jx_Go jxP d 158 2 [l0, l1, l2, l3] st h Q := jg_go rfl
theorem s158_112 : jx_Go jxP d 158 112 [l0, l1, l2, l3] [] h Q ↔ Q [] h := jx_rt rfl rfl
-- 159 TalkBenchModel.parted
theorem s159_0 : jx_Go jxP d 159 0 [l0, l1, l2, .int x, l4] st h Q ↔ jx_Go jxP d 159 1 [l0, l1, l2, .int x, l4] (.int x :: st) h Q := jg_il rfl rfl
theorem s159_1 : jx_Go jxP d 159 1 [l0, l1, l2, l3, l4] (.int x :: st) h Q ↔ if x = 0 then jx_Go jxP d 159 10 [l0, l1, l2, l3, l4] st h Q else jx_Go jxP d 159 4 [l0, l1, l2, l3, l4] st h Q := jg_ifP rfl rfl
theorem s159_4 : jx_Go jxP d 159 4 [l0, .int x, l2, l3, l4] st h Q ↔ jx_Go jxP d 159 5 [l0, .int x, l2, l3, l4] (.int x :: st) h Q := jg_il rfl rfl
theorem s159_5 : jx_Go jxP d 159 5 [l0, l1, l2, l3, l4] st h Q ↔ jx_Go jxP d 159 6 [l0, l1, l2, l3, l4] (.int (nI 5) :: st) h Q := jg_c rfl
theorem s159_6 : jx_Go jxP d 159 6 [l0, l1, l2, l3, l4] (.int y :: .int x :: st) h Q ↔ jx_Go jxP d 159 7 [l0, l1, l2, l3, l4] (.int (x >>> (y &&& 31)) :: st) h Q := jg_b (f := fun x y => x >>> (y &&& 31)) rfl
theorem s159_7 : jx_Go jxP d 159 7 [l0, l1, l2, l3, l4] st h Q ↔ jx_Go jxP d 159 14 [l0, l1, l2, l3, l4] st h Q := jg_go rfl
theorem s159_10 : jx_Go jxP d 159 10 [l0, .int x, l2, l3, l4] st h Q ↔ jx_Go jxP d 159 11 [l0, .int x, l2, l3, l4] (.int x :: st) h Q := jg_il rfl rfl
theorem s159_11 : jx_Go jxP d 159 11 [l0, l1, l2, l3, l4] st h Q ↔ jx_Go jxP d 159 13 [l0, l1, l2, l3, l4] (.int (nI 31) :: st) h Q := jg_c rfl
theorem s159_13 : jx_Go jxP d 159 13 [l0, l1, l2, l3, l4] (.int y :: .int x :: st) h Q ↔ jx_Go jxP d 159 14 [l0, l1, l2, l3, l4] (.int (x &&& y) :: st) h Q := jg_b (f := fun x y => x &&& y) rfl
theorem s159_14 : jx_Go jxP d 159 14 [l0, l1, l2, l3, l4] (.int x :: st) h Q ↔ jx_Go jxP d 159 16 [l0, l1, l2, l3, .int x] st h Q := jg_is rfl rfl
theorem s159_16 : jx_Go jxP d 159 16 [l0, l1, .int x, l3, l4] st h Q ↔ jx_Go jxP d 159 17 [l0, l1, .int x, l3, l4] (.int x :: st) h Q := jg_il rfl rfl
theorem s159_17 : jx_Go jxP d 159 17 [l0, l1, l2, l3, l4] (.int x :: st) h Q ↔ if x = 0 then jx_Go jxP d 159 44 [l0, l1, l2, l3, l4] st h Q else jx_Go jxP d 159 20 [l0, l1, l2, l3, l4] st h Q := jg_ifP rfl rfl
theorem s159_20 : jx_Go jxP d 159 20 [l0, l1, .int x, l3, l4] st h Q ↔ jx_Go jxP d 159 21 [l0, l1, .int x, l3, l4] (.int x :: st) h Q := jg_il rfl rfl
theorem s159_21 : jx_Go jxP d 159 21 [l0, l1, l2, l3, .int x] st h Q ↔ jx_Go jxP d 159 23 [l0, l1, l2, l3, .int x] (.int x :: st) h Q := jg_il rfl rfl
theorem s159_23 : jx_Go jxP d 159 23 [l0, l1, l2, l3, l4] st h Q ↔ jx_Go jxP d 159 24 [l0, l1, l2, l3, l4] (.int (-1) :: st) h Q := jg_c rfl
theorem s159_24 : jx_Go jxP d 159 24 [l0, l1, l2, l3, l4] (.int y :: .int x :: st) h Q ↔ jx_Go jxP d 159 25 [l0, l1, l2, l3, l4] (.int (x ^^^ y) :: st) h Q := jg_b (f := fun x y => x ^^^ y) rfl
theorem s159_25 : jx_Go jxP d 159 25 [l0, l1, l2, l3, l4] (.int y :: .int x :: st) h Q ↔ jx_Go jxP d 159 26 [l0, l1, l2, l3, l4] (.int (x &&& y) :: st) h Q := jg_b (f := fun x y => x &&& y) rfl
theorem s159_26 : jx_Go jxP d 159 26 [l0, l1, l2, l3, l4] (.int x :: st) h Q ↔ if x = 0 then jx_Go jxP d 159 29 [l0, l1, l2, l3, l4] st h Q else jx_Go jxP d 159 44 [l0, l1, l2, l3, l4] st h Q := jg_ifN rfl rfl
theorem s159_29 : jx_Go jxP d 159 29 [l0, l1, .int x, l3, l4] st h Q ↔ jx_Go jxP d 159 30 [l0, l1, .int x, l3, l4] (.int x :: st) h Q := jg_il rfl rfl
theorem s159_30 : jx_Go jxP d 159 30 [l0, l1, l2, l3, .int x] st h Q ↔ jx_Go jxP d 159 32 [l0, l1, l2, l3, .int x] (.int x :: st) h Q := jg_il rfl rfl
theorem s159_32 : jx_Go jxP d 159 32 [l0, l1, l2, l3, .int x] st h Q ↔ jx_Go jxP d 159 34 [l0, l1, l2, l3, .int x] (.int x :: st) h Q := jg_il rfl rfl
theorem s159_34 : jx_Go jxP d 159 34 [l0, l1, l2, l3, l4] (.int x :: st) h Q ↔ jx_Go jxP d 159 35 [l0, l1, l2, l3, l4] (.int (-x) :: st) h Q := jg_1 (f := fun x => -x) rfl
theorem s159_35 : jx_Go jxP d 159 35 [l0, l1, l2, l3, l4] (.int y :: .int x :: st) h Q ↔ jx_Go jxP d 159 36 [l0, l1, l2, l3, l4] (.int (x &&& y) :: st) h Q := jg_b (f := fun x y => x &&& y) rfl
theorem s159_36 : jx_Go jxP d 159 36 [l0, l1, l2, l3, l4] (.int y :: .int x :: st) h Q ↔ jx_Go jxP d 159 37 [l0, l1, l2, l3, l4] (.int (x &&& y) :: st) h Q := jg_b (f := fun x y => x &&& y) rfl
theorem s159_37 : jx_Go jxP d 159 37 [l0, l1, l2, l3, l4] (.int x :: st) h Q ↔ if x = 0 then jx_Go jxP d 159 40 [l0, l1, l2, l3, l4] st h Q else jx_Go jxP d 159 44 [l0, l1, l2, l3, l4] st h Q := jg_ifN rfl rfl
theorem s159_40 : jx_Go jxP d 159 40 [l0, l1, l2, l3, l4] st h Q ↔ jx_Go jxP d 159 41 [l0, l1, l2, l3, l4] (.int (nI 1) :: st) h Q := jg_c rfl
theorem s159_41 : jx_Go jxP d 159 41 [l0, l1, l2, l3, l4] st h Q ↔ jx_Go jxP d 159 45 [l0, l1, l2, l3, l4] st h Q := jg_go rfl
theorem s159_44 : jx_Go jxP d 159 44 [l0, l1, l2, l3, l4] st h Q ↔ jx_Go jxP d 159 45 [l0, l1, l2, l3, l4] (.int (nI 0) :: st) h Q := jg_c rfl
theorem s159_45b0 : jx_Go jxP d 159 45 [l0, l1, l2, l3, l4] [.int (nI 0)] h Q ↔ Q [.int (nI 0)] h := jx_rt rfl rfl
theorem s159_45b1 : jx_Go jxP d 159 45 [l0, l1, l2, l3, l4] [.int (nI 1)] h Q ↔ Q [.int (nI 1)] h := jx_rt rfl rfl
-- 160 TalkBenchModel.takeBest
theorem s160_0 : jx_Go jxP d 160 0 [l0, l1, .int x, l3, l4, l5, l6, l7] st h Q ↔ jx_Go jxP d 160 1 [l0, l1, .int x, l3, l4, l5, l6, l7] (.int x :: st) h Q := jg_il rfl rfl
theorem s160_1 : jx_Go jxP d 160 1 [l0, l1, l2, l3, l4, l5, l6, l7] (.int x :: st) h Q ↔ if x = 0 then jx_Go jxP d 160 145 [l0, l1, l2, l3, l4, l5, l6, l7] st h Q else jx_Go jxP d 160 4 [l0, l1, l2, l3, l4, l5, l6, l7] st h Q := jg_ifP rfl rfl
theorem s160_4 : jx_Go jxP d 160 4 [l0, .int x, l2, l3, l4, l5, l6, l7] st h Q ↔ jx_Go jxP d 160 5 [l0, .int x, l2, l3, l4, l5, l6, l7] (.int x :: st) h Q := jg_il rfl rfl
theorem s160_5 : jx_Go jxP d 160 5 [l0, l1, l2, .int x, l4, l5, l6, l7] st h Q ↔ jx_Go jxP d 160 6 [l0, l1, l2, .int x, l4, l5, l6, l7] (.int x :: st) h Q := jg_il rfl rfl
theorem s160_6 : jx_Go jxP d 160 6 [l0, l1, l2, l3, l4, l5, l6, l7] (.int y :: .int x :: st) h Q ↔ jx_Go jxP d 160 7 [l0, l1, l2, l3, l4, l5, l6, l7] (.int (x ^^^ y) :: st) h Q := jg_b (f := fun x y => x ^^^ y) rfl
theorem s160_7 : jx_Go jxP d 160 7 [l0, l1, l2, l3, l4, l5, l6, l7] (.int x :: st) h Q ↔ jx_Go jxP d 160 9 [l0, l1, l2, l3, .int x, l5, l6, l7] st h Q := jg_is rfl rfl
theorem s160_9 : jx_Go jxP d 160 9 [l0, l1, l2, .int x, l4, l5, l6, l7] st h Q ↔ jx_Go jxP d 160 10 [l0, l1, l2, .int x, l4, l5, l6, l7] (.int x :: st) h Q := jg_il rfl rfl
theorem s160_10 : jx_Go jxP d 160 10 [l0, l1, l2, l3, l4, l5, l6, l7] st h Q ↔ jx_Go jxP d 160 12 [l0, l1, l2, l3, l4, l5, l6, l7] (.int (nI 32) :: st) h Q := jg_c rfl
theorem s160_12 : jx_Go jxP d 160 12 [l0, l1, l2, l3, l4, l5, l6, l7] (.int y :: .int x :: st) h Q ↔ if y ≤ x then jx_Go jxP d 160 24 [l0, l1, l2, l3, l4, l5, l6, l7] st h Q else jx_Go jxP d 160 15 [l0, l1, l2, l3, l4, l5, l6, l7] st h Q := jg_icP rfl rfl
theorem s160_15 : jx_Go jxP d 160 15 [l0, .int x, l2, l3, l4, l5, l6, l7] st h Q ↔ jx_Go jxP d 160 16 [l0, .int x, l2, l3, l4, l5, l6, l7] (.int x :: st) h Q := jg_il rfl rfl
theorem s160_16 : jx_Go jxP d 160 16 [l0, l1, l2, l3, l4, l5, l6, l7] st h Q ↔ jx_Go jxP d 160 18 [l0, l1, l2, l3, l4, l5, l6, l7] (.int (-32) :: st) h Q := jg_c rfl
theorem s160_18 : jx_Go jxP d 160 18 [l0, l1, l2, l3, l4, l5, l6, l7] (.int y :: .int x :: st) h Q ↔ jx_Go jxP d 160 19 [l0, l1, l2, l3, l4, l5, l6, l7] (.int (x &&& y) :: st) h Q := jg_b (f := fun x y => x &&& y) rfl
theorem s160_19 : jx_Go jxP d 160 19 [l0, l1, l2, .int x, l4, l5, l6, l7] st h Q ↔ jx_Go jxP d 160 20 [l0, l1, l2, .int x, l4, l5, l6, l7] (.int x :: st) h Q := jg_il rfl rfl
theorem s160_20 : jx_Go jxP d 160 20 [l0, l1, l2, l3, l4, l5, l6, l7] (.int y :: .int x :: st) h Q ↔ jx_Go jxP d 160 21 [l0, l1, l2, l3, l4, l5, l6, l7] (.int (x ||| y) :: st) h Q := jg_b (f := fun x y => x ||| y) rfl
theorem s160_21 : jx_Go jxP d 160 21 [l0, l1, l2, l3, l4, l5, l6, l7] st h Q ↔ jx_Go jxP d 160 30 [l0, l1, l2, l3, l4, l5, l6, l7] st h Q := jg_go rfl
theorem s160_24 : jx_Go jxP d 160 24 [l0, l1, l2, .int x, l4, l5, l6, l7] st h Q ↔ jx_Go jxP d 160 25 [l0, l1, l2, .int x, l4, l5, l6, l7] (.int x :: st) h Q := jg_il rfl rfl
theorem s160_25 : jx_Go jxP d 160 25 [l0, .int x, l2, l3, l4, l5, l6, l7] st h Q ↔ jx_Go jxP d 160 26 [l0, .int x, l2, l3, l4, l5, l6, l7] (.int x :: st) h Q := jg_il rfl rfl
theorem s160_26 : jx_Go jxP d 160 26 [l0, l1, l2, l3, l4, l5, l6, l7] st h Q ↔ jx_Go jxP d 160 28 [l0, l1, l2, l3, l4, l5, l6, l7] (.int (nI 31) :: st) h Q := jg_c rfl
theorem s160_28 : jx_Go jxP d 160 28 [l0, l1, l2, l3, l4, l5, l6, l7] (.int y :: .int x :: st) h Q ↔ jx_Go jxP d 160 29 [l0, l1, l2, l3, l4, l5, l6, l7] (.int (x &&& y) :: st) h Q := jg_b (f := fun x y => x &&& y) rfl
theorem s160_29 : jx_Go jxP d 160 29 [l0, l1, l2, l3, l4, l5, l6, l7] (.int y :: .int x :: st) h Q ↔ jx_Go jxP d 160 30 [l0, l1, l2, l3, l4, l5, l6, l7] (.int (x ||| y) :: st) h Q := jg_b (f := fun x y => x ||| y) rfl
theorem s160_30 : jx_Go jxP d 160 30 [l0, l1, l2, l3, l4, l5, l6, l7] (.int x :: st) h Q ↔ jx_Go jxP d 160 32 [l0, l1, l2, l3, l4, .int x, l6, l7] st h Q := jg_is rfl rfl
theorem s160_32 : jx_Go jxP d 160 32 [.ref a, l1, l2, l3, l4, l5, l6, l7] st h Q ↔ jx_Go jxP d 160 33 [.ref a, l1, l2, l3, l4, l5, l6, l7] (.ref a :: st) h Q := jg_al rfl rfl
theorem s160_33 : jx_Go jxP d 160 33 [l0, l1, l2, l3, l4, l5, l6, l7] (.ref a :: st) h Q ↔ ∃ v, jx_fl h a 12 16 = some v ∧ jx_Go jxP d 160 36 [l0, l1, l2, l3, l4, l5, l6, l7] (v :: st) h Q := jg_gf rfl
theorem s160_36 : jx_Go jxP d 160 36 [l0, l1, l2, l3, .int x, l5, l6, l7] st h Q ↔ jx_Go jxP d 160 38 [l0, l1, l2, l3, .int x, l5, l6, l7] (.int x :: st) h Q := jg_il rfl rfl
theorem s160_38 : jx_Go jxP d 160 38 [l0, l1, l2, l3, l4, l5, l6, l7] (.int x :: .ref a :: st) h Q ↔ ∃ q, jx_ai h a = some q ∧ jx_in x q.1 ∧ jx_Go jxP d 160 39 [l0, l1, l2, l3, l4, l5, l6, l7] (.int (q.2 x.toNatClampNeg) :: st) h Q := jg_ia rfl
theorem s160_39 : jx_Go jxP d 160 39 [.ref a, l1, l2, l3, l4, l5, l6, l7] st h Q ↔ jx_Go jxP d 160 40 [.ref a, l1, l2, l3, l4, l5, l6, l7] (.ref a :: st) h Q := jg_al rfl rfl
theorem s160_40 : jx_Go jxP d 160 40 [l0, l1, l2, l3, l4, l5, l6, l7] (.ref a :: st) h Q ↔ ∃ v, jx_fl h a 12 16 = some v ∧ jx_Go jxP d 160 43 [l0, l1, l2, l3, l4, l5, l6, l7] (v :: st) h Q := jg_gf rfl
theorem s160_43 : jx_Go jxP d 160 43 [l0, l1, l2, l3, l4, .int x, l6, l7] st h Q ↔ jx_Go jxP d 160 45 [l0, l1, l2, l3, l4, .int x, l6, l7] (.int x :: st) h Q := jg_il rfl rfl
theorem s160_45 : jx_Go jxP d 160 45 [l0, l1, l2, l3, l4, l5, l6, l7] (.int x :: .ref a :: st) h Q ↔ ∃ q, jx_ai h a = some q ∧ jx_in x q.1 ∧ jx_Go jxP d 160 46 [l0, l1, l2, l3, l4, l5, l6, l7] (.int (q.2 x.toNatClampNeg) :: st) h Q := jg_ia rfl
theorem s160_46 : jx_Go jxP d 160 46 [l0, l1, l2, l3, l4, l5, l6, l7] (.int y :: .int x :: st) h Q ↔ if x ≤ y then jx_Go jxP d 160 59 [l0, l1, l2, l3, l4, l5, l6, l7] st h Q else jx_Go jxP d 160 49 [l0, l1, l2, l3, l4, l5, l6, l7] st h Q := jg_icP rfl rfl
theorem s160_49 : jx_Go jxP d 160 49 [.ref a, l1, l2, l3, l4, l5, l6, l7] st h Q ↔ jx_Go jxP d 160 50 [.ref a, l1, l2, l3, l4, l5, l6, l7] (.ref a :: st) h Q := jg_al rfl rfl
theorem s160_50 : jx_Go jxP d 160 50 [l0, l1, l2, l3, l4, l5, l6, l7] (.ref a :: st) h Q ↔ ∃ v, jx_fl h a 12 16 = some v ∧ jx_Go jxP d 160 53 [l0, l1, l2, l3, l4, l5, l6, l7] (v :: st) h Q := jg_gf rfl
theorem s160_53 : jx_Go jxP d 160 53 [l0, l1, l2, l3, .int x, l5, l6, l7] st h Q ↔ jx_Go jxP d 160 55 [l0, l1, l2, l3, .int x, l5, l6, l7] (.int x :: st) h Q := jg_il rfl rfl
theorem s160_55 : jx_Go jxP d 160 55 [l0, l1, l2, l3, l4, l5, l6, l7] (.int x :: .ref a :: st) h Q ↔ ∃ q, jx_ai h a = some q ∧ jx_in x q.1 ∧ jx_Go jxP d 160 56 [l0, l1, l2, l3, l4, l5, l6, l7] (.int (q.2 x.toNatClampNeg) :: st) h Q := jg_ia rfl
theorem s160_56 : jx_Go jxP d 160 56 [l0, l1, l2, l3, l4, l5, l6, l7] st h Q ↔ jx_Go jxP d 160 66 [l0, l1, l2, l3, l4, l5, l6, l7] st h Q := jg_go rfl
theorem s160_59 : jx_Go jxP d 160 59 [.ref a, l1, l2, l3, l4, l5, l6, l7] st h Q ↔ jx_Go jxP d 160 60 [.ref a, l1, l2, l3, l4, l5, l6, l7] (.ref a :: st) h Q := jg_al rfl rfl
theorem s160_60 : jx_Go jxP d 160 60 [l0, l1, l2, l3, l4, l5, l6, l7] (.ref a :: st) h Q ↔ ∃ v, jx_fl h a 12 16 = some v ∧ jx_Go jxP d 160 63 [l0, l1, l2, l3, l4, l5, l6, l7] (v :: st) h Q := jg_gf rfl
theorem s160_63 : jx_Go jxP d 160 63 [l0, l1, l2, l3, l4, .int x, l6, l7] st h Q ↔ jx_Go jxP d 160 65 [l0, l1, l2, l3, l4, .int x, l6, l7] (.int x :: st) h Q := jg_il rfl rfl
theorem s160_65 : jx_Go jxP d 160 65 [l0, l1, l2, l3, l4, l5, l6, l7] (.int x :: .ref a :: st) h Q ↔ ∃ q, jx_ai h a = some q ∧ jx_in x q.1 ∧ jx_Go jxP d 160 66 [l0, l1, l2, l3, l4, l5, l6, l7] (.int (q.2 x.toNatClampNeg) :: st) h Q := jg_ia rfl
theorem s160_66 : jx_Go jxP d 160 66 [l0, l1, l2, l3, l4, l5, l6, l7] (.int x :: st) h Q ↔ jx_Go jxP d 160 68 [l0, l1, l2, l3, l4, l5, .int x, l7] st h Q := jg_is rfl rfl
theorem s160_68 : jx_Go jxP d 160 68 [.ref a, l1, l2, l3, l4, l5, l6, l7] st h Q ↔ jx_Go jxP d 160 69 [.ref a, l1, l2, l3, l4, l5, l6, l7] (.ref a :: st) h Q := jg_al rfl rfl
theorem s160_69 : jx_Go jxP d 160 69 [l0, l1, l2, l3, l4, l5, l6, l7] (.ref a :: st) h Q ↔ ∃ v, jx_fl h a 12 16 = some v ∧ jx_Go jxP d 160 72 [l0, l1, l2, l3, l4, l5, l6, l7] (v :: st) h Q := jg_gf rfl
theorem s160_72 : jx_Go jxP d 160 72 [l0, .int x, l2, l3, l4, l5, l6, l7] st h Q ↔ jx_Go jxP d 160 73 [l0, .int x, l2, l3, l4, l5, l6, l7] (.int x :: st) h Q := jg_il rfl rfl
theorem s160_73 : jx_Go jxP d 160 73 [l0, l1, l2, l3, l4, l5, .int x, l7] st h Q ↔ jx_Go jxP d 160 75 [l0, l1, l2, l3, l4, l5, .int x, l7] (.int x :: st) h Q := jg_il rfl rfl
theorem s160_75 : jx_Go jxP d 160 75 [l0, l1, l2, l3, l4, l5, l6, l7] st h Q ↔ jx_Go jxP d 160 76 [l0, l1, l2, l3, l4, l5, l6, l7] (.int (nI 1) :: st) h Q := jg_c rfl
theorem s160_76 : jx_Go jxP d 160 76 [l0, l1, l2, l3, l4, l5, l6, l7] (.int y :: .int x :: st) h Q ↔ jx_Go jxP d 160 77 [l0, l1, l2, l3, l4, l5, l6, l7] (.int (x + y) :: st) h Q := jg_b (f := fun x y => x + y) rfl
theorem s160_77 : jx_Go jxP d 160 77 [.ref a, l1, l2, l3, l4, l5, l6, l7] st h Q ↔ jx_Go jxP d 160 78 [.ref a, l1, l2, l3, l4, l5, l6, l7] (.ref a :: st) h Q := jg_al rfl rfl
theorem s160_78 : jx_Go jxP d 160 78 [l0, l1, l2, l3, l4, l5, l6, l7] (.ref a :: st) h Q ↔ ∃ v, jx_fl h a 12 16 = some v ∧ jx_Go jxP d 160 81 [l0, l1, l2, l3, l4, l5, l6, l7] (v :: st) h Q := jg_gf rfl
theorem s160_81 : jx_Go jxP d 160 81 [l0, .int x, l2, l3, l4, l5, l6, l7] st h Q ↔ jx_Go jxP d 160 82 [l0, .int x, l2, l3, l4, l5, l6, l7] (.int x :: st) h Q := jg_il rfl rfl
theorem s160_82 : jx_Go jxP d 160 82 [l0, l1, l2, l3, l4, l5, l6, l7] (.int x :: .ref a :: st) h Q ↔ ∃ q, jx_ai h a = some q ∧ jx_in x q.1 ∧ jx_Go jxP d 160 83 [l0, l1, l2, l3, l4, l5, l6, l7] (.int (q.2 x.toNatClampNeg) :: st) h Q := jg_ia rfl
theorem s160_83 : jx_Go jxP d 160 83 [l0, l1, l2, l3, l4, l5, l6, l7] (.int y :: .int x :: st) h Q ↔ if y ≤ x then jx_Go jxP d 160 93 [l0, l1, l2, l3, l4, l5, l6, l7] st h Q else jx_Go jxP d 160 86 [l0, l1, l2, l3, l4, l5, l6, l7] st h Q := jg_icP rfl rfl
theorem s160_86 : jx_Go jxP d 160 86 [l0, l1, l2, l3, l4, l5, .int x, l7] st h Q ↔ jx_Go jxP d 160 88 [l0, l1, l2, l3, l4, l5, .int x, l7] (.int x :: st) h Q := jg_il rfl rfl
theorem s160_88 : jx_Go jxP d 160 88 [l0, l1, l2, l3, l4, l5, l6, l7] st h Q ↔ jx_Go jxP d 160 89 [l0, l1, l2, l3, l4, l5, l6, l7] (.int (nI 1) :: st) h Q := jg_c rfl
theorem s160_89 : jx_Go jxP d 160 89 [l0, l1, l2, l3, l4, l5, l6, l7] (.int y :: .int x :: st) h Q ↔ jx_Go jxP d 160 90 [l0, l1, l2, l3, l4, l5, l6, l7] (.int (x + y) :: st) h Q := jg_b (f := fun x y => x + y) rfl
theorem s160_90 : jx_Go jxP d 160 90 [l0, l1, l2, l3, l4, l5, l6, l7] st h Q ↔ jx_Go jxP d 160 99 [l0, l1, l2, l3, l4, l5, l6, l7] st h Q := jg_go rfl
theorem s160_93 : jx_Go jxP d 160 93 [.ref a, l1, l2, l3, l4, l5, l6, l7] st h Q ↔ jx_Go jxP d 160 94 [.ref a, l1, l2, l3, l4, l5, l6, l7] (.ref a :: st) h Q := jg_al rfl rfl
theorem s160_94 : jx_Go jxP d 160 94 [l0, l1, l2, l3, l4, l5, l6, l7] (.ref a :: st) h Q ↔ ∃ v, jx_fl h a 12 16 = some v ∧ jx_Go jxP d 160 97 [l0, l1, l2, l3, l4, l5, l6, l7] (v :: st) h Q := jg_gf rfl
theorem s160_97 : jx_Go jxP d 160 97 [l0, .int x, l2, l3, l4, l5, l6, l7] st h Q ↔ jx_Go jxP d 160 98 [l0, .int x, l2, l3, l4, l5, l6, l7] (.int x :: st) h Q := jg_il rfl rfl
theorem s160_98 : jx_Go jxP d 160 98 [l0, l1, l2, l3, l4, l5, l6, l7] (.int x :: .ref a :: st) h Q ↔ ∃ q, jx_ai h a = some q ∧ jx_in x q.1 ∧ jx_Go jxP d 160 99 [l0, l1, l2, l3, l4, l5, l6, l7] (.int (q.2 x.toNatClampNeg) :: st) h Q := jg_ia rfl
theorem s160_99 : jx_Go jxP d 160 99 [l0, l1, l2, l3, l4, l5, l6, l7] (.int y :: .int x :: .ref a :: st) h Q ↔ ∃ q, jx_ai h a = some q ∧ jx_in x q.1 ∧ jx_Go jxP d 160 100 [l0, l1, l2, l3, l4, l5, l6, l7] st (jx_wi h a q.1 (upd q.2 x.toNatClampNeg y)) Q := jg_iw rfl
theorem s160_100 : jx_Go jxP d 160 100 [.ref a, l1, l2, l3, l4, l5, l6, l7] st h Q ↔ jx_Go jxP d 160 101 [.ref a, l1, l2, l3, l4, l5, l6, l7] (.ref a :: st) h Q := jg_al rfl rfl
theorem s160_101 : jx_Go jxP d 160 101 [l0, l1, l2, l3, l4, l5, l6, l7] (.ref a :: st) h Q ↔ ∃ v, jx_fl h a 12 17 = some v ∧ jx_Go jxP d 160 104 [l0, l1, l2, l3, l4, l5, l6, l7] (v :: st) h Q := jg_gf rfl
theorem s160_104 : jx_Go jxP d 160 104 [l0, l1, l2, l3, .int x, l5, l6, l7] st h Q ↔ jx_Go jxP d 160 106 [l0, l1, l2, l3, .int x, l5, l6, l7] (.int x :: st) h Q := jg_il rfl rfl
theorem s160_106 : jx_Go jxP d 160 106 [l0, l1, l2, l3, l4, l5, l6, l7] (.int x :: .ref a :: st) h Q ↔ ∃ q, jx_ai h a = some q ∧ jx_in x q.1 ∧ jx_Go jxP d 160 107 [l0, l1, l2, l3, l4, l5, l6, l7] (.int (q.2 x.toNatClampNeg) :: st) h Q := jg_ia rfl
theorem s160_107 : jx_Go jxP d 160 107 [.ref a, l1, l2, l3, l4, l5, l6, l7] st h Q ↔ jx_Go jxP d 160 108 [.ref a, l1, l2, l3, l4, l5, l6, l7] (.ref a :: st) h Q := jg_al rfl rfl
theorem s160_108 : jx_Go jxP d 160 108 [l0, l1, l2, l3, l4, l5, l6, l7] (.ref a :: st) h Q ↔ ∃ v, jx_fl h a 12 17 = some v ∧ jx_Go jxP d 160 111 [l0, l1, l2, l3, l4, l5, l6, l7] (v :: st) h Q := jg_gf rfl
theorem s160_111 : jx_Go jxP d 160 111 [l0, l1, l2, l3, l4, .int x, l6, l7] st h Q ↔ jx_Go jxP d 160 113 [l0, l1, l2, l3, l4, .int x, l6, l7] (.int x :: st) h Q := jg_il rfl rfl
theorem s160_113 : jx_Go jxP d 160 113 [l0, l1, l2, l3, l4, l5, l6, l7] (.int x :: .ref a :: st) h Q ↔ ∃ q, jx_ai h a = some q ∧ jx_in x q.1 ∧ jx_Go jxP d 160 114 [l0, l1, l2, l3, l4, l5, l6, l7] (.int (q.2 x.toNatClampNeg) :: st) h Q := jg_ia rfl
theorem s160_114 : jx_Go jxP d 160 114 [l0, l1, l2, l3, l4, l5, l6, l7] (.int y :: .int x :: st) h Q ↔ jx_Go jxP d 160 115 [l0, l1, l2, l3, l4, l5, l6, l7] (.int (x + y) :: st) h Q := jg_b (f := fun x y => x + y) rfl
theorem s160_115 : jx_Go jxP d 160 115 [l0, l1, l2, l3, l4, l5, l6, l7] (.int x :: st) h Q ↔ jx_Go jxP d 160 117 [l0, l1, l2, l3, l4, l5, l6, .int x] st h Q := jg_is rfl rfl
theorem s160_117 : jx_Go jxP d 160 117 [.ref a, l1, l2, l3, l4, l5, l6, l7] st h Q ↔ jx_Go jxP d 160 118 [.ref a, l1, l2, l3, l4, l5, l6, l7] (.ref a :: st) h Q := jg_al rfl rfl
theorem s160_118 : jx_Go jxP d 160 118 [l0, l1, l2, l3, l4, l5, l6, l7] (.ref a :: st) h Q ↔ ∃ v, jx_fl h a 12 17 = some v ∧ jx_Go jxP d 160 121 [l0, l1, l2, l3, l4, l5, l6, l7] (v :: st) h Q := jg_gf rfl
theorem s160_121 : jx_Go jxP d 160 121 [l0, .int x, l2, l3, l4, l5, l6, l7] st h Q ↔ jx_Go jxP d 160 122 [l0, .int x, l2, l3, l4, l5, l6, l7] (.int x :: st) h Q := jg_il rfl rfl
theorem s160_122 : jx_Go jxP d 160 122 [l0, l1, l2, l3, l4, l5, l6, .int x] st h Q ↔ jx_Go jxP d 160 124 [l0, l1, l2, l3, l4, l5, l6, .int x] (.int x :: st) h Q := jg_il rfl rfl
theorem s160_124 : jx_Go jxP d 160 124 [.ref a, l1, l2, l3, l4, l5, l6, l7] st h Q ↔ jx_Go jxP d 160 125 [.ref a, l1, l2, l3, l4, l5, l6, l7] (.ref a :: st) h Q := jg_al rfl rfl
theorem s160_125 : jx_Go jxP d 160 125 [l0, l1, l2, l3, l4, l5, l6, l7] (.ref a :: st) h Q ↔ ∃ v, jx_fl h a 12 17 = some v ∧ jx_Go jxP d 160 128 [l0, l1, l2, l3, l4, l5, l6, l7] (v :: st) h Q := jg_gf rfl
theorem s160_128 : jx_Go jxP d 160 128 [l0, .int x, l2, l3, l4, l5, l6, l7] st h Q ↔ jx_Go jxP d 160 129 [l0, .int x, l2, l3, l4, l5, l6, l7] (.int x :: st) h Q := jg_il rfl rfl
theorem s160_129 : jx_Go jxP d 160 129 [l0, l1, l2, l3, l4, l5, l6, l7] (.int x :: .ref a :: st) h Q ↔ ∃ q, jx_ai h a = some q ∧ jx_in x q.1 ∧ jx_Go jxP d 160 130 [l0, l1, l2, l3, l4, l5, l6, l7] (.int (q.2 x.toNatClampNeg) :: st) h Q := jg_ia rfl
theorem s160_130 : jx_Go jxP d 160 130 [l0, l1, l2, l3, l4, l5, l6, l7] (.int y :: .int x :: st) h Q ↔ if y ≤ x then jx_Go jxP d 160 138 [l0, l1, l2, l3, l4, l5, l6, l7] st h Q else jx_Go jxP d 160 133 [l0, l1, l2, l3, l4, l5, l6, l7] st h Q := jg_icP rfl rfl
theorem s160_133 : jx_Go jxP d 160 133 [l0, l1, l2, l3, l4, l5, l6, .int x] st h Q ↔ jx_Go jxP d 160 135 [l0, l1, l2, l3, l4, l5, l6, .int x] (.int x :: st) h Q := jg_il rfl rfl
theorem s160_135 : jx_Go jxP d 160 135 [l0, l1, l2, l3, l4, l5, l6, l7] st h Q ↔ jx_Go jxP d 160 144 [l0, l1, l2, l3, l4, l5, l6, l7] st h Q := jg_go rfl
theorem s160_138 : jx_Go jxP d 160 138 [.ref a, l1, l2, l3, l4, l5, l6, l7] st h Q ↔ jx_Go jxP d 160 139 [.ref a, l1, l2, l3, l4, l5, l6, l7] (.ref a :: st) h Q := jg_al rfl rfl
theorem s160_139 : jx_Go jxP d 160 139 [l0, l1, l2, l3, l4, l5, l6, l7] (.ref a :: st) h Q ↔ ∃ v, jx_fl h a 12 17 = some v ∧ jx_Go jxP d 160 142 [l0, l1, l2, l3, l4, l5, l6, l7] (v :: st) h Q := jg_gf rfl
theorem s160_142 : jx_Go jxP d 160 142 [l0, .int x, l2, l3, l4, l5, l6, l7] st h Q ↔ jx_Go jxP d 160 143 [l0, .int x, l2, l3, l4, l5, l6, l7] (.int x :: st) h Q := jg_il rfl rfl
theorem s160_143 : jx_Go jxP d 160 143 [l0, l1, l2, l3, l4, l5, l6, l7] (.int x :: .ref a :: st) h Q ↔ ∃ q, jx_ai h a = some q ∧ jx_in x q.1 ∧ jx_Go jxP d 160 144 [l0, l1, l2, l3, l4, l5, l6, l7] (.int (q.2 x.toNatClampNeg) :: st) h Q := jg_ia rfl
theorem s160_144 : jx_Go jxP d 160 144 [l0, l1, l2, l3, l4, l5, l6, l7] (.int y :: .int x :: .ref a :: st) h Q ↔ ∃ q, jx_ai h a = some q ∧ jx_in x q.1 ∧ jx_Go jxP d 160 145 [l0, l1, l2, l3, l4, l5, l6, l7] st (jx_wi h a q.1 (upd q.2 x.toNatClampNeg y)) Q := jg_iw rfl
theorem s160_145 : jx_Go jxP d 160 145 [l0, l1, l2, l3, l4, l5, l6, l7] [] h Q ↔ Q [] h := jx_rt rfl rfl
-- 161 TalkBenchModel.areSets
theorem s161_0 : jx_Go jxP d 161 0 [l0, .int x, l2] st h Q ↔ jx_Go jxP d 161 1 [l0, .int x, l2] (.int x :: st) h Q := jg_il rfl rfl
theorem s161_1 : jx_Go jxP d 161 1 [l0, l1, l2] (.int x :: st) h Q ↔ if x ≤ 0 then jx_Go jxP d 161 32 [l0, l1, l2] st h Q else jx_Go jxP d 161 4 [l0, l1, l2] st h Q := jg_ifP rfl rfl
theorem s161_4 : jx_Go jxP d 161 4 [l0, .int x, l2] st h Q ↔ jx_Go jxP d 161 5 [l0, .int x, l2] (.int x :: st) h Q := jg_il rfl rfl
theorem s161_5 : jx_Go jxP d 161 5 [l0, l1, l2] st h Q ↔ jx_Go jxP d 161 6 [l0, l1, l2] (.int (nI 1) :: st) h Q := jg_c rfl
theorem s161_6 : jx_Go jxP d 161 6 [.ref a, l1, l2] st h Q ↔ jx_Go jxP d 161 7 [.ref a, l1, l2] (.ref a :: st) h Q := jg_al rfl rfl
theorem s161_7 : jx_Go jxP d 161 7 [l0, l1, l2] (.ref a :: st) h Q ↔ ∃ v, jx_fl h a 12 0 = some v ∧ jx_Go jxP d 161 10 [l0, l1, l2] (v :: st) h Q := jg_gf rfl
theorem s161_10 : jx_Go jxP d 161 10 [l0, l1, l2] (.int y :: .int x :: st) h Q ↔ jx_Go jxP d 161 11 [l0, l1, l2] (.int (x <<< (y &&& 31)) :: st) h Q := jg_b (f := fun x y => x <<< (y &&& 31)) rfl
theorem s161_11 : jx_Go jxP d 161 11 [l0, l1, l2] (.int y :: .int x :: st) h Q ↔ if y ≤ x then jx_Go jxP d 161 32 [l0, l1, l2] st h Q else jx_Go jxP d 161 14 [l0, l1, l2] st h Q := jg_icP rfl rfl
theorem s161_14 : jx_Go jxP d 161 14 [l0, l1, .int x] st h Q ↔ jx_Go jxP d 161 15 [l0, l1, .int x] (.int x :: st) h Q := jg_il rfl rfl
theorem s161_15 : jx_Go jxP d 161 15 [l0, l1, l2] (.int x :: st) h Q ↔ if x ≤ 0 then jx_Go jxP d 161 32 [l0, l1, l2] st h Q else jx_Go jxP d 161 18 [l0, l1, l2] st h Q := jg_ifP rfl rfl
theorem s161_18 : jx_Go jxP d 161 18 [l0, l1, .int x] st h Q ↔ jx_Go jxP d 161 19 [l0, l1, .int x] (.int x :: st) h Q := jg_il rfl rfl
theorem s161_19 : jx_Go jxP d 161 19 [l0, l1, l2] st h Q ↔ jx_Go jxP d 161 20 [l0, l1, l2] (.int (nI 1) :: st) h Q := jg_c rfl
theorem s161_20 : jx_Go jxP d 161 20 [.ref a, l1, l2] st h Q ↔ jx_Go jxP d 161 21 [.ref a, l1, l2] (.ref a :: st) h Q := jg_al rfl rfl
theorem s161_21 : jx_Go jxP d 161 21 [l0, l1, l2] (.ref a :: st) h Q ↔ ∃ v, jx_fl h a 12 1 = some v ∧ jx_Go jxP d 161 24 [l0, l1, l2] (v :: st) h Q := jg_gf rfl
theorem s161_24 : jx_Go jxP d 161 24 [l0, l1, l2] (.int y :: .int x :: st) h Q ↔ jx_Go jxP d 161 25 [l0, l1, l2] (.int (x <<< (y &&& 31)) :: st) h Q := jg_b (f := fun x y => x <<< (y &&& 31)) rfl
theorem s161_25 : jx_Go jxP d 161 25 [l0, l1, l2] (.int y :: .int x :: st) h Q ↔ if y ≤ x then jx_Go jxP d 161 32 [l0, l1, l2] st h Q else jx_Go jxP d 161 28 [l0, l1, l2] st h Q := jg_icP rfl rfl
theorem s161_28 : jx_Go jxP d 161 28 [l0, l1, l2] st h Q ↔ jx_Go jxP d 161 29 [l0, l1, l2] (.int (nI 1) :: st) h Q := jg_c rfl
theorem s161_29 : jx_Go jxP d 161 29 [l0, l1, l2] st h Q ↔ jx_Go jxP d 161 33 [l0, l1, l2] st h Q := jg_go rfl
theorem s161_32 : jx_Go jxP d 161 32 [l0, l1, l2] st h Q ↔ jx_Go jxP d 161 33 [l0, l1, l2] (.int (nI 0) :: st) h Q := jg_c rfl
theorem s161_33b0 : jx_Go jxP d 161 33 [l0, l1, l2] [.int (nI 0)] h Q ↔ Q [.int (nI 0)] h := jx_rt rfl rfl
theorem s161_33b1 : jx_Go jxP d 161 33 [l0, l1, l2] [.int (nI 1)] h Q ↔ Q [.int (nI 1)] h := jx_rt rfl rfl
-- 162 TalkBenchModel.bits
theorem s162_0 : jx_Go jxP d 162 0 [.ref a, l1, l2] st h Q ↔ jx_Go jxP d 162 1 [.ref a, l1, l2] (.ref a :: st) h Q := jg_al rfl rfl
theorem s162_1 : jx_Go jxP d 162 1 [l0, .int x, l2] st h Q ↔ jx_Go jxP d 162 2 [l0, .int x, l2] (.int x :: st) h Q := jg_il rfl rfl
theorem s162_2 : jx_Go jxP d 162 2 [l0, l1, .int x] st h Q ↔ jx_Go jxP d 162 3 [l0, l1, .int x] (.int x :: st) h Q := jg_il rfl rfl
theorem s162_3 : jx_Go jxP (d + 1) 162 3 [l0, l1, l2] (.int x1 :: .int x0 :: .ref a :: st) h Q ↔ (st.length ≤ 4 ∧ jx_cl h a = some 12 ∧ jx_Go jxP d 161 0 [.ref a, .int x0, .int x1] [] h (fun s1 h1 => jx_Go jxP (d + 1) 162 6 [l0, l1, l2] (s1 ++ st) h1 Q)) := jg_callV (as := [.int x1, .int x0, .ref a]) rfl rfl rfl rfl rfl
theorem s162_6 : jx_Go jxP d 162 6 [l0, l1, l2] (.int x :: st) h Q ↔ if x = 0 then jx_Go jxP d 162 9 [l0, l1, l2] st h Q else jx_Go jxP d 162 15 [l0, l1, l2] st h Q := jg_ifN rfl rfl
theorem s162_9 : jx_Go jxP d 162 9 [.ref a, l1, l2] st h Q ↔ jx_Go jxP d 162 10 [.ref a, l1, l2] (.ref a :: st) h Q := jg_al rfl rfl
theorem s162_10 : jx_Go jxP d 162 10 [l0, l1, l2] st h Q ↔ jx_Go jxP d 162 11 [l0, l1, l2] (.int (-1) :: st) h Q := jg_c rfl
theorem s162_11 : jx_Go jxP (d + 1) 162 11 [l0, l1, l2] (.int x0 :: .ref a :: st) h Q ↔ (st.length ≤ 4 ∧ jx_cl h a = some 12 ∧ jx_Go jxP d 130 0 [.ref a, .int x0] [] h (fun s1 h1 => jx_Go jxP (d + 1) 162 14 [l0, l1, l2] (s1 ++ st) h1 Q)) := jg_callV (as := [.int x0, .ref a]) rfl rfl rfl rfl rfl
theorem s162_14 : jx_Go jxP d 162 14 [l0, l1, l2] [.int x] h Q ↔ Q [.int x] h := jx_rt rfl rfl
theorem s162_15 : jx_Go jxP d 162 15 [.ref a, l1, l2] st h Q ↔ jx_Go jxP d 162 16 [.ref a, l1, l2] (.ref a :: st) h Q := jg_al rfl rfl
theorem s162_16 : jx_Go jxP (d + 1) 162 16 [l0, l1, l2] (.ref a :: st) h Q ↔ (st.length ≤ 4 ∧ jx_cl h a = some 12 ∧ jx_Go jxP d 158 0 [.ref a, jx_u, jx_u, jx_u] [] h (fun s1 h1 => jx_Go jxP (d + 1) 162 19 [l0, l1, l2] (s1 ++ st) h1 Q)) := jg_callV (as := [.ref a]) rfl rfl rfl rfl rfl
theorem s162_19 : jx_Go jxP d 162 19 [.ref a, l1, l2] st h Q ↔ jx_Go jxP d 162 20 [.ref a, l1, l2] (.ref a :: st) h Q := jg_al rfl rfl
theorem s162_20 : jx_Go jxP d 162 20 [l0, l1, l2] (.ref a :: st) h Q ↔ ∃ v, jx_fl h a 12 16 = some v ∧ jx_Go jxP d 162 23 [l0, l1, l2] (v :: st) h Q := jg_gf rfl
theorem s162_23 : jx_Go jxP d 162 23 [l0, l1, l2] st h Q ↔ jx_Go jxP d 162 25 [l0, l1, l2] (.int (nI 32) :: st) h Q := jg_c rfl
theorem s162_25 : jx_Go jxP d 162 25 [l0, .int x, l2] st h Q ↔ jx_Go jxP d 162 26 [l0, .int x, l2] (.int x :: st) h Q := jg_il rfl rfl
theorem s162_26 : jx_Go jxP d 162 26 [l0, l1, l2] (.int y :: .int x :: st) h Q ↔ jx_Go jxP d 162 27 [l0, l1, l2] (.int (x * y) :: st) h Q := jg_b (f := fun x y => x * y) rfl
theorem s162_27 : jx_Go jxP d 162 27 [l0, l1, .int x] st h Q ↔ jx_Go jxP d 162 28 [l0, l1, .int x] (.int x :: st) h Q := jg_il rfl rfl
theorem s162_28 : jx_Go jxP d 162 28 [l0, l1, l2] (.int y :: .int x :: st) h Q ↔ jx_Go jxP d 162 29 [l0, l1, l2] (.int (x + y) :: st) h Q := jg_b (f := fun x y => x + y) rfl
theorem s162_29 : jx_Go jxP d 162 29 [l0, l1, l2] (.int x :: .ref a :: st) h Q ↔ ∃ q, jx_ai h a = some q ∧ jx_in x q.1 ∧ jx_Go jxP d 162 30 [l0, l1, l2] (.int (q.2 x.toNatClampNeg) :: st) h Q := jg_ia rfl
theorem s162_30 : jx_Go jxP d 162 30 [l0, l1, l2] [.int x] h Q ↔ Q [.int x] h := jx_rt rfl rfl
-- 163 TalkBenchModel.ends
theorem s163_0 : jx_Go jxP d 163 0 [.ref a, l1, l2] st h Q ↔ jx_Go jxP d 163 1 [.ref a, l1, l2] (.ref a :: st) h Q := jg_al rfl rfl
theorem s163_1 : jx_Go jxP d 163 1 [l0, .int x, l2] st h Q ↔ jx_Go jxP d 163 2 [l0, .int x, l2] (.int x :: st) h Q := jg_il rfl rfl
theorem s163_2 : jx_Go jxP d 163 2 [l0, l1, .int x] st h Q ↔ jx_Go jxP d 163 3 [l0, l1, .int x] (.int x :: st) h Q := jg_il rfl rfl
theorem s163_3 : jx_Go jxP (d + 1) 163 3 [l0, l1, l2] (.int x1 :: .int x0 :: .ref a :: st) h Q ↔ (st.length ≤ 4 ∧ jx_cl h a = some 12 ∧ jx_Go jxP d 161 0 [.ref a, .int x0, .int x1] [] h (fun s1 h1 => jx_Go jxP (d + 1) 163 6 [l0, l1, l2] (s1 ++ st) h1 Q)) := jg_callV (as := [.int x1, .int x0, .ref a]) rfl rfl rfl rfl rfl
theorem s163_6 : jx_Go jxP d 163 6 [l0, l1, l2] (.int x :: st) h Q ↔ if x = 0 then jx_Go jxP d 163 9 [l0, l1, l2] st h Q else jx_Go jxP d 163 15 [l0, l1, l2] st h Q := jg_ifN rfl rfl
theorem s163_9 : jx_Go jxP d 163 9 [.ref a, l1, l2] st h Q ↔ jx_Go jxP d 163 10 [.ref a, l1, l2] (.ref a :: st) h Q := jg_al rfl rfl
theorem s163_10 : jx_Go jxP d 163 10 [l0, l1, l2] st h Q ↔ jx_Go jxP d 163 11 [l0, l1, l2] (.int (-1) :: st) h Q := jg_c rfl
theorem s163_11 : jx_Go jxP (d + 1) 163 11 [l0, l1, l2] (.int x0 :: .ref a :: st) h Q ↔ (st.length ≤ 4 ∧ jx_cl h a = some 12 ∧ jx_Go jxP d 130 0 [.ref a, .int x0] [] h (fun s1 h1 => jx_Go jxP (d + 1) 163 14 [l0, l1, l2] (s1 ++ st) h1 Q)) := jg_callV (as := [.int x0, .ref a]) rfl rfl rfl rfl rfl
theorem s163_14 : jx_Go jxP d 163 14 [l0, l1, l2] [.int x] h Q ↔ Q [.int x] h := jx_rt rfl rfl
theorem s163_15 : jx_Go jxP d 163 15 [.ref a, l1, l2] st h Q ↔ jx_Go jxP d 163 16 [.ref a, l1, l2] (.ref a :: st) h Q := jg_al rfl rfl
theorem s163_16 : jx_Go jxP (d + 1) 163 16 [l0, l1, l2] (.ref a :: st) h Q ↔ (st.length ≤ 4 ∧ jx_cl h a = some 12 ∧ jx_Go jxP d 158 0 [.ref a, jx_u, jx_u, jx_u] [] h (fun s1 h1 => jx_Go jxP (d + 1) 163 19 [l0, l1, l2] (s1 ++ st) h1 Q)) := jg_callV (as := [.ref a]) rfl rfl rfl rfl rfl
theorem s163_19 : jx_Go jxP d 163 19 [.ref a, l1, l2] st h Q ↔ jx_Go jxP d 163 20 [.ref a, l1, l2] (.ref a :: st) h Q := jg_al rfl rfl
theorem s163_20 : jx_Go jxP d 163 20 [l0, l1, l2] (.ref a :: st) h Q ↔ ∃ v, jx_fl h a 12 17 = some v ∧ jx_Go jxP d 163 23 [l0, l1, l2] (v :: st) h Q := jg_gf rfl
theorem s163_23 : jx_Go jxP d 163 23 [l0, l1, l2] st h Q ↔ jx_Go jxP d 163 25 [l0, l1, l2] (.int (nI 32) :: st) h Q := jg_c rfl
theorem s163_25 : jx_Go jxP d 163 25 [l0, .int x, l2] st h Q ↔ jx_Go jxP d 163 26 [l0, .int x, l2] (.int x :: st) h Q := jg_il rfl rfl
theorem s163_26 : jx_Go jxP d 163 26 [l0, l1, l2] (.int y :: .int x :: st) h Q ↔ jx_Go jxP d 163 27 [l0, l1, l2] (.int (x * y) :: st) h Q := jg_b (f := fun x y => x * y) rfl
theorem s163_27 : jx_Go jxP d 163 27 [l0, l1, .int x] st h Q ↔ jx_Go jxP d 163 28 [l0, l1, .int x] (.int x :: st) h Q := jg_il rfl rfl
theorem s163_28 : jx_Go jxP d 163 28 [l0, l1, l2] (.int y :: .int x :: st) h Q ↔ jx_Go jxP d 163 29 [l0, l1, l2] (.int (x + y) :: st) h Q := jg_b (f := fun x y => x + y) rfl
theorem s163_29 : jx_Go jxP d 163 29 [l0, l1, l2] (.int x :: .ref a :: st) h Q ↔ ∃ q, jx_ai h a = some q ∧ jx_in x q.1 ∧ jx_Go jxP d 163 30 [l0, l1, l2] (.int (q.2 x.toNatClampNeg) :: st) h Q := jg_ia rfl
theorem s163_30 : jx_Go jxP d 163 30 [l0, l1, l2] [.int x] h Q ↔ Q [.int x] h := jx_rt rfl rfl
-- 164 TalkBenchModel.reaches
theorem s164_0 : jx_Go jxP d 164 0 [l0, .int x, l2, l3, l4, l5] st h Q ↔ jx_Go jxP d 164 1 [l0, .int x, l2, l3, l4, l5] (.int x :: st) h Q := jg_il rfl rfl
theorem s164_1 : jx_Go jxP d 164 1 [l0, l1, .int x, l3, l4, l5] st h Q ↔ jx_Go jxP d 164 2 [l0, l1, .int x, l3, l4, l5] (.int x :: st) h Q := jg_il rfl rfl
theorem s164_2 : jx_Go jxP d 164 2 [l0, l1, l2, l3, l4, l5] (.int y :: .int x :: st) h Q ↔ jx_Go jxP d 164 3 [l0, l1, l2, l3, l4, l5] (.int (x ^^^ y) :: st) h Q := jg_b (f := fun x y => x ^^^ y) rfl
theorem s164_3 : jx_Go jxP d 164 3 [l0, l1, l2, l3, l4, l5] (.int x :: st) h Q ↔ jx_Go jxP d 164 4 [l0, l1, l2, .int x, l4, l5] st h Q := jg_is rfl rfl
theorem s164_4 : jx_Go jxP d 164 4 [l0, l1, .int x, l3, l4, l5] st h Q ↔ jx_Go jxP d 164 5 [l0, l1, .int x, l3, l4, l5] (.int x :: st) h Q := jg_il rfl rfl
theorem s164_5 : jx_Go jxP d 164 5 [l0, l1, l2, l3, l4, l5] st h Q ↔ jx_Go jxP d 164 7 [l0, l1, l2, l3, l4, l5] (.int (nI 32) :: st) h Q := jg_c rfl
theorem s164_7 : jx_Go jxP d 164 7 [l0, l1, l2, l3, l4, l5] (.int y :: .int x :: st) h Q ↔ if y ≤ x then jx_Go jxP d 164 19 [l0, l1, l2, l3, l4, l5] st h Q else jx_Go jxP d 164 10 [l0, l1, l2, l3, l4, l5] st h Q := jg_icP rfl rfl
theorem s164_10 : jx_Go jxP d 164 10 [l0, .int x, l2, l3, l4, l5] st h Q ↔ jx_Go jxP d 164 11 [l0, .int x, l2, l3, l4, l5] (.int x :: st) h Q := jg_il rfl rfl
theorem s164_11 : jx_Go jxP d 164 11 [l0, l1, l2, l3, l4, l5] st h Q ↔ jx_Go jxP d 164 13 [l0, l1, l2, l3, l4, l5] (.int (-32) :: st) h Q := jg_c rfl
theorem s164_13 : jx_Go jxP d 164 13 [l0, l1, l2, l3, l4, l5] (.int y :: .int x :: st) h Q ↔ jx_Go jxP d 164 14 [l0, l1, l2, l3, l4, l5] (.int (x &&& y) :: st) h Q := jg_b (f := fun x y => x &&& y) rfl
theorem s164_14 : jx_Go jxP d 164 14 [l0, l1, .int x, l3, l4, l5] st h Q ↔ jx_Go jxP d 164 15 [l0, l1, .int x, l3, l4, l5] (.int x :: st) h Q := jg_il rfl rfl
theorem s164_15 : jx_Go jxP d 164 15 [l0, l1, l2, l3, l4, l5] (.int y :: .int x :: st) h Q ↔ jx_Go jxP d 164 16 [l0, l1, l2, l3, l4, l5] (.int (x ||| y) :: st) h Q := jg_b (f := fun x y => x ||| y) rfl
theorem s164_16 : jx_Go jxP d 164 16 [l0, l1, l2, l3, l4, l5] st h Q ↔ jx_Go jxP d 164 25 [l0, l1, l2, l3, l4, l5] st h Q := jg_go rfl
theorem s164_19 : jx_Go jxP d 164 19 [l0, l1, .int x, l3, l4, l5] st h Q ↔ jx_Go jxP d 164 20 [l0, l1, .int x, l3, l4, l5] (.int x :: st) h Q := jg_il rfl rfl
theorem s164_20 : jx_Go jxP d 164 20 [l0, .int x, l2, l3, l4, l5] st h Q ↔ jx_Go jxP d 164 21 [l0, .int x, l2, l3, l4, l5] (.int x :: st) h Q := jg_il rfl rfl
theorem s164_21 : jx_Go jxP d 164 21 [l0, l1, l2, l3, l4, l5] st h Q ↔ jx_Go jxP d 164 23 [l0, l1, l2, l3, l4, l5] (.int (nI 31) :: st) h Q := jg_c rfl
theorem s164_23 : jx_Go jxP d 164 23 [l0, l1, l2, l3, l4, l5] (.int y :: .int x :: st) h Q ↔ jx_Go jxP d 164 24 [l0, l1, l2, l3, l4, l5] (.int (x &&& y) :: st) h Q := jg_b (f := fun x y => x &&& y) rfl
theorem s164_24 : jx_Go jxP d 164 24 [l0, l1, l2, l3, l4, l5] (.int y :: .int x :: st) h Q ↔ jx_Go jxP d 164 25 [l0, l1, l2, l3, l4, l5] (.int (x ||| y) :: st) h Q := jg_b (f := fun x y => x ||| y) rfl
theorem s164_25 : jx_Go jxP d 164 25 [l0, l1, l2, l3, l4, l5] (.int x :: st) h Q ↔ jx_Go jxP d 164 27 [l0, l1, l2, l3, .int x, l5] st h Q := jg_is rfl rfl
theorem s164_27 : jx_Go jxP d 164 27 [.ref a, l1, l2, l3, l4, l5] st h Q ↔ jx_Go jxP d 164 28 [.ref a, l1, l2, l3, l4, l5] (.ref a :: st) h Q := jg_al rfl rfl
theorem s164_28 : jx_Go jxP d 164 28 [l0, l1, l2, l3, l4, l5] (.ref a :: st) h Q ↔ ∃ v, jx_fl h a 12 16 = some v ∧ jx_Go jxP d 164 31 [l0, l1, l2, l3, l4, l5] (v :: st) h Q := jg_gf rfl
theorem s164_31 : jx_Go jxP d 164 31 [l0, l1, l2, .int x, l4, l5] st h Q ↔ jx_Go jxP d 164 32 [l0, l1, l2, .int x, l4, l5] (.int x :: st) h Q := jg_il rfl rfl
theorem s164_32 : jx_Go jxP d 164 32 [l0, l1, l2, l3, l4, l5] (.int x :: .ref a :: st) h Q ↔ ∃ q, jx_ai h a = some q ∧ jx_in x q.1 ∧ jx_Go jxP d 164 33 [l0, l1, l2, l3, l4, l5] (.int (q.2 x.toNatClampNeg) :: st) h Q := jg_ia rfl
theorem s164_33 : jx_Go jxP d 164 33 [.ref a, l1, l2, l3, l4, l5] st h Q ↔ jx_Go jxP d 164 34 [.ref a, l1, l2, l3, l4, l5] (.ref a :: st) h Q := jg_al rfl rfl
theorem s164_34 : jx_Go jxP d 164 34 [l0, l1, l2, l3, l4, l5] (.ref a :: st) h Q ↔ ∃ v, jx_fl h a 12 16 = some v ∧ jx_Go jxP d 164 37 [l0, l1, l2, l3, l4, l5] (v :: st) h Q := jg_gf rfl
theorem s164_37 : jx_Go jxP d 164 37 [l0, l1, l2, l3, .int x, l5] st h Q ↔ jx_Go jxP d 164 39 [l0, l1, l2, l3, .int x, l5] (.int x :: st) h Q := jg_il rfl rfl
theorem s164_39 : jx_Go jxP d 164 39 [l0, l1, l2, l3, l4, l5] (.int x :: .ref a :: st) h Q ↔ ∃ q, jx_ai h a = some q ∧ jx_in x q.1 ∧ jx_Go jxP d 164 40 [l0, l1, l2, l3, l4, l5] (.int (q.2 x.toNatClampNeg) :: st) h Q := jg_ia rfl
theorem s164_40 : jx_Go jxP d 164 40 [l0, l1, l2, l3, l4, l5] (.int y :: .int x :: st) h Q ↔ if x ≤ y then jx_Go jxP d 164 52 [l0, l1, l2, l3, l4, l5] st h Q else jx_Go jxP d 164 43 [l0, l1, l2, l3, l4, l5] st h Q := jg_icP rfl rfl
theorem s164_43 : jx_Go jxP d 164 43 [.ref a, l1, l2, l3, l4, l5] st h Q ↔ jx_Go jxP d 164 44 [.ref a, l1, l2, l3, l4, l5] (.ref a :: st) h Q := jg_al rfl rfl
theorem s164_44 : jx_Go jxP d 164 44 [l0, l1, l2, l3, l4, l5] (.ref a :: st) h Q ↔ ∃ v, jx_fl h a 12 16 = some v ∧ jx_Go jxP d 164 47 [l0, l1, l2, l3, l4, l5] (v :: st) h Q := jg_gf rfl
theorem s164_47 : jx_Go jxP d 164 47 [l0, l1, l2, .int x, l4, l5] st h Q ↔ jx_Go jxP d 164 48 [l0, l1, l2, .int x, l4, l5] (.int x :: st) h Q := jg_il rfl rfl
theorem s164_48 : jx_Go jxP d 164 48 [l0, l1, l2, l3, l4, l5] (.int x :: .ref a :: st) h Q ↔ ∃ q, jx_ai h a = some q ∧ jx_in x q.1 ∧ jx_Go jxP d 164 49 [l0, l1, l2, l3, l4, l5] (.int (q.2 x.toNatClampNeg) :: st) h Q := jg_ia rfl
theorem s164_49 : jx_Go jxP d 164 49 [l0, l1, l2, l3, l4, l5] st h Q ↔ jx_Go jxP d 164 59 [l0, l1, l2, l3, l4, l5] st h Q := jg_go rfl
theorem s164_52 : jx_Go jxP d 164 52 [.ref a, l1, l2, l3, l4, l5] st h Q ↔ jx_Go jxP d 164 53 [.ref a, l1, l2, l3, l4, l5] (.ref a :: st) h Q := jg_al rfl rfl
theorem s164_53 : jx_Go jxP d 164 53 [l0, l1, l2, l3, l4, l5] (.ref a :: st) h Q ↔ ∃ v, jx_fl h a 12 16 = some v ∧ jx_Go jxP d 164 56 [l0, l1, l2, l3, l4, l5] (v :: st) h Q := jg_gf rfl
theorem s164_56 : jx_Go jxP d 164 56 [l0, l1, l2, l3, .int x, l5] st h Q ↔ jx_Go jxP d 164 58 [l0, l1, l2, l3, .int x, l5] (.int x :: st) h Q := jg_il rfl rfl
theorem s164_58 : jx_Go jxP d 164 58 [l0, l1, l2, l3, l4, l5] (.int x :: .ref a :: st) h Q ↔ ∃ q, jx_ai h a = some q ∧ jx_in x q.1 ∧ jx_Go jxP d 164 59 [l0, l1, l2, l3, l4, l5] (.int (q.2 x.toNatClampNeg) :: st) h Q := jg_ia rfl
theorem s164_59 : jx_Go jxP d 164 59 [l0, l1, l2, l3, l4, l5] (.int x :: st) h Q ↔ jx_Go jxP d 164 61 [l0, l1, l2, l3, l4, .int x] st h Q := jg_is rfl rfl
theorem s164_61 : jx_Go jxP d 164 61 [l0, l1, l2, l3, l4, .int x] st h Q ↔ jx_Go jxP d 164 63 [l0, l1, l2, l3, l4, .int x] (.int x :: st) h Q := jg_il rfl rfl
theorem s164_63 : jx_Go jxP d 164 63 [l0, l1, l2, l3, l4, l5] st h Q ↔ jx_Go jxP d 164 64 [l0, l1, l2, l3, l4, l5] (.int (nI 1) :: st) h Q := jg_c rfl
theorem s164_64 : jx_Go jxP d 164 64 [l0, l1, l2, l3, l4, l5] (.int y :: .int x :: st) h Q ↔ jx_Go jxP d 164 65 [l0, l1, l2, l3, l4, l5] (.int (x + y) :: st) h Q := jg_b (f := fun x y => x + y) rfl
theorem s164_65 : jx_Go jxP d 164 65 [.ref a, l1, l2, l3, l4, l5] st h Q ↔ jx_Go jxP d 164 66 [.ref a, l1, l2, l3, l4, l5] (.ref a :: st) h Q := jg_al rfl rfl
theorem s164_66 : jx_Go jxP d 164 66 [l0, l1, l2, l3, l4, l5] (.ref a :: st) h Q ↔ ∃ v, jx_fl h a 12 16 = some v ∧ jx_Go jxP d 164 69 [l0, l1, l2, l3, l4, l5] (v :: st) h Q := jg_gf rfl
theorem s164_69 : jx_Go jxP d 164 69 [l0, .int x, l2, l3, l4, l5] st h Q ↔ jx_Go jxP d 164 70 [l0, .int x, l2, l3, l4, l5] (.int x :: st) h Q := jg_il rfl rfl
theorem s164_70 : jx_Go jxP d 164 70 [l0, l1, l2, l3, l4, l5] (.int x :: .ref a :: st) h Q ↔ ∃ q, jx_ai h a = some q ∧ jx_in x q.1 ∧ jx_Go jxP d 164 71 [l0, l1, l2, l3, l4, l5] (.int (q.2 x.toNatClampNeg) :: st) h Q := jg_ia rfl
theorem s164_71 : jx_Go jxP d 164 71 [l0, l1, l2, l3, l4, l5] (.int y :: .int x :: st) h Q ↔ if x = y then jx_Go jxP d 164 74 [l0, l1, l2, l3, l4, l5] st h Q else jx_Go jxP d 164 78 [l0, l1, l2, l3, l4, l5] st h Q := jg_icN rfl rfl
theorem s164_74 : jx_Go jxP d 164 74 [l0, l1, l2, l3, l4, l5] st h Q ↔ jx_Go jxP d 164 75 [l0, l1, l2, l3, l4, l5] (.int (nI 1) :: st) h Q := jg_c rfl
theorem s164_75 : jx_Go jxP d 164 75 [l0, l1, l2, l3, l4, l5] st h Q ↔ jx_Go jxP d 164 79 [l0, l1, l2, l3, l4, l5] st h Q := jg_go rfl
theorem s164_78 : jx_Go jxP d 164 78 [l0, l1, l2, l3, l4, l5] st h Q ↔ jx_Go jxP d 164 79 [l0, l1, l2, l3, l4, l5] (.int (nI 0) :: st) h Q := jg_c rfl
theorem s164_79b0 : jx_Go jxP d 164 79 [l0, l1, l2, l3, l4, l5] [.int (nI 0)] h Q ↔ Q [.int (nI 0)] h := jx_rt rfl rfl
theorem s164_79b1 : jx_Go jxP d 164 79 [l0, l1, l2, l3, l4, l5] [.int (nI 1)] h Q ↔ Q [.int (nI 1)] h := jx_rt rfl rfl
-- 165 TalkBenchModel.parting
theorem s165_0 : jx_Go jxP d 165 0 [l0, l1, l2] st h Q ↔ jx_Go jxP d 165 1 [l0, l1, l2] (.int (nI 1) :: st) h Q := jg_c rfl
theorem s165_1 : jx_Go jxP d 165 1 [l0, l1, l2] (.int x :: st) h Q ↔ jx_Go jxP d 165 2 [l0, l1, .int x] st h Q := jg_is rfl rfl
theorem s165_2 : jx_Go jxP d 165 2 [l0, l1, .int x] st h Q ↔ jx_Go jxP d 165 3 [l0, l1, .int x] (.int x :: st) h Q := jg_il rfl rfl
theorem s165_3 : jx_Go jxP d 165 3 [l0, l1, l2] st h Q ↔ jx_Go jxP d 165 5 [l0, l1, l2] (.int (nI 32) :: st) h Q := jg_c rfl
theorem s165_5 : jx_Go jxP d 165 5 [l0, l1, l2] (.int y :: .int x :: st) h Q ↔ if y ≤ x then jx_Go jxP d 165 39 [l0, l1, l2] st h Q else jx_Go jxP d 165 8 [l0, l1, l2] st h Q := jg_icP rfl rfl
theorem s165_8 : jx_Go jxP d 165 8 [.ref a, l1, l2] st h Q ↔ jx_Go jxP d 165 9 [.ref a, l1, l2] (.ref a :: st) h Q := jg_al rfl rfl
theorem s165_9 : jx_Go jxP d 165 9 [l0, .int x, l2] st h Q ↔ jx_Go jxP d 165 10 [l0, .int x, l2] (.int x :: st) h Q := jg_il rfl rfl
theorem s165_10 : jx_Go jxP d 165 10 [l0, l1, .int x] st h Q ↔ jx_Go jxP d 165 11 [l0, l1, .int x] (.int x :: st) h Q := jg_il rfl rfl
theorem s165_11 : jx_Go jxP d 165 11 [l0, l1, l2] st h Q ↔ jx_Go jxP d 165 12 [l0, l1, l2] (.int (nI 1) :: st) h Q := jg_c rfl
theorem s165_12 : jx_Go jxP (d + 1) 165 12 [l0, l1, l2] (.int x2 :: .int x1 :: .int x0 :: .ref a :: st) h Q ↔ (st.length ≤ 4 ∧ jx_cl h a = some 12 ∧ jx_Go jxP d 159 0 [.ref a, .int x0, .int x1, .int x2, jx_u] [] h (fun s1 h1 => jx_Go jxP (d + 1) 165 15 [l0, l1, l2] (s1 ++ st) h1 Q)) := jg_callV (as := [.int x2, .int x1, .int x0, .ref a]) rfl rfl rfl rfl rfl
theorem s165_15 : jx_Go jxP d 165 15 [l0, l1, l2] (.int x :: st) h Q ↔ if x = 0 then jx_Go jxP d 165 33 [l0, l1, l2] st h Q else jx_Go jxP d 165 18 [l0, l1, l2] st h Q := jg_ifP rfl rfl
theorem s165_18 : jx_Go jxP d 165 18 [.ref a, l1, l2] st h Q ↔ jx_Go jxP d 165 19 [.ref a, l1, l2] (.ref a :: st) h Q := jg_al rfl rfl
theorem s165_19 : jx_Go jxP d 165 19 [l0, .int x, l2] st h Q ↔ jx_Go jxP d 165 20 [l0, .int x, l2] (.int x :: st) h Q := jg_il rfl rfl
theorem s165_20 : jx_Go jxP d 165 20 [l0, l1, .int x] st h Q ↔ jx_Go jxP d 165 21 [l0, l1, .int x] (.int x :: st) h Q := jg_il rfl rfl
theorem s165_21 : jx_Go jxP d 165 21 [l0, l1, l2] st h Q ↔ jx_Go jxP d 165 22 [l0, l1, l2] (.int (nI 5) :: st) h Q := jg_c rfl
theorem s165_22 : jx_Go jxP d 165 22 [l0, l1, l2] (.int y :: .int x :: st) h Q ↔ jx_Go jxP d 165 23 [l0, l1, l2] (.int (x <<< (y &&& 31)) :: st) h Q := jg_b (f := fun x y => x <<< (y &&& 31)) rfl
theorem s165_23 : jx_Go jxP (d + 1) 165 23 [l0, l1, l2] (.int x1 :: .int x0 :: .ref a :: st) h Q ↔ (st.length ≤ 4 ∧ jx_cl h a = some 12 ∧ jx_Go jxP d 164 0 [.ref a, .int x0, .int x1, jx_u, jx_u, jx_u] [] h (fun s1 h1 => jx_Go jxP (d + 1) 165 26 [l0, l1, l2] (s1 ++ st) h1 Q)) := jg_callV (as := [.int x1, .int x0, .ref a]) rfl rfl rfl rfl rfl
theorem s165_26 : jx_Go jxP d 165 26 [l0, l1, l2] (.int x :: st) h Q ↔ if x = 0 then jx_Go jxP d 165 33 [l0, l1, l2] st h Q else jx_Go jxP d 165 29 [l0, l1, l2] st h Q := jg_ifP rfl rfl
theorem s165_29 : jx_Go jxP d 165 29 [l0, l1, .int x] st h Q ↔ jx_Go jxP d 165 30 [l0, l1, .int x] (.int x :: st) h Q := jg_il rfl rfl
theorem s165_30 : jx_Go jxP d 165 30 [l0, l1, l2] st h Q ↔ jx_Go jxP d 165 31 [l0, l1, l2] (.int (nI 5) :: st) h Q := jg_c rfl
theorem s165_31 : jx_Go jxP d 165 31 [l0, l1, l2] (.int y :: .int x :: st) h Q ↔ jx_Go jxP d 165 32 [l0, l1, l2] (.int (x <<< (y &&& 31)) :: st) h Q := jg_b (f := fun x y => x <<< (y &&& 31)) rfl
theorem s165_32 : jx_Go jxP d 165 32 [l0, l1, l2] [.int x] h Q ↔ Q [.int x] h := jx_rt rfl rfl
theorem s165_33 : jx_Go jxP d 165 33 [l0, l1, .int x] st h Q ↔ jx_Go jxP d 165 36 [l0, l1, .int (x + (nI 1))] st h Q := jg_inc rfl rfl rfl
theorem s165_36 : jx_Go jxP d 165 36 [l0, l1, l2] st h Q ↔ jx_Go jxP d 165 2 [l0, l1, l2] st h Q := jg_go rfl
theorem s165_39 : jx_Go jxP d 165 39 [l0, l1, l2] st h Q ↔ jx_Go jxP d 165 40 [l0, l1, l2] (.int (nI 1) :: st) h Q := jg_c rfl
theorem s165_40 : jx_Go jxP d 165 40 [l0, l1, l2] (.int x :: st) h Q ↔ jx_Go jxP d 165 41 [l0, l1, .int x] st h Q := jg_is rfl rfl
theorem s165_41 : jx_Go jxP d 165 41 [.ref a, l1, l2] st h Q ↔ jx_Go jxP d 165 42 [.ref a, l1, l2] (.ref a :: st) h Q := jg_al rfl rfl
theorem s165_42 : jx_Go jxP d 165 42 [l0, .int x, l2] st h Q ↔ jx_Go jxP d 165 43 [l0, .int x, l2] (.int x :: st) h Q := jg_il rfl rfl
theorem s165_43 : jx_Go jxP d 165 43 [l0, l1, .int x] st h Q ↔ jx_Go jxP d 165 44 [l0, l1, .int x] (.int x :: st) h Q := jg_il rfl rfl
theorem s165_44 : jx_Go jxP d 165 44 [l0, l1, l2] st h Q ↔ jx_Go jxP d 165 45 [l0, l1, l2] (.int (nI 0) :: st) h Q := jg_c rfl
theorem s165_45 : jx_Go jxP (d + 1) 165 45 [l0, l1, l2] (.int x2 :: .int x1 :: .int x0 :: .ref a :: st) h Q ↔ (st.length ≤ 4 ∧ jx_cl h a = some 12 ∧ jx_Go jxP d 159 0 [.ref a, .int x0, .int x1, .int x2, jx_u] [] h (fun s1 h1 => jx_Go jxP (d + 1) 165 48 [l0, l1, l2] (s1 ++ st) h1 Q)) := jg_callV (as := [.int x2, .int x1, .int x0, .ref a]) rfl rfl rfl rfl rfl
theorem s165_48 : jx_Go jxP d 165 48 [l0, l1, l2] (.int x :: st) h Q ↔ if x = 0 then jx_Go jxP d 165 60 [l0, l1, l2] st h Q else jx_Go jxP d 165 51 [l0, l1, l2] st h Q := jg_ifP rfl rfl
theorem s165_51 : jx_Go jxP d 165 51 [.ref a, l1, l2] st h Q ↔ jx_Go jxP d 165 52 [.ref a, l1, l2] (.ref a :: st) h Q := jg_al rfl rfl
theorem s165_52 : jx_Go jxP d 165 52 [l0, .int x, l2] st h Q ↔ jx_Go jxP d 165 53 [l0, .int x, l2] (.int x :: st) h Q := jg_il rfl rfl
theorem s165_53 : jx_Go jxP d 165 53 [l0, l1, .int x] st h Q ↔ jx_Go jxP d 165 54 [l0, l1, .int x] (.int x :: st) h Q := jg_il rfl rfl
theorem s165_54 : jx_Go jxP (d + 1) 165 54 [l0, l1, l2] (.int x1 :: .int x0 :: .ref a :: st) h Q ↔ (st.length ≤ 4 ∧ jx_cl h a = some 12 ∧ jx_Go jxP d 164 0 [.ref a, .int x0, .int x1, jx_u, jx_u, jx_u] [] h (fun s1 h1 => jx_Go jxP (d + 1) 165 57 [l0, l1, l2] (s1 ++ st) h1 Q)) := jg_callV (as := [.int x1, .int x0, .ref a]) rfl rfl rfl rfl rfl
theorem s165_57 : jx_Go jxP d 165 57 [l0, l1, l2] (.int x :: st) h Q ↔ if x = 0 then jx_Go jxP d 165 60 [l0, l1, l2] st h Q else jx_Go jxP d 165 66 [l0, l1, l2] st h Q := jg_ifN rfl rfl
theorem s165_60 : jx_Go jxP d 165 60 [l0, l1, .int x] st h Q ↔ jx_Go jxP d 165 63 [l0, l1, .int (x + (nI 1))] st h Q := jg_inc rfl rfl rfl
theorem s165_63 : jx_Go jxP d 165 63 [l0, l1, l2] st h Q ↔ jx_Go jxP d 165 41 [l0, l1, l2] st h Q := jg_go rfl
theorem s165_66 : jx_Go jxP d 165 66 [l0, l1, .int x] st h Q ↔ jx_Go jxP d 165 67 [l0, l1, .int x] (.int x :: st) h Q := jg_il rfl rfl
theorem s165_67 : jx_Go jxP d 165 67 [l0, l1, l2] [.int x] h Q ↔ Q [.int x] h := jx_rt rfl rfl
-- 166 TalkBenchModel.talk
theorem s166_0 : jx_Go jxP d 166 0 [.ref a, l1, l2, l3, l4, l5] st h Q ↔ jx_Go jxP d 166 1 [.ref a, l1, l2, l3, l4, l5] (.ref a :: st) h Q := jg_al rfl rfl
theorem s166_1 : jx_Go jxP (d + 1) 166 1 [l0, l1, l2, l3, l4, l5] (.ref a :: st) h Q ↔ (st.length ≤ 4 ∧ jx_cl h a = some 12 ∧ jx_Go jxP d 158 0 [.ref a, jx_u, jx_u, jx_u] [] h (fun s1 h1 => jx_Go jxP (d + 1) 166 4 [l0, l1, l2, l3, l4, l5] (s1 ++ st) h1 Q)) := jg_callV (as := [.ref a]) rfl rfl rfl rfl rfl
theorem s166_4 : jx_Go jxP d 166 4 [.ref a, l1, l2, l3, l4, l5] st h Q ↔ jx_Go jxP d 166 5 [.ref a, l1, l2, l3, l4, l5] (.ref a :: st) h Q := jg_al rfl rfl
theorem s166_5 : jx_Go jxP d 166 5 [l0, l1, l2, l3, l4, l5] st h Q ↔ jx_Go jxP d 166 6 [l0, l1, l2, l3, l4, l5] (.int (nI 0) :: st) h Q := jg_c rfl
theorem s166_6 : jx_Go jxP d 166 6 [l0, l1, l2, l3, l4, l5] (.int x :: .ref a :: st) h Q ↔ ∃ v, jx_fl h a 12 14 = some v ∧ jx_Go jxP d 166 9 [l0, l1, l2, l3, l4, l5] st (jx_uf h a 14 (.int x)) Q := jg_pfI rfl
theorem s166_9 : jx_Go jxP d 166 9 [l0, l1, l2, l3, l4, l5] st h Q ↔ jx_Go jxP d 166 10 [l0, l1, l2, l3, l4, l5] (.int (nI 1) :: st) h Q := jg_c rfl
theorem s166_10 : jx_Go jxP d 166 10 [l0, l1, l2, l3, l4, l5] (.int x :: st) h Q ↔ jx_Go jxP d 166 11 [l0, .int x, l2, l3, l4, l5] st h Q := jg_is rfl rfl
theorem s166_11 : jx_Go jxP d 166 11 [.ref a, l1, l2, l3, l4, l5] st h Q ↔ jx_Go jxP d 166 12 [.ref a, l1, l2, l3, l4, l5] (.ref a :: st) h Q := jg_al rfl rfl
theorem s166_12 : jx_Go jxP d 166 12 [l0, l1, l2, l3, l4, l5] (.ref a :: st) h Q ↔ ∃ v, jx_fl h a 12 24 = some v ∧ jx_Go jxP d 166 15 [l0, l1, l2, l3, l4, l5] (v :: st) h Q := jg_gf rfl
theorem s166_15 : jx_Go jxP d 166 15 [l0, l1, l2, l3, l4, l5] st h Q ↔ jx_Go jxP d 166 16 [l0, l1, l2, l3, l4, l5] (.int (nI 0) :: st) h Q := jg_c rfl
theorem s166_16 : jx_Go jxP d 166 16 [.ref a, l1, l2, l3, l4, l5] st h Q ↔ jx_Go jxP d 166 17 [.ref a, l1, l2, l3, l4, l5] (.ref a :: st) h Q := jg_al rfl rfl
theorem s166_17 : jx_Go jxP (d + 1) 166 17 [l0, l1, l2, l3, l4, l5] (.ref a :: st) h Q ↔ (st.length ≤ 4 ∧ jx_cl h a = some 12 ∧ jx_Go jxP d 154 0 [.ref a] [] h (fun s1 h1 => jx_Go jxP (d + 1) 166 20 [l0, l1, l2, l3, l4, l5] (s1 ++ st) h1 Q)) := jg_callV (as := [.ref a]) rfl rfl rfl rfl rfl
theorem s166_20 : jx_Go jxP d 166 20 [l0, l1, l2, l3, l4, l5] (.int y :: .int x :: .ref a :: st) h Q ↔ ∃ q, jx_ai h a = some q ∧ jx_in x q.1 ∧ jx_Go jxP d 166 21 [l0, l1, l2, l3, l4, l5] st (jx_wi h a q.1 (upd q.2 x.toNatClampNeg y)) Q := jg_iw rfl
theorem s166_21 : jx_Go jxP d 166 21 [.ref a, l1, l2, l3, l4, l5] st h Q ↔ jx_Go jxP d 166 22 [.ref a, l1, l2, l3, l4, l5] (.ref a :: st) h Q := jg_al rfl rfl
theorem s166_22 : jx_Go jxP d 166 22 [l0, l1, l2, l3, l4, l5] (.ref a :: st) h Q ↔ ∃ v, jx_fl h a 12 25 = some v ∧ jx_Go jxP d 166 25 [l0, l1, l2, l3, l4, l5] (v :: st) h Q := jg_gf rfl
theorem s166_25 : jx_Go jxP d 166 25 [l0, l1, l2, l3, l4, l5] st h Q ↔ jx_Go jxP d 166 26 [l0, l1, l2, l3, l4, l5] (.int (nI 0) :: st) h Q := jg_c rfl
theorem s166_26 : jx_Go jxP d 166 26 [l0, l1, l2, l3, l4, l5] st h Q ↔ jx_Go jxP d 166 27 [l0, l1, l2, l3, l4, l5] (.int (-1) :: st) h Q := jg_c rfl
theorem s166_27 : jx_Go jxP d 166 27 [l0, l1, l2, l3, l4, l5] (.int y :: .int x :: .ref a :: st) h Q ↔ ∃ q, jx_ai h a = some q ∧ jx_in x q.1 ∧ jx_Go jxP d 166 28 [l0, l1, l2, l3, l4, l5] st (jx_wi h a q.1 (upd q.2 x.toNatClampNeg y)) Q := jg_iw rfl
theorem s166_28 : jx_Go jxP d 166 28 [l0, .int x, l2, l3, l4, l5] st h Q ↔ jx_Go jxP d 166 29 [l0, .int x, l2, l3, l4, l5] (.int x :: st) h Q := jg_il rfl rfl
theorem s166_29 : jx_Go jxP d 166 29 [l0, l1, l2, l3, l4, l5] (.int x :: st) h Q ↔ if x ≤ 0 then jx_Go jxP d 166 290 [l0, l1, l2, l3, l4, l5] st h Q else jx_Go jxP d 166 32 [l0, l1, l2, l3, l4, l5] st h Q := jg_ifP rfl rfl
theorem s166_32 : jx_Go jxP d 166 32 [l0, .int x, l2, l3, l4, l5] st h Q ↔ jx_Go jxP d 166 35 [l0, .int (x + (-1)), l2, l3, l4, l5] st h Q := jg_inc rfl rfl rfl
theorem s166_35 : jx_Go jxP d 166 35 [.ref a, l1, l2, l3, l4, l5] st h Q ↔ jx_Go jxP d 166 36 [.ref a, l1, l2, l3, l4, l5] (.ref a :: st) h Q := jg_al rfl rfl
theorem s166_36 : jx_Go jxP d 166 36 [l0, l1, l2, l3, l4, l5] (.ref a :: st) h Q ↔ ∃ v, jx_fl h a 12 24 = some v ∧ jx_Go jxP d 166 39 [l0, l1, l2, l3, l4, l5] (v :: st) h Q := jg_gf rfl
theorem s166_39 : jx_Go jxP d 166 39 [l0, .int x, l2, l3, l4, l5] st h Q ↔ jx_Go jxP d 166 40 [l0, .int x, l2, l3, l4, l5] (.int x :: st) h Q := jg_il rfl rfl
theorem s166_40 : jx_Go jxP d 166 40 [l0, l1, l2, l3, l4, l5] (.int x :: .ref a :: st) h Q ↔ ∃ q, jx_ai h a = some q ∧ jx_in x q.1 ∧ jx_Go jxP d 166 41 [l0, l1, l2, l3, l4, l5] (.int (q.2 x.toNatClampNeg) :: st) h Q := jg_ia rfl
theorem s166_41 : jx_Go jxP d 166 41 [l0, l1, l2, l3, l4, l5] (.int x :: st) h Q ↔ jx_Go jxP d 166 42 [l0, l1, .int x, l3, l4, l5] st h Q := jg_is rfl rfl
theorem s166_42 : jx_Go jxP d 166 42 [.ref a, l1, l2, l3, l4, l5] st h Q ↔ jx_Go jxP d 166 43 [.ref a, l1, l2, l3, l4, l5] (.ref a :: st) h Q := jg_al rfl rfl
theorem s166_43 : jx_Go jxP d 166 43 [l0, l1, l2, l3, l4, l5] (.ref a :: st) h Q ↔ ∃ v, jx_fl h a 12 25 = some v ∧ jx_Go jxP d 166 46 [l0, l1, l2, l3, l4, l5] (v :: st) h Q := jg_gf rfl
theorem s166_46 : jx_Go jxP d 166 46 [l0, .int x, l2, l3, l4, l5] st h Q ↔ jx_Go jxP d 166 47 [l0, .int x, l2, l3, l4, l5] (.int x :: st) h Q := jg_il rfl rfl
theorem s166_47 : jx_Go jxP d 166 47 [l0, l1, l2, l3, l4, l5] (.int x :: .ref a :: st) h Q ↔ ∃ q, jx_ai h a = some q ∧ jx_in x q.1 ∧ jx_Go jxP d 166 48 [l0, l1, l2, l3, l4, l5] (.int (q.2 x.toNatClampNeg) :: st) h Q := jg_ia rfl
theorem s166_48 : jx_Go jxP d 166 48 [l0, l1, l2, l3, l4, l5] (.int x :: st) h Q ↔ jx_Go jxP d 166 49 [l0, l1, l2, .int x, l4, l5] st h Q := jg_is rfl rfl
theorem s166_49 : jx_Go jxP d 166 49 [.ref a, l1, l2, l3, l4, l5] st h Q ↔ jx_Go jxP d 166 50 [.ref a, l1, l2, l3, l4, l5] (.ref a :: st) h Q := jg_al rfl rfl
theorem s166_50 : jx_Go jxP d 166 50 [l0, l1, l2, l3, l4, l5] (.ref a :: st) h Q ↔ ∃ v, jx_fl h a 12 14 = some v ∧ jx_Go jxP d 166 53 [l0, l1, l2, l3, l4, l5] (v :: st) h Q := jg_gf rfl
theorem s166_53 : jx_Go jxP d 166 53 [l0, l1, l2, l3, l4, l5] (.int x :: st) h Q ↔ jx_Go jxP d 166 55 [l0, l1, l2, l3, .int x, l5] st h Q := jg_is rfl rfl
theorem s166_55 : jx_Go jxP d 166 55 [.ref a, l1, l2, l3, l4, l5] st h Q ↔ jx_Go jxP d 166 56 [.ref a, l1, l2, l3, l4, l5] (.ref a :: st) h Q := jg_al rfl rfl
theorem s166_56i : jx_Go jxP d 166 56 [l0, l1, l2, l3, l4, l5] (.int x :: st) h Q ↔ jx_Go jxP d 166 57 [l0, l1, l2, l3, l4, l5] (.int x :: .int x :: st) h Q := jg_dI rfl
theorem s166_56r : jx_Go jxP d 166 56 [l0, l1, l2, l3, l4, l5] (.ref a :: st) h Q ↔ jx_Go jxP d 166 57 [l0, l1, l2, l3, l4, l5] (.ref a :: .ref a :: st) h Q := jg_dR rfl
theorem s166_57 : jx_Go jxP d 166 57 [l0, l1, l2, l3, l4, l5] (.ref a :: st) h Q ↔ ∃ v, jx_fl h a 12 14 = some v ∧ jx_Go jxP d 166 60 [l0, l1, l2, l3, l4, l5] (v :: st) h Q := jg_gf rfl
theorem s166_60 : jx_Go jxP d 166 60 [l0, l1, l2, l3, l4, l5] st h Q ↔ jx_Go jxP d 166 61 [l0, l1, l2, l3, l4, l5] (.int (nI 1) :: st) h Q := jg_c rfl
theorem s166_61 : jx_Go jxP d 166 61 [l0, l1, l2, l3, l4, l5] (.int y :: .int x :: st) h Q ↔ jx_Go jxP d 166 62 [l0, l1, l2, l3, l4, l5] (.int (x + y) :: st) h Q := jg_b (f := fun x y => x + y) rfl
theorem s166_62 : jx_Go jxP d 166 62 [l0, l1, l2, l3, l4, l5] (.int x :: .ref a :: st) h Q ↔ ∃ v, jx_fl h a 12 14 = some v ∧ jx_Go jxP d 166 65 [l0, l1, l2, l3, l4, l5] st (jx_uf h a 14 (.int x)) Q := jg_pfI rfl
theorem s166_65 : jx_Go jxP d 166 65 [.ref a, l1, l2, l3, l4, l5] st h Q ↔ jx_Go jxP d 166 66 [.ref a, l1, l2, l3, l4, l5] (.ref a :: st) h Q := jg_al rfl rfl
theorem s166_66 : jx_Go jxP d 166 66 [l0, l1, l2, l3, l4, l5] (.ref a :: st) h Q ↔ ∃ v, jx_fl h a 12 18 = some v ∧ jx_Go jxP d 166 69 [l0, l1, l2, l3, l4, l5] (v :: st) h Q := jg_gf rfl
theorem s166_69 : jx_Go jxP d 166 69 [l0, l1, l2, l3, .int x, l5] st h Q ↔ jx_Go jxP d 166 71 [l0, l1, l2, l3, .int x, l5] (.int x :: st) h Q := jg_il rfl rfl
theorem s166_71 : jx_Go jxP d 166 71 [l0, l1, .int x, l3, l4, l5] st h Q ↔ jx_Go jxP d 166 72 [l0, l1, .int x, l3, l4, l5] (.int x :: st) h Q := jg_il rfl rfl
theorem s166_72 : jx_Go jxP d 166 72 [l0, l1, l2, l3, l4, l5] (.int y :: .int x :: .ref a :: st) h Q ↔ ∃ q, jx_ai h a = some q ∧ jx_in x q.1 ∧ jx_Go jxP d 166 73 [l0, l1, l2, l3, l4, l5] st (jx_wi h a q.1 (upd q.2 x.toNatClampNeg y)) Q := jg_iw rfl
theorem s166_73 : jx_Go jxP d 166 73 [.ref a, l1, l2, l3, l4, l5] st h Q ↔ jx_Go jxP d 166 74 [.ref a, l1, l2, l3, l4, l5] (.ref a :: st) h Q := jg_al rfl rfl
theorem s166_74 : jx_Go jxP d 166 74 [l0, l1, l2, l3, l4, l5] (.ref a :: st) h Q ↔ ∃ v, jx_fl h a 12 22 = some v ∧ jx_Go jxP d 166 77 [l0, l1, l2, l3, l4, l5] (v :: st) h Q := jg_gf rfl
theorem s166_77 : jx_Go jxP d 166 77 [l0, l1, l2, l3, .int x, l5] st h Q ↔ jx_Go jxP d 166 79 [l0, l1, l2, l3, .int x, l5] (.int x :: st) h Q := jg_il rfl rfl
theorem s166_79 : jx_Go jxP d 166 79 [l0, l1, l2, .int x, l4, l5] st h Q ↔ jx_Go jxP d 166 80 [l0, l1, l2, .int x, l4, l5] (.int x :: st) h Q := jg_il rfl rfl
theorem s166_80 : jx_Go jxP d 166 80 [l0, l1, l2, l3, l4, l5] (.int x :: st) h Q ↔ if 0 ≤ x then jx_Go jxP d 166 87 [l0, l1, l2, l3, l4, l5] st h Q else jx_Go jxP d 166 83 [l0, l1, l2, l3, l4, l5] st h Q := jg_ifP rfl rfl
theorem s166_83 : jx_Go jxP d 166 83 [l0, l1, l2, l3, l4, l5] st h Q ↔ jx_Go jxP d 166 84 [l0, l1, l2, l3, l4, l5] (.int (nI 0) :: st) h Q := jg_c rfl
theorem s166_84 : jx_Go jxP d 166 84 [l0, l1, l2, l3, l4, l5] st h Q ↔ jx_Go jxP d 166 95 [l0, l1, l2, l3, l4, l5] st h Q := jg_go rfl
theorem s166_87 : jx_Go jxP d 166 87 [.ref a, l1, l2, l3, l4, l5] st h Q ↔ jx_Go jxP d 166 88 [.ref a, l1, l2, l3, l4, l5] (.ref a :: st) h Q := jg_al rfl rfl
theorem s166_88 : jx_Go jxP d 166 88 [l0, l1, l2, l3, l4, l5] (.ref a :: st) h Q ↔ ∃ v, jx_fl h a 12 22 = some v ∧ jx_Go jxP d 166 91 [l0, l1, l2, l3, l4, l5] (v :: st) h Q := jg_gf rfl
theorem s166_91 : jx_Go jxP d 166 91 [l0, l1, l2, .int x, l4, l5] st h Q ↔ jx_Go jxP d 166 92 [l0, l1, l2, .int x, l4, l5] (.int x :: st) h Q := jg_il rfl rfl
theorem s166_92 : jx_Go jxP d 166 92 [l0, l1, l2, l3, l4, l5] (.int x :: .ref a :: st) h Q ↔ ∃ q, jx_ai h a = some q ∧ jx_in x q.1 ∧ jx_Go jxP d 166 93 [l0, l1, l2, l3, l4, l5] (.int (q.2 x.toNatClampNeg) :: st) h Q := jg_ia rfl
theorem s166_93 : jx_Go jxP d 166 93 [l0, l1, l2, l3, l4, l5] st h Q ↔ jx_Go jxP d 166 94 [l0, l1, l2, l3, l4, l5] (.int (nI 1) :: st) h Q := jg_c rfl
theorem s166_94 : jx_Go jxP d 166 94 [l0, l1, l2, l3, l4, l5] (.int y :: .int x :: st) h Q ↔ jx_Go jxP d 166 95 [l0, l1, l2, l3, l4, l5] (.int (x + y) :: st) h Q := jg_b (f := fun x y => x + y) rfl
theorem s166_95 : jx_Go jxP d 166 95 [l0, l1, l2, l3, l4, l5] (.int y :: .int x :: .ref a :: st) h Q ↔ ∃ q, jx_ai h a = some q ∧ jx_in x q.1 ∧ jx_Go jxP d 166 96 [l0, l1, l2, l3, l4, l5] st (jx_wi h a q.1 (upd q.2 x.toNatClampNeg y)) Q := jg_iw rfl
theorem s166_96 : jx_Go jxP d 166 96 [l0, l1, l2, .int x, l4, l5] st h Q ↔ jx_Go jxP d 166 97 [l0, l1, l2, .int x, l4, l5] (.int x :: st) h Q := jg_il rfl rfl
theorem s166_97 : jx_Go jxP d 166 97 [l0, l1, l2, l3, l4, l5] (.int x :: st) h Q ↔ if x < 0 then jx_Go jxP d 166 120 [l0, l1, l2, l3, l4, l5] st h Q else jx_Go jxP d 166 100 [l0, l1, l2, l3, l4, l5] st h Q := jg_ifP rfl rfl
theorem s166_100 : jx_Go jxP d 166 100 [.ref a, l1, l2, l3, l4, l5] st h Q ↔ jx_Go jxP d 166 101 [.ref a, l1, l2, l3, l4, l5] (.ref a :: st) h Q := jg_al rfl rfl
theorem s166_101 : jx_Go jxP d 166 101 [l0, l1, l2, l3, l4, l5] (.ref a :: st) h Q ↔ ∃ v, jx_fl h a 12 20 = some v ∧ jx_Go jxP d 166 104 [l0, l1, l2, l3, l4, l5] (v :: st) h Q := jg_gf rfl
theorem s166_104 : jx_Go jxP d 166 104 [l0, l1, l2, .int x, l4, l5] st h Q ↔ jx_Go jxP d 166 105 [l0, l1, l2, .int x, l4, l5] (.int x :: st) h Q := jg_il rfl rfl
theorem s166_105 : jx_Go jxP d 166 105 [l0, l1, l2, l3, l4, l5] (.int x :: .ref a :: st) h Q ↔ ∃ q, jx_ai h a = some q ∧ jx_in x q.1 ∧ jx_Go jxP d 166 106 [l0, l1, l2, l3, l4, l5] (.int (q.2 x.toNatClampNeg) :: st) h Q := jg_ia rfl
theorem s166_106 : jx_Go jxP d 166 106 [l0, l1, l2, l3, l4, l5] (.int x :: st) h Q ↔ if 0 ≤ x then jx_Go jxP d 166 120 [l0, l1, l2, l3, l4, l5] st h Q else jx_Go jxP d 166 109 [l0, l1, l2, l3, l4, l5] st h Q := jg_ifP rfl rfl
theorem s166_109 : jx_Go jxP d 166 109 [.ref a, l1, l2, l3, l4, l5] st h Q ↔ jx_Go jxP d 166 110 [.ref a, l1, l2, l3, l4, l5] (.ref a :: st) h Q := jg_al rfl rfl
theorem s166_110 : jx_Go jxP d 166 110 [l0, l1, l2, l3, l4, l5] (.ref a :: st) h Q ↔ ∃ v, jx_fl h a 12 20 = some v ∧ jx_Go jxP d 166 113 [l0, l1, l2, l3, l4, l5] (v :: st) h Q := jg_gf rfl
theorem s166_113 : jx_Go jxP d 166 113 [l0, l1, l2, .int x, l4, l5] st h Q ↔ jx_Go jxP d 166 114 [l0, l1, l2, .int x, l4, l5] (.int x :: st) h Q := jg_il rfl rfl
theorem s166_114 : jx_Go jxP d 166 114 [l0, l1, l2, l3, .int x, l5] st h Q ↔ jx_Go jxP d 166 116 [l0, l1, l2, l3, .int x, l5] (.int x :: st) h Q := jg_il rfl rfl
theorem s166_116 : jx_Go jxP d 166 116 [l0, l1, l2, l3, l4, l5] (.int y :: .int x :: .ref a :: st) h Q ↔ ∃ q, jx_ai h a = some q ∧ jx_in x q.1 ∧ jx_Go jxP d 166 117 [l0, l1, l2, l3, l4, l5] st (jx_wi h a q.1 (upd q.2 x.toNatClampNeg y)) Q := jg_iw rfl
theorem s166_117 : jx_Go jxP d 166 117 [l0, l1, l2, l3, l4, l5] st h Q ↔ jx_Go jxP d 166 132 [l0, l1, l2, l3, l4, l5] st h Q := jg_go rfl
theorem s166_120 : jx_Go jxP d 166 120 [l0, l1, l2, .int x, l4, l5] st h Q ↔ jx_Go jxP d 166 121 [l0, l1, l2, .int x, l4, l5] (.int x :: st) h Q := jg_il rfl rfl
theorem s166_121 : jx_Go jxP d 166 121 [l0, l1, l2, l3, l4, l5] (.int x :: st) h Q ↔ if x < 0 then jx_Go jxP d 166 132 [l0, l1, l2, l3, l4, l5] st h Q else jx_Go jxP d 166 124 [l0, l1, l2, l3, l4, l5] st h Q := jg_ifP rfl rfl
theorem s166_124 : jx_Go jxP d 166 124 [.ref a, l1, l2, l3, l4, l5] st h Q ↔ jx_Go jxP d 166 125 [.ref a, l1, l2, l3, l4, l5] (.ref a :: st) h Q := jg_al rfl rfl
theorem s166_125 : jx_Go jxP d 166 125 [l0, l1, l2, l3, l4, l5] (.ref a :: st) h Q ↔ ∃ v, jx_fl h a 12 21 = some v ∧ jx_Go jxP d 166 128 [l0, l1, l2, l3, l4, l5] (v :: st) h Q := jg_gf rfl
theorem s166_128 : jx_Go jxP d 166 128 [l0, l1, l2, .int x, l4, l5] st h Q ↔ jx_Go jxP d 166 129 [l0, l1, l2, .int x, l4, l5] (.int x :: st) h Q := jg_il rfl rfl
theorem s166_129 : jx_Go jxP d 166 129 [l0, l1, l2, l3, .int x, l5] st h Q ↔ jx_Go jxP d 166 131 [l0, l1, l2, l3, .int x, l5] (.int x :: st) h Q := jg_il rfl rfl
theorem s166_131 : jx_Go jxP d 166 131 [l0, l1, l2, l3, l4, l5] (.int y :: .int x :: .ref a :: st) h Q ↔ ∃ q, jx_ai h a = some q ∧ jx_in x q.1 ∧ jx_Go jxP d 166 132 [l0, l1, l2, l3, l4, l5] st (jx_wi h a q.1 (upd q.2 x.toNatClampNeg y)) Q := jg_iw rfl
theorem s166_132 : jx_Go jxP d 166 132 [.ref a, l1, l2, l3, l4, l5] st h Q ↔ jx_Go jxP d 166 133 [.ref a, l1, l2, l3, l4, l5] (.ref a :: st) h Q := jg_al rfl rfl
theorem s166_133 : jx_Go jxP d 166 133 [l0, l1, .int x, l3, l4, l5] st h Q ↔ jx_Go jxP d 166 134 [l0, l1, .int x, l3, l4, l5] (.int x :: st) h Q := jg_il rfl rfl
theorem s166_134 : jx_Go jxP (d + 1) 166 134 [l0, l1, l2, l3, l4, l5] (.int x0 :: .ref a :: st) h Q ↔ (st.length ≤ 4 ∧ jx_cl h a = some 12 ∧ jx_Go jxP d 156 0 [.ref a, .int x0] [] h (fun s1 h1 => jx_Go jxP (d + 1) 166 137 [l0, l1, l2, l3, l4, l5] (s1 ++ st) h1 Q)) := jg_callV (as := [.int x0, .ref a]) rfl rfl rfl rfl rfl
theorem s166_137 : jx_Go jxP d 166 137 [l0, l1, l2, l3, l4, l5] (.int x :: st) h Q ↔ if x = 0 then jx_Go jxP d 166 181 [l0, l1, l2, l3, l4, l5] st h Q else jx_Go jxP d 166 140 [l0, l1, l2, l3, l4, l5] st h Q := jg_ifP rfl rfl
theorem s166_140 : jx_Go jxP d 166 140 [.ref a, l1, l2, l3, l4, l5] st h Q ↔ jx_Go jxP d 166 141 [.ref a, l1, l2, l3, l4, l5] (.ref a :: st) h Q := jg_al rfl rfl
theorem s166_141 : jx_Go jxP d 166 141 [l0, l1, l2, l3, l4, l5] (.ref a :: st) h Q ↔ ∃ v, jx_fl h a 12 19 = some v ∧ jx_Go jxP d 166 144 [l0, l1, l2, l3, l4, l5] (v :: st) h Q := jg_gf rfl
theorem s166_144 : jx_Go jxP d 166 144 [l0, l1, l2, l3, .int x, l5] st h Q ↔ jx_Go jxP d 166 146 [l0, l1, l2, l3, .int x, l5] (.int x :: st) h Q := jg_il rfl rfl
theorem s166_146 : jx_Go jxP d 166 146 [l0, l1, l2, l3, l4, l5] st h Q ↔ jx_Go jxP d 166 147 [l0, l1, l2, l3, l4, l5] (.int (nI 2) :: st) h Q := jg_c rfl
theorem s166_147 : jx_Go jxP d 166 147 [l0, l1, l2, l3, l4, l5] (.int y :: .int x :: .ref a :: st) h Q ↔ ∃ q, jx_ai h a = some q ∧ jx_in x q.1 ∧ jx_Go jxP d 166 148 [l0, l1, l2, l3, l4, l5] st (jx_wi h a q.1 (upd q.2 x.toNatClampNeg y)) Q := jg_iw rfl
theorem s166_148 : jx_Go jxP d 166 148 [.ref a, l1, l2, l3, l4, l5] st h Q ↔ jx_Go jxP d 166 149 [.ref a, l1, l2, l3, l4, l5] (.ref a :: st) h Q := jg_al rfl rfl
theorem s166_149 : jx_Go jxP d 166 149 [l0, l1, l2, l3, l4, l5] (.ref a :: st) h Q ↔ ∃ v, jx_fl h a 12 20 = some v ∧ jx_Go jxP d 166 152 [l0, l1, l2, l3, l4, l5] (v :: st) h Q := jg_gf rfl
theorem s166_152 : jx_Go jxP d 166 152 [l0, l1, l2, l3, .int x, l5] st h Q ↔ jx_Go jxP d 166 154 [l0, l1, l2, l3, .int x, l5] (.int x :: st) h Q := jg_il rfl rfl
theorem s166_154 : jx_Go jxP d 166 154 [.ref a, l1, l2, l3, l4, l5] st h Q ↔ jx_Go jxP d 166 155 [.ref a, l1, l2, l3, l4, l5] (.ref a :: st) h Q := jg_al rfl rfl
theorem s166_155 : jx_Go jxP d 166 155 [l0, l1, .int x, l3, l4, l5] st h Q ↔ jx_Go jxP d 166 156 [l0, l1, .int x, l3, l4, l5] (.int x :: st) h Q := jg_il rfl rfl
theorem s166_156 : jx_Go jxP (d + 1) 166 156 [l0, l1, l2, l3, l4, l5] (.int x0 :: .ref a :: st) h Q ↔ (st.length ≤ 4 ∧ jx_cl h a = some 12 ∧ jx_Go jxP d 155 0 [.ref a, .int x0, jx_u, jx_u, jx_u] [] h (fun s1 h1 => jx_Go jxP (d + 1) 166 159 [l0, l1, l2, l3, l4, l5] (s1 ++ st) h1 Q)) := jg_callV (as := [.int x0, .ref a]) rfl rfl rfl rfl rfl
theorem s166_159 : jx_Go jxP d 166 159 [l0, l1, l2, l3, l4, l5] st h Q ↔ jx_Go jxP d 166 160 [l0, l1, l2, l3, l4, l5] (.int (nI 2) :: st) h Q := jg_c rfl
theorem s166_160 : jx_Go jxP d 166 160 [l0, l1, l2, l3, l4, l5] (.int y :: .int x :: st) h Q ↔ if x = y then jx_Go jxP d 166 163 [l0, l1, l2, l3, l4, l5] st h Q else jx_Go jxP d 166 167 [l0, l1, l2, l3, l4, l5] st h Q := jg_icN rfl rfl
theorem s166_163 : jx_Go jxP d 166 163 [l0, l1, l2, l3, l4, l5] st h Q ↔ jx_Go jxP d 166 164 [l0, l1, l2, l3, l4, l5] (.int (nI 1) :: st) h Q := jg_c rfl
theorem s166_164 : jx_Go jxP d 166 164 [l0, l1, l2, l3, l4, l5] st h Q ↔ jx_Go jxP d 166 168 [l0, l1, l2, l3, l4, l5] st h Q := jg_go rfl
theorem s166_167 : jx_Go jxP d 166 167 [l0, l1, l2, l3, l4, l5] st h Q ↔ jx_Go jxP d 166 168 [l0, l1, l2, l3, l4, l5] (.int (nI 0) :: st) h Q := jg_c rfl
theorem s166_168 : jx_Go jxP d 166 168 [l0, l1, l2, l3, l4, l5] (.int y :: .int x :: .ref a :: st) h Q ↔ ∃ q, jx_ai h a = some q ∧ jx_in x q.1 ∧ jx_Go jxP d 166 169 [l0, l1, l2, l3, l4, l5] st (jx_wi h a q.1 (upd q.2 x.toNatClampNeg y)) Q := jg_iw rfl
theorem s166_169 : jx_Go jxP d 166 169 [.ref a, l1, l2, l3, l4, l5] st h Q ↔ jx_Go jxP d 166 170 [.ref a, l1, l2, l3, l4, l5] (.ref a :: st) h Q := jg_al rfl rfl
theorem s166_170 : jx_Go jxP d 166 170 [l0, l1, l2, l3, l4, l5] (.ref a :: st) h Q ↔ ∃ v, jx_fl h a 12 21 = some v ∧ jx_Go jxP d 166 173 [l0, l1, l2, l3, l4, l5] (v :: st) h Q := jg_gf rfl
theorem s166_173 : jx_Go jxP d 166 173 [l0, l1, l2, l3, .int x, l5] st h Q ↔ jx_Go jxP d 166 175 [l0, l1, l2, l3, .int x, l5] (.int x :: st) h Q := jg_il rfl rfl
theorem s166_175 : jx_Go jxP d 166 175 [l0, l1, l2, l3, l4, l5] st h Q ↔ jx_Go jxP d 166 177 [l0, l1, l2, l3, l4, l5] (.int (-100) :: st) h Q := jg_c rfl
theorem s166_177 : jx_Go jxP d 166 177 [l0, l1, l2, l3, l4, l5] (.int y :: .int x :: .ref a :: st) h Q ↔ ∃ q, jx_ai h a = some q ∧ jx_in x q.1 ∧ jx_Go jxP d 166 178 [l0, l1, l2, l3, l4, l5] st (jx_wi h a q.1 (upd q.2 x.toNatClampNeg y)) Q := jg_iw rfl
theorem s166_178 : jx_Go jxP d 166 178 [l0, l1, l2, l3, l4, l5] st h Q ↔ jx_Go jxP d 166 28 [l0, l1, l2, l3, l4, l5] st h Q := jg_go rfl
theorem s166_181 : jx_Go jxP d 166 181 [.ref a, l1, l2, l3, l4, l5] st h Q ↔ jx_Go jxP d 166 182 [.ref a, l1, l2, l3, l4, l5] (.ref a :: st) h Q := jg_al rfl rfl
theorem s166_182 : jx_Go jxP d 166 182 [l0, l1, .int x, l3, l4, l5] st h Q ↔ jx_Go jxP d 166 183 [l0, l1, .int x, l3, l4, l5] (.int x :: st) h Q := jg_il rfl rfl
theorem s166_183 : jx_Go jxP (d + 1) 166 183 [l0, l1, l2, l3, l4, l5] (.int x0 :: .ref a :: st) h Q ↔ (st.length ≤ 4 ∧ jx_cl h a = some 12 ∧ jx_Go jxP d 165 0 [.ref a, .int x0, jx_u] [] h (fun s1 h1 => jx_Go jxP (d + 1) 166 186 [l0, l1, l2, l3, l4, l5] (s1 ++ st) h1 Q)) := jg_callV (as := [.int x0, .ref a]) rfl rfl rfl rfl rfl
theorem s166_186 : jx_Go jxP d 166 186 [l0, l1, l2, l3, l4, l5] (.int x :: st) h Q ↔ jx_Go jxP d 166 188 [l0, l1, l2, l3, l4, .int x] st h Q := jg_is rfl rfl
theorem s166_188 : jx_Go jxP d 166 188 [.ref a, l1, l2, l3, l4, l5] st h Q ↔ jx_Go jxP d 166 189 [.ref a, l1, l2, l3, l4, l5] (.ref a :: st) h Q := jg_al rfl rfl
theorem s166_189 : jx_Go jxP d 166 189 [l0, l1, l2, l3, l4, l5] (.ref a :: st) h Q ↔ ∃ v, jx_fl h a 12 19 = some v ∧ jx_Go jxP d 166 192 [l0, l1, l2, l3, l4, l5] (v :: st) h Q := jg_gf rfl
theorem s166_192 : jx_Go jxP d 166 192 [l0, l1, l2, l3, .int x, l5] st h Q ↔ jx_Go jxP d 166 194 [l0, l1, l2, l3, .int x, l5] (.int x :: st) h Q := jg_il rfl rfl
theorem s166_194 : jx_Go jxP d 166 194 [l0, l1, l2, l3, l4, .int x] st h Q ↔ jx_Go jxP d 166 196 [l0, l1, l2, l3, l4, .int x] (.int x :: st) h Q := jg_il rfl rfl
theorem s166_196 : jx_Go jxP d 166 196 [l0, l1, l2, l3, l4, l5] st h Q ↔ jx_Go jxP d 166 198 [l0, l1, l2, l3, l4, l5] (.int (nI 32) :: st) h Q := jg_c rfl
theorem s166_198 : jx_Go jxP d 166 198 [l0, l1, l2, l3, l4, l5] (.int y :: .int x :: st) h Q ↔ if y ≤ x then jx_Go jxP d 166 205 [l0, l1, l2, l3, l4, l5] st h Q else jx_Go jxP d 166 201 [l0, l1, l2, l3, l4, l5] st h Q := jg_icP rfl rfl
theorem s166_201 : jx_Go jxP d 166 201 [l0, l1, l2, l3, l4, l5] st h Q ↔ jx_Go jxP d 166 202 [l0, l1, l2, l3, l4, l5] (.int (nI 1) :: st) h Q := jg_c rfl
theorem s166_202 : jx_Go jxP d 166 202 [l0, l1, l2, l3, l4, l5] st h Q ↔ jx_Go jxP d 166 206 [l0, l1, l2, l3, l4, l5] st h Q := jg_go rfl
theorem s166_205 : jx_Go jxP d 166 205 [l0, l1, l2, l3, l4, l5] st h Q ↔ jx_Go jxP d 166 206 [l0, l1, l2, l3, l4, l5] (.int (nI 0) :: st) h Q := jg_c rfl
theorem s166_206 : jx_Go jxP d 166 206 [l0, l1, l2, l3, l4, l5] (.int y :: .int x :: .ref a :: st) h Q ↔ ∃ q, jx_ai h a = some q ∧ jx_in x q.1 ∧ jx_Go jxP d 166 207 [l0, l1, l2, l3, l4, l5] st (jx_wi h a q.1 (upd q.2 x.toNatClampNeg y)) Q := jg_iw rfl
theorem s166_207 : jx_Go jxP d 166 207 [.ref a, l1, l2, l3, l4, l5] st h Q ↔ jx_Go jxP d 166 208 [.ref a, l1, l2, l3, l4, l5] (.ref a :: st) h Q := jg_al rfl rfl
theorem s166_208 : jx_Go jxP d 166 208 [l0, l1, l2, l3, l4, l5] (.ref a :: st) h Q ↔ ∃ v, jx_fl h a 12 23 = some v ∧ jx_Go jxP d 166 211 [l0, l1, l2, l3, l4, l5] (v :: st) h Q := jg_gf rfl
theorem s166_211 : jx_Go jxP d 166 211 [l0, l1, l2, l3, .int x, l5] st h Q ↔ jx_Go jxP d 166 213 [l0, l1, l2, l3, .int x, l5] (.int x :: st) h Q := jg_il rfl rfl
theorem s166_213 : jx_Go jxP d 166 213 [l0, l1, l2, l3, l4, .int x] st h Q ↔ jx_Go jxP d 166 215 [l0, l1, l2, l3, l4, .int x] (.int x :: st) h Q := jg_il rfl rfl
theorem s166_215 : jx_Go jxP d 166 215 [l0, l1, l2, l3, l4, l5] (.int y :: .int x :: .ref a :: st) h Q ↔ ∃ q, jx_ai h a = some q ∧ jx_in x q.1 ∧ jx_Go jxP d 166 216 [l0, l1, l2, l3, l4, l5] st (jx_wi h a q.1 (upd q.2 x.toNatClampNeg y)) Q := jg_iw rfl
theorem s166_216 : jx_Go jxP d 166 216 [.ref a, l1, l2, l3, l4, l5] st h Q ↔ jx_Go jxP d 166 217 [.ref a, l1, l2, l3, l4, l5] (.ref a :: st) h Q := jg_al rfl rfl
theorem s166_217 : jx_Go jxP d 166 217 [l0, l1, l2, l3, l4, l5] (.ref a :: st) h Q ↔ ∃ v, jx_fl h a 12 20 = some v ∧ jx_Go jxP d 166 220 [l0, l1, l2, l3, l4, l5] (v :: st) h Q := jg_gf rfl
theorem s166_220 : jx_Go jxP d 166 220 [l0, l1, l2, l3, .int x, l5] st h Q ↔ jx_Go jxP d 166 222 [l0, l1, l2, l3, .int x, l5] (.int x :: st) h Q := jg_il rfl rfl
theorem s166_222 : jx_Go jxP d 166 222 [l0, l1, l2, l3, l4, l5] st h Q ↔ jx_Go jxP d 166 223 [l0, l1, l2, l3, l4, l5] (.int (-1) :: st) h Q := jg_c rfl
theorem s166_223 : jx_Go jxP d 166 223 [l0, l1, l2, l3, l4, l5] (.int y :: .int x :: .ref a :: st) h Q ↔ ∃ q, jx_ai h a = some q ∧ jx_in x q.1 ∧ jx_Go jxP d 166 224 [l0, l1, l2, l3, l4, l5] st (jx_wi h a q.1 (upd q.2 x.toNatClampNeg y)) Q := jg_iw rfl
theorem s166_224 : jx_Go jxP d 166 224 [.ref a, l1, l2, l3, l4, l5] st h Q ↔ jx_Go jxP d 166 225 [.ref a, l1, l2, l3, l4, l5] (.ref a :: st) h Q := jg_al rfl rfl
theorem s166_225 : jx_Go jxP d 166 225 [l0, l1, l2, l3, l4, l5] (.ref a :: st) h Q ↔ ∃ v, jx_fl h a 12 24 = some v ∧ jx_Go jxP d 166 228 [l0, l1, l2, l3, l4, l5] (v :: st) h Q := jg_gf rfl
theorem s166_228 : jx_Go jxP d 166 228 [l0, .int x, l2, l3, l4, l5] st h Q ↔ jx_Go jxP d 166 229 [l0, .int x, l2, l3, l4, l5] (.int x :: st) h Q := jg_il rfl rfl
theorem s166_229 : jx_Go jxP d 166 229 [l0, l1, l2, l3, l4, .int x] st h Q ↔ jx_Go jxP d 166 231 [l0, l1, l2, l3, l4, .int x] (.int x :: st) h Q := jg_il rfl rfl
theorem s166_231 : jx_Go jxP d 166 231 [l0, l1, l2, l3, l4, l5] st h Q ↔ jx_Go jxP d 166 233 [l0, l1, l2, l3, l4, l5] (.int (nI 32) :: st) h Q := jg_c rfl
theorem s166_233 : jx_Go jxP d 166 233 [l0, l1, l2, l3, l4, l5] (.int y :: .int x :: st) h Q ↔ if y ≤ x then jx_Go jxP d 166 246 [l0, l1, l2, l3, l4, l5] st h Q else jx_Go jxP d 166 236 [l0, l1, l2, l3, l4, l5] st h Q := jg_icP rfl rfl
theorem s166_236 : jx_Go jxP d 166 236 [l0, l1, .int x, l3, l4, l5] st h Q ↔ jx_Go jxP d 166 237 [l0, l1, .int x, l3, l4, l5] (.int x :: st) h Q := jg_il rfl rfl
theorem s166_237 : jx_Go jxP d 166 237 [l0, l1, l2, l3, l4, l5] st h Q ↔ jx_Go jxP d 166 239 [l0, l1, l2, l3, l4, l5] (.int (-32) :: st) h Q := jg_c rfl
theorem s166_239 : jx_Go jxP d 166 239 [l0, l1, l2, l3, l4, l5] (.int y :: .int x :: st) h Q ↔ jx_Go jxP d 166 240 [l0, l1, l2, l3, l4, l5] (.int (x &&& y) :: st) h Q := jg_b (f := fun x y => x &&& y) rfl
theorem s166_240 : jx_Go jxP d 166 240 [l0, l1, l2, l3, l4, .int x] st h Q ↔ jx_Go jxP d 166 242 [l0, l1, l2, l3, l4, .int x] (.int x :: st) h Q := jg_il rfl rfl
theorem s166_242 : jx_Go jxP d 166 242 [l0, l1, l2, l3, l4, l5] (.int y :: .int x :: st) h Q ↔ jx_Go jxP d 166 243 [l0, l1, l2, l3, l4, l5] (.int (x ||| y) :: st) h Q := jg_b (f := fun x y => x ||| y) rfl
theorem s166_243 : jx_Go jxP d 166 243 [l0, l1, l2, l3, l4, l5] st h Q ↔ jx_Go jxP d 166 253 [l0, l1, l2, l3, l4, l5] st h Q := jg_go rfl
theorem s166_246 : jx_Go jxP d 166 246 [l0, l1, l2, l3, l4, .int x] st h Q ↔ jx_Go jxP d 166 248 [l0, l1, l2, l3, l4, .int x] (.int x :: st) h Q := jg_il rfl rfl
theorem s166_248 : jx_Go jxP d 166 248 [l0, l1, .int x, l3, l4, l5] st h Q ↔ jx_Go jxP d 166 249 [l0, l1, .int x, l3, l4, l5] (.int x :: st) h Q := jg_il rfl rfl
theorem s166_249 : jx_Go jxP d 166 249 [l0, l1, l2, l3, l4, l5] st h Q ↔ jx_Go jxP d 166 251 [l0, l1, l2, l3, l4, l5] (.int (nI 31) :: st) h Q := jg_c rfl
theorem s166_251 : jx_Go jxP d 166 251 [l0, l1, l2, l3, l4, l5] (.int y :: .int x :: st) h Q ↔ jx_Go jxP d 166 252 [l0, l1, l2, l3, l4, l5] (.int (x &&& y) :: st) h Q := jg_b (f := fun x y => x &&& y) rfl
theorem s166_252 : jx_Go jxP d 166 252 [l0, l1, l2, l3, l4, l5] (.int y :: .int x :: st) h Q ↔ jx_Go jxP d 166 253 [l0, l1, l2, l3, l4, l5] (.int (x ||| y) :: st) h Q := jg_b (f := fun x y => x ||| y) rfl
theorem s166_253 : jx_Go jxP d 166 253 [l0, l1, l2, l3, l4, l5] (.int y :: .int x :: .ref a :: st) h Q ↔ ∃ q, jx_ai h a = some q ∧ jx_in x q.1 ∧ jx_Go jxP d 166 254 [l0, l1, l2, l3, l4, l5] st (jx_wi h a q.1 (upd q.2 x.toNatClampNeg y)) Q := jg_iw rfl
theorem s166_254 : jx_Go jxP d 166 254 [.ref a, l1, l2, l3, l4, l5] st h Q ↔ jx_Go jxP d 166 255 [.ref a, l1, l2, l3, l4, l5] (.ref a :: st) h Q := jg_al rfl rfl
theorem s166_255 : jx_Go jxP d 166 255 [l0, l1, l2, l3, l4, l5] (.ref a :: st) h Q ↔ ∃ v, jx_fl h a 12 25 = some v ∧ jx_Go jxP d 166 258 [l0, l1, l2, l3, l4, l5] (v :: st) h Q := jg_gf rfl
theorem s166_258 : jx_Go jxP d 166 258 [l0, .int x, l2, l3, l4, l5] st h Q ↔ jx_Go jxP d 166 259 [l0, .int x, l2, l3, l4, l5] (.int x :: st) h Q := jg_il rfl rfl
theorem s166_259 : jx_Go jxP d 166 259 [l0, l1, l2, l3, .int x, l5] st h Q ↔ jx_Go jxP d 166 261 [l0, l1, l2, l3, .int x, l5] (.int x :: st) h Q := jg_il rfl rfl
theorem s166_261 : jx_Go jxP d 166 261 [l0, l1, l2, l3, l4, l5] (.int y :: .int x :: .ref a :: st) h Q ↔ ∃ q, jx_ai h a = some q ∧ jx_in x q.1 ∧ jx_Go jxP d 166 262 [l0, l1, l2, l3, l4, l5] st (jx_wi h a q.1 (upd q.2 x.toNatClampNeg y)) Q := jg_iw rfl
theorem s166_262 : jx_Go jxP d 166 262 [.ref a, l1, l2, l3, l4, l5] st h Q ↔ jx_Go jxP d 166 263 [.ref a, l1, l2, l3, l4, l5] (.ref a :: st) h Q := jg_al rfl rfl
theorem s166_263 : jx_Go jxP d 166 263 [l0, l1, l2, l3, l4, l5] (.ref a :: st) h Q ↔ ∃ v, jx_fl h a 12 24 = some v ∧ jx_Go jxP d 166 266 [l0, l1, l2, l3, l4, l5] (v :: st) h Q := jg_gf rfl
theorem s166_266 : jx_Go jxP d 166 266 [l0, .int x, l2, l3, l4, l5] st h Q ↔ jx_Go jxP d 166 267 [l0, .int x, l2, l3, l4, l5] (.int x :: st) h Q := jg_il rfl rfl
theorem s166_267 : jx_Go jxP d 166 267 [l0, l1, l2, l3, l4, l5] st h Q ↔ jx_Go jxP d 166 268 [l0, l1, l2, l3, l4, l5] (.int (nI 1) :: st) h Q := jg_c rfl
theorem s166_268 : jx_Go jxP d 166 268 [l0, l1, l2, l3, l4, l5] (.int y :: .int x :: st) h Q ↔ jx_Go jxP d 166 269 [l0, l1, l2, l3, l4, l5] (.int (x + y) :: st) h Q := jg_b (f := fun x y => x + y) rfl
theorem s166_269 : jx_Go jxP d 166 269 [l0, l1, .int x, l3, l4, l5] st h Q ↔ jx_Go jxP d 166 270 [l0, l1, .int x, l3, l4, l5] (.int x :: st) h Q := jg_il rfl rfl
theorem s166_270 : jx_Go jxP d 166 270 [l0, l1, l2, l3, l4, .int x] st h Q ↔ jx_Go jxP d 166 272 [l0, l1, l2, l3, l4, .int x] (.int x :: st) h Q := jg_il rfl rfl
theorem s166_272 : jx_Go jxP d 166 272 [l0, l1, l2, l3, l4, l5] (.int y :: .int x :: st) h Q ↔ jx_Go jxP d 166 273 [l0, l1, l2, l3, l4, l5] (.int (x ^^^ y) :: st) h Q := jg_b (f := fun x y => x ^^^ y) rfl
theorem s166_273 : jx_Go jxP d 166 273 [l0, l1, l2, l3, l4, l5] (.int y :: .int x :: .ref a :: st) h Q ↔ ∃ q, jx_ai h a = some q ∧ jx_in x q.1 ∧ jx_Go jxP d 166 274 [l0, l1, l2, l3, l4, l5] st (jx_wi h a q.1 (upd q.2 x.toNatClampNeg y)) Q := jg_iw rfl
theorem s166_274 : jx_Go jxP d 166 274 [.ref a, l1, l2, l3, l4, l5] st h Q ↔ jx_Go jxP d 166 275 [.ref a, l1, l2, l3, l4, l5] (.ref a :: st) h Q := jg_al rfl rfl
theorem s166_275 : jx_Go jxP d 166 275 [l0, l1, l2, l3, l4, l5] (.ref a :: st) h Q ↔ ∃ v, jx_fl h a 12 25 = some v ∧ jx_Go jxP d 166 278 [l0, l1, l2, l3, l4, l5] (v :: st) h Q := jg_gf rfl
theorem s166_278 : jx_Go jxP d 166 278 [l0, .int x, l2, l3, l4, l5] st h Q ↔ jx_Go jxP d 166 279 [l0, .int x, l2, l3, l4, l5] (.int x :: st) h Q := jg_il rfl rfl
theorem s166_279 : jx_Go jxP d 166 279 [l0, l1, l2, l3, l4, l5] st h Q ↔ jx_Go jxP d 166 280 [l0, l1, l2, l3, l4, l5] (.int (nI 1) :: st) h Q := jg_c rfl
theorem s166_280 : jx_Go jxP d 166 280 [l0, l1, l2, l3, l4, l5] (.int y :: .int x :: st) h Q ↔ jx_Go jxP d 166 281 [l0, l1, l2, l3, l4, l5] (.int (x + y) :: st) h Q := jg_b (f := fun x y => x + y) rfl
theorem s166_281 : jx_Go jxP d 166 281 [l0, l1, l2, l3, .int x, l5] st h Q ↔ jx_Go jxP d 166 283 [l0, l1, l2, l3, .int x, l5] (.int x :: st) h Q := jg_il rfl rfl
theorem s166_283 : jx_Go jxP d 166 283 [l0, l1, l2, l3, l4, l5] (.int y :: .int x :: .ref a :: st) h Q ↔ ∃ q, jx_ai h a = some q ∧ jx_in x q.1 ∧ jx_Go jxP d 166 284 [l0, l1, l2, l3, l4, l5] st (jx_wi h a q.1 (upd q.2 x.toNatClampNeg y)) Q := jg_iw rfl
theorem s166_284 : jx_Go jxP d 166 284 [l0, .int x, l2, l3, l4, l5] st h Q ↔ jx_Go jxP d 166 287 [l0, .int (x + (nI 2)), l2, l3, l4, l5] st h Q := jg_inc rfl rfl rfl
theorem s166_287 : jx_Go jxP d 166 287 [l0, l1, l2, l3, l4, l5] st h Q ↔ jx_Go jxP d 166 28 [l0, l1, l2, l3, l4, l5] st h Q := jg_go rfl
theorem s166_290 : jx_Go jxP d 166 290 [.ref a, l1, l2, l3, l4, l5] st h Q ↔ jx_Go jxP d 166 291 [.ref a, l1, l2, l3, l4, l5] (.ref a :: st) h Q := jg_al rfl rfl
theorem s166_291 : jx_Go jxP d 166 291 [l0, l1, l2, l3, l4, l5] (.ref a :: st) h Q ↔ ∃ v, jx_fl h a 12 14 = some v ∧ jx_Go jxP d 166 294 [l0, l1, l2, l3, l4, l5] (v :: st) h Q := jg_gf rfl
theorem s166_294 : jx_Go jxP d 166 294 [l0, l1, l2, l3, l4, l5] [.int x] h Q ↔ Q [.int x] h := jx_rt rfl rfl
-- 167 TalkBenchModel.knot
theorem s167_0 : jx_Go jxP d 167 0 [.ref a, l1, l2] st h Q ↔ jx_Go jxP d 167 1 [.ref a, l1, l2] (.ref a :: st) h Q := jg_al rfl rfl
theorem s167_1 : jx_Go jxP d 167 1 [l0, l1, l2] (.ref a :: st) h Q ↔ ∃ v, jx_fl h a 12 14 = some v ∧ jx_Go jxP d 167 4 [l0, l1, l2] (v :: st) h Q := jg_gf rfl
theorem s167_4 : jx_Go jxP d 167 4 [l0, l1, l2] (.int x :: st) h Q ↔ if x = 0 then jx_Go jxP d 167 7 [l0, l1, l2] st h Q else jx_Go jxP d 167 14 [l0, l1, l2] st h Q := jg_ifN rfl rfl
theorem s167_7 : jx_Go jxP d 167 7 [.ref a, l1, l2] st h Q ↔ jx_Go jxP d 167 8 [.ref a, l1, l2] (.ref a :: st) h Q := jg_al rfl rfl
theorem s167_8 : jx_Go jxP d 167 8 [l0, l1, l2] st h Q ↔ jx_Go jxP d 167 10 [l0, l1, l2] (.int (-6) :: st) h Q := jg_c rfl
theorem s167_10 : jx_Go jxP (d + 1) 167 10 [l0, l1, l2] (.int x0 :: .ref a :: st) h Q ↔ (st.length ≤ 4 ∧ jx_cl h a = some 12 ∧ jx_Go jxP d 130 0 [.ref a, .int x0] [] h (fun s1 h1 => jx_Go jxP (d + 1) 167 13 [l0, l1, l2] (s1 ++ st) h1 Q)) := jg_callV (as := [.int x0, .ref a]) rfl rfl rfl rfl rfl
theorem s167_13 : jx_Go jxP d 167 13 [l0, l1, l2] [.int x] h Q ↔ Q [.int x] h := jx_rt rfl rfl
theorem s167_14 : jx_Go jxP d 167 14 [l0, .int x, l2] st h Q ↔ jx_Go jxP d 167 15 [l0, .int x, l2] (.int x :: st) h Q := jg_il rfl rfl
theorem s167_15 : jx_Go jxP d 167 15 [l0, l1, l2] (.int x :: st) h Q ↔ if x < 0 then jx_Go jxP d 167 35 [l0, l1, l2] st h Q else jx_Go jxP d 167 18 [l0, l1, l2] st h Q := jg_ifP rfl rfl
theorem s167_18 : jx_Go jxP d 167 18 [l0, .int x, l2] st h Q ↔ jx_Go jxP d 167 19 [l0, .int x, l2] (.int x :: st) h Q := jg_il rfl rfl
theorem s167_19 : jx_Go jxP d 167 19 [.ref a, l1, l2] st h Q ↔ jx_Go jxP d 167 20 [.ref a, l1, l2] (.ref a :: st) h Q := jg_al rfl rfl
theorem s167_20 : jx_Go jxP d 167 20 [l0, l1, l2] (.ref a :: st) h Q ↔ ∃ v, jx_fl h a 12 14 = some v ∧ jx_Go jxP d 167 23 [l0, l1, l2] (v :: st) h Q := jg_gf rfl
theorem s167_23 : jx_Go jxP d 167 23 [l0, l1, l2] (.int y :: .int x :: st) h Q ↔ if y ≤ x then jx_Go jxP d 167 35 [l0, l1, l2] st h Q else jx_Go jxP d 167 26 [l0, l1, l2] st h Q := jg_icP rfl rfl
theorem s167_26 : jx_Go jxP d 167 26 [l0, l1, .int x] st h Q ↔ jx_Go jxP d 167 27 [l0, l1, .int x] (.int x :: st) h Q := jg_il rfl rfl
theorem s167_27 : jx_Go jxP d 167 27 [l0, l1, l2] (.int x :: st) h Q ↔ if x < 0 then jx_Go jxP d 167 35 [l0, l1, l2] st h Q else jx_Go jxP d 167 30 [l0, l1, l2] st h Q := jg_ifP rfl rfl
theorem s167_30 : jx_Go jxP d 167 30 [l0, l1, .int x] st h Q ↔ jx_Go jxP d 167 31 [l0, l1, .int x] (.int x :: st) h Q := jg_il rfl rfl
theorem s167_31 : jx_Go jxP d 167 31 [l0, l1, l2] st h Q ↔ jx_Go jxP d 167 32 [l0, l1, l2] (.int (nI 5) :: st) h Q := jg_c rfl
theorem s167_32 : jx_Go jxP d 167 32 [l0, l1, l2] (.int y :: .int x :: st) h Q ↔ if x ≤ y then jx_Go jxP d 167 41 [l0, l1, l2] st h Q else jx_Go jxP d 167 35 [l0, l1, l2] st h Q := jg_icP rfl rfl
theorem s167_35 : jx_Go jxP d 167 35 [.ref a, l1, l2] st h Q ↔ jx_Go jxP d 167 36 [.ref a, l1, l2] (.ref a :: st) h Q := jg_al rfl rfl
theorem s167_36 : jx_Go jxP d 167 36 [l0, l1, l2] st h Q ↔ jx_Go jxP d 167 37 [l0, l1, l2] (.int (-1) :: st) h Q := jg_c rfl
theorem s167_37 : jx_Go jxP (d + 1) 167 37 [l0, l1, l2] (.int x0 :: .ref a :: st) h Q ↔ (st.length ≤ 4 ∧ jx_cl h a = some 12 ∧ jx_Go jxP d 130 0 [.ref a, .int x0] [] h (fun s1 h1 => jx_Go jxP (d + 1) 167 40 [l0, l1, l2] (s1 ++ st) h1 Q)) := jg_callV (as := [.int x0, .ref a]) rfl rfl rfl rfl rfl
theorem s167_40 : jx_Go jxP d 167 40 [l0, l1, l2] [.int x] h Q ↔ Q [.int x] h := jx_rt rfl rfl
theorem s167_41 : jx_Go jxP d 167 41 [l0, l1, .int x] st h Q ↔ jx_Go jxP d 167 42 [l0, l1, .int x] (.int x :: st) h Q := jg_il rfl rfl
theorem s167_42 : jx_Go jxP d 167 42 [l0, l1, l2] (.int x :: st) h Q ↔ jx_Go jxP d 167 (js_swt 42 74 0 4 [34, 41, 50, 60, 67] x) [l0, l1, l2] st h Q := jg_sw rfl
theorem s167_76 : jx_Go jxP d 167 76 [.ref a, l1, l2] st h Q ↔ jx_Go jxP d 167 77 [.ref a, l1, l2] (.ref a :: st) h Q := jg_al rfl rfl
theorem s167_77 : jx_Go jxP d 167 77 [l0, l1, l2] (.ref a :: st) h Q ↔ ∃ v, jx_fl h a 12 19 = some v ∧ jx_Go jxP d 167 80 [l0, l1, l2] (v :: st) h Q := jg_gf rfl
theorem s167_80 : jx_Go jxP d 167 80 [l0, .int x, l2] st h Q ↔ jx_Go jxP d 167 81 [l0, .int x, l2] (.int x :: st) h Q := jg_il rfl rfl
theorem s167_81 : jx_Go jxP d 167 81 [l0, l1, l2] (.int x :: .ref a :: st) h Q ↔ ∃ q, jx_ai h a = some q ∧ jx_in x q.1 ∧ jx_Go jxP d 167 82 [l0, l1, l2] (.int (q.2 x.toNatClampNeg) :: st) h Q := jg_ia rfl
theorem s167_82 : jx_Go jxP d 167 82 [l0, l1, l2] [.int x] h Q ↔ Q [.int x] h := jx_rt rfl rfl
theorem s167_83 : jx_Go jxP d 167 83 [.ref a, l1, l2] st h Q ↔ jx_Go jxP d 167 84 [.ref a, l1, l2] (.ref a :: st) h Q := jg_al rfl rfl
theorem s167_84 : jx_Go jxP d 167 84 [l0, l1, l2] (.ref a :: st) h Q ↔ ∃ v, jx_fl h a 12 18 = some v ∧ jx_Go jxP d 167 87 [l0, l1, l2] (v :: st) h Q := jg_gf rfl
theorem s167_87 : jx_Go jxP d 167 87 [l0, .int x, l2] st h Q ↔ jx_Go jxP d 167 88 [l0, .int x, l2] (.int x :: st) h Q := jg_il rfl rfl
theorem s167_88 : jx_Go jxP d 167 88 [l0, l1, l2] (.int x :: .ref a :: st) h Q ↔ ∃ q, jx_ai h a = some q ∧ jx_in x q.1 ∧ jx_Go jxP d 167 89 [l0, l1, l2] (.int (q.2 x.toNatClampNeg) :: st) h Q := jg_ia rfl
theorem s167_89 : jx_Go jxP d 167 89 [l0, l1, l2] st h Q ↔ jx_Go jxP d 167 90 [l0, l1, l2] (.int (nI 5) :: st) h Q := jg_c rfl
theorem s167_90 : jx_Go jxP d 167 90 [l0, l1, l2] (.int y :: .int x :: st) h Q ↔ jx_Go jxP d 167 91 [l0, l1, l2] (.int (x >>> (y &&& 31)) :: st) h Q := jg_b (f := fun x y => x >>> (y &&& 31)) rfl
theorem s167_91 : jx_Go jxP d 167 91 [l0, l1, l2] [.int x] h Q ↔ Q [.int x] h := jx_rt rfl rfl
theorem s167_92 : jx_Go jxP d 167 92 [.ref a, l1, l2] st h Q ↔ jx_Go jxP d 167 93 [.ref a, l1, l2] (.ref a :: st) h Q := jg_al rfl rfl
theorem s167_93 : jx_Go jxP d 167 93 [l0, l1, l2] (.ref a :: st) h Q ↔ ∃ v, jx_fl h a 12 18 = some v ∧ jx_Go jxP d 167 96 [l0, l1, l2] (v :: st) h Q := jg_gf rfl
theorem s167_96 : jx_Go jxP d 167 96 [l0, .int x, l2] st h Q ↔ jx_Go jxP d 167 97 [l0, .int x, l2] (.int x :: st) h Q := jg_il rfl rfl
theorem s167_97 : jx_Go jxP d 167 97 [l0, l1, l2] (.int x :: .ref a :: st) h Q ↔ ∃ q, jx_ai h a = some q ∧ jx_in x q.1 ∧ jx_Go jxP d 167 98 [l0, l1, l2] (.int (q.2 x.toNatClampNeg) :: st) h Q := jg_ia rfl
theorem s167_98 : jx_Go jxP d 167 98 [l0, l1, l2] st h Q ↔ jx_Go jxP d 167 100 [l0, l1, l2] (.int (nI 31) :: st) h Q := jg_c rfl
theorem s167_100 : jx_Go jxP d 167 100 [l0, l1, l2] (.int y :: .int x :: st) h Q ↔ jx_Go jxP d 167 101 [l0, l1, l2] (.int (x &&& y) :: st) h Q := jg_b (f := fun x y => x &&& y) rfl
theorem s167_101 : jx_Go jxP d 167 101 [l0, l1, l2] [.int x] h Q ↔ Q [.int x] h := jx_rt rfl rfl
theorem s167_102 : jx_Go jxP d 167 102 [.ref a, l1, l2] st h Q ↔ jx_Go jxP d 167 103 [.ref a, l1, l2] (.ref a :: st) h Q := jg_al rfl rfl
theorem s167_103 : jx_Go jxP d 167 103 [l0, l1, l2] (.ref a :: st) h Q ↔ ∃ v, jx_fl h a 12 20 = some v ∧ jx_Go jxP d 167 106 [l0, l1, l2] (v :: st) h Q := jg_gf rfl
theorem s167_106 : jx_Go jxP d 167 106 [l0, .int x, l2] st h Q ↔ jx_Go jxP d 167 107 [l0, .int x, l2] (.int x :: st) h Q := jg_il rfl rfl
theorem s167_107 : jx_Go jxP d 167 107 [l0, l1, l2] (.int x :: .ref a :: st) h Q ↔ ∃ q, jx_ai h a = some q ∧ jx_in x q.1 ∧ jx_Go jxP d 167 108 [l0, l1, l2] (.int (q.2 x.toNatClampNeg) :: st) h Q := jg_ia rfl
theorem s167_108 : jx_Go jxP d 167 108 [l0, l1, l2] [.int x] h Q ↔ Q [.int x] h := jx_rt rfl rfl
theorem s167_109 : jx_Go jxP d 167 109 [.ref a, l1, l2] st h Q ↔ jx_Go jxP d 167 110 [.ref a, l1, l2] (.ref a :: st) h Q := jg_al rfl rfl
theorem s167_110 : jx_Go jxP d 167 110 [l0, l1, l2] (.ref a :: st) h Q ↔ ∃ v, jx_fl h a 12 21 = some v ∧ jx_Go jxP d 167 113 [l0, l1, l2] (v :: st) h Q := jg_gf rfl
theorem s167_113 : jx_Go jxP d 167 113 [l0, .int x, l2] st h Q ↔ jx_Go jxP d 167 114 [l0, .int x, l2] (.int x :: st) h Q := jg_il rfl rfl
theorem s167_114 : jx_Go jxP d 167 114 [l0, l1, l2] (.int x :: .ref a :: st) h Q ↔ ∃ q, jx_ai h a = some q ∧ jx_in x q.1 ∧ jx_Go jxP d 167 115 [l0, l1, l2] (.int (q.2 x.toNatClampNeg) :: st) h Q := jg_ia rfl
theorem s167_115 : jx_Go jxP d 167 115 [l0, l1, l2] [.int x] h Q ↔ Q [.int x] h := jx_rt rfl rfl
theorem s167_116 : jx_Go jxP d 167 116 [.ref a, l1, l2] st h Q ↔ jx_Go jxP d 167 117 [.ref a, l1, l2] (.ref a :: st) h Q := jg_al rfl rfl
theorem s167_117 : jx_Go jxP d 167 117 [l0, l1, l2] (.ref a :: st) h Q ↔ ∃ v, jx_fl h a 12 22 = some v ∧ jx_Go jxP d 167 120 [l0, l1, l2] (v :: st) h Q := jg_gf rfl
theorem s167_120 : jx_Go jxP d 167 120 [l0, .int x, l2] st h Q ↔ jx_Go jxP d 167 121 [l0, .int x, l2] (.int x :: st) h Q := jg_il rfl rfl
theorem s167_121 : jx_Go jxP d 167 121 [l0, l1, l2] (.int x :: .ref a :: st) h Q ↔ ∃ q, jx_ai h a = some q ∧ jx_in x q.1 ∧ jx_Go jxP d 167 122 [l0, l1, l2] (.int (q.2 x.toNatClampNeg) :: st) h Q := jg_ia rfl
theorem s167_122 : jx_Go jxP d 167 122 [l0, l1, l2] [.int x] h Q ↔ Q [.int x] h := jx_rt rfl rfl
-- 168 TalkBenchModel.said
theorem s168_0 : jx_Go jxP d 168 0 [.ref a, l1, l2, l3, l4, l5] st h Q ↔ jx_Go jxP d 168 1 [.ref a, l1, l2, l3, l4, l5] (.ref a :: st) h Q := jg_al rfl rfl
theorem s168_1 : jx_Go jxP d 168 1 [l0, l1, l2, l3, l4, l5] (.ref a :: st) h Q ↔ ∃ v, jx_fl h a 12 14 = some v ∧ jx_Go jxP d 168 4 [l0, l1, l2, l3, l4, l5] (v :: st) h Q := jg_gf rfl
theorem s168_4 : jx_Go jxP d 168 4 [l0, l1, l2, l3, l4, l5] (.int x :: st) h Q ↔ if x = 0 then jx_Go jxP d 168 7 [l0, l1, l2, l3, l4, l5] st h Q else jx_Go jxP d 168 14 [l0, l1, l2, l3, l4, l5] st h Q := jg_ifN rfl rfl
theorem s168_7 : jx_Go jxP d 168 7 [.ref a, l1, l2, l3, l4, l5] st h Q ↔ jx_Go jxP d 168 8 [.ref a, l1, l2, l3, l4, l5] (.ref a :: st) h Q := jg_al rfl rfl
theorem s168_8 : jx_Go jxP d 168 8 [l0, l1, l2, l3, l4, l5] st h Q ↔ jx_Go jxP d 168 10 [l0, l1, l2, l3, l4, l5] (.int (-6) :: st) h Q := jg_c rfl
theorem s168_10 : jx_Go jxP (d + 1) 168 10 [l0, l1, l2, l3, l4, l5] (.int x0 :: .ref a :: st) h Q ↔ (st.length ≤ 4 ∧ jx_cl h a = some 12 ∧ jx_Go jxP d 130 0 [.ref a, .int x0] [] h (fun s1 h1 => jx_Go jxP (d + 1) 168 13 [l0, l1, l2, l3, l4, l5] (s1 ++ st) h1 Q)) := jg_callV (as := [.int x0, .ref a]) rfl rfl rfl rfl rfl
theorem s168_13 : jx_Go jxP d 168 13 [l0, l1, l2, l3, l4, l5] [.int x] h Q ↔ Q [.int x] h := jx_rt rfl rfl
theorem s168_14 : jx_Go jxP d 168 14 [.ref a, l1, l2, l3, l4, l5] st h Q ↔ jx_Go jxP d 168 15 [.ref a, l1, l2, l3, l4, l5] (.ref a :: st) h Q := jg_al rfl rfl
theorem s168_15 : jx_Go jxP d 168 15 [l0, .int x, l2, l3, l4, l5] st h Q ↔ jx_Go jxP d 168 16 [l0, .int x, l2, l3, l4, l5] (.int x :: st) h Q := jg_il rfl rfl
theorem s168_16 : jx_Go jxP d 168 16 [l0, l1, .int x, l3, l4, l5] st h Q ↔ jx_Go jxP d 168 17 [l0, l1, .int x, l3, l4, l5] (.int x :: st) h Q := jg_il rfl rfl
theorem s168_17 : jx_Go jxP (d + 1) 168 17 [l0, l1, l2, l3, l4, l5] (.int x1 :: .int x0 :: .ref a :: st) h Q ↔ (st.length ≤ 4 ∧ jx_cl h a = some 12 ∧ jx_Go jxP d 131 0 [.ref a, .int x0, .int x1] [] h (fun s1 h1 => jx_Go jxP (d + 1) 168 20 [l0, l1, l2, l3, l4, l5] (s1 ++ st) h1 Q)) := jg_callV (as := [.int x1, .int x0, .ref a]) rfl rfl rfl rfl rfl
theorem s168_20 : jx_Go jxP d 168 20 [l0, l1, l2, l3, l4, l5] (.int x :: st) h Q ↔ if x = 0 then jx_Go jxP d 168 23 [l0, l1, l2, l3, l4, l5] st h Q else jx_Go jxP d 168 29 [l0, l1, l2, l3, l4, l5] st h Q := jg_ifN rfl rfl
theorem s168_23 : jx_Go jxP d 168 23 [.ref a, l1, l2, l3, l4, l5] st h Q ↔ jx_Go jxP d 168 24 [.ref a, l1, l2, l3, l4, l5] (.ref a :: st) h Q := jg_al rfl rfl
theorem s168_24 : jx_Go jxP d 168 24 [l0, l1, l2, l3, l4, l5] st h Q ↔ jx_Go jxP d 168 25 [l0, l1, l2, l3, l4, l5] (.int (-1) :: st) h Q := jg_c rfl
theorem s168_25 : jx_Go jxP (d + 1) 168 25 [l0, l1, l2, l3, l4, l5] (.int x0 :: .ref a :: st) h Q ↔ (st.length ≤ 4 ∧ jx_cl h a = some 12 ∧ jx_Go jxP d 130 0 [.ref a, .int x0] [] h (fun s1 h1 => jx_Go jxP (d + 1) 168 28 [l0, l1, l2, l3, l4, l5] (s1 ++ st) h1 Q)) := jg_callV (as := [.int x0, .ref a]) rfl rfl rfl rfl rfl
theorem s168_28 : jx_Go jxP d 168 28 [l0, l1, l2, l3, l4, l5] [.int x] h Q ↔ Q [.int x] h := jx_rt rfl rfl
theorem s168_29 : jx_Go jxP d 168 29 [l0, l1, l2, l3, l4, l5] st h Q ↔ jx_Go jxP d 168 30 [l0, l1, l2, l3, l4, l5] (.int (nI 0) :: st) h Q := jg_c rfl
theorem s168_30 : jx_Go jxP d 168 30 [l0, l1, l2, l3, l4, l5] (.int x :: st) h Q ↔ jx_Go jxP d 168 31 [l0, l1, l2, .int x, l4, l5] st h Q := jg_is rfl rfl
theorem s168_31 : jx_Go jxP d 168 31 [l0, l1, l2, l3, l4, l5] st h Q ↔ jx_Go jxP d 168 32 [l0, l1, l2, l3, l4, l5] (.int (nI 1) :: st) h Q := jg_c rfl
theorem s168_32 : jx_Go jxP d 168 32 [l0, l1, l2, l3, l4, l5] (.int x :: st) h Q ↔ jx_Go jxP d 168 34 [l0, l1, l2, l3, .int x, l5] st h Q := jg_is rfl rfl
theorem s168_34 : jx_Go jxP d 168 34 [.ref a, l1, l2, l3, l4, l5] st h Q ↔ jx_Go jxP d 168 35 [.ref a, l1, l2, l3, l4, l5] (.ref a :: st) h Q := jg_al rfl rfl
theorem s168_35 : jx_Go jxP d 168 35 [l0, l1, l2, l3, l4, l5] (.ref a :: st) h Q ↔ ∃ v, jx_fl h a 12 19 = some v ∧ jx_Go jxP d 168 38 [l0, l1, l2, l3, l4, l5] (v :: st) h Q := jg_gf rfl
theorem s168_38 : jx_Go jxP d 168 38 [l0, l1, l2, .int x, l4, l5] st h Q ↔ jx_Go jxP d 168 39 [l0, l1, l2, .int x, l4, l5] (.int x :: st) h Q := jg_il rfl rfl
theorem s168_39 : jx_Go jxP d 168 39 [l0, l1, l2, l3, l4, l5] (.int x :: .ref a :: st) h Q ↔ ∃ q, jx_ai h a = some q ∧ jx_in x q.1 ∧ jx_Go jxP d 168 40 [l0, l1, l2, l3, l4, l5] (.int (q.2 x.toNatClampNeg) :: st) h Q := jg_ia rfl
theorem s168_40 : jx_Go jxP d 168 40 [l0, l1, l2, l3, l4, l5] st h Q ↔ jx_Go jxP d 168 41 [l0, l1, l2, l3, l4, l5] (.int (nI 2) :: st) h Q := jg_c rfl
theorem s168_41 : jx_Go jxP d 168 41 [l0, l1, l2, l3, l4, l5] (.int y :: .int x :: st) h Q ↔ if x = y then jx_Go jxP d 168 121 [l0, l1, l2, l3, l4, l5] st h Q else jx_Go jxP d 168 44 [l0, l1, l2, l3, l4, l5] st h Q := jg_icP rfl rfl
theorem s168_44 : jx_Go jxP d 168 44 [.ref a, l1, l2, l3, l4, l5] st h Q ↔ jx_Go jxP d 168 45 [.ref a, l1, l2, l3, l4, l5] (.ref a :: st) h Q := jg_al rfl rfl
theorem s168_45 : jx_Go jxP d 168 45 [l0, l1, l2, l3, l4, l5] (.ref a :: st) h Q ↔ ∃ v, jx_fl h a 12 19 = some v ∧ jx_Go jxP d 168 48 [l0, l1, l2, l3, l4, l5] (v :: st) h Q := jg_gf rfl
theorem s168_48 : jx_Go jxP d 168 48 [l0, l1, l2, .int x, l4, l5] st h Q ↔ jx_Go jxP d 168 49 [l0, l1, l2, .int x, l4, l5] (.int x :: st) h Q := jg_il rfl rfl
theorem s168_49 : jx_Go jxP d 168 49 [l0, l1, l2, l3, l4, l5] (.int x :: .ref a :: st) h Q ↔ ∃ q, jx_ai h a = some q ∧ jx_in x q.1 ∧ jx_Go jxP d 168 50 [l0, l1, l2, l3, l4, l5] (.int (q.2 x.toNatClampNeg) :: st) h Q := jg_ia rfl
theorem s168_50 : jx_Go jxP d 168 50 [l0, l1, l2, l3, l4, l5] (.int x :: st) h Q ↔ if x = 0 then jx_Go jxP d 168 53 [l0, l1, l2, l3, l4, l5] st h Q else jx_Go jxP d 168 68 [l0, l1, l2, l3, l4, l5] st h Q := jg_ifN rfl rfl
theorem s168_53 : jx_Go jxP d 168 53 [.ref a, l1, l2, l3, l4, l5] st h Q ↔ jx_Go jxP d 168 54 [.ref a, l1, l2, l3, l4, l5] (.ref a :: st) h Q := jg_al rfl rfl
theorem s168_54 : jx_Go jxP d 168 54 [l0, l1, l2, l3, l4, l5] (.ref a :: st) h Q ↔ ∃ v, jx_fl h a 12 23 = some v ∧ jx_Go jxP d 168 57 [l0, l1, l2, l3, l4, l5] (v :: st) h Q := jg_gf rfl
theorem s168_57 : jx_Go jxP d 168 57 [l0, l1, l2, .int x, l4, l5] st h Q ↔ jx_Go jxP d 168 58 [l0, l1, l2, .int x, l4, l5] (.int x :: st) h Q := jg_il rfl rfl
theorem s168_58 : jx_Go jxP d 168 58 [l0, l1, l2, l3, l4, l5] (.int x :: .ref a :: st) h Q ↔ ∃ q, jx_ai h a = some q ∧ jx_in x q.1 ∧ jx_Go jxP d 168 59 [l0, l1, l2, l3, l4, l5] (.int (q.2 x.toNatClampNeg) :: st) h Q := jg_ia rfl
theorem s168_59 : jx_Go jxP d 168 59 [l0, l1, l2, l3, l4, l5] st h Q ↔ jx_Go jxP d 168 60 [l0, l1, l2, l3, l4, l5] (.int (nI 5) :: st) h Q := jg_c rfl
theorem s168_60 : jx_Go jxP d 168 60 [l0, l1, l2, l3, l4, l5] (.int y :: .int x :: st) h Q ↔ jx_Go jxP d 168 61 [l0, l1, l2, l3, l4, l5] (.int (x >>> (y &&& 31)) :: st) h Q := jg_b (f := fun x y => x >>> (y &&& 31)) rfl
theorem s168_61 : jx_Go jxP d 168 61 [l0, .int x, l2, l3, l4, l5] st h Q ↔ jx_Go jxP d 168 62 [l0, .int x, l2, l3, l4, l5] (.int x :: st) h Q := jg_il rfl rfl
theorem s168_62 : jx_Go jxP (d + 1) 168 62 [l0, l1, l2, l3, l4, l5] (.int x1 :: .int x0 :: st) h Q ↔ (st.length ≤ 4 ∧ jx_Go jxP d 132 0 [.int x0, .int x1] [] h (fun s1 h1 => jx_Go jxP (d + 1) 168 65 [l0, l1, l2, l3, l4, l5] (s1 ++ st) h1 Q)) := jg_callS (as := [.int x1, .int x0]) rfl rfl rfl rfl
theorem s168_65 : jx_Go jxP d 168 65 [l0, l1, l2, l3, l4, l5] st h Q ↔ jx_Go jxP d 168 78 [l0, l1, l2, l3, l4, l5] st h Q := jg_go rfl
theorem s168_68 : jx_Go jxP d 168 68 [.ref a, l1, l2, l3, l4, l5] st h Q ↔ jx_Go jxP d 168 69 [.ref a, l1, l2, l3, l4, l5] (.ref a :: st) h Q := jg_al rfl rfl
theorem s168_69 : jx_Go jxP d 168 69 [l0, l1, l2, l3, l4, l5] (.ref a :: st) h Q ↔ ∃ v, jx_fl h a 12 23 = some v ∧ jx_Go jxP d 168 72 [l0, l1, l2, l3, l4, l5] (v :: st) h Q := jg_gf rfl
theorem s168_72 : jx_Go jxP d 168 72 [l0, l1, l2, .int x, l4, l5] st h Q ↔ jx_Go jxP d 168 73 [l0, l1, l2, .int x, l4, l5] (.int x :: st) h Q := jg_il rfl rfl
theorem s168_73 : jx_Go jxP d 168 73 [l0, l1, l2, l3, l4, l5] (.int x :: .ref a :: st) h Q ↔ ∃ q, jx_ai h a = some q ∧ jx_in x q.1 ∧ jx_Go jxP d 168 74 [l0, l1, l2, l3, l4, l5] (.int (q.2 x.toNatClampNeg) :: st) h Q := jg_ia rfl
theorem s168_74 : jx_Go jxP d 168 74 [l0, l1, .int x, l3, l4, l5] st h Q ↔ jx_Go jxP d 168 75 [l0, l1, .int x, l3, l4, l5] (.int x :: st) h Q := jg_il rfl rfl
theorem s168_75 : jx_Go jxP (d + 1) 168 75 [l0, l1, l2, l3, l4, l5] (.int x1 :: .int x0 :: st) h Q ↔ (st.length ≤ 4 ∧ jx_Go jxP d 132 0 [.int x0, .int x1] [] h (fun s1 h1 => jx_Go jxP (d + 1) 168 78 [l0, l1, l2, l3, l4, l5] (s1 ++ st) h1 Q)) := jg_callS (as := [.int x1, .int x0]) rfl rfl rfl rfl
theorem s168_78 : jx_Go jxP d 168 78 [l0, l1, l2, l3, l4, l5] (.int x :: st) h Q ↔ jx_Go jxP d 168 80 [l0, l1, l2, l3, l4, .int x] st h Q := jg_is rfl rfl
theorem s168_80 : jx_Go jxP d 168 80 [l0, l1, l2, l3, l4, l5] st h Q ↔ jx_Go jxP d 168 81 [l0, l1, l2, l3, l4, l5] (.int (nI 2) :: st) h Q := jg_c rfl
theorem s168_81 : jx_Go jxP d 168 81 [l0, l1, l2, l3, .int x, l5] st h Q ↔ jx_Go jxP d 168 83 [l0, l1, l2, l3, .int x, l5] (.int x :: st) h Q := jg_il rfl rfl
theorem s168_83 : jx_Go jxP d 168 83 [l0, l1, l2, l3, l4, l5] (.int y :: .int x :: st) h Q ↔ jx_Go jxP d 168 84 [l0, l1, l2, l3, l4, l5] (.int (x * y) :: st) h Q := jg_b (f := fun x y => x * y) rfl
theorem s168_84 : jx_Go jxP d 168 84 [l0, l1, l2, l3, l4, .int x] st h Q ↔ jx_Go jxP d 168 86 [l0, l1, l2, l3, l4, .int x] (.int x :: st) h Q := jg_il rfl rfl
theorem s168_86 : jx_Go jxP d 168 86 [l0, l1, l2, l3, l4, l5] (.int x :: st) h Q ↔ if x = 0 then jx_Go jxP d 168 93 [l0, l1, l2, l3, l4, l5] st h Q else jx_Go jxP d 168 89 [l0, l1, l2, l3, l4, l5] st h Q := jg_ifP rfl rfl
theorem s168_89 : jx_Go jxP d 168 89 [l0, l1, l2, l3, l4, l5] st h Q ↔ jx_Go jxP d 168 90 [l0, l1, l2, l3, l4, l5] (.int (nI 1) :: st) h Q := jg_c rfl
theorem s168_90 : jx_Go jxP d 168 90 [l0, l1, l2, l3, l4, l5] st h Q ↔ jx_Go jxP d 168 94 [l0, l1, l2, l3, l4, l5] st h Q := jg_go rfl
theorem s168_93 : jx_Go jxP d 168 93 [l0, l1, l2, l3, l4, l5] st h Q ↔ jx_Go jxP d 168 94 [l0, l1, l2, l3, l4, l5] (.int (nI 0) :: st) h Q := jg_c rfl
theorem s168_94 : jx_Go jxP d 168 94 [l0, l1, l2, l3, l4, l5] (.int y :: .int x :: st) h Q ↔ jx_Go jxP d 168 95 [l0, l1, l2, l3, l4, l5] (.int (x + y) :: st) h Q := jg_b (f := fun x y => x + y) rfl
theorem s168_95 : jx_Go jxP d 168 95 [l0, l1, l2, l3, l4, l5] (.int x :: st) h Q ↔ jx_Go jxP d 168 97 [l0, l1, l2, l3, .int x, l5] st h Q := jg_is rfl rfl
theorem s168_97 : jx_Go jxP d 168 97 [l0, l1, l2, l3, l4, .int x] st h Q ↔ jx_Go jxP d 168 99 [l0, l1, l2, l3, l4, .int x] (.int x :: st) h Q := jg_il rfl rfl
theorem s168_99 : jx_Go jxP d 168 99 [l0, l1, l2, l3, l4, l5] (.int x :: st) h Q ↔ if x = 0 then jx_Go jxP d 168 111 [l0, l1, l2, l3, l4, l5] st h Q else jx_Go jxP d 168 102 [l0, l1, l2, l3, l4, l5] st h Q := jg_ifP rfl rfl
theorem s168_102 : jx_Go jxP d 168 102 [.ref a, l1, l2, l3, l4, l5] st h Q ↔ jx_Go jxP d 168 103 [.ref a, l1, l2, l3, l4, l5] (.ref a :: st) h Q := jg_al rfl rfl
theorem s168_103 : jx_Go jxP d 168 103 [l0, l1, l2, l3, l4, l5] (.ref a :: st) h Q ↔ ∃ v, jx_fl h a 12 21 = some v ∧ jx_Go jxP d 168 106 [l0, l1, l2, l3, l4, l5] (v :: st) h Q := jg_gf rfl
theorem s168_106 : jx_Go jxP d 168 106 [l0, l1, l2, .int x, l4, l5] st h Q ↔ jx_Go jxP d 168 107 [l0, l1, l2, .int x, l4, l5] (.int x :: st) h Q := jg_il rfl rfl
theorem s168_107 : jx_Go jxP d 168 107 [l0, l1, l2, l3, l4, l5] (.int x :: .ref a :: st) h Q ↔ ∃ q, jx_ai h a = some q ∧ jx_in x q.1 ∧ jx_Go jxP d 168 108 [l0, l1, l2, l3, l4, l5] (.int (q.2 x.toNatClampNeg) :: st) h Q := jg_ia rfl
theorem s168_108 : jx_Go jxP d 168 108 [l0, l1, l2, l3, l4, l5] st h Q ↔ jx_Go jxP d 168 117 [l0, l1, l2, l3, l4, l5] st h Q := jg_go rfl
theorem s168_111 : jx_Go jxP d 168 111 [.ref a, l1, l2, l3, l4, l5] st h Q ↔ jx_Go jxP d 168 112 [.ref a, l1, l2, l3, l4, l5] (.ref a :: st) h Q := jg_al rfl rfl
theorem s168_112 : jx_Go jxP d 168 112 [l0, l1, l2, l3, l4, l5] (.ref a :: st) h Q ↔ ∃ v, jx_fl h a 12 20 = some v ∧ jx_Go jxP d 168 115 [l0, l1, l2, l3, l4, l5] (v :: st) h Q := jg_gf rfl
theorem s168_115 : jx_Go jxP d 168 115 [l0, l1, l2, .int x, l4, l5] st h Q ↔ jx_Go jxP d 168 116 [l0, l1, l2, .int x, l4, l5] (.int x :: st) h Q := jg_il rfl rfl
theorem s168_116 : jx_Go jxP d 168 116 [l0, l1, l2, l3, l4, l5] (.int x :: .ref a :: st) h Q ↔ ∃ q, jx_ai h a = some q ∧ jx_in x q.1 ∧ jx_Go jxP d 168 117 [l0, l1, l2, l3, l4, l5] (.int (q.2 x.toNatClampNeg) :: st) h Q := jg_ia rfl
theorem s168_117 : jx_Go jxP d 168 117 [l0, l1, l2, l3, l4, l5] (.int x :: st) h Q ↔ jx_Go jxP d 168 118 [l0, l1, l2, .int x, l4, l5] st h Q := jg_is rfl rfl
theorem s168_118 : jx_Go jxP d 168 118 [l0, l1, l2, l3, l4, l5] st h Q ↔ jx_Go jxP d 168 34 [l0, l1, l2, l3, l4, l5] st h Q := jg_go rfl
theorem s168_121 : jx_Go jxP d 168 121 [l0, l1, l2, l3, .int x, l5] st h Q ↔ jx_Go jxP d 168 123 [l0, l1, l2, l3, .int x, l5] (.int x :: st) h Q := jg_il rfl rfl
theorem s168_123 : jx_Go jxP d 168 123 [l0, l1, l2, l3, l4, l5] [.int x] h Q ↔ Q [.int x] h := jx_rt rfl rfl
-- 169 TalkBenchModel.quarrel
theorem s169_0 : jx_Go jxP d 169 0 [l0, l1, l2, l3, l4, l5] st h Q ↔ jx_Go jxP d 169 1 [l0, l1, l2, l3, l4, l5] (.int (nI 0) :: st) h Q := jg_c rfl
theorem s169_1 : jx_Go jxP d 169 1 [l0, l1, l2, l3, l4, l5] (.int x :: st) h Q ↔ jx_Go jxP d 169 3 [l0, l1, l2, l3, .int x, l5] st h Q := jg_is rfl rfl
theorem s169_3 : jx_Go jxP d 169 3 [l0, l1, l2, l3, l4, l5] st h Q ↔ jx_Go jxP d 169 4 [l0, l1, l2, l3, l4, l5] (.int (nI 0) :: st) h Q := jg_c rfl
theorem s169_4 : jx_Go jxP d 169 4 [l0, l1, l2, l3, l4, l5] (.int x :: st) h Q ↔ jx_Go jxP d 169 6 [l0, l1, l2, l3, l4, .int x] st h Q := jg_is rfl rfl
theorem s169_6 : jx_Go jxP d 169 6 [l0, l1, l2, l3, l4, .int x] st h Q ↔ jx_Go jxP d 169 8 [l0, l1, l2, l3, l4, .int x] (.int x :: st) h Q := jg_il rfl rfl
theorem s169_8 : jx_Go jxP d 169 8 [l0, .int x, l2, l3, l4, l5] st h Q ↔ jx_Go jxP d 169 9 [l0, .int x, l2, l3, l4, l5] (.int x :: st) h Q := jg_il rfl rfl
theorem s169_9 : jx_Go jxP d 169 9 [l0, l1, l2, l3, l4, l5] (.int x :: st) h Q ↔ if x = 0 then jx_Go jxP d 169 19 [l0, l1, l2, l3, l4, l5] st h Q else jx_Go jxP d 169 12 [l0, l1, l2, l3, l4, l5] st h Q := jg_ifP rfl rfl
theorem s169_12 : jx_Go jxP d 169 12 [.ref a, l1, l2, l3, l4, l5] st h Q ↔ jx_Go jxP d 169 13 [.ref a, l1, l2, l3, l4, l5] (.ref a :: st) h Q := jg_al rfl rfl
theorem s169_13 : jx_Go jxP d 169 13 [l0, l1, l2, l3, l4, l5] (.ref a :: st) h Q ↔ ∃ v, jx_fl h a 12 0 = some v ∧ jx_Go jxP d 169 16 [l0, l1, l2, l3, l4, l5] (v :: st) h Q := jg_gf rfl
theorem s169_16 : jx_Go jxP d 169 16 [l0, l1, l2, l3, l4, l5] st h Q ↔ jx_Go jxP d 169 23 [l0, l1, l2, l3, l4, l5] st h Q := jg_go rfl
theorem s169_19 : jx_Go jxP d 169 19 [.ref a, l1, l2, l3, l4, l5] st h Q ↔ jx_Go jxP d 169 20 [.ref a, l1, l2, l3, l4, l5] (.ref a :: st) h Q := jg_al rfl rfl
theorem s169_20 : jx_Go jxP d 169 20 [l0, l1, l2, l3, l4, l5] (.ref a :: st) h Q ↔ ∃ v, jx_fl h a 12 1 = some v ∧ jx_Go jxP d 169 23 [l0, l1, l2, l3, l4, l5] (v :: st) h Q := jg_gf rfl
theorem s169_23 : jx_Go jxP d 169 23 [l0, l1, l2, l3, l4, l5] (.int y :: .int x :: st) h Q ↔ if y ≤ x then jx_Go jxP d 169 87 [l0, l1, l2, l3, l4, l5] st h Q else jx_Go jxP d 169 26 [l0, l1, l2, l3, l4, l5] st h Q := jg_icP rfl rfl
theorem s169_26 : jx_Go jxP d 169 26 [l0, l1, l2, l3, .int x, l5] st h Q ↔ jx_Go jxP d 169 28 [l0, l1, l2, l3, .int x, l5] (.int x :: st) h Q := jg_il rfl rfl
theorem s169_28 : jx_Go jxP d 169 28 [.ref a, l1, l2, l3, l4, l5] st h Q ↔ jx_Go jxP d 169 29 [.ref a, l1, l2, l3, l4, l5] (.ref a :: st) h Q := jg_al rfl rfl
theorem s169_29 : jx_Go jxP d 169 29 [l0, .int x, l2, l3, l4, l5] st h Q ↔ jx_Go jxP d 169 30 [l0, .int x, l2, l3, l4, l5] (.int x :: st) h Q := jg_il rfl rfl
theorem s169_30 : jx_Go jxP d 169 30 [l0, l1, .int x, l3, l4, l5] st h Q ↔ jx_Go jxP d 169 31 [l0, l1, .int x, l3, l4, l5] (.int x :: st) h Q := jg_il rfl rfl
theorem s169_31 : jx_Go jxP d 169 31 [l0, l1, l2, l3, l4, .int x] st h Q ↔ jx_Go jxP d 169 33 [l0, l1, l2, l3, l4, .int x] (.int x :: st) h Q := jg_il rfl rfl
theorem s169_33 : jx_Go jxP (d + 1) 169 33 [l0, l1, l2, l3, l4, l5] (.int x2 :: .int x1 :: .int x0 :: .ref a :: st) h Q ↔ (st.length ≤ 4 ∧ jx_cl h a = some 12 ∧ jx_Go jxP d 146 0 [.ref a, .int x0, .int x1, .int x2] [] h (fun s1 h1 => jx_Go jxP (d + 1) 169 36 [l0, l1, l2, l3, l4, l5] (s1 ++ st) h1 Q)) := jg_callV (as := [.int x2, .int x1, .int x0, .ref a]) rfl rfl rfl rfl rfl
theorem s169_36 : jx_Go jxP d 169 36 [.ref a, l1, l2, l3, l4, l5] st h Q ↔ jx_Go jxP d 169 37 [.ref a, l1, l2, l3, l4, l5] (.ref a :: st) h Q := jg_al rfl rfl
theorem s169_37 : jx_Go jxP d 169 37 [l0, .int x, l2, l3, l4, l5] st h Q ↔ jx_Go jxP d 169 38 [l0, .int x, l2, l3, l4, l5] (.int x :: st) h Q := jg_il rfl rfl
theorem s169_38 : jx_Go jxP d 169 38 [l0, l1, l2, .int x, l4, l5] st h Q ↔ jx_Go jxP d 169 39 [l0, l1, l2, .int x, l4, l5] (.int x :: st) h Q := jg_il rfl rfl
theorem s169_39 : jx_Go jxP d 169 39 [l0, l1, l2, l3, l4, .int x] st h Q ↔ jx_Go jxP d 169 41 [l0, l1, l2, l3, l4, .int x] (.int x :: st) h Q := jg_il rfl rfl
theorem s169_41 : jx_Go jxP (d + 1) 169 41 [l0, l1, l2, l3, l4, l5] (.int x2 :: .int x1 :: .int x0 :: .ref a :: st) h Q ↔ (st.length ≤ 4 ∧ jx_cl h a = some 12 ∧ jx_Go jxP d 146 0 [.ref a, .int x0, .int x1, .int x2] [] h (fun s1 h1 => jx_Go jxP (d + 1) 169 44 [l0, l1, l2, l3, l4, l5] (s1 ++ st) h1 Q)) := jg_callV (as := [.int x2, .int x1, .int x0, .ref a]) rfl rfl rfl rfl rfl
theorem s169_44 : jx_Go jxP d 169 44 [l0, l1, l2, l3, l4, l5] (.int y :: .int x :: st) h Q ↔ jx_Go jxP d 169 45 [l0, l1, l2, l3, l4, l5] (.int (x + y) :: st) h Q := jg_b (f := fun x y => x + y) rfl
theorem s169_45 : jx_Go jxP d 169 45 [l0, l1, l2, l3, l4, l5] st h Q ↔ jx_Go jxP d 169 46 [l0, l1, l2, l3, l4, l5] (.int (nI 1) :: st) h Q := jg_c rfl
theorem s169_46 : jx_Go jxP d 169 46 [l0, l1, l2, l3, l4, l5] (.int y :: .int x :: st) h Q ↔ if x = y then jx_Go jxP d 169 49 [l0, l1, l2, l3, l4, l5] st h Q else jx_Go jxP d 169 77 [l0, l1, l2, l3, l4, l5] st h Q := jg_icN rfl rfl
theorem s169_49 : jx_Go jxP d 169 49 [.ref a, l1, l2, l3, l4, l5] st h Q ↔ jx_Go jxP d 169 50 [.ref a, l1, l2, l3, l4, l5] (.ref a :: st) h Q := jg_al rfl rfl
theorem s169_50 : jx_Go jxP d 169 50 [l0, .int x, l2, l3, l4, l5] st h Q ↔ jx_Go jxP d 169 51 [l0, .int x, l2, l3, l4, l5] (.int x :: st) h Q := jg_il rfl rfl
theorem s169_51 : jx_Go jxP d 169 51 [l0, l1, .int x, l3, l4, l5] st h Q ↔ jx_Go jxP d 169 52 [l0, l1, .int x, l3, l4, l5] (.int x :: st) h Q := jg_il rfl rfl
theorem s169_52 : jx_Go jxP d 169 52 [l0, l1, l2, l3, l4, .int x] st h Q ↔ jx_Go jxP d 169 54 [l0, l1, l2, l3, l4, .int x] (.int x :: st) h Q := jg_il rfl rfl
theorem s169_54 : jx_Go jxP (d + 1) 169 54 [l0, l1, l2, l3, l4, l5] (.int x2 :: .int x1 :: .int x0 :: .ref a :: st) h Q ↔ (st.length ≤ 4 ∧ jx_cl h a = some 12 ∧ jx_Go jxP d 146 0 [.ref a, .int x0, .int x1, .int x2] [] h (fun s1 h1 => jx_Go jxP (d + 1) 169 57 [l0, l1, l2, l3, l4, l5] (s1 ++ st) h1 Q)) := jg_callV (as := [.int x2, .int x1, .int x0, .ref a]) rfl rfl rfl rfl rfl
theorem s169_57 : jx_Go jxP d 169 57 [l0, l1, l2, l3, l4, l5] st h Q ↔ jx_Go jxP d 169 58 [l0, l1, l2, l3, l4, l5] (.int (nI 2) :: st) h Q := jg_c rfl
theorem s169_58 : jx_Go jxP d 169 58 [l0, l1, l2, l3, l4, l5] (.int y :: .int x :: st) h Q ↔ if y ≤ x then jx_Go jxP d 169 77 [l0, l1, l2, l3, l4, l5] st h Q else jx_Go jxP d 169 61 [l0, l1, l2, l3, l4, l5] st h Q := jg_icP rfl rfl
theorem s169_61 : jx_Go jxP d 169 61 [.ref a, l1, l2, l3, l4, l5] st h Q ↔ jx_Go jxP d 169 62 [.ref a, l1, l2, l3, l4, l5] (.ref a :: st) h Q := jg_al rfl rfl
theorem s169_62 : jx_Go jxP d 169 62 [l0, .int x, l2, l3, l4, l5] st h Q ↔ jx_Go jxP d 169 63 [l0, .int x, l2, l3, l4, l5] (.int x :: st) h Q := jg_il rfl rfl
theorem s169_63 : jx_Go jxP d 169 63 [l0, l1, l2, .int x, l4, l5] st h Q ↔ jx_Go jxP d 169 64 [l0, l1, l2, .int x, l4, l5] (.int x :: st) h Q := jg_il rfl rfl
theorem s169_64 : jx_Go jxP d 169 64 [l0, l1, l2, l3, l4, .int x] st h Q ↔ jx_Go jxP d 169 66 [l0, l1, l2, l3, l4, .int x] (.int x :: st) h Q := jg_il rfl rfl
theorem s169_66 : jx_Go jxP (d + 1) 169 66 [l0, l1, l2, l3, l4, l5] (.int x2 :: .int x1 :: .int x0 :: .ref a :: st) h Q ↔ (st.length ≤ 4 ∧ jx_cl h a = some 12 ∧ jx_Go jxP d 146 0 [.ref a, .int x0, .int x1, .int x2] [] h (fun s1 h1 => jx_Go jxP (d + 1) 169 69 [l0, l1, l2, l3, l4, l5] (s1 ++ st) h1 Q)) := jg_callV (as := [.int x2, .int x1, .int x0, .ref a]) rfl rfl rfl rfl rfl
theorem s169_69 : jx_Go jxP d 169 69 [l0, l1, l2, l3, l4, l5] st h Q ↔ jx_Go jxP d 169 70 [l0, l1, l2, l3, l4, l5] (.int (nI 2) :: st) h Q := jg_c rfl
theorem s169_70 : jx_Go jxP d 169 70 [l0, l1, l2, l3, l4, l5] (.int y :: .int x :: st) h Q ↔ if y ≤ x then jx_Go jxP d 169 77 [l0, l1, l2, l3, l4, l5] st h Q else jx_Go jxP d 169 73 [l0, l1, l2, l3, l4, l5] st h Q := jg_icP rfl rfl
theorem s169_73 : jx_Go jxP d 169 73 [l0, l1, l2, l3, l4, l5] st h Q ↔ jx_Go jxP d 169 74 [l0, l1, l2, l3, l4, l5] (.int (nI 1) :: st) h Q := jg_c rfl
theorem s169_74 : jx_Go jxP d 169 74 [l0, l1, l2, l3, l4, l5] st h Q ↔ jx_Go jxP d 169 78 [l0, l1, l2, l3, l4, l5] st h Q := jg_go rfl
theorem s169_77 : jx_Go jxP d 169 77 [l0, l1, l2, l3, l4, l5] st h Q ↔ jx_Go jxP d 169 78 [l0, l1, l2, l3, l4, l5] (.int (nI 0) :: st) h Q := jg_c rfl
theorem s169_78 : jx_Go jxP d 169 78 [l0, l1, l2, l3, l4, l5] (.int y :: .int x :: st) h Q ↔ jx_Go jxP d 169 79 [l0, l1, l2, l3, l4, l5] (.int (x ||| y) :: st) h Q := jg_b (f := fun x y => x ||| y) rfl
theorem s169_79 : jx_Go jxP d 169 79 [l0, l1, l2, l3, l4, l5] (.int x :: st) h Q ↔ jx_Go jxP d 169 81 [l0, l1, l2, l3, .int x, l5] st h Q := jg_is rfl rfl
theorem s169_81 : jx_Go jxP d 169 81 [l0, l1, l2, l3, l4, .int x] st h Q ↔ jx_Go jxP d 169 84 [l0, l1, l2, l3, l4, .int (x + (nI 1))] st h Q := jg_inc rfl rfl rfl
theorem s169_84 : jx_Go jxP d 169 84 [l0, l1, l2, l3, l4, l5] st h Q ↔ jx_Go jxP d 169 6 [l0, l1, l2, l3, l4, l5] st h Q := jg_go rfl
theorem s169_87 : jx_Go jxP d 169 87 [l0, l1, l2, l3, .int x, l5] st h Q ↔ jx_Go jxP d 169 89 [l0, l1, l2, l3, .int x, l5] (.int x :: st) h Q := jg_il rfl rfl
theorem s169_89b0 : jx_Go jxP d 169 89 [l0, l1, l2, l3, l4, l5] [.int (nI 0)] h Q ↔ Q [.int (nI 0)] h := jx_rt rfl rfl
theorem s169_89b1 : jx_Go jxP d 169 89 [l0, l1, l2, l3, l4, l5] [.int (nI 1)] h Q ↔ Q [.int (nI 1)] h := jx_rt rfl rfl
-- 170 TalkBenchModel.classes
theorem s170_0 : jx_Go jxP d 170 0 [l0, .int x, l2, l3, l4, l5, l6, l7] st h Q ↔ jx_Go jxP d 170 1 [l0, .int x, l2, l3, l4, l5, l6, l7] (.int x :: st) h Q := jg_il rfl rfl
theorem s170_1 : jx_Go jxP d 170 1 [l0, l1, l2, l3, l4, l5, l6, l7] (.int x :: st) h Q ↔ if x = 0 then jx_Go jxP d 170 11 [l0, l1, l2, l3, l4, l5, l6, l7] st h Q else jx_Go jxP d 170 4 [l0, l1, l2, l3, l4, l5, l6, l7] st h Q := jg_ifP rfl rfl
theorem s170_4 : jx_Go jxP d 170 4 [.ref a, l1, l2, l3, l4, l5, l6, l7] st h Q ↔ jx_Go jxP d 170 5 [.ref a, l1, l2, l3, l4, l5, l6, l7] (.ref a :: st) h Q := jg_al rfl rfl
theorem s170_5 : jx_Go jxP d 170 5 [l0, l1, l2, l3, l4, l5, l6, l7] (.ref a :: st) h Q ↔ ∃ v, jx_fl h a 12 1 = some v ∧ jx_Go jxP d 170 8 [l0, l1, l2, l3, l4, l5, l6, l7] (v :: st) h Q := jg_gf rfl
theorem s170_8 : jx_Go jxP d 170 8 [l0, l1, l2, l3, l4, l5, l6, l7] st h Q ↔ jx_Go jxP d 170 15 [l0, l1, l2, l3, l4, l5, l6, l7] st h Q := jg_go rfl
theorem s170_11 : jx_Go jxP d 170 11 [.ref a, l1, l2, l3, l4, l5, l6, l7] st h Q ↔ jx_Go jxP d 170 12 [.ref a, l1, l2, l3, l4, l5, l6, l7] (.ref a :: st) h Q := jg_al rfl rfl
theorem s170_12 : jx_Go jxP d 170 12 [l0, l1, l2, l3, l4, l5, l6, l7] (.ref a :: st) h Q ↔ ∃ v, jx_fl h a 12 0 = some v ∧ jx_Go jxP d 170 15 [l0, l1, l2, l3, l4, l5, l6, l7] (v :: st) h Q := jg_gf rfl
theorem s170_15 : jx_Go jxP d 170 15 [l0, l1, l2, l3, l4, l5, l6, l7] (.int x :: st) h Q ↔ jx_Go jxP d 170 16 [l0, l1, .int x, l3, l4, l5, l6, l7] st h Q := jg_is rfl rfl
theorem s170_16 : jx_Go jxP d 170 16 [.ref a, l1, l2, l3, l4, l5, l6, l7] st h Q ↔ jx_Go jxP d 170 17 [.ref a, l1, l2, l3, l4, l5, l6, l7] (.ref a :: st) h Q := jg_al rfl rfl
theorem s170_17 : jx_Go jxP d 170 17 [l0, l1, l2, l3, l4, l5, l6, l7] (.ref a :: st) h Q ↔ ∃ v, jx_fl h a 12 26 = some v ∧ jx_Go jxP d 170 20 [l0, l1, l2, l3, l4, l5, l6, l7] (v :: st) h Q := jg_gf rfl
theorem s170_20 : jx_Go jxP d 170 20 [l0, l1, l2, l3, l4, l5, l6, l7] st h Q ↔ jx_Go jxP d 170 21 [l0, l1, l2, l3, l4, l5, l6, l7] (.int (nI 0) :: st) h Q := jg_c rfl
theorem s170_21 : jx_Go jxP d 170 21 [l0, l1, l2, l3, l4, l5, l6, l7] st h Q ↔ jx_Go jxP d 170 22 [l0, l1, l2, l3, l4, l5, l6, l7] (.int (nI 0) :: st) h Q := jg_c rfl
theorem s170_22 : jx_Go jxP d 170 22 [l0, l1, l2, l3, l4, l5, l6, l7] (.int y :: .int x :: .ref a :: st) h Q ↔ ∃ q, jx_ai h a = some q ∧ jx_in x q.1 ∧ jx_Go jxP d 170 23 [l0, l1, l2, l3, l4, l5, l6, l7] st (jx_wi h a q.1 (upd q.2 x.toNatClampNeg y)) Q := jg_iw rfl
theorem s170_23 : jx_Go jxP d 170 23 [l0, l1, l2, l3, l4, l5, l6, l7] st h Q ↔ jx_Go jxP d 170 24 [l0, l1, l2, l3, l4, l5, l6, l7] (.int (nI 1) :: st) h Q := jg_c rfl
theorem s170_24 : jx_Go jxP d 170 24 [l0, l1, l2, l3, l4, l5, l6, l7] (.int x :: st) h Q ↔ jx_Go jxP d 170 25 [l0, l1, l2, .int x, l4, l5, l6, l7] st h Q := jg_is rfl rfl
theorem s170_25 : jx_Go jxP d 170 25 [l0, l1, l2, .int x, l4, l5, l6, l7] st h Q ↔ jx_Go jxP d 170 26 [l0, l1, l2, .int x, l4, l5, l6, l7] (.int x :: st) h Q := jg_il rfl rfl
theorem s170_26 : jx_Go jxP d 170 26 [l0, l1, l2, l3, l4, l5, l6, l7] st h Q ↔ jx_Go jxP d 170 27 [l0, l1, l2, l3, l4, l5, l6, l7] (.int (nI 1) :: st) h Q := jg_c rfl
theorem s170_27 : jx_Go jxP d 170 27 [l0, l1, .int x, l3, l4, l5, l6, l7] st h Q ↔ jx_Go jxP d 170 28 [l0, l1, .int x, l3, l4, l5, l6, l7] (.int x :: st) h Q := jg_il rfl rfl
theorem s170_28 : jx_Go jxP d 170 28 [l0, l1, l2, l3, l4, l5, l6, l7] (.int y :: .int x :: st) h Q ↔ jx_Go jxP d 170 29 [l0, l1, l2, l3, l4, l5, l6, l7] (.int (x <<< (y &&& 31)) :: st) h Q := jg_b (f := fun x y => x <<< (y &&& 31)) rfl
theorem s170_29 : jx_Go jxP d 170 29 [l0, l1, l2, l3, l4, l5, l6, l7] (.int y :: .int x :: st) h Q ↔ if y ≤ x then jx_Go jxP d 170 205 [l0, l1, l2, l3, l4, l5, l6, l7] st h Q else jx_Go jxP d 170 32 [l0, l1, l2, l3, l4, l5, l6, l7] st h Q := jg_icP rfl rfl
theorem s170_32 : jx_Go jxP d 170 32 [.ref a, l1, l2, l3, l4, l5, l6, l7] st h Q ↔ jx_Go jxP d 170 33 [.ref a, l1, l2, l3, l4, l5, l6, l7] (.ref a :: st) h Q := jg_al rfl rfl
theorem s170_33 : jx_Go jxP d 170 33 [l0, l1, l2, l3, l4, l5, l6, l7] (.ref a :: st) h Q ↔ ∃ v, jx_fl h a 12 26 = some v ∧ jx_Go jxP d 170 36 [l0, l1, l2, l3, l4, l5, l6, l7] (v :: st) h Q := jg_gf rfl
theorem s170_36 : jx_Go jxP d 170 36 [l0, l1, l2, .int x, l4, l5, l6, l7] st h Q ↔ jx_Go jxP d 170 37 [l0, l1, l2, .int x, l4, l5, l6, l7] (.int x :: st) h Q := jg_il rfl rfl
theorem s170_37 : jx_Go jxP d 170 37 [l0, l1, l2, l3, l4, l5, l6, l7] st h Q ↔ jx_Go jxP d 170 39 [l0, l1, l2, l3, l4, l5, l6, l7] (.int (nI 100) :: st) h Q := jg_c rfl
theorem s170_39 : jx_Go jxP d 170 39 [l0, l1, l2, l3, l4, l5, l6, l7] (.int y :: .int x :: .ref a :: st) h Q ↔ ∃ q, jx_ai h a = some q ∧ jx_in x q.1 ∧ jx_Go jxP d 170 40 [l0, l1, l2, l3, l4, l5, l6, l7] st (jx_wi h a q.1 (upd q.2 x.toNatClampNeg y)) Q := jg_iw rfl
theorem s170_40 : jx_Go jxP d 170 40 [l0, l1, l2, l3, l4, l5, l6, l7] st h Q ↔ jx_Go jxP d 170 41 [l0, l1, l2, l3, l4, l5, l6, l7] (.int (nI 1) :: st) h Q := jg_c rfl
theorem s170_41 : jx_Go jxP d 170 41 [l0, l1, l2, l3, l4, l5, l6, l7] (.int x :: st) h Q ↔ jx_Go jxP d 170 43 [l0, l1, l2, l3, .int x, l5, l6, l7] st h Q := jg_is rfl rfl
theorem s170_43 : jx_Go jxP d 170 43 [l0, l1, l2, l3, .int x, l5, l6, l7] st h Q ↔ jx_Go jxP d 170 45 [l0, l1, l2, l3, .int x, l5, l6, l7] (.int x :: st) h Q := jg_il rfl rfl
theorem s170_45 : jx_Go jxP d 170 45 [l0, l1, l2, .int x, l4, l5, l6, l7] st h Q ↔ jx_Go jxP d 170 46 [l0, l1, l2, .int x, l4, l5, l6, l7] (.int x :: st) h Q := jg_il rfl rfl
theorem s170_46 : jx_Go jxP d 170 46 [l0, l1, l2, l3, l4, l5, l6, l7] (.int y :: .int x :: st) h Q ↔ if y < x then jx_Go jxP d 170 199 [l0, l1, l2, l3, l4, l5, l6, l7] st h Q else jx_Go jxP d 170 49 [l0, l1, l2, l3, l4, l5, l6, l7] st h Q := jg_icP rfl rfl
theorem s170_49 : jx_Go jxP d 170 49 [l0, l1, l2, l3, .int x, l5, l6, l7] st h Q ↔ jx_Go jxP d 170 51 [l0, l1, l2, l3, .int x, l5, l6, l7] (.int x :: st) h Q := jg_il rfl rfl
theorem s170_51 : jx_Go jxP d 170 51 [l0, l1, l2, .int x, l4, l5, l6, l7] st h Q ↔ jx_Go jxP d 170 52 [l0, l1, l2, .int x, l4, l5, l6, l7] (.int x :: st) h Q := jg_il rfl rfl
theorem s170_52 : jx_Go jxP d 170 52 [l0, l1, l2, l3, l4, l5, l6, l7] st h Q ↔ jx_Go jxP d 170 53 [l0, l1, l2, l3, l4, l5, l6, l7] (.int (-1) :: st) h Q := jg_c rfl
theorem s170_53 : jx_Go jxP d 170 53 [l0, l1, l2, l3, l4, l5, l6, l7] (.int y :: .int x :: st) h Q ↔ jx_Go jxP d 170 54 [l0, l1, l2, l3, l4, l5, l6, l7] (.int (x ^^^ y) :: st) h Q := jg_b (f := fun x y => x ^^^ y) rfl
theorem s170_54 : jx_Go jxP d 170 54 [l0, l1, l2, l3, l4, l5, l6, l7] (.int y :: .int x :: st) h Q ↔ jx_Go jxP d 170 55 [l0, l1, l2, l3, l4, l5, l6, l7] (.int (x &&& y) :: st) h Q := jg_b (f := fun x y => x &&& y) rfl
theorem s170_55 : jx_Go jxP d 170 55 [l0, l1, l2, l3, l4, l5, l6, l7] (.int x :: st) h Q ↔ if x = 0 then jx_Go jxP d 170 58 [l0, l1, l2, l3, l4, l5, l6, l7] st h Q else jx_Go jxP d 170 62 [l0, l1, l2, l3, l4, l5, l6, l7] st h Q := jg_ifN rfl rfl
theorem s170_58 : jx_Go jxP d 170 58 [l0, l1, l2, l3, l4, l5, l6, l7] st h Q ↔ jx_Go jxP d 170 59 [l0, l1, l2, l3, l4, l5, l6, l7] (.int (nI 1) :: st) h Q := jg_c rfl
theorem s170_59 : jx_Go jxP d 170 59 [l0, l1, l2, l3, l4, l5, l6, l7] st h Q ↔ jx_Go jxP d 170 63 [l0, l1, l2, l3, l4, l5, l6, l7] st h Q := jg_go rfl
theorem s170_62 : jx_Go jxP d 170 62 [l0, l1, l2, l3, l4, l5, l6, l7] st h Q ↔ jx_Go jxP d 170 63 [l0, l1, l2, l3, l4, l5, l6, l7] (.int (nI 0) :: st) h Q := jg_c rfl
theorem s170_63 : jx_Go jxP d 170 63 [l0, l1, l2, l3, l4, l5, l6, l7] (.int x :: st) h Q ↔ jx_Go jxP d 170 65 [l0, l1, l2, l3, l4, .int x, l6, l7] st h Q := jg_is rfl rfl
theorem s170_65 : jx_Go jxP d 170 65 [l0, l1, l2, l3, l4, l5, l6, l7] st h Q ↔ jx_Go jxP d 170 66 [l0, l1, l2, l3, l4, l5, l6, l7] (.int (nI 0) :: st) h Q := jg_c rfl
theorem s170_66 : jx_Go jxP d 170 66 [l0, l1, l2, l3, l4, l5, l6, l7] (.int x :: st) h Q ↔ jx_Go jxP d 170 68 [l0, l1, l2, l3, l4, l5, .int x, l7] st h Q := jg_is rfl rfl
theorem s170_68 : jx_Go jxP d 170 68 [l0, l1, l2, l3, l4, l5, .int x, l7] st h Q ↔ jx_Go jxP d 170 70 [l0, l1, l2, l3, l4, l5, .int x, l7] (.int x :: st) h Q := jg_il rfl rfl
theorem s170_70 : jx_Go jxP d 170 70 [l0, l1, .int x, l3, l4, l5, l6, l7] st h Q ↔ jx_Go jxP d 170 71 [l0, l1, .int x, l3, l4, l5, l6, l7] (.int x :: st) h Q := jg_il rfl rfl
theorem s170_71 : jx_Go jxP d 170 71 [l0, l1, l2, l3, l4, l5, l6, l7] (.int y :: .int x :: st) h Q ↔ if y ≤ x then jx_Go jxP d 170 138 [l0, l1, l2, l3, l4, l5, l6, l7] st h Q else jx_Go jxP d 170 74 [l0, l1, l2, l3, l4, l5, l6, l7] st h Q := jg_icP rfl rfl
theorem s170_74 : jx_Go jxP d 170 74 [l0, l1, l2, l3, l4, l5, l6, l7] st h Q ↔ jx_Go jxP d 170 75 [l0, l1, l2, l3, l4, l5, l6, l7] (.int (nI 0) :: st) h Q := jg_c rfl
theorem s170_75 : jx_Go jxP d 170 75 [l0, l1, l2, l3, l4, l5, l6, l7] (.int x :: st) h Q ↔ jx_Go jxP d 170 77 [l0, l1, l2, l3, l4, l5, l6, .int x] st h Q := jg_is rfl rfl
theorem s170_77 : jx_Go jxP d 170 77 [l0, l1, l2, l3, l4, l5, l6, .int x] st h Q ↔ jx_Go jxP d 170 79 [l0, l1, l2, l3, l4, l5, l6, .int x] (.int x :: st) h Q := jg_il rfl rfl
theorem s170_79 : jx_Go jxP d 170 79 [l0, l1, l2, l3, l4, l5, .int x, l7] st h Q ↔ jx_Go jxP d 170 81 [l0, l1, l2, l3, l4, l5, .int x, l7] (.int x :: st) h Q := jg_il rfl rfl
theorem s170_81 : jx_Go jxP d 170 81 [l0, l1, l2, l3, l4, l5, l6, l7] (.int y :: .int x :: st) h Q ↔ if y ≤ x then jx_Go jxP d 170 132 [l0, l1, l2, l3, l4, l5, l6, l7] st h Q else jx_Go jxP d 170 84 [l0, l1, l2, l3, l4, l5, l6, l7] st h Q := jg_icP rfl rfl
theorem s170_84 : jx_Go jxP d 170 84 [l0, l1, l2, l3, l4, .int x, l6, l7] st h Q ↔ jx_Go jxP d 170 86 [l0, l1, l2, l3, l4, .int x, l6, l7] (.int x :: st) h Q := jg_il rfl rfl
theorem s170_86 : jx_Go jxP d 170 86 [l0, l1, l2, l3, .int x, l5, l6, l7] st h Q ↔ jx_Go jxP d 170 88 [l0, l1, l2, l3, .int x, l5, l6, l7] (.int x :: st) h Q := jg_il rfl rfl
theorem s170_88 : jx_Go jxP d 170 88 [l0, l1, l2, l3, l4, l5, .int x, l7] st h Q ↔ jx_Go jxP d 170 90 [l0, l1, l2, l3, l4, l5, .int x, l7] (.int x :: st) h Q := jg_il rfl rfl
theorem s170_90 : jx_Go jxP (d + 1) 170 90 [l0, l1, l2, l3, l4, l5, l6, l7] (.int x1 :: .int x0 :: st) h Q ↔ (st.length ≤ 4 ∧ jx_Go jxP d 132 0 [.int x0, .int x1] [] h (fun s1 h1 => jx_Go jxP (d + 1) 170 93 [l0, l1, l2, l3, l4, l5, l6, l7] (s1 ++ st) h1 Q)) := jg_callS (as := [.int x1, .int x0]) rfl rfl rfl rfl
theorem s170_93 : jx_Go jxP d 170 93 [l0, l1, l2, l3, l4, l5, l6, l7] (.int x :: st) h Q ↔ if x = 0 then jx_Go jxP d 170 118 [l0, l1, l2, l3, l4, l5, l6, l7] st h Q else jx_Go jxP d 170 96 [l0, l1, l2, l3, l4, l5, l6, l7] st h Q := jg_ifP rfl rfl
theorem s170_96 : jx_Go jxP d 170 96 [l0, l1, l2, l3, .int x, l5, l6, l7] st h Q ↔ jx_Go jxP d 170 98 [l0, l1, l2, l3, .int x, l5, l6, l7] (.int x :: st) h Q := jg_il rfl rfl
theorem s170_98 : jx_Go jxP d 170 98 [l0, l1, l2, l3, l4, l5, l6, .int x] st h Q ↔ jx_Go jxP d 170 100 [l0, l1, l2, l3, l4, l5, l6, .int x] (.int x :: st) h Q := jg_il rfl rfl
theorem s170_100 : jx_Go jxP (d + 1) 170 100 [l0, l1, l2, l3, l4, l5, l6, l7] (.int x1 :: .int x0 :: st) h Q ↔ (st.length ≤ 4 ∧ jx_Go jxP d 132 0 [.int x0, .int x1] [] h (fun s1 h1 => jx_Go jxP (d + 1) 170 103 [l0, l1, l2, l3, l4, l5, l6, l7] (s1 ++ st) h1 Q)) := jg_callS (as := [.int x1, .int x0]) rfl rfl rfl rfl
theorem s170_103 : jx_Go jxP d 170 103 [l0, l1, l2, l3, l4, l5, l6, l7] (.int x :: st) h Q ↔ if x = 0 then jx_Go jxP d 170 118 [l0, l1, l2, l3, l4, l5, l6, l7] st h Q else jx_Go jxP d 170 106 [l0, l1, l2, l3, l4, l5, l6, l7] st h Q := jg_ifP rfl rfl
theorem s170_106 : jx_Go jxP d 170 106 [.ref a, l1, l2, l3, l4, l5, l6, l7] st h Q ↔ jx_Go jxP d 170 107 [.ref a, l1, l2, l3, l4, l5, l6, l7] (.ref a :: st) h Q := jg_al rfl rfl
theorem s170_107 : jx_Go jxP d 170 107 [l0, .int x, l2, l3, l4, l5, l6, l7] st h Q ↔ jx_Go jxP d 170 108 [l0, .int x, l2, l3, l4, l5, l6, l7] (.int x :: st) h Q := jg_il rfl rfl
theorem s170_108 : jx_Go jxP d 170 108 [l0, l1, l2, l3, l4, l5, .int x, l7] st h Q ↔ jx_Go jxP d 170 110 [l0, l1, l2, l3, l4, l5, .int x, l7] (.int x :: st) h Q := jg_il rfl rfl
theorem s170_110 : jx_Go jxP d 170 110 [l0, l1, l2, l3, l4, l5, l6, .int x] st h Q ↔ jx_Go jxP d 170 112 [l0, l1, l2, l3, l4, l5, l6, .int x] (.int x :: st) h Q := jg_il rfl rfl
theorem s170_112 : jx_Go jxP (d + 1) 170 112 [l0, l1, l2, l3, l4, l5, l6, l7] (.int x2 :: .int x1 :: .int x0 :: .ref a :: st) h Q ↔ (st.length ≤ 4 ∧ jx_cl h a = some 12 ∧ jx_Go jxP d 169 0 [.ref a, .int x0, .int x1, .int x2, jx_u, jx_u] [] h (fun s1 h1 => jx_Go jxP (d + 1) 170 115 [l0, l1, l2, l3, l4, l5, l6, l7] (s1 ++ st) h1 Q)) := jg_callV (as := [.int x2, .int x1, .int x0, .ref a]) rfl rfl rfl rfl rfl
theorem s170_115 : jx_Go jxP d 170 115 [l0, l1, l2, l3, l4, l5, l6, l7] (.int x :: st) h Q ↔ if x = 0 then jx_Go jxP d 170 118 [l0, l1, l2, l3, l4, l5, l6, l7] st h Q else jx_Go jxP d 170 122 [l0, l1, l2, l3, l4, l5, l6, l7] st h Q := jg_ifN rfl rfl
theorem s170_118 : jx_Go jxP d 170 118 [l0, l1, l2, l3, l4, l5, l6, l7] st h Q ↔ jx_Go jxP d 170 119 [l0, l1, l2, l3, l4, l5, l6, l7] (.int (nI 1) :: st) h Q := jg_c rfl
theorem s170_119 : jx_Go jxP d 170 119 [l0, l1, l2, l3, l4, l5, l6, l7] st h Q ↔ jx_Go jxP d 170 123 [l0, l1, l2, l3, l4, l5, l6, l7] st h Q := jg_go rfl
theorem s170_122 : jx_Go jxP d 170 122 [l0, l1, l2, l3, l4, l5, l6, l7] st h Q ↔ jx_Go jxP d 170 123 [l0, l1, l2, l3, l4, l5, l6, l7] (.int (nI 0) :: st) h Q := jg_c rfl
theorem s170_123 : jx_Go jxP d 170 123 [l0, l1, l2, l3, l4, l5, l6, l7] (.int y :: .int x :: st) h Q ↔ jx_Go jxP d 170 124 [l0, l1, l2, l3, l4, l5, l6, l7] (.int (x &&& y) :: st) h Q := jg_b (f := fun x y => x &&& y) rfl
theorem s170_124 : jx_Go jxP d 170 124 [l0, l1, l2, l3, l4, l5, l6, l7] (.int x :: st) h Q ↔ jx_Go jxP d 170 126 [l0, l1, l2, l3, l4, .int x, l6, l7] st h Q := jg_is rfl rfl
theorem s170_126 : jx_Go jxP d 170 126 [l0, l1, l2, l3, l4, l5, l6, .int x] st h Q ↔ jx_Go jxP d 170 129 [l0, l1, l2, l3, l4, l5, l6, .int (x + (nI 1))] st h Q := jg_inc rfl rfl rfl
theorem s170_129 : jx_Go jxP d 170 129 [l0, l1, l2, l3, l4, l5, l6, l7] st h Q ↔ jx_Go jxP d 170 77 [l0, l1, l2, l3, l4, l5, l6, l7] st h Q := jg_go rfl
theorem s170_132 : jx_Go jxP d 170 132 [l0, l1, l2, l3, l4, l5, .int x, l7] st h Q ↔ jx_Go jxP d 170 135 [l0, l1, l2, l3, l4, l5, .int (x + (nI 1)), l7] st h Q := jg_inc rfl rfl rfl
theorem s170_135 : jx_Go jxP d 170 135 [l0, l1, l2, l3, l4, l5, l6, l7] st h Q ↔ jx_Go jxP d 170 68 [l0, l1, l2, l3, l4, l5, l6, l7] st h Q := jg_go rfl
theorem s170_138 : jx_Go jxP d 170 138 [.ref a, l1, l2, l3, l4, l5, l6, l7] st h Q ↔ jx_Go jxP d 170 139 [.ref a, l1, l2, l3, l4, l5, l6, l7] (.ref a :: st) h Q := jg_al rfl rfl
theorem s170_139 : jx_Go jxP d 170 139 [l0, l1, l2, l3, l4, l5, l6, l7] (.ref a :: st) h Q ↔ ∃ v, jx_fl h a 12 26 = some v ∧ jx_Go jxP d 170 142 [l0, l1, l2, l3, l4, l5, l6, l7] (v :: st) h Q := jg_gf rfl
theorem s170_142 : jx_Go jxP d 170 142 [l0, l1, l2, .int x, l4, l5, l6, l7] st h Q ↔ jx_Go jxP d 170 143 [l0, l1, l2, .int x, l4, l5, l6, l7] (.int x :: st) h Q := jg_il rfl rfl
theorem s170_143 : jx_Go jxP d 170 143 [l0, l1, l2, l3, l4, .int x, l6, l7] st h Q ↔ jx_Go jxP d 170 145 [l0, l1, l2, l3, l4, .int x, l6, l7] (.int x :: st) h Q := jg_il rfl rfl
theorem s170_145 : jx_Go jxP d 170 145 [l0, l1, l2, l3, l4, l5, l6, l7] (.int x :: st) h Q ↔ if x = 0 then jx_Go jxP d 170 186 [l0, l1, l2, l3, l4, l5, l6, l7] st h Q else jx_Go jxP d 170 148 [l0, l1, l2, l3, l4, l5, l6, l7] st h Q := jg_ifP rfl rfl
theorem s170_148 : jx_Go jxP d 170 148 [l0, l1, l2, l3, l4, l5, l6, l7] st h Q ↔ jx_Go jxP d 170 149 [l0, l1, l2, l3, l4, l5, l6, l7] (.int (nI 1) :: st) h Q := jg_c rfl
theorem s170_149 : jx_Go jxP d 170 149 [.ref a, l1, l2, l3, l4, l5, l6, l7] st h Q ↔ jx_Go jxP d 170 150 [.ref a, l1, l2, l3, l4, l5, l6, l7] (.ref a :: st) h Q := jg_al rfl rfl
theorem s170_150 : jx_Go jxP d 170 150 [l0, l1, l2, l3, l4, l5, l6, l7] (.ref a :: st) h Q ↔ ∃ v, jx_fl h a 12 26 = some v ∧ jx_Go jxP d 170 153 [l0, l1, l2, l3, l4, l5, l6, l7] (v :: st) h Q := jg_gf rfl
theorem s170_153 : jx_Go jxP d 170 153 [l0, l1, l2, .int x, l4, l5, l6, l7] st h Q ↔ jx_Go jxP d 170 154 [l0, l1, l2, .int x, l4, l5, l6, l7] (.int x :: st) h Q := jg_il rfl rfl
theorem s170_154 : jx_Go jxP d 170 154 [l0, l1, l2, l3, .int x, l5, l6, l7] st h Q ↔ jx_Go jxP d 170 156 [l0, l1, l2, l3, .int x, l5, l6, l7] (.int x :: st) h Q := jg_il rfl rfl
theorem s170_156 : jx_Go jxP d 170 156 [l0, l1, l2, l3, l4, l5, l6, l7] st h Q ↔ jx_Go jxP d 170 157 [l0, l1, l2, l3, l4, l5, l6, l7] (.int (-1) :: st) h Q := jg_c rfl
theorem s170_157 : jx_Go jxP d 170 157 [l0, l1, l2, l3, l4, l5, l6, l7] (.int y :: .int x :: st) h Q ↔ jx_Go jxP d 170 158 [l0, l1, l2, l3, l4, l5, l6, l7] (.int (x ^^^ y) :: st) h Q := jg_b (f := fun x y => x ^^^ y) rfl
theorem s170_158 : jx_Go jxP d 170 158 [l0, l1, l2, l3, l4, l5, l6, l7] (.int y :: .int x :: st) h Q ↔ jx_Go jxP d 170 159 [l0, l1, l2, l3, l4, l5, l6, l7] (.int (x &&& y) :: st) h Q := jg_b (f := fun x y => x &&& y) rfl
theorem s170_159 : jx_Go jxP d 170 159 [l0, l1, l2, l3, l4, l5, l6, l7] (.int x :: .ref a :: st) h Q ↔ ∃ q, jx_ai h a = some q ∧ jx_in x q.1 ∧ jx_Go jxP d 170 160 [l0, l1, l2, l3, l4, l5, l6, l7] (.int (q.2 x.toNatClampNeg) :: st) h Q := jg_ia rfl
theorem s170_160 : jx_Go jxP d 170 160 [l0, l1, l2, l3, l4, l5, l6, l7] (.int y :: .int x :: st) h Q ↔ jx_Go jxP d 170 161 [l0, l1, l2, l3, l4, l5, l6, l7] (.int (x + y) :: st) h Q := jg_b (f := fun x y => x + y) rfl
theorem s170_161 : jx_Go jxP d 170 161 [.ref a, l1, l2, l3, l4, l5, l6, l7] st h Q ↔ jx_Go jxP d 170 162 [.ref a, l1, l2, l3, l4, l5, l6, l7] (.ref a :: st) h Q := jg_al rfl rfl
theorem s170_162 : jx_Go jxP d 170 162 [l0, l1, l2, l3, l4, l5, l6, l7] (.ref a :: st) h Q ↔ ∃ v, jx_fl h a 12 26 = some v ∧ jx_Go jxP d 170 165 [l0, l1, l2, l3, l4, l5, l6, l7] (v :: st) h Q := jg_gf rfl
theorem s170_165 : jx_Go jxP d 170 165 [l0, l1, l2, .int x, l4, l5, l6, l7] st h Q ↔ jx_Go jxP d 170 166 [l0, l1, l2, .int x, l4, l5, l6, l7] (.int x :: st) h Q := jg_il rfl rfl
theorem s170_166 : jx_Go jxP d 170 166 [l0, l1, l2, l3, l4, l5, l6, l7] (.int x :: .ref a :: st) h Q ↔ ∃ q, jx_ai h a = some q ∧ jx_in x q.1 ∧ jx_Go jxP d 170 167 [l0, l1, l2, l3, l4, l5, l6, l7] (.int (q.2 x.toNatClampNeg) :: st) h Q := jg_ia rfl
theorem s170_167 : jx_Go jxP d 170 167 [l0, l1, l2, l3, l4, l5, l6, l7] (.int y :: .int x :: st) h Q ↔ if y ≤ x then jx_Go jxP d 170 186 [l0, l1, l2, l3, l4, l5, l6, l7] st h Q else jx_Go jxP d 170 170 [l0, l1, l2, l3, l4, l5, l6, l7] st h Q := jg_icP rfl rfl
theorem s170_170 : jx_Go jxP d 170 170 [l0, l1, l2, l3, l4, l5, l6, l7] st h Q ↔ jx_Go jxP d 170 171 [l0, l1, l2, l3, l4, l5, l6, l7] (.int (nI 1) :: st) h Q := jg_c rfl
theorem s170_171 : jx_Go jxP d 170 171 [.ref a, l1, l2, l3, l4, l5, l6, l7] st h Q ↔ jx_Go jxP d 170 172 [.ref a, l1, l2, l3, l4, l5, l6, l7] (.ref a :: st) h Q := jg_al rfl rfl
theorem s170_172 : jx_Go jxP d 170 172 [l0, l1, l2, l3, l4, l5, l6, l7] (.ref a :: st) h Q ↔ ∃ v, jx_fl h a 12 26 = some v ∧ jx_Go jxP d 170 175 [l0, l1, l2, l3, l4, l5, l6, l7] (v :: st) h Q := jg_gf rfl
theorem s170_175 : jx_Go jxP d 170 175 [l0, l1, l2, .int x, l4, l5, l6, l7] st h Q ↔ jx_Go jxP d 170 176 [l0, l1, l2, .int x, l4, l5, l6, l7] (.int x :: st) h Q := jg_il rfl rfl
theorem s170_176 : jx_Go jxP d 170 176 [l0, l1, l2, l3, .int x, l5, l6, l7] st h Q ↔ jx_Go jxP d 170 178 [l0, l1, l2, l3, .int x, l5, l6, l7] (.int x :: st) h Q := jg_il rfl rfl
theorem s170_178 : jx_Go jxP d 170 178 [l0, l1, l2, l3, l4, l5, l6, l7] st h Q ↔ jx_Go jxP d 170 179 [l0, l1, l2, l3, l4, l5, l6, l7] (.int (-1) :: st) h Q := jg_c rfl
theorem s170_179 : jx_Go jxP d 170 179 [l0, l1, l2, l3, l4, l5, l6, l7] (.int y :: .int x :: st) h Q ↔ jx_Go jxP d 170 180 [l0, l1, l2, l3, l4, l5, l6, l7] (.int (x ^^^ y) :: st) h Q := jg_b (f := fun x y => x ^^^ y) rfl
theorem s170_180 : jx_Go jxP d 170 180 [l0, l1, l2, l3, l4, l5, l6, l7] (.int y :: .int x :: st) h Q ↔ jx_Go jxP d 170 181 [l0, l1, l2, l3, l4, l5, l6, l7] (.int (x &&& y) :: st) h Q := jg_b (f := fun x y => x &&& y) rfl
theorem s170_181 : jx_Go jxP d 170 181 [l0, l1, l2, l3, l4, l5, l6, l7] (.int x :: .ref a :: st) h Q ↔ ∃ q, jx_ai h a = some q ∧ jx_in x q.1 ∧ jx_Go jxP d 170 182 [l0, l1, l2, l3, l4, l5, l6, l7] (.int (q.2 x.toNatClampNeg) :: st) h Q := jg_ia rfl
theorem s170_182 : jx_Go jxP d 170 182 [l0, l1, l2, l3, l4, l5, l6, l7] (.int y :: .int x :: st) h Q ↔ jx_Go jxP d 170 183 [l0, l1, l2, l3, l4, l5, l6, l7] (.int (x + y) :: st) h Q := jg_b (f := fun x y => x + y) rfl
theorem s170_183 : jx_Go jxP d 170 183 [l0, l1, l2, l3, l4, l5, l6, l7] st h Q ↔ jx_Go jxP d 170 192 [l0, l1, l2, l3, l4, l5, l6, l7] st h Q := jg_go rfl
theorem s170_186 : jx_Go jxP d 170 186 [.ref a, l1, l2, l3, l4, l5, l6, l7] st h Q ↔ jx_Go jxP d 170 187 [.ref a, l1, l2, l3, l4, l5, l6, l7] (.ref a :: st) h Q := jg_al rfl rfl
theorem s170_187 : jx_Go jxP d 170 187 [l0, l1, l2, l3, l4, l5, l6, l7] (.ref a :: st) h Q ↔ ∃ v, jx_fl h a 12 26 = some v ∧ jx_Go jxP d 170 190 [l0, l1, l2, l3, l4, l5, l6, l7] (v :: st) h Q := jg_gf rfl
theorem s170_190 : jx_Go jxP d 170 190 [l0, l1, l2, .int x, l4, l5, l6, l7] st h Q ↔ jx_Go jxP d 170 191 [l0, l1, l2, .int x, l4, l5, l6, l7] (.int x :: st) h Q := jg_il rfl rfl
theorem s170_191 : jx_Go jxP d 170 191 [l0, l1, l2, l3, l4, l5, l6, l7] (.int x :: .ref a :: st) h Q ↔ ∃ q, jx_ai h a = some q ∧ jx_in x q.1 ∧ jx_Go jxP d 170 192 [l0, l1, l2, l3, l4, l5, l6, l7] (.int (q.2 x.toNatClampNeg) :: st) h Q := jg_ia rfl
theorem s170_192 : jx_Go jxP d 170 192 [l0, l1, l2, l3, l4, l5, l6, l7] (.int y :: .int x :: .ref a :: st) h Q ↔ ∃ q, jx_ai h a = some q ∧ jx_in x q.1 ∧ jx_Go jxP d 170 193 [l0, l1, l2, l3, l4, l5, l6, l7] st (jx_wi h a q.1 (upd q.2 x.toNatClampNeg y)) Q := jg_iw rfl
theorem s170_193 : jx_Go jxP d 170 193 [l0, l1, l2, l3, .int x, l5, l6, l7] st h Q ↔ jx_Go jxP d 170 196 [l0, l1, l2, l3, .int (x + (nI 1)), l5, l6, l7] st h Q := jg_inc rfl rfl rfl
theorem s170_196 : jx_Go jxP d 170 196 [l0, l1, l2, l3, l4, l5, l6, l7] st h Q ↔ jx_Go jxP d 170 43 [l0, l1, l2, l3, l4, l5, l6, l7] st h Q := jg_go rfl
theorem s170_199 : jx_Go jxP d 170 199 [l0, l1, l2, .int x, l4, l5, l6, l7] st h Q ↔ jx_Go jxP d 170 202 [l0, l1, l2, .int (x + (nI 1)), l4, l5, l6, l7] st h Q := jg_inc rfl rfl rfl
theorem s170_202 : jx_Go jxP d 170 202 [l0, l1, l2, l3, l4, l5, l6, l7] st h Q ↔ jx_Go jxP d 170 25 [l0, l1, l2, l3, l4, l5, l6, l7] st h Q := jg_go rfl
theorem s170_205 : jx_Go jxP d 170 205 [.ref a, l1, l2, l3, l4, l5, l6, l7] st h Q ↔ jx_Go jxP d 170 206 [.ref a, l1, l2, l3, l4, l5, l6, l7] (.ref a :: st) h Q := jg_al rfl rfl
theorem s170_206 : jx_Go jxP d 170 206 [l0, l1, l2, l3, l4, l5, l6, l7] (.ref a :: st) h Q ↔ ∃ v, jx_fl h a 12 26 = some v ∧ jx_Go jxP d 170 209 [l0, l1, l2, l3, l4, l5, l6, l7] (v :: st) h Q := jg_gf rfl
theorem s170_209 : jx_Go jxP d 170 209 [l0, l1, l2, l3, l4, l5, l6, l7] st h Q ↔ jx_Go jxP d 170 210 [l0, l1, l2, l3, l4, l5, l6, l7] (.int (nI 1) :: st) h Q := jg_c rfl
theorem s170_210 : jx_Go jxP d 170 210 [l0, l1, .int x, l3, l4, l5, l6, l7] st h Q ↔ jx_Go jxP d 170 211 [l0, l1, .int x, l3, l4, l5, l6, l7] (.int x :: st) h Q := jg_il rfl rfl
theorem s170_211 : jx_Go jxP d 170 211 [l0, l1, l2, l3, l4, l5, l6, l7] (.int y :: .int x :: st) h Q ↔ jx_Go jxP d 170 212 [l0, l1, l2, l3, l4, l5, l6, l7] (.int (x <<< (y &&& 31)) :: st) h Q := jg_b (f := fun x y => x <<< (y &&& 31)) rfl
theorem s170_212 : jx_Go jxP d 170 212 [l0, l1, l2, l3, l4, l5, l6, l7] st h Q ↔ jx_Go jxP d 170 213 [l0, l1, l2, l3, l4, l5, l6, l7] (.int (nI 1) :: st) h Q := jg_c rfl
theorem s170_213 : jx_Go jxP d 170 213 [l0, l1, l2, l3, l4, l5, l6, l7] (.int y :: .int x :: st) h Q ↔ jx_Go jxP d 170 214 [l0, l1, l2, l3, l4, l5, l6, l7] (.int (x - y) :: st) h Q := jg_b (f := fun x y => x - y) rfl
theorem s170_214 : jx_Go jxP d 170 214 [l0, l1, l2, l3, l4, l5, l6, l7] (.int x :: .ref a :: st) h Q ↔ ∃ q, jx_ai h a = some q ∧ jx_in x q.1 ∧ jx_Go jxP d 170 215 [l0, l1, l2, l3, l4, l5, l6, l7] (.int (q.2 x.toNatClampNeg) :: st) h Q := jg_ia rfl
theorem s170_215 : jx_Go jxP d 170 215 [l0, l1, l2, l3, l4, l5, l6, l7] [.int x] h Q ↔ Q [.int x] h := jx_rt rfl rfl
-- 171 TalkBenchModel.once
theorem s171_0 : jx_Go jxP d 171 0 [.ref a, l1, l2, l3] st h Q ↔ jx_Go jxP d 171 1 [.ref a, l1, l2, l3] (.ref a :: st) h Q := jg_al rfl rfl
theorem s171_1 : jx_Go jxP d 171 1 [l0, .int x, l2, l3] st h Q ↔ jx_Go jxP d 171 2 [l0, .int x, l2, l3] (.int x :: st) h Q := jg_il rfl rfl
theorem s171_2 : jx_Go jxP (d + 1) 171 2 [l0, l1, l2, l3] (.int x0 :: .ref a :: st) h Q ↔ (st.length ≤ 4 ∧ jx_cl h a = some 12 ∧ jx_Go jxP d 170 0 [.ref a, .int x0, jx_u, jx_u, jx_u, jx_u, jx_u, jx_u] [] h (fun s1 h1 => jx_Go jxP (d + 1) 171 5 [l0, l1, l2, l3] (s1 ++ st) h1 Q)) := jg_callV (as := [.int x0, .ref a]) rfl rfl rfl rfl rfl
theorem s171_5 : jx_Go jxP d 171 5 [l0, l1, l2, l3] (.int x :: st) h Q ↔ jx_Go jxP d 171 6 [l0, l1, .int x, l3] st h Q := jg_is rfl rfl
theorem s171_6 : jx_Go jxP d 171 6 [l0, l1, l2, l3] st h Q ↔ jx_Go jxP d 171 7 [l0, l1, l2, l3] (.int (nI 0) :: st) h Q := jg_c rfl
theorem s171_7 : jx_Go jxP d 171 7 [l0, l1, l2, l3] (.int x :: st) h Q ↔ jx_Go jxP d 171 8 [l0, l1, l2, .int x] st h Q := jg_is rfl rfl
theorem s171_8 : jx_Go jxP d 171 8 [l0, l1, l2, l3] st h Q ↔ jx_Go jxP d 171 9 [l0, l1, l2, l3] (.int (nI 1) :: st) h Q := jg_c rfl
theorem s171_9 : jx_Go jxP d 171 9 [l0, l1, l2, .int x] st h Q ↔ jx_Go jxP d 171 10 [l0, l1, l2, .int x] (.int x :: st) h Q := jg_il rfl rfl
theorem s171_10 : jx_Go jxP d 171 10 [l0, l1, l2, l3] (.int y :: .int x :: st) h Q ↔ jx_Go jxP d 171 11 [l0, l1, l2, l3] (.int (x <<< (y &&& 31)) :: st) h Q := jg_b (f := fun x y => x <<< (y &&& 31)) rfl
theorem s171_11 : jx_Go jxP d 171 11 [l0, l1, .int x, l3] st h Q ↔ jx_Go jxP d 171 12 [l0, l1, .int x, l3] (.int x :: st) h Q := jg_il rfl rfl
theorem s171_12 : jx_Go jxP d 171 12 [l0, l1, l2, l3] (.int y :: .int x :: st) h Q ↔ if y ≤ x then jx_Go jxP d 171 21 [l0, l1, l2, l3] st h Q else jx_Go jxP d 171 15 [l0, l1, l2, l3] st h Q := jg_icP rfl rfl
theorem s171_15 : jx_Go jxP d 171 15 [l0, l1, l2, .int x] st h Q ↔ jx_Go jxP d 171 18 [l0, l1, l2, .int (x + (nI 1))] st h Q := jg_inc rfl rfl rfl
theorem s171_18 : jx_Go jxP d 171 18 [l0, l1, l2, l3] st h Q ↔ jx_Go jxP d 171 8 [l0, l1, l2, l3] st h Q := jg_go rfl
theorem s171_21 : jx_Go jxP d 171 21 [l0, l1, l2, .int x] st h Q ↔ jx_Go jxP d 171 22 [l0, l1, l2, .int x] (.int x :: st) h Q := jg_il rfl rfl
theorem s171_22 : jx_Go jxP d 171 22 [l0, l1, l2, l3] [.int x] h Q ↔ Q [.int x] h := jx_rt rfl rfl
-- 172 TalkBenchModel.swapLines
theorem s172_0 : jx_Go jxP d 172 0 [l0, l1, l2, l3, l4, l5, l6, l7, l8, l9, l10, l11, l12] st h Q ↔ jx_Go jxP d 172 1 [l0, l1, l2, l3, l4, l5, l6, l7, l8, l9, l10, l11, l12] (.int (nI 0) :: st) h Q := jg_c rfl
theorem s172_1 : jx_Go jxP d 172 1 [l0, l1, l2, l3, l4, l5, l6, l7, l8, l9, l10, l11, l12] (.int x :: st) h Q ↔ jx_Go jxP d 172 2 [l0, l1, l2, .int x, l4, l5, l6, l7, l8, jx_u, jx_u, l11, l12] st h Q := jg_is rfl rfl
theorem s172_2 : jx_Go jxP d 172 2 [l0, l1, l2, .int x, l4, l5, l6, l7, l8, l9, l10, l11, l12] st h Q ↔ jx_Go jxP d 172 3 [l0, l1, l2, .int x, l4, l5, l6, l7, l8, l9, l10, l11, l12] (.int x :: st) h Q := jg_il rfl rfl
theorem s172_3 : jx_Go jxP d 172 3 [.ref a, l1, l2, l3, l4, l5, l6, l7, l8, l9, l10, l11, l12] st h Q ↔ jx_Go jxP d 172 4 [.ref a, l1, l2, l3, l4, l5, l6, l7, l8, l9, l10, l11, l12] (.ref a :: st) h Q := jg_al rfl rfl
theorem s172_4 : jx_Go jxP d 172 4 [l0, l1, l2, l3, l4, l5, l6, l7, l8, l9, l10, l11, l12] (.ref a :: st) h Q ↔ ∃ v, jx_fl h a 12 1 = some v ∧ jx_Go jxP d 172 7 [l0, l1, l2, l3, l4, l5, l6, l7, l8, l9, l10, l11, l12] (v :: st) h Q := jg_gf rfl
theorem s172_7 : jx_Go jxP d 172 7 [l0, l1, l2, l3, l4, l5, l6, l7, l8, l9, l10, l11, l12] (.int y :: .int x :: st) h Q ↔ if y ≤ x then jx_Go jxP d 172 60 [l0, l1, l2, l3, l4, l5, l6, l7, l8, l9, l10, l11, l12] st h Q else jx_Go jxP d 172 10 [l0, l1, l2, l3, l4, l5, l6, l7, l8, l9, l10, l11, l12] st h Q := jg_icP rfl rfl
theorem s172_10 : jx_Go jxP d 172 10 [.ref a, l1, l2, l3, l4, l5, l6, l7, l8, l9, l10, l11, l12] st h Q ↔ jx_Go jxP d 172 11 [.ref a, l1, l2, l3, l4, l5, l6, l7, l8, l9, l10, l11, l12] (.ref a :: st) h Q := jg_al rfl rfl
theorem s172_11 : jx_Go jxP d 172 11 [l0, l1, l2, l3, l4, l5, l6, l7, l8, l9, l10, l11, l12] (.ref a :: st) h Q ↔ ∃ v, jx_fl h a 12 27 = some v ∧ jx_Go jxP d 172 14 [l0, l1, l2, l3, l4, l5, l6, l7, l8, l9, l10, l11, l12] (v :: st) h Q := jg_gf rfl
theorem s172_14 : jx_Go jxP d 172 14 [l0, l1, l2, l3, l4, l5, l6, l7, l8, l9, l10, l11, l12] st h Q ↔ jx_Go jxP d 172 15 [l0, l1, l2, l3, l4, l5, l6, l7, l8, l9, l10, l11, l12] (.int (nI 5) :: st) h Q := jg_c rfl
theorem s172_15 : jx_Go jxP d 172 15 [l0, .int x, l2, l3, l4, l5, l6, l7, l8, l9, l10, l11, l12] st h Q ↔ jx_Go jxP d 172 16 [l0, .int x, l2, l3, l4, l5, l6, l7, l8, l9, l10, l11, l12] (.int x :: st) h Q := jg_il rfl rfl
theorem s172_16 : jx_Go jxP d 172 16 [l0, l1, l2, l3, l4, l5, l6, l7, l8, l9, l10, l11, l12] (.int y :: .int x :: st) h Q ↔ jx_Go jxP d 172 17 [l0, l1, l2, l3, l4, l5, l6, l7, l8, l9, l10, l11, l12] (.int (x * y) :: st) h Q := jg_b (f := fun x y => x * y) rfl
theorem s172_17 : jx_Go jxP d 172 17 [l0, l1, l2, .int x, l4, l5, l6, l7, l8, l9, l10, l11, l12] st h Q ↔ jx_Go jxP d 172 18 [l0, l1, l2, .int x, l4, l5, l6, l7, l8, l9, l10, l11, l12] (.int x :: st) h Q := jg_il rfl rfl
theorem s172_18 : jx_Go jxP d 172 18 [l0, l1, l2, l3, l4, l5, l6, l7, l8, l9, l10, l11, l12] (.int y :: .int x :: st) h Q ↔ jx_Go jxP d 172 19 [l0, l1, l2, l3, l4, l5, l6, l7, l8, l9, l10, l11, l12] (.int (x + y) :: st) h Q := jg_b (f := fun x y => x + y) rfl
theorem s172_19 : jx_Go jxP d 172 19 [l0, l1, l2, l3, l4, l5, l6, l7, l8, l9, l10, l11, l12] (.int x :: .ref a :: st) h Q ↔ ∃ q, jx_al h a = some q ∧ jx_in x q.1 ∧ jx_Go jxP d 172 20 [l0, l1, l2, l3, l4, l5, l6, l7, l8, l9, l10, l11, l12] (.long (q.2 x.toNatClampNeg) :: st) h Q := jg_la rfl
theorem s172_20 : jx_Go jxP d 172 20 [l0, l1, l2, l3, l4, l5, l6, l7, l8, l9, l10, l11, l12] (.long u :: st) h Q ↔ jx_Go jxP d 172 22 [l0, l1, l2, l3, jx_u, jx_u, l6, l7, l8, l9, jx_u, .long u, jx_u] st h Q := jg_ls rfl rfl
theorem s172_22 : jx_Go jxP d 172 22 [.ref a, l1, l2, l3, l4, l5, l6, l7, l8, l9, l10, l11, l12] st h Q ↔ jx_Go jxP d 172 23 [.ref a, l1, l2, l3, l4, l5, l6, l7, l8, l9, l10, l11, l12] (.ref a :: st) h Q := jg_al rfl rfl
theorem s172_23 : jx_Go jxP d 172 23 [l0, l1, l2, l3, l4, l5, l6, l7, l8, l9, l10, l11, l12] (.ref a :: st) h Q ↔ ∃ v, jx_fl h a 12 27 = some v ∧ jx_Go jxP d 172 26 [l0, l1, l2, l3, l4, l5, l6, l7, l8, l9, l10, l11, l12] (v :: st) h Q := jg_gf rfl
theorem s172_26 : jx_Go jxP d 172 26 [l0, l1, l2, l3, l4, l5, l6, l7, l8, l9, l10, l11, l12] st h Q ↔ jx_Go jxP d 172 27 [l0, l1, l2, l3, l4, l5, l6, l7, l8, l9, l10, l11, l12] (.int (nI 5) :: st) h Q := jg_c rfl
theorem s172_27 : jx_Go jxP d 172 27 [l0, .int x, l2, l3, l4, l5, l6, l7, l8, l9, l10, l11, l12] st h Q ↔ jx_Go jxP d 172 28 [l0, .int x, l2, l3, l4, l5, l6, l7, l8, l9, l10, l11, l12] (.int x :: st) h Q := jg_il rfl rfl
theorem s172_28 : jx_Go jxP d 172 28 [l0, l1, l2, l3, l4, l5, l6, l7, l8, l9, l10, l11, l12] (.int y :: .int x :: st) h Q ↔ jx_Go jxP d 172 29 [l0, l1, l2, l3, l4, l5, l6, l7, l8, l9, l10, l11, l12] (.int (x * y) :: st) h Q := jg_b (f := fun x y => x * y) rfl
theorem s172_29 : jx_Go jxP d 172 29 [l0, l1, l2, .int x, l4, l5, l6, l7, l8, l9, l10, l11, l12] st h Q ↔ jx_Go jxP d 172 30 [l0, l1, l2, .int x, l4, l5, l6, l7, l8, l9, l10, l11, l12] (.int x :: st) h Q := jg_il rfl rfl
theorem s172_30 : jx_Go jxP d 172 30 [l0, l1, l2, l3, l4, l5, l6, l7, l8, l9, l10, l11, l12] (.int y :: .int x :: st) h Q ↔ jx_Go jxP d 172 31 [l0, l1, l2, l3, l4, l5, l6, l7, l8, l9, l10, l11, l12] (.int (x + y) :: st) h Q := jg_b (f := fun x y => x + y) rfl
theorem s172_31 : jx_Go jxP d 172 31 [.ref a, l1, l2, l3, l4, l5, l6, l7, l8, l9, l10, l11, l12] st h Q ↔ jx_Go jxP d 172 32 [.ref a, l1, l2, l3, l4, l5, l6, l7, l8, l9, l10, l11, l12] (.ref a :: st) h Q := jg_al rfl rfl
theorem s172_32 : jx_Go jxP d 172 32 [l0, l1, l2, l3, l4, l5, l6, l7, l8, l9, l10, l11, l12] (.ref a :: st) h Q ↔ ∃ v, jx_fl h a 12 27 = some v ∧ jx_Go jxP d 172 35 [l0, l1, l2, l3, l4, l5, l6, l7, l8, l9, l10, l11, l12] (v :: st) h Q := jg_gf rfl
theorem s172_35 : jx_Go jxP d 172 35 [l0, l1, l2, l3, l4, l5, l6, l7, l8, l9, l10, l11, l12] st h Q ↔ jx_Go jxP d 172 36 [l0, l1, l2, l3, l4, l5, l6, l7, l8, l9, l10, l11, l12] (.int (nI 5) :: st) h Q := jg_c rfl
theorem s172_36 : jx_Go jxP d 172 36 [l0, l1, .int x, l3, l4, l5, l6, l7, l8, l9, l10, l11, l12] st h Q ↔ jx_Go jxP d 172 37 [l0, l1, .int x, l3, l4, l5, l6, l7, l8, l9, l10, l11, l12] (.int x :: st) h Q := jg_il rfl rfl
theorem s172_37 : jx_Go jxP d 172 37 [l0, l1, l2, l3, l4, l5, l6, l7, l8, l9, l10, l11, l12] (.int y :: .int x :: st) h Q ↔ jx_Go jxP d 172 38 [l0, l1, l2, l3, l4, l5, l6, l7, l8, l9, l10, l11, l12] (.int (x * y) :: st) h Q := jg_b (f := fun x y => x * y) rfl
theorem s172_38 : jx_Go jxP d 172 38 [l0, l1, l2, .int x, l4, l5, l6, l7, l8, l9, l10, l11, l12] st h Q ↔ jx_Go jxP d 172 39 [l0, l1, l2, .int x, l4, l5, l6, l7, l8, l9, l10, l11, l12] (.int x :: st) h Q := jg_il rfl rfl
theorem s172_39 : jx_Go jxP d 172 39 [l0, l1, l2, l3, l4, l5, l6, l7, l8, l9, l10, l11, l12] (.int y :: .int x :: st) h Q ↔ jx_Go jxP d 172 40 [l0, l1, l2, l3, l4, l5, l6, l7, l8, l9, l10, l11, l12] (.int (x + y) :: st) h Q := jg_b (f := fun x y => x + y) rfl
theorem s172_40 : jx_Go jxP d 172 40 [l0, l1, l2, l3, l4, l5, l6, l7, l8, l9, l10, l11, l12] (.int x :: .ref a :: st) h Q ↔ ∃ q, jx_al h a = some q ∧ jx_in x q.1 ∧ jx_Go jxP d 172 41 [l0, l1, l2, l3, l4, l5, l6, l7, l8, l9, l10, l11, l12] (.long (q.2 x.toNatClampNeg) :: st) h Q := jg_la rfl
theorem s172_41 : jx_Go jxP d 172 41 [l0, l1, l2, l3, l4, l5, l6, l7, l8, l9, l10, l11, l12] (.long u :: .int x :: .ref a :: st) h Q ↔ ∃ q, jx_al h a = some q ∧ jx_in x q.1 ∧ jx_Go jxP d 172 42 [l0, l1, l2, l3, l4, l5, l6, l7, l8, l9, l10, l11, l12] st (jx_wl h a q.1 (vp_updL q.2 x.toNatClampNeg u)) Q := jg_lw rfl
theorem s172_42 : jx_Go jxP d 172 42 [.ref a, l1, l2, l3, l4, l5, l6, l7, l8, l9, l10, l11, l12] st h Q ↔ jx_Go jxP d 172 43 [.ref a, l1, l2, l3, l4, l5, l6, l7, l8, l9, l10, l11, l12] (.ref a :: st) h Q := jg_al rfl rfl
theorem s172_43 : jx_Go jxP d 172 43 [l0, l1, l2, l3, l4, l5, l6, l7, l8, l9, l10, l11, l12] (.ref a :: st) h Q ↔ ∃ v, jx_fl h a 12 27 = some v ∧ jx_Go jxP d 172 46 [l0, l1, l2, l3, l4, l5, l6, l7, l8, l9, l10, l11, l12] (v :: st) h Q := jg_gf rfl
theorem s172_46 : jx_Go jxP d 172 46 [l0, l1, l2, l3, l4, l5, l6, l7, l8, l9, l10, l11, l12] st h Q ↔ jx_Go jxP d 172 47 [l0, l1, l2, l3, l4, l5, l6, l7, l8, l9, l10, l11, l12] (.int (nI 5) :: st) h Q := jg_c rfl
theorem s172_47 : jx_Go jxP d 172 47 [l0, l1, .int x, l3, l4, l5, l6, l7, l8, l9, l10, l11, l12] st h Q ↔ jx_Go jxP d 172 48 [l0, l1, .int x, l3, l4, l5, l6, l7, l8, l9, l10, l11, l12] (.int x :: st) h Q := jg_il rfl rfl
theorem s172_48 : jx_Go jxP d 172 48 [l0, l1, l2, l3, l4, l5, l6, l7, l8, l9, l10, l11, l12] (.int y :: .int x :: st) h Q ↔ jx_Go jxP d 172 49 [l0, l1, l2, l3, l4, l5, l6, l7, l8, l9, l10, l11, l12] (.int (x * y) :: st) h Q := jg_b (f := fun x y => x * y) rfl
theorem s172_49 : jx_Go jxP d 172 49 [l0, l1, l2, .int x, l4, l5, l6, l7, l8, l9, l10, l11, l12] st h Q ↔ jx_Go jxP d 172 50 [l0, l1, l2, .int x, l4, l5, l6, l7, l8, l9, l10, l11, l12] (.int x :: st) h Q := jg_il rfl rfl
theorem s172_50 : jx_Go jxP d 172 50 [l0, l1, l2, l3, l4, l5, l6, l7, l8, l9, l10, l11, l12] (.int y :: .int x :: st) h Q ↔ jx_Go jxP d 172 51 [l0, l1, l2, l3, l4, l5, l6, l7, l8, l9, l10, l11, l12] (.int (x + y) :: st) h Q := jg_b (f := fun x y => x + y) rfl
theorem s172_51 : jx_Go jxP d 172 51 [l0, l1, l2, l3, l4, l5, l6, l7, l8, l9, l10, .long u, l12] st h Q ↔ jx_Go jxP d 172 53 [l0, l1, l2, l3, l4, l5, l6, l7, l8, l9, l10, .long u, l12] (.long u :: st) h Q := jg_ll rfl rfl
theorem s172_53 : jx_Go jxP d 172 53 [l0, l1, l2, l3, l4, l5, l6, l7, l8, l9, l10, l11, l12] (.long u :: .int x :: .ref a :: st) h Q ↔ ∃ q, jx_al h a = some q ∧ jx_in x q.1 ∧ jx_Go jxP d 172 54 [l0, l1, l2, l3, l4, l5, l6, l7, l8, l9, l10, l11, l12] st (jx_wl h a q.1 (vp_updL q.2 x.toNatClampNeg u)) Q := jg_lw rfl
theorem s172_54 : jx_Go jxP d 172 54 [l0, l1, l2, .int x, l4, l5, l6, l7, l8, l9, l10, l11, l12] st h Q ↔ jx_Go jxP d 172 57 [l0, l1, l2, .int (x + (nI 1)), l4, l5, l6, l7, l8, jx_u, jx_u, l11, l12] st h Q := jg_inc rfl rfl rfl
theorem s172_57 : jx_Go jxP d 172 57 [l0, l1, l2, l3, l4, l5, l6, l7, l8, l9, l10, l11, l12] st h Q ↔ jx_Go jxP d 172 2 [l0, l1, l2, l3, l4, l5, l6, l7, l8, l9, l10, l11, l12] st h Q := jg_go rfl
theorem s172_60 : jx_Go jxP d 172 60 [l0, l1, l2, l3, l4, l5, l6, l7, l8, l9, l10, l11, l12] [] h Q ↔ Q [] h := jx_rt rfl rfl
-- 173 TalkBenchModel.rank
theorem s173_0 : jx_Go jxP d 173 0 [.ref a, l1, l2, l3, l4, l5, l6, l7, l8, l9, l10, l11, l12, l13, l14, l15, l16, l17, l18, l19, l20, l21, l22, l23, l24, l25, l26] st h Q ↔ jx_Go jxP d 173 1 [.ref a, l1, l2, l3, l4, l5, l6, l7, l8, l9, l10, l11, l12, l13, l14, l15, l16, l17, l18, l19, l20, l21, l22, l23, l24, l25, l26] (.ref a :: st) h Q := jg_al rfl rfl
theorem s173_1 : jx_Go jxP d 173 1 [l0, l1, l2, l3, l4, l5, l6, l7, l8, l9, l10, l11, l12, l13, l14, l15, l16, l17, l18, l19, l20, l21, l22, l23, l24, l25, l26] st h Q ↔ jx_Go jxP d 173 2 [l0, l1, l2, l3, l4, l5, l6, l7, l8, l9, l10, l11, l12, l13, l14, l15, l16, l17, l18, l19, l20, l21, l22, l23, l24, l25, l26] (.int (nI 2) :: st) h Q := jg_c rfl
theorem s173_2 : jx_Go jxP (d + 1) 173 2 [l0, l1, l2, l3, l4, l5, l6, l7, l8, l9, l10, l11, l12, l13, l14, l15, l16, l17, l18, l19, l20, l21, l22, l23, l24, l25, l26] (.int x0 :: .ref a :: st) h Q ↔ (st.length ≤ 4 ∧ jx_cl h a = some 12 ∧ jx_Go jxP d 138 0 [.ref a, .int x0, jx_u, jx_u, jx_u] [] h (fun s1 h1 => jx_Go jxP (d + 1) 173 5 [l0, l1, l2, l3, l4, l5, l6, l7, l8, l9, l10, l11, l12, l13, l14, l15, l16, l17, l18, l19, l20, l21, l22, l23, l24, l25, l26] (s1 ++ st) h1 Q)) := jg_callV (as := [.int x0, .ref a]) rfl rfl rfl rfl rfl
theorem s173_5 : jx_Go jxP d 173 5 [l0, l1, l2, l3, l4, l5, l6, l7, l8, l9, l10, l11, l12, l13, l14, l15, l16, l17, l18, l19, l20, l21, l22, l23, l24, l25, l26] (.int x :: st) h Q ↔ if x ≤ 0 then jx_Go jxP d 173 15 [l0, l1, l2, l3, l4, l5, l6, l7, l8, l9, l10, l11, l12, l13, l14, l15, l16, l17, l18, l19, l20, l21, l22, l23, l24, l25, l26] st h Q else jx_Go jxP d 173 8 [l0, l1, l2, l3, l4, l5, l6, l7, l8, l9, l10, l11, l12, l13, l14, l15, l16, l17, l18, l19, l20, l21, l22, l23, l24, l25, l26] st h Q := jg_ifP rfl rfl
theorem s173_8 : jx_Go jxP d 173 8 [.ref a, l1, l2, l3, l4, l5, l6, l7, l8, l9, l10, l11, l12, l13, l14, l15, l16, l17, l18, l19, l20, l21, l22, l23, l24, l25, l26] st h Q ↔ jx_Go jxP d 173 9 [.ref a, l1, l2, l3, l4, l5, l6, l7, l8, l9, l10, l11, l12, l13, l14, l15, l16, l17, l18, l19, l20, l21, l22, l23, l24, l25, l26] (.ref a :: st) h Q := jg_al rfl rfl
theorem s173_9 : jx_Go jxP d 173 9 [l0, l1, l2, l3, l4, l5, l6, l7, l8, l9, l10, l11, l12, l13, l14, l15, l16, l17, l18, l19, l20, l21, l22, l23, l24, l25, l26] st h Q ↔ jx_Go jxP d 173 11 [l0, l1, l2, l3, l4, l5, l6, l7, l8, l9, l10, l11, l12, l13, l14, l15, l16, l17, l18, l19, l20, l21, l22, l23, l24, l25, l26] (.int (-8) :: st) h Q := jg_c rfl
theorem s173_11 : jx_Go jxP (d + 1) 173 11 [l0, l1, l2, l3, l4, l5, l6, l7, l8, l9, l10, l11, l12, l13, l14, l15, l16, l17, l18, l19, l20, l21, l22, l23, l24, l25, l26] (.int x0 :: .ref a :: st) h Q ↔ (st.length ≤ 4 ∧ jx_cl h a = some 12 ∧ jx_Go jxP d 130 0 [.ref a, .int x0] [] h (fun s1 h1 => jx_Go jxP (d + 1) 173 14 [l0, l1, l2, l3, l4, l5, l6, l7, l8, l9, l10, l11, l12, l13, l14, l15, l16, l17, l18, l19, l20, l21, l22, l23, l24, l25, l26] (s1 ++ st) h1 Q)) := jg_callV (as := [.int x0, .ref a]) rfl rfl rfl rfl rfl
theorem s173_14 : jx_Go jxP d 173 14 [l0, l1, l2, l3, l4, l5, l6, l7, l8, l9, l10, l11, l12, l13, l14, l15, l16, l17, l18, l19, l20, l21, l22, l23, l24, l25, l26] [.int x] h Q ↔ Q [.int x] h := jx_rt rfl rfl
theorem s173_15 : jx_Go jxP d 173 15 [l0, l1, l2, l3, l4, l5, l6, l7, l8, l9, l10, l11, l12, l13, l14, l15, l16, l17, l18, l19, l20, l21, l22, l23, l24, l25, l26] st h Q ↔ jx_Go jxP d 173 16 [l0, l1, l2, l3, l4, l5, l6, l7, l8, l9, l10, l11, l12, l13, l14, l15, l16, l17, l18, l19, l20, l21, l22, l23, l24, l25, l26] (.int (nI 0) :: st) h Q := jg_c rfl
theorem s173_16 : jx_Go jxP d 173 16 [l0, l1, l2, l3, l4, l5, l6, l7, l8, l9, l10, l11, l12, l13, l14, l15, l16, l17, l18, l19, l20, l21, l22, l23, l24, l25, l26] (.int x :: st) h Q ↔ jx_Go jxP d 173 17 [l0, l1, .int x, l3, l4, l5, l6, l7, l8, l9, l10, l11, l12, l13, l14, jx_u, jx_u, l17, l18, l19, l20, l21, l22, l23, l24, l25, l26] st h Q := jg_is rfl rfl
theorem s173_17 : jx_Go jxP d 173 17 [l0, l1, .int x, l3, l4, l5, l6, l7, l8, l9, l10, l11, l12, l13, l14, l15, l16, l17, l18, l19, l20, l21, l22, l23, l24, l25, l26] st h Q ↔ jx_Go jxP d 173 18 [l0, l1, .int x, l3, l4, l5, l6, l7, l8, l9, l10, l11, l12, l13, l14, l15, l16, l17, l18, l19, l20, l21, l22, l23, l24, l25, l26] (.int x :: st) h Q := jg_il rfl rfl
theorem s173_18 : jx_Go jxP d 173 18 [l0, l1, l2, l3, l4, l5, l6, l7, l8, l9, l10, l11, l12, l13, l14, l15, l16, l17, l18, l19, l20, l21, l22, l23, l24, l25, l26] st h Q ↔ jx_Go jxP d 173 20 [l0, l1, l2, l3, l4, l5, l6, l7, l8, l9, l10, l11, l12, l13, l14, l15, l16, l17, l18, l19, l20, l21, l22, l23, l24, l25, l26] (.int (nI 25) :: st) h Q := jg_c rfl
theorem s173_20 : jx_Go jxP d 173 20 [l0, l1, l2, l3, l4, l5, l6, l7, l8, l9, l10, l11, l12, l13, l14, l15, l16, l17, l18, l19, l20, l21, l22, l23, l24, l25, l26] (.int y :: .int x :: st) h Q ↔ if y ≤ x then jx_Go jxP d 173 42 [l0, l1, l2, l3, l4, l5, l6, l7, l8, l9, l10, l11, l12, l13, l14, l15, l16, l17, l18, l19, l20, l21, l22, l23, l24, l25, l26] st h Q else jx_Go jxP d 173 23 [l0, l1, l2, l3, l4, l5, l6, l7, l8, l9, l10, l11, l12, l13, l14, l15, l16, l17, l18, l19, l20, l21, l22, l23, l24, l25, l26] st h Q := jg_icP rfl rfl
theorem s173_23 : jx_Go jxP d 173 23 [.ref a, l1, l2, l3, l4, l5, l6, l7, l8, l9, l10, l11, l12, l13, l14, l15, l16, l17, l18, l19, l20, l21, l22, l23, l24, l25, l26] st h Q ↔ jx_Go jxP d 173 24 [.ref a, l1, l2, l3, l4, l5, l6, l7, l8, l9, l10, l11, l12, l13, l14, l15, l16, l17, l18, l19, l20, l21, l22, l23, l24, l25, l26] (.ref a :: st) h Q := jg_al rfl rfl
theorem s173_24 : jx_Go jxP d 173 24 [l0, l1, l2, l3, l4, l5, l6, l7, l8, l9, l10, l11, l12, l13, l14, l15, l16, l17, l18, l19, l20, l21, l22, l23, l24, l25, l26] (.ref a :: st) h Q ↔ ∃ v, jx_fl h a 12 27 = some v ∧ jx_Go jxP d 173 27 [l0, l1, l2, l3, l4, l5, l6, l7, l8, l9, l10, l11, l12, l13, l14, l15, l16, l17, l18, l19, l20, l21, l22, l23, l24, l25, l26] (v :: st) h Q := jg_gf rfl
theorem s173_27 : jx_Go jxP d 173 27 [l0, l1, .int x, l3, l4, l5, l6, l7, l8, l9, l10, l11, l12, l13, l14, l15, l16, l17, l18, l19, l20, l21, l22, l23, l24, l25, l26] st h Q ↔ jx_Go jxP d 173 28 [l0, l1, .int x, l3, l4, l5, l6, l7, l8, l9, l10, l11, l12, l13, l14, l15, l16, l17, l18, l19, l20, l21, l22, l23, l24, l25, l26] (.int x :: st) h Q := jg_il rfl rfl
theorem s173_28 : jx_Go jxP d 173 28 [.ref a, l1, l2, l3, l4, l5, l6, l7, l8, l9, l10, l11, l12, l13, l14, l15, l16, l17, l18, l19, l20, l21, l22, l23, l24, l25, l26] st h Q ↔ jx_Go jxP d 173 29 [.ref a, l1, l2, l3, l4, l5, l6, l7, l8, l9, l10, l11, l12, l13, l14, l15, l16, l17, l18, l19, l20, l21, l22, l23, l24, l25, l26] (.ref a :: st) h Q := jg_al rfl rfl
theorem s173_29 : jx_Go jxP d 173 29 [l0, l1, l2, l3, l4, l5, l6, l7, l8, l9, l10, l11, l12, l13, l14, l15, l16, l17, l18, l19, l20, l21, l22, l23, l24, l25, l26] (.ref a :: st) h Q ↔ ∃ v, jx_fl h a 12 2 = some v ∧ jx_Go jxP d 173 32 [l0, l1, l2, l3, l4, l5, l6, l7, l8, l9, l10, l11, l12, l13, l14, l15, l16, l17, l18, l19, l20, l21, l22, l23, l24, l25, l26] (v :: st) h Q := jg_gf rfl
theorem s173_32 : jx_Go jxP d 173 32 [l0, l1, .int x, l3, l4, l5, l6, l7, l8, l9, l10, l11, l12, l13, l14, l15, l16, l17, l18, l19, l20, l21, l22, l23, l24, l25, l26] st h Q ↔ jx_Go jxP d 173 33 [l0, l1, .int x, l3, l4, l5, l6, l7, l8, l9, l10, l11, l12, l13, l14, l15, l16, l17, l18, l19, l20, l21, l22, l23, l24, l25, l26] (.int x :: st) h Q := jg_il rfl rfl
theorem s173_33 : jx_Go jxP d 173 33 [l0, l1, l2, l3, l4, l5, l6, l7, l8, l9, l10, l11, l12, l13, l14, l15, l16, l17, l18, l19, l20, l21, l22, l23, l24, l25, l26] (.int x :: .ref a :: st) h Q ↔ ∃ q, jx_ai h a = some q ∧ jx_in x q.1 ∧ jx_Go jxP d 173 34 [l0, l1, l2, l3, l4, l5, l6, l7, l8, l9, l10, l11, l12, l13, l14, l15, l16, l17, l18, l19, l20, l21, l22, l23, l24, l25, l26] (.int (q.2 x.toNatClampNeg) :: st) h Q := jg_ia rfl
theorem s173_34 : jx_Go jxP d 173 34 [l0, l1, l2, l3, l4, l5, l6, l7, l8, l9, l10, l11, l12, l13, l14, l15, l16, l17, l18, l19, l20, l21, l22, l23, l24, l25, l26] (.int x :: st) h Q ↔ jx_Go jxP d 173 35 [l0, l1, l2, l3, l4, l5, l6, l7, l8, l9, l10, l11, l12, l13, l14, l15, l16, l17, l18, l19, l20, l21, l22, l23, l24, l25, l26] (.long x.toInt64 :: st) h Q := jg_i2l rfl
theorem s173_35 : jx_Go jxP d 173 35 [l0, l1, l2, l3, l4, l5, l6, l7, l8, l9, l10, l11, l12, l13, l14, l15, l16, l17, l18, l19, l20, l21, l22, l23, l24, l25, l26] (.long u :: .int x :: .ref a :: st) h Q ↔ ∃ q, jx_al h a = some q ∧ jx_in x q.1 ∧ jx_Go jxP d 173 36 [l0, l1, l2, l3, l4, l5, l6, l7, l8, l9, l10, l11, l12, l13, l14, l15, l16, l17, l18, l19, l20, l21, l22, l23, l24, l25, l26] st (jx_wl h a q.1 (vp_updL q.2 x.toNatClampNeg u)) Q := jg_lw rfl
theorem s173_36 : jx_Go jxP d 173 36 [l0, l1, .int x, l3, l4, l5, l6, l7, l8, l9, l10, l11, l12, l13, l14, l15, l16, l17, l18, l19, l20, l21, l22, l23, l24, l25, l26] st h Q ↔ jx_Go jxP d 173 39 [l0, l1, .int (x + (nI 1)), l3, l4, l5, l6, l7, l8, l9, l10, l11, l12, l13, l14, jx_u, jx_u, l17, l18, l19, l20, l21, l22, l23, l24, l25, l26] st h Q := jg_inc rfl rfl rfl
theorem s173_39 : jx_Go jxP d 173 39 [l0, l1, l2, l3, l4, l5, l6, l7, l8, l9, l10, l11, l12, l13, l14, l15, l16, l17, l18, l19, l20, l21, l22, l23, l24, l25, l26] st h Q ↔ jx_Go jxP d 173 17 [l0, l1, l2, l3, l4, l5, l6, l7, l8, l9, l10, l11, l12, l13, l14, l15, l16, l17, l18, l19, l20, l21, l22, l23, l24, l25, l26] st h Q := jg_go rfl
theorem s173_42 : jx_Go jxP d 173 42 [l0, l1, l2, l3, l4, l5, l6, l7, l8, l9, l10, l11, l12, l13, l14, l15, l16, l17, l18, l19, l20, l21, l22, l23, l24, l25, l26] st h Q ↔ jx_Go jxP d 173 43 [l0, l1, l2, l3, l4, l5, l6, l7, l8, l9, l10, l11, l12, l13, l14, l15, l16, l17, l18, l19, l20, l21, l22, l23, l24, l25, l26] (.int (nI 0) :: st) h Q := jg_c rfl
theorem s173_43 : jx_Go jxP d 173 43 [l0, l1, l2, l3, l4, l5, l6, l7, l8, l9, l10, l11, l12, l13, l14, l15, l16, l17, l18, l19, l20, l21, l22, l23, l24, l25, l26] (.int x :: st) h Q ↔ jx_Go jxP d 173 44 [l0, l1, .int x, l3, l4, l5, l6, l7, l8, l9, l10, l11, l12, l13, l14, jx_u, jx_u, l17, l18, l19, l20, l21, l22, l23, l24, l25, l26] st h Q := jg_is rfl rfl
theorem s173_44 : jx_Go jxP d 173 44 [l0, l1, l2, l3, l4, l5, l6, l7, l8, l9, l10, l11, l12, l13, l14, l15, l16, l17, l18, l19, l20, l21, l22, l23, l24, l25, l26] st h Q ↔ jx_Go jxP d 173 45 [l0, l1, l2, l3, l4, l5, l6, l7, l8, l9, l10, l11, l12, l13, l14, l15, l16, l17, l18, l19, l20, l21, l22, l23, l24, l25, l26] (.int (nI 0) :: st) h Q := jg_c rfl
theorem s173_45 : jx_Go jxP d 173 45 [l0, l1, l2, l3, l4, l5, l6, l7, l8, l9, l10, l11, l12, l13, l14, l15, l16, l17, l18, l19, l20, l21, l22, l23, l24, l25, l26] (.int x :: st) h Q ↔ jx_Go jxP d 173 46 [l0, l1, l2, .int x, l4, l5, l6, l7, l8, l9, l10, l11, l12, l13, l14, l15, jx_u, jx_u, l18, l19, l20, l21, l22, l23, l24, l25, l26] st h Q := jg_is rfl rfl
theorem s173_46 : jx_Go jxP d 173 46 [l0, l1, l2, .int x, l4, l5, l6, l7, l8, l9, l10, l11, l12, l13, l14, l15, l16, l17, l18, l19, l20, l21, l22, l23, l24, l25, l26] st h Q ↔ jx_Go jxP d 173 47 [l0, l1, l2, .int x, l4, l5, l6, l7, l8, l9, l10, l11, l12, l13, l14, l15, l16, l17, l18, l19, l20, l21, l22, l23, l24, l25, l26] (.int x :: st) h Q := jg_il rfl rfl
theorem s173_47 : jx_Go jxP d 173 47 [.ref a, l1, l2, l3, l4, l5, l6, l7, l8, l9, l10, l11, l12, l13, l14, l15, l16, l17, l18, l19, l20, l21, l22, l23, l24, l25, l26] st h Q ↔ jx_Go jxP d 173 48 [.ref a, l1, l2, l3, l4, l5, l6, l7, l8, l9, l10, l11, l12, l13, l14, l15, l16, l17, l18, l19, l20, l21, l22, l23, l24, l25, l26] (.ref a :: st) h Q := jg_al rfl rfl
theorem s173_48 : jx_Go jxP d 173 48 [l0, l1, l2, l3, l4, l5, l6, l7, l8, l9, l10, l11, l12, l13, l14, l15, l16, l17, l18, l19, l20, l21, l22, l23, l24, l25, l26] (.ref a :: st) h Q ↔ ∃ v, jx_fl h a 12 1 = some v ∧ jx_Go jxP d 173 51 [l0, l1, l2, l3, l4, l5, l6, l7, l8, l9, l10, l11, l12, l13, l14, l15, l16, l17, l18, l19, l20, l21, l22, l23, l24, l25, l26] (v :: st) h Q := jg_gf rfl
theorem s173_51 : jx_Go jxP d 173 51 [l0, l1, l2, l3, l4, l5, l6, l7, l8, l9, l10, l11, l12, l13, l14, l15, l16, l17, l18, l19, l20, l21, l22, l23, l24, l25, l26] (.int y :: .int x :: st) h Q ↔ if y ≤ x then jx_Go jxP d 173 244 [l0, l1, l2, l3, l4, l5, l6, l7, l8, l9, l10, l11, l12, l13, l14, l15, l16, l17, l18, l19, l20, l21, l22, l23, l24, l25, l26] st h Q else jx_Go jxP d 173 54 [l0, l1, l2, l3, l4, l5, l6, l7, l8, l9, l10, l11, l12, l13, l14, l15, l16, l17, l18, l19, l20, l21, l22, l23, l24, l25, l26] st h Q := jg_icP rfl rfl
theorem s173_54 : jx_Go jxP d 173 54 [l0, l1, .int x, l3, l4, l5, l6, l7, l8, l9, l10, l11, l12, l13, l14, l15, l16, l17, l18, l19, l20, l21, l22, l23, l24, l25, l26] st h Q ↔ jx_Go jxP d 173 55 [l0, l1, .int x, l3, l4, l5, l6, l7, l8, l9, l10, l11, l12, l13, l14, l15, l16, l17, l18, l19, l20, l21, l22, l23, l24, l25, l26] (.int x :: st) h Q := jg_il rfl rfl
theorem s173_55 : jx_Go jxP d 173 55 [.ref a, l1, l2, l3, l4, l5, l6, l7, l8, l9, l10, l11, l12, l13, l14, l15, l16, l17, l18, l19, l20, l21, l22, l23, l24, l25, l26] st h Q ↔ jx_Go jxP d 173 56 [.ref a, l1, l2, l3, l4, l5, l6, l7, l8, l9, l10, l11, l12, l13, l14, l15, l16, l17, l18, l19, l20, l21, l22, l23, l24, l25, l26] (.ref a :: st) h Q := jg_al rfl rfl
theorem s173_56 : jx_Go jxP d 173 56 [l0, l1, l2, l3, l4, l5, l6, l7, l8, l9, l10, l11, l12, l13, l14, l15, l16, l17, l18, l19, l20, l21, l22, l23, l24, l25, l26] (.ref a :: st) h Q ↔ ∃ v, jx_fl h a 12 0 = some v ∧ jx_Go jxP d 173 59 [l0, l1, l2, l3, l4, l5, l6, l7, l8, l9, l10, l11, l12, l13, l14, l15, l16, l17, l18, l19, l20, l21, l22, l23, l24, l25, l26] (v :: st) h Q := jg_gf rfl
theorem s173_59 : jx_Go jxP d 173 59 [l0, l1, l2, l3, l4, l5, l6, l7, l8, l9, l10, l11, l12, l13, l14, l15, l16, l17, l18, l19, l20, l21, l22, l23, l24, l25, l26] (.int y :: .int x :: st) h Q ↔ if y ≤ x then jx_Go jxP d 173 244 [l0, l1, l2, l3, l4, l5, l6, l7, l8, l9, l10, l11, l12, l13, l14, l15, l16, l17, l18, l19, l20, l21, l22, l23, l24, l25, l26] st h Q else jx_Go jxP d 173 62 [l0, l1, l2, l3, l4, l5, l6, l7, l8, l9, l10, l11, l12, l13, l14, l15, l16, l17, l18, l19, l20, l21, l22, l23, l24, l25, l26] st h Q := jg_icP rfl rfl
theorem s173_62 : jx_Go jxP d 173 62 [l0, l1, .int x, l3, l4, l5, l6, l7, l8, l9, l10, l11, l12, l13, l14, l15, l16, l17, l18, l19, l20, l21, l22, l23, l24, l25, l26] st h Q ↔ jx_Go jxP d 173 63 [l0, l1, .int x, l3, l4, l5, l6, l7, l8, l9, l10, l11, l12, l13, l14, l15, l16, l17, l18, l19, l20, l21, l22, l23, l24, l25, l26] (.int x :: st) h Q := jg_il rfl rfl
theorem s173_63 : jx_Go jxP d 173 63 [l0, l1, l2, l3, l4, l5, l6, l7, l8, l9, l10, l11, l12, l13, l14, l15, l16, l17, l18, l19, l20, l21, l22, l23, l24, l25, l26] (.int x :: st) h Q ↔ jx_Go jxP d 173 65 [l0, l1, l2, l3, .int x, l5, l6, l7, l8, l9, l10, l11, l12, l13, l14, l15, l16, jx_u, jx_u, l19, l20, l21, l22, l23, l24, l25, l26] st h Q := jg_is rfl rfl
theorem s173_65 : jx_Go jxP d 173 65 [l0, l1, l2, l3, .int x, l5, l6, l7, l8, l9, l10, l11, l12, l13, l14, l15, l16, l17, l18, l19, l20, l21, l22, l23, l24, l25, l26] st h Q ↔ jx_Go jxP d 173 67 [l0, l1, l2, l3, .int x, l5, l6, l7, l8, l9, l10, l11, l12, l13, l14, l15, l16, l17, l18, l19, l20, l21, l22, l23, l24, l25, l26] (.int x :: st) h Q := jg_il rfl rfl
theorem s173_67 : jx_Go jxP d 173 67 [.ref a, l1, l2, l3, l4, l5, l6, l7, l8, l9, l10, l11, l12, l13, l14, l15, l16, l17, l18, l19, l20, l21, l22, l23, l24, l25, l26] st h Q ↔ jx_Go jxP d 173 68 [.ref a, l1, l2, l3, l4, l5, l6, l7, l8, l9, l10, l11, l12, l13, l14, l15, l16, l17, l18, l19, l20, l21, l22, l23, l24, l25, l26] (.ref a :: st) h Q := jg_al rfl rfl
theorem s173_68 : jx_Go jxP d 173 68 [l0, l1, l2, l3, l4, l5, l6, l7, l8, l9, l10, l11, l12, l13, l14, l15, l16, l17, l18, l19, l20, l21, l22, l23, l24, l25, l26] (.ref a :: st) h Q ↔ ∃ v, jx_fl h a 12 0 = some v ∧ jx_Go jxP d 173 71 [l0, l1, l2, l3, l4, l5, l6, l7, l8, l9, l10, l11, l12, l13, l14, l15, l16, l17, l18, l19, l20, l21, l22, l23, l24, l25, l26] (v :: st) h Q := jg_gf rfl
theorem s173_71 : jx_Go jxP d 173 71 [l0, l1, l2, l3, l4, l5, l6, l7, l8, l9, l10, l11, l12, l13, l14, l15, l16, l17, l18, l19, l20, l21, l22, l23, l24, l25, l26] (.int y :: .int x :: st) h Q ↔ if y ≤ x then jx_Go jxP d 173 96 [l0, l1, l2, l3, l4, l5, l6, l7, l8, l9, l10, l11, l12, l13, l14, l15, l16, l17, l18, l19, l20, l21, l22, l23, l24, l25, l26] st h Q else jx_Go jxP d 173 74 [l0, l1, l2, l3, l4, l5, l6, l7, l8, l9, l10, l11, l12, l13, l14, l15, l16, l17, l18, l19, l20, l21, l22, l23, l24, l25, l26] st h Q := jg_icP rfl rfl
theorem s173_74 : jx_Go jxP d 173 74 [.ref a, l1, l2, l3, l4, l5, l6, l7, l8, l9, l10, l11, l12, l13, l14, l15, l16, l17, l18, l19, l20, l21, l22, l23, l24, l25, l26] st h Q ↔ jx_Go jxP d 173 75 [.ref a, l1, l2, l3, l4, l5, l6, l7, l8, l9, l10, l11, l12, l13, l14, l15, l16, l17, l18, l19, l20, l21, l22, l23, l24, l25, l26] (.ref a :: st) h Q := jg_al rfl rfl
theorem s173_75 : jx_Go jxP d 173 75 [l0, l1, l2, l3, l4, l5, l6, l7, l8, l9, l10, l11, l12, l13, l14, l15, l16, l17, l18, l19, l20, l21, l22, l23, l24, l25, l26] (.ref a :: st) h Q ↔ ∃ v, jx_fl h a 12 27 = some v ∧ jx_Go jxP d 173 78 [l0, l1, l2, l3, l4, l5, l6, l7, l8, l9, l10, l11, l12, l13, l14, l15, l16, l17, l18, l19, l20, l21, l22, l23, l24, l25, l26] (v :: st) h Q := jg_gf rfl
theorem s173_78 : jx_Go jxP d 173 78 [l0, l1, l2, l3, l4, l5, l6, l7, l8, l9, l10, l11, l12, l13, l14, l15, l16, l17, l18, l19, l20, l21, l22, l23, l24, l25, l26] st h Q ↔ jx_Go jxP d 173 79 [l0, l1, l2, l3, l4, l5, l6, l7, l8, l9, l10, l11, l12, l13, l14, l15, l16, l17, l18, l19, l20, l21, l22, l23, l24, l25, l26] (.int (nI 5) :: st) h Q := jg_c rfl
theorem s173_79 : jx_Go jxP d 173 79 [l0, l1, l2, l3, .int x, l5, l6, l7, l8, l9, l10, l11, l12, l13, l14, l15, l16, l17, l18, l19, l20, l21, l22, l23, l24, l25, l26] st h Q ↔ jx_Go jxP d 173 81 [l0, l1, l2, l3, .int x, l5, l6, l7, l8, l9, l10, l11, l12, l13, l14, l15, l16, l17, l18, l19, l20, l21, l22, l23, l24, l25, l26] (.int x :: st) h Q := jg_il rfl rfl
theorem s173_81 : jx_Go jxP d 173 81 [l0, l1, l2, l3, l4, l5, l6, l7, l8, l9, l10, l11, l12, l13, l14, l15, l16, l17, l18, l19, l20, l21, l22, l23, l24, l25, l26] (.int y :: .int x :: st) h Q ↔ jx_Go jxP d 173 82 [l0, l1, l2, l3, l4, l5, l6, l7, l8, l9, l10, l11, l12, l13, l14, l15, l16, l17, l18, l19, l20, l21, l22, l23, l24, l25, l26] (.int (x * y) :: st) h Q := jg_b (f := fun x y => x * y) rfl
theorem s173_82 : jx_Go jxP d 173 82 [l0, l1, l2, .int x, l4, l5, l6, l7, l8, l9, l10, l11, l12, l13, l14, l15, l16, l17, l18, l19, l20, l21, l22, l23, l24, l25, l26] st h Q ↔ jx_Go jxP d 173 83 [l0, l1, l2, .int x, l4, l5, l6, l7, l8, l9, l10, l11, l12, l13, l14, l15, l16, l17, l18, l19, l20, l21, l22, l23, l24, l25, l26] (.int x :: st) h Q := jg_il rfl rfl
theorem s173_83 : jx_Go jxP d 173 83 [l0, l1, l2, l3, l4, l5, l6, l7, l8, l9, l10, l11, l12, l13, l14, l15, l16, l17, l18, l19, l20, l21, l22, l23, l24, l25, l26] (.int y :: .int x :: st) h Q ↔ jx_Go jxP d 173 84 [l0, l1, l2, l3, l4, l5, l6, l7, l8, l9, l10, l11, l12, l13, l14, l15, l16, l17, l18, l19, l20, l21, l22, l23, l24, l25, l26] (.int (x + y) :: st) h Q := jg_b (f := fun x y => x + y) rfl
theorem s173_84 : jx_Go jxP d 173 84 [l0, l1, l2, l3, l4, l5, l6, l7, l8, l9, l10, l11, l12, l13, l14, l15, l16, l17, l18, l19, l20, l21, l22, l23, l24, l25, l26] (.int x :: .ref a :: st) h Q ↔ ∃ q, jx_al h a = some q ∧ jx_in x q.1 ∧ jx_Go jxP d 173 85 [l0, l1, l2, l3, l4, l5, l6, l7, l8, l9, l10, l11, l12, l13, l14, l15, l16, l17, l18, l19, l20, l21, l22, l23, l24, l25, l26] (.long (q.2 x.toNatClampNeg) :: st) h Q := jg_la rfl
theorem s173_85 : jx_Go jxP d 173 85 [l0, l1, l2, l3, l4, l5, l6, l7, l8, l9, l10, l11, l12, l13, l14, l15, l16, l17, l18, l19, l20, l21, l22, l23, l24, l25, l26] st h Q ↔ jx_Go jxP d 173 86 [l0, l1, l2, l3, l4, l5, l6, l7, l8, l9, l10, l11, l12, l13, l14, l15, l16, l17, l18, l19, l20, l21, l22, l23, l24, l25, l26] (.long 0 :: st) h Q := jg_cl rfl
theorem s173_86 : jx_Go jxP d 173 86 [l0, l1, l2, l3, l4, l5, l6, l7, l8, l9, l10, l11, l12, l13, l14, l15, l16, l17, l18, l19, l20, l21, l22, l23, l24, l25, l26] (.long w :: .long u :: st) h Q ↔ jx_Go jxP d 173 87 [l0, l1, l2, l3, l4, l5, l6, l7, l8, l9, l10, l11, l12, l13, l14, l15, l16, l17, l18, l19, l20, l21, l22, l23, l24, l25, l26] (.int (lg_cmp u w) :: st) h Q := jg_lc rfl
theorem s173_87 : jx_Go jxP d 173 87 [l0, l1, l2, l3, l4, l5, l6, l7, l8, l9, l10, l11, l12, l13, l14, l15, l16, l17, l18, l19, l20, l21, l22, l23, l24, l25, l26] (.int x :: st) h Q ↔ if x = 0 then jx_Go jxP d 173 90 [l0, l1, l2, l3, l4, l5, l6, l7, l8, l9, l10, l11, l12, l13, l14, l15, l16, l17, l18, l19, l20, l21, l22, l23, l24, l25, l26] st h Q else jx_Go jxP d 173 96 [l0, l1, l2, l3, l4, l5, l6, l7, l8, l9, l10, l11, l12, l13, l14, l15, l16, l17, l18, l19, l20, l21, l22, l23, l24, l25, l26] st h Q := jg_ifN rfl rfl
theorem s173_90 : jx_Go jxP d 173 90 [l0, l1, l2, l3, .int x, l5, l6, l7, l8, l9, l10, l11, l12, l13, l14, l15, l16, l17, l18, l19, l20, l21, l22, l23, l24, l25, l26] st h Q ↔ jx_Go jxP d 173 93 [l0, l1, l2, l3, .int (x + (nI 1)), l5, l6, l7, l8, l9, l10, l11, l12, l13, l14, l15, l16, jx_u, jx_u, l19, l20, l21, l22, l23, l24, l25, l26] st h Q := jg_inc rfl rfl rfl
theorem s173_93 : jx_Go jxP d 173 93 [l0, l1, l2, l3, l4, l5, l6, l7, l8, l9, l10, l11, l12, l13, l14, l15, l16, l17, l18, l19, l20, l21, l22, l23, l24, l25, l26] st h Q ↔ jx_Go jxP d 173 65 [l0, l1, l2, l3, l4, l5, l6, l7, l8, l9, l10, l11, l12, l13, l14, l15, l16, l17, l18, l19, l20, l21, l22, l23, l24, l25, l26] st h Q := jg_go rfl
theorem s173_96 : jx_Go jxP d 173 96 [l0, l1, l2, l3, .int x, l5, l6, l7, l8, l9, l10, l11, l12, l13, l14, l15, l16, l17, l18, l19, l20, l21, l22, l23, l24, l25, l26] st h Q ↔ jx_Go jxP d 173 98 [l0, l1, l2, l3, .int x, l5, l6, l7, l8, l9, l10, l11, l12, l13, l14, l15, l16, l17, l18, l19, l20, l21, l22, l23, l24, l25, l26] (.int x :: st) h Q := jg_il rfl rfl
theorem s173_98 : jx_Go jxP d 173 98 [.ref a, l1, l2, l3, l4, l5, l6, l7, l8, l9, l10, l11, l12, l13, l14, l15, l16, l17, l18, l19, l20, l21, l22, l23, l24, l25, l26] st h Q ↔ jx_Go jxP d 173 99 [.ref a, l1, l2, l3, l4, l5, l6, l7, l8, l9, l10, l11, l12, l13, l14, l15, l16, l17, l18, l19, l20, l21, l22, l23, l24, l25, l26] (.ref a :: st) h Q := jg_al rfl rfl
theorem s173_99 : jx_Go jxP d 173 99 [l0, l1, l2, l3, l4, l5, l6, l7, l8, l9, l10, l11, l12, l13, l14, l15, l16, l17, l18, l19, l20, l21, l22, l23, l24, l25, l26] (.ref a :: st) h Q ↔ ∃ v, jx_fl h a 12 0 = some v ∧ jx_Go jxP d 173 102 [l0, l1, l2, l3, l4, l5, l6, l7, l8, l9, l10, l11, l12, l13, l14, l15, l16, l17, l18, l19, l20, l21, l22, l23, l24, l25, l26] (v :: st) h Q := jg_gf rfl
theorem s173_102 : jx_Go jxP d 173 102 [l0, l1, l2, l3, l4, l5, l6, l7, l8, l9, l10, l11, l12, l13, l14, l15, l16, l17, l18, l19, l20, l21, l22, l23, l24, l25, l26] (.int y :: .int x :: st) h Q ↔ if x = y then jx_Go jxP d 173 105 [l0, l1, l2, l3, l4, l5, l6, l7, l8, l9, l10, l11, l12, l13, l14, l15, l16, l17, l18, l19, l20, l21, l22, l23, l24, l25, l26] st h Q else jx_Go jxP d 173 108 [l0, l1, l2, l3, l4, l5, l6, l7, l8, l9, l10, l11, l12, l13, l14, l15, l16, l17, l18, l19, l20, l21, l22, l23, l24, l25, l26] st h Q := jg_icN rfl rfl
theorem s173_105 : jx_Go jxP d 173 105 [l0, l1, l2, l3, l4, l5, l6, l7, l8, l9, l10, l11, l12, l13, l14, l15, l16, l17, l18, l19, l20, l21, l22, l23, l24, l25, l26] st h Q ↔ jx_Go jxP d 173 238 [l0, l1, l2, l3, l4, l5, l6, l7, l8, l9, l10, l11, l12, l13, l14, l15, l16, l17, l18, l19, l20, l21, l22, l23, l24, l25, l26] st h Q := jg_go rfl
theorem s173_108 : jx_Go jxP d 173 108 [.ref a, l1, l2, l3, l4, l5, l6, l7, l8, l9, l10, l11, l12, l13, l14, l15, l16, l17, l18, l19, l20, l21, l22, l23, l24, l25, l26] st h Q ↔ jx_Go jxP d 173 109 [.ref a, l1, l2, l3, l4, l5, l6, l7, l8, l9, l10, l11, l12, l13, l14, l15, l16, l17, l18, l19, l20, l21, l22, l23, l24, l25, l26] (.ref a :: st) h Q := jg_al rfl rfl
theorem s173_109 : jx_Go jxP d 173 109 [l0, l1, .int x, l3, l4, l5, l6, l7, l8, l9, l10, l11, l12, l13, l14, l15, l16, l17, l18, l19, l20, l21, l22, l23, l24, l25, l26] st h Q ↔ jx_Go jxP d 173 110 [l0, l1, .int x, l3, l4, l5, l6, l7, l8, l9, l10, l11, l12, l13, l14, l15, l16, l17, l18, l19, l20, l21, l22, l23, l24, l25, l26] (.int x :: st) h Q := jg_il rfl rfl
theorem s173_110 : jx_Go jxP d 173 110 [l0, l1, l2, l3, .int x, l5, l6, l7, l8, l9, l10, l11, l12, l13, l14, l15, l16, l17, l18, l19, l20, l21, l22, l23, l24, l25, l26] st h Q ↔ jx_Go jxP d 173 112 [l0, l1, l2, l3, .int x, l5, l6, l7, l8, l9, l10, l11, l12, l13, l14, l15, l16, l17, l18, l19, l20, l21, l22, l23, l24, l25, l26] (.int x :: st) h Q := jg_il rfl rfl
theorem s173_112 : jx_Go jxP (d + 1) 173 112 [l0, l1, l2, l3, l4, l5, l6, l7, l8, l9, l10, l11, l12, l13, l14, l15, l16, l17, l18, l19, l20, l21, l22, l23, l24, l25, l26] (.int x1 :: .int x0 :: .ref a :: st) h Q ↔ (st.length ≤ 4 ∧ jx_cl h a = some 12 ∧ jx_Go jxP d 172 0 [.ref a, .int x0, .int x1, jx_u, jx_u, jx_u, jx_u, jx_u, jx_u, jx_u, jx_u, jx_u, jx_u] [] h (fun s1 h1 => jx_Go jxP (d + 1) 173 115 [l0, l1, l2, l3, l4, l5, l6, l7, l8, l9, l10, l11, l12, l13, l14, l15, l16, l17, l18, l19, l20, l21, l22, l23, l24, l25, l26] (s1 ++ st) h1 Q)) := jg_callV (as := [.int x1, .int x0, .ref a]) rfl rfl rfl rfl rfl
theorem s173_115 : jx_Go jxP d 173 115 [l0, l1, .int x, l3, l4, l5, l6, l7, l8, l9, l10, l11, l12, l13, l14, l15, l16, l17, l18, l19, l20, l21, l22, l23, l24, l25, l26] st h Q ↔ jx_Go jxP d 173 116 [l0, l1, .int x, l3, l4, l5, l6, l7, l8, l9, l10, l11, l12, l13, l14, l15, l16, l17, l18, l19, l20, l21, l22, l23, l24, l25, l26] (.int x :: st) h Q := jg_il rfl rfl
theorem s173_116 : jx_Go jxP d 173 116 [l0, l1, l2, l3, l4, l5, l6, l7, l8, l9, l10, l11, l12, l13, l14, l15, l16, l17, l18, l19, l20, l21, l22, l23, l24, l25, l26] st h Q ↔ jx_Go jxP d 173 117 [l0, l1, l2, l3, l4, l5, l6, l7, l8, l9, l10, l11, l12, l13, l14, l15, l16, l17, l18, l19, l20, l21, l22, l23, l24, l25, l26] (.int (nI 1) :: st) h Q := jg_c rfl
theorem s173_117 : jx_Go jxP d 173 117 [l0, l1, l2, l3, l4, l5, l6, l7, l8, l9, l10, l11, l12, l13, l14, l15, l16, l17, l18, l19, l20, l21, l22, l23, l24, l25, l26] (.int y :: .int x :: st) h Q ↔ jx_Go jxP d 173 118 [l0, l1, l2, l3, l4, l5, l6, l7, l8, l9, l10, l11, l12, l13, l14, l15, l16, l17, l18, l19, l20, l21, l22, l23, l24, l25, l26] (.int (x + y) :: st) h Q := jg_b (f := fun x y => x + y) rfl
theorem s173_118 : jx_Go jxP d 173 118 [l0, l1, l2, l3, l4, l5, l6, l7, l8, l9, l10, l11, l12, l13, l14, l15, l16, l17, l18, l19, l20, l21, l22, l23, l24, l25, l26] (.int x :: st) h Q ↔ jx_Go jxP d 173 120 [l0, l1, l2, l3, l4, .int x, l6, l7, l8, l9, l10, l11, l12, l13, l14, l15, l16, l17, jx_u, jx_u, l20, l21, l22, l23, l24, l25, l26] st h Q := jg_is rfl rfl
theorem s173_120 : jx_Go jxP d 173 120 [l0, l1, l2, l3, l4, .int x, l6, l7, l8, l9, l10, l11, l12, l13, l14, l15, l16, l17, l18, l19, l20, l21, l22, l23, l24, l25, l26] st h Q ↔ jx_Go jxP d 173 122 [l0, l1, l2, l3, l4, .int x, l6, l7, l8, l9, l10, l11, l12, l13, l14, l15, l16, l17, l18, l19, l20, l21, l22, l23, l24, l25, l26] (.int x :: st) h Q := jg_il rfl rfl
theorem s173_122 : jx_Go jxP d 173 122 [.ref a, l1, l2, l3, l4, l5, l6, l7, l8, l9, l10, l11, l12, l13, l14, l15, l16, l17, l18, l19, l20, l21, l22, l23, l24, l25, l26] st h Q ↔ jx_Go jxP d 173 123 [.ref a, l1, l2, l3, l4, l5, l6, l7, l8, l9, l10, l11, l12, l13, l14, l15, l16, l17, l18, l19, l20, l21, l22, l23, l24, l25, l26] (.ref a :: st) h Q := jg_al rfl rfl
theorem s173_123 : jx_Go jxP d 173 123 [l0, l1, l2, l3, l4, l5, l6, l7, l8, l9, l10, l11, l12, l13, l14, l15, l16, l17, l18, l19, l20, l21, l22, l23, l24, l25, l26] (.ref a :: st) h Q ↔ ∃ v, jx_fl h a 12 0 = some v ∧ jx_Go jxP d 173 126 [l0, l1, l2, l3, l4, l5, l6, l7, l8, l9, l10, l11, l12, l13, l14, l15, l16, l17, l18, l19, l20, l21, l22, l23, l24, l25, l26] (v :: st) h Q := jg_gf rfl
theorem s173_126 : jx_Go jxP d 173 126 [l0, l1, l2, l3, l4, l5, l6, l7, l8, l9, l10, l11, l12, l13, l14, l15, l16, l17, l18, l19, l20, l21, l22, l23, l24, l25, l26] (.int y :: .int x :: st) h Q ↔ if y ≤ x then jx_Go jxP d 173 235 [l0, l1, l2, l3, l4, l5, l6, l7, l8, l9, l10, l11, l12, l13, l14, l15, l16, l17, l18, l19, l20, l21, l22, l23, l24, l25, l26] st h Q else jx_Go jxP d 173 129 [l0, l1, l2, l3, l4, l5, l6, l7, l8, l9, l10, l11, l12, l13, l14, l15, l16, l17, l18, l19, l20, l21, l22, l23, l24, l25, l26] st h Q := jg_icP rfl rfl
theorem s173_129 : jx_Go jxP d 173 129 [.ref a, l1, l2, l3, l4, l5, l6, l7, l8, l9, l10, l11, l12, l13, l14, l15, l16, l17, l18, l19, l20, l21, l22, l23, l24, l25, l26] st h Q ↔ jx_Go jxP d 173 130 [.ref a, l1, l2, l3, l4, l5, l6, l7, l8, l9, l10, l11, l12, l13, l14, l15, l16, l17, l18, l19, l20, l21, l22, l23, l24, l25, l26] (.ref a :: st) h Q := jg_al rfl rfl
theorem s173_130 : jx_Go jxP d 173 130 [l0, l1, l2, l3, l4, l5, l6, l7, l8, l9, l10, l11, l12, l13, l14, l15, l16, l17, l18, l19, l20, l21, l22, l23, l24, l25, l26] (.ref a :: st) h Q ↔ ∃ v, jx_fl h a 12 27 = some v ∧ jx_Go jxP d 173 133 [l0, l1, l2, l3, l4, l5, l6, l7, l8, l9, l10, l11, l12, l13, l14, l15, l16, l17, l18, l19, l20, l21, l22, l23, l24, l25, l26] (v :: st) h Q := jg_gf rfl
theorem s173_133 : jx_Go jxP d 173 133 [l0, l1, l2, l3, l4, l5, l6, l7, l8, l9, l10, l11, l12, l13, l14, l15, l16, l17, l18, l19, l20, l21, l22, l23, l24, l25, l26] st h Q ↔ jx_Go jxP d 173 134 [l0, l1, l2, l3, l4, l5, l6, l7, l8, l9, l10, l11, l12, l13, l14, l15, l16, l17, l18, l19, l20, l21, l22, l23, l24, l25, l26] (.int (nI 5) :: st) h Q := jg_c rfl
theorem s173_134 : jx_Go jxP d 173 134 [l0, l1, .int x, l3, l4, l5, l6, l7, l8, l9, l10, l11, l12, l13, l14, l15, l16, l17, l18, l19, l20, l21, l22, l23, l24, l25, l26] st h Q ↔ jx_Go jxP d 173 135 [l0, l1, .int x, l3, l4, l5, l6, l7, l8, l9, l10, l11, l12, l13, l14, l15, l16, l17, l18, l19, l20, l21, l22, l23, l24, l25, l26] (.int x :: st) h Q := jg_il rfl rfl
theorem s173_135 : jx_Go jxP d 173 135 [l0, l1, l2, l3, l4, l5, l6, l7, l8, l9, l10, l11, l12, l13, l14, l15, l16, l17, l18, l19, l20, l21, l22, l23, l24, l25, l26] (.int y :: .int x :: st) h Q ↔ jx_Go jxP d 173 136 [l0, l1, l2, l3, l4, l5, l6, l7, l8, l9, l10, l11, l12, l13, l14, l15, l16, l17, l18, l19, l20, l21, l22, l23, l24, l25, l26] (.int (x * y) :: st) h Q := jg_b (f := fun x y => x * y) rfl
theorem s173_136 : jx_Go jxP d 173 136 [l0, l1, l2, .int x, l4, l5, l6, l7, l8, l9, l10, l11, l12, l13, l14, l15, l16, l17, l18, l19, l20, l21, l22, l23, l24, l25, l26] st h Q ↔ jx_Go jxP d 173 137 [l0, l1, l2, .int x, l4, l5, l6, l7, l8, l9, l10, l11, l12, l13, l14, l15, l16, l17, l18, l19, l20, l21, l22, l23, l24, l25, l26] (.int x :: st) h Q := jg_il rfl rfl
theorem s173_137 : jx_Go jxP d 173 137 [l0, l1, l2, l3, l4, l5, l6, l7, l8, l9, l10, l11, l12, l13, l14, l15, l16, l17, l18, l19, l20, l21, l22, l23, l24, l25, l26] (.int y :: .int x :: st) h Q ↔ jx_Go jxP d 173 138 [l0, l1, l2, l3, l4, l5, l6, l7, l8, l9, l10, l11, l12, l13, l14, l15, l16, l17, l18, l19, l20, l21, l22, l23, l24, l25, l26] (.int (x + y) :: st) h Q := jg_b (f := fun x y => x + y) rfl
theorem s173_138 : jx_Go jxP d 173 138 [l0, l1, l2, l3, l4, l5, l6, l7, l8, l9, l10, l11, l12, l13, l14, l15, l16, l17, l18, l19, l20, l21, l22, l23, l24, l25, l26] (.int x :: .ref a :: st) h Q ↔ ∃ q, jx_al h a = some q ∧ jx_in x q.1 ∧ jx_Go jxP d 173 139 [l0, l1, l2, l3, l4, l5, l6, l7, l8, l9, l10, l11, l12, l13, l14, l15, l16, l17, l18, l19, l20, l21, l22, l23, l24, l25, l26] (.long (q.2 x.toNatClampNeg) :: st) h Q := jg_la rfl
theorem s173_139 : jx_Go jxP d 173 139 [l0, l1, l2, l3, l4, l5, l6, l7, l8, l9, l10, l11, l12, l13, l14, l15, l16, l17, l18, l19, l20, l21, l22, l23, l24, l25, l26] (.long u :: st) h Q ↔ jx_Go jxP d 173 141 [l0, l1, l2, l3, l4, l5, jx_u, jx_u, l8, l9, l10, l11, l12, l13, l14, l15, l16, l17, l18, jx_u, .long u, jx_u, l22, l23, l24, l25, l26] st h Q := jg_ls rfl rfl
theorem s173_141 : jx_Go jxP d 173 141 [.ref a, l1, l2, l3, l4, l5, l6, l7, l8, l9, l10, l11, l12, l13, l14, l15, l16, l17, l18, l19, l20, l21, l22, l23, l24, l25, l26] st h Q ↔ jx_Go jxP d 173 142 [.ref a, l1, l2, l3, l4, l5, l6, l7, l8, l9, l10, l11, l12, l13, l14, l15, l16, l17, l18, l19, l20, l21, l22, l23, l24, l25, l26] (.ref a :: st) h Q := jg_al rfl rfl
theorem s173_142 : jx_Go jxP d 173 142 [l0, l1, l2, l3, l4, l5, l6, l7, l8, l9, l10, l11, l12, l13, l14, l15, l16, l17, l18, l19, l20, l21, l22, l23, l24, l25, l26] (.ref a :: st) h Q ↔ ∃ v, jx_fl h a 12 27 = some v ∧ jx_Go jxP d 173 145 [l0, l1, l2, l3, l4, l5, l6, l7, l8, l9, l10, l11, l12, l13, l14, l15, l16, l17, l18, l19, l20, l21, l22, l23, l24, l25, l26] (v :: st) h Q := jg_gf rfl
theorem s173_145 : jx_Go jxP d 173 145 [l0, l1, l2, l3, l4, l5, l6, l7, l8, l9, l10, l11, l12, l13, l14, l15, l16, l17, l18, l19, l20, l21, l22, l23, l24, l25, l26] st h Q ↔ jx_Go jxP d 173 146 [l0, l1, l2, l3, l4, l5, l6, l7, l8, l9, l10, l11, l12, l13, l14, l15, l16, l17, l18, l19, l20, l21, l22, l23, l24, l25, l26] (.int (nI 5) :: st) h Q := jg_c rfl
theorem s173_146 : jx_Go jxP d 173 146 [l0, l1, l2, l3, l4, .int x, l6, l7, l8, l9, l10, l11, l12, l13, l14, l15, l16, l17, l18, l19, l20, l21, l22, l23, l24, l25, l26] st h Q ↔ jx_Go jxP d 173 148 [l0, l1, l2, l3, l4, .int x, l6, l7, l8, l9, l10, l11, l12, l13, l14, l15, l16, l17, l18, l19, l20, l21, l22, l23, l24, l25, l26] (.int x :: st) h Q := jg_il rfl rfl
theorem s173_148 : jx_Go jxP d 173 148 [l0, l1, l2, l3, l4, l5, l6, l7, l8, l9, l10, l11, l12, l13, l14, l15, l16, l17, l18, l19, l20, l21, l22, l23, l24, l25, l26] (.int y :: .int x :: st) h Q ↔ jx_Go jxP d 173 149 [l0, l1, l2, l3, l4, l5, l6, l7, l8, l9, l10, l11, l12, l13, l14, l15, l16, l17, l18, l19, l20, l21, l22, l23, l24, l25, l26] (.int (x * y) :: st) h Q := jg_b (f := fun x y => x * y) rfl
theorem s173_149 : jx_Go jxP d 173 149 [l0, l1, l2, .int x, l4, l5, l6, l7, l8, l9, l10, l11, l12, l13, l14, l15, l16, l17, l18, l19, l20, l21, l22, l23, l24, l25, l26] st h Q ↔ jx_Go jxP d 173 150 [l0, l1, l2, .int x, l4, l5, l6, l7, l8, l9, l10, l11, l12, l13, l14, l15, l16, l17, l18, l19, l20, l21, l22, l23, l24, l25, l26] (.int x :: st) h Q := jg_il rfl rfl
theorem s173_150 : jx_Go jxP d 173 150 [l0, l1, l2, l3, l4, l5, l6, l7, l8, l9, l10, l11, l12, l13, l14, l15, l16, l17, l18, l19, l20, l21, l22, l23, l24, l25, l26] (.int y :: .int x :: st) h Q ↔ jx_Go jxP d 173 151 [l0, l1, l2, l3, l4, l5, l6, l7, l8, l9, l10, l11, l12, l13, l14, l15, l16, l17, l18, l19, l20, l21, l22, l23, l24, l25, l26] (.int (x + y) :: st) h Q := jg_b (f := fun x y => x + y) rfl
theorem s173_151 : jx_Go jxP d 173 151 [l0, l1, l2, l3, l4, l5, l6, l7, l8, l9, l10, l11, l12, l13, l14, l15, l16, l17, l18, l19, l20, l21, l22, l23, l24, l25, l26] (.int x :: .ref a :: st) h Q ↔ ∃ q, jx_al h a = some q ∧ jx_in x q.1 ∧ jx_Go jxP d 173 152 [l0, l1, l2, l3, l4, l5, l6, l7, l8, l9, l10, l11, l12, l13, l14, l15, l16, l17, l18, l19, l20, l21, l22, l23, l24, l25, l26] (.long (q.2 x.toNatClampNeg) :: st) h Q := jg_la rfl
theorem s173_152 : jx_Go jxP d 173 152 [l0, l1, l2, l3, l4, l5, l6, l7, l8, l9, l10, l11, l12, l13, l14, l15, l16, l17, l18, l19, l20, l21, l22, l23, l24, l25, l26] (.long u :: st) h Q ↔ jx_Go jxP d 173 154 [l0, l1, l2, l3, l4, l5, l6, l7, jx_u, jx_u, l10, l11, l12, l13, l14, l15, l16, l17, l18, l19, l20, jx_u, .long u, jx_u, l24, l25, l26] st h Q := jg_ls rfl rfl
theorem s173_154 : jx_Go jxP d 173 154 [l0, l1, l2, l3, l4, l5, l6, l7, l8, l9, l10, l11, l12, l13, l14, l15, l16, l17, l18, l19, l20, l21, l22, l23, l24, l25, l26] st h Q ↔ jx_Go jxP d 173 155 [l0, l1, l2, l3, l4, l5, l6, l7, l8, l9, l10, l11, l12, l13, l14, l15, l16, l17, l18, l19, l20, l21, l22, l23, l24, l25, l26] (.int (nI 0) :: st) h Q := jg_c rfl
theorem s173_155 : jx_Go jxP d 173 155 [l0, l1, l2, l3, l4, l5, l6, l7, l8, l9, l10, l11, l12, l13, l14, l15, l16, l17, l18, l19, l20, l21, l22, l23, l24, l25, l26] (.int x :: st) h Q ↔ jx_Go jxP d 173 157 [l0, l1, l2, l3, l4, l5, l6, l7, l8, l9, .int x, l11, l12, l13, l14, l15, l16, l17, l18, l19, l20, l21, l22, jx_u, jx_u, l25, l26] st h Q := jg_is rfl rfl
theorem s173_157 : jx_Go jxP d 173 157 [l0, l1, l2, l3, l4, l5, l6, l7, l8, l9, .int x, l11, l12, l13, l14, l15, l16, l17, l18, l19, l20, l21, l22, l23, l24, l25, l26] st h Q ↔ jx_Go jxP d 173 159 [l0, l1, l2, l3, l4, l5, l6, l7, l8, l9, .int x, l11, l12, l13, l14, l15, l16, l17, l18, l19, l20, l21, l22, l23, l24, l25, l26] (.int x :: st) h Q := jg_il rfl rfl
theorem s173_159 : jx_Go jxP d 173 159 [.ref a, l1, l2, l3, l4, l5, l6, l7, l8, l9, l10, l11, l12, l13, l14, l15, l16, l17, l18, l19, l20, l21, l22, l23, l24, l25, l26] st h Q ↔ jx_Go jxP d 173 160 [.ref a, l1, l2, l3, l4, l5, l6, l7, l8, l9, l10, l11, l12, l13, l14, l15, l16, l17, l18, l19, l20, l21, l22, l23, l24, l25, l26] (.ref a :: st) h Q := jg_al rfl rfl
theorem s173_160 : jx_Go jxP d 173 160 [l0, l1, l2, l3, l4, l5, l6, l7, l8, l9, l10, l11, l12, l13, l14, l15, l16, l17, l18, l19, l20, l21, l22, l23, l24, l25, l26] (.ref a :: st) h Q ↔ ∃ v, jx_fl h a 12 1 = some v ∧ jx_Go jxP d 173 163 [l0, l1, l2, l3, l4, l5, l6, l7, l8, l9, l10, l11, l12, l13, l14, l15, l16, l17, l18, l19, l20, l21, l22, l23, l24, l25, l26] (v :: st) h Q := jg_gf rfl
theorem s173_163 : jx_Go jxP d 173 163 [l0, l1, l2, l3, l4, l5, l6, l7, l8, l9, l10, l11, l12, l13, l14, l15, l16, l17, l18, l19, l20, l21, l22, l23, l24, l25, l26] (.int y :: .int x :: st) h Q ↔ if y ≤ x then jx_Go jxP d 173 229 [l0, l1, l2, l3, l4, l5, l6, l7, l8, l9, l10, l11, l12, l13, l14, l15, l16, l17, l18, l19, l20, l21, l22, l23, l24, l25, l26] st h Q else jx_Go jxP d 173 166 [l0, l1, l2, l3, l4, l5, l6, l7, l8, l9, l10, l11, l12, l13, l14, l15, l16, l17, l18, l19, l20, l21, l22, l23, l24, l25, l26] st h Q := jg_icP rfl rfl
theorem s173_166 : jx_Go jxP d 173 166 [.ref a, l1, l2, l3, l4, l5, l6, l7, l8, l9, l10, l11, l12, l13, l14, l15, l16, l17, l18, l19, l20, l21, l22, l23, l24, l25, l26] st h Q ↔ jx_Go jxP d 173 167 [.ref a, l1, l2, l3, l4, l5, l6, l7, l8, l9, l10, l11, l12, l13, l14, l15, l16, l17, l18, l19, l20, l21, l22, l23, l24, l25, l26] (.ref a :: st) h Q := jg_al rfl rfl
theorem s173_167 : jx_Go jxP d 173 167 [l0, l1, l2, l3, l4, l5, l6, l7, l8, l9, l10, l11, l12, l13, l14, l15, l16, l17, l18, l19, l20, l21, l22, l23, l24, l25, l26] (.ref a :: st) h Q ↔ ∃ v, jx_fl h a 12 27 = some v ∧ jx_Go jxP d 173 170 [l0, l1, l2, l3, l4, l5, l6, l7, l8, l9, l10, l11, l12, l13, l14, l15, l16, l17, l18, l19, l20, l21, l22, l23, l24, l25, l26] (v :: st) h Q := jg_gf rfl
theorem s173_170 : jx_Go jxP d 173 170 [l0, l1, l2, l3, l4, l5, l6, l7, l8, l9, l10, l11, l12, l13, l14, l15, l16, l17, l18, l19, l20, l21, l22, l23, l24, l25, l26] st h Q ↔ jx_Go jxP d 173 171 [l0, l1, l2, l3, l4, l5, l6, l7, l8, l9, l10, l11, l12, l13, l14, l15, l16, l17, l18, l19, l20, l21, l22, l23, l24, l25, l26] (.int (nI 5) :: st) h Q := jg_c rfl
theorem s173_171 : jx_Go jxP d 173 171 [l0, l1, l2, l3, l4, .int x, l6, l7, l8, l9, l10, l11, l12, l13, l14, l15, l16, l17, l18, l19, l20, l21, l22, l23, l24, l25, l26] st h Q ↔ jx_Go jxP d 173 173 [l0, l1, l2, l3, l4, .int x, l6, l7, l8, l9, l10, l11, l12, l13, l14, l15, l16, l17, l18, l19, l20, l21, l22, l23, l24, l25, l26] (.int x :: st) h Q := jg_il rfl rfl
theorem s173_173 : jx_Go jxP d 173 173 [l0, l1, l2, l3, l4, l5, l6, l7, l8, l9, l10, l11, l12, l13, l14, l15, l16, l17, l18, l19, l20, l21, l22, l23, l24, l25, l26] (.int y :: .int x :: st) h Q ↔ jx_Go jxP d 173 174 [l0, l1, l2, l3, l4, l5, l6, l7, l8, l9, l10, l11, l12, l13, l14, l15, l16, l17, l18, l19, l20, l21, l22, l23, l24, l25, l26] (.int (x * y) :: st) h Q := jg_b (f := fun x y => x * y) rfl
theorem s173_174 : jx_Go jxP d 173 174 [l0, l1, l2, l3, l4, l5, l6, l7, l8, l9, .int x, l11, l12, l13, l14, l15, l16, l17, l18, l19, l20, l21, l22, l23, l24, l25, l26] st h Q ↔ jx_Go jxP d 173 176 [l0, l1, l2, l3, l4, l5, l6, l7, l8, l9, .int x, l11, l12, l13, l14, l15, l16, l17, l18, l19, l20, l21, l22, l23, l24, l25, l26] (.int x :: st) h Q := jg_il rfl rfl
theorem s173_176 : jx_Go jxP d 173 176 [l0, l1, l2, l3, l4, l5, l6, l7, l8, l9, l10, l11, l12, l13, l14, l15, l16, l17, l18, l19, l20, l21, l22, l23, l24, l25, l26] (.int y :: .int x :: st) h Q ↔ jx_Go jxP d 173 177 [l0, l1, l2, l3, l4, l5, l6, l7, l8, l9, l10, l11, l12, l13, l14, l15, l16, l17, l18, l19, l20, l21, l22, l23, l24, l25, l26] (.int (x + y) :: st) h Q := jg_b (f := fun x y => x + y) rfl
theorem s173_177 : jx_Go jxP d 173 177 [l0, l1, l2, l3, l4, l5, l6, l7, l8, l9, l10, l11, l12, l13, l14, l15, l16, l17, l18, l19, l20, l21, l22, l23, l24, l25, l26] (.int x :: .ref a :: st) h Q ↔ ∃ q, jx_al h a = some q ∧ jx_in x q.1 ∧ jx_Go jxP d 173 178 [l0, l1, l2, l3, l4, l5, l6, l7, l8, l9, l10, l11, l12, l13, l14, l15, l16, l17, l18, l19, l20, l21, l22, l23, l24, l25, l26] (.long (q.2 x.toNatClampNeg) :: st) h Q := jg_la rfl
theorem s173_178 : jx_Go jxP d 173 178 [l0, l1, l2, l3, l4, l5, l6, l7, l8, l9, l10, l11, l12, l13, l14, l15, l16, l17, l18, l19, .long u, l21, l22, l23, l24, l25, l26] st h Q ↔ jx_Go jxP d 173 180 [l0, l1, l2, l3, l4, l5, l6, l7, l8, l9, l10, l11, l12, l13, l14, l15, l16, l17, l18, l19, .long u, l21, l22, l23, l24, l25, l26] (.long u :: st) h Q := jg_ll rfl rfl
theorem s173_180 : jx_Go jxP d 173 180 [l0, l1, l2, l3, l4, l5, l6, l7, l8, l9, l10, l11, l12, l13, l14, l15, l16, l17, l18, l19, l20, l21, l22, l23, l24, l25, l26] (.long w :: .long u :: st) h Q ↔ jx_Go jxP d 173 181 [l0, l1, l2, l3, l4, l5, l6, l7, l8, l9, l10, l11, l12, l13, l14, l15, l16, l17, l18, l19, l20, l21, l22, l23, l24, l25, l26] (.long (u * w) :: st) h Q := jg_lb (f := fun u w => u * w) rfl
theorem s173_181 : jx_Go jxP d 173 181 [.ref a, l1, l2, l3, l4, l5, l6, l7, l8, l9, l10, l11, l12, l13, l14, l15, l16, l17, l18, l19, l20, l21, l22, l23, l24, l25, l26] st h Q ↔ jx_Go jxP d 173 182 [.ref a, l1, l2, l3, l4, l5, l6, l7, l8, l9, l10, l11, l12, l13, l14, l15, l16, l17, l18, l19, l20, l21, l22, l23, l24, l25, l26] (.ref a :: st) h Q := jg_al rfl rfl
theorem s173_182 : jx_Go jxP d 173 182 [l0, l1, l2, l3, l4, l5, l6, l7, l8, l9, l10, l11, l12, l13, l14, l15, l16, l17, l18, l19, l20, l21, l22, l23, l24, l25, l26] (.ref a :: st) h Q ↔ ∃ v, jx_fl h a 12 27 = some v ∧ jx_Go jxP d 173 185 [l0, l1, l2, l3, l4, l5, l6, l7, l8, l9, l10, l11, l12, l13, l14, l15, l16, l17, l18, l19, l20, l21, l22, l23, l24, l25, l26] (v :: st) h Q := jg_gf rfl
theorem s173_185 : jx_Go jxP d 173 185 [l0, l1, l2, l3, l4, l5, l6, l7, l8, l9, l10, l11, l12, l13, l14, l15, l16, l17, l18, l19, l20, l21, l22, l23, l24, l25, l26] st h Q ↔ jx_Go jxP d 173 186 [l0, l1, l2, l3, l4, l5, l6, l7, l8, l9, l10, l11, l12, l13, l14, l15, l16, l17, l18, l19, l20, l21, l22, l23, l24, l25, l26] (.int (nI 5) :: st) h Q := jg_c rfl
theorem s173_186 : jx_Go jxP d 173 186 [l0, l1, .int x, l3, l4, l5, l6, l7, l8, l9, l10, l11, l12, l13, l14, l15, l16, l17, l18, l19, l20, l21, l22, l23, l24, l25, l26] st h Q ↔ jx_Go jxP d 173 187 [l0, l1, .int x, l3, l4, l5, l6, l7, l8, l9, l10, l11, l12, l13, l14, l15, l16, l17, l18, l19, l20, l21, l22, l23, l24, l25, l26] (.int x :: st) h Q := jg_il rfl rfl
theorem s173_187 : jx_Go jxP d 173 187 [l0, l1, l2, l3, l4, l5, l6, l7, l8, l9, l10, l11, l12, l13, l14, l15, l16, l17, l18, l19, l20, l21, l22, l23, l24, l25, l26] (.int y :: .int x :: st) h Q ↔ jx_Go jxP d 173 188 [l0, l1, l2, l3, l4, l5, l6, l7, l8, l9, l10, l11, l12, l13, l14, l15, l16, l17, l18, l19, l20, l21, l22, l23, l24, l25, l26] (.int (x * y) :: st) h Q := jg_b (f := fun x y => x * y) rfl
theorem s173_188 : jx_Go jxP d 173 188 [l0, l1, l2, l3, l4, l5, l6, l7, l8, l9, .int x, l11, l12, l13, l14, l15, l16, l17, l18, l19, l20, l21, l22, l23, l24, l25, l26] st h Q ↔ jx_Go jxP d 173 190 [l0, l1, l2, l3, l4, l5, l6, l7, l8, l9, .int x, l11, l12, l13, l14, l15, l16, l17, l18, l19, l20, l21, l22, l23, l24, l25, l26] (.int x :: st) h Q := jg_il rfl rfl
theorem s173_190 : jx_Go jxP d 173 190 [l0, l1, l2, l3, l4, l5, l6, l7, l8, l9, l10, l11, l12, l13, l14, l15, l16, l17, l18, l19, l20, l21, l22, l23, l24, l25, l26] (.int y :: .int x :: st) h Q ↔ jx_Go jxP d 173 191 [l0, l1, l2, l3, l4, l5, l6, l7, l8, l9, l10, l11, l12, l13, l14, l15, l16, l17, l18, l19, l20, l21, l22, l23, l24, l25, l26] (.int (x + y) :: st) h Q := jg_b (f := fun x y => x + y) rfl
theorem s173_191 : jx_Go jxP d 173 191 [l0, l1, l2, l3, l4, l5, l6, l7, l8, l9, l10, l11, l12, l13, l14, l15, l16, l17, l18, l19, l20, l21, l22, l23, l24, l25, l26] (.int x :: .ref a :: st) h Q ↔ ∃ q, jx_al h a = some q ∧ jx_in x q.1 ∧ jx_Go jxP d 173 192 [l0, l1, l2, l3, l4, l5, l6, l7, l8, l9, l10, l11, l12, l13, l14, l15, l16, l17, l18, l19, l20, l21, l22, l23, l24, l25, l26] (.long (q.2 x.toNatClampNeg) :: st) h Q := jg_la rfl
theorem s173_192 : jx_Go jxP d 173 192 [l0, l1, l2, l3, l4, l5, l6, l7, l8, l9, l10, l11, l12, l13, l14, l15, l16, l17, l18, l19, l20, l21, .long u, l23, l24, l25, l26] st h Q ↔ jx_Go jxP d 173 194 [l0, l1, l2, l3, l4, l5, l6, l7, l8, l9, l10, l11, l12, l13, l14, l15, l16, l17, l18, l19, l20, l21, .long u, l23, l24, l25, l26] (.long u :: st) h Q := jg_ll rfl rfl
theorem s173_194 : jx_Go jxP d 173 194 [l0, l1, l2, l3, l4, l5, l6, l7, l8, l9, l10, l11, l12, l13, l14, l15, l16, l17, l18, l19, l20, l21, l22, l23, l24, l25, l26] (.long w :: .long u :: st) h Q ↔ jx_Go jxP d 173 195 [l0, l1, l2, l3, l4, l5, l6, l7, l8, l9, l10, l11, l12, l13, l14, l15, l16, l17, l18, l19, l20, l21, l22, l23, l24, l25, l26] (.long (u * w) :: st) h Q := jg_lb (f := fun u w => u * w) rfl
theorem s173_195 : jx_Go jxP d 173 195 [l0, l1, l2, l3, l4, l5, l6, l7, l8, l9, l10, l11, l12, l13, l14, l15, l16, l17, l18, l19, l20, l21, l22, l23, l24, l25, l26] (.long w :: .long u :: st) h Q ↔ jx_Go jxP d 173 196 [l0, l1, l2, l3, l4, l5, l6, l7, l8, l9, l10, l11, l12, l13, l14, l15, l16, l17, l18, l19, l20, l21, l22, l23, l24, l25, l26] (.long (u - w) :: st) h Q := jg_lb (f := fun u w => u - w) rfl
theorem s173_196 : jx_Go jxP d 173 196 [l0, l1, l2, l3, l4, l5, l6, l7, l8, l9, l10, l11, l12, l13, l14, l15, l16, l17, l18, l19, l20, l21, l22, l23, l24, l25, l26] (.long u :: st) h Q ↔ jx_Go jxP d 173 198 [l0, l1, l2, l3, l4, l5, l6, l7, l8, l9, l10, jx_u, jx_u, l13, l14, l15, l16, l17, l18, l19, l20, l21, l22, l23, jx_u, .long u, jx_u] st h Q := jg_ls rfl rfl
theorem s173_198 : jx_Go jxP d 173 198 [.ref a, l1, l2, l3, l4, l5, l6, l7, l8, l9, l10, l11, l12, l13, l14, l15, l16, l17, l18, l19, l20, l21, l22, l23, l24, l25, l26] st h Q ↔ jx_Go jxP d 173 199 [.ref a, l1, l2, l3, l4, l5, l6, l7, l8, l9, l10, l11, l12, l13, l14, l15, l16, l17, l18, l19, l20, l21, l22, l23, l24, l25, l26] (.ref a :: st) h Q := jg_al rfl rfl
theorem s173_199 : jx_Go jxP d 173 199 [l0, l1, l2, l3, l4, l5, l6, l7, l8, l9, l10, l11, l12, l13, l14, l15, l16, l17, l18, l19, l20, l21, l22, l23, l24, l25, l26] (.ref a :: st) h Q ↔ ∃ v, jx_fl h a 12 27 = some v ∧ jx_Go jxP d 173 202 [l0, l1, l2, l3, l4, l5, l6, l7, l8, l9, l10, l11, l12, l13, l14, l15, l16, l17, l18, l19, l20, l21, l22, l23, l24, l25, l26] (v :: st) h Q := jg_gf rfl
theorem s173_202 : jx_Go jxP d 173 202 [l0, l1, l2, l3, l4, l5, l6, l7, l8, l9, l10, l11, l12, l13, l14, l15, l16, l17, l18, l19, l20, l21, l22, l23, l24, l25, l26] st h Q ↔ jx_Go jxP d 173 203 [l0, l1, l2, l3, l4, l5, l6, l7, l8, l9, l10, l11, l12, l13, l14, l15, l16, l17, l18, l19, l20, l21, l22, l23, l24, l25, l26] (.int (nI 5) :: st) h Q := jg_c rfl
theorem s173_203 : jx_Go jxP d 173 203 [l0, l1, l2, l3, l4, .int x, l6, l7, l8, l9, l10, l11, l12, l13, l14, l15, l16, l17, l18, l19, l20, l21, l22, l23, l24, l25, l26] st h Q ↔ jx_Go jxP d 173 205 [l0, l1, l2, l3, l4, .int x, l6, l7, l8, l9, l10, l11, l12, l13, l14, l15, l16, l17, l18, l19, l20, l21, l22, l23, l24, l25, l26] (.int x :: st) h Q := jg_il rfl rfl
theorem s173_205 : jx_Go jxP d 173 205 [l0, l1, l2, l3, l4, l5, l6, l7, l8, l9, l10, l11, l12, l13, l14, l15, l16, l17, l18, l19, l20, l21, l22, l23, l24, l25, l26] (.int y :: .int x :: st) h Q ↔ jx_Go jxP d 173 206 [l0, l1, l2, l3, l4, l5, l6, l7, l8, l9, l10, l11, l12, l13, l14, l15, l16, l17, l18, l19, l20, l21, l22, l23, l24, l25, l26] (.int (x * y) :: st) h Q := jg_b (f := fun x y => x * y) rfl
theorem s173_206 : jx_Go jxP d 173 206 [l0, l1, l2, l3, l4, l5, l6, l7, l8, l9, .int x, l11, l12, l13, l14, l15, l16, l17, l18, l19, l20, l21, l22, l23, l24, l25, l26] st h Q ↔ jx_Go jxP d 173 208 [l0, l1, l2, l3, l4, l5, l6, l7, l8, l9, .int x, l11, l12, l13, l14, l15, l16, l17, l18, l19, l20, l21, l22, l23, l24, l25, l26] (.int x :: st) h Q := jg_il rfl rfl
theorem s173_208 : jx_Go jxP d 173 208 [l0, l1, l2, l3, l4, l5, l6, l7, l8, l9, l10, l11, l12, l13, l14, l15, l16, l17, l18, l19, l20, l21, l22, l23, l24, l25, l26] (.int y :: .int x :: st) h Q ↔ jx_Go jxP d 173 209 [l0, l1, l2, l3, l4, l5, l6, l7, l8, l9, l10, l11, l12, l13, l14, l15, l16, l17, l18, l19, l20, l21, l22, l23, l24, l25, l26] (.int (x + y) :: st) h Q := jg_b (f := fun x y => x + y) rfl
theorem s173_209 : jx_Go jxP d 173 209 [l0, .int x, l2, l3, l4, l5, l6, l7, l8, l9, l10, l11, l12, l13, l14, l15, l16, l17, l18, l19, l20, l21, l22, l23, l24, l25, l26] st h Q ↔ jx_Go jxP d 173 210 [l0, .int x, l2, l3, l4, l5, l6, l7, l8, l9, l10, l11, l12, l13, l14, l15, l16, l17, l18, l19, l20, l21, l22, l23, l24, l25, l26] (.int x :: st) h Q := jg_il rfl rfl
theorem s173_210 : jx_Go jxP d 173 210 [l0, l1, l2, l3, l4, l5, l6, l7, l8, l9, l10, l11, l12, l13, l14, l15, l16, l17, l18, l19, l20, l21, l22, l23, l24, l25, l26] (.int x :: st) h Q ↔ if x = 0 then jx_Go jxP d 173 218 [l0, l1, l2, l3, l4, l5, l6, l7, l8, l9, l10, l11, l12, l13, l14, l15, l16, l17, l18, l19, l20, l21, l22, l23, l24, l25, l26] st h Q else jx_Go jxP d 173 213 [l0, l1, l2, l3, l4, l5, l6, l7, l8, l9, l10, l11, l12, l13, l14, l15, l16, l17, l18, l19, l20, l21, l22, l23, l24, l25, l26] st h Q := jg_ifP rfl rfl
theorem s173_213 : jx_Go jxP d 173 213 [l0, l1, l2, l3, l4, l5, l6, l7, l8, l9, l10, l11, l12, l13, l14, l15, l16, l17, l18, l19, l20, l21, l22, l23, l24, .long u, l26] st h Q ↔ jx_Go jxP d 173 215 [l0, l1, l2, l3, l4, l5, l6, l7, l8, l9, l10, l11, l12, l13, l14, l15, l16, l17, l18, l19, l20, l21, l22, l23, l24, .long u, l26] (.long u :: st) h Q := jg_ll rfl rfl
theorem s173_215 : jx_Go jxP d 173 215 [l0, l1, l2, l3, l4, l5, l6, l7, l8, l9, l10, l11, l12, l13, l14, l15, l16, l17, l18, l19, l20, l21, l22, l23, l24, l25, l26] st h Q ↔ jx_Go jxP d 173 222 [l0, l1, l2, l3, l4, l5, l6, l7, l8, l9, l10, l11, l12, l13, l14, l15, l16, l17, l18, l19, l20, l21, l22, l23, l24, l25, l26] st h Q := jg_go rfl
theorem s173_218 : jx_Go jxP d 173 218 [l0, l1, l2, l3, l4, l5, l6, l7, l8, l9, l10, l11, l12, l13, l14, l15, l16, l17, l18, l19, l20, l21, l22, l23, l24, .long u, l26] st h Q ↔ jx_Go jxP d 173 220 [l0, l1, l2, l3, l4, l5, l6, l7, l8, l9, l10, l11, l12, l13, l14, l15, l16, l17, l18, l19, l20, l21, l22, l23, l24, .long u, l26] (.long u :: st) h Q := jg_ll rfl rfl
theorem s173_220 : jx_Go jxP d 173 220 [l0, l1, l2, l3, l4, l5, l6, l7, l8, l9, l10, l11, l12, l13, l14, l15, l16, l17, l18, l19, l20, l21, l22, l23, l24, l25, l26] st h Q ↔ jx_Go jxP d 173 221 [l0, l1, l2, l3, l4, l5, l6, l7, l8, l9, l10, l11, l12, l13, l14, l15, l16, l17, l18, l19, l20, l21, l22, l23, l24, l25, l26] (.long 1 :: st) h Q := jg_cl rfl
theorem s173_221 : jx_Go jxP d 173 221 [l0, l1, l2, l3, l4, l5, l6, l7, l8, l9, l10, l11, l12, l13, l14, l15, l16, l17, l18, l19, l20, l21, l22, l23, l24, l25, l26] (.long w :: .long u :: st) h Q ↔ jx_Go jxP d 173 222 [l0, l1, l2, l3, l4, l5, l6, l7, l8, l9, l10, l11, l12, l13, l14, l15, l16, l17, l18, l19, l20, l21, l22, l23, l24, l25, l26] (.long (u &&& w) :: st) h Q := jg_lb (f := fun u w => u &&& w) rfl
theorem s173_222 : jx_Go jxP d 173 222 [l0, l1, l2, l3, l4, l5, l6, l7, l8, l9, l10, l11, l12, l13, l14, l15, l16, l17, l18, l19, l20, l21, l22, l23, l24, l25, l26] (.long u :: .int x :: .ref a :: st) h Q ↔ ∃ q, jx_al h a = some q ∧ jx_in x q.1 ∧ jx_Go jxP d 173 223 [l0, l1, l2, l3, l4, l5, l6, l7, l8, l9, l10, l11, l12, l13, l14, l15, l16, l17, l18, l19, l20, l21, l22, l23, l24, l25, l26] st (jx_wl h a q.1 (vp_updL q.2 x.toNatClampNeg u)) Q := jg_lw rfl
theorem s173_223 : jx_Go jxP d 173 223 [l0, l1, l2, l3, l4, l5, l6, l7, l8, l9, .int x, l11, l12, l13, l14, l15, l16, l17, l18, l19, l20, l21, l22, l23, l24, l25, l26] st h Q ↔ jx_Go jxP d 173 226 [l0, l1, l2, l3, l4, l5, l6, l7, l8, l9, .int (x + (nI 1)), l11, l12, l13, l14, l15, l16, l17, l18, l19, l20, l21, l22, jx_u, jx_u, l25, l26] st h Q := jg_inc rfl rfl rfl
theorem s173_226 : jx_Go jxP d 173 226 [l0, l1, l2, l3, l4, l5, l6, l7, l8, l9, l10, l11, l12, l13, l14, l15, l16, l17, l18, l19, l20, l21, l22, l23, l24, l25, l26] st h Q ↔ jx_Go jxP d 173 157 [l0, l1, l2, l3, l4, l5, l6, l7, l8, l9, l10, l11, l12, l13, l14, l15, l16, l17, l18, l19, l20, l21, l22, l23, l24, l25, l26] st h Q := jg_go rfl
theorem s173_229 : jx_Go jxP d 173 229 [l0, l1, l2, l3, l4, .int x, l6, l7, l8, l9, l10, l11, l12, l13, l14, l15, l16, l17, l18, l19, l20, l21, l22, l23, l24, l25, l26] st h Q ↔ jx_Go jxP d 173 232 [l0, l1, l2, l3, l4, .int (x + (nI 1)), l6, l7, l8, l9, l10, l11, l12, l13, l14, l15, l16, l17, jx_u, jx_u, l20, l21, l22, l23, l24, l25, l26] st h Q := jg_inc rfl rfl rfl
theorem s173_232 : jx_Go jxP d 173 232 [l0, l1, l2, l3, l4, l5, l6, l7, l8, l9, l10, l11, l12, l13, l14, l15, l16, l17, l18, l19, l20, l21, l22, l23, l24, l25, l26] st h Q ↔ jx_Go jxP d 173 120 [l0, l1, l2, l3, l4, l5, l6, l7, l8, l9, l10, l11, l12, l13, l14, l15, l16, l17, l18, l19, l20, l21, l22, l23, l24, l25, l26] st h Q := jg_go rfl
theorem s173_235 : jx_Go jxP d 173 235 [l0, l1, .int x, l3, l4, l5, l6, l7, l8, l9, l10, l11, l12, l13, l14, l15, l16, l17, l18, l19, l20, l21, l22, l23, l24, l25, l26] st h Q ↔ jx_Go jxP d 173 238 [l0, l1, .int (x + (nI 1)), l3, l4, l5, l6, l7, l8, l9, l10, l11, l12, l13, l14, jx_u, jx_u, l17, l18, l19, l20, l21, l22, l23, l24, l25, l26] st h Q := jg_inc rfl rfl rfl
theorem s173_238 : jx_Go jxP d 173 238 [l0, l1, l2, .int x, l4, l5, l6, l7, l8, l9, l10, l11, l12, l13, l14, l15, l16, l17, l18, l19, l20, l21, l22, l23, l24, l25, l26] st h Q ↔ jx_Go jxP d 173 241 [l0, l1, l2, .int (x + (nI 1)), l4, l5, l6, l7, l8, l9, l10, l11, l12, l13, l14, l15, jx_u, jx_u, l18, l19, l20, l21, l22, l23, l24, l25, l26] st h Q := jg_inc rfl rfl rfl
theorem s173_241 : jx_Go jxP d 173 241 [l0, l1, l2, l3, l4, l5, l6, l7, l8, l9, l10, l11, l12, l13, l14, l15, l16, l17, l18, l19, l20, l21, l22, l23, l24, l25, l26] st h Q ↔ jx_Go jxP d 173 46 [l0, l1, l2, l3, l4, l5, l6, l7, l8, l9, l10, l11, l12, l13, l14, l15, l16, l17, l18, l19, l20, l21, l22, l23, l24, l25, l26] st h Q := jg_go rfl
theorem s173_244 : jx_Go jxP d 173 244 [l0, l1, .int x, l3, l4, l5, l6, l7, l8, l9, l10, l11, l12, l13, l14, l15, l16, l17, l18, l19, l20, l21, l22, l23, l24, l25, l26] st h Q ↔ jx_Go jxP d 173 245 [l0, l1, .int x, l3, l4, l5, l6, l7, l8, l9, l10, l11, l12, l13, l14, l15, l16, l17, l18, l19, l20, l21, l22, l23, l24, l25, l26] (.int x :: st) h Q := jg_il rfl rfl
theorem s173_245 : jx_Go jxP d 173 245 [l0, l1, l2, l3, l4, l5, l6, l7, l8, l9, l10, l11, l12, l13, l14, l15, l16, l17, l18, l19, l20, l21, l22, l23, l24, l25, l26] [.int x] h Q ↔ Q [.int x] h := jx_rt rfl rfl
-- 174 TalkBenchModel.lieTogether
theorem s174_0 : jx_Go jxP d 174 0 [l0, l1, l2, l3] st h Q ↔ jx_Go jxP d 174 1 [l0, l1, l2, l3] (.int (nI 1) :: st) h Q := jg_c rfl
theorem s174_1 : jx_Go jxP d 174 1 [l0, .int x, l2, l3] st h Q ↔ jx_Go jxP d 174 2 [l0, .int x, l2, l3] (.int x :: st) h Q := jg_il rfl rfl
theorem s174_2 : jx_Go jxP d 174 2 [l0, l1, l2, l3] st h Q ↔ jx_Go jxP d 174 3 [l0, l1, l2, l3] (.int (nI 5) :: st) h Q := jg_c rfl
theorem s174_3 : jx_Go jxP d 174 3 [l0, l1, l2, l3] (.int y :: .int x :: st) h Q ↔ (¬ y = 0 ∧ jx_Go jxP d 174 4 [l0, l1, l2, l3] (.int (x / y) :: st) h Q) := jg_q (f := fun x y => x / y) rfl
theorem s174_4 : jx_Go jxP d 174 4 [l0, l1, l2, l3] (.int y :: .int x :: st) h Q ↔ jx_Go jxP d 174 5 [l0, l1, l2, l3] (.int (x <<< (y &&& 31)) :: st) h Q := jg_b (f := fun x y => x <<< (y &&& 31)) rfl
theorem s174_5 : jx_Go jxP d 174 5 [l0, l1, l2, l3] st h Q ↔ jx_Go jxP d 174 6 [l0, l1, l2, l3] (.int (nI 1) :: st) h Q := jg_c rfl
theorem s174_6 : jx_Go jxP d 174 6 [l0, l1, .int x, l3] st h Q ↔ jx_Go jxP d 174 7 [l0, l1, .int x, l3] (.int x :: st) h Q := jg_il rfl rfl
theorem s174_7 : jx_Go jxP d 174 7 [l0, l1, l2, l3] st h Q ↔ jx_Go jxP d 174 8 [l0, l1, l2, l3] (.int (nI 5) :: st) h Q := jg_c rfl
theorem s174_8 : jx_Go jxP d 174 8 [l0, l1, l2, l3] (.int y :: .int x :: st) h Q ↔ (¬ y = 0 ∧ jx_Go jxP d 174 9 [l0, l1, l2, l3] (.int (x / y) :: st) h Q) := jg_q (f := fun x y => x / y) rfl
theorem s174_9 : jx_Go jxP d 174 9 [l0, l1, l2, l3] (.int y :: .int x :: st) h Q ↔ jx_Go jxP d 174 10 [l0, l1, l2, l3] (.int (x <<< (y &&& 31)) :: st) h Q := jg_b (f := fun x y => x <<< (y &&& 31)) rfl
theorem s174_10 : jx_Go jxP d 174 10 [l0, l1, l2, l3] (.int y :: .int x :: st) h Q ↔ jx_Go jxP d 174 11 [l0, l1, l2, l3] (.int (x ||| y) :: st) h Q := jg_b (f := fun x y => x ||| y) rfl
theorem s174_11 : jx_Go jxP d 174 11 [l0, l1, l2, l3] st h Q ↔ jx_Go jxP d 174 12 [l0, l1, l2, l3] (.int (nI 5) :: st) h Q := jg_c rfl
theorem s174_12 : jx_Go jxP d 174 12 [l0, l1, l2, l3] (.int y :: .int x :: st) h Q ↔ jx_Go jxP d 174 13 [l0, l1, l2, l3] (.int (x <<< (y &&& 31)) :: st) h Q := jg_b (f := fun x y => x <<< (y &&& 31)) rfl
theorem s174_13 : jx_Go jxP d 174 13 [l0, l1, l2, l3] st h Q ↔ jx_Go jxP d 174 14 [l0, l1, l2, l3] (.int (nI 1) :: st) h Q := jg_c rfl
theorem s174_14 : jx_Go jxP d 174 14 [l0, .int x, l2, l3] st h Q ↔ jx_Go jxP d 174 15 [l0, .int x, l2, l3] (.int x :: st) h Q := jg_il rfl rfl
theorem s174_15 : jx_Go jxP d 174 15 [l0, l1, l2, l3] st h Q ↔ jx_Go jxP d 174 16 [l0, l1, l2, l3] (.int (nI 5) :: st) h Q := jg_c rfl
theorem s174_16 : jx_Go jxP d 174 16 [l0, l1, l2, l3] (.int y :: .int x :: st) h Q ↔ (¬ y = 0 ∧ jx_Go jxP d 174 17 [l0, l1, l2, l3] (.int (x - x / y * y) :: st) h Q) := jg_q (f := fun x y => x - x / y * y) rfl
theorem s174_17 : jx_Go jxP d 174 17 [l0, l1, l2, l3] (.int y :: .int x :: st) h Q ↔ jx_Go jxP d 174 18 [l0, l1, l2, l3] (.int (x <<< (y &&& 31)) :: st) h Q := jg_b (f := fun x y => x <<< (y &&& 31)) rfl
theorem s174_18 : jx_Go jxP d 174 18 [l0, l1, l2, l3] (.int y :: .int x :: st) h Q ↔ jx_Go jxP d 174 19 [l0, l1, l2, l3] (.int (x ||| y) :: st) h Q := jg_b (f := fun x y => x ||| y) rfl
theorem s174_19 : jx_Go jxP d 174 19 [l0, l1, l2, l3] st h Q ↔ jx_Go jxP d 174 20 [l0, l1, l2, l3] (.int (nI 1) :: st) h Q := jg_c rfl
theorem s174_20 : jx_Go jxP d 174 20 [l0, l1, .int x, l3] st h Q ↔ jx_Go jxP d 174 21 [l0, l1, .int x, l3] (.int x :: st) h Q := jg_il rfl rfl
theorem s174_21 : jx_Go jxP d 174 21 [l0, l1, l2, l3] st h Q ↔ jx_Go jxP d 174 22 [l0, l1, l2, l3] (.int (nI 5) :: st) h Q := jg_c rfl
theorem s174_22 : jx_Go jxP d 174 22 [l0, l1, l2, l3] (.int y :: .int x :: st) h Q ↔ (¬ y = 0 ∧ jx_Go jxP d 174 23 [l0, l1, l2, l3] (.int (x - x / y * y) :: st) h Q) := jg_q (f := fun x y => x - x / y * y) rfl
theorem s174_23 : jx_Go jxP d 174 23 [l0, l1, l2, l3] (.int y :: .int x :: st) h Q ↔ jx_Go jxP d 174 24 [l0, l1, l2, l3] (.int (x <<< (y &&& 31)) :: st) h Q := jg_b (f := fun x y => x <<< (y &&& 31)) rfl
theorem s174_24 : jx_Go jxP d 174 24 [l0, l1, l2, l3] (.int y :: .int x :: st) h Q ↔ jx_Go jxP d 174 25 [l0, l1, l2, l3] (.int (x ||| y) :: st) h Q := jg_b (f := fun x y => x ||| y) rfl
theorem s174_25 : jx_Go jxP d 174 25 [l0, l1, l2, l3] (.int x :: st) h Q ↔ jx_Go jxP d 174 26 [l0, l1, l2, .int x] st h Q := jg_is rfl rfl
theorem s174_26 : jx_Go jxP d 174 26 [.ref a, l1, l2, l3] st h Q ↔ jx_Go jxP d 174 27 [.ref a, l1, l2, l3] (.ref a :: st) h Q := jg_al rfl rfl
theorem s174_27 : jx_Go jxP d 174 27 [l0, l1, l2, .int x] st h Q ↔ jx_Go jxP d 174 28 [l0, l1, l2, .int x] (.int x :: st) h Q := jg_il rfl rfl
theorem s174_28 : jx_Go jxP (d + 1) 174 28 [l0, l1, l2, l3] (.int x0 :: .ref a :: st) h Q ↔ (st.length ≤ 4 ∧ jx_cl h a = some 12 ∧ jx_Go jxP d 156 0 [.ref a, .int x0] [] h (fun s1 h1 => jx_Go jxP (d + 1) 174 31 [l0, l1, l2, l3] (s1 ++ st) h1 Q)) := jg_callV (as := [.int x0, .ref a]) rfl rfl rfl rfl rfl
theorem s174_31b0 : jx_Go jxP d 174 31 [l0, l1, l2, l3] [.int (nI 0)] h Q ↔ Q [.int (nI 0)] h := jx_rt rfl rfl
theorem s174_31b1 : jx_Go jxP d 174 31 [l0, l1, l2, l3] [.int (nI 1)] h Q ↔ Q [.int (nI 1)] h := jx_rt rfl rfl
-- 175 TalkBenchModel.fool
theorem s175_0 : jx_Go jxP d 175 0 [l0, .int x, l2, l3, l4, l5, l6, l7, l8, l9, l10] st h Q ↔ jx_Go jxP d 175 1 [l0, .int x, l2, l3, l4, l5, l6, l7, l8, l9, l10] (.int x :: st) h Q := jg_il rfl rfl
theorem s175_1 : jx_Go jxP d 175 1 [l0, l1, l2, l3, l4, l5, l6, l7, l8, l9, l10] (.int x :: st) h Q ↔ if x < 0 then jx_Go jxP d 175 9 [l0, l1, l2, l3, l4, l5, l6, l7, l8, l9, l10] st h Q else jx_Go jxP d 175 4 [l0, l1, l2, l3, l4, l5, l6, l7, l8, l9, l10] st h Q := jg_ifP rfl rfl
theorem s175_4 : jx_Go jxP d 175 4 [l0, .int x, l2, l3, l4, l5, l6, l7, l8, l9, l10] st h Q ↔ jx_Go jxP d 175 5 [l0, .int x, l2, l3, l4, l5, l6, l7, l8, l9, l10] (.int x :: st) h Q := jg_il rfl rfl
theorem s175_5 : jx_Go jxP d 175 5 [l0, l1, l2, l3, l4, l5, l6, l7, l8, l9, l10] st h Q ↔ jx_Go jxP d 175 6 [l0, l1, l2, l3, l4, l5, l6, l7, l8, l9, l10] (.int (nI 1) :: st) h Q := jg_c rfl
theorem s175_6 : jx_Go jxP d 175 6 [l0, l1, l2, l3, l4, l5, l6, l7, l8, l9, l10] (.int y :: .int x :: st) h Q ↔ if x ≤ y then jx_Go jxP d 175 15 [l0, l1, l2, l3, l4, l5, l6, l7, l8, l9, l10] st h Q else jx_Go jxP d 175 9 [l0, l1, l2, l3, l4, l5, l6, l7, l8, l9, l10] st h Q := jg_icP rfl rfl
theorem s175_9 : jx_Go jxP d 175 9 [.ref a, l1, l2, l3, l4, l5, l6, l7, l8, l9, l10] st h Q ↔ jx_Go jxP d 175 10 [.ref a, l1, l2, l3, l4, l5, l6, l7, l8, l9, l10] (.ref a :: st) h Q := jg_al rfl rfl
theorem s175_10 : jx_Go jxP d 175 10 [l0, l1, l2, l3, l4, l5, l6, l7, l8, l9, l10] st h Q ↔ jx_Go jxP d 175 11 [l0, l1, l2, l3, l4, l5, l6, l7, l8, l9, l10] (.int (-1) :: st) h Q := jg_c rfl
theorem s175_11 : jx_Go jxP (d + 1) 175 11 [l0, l1, l2, l3, l4, l5, l6, l7, l8, l9, l10] (.int x0 :: .ref a :: st) h Q ↔ (st.length ≤ 4 ∧ jx_cl h a = some 12 ∧ jx_Go jxP d 130 0 [.ref a, .int x0] [] h (fun s1 h1 => jx_Go jxP (d + 1) 175 14 [l0, l1, l2, l3, l4, l5, l6, l7, l8, l9, l10] (s1 ++ st) h1 Q)) := jg_callV (as := [.int x0, .ref a]) rfl rfl rfl rfl rfl
theorem s175_14 : jx_Go jxP d 175 14 [l0, l1, l2, l3, l4, l5, l6, l7, l8, l9, l10] [.int x] h Q ↔ Q [.int x] h := jx_rt rfl rfl
theorem s175_15 : jx_Go jxP d 175 15 [l0, l1, l2, l3, l4, l5, l6, l7, l8, l9, l10] st h Q ↔ jx_Go jxP d 175 16 [l0, l1, l2, l3, l4, l5, l6, l7, l8, l9, l10] (.int (nI 1) :: st) h Q := jg_c rfl
theorem s175_16 : jx_Go jxP d 175 16 [l0, l1, l2, l3, l4, l5, l6, l7, l8, l9, l10] (.int x :: st) h Q ↔ jx_Go jxP d 175 17 [l0, l1, .int x, l3, l4, l5, l6, l7, l8, l9, l10] st h Q := jg_is rfl rfl
theorem s175_17 : jx_Go jxP d 175 17 [l0, l1, l2, l3, l4, l5, l6, l7, l8, l9, l10] st h Q ↔ jx_Go jxP d 175 18 [l0, l1, l2, l3, l4, l5, l6, l7, l8, l9, l10] (.int (nI 0) :: st) h Q := jg_c rfl
theorem s175_18 : jx_Go jxP d 175 18 [l0, l1, l2, l3, l4, l5, l6, l7, l8, l9, l10] (.int x :: st) h Q ↔ jx_Go jxP d 175 19 [l0, l1, l2, .int x, l4, l5, l6, l7, l8, l9, l10] st h Q := jg_is rfl rfl
theorem s175_19 : jx_Go jxP d 175 19 [l0, l1, l2, .int x, l4, l5, l6, l7, l8, l9, l10] st h Q ↔ jx_Go jxP d 175 20 [l0, l1, l2, .int x, l4, l5, l6, l7, l8, l9, l10] (.int x :: st) h Q := jg_il rfl rfl
theorem s175_20 : jx_Go jxP d 175 20 [.ref a, l1, l2, l3, l4, l5, l6, l7, l8, l9, l10] st h Q ↔ jx_Go jxP d 175 21 [.ref a, l1, l2, l3, l4, l5, l6, l7, l8, l9, l10] (.ref a :: st) h Q := jg_al rfl rfl
theorem s175_21 : jx_Go jxP d 175 21 [l0, l1, l2, l3, l4, l5, l6, l7, l8, l9, l10] (.ref a :: st) h Q ↔ ∃ v, jx_fl h a 12 0 = some v ∧ jx_Go jxP d 175 24 [l0, l1, l2, l3, l4, l5, l6, l7, l8, l9, l10] (v :: st) h Q := jg_gf rfl
theorem s175_24 : jx_Go jxP d 175 24 [l0, l1, l2, l3, l4, l5, l6, l7, l8, l9, l10] (.int y :: .int x :: st) h Q ↔ if y ≤ x then jx_Go jxP d 175 42 [l0, l1, l2, l3, l4, l5, l6, l7, l8, l9, l10] st h Q else jx_Go jxP d 175 27 [l0, l1, l2, l3, l4, l5, l6, l7, l8, l9, l10] st h Q := jg_icP rfl rfl
theorem s175_27 : jx_Go jxP d 175 27 [l0, l1, .int x, l3, l4, l5, l6, l7, l8, l9, l10] st h Q ↔ jx_Go jxP d 175 28 [l0, l1, .int x, l3, l4, l5, l6, l7, l8, l9, l10] (.int x :: st) h Q := jg_il rfl rfl
theorem s175_28 : jx_Go jxP d 175 28 [.ref a, l1, l2, l3, l4, l5, l6, l7, l8, l9, l10] st h Q ↔ jx_Go jxP d 175 29 [.ref a, l1, l2, l3, l4, l5, l6, l7, l8, l9, l10] (.ref a :: st) h Q := jg_al rfl rfl
theorem s175_29 : jx_Go jxP d 175 29 [l0, l1, l2, l3, l4, l5, l6, l7, l8, l9, l10] (.ref a :: st) h Q ↔ ∃ v, jx_fl h a 12 1 = some v ∧ jx_Go jxP d 175 32 [l0, l1, l2, l3, l4, l5, l6, l7, l8, l9, l10] (v :: st) h Q := jg_gf rfl
theorem s175_32 : jx_Go jxP d 175 32 [l0, l1, l2, l3, l4, l5, l6, l7, l8, l9, l10] st h Q ↔ jx_Go jxP d 175 33 [l0, l1, l2, l3, l4, l5, l6, l7, l8, l9, l10] (.int (nI 1) :: st) h Q := jg_c rfl
theorem s175_33 : jx_Go jxP d 175 33 [l0, l1, l2, l3, l4, l5, l6, l7, l8, l9, l10] (.int y :: .int x :: st) h Q ↔ jx_Go jxP d 175 34 [l0, l1, l2, l3, l4, l5, l6, l7, l8, l9, l10] (.int (x + y) :: st) h Q := jg_b (f := fun x y => x + y) rfl
theorem s175_34 : jx_Go jxP d 175 34 [l0, l1, l2, l3, l4, l5, l6, l7, l8, l9, l10] (.int y :: .int x :: st) h Q ↔ jx_Go jxP d 175 35 [l0, l1, l2, l3, l4, l5, l6, l7, l8, l9, l10] (.int (x * y) :: st) h Q := jg_b (f := fun x y => x * y) rfl
theorem s175_35 : jx_Go jxP d 175 35 [l0, l1, l2, l3, l4, l5, l6, l7, l8, l9, l10] (.int x :: st) h Q ↔ jx_Go jxP d 175 36 [l0, l1, .int x, l3, l4, l5, l6, l7, l8, l9, l10] st h Q := jg_is rfl rfl
theorem s175_36 : jx_Go jxP d 175 36 [l0, l1, l2, .int x, l4, l5, l6, l7, l8, l9, l10] st h Q ↔ jx_Go jxP d 175 39 [l0, l1, l2, .int (x + (nI 1)), l4, l5, l6, l7, l8, l9, l10] st h Q := jg_inc rfl rfl rfl
theorem s175_39 : jx_Go jxP d 175 39 [l0, l1, l2, l3, l4, l5, l6, l7, l8, l9, l10] st h Q ↔ jx_Go jxP d 175 19 [l0, l1, l2, l3, l4, l5, l6, l7, l8, l9, l10] st h Q := jg_go rfl
theorem s175_42 : jx_Go jxP d 175 42 [l0, l1, l2, l3, l4, l5, l6, l7, l8, l9, l10] st h Q ↔ jx_Go jxP d 175 43 [l0, l1, l2, l3, l4, l5, l6, l7, l8, l9, l10] (.int (nI 0) :: st) h Q := jg_c rfl
theorem s175_43 : jx_Go jxP d 175 43 [l0, l1, l2, l3, l4, l5, l6, l7, l8, l9, l10] (.int x :: st) h Q ↔ jx_Go jxP d 175 44 [l0, l1, l2, .int x, l4, l5, l6, l7, l8, l9, l10] st h Q := jg_is rfl rfl
theorem s175_44 : jx_Go jxP d 175 44 [l0, l1, l2, l3, l4, l5, l6, l7, l8, l9, l10] st h Q ↔ jx_Go jxP d 175 45 [l0, l1, l2, l3, l4, l5, l6, l7, l8, l9, l10] (.int (nI 0) :: st) h Q := jg_c rfl
theorem s175_45 : jx_Go jxP d 175 45 [l0, l1, l2, l3, l4, l5, l6, l7, l8, l9, l10] (.int x :: st) h Q ↔ jx_Go jxP d 175 47 [l0, l1, l2, l3, .int x, l5, l6, l7, l8, l9, l10] st h Q := jg_is rfl rfl
theorem s175_47 : jx_Go jxP d 175 47 [l0, l1, l2, l3, .int x, l5, l6, l7, l8, l9, l10] st h Q ↔ jx_Go jxP d 175 49 [l0, l1, l2, l3, .int x, l5, l6, l7, l8, l9, l10] (.int x :: st) h Q := jg_il rfl rfl
theorem s175_49 : jx_Go jxP d 175 49 [l0, l1, .int x, l3, l4, l5, l6, l7, l8, l9, l10] st h Q ↔ jx_Go jxP d 175 50 [l0, l1, .int x, l3, l4, l5, l6, l7, l8, l9, l10] (.int x :: st) h Q := jg_il rfl rfl
theorem s175_50 : jx_Go jxP d 175 50 [l0, l1, l2, l3, l4, l5, l6, l7, l8, l9, l10] (.int y :: .int x :: st) h Q ↔ if y ≤ x then jx_Go jxP d 175 226 [l0, l1, l2, l3, l4, l5, l6, l7, l8, l9, l10] st h Q else jx_Go jxP d 175 53 [l0, l1, l2, l3, l4, l5, l6, l7, l8, l9, l10] st h Q := jg_icP rfl rfl
theorem s175_53 : jx_Go jxP d 175 53 [l0, l1, l2, l3, .int x, l5, l6, l7, l8, l9, l10] st h Q ↔ jx_Go jxP d 175 55 [l0, l1, l2, l3, .int x, l5, l6, l7, l8, l9, l10] (.int x :: st) h Q := jg_il rfl rfl
theorem s175_55 : jx_Go jxP d 175 55 [l0, l1, l2, l3, l4, l5, l6, l7, l8, l9, l10] (.int x :: st) h Q ↔ jx_Go jxP d 175 57 [l0, l1, l2, l3, l4, .int x, l6, l7, l8, l9, l10] st h Q := jg_is rfl rfl
theorem s175_57 : jx_Go jxP d 175 57 [l0, l1, l2, l3, l4, l5, l6, l7, l8, l9, l10] st h Q ↔ jx_Go jxP d 175 58 [l0, l1, l2, l3, l4, l5, l6, l7, l8, l9, l10] (.int (nI 0) :: st) h Q := jg_c rfl
theorem s175_58 : jx_Go jxP d 175 58 [l0, l1, l2, l3, l4, l5, l6, l7, l8, l9, l10] (.int x :: st) h Q ↔ jx_Go jxP d 175 60 [l0, l1, l2, l3, l4, l5, .int x, l7, l8, l9, l10] st h Q := jg_is rfl rfl
theorem s175_60 : jx_Go jxP d 175 60 [l0, l1, l2, l3, l4, l5, l6, l7, l8, l9, l10] st h Q ↔ jx_Go jxP d 175 61 [l0, l1, l2, l3, l4, l5, l6, l7, l8, l9, l10] (.int (nI 1) :: st) h Q := jg_c rfl
theorem s175_61 : jx_Go jxP d 175 61 [l0, l1, l2, l3, l4, l5, l6, l7, l8, l9, l10] (.int x :: st) h Q ↔ jx_Go jxP d 175 63 [l0, l1, l2, l3, l4, l5, l6, .int x, l8, l9, l10] st h Q := jg_is rfl rfl
theorem s175_63 : jx_Go jxP d 175 63 [l0, l1, l2, l3, l4, l5, l6, l7, l8, l9, l10] st h Q ↔ jx_Go jxP d 175 64 [l0, l1, l2, l3, l4, l5, l6, l7, l8, l9, l10] (.int (nI 0) :: st) h Q := jg_c rfl
theorem s175_64 : jx_Go jxP d 175 64 [l0, l1, l2, l3, l4, l5, l6, l7, l8, l9, l10] (.int x :: st) h Q ↔ jx_Go jxP d 175 66 [l0, l1, l2, l3, l4, l5, l6, l7, .int x, l9, l10] st h Q := jg_is rfl rfl
theorem s175_66 : jx_Go jxP d 175 66 [l0, l1, l2, l3, l4, l5, l6, l7, .int x, l9, l10] st h Q ↔ jx_Go jxP d 175 68 [l0, l1, l2, l3, l4, l5, l6, l7, .int x, l9, l10] (.int x :: st) h Q := jg_il rfl rfl
theorem s175_68 : jx_Go jxP d 175 68 [.ref a, l1, l2, l3, l4, l5, l6, l7, l8, l9, l10] st h Q ↔ jx_Go jxP d 175 69 [.ref a, l1, l2, l3, l4, l5, l6, l7, l8, l9, l10] (.ref a :: st) h Q := jg_al rfl rfl
theorem s175_69 : jx_Go jxP d 175 69 [l0, l1, l2, l3, l4, l5, l6, l7, l8, l9, l10] (.ref a :: st) h Q ↔ ∃ v, jx_fl h a 12 0 = some v ∧ jx_Go jxP d 175 72 [l0, l1, l2, l3, l4, l5, l6, l7, l8, l9, l10] (v :: st) h Q := jg_gf rfl
theorem s175_72 : jx_Go jxP d 175 72 [l0, l1, l2, l3, l4, l5, l6, l7, l8, l9, l10] (.int y :: .int x :: st) h Q ↔ if y ≤ x then jx_Go jxP d 175 202 [l0, l1, l2, l3, l4, l5, l6, l7, l8, l9, l10] st h Q else jx_Go jxP d 175 75 [l0, l1, l2, l3, l4, l5, l6, l7, l8, l9, l10] st h Q := jg_icP rfl rfl
theorem s175_75 : jx_Go jxP d 175 75 [l0, l1, l2, l3, l4, .int x, l6, l7, l8, l9, l10] st h Q ↔ jx_Go jxP d 175 77 [l0, l1, l2, l3, l4, .int x, l6, l7, l8, l9, l10] (.int x :: st) h Q := jg_il rfl rfl
theorem s175_77 : jx_Go jxP d 175 77 [.ref a, l1, l2, l3, l4, l5, l6, l7, l8, l9, l10] st h Q ↔ jx_Go jxP d 175 78 [.ref a, l1, l2, l3, l4, l5, l6, l7, l8, l9, l10] (.ref a :: st) h Q := jg_al rfl rfl
theorem s175_78 : jx_Go jxP d 175 78 [l0, l1, l2, l3, l4, l5, l6, l7, l8, l9, l10] (.ref a :: st) h Q ↔ ∃ v, jx_fl h a 12 1 = some v ∧ jx_Go jxP d 175 81 [l0, l1, l2, l3, l4, l5, l6, l7, l8, l9, l10] (v :: st) h Q := jg_gf rfl
theorem s175_81 : jx_Go jxP d 175 81 [l0, l1, l2, l3, l4, l5, l6, l7, l8, l9, l10] st h Q ↔ jx_Go jxP d 175 82 [l0, l1, l2, l3, l4, l5, l6, l7, l8, l9, l10] (.int (nI 1) :: st) h Q := jg_c rfl
theorem s175_82 : jx_Go jxP d 175 82 [l0, l1, l2, l3, l4, l5, l6, l7, l8, l9, l10] (.int y :: .int x :: st) h Q ↔ jx_Go jxP d 175 83 [l0, l1, l2, l3, l4, l5, l6, l7, l8, l9, l10] (.int (x + y) :: st) h Q := jg_b (f := fun x y => x + y) rfl
theorem s175_83 : jx_Go jxP d 175 83 [l0, l1, l2, l3, l4, l5, l6, l7, l8, l9, l10] (.int y :: .int x :: st) h Q ↔ (¬ y = 0 ∧ jx_Go jxP d 175 84 [l0, l1, l2, l3, l4, l5, l6, l7, l8, l9, l10] (.int (x - x / y * y) :: st) h Q) := jg_q (f := fun x y => x - x / y * y) rfl
theorem s175_84 : jx_Go jxP d 175 84 [l0, l1, l2, l3, l4, l5, l6, l7, l8, l9, l10] st h Q ↔ jx_Go jxP d 175 85 [l0, l1, l2, l3, l4, l5, l6, l7, l8, l9, l10] (.int (nI 1) :: st) h Q := jg_c rfl
theorem s175_85 : jx_Go jxP d 175 85 [l0, l1, l2, l3, l4, l5, l6, l7, l8, l9, l10] (.int y :: .int x :: st) h Q ↔ jx_Go jxP d 175 86 [l0, l1, l2, l3, l4, l5, l6, l7, l8, l9, l10] (.int (x - y) :: st) h Q := jg_b (f := fun x y => x - y) rfl
theorem s175_86 : jx_Go jxP d 175 86 [l0, l1, l2, l3, l4, l5, l6, l7, l8, l9, l10] (.int x :: st) h Q ↔ jx_Go jxP d 175 88 [l0, l1, l2, l3, l4, l5, l6, l7, l8, .int x, l10] st h Q := jg_is rfl rfl
theorem s175_88 : jx_Go jxP d 175 88 [l0, l1, l2, l3, l4, .int x, l6, l7, l8, l9, l10] st h Q ↔ jx_Go jxP d 175 90 [l0, l1, l2, l3, l4, .int x, l6, l7, l8, l9, l10] (.int x :: st) h Q := jg_il rfl rfl
theorem s175_90 : jx_Go jxP d 175 90 [.ref a, l1, l2, l3, l4, l5, l6, l7, l8, l9, l10] st h Q ↔ jx_Go jxP d 175 91 [.ref a, l1, l2, l3, l4, l5, l6, l7, l8, l9, l10] (.ref a :: st) h Q := jg_al rfl rfl
theorem s175_91 : jx_Go jxP d 175 91 [l0, l1, l2, l3, l4, l5, l6, l7, l8, l9, l10] (.ref a :: st) h Q ↔ ∃ v, jx_fl h a 12 1 = some v ∧ jx_Go jxP d 175 94 [l0, l1, l2, l3, l4, l5, l6, l7, l8, l9, l10] (v :: st) h Q := jg_gf rfl
theorem s175_94 : jx_Go jxP d 175 94 [l0, l1, l2, l3, l4, l5, l6, l7, l8, l9, l10] st h Q ↔ jx_Go jxP d 175 95 [l0, l1, l2, l3, l4, l5, l6, l7, l8, l9, l10] (.int (nI 1) :: st) h Q := jg_c rfl
theorem s175_95 : jx_Go jxP d 175 95 [l0, l1, l2, l3, l4, l5, l6, l7, l8, l9, l10] (.int y :: .int x :: st) h Q ↔ jx_Go jxP d 175 96 [l0, l1, l2, l3, l4, l5, l6, l7, l8, l9, l10] (.int (x + y) :: st) h Q := jg_b (f := fun x y => x + y) rfl
theorem s175_96 : jx_Go jxP d 175 96 [l0, l1, l2, l3, l4, l5, l6, l7, l8, l9, l10] (.int y :: .int x :: st) h Q ↔ (¬ y = 0 ∧ jx_Go jxP d 175 97 [l0, l1, l2, l3, l4, l5, l6, l7, l8, l9, l10] (.int (x / y) :: st) h Q) := jg_q (f := fun x y => x / y) rfl
theorem s175_97 : jx_Go jxP d 175 97 [l0, l1, l2, l3, l4, l5, l6, l7, l8, l9, l10] (.int x :: st) h Q ↔ jx_Go jxP d 175 99 [l0, l1, l2, l3, l4, .int x, l6, l7, l8, l9, l10] st h Q := jg_is rfl rfl
theorem s175_99 : jx_Go jxP d 175 99 [l0, l1, l2, l3, l4, l5, l6, l7, l8, .int x, l10] st h Q ↔ jx_Go jxP d 175 101 [l0, l1, l2, l3, l4, l5, l6, l7, l8, .int x, l10] (.int x :: st) h Q := jg_il rfl rfl
theorem s175_101 : jx_Go jxP d 175 101 [l0, l1, l2, l3, l4, l5, l6, l7, l8, l9, l10] (.int x :: st) h Q ↔ if x < 0 then jx_Go jxP d 175 196 [l0, l1, l2, l3, l4, l5, l6, l7, l8, l9, l10] st h Q else jx_Go jxP d 175 104 [l0, l1, l2, l3, l4, l5, l6, l7, l8, l9, l10] st h Q := jg_ifP rfl rfl
theorem s175_104 : jx_Go jxP d 175 104 [l0, l1, l2, l3, l4, l5, l6, .int x, l8, l9, l10] st h Q ↔ jx_Go jxP d 175 106 [l0, l1, l2, l3, l4, l5, l6, .int x, l8, l9, l10] (.int x :: st) h Q := jg_il rfl rfl
theorem s175_106 : jx_Go jxP d 175 106 [.ref a, l1, l2, l3, l4, l5, l6, l7, l8, l9, l10] st h Q ↔ jx_Go jxP d 175 107 [.ref a, l1, l2, l3, l4, l5, l6, l7, l8, l9, l10] (.ref a :: st) h Q := jg_al rfl rfl
theorem s175_107 : jx_Go jxP d 175 107 [l0, l1, l2, l3, l4, l5, l6, l7, l8, l9, l10] (.ref a :: st) h Q ↔ ∃ v, jx_fl h a 12 2 = some v ∧ jx_Go jxP d 175 110 [l0, l1, l2, l3, l4, l5, l6, l7, l8, l9, l10] (v :: st) h Q := jg_gf rfl
theorem s175_110 : jx_Go jxP d 175 110 [l0, l1, l2, l3, l4, l5, l6, l7, l8, l9, l10] st h Q ↔ jx_Go jxP d 175 111 [l0, l1, l2, l3, l4, l5, l6, l7, l8, l9, l10] (.int (nI 5) :: st) h Q := jg_c rfl
theorem s175_111 : jx_Go jxP d 175 111 [l0, l1, l2, l3, l4, l5, l6, l7, .int x, l9, l10] st h Q ↔ jx_Go jxP d 175 113 [l0, l1, l2, l3, l4, l5, l6, l7, .int x, l9, l10] (.int x :: st) h Q := jg_il rfl rfl
theorem s175_113 : jx_Go jxP d 175 113 [l0, l1, l2, l3, l4, l5, l6, l7, l8, l9, l10] (.int y :: .int x :: st) h Q ↔ jx_Go jxP d 175 114 [l0, l1, l2, l3, l4, l5, l6, l7, l8, l9, l10] (.int (x * y) :: st) h Q := jg_b (f := fun x y => x * y) rfl
theorem s175_114 : jx_Go jxP d 175 114 [l0, l1, l2, l3, l4, l5, l6, l7, l8, .int x, l10] st h Q ↔ jx_Go jxP d 175 116 [l0, l1, l2, l3, l4, l5, l6, l7, l8, .int x, l10] (.int x :: st) h Q := jg_il rfl rfl
theorem s175_116 : jx_Go jxP d 175 116 [l0, l1, l2, l3, l4, l5, l6, l7, l8, l9, l10] (.int y :: .int x :: st) h Q ↔ jx_Go jxP d 175 117 [l0, l1, l2, l3, l4, l5, l6, l7, l8, l9, l10] (.int (x + y) :: st) h Q := jg_b (f := fun x y => x + y) rfl
theorem s175_117 : jx_Go jxP d 175 117 [l0, l1, l2, l3, l4, l5, l6, l7, l8, l9, l10] (.int x :: .ref a :: st) h Q ↔ ∃ q, jx_ai h a = some q ∧ jx_in x q.1 ∧ jx_Go jxP d 175 118 [l0, l1, l2, l3, l4, l5, l6, l7, l8, l9, l10] (.int (q.2 x.toNatClampNeg) :: st) h Q := jg_ia rfl
theorem s175_118 : jx_Go jxP d 175 118 [l0, .int x, l2, l3, l4, l5, l6, l7, l8, l9, l10] st h Q ↔ jx_Go jxP d 175 119 [l0, .int x, l2, l3, l4, l5, l6, l7, l8, l9, l10] (.int x :: st) h Q := jg_il rfl rfl
theorem s175_119 : jx_Go jxP d 175 119 [l0, l1, l2, l3, l4, l5, l6, l7, l8, l9, l10] (.int y :: .int x :: st) h Q ↔ if x = y then jx_Go jxP d 175 122 [l0, l1, l2, l3, l4, l5, l6, l7, l8, l9, l10] st h Q else jx_Go jxP d 175 126 [l0, l1, l2, l3, l4, l5, l6, l7, l8, l9, l10] st h Q := jg_icN rfl rfl
theorem s175_122 : jx_Go jxP d 175 122 [l0, l1, l2, l3, l4, l5, l6, l7, l8, l9, l10] st h Q ↔ jx_Go jxP d 175 123 [l0, l1, l2, l3, l4, l5, l6, l7, l8, l9, l10] (.int (nI 1) :: st) h Q := jg_c rfl
theorem s175_123 : jx_Go jxP d 175 123 [l0, l1, l2, l3, l4, l5, l6, l7, l8, l9, l10] st h Q ↔ jx_Go jxP d 175 127 [l0, l1, l2, l3, l4, l5, l6, l7, l8, l9, l10] st h Q := jg_go rfl
theorem s175_126 : jx_Go jxP d 175 126 [l0, l1, l2, l3, l4, l5, l6, l7, l8, l9, l10] st h Q ↔ jx_Go jxP d 175 127 [l0, l1, l2, l3, l4, l5, l6, l7, l8, l9, l10] (.int (nI 0) :: st) h Q := jg_c rfl
theorem s175_127 : jx_Go jxP d 175 127 [l0, l1, l2, l3, l4, l5, l6, l7, l8, l9, l10] (.int y :: .int x :: st) h Q ↔ jx_Go jxP d 175 128 [l0, l1, l2, l3, l4, l5, l6, l7, l8, l9, l10] (.int (x &&& y) :: st) h Q := jg_b (f := fun x y => x &&& y) rfl
theorem s175_128 : jx_Go jxP d 175 128 [l0, l1, l2, l3, l4, l5, l6, l7, l8, l9, l10] (.int x :: st) h Q ↔ jx_Go jxP d 175 130 [l0, l1, l2, l3, l4, l5, l6, .int x, l8, l9, l10] st h Q := jg_is rfl rfl
theorem s175_130 : jx_Go jxP d 175 130 [l0, l1, l2, l3, l4, l5, l6, l7, l8, l9, l10] st h Q ↔ jx_Go jxP d 175 131 [l0, l1, l2, l3, l4, l5, l6, l7, l8, l9, l10] (.int (nI 0) :: st) h Q := jg_c rfl
theorem s175_131 : jx_Go jxP d 175 131 [l0, l1, l2, l3, l4, l5, l6, l7, l8, l9, l10] (.int x :: st) h Q ↔ jx_Go jxP d 175 133 [l0, l1, l2, l3, l4, l5, l6, l7, l8, l9, .int x] st h Q := jg_is rfl rfl
theorem s175_133 : jx_Go jxP d 175 133 [l0, l1, l2, l3, l4, l5, l6, l7, l8, l9, .int x] st h Q ↔ jx_Go jxP d 175 135 [l0, l1, l2, l3, l4, l5, l6, l7, l8, l9, .int x] (.int x :: st) h Q := jg_il rfl rfl
theorem s175_135 : jx_Go jxP d 175 135 [l0, l1, l2, l3, l4, l5, .int x, l7, l8, l9, l10] st h Q ↔ jx_Go jxP d 175 137 [l0, l1, l2, l3, l4, l5, .int x, l7, l8, l9, l10] (.int x :: st) h Q := jg_il rfl rfl
theorem s175_137 : jx_Go jxP d 175 137 [l0, l1, l2, l3, l4, l5, l6, l7, l8, l9, l10] (.int y :: .int x :: st) h Q ↔ if y ≤ x then jx_Go jxP d 175 179 [l0, l1, l2, l3, l4, l5, l6, l7, l8, l9, l10] st h Q else jx_Go jxP d 175 140 [l0, l1, l2, l3, l4, l5, l6, l7, l8, l9, l10] st h Q := jg_icP rfl rfl
theorem s175_140 : jx_Go jxP d 175 140 [l0, l1, l2, l3, l4, l5, l6, .int x, l8, l9, l10] st h Q ↔ jx_Go jxP d 175 142 [l0, l1, l2, l3, l4, l5, l6, .int x, l8, l9, l10] (.int x :: st) h Q := jg_il rfl rfl
theorem s175_142 : jx_Go jxP d 175 142 [l0, l1, l2, l3, l4, l5, l6, l7, l8, l9, l10] (.int x :: st) h Q ↔ if x = 0 then jx_Go jxP d 175 179 [l0, l1, l2, l3, l4, l5, l6, l7, l8, l9, l10] st h Q else jx_Go jxP d 175 145 [l0, l1, l2, l3, l4, l5, l6, l7, l8, l9, l10] st h Q := jg_ifP rfl rfl
theorem s175_145 : jx_Go jxP d 175 145 [.ref a, l1, l2, l3, l4, l5, l6, l7, l8, l9, l10] st h Q ↔ jx_Go jxP d 175 146 [.ref a, l1, l2, l3, l4, l5, l6, l7, l8, l9, l10] (.ref a :: st) h Q := jg_al rfl rfl
theorem s175_146 : jx_Go jxP d 175 146 [.ref a, l1, l2, l3, l4, l5, l6, l7, l8, l9, l10] st h Q ↔ jx_Go jxP d 175 147 [.ref a, l1, l2, l3, l4, l5, l6, l7, l8, l9, l10] (.ref a :: st) h Q := jg_al rfl rfl
theorem s175_147 : jx_Go jxP d 175 147 [l0, l1, l2, l3, l4, l5, l6, l7, l8, l9, l10] (.ref a :: st) h Q ↔ ∃ v, jx_fl h a 12 28 = some v ∧ jx_Go jxP d 175 150 [l0, l1, l2, l3, l4, l5, l6, l7, l8, l9, l10] (v :: st) h Q := jg_gf rfl
theorem s175_150 : jx_Go jxP d 175 150 [l0, l1, l2, l3, l4, l5, l6, l7, l8, l9, .int x] st h Q ↔ jx_Go jxP d 175 152 [l0, l1, l2, l3, l4, l5, l6, l7, l8, l9, .int x] (.int x :: st) h Q := jg_il rfl rfl
theorem s175_152 : jx_Go jxP d 175 152 [l0, l1, l2, l3, l4, l5, l6, l7, l8, l9, l10] (.int x :: .ref a :: st) h Q ↔ ∃ q, jx_ai h a = some q ∧ jx_in x q.1 ∧ jx_Go jxP d 175 153 [l0, l1, l2, l3, l4, l5, l6, l7, l8, l9, l10] (.int (q.2 x.toNatClampNeg) :: st) h Q := jg_ia rfl
theorem s175_153 : jx_Go jxP d 175 153 [l0, l1, l2, l3, l4, l5, l6, l7, l8, l9, l10] st h Q ↔ jx_Go jxP d 175 154 [l0, l1, l2, l3, l4, l5, l6, l7, l8, l9, l10] (.int (nI 5) :: st) h Q := jg_c rfl
theorem s175_154 : jx_Go jxP d 175 154 [l0, l1, l2, l3, l4, l5, l6, l7, .int x, l9, l10] st h Q ↔ jx_Go jxP d 175 156 [l0, l1, l2, l3, l4, l5, l6, l7, .int x, l9, l10] (.int x :: st) h Q := jg_il rfl rfl
theorem s175_156 : jx_Go jxP d 175 156 [l0, l1, l2, l3, l4, l5, l6, l7, l8, l9, l10] (.int y :: .int x :: st) h Q ↔ jx_Go jxP d 175 157 [l0, l1, l2, l3, l4, l5, l6, l7, l8, l9, l10] (.int (x * y) :: st) h Q := jg_b (f := fun x y => x * y) rfl
theorem s175_157 : jx_Go jxP d 175 157 [l0, l1, l2, l3, l4, l5, l6, l7, l8, .int x, l10] st h Q ↔ jx_Go jxP d 175 159 [l0, l1, l2, l3, l4, l5, l6, l7, l8, .int x, l10] (.int x :: st) h Q := jg_il rfl rfl
theorem s175_159 : jx_Go jxP d 175 159 [l0, l1, l2, l3, l4, l5, l6, l7, l8, l9, l10] (.int y :: .int x :: st) h Q ↔ jx_Go jxP d 175 160 [l0, l1, l2, l3, l4, l5, l6, l7, l8, l9, l10] (.int (x + y) :: st) h Q := jg_b (f := fun x y => x + y) rfl
theorem s175_160 : jx_Go jxP (d + 1) 175 160 [l0, l1, l2, l3, l4, l5, l6, l7, l8, l9, l10] (.int x1 :: .int x0 :: .ref a :: st) h Q ↔ (st.length ≤ 4 ∧ jx_cl h a = some 12 ∧ jx_Go jxP d 174 0 [.ref a, .int x0, .int x1, jx_u] [] h (fun s1 h1 => jx_Go jxP (d + 1) 175 163 [l0, l1, l2, l3, l4, l5, l6, l7, l8, l9, l10] (s1 ++ st) h1 Q)) := jg_callV (as := [.int x1, .int x0, .ref a]) rfl rfl rfl rfl rfl
theorem s175_163 : jx_Go jxP d 175 163 [l0, l1, l2, l3, l4, l5, l6, l7, l8, l9, l10] (.int x :: st) h Q ↔ if x = 0 then jx_Go jxP d 175 166 [l0, l1, l2, l3, l4, l5, l6, l7, l8, l9, l10] st h Q else jx_Go jxP d 175 170 [l0, l1, l2, l3, l4, l5, l6, l7, l8, l9, l10] st h Q := jg_ifN rfl rfl
theorem s175_166 : jx_Go jxP d 175 166 [l0, l1, l2, l3, l4, l5, l6, l7, l8, l9, l10] st h Q ↔ jx_Go jxP d 175 167 [l0, l1, l2, l3, l4, l5, l6, l7, l8, l9, l10] (.int (nI 1) :: st) h Q := jg_c rfl
theorem s175_167 : jx_Go jxP d 175 167 [l0, l1, l2, l3, l4, l5, l6, l7, l8, l9, l10] st h Q ↔ jx_Go jxP d 175 171 [l0, l1, l2, l3, l4, l5, l6, l7, l8, l9, l10] st h Q := jg_go rfl
theorem s175_170 : jx_Go jxP d 175 170 [l0, l1, l2, l3, l4, l5, l6, l7, l8, l9, l10] st h Q ↔ jx_Go jxP d 175 171 [l0, l1, l2, l3, l4, l5, l6, l7, l8, l9, l10] (.int (nI 0) :: st) h Q := jg_c rfl
theorem s175_171 : jx_Go jxP d 175 171 [l0, l1, l2, l3, l4, l5, l6, l7, l8, l9, l10] (.int x :: st) h Q ↔ jx_Go jxP d 175 173 [l0, l1, l2, l3, l4, l5, l6, .int x, l8, l9, l10] st h Q := jg_is rfl rfl
theorem s175_173 : jx_Go jxP d 175 173 [l0, l1, l2, l3, l4, l5, l6, l7, l8, l9, .int x] st h Q ↔ jx_Go jxP d 175 176 [l0, l1, l2, l3, l4, l5, l6, l7, l8, l9, .int (x + (nI 1))] st h Q := jg_inc rfl rfl rfl
theorem s175_176 : jx_Go jxP d 175 176 [l0, l1, l2, l3, l4, l5, l6, l7, l8, l9, l10] st h Q ↔ jx_Go jxP d 175 133 [l0, l1, l2, l3, l4, l5, l6, l7, l8, l9, l10] st h Q := jg_go rfl
theorem s175_179 : jx_Go jxP d 175 179 [.ref a, l1, l2, l3, l4, l5, l6, l7, l8, l9, l10] st h Q ↔ jx_Go jxP d 175 180 [.ref a, l1, l2, l3, l4, l5, l6, l7, l8, l9, l10] (.ref a :: st) h Q := jg_al rfl rfl
theorem s175_180 : jx_Go jxP d 175 180 [l0, l1, l2, l3, l4, l5, l6, l7, l8, l9, l10] (.ref a :: st) h Q ↔ ∃ v, jx_fl h a 12 28 = some v ∧ jx_Go jxP d 175 183 [l0, l1, l2, l3, l4, l5, l6, l7, l8, l9, l10] (v :: st) h Q := jg_gf rfl
theorem s175_183 : jx_Go jxP d 175 183 [l0, l1, l2, l3, l4, l5, .int x, l7, l8, l9, l10] st h Q ↔ jx_Go jxP d 175 185 [l0, l1, l2, l3, l4, l5, .int x, l7, l8, l9, l10] (.int x :: st) h Q := jg_il rfl rfl
theorem s175_185 : jx_Go jxP d 175 185 [l0, l1, l2, l3, l4, l5, l6, l7, l8, l9, l10] st h Q ↔ jx_Go jxP d 175 186 [l0, l1, l2, l3, l4, l5, l6, l7, l8, l9, l10] (.int (nI 5) :: st) h Q := jg_c rfl
theorem s175_186 : jx_Go jxP d 175 186 [l0, l1, l2, l3, l4, l5, l6, l7, .int x, l9, l10] st h Q ↔ jx_Go jxP d 175 188 [l0, l1, l2, l3, l4, l5, l6, l7, .int x, l9, l10] (.int x :: st) h Q := jg_il rfl rfl
theorem s175_188 : jx_Go jxP d 175 188 [l0, l1, l2, l3, l4, l5, l6, l7, l8, l9, l10] (.int y :: .int x :: st) h Q ↔ jx_Go jxP d 175 189 [l0, l1, l2, l3, l4, l5, l6, l7, l8, l9, l10] (.int (x * y) :: st) h Q := jg_b (f := fun x y => x * y) rfl
theorem s175_189 : jx_Go jxP d 175 189 [l0, l1, l2, l3, l4, l5, l6, l7, l8, .int x, l10] st h Q ↔ jx_Go jxP d 175 191 [l0, l1, l2, l3, l4, l5, l6, l7, l8, .int x, l10] (.int x :: st) h Q := jg_il rfl rfl
theorem s175_191 : jx_Go jxP d 175 191 [l0, l1, l2, l3, l4, l5, l6, l7, l8, l9, l10] (.int y :: .int x :: st) h Q ↔ jx_Go jxP d 175 192 [l0, l1, l2, l3, l4, l5, l6, l7, l8, l9, l10] (.int (x + y) :: st) h Q := jg_b (f := fun x y => x + y) rfl
theorem s175_192 : jx_Go jxP d 175 192 [l0, l1, l2, l3, l4, l5, l6, l7, l8, l9, l10] (.int y :: .int x :: .ref a :: st) h Q ↔ ∃ q, jx_ai h a = some q ∧ jx_in x q.1 ∧ jx_Go jxP d 175 193 [l0, l1, l2, l3, l4, l5, l6, l7, l8, l9, l10] st (jx_wi h a q.1 (upd q.2 x.toNatClampNeg y)) Q := jg_iw rfl
theorem s175_193 : jx_Go jxP d 175 193 [l0, l1, l2, l3, l4, l5, .int x, l7, l8, l9, l10] st h Q ↔ jx_Go jxP d 175 196 [l0, l1, l2, l3, l4, l5, .int (x + (nI 1)), l7, l8, l9, l10] st h Q := jg_inc rfl rfl rfl
theorem s175_196 : jx_Go jxP d 175 196 [l0, l1, l2, l3, l4, l5, l6, l7, .int x, l9, l10] st h Q ↔ jx_Go jxP d 175 199 [l0, l1, l2, l3, l4, l5, l6, l7, .int (x + (nI 1)), l9, l10] st h Q := jg_inc rfl rfl rfl
theorem s175_199 : jx_Go jxP d 175 199 [l0, l1, l2, l3, l4, l5, l6, l7, l8, l9, l10] st h Q ↔ jx_Go jxP d 175 66 [l0, l1, l2, l3, l4, l5, l6, l7, l8, l9, l10] st h Q := jg_go rfl
theorem s175_202 : jx_Go jxP d 175 202 [l0, l1, l2, l3, l4, l5, l6, .int x, l8, l9, l10] st h Q ↔ jx_Go jxP d 175 204 [l0, l1, l2, l3, l4, l5, l6, .int x, l8, l9, l10] (.int x :: st) h Q := jg_il rfl rfl
theorem s175_204 : jx_Go jxP d 175 204 [l0, l1, l2, l3, l4, l5, l6, l7, l8, l9, l10] (.int x :: st) h Q ↔ if x = 0 then jx_Go jxP d 175 218 [l0, l1, l2, l3, l4, l5, l6, l7, l8, l9, l10] st h Q else jx_Go jxP d 175 207 [l0, l1, l2, l3, l4, l5, l6, l7, l8, l9, l10] st h Q := jg_ifP rfl rfl
theorem s175_207 : jx_Go jxP d 175 207 [l0, l1, l2, l3, l4, l5, .int x, l7, l8, l9, l10] st h Q ↔ jx_Go jxP d 175 209 [l0, l1, l2, l3, l4, l5, .int x, l7, l8, l9, l10] (.int x :: st) h Q := jg_il rfl rfl
theorem s175_209 : jx_Go jxP d 175 209 [l0, l1, l2, .int x, l4, l5, l6, l7, l8, l9, l10] st h Q ↔ jx_Go jxP d 175 210 [l0, l1, l2, .int x, l4, l5, l6, l7, l8, l9, l10] (.int x :: st) h Q := jg_il rfl rfl
theorem s175_210 : jx_Go jxP d 175 210 [l0, l1, l2, l3, l4, l5, l6, l7, l8, l9, l10] (.int y :: .int x :: st) h Q ↔ if x ≤ y then jx_Go jxP d 175 218 [l0, l1, l2, l3, l4, l5, l6, l7, l8, l9, l10] st h Q else jx_Go jxP d 175 213 [l0, l1, l2, l3, l4, l5, l6, l7, l8, l9, l10] st h Q := jg_icP rfl rfl
theorem s175_213 : jx_Go jxP d 175 213 [l0, l1, l2, l3, l4, l5, .int x, l7, l8, l9, l10] st h Q ↔ jx_Go jxP d 175 215 [l0, l1, l2, l3, l4, l5, .int x, l7, l8, l9, l10] (.int x :: st) h Q := jg_il rfl rfl
theorem s175_215 : jx_Go jxP d 175 215 [l0, l1, l2, l3, l4, l5, l6, l7, l8, l9, l10] st h Q ↔ jx_Go jxP d 175 219 [l0, l1, l2, l3, l4, l5, l6, l7, l8, l9, l10] st h Q := jg_go rfl
theorem s175_218 : jx_Go jxP d 175 218 [l0, l1, l2, .int x, l4, l5, l6, l7, l8, l9, l10] st h Q ↔ jx_Go jxP d 175 219 [l0, l1, l2, .int x, l4, l5, l6, l7, l8, l9, l10] (.int x :: st) h Q := jg_il rfl rfl
theorem s175_219 : jx_Go jxP d 175 219 [l0, l1, l2, l3, l4, l5, l6, l7, l8, l9, l10] (.int x :: st) h Q ↔ jx_Go jxP d 175 220 [l0, l1, l2, .int x, l4, l5, l6, l7, l8, l9, l10] st h Q := jg_is rfl rfl
theorem s175_220 : jx_Go jxP d 175 220 [l0, l1, l2, l3, .int x, l5, l6, l7, l8, l9, l10] st h Q ↔ jx_Go jxP d 175 223 [l0, l1, l2, l3, .int (x + (nI 1)), l5, l6, l7, l8, l9, l10] st h Q := jg_inc rfl rfl rfl
theorem s175_223 : jx_Go jxP d 175 223 [l0, l1, l2, l3, l4, l5, l6, l7, l8, l9, l10] st h Q ↔ jx_Go jxP d 175 47 [l0, l1, l2, l3, l4, l5, l6, l7, l8, l9, l10] st h Q := jg_go rfl
theorem s175_226 : jx_Go jxP d 175 226 [l0, l1, l2, .int x, l4, l5, l6, l7, l8, l9, l10] st h Q ↔ jx_Go jxP d 175 227 [l0, l1, l2, .int x, l4, l5, l6, l7, l8, l9, l10] (.int x :: st) h Q := jg_il rfl rfl
theorem s175_227 : jx_Go jxP d 175 227 [l0, l1, l2, l3, l4, l5, l6, l7, l8, l9, l10] [.int x] h Q ↔ Q [.int x] h := jx_rt rfl rfl
-- 176 TalkBenchModel.rowsFor
theorem s176_0 : jx_Go jxP d 176 0 [l0, l1, l2, l3, l4, l5, l6] st h Q ↔ jx_Go jxP d 176 1 [l0, l1, l2, l3, l4, l5, l6] (.int (nI 0) :: st) h Q := jg_c rfl
theorem s176_1 : jx_Go jxP d 176 1 [l0, l1, l2, l3, l4, l5, l6] (.int x :: st) h Q ↔ jx_Go jxP d 176 2 [l0, l1, l2, .int x, l4, l5, l6] st h Q := jg_is rfl rfl
theorem s176_2 : jx_Go jxP d 176 2 [l0, l1, l2, l3, l4, l5, l6] st h Q ↔ jx_Go jxP d 176 3 [l0, l1, l2, l3, l4, l5, l6] (.int (nI 0) :: st) h Q := jg_c rfl
theorem s176_3 : jx_Go jxP d 176 3 [l0, l1, l2, l3, l4, l5, l6] (.int x :: st) h Q ↔ jx_Go jxP d 176 5 [l0, l1, l2, l3, .int x, l5, l6] st h Q := jg_is rfl rfl
theorem s176_5 : jx_Go jxP d 176 5 [l0, l1, l2, l3, .int x, l5, l6] st h Q ↔ jx_Go jxP d 176 7 [l0, l1, l2, l3, .int x, l5, l6] (.int x :: st) h Q := jg_il rfl rfl
theorem s176_7 : jx_Go jxP d 176 7 [.ref a, l1, l2, l3, l4, l5, l6] st h Q ↔ jx_Go jxP d 176 8 [.ref a, l1, l2, l3, l4, l5, l6] (.ref a :: st) h Q := jg_al rfl rfl
theorem s176_8 : jx_Go jxP d 176 8 [l0, l1, l2, l3, l4, l5, l6] (.ref a :: st) h Q ↔ ∃ v, jx_fl h a 12 0 = some v ∧ jx_Go jxP d 176 11 [l0, l1, l2, l3, l4, l5, l6] (v :: st) h Q := jg_gf rfl
theorem s176_11 : jx_Go jxP d 176 11 [l0, l1, l2, l3, l4, l5, l6] (.int y :: .int x :: st) h Q ↔ if y ≤ x then jx_Go jxP d 176 94 [l0, l1, l2, l3, l4, l5, l6] st h Q else jx_Go jxP d 176 14 [l0, l1, l2, l3, l4, l5, l6] st h Q := jg_icP rfl rfl
theorem s176_14 : jx_Go jxP d 176 14 [l0, l1, l2, l3, l4, l5, l6] st h Q ↔ jx_Go jxP d 176 15 [l0, l1, l2, l3, l4, l5, l6] (.int (nI 1) :: st) h Q := jg_c rfl
theorem s176_15 : jx_Go jxP d 176 15 [l0, l1, l2, l3, l4, l5, l6] (.int x :: st) h Q ↔ jx_Go jxP d 176 17 [l0, l1, l2, l3, l4, .int x, l6] st h Q := jg_is rfl rfl
theorem s176_17 : jx_Go jxP d 176 17 [l0, l1, l2, l3, l4, l5, l6] st h Q ↔ jx_Go jxP d 176 18 [l0, l1, l2, l3, l4, l5, l6] (.int (nI 0) :: st) h Q := jg_c rfl
theorem s176_18 : jx_Go jxP d 176 18 [l0, l1, l2, l3, l4, l5, l6] (.int x :: st) h Q ↔ jx_Go jxP d 176 20 [l0, l1, l2, l3, l4, l5, .int x] st h Q := jg_is rfl rfl
theorem s176_20 : jx_Go jxP d 176 20 [l0, l1, l2, l3, l4, l5, .int x] st h Q ↔ jx_Go jxP d 176 22 [l0, l1, l2, l3, l4, l5, .int x] (.int x :: st) h Q := jg_il rfl rfl
theorem s176_22 : jx_Go jxP d 176 22 [.ref a, l1, l2, l3, l4, l5, l6] st h Q ↔ jx_Go jxP d 176 23 [.ref a, l1, l2, l3, l4, l5, l6] (.ref a :: st) h Q := jg_al rfl rfl
theorem s176_23 : jx_Go jxP d 176 23 [l0, l1, l2, l3, l4, l5, l6] (.ref a :: st) h Q ↔ ∃ v, jx_fl h a 12 1 = some v ∧ jx_Go jxP d 176 26 [l0, l1, l2, l3, l4, l5, l6] (v :: st) h Q := jg_gf rfl
theorem s176_26 : jx_Go jxP d 176 26 [l0, l1, l2, l3, l4, l5, l6] (.int y :: .int x :: st) h Q ↔ if y ≤ x then jx_Go jxP d 176 72 [l0, l1, l2, l3, l4, l5, l6] st h Q else jx_Go jxP d 176 29 [l0, l1, l2, l3, l4, l5, l6] st h Q := jg_icP rfl rfl
theorem s176_29 : jx_Go jxP d 176 29 [l0, l1, l2, l3, l4, .int x, l6] st h Q ↔ jx_Go jxP d 176 31 [l0, l1, l2, l3, l4, .int x, l6] (.int x :: st) h Q := jg_il rfl rfl
theorem s176_31 : jx_Go jxP d 176 31 [l0, .int x, l2, l3, l4, l5, l6] st h Q ↔ jx_Go jxP d 176 32 [l0, .int x, l2, l3, l4, l5, l6] (.int x :: st) h Q := jg_il rfl rfl
theorem s176_32 : jx_Go jxP d 176 32 [l0, l1, l2, l3, l4, l5, .int x] st h Q ↔ jx_Go jxP d 176 34 [l0, l1, l2, l3, l4, l5, .int x] (.int x :: st) h Q := jg_il rfl rfl
theorem s176_34 : jx_Go jxP (d + 1) 176 34 [l0, l1, l2, l3, l4, l5, l6] (.int x1 :: .int x0 :: st) h Q ↔ (st.length ≤ 4 ∧ jx_Go jxP d 132 0 [.int x0, .int x1] [] h (fun s1 h1 => jx_Go jxP (d + 1) 176 37 [l0, l1, l2, l3, l4, l5, l6] (s1 ++ st) h1 Q)) := jg_callS (as := [.int x1, .int x0]) rfl rfl rfl rfl
theorem s176_37 : jx_Go jxP d 176 37 [l0, l1, l2, l3, l4, l5, l6] (.int x :: st) h Q ↔ if x = 0 then jx_Go jxP d 176 58 [l0, l1, l2, l3, l4, l5, l6] st h Q else jx_Go jxP d 176 40 [l0, l1, l2, l3, l4, l5, l6] st h Q := jg_ifP rfl rfl
theorem s176_40 : jx_Go jxP d 176 40 [.ref a, l1, l2, l3, l4, l5, l6] st h Q ↔ jx_Go jxP d 176 41 [.ref a, l1, l2, l3, l4, l5, l6] (.ref a :: st) h Q := jg_al rfl rfl
theorem s176_41 : jx_Go jxP d 176 41 [l0, l1, l2, l3, l4, l5, l6] (.ref a :: st) h Q ↔ ∃ v, jx_fl h a 12 2 = some v ∧ jx_Go jxP d 176 44 [l0, l1, l2, l3, l4, l5, l6] (v :: st) h Q := jg_gf rfl
theorem s176_44 : jx_Go jxP d 176 44 [l0, l1, l2, l3, l4, l5, l6] st h Q ↔ jx_Go jxP d 176 45 [l0, l1, l2, l3, l4, l5, l6] (.int (nI 5) :: st) h Q := jg_c rfl
theorem s176_45 : jx_Go jxP d 176 45 [l0, l1, l2, l3, .int x, l5, l6] st h Q ↔ jx_Go jxP d 176 47 [l0, l1, l2, l3, .int x, l5, l6] (.int x :: st) h Q := jg_il rfl rfl
theorem s176_47 : jx_Go jxP d 176 47 [l0, l1, l2, l3, l4, l5, l6] (.int y :: .int x :: st) h Q ↔ jx_Go jxP d 176 48 [l0, l1, l2, l3, l4, l5, l6] (.int (x * y) :: st) h Q := jg_b (f := fun x y => x * y) rfl
theorem s176_48 : jx_Go jxP d 176 48 [l0, l1, l2, l3, l4, l5, .int x] st h Q ↔ jx_Go jxP d 176 50 [l0, l1, l2, l3, l4, l5, .int x] (.int x :: st) h Q := jg_il rfl rfl
theorem s176_50 : jx_Go jxP d 176 50 [l0, l1, l2, l3, l4, l5, l6] (.int y :: .int x :: st) h Q ↔ jx_Go jxP d 176 51 [l0, l1, l2, l3, l4, l5, l6] (.int (x + y) :: st) h Q := jg_b (f := fun x y => x + y) rfl
theorem s176_51 : jx_Go jxP d 176 51 [l0, l1, l2, l3, l4, l5, l6] (.int x :: .ref a :: st) h Q ↔ ∃ q, jx_ai h a = some q ∧ jx_in x q.1 ∧ jx_Go jxP d 176 52 [l0, l1, l2, l3, l4, l5, l6] (.int (q.2 x.toNatClampNeg) :: st) h Q := jg_ia rfl
theorem s176_52 : jx_Go jxP d 176 52 [l0, l1, l2, l3, l4, l5, l6] st h Q ↔ jx_Go jxP d 176 53 [l0, l1, l2, l3, l4, l5, l6] (.int (nI 1) :: st) h Q := jg_c rfl
theorem s176_53 : jx_Go jxP d 176 53 [l0, l1, .int x, l3, l4, l5, l6] st h Q ↔ jx_Go jxP d 176 54 [l0, l1, .int x, l3, l4, l5, l6] (.int x :: st) h Q := jg_il rfl rfl
theorem s176_54 : jx_Go jxP d 176 54 [l0, l1, l2, l3, l4, l5, l6] (.int y :: .int x :: st) h Q ↔ jx_Go jxP d 176 55 [l0, l1, l2, l3, l4, l5, l6] (.int (x - y) :: st) h Q := jg_b (f := fun x y => x - y) rfl
theorem s176_55 : jx_Go jxP d 176 55 [l0, l1, l2, l3, l4, l5, l6] (.int y :: .int x :: st) h Q ↔ if x = y then jx_Go jxP d 176 62 [l0, l1, l2, l3, l4, l5, l6] st h Q else jx_Go jxP d 176 58 [l0, l1, l2, l3, l4, l5, l6] st h Q := jg_icP rfl rfl
theorem s176_58 : jx_Go jxP d 176 58 [l0, l1, l2, l3, l4, l5, l6] st h Q ↔ jx_Go jxP d 176 59 [l0, l1, l2, l3, l4, l5, l6] (.int (nI 1) :: st) h Q := jg_c rfl
theorem s176_59 : jx_Go jxP d 176 59 [l0, l1, l2, l3, l4, l5, l6] st h Q ↔ jx_Go jxP d 176 63 [l0, l1, l2, l3, l4, l5, l6] st h Q := jg_go rfl
theorem s176_62 : jx_Go jxP d 176 62 [l0, l1, l2, l3, l4, l5, l6] st h Q ↔ jx_Go jxP d 176 63 [l0, l1, l2, l3, l4, l5, l6] (.int (nI 0) :: st) h Q := jg_c rfl
theorem s176_63 : jx_Go jxP d 176 63 [l0, l1, l2, l3, l4, l5, l6] (.int y :: .int x :: st) h Q ↔ jx_Go jxP d 176 64 [l0, l1, l2, l3, l4, l5, l6] (.int (x &&& y) :: st) h Q := jg_b (f := fun x y => x &&& y) rfl
theorem s176_64 : jx_Go jxP d 176 64 [l0, l1, l2, l3, l4, l5, l6] (.int x :: st) h Q ↔ jx_Go jxP d 176 66 [l0, l1, l2, l3, l4, .int x, l6] st h Q := jg_is rfl rfl
theorem s176_66 : jx_Go jxP d 176 66 [l0, l1, l2, l3, l4, l5, .int x] st h Q ↔ jx_Go jxP d 176 69 [l0, l1, l2, l3, l4, l5, .int (x + (nI 1))] st h Q := jg_inc rfl rfl rfl
theorem s176_69 : jx_Go jxP d 176 69 [l0, l1, l2, l3, l4, l5, l6] st h Q ↔ jx_Go jxP d 176 20 [l0, l1, l2, l3, l4, l5, l6] st h Q := jg_go rfl
theorem s176_72 : jx_Go jxP d 176 72 [l0, l1, l2, .int x, l4, l5, l6] st h Q ↔ jx_Go jxP d 176 73 [l0, l1, l2, .int x, l4, l5, l6] (.int x :: st) h Q := jg_il rfl rfl
theorem s176_73 : jx_Go jxP d 176 73 [l0, l1, l2, l3, l4, .int x, l6] st h Q ↔ jx_Go jxP d 176 75 [l0, l1, l2, l3, l4, .int x, l6] (.int x :: st) h Q := jg_il rfl rfl
theorem s176_75 : jx_Go jxP d 176 75 [l0, l1, l2, l3, l4, l5, l6] (.int x :: st) h Q ↔ if x = 0 then jx_Go jxP d 176 85 [l0, l1, l2, l3, l4, l5, l6] st h Q else jx_Go jxP d 176 78 [l0, l1, l2, l3, l4, l5, l6] st h Q := jg_ifP rfl rfl
theorem s176_78 : jx_Go jxP d 176 78 [l0, l1, l2, l3, l4, l5, l6] st h Q ↔ jx_Go jxP d 176 79 [l0, l1, l2, l3, l4, l5, l6] (.int (nI 1) :: st) h Q := jg_c rfl
theorem s176_79 : jx_Go jxP d 176 79 [l0, l1, l2, l3, .int x, l5, l6] st h Q ↔ jx_Go jxP d 176 81 [l0, l1, l2, l3, .int x, l5, l6] (.int x :: st) h Q := jg_il rfl rfl
theorem s176_81 : jx_Go jxP d 176 81 [l0, l1, l2, l3, l4, l5, l6] (.int y :: .int x :: st) h Q ↔ jx_Go jxP d 176 82 [l0, l1, l2, l3, l4, l5, l6] (.int (x <<< (y &&& 31)) :: st) h Q := jg_b (f := fun x y => x <<< (y &&& 31)) rfl
theorem s176_82 : jx_Go jxP d 176 82 [l0, l1, l2, l3, l4, l5, l6] st h Q ↔ jx_Go jxP d 176 86 [l0, l1, l2, l3, l4, l5, l6] st h Q := jg_go rfl
theorem s176_85 : jx_Go jxP d 176 85 [l0, l1, l2, l3, l4, l5, l6] st h Q ↔ jx_Go jxP d 176 86 [l0, l1, l2, l3, l4, l5, l6] (.int (nI 0) :: st) h Q := jg_c rfl
theorem s176_86 : jx_Go jxP d 176 86 [l0, l1, l2, l3, l4, l5, l6] (.int y :: .int x :: st) h Q ↔ jx_Go jxP d 176 87 [l0, l1, l2, l3, l4, l5, l6] (.int (x ||| y) :: st) h Q := jg_b (f := fun x y => x ||| y) rfl
theorem s176_87 : jx_Go jxP d 176 87 [l0, l1, l2, l3, l4, l5, l6] (.int x :: st) h Q ↔ jx_Go jxP d 176 88 [l0, l1, l2, .int x, l4, l5, l6] st h Q := jg_is rfl rfl
theorem s176_88 : jx_Go jxP d 176 88 [l0, l1, l2, l3, .int x, l5, l6] st h Q ↔ jx_Go jxP d 176 91 [l0, l1, l2, l3, .int (x + (nI 1)), l5, l6] st h Q := jg_inc rfl rfl rfl
theorem s176_91 : jx_Go jxP d 176 91 [l0, l1, l2, l3, l4, l5, l6] st h Q ↔ jx_Go jxP d 176 5 [l0, l1, l2, l3, l4, l5, l6] st h Q := jg_go rfl
theorem s176_94 : jx_Go jxP d 176 94 [l0, l1, l2, .int x, l4, l5, l6] st h Q ↔ jx_Go jxP d 176 95 [l0, l1, l2, .int x, l4, l5, l6] (.int x :: st) h Q := jg_il rfl rfl
theorem s176_95 : jx_Go jxP d 176 95 [l0, l1, l2, l3, l4, l5, l6] [.int x] h Q ↔ Q [.int x] h := jx_rt rfl rfl
-- 177 TalkBenchModel.placesOf
theorem s177_0 : jx_Go jxP d 177 0 [l0, l1, l2, l3, l4, l5] st h Q ↔ jx_Go jxP d 177 1 [l0, l1, l2, l3, l4, l5] (.int (nI 0) :: st) h Q := jg_c rfl
theorem s177_1 : jx_Go jxP d 177 1 [l0, l1, l2, l3, l4, l5] (.int x :: st) h Q ↔ jx_Go jxP d 177 2 [l0, l1, l2, .int x, l4, l5] st h Q := jg_is rfl rfl
theorem s177_2 : jx_Go jxP d 177 2 [l0, l1, l2, l3, l4, l5] st h Q ↔ jx_Go jxP d 177 3 [l0, l1, l2, l3, l4, l5] (.int (nI 0) :: st) h Q := jg_c rfl
theorem s177_3 : jx_Go jxP d 177 3 [l0, l1, l2, l3, l4, l5] (.int x :: st) h Q ↔ jx_Go jxP d 177 5 [l0, l1, l2, l3, .int x, l5] st h Q := jg_is rfl rfl
theorem s177_5 : jx_Go jxP d 177 5 [l0, l1, l2, l3, .int x, l5] st h Q ↔ jx_Go jxP d 177 7 [l0, l1, l2, l3, .int x, l5] (.int x :: st) h Q := jg_il rfl rfl
theorem s177_7 : jx_Go jxP d 177 7 [.ref a, l1, l2, l3, l4, l5] st h Q ↔ jx_Go jxP d 177 8 [.ref a, l1, l2, l3, l4, l5] (.ref a :: st) h Q := jg_al rfl rfl
theorem s177_8 : jx_Go jxP d 177 8 [l0, l1, l2, l3, l4, l5] (.ref a :: st) h Q ↔ ∃ v, jx_fl h a 12 0 = some v ∧ jx_Go jxP d 177 11 [l0, l1, l2, l3, l4, l5] (v :: st) h Q := jg_gf rfl
theorem s177_11 : jx_Go jxP d 177 11 [l0, l1, l2, l3, l4, l5] (.int y :: .int x :: st) h Q ↔ if y ≤ x then jx_Go jxP d 177 72 [l0, l1, l2, l3, l4, l5] st h Q else jx_Go jxP d 177 14 [l0, l1, l2, l3, l4, l5] st h Q := jg_icP rfl rfl
theorem s177_14 : jx_Go jxP d 177 14 [l0, l1, l2, l3, l4, l5] st h Q ↔ jx_Go jxP d 177 15 [l0, l1, l2, l3, l4, l5] (.int (nI 0) :: st) h Q := jg_c rfl
theorem s177_15 : jx_Go jxP d 177 15 [l0, l1, l2, l3, l4, l5] (.int x :: st) h Q ↔ jx_Go jxP d 177 17 [l0, l1, l2, l3, l4, .int x] st h Q := jg_is rfl rfl
theorem s177_17 : jx_Go jxP d 177 17 [l0, l1, l2, l3, l4, .int x] st h Q ↔ jx_Go jxP d 177 19 [l0, l1, l2, l3, l4, .int x] (.int x :: st) h Q := jg_il rfl rfl
theorem s177_19 : jx_Go jxP d 177 19 [.ref a, l1, l2, l3, l4, l5] st h Q ↔ jx_Go jxP d 177 20 [.ref a, l1, l2, l3, l4, l5] (.ref a :: st) h Q := jg_al rfl rfl
theorem s177_20 : jx_Go jxP d 177 20 [l0, l1, l2, l3, l4, l5] (.ref a :: st) h Q ↔ ∃ v, jx_fl h a 12 1 = some v ∧ jx_Go jxP d 177 23 [l0, l1, l2, l3, l4, l5] (v :: st) h Q := jg_gf rfl
theorem s177_23 : jx_Go jxP d 177 23 [l0, l1, l2, l3, l4, l5] (.int y :: .int x :: st) h Q ↔ if y ≤ x then jx_Go jxP d 177 66 [l0, l1, l2, l3, l4, l5] st h Q else jx_Go jxP d 177 26 [l0, l1, l2, l3, l4, l5] st h Q := jg_icP rfl rfl
theorem s177_26 : jx_Go jxP d 177 26 [l0, l1, l2, .int x, l4, l5] st h Q ↔ jx_Go jxP d 177 27 [l0, l1, l2, .int x, l4, l5] (.int x :: st) h Q := jg_il rfl rfl
theorem s177_27 : jx_Go jxP d 177 27 [l0, .int x, l2, l3, l4, l5] st h Q ↔ jx_Go jxP d 177 28 [l0, .int x, l2, l3, l4, l5] (.int x :: st) h Q := jg_il rfl rfl
theorem s177_28 : jx_Go jxP d 177 28 [l0, l1, l2, l3, .int x, l5] st h Q ↔ jx_Go jxP d 177 30 [l0, l1, l2, l3, .int x, l5] (.int x :: st) h Q := jg_il rfl rfl
theorem s177_30 : jx_Go jxP (d + 1) 177 30 [l0, l1, l2, l3, l4, l5] (.int x1 :: .int x0 :: st) h Q ↔ (st.length ≤ 4 ∧ jx_Go jxP d 132 0 [.int x0, .int x1] [] h (fun s1 h1 => jx_Go jxP (d + 1) 177 33 [l0, l1, l2, l3, l4, l5] (s1 ++ st) h1 Q)) := jg_callS (as := [.int x1, .int x0]) rfl rfl rfl rfl
theorem s177_33 : jx_Go jxP d 177 33 [l0, l1, l2, l3, l4, l5] (.int x :: st) h Q ↔ if x = 0 then jx_Go jxP d 177 57 [l0, l1, l2, l3, l4, l5] st h Q else jx_Go jxP d 177 36 [l0, l1, l2, l3, l4, l5] st h Q := jg_ifP rfl rfl
theorem s177_36 : jx_Go jxP d 177 36 [l0, l1, .int x, l3, l4, l5] st h Q ↔ jx_Go jxP d 177 37 [l0, l1, .int x, l3, l4, l5] (.int x :: st) h Q := jg_il rfl rfl
theorem s177_37 : jx_Go jxP d 177 37 [l0, l1, l2, l3, l4, .int x] st h Q ↔ jx_Go jxP d 177 39 [l0, l1, l2, l3, l4, .int x] (.int x :: st) h Q := jg_il rfl rfl
theorem s177_39 : jx_Go jxP (d + 1) 177 39 [l0, l1, l2, l3, l4, l5] (.int x1 :: .int x0 :: st) h Q ↔ (st.length ≤ 4 ∧ jx_Go jxP d 132 0 [.int x0, .int x1] [] h (fun s1 h1 => jx_Go jxP (d + 1) 177 42 [l0, l1, l2, l3, l4, l5] (s1 ++ st) h1 Q)) := jg_callS (as := [.int x1, .int x0]) rfl rfl rfl rfl
theorem s177_42 : jx_Go jxP d 177 42 [l0, l1, l2, l3, l4, l5] (.int x :: st) h Q ↔ if x = 0 then jx_Go jxP d 177 57 [l0, l1, l2, l3, l4, l5] st h Q else jx_Go jxP d 177 45 [l0, l1, l2, l3, l4, l5] st h Q := jg_ifP rfl rfl
theorem s177_45 : jx_Go jxP d 177 45 [l0, l1, l2, l3, l4, l5] st h Q ↔ jx_Go jxP d 177 46 [l0, l1, l2, l3, l4, l5] (.int (nI 1) :: st) h Q := jg_c rfl
theorem s177_46 : jx_Go jxP d 177 46 [l0, l1, l2, l3, l4, l5] st h Q ↔ jx_Go jxP d 177 47 [l0, l1, l2, l3, l4, l5] (.int (nI 5) :: st) h Q := jg_c rfl
theorem s177_47 : jx_Go jxP d 177 47 [l0, l1, l2, l3, .int x, l5] st h Q ↔ jx_Go jxP d 177 49 [l0, l1, l2, l3, .int x, l5] (.int x :: st) h Q := jg_il rfl rfl
theorem s177_49 : jx_Go jxP d 177 49 [l0, l1, l2, l3, l4, l5] (.int y :: .int x :: st) h Q ↔ jx_Go jxP d 177 50 [l0, l1, l2, l3, l4, l5] (.int (x * y) :: st) h Q := jg_b (f := fun x y => x * y) rfl
theorem s177_50 : jx_Go jxP d 177 50 [l0, l1, l2, l3, l4, .int x] st h Q ↔ jx_Go jxP d 177 52 [l0, l1, l2, l3, l4, .int x] (.int x :: st) h Q := jg_il rfl rfl
theorem s177_52 : jx_Go jxP d 177 52 [l0, l1, l2, l3, l4, l5] (.int y :: .int x :: st) h Q ↔ jx_Go jxP d 177 53 [l0, l1, l2, l3, l4, l5] (.int (x + y) :: st) h Q := jg_b (f := fun x y => x + y) rfl
theorem s177_53 : jx_Go jxP d 177 53 [l0, l1, l2, l3, l4, l5] (.int y :: .int x :: st) h Q ↔ jx_Go jxP d 177 54 [l0, l1, l2, l3, l4, l5] (.int (x <<< (y &&& 31)) :: st) h Q := jg_b (f := fun x y => x <<< (y &&& 31)) rfl
theorem s177_54 : jx_Go jxP d 177 54 [l0, l1, l2, l3, l4, l5] st h Q ↔ jx_Go jxP d 177 58 [l0, l1, l2, l3, l4, l5] st h Q := jg_go rfl
theorem s177_57 : jx_Go jxP d 177 57 [l0, l1, l2, l3, l4, l5] st h Q ↔ jx_Go jxP d 177 58 [l0, l1, l2, l3, l4, l5] (.int (nI 0) :: st) h Q := jg_c rfl
theorem s177_58 : jx_Go jxP d 177 58 [l0, l1, l2, l3, l4, l5] (.int y :: .int x :: st) h Q ↔ jx_Go jxP d 177 59 [l0, l1, l2, l3, l4, l5] (.int (x ||| y) :: st) h Q := jg_b (f := fun x y => x ||| y) rfl
theorem s177_59 : jx_Go jxP d 177 59 [l0, l1, l2, l3, l4, l5] (.int x :: st) h Q ↔ jx_Go jxP d 177 60 [l0, l1, l2, .int x, l4, l5] st h Q := jg_is rfl rfl
theorem s177_60 : jx_Go jxP d 177 60 [l0, l1, l2, l3, l4, .int x] st h Q ↔ jx_Go jxP d 177 63 [l0, l1, l2, l3, l4, .int (x + (nI 1))] st h Q := jg_inc rfl rfl rfl
theorem s177_63 : jx_Go jxP d 177 63 [l0, l1, l2, l3, l4, l5] st h Q ↔ jx_Go jxP d 177 17 [l0, l1, l2, l3, l4, l5] st h Q := jg_go rfl
theorem s177_66 : jx_Go jxP d 177 66 [l0, l1, l2, l3, .int x, l5] st h Q ↔ jx_Go jxP d 177 69 [l0, l1, l2, l3, .int (x + (nI 1)), l5] st h Q := jg_inc rfl rfl rfl
theorem s177_69 : jx_Go jxP d 177 69 [l0, l1, l2, l3, l4, l5] st h Q ↔ jx_Go jxP d 177 5 [l0, l1, l2, l3, l4, l5] st h Q := jg_go rfl
theorem s177_72 : jx_Go jxP d 177 72 [l0, l1, l2, .int x, l4, l5] st h Q ↔ jx_Go jxP d 177 73 [l0, l1, l2, .int x, l4, l5] (.int x :: st) h Q := jg_il rfl rfl
theorem s177_73 : jx_Go jxP d 177 73 [l0, l1, l2, l3, l4, l5] [.int x] h Q ↔ Q [.int x] h := jx_rt rfl rfl
-- 178 TalkBenchModel.covers
theorem s178_0 : jx_Go jxP d 178 0 [l0, l1, l2, l3, l4, l5, l6] st h Q ↔ jx_Go jxP d 178 1 [l0, l1, l2, l3, l4, l5, l6] (.int (nI 0) :: st) h Q := jg_c rfl
theorem s178_1 : jx_Go jxP d 178 1 [l0, l1, l2, l3, l4, l5, l6] (.int x :: st) h Q ↔ jx_Go jxP d 178 3 [l0, l1, l2, l3, .int x, l5, l6] st h Q := jg_is rfl rfl
theorem s178_3 : jx_Go jxP d 178 3 [.ref a, l1, l2, l3, l4, l5, l6] st h Q ↔ jx_Go jxP d 178 4 [.ref a, l1, l2, l3, l4, l5, l6] (.ref a :: st) h Q := jg_al rfl rfl
theorem s178_4 : jx_Go jxP d 178 4 [l0, l1, l2, l3, l4, l5, l6] (.ref a :: st) h Q ↔ ∃ v, jx_fl h a 12 29 = some v ∧ jx_Go jxP d 178 7 [l0, l1, l2, l3, l4, l5, l6] (v :: st) h Q := jg_gf rfl
theorem s178_7 : jx_Go jxP d 178 7 [l0, l1, l2, l3, l4, l5, l6] st h Q ↔ jx_Go jxP d 178 8 [l0, l1, l2, l3, l4, l5, l6] (.int (nI 0) :: st) h Q := jg_c rfl
theorem s178_8 : jx_Go jxP d 178 8 [l0, l1, l2, l3, l4, l5, l6] st h Q ↔ jx_Go jxP d 178 9 [l0, l1, l2, l3, l4, l5, l6] (.int (nI 0) :: st) h Q := jg_c rfl
theorem s178_9 : jx_Go jxP d 178 9 [l0, l1, l2, l3, l4, l5, l6] (.int y :: .int x :: .ref a :: st) h Q ↔ ∃ q, jx_ai h a = some q ∧ jx_in x q.1 ∧ jx_Go jxP d 178 10 [l0, l1, l2, l3, l4, l5, l6] st (jx_wi h a q.1 (upd q.2 x.toNatClampNeg y)) Q := jg_iw rfl
theorem s178_10 : jx_Go jxP d 178 10 [.ref a, l1, l2, l3, l4, l5, l6] st h Q ↔ jx_Go jxP d 178 11 [.ref a, l1, l2, l3, l4, l5, l6] (.ref a :: st) h Q := jg_al rfl rfl
theorem s178_11 : jx_Go jxP d 178 11 [l0, l1, l2, l3, l4, l5, l6] (.ref a :: st) h Q ↔ ∃ v, jx_fl h a 12 30 = some v ∧ jx_Go jxP d 178 14 [l0, l1, l2, l3, l4, l5, l6] (v :: st) h Q := jg_gf rfl
theorem s178_14 : jx_Go jxP d 178 14 [l0, l1, l2, l3, l4, l5, l6] st h Q ↔ jx_Go jxP d 178 15 [l0, l1, l2, l3, l4, l5, l6] (.int (nI 0) :: st) h Q := jg_c rfl
theorem s178_15 : jx_Go jxP d 178 15 [l0, l1, l2, l3, l4, l5, l6] st h Q ↔ jx_Go jxP d 178 16 [l0, l1, l2, l3, l4, l5, l6] (.int (nI 0) :: st) h Q := jg_c rfl
theorem s178_16 : jx_Go jxP d 178 16 [l0, l1, l2, l3, l4, l5, l6] (.int y :: .int x :: .ref a :: st) h Q ↔ ∃ q, jx_ai h a = some q ∧ jx_in x q.1 ∧ jx_Go jxP d 178 17 [l0, l1, l2, l3, l4, l5, l6] st (jx_wi h a q.1 (upd q.2 x.toNatClampNeg y)) Q := jg_iw rfl
theorem s178_17 : jx_Go jxP d 178 17 [l0, l1, l2, l3, .int x, l5, l6] st h Q ↔ jx_Go jxP d 178 19 [l0, l1, l2, l3, .int x, l5, l6] (.int x :: st) h Q := jg_il rfl rfl
theorem s178_19 : jx_Go jxP d 178 19 [l0, l1, l2, l3, l4, l5, l6] (.int x :: st) h Q ↔ if x < 0 then jx_Go jxP d 178 153 [l0, l1, l2, l3, l4, l5, l6] st h Q else jx_Go jxP d 178 22 [l0, l1, l2, l3, l4, l5, l6] st h Q := jg_ifP rfl rfl
theorem s178_22 : jx_Go jxP d 178 22 [l0, .int x, l2, l3, l4, l5, l6] st h Q ↔ jx_Go jxP d 178 23 [l0, .int x, l2, l3, l4, l5, l6] (.int x :: st) h Q := jg_il rfl rfl
theorem s178_23 : jx_Go jxP d 178 23 [.ref a, l1, l2, l3, l4, l5, l6] st h Q ↔ jx_Go jxP d 178 24 [.ref a, l1, l2, l3, l4, l5, l6] (.ref a :: st) h Q := jg_al rfl rfl
theorem s178_24 : jx_Go jxP d 178 24 [l0, l1, l2, l3, l4, l5, l6] (.ref a :: st) h Q ↔ ∃ v, jx_fl h a 12 29 = some v ∧ jx_Go jxP d 178 27 [l0, l1, l2, l3, l4, l5, l6] (v :: st) h Q := jg_gf rfl
theorem s178_27 : jx_Go jxP d 178 27 [l0, l1, l2, l3, .int x, l5, l6] st h Q ↔ jx_Go jxP d 178 29 [l0, l1, l2, l3, .int x, l5, l6] (.int x :: st) h Q := jg_il rfl rfl
theorem s178_29 : jx_Go jxP d 178 29 [l0, l1, l2, l3, l4, l5, l6] (.int x :: .ref a :: st) h Q ↔ ∃ q, jx_ai h a = some q ∧ jx_in x q.1 ∧ jx_Go jxP d 178 30 [l0, l1, l2, l3, l4, l5, l6] (.int (q.2 x.toNatClampNeg) :: st) h Q := jg_ia rfl
theorem s178_30 : jx_Go jxP d 178 30 [l0, l1, l2, l3, l4, l5, l6] st h Q ↔ jx_Go jxP d 178 31 [l0, l1, l2, l3, l4, l5, l6] (.int (-1) :: st) h Q := jg_c rfl
theorem s178_31 : jx_Go jxP d 178 31 [l0, l1, l2, l3, l4, l5, l6] (.int y :: .int x :: st) h Q ↔ jx_Go jxP d 178 32 [l0, l1, l2, l3, l4, l5, l6] (.int (x ^^^ y) :: st) h Q := jg_b (f := fun x y => x ^^^ y) rfl
theorem s178_32 : jx_Go jxP d 178 32 [l0, l1, l2, l3, l4, l5, l6] (.int y :: .int x :: st) h Q ↔ jx_Go jxP d 178 33 [l0, l1, l2, l3, l4, l5, l6] (.int (x &&& y) :: st) h Q := jg_b (f := fun x y => x &&& y) rfl
theorem s178_33 : jx_Go jxP d 178 33 [l0, l1, l2, l3, l4, l5, l6] (.int x :: st) h Q ↔ jx_Go jxP d 178 35 [l0, l1, l2, l3, l4, .int x, l6] st h Q := jg_is rfl rfl
theorem s178_35 : jx_Go jxP d 178 35 [l0, l1, l2, l3, l4, .int x, l6] st h Q ↔ jx_Go jxP d 178 37 [l0, l1, l2, l3, l4, .int x, l6] (.int x :: st) h Q := jg_il rfl rfl
theorem s178_37 : jx_Go jxP d 178 37 [l0, l1, l2, l3, l4, l5, l6] (.int x :: st) h Q ↔ if x = 0 then jx_Go jxP d 178 40 [l0, l1, l2, l3, l4, l5, l6] st h Q else jx_Go jxP d 178 42 [l0, l1, l2, l3, l4, l5, l6] st h Q := jg_ifN rfl rfl
theorem s178_40 : jx_Go jxP d 178 40 [l0, l1, l2, l3, l4, l5, l6] st h Q ↔ jx_Go jxP d 178 41 [l0, l1, l2, l3, l4, l5, l6] (.int (nI 1) :: st) h Q := jg_c rfl
theorem s178_41b0 : jx_Go jxP d 178 41 [l0, l1, l2, l3, l4, l5, l6] [.int (nI 0)] h Q ↔ Q [.int (nI 0)] h := jx_rt rfl rfl
theorem s178_41b1 : jx_Go jxP d 178 41 [l0, l1, l2, l3, l4, l5, l6] [.int (nI 1)] h Q ↔ Q [.int (nI 1)] h := jx_rt rfl rfl
theorem s178_42 : jx_Go jxP d 178 42 [.ref a, l1, l2, l3, l4, l5, l6] st h Q ↔ jx_Go jxP d 178 43 [.ref a, l1, l2, l3, l4, l5, l6] (.ref a :: st) h Q := jg_al rfl rfl
theorem s178_43 : jx_Go jxP d 178 43 [l0, l1, l2, l3, l4, l5, l6] (.ref a :: st) h Q ↔ ∃ v, jx_fl h a 12 30 = some v ∧ jx_Go jxP d 178 46 [l0, l1, l2, l3, l4, l5, l6] (v :: st) h Q := jg_gf rfl
theorem s178_46 : jx_Go jxP d 178 46 [l0, l1, l2, l3, .int x, l5, l6] st h Q ↔ jx_Go jxP d 178 48 [l0, l1, l2, l3, .int x, l5, l6] (.int x :: st) h Q := jg_il rfl rfl
theorem s178_48 : jx_Go jxP d 178 48 [l0, l1, l2, l3, l4, l5, l6] (.int x :: .ref a :: st) h Q ↔ jx_Go jxP d 178 49 [l0, l1, l2, l3, l4, l5, l6] (.int x :: .ref a :: .int x :: .ref a :: st) h Q := jg_d2 rfl
theorem s178_49 : jx_Go jxP d 178 49 [l0, l1, l2, l3, l4, l5, l6] (.int x :: .ref a :: st) h Q ↔ ∃ q, jx_ai h a = some q ∧ jx_in x q.1 ∧ jx_Go jxP d 178 50 [l0, l1, l2, l3, l4, l5, l6] (.int (q.2 x.toNatClampNeg) :: st) h Q := jg_ia rfl
theorem s178_50 : jx_Go jxP d 178 50 [l0, l1, l2, l3, l4, l5, l6] st h Q ↔ jx_Go jxP d 178 51 [l0, l1, l2, l3, l4, l5, l6] (.int (nI 1) :: st) h Q := jg_c rfl
theorem s178_51 : jx_Go jxP d 178 51 [l0, l1, l2, l3, l4, l5, l6] (.int y :: .int x :: st) h Q ↔ jx_Go jxP d 178 52 [l0, l1, l2, l3, l4, l5, l6] (.int (x + y) :: st) h Q := jg_b (f := fun x y => x + y) rfl
theorem s178_52 : jx_Go jxP d 178 52 [l0, l1, l2, l3, l4, l5, l6] (.int y :: .int x :: .ref a :: st) h Q ↔ ∃ q, jx_ai h a = some q ∧ jx_in x q.1 ∧ jx_Go jxP d 178 53 [l0, l1, l2, l3, l4, l5, l6] st (jx_wi h a q.1 (upd q.2 x.toNatClampNeg y)) Q := jg_iw rfl
theorem s178_53 : jx_Go jxP d 178 53 [l0, l1, l2, l3, .int x, l5, l6] st h Q ↔ jx_Go jxP d 178 55 [l0, l1, l2, l3, .int x, l5, l6] (.int x :: st) h Q := jg_il rfl rfl
theorem s178_55 : jx_Go jxP d 178 55 [l0, l1, l2, .int x, l4, l5, l6] st h Q ↔ jx_Go jxP d 178 56 [l0, l1, l2, .int x, l4, l5, l6] (.int x :: st) h Q := jg_il rfl rfl
theorem s178_56 : jx_Go jxP d 178 56 [l0, l1, l2, l3, l4, l5, l6] (.int y :: .int x :: st) h Q ↔ if x = y then jx_Go jxP d 178 75 [l0, l1, l2, l3, l4, l5, l6] st h Q else jx_Go jxP d 178 59 [l0, l1, l2, l3, l4, l5, l6] st h Q := jg_icP rfl rfl
theorem s178_59 : jx_Go jxP d 178 59 [.ref a, l1, l2, l3, l4, l5, l6] st h Q ↔ jx_Go jxP d 178 60 [.ref a, l1, l2, l3, l4, l5, l6] (.ref a :: st) h Q := jg_al rfl rfl
theorem s178_60 : jx_Go jxP d 178 60 [l0, l1, l2, l3, l4, l5, l6] (.ref a :: st) h Q ↔ ∃ v, jx_fl h a 12 30 = some v ∧ jx_Go jxP d 178 63 [l0, l1, l2, l3, l4, l5, l6] (v :: st) h Q := jg_gf rfl
theorem s178_63 : jx_Go jxP d 178 63 [l0, l1, l2, l3, .int x, l5, l6] st h Q ↔ jx_Go jxP d 178 65 [l0, l1, l2, l3, .int x, l5, l6] (.int x :: st) h Q := jg_il rfl rfl
theorem s178_65 : jx_Go jxP d 178 65 [l0, l1, l2, l3, l4, l5, l6] (.int x :: .ref a :: st) h Q ↔ ∃ q, jx_ai h a = some q ∧ jx_in x q.1 ∧ jx_Go jxP d 178 66 [l0, l1, l2, l3, l4, l5, l6] (.int (q.2 x.toNatClampNeg) :: st) h Q := jg_ia rfl
theorem s178_66 : jx_Go jxP d 178 66 [l0, l1, l2, l3, l4, l5, l6] st h Q ↔ jx_Go jxP d 178 67 [l0, l1, l2, l3, l4, l5, l6] (.int (nI 1) :: st) h Q := jg_c rfl
theorem s178_67 : jx_Go jxP d 178 67 [.ref a, l1, l2, l3, l4, l5, l6] st h Q ↔ jx_Go jxP d 178 68 [.ref a, l1, l2, l3, l4, l5, l6] (.ref a :: st) h Q := jg_al rfl rfl
theorem s178_68 : jx_Go jxP d 178 68 [l0, l1, l2, l3, l4, l5, l6] (.ref a :: st) h Q ↔ ∃ v, jx_fl h a 12 1 = some v ∧ jx_Go jxP d 178 71 [l0, l1, l2, l3, l4, l5, l6] (v :: st) h Q := jg_gf rfl
theorem s178_71 : jx_Go jxP d 178 71 [l0, l1, l2, l3, l4, l5, l6] (.int y :: .int x :: st) h Q ↔ jx_Go jxP d 178 72 [l0, l1, l2, l3, l4, l5, l6] (.int (x <<< (y &&& 31)) :: st) h Q := jg_b (f := fun x y => x <<< (y &&& 31)) rfl
theorem s178_72 : jx_Go jxP d 178 72 [l0, l1, l2, l3, l4, l5, l6] (.int y :: .int x :: st) h Q ↔ if x < y then jx_Go jxP d 178 81 [l0, l1, l2, l3, l4, l5, l6] st h Q else jx_Go jxP d 178 75 [l0, l1, l2, l3, l4, l5, l6] st h Q := jg_icP rfl rfl
theorem s178_75 : jx_Go jxP d 178 75 [l0, l1, l2, l3, .int x, l5, l6] st h Q ↔ jx_Go jxP d 178 78 [l0, l1, l2, l3, .int (x + (-1)), l5, l6] st h Q := jg_inc rfl rfl rfl
theorem s178_78 : jx_Go jxP d 178 78 [l0, l1, l2, l3, l4, l5, l6] st h Q ↔ jx_Go jxP d 178 17 [l0, l1, l2, l3, l4, l5, l6] st h Q := jg_go rfl
theorem s178_81 : jx_Go jxP d 178 81 [.ref a, l1, l2, l3, l4, l5, l6] st h Q ↔ jx_Go jxP d 178 82 [.ref a, l1, l2, l3, l4, l5, l6] (.ref a :: st) h Q := jg_al rfl rfl
theorem s178_82 : jx_Go jxP d 178 82 [.ref a, l1, l2, l3, l4, l5, l6] st h Q ↔ jx_Go jxP d 178 83 [.ref a, l1, l2, l3, l4, l5, l6] (.ref a :: st) h Q := jg_al rfl rfl
theorem s178_83 : jx_Go jxP d 178 83 [.ref a, l1, l2, l3, l4, l5, l6] st h Q ↔ jx_Go jxP d 178 84 [.ref a, l1, l2, l3, l4, l5, l6] (.ref a :: st) h Q := jg_al rfl rfl
theorem s178_84 : jx_Go jxP d 178 84 [l0, l1, l2, l3, l4, l5, l6] (.ref a :: st) h Q ↔ ∃ v, jx_fl h a 12 30 = some v ∧ jx_Go jxP d 178 87 [l0, l1, l2, l3, l4, l5, l6] (v :: st) h Q := jg_gf rfl
theorem s178_87 : jx_Go jxP d 178 87 [l0, l1, l2, l3, .int x, l5, l6] st h Q ↔ jx_Go jxP d 178 89 [l0, l1, l2, l3, .int x, l5, l6] (.int x :: st) h Q := jg_il rfl rfl
theorem s178_89 : jx_Go jxP d 178 89 [l0, l1, l2, l3, l4, l5, l6] (.int x :: .ref a :: st) h Q ↔ ∃ q, jx_ai h a = some q ∧ jx_in x q.1 ∧ jx_Go jxP d 178 90 [l0, l1, l2, l3, l4, l5, l6] (.int (q.2 x.toNatClampNeg) :: st) h Q := jg_ia rfl
theorem s178_90 : jx_Go jxP d 178 90 [l0, l1, .int x, l3, l4, l5, l6] st h Q ↔ jx_Go jxP d 178 91 [l0, l1, .int x, l3, l4, l5, l6] (.int x :: st) h Q := jg_il rfl rfl
theorem s178_91 : jx_Go jxP (d + 1) 178 91 [l0, l1, l2, l3, l4, l5, l6] (.int x1 :: .int x0 :: .ref a :: st) h Q ↔ (st.length ≤ 4 ∧ jx_cl h a = some 12 ∧ jx_Go jxP d 176 0 [.ref a, .int x0, .int x1, jx_u, jx_u, jx_u, jx_u] [] h (fun s1 h1 => jx_Go jxP (d + 1) 178 94 [l0, l1, l2, l3, l4, l5, l6] (s1 ++ st) h1 Q)) := jg_callV (as := [.int x1, .int x0, .ref a]) rfl rfl rfl rfl rfl
theorem s178_94 : jx_Go jxP d 178 94 [.ref a, l1, l2, l3, l4, l5, l6] st h Q ↔ jx_Go jxP d 178 95 [.ref a, l1, l2, l3, l4, l5, l6] (.ref a :: st) h Q := jg_al rfl rfl
theorem s178_95 : jx_Go jxP d 178 95 [l0, l1, l2, l3, l4, l5, l6] (.ref a :: st) h Q ↔ ∃ v, jx_fl h a 12 30 = some v ∧ jx_Go jxP d 178 98 [l0, l1, l2, l3, l4, l5, l6] (v :: st) h Q := jg_gf rfl
theorem s178_98 : jx_Go jxP d 178 98 [l0, l1, l2, l3, .int x, l5, l6] st h Q ↔ jx_Go jxP d 178 100 [l0, l1, l2, l3, .int x, l5, l6] (.int x :: st) h Q := jg_il rfl rfl
theorem s178_100 : jx_Go jxP d 178 100 [l0, l1, l2, l3, l4, l5, l6] (.int x :: .ref a :: st) h Q ↔ ∃ q, jx_ai h a = some q ∧ jx_in x q.1 ∧ jx_Go jxP d 178 101 [l0, l1, l2, l3, l4, l5, l6] (.int (q.2 x.toNatClampNeg) :: st) h Q := jg_ia rfl
theorem s178_101 : jx_Go jxP (d + 1) 178 101 [l0, l1, l2, l3, l4, l5, l6] (.int x1 :: .int x0 :: .ref a :: st) h Q ↔ (st.length ≤ 4 ∧ jx_cl h a = some 12 ∧ jx_Go jxP d 177 0 [.ref a, .int x0, .int x1, jx_u, jx_u, jx_u] [] h (fun s1 h1 => jx_Go jxP (d + 1) 178 104 [l0, l1, l2, l3, l4, l5, l6] (s1 ++ st) h1 Q)) := jg_callV (as := [.int x1, .int x0, .ref a]) rfl rfl rfl rfl rfl
theorem s178_104 : jx_Go jxP d 178 104 [l0, l1, l2, l3, l4, l5, l6] (.int x :: st) h Q ↔ jx_Go jxP d 178 106 [l0, l1, l2, l3, l4, l5, .int x] st h Q := jg_is rfl rfl
theorem s178_106 : jx_Go jxP d 178 106 [l0, l1, l2, l3, l4, l5, .int x] st h Q ↔ jx_Go jxP d 178 108 [l0, l1, l2, l3, l4, l5, .int x] (.int x :: st) h Q := jg_il rfl rfl
theorem s178_108 : jx_Go jxP d 178 108 [l0, l1, l2, l3, l4, .int x, l6] st h Q ↔ jx_Go jxP d 178 110 [l0, l1, l2, l3, l4, .int x, l6] (.int x :: st) h Q := jg_il rfl rfl
theorem s178_110 : jx_Go jxP d 178 110 [l0, l1, l2, l3, l4, .int x, l6] st h Q ↔ jx_Go jxP d 178 112 [l0, l1, l2, l3, l4, .int x, l6] (.int x :: st) h Q := jg_il rfl rfl
theorem s178_112 : jx_Go jxP d 178 112 [l0, l1, l2, l3, l4, l5, l6] (.int x :: st) h Q ↔ jx_Go jxP d 178 113 [l0, l1, l2, l3, l4, l5, l6] (.int (-x) :: st) h Q := jg_1 (f := fun x => -x) rfl
theorem s178_113 : jx_Go jxP d 178 113 [l0, l1, l2, l3, l4, l5, l6] (.int y :: .int x :: st) h Q ↔ jx_Go jxP d 178 114 [l0, l1, l2, l3, l4, l5, l6] (.int (x &&& y) :: st) h Q := jg_b (f := fun x y => x &&& y) rfl
theorem s178_114 : jx_Go jxP d 178 114 [l0, l1, l2, l3, l4, l5, l6] (.int y :: .int x :: st) h Q ↔ jx_Go jxP d 178 115 [l0, l1, l2, l3, l4, l5, l6] (.int (x &&& y) :: st) h Q := jg_b (f := fun x y => x &&& y) rfl
theorem s178_115 : jx_Go jxP d 178 115 [l0, l1, l2, l3, l4, l5, l6] (.int x :: st) h Q ↔ if x = 0 then jx_Go jxP d 178 150 [l0, l1, l2, l3, l4, l5, l6] st h Q else jx_Go jxP d 178 118 [l0, l1, l2, l3, l4, l5, l6] st h Q := jg_ifP rfl rfl
theorem s178_118 : jx_Go jxP d 178 118 [.ref a, l1, l2, l3, l4, l5, l6] st h Q ↔ jx_Go jxP d 178 119 [.ref a, l1, l2, l3, l4, l5, l6] (.ref a :: st) h Q := jg_al rfl rfl
theorem s178_119 : jx_Go jxP d 178 119 [l0, l1, l2, l3, l4, l5, l6] (.ref a :: st) h Q ↔ ∃ v, jx_fl h a 12 29 = some v ∧ jx_Go jxP d 178 122 [l0, l1, l2, l3, l4, l5, l6] (v :: st) h Q := jg_gf rfl
theorem s178_122 : jx_Go jxP d 178 122 [l0, l1, l2, l3, .int x, l5, l6] st h Q ↔ jx_Go jxP d 178 124 [l0, l1, l2, l3, .int x, l5, l6] (.int x :: st) h Q := jg_il rfl rfl
theorem s178_124 : jx_Go jxP d 178 124 [l0, l1, l2, l3, l4, l5, l6] st h Q ↔ jx_Go jxP d 178 125 [l0, l1, l2, l3, l4, l5, l6] (.int (nI 1) :: st) h Q := jg_c rfl
theorem s178_125 : jx_Go jxP d 178 125 [l0, l1, l2, l3, l4, l5, l6] (.int y :: .int x :: st) h Q ↔ jx_Go jxP d 178 126 [l0, l1, l2, l3, l4, l5, l6] (.int (x + y) :: st) h Q := jg_b (f := fun x y => x + y) rfl
theorem s178_126 : jx_Go jxP d 178 126 [.ref a, l1, l2, l3, l4, l5, l6] st h Q ↔ jx_Go jxP d 178 127 [.ref a, l1, l2, l3, l4, l5, l6] (.ref a :: st) h Q := jg_al rfl rfl
theorem s178_127 : jx_Go jxP d 178 127 [l0, l1, l2, l3, l4, l5, l6] (.ref a :: st) h Q ↔ ∃ v, jx_fl h a 12 29 = some v ∧ jx_Go jxP d 178 130 [l0, l1, l2, l3, l4, l5, l6] (v :: st) h Q := jg_gf rfl
theorem s178_130 : jx_Go jxP d 178 130 [l0, l1, l2, l3, .int x, l5, l6] st h Q ↔ jx_Go jxP d 178 132 [l0, l1, l2, l3, .int x, l5, l6] (.int x :: st) h Q := jg_il rfl rfl
theorem s178_132 : jx_Go jxP d 178 132 [l0, l1, l2, l3, l4, l5, l6] (.int x :: .ref a :: st) h Q ↔ ∃ q, jx_ai h a = some q ∧ jx_in x q.1 ∧ jx_Go jxP d 178 133 [l0, l1, l2, l3, l4, l5, l6] (.int (q.2 x.toNatClampNeg) :: st) h Q := jg_ia rfl
theorem s178_133 : jx_Go jxP d 178 133 [l0, l1, l2, l3, l4, l5, .int x] st h Q ↔ jx_Go jxP d 178 135 [l0, l1, l2, l3, l4, l5, .int x] (.int x :: st) h Q := jg_il rfl rfl
theorem s178_135 : jx_Go jxP d 178 135 [l0, l1, l2, l3, l4, l5, l6] (.int y :: .int x :: st) h Q ↔ jx_Go jxP d 178 136 [l0, l1, l2, l3, l4, l5, l6] (.int (x ||| y) :: st) h Q := jg_b (f := fun x y => x ||| y) rfl
theorem s178_136 : jx_Go jxP d 178 136 [l0, l1, l2, l3, l4, l5, l6] (.int y :: .int x :: .ref a :: st) h Q ↔ ∃ q, jx_ai h a = some q ∧ jx_in x q.1 ∧ jx_Go jxP d 178 137 [l0, l1, l2, l3, l4, l5, l6] st (jx_wi h a q.1 (upd q.2 x.toNatClampNeg y)) Q := jg_iw rfl
theorem s178_137 : jx_Go jxP d 178 137 [.ref a, l1, l2, l3, l4, l5, l6] st h Q ↔ jx_Go jxP d 178 138 [.ref a, l1, l2, l3, l4, l5, l6] (.ref a :: st) h Q := jg_al rfl rfl
theorem s178_138 : jx_Go jxP d 178 138 [l0, l1, l2, l3, l4, l5, l6] (.ref a :: st) h Q ↔ ∃ v, jx_fl h a 12 30 = some v ∧ jx_Go jxP d 178 141 [l0, l1, l2, l3, l4, l5, l6] (v :: st) h Q := jg_gf rfl
theorem s178_141 : jx_Go jxP d 178 141 [l0, l1, l2, l3, .int x, l5, l6] st h Q ↔ jx_Go jxP d 178 143 [l0, l1, l2, l3, .int x, l5, l6] (.int x :: st) h Q := jg_il rfl rfl
theorem s178_143 : jx_Go jxP d 178 143 [l0, l1, l2, l3, l4, l5, l6] st h Q ↔ jx_Go jxP d 178 144 [l0, l1, l2, l3, l4, l5, l6] (.int (nI 1) :: st) h Q := jg_c rfl
theorem s178_144 : jx_Go jxP d 178 144 [l0, l1, l2, l3, l4, l5, l6] (.int y :: .int x :: st) h Q ↔ jx_Go jxP d 178 145 [l0, l1, l2, l3, l4, l5, l6] (.int (x + y) :: st) h Q := jg_b (f := fun x y => x + y) rfl
theorem s178_145 : jx_Go jxP d 178 145 [l0, l1, l2, l3, l4, l5, l6] st h Q ↔ jx_Go jxP d 178 146 [l0, l1, l2, l3, l4, l5, l6] (.int (nI 0) :: st) h Q := jg_c rfl
theorem s178_146 : jx_Go jxP d 178 146 [l0, l1, l2, l3, l4, l5, l6] (.int y :: .int x :: .ref a :: st) h Q ↔ ∃ q, jx_ai h a = some q ∧ jx_in x q.1 ∧ jx_Go jxP d 178 147 [l0, l1, l2, l3, l4, l5, l6] st (jx_wi h a q.1 (upd q.2 x.toNatClampNeg y)) Q := jg_iw rfl
theorem s178_147 : jx_Go jxP d 178 147 [l0, l1, l2, l3, .int x, l5, l6] st h Q ↔ jx_Go jxP d 178 150 [l0, l1, l2, l3, .int (x + (nI 1)), l5, l6] st h Q := jg_inc rfl rfl rfl
theorem s178_150 : jx_Go jxP d 178 150 [l0, l1, l2, l3, l4, l5, l6] st h Q ↔ jx_Go jxP d 178 17 [l0, l1, l2, l3, l4, l5, l6] st h Q := jg_go rfl
theorem s178_153 : jx_Go jxP d 178 153 [l0, l1, l2, l3, l4, l5, l6] st h Q ↔ jx_Go jxP d 178 154 [l0, l1, l2, l3, l4, l5, l6] (.int (nI 0) :: st) h Q := jg_c rfl
theorem s178_154b0 : jx_Go jxP d 178 154 [l0, l1, l2, l3, l4, l5, l6] [.int (nI 0)] h Q ↔ Q [.int (nI 0)] h := jx_rt rfl rfl
theorem s178_154b1 : jx_Go jxP d 178 154 [l0, l1, l2, l3, l4, l5, l6] [.int (nI 1)] h Q ↔ Q [.int (nI 1)] h := jx_rt rfl rfl
-- 179 TalkBenchModel.cover
theorem s179_0 : jx_Go jxP d 179 0 [l0, .int x, l2, l3, l4] st h Q ↔ jx_Go jxP d 179 1 [l0, .int x, l2, l3, l4] (.int x :: st) h Q := jg_il rfl rfl
theorem s179_1 : jx_Go jxP d 179 1 [l0, l1, l2, l3, l4] (.int x :: st) h Q ↔ if x < 0 then jx_Go jxP d 179 9 [l0, l1, l2, l3, l4] st h Q else jx_Go jxP d 179 4 [l0, l1, l2, l3, l4] st h Q := jg_ifP rfl rfl
theorem s179_4 : jx_Go jxP d 179 4 [l0, .int x, l2, l3, l4] st h Q ↔ jx_Go jxP d 179 5 [l0, .int x, l2, l3, l4] (.int x :: st) h Q := jg_il rfl rfl
theorem s179_5 : jx_Go jxP d 179 5 [l0, l1, l2, l3, l4] st h Q ↔ jx_Go jxP d 179 6 [l0, l1, l2, l3, l4] (.int (nI 1) :: st) h Q := jg_c rfl
theorem s179_6 : jx_Go jxP d 179 6 [l0, l1, l2, l3, l4] (.int y :: .int x :: st) h Q ↔ if x ≤ y then jx_Go jxP d 179 15 [l0, l1, l2, l3, l4] st h Q else jx_Go jxP d 179 9 [l0, l1, l2, l3, l4] st h Q := jg_icP rfl rfl
theorem s179_9 : jx_Go jxP d 179 9 [.ref a, l1, l2, l3, l4] st h Q ↔ jx_Go jxP d 179 10 [.ref a, l1, l2, l3, l4] (.ref a :: st) h Q := jg_al rfl rfl
theorem s179_10 : jx_Go jxP d 179 10 [l0, l1, l2, l3, l4] st h Q ↔ jx_Go jxP d 179 11 [l0, l1, l2, l3, l4] (.int (-1) :: st) h Q := jg_c rfl
theorem s179_11 : jx_Go jxP (d + 1) 179 11 [l0, l1, l2, l3, l4] (.int x0 :: .ref a :: st) h Q ↔ (st.length ≤ 4 ∧ jx_cl h a = some 12 ∧ jx_Go jxP d 130 0 [.ref a, .int x0] [] h (fun s1 h1 => jx_Go jxP (d + 1) 179 14 [l0, l1, l2, l3, l4] (s1 ++ st) h1 Q)) := jg_callV (as := [.int x0, .ref a]) rfl rfl rfl rfl rfl
theorem s179_14 : jx_Go jxP d 179 14 [l0, l1, l2, l3, l4] [.int x] h Q ↔ Q [.int x] h := jx_rt rfl rfl
theorem s179_15 : jx_Go jxP d 179 15 [l0, l1, l2, l3, l4] st h Q ↔ jx_Go jxP d 179 16 [l0, l1, l2, l3, l4] (.int (nI 0) :: st) h Q := jg_c rfl
theorem s179_16 : jx_Go jxP d 179 16 [l0, l1, l2, l3, l4] (.int x :: st) h Q ↔ jx_Go jxP d 179 17 [l0, l1, .int x, l3, l4] st h Q := jg_is rfl rfl
theorem s179_17 : jx_Go jxP d 179 17 [l0, l1, l2, l3, l4] st h Q ↔ jx_Go jxP d 179 18 [l0, l1, l2, l3, l4] (.int (nI 0) :: st) h Q := jg_c rfl
theorem s179_18 : jx_Go jxP d 179 18 [l0, l1, l2, l3, l4] (.int x :: st) h Q ↔ jx_Go jxP d 179 19 [l0, l1, l2, .int x, l4] st h Q := jg_is rfl rfl
theorem s179_19 : jx_Go jxP d 179 19 [l0, l1, l2, .int x, l4] st h Q ↔ jx_Go jxP d 179 20 [l0, l1, l2, .int x, l4] (.int x :: st) h Q := jg_il rfl rfl
theorem s179_20 : jx_Go jxP d 179 20 [.ref a, l1, l2, l3, l4] st h Q ↔ jx_Go jxP d 179 21 [.ref a, l1, l2, l3, l4] (.ref a :: st) h Q := jg_al rfl rfl
theorem s179_21 : jx_Go jxP d 179 21 [l0, l1, l2, l3, l4] (.ref a :: st) h Q ↔ ∃ v, jx_fl h a 12 0 = some v ∧ jx_Go jxP d 179 24 [l0, l1, l2, l3, l4] (v :: st) h Q := jg_gf rfl
theorem s179_24 : jx_Go jxP d 179 24 [l0, l1, l2, l3, l4] (.int y :: .int x :: st) h Q ↔ if y ≤ x then jx_Go jxP d 179 81 [l0, l1, l2, l3, l4] st h Q else jx_Go jxP d 179 27 [l0, l1, l2, l3, l4] st h Q := jg_icP rfl rfl
theorem s179_27 : jx_Go jxP d 179 27 [l0, l1, l2, l3, l4] st h Q ↔ jx_Go jxP d 179 28 [l0, l1, l2, l3, l4] (.int (nI 0) :: st) h Q := jg_c rfl
theorem s179_28 : jx_Go jxP d 179 28 [l0, l1, l2, l3, l4] (.int x :: st) h Q ↔ jx_Go jxP d 179 30 [l0, l1, l2, l3, .int x] st h Q := jg_is rfl rfl
theorem s179_30 : jx_Go jxP d 179 30 [l0, l1, l2, l3, .int x] st h Q ↔ jx_Go jxP d 179 32 [l0, l1, l2, l3, .int x] (.int x :: st) h Q := jg_il rfl rfl
theorem s179_32 : jx_Go jxP d 179 32 [.ref a, l1, l2, l3, l4] st h Q ↔ jx_Go jxP d 179 33 [.ref a, l1, l2, l3, l4] (.ref a :: st) h Q := jg_al rfl rfl
theorem s179_33 : jx_Go jxP d 179 33 [l0, l1, l2, l3, l4] (.ref a :: st) h Q ↔ ∃ v, jx_fl h a 12 1 = some v ∧ jx_Go jxP d 179 36 [l0, l1, l2, l3, l4] (v :: st) h Q := jg_gf rfl
theorem s179_36 : jx_Go jxP d 179 36 [l0, l1, l2, l3, l4] (.int y :: .int x :: st) h Q ↔ if y ≤ x then jx_Go jxP d 179 75 [l0, l1, l2, l3, l4] st h Q else jx_Go jxP d 179 39 [l0, l1, l2, l3, l4] st h Q := jg_icP rfl rfl
theorem s179_39 : jx_Go jxP d 179 39 [l0, l1, .int x, l3, l4] st h Q ↔ jx_Go jxP d 179 40 [l0, l1, .int x, l3, l4] (.int x :: st) h Q := jg_il rfl rfl
theorem s179_40 : jx_Go jxP d 179 40 [.ref a, l1, l2, l3, l4] st h Q ↔ jx_Go jxP d 179 41 [.ref a, l1, l2, l3, l4] (.ref a :: st) h Q := jg_al rfl rfl
theorem s179_41 : jx_Go jxP d 179 41 [l0, l1, l2, l3, l4] (.ref a :: st) h Q ↔ ∃ v, jx_fl h a 12 2 = some v ∧ jx_Go jxP d 179 44 [l0, l1, l2, l3, l4] (v :: st) h Q := jg_gf rfl
theorem s179_44 : jx_Go jxP d 179 44 [l0, l1, l2, l3, l4] st h Q ↔ jx_Go jxP d 179 45 [l0, l1, l2, l3, l4] (.int (nI 5) :: st) h Q := jg_c rfl
theorem s179_45 : jx_Go jxP d 179 45 [l0, l1, l2, .int x, l4] st h Q ↔ jx_Go jxP d 179 46 [l0, l1, l2, .int x, l4] (.int x :: st) h Q := jg_il rfl rfl
theorem s179_46 : jx_Go jxP d 179 46 [l0, l1, l2, l3, l4] (.int y :: .int x :: st) h Q ↔ jx_Go jxP d 179 47 [l0, l1, l2, l3, l4] (.int (x * y) :: st) h Q := jg_b (f := fun x y => x * y) rfl
theorem s179_47 : jx_Go jxP d 179 47 [l0, l1, l2, l3, .int x] st h Q ↔ jx_Go jxP d 179 49 [l0, l1, l2, l3, .int x] (.int x :: st) h Q := jg_il rfl rfl
theorem s179_49 : jx_Go jxP d 179 49 [l0, l1, l2, l3, l4] (.int y :: .int x :: st) h Q ↔ jx_Go jxP d 179 50 [l0, l1, l2, l3, l4] (.int (x + y) :: st) h Q := jg_b (f := fun x y => x + y) rfl
theorem s179_50 : jx_Go jxP d 179 50 [l0, l1, l2, l3, l4] (.int x :: .ref a :: st) h Q ↔ ∃ q, jx_ai h a = some q ∧ jx_in x q.1 ∧ jx_Go jxP d 179 51 [l0, l1, l2, l3, l4] (.int (q.2 x.toNatClampNeg) :: st) h Q := jg_ia rfl
theorem s179_51 : jx_Go jxP d 179 51 [l0, .int x, l2, l3, l4] st h Q ↔ jx_Go jxP d 179 52 [l0, .int x, l2, l3, l4] (.int x :: st) h Q := jg_il rfl rfl
theorem s179_52 : jx_Go jxP d 179 52 [l0, l1, l2, l3, l4] (.int y :: .int x :: st) h Q ↔ if x = y then jx_Go jxP d 179 55 [l0, l1, l2, l3, l4] st h Q else jx_Go jxP d 179 66 [l0, l1, l2, l3, l4] st h Q := jg_icN rfl rfl
theorem s179_55 : jx_Go jxP d 179 55 [l0, l1, l2, l3, l4] st h Q ↔ jx_Go jxP d 179 56 [l0, l1, l2, l3, l4] (.int (nI 1) :: st) h Q := jg_c rfl
theorem s179_56 : jx_Go jxP d 179 56 [l0, l1, l2, l3, l4] st h Q ↔ jx_Go jxP d 179 57 [l0, l1, l2, l3, l4] (.int (nI 5) :: st) h Q := jg_c rfl
theorem s179_57 : jx_Go jxP d 179 57 [l0, l1, l2, .int x, l4] st h Q ↔ jx_Go jxP d 179 58 [l0, l1, l2, .int x, l4] (.int x :: st) h Q := jg_il rfl rfl
theorem s179_58 : jx_Go jxP d 179 58 [l0, l1, l2, l3, l4] (.int y :: .int x :: st) h Q ↔ jx_Go jxP d 179 59 [l0, l1, l2, l3, l4] (.int (x * y) :: st) h Q := jg_b (f := fun x y => x * y) rfl
theorem s179_59 : jx_Go jxP d 179 59 [l0, l1, l2, l3, .int x] st h Q ↔ jx_Go jxP d 179 61 [l0, l1, l2, l3, .int x] (.int x :: st) h Q := jg_il rfl rfl
theorem s179_61 : jx_Go jxP d 179 61 [l0, l1, l2, l3, l4] (.int y :: .int x :: st) h Q ↔ jx_Go jxP d 179 62 [l0, l1, l2, l3, l4] (.int (x + y) :: st) h Q := jg_b (f := fun x y => x + y) rfl
theorem s179_62 : jx_Go jxP d 179 62 [l0, l1, l2, l3, l4] (.int y :: .int x :: st) h Q ↔ jx_Go jxP d 179 63 [l0, l1, l2, l3, l4] (.int (x <<< (y &&& 31)) :: st) h Q := jg_b (f := fun x y => x <<< (y &&& 31)) rfl
theorem s179_63 : jx_Go jxP d 179 63 [l0, l1, l2, l3, l4] st h Q ↔ jx_Go jxP d 179 67 [l0, l1, l2, l3, l4] st h Q := jg_go rfl
theorem s179_66 : jx_Go jxP d 179 66 [l0, l1, l2, l3, l4] st h Q ↔ jx_Go jxP d 179 67 [l0, l1, l2, l3, l4] (.int (nI 0) :: st) h Q := jg_c rfl
theorem s179_67 : jx_Go jxP d 179 67 [l0, l1, l2, l3, l4] (.int y :: .int x :: st) h Q ↔ jx_Go jxP d 179 68 [l0, l1, l2, l3, l4] (.int (x ||| y) :: st) h Q := jg_b (f := fun x y => x ||| y) rfl
theorem s179_68 : jx_Go jxP d 179 68 [l0, l1, l2, l3, l4] (.int x :: st) h Q ↔ jx_Go jxP d 179 69 [l0, l1, .int x, l3, l4] st h Q := jg_is rfl rfl
theorem s179_69 : jx_Go jxP d 179 69 [l0, l1, l2, l3, .int x] st h Q ↔ jx_Go jxP d 179 72 [l0, l1, l2, l3, .int (x + (nI 1))] st h Q := jg_inc rfl rfl rfl
theorem s179_72 : jx_Go jxP d 179 72 [l0, l1, l2, l3, l4] st h Q ↔ jx_Go jxP d 179 30 [l0, l1, l2, l3, l4] st h Q := jg_go rfl
theorem s179_75 : jx_Go jxP d 179 75 [l0, l1, l2, .int x, l4] st h Q ↔ jx_Go jxP d 179 78 [l0, l1, l2, .int (x + (nI 1)), l4] st h Q := jg_inc rfl rfl rfl
theorem s179_78 : jx_Go jxP d 179 78 [l0, l1, l2, l3, l4] st h Q ↔ jx_Go jxP d 179 19 [l0, l1, l2, l3, l4] st h Q := jg_go rfl
theorem s179_81 : jx_Go jxP d 179 81 [l0, l1, l2, l3, l4] st h Q ↔ jx_Go jxP d 179 82 [l0, l1, l2, l3, l4] (.int (nI 0) :: st) h Q := jg_c rfl
theorem s179_82 : jx_Go jxP d 179 82 [l0, l1, l2, l3, l4] (.int x :: st) h Q ↔ jx_Go jxP d 179 83 [l0, l1, l2, .int x, l4] st h Q := jg_is rfl rfl
theorem s179_83 : jx_Go jxP d 179 83 [.ref a, l1, l2, l3, l4] st h Q ↔ jx_Go jxP d 179 84 [.ref a, l1, l2, l3, l4] (.ref a :: st) h Q := jg_al rfl rfl
theorem s179_84 : jx_Go jxP d 179 84 [l0, l1, .int x, l3, l4] st h Q ↔ jx_Go jxP d 179 85 [l0, l1, .int x, l3, l4] (.int x :: st) h Q := jg_il rfl rfl
theorem s179_85 : jx_Go jxP d 179 85 [l0, .int x, l2, l3, l4] st h Q ↔ jx_Go jxP d 179 86 [l0, .int x, l2, l3, l4] (.int x :: st) h Q := jg_il rfl rfl
theorem s179_86 : jx_Go jxP d 179 86 [l0, l1, l2, .int x, l4] st h Q ↔ jx_Go jxP d 179 87 [l0, l1, l2, .int x, l4] (.int x :: st) h Q := jg_il rfl rfl
theorem s179_87 : jx_Go jxP (d + 1) 179 87 [l0, l1, l2, l3, l4] (.int x2 :: .int x1 :: .int x0 :: .ref a :: st) h Q ↔ (st.length ≤ 4 ∧ jx_cl h a = some 12 ∧ jx_Go jxP d 178 0 [.ref a, .int x0, .int x1, .int x2, jx_u, jx_u, jx_u] [] h (fun s1 h1 => jx_Go jxP (d + 1) 179 90 [l0, l1, l2, l3, l4] (s1 ++ st) h1 Q)) := jg_callV (as := [.int x2, .int x1, .int x0, .ref a]) rfl rfl rfl rfl rfl
theorem s179_90 : jx_Go jxP d 179 90 [l0, l1, l2, l3, l4] (.int x :: st) h Q ↔ if x = 0 then jx_Go jxP d 179 93 [l0, l1, l2, l3, l4] st h Q else jx_Go jxP d 179 99 [l0, l1, l2, l3, l4] st h Q := jg_ifN rfl rfl
theorem s179_93 : jx_Go jxP d 179 93 [l0, l1, l2, .int x, l4] st h Q ↔ jx_Go jxP d 179 96 [l0, l1, l2, .int (x + (nI 1)), l4] st h Q := jg_inc rfl rfl rfl
theorem s179_96 : jx_Go jxP d 179 96 [l0, l1, l2, l3, l4] st h Q ↔ jx_Go jxP d 179 83 [l0, l1, l2, l3, l4] st h Q := jg_go rfl
theorem s179_99 : jx_Go jxP d 179 99 [l0, l1, l2, .int x, l4] st h Q ↔ jx_Go jxP d 179 100 [l0, l1, l2, .int x, l4] (.int x :: st) h Q := jg_il rfl rfl
theorem s179_100 : jx_Go jxP d 179 100 [l0, l1, l2, l3, l4] [.int x] h Q ↔ Q [.int x] h := jx_rt rfl rfl
-- 180 TalkBenchModel.part
theorem s180_0 : jx_Go jxP d 180 0 [.ref a, l1, l2, l3, l4, l5, l6] st h Q ↔ jx_Go jxP d 180 1 [.ref a, l1, l2, l3, l4, l5, l6] (.ref a :: st) h Q := jg_al rfl rfl
theorem s180_1 : jx_Go jxP d 180 1 [l0, l1, l2, l3, l4, l5, l6] (.ref a :: st) h Q ↔ ∃ v, jx_fl h a 12 0 = some v ∧ jx_Go jxP d 180 4 [l0, l1, l2, l3, l4, l5, l6] (v :: st) h Q := jg_gf rfl
theorem s180_4 : jx_Go jxP d 180 4 [l0, l1, l2, l3, l4, l5, l6] st h Q ↔ jx_Go jxP d 180 5 [l0, l1, l2, l3, l4, l5, l6] (.int (nI 4) :: st) h Q := jg_c rfl
theorem s180_5 : jx_Go jxP d 180 5 [l0, l1, l2, l3, l4, l5, l6] (.int y :: .int x :: st) h Q ↔ if y < x then jx_Go jxP d 180 16 [l0, l1, l2, l3, l4, l5, l6] st h Q else jx_Go jxP d 180 8 [l0, l1, l2, l3, l4, l5, l6] st h Q := jg_icP rfl rfl
theorem s180_8 : jx_Go jxP d 180 8 [.ref a, l1, l2, l3, l4, l5, l6] st h Q ↔ jx_Go jxP d 180 9 [.ref a, l1, l2, l3, l4, l5, l6] (.ref a :: st) h Q := jg_al rfl rfl
theorem s180_9 : jx_Go jxP d 180 9 [l0, l1, l2, l3, l4, l5, l6] (.ref a :: st) h Q ↔ ∃ v, jx_fl h a 12 1 = some v ∧ jx_Go jxP d 180 12 [l0, l1, l2, l3, l4, l5, l6] (v :: st) h Q := jg_gf rfl
theorem s180_12 : jx_Go jxP d 180 12 [l0, l1, l2, l3, l4, l5, l6] st h Q ↔ jx_Go jxP d 180 13 [l0, l1, l2, l3, l4, l5, l6] (.int (nI 4) :: st) h Q := jg_c rfl
theorem s180_13 : jx_Go jxP d 180 13 [l0, l1, l2, l3, l4, l5, l6] (.int y :: .int x :: st) h Q ↔ if x ≤ y then jx_Go jxP d 180 23 [l0, l1, l2, l3, l4, l5, l6] st h Q else jx_Go jxP d 180 16 [l0, l1, l2, l3, l4, l5, l6] st h Q := jg_icP rfl rfl
theorem s180_16 : jx_Go jxP d 180 16 [.ref a, l1, l2, l3, l4, l5, l6] st h Q ↔ jx_Go jxP d 180 17 [.ref a, l1, l2, l3, l4, l5, l6] (.ref a :: st) h Q := jg_al rfl rfl
theorem s180_17 : jx_Go jxP d 180 17 [l0, l1, l2, l3, l4, l5, l6] st h Q ↔ jx_Go jxP d 180 19 [l0, l1, l2, l3, l4, l5, l6] (.int (-7) :: st) h Q := jg_c rfl
theorem s180_19 : jx_Go jxP (d + 1) 180 19 [l0, l1, l2, l3, l4, l5, l6] (.int x0 :: .ref a :: st) h Q ↔ (st.length ≤ 4 ∧ jx_cl h a = some 12 ∧ jx_Go jxP d 130 0 [.ref a, .int x0] [] h (fun s1 h1 => jx_Go jxP (d + 1) 180 22 [l0, l1, l2, l3, l4, l5, l6] (s1 ++ st) h1 Q)) := jg_callV (as := [.int x0, .ref a]) rfl rfl rfl rfl rfl
theorem s180_22 : jx_Go jxP d 180 22 [l0, l1, l2, l3, l4, l5, l6] [.int x] h Q ↔ Q [.int x] h := jx_rt rfl rfl
theorem s180_23 : jx_Go jxP d 180 23 [l0, l1, l2, l3, l4, l5, l6] st h Q ↔ jx_Go jxP d 180 24 [l0, l1, l2, l3, l4, l5, l6] (.int (nI 0) :: st) h Q := jg_c rfl
theorem s180_24 : jx_Go jxP d 180 24 [l0, l1, l2, l3, l4, l5, l6] (.int x :: st) h Q ↔ jx_Go jxP d 180 25 [l0, .int x, l2, l3, l4, l5, l6] st h Q := jg_is rfl rfl
theorem s180_25 : jx_Go jxP d 180 25 [l0, l1, l2, l3, l4, l5, l6] st h Q ↔ jx_Go jxP d 180 26 [l0, l1, l2, l3, l4, l5, l6] (.int (nI 0) :: st) h Q := jg_c rfl
theorem s180_26 : jx_Go jxP d 180 26 [l0, l1, l2, l3, l4, l5, l6] (.int x :: st) h Q ↔ jx_Go jxP d 180 27 [l0, l1, .int x, l3, l4, l5, l6] st h Q := jg_is rfl rfl
theorem s180_27 : jx_Go jxP d 180 27 [l0, l1, .int x, l3, l4, l5, l6] st h Q ↔ jx_Go jxP d 180 28 [l0, l1, .int x, l3, l4, l5, l6] (.int x :: st) h Q := jg_il rfl rfl
theorem s180_28 : jx_Go jxP d 180 28 [.ref a, l1, l2, l3, l4, l5, l6] st h Q ↔ jx_Go jxP d 180 29 [.ref a, l1, l2, l3, l4, l5, l6] (.ref a :: st) h Q := jg_al rfl rfl
theorem s180_29 : jx_Go jxP (d + 1) 180 29 [l0, l1, l2, l3, l4, l5, l6] (.ref a :: st) h Q ↔ (st.length ≤ 4 ∧ jx_cl h a = some 12 ∧ jx_Go jxP d 154 0 [.ref a] [] h (fun s1 h1 => jx_Go jxP (d + 1) 180 32 [l0, l1, l2, l3, l4, l5, l6] (s1 ++ st) h1 Q)) := jg_callV (as := [.ref a]) rfl rfl rfl rfl rfl
theorem s180_32 : jx_Go jxP d 180 32 [l0, l1, l2, l3, l4, l5, l6] (.int y :: .int x :: st) h Q ↔ if y < x then jx_Go jxP d 180 114 [l0, l1, l2, l3, l4, l5, l6] st h Q else jx_Go jxP d 180 35 [l0, l1, l2, l3, l4, l5, l6] st h Q := jg_icP rfl rfl
theorem s180_35 : jx_Go jxP d 180 35 [.ref a, l1, l2, l3, l4, l5, l6] st h Q ↔ jx_Go jxP d 180 36 [.ref a, l1, l2, l3, l4, l5, l6] (.ref a :: st) h Q := jg_al rfl rfl
theorem s180_36 : jx_Go jxP d 180 36 [l0, l1, .int x, l3, l4, l5, l6] st h Q ↔ jx_Go jxP d 180 37 [l0, l1, .int x, l3, l4, l5, l6] (.int x :: st) h Q := jg_il rfl rfl
theorem s180_37 : jx_Go jxP (d + 1) 180 37 [l0, l1, l2, l3, l4, l5, l6] (.int x0 :: .ref a :: st) h Q ↔ (st.length ≤ 4 ∧ jx_cl h a = some 12 ∧ jx_Go jxP d 157 0 [.ref a, .int x0] [] h (fun s1 h1 => jx_Go jxP (d + 1) 180 40 [l0, l1, l2, l3, l4, l5, l6] (s1 ++ st) h1 Q)) := jg_callV (as := [.int x0, .ref a]) rfl rfl rfl rfl rfl
theorem s180_40 : jx_Go jxP d 180 40 [l0, l1, l2, l3, l4, l5, l6] (.int x :: st) h Q ↔ if x = 0 then jx_Go jxP d 180 108 [l0, l1, l2, l3, l4, l5, l6] st h Q else jx_Go jxP d 180 43 [l0, l1, l2, l3, l4, l5, l6] st h Q := jg_ifP rfl rfl
theorem s180_43 : jx_Go jxP d 180 43 [.ref a, l1, l2, l3, l4, l5, l6] st h Q ↔ jx_Go jxP d 180 44 [.ref a, l1, l2, l3, l4, l5, l6] (.ref a :: st) h Q := jg_al rfl rfl
theorem s180_44 : jx_Go jxP d 180 44 [l0, l1, .int x, l3, l4, l5, l6] st h Q ↔ jx_Go jxP d 180 45 [l0, l1, .int x, l3, l4, l5, l6] (.int x :: st) h Q := jg_il rfl rfl
theorem s180_45 : jx_Go jxP (d + 1) 180 45 [l0, l1, l2, l3, l4, l5, l6] (.int x0 :: .ref a :: st) h Q ↔ (st.length ≤ 4 ∧ jx_cl h a = some 12 ∧ jx_Go jxP d 156 0 [.ref a, .int x0] [] h (fun s1 h1 => jx_Go jxP (d + 1) 180 48 [l0, l1, l2, l3, l4, l5, l6] (s1 ++ st) h1 Q)) := jg_callV (as := [.int x0, .ref a]) rfl rfl rfl rfl rfl
theorem s180_48 : jx_Go jxP d 180 48 [l0, l1, l2, l3, l4, l5, l6] (.int x :: st) h Q ↔ if x = 0 then jx_Go jxP d 180 108 [l0, l1, l2, l3, l4, l5, l6] st h Q else jx_Go jxP d 180 51 [l0, l1, l2, l3, l4, l5, l6] st h Q := jg_ifP rfl rfl
theorem s180_51 : jx_Go jxP d 180 51 [.ref a, l1, l2, l3, l4, l5, l6] st h Q ↔ jx_Go jxP d 180 52 [.ref a, l1, l2, l3, l4, l5, l6] (.ref a :: st) h Q := jg_al rfl rfl
theorem s180_52 : jx_Go jxP d 180 52 [l0, l1, l2, l3, l4, l5, l6] (.ref a :: st) h Q ↔ ∃ v, jx_fl h a 12 32 = some v ∧ jx_Go jxP d 180 55 [l0, l1, l2, l3, l4, l5, l6] (v :: st) h Q := jg_gf rfl
theorem s180_55 : jx_Go jxP d 180 55 [l0, .int x, l2, l3, l4, l5, l6] st h Q ↔ jx_Go jxP d 180 56 [l0, .int x, l2, l3, l4, l5, l6] (.int x :: st) h Q := jg_il rfl rfl
theorem s180_56 : jx_Go jxP d 180 56 [l0, l1, l2, l3, l4, l5, l6] st h Q ↔ jx_Go jxP d 180 57 [l0, l1, l2, l3, l4, l5, l6] (.int (nI 0) :: st) h Q := jg_c rfl
theorem s180_57 : jx_Go jxP d 180 57 [l0, l1, l2, l3, l4, l5, l6] (.int y :: .int x :: .ref a :: st) h Q ↔ ∃ q, jx_ai h a = some q ∧ jx_in x q.1 ∧ jx_Go jxP d 180 58 [l0, l1, l2, l3, l4, l5, l6] st (jx_wi h a q.1 (upd q.2 x.toNatClampNeg y)) Q := jg_iw rfl
theorem s180_58 : jx_Go jxP d 180 58 [l0, l1, l2, l3, l4, l5, l6] st h Q ↔ jx_Go jxP d 180 59 [l0, l1, l2, l3, l4, l5, l6] (.int (nI 0) :: st) h Q := jg_c rfl
theorem s180_59 : jx_Go jxP d 180 59 [l0, l1, l2, l3, l4, l5, l6] (.int x :: st) h Q ↔ jx_Go jxP d 180 60 [l0, l1, l2, .int x, l4, l5, l6] st h Q := jg_is rfl rfl
theorem s180_60 : jx_Go jxP d 180 60 [l0, l1, l2, .int x, l4, l5, l6] st h Q ↔ jx_Go jxP d 180 61 [l0, l1, l2, .int x, l4, l5, l6] (.int x :: st) h Q := jg_il rfl rfl
theorem s180_61 : jx_Go jxP d 180 61 [.ref a, l1, l2, l3, l4, l5, l6] st h Q ↔ jx_Go jxP d 180 62 [.ref a, l1, l2, l3, l4, l5, l6] (.ref a :: st) h Q := jg_al rfl rfl
theorem s180_62 : jx_Go jxP d 180 62 [l0, l1, l2, l3, l4, l5, l6] (.ref a :: st) h Q ↔ ∃ v, jx_fl h a 12 0 = some v ∧ jx_Go jxP d 180 65 [l0, l1, l2, l3, l4, l5, l6] (v :: st) h Q := jg_gf rfl
theorem s180_65 : jx_Go jxP d 180 65 [l0, l1, l2, l3, l4, l5, l6] (.int y :: .int x :: st) h Q ↔ if y ≤ x then jx_Go jxP d 180 105 [l0, l1, l2, l3, l4, l5, l6] st h Q else jx_Go jxP d 180 68 [l0, l1, l2, l3, l4, l5, l6] st h Q := jg_icP rfl rfl
theorem s180_68 : jx_Go jxP d 180 68 [.ref a, l1, l2, l3, l4, l5, l6] st h Q ↔ jx_Go jxP d 180 69 [.ref a, l1, l2, l3, l4, l5, l6] (.ref a :: st) h Q := jg_al rfl rfl
theorem s180_69 : jx_Go jxP d 180 69 [l0, l1, l2, l3, l4, l5, l6] (.ref a :: st) h Q ↔ ∃ v, jx_fl h a 12 32 = some v ∧ jx_Go jxP d 180 72 [l0, l1, l2, l3, l4, l5, l6] (v :: st) h Q := jg_gf rfl
theorem s180_72 : jx_Go jxP d 180 72 [l0, .int x, l2, l3, l4, l5, l6] st h Q ↔ jx_Go jxP d 180 73 [l0, .int x, l2, l3, l4, l5, l6] (.int x :: st) h Q := jg_il rfl rfl
theorem s180_73 : jx_Go jxP d 180 73 [l0, l1, l2, l3, l4, l5, l6] (.int x :: .ref a :: st) h Q ↔ jx_Go jxP d 180 74 [l0, l1, l2, l3, l4, l5, l6] (.int x :: .ref a :: .int x :: .ref a :: st) h Q := jg_d2 rfl
theorem s180_74 : jx_Go jxP d 180 74 [l0, l1, l2, l3, l4, l5, l6] (.int x :: .ref a :: st) h Q ↔ ∃ q, jx_ai h a = some q ∧ jx_in x q.1 ∧ jx_Go jxP d 180 75 [l0, l1, l2, l3, l4, l5, l6] (.int (q.2 x.toNatClampNeg) :: st) h Q := jg_ia rfl
theorem s180_75 : jx_Go jxP d 180 75 [l0, l1, .int x, l3, l4, l5, l6] st h Q ↔ jx_Go jxP d 180 76 [l0, l1, .int x, l3, l4, l5, l6] (.int x :: st) h Q := jg_il rfl rfl
theorem s180_76 : jx_Go jxP d 180 76 [l0, l1, l2, l3, l4, l5, l6] st h Q ↔ jx_Go jxP d 180 77 [l0, l1, l2, l3, l4, l5, l6] (.int (nI 5) :: st) h Q := jg_c rfl
theorem s180_77 : jx_Go jxP d 180 77 [l0, l1, l2, l3, l4, l5, l6] (.int y :: .int x :: st) h Q ↔ jx_Go jxP d 180 78 [l0, l1, l2, l3, l4, l5, l6] (.int (x >>> (y &&& 31)) :: st) h Q := jg_b (f := fun x y => x >>> (y &&& 31)) rfl
theorem s180_78 : jx_Go jxP d 180 78 [l0, l1, l2, .int x, l4, l5, l6] st h Q ↔ jx_Go jxP d 180 79 [l0, l1, l2, .int x, l4, l5, l6] (.int x :: st) h Q := jg_il rfl rfl
theorem s180_79 : jx_Go jxP (d + 1) 180 79 [l0, l1, l2, l3, l4, l5, l6] (.int x1 :: .int x0 :: st) h Q ↔ (st.length ≤ 4 ∧ jx_Go jxP d 132 0 [.int x0, .int x1] [] h (fun s1 h1 => jx_Go jxP (d + 1) 180 82 [l0, l1, l2, l3, l4, l5, l6] (s1 ++ st) h1 Q)) := jg_callS (as := [.int x1, .int x0]) rfl rfl rfl rfl
theorem s180_82 : jx_Go jxP d 180 82 [l0, l1, l2, l3, l4, l5, l6] (.int x :: st) h Q ↔ if x = 0 then jx_Go jxP d 180 96 [l0, l1, l2, l3, l4, l5, l6] st h Q else jx_Go jxP d 180 85 [l0, l1, l2, l3, l4, l5, l6] st h Q := jg_ifP rfl rfl
theorem s180_85 : jx_Go jxP d 180 85 [l0, l1, .int x, l3, l4, l5, l6] st h Q ↔ jx_Go jxP d 180 86 [l0, l1, .int x, l3, l4, l5, l6] (.int x :: st) h Q := jg_il rfl rfl
theorem s180_86 : jx_Go jxP d 180 86 [l0, l1, l2, l3, l4, l5, l6] st h Q ↔ jx_Go jxP d 180 88 [l0, l1, l2, l3, l4, l5, l6] (.int (nI 31) :: st) h Q := jg_c rfl
theorem s180_88 : jx_Go jxP d 180 88 [l0, l1, l2, l3, l4, l5, l6] (.int y :: .int x :: st) h Q ↔ jx_Go jxP d 180 89 [l0, l1, l2, l3, l4, l5, l6] (.int (x &&& y) :: st) h Q := jg_b (f := fun x y => x &&& y) rfl
theorem s180_89 : jx_Go jxP d 180 89 [l0, l1, l2, l3, l4, l5, l6] st h Q ↔ jx_Go jxP d 180 90 [l0, l1, l2, l3, l4, l5, l6] (.int (nI 4) :: st) h Q := jg_c rfl
theorem s180_90 : jx_Go jxP d 180 90 [l0, l1, l2, .int x, l4, l5, l6] st h Q ↔ jx_Go jxP d 180 91 [l0, l1, l2, .int x, l4, l5, l6] (.int x :: st) h Q := jg_il rfl rfl
theorem s180_91 : jx_Go jxP d 180 91 [l0, l1, l2, l3, l4, l5, l6] (.int y :: .int x :: st) h Q ↔ jx_Go jxP d 180 92 [l0, l1, l2, l3, l4, l5, l6] (.int (x * y) :: st) h Q := jg_b (f := fun x y => x * y) rfl
theorem s180_92 : jx_Go jxP d 180 92 [l0, l1, l2, l3, l4, l5, l6] (.int y :: .int x :: st) h Q ↔ jx_Go jxP d 180 93 [l0, l1, l2, l3, l4, l5, l6] (.int (x <<< (y &&& 31)) :: st) h Q := jg_b (f := fun x y => x <<< (y &&& 31)) rfl
theorem s180_93 : jx_Go jxP d 180 93 [l0, l1, l2, l3, l4, l5, l6] st h Q ↔ jx_Go jxP d 180 97 [l0, l1, l2, l3, l4, l5, l6] st h Q := jg_go rfl
theorem s180_96 : jx_Go jxP d 180 96 [l0, l1, l2, l3, l4, l5, l6] st h Q ↔ jx_Go jxP d 180 97 [l0, l1, l2, l3, l4, l5, l6] (.int (nI 0) :: st) h Q := jg_c rfl
theorem s180_97 : jx_Go jxP d 180 97 [l0, l1, l2, l3, l4, l5, l6] (.int y :: .int x :: st) h Q ↔ jx_Go jxP d 180 98 [l0, l1, l2, l3, l4, l5, l6] (.int (x ||| y) :: st) h Q := jg_b (f := fun x y => x ||| y) rfl
theorem s180_98 : jx_Go jxP d 180 98 [l0, l1, l2, l3, l4, l5, l6] (.int y :: .int x :: .ref a :: st) h Q ↔ ∃ q, jx_ai h a = some q ∧ jx_in x q.1 ∧ jx_Go jxP d 180 99 [l0, l1, l2, l3, l4, l5, l6] st (jx_wi h a q.1 (upd q.2 x.toNatClampNeg y)) Q := jg_iw rfl
theorem s180_99 : jx_Go jxP d 180 99 [l0, l1, l2, .int x, l4, l5, l6] st h Q ↔ jx_Go jxP d 180 102 [l0, l1, l2, .int (x + (nI 1)), l4, l5, l6] st h Q := jg_inc rfl rfl rfl
theorem s180_102 : jx_Go jxP d 180 102 [l0, l1, l2, l3, l4, l5, l6] st h Q ↔ jx_Go jxP d 180 60 [l0, l1, l2, l3, l4, l5, l6] st h Q := jg_go rfl
theorem s180_105 : jx_Go jxP d 180 105 [l0, .int x, l2, l3, l4, l5, l6] st h Q ↔ jx_Go jxP d 180 108 [l0, .int (x + (nI 1)), l2, l3, l4, l5, l6] st h Q := jg_inc rfl rfl rfl
theorem s180_108 : jx_Go jxP d 180 108 [l0, l1, .int x, l3, l4, l5, l6] st h Q ↔ jx_Go jxP d 180 111 [l0, l1, .int (x + (nI 1)), l3, l4, l5, l6] st h Q := jg_inc rfl rfl rfl
theorem s180_111 : jx_Go jxP d 180 111 [l0, l1, l2, l3, l4, l5, l6] st h Q ↔ jx_Go jxP d 180 27 [l0, l1, l2, l3, l4, l5, l6] st h Q := jg_go rfl
theorem s180_114 : jx_Go jxP d 180 114 [l0, l1, l2, l3, l4, l5, l6] st h Q ↔ jx_Go jxP d 180 115 [l0, l1, l2, l3, l4, l5, l6] (.int (nI 0) :: st) h Q := jg_c rfl
theorem s180_115 : jx_Go jxP d 180 115 [l0, l1, l2, l3, l4, l5, l6] (.int x :: st) h Q ↔ jx_Go jxP d 180 116 [l0, l1, .int x, l3, l4, l5, l6] st h Q := jg_is rfl rfl
theorem s180_116 : jx_Go jxP d 180 116 [l0, l1, l2, l3, l4, l5, l6] st h Q ↔ jx_Go jxP d 180 117 [l0, l1, l2, l3, l4, l5, l6] (.int (nI 0) :: st) h Q := jg_c rfl
theorem s180_117 : jx_Go jxP d 180 117 [l0, l1, l2, l3, l4, l5, l6] (.int x :: st) h Q ↔ jx_Go jxP d 180 118 [l0, l1, l2, .int x, l4, l5, l6] st h Q := jg_is rfl rfl
theorem s180_118 : jx_Go jxP d 180 118 [l0, l1, l2, .int x, l4, l5, l6] st h Q ↔ jx_Go jxP d 180 119 [l0, l1, l2, .int x, l4, l5, l6] (.int x :: st) h Q := jg_il rfl rfl
theorem s180_119 : jx_Go jxP d 180 119 [.ref a, l1, l2, l3, l4, l5, l6] st h Q ↔ jx_Go jxP d 180 120 [.ref a, l1, l2, l3, l4, l5, l6] (.ref a :: st) h Q := jg_al rfl rfl
theorem s180_120 : jx_Go jxP d 180 120 [l0, l1, l2, l3, l4, l5, l6] (.ref a :: st) h Q ↔ ∃ v, jx_fl h a 12 0 = some v ∧ jx_Go jxP d 180 123 [l0, l1, l2, l3, l4, l5, l6] (v :: st) h Q := jg_gf rfl
theorem s180_123 : jx_Go jxP d 180 123 [l0, l1, l2, l3, l4, l5, l6] (.int y :: .int x :: st) h Q ↔ if y ≤ x then jx_Go jxP d 180 147 [l0, l1, l2, l3, l4, l5, l6] st h Q else jx_Go jxP d 180 126 [l0, l1, l2, l3, l4, l5, l6] st h Q := jg_icP rfl rfl
theorem s180_126 : jx_Go jxP d 180 126 [l0, l1, .int x, l3, l4, l5, l6] st h Q ↔ jx_Go jxP d 180 127 [l0, l1, .int x, l3, l4, l5, l6] (.int x :: st) h Q := jg_il rfl rfl
theorem s180_127 : jx_Go jxP d 180 127 [l0, l1, l2, l3, l4, l5, l6] st h Q ↔ jx_Go jxP d 180 128 [l0, l1, l2, l3, l4, l5, l6] (.int (nI 1) :: st) h Q := jg_c rfl
theorem s180_128 : jx_Go jxP d 180 128 [.ref a, l1, l2, l3, l4, l5, l6] st h Q ↔ jx_Go jxP d 180 129 [.ref a, l1, l2, l3, l4, l5, l6] (.ref a :: st) h Q := jg_al rfl rfl
theorem s180_129 : jx_Go jxP d 180 129 [l0, l1, l2, l3, l4, l5, l6] (.ref a :: st) h Q ↔ ∃ v, jx_fl h a 12 1 = some v ∧ jx_Go jxP d 180 132 [l0, l1, l2, l3, l4, l5, l6] (v :: st) h Q := jg_gf rfl
theorem s180_132 : jx_Go jxP d 180 132 [l0, l1, l2, l3, l4, l5, l6] (.int y :: .int x :: st) h Q ↔ jx_Go jxP d 180 133 [l0, l1, l2, l3, l4, l5, l6] (.int (x <<< (y &&& 31)) :: st) h Q := jg_b (f := fun x y => x <<< (y &&& 31)) rfl
theorem s180_133 : jx_Go jxP d 180 133 [l0, l1, l2, l3, l4, l5, l6] st h Q ↔ jx_Go jxP d 180 134 [l0, l1, l2, l3, l4, l5, l6] (.int (nI 1) :: st) h Q := jg_c rfl
theorem s180_134 : jx_Go jxP d 180 134 [l0, l1, l2, l3, l4, l5, l6] (.int y :: .int x :: st) h Q ↔ jx_Go jxP d 180 135 [l0, l1, l2, l3, l4, l5, l6] (.int (x - y) :: st) h Q := jg_b (f := fun x y => x - y) rfl
theorem s180_135 : jx_Go jxP d 180 135 [l0, l1, l2, l3, l4, l5, l6] st h Q ↔ jx_Go jxP d 180 136 [l0, l1, l2, l3, l4, l5, l6] (.int (nI 4) :: st) h Q := jg_c rfl
theorem s180_136 : jx_Go jxP d 180 136 [l0, l1, l2, .int x, l4, l5, l6] st h Q ↔ jx_Go jxP d 180 137 [l0, l1, l2, .int x, l4, l5, l6] (.int x :: st) h Q := jg_il rfl rfl
theorem s180_137 : jx_Go jxP d 180 137 [l0, l1, l2, l3, l4, l5, l6] (.int y :: .int x :: st) h Q ↔ jx_Go jxP d 180 138 [l0, l1, l2, l3, l4, l5, l6] (.int (x * y) :: st) h Q := jg_b (f := fun x y => x * y) rfl
theorem s180_138 : jx_Go jxP d 180 138 [l0, l1, l2, l3, l4, l5, l6] (.int y :: .int x :: st) h Q ↔ jx_Go jxP d 180 139 [l0, l1, l2, l3, l4, l5, l6] (.int (x <<< (y &&& 31)) :: st) h Q := jg_b (f := fun x y => x <<< (y &&& 31)) rfl
theorem s180_139 : jx_Go jxP d 180 139 [l0, l1, l2, l3, l4, l5, l6] (.int y :: .int x :: st) h Q ↔ jx_Go jxP d 180 140 [l0, l1, l2, l3, l4, l5, l6] (.int (x ||| y) :: st) h Q := jg_b (f := fun x y => x ||| y) rfl
theorem s180_140 : jx_Go jxP d 180 140 [l0, l1, l2, l3, l4, l5, l6] (.int x :: st) h Q ↔ jx_Go jxP d 180 141 [l0, l1, .int x, l3, l4, l5, l6] st h Q := jg_is rfl rfl
theorem s180_141 : jx_Go jxP d 180 141 [l0, l1, l2, .int x, l4, l5, l6] st h Q ↔ jx_Go jxP d 180 144 [l0, l1, l2, .int (x + (nI 1)), l4, l5, l6] st h Q := jg_inc rfl rfl rfl
theorem s180_144 : jx_Go jxP d 180 144 [l0, l1, l2, l3, l4, l5, l6] st h Q ↔ jx_Go jxP d 180 118 [l0, l1, l2, l3, l4, l5, l6] st h Q := jg_go rfl
theorem s180_147 : jx_Go jxP d 180 147 [l0, l1, .int x, l3, l4, l5, l6] st h Q ↔ jx_Go jxP d 180 148 [l0, l1, .int x, l3, l4, l5, l6] (.int x :: st) h Q := jg_il rfl rfl
theorem s180_148 : jx_Go jxP d 180 148 [l0, l1, l2, l3, l4, l5, l6] (.int x :: st) h Q ↔ jx_Go jxP d 180 149 [l0, l1, l2, .int x, l4, l5, l6] st h Q := jg_is rfl rfl
theorem s180_149 : jx_Go jxP d 180 149 [l0, l1, l2, .int x, l4, l5, l6] st h Q ↔ jx_Go jxP d 180 150 [l0, l1, l2, .int x, l4, l5, l6] (.int x :: st) h Q := jg_il rfl rfl
theorem s180_150 : jx_Go jxP d 180 150 [l0, l1, l2, l3, l4, l5, l6] (.int x :: st) h Q ↔ if x < 0 then jx_Go jxP d 180 302 [l0, l1, l2, l3, l4, l5, l6] st h Q else jx_Go jxP d 180 153 [l0, l1, l2, l3, l4, l5, l6] st h Q := jg_ifP rfl rfl
theorem s180_153 : jx_Go jxP d 180 153 [l0, l1, l2, .int x, l4, l5, l6] st h Q ↔ jx_Go jxP d 180 154 [l0, l1, l2, .int x, l4, l5, l6] (.int x :: st) h Q := jg_il rfl rfl
theorem s180_154 : jx_Go jxP d 180 154 [l0, l1, .int x, l3, l4, l5, l6] st h Q ↔ jx_Go jxP d 180 155 [l0, l1, .int x, l3, l4, l5, l6] (.int x :: st) h Q := jg_il rfl rfl
theorem s180_155 : jx_Go jxP d 180 155 [l0, l1, l2, l3, l4, l5, l6] st h Q ↔ jx_Go jxP d 180 156 [l0, l1, l2, l3, l4, l5, l6] (.int (-1) :: st) h Q := jg_c rfl
theorem s180_156 : jx_Go jxP d 180 156 [l0, l1, l2, l3, l4, l5, l6] (.int y :: .int x :: st) h Q ↔ jx_Go jxP d 180 157 [l0, l1, l2, l3, l4, l5, l6] (.int (x ^^^ y) :: st) h Q := jg_b (f := fun x y => x ^^^ y) rfl
theorem s180_157 : jx_Go jxP d 180 157 [l0, l1, l2, l3, l4, l5, l6] (.int y :: .int x :: st) h Q ↔ jx_Go jxP d 180 158 [l0, l1, l2, l3, l4, l5, l6] (.int (x &&& y) :: st) h Q := jg_b (f := fun x y => x &&& y) rfl
theorem s180_158 : jx_Go jxP d 180 158 [l0, l1, l2, l3, l4, l5, l6] (.int x :: st) h Q ↔ if x = 0 then jx_Go jxP d 180 164 [l0, l1, l2, l3, l4, l5, l6] st h Q else jx_Go jxP d 180 161 [l0, l1, l2, l3, l4, l5, l6] st h Q := jg_ifP rfl rfl
theorem s180_161 : jx_Go jxP d 180 161 [l0, l1, l2, l3, l4, l5, l6] st h Q ↔ jx_Go jxP d 180 296 [l0, l1, l2, l3, l4, l5, l6] st h Q := jg_go rfl
theorem s180_164 : jx_Go jxP d 180 164 [l0, l1, .int x, l3, l4, l5, l6] st h Q ↔ jx_Go jxP d 180 165 [l0, l1, .int x, l3, l4, l5, l6] (.int x :: st) h Q := jg_il rfl rfl
theorem s180_165 : jx_Go jxP d 180 165 [l0, l1, l2, .int x, l4, l5, l6] st h Q ↔ jx_Go jxP d 180 166 [l0, l1, l2, .int x, l4, l5, l6] (.int x :: st) h Q := jg_il rfl rfl
theorem s180_166 : jx_Go jxP d 180 166 [l0, l1, l2, l3, l4, l5, l6] st h Q ↔ jx_Go jxP d 180 167 [l0, l1, l2, l3, l4, l5, l6] (.int (-1) :: st) h Q := jg_c rfl
theorem s180_167 : jx_Go jxP d 180 167 [l0, l1, l2, l3, l4, l5, l6] (.int y :: .int x :: st) h Q ↔ jx_Go jxP d 180 168 [l0, l1, l2, l3, l4, l5, l6] (.int (x ^^^ y) :: st) h Q := jg_b (f := fun x y => x ^^^ y) rfl
theorem s180_168 : jx_Go jxP d 180 168 [l0, l1, l2, l3, l4, l5, l6] (.int y :: .int x :: st) h Q ↔ jx_Go jxP d 180 169 [l0, l1, l2, l3, l4, l5, l6] (.int (x &&& y) :: st) h Q := jg_b (f := fun x y => x &&& y) rfl
theorem s180_169 : jx_Go jxP d 180 169 [l0, l1, l2, l3, l4, l5, l6] (.int x :: st) h Q ↔ jx_Go jxP d 180 171 [l0, l1, l2, l3, .int x, l5, l6] st h Q := jg_is rfl rfl
theorem s180_171 : jx_Go jxP d 180 171 [.ref a, l1, l2, l3, l4, l5, l6] st h Q ↔ jx_Go jxP d 180 172 [.ref a, l1, l2, l3, l4, l5, l6] (.ref a :: st) h Q := jg_al rfl rfl
theorem s180_172 : jx_Go jxP d 180 172 [l0, l1, l2, l3, l4, l5, l6] (.ref a :: st) h Q ↔ ∃ v, jx_fl h a 12 31 = some v ∧ jx_Go jxP d 180 175 [l0, l1, l2, l3, l4, l5, l6] (v :: st) h Q := jg_gf rfl
theorem s180_175 : jx_Go jxP d 180 175 [l0, l1, l2, .int x, l4, l5, l6] st h Q ↔ jx_Go jxP d 180 176 [l0, l1, l2, .int x, l4, l5, l6] (.int x :: st) h Q := jg_il rfl rfl
theorem s180_176 : jx_Go jxP d 180 176 [l0, l1, l2, l3, .int x, l5, l6] st h Q ↔ jx_Go jxP d 180 178 [l0, l1, l2, l3, .int x, l5, l6] (.int x :: st) h Q := jg_il rfl rfl
theorem s180_178 : jx_Go jxP d 180 178 [l0, l1, l2, l3, l4, l5, l6] (.int x :: st) h Q ↔ if x = 0 then jx_Go jxP d 180 181 [l0, l1, l2, l3, l4, l5, l6] st h Q else jx_Go jxP d 180 185 [l0, l1, l2, l3, l4, l5, l6] st h Q := jg_ifN rfl rfl
theorem s180_181 : jx_Go jxP d 180 181 [l0, l1, l2, l3, l4, l5, l6] st h Q ↔ jx_Go jxP d 180 182 [l0, l1, l2, l3, l4, l5, l6] (.int (nI 0) :: st) h Q := jg_c rfl
theorem s180_182 : jx_Go jxP d 180 182 [l0, l1, l2, l3, l4, l5, l6] st h Q ↔ jx_Go jxP d 180 187 [l0, l1, l2, l3, l4, l5, l6] st h Q := jg_go rfl
theorem s180_185 : jx_Go jxP d 180 185 [l0, l1, l2, l3, l4, l5, l6] st h Q ↔ jx_Go jxP d 180 187 [l0, l1, l2, l3, l4, l5, l6] (.int (nI 100) :: st) h Q := jg_c rfl
theorem s180_187 : jx_Go jxP d 180 187 [l0, l1, l2, l3, l4, l5, l6] (.int y :: .int x :: .ref a :: st) h Q ↔ ∃ q, jx_ai h a = some q ∧ jx_in x q.1 ∧ jx_Go jxP d 180 188 [l0, l1, l2, l3, l4, l5, l6] st (jx_wi h a q.1 (upd q.2 x.toNatClampNeg y)) Q := jg_iw rfl
theorem s180_188 : jx_Go jxP d 180 188 [l0, l1, l2, l3, l4, l5, l6] st h Q ↔ jx_Go jxP d 180 189 [l0, l1, l2, l3, l4, l5, l6] (.int (nI 0) :: st) h Q := jg_c rfl
theorem s180_189 : jx_Go jxP d 180 189 [l0, l1, l2, l3, l4, l5, l6] (.int x :: st) h Q ↔ jx_Go jxP d 180 191 [l0, l1, l2, l3, l4, .int x, l6] st h Q := jg_is rfl rfl
theorem s180_191 : jx_Go jxP d 180 191 [l0, l1, l2, l3, l4, .int x, l6] st h Q ↔ jx_Go jxP d 180 193 [l0, l1, l2, l3, l4, .int x, l6] (.int x :: st) h Q := jg_il rfl rfl
theorem s180_193 : jx_Go jxP d 180 193 [l0, .int x, l2, l3, l4, l5, l6] st h Q ↔ jx_Go jxP d 180 194 [l0, .int x, l2, l3, l4, l5, l6] (.int x :: st) h Q := jg_il rfl rfl
theorem s180_194 : jx_Go jxP d 180 194 [l0, l1, l2, l3, l4, l5, l6] (.int y :: .int x :: st) h Q ↔ if y ≤ x then jx_Go jxP d 180 296 [l0, l1, l2, l3, l4, l5, l6] st h Q else jx_Go jxP d 180 197 [l0, l1, l2, l3, l4, l5, l6] st h Q := jg_icP rfl rfl
theorem s180_197 : jx_Go jxP d 180 197 [l0, l1, l2, l3, .int x, l5, l6] st h Q ↔ jx_Go jxP d 180 199 [l0, l1, l2, l3, .int x, l5, l6] (.int x :: st) h Q := jg_il rfl rfl
theorem s180_199 : jx_Go jxP d 180 199 [l0, l1, l2, l3, l4, l5, l6] (.int x :: st) h Q ↔ if x = 0 then jx_Go jxP d 180 296 [l0, l1, l2, l3, l4, l5, l6] st h Q else jx_Go jxP d 180 202 [l0, l1, l2, l3, l4, l5, l6] st h Q := jg_ifP rfl rfl
theorem s180_202 : jx_Go jxP d 180 202 [.ref a, l1, l2, l3, l4, l5, l6] st h Q ↔ jx_Go jxP d 180 203 [.ref a, l1, l2, l3, l4, l5, l6] (.ref a :: st) h Q := jg_al rfl rfl
theorem s180_203 : jx_Go jxP d 180 203 [l0, l1, l2, l3, l4, l5, l6] (.ref a :: st) h Q ↔ ∃ v, jx_fl h a 12 32 = some v ∧ jx_Go jxP d 180 206 [l0, l1, l2, l3, l4, l5, l6] (v :: st) h Q := jg_gf rfl
theorem s180_206 : jx_Go jxP d 180 206 [l0, l1, l2, l3, l4, .int x, l6] st h Q ↔ jx_Go jxP d 180 208 [l0, l1, l2, l3, l4, .int x, l6] (.int x :: st) h Q := jg_il rfl rfl
theorem s180_208 : jx_Go jxP d 180 208 [l0, l1, l2, l3, l4, l5, l6] (.int x :: .ref a :: st) h Q ↔ ∃ q, jx_ai h a = some q ∧ jx_in x q.1 ∧ jx_Go jxP d 180 209 [l0, l1, l2, l3, l4, l5, l6] (.int (q.2 x.toNatClampNeg) :: st) h Q := jg_ia rfl
theorem s180_209 : jx_Go jxP d 180 209 [l0, l1, l2, .int x, l4, l5, l6] st h Q ↔ jx_Go jxP d 180 210 [l0, l1, l2, .int x, l4, l5, l6] (.int x :: st) h Q := jg_il rfl rfl
theorem s180_210 : jx_Go jxP d 180 210 [l0, l1, l2, l3, l4, l5, l6] (.int y :: .int x :: st) h Q ↔ jx_Go jxP d 180 211 [l0, l1, l2, l3, l4, l5, l6] (.int (x &&& y) :: st) h Q := jg_b (f := fun x y => x &&& y) rfl
theorem s180_211 : jx_Go jxP d 180 211 [l0, l1, l2, l3, l4, l5, l6] (.int x :: st) h Q ↔ if x = 0 then jx_Go jxP d 180 214 [l0, l1, l2, l3, l4, l5, l6] st h Q else jx_Go jxP d 180 235 [l0, l1, l2, l3, l4, l5, l6] st h Q := jg_ifN rfl rfl
theorem s180_214 : jx_Go jxP d 180 214 [.ref a, l1, l2, l3, l4, l5, l6] st h Q ↔ jx_Go jxP d 180 215 [.ref a, l1, l2, l3, l4, l5, l6] (.ref a :: st) h Q := jg_al rfl rfl
theorem s180_215 : jx_Go jxP d 180 215 [l0, l1, l2, l3, l4, l5, l6] (.ref a :: st) h Q ↔ ∃ v, jx_fl h a 12 32 = some v ∧ jx_Go jxP d 180 218 [l0, l1, l2, l3, l4, l5, l6] (v :: st) h Q := jg_gf rfl
theorem s180_218 : jx_Go jxP d 180 218 [l0, l1, l2, l3, l4, .int x, l6] st h Q ↔ jx_Go jxP d 180 220 [l0, l1, l2, l3, l4, .int x, l6] (.int x :: st) h Q := jg_il rfl rfl
theorem s180_220 : jx_Go jxP d 180 220 [l0, l1, l2, l3, l4, l5, l6] (.int x :: .ref a :: st) h Q ↔ ∃ q, jx_ai h a = some q ∧ jx_in x q.1 ∧ jx_Go jxP d 180 221 [l0, l1, l2, l3, l4, l5, l6] (.int (q.2 x.toNatClampNeg) :: st) h Q := jg_ia rfl
theorem s180_221 : jx_Go jxP d 180 221 [l0, l1, l2, l3, .int x, l5, l6] st h Q ↔ jx_Go jxP d 180 223 [l0, l1, l2, l3, .int x, l5, l6] (.int x :: st) h Q := jg_il rfl rfl
theorem s180_223 : jx_Go jxP d 180 223 [l0, l1, l2, l3, .int x, l5, l6] st h Q ↔ jx_Go jxP d 180 225 [l0, l1, l2, l3, .int x, l5, l6] (.int x :: st) h Q := jg_il rfl rfl
theorem s180_225 : jx_Go jxP d 180 225 [l0, l1, l2, l3, l4, l5, l6] (.int x :: st) h Q ↔ jx_Go jxP d 180 226 [l0, l1, l2, l3, l4, l5, l6] (.int (-x) :: st) h Q := jg_1 (f := fun x => -x) rfl
theorem s180_226 : jx_Go jxP d 180 226 [l0, l1, l2, l3, l4, l5, l6] (.int y :: .int x :: st) h Q ↔ jx_Go jxP d 180 227 [l0, l1, l2, l3, l4, l5, l6] (.int (x &&& y) :: st) h Q := jg_b (f := fun x y => x &&& y) rfl
theorem s180_227 : jx_Go jxP d 180 227 [l0, l1, l2, l3, l4, l5, l6] (.int y :: .int x :: st) h Q ↔ jx_Go jxP d 180 228 [l0, l1, l2, l3, l4, l5, l6] (.int (x &&& y) :: st) h Q := jg_b (f := fun x y => x &&& y) rfl
theorem s180_228 : jx_Go jxP d 180 228 [l0, l1, l2, l3, l4, l5, l6] (.int x :: st) h Q ↔ if x = 0 then jx_Go jxP d 180 235 [l0, l1, l2, l3, l4, l5, l6] st h Q else jx_Go jxP d 180 231 [l0, l1, l2, l3, l4, l5, l6] st h Q := jg_ifP rfl rfl
theorem s180_231 : jx_Go jxP d 180 231 [l0, l1, l2, l3, l4, l5, l6] st h Q ↔ jx_Go jxP d 180 232 [l0, l1, l2, l3, l4, l5, l6] (.int (nI 1) :: st) h Q := jg_c rfl
theorem s180_232 : jx_Go jxP d 180 232 [l0, l1, l2, l3, l4, l5, l6] st h Q ↔ jx_Go jxP d 180 236 [l0, l1, l2, l3, l4, l5, l6] st h Q := jg_go rfl
theorem s180_235 : jx_Go jxP d 180 235 [l0, l1, l2, l3, l4, l5, l6] st h Q ↔ jx_Go jxP d 180 236 [l0, l1, l2, l3, l4, l5, l6] (.int (nI 0) :: st) h Q := jg_c rfl
theorem s180_236 : jx_Go jxP d 180 236 [l0, l1, l2, l3, l4, l5, l6] (.int x :: st) h Q ↔ jx_Go jxP d 180 238 [l0, l1, l2, l3, l4, l5, .int x] st h Q := jg_is rfl rfl
theorem s180_238 : jx_Go jxP d 180 238 [l0, l1, l2, l3, l4, l5, .int x] st h Q ↔ jx_Go jxP d 180 240 [l0, l1, l2, l3, l4, l5, .int x] (.int x :: st) h Q := jg_il rfl rfl
theorem s180_240 : jx_Go jxP d 180 240 [l0, l1, l2, l3, l4, l5, l6] (.int x :: st) h Q ↔ if x = 0 then jx_Go jxP d 180 290 [l0, l1, l2, l3, l4, l5, l6] st h Q else jx_Go jxP d 180 243 [l0, l1, l2, l3, l4, l5, l6] st h Q := jg_ifP rfl rfl
theorem s180_243 : jx_Go jxP d 180 243 [l0, l1, l2, l3, l4, l5, l6] st h Q ↔ jx_Go jxP d 180 244 [l0, l1, l2, l3, l4, l5, l6] (.int (nI 1) :: st) h Q := jg_c rfl
theorem s180_244 : jx_Go jxP d 180 244 [.ref a, l1, l2, l3, l4, l5, l6] st h Q ↔ jx_Go jxP d 180 245 [.ref a, l1, l2, l3, l4, l5, l6] (.ref a :: st) h Q := jg_al rfl rfl
theorem s180_245 : jx_Go jxP d 180 245 [l0, l1, l2, l3, l4, l5, l6] (.ref a :: st) h Q ↔ ∃ v, jx_fl h a 12 31 = some v ∧ jx_Go jxP d 180 248 [l0, l1, l2, l3, l4, l5, l6] (v :: st) h Q := jg_gf rfl
theorem s180_248 : jx_Go jxP d 180 248 [l0, l1, l2, .int x, l4, l5, l6] st h Q ↔ jx_Go jxP d 180 249 [l0, l1, l2, .int x, l4, l5, l6] (.int x :: st) h Q := jg_il rfl rfl
theorem s180_249 : jx_Go jxP d 180 249 [.ref a, l1, l2, l3, l4, l5, l6] st h Q ↔ jx_Go jxP d 180 250 [.ref a, l1, l2, l3, l4, l5, l6] (.ref a :: st) h Q := jg_al rfl rfl
theorem s180_250 : jx_Go jxP d 180 250 [l0, l1, l2, l3, l4, l5, l6] (.ref a :: st) h Q ↔ ∃ v, jx_fl h a 12 32 = some v ∧ jx_Go jxP d 180 253 [l0, l1, l2, l3, l4, l5, l6] (v :: st) h Q := jg_gf rfl
theorem s180_253 : jx_Go jxP d 180 253 [l0, l1, l2, l3, l4, .int x, l6] st h Q ↔ jx_Go jxP d 180 255 [l0, l1, l2, l3, l4, .int x, l6] (.int x :: st) h Q := jg_il rfl rfl
theorem s180_255 : jx_Go jxP d 180 255 [l0, l1, l2, l3, l4, l5, l6] (.int x :: .ref a :: st) h Q ↔ ∃ q, jx_ai h a = some q ∧ jx_in x q.1 ∧ jx_Go jxP d 180 256 [l0, l1, l2, l3, l4, l5, l6] (.int (q.2 x.toNatClampNeg) :: st) h Q := jg_ia rfl
theorem s180_256 : jx_Go jxP d 180 256 [l0, l1, l2, l3, l4, l5, l6] (.int y :: .int x :: st) h Q ↔ jx_Go jxP d 180 257 [l0, l1, l2, l3, l4, l5, l6] (.int (x ||| y) :: st) h Q := jg_b (f := fun x y => x ||| y) rfl
theorem s180_257 : jx_Go jxP d 180 257 [l0, l1, l2, l3, l4, l5, l6] (.int x :: .ref a :: st) h Q ↔ ∃ q, jx_ai h a = some q ∧ jx_in x q.1 ∧ jx_Go jxP d 180 258 [l0, l1, l2, l3, l4, l5, l6] (.int (q.2 x.toNatClampNeg) :: st) h Q := jg_ia rfl
theorem s180_258 : jx_Go jxP d 180 258 [l0, l1, l2, l3, l4, l5, l6] (.int y :: .int x :: st) h Q ↔ jx_Go jxP d 180 259 [l0, l1, l2, l3, l4, l5, l6] (.int (x + y) :: st) h Q := jg_b (f := fun x y => x + y) rfl
theorem s180_259 : jx_Go jxP d 180 259 [.ref a, l1, l2, l3, l4, l5, l6] st h Q ↔ jx_Go jxP d 180 260 [.ref a, l1, l2, l3, l4, l5, l6] (.ref a :: st) h Q := jg_al rfl rfl
theorem s180_260 : jx_Go jxP d 180 260 [l0, l1, l2, l3, l4, l5, l6] (.ref a :: st) h Q ↔ ∃ v, jx_fl h a 12 31 = some v ∧ jx_Go jxP d 180 263 [l0, l1, l2, l3, l4, l5, l6] (v :: st) h Q := jg_gf rfl
theorem s180_263 : jx_Go jxP d 180 263 [l0, l1, l2, .int x, l4, l5, l6] st h Q ↔ jx_Go jxP d 180 264 [l0, l1, l2, .int x, l4, l5, l6] (.int x :: st) h Q := jg_il rfl rfl
theorem s180_264 : jx_Go jxP d 180 264 [l0, l1, l2, l3, l4, l5, l6] (.int x :: .ref a :: st) h Q ↔ ∃ q, jx_ai h a = some q ∧ jx_in x q.1 ∧ jx_Go jxP d 180 265 [l0, l1, l2, l3, l4, l5, l6] (.int (q.2 x.toNatClampNeg) :: st) h Q := jg_ia rfl
theorem s180_265 : jx_Go jxP d 180 265 [l0, l1, l2, l3, l4, l5, l6] (.int y :: .int x :: st) h Q ↔ if y ≤ x then jx_Go jxP d 180 290 [l0, l1, l2, l3, l4, l5, l6] st h Q else jx_Go jxP d 180 268 [l0, l1, l2, l3, l4, l5, l6] st h Q := jg_icP rfl rfl
theorem s180_268 : jx_Go jxP d 180 268 [.ref a, l1, l2, l3, l4, l5, l6] st h Q ↔ jx_Go jxP d 180 269 [.ref a, l1, l2, l3, l4, l5, l6] (.ref a :: st) h Q := jg_al rfl rfl
theorem s180_269 : jx_Go jxP d 180 269 [l0, l1, l2, l3, l4, l5, l6] (.ref a :: st) h Q ↔ ∃ v, jx_fl h a 12 31 = some v ∧ jx_Go jxP d 180 272 [l0, l1, l2, l3, l4, l5, l6] (v :: st) h Q := jg_gf rfl
theorem s180_272 : jx_Go jxP d 180 272 [l0, l1, l2, .int x, l4, l5, l6] st h Q ↔ jx_Go jxP d 180 273 [l0, l1, l2, .int x, l4, l5, l6] (.int x :: st) h Q := jg_il rfl rfl
theorem s180_273 : jx_Go jxP d 180 273 [l0, l1, l2, l3, l4, l5, l6] st h Q ↔ jx_Go jxP d 180 274 [l0, l1, l2, l3, l4, l5, l6] (.int (nI 1) :: st) h Q := jg_c rfl
theorem s180_274 : jx_Go jxP d 180 274 [.ref a, l1, l2, l3, l4, l5, l6] st h Q ↔ jx_Go jxP d 180 275 [.ref a, l1, l2, l3, l4, l5, l6] (.ref a :: st) h Q := jg_al rfl rfl
theorem s180_275 : jx_Go jxP d 180 275 [l0, l1, l2, l3, l4, l5, l6] (.ref a :: st) h Q ↔ ∃ v, jx_fl h a 12 31 = some v ∧ jx_Go jxP d 180 278 [l0, l1, l2, l3, l4, l5, l6] (v :: st) h Q := jg_gf rfl
theorem s180_278 : jx_Go jxP d 180 278 [l0, l1, l2, .int x, l4, l5, l6] st h Q ↔ jx_Go jxP d 180 279 [l0, l1, l2, .int x, l4, l5, l6] (.int x :: st) h Q := jg_il rfl rfl
theorem s180_279 : jx_Go jxP d 180 279 [.ref a, l1, l2, l3, l4, l5, l6] st h Q ↔ jx_Go jxP d 180 280 [.ref a, l1, l2, l3, l4, l5, l6] (.ref a :: st) h Q := jg_al rfl rfl
theorem s180_280 : jx_Go jxP d 180 280 [l0, l1, l2, l3, l4, l5, l6] (.ref a :: st) h Q ↔ ∃ v, jx_fl h a 12 32 = some v ∧ jx_Go jxP d 180 283 [l0, l1, l2, l3, l4, l5, l6] (v :: st) h Q := jg_gf rfl
theorem s180_283 : jx_Go jxP d 180 283 [l0, l1, l2, l3, l4, .int x, l6] st h Q ↔ jx_Go jxP d 180 285 [l0, l1, l2, l3, l4, .int x, l6] (.int x :: st) h Q := jg_il rfl rfl
theorem s180_285 : jx_Go jxP d 180 285 [l0, l1, l2, l3, l4, l5, l6] (.int x :: .ref a :: st) h Q ↔ ∃ q, jx_ai h a = some q ∧ jx_in x q.1 ∧ jx_Go jxP d 180 286 [l0, l1, l2, l3, l4, l5, l6] (.int (q.2 x.toNatClampNeg) :: st) h Q := jg_ia rfl
theorem s180_286 : jx_Go jxP d 180 286 [l0, l1, l2, l3, l4, l5, l6] (.int y :: .int x :: st) h Q ↔ jx_Go jxP d 180 287 [l0, l1, l2, l3, l4, l5, l6] (.int (x ||| y) :: st) h Q := jg_b (f := fun x y => x ||| y) rfl
theorem s180_287 : jx_Go jxP d 180 287 [l0, l1, l2, l3, l4, l5, l6] (.int x :: .ref a :: st) h Q ↔ ∃ q, jx_ai h a = some q ∧ jx_in x q.1 ∧ jx_Go jxP d 180 288 [l0, l1, l2, l3, l4, l5, l6] (.int (q.2 x.toNatClampNeg) :: st) h Q := jg_ia rfl
theorem s180_288 : jx_Go jxP d 180 288 [l0, l1, l2, l3, l4, l5, l6] (.int y :: .int x :: st) h Q ↔ jx_Go jxP d 180 289 [l0, l1, l2, l3, l4, l5, l6] (.int (x + y) :: st) h Q := jg_b (f := fun x y => x + y) rfl
theorem s180_289 : jx_Go jxP d 180 289 [l0, l1, l2, l3, l4, l5, l6] (.int y :: .int x :: .ref a :: st) h Q ↔ ∃ q, jx_ai h a = some q ∧ jx_in x q.1 ∧ jx_Go jxP d 180 290 [l0, l1, l2, l3, l4, l5, l6] st (jx_wi h a q.1 (upd q.2 x.toNatClampNeg y)) Q := jg_iw rfl
theorem s180_290 : jx_Go jxP d 180 290 [l0, l1, l2, l3, l4, .int x, l6] st h Q ↔ jx_Go jxP d 180 293 [l0, l1, l2, l3, l4, .int (x + (nI 1)), l6] st h Q := jg_inc rfl rfl rfl
theorem s180_293 : jx_Go jxP d 180 293 [l0, l1, l2, l3, l4, l5, l6] st h Q ↔ jx_Go jxP d 180 191 [l0, l1, l2, l3, l4, l5, l6] st h Q := jg_go rfl
theorem s180_296 : jx_Go jxP d 180 296 [l0, l1, l2, .int x, l4, l5, l6] st h Q ↔ jx_Go jxP d 180 299 [l0, l1, l2, .int (x + (-1)), l4, l5, l6] st h Q := jg_inc rfl rfl rfl
theorem s180_299 : jx_Go jxP d 180 299 [l0, l1, l2, l3, l4, l5, l6] st h Q ↔ jx_Go jxP d 180 149 [l0, l1, l2, l3, l4, l5, l6] st h Q := jg_go rfl
theorem s180_302 : jx_Go jxP d 180 302 [.ref a, l1, l2, l3, l4, l5, l6] st h Q ↔ jx_Go jxP d 180 303 [.ref a, l1, l2, l3, l4, l5, l6] (.ref a :: st) h Q := jg_al rfl rfl
theorem s180_303 : jx_Go jxP d 180 303 [l0, l1, l2, l3, l4, l5, l6] (.ref a :: st) h Q ↔ ∃ v, jx_fl h a 12 31 = some v ∧ jx_Go jxP d 180 306 [l0, l1, l2, l3, l4, l5, l6] (v :: st) h Q := jg_gf rfl
theorem s180_306 : jx_Go jxP d 180 306 [l0, l1, l2, l3, l4, l5, l6] st h Q ↔ jx_Go jxP d 180 307 [l0, l1, l2, l3, l4, l5, l6] (.int (nI 0) :: st) h Q := jg_c rfl
theorem s180_307 : jx_Go jxP d 180 307 [l0, l1, l2, l3, l4, l5, l6] (.int x :: .ref a :: st) h Q ↔ ∃ q, jx_ai h a = some q ∧ jx_in x q.1 ∧ jx_Go jxP d 180 308 [l0, l1, l2, l3, l4, l5, l6] (.int (q.2 x.toNatClampNeg) :: st) h Q := jg_ia rfl
theorem s180_308 : jx_Go jxP d 180 308 [l0, l1, l2, l3, l4, l5, l6] [.int x] h Q ↔ Q [.int x] h := jx_rt rfl rfl
-- 181 TalkBenchModel.weightOf
theorem s181_0 : jx_Go jxP d 181 0 [l0, l1, l2, l3, l4, l5] st h Q ↔ jx_Go jxP d 181 1 [l0, l1, l2, l3, l4, l5] (.int (nI 0) :: st) h Q := jg_c rfl
theorem s181_1 : jx_Go jxP d 181 1 [l0, l1, l2, l3, l4, l5] (.int x :: st) h Q ↔ jx_Go jxP d 181 2 [l0, l1, l2, .int x, l4, l5] st h Q := jg_is rfl rfl
theorem s181_2 : jx_Go jxP d 181 2 [l0, l1, l2, l3, l4, l5] st h Q ↔ jx_Go jxP d 181 3 [l0, l1, l2, l3, l4, l5] (.int (nI 0) :: st) h Q := jg_c rfl
theorem s181_3 : jx_Go jxP d 181 3 [l0, l1, l2, l3, l4, l5] (.int x :: st) h Q ↔ jx_Go jxP d 181 5 [l0, l1, l2, l3, .int x, l5] st h Q := jg_is rfl rfl
theorem s181_5 : jx_Go jxP d 181 5 [l0, l1, l2, l3, .int x, l5] st h Q ↔ jx_Go jxP d 181 7 [l0, l1, l2, l3, .int x, l5] (.int x :: st) h Q := jg_il rfl rfl
theorem s181_7 : jx_Go jxP d 181 7 [.ref a, l1, l2, l3, l4, l5] st h Q ↔ jx_Go jxP d 181 8 [.ref a, l1, l2, l3, l4, l5] (.ref a :: st) h Q := jg_al rfl rfl
theorem s181_8 : jx_Go jxP d 181 8 [l0, l1, l2, l3, l4, l5] (.ref a :: st) h Q ↔ ∃ v, jx_fl h a 12 0 = some v ∧ jx_Go jxP d 181 11 [l0, l1, l2, l3, l4, l5] (v :: st) h Q := jg_gf rfl
theorem s181_11 : jx_Go jxP d 181 11 [l0, l1, l2, l3, l4, l5] (.int y :: .int x :: st) h Q ↔ if y ≤ x then jx_Go jxP d 181 96 [l0, l1, l2, l3, l4, l5] st h Q else jx_Go jxP d 181 14 [l0, l1, l2, l3, l4, l5] st h Q := jg_icP rfl rfl
theorem s181_14 : jx_Go jxP d 181 14 [l0, l1, l2, l3, l4, l5] st h Q ↔ jx_Go jxP d 181 15 [l0, l1, l2, l3, l4, l5] (.int (nI 0) :: st) h Q := jg_c rfl
theorem s181_15 : jx_Go jxP d 181 15 [l0, l1, l2, l3, l4, l5] (.int x :: st) h Q ↔ jx_Go jxP d 181 17 [l0, l1, l2, l3, l4, .int x] st h Q := jg_is rfl rfl
theorem s181_17 : jx_Go jxP d 181 17 [l0, l1, l2, l3, l4, .int x] st h Q ↔ jx_Go jxP d 181 19 [l0, l1, l2, l3, l4, .int x] (.int x :: st) h Q := jg_il rfl rfl
theorem s181_19 : jx_Go jxP d 181 19 [.ref a, l1, l2, l3, l4, l5] st h Q ↔ jx_Go jxP d 181 20 [.ref a, l1, l2, l3, l4, l5] (.ref a :: st) h Q := jg_al rfl rfl
theorem s181_20 : jx_Go jxP d 181 20 [l0, l1, l2, l3, l4, l5] (.ref a :: st) h Q ↔ ∃ v, jx_fl h a 12 1 = some v ∧ jx_Go jxP d 181 23 [l0, l1, l2, l3, l4, l5] (v :: st) h Q := jg_gf rfl
theorem s181_23 : jx_Go jxP d 181 23 [l0, l1, l2, l3, l4, l5] (.int y :: .int x :: st) h Q ↔ if y ≤ x then jx_Go jxP d 181 90 [l0, l1, l2, l3, l4, l5] st h Q else jx_Go jxP d 181 26 [l0, l1, l2, l3, l4, l5] st h Q := jg_icP rfl rfl
theorem s181_26 : jx_Go jxP d 181 26 [l0, l1, l2, .int x, l4, l5] st h Q ↔ jx_Go jxP d 181 27 [l0, l1, l2, .int x, l4, l5] (.int x :: st) h Q := jg_il rfl rfl
theorem s181_27 : jx_Go jxP d 181 27 [l0, .int x, l2, l3, l4, l5] st h Q ↔ jx_Go jxP d 181 28 [l0, .int x, l2, l3, l4, l5] (.int x :: st) h Q := jg_il rfl rfl
theorem s181_28 : jx_Go jxP d 181 28 [l0, l1, l2, l3, l4, l5] st h Q ↔ jx_Go jxP d 181 29 [l0, l1, l2, l3, l4, l5] (.int (nI 5) :: st) h Q := jg_c rfl
theorem s181_29 : jx_Go jxP d 181 29 [l0, l1, l2, l3, l4, l5] (.int y :: .int x :: st) h Q ↔ jx_Go jxP d 181 30 [l0, l1, l2, l3, l4, l5] (.int (x >>> (y &&& 31)) :: st) h Q := jg_b (f := fun x y => x >>> (y &&& 31)) rfl
theorem s181_30 : jx_Go jxP d 181 30 [l0, l1, l2, l3, .int x, l5] st h Q ↔ jx_Go jxP d 181 32 [l0, l1, l2, l3, .int x, l5] (.int x :: st) h Q := jg_il rfl rfl
theorem s181_32 : jx_Go jxP (d + 1) 181 32 [l0, l1, l2, l3, l4, l5] (.int x1 :: .int x0 :: st) h Q ↔ (st.length ≤ 4 ∧ jx_Go jxP d 132 0 [.int x0, .int x1] [] h (fun s1 h1 => jx_Go jxP (d + 1) 181 35 [l0, l1, l2, l3, l4, l5] (s1 ++ st) h1 Q)) := jg_callS (as := [.int x1, .int x0]) rfl rfl rfl rfl
theorem s181_35 : jx_Go jxP d 181 35 [l0, l1, l2, l3, l4, l5] (.int x :: st) h Q ↔ if x = 0 then jx_Go jxP d 181 81 [l0, l1, l2, l3, l4, l5] st h Q else jx_Go jxP d 181 38 [l0, l1, l2, l3, l4, l5] st h Q := jg_ifP rfl rfl
theorem s181_38 : jx_Go jxP d 181 38 [l0, .int x, l2, l3, l4, l5] st h Q ↔ jx_Go jxP d 181 39 [l0, .int x, l2, l3, l4, l5] (.int x :: st) h Q := jg_il rfl rfl
theorem s181_39 : jx_Go jxP d 181 39 [l0, l1, l2, l3, l4, l5] st h Q ↔ jx_Go jxP d 181 41 [l0, l1, l2, l3, l4, l5] (.int (nI 31) :: st) h Q := jg_c rfl
theorem s181_41 : jx_Go jxP d 181 41 [l0, l1, l2, l3, l4, l5] (.int y :: .int x :: st) h Q ↔ jx_Go jxP d 181 42 [l0, l1, l2, l3, l4, l5] (.int (x &&& y) :: st) h Q := jg_b (f := fun x y => x &&& y) rfl
theorem s181_42 : jx_Go jxP d 181 42 [l0, l1, l2, l3, l4, .int x] st h Q ↔ jx_Go jxP d 181 44 [l0, l1, l2, l3, l4, .int x] (.int x :: st) h Q := jg_il rfl rfl
theorem s181_44 : jx_Go jxP (d + 1) 181 44 [l0, l1, l2, l3, l4, l5] (.int x1 :: .int x0 :: st) h Q ↔ (st.length ≤ 4 ∧ jx_Go jxP d 132 0 [.int x0, .int x1] [] h (fun s1 h1 => jx_Go jxP (d + 1) 181 47 [l0, l1, l2, l3, l4, l5] (s1 ++ st) h1 Q)) := jg_callS (as := [.int x1, .int x0]) rfl rfl rfl rfl
theorem s181_47 : jx_Go jxP d 181 47 [l0, l1, l2, l3, l4, l5] (.int x :: st) h Q ↔ if x = 0 then jx_Go jxP d 181 81 [l0, l1, l2, l3, l4, l5] st h Q else jx_Go jxP d 181 50 [l0, l1, l2, l3, l4, l5] st h Q := jg_ifP rfl rfl
theorem s181_50 : jx_Go jxP d 181 50 [.ref a, l1, l2, l3, l4, l5] st h Q ↔ jx_Go jxP d 181 51 [.ref a, l1, l2, l3, l4, l5] (.ref a :: st) h Q := jg_al rfl rfl
theorem s181_51 : jx_Go jxP d 181 51 [l0, l1, l2, l3, l4, l5] (.ref a :: st) h Q ↔ ∃ v, jx_fl h a 12 2 = some v ∧ jx_Go jxP d 181 54 [l0, l1, l2, l3, l4, l5] (v :: st) h Q := jg_gf rfl
theorem s181_54 : jx_Go jxP d 181 54 [l0, l1, l2, l3, l4, l5] st h Q ↔ jx_Go jxP d 181 55 [l0, l1, l2, l3, l4, l5] (.int (nI 5) :: st) h Q := jg_c rfl
theorem s181_55 : jx_Go jxP d 181 55 [l0, l1, l2, l3, .int x, l5] st h Q ↔ jx_Go jxP d 181 57 [l0, l1, l2, l3, .int x, l5] (.int x :: st) h Q := jg_il rfl rfl
theorem s181_57 : jx_Go jxP d 181 57 [l0, l1, l2, l3, l4, l5] (.int y :: .int x :: st) h Q ↔ jx_Go jxP d 181 58 [l0, l1, l2, l3, l4, l5] (.int (x * y) :: st) h Q := jg_b (f := fun x y => x * y) rfl
theorem s181_58 : jx_Go jxP d 181 58 [l0, l1, l2, l3, l4, .int x] st h Q ↔ jx_Go jxP d 181 60 [l0, l1, l2, l3, l4, .int x] (.int x :: st) h Q := jg_il rfl rfl
theorem s181_60 : jx_Go jxP d 181 60 [l0, l1, l2, l3, l4, l5] (.int y :: .int x :: st) h Q ↔ jx_Go jxP d 181 61 [l0, l1, l2, l3, l4, l5] (.int (x + y) :: st) h Q := jg_b (f := fun x y => x + y) rfl
theorem s181_61 : jx_Go jxP d 181 61 [l0, l1, l2, l3, l4, l5] (.int x :: .ref a :: st) h Q ↔ ∃ q, jx_ai h a = some q ∧ jx_in x q.1 ∧ jx_Go jxP d 181 62 [l0, l1, l2, l3, l4, l5] (.int (q.2 x.toNatClampNeg) :: st) h Q := jg_ia rfl
theorem s181_62 : jx_Go jxP d 181 62 [l0, l1, .int x, l3, l4, l5] st h Q ↔ jx_Go jxP d 181 63 [l0, l1, .int x, l3, l4, l5] (.int x :: st) h Q := jg_il rfl rfl
theorem s181_63 : jx_Go jxP d 181 63 [l0, l1, l2, l3, l4, l5] (.int y :: .int x :: st) h Q ↔ if x = y then jx_Go jxP d 181 66 [l0, l1, l2, l3, l4, l5] st h Q else jx_Go jxP d 181 81 [l0, l1, l2, l3, l4, l5] st h Q := jg_icN rfl rfl
theorem s181_66 : jx_Go jxP d 181 66 [.ref a, l1, l2, l3, l4, l5] st h Q ↔ jx_Go jxP d 181 67 [.ref a, l1, l2, l3, l4, l5] (.ref a :: st) h Q := jg_al rfl rfl
theorem s181_67 : jx_Go jxP d 181 67 [l0, l1, l2, l3, l4, l5] (.ref a :: st) h Q ↔ ∃ v, jx_fl h a 12 3 = some v ∧ jx_Go jxP d 181 70 [l0, l1, l2, l3, l4, l5] (v :: st) h Q := jg_gf rfl
theorem s181_70 : jx_Go jxP d 181 70 [l0, l1, l2, l3, l4, l5] st h Q ↔ jx_Go jxP d 181 71 [l0, l1, l2, l3, l4, l5] (.int (nI 5) :: st) h Q := jg_c rfl
theorem s181_71 : jx_Go jxP d 181 71 [l0, l1, l2, l3, .int x, l5] st h Q ↔ jx_Go jxP d 181 73 [l0, l1, l2, l3, .int x, l5] (.int x :: st) h Q := jg_il rfl rfl
theorem s181_73 : jx_Go jxP d 181 73 [l0, l1, l2, l3, l4, l5] (.int y :: .int x :: st) h Q ↔ jx_Go jxP d 181 74 [l0, l1, l2, l3, l4, l5] (.int (x * y) :: st) h Q := jg_b (f := fun x y => x * y) rfl
theorem s181_74 : jx_Go jxP d 181 74 [l0, l1, l2, l3, l4, .int x] st h Q ↔ jx_Go jxP d 181 76 [l0, l1, l2, l3, l4, .int x] (.int x :: st) h Q := jg_il rfl rfl
theorem s181_76 : jx_Go jxP d 181 76 [l0, l1, l2, l3, l4, l5] (.int y :: .int x :: st) h Q ↔ jx_Go jxP d 181 77 [l0, l1, l2, l3, l4, l5] (.int (x + y) :: st) h Q := jg_b (f := fun x y => x + y) rfl
theorem s181_77 : jx_Go jxP d 181 77 [l0, l1, l2, l3, l4, l5] (.int x :: .ref a :: st) h Q ↔ ∃ q, jx_ai h a = some q ∧ jx_in x q.1 ∧ jx_Go jxP d 181 78 [l0, l1, l2, l3, l4, l5] (.int (q.2 x.toNatClampNeg) :: st) h Q := jg_ia rfl
theorem s181_78 : jx_Go jxP d 181 78 [l0, l1, l2, l3, l4, l5] st h Q ↔ jx_Go jxP d 181 82 [l0, l1, l2, l3, l4, l5] st h Q := jg_go rfl
theorem s181_81 : jx_Go jxP d 181 81 [l0, l1, l2, l3, l4, l5] st h Q ↔ jx_Go jxP d 181 82 [l0, l1, l2, l3, l4, l5] (.int (nI 0) :: st) h Q := jg_c rfl
theorem s181_82 : jx_Go jxP d 181 82 [l0, l1, l2, l3, l4, l5] (.int y :: .int x :: st) h Q ↔ jx_Go jxP d 181 83 [l0, l1, l2, l3, l4, l5] (.int (x + y) :: st) h Q := jg_b (f := fun x y => x + y) rfl
theorem s181_83 : jx_Go jxP d 181 83 [l0, l1, l2, l3, l4, l5] (.int x :: st) h Q ↔ jx_Go jxP d 181 84 [l0, l1, l2, .int x, l4, l5] st h Q := jg_is rfl rfl
theorem s181_84 : jx_Go jxP d 181 84 [l0, l1, l2, l3, l4, .int x] st h Q ↔ jx_Go jxP d 181 87 [l0, l1, l2, l3, l4, .int (x + (nI 1))] st h Q := jg_inc rfl rfl rfl
theorem s181_87 : jx_Go jxP d 181 87 [l0, l1, l2, l3, l4, l5] st h Q ↔ jx_Go jxP d 181 17 [l0, l1, l2, l3, l4, l5] st h Q := jg_go rfl
theorem s181_90 : jx_Go jxP d 181 90 [l0, l1, l2, l3, .int x, l5] st h Q ↔ jx_Go jxP d 181 93 [l0, l1, l2, l3, .int (x + (nI 1)), l5] st h Q := jg_inc rfl rfl rfl
theorem s181_93 : jx_Go jxP d 181 93 [l0, l1, l2, l3, l4, l5] st h Q ↔ jx_Go jxP d 181 5 [l0, l1, l2, l3, l4, l5] st h Q := jg_go rfl
theorem s181_96 : jx_Go jxP d 181 96 [l0, l1, l2, .int x, l4, l5] st h Q ↔ jx_Go jxP d 181 97 [l0, l1, l2, .int x, l4, l5] (.int x :: st) h Q := jg_il rfl rfl
theorem s181_97 : jx_Go jxP d 181 97 [l0, l1, l2, l3, l4, l5] [.int x] h Q ↔ Q [.int x] h := jx_rt rfl rfl
-- 182 TalkBenchModel.swing
theorem s182_0 : jx_Go jxP d 182 0 [l0, l1, l2, l3] st h Q ↔ jx_Go jxP d 182 1 [l0, l1, l2, l3] (.int (nI 0) :: st) h Q := jg_c rfl
theorem s182_1 : jx_Go jxP d 182 1 [l0, l1, l2, l3] (.int x :: st) h Q ↔ jx_Go jxP d 182 2 [l0, .int x, l2, l3] st h Q := jg_is rfl rfl
theorem s182_2 : jx_Go jxP d 182 2 [l0, l1, l2, l3] st h Q ↔ jx_Go jxP d 182 3 [l0, l1, l2, l3] (.int (nI 0) :: st) h Q := jg_c rfl
theorem s182_3 : jx_Go jxP d 182 3 [l0, l1, l2, l3] (.int x :: st) h Q ↔ jx_Go jxP d 182 4 [l0, l1, .int x, l3] st h Q := jg_is rfl rfl
theorem s182_4 : jx_Go jxP d 182 4 [l0, l1, .int x, l3] st h Q ↔ jx_Go jxP d 182 5 [l0, l1, .int x, l3] (.int x :: st) h Q := jg_il rfl rfl
theorem s182_5 : jx_Go jxP d 182 5 [.ref a, l1, l2, l3] st h Q ↔ jx_Go jxP d 182 6 [.ref a, l1, l2, l3] (.ref a :: st) h Q := jg_al rfl rfl
theorem s182_6 : jx_Go jxP (d + 1) 182 6 [l0, l1, l2, l3] (.ref a :: st) h Q ↔ (st.length ≤ 4 ∧ jx_cl h a = some 12 ∧ jx_Go jxP d 154 0 [.ref a] [] h (fun s1 h1 => jx_Go jxP (d + 1) 182 9 [l0, l1, l2, l3] (s1 ++ st) h1 Q)) := jg_callV (as := [.ref a]) rfl rfl rfl rfl rfl
theorem s182_9 : jx_Go jxP d 182 9 [l0, l1, l2, l3] (.int y :: .int x :: st) h Q ↔ if y < x then jx_Go jxP d 182 66 [l0, l1, l2, l3] st h Q else jx_Go jxP d 182 12 [l0, l1, l2, l3] st h Q := jg_icP rfl rfl
theorem s182_12 : jx_Go jxP d 182 12 [.ref a, l1, l2, l3] st h Q ↔ jx_Go jxP d 182 13 [.ref a, l1, l2, l3] (.ref a :: st) h Q := jg_al rfl rfl
theorem s182_13 : jx_Go jxP d 182 13 [l0, l1, .int x, l3] st h Q ↔ jx_Go jxP d 182 14 [l0, l1, .int x, l3] (.int x :: st) h Q := jg_il rfl rfl
theorem s182_14 : jx_Go jxP (d + 1) 182 14 [l0, l1, l2, l3] (.int x0 :: .ref a :: st) h Q ↔ (st.length ≤ 4 ∧ jx_cl h a = some 12 ∧ jx_Go jxP d 157 0 [.ref a, .int x0] [] h (fun s1 h1 => jx_Go jxP (d + 1) 182 17 [l0, l1, l2, l3] (s1 ++ st) h1 Q)) := jg_callV (as := [.int x0, .ref a]) rfl rfl rfl rfl rfl
theorem s182_17 : jx_Go jxP d 182 17 [l0, l1, l2, l3] (.int x :: st) h Q ↔ if x = 0 then jx_Go jxP d 182 36 [l0, l1, l2, l3] st h Q else jx_Go jxP d 182 20 [l0, l1, l2, l3] st h Q := jg_ifP rfl rfl
theorem s182_20 : jx_Go jxP d 182 20 [.ref a, l1, l2, l3] st h Q ↔ jx_Go jxP d 182 21 [.ref a, l1, l2, l3] (.ref a :: st) h Q := jg_al rfl rfl
theorem s182_21 : jx_Go jxP d 182 21 [l0, l1, .int x, l3] st h Q ↔ jx_Go jxP d 182 22 [l0, l1, .int x, l3] (.int x :: st) h Q := jg_il rfl rfl
theorem s182_22 : jx_Go jxP d 182 22 [l0, l1, l2, l3] st h Q ↔ jx_Go jxP d 182 23 [l0, l1, l2, l3] (.int (nI 1) :: st) h Q := jg_c rfl
theorem s182_23 : jx_Go jxP (d + 1) 182 23 [l0, l1, l2, l3] (.int x1 :: .int x0 :: .ref a :: st) h Q ↔ (st.length ≤ 4 ∧ jx_cl h a = some 12 ∧ jx_Go jxP d 181 0 [.ref a, .int x0, .int x1, jx_u, jx_u, jx_u] [] h (fun s1 h1 => jx_Go jxP (d + 1) 182 26 [l0, l1, l2, l3] (s1 ++ st) h1 Q)) := jg_callV (as := [.int x1, .int x0, .ref a]) rfl rfl rfl rfl rfl
theorem s182_26 : jx_Go jxP d 182 26 [.ref a, l1, l2, l3] st h Q ↔ jx_Go jxP d 182 27 [.ref a, l1, l2, l3] (.ref a :: st) h Q := jg_al rfl rfl
theorem s182_27 : jx_Go jxP d 182 27 [l0, l1, .int x, l3] st h Q ↔ jx_Go jxP d 182 28 [l0, l1, .int x, l3] (.int x :: st) h Q := jg_il rfl rfl
theorem s182_28 : jx_Go jxP d 182 28 [l0, l1, l2, l3] st h Q ↔ jx_Go jxP d 182 29 [l0, l1, l2, l3] (.int (nI 0) :: st) h Q := jg_c rfl
theorem s182_29 : jx_Go jxP (d + 1) 182 29 [l0, l1, l2, l3] (.int x1 :: .int x0 :: .ref a :: st) h Q ↔ (st.length ≤ 4 ∧ jx_cl h a = some 12 ∧ jx_Go jxP d 181 0 [.ref a, .int x0, .int x1, jx_u, jx_u, jx_u] [] h (fun s1 h1 => jx_Go jxP (d + 1) 182 32 [l0, l1, l2, l3] (s1 ++ st) h1 Q)) := jg_callV (as := [.int x1, .int x0, .ref a]) rfl rfl rfl rfl rfl
theorem s182_32 : jx_Go jxP d 182 32 [l0, l1, l2, l3] (.int y :: .int x :: st) h Q ↔ jx_Go jxP d 182 33 [l0, l1, l2, l3] (.int (x - y) :: st) h Q := jg_b (f := fun x y => x - y) rfl
theorem s182_33 : jx_Go jxP d 182 33 [l0, l1, l2, l3] st h Q ↔ jx_Go jxP d 182 37 [l0, l1, l2, l3] st h Q := jg_go rfl
theorem s182_36 : jx_Go jxP d 182 36 [l0, l1, l2, l3] st h Q ↔ jx_Go jxP d 182 37 [l0, l1, l2, l3] (.int (nI 0) :: st) h Q := jg_c rfl
theorem s182_37 : jx_Go jxP d 182 37 [l0, l1, l2, l3] (.int x :: st) h Q ↔ jx_Go jxP d 182 38 [l0, l1, l2, .int x] st h Q := jg_is rfl rfl
theorem s182_38 : jx_Go jxP d 182 38 [l0, l1, l2, .int x] st h Q ↔ jx_Go jxP d 182 39 [l0, l1, l2, .int x] (.int x :: st) h Q := jg_il rfl rfl
theorem s182_39 : jx_Go jxP d 182 39 [l0, l1, l2, l3] (.int x :: st) h Q ↔ if 0 ≤ x then jx_Go jxP d 182 47 [l0, l1, l2, l3] st h Q else jx_Go jxP d 182 42 [l0, l1, l2, l3] st h Q := jg_ifP rfl rfl
theorem s182_42 : jx_Go jxP d 182 42 [l0, l1, l2, .int x] st h Q ↔ jx_Go jxP d 182 43 [l0, l1, l2, .int x] (.int x :: st) h Q := jg_il rfl rfl
theorem s182_43 : jx_Go jxP d 182 43 [l0, l1, l2, l3] (.int x :: st) h Q ↔ jx_Go jxP d 182 44 [l0, l1, l2, l3] (.int (-x) :: st) h Q := jg_1 (f := fun x => -x) rfl
theorem s182_44 : jx_Go jxP d 182 44 [l0, l1, l2, l3] st h Q ↔ jx_Go jxP d 182 48 [l0, l1, l2, l3] st h Q := jg_go rfl
theorem s182_47 : jx_Go jxP d 182 47 [l0, l1, l2, .int x] st h Q ↔ jx_Go jxP d 182 48 [l0, l1, l2, .int x] (.int x :: st) h Q := jg_il rfl rfl
theorem s182_48 : jx_Go jxP d 182 48 [l0, l1, l2, l3] (.int x :: st) h Q ↔ jx_Go jxP d 182 49 [l0, l1, l2, .int x] st h Q := jg_is rfl rfl
theorem s182_49 : jx_Go jxP d 182 49 [l0, l1, l2, .int x] st h Q ↔ jx_Go jxP d 182 50 [l0, l1, l2, .int x] (.int x :: st) h Q := jg_il rfl rfl
theorem s182_50 : jx_Go jxP d 182 50 [l0, .int x, l2, l3] st h Q ↔ jx_Go jxP d 182 51 [l0, .int x, l2, l3] (.int x :: st) h Q := jg_il rfl rfl
theorem s182_51 : jx_Go jxP d 182 51 [l0, l1, l2, l3] (.int y :: .int x :: st) h Q ↔ if x ≤ y then jx_Go jxP d 182 58 [l0, l1, l2, l3] st h Q else jx_Go jxP d 182 54 [l0, l1, l2, l3] st h Q := jg_icP rfl rfl
theorem s182_54 : jx_Go jxP d 182 54 [l0, l1, l2, .int x] st h Q ↔ jx_Go jxP d 182 55 [l0, l1, l2, .int x] (.int x :: st) h Q := jg_il rfl rfl
theorem s182_55 : jx_Go jxP d 182 55 [l0, l1, l2, l3] st h Q ↔ jx_Go jxP d 182 59 [l0, l1, l2, l3] st h Q := jg_go rfl
theorem s182_58 : jx_Go jxP d 182 58 [l0, .int x, l2, l3] st h Q ↔ jx_Go jxP d 182 59 [l0, .int x, l2, l3] (.int x :: st) h Q := jg_il rfl rfl
theorem s182_59 : jx_Go jxP d 182 59 [l0, l1, l2, l3] (.int x :: st) h Q ↔ jx_Go jxP d 182 60 [l0, .int x, l2, l3] st h Q := jg_is rfl rfl
theorem s182_60 : jx_Go jxP d 182 60 [l0, l1, .int x, l3] st h Q ↔ jx_Go jxP d 182 63 [l0, l1, .int (x + (nI 1)), l3] st h Q := jg_inc rfl rfl rfl
theorem s182_63 : jx_Go jxP d 182 63 [l0, l1, l2, l3] st h Q ↔ jx_Go jxP d 182 4 [l0, l1, l2, l3] st h Q := jg_go rfl
theorem s182_66 : jx_Go jxP d 182 66 [l0, .int x, l2, l3] st h Q ↔ jx_Go jxP d 182 67 [l0, .int x, l2, l3] (.int x :: st) h Q := jg_il rfl rfl
theorem s182_67 : jx_Go jxP d 182 67 [l0, l1, l2, l3] [.int x] h Q ↔ Q [.int x] h := jx_rt rfl rfl
-- 183 TalkBenchModel.wrong
theorem s183_0 : jx_Go jxP d 183 0 [l0, .int x, l2, l3, l4, l5, l6, l7] st h Q ↔ jx_Go jxP d 183 1 [l0, .int x, l2, l3, l4, l5, l6, l7] (.int x :: st) h Q := jg_il rfl rfl
theorem s183_1 : jx_Go jxP d 183 1 [l0, l1, l2, l3, l4, l5, l6, l7] (.int x :: st) h Q ↔ if x < 0 then jx_Go jxP d 183 10 [l0, l1, l2, l3, l4, l5, l6, l7] st h Q else jx_Go jxP d 183 4 [l0, l1, l2, l3, l4, l5, l6, l7] st h Q := jg_ifP rfl rfl
theorem s183_4 : jx_Go jxP d 183 4 [l0, .int x, l2, l3, l4, l5, l6, l7] st h Q ↔ jx_Go jxP d 183 5 [l0, .int x, l2, l3, l4, l5, l6, l7] (.int x :: st) h Q := jg_il rfl rfl
theorem s183_5 : jx_Go jxP d 183 5 [l0, l1, l2, l3, l4, l5, l6, l7] st h Q ↔ jx_Go jxP d 183 7 [l0, l1, l2, l3, l4, l5, l6, l7] (.int (nI 6) :: st) h Q := jg_c rfl
theorem s183_7 : jx_Go jxP d 183 7 [l0, l1, l2, l3, l4, l5, l6, l7] (.int y :: .int x :: st) h Q ↔ if x ≤ y then jx_Go jxP d 183 16 [l0, l1, l2, l3, l4, l5, l6, l7] st h Q else jx_Go jxP d 183 10 [l0, l1, l2, l3, l4, l5, l6, l7] st h Q := jg_icP rfl rfl
theorem s183_10 : jx_Go jxP d 183 10 [.ref a, l1, l2, l3, l4, l5, l6, l7] st h Q ↔ jx_Go jxP d 183 11 [.ref a, l1, l2, l3, l4, l5, l6, l7] (.ref a :: st) h Q := jg_al rfl rfl
theorem s183_11 : jx_Go jxP d 183 11 [l0, l1, l2, l3, l4, l5, l6, l7] st h Q ↔ jx_Go jxP d 183 12 [l0, l1, l2, l3, l4, l5, l6, l7] (.int (-1) :: st) h Q := jg_c rfl
theorem s183_12 : jx_Go jxP (d + 1) 183 12 [l0, l1, l2, l3, l4, l5, l6, l7] (.int x0 :: .ref a :: st) h Q ↔ (st.length ≤ 4 ∧ jx_cl h a = some 12 ∧ jx_Go jxP d 130 0 [.ref a, .int x0] [] h (fun s1 h1 => jx_Go jxP (d + 1) 183 15 [l0, l1, l2, l3, l4, l5, l6, l7] (s1 ++ st) h1 Q)) := jg_callV (as := [.int x0, .ref a]) rfl rfl rfl rfl rfl
theorem s183_15 : jx_Go jxP d 183 15 [l0, l1, l2, l3, l4, l5, l6, l7] [.int x] h Q ↔ Q [.int x] h := jx_rt rfl rfl
theorem s183_16 : jx_Go jxP d 183 16 [l0, l1, l2, l3, l4, l5, l6, l7] st h Q ↔ jx_Go jxP d 183 17 [l0, l1, l2, l3, l4, l5, l6, l7] (.int (nI 0) :: st) h Q := jg_c rfl
theorem s183_17 : jx_Go jxP d 183 17 [l0, l1, l2, l3, l4, l5, l6, l7] (.int x :: st) h Q ↔ jx_Go jxP d 183 18 [l0, l1, .int x, l3, l4, l5, l6, l7] st h Q := jg_is rfl rfl
theorem s183_18 : jx_Go jxP d 183 18 [l0, l1, .int x, l3, l4, l5, l6, l7] st h Q ↔ jx_Go jxP d 183 19 [l0, l1, .int x, l3, l4, l5, l6, l7] (.int x :: st) h Q := jg_il rfl rfl
theorem s183_19 : jx_Go jxP d 183 19 [l0, .int x, l2, l3, l4, l5, l6, l7] st h Q ↔ jx_Go jxP d 183 20 [l0, .int x, l2, l3, l4, l5, l6, l7] (.int x :: st) h Q := jg_il rfl rfl
theorem s183_20 : jx_Go jxP d 183 20 [l0, l1, l2, l3, l4, l5, l6, l7] (.int y :: .int x :: st) h Q ↔ if y < x then jx_Go jxP d 183 164 [l0, l1, l2, l3, l4, l5, l6, l7] st h Q else jx_Go jxP d 183 23 [l0, l1, l2, l3, l4, l5, l6, l7] st h Q := jg_icP rfl rfl
theorem s183_23 : jx_Go jxP d 183 23 [l0, l1, l2, l3, l4, l5, l6, l7] st h Q ↔ jx_Go jxP d 183 24 [l0, l1, l2, l3, l4, l5, l6, l7] (.int (nI 0) :: st) h Q := jg_c rfl
theorem s183_24 : jx_Go jxP d 183 24 [l0, l1, l2, l3, l4, l5, l6, l7] (.int x :: st) h Q ↔ jx_Go jxP d 183 25 [l0, l1, l2, .int x, l4, l5, l6, l7] st h Q := jg_is rfl rfl
theorem s183_25 : jx_Go jxP d 183 25 [l0, l1, l2, .int x, l4, l5, l6, l7] st h Q ↔ jx_Go jxP d 183 26 [l0, l1, l2, .int x, l4, l5, l6, l7] (.int x :: st) h Q := jg_il rfl rfl
theorem s183_26 : jx_Go jxP d 183 26 [.ref a, l1, l2, l3, l4, l5, l6, l7] st h Q ↔ jx_Go jxP d 183 27 [.ref a, l1, l2, l3, l4, l5, l6, l7] (.ref a :: st) h Q := jg_al rfl rfl
theorem s183_27 : jx_Go jxP (d + 1) 183 27 [l0, l1, l2, l3, l4, l5, l6, l7] (.ref a :: st) h Q ↔ (st.length ≤ 4 ∧ jx_cl h a = some 12 ∧ jx_Go jxP d 154 0 [.ref a] [] h (fun s1 h1 => jx_Go jxP (d + 1) 183 30 [l0, l1, l2, l3, l4, l5, l6, l7] (s1 ++ st) h1 Q)) := jg_callV (as := [.ref a]) rfl rfl rfl rfl rfl
theorem s183_30 : jx_Go jxP d 183 30 [l0, l1, l2, l3, l4, l5, l6, l7] (.int y :: .int x :: st) h Q ↔ if y < x then jx_Go jxP d 183 158 [l0, l1, l2, l3, l4, l5, l6, l7] st h Q else jx_Go jxP d 183 33 [l0, l1, l2, l3, l4, l5, l6, l7] st h Q := jg_icP rfl rfl
theorem s183_33 : jx_Go jxP d 183 33 [.ref a, l1, l2, l3, l4, l5, l6, l7] st h Q ↔ jx_Go jxP d 183 34 [.ref a, l1, l2, l3, l4, l5, l6, l7] (.ref a :: st) h Q := jg_al rfl rfl
theorem s183_34 : jx_Go jxP d 183 34 [l0, l1, l2, .int x, l4, l5, l6, l7] st h Q ↔ jx_Go jxP d 183 35 [l0, l1, l2, .int x, l4, l5, l6, l7] (.int x :: st) h Q := jg_il rfl rfl
theorem s183_35 : jx_Go jxP (d + 1) 183 35 [l0, l1, l2, l3, l4, l5, l6, l7] (.int x0 :: .ref a :: st) h Q ↔ (st.length ≤ 4 ∧ jx_cl h a = some 12 ∧ jx_Go jxP d 157 0 [.ref a, .int x0] [] h (fun s1 h1 => jx_Go jxP (d + 1) 183 38 [l0, l1, l2, l3, l4, l5, l6, l7] (s1 ++ st) h1 Q)) := jg_callV (as := [.int x0, .ref a]) rfl rfl rfl rfl rfl
theorem s183_38 : jx_Go jxP d 183 38 [l0, l1, l2, l3, l4, l5, l6, l7] (.int x :: st) h Q ↔ if x = 0 then jx_Go jxP d 183 41 [l0, l1, l2, l3, l4, l5, l6, l7] st h Q else jx_Go jxP d 183 44 [l0, l1, l2, l3, l4, l5, l6, l7] st h Q := jg_ifN rfl rfl
theorem s183_41 : jx_Go jxP d 183 41 [l0, l1, l2, l3, l4, l5, l6, l7] st h Q ↔ jx_Go jxP d 183 152 [l0, l1, l2, l3, l4, l5, l6, l7] st h Q := jg_go rfl
theorem s183_44 : jx_Go jxP d 183 44 [.ref a, l1, l2, l3, l4, l5, l6, l7] st h Q ↔ jx_Go jxP d 183 45 [.ref a, l1, l2, l3, l4, l5, l6, l7] (.ref a :: st) h Q := jg_al rfl rfl
theorem s183_45 : jx_Go jxP d 183 45 [l0, l1, l2, .int x, l4, l5, l6, l7] st h Q ↔ jx_Go jxP d 183 46 [l0, l1, l2, .int x, l4, l5, l6, l7] (.int x :: st) h Q := jg_il rfl rfl
theorem s183_46 : jx_Go jxP d 183 46 [l0, l1, l2, l3, l4, l5, l6, l7] st h Q ↔ jx_Go jxP d 183 47 [l0, l1, l2, l3, l4, l5, l6, l7] (.int (nI 1) :: st) h Q := jg_c rfl
theorem s183_47 : jx_Go jxP (d + 1) 183 47 [l0, l1, l2, l3, l4, l5, l6, l7] (.int x1 :: .int x0 :: .ref a :: st) h Q ↔ (st.length ≤ 4 ∧ jx_cl h a = some 12 ∧ jx_Go jxP d 181 0 [.ref a, .int x0, .int x1, jx_u, jx_u, jx_u] [] h (fun s1 h1 => jx_Go jxP (d + 1) 183 50 [l0, l1, l2, l3, l4, l5, l6, l7] (s1 ++ st) h1 Q)) := jg_callV (as := [.int x1, .int x0, .ref a]) rfl rfl rfl rfl rfl
theorem s183_50 : jx_Go jxP d 183 50 [l0, l1, l2, l3, l4, l5, l6, l7] (.int x :: st) h Q ↔ jx_Go jxP d 183 52 [l0, l1, l2, l3, .int x, l5, l6, l7] st h Q := jg_is rfl rfl
theorem s183_52 : jx_Go jxP d 183 52 [.ref a, l1, l2, l3, l4, l5, l6, l7] st h Q ↔ jx_Go jxP d 183 53 [.ref a, l1, l2, l3, l4, l5, l6, l7] (.ref a :: st) h Q := jg_al rfl rfl
theorem s183_53 : jx_Go jxP d 183 53 [l0, l1, l2, .int x, l4, l5, l6, l7] st h Q ↔ jx_Go jxP d 183 54 [l0, l1, l2, .int x, l4, l5, l6, l7] (.int x :: st) h Q := jg_il rfl rfl
theorem s183_54 : jx_Go jxP d 183 54 [l0, l1, l2, l3, l4, l5, l6, l7] st h Q ↔ jx_Go jxP d 183 55 [l0, l1, l2, l3, l4, l5, l6, l7] (.int (nI 0) :: st) h Q := jg_c rfl
theorem s183_55 : jx_Go jxP (d + 1) 183 55 [l0, l1, l2, l3, l4, l5, l6, l7] (.int x1 :: .int x0 :: .ref a :: st) h Q ↔ (st.length ≤ 4 ∧ jx_cl h a = some 12 ∧ jx_Go jxP d 181 0 [.ref a, .int x0, .int x1, jx_u, jx_u, jx_u] [] h (fun s1 h1 => jx_Go jxP (d + 1) 183 58 [l0, l1, l2, l3, l4, l5, l6, l7] (s1 ++ st) h1 Q)) := jg_callV (as := [.int x1, .int x0, .ref a]) rfl rfl rfl rfl rfl
theorem s183_58 : jx_Go jxP d 183 58 [l0, l1, l2, l3, l4, l5, l6, l7] (.int x :: st) h Q ↔ jx_Go jxP d 183 60 [l0, l1, l2, l3, l4, .int x, l6, l7] st h Q := jg_is rfl rfl
theorem s183_60 : jx_Go jxP d 183 60 [l0, l1, l2, l3, .int x, l5, l6, l7] st h Q ↔ jx_Go jxP d 183 62 [l0, l1, l2, l3, .int x, l5, l6, l7] (.int x :: st) h Q := jg_il rfl rfl
theorem s183_62 : jx_Go jxP d 183 62 [l0, l1, l2, l3, l4, .int x, l6, l7] st h Q ↔ jx_Go jxP d 183 64 [l0, l1, l2, l3, l4, .int x, l6, l7] (.int x :: st) h Q := jg_il rfl rfl
theorem s183_64 : jx_Go jxP d 183 64 [l0, l1, l2, l3, l4, l5, l6, l7] (.int y :: .int x :: st) h Q ↔ if y ≤ x then jx_Go jxP d 183 72 [l0, l1, l2, l3, l4, l5, l6, l7] st h Q else jx_Go jxP d 183 67 [l0, l1, l2, l3, l4, l5, l6, l7] st h Q := jg_icP rfl rfl
theorem s183_67 : jx_Go jxP d 183 67 [l0, l1, l2, l3, .int x, l5, l6, l7] st h Q ↔ jx_Go jxP d 183 69 [l0, l1, l2, l3, .int x, l5, l6, l7] (.int x :: st) h Q := jg_il rfl rfl
theorem s183_69 : jx_Go jxP d 183 69 [l0, l1, l2, l3, l4, l5, l6, l7] st h Q ↔ jx_Go jxP d 183 74 [l0, l1, l2, l3, l4, l5, l6, l7] st h Q := jg_go rfl
theorem s183_72 : jx_Go jxP d 183 72 [l0, l1, l2, l3, l4, .int x, l6, l7] st h Q ↔ jx_Go jxP d 183 74 [l0, l1, l2, l3, l4, .int x, l6, l7] (.int x :: st) h Q := jg_il rfl rfl
theorem s183_74 : jx_Go jxP d 183 74 [l0, l1, l2, l3, l4, l5, l6, l7] (.int x :: st) h Q ↔ jx_Go jxP d 183 76 [l0, l1, l2, l3, l4, l5, .int x, l7] st h Q := jg_is rfl rfl
theorem s183_76 : jx_Go jxP d 183 76 [l0, l1, l2, l3, l4, l5, l6, l7] st h Q ↔ jx_Go jxP d 183 77 [l0, l1, l2, l3, l4, l5, l6, l7] (.int (nI 1) :: st) h Q := jg_c rfl
theorem s183_77 : jx_Go jxP d 183 77 [l0, l1, l2, l3, l4, l5, l6, l7] (.int x :: st) h Q ↔ jx_Go jxP d 183 79 [l0, l1, l2, l3, l4, l5, l6, .int x] st h Q := jg_is rfl rfl
theorem s183_79 : jx_Go jxP d 183 79 [l0, l1, l2, l3, l4, l5, l6, .int x] st h Q ↔ jx_Go jxP d 183 81 [l0, l1, l2, l3, l4, l5, l6, .int x] (.int x :: st) h Q := jg_il rfl rfl
theorem s183_81 : jx_Go jxP d 183 81 [l0, l1, l2, l3, l4, l5, l6, l7] st h Q ↔ jx_Go jxP d 183 83 [l0, l1, l2, l3, l4, l5, l6, l7] (.int (nI 32) :: st) h Q := jg_c rfl
theorem s183_83 : jx_Go jxP d 183 83 [l0, l1, l2, l3, l4, l5, l6, l7] (.int y :: .int x :: st) h Q ↔ if y ≤ x then jx_Go jxP d 183 138 [l0, l1, l2, l3, l4, l5, l6, l7] st h Q else jx_Go jxP d 183 86 [l0, l1, l2, l3, l4, l5, l6, l7] st h Q := jg_icP rfl rfl
theorem s183_86 : jx_Go jxP d 183 86 [l0, l1, .int x, l3, l4, l5, l6, l7] st h Q ↔ jx_Go jxP d 183 87 [l0, l1, .int x, l3, l4, l5, l6, l7] (.int x :: st) h Q := jg_il rfl rfl
theorem s183_87 : jx_Go jxP d 183 87 [l0, l1, l2, l3, l4, l5, l6, l7] (.int x :: st) h Q ↔ if x ≤ 0 then jx_Go jxP d 183 138 [l0, l1, l2, l3, l4, l5, l6, l7] st h Q else jx_Go jxP d 183 90 [l0, l1, l2, l3, l4, l5, l6, l7] st h Q := jg_ifP rfl rfl
theorem s183_90 : jx_Go jxP d 183 90 [.ref a, l1, l2, l3, l4, l5, l6, l7] st h Q ↔ jx_Go jxP d 183 91 [.ref a, l1, l2, l3, l4, l5, l6, l7] (.ref a :: st) h Q := jg_al rfl rfl
theorem s183_91 : jx_Go jxP d 183 91 [l0, l1, l2, .int x, l4, l5, l6, l7] st h Q ↔ jx_Go jxP d 183 92 [l0, l1, l2, .int x, l4, l5, l6, l7] (.int x :: st) h Q := jg_il rfl rfl
theorem s183_92 : jx_Go jxP d 183 92 [.ref a, l1, l2, l3, l4, l5, l6, l7] st h Q ↔ jx_Go jxP d 183 93 [.ref a, l1, l2, l3, l4, l5, l6, l7] (.ref a :: st) h Q := jg_al rfl rfl
theorem s183_93 : jx_Go jxP d 183 93 [l0, l1, l2, .int x, l4, l5, l6, l7] st h Q ↔ jx_Go jxP d 183 94 [l0, l1, l2, .int x, l4, l5, l6, l7] (.int x :: st) h Q := jg_il rfl rfl
theorem s183_94 : jx_Go jxP d 183 94 [l0, l1, l2, l3, l4, l5, l6, .int x] st h Q ↔ jx_Go jxP d 183 96 [l0, l1, l2, l3, l4, l5, l6, .int x] (.int x :: st) h Q := jg_il rfl rfl
theorem s183_96 : jx_Go jxP d 183 96 [l0, l1, l2, l3, l4, l5, l6, l7] st h Q ↔ jx_Go jxP d 183 97 [l0, l1, l2, l3, l4, l5, l6, l7] (.int (nI 1) :: st) h Q := jg_c rfl
theorem s183_97 : jx_Go jxP (d + 1) 183 97 [l0, l1, l2, l3, l4, l5, l6, l7] (.int x2 :: .int x1 :: .int x0 :: .ref a :: st) h Q ↔ (st.length ≤ 4 ∧ jx_cl h a = some 12 ∧ jx_Go jxP d 159 0 [.ref a, .int x0, .int x1, .int x2, jx_u] [] h (fun s1 h1 => jx_Go jxP (d + 1) 183 100 [l0, l1, l2, l3, l4, l5, l6, l7] (s1 ++ st) h1 Q)) := jg_callV (as := [.int x2, .int x1, .int x0, .ref a]) rfl rfl rfl rfl rfl
theorem s183_100 : jx_Go jxP d 183 100 [l0, l1, l2, l3, l4, l5, l6, .int x] st h Q ↔ jx_Go jxP d 183 102 [l0, l1, l2, l3, l4, l5, l6, .int x] (.int x :: st) h Q := jg_il rfl rfl
theorem s183_102 : jx_Go jxP d 183 102 [l0, l1, l2, l3, l4, l5, l6, l7] st h Q ↔ jx_Go jxP d 183 103 [l0, l1, l2, l3, l4, l5, l6, l7] (.int (nI 5) :: st) h Q := jg_c rfl
theorem s183_103 : jx_Go jxP d 183 103 [l0, l1, l2, l3, l4, l5, l6, l7] (.int y :: .int x :: st) h Q ↔ jx_Go jxP d 183 104 [l0, l1, l2, l3, l4, l5, l6, l7] (.int (x <<< (y &&& 31)) :: st) h Q := jg_b (f := fun x y => x <<< (y &&& 31)) rfl
theorem s183_104 : jx_Go jxP d 183 104 [l0, l1, .int x, l3, l4, l5, l6, l7] st h Q ↔ jx_Go jxP d 183 105 [l0, l1, .int x, l3, l4, l5, l6, l7] (.int x :: st) h Q := jg_il rfl rfl
theorem s183_105 : jx_Go jxP d 183 105 [l0, l1, l2, l3, l4, l5, .int x, l7] st h Q ↔ jx_Go jxP d 183 107 [l0, l1, l2, l3, l4, l5, .int x, l7] (.int x :: st) h Q := jg_il rfl rfl
theorem s183_107 : jx_Go jxP (d + 1) 183 107 [l0, l1, l2, l3, l4, l5, l6, l7] (.int x4 :: .int x3 :: .int x2 :: .int x1 :: .int x0 :: .ref a :: st) h Q ↔ (st.length ≤ 4 ∧ jx_cl h a = some 12 ∧ jx_Go jxP d 184 0 [.ref a, .int x0, .int x1, .int x2, .int x3, .int x4, jx_u, jx_u] [] h (fun s1 h1 => jx_Go jxP (d + 1) 183 110 [l0, l1, l2, l3, l4, l5, l6, l7] (s1 ++ st) h1 Q)) := jg_callV (as := [.int x4, .int x3, .int x2, .int x1, .int x0, .ref a]) rfl rfl rfl rfl rfl
theorem s183_110 : jx_Go jxP d 183 110 [l0, l1, l2, l3, l4, l5, l6, l7] (.int x :: st) h Q ↔ jx_Go jxP d 183 112 [l0, l1, l2, l3, l4, l5, .int x, l7] st h Q := jg_is rfl rfl
theorem s183_112 : jx_Go jxP d 183 112 [.ref a, l1, l2, l3, l4, l5, l6, l7] st h Q ↔ jx_Go jxP d 183 113 [.ref a, l1, l2, l3, l4, l5, l6, l7] (.ref a :: st) h Q := jg_al rfl rfl
theorem s183_113 : jx_Go jxP d 183 113 [l0, l1, l2, .int x, l4, l5, l6, l7] st h Q ↔ jx_Go jxP d 183 114 [l0, l1, l2, .int x, l4, l5, l6, l7] (.int x :: st) h Q := jg_il rfl rfl
theorem s183_114 : jx_Go jxP d 183 114 [.ref a, l1, l2, l3, l4, l5, l6, l7] st h Q ↔ jx_Go jxP d 183 115 [.ref a, l1, l2, l3, l4, l5, l6, l7] (.ref a :: st) h Q := jg_al rfl rfl
theorem s183_115 : jx_Go jxP d 183 115 [l0, l1, l2, .int x, l4, l5, l6, l7] st h Q ↔ jx_Go jxP d 183 116 [l0, l1, l2, .int x, l4, l5, l6, l7] (.int x :: st) h Q := jg_il rfl rfl
theorem s183_116 : jx_Go jxP d 183 116 [l0, l1, l2, l3, l4, l5, l6, .int x] st h Q ↔ jx_Go jxP d 183 118 [l0, l1, l2, l3, l4, l5, l6, .int x] (.int x :: st) h Q := jg_il rfl rfl
theorem s183_118 : jx_Go jxP d 183 118 [l0, l1, l2, l3, l4, l5, l6, l7] st h Q ↔ jx_Go jxP d 183 119 [l0, l1, l2, l3, l4, l5, l6, l7] (.int (nI 0) :: st) h Q := jg_c rfl
theorem s183_119 : jx_Go jxP (d + 1) 183 119 [l0, l1, l2, l3, l4, l5, l6, l7] (.int x2 :: .int x1 :: .int x0 :: .ref a :: st) h Q ↔ (st.length ≤ 4 ∧ jx_cl h a = some 12 ∧ jx_Go jxP d 159 0 [.ref a, .int x0, .int x1, .int x2, jx_u] [] h (fun s1 h1 => jx_Go jxP (d + 1) 183 122 [l0, l1, l2, l3, l4, l5, l6, l7] (s1 ++ st) h1 Q)) := jg_callV (as := [.int x2, .int x1, .int x0, .ref a]) rfl rfl rfl rfl rfl
theorem s183_122 : jx_Go jxP d 183 122 [l0, l1, l2, l3, l4, l5, l6, .int x] st h Q ↔ jx_Go jxP d 183 124 [l0, l1, l2, l3, l4, l5, l6, .int x] (.int x :: st) h Q := jg_il rfl rfl
theorem s183_124 : jx_Go jxP d 183 124 [l0, l1, .int x, l3, l4, l5, l6, l7] st h Q ↔ jx_Go jxP d 183 125 [l0, l1, .int x, l3, l4, l5, l6, l7] (.int x :: st) h Q := jg_il rfl rfl
theorem s183_125 : jx_Go jxP d 183 125 [l0, l1, l2, l3, l4, l5, .int x, l7] st h Q ↔ jx_Go jxP d 183 127 [l0, l1, l2, l3, l4, l5, .int x, l7] (.int x :: st) h Q := jg_il rfl rfl
theorem s183_127 : jx_Go jxP (d + 1) 183 127 [l0, l1, l2, l3, l4, l5, l6, l7] (.int x4 :: .int x3 :: .int x2 :: .int x1 :: .int x0 :: .ref a :: st) h Q ↔ (st.length ≤ 4 ∧ jx_cl h a = some 12 ∧ jx_Go jxP d 184 0 [.ref a, .int x0, .int x1, .int x2, .int x3, .int x4, jx_u, jx_u] [] h (fun s1 h1 => jx_Go jxP (d + 1) 183 130 [l0, l1, l2, l3, l4, l5, l6, l7] (s1 ++ st) h1 Q)) := jg_callV (as := [.int x4, .int x3, .int x2, .int x1, .int x0, .ref a]) rfl rfl rfl rfl rfl
theorem s183_130 : jx_Go jxP d 183 130 [l0, l1, l2, l3, l4, l5, l6, l7] (.int x :: st) h Q ↔ jx_Go jxP d 183 132 [l0, l1, l2, l3, l4, l5, .int x, l7] st h Q := jg_is rfl rfl
theorem s183_132 : jx_Go jxP d 183 132 [l0, l1, l2, l3, l4, l5, l6, .int x] st h Q ↔ jx_Go jxP d 183 135 [l0, l1, l2, l3, l4, l5, l6, .int (x + (nI 1))] st h Q := jg_inc rfl rfl rfl
theorem s183_135 : jx_Go jxP d 183 135 [l0, l1, l2, l3, l4, l5, l6, l7] st h Q ↔ jx_Go jxP d 183 79 [l0, l1, l2, l3, l4, l5, l6, l7] st h Q := jg_go rfl
theorem s183_138 : jx_Go jxP d 183 138 [.ref a, l1, l2, l3, l4, l5, l6, l7] st h Q ↔ jx_Go jxP d 183 139 [.ref a, l1, l2, l3, l4, l5, l6, l7] (.ref a :: st) h Q := jg_al rfl rfl
theorem s183_139 : jx_Go jxP d 183 139 [l0, l1, l2, l3, l4, l5, l6, l7] (.ref a :: st) h Q ↔ ∃ v, jx_fl h a 12 33 = some v ∧ jx_Go jxP d 183 142 [l0, l1, l2, l3, l4, l5, l6, l7] (v :: st) h Q := jg_gf rfl
theorem s183_142 : jx_Go jxP d 183 142 [l0, l1, l2, l3, l4, l5, l6, l7] st h Q ↔ jx_Go jxP d 183 145 [l0, l1, l2, l3, l4, l5, l6, l7] (.int (nI 1024) :: st) h Q := jg_c rfl
theorem s183_145 : jx_Go jxP d 183 145 [l0, l1, .int x, l3, l4, l5, l6, l7] st h Q ↔ jx_Go jxP d 183 146 [l0, l1, .int x, l3, l4, l5, l6, l7] (.int x :: st) h Q := jg_il rfl rfl
theorem s183_146 : jx_Go jxP d 183 146 [l0, l1, l2, l3, l4, l5, l6, l7] (.int y :: .int x :: st) h Q ↔ jx_Go jxP d 183 147 [l0, l1, l2, l3, l4, l5, l6, l7] (.int (x * y) :: st) h Q := jg_b (f := fun x y => x * y) rfl
theorem s183_147 : jx_Go jxP d 183 147 [l0, l1, l2, .int x, l4, l5, l6, l7] st h Q ↔ jx_Go jxP d 183 148 [l0, l1, l2, .int x, l4, l5, l6, l7] (.int x :: st) h Q := jg_il rfl rfl
theorem s183_148 : jx_Go jxP d 183 148 [l0, l1, l2, l3, l4, l5, l6, l7] (.int y :: .int x :: st) h Q ↔ jx_Go jxP d 183 149 [l0, l1, l2, l3, l4, l5, l6, l7] (.int (x + y) :: st) h Q := jg_b (f := fun x y => x + y) rfl
theorem s183_149 : jx_Go jxP d 183 149 [l0, l1, l2, l3, l4, l5, .int x, l7] st h Q ↔ jx_Go jxP d 183 151 [l0, l1, l2, l3, l4, l5, .int x, l7] (.int x :: st) h Q := jg_il rfl rfl
theorem s183_151 : jx_Go jxP d 183 151 [l0, l1, l2, l3, l4, l5, l6, l7] (.int y :: .int x :: .ref a :: st) h Q ↔ ∃ q, jx_ai h a = some q ∧ jx_in x q.1 ∧ jx_Go jxP d 183 152 [l0, l1, l2, l3, l4, l5, l6, l7] st (jx_wi h a q.1 (upd q.2 x.toNatClampNeg y)) Q := jg_iw rfl
theorem s183_152 : jx_Go jxP d 183 152 [l0, l1, l2, .int x, l4, l5, l6, l7] st h Q ↔ jx_Go jxP d 183 155 [l0, l1, l2, .int (x + (nI 1)), l4, l5, l6, l7] st h Q := jg_inc rfl rfl rfl
theorem s183_155 : jx_Go jxP d 183 155 [l0, l1, l2, l3, l4, l5, l6, l7] st h Q ↔ jx_Go jxP d 183 25 [l0, l1, l2, l3, l4, l5, l6, l7] st h Q := jg_go rfl
theorem s183_158 : jx_Go jxP d 183 158 [l0, l1, .int x, l3, l4, l5, l6, l7] st h Q ↔ jx_Go jxP d 183 161 [l0, l1, .int (x + (nI 1)), l3, l4, l5, l6, l7] st h Q := jg_inc rfl rfl rfl
theorem s183_161 : jx_Go jxP d 183 161 [l0, l1, l2, l3, l4, l5, l6, l7] st h Q ↔ jx_Go jxP d 183 18 [l0, l1, l2, l3, l4, l5, l6, l7] st h Q := jg_go rfl
theorem s183_164 : jx_Go jxP d 183 164 [.ref a, l1, l2, l3, l4, l5, l6, l7] st h Q ↔ jx_Go jxP d 183 165 [.ref a, l1, l2, l3, l4, l5, l6, l7] (.ref a :: st) h Q := jg_al rfl rfl
theorem s183_165 : jx_Go jxP d 183 165 [l0, l1, l2, l3, l4, l5, l6, l7] (.ref a :: st) h Q ↔ ∃ v, jx_fl h a 12 33 = some v ∧ jx_Go jxP d 183 168 [l0, l1, l2, l3, l4, l5, l6, l7] (v :: st) h Q := jg_gf rfl
theorem s183_168 : jx_Go jxP d 183 168 [l0, l1, l2, l3, l4, l5, l6, l7] st h Q ↔ jx_Go jxP d 183 171 [l0, l1, l2, l3, l4, l5, l6, l7] (.int (nI 1024) :: st) h Q := jg_c rfl
theorem s183_171 : jx_Go jxP d 183 171 [l0, .int x, l2, l3, l4, l5, l6, l7] st h Q ↔ jx_Go jxP d 183 172 [l0, .int x, l2, l3, l4, l5, l6, l7] (.int x :: st) h Q := jg_il rfl rfl
theorem s183_172 : jx_Go jxP d 183 172 [l0, l1, l2, l3, l4, l5, l6, l7] (.int y :: .int x :: st) h Q ↔ jx_Go jxP d 183 173 [l0, l1, l2, l3, l4, l5, l6, l7] (.int (x * y) :: st) h Q := jg_b (f := fun x y => x * y) rfl
theorem s183_173 : jx_Go jxP d 183 173 [.ref a, l1, l2, l3, l4, l5, l6, l7] st h Q ↔ jx_Go jxP d 183 174 [.ref a, l1, l2, l3, l4, l5, l6, l7] (.ref a :: st) h Q := jg_al rfl rfl
theorem s183_174 : jx_Go jxP (d + 1) 183 174 [l0, l1, l2, l3, l4, l5, l6, l7] (.ref a :: st) h Q ↔ (st.length ≤ 4 ∧ jx_cl h a = some 12 ∧ jx_Go jxP d 154 0 [.ref a] [] h (fun s1 h1 => jx_Go jxP (d + 1) 183 177 [l0, l1, l2, l3, l4, l5, l6, l7] (s1 ++ st) h1 Q)) := jg_callV (as := [.ref a]) rfl rfl rfl rfl rfl
theorem s183_177 : jx_Go jxP d 183 177 [l0, l1, l2, l3, l4, l5, l6, l7] (.int y :: .int x :: st) h Q ↔ jx_Go jxP d 183 178 [l0, l1, l2, l3, l4, l5, l6, l7] (.int (x + y) :: st) h Q := jg_b (f := fun x y => x + y) rfl
theorem s183_178 : jx_Go jxP d 183 178 [l0, l1, l2, l3, l4, l5, l6, l7] (.int x :: .ref a :: st) h Q ↔ ∃ q, jx_ai h a = some q ∧ jx_in x q.1 ∧ jx_Go jxP d 183 179 [l0, l1, l2, l3, l4, l5, l6, l7] (.int (q.2 x.toNatClampNeg) :: st) h Q := jg_ia rfl
theorem s183_179 : jx_Go jxP d 183 179 [l0, l1, l2, l3, l4, l5, l6, l7] [.int x] h Q ↔ Q [.int x] h := jx_rt rfl rfl
-- 184 TalkBenchModel.lessWrong
theorem s184_0 : jx_Go jxP d 184 0 [l0, l1, .int x, l3, l4, l5, l6, l7] st h Q ↔ jx_Go jxP d 184 1 [l0, l1, .int x, l3, l4, l5, l6, l7] (.int x :: st) h Q := jg_il rfl rfl
theorem s184_1 : jx_Go jxP d 184 1 [l0, l1, l2, l3, l4, l5, l6, l7] (.int x :: st) h Q ↔ if x = 0 then jx_Go jxP d 184 4 [l0, l1, l2, l3, l4, l5, l6, l7] st h Q else jx_Go jxP d 184 7 [l0, l1, l2, l3, l4, l5, l6, l7] st h Q := jg_ifN rfl rfl
theorem s184_4 : jx_Go jxP d 184 4 [l0, l1, l2, l3, l4, .int x, l6, l7] st h Q ↔ jx_Go jxP d 184 6 [l0, l1, l2, l3, l4, .int x, l6, l7] (.int x :: st) h Q := jg_il rfl rfl
theorem s184_6 : jx_Go jxP d 184 6 [l0, l1, l2, l3, l4, l5, l6, l7] [.int x] h Q ↔ Q [.int x] h := jx_rt rfl rfl
theorem s184_7 : jx_Go jxP d 184 7 [l0, l1, l2, .int x, l4, l5, l6, l7] st h Q ↔ jx_Go jxP d 184 8 [l0, l1, l2, .int x, l4, l5, l6, l7] (.int x :: st) h Q := jg_il rfl rfl
theorem s184_8 : jx_Go jxP d 184 8 [l0, l1, l2, l3, l4, l5, l6, l7] st h Q ↔ jx_Go jxP d 184 10 [l0, l1, l2, l3, l4, l5, l6, l7] (.int (nI 32) :: st) h Q := jg_c rfl
theorem s184_10 : jx_Go jxP d 184 10 [l0, l1, l2, l3, l4, l5, l6, l7] (.int y :: .int x :: st) h Q ↔ if y ≤ x then jx_Go jxP d 184 22 [l0, l1, l2, l3, l4, l5, l6, l7] st h Q else jx_Go jxP d 184 13 [l0, l1, l2, l3, l4, l5, l6, l7] st h Q := jg_icP rfl rfl
theorem s184_13 : jx_Go jxP d 184 13 [l0, .int x, l2, l3, l4, l5, l6, l7] st h Q ↔ jx_Go jxP d 184 14 [l0, .int x, l2, l3, l4, l5, l6, l7] (.int x :: st) h Q := jg_il rfl rfl
theorem s184_14 : jx_Go jxP d 184 14 [l0, l1, l2, l3, l4, l5, l6, l7] st h Q ↔ jx_Go jxP d 184 16 [l0, l1, l2, l3, l4, l5, l6, l7] (.int (-32) :: st) h Q := jg_c rfl
theorem s184_16 : jx_Go jxP d 184 16 [l0, l1, l2, l3, l4, l5, l6, l7] (.int y :: .int x :: st) h Q ↔ jx_Go jxP d 184 17 [l0, l1, l2, l3, l4, l5, l6, l7] (.int (x &&& y) :: st) h Q := jg_b (f := fun x y => x &&& y) rfl
theorem s184_17 : jx_Go jxP d 184 17 [l0, l1, l2, .int x, l4, l5, l6, l7] st h Q ↔ jx_Go jxP d 184 18 [l0, l1, l2, .int x, l4, l5, l6, l7] (.int x :: st) h Q := jg_il rfl rfl
theorem s184_18 : jx_Go jxP d 184 18 [l0, l1, l2, l3, l4, l5, l6, l7] (.int y :: .int x :: st) h Q ↔ jx_Go jxP d 184 19 [l0, l1, l2, l3, l4, l5, l6, l7] (.int (x ||| y) :: st) h Q := jg_b (f := fun x y => x ||| y) rfl
theorem s184_19 : jx_Go jxP d 184 19 [l0, l1, l2, l3, l4, l5, l6, l7] st h Q ↔ jx_Go jxP d 184 28 [l0, l1, l2, l3, l4, l5, l6, l7] st h Q := jg_go rfl
theorem s184_22 : jx_Go jxP d 184 22 [l0, l1, l2, .int x, l4, l5, l6, l7] st h Q ↔ jx_Go jxP d 184 23 [l0, l1, l2, .int x, l4, l5, l6, l7] (.int x :: st) h Q := jg_il rfl rfl
theorem s184_23 : jx_Go jxP d 184 23 [l0, .int x, l2, l3, l4, l5, l6, l7] st h Q ↔ jx_Go jxP d 184 24 [l0, .int x, l2, l3, l4, l5, l6, l7] (.int x :: st) h Q := jg_il rfl rfl
theorem s184_24 : jx_Go jxP d 184 24 [l0, l1, l2, l3, l4, l5, l6, l7] st h Q ↔ jx_Go jxP d 184 26 [l0, l1, l2, l3, l4, l5, l6, l7] (.int (nI 31) :: st) h Q := jg_c rfl
theorem s184_26 : jx_Go jxP d 184 26 [l0, l1, l2, l3, l4, l5, l6, l7] (.int y :: .int x :: st) h Q ↔ jx_Go jxP d 184 27 [l0, l1, l2, l3, l4, l5, l6, l7] (.int (x &&& y) :: st) h Q := jg_b (f := fun x y => x &&& y) rfl
theorem s184_27 : jx_Go jxP d 184 27 [l0, l1, l2, l3, l4, l5, l6, l7] (.int y :: .int x :: st) h Q ↔ jx_Go jxP d 184 28 [l0, l1, l2, l3, l4, l5, l6, l7] (.int (x ||| y) :: st) h Q := jg_b (f := fun x y => x ||| y) rfl
theorem s184_28 : jx_Go jxP d 184 28 [l0, l1, l2, l3, l4, l5, l6, l7] (.int x :: st) h Q ↔ jx_Go jxP d 184 30 [l0, l1, l2, l3, l4, l5, .int x, l7] st h Q := jg_is rfl rfl
theorem s184_30 : jx_Go jxP d 184 30 [.ref a, l1, l2, l3, l4, l5, l6, l7] st h Q ↔ jx_Go jxP d 184 31 [.ref a, l1, l2, l3, l4, l5, l6, l7] (.ref a :: st) h Q := jg_al rfl rfl
theorem s184_31 : jx_Go jxP d 184 31 [l0, l1, l2, l3, l4, l5, l6, l7] (.ref a :: st) h Q ↔ ∃ v, jx_fl h a 12 33 = some v ∧ jx_Go jxP d 184 34 [l0, l1, l2, l3, l4, l5, l6, l7] (v :: st) h Q := jg_gf rfl
theorem s184_34 : jx_Go jxP d 184 34 [l0, l1, l2, l3, l4, l5, l6, l7] st h Q ↔ jx_Go jxP d 184 37 [l0, l1, l2, l3, l4, l5, l6, l7] (.int (nI 1024) :: st) h Q := jg_c rfl
theorem s184_37 : jx_Go jxP d 184 37 [l0, l1, l2, l3, .int x, l5, l6, l7] st h Q ↔ jx_Go jxP d 184 39 [l0, l1, l2, l3, .int x, l5, l6, l7] (.int x :: st) h Q := jg_il rfl rfl
theorem s184_39 : jx_Go jxP d 184 39 [l0, l1, l2, l3, l4, l5, l6, l7] st h Q ↔ jx_Go jxP d 184 40 [l0, l1, l2, l3, l4, l5, l6, l7] (.int (nI 1) :: st) h Q := jg_c rfl
theorem s184_40 : jx_Go jxP d 184 40 [l0, l1, l2, l3, l4, l5, l6, l7] (.int y :: .int x :: st) h Q ↔ jx_Go jxP d 184 41 [l0, l1, l2, l3, l4, l5, l6, l7] (.int (x - y) :: st) h Q := jg_b (f := fun x y => x - y) rfl
theorem s184_41 : jx_Go jxP d 184 41 [l0, l1, l2, l3, l4, l5, l6, l7] (.int y :: .int x :: st) h Q ↔ jx_Go jxP d 184 42 [l0, l1, l2, l3, l4, l5, l6, l7] (.int (x * y) :: st) h Q := jg_b (f := fun x y => x * y) rfl
theorem s184_42 : jx_Go jxP d 184 42 [l0, .int x, l2, l3, l4, l5, l6, l7] st h Q ↔ jx_Go jxP d 184 43 [l0, .int x, l2, l3, l4, l5, l6, l7] (.int x :: st) h Q := jg_il rfl rfl
theorem s184_43 : jx_Go jxP d 184 43 [l0, l1, l2, .int x, l4, l5, l6, l7] st h Q ↔ jx_Go jxP d 184 44 [l0, l1, l2, .int x, l4, l5, l6, l7] (.int x :: st) h Q := jg_il rfl rfl
theorem s184_44 : jx_Go jxP d 184 44 [l0, l1, l2, l3, l4, l5, l6, l7] (.int y :: .int x :: st) h Q ↔ jx_Go jxP d 184 45 [l0, l1, l2, l3, l4, l5, l6, l7] (.int (x ^^^ y) :: st) h Q := jg_b (f := fun x y => x ^^^ y) rfl
theorem s184_45 : jx_Go jxP d 184 45 [l0, l1, l2, l3, l4, l5, l6, l7] (.int y :: .int x :: st) h Q ↔ jx_Go jxP d 184 46 [l0, l1, l2, l3, l4, l5, l6, l7] (.int (x + y) :: st) h Q := jg_b (f := fun x y => x + y) rfl
theorem s184_46 : jx_Go jxP d 184 46 [l0, l1, l2, l3, l4, l5, l6, l7] (.int x :: .ref a :: st) h Q ↔ ∃ q, jx_ai h a = some q ∧ jx_in x q.1 ∧ jx_Go jxP d 184 47 [l0, l1, l2, l3, l4, l5, l6, l7] (.int (q.2 x.toNatClampNeg) :: st) h Q := jg_ia rfl
theorem s184_47 : jx_Go jxP d 184 47 [.ref a, l1, l2, l3, l4, l5, l6, l7] st h Q ↔ jx_Go jxP d 184 48 [.ref a, l1, l2, l3, l4, l5, l6, l7] (.ref a :: st) h Q := jg_al rfl rfl
theorem s184_48 : jx_Go jxP d 184 48 [l0, l1, l2, l3, l4, l5, l6, l7] (.ref a :: st) h Q ↔ ∃ v, jx_fl h a 12 33 = some v ∧ jx_Go jxP d 184 51 [l0, l1, l2, l3, l4, l5, l6, l7] (v :: st) h Q := jg_gf rfl
theorem s184_51 : jx_Go jxP d 184 51 [l0, l1, l2, l3, l4, l5, l6, l7] st h Q ↔ jx_Go jxP d 184 54 [l0, l1, l2, l3, l4, l5, l6, l7] (.int (nI 1024) :: st) h Q := jg_c rfl
theorem s184_54 : jx_Go jxP d 184 54 [l0, l1, l2, l3, .int x, l5, l6, l7] st h Q ↔ jx_Go jxP d 184 56 [l0, l1, l2, l3, .int x, l5, l6, l7] (.int x :: st) h Q := jg_il rfl rfl
theorem s184_56 : jx_Go jxP d 184 56 [l0, l1, l2, l3, l4, l5, l6, l7] st h Q ↔ jx_Go jxP d 184 57 [l0, l1, l2, l3, l4, l5, l6, l7] (.int (nI 1) :: st) h Q := jg_c rfl
theorem s184_57 : jx_Go jxP d 184 57 [l0, l1, l2, l3, l4, l5, l6, l7] (.int y :: .int x :: st) h Q ↔ jx_Go jxP d 184 58 [l0, l1, l2, l3, l4, l5, l6, l7] (.int (x - y) :: st) h Q := jg_b (f := fun x y => x - y) rfl
theorem s184_58 : jx_Go jxP d 184 58 [l0, l1, l2, l3, l4, l5, l6, l7] (.int y :: .int x :: st) h Q ↔ jx_Go jxP d 184 59 [l0, l1, l2, l3, l4, l5, l6, l7] (.int (x * y) :: st) h Q := jg_b (f := fun x y => x * y) rfl
theorem s184_59 : jx_Go jxP d 184 59 [l0, l1, l2, l3, l4, l5, .int x, l7] st h Q ↔ jx_Go jxP d 184 61 [l0, l1, l2, l3, l4, l5, .int x, l7] (.int x :: st) h Q := jg_il rfl rfl
theorem s184_61 : jx_Go jxP d 184 61 [l0, l1, l2, l3, l4, l5, l6, l7] (.int y :: .int x :: st) h Q ↔ jx_Go jxP d 184 62 [l0, l1, l2, l3, l4, l5, l6, l7] (.int (x + y) :: st) h Q := jg_b (f := fun x y => x + y) rfl
theorem s184_62 : jx_Go jxP d 184 62 [l0, l1, l2, l3, l4, l5, l6, l7] (.int x :: .ref a :: st) h Q ↔ ∃ q, jx_ai h a = some q ∧ jx_in x q.1 ∧ jx_Go jxP d 184 63 [l0, l1, l2, l3, l4, l5, l6, l7] (.int (q.2 x.toNatClampNeg) :: st) h Q := jg_ia rfl
theorem s184_63 : jx_Go jxP d 184 63 [l0, l1, l2, l3, l4, l5, l6, l7] (.int y :: .int x :: st) h Q ↔ jx_Go jxP d 184 64 [l0, l1, l2, l3, l4, l5, l6, l7] (.int (x + y) :: st) h Q := jg_b (f := fun x y => x + y) rfl
theorem s184_64 : jx_Go jxP d 184 64 [l0, l1, l2, l3, l4, l5, l6, l7] (.int x :: st) h Q ↔ jx_Go jxP d 184 66 [l0, l1, l2, l3, l4, l5, l6, .int x] st h Q := jg_is rfl rfl
theorem s184_66 : jx_Go jxP d 184 66 [l0, l1, l2, l3, l4, l5, l6, .int x] st h Q ↔ jx_Go jxP d 184 68 [l0, l1, l2, l3, l4, l5, l6, .int x] (.int x :: st) h Q := jg_il rfl rfl
theorem s184_68 : jx_Go jxP d 184 68 [l0, l1, l2, l3, l4, .int x, l6, l7] st h Q ↔ jx_Go jxP d 184 70 [l0, l1, l2, l3, l4, .int x, l6, l7] (.int x :: st) h Q := jg_il rfl rfl
theorem s184_70 : jx_Go jxP d 184 70 [l0, l1, l2, l3, l4, l5, l6, l7] (.int y :: .int x :: st) h Q ↔ if y ≤ x then jx_Go jxP d 184 78 [l0, l1, l2, l3, l4, l5, l6, l7] st h Q else jx_Go jxP d 184 73 [l0, l1, l2, l3, l4, l5, l6, l7] st h Q := jg_icP rfl rfl
theorem s184_73 : jx_Go jxP d 184 73 [l0, l1, l2, l3, l4, l5, l6, .int x] st h Q ↔ jx_Go jxP d 184 75 [l0, l1, l2, l3, l4, l5, l6, .int x] (.int x :: st) h Q := jg_il rfl rfl
theorem s184_75 : jx_Go jxP d 184 75 [l0, l1, l2, l3, l4, l5, l6, l7] st h Q ↔ jx_Go jxP d 184 80 [l0, l1, l2, l3, l4, l5, l6, l7] st h Q := jg_go rfl
theorem s184_78 : jx_Go jxP d 184 78 [l0, l1, l2, l3, l4, .int x, l6, l7] st h Q ↔ jx_Go jxP d 184 80 [l0, l1, l2, l3, l4, .int x, l6, l7] (.int x :: st) h Q := jg_il rfl rfl
theorem s184_80 : jx_Go jxP d 184 80 [l0, l1, l2, l3, l4, l5, l6, l7] [.int x] h Q ↔ Q [.int x] h := jx_rt rfl rfl
-- 185 TalkBenchModel.tell
theorem s185_0 : jx_Go jxP d 185 0 [.ref a, l1] st h Q ↔ jx_Go jxP d 185 1 [.ref a, l1] (.ref a :: st) h Q := jg_al rfl rfl
theorem s185_1 : jx_Go jxP d 185 1 [l0, l1] (.ref a :: st) h Q ↔ ∃ v, jx_fl h a 12 11 = some v ∧ jx_Go jxP d 185 4 [l0, l1] (v :: st) h Q := jg_gf rfl
theorem s185_4 : jx_Go jxP d 185 4 [l0, l1] st h Q ↔ jx_Go jxP d 185 6 [l0, l1] (.int (nI 120) :: st) h Q := jg_c rfl
theorem s185_6 : jx_Go jxP d 185 6 [l0, l1] (.int y :: .int x :: st) h Q ↔ if x = y then jx_Go jxP d 185 9 [l0, l1] st h Q else jx_Go jxP d 185 16 [l0, l1] st h Q := jg_icN rfl rfl
theorem s185_9 : jx_Go jxP d 185 9 [.ref a, l1] st h Q ↔ jx_Go jxP d 185 10 [.ref a, l1] (.ref a :: st) h Q := jg_al rfl rfl
theorem s185_10 : jx_Go jxP d 185 10 [l0, l1] st h Q ↔ jx_Go jxP d 185 12 [l0, l1] (.int (-5) :: st) h Q := jg_c rfl
theorem s185_12 : jx_Go jxP (d + 1) 185 12 [l0, l1] (.int x0 :: .ref a :: st) h Q ↔ (st.length ≤ 4 ∧ jx_cl h a = some 12 ∧ jx_Go jxP d 130 0 [.ref a, .int x0] [] h (fun s1 h1 => jx_Go jxP (d + 1) 185 15 [l0, l1] (s1 ++ st) h1 Q)) := jg_callV (as := [.int x0, .ref a]) rfl rfl rfl rfl rfl
theorem s185_15 : jx_Go jxP d 185 15 [l0, l1] [.int x] h Q ↔ Q [.int x] h := jx_rt rfl rfl
theorem s185_16 : jx_Go jxP d 185 16 [.ref a, l1] st h Q ↔ jx_Go jxP d 185 17 [.ref a, l1] (.ref a :: st) h Q := jg_al rfl rfl
theorem s185_17 : jx_Go jxP d 185 17 [l0, l1] (.ref a :: st) h Q ↔ ∃ v, jx_fl h a 12 12 = some v ∧ jx_Go jxP d 185 20 [l0, l1] (v :: st) h Q := jg_gf rfl
theorem s185_20 : jx_Go jxP d 185 20 [.ref a, l1] st h Q ↔ jx_Go jxP d 185 21 [.ref a, l1] (.ref a :: st) h Q := jg_al rfl rfl
theorem s185_21 : jx_Go jxP d 185 21 [l0, l1] (.ref a :: st) h Q ↔ ∃ v, jx_fl h a 12 11 = some v ∧ jx_Go jxP d 185 24 [l0, l1] (v :: st) h Q := jg_gf rfl
theorem s185_24 : jx_Go jxP d 185 24 [l0, .int x] st h Q ↔ jx_Go jxP d 185 25 [l0, .int x] (.int x :: st) h Q := jg_il rfl rfl
theorem s185_25 : jx_Go jxP d 185 25 [l0, l1] (.int y :: .int x :: .ref a :: st) h Q ↔ ∃ q, jx_ai h a = some q ∧ jx_in x q.1 ∧ jx_Go jxP d 185 26 [l0, l1] st (jx_wi h a q.1 (upd q.2 x.toNatClampNeg y)) Q := jg_iw rfl
theorem s185_26 : jx_Go jxP d 185 26 [.ref a, l1] st h Q ↔ jx_Go jxP d 185 27 [.ref a, l1] (.ref a :: st) h Q := jg_al rfl rfl
theorem s185_27i : jx_Go jxP d 185 27 [l0, l1] (.int x :: st) h Q ↔ jx_Go jxP d 185 28 [l0, l1] (.int x :: .int x :: st) h Q := jg_dI rfl
theorem s185_27r : jx_Go jxP d 185 27 [l0, l1] (.ref a :: st) h Q ↔ jx_Go jxP d 185 28 [l0, l1] (.ref a :: .ref a :: st) h Q := jg_dR rfl
theorem s185_28 : jx_Go jxP d 185 28 [l0, l1] (.ref a :: st) h Q ↔ ∃ v, jx_fl h a 12 11 = some v ∧ jx_Go jxP d 185 31 [l0, l1] (v :: st) h Q := jg_gf rfl
theorem s185_31 : jx_Go jxP d 185 31 [l0, l1] st h Q ↔ jx_Go jxP d 185 32 [l0, l1] (.int (nI 1) :: st) h Q := jg_c rfl
theorem s185_32 : jx_Go jxP d 185 32 [l0, l1] (.int y :: .int x :: st) h Q ↔ jx_Go jxP d 185 33 [l0, l1] (.int (x + y) :: st) h Q := jg_b (f := fun x y => x + y) rfl
theorem s185_33 : jx_Go jxP d 185 33 [l0, l1] (.int x :: .ref a :: st) h Q ↔ ∃ v, jx_fl h a 12 11 = some v ∧ jx_Go jxP d 185 36 [l0, l1] st (jx_uf h a 11 (.int x)) Q := jg_pfI rfl
theorem s185_36 : jx_Go jxP d 185 36 [.ref a, l1] st h Q ↔ jx_Go jxP d 185 37 [.ref a, l1] (.ref a :: st) h Q := jg_al rfl rfl
theorem s185_37 : jx_Go jxP d 185 37 [l0, l1] (.ref a :: st) h Q ↔ ∃ v, jx_fl h a 12 11 = some v ∧ jx_Go jxP d 185 40 [l0, l1] (v :: st) h Q := jg_gf rfl
theorem s185_40 : jx_Go jxP d 185 40 [l0, l1] [.int x] h Q ↔ Q [.int x] h := jx_rt rfl rfl
-- 186 TalkBenchModel.check
theorem s186_0 : jx_Go jxP d 186 0 [.ref a, l1, l2, l3, l4, l5, l6, l7, l8, l9, l10] st h Q ↔ jx_Go jxP d 186 1 [.ref a, l1, l2, l3, l4, l5, l6, l7, l8, l9, l10] (.ref a :: st) h Q := jg_al rfl rfl
theorem s186_1 : jx_Go jxP d 186 1 [l0, l1, l2, l3, l4, l5, l6, l7, l8, l9, l10] (.ref a :: st) h Q ↔ ∃ v, jx_fl h a 12 11 = some v ∧ jx_Go jxP d 186 4 [l0, l1, l2, l3, l4, l5, l6, l7, l8, l9, l10] (v :: st) h Q := jg_gf rfl
theorem s186_4 : jx_Go jxP d 186 4 [l0, l1, l2, l3, l4, l5, l6, l7, l8, l9, l10] (.int x :: st) h Q ↔ jx_Go jxP d 186 5 [l0, .int x, l2, l3, l4, l5, l6, l7, l8, l9, l10] st h Q := jg_is rfl rfl
theorem s186_5 : jx_Go jxP d 186 5 [.ref a, l1, l2, l3, l4, l5, l6, l7, l8, l9, l10] st h Q ↔ jx_Go jxP d 186 6 [.ref a, l1, l2, l3, l4, l5, l6, l7, l8, l9, l10] (.ref a :: st) h Q := jg_al rfl rfl
theorem s186_6 : jx_Go jxP d 186 6 [l0, l1, l2, l3, l4, l5, l6, l7, l8, l9, l10] st h Q ↔ jx_Go jxP d 186 7 [l0, l1, l2, l3, l4, l5, l6, l7, l8, l9, l10] (.int (nI 0) :: st) h Q := jg_c rfl
theorem s186_7 : jx_Go jxP d 186 7 [l0, l1, l2, l3, l4, l5, l6, l7, l8, l9, l10] (.int x :: .ref a :: st) h Q ↔ ∃ v, jx_fl h a 12 11 = some v ∧ jx_Go jxP d 186 10 [l0, l1, l2, l3, l4, l5, l6, l7, l8, l9, l10] st (jx_uf h a 11 (.int x)) Q := jg_pfI rfl
theorem s186_10 : jx_Go jxP d 186 10 [l0, l1, l2, l3, l4, l5, l6, l7, l8, l9, l10] st h Q ↔ jx_Go jxP d 186 11 [l0, l1, l2, l3, l4, l5, l6, l7, l8, l9, l10] (.int (nI 1) :: st) h Q := jg_c rfl
theorem s186_11 : jx_Go jxP d 186 11 [l0, l1, l2, l3, l4, l5, l6, l7, l8, l9, l10] (.int x :: st) h Q ↔ jx_Go jxP d 186 12 [l0, l1, .int x, l3, l4, l5, l6, l7, l8, l9, l10] st h Q := jg_is rfl rfl
theorem s186_12 : jx_Go jxP d 186 12 [.ref a, l1, l2, l3, l4, l5, l6, l7, l8, l9, l10] st h Q ↔ jx_Go jxP d 186 13 [.ref a, l1, l2, l3, l4, l5, l6, l7, l8, l9, l10] (.ref a :: st) h Q := jg_al rfl rfl
theorem s186_13 : jx_Go jxP d 186 13 [l0, l1, l2, l3, l4, l5, l6, l7, l8, l9, l10] (.ref a :: st) h Q ↔ ∃ v, jx_fl h a 12 34 = some v ∧ jx_Go jxP d 186 16 [l0, l1, l2, l3, l4, l5, l6, l7, l8, l9, l10] (v :: st) h Q := jg_gf rfl
theorem s186_16 : jx_Go jxP d 186 16 [l0, l1, l2, l3, l4, l5, l6, l7, l8, l9, l10] st h Q ↔ jx_Go jxP d 186 17 [l0, l1, l2, l3, l4, l5, l6, l7, l8, l9, l10] (.int (nI 0) :: st) h Q := jg_c rfl
theorem s186_17 : jx_Go jxP d 186 17 [.ref a, l1, l2, l3, l4, l5, l6, l7, l8, l9, l10] st h Q ↔ jx_Go jxP d 186 18 [.ref a, l1, l2, l3, l4, l5, l6, l7, l8, l9, l10] (.ref a :: st) h Q := jg_al rfl rfl
theorem s186_18 : jx_Go jxP (d + 1) 186 18 [l0, l1, l2, l3, l4, l5, l6, l7, l8, l9, l10] (.ref a :: st) h Q ↔ (st.length ≤ 4 ∧ jx_cl h a = some 12 ∧ jx_Go jxP d 154 0 [.ref a] [] h (fun s1 h1 => jx_Go jxP (d + 1) 186 21 [l0, l1, l2, l3, l4, l5, l6, l7, l8, l9, l10] (s1 ++ st) h1 Q)) := jg_callV (as := [.ref a]) rfl rfl rfl rfl rfl
theorem s186_21 : jx_Go jxP d 186 21 [l0, l1, l2, l3, l4, l5, l6, l7, l8, l9, l10] (.int y :: .int x :: .ref a :: st) h Q ↔ ∃ q, jx_ai h a = some q ∧ jx_in x q.1 ∧ jx_Go jxP d 186 22 [l0, l1, l2, l3, l4, l5, l6, l7, l8, l9, l10] st (jx_wi h a q.1 (upd q.2 x.toNatClampNeg y)) Q := jg_iw rfl
theorem s186_22 : jx_Go jxP d 186 22 [.ref a, l1, l2, l3, l4, l5, l6, l7, l8, l9, l10] st h Q ↔ jx_Go jxP d 186 23 [.ref a, l1, l2, l3, l4, l5, l6, l7, l8, l9, l10] (.ref a :: st) h Q := jg_al rfl rfl
theorem s186_23 : jx_Go jxP d 186 23 [l0, l1, l2, l3, l4, l5, l6, l7, l8, l9, l10] (.ref a :: st) h Q ↔ ∃ v, jx_fl h a 12 35 = some v ∧ jx_Go jxP d 186 26 [l0, l1, l2, l3, l4, l5, l6, l7, l8, l9, l10] (v :: st) h Q := jg_gf rfl
theorem s186_26 : jx_Go jxP d 186 26 [l0, l1, l2, l3, l4, l5, l6, l7, l8, l9, l10] st h Q ↔ jx_Go jxP d 186 27 [l0, l1, l2, l3, l4, l5, l6, l7, l8, l9, l10] (.int (nI 0) :: st) h Q := jg_c rfl
theorem s186_27 : jx_Go jxP d 186 27 [l0, l1, l2, l3, l4, l5, l6, l7, l8, l9, l10] st h Q ↔ jx_Go jxP d 186 28 [l0, l1, l2, l3, l4, l5, l6, l7, l8, l9, l10] (.int (nI 0) :: st) h Q := jg_c rfl
theorem s186_28 : jx_Go jxP d 186 28 [l0, l1, l2, l3, l4, l5, l6, l7, l8, l9, l10] (.int y :: .int x :: .ref a :: st) h Q ↔ ∃ q, jx_ai h a = some q ∧ jx_in x q.1 ∧ jx_Go jxP d 186 29 [l0, l1, l2, l3, l4, l5, l6, l7, l8, l9, l10] st (jx_wi h a q.1 (upd q.2 x.toNatClampNeg y)) Q := jg_iw rfl
theorem s186_29 : jx_Go jxP d 186 29 [l0, l1, l2, l3, l4, l5, l6, l7, l8, l9, l10] st h Q ↔ jx_Go jxP d 186 30 [l0, l1, l2, l3, l4, l5, l6, l7, l8, l9, l10] (.int (nI 0) :: st) h Q := jg_c rfl
theorem s186_30 : jx_Go jxP d 186 30 [l0, l1, l2, l3, l4, l5, l6, l7, l8, l9, l10] (.int x :: st) h Q ↔ jx_Go jxP d 186 31 [l0, l1, l2, .int x, l4, l5, l6, l7, l8, l9, l10] st h Q := jg_is rfl rfl
theorem s186_31 : jx_Go jxP d 186 31 [l0, l1, l2, l3, l4, l5, l6, l7, l8, l9, l10] st h Q ↔ jx_Go jxP d 186 32 [l0, l1, l2, l3, l4, l5, l6, l7, l8, l9, l10] (.int (nI 0) :: st) h Q := jg_c rfl
theorem s186_32 : jx_Go jxP d 186 32 [l0, l1, l2, l3, l4, l5, l6, l7, l8, l9, l10] (.int x :: st) h Q ↔ jx_Go jxP d 186 34 [l0, l1, l2, l3, .int x, l5, l6, l7, l8, l9, l10] st h Q := jg_is rfl rfl
theorem s186_34 : jx_Go jxP d 186 34 [l0, l1, .int x, l3, l4, l5, l6, l7, l8, l9, l10] st h Q ↔ jx_Go jxP d 186 35 [l0, l1, .int x, l3, l4, l5, l6, l7, l8, l9, l10] (.int x :: st) h Q := jg_il rfl rfl
theorem s186_35 : jx_Go jxP d 186 35 [l0, l1, l2, l3, l4, l5, l6, l7, l8, l9, l10] (.int x :: st) h Q ↔ if x ≤ 0 then jx_Go jxP d 186 304 [l0, l1, l2, l3, l4, l5, l6, l7, l8, l9, l10] st h Q else jx_Go jxP d 186 38 [l0, l1, l2, l3, l4, l5, l6, l7, l8, l9, l10] st h Q := jg_ifP rfl rfl
theorem s186_38 : jx_Go jxP d 186 38 [l0, l1, .int x, l3, l4, l5, l6, l7, l8, l9, l10] st h Q ↔ jx_Go jxP d 186 41 [l0, l1, .int (x + (-1)), l3, l4, l5, l6, l7, l8, l9, l10] st h Q := jg_inc rfl rfl rfl
theorem s186_41 : jx_Go jxP d 186 41 [.ref a, l1, l2, l3, l4, l5, l6, l7, l8, l9, l10] st h Q ↔ jx_Go jxP d 186 42 [.ref a, l1, l2, l3, l4, l5, l6, l7, l8, l9, l10] (.ref a :: st) h Q := jg_al rfl rfl
theorem s186_42 : jx_Go jxP d 186 42 [l0, l1, l2, l3, l4, l5, l6, l7, l8, l9, l10] (.ref a :: st) h Q ↔ ∃ v, jx_fl h a 12 34 = some v ∧ jx_Go jxP d 186 45 [l0, l1, l2, l3, l4, l5, l6, l7, l8, l9, l10] (v :: st) h Q := jg_gf rfl
theorem s186_45 : jx_Go jxP d 186 45 [l0, l1, .int x, l3, l4, l5, l6, l7, l8, l9, l10] st h Q ↔ jx_Go jxP d 186 46 [l0, l1, .int x, l3, l4, l5, l6, l7, l8, l9, l10] (.int x :: st) h Q := jg_il rfl rfl
theorem s186_46 : jx_Go jxP d 186 46 [l0, l1, l2, l3, l4, l5, l6, l7, l8, l9, l10] (.int x :: .ref a :: st) h Q ↔ ∃ q, jx_ai h a = some q ∧ jx_in x q.1 ∧ jx_Go jxP d 186 47 [l0, l1, l2, l3, l4, l5, l6, l7, l8, l9, l10] (.int (q.2 x.toNatClampNeg) :: st) h Q := jg_ia rfl
theorem s186_47 : jx_Go jxP d 186 47 [l0, l1, l2, l3, l4, l5, l6, l7, l8, l9, l10] (.int x :: st) h Q ↔ jx_Go jxP d 186 49 [l0, l1, l2, l3, l4, .int x, l6, l7, l8, l9, l10] st h Q := jg_is rfl rfl
theorem s186_49 : jx_Go jxP d 186 49 [.ref a, l1, l2, l3, l4, l5, l6, l7, l8, l9, l10] st h Q ↔ jx_Go jxP d 186 50 [.ref a, l1, l2, l3, l4, l5, l6, l7, l8, l9, l10] (.ref a :: st) h Q := jg_al rfl rfl
theorem s186_50 : jx_Go jxP d 186 50 [l0, l1, l2, l3, l4, l5, l6, l7, l8, l9, l10] (.ref a :: st) h Q ↔ ∃ v, jx_fl h a 12 35 = some v ∧ jx_Go jxP d 186 53 [l0, l1, l2, l3, l4, l5, l6, l7, l8, l9, l10] (v :: st) h Q := jg_gf rfl
theorem s186_53 : jx_Go jxP d 186 53 [l0, l1, .int x, l3, l4, l5, l6, l7, l8, l9, l10] st h Q ↔ jx_Go jxP d 186 54 [l0, l1, .int x, l3, l4, l5, l6, l7, l8, l9, l10] (.int x :: st) h Q := jg_il rfl rfl
theorem s186_54 : jx_Go jxP d 186 54 [l0, l1, l2, l3, l4, l5, l6, l7, l8, l9, l10] (.int x :: .ref a :: st) h Q ↔ ∃ q, jx_ai h a = some q ∧ jx_in x q.1 ∧ jx_Go jxP d 186 55 [l0, l1, l2, l3, l4, l5, l6, l7, l8, l9, l10] (.int (q.2 x.toNatClampNeg) :: st) h Q := jg_ia rfl
theorem s186_55 : jx_Go jxP d 186 55 [l0, l1, l2, l3, l4, l5, l6, l7, l8, l9, l10] (.int x :: st) h Q ↔ jx_Go jxP d 186 57 [l0, l1, l2, l3, l4, l5, .int x, l7, l8, l9, l10] st h Q := jg_is rfl rfl
theorem s186_57 : jx_Go jxP d 186 57 [l0, l1, l2, l3, l4, l5, l6, l7, l8, l9, l10] st h Q ↔ jx_Go jxP d 186 58 [l0, l1, l2, l3, l4, l5, l6, l7, l8, l9, l10] (.int (nI 2) :: st) h Q := jg_c rfl
theorem s186_58 : jx_Go jxP d 186 58 [l0, l1, l2, .int x, l4, l5, l6, l7, l8, l9, l10] st h Q ↔ jx_Go jxP d 186 59 [l0, l1, l2, .int x, l4, l5, l6, l7, l8, l9, l10] (.int x :: st) h Q := jg_il rfl rfl
theorem s186_59 : jx_Go jxP d 186 59 [l0, l1, l2, l3, l4, l5, l6, l7, l8, l9, l10] (.int y :: .int x :: st) h Q ↔ jx_Go jxP d 186 60 [l0, l1, l2, l3, l4, l5, l6, l7, l8, l9, l10] (.int (x * y) :: st) h Q := jg_b (f := fun x y => x * y) rfl
theorem s186_60 : jx_Go jxP d 186 60 [l0, l1, l2, l3, l4, l5, l6, l7, l8, l9, l10] st h Q ↔ jx_Go jxP d 186 61 [l0, l1, l2, l3, l4, l5, l6, l7, l8, l9, l10] (.int (nI 1) :: st) h Q := jg_c rfl
theorem s186_61 : jx_Go jxP d 186 61 [l0, l1, l2, l3, l4, l5, l6, l7, l8, l9, l10] (.int y :: .int x :: st) h Q ↔ jx_Go jxP d 186 62 [l0, l1, l2, l3, l4, l5, l6, l7, l8, l9, l10] (.int (x + y) :: st) h Q := jg_b (f := fun x y => x + y) rfl
theorem s186_62 : jx_Go jxP d 186 62 [l0, .int x, l2, l3, l4, l5, l6, l7, l8, l9, l10] st h Q ↔ jx_Go jxP d 186 63 [l0, .int x, l2, l3, l4, l5, l6, l7, l8, l9, l10] (.int x :: st) h Q := jg_il rfl rfl
theorem s186_63 : jx_Go jxP d 186 63 [l0, l1, l2, l3, l4, l5, l6, l7, l8, l9, l10] (.int y :: .int x :: st) h Q ↔ if x < y then jx_Go jxP d 186 71 [l0, l1, l2, l3, l4, l5, l6, l7, l8, l9, l10] st h Q else jx_Go jxP d 186 66 [l0, l1, l2, l3, l4, l5, l6, l7, l8, l9, l10] st h Q := jg_icP rfl rfl
theorem s186_66 : jx_Go jxP d 186 66 [l0, l1, l2, l3, l4, l5, l6, l7, l8, l9, l10] st h Q ↔ jx_Go jxP d 186 68 [l0, l1, l2, l3, l4, l5, l6, l7, l8, l9, l10] (.int (nI 100) :: st) h Q := jg_c rfl
theorem s186_68 : jx_Go jxP d 186 68 [l0, l1, l2, .int x, l4, l5, l6, l7, l8, l9, l10] st h Q ↔ jx_Go jxP d 186 69 [l0, l1, l2, .int x, l4, l5, l6, l7, l8, l9, l10] (.int x :: st) h Q := jg_il rfl rfl
theorem s186_69 : jx_Go jxP d 186 69 [l0, l1, l2, l3, l4, l5, l6, l7, l8, l9, l10] (.int y :: .int x :: st) h Q ↔ jx_Go jxP d 186 70 [l0, l1, l2, l3, l4, l5, l6, l7, l8, l9, l10] (.int (x + y) :: st) h Q := jg_b (f := fun x y => x + y) rfl
theorem s186_70 : jx_Go jxP d 186 70 [l0, l1, l2, l3, l4, l5, l6, l7, l8, l9, l10] [.int x] h Q ↔ Q [.int x] h := jx_rt rfl rfl
theorem s186_71 : jx_Go jxP d 186 71 [.ref a, l1, l2, l3, l4, l5, l6, l7, l8, l9, l10] st h Q ↔ jx_Go jxP d 186 72 [.ref a, l1, l2, l3, l4, l5, l6, l7, l8, l9, l10] (.ref a :: st) h Q := jg_al rfl rfl
theorem s186_72 : jx_Go jxP d 186 72 [l0, l1, l2, l3, l4, l5, l6, l7, l8, l9, l10] (.ref a :: st) h Q ↔ ∃ v, jx_fl h a 12 12 = some v ∧ jx_Go jxP d 186 75 [l0, l1, l2, l3, l4, l5, l6, l7, l8, l9, l10] (v :: st) h Q := jg_gf rfl
theorem s186_75 : jx_Go jxP d 186 75 [l0, l1, l2, l3, l4, l5, l6, l7, l8, l9, l10] st h Q ↔ jx_Go jxP d 186 76 [l0, l1, l2, l3, l4, l5, l6, l7, l8, l9, l10] (.int (nI 2) :: st) h Q := jg_c rfl
theorem s186_76 : jx_Go jxP d 186 76 [l0, l1, l2, .int x, l4, l5, l6, l7, l8, l9, l10] st h Q ↔ jx_Go jxP d 186 77 [l0, l1, l2, .int x, l4, l5, l6, l7, l8, l9, l10] (.int x :: st) h Q := jg_il rfl rfl
theorem s186_77 : jx_Go jxP d 186 77 [l0, l1, l2, l3, l4, l5, l6, l7, l8, l9, l10] (.int y :: .int x :: st) h Q ↔ jx_Go jxP d 186 78 [l0, l1, l2, l3, l4, l5, l6, l7, l8, l9, l10] (.int (x * y) :: st) h Q := jg_b (f := fun x y => x * y) rfl
theorem s186_78 : jx_Go jxP d 186 78 [l0, l1, l2, l3, l4, l5, l6, l7, l8, l9, l10] (.int x :: .ref a :: st) h Q ↔ ∃ q, jx_ai h a = some q ∧ jx_in x q.1 ∧ jx_Go jxP d 186 79 [l0, l1, l2, l3, l4, l5, l6, l7, l8, l9, l10] (.int (q.2 x.toNatClampNeg) :: st) h Q := jg_ia rfl
theorem s186_79 : jx_Go jxP d 186 79 [l0, l1, l2, l3, l4, l5, l6, l7, l8, l9, l10] (.int x :: st) h Q ↔ jx_Go jxP d 186 81 [l0, l1, l2, l3, l4, l5, l6, .int x, l8, l9, l10] st h Q := jg_is rfl rfl
theorem s186_81 : jx_Go jxP d 186 81 [.ref a, l1, l2, l3, l4, l5, l6, l7, l8, l9, l10] st h Q ↔ jx_Go jxP d 186 82 [.ref a, l1, l2, l3, l4, l5, l6, l7, l8, l9, l10] (.ref a :: st) h Q := jg_al rfl rfl
theorem s186_82 : jx_Go jxP d 186 82 [l0, l1, l2, l3, l4, l5, l6, l7, l8, l9, l10] (.ref a :: st) h Q ↔ ∃ v, jx_fl h a 12 12 = some v ∧ jx_Go jxP d 186 85 [l0, l1, l2, l3, l4, l5, l6, l7, l8, l9, l10] (v :: st) h Q := jg_gf rfl
theorem s186_85 : jx_Go jxP d 186 85 [l0, l1, l2, l3, l4, l5, l6, l7, l8, l9, l10] st h Q ↔ jx_Go jxP d 186 86 [l0, l1, l2, l3, l4, l5, l6, l7, l8, l9, l10] (.int (nI 2) :: st) h Q := jg_c rfl
theorem s186_86 : jx_Go jxP d 186 86 [l0, l1, l2, .int x, l4, l5, l6, l7, l8, l9, l10] st h Q ↔ jx_Go jxP d 186 87 [l0, l1, l2, .int x, l4, l5, l6, l7, l8, l9, l10] (.int x :: st) h Q := jg_il rfl rfl
theorem s186_87 : jx_Go jxP d 186 87 [l0, l1, l2, l3, l4, l5, l6, l7, l8, l9, l10] (.int y :: .int x :: st) h Q ↔ jx_Go jxP d 186 88 [l0, l1, l2, l3, l4, l5, l6, l7, l8, l9, l10] (.int (x * y) :: st) h Q := jg_b (f := fun x y => x * y) rfl
theorem s186_88 : jx_Go jxP d 186 88 [l0, l1, l2, l3, l4, l5, l6, l7, l8, l9, l10] st h Q ↔ jx_Go jxP d 186 89 [l0, l1, l2, l3, l4, l5, l6, l7, l8, l9, l10] (.int (nI 1) :: st) h Q := jg_c rfl
theorem s186_89 : jx_Go jxP d 186 89 [l0, l1, l2, l3, l4, l5, l6, l7, l8, l9, l10] (.int y :: .int x :: st) h Q ↔ jx_Go jxP d 186 90 [l0, l1, l2, l3, l4, l5, l6, l7, l8, l9, l10] (.int (x + y) :: st) h Q := jg_b (f := fun x y => x + y) rfl
theorem s186_90 : jx_Go jxP d 186 90 [l0, l1, l2, l3, l4, l5, l6, l7, l8, l9, l10] (.int x :: .ref a :: st) h Q ↔ ∃ q, jx_ai h a = some q ∧ jx_in x q.1 ∧ jx_Go jxP d 186 91 [l0, l1, l2, l3, l4, l5, l6, l7, l8, l9, l10] (.int (q.2 x.toNatClampNeg) :: st) h Q := jg_ia rfl
theorem s186_91 : jx_Go jxP d 186 91 [l0, l1, l2, l3, l4, l5, l6, l7, l8, l9, l10] (.int x :: st) h Q ↔ jx_Go jxP d 186 93 [l0, l1, l2, l3, l4, l5, l6, l7, .int x, l9, l10] st h Q := jg_is rfl rfl
theorem s186_93 : jx_Go jxP d 186 93 [l0, l1, l2, l3, l4, l5, l6, .int x, l8, l9, l10] st h Q ↔ jx_Go jxP d 186 95 [l0, l1, l2, l3, l4, l5, l6, .int x, l8, l9, l10] (.int x :: st) h Q := jg_il rfl rfl
theorem s186_95 : jx_Go jxP d 186 95 [l0, l1, l2, l3, l4, l5, l6, l7, l8, l9, l10] st h Q ↔ jx_Go jxP d 186 96 [l0, l1, l2, l3, l4, l5, l6, l7, l8, l9, l10] (.int (nI 2) :: st) h Q := jg_c rfl
theorem s186_96 : jx_Go jxP d 186 96 [l0, l1, l2, l3, l4, l5, l6, l7, l8, l9, l10] (.int y :: .int x :: st) h Q ↔ if x = y then jx_Go jxP d 186 99 [l0, l1, l2, l3, l4, l5, l6, l7, l8, l9, l10] st h Q else jx_Go jxP d 186 151 [l0, l1, l2, l3, l4, l5, l6, l7, l8, l9, l10] st h Q := jg_icN rfl rfl
theorem s186_99 : jx_Go jxP d 186 99 [l0, l1, l2, l3, l4, l5, l6, l7, .int x, l9, l10] st h Q ↔ jx_Go jxP d 186 101 [l0, l1, l2, l3, l4, l5, l6, l7, .int x, l9, l10] (.int x :: st) h Q := jg_il rfl rfl
theorem s186_101 : jx_Go jxP d 186 101 [l0, l1, l2, l3, l4, l5, l6, l7, l8, l9, l10] (.int x :: st) h Q ↔ if x < 0 then jx_Go jxP d 186 127 [l0, l1, l2, l3, l4, l5, l6, l7, l8, l9, l10] st h Q else jx_Go jxP d 186 104 [l0, l1, l2, l3, l4, l5, l6, l7, l8, l9, l10] st h Q := jg_ifP rfl rfl
theorem s186_104 : jx_Go jxP d 186 104 [l0, l1, l2, l3, l4, l5, l6, l7, .int x, l9, l10] st h Q ↔ jx_Go jxP d 186 106 [l0, l1, l2, l3, l4, l5, l6, l7, .int x, l9, l10] (.int x :: st) h Q := jg_il rfl rfl
theorem s186_106 : jx_Go jxP d 186 106 [l0, l1, l2, l3, l4, l5, l6, l7, l8, l9, l10] st h Q ↔ jx_Go jxP d 186 107 [l0, l1, l2, l3, l4, l5, l6, l7, l8, l9, l10] (.int (nI 1) :: st) h Q := jg_c rfl
theorem s186_107 : jx_Go jxP d 186 107 [l0, l1, l2, l3, l4, l5, l6, l7, l8, l9, l10] (.int y :: .int x :: st) h Q ↔ if y < x then jx_Go jxP d 186 127 [l0, l1, l2, l3, l4, l5, l6, l7, l8, l9, l10] st h Q else jx_Go jxP d 186 110 [l0, l1, l2, l3, l4, l5, l6, l7, l8, l9, l10] st h Q := jg_icP rfl rfl
theorem s186_110 : jx_Go jxP d 186 110 [.ref a, l1, l2, l3, l4, l5, l6, l7, l8, l9, l10] st h Q ↔ jx_Go jxP d 186 111 [.ref a, l1, l2, l3, l4, l5, l6, l7, l8, l9, l10] (.ref a :: st) h Q := jg_al rfl rfl
theorem s186_111 : jx_Go jxP d 186 111 [l0, l1, l2, l3, l4, .int x, l6, l7, l8, l9, l10] st h Q ↔ jx_Go jxP d 186 113 [l0, l1, l2, l3, l4, .int x, l6, l7, l8, l9, l10] (.int x :: st) h Q := jg_il rfl rfl
theorem s186_113 : jx_Go jxP (d + 1) 186 113 [l0, l1, l2, l3, l4, l5, l6, l7, l8, l9, l10] (.int x0 :: .ref a :: st) h Q ↔ (st.length ≤ 4 ∧ jx_cl h a = some 12 ∧ jx_Go jxP d 155 0 [.ref a, .int x0, jx_u, jx_u, jx_u] [] h (fun s1 h1 => jx_Go jxP (d + 1) 186 116 [l0, l1, l2, l3, l4, l5, l6, l7, l8, l9, l10] (s1 ++ st) h1 Q)) := jg_callV (as := [.int x0, .ref a]) rfl rfl rfl rfl rfl
theorem s186_116 : jx_Go jxP d 186 116 [l0, l1, l2, l3, l4, l5, l6, l7, l8, l9, l10] st h Q ↔ jx_Go jxP d 186 117 [l0, l1, l2, l3, l4, l5, l6, l7, l8, l9, l10] (.int (nI 1) :: st) h Q := jg_c rfl
theorem s186_117 : jx_Go jxP d 186 117 [l0, l1, l2, l3, l4, l5, l6, l7, .int x, l9, l10] st h Q ↔ jx_Go jxP d 186 119 [l0, l1, l2, l3, l4, l5, l6, l7, .int x, l9, l10] (.int x :: st) h Q := jg_il rfl rfl
theorem s186_119 : jx_Go jxP d 186 119 [l0, l1, l2, l3, l4, l5, l6, l7, l8, l9, l10] (.int y :: .int x :: st) h Q ↔ jx_Go jxP d 186 120 [l0, l1, l2, l3, l4, l5, l6, l7, l8, l9, l10] (.int (x - y) :: st) h Q := jg_b (f := fun x y => x - y) rfl
theorem s186_120 : jx_Go jxP d 186 120 [l0, l1, l2, l3, l4, l5, l6, l7, l8, l9, l10] (.int y :: .int x :: st) h Q ↔ jx_Go jxP d 186 121 [l0, l1, l2, l3, l4, l5, l6, l7, l8, l9, l10] (.int (x >>> (y &&& 31)) :: st) h Q := jg_b (f := fun x y => x >>> (y &&& 31)) rfl
theorem s186_121 : jx_Go jxP d 186 121 [l0, l1, l2, l3, l4, l5, l6, l7, l8, l9, l10] st h Q ↔ jx_Go jxP d 186 122 [l0, l1, l2, l3, l4, l5, l6, l7, l8, l9, l10] (.int (nI 1) :: st) h Q := jg_c rfl
theorem s186_122 : jx_Go jxP d 186 122 [l0, l1, l2, l3, l4, l5, l6, l7, l8, l9, l10] (.int y :: .int x :: st) h Q ↔ jx_Go jxP d 186 123 [l0, l1, l2, l3, l4, l5, l6, l7, l8, l9, l10] (.int (x &&& y) :: st) h Q := jg_b (f := fun x y => x &&& y) rfl
theorem s186_123 : jx_Go jxP d 186 123 [l0, l1, l2, l3, l4, l5, l6, l7, l8, l9, l10] st h Q ↔ jx_Go jxP d 186 124 [l0, l1, l2, l3, l4, l5, l6, l7, l8, l9, l10] (.int (nI 1) :: st) h Q := jg_c rfl
theorem s186_124 : jx_Go jxP d 186 124 [l0, l1, l2, l3, l4, l5, l6, l7, l8, l9, l10] (.int y :: .int x :: st) h Q ↔ if x = y then jx_Go jxP d 186 127 [l0, l1, l2, l3, l4, l5, l6, l7, l8, l9, l10] st h Q else jx_Go jxP d 186 132 [l0, l1, l2, l3, l4, l5, l6, l7, l8, l9, l10] st h Q := jg_icN rfl rfl
theorem s186_127 : jx_Go jxP d 186 127 [l0, l1, l2, l3, l4, l5, l6, l7, l8, l9, l10] st h Q ↔ jx_Go jxP d 186 129 [l0, l1, l2, l3, l4, l5, l6, l7, l8, l9, l10] (.int (nI 100) :: st) h Q := jg_c rfl
theorem s186_129 : jx_Go jxP d 186 129 [l0, l1, l2, .int x, l4, l5, l6, l7, l8, l9, l10] st h Q ↔ jx_Go jxP d 186 130 [l0, l1, l2, .int x, l4, l5, l6, l7, l8, l9, l10] (.int x :: st) h Q := jg_il rfl rfl
theorem s186_130 : jx_Go jxP d 186 130 [l0, l1, l2, l3, l4, l5, l6, l7, l8, l9, l10] (.int y :: .int x :: st) h Q ↔ jx_Go jxP d 186 131 [l0, l1, l2, l3, l4, l5, l6, l7, l8, l9, l10] (.int (x + y) :: st) h Q := jg_b (f := fun x y => x + y) rfl
theorem s186_131 : jx_Go jxP d 186 131 [l0, l1, l2, l3, l4, l5, l6, l7, l8, l9, l10] [.int x] h Q ↔ Q [.int x] h := jx_rt rfl rfl
theorem s186_132 : jx_Go jxP d 186 132 [l0, l1, l2, l3, l4, l5, .int x, l7, l8, l9, l10] st h Q ↔ jx_Go jxP d 186 134 [l0, l1, l2, l3, l4, l5, .int x, l7, l8, l9, l10] (.int x :: st) h Q := jg_il rfl rfl
theorem s186_134 : jx_Go jxP d 186 134 [l0, l1, l2, l3, .int x, l5, l6, l7, l8, l9, l10] st h Q ↔ jx_Go jxP d 186 136 [l0, l1, l2, l3, .int x, l5, l6, l7, l8, l9, l10] (.int x :: st) h Q := jg_il rfl rfl
theorem s186_136 : jx_Go jxP d 186 136 [l0, l1, l2, l3, l4, l5, l6, l7, l8, l9, l10] (.int y :: .int x :: st) h Q ↔ if x ≤ y then jx_Go jxP d 186 144 [l0, l1, l2, l3, l4, l5, l6, l7, l8, l9, l10] st h Q else jx_Go jxP d 186 139 [l0, l1, l2, l3, l4, l5, l6, l7, l8, l9, l10] st h Q := jg_icP rfl rfl
theorem s186_139 : jx_Go jxP d 186 139 [l0, l1, l2, l3, l4, l5, .int x, l7, l8, l9, l10] st h Q ↔ jx_Go jxP d 186 141 [l0, l1, l2, l3, l4, l5, .int x, l7, l8, l9, l10] (.int x :: st) h Q := jg_il rfl rfl
theorem s186_141 : jx_Go jxP d 186 141 [l0, l1, l2, l3, l4, l5, l6, l7, l8, l9, l10] st h Q ↔ jx_Go jxP d 186 146 [l0, l1, l2, l3, l4, l5, l6, l7, l8, l9, l10] st h Q := jg_go rfl
theorem s186_144 : jx_Go jxP d 186 144 [l0, l1, l2, l3, .int x, l5, l6, l7, l8, l9, l10] st h Q ↔ jx_Go jxP d 186 146 [l0, l1, l2, l3, .int x, l5, l6, l7, l8, l9, l10] (.int x :: st) h Q := jg_il rfl rfl
theorem s186_146 : jx_Go jxP d 186 146 [l0, l1, l2, l3, l4, l5, l6, l7, l8, l9, l10] (.int x :: st) h Q ↔ jx_Go jxP d 186 148 [l0, l1, l2, l3, .int x, l5, l6, l7, l8, l9, l10] st h Q := jg_is rfl rfl
theorem s186_148 : jx_Go jxP d 186 148 [l0, l1, l2, l3, l4, l5, l6, l7, l8, l9, l10] st h Q ↔ jx_Go jxP d 186 298 [l0, l1, l2, l3, l4, l5, l6, l7, l8, l9, l10] st h Q := jg_go rfl
theorem s186_151 : jx_Go jxP d 186 151 [l0, l1, l2, l3, l4, l5, l6, .int x, l8, l9, l10] st h Q ↔ jx_Go jxP d 186 153 [l0, l1, l2, l3, l4, l5, l6, .int x, l8, l9, l10] (.int x :: st) h Q := jg_il rfl rfl
theorem s186_153 : jx_Go jxP d 186 153 [l0, l1, l2, l3, l4, l5, l6, l7, l8, l9, l10] (.int x :: st) h Q ↔ if x = 0 then jx_Go jxP d 186 162 [l0, l1, l2, l3, l4, l5, l6, l7, l8, l9, l10] st h Q else jx_Go jxP d 186 156 [l0, l1, l2, l3, l4, l5, l6, l7, l8, l9, l10] st h Q := jg_ifP rfl rfl
theorem s186_156 : jx_Go jxP d 186 156 [l0, l1, l2, l3, l4, l5, l6, .int x, l8, l9, l10] st h Q ↔ jx_Go jxP d 186 158 [l0, l1, l2, l3, l4, l5, l6, .int x, l8, l9, l10] (.int x :: st) h Q := jg_il rfl rfl
theorem s186_158 : jx_Go jxP d 186 158 [l0, l1, l2, l3, l4, l5, l6, l7, l8, l9, l10] st h Q ↔ jx_Go jxP d 186 159 [l0, l1, l2, l3, l4, l5, l6, l7, l8, l9, l10] (.int (nI 1) :: st) h Q := jg_c rfl
theorem s186_159 : jx_Go jxP d 186 159 [l0, l1, l2, l3, l4, l5, l6, l7, l8, l9, l10] (.int y :: .int x :: st) h Q ↔ if x = y then jx_Go jxP d 186 162 [l0, l1, l2, l3, l4, l5, l6, l7, l8, l9, l10] st h Q else jx_Go jxP d 186 199 [l0, l1, l2, l3, l4, l5, l6, l7, l8, l9, l10] st h Q := jg_icN rfl rfl
theorem s186_162 : jx_Go jxP d 186 162 [l0, l1, l2, l3, l4, l5, l6, l7, .int x, l9, l10] st h Q ↔ jx_Go jxP d 186 164 [l0, l1, l2, l3, l4, l5, l6, l7, .int x, l9, l10] (.int x :: st) h Q := jg_il rfl rfl
theorem s186_164 : jx_Go jxP d 186 164 [l0, l1, l2, l3, l4, l5, l6, l7, l8, l9, l10] (.int x :: st) h Q ↔ if x ≤ 0 then jx_Go jxP d 186 199 [l0, l1, l2, l3, l4, l5, l6, l7, l8, l9, l10] st h Q else jx_Go jxP d 186 167 [l0, l1, l2, l3, l4, l5, l6, l7, l8, l9, l10] st h Q := jg_ifP rfl rfl
theorem s186_167 : jx_Go jxP d 186 167 [l0, l1, l2, l3, l4, l5, l6, l7, .int x, l9, l10] st h Q ↔ jx_Go jxP d 186 169 [l0, l1, l2, l3, l4, l5, l6, l7, .int x, l9, l10] (.int x :: st) h Q := jg_il rfl rfl
theorem s186_169 : jx_Go jxP d 186 169 [l0, l1, l2, l3, l4, l5, l6, l7, l8, l9, l10] st h Q ↔ jx_Go jxP d 186 171 [l0, l1, l2, l3, l4, l5, l6, l7, l8, l9, l10] (.int (nI 32) :: st) h Q := jg_c rfl
theorem s186_171 : jx_Go jxP d 186 171 [l0, l1, l2, l3, l4, l5, l6, l7, l8, l9, l10] (.int y :: .int x :: st) h Q ↔ if y ≤ x then jx_Go jxP d 186 199 [l0, l1, l2, l3, l4, l5, l6, l7, l8, l9, l10] st h Q else jx_Go jxP d 186 174 [l0, l1, l2, l3, l4, l5, l6, l7, l8, l9, l10] st h Q := jg_icP rfl rfl
theorem s186_174 : jx_Go jxP d 186 174 [.ref a, l1, l2, l3, l4, l5, l6, l7, l8, l9, l10] st h Q ↔ jx_Go jxP d 186 175 [.ref a, l1, l2, l3, l4, l5, l6, l7, l8, l9, l10] (.ref a :: st) h Q := jg_al rfl rfl
theorem s186_175 : jx_Go jxP d 186 175 [l0, l1, l2, l3, l4, .int x, l6, l7, l8, l9, l10] st h Q ↔ jx_Go jxP d 186 177 [l0, l1, l2, l3, l4, .int x, l6, l7, l8, l9, l10] (.int x :: st) h Q := jg_il rfl rfl
theorem s186_177 : jx_Go jxP d 186 177 [l0, l1, l2, l3, l4, l5, l6, l7, .int x, l9, l10] st h Q ↔ jx_Go jxP d 186 179 [l0, l1, l2, l3, l4, l5, l6, l7, .int x, l9, l10] (.int x :: st) h Q := jg_il rfl rfl
theorem s186_179 : jx_Go jxP d 186 179 [l0, l1, l2, l3, l4, l5, l6, .int x, l8, l9, l10] st h Q ↔ jx_Go jxP d 186 181 [l0, l1, l2, l3, l4, l5, l6, .int x, l8, l9, l10] (.int x :: st) h Q := jg_il rfl rfl
theorem s186_181 : jx_Go jxP d 186 181 [l0, l1, l2, l3, l4, l5, l6, l7, l8, l9, l10] (.int x :: st) h Q ↔ if x = 0 then jx_Go jxP d 186 184 [l0, l1, l2, l3, l4, l5, l6, l7, l8, l9, l10] st h Q else jx_Go jxP d 186 188 [l0, l1, l2, l3, l4, l5, l6, l7, l8, l9, l10] st h Q := jg_ifN rfl rfl
theorem s186_184 : jx_Go jxP d 186 184 [l0, l1, l2, l3, l4, l5, l6, l7, l8, l9, l10] st h Q ↔ jx_Go jxP d 186 185 [l0, l1, l2, l3, l4, l5, l6, l7, l8, l9, l10] (.int (nI 1) :: st) h Q := jg_c rfl
theorem s186_185 : jx_Go jxP d 186 185 [l0, l1, l2, l3, l4, l5, l6, l7, l8, l9, l10] st h Q ↔ jx_Go jxP d 186 189 [l0, l1, l2, l3, l4, l5, l6, l7, l8, l9, l10] st h Q := jg_go rfl
theorem s186_188 : jx_Go jxP d 186 188 [l0, l1, l2, l3, l4, l5, l6, l7, l8, l9, l10] st h Q ↔ jx_Go jxP d 186 189 [l0, l1, l2, l3, l4, l5, l6, l7, l8, l9, l10] (.int (nI 0) :: st) h Q := jg_c rfl
theorem s186_189 : jx_Go jxP (d + 1) 186 189 [l0, l1, l2, l3, l4, l5, l6, l7, l8, l9, l10] (.int x2 :: .int x1 :: .int x0 :: .ref a :: st) h Q ↔ (st.length ≤ 4 ∧ jx_cl h a = some 12 ∧ jx_Go jxP d 159 0 [.ref a, .int x0, .int x1, .int x2, jx_u] [] h (fun s1 h1 => jx_Go jxP (d + 1) 186 192 [l0, l1, l2, l3, l4, l5, l6, l7, l8, l9, l10] (s1 ++ st) h1 Q)) := jg_callV (as := [.int x2, .int x1, .int x0, .ref a]) rfl rfl rfl rfl rfl
theorem s186_192 : jx_Go jxP d 186 192 [l0, l1, l2, l3, l4, l5, l6, l7, l8, l9, l10] (.int x :: st) h Q ↔ if x = 0 then jx_Go jxP d 186 199 [l0, l1, l2, l3, l4, l5, l6, l7, l8, l9, l10] st h Q else jx_Go jxP d 186 195 [l0, l1, l2, l3, l4, l5, l6, l7, l8, l9, l10] st h Q := jg_ifP rfl rfl
theorem s186_195 : jx_Go jxP d 186 195 [l0, l1, l2, l3, l4, l5, l6, l7, l8, l9, l10] st h Q ↔ jx_Go jxP d 186 196 [l0, l1, l2, l3, l4, l5, l6, l7, l8, l9, l10] (.int (nI 1) :: st) h Q := jg_c rfl
theorem s186_196 : jx_Go jxP d 186 196 [l0, l1, l2, l3, l4, l5, l6, l7, l8, l9, l10] st h Q ↔ jx_Go jxP d 186 200 [l0, l1, l2, l3, l4, l5, l6, l7, l8, l9, l10] st h Q := jg_go rfl
theorem s186_199 : jx_Go jxP d 186 199 [l0, l1, l2, l3, l4, l5, l6, l7, l8, l9, l10] st h Q ↔ jx_Go jxP d 186 200 [l0, l1, l2, l3, l4, l5, l6, l7, l8, l9, l10] (.int (nI 0) :: st) h Q := jg_c rfl
theorem s186_200 : jx_Go jxP d 186 200 [l0, l1, l2, l3, l4, l5, l6, l7, l8, l9, l10] (.int x :: st) h Q ↔ jx_Go jxP d 186 202 [l0, l1, l2, l3, l4, l5, l6, l7, l8, .int x, l10] st h Q := jg_is rfl rfl
theorem s186_202 : jx_Go jxP d 186 202 [l0, l1, l2, l3, l4, l5, l6, l7, l8, .int x, l10] st h Q ↔ jx_Go jxP d 186 204 [l0, l1, l2, l3, l4, l5, l6, l7, l8, .int x, l10] (.int x :: st) h Q := jg_il rfl rfl
theorem s186_204 : jx_Go jxP d 186 204 [l0, l1, l2, l3, l4, l5, l6, l7, l8, l9, l10] (.int x :: st) h Q ↔ if x = 0 then jx_Go jxP d 186 207 [l0, l1, l2, l3, l4, l5, l6, l7, l8, l9, l10] st h Q else jx_Go jxP d 186 212 [l0, l1, l2, l3, l4, l5, l6, l7, l8, l9, l10] st h Q := jg_ifN rfl rfl
theorem s186_207 : jx_Go jxP d 186 207 [l0, l1, l2, l3, l4, l5, l6, l7, l8, l9, l10] st h Q ↔ jx_Go jxP d 186 209 [l0, l1, l2, l3, l4, l5, l6, l7, l8, l9, l10] (.int (nI 100) :: st) h Q := jg_c rfl
theorem s186_209 : jx_Go jxP d 186 209 [l0, l1, l2, .int x, l4, l5, l6, l7, l8, l9, l10] st h Q ↔ jx_Go jxP d 186 210 [l0, l1, l2, .int x, l4, l5, l6, l7, l8, l9, l10] (.int x :: st) h Q := jg_il rfl rfl
theorem s186_210 : jx_Go jxP d 186 210 [l0, l1, l2, l3, l4, l5, l6, l7, l8, l9, l10] (.int y :: .int x :: st) h Q ↔ jx_Go jxP d 186 211 [l0, l1, l2, l3, l4, l5, l6, l7, l8, l9, l10] (.int (x + y) :: st) h Q := jg_b (f := fun x y => x + y) rfl
theorem s186_211 : jx_Go jxP d 186 211 [l0, l1, l2, l3, l4, l5, l6, l7, l8, l9, l10] [.int x] h Q ↔ Q [.int x] h := jx_rt rfl rfl
theorem s186_212 : jx_Go jxP d 186 212 [l0, l1, l2, l3, l4, l5, l6, .int x, l8, l9, l10] st h Q ↔ jx_Go jxP d 186 214 [l0, l1, l2, l3, l4, l5, l6, .int x, l8, l9, l10] (.int x :: st) h Q := jg_il rfl rfl
theorem s186_214 : jx_Go jxP d 186 214 [l0, l1, l2, l3, l4, l5, l6, l7, l8, l9, l10] (.int x :: st) h Q ↔ if x = 0 then jx_Go jxP d 186 217 [l0, l1, l2, l3, l4, l5, l6, l7, l8, l9, l10] st h Q else jx_Go jxP d 186 224 [l0, l1, l2, l3, l4, l5, l6, l7, l8, l9, l10] st h Q := jg_ifN rfl rfl
theorem s186_217 : jx_Go jxP d 186 217 [l0, l1, l2, l3, l4, l5, l6, l7, .int x, l9, l10] st h Q ↔ jx_Go jxP d 186 219 [l0, l1, l2, l3, l4, l5, l6, l7, .int x, l9, l10] (.int x :: st) h Q := jg_il rfl rfl
theorem s186_219 : jx_Go jxP d 186 219 [l0, l1, l2, l3, l4, l5, l6, l7, l8, l9, l10] st h Q ↔ jx_Go jxP d 186 220 [l0, l1, l2, l3, l4, l5, l6, l7, l8, l9, l10] (.int (nI 5) :: st) h Q := jg_c rfl
theorem s186_220 : jx_Go jxP d 186 220 [l0, l1, l2, l3, l4, l5, l6, l7, l8, l9, l10] (.int y :: .int x :: st) h Q ↔ jx_Go jxP d 186 221 [l0, l1, l2, l3, l4, l5, l6, l7, l8, l9, l10] (.int (x <<< (y &&& 31)) :: st) h Q := jg_b (f := fun x y => x <<< (y &&& 31)) rfl
theorem s186_221 : jx_Go jxP d 186 221 [l0, l1, l2, l3, l4, l5, l6, l7, l8, l9, l10] st h Q ↔ jx_Go jxP d 186 226 [l0, l1, l2, l3, l4, l5, l6, l7, l8, l9, l10] st h Q := jg_go rfl
theorem s186_224 : jx_Go jxP d 186 224 [l0, l1, l2, l3, l4, l5, l6, l7, .int x, l9, l10] st h Q ↔ jx_Go jxP d 186 226 [l0, l1, l2, l3, l4, l5, l6, l7, .int x, l9, l10] (.int x :: st) h Q := jg_il rfl rfl
theorem s186_226 : jx_Go jxP d 186 226 [l0, l1, l2, l3, l4, l5, l6, l7, l8, l9, l10] (.int x :: st) h Q ↔ jx_Go jxP d 186 228 [l0, l1, l2, l3, l4, l5, l6, l7, l8, l9, .int x] st h Q := jg_is rfl rfl
theorem s186_228 : jx_Go jxP d 186 228 [.ref a, l1, l2, l3, l4, l5, l6, l7, l8, l9, l10] st h Q ↔ jx_Go jxP d 186 229 [.ref a, l1, l2, l3, l4, l5, l6, l7, l8, l9, l10] (.ref a :: st) h Q := jg_al rfl rfl
theorem s186_229 : jx_Go jxP d 186 229 [l0, l1, l2, l3, l4, l5, l6, l7, l8, l9, l10] (.ref a :: st) h Q ↔ ∃ v, jx_fl h a 12 34 = some v ∧ jx_Go jxP d 186 232 [l0, l1, l2, l3, l4, l5, l6, l7, l8, l9, l10] (v :: st) h Q := jg_gf rfl
theorem s186_232 : jx_Go jxP d 186 232 [l0, l1, .int x, l3, l4, l5, l6, l7, l8, l9, l10] st h Q ↔ jx_Go jxP d 186 233 [l0, l1, .int x, l3, l4, l5, l6, l7, l8, l9, l10] (.int x :: st) h Q := jg_il rfl rfl
theorem s186_233 : jx_Go jxP d 186 233 [l0, l1, l2, l3, l4, l5, l6, l7, l8, l9, .int x] st h Q ↔ jx_Go jxP d 186 235 [l0, l1, l2, l3, l4, l5, l6, l7, l8, l9, .int x] (.int x :: st) h Q := jg_il rfl rfl
theorem s186_235 : jx_Go jxP d 186 235 [l0, l1, l2, l3, l4, l5, l6, l7, l8, l9, l10] st h Q ↔ jx_Go jxP d 186 237 [l0, l1, l2, l3, l4, l5, l6, l7, l8, l9, l10] (.int (nI 32) :: st) h Q := jg_c rfl
theorem s186_237 : jx_Go jxP d 186 237 [l0, l1, l2, l3, l4, l5, l6, l7, l8, l9, l10] (.int y :: .int x :: st) h Q ↔ if y ≤ x then jx_Go jxP d 186 251 [l0, l1, l2, l3, l4, l5, l6, l7, l8, l9, l10] st h Q else jx_Go jxP d 186 240 [l0, l1, l2, l3, l4, l5, l6, l7, l8, l9, l10] st h Q := jg_icP rfl rfl
theorem s186_240 : jx_Go jxP d 186 240 [l0, l1, l2, l3, l4, .int x, l6, l7, l8, l9, l10] st h Q ↔ jx_Go jxP d 186 242 [l0, l1, l2, l3, l4, .int x, l6, l7, l8, l9, l10] (.int x :: st) h Q := jg_il rfl rfl
theorem s186_242 : jx_Go jxP d 186 242 [l0, l1, l2, l3, l4, l5, l6, l7, l8, l9, l10] st h Q ↔ jx_Go jxP d 186 244 [l0, l1, l2, l3, l4, l5, l6, l7, l8, l9, l10] (.int (-32) :: st) h Q := jg_c rfl
theorem s186_244 : jx_Go jxP d 186 244 [l0, l1, l2, l3, l4, l5, l6, l7, l8, l9, l10] (.int y :: .int x :: st) h Q ↔ jx_Go jxP d 186 245 [l0, l1, l2, l3, l4, l5, l6, l7, l8, l9, l10] (.int (x &&& y) :: st) h Q := jg_b (f := fun x y => x &&& y) rfl
theorem s186_245 : jx_Go jxP d 186 245 [l0, l1, l2, l3, l4, l5, l6, l7, l8, l9, .int x] st h Q ↔ jx_Go jxP d 186 247 [l0, l1, l2, l3, l4, l5, l6, l7, l8, l9, .int x] (.int x :: st) h Q := jg_il rfl rfl
theorem s186_247 : jx_Go jxP d 186 247 [l0, l1, l2, l3, l4, l5, l6, l7, l8, l9, l10] (.int y :: .int x :: st) h Q ↔ jx_Go jxP d 186 248 [l0, l1, l2, l3, l4, l5, l6, l7, l8, l9, l10] (.int (x ||| y) :: st) h Q := jg_b (f := fun x y => x ||| y) rfl
theorem s186_248 : jx_Go jxP d 186 248 [l0, l1, l2, l3, l4, l5, l6, l7, l8, l9, l10] st h Q ↔ jx_Go jxP d 186 259 [l0, l1, l2, l3, l4, l5, l6, l7, l8, l9, l10] st h Q := jg_go rfl
theorem s186_251 : jx_Go jxP d 186 251 [l0, l1, l2, l3, l4, l5, l6, l7, l8, l9, .int x] st h Q ↔ jx_Go jxP d 186 253 [l0, l1, l2, l3, l4, l5, l6, l7, l8, l9, .int x] (.int x :: st) h Q := jg_il rfl rfl
theorem s186_253 : jx_Go jxP d 186 253 [l0, l1, l2, l3, l4, .int x, l6, l7, l8, l9, l10] st h Q ↔ jx_Go jxP d 186 255 [l0, l1, l2, l3, l4, .int x, l6, l7, l8, l9, l10] (.int x :: st) h Q := jg_il rfl rfl
theorem s186_255 : jx_Go jxP d 186 255 [l0, l1, l2, l3, l4, l5, l6, l7, l8, l9, l10] st h Q ↔ jx_Go jxP d 186 257 [l0, l1, l2, l3, l4, l5, l6, l7, l8, l9, l10] (.int (nI 31) :: st) h Q := jg_c rfl
theorem s186_257 : jx_Go jxP d 186 257 [l0, l1, l2, l3, l4, l5, l6, l7, l8, l9, l10] (.int y :: .int x :: st) h Q ↔ jx_Go jxP d 186 258 [l0, l1, l2, l3, l4, l5, l6, l7, l8, l9, l10] (.int (x &&& y) :: st) h Q := jg_b (f := fun x y => x &&& y) rfl
theorem s186_258 : jx_Go jxP d 186 258 [l0, l1, l2, l3, l4, l5, l6, l7, l8, l9, l10] (.int y :: .int x :: st) h Q ↔ jx_Go jxP d 186 259 [l0, l1, l2, l3, l4, l5, l6, l7, l8, l9, l10] (.int (x ||| y) :: st) h Q := jg_b (f := fun x y => x ||| y) rfl
theorem s186_259 : jx_Go jxP d 186 259 [l0, l1, l2, l3, l4, l5, l6, l7, l8, l9, l10] (.int y :: .int x :: .ref a :: st) h Q ↔ ∃ q, jx_ai h a = some q ∧ jx_in x q.1 ∧ jx_Go jxP d 186 260 [l0, l1, l2, l3, l4, l5, l6, l7, l8, l9, l10] st (jx_wi h a q.1 (upd q.2 x.toNatClampNeg y)) Q := jg_iw rfl
theorem s186_260 : jx_Go jxP d 186 260 [.ref a, l1, l2, l3, l4, l5, l6, l7, l8, l9, l10] st h Q ↔ jx_Go jxP d 186 261 [.ref a, l1, l2, l3, l4, l5, l6, l7, l8, l9, l10] (.ref a :: st) h Q := jg_al rfl rfl
theorem s186_261 : jx_Go jxP d 186 261 [l0, l1, l2, l3, l4, l5, l6, l7, l8, l9, l10] (.ref a :: st) h Q ↔ ∃ v, jx_fl h a 12 35 = some v ∧ jx_Go jxP d 186 264 [l0, l1, l2, l3, l4, l5, l6, l7, l8, l9, l10] (v :: st) h Q := jg_gf rfl
theorem s186_264 : jx_Go jxP d 186 264 [l0, l1, .int x, l3, l4, l5, l6, l7, l8, l9, l10] st h Q ↔ jx_Go jxP d 186 265 [l0, l1, .int x, l3, l4, l5, l6, l7, l8, l9, l10] (.int x :: st) h Q := jg_il rfl rfl
theorem s186_265 : jx_Go jxP d 186 265 [l0, l1, l2, l3, l4, l5, .int x, l7, l8, l9, l10] st h Q ↔ jx_Go jxP d 186 267 [l0, l1, l2, l3, l4, l5, .int x, l7, l8, l9, l10] (.int x :: st) h Q := jg_il rfl rfl
theorem s186_267 : jx_Go jxP d 186 267 [l0, l1, l2, l3, l4, l5, l6, l7, l8, l9, l10] st h Q ↔ jx_Go jxP d 186 268 [l0, l1, l2, l3, l4, l5, l6, l7, l8, l9, l10] (.int (nI 1) :: st) h Q := jg_c rfl
theorem s186_268 : jx_Go jxP d 186 268 [l0, l1, l2, l3, l4, l5, l6, l7, l8, l9, l10] (.int y :: .int x :: st) h Q ↔ jx_Go jxP d 186 269 [l0, l1, l2, l3, l4, l5, l6, l7, l8, l9, l10] (.int (x + y) :: st) h Q := jg_b (f := fun x y => x + y) rfl
theorem s186_269 : jx_Go jxP d 186 269 [l0, l1, l2, l3, l4, l5, l6, l7, l8, l9, l10] (.int y :: .int x :: .ref a :: st) h Q ↔ ∃ q, jx_ai h a = some q ∧ jx_in x q.1 ∧ jx_Go jxP d 186 270 [l0, l1, l2, l3, l4, l5, l6, l7, l8, l9, l10] st (jx_wi h a q.1 (upd q.2 x.toNatClampNeg y)) Q := jg_iw rfl
theorem s186_270 : jx_Go jxP d 186 270 [.ref a, l1, l2, l3, l4, l5, l6, l7, l8, l9, l10] st h Q ↔ jx_Go jxP d 186 271 [.ref a, l1, l2, l3, l4, l5, l6, l7, l8, l9, l10] (.ref a :: st) h Q := jg_al rfl rfl
theorem s186_271 : jx_Go jxP d 186 271 [l0, l1, l2, l3, l4, l5, l6, l7, l8, l9, l10] (.ref a :: st) h Q ↔ ∃ v, jx_fl h a 12 34 = some v ∧ jx_Go jxP d 186 274 [l0, l1, l2, l3, l4, l5, l6, l7, l8, l9, l10] (v :: st) h Q := jg_gf rfl
theorem s186_274 : jx_Go jxP d 186 274 [l0, l1, .int x, l3, l4, l5, l6, l7, l8, l9, l10] st h Q ↔ jx_Go jxP d 186 275 [l0, l1, .int x, l3, l4, l5, l6, l7, l8, l9, l10] (.int x :: st) h Q := jg_il rfl rfl
theorem s186_275 : jx_Go jxP d 186 275 [l0, l1, l2, l3, l4, l5, l6, l7, l8, l9, l10] st h Q ↔ jx_Go jxP d 186 276 [l0, l1, l2, l3, l4, l5, l6, l7, l8, l9, l10] (.int (nI 1) :: st) h Q := jg_c rfl
theorem s186_276 : jx_Go jxP d 186 276 [l0, l1, l2, l3, l4, l5, l6, l7, l8, l9, l10] (.int y :: .int x :: st) h Q ↔ jx_Go jxP d 186 277 [l0, l1, l2, l3, l4, l5, l6, l7, l8, l9, l10] (.int (x + y) :: st) h Q := jg_b (f := fun x y => x + y) rfl
theorem s186_277 : jx_Go jxP d 186 277 [l0, l1, l2, l3, l4, .int x, l6, l7, l8, l9, l10] st h Q ↔ jx_Go jxP d 186 279 [l0, l1, l2, l3, l4, .int x, l6, l7, l8, l9, l10] (.int x :: st) h Q := jg_il rfl rfl
theorem s186_279 : jx_Go jxP d 186 279 [l0, l1, l2, l3, l4, l5, l6, l7, l8, l9, .int x] st h Q ↔ jx_Go jxP d 186 281 [l0, l1, l2, l3, l4, l5, l6, l7, l8, l9, .int x] (.int x :: st) h Q := jg_il rfl rfl
theorem s186_281 : jx_Go jxP d 186 281 [l0, l1, l2, l3, l4, l5, l6, l7, l8, l9, l10] (.int y :: .int x :: st) h Q ↔ jx_Go jxP d 186 282 [l0, l1, l2, l3, l4, l5, l6, l7, l8, l9, l10] (.int (x ^^^ y) :: st) h Q := jg_b (f := fun x y => x ^^^ y) rfl
theorem s186_282 : jx_Go jxP d 186 282 [l0, l1, l2, l3, l4, l5, l6, l7, l8, l9, l10] (.int y :: .int x :: .ref a :: st) h Q ↔ ∃ q, jx_ai h a = some q ∧ jx_in x q.1 ∧ jx_Go jxP d 186 283 [l0, l1, l2, l3, l4, l5, l6, l7, l8, l9, l10] st (jx_wi h a q.1 (upd q.2 x.toNatClampNeg y)) Q := jg_iw rfl
theorem s186_283 : jx_Go jxP d 186 283 [.ref a, l1, l2, l3, l4, l5, l6, l7, l8, l9, l10] st h Q ↔ jx_Go jxP d 186 284 [.ref a, l1, l2, l3, l4, l5, l6, l7, l8, l9, l10] (.ref a :: st) h Q := jg_al rfl rfl
theorem s186_284 : jx_Go jxP d 186 284 [l0, l1, l2, l3, l4, l5, l6, l7, l8, l9, l10] (.ref a :: st) h Q ↔ ∃ v, jx_fl h a 12 35 = some v ∧ jx_Go jxP d 186 287 [l0, l1, l2, l3, l4, l5, l6, l7, l8, l9, l10] (v :: st) h Q := jg_gf rfl
theorem s186_287 : jx_Go jxP d 186 287 [l0, l1, .int x, l3, l4, l5, l6, l7, l8, l9, l10] st h Q ↔ jx_Go jxP d 186 288 [l0, l1, .int x, l3, l4, l5, l6, l7, l8, l9, l10] (.int x :: st) h Q := jg_il rfl rfl
theorem s186_288 : jx_Go jxP d 186 288 [l0, l1, l2, l3, l4, l5, l6, l7, l8, l9, l10] st h Q ↔ jx_Go jxP d 186 289 [l0, l1, l2, l3, l4, l5, l6, l7, l8, l9, l10] (.int (nI 1) :: st) h Q := jg_c rfl
theorem s186_289 : jx_Go jxP d 186 289 [l0, l1, l2, l3, l4, l5, l6, l7, l8, l9, l10] (.int y :: .int x :: st) h Q ↔ jx_Go jxP d 186 290 [l0, l1, l2, l3, l4, l5, l6, l7, l8, l9, l10] (.int (x + y) :: st) h Q := jg_b (f := fun x y => x + y) rfl
theorem s186_290 : jx_Go jxP d 186 290 [l0, l1, l2, l3, l4, l5, .int x, l7, l8, l9, l10] st h Q ↔ jx_Go jxP d 186 292 [l0, l1, l2, l3, l4, l5, .int x, l7, l8, l9, l10] (.int x :: st) h Q := jg_il rfl rfl
theorem s186_292 : jx_Go jxP d 186 292 [l0, l1, l2, l3, l4, l5, l6, l7, l8, l9, l10] st h Q ↔ jx_Go jxP d 186 293 [l0, l1, l2, l3, l4, l5, l6, l7, l8, l9, l10] (.int (nI 1) :: st) h Q := jg_c rfl
theorem s186_293 : jx_Go jxP d 186 293 [l0, l1, l2, l3, l4, l5, l6, l7, l8, l9, l10] (.int y :: .int x :: st) h Q ↔ jx_Go jxP d 186 294 [l0, l1, l2, l3, l4, l5, l6, l7, l8, l9, l10] (.int (x + y) :: st) h Q := jg_b (f := fun x y => x + y) rfl
theorem s186_294 : jx_Go jxP d 186 294 [l0, l1, l2, l3, l4, l5, l6, l7, l8, l9, l10] (.int y :: .int x :: .ref a :: st) h Q ↔ ∃ q, jx_ai h a = some q ∧ jx_in x q.1 ∧ jx_Go jxP d 186 295 [l0, l1, l2, l3, l4, l5, l6, l7, l8, l9, l10] st (jx_wi h a q.1 (upd q.2 x.toNatClampNeg y)) Q := jg_iw rfl
theorem s186_295 : jx_Go jxP d 186 295 [l0, l1, .int x, l3, l4, l5, l6, l7, l8, l9, l10] st h Q ↔ jx_Go jxP d 186 298 [l0, l1, .int (x + (nI 2)), l3, l4, l5, l6, l7, l8, l9, l10] st h Q := jg_inc rfl rfl rfl
theorem s186_298 : jx_Go jxP d 186 298 [l0, l1, l2, .int x, l4, l5, l6, l7, l8, l9, l10] st h Q ↔ jx_Go jxP d 186 301 [l0, l1, l2, .int (x + (nI 1)), l4, l5, l6, l7, l8, l9, l10] st h Q := jg_inc rfl rfl rfl
theorem s186_301 : jx_Go jxP d 186 301 [l0, l1, l2, l3, l4, l5, l6, l7, l8, l9, l10] st h Q ↔ jx_Go jxP d 186 34 [l0, l1, l2, l3, l4, l5, l6, l7, l8, l9, l10] st h Q := jg_go rfl
theorem s186_304 : jx_Go jxP d 186 304 [l0, l1, l2, l3, l4, l5, l6, l7, l8, l9, l10] st h Q ↔ jx_Go jxP d 186 305 [l0, l1, l2, l3, l4, l5, l6, l7, l8, l9, l10] (.int (nI 2) :: st) h Q := jg_c rfl
theorem s186_305 : jx_Go jxP d 186 305 [l0, l1, l2, .int x, l4, l5, l6, l7, l8, l9, l10] st h Q ↔ jx_Go jxP d 186 306 [l0, l1, l2, .int x, l4, l5, l6, l7, l8, l9, l10] (.int x :: st) h Q := jg_il rfl rfl
theorem s186_306 : jx_Go jxP d 186 306 [l0, l1, l2, l3, l4, l5, l6, l7, l8, l9, l10] (.int y :: .int x :: st) h Q ↔ jx_Go jxP d 186 307 [l0, l1, l2, l3, l4, l5, l6, l7, l8, l9, l10] (.int (x * y) :: st) h Q := jg_b (f := fun x y => x * y) rfl
theorem s186_307 : jx_Go jxP d 186 307 [l0, .int x, l2, l3, l4, l5, l6, l7, l8, l9, l10] st h Q ↔ jx_Go jxP d 186 308 [l0, .int x, l2, l3, l4, l5, l6, l7, l8, l9, l10] (.int x :: st) h Q := jg_il rfl rfl
theorem s186_308 : jx_Go jxP d 186 308 [l0, l1, l2, l3, l4, l5, l6, l7, l8, l9, l10] (.int y :: .int x :: st) h Q ↔ if y ≤ x then jx_Go jxP d 186 316 [l0, l1, l2, l3, l4, l5, l6, l7, l8, l9, l10] st h Q else jx_Go jxP d 186 311 [l0, l1, l2, l3, l4, l5, l6, l7, l8, l9, l10] st h Q := jg_icP rfl rfl
theorem s186_311 : jx_Go jxP d 186 311 [l0, l1, l2, l3, l4, l5, l6, l7, l8, l9, l10] st h Q ↔ jx_Go jxP d 186 313 [l0, l1, l2, l3, l4, l5, l6, l7, l8, l9, l10] (.int (nI 90) :: st) h Q := jg_c rfl
theorem s186_313 : jx_Go jxP d 186 313 [l0, l1, l2, l3, l4, l5, l6, l7, l8, l9, l10] st h Q ↔ jx_Go jxP d 186 318 [l0, l1, l2, l3, l4, l5, l6, l7, l8, l9, l10] st h Q := jg_go rfl
theorem s186_316 : jx_Go jxP d 186 316 [l0, l1, l2, l3, .int x, l5, l6, l7, l8, l9, l10] st h Q ↔ jx_Go jxP d 186 318 [l0, l1, l2, l3, .int x, l5, l6, l7, l8, l9, l10] (.int x :: st) h Q := jg_il rfl rfl
theorem s186_318 : jx_Go jxP d 186 318 [l0, l1, l2, l3, l4, l5, l6, l7, l8, l9, l10] [.int x] h Q ↔ Q [.int x] h := jx_rt rfl rfl
-- 187 TalkBenchModel.fools
theorem s187_0 : jx_Go jxP d 187 0 [.ref a, l1, l2, l3, l4, l5, l6] st h Q ↔ jx_Go jxP d 187 1 [.ref a, l1, l2, l3, l4, l5, l6] (.ref a :: st) h Q := jg_al rfl rfl
theorem s187_1 : jx_Go jxP d 187 1 [l0, l1, l2, l3, l4, l5, l6] (.ref a :: st) h Q ↔ ∃ v, jx_fl h a 12 11 = some v ∧ jx_Go jxP d 187 4 [l0, l1, l2, l3, l4, l5, l6] (v :: st) h Q := jg_gf rfl
theorem s187_4 : jx_Go jxP d 187 4 [l0, l1, l2, l3, l4, l5, l6] (.int x :: st) h Q ↔ jx_Go jxP d 187 5 [l0, l1, .int x, l3, l4, l5, l6] st h Q := jg_is rfl rfl
theorem s187_5 : jx_Go jxP d 187 5 [.ref a, l1, l2, l3, l4, l5, l6] st h Q ↔ jx_Go jxP d 187 6 [.ref a, l1, l2, l3, l4, l5, l6] (.ref a :: st) h Q := jg_al rfl rfl
theorem s187_6 : jx_Go jxP d 187 6 [l0, l1, l2, l3, l4, l5, l6] st h Q ↔ jx_Go jxP d 187 7 [l0, l1, l2, l3, l4, l5, l6] (.int (nI 0) :: st) h Q := jg_c rfl
theorem s187_7 : jx_Go jxP d 187 7 [l0, l1, l2, l3, l4, l5, l6] (.int x :: .ref a :: st) h Q ↔ ∃ v, jx_fl h a 12 11 = some v ∧ jx_Go jxP d 187 10 [l0, l1, l2, l3, l4, l5, l6] st (jx_uf h a 11 (.int x)) Q := jg_pfI rfl
theorem s187_10 : jx_Go jxP d 187 10 [l0, .int x, l2, l3, l4, l5, l6] st h Q ↔ jx_Go jxP d 187 11 [l0, .int x, l2, l3, l4, l5, l6] (.int x :: st) h Q := jg_il rfl rfl
theorem s187_11 : jx_Go jxP d 187 11 [l0, l1, l2, l3, l4, l5, l6] (.int x :: st) h Q ↔ if x = 0 then jx_Go jxP d 187 19 [l0, l1, l2, l3, l4, l5, l6] st h Q else jx_Go jxP d 187 14 [l0, l1, l2, l3, l4, l5, l6] st h Q := jg_ifP rfl rfl
theorem s187_14 : jx_Go jxP d 187 14 [l0, .int x, l2, l3, l4, l5, l6] st h Q ↔ jx_Go jxP d 187 15 [l0, .int x, l2, l3, l4, l5, l6] (.int x :: st) h Q := jg_il rfl rfl
theorem s187_15 : jx_Go jxP d 187 15 [l0, l1, l2, l3, l4, l5, l6] st h Q ↔ jx_Go jxP d 187 16 [l0, l1, l2, l3, l4, l5, l6] (.int (nI 1) :: st) h Q := jg_c rfl
theorem s187_16 : jx_Go jxP d 187 16 [l0, l1, l2, l3, l4, l5, l6] (.int y :: .int x :: st) h Q ↔ if x = y then jx_Go jxP d 187 19 [l0, l1, l2, l3, l4, l5, l6] st h Q else jx_Go jxP d 187 23 [l0, l1, l2, l3, l4, l5, l6] st h Q := jg_icN rfl rfl
theorem s187_19 : jx_Go jxP d 187 19 [l0, l1, l2, l3, l4, l5, l6] st h Q ↔ jx_Go jxP d 187 20 [l0, l1, l2, l3, l4, l5, l6] (.int (nI 1) :: st) h Q := jg_c rfl
theorem s187_20 : jx_Go jxP d 187 20 [l0, l1, l2, l3, l4, l5, l6] st h Q ↔ jx_Go jxP d 187 24 [l0, l1, l2, l3, l4, l5, l6] st h Q := jg_go rfl
theorem s187_23 : jx_Go jxP d 187 23 [l0, l1, l2, l3, l4, l5, l6] st h Q ↔ jx_Go jxP d 187 24 [l0, l1, l2, l3, l4, l5, l6] (.int (nI 0) :: st) h Q := jg_c rfl
theorem s187_24 : jx_Go jxP d 187 24 [l0, l1, l2, l3, l4, l5, l6] (.int x :: st) h Q ↔ jx_Go jxP d 187 25 [l0, l1, l2, .int x, l4, l5, l6] st h Q := jg_is rfl rfl
theorem s187_25 : jx_Go jxP d 187 25 [l0, l1, l2, l3, l4, l5, l6] st h Q ↔ jx_Go jxP d 187 26 [l0, l1, l2, l3, l4, l5, l6] (.int (nI 0) :: st) h Q := jg_c rfl
theorem s187_26 : jx_Go jxP d 187 26 [l0, l1, l2, l3, l4, l5, l6] (.int x :: st) h Q ↔ jx_Go jxP d 187 28 [l0, l1, l2, l3, .int x, l5, l6] st h Q := jg_is rfl rfl
theorem s187_28 : jx_Go jxP d 187 28 [l0, l1, l2, l3, .int x, l5, l6] st h Q ↔ jx_Go jxP d 187 30 [l0, l1, l2, l3, .int x, l5, l6] (.int x :: st) h Q := jg_il rfl rfl
theorem s187_30 : jx_Go jxP d 187 30 [l0, l1, .int x, l3, l4, l5, l6] st h Q ↔ jx_Go jxP d 187 31 [l0, l1, .int x, l3, l4, l5, l6] (.int x :: st) h Q := jg_il rfl rfl
theorem s187_31 : jx_Go jxP d 187 31 [l0, l1, l2, l3, l4, l5, l6] (.int y :: .int x :: st) h Q ↔ if y ≤ x then jx_Go jxP d 187 83 [l0, l1, l2, l3, l4, l5, l6] st h Q else jx_Go jxP d 187 34 [l0, l1, l2, l3, l4, l5, l6] st h Q := jg_icP rfl rfl
theorem s187_34 : jx_Go jxP d 187 34 [l0, l1, l2, .int x, l4, l5, l6] st h Q ↔ jx_Go jxP d 187 35 [l0, l1, l2, .int x, l4, l5, l6] (.int x :: st) h Q := jg_il rfl rfl
theorem s187_35 : jx_Go jxP d 187 35 [.ref a, l1, l2, l3, l4, l5, l6] st h Q ↔ jx_Go jxP d 187 36 [.ref a, l1, l2, l3, l4, l5, l6] (.ref a :: st) h Q := jg_al rfl rfl
theorem s187_36 : jx_Go jxP d 187 36 [l0, l1, l2, l3, l4, l5, l6] (.ref a :: st) h Q ↔ ∃ v, jx_fl h a 12 12 = some v ∧ jx_Go jxP d 187 39 [l0, l1, l2, l3, l4, l5, l6] (v :: st) h Q := jg_gf rfl
theorem s187_39 : jx_Go jxP d 187 39 [l0, l1, l2, l3, .int x, l5, l6] st h Q ↔ jx_Go jxP d 187 41 [l0, l1, l2, l3, .int x, l5, l6] (.int x :: st) h Q := jg_il rfl rfl
theorem s187_41 : jx_Go jxP d 187 41 [l0, l1, l2, l3, l4, l5, l6] (.int x :: .ref a :: st) h Q ↔ ∃ q, jx_ai h a = some q ∧ jx_in x q.1 ∧ jx_Go jxP d 187 42 [l0, l1, l2, l3, l4, l5, l6] (.int (q.2 x.toNatClampNeg) :: st) h Q := jg_ia rfl
theorem s187_42 : jx_Go jxP d 187 42 [l0, l1, l2, l3, l4, l5, l6] (.int x :: st) h Q ↔ if x < 0 then jx_Go jxP d 187 74 [l0, l1, l2, l3, l4, l5, l6] st h Q else jx_Go jxP d 187 45 [l0, l1, l2, l3, l4, l5, l6] st h Q := jg_ifP rfl rfl
theorem s187_45 : jx_Go jxP d 187 45 [.ref a, l1, l2, l3, l4, l5, l6] st h Q ↔ jx_Go jxP d 187 46 [.ref a, l1, l2, l3, l4, l5, l6] (.ref a :: st) h Q := jg_al rfl rfl
theorem s187_46 : jx_Go jxP d 187 46 [.ref a, l1, l2, l3, l4, l5, l6] st h Q ↔ jx_Go jxP d 187 47 [.ref a, l1, l2, l3, l4, l5, l6] (.ref a :: st) h Q := jg_al rfl rfl
theorem s187_47 : jx_Go jxP d 187 47 [l0, l1, l2, l3, l4, l5, l6] (.ref a :: st) h Q ↔ ∃ v, jx_fl h a 12 12 = some v ∧ jx_Go jxP d 187 50 [l0, l1, l2, l3, l4, l5, l6] (v :: st) h Q := jg_gf rfl
theorem s187_50 : jx_Go jxP d 187 50 [l0, l1, l2, l3, .int x, l5, l6] st h Q ↔ jx_Go jxP d 187 52 [l0, l1, l2, l3, .int x, l5, l6] (.int x :: st) h Q := jg_il rfl rfl
theorem s187_52 : jx_Go jxP d 187 52 [l0, l1, l2, l3, l4, l5, l6] (.int x :: .ref a :: st) h Q ↔ ∃ q, jx_ai h a = some q ∧ jx_in x q.1 ∧ jx_Go jxP d 187 53 [l0, l1, l2, l3, l4, l5, l6] (.int (q.2 x.toNatClampNeg) :: st) h Q := jg_ia rfl
theorem s187_53 : jx_Go jxP d 187 53 [l0, l1, l2, l3, l4, l5, l6] st h Q ↔ jx_Go jxP d 187 54 [l0, l1, l2, l3, l4, l5, l6] (.int (nI 5) :: st) h Q := jg_c rfl
theorem s187_54 : jx_Go jxP d 187 54 [l0, l1, l2, l3, l4, l5, l6] (.int y :: .int x :: st) h Q ↔ (¬ y = 0 ∧ jx_Go jxP d 187 55 [l0, l1, l2, l3, l4, l5, l6] (.int (x / y) :: st) h Q) := jg_q (f := fun x y => x / y) rfl
theorem s187_55 : jx_Go jxP d 187 55 [.ref a, l1, l2, l3, l4, l5, l6] st h Q ↔ jx_Go jxP d 187 56 [.ref a, l1, l2, l3, l4, l5, l6] (.ref a :: st) h Q := jg_al rfl rfl
theorem s187_56 : jx_Go jxP d 187 56 [l0, l1, l2, l3, l4, l5, l6] (.ref a :: st) h Q ↔ ∃ v, jx_fl h a 12 12 = some v ∧ jx_Go jxP d 187 59 [l0, l1, l2, l3, l4, l5, l6] (v :: st) h Q := jg_gf rfl
theorem s187_59 : jx_Go jxP d 187 59 [l0, l1, l2, l3, .int x, l5, l6] st h Q ↔ jx_Go jxP d 187 61 [l0, l1, l2, l3, .int x, l5, l6] (.int x :: st) h Q := jg_il rfl rfl
theorem s187_61 : jx_Go jxP d 187 61 [l0, l1, l2, l3, l4, l5, l6] (.int x :: .ref a :: st) h Q ↔ ∃ q, jx_ai h a = some q ∧ jx_in x q.1 ∧ jx_Go jxP d 187 62 [l0, l1, l2, l3, l4, l5, l6] (.int (q.2 x.toNatClampNeg) :: st) h Q := jg_ia rfl
theorem s187_62 : jx_Go jxP d 187 62 [l0, l1, l2, l3, l4, l5, l6] st h Q ↔ jx_Go jxP d 187 63 [l0, l1, l2, l3, l4, l5, l6] (.int (nI 5) :: st) h Q := jg_c rfl
theorem s187_63 : jx_Go jxP d 187 63 [l0, l1, l2, l3, l4, l5, l6] (.int y :: .int x :: st) h Q ↔ (¬ y = 0 ∧ jx_Go jxP d 187 64 [l0, l1, l2, l3, l4, l5, l6] (.int (x - x / y * y) :: st) h Q) := jg_q (f := fun x y => x - x / y * y) rfl
theorem s187_64 : jx_Go jxP (d + 1) 187 64 [l0, l1, l2, l3, l4, l5, l6] (.int x1 :: .int x0 :: .ref a :: st) h Q ↔ (st.length ≤ 4 ∧ jx_cl h a = some 12 ∧ jx_Go jxP d 131 0 [.ref a, .int x0, .int x1] [] h (fun s1 h1 => jx_Go jxP (d + 1) 187 67 [l0, l1, l2, l3, l4, l5, l6] (s1 ++ st) h1 Q)) := jg_callV (as := [.int x1, .int x0, .ref a]) rfl rfl rfl rfl rfl
theorem s187_67 : jx_Go jxP d 187 67 [l0, l1, l2, l3, l4, l5, l6] (.int x :: st) h Q ↔ if x = 0 then jx_Go jxP d 187 74 [l0, l1, l2, l3, l4, l5, l6] st h Q else jx_Go jxP d 187 70 [l0, l1, l2, l3, l4, l5, l6] st h Q := jg_ifP rfl rfl
theorem s187_70 : jx_Go jxP d 187 70 [l0, l1, l2, l3, l4, l5, l6] st h Q ↔ jx_Go jxP d 187 71 [l0, l1, l2, l3, l4, l5, l6] (.int (nI 1) :: st) h Q := jg_c rfl
theorem s187_71 : jx_Go jxP d 187 71 [l0, l1, l2, l3, l4, l5, l6] st h Q ↔ jx_Go jxP d 187 75 [l0, l1, l2, l3, l4, l5, l6] st h Q := jg_go rfl
theorem s187_74 : jx_Go jxP d 187 74 [l0, l1, l2, l3, l4, l5, l6] st h Q ↔ jx_Go jxP d 187 75 [l0, l1, l2, l3, l4, l5, l6] (.int (nI 0) :: st) h Q := jg_c rfl
theorem s187_75 : jx_Go jxP d 187 75 [l0, l1, l2, l3, l4, l5, l6] (.int y :: .int x :: st) h Q ↔ jx_Go jxP d 187 76 [l0, l1, l2, l3, l4, l5, l6] (.int (x &&& y) :: st) h Q := jg_b (f := fun x y => x &&& y) rfl
theorem s187_76 : jx_Go jxP d 187 76 [l0, l1, l2, l3, l4, l5, l6] (.int x :: st) h Q ↔ jx_Go jxP d 187 77 [l0, l1, l2, .int x, l4, l5, l6] st h Q := jg_is rfl rfl
theorem s187_77 : jx_Go jxP d 187 77 [l0, l1, l2, l3, .int x, l5, l6] st h Q ↔ jx_Go jxP d 187 80 [l0, l1, l2, l3, .int (x + (nI 1)), l5, l6] st h Q := jg_inc rfl rfl rfl
theorem s187_80 : jx_Go jxP d 187 80 [l0, l1, l2, l3, l4, l5, l6] st h Q ↔ jx_Go jxP d 187 28 [l0, l1, l2, l3, l4, l5, l6] st h Q := jg_go rfl
theorem s187_83 : jx_Go jxP d 187 83 [l0, l1, l2, .int x, l4, l5, l6] st h Q ↔ jx_Go jxP d 187 84 [l0, l1, l2, .int x, l4, l5, l6] (.int x :: st) h Q := jg_il rfl rfl
theorem s187_84 : jx_Go jxP d 187 84 [l0, l1, l2, l3, l4, l5, l6] (.int x :: st) h Q ↔ if x = 0 then jx_Go jxP d 187 87 [l0, l1, l2, l3, l4, l5, l6] st h Q else jx_Go jxP d 187 93 [l0, l1, l2, l3, l4, l5, l6] st h Q := jg_ifN rfl rfl
theorem s187_87 : jx_Go jxP d 187 87 [.ref a, l1, l2, l3, l4, l5, l6] st h Q ↔ jx_Go jxP d 187 88 [.ref a, l1, l2, l3, l4, l5, l6] (.ref a :: st) h Q := jg_al rfl rfl
theorem s187_88 : jx_Go jxP d 187 88 [l0, l1, l2, l3, l4, l5, l6] st h Q ↔ jx_Go jxP d 187 89 [l0, l1, l2, l3, l4, l5, l6] (.int (-1) :: st) h Q := jg_c rfl
theorem s187_89 : jx_Go jxP (d + 1) 187 89 [l0, l1, l2, l3, l4, l5, l6] (.int x0 :: .ref a :: st) h Q ↔ (st.length ≤ 4 ∧ jx_cl h a = some 12 ∧ jx_Go jxP d 130 0 [.ref a, .int x0] [] h (fun s1 h1 => jx_Go jxP (d + 1) 187 92 [l0, l1, l2, l3, l4, l5, l6] (s1 ++ st) h1 Q)) := jg_callV (as := [.int x0, .ref a]) rfl rfl rfl rfl rfl
theorem s187_92 : jx_Go jxP d 187 92 [l0, l1, l2, l3, l4, l5, l6] [.int x] h Q ↔ Q [.int x] h := jx_rt rfl rfl
theorem s187_93 : jx_Go jxP d 187 93 [l0, l1, l2, l3, l4, l5, l6] st h Q ↔ jx_Go jxP d 187 94 [l0, l1, l2, l3, l4, l5, l6] (.int (nI 1) :: st) h Q := jg_c rfl
theorem s187_94 : jx_Go jxP d 187 94 [l0, l1, l2, l3, l4, l5, l6] (.int x :: st) h Q ↔ jx_Go jxP d 187 96 [l0, l1, l2, l3, .int x, l5, l6] st h Q := jg_is rfl rfl
theorem s187_96 : jx_Go jxP d 187 96 [l0, l1, l2, l3, l4, l5, l6] st h Q ↔ jx_Go jxP d 187 97 [l0, l1, l2, l3, l4, l5, l6] (.int (nI 0) :: st) h Q := jg_c rfl
theorem s187_97 : jx_Go jxP d 187 97 [l0, l1, l2, l3, l4, l5, l6] (.int x :: st) h Q ↔ jx_Go jxP d 187 99 [l0, l1, l2, l3, l4, .int x, l6] st h Q := jg_is rfl rfl
theorem s187_99 : jx_Go jxP d 187 99 [l0, l1, l2, l3, l4, .int x, l6] st h Q ↔ jx_Go jxP d 187 101 [l0, l1, l2, l3, l4, .int x, l6] (.int x :: st) h Q := jg_il rfl rfl
theorem s187_101 : jx_Go jxP d 187 101 [l0, l1, .int x, l3, l4, l5, l6] st h Q ↔ jx_Go jxP d 187 102 [l0, l1, .int x, l3, l4, l5, l6] (.int x :: st) h Q := jg_il rfl rfl
theorem s187_102 : jx_Go jxP d 187 102 [l0, l1, l2, l3, l4, l5, l6] (.int y :: .int x :: st) h Q ↔ if y ≤ x then jx_Go jxP d 187 201 [l0, l1, l2, l3, l4, l5, l6] st h Q else jx_Go jxP d 187 105 [l0, l1, l2, l3, l4, l5, l6] st h Q := jg_icP rfl rfl
theorem s187_105 : jx_Go jxP d 187 105 [l0, l1, l2, l3, .int x, l5, l6] st h Q ↔ jx_Go jxP d 187 107 [l0, l1, l2, l3, .int x, l5, l6] (.int x :: st) h Q := jg_il rfl rfl
theorem s187_107 : jx_Go jxP d 187 107 [.ref a, l1, l2, l3, l4, l5, l6] st h Q ↔ jx_Go jxP d 187 108 [.ref a, l1, l2, l3, l4, l5, l6] (.ref a :: st) h Q := jg_al rfl rfl
theorem s187_108 : jx_Go jxP d 187 108 [l0, l1, l2, l3, l4, l5, l6] (.ref a :: st) h Q ↔ ∃ v, jx_fl h a 12 2 = some v ∧ jx_Go jxP d 187 111 [l0, l1, l2, l3, l4, l5, l6] (v :: st) h Q := jg_gf rfl
theorem s187_111 : jx_Go jxP d 187 111 [.ref a, l1, l2, l3, l4, l5, l6] st h Q ↔ jx_Go jxP d 187 112 [.ref a, l1, l2, l3, l4, l5, l6] (.ref a :: st) h Q := jg_al rfl rfl
theorem s187_112 : jx_Go jxP d 187 112 [l0, l1, l2, l3, l4, l5, l6] (.ref a :: st) h Q ↔ ∃ v, jx_fl h a 12 12 = some v ∧ jx_Go jxP d 187 115 [l0, l1, l2, l3, l4, l5, l6] (v :: st) h Q := jg_gf rfl
theorem s187_115 : jx_Go jxP d 187 115 [l0, l1, l2, l3, l4, .int x, l6] st h Q ↔ jx_Go jxP d 187 117 [l0, l1, l2, l3, l4, .int x, l6] (.int x :: st) h Q := jg_il rfl rfl
theorem s187_117 : jx_Go jxP d 187 117 [l0, l1, l2, l3, l4, l5, l6] (.int x :: .ref a :: st) h Q ↔ ∃ q, jx_ai h a = some q ∧ jx_in x q.1 ∧ jx_Go jxP d 187 118 [l0, l1, l2, l3, l4, l5, l6] (.int (q.2 x.toNatClampNeg) :: st) h Q := jg_ia rfl
theorem s187_118 : jx_Go jxP d 187 118 [l0, l1, l2, l3, l4, l5, l6] (.int x :: .ref a :: st) h Q ↔ ∃ q, jx_ai h a = some q ∧ jx_in x q.1 ∧ jx_Go jxP d 187 119 [l0, l1, l2, l3, l4, l5, l6] (.int (q.2 x.toNatClampNeg) :: st) h Q := jg_ia rfl
theorem s187_119 : jx_Go jxP d 187 119 [l0, .int x, l2, l3, l4, l5, l6] st h Q ↔ jx_Go jxP d 187 120 [l0, .int x, l2, l3, l4, l5, l6] (.int x :: st) h Q := jg_il rfl rfl
theorem s187_120 : jx_Go jxP d 187 120 [l0, l1, l2, l3, l4, l5, l6] (.int y :: .int x :: st) h Q ↔ if x = y then jx_Go jxP d 187 123 [l0, l1, l2, l3, l4, l5, l6] st h Q else jx_Go jxP d 187 127 [l0, l1, l2, l3, l4, l5, l6] st h Q := jg_icN rfl rfl
theorem s187_123 : jx_Go jxP d 187 123 [l0, l1, l2, l3, l4, l5, l6] st h Q ↔ jx_Go jxP d 187 124 [l0, l1, l2, l3, l4, l5, l6] (.int (nI 1) :: st) h Q := jg_c rfl
theorem s187_124 : jx_Go jxP d 187 124 [l0, l1, l2, l3, l4, l5, l6] st h Q ↔ jx_Go jxP d 187 128 [l0, l1, l2, l3, l4, l5, l6] st h Q := jg_go rfl
theorem s187_127 : jx_Go jxP d 187 127 [l0, l1, l2, l3, l4, l5, l6] st h Q ↔ jx_Go jxP d 187 128 [l0, l1, l2, l3, l4, l5, l6] (.int (nI 0) :: st) h Q := jg_c rfl
theorem s187_128 : jx_Go jxP d 187 128 [l0, l1, l2, l3, l4, l5, l6] (.int y :: .int x :: st) h Q ↔ jx_Go jxP d 187 129 [l0, l1, l2, l3, l4, l5, l6] (.int (x &&& y) :: st) h Q := jg_b (f := fun x y => x &&& y) rfl
theorem s187_129 : jx_Go jxP d 187 129 [l0, l1, l2, l3, l4, l5, l6] (.int x :: st) h Q ↔ jx_Go jxP d 187 131 [l0, l1, l2, l3, .int x, l5, l6] st h Q := jg_is rfl rfl
theorem s187_131 : jx_Go jxP d 187 131 [l0, l1, l2, l3, l4, l5, l6] st h Q ↔ jx_Go jxP d 187 132 [l0, l1, l2, l3, l4, l5, l6] (.int (nI 0) :: st) h Q := jg_c rfl
theorem s187_132 : jx_Go jxP d 187 132 [l0, l1, l2, l3, l4, l5, l6] (.int x :: st) h Q ↔ jx_Go jxP d 187 134 [l0, l1, l2, l3, l4, l5, .int x] st h Q := jg_is rfl rfl
theorem s187_134 : jx_Go jxP d 187 134 [l0, l1, l2, l3, l4, l5, .int x] st h Q ↔ jx_Go jxP d 187 136 [l0, l1, l2, l3, l4, l5, .int x] (.int x :: st) h Q := jg_il rfl rfl
theorem s187_136 : jx_Go jxP d 187 136 [l0, l1, l2, l3, l4, .int x, l6] st h Q ↔ jx_Go jxP d 187 138 [l0, l1, l2, l3, l4, .int x, l6] (.int x :: st) h Q := jg_il rfl rfl
theorem s187_138 : jx_Go jxP d 187 138 [l0, l1, l2, l3, l4, l5, l6] (.int y :: .int x :: st) h Q ↔ if y ≤ x then jx_Go jxP d 187 195 [l0, l1, l2, l3, l4, l5, l6] st h Q else jx_Go jxP d 187 141 [l0, l1, l2, l3, l4, l5, l6] st h Q := jg_icP rfl rfl
theorem s187_141 : jx_Go jxP d 187 141 [l0, l1, l2, l3, .int x, l5, l6] st h Q ↔ jx_Go jxP d 187 143 [l0, l1, l2, l3, .int x, l5, l6] (.int x :: st) h Q := jg_il rfl rfl
theorem s187_143 : jx_Go jxP d 187 143 [.ref a, l1, l2, l3, l4, l5, l6] st h Q ↔ jx_Go jxP d 187 144 [.ref a, l1, l2, l3, l4, l5, l6] (.ref a :: st) h Q := jg_al rfl rfl
theorem s187_144 : jx_Go jxP d 187 144 [l0, l1, l2, l3, l4, l5, l6] (.ref a :: st) h Q ↔ ∃ v, jx_fl h a 12 12 = some v ∧ jx_Go jxP d 187 147 [l0, l1, l2, l3, l4, l5, l6] (v :: st) h Q := jg_gf rfl
theorem s187_147 : jx_Go jxP d 187 147 [l0, l1, l2, l3, l4, l5, .int x] st h Q ↔ jx_Go jxP d 187 149 [l0, l1, l2, l3, l4, l5, .int x] (.int x :: st) h Q := jg_il rfl rfl
theorem s187_149 : jx_Go jxP d 187 149 [l0, l1, l2, l3, l4, l5, l6] (.int x :: .ref a :: st) h Q ↔ ∃ q, jx_ai h a = some q ∧ jx_in x q.1 ∧ jx_Go jxP d 187 150 [l0, l1, l2, l3, l4, l5, l6] (.int (q.2 x.toNatClampNeg) :: st) h Q := jg_ia rfl
theorem s187_150 : jx_Go jxP d 187 150 [.ref a, l1, l2, l3, l4, l5, l6] st h Q ↔ jx_Go jxP d 187 151 [.ref a, l1, l2, l3, l4, l5, l6] (.ref a :: st) h Q := jg_al rfl rfl
theorem s187_151 : jx_Go jxP d 187 151 [l0, l1, l2, l3, l4, l5, l6] (.ref a :: st) h Q ↔ ∃ v, jx_fl h a 12 12 = some v ∧ jx_Go jxP d 187 154 [l0, l1, l2, l3, l4, l5, l6] (v :: st) h Q := jg_gf rfl
theorem s187_154 : jx_Go jxP d 187 154 [l0, l1, l2, l3, l4, .int x, l6] st h Q ↔ jx_Go jxP d 187 156 [l0, l1, l2, l3, l4, .int x, l6] (.int x :: st) h Q := jg_il rfl rfl
theorem s187_156 : jx_Go jxP d 187 156 [l0, l1, l2, l3, l4, l5, l6] (.int x :: .ref a :: st) h Q ↔ ∃ q, jx_ai h a = some q ∧ jx_in x q.1 ∧ jx_Go jxP d 187 157 [l0, l1, l2, l3, l4, l5, l6] (.int (q.2 x.toNatClampNeg) :: st) h Q := jg_ia rfl
theorem s187_157 : jx_Go jxP d 187 157 [l0, l1, l2, l3, l4, l5, l6] (.int y :: .int x :: st) h Q ↔ if x = y then jx_Go jxP d 187 185 [l0, l1, l2, l3, l4, l5, l6] st h Q else jx_Go jxP d 187 160 [l0, l1, l2, l3, l4, l5, l6] st h Q := jg_icP rfl rfl
theorem s187_160 : jx_Go jxP d 187 160 [.ref a, l1, l2, l3, l4, l5, l6] st h Q ↔ jx_Go jxP d 187 161 [.ref a, l1, l2, l3, l4, l5, l6] (.ref a :: st) h Q := jg_al rfl rfl
theorem s187_161 : jx_Go jxP d 187 161 [.ref a, l1, l2, l3, l4, l5, l6] st h Q ↔ jx_Go jxP d 187 162 [.ref a, l1, l2, l3, l4, l5, l6] (.ref a :: st) h Q := jg_al rfl rfl
theorem s187_162 : jx_Go jxP d 187 162 [l0, l1, l2, l3, l4, l5, l6] (.ref a :: st) h Q ↔ ∃ v, jx_fl h a 12 12 = some v ∧ jx_Go jxP d 187 165 [l0, l1, l2, l3, l4, l5, l6] (v :: st) h Q := jg_gf rfl
theorem s187_165 : jx_Go jxP d 187 165 [l0, l1, l2, l3, l4, l5, .int x] st h Q ↔ jx_Go jxP d 187 167 [l0, l1, l2, l3, l4, l5, .int x] (.int x :: st) h Q := jg_il rfl rfl
theorem s187_167 : jx_Go jxP d 187 167 [l0, l1, l2, l3, l4, l5, l6] (.int x :: .ref a :: st) h Q ↔ ∃ q, jx_ai h a = some q ∧ jx_in x q.1 ∧ jx_Go jxP d 187 168 [l0, l1, l2, l3, l4, l5, l6] (.int (q.2 x.toNatClampNeg) :: st) h Q := jg_ia rfl
theorem s187_168 : jx_Go jxP d 187 168 [.ref a, l1, l2, l3, l4, l5, l6] st h Q ↔ jx_Go jxP d 187 169 [.ref a, l1, l2, l3, l4, l5, l6] (.ref a :: st) h Q := jg_al rfl rfl
theorem s187_169 : jx_Go jxP d 187 169 [l0, l1, l2, l3, l4, l5, l6] (.ref a :: st) h Q ↔ ∃ v, jx_fl h a 12 12 = some v ∧ jx_Go jxP d 187 172 [l0, l1, l2, l3, l4, l5, l6] (v :: st) h Q := jg_gf rfl
theorem s187_172 : jx_Go jxP d 187 172 [l0, l1, l2, l3, l4, .int x, l6] st h Q ↔ jx_Go jxP d 187 174 [l0, l1, l2, l3, l4, .int x, l6] (.int x :: st) h Q := jg_il rfl rfl
theorem s187_174 : jx_Go jxP d 187 174 [l0, l1, l2, l3, l4, l5, l6] (.int x :: .ref a :: st) h Q ↔ ∃ q, jx_ai h a = some q ∧ jx_in x q.1 ∧ jx_Go jxP d 187 175 [l0, l1, l2, l3, l4, l5, l6] (.int (q.2 x.toNatClampNeg) :: st) h Q := jg_ia rfl
theorem s187_175 : jx_Go jxP (d + 1) 187 175 [l0, l1, l2, l3, l4, l5, l6] (.int x1 :: .int x0 :: .ref a :: st) h Q ↔ (st.length ≤ 4 ∧ jx_cl h a = some 12 ∧ jx_Go jxP d 174 0 [.ref a, .int x0, .int x1, jx_u] [] h (fun s1 h1 => jx_Go jxP (d + 1) 187 178 [l0, l1, l2, l3, l4, l5, l6] (s1 ++ st) h1 Q)) := jg_callV (as := [.int x1, .int x0, .ref a]) rfl rfl rfl rfl rfl
theorem s187_178 : jx_Go jxP d 187 178 [l0, l1, l2, l3, l4, l5, l6] (.int x :: st) h Q ↔ if x = 0 then jx_Go jxP d 187 181 [l0, l1, l2, l3, l4, l5, l6] st h Q else jx_Go jxP d 187 185 [l0, l1, l2, l3, l4, l5, l6] st h Q := jg_ifN rfl rfl
theorem s187_181 : jx_Go jxP d 187 181 [l0, l1, l2, l3, l4, l5, l6] st h Q ↔ jx_Go jxP d 187 182 [l0, l1, l2, l3, l4, l5, l6] (.int (nI 1) :: st) h Q := jg_c rfl
theorem s187_182 : jx_Go jxP d 187 182 [l0, l1, l2, l3, l4, l5, l6] st h Q ↔ jx_Go jxP d 187 186 [l0, l1, l2, l3, l4, l5, l6] st h Q := jg_go rfl
theorem s187_185 : jx_Go jxP d 187 185 [l0, l1, l2, l3, l4, l5, l6] st h Q ↔ jx_Go jxP d 187 186 [l0, l1, l2, l3, l4, l5, l6] (.int (nI 0) :: st) h Q := jg_c rfl
theorem s187_186 : jx_Go jxP d 187 186 [l0, l1, l2, l3, l4, l5, l6] (.int y :: .int x :: st) h Q ↔ jx_Go jxP d 187 187 [l0, l1, l2, l3, l4, l5, l6] (.int (x &&& y) :: st) h Q := jg_b (f := fun x y => x &&& y) rfl
theorem s187_187 : jx_Go jxP d 187 187 [l0, l1, l2, l3, l4, l5, l6] (.int x :: st) h Q ↔ jx_Go jxP d 187 189 [l0, l1, l2, l3, .int x, l5, l6] st h Q := jg_is rfl rfl
theorem s187_189 : jx_Go jxP d 187 189 [l0, l1, l2, l3, l4, l5, .int x] st h Q ↔ jx_Go jxP d 187 192 [l0, l1, l2, l3, l4, l5, .int (x + (nI 1))] st h Q := jg_inc rfl rfl rfl
theorem s187_192 : jx_Go jxP d 187 192 [l0, l1, l2, l3, l4, l5, l6] st h Q ↔ jx_Go jxP d 187 134 [l0, l1, l2, l3, l4, l5, l6] st h Q := jg_go rfl
theorem s187_195 : jx_Go jxP d 187 195 [l0, l1, l2, l3, l4, .int x, l6] st h Q ↔ jx_Go jxP d 187 198 [l0, l1, l2, l3, l4, .int (x + (nI 1)), l6] st h Q := jg_inc rfl rfl rfl
theorem s187_198 : jx_Go jxP d 187 198 [l0, l1, l2, l3, l4, l5, l6] st h Q ↔ jx_Go jxP d 187 99 [l0, l1, l2, l3, l4, l5, l6] st h Q := jg_go rfl
theorem s187_201 : jx_Go jxP d 187 201 [l0, l1, l2, l3, .int x, l5, l6] st h Q ↔ jx_Go jxP d 187 203 [l0, l1, l2, l3, .int x, l5, l6] (.int x :: st) h Q := jg_il rfl rfl
theorem s187_203 : jx_Go jxP d 187 203 [l0, l1, l2, l3, l4, l5, l6] (.int x :: st) h Q ↔ if x = 0 then jx_Go jxP d 187 210 [l0, l1, l2, l3, l4, l5, l6] st h Q else jx_Go jxP d 187 206 [l0, l1, l2, l3, l4, l5, l6] st h Q := jg_ifP rfl rfl
theorem s187_206 : jx_Go jxP d 187 206 [l0, l1, l2, l3, l4, l5, l6] st h Q ↔ jx_Go jxP d 187 207 [l0, l1, l2, l3, l4, l5, l6] (.int (nI 1) :: st) h Q := jg_c rfl
theorem s187_207 : jx_Go jxP d 187 207 [l0, l1, l2, l3, l4, l5, l6] st h Q ↔ jx_Go jxP d 187 211 [l0, l1, l2, l3, l4, l5, l6] st h Q := jg_go rfl
theorem s187_210 : jx_Go jxP d 187 210 [l0, l1, l2, l3, l4, l5, l6] st h Q ↔ jx_Go jxP d 187 211 [l0, l1, l2, l3, l4, l5, l6] (.int (nI 0) :: st) h Q := jg_c rfl
theorem s187_211 : jx_Go jxP d 187 211 [l0, l1, l2, l3, l4, l5, l6] [.int x] h Q ↔ Q [.int x] h := jx_rt rfl rfl
-- 188 TalkBenchModel.isSlot
theorem s188_0 : jx_Go jxP d 188 0 [.int x] st h Q ↔ jx_Go jxP d 188 1 [.int x] (.int x :: st) h Q := jg_il rfl rfl
theorem s188_1 : jx_Go jxP d 188 1 [l0] (.int x :: st) h Q ↔ if x < 0 then jx_Go jxP d 188 13 [l0] st h Q else jx_Go jxP d 188 4 [l0] st h Q := jg_ifP rfl rfl
theorem s188_4 : jx_Go jxP d 188 4 [.int x] st h Q ↔ jx_Go jxP d 188 5 [.int x] (.int x :: st) h Q := jg_il rfl rfl
theorem s188_5 : jx_Go jxP d 188 5 [l0] st h Q ↔ jx_Go jxP d 188 6 [l0] (.int (nI 4) :: st) h Q := jg_c rfl
theorem s188_6 : jx_Go jxP d 188 6 [l0] (.int y :: .int x :: st) h Q ↔ if y ≤ x then jx_Go jxP d 188 13 [l0] st h Q else jx_Go jxP d 188 9 [l0] st h Q := jg_icP rfl rfl
theorem s188_9 : jx_Go jxP d 188 9 [l0] st h Q ↔ jx_Go jxP d 188 10 [l0] (.int (nI 1) :: st) h Q := jg_c rfl
theorem s188_10 : jx_Go jxP d 188 10 [l0] st h Q ↔ jx_Go jxP d 188 14 [l0] st h Q := jg_go rfl
theorem s188_13 : jx_Go jxP d 188 13 [l0] st h Q ↔ jx_Go jxP d 188 14 [l0] (.int (nI 0) :: st) h Q := jg_c rfl
theorem s188_14b0 : jx_Go jxP d 188 14 [l0] [.int (nI 0)] h Q ↔ Q [.int (nI 0)] h := jx_rt rfl rfl
theorem s188_14b1 : jx_Go jxP d 188 14 [l0] [.int (nI 1)] h Q ↔ Q [.int (nI 1)] h := jx_rt rfl rfl
-- 189 TalkBenchModel.keep
theorem s189_0 : jx_Go jxP d 189 0 [l0, .int x] st h Q ↔ jx_Go jxP d 189 1 [l0, .int x] (.int x :: st) h Q := jg_il rfl rfl
theorem s189_1 : jx_Go jxP (d + 1) 189 1 [l0, l1] (.int x0 :: st) h Q ↔ (st.length ≤ 4 ∧ jx_Go jxP d 188 0 [.int x0] [] h (fun s1 h1 => jx_Go jxP (d + 1) 189 4 [l0, l1] (s1 ++ st) h1 Q)) := jg_callS (as := [.int x0]) rfl rfl rfl rfl
theorem s189_4 : jx_Go jxP d 189 4 [l0, l1] (.int x :: st) h Q ↔ if x = 0 then jx_Go jxP d 189 7 [l0, l1] st h Q else jx_Go jxP d 189 13 [l0, l1] st h Q := jg_ifN rfl rfl
theorem s189_7 : jx_Go jxP d 189 7 [.ref a, l1] st h Q ↔ jx_Go jxP d 189 8 [.ref a, l1] (.ref a :: st) h Q := jg_al rfl rfl
theorem s189_8 : jx_Go jxP d 189 8 [l0, l1] st h Q ↔ jx_Go jxP d 189 9 [l0, l1] (.int (-1) :: st) h Q := jg_c rfl
theorem s189_9 : jx_Go jxP (d + 1) 189 9 [l0, l1] (.int x0 :: .ref a :: st) h Q ↔ (st.length ≤ 4 ∧ jx_cl h a = some 12 ∧ jx_Go jxP d 130 0 [.ref a, .int x0] [] h (fun s1 h1 => jx_Go jxP (d + 1) 189 12 [l0, l1] (s1 ++ st) h1 Q)) := jg_callV (as := [.int x0, .ref a]) rfl rfl rfl rfl rfl
theorem s189_12 : jx_Go jxP d 189 12 [l0, l1] [.int x] h Q ↔ Q [.int x] h := jx_rt rfl rfl
theorem s189_13 : jx_Go jxP d 189 13 [.ref a, l1] st h Q ↔ jx_Go jxP d 189 14 [.ref a, l1] (.ref a :: st) h Q := jg_al rfl rfl
theorem s189_14 : jx_Go jxP d 189 14 [.ref a, l1] st h Q ↔ jx_Go jxP d 189 15 [.ref a, l1] (.ref a :: st) h Q := jg_al rfl rfl
theorem s189_15 : jx_Go jxP d 189 15 [l0, l1] (.ref a :: st) h Q ↔ ∃ v, jx_fl h a 12 6 = some v ∧ jx_Go jxP d 189 18 [l0, l1] (v :: st) h Q := jg_gf rfl
theorem s189_18 : jx_Go jxP d 189 18 [l0, l1] st h Q ↔ jx_Go jxP d 189 20 [l0, l1] (.int (nI 52) :: st) h Q := jg_c rfl
theorem s189_20 : jx_Go jxP d 189 20 [l0, .int x] st h Q ↔ jx_Go jxP d 189 21 [l0, .int x] (.int x :: st) h Q := jg_il rfl rfl
theorem s189_21 : jx_Go jxP d 189 21 [l0, l1] (.int y :: .int x :: st) h Q ↔ jx_Go jxP d 189 22 [l0, l1] (.int (x * y) :: st) h Q := jg_b (f := fun x y => x * y) rfl
theorem s189_22 : jx_Go jxP (d + 1) 189 22 [l0, l1] (.int x1 :: .ref a0 :: .ref a :: st) h Q ↔ (st.length ≤ 4 ∧ jx_cl h a = some 12 ∧ jx_Go jxP d 134 0 [.ref a, .ref a0, .int x1, jx_u] [] h (fun s1 h1 => jx_Go jxP (d + 1) 189 25 [l0, l1] (s1 ++ st) h1 Q)) := jg_callV (as := [.int x1, .ref a0, .ref a]) rfl rfl rfl rfl rfl
theorem s189_25 : jx_Go jxP d 189 25 [.ref a, l1] st h Q ↔ jx_Go jxP d 189 26 [.ref a, l1] (.ref a :: st) h Q := jg_al rfl rfl
theorem s189_26 : jx_Go jxP d 189 26 [l0, l1] (.ref a :: st) h Q ↔ ∃ v, jx_fl h a 12 7 = some v ∧ jx_Go jxP d 189 29 [l0, l1] (v :: st) h Q := jg_gf rfl
theorem s189_29 : jx_Go jxP d 189 29 [l0, .int x] st h Q ↔ jx_Go jxP d 189 30 [l0, .int x] (.int x :: st) h Q := jg_il rfl rfl
theorem s189_30 : jx_Go jxP d 189 30 [.ref a, l1] st h Q ↔ jx_Go jxP d 189 31 [.ref a, l1] (.ref a :: st) h Q := jg_al rfl rfl
theorem s189_31 : jx_Go jxP d 189 31 [l0, l1] st h Q ↔ jx_Go jxP d 189 32 [l0, l1] (.int (nI 2) :: st) h Q := jg_c rfl
theorem s189_32 : jx_Go jxP (d + 1) 189 32 [l0, l1] (.int x0 :: .ref a :: st) h Q ↔ (st.length ≤ 4 ∧ jx_cl h a = some 12 ∧ jx_Go jxP d 138 0 [.ref a, .int x0, jx_u, jx_u, jx_u] [] h (fun s1 h1 => jx_Go jxP (d + 1) 189 35 [l0, l1] (s1 ++ st) h1 Q)) := jg_callV (as := [.int x0, .ref a]) rfl rfl rfl rfl rfl
theorem s189_35 : jx_Go jxP d 189 35 [l0, l1] (.int x :: st) h Q ↔ if x ≤ 0 then jx_Go jxP d 189 42 [l0, l1] st h Q else jx_Go jxP d 189 38 [l0, l1] st h Q := jg_ifP rfl rfl
theorem s189_38 : jx_Go jxP d 189 38 [l0, l1] st h Q ↔ jx_Go jxP d 189 39 [l0, l1] (.int (nI 3) :: st) h Q := jg_c rfl
theorem s189_39 : jx_Go jxP d 189 39 [l0, l1] st h Q ↔ jx_Go jxP d 189 58 [l0, l1] st h Q := jg_go rfl
theorem s189_42 : jx_Go jxP d 189 42 [.ref a, l1] st h Q ↔ jx_Go jxP d 189 43 [.ref a, l1] (.ref a :: st) h Q := jg_al rfl rfl
theorem s189_43 : jx_Go jxP d 189 43 [l0, l1] (.ref a :: st) h Q ↔ ∃ v, jx_fl h a 12 0 = some v ∧ jx_Go jxP d 189 46 [l0, l1] (v :: st) h Q := jg_gf rfl
theorem s189_46 : jx_Go jxP d 189 46 [.ref a, l1] st h Q ↔ jx_Go jxP d 189 47 [.ref a, l1] (.ref a :: st) h Q := jg_al rfl rfl
theorem s189_47 : jx_Go jxP d 189 47 [l0, l1] (.ref a :: st) h Q ↔ ∃ v, jx_fl h a 12 1 = some v ∧ jx_Go jxP d 189 50 [l0, l1] (v :: st) h Q := jg_gf rfl
theorem s189_50 : jx_Go jxP d 189 50 [l0, l1] (.int y :: .int x :: st) h Q ↔ if x = y then jx_Go jxP d 189 53 [l0, l1] st h Q else jx_Go jxP d 189 57 [l0, l1] st h Q := jg_icN rfl rfl
theorem s189_53 : jx_Go jxP d 189 53 [l0, l1] st h Q ↔ jx_Go jxP d 189 54 [l0, l1] (.int (nI 2) :: st) h Q := jg_c rfl
theorem s189_54 : jx_Go jxP d 189 54 [l0, l1] st h Q ↔ jx_Go jxP d 189 58 [l0, l1] st h Q := jg_go rfl
theorem s189_57 : jx_Go jxP d 189 57 [l0, l1] st h Q ↔ jx_Go jxP d 189 58 [l0, l1] (.int (nI 1) :: st) h Q := jg_c rfl
theorem s189_58 : jx_Go jxP d 189 58 [l0, l1] (.int y :: .int x :: .ref a :: st) h Q ↔ ∃ q, jx_ai h a = some q ∧ jx_in x q.1 ∧ jx_Go jxP d 189 59 [l0, l1] st (jx_wi h a q.1 (upd q.2 x.toNatClampNeg y)) Q := jg_iw rfl
theorem s189_59 : jx_Go jxP d 189 59 [.ref a, l1] st h Q ↔ jx_Go jxP d 189 60 [.ref a, l1] (.ref a :: st) h Q := jg_al rfl rfl
theorem s189_60 : jx_Go jxP d 189 60 [l0, l1] (.ref a :: st) h Q ↔ ∃ v, jx_fl h a 12 7 = some v ∧ jx_Go jxP d 189 63 [l0, l1] (v :: st) h Q := jg_gf rfl
theorem s189_63 : jx_Go jxP d 189 63 [l0, .int x] st h Q ↔ jx_Go jxP d 189 64 [l0, .int x] (.int x :: st) h Q := jg_il rfl rfl
theorem s189_64 : jx_Go jxP d 189 64 [l0, l1] (.int x :: .ref a :: st) h Q ↔ ∃ q, jx_ai h a = some q ∧ jx_in x q.1 ∧ jx_Go jxP d 189 65 [l0, l1] (.int (q.2 x.toNatClampNeg) :: st) h Q := jg_ia rfl
theorem s189_65 : jx_Go jxP d 189 65 [l0, l1] [.int x] h Q ↔ Q [.int x] h := jx_rt rfl rfl
-- 190 TalkBenchModel.bring
theorem s190_0 : jx_Go jxP d 190 0 [l0, .int x] st h Q ↔ jx_Go jxP d 190 1 [l0, .int x] (.int x :: st) h Q := jg_il rfl rfl
theorem s190_1 : jx_Go jxP (d + 1) 190 1 [l0, l1] (.int x0 :: st) h Q ↔ (st.length ≤ 4 ∧ jx_Go jxP d 188 0 [.int x0] [] h (fun s1 h1 => jx_Go jxP (d + 1) 190 4 [l0, l1] (s1 ++ st) h1 Q)) := jg_callS (as := [.int x0]) rfl rfl rfl rfl
theorem s190_4 : jx_Go jxP d 190 4 [l0, l1] (.int x :: st) h Q ↔ if x = 0 then jx_Go jxP d 190 7 [l0, l1] st h Q else jx_Go jxP d 190 13 [l0, l1] st h Q := jg_ifN rfl rfl
theorem s190_7 : jx_Go jxP d 190 7 [.ref a, l1] st h Q ↔ jx_Go jxP d 190 8 [.ref a, l1] (.ref a :: st) h Q := jg_al rfl rfl
theorem s190_8 : jx_Go jxP d 190 8 [l0, l1] st h Q ↔ jx_Go jxP d 190 9 [l0, l1] (.int (-1) :: st) h Q := jg_c rfl
theorem s190_9 : jx_Go jxP (d + 1) 190 9 [l0, l1] (.int x0 :: .ref a :: st) h Q ↔ (st.length ≤ 4 ∧ jx_cl h a = some 12 ∧ jx_Go jxP d 130 0 [.ref a, .int x0] [] h (fun s1 h1 => jx_Go jxP (d + 1) 190 12 [l0, l1] (s1 ++ st) h1 Q)) := jg_callV (as := [.int x0, .ref a]) rfl rfl rfl rfl rfl
theorem s190_12 : jx_Go jxP d 190 12 [l0, l1] [.int x] h Q ↔ Q [.int x] h := jx_rt rfl rfl
theorem s190_13 : jx_Go jxP d 190 13 [.ref a, l1] st h Q ↔ jx_Go jxP d 190 14 [.ref a, l1] (.ref a :: st) h Q := jg_al rfl rfl
theorem s190_14 : jx_Go jxP d 190 14 [l0, l1] (.ref a :: st) h Q ↔ ∃ v, jx_fl h a 12 7 = some v ∧ jx_Go jxP d 190 17 [l0, l1] (v :: st) h Q := jg_gf rfl
theorem s190_17 : jx_Go jxP d 190 17 [l0, .int x] st h Q ↔ jx_Go jxP d 190 18 [l0, .int x] (.int x :: st) h Q := jg_il rfl rfl
theorem s190_18 : jx_Go jxP d 190 18 [l0, l1] (.int x :: .ref a :: st) h Q ↔ ∃ q, jx_ai h a = some q ∧ jx_in x q.1 ∧ jx_Go jxP d 190 19 [l0, l1] (.int (q.2 x.toNatClampNeg) :: st) h Q := jg_ia rfl
theorem s190_19 : jx_Go jxP d 190 19 [l0, l1] (.int x :: st) h Q ↔ if 0 ≤ x then jx_Go jxP d 190 29 [l0, l1] st h Q else jx_Go jxP d 190 22 [l0, l1] st h Q := jg_ifP rfl rfl
theorem s190_22 : jx_Go jxP d 190 22 [.ref a, l1] st h Q ↔ jx_Go jxP d 190 23 [.ref a, l1] (.ref a :: st) h Q := jg_al rfl rfl
theorem s190_23 : jx_Go jxP d 190 23 [l0, l1] st h Q ↔ jx_Go jxP d 190 25 [l0, l1] (.int (-6) :: st) h Q := jg_c rfl
theorem s190_25 : jx_Go jxP (d + 1) 190 25 [l0, l1] (.int x0 :: .ref a :: st) h Q ↔ (st.length ≤ 4 ∧ jx_cl h a = some 12 ∧ jx_Go jxP d 130 0 [.ref a, .int x0] [] h (fun s1 h1 => jx_Go jxP (d + 1) 190 28 [l0, l1] (s1 ++ st) h1 Q)) := jg_callV (as := [.int x0, .ref a]) rfl rfl rfl rfl rfl
theorem s190_28 : jx_Go jxP d 190 28 [l0, l1] [.int x] h Q ↔ Q [.int x] h := jx_rt rfl rfl
theorem s190_29 : jx_Go jxP d 190 29 [.ref a, l1] st h Q ↔ jx_Go jxP d 190 30 [.ref a, l1] (.ref a :: st) h Q := jg_al rfl rfl
theorem s190_30 : jx_Go jxP (d + 1) 190 30 [l0, l1] (.ref a :: st) h Q ↔ (st.length ≤ 4 ∧ jx_cl h a = some 12 ∧ jx_Go jxP d 136 0 [.ref a, jx_u] [] h (fun s1 h1 => jx_Go jxP (d + 1) 190 33 [l0, l1] (s1 ++ st) h1 Q)) := jg_callV (as := [.ref a]) rfl rfl rfl rfl rfl
theorem s190_33 : jx_Go jxP d 190 33 [.ref a, l1] st h Q ↔ jx_Go jxP d 190 34 [.ref a, l1] (.ref a :: st) h Q := jg_al rfl rfl
theorem s190_34 : jx_Go jxP d 190 34 [.ref a, l1] st h Q ↔ jx_Go jxP d 190 35 [.ref a, l1] (.ref a :: st) h Q := jg_al rfl rfl
theorem s190_35 : jx_Go jxP d 190 35 [l0, l1] (.ref a :: st) h Q ↔ ∃ v, jx_fl h a 12 6 = some v ∧ jx_Go jxP d 190 38 [l0, l1] (v :: st) h Q := jg_gf rfl
theorem s190_38 : jx_Go jxP d 190 38 [l0, l1] st h Q ↔ jx_Go jxP d 190 40 [l0, l1] (.int (nI 52) :: st) h Q := jg_c rfl
theorem s190_40 : jx_Go jxP d 190 40 [l0, .int x] st h Q ↔ jx_Go jxP d 190 41 [l0, .int x] (.int x :: st) h Q := jg_il rfl rfl
theorem s190_41 : jx_Go jxP d 190 41 [l0, l1] (.int y :: .int x :: st) h Q ↔ jx_Go jxP d 190 42 [l0, l1] (.int (x * y) :: st) h Q := jg_b (f := fun x y => x * y) rfl
theorem s190_42 : jx_Go jxP (d + 1) 190 42 [l0, l1] (.int x1 :: .ref a0 :: .ref a :: st) h Q ↔ (st.length ≤ 4 ∧ jx_cl h a = some 12 ∧ jx_Go jxP d 135 0 [.ref a, .ref a0, .int x1, jx_u] [] h (fun s1 h1 => jx_Go jxP (d + 1) 190 45 [l0, l1] (s1 ++ st) h1 Q)) := jg_callV (as := [.int x1, .ref a0, .ref a]) rfl rfl rfl rfl rfl
theorem s190_45 : jx_Go jxP d 190 45 [.ref a, l1] st h Q ↔ jx_Go jxP d 190 46 [.ref a, l1] (.ref a :: st) h Q := jg_al rfl rfl
theorem s190_46 : jx_Go jxP d 190 46 [l0, l1] (.ref a :: st) h Q ↔ ∃ v, jx_fl h a 12 0 = some v ∧ jx_Go jxP d 190 49 [l0, l1] (v :: st) h Q := jg_gf rfl
theorem s190_49 : jx_Go jxP d 190 49 [.ref a, l1] st h Q ↔ jx_Go jxP d 190 50 [.ref a, l1] (.ref a :: st) h Q := jg_al rfl rfl
theorem s190_50 : jx_Go jxP d 190 50 [l0, l1] (.ref a :: st) h Q ↔ ∃ v, jx_fl h a 12 1 = some v ∧ jx_Go jxP d 190 53 [l0, l1] (v :: st) h Q := jg_gf rfl
theorem s190_53 : jx_Go jxP d 190 53 [l0, l1] (.int y :: .int x :: st) h Q ↔ jx_Go jxP d 190 54 [l0, l1] (.int (x * y) :: st) h Q := jg_b (f := fun x y => x * y) rfl
theorem s190_54 : jx_Go jxP d 190 54 [l0, l1] [.int x] h Q ↔ Q [.int x] h := jx_rt rfl rfl
-- 191 TalkBenchModel.slotPlace
theorem s191_0 : jx_Go jxP d 191 0 [.ref a, l1, l2, l3] st h Q ↔ jx_Go jxP d 191 1 [.ref a, l1, l2, l3] (.ref a :: st) h Q := jg_al rfl rfl
theorem s191_1 : jx_Go jxP d 191 1 [l0, l1, l2, l3] (.ref a :: st) h Q ↔ ∃ v, jx_fl h a 12 6 = some v ∧ jx_Go jxP d 191 4 [l0, l1, l2, l3] (v :: st) h Q := jg_gf rfl
theorem s191_4 : jx_Go jxP d 191 4 [l0, l1, l2, l3] st h Q ↔ jx_Go jxP d 191 6 [l0, l1, l2, l3] (.int (nI 52) :: st) h Q := jg_c rfl
theorem s191_6 : jx_Go jxP d 191 6 [l0, .int x, l2, l3] st h Q ↔ jx_Go jxP d 191 7 [l0, .int x, l2, l3] (.int x :: st) h Q := jg_il rfl rfl
theorem s191_7 : jx_Go jxP d 191 7 [l0, l1, l2, l3] (.int y :: .int x :: st) h Q ↔ jx_Go jxP d 191 8 [l0, l1, l2, l3] (.int (x * y) :: st) h Q := jg_b (f := fun x y => x * y) rfl
theorem s191_8 : jx_Go jxP d 191 8 [l0, l1, l2, l3] st h Q ↔ jx_Go jxP d 191 9 [l0, l1, l2, l3] (.int (nI 2) :: st) h Q := jg_c rfl
theorem s191_9 : jx_Go jxP d 191 9 [l0, l1, l2, l3] (.int y :: .int x :: st) h Q ↔ jx_Go jxP d 191 10 [l0, l1, l2, l3] (.int (x + y) :: st) h Q := jg_b (f := fun x y => x + y) rfl
theorem s191_10 : jx_Go jxP d 191 10 [l0, l1, l2, l3] st h Q ↔ jx_Go jxP d 191 11 [l0, l1, l2, l3] (.int (nI 5) :: st) h Q := jg_c rfl
theorem s191_11 : jx_Go jxP d 191 11 [l0, l1, .int x, l3] st h Q ↔ jx_Go jxP d 191 12 [l0, l1, .int x, l3] (.int x :: st) h Q := jg_il rfl rfl
theorem s191_12 : jx_Go jxP d 191 12 [l0, l1, l2, l3] (.int y :: .int x :: st) h Q ↔ jx_Go jxP d 191 13 [l0, l1, l2, l3] (.int (x * y) :: st) h Q := jg_b (f := fun x y => x * y) rfl
theorem s191_13 : jx_Go jxP d 191 13 [l0, l1, l2, l3] (.int y :: .int x :: st) h Q ↔ jx_Go jxP d 191 14 [l0, l1, l2, l3] (.int (x + y) :: st) h Q := jg_b (f := fun x y => x + y) rfl
theorem s191_14 : jx_Go jxP d 191 14 [l0, l1, l2, .int x] st h Q ↔ jx_Go jxP d 191 15 [l0, l1, l2, .int x] (.int x :: st) h Q := jg_il rfl rfl
theorem s191_15 : jx_Go jxP d 191 15 [l0, l1, l2, l3] (.int y :: .int x :: st) h Q ↔ jx_Go jxP d 191 16 [l0, l1, l2, l3] (.int (x + y) :: st) h Q := jg_b (f := fun x y => x + y) rfl
theorem s191_16 : jx_Go jxP d 191 16 [l0, l1, l2, l3] (.int x :: .ref a :: st) h Q ↔ ∃ q, jx_ai h a = some q ∧ jx_in x q.1 ∧ jx_Go jxP d 191 17 [l0, l1, l2, l3] (.int (q.2 x.toNatClampNeg) :: st) h Q := jg_ia rfl
theorem s191_17 : jx_Go jxP d 191 17 [l0, l1, l2, l3] [.int x] h Q ↔ Q [.int x] h := jx_rt rfl rfl
-- 192 TalkBenchModel.as
theorem s192_0 : jx_Go jxP d 192 0 [l0, .int x, l2, l3, l4, l5, l6] st h Q ↔ jx_Go jxP d 192 1 [l0, .int x, l2, l3, l4, l5, l6] (.int x :: st) h Q := jg_il rfl rfl
theorem s192_1 : jx_Go jxP (d + 1) 192 1 [l0, l1, l2, l3, l4, l5, l6] (.int x0 :: st) h Q ↔ (st.length ≤ 4 ∧ jx_Go jxP d 188 0 [.int x0] [] h (fun s1 h1 => jx_Go jxP (d + 1) 192 4 [l0, l1, l2, l3, l4, l5, l6] (s1 ++ st) h1 Q)) := jg_callS (as := [.int x0]) rfl rfl rfl rfl
theorem s192_4 : jx_Go jxP d 192 4 [l0, l1, l2, l3, l4, l5, l6] (.int x :: st) h Q ↔ if x = 0 then jx_Go jxP d 192 16 [l0, l1, l2, l3, l4, l5, l6] st h Q else jx_Go jxP d 192 7 [l0, l1, l2, l3, l4, l5, l6] st h Q := jg_ifP rfl rfl
theorem s192_7 : jx_Go jxP d 192 7 [l0, l1, .int x, l3, l4, l5, l6] st h Q ↔ jx_Go jxP d 192 8 [l0, l1, .int x, l3, l4, l5, l6] (.int x :: st) h Q := jg_il rfl rfl
theorem s192_8 : jx_Go jxP d 192 8 [l0, l1, l2, l3, l4, l5, l6] (.int x :: st) h Q ↔ if x < 0 then jx_Go jxP d 192 16 [l0, l1, l2, l3, l4, l5, l6] st h Q else jx_Go jxP d 192 11 [l0, l1, l2, l3, l4, l5, l6] st h Q := jg_ifP rfl rfl
theorem s192_11 : jx_Go jxP d 192 11 [l0, l1, .int x, l3, l4, l5, l6] st h Q ↔ jx_Go jxP d 192 12 [l0, l1, .int x, l3, l4, l5, l6] (.int x :: st) h Q := jg_il rfl rfl
theorem s192_12 : jx_Go jxP d 192 12 [l0, l1, l2, l3, l4, l5, l6] st h Q ↔ jx_Go jxP d 192 13 [l0, l1, l2, l3, l4, l5, l6] (.int (nI 3) :: st) h Q := jg_c rfl
theorem s192_13 : jx_Go jxP d 192 13 [l0, l1, l2, l3, l4, l5, l6] (.int y :: .int x :: st) h Q ↔ if x ≤ y then jx_Go jxP d 192 22 [l0, l1, l2, l3, l4, l5, l6] st h Q else jx_Go jxP d 192 16 [l0, l1, l2, l3, l4, l5, l6] st h Q := jg_icP rfl rfl
theorem s192_16 : jx_Go jxP d 192 16 [.ref a, l1, l2, l3, l4, l5, l6] st h Q ↔ jx_Go jxP d 192 17 [.ref a, l1, l2, l3, l4, l5, l6] (.ref a :: st) h Q := jg_al rfl rfl
theorem s192_17 : jx_Go jxP d 192 17 [l0, l1, l2, l3, l4, l5, l6] st h Q ↔ jx_Go jxP d 192 18 [l0, l1, l2, l3, l4, l5, l6] (.int (-1) :: st) h Q := jg_c rfl
theorem s192_18 : jx_Go jxP (d + 1) 192 18 [l0, l1, l2, l3, l4, l5, l6] (.int x0 :: .ref a :: st) h Q ↔ (st.length ≤ 4 ∧ jx_cl h a = some 12 ∧ jx_Go jxP d 130 0 [.ref a, .int x0] [] h (fun s1 h1 => jx_Go jxP (d + 1) 192 21 [l0, l1, l2, l3, l4, l5, l6] (s1 ++ st) h1 Q)) := jg_callV (as := [.int x0, .ref a]) rfl rfl rfl rfl rfl
theorem s192_21 : jx_Go jxP d 192 21 [l0, l1, l2, l3, l4, l5, l6] [.int x] h Q ↔ Q [.int x] h := jx_rt rfl rfl
theorem s192_22 : jx_Go jxP d 192 22 [.ref a, l1, l2, l3, l4, l5, l6] st h Q ↔ jx_Go jxP d 192 23 [.ref a, l1, l2, l3, l4, l5, l6] (.ref a :: st) h Q := jg_al rfl rfl
theorem s192_23 : jx_Go jxP d 192 23 [l0, l1, l2, l3, l4, l5, l6] (.ref a :: st) h Q ↔ ∃ v, jx_fl h a 12 7 = some v ∧ jx_Go jxP d 192 26 [l0, l1, l2, l3, l4, l5, l6] (v :: st) h Q := jg_gf rfl
theorem s192_26 : jx_Go jxP d 192 26 [l0, .int x, l2, l3, l4, l5, l6] st h Q ↔ jx_Go jxP d 192 27 [l0, .int x, l2, l3, l4, l5, l6] (.int x :: st) h Q := jg_il rfl rfl
theorem s192_27 : jx_Go jxP d 192 27 [l0, l1, l2, l3, l4, l5, l6] (.int x :: .ref a :: st) h Q ↔ ∃ q, jx_ai h a = some q ∧ jx_in x q.1 ∧ jx_Go jxP d 192 28 [l0, l1, l2, l3, l4, l5, l6] (.int (q.2 x.toNatClampNeg) :: st) h Q := jg_ia rfl
theorem s192_28 : jx_Go jxP d 192 28 [l0, l1, l2, l3, l4, l5, l6] (.int x :: st) h Q ↔ if 0 ≤ x then jx_Go jxP d 192 38 [l0, l1, l2, l3, l4, l5, l6] st h Q else jx_Go jxP d 192 31 [l0, l1, l2, l3, l4, l5, l6] st h Q := jg_ifP rfl rfl
theorem s192_31 : jx_Go jxP d 192 31 [.ref a, l1, l2, l3, l4, l5, l6] st h Q ↔ jx_Go jxP d 192 32 [.ref a, l1, l2, l3, l4, l5, l6] (.ref a :: st) h Q := jg_al rfl rfl
theorem s192_32 : jx_Go jxP d 192 32 [l0, l1, l2, l3, l4, l5, l6] st h Q ↔ jx_Go jxP d 192 34 [l0, l1, l2, l3, l4, l5, l6] (.int (-6) :: st) h Q := jg_c rfl
theorem s192_34 : jx_Go jxP (d + 1) 192 34 [l0, l1, l2, l3, l4, l5, l6] (.int x0 :: .ref a :: st) h Q ↔ (st.length ≤ 4 ∧ jx_cl h a = some 12 ∧ jx_Go jxP d 130 0 [.ref a, .int x0] [] h (fun s1 h1 => jx_Go jxP (d + 1) 192 37 [l0, l1, l2, l3, l4, l5, l6] (s1 ++ st) h1 Q)) := jg_callV (as := [.int x0, .ref a]) rfl rfl rfl rfl rfl
theorem s192_37 : jx_Go jxP d 192 37 [l0, l1, l2, l3, l4, l5, l6] [.int x] h Q ↔ Q [.int x] h := jx_rt rfl rfl
theorem s192_38 : jx_Go jxP d 192 38 [.ref a, l1, l2, l3, l4, l5, l6] st h Q ↔ jx_Go jxP d 192 39 [.ref a, l1, l2, l3, l4, l5, l6] (.ref a :: st) h Q := jg_al rfl rfl
theorem s192_39 : jx_Go jxP d 192 39 [l0, l1, l2, l3, l4, l5, l6] (.ref a :: st) h Q ↔ ∃ v, jx_fl h a 12 7 = some v ∧ jx_Go jxP d 192 42 [l0, l1, l2, l3, l4, l5, l6] (v :: st) h Q := jg_gf rfl
theorem s192_42 : jx_Go jxP d 192 42 [l0, .int x, l2, l3, l4, l5, l6] st h Q ↔ jx_Go jxP d 192 43 [l0, .int x, l2, l3, l4, l5, l6] (.int x :: st) h Q := jg_il rfl rfl
theorem s192_43 : jx_Go jxP d 192 43 [l0, l1, l2, l3, l4, l5, l6] (.int x :: .ref a :: st) h Q ↔ ∃ q, jx_ai h a = some q ∧ jx_in x q.1 ∧ jx_Go jxP d 192 44 [l0, l1, l2, l3, l4, l5, l6] (.int (q.2 x.toNatClampNeg) :: st) h Q := jg_ia rfl
theorem s192_44 : jx_Go jxP d 192 44 [l0, l1, l2, l3, l4, l5, l6] (.int x :: st) h Q ↔ jx_Go jxP d 192 45 [l0, l1, l2, .int x, l4, l5, l6] st h Q := jg_is rfl rfl
theorem s192_45 : jx_Go jxP d 192 45 [l0, l1, l2, .int x, l4, l5, l6] st h Q ↔ jx_Go jxP d 192 46 [l0, l1, l2, .int x, l4, l5, l6] (.int x :: st) h Q := jg_il rfl rfl
theorem s192_46 : jx_Go jxP d 192 46 [l0, l1, .int x, l3, l4, l5, l6] st h Q ↔ jx_Go jxP d 192 47 [l0, l1, .int x, l3, l4, l5, l6] (.int x :: st) h Q := jg_il rfl rfl
theorem s192_47 : jx_Go jxP d 192 47 [l0, l1, l2, l3, l4, l5, l6] (.int y :: .int x :: st) h Q ↔ if x = y then jx_Go jxP d 192 71 [l0, l1, l2, l3, l4, l5, l6] st h Q else jx_Go jxP d 192 50 [l0, l1, l2, l3, l4, l5, l6] st h Q := jg_icP rfl rfl
theorem s192_50 : jx_Go jxP d 192 50 [l0, l1, .int x, l3, l4, l5, l6] st h Q ↔ jx_Go jxP d 192 51 [l0, l1, .int x, l3, l4, l5, l6] (.int x :: st) h Q := jg_il rfl rfl
theorem s192_51 : jx_Go jxP d 192 51 [l0, l1, l2, l3, l4, l5, l6] (.int x :: st) h Q ↔ if x = 0 then jx_Go jxP d 192 71 [l0, l1, l2, l3, l4, l5, l6] st h Q else jx_Go jxP d 192 54 [l0, l1, l2, l3, l4, l5, l6] st h Q := jg_ifP rfl rfl
theorem s192_54 : jx_Go jxP d 192 54 [l0, l1, .int x, l3, l4, l5, l6] st h Q ↔ jx_Go jxP d 192 55 [l0, l1, .int x, l3, l4, l5, l6] (.int x :: st) h Q := jg_il rfl rfl
theorem s192_55 : jx_Go jxP d 192 55 [l0, l1, l2, l3, l4, l5, l6] st h Q ↔ jx_Go jxP d 192 56 [l0, l1, l2, l3, l4, l5, l6] (.int (nI 1) :: st) h Q := jg_c rfl
theorem s192_56 : jx_Go jxP d 192 56 [l0, l1, l2, l3, l4, l5, l6] (.int y :: .int x :: st) h Q ↔ if x = y then jx_Go jxP d 192 59 [l0, l1, l2, l3, l4, l5, l6] st h Q else jx_Go jxP d 192 64 [l0, l1, l2, l3, l4, l5, l6] st h Q := jg_icN rfl rfl
theorem s192_59 : jx_Go jxP d 192 59 [l0, l1, l2, .int x, l4, l5, l6] st h Q ↔ jx_Go jxP d 192 60 [l0, l1, l2, .int x, l4, l5, l6] (.int x :: st) h Q := jg_il rfl rfl
theorem s192_60 : jx_Go jxP d 192 60 [l0, l1, l2, l3, l4, l5, l6] st h Q ↔ jx_Go jxP d 192 61 [l0, l1, l2, l3, l4, l5, l6] (.int (nI 2) :: st) h Q := jg_c rfl
theorem s192_61 : jx_Go jxP d 192 61 [l0, l1, l2, l3, l4, l5, l6] (.int y :: .int x :: st) h Q ↔ if x = y then jx_Go jxP d 192 71 [l0, l1, l2, l3, l4, l5, l6] st h Q else jx_Go jxP d 192 64 [l0, l1, l2, l3, l4, l5, l6] st h Q := jg_icP rfl rfl
theorem s192_64 : jx_Go jxP d 192 64 [.ref a, l1, l2, l3, l4, l5, l6] st h Q ↔ jx_Go jxP d 192 65 [.ref a, l1, l2, l3, l4, l5, l6] (.ref a :: st) h Q := jg_al rfl rfl
theorem s192_65 : jx_Go jxP d 192 65 [l0, l1, l2, l3, l4, l5, l6] st h Q ↔ jx_Go jxP d 192 67 [l0, l1, l2, l3, l4, l5, l6] (.int (-4) :: st) h Q := jg_c rfl
theorem s192_67 : jx_Go jxP (d + 1) 192 67 [l0, l1, l2, l3, l4, l5, l6] (.int x0 :: .ref a :: st) h Q ↔ (st.length ≤ 4 ∧ jx_cl h a = some 12 ∧ jx_Go jxP d 130 0 [.ref a, .int x0] [] h (fun s1 h1 => jx_Go jxP (d + 1) 192 70 [l0, l1, l2, l3, l4, l5, l6] (s1 ++ st) h1 Q)) := jg_callV (as := [.int x0, .ref a]) rfl rfl rfl rfl rfl
theorem s192_70 : jx_Go jxP d 192 70 [l0, l1, l2, l3, l4, l5, l6] [.int x] h Q ↔ Q [.int x] h := jx_rt rfl rfl
theorem s192_71 : jx_Go jxP d 192 71 [l0, l1, l2, l3, l4, l5, l6] st h Q ↔ jx_Go jxP d 192 72 [l0, l1, l2, l3, l4, l5, l6] (.int (nI 0) :: st) h Q := jg_c rfl
theorem s192_72 : jx_Go jxP d 192 72 [l0, l1, l2, l3, l4, l5, l6] (.int x :: st) h Q ↔ jx_Go jxP d 192 74 [l0, l1, l2, l3, .int x, l5, l6] st h Q := jg_is rfl rfl
theorem s192_74 : jx_Go jxP d 192 74 [l0, l1, l2, l3, l4, l5, l6] st h Q ↔ jx_Go jxP d 192 75 [l0, l1, l2, l3, l4, l5, l6] (.int (nI 0) :: st) h Q := jg_c rfl
theorem s192_75 : jx_Go jxP d 192 75 [l0, l1, l2, l3, l4, l5, l6] (.int x :: st) h Q ↔ jx_Go jxP d 192 77 [l0, l1, l2, l3, l4, .int x, l6] st h Q := jg_is rfl rfl
theorem s192_77 : jx_Go jxP d 192 77 [l0, l1, l2, l3, l4, .int x, l6] st h Q ↔ jx_Go jxP d 192 79 [l0, l1, l2, l3, l4, .int x, l6] (.int x :: st) h Q := jg_il rfl rfl
theorem s192_79 : jx_Go jxP d 192 79 [.ref a, l1, l2, l3, l4, l5, l6] st h Q ↔ jx_Go jxP d 192 80 [.ref a, l1, l2, l3, l4, l5, l6] (.ref a :: st) h Q := jg_al rfl rfl
theorem s192_80 : jx_Go jxP d 192 80 [l0, l1, l2, l3, l4, l5, l6] (.ref a :: st) h Q ↔ ∃ v, jx_fl h a 12 6 = some v ∧ jx_Go jxP d 192 83 [l0, l1, l2, l3, l4, l5, l6] (v :: st) h Q := jg_gf rfl
theorem s192_83 : jx_Go jxP d 192 83 [l0, l1, l2, l3, l4, l5, l6] st h Q ↔ jx_Go jxP d 192 85 [l0, l1, l2, l3, l4, l5, l6] (.int (nI 52) :: st) h Q := jg_c rfl
theorem s192_85 : jx_Go jxP d 192 85 [l0, .int x, l2, l3, l4, l5, l6] st h Q ↔ jx_Go jxP d 192 86 [l0, .int x, l2, l3, l4, l5, l6] (.int x :: st) h Q := jg_il rfl rfl
theorem s192_86 : jx_Go jxP d 192 86 [l0, l1, l2, l3, l4, l5, l6] (.int y :: .int x :: st) h Q ↔ jx_Go jxP d 192 87 [l0, l1, l2, l3, l4, l5, l6] (.int (x * y) :: st) h Q := jg_b (f := fun x y => x * y) rfl
theorem s192_87 : jx_Go jxP d 192 87 [l0, l1, l2, l3, l4, l5, l6] (.int x :: .ref a :: st) h Q ↔ ∃ q, jx_ai h a = some q ∧ jx_in x q.1 ∧ jx_Go jxP d 192 88 [l0, l1, l2, l3, l4, l5, l6] (.int (q.2 x.toNatClampNeg) :: st) h Q := jg_ia rfl
theorem s192_88 : jx_Go jxP d 192 88 [l0, l1, l2, l3, l4, l5, l6] (.int y :: .int x :: st) h Q ↔ if y ≤ x then jx_Go jxP d 192 145 [l0, l1, l2, l3, l4, l5, l6] st h Q else jx_Go jxP d 192 91 [l0, l1, l2, l3, l4, l5, l6] st h Q := jg_icP rfl rfl
theorem s192_91 : jx_Go jxP d 192 91 [l0, l1, l2, l3, l4, l5, l6] st h Q ↔ jx_Go jxP d 192 92 [l0, l1, l2, l3, l4, l5, l6] (.int (nI 0) :: st) h Q := jg_c rfl
theorem s192_92 : jx_Go jxP d 192 92 [l0, l1, l2, l3, l4, l5, l6] (.int x :: st) h Q ↔ jx_Go jxP d 192 94 [l0, l1, l2, l3, l4, l5, .int x] st h Q := jg_is rfl rfl
theorem s192_94 : jx_Go jxP d 192 94 [l0, l1, l2, l3, l4, l5, .int x] st h Q ↔ jx_Go jxP d 192 96 [l0, l1, l2, l3, l4, l5, .int x] (.int x :: st) h Q := jg_il rfl rfl
theorem s192_96 : jx_Go jxP d 192 96 [.ref a, l1, l2, l3, l4, l5, l6] st h Q ↔ jx_Go jxP d 192 97 [.ref a, l1, l2, l3, l4, l5, l6] (.ref a :: st) h Q := jg_al rfl rfl
theorem s192_97 : jx_Go jxP d 192 97 [l0, l1, l2, l3, l4, l5, l6] (.ref a :: st) h Q ↔ ∃ v, jx_fl h a 12 6 = some v ∧ jx_Go jxP d 192 100 [l0, l1, l2, l3, l4, l5, l6] (v :: st) h Q := jg_gf rfl
theorem s192_100 : jx_Go jxP d 192 100 [l0, l1, l2, l3, l4, l5, l6] st h Q ↔ jx_Go jxP d 192 102 [l0, l1, l2, l3, l4, l5, l6] (.int (nI 52) :: st) h Q := jg_c rfl
theorem s192_102 : jx_Go jxP d 192 102 [l0, .int x, l2, l3, l4, l5, l6] st h Q ↔ jx_Go jxP d 192 103 [l0, .int x, l2, l3, l4, l5, l6] (.int x :: st) h Q := jg_il rfl rfl
theorem s192_103 : jx_Go jxP d 192 103 [l0, l1, l2, l3, l4, l5, l6] (.int y :: .int x :: st) h Q ↔ jx_Go jxP d 192 104 [l0, l1, l2, l3, l4, l5, l6] (.int (x * y) :: st) h Q := jg_b (f := fun x y => x * y) rfl
theorem s192_104 : jx_Go jxP d 192 104 [l0, l1, l2, l3, l4, l5, l6] st h Q ↔ jx_Go jxP d 192 105 [l0, l1, l2, l3, l4, l5, l6] (.int (nI 1) :: st) h Q := jg_c rfl
theorem s192_105 : jx_Go jxP d 192 105 [l0, l1, l2, l3, l4, l5, l6] (.int y :: .int x :: st) h Q ↔ jx_Go jxP d 192 106 [l0, l1, l2, l3, l4, l5, l6] (.int (x + y) :: st) h Q := jg_b (f := fun x y => x + y) rfl
theorem s192_106 : jx_Go jxP d 192 106 [l0, l1, l2, l3, l4, l5, l6] (.int x :: .ref a :: st) h Q ↔ ∃ q, jx_ai h a = some q ∧ jx_in x q.1 ∧ jx_Go jxP d 192 107 [l0, l1, l2, l3, l4, l5, l6] (.int (q.2 x.toNatClampNeg) :: st) h Q := jg_ia rfl
theorem s192_107 : jx_Go jxP d 192 107 [l0, l1, l2, l3, l4, l5, l6] (.int y :: .int x :: st) h Q ↔ if y ≤ x then jx_Go jxP d 192 139 [l0, l1, l2, l3, l4, l5, l6] st h Q else jx_Go jxP d 192 110 [l0, l1, l2, l3, l4, l5, l6] st h Q := jg_icP rfl rfl
theorem s192_110 : jx_Go jxP d 192 110 [l0, l1, l2, l3, .int x, l5, l6] st h Q ↔ jx_Go jxP d 192 112 [l0, l1, l2, l3, .int x, l5, l6] (.int x :: st) h Q := jg_il rfl rfl
theorem s192_112 : jx_Go jxP d 192 112 [.ref a, l1, l2, l3, l4, l5, l6] st h Q ↔ jx_Go jxP d 192 113 [.ref a, l1, l2, l3, l4, l5, l6] (.ref a :: st) h Q := jg_al rfl rfl
theorem s192_113 : jx_Go jxP d 192 113 [l0, .int x, l2, l3, l4, l5, l6] st h Q ↔ jx_Go jxP d 192 114 [l0, .int x, l2, l3, l4, l5, l6] (.int x :: st) h Q := jg_il rfl rfl
theorem s192_114 : jx_Go jxP d 192 114 [l0, l1, l2, l3, l4, .int x, l6] st h Q ↔ jx_Go jxP d 192 116 [l0, l1, l2, l3, l4, .int x, l6] (.int x :: st) h Q := jg_il rfl rfl
theorem s192_116 : jx_Go jxP d 192 116 [l0, l1, l2, l3, l4, l5, .int x] st h Q ↔ jx_Go jxP d 192 118 [l0, l1, l2, l3, l4, l5, .int x] (.int x :: st) h Q := jg_il rfl rfl
theorem s192_118 : jx_Go jxP (d + 1) 192 118 [l0, l1, l2, l3, l4, l5, l6] (.int x2 :: .int x1 :: .int x0 :: .ref a :: st) h Q ↔ (st.length ≤ 4 ∧ jx_cl h a = some 12 ∧ jx_Go jxP d 191 0 [.ref a, .int x0, .int x1, .int x2] [] h (fun s1 h1 => jx_Go jxP (d + 1) 192 121 [l0, l1, l2, l3, l4, l5, l6] (s1 ++ st) h1 Q)) := jg_callV (as := [.int x2, .int x1, .int x0, .ref a]) rfl rfl rfl rfl rfl
theorem s192_121 : jx_Go jxP d 192 121 [l0, l1, l2, l3, l4, l5, l6] st h Q ↔ jx_Go jxP d 192 122 [l0, l1, l2, l3, l4, l5, l6] (.int (nI 1) :: st) h Q := jg_c rfl
theorem s192_122 : jx_Go jxP d 192 122 [l0, l1, l2, l3, l4, l5, l6] (.int y :: .int x :: st) h Q ↔ if x = y then jx_Go jxP d 192 125 [l0, l1, l2, l3, l4, l5, l6] st h Q else jx_Go jxP d 192 129 [l0, l1, l2, l3, l4, l5, l6] st h Q := jg_icN rfl rfl
theorem s192_125 : jx_Go jxP d 192 125 [l0, l1, l2, l3, l4, l5, l6] st h Q ↔ jx_Go jxP d 192 126 [l0, l1, l2, l3, l4, l5, l6] (.int (nI 1) :: st) h Q := jg_c rfl
theorem s192_126 : jx_Go jxP d 192 126 [l0, l1, l2, l3, l4, l5, l6] st h Q ↔ jx_Go jxP d 192 130 [l0, l1, l2, l3, l4, l5, l6] st h Q := jg_go rfl
theorem s192_129 : jx_Go jxP d 192 129 [l0, l1, l2, l3, l4, l5, l6] st h Q ↔ jx_Go jxP d 192 130 [l0, l1, l2, l3, l4, l5, l6] (.int (nI 0) :: st) h Q := jg_c rfl
theorem s192_130 : jx_Go jxP d 192 130 [l0, l1, l2, l3, l4, l5, l6] (.int y :: .int x :: st) h Q ↔ jx_Go jxP d 192 131 [l0, l1, l2, l3, l4, l5, l6] (.int (x + y) :: st) h Q := jg_b (f := fun x y => x + y) rfl
theorem s192_131 : jx_Go jxP d 192 131 [l0, l1, l2, l3, l4, l5, l6] (.int x :: st) h Q ↔ jx_Go jxP d 192 133 [l0, l1, l2, l3, .int x, l5, l6] st h Q := jg_is rfl rfl
theorem s192_133 : jx_Go jxP d 192 133 [l0, l1, l2, l3, l4, l5, .int x] st h Q ↔ jx_Go jxP d 192 136 [l0, l1, l2, l3, l4, l5, .int (x + (nI 1))] st h Q := jg_inc rfl rfl rfl
theorem s192_136 : jx_Go jxP d 192 136 [l0, l1, l2, l3, l4, l5, l6] st h Q ↔ jx_Go jxP d 192 94 [l0, l1, l2, l3, l4, l5, l6] st h Q := jg_go rfl
theorem s192_139 : jx_Go jxP d 192 139 [l0, l1, l2, l3, l4, .int x, l6] st h Q ↔ jx_Go jxP d 192 142 [l0, l1, l2, l3, l4, .int (x + (nI 1)), l6] st h Q := jg_inc rfl rfl rfl
theorem s192_142 : jx_Go jxP d 192 142 [l0, l1, l2, l3, l4, l5, l6] st h Q ↔ jx_Go jxP d 192 77 [l0, l1, l2, l3, l4, l5, l6] st h Q := jg_go rfl
theorem s192_145 : jx_Go jxP d 192 145 [l0, l1, l2, l3, .int x, l5, l6] st h Q ↔ jx_Go jxP d 192 147 [l0, l1, l2, l3, .int x, l5, l6] (.int x :: st) h Q := jg_il rfl rfl
theorem s192_147 : jx_Go jxP d 192 147 [l0, l1, l2, l3, l4, l5, l6] [.int x] h Q ↔ Q [.int x] h := jx_rt rfl rfl
-- 193 TalkBenchModel.lineOf
theorem s193_0 : jx_Go jxP d 193 0 [.int x, l1, l2, l3, l4, l5, l6, l7] st h Q ↔ jx_Go jxP d 193 1 [.int x, l1, l2, l3, l4, l5, l6, l7] (.int x :: st) h Q := jg_il rfl rfl
theorem s193_1 : jx_Go jxP d 193 1 [l0, l1, l2, l3, l4, l5, l6, l7] (.int x :: st) h Q ↔ jx_Go jxP d 193 2 [l0, l1, l2, .int x, l4, l5, l6, l7] st h Q := jg_is rfl rfl
theorem s193_2 : jx_Go jxP d 193 2 [l0, l1, l2, l3, l4, l5, l6, l7] st h Q ↔ jx_Go jxP d 193 3 [l0, l1, l2, l3, l4, l5, l6, l7] (.int (nI 1) :: st) h Q := jg_c rfl
theorem s193_3 : jx_Go jxP d 193 3 [l0, l1, .int x, l3, l4, l5, l6, l7] st h Q ↔ jx_Go jxP d 193 4 [l0, l1, .int x, l3, l4, l5, l6, l7] (.int x :: st) h Q := jg_il rfl rfl
theorem s193_4 : jx_Go jxP d 193 4 [l0, l1, l2, l3, l4, l5, l6, l7] (.int y :: .int x :: st) h Q ↔ jx_Go jxP d 193 5 [l0, l1, l2, l3, l4, l5, l6, l7] (.int (x <<< (y &&& 31)) :: st) h Q := jg_b (f := fun x y => x <<< (y &&& 31)) rfl
theorem s193_5 : jx_Go jxP d 193 5 [l0, l1, l2, l3, l4, l5, l6, l7] st h Q ↔ jx_Go jxP d 193 6 [l0, l1, l2, l3, l4, l5, l6, l7] (.int (nI 1) :: st) h Q := jg_c rfl
theorem s193_6 : jx_Go jxP d 193 6 [l0, l1, l2, l3, l4, l5, l6, l7] (.int y :: .int x :: st) h Q ↔ jx_Go jxP d 193 7 [l0, l1, l2, l3, l4, l5, l6, l7] (.int (x - y) :: st) h Q := jg_b (f := fun x y => x - y) rfl
theorem s193_7 : jx_Go jxP d 193 7 [l0, l1, l2, l3, l4, l5, l6, l7] (.int x :: st) h Q ↔ jx_Go jxP d 193 9 [l0, l1, l2, l3, .int x, l5, l6, l7] st h Q := jg_is rfl rfl
theorem s193_9 : jx_Go jxP d 193 9 [l0, l1, l2, l3, l4, l5, l6, l7] st h Q ↔ jx_Go jxP d 193 10 [l0, l1, l2, l3, l4, l5, l6, l7] (.int (nI 0) :: st) h Q := jg_c rfl
theorem s193_10 : jx_Go jxP d 193 10 [l0, l1, l2, l3, l4, l5, l6, l7] (.int x :: st) h Q ↔ jx_Go jxP d 193 12 [l0, l1, l2, l3, l4, .int x, l6, l7] st h Q := jg_is rfl rfl
theorem s193_12 : jx_Go jxP d 193 12 [l0, l1, l2, l3, l4, l5, l6, l7] st h Q ↔ jx_Go jxP d 193 13 [l0, l1, l2, l3, l4, l5, l6, l7] (.int (nI 0) :: st) h Q := jg_c rfl
theorem s193_13 : jx_Go jxP d 193 13 [l0, l1, l2, l3, l4, l5, l6, l7] (.int x :: st) h Q ↔ jx_Go jxP d 193 15 [l0, l1, l2, l3, l4, l5, .int x, l7] st h Q := jg_is rfl rfl
theorem s193_15 : jx_Go jxP d 193 15 [l0, l1, l2, l3, l4, l5, .int x, l7] st h Q ↔ jx_Go jxP d 193 17 [l0, l1, l2, l3, l4, l5, .int x, l7] (.int x :: st) h Q := jg_il rfl rfl
theorem s193_17 : jx_Go jxP d 193 17 [l0, .int x, l2, l3, l4, l5, l6, l7] st h Q ↔ jx_Go jxP d 193 18 [l0, .int x, l2, l3, l4, l5, l6, l7] (.int x :: st) h Q := jg_il rfl rfl
theorem s193_18 : jx_Go jxP d 193 18 [l0, l1, l2, l3, l4, l5, l6, l7] (.int y :: .int x :: st) h Q ↔ if y < x then jx_Go jxP d 193 97 [l0, l1, l2, l3, l4, l5, l6, l7] st h Q else jx_Go jxP d 193 21 [l0, l1, l2, l3, l4, l5, l6, l7] st h Q := jg_icP rfl rfl
theorem s193_21 : jx_Go jxP d 193 21 [l0, l1, l2, .int x, l4, l5, l6, l7] st h Q ↔ jx_Go jxP d 193 22 [l0, l1, l2, .int x, l4, l5, l6, l7] (.int x :: st) h Q := jg_il rfl rfl
theorem s193_22 : jx_Go jxP d 193 22 [l0, l1, .int x, l3, l4, l5, l6, l7] st h Q ↔ jx_Go jxP d 193 23 [l0, l1, .int x, l3, l4, l5, l6, l7] (.int x :: st) h Q := jg_il rfl rfl
theorem s193_23 : jx_Go jxP d 193 23 [l0, l1, l2, l3, l4, l5, .int x, l7] st h Q ↔ jx_Go jxP d 193 25 [l0, l1, l2, l3, l4, l5, .int x, l7] (.int x :: st) h Q := jg_il rfl rfl
theorem s193_25 : jx_Go jxP d 193 25 [l0, l1, l2, l3, l4, l5, l6, l7] (.int y :: .int x :: st) h Q ↔ jx_Go jxP d 193 26 [l0, l1, l2, l3, l4, l5, l6, l7] (.int (x - y) :: st) h Q := jg_b (f := fun x y => x - y) rfl
theorem s193_26 : jx_Go jxP d 193 26 [l0, l1, l2, l3, l4, l5, l6, l7] (.int y :: .int x :: st) h Q ↔ (¬ y = 0 ∧ jx_Go jxP d 193 27 [l0, l1, l2, l3, l4, l5, l6, l7] (.int (x - x / y * y) :: st) h Q) := jg_q (f := fun x y => x - x / y * y) rfl
theorem s193_27 : jx_Go jxP d 193 27 [l0, l1, l2, l3, l4, l5, l6, l7] (.int x :: st) h Q ↔ jx_Go jxP d 193 29 [l0, l1, l2, l3, l4, l5, l6, .int x] st h Q := jg_is rfl rfl
theorem s193_29 : jx_Go jxP d 193 29 [l0, l1, l2, .int x, l4, l5, l6, l7] st h Q ↔ jx_Go jxP d 193 30 [l0, l1, l2, .int x, l4, l5, l6, l7] (.int x :: st) h Q := jg_il rfl rfl
theorem s193_30 : jx_Go jxP d 193 30 [l0, l1, .int x, l3, l4, l5, l6, l7] st h Q ↔ jx_Go jxP d 193 31 [l0, l1, .int x, l3, l4, l5, l6, l7] (.int x :: st) h Q := jg_il rfl rfl
theorem s193_31 : jx_Go jxP d 193 31 [l0, l1, l2, l3, l4, l5, .int x, l7] st h Q ↔ jx_Go jxP d 193 33 [l0, l1, l2, l3, l4, l5, .int x, l7] (.int x :: st) h Q := jg_il rfl rfl
theorem s193_33 : jx_Go jxP d 193 33 [l0, l1, l2, l3, l4, l5, l6, l7] (.int y :: .int x :: st) h Q ↔ jx_Go jxP d 193 34 [l0, l1, l2, l3, l4, l5, l6, l7] (.int (x - y) :: st) h Q := jg_b (f := fun x y => x - y) rfl
theorem s193_34 : jx_Go jxP d 193 34 [l0, l1, l2, l3, l4, l5, l6, l7] (.int y :: .int x :: st) h Q ↔ (¬ y = 0 ∧ jx_Go jxP d 193 35 [l0, l1, l2, l3, l4, l5, l6, l7] (.int (x / y) :: st) h Q) := jg_q (f := fun x y => x / y) rfl
theorem s193_35 : jx_Go jxP d 193 35 [l0, l1, l2, l3, l4, l5, l6, l7] (.int x :: st) h Q ↔ jx_Go jxP d 193 36 [l0, l1, l2, .int x, l4, l5, l6, l7] st h Q := jg_is rfl rfl
theorem s193_36 : jx_Go jxP d 193 36 [l0, l1, l2, l3, l4, l5, l6, l7] st h Q ↔ jx_Go jxP d 193 37 [l0, l1, l2, l3, l4, l5, l6, l7] (.int (nI 0) :: st) h Q := jg_c rfl
theorem s193_37 : jx_Go jxP d 193 37 [l0, l1, l2, l3, l4, l5, l6, l7] (.int x :: st) h Q ↔ jx_Go jxP d 193 39 [l0, l1, l2, l3, l4, .int x, l6, l7] st h Q := jg_is rfl rfl
theorem s193_39 : jx_Go jxP d 193 39 [l0, l1, l2, l3, .int x, l5, l6, l7] st h Q ↔ jx_Go jxP d 193 41 [l0, l1, l2, l3, .int x, l5, l6, l7] (.int x :: st) h Q := jg_il rfl rfl
theorem s193_41 : jx_Go jxP d 193 41 [l0, l1, l2, l3, l4, .int x, l6, l7] st h Q ↔ jx_Go jxP d 193 43 [l0, l1, l2, l3, l4, .int x, l6, l7] (.int x :: st) h Q := jg_il rfl rfl
theorem s193_43 : jx_Go jxP (d + 1) 193 43 [l0, l1, l2, l3, l4, l5, l6, l7] (.int x1 :: .int x0 :: st) h Q ↔ (st.length ≤ 4 ∧ jx_Go jxP d 132 0 [.int x0, .int x1] [] h (fun s1 h1 => jx_Go jxP (d + 1) 193 46 [l0, l1, l2, l3, l4, l5, l6, l7] (s1 ++ st) h1 Q)) := jg_callS (as := [.int x1, .int x0]) rfl rfl rfl rfl
theorem s193_46 : jx_Go jxP d 193 46 [l0, l1, l2, l3, l4, l5, l6, l7] (.int x :: st) h Q ↔ if x = 0 then jx_Go jxP d 193 54 [l0, l1, l2, l3, l4, l5, l6, l7] st h Q else jx_Go jxP d 193 49 [l0, l1, l2, l3, l4, l5, l6, l7] st h Q := jg_ifP rfl rfl
theorem s193_49 : jx_Go jxP d 193 49 [l0, l1, l2, l3, l4, l5, l6, .int x] st h Q ↔ jx_Go jxP d 193 51 [l0, l1, l2, l3, l4, l5, l6, .int x] (.int x :: st) h Q := jg_il rfl rfl
theorem s193_51 : jx_Go jxP d 193 51 [l0, l1, l2, l3, l4, l5, l6, l7] (.int x :: st) h Q ↔ if x ≤ 0 then jx_Go jxP d 193 80 [l0, l1, l2, l3, l4, l5, l6, l7] st h Q else jx_Go jxP d 193 54 [l0, l1, l2, l3, l4, l5, l6, l7] st h Q := jg_ifP rfl rfl
theorem s193_54 : jx_Go jxP d 193 54 [l0, l1, l2, l3, l4, l5, l6, .int x] st h Q ↔ jx_Go jxP d 193 56 [l0, l1, l2, l3, l4, l5, l6, .int x] (.int x :: st) h Q := jg_il rfl rfl
theorem s193_56 : jx_Go jxP d 193 56 [l0, l1, l2, l3, .int x, l5, l6, l7] st h Q ↔ jx_Go jxP d 193 58 [l0, l1, l2, l3, .int x, l5, l6, l7] (.int x :: st) h Q := jg_il rfl rfl
theorem s193_58 : jx_Go jxP d 193 58 [l0, l1, l2, l3, l4, .int x, l6, l7] st h Q ↔ jx_Go jxP d 193 60 [l0, l1, l2, l3, l4, .int x, l6, l7] (.int x :: st) h Q := jg_il rfl rfl
theorem s193_60 : jx_Go jxP (d + 1) 193 60 [l0, l1, l2, l3, l4, l5, l6, l7] (.int x1 :: .int x0 :: st) h Q ↔ (st.length ≤ 4 ∧ jx_Go jxP d 132 0 [.int x0, .int x1] [] h (fun s1 h1 => jx_Go jxP (d + 1) 193 63 [l0, l1, l2, l3, l4, l5, l6, l7] (s1 ++ st) h1 Q)) := jg_callS (as := [.int x1, .int x0]) rfl rfl rfl rfl
theorem s193_63 : jx_Go jxP d 193 63 [l0, l1, l2, l3, l4, l5, l6, l7] (.int x :: st) h Q ↔ if x = 0 then jx_Go jxP d 193 70 [l0, l1, l2, l3, l4, l5, l6, l7] st h Q else jx_Go jxP d 193 66 [l0, l1, l2, l3, l4, l5, l6, l7] st h Q := jg_ifP rfl rfl
theorem s193_66 : jx_Go jxP d 193 66 [l0, l1, l2, l3, l4, l5, l6, l7] st h Q ↔ jx_Go jxP d 193 67 [l0, l1, l2, l3, l4, l5, l6, l7] (.int (nI 1) :: st) h Q := jg_c rfl
theorem s193_67 : jx_Go jxP d 193 67 [l0, l1, l2, l3, l4, l5, l6, l7] st h Q ↔ jx_Go jxP d 193 71 [l0, l1, l2, l3, l4, l5, l6, l7] st h Q := jg_go rfl
theorem s193_70 : jx_Go jxP d 193 70 [l0, l1, l2, l3, l4, l5, l6, l7] st h Q ↔ jx_Go jxP d 193 71 [l0, l1, l2, l3, l4, l5, l6, l7] (.int (nI 0) :: st) h Q := jg_c rfl
theorem s193_71 : jx_Go jxP d 193 71 [l0, l1, l2, l3, l4, l5, l6, l7] (.int y :: .int x :: st) h Q ↔ jx_Go jxP d 193 72 [l0, l1, l2, l3, l4, l5, l6, l7] (.int (x - y) :: st) h Q := jg_b (f := fun x y => x - y) rfl
theorem s193_72 : jx_Go jxP d 193 72 [l0, l1, l2, l3, l4, l5, l6, l7] (.int x :: st) h Q ↔ jx_Go jxP d 193 74 [l0, l1, l2, l3, l4, l5, l6, .int x] st h Q := jg_is rfl rfl
theorem s193_74 : jx_Go jxP d 193 74 [l0, l1, l2, l3, l4, .int x, l6, l7] st h Q ↔ jx_Go jxP d 193 77 [l0, l1, l2, l3, l4, .int (x + (nI 1)), l6, l7] st h Q := jg_inc rfl rfl rfl
theorem s193_77 : jx_Go jxP d 193 77 [l0, l1, l2, l3, l4, l5, l6, l7] st h Q ↔ jx_Go jxP d 193 39 [l0, l1, l2, l3, l4, l5, l6, l7] st h Q := jg_go rfl
theorem s193_80 : jx_Go jxP d 193 80 [l0, l1, l2, l3, .int x, l5, l6, l7] st h Q ↔ jx_Go jxP d 193 82 [l0, l1, l2, l3, .int x, l5, l6, l7] (.int x :: st) h Q := jg_il rfl rfl
theorem s193_82 : jx_Go jxP d 193 82 [l0, l1, l2, l3, l4, l5, l6, l7] st h Q ↔ jx_Go jxP d 193 83 [l0, l1, l2, l3, l4, l5, l6, l7] (.int (nI 1) :: st) h Q := jg_c rfl
theorem s193_83 : jx_Go jxP d 193 83 [l0, l1, l2, l3, l4, .int x, l6, l7] st h Q ↔ jx_Go jxP d 193 85 [l0, l1, l2, l3, l4, .int x, l6, l7] (.int x :: st) h Q := jg_il rfl rfl
theorem s193_85 : jx_Go jxP d 193 85 [l0, l1, l2, l3, l4, l5, l6, l7] (.int y :: .int x :: st) h Q ↔ jx_Go jxP d 193 86 [l0, l1, l2, l3, l4, l5, l6, l7] (.int (x <<< (y &&& 31)) :: st) h Q := jg_b (f := fun x y => x <<< (y &&& 31)) rfl
theorem s193_86 : jx_Go jxP d 193 86 [l0, l1, l2, l3, l4, l5, l6, l7] st h Q ↔ jx_Go jxP d 193 87 [l0, l1, l2, l3, l4, l5, l6, l7] (.int (-1) :: st) h Q := jg_c rfl
theorem s193_87 : jx_Go jxP d 193 87 [l0, l1, l2, l3, l4, l5, l6, l7] (.int y :: .int x :: st) h Q ↔ jx_Go jxP d 193 88 [l0, l1, l2, l3, l4, l5, l6, l7] (.int (x ^^^ y) :: st) h Q := jg_b (f := fun x y => x ^^^ y) rfl
theorem s193_88 : jx_Go jxP d 193 88 [l0, l1, l2, l3, l4, l5, l6, l7] (.int y :: .int x :: st) h Q ↔ jx_Go jxP d 193 89 [l0, l1, l2, l3, l4, l5, l6, l7] (.int (x &&& y) :: st) h Q := jg_b (f := fun x y => x &&& y) rfl
theorem s193_89 : jx_Go jxP d 193 89 [l0, l1, l2, l3, l4, l5, l6, l7] (.int x :: st) h Q ↔ jx_Go jxP d 193 91 [l0, l1, l2, l3, .int x, l5, l6, l7] st h Q := jg_is rfl rfl
theorem s193_91 : jx_Go jxP d 193 91 [l0, l1, l2, l3, l4, l5, .int x, l7] st h Q ↔ jx_Go jxP d 193 94 [l0, l1, l2, l3, l4, l5, .int (x + (nI 1)), l7] st h Q := jg_inc rfl rfl rfl
theorem s193_94 : jx_Go jxP d 193 94 [l0, l1, l2, l3, l4, l5, l6, l7] st h Q ↔ jx_Go jxP d 193 15 [l0, l1, l2, l3, l4, l5, l6, l7] st h Q := jg_go rfl
theorem s193_97 : jx_Go jxP d 193 97 [l0, l1, l2, l3, l4, .int x, l6, l7] st h Q ↔ jx_Go jxP d 193 99 [l0, l1, l2, l3, l4, .int x, l6, l7] (.int x :: st) h Q := jg_il rfl rfl
theorem s193_99 : jx_Go jxP d 193 99 [l0, l1, l2, l3, l4, l5, l6, l7] [.int x] h Q ↔ Q [.int x] h := jx_rt rfl rfl
-- 194 TalkBenchModel.orders
theorem s194_0 : jx_Go jxP d 194 0 [l0, l1, l2] st h Q ↔ jx_Go jxP d 194 1 [l0, l1, l2] (.int (nI 1) :: st) h Q := jg_c rfl
theorem s194_1 : jx_Go jxP d 194 1 [l0, l1, l2] (.int x :: st) h Q ↔ jx_Go jxP d 194 2 [l0, .int x, l2] st h Q := jg_is rfl rfl
theorem s194_2 : jx_Go jxP d 194 2 [l0, l1, l2] st h Q ↔ jx_Go jxP d 194 3 [l0, l1, l2] (.int (nI 2) :: st) h Q := jg_c rfl
theorem s194_3 : jx_Go jxP d 194 3 [l0, l1, l2] (.int x :: st) h Q ↔ jx_Go jxP d 194 4 [l0, l1, .int x] st h Q := jg_is rfl rfl
theorem s194_4 : jx_Go jxP d 194 4 [l0, l1, .int x] st h Q ↔ jx_Go jxP d 194 5 [l0, l1, .int x] (.int x :: st) h Q := jg_il rfl rfl
theorem s194_5 : jx_Go jxP d 194 5 [.int x, l1, l2] st h Q ↔ jx_Go jxP d 194 6 [.int x, l1, l2] (.int x :: st) h Q := jg_il rfl rfl
theorem s194_6 : jx_Go jxP d 194 6 [l0, l1, l2] (.int y :: .int x :: st) h Q ↔ if y < x then jx_Go jxP d 194 19 [l0, l1, l2] st h Q else jx_Go jxP d 194 9 [l0, l1, l2] st h Q := jg_icP rfl rfl
theorem s194_9 : jx_Go jxP d 194 9 [l0, .int x, l2] st h Q ↔ jx_Go jxP d 194 10 [l0, .int x, l2] (.int x :: st) h Q := jg_il rfl rfl
theorem s194_10 : jx_Go jxP d 194 10 [l0, l1, .int x] st h Q ↔ jx_Go jxP d 194 11 [l0, l1, .int x] (.int x :: st) h Q := jg_il rfl rfl
theorem s194_11 : jx_Go jxP d 194 11 [l0, l1, l2] (.int y :: .int x :: st) h Q ↔ jx_Go jxP d 194 12 [l0, l1, l2] (.int (x * y) :: st) h Q := jg_b (f := fun x y => x * y) rfl
theorem s194_12 : jx_Go jxP d 194 12 [l0, l1, l2] (.int x :: st) h Q ↔ jx_Go jxP d 194 13 [l0, .int x, l2] st h Q := jg_is rfl rfl
theorem s194_13 : jx_Go jxP d 194 13 [l0, l1, .int x] st h Q ↔ jx_Go jxP d 194 16 [l0, l1, .int (x + (nI 1))] st h Q := jg_inc rfl rfl rfl
theorem s194_16 : jx_Go jxP d 194 16 [l0, l1, l2] st h Q ↔ jx_Go jxP d 194 4 [l0, l1, l2] st h Q := jg_go rfl
theorem s194_19 : jx_Go jxP d 194 19 [l0, .int x, l2] st h Q ↔ jx_Go jxP d 194 20 [l0, .int x, l2] (.int x :: st) h Q := jg_il rfl rfl
theorem s194_20 : jx_Go jxP d 194 20 [l0, l1, l2] [.int x] h Q ↔ Q [.int x] h := jx_rt rfl rfl
-- 195 TalkBenchModel.same
theorem s195_0 : jx_Go jxP d 195 0 [l0, .int x, l2, l3, l4, l5] st h Q ↔ jx_Go jxP d 195 1 [l0, .int x, l2, l3, l4, l5] (.int x :: st) h Q := jg_il rfl rfl
theorem s195_1 : jx_Go jxP (d + 1) 195 1 [l0, l1, l2, l3, l4, l5] (.int x0 :: st) h Q ↔ (st.length ≤ 4 ∧ jx_Go jxP d 188 0 [.int x0] [] h (fun s1 h1 => jx_Go jxP (d + 1) 195 4 [l0, l1, l2, l3, l4, l5] (s1 ++ st) h1 Q)) := jg_callS (as := [.int x0]) rfl rfl rfl rfl
theorem s195_4 : jx_Go jxP d 195 4 [l0, l1, l2, l3, l4, l5] (.int x :: st) h Q ↔ if x = 0 then jx_Go jxP d 195 7 [l0, l1, l2, l3, l4, l5] st h Q else jx_Go jxP d 195 13 [l0, l1, l2, l3, l4, l5] st h Q := jg_ifN rfl rfl
theorem s195_7 : jx_Go jxP d 195 7 [.ref a, l1, l2, l3, l4, l5] st h Q ↔ jx_Go jxP d 195 8 [.ref a, l1, l2, l3, l4, l5] (.ref a :: st) h Q := jg_al rfl rfl
theorem s195_8 : jx_Go jxP d 195 8 [l0, l1, l2, l3, l4, l5] st h Q ↔ jx_Go jxP d 195 9 [l0, l1, l2, l3, l4, l5] (.int (-1) :: st) h Q := jg_c rfl
theorem s195_9 : jx_Go jxP (d + 1) 195 9 [l0, l1, l2, l3, l4, l5] (.int x0 :: .ref a :: st) h Q ↔ (st.length ≤ 4 ∧ jx_cl h a = some 12 ∧ jx_Go jxP d 130 0 [.ref a, .int x0] [] h (fun s1 h1 => jx_Go jxP (d + 1) 195 12 [l0, l1, l2, l3, l4, l5] (s1 ++ st) h1 Q)) := jg_callV (as := [.int x0, .ref a]) rfl rfl rfl rfl rfl
theorem s195_12 : jx_Go jxP d 195 12 [l0, l1, l2, l3, l4, l5] [.int x] h Q ↔ Q [.int x] h := jx_rt rfl rfl
theorem s195_13 : jx_Go jxP d 195 13 [.ref a, l1, l2, l3, l4, l5] st h Q ↔ jx_Go jxP d 195 14 [.ref a, l1, l2, l3, l4, l5] (.ref a :: st) h Q := jg_al rfl rfl
theorem s195_14 : jx_Go jxP d 195 14 [l0, l1, l2, l3, l4, l5] (.ref a :: st) h Q ↔ ∃ v, jx_fl h a 12 7 = some v ∧ jx_Go jxP d 195 17 [l0, l1, l2, l3, l4, l5] (v :: st) h Q := jg_gf rfl
theorem s195_17 : jx_Go jxP d 195 17 [l0, .int x, l2, l3, l4, l5] st h Q ↔ jx_Go jxP d 195 18 [l0, .int x, l2, l3, l4, l5] (.int x :: st) h Q := jg_il rfl rfl
theorem s195_18 : jx_Go jxP d 195 18 [l0, l1, l2, l3, l4, l5] (.int x :: .ref a :: st) h Q ↔ ∃ q, jx_ai h a = some q ∧ jx_in x q.1 ∧ jx_Go jxP d 195 19 [l0, l1, l2, l3, l4, l5] (.int (q.2 x.toNatClampNeg) :: st) h Q := jg_ia rfl
theorem s195_19 : jx_Go jxP d 195 19 [l0, l1, l2, l3, l4, l5] (.int x :: st) h Q ↔ if 0 ≤ x then jx_Go jxP d 195 29 [l0, l1, l2, l3, l4, l5] st h Q else jx_Go jxP d 195 22 [l0, l1, l2, l3, l4, l5] st h Q := jg_ifP rfl rfl
theorem s195_22 : jx_Go jxP d 195 22 [.ref a, l1, l2, l3, l4, l5] st h Q ↔ jx_Go jxP d 195 23 [.ref a, l1, l2, l3, l4, l5] (.ref a :: st) h Q := jg_al rfl rfl
theorem s195_23 : jx_Go jxP d 195 23 [l0, l1, l2, l3, l4, l5] st h Q ↔ jx_Go jxP d 195 25 [l0, l1, l2, l3, l4, l5] (.int (-6) :: st) h Q := jg_c rfl
theorem s195_25 : jx_Go jxP (d + 1) 195 25 [l0, l1, l2, l3, l4, l5] (.int x0 :: .ref a :: st) h Q ↔ (st.length ≤ 4 ∧ jx_cl h a = some 12 ∧ jx_Go jxP d 130 0 [.ref a, .int x0] [] h (fun s1 h1 => jx_Go jxP (d + 1) 195 28 [l0, l1, l2, l3, l4, l5] (s1 ++ st) h1 Q)) := jg_callV (as := [.int x0, .ref a]) rfl rfl rfl rfl rfl
theorem s195_28 : jx_Go jxP d 195 28 [l0, l1, l2, l3, l4, l5] [.int x] h Q ↔ Q [.int x] h := jx_rt rfl rfl
theorem s195_29 : jx_Go jxP d 195 29 [.ref a, l1, l2, l3, l4, l5] st h Q ↔ jx_Go jxP d 195 30 [.ref a, l1, l2, l3, l4, l5] (.ref a :: st) h Q := jg_al rfl rfl
theorem s195_30 : jx_Go jxP d 195 30 [l0, l1, l2, l3, l4, l5] (.ref a :: st) h Q ↔ ∃ v, jx_fl h a 12 6 = some v ∧ jx_Go jxP d 195 33 [l0, l1, l2, l3, l4, l5] (v :: st) h Q := jg_gf rfl
theorem s195_33 : jx_Go jxP d 195 33 [l0, l1, l2, l3, l4, l5] st h Q ↔ jx_Go jxP d 195 35 [l0, l1, l2, l3, l4, l5] (.int (nI 52) :: st) h Q := jg_c rfl
theorem s195_35 : jx_Go jxP d 195 35 [l0, .int x, l2, l3, l4, l5] st h Q ↔ jx_Go jxP d 195 36 [l0, .int x, l2, l3, l4, l5] (.int x :: st) h Q := jg_il rfl rfl
theorem s195_36 : jx_Go jxP d 195 36 [l0, l1, l2, l3, l4, l5] (.int y :: .int x :: st) h Q ↔ jx_Go jxP d 195 37 [l0, l1, l2, l3, l4, l5] (.int (x * y) :: st) h Q := jg_b (f := fun x y => x * y) rfl
theorem s195_37 : jx_Go jxP d 195 37 [l0, l1, l2, l3, l4, l5] (.int x :: .ref a :: st) h Q ↔ ∃ q, jx_ai h a = some q ∧ jx_in x q.1 ∧ jx_Go jxP d 195 38 [l0, l1, l2, l3, l4, l5] (.int (q.2 x.toNatClampNeg) :: st) h Q := jg_ia rfl
theorem s195_38 : jx_Go jxP d 195 38 [.ref a, l1, l2, l3, l4, l5] st h Q ↔ jx_Go jxP d 195 39 [.ref a, l1, l2, l3, l4, l5] (.ref a :: st) h Q := jg_al rfl rfl
theorem s195_39 : jx_Go jxP d 195 39 [l0, l1, l2, l3, l4, l5] (.ref a :: st) h Q ↔ ∃ v, jx_fl h a 12 0 = some v ∧ jx_Go jxP d 195 42 [l0, l1, l2, l3, l4, l5] (v :: st) h Q := jg_gf rfl
theorem s195_42 : jx_Go jxP d 195 42 [l0, l1, l2, l3, l4, l5] (.int y :: .int x :: st) h Q ↔ if x = y then jx_Go jxP d 195 45 [l0, l1, l2, l3, l4, l5] st h Q else jx_Go jxP d 195 63 [l0, l1, l2, l3, l4, l5] st h Q := jg_icN rfl rfl
theorem s195_45 : jx_Go jxP d 195 45 [.ref a, l1, l2, l3, l4, l5] st h Q ↔ jx_Go jxP d 195 46 [.ref a, l1, l2, l3, l4, l5] (.ref a :: st) h Q := jg_al rfl rfl
theorem s195_46 : jx_Go jxP d 195 46 [l0, l1, l2, l3, l4, l5] (.ref a :: st) h Q ↔ ∃ v, jx_fl h a 12 6 = some v ∧ jx_Go jxP d 195 49 [l0, l1, l2, l3, l4, l5] (v :: st) h Q := jg_gf rfl
theorem s195_49 : jx_Go jxP d 195 49 [l0, l1, l2, l3, l4, l5] st h Q ↔ jx_Go jxP d 195 51 [l0, l1, l2, l3, l4, l5] (.int (nI 52) :: st) h Q := jg_c rfl
theorem s195_51 : jx_Go jxP d 195 51 [l0, .int x, l2, l3, l4, l5] st h Q ↔ jx_Go jxP d 195 52 [l0, .int x, l2, l3, l4, l5] (.int x :: st) h Q := jg_il rfl rfl
theorem s195_52 : jx_Go jxP d 195 52 [l0, l1, l2, l3, l4, l5] (.int y :: .int x :: st) h Q ↔ jx_Go jxP d 195 53 [l0, l1, l2, l3, l4, l5] (.int (x * y) :: st) h Q := jg_b (f := fun x y => x * y) rfl
theorem s195_53 : jx_Go jxP d 195 53 [l0, l1, l2, l3, l4, l5] st h Q ↔ jx_Go jxP d 195 54 [l0, l1, l2, l3, l4, l5] (.int (nI 1) :: st) h Q := jg_c rfl
theorem s195_54 : jx_Go jxP d 195 54 [l0, l1, l2, l3, l4, l5] (.int y :: .int x :: st) h Q ↔ jx_Go jxP d 195 55 [l0, l1, l2, l3, l4, l5] (.int (x + y) :: st) h Q := jg_b (f := fun x y => x + y) rfl
theorem s195_55 : jx_Go jxP d 195 55 [l0, l1, l2, l3, l4, l5] (.int x :: .ref a :: st) h Q ↔ ∃ q, jx_ai h a = some q ∧ jx_in x q.1 ∧ jx_Go jxP d 195 56 [l0, l1, l2, l3, l4, l5] (.int (q.2 x.toNatClampNeg) :: st) h Q := jg_ia rfl
theorem s195_56 : jx_Go jxP d 195 56 [.ref a, l1, l2, l3, l4, l5] st h Q ↔ jx_Go jxP d 195 57 [.ref a, l1, l2, l3, l4, l5] (.ref a :: st) h Q := jg_al rfl rfl
theorem s195_57 : jx_Go jxP d 195 57 [l0, l1, l2, l3, l4, l5] (.ref a :: st) h Q ↔ ∃ v, jx_fl h a 12 1 = some v ∧ jx_Go jxP d 195 60 [l0, l1, l2, l3, l4, l5] (v :: st) h Q := jg_gf rfl
theorem s195_60 : jx_Go jxP d 195 60 [l0, l1, l2, l3, l4, l5] (.int y :: .int x :: st) h Q ↔ if x = y then jx_Go jxP d 195 65 [l0, l1, l2, l3, l4, l5] st h Q else jx_Go jxP d 195 63 [l0, l1, l2, l3, l4, l5] st h Q := jg_icP rfl rfl
theorem s195_63 : jx_Go jxP d 195 63 [l0, l1, l2, l3, l4, l5] st h Q ↔ jx_Go jxP d 195 64 [l0, l1, l2, l3, l4, l5] (.int (nI 0) :: st) h Q := jg_c rfl
theorem s195_64 : jx_Go jxP d 195 64 [l0, l1, l2, l3, l4, l5] [.int x] h Q ↔ Q [.int x] h := jx_rt rfl rfl
theorem s195_65 : jx_Go jxP d 195 65 [l0, l1, l2, l3, l4, l5] st h Q ↔ jx_Go jxP d 195 66 [l0, l1, l2, l3, l4, l5] (.int (nI 0) :: st) h Q := jg_c rfl
theorem s195_66 : jx_Go jxP d 195 66 [l0, l1, l2, l3, l4, l5] (.int x :: st) h Q ↔ jx_Go jxP d 195 67 [l0, l1, .int x, l3, l4, l5] st h Q := jg_is rfl rfl
theorem s195_67 : jx_Go jxP d 195 67 [l0, l1, .int x, l3, l4, l5] st h Q ↔ jx_Go jxP d 195 68 [l0, l1, .int x, l3, l4, l5] (.int x :: st) h Q := jg_il rfl rfl
theorem s195_68 : jx_Go jxP d 195 68 [.ref a, l1, l2, l3, l4, l5] st h Q ↔ jx_Go jxP d 195 69 [.ref a, l1, l2, l3, l4, l5] (.ref a :: st) h Q := jg_al rfl rfl
theorem s195_69 : jx_Go jxP d 195 69 [l0, l1, l2, l3, l4, l5] (.ref a :: st) h Q ↔ ∃ v, jx_fl h a 12 0 = some v ∧ jx_Go jxP d 195 72 [l0, l1, l2, l3, l4, l5] (v :: st) h Q := jg_gf rfl
theorem s195_72 : jx_Go jxP (d + 1) 195 72 [l0, l1, l2, l3, l4, l5] (.int x0 :: st) h Q ↔ (st.length ≤ 4 ∧ jx_Go jxP d 194 0 [.int x0, jx_u, jx_u] [] h (fun s1 h1 => jx_Go jxP (d + 1) 195 75 [l0, l1, l2, l3, l4, l5] (s1 ++ st) h1 Q)) := jg_callS (as := [.int x0]) rfl rfl rfl rfl
theorem s195_75 : jx_Go jxP d 195 75 [l0, l1, l2, l3, l4, l5] (.int y :: .int x :: st) h Q ↔ if y ≤ x then jx_Go jxP d 195 268 [l0, l1, l2, l3, l4, l5] st h Q else jx_Go jxP d 195 78 [l0, l1, l2, l3, l4, l5] st h Q := jg_icP rfl rfl
theorem s195_78 : jx_Go jxP d 195 78 [l0, l1, l2, l3, l4, l5] st h Q ↔ jx_Go jxP d 195 79 [l0, l1, l2, l3, l4, l5] (.int (nI 0) :: st) h Q := jg_c rfl
theorem s195_79 : jx_Go jxP d 195 79 [l0, l1, l2, l3, l4, l5] (.int x :: st) h Q ↔ jx_Go jxP d 195 80 [l0, l1, l2, .int x, l4, l5] st h Q := jg_is rfl rfl
theorem s195_80 : jx_Go jxP d 195 80 [l0, l1, l2, .int x, l4, l5] st h Q ↔ jx_Go jxP d 195 81 [l0, l1, l2, .int x, l4, l5] (.int x :: st) h Q := jg_il rfl rfl
theorem s195_81 : jx_Go jxP d 195 81 [.ref a, l1, l2, l3, l4, l5] st h Q ↔ jx_Go jxP d 195 82 [.ref a, l1, l2, l3, l4, l5] (.ref a :: st) h Q := jg_al rfl rfl
theorem s195_82 : jx_Go jxP d 195 82 [l0, l1, l2, l3, l4, l5] (.ref a :: st) h Q ↔ ∃ v, jx_fl h a 12 0 = some v ∧ jx_Go jxP d 195 85 [l0, l1, l2, l3, l4, l5] (v :: st) h Q := jg_gf rfl
theorem s195_85 : jx_Go jxP d 195 85 [l0, l1, l2, l3, l4, l5] (.int y :: .int x :: st) h Q ↔ if y ≤ x then jx_Go jxP d 195 109 [l0, l1, l2, l3, l4, l5] st h Q else jx_Go jxP d 195 88 [l0, l1, l2, l3, l4, l5] st h Q := jg_icP rfl rfl
theorem s195_88 : jx_Go jxP d 195 88 [.ref a, l1, l2, l3, l4, l5] st h Q ↔ jx_Go jxP d 195 89 [.ref a, l1, l2, l3, l4, l5] (.ref a :: st) h Q := jg_al rfl rfl
theorem s195_89 : jx_Go jxP d 195 89 [l0, l1, l2, l3, l4, l5] (.ref a :: st) h Q ↔ ∃ v, jx_fl h a 12 36 = some v ∧ jx_Go jxP d 195 92 [l0, l1, l2, l3, l4, l5] (v :: st) h Q := jg_gf rfl
theorem s195_92 : jx_Go jxP d 195 92 [l0, l1, l2, .int x, l4, l5] st h Q ↔ jx_Go jxP d 195 93 [l0, l1, l2, .int x, l4, l5] (.int x :: st) h Q := jg_il rfl rfl
theorem s195_93 : jx_Go jxP d 195 93 [l0, l1, .int x, l3, l4, l5] st h Q ↔ jx_Go jxP d 195 94 [l0, l1, .int x, l3, l4, l5] (.int x :: st) h Q := jg_il rfl rfl
theorem s195_94 : jx_Go jxP d 195 94 [l0, l1, l2, .int x, l4, l5] st h Q ↔ jx_Go jxP d 195 95 [l0, l1, l2, .int x, l4, l5] (.int x :: st) h Q := jg_il rfl rfl
theorem s195_95 : jx_Go jxP d 195 95 [.ref a, l1, l2, l3, l4, l5] st h Q ↔ jx_Go jxP d 195 96 [.ref a, l1, l2, l3, l4, l5] (.ref a :: st) h Q := jg_al rfl rfl
theorem s195_96 : jx_Go jxP d 195 96 [l0, l1, l2, l3, l4, l5] (.ref a :: st) h Q ↔ ∃ v, jx_fl h a 12 0 = some v ∧ jx_Go jxP d 195 99 [l0, l1, l2, l3, l4, l5] (v :: st) h Q := jg_gf rfl
theorem s195_99 : jx_Go jxP (d + 1) 195 99 [l0, l1, l2, l3, l4, l5] (.int x2 :: .int x1 :: .int x0 :: st) h Q ↔ (st.length ≤ 4 ∧ jx_Go jxP d 193 0 [.int x0, .int x1, .int x2, jx_u, jx_u, jx_u, jx_u, jx_u] [] h (fun s1 h1 => jx_Go jxP (d + 1) 195 102 [l0, l1, l2, l3, l4, l5] (s1 ++ st) h1 Q)) := jg_callS (as := [.int x2, .int x1, .int x0]) rfl rfl rfl rfl
theorem s195_102 : jx_Go jxP d 195 102 [l0, l1, l2, l3, l4, l5] (.int y :: .int x :: .ref a :: st) h Q ↔ ∃ q, jx_ai h a = some q ∧ jx_in x q.1 ∧ jx_Go jxP d 195 103 [l0, l1, l2, l3, l4, l5] st (jx_wi h a q.1 (upd q.2 x.toNatClampNeg y)) Q := jg_iw rfl
theorem s195_103 : jx_Go jxP d 195 103 [l0, l1, l2, .int x, l4, l5] st h Q ↔ jx_Go jxP d 195 106 [l0, l1, l2, .int (x + (nI 1)), l4, l5] st h Q := jg_inc rfl rfl rfl
theorem s195_106 : jx_Go jxP d 195 106 [l0, l1, l2, l3, l4, l5] st h Q ↔ jx_Go jxP d 195 80 [l0, l1, l2, l3, l4, l5] st h Q := jg_go rfl
theorem s195_109 : jx_Go jxP d 195 109 [l0, l1, l2, l3, l4, l5] st h Q ↔ jx_Go jxP d 195 110 [l0, l1, l2, l3, l4, l5] (.int (nI 0) :: st) h Q := jg_c rfl
theorem s195_110 : jx_Go jxP d 195 110 [l0, l1, l2, l3, l4, l5] (.int x :: st) h Q ↔ jx_Go jxP d 195 111 [l0, l1, l2, .int x, l4, l5] st h Q := jg_is rfl rfl
theorem s195_111 : jx_Go jxP d 195 111 [l0, l1, l2, .int x, l4, l5] st h Q ↔ jx_Go jxP d 195 112 [l0, l1, l2, .int x, l4, l5] (.int x :: st) h Q := jg_il rfl rfl
theorem s195_112 : jx_Go jxP d 195 112 [.ref a, l1, l2, l3, l4, l5] st h Q ↔ jx_Go jxP d 195 113 [.ref a, l1, l2, l3, l4, l5] (.ref a :: st) h Q := jg_al rfl rfl
theorem s195_113 : jx_Go jxP d 195 113 [l0, l1, l2, l3, l4, l5] (.ref a :: st) h Q ↔ ∃ v, jx_fl h a 12 1 = some v ∧ jx_Go jxP d 195 116 [l0, l1, l2, l3, l4, l5] (v :: st) h Q := jg_gf rfl
theorem s195_116 : jx_Go jxP (d + 1) 195 116 [l0, l1, l2, l3, l4, l5] (.int x0 :: st) h Q ↔ (st.length ≤ 4 ∧ jx_Go jxP d 194 0 [.int x0, jx_u, jx_u] [] h (fun s1 h1 => jx_Go jxP (d + 1) 195 119 [l0, l1, l2, l3, l4, l5] (s1 ++ st) h1 Q)) := jg_callS (as := [.int x0]) rfl rfl rfl rfl
theorem s195_119 : jx_Go jxP d 195 119 [l0, l1, l2, l3, l4, l5] (.int y :: .int x :: st) h Q ↔ if y ≤ x then jx_Go jxP d 195 262 [l0, l1, l2, l3, l4, l5] st h Q else jx_Go jxP d 195 122 [l0, l1, l2, l3, l4, l5] st h Q := jg_icP rfl rfl
theorem s195_122 : jx_Go jxP d 195 122 [l0, l1, l2, l3, l4, l5] st h Q ↔ jx_Go jxP d 195 123 [l0, l1, l2, l3, l4, l5] (.int (nI 0) :: st) h Q := jg_c rfl
theorem s195_123 : jx_Go jxP d 195 123 [l0, l1, l2, l3, l4, l5] (.int x :: st) h Q ↔ jx_Go jxP d 195 125 [l0, l1, l2, l3, .int x, l5] st h Q := jg_is rfl rfl
theorem s195_125 : jx_Go jxP d 195 125 [l0, l1, l2, l3, .int x, l5] st h Q ↔ jx_Go jxP d 195 127 [l0, l1, l2, l3, .int x, l5] (.int x :: st) h Q := jg_il rfl rfl
theorem s195_127 : jx_Go jxP d 195 127 [.ref a, l1, l2, l3, l4, l5] st h Q ↔ jx_Go jxP d 195 128 [.ref a, l1, l2, l3, l4, l5] (.ref a :: st) h Q := jg_al rfl rfl
theorem s195_128 : jx_Go jxP d 195 128 [l0, l1, l2, l3, l4, l5] (.ref a :: st) h Q ↔ ∃ v, jx_fl h a 12 1 = some v ∧ jx_Go jxP d 195 131 [l0, l1, l2, l3, l4, l5] (v :: st) h Q := jg_gf rfl
theorem s195_131 : jx_Go jxP d 195 131 [l0, l1, l2, l3, l4, l5] (.int y :: .int x :: st) h Q ↔ if y ≤ x then jx_Go jxP d 195 157 [l0, l1, l2, l3, l4, l5] st h Q else jx_Go jxP d 195 134 [l0, l1, l2, l3, l4, l5] st h Q := jg_icP rfl rfl
theorem s195_134 : jx_Go jxP d 195 134 [.ref a, l1, l2, l3, l4, l5] st h Q ↔ jx_Go jxP d 195 135 [.ref a, l1, l2, l3, l4, l5] (.ref a :: st) h Q := jg_al rfl rfl
theorem s195_135 : jx_Go jxP d 195 135 [l0, l1, l2, l3, l4, l5] (.ref a :: st) h Q ↔ ∃ v, jx_fl h a 12 37 = some v ∧ jx_Go jxP d 195 138 [l0, l1, l2, l3, l4, l5] (v :: st) h Q := jg_gf rfl
theorem s195_138 : jx_Go jxP d 195 138 [l0, l1, l2, l3, .int x, l5] st h Q ↔ jx_Go jxP d 195 140 [l0, l1, l2, l3, .int x, l5] (.int x :: st) h Q := jg_il rfl rfl
theorem s195_140 : jx_Go jxP d 195 140 [l0, l1, l2, .int x, l4, l5] st h Q ↔ jx_Go jxP d 195 141 [l0, l1, l2, .int x, l4, l5] (.int x :: st) h Q := jg_il rfl rfl
theorem s195_141 : jx_Go jxP d 195 141 [l0, l1, l2, l3, .int x, l5] st h Q ↔ jx_Go jxP d 195 143 [l0, l1, l2, l3, .int x, l5] (.int x :: st) h Q := jg_il rfl rfl
theorem s195_143 : jx_Go jxP d 195 143 [.ref a, l1, l2, l3, l4, l5] st h Q ↔ jx_Go jxP d 195 144 [.ref a, l1, l2, l3, l4, l5] (.ref a :: st) h Q := jg_al rfl rfl
theorem s195_144 : jx_Go jxP d 195 144 [l0, l1, l2, l3, l4, l5] (.ref a :: st) h Q ↔ ∃ v, jx_fl h a 12 1 = some v ∧ jx_Go jxP d 195 147 [l0, l1, l2, l3, l4, l5] (v :: st) h Q := jg_gf rfl
theorem s195_147 : jx_Go jxP (d + 1) 195 147 [l0, l1, l2, l3, l4, l5] (.int x2 :: .int x1 :: .int x0 :: st) h Q ↔ (st.length ≤ 4 ∧ jx_Go jxP d 193 0 [.int x0, .int x1, .int x2, jx_u, jx_u, jx_u, jx_u, jx_u] [] h (fun s1 h1 => jx_Go jxP (d + 1) 195 150 [l0, l1, l2, l3, l4, l5] (s1 ++ st) h1 Q)) := jg_callS (as := [.int x2, .int x1, .int x0]) rfl rfl rfl rfl
theorem s195_150 : jx_Go jxP d 195 150 [l0, l1, l2, l3, l4, l5] (.int y :: .int x :: .ref a :: st) h Q ↔ ∃ q, jx_ai h a = some q ∧ jx_in x q.1 ∧ jx_Go jxP d 195 151 [l0, l1, l2, l3, l4, l5] st (jx_wi h a q.1 (upd q.2 x.toNatClampNeg y)) Q := jg_iw rfl
theorem s195_151 : jx_Go jxP d 195 151 [l0, l1, l2, l3, .int x, l5] st h Q ↔ jx_Go jxP d 195 154 [l0, l1, l2, l3, .int (x + (nI 1)), l5] st h Q := jg_inc rfl rfl rfl
theorem s195_154 : jx_Go jxP d 195 154 [l0, l1, l2, l3, l4, l5] st h Q ↔ jx_Go jxP d 195 125 [l0, l1, l2, l3, l4, l5] st h Q := jg_go rfl
theorem s195_157 : jx_Go jxP d 195 157 [l0, l1, l2, l3, l4, l5] st h Q ↔ jx_Go jxP d 195 158 [l0, l1, l2, l3, l4, l5] (.int (nI 1) :: st) h Q := jg_c rfl
theorem s195_158 : jx_Go jxP d 195 158 [l0, l1, l2, l3, l4, l5] (.int x :: st) h Q ↔ jx_Go jxP d 195 160 [l0, l1, l2, l3, .int x, l5] st h Q := jg_is rfl rfl
theorem s195_160 : jx_Go jxP d 195 160 [l0, l1, l2, l3, l4, l5] st h Q ↔ jx_Go jxP d 195 161 [l0, l1, l2, l3, l4, l5] (.int (nI 0) :: st) h Q := jg_c rfl
theorem s195_161 : jx_Go jxP d 195 161 [l0, l1, l2, l3, l4, l5] (.int x :: st) h Q ↔ jx_Go jxP d 195 163 [l0, l1, l2, l3, l4, .int x] st h Q := jg_is rfl rfl
theorem s195_163 : jx_Go jxP d 195 163 [l0, l1, l2, l3, l4, .int x] st h Q ↔ jx_Go jxP d 195 165 [l0, l1, l2, l3, l4, .int x] (.int x :: st) h Q := jg_il rfl rfl
theorem s195_165 : jx_Go jxP d 195 165 [.ref a, l1, l2, l3, l4, l5] st h Q ↔ jx_Go jxP d 195 166 [.ref a, l1, l2, l3, l4, l5] (.ref a :: st) h Q := jg_al rfl rfl
theorem s195_166 : jx_Go jxP d 195 166 [l0, l1, l2, l3, l4, l5] (.ref a :: st) h Q ↔ ∃ v, jx_fl h a 12 0 = some v ∧ jx_Go jxP d 195 169 [l0, l1, l2, l3, l4, l5] (v :: st) h Q := jg_gf rfl
theorem s195_169 : jx_Go jxP d 195 169 [.ref a, l1, l2, l3, l4, l5] st h Q ↔ jx_Go jxP d 195 170 [.ref a, l1, l2, l3, l4, l5] (.ref a :: st) h Q := jg_al rfl rfl
theorem s195_170 : jx_Go jxP d 195 170 [l0, l1, l2, l3, l4, l5] (.ref a :: st) h Q ↔ ∃ v, jx_fl h a 12 1 = some v ∧ jx_Go jxP d 195 173 [l0, l1, l2, l3, l4, l5] (v :: st) h Q := jg_gf rfl
theorem s195_173 : jx_Go jxP d 195 173 [l0, l1, l2, l3, l4, l5] (.int y :: .int x :: st) h Q ↔ jx_Go jxP d 195 174 [l0, l1, l2, l3, l4, l5] (.int (x * y) :: st) h Q := jg_b (f := fun x y => x * y) rfl
theorem s195_174 : jx_Go jxP d 195 174 [l0, l1, l2, l3, l4, l5] (.int y :: .int x :: st) h Q ↔ if y ≤ x then jx_Go jxP d 195 249 [l0, l1, l2, l3, l4, l5] st h Q else jx_Go jxP d 195 177 [l0, l1, l2, l3, l4, l5] st h Q := jg_icP rfl rfl
theorem s195_177 : jx_Go jxP d 195 177 [l0, l1, l2, l3, .int x, l5] st h Q ↔ jx_Go jxP d 195 179 [l0, l1, l2, l3, .int x, l5] (.int x :: st) h Q := jg_il rfl rfl
theorem s195_179 : jx_Go jxP d 195 179 [l0, l1, l2, l3, l4, l5] (.int x :: st) h Q ↔ if x = 0 then jx_Go jxP d 195 249 [l0, l1, l2, l3, l4, l5] st h Q else jx_Go jxP d 195 182 [l0, l1, l2, l3, l4, l5] st h Q := jg_ifP rfl rfl
theorem s195_182 : jx_Go jxP d 195 182 [.ref a, l1, l2, l3, l4, l5] st h Q ↔ jx_Go jxP d 195 183 [.ref a, l1, l2, l3, l4, l5] (.ref a :: st) h Q := jg_al rfl rfl
theorem s195_183 : jx_Go jxP d 195 183 [l0, l1, l2, l3, l4, l5] (.ref a :: st) h Q ↔ ∃ v, jx_fl h a 12 2 = some v ∧ jx_Go jxP d 195 186 [l0, l1, l2, l3, l4, l5] (v :: st) h Q := jg_gf rfl
theorem s195_186 : jx_Go jxP d 195 186 [l0, l1, l2, l3, l4, l5] st h Q ↔ jx_Go jxP d 195 187 [l0, l1, l2, l3, l4, l5] (.int (nI 5) :: st) h Q := jg_c rfl
theorem s195_187 : jx_Go jxP d 195 187 [l0, l1, l2, l3, l4, .int x] st h Q ↔ jx_Go jxP d 195 189 [l0, l1, l2, l3, l4, .int x] (.int x :: st) h Q := jg_il rfl rfl
theorem s195_189 : jx_Go jxP d 195 189 [.ref a, l1, l2, l3, l4, l5] st h Q ↔ jx_Go jxP d 195 190 [.ref a, l1, l2, l3, l4, l5] (.ref a :: st) h Q := jg_al rfl rfl
theorem s195_190 : jx_Go jxP d 195 190 [l0, l1, l2, l3, l4, l5] (.ref a :: st) h Q ↔ ∃ v, jx_fl h a 12 1 = some v ∧ jx_Go jxP d 195 193 [l0, l1, l2, l3, l4, l5] (v :: st) h Q := jg_gf rfl
theorem s195_193 : jx_Go jxP d 195 193 [l0, l1, l2, l3, l4, l5] (.int y :: .int x :: st) h Q ↔ (¬ y = 0 ∧ jx_Go jxP d 195 194 [l0, l1, l2, l3, l4, l5] (.int (x / y) :: st) h Q) := jg_q (f := fun x y => x / y) rfl
theorem s195_194 : jx_Go jxP d 195 194 [l0, l1, l2, l3, l4, l5] (.int y :: .int x :: st) h Q ↔ jx_Go jxP d 195 195 [l0, l1, l2, l3, l4, l5] (.int (x * y) :: st) h Q := jg_b (f := fun x y => x * y) rfl
theorem s195_195 : jx_Go jxP d 195 195 [l0, l1, l2, l3, l4, .int x] st h Q ↔ jx_Go jxP d 195 197 [l0, l1, l2, l3, l4, .int x] (.int x :: st) h Q := jg_il rfl rfl
theorem s195_197 : jx_Go jxP d 195 197 [.ref a, l1, l2, l3, l4, l5] st h Q ↔ jx_Go jxP d 195 198 [.ref a, l1, l2, l3, l4, l5] (.ref a :: st) h Q := jg_al rfl rfl
theorem s195_198 : jx_Go jxP d 195 198 [l0, l1, l2, l3, l4, l5] (.ref a :: st) h Q ↔ ∃ v, jx_fl h a 12 1 = some v ∧ jx_Go jxP d 195 201 [l0, l1, l2, l3, l4, l5] (v :: st) h Q := jg_gf rfl
theorem s195_201 : jx_Go jxP d 195 201 [l0, l1, l2, l3, l4, l5] (.int y :: .int x :: st) h Q ↔ (¬ y = 0 ∧ jx_Go jxP d 195 202 [l0, l1, l2, l3, l4, l5] (.int (x - x / y * y) :: st) h Q) := jg_q (f := fun x y => x - x / y * y) rfl
theorem s195_202 : jx_Go jxP d 195 202 [l0, l1, l2, l3, l4, l5] (.int y :: .int x :: st) h Q ↔ jx_Go jxP d 195 203 [l0, l1, l2, l3, l4, l5] (.int (x + y) :: st) h Q := jg_b (f := fun x y => x + y) rfl
theorem s195_203 : jx_Go jxP d 195 203 [l0, l1, l2, l3, l4, l5] (.int x :: .ref a :: st) h Q ↔ ∃ q, jx_ai h a = some q ∧ jx_in x q.1 ∧ jx_Go jxP d 195 204 [l0, l1, l2, l3, l4, l5] (.int (q.2 x.toNatClampNeg) :: st) h Q := jg_ia rfl
theorem s195_204 : jx_Go jxP d 195 204 [.ref a, l1, l2, l3, l4, l5] st h Q ↔ jx_Go jxP d 195 205 [.ref a, l1, l2, l3, l4, l5] (.ref a :: st) h Q := jg_al rfl rfl
theorem s195_205 : jx_Go jxP d 195 205 [l0, .int x, l2, l3, l4, l5] st h Q ↔ jx_Go jxP d 195 206 [l0, .int x, l2, l3, l4, l5] (.int x :: st) h Q := jg_il rfl rfl
theorem s195_206 : jx_Go jxP d 195 206 [.ref a, l1, l2, l3, l4, l5] st h Q ↔ jx_Go jxP d 195 207 [.ref a, l1, l2, l3, l4, l5] (.ref a :: st) h Q := jg_al rfl rfl
theorem s195_207 : jx_Go jxP d 195 207 [l0, l1, l2, l3, l4, l5] (.ref a :: st) h Q ↔ ∃ v, jx_fl h a 12 36 = some v ∧ jx_Go jxP d 195 210 [l0, l1, l2, l3, l4, l5] (v :: st) h Q := jg_gf rfl
theorem s195_210 : jx_Go jxP d 195 210 [l0, l1, l2, l3, l4, .int x] st h Q ↔ jx_Go jxP d 195 212 [l0, l1, l2, l3, l4, .int x] (.int x :: st) h Q := jg_il rfl rfl
theorem s195_212 : jx_Go jxP d 195 212 [.ref a, l1, l2, l3, l4, l5] st h Q ↔ jx_Go jxP d 195 213 [.ref a, l1, l2, l3, l4, l5] (.ref a :: st) h Q := jg_al rfl rfl
theorem s195_213 : jx_Go jxP d 195 213 [l0, l1, l2, l3, l4, l5] (.ref a :: st) h Q ↔ ∃ v, jx_fl h a 12 1 = some v ∧ jx_Go jxP d 195 216 [l0, l1, l2, l3, l4, l5] (v :: st) h Q := jg_gf rfl
theorem s195_216 : jx_Go jxP d 195 216 [l0, l1, l2, l3, l4, l5] (.int y :: .int x :: st) h Q ↔ (¬ y = 0 ∧ jx_Go jxP d 195 217 [l0, l1, l2, l3, l4, l5] (.int (x / y) :: st) h Q) := jg_q (f := fun x y => x / y) rfl
theorem s195_217 : jx_Go jxP d 195 217 [l0, l1, l2, l3, l4, l5] (.int x :: .ref a :: st) h Q ↔ ∃ q, jx_ai h a = some q ∧ jx_in x q.1 ∧ jx_Go jxP d 195 218 [l0, l1, l2, l3, l4, l5] (.int (q.2 x.toNatClampNeg) :: st) h Q := jg_ia rfl
theorem s195_218 : jx_Go jxP d 195 218 [.ref a, l1, l2, l3, l4, l5] st h Q ↔ jx_Go jxP d 195 219 [.ref a, l1, l2, l3, l4, l5] (.ref a :: st) h Q := jg_al rfl rfl
theorem s195_219 : jx_Go jxP d 195 219 [l0, l1, l2, l3, l4, l5] (.ref a :: st) h Q ↔ ∃ v, jx_fl h a 12 37 = some v ∧ jx_Go jxP d 195 222 [l0, l1, l2, l3, l4, l5] (v :: st) h Q := jg_gf rfl
theorem s195_222 : jx_Go jxP d 195 222 [l0, l1, l2, l3, l4, .int x] st h Q ↔ jx_Go jxP d 195 224 [l0, l1, l2, l3, l4, .int x] (.int x :: st) h Q := jg_il rfl rfl
theorem s195_224 : jx_Go jxP d 195 224 [.ref a, l1, l2, l3, l4, l5] st h Q ↔ jx_Go jxP d 195 225 [.ref a, l1, l2, l3, l4, l5] (.ref a :: st) h Q := jg_al rfl rfl
theorem s195_225 : jx_Go jxP d 195 225 [l0, l1, l2, l3, l4, l5] (.ref a :: st) h Q ↔ ∃ v, jx_fl h a 12 1 = some v ∧ jx_Go jxP d 195 228 [l0, l1, l2, l3, l4, l5] (v :: st) h Q := jg_gf rfl
theorem s195_228 : jx_Go jxP d 195 228 [l0, l1, l2, l3, l4, l5] (.int y :: .int x :: st) h Q ↔ (¬ y = 0 ∧ jx_Go jxP d 195 229 [l0, l1, l2, l3, l4, l5] (.int (x - x / y * y) :: st) h Q) := jg_q (f := fun x y => x - x / y * y) rfl
theorem s195_229 : jx_Go jxP d 195 229 [l0, l1, l2, l3, l4, l5] (.int x :: .ref a :: st) h Q ↔ ∃ q, jx_ai h a = some q ∧ jx_in x q.1 ∧ jx_Go jxP d 195 230 [l0, l1, l2, l3, l4, l5] (.int (q.2 x.toNatClampNeg) :: st) h Q := jg_ia rfl
theorem s195_230 : jx_Go jxP (d + 1) 195 230 [l0, l1, l2, l3, l4, l5] (.int x2 :: .int x1 :: .int x0 :: .ref a :: st) h Q ↔ (st.length ≤ 4 ∧ jx_cl h a = some 12 ∧ jx_Go jxP d 191 0 [.ref a, .int x0, .int x1, .int x2] [] h (fun s1 h1 => jx_Go jxP (d + 1) 195 233 [l0, l1, l2, l3, l4, l5] (s1 ++ st) h1 Q)) := jg_callV (as := [.int x2, .int x1, .int x0, .ref a]) rfl rfl rfl rfl rfl
theorem s195_233 : jx_Go jxP d 195 233 [l0, l1, l2, l3, l4, l5] (.int y :: .int x :: st) h Q ↔ if x = y then jx_Go jxP d 195 236 [l0, l1, l2, l3, l4, l5] st h Q else jx_Go jxP d 195 240 [l0, l1, l2, l3, l4, l5] st h Q := jg_icN rfl rfl
theorem s195_236 : jx_Go jxP d 195 236 [l0, l1, l2, l3, l4, l5] st h Q ↔ jx_Go jxP d 195 237 [l0, l1, l2, l3, l4, l5] (.int (nI 1) :: st) h Q := jg_c rfl
theorem s195_237 : jx_Go jxP d 195 237 [l0, l1, l2, l3, l4, l5] st h Q ↔ jx_Go jxP d 195 241 [l0, l1, l2, l3, l4, l5] st h Q := jg_go rfl
theorem s195_240 : jx_Go jxP d 195 240 [l0, l1, l2, l3, l4, l5] st h Q ↔ jx_Go jxP d 195 241 [l0, l1, l2, l3, l4, l5] (.int (nI 0) :: st) h Q := jg_c rfl
theorem s195_241 : jx_Go jxP d 195 241 [l0, l1, l2, l3, l4, l5] (.int x :: st) h Q ↔ jx_Go jxP d 195 243 [l0, l1, l2, l3, .int x, l5] st h Q := jg_is rfl rfl
theorem s195_243 : jx_Go jxP d 195 243 [l0, l1, l2, l3, l4, .int x] st h Q ↔ jx_Go jxP d 195 246 [l0, l1, l2, l3, l4, .int (x + (nI 1))] st h Q := jg_inc rfl rfl rfl
theorem s195_246 : jx_Go jxP d 195 246 [l0, l1, l2, l3, l4, l5] st h Q ↔ jx_Go jxP d 195 163 [l0, l1, l2, l3, l4, l5] st h Q := jg_go rfl
theorem s195_249 : jx_Go jxP d 195 249 [l0, l1, l2, l3, .int x, l5] st h Q ↔ jx_Go jxP d 195 251 [l0, l1, l2, l3, .int x, l5] (.int x :: st) h Q := jg_il rfl rfl
theorem s195_251 : jx_Go jxP d 195 251 [l0, l1, l2, l3, l4, l5] (.int x :: st) h Q ↔ if x = 0 then jx_Go jxP d 195 256 [l0, l1, l2, l3, l4, l5] st h Q else jx_Go jxP d 195 254 [l0, l1, l2, l3, l4, l5] st h Q := jg_ifP rfl rfl
theorem s195_254 : jx_Go jxP d 195 254 [l0, l1, l2, l3, l4, l5] st h Q ↔ jx_Go jxP d 195 255 [l0, l1, l2, l3, l4, l5] (.int (nI 1) :: st) h Q := jg_c rfl
theorem s195_255 : jx_Go jxP d 195 255 [l0, l1, l2, l3, l4, l5] [.int x] h Q ↔ Q [.int x] h := jx_rt rfl rfl
theorem s195_256 : jx_Go jxP d 195 256 [l0, l1, l2, .int x, l4, l5] st h Q ↔ jx_Go jxP d 195 259 [l0, l1, l2, .int (x + (nI 1)), l4, l5] st h Q := jg_inc rfl rfl rfl
theorem s195_259 : jx_Go jxP d 195 259 [l0, l1, l2, l3, l4, l5] st h Q ↔ jx_Go jxP d 195 111 [l0, l1, l2, l3, l4, l5] st h Q := jg_go rfl
theorem s195_262 : jx_Go jxP d 195 262 [l0, l1, .int x, l3, l4, l5] st h Q ↔ jx_Go jxP d 195 265 [l0, l1, .int (x + (nI 1)), l3, l4, l5] st h Q := jg_inc rfl rfl rfl
theorem s195_265 : jx_Go jxP d 195 265 [l0, l1, l2, l3, l4, l5] st h Q ↔ jx_Go jxP d 195 67 [l0, l1, l2, l3, l4, l5] st h Q := jg_go rfl
theorem s195_268 : jx_Go jxP d 195 268 [l0, l1, l2, l3, l4, l5] st h Q ↔ jx_Go jxP d 195 269 [l0, l1, l2, l3, l4, l5] (.int (nI 0) :: st) h Q := jg_c rfl
theorem s195_269 : jx_Go jxP d 195 269 [l0, l1, l2, l3, l4, l5] [.int x] h Q ↔ Q [.int x] h := jx_rt rfl rfl
-- 196 TalkBenchModel.told
theorem s196_0 : jx_Go jxP d 196 0 [l0, .int x] st h Q ↔ jx_Go jxP d 196 1 [l0, .int x] (.int x :: st) h Q := jg_il rfl rfl
theorem s196_1 : jx_Go jxP d 196 1 [l0, l1] (.int x :: st) h Q ↔ if x < 0 then jx_Go jxP d 196 10 [l0, l1] st h Q else jx_Go jxP d 196 4 [l0, l1] st h Q := jg_ifP rfl rfl
theorem s196_4 : jx_Go jxP d 196 4 [l0, .int x] st h Q ↔ jx_Go jxP d 196 5 [l0, .int x] (.int x :: st) h Q := jg_il rfl rfl
theorem s196_5 : jx_Go jxP d 196 5 [l0, l1] st h Q ↔ jx_Go jxP d 196 7 [l0, l1] (.int (nI 6) :: st) h Q := jg_c rfl
theorem s196_7 : jx_Go jxP d 196 7 [l0, l1] (.int y :: .int x :: st) h Q ↔ if x ≤ y then jx_Go jxP d 196 16 [l0, l1] st h Q else jx_Go jxP d 196 10 [l0, l1] st h Q := jg_icP rfl rfl
theorem s196_10 : jx_Go jxP d 196 10 [.ref a, l1] st h Q ↔ jx_Go jxP d 196 11 [.ref a, l1] (.ref a :: st) h Q := jg_al rfl rfl
theorem s196_11 : jx_Go jxP d 196 11 [l0, l1] st h Q ↔ jx_Go jxP d 196 12 [l0, l1] (.int (-1) :: st) h Q := jg_c rfl
theorem s196_12 : jx_Go jxP (d + 1) 196 12 [l0, l1] (.int x0 :: .ref a :: st) h Q ↔ (st.length ≤ 4 ∧ jx_cl h a = some 12 ∧ jx_Go jxP d 130 0 [.ref a, .int x0] [] h (fun s1 h1 => jx_Go jxP (d + 1) 196 15 [l0, l1] (s1 ++ st) h1 Q)) := jg_callV (as := [.int x0, .ref a]) rfl rfl rfl rfl rfl
theorem s196_15 : jx_Go jxP d 196 15 [l0, l1] [.int x] h Q ↔ Q [.int x] h := jx_rt rfl rfl
theorem s196_16 : jx_Go jxP d 196 16 [l0, .int x] st h Q ↔ jx_Go jxP d 196 17 [l0, .int x] (.int x :: st) h Q := jg_il rfl rfl
theorem s196_17 : jx_Go jxP d 196 17 [l0, l1] (.int x :: st) h Q ↔ jx_Go jxP d 196 (js_swt 17 71 0 5 [39, 44, 49, 55, 61, 66] x) [l0, l1] st h Q := jg_sw rfl
theorem s196_56 : jx_Go jxP d 196 56 [.ref a, l1] st h Q ↔ jx_Go jxP d 196 57 [.ref a, l1] (.ref a :: st) h Q := jg_al rfl rfl
theorem s196_57 : jx_Go jxP d 196 57 [l0, l1] (.ref a :: st) h Q ↔ ∃ v, jx_fl h a 12 0 = some v ∧ jx_Go jxP d 196 60 [l0, l1] (v :: st) h Q := jg_gf rfl
theorem s196_60 : jx_Go jxP d 196 60 [l0, l1] [.int x] h Q ↔ Q [.int x] h := jx_rt rfl rfl
theorem s196_61 : jx_Go jxP d 196 61 [.ref a, l1] st h Q ↔ jx_Go jxP d 196 62 [.ref a, l1] (.ref a :: st) h Q := jg_al rfl rfl
theorem s196_62 : jx_Go jxP d 196 62 [l0, l1] (.ref a :: st) h Q ↔ ∃ v, jx_fl h a 12 1 = some v ∧ jx_Go jxP d 196 65 [l0, l1] (v :: st) h Q := jg_gf rfl
theorem s196_65 : jx_Go jxP d 196 65 [l0, l1] [.int x] h Q ↔ Q [.int x] h := jx_rt rfl rfl
theorem s196_66 : jx_Go jxP d 196 66 [.ref a, l1] st h Q ↔ jx_Go jxP d 196 67 [.ref a, l1] (.ref a :: st) h Q := jg_al rfl rfl
theorem s196_67 : jx_Go jxP d 196 67 [l0, l1] st h Q ↔ jx_Go jxP d 196 68 [l0, l1] (.int (nI 1) :: st) h Q := jg_c rfl
theorem s196_68 : jx_Go jxP (d + 1) 196 68 [l0, l1] (.int x0 :: .ref a :: st) h Q ↔ (st.length ≤ 4 ∧ jx_cl h a = some 12 ∧ jx_Go jxP d 138 0 [.ref a, .int x0, jx_u, jx_u, jx_u] [] h (fun s1 h1 => jx_Go jxP (d + 1) 196 71 [l0, l1] (s1 ++ st) h1 Q)) := jg_callV (as := [.int x0, .ref a]) rfl rfl rfl rfl rfl
theorem s196_71 : jx_Go jxP d 196 71 [l0, l1] [.int x] h Q ↔ Q [.int x] h := jx_rt rfl rfl
theorem s196_72 : jx_Go jxP d 196 72 [.ref a, l1] st h Q ↔ jx_Go jxP d 196 73 [.ref a, l1] (.ref a :: st) h Q := jg_al rfl rfl
theorem s196_73 : jx_Go jxP d 196 73 [l0, l1] st h Q ↔ jx_Go jxP d 196 74 [l0, l1] (.int (nI 2) :: st) h Q := jg_c rfl
theorem s196_74 : jx_Go jxP (d + 1) 196 74 [l0, l1] (.int x0 :: .ref a :: st) h Q ↔ (st.length ≤ 4 ∧ jx_cl h a = some 12 ∧ jx_Go jxP d 138 0 [.ref a, .int x0, jx_u, jx_u, jx_u] [] h (fun s1 h1 => jx_Go jxP (d + 1) 196 77 [l0, l1] (s1 ++ st) h1 Q)) := jg_callV (as := [.int x0, .ref a]) rfl rfl rfl rfl rfl
theorem s196_77 : jx_Go jxP d 196 77 [l0, l1] [.int x] h Q ↔ Q [.int x] h := jx_rt rfl rfl
theorem s196_78 : jx_Go jxP d 196 78 [.ref a, l1] st h Q ↔ jx_Go jxP d 196 79 [.ref a, l1] (.ref a :: st) h Q := jg_al rfl rfl
theorem s196_79 : jx_Go jxP d 196 79 [l0, l1] (.ref a :: st) h Q ↔ ∃ v, jx_fl h a 12 11 = some v ∧ jx_Go jxP d 196 82 [l0, l1] (v :: st) h Q := jg_gf rfl
theorem s196_82 : jx_Go jxP d 196 82 [l0, l1] [.int x] h Q ↔ Q [.int x] h := jx_rt rfl rfl
theorem s196_83 : jx_Go jxP d 196 83 [.ref a, l1] st h Q ↔ jx_Go jxP d 196 84 [.ref a, l1] (.ref a :: st) h Q := jg_al rfl rfl
theorem s196_84 : jx_Go jxP d 196 84 [l0, l1] (.ref a :: st) h Q ↔ ∃ v, jx_fl h a 12 14 = some v ∧ jx_Go jxP d 196 87 [l0, l1] (v :: st) h Q := jg_gf rfl
theorem s196_87 : jx_Go jxP d 196 87 [l0, l1] [.int x] h Q ↔ Q [.int x] h := jx_rt rfl rfl
theorem s196_88 : jx_Go jxP d 196 88 [.ref a, l1] st h Q ↔ jx_Go jxP d 196 89 [.ref a, l1] (.ref a :: st) h Q := jg_al rfl rfl
theorem s196_89 : jx_Go jxP d 196 89 [l0, l1] (.ref a :: st) h Q ↔ ∃ v, jx_fl h a 12 13 = some v ∧ jx_Go jxP d 196 92 [l0, l1] (v :: st) h Q := jg_gf rfl
theorem s196_92 : jx_Go jxP d 196 92 [l0, l1] [.int x] h Q ↔ Q [.int x] h := jx_rt rfl rfl
end JST
