/-! ===== a step lemma for each instruction ===== -/
section JST
variable {d a b a0 a1 a2 a3 a4 : Nat} {l0 l1 l2 l3 l4 l5 l6 l7 l8 l9 l10 l11 l12 l13 l14 l15 l16 l17 l18 l19 l20 l21 l22 l23 l24 l25 l26 : Value} {x y z x0 x1 x2 x3 x4 : Int32} {u w : Int64} {st : List Value} {h : jxH} {Q : List Value → jxH → Prop}
-- 0 TalkBench$Blocks.<init>
theorem s0_0 : jx_Go jxP d 0 0 [.ref a, l1, l2] st h Q ↔ jx_Go jxP d 0 1 [.ref a, l1, l2] (.ref a :: st) h Q := jg_al rfl rfl
theorem s0_1 : jx_Go jxP d 0 1 [l0, l1, l2] [.ref a] h Q ↔ jx_Go jxP d 0 4 [l0, l1, l2] [] h Q := jg_oi rfl
theorem s0_4 : jx_Go jxP d 0 4 [.ref a, l1, l2] st h Q ↔ jx_Go jxP d 0 5 [.ref a, l1, l2] (.ref a :: st) h Q := jg_al rfl rfl
theorem s0_5 : jx_Go jxP d 0 5 [l0, l1, l2] st h Q ↔ jx_Go jxP d 0 8 [l0, l1, l2] (.int (nI 1024) :: st) h Q := jg_c rfl
theorem s0_8 : jx_Go jxP d 0 8 [l0, l1, l2] (.int (nI 1024) :: st) h Q ↔ jx_Go jxP d 0 10 [l0, l1, l2] (.ref h.1 :: st) (jx_mk h 1024 (.inl (0, 1024, .inl (fun _ => 0)))) Q := jg_ni rfl (jx_inB_iff.mp (by decide +kernel))
theorem s0_10 : jx_Go jxP d 0 10 [l0, l1, l2] (.ref b :: .ref a :: st) h Q ↔ ∃ v, jx_fl h a 0 2 = some v ∧ jx_Go jxP d 0 13 [l0, l1, l2] st (jx_uf h a 2 (.ref b)) Q := jg_pfR rfl
theorem s0_13 : jx_Go jxP d 0 13 [.ref a, l1, l2] st h Q ↔ jx_Go jxP d 0 14 [.ref a, l1, l2] (.ref a :: st) h Q := jg_al rfl rfl
theorem s0_14 : jx_Go jxP d 0 14 [l0, l1, l2] st h Q ↔ jx_Go jxP d 0 17 [l0, l1, l2] (.int (nI 1024) :: st) h Q := jg_c rfl
theorem s0_17 : jx_Go jxP d 0 17 [l0, l1, l2] (.int (nI 1024) :: st) h Q ↔ jx_Go jxP d 0 19 [l0, l1, l2] (.ref h.1 :: st) (jx_mk h 1024 (.inl (0, 1024, .inl (fun _ => 0)))) Q := jg_ni rfl (jx_inB_iff.mp (by decide +kernel))
theorem s0_19 : jx_Go jxP d 0 19 [l0, l1, l2] (.ref b :: .ref a :: st) h Q ↔ ∃ v, jx_fl h a 0 3 = some v ∧ jx_Go jxP d 0 22 [l0, l1, l2] st (jx_uf h a 3 (.ref b)) Q := jg_pfR rfl
theorem s0_22 : jx_Go jxP d 0 22 [.ref a, l1, l2] st h Q ↔ jx_Go jxP d 0 23 [.ref a, l1, l2] (.ref a :: st) h Q := jg_al rfl rfl
theorem s0_23 : jx_Go jxP d 0 23 [l0, l1, l2] st h Q ↔ jx_Go jxP d 0 25 [l0, l1, l2] (.int (nI 32) :: st) h Q := jg_c rfl
theorem s0_25 : jx_Go jxP d 0 25 [l0, l1, l2] (.int (nI 32) :: st) h Q ↔ jx_Go jxP d 0 27 [l0, l1, l2] (.ref h.1 :: st) (jx_mk h 32 (.inl (0, 32, .inl (fun _ => 0)))) Q := jg_ni rfl (jx_inB_iff.mp (by decide +kernel))
theorem s0_27 : jx_Go jxP d 0 27 [l0, l1, l2] (.ref b :: .ref a :: st) h Q ↔ ∃ v, jx_fl h a 0 4 = some v ∧ jx_Go jxP d 0 30 [l0, l1, l2] st (jx_uf h a 4 (.ref b)) Q := jg_pfR rfl
theorem s0_30 : jx_Go jxP d 0 30 [.ref a, l1, l2] st h Q ↔ jx_Go jxP d 0 31 [.ref a, l1, l2] (.ref a :: st) h Q := jg_al rfl rfl
theorem s0_31 : jx_Go jxP d 0 31 [l0, .ref a, l2] st h Q ↔ jx_Go jxP d 0 32 [l0, .ref a, l2] (.ref a :: st) h Q := jg_al rfl rfl
theorem s0_32 : jx_Go jxP d 0 32 [l0, l1, l2] (.ref b :: .ref a :: st) h Q ↔ ∃ v, jx_fl h a 0 0 = some v ∧ jx_Go jxP d 0 35 [l0, l1, l2] st (jx_uf h a 0 (.ref b)) Q := jg_pfR rfl
theorem s0_35 : jx_Go jxP d 0 35 [.ref a, l1, l2] st h Q ↔ jx_Go jxP d 0 36 [.ref a, l1, l2] (.ref a :: st) h Q := jg_al rfl rfl
theorem s0_36 : jx_Go jxP d 0 36 [l0, l1, .ref a] st h Q ↔ jx_Go jxP d 0 37 [l0, l1, .ref a] (.ref a :: st) h Q := jg_al rfl rfl
theorem s0_37 : jx_Go jxP d 0 37 [l0, l1, l2] (.ref b :: .ref a :: st) h Q ↔ ∃ v, jx_fl h a 0 1 = some v ∧ jx_Go jxP d 0 40 [l0, l1, l2] st (jx_uf h a 1 (.ref b)) Q := jg_pfR rfl
theorem s0_40 : jx_Go jxP d 0 40 [l0, l1, l2] [] h Q ↔ Q [] h := jx_rt rfl rfl
-- 1 TalkBench$Blocks.forget
theorem s1_0 : jx_Go jxP d 1 0 [.ref a] st h Q ↔ jx_Go jxP d 1 1 [.ref a] (.ref a :: st) h Q := jg_al rfl rfl
theorem s1_1 : jx_Go jxP d 1 1 [l0] st h Q ↔ jx_Go jxP d 1 2 [l0] (.int (nI 0) :: st) h Q := jg_c rfl
theorem s1_2z0 : jx_Go jxP d 1 2 [l0] (.int (nI 0) :: .ref a :: st) h Q ↔ ∃ v, jx_fl h a 0 5 = some v ∧ jx_Go jxP d 1 5 [l0] st (jx_uf h a 5 (.int (nI 0))) Q := jg_pfZ rfl (by decide)
theorem s1_2z1 : jx_Go jxP d 1 2 [l0] (.int (nI 1) :: .ref a :: st) h Q ↔ ∃ v, jx_fl h a 0 5 = some v ∧ jx_Go jxP d 1 5 [l0] st (jx_uf h a 5 (.int (nI 1))) Q := jg_pfZ rfl (by decide)
theorem s1_5 : jx_Go jxP d 1 5 [l0] [] h Q ↔ Q [] h := jx_rt rfl rfl
-- 2 TalkBench$Blocks.leastBits
theorem s2_0 : jx_Go jxP d 2 0 [.ref a, l1, l2] st h Q ↔ jx_Go jxP d 2 1 [.ref a, l1, l2] (.ref a :: st) h Q := jg_al rfl rfl
theorem s2_1 : jx_Go jxP (d + 1) 2 1 [l0, l1, l2] (.ref a :: st) h Q ↔ (st.length ≤ 4 ∧ jx_cl h a = some 0 ∧ jx_Go jxP d 4 0 [.ref a, jx_u, jx_u] [] h (fun s1 h1 => jx_Go jxP (d + 1) 2 4 [l0, l1, l2] (s1 ++ st) h1 Q)) := jg_callV (as := [.ref a]) rfl rfl rfl rfl rfl
theorem s2_4 : jx_Go jxP d 2 4 [.ref a, l1, l2] st h Q ↔ jx_Go jxP d 2 5 [.ref a, l1, l2] (.ref a :: st) h Q := jg_al rfl rfl
theorem s2_5 : jx_Go jxP d 2 5 [l0, l1, l2] (.ref a :: st) h Q ↔ ∃ v, jx_fl h a 0 2 = some v ∧ jx_Go jxP d 2 8 [l0, l1, l2] (v :: st) h Q := jg_gf rfl
theorem s2_8 : jx_Go jxP d 2 8 [l0, .int x, l2] st h Q ↔ jx_Go jxP d 2 9 [l0, .int x, l2] (.int x :: st) h Q := jg_il rfl rfl
theorem s2_9 : jx_Go jxP d 2 9 [l0, l1, .int x] st h Q ↔ jx_Go jxP d 2 10 [l0, l1, .int x] (.int x :: st) h Q := jg_il rfl rfl
theorem s2_10 : jx_Go jxP (d + 1) 2 10 [l0, l1, l2] (.int x1 :: .int x0 :: st) h Q ↔ (st.length ≤ 4 ∧ jx_Go jxP d 128 0 [.int x0, .int x1] [] h (fun s1 h1 => jx_Go jxP (d + 1) 2 13 [l0, l1, l2] (s1 ++ st) h1 Q)) := jg_callS (as := [.int x1, .int x0]) rfl rfl rfl rfl
theorem s2_13 : jx_Go jxP d 2 13 [l0, l1, l2] (.int x :: .ref a :: st) h Q ↔ ∃ q, jx_ai h a = some q ∧ jx_in x q.1 ∧ jx_Go jxP d 2 14 [l0, l1, l2] (.int (q.2 x.toNatClampNeg) :: st) h Q := jg_ia rfl
theorem s2_14 : jx_Go jxP d 2 14 [l0, l1, l2] [.int x] h Q ↔ Q [.int x] h := jx_rt rfl rfl
-- 3 TalkBench$Blocks.fewestEnds
theorem s3_0 : jx_Go jxP d 3 0 [.ref a, l1, l2] st h Q ↔ jx_Go jxP d 3 1 [.ref a, l1, l2] (.ref a :: st) h Q := jg_al rfl rfl
theorem s3_1 : jx_Go jxP (d + 1) 3 1 [l0, l1, l2] (.ref a :: st) h Q ↔ (st.length ≤ 4 ∧ jx_cl h a = some 0 ∧ jx_Go jxP d 4 0 [.ref a, jx_u, jx_u] [] h (fun s1 h1 => jx_Go jxP (d + 1) 3 4 [l0, l1, l2] (s1 ++ st) h1 Q)) := jg_callV (as := [.ref a]) rfl rfl rfl rfl rfl
theorem s3_4 : jx_Go jxP d 3 4 [.ref a, l1, l2] st h Q ↔ jx_Go jxP d 3 5 [.ref a, l1, l2] (.ref a :: st) h Q := jg_al rfl rfl
theorem s3_5 : jx_Go jxP d 3 5 [l0, l1, l2] (.ref a :: st) h Q ↔ ∃ v, jx_fl h a 0 3 = some v ∧ jx_Go jxP d 3 8 [l0, l1, l2] (v :: st) h Q := jg_gf rfl
theorem s3_8 : jx_Go jxP d 3 8 [l0, .int x, l2] st h Q ↔ jx_Go jxP d 3 9 [l0, .int x, l2] (.int x :: st) h Q := jg_il rfl rfl
theorem s3_9 : jx_Go jxP d 3 9 [l0, l1, .int x] st h Q ↔ jx_Go jxP d 3 10 [l0, l1, .int x] (.int x :: st) h Q := jg_il rfl rfl
theorem s3_10 : jx_Go jxP (d + 1) 3 10 [l0, l1, l2] (.int x1 :: .int x0 :: st) h Q ↔ (st.length ≤ 4 ∧ jx_Go jxP d 128 0 [.int x0, .int x1] [] h (fun s1 h1 => jx_Go jxP (d + 1) 3 13 [l0, l1, l2] (s1 ++ st) h1 Q)) := jg_callS (as := [.int x1, .int x0]) rfl rfl rfl rfl
theorem s3_13 : jx_Go jxP d 3 13 [l0, l1, l2] (.int x :: .ref a :: st) h Q ↔ ∃ q, jx_ai h a = some q ∧ jx_in x q.1 ∧ jx_Go jxP d 3 14 [l0, l1, l2] (.int (q.2 x.toNatClampNeg) :: st) h Q := jg_ia rfl
theorem s3_14 : jx_Go jxP d 3 14 [l0, l1, l2] [.int x] h Q ↔ Q [.int x] h := jx_rt rfl rfl
-- 4 TalkBench$Blocks.learn
theorem s4_0 : jx_Go jxP d 4 0 [.ref a, l1, l2] st h Q ↔ jx_Go jxP d 4 1 [.ref a, l1, l2] (.ref a :: st) h Q := jg_al rfl rfl
theorem s4_1 : jx_Go jxP d 4 1 [l0, l1, l2] (.ref a :: st) h Q ↔ ∃ v, jx_fl h a 0 5 = some v ∧ jx_Go jxP d 4 4 [l0, l1, l2] (v :: st) h Q := jg_gf rfl
theorem s4_4 : jx_Go jxP d 4 4 [l0, l1, l2] (.int x :: st) h Q ↔ if x = 0 then jx_Go jxP d 4 8 [l0, l1, l2] st h Q else jx_Go jxP d 4 7 [l0, l1, l2] st h Q := jg_ifP rfl rfl
theorem s4_7 : jx_Go jxP d 4 7 [l0, l1, l2] [] h Q ↔ Q [] h := jx_rt rfl rfl
theorem s4_8 : jx_Go jxP d 4 8 [l0, l1, l2] st h Q ↔ jx_Go jxP d 4 9 [l0, l1, l2] (.int (nI 1) :: st) h Q := jg_c rfl
theorem s4_9 : jx_Go jxP d 4 9 [l0, l1, l2] (.int x :: st) h Q ↔ jx_Go jxP d 4 10 [l0, .int x, l2] st h Q := jg_is rfl rfl
theorem s4_10 : jx_Go jxP d 4 10 [l0, .int x, l2] st h Q ↔ jx_Go jxP d 4 11 [l0, .int x, l2] (.int x :: st) h Q := jg_il rfl rfl
theorem s4_11 : jx_Go jxP d 4 11 [.ref a, l1, l2] st h Q ↔ jx_Go jxP d 4 12 [.ref a, l1, l2] (.ref a :: st) h Q := jg_al rfl rfl
theorem s4_12 : jx_Go jxP d 4 12 [l0, l1, l2] (.ref a :: st) h Q ↔ ∃ v, jx_fl h a 0 0 = some v ∧ jx_Go jxP d 4 15 [l0, l1, l2] (v :: st) h Q := jg_gf rfl
theorem s4_15 : jx_Go jxP d 4 15 [l0, l1, l2] (.ref a :: st) h Q ↔ ∃ v, jx_fl h a 4 0 = some v ∧ jx_Go jxP d 4 18 [l0, l1, l2] (v :: st) h Q := jg_gf rfl
theorem s4_18 : jx_Go jxP d 4 18 [l0, l1, l2] (.int y :: .int x :: st) h Q ↔ if y < x then jx_Go jxP d 4 52 [l0, l1, l2] st h Q else jx_Go jxP d 4 21 [l0, l1, l2] st h Q := jg_icP rfl rfl
theorem s4_21 : jx_Go jxP d 4 21 [l0, l1, l2] st h Q ↔ jx_Go jxP d 4 22 [l0, l1, l2] (.int (nI 1) :: st) h Q := jg_c rfl
theorem s4_22 : jx_Go jxP d 4 22 [l0, l1, l2] (.int x :: st) h Q ↔ jx_Go jxP d 4 23 [l0, l1, .int x] st h Q := jg_is rfl rfl
theorem s4_23 : jx_Go jxP d 4 23 [l0, l1, .int x] st h Q ↔ jx_Go jxP d 4 24 [l0, l1, .int x] (.int x :: st) h Q := jg_il rfl rfl
theorem s4_24 : jx_Go jxP d 4 24 [.ref a, l1, l2] st h Q ↔ jx_Go jxP d 4 25 [.ref a, l1, l2] (.ref a :: st) h Q := jg_al rfl rfl
theorem s4_25 : jx_Go jxP d 4 25 [l0, l1, l2] (.ref a :: st) h Q ↔ ∃ v, jx_fl h a 0 0 = some v ∧ jx_Go jxP d 4 28 [l0, l1, l2] (v :: st) h Q := jg_gf rfl
theorem s4_28 : jx_Go jxP d 4 28 [l0, l1, l2] (.ref a :: st) h Q ↔ ∃ v, jx_fl h a 4 1 = some v ∧ jx_Go jxP d 4 31 [l0, l1, l2] (v :: st) h Q := jg_gf rfl
theorem s4_31 : jx_Go jxP d 4 31 [l0, l1, l2] (.int y :: .int x :: st) h Q ↔ if y < x then jx_Go jxP d 4 46 [l0, l1, l2] st h Q else jx_Go jxP d 4 34 [l0, l1, l2] st h Q := jg_icP rfl rfl
theorem s4_34 : jx_Go jxP d 4 34 [.ref a, l1, l2] st h Q ↔ jx_Go jxP d 4 35 [.ref a, l1, l2] (.ref a :: st) h Q := jg_al rfl rfl
theorem s4_35 : jx_Go jxP d 4 35 [l0, .int x, l2] st h Q ↔ jx_Go jxP d 4 36 [l0, .int x, l2] (.int x :: st) h Q := jg_il rfl rfl
theorem s4_36 : jx_Go jxP d 4 36 [l0, l1, .int x] st h Q ↔ jx_Go jxP d 4 37 [l0, l1, .int x] (.int x :: st) h Q := jg_il rfl rfl
theorem s4_37 : jx_Go jxP (d + 1) 4 37 [l0, l1, l2] (.int x1 :: .int x0 :: .ref a :: st) h Q ↔ (st.length ≤ 4 ∧ jx_cl h a = some 0 ∧ jx_Go jxP d 5 0 [.ref a, .int x0, .int x1, jx_u] [] h (fun s1 h1 => jx_Go jxP (d + 1) 4 40 [l0, l1, l2] (s1 ++ st) h1 Q)) := jg_callV (as := [.int x1, .int x0, .ref a]) rfl rfl rfl rfl rfl
theorem s4_40 : jx_Go jxP d 4 40 [l0, l1, .int x] st h Q ↔ jx_Go jxP d 4 43 [l0, l1, .int (x + (nI 1))] st h Q := jg_inc rfl rfl rfl
theorem s4_43 : jx_Go jxP d 4 43 [l0, l1, l2] st h Q ↔ jx_Go jxP d 4 23 [l0, l1, l2] st h Q := jg_go rfl
theorem s4_46 : jx_Go jxP d 4 46 [l0, .int x, l2] st h Q ↔ jx_Go jxP d 4 49 [l0, .int (x + (nI 1)), l2] st h Q := jg_inc rfl rfl rfl
theorem s4_49 : jx_Go jxP d 4 49 [l0, l1, l2] st h Q ↔ jx_Go jxP d 4 10 [l0, l1, l2] st h Q := jg_go rfl
theorem s4_52 : jx_Go jxP d 4 52 [.ref a, l1, l2] st h Q ↔ jx_Go jxP d 4 53 [.ref a, l1, l2] (.ref a :: st) h Q := jg_al rfl rfl
theorem s4_53 : jx_Go jxP d 4 53 [l0, l1, l2] st h Q ↔ jx_Go jxP d 4 54 [l0, l1, l2] (.int (nI 1) :: st) h Q := jg_c rfl
theorem s4_54z0 : jx_Go jxP d 4 54 [l0, l1, l2] (.int (nI 0) :: .ref a :: st) h Q ↔ ∃ v, jx_fl h a 0 5 = some v ∧ jx_Go jxP d 4 57 [l0, l1, l2] st (jx_uf h a 5 (.int (nI 0))) Q := jg_pfZ rfl (by decide)
theorem s4_54z1 : jx_Go jxP d 4 54 [l0, l1, l2] (.int (nI 1) :: .ref a :: st) h Q ↔ ∃ v, jx_fl h a 0 5 = some v ∧ jx_Go jxP d 4 57 [l0, l1, l2] st (jx_uf h a 5 (.int (nI 1))) Q := jg_pfZ rfl (by decide)
theorem s4_57 : jx_Go jxP d 4 57 [l0, l1, l2] [] h Q ↔ Q [] h := jx_rt rfl rfl
-- 5 TalkBench$Blocks.learnBlock
theorem s5_0 : jx_Go jxP d 5 0 [l0, .int x, l2, l3] st h Q ↔ jx_Go jxP d 5 1 [l0, .int x, l2, l3] (.int x :: st) h Q := jg_il rfl rfl
theorem s5_1 : jx_Go jxP d 5 1 [l0, l1, .int x, l3] st h Q ↔ jx_Go jxP d 5 2 [l0, l1, .int x, l3] (.int x :: st) h Q := jg_il rfl rfl
theorem s5_2 : jx_Go jxP (d + 1) 5 2 [l0, l1, l2, l3] (.int x1 :: .int x0 :: st) h Q ↔ (st.length ≤ 4 ∧ jx_Go jxP d 128 0 [.int x0, .int x1] [] h (fun s1 h1 => jx_Go jxP (d + 1) 5 5 [l0, l1, l2, l3] (s1 ++ st) h1 Q)) := jg_callS (as := [.int x1, .int x0]) rfl rfl rfl rfl
theorem s5_5 : jx_Go jxP d 5 5 [l0, l1, l2, l3] (.int x :: st) h Q ↔ jx_Go jxP d 5 6 [l0, l1, l2, .int x] st h Q := jg_is rfl rfl
theorem s5_6 : jx_Go jxP d 5 6 [.ref a, l1, l2, l3] st h Q ↔ jx_Go jxP d 5 7 [.ref a, l1, l2, l3] (.ref a :: st) h Q := jg_al rfl rfl
theorem s5_7 : jx_Go jxP d 5 7 [l0, l1, l2, l3] (.ref a :: st) h Q ↔ ∃ v, jx_fl h a 0 0 = some v ∧ jx_Go jxP d 5 10 [l0, l1, l2, l3] (v :: st) h Q := jg_gf rfl
theorem s5_10 : jx_Go jxP d 5 10 [l0, .int x, l2, l3] st h Q ↔ jx_Go jxP d 5 11 [l0, .int x, l2, l3] (.int x :: st) h Q := jg_il rfl rfl
theorem s5_11 : jx_Go jxP d 5 11 [l0, l1, .int x, l3] st h Q ↔ jx_Go jxP d 5 12 [l0, l1, .int x, l3] (.int x :: st) h Q := jg_il rfl rfl
theorem s5_12 : jx_Go jxP (d + 1) 5 12 [l0, l1, l2, l3] (.int x1 :: .int x0 :: .ref a :: st) h Q ↔ (st.length ≤ 4 ∧ jx_cl h a = some 4 ∧ jx_Go jxP d 31 0 [.ref a, .int x0, .int x1] [] h (fun s1 h1 => jx_Go jxP (d + 1) 5 15 [l0, l1, l2, l3] (s1 ++ st) h1 Q)) := jg_callV (as := [.int x1, .int x0, .ref a]) rfl rfl rfl rfl rfl
theorem s5_15 : jx_Go jxP d 5 15 [l0, l1, l2, l3] (.int x :: st) h Q ↔ if x = 0 then jx_Go jxP d 5 33 [l0, l1, l2, l3] st h Q else jx_Go jxP d 5 18 [l0, l1, l2, l3] st h Q := jg_ifP rfl rfl
theorem s5_18 : jx_Go jxP d 5 18 [.ref a, l1, l2, l3] st h Q ↔ jx_Go jxP d 5 19 [.ref a, l1, l2, l3] (.ref a :: st) h Q := jg_al rfl rfl
theorem s5_19 : jx_Go jxP d 5 19 [l0, l1, l2, l3] (.ref a :: st) h Q ↔ ∃ v, jx_fl h a 0 2 = some v ∧ jx_Go jxP d 5 22 [l0, l1, l2, l3] (v :: st) h Q := jg_gf rfl
theorem s5_22 : jx_Go jxP d 5 22 [l0, l1, l2, .int x] st h Q ↔ jx_Go jxP d 5 23 [l0, l1, l2, .int x] (.int x :: st) h Q := jg_il rfl rfl
theorem s5_23 : jx_Go jxP d 5 23 [l0, l1, l2, l3] st h Q ↔ jx_Go jxP d 5 24 [l0, l1, l2, l3] (.int (nI 0) :: st) h Q := jg_c rfl
theorem s5_24 : jx_Go jxP d 5 24 [l0, l1, l2, l3] (.int y :: .int x :: .ref a :: st) h Q ↔ ∃ q, jx_ai h a = some q ∧ jx_in x q.1 ∧ jx_Go jxP d 5 25 [l0, l1, l2, l3] st (jx_wi h a q.1 (upd q.2 x.toNatClampNeg y)) Q := jg_iw rfl
theorem s5_25 : jx_Go jxP d 5 25 [.ref a, l1, l2, l3] st h Q ↔ jx_Go jxP d 5 26 [.ref a, l1, l2, l3] (.ref a :: st) h Q := jg_al rfl rfl
theorem s5_26 : jx_Go jxP d 5 26 [l0, l1, l2, l3] (.ref a :: st) h Q ↔ ∃ v, jx_fl h a 0 3 = some v ∧ jx_Go jxP d 5 29 [l0, l1, l2, l3] (v :: st) h Q := jg_gf rfl
theorem s5_29 : jx_Go jxP d 5 29 [l0, l1, l2, .int x] st h Q ↔ jx_Go jxP d 5 30 [l0, l1, l2, .int x] (.int x :: st) h Q := jg_il rfl rfl
theorem s5_30 : jx_Go jxP d 5 30 [l0, l1, l2, l3] st h Q ↔ jx_Go jxP d 5 31 [l0, l1, l2, l3] (.int (nI 1) :: st) h Q := jg_c rfl
theorem s5_31 : jx_Go jxP d 5 31 [l0, l1, l2, l3] (.int y :: .int x :: .ref a :: st) h Q ↔ ∃ q, jx_ai h a = some q ∧ jx_in x q.1 ∧ jx_Go jxP d 5 32 [l0, l1, l2, l3] st (jx_wi h a q.1 (upd q.2 x.toNatClampNeg y)) Q := jg_iw rfl
theorem s5_32 : jx_Go jxP d 5 32 [l0, l1, l2, l3] [] h Q ↔ Q [] h := jx_rt rfl rfl
theorem s5_33 : jx_Go jxP d 5 33 [.ref a, l1, l2, l3] st h Q ↔ jx_Go jxP d 5 34 [.ref a, l1, l2, l3] (.ref a :: st) h Q := jg_al rfl rfl
theorem s5_34 : jx_Go jxP d 5 34 [l0, l1, l2, l3] (.ref a :: st) h Q ↔ ∃ v, jx_fl h a 0 2 = some v ∧ jx_Go jxP d 5 37 [l0, l1, l2, l3] (v :: st) h Q := jg_gf rfl
theorem s5_37 : jx_Go jxP d 5 37 [l0, l1, l2, .int x] st h Q ↔ jx_Go jxP d 5 38 [l0, l1, l2, .int x] (.int x :: st) h Q := jg_il rfl rfl
theorem s5_38 : jx_Go jxP d 5 38 [l0, l1, l2, l3] st h Q ↔ jx_Go jxP d 5 41 [l0, l1, l2, l3] (.int (nI 1000) :: st) h Q := jg_c rfl
theorem s5_41 : jx_Go jxP d 5 41 [l0, l1, l2, l3] (.int y :: .int x :: .ref a :: st) h Q ↔ ∃ q, jx_ai h a = some q ∧ jx_in x q.1 ∧ jx_Go jxP d 5 42 [l0, l1, l2, l3] st (jx_wi h a q.1 (upd q.2 x.toNatClampNeg y)) Q := jg_iw rfl
theorem s5_42 : jx_Go jxP d 5 42 [.ref a, l1, l2, l3] st h Q ↔ jx_Go jxP d 5 43 [.ref a, l1, l2, l3] (.ref a :: st) h Q := jg_al rfl rfl
theorem s5_43 : jx_Go jxP d 5 43 [l0, l1, l2, l3] (.ref a :: st) h Q ↔ ∃ v, jx_fl h a 0 3 = some v ∧ jx_Go jxP d 5 46 [l0, l1, l2, l3] (v :: st) h Q := jg_gf rfl
theorem s5_46 : jx_Go jxP d 5 46 [l0, l1, l2, .int x] st h Q ↔ jx_Go jxP d 5 47 [l0, l1, l2, .int x] (.int x :: st) h Q := jg_il rfl rfl
theorem s5_47 : jx_Go jxP d 5 47 [l0, l1, l2, l3] st h Q ↔ jx_Go jxP d 5 50 [l0, l1, l2, l3] (.int (nI 1000) :: st) h Q := jg_c rfl
theorem s5_50 : jx_Go jxP d 5 50 [l0, l1, l2, l3] (.int y :: .int x :: .ref a :: st) h Q ↔ ∃ q, jx_ai h a = some q ∧ jx_in x q.1 ∧ jx_Go jxP d 5 51 [l0, l1, l2, l3] st (jx_wi h a q.1 (upd q.2 x.toNatClampNeg y)) Q := jg_iw rfl
theorem s5_51 : jx_Go jxP d 5 51 [.ref a, l1, l2, l3] st h Q ↔ jx_Go jxP d 5 52 [.ref a, l1, l2, l3] (.ref a :: st) h Q := jg_al rfl rfl
theorem s5_52 : jx_Go jxP d 5 52 [l0, l1, l2, .int x] st h Q ↔ jx_Go jxP d 5 53 [l0, l1, l2, .int x] (.int x :: st) h Q := jg_il rfl rfl
theorem s5_53 : jx_Go jxP d 5 53 [l0, .int x, l2, l3] st h Q ↔ jx_Go jxP d 5 54 [l0, .int x, l2, l3] (.int x :: st) h Q := jg_il rfl rfl
theorem s5_54 : jx_Go jxP d 5 54 [l0, l1, l2, l3] st h Q ↔ jx_Go jxP d 5 56 [l0, l1, l2, l3] (.int (nI 32) :: st) h Q := jg_c rfl
theorem s5_56 : jx_Go jxP (d + 1) 5 56 [l0, l1, l2, l3] (.int x2 :: .int x1 :: .int x0 :: .ref a :: st) h Q ↔ (st.length ≤ 4 ∧ jx_cl h a = some 0 ∧ jx_Go jxP d 6 0 [.ref a, .int x0, .int x1, .int x2, jx_u, jx_u, jx_u, jx_u, jx_u] [] h (fun s1 h1 => jx_Go jxP (d + 1) 5 59 [l0, l1, l2, l3] (s1 ++ st) h1 Q)) := jg_callV (as := [.int x2, .int x1, .int x0, .ref a]) rfl rfl rfl rfl rfl
theorem s5_59 : jx_Go jxP d 5 59 [.ref a, l1, l2, l3] st h Q ↔ jx_Go jxP d 5 60 [.ref a, l1, l2, l3] (.ref a :: st) h Q := jg_al rfl rfl
theorem s5_60 : jx_Go jxP d 5 60 [l0, l1, l2, .int x] st h Q ↔ jx_Go jxP d 5 61 [l0, l1, l2, .int x] (.int x :: st) h Q := jg_il rfl rfl
theorem s5_61 : jx_Go jxP d 5 61 [l0, l1, .int x, l3] st h Q ↔ jx_Go jxP d 5 62 [l0, l1, .int x, l3] (.int x :: st) h Q := jg_il rfl rfl
theorem s5_62 : jx_Go jxP d 5 62 [l0, l1, l2, l3] st h Q ↔ jx_Go jxP d 5 63 [l0, l1, l2, l3] (.int (nI 1) :: st) h Q := jg_c rfl
theorem s5_63 : jx_Go jxP (d + 1) 5 63 [l0, l1, l2, l3] (.int x2 :: .int x1 :: .int x0 :: .ref a :: st) h Q ↔ (st.length ≤ 4 ∧ jx_cl h a = some 0 ∧ jx_Go jxP d 6 0 [.ref a, .int x0, .int x1, .int x2, jx_u, jx_u, jx_u, jx_u, jx_u] [] h (fun s1 h1 => jx_Go jxP (d + 1) 5 66 [l0, l1, l2, l3] (s1 ++ st) h1 Q)) := jg_callV (as := [.int x2, .int x1, .int x0, .ref a]) rfl rfl rfl rfl rfl
theorem s5_66 : jx_Go jxP d 5 66 [l0, l1, l2, l3] [] h Q ↔ Q [] h := jx_rt rfl rfl
-- 6 TalkBench$Blocks.tryPartings
theorem s6_0 : jx_Go jxP d 6 0 [.ref a, l1, l2, l3, l4, l5, l6, l7, l8] st h Q ↔ jx_Go jxP d 6 1 [.ref a, l1, l2, l3, l4, l5, l6, l7, l8] (.ref a :: st) h Q := jg_al rfl rfl
theorem s6_1 : jx_Go jxP d 6 1 [l0, l1, l2, l3, l4, l5, l6, l7, l8] (.ref a :: st) h Q ↔ ∃ v, jx_fl h a 0 2 = some v ∧ jx_Go jxP d 6 4 [l0, l1, l2, l3, l4, l5, l6, l7, l8] (v :: st) h Q := jg_gf rfl
theorem s6_4 : jx_Go jxP d 6 4 [l0, .int x, l2, l3, l4, l5, l6, l7, l8] st h Q ↔ jx_Go jxP d 6 5 [l0, .int x, l2, l3, l4, l5, l6, l7, l8] (.int x :: st) h Q := jg_il rfl rfl
theorem s6_5 : jx_Go jxP d 6 5 [l0, l1, l2, l3, l4, l5, l6, l7, l8] (.int x :: .ref a :: st) h Q ↔ ∃ q, jx_ai h a = some q ∧ jx_in x q.1 ∧ jx_Go jxP d 6 6 [l0, l1, l2, l3, l4, l5, l6, l7, l8] (.int (q.2 x.toNatClampNeg) :: st) h Q := jg_ia rfl
theorem s6_6 : jx_Go jxP d 6 6 [l0, l1, l2, l3, l4, l5, l6, l7, l8] (.int x :: st) h Q ↔ jx_Go jxP d 6 8 [l0, l1, l2, l3, .int x, l5, l6, l7, l8] st h Q := jg_is rfl rfl
theorem s6_8 : jx_Go jxP d 6 8 [.ref a, l1, l2, l3, l4, l5, l6, l7, l8] st h Q ↔ jx_Go jxP d 6 9 [.ref a, l1, l2, l3, l4, l5, l6, l7, l8] (.ref a :: st) h Q := jg_al rfl rfl
theorem s6_9 : jx_Go jxP d 6 9 [l0, l1, l2, l3, l4, l5, l6, l7, l8] (.ref a :: st) h Q ↔ ∃ v, jx_fl h a 0 3 = some v ∧ jx_Go jxP d 6 12 [l0, l1, l2, l3, l4, l5, l6, l7, l8] (v :: st) h Q := jg_gf rfl
theorem s6_12 : jx_Go jxP d 6 12 [l0, .int x, l2, l3, l4, l5, l6, l7, l8] st h Q ↔ jx_Go jxP d 6 13 [l0, .int x, l2, l3, l4, l5, l6, l7, l8] (.int x :: st) h Q := jg_il rfl rfl
theorem s6_13 : jx_Go jxP d 6 13 [l0, l1, l2, l3, l4, l5, l6, l7, l8] (.int x :: .ref a :: st) h Q ↔ ∃ q, jx_ai h a = some q ∧ jx_in x q.1 ∧ jx_Go jxP d 6 14 [l0, l1, l2, l3, l4, l5, l6, l7, l8] (.int (q.2 x.toNatClampNeg) :: st) h Q := jg_ia rfl
theorem s6_14 : jx_Go jxP d 6 14 [l0, l1, l2, l3, l4, l5, l6, l7, l8] (.int x :: st) h Q ↔ jx_Go jxP d 6 16 [l0, l1, l2, l3, l4, .int x, l6, l7, l8] st h Q := jg_is rfl rfl
theorem s6_16 : jx_Go jxP d 6 16 [.ref a, l1, l2, l3, l4, l5, l6, l7, l8] st h Q ↔ jx_Go jxP d 6 17 [.ref a, l1, l2, l3, l4, l5, l6, l7, l8] (.ref a :: st) h Q := jg_al rfl rfl
theorem s6_17 : jx_Go jxP d 6 17 [l0, l1, l2, l3, l4, l5, l6, l7, l8] (.ref a :: st) h Q ↔ ∃ v, jx_fl h a 0 1 = some v ∧ jx_Go jxP d 6 20 [l0, l1, l2, l3, l4, l5, l6, l7, l8] (v :: st) h Q := jg_gf rfl
theorem s6_20 : jx_Go jxP d 6 20 [l0, l1, l2, l3, l4, l5, l6, l7, l8] (.ref a :: st) h Q ↔ ∃ v, jx_fl h a 5 0 = some v ∧ jx_Go jxP d 6 23 [l0, l1, l2, l3, l4, l5, l6, l7, l8] (v :: st) h Q := jg_gf rfl
theorem s6_23 : jx_Go jxP d 6 23 [l0, l1, .int x, l3, l4, l5, l6, l7, l8] st h Q ↔ jx_Go jxP d 6 24 [l0, l1, .int x, l3, l4, l5, l6, l7, l8] (.int x :: st) h Q := jg_il rfl rfl
theorem s6_24 : jx_Go jxP d 6 24 [l0, l1, l2, l3, l4, l5, l6, l7, l8] (.int x :: .ref a :: st) h Q ↔ ∃ q, jx_ai h a = some q ∧ jx_in x q.1 ∧ jx_Go jxP d 6 25 [l0, l1, l2, l3, l4, l5, l6, l7, l8] (.int (q.2 x.toNatClampNeg) :: st) h Q := jg_ia rfl
theorem s6_25 : jx_Go jxP d 6 25 [l0, l1, l2, l3, l4, l5, l6, l7, l8] (.int x :: st) h Q ↔ jx_Go jxP d 6 27 [l0, l1, l2, l3, l4, l5, .int x, l7, l8] st h Q := jg_is rfl rfl
theorem s6_27 : jx_Go jxP d 6 27 [l0, l1, l2, l3, l4, l5, .int x, l7, l8] st h Q ↔ jx_Go jxP d 6 29 [l0, l1, l2, l3, l4, l5, .int x, l7, l8] (.int x :: st) h Q := jg_il rfl rfl
theorem s6_29 : jx_Go jxP d 6 29 [.ref a, l1, l2, l3, l4, l5, l6, l7, l8] st h Q ↔ jx_Go jxP d 6 30 [.ref a, l1, l2, l3, l4, l5, l6, l7, l8] (.ref a :: st) h Q := jg_al rfl rfl
theorem s6_30 : jx_Go jxP d 6 30 [l0, l1, l2, l3, l4, l5, l6, l7, l8] (.ref a :: st) h Q ↔ ∃ v, jx_fl h a 0 1 = some v ∧ jx_Go jxP d 6 33 [l0, l1, l2, l3, l4, l5, l6, l7, l8] (v :: st) h Q := jg_gf rfl
theorem s6_33 : jx_Go jxP d 6 33 [l0, l1, l2, l3, l4, l5, l6, l7, l8] (.ref a :: st) h Q ↔ ∃ v, jx_fl h a 5 0 = some v ∧ jx_Go jxP d 6 36 [l0, l1, l2, l3, l4, l5, l6, l7, l8] (v :: st) h Q := jg_gf rfl
theorem s6_36 : jx_Go jxP d 6 36 [l0, l1, .int x, l3, l4, l5, l6, l7, l8] st h Q ↔ jx_Go jxP d 6 37 [l0, l1, .int x, l3, l4, l5, l6, l7, l8] (.int x :: st) h Q := jg_il rfl rfl
theorem s6_37 : jx_Go jxP d 6 37 [l0, l1, l2, l3, l4, l5, l6, l7, l8] st h Q ↔ jx_Go jxP d 6 38 [l0, l1, l2, l3, l4, l5, l6, l7, l8] (.int (nI 1) :: st) h Q := jg_c rfl
theorem s6_38 : jx_Go jxP d 6 38 [l0, l1, l2, l3, l4, l5, l6, l7, l8] (.int y :: .int x :: st) h Q ↔ jx_Go jxP d 6 39 [l0, l1, l2, l3, l4, l5, l6, l7, l8] (.int (x + y) :: st) h Q := jg_b (f := fun x y => x + y) rfl
theorem s6_39 : jx_Go jxP d 6 39 [l0, l1, l2, l3, l4, l5, l6, l7, l8] (.int x :: .ref a :: st) h Q ↔ ∃ q, jx_ai h a = some q ∧ jx_in x q.1 ∧ jx_Go jxP d 6 40 [l0, l1, l2, l3, l4, l5, l6, l7, l8] (.int (q.2 x.toNatClampNeg) :: st) h Q := jg_ia rfl
theorem s6_40 : jx_Go jxP d 6 40 [l0, l1, l2, l3, l4, l5, l6, l7, l8] (.int y :: .int x :: st) h Q ↔ if y ≤ x then jx_Go jxP d 6 131 [l0, l1, l2, l3, l4, l5, l6, l7, l8] st h Q else jx_Go jxP d 6 43 [l0, l1, l2, l3, l4, l5, l6, l7, l8] st h Q := jg_icP rfl rfl
theorem s6_43 : jx_Go jxP d 6 43 [l0, .int x, l2, l3, l4, l5, l6, l7, l8] st h Q ↔ jx_Go jxP d 6 44 [l0, .int x, l2, l3, l4, l5, l6, l7, l8] (.int x :: st) h Q := jg_il rfl rfl
theorem s6_44 : jx_Go jxP d 6 44 [.ref a, l1, l2, l3, l4, l5, l6, l7, l8] st h Q ↔ jx_Go jxP d 6 45 [.ref a, l1, l2, l3, l4, l5, l6, l7, l8] (.ref a :: st) h Q := jg_al rfl rfl
theorem s6_45 : jx_Go jxP d 6 45 [l0, l1, l2, l3, l4, l5, l6, l7, l8] (.ref a :: st) h Q ↔ ∃ v, jx_fl h a 0 1 = some v ∧ jx_Go jxP d 6 48 [l0, l1, l2, l3, l4, l5, l6, l7, l8] (v :: st) h Q := jg_gf rfl
theorem s6_48 : jx_Go jxP d 6 48 [l0, l1, l2, l3, l4, l5, l6, l7, l8] (.ref a :: st) h Q ↔ ∃ v, jx_fl h a 5 1 = some v ∧ jx_Go jxP d 6 51 [l0, l1, l2, l3, l4, l5, l6, l7, l8] (v :: st) h Q := jg_gf rfl
theorem s6_51 : jx_Go jxP d 6 51 [l0, l1, l2, l3, l4, l5, .int x, l7, l8] st h Q ↔ jx_Go jxP d 6 53 [l0, l1, l2, l3, l4, l5, .int x, l7, l8] (.int x :: st) h Q := jg_il rfl rfl
theorem s6_53 : jx_Go jxP d 6 53 [l0, l1, l2, l3, l4, l5, l6, l7, l8] (.int x :: .ref a :: st) h Q ↔ ∃ q, jx_ai h a = some q ∧ jx_in x q.1 ∧ jx_Go jxP d 6 54 [l0, l1, l2, l3, l4, l5, l6, l7, l8] (.int (q.2 x.toNatClampNeg) :: st) h Q := jg_ia rfl
theorem s6_54 : jx_Go jxP d 6 54 [l0, l1, l2, .int x, l4, l5, l6, l7, l8] st h Q ↔ jx_Go jxP d 6 55 [l0, l1, l2, .int x, l4, l5, l6, l7, l8] (.int x :: st) h Q := jg_il rfl rfl
theorem s6_55 : jx_Go jxP d 6 55 [l0, l1, l2, l3, l4, l5, l6, l7, l8] (.int y :: .int x :: st) h Q ↔ jx_Go jxP d 6 56 [l0, l1, l2, l3, l4, l5, l6, l7, l8] (.int (x * y) :: st) h Q := jg_b (f := fun x y => x * y) rfl
theorem s6_56 : jx_Go jxP d 6 56 [l0, l1, l2, l3, l4, l5, l6, l7, l8] (.int y :: .int x :: st) h Q ↔ jx_Go jxP d 6 57 [l0, l1, l2, l3, l4, l5, l6, l7, l8] (.int (x - y) :: st) h Q := jg_b (f := fun x y => x - y) rfl
theorem s6_57 : jx_Go jxP d 6 57 [l0, l1, l2, l3, l4, l5, l6, l7, l8] (.int x :: st) h Q ↔ jx_Go jxP d 6 59 [l0, l1, l2, l3, l4, l5, l6, .int x, l8] st h Q := jg_is rfl rfl
theorem s6_59 : jx_Go jxP d 6 59 [l0, .int x, l2, l3, l4, l5, l6, l7, l8] st h Q ↔ jx_Go jxP d 6 60 [l0, .int x, l2, l3, l4, l5, l6, l7, l8] (.int x :: st) h Q := jg_il rfl rfl
theorem s6_60 : jx_Go jxP d 6 60 [l0, l1, .int x, l3, l4, l5, l6, l7, l8] st h Q ↔ jx_Go jxP d 6 61 [l0, l1, .int x, l3, l4, l5, l6, l7, l8] (.int x :: st) h Q := jg_il rfl rfl
theorem s6_61 : jx_Go jxP d 6 61 [.ref a, l1, l2, l3, l4, l5, l6, l7, l8] st h Q ↔ jx_Go jxP d 6 62 [.ref a, l1, l2, l3, l4, l5, l6, l7, l8] (.ref a :: st) h Q := jg_al rfl rfl
theorem s6_62 : jx_Go jxP d 6 62 [l0, l1, l2, l3, l4, l5, l6, l7, l8] (.ref a :: st) h Q ↔ ∃ v, jx_fl h a 0 1 = some v ∧ jx_Go jxP d 6 65 [l0, l1, l2, l3, l4, l5, l6, l7, l8] (v :: st) h Q := jg_gf rfl
theorem s6_65 : jx_Go jxP d 6 65 [l0, l1, l2, l3, l4, l5, l6, l7, l8] (.ref a :: st) h Q ↔ ∃ v, jx_fl h a 5 1 = some v ∧ jx_Go jxP d 6 68 [l0, l1, l2, l3, l4, l5, l6, l7, l8] (v :: st) h Q := jg_gf rfl
theorem s6_68 : jx_Go jxP d 6 68 [l0, l1, l2, l3, l4, l5, .int x, l7, l8] st h Q ↔ jx_Go jxP d 6 70 [l0, l1, l2, l3, l4, l5, .int x, l7, l8] (.int x :: st) h Q := jg_il rfl rfl
theorem s6_70 : jx_Go jxP d 6 70 [l0, l1, l2, l3, l4, l5, l6, l7, l8] (.int x :: .ref a :: st) h Q ↔ ∃ q, jx_ai h a = some q ∧ jx_in x q.1 ∧ jx_Go jxP d 6 71 [l0, l1, l2, l3, l4, l5, l6, l7, l8] (.int (q.2 x.toNatClampNeg) :: st) h Q := jg_ia rfl
theorem s6_71 : jx_Go jxP d 6 71 [l0, l1, l2, l3, l4, l5, l6, l7, l8] (.int y :: .int x :: st) h Q ↔ jx_Go jxP d 6 72 [l0, l1, l2, l3, l4, l5, l6, l7, l8] (.int (x - y) :: st) h Q := jg_b (f := fun x y => x - y) rfl
theorem s6_72 : jx_Go jxP d 6 72 [l0, l1, l2, .int x, l4, l5, l6, l7, l8] st h Q ↔ jx_Go jxP d 6 73 [l0, l1, l2, .int x, l4, l5, l6, l7, l8] (.int x :: st) h Q := jg_il rfl rfl
theorem s6_73 : jx_Go jxP d 6 73 [l0, l1, l2, l3, l4, l5, l6, l7, l8] (.int y :: .int x :: st) h Q ↔ jx_Go jxP d 6 74 [l0, l1, l2, l3, l4, l5, l6, l7, l8] (.int (x * y) :: st) h Q := jg_b (f := fun x y => x * y) rfl
theorem s6_74 : jx_Go jxP d 6 74 [l0, l1, l2, l3, l4, l5, l6, l7, l8] (.int y :: .int x :: st) h Q ↔ jx_Go jxP d 6 75 [l0, l1, l2, l3, l4, l5, l6, l7, l8] (.int (x - y) :: st) h Q := jg_b (f := fun x y => x - y) rfl
theorem s6_75 : jx_Go jxP d 6 75 [l0, l1, l2, l3, l4, l5, l6, l7, l8] (.int x :: st) h Q ↔ jx_Go jxP d 6 77 [l0, l1, l2, l3, l4, l5, l6, l7, .int x] st h Q := jg_is rfl rfl
theorem s6_77 : jx_Go jxP d 6 77 [l0, l1, l2, l3, .int x, l5, l6, l7, l8] st h Q ↔ jx_Go jxP d 6 79 [l0, l1, l2, l3, .int x, l5, l6, l7, l8] (.int x :: st) h Q := jg_il rfl rfl
theorem s6_79 : jx_Go jxP d 6 79 [l0, l1, l2, l3, l4, l5, l6, l7, l8] st h Q ↔ jx_Go jxP d 6 80 [l0, l1, l2, l3, l4, l5, l6, l7, l8] (.int (nI 1) :: st) h Q := jg_c rfl
theorem s6_80 : jx_Go jxP d 6 80 [.ref a, l1, l2, l3, l4, l5, l6, l7, l8] st h Q ↔ jx_Go jxP d 6 81 [.ref a, l1, l2, l3, l4, l5, l6, l7, l8] (.ref a :: st) h Q := jg_al rfl rfl
theorem s6_81 : jx_Go jxP d 6 81 [l0, l1, l2, l3, l4, l5, l6, l7, l8] (.ref a :: st) h Q ↔ ∃ v, jx_fl h a 0 2 = some v ∧ jx_Go jxP d 6 84 [l0, l1, l2, l3, l4, l5, l6, l7, l8] (v :: st) h Q := jg_gf rfl
theorem s6_84 : jx_Go jxP d 6 84 [l0, l1, l2, l3, l4, l5, l6, .int x, l8] st h Q ↔ jx_Go jxP d 6 86 [l0, l1, l2, l3, l4, l5, l6, .int x, l8] (.int x :: st) h Q := jg_il rfl rfl
theorem s6_86 : jx_Go jxP d 6 86 [l0, l1, l2, l3, l4, l5, l6, l7, l8] (.int x :: .ref a :: st) h Q ↔ ∃ q, jx_ai h a = some q ∧ jx_in x q.1 ∧ jx_Go jxP d 6 87 [l0, l1, l2, l3, l4, l5, l6, l7, l8] (.int (q.2 x.toNatClampNeg) :: st) h Q := jg_ia rfl
theorem s6_87 : jx_Go jxP d 6 87 [.ref a, l1, l2, l3, l4, l5, l6, l7, l8] st h Q ↔ jx_Go jxP d 6 88 [.ref a, l1, l2, l3, l4, l5, l6, l7, l8] (.ref a :: st) h Q := jg_al rfl rfl
theorem s6_88 : jx_Go jxP d 6 88 [l0, l1, l2, l3, l4, l5, l6, l7, l8] (.ref a :: st) h Q ↔ ∃ v, jx_fl h a 0 2 = some v ∧ jx_Go jxP d 6 91 [l0, l1, l2, l3, l4, l5, l6, l7, l8] (v :: st) h Q := jg_gf rfl
theorem s6_91 : jx_Go jxP d 6 91 [l0, l1, l2, l3, l4, l5, l6, l7, .int x] st h Q ↔ jx_Go jxP d 6 93 [l0, l1, l2, l3, l4, l5, l6, l7, .int x] (.int x :: st) h Q := jg_il rfl rfl
theorem s6_93 : jx_Go jxP d 6 93 [l0, l1, l2, l3, l4, l5, l6, l7, l8] (.int x :: .ref a :: st) h Q ↔ ∃ q, jx_ai h a = some q ∧ jx_in x q.1 ∧ jx_Go jxP d 6 94 [l0, l1, l2, l3, l4, l5, l6, l7, l8] (.int (q.2 x.toNatClampNeg) :: st) h Q := jg_ia rfl
theorem s6_94 : jx_Go jxP d 6 94 [l0, l1, l2, l3, l4, l5, l6, l7, l8] (.int y :: .int x :: st) h Q ↔ (st.length ≤ 4 ∧ jx_Go jxP d 6 97 [l0, l1, l2, l3, l4, l5, l6, l7, l8] (.int (if x < y then y else x) :: st) h Q) := jg_m2 (f := fun x y => if x < y then y else x) rfl
theorem s6_97 : jx_Go jxP d 6 97 [l0, l1, l2, l3, l4, l5, l6, l7, l8] (.int y :: .int x :: st) h Q ↔ jx_Go jxP d 6 98 [l0, l1, l2, l3, l4, l5, l6, l7, l8] (.int (x + y) :: st) h Q := jg_b (f := fun x y => x + y) rfl
theorem s6_98 : jx_Go jxP d 6 98 [l0, l1, l2, l3, l4, l5, l6, l7, l8] (.int y :: .int x :: st) h Q ↔ (st.length ≤ 4 ∧ jx_Go jxP d 6 101 [l0, l1, l2, l3, l4, l5, l6, l7, l8] (.int (if y < x then y else x) :: st) h Q) := jg_m2 (f := fun x y => if y < x then y else x) rfl
theorem s6_101 : jx_Go jxP d 6 101 [l0, l1, l2, l3, l4, l5, l6, l7, l8] (.int x :: st) h Q ↔ jx_Go jxP d 6 103 [l0, l1, l2, l3, .int x, l5, l6, l7, l8] st h Q := jg_is rfl rfl
theorem s6_103 : jx_Go jxP d 6 103 [l0, l1, l2, l3, l4, .int x, l6, l7, l8] st h Q ↔ jx_Go jxP d 6 105 [l0, l1, l2, l3, l4, .int x, l6, l7, l8] (.int x :: st) h Q := jg_il rfl rfl
theorem s6_105 : jx_Go jxP d 6 105 [.ref a, l1, l2, l3, l4, l5, l6, l7, l8] st h Q ↔ jx_Go jxP d 6 106 [.ref a, l1, l2, l3, l4, l5, l6, l7, l8] (.ref a :: st) h Q := jg_al rfl rfl
theorem s6_106 : jx_Go jxP d 6 106 [l0, l1, l2, l3, l4, l5, l6, l7, l8] (.ref a :: st) h Q ↔ ∃ v, jx_fl h a 0 3 = some v ∧ jx_Go jxP d 6 109 [l0, l1, l2, l3, l4, l5, l6, l7, l8] (v :: st) h Q := jg_gf rfl
theorem s6_109 : jx_Go jxP d 6 109 [l0, l1, l2, l3, l4, l5, l6, .int x, l8] st h Q ↔ jx_Go jxP d 6 111 [l0, l1, l2, l3, l4, l5, l6, .int x, l8] (.int x :: st) h Q := jg_il rfl rfl
theorem s6_111 : jx_Go jxP d 6 111 [l0, l1, l2, l3, l4, l5, l6, l7, l8] (.int x :: .ref a :: st) h Q ↔ ∃ q, jx_ai h a = some q ∧ jx_in x q.1 ∧ jx_Go jxP d 6 112 [l0, l1, l2, l3, l4, l5, l6, l7, l8] (.int (q.2 x.toNatClampNeg) :: st) h Q := jg_ia rfl
theorem s6_112 : jx_Go jxP d 6 112 [.ref a, l1, l2, l3, l4, l5, l6, l7, l8] st h Q ↔ jx_Go jxP d 6 113 [.ref a, l1, l2, l3, l4, l5, l6, l7, l8] (.ref a :: st) h Q := jg_al rfl rfl
theorem s6_113 : jx_Go jxP d 6 113 [l0, l1, l2, l3, l4, l5, l6, l7, l8] (.ref a :: st) h Q ↔ ∃ v, jx_fl h a 0 3 = some v ∧ jx_Go jxP d 6 116 [l0, l1, l2, l3, l4, l5, l6, l7, l8] (v :: st) h Q := jg_gf rfl
theorem s6_116 : jx_Go jxP d 6 116 [l0, l1, l2, l3, l4, l5, l6, l7, .int x] st h Q ↔ jx_Go jxP d 6 118 [l0, l1, l2, l3, l4, l5, l6, l7, .int x] (.int x :: st) h Q := jg_il rfl rfl
theorem s6_118 : jx_Go jxP d 6 118 [l0, l1, l2, l3, l4, l5, l6, l7, l8] (.int x :: .ref a :: st) h Q ↔ ∃ q, jx_ai h a = some q ∧ jx_in x q.1 ∧ jx_Go jxP d 6 119 [l0, l1, l2, l3, l4, l5, l6, l7, l8] (.int (q.2 x.toNatClampNeg) :: st) h Q := jg_ia rfl
theorem s6_119 : jx_Go jxP d 6 119 [l0, l1, l2, l3, l4, l5, l6, l7, l8] (.int y :: .int x :: st) h Q ↔ jx_Go jxP d 6 120 [l0, l1, l2, l3, l4, l5, l6, l7, l8] (.int (x + y) :: st) h Q := jg_b (f := fun x y => x + y) rfl
theorem s6_120 : jx_Go jxP d 6 120 [l0, l1, l2, l3, l4, l5, l6, l7, l8] (.int y :: .int x :: st) h Q ↔ (st.length ≤ 4 ∧ jx_Go jxP d 6 123 [l0, l1, l2, l3, l4, l5, l6, l7, l8] (.int (if y < x then y else x) :: st) h Q) := jg_m2 (f := fun x y => if y < x then y else x) rfl
theorem s6_123 : jx_Go jxP d 6 123 [l0, l1, l2, l3, l4, l5, l6, l7, l8] (.int x :: st) h Q ↔ jx_Go jxP d 6 125 [l0, l1, l2, l3, l4, .int x, l6, l7, l8] st h Q := jg_is rfl rfl
theorem s6_125 : jx_Go jxP d 6 125 [l0, l1, l2, l3, l4, l5, .int x, l7, l8] st h Q ↔ jx_Go jxP d 6 128 [l0, l1, l2, l3, l4, l5, .int (x + (nI 1)), l7, l8] st h Q := jg_inc rfl rfl rfl
theorem s6_128 : jx_Go jxP d 6 128 [l0, l1, l2, l3, l4, l5, l6, l7, l8] st h Q ↔ jx_Go jxP d 6 27 [l0, l1, l2, l3, l4, l5, l6, l7, l8] st h Q := jg_go rfl
theorem s6_131 : jx_Go jxP d 6 131 [.ref a, l1, l2, l3, l4, l5, l6, l7, l8] st h Q ↔ jx_Go jxP d 6 132 [.ref a, l1, l2, l3, l4, l5, l6, l7, l8] (.ref a :: st) h Q := jg_al rfl rfl
theorem s6_132 : jx_Go jxP d 6 132 [l0, l1, l2, l3, l4, l5, l6, l7, l8] (.ref a :: st) h Q ↔ ∃ v, jx_fl h a 0 2 = some v ∧ jx_Go jxP d 6 135 [l0, l1, l2, l3, l4, l5, l6, l7, l8] (v :: st) h Q := jg_gf rfl
theorem s6_135 : jx_Go jxP d 6 135 [l0, .int x, l2, l3, l4, l5, l6, l7, l8] st h Q ↔ jx_Go jxP d 6 136 [l0, .int x, l2, l3, l4, l5, l6, l7, l8] (.int x :: st) h Q := jg_il rfl rfl
theorem s6_136 : jx_Go jxP d 6 136 [l0, l1, l2, l3, .int x, l5, l6, l7, l8] st h Q ↔ jx_Go jxP d 6 138 [l0, l1, l2, l3, .int x, l5, l6, l7, l8] (.int x :: st) h Q := jg_il rfl rfl
theorem s6_138 : jx_Go jxP d 6 138 [l0, l1, l2, l3, l4, l5, l6, l7, l8] (.int y :: .int x :: .ref a :: st) h Q ↔ ∃ q, jx_ai h a = some q ∧ jx_in x q.1 ∧ jx_Go jxP d 6 139 [l0, l1, l2, l3, l4, l5, l6, l7, l8] st (jx_wi h a q.1 (upd q.2 x.toNatClampNeg y)) Q := jg_iw rfl
theorem s6_139 : jx_Go jxP d 6 139 [.ref a, l1, l2, l3, l4, l5, l6, l7, l8] st h Q ↔ jx_Go jxP d 6 140 [.ref a, l1, l2, l3, l4, l5, l6, l7, l8] (.ref a :: st) h Q := jg_al rfl rfl
theorem s6_140 : jx_Go jxP d 6 140 [l0, l1, l2, l3, l4, l5, l6, l7, l8] (.ref a :: st) h Q ↔ ∃ v, jx_fl h a 0 3 = some v ∧ jx_Go jxP d 6 143 [l0, l1, l2, l3, l4, l5, l6, l7, l8] (v :: st) h Q := jg_gf rfl
theorem s6_143 : jx_Go jxP d 6 143 [l0, .int x, l2, l3, l4, l5, l6, l7, l8] st h Q ↔ jx_Go jxP d 6 144 [l0, .int x, l2, l3, l4, l5, l6, l7, l8] (.int x :: st) h Q := jg_il rfl rfl
theorem s6_144 : jx_Go jxP d 6 144 [l0, l1, l2, l3, l4, .int x, l6, l7, l8] st h Q ↔ jx_Go jxP d 6 146 [l0, l1, l2, l3, l4, .int x, l6, l7, l8] (.int x :: st) h Q := jg_il rfl rfl
theorem s6_146 : jx_Go jxP d 6 146 [l0, l1, l2, l3, l4, l5, l6, l7, l8] (.int y :: .int x :: .ref a :: st) h Q ↔ ∃ q, jx_ai h a = some q ∧ jx_in x q.1 ∧ jx_Go jxP d 6 147 [l0, l1, l2, l3, l4, l5, l6, l7, l8] st (jx_wi h a q.1 (upd q.2 x.toNatClampNeg y)) Q := jg_iw rfl
theorem s6_147 : jx_Go jxP d 6 147 [l0, l1, l2, l3, l4, l5, l6, l7, l8] [] h Q ↔ Q [] h := jx_rt rfl rfl
-- 7 TalkBench$Blocks.bestParting
theorem s7_0 : jx_Go jxP d 7 0 [.ref a, l1, l2, l3, l4, l5] st h Q ↔ jx_Go jxP d 7 1 [.ref a, l1, l2, l3, l4, l5] (.ref a :: st) h Q := jg_al rfl rfl
theorem s7_1 : jx_Go jxP (d + 1) 7 1 [l0, l1, l2, l3, l4, l5] (.ref a :: st) h Q ↔ (st.length ≤ 4 ∧ jx_cl h a = some 0 ∧ jx_Go jxP d 4 0 [.ref a, jx_u, jx_u] [] h (fun s1 h1 => jx_Go jxP (d + 1) 7 4 [l0, l1, l2, l3, l4, l5] (s1 ++ st) h1 Q)) := jg_callV (as := [.ref a]) rfl rfl rfl rfl rfl
theorem s7_4 : jx_Go jxP d 7 4 [l0, .int x, l2, l3, l4, l5] st h Q ↔ jx_Go jxP d 7 5 [l0, .int x, l2, l3, l4, l5] (.int x :: st) h Q := jg_il rfl rfl
theorem s7_5 : jx_Go jxP d 7 5 [l0, l1, .int x, l3, l4, l5] st h Q ↔ jx_Go jxP d 7 6 [l0, l1, .int x, l3, l4, l5] (.int x :: st) h Q := jg_il rfl rfl
theorem s7_6 : jx_Go jxP (d + 1) 7 6 [l0, l1, l2, l3, l4, l5] (.int x1 :: .int x0 :: st) h Q ↔ (st.length ≤ 4 ∧ jx_Go jxP d 128 0 [.int x0, .int x1] [] h (fun s1 h1 => jx_Go jxP (d + 1) 7 9 [l0, l1, l2, l3, l4, l5] (s1 ++ st) h1 Q)) := jg_callS (as := [.int x1, .int x0]) rfl rfl rfl rfl
theorem s7_9 : jx_Go jxP d 7 9 [l0, l1, l2, l3, l4, l5] (.int x :: st) h Q ↔ jx_Go jxP d 7 10 [l0, l1, l2, .int x, l4, l5] st h Q := jg_is rfl rfl
theorem s7_10 : jx_Go jxP d 7 10 [.ref a, l1, l2, l3, l4, l5] st h Q ↔ jx_Go jxP d 7 11 [.ref a, l1, l2, l3, l4, l5] (.ref a :: st) h Q := jg_al rfl rfl
theorem s7_11 : jx_Go jxP d 7 11 [l0, l1, l2, .int x, l4, l5] st h Q ↔ jx_Go jxP d 7 12 [l0, l1, l2, .int x, l4, l5] (.int x :: st) h Q := jg_il rfl rfl
theorem s7_12 : jx_Go jxP d 7 12 [l0, .int x, l2, l3, l4, l5] st h Q ↔ jx_Go jxP d 7 13 [l0, .int x, l2, l3, l4, l5] (.int x :: st) h Q := jg_il rfl rfl
theorem s7_13 : jx_Go jxP d 7 13 [l0, l1, l2, l3, l4, l5] st h Q ↔ jx_Go jxP d 7 15 [l0, l1, l2, l3, l4, l5] (.int (nI 32) :: st) h Q := jg_c rfl
theorem s7_15 : jx_Go jxP (d + 1) 7 15 [l0, l1, l2, l3, l4, l5] (.int x2 :: .int x1 :: .int x0 :: .ref a :: st) h Q ↔ (st.length ≤ 4 ∧ jx_cl h a = some 0 ∧ jx_Go jxP d 8 0 [.ref a, .int x0, .int x1, .int x2, jx_u, jx_u, jx_u] [] h (fun s1 h1 => jx_Go jxP (d + 1) 7 18 [l0, l1, l2, l3, l4, l5] (s1 ++ st) h1 Q)) := jg_callV (as := [.int x2, .int x1, .int x0, .ref a]) rfl rfl rfl rfl rfl
theorem s7_18 : jx_Go jxP d 7 18 [l0, l1, l2, l3, l4, l5] (.int x :: st) h Q ↔ jx_Go jxP d 7 20 [l0, l1, l2, l3, .int x, l5] st h Q := jg_is rfl rfl
theorem s7_20 : jx_Go jxP d 7 20 [l0, l1, l2, l3, .int x, l5] st h Q ↔ jx_Go jxP d 7 22 [l0, l1, l2, l3, .int x, l5] (.int x :: st) h Q := jg_il rfl rfl
theorem s7_22 : jx_Go jxP d 7 22 [l0, l1, l2, l3, l4, l5] (.int x :: st) h Q ↔ if x = 0 then jx_Go jxP d 7 28 [l0, l1, l2, l3, l4, l5] st h Q else jx_Go jxP d 7 25 [l0, l1, l2, l3, l4, l5] st h Q := jg_ifP rfl rfl
theorem s7_25 : jx_Go jxP d 7 25 [l0, l1, l2, l3, .int x, l5] st h Q ↔ jx_Go jxP d 7 27 [l0, l1, l2, l3, .int x, l5] (.int x :: st) h Q := jg_il rfl rfl
theorem s7_27 : jx_Go jxP d 7 27 [l0, l1, l2, l3, l4, l5] [.int x] h Q ↔ Q [.int x] h := jx_rt rfl rfl
theorem s7_28 : jx_Go jxP d 7 28 [.ref a, l1, l2, l3, l4, l5] st h Q ↔ jx_Go jxP d 7 29 [.ref a, l1, l2, l3, l4, l5] (.ref a :: st) h Q := jg_al rfl rfl
theorem s7_29 : jx_Go jxP d 7 29 [l0, l1, l2, .int x, l4, l5] st h Q ↔ jx_Go jxP d 7 30 [l0, l1, l2, .int x, l4, l5] (.int x :: st) h Q := jg_il rfl rfl
theorem s7_30 : jx_Go jxP d 7 30 [l0, l1, .int x, l3, l4, l5] st h Q ↔ jx_Go jxP d 7 31 [l0, l1, .int x, l3, l4, l5] (.int x :: st) h Q := jg_il rfl rfl
theorem s7_31 : jx_Go jxP d 7 31 [l0, l1, l2, l3, l4, l5] st h Q ↔ jx_Go jxP d 7 32 [l0, l1, l2, l3, l4, l5] (.int (nI 1) :: st) h Q := jg_c rfl
theorem s7_32 : jx_Go jxP (d + 1) 7 32 [l0, l1, l2, l3, l4, l5] (.int x2 :: .int x1 :: .int x0 :: .ref a :: st) h Q ↔ (st.length ≤ 4 ∧ jx_cl h a = some 0 ∧ jx_Go jxP d 8 0 [.ref a, .int x0, .int x1, .int x2, jx_u, jx_u, jx_u] [] h (fun s1 h1 => jx_Go jxP (d + 1) 7 35 [l0, l1, l2, l3, l4, l5] (s1 ++ st) h1 Q)) := jg_callV (as := [.int x2, .int x1, .int x0, .ref a]) rfl rfl rfl rfl rfl
theorem s7_35 : jx_Go jxP d 7 35 [l0, l1, l2, l3, l4, l5] (.int x :: st) h Q ↔ jx_Go jxP d 7 37 [l0, l1, l2, l3, l4, .int x] st h Q := jg_is rfl rfl
theorem s7_37 : jx_Go jxP d 7 37 [l0, l1, l2, l3, l4, .int x] st h Q ↔ jx_Go jxP d 7 39 [l0, l1, l2, l3, l4, .int x] (.int x :: st) h Q := jg_il rfl rfl
theorem s7_39 : jx_Go jxP d 7 39 [l0, l1, l2, l3, l4, l5] (.int x :: st) h Q ↔ if x = 0 then jx_Go jxP d 7 42 [l0, l1, l2, l3, l4, l5] st h Q else jx_Go jxP d 7 46 [l0, l1, l2, l3, l4, l5] st h Q := jg_ifN rfl rfl
theorem s7_42 : jx_Go jxP d 7 42 [l0, l1, l2, l3, l4, l5] st h Q ↔ jx_Go jxP d 7 43 [l0, l1, l2, l3, l4, l5] (.int (nI 0) :: st) h Q := jg_c rfl
theorem s7_43 : jx_Go jxP d 7 43 [l0, l1, l2, l3, l4, l5] st h Q ↔ jx_Go jxP d 7 51 [l0, l1, l2, l3, l4, l5] st h Q := jg_go rfl
theorem s7_46 : jx_Go jxP d 7 46 [l0, l1, l2, l3, l4, l5] st h Q ↔ jx_Go jxP d 7 48 [l0, l1, l2, l3, l4, l5] (.int (nI 32) :: st) h Q := jg_c rfl
theorem s7_48 : jx_Go jxP d 7 48 [l0, l1, l2, l3, l4, .int x] st h Q ↔ jx_Go jxP d 7 50 [l0, l1, l2, l3, l4, .int x] (.int x :: st) h Q := jg_il rfl rfl
theorem s7_50 : jx_Go jxP d 7 50 [l0, l1, l2, l3, l4, l5] (.int y :: .int x :: st) h Q ↔ jx_Go jxP d 7 51 [l0, l1, l2, l3, l4, l5] (.int (x + y) :: st) h Q := jg_b (f := fun x y => x + y) rfl
theorem s7_51 : jx_Go jxP d 7 51 [l0, l1, l2, l3, l4, l5] [.int x] h Q ↔ Q [.int x] h := jx_rt rfl rfl
-- 8 TalkBench$Blocks.firstBest
theorem s8_0 : jx_Go jxP d 8 0 [.ref a, l1, l2, l3, l4, l5, l6] st h Q ↔ jx_Go jxP d 8 1 [.ref a, l1, l2, l3, l4, l5, l6] (.ref a :: st) h Q := jg_al rfl rfl
theorem s8_1 : jx_Go jxP d 8 1 [l0, l1, l2, l3, l4, l5, l6] (.ref a :: st) h Q ↔ ∃ v, jx_fl h a 0 1 = some v ∧ jx_Go jxP d 8 4 [l0, l1, l2, l3, l4, l5, l6] (v :: st) h Q := jg_gf rfl
theorem s8_4 : jx_Go jxP d 8 4 [l0, l1, l2, l3, l4, l5, l6] (.ref a :: st) h Q ↔ ∃ v, jx_fl h a 5 0 = some v ∧ jx_Go jxP d 8 7 [l0, l1, l2, l3, l4, l5, l6] (v :: st) h Q := jg_gf rfl
theorem s8_7 : jx_Go jxP d 8 7 [l0, l1, .int x, l3, l4, l5, l6] st h Q ↔ jx_Go jxP d 8 8 [l0, l1, .int x, l3, l4, l5, l6] (.int x :: st) h Q := jg_il rfl rfl
theorem s8_8 : jx_Go jxP d 8 8 [l0, l1, l2, l3, l4, l5, l6] (.int x :: .ref a :: st) h Q ↔ ∃ q, jx_ai h a = some q ∧ jx_in x q.1 ∧ jx_Go jxP d 8 9 [l0, l1, l2, l3, l4, l5, l6] (.int (q.2 x.toNatClampNeg) :: st) h Q := jg_ia rfl
theorem s8_9 : jx_Go jxP d 8 9 [l0, l1, l2, l3, l4, l5, l6] (.int x :: st) h Q ↔ jx_Go jxP d 8 11 [l0, l1, l2, l3, .int x, l5, l6] st h Q := jg_is rfl rfl
theorem s8_11 : jx_Go jxP d 8 11 [l0, l1, l2, l3, .int x, l5, l6] st h Q ↔ jx_Go jxP d 8 13 [l0, l1, l2, l3, .int x, l5, l6] (.int x :: st) h Q := jg_il rfl rfl
theorem s8_13 : jx_Go jxP d 8 13 [.ref a, l1, l2, l3, l4, l5, l6] st h Q ↔ jx_Go jxP d 8 14 [.ref a, l1, l2, l3, l4, l5, l6] (.ref a :: st) h Q := jg_al rfl rfl
theorem s8_14 : jx_Go jxP d 8 14 [l0, l1, l2, l3, l4, l5, l6] (.ref a :: st) h Q ↔ ∃ v, jx_fl h a 0 1 = some v ∧ jx_Go jxP d 8 17 [l0, l1, l2, l3, l4, l5, l6] (v :: st) h Q := jg_gf rfl
theorem s8_17 : jx_Go jxP d 8 17 [l0, l1, l2, l3, l4, l5, l6] (.ref a :: st) h Q ↔ ∃ v, jx_fl h a 5 0 = some v ∧ jx_Go jxP d 8 20 [l0, l1, l2, l3, l4, l5, l6] (v :: st) h Q := jg_gf rfl
theorem s8_20 : jx_Go jxP d 8 20 [l0, l1, .int x, l3, l4, l5, l6] st h Q ↔ jx_Go jxP d 8 21 [l0, l1, .int x, l3, l4, l5, l6] (.int x :: st) h Q := jg_il rfl rfl
theorem s8_21 : jx_Go jxP d 8 21 [l0, l1, l2, l3, l4, l5, l6] st h Q ↔ jx_Go jxP d 8 22 [l0, l1, l2, l3, l4, l5, l6] (.int (nI 1) :: st) h Q := jg_c rfl
theorem s8_22 : jx_Go jxP d 8 22 [l0, l1, l2, l3, l4, l5, l6] (.int y :: .int x :: st) h Q ↔ jx_Go jxP d 8 23 [l0, l1, l2, l3, l4, l5, l6] (.int (x + y) :: st) h Q := jg_b (f := fun x y => x + y) rfl
theorem s8_23 : jx_Go jxP d 8 23 [l0, l1, l2, l3, l4, l5, l6] (.int x :: .ref a :: st) h Q ↔ ∃ q, jx_ai h a = some q ∧ jx_in x q.1 ∧ jx_Go jxP d 8 24 [l0, l1, l2, l3, l4, l5, l6] (.int (q.2 x.toNatClampNeg) :: st) h Q := jg_ia rfl
theorem s8_24 : jx_Go jxP d 8 24 [l0, l1, l2, l3, l4, l5, l6] (.int y :: .int x :: st) h Q ↔ if y ≤ x then jx_Go jxP d 8 110 [l0, l1, l2, l3, l4, l5, l6] st h Q else jx_Go jxP d 8 27 [l0, l1, l2, l3, l4, l5, l6] st h Q := jg_icP rfl rfl
theorem s8_27 : jx_Go jxP d 8 27 [l0, .int x, l2, l3, l4, l5, l6] st h Q ↔ jx_Go jxP d 8 28 [l0, .int x, l2, l3, l4, l5, l6] (.int x :: st) h Q := jg_il rfl rfl
theorem s8_28 : jx_Go jxP d 8 28 [.ref a, l1, l2, l3, l4, l5, l6] st h Q ↔ jx_Go jxP d 8 29 [.ref a, l1, l2, l3, l4, l5, l6] (.ref a :: st) h Q := jg_al rfl rfl
theorem s8_29 : jx_Go jxP d 8 29 [l0, l1, l2, l3, l4, l5, l6] (.ref a :: st) h Q ↔ ∃ v, jx_fl h a 0 1 = some v ∧ jx_Go jxP d 8 32 [l0, l1, l2, l3, l4, l5, l6] (v :: st) h Q := jg_gf rfl
theorem s8_32 : jx_Go jxP d 8 32 [l0, l1, l2, l3, l4, l5, l6] (.ref a :: st) h Q ↔ ∃ v, jx_fl h a 5 1 = some v ∧ jx_Go jxP d 8 35 [l0, l1, l2, l3, l4, l5, l6] (v :: st) h Q := jg_gf rfl
theorem s8_35 : jx_Go jxP d 8 35 [l0, l1, l2, l3, .int x, l5, l6] st h Q ↔ jx_Go jxP d 8 37 [l0, l1, l2, l3, .int x, l5, l6] (.int x :: st) h Q := jg_il rfl rfl
theorem s8_37 : jx_Go jxP d 8 37 [l0, l1, l2, l3, l4, l5, l6] (.int x :: .ref a :: st) h Q ↔ ∃ q, jx_ai h a = some q ∧ jx_in x q.1 ∧ jx_Go jxP d 8 38 [l0, l1, l2, l3, l4, l5, l6] (.int (q.2 x.toNatClampNeg) :: st) h Q := jg_ia rfl
theorem s8_38 : jx_Go jxP d 8 38 [l0, l1, l2, .int x, l4, l5, l6] st h Q ↔ jx_Go jxP d 8 39 [l0, l1, l2, .int x, l4, l5, l6] (.int x :: st) h Q := jg_il rfl rfl
theorem s8_39 : jx_Go jxP d 8 39 [l0, l1, l2, l3, l4, l5, l6] (.int y :: .int x :: st) h Q ↔ jx_Go jxP d 8 40 [l0, l1, l2, l3, l4, l5, l6] (.int (x * y) :: st) h Q := jg_b (f := fun x y => x * y) rfl
theorem s8_40 : jx_Go jxP d 8 40 [l0, l1, l2, l3, l4, l5, l6] (.int y :: .int x :: st) h Q ↔ jx_Go jxP d 8 41 [l0, l1, l2, l3, l4, l5, l6] (.int (x - y) :: st) h Q := jg_b (f := fun x y => x - y) rfl
theorem s8_41 : jx_Go jxP d 8 41 [l0, l1, l2, l3, l4, l5, l6] (.int x :: st) h Q ↔ jx_Go jxP d 8 43 [l0, l1, l2, l3, l4, .int x, l6] st h Q := jg_is rfl rfl
theorem s8_43 : jx_Go jxP d 8 43 [l0, .int x, l2, l3, l4, l5, l6] st h Q ↔ jx_Go jxP d 8 44 [l0, .int x, l2, l3, l4, l5, l6] (.int x :: st) h Q := jg_il rfl rfl
theorem s8_44 : jx_Go jxP d 8 44 [l0, l1, .int x, l3, l4, l5, l6] st h Q ↔ jx_Go jxP d 8 45 [l0, l1, .int x, l3, l4, l5, l6] (.int x :: st) h Q := jg_il rfl rfl
theorem s8_45 : jx_Go jxP d 8 45 [.ref a, l1, l2, l3, l4, l5, l6] st h Q ↔ jx_Go jxP d 8 46 [.ref a, l1, l2, l3, l4, l5, l6] (.ref a :: st) h Q := jg_al rfl rfl
theorem s8_46 : jx_Go jxP d 8 46 [l0, l1, l2, l3, l4, l5, l6] (.ref a :: st) h Q ↔ ∃ v, jx_fl h a 0 1 = some v ∧ jx_Go jxP d 8 49 [l0, l1, l2, l3, l4, l5, l6] (v :: st) h Q := jg_gf rfl
theorem s8_49 : jx_Go jxP d 8 49 [l0, l1, l2, l3, l4, l5, l6] (.ref a :: st) h Q ↔ ∃ v, jx_fl h a 5 1 = some v ∧ jx_Go jxP d 8 52 [l0, l1, l2, l3, l4, l5, l6] (v :: st) h Q := jg_gf rfl
theorem s8_52 : jx_Go jxP d 8 52 [l0, l1, l2, l3, .int x, l5, l6] st h Q ↔ jx_Go jxP d 8 54 [l0, l1, l2, l3, .int x, l5, l6] (.int x :: st) h Q := jg_il rfl rfl
theorem s8_54 : jx_Go jxP d 8 54 [l0, l1, l2, l3, l4, l5, l6] (.int x :: .ref a :: st) h Q ↔ ∃ q, jx_ai h a = some q ∧ jx_in x q.1 ∧ jx_Go jxP d 8 55 [l0, l1, l2, l3, l4, l5, l6] (.int (q.2 x.toNatClampNeg) :: st) h Q := jg_ia rfl
theorem s8_55 : jx_Go jxP d 8 55 [l0, l1, l2, l3, l4, l5, l6] (.int y :: .int x :: st) h Q ↔ jx_Go jxP d 8 56 [l0, l1, l2, l3, l4, l5, l6] (.int (x - y) :: st) h Q := jg_b (f := fun x y => x - y) rfl
theorem s8_56 : jx_Go jxP d 8 56 [l0, l1, l2, .int x, l4, l5, l6] st h Q ↔ jx_Go jxP d 8 57 [l0, l1, l2, .int x, l4, l5, l6] (.int x :: st) h Q := jg_il rfl rfl
theorem s8_57 : jx_Go jxP d 8 57 [l0, l1, l2, l3, l4, l5, l6] (.int y :: .int x :: st) h Q ↔ jx_Go jxP d 8 58 [l0, l1, l2, l3, l4, l5, l6] (.int (x * y) :: st) h Q := jg_b (f := fun x y => x * y) rfl
theorem s8_58 : jx_Go jxP d 8 58 [l0, l1, l2, l3, l4, l5, l6] (.int y :: .int x :: st) h Q ↔ jx_Go jxP d 8 59 [l0, l1, l2, l3, l4, l5, l6] (.int (x - y) :: st) h Q := jg_b (f := fun x y => x - y) rfl
theorem s8_59 : jx_Go jxP d 8 59 [l0, l1, l2, l3, l4, l5, l6] (.int x :: st) h Q ↔ jx_Go jxP d 8 61 [l0, l1, l2, l3, l4, l5, .int x] st h Q := jg_is rfl rfl
theorem s8_61 : jx_Go jxP d 8 61 [.ref a, l1, l2, l3, l4, l5, l6] st h Q ↔ jx_Go jxP d 8 62 [.ref a, l1, l2, l3, l4, l5, l6] (.ref a :: st) h Q := jg_al rfl rfl
theorem s8_62 : jx_Go jxP d 8 62 [l0, l1, l2, l3, l4, l5, l6] (.ref a :: st) h Q ↔ ∃ v, jx_fl h a 0 2 = some v ∧ jx_Go jxP d 8 65 [l0, l1, l2, l3, l4, l5, l6] (v :: st) h Q := jg_gf rfl
theorem s8_65 : jx_Go jxP d 8 65 [l0, l1, l2, l3, l4, .int x, l6] st h Q ↔ jx_Go jxP d 8 67 [l0, l1, l2, l3, l4, .int x, l6] (.int x :: st) h Q := jg_il rfl rfl
theorem s8_67 : jx_Go jxP d 8 67 [l0, l1, l2, l3, l4, l5, l6] (.int x :: .ref a :: st) h Q ↔ ∃ q, jx_ai h a = some q ∧ jx_in x q.1 ∧ jx_Go jxP d 8 68 [l0, l1, l2, l3, l4, l5, l6] (.int (q.2 x.toNatClampNeg) :: st) h Q := jg_ia rfl
theorem s8_68 : jx_Go jxP d 8 68 [.ref a, l1, l2, l3, l4, l5, l6] st h Q ↔ jx_Go jxP d 8 69 [.ref a, l1, l2, l3, l4, l5, l6] (.ref a :: st) h Q := jg_al rfl rfl
theorem s8_69 : jx_Go jxP d 8 69 [l0, l1, l2, l3, l4, l5, l6] (.ref a :: st) h Q ↔ ∃ v, jx_fl h a 0 2 = some v ∧ jx_Go jxP d 8 72 [l0, l1, l2, l3, l4, l5, l6] (v :: st) h Q := jg_gf rfl
theorem s8_72 : jx_Go jxP d 8 72 [l0, .int x, l2, l3, l4, l5, l6] st h Q ↔ jx_Go jxP d 8 73 [l0, .int x, l2, l3, l4, l5, l6] (.int x :: st) h Q := jg_il rfl rfl
theorem s8_73 : jx_Go jxP d 8 73 [l0, l1, l2, l3, l4, l5, l6] (.int x :: .ref a :: st) h Q ↔ ∃ q, jx_ai h a = some q ∧ jx_in x q.1 ∧ jx_Go jxP d 8 74 [l0, l1, l2, l3, l4, l5, l6] (.int (q.2 x.toNatClampNeg) :: st) h Q := jg_ia rfl
theorem s8_74 : jx_Go jxP d 8 74 [l0, l1, l2, l3, l4, l5, l6] (.int y :: .int x :: st) h Q ↔ if y ≤ x then jx_Go jxP d 8 104 [l0, l1, l2, l3, l4, l5, l6] st h Q else jx_Go jxP d 8 77 [l0, l1, l2, l3, l4, l5, l6] st h Q := jg_icP rfl rfl
theorem s8_77 : jx_Go jxP d 8 77 [.ref a, l1, l2, l3, l4, l5, l6] st h Q ↔ jx_Go jxP d 8 78 [.ref a, l1, l2, l3, l4, l5, l6] (.ref a :: st) h Q := jg_al rfl rfl
theorem s8_78 : jx_Go jxP d 8 78 [l0, l1, l2, l3, l4, l5, l6] (.ref a :: st) h Q ↔ ∃ v, jx_fl h a 0 2 = some v ∧ jx_Go jxP d 8 81 [l0, l1, l2, l3, l4, l5, l6] (v :: st) h Q := jg_gf rfl
theorem s8_81 : jx_Go jxP d 8 81 [l0, l1, l2, l3, l4, l5, .int x] st h Q ↔ jx_Go jxP d 8 83 [l0, l1, l2, l3, l4, l5, .int x] (.int x :: st) h Q := jg_il rfl rfl
theorem s8_83 : jx_Go jxP d 8 83 [l0, l1, l2, l3, l4, l5, l6] (.int x :: .ref a :: st) h Q ↔ ∃ q, jx_ai h a = some q ∧ jx_in x q.1 ∧ jx_Go jxP d 8 84 [l0, l1, l2, l3, l4, l5, l6] (.int (q.2 x.toNatClampNeg) :: st) h Q := jg_ia rfl
theorem s8_84 : jx_Go jxP d 8 84 [.ref a, l1, l2, l3, l4, l5, l6] st h Q ↔ jx_Go jxP d 8 85 [.ref a, l1, l2, l3, l4, l5, l6] (.ref a :: st) h Q := jg_al rfl rfl
theorem s8_85 : jx_Go jxP d 8 85 [l0, l1, l2, l3, l4, l5, l6] (.ref a :: st) h Q ↔ ∃ v, jx_fl h a 0 2 = some v ∧ jx_Go jxP d 8 88 [l0, l1, l2, l3, l4, l5, l6] (v :: st) h Q := jg_gf rfl
theorem s8_88 : jx_Go jxP d 8 88 [l0, .int x, l2, l3, l4, l5, l6] st h Q ↔ jx_Go jxP d 8 89 [l0, .int x, l2, l3, l4, l5, l6] (.int x :: st) h Q := jg_il rfl rfl
theorem s8_89 : jx_Go jxP d 8 89 [l0, l1, l2, l3, l4, l5, l6] (.int x :: .ref a :: st) h Q ↔ ∃ q, jx_ai h a = some q ∧ jx_in x q.1 ∧ jx_Go jxP d 8 90 [l0, l1, l2, l3, l4, l5, l6] (.int (q.2 x.toNatClampNeg) :: st) h Q := jg_ia rfl
theorem s8_90 : jx_Go jxP d 8 90 [l0, l1, l2, l3, l4, l5, l6] (.int y :: .int x :: st) h Q ↔ if y ≤ x then jx_Go jxP d 8 104 [l0, l1, l2, l3, l4, l5, l6] st h Q else jx_Go jxP d 8 93 [l0, l1, l2, l3, l4, l5, l6] st h Q := jg_icP rfl rfl
theorem s8_93 : jx_Go jxP d 8 93 [.ref a, l1, l2, l3, l4, l5, l6] st h Q ↔ jx_Go jxP d 8 94 [.ref a, l1, l2, l3, l4, l5, l6] (.ref a :: st) h Q := jg_al rfl rfl
theorem s8_94 : jx_Go jxP d 8 94 [l0, l1, l2, l3, l4, l5, l6] (.ref a :: st) h Q ↔ ∃ v, jx_fl h a 0 1 = some v ∧ jx_Go jxP d 8 97 [l0, l1, l2, l3, l4, l5, l6] (v :: st) h Q := jg_gf rfl
theorem s8_97 : jx_Go jxP d 8 97 [l0, l1, l2, l3, l4, l5, l6] (.ref a :: st) h Q ↔ ∃ v, jx_fl h a 5 1 = some v ∧ jx_Go jxP d 8 100 [l0, l1, l2, l3, l4, l5, l6] (v :: st) h Q := jg_gf rfl
theorem s8_100 : jx_Go jxP d 8 100 [l0, l1, l2, l3, .int x, l5, l6] st h Q ↔ jx_Go jxP d 8 102 [l0, l1, l2, l3, .int x, l5, l6] (.int x :: st) h Q := jg_il rfl rfl
theorem s8_102 : jx_Go jxP d 8 102 [l0, l1, l2, l3, l4, l5, l6] (.int x :: .ref a :: st) h Q ↔ ∃ q, jx_ai h a = some q ∧ jx_in x q.1 ∧ jx_Go jxP d 8 103 [l0, l1, l2, l3, l4, l5, l6] (.int (q.2 x.toNatClampNeg) :: st) h Q := jg_ia rfl
theorem s8_103 : jx_Go jxP d 8 103 [l0, l1, l2, l3, l4, l5, l6] [.int x] h Q ↔ Q [.int x] h := jx_rt rfl rfl
theorem s8_104 : jx_Go jxP d 8 104 [l0, l1, l2, l3, .int x, l5, l6] st h Q ↔ jx_Go jxP d 8 107 [l0, l1, l2, l3, .int (x + (nI 1)), l5, l6] st h Q := jg_inc rfl rfl rfl
theorem s8_107 : jx_Go jxP d 8 107 [l0, l1, l2, l3, l4, l5, l6] st h Q ↔ jx_Go jxP d 8 11 [l0, l1, l2, l3, l4, l5, l6] st h Q := jg_go rfl
theorem s8_110 : jx_Go jxP d 8 110 [l0, l1, l2, l3, l4, l5, l6] st h Q ↔ jx_Go jxP d 8 111 [l0, l1, l2, l3, l4, l5, l6] (.int (nI 0) :: st) h Q := jg_c rfl
theorem s8_111 : jx_Go jxP d 8 111 [l0, l1, l2, l3, l4, l5, l6] [.int x] h Q ↔ Q [.int x] h := jx_rt rfl rfl
-- 9 TalkBench$Blocks.fewestClasses
theorem s9_0 : jx_Go jxP d 9 0 [l0, .int x, l2, l3, l4, l5, l6] st h Q ↔ jx_Go jxP d 9 1 [l0, .int x, l2, l3, l4, l5, l6] (.int x :: st) h Q := jg_il rfl rfl
theorem s9_1 : jx_Go jxP d 9 1 [l0, l1, l2, l3, l4, l5, l6] (.int x :: st) h Q ↔ if x = 0 then jx_Go jxP d 9 14 [l0, l1, l2, l3, l4, l5, l6] st h Q else jx_Go jxP d 9 4 [l0, l1, l2, l3, l4, l5, l6] st h Q := jg_ifP rfl rfl
theorem s9_4 : jx_Go jxP d 9 4 [.ref a, l1, l2, l3, l4, l5, l6] st h Q ↔ jx_Go jxP d 9 5 [.ref a, l1, l2, l3, l4, l5, l6] (.ref a :: st) h Q := jg_al rfl rfl
theorem s9_5 : jx_Go jxP d 9 5 [l0, l1, l2, l3, l4, l5, l6] (.ref a :: st) h Q ↔ ∃ v, jx_fl h a 0 0 = some v ∧ jx_Go jxP d 9 8 [l0, l1, l2, l3, l4, l5, l6] (v :: st) h Q := jg_gf rfl
theorem s9_8 : jx_Go jxP d 9 8 [l0, l1, l2, l3, l4, l5, l6] (.ref a :: st) h Q ↔ ∃ v, jx_fl h a 4 1 = some v ∧ jx_Go jxP d 9 11 [l0, l1, l2, l3, l4, l5, l6] (v :: st) h Q := jg_gf rfl
theorem s9_11 : jx_Go jxP d 9 11 [l0, l1, l2, l3, l4, l5, l6] st h Q ↔ jx_Go jxP d 9 21 [l0, l1, l2, l3, l4, l5, l6] st h Q := jg_go rfl
theorem s9_14 : jx_Go jxP d 9 14 [.ref a, l1, l2, l3, l4, l5, l6] st h Q ↔ jx_Go jxP d 9 15 [.ref a, l1, l2, l3, l4, l5, l6] (.ref a :: st) h Q := jg_al rfl rfl
theorem s9_15 : jx_Go jxP d 9 15 [l0, l1, l2, l3, l4, l5, l6] (.ref a :: st) h Q ↔ ∃ v, jx_fl h a 0 0 = some v ∧ jx_Go jxP d 9 18 [l0, l1, l2, l3, l4, l5, l6] (v :: st) h Q := jg_gf rfl
theorem s9_18 : jx_Go jxP d 9 18 [l0, l1, l2, l3, l4, l5, l6] (.ref a :: st) h Q ↔ ∃ v, jx_fl h a 4 0 = some v ∧ jx_Go jxP d 9 21 [l0, l1, l2, l3, l4, l5, l6] (v :: st) h Q := jg_gf rfl
theorem s9_21 : jx_Go jxP d 9 21 [l0, l1, l2, l3, l4, l5, l6] (.int x :: st) h Q ↔ jx_Go jxP d 9 22 [l0, l1, .int x, l3, l4, l5, l6] st h Q := jg_is rfl rfl
theorem s9_22 : jx_Go jxP d 9 22 [l0, l1, l2, l3, l4, l5, l6] st h Q ↔ jx_Go jxP d 9 23 [l0, l1, l2, l3, l4, l5, l6] (.int (nI 1) :: st) h Q := jg_c rfl
theorem s9_23 : jx_Go jxP d 9 23 [l0, l1, l2, l3, l4, l5, l6] (.int x :: st) h Q ↔ jx_Go jxP d 9 24 [l0, l1, l2, .int x, l4, l5, l6] st h Q := jg_is rfl rfl
theorem s9_24 : jx_Go jxP d 9 24 [l0, l1, l2, .int x, l4, l5, l6] st h Q ↔ jx_Go jxP d 9 25 [l0, l1, l2, .int x, l4, l5, l6] (.int x :: st) h Q := jg_il rfl rfl
theorem s9_25 : jx_Go jxP d 9 25 [l0, l1, .int x, l3, l4, l5, l6] st h Q ↔ jx_Go jxP d 9 26 [l0, l1, .int x, l3, l4, l5, l6] (.int x :: st) h Q := jg_il rfl rfl
theorem s9_26 : jx_Go jxP d 9 26 [l0, l1, l2, l3, l4, l5, l6] (.int y :: .int x :: st) h Q ↔ if y < x then jx_Go jxP d 9 136 [l0, l1, l2, l3, l4, l5, l6] st h Q else jx_Go jxP d 9 29 [l0, l1, l2, l3, l4, l5, l6] st h Q := jg_icP rfl rfl
theorem s9_29 : jx_Go jxP d 9 29 [.ref a, l1, l2, l3, l4, l5, l6] st h Q ↔ jx_Go jxP d 9 30 [.ref a, l1, l2, l3, l4, l5, l6] (.ref a :: st) h Q := jg_al rfl rfl
theorem s9_30 : jx_Go jxP d 9 30 [l0, l1, l2, .int x, l4, l5, l6] st h Q ↔ jx_Go jxP d 9 31 [l0, l1, l2, .int x, l4, l5, l6] (.int x :: st) h Q := jg_il rfl rfl
theorem s9_31 : jx_Go jxP d 9 31 [l0, .int x, l2, l3, l4, l5, l6] st h Q ↔ jx_Go jxP d 9 32 [l0, .int x, l2, l3, l4, l5, l6] (.int x :: st) h Q := jg_il rfl rfl
theorem s9_32 : jx_Go jxP (d + 1) 9 32 [l0, l1, l2, l3, l4, l5, l6] (.int x1 :: .int x0 :: .ref a :: st) h Q ↔ (st.length ≤ 4 ∧ jx_cl h a = some 0 ∧ jx_Go jxP d 10 0 [.ref a, .int x0, .int x1, jx_u, jx_u] [] h (fun s1 h1 => jx_Go jxP (d + 1) 9 35 [l0, l1, l2, l3, l4, l5, l6] (s1 ++ st) h1 Q)) := jg_callV (as := [.int x1, .int x0, .ref a]) rfl rfl rfl rfl rfl
theorem s9_35 : jx_Go jxP d 9 35 [l0, l1, l2, l3, l4, l5, l6] (.int x :: st) h Q ↔ if x = 0 then jx_Go jxP d 9 42 [l0, l1, l2, l3, l4, l5, l6] st h Q else jx_Go jxP d 9 38 [l0, l1, l2, l3, l4, l5, l6] st h Q := jg_ifP rfl rfl
theorem s9_38 : jx_Go jxP d 9 38 [l0, l1, l2, l3, l4, l5, l6] st h Q ↔ jx_Go jxP d 9 39 [l0, l1, l2, l3, l4, l5, l6] (.int (nI 1) :: st) h Q := jg_c rfl
theorem s9_39 : jx_Go jxP d 9 39 [l0, l1, l2, l3, l4, l5, l6] st h Q ↔ jx_Go jxP d 9 45 [l0, l1, l2, l3, l4, l5, l6] st h Q := jg_go rfl
theorem s9_42 : jx_Go jxP d 9 42 [l0, l1, l2, l3, l4, l5, l6] st h Q ↔ jx_Go jxP d 9 45 [l0, l1, l2, l3, l4, l5, l6] (.int (nI 1000) :: st) h Q := jg_c rfl
theorem s9_45 : jx_Go jxP d 9 45 [l0, l1, l2, l3, l4, l5, l6] (.int x :: st) h Q ↔ jx_Go jxP d 9 47 [l0, l1, l2, l3, .int x, l5, l6] st h Q := jg_is rfl rfl
theorem s9_47 : jx_Go jxP d 9 47 [.ref a, l1, l2, l3, l4, l5, l6] st h Q ↔ jx_Go jxP d 9 48 [.ref a, l1, l2, l3, l4, l5, l6] (.ref a :: st) h Q := jg_al rfl rfl
theorem s9_48 : jx_Go jxP d 9 48 [l0, l1, l2, l3, l4, l5, l6] (.ref a :: st) h Q ↔ ∃ v, jx_fl h a 0 1 = some v ∧ jx_Go jxP d 9 51 [l0, l1, l2, l3, l4, l5, l6] (v :: st) h Q := jg_gf rfl
theorem s9_51 : jx_Go jxP d 9 51 [l0, l1, l2, l3, l4, l5, l6] (.ref a :: st) h Q ↔ ∃ v, jx_fl h a 5 0 = some v ∧ jx_Go jxP d 9 54 [l0, l1, l2, l3, l4, l5, l6] (v :: st) h Q := jg_gf rfl
theorem s9_54 : jx_Go jxP d 9 54 [l0, l1, l2, .int x, l4, l5, l6] st h Q ↔ jx_Go jxP d 9 55 [l0, l1, l2, .int x, l4, l5, l6] (.int x :: st) h Q := jg_il rfl rfl
theorem s9_55 : jx_Go jxP d 9 55 [l0, l1, l2, l3, l4, l5, l6] (.int x :: .ref a :: st) h Q ↔ ∃ q, jx_ai h a = some q ∧ jx_in x q.1 ∧ jx_Go jxP d 9 56 [l0, l1, l2, l3, l4, l5, l6] (.int (q.2 x.toNatClampNeg) :: st) h Q := jg_ia rfl
theorem s9_56 : jx_Go jxP d 9 56 [l0, l1, l2, l3, l4, l5, l6] (.int x :: st) h Q ↔ jx_Go jxP d 9 58 [l0, l1, l2, l3, l4, .int x, l6] st h Q := jg_is rfl rfl
theorem s9_58 : jx_Go jxP d 9 58 [l0, l1, l2, l3, l4, .int x, l6] st h Q ↔ jx_Go jxP d 9 60 [l0, l1, l2, l3, l4, .int x, l6] (.int x :: st) h Q := jg_il rfl rfl
theorem s9_60 : jx_Go jxP d 9 60 [.ref a, l1, l2, l3, l4, l5, l6] st h Q ↔ jx_Go jxP d 9 61 [.ref a, l1, l2, l3, l4, l5, l6] (.ref a :: st) h Q := jg_al rfl rfl
theorem s9_61 : jx_Go jxP d 9 61 [l0, l1, l2, l3, l4, l5, l6] (.ref a :: st) h Q ↔ ∃ v, jx_fl h a 0 1 = some v ∧ jx_Go jxP d 9 64 [l0, l1, l2, l3, l4, l5, l6] (v :: st) h Q := jg_gf rfl
theorem s9_64 : jx_Go jxP d 9 64 [l0, l1, l2, l3, l4, l5, l6] (.ref a :: st) h Q ↔ ∃ v, jx_fl h a 5 0 = some v ∧ jx_Go jxP d 9 67 [l0, l1, l2, l3, l4, l5, l6] (v :: st) h Q := jg_gf rfl
theorem s9_67 : jx_Go jxP d 9 67 [l0, l1, l2, .int x, l4, l5, l6] st h Q ↔ jx_Go jxP d 9 68 [l0, l1, l2, .int x, l4, l5, l6] (.int x :: st) h Q := jg_il rfl rfl
theorem s9_68 : jx_Go jxP d 9 68 [l0, l1, l2, l3, l4, l5, l6] st h Q ↔ jx_Go jxP d 9 69 [l0, l1, l2, l3, l4, l5, l6] (.int (nI 1) :: st) h Q := jg_c rfl
theorem s9_69 : jx_Go jxP d 9 69 [l0, l1, l2, l3, l4, l5, l6] (.int y :: .int x :: st) h Q ↔ jx_Go jxP d 9 70 [l0, l1, l2, l3, l4, l5, l6] (.int (x + y) :: st) h Q := jg_b (f := fun x y => x + y) rfl
theorem s9_70 : jx_Go jxP d 9 70 [l0, l1, l2, l3, l4, l5, l6] (.int x :: .ref a :: st) h Q ↔ ∃ q, jx_ai h a = some q ∧ jx_in x q.1 ∧ jx_Go jxP d 9 71 [l0, l1, l2, l3, l4, l5, l6] (.int (q.2 x.toNatClampNeg) :: st) h Q := jg_ia rfl
theorem s9_71 : jx_Go jxP d 9 71 [l0, l1, l2, l3, l4, l5, l6] (.int y :: .int x :: st) h Q ↔ if y ≤ x then jx_Go jxP d 9 122 [l0, l1, l2, l3, l4, l5, l6] st h Q else jx_Go jxP d 9 74 [l0, l1, l2, l3, l4, l5, l6] st h Q := jg_icP rfl rfl
theorem s9_74 : jx_Go jxP d 9 74 [l0, l1, l2, l3, .int x, l5, l6] st h Q ↔ jx_Go jxP d 9 76 [l0, l1, l2, l3, .int x, l5, l6] (.int x :: st) h Q := jg_il rfl rfl
theorem s9_76 : jx_Go jxP d 9 76 [l0, l1, l2, l3, l4, l5, l6] st h Q ↔ jx_Go jxP d 9 77 [l0, l1, l2, l3, l4, l5, l6] (.int (nI 1) :: st) h Q := jg_c rfl
theorem s9_77 : jx_Go jxP d 9 77 [l0, l1, l2, l3, l4, l5, l6] (.int y :: .int x :: st) h Q ↔ if x ≤ y then jx_Go jxP d 9 122 [l0, l1, l2, l3, l4, l5, l6] st h Q else jx_Go jxP d 9 80 [l0, l1, l2, l3, l4, l5, l6] st h Q := jg_icP rfl rfl
theorem s9_80 : jx_Go jxP d 9 80 [.ref a, l1, l2, l3, l4, l5, l6] st h Q ↔ jx_Go jxP d 9 81 [.ref a, l1, l2, l3, l4, l5, l6] (.ref a :: st) h Q := jg_al rfl rfl
theorem s9_81 : jx_Go jxP d 9 81 [l0, l1, l2, l3, l4, l5, l6] (.ref a :: st) h Q ↔ ∃ v, jx_fl h a 0 1 = some v ∧ jx_Go jxP d 9 84 [l0, l1, l2, l3, l4, l5, l6] (v :: st) h Q := jg_gf rfl
theorem s9_84 : jx_Go jxP d 9 84 [l0, l1, l2, l3, l4, l5, l6] (.ref a :: st) h Q ↔ ∃ v, jx_fl h a 5 1 = some v ∧ jx_Go jxP d 9 87 [l0, l1, l2, l3, l4, l5, l6] (v :: st) h Q := jg_gf rfl
theorem s9_87 : jx_Go jxP d 9 87 [l0, l1, l2, l3, l4, .int x, l6] st h Q ↔ jx_Go jxP d 9 89 [l0, l1, l2, l3, l4, .int x, l6] (.int x :: st) h Q := jg_il rfl rfl
theorem s9_89 : jx_Go jxP d 9 89 [l0, l1, l2, l3, l4, l5, l6] (.int x :: .ref a :: st) h Q ↔ ∃ q, jx_ai h a = some q ∧ jx_in x q.1 ∧ jx_Go jxP d 9 90 [l0, l1, l2, l3, l4, l5, l6] (.int (q.2 x.toNatClampNeg) :: st) h Q := jg_ia rfl
theorem s9_90 : jx_Go jxP d 9 90 [l0, l1, l2, l3, l4, l5, l6] (.int x :: st) h Q ↔ jx_Go jxP d 9 92 [l0, l1, l2, l3, l4, l5, .int x] st h Q := jg_is rfl rfl
theorem s9_92 : jx_Go jxP d 9 92 [l0, l1, l2, l3, .int x, l5, l6] st h Q ↔ jx_Go jxP d 9 94 [l0, l1, l2, l3, .int x, l5, l6] (.int x :: st) h Q := jg_il rfl rfl
theorem s9_94 : jx_Go jxP d 9 94 [.ref a, l1, l2, l3, l4, l5, l6] st h Q ↔ jx_Go jxP d 9 95 [.ref a, l1, l2, l3, l4, l5, l6] (.ref a :: st) h Q := jg_al rfl rfl
theorem s9_95 : jx_Go jxP d 9 95 [l0, l1, l2, l3, l4, l5, l6] (.ref a :: st) h Q ↔ ∃ v, jx_fl h a 0 4 = some v ∧ jx_Go jxP d 9 98 [l0, l1, l2, l3, l4, l5, l6] (v :: st) h Q := jg_gf rfl
theorem s9_98 : jx_Go jxP d 9 98 [l0, l1, l2, .int x, l4, l5, l6] st h Q ↔ jx_Go jxP d 9 99 [l0, l1, l2, .int x, l4, l5, l6] (.int x :: st) h Q := jg_il rfl rfl
theorem s9_99 : jx_Go jxP d 9 99 [l0, l1, l2, l3, l4, l5, .int x] st h Q ↔ jx_Go jxP d 9 101 [l0, l1, l2, l3, l4, l5, .int x] (.int x :: st) h Q := jg_il rfl rfl
theorem s9_101 : jx_Go jxP d 9 101 [l0, l1, l2, l3, l4, l5, l6] (.int y :: .int x :: st) h Q ↔ jx_Go jxP d 9 102 [l0, l1, l2, l3, l4, l5, l6] (.int (x - y) :: st) h Q := jg_b (f := fun x y => x - y) rfl
theorem s9_102 : jx_Go jxP d 9 102 [l0, l1, l2, l3, l4, l5, l6] (.int x :: .ref a :: st) h Q ↔ ∃ q, jx_ai h a = some q ∧ jx_in x q.1 ∧ jx_Go jxP d 9 103 [l0, l1, l2, l3, l4, l5, l6] (.int (q.2 x.toNatClampNeg) :: st) h Q := jg_ia rfl
theorem s9_103 : jx_Go jxP d 9 103 [.ref a, l1, l2, l3, l4, l5, l6] st h Q ↔ jx_Go jxP d 9 104 [.ref a, l1, l2, l3, l4, l5, l6] (.ref a :: st) h Q := jg_al rfl rfl
theorem s9_104 : jx_Go jxP d 9 104 [l0, l1, l2, l3, l4, l5, l6] (.ref a :: st) h Q ↔ ∃ v, jx_fl h a 0 4 = some v ∧ jx_Go jxP d 9 107 [l0, l1, l2, l3, l4, l5, l6] (v :: st) h Q := jg_gf rfl
theorem s9_107 : jx_Go jxP d 9 107 [l0, l1, l2, l3, l4, l5, .int x] st h Q ↔ jx_Go jxP d 9 109 [l0, l1, l2, l3, l4, l5, .int x] (.int x :: st) h Q := jg_il rfl rfl
theorem s9_109 : jx_Go jxP d 9 109 [l0, l1, l2, l3, l4, l5, l6] (.int x :: .ref a :: st) h Q ↔ ∃ q, jx_ai h a = some q ∧ jx_in x q.1 ∧ jx_Go jxP d 9 110 [l0, l1, l2, l3, l4, l5, l6] (.int (q.2 x.toNatClampNeg) :: st) h Q := jg_ia rfl
theorem s9_110 : jx_Go jxP d 9 110 [l0, l1, l2, l3, l4, l5, l6] (.int y :: .int x :: st) h Q ↔ jx_Go jxP d 9 111 [l0, l1, l2, l3, l4, l5, l6] (.int (x + y) :: st) h Q := jg_b (f := fun x y => x + y) rfl
theorem s9_111 : jx_Go jxP d 9 111 [l0, l1, l2, l3, l4, l5, l6] (.int y :: .int x :: st) h Q ↔ (st.length ≤ 4 ∧ jx_Go jxP d 9 114 [l0, l1, l2, l3, l4, l5, l6] (.int (if y < x then y else x) :: st) h Q) := jg_m2 (f := fun x y => if y < x then y else x) rfl
theorem s9_114 : jx_Go jxP d 9 114 [l0, l1, l2, l3, l4, l5, l6] (.int x :: st) h Q ↔ jx_Go jxP d 9 116 [l0, l1, l2, l3, .int x, l5, l6] st h Q := jg_is rfl rfl
theorem s9_116 : jx_Go jxP d 9 116 [l0, l1, l2, l3, l4, .int x, l6] st h Q ↔ jx_Go jxP d 9 119 [l0, l1, l2, l3, l4, .int (x + (nI 1)), l6] st h Q := jg_inc rfl rfl rfl
theorem s9_119 : jx_Go jxP d 9 119 [l0, l1, l2, l3, l4, l5, l6] st h Q ↔ jx_Go jxP d 9 58 [l0, l1, l2, l3, l4, l5, l6] st h Q := jg_go rfl
theorem s9_122 : jx_Go jxP d 9 122 [.ref a, l1, l2, l3, l4, l5, l6] st h Q ↔ jx_Go jxP d 9 123 [.ref a, l1, l2, l3, l4, l5, l6] (.ref a :: st) h Q := jg_al rfl rfl
theorem s9_123 : jx_Go jxP d 9 123 [l0, l1, l2, l3, l4, l5, l6] (.ref a :: st) h Q ↔ ∃ v, jx_fl h a 0 4 = some v ∧ jx_Go jxP d 9 126 [l0, l1, l2, l3, l4, l5, l6] (v :: st) h Q := jg_gf rfl
theorem s9_126 : jx_Go jxP d 9 126 [l0, l1, l2, .int x, l4, l5, l6] st h Q ↔ jx_Go jxP d 9 127 [l0, l1, l2, .int x, l4, l5, l6] (.int x :: st) h Q := jg_il rfl rfl
theorem s9_127 : jx_Go jxP d 9 127 [l0, l1, l2, l3, .int x, l5, l6] st h Q ↔ jx_Go jxP d 9 129 [l0, l1, l2, l3, .int x, l5, l6] (.int x :: st) h Q := jg_il rfl rfl
theorem s9_129 : jx_Go jxP d 9 129 [l0, l1, l2, l3, l4, l5, l6] (.int y :: .int x :: .ref a :: st) h Q ↔ ∃ q, jx_ai h a = some q ∧ jx_in x q.1 ∧ jx_Go jxP d 9 130 [l0, l1, l2, l3, l4, l5, l6] st (jx_wi h a q.1 (upd q.2 x.toNatClampNeg y)) Q := jg_iw rfl
theorem s9_130 : jx_Go jxP d 9 130 [l0, l1, l2, .int x, l4, l5, l6] st h Q ↔ jx_Go jxP d 9 133 [l0, l1, l2, .int (x + (nI 1)), l4, l5, l6] st h Q := jg_inc rfl rfl rfl
theorem s9_133 : jx_Go jxP d 9 133 [l0, l1, l2, l3, l4, l5, l6] st h Q ↔ jx_Go jxP d 9 24 [l0, l1, l2, l3, l4, l5, l6] st h Q := jg_go rfl
theorem s9_136 : jx_Go jxP d 9 136 [.ref a, l1, l2, l3, l4, l5, l6] st h Q ↔ jx_Go jxP d 9 137 [.ref a, l1, l2, l3, l4, l5, l6] (.ref a :: st) h Q := jg_al rfl rfl
theorem s9_137 : jx_Go jxP d 9 137 [l0, l1, l2, l3, l4, l5, l6] (.ref a :: st) h Q ↔ ∃ v, jx_fl h a 0 4 = some v ∧ jx_Go jxP d 9 140 [l0, l1, l2, l3, l4, l5, l6] (v :: st) h Q := jg_gf rfl
theorem s9_140 : jx_Go jxP d 9 140 [l0, l1, .int x, l3, l4, l5, l6] st h Q ↔ jx_Go jxP d 9 141 [l0, l1, .int x, l3, l4, l5, l6] (.int x :: st) h Q := jg_il rfl rfl
theorem s9_141 : jx_Go jxP d 9 141 [l0, l1, l2, l3, l4, l5, l6] (.int x :: .ref a :: st) h Q ↔ ∃ q, jx_ai h a = some q ∧ jx_in x q.1 ∧ jx_Go jxP d 9 142 [l0, l1, l2, l3, l4, l5, l6] (.int (q.2 x.toNatClampNeg) :: st) h Q := jg_ia rfl
theorem s9_142 : jx_Go jxP d 9 142 [l0, l1, l2, l3, l4, l5, l6] [.int x] h Q ↔ Q [.int x] h := jx_rt rfl rfl
-- 10 TalkBench$Blocks.isPeaceful
theorem s10_0 : jx_Go jxP d 10 0 [l0, l1, .int x, l3, l4] st h Q ↔ jx_Go jxP d 10 1 [l0, l1, .int x, l3, l4] (.int x :: st) h Q := jg_il rfl rfl
theorem s10_1 : jx_Go jxP d 10 1 [l0, l1, l2, l3, l4] (.int x :: st) h Q ↔ if x = 0 then jx_Go jxP d 10 14 [l0, l1, l2, l3, l4] st h Q else jx_Go jxP d 10 4 [l0, l1, l2, l3, l4] st h Q := jg_ifP rfl rfl
theorem s10_4 : jx_Go jxP d 10 4 [.ref a, l1, l2, l3, l4] st h Q ↔ jx_Go jxP d 10 5 [.ref a, l1, l2, l3, l4] (.ref a :: st) h Q := jg_al rfl rfl
theorem s10_5 : jx_Go jxP d 10 5 [l0, l1, l2, l3, l4] (.ref a :: st) h Q ↔ ∃ v, jx_fl h a 0 0 = some v ∧ jx_Go jxP d 10 8 [l0, l1, l2, l3, l4] (v :: st) h Q := jg_gf rfl
theorem s10_8 : jx_Go jxP d 10 8 [l0, l1, l2, l3, l4] (.ref a :: st) h Q ↔ ∃ v, jx_fl h a 4 0 = some v ∧ jx_Go jxP d 10 11 [l0, l1, l2, l3, l4] (v :: st) h Q := jg_gf rfl
theorem s10_11 : jx_Go jxP d 10 11 [l0, l1, l2, l3, l4] st h Q ↔ jx_Go jxP d 10 21 [l0, l1, l2, l3, l4] st h Q := jg_go rfl
theorem s10_14 : jx_Go jxP d 10 14 [.ref a, l1, l2, l3, l4] st h Q ↔ jx_Go jxP d 10 15 [.ref a, l1, l2, l3, l4] (.ref a :: st) h Q := jg_al rfl rfl
theorem s10_15 : jx_Go jxP d 10 15 [l0, l1, l2, l3, l4] (.ref a :: st) h Q ↔ ∃ v, jx_fl h a 0 0 = some v ∧ jx_Go jxP d 10 18 [l0, l1, l2, l3, l4] (v :: st) h Q := jg_gf rfl
theorem s10_18 : jx_Go jxP d 10 18 [l0, l1, l2, l3, l4] (.ref a :: st) h Q ↔ ∃ v, jx_fl h a 4 1 = some v ∧ jx_Go jxP d 10 21 [l0, l1, l2, l3, l4] (v :: st) h Q := jg_gf rfl
theorem s10_21 : jx_Go jxP d 10 21 [l0, l1, l2, l3, l4] (.int x :: st) h Q ↔ jx_Go jxP d 10 22 [l0, l1, l2, .int x, l4] st h Q := jg_is rfl rfl
theorem s10_22 : jx_Go jxP d 10 22 [l0, l1, l2, l3, l4] st h Q ↔ jx_Go jxP d 10 23 [l0, l1, l2, l3, l4] (.int (nI 1) :: st) h Q := jg_c rfl
theorem s10_23 : jx_Go jxP d 10 23 [l0, l1, l2, l3, l4] (.int x :: st) h Q ↔ jx_Go jxP d 10 25 [l0, l1, l2, l3, .int x] st h Q := jg_is rfl rfl
theorem s10_25 : jx_Go jxP d 10 25 [l0, l1, l2, l3, .int x] st h Q ↔ jx_Go jxP d 10 27 [l0, l1, l2, l3, .int x] (.int x :: st) h Q := jg_il rfl rfl
theorem s10_27 : jx_Go jxP d 10 27 [l0, l1, l2, .int x, l4] st h Q ↔ jx_Go jxP d 10 28 [l0, l1, l2, .int x, l4] (.int x :: st) h Q := jg_il rfl rfl
theorem s10_28 : jx_Go jxP d 10 28 [l0, l1, l2, l3, l4] (.int y :: .int x :: st) h Q ↔ if y < x then jx_Go jxP d 10 75 [l0, l1, l2, l3, l4] st h Q else jx_Go jxP d 10 31 [l0, l1, l2, l3, l4] st h Q := jg_icP rfl rfl
theorem s10_31 : jx_Go jxP d 10 31 [l0, l1, .int x, l3, l4] st h Q ↔ jx_Go jxP d 10 32 [l0, l1, .int x, l3, l4] (.int x :: st) h Q := jg_il rfl rfl
theorem s10_32 : jx_Go jxP d 10 32 [l0, l1, l2, l3, l4] (.int x :: st) h Q ↔ if x = 0 then jx_Go jxP d 10 51 [l0, l1, l2, l3, l4] st h Q else jx_Go jxP d 10 35 [l0, l1, l2, l3, l4] st h Q := jg_ifP rfl rfl
theorem s10_35 : jx_Go jxP d 10 35 [.ref a, l1, l2, l3, l4] st h Q ↔ jx_Go jxP d 10 36 [.ref a, l1, l2, l3, l4] (.ref a :: st) h Q := jg_al rfl rfl
theorem s10_36 : jx_Go jxP d 10 36 [l0, l1, l2, l3, l4] (.ref a :: st) h Q ↔ ∃ v, jx_fl h a 0 0 = some v ∧ jx_Go jxP d 10 39 [l0, l1, l2, l3, l4] (v :: st) h Q := jg_gf rfl
theorem s10_39 : jx_Go jxP d 10 39 [l0, l1, l2, l3, .int x] st h Q ↔ jx_Go jxP d 10 41 [l0, l1, l2, l3, .int x] (.int x :: st) h Q := jg_il rfl rfl
theorem s10_41 : jx_Go jxP d 10 41 [l0, .int x, l2, l3, l4] st h Q ↔ jx_Go jxP d 10 42 [l0, .int x, l2, l3, l4] (.int x :: st) h Q := jg_il rfl rfl
theorem s10_42 : jx_Go jxP (d + 1) 10 42 [l0, l1, l2, l3, l4] (.int x1 :: .int x0 :: .ref a :: st) h Q ↔ (st.length ≤ 4 ∧ jx_cl h a = some 4 ∧ jx_Go jxP d 31 0 [.ref a, .int x0, .int x1] [] h (fun s1 h1 => jx_Go jxP (d + 1) 10 45 [l0, l1, l2, l3, l4] (s1 ++ st) h1 Q)) := jg_callV (as := [.int x1, .int x0, .ref a]) rfl rfl rfl rfl rfl
theorem s10_45 : jx_Go jxP d 10 45 [l0, l1, l2, l3, l4] (.int x :: st) h Q ↔ if x = 0 then jx_Go jxP d 10 48 [l0, l1, l2, l3, l4] st h Q else jx_Go jxP d 10 66 [l0, l1, l2, l3, l4] st h Q := jg_ifN rfl rfl
theorem s10_48 : jx_Go jxP d 10 48 [l0, l1, l2, l3, l4] st h Q ↔ jx_Go jxP d 10 64 [l0, l1, l2, l3, l4] st h Q := jg_go rfl
theorem s10_51 : jx_Go jxP d 10 51 [.ref a, l1, l2, l3, l4] st h Q ↔ jx_Go jxP d 10 52 [.ref a, l1, l2, l3, l4] (.ref a :: st) h Q := jg_al rfl rfl
theorem s10_52 : jx_Go jxP d 10 52 [l0, l1, l2, l3, l4] (.ref a :: st) h Q ↔ ∃ v, jx_fl h a 0 0 = some v ∧ jx_Go jxP d 10 55 [l0, l1, l2, l3, l4] (v :: st) h Q := jg_gf rfl
theorem s10_55 : jx_Go jxP d 10 55 [l0, .int x, l2, l3, l4] st h Q ↔ jx_Go jxP d 10 56 [l0, .int x, l2, l3, l4] (.int x :: st) h Q := jg_il rfl rfl
theorem s10_56 : jx_Go jxP d 10 56 [l0, l1, l2, l3, .int x] st h Q ↔ jx_Go jxP d 10 58 [l0, l1, l2, l3, .int x] (.int x :: st) h Q := jg_il rfl rfl
theorem s10_58 : jx_Go jxP (d + 1) 10 58 [l0, l1, l2, l3, l4] (.int x1 :: .int x0 :: .ref a :: st) h Q ↔ (st.length ≤ 4 ∧ jx_cl h a = some 4 ∧ jx_Go jxP d 31 0 [.ref a, .int x0, .int x1] [] h (fun s1 h1 => jx_Go jxP (d + 1) 10 61 [l0, l1, l2, l3, l4] (s1 ++ st) h1 Q)) := jg_callV (as := [.int x1, .int x0, .ref a]) rfl rfl rfl rfl rfl
theorem s10_61 : jx_Go jxP d 10 61 [l0, l1, l2, l3, l4] (.int x :: st) h Q ↔ if x = 0 then jx_Go jxP d 10 64 [l0, l1, l2, l3, l4] st h Q else jx_Go jxP d 10 66 [l0, l1, l2, l3, l4] st h Q := jg_ifN rfl rfl
theorem s10_64 : jx_Go jxP d 10 64 [l0, l1, l2, l3, l4] st h Q ↔ jx_Go jxP d 10 65 [l0, l1, l2, l3, l4] (.int (nI 0) :: st) h Q := jg_c rfl
theorem s10_65b0 : jx_Go jxP d 10 65 [l0, l1, l2, l3, l4] [.int (nI 0)] h Q ↔ Q [.int (nI 0)] h := jx_rt rfl rfl
theorem s10_65b1 : jx_Go jxP d 10 65 [l0, l1, l2, l3, l4] [.int (nI 1)] h Q ↔ Q [.int (nI 1)] h := jx_rt rfl rfl
theorem s10_66 : jx_Go jxP d 10 66 [l0, l1, l2, l3, .int x] st h Q ↔ jx_Go jxP d 10 68 [l0, l1, l2, l3, .int x] (.int x :: st) h Q := jg_il rfl rfl
theorem s10_68 : jx_Go jxP d 10 68 [l0, l1, l2, l3, l4] st h Q ↔ jx_Go jxP d 10 69 [l0, l1, l2, l3, l4] (.int (nI 1) :: st) h Q := jg_c rfl
theorem s10_69 : jx_Go jxP d 10 69 [l0, l1, l2, l3, l4] (.int y :: .int x :: st) h Q ↔ jx_Go jxP d 10 70 [l0, l1, l2, l3, l4] (.int (x <<< (y &&& 31)) :: st) h Q := jg_b (f := fun x y => x <<< (y &&& 31)) rfl
theorem s10_70 : jx_Go jxP d 10 70 [l0, l1, l2, l3, l4] (.int x :: st) h Q ↔ jx_Go jxP d 10 72 [l0, l1, l2, l3, .int x] st h Q := jg_is rfl rfl
theorem s10_72 : jx_Go jxP d 10 72 [l0, l1, l2, l3, l4] st h Q ↔ jx_Go jxP d 10 25 [l0, l1, l2, l3, l4] st h Q := jg_go rfl
theorem s10_75 : jx_Go jxP d 10 75 [l0, l1, l2, l3, l4] st h Q ↔ jx_Go jxP d 10 76 [l0, l1, l2, l3, l4] (.int (nI 1) :: st) h Q := jg_c rfl
theorem s10_76b0 : jx_Go jxP d 10 76 [l0, l1, l2, l3, l4] [.int (nI 0)] h Q ↔ Q [.int (nI 0)] h := jx_rt rfl rfl
theorem s10_76b1 : jx_Go jxP d 10 76 [l0, l1, l2, l3, l4] [.int (nI 1)] h Q ↔ Q [.int (nI 1)] h := jx_rt rfl rfl
-- 12 TalkBench$History.push
theorem s12_0 : jx_Go jxP d 12 0 [.ref a, l1] st h Q ↔ jx_Go jxP d 12 1 [.ref a, l1] (.ref a :: st) h Q := jg_al rfl rfl
theorem s12_1 : jx_Go jxP d 12 1 [l0, l1] (.ref a :: st) h Q ↔ ∃ v, jx_fl h a 1 0 = some v ∧ jx_Go jxP d 12 4 [l0, l1] (v :: st) h Q := jg_gf rfl
theorem s12_4 : jx_Go jxP d 12 4 [.ref a, l1] st h Q ↔ jx_Go jxP d 12 5 [.ref a, l1] (.ref a :: st) h Q := jg_al rfl rfl
theorem s12_5 : jx_Go jxP d 12 5 [l0, l1] (.ref a :: st) h Q ↔ ∃ v, jx_fl h a 1 1 = some v ∧ jx_Go jxP d 12 8 [l0, l1] (v :: st) h Q := jg_gf rfl
theorem s12_8 : jx_Go jxP d 12 8 [l0, l1] (.int x :: .ref a :: st) h Q ↔ ∃ q, jx_ar h a 2 = some q ∧ jx_in x q.1 ∧ jx_Go jxP d 12 9 [l0, l1] (jx_rv (q.2 x.toNatClampNeg) :: st) h Q := jg_ra rfl
theorem s12_9 : jx_Go jxP d 12 9 [l0, .ref a] st h Q ↔ jx_Go jxP d 12 10 [l0, .ref a] (.ref a :: st) h Q := jg_al rfl rfl
theorem s12_10 : jx_Go jxP (d + 1) 12 10 [l0, l1] (.ref a0 :: .ref a :: st) h Q ↔ (st.length ≤ 4 ∧ jx_cl h a = some 10 ∧ jx_Go jxP d 71 0 [.ref a, .ref a0] [] h (fun s1 h1 => jx_Go jxP (d + 1) 12 13 [l0, l1] (s1 ++ st) h1 Q)) := jg_callV (as := [.ref a0, .ref a]) rfl rfl rfl rfl rfl
theorem s12_13 : jx_Go jxP d 12 13 [.ref a, l1] st h Q ↔ jx_Go jxP d 12 14 [.ref a, l1] (.ref a :: st) h Q := jg_al rfl rfl
theorem s12_14 : jx_Go jxP d 12 14 [.ref a, l1] st h Q ↔ jx_Go jxP d 12 15 [.ref a, l1] (.ref a :: st) h Q := jg_al rfl rfl
theorem s12_15 : jx_Go jxP d 12 15 [l0, l1] (.ref a :: st) h Q ↔ ∃ v, jx_fl h a 1 1 = some v ∧ jx_Go jxP d 12 18 [l0, l1] (v :: st) h Q := jg_gf rfl
theorem s12_18 : jx_Go jxP d 12 18 [l0, l1] st h Q ↔ jx_Go jxP d 12 19 [l0, l1] (.int (nI 1) :: st) h Q := jg_c rfl
theorem s12_19 : jx_Go jxP d 12 19 [l0, l1] (.int y :: .int x :: st) h Q ↔ jx_Go jxP d 12 20 [l0, l1] (.int (x + y) :: st) h Q := jg_b (f := fun x y => x + y) rfl
theorem s12_20 : jx_Go jxP d 12 20 [l0, l1] st h Q ↔ jx_Go jxP d 12 22 [l0, l1] (.int (nI 30) :: st) h Q := jg_c rfl
theorem s12_22 : jx_Go jxP d 12 22 [l0, l1] (.int y :: .int x :: st) h Q ↔ if x = y then jx_Go jxP d 12 25 [l0, l1] st h Q else jx_Go jxP d 12 29 [l0, l1] st h Q := jg_icN rfl rfl
theorem s12_25 : jx_Go jxP d 12 25 [l0, l1] st h Q ↔ jx_Go jxP d 12 26 [l0, l1] (.int (nI 0) :: st) h Q := jg_c rfl
theorem s12_26 : jx_Go jxP d 12 26 [l0, l1] st h Q ↔ jx_Go jxP d 12 35 [l0, l1] st h Q := jg_go rfl
theorem s12_29 : jx_Go jxP d 12 29 [.ref a, l1] st h Q ↔ jx_Go jxP d 12 30 [.ref a, l1] (.ref a :: st) h Q := jg_al rfl rfl
theorem s12_30 : jx_Go jxP d 12 30 [l0, l1] (.ref a :: st) h Q ↔ ∃ v, jx_fl h a 1 1 = some v ∧ jx_Go jxP d 12 33 [l0, l1] (v :: st) h Q := jg_gf rfl
theorem s12_33 : jx_Go jxP d 12 33 [l0, l1] st h Q ↔ jx_Go jxP d 12 34 [l0, l1] (.int (nI 1) :: st) h Q := jg_c rfl
theorem s12_34 : jx_Go jxP d 12 34 [l0, l1] (.int y :: .int x :: st) h Q ↔ jx_Go jxP d 12 35 [l0, l1] (.int (x + y) :: st) h Q := jg_b (f := fun x y => x + y) rfl
theorem s12_35 : jx_Go jxP d 12 35 [l0, l1] (.int x :: .ref a :: st) h Q ↔ ∃ v, jx_fl h a 1 1 = some v ∧ jx_Go jxP d 12 38 [l0, l1] st (jx_uf h a 1 (.int x)) Q := jg_pfI rfl
theorem s12_38 : jx_Go jxP d 12 38 [.ref a, l1] st h Q ↔ jx_Go jxP d 12 39 [.ref a, l1] (.ref a :: st) h Q := jg_al rfl rfl
theorem s12_39 : jx_Go jxP d 12 39 [.ref a, l1] st h Q ↔ jx_Go jxP d 12 40 [.ref a, l1] (.ref a :: st) h Q := jg_al rfl rfl
theorem s12_40 : jx_Go jxP d 12 40 [l0, l1] (.ref a :: st) h Q ↔ ∃ v, jx_fl h a 1 2 = some v ∧ jx_Go jxP d 12 43 [l0, l1] (v :: st) h Q := jg_gf rfl
theorem s12_43 : jx_Go jxP d 12 43 [l0, l1] st h Q ↔ jx_Go jxP d 12 44 [l0, l1] (.int (nI 1) :: st) h Q := jg_c rfl
theorem s12_44 : jx_Go jxP d 12 44 [l0, l1] (.int y :: .int x :: st) h Q ↔ jx_Go jxP d 12 45 [l0, l1] (.int (x + y) :: st) h Q := jg_b (f := fun x y => x + y) rfl
theorem s12_45 : jx_Go jxP d 12 45 [l0, l1] st h Q ↔ jx_Go jxP d 12 47 [l0, l1] (.int (nI 30) :: st) h Q := jg_c rfl
theorem s12_47 : jx_Go jxP d 12 47 [l0, l1] (.int y :: .int x :: st) h Q ↔ (st.length ≤ 4 ∧ jx_Go jxP d 12 50 [l0, l1] (.int (if y < x then y else x) :: st) h Q) := jg_m2 (f := fun x y => if y < x then y else x) rfl
theorem s12_50 : jx_Go jxP d 12 50 [l0, l1] (.int x :: .ref a :: st) h Q ↔ ∃ v, jx_fl h a 1 2 = some v ∧ jx_Go jxP d 12 53 [l0, l1] st (jx_uf h a 2 (.int x)) Q := jg_pfI rfl
theorem s12_53 : jx_Go jxP d 12 53 [l0, l1] [] h Q ↔ Q [] h := jx_rt rfl rfl
-- 13 TalkBench$History.pop
theorem s13_0 : jx_Go jxP d 13 0 [.ref a, l1] st h Q ↔ jx_Go jxP d 13 1 [.ref a, l1] (.ref a :: st) h Q := jg_al rfl rfl
theorem s13_1 : jx_Go jxP d 13 1 [.ref a, l1] st h Q ↔ jx_Go jxP d 13 2 [.ref a, l1] (.ref a :: st) h Q := jg_al rfl rfl
theorem s13_2 : jx_Go jxP d 13 2 [l0, l1] (.ref a :: st) h Q ↔ ∃ v, jx_fl h a 1 1 = some v ∧ jx_Go jxP d 13 5 [l0, l1] (v :: st) h Q := jg_gf rfl
theorem s13_5 : jx_Go jxP d 13 5 [l0, l1] (.int x :: st) h Q ↔ if x = 0 then jx_Go jxP d 13 8 [l0, l1] st h Q else jx_Go jxP d 13 13 [l0, l1] st h Q := jg_ifN rfl rfl
theorem s13_8 : jx_Go jxP d 13 8 [l0, l1] st h Q ↔ jx_Go jxP d 13 10 [l0, l1] (.int (nI 29) :: st) h Q := jg_c rfl
theorem s13_10 : jx_Go jxP d 13 10 [l0, l1] st h Q ↔ jx_Go jxP d 13 19 [l0, l1] st h Q := jg_go rfl
theorem s13_13 : jx_Go jxP d 13 13 [.ref a, l1] st h Q ↔ jx_Go jxP d 13 14 [.ref a, l1] (.ref a :: st) h Q := jg_al rfl rfl
theorem s13_14 : jx_Go jxP d 13 14 [l0, l1] (.ref a :: st) h Q ↔ ∃ v, jx_fl h a 1 1 = some v ∧ jx_Go jxP d 13 17 [l0, l1] (v :: st) h Q := jg_gf rfl
theorem s13_17 : jx_Go jxP d 13 17 [l0, l1] st h Q ↔ jx_Go jxP d 13 18 [l0, l1] (.int (nI 1) :: st) h Q := jg_c rfl
theorem s13_18 : jx_Go jxP d 13 18 [l0, l1] (.int y :: .int x :: st) h Q ↔ jx_Go jxP d 13 19 [l0, l1] (.int (x - y) :: st) h Q := jg_b (f := fun x y => x - y) rfl
theorem s13_19 : jx_Go jxP d 13 19 [l0, l1] (.int x :: .ref a :: st) h Q ↔ ∃ v, jx_fl h a 1 1 = some v ∧ jx_Go jxP d 13 22 [l0, l1] st (jx_uf h a 1 (.int x)) Q := jg_pfI rfl
theorem s13_22 : jx_Go jxP d 13 22 [.ref a, l1] st h Q ↔ jx_Go jxP d 13 23 [.ref a, l1] (.ref a :: st) h Q := jg_al rfl rfl
theorem s13_23i : jx_Go jxP d 13 23 [l0, l1] (.int x :: st) h Q ↔ jx_Go jxP d 13 24 [l0, l1] (.int x :: .int x :: st) h Q := jg_dI rfl
theorem s13_23r : jx_Go jxP d 13 23 [l0, l1] (.ref a :: st) h Q ↔ jx_Go jxP d 13 24 [l0, l1] (.ref a :: .ref a :: st) h Q := jg_dR rfl
theorem s13_24 : jx_Go jxP d 13 24 [l0, l1] (.ref a :: st) h Q ↔ ∃ v, jx_fl h a 1 2 = some v ∧ jx_Go jxP d 13 27 [l0, l1] (v :: st) h Q := jg_gf rfl
theorem s13_27 : jx_Go jxP d 13 27 [l0, l1] st h Q ↔ jx_Go jxP d 13 28 [l0, l1] (.int (nI 1) :: st) h Q := jg_c rfl
theorem s13_28 : jx_Go jxP d 13 28 [l0, l1] (.int y :: .int x :: st) h Q ↔ jx_Go jxP d 13 29 [l0, l1] (.int (x - y) :: st) h Q := jg_b (f := fun x y => x - y) rfl
theorem s13_29 : jx_Go jxP d 13 29 [l0, l1] (.int x :: .ref a :: st) h Q ↔ ∃ v, jx_fl h a 1 2 = some v ∧ jx_Go jxP d 13 32 [l0, l1] st (jx_uf h a 2 (.int x)) Q := jg_pfI rfl
theorem s13_32 : jx_Go jxP d 13 32 [l0, .ref a] st h Q ↔ jx_Go jxP d 13 33 [l0, .ref a] (.ref a :: st) h Q := jg_al rfl rfl
theorem s13_33 : jx_Go jxP d 13 33 [.ref a, l1] st h Q ↔ jx_Go jxP d 13 34 [.ref a, l1] (.ref a :: st) h Q := jg_al rfl rfl
theorem s13_34 : jx_Go jxP d 13 34 [l0, l1] (.ref a :: st) h Q ↔ ∃ v, jx_fl h a 1 0 = some v ∧ jx_Go jxP d 13 37 [l0, l1] (v :: st) h Q := jg_gf rfl
theorem s13_37 : jx_Go jxP d 13 37 [.ref a, l1] st h Q ↔ jx_Go jxP d 13 38 [.ref a, l1] (.ref a :: st) h Q := jg_al rfl rfl
theorem s13_38 : jx_Go jxP d 13 38 [l0, l1] (.ref a :: st) h Q ↔ ∃ v, jx_fl h a 1 1 = some v ∧ jx_Go jxP d 13 41 [l0, l1] (v :: st) h Q := jg_gf rfl
theorem s13_41 : jx_Go jxP d 13 41 [l0, l1] (.int x :: .ref a :: st) h Q ↔ ∃ q, jx_ar h a 2 = some q ∧ jx_in x q.1 ∧ jx_Go jxP d 13 42 [l0, l1] (jx_rv (q.2 x.toNatClampNeg) :: st) h Q := jg_ra rfl
theorem s13_42 : jx_Go jxP (d + 1) 13 42 [l0, l1] (.ref a0 :: .ref a :: st) h Q ↔ (st.length ≤ 4 ∧ jx_cl h a = some 10 ∧ jx_Go jxP d 71 0 [.ref a, .ref a0] [] h (fun s1 h1 => jx_Go jxP (d + 1) 13 45 [l0, l1] (s1 ++ st) h1 Q)) := jg_callV (as := [.ref a0, .ref a]) rfl rfl rfl rfl rfl
theorem s13_45 : jx_Go jxP d 13 45 [l0, l1] [] h Q ↔ Q [] h := jx_rt rfl rfl
-- 14 TalkBench$Judge.<init>
theorem s14_0 : jx_Go jxP d 14 0 [.ref a, l1, l2] st h Q ↔ jx_Go jxP d 14 1 [.ref a, l1, l2] (.ref a :: st) h Q := jg_al rfl rfl
theorem s14_1 : jx_Go jxP d 14 1 [l0, l1, l2] [.ref a] h Q ↔ jx_Go jxP d 14 4 [l0, l1, l2] [] h Q := jg_oi rfl
theorem s14_4 : jx_Go jxP d 14 4 [.ref a, l1, l2] st h Q ↔ jx_Go jxP d 14 5 [.ref a, l1, l2] (.ref a :: st) h Q := jg_al rfl rfl
theorem s14_5 : jx_Go jxP d 14 5 [l0, l1, l2] st h Q ↔ jx_Go jxP d 14 7 [l0, l1, l2] (.int (nI 120) :: st) h Q := jg_c rfl
theorem s14_7 : jx_Go jxP d 14 7 [l0, l1, l2] (.int (nI 120) :: st) h Q ↔ jx_Go jxP d 14 9 [l0, l1, l2] (.ref h.1 :: st) (jx_mk h 120 (.inl (0, 120, .inl (fun _ => 0)))) Q := jg_ni rfl (jx_inB_iff.mp (by decide +kernel))
theorem s14_9 : jx_Go jxP d 14 9 [l0, l1, l2] (.ref b :: .ref a :: st) h Q ↔ ∃ v, jx_fl h a 2 2 = some v ∧ jx_Go jxP d 14 12 [l0, l1, l2] st (jx_uf h a 2 (.ref b)) Q := jg_pfR rfl
theorem s14_12 : jx_Go jxP d 14 12 [.ref a, l1, l2] st h Q ↔ jx_Go jxP d 14 13 [.ref a, l1, l2] (.ref a :: st) h Q := jg_al rfl rfl
theorem s14_13 : jx_Go jxP d 14 13 [l0, .ref a, l2] st h Q ↔ jx_Go jxP d 14 14 [l0, .ref a, l2] (.ref a :: st) h Q := jg_al rfl rfl
theorem s14_14 : jx_Go jxP d 14 14 [l0, l1, l2] (.ref b :: .ref a :: st) h Q ↔ ∃ v, jx_fl h a 2 0 = some v ∧ jx_Go jxP d 14 17 [l0, l1, l2] st (jx_uf h a 0 (.ref b)) Q := jg_pfR rfl
theorem s14_17 : jx_Go jxP d 14 17 [.ref a, l1, l2] st h Q ↔ jx_Go jxP d 14 18 [.ref a, l1, l2] (.ref a :: st) h Q := jg_al rfl rfl
theorem s14_18 : jx_Go jxP d 14 18 [l0, l1, .ref a] st h Q ↔ jx_Go jxP d 14 19 [l0, l1, .ref a] (.ref a :: st) h Q := jg_al rfl rfl
theorem s14_19 : jx_Go jxP d 14 19 [l0, l1, l2] (.ref b :: .ref a :: st) h Q ↔ ∃ v, jx_fl h a 2 1 = some v ∧ jx_Go jxP d 14 22 [l0, l1, l2] st (jx_uf h a 1 (.ref b)) Q := jg_pfR rfl
theorem s14_22 : jx_Go jxP d 14 22 [l0, l1, l2] [] h Q ↔ Q [] h := jx_rt rfl rfl
-- 15 TalkBench$Judge.take
theorem s15_0 : jx_Go jxP d 15 0 [.ref a, l1] st h Q ↔ jx_Go jxP d 15 1 [.ref a, l1] (.ref a :: st) h Q := jg_al rfl rfl
theorem s15_1 : jx_Go jxP d 15 1 [l0, l1] (.ref a :: st) h Q ↔ ∃ v, jx_fl h a 2 2 = some v ∧ jx_Go jxP d 15 4 [l0, l1] (v :: st) h Q := jg_gf rfl
theorem s15_4 : jx_Go jxP d 15 4 [.ref a, l1] st h Q ↔ jx_Go jxP d 15 5 [.ref a, l1] (.ref a :: st) h Q := jg_al rfl rfl
theorem s15_5 : jx_Go jxP d 15 5 [l0, l1] (.ref a :: st) h Q ↔ ∃ v, jx_fl h a 2 3 = some v ∧ jx_Go jxP d 15 8 [l0, l1] (v :: st) h Q := jg_gf rfl
theorem s15_8 : jx_Go jxP d 15 8 [l0, .int x] st h Q ↔ jx_Go jxP d 15 9 [l0, .int x] (.int x :: st) h Q := jg_il rfl rfl
theorem s15_9 : jx_Go jxP d 15 9 [l0, l1] (.int y :: .int x :: .ref a :: st) h Q ↔ ∃ q, jx_ai h a = some q ∧ jx_in x q.1 ∧ jx_Go jxP d 15 10 [l0, l1] st (jx_wi h a q.1 (upd q.2 x.toNatClampNeg y)) Q := jg_iw rfl
theorem s15_10 : jx_Go jxP d 15 10 [.ref a, l1] st h Q ↔ jx_Go jxP d 15 11 [.ref a, l1] (.ref a :: st) h Q := jg_al rfl rfl
theorem s15_11i : jx_Go jxP d 15 11 [l0, l1] (.int x :: st) h Q ↔ jx_Go jxP d 15 12 [l0, l1] (.int x :: .int x :: st) h Q := jg_dI rfl
theorem s15_11r : jx_Go jxP d 15 11 [l0, l1] (.ref a :: st) h Q ↔ jx_Go jxP d 15 12 [l0, l1] (.ref a :: .ref a :: st) h Q := jg_dR rfl
theorem s15_12 : jx_Go jxP d 15 12 [l0, l1] (.ref a :: st) h Q ↔ ∃ v, jx_fl h a 2 3 = some v ∧ jx_Go jxP d 15 15 [l0, l1] (v :: st) h Q := jg_gf rfl
theorem s15_15 : jx_Go jxP d 15 15 [l0, l1] st h Q ↔ jx_Go jxP d 15 16 [l0, l1] (.int (nI 1) :: st) h Q := jg_c rfl
theorem s15_16 : jx_Go jxP d 15 16 [l0, l1] (.int y :: .int x :: st) h Q ↔ jx_Go jxP d 15 17 [l0, l1] (.int (x + y) :: st) h Q := jg_b (f := fun x y => x + y) rfl
theorem s15_17 : jx_Go jxP d 15 17 [l0, l1] (.int x :: .ref a :: st) h Q ↔ ∃ v, jx_fl h a 2 3 = some v ∧ jx_Go jxP d 15 20 [l0, l1] st (jx_uf h a 3 (.int x)) Q := jg_pfI rfl
theorem s15_20 : jx_Go jxP d 15 20 [l0, l1] [] h Q ↔ Q [] h := jx_rt rfl rfl
-- 16 TalkBench$Judge.judgeTalk
theorem s16_0 : jx_Go jxP d 16 0 [.ref a] st h Q ↔ jx_Go jxP d 16 1 [.ref a] (.ref a :: st) h Q := jg_al rfl rfl
theorem s16_1 : jx_Go jxP d 16 1 [l0] st h Q ↔ jx_Go jxP d 16 2 [l0] (.int (nI 0) :: st) h Q := jg_c rfl
theorem s16_2 : jx_Go jxP d 16 2 [l0] (.int x :: .ref a :: st) h Q ↔ ∃ v, jx_fl h a 2 4 = some v ∧ jx_Go jxP d 16 5 [l0] st (jx_uf h a 4 (.int x)) Q := jg_pfI rfl
theorem s16_5 : jx_Go jxP d 16 5 [.ref a] st h Q ↔ jx_Go jxP d 16 6 [.ref a] (.ref a :: st) h Q := jg_al rfl rfl
theorem s16_6 : jx_Go jxP d 16 6 [l0] st h Q ↔ jx_Go jxP d 16 7 [l0] (.int (nI 0) :: st) h Q := jg_c rfl
theorem s16_7 : jx_Go jxP d 16 7 [l0] (.int x :: .ref a :: st) h Q ↔ ∃ v, jx_fl h a 2 5 = some v ∧ jx_Go jxP d 16 10 [l0] st (jx_uf h a 5 (.int x)) Q := jg_pfI rfl
theorem s16_10 : jx_Go jxP d 16 10 [.ref a] st h Q ↔ jx_Go jxP d 16 11 [.ref a] (.ref a :: st) h Q := jg_al rfl rfl
theorem s16_11 : jx_Go jxP d 16 11 [.ref a] st h Q ↔ jx_Go jxP d 16 12 [.ref a] (.ref a :: st) h Q := jg_al rfl rfl
theorem s16_12 : jx_Go jxP d 16 12 [l0] (.ref a :: st) h Q ↔ ∃ v, jx_fl h a 2 1 = some v ∧ jx_Go jxP d 16 15 [l0] (v :: st) h Q := jg_gf rfl
theorem s16_15 : jx_Go jxP d 16 15 [l0] (.ref a :: st) h Q ↔ ∃ v, jx_fl h a 4 0 = some v ∧ jx_Go jxP d 16 18 [l0] (v :: st) h Q := jg_gf rfl
theorem s16_18 : jx_Go jxP d 16 18 [.ref a] st h Q ↔ jx_Go jxP d 16 19 [.ref a] (.ref a :: st) h Q := jg_al rfl rfl
theorem s16_19 : jx_Go jxP d 16 19 [l0] (.ref a :: st) h Q ↔ ∃ v, jx_fl h a 2 1 = some v ∧ jx_Go jxP d 16 22 [l0] (v :: st) h Q := jg_gf rfl
theorem s16_22 : jx_Go jxP d 16 22 [l0] (.ref a :: st) h Q ↔ ∃ v, jx_fl h a 4 1 = some v ∧ jx_Go jxP d 16 25 [l0] (v :: st) h Q := jg_gf rfl
theorem s16_25 : jx_Go jxP d 16 25 [l0] st h Q ↔ jx_Go jxP d 16 26 [l0] (.int (nI 0) :: st) h Q := jg_c rfl
theorem s16_26 : jx_Go jxP (d + 1) 16 26 [l0] (.int x2 :: .int x1 :: .int x0 :: .ref a :: st) h Q ↔ (st.length ≤ 4 ∧ jx_cl h a = some 2 ∧ jx_Go jxP d 17 0 [.ref a, .int x0, .int x1, .int x2, jx_u, jx_u, jx_u, jx_u, jx_u] [] h (fun s1 h1 => jx_Go jxP (d + 1) 16 29 [l0] (s1 ++ st) h1 Q)) := jg_callV (as := [.int x2, .int x1, .int x0, .ref a]) rfl rfl rfl rfl rfl
theorem s16_29 : jx_Go jxP d 16 29 [l0] (.int x :: st) h Q ↔ if x = 0 then jx_Go jxP d 16 32 [l0] st h Q else jx_Go jxP d 16 40 [l0] st h Q := jg_ifN rfl rfl
theorem s16_32 : jx_Go jxP d 16 32 [l0] st h Q ↔ jx_Go jxP d 16 34 [l0] (.int (nI 100) :: st) h Q := jg_c rfl
theorem s16_34 : jx_Go jxP d 16 34 [.ref a] st h Q ↔ jx_Go jxP d 16 35 [.ref a] (.ref a :: st) h Q := jg_al rfl rfl
theorem s16_35 : jx_Go jxP d 16 35 [l0] (.ref a :: st) h Q ↔ ∃ v, jx_fl h a 2 4 = some v ∧ jx_Go jxP d 16 38 [l0] (v :: st) h Q := jg_gf rfl
theorem s16_38 : jx_Go jxP d 16 38 [l0] (.int y :: .int x :: st) h Q ↔ jx_Go jxP d 16 39 [l0] (.int (x + y) :: st) h Q := jg_b (f := fun x y => x + y) rfl
theorem s16_39 : jx_Go jxP d 16 39 [l0] [.int x] h Q ↔ Q [.int x] h := jx_rt rfl rfl
theorem s16_40 : jx_Go jxP d 16 40 [l0] st h Q ↔ jx_Go jxP d 16 41 [l0] (.int (nI 2) :: st) h Q := jg_c rfl
theorem s16_41 : jx_Go jxP d 16 41 [.ref a] st h Q ↔ jx_Go jxP d 16 42 [.ref a] (.ref a :: st) h Q := jg_al rfl rfl
theorem s16_42 : jx_Go jxP d 16 42 [l0] (.ref a :: st) h Q ↔ ∃ v, jx_fl h a 2 4 = some v ∧ jx_Go jxP d 16 45 [l0] (v :: st) h Q := jg_gf rfl
theorem s16_45 : jx_Go jxP d 16 45 [l0] (.int y :: .int x :: st) h Q ↔ jx_Go jxP d 16 46 [l0] (.int (x * y) :: st) h Q := jg_b (f := fun x y => x * y) rfl
theorem s16_46 : jx_Go jxP d 16 46 [.ref a] st h Q ↔ jx_Go jxP d 16 47 [.ref a] (.ref a :: st) h Q := jg_al rfl rfl
theorem s16_47 : jx_Go jxP d 16 47 [l0] (.ref a :: st) h Q ↔ ∃ v, jx_fl h a 2 3 = some v ∧ jx_Go jxP d 16 50 [l0] (v :: st) h Q := jg_gf rfl
theorem s16_50 : jx_Go jxP d 16 50 [l0] (.int y :: .int x :: st) h Q ↔ if y ≤ x then jx_Go jxP d 16 58 [l0] st h Q else jx_Go jxP d 16 53 [l0] st h Q := jg_icP rfl rfl
theorem s16_53 : jx_Go jxP d 16 53 [l0] st h Q ↔ jx_Go jxP d 16 55 [l0] (.int (nI 90) :: st) h Q := jg_c rfl
theorem s16_55 : jx_Go jxP d 16 55 [l0] st h Q ↔ jx_Go jxP d 16 62 [l0] st h Q := jg_go rfl
theorem s16_58 : jx_Go jxP d 16 58 [.ref a] st h Q ↔ jx_Go jxP d 16 59 [.ref a] (.ref a :: st) h Q := jg_al rfl rfl
theorem s16_59 : jx_Go jxP d 16 59 [l0] (.ref a :: st) h Q ↔ ∃ v, jx_fl h a 2 5 = some v ∧ jx_Go jxP d 16 62 [l0] (v :: st) h Q := jg_gf rfl
theorem s16_62 : jx_Go jxP d 16 62 [l0] [.int x] h Q ↔ Q [.int x] h := jx_rt rfl rfl
-- 17 TalkBench$Judge.isRight
theorem s17_0 : jx_Go jxP d 17 0 [l0, l1, l2, l3, l4, l5, l6, l7, l8] st h Q ↔ jx_Go jxP d 17 1 [l0, l1, l2, l3, l4, l5, l6, l7, l8] (.int (nI 2) :: st) h Q := jg_c rfl
theorem s17_1 : jx_Go jxP d 17 1 [.ref a, l1, l2, l3, l4, l5, l6, l7, l8] st h Q ↔ jx_Go jxP d 17 2 [.ref a, l1, l2, l3, l4, l5, l6, l7, l8] (.ref a :: st) h Q := jg_al rfl rfl
theorem s17_2 : jx_Go jxP d 17 2 [l0, l1, l2, l3, l4, l5, l6, l7, l8] (.ref a :: st) h Q ↔ ∃ v, jx_fl h a 2 4 = some v ∧ jx_Go jxP d 17 5 [l0, l1, l2, l3, l4, l5, l6, l7, l8] (v :: st) h Q := jg_gf rfl
theorem s17_5 : jx_Go jxP d 17 5 [l0, l1, l2, l3, l4, l5, l6, l7, l8] (.int y :: .int x :: st) h Q ↔ jx_Go jxP d 17 6 [l0, l1, l2, l3, l4, l5, l6, l7, l8] (.int (x * y) :: st) h Q := jg_b (f := fun x y => x * y) rfl
theorem s17_6 : jx_Go jxP d 17 6 [l0, l1, l2, l3, l4, l5, l6, l7, l8] (.int x :: st) h Q ↔ jx_Go jxP d 17 8 [l0, l1, l2, l3, .int x, l5, l6, l7, l8] st h Q := jg_is rfl rfl
theorem s17_8 : jx_Go jxP d 17 8 [l0, l1, l2, l3, .int x, l5, l6, l7, l8] st h Q ↔ jx_Go jxP d 17 10 [l0, l1, l2, l3, .int x, l5, l6, l7, l8] (.int x :: st) h Q := jg_il rfl rfl
theorem s17_10 : jx_Go jxP d 17 10 [l0, l1, l2, l3, l4, l5, l6, l7, l8] st h Q ↔ jx_Go jxP d 17 11 [l0, l1, l2, l3, l4, l5, l6, l7, l8] (.int (nI 1) :: st) h Q := jg_c rfl
theorem s17_11 : jx_Go jxP d 17 11 [l0, l1, l2, l3, l4, l5, l6, l7, l8] (.int y :: .int x :: st) h Q ↔ jx_Go jxP d 17 12 [l0, l1, l2, l3, l4, l5, l6, l7, l8] (.int (x + y) :: st) h Q := jg_b (f := fun x y => x + y) rfl
theorem s17_12 : jx_Go jxP d 17 12 [.ref a, l1, l2, l3, l4, l5, l6, l7, l8] st h Q ↔ jx_Go jxP d 17 13 [.ref a, l1, l2, l3, l4, l5, l6, l7, l8] (.ref a :: st) h Q := jg_al rfl rfl
theorem s17_13 : jx_Go jxP d 17 13 [l0, l1, l2, l3, l4, l5, l6, l7, l8] (.ref a :: st) h Q ↔ ∃ v, jx_fl h a 2 3 = some v ∧ jx_Go jxP d 17 16 [l0, l1, l2, l3, l4, l5, l6, l7, l8] (v :: st) h Q := jg_gf rfl
theorem s17_16 : jx_Go jxP d 17 16 [l0, l1, l2, l3, l4, l5, l6, l7, l8] (.int y :: .int x :: st) h Q ↔ if y ≤ x then jx_Go jxP d 17 25 [l0, l1, l2, l3, l4, l5, l6, l7, l8] st h Q else jx_Go jxP d 17 19 [l0, l1, l2, l3, l4, l5, l6, l7, l8] st h Q := jg_icP rfl rfl
theorem s17_19 : jx_Go jxP d 17 19 [l0, l1, l2, .int x, l4, l5, l6, l7, l8] st h Q ↔ jx_Go jxP d 17 20 [l0, l1, l2, .int x, l4, l5, l6, l7, l8] (.int x :: st) h Q := jg_il rfl rfl
theorem s17_20 : jx_Go jxP d 17 20 [l0, l1, l2, l3, l4, l5, l6, l7, l8] st h Q ↔ jx_Go jxP d 17 22 [l0, l1, l2, l3, l4, l5, l6, l7, l8] (.int (nI 8) :: st) h Q := jg_c rfl
theorem s17_22 : jx_Go jxP d 17 22 [l0, l1, l2, l3, l4, l5, l6, l7, l8] (.int y :: .int x :: st) h Q ↔ if x ≤ y then jx_Go jxP d 17 27 [l0, l1, l2, l3, l4, l5, l6, l7, l8] st h Q else jx_Go jxP d 17 25 [l0, l1, l2, l3, l4, l5, l6, l7, l8] st h Q := jg_icP rfl rfl
theorem s17_25 : jx_Go jxP d 17 25 [l0, l1, l2, l3, l4, l5, l6, l7, l8] st h Q ↔ jx_Go jxP d 17 26 [l0, l1, l2, l3, l4, l5, l6, l7, l8] (.int (nI 0) :: st) h Q := jg_c rfl
theorem s17_26b0 : jx_Go jxP d 17 26 [l0, l1, l2, l3, l4, l5, l6, l7, l8] [.int (nI 0)] h Q ↔ Q [.int (nI 0)] h := jx_rt rfl rfl
theorem s17_26b1 : jx_Go jxP d 17 26 [l0, l1, l2, l3, l4, l5, l6, l7, l8] [.int (nI 1)] h Q ↔ Q [.int (nI 1)] h := jx_rt rfl rfl
theorem s17_27 : jx_Go jxP d 17 27 [.ref a, l1, l2, l3, l4, l5, l6, l7, l8] st h Q ↔ jx_Go jxP d 17 28 [.ref a, l1, l2, l3, l4, l5, l6, l7, l8] (.ref a :: st) h Q := jg_al rfl rfl
theorem s17_28 : jx_Go jxP d 17 28 [l0, l1, l2, l3, l4, l5, l6, l7, l8] (.ref a :: st) h Q ↔ ∃ v, jx_fl h a 2 2 = some v ∧ jx_Go jxP d 17 31 [l0, l1, l2, l3, l4, l5, l6, l7, l8] (v :: st) h Q := jg_gf rfl
theorem s17_31 : jx_Go jxP d 17 31 [l0, l1, l2, l3, .int x, l5, l6, l7, l8] st h Q ↔ jx_Go jxP d 17 33 [l0, l1, l2, l3, .int x, l5, l6, l7, l8] (.int x :: st) h Q := jg_il rfl rfl
theorem s17_33 : jx_Go jxP d 17 33 [l0, l1, l2, l3, l4, l5, l6, l7, l8] (.int x :: .ref a :: st) h Q ↔ ∃ q, jx_ai h a = some q ∧ jx_in x q.1 ∧ jx_Go jxP d 17 34 [l0, l1, l2, l3, l4, l5, l6, l7, l8] (.int (q.2 x.toNatClampNeg) :: st) h Q := jg_ia rfl
theorem s17_34 : jx_Go jxP d 17 34 [l0, l1, l2, l3, l4, l5, l6, l7, l8] (.int x :: st) h Q ↔ jx_Go jxP d 17 36 [l0, l1, l2, l3, l4, .int x, l6, l7, l8] st h Q := jg_is rfl rfl
theorem s17_36 : jx_Go jxP d 17 36 [.ref a, l1, l2, l3, l4, l5, l6, l7, l8] st h Q ↔ jx_Go jxP d 17 37 [.ref a, l1, l2, l3, l4, l5, l6, l7, l8] (.ref a :: st) h Q := jg_al rfl rfl
theorem s17_37 : jx_Go jxP d 17 37 [l0, l1, l2, l3, l4, l5, l6, l7, l8] (.ref a :: st) h Q ↔ ∃ v, jx_fl h a 2 2 = some v ∧ jx_Go jxP d 17 40 [l0, l1, l2, l3, l4, l5, l6, l7, l8] (v :: st) h Q := jg_gf rfl
theorem s17_40 : jx_Go jxP d 17 40 [l0, l1, l2, l3, .int x, l5, l6, l7, l8] st h Q ↔ jx_Go jxP d 17 42 [l0, l1, l2, l3, .int x, l5, l6, l7, l8] (.int x :: st) h Q := jg_il rfl rfl
theorem s17_42 : jx_Go jxP d 17 42 [l0, l1, l2, l3, l4, l5, l6, l7, l8] st h Q ↔ jx_Go jxP d 17 43 [l0, l1, l2, l3, l4, l5, l6, l7, l8] (.int (nI 1) :: st) h Q := jg_c rfl
theorem s17_43 : jx_Go jxP d 17 43 [l0, l1, l2, l3, l4, l5, l6, l7, l8] (.int y :: .int x :: st) h Q ↔ jx_Go jxP d 17 44 [l0, l1, l2, l3, l4, l5, l6, l7, l8] (.int (x + y) :: st) h Q := jg_b (f := fun x y => x + y) rfl
theorem s17_44 : jx_Go jxP d 17 44 [l0, l1, l2, l3, l4, l5, l6, l7, l8] (.int x :: .ref a :: st) h Q ↔ ∃ q, jx_ai h a = some q ∧ jx_in x q.1 ∧ jx_Go jxP d 17 45 [l0, l1, l2, l3, l4, l5, l6, l7, l8] (.int (q.2 x.toNatClampNeg) :: st) h Q := jg_ia rfl
theorem s17_45 : jx_Go jxP d 17 45 [l0, l1, l2, l3, l4, l5, l6, l7, l8] (.int x :: st) h Q ↔ jx_Go jxP d 17 47 [l0, l1, l2, l3, l4, l5, .int x, l7, l8] st h Q := jg_is rfl rfl
theorem s17_47 : jx_Go jxP d 17 47 [l0, l1, l2, l3, l4, .int x, l6, l7, l8] st h Q ↔ jx_Go jxP d 17 49 [l0, l1, l2, l3, l4, .int x, l6, l7, l8] (.int x :: st) h Q := jg_il rfl rfl
theorem s17_49 : jx_Go jxP d 17 49 [l0, l1, l2, l3, l4, l5, l6, l7, l8] st h Q ↔ jx_Go jxP d 17 50 [l0, l1, l2, l3, l4, l5, l6, l7, l8] (.int (nI 2) :: st) h Q := jg_c rfl
theorem s17_50 : jx_Go jxP d 17 50 [l0, l1, l2, l3, l4, l5, l6, l7, l8] (.int y :: .int x :: st) h Q ↔ if x = y then jx_Go jxP d 17 53 [l0, l1, l2, l3, l4, l5, l6, l7, l8] st h Q else jx_Go jxP d 17 63 [l0, l1, l2, l3, l4, l5, l6, l7, l8] st h Q := jg_icN rfl rfl
theorem s17_53 : jx_Go jxP d 17 53 [.ref a, l1, l2, l3, l4, l5, l6, l7, l8] st h Q ↔ jx_Go jxP d 17 54 [.ref a, l1, l2, l3, l4, l5, l6, l7, l8] (.ref a :: st) h Q := jg_al rfl rfl
theorem s17_54 : jx_Go jxP d 17 54 [l0, .int x, l2, l3, l4, l5, l6, l7, l8] st h Q ↔ jx_Go jxP d 17 55 [l0, .int x, l2, l3, l4, l5, l6, l7, l8] (.int x :: st) h Q := jg_il rfl rfl
theorem s17_55 : jx_Go jxP d 17 55 [l0, l1, .int x, l3, l4, l5, l6, l7, l8] st h Q ↔ jx_Go jxP d 17 56 [l0, l1, .int x, l3, l4, l5, l6, l7, l8] (.int x :: st) h Q := jg_il rfl rfl
theorem s17_56 : jx_Go jxP d 17 56 [l0, l1, l2, l3, l4, l5, .int x, l7, l8] st h Q ↔ jx_Go jxP d 17 58 [l0, l1, l2, l3, l4, l5, .int x, l7, l8] (.int x :: st) h Q := jg_il rfl rfl
theorem s17_58 : jx_Go jxP d 17 58 [l0, l1, l2, .int x, l4, l5, l6, l7, l8] st h Q ↔ jx_Go jxP d 17 59 [l0, l1, l2, .int x, l4, l5, l6, l7, l8] (.int x :: st) h Q := jg_il rfl rfl
theorem s17_59 : jx_Go jxP (d + 1) 17 59 [l0, l1, l2, l3, l4, l5, l6, l7, l8] (.int x3 :: .int x2 :: .int x1 :: .int x0 :: .ref a :: st) h Q ↔ (st.length ≤ 4 ∧ jx_cl h a = some 2 ∧ jx_Go jxP d 18 0 [.ref a, .int x0, .int x1, .int x2, .int x3] [] h (fun s1 h1 => jx_Go jxP (d + 1) 17 62 [l0, l1, l2, l3, l4, l5, l6, l7, l8] (s1 ++ st) h1 Q)) := jg_callV (as := [.int x3, .int x2, .int x1, .int x0, .ref a]) rfl rfl rfl rfl rfl
theorem s17_62b0 : jx_Go jxP d 17 62 [l0, l1, l2, l3, l4, l5, l6, l7, l8] [.int (nI 0)] h Q ↔ Q [.int (nI 0)] h := jx_rt rfl rfl
theorem s17_62b1 : jx_Go jxP d 17 62 [l0, l1, l2, l3, l4, l5, l6, l7, l8] [.int (nI 1)] h Q ↔ Q [.int (nI 1)] h := jx_rt rfl rfl
theorem s17_63 : jx_Go jxP d 17 63 [l0, l1, l2, l3, l4, .int x, l6, l7, l8] st h Q ↔ jx_Go jxP d 17 65 [l0, l1, l2, l3, l4, .int x, l6, l7, l8] (.int x :: st) h Q := jg_il rfl rfl
theorem s17_65 : jx_Go jxP d 17 65 [l0, l1, l2, l3, l4, l5, l6, l7, l8] (.int x :: st) h Q ↔ if x = 0 then jx_Go jxP d 17 76 [l0, l1, l2, l3, l4, l5, l6, l7, l8] st h Q else jx_Go jxP d 17 68 [l0, l1, l2, l3, l4, l5, l6, l7, l8] st h Q := jg_ifP rfl rfl
theorem s17_68 : jx_Go jxP d 17 68 [l0, l1, l2, l3, l4, .int x, l6, l7, l8] st h Q ↔ jx_Go jxP d 17 70 [l0, l1, l2, l3, l4, .int x, l6, l7, l8] (.int x :: st) h Q := jg_il rfl rfl
theorem s17_70 : jx_Go jxP d 17 70 [l0, l1, l2, l3, l4, l5, l6, l7, l8] st h Q ↔ jx_Go jxP d 17 71 [l0, l1, l2, l3, l4, l5, l6, l7, l8] (.int (nI 1) :: st) h Q := jg_c rfl
theorem s17_71 : jx_Go jxP d 17 71 [l0, l1, l2, l3, l4, l5, l6, l7, l8] (.int y :: .int x :: st) h Q ↔ if x = y then jx_Go jxP d 17 76 [l0, l1, l2, l3, l4, l5, l6, l7, l8] st h Q else jx_Go jxP d 17 74 [l0, l1, l2, l3, l4, l5, l6, l7, l8] st h Q := jg_icP rfl rfl
theorem s17_74 : jx_Go jxP d 17 74 [l0, l1, l2, l3, l4, l5, l6, l7, l8] st h Q ↔ jx_Go jxP d 17 75 [l0, l1, l2, l3, l4, l5, l6, l7, l8] (.int (nI 0) :: st) h Q := jg_c rfl
theorem s17_75b0 : jx_Go jxP d 17 75 [l0, l1, l2, l3, l4, l5, l6, l7, l8] [.int (nI 0)] h Q ↔ Q [.int (nI 0)] h := jx_rt rfl rfl
theorem s17_75b1 : jx_Go jxP d 17 75 [l0, l1, l2, l3, l4, l5, l6, l7, l8] [.int (nI 1)] h Q ↔ Q [.int (nI 1)] h := jx_rt rfl rfl
theorem s17_76 : jx_Go jxP d 17 76 [l0, l1, l2, l3, l4, .int x, l6, l7, l8] st h Q ↔ jx_Go jxP d 17 78 [l0, l1, l2, l3, l4, .int x, l6, l7, l8] (.int x :: st) h Q := jg_il rfl rfl
theorem s17_78 : jx_Go jxP d 17 78 [l0, l1, l2, l3, l4, l5, l6, l7, l8] (.int x :: st) h Q ↔ if x = 0 then jx_Go jxP d 17 81 [l0, l1, l2, l3, l4, l5, l6, l7, l8] st h Q else jx_Go jxP d 17 85 [l0, l1, l2, l3, l4, l5, l6, l7, l8] st h Q := jg_ifN rfl rfl
theorem s17_81 : jx_Go jxP d 17 81 [l0, .int x, l2, l3, l4, l5, l6, l7, l8] st h Q ↔ jx_Go jxP d 17 82 [l0, .int x, l2, l3, l4, l5, l6, l7, l8] (.int x :: st) h Q := jg_il rfl rfl
theorem s17_82 : jx_Go jxP d 17 82 [l0, l1, l2, l3, l4, l5, l6, l7, l8] st h Q ↔ jx_Go jxP d 17 86 [l0, l1, l2, l3, l4, l5, l6, l7, l8] st h Q := jg_go rfl
theorem s17_85 : jx_Go jxP d 17 85 [l0, l1, .int x, l3, l4, l5, l6, l7, l8] st h Q ↔ jx_Go jxP d 17 86 [l0, l1, .int x, l3, l4, l5, l6, l7, l8] (.int x :: st) h Q := jg_il rfl rfl
theorem s17_86 : jx_Go jxP d 17 86 [l0, l1, l2, l3, l4, l5, l6, l7, l8] (.int x :: st) h Q ↔ jx_Go jxP d 17 88 [l0, l1, l2, l3, l4, l5, l6, .int x, l8] st h Q := jg_is rfl rfl
theorem s17_88 : jx_Go jxP d 17 88 [l0, l1, l2, l3, l4, l5, l6, .int x, l8] st h Q ↔ jx_Go jxP d 17 90 [l0, l1, l2, l3, l4, l5, l6, .int x, l8] (.int x :: st) h Q := jg_il rfl rfl
theorem s17_90 : jx_Go jxP d 17 90 [l0, l1, l2, l3, l4, l5, l6, .int x, l8] st h Q ↔ jx_Go jxP d 17 92 [l0, l1, l2, l3, l4, l5, l6, .int x, l8] (.int x :: st) h Q := jg_il rfl rfl
theorem s17_92 : jx_Go jxP d 17 92 [l0, l1, l2, l3, l4, l5, l6, l7, l8] st h Q ↔ jx_Go jxP d 17 93 [l0, l1, l2, l3, l4, l5, l6, l7, l8] (.int (nI 1) :: st) h Q := jg_c rfl
theorem s17_93 : jx_Go jxP d 17 93 [l0, l1, l2, l3, l4, l5, l6, l7, l8] (.int y :: .int x :: st) h Q ↔ jx_Go jxP d 17 94 [l0, l1, l2, l3, l4, l5, l6, l7, l8] (.int (x - y) :: st) h Q := jg_b (f := fun x y => x - y) rfl
theorem s17_94 : jx_Go jxP d 17 94 [l0, l1, l2, l3, l4, l5, l6, l7, l8] (.int y :: .int x :: st) h Q ↔ jx_Go jxP d 17 95 [l0, l1, l2, l3, l4, l5, l6, l7, l8] (.int (x &&& y) :: st) h Q := jg_b (f := fun x y => x &&& y) rfl
theorem s17_95 : jx_Go jxP d 17 95 [l0, l1, l2, l3, l4, l5, l6, l7, l8] (.int x :: st) h Q ↔ jx_Go jxP d 17 97 [l0, l1, l2, l3, l4, l5, l6, l7, .int x] st h Q := jg_is rfl rfl
theorem s17_97 : jx_Go jxP d 17 97 [l0, l1, l2, l3, l4, l5, .int x, l7, l8] st h Q ↔ jx_Go jxP d 17 99 [l0, l1, l2, l3, l4, l5, .int x, l7, l8] (.int x :: st) h Q := jg_il rfl rfl
theorem s17_99 : jx_Go jxP d 17 99 [l0, l1, l2, l3, l4, l5, l6, l7, l8] (.int x :: st) h Q ↔ if x = 0 then jx_Go jxP d 17 112 [l0, l1, l2, l3, l4, l5, l6, l7, l8] st h Q else jx_Go jxP d 17 102 [l0, l1, l2, l3, l4, l5, l6, l7, l8] st h Q := jg_ifP rfl rfl
theorem s17_102 : jx_Go jxP d 17 102 [l0, l1, l2, l3, l4, l5, .int x, l7, l8] st h Q ↔ jx_Go jxP d 17 104 [l0, l1, l2, l3, l4, l5, .int x, l7, l8] (.int x :: st) h Q := jg_il rfl rfl
theorem s17_104 : jx_Go jxP d 17 104 [l0, l1, l2, l3, l4, l5, l6, l7, .int x] st h Q ↔ jx_Go jxP d 17 106 [l0, l1, l2, l3, l4, l5, l6, l7, .int x] (.int x :: st) h Q := jg_il rfl rfl
theorem s17_106 : jx_Go jxP d 17 106 [l0, l1, l2, l3, l4, l5, l6, l7, l8] (.int y :: .int x :: st) h Q ↔ jx_Go jxP d 17 107 [l0, l1, l2, l3, l4, l5, l6, l7, l8] (.int (x &&& y) :: st) h Q := jg_b (f := fun x y => x &&& y) rfl
theorem s17_107 : jx_Go jxP d 17 107 [l0, l1, l2, l3, l4, l5, .int x, l7, l8] st h Q ↔ jx_Go jxP d 17 109 [l0, l1, l2, l3, l4, l5, .int x, l7, l8] (.int x :: st) h Q := jg_il rfl rfl
theorem s17_109 : jx_Go jxP d 17 109 [l0, l1, l2, l3, l4, l5, l6, l7, l8] (.int y :: .int x :: st) h Q ↔ if x = y then jx_Go jxP d 17 114 [l0, l1, l2, l3, l4, l5, l6, l7, l8] st h Q else jx_Go jxP d 17 112 [l0, l1, l2, l3, l4, l5, l6, l7, l8] st h Q := jg_icP rfl rfl
theorem s17_112 : jx_Go jxP d 17 112 [l0, l1, l2, l3, l4, l5, l6, l7, l8] st h Q ↔ jx_Go jxP d 17 113 [l0, l1, l2, l3, l4, l5, l6, l7, l8] (.int (nI 0) :: st) h Q := jg_c rfl
theorem s17_113b0 : jx_Go jxP d 17 113 [l0, l1, l2, l3, l4, l5, l6, l7, l8] [.int (nI 0)] h Q ↔ Q [.int (nI 0)] h := jx_rt rfl rfl
theorem s17_113b1 : jx_Go jxP d 17 113 [l0, l1, l2, l3, l4, l5, l6, l7, l8] [.int (nI 1)] h Q ↔ Q [.int (nI 1)] h := jx_rt rfl rfl
theorem s17_114 : jx_Go jxP d 17 114 [.ref a, l1, l2, l3, l4, l5, l6, l7, l8] st h Q ↔ jx_Go jxP d 17 115 [.ref a, l1, l2, l3, l4, l5, l6, l7, l8] (.ref a :: st) h Q := jg_al rfl rfl
theorem s17_115i : jx_Go jxP d 17 115 [l0, l1, l2, l3, l4, l5, l6, l7, l8] (.int x :: st) h Q ↔ jx_Go jxP d 17 116 [l0, l1, l2, l3, l4, l5, l6, l7, l8] (.int x :: .int x :: st) h Q := jg_dI rfl
theorem s17_115r : jx_Go jxP d 17 115 [l0, l1, l2, l3, l4, l5, l6, l7, l8] (.ref a :: st) h Q ↔ jx_Go jxP d 17 116 [l0, l1, l2, l3, l4, l5, l6, l7, l8] (.ref a :: .ref a :: st) h Q := jg_dR rfl
theorem s17_116 : jx_Go jxP d 17 116 [l0, l1, l2, l3, l4, l5, l6, l7, l8] (.ref a :: st) h Q ↔ ∃ v, jx_fl h a 2 4 = some v ∧ jx_Go jxP d 17 119 [l0, l1, l2, l3, l4, l5, l6, l7, l8] (v :: st) h Q := jg_gf rfl
theorem s17_119 : jx_Go jxP d 17 119 [l0, l1, l2, l3, l4, l5, l6, l7, l8] st h Q ↔ jx_Go jxP d 17 120 [l0, l1, l2, l3, l4, l5, l6, l7, l8] (.int (nI 1) :: st) h Q := jg_c rfl
theorem s17_120 : jx_Go jxP d 17 120 [l0, l1, l2, l3, l4, l5, l6, l7, l8] (.int y :: .int x :: st) h Q ↔ jx_Go jxP d 17 121 [l0, l1, l2, l3, l4, l5, l6, l7, l8] (.int (x + y) :: st) h Q := jg_b (f := fun x y => x + y) rfl
theorem s17_121 : jx_Go jxP d 17 121 [l0, l1, l2, l3, l4, l5, l6, l7, l8] (.int x :: .ref a :: st) h Q ↔ ∃ v, jx_fl h a 2 4 = some v ∧ jx_Go jxP d 17 124 [l0, l1, l2, l3, l4, l5, l6, l7, l8] st (jx_uf h a 4 (.int x)) Q := jg_pfI rfl
theorem s17_124 : jx_Go jxP d 17 124 [l0, l1, l2, l3, l4, .int x, l6, l7, l8] st h Q ↔ jx_Go jxP d 17 126 [l0, l1, l2, l3, l4, .int x, l6, l7, l8] (.int x :: st) h Q := jg_il rfl rfl
theorem s17_126 : jx_Go jxP d 17 126 [l0, l1, l2, l3, l4, l5, l6, l7, l8] (.int x :: st) h Q ↔ if x = 0 then jx_Go jxP d 17 129 [l0, l1, l2, l3, l4, l5, l6, l7, l8] st h Q else jx_Go jxP d 17 163 [l0, l1, l2, l3, l4, l5, l6, l7, l8] st h Q := jg_ifN rfl rfl
theorem s17_129 : jx_Go jxP d 17 129 [.ref a, l1, l2, l3, l4, l5, l6, l7, l8] st h Q ↔ jx_Go jxP d 17 130 [.ref a, l1, l2, l3, l4, l5, l6, l7, l8] (.ref a :: st) h Q := jg_al rfl rfl
theorem s17_130 : jx_Go jxP d 17 130 [l0, .int x, l2, l3, l4, l5, l6, l7, l8] st h Q ↔ jx_Go jxP d 17 131 [l0, .int x, l2, l3, l4, l5, l6, l7, l8] (.int x :: st) h Q := jg_il rfl rfl
theorem s17_131 : jx_Go jxP d 17 131 [l0, l1, l2, l3, l4, l5, .int x, l7, l8] st h Q ↔ jx_Go jxP d 17 133 [l0, l1, l2, l3, l4, l5, .int x, l7, l8] (.int x :: st) h Q := jg_il rfl rfl
theorem s17_133 : jx_Go jxP d 17 133 [l0, l1, l2, l3, l4, l5, l6, l7, l8] (.int y :: .int x :: st) h Q ↔ jx_Go jxP d 17 134 [l0, l1, l2, l3, l4, l5, l6, l7, l8] (.int (x - y) :: st) h Q := jg_b (f := fun x y => x - y) rfl
theorem s17_134 : jx_Go jxP d 17 134 [l0, l1, .int x, l3, l4, l5, l6, l7, l8] st h Q ↔ jx_Go jxP d 17 135 [l0, l1, .int x, l3, l4, l5, l6, l7, l8] (.int x :: st) h Q := jg_il rfl rfl
theorem s17_135 : jx_Go jxP d 17 135 [l0, l1, l2, .int x, l4, l5, l6, l7, l8] st h Q ↔ jx_Go jxP d 17 136 [l0, l1, l2, .int x, l4, l5, l6, l7, l8] (.int x :: st) h Q := jg_il rfl rfl
theorem s17_136 : jx_Go jxP d 17 136 [l0, l1, l2, l3, l4, l5, l6, l7, l8] st h Q ↔ jx_Go jxP d 17 137 [l0, l1, l2, l3, l4, l5, l6, l7, l8] (.int (nI 1) :: st) h Q := jg_c rfl
theorem s17_137 : jx_Go jxP d 17 137 [l0, l1, l2, l3, l4, l5, l6, l7, l8] (.int y :: .int x :: st) h Q ↔ jx_Go jxP d 17 138 [l0, l1, l2, l3, l4, l5, l6, l7, l8] (.int (x + y) :: st) h Q := jg_b (f := fun x y => x + y) rfl
theorem s17_138 : jx_Go jxP (d + 1) 17 138 [l0, l1, l2, l3, l4, l5, l6, l7, l8] (.int x2 :: .int x1 :: .int x0 :: .ref a :: st) h Q ↔ (st.length ≤ 4 ∧ jx_cl h a = some 2 ∧ jx_Go jxP d 17 0 [.ref a, .int x0, .int x1, .int x2, jx_u, jx_u, jx_u, jx_u, jx_u] [] h (fun s1 h1 => jx_Go jxP (d + 1) 17 141 [l0, l1, l2, l3, l4, l5, l6, l7, l8] (s1 ++ st) h1 Q)) := jg_callV (as := [.int x2, .int x1, .int x0, .ref a]) rfl rfl rfl rfl rfl
theorem s17_141 : jx_Go jxP d 17 141 [l0, l1, l2, l3, l4, l5, l6, l7, l8] (.int x :: st) h Q ↔ if x = 0 then jx_Go jxP d 17 161 [l0, l1, l2, l3, l4, l5, l6, l7, l8] st h Q else jx_Go jxP d 17 144 [l0, l1, l2, l3, l4, l5, l6, l7, l8] st h Q := jg_ifP rfl rfl
theorem s17_144 : jx_Go jxP d 17 144 [.ref a, l1, l2, l3, l4, l5, l6, l7, l8] st h Q ↔ jx_Go jxP d 17 145 [.ref a, l1, l2, l3, l4, l5, l6, l7, l8] (.ref a :: st) h Q := jg_al rfl rfl
theorem s17_145 : jx_Go jxP d 17 145 [l0, l1, l2, l3, l4, l5, .int x, l7, l8] st h Q ↔ jx_Go jxP d 17 147 [l0, l1, l2, l3, l4, l5, .int x, l7, l8] (.int x :: st) h Q := jg_il rfl rfl
theorem s17_147 : jx_Go jxP d 17 147 [l0, l1, .int x, l3, l4, l5, l6, l7, l8] st h Q ↔ jx_Go jxP d 17 148 [l0, l1, .int x, l3, l4, l5, l6, l7, l8] (.int x :: st) h Q := jg_il rfl rfl
theorem s17_148 : jx_Go jxP d 17 148 [l0, l1, l2, .int x, l4, l5, l6, l7, l8] st h Q ↔ jx_Go jxP d 17 149 [l0, l1, l2, .int x, l4, l5, l6, l7, l8] (.int x :: st) h Q := jg_il rfl rfl
theorem s17_149 : jx_Go jxP d 17 149 [l0, l1, l2, l3, l4, l5, l6, l7, l8] st h Q ↔ jx_Go jxP d 17 150 [l0, l1, l2, l3, l4, l5, l6, l7, l8] (.int (nI 1) :: st) h Q := jg_c rfl
theorem s17_150 : jx_Go jxP d 17 150 [l0, l1, l2, l3, l4, l5, l6, l7, l8] (.int y :: .int x :: st) h Q ↔ jx_Go jxP d 17 151 [l0, l1, l2, l3, l4, l5, l6, l7, l8] (.int (x + y) :: st) h Q := jg_b (f := fun x y => x + y) rfl
theorem s17_151 : jx_Go jxP (d + 1) 17 151 [l0, l1, l2, l3, l4, l5, l6, l7, l8] (.int x2 :: .int x1 :: .int x0 :: .ref a :: st) h Q ↔ (st.length ≤ 4 ∧ jx_cl h a = some 2 ∧ jx_Go jxP d 17 0 [.ref a, .int x0, .int x1, .int x2, jx_u, jx_u, jx_u, jx_u, jx_u] [] h (fun s1 h1 => jx_Go jxP (d + 1) 17 154 [l0, l1, l2, l3, l4, l5, l6, l7, l8] (s1 ++ st) h1 Q)) := jg_callV (as := [.int x2, .int x1, .int x0, .ref a]) rfl rfl rfl rfl rfl
theorem s17_154 : jx_Go jxP d 17 154 [l0, l1, l2, l3, l4, l5, l6, l7, l8] (.int x :: st) h Q ↔ if x = 0 then jx_Go jxP d 17 161 [l0, l1, l2, l3, l4, l5, l6, l7, l8] st h Q else jx_Go jxP d 17 157 [l0, l1, l2, l3, l4, l5, l6, l7, l8] st h Q := jg_ifP rfl rfl
theorem s17_157 : jx_Go jxP d 17 157 [l0, l1, l2, l3, l4, l5, l6, l7, l8] st h Q ↔ jx_Go jxP d 17 158 [l0, l1, l2, l3, l4, l5, l6, l7, l8] (.int (nI 1) :: st) h Q := jg_c rfl
theorem s17_158 : jx_Go jxP d 17 158 [l0, l1, l2, l3, l4, l5, l6, l7, l8] st h Q ↔ jx_Go jxP d 17 162 [l0, l1, l2, l3, l4, l5, l6, l7, l8] st h Q := jg_go rfl
theorem s17_161 : jx_Go jxP d 17 161 [l0, l1, l2, l3, l4, l5, l6, l7, l8] st h Q ↔ jx_Go jxP d 17 162 [l0, l1, l2, l3, l4, l5, l6, l7, l8] (.int (nI 0) :: st) h Q := jg_c rfl
theorem s17_162b0 : jx_Go jxP d 17 162 [l0, l1, l2, l3, l4, l5, l6, l7, l8] [.int (nI 0)] h Q ↔ Q [.int (nI 0)] h := jx_rt rfl rfl
theorem s17_162b1 : jx_Go jxP d 17 162 [l0, l1, l2, l3, l4, l5, l6, l7, l8] [.int (nI 1)] h Q ↔ Q [.int (nI 1)] h := jx_rt rfl rfl
theorem s17_163 : jx_Go jxP d 17 163 [.ref a, l1, l2, l3, l4, l5, l6, l7, l8] st h Q ↔ jx_Go jxP d 17 164 [.ref a, l1, l2, l3, l4, l5, l6, l7, l8] (.ref a :: st) h Q := jg_al rfl rfl
theorem s17_164 : jx_Go jxP d 17 164 [l0, .int x, l2, l3, l4, l5, l6, l7, l8] st h Q ↔ jx_Go jxP d 17 165 [l0, .int x, l2, l3, l4, l5, l6, l7, l8] (.int x :: st) h Q := jg_il rfl rfl
theorem s17_165 : jx_Go jxP d 17 165 [l0, l1, .int x, l3, l4, l5, l6, l7, l8] st h Q ↔ jx_Go jxP d 17 166 [l0, l1, .int x, l3, l4, l5, l6, l7, l8] (.int x :: st) h Q := jg_il rfl rfl
theorem s17_166 : jx_Go jxP d 17 166 [l0, l1, l2, l3, l4, l5, .int x, l7, l8] st h Q ↔ jx_Go jxP d 17 168 [l0, l1, l2, l3, l4, l5, .int x, l7, l8] (.int x :: st) h Q := jg_il rfl rfl
theorem s17_168 : jx_Go jxP d 17 168 [l0, l1, l2, l3, l4, l5, l6, l7, l8] (.int y :: .int x :: st) h Q ↔ jx_Go jxP d 17 169 [l0, l1, l2, l3, l4, l5, l6, l7, l8] (.int (x - y) :: st) h Q := jg_b (f := fun x y => x - y) rfl
theorem s17_169 : jx_Go jxP d 17 169 [l0, l1, l2, .int x, l4, l5, l6, l7, l8] st h Q ↔ jx_Go jxP d 17 170 [l0, l1, l2, .int x, l4, l5, l6, l7, l8] (.int x :: st) h Q := jg_il rfl rfl
theorem s17_170 : jx_Go jxP d 17 170 [l0, l1, l2, l3, l4, l5, l6, l7, l8] st h Q ↔ jx_Go jxP d 17 171 [l0, l1, l2, l3, l4, l5, l6, l7, l8] (.int (nI 1) :: st) h Q := jg_c rfl
theorem s17_171 : jx_Go jxP d 17 171 [l0, l1, l2, l3, l4, l5, l6, l7, l8] (.int y :: .int x :: st) h Q ↔ jx_Go jxP d 17 172 [l0, l1, l2, l3, l4, l5, l6, l7, l8] (.int (x + y) :: st) h Q := jg_b (f := fun x y => x + y) rfl
theorem s17_172 : jx_Go jxP (d + 1) 17 172 [l0, l1, l2, l3, l4, l5, l6, l7, l8] (.int x2 :: .int x1 :: .int x0 :: .ref a :: st) h Q ↔ (st.length ≤ 4 ∧ jx_cl h a = some 2 ∧ jx_Go jxP d 17 0 [.ref a, .int x0, .int x1, .int x2, jx_u, jx_u, jx_u, jx_u, jx_u] [] h (fun s1 h1 => jx_Go jxP (d + 1) 17 175 [l0, l1, l2, l3, l4, l5, l6, l7, l8] (s1 ++ st) h1 Q)) := jg_callV (as := [.int x2, .int x1, .int x0, .ref a]) rfl rfl rfl rfl rfl
theorem s17_175 : jx_Go jxP d 17 175 [l0, l1, l2, l3, l4, l5, l6, l7, l8] (.int x :: st) h Q ↔ if x = 0 then jx_Go jxP d 17 195 [l0, l1, l2, l3, l4, l5, l6, l7, l8] st h Q else jx_Go jxP d 17 178 [l0, l1, l2, l3, l4, l5, l6, l7, l8] st h Q := jg_ifP rfl rfl
theorem s17_178 : jx_Go jxP d 17 178 [.ref a, l1, l2, l3, l4, l5, l6, l7, l8] st h Q ↔ jx_Go jxP d 17 179 [.ref a, l1, l2, l3, l4, l5, l6, l7, l8] (.ref a :: st) h Q := jg_al rfl rfl
theorem s17_179 : jx_Go jxP d 17 179 [l0, .int x, l2, l3, l4, l5, l6, l7, l8] st h Q ↔ jx_Go jxP d 17 180 [l0, .int x, l2, l3, l4, l5, l6, l7, l8] (.int x :: st) h Q := jg_il rfl rfl
theorem s17_180 : jx_Go jxP d 17 180 [l0, l1, l2, l3, l4, l5, .int x, l7, l8] st h Q ↔ jx_Go jxP d 17 182 [l0, l1, l2, l3, l4, l5, .int x, l7, l8] (.int x :: st) h Q := jg_il rfl rfl
theorem s17_182 : jx_Go jxP d 17 182 [l0, l1, l2, .int x, l4, l5, l6, l7, l8] st h Q ↔ jx_Go jxP d 17 183 [l0, l1, l2, .int x, l4, l5, l6, l7, l8] (.int x :: st) h Q := jg_il rfl rfl
theorem s17_183 : jx_Go jxP d 17 183 [l0, l1, l2, l3, l4, l5, l6, l7, l8] st h Q ↔ jx_Go jxP d 17 184 [l0, l1, l2, l3, l4, l5, l6, l7, l8] (.int (nI 1) :: st) h Q := jg_c rfl
theorem s17_184 : jx_Go jxP d 17 184 [l0, l1, l2, l3, l4, l5, l6, l7, l8] (.int y :: .int x :: st) h Q ↔ jx_Go jxP d 17 185 [l0, l1, l2, l3, l4, l5, l6, l7, l8] (.int (x + y) :: st) h Q := jg_b (f := fun x y => x + y) rfl
theorem s17_185 : jx_Go jxP (d + 1) 17 185 [l0, l1, l2, l3, l4, l5, l6, l7, l8] (.int x2 :: .int x1 :: .int x0 :: .ref a :: st) h Q ↔ (st.length ≤ 4 ∧ jx_cl h a = some 2 ∧ jx_Go jxP d 17 0 [.ref a, .int x0, .int x1, .int x2, jx_u, jx_u, jx_u, jx_u, jx_u] [] h (fun s1 h1 => jx_Go jxP (d + 1) 17 188 [l0, l1, l2, l3, l4, l5, l6, l7, l8] (s1 ++ st) h1 Q)) := jg_callV (as := [.int x2, .int x1, .int x0, .ref a]) rfl rfl rfl rfl rfl
theorem s17_188 : jx_Go jxP d 17 188 [l0, l1, l2, l3, l4, l5, l6, l7, l8] (.int x :: st) h Q ↔ if x = 0 then jx_Go jxP d 17 195 [l0, l1, l2, l3, l4, l5, l6, l7, l8] st h Q else jx_Go jxP d 17 191 [l0, l1, l2, l3, l4, l5, l6, l7, l8] st h Q := jg_ifP rfl rfl
theorem s17_191 : jx_Go jxP d 17 191 [l0, l1, l2, l3, l4, l5, l6, l7, l8] st h Q ↔ jx_Go jxP d 17 192 [l0, l1, l2, l3, l4, l5, l6, l7, l8] (.int (nI 1) :: st) h Q := jg_c rfl
theorem s17_192 : jx_Go jxP d 17 192 [l0, l1, l2, l3, l4, l5, l6, l7, l8] st h Q ↔ jx_Go jxP d 17 196 [l0, l1, l2, l3, l4, l5, l6, l7, l8] st h Q := jg_go rfl
theorem s17_195 : jx_Go jxP d 17 195 [l0, l1, l2, l3, l4, l5, l6, l7, l8] st h Q ↔ jx_Go jxP d 17 196 [l0, l1, l2, l3, l4, l5, l6, l7, l8] (.int (nI 0) :: st) h Q := jg_c rfl
theorem s17_196b0 : jx_Go jxP d 17 196 [l0, l1, l2, l3, l4, l5, l6, l7, l8] [.int (nI 0)] h Q ↔ Q [.int (nI 0)] h := jx_rt rfl rfl
theorem s17_196b1 : jx_Go jxP d 17 196 [l0, l1, l2, l3, l4, l5, l6, l7, l8] [.int (nI 1)] h Q ↔ Q [.int (nI 1)] h := jx_rt rfl rfl
-- 18 TalkBench$Judge.endIsRight
theorem s18_0 : jx_Go jxP d 18 0 [l0, l1, l2, .int x, l4] st h Q ↔ jx_Go jxP d 18 1 [l0, l1, l2, .int x, l4] (.int x :: st) h Q := jg_il rfl rfl
theorem s18_1 : jx_Go jxP (d + 1) 18 1 [l0, l1, l2, l3, l4] (.int x0 :: st) h Q ↔ (st.length ≤ 4 ∧ jx_Go jxP d 124 0 [.int x0] [] h (fun s1 h1 => jx_Go jxP (d + 1) 18 4 [l0, l1, l2, l3, l4] (s1 ++ st) h1 Q)) := jg_callS (as := [.int x0]) rfl rfl rfl rfl
theorem s18_4 : jx_Go jxP d 18 4 [l0, l1, l2, l3, l4] (.int x :: st) h Q ↔ if x = 0 then jx_Go jxP d 18 7 [l0, l1, l2, l3, l4] st h Q else jx_Go jxP d 18 23 [l0, l1, l2, l3, l4] st h Q := jg_ifN rfl rfl
theorem s18_7 : jx_Go jxP d 18 7 [.ref a, l1, l2, l3, l4] st h Q ↔ jx_Go jxP d 18 8 [.ref a, l1, l2, l3, l4] (.ref a :: st) h Q := jg_al rfl rfl
theorem s18_8 : jx_Go jxP d 18 8 [l0, l1, l2, l3, l4] (.ref a :: st) h Q ↔ ∃ v, jx_fl h a 2 1 = some v ∧ jx_Go jxP d 18 11 [l0, l1, l2, l3, l4] (v :: st) h Q := jg_gf rfl
theorem s18_11 : jx_Go jxP d 18 11 [l0, l1, l2, l3, l4] st h Q ↔ jx_Go jxP d 18 12 [l0, l1, l2, l3, l4] (.int (nI 1) :: st) h Q := jg_c rfl
theorem s18_12 : jx_Go jxP d 18 12 [l0, l1, l2, .int x, l4] st h Q ↔ jx_Go jxP d 18 13 [l0, l1, l2, .int x, l4] (.int x :: st) h Q := jg_il rfl rfl
theorem s18_13 : jx_Go jxP d 18 13 [l0, l1, l2, l3, l4] (.int y :: .int x :: st) h Q ↔ jx_Go jxP d 18 14 [l0, l1, l2, l3, l4] (.int (x - y) :: st) h Q := jg_b (f := fun x y => x - y) rfl
theorem s18_14 : jx_Go jxP d 18 14 [l0, .int x, l2, l3, l4] st h Q ↔ jx_Go jxP d 18 15 [l0, .int x, l2, l3, l4] (.int x :: st) h Q := jg_il rfl rfl
theorem s18_15 : jx_Go jxP (d + 1) 18 15 [l0, l1, l2, l3, l4] (.int x1 :: .int x0 :: .ref a :: st) h Q ↔ (st.length ≤ 4 ∧ jx_cl h a = some 4 ∧ jx_Go jxP d 32 0 [.ref a, .int x0, .int x1] [] h (fun s1 h1 => jx_Go jxP (d + 1) 18 18 [l0, l1, l2, l3, l4] (s1 ++ st) h1 Q)) := jg_callV (as := [.int x1, .int x0, .ref a]) rfl rfl rfl rfl rfl
theorem s18_18 : jx_Go jxP d 18 18 [l0, l1, .int x, l3, l4] st h Q ↔ jx_Go jxP d 18 19 [l0, l1, .int x, l3, l4] (.int x :: st) h Q := jg_il rfl rfl
theorem s18_19 : jx_Go jxP d 18 19 [l0, l1, l2, l3, l4] (.int y :: .int x :: st) h Q ↔ jx_Go jxP d 18 20 [l0, l1, l2, l3, l4] (.int (x &&& y) :: st) h Q := jg_b (f := fun x y => x &&& y) rfl
theorem s18_20 : jx_Go jxP d 18 20 [l0, l1, l2, l3, l4] (.int x :: st) h Q ↔ if x = 0 then jx_Go jxP d 18 25 [l0, l1, l2, l3, l4] st h Q else jx_Go jxP d 18 23 [l0, l1, l2, l3, l4] st h Q := jg_ifP rfl rfl
theorem s18_23 : jx_Go jxP d 18 23 [l0, l1, l2, l3, l4] st h Q ↔ jx_Go jxP d 18 24 [l0, l1, l2, l3, l4] (.int (nI 0) :: st) h Q := jg_c rfl
theorem s18_24b0 : jx_Go jxP d 18 24 [l0, l1, l2, l3, l4] [.int (nI 0)] h Q ↔ Q [.int (nI 0)] h := jx_rt rfl rfl
theorem s18_24b1 : jx_Go jxP d 18 24 [l0, l1, l2, l3, l4] [.int (nI 1)] h Q ↔ Q [.int (nI 1)] h := jx_rt rfl rfl
theorem s18_25 : jx_Go jxP d 18 25 [.ref a, l1, l2, l3, l4] st h Q ↔ jx_Go jxP d 18 26 [.ref a, l1, l2, l3, l4] (.ref a :: st) h Q := jg_al rfl rfl
theorem s18_26i : jx_Go jxP d 18 26 [l0, l1, l2, l3, l4] (.int x :: st) h Q ↔ jx_Go jxP d 18 27 [l0, l1, l2, l3, l4] (.int x :: .int x :: st) h Q := jg_dI rfl
theorem s18_26r : jx_Go jxP d 18 26 [l0, l1, l2, l3, l4] (.ref a :: st) h Q ↔ jx_Go jxP d 18 27 [l0, l1, l2, l3, l4] (.ref a :: .ref a :: st) h Q := jg_dR rfl
theorem s18_27 : jx_Go jxP d 18 27 [l0, l1, l2, l3, l4] (.ref a :: st) h Q ↔ ∃ v, jx_fl h a 2 4 = some v ∧ jx_Go jxP d 18 30 [l0, l1, l2, l3, l4] (v :: st) h Q := jg_gf rfl
theorem s18_30 : jx_Go jxP d 18 30 [l0, l1, l2, l3, l4] st h Q ↔ jx_Go jxP d 18 31 [l0, l1, l2, l3, l4] (.int (nI 1) :: st) h Q := jg_c rfl
theorem s18_31 : jx_Go jxP d 18 31 [l0, l1, l2, l3, l4] (.int y :: .int x :: st) h Q ↔ jx_Go jxP d 18 32 [l0, l1, l2, l3, l4] (.int (x + y) :: st) h Q := jg_b (f := fun x y => x + y) rfl
theorem s18_32 : jx_Go jxP d 18 32 [l0, l1, l2, l3, l4] (.int x :: .ref a :: st) h Q ↔ ∃ v, jx_fl h a 2 4 = some v ∧ jx_Go jxP d 18 35 [l0, l1, l2, l3, l4] st (jx_uf h a 4 (.int x)) Q := jg_pfI rfl
theorem s18_35 : jx_Go jxP d 18 35 [.ref a, l1, l2, l3, l4] st h Q ↔ jx_Go jxP d 18 36 [.ref a, l1, l2, l3, l4] (.ref a :: st) h Q := jg_al rfl rfl
theorem s18_36 : jx_Go jxP d 18 36 [.ref a, l1, l2, l3, l4] st h Q ↔ jx_Go jxP d 18 37 [.ref a, l1, l2, l3, l4] (.ref a :: st) h Q := jg_al rfl rfl
theorem s18_37 : jx_Go jxP d 18 37 [l0, l1, l2, l3, l4] (.ref a :: st) h Q ↔ ∃ v, jx_fl h a 2 5 = some v ∧ jx_Go jxP d 18 40 [l0, l1, l2, l3, l4] (v :: st) h Q := jg_gf rfl
theorem s18_40 : jx_Go jxP d 18 40 [l0, l1, l2, l3, .int x] st h Q ↔ jx_Go jxP d 18 42 [l0, l1, l2, l3, .int x] (.int x :: st) h Q := jg_il rfl rfl
theorem s18_42 : jx_Go jxP d 18 42 [l0, l1, l2, l3, l4] (.int y :: .int x :: st) h Q ↔ (st.length ≤ 4 ∧ jx_Go jxP d 18 45 [l0, l1, l2, l3, l4] (.int (if x < y then y else x) :: st) h Q) := jg_m2 (f := fun x y => if x < y then y else x) rfl
theorem s18_45 : jx_Go jxP d 18 45 [l0, l1, l2, l3, l4] (.int x :: .ref a :: st) h Q ↔ ∃ v, jx_fl h a 2 5 = some v ∧ jx_Go jxP d 18 48 [l0, l1, l2, l3, l4] st (jx_uf h a 5 (.int x)) Q := jg_pfI rfl
theorem s18_48 : jx_Go jxP d 18 48 [l0, l1, l2, l3, l4] st h Q ↔ jx_Go jxP d 18 49 [l0, l1, l2, l3, l4] (.int (nI 1) :: st) h Q := jg_c rfl
theorem s18_49b0 : jx_Go jxP d 18 49 [l0, l1, l2, l3, l4] [.int (nI 0)] h Q ↔ Q [.int (nI 0)] h := jx_rt rfl rfl
theorem s18_49b1 : jx_Go jxP d 18 49 [l0, l1, l2, l3, l4] [.int (nI 1)] h Q ↔ Q [.int (nI 1)] h := jx_rt rfl rfl
-- 19 TalkBench$Judge.judgeFooling
theorem s19_0 : jx_Go jxP d 19 0 [l0, l1, l2] st h Q ↔ jx_Go jxP d 19 1 [l0, l1, l2] (.int (nI 0) :: st) h Q := jg_c rfl
theorem s19_1 : jx_Go jxP d 19 1 [l0, l1, l2] (.int x :: st) h Q ↔ jx_Go jxP d 19 2 [l0, l1, .int x] st h Q := jg_is rfl rfl
theorem s19_2 : jx_Go jxP d 19 2 [l0, l1, .int x] st h Q ↔ jx_Go jxP d 19 3 [l0, l1, .int x] (.int x :: st) h Q := jg_il rfl rfl
theorem s19_3 : jx_Go jxP d 19 3 [.ref a, l1, l2] st h Q ↔ jx_Go jxP d 19 4 [.ref a, l1, l2] (.ref a :: st) h Q := jg_al rfl rfl
theorem s19_4 : jx_Go jxP d 19 4 [l0, l1, l2] (.ref a :: st) h Q ↔ ∃ v, jx_fl h a 2 3 = some v ∧ jx_Go jxP d 19 7 [l0, l1, l2] (v :: st) h Q := jg_gf rfl
theorem s19_7 : jx_Go jxP d 19 7 [l0, l1, l2] (.int y :: .int x :: st) h Q ↔ if y ≤ x then jx_Go jxP d 19 53 [l0, l1, l2] st h Q else jx_Go jxP d 19 10 [l0, l1, l2] st h Q := jg_icP rfl rfl
theorem s19_10 : jx_Go jxP d 19 10 [.ref a, l1, l2] st h Q ↔ jx_Go jxP d 19 11 [.ref a, l1, l2] (.ref a :: st) h Q := jg_al rfl rfl
theorem s19_11 : jx_Go jxP d 19 11 [l0, l1, l2] (.ref a :: st) h Q ↔ ∃ v, jx_fl h a 2 2 = some v ∧ jx_Go jxP d 19 14 [l0, l1, l2] (v :: st) h Q := jg_gf rfl
theorem s19_14 : jx_Go jxP d 19 14 [l0, l1, .int x] st h Q ↔ jx_Go jxP d 19 15 [l0, l1, .int x] (.int x :: st) h Q := jg_il rfl rfl
theorem s19_15 : jx_Go jxP d 19 15 [l0, l1, l2] (.int x :: .ref a :: st) h Q ↔ ∃ q, jx_ai h a = some q ∧ jx_in x q.1 ∧ jx_Go jxP d 19 16 [l0, l1, l2] (.int (q.2 x.toNatClampNeg) :: st) h Q := jg_ia rfl
theorem s19_16 : jx_Go jxP d 19 16 [l0, l1, l2] (.int x :: st) h Q ↔ if x < 0 then jx_Go jxP d 19 45 [l0, l1, l2] st h Q else jx_Go jxP d 19 19 [l0, l1, l2] st h Q := jg_ifP rfl rfl
theorem s19_19 : jx_Go jxP d 19 19 [.ref a, l1, l2] st h Q ↔ jx_Go jxP d 19 20 [.ref a, l1, l2] (.ref a :: st) h Q := jg_al rfl rfl
theorem s19_20 : jx_Go jxP d 19 20 [l0, l1, l2] (.ref a :: st) h Q ↔ ∃ v, jx_fl h a 2 0 = some v ∧ jx_Go jxP d 19 23 [l0, l1, l2] (v :: st) h Q := jg_gf rfl
theorem s19_23 : jx_Go jxP d 19 23 [.ref a, l1, l2] st h Q ↔ jx_Go jxP d 19 24 [.ref a, l1, l2] (.ref a :: st) h Q := jg_al rfl rfl
theorem s19_24 : jx_Go jxP d 19 24 [l0, l1, l2] (.ref a :: st) h Q ↔ ∃ v, jx_fl h a 2 2 = some v ∧ jx_Go jxP d 19 27 [l0, l1, l2] (v :: st) h Q := jg_gf rfl
theorem s19_27 : jx_Go jxP d 19 27 [l0, l1, .int x] st h Q ↔ jx_Go jxP d 19 28 [l0, l1, .int x] (.int x :: st) h Q := jg_il rfl rfl
theorem s19_28 : jx_Go jxP d 19 28 [l0, l1, l2] (.int x :: .ref a :: st) h Q ↔ ∃ q, jx_ai h a = some q ∧ jx_in x q.1 ∧ jx_Go jxP d 19 29 [l0, l1, l2] (.int (q.2 x.toNatClampNeg) :: st) h Q := jg_ia rfl
theorem s19_29 : jx_Go jxP d 19 29 [l0, l1, l2] st h Q ↔ jx_Go jxP d 19 30 [l0, l1, l2] (.int (nI 5) :: st) h Q := jg_c rfl
theorem s19_30 : jx_Go jxP d 19 30 [l0, l1, l2] (.int y :: .int x :: st) h Q ↔ (¬ y = 0 ∧ jx_Go jxP d 19 31 [l0, l1, l2] (.int (x / y) :: st) h Q) := jg_q (f := fun x y => x / y) rfl
theorem s19_31 : jx_Go jxP d 19 31 [.ref a, l1, l2] st h Q ↔ jx_Go jxP d 19 32 [.ref a, l1, l2] (.ref a :: st) h Q := jg_al rfl rfl
theorem s19_32 : jx_Go jxP d 19 32 [l0, l1, l2] (.ref a :: st) h Q ↔ ∃ v, jx_fl h a 2 2 = some v ∧ jx_Go jxP d 19 35 [l0, l1, l2] (v :: st) h Q := jg_gf rfl
theorem s19_35 : jx_Go jxP d 19 35 [l0, l1, .int x] st h Q ↔ jx_Go jxP d 19 36 [l0, l1, .int x] (.int x :: st) h Q := jg_il rfl rfl
theorem s19_36 : jx_Go jxP d 19 36 [l0, l1, l2] (.int x :: .ref a :: st) h Q ↔ ∃ q, jx_ai h a = some q ∧ jx_in x q.1 ∧ jx_Go jxP d 19 37 [l0, l1, l2] (.int (q.2 x.toNatClampNeg) :: st) h Q := jg_ia rfl
theorem s19_37 : jx_Go jxP d 19 37 [l0, l1, l2] st h Q ↔ jx_Go jxP d 19 38 [l0, l1, l2] (.int (nI 5) :: st) h Q := jg_c rfl
theorem s19_38 : jx_Go jxP d 19 38 [l0, l1, l2] (.int y :: .int x :: st) h Q ↔ (¬ y = 0 ∧ jx_Go jxP d 19 39 [l0, l1, l2] (.int (x - x / y * y) :: st) h Q) := jg_q (f := fun x y => x - x / y * y) rfl
theorem s19_39 : jx_Go jxP (d + 1) 19 39 [l0, l1, l2] (.int x1 :: .int x0 :: .ref a :: st) h Q ↔ (st.length ≤ 4 ∧ jx_cl h a = some 10 ∧ jx_Go jxP d 69 0 [.ref a, .int x0, .int x1] [] h (fun s1 h1 => jx_Go jxP (d + 1) 19 42 [l0, l1, l2] (s1 ++ st) h1 Q)) := jg_callV (as := [.int x1, .int x0, .ref a]) rfl rfl rfl rfl rfl
theorem s19_42 : jx_Go jxP d 19 42 [l0, l1, l2] (.int x :: st) h Q ↔ if x = 0 then jx_Go jxP d 19 45 [l0, l1, l2] st h Q else jx_Go jxP d 19 47 [l0, l1, l2] st h Q := jg_ifN rfl rfl
theorem s19_45 : jx_Go jxP d 19 45 [l0, l1, l2] st h Q ↔ jx_Go jxP d 19 46 [l0, l1, l2] (.int (-1) :: st) h Q := jg_c rfl
theorem s19_46 : jx_Go jxP d 19 46 [l0, l1, l2] [.int x] h Q ↔ Q [.int x] h := jx_rt rfl rfl
theorem s19_47 : jx_Go jxP d 19 47 [l0, l1, .int x] st h Q ↔ jx_Go jxP d 19 50 [l0, l1, .int (x + (nI 1))] st h Q := jg_inc rfl rfl rfl
theorem s19_50 : jx_Go jxP d 19 50 [l0, l1, l2] st h Q ↔ jx_Go jxP d 19 2 [l0, l1, l2] st h Q := jg_go rfl
theorem s19_53 : jx_Go jxP d 19 53 [l0, l1, l2] st h Q ↔ jx_Go jxP d 19 54 [l0, l1, l2] (.int (nI 0) :: st) h Q := jg_c rfl
theorem s19_54 : jx_Go jxP d 19 54 [l0, l1, l2] (.int x :: st) h Q ↔ jx_Go jxP d 19 55 [l0, l1, .int x] st h Q := jg_is rfl rfl
theorem s19_55 : jx_Go jxP d 19 55 [l0, l1, .int x] st h Q ↔ jx_Go jxP d 19 56 [l0, l1, .int x] (.int x :: st) h Q := jg_il rfl rfl
theorem s19_56 : jx_Go jxP d 19 56 [.ref a, l1, l2] st h Q ↔ jx_Go jxP d 19 57 [.ref a, l1, l2] (.ref a :: st) h Q := jg_al rfl rfl
theorem s19_57 : jx_Go jxP d 19 57 [l0, l1, l2] (.ref a :: st) h Q ↔ ∃ v, jx_fl h a 2 3 = some v ∧ jx_Go jxP d 19 60 [l0, l1, l2] (v :: st) h Q := jg_gf rfl
theorem s19_60 : jx_Go jxP d 19 60 [l0, l1, l2] (.int y :: .int x :: st) h Q ↔ if y ≤ x then jx_Go jxP d 19 97 [l0, l1, l2] st h Q else jx_Go jxP d 19 63 [l0, l1, l2] st h Q := jg_icP rfl rfl
theorem s19_63 : jx_Go jxP d 19 63 [.ref a, l1, l2] st h Q ↔ jx_Go jxP d 19 64 [.ref a, l1, l2] (.ref a :: st) h Q := jg_al rfl rfl
theorem s19_64 : jx_Go jxP d 19 64 [l0, l1, l2] (.ref a :: st) h Q ↔ ∃ v, jx_fl h a 2 0 = some v ∧ jx_Go jxP d 19 67 [l0, l1, l2] (v :: st) h Q := jg_gf rfl
theorem s19_67 : jx_Go jxP d 19 67 [l0, l1, l2] (.ref a :: st) h Q ↔ ∃ v, jx_fl h a 10 2 = some v ∧ jx_Go jxP d 19 70 [l0, l1, l2] (v :: st) h Q := jg_gf rfl
theorem s19_70 : jx_Go jxP d 19 70 [.ref a, l1, l2] st h Q ↔ jx_Go jxP d 19 71 [.ref a, l1, l2] (.ref a :: st) h Q := jg_al rfl rfl
theorem s19_71 : jx_Go jxP d 19 71 [l0, l1, l2] (.ref a :: st) h Q ↔ ∃ v, jx_fl h a 2 2 = some v ∧ jx_Go jxP d 19 74 [l0, l1, l2] (v :: st) h Q := jg_gf rfl
theorem s19_74 : jx_Go jxP d 19 74 [l0, l1, .int x] st h Q ↔ jx_Go jxP d 19 75 [l0, l1, .int x] (.int x :: st) h Q := jg_il rfl rfl
theorem s19_75 : jx_Go jxP d 19 75 [l0, l1, l2] (.int x :: .ref a :: st) h Q ↔ ∃ q, jx_ai h a = some q ∧ jx_in x q.1 ∧ jx_Go jxP d 19 76 [l0, l1, l2] (.int (q.2 x.toNatClampNeg) :: st) h Q := jg_ia rfl
theorem s19_76 : jx_Go jxP d 19 76 [l0, l1, l2] (.int x :: .ref a :: st) h Q ↔ ∃ q, jx_ai h a = some q ∧ jx_in x q.1 ∧ jx_Go jxP d 19 77 [l0, l1, l2] (.int (q.2 x.toNatClampNeg) :: st) h Q := jg_ia rfl
theorem s19_77 : jx_Go jxP d 19 77 [l0, .int x, l2] st h Q ↔ jx_Go jxP d 19 78 [l0, .int x, l2] (.int x :: st) h Q := jg_il rfl rfl
theorem s19_78 : jx_Go jxP d 19 78 [l0, l1, l2] (.int y :: .int x :: st) h Q ↔ if x = y then jx_Go jxP d 19 81 [l0, l1, l2] st h Q else jx_Go jxP d 19 89 [l0, l1, l2] st h Q := jg_icN rfl rfl
theorem s19_81 : jx_Go jxP d 19 81 [.ref a, l1, l2] st h Q ↔ jx_Go jxP d 19 82 [.ref a, l1, l2] (.ref a :: st) h Q := jg_al rfl rfl
theorem s19_82 : jx_Go jxP d 19 82 [l0, l1, .int x] st h Q ↔ jx_Go jxP d 19 83 [l0, l1, .int x] (.int x :: st) h Q := jg_il rfl rfl
theorem s19_83 : jx_Go jxP (d + 1) 19 83 [l0, l1, l2] (.int x0 :: .ref a :: st) h Q ↔ (st.length ≤ 4 ∧ jx_cl h a = some 2 ∧ jx_Go jxP d 20 0 [.ref a, .int x0, jx_u] [] h (fun s1 h1 => jx_Go jxP (d + 1) 19 86 [l0, l1, l2] (s1 ++ st) h1 Q)) := jg_callV (as := [.int x0, .ref a]) rfl rfl rfl rfl rfl
theorem s19_86 : jx_Go jxP d 19 86 [l0, l1, l2] (.int x :: st) h Q ↔ if x = 0 then jx_Go jxP d 19 91 [l0, l1, l2] st h Q else jx_Go jxP d 19 89 [l0, l1, l2] st h Q := jg_ifP rfl rfl
theorem s19_89 : jx_Go jxP d 19 89 [l0, l1, l2] st h Q ↔ jx_Go jxP d 19 90 [l0, l1, l2] (.int (nI 0) :: st) h Q := jg_c rfl
theorem s19_90 : jx_Go jxP d 19 90 [l0, l1, l2] [.int x] h Q ↔ Q [.int x] h := jx_rt rfl rfl
theorem s19_91 : jx_Go jxP d 19 91 [l0, l1, .int x] st h Q ↔ jx_Go jxP d 19 94 [l0, l1, .int (x + (nI 1))] st h Q := jg_inc rfl rfl rfl
theorem s19_94 : jx_Go jxP d 19 94 [l0, l1, l2] st h Q ↔ jx_Go jxP d 19 55 [l0, l1, l2] st h Q := jg_go rfl
theorem s19_97 : jx_Go jxP d 19 97 [l0, l1, l2] st h Q ↔ jx_Go jxP d 19 98 [l0, l1, l2] (.int (nI 1) :: st) h Q := jg_c rfl
theorem s19_98 : jx_Go jxP d 19 98 [l0, l1, l2] [.int x] h Q ↔ Q [.int x] h := jx_rt rfl rfl
-- 20 TalkBench$Judge.liesWithEarlier
theorem s20_0 : jx_Go jxP d 20 0 [l0, l1, l2] st h Q ↔ jx_Go jxP d 20 1 [l0, l1, l2] (.int (nI 0) :: st) h Q := jg_c rfl
theorem s20_1 : jx_Go jxP d 20 1 [l0, l1, l2] (.int x :: st) h Q ↔ jx_Go jxP d 20 2 [l0, l1, .int x] st h Q := jg_is rfl rfl
theorem s20_2 : jx_Go jxP d 20 2 [l0, l1, .int x] st h Q ↔ jx_Go jxP d 20 3 [l0, l1, .int x] (.int x :: st) h Q := jg_il rfl rfl
theorem s20_3 : jx_Go jxP d 20 3 [l0, .int x, l2] st h Q ↔ jx_Go jxP d 20 4 [l0, .int x, l2] (.int x :: st) h Q := jg_il rfl rfl
theorem s20_4 : jx_Go jxP d 20 4 [l0, l1, l2] (.int y :: .int x :: st) h Q ↔ if y ≤ x then jx_Go jxP d 20 37 [l0, l1, l2] st h Q else jx_Go jxP d 20 7 [l0, l1, l2] st h Q := jg_icP rfl rfl
theorem s20_7 : jx_Go jxP d 20 7 [.ref a, l1, l2] st h Q ↔ jx_Go jxP d 20 8 [.ref a, l1, l2] (.ref a :: st) h Q := jg_al rfl rfl
theorem s20_8 : jx_Go jxP d 20 8 [l0, l1, l2] (.ref a :: st) h Q ↔ ∃ v, jx_fl h a 2 1 = some v ∧ jx_Go jxP d 20 11 [l0, l1, l2] (v :: st) h Q := jg_gf rfl
theorem s20_11 : jx_Go jxP d 20 11 [.ref a, l1, l2] st h Q ↔ jx_Go jxP d 20 12 [.ref a, l1, l2] (.ref a :: st) h Q := jg_al rfl rfl
theorem s20_12 : jx_Go jxP d 20 12 [l0, l1, l2] (.ref a :: st) h Q ↔ ∃ v, jx_fl h a 2 2 = some v ∧ jx_Go jxP d 20 15 [l0, l1, l2] (v :: st) h Q := jg_gf rfl
theorem s20_15 : jx_Go jxP d 20 15 [l0, .int x, l2] st h Q ↔ jx_Go jxP d 20 16 [l0, .int x, l2] (.int x :: st) h Q := jg_il rfl rfl
theorem s20_16 : jx_Go jxP d 20 16 [l0, l1, l2] (.int x :: .ref a :: st) h Q ↔ ∃ q, jx_ai h a = some q ∧ jx_in x q.1 ∧ jx_Go jxP d 20 17 [l0, l1, l2] (.int (q.2 x.toNatClampNeg) :: st) h Q := jg_ia rfl
theorem s20_17 : jx_Go jxP d 20 17 [.ref a, l1, l2] st h Q ↔ jx_Go jxP d 20 18 [.ref a, l1, l2] (.ref a :: st) h Q := jg_al rfl rfl
theorem s20_18 : jx_Go jxP d 20 18 [l0, l1, l2] (.ref a :: st) h Q ↔ ∃ v, jx_fl h a 2 2 = some v ∧ jx_Go jxP d 20 21 [l0, l1, l2] (v :: st) h Q := jg_gf rfl
theorem s20_21 : jx_Go jxP d 20 21 [l0, l1, .int x] st h Q ↔ jx_Go jxP d 20 22 [l0, l1, .int x] (.int x :: st) h Q := jg_il rfl rfl
theorem s20_22 : jx_Go jxP d 20 22 [l0, l1, l2] (.int x :: .ref a :: st) h Q ↔ ∃ q, jx_ai h a = some q ∧ jx_in x q.1 ∧ jx_Go jxP d 20 23 [l0, l1, l2] (.int (q.2 x.toNatClampNeg) :: st) h Q := jg_ia rfl
theorem s20_23 : jx_Go jxP (d + 1) 20 23 [l0, l1, l2] (.int x1 :: .int x0 :: .ref a :: st) h Q ↔ (st.length ≤ 4 ∧ jx_cl h a = some 4 ∧ jx_Go jxP d 33 0 [.ref a, .int x0, .int x1, jx_u, jx_u] [] h (fun s1 h1 => jx_Go jxP (d + 1) 20 26 [l0, l1, l2] (s1 ++ st) h1 Q)) := jg_callV (as := [.int x1, .int x0, .ref a]) rfl rfl rfl rfl rfl
theorem s20_26 : jx_Go jxP d 20 26 [l0, l1, l2] (.int x :: st) h Q ↔ if x = 0 then jx_Go jxP d 20 31 [l0, l1, l2] st h Q else jx_Go jxP d 20 29 [l0, l1, l2] st h Q := jg_ifP rfl rfl
theorem s20_29 : jx_Go jxP d 20 29 [l0, l1, l2] st h Q ↔ jx_Go jxP d 20 30 [l0, l1, l2] (.int (nI 1) :: st) h Q := jg_c rfl
theorem s20_30b0 : jx_Go jxP d 20 30 [l0, l1, l2] [.int (nI 0)] h Q ↔ Q [.int (nI 0)] h := jx_rt rfl rfl
theorem s20_30b1 : jx_Go jxP d 20 30 [l0, l1, l2] [.int (nI 1)] h Q ↔ Q [.int (nI 1)] h := jx_rt rfl rfl
theorem s20_31 : jx_Go jxP d 20 31 [l0, l1, .int x] st h Q ↔ jx_Go jxP d 20 34 [l0, l1, .int (x + (nI 1))] st h Q := jg_inc rfl rfl rfl
theorem s20_34 : jx_Go jxP d 20 34 [l0, l1, l2] st h Q ↔ jx_Go jxP d 20 2 [l0, l1, l2] st h Q := jg_go rfl
theorem s20_37 : jx_Go jxP d 20 37 [l0, l1, l2] st h Q ↔ jx_Go jxP d 20 38 [l0, l1, l2] (.int (nI 0) :: st) h Q := jg_c rfl
theorem s20_38b0 : jx_Go jxP d 20 38 [l0, l1, l2] [.int (nI 0)] h Q ↔ Q [.int (nI 0)] h := jx_rt rfl rfl
theorem s20_38b1 : jx_Go jxP d 20 38 [l0, l1, l2] [.int (nI 1)] h Q ↔ Q [.int (nI 1)] h := jx_rt rfl rfl
-- 22 TalkBench$Likeness.isReordered
theorem s22_0 : jx_Go jxP d 22 0 [l0, .ref a, l2, l3] st h Q ↔ jx_Go jxP d 22 1 [l0, .ref a, l2, l3] (.ref a :: st) h Q := jg_al rfl rfl
theorem s22_1 : jx_Go jxP d 22 1 [l0, l1, l2, l3] (.ref a :: st) h Q ↔ ∃ v, jx_fl h a 10 0 = some v ∧ jx_Go jxP d 22 4 [l0, l1, l2, l3] (v :: st) h Q := jg_gf rfl
theorem s22_4 : jx_Go jxP d 22 4 [l0, l1, .ref a, l3] st h Q ↔ jx_Go jxP d 22 5 [l0, l1, .ref a, l3] (.ref a :: st) h Q := jg_al rfl rfl
theorem s22_5 : jx_Go jxP d 22 5 [l0, l1, l2, l3] (.ref a :: st) h Q ↔ ∃ v, jx_fl h a 10 0 = some v ∧ jx_Go jxP d 22 8 [l0, l1, l2, l3] (v :: st) h Q := jg_gf rfl
theorem s22_8 : jx_Go jxP d 22 8 [l0, l1, l2, l3] (.int y :: .int x :: st) h Q ↔ if x = y then jx_Go jxP d 22 11 [l0, l1, l2, l3] st h Q else jx_Go jxP d 22 22 [l0, l1, l2, l3] st h Q := jg_icN rfl rfl
theorem s22_11 : jx_Go jxP d 22 11 [l0, .ref a, l2, l3] st h Q ↔ jx_Go jxP d 22 12 [l0, .ref a, l2, l3] (.ref a :: st) h Q := jg_al rfl rfl
theorem s22_12 : jx_Go jxP d 22 12 [l0, l1, l2, l3] (.ref a :: st) h Q ↔ ∃ v, jx_fl h a 10 1 = some v ∧ jx_Go jxP d 22 15 [l0, l1, l2, l3] (v :: st) h Q := jg_gf rfl
theorem s22_15 : jx_Go jxP d 22 15 [l0, l1, .ref a, l3] st h Q ↔ jx_Go jxP d 22 16 [l0, l1, .ref a, l3] (.ref a :: st) h Q := jg_al rfl rfl
theorem s22_16 : jx_Go jxP d 22 16 [l0, l1, l2, l3] (.ref a :: st) h Q ↔ ∃ v, jx_fl h a 10 1 = some v ∧ jx_Go jxP d 22 19 [l0, l1, l2, l3] (v :: st) h Q := jg_gf rfl
theorem s22_19 : jx_Go jxP d 22 19 [l0, l1, l2, l3] (.int y :: .int x :: st) h Q ↔ if x = y then jx_Go jxP d 22 24 [l0, l1, l2, l3] st h Q else jx_Go jxP d 22 22 [l0, l1, l2, l3] st h Q := jg_icP rfl rfl
theorem s22_22 : jx_Go jxP d 22 22 [l0, l1, l2, l3] st h Q ↔ jx_Go jxP d 22 23 [l0, l1, l2, l3] (.int (nI 0) :: st) h Q := jg_c rfl
theorem s22_23b0 : jx_Go jxP d 22 23 [l0, l1, l2, l3] [.int (nI 0)] h Q ↔ Q [.int (nI 0)] h := jx_rt rfl rfl
theorem s22_23b1 : jx_Go jxP d 22 23 [l0, l1, l2, l3] [.int (nI 1)] h Q ↔ Q [.int (nI 1)] h := jx_rt rfl rfl
theorem s22_24 : jx_Go jxP d 22 24 [l0, l1, l2, l3] st h Q ↔ jx_Go jxP d 22 25 [l0, l1, l2, l3] (.int (nI 0) :: st) h Q := jg_c rfl
theorem s22_25 : jx_Go jxP d 22 25 [l0, l1, l2, l3] (.int x :: st) h Q ↔ jx_Go jxP d 22 26 [l0, l1, l2, .int x] st h Q := jg_is rfl rfl
theorem s22_26 : jx_Go jxP d 22 26 [l0, l1, l2, .int x] st h Q ↔ jx_Go jxP d 22 27 [l0, l1, l2, .int x] (.int x :: st) h Q := jg_il rfl rfl
theorem s22_27 : jx_Go jxP d 22 27 [l0, .ref a, l2, l3] st h Q ↔ jx_Go jxP d 22 28 [l0, .ref a, l2, l3] (.ref a :: st) h Q := jg_al rfl rfl
theorem s22_28 : jx_Go jxP d 22 28 [l0, l1, l2, l3] (.ref a :: st) h Q ↔ ∃ v, jx_fl h a 10 0 = some v ∧ jx_Go jxP d 22 31 [l0, l1, l2, l3] (v :: st) h Q := jg_gf rfl
theorem s22_31 : jx_Go jxP d 22 31 [l0, l1, l2, l3] (.int y :: .int x :: st) h Q ↔ if y ≤ x then jx_Go jxP d 22 50 [l0, l1, l2, l3] st h Q else jx_Go jxP d 22 34 [l0, l1, l2, l3] st h Q := jg_icP rfl rfl
theorem s22_34 : jx_Go jxP d 22 34 [.ref a, l1, l2, l3] st h Q ↔ jx_Go jxP d 22 35 [.ref a, l1, l2, l3] (.ref a :: st) h Q := jg_al rfl rfl
theorem s22_35 : jx_Go jxP d 22 35 [l0, l1, l2, l3] (.ref a :: st) h Q ↔ ∃ v, jx_fl h a 3 0 = some v ∧ jx_Go jxP d 22 38 [l0, l1, l2, l3] (v :: st) h Q := jg_gf rfl
theorem s22_38 : jx_Go jxP d 22 38 [l0, l1, l2, .int x] st h Q ↔ jx_Go jxP d 22 39 [l0, l1, l2, .int x] (.int x :: st) h Q := jg_il rfl rfl
theorem s22_39 : jx_Go jxP d 22 39 [l0, .ref a, l2, l3] st h Q ↔ jx_Go jxP d 22 40 [l0, .ref a, l2, l3] (.ref a :: st) h Q := jg_al rfl rfl
theorem s22_40 : jx_Go jxP d 22 40 [l0, l1, l2, .int x] st h Q ↔ jx_Go jxP d 22 41 [l0, l1, l2, .int x] (.int x :: st) h Q := jg_il rfl rfl
theorem s22_41 : jx_Go jxP (d + 1) 22 41 [l0, l1, l2, l3] (.int x3 :: .ref a2 :: .int x1 :: .ref a0 :: st) h Q ↔ (st.length ≤ 4 ∧ jx_Go jxP d 24 0 [.ref a0, .int x1, .ref a2, .int x3, jx_u] [] h (fun s1 h1 => jx_Go jxP (d + 1) 22 44 [l0, l1, l2, l3] (s1 ++ st) h1 Q)) := jg_callS (as := [.int x3, .ref a2, .int x1, .ref a0]) rfl rfl rfl rfl
theorem s22_44 : jx_Go jxP d 22 44 [l0, l1, l2, .int x] st h Q ↔ jx_Go jxP d 22 47 [l0, l1, l2, .int (x + (nI 1))] st h Q := jg_inc rfl rfl rfl
theorem s22_47 : jx_Go jxP d 22 47 [l0, l1, l2, l3] st h Q ↔ jx_Go jxP d 22 26 [l0, l1, l2, l3] st h Q := jg_go rfl
theorem s22_50 : jx_Go jxP d 22 50 [.ref a, l1, l2, l3] st h Q ↔ jx_Go jxP d 22 51 [.ref a, l1, l2, l3] (.ref a :: st) h Q := jg_al rfl rfl
theorem s22_51 : jx_Go jxP d 22 51 [l0, l1, l2, l3] st h Q ↔ jx_Go jxP d 22 52 [l0, l1, l2, l3] (.int (nI 0) :: st) h Q := jg_c rfl
theorem s22_52 : jx_Go jxP d 22 52 [l0, l1, l2, l3] st h Q ↔ jx_Go jxP d 22 53 [l0, l1, l2, l3] (.int (nI 0) :: st) h Q := jg_c rfl
theorem s22_53 : jx_Go jxP d 22 53 [l0, l1, .ref a, l3] st h Q ↔ jx_Go jxP d 22 54 [l0, l1, .ref a, l3] (.ref a :: st) h Q := jg_al rfl rfl
theorem s22_54 : jx_Go jxP (d + 1) 22 54 [l0, l1, l2, l3] (.ref a2 :: .int x1 :: .int x0 :: .ref a :: st) h Q ↔ (st.length ≤ 4 ∧ jx_cl h a = some 3 ∧ jx_Go jxP d 23 0 [.ref a, .int x0, .int x1, .ref a2, jx_u] [] h (fun s1 h1 => jx_Go jxP (d + 1) 22 57 [l0, l1, l2, l3] (s1 ++ st) h1 Q)) := jg_callV (as := [.ref a2, .int x1, .int x0, .ref a]) rfl rfl rfl rfl rfl
theorem s22_57b0 : jx_Go jxP d 22 57 [l0, l1, l2, l3] [.int (nI 0)] h Q ↔ Q [.int (nI 0)] h := jx_rt rfl rfl
theorem s22_57b1 : jx_Go jxP d 22 57 [l0, l1, l2, l3] [.int (nI 1)] h Q ↔ Q [.int (nI 1)] h := jx_rt rfl rfl
-- 23 TalkBench$Likeness.matchRest
theorem s23_0 : jx_Go jxP d 23 0 [l0, .int x, l2, l3, l4] st h Q ↔ jx_Go jxP d 23 1 [l0, .int x, l2, l3, l4] (.int x :: st) h Q := jg_il rfl rfl
theorem s23_1 : jx_Go jxP d 23 1 [l0, l1, l2, .ref a, l4] st h Q ↔ jx_Go jxP d 23 2 [l0, l1, l2, .ref a, l4] (.ref a :: st) h Q := jg_al rfl rfl
theorem s23_2 : jx_Go jxP d 23 2 [l0, l1, l2, l3, l4] (.ref a :: st) h Q ↔ ∃ v, jx_fl h a 10 0 = some v ∧ jx_Go jxP d 23 5 [l0, l1, l2, l3, l4] (v :: st) h Q := jg_gf rfl
theorem s23_5 : jx_Go jxP d 23 5 [l0, l1, l2, l3, l4] (.int y :: .int x :: st) h Q ↔ if x < y then jx_Go jxP d 23 10 [l0, l1, l2, l3, l4] st h Q else jx_Go jxP d 23 8 [l0, l1, l2, l3, l4] st h Q := jg_icP rfl rfl
theorem s23_8 : jx_Go jxP d 23 8 [l0, l1, l2, l3, l4] st h Q ↔ jx_Go jxP d 23 9 [l0, l1, l2, l3, l4] (.int (nI 1) :: st) h Q := jg_c rfl
theorem s23_9b0 : jx_Go jxP d 23 9 [l0, l1, l2, l3, l4] [.int (nI 0)] h Q ↔ Q [.int (nI 0)] h := jx_rt rfl rfl
theorem s23_9b1 : jx_Go jxP d 23 9 [l0, l1, l2, l3, l4] [.int (nI 1)] h Q ↔ Q [.int (nI 1)] h := jx_rt rfl rfl
theorem s23_10 : jx_Go jxP d 23 10 [l0, l1, l2, l3, l4] st h Q ↔ jx_Go jxP d 23 11 [l0, l1, l2, l3, l4] (.int (nI 0) :: st) h Q := jg_c rfl
theorem s23_11 : jx_Go jxP d 23 11 [l0, l1, l2, l3, l4] (.int x :: st) h Q ↔ jx_Go jxP d 23 13 [l0, l1, l2, l3, .int x] st h Q := jg_is rfl rfl
theorem s23_13 : jx_Go jxP d 23 13 [l0, l1, l2, l3, .int x] st h Q ↔ jx_Go jxP d 23 15 [l0, l1, l2, l3, .int x] (.int x :: st) h Q := jg_il rfl rfl
theorem s23_15 : jx_Go jxP d 23 15 [l0, l1, l2, .ref a, l4] st h Q ↔ jx_Go jxP d 23 16 [l0, l1, l2, .ref a, l4] (.ref a :: st) h Q := jg_al rfl rfl
theorem s23_16 : jx_Go jxP d 23 16 [l0, l1, l2, l3, l4] (.ref a :: st) h Q ↔ ∃ v, jx_fl h a 10 0 = some v ∧ jx_Go jxP d 23 19 [l0, l1, l2, l3, l4] (v :: st) h Q := jg_gf rfl
theorem s23_19 : jx_Go jxP d 23 19 [l0, l1, l2, l3, l4] (.int y :: .int x :: st) h Q ↔ if y ≤ x then jx_Go jxP d 23 93 [l0, l1, l2, l3, l4] st h Q else jx_Go jxP d 23 22 [l0, l1, l2, l3, l4] st h Q := jg_icP rfl rfl
theorem s23_22 : jx_Go jxP d 23 22 [l0, l1, .int x, l3, l4] st h Q ↔ jx_Go jxP d 23 23 [l0, l1, .int x, l3, l4] (.int x :: st) h Q := jg_il rfl rfl
theorem s23_23 : jx_Go jxP d 23 23 [l0, l1, l2, l3, .int x] st h Q ↔ jx_Go jxP d 23 25 [l0, l1, l2, l3, .int x] (.int x :: st) h Q := jg_il rfl rfl
theorem s23_25 : jx_Go jxP d 23 25 [l0, l1, l2, l3, l4] (.int y :: .int x :: st) h Q ↔ jx_Go jxP d 23 26 [l0, l1, l2, l3, l4] (.int (x >>> (y &&& 31)) :: st) h Q := jg_b (f := fun x y => x >>> (y &&& 31)) rfl
theorem s23_26 : jx_Go jxP d 23 26 [l0, l1, l2, l3, l4] st h Q ↔ jx_Go jxP d 23 27 [l0, l1, l2, l3, l4] (.int (nI 1) :: st) h Q := jg_c rfl
theorem s23_27 : jx_Go jxP d 23 27 [l0, l1, l2, l3, l4] (.int y :: .int x :: st) h Q ↔ jx_Go jxP d 23 28 [l0, l1, l2, l3, l4] (.int (x &&& y) :: st) h Q := jg_b (f := fun x y => x &&& y) rfl
theorem s23_28 : jx_Go jxP d 23 28 [l0, l1, l2, l3, l4] (.int x :: st) h Q ↔ if x = 0 then jx_Go jxP d 23 31 [l0, l1, l2, l3, l4] st h Q else jx_Go jxP d 23 87 [l0, l1, l2, l3, l4] st h Q := jg_ifN rfl rfl
theorem s23_31 : jx_Go jxP d 23 31 [.ref a, l1, l2, l3, l4] st h Q ↔ jx_Go jxP d 23 32 [.ref a, l1, l2, l3, l4] (.ref a :: st) h Q := jg_al rfl rfl
theorem s23_32 : jx_Go jxP d 23 32 [l0, l1, l2, l3, l4] (.ref a :: st) h Q ↔ ∃ v, jx_fl h a 3 1 = some v ∧ jx_Go jxP d 23 35 [l0, l1, l2, l3, l4] (v :: st) h Q := jg_gf rfl
theorem s23_35 : jx_Go jxP d 23 35 [l0, .int x, l2, l3, l4] st h Q ↔ jx_Go jxP d 23 36 [l0, .int x, l2, l3, l4] (.int x :: st) h Q := jg_il rfl rfl
theorem s23_36 : jx_Go jxP d 23 36 [l0, l1, l2, .ref a, l4] st h Q ↔ jx_Go jxP d 23 37 [l0, l1, l2, .ref a, l4] (.ref a :: st) h Q := jg_al rfl rfl
theorem s23_37 : jx_Go jxP d 23 37 [l0, l1, l2, l3, .int x] st h Q ↔ jx_Go jxP d 23 39 [l0, l1, l2, l3, .int x] (.int x :: st) h Q := jg_il rfl rfl
theorem s23_39 : jx_Go jxP (d + 1) 23 39 [l0, l1, l2, l3, l4] (.int x3 :: .ref a2 :: .int x1 :: .ref a0 :: st) h Q ↔ (st.length ≤ 4 ∧ jx_Go jxP d 24 0 [.ref a0, .int x1, .ref a2, .int x3, jx_u] [] h (fun s1 h1 => jx_Go jxP (d + 1) 23 42 [l0, l1, l2, l3, l4] (s1 ++ st) h1 Q)) := jg_callS (as := [.int x3, .ref a2, .int x1, .ref a0]) rfl rfl rfl rfl
theorem s23_42 : jx_Go jxP d 23 42 [.ref a, l1, l2, l3, l4] st h Q ↔ jx_Go jxP d 23 43 [.ref a, l1, l2, l3, l4] (.ref a :: st) h Q := jg_al rfl rfl
theorem s23_43 : jx_Go jxP d 23 43 [l0, l1, l2, l3, l4] (.ref a :: st) h Q ↔ ∃ v, jx_fl h a 3 0 = some v ∧ jx_Go jxP d 23 46 [l0, l1, l2, l3, l4] (v :: st) h Q := jg_gf rfl
theorem s23_46 : jx_Go jxP d 23 46 [l0, .int x, l2, l3, l4] st h Q ↔ jx_Go jxP d 23 47 [l0, .int x, l2, l3, l4] (.int x :: st) h Q := jg_il rfl rfl
theorem s23_47 : jx_Go jxP d 23 47 [l0, l1, l2, l3, l4] st h Q ↔ jx_Go jxP d 23 48 [l0, l1, l2, l3, l4] (.int (nI 1) :: st) h Q := jg_c rfl
theorem s23_48 : jx_Go jxP d 23 48 [l0, l1, l2, l3, l4] (.int y :: .int x :: st) h Q ↔ jx_Go jxP d 23 49 [l0, l1, l2, l3, l4] (.int (x + y) :: st) h Q := jg_b (f := fun x y => x + y) rfl
theorem s23_49 : jx_Go jxP d 23 49 [l0, l1, l2, l3, l4] (.int x :: .ref a :: st) h Q ↔ ∃ q, jx_ar h a 4 = some q ∧ jx_in x q.1 ∧ jx_Go jxP d 23 50 [l0, l1, l2, l3, l4] (jx_rv (q.2 x.toNatClampNeg) :: st) h Q := jg_ra rfl
theorem s23_50 : jx_Go jxP d 23 50 [.ref a, l1, l2, l3, l4] st h Q ↔ jx_Go jxP d 23 51 [.ref a, l1, l2, l3, l4] (.ref a :: st) h Q := jg_al rfl rfl
theorem s23_51 : jx_Go jxP d 23 51 [l0, l1, l2, l3, l4] (.ref a :: st) h Q ↔ ∃ v, jx_fl h a 3 1 = some v ∧ jx_Go jxP d 23 54 [l0, l1, l2, l3, l4] (v :: st) h Q := jg_gf rfl
theorem s23_54 : jx_Go jxP d 23 54 [l0, .int x, l2, l3, l4] st h Q ↔ jx_Go jxP d 23 55 [l0, .int x, l2, l3, l4] (.int x :: st) h Q := jg_il rfl rfl
theorem s23_55 : jx_Go jxP d 23 55 [l0, l1, l2, l3, l4] st h Q ↔ jx_Go jxP d 23 56 [l0, l1, l2, l3, l4] (.int (nI 1) :: st) h Q := jg_c rfl
theorem s23_56 : jx_Go jxP d 23 56 [l0, l1, l2, l3, l4] (.int y :: .int x :: st) h Q ↔ jx_Go jxP d 23 57 [l0, l1, l2, l3, l4] (.int (x + y) :: st) h Q := jg_b (f := fun x y => x + y) rfl
theorem s23_57 : jx_Go jxP d 23 57 [l0, l1, l2, l3, l4] (.int x :: .ref a :: st) h Q ↔ ∃ q, jx_ar h a 4 = some q ∧ jx_in x q.1 ∧ jx_Go jxP d 23 58 [l0, l1, l2, l3, l4] (jx_rv (q.2 x.toNatClampNeg) :: st) h Q := jg_ra rfl
theorem s23_58 : jx_Go jxP d 23 58 [l0, l1, l2, .ref a, l4] st h Q ↔ jx_Go jxP d 23 59 [l0, l1, l2, .ref a, l4] (.ref a :: st) h Q := jg_al rfl rfl
theorem s23_59 : jx_Go jxP d 23 59 [l0, l1, l2, l3, l4] (.ref a :: st) h Q ↔ ∃ v, jx_fl h a 10 1 = some v ∧ jx_Go jxP d 23 62 [l0, l1, l2, l3, l4] (v :: st) h Q := jg_gf rfl
theorem s23_62 : jx_Go jxP (d + 1) 23 62 [l0, l1, l2, l3, l4] (.int x2 :: .ref a1 :: .ref a0 :: st) h Q ↔ (st.length ≤ 4 ∧ jx_Go jxP d 25 0 [.ref a0, .ref a1, .int x2, jx_u, jx_u, jx_u] [] h (fun s1 h1 => jx_Go jxP (d + 1) 23 65 [l0, l1, l2, l3, l4] (s1 ++ st) h1 Q)) := jg_callS (as := [.int x2, .ref a1, .ref a0]) rfl rfl rfl rfl
theorem s23_65 : jx_Go jxP d 23 65 [l0, l1, l2, l3, l4] (.int x :: st) h Q ↔ if x = 0 then jx_Go jxP d 23 87 [l0, l1, l2, l3, l4] st h Q else jx_Go jxP d 23 68 [l0, l1, l2, l3, l4] st h Q := jg_ifP rfl rfl
theorem s23_68 : jx_Go jxP d 23 68 [.ref a, l1, l2, l3, l4] st h Q ↔ jx_Go jxP d 23 69 [.ref a, l1, l2, l3, l4] (.ref a :: st) h Q := jg_al rfl rfl
theorem s23_69 : jx_Go jxP d 23 69 [l0, .int x, l2, l3, l4] st h Q ↔ jx_Go jxP d 23 70 [l0, .int x, l2, l3, l4] (.int x :: st) h Q := jg_il rfl rfl
theorem s23_70 : jx_Go jxP d 23 70 [l0, l1, l2, l3, l4] st h Q ↔ jx_Go jxP d 23 71 [l0, l1, l2, l3, l4] (.int (nI 1) :: st) h Q := jg_c rfl
theorem s23_71 : jx_Go jxP d 23 71 [l0, l1, l2, l3, l4] (.int y :: .int x :: st) h Q ↔ jx_Go jxP d 23 72 [l0, l1, l2, l3, l4] (.int (x + y) :: st) h Q := jg_b (f := fun x y => x + y) rfl
theorem s23_72 : jx_Go jxP d 23 72 [l0, l1, .int x, l3, l4] st h Q ↔ jx_Go jxP d 23 73 [l0, l1, .int x, l3, l4] (.int x :: st) h Q := jg_il rfl rfl
theorem s23_73 : jx_Go jxP d 23 73 [l0, l1, l2, l3, l4] st h Q ↔ jx_Go jxP d 23 74 [l0, l1, l2, l3, l4] (.int (nI 1) :: st) h Q := jg_c rfl
theorem s23_74 : jx_Go jxP d 23 74 [l0, l1, l2, l3, .int x] st h Q ↔ jx_Go jxP d 23 76 [l0, l1, l2, l3, .int x] (.int x :: st) h Q := jg_il rfl rfl
theorem s23_76 : jx_Go jxP d 23 76 [l0, l1, l2, l3, l4] (.int y :: .int x :: st) h Q ↔ jx_Go jxP d 23 77 [l0, l1, l2, l3, l4] (.int (x <<< (y &&& 31)) :: st) h Q := jg_b (f := fun x y => x <<< (y &&& 31)) rfl
theorem s23_77 : jx_Go jxP d 23 77 [l0, l1, l2, l3, l4] (.int y :: .int x :: st) h Q ↔ jx_Go jxP d 23 78 [l0, l1, l2, l3, l4] (.int (x ||| y) :: st) h Q := jg_b (f := fun x y => x ||| y) rfl
theorem s23_78 : jx_Go jxP d 23 78 [l0, l1, l2, .ref a, l4] st h Q ↔ jx_Go jxP d 23 79 [l0, l1, l2, .ref a, l4] (.ref a :: st) h Q := jg_al rfl rfl
theorem s23_79 : jx_Go jxP (d + 1) 23 79 [l0, l1, l2, l3, l4] (.ref a2 :: .int x1 :: .int x0 :: .ref a :: st) h Q ↔ (st.length ≤ 4 ∧ jx_cl h a = some 3 ∧ jx_Go jxP d 23 0 [.ref a, .int x0, .int x1, .ref a2, jx_u] [] h (fun s1 h1 => jx_Go jxP (d + 1) 23 82 [l0, l1, l2, l3, l4] (s1 ++ st) h1 Q)) := jg_callV (as := [.ref a2, .int x1, .int x0, .ref a]) rfl rfl rfl rfl rfl
theorem s23_82 : jx_Go jxP d 23 82 [l0, l1, l2, l3, l4] (.int x :: st) h Q ↔ if x = 0 then jx_Go jxP d 23 87 [l0, l1, l2, l3, l4] st h Q else jx_Go jxP d 23 85 [l0, l1, l2, l3, l4] st h Q := jg_ifP rfl rfl
theorem s23_85 : jx_Go jxP d 23 85 [l0, l1, l2, l3, l4] st h Q ↔ jx_Go jxP d 23 86 [l0, l1, l2, l3, l4] (.int (nI 1) :: st) h Q := jg_c rfl
theorem s23_86b0 : jx_Go jxP d 23 86 [l0, l1, l2, l3, l4] [.int (nI 0)] h Q ↔ Q [.int (nI 0)] h := jx_rt rfl rfl
theorem s23_86b1 : jx_Go jxP d 23 86 [l0, l1, l2, l3, l4] [.int (nI 1)] h Q ↔ Q [.int (nI 1)] h := jx_rt rfl rfl
theorem s23_87 : jx_Go jxP d 23 87 [l0, l1, l2, l3, .int x] st h Q ↔ jx_Go jxP d 23 90 [l0, l1, l2, l3, .int (x + (nI 1))] st h Q := jg_inc rfl rfl rfl
theorem s23_90 : jx_Go jxP d 23 90 [l0, l1, l2, l3, l4] st h Q ↔ jx_Go jxP d 23 13 [l0, l1, l2, l3, l4] st h Q := jg_go rfl
theorem s23_93 : jx_Go jxP d 23 93 [l0, l1, l2, l3, l4] st h Q ↔ jx_Go jxP d 23 94 [l0, l1, l2, l3, l4] (.int (nI 0) :: st) h Q := jg_c rfl
theorem s23_94b0 : jx_Go jxP d 23 94 [l0, l1, l2, l3, l4] [.int (nI 0)] h Q ↔ Q [.int (nI 0)] h := jx_rt rfl rfl
theorem s23_94b1 : jx_Go jxP d 23 94 [l0, l1, l2, l3, l4] [.int (nI 1)] h Q ↔ Q [.int (nI 1)] h := jx_rt rfl rfl
-- 24 TalkBench$Likeness.addRow
theorem s24_0 : jx_Go jxP d 24 0 [l0, l1, l2, l3, l4] st h Q ↔ jx_Go jxP d 24 1 [l0, l1, l2, l3, l4] (.int (nI 0) :: st) h Q := jg_c rfl
theorem s24_1 : jx_Go jxP d 24 1 [l0, l1, l2, l3, l4] (.int x :: st) h Q ↔ jx_Go jxP d 24 3 [l0, l1, l2, l3, .int x] st h Q := jg_is rfl rfl
theorem s24_3 : jx_Go jxP d 24 3 [l0, l1, l2, l3, .int x] st h Q ↔ jx_Go jxP d 24 5 [l0, l1, l2, l3, .int x] (.int x :: st) h Q := jg_il rfl rfl
theorem s24_5 : jx_Go jxP d 24 5 [l0, l1, .ref a, l3, l4] st h Q ↔ jx_Go jxP d 24 6 [l0, l1, .ref a, l3, l4] (.ref a :: st) h Q := jg_al rfl rfl
theorem s24_6 : jx_Go jxP d 24 6 [l0, l1, l2, l3, l4] (.ref a :: st) h Q ↔ ∃ v, jx_fl h a 10 1 = some v ∧ jx_Go jxP d 24 9 [l0, l1, l2, l3, l4] (v :: st) h Q := jg_gf rfl
theorem s24_9 : jx_Go jxP d 24 9 [l0, l1, l2, l3, l4] (.int y :: .int x :: st) h Q ↔ if y ≤ x then jx_Go jxP d 24 46 [l0, l1, l2, l3, l4] st h Q else jx_Go jxP d 24 12 [l0, l1, l2, l3, l4] st h Q := jg_icP rfl rfl
theorem s24_12 : jx_Go jxP d 24 12 [.ref a, l1, l2, l3, l4] st h Q ↔ jx_Go jxP d 24 13 [.ref a, l1, l2, l3, l4] (.ref a :: st) h Q := jg_al rfl rfl
theorem s24_13 : jx_Go jxP d 24 13 [l0, .int x, l2, l3, l4] st h Q ↔ jx_Go jxP d 24 14 [l0, .int x, l2, l3, l4] (.int x :: st) h Q := jg_il rfl rfl
theorem s24_14 : jx_Go jxP d 24 14 [l0, l1, l2, l3, l4] st h Q ↔ jx_Go jxP d 24 15 [l0, l1, l2, l3, l4] (.int (nI 1) :: st) h Q := jg_c rfl
theorem s24_15 : jx_Go jxP d 24 15 [l0, l1, l2, l3, l4] (.int y :: .int x :: st) h Q ↔ jx_Go jxP d 24 16 [l0, l1, l2, l3, l4] (.int (x + y) :: st) h Q := jg_b (f := fun x y => x + y) rfl
theorem s24_16 : jx_Go jxP d 24 16 [l0, l1, l2, l3, l4] (.int x :: .ref a :: st) h Q ↔ ∃ q, jx_ar h a 4 = some q ∧ jx_in x q.1 ∧ jx_Go jxP d 24 17 [l0, l1, l2, l3, l4] (jx_rv (q.2 x.toNatClampNeg) :: st) h Q := jg_ra rfl
theorem s24_17 : jx_Go jxP d 24 17 [l0, l1, l2, l3, .int x] st h Q ↔ jx_Go jxP d 24 19 [l0, l1, l2, l3, .int x] (.int x :: st) h Q := jg_il rfl rfl
theorem s24_19 : jx_Go jxP d 24 19 [l0, l1, l2, l3, l4] st h Q ↔ jx_Go jxP d 24 20 [l0, l1, l2, l3, l4] (.int (nI 3) :: st) h Q := jg_c rfl
theorem s24_20 : jx_Go jxP d 24 20 [.ref a, l1, l2, l3, l4] st h Q ↔ jx_Go jxP d 24 21 [.ref a, l1, l2, l3, l4] (.ref a :: st) h Q := jg_al rfl rfl
theorem s24_21 : jx_Go jxP d 24 21 [l0, .int x, l2, l3, l4] st h Q ↔ jx_Go jxP d 24 22 [l0, .int x, l2, l3, l4] (.int x :: st) h Q := jg_il rfl rfl
theorem s24_22 : jx_Go jxP d 24 22 [l0, l1, l2, l3, l4] (.int x :: .ref a :: st) h Q ↔ ∃ q, jx_ar h a 4 = some q ∧ jx_in x q.1 ∧ jx_Go jxP d 24 23 [l0, l1, l2, l3, l4] (jx_rv (q.2 x.toNatClampNeg) :: st) h Q := jg_ra rfl
theorem s24_23 : jx_Go jxP d 24 23 [l0, l1, l2, l3, .int x] st h Q ↔ jx_Go jxP d 24 25 [l0, l1, l2, l3, .int x] (.int x :: st) h Q := jg_il rfl rfl
theorem s24_25 : jx_Go jxP d 24 25 [l0, l1, l2, l3, l4] (.int x :: .ref a :: st) h Q ↔ ∃ q, jx_ai h a = some q ∧ jx_in x q.1 ∧ jx_Go jxP d 24 26 [l0, l1, l2, l3, l4] (.int (q.2 x.toNatClampNeg) :: st) h Q := jg_ia rfl
theorem s24_26 : jx_Go jxP d 24 26 [l0, l1, l2, l3, l4] (.int y :: .int x :: st) h Q ↔ jx_Go jxP d 24 27 [l0, l1, l2, l3, l4] (.int (x * y) :: st) h Q := jg_b (f := fun x y => x * y) rfl
theorem s24_27 : jx_Go jxP d 24 27 [l0, l1, .ref a, l3, l4] st h Q ↔ jx_Go jxP d 24 28 [l0, l1, .ref a, l3, l4] (.ref a :: st) h Q := jg_al rfl rfl
theorem s24_28 : jx_Go jxP d 24 28 [l0, l1, l2, l3, l4] (.ref a :: st) h Q ↔ ∃ v, jx_fl h a 10 2 = some v ∧ jx_Go jxP d 24 31 [l0, l1, l2, l3, l4] (v :: st) h Q := jg_gf rfl
theorem s24_31 : jx_Go jxP d 24 31 [l0, l1, l2, l3, l4] st h Q ↔ jx_Go jxP d 24 32 [l0, l1, l2, l3, l4] (.int (nI 5) :: st) h Q := jg_c rfl
theorem s24_32 : jx_Go jxP d 24 32 [l0, l1, l2, .int x, l4] st h Q ↔ jx_Go jxP d 24 33 [l0, l1, l2, .int x, l4] (.int x :: st) h Q := jg_il rfl rfl
theorem s24_33 : jx_Go jxP d 24 33 [l0, l1, l2, l3, l4] (.int y :: .int x :: st) h Q ↔ jx_Go jxP d 24 34 [l0, l1, l2, l3, l4] (.int (x * y) :: st) h Q := jg_b (f := fun x y => x * y) rfl
theorem s24_34 : jx_Go jxP d 24 34 [l0, l1, l2, l3, .int x] st h Q ↔ jx_Go jxP d 24 36 [l0, l1, l2, l3, .int x] (.int x :: st) h Q := jg_il rfl rfl
theorem s24_36 : jx_Go jxP d 24 36 [l0, l1, l2, l3, l4] (.int y :: .int x :: st) h Q ↔ jx_Go jxP d 24 37 [l0, l1, l2, l3, l4] (.int (x + y) :: st) h Q := jg_b (f := fun x y => x + y) rfl
theorem s24_37 : jx_Go jxP d 24 37 [l0, l1, l2, l3, l4] (.int x :: .ref a :: st) h Q ↔ ∃ q, jx_ai h a = some q ∧ jx_in x q.1 ∧ jx_Go jxP d 24 38 [l0, l1, l2, l3, l4] (.int (q.2 x.toNatClampNeg) :: st) h Q := jg_ia rfl
theorem s24_38 : jx_Go jxP d 24 38 [l0, l1, l2, l3, l4] (.int y :: .int x :: st) h Q ↔ jx_Go jxP d 24 39 [l0, l1, l2, l3, l4] (.int (x + y) :: st) h Q := jg_b (f := fun x y => x + y) rfl
theorem s24_39 : jx_Go jxP d 24 39 [l0, l1, l2, l3, l4] (.int y :: .int x :: .ref a :: st) h Q ↔ ∃ q, jx_ai h a = some q ∧ jx_in x q.1 ∧ jx_Go jxP d 24 40 [l0, l1, l2, l3, l4] st (jx_wi h a q.1 (upd q.2 x.toNatClampNeg y)) Q := jg_iw rfl
theorem s24_40 : jx_Go jxP d 24 40 [l0, l1, l2, l3, .int x] st h Q ↔ jx_Go jxP d 24 43 [l0, l1, l2, l3, .int (x + (nI 1))] st h Q := jg_inc rfl rfl rfl
theorem s24_43 : jx_Go jxP d 24 43 [l0, l1, l2, l3, l4] st h Q ↔ jx_Go jxP d 24 3 [l0, l1, l2, l3, l4] st h Q := jg_go rfl
theorem s24_46 : jx_Go jxP d 24 46 [l0, l1, l2, l3, l4] [] h Q ↔ Q [] h := jx_rt rfl rfl
-- 25 TalkBench$Likeness.haveSameColumns
theorem s25_0 : jx_Go jxP d 25 0 [l0, l1, l2, l3, l4, l5] st h Q ↔ jx_Go jxP d 25 1 [l0, l1, l2, l3, l4, l5] (.int (nI 0) :: st) h Q := jg_c rfl
theorem s25_1 : jx_Go jxP d 25 1 [l0, l1, l2, l3, l4, l5] (.int x :: st) h Q ↔ jx_Go jxP d 25 2 [l0, l1, l2, .int x, l4, l5] st h Q := jg_is rfl rfl
theorem s25_2 : jx_Go jxP d 25 2 [l0, l1, l2, l3, l4, l5] st h Q ↔ jx_Go jxP d 25 3 [l0, l1, l2, l3, l4, l5] (.int (nI 0) :: st) h Q := jg_c rfl
theorem s25_3 : jx_Go jxP d 25 3 [l0, l1, l2, l3, l4, l5] (.int x :: st) h Q ↔ jx_Go jxP d 25 5 [l0, l1, l2, l3, .int x, l5] st h Q := jg_is rfl rfl
theorem s25_5 : jx_Go jxP d 25 5 [l0, l1, l2, l3, .int x, l5] st h Q ↔ jx_Go jxP d 25 7 [l0, l1, l2, l3, .int x, l5] (.int x :: st) h Q := jg_il rfl rfl
theorem s25_7 : jx_Go jxP d 25 7 [l0, l1, .int x, l3, l4, l5] st h Q ↔ jx_Go jxP d 25 8 [l0, l1, .int x, l3, l4, l5] (.int x :: st) h Q := jg_il rfl rfl
theorem s25_8 : jx_Go jxP d 25 8 [l0, l1, l2, l3, l4, l5] (.int y :: .int x :: st) h Q ↔ if y ≤ x then jx_Go jxP d 25 44 [l0, l1, l2, l3, l4, l5] st h Q else jx_Go jxP d 25 11 [l0, l1, l2, l3, l4, l5] st h Q := jg_icP rfl rfl
theorem s25_11 : jx_Go jxP d 25 11 [l0, .ref a, l2, l3, l4, l5] st h Q ↔ jx_Go jxP d 25 12 [l0, .ref a, l2, l3, l4, l5] (.ref a :: st) h Q := jg_al rfl rfl
theorem s25_12 : jx_Go jxP d 25 12 [l0, l1, .int x, l3, l4, l5] st h Q ↔ jx_Go jxP d 25 13 [l0, l1, .int x, l3, l4, l5] (.int x :: st) h Q := jg_il rfl rfl
theorem s25_13 : jx_Go jxP d 25 13 [l0, l1, l2, .int x, l4, l5] st h Q ↔ jx_Go jxP d 25 14 [l0, l1, l2, .int x, l4, l5] (.int x :: st) h Q := jg_il rfl rfl
theorem s25_14 : jx_Go jxP d 25 14 [.ref a, l1, l2, l3, l4, l5] st h Q ↔ jx_Go jxP d 25 15 [.ref a, l1, l2, l3, l4, l5] (.ref a :: st) h Q := jg_al rfl rfl
theorem s25_15 : jx_Go jxP d 25 15 [l0, l1, l2, l3, .int x, l5] st h Q ↔ jx_Go jxP d 25 17 [l0, l1, l2, l3, .int x, l5] (.int x :: st) h Q := jg_il rfl rfl
theorem s25_17 : jx_Go jxP d 25 17 [l0, l1, l2, l3, l4, l5] (.int x :: .ref a :: st) h Q ↔ ∃ q, jx_ai h a = some q ∧ jx_in x q.1 ∧ jx_Go jxP d 25 18 [l0, l1, l2, l3, l4, l5] (.int (q.2 x.toNatClampNeg) :: st) h Q := jg_ia rfl
theorem s25_18 : jx_Go jxP (d + 1) 25 18 [l0, l1, l2, l3, l4, l5] (.int x3 :: .int x2 :: .int x1 :: .ref a0 :: st) h Q ↔ (st.length ≤ 4 ∧ jx_Go jxP d 26 0 [.ref a0, .int x1, .int x2, .int x3, jx_u] [] h (fun s1 h1 => jx_Go jxP (d + 1) 25 21 [l0, l1, l2, l3, l4, l5] (s1 ++ st) h1 Q)) := jg_callS (as := [.int x3, .int x2, .int x1, .ref a0]) rfl rfl rfl rfl
theorem s25_21 : jx_Go jxP d 25 21 [l0, l1, l2, l3, l4, l5] (.int x :: st) h Q ↔ jx_Go jxP d 25 23 [l0, l1, l2, l3, l4, .int x] st h Q := jg_is rfl rfl
theorem s25_23 : jx_Go jxP d 25 23 [l0, l1, l2, l3, l4, .int x] st h Q ↔ jx_Go jxP d 25 25 [l0, l1, l2, l3, l4, .int x] (.int x :: st) h Q := jg_il rfl rfl
theorem s25_25 : jx_Go jxP d 25 25 [l0, l1, .int x, l3, l4, l5] st h Q ↔ jx_Go jxP d 25 26 [l0, l1, .int x, l3, l4, l5] (.int x :: st) h Q := jg_il rfl rfl
theorem s25_26 : jx_Go jxP d 25 26 [l0, l1, l2, l3, l4, l5] (.int y :: .int x :: st) h Q ↔ if x = y then jx_Go jxP d 25 29 [l0, l1, l2, l3, l4, l5] st h Q else jx_Go jxP d 25 31 [l0, l1, l2, l3, l4, l5] st h Q := jg_icN rfl rfl
theorem s25_29 : jx_Go jxP d 25 29 [l0, l1, l2, l3, l4, l5] st h Q ↔ jx_Go jxP d 25 30 [l0, l1, l2, l3, l4, l5] (.int (nI 0) :: st) h Q := jg_c rfl
theorem s25_30b0 : jx_Go jxP d 25 30 [l0, l1, l2, l3, l4, l5] [.int (nI 0)] h Q ↔ Q [.int (nI 0)] h := jx_rt rfl rfl
theorem s25_30b1 : jx_Go jxP d 25 30 [l0, l1, l2, l3, l4, l5] [.int (nI 1)] h Q ↔ Q [.int (nI 1)] h := jx_rt rfl rfl
theorem s25_31 : jx_Go jxP d 25 31 [l0, l1, l2, .int x, l4, l5] st h Q ↔ jx_Go jxP d 25 32 [l0, l1, l2, .int x, l4, l5] (.int x :: st) h Q := jg_il rfl rfl
theorem s25_32 : jx_Go jxP d 25 32 [l0, l1, l2, l3, l4, l5] st h Q ↔ jx_Go jxP d 25 33 [l0, l1, l2, l3, l4, l5] (.int (nI 1) :: st) h Q := jg_c rfl
theorem s25_33 : jx_Go jxP d 25 33 [l0, l1, l2, l3, l4, .int x] st h Q ↔ jx_Go jxP d 25 35 [l0, l1, l2, l3, l4, .int x] (.int x :: st) h Q := jg_il rfl rfl
theorem s25_35 : jx_Go jxP d 25 35 [l0, l1, l2, l3, l4, l5] (.int y :: .int x :: st) h Q ↔ jx_Go jxP d 25 36 [l0, l1, l2, l3, l4, l5] (.int (x <<< (y &&& 31)) :: st) h Q := jg_b (f := fun x y => x <<< (y &&& 31)) rfl
theorem s25_36 : jx_Go jxP d 25 36 [l0, l1, l2, l3, l4, l5] (.int y :: .int x :: st) h Q ↔ jx_Go jxP d 25 37 [l0, l1, l2, l3, l4, l5] (.int (x ||| y) :: st) h Q := jg_b (f := fun x y => x ||| y) rfl
theorem s25_37 : jx_Go jxP d 25 37 [l0, l1, l2, l3, l4, l5] (.int x :: st) h Q ↔ jx_Go jxP d 25 38 [l0, l1, l2, .int x, l4, l5] st h Q := jg_is rfl rfl
theorem s25_38 : jx_Go jxP d 25 38 [l0, l1, l2, l3, .int x, l5] st h Q ↔ jx_Go jxP d 25 41 [l0, l1, l2, l3, .int (x + (nI 1)), l5] st h Q := jg_inc rfl rfl rfl
theorem s25_41 : jx_Go jxP d 25 41 [l0, l1, l2, l3, l4, l5] st h Q ↔ jx_Go jxP d 25 5 [l0, l1, l2, l3, l4, l5] st h Q := jg_go rfl
theorem s25_44 : jx_Go jxP d 25 44 [l0, l1, l2, l3, l4, l5] st h Q ↔ jx_Go jxP d 25 45 [l0, l1, l2, l3, l4, l5] (.int (nI 1) :: st) h Q := jg_c rfl
theorem s25_45b0 : jx_Go jxP d 25 45 [l0, l1, l2, l3, l4, l5] [.int (nI 0)] h Q ↔ Q [.int (nI 0)] h := jx_rt rfl rfl
theorem s25_45b1 : jx_Go jxP d 25 45 [l0, l1, l2, l3, l4, l5] [.int (nI 1)] h Q ↔ Q [.int (nI 1)] h := jx_rt rfl rfl
-- 26 TalkBench$Likeness.findFree
theorem s26_0 : jx_Go jxP d 26 0 [l0, l1, l2, l3, l4] st h Q ↔ jx_Go jxP d 26 1 [l0, l1, l2, l3, l4] (.int (nI 0) :: st) h Q := jg_c rfl
theorem s26_1 : jx_Go jxP d 26 1 [l0, l1, l2, l3, l4] (.int x :: st) h Q ↔ jx_Go jxP d 26 3 [l0, l1, l2, l3, .int x] st h Q := jg_is rfl rfl
theorem s26_3 : jx_Go jxP d 26 3 [l0, l1, l2, l3, .int x] st h Q ↔ jx_Go jxP d 26 5 [l0, l1, l2, l3, .int x] (.int x :: st) h Q := jg_il rfl rfl
theorem s26_5 : jx_Go jxP d 26 5 [l0, .int x, l2, l3, l4] st h Q ↔ jx_Go jxP d 26 6 [l0, .int x, l2, l3, l4] (.int x :: st) h Q := jg_il rfl rfl
theorem s26_6 : jx_Go jxP d 26 6 [l0, l1, l2, l3, l4] (.int y :: .int x :: st) h Q ↔ if y ≤ x then jx_Go jxP d 26 33 [l0, l1, l2, l3, l4] st h Q else jx_Go jxP d 26 9 [l0, l1, l2, l3, l4] st h Q := jg_icP rfl rfl
theorem s26_9 : jx_Go jxP d 26 9 [.ref a, l1, l2, l3, l4] st h Q ↔ jx_Go jxP d 26 10 [.ref a, l1, l2, l3, l4] (.ref a :: st) h Q := jg_al rfl rfl
theorem s26_10 : jx_Go jxP d 26 10 [l0, l1, l2, l3, .int x] st h Q ↔ jx_Go jxP d 26 12 [l0, l1, l2, l3, .int x] (.int x :: st) h Q := jg_il rfl rfl
theorem s26_12 : jx_Go jxP d 26 12 [l0, l1, l2, l3, l4] (.int x :: .ref a :: st) h Q ↔ ∃ q, jx_ai h a = some q ∧ jx_in x q.1 ∧ jx_Go jxP d 26 13 [l0, l1, l2, l3, l4] (.int (q.2 x.toNatClampNeg) :: st) h Q := jg_ia rfl
theorem s26_13 : jx_Go jxP d 26 13 [l0, l1, l2, .int x, l4] st h Q ↔ jx_Go jxP d 26 14 [l0, l1, l2, .int x, l4] (.int x :: st) h Q := jg_il rfl rfl
theorem s26_14 : jx_Go jxP d 26 14 [l0, l1, l2, l3, l4] (.int y :: .int x :: st) h Q ↔ if x = y then jx_Go jxP d 26 17 [l0, l1, l2, l3, l4] st h Q else jx_Go jxP d 26 27 [l0, l1, l2, l3, l4] st h Q := jg_icN rfl rfl
theorem s26_17 : jx_Go jxP d 26 17 [l0, l1, .int x, l3, l4] st h Q ↔ jx_Go jxP d 26 18 [l0, l1, .int x, l3, l4] (.int x :: st) h Q := jg_il rfl rfl
theorem s26_18 : jx_Go jxP d 26 18 [l0, l1, l2, l3, .int x] st h Q ↔ jx_Go jxP d 26 20 [l0, l1, l2, l3, .int x] (.int x :: st) h Q := jg_il rfl rfl
theorem s26_20 : jx_Go jxP d 26 20 [l0, l1, l2, l3, l4] (.int y :: .int x :: st) h Q ↔ jx_Go jxP d 26 21 [l0, l1, l2, l3, l4] (.int (x >>> (y &&& 31)) :: st) h Q := jg_b (f := fun x y => x >>> (y &&& 31)) rfl
theorem s26_21 : jx_Go jxP d 26 21 [l0, l1, l2, l3, l4] st h Q ↔ jx_Go jxP d 26 22 [l0, l1, l2, l3, l4] (.int (nI 1) :: st) h Q := jg_c rfl
theorem s26_22 : jx_Go jxP d 26 22 [l0, l1, l2, l3, l4] (.int y :: .int x :: st) h Q ↔ jx_Go jxP d 26 23 [l0, l1, l2, l3, l4] (.int (x &&& y) :: st) h Q := jg_b (f := fun x y => x &&& y) rfl
theorem s26_23 : jx_Go jxP d 26 23 [l0, l1, l2, l3, l4] st h Q ↔ jx_Go jxP d 26 24 [l0, l1, l2, l3, l4] (.int (nI 1) :: st) h Q := jg_c rfl
theorem s26_24 : jx_Go jxP d 26 24 [l0, l1, l2, l3, l4] (.int y :: .int x :: st) h Q ↔ if x = y then jx_Go jxP d 26 27 [l0, l1, l2, l3, l4] st h Q else jx_Go jxP d 26 33 [l0, l1, l2, l3, l4] st h Q := jg_icN rfl rfl
theorem s26_27 : jx_Go jxP d 26 27 [l0, l1, l2, l3, .int x] st h Q ↔ jx_Go jxP d 26 30 [l0, l1, l2, l3, .int (x + (nI 1))] st h Q := jg_inc rfl rfl rfl
theorem s26_30 : jx_Go jxP d 26 30 [l0, l1, l2, l3, l4] st h Q ↔ jx_Go jxP d 26 3 [l0, l1, l2, l3, l4] st h Q := jg_go rfl
theorem s26_33 : jx_Go jxP d 26 33 [l0, l1, l2, l3, .int x] st h Q ↔ jx_Go jxP d 26 35 [l0, l1, l2, l3, .int x] (.int x :: st) h Q := jg_il rfl rfl
theorem s26_35 : jx_Go jxP d 26 35 [l0, l1, l2, l3, l4] [.int x] h Q ↔ Q [.int x] h := jx_rt rfl rfl
-- 27 TalkBench$Marks.<init>
theorem s27_0 : jx_Go jxP d 27 0 [.ref a] st h Q ↔ jx_Go jxP d 27 1 [.ref a] (.ref a :: st) h Q := jg_al rfl rfl
theorem s27_1 : jx_Go jxP d 27 1 [l0] [.ref a] h Q ↔ jx_Go jxP d 27 4 [l0] [] h Q := jg_oi rfl
theorem s27_4 : jx_Go jxP d 27 4 [.ref a] st h Q ↔ jx_Go jxP d 27 5 [.ref a] (.ref a :: st) h Q := jg_al rfl rfl
theorem s27_5 : jx_Go jxP d 27 5 [l0] st h Q ↔ jx_Go jxP d 27 7 [l0] (.int (nI 32) :: st) h Q := jg_c rfl
theorem s27_7 : jx_Go jxP d 27 7 [l0] (.int (nI 32) :: st) h Q ↔ jx_Go jxP d 27 9 [l0] (.ref h.1 :: st) (jx_mk h 32 (.inl (0, 32, .inl (fun _ => 0)))) Q := jg_ni rfl (jx_inB_iff.mp (by decide +kernel))
theorem s27_9 : jx_Go jxP d 27 9 [l0] (.ref b :: .ref a :: st) h Q ↔ ∃ v, jx_fl h a 4 2 = some v ∧ jx_Go jxP d 27 12 [l0] st (jx_uf h a 2 (.ref b)) Q := jg_pfR rfl
theorem s27_12 : jx_Go jxP d 27 12 [.ref a] st h Q ↔ jx_Go jxP d 27 13 [.ref a] (.ref a :: st) h Q := jg_al rfl rfl
theorem s27_13 : jx_Go jxP d 27 13 [l0] st h Q ↔ jx_Go jxP d 27 15 [l0] (.int (nI 32) :: st) h Q := jg_c rfl
theorem s27_15 : jx_Go jxP d 27 15 [l0] (.int (nI 32) :: st) h Q ↔ jx_Go jxP d 27 17 [l0] (.ref h.1 :: st) (jx_mk h 32 (.inl (0, 32, .inl (fun _ => 0)))) Q := jg_ni rfl (jx_inB_iff.mp (by decide +kernel))
theorem s27_17 : jx_Go jxP d 27 17 [l0] (.ref b :: .ref a :: st) h Q ↔ ∃ v, jx_fl h a 4 3 = some v ∧ jx_Go jxP d 27 20 [l0] st (jx_uf h a 3 (.ref b)) Q := jg_pfR rfl
theorem s27_20 : jx_Go jxP d 27 20 [l0] [] h Q ↔ Q [] h := jx_rt rfl rfl
-- 28 TalkBench$Marks.read
theorem s28_0 : jx_Go jxP d 28 0 [.ref a, l1, l2, l3] st h Q ↔ jx_Go jxP d 28 1 [.ref a, l1, l2, l3] (.ref a :: st) h Q := jg_al rfl rfl
theorem s28_1 : jx_Go jxP d 28 1 [l0, l1, l2, l3] st h Q ↔ jx_Go jxP d 28 2 [l0, l1, l2, l3] (.int (nI 1) :: st) h Q := jg_c rfl
theorem s28_2 : jx_Go jxP d 28 2 [l0, .ref a, l2, l3] st h Q ↔ jx_Go jxP d 28 3 [l0, .ref a, l2, l3] (.ref a :: st) h Q := jg_al rfl rfl
theorem s28_3 : jx_Go jxP d 28 3 [l0, l1, l2, l3] (.ref a :: st) h Q ↔ ∃ v, jx_fl h a 10 0 = some v ∧ jx_Go jxP d 28 6 [l0, l1, l2, l3] (v :: st) h Q := jg_gf rfl
theorem s28_6 : jx_Go jxP d 28 6 [l0, l1, l2, l3] (.int y :: .int x :: st) h Q ↔ jx_Go jxP d 28 7 [l0, l1, l2, l3] (.int (x <<< (y &&& 31)) :: st) h Q := jg_b (f := fun x y => x <<< (y &&& 31)) rfl
theorem s28_7 : jx_Go jxP d 28 7 [l0, l1, l2, l3] st h Q ↔ jx_Go jxP d 28 8 [l0, l1, l2, l3] (.int (nI 1) :: st) h Q := jg_c rfl
theorem s28_8 : jx_Go jxP d 28 8 [l0, l1, l2, l3] (.int y :: .int x :: st) h Q ↔ jx_Go jxP d 28 9 [l0, l1, l2, l3] (.int (x - y) :: st) h Q := jg_b (f := fun x y => x - y) rfl
theorem s28_9 : jx_Go jxP d 28 9 [l0, l1, l2, l3] (.int x :: .ref a :: st) h Q ↔ ∃ v, jx_fl h a 4 0 = some v ∧ jx_Go jxP d 28 12 [l0, l1, l2, l3] st (jx_uf h a 0 (.int x)) Q := jg_pfI rfl
theorem s28_12 : jx_Go jxP d 28 12 [.ref a, l1, l2, l3] st h Q ↔ jx_Go jxP d 28 13 [.ref a, l1, l2, l3] (.ref a :: st) h Q := jg_al rfl rfl
theorem s28_13 : jx_Go jxP d 28 13 [l0, l1, l2, l3] st h Q ↔ jx_Go jxP d 28 14 [l0, l1, l2, l3] (.int (nI 1) :: st) h Q := jg_c rfl
theorem s28_14 : jx_Go jxP d 28 14 [l0, .ref a, l2, l3] st h Q ↔ jx_Go jxP d 28 15 [l0, .ref a, l2, l3] (.ref a :: st) h Q := jg_al rfl rfl
theorem s28_15 : jx_Go jxP d 28 15 [l0, l1, l2, l3] (.ref a :: st) h Q ↔ ∃ v, jx_fl h a 10 1 = some v ∧ jx_Go jxP d 28 18 [l0, l1, l2, l3] (v :: st) h Q := jg_gf rfl
theorem s28_18 : jx_Go jxP d 28 18 [l0, l1, l2, l3] (.int y :: .int x :: st) h Q ↔ jx_Go jxP d 28 19 [l0, l1, l2, l3] (.int (x <<< (y &&& 31)) :: st) h Q := jg_b (f := fun x y => x <<< (y &&& 31)) rfl
theorem s28_19 : jx_Go jxP d 28 19 [l0, l1, l2, l3] st h Q ↔ jx_Go jxP d 28 20 [l0, l1, l2, l3] (.int (nI 1) :: st) h Q := jg_c rfl
theorem s28_20 : jx_Go jxP d 28 20 [l0, l1, l2, l3] (.int y :: .int x :: st) h Q ↔ jx_Go jxP d 28 21 [l0, l1, l2, l3] (.int (x - y) :: st) h Q := jg_b (f := fun x y => x - y) rfl
theorem s28_21 : jx_Go jxP d 28 21 [l0, l1, l2, l3] (.int x :: .ref a :: st) h Q ↔ ∃ v, jx_fl h a 4 1 = some v ∧ jx_Go jxP d 28 24 [l0, l1, l2, l3] st (jx_uf h a 1 (.int x)) Q := jg_pfI rfl
theorem s28_24 : jx_Go jxP d 28 24 [l0, l1, l2, l3] st h Q ↔ jx_Go jxP d 28 25 [l0, l1, l2, l3] (.int (nI 0) :: st) h Q := jg_c rfl
theorem s28_25 : jx_Go jxP d 28 25 [l0, l1, l2, l3] (.int x :: st) h Q ↔ jx_Go jxP d 28 26 [l0, l1, .int x, l3] st h Q := jg_is rfl rfl
theorem s28_26 : jx_Go jxP d 28 26 [l0, l1, .int x, l3] st h Q ↔ jx_Go jxP d 28 27 [l0, l1, .int x, l3] (.int x :: st) h Q := jg_il rfl rfl
theorem s28_27 : jx_Go jxP d 28 27 [l0, .ref a, l2, l3] st h Q ↔ jx_Go jxP d 28 28 [l0, .ref a, l2, l3] (.ref a :: st) h Q := jg_al rfl rfl
theorem s28_28 : jx_Go jxP d 28 28 [l0, l1, l2, l3] (.ref a :: st) h Q ↔ ∃ v, jx_fl h a 10 0 = some v ∧ jx_Go jxP d 28 31 [l0, l1, l2, l3] (v :: st) h Q := jg_gf rfl
theorem s28_31 : jx_Go jxP d 28 31 [l0, l1, l2, l3] (.int y :: .int x :: st) h Q ↔ if y ≤ x then jx_Go jxP d 28 46 [l0, l1, l2, l3] st h Q else jx_Go jxP d 28 34 [l0, l1, l2, l3] st h Q := jg_icP rfl rfl
theorem s28_34 : jx_Go jxP d 28 34 [.ref a, l1, l2, l3] st h Q ↔ jx_Go jxP d 28 35 [.ref a, l1, l2, l3] (.ref a :: st) h Q := jg_al rfl rfl
theorem s28_35 : jx_Go jxP d 28 35 [l0, .ref a, l2, l3] st h Q ↔ jx_Go jxP d 28 36 [l0, .ref a, l2, l3] (.ref a :: st) h Q := jg_al rfl rfl
theorem s28_36 : jx_Go jxP d 28 36 [l0, l1, .int x, l3] st h Q ↔ jx_Go jxP d 28 37 [l0, l1, .int x, l3] (.int x :: st) h Q := jg_il rfl rfl
theorem s28_37 : jx_Go jxP (d + 1) 28 37 [l0, l1, l2, l3] (.int x1 :: .ref a0 :: .ref a :: st) h Q ↔ (st.length ≤ 4 ∧ jx_cl h a = some 4 ∧ jx_Go jxP d 29 0 [.ref a, .ref a0, .int x1, jx_u, jx_u, jx_u, jx_u] [] h (fun s1 h1 => jx_Go jxP (d + 1) 28 40 [l0, l1, l2, l3] (s1 ++ st) h1 Q)) := jg_callV (as := [.int x1, .ref a0, .ref a]) rfl rfl rfl rfl rfl
theorem s28_40 : jx_Go jxP d 28 40 [l0, l1, .int x, l3] st h Q ↔ jx_Go jxP d 28 43 [l0, l1, .int (x + (nI 1)), l3] st h Q := jg_inc rfl rfl rfl
theorem s28_43 : jx_Go jxP d 28 43 [l0, l1, l2, l3] st h Q ↔ jx_Go jxP d 28 26 [l0, l1, l2, l3] st h Q := jg_go rfl
theorem s28_46 : jx_Go jxP d 28 46 [l0, l1, l2, l3] st h Q ↔ jx_Go jxP d 28 47 [l0, l1, l2, l3] (.int (nI 1) :: st) h Q := jg_c rfl
theorem s28_47 : jx_Go jxP d 28 47 [l0, l1, l2, l3] (.int x :: st) h Q ↔ jx_Go jxP d 28 48 [l0, l1, .int x, l3] st h Q := jg_is rfl rfl
theorem s28_48 : jx_Go jxP d 28 48 [l0, l1, .int x, l3] st h Q ↔ jx_Go jxP d 28 49 [l0, l1, .int x, l3] (.int x :: st) h Q := jg_il rfl rfl
theorem s28_49 : jx_Go jxP d 28 49 [.ref a, l1, l2, l3] st h Q ↔ jx_Go jxP d 28 50 [.ref a, l1, l2, l3] (.ref a :: st) h Q := jg_al rfl rfl
theorem s28_50 : jx_Go jxP d 28 50 [l0, l1, l2, l3] (.ref a :: st) h Q ↔ ∃ v, jx_fl h a 4 0 = some v ∧ jx_Go jxP d 28 53 [l0, l1, l2, l3] (v :: st) h Q := jg_gf rfl
theorem s28_53 : jx_Go jxP d 28 53 [l0, l1, l2, l3] (.int y :: .int x :: st) h Q ↔ if y < x then jx_Go jxP d 28 114 [l0, l1, l2, l3] st h Q else jx_Go jxP d 28 56 [l0, l1, l2, l3] st h Q := jg_icP rfl rfl
theorem s28_56 : jx_Go jxP d 28 56 [l0, l1, .int x, l3] st h Q ↔ jx_Go jxP d 28 57 [l0, l1, .int x, l3] (.int x :: st) h Q := jg_il rfl rfl
theorem s28_57 : jx_Go jxP (d + 1) 28 57 [l0, l1, l2, l3] (.int x0 :: st) h Q ↔ (st.length ≤ 4 ∧ jx_Go jxP d 127 0 [.int x0] [] h (fun s1 h1 => jx_Go jxP (d + 1) 28 60 [l0, l1, l2, l3] (s1 ++ st) h1 Q)) := jg_callS (as := [.int x0]) rfl rfl rfl rfl
theorem s28_60 : jx_Go jxP d 28 60 [l0, l1, l2, l3] (.int x :: st) h Q ↔ jx_Go jxP d 28 61 [l0, l1, l2, .int x] st h Q := jg_is rfl rfl
theorem s28_61 : jx_Go jxP d 28 61 [l0, l1, .int x, l3] st h Q ↔ jx_Go jxP d 28 62 [l0, l1, .int x, l3] (.int x :: st) h Q := jg_il rfl rfl
theorem s28_62 : jx_Go jxP d 28 62 [l0, l1, l2, .int x] st h Q ↔ jx_Go jxP d 28 63 [l0, l1, l2, .int x] (.int x :: st) h Q := jg_il rfl rfl
theorem s28_63 : jx_Go jxP d 28 63 [l0, l1, l2, l3] (.int y :: .int x :: st) h Q ↔ if x = y then jx_Go jxP d 28 108 [l0, l1, l2, l3] st h Q else jx_Go jxP d 28 66 [l0, l1, l2, l3] st h Q := jg_icP rfl rfl
theorem s28_66 : jx_Go jxP d 28 66 [.ref a, l1, l2, l3] st h Q ↔ jx_Go jxP d 28 67 [.ref a, l1, l2, l3] (.ref a :: st) h Q := jg_al rfl rfl
theorem s28_67 : jx_Go jxP d 28 67 [l0, l1, l2, l3] (.ref a :: st) h Q ↔ ∃ v, jx_fl h a 4 2 = some v ∧ jx_Go jxP d 28 70 [l0, l1, l2, l3] (v :: st) h Q := jg_gf rfl
theorem s28_70 : jx_Go jxP d 28 70 [l0, l1, .int x, l3] st h Q ↔ jx_Go jxP d 28 71 [l0, l1, .int x, l3] (.int x :: st) h Q := jg_il rfl rfl
theorem s28_71 : jx_Go jxP d 28 71 [.ref a, l1, l2, l3] st h Q ↔ jx_Go jxP d 28 72 [.ref a, l1, l2, l3] (.ref a :: st) h Q := jg_al rfl rfl
theorem s28_72 : jx_Go jxP d 28 72 [l0, l1, l2, l3] (.ref a :: st) h Q ↔ ∃ v, jx_fl h a 4 2 = some v ∧ jx_Go jxP d 28 75 [l0, l1, l2, l3] (v :: st) h Q := jg_gf rfl
theorem s28_75 : jx_Go jxP d 28 75 [l0, l1, l2, .int x] st h Q ↔ jx_Go jxP d 28 76 [l0, l1, l2, .int x] (.int x :: st) h Q := jg_il rfl rfl
theorem s28_76 : jx_Go jxP d 28 76 [l0, l1, l2, l3] (.int x :: .ref a :: st) h Q ↔ ∃ q, jx_ai h a = some q ∧ jx_in x q.1 ∧ jx_Go jxP d 28 77 [l0, l1, l2, l3] (.int (q.2 x.toNatClampNeg) :: st) h Q := jg_ia rfl
theorem s28_77 : jx_Go jxP d 28 77 [.ref a, l1, l2, l3] st h Q ↔ jx_Go jxP d 28 78 [.ref a, l1, l2, l3] (.ref a :: st) h Q := jg_al rfl rfl
theorem s28_78 : jx_Go jxP d 28 78 [l0, l1, l2, l3] (.ref a :: st) h Q ↔ ∃ v, jx_fl h a 4 2 = some v ∧ jx_Go jxP d 28 81 [l0, l1, l2, l3] (v :: st) h Q := jg_gf rfl
theorem s28_81 : jx_Go jxP d 28 81 [l0, l1, .int x, l3] st h Q ↔ jx_Go jxP d 28 82 [l0, l1, .int x, l3] (.int x :: st) h Q := jg_il rfl rfl
theorem s28_82 : jx_Go jxP d 28 82 [l0, l1, l2, .int x] st h Q ↔ jx_Go jxP d 28 83 [l0, l1, l2, .int x] (.int x :: st) h Q := jg_il rfl rfl
theorem s28_83 : jx_Go jxP d 28 83 [l0, l1, l2, l3] (.int y :: .int x :: st) h Q ↔ jx_Go jxP d 28 84 [l0, l1, l2, l3] (.int (x - y) :: st) h Q := jg_b (f := fun x y => x - y) rfl
theorem s28_84 : jx_Go jxP d 28 84 [l0, l1, l2, l3] (.int x :: .ref a :: st) h Q ↔ ∃ q, jx_ai h a = some q ∧ jx_in x q.1 ∧ jx_Go jxP d 28 85 [l0, l1, l2, l3] (.int (q.2 x.toNatClampNeg) :: st) h Q := jg_ia rfl
theorem s28_85 : jx_Go jxP d 28 85 [l0, l1, l2, l3] (.int y :: .int x :: st) h Q ↔ jx_Go jxP d 28 86 [l0, l1, l2, l3] (.int (x ||| y) :: st) h Q := jg_b (f := fun x y => x ||| y) rfl
theorem s28_86 : jx_Go jxP d 28 86 [l0, l1, l2, l3] (.int y :: .int x :: .ref a :: st) h Q ↔ ∃ q, jx_ai h a = some q ∧ jx_in x q.1 ∧ jx_Go jxP d 28 87 [l0, l1, l2, l3] st (jx_wi h a q.1 (upd q.2 x.toNatClampNeg y)) Q := jg_iw rfl
theorem s28_87 : jx_Go jxP d 28 87 [.ref a, l1, l2, l3] st h Q ↔ jx_Go jxP d 28 88 [.ref a, l1, l2, l3] (.ref a :: st) h Q := jg_al rfl rfl
theorem s28_88 : jx_Go jxP d 28 88 [l0, l1, l2, l3] (.ref a :: st) h Q ↔ ∃ v, jx_fl h a 4 3 = some v ∧ jx_Go jxP d 28 91 [l0, l1, l2, l3] (v :: st) h Q := jg_gf rfl
theorem s28_91 : jx_Go jxP d 28 91 [l0, l1, .int x, l3] st h Q ↔ jx_Go jxP d 28 92 [l0, l1, .int x, l3] (.int x :: st) h Q := jg_il rfl rfl
theorem s28_92 : jx_Go jxP d 28 92 [.ref a, l1, l2, l3] st h Q ↔ jx_Go jxP d 28 93 [.ref a, l1, l2, l3] (.ref a :: st) h Q := jg_al rfl rfl
theorem s28_93 : jx_Go jxP d 28 93 [l0, l1, l2, l3] (.ref a :: st) h Q ↔ ∃ v, jx_fl h a 4 3 = some v ∧ jx_Go jxP d 28 96 [l0, l1, l2, l3] (v :: st) h Q := jg_gf rfl
theorem s28_96 : jx_Go jxP d 28 96 [l0, l1, l2, .int x] st h Q ↔ jx_Go jxP d 28 97 [l0, l1, l2, .int x] (.int x :: st) h Q := jg_il rfl rfl
theorem s28_97 : jx_Go jxP d 28 97 [l0, l1, l2, l3] (.int x :: .ref a :: st) h Q ↔ ∃ q, jx_ai h a = some q ∧ jx_in x q.1 ∧ jx_Go jxP d 28 98 [l0, l1, l2, l3] (.int (q.2 x.toNatClampNeg) :: st) h Q := jg_ia rfl
theorem s28_98 : jx_Go jxP d 28 98 [.ref a, l1, l2, l3] st h Q ↔ jx_Go jxP d 28 99 [.ref a, l1, l2, l3] (.ref a :: st) h Q := jg_al rfl rfl
theorem s28_99 : jx_Go jxP d 28 99 [l0, l1, l2, l3] (.ref a :: st) h Q ↔ ∃ v, jx_fl h a 4 3 = some v ∧ jx_Go jxP d 28 102 [l0, l1, l2, l3] (v :: st) h Q := jg_gf rfl
theorem s28_102 : jx_Go jxP d 28 102 [l0, l1, .int x, l3] st h Q ↔ jx_Go jxP d 28 103 [l0, l1, .int x, l3] (.int x :: st) h Q := jg_il rfl rfl
theorem s28_103 : jx_Go jxP d 28 103 [l0, l1, l2, .int x] st h Q ↔ jx_Go jxP d 28 104 [l0, l1, l2, .int x] (.int x :: st) h Q := jg_il rfl rfl
theorem s28_104 : jx_Go jxP d 28 104 [l0, l1, l2, l3] (.int y :: .int x :: st) h Q ↔ jx_Go jxP d 28 105 [l0, l1, l2, l3] (.int (x - y) :: st) h Q := jg_b (f := fun x y => x - y) rfl
theorem s28_105 : jx_Go jxP d 28 105 [l0, l1, l2, l3] (.int x :: .ref a :: st) h Q ↔ ∃ q, jx_ai h a = some q ∧ jx_in x q.1 ∧ jx_Go jxP d 28 106 [l0, l1, l2, l3] (.int (q.2 x.toNatClampNeg) :: st) h Q := jg_ia rfl
theorem s28_106 : jx_Go jxP d 28 106 [l0, l1, l2, l3] (.int y :: .int x :: st) h Q ↔ jx_Go jxP d 28 107 [l0, l1, l2, l3] (.int (x ||| y) :: st) h Q := jg_b (f := fun x y => x ||| y) rfl
theorem s28_107 : jx_Go jxP d 28 107 [l0, l1, l2, l3] (.int y :: .int x :: .ref a :: st) h Q ↔ ∃ q, jx_ai h a = some q ∧ jx_in x q.1 ∧ jx_Go jxP d 28 108 [l0, l1, l2, l3] st (jx_wi h a q.1 (upd q.2 x.toNatClampNeg y)) Q := jg_iw rfl
theorem s28_108 : jx_Go jxP d 28 108 [l0, l1, .int x, l3] st h Q ↔ jx_Go jxP d 28 111 [l0, l1, .int (x + (nI 1)), l3] st h Q := jg_inc rfl rfl rfl
theorem s28_111 : jx_Go jxP d 28 111 [l0, l1, l2, l3] st h Q ↔ jx_Go jxP d 28 48 [l0, l1, l2, l3] st h Q := jg_go rfl
theorem s28_114 : jx_Go jxP d 28 114 [l0, l1, l2, l3] [] h Q ↔ Q [] h := jx_rt rfl rfl
-- 29 TalkBench$Marks.readRow
theorem s29_0 : jx_Go jxP d 29 0 [l0, l1, l2, l3, l4, l5, l6] st h Q ↔ jx_Go jxP d 29 1 [l0, l1, l2, l3, l4, l5, l6] (.int (nI 0) :: st) h Q := jg_c rfl
theorem s29_1 : jx_Go jxP d 29 1 [l0, l1, l2, l3, l4, l5, l6] (.int x :: st) h Q ↔ jx_Go jxP d 29 2 [l0, l1, l2, .int x, l4, l5, l6] st h Q := jg_is rfl rfl
theorem s29_2 : jx_Go jxP d 29 2 [l0, l1, l2, l3, l4, l5, l6] st h Q ↔ jx_Go jxP d 29 3 [l0, l1, l2, l3, l4, l5, l6] (.int (nI 0) :: st) h Q := jg_c rfl
theorem s29_3 : jx_Go jxP d 29 3 [l0, l1, l2, l3, l4, l5, l6] (.int x :: st) h Q ↔ jx_Go jxP d 29 5 [l0, l1, l2, l3, .int x, l5, l6] st h Q := jg_is rfl rfl
theorem s29_5 : jx_Go jxP d 29 5 [l0, l1, l2, l3, l4, l5, l6] st h Q ↔ jx_Go jxP d 29 6 [l0, l1, l2, l3, l4, l5, l6] (.int (nI 0) :: st) h Q := jg_c rfl
theorem s29_6 : jx_Go jxP d 29 6 [l0, l1, l2, l3, l4, l5, l6] (.int x :: st) h Q ↔ jx_Go jxP d 29 8 [l0, l1, l2, l3, l4, .int x, l6] st h Q := jg_is rfl rfl
theorem s29_8 : jx_Go jxP d 29 8 [l0, l1, l2, l3, l4, .int x, l6] st h Q ↔ jx_Go jxP d 29 10 [l0, l1, l2, l3, l4, .int x, l6] (.int x :: st) h Q := jg_il rfl rfl
theorem s29_10 : jx_Go jxP d 29 10 [l0, .ref a, l2, l3, l4, l5, l6] st h Q ↔ jx_Go jxP d 29 11 [l0, .ref a, l2, l3, l4, l5, l6] (.ref a :: st) h Q := jg_al rfl rfl
theorem s29_11 : jx_Go jxP d 29 11 [l0, l1, l2, l3, l4, l5, l6] (.ref a :: st) h Q ↔ ∃ v, jx_fl h a 10 1 = some v ∧ jx_Go jxP d 29 14 [l0, l1, l2, l3, l4, l5, l6] (v :: st) h Q := jg_gf rfl
theorem s29_14 : jx_Go jxP d 29 14 [l0, l1, l2, l3, l4, l5, l6] (.int y :: .int x :: st) h Q ↔ if y ≤ x then jx_Go jxP d 29 66 [l0, l1, l2, l3, l4, l5, l6] st h Q else jx_Go jxP d 29 17 [l0, l1, l2, l3, l4, l5, l6] st h Q := jg_icP rfl rfl
theorem s29_17 : jx_Go jxP d 29 17 [l0, .ref a, l2, l3, l4, l5, l6] st h Q ↔ jx_Go jxP d 29 18 [l0, .ref a, l2, l3, l4, l5, l6] (.ref a :: st) h Q := jg_al rfl rfl
theorem s29_18 : jx_Go jxP d 29 18 [l0, l1, l2, l3, l4, l5, l6] (.ref a :: st) h Q ↔ ∃ v, jx_fl h a 10 2 = some v ∧ jx_Go jxP d 29 21 [l0, l1, l2, l3, l4, l5, l6] (v :: st) h Q := jg_gf rfl
theorem s29_21 : jx_Go jxP d 29 21 [l0, l1, l2, l3, l4, l5, l6] st h Q ↔ jx_Go jxP d 29 22 [l0, l1, l2, l3, l4, l5, l6] (.int (nI 5) :: st) h Q := jg_c rfl
theorem s29_22 : jx_Go jxP d 29 22 [l0, l1, .int x, l3, l4, l5, l6] st h Q ↔ jx_Go jxP d 29 23 [l0, l1, .int x, l3, l4, l5, l6] (.int x :: st) h Q := jg_il rfl rfl
theorem s29_23 : jx_Go jxP d 29 23 [l0, l1, l2, l3, l4, l5, l6] (.int y :: .int x :: st) h Q ↔ jx_Go jxP d 29 24 [l0, l1, l2, l3, l4, l5, l6] (.int (x * y) :: st) h Q := jg_b (f := fun x y => x * y) rfl
theorem s29_24 : jx_Go jxP d 29 24 [l0, l1, l2, l3, l4, .int x, l6] st h Q ↔ jx_Go jxP d 29 26 [l0, l1, l2, l3, l4, .int x, l6] (.int x :: st) h Q := jg_il rfl rfl
theorem s29_26 : jx_Go jxP d 29 26 [l0, l1, l2, l3, l4, l5, l6] (.int y :: .int x :: st) h Q ↔ jx_Go jxP d 29 27 [l0, l1, l2, l3, l4, l5, l6] (.int (x + y) :: st) h Q := jg_b (f := fun x y => x + y) rfl
theorem s29_27 : jx_Go jxP d 29 27 [l0, l1, l2, l3, l4, l5, l6] (.int x :: .ref a :: st) h Q ↔ ∃ q, jx_ai h a = some q ∧ jx_in x q.1 ∧ jx_Go jxP d 29 28 [l0, l1, l2, l3, l4, l5, l6] (.int (q.2 x.toNatClampNeg) :: st) h Q := jg_ia rfl
theorem s29_28 : jx_Go jxP d 29 28 [l0, l1, l2, l3, l4, l5, l6] (.int x :: st) h Q ↔ jx_Go jxP d 29 30 [l0, l1, l2, l3, l4, l5, .int x] st h Q := jg_is rfl rfl
theorem s29_30 : jx_Go jxP d 29 30 [l0, l1, l2, l3, l4, l5, .int x] st h Q ↔ jx_Go jxP d 29 32 [l0, l1, l2, l3, l4, l5, .int x] (.int x :: st) h Q := jg_il rfl rfl
theorem s29_32 : jx_Go jxP d 29 32 [l0, l1, l2, l3, l4, l5, l6] st h Q ↔ jx_Go jxP d 29 33 [l0, l1, l2, l3, l4, l5, l6] (.int (nI 1) :: st) h Q := jg_c rfl
theorem s29_33 : jx_Go jxP d 29 33 [l0, l1, l2, l3, l4, l5, l6] (.int y :: .int x :: st) h Q ↔ if x = y then jx_Go jxP d 29 36 [l0, l1, l2, l3, l4, l5, l6] st h Q else jx_Go jxP d 29 46 [l0, l1, l2, l3, l4, l5, l6] st h Q := jg_icN rfl rfl
theorem s29_36 : jx_Go jxP d 29 36 [l0, l1, l2, .int x, l4, l5, l6] st h Q ↔ jx_Go jxP d 29 37 [l0, l1, l2, .int x, l4, l5, l6] (.int x :: st) h Q := jg_il rfl rfl
theorem s29_37 : jx_Go jxP d 29 37 [l0, l1, l2, l3, l4, l5, l6] st h Q ↔ jx_Go jxP d 29 38 [l0, l1, l2, l3, l4, l5, l6] (.int (nI 1) :: st) h Q := jg_c rfl
theorem s29_38 : jx_Go jxP d 29 38 [l0, l1, l2, l3, l4, .int x, l6] st h Q ↔ jx_Go jxP d 29 40 [l0, l1, l2, l3, l4, .int x, l6] (.int x :: st) h Q := jg_il rfl rfl
theorem s29_40 : jx_Go jxP d 29 40 [l0, l1, l2, l3, l4, l5, l6] (.int y :: .int x :: st) h Q ↔ jx_Go jxP d 29 41 [l0, l1, l2, l3, l4, l5, l6] (.int (x <<< (y &&& 31)) :: st) h Q := jg_b (f := fun x y => x <<< (y &&& 31)) rfl
theorem s29_41 : jx_Go jxP d 29 41 [l0, l1, l2, l3, l4, l5, l6] (.int y :: .int x :: st) h Q ↔ jx_Go jxP d 29 42 [l0, l1, l2, l3, l4, l5, l6] (.int (x ||| y) :: st) h Q := jg_b (f := fun x y => x ||| y) rfl
theorem s29_42 : jx_Go jxP d 29 42 [l0, l1, l2, l3, l4, l5, l6] (.int x :: st) h Q ↔ jx_Go jxP d 29 43 [l0, l1, l2, .int x, l4, l5, l6] st h Q := jg_is rfl rfl
theorem s29_43 : jx_Go jxP d 29 43 [l0, l1, l2, l3, l4, l5, l6] st h Q ↔ jx_Go jxP d 29 60 [l0, l1, l2, l3, l4, l5, l6] st h Q := jg_go rfl
theorem s29_46 : jx_Go jxP d 29 46 [l0, l1, l2, l3, l4, l5, .int x] st h Q ↔ jx_Go jxP d 29 48 [l0, l1, l2, l3, l4, l5, .int x] (.int x :: st) h Q := jg_il rfl rfl
theorem s29_48 : jx_Go jxP d 29 48 [l0, l1, l2, l3, l4, l5, l6] (.int x :: st) h Q ↔ if x = 0 then jx_Go jxP d 29 51 [l0, l1, l2, l3, l4, l5, l6] st h Q else jx_Go jxP d 29 60 [l0, l1, l2, l3, l4, l5, l6] st h Q := jg_ifN rfl rfl
theorem s29_51 : jx_Go jxP d 29 51 [l0, l1, l2, l3, .int x, l5, l6] st h Q ↔ jx_Go jxP d 29 53 [l0, l1, l2, l3, .int x, l5, l6] (.int x :: st) h Q := jg_il rfl rfl
theorem s29_53 : jx_Go jxP d 29 53 [l0, l1, l2, l3, l4, l5, l6] st h Q ↔ jx_Go jxP d 29 54 [l0, l1, l2, l3, l4, l5, l6] (.int (nI 1) :: st) h Q := jg_c rfl
theorem s29_54 : jx_Go jxP d 29 54 [l0, l1, l2, l3, l4, .int x, l6] st h Q ↔ jx_Go jxP d 29 56 [l0, l1, l2, l3, l4, .int x, l6] (.int x :: st) h Q := jg_il rfl rfl
theorem s29_56 : jx_Go jxP d 29 56 [l0, l1, l2, l3, l4, l5, l6] (.int y :: .int x :: st) h Q ↔ jx_Go jxP d 29 57 [l0, l1, l2, l3, l4, l5, l6] (.int (x <<< (y &&& 31)) :: st) h Q := jg_b (f := fun x y => x <<< (y &&& 31)) rfl
theorem s29_57 : jx_Go jxP d 29 57 [l0, l1, l2, l3, l4, l5, l6] (.int y :: .int x :: st) h Q ↔ jx_Go jxP d 29 58 [l0, l1, l2, l3, l4, l5, l6] (.int (x ||| y) :: st) h Q := jg_b (f := fun x y => x ||| y) rfl
theorem s29_58 : jx_Go jxP d 29 58 [l0, l1, l2, l3, l4, l5, l6] (.int x :: st) h Q ↔ jx_Go jxP d 29 60 [l0, l1, l2, l3, .int x, l5, l6] st h Q := jg_is rfl rfl
theorem s29_60 : jx_Go jxP d 29 60 [l0, l1, l2, l3, l4, .int x, l6] st h Q ↔ jx_Go jxP d 29 63 [l0, l1, l2, l3, l4, .int (x + (nI 1)), l6] st h Q := jg_inc rfl rfl rfl
theorem s29_63 : jx_Go jxP d 29 63 [l0, l1, l2, l3, l4, l5, l6] st h Q ↔ jx_Go jxP d 29 8 [l0, l1, l2, l3, l4, l5, l6] st h Q := jg_go rfl
theorem s29_66 : jx_Go jxP d 29 66 [.ref a, l1, l2, l3, l4, l5, l6] st h Q ↔ jx_Go jxP d 29 67 [.ref a, l1, l2, l3, l4, l5, l6] (.ref a :: st) h Q := jg_al rfl rfl
theorem s29_67 : jx_Go jxP d 29 67 [l0, l1, l2, l3, l4, l5, l6] (.ref a :: st) h Q ↔ ∃ v, jx_fl h a 4 2 = some v ∧ jx_Go jxP d 29 70 [l0, l1, l2, l3, l4, l5, l6] (v :: st) h Q := jg_gf rfl
theorem s29_70 : jx_Go jxP d 29 70 [l0, l1, l2, l3, l4, l5, l6] st h Q ↔ jx_Go jxP d 29 71 [l0, l1, l2, l3, l4, l5, l6] (.int (nI 1) :: st) h Q := jg_c rfl
theorem s29_71 : jx_Go jxP d 29 71 [l0, l1, .int x, l3, l4, l5, l6] st h Q ↔ jx_Go jxP d 29 72 [l0, l1, .int x, l3, l4, l5, l6] (.int x :: st) h Q := jg_il rfl rfl
theorem s29_72 : jx_Go jxP d 29 72 [l0, l1, l2, l3, l4, l5, l6] (.int y :: .int x :: st) h Q ↔ jx_Go jxP d 29 73 [l0, l1, l2, l3, l4, l5, l6] (.int (x <<< (y &&& 31)) :: st) h Q := jg_b (f := fun x y => x <<< (y &&& 31)) rfl
theorem s29_73 : jx_Go jxP d 29 73 [l0, l1, l2, .int x, l4, l5, l6] st h Q ↔ jx_Go jxP d 29 74 [l0, l1, l2, .int x, l4, l5, l6] (.int x :: st) h Q := jg_il rfl rfl
theorem s29_74 : jx_Go jxP d 29 74 [l0, l1, l2, l3, l4, l5, l6] (.int y :: .int x :: .ref a :: st) h Q ↔ ∃ q, jx_ai h a = some q ∧ jx_in x q.1 ∧ jx_Go jxP d 29 75 [l0, l1, l2, l3, l4, l5, l6] st (jx_wi h a q.1 (upd q.2 x.toNatClampNeg y)) Q := jg_iw rfl
theorem s29_75 : jx_Go jxP d 29 75 [.ref a, l1, l2, l3, l4, l5, l6] st h Q ↔ jx_Go jxP d 29 76 [.ref a, l1, l2, l3, l4, l5, l6] (.ref a :: st) h Q := jg_al rfl rfl
theorem s29_76 : jx_Go jxP d 29 76 [l0, l1, l2, l3, l4, l5, l6] (.ref a :: st) h Q ↔ ∃ v, jx_fl h a 4 3 = some v ∧ jx_Go jxP d 29 79 [l0, l1, l2, l3, l4, l5, l6] (v :: st) h Q := jg_gf rfl
theorem s29_79 : jx_Go jxP d 29 79 [l0, l1, l2, l3, l4, l5, l6] st h Q ↔ jx_Go jxP d 29 80 [l0, l1, l2, l3, l4, l5, l6] (.int (nI 1) :: st) h Q := jg_c rfl
theorem s29_80 : jx_Go jxP d 29 80 [l0, l1, .int x, l3, l4, l5, l6] st h Q ↔ jx_Go jxP d 29 81 [l0, l1, .int x, l3, l4, l5, l6] (.int x :: st) h Q := jg_il rfl rfl
theorem s29_81 : jx_Go jxP d 29 81 [l0, l1, l2, l3, l4, l5, l6] (.int y :: .int x :: st) h Q ↔ jx_Go jxP d 29 82 [l0, l1, l2, l3, l4, l5, l6] (.int (x <<< (y &&& 31)) :: st) h Q := jg_b (f := fun x y => x <<< (y &&& 31)) rfl
theorem s29_82 : jx_Go jxP d 29 82 [l0, l1, l2, l3, .int x, l5, l6] st h Q ↔ jx_Go jxP d 29 84 [l0, l1, l2, l3, .int x, l5, l6] (.int x :: st) h Q := jg_il rfl rfl
theorem s29_84 : jx_Go jxP d 29 84 [l0, l1, l2, l3, l4, l5, l6] (.int y :: .int x :: .ref a :: st) h Q ↔ ∃ q, jx_ai h a = some q ∧ jx_in x q.1 ∧ jx_Go jxP d 29 85 [l0, l1, l2, l3, l4, l5, l6] st (jx_wi h a q.1 (upd q.2 x.toNatClampNeg y)) Q := jg_iw rfl
theorem s29_85 : jx_Go jxP d 29 85 [l0, l1, l2, l3, l4, l5, l6] [] h Q ↔ Q [] h := jx_rt rfl rfl
-- 30 TalkBench$Marks.hasBlock
theorem s30_0 : jx_Go jxP d 30 0 [l0, .int x, l2] st h Q ↔ jx_Go jxP d 30 1 [l0, .int x, l2] (.int x :: st) h Q := jg_il rfl rfl
theorem s30_1 : jx_Go jxP d 30 1 [l0, l1, l2] st h Q ↔ jx_Go jxP d 30 2 [l0, l1, l2] (.int (nI 1) :: st) h Q := jg_c rfl
theorem s30_2 : jx_Go jxP d 30 2 [l0, l1, l2] (.int y :: .int x :: st) h Q ↔ if x < y then jx_Go jxP d 30 30 [l0, l1, l2] st h Q else jx_Go jxP d 30 5 [l0, l1, l2] st h Q := jg_icP rfl rfl
theorem s30_5 : jx_Go jxP d 30 5 [l0, .int x, l2] st h Q ↔ jx_Go jxP d 30 6 [l0, .int x, l2] (.int x :: st) h Q := jg_il rfl rfl
theorem s30_6 : jx_Go jxP d 30 6 [.ref a, l1, l2] st h Q ↔ jx_Go jxP d 30 7 [.ref a, l1, l2] (.ref a :: st) h Q := jg_al rfl rfl
theorem s30_7 : jx_Go jxP d 30 7 [l0, l1, l2] (.ref a :: st) h Q ↔ ∃ v, jx_fl h a 4 0 = some v ∧ jx_Go jxP d 30 10 [l0, l1, l2] (v :: st) h Q := jg_gf rfl
theorem s30_10 : jx_Go jxP d 30 10 [l0, l1, l2] (.int y :: .int x :: st) h Q ↔ if y < x then jx_Go jxP d 30 30 [l0, l1, l2] st h Q else jx_Go jxP d 30 13 [l0, l1, l2] st h Q := jg_icP rfl rfl
theorem s30_13 : jx_Go jxP d 30 13 [l0, l1, .int x] st h Q ↔ jx_Go jxP d 30 14 [l0, l1, .int x] (.int x :: st) h Q := jg_il rfl rfl
theorem s30_14 : jx_Go jxP d 30 14 [l0, l1, l2] st h Q ↔ jx_Go jxP d 30 15 [l0, l1, l2] (.int (nI 1) :: st) h Q := jg_c rfl
theorem s30_15 : jx_Go jxP d 30 15 [l0, l1, l2] (.int y :: .int x :: st) h Q ↔ if x < y then jx_Go jxP d 30 30 [l0, l1, l2] st h Q else jx_Go jxP d 30 18 [l0, l1, l2] st h Q := jg_icP rfl rfl
theorem s30_18 : jx_Go jxP d 30 18 [l0, l1, .int x] st h Q ↔ jx_Go jxP d 30 19 [l0, l1, .int x] (.int x :: st) h Q := jg_il rfl rfl
theorem s30_19 : jx_Go jxP d 30 19 [.ref a, l1, l2] st h Q ↔ jx_Go jxP d 30 20 [.ref a, l1, l2] (.ref a :: st) h Q := jg_al rfl rfl
theorem s30_20 : jx_Go jxP d 30 20 [l0, l1, l2] (.ref a :: st) h Q ↔ ∃ v, jx_fl h a 4 1 = some v ∧ jx_Go jxP d 30 23 [l0, l1, l2] (v :: st) h Q := jg_gf rfl
theorem s30_23 : jx_Go jxP d 30 23 [l0, l1, l2] (.int y :: .int x :: st) h Q ↔ if y < x then jx_Go jxP d 30 30 [l0, l1, l2] st h Q else jx_Go jxP d 30 26 [l0, l1, l2] st h Q := jg_icP rfl rfl
theorem s30_26 : jx_Go jxP d 30 26 [l0, l1, l2] st h Q ↔ jx_Go jxP d 30 27 [l0, l1, l2] (.int (nI 1) :: st) h Q := jg_c rfl
theorem s30_27 : jx_Go jxP d 30 27 [l0, l1, l2] st h Q ↔ jx_Go jxP d 30 31 [l0, l1, l2] st h Q := jg_go rfl
theorem s30_30 : jx_Go jxP d 30 30 [l0, l1, l2] st h Q ↔ jx_Go jxP d 30 31 [l0, l1, l2] (.int (nI 0) :: st) h Q := jg_c rfl
theorem s30_31b0 : jx_Go jxP d 30 31 [l0, l1, l2] [.int (nI 0)] h Q ↔ Q [.int (nI 0)] h := jx_rt rfl rfl
theorem s30_31b1 : jx_Go jxP d 30 31 [l0, l1, l2] [.int (nI 1)] h Q ↔ Q [.int (nI 1)] h := jx_rt rfl rfl
-- 31 TalkBench$Marks.isEven
theorem s31_0 : jx_Go jxP d 31 0 [.ref a, l1, l2] st h Q ↔ jx_Go jxP d 31 1 [.ref a, l1, l2] (.ref a :: st) h Q := jg_al rfl rfl
theorem s31_1 : jx_Go jxP d 31 1 [l0, l1, l2] (.ref a :: st) h Q ↔ ∃ v, jx_fl h a 4 2 = some v ∧ jx_Go jxP d 31 4 [l0, l1, l2] (v :: st) h Q := jg_gf rfl
theorem s31_4 : jx_Go jxP d 31 4 [l0, .int x, l2] st h Q ↔ jx_Go jxP d 31 5 [l0, .int x, l2] (.int x :: st) h Q := jg_il rfl rfl
theorem s31_5 : jx_Go jxP d 31 5 [l0, l1, l2] (.int x :: .ref a :: st) h Q ↔ ∃ q, jx_ai h a = some q ∧ jx_in x q.1 ∧ jx_Go jxP d 31 6 [l0, l1, l2] (.int (q.2 x.toNatClampNeg) :: st) h Q := jg_ia rfl
theorem s31_6 : jx_Go jxP d 31 6 [l0, l1, .int x] st h Q ↔ jx_Go jxP d 31 7 [l0, l1, .int x] (.int x :: st) h Q := jg_il rfl rfl
theorem s31_7 : jx_Go jxP d 31 7 [l0, l1, l2] (.int y :: .int x :: st) h Q ↔ jx_Go jxP d 31 8 [l0, l1, l2] (.int (x &&& y) :: st) h Q := jg_b (f := fun x y => x &&& y) rfl
theorem s31_8 : jx_Go jxP d 31 8 [l0, l1, l2] (.int x :: st) h Q ↔ if x = 0 then jx_Go jxP d 31 22 [l0, l1, l2] st h Q else jx_Go jxP d 31 11 [l0, l1, l2] st h Q := jg_ifP rfl rfl
theorem s31_11 : jx_Go jxP d 31 11 [.ref a, l1, l2] st h Q ↔ jx_Go jxP d 31 12 [.ref a, l1, l2] (.ref a :: st) h Q := jg_al rfl rfl
theorem s31_12 : jx_Go jxP d 31 12 [l0, l1, l2] (.ref a :: st) h Q ↔ ∃ v, jx_fl h a 4 3 = some v ∧ jx_Go jxP d 31 15 [l0, l1, l2] (v :: st) h Q := jg_gf rfl
theorem s31_15 : jx_Go jxP d 31 15 [l0, .int x, l2] st h Q ↔ jx_Go jxP d 31 16 [l0, .int x, l2] (.int x :: st) h Q := jg_il rfl rfl
theorem s31_16 : jx_Go jxP d 31 16 [l0, l1, l2] (.int x :: .ref a :: st) h Q ↔ ∃ q, jx_ai h a = some q ∧ jx_in x q.1 ∧ jx_Go jxP d 31 17 [l0, l1, l2] (.int (q.2 x.toNatClampNeg) :: st) h Q := jg_ia rfl
theorem s31_17 : jx_Go jxP d 31 17 [l0, l1, .int x] st h Q ↔ jx_Go jxP d 31 18 [l0, l1, .int x] (.int x :: st) h Q := jg_il rfl rfl
theorem s31_18 : jx_Go jxP d 31 18 [l0, l1, l2] (.int y :: .int x :: st) h Q ↔ jx_Go jxP d 31 19 [l0, l1, l2] (.int (x &&& y) :: st) h Q := jg_b (f := fun x y => x &&& y) rfl
theorem s31_19 : jx_Go jxP d 31 19 [l0, l1, l2] (.int x :: st) h Q ↔ if x = 0 then jx_Go jxP d 31 22 [l0, l1, l2] st h Q else jx_Go jxP d 31 26 [l0, l1, l2] st h Q := jg_ifN rfl rfl
theorem s31_22 : jx_Go jxP d 31 22 [l0, l1, l2] st h Q ↔ jx_Go jxP d 31 23 [l0, l1, l2] (.int (nI 1) :: st) h Q := jg_c rfl
theorem s31_23 : jx_Go jxP d 31 23 [l0, l1, l2] st h Q ↔ jx_Go jxP d 31 27 [l0, l1, l2] st h Q := jg_go rfl
theorem s31_26 : jx_Go jxP d 31 26 [l0, l1, l2] st h Q ↔ jx_Go jxP d 31 27 [l0, l1, l2] (.int (nI 0) :: st) h Q := jg_c rfl
theorem s31_27b0 : jx_Go jxP d 31 27 [l0, l1, l2] [.int (nI 0)] h Q ↔ Q [.int (nI 0)] h := jx_rt rfl rfl
theorem s31_27b1 : jx_Go jxP d 31 27 [l0, l1, l2] [.int (nI 1)] h Q ↔ Q [.int (nI 1)] h := jx_rt rfl rfl
-- 32 TalkBench$Marks.columnsWith
theorem s32_0 : jx_Go jxP d 32 0 [l0, .int x, l2] st h Q ↔ jx_Go jxP d 32 1 [l0, .int x, l2] (.int x :: st) h Q := jg_il rfl rfl
theorem s32_1 : jx_Go jxP d 32 1 [l0, l1, l2] st h Q ↔ jx_Go jxP d 32 2 [l0, l1, l2] (.int (nI 1) :: st) h Q := jg_c rfl
theorem s32_2 : jx_Go jxP d 32 2 [l0, l1, l2] (.int y :: .int x :: st) h Q ↔ if x = y then jx_Go jxP d 32 5 [l0, l1, l2] st h Q else jx_Go jxP d 32 14 [l0, l1, l2] st h Q := jg_icN rfl rfl
theorem s32_5 : jx_Go jxP d 32 5 [.ref a, l1, l2] st h Q ↔ jx_Go jxP d 32 6 [.ref a, l1, l2] (.ref a :: st) h Q := jg_al rfl rfl
theorem s32_6 : jx_Go jxP d 32 6 [l0, l1, l2] (.ref a :: st) h Q ↔ ∃ v, jx_fl h a 4 2 = some v ∧ jx_Go jxP d 32 9 [l0, l1, l2] (v :: st) h Q := jg_gf rfl
theorem s32_9 : jx_Go jxP d 32 9 [l0, l1, .int x] st h Q ↔ jx_Go jxP d 32 10 [l0, l1, .int x] (.int x :: st) h Q := jg_il rfl rfl
theorem s32_10 : jx_Go jxP d 32 10 [l0, l1, l2] (.int x :: .ref a :: st) h Q ↔ ∃ q, jx_ai h a = some q ∧ jx_in x q.1 ∧ jx_Go jxP d 32 11 [l0, l1, l2] (.int (q.2 x.toNatClampNeg) :: st) h Q := jg_ia rfl
theorem s32_11 : jx_Go jxP d 32 11 [l0, l1, l2] st h Q ↔ jx_Go jxP d 32 20 [l0, l1, l2] st h Q := jg_go rfl
theorem s32_14 : jx_Go jxP d 32 14 [.ref a, l1, l2] st h Q ↔ jx_Go jxP d 32 15 [.ref a, l1, l2] (.ref a :: st) h Q := jg_al rfl rfl
theorem s32_15 : jx_Go jxP d 32 15 [l0, l1, l2] (.ref a :: st) h Q ↔ ∃ v, jx_fl h a 4 3 = some v ∧ jx_Go jxP d 32 18 [l0, l1, l2] (v :: st) h Q := jg_gf rfl
theorem s32_18 : jx_Go jxP d 32 18 [l0, l1, .int x] st h Q ↔ jx_Go jxP d 32 19 [l0, l1, .int x] (.int x :: st) h Q := jg_il rfl rfl
theorem s32_19 : jx_Go jxP d 32 19 [l0, l1, l2] (.int x :: .ref a :: st) h Q ↔ ∃ q, jx_ai h a = some q ∧ jx_in x q.1 ∧ jx_Go jxP d 32 20 [l0, l1, l2] (.int (q.2 x.toNatClampNeg) :: st) h Q := jg_ia rfl
theorem s32_20 : jx_Go jxP d 32 20 [l0, l1, l2] [.int x] h Q ↔ Q [.int x] h := jx_rt rfl rfl
-- 33 TalkBench$Marks.areInOneEvenBlock
theorem s33_0 : jx_Go jxP d 33 0 [l0, l1, l2, l3, l4] st h Q ↔ jx_Go jxP d 33 1 [l0, l1, l2, l3, l4] (.int (nI 1) :: st) h Q := jg_c rfl
theorem s33_1 : jx_Go jxP d 33 1 [l0, .int x, l2, l3, l4] st h Q ↔ jx_Go jxP d 33 2 [l0, .int x, l2, l3, l4] (.int x :: st) h Q := jg_il rfl rfl
theorem s33_2 : jx_Go jxP d 33 2 [l0, l1, l2, l3, l4] st h Q ↔ jx_Go jxP d 33 3 [l0, l1, l2, l3, l4] (.int (nI 5) :: st) h Q := jg_c rfl
theorem s33_3 : jx_Go jxP d 33 3 [l0, l1, l2, l3, l4] (.int y :: .int x :: st) h Q ↔ (¬ y = 0 ∧ jx_Go jxP d 33 4 [l0, l1, l2, l3, l4] (.int (x / y) :: st) h Q) := jg_q (f := fun x y => x / y) rfl
theorem s33_4 : jx_Go jxP d 33 4 [l0, l1, l2, l3, l4] (.int y :: .int x :: st) h Q ↔ jx_Go jxP d 33 5 [l0, l1, l2, l3, l4] (.int (x <<< (y &&& 31)) :: st) h Q := jg_b (f := fun x y => x <<< (y &&& 31)) rfl
theorem s33_5 : jx_Go jxP d 33 5 [l0, l1, l2, l3, l4] st h Q ↔ jx_Go jxP d 33 6 [l0, l1, l2, l3, l4] (.int (nI 1) :: st) h Q := jg_c rfl
theorem s33_6 : jx_Go jxP d 33 6 [l0, l1, .int x, l3, l4] st h Q ↔ jx_Go jxP d 33 7 [l0, l1, .int x, l3, l4] (.int x :: st) h Q := jg_il rfl rfl
theorem s33_7 : jx_Go jxP d 33 7 [l0, l1, l2, l3, l4] st h Q ↔ jx_Go jxP d 33 8 [l0, l1, l2, l3, l4] (.int (nI 5) :: st) h Q := jg_c rfl
theorem s33_8 : jx_Go jxP d 33 8 [l0, l1, l2, l3, l4] (.int y :: .int x :: st) h Q ↔ (¬ y = 0 ∧ jx_Go jxP d 33 9 [l0, l1, l2, l3, l4] (.int (x / y) :: st) h Q) := jg_q (f := fun x y => x / y) rfl
theorem s33_9 : jx_Go jxP d 33 9 [l0, l1, l2, l3, l4] (.int y :: .int x :: st) h Q ↔ jx_Go jxP d 33 10 [l0, l1, l2, l3, l4] (.int (x <<< (y &&& 31)) :: st) h Q := jg_b (f := fun x y => x <<< (y &&& 31)) rfl
theorem s33_10 : jx_Go jxP d 33 10 [l0, l1, l2, l3, l4] (.int y :: .int x :: st) h Q ↔ jx_Go jxP d 33 11 [l0, l1, l2, l3, l4] (.int (x ||| y) :: st) h Q := jg_b (f := fun x y => x ||| y) rfl
theorem s33_11 : jx_Go jxP d 33 11 [l0, l1, l2, l3, l4] (.int x :: st) h Q ↔ jx_Go jxP d 33 12 [l0, l1, l2, .int x, l4] st h Q := jg_is rfl rfl
theorem s33_12 : jx_Go jxP d 33 12 [l0, l1, l2, l3, l4] st h Q ↔ jx_Go jxP d 33 13 [l0, l1, l2, l3, l4] (.int (nI 1) :: st) h Q := jg_c rfl
theorem s33_13 : jx_Go jxP d 33 13 [l0, .int x, l2, l3, l4] st h Q ↔ jx_Go jxP d 33 14 [l0, .int x, l2, l3, l4] (.int x :: st) h Q := jg_il rfl rfl
theorem s33_14 : jx_Go jxP d 33 14 [l0, l1, l2, l3, l4] st h Q ↔ jx_Go jxP d 33 15 [l0, l1, l2, l3, l4] (.int (nI 5) :: st) h Q := jg_c rfl
theorem s33_15 : jx_Go jxP d 33 15 [l0, l1, l2, l3, l4] (.int y :: .int x :: st) h Q ↔ (¬ y = 0 ∧ jx_Go jxP d 33 16 [l0, l1, l2, l3, l4] (.int (x - x / y * y) :: st) h Q) := jg_q (f := fun x y => x - x / y * y) rfl
theorem s33_16 : jx_Go jxP d 33 16 [l0, l1, l2, l3, l4] (.int y :: .int x :: st) h Q ↔ jx_Go jxP d 33 17 [l0, l1, l2, l3, l4] (.int (x <<< (y &&& 31)) :: st) h Q := jg_b (f := fun x y => x <<< (y &&& 31)) rfl
theorem s33_17 : jx_Go jxP d 33 17 [l0, l1, l2, l3, l4] st h Q ↔ jx_Go jxP d 33 18 [l0, l1, l2, l3, l4] (.int (nI 1) :: st) h Q := jg_c rfl
theorem s33_18 : jx_Go jxP d 33 18 [l0, l1, .int x, l3, l4] st h Q ↔ jx_Go jxP d 33 19 [l0, l1, .int x, l3, l4] (.int x :: st) h Q := jg_il rfl rfl
theorem s33_19 : jx_Go jxP d 33 19 [l0, l1, l2, l3, l4] st h Q ↔ jx_Go jxP d 33 20 [l0, l1, l2, l3, l4] (.int (nI 5) :: st) h Q := jg_c rfl
theorem s33_20 : jx_Go jxP d 33 20 [l0, l1, l2, l3, l4] (.int y :: .int x :: st) h Q ↔ (¬ y = 0 ∧ jx_Go jxP d 33 21 [l0, l1, l2, l3, l4] (.int (x - x / y * y) :: st) h Q) := jg_q (f := fun x y => x - x / y * y) rfl
theorem s33_21 : jx_Go jxP d 33 21 [l0, l1, l2, l3, l4] (.int y :: .int x :: st) h Q ↔ jx_Go jxP d 33 22 [l0, l1, l2, l3, l4] (.int (x <<< (y &&& 31)) :: st) h Q := jg_b (f := fun x y => x <<< (y &&& 31)) rfl
theorem s33_22 : jx_Go jxP d 33 22 [l0, l1, l2, l3, l4] (.int y :: .int x :: st) h Q ↔ jx_Go jxP d 33 23 [l0, l1, l2, l3, l4] (.int (x ||| y) :: st) h Q := jg_b (f := fun x y => x ||| y) rfl
theorem s33_23 : jx_Go jxP d 33 23 [l0, l1, l2, l3, l4] (.int x :: st) h Q ↔ jx_Go jxP d 33 25 [l0, l1, l2, l3, .int x] st h Q := jg_is rfl rfl
theorem s33_25 : jx_Go jxP d 33 25 [.ref a, l1, l2, l3, l4] st h Q ↔ jx_Go jxP d 33 26 [.ref a, l1, l2, l3, l4] (.ref a :: st) h Q := jg_al rfl rfl
theorem s33_26 : jx_Go jxP d 33 26 [l0, l1, l2, .int x, l4] st h Q ↔ jx_Go jxP d 33 27 [l0, l1, l2, .int x, l4] (.int x :: st) h Q := jg_il rfl rfl
theorem s33_27 : jx_Go jxP d 33 27 [l0, l1, l2, l3, .int x] st h Q ↔ jx_Go jxP d 33 29 [l0, l1, l2, l3, .int x] (.int x :: st) h Q := jg_il rfl rfl
theorem s33_29 : jx_Go jxP (d + 1) 33 29 [l0, l1, l2, l3, l4] (.int x1 :: .int x0 :: .ref a :: st) h Q ↔ (st.length ≤ 4 ∧ jx_cl h a = some 4 ∧ jx_Go jxP d 31 0 [.ref a, .int x0, .int x1] [] h (fun s1 h1 => jx_Go jxP (d + 1) 33 32 [l0, l1, l2, l3, l4] (s1 ++ st) h1 Q)) := jg_callV (as := [.int x1, .int x0, .ref a]) rfl rfl rfl rfl rfl
theorem s33_32b0 : jx_Go jxP d 33 32 [l0, l1, l2, l3, l4] [.int (nI 0)] h Q ↔ Q [.int (nI 0)] h := jx_rt rfl rfl
theorem s33_32b1 : jx_Go jxP d 33 32 [l0, l1, l2, l3, l4] [.int (nI 1)] h Q ↔ Q [.int (nI 1)] h := jx_rt rfl rfl
-- 35 TalkBench$Scales.<init>
theorem s35_0 : jx_Go jxP d 35 0 [.ref a, l1, l2, l3] st h Q ↔ jx_Go jxP d 35 1 [.ref a, l1, l2, l3] (.ref a :: st) h Q := jg_al rfl rfl
theorem s35_1 : jx_Go jxP d 35 1 [l0, l1, l2, l3] [.ref a] h Q ↔ jx_Go jxP d 35 4 [l0, l1, l2, l3] [] h Q := jg_oi rfl
theorem s35_4 : jx_Go jxP d 35 4 [.ref a, l1, l2, l3] st h Q ↔ jx_Go jxP d 35 5 [.ref a, l1, l2, l3] (.ref a :: st) h Q := jg_al rfl rfl
theorem s35_5 : jx_Go jxP d 35 5 [l0, l1, l2, l3] st h Q ↔ jx_Go jxP d 35 8 [l0, l1, l2, l3] (.int (nI 1024) :: st) h Q := jg_c rfl
theorem s35_8 : jx_Go jxP d 35 8 [l0, l1, l2, l3] (.int (nI 1024) :: st) h Q ↔ jx_Go jxP d 35 10 [l0, l1, l2, l3] (.ref h.1 :: st) (jx_mk h 1024 (.inl (0, 1024, .inl (fun _ => 0)))) Q := jg_ni rfl (jx_inB_iff.mp (by decide +kernel))
theorem s35_10 : jx_Go jxP d 35 10 [l0, l1, l2, l3] (.ref b :: .ref a :: st) h Q ↔ ∃ v, jx_fl h a 6 3 = some v ∧ jx_Go jxP d 35 13 [l0, l1, l2, l3] st (jx_uf h a 3 (.ref b)) Q := jg_pfR rfl
theorem s35_13 : jx_Go jxP d 35 13 [.ref a, l1, l2, l3] st h Q ↔ jx_Go jxP d 35 14 [.ref a, l1, l2, l3] (.ref a :: st) h Q := jg_al rfl rfl
theorem s35_14 : jx_Go jxP d 35 14 [l0, l1, l2, l3] st h Q ↔ jx_Go jxP d 35 17 [l0, l1, l2, l3] (.int (nI 1024) :: st) h Q := jg_c rfl
theorem s35_17 : jx_Go jxP d 35 17 [l0, l1, l2, l3] (.int (nI 1024) :: st) h Q ↔ jx_Go jxP d 35 19 [l0, l1, l2, l3] (.ref h.1 :: st) (jx_mk h 1024 (.inl (0, 1024, .inl (fun _ => 0)))) Q := jg_ni rfl (jx_inB_iff.mp (by decide +kernel))
theorem s35_19 : jx_Go jxP d 35 19 [l0, l1, l2, l3] (.ref b :: .ref a :: st) h Q ↔ ∃ v, jx_fl h a 6 4 = some v ∧ jx_Go jxP d 35 22 [l0, l1, l2, l3] st (jx_uf h a 4 (.ref b)) Q := jg_pfR rfl
theorem s35_22 : jx_Go jxP d 35 22 [.ref a, l1, l2, l3] st h Q ↔ jx_Go jxP d 35 23 [.ref a, l1, l2, l3] (.ref a :: st) h Q := jg_al rfl rfl
theorem s35_23 : jx_Go jxP d 35 23 [l0, l1, l2, l3] st h Q ↔ jx_Go jxP d 35 26 [l0, l1, l2, l3] (.int (nI 1024) :: st) h Q := jg_c rfl
theorem s35_26 : jx_Go jxP d 35 26 [l0, l1, l2, l3] (.int (nI 1024) :: st) h Q ↔ jx_Go jxP d 35 28 [l0, l1, l2, l3] (.ref h.1 :: st) (jx_mk h 1024 (.inl (0, 1024, .inl (fun _ => 0)))) Q := jg_ni rfl (jx_inB_iff.mp (by decide +kernel))
theorem s35_28 : jx_Go jxP d 35 28 [l0, l1, l2, l3] (.ref b :: .ref a :: st) h Q ↔ ∃ v, jx_fl h a 6 5 = some v ∧ jx_Go jxP d 35 31 [l0, l1, l2, l3] st (jx_uf h a 5 (.ref b)) Q := jg_pfR rfl
theorem s35_31 : jx_Go jxP d 35 31 [.ref a, l1, l2, l3] st h Q ↔ jx_Go jxP d 35 32 [.ref a, l1, l2, l3] (.ref a :: st) h Q := jg_al rfl rfl
theorem s35_32 : jx_Go jxP d 35 32 [l0, l1, l2, l3] st h Q ↔ jx_Go jxP d 35 34 [l0, l1, l2, l3] (.int (nI 7) :: st) h Q := jg_c rfl
theorem s35_34 : jx_Go jxP d 35 34 [l0, l1, l2, l3] (.int (nI 7) :: st) h Q ↔ jx_Go jxP d 35 36 [l0, l1, l2, l3] (.ref h.1 :: st) (jx_mk h 7 (.inl (0, 7, .inl (fun _ => 0)))) Q := jg_ni rfl (jx_inB_iff.mp (by decide +kernel))
theorem s35_36 : jx_Go jxP d 35 36 [l0, l1, l2, l3] (.ref b :: .ref a :: st) h Q ↔ ∃ v, jx_fl h a 6 6 = some v ∧ jx_Go jxP d 35 39 [l0, l1, l2, l3] st (jx_uf h a 6 (.ref b)) Q := jg_pfR rfl
theorem s35_39 : jx_Go jxP d 35 39 [.ref a, l1, l2, l3] st h Q ↔ jx_Go jxP d 35 40 [.ref a, l1, l2, l3] (.ref a :: st) h Q := jg_al rfl rfl
theorem s35_40 : jx_Go jxP d 35 40 [l0, l1, l2, l3] st h Q ↔ jx_Go jxP d 35 41 [l0, l1, l2, l3] (.int (-1) :: st) h Q := jg_c rfl
theorem s35_41 : jx_Go jxP d 35 41 [l0, l1, l2, l3] (.int x :: .ref a :: st) h Q ↔ ∃ v, jx_fl h a 6 7 = some v ∧ jx_Go jxP d 35 44 [l0, l1, l2, l3] st (jx_uf h a 7 (.int x)) Q := jg_pfI rfl
theorem s35_44 : jx_Go jxP d 35 44 [.ref a, l1, l2, l3] st h Q ↔ jx_Go jxP d 35 45 [.ref a, l1, l2, l3] (.ref a :: st) h Q := jg_al rfl rfl
theorem s35_45 : jx_Go jxP d 35 45 [l0, .ref a, l2, l3] st h Q ↔ jx_Go jxP d 35 46 [l0, .ref a, l2, l3] (.ref a :: st) h Q := jg_al rfl rfl
theorem s35_46 : jx_Go jxP d 35 46 [l0, l1, l2, l3] (.ref b :: .ref a :: st) h Q ↔ ∃ v, jx_fl h a 6 0 = some v ∧ jx_Go jxP d 35 49 [l0, l1, l2, l3] st (jx_uf h a 0 (.ref b)) Q := jg_pfR rfl
theorem s35_49 : jx_Go jxP d 35 49 [.ref a, l1, l2, l3] st h Q ↔ jx_Go jxP d 35 50 [.ref a, l1, l2, l3] (.ref a :: st) h Q := jg_al rfl rfl
theorem s35_50 : jx_Go jxP d 35 50 [l0, l1, .ref a, l3] st h Q ↔ jx_Go jxP d 35 51 [l0, l1, .ref a, l3] (.ref a :: st) h Q := jg_al rfl rfl
theorem s35_51 : jx_Go jxP d 35 51 [l0, l1, l2, l3] (.ref b :: .ref a :: st) h Q ↔ ∃ v, jx_fl h a 6 1 = some v ∧ jx_Go jxP d 35 54 [l0, l1, l2, l3] st (jx_uf h a 1 (.ref b)) Q := jg_pfR rfl
theorem s35_54 : jx_Go jxP d 35 54 [.ref a, l1, l2, l3] st h Q ↔ jx_Go jxP d 35 55 [.ref a, l1, l2, l3] (.ref a :: st) h Q := jg_al rfl rfl
theorem s35_55 : jx_Go jxP d 35 55 [l0, l1, l2, .ref a] st h Q ↔ jx_Go jxP d 35 56 [l0, l1, l2, .ref a] (.ref a :: st) h Q := jg_al rfl rfl
theorem s35_56 : jx_Go jxP d 35 56 [l0, l1, l2, l3] (.ref b :: .ref a :: st) h Q ↔ ∃ v, jx_fl h a 6 2 = some v ∧ jx_Go jxP d 35 59 [l0, l1, l2, l3] st (jx_uf h a 2 (.ref b)) Q := jg_pfR rfl
theorem s35_59 : jx_Go jxP d 35 59 [l0, l1, l2, l3] [] h Q ↔ Q [] h := jx_rt rfl rfl
-- 36 TalkBench$Scales.forget
theorem s36_0 : jx_Go jxP d 36 0 [.ref a] st h Q ↔ jx_Go jxP d 36 1 [.ref a] (.ref a :: st) h Q := jg_al rfl rfl
theorem s36_1 : jx_Go jxP d 36 1 [l0] st h Q ↔ jx_Go jxP d 36 2 [l0] (.int (-1) :: st) h Q := jg_c rfl
theorem s36_2 : jx_Go jxP d 36 2 [l0] (.int x :: .ref a :: st) h Q ↔ ∃ v, jx_fl h a 6 7 = some v ∧ jx_Go jxP d 36 5 [l0] st (jx_uf h a 7 (.int x)) Q := jg_pfI rfl
theorem s36_5 : jx_Go jxP d 36 5 [l0] [] h Q ↔ Q [] h := jx_rt rfl rfl
-- 37 TalkBench$Scales.greatestDifference
theorem s37_0 : jx_Go jxP d 37 0 [.ref a, l1, l2, l3, l4] st h Q ↔ jx_Go jxP d 37 1 [.ref a, l1, l2, l3, l4] (.ref a :: st) h Q := jg_al rfl rfl
theorem s37_1 : jx_Go jxP (d + 1) 37 1 [l0, l1, l2, l3, l4] (.ref a :: st) h Q ↔ (st.length ≤ 4 ∧ jx_cl h a = some 6 ∧ jx_Go jxP d 39 0 [.ref a, jx_u, jx_u] [] h (fun s1 h1 => jx_Go jxP (d + 1) 37 4 [l0, l1, l2, l3, l4] (s1 ++ st) h1 Q)) := jg_callV (as := [.ref a]) rfl rfl rfl rfl rfl
theorem s37_4 : jx_Go jxP d 37 4 [l0, l1, l2, l3, l4] st h Q ↔ jx_Go jxP d 37 5 [l0, l1, l2, l3, l4] (.int (nI 0) :: st) h Q := jg_c rfl
theorem s37_5 : jx_Go jxP d 37 5 [l0, l1, l2, l3, l4] (.int x :: st) h Q ↔ jx_Go jxP d 37 6 [l0, .int x, l2, l3, l4] st h Q := jg_is rfl rfl
theorem s37_6 : jx_Go jxP d 37 6 [l0, l1, l2, l3, l4] st h Q ↔ jx_Go jxP d 37 7 [l0, l1, l2, l3, l4] (.int (nI 1) :: st) h Q := jg_c rfl
theorem s37_7 : jx_Go jxP d 37 7 [l0, l1, l2, l3, l4] (.int x :: st) h Q ↔ jx_Go jxP d 37 8 [l0, l1, .int x, l3, l4] st h Q := jg_is rfl rfl
theorem s37_8 : jx_Go jxP d 37 8 [l0, l1, .int x, l3, l4] st h Q ↔ jx_Go jxP d 37 9 [l0, l1, .int x, l3, l4] (.int x :: st) h Q := jg_il rfl rfl
theorem s37_9 : jx_Go jxP d 37 9 [.ref a, l1, l2, l3, l4] st h Q ↔ jx_Go jxP d 37 10 [.ref a, l1, l2, l3, l4] (.ref a :: st) h Q := jg_al rfl rfl
theorem s37_10 : jx_Go jxP d 37 10 [l0, l1, l2, l3, l4] (.ref a :: st) h Q ↔ ∃ v, jx_fl h a 6 1 = some v ∧ jx_Go jxP d 37 13 [l0, l1, l2, l3, l4] (v :: st) h Q := jg_gf rfl
theorem s37_13 : jx_Go jxP d 37 13 [l0, l1, l2, l3, l4] (.ref a :: st) h Q ↔ ∃ v, jx_fl h a 4 0 = some v ∧ jx_Go jxP d 37 16 [l0, l1, l2, l3, l4] (v :: st) h Q := jg_gf rfl
theorem s37_16 : jx_Go jxP d 37 16 [l0, l1, l2, l3, l4] (.int y :: .int x :: st) h Q ↔ if y < x then jx_Go jxP d 37 74 [l0, l1, l2, l3, l4] st h Q else jx_Go jxP d 37 19 [l0, l1, l2, l3, l4] st h Q := jg_icP rfl rfl
theorem s37_19 : jx_Go jxP d 37 19 [l0, l1, l2, l3, l4] st h Q ↔ jx_Go jxP d 37 20 [l0, l1, l2, l3, l4] (.int (nI 1) :: st) h Q := jg_c rfl
theorem s37_20 : jx_Go jxP d 37 20 [l0, l1, l2, l3, l4] (.int x :: st) h Q ↔ jx_Go jxP d 37 21 [l0, l1, l2, .int x, l4] st h Q := jg_is rfl rfl
theorem s37_21 : jx_Go jxP d 37 21 [l0, l1, l2, .int x, l4] st h Q ↔ jx_Go jxP d 37 22 [l0, l1, l2, .int x, l4] (.int x :: st) h Q := jg_il rfl rfl
theorem s37_22 : jx_Go jxP d 37 22 [.ref a, l1, l2, l3, l4] st h Q ↔ jx_Go jxP d 37 23 [.ref a, l1, l2, l3, l4] (.ref a :: st) h Q := jg_al rfl rfl
theorem s37_23 : jx_Go jxP d 37 23 [l0, l1, l2, l3, l4] (.ref a :: st) h Q ↔ ∃ v, jx_fl h a 6 1 = some v ∧ jx_Go jxP d 37 26 [l0, l1, l2, l3, l4] (v :: st) h Q := jg_gf rfl
theorem s37_26 : jx_Go jxP d 37 26 [l0, l1, l2, l3, l4] (.ref a :: st) h Q ↔ ∃ v, jx_fl h a 4 1 = some v ∧ jx_Go jxP d 37 29 [l0, l1, l2, l3, l4] (v :: st) h Q := jg_gf rfl
theorem s37_29 : jx_Go jxP d 37 29 [l0, l1, l2, l3, l4] (.int y :: .int x :: st) h Q ↔ if y < x then jx_Go jxP d 37 68 [l0, l1, l2, l3, l4] st h Q else jx_Go jxP d 37 32 [l0, l1, l2, l3, l4] st h Q := jg_icP rfl rfl
theorem s37_32 : jx_Go jxP d 37 32 [l0, l1, .int x, l3, l4] st h Q ↔ jx_Go jxP d 37 33 [l0, l1, .int x, l3, l4] (.int x :: st) h Q := jg_il rfl rfl
theorem s37_33 : jx_Go jxP d 37 33 [l0, l1, l2, .int x, l4] st h Q ↔ jx_Go jxP d 37 34 [l0, l1, l2, .int x, l4] (.int x :: st) h Q := jg_il rfl rfl
theorem s37_34 : jx_Go jxP (d + 1) 37 34 [l0, l1, l2, l3, l4] (.int x1 :: .int x0 :: st) h Q ↔ (st.length ≤ 4 ∧ jx_Go jxP d 128 0 [.int x0, .int x1] [] h (fun s1 h1 => jx_Go jxP (d + 1) 37 37 [l0, l1, l2, l3, l4] (s1 ++ st) h1 Q)) := jg_callS (as := [.int x1, .int x0]) rfl rfl rfl rfl
theorem s37_37 : jx_Go jxP d 37 37 [l0, l1, l2, l3, l4] (.int x :: st) h Q ↔ jx_Go jxP d 37 39 [l0, l1, l2, l3, .int x] st h Q := jg_is rfl rfl
theorem s37_39 : jx_Go jxP d 37 39 [l0, .int x, l2, l3, l4] st h Q ↔ jx_Go jxP d 37 40 [l0, .int x, l2, l3, l4] (.int x :: st) h Q := jg_il rfl rfl
theorem s37_40 : jx_Go jxP d 37 40 [.ref a, l1, l2, l3, l4] st h Q ↔ jx_Go jxP d 37 41 [.ref a, l1, l2, l3, l4] (.ref a :: st) h Q := jg_al rfl rfl
theorem s37_41 : jx_Go jxP d 37 41 [l0, l1, l2, l3, l4] (.ref a :: st) h Q ↔ ∃ v, jx_fl h a 6 3 = some v ∧ jx_Go jxP d 37 44 [l0, l1, l2, l3, l4] (v :: st) h Q := jg_gf rfl
theorem s37_44 : jx_Go jxP d 37 44 [l0, l1, l2, l3, .int x] st h Q ↔ jx_Go jxP d 37 46 [l0, l1, l2, l3, .int x] (.int x :: st) h Q := jg_il rfl rfl
theorem s37_46 : jx_Go jxP d 37 46 [l0, l1, l2, l3, l4] (.int x :: .ref a :: st) h Q ↔ ∃ q, jx_ai h a = some q ∧ jx_in x q.1 ∧ jx_Go jxP d 37 47 [l0, l1, l2, l3, l4] (.int (q.2 x.toNatClampNeg) :: st) h Q := jg_ia rfl
theorem s37_47 : jx_Go jxP d 37 47 [.ref a, l1, l2, l3, l4] st h Q ↔ jx_Go jxP d 37 48 [.ref a, l1, l2, l3, l4] (.ref a :: st) h Q := jg_al rfl rfl
theorem s37_48 : jx_Go jxP d 37 48 [l0, l1, l2, l3, l4] (.ref a :: st) h Q ↔ ∃ v, jx_fl h a 6 4 = some v ∧ jx_Go jxP d 37 51 [l0, l1, l2, l3, l4] (v :: st) h Q := jg_gf rfl
theorem s37_51 : jx_Go jxP d 37 51 [l0, l1, l2, l3, .int x] st h Q ↔ jx_Go jxP d 37 53 [l0, l1, l2, l3, .int x] (.int x :: st) h Q := jg_il rfl rfl
theorem s37_53 : jx_Go jxP d 37 53 [l0, l1, l2, l3, l4] (.int x :: .ref a :: st) h Q ↔ ∃ q, jx_ai h a = some q ∧ jx_in x q.1 ∧ jx_Go jxP d 37 54 [l0, l1, l2, l3, l4] (.int (q.2 x.toNatClampNeg) :: st) h Q := jg_ia rfl
theorem s37_54 : jx_Go jxP d 37 54 [l0, l1, l2, l3, l4] (.int y :: .int x :: st) h Q ↔ jx_Go jxP d 37 55 [l0, l1, l2, l3, l4] (.int (x - y) :: st) h Q := jg_b (f := fun x y => x - y) rfl
theorem s37_55 : jx_Go jxP d 37 55 [l0, l1, l2, l3, l4] (.int x :: st) h Q ↔ (st.length ≤ 4 ∧ jx_Go jxP d 37 58 [l0, l1, l2, l3, l4] (.int (if 0 ≤ x then x else 0 - x) :: st) h Q) := jg_m1 (f := fun x => if 0 ≤ x then x else 0 - x) rfl
theorem s37_58 : jx_Go jxP d 37 58 [l0, l1, l2, l3, l4] (.int y :: .int x :: st) h Q ↔ (st.length ≤ 4 ∧ jx_Go jxP d 37 61 [l0, l1, l2, l3, l4] (.int (if x < y then y else x) :: st) h Q) := jg_m2 (f := fun x y => if x < y then y else x) rfl
theorem s37_61 : jx_Go jxP d 37 61 [l0, l1, l2, l3, l4] (.int x :: st) h Q ↔ jx_Go jxP d 37 62 [l0, .int x, l2, l3, l4] st h Q := jg_is rfl rfl
theorem s37_62 : jx_Go jxP d 37 62 [l0, l1, l2, .int x, l4] st h Q ↔ jx_Go jxP d 37 65 [l0, l1, l2, .int (x + (nI 1)), l4] st h Q := jg_inc rfl rfl rfl
theorem s37_65 : jx_Go jxP d 37 65 [l0, l1, l2, l3, l4] st h Q ↔ jx_Go jxP d 37 21 [l0, l1, l2, l3, l4] st h Q := jg_go rfl
theorem s37_68 : jx_Go jxP d 37 68 [l0, l1, .int x, l3, l4] st h Q ↔ jx_Go jxP d 37 71 [l0, l1, .int (x + (nI 1)), l3, l4] st h Q := jg_inc rfl rfl rfl
theorem s37_71 : jx_Go jxP d 37 71 [l0, l1, l2, l3, l4] st h Q ↔ jx_Go jxP d 37 8 [l0, l1, l2, l3, l4] st h Q := jg_go rfl
theorem s37_74 : jx_Go jxP d 37 74 [l0, .int x, l2, l3, l4] st h Q ↔ jx_Go jxP d 37 75 [l0, .int x, l2, l3, l4] (.int x :: st) h Q := jg_il rfl rfl
theorem s37_75 : jx_Go jxP d 37 75 [l0, l1, l2, l3, l4] [.int x] h Q ↔ Q [.int x] h := jx_rt rfl rfl
-- 38 TalkBench$Scales.leastLoss
theorem s38_0 : jx_Go jxP d 38 0 [.ref a, l1, l2, l3] st h Q ↔ jx_Go jxP d 38 1 [.ref a, l1, l2, l3] (.ref a :: st) h Q := jg_al rfl rfl
theorem s38_1 : jx_Go jxP (d + 1) 38 1 [l0, l1, l2, l3] (.ref a :: st) h Q ↔ (st.length ≤ 4 ∧ jx_cl h a = some 6 ∧ jx_Go jxP d 39 0 [.ref a, jx_u, jx_u] [] h (fun s1 h1 => jx_Go jxP (d + 1) 38 4 [l0, l1, l2, l3] (s1 ++ st) h1 Q)) := jg_callV (as := [.ref a]) rfl rfl rfl rfl rfl
theorem s38_4 : jx_Go jxP d 38 4 [.ref a, l1, l2, l3] st h Q ↔ jx_Go jxP d 38 5 [.ref a, l1, l2, l3] (.ref a :: st) h Q := jg_al rfl rfl
theorem s38_5 : jx_Go jxP d 38 5 [l0, l1, l2, l3] (.ref a :: st) h Q ↔ ∃ v, jx_fl h a 6 1 = some v ∧ jx_Go jxP d 38 8 [l0, l1, l2, l3] (v :: st) h Q := jg_gf rfl
theorem s38_8 : jx_Go jxP d 38 8 [l0, l1, l2, l3] (.ref a :: st) h Q ↔ ∃ v, jx_fl h a 4 0 = some v ∧ jx_Go jxP d 38 11 [l0, l1, l2, l3] (v :: st) h Q := jg_gf rfl
theorem s38_11 : jx_Go jxP d 38 11 [.ref a, l1, l2, l3] st h Q ↔ jx_Go jxP d 38 12 [.ref a, l1, l2, l3] (.ref a :: st) h Q := jg_al rfl rfl
theorem s38_12 : jx_Go jxP d 38 12 [l0, l1, l2, l3] (.ref a :: st) h Q ↔ ∃ v, jx_fl h a 6 1 = some v ∧ jx_Go jxP d 38 15 [l0, l1, l2, l3] (v :: st) h Q := jg_gf rfl
theorem s38_15 : jx_Go jxP d 38 15 [l0, l1, l2, l3] (.ref a :: st) h Q ↔ ∃ v, jx_fl h a 4 1 = some v ∧ jx_Go jxP d 38 18 [l0, l1, l2, l3] (v :: st) h Q := jg_gf rfl
theorem s38_18 : jx_Go jxP (d + 1) 38 18 [l0, l1, l2, l3] (.int x1 :: .int x0 :: st) h Q ↔ (st.length ≤ 4 ∧ jx_Go jxP d 128 0 [.int x0, .int x1] [] h (fun s1 h1 => jx_Go jxP (d + 1) 38 21 [l0, l1, l2, l3] (s1 ++ st) h1 Q)) := jg_callS (as := [.int x1, .int x0]) rfl rfl rfl rfl
theorem s38_21 : jx_Go jxP d 38 21 [l0, l1, l2, l3] (.int x :: st) h Q ↔ jx_Go jxP d 38 22 [l0, l1, .int x, l3] st h Q := jg_is rfl rfl
theorem s38_22 : jx_Go jxP d 38 22 [.ref a, l1, l2, l3] st h Q ↔ jx_Go jxP d 38 23 [.ref a, l1, l2, l3] (.ref a :: st) h Q := jg_al rfl rfl
theorem s38_23 : jx_Go jxP d 38 23 [l0, l1, l2, l3] (.ref a :: st) h Q ↔ ∃ v, jx_fl h a 6 7 = some v ∧ jx_Go jxP d 38 26 [l0, l1, l2, l3] (v :: st) h Q := jg_gf rfl
theorem s38_26 : jx_Go jxP d 38 26 [l0, l1, l2, l3] st h Q ↔ jx_Go jxP d 38 27 [l0, l1, l2, l3] (.int (nI 1) :: st) h Q := jg_c rfl
theorem s38_27 : jx_Go jxP d 38 27 [l0, l1, l2, l3] (.int y :: .int x :: st) h Q ↔ jx_Go jxP d 38 28 [l0, l1, l2, l3] (.int (x + y) :: st) h Q := jg_b (f := fun x y => x + y) rfl
theorem s38_28 : jx_Go jxP d 38 28 [l0, l1, l2, l3] (.int x :: st) h Q ↔ jx_Go jxP d 38 29 [l0, l1, l2, .int x] st h Q := jg_is rfl rfl
theorem s38_29 : jx_Go jxP d 38 29 [l0, l1, l2, .int x] st h Q ↔ jx_Go jxP d 38 30 [l0, l1, l2, .int x] (.int x :: st) h Q := jg_il rfl rfl
theorem s38_30 : jx_Go jxP d 38 30 [l0, .int x, l2, l3] st h Q ↔ jx_Go jxP d 38 31 [l0, .int x, l2, l3] (.int x :: st) h Q := jg_il rfl rfl
theorem s38_31 : jx_Go jxP d 38 31 [l0, l1, l2, l3] (.int y :: .int x :: st) h Q ↔ if y < x then jx_Go jxP d 38 70 [l0, l1, l2, l3] st h Q else jx_Go jxP d 38 34 [l0, l1, l2, l3] st h Q := jg_icP rfl rfl
theorem s38_34 : jx_Go jxP d 38 34 [.ref a, l1, l2, l3] st h Q ↔ jx_Go jxP d 38 35 [.ref a, l1, l2, l3] (.ref a :: st) h Q := jg_al rfl rfl
theorem s38_35 : jx_Go jxP d 38 35 [l0, l1, l2, l3] (.ref a :: st) h Q ↔ ∃ v, jx_fl h a 6 5 = some v ∧ jx_Go jxP d 38 38 [l0, l1, l2, l3] (v :: st) h Q := jg_gf rfl
theorem s38_38 : jx_Go jxP d 38 38 [l0, l1, .int x, l3] st h Q ↔ jx_Go jxP d 38 39 [l0, l1, .int x, l3] (.int x :: st) h Q := jg_il rfl rfl
theorem s38_39 : jx_Go jxP d 38 39 [l0, l1, l2, l3] (.int x :: .ref a :: st) h Q ↔ ∃ q, jx_ai h a = some q ∧ jx_in x q.1 ∧ jx_Go jxP d 38 40 [l0, l1, l2, l3] (.int (q.2 x.toNatClampNeg) :: st) h Q := jg_ia rfl
theorem s38_40 : jx_Go jxP d 38 40 [l0, l1, l2, l3] (.int x :: st) h Q ↔ if x ≤ 0 then jx_Go jxP d 38 47 [l0, l1, l2, l3] st h Q else jx_Go jxP d 38 43 [l0, l1, l2, l3] st h Q := jg_ifP rfl rfl
theorem s38_43 : jx_Go jxP d 38 43 [.ref a, l1, l2, l3] st h Q ↔ jx_Go jxP d 38 44 [.ref a, l1, l2, l3] (.ref a :: st) h Q := jg_al rfl rfl
theorem s38_44 : jx_Go jxP (d + 1) 38 44 [l0, l1, l2, l3] (.ref a :: st) h Q ↔ (st.length ≤ 4 ∧ jx_cl h a = some 6 ∧ jx_Go jxP d 42 0 [.ref a, jx_u, jx_u, jx_u] [] h (fun s1 h1 => jx_Go jxP (d + 1) 38 47 [l0, l1, l2, l3] (s1 ++ st) h1 Q)) := jg_callV (as := [.ref a]) rfl rfl rfl rfl rfl
theorem s38_47 : jx_Go jxP d 38 47 [.ref a, l1, l2, l3] st h Q ↔ jx_Go jxP d 38 48 [.ref a, l1, l2, l3] (.ref a :: st) h Q := jg_al rfl rfl
theorem s38_48 : jx_Go jxP d 38 48 [l0, l1, l2, l3] (.ref a :: st) h Q ↔ ∃ v, jx_fl h a 6 6 = some v ∧ jx_Go jxP d 38 51 [l0, l1, l2, l3] (v :: st) h Q := jg_gf rfl
theorem s38_51 : jx_Go jxP d 38 51 [l0, l1, l2, .int x] st h Q ↔ jx_Go jxP d 38 52 [l0, l1, l2, .int x] (.int x :: st) h Q := jg_il rfl rfl
theorem s38_52 : jx_Go jxP d 38 52 [.ref a, l1, l2, l3] st h Q ↔ jx_Go jxP d 38 53 [.ref a, l1, l2, l3] (.ref a :: st) h Q := jg_al rfl rfl
theorem s38_53 : jx_Go jxP d 38 53 [l0, l1, l2, l3] (.ref a :: st) h Q ↔ ∃ v, jx_fl h a 6 5 = some v ∧ jx_Go jxP d 38 56 [l0, l1, l2, l3] (v :: st) h Q := jg_gf rfl
theorem s38_56 : jx_Go jxP d 38 56 [l0, l1, .int x, l3] st h Q ↔ jx_Go jxP d 38 57 [l0, l1, .int x, l3] (.int x :: st) h Q := jg_il rfl rfl
theorem s38_57 : jx_Go jxP d 38 57 [l0, l1, l2, l3] (.int x :: .ref a :: st) h Q ↔ ∃ q, jx_ai h a = some q ∧ jx_in x q.1 ∧ jx_Go jxP d 38 58 [l0, l1, l2, l3] (.int (q.2 x.toNatClampNeg) :: st) h Q := jg_ia rfl
theorem s38_58 : jx_Go jxP d 38 58 [l0, l1, l2, l3] (.int y :: .int x :: .ref a :: st) h Q ↔ ∃ q, jx_ai h a = some q ∧ jx_in x q.1 ∧ jx_Go jxP d 38 59 [l0, l1, l2, l3] st (jx_wi h a q.1 (upd q.2 x.toNatClampNeg y)) Q := jg_iw rfl
theorem s38_59 : jx_Go jxP d 38 59 [.ref a, l1, l2, l3] st h Q ↔ jx_Go jxP d 38 60 [.ref a, l1, l2, l3] (.ref a :: st) h Q := jg_al rfl rfl
theorem s38_60 : jx_Go jxP d 38 60 [l0, l1, l2, .int x] st h Q ↔ jx_Go jxP d 38 61 [l0, l1, l2, .int x] (.int x :: st) h Q := jg_il rfl rfl
theorem s38_61 : jx_Go jxP d 38 61 [l0, l1, l2, l3] (.int x :: .ref a :: st) h Q ↔ ∃ v, jx_fl h a 6 7 = some v ∧ jx_Go jxP d 38 64 [l0, l1, l2, l3] st (jx_uf h a 7 (.int x)) Q := jg_pfI rfl
theorem s38_64 : jx_Go jxP d 38 64 [l0, l1, l2, .int x] st h Q ↔ jx_Go jxP d 38 67 [l0, l1, l2, .int (x + (nI 1))] st h Q := jg_inc rfl rfl rfl
theorem s38_67 : jx_Go jxP d 38 67 [l0, l1, l2, l3] st h Q ↔ jx_Go jxP d 38 29 [l0, l1, l2, l3] st h Q := jg_go rfl
theorem s38_70 : jx_Go jxP d 38 70 [.ref a, l1, l2, l3] st h Q ↔ jx_Go jxP d 38 71 [.ref a, l1, l2, l3] (.ref a :: st) h Q := jg_al rfl rfl
theorem s38_71 : jx_Go jxP d 38 71 [l0, l1, l2, l3] (.ref a :: st) h Q ↔ ∃ v, jx_fl h a 6 6 = some v ∧ jx_Go jxP d 38 74 [l0, l1, l2, l3] (v :: st) h Q := jg_gf rfl
theorem s38_74 : jx_Go jxP d 38 74 [l0, .int x, l2, l3] st h Q ↔ jx_Go jxP d 38 75 [l0, .int x, l2, l3] (.int x :: st) h Q := jg_il rfl rfl
theorem s38_75 : jx_Go jxP d 38 75 [l0, l1, l2, l3] (.int x :: .ref a :: st) h Q ↔ ∃ q, jx_ai h a = some q ∧ jx_in x q.1 ∧ jx_Go jxP d 38 76 [l0, l1, l2, l3] (.int (q.2 x.toNatClampNeg) :: st) h Q := jg_ia rfl
theorem s38_76 : jx_Go jxP d 38 76 [l0, l1, l2, l3] [.int x] h Q ↔ Q [.int x] h := jx_rt rfl rfl
-- 39 TalkBench$Scales.weighBlocks
theorem s39_0 : jx_Go jxP d 39 0 [.ref a, l1, l2] st h Q ↔ jx_Go jxP d 39 1 [.ref a, l1, l2] (.ref a :: st) h Q := jg_al rfl rfl
theorem s39_1 : jx_Go jxP d 39 1 [l0, l1, l2] (.ref a :: st) h Q ↔ ∃ v, jx_fl h a 6 7 = some v ∧ jx_Go jxP d 39 4 [l0, l1, l2] (v :: st) h Q := jg_gf rfl
theorem s39_4 : jx_Go jxP d 39 4 [l0, l1, l2] st h Q ↔ jx_Go jxP d 39 5 [l0, l1, l2] (.int (-1) :: st) h Q := jg_c rfl
theorem s39_5 : jx_Go jxP d 39 5 [l0, l1, l2] (.int y :: .int x :: st) h Q ↔ if x = y then jx_Go jxP d 39 9 [l0, l1, l2] st h Q else jx_Go jxP d 39 8 [l0, l1, l2] st h Q := jg_icP rfl rfl
theorem s39_8 : jx_Go jxP d 39 8 [l0, l1, l2] [] h Q ↔ Q [] h := jx_rt rfl rfl
theorem s39_9 : jx_Go jxP d 39 9 [l0, l1, l2] st h Q ↔ jx_Go jxP d 39 10 [l0, l1, l2] (.int (nI 1) :: st) h Q := jg_c rfl
theorem s39_10 : jx_Go jxP d 39 10 [l0, l1, l2] (.int x :: st) h Q ↔ jx_Go jxP d 39 11 [l0, .int x, l2] st h Q := jg_is rfl rfl
theorem s39_11 : jx_Go jxP d 39 11 [l0, .int x, l2] st h Q ↔ jx_Go jxP d 39 12 [l0, .int x, l2] (.int x :: st) h Q := jg_il rfl rfl
theorem s39_12 : jx_Go jxP d 39 12 [.ref a, l1, l2] st h Q ↔ jx_Go jxP d 39 13 [.ref a, l1, l2] (.ref a :: st) h Q := jg_al rfl rfl
theorem s39_13 : jx_Go jxP d 39 13 [l0, l1, l2] (.ref a :: st) h Q ↔ ∃ v, jx_fl h a 6 1 = some v ∧ jx_Go jxP d 39 16 [l0, l1, l2] (v :: st) h Q := jg_gf rfl
theorem s39_16 : jx_Go jxP d 39 16 [l0, l1, l2] (.ref a :: st) h Q ↔ ∃ v, jx_fl h a 4 0 = some v ∧ jx_Go jxP d 39 19 [l0, l1, l2] (v :: st) h Q := jg_gf rfl
theorem s39_19 : jx_Go jxP d 39 19 [l0, l1, l2] (.int y :: .int x :: st) h Q ↔ if y < x then jx_Go jxP d 39 53 [l0, l1, l2] st h Q else jx_Go jxP d 39 22 [l0, l1, l2] st h Q := jg_icP rfl rfl
theorem s39_22 : jx_Go jxP d 39 22 [l0, l1, l2] st h Q ↔ jx_Go jxP d 39 23 [l0, l1, l2] (.int (nI 1) :: st) h Q := jg_c rfl
theorem s39_23 : jx_Go jxP d 39 23 [l0, l1, l2] (.int x :: st) h Q ↔ jx_Go jxP d 39 24 [l0, l1, .int x] st h Q := jg_is rfl rfl
theorem s39_24 : jx_Go jxP d 39 24 [l0, l1, .int x] st h Q ↔ jx_Go jxP d 39 25 [l0, l1, .int x] (.int x :: st) h Q := jg_il rfl rfl
theorem s39_25 : jx_Go jxP d 39 25 [.ref a, l1, l2] st h Q ↔ jx_Go jxP d 39 26 [.ref a, l1, l2] (.ref a :: st) h Q := jg_al rfl rfl
theorem s39_26 : jx_Go jxP d 39 26 [l0, l1, l2] (.ref a :: st) h Q ↔ ∃ v, jx_fl h a 6 1 = some v ∧ jx_Go jxP d 39 29 [l0, l1, l2] (v :: st) h Q := jg_gf rfl
theorem s39_29 : jx_Go jxP d 39 29 [l0, l1, l2] (.ref a :: st) h Q ↔ ∃ v, jx_fl h a 4 1 = some v ∧ jx_Go jxP d 39 32 [l0, l1, l2] (v :: st) h Q := jg_gf rfl
theorem s39_32 : jx_Go jxP d 39 32 [l0, l1, l2] (.int y :: .int x :: st) h Q ↔ if y < x then jx_Go jxP d 39 47 [l0, l1, l2] st h Q else jx_Go jxP d 39 35 [l0, l1, l2] st h Q := jg_icP rfl rfl
theorem s39_35 : jx_Go jxP d 39 35 [.ref a, l1, l2] st h Q ↔ jx_Go jxP d 39 36 [.ref a, l1, l2] (.ref a :: st) h Q := jg_al rfl rfl
theorem s39_36 : jx_Go jxP d 39 36 [l0, .int x, l2] st h Q ↔ jx_Go jxP d 39 37 [l0, .int x, l2] (.int x :: st) h Q := jg_il rfl rfl
theorem s39_37 : jx_Go jxP d 39 37 [l0, l1, .int x] st h Q ↔ jx_Go jxP d 39 38 [l0, l1, .int x] (.int x :: st) h Q := jg_il rfl rfl
theorem s39_38 : jx_Go jxP (d + 1) 39 38 [l0, l1, l2] (.int x1 :: .int x0 :: .ref a :: st) h Q ↔ (st.length ≤ 4 ∧ jx_cl h a = some 6 ∧ jx_Go jxP d 40 0 [.ref a, .int x0, .int x1, jx_u, jx_u, jx_u, jx_u] [] h (fun s1 h1 => jx_Go jxP (d + 1) 39 41 [l0, l1, l2] (s1 ++ st) h1 Q)) := jg_callV (as := [.int x1, .int x0, .ref a]) rfl rfl rfl rfl rfl
theorem s39_41 : jx_Go jxP d 39 41 [l0, l1, .int x] st h Q ↔ jx_Go jxP d 39 44 [l0, l1, .int (x + (nI 1))] st h Q := jg_inc rfl rfl rfl
theorem s39_44 : jx_Go jxP d 39 44 [l0, l1, l2] st h Q ↔ jx_Go jxP d 39 24 [l0, l1, l2] st h Q := jg_go rfl
theorem s39_47 : jx_Go jxP d 39 47 [l0, .int x, l2] st h Q ↔ jx_Go jxP d 39 50 [l0, .int (x + (nI 1)), l2] st h Q := jg_inc rfl rfl rfl
theorem s39_50 : jx_Go jxP d 39 50 [l0, l1, l2] st h Q ↔ jx_Go jxP d 39 11 [l0, l1, l2] st h Q := jg_go rfl
theorem s39_53 : jx_Go jxP d 39 53 [.ref a, l1, l2] st h Q ↔ jx_Go jxP d 39 54 [.ref a, l1, l2] (.ref a :: st) h Q := jg_al rfl rfl
theorem s39_54 : jx_Go jxP d 39 54 [l0, l1, l2] st h Q ↔ jx_Go jxP d 39 55 [l0, l1, l2] (.int (nI 0) :: st) h Q := jg_c rfl
theorem s39_55 : jx_Go jxP d 39 55 [l0, l1, l2] (.int x :: .ref a :: st) h Q ↔ ∃ v, jx_fl h a 6 7 = some v ∧ jx_Go jxP d 39 58 [l0, l1, l2] st (jx_uf h a 7 (.int x)) Q := jg_pfI rfl
theorem s39_58 : jx_Go jxP d 39 58 [.ref a, l1, l2] st h Q ↔ jx_Go jxP d 39 59 [.ref a, l1, l2] (.ref a :: st) h Q := jg_al rfl rfl
theorem s39_59 : jx_Go jxP d 39 59 [l0, l1, l2] (.ref a :: st) h Q ↔ ∃ v, jx_fl h a 6 6 = some v ∧ jx_Go jxP d 39 62 [l0, l1, l2] (v :: st) h Q := jg_gf rfl
theorem s39_62 : jx_Go jxP d 39 62 [l0, l1, l2] st h Q ↔ jx_Go jxP d 39 63 [l0, l1, l2] (.int (nI 0) :: st) h Q := jg_c rfl
theorem s39_63 : jx_Go jxP d 39 63 [.ref a, l1, l2] st h Q ↔ jx_Go jxP d 39 64 [.ref a, l1, l2] (.ref a :: st) h Q := jg_al rfl rfl
theorem s39_64 : jx_Go jxP d 39 64 [l0, l1, l2] (.ref a :: st) h Q ↔ ∃ v, jx_fl h a 6 5 = some v ∧ jx_Go jxP d 39 67 [l0, l1, l2] (v :: st) h Q := jg_gf rfl
theorem s39_67 : jx_Go jxP d 39 67 [.ref a, l1, l2] st h Q ↔ jx_Go jxP d 39 68 [.ref a, l1, l2] (.ref a :: st) h Q := jg_al rfl rfl
theorem s39_68 : jx_Go jxP d 39 68 [l0, l1, l2] (.ref a :: st) h Q ↔ ∃ v, jx_fl h a 6 1 = some v ∧ jx_Go jxP d 39 71 [l0, l1, l2] (v :: st) h Q := jg_gf rfl
theorem s39_71 : jx_Go jxP d 39 71 [l0, l1, l2] (.ref a :: st) h Q ↔ ∃ v, jx_fl h a 4 0 = some v ∧ jx_Go jxP d 39 74 [l0, l1, l2] (v :: st) h Q := jg_gf rfl
theorem s39_74 : jx_Go jxP d 39 74 [.ref a, l1, l2] st h Q ↔ jx_Go jxP d 39 75 [.ref a, l1, l2] (.ref a :: st) h Q := jg_al rfl rfl
theorem s39_75 : jx_Go jxP d 39 75 [l0, l1, l2] (.ref a :: st) h Q ↔ ∃ v, jx_fl h a 6 1 = some v ∧ jx_Go jxP d 39 78 [l0, l1, l2] (v :: st) h Q := jg_gf rfl
theorem s39_78 : jx_Go jxP d 39 78 [l0, l1, l2] (.ref a :: st) h Q ↔ ∃ v, jx_fl h a 4 1 = some v ∧ jx_Go jxP d 39 81 [l0, l1, l2] (v :: st) h Q := jg_gf rfl
theorem s39_81 : jx_Go jxP (d + 1) 39 81 [l0, l1, l2] (.int x1 :: .int x0 :: st) h Q ↔ (st.length ≤ 4 ∧ jx_Go jxP d 128 0 [.int x0, .int x1] [] h (fun s1 h1 => jx_Go jxP (d + 1) 39 84 [l0, l1, l2] (s1 ++ st) h1 Q)) := jg_callS (as := [.int x1, .int x0]) rfl rfl rfl rfl
theorem s39_84 : jx_Go jxP d 39 84 [l0, l1, l2] (.int x :: .ref a :: st) h Q ↔ ∃ q, jx_ai h a = some q ∧ jx_in x q.1 ∧ jx_Go jxP d 39 85 [l0, l1, l2] (.int (q.2 x.toNatClampNeg) :: st) h Q := jg_ia rfl
theorem s39_85 : jx_Go jxP d 39 85 [l0, l1, l2] (.int y :: .int x :: .ref a :: st) h Q ↔ ∃ q, jx_ai h a = some q ∧ jx_in x q.1 ∧ jx_Go jxP d 39 86 [l0, l1, l2] st (jx_wi h a q.1 (upd q.2 x.toNatClampNeg y)) Q := jg_iw rfl
theorem s39_86 : jx_Go jxP d 39 86 [l0, l1, l2] [] h Q ↔ Q [] h := jx_rt rfl rfl
-- 40 TalkBench$Scales.weighBlock
theorem s40_0 : jx_Go jxP d 40 0 [l0, .int x, l2, l3, l4, l5, l6] st h Q ↔ jx_Go jxP d 40 1 [l0, .int x, l2, l3, l4, l5, l6] (.int x :: st) h Q := jg_il rfl rfl
theorem s40_1 : jx_Go jxP d 40 1 [l0, l1, .int x, l3, l4, l5, l6] st h Q ↔ jx_Go jxP d 40 2 [l0, l1, .int x, l3, l4, l5, l6] (.int x :: st) h Q := jg_il rfl rfl
theorem s40_2 : jx_Go jxP (d + 1) 40 2 [l0, l1, l2, l3, l4, l5, l6] (.int x1 :: .int x0 :: st) h Q ↔ (st.length ≤ 4 ∧ jx_Go jxP d 128 0 [.int x0, .int x1] [] h (fun s1 h1 => jx_Go jxP (d + 1) 40 5 [l0, l1, l2, l3, l4, l5, l6] (s1 ++ st) h1 Q)) := jg_callS (as := [.int x1, .int x0]) rfl rfl rfl rfl
theorem s40_5 : jx_Go jxP d 40 5 [l0, l1, l2, l3, l4, l5, l6] (.int x :: st) h Q ↔ jx_Go jxP d 40 6 [l0, l1, l2, .int x, l4, l5, l6] st h Q := jg_is rfl rfl
theorem s40_6 : jx_Go jxP d 40 6 [l0, .int x, l2, l3, l4, l5, l6] st h Q ↔ jx_Go jxP d 40 7 [l0, .int x, l2, l3, l4, l5, l6] (.int x :: st) h Q := jg_il rfl rfl
theorem s40_7 : jx_Go jxP (d + 1) 40 7 [l0, l1, l2, l3, l4, l5, l6] (.int x0 :: st) h Q ↔ (st.length ≤ 4 ∧ jx_Go jxP d 127 0 [.int x0] [] h (fun s1 h1 => jx_Go jxP (d + 1) 40 10 [l0, l1, l2, l3, l4, l5, l6] (s1 ++ st) h1 Q)) := jg_callS (as := [.int x0]) rfl rfl rfl rfl
theorem s40_10 : jx_Go jxP d 40 10 [l0, l1, l2, l3, l4, l5, l6] (.int x :: st) h Q ↔ jx_Go jxP d 40 12 [l0, l1, l2, l3, .int x, l5, l6] st h Q := jg_is rfl rfl
theorem s40_12 : jx_Go jxP d 40 12 [l0, l1, .int x, l3, l4, l5, l6] st h Q ↔ jx_Go jxP d 40 13 [l0, l1, .int x, l3, l4, l5, l6] (.int x :: st) h Q := jg_il rfl rfl
theorem s40_13 : jx_Go jxP (d + 1) 40 13 [l0, l1, l2, l3, l4, l5, l6] (.int x0 :: st) h Q ↔ (st.length ≤ 4 ∧ jx_Go jxP d 127 0 [.int x0] [] h (fun s1 h1 => jx_Go jxP (d + 1) 40 16 [l0, l1, l2, l3, l4, l5, l6] (s1 ++ st) h1 Q)) := jg_callS (as := [.int x0]) rfl rfl rfl rfl
theorem s40_16 : jx_Go jxP d 40 16 [l0, l1, l2, l3, l4, l5, l6] (.int x :: st) h Q ↔ jx_Go jxP d 40 18 [l0, l1, l2, l3, l4, .int x, l6] st h Q := jg_is rfl rfl
theorem s40_18 : jx_Go jxP d 40 18 [l0, .int x, l2, l3, l4, l5, l6] st h Q ↔ jx_Go jxP d 40 19 [l0, .int x, l2, l3, l4, l5, l6] (.int x :: st) h Q := jg_il rfl rfl
theorem s40_19 : jx_Go jxP d 40 19 [l0, l1, l2, l3, .int x, l5, l6] st h Q ↔ jx_Go jxP d 40 21 [l0, l1, l2, l3, .int x, l5, l6] (.int x :: st) h Q := jg_il rfl rfl
theorem s40_21 : jx_Go jxP d 40 21 [l0, l1, l2, l3, l4, l5, l6] (.int y :: .int x :: st) h Q ↔ if x = y then jx_Go jxP d 40 46 [l0, l1, l2, l3, l4, l5, l6] st h Q else jx_Go jxP d 40 24 [l0, l1, l2, l3, l4, l5, l6] st h Q := jg_icP rfl rfl
theorem s40_24 : jx_Go jxP d 40 24 [.ref a, l1, l2, l3, l4, l5, l6] st h Q ↔ jx_Go jxP d 40 25 [.ref a, l1, l2, l3, l4, l5, l6] (.ref a :: st) h Q := jg_al rfl rfl
theorem s40_25 : jx_Go jxP d 40 25 [l0, l1, l2, .int x, l4, l5, l6] st h Q ↔ jx_Go jxP d 40 26 [l0, l1, l2, .int x, l4, l5, l6] (.int x :: st) h Q := jg_il rfl rfl
theorem s40_26 : jx_Go jxP d 40 26 [l0, l1, l2, l3, .int x, l5, l6] st h Q ↔ jx_Go jxP d 40 28 [l0, l1, l2, l3, .int x, l5, l6] (.int x :: st) h Q := jg_il rfl rfl
theorem s40_28 : jx_Go jxP d 40 28 [l0, l1, .int x, l3, l4, l5, l6] st h Q ↔ jx_Go jxP d 40 29 [l0, l1, .int x, l3, l4, l5, l6] (.int x :: st) h Q := jg_il rfl rfl
theorem s40_29 : jx_Go jxP (d + 1) 40 29 [l0, l1, l2, l3, l4, l5, l6] (.int x1 :: .int x0 :: st) h Q ↔ (st.length ≤ 4 ∧ jx_Go jxP d 128 0 [.int x0, .int x1] [] h (fun s1 h1 => jx_Go jxP (d + 1) 40 32 [l0, l1, l2, l3, l4, l5, l6] (s1 ++ st) h1 Q)) := jg_callS (as := [.int x1, .int x0]) rfl rfl rfl rfl
theorem s40_32 : jx_Go jxP d 40 32 [l0, .int x, l2, l3, l4, l5, l6] st h Q ↔ jx_Go jxP d 40 33 [l0, .int x, l2, l3, l4, l5, l6] (.int x :: st) h Q := jg_il rfl rfl
theorem s40_33 : jx_Go jxP d 40 33 [l0, l1, l2, l3, .int x, l5, l6] st h Q ↔ jx_Go jxP d 40 35 [l0, l1, l2, l3, .int x, l5, l6] (.int x :: st) h Q := jg_il rfl rfl
theorem s40_35 : jx_Go jxP d 40 35 [l0, l1, l2, l3, l4, l5, l6] (.int y :: .int x :: st) h Q ↔ jx_Go jxP d 40 36 [l0, l1, l2, l3, l4, l5, l6] (.int (x - y) :: st) h Q := jg_b (f := fun x y => x - y) rfl
theorem s40_36 : jx_Go jxP d 40 36 [l0, l1, .int x, l3, l4, l5, l6] st h Q ↔ jx_Go jxP d 40 37 [l0, l1, .int x, l3, l4, l5, l6] (.int x :: st) h Q := jg_il rfl rfl
theorem s40_37 : jx_Go jxP (d + 1) 40 37 [l0, l1, l2, l3, l4, l5, l6] (.int x1 :: .int x0 :: st) h Q ↔ (st.length ≤ 4 ∧ jx_Go jxP d 128 0 [.int x0, .int x1] [] h (fun s1 h1 => jx_Go jxP (d + 1) 40 40 [l0, l1, l2, l3, l4, l5, l6] (s1 ++ st) h1 Q)) := jg_callS (as := [.int x1, .int x0]) rfl rfl rfl rfl
theorem s40_40 : jx_Go jxP (d + 1) 40 40 [l0, l1, l2, l3, l4, l5, l6] (.int x2 :: .int x1 :: .int x0 :: .ref a :: st) h Q ↔ (st.length ≤ 4 ∧ jx_cl h a = some 6 ∧ jx_Go jxP d 41 0 [.ref a, .int x0, .int x1, .int x2] [] h (fun s1 h1 => jx_Go jxP (d + 1) 40 43 [l0, l1, l2, l3, l4, l5, l6] (s1 ++ st) h1 Q)) := jg_callV (as := [.int x2, .int x1, .int x0, .ref a]) rfl rfl rfl rfl rfl
theorem s40_43 : jx_Go jxP d 40 43 [l0, l1, l2, l3, l4, l5, l6] st h Q ↔ jx_Go jxP d 40 154 [l0, l1, l2, l3, l4, l5, l6] st h Q := jg_go rfl
theorem s40_46 : jx_Go jxP d 40 46 [l0, l1, .int x, l3, l4, l5, l6] st h Q ↔ jx_Go jxP d 40 47 [l0, l1, .int x, l3, l4, l5, l6] (.int x :: st) h Q := jg_il rfl rfl
theorem s40_47 : jx_Go jxP d 40 47 [l0, l1, l2, l3, l4, .int x, l6] st h Q ↔ jx_Go jxP d 40 49 [l0, l1, l2, l3, l4, .int x, l6] (.int x :: st) h Q := jg_il rfl rfl
theorem s40_49 : jx_Go jxP d 40 49 [l0, l1, l2, l3, l4, l5, l6] (.int y :: .int x :: st) h Q ↔ if x = y then jx_Go jxP d 40 74 [l0, l1, l2, l3, l4, l5, l6] st h Q else jx_Go jxP d 40 52 [l0, l1, l2, l3, l4, l5, l6] st h Q := jg_icP rfl rfl
theorem s40_52 : jx_Go jxP d 40 52 [.ref a, l1, l2, l3, l4, l5, l6] st h Q ↔ jx_Go jxP d 40 53 [.ref a, l1, l2, l3, l4, l5, l6] (.ref a :: st) h Q := jg_al rfl rfl
theorem s40_53 : jx_Go jxP d 40 53 [l0, l1, l2, .int x, l4, l5, l6] st h Q ↔ jx_Go jxP d 40 54 [l0, l1, l2, .int x, l4, l5, l6] (.int x :: st) h Q := jg_il rfl rfl
theorem s40_54 : jx_Go jxP d 40 54 [l0, .int x, l2, l3, l4, l5, l6] st h Q ↔ jx_Go jxP d 40 55 [l0, .int x, l2, l3, l4, l5, l6] (.int x :: st) h Q := jg_il rfl rfl
theorem s40_55 : jx_Go jxP d 40 55 [l0, l1, l2, l3, l4, .int x, l6] st h Q ↔ jx_Go jxP d 40 57 [l0, l1, l2, l3, l4, .int x, l6] (.int x :: st) h Q := jg_il rfl rfl
theorem s40_57 : jx_Go jxP (d + 1) 40 57 [l0, l1, l2, l3, l4, l5, l6] (.int x1 :: .int x0 :: st) h Q ↔ (st.length ≤ 4 ∧ jx_Go jxP d 128 0 [.int x0, .int x1] [] h (fun s1 h1 => jx_Go jxP (d + 1) 40 60 [l0, l1, l2, l3, l4, l5, l6] (s1 ++ st) h1 Q)) := jg_callS (as := [.int x1, .int x0]) rfl rfl rfl rfl
theorem s40_60 : jx_Go jxP d 40 60 [l0, .int x, l2, l3, l4, l5, l6] st h Q ↔ jx_Go jxP d 40 61 [l0, .int x, l2, l3, l4, l5, l6] (.int x :: st) h Q := jg_il rfl rfl
theorem s40_61 : jx_Go jxP d 40 61 [l0, l1, .int x, l3, l4, l5, l6] st h Q ↔ jx_Go jxP d 40 62 [l0, l1, .int x, l3, l4, l5, l6] (.int x :: st) h Q := jg_il rfl rfl
theorem s40_62 : jx_Go jxP d 40 62 [l0, l1, l2, l3, l4, .int x, l6] st h Q ↔ jx_Go jxP d 40 64 [l0, l1, l2, l3, l4, .int x, l6] (.int x :: st) h Q := jg_il rfl rfl
theorem s40_64 : jx_Go jxP d 40 64 [l0, l1, l2, l3, l4, l5, l6] (.int y :: .int x :: st) h Q ↔ jx_Go jxP d 40 65 [l0, l1, l2, l3, l4, l5, l6] (.int (x - y) :: st) h Q := jg_b (f := fun x y => x - y) rfl
theorem s40_65 : jx_Go jxP (d + 1) 40 65 [l0, l1, l2, l3, l4, l5, l6] (.int x1 :: .int x0 :: st) h Q ↔ (st.length ≤ 4 ∧ jx_Go jxP d 128 0 [.int x0, .int x1] [] h (fun s1 h1 => jx_Go jxP (d + 1) 40 68 [l0, l1, l2, l3, l4, l5, l6] (s1 ++ st) h1 Q)) := jg_callS (as := [.int x1, .int x0]) rfl rfl rfl rfl
theorem s40_68 : jx_Go jxP (d + 1) 40 68 [l0, l1, l2, l3, l4, l5, l6] (.int x2 :: .int x1 :: .int x0 :: .ref a :: st) h Q ↔ (st.length ≤ 4 ∧ jx_cl h a = some 6 ∧ jx_Go jxP d 41 0 [.ref a, .int x0, .int x1, .int x2] [] h (fun s1 h1 => jx_Go jxP (d + 1) 40 71 [l0, l1, l2, l3, l4, l5, l6] (s1 ++ st) h1 Q)) := jg_callV (as := [.int x2, .int x1, .int x0, .ref a]) rfl rfl rfl rfl rfl
theorem s40_71 : jx_Go jxP d 40 71 [l0, l1, l2, l3, l4, l5, l6] st h Q ↔ jx_Go jxP d 40 154 [l0, l1, l2, l3, l4, l5, l6] st h Q := jg_go rfl
theorem s40_74 : jx_Go jxP d 40 74 [l0, l1, l2, l3, l4, l5, l6] st h Q ↔ jx_Go jxP d 40 75 [l0, l1, l2, l3, l4, l5, l6] (.int (nI 5) :: st) h Q := jg_c rfl
theorem s40_75 : jx_Go jxP d 40 75 [l0, .int x, l2, l3, l4, l5, l6] st h Q ↔ jx_Go jxP d 40 76 [l0, .int x, l2, l3, l4, l5, l6] (.int x :: st) h Q := jg_il rfl rfl
theorem s40_76 : jx_Go jxP (d + 1) 40 76 [l0, l1, l2, l3, l4, l5, l6] (.int x0 :: st) h Q ↔ (st.length ≤ 4 ∧ jx_Go jxP d 126 0 [.int x0] [] h (fun s1 h1 => jx_Go jxP (d + 1) 40 79 [l0, l1, l2, l3, l4, l5, l6] (s1 ++ st) h1 Q)) := jg_callS (as := [.int x0]) rfl rfl rfl rfl
theorem s40_79 : jx_Go jxP d 40 79 [l0, l1, l2, l3, l4, l5, l6] (.int y :: .int x :: st) h Q ↔ jx_Go jxP d 40 80 [l0, l1, l2, l3, l4, l5, l6] (.int (x * y) :: st) h Q := jg_b (f := fun x y => x * y) rfl
theorem s40_80 : jx_Go jxP d 40 80 [l0, l1, .int x, l3, l4, l5, l6] st h Q ↔ jx_Go jxP d 40 81 [l0, l1, .int x, l3, l4, l5, l6] (.int x :: st) h Q := jg_il rfl rfl
theorem s40_81 : jx_Go jxP (d + 1) 40 81 [l0, l1, l2, l3, l4, l5, l6] (.int x0 :: st) h Q ↔ (st.length ≤ 4 ∧ jx_Go jxP d 126 0 [.int x0] [] h (fun s1 h1 => jx_Go jxP (d + 1) 40 84 [l0, l1, l2, l3, l4, l5, l6] (s1 ++ st) h1 Q)) := jg_callS (as := [.int x0]) rfl rfl rfl rfl
theorem s40_84 : jx_Go jxP d 40 84 [l0, l1, l2, l3, l4, l5, l6] (.int y :: .int x :: st) h Q ↔ jx_Go jxP d 40 85 [l0, l1, l2, l3, l4, l5, l6] (.int (x + y) :: st) h Q := jg_b (f := fun x y => x + y) rfl
theorem s40_85 : jx_Go jxP d 40 85 [l0, l1, l2, l3, l4, l5, l6] (.int x :: st) h Q ↔ jx_Go jxP d 40 87 [l0, l1, l2, l3, l4, l5, .int x] st h Q := jg_is rfl rfl
theorem s40_87 : jx_Go jxP d 40 87 [.ref a, l1, l2, l3, l4, l5, l6] st h Q ↔ jx_Go jxP d 40 88 [.ref a, l1, l2, l3, l4, l5, l6] (.ref a :: st) h Q := jg_al rfl rfl
theorem s40_88 : jx_Go jxP d 40 88 [l0, l1, l2, l3, l4, l5, l6] (.ref a :: st) h Q ↔ ∃ v, jx_fl h a 6 3 = some v ∧ jx_Go jxP d 40 91 [l0, l1, l2, l3, l4, l5, l6] (v :: st) h Q := jg_gf rfl
theorem s40_91 : jx_Go jxP d 40 91 [l0, l1, l2, .int x, l4, l5, l6] st h Q ↔ jx_Go jxP d 40 92 [l0, l1, l2, .int x, l4, l5, l6] (.int x :: st) h Q := jg_il rfl rfl
theorem s40_92 : jx_Go jxP d 40 92 [.ref a, l1, l2, l3, l4, l5, l6] st h Q ↔ jx_Go jxP d 40 93 [.ref a, l1, l2, l3, l4, l5, l6] (.ref a :: st) h Q := jg_al rfl rfl
theorem s40_93 : jx_Go jxP d 40 93 [l0, l1, l2, l3, l4, l5, l6] (.ref a :: st) h Q ↔ ∃ v, jx_fl h a 6 0 = some v ∧ jx_Go jxP d 40 96 [l0, l1, l2, l3, l4, l5, l6] (v :: st) h Q := jg_gf rfl
theorem s40_96 : jx_Go jxP d 40 96 [l0, l1, l2, l3, l4, l5, l6] (.ref a :: st) h Q ↔ ∃ v, jx_fl h a 10 2 = some v ∧ jx_Go jxP d 40 99 [l0, l1, l2, l3, l4, l5, l6] (v :: st) h Q := jg_gf rfl
theorem s40_99 : jx_Go jxP d 40 99 [l0, l1, l2, l3, l4, l5, .int x] st h Q ↔ jx_Go jxP d 40 101 [l0, l1, l2, l3, l4, l5, .int x] (.int x :: st) h Q := jg_il rfl rfl
theorem s40_101 : jx_Go jxP d 40 101 [l0, l1, l2, l3, l4, l5, l6] (.int x :: .ref a :: st) h Q ↔ ∃ q, jx_ai h a = some q ∧ jx_in x q.1 ∧ jx_Go jxP d 40 102 [l0, l1, l2, l3, l4, l5, l6] (.int (q.2 x.toNatClampNeg) :: st) h Q := jg_ia rfl
theorem s40_102 : jx_Go jxP d 40 102 [l0, l1, l2, l3, l4, l5, l6] st h Q ↔ jx_Go jxP d 40 103 [l0, l1, l2, l3, l4, l5, l6] (.int (nI 1) :: st) h Q := jg_c rfl
theorem s40_103 : jx_Go jxP d 40 103 [l0, l1, l2, l3, l4, l5, l6] (.int y :: .int x :: st) h Q ↔ if x = y then jx_Go jxP d 40 106 [l0, l1, l2, l3, l4, l5, l6] st h Q else jx_Go jxP d 40 119 [l0, l1, l2, l3, l4, l5, l6] st h Q := jg_icN rfl rfl
theorem s40_106 : jx_Go jxP d 40 106 [.ref a, l1, l2, l3, l4, l5, l6] st h Q ↔ jx_Go jxP d 40 107 [.ref a, l1, l2, l3, l4, l5, l6] (.ref a :: st) h Q := jg_al rfl rfl
theorem s40_107 : jx_Go jxP d 40 107 [l0, l1, l2, l3, l4, l5, l6] (.ref a :: st) h Q ↔ ∃ v, jx_fl h a 6 0 = some v ∧ jx_Go jxP d 40 110 [l0, l1, l2, l3, l4, l5, l6] (v :: st) h Q := jg_gf rfl
theorem s40_110 : jx_Go jxP d 40 110 [l0, l1, l2, l3, l4, l5, l6] (.ref a :: st) h Q ↔ ∃ v, jx_fl h a 10 3 = some v ∧ jx_Go jxP d 40 113 [l0, l1, l2, l3, l4, l5, l6] (v :: st) h Q := jg_gf rfl
theorem s40_113 : jx_Go jxP d 40 113 [l0, l1, l2, l3, l4, l5, .int x] st h Q ↔ jx_Go jxP d 40 115 [l0, l1, l2, l3, l4, l5, .int x] (.int x :: st) h Q := jg_il rfl rfl
theorem s40_115 : jx_Go jxP d 40 115 [l0, l1, l2, l3, l4, l5, l6] (.int x :: .ref a :: st) h Q ↔ ∃ q, jx_ai h a = some q ∧ jx_in x q.1 ∧ jx_Go jxP d 40 116 [l0, l1, l2, l3, l4, l5, l6] (.int (q.2 x.toNatClampNeg) :: st) h Q := jg_ia rfl
theorem s40_116 : jx_Go jxP d 40 116 [l0, l1, l2, l3, l4, l5, l6] st h Q ↔ jx_Go jxP d 40 120 [l0, l1, l2, l3, l4, l5, l6] st h Q := jg_go rfl
theorem s40_119 : jx_Go jxP d 40 119 [l0, l1, l2, l3, l4, l5, l6] st h Q ↔ jx_Go jxP d 40 120 [l0, l1, l2, l3, l4, l5, l6] (.int (nI 0) :: st) h Q := jg_c rfl
theorem s40_120 : jx_Go jxP d 40 120 [l0, l1, l2, l3, l4, l5, l6] (.int y :: .int x :: .ref a :: st) h Q ↔ ∃ q, jx_ai h a = some q ∧ jx_in x q.1 ∧ jx_Go jxP d 40 121 [l0, l1, l2, l3, l4, l5, l6] st (jx_wi h a q.1 (upd q.2 x.toNatClampNeg y)) Q := jg_iw rfl
theorem s40_121 : jx_Go jxP d 40 121 [.ref a, l1, l2, l3, l4, l5, l6] st h Q ↔ jx_Go jxP d 40 122 [.ref a, l1, l2, l3, l4, l5, l6] (.ref a :: st) h Q := jg_al rfl rfl
theorem s40_122 : jx_Go jxP d 40 122 [l0, l1, l2, l3, l4, l5, l6] (.ref a :: st) h Q ↔ ∃ v, jx_fl h a 6 4 = some v ∧ jx_Go jxP d 40 125 [l0, l1, l2, l3, l4, l5, l6] (v :: st) h Q := jg_gf rfl
theorem s40_125 : jx_Go jxP d 40 125 [l0, l1, l2, .int x, l4, l5, l6] st h Q ↔ jx_Go jxP d 40 126 [l0, l1, l2, .int x, l4, l5, l6] (.int x :: st) h Q := jg_il rfl rfl
theorem s40_126 : jx_Go jxP d 40 126 [.ref a, l1, l2, l3, l4, l5, l6] st h Q ↔ jx_Go jxP d 40 127 [.ref a, l1, l2, l3, l4, l5, l6] (.ref a :: st) h Q := jg_al rfl rfl
theorem s40_127 : jx_Go jxP d 40 127 [l0, l1, l2, l3, l4, l5, l6] (.ref a :: st) h Q ↔ ∃ v, jx_fl h a 6 0 = some v ∧ jx_Go jxP d 40 130 [l0, l1, l2, l3, l4, l5, l6] (v :: st) h Q := jg_gf rfl
theorem s40_130 : jx_Go jxP d 40 130 [l0, l1, l2, l3, l4, l5, l6] (.ref a :: st) h Q ↔ ∃ v, jx_fl h a 10 2 = some v ∧ jx_Go jxP d 40 133 [l0, l1, l2, l3, l4, l5, l6] (v :: st) h Q := jg_gf rfl
theorem s40_133 : jx_Go jxP d 40 133 [l0, l1, l2, l3, l4, l5, .int x] st h Q ↔ jx_Go jxP d 40 135 [l0, l1, l2, l3, l4, l5, .int x] (.int x :: st) h Q := jg_il rfl rfl
theorem s40_135 : jx_Go jxP d 40 135 [l0, l1, l2, l3, l4, l5, l6] (.int x :: .ref a :: st) h Q ↔ ∃ q, jx_ai h a = some q ∧ jx_in x q.1 ∧ jx_Go jxP d 40 136 [l0, l1, l2, l3, l4, l5, l6] (.int (q.2 x.toNatClampNeg) :: st) h Q := jg_ia rfl
theorem s40_136 : jx_Go jxP d 40 136 [l0, l1, l2, l3, l4, l5, l6] (.int x :: st) h Q ↔ if x = 0 then jx_Go jxP d 40 139 [l0, l1, l2, l3, l4, l5, l6] st h Q else jx_Go jxP d 40 152 [l0, l1, l2, l3, l4, l5, l6] st h Q := jg_ifN rfl rfl
theorem s40_139 : jx_Go jxP d 40 139 [.ref a, l1, l2, l3, l4, l5, l6] st h Q ↔ jx_Go jxP d 40 140 [.ref a, l1, l2, l3, l4, l5, l6] (.ref a :: st) h Q := jg_al rfl rfl
theorem s40_140 : jx_Go jxP d 40 140 [l0, l1, l2, l3, l4, l5, l6] (.ref a :: st) h Q ↔ ∃ v, jx_fl h a 6 0 = some v ∧ jx_Go jxP d 40 143 [l0, l1, l2, l3, l4, l5, l6] (v :: st) h Q := jg_gf rfl
theorem s40_143 : jx_Go jxP d 40 143 [l0, l1, l2, l3, l4, l5, l6] (.ref a :: st) h Q ↔ ∃ v, jx_fl h a 10 3 = some v ∧ jx_Go jxP d 40 146 [l0, l1, l2, l3, l4, l5, l6] (v :: st) h Q := jg_gf rfl
theorem s40_146 : jx_Go jxP d 40 146 [l0, l1, l2, l3, l4, l5, .int x] st h Q ↔ jx_Go jxP d 40 148 [l0, l1, l2, l3, l4, l5, .int x] (.int x :: st) h Q := jg_il rfl rfl
theorem s40_148 : jx_Go jxP d 40 148 [l0, l1, l2, l3, l4, l5, l6] (.int x :: .ref a :: st) h Q ↔ ∃ q, jx_ai h a = some q ∧ jx_in x q.1 ∧ jx_Go jxP d 40 149 [l0, l1, l2, l3, l4, l5, l6] (.int (q.2 x.toNatClampNeg) :: st) h Q := jg_ia rfl
theorem s40_149 : jx_Go jxP d 40 149 [l0, l1, l2, l3, l4, l5, l6] st h Q ↔ jx_Go jxP d 40 153 [l0, l1, l2, l3, l4, l5, l6] st h Q := jg_go rfl
theorem s40_152 : jx_Go jxP d 40 152 [l0, l1, l2, l3, l4, l5, l6] st h Q ↔ jx_Go jxP d 40 153 [l0, l1, l2, l3, l4, l5, l6] (.int (nI 0) :: st) h Q := jg_c rfl
theorem s40_153 : jx_Go jxP d 40 153 [l0, l1, l2, l3, l4, l5, l6] (.int y :: .int x :: .ref a :: st) h Q ↔ ∃ q, jx_ai h a = some q ∧ jx_in x q.1 ∧ jx_Go jxP d 40 154 [l0, l1, l2, l3, l4, l5, l6] st (jx_wi h a q.1 (upd q.2 x.toNatClampNeg y)) Q := jg_iw rfl
theorem s40_154 : jx_Go jxP d 40 154 [.ref a, l1, l2, l3, l4, l5, l6] st h Q ↔ jx_Go jxP d 40 155 [.ref a, l1, l2, l3, l4, l5, l6] (.ref a :: st) h Q := jg_al rfl rfl
theorem s40_155 : jx_Go jxP d 40 155 [l0, l1, l2, l3, l4, l5, l6] (.ref a :: st) h Q ↔ ∃ v, jx_fl h a 6 5 = some v ∧ jx_Go jxP d 40 158 [l0, l1, l2, l3, l4, l5, l6] (v :: st) h Q := jg_gf rfl
theorem s40_158 : jx_Go jxP d 40 158 [l0, l1, l2, .int x, l4, l5, l6] st h Q ↔ jx_Go jxP d 40 159 [l0, l1, l2, .int x, l4, l5, l6] (.int x :: st) h Q := jg_il rfl rfl
theorem s40_159 : jx_Go jxP d 40 159 [.ref a, l1, l2, l3, l4, l5, l6] st h Q ↔ jx_Go jxP d 40 160 [.ref a, l1, l2, l3, l4, l5, l6] (.ref a :: st) h Q := jg_al rfl rfl
theorem s40_160 : jx_Go jxP d 40 160 [l0, l1, l2, l3, l4, l5, l6] (.ref a :: st) h Q ↔ ∃ v, jx_fl h a 6 3 = some v ∧ jx_Go jxP d 40 163 [l0, l1, l2, l3, l4, l5, l6] (v :: st) h Q := jg_gf rfl
theorem s40_163 : jx_Go jxP d 40 163 [l0, l1, l2, .int x, l4, l5, l6] st h Q ↔ jx_Go jxP d 40 164 [l0, l1, l2, .int x, l4, l5, l6] (.int x :: st) h Q := jg_il rfl rfl
theorem s40_164 : jx_Go jxP d 40 164 [l0, l1, l2, l3, l4, l5, l6] (.int x :: .ref a :: st) h Q ↔ ∃ q, jx_ai h a = some q ∧ jx_in x q.1 ∧ jx_Go jxP d 40 165 [l0, l1, l2, l3, l4, l5, l6] (.int (q.2 x.toNatClampNeg) :: st) h Q := jg_ia rfl
theorem s40_165 : jx_Go jxP d 40 165 [.ref a, l1, l2, l3, l4, l5, l6] st h Q ↔ jx_Go jxP d 40 166 [.ref a, l1, l2, l3, l4, l5, l6] (.ref a :: st) h Q := jg_al rfl rfl
theorem s40_166 : jx_Go jxP d 40 166 [l0, l1, l2, l3, l4, l5, l6] (.ref a :: st) h Q ↔ ∃ v, jx_fl h a 6 4 = some v ∧ jx_Go jxP d 40 169 [l0, l1, l2, l3, l4, l5, l6] (v :: st) h Q := jg_gf rfl
theorem s40_169 : jx_Go jxP d 40 169 [l0, l1, l2, .int x, l4, l5, l6] st h Q ↔ jx_Go jxP d 40 170 [l0, l1, l2, .int x, l4, l5, l6] (.int x :: st) h Q := jg_il rfl rfl
theorem s40_170 : jx_Go jxP d 40 170 [l0, l1, l2, l3, l4, l5, l6] (.int x :: .ref a :: st) h Q ↔ ∃ q, jx_ai h a = some q ∧ jx_in x q.1 ∧ jx_Go jxP d 40 171 [l0, l1, l2, l3, l4, l5, l6] (.int (q.2 x.toNatClampNeg) :: st) h Q := jg_ia rfl
theorem s40_171 : jx_Go jxP d 40 171 [l0, l1, l2, l3, l4, l5, l6] (.int y :: .int x :: st) h Q ↔ (st.length ≤ 4 ∧ jx_Go jxP d 40 174 [l0, l1, l2, l3, l4, l5, l6] (.int (if y < x then y else x) :: st) h Q) := jg_m2 (f := fun x y => if y < x then y else x) rfl
theorem s40_174 : jx_Go jxP d 40 174 [l0, l1, l2, l3, l4, l5, l6] (.int y :: .int x :: .ref a :: st) h Q ↔ ∃ q, jx_ai h a = some q ∧ jx_in x q.1 ∧ jx_Go jxP d 40 175 [l0, l1, l2, l3, l4, l5, l6] st (jx_wi h a q.1 (upd q.2 x.toNatClampNeg y)) Q := jg_iw rfl
theorem s40_175 : jx_Go jxP d 40 175 [l0, l1, l2, l3, l4, l5, l6] [] h Q ↔ Q [] h := jx_rt rfl rfl
-- 41 TalkBench$Scales.addUp
theorem s41_0 : jx_Go jxP d 41 0 [.ref a, l1, l2, l3] st h Q ↔ jx_Go jxP d 41 1 [.ref a, l1, l2, l3] (.ref a :: st) h Q := jg_al rfl rfl
theorem s41_1 : jx_Go jxP d 41 1 [l0, l1, l2, l3] (.ref a :: st) h Q ↔ ∃ v, jx_fl h a 6 3 = some v ∧ jx_Go jxP d 41 4 [l0, l1, l2, l3] (v :: st) h Q := jg_gf rfl
theorem s41_4 : jx_Go jxP d 41 4 [l0, .int x, l2, l3] st h Q ↔ jx_Go jxP d 41 5 [l0, .int x, l2, l3] (.int x :: st) h Q := jg_il rfl rfl
theorem s41_5 : jx_Go jxP d 41 5 [.ref a, l1, l2, l3] st h Q ↔ jx_Go jxP d 41 6 [.ref a, l1, l2, l3] (.ref a :: st) h Q := jg_al rfl rfl
theorem s41_6 : jx_Go jxP d 41 6 [l0, l1, l2, l3] (.ref a :: st) h Q ↔ ∃ v, jx_fl h a 6 3 = some v ∧ jx_Go jxP d 41 9 [l0, l1, l2, l3] (v :: st) h Q := jg_gf rfl
theorem s41_9 : jx_Go jxP d 41 9 [l0, l1, .int x, l3] st h Q ↔ jx_Go jxP d 41 10 [l0, l1, .int x, l3] (.int x :: st) h Q := jg_il rfl rfl
theorem s41_10 : jx_Go jxP d 41 10 [l0, l1, l2, l3] (.int x :: .ref a :: st) h Q ↔ ∃ q, jx_ai h a = some q ∧ jx_in x q.1 ∧ jx_Go jxP d 41 11 [l0, l1, l2, l3] (.int (q.2 x.toNatClampNeg) :: st) h Q := jg_ia rfl
theorem s41_11 : jx_Go jxP d 41 11 [.ref a, l1, l2, l3] st h Q ↔ jx_Go jxP d 41 12 [.ref a, l1, l2, l3] (.ref a :: st) h Q := jg_al rfl rfl
theorem s41_12 : jx_Go jxP d 41 12 [l0, l1, l2, l3] (.ref a :: st) h Q ↔ ∃ v, jx_fl h a 6 3 = some v ∧ jx_Go jxP d 41 15 [l0, l1, l2, l3] (v :: st) h Q := jg_gf rfl
theorem s41_15 : jx_Go jxP d 41 15 [l0, l1, l2, .int x] st h Q ↔ jx_Go jxP d 41 16 [l0, l1, l2, .int x] (.int x :: st) h Q := jg_il rfl rfl
theorem s41_16 : jx_Go jxP d 41 16 [l0, l1, l2, l3] (.int x :: .ref a :: st) h Q ↔ ∃ q, jx_ai h a = some q ∧ jx_in x q.1 ∧ jx_Go jxP d 41 17 [l0, l1, l2, l3] (.int (q.2 x.toNatClampNeg) :: st) h Q := jg_ia rfl
theorem s41_17 : jx_Go jxP d 41 17 [l0, l1, l2, l3] (.int y :: .int x :: st) h Q ↔ jx_Go jxP d 41 18 [l0, l1, l2, l3] (.int (x + y) :: st) h Q := jg_b (f := fun x y => x + y) rfl
theorem s41_18 : jx_Go jxP d 41 18 [l0, l1, l2, l3] (.int y :: .int x :: .ref a :: st) h Q ↔ ∃ q, jx_ai h a = some q ∧ jx_in x q.1 ∧ jx_Go jxP d 41 19 [l0, l1, l2, l3] st (jx_wi h a q.1 (upd q.2 x.toNatClampNeg y)) Q := jg_iw rfl
theorem s41_19 : jx_Go jxP d 41 19 [.ref a, l1, l2, l3] st h Q ↔ jx_Go jxP d 41 20 [.ref a, l1, l2, l3] (.ref a :: st) h Q := jg_al rfl rfl
theorem s41_20 : jx_Go jxP d 41 20 [l0, l1, l2, l3] (.ref a :: st) h Q ↔ ∃ v, jx_fl h a 6 4 = some v ∧ jx_Go jxP d 41 23 [l0, l1, l2, l3] (v :: st) h Q := jg_gf rfl
theorem s41_23 : jx_Go jxP d 41 23 [l0, .int x, l2, l3] st h Q ↔ jx_Go jxP d 41 24 [l0, .int x, l2, l3] (.int x :: st) h Q := jg_il rfl rfl
theorem s41_24 : jx_Go jxP d 41 24 [.ref a, l1, l2, l3] st h Q ↔ jx_Go jxP d 41 25 [.ref a, l1, l2, l3] (.ref a :: st) h Q := jg_al rfl rfl
theorem s41_25 : jx_Go jxP d 41 25 [l0, l1, l2, l3] (.ref a :: st) h Q ↔ ∃ v, jx_fl h a 6 4 = some v ∧ jx_Go jxP d 41 28 [l0, l1, l2, l3] (v :: st) h Q := jg_gf rfl
theorem s41_28 : jx_Go jxP d 41 28 [l0, l1, .int x, l3] st h Q ↔ jx_Go jxP d 41 29 [l0, l1, .int x, l3] (.int x :: st) h Q := jg_il rfl rfl
theorem s41_29 : jx_Go jxP d 41 29 [l0, l1, l2, l3] (.int x :: .ref a :: st) h Q ↔ ∃ q, jx_ai h a = some q ∧ jx_in x q.1 ∧ jx_Go jxP d 41 30 [l0, l1, l2, l3] (.int (q.2 x.toNatClampNeg) :: st) h Q := jg_ia rfl
theorem s41_30 : jx_Go jxP d 41 30 [.ref a, l1, l2, l3] st h Q ↔ jx_Go jxP d 41 31 [.ref a, l1, l2, l3] (.ref a :: st) h Q := jg_al rfl rfl
theorem s41_31 : jx_Go jxP d 41 31 [l0, l1, l2, l3] (.ref a :: st) h Q ↔ ∃ v, jx_fl h a 6 4 = some v ∧ jx_Go jxP d 41 34 [l0, l1, l2, l3] (v :: st) h Q := jg_gf rfl
theorem s41_34 : jx_Go jxP d 41 34 [l0, l1, l2, .int x] st h Q ↔ jx_Go jxP d 41 35 [l0, l1, l2, .int x] (.int x :: st) h Q := jg_il rfl rfl
theorem s41_35 : jx_Go jxP d 41 35 [l0, l1, l2, l3] (.int x :: .ref a :: st) h Q ↔ ∃ q, jx_ai h a = some q ∧ jx_in x q.1 ∧ jx_Go jxP d 41 36 [l0, l1, l2, l3] (.int (q.2 x.toNatClampNeg) :: st) h Q := jg_ia rfl
theorem s41_36 : jx_Go jxP d 41 36 [l0, l1, l2, l3] (.int y :: .int x :: st) h Q ↔ jx_Go jxP d 41 37 [l0, l1, l2, l3] (.int (x + y) :: st) h Q := jg_b (f := fun x y => x + y) rfl
theorem s41_37 : jx_Go jxP d 41 37 [l0, l1, l2, l3] (.int y :: .int x :: .ref a :: st) h Q ↔ ∃ q, jx_ai h a = some q ∧ jx_in x q.1 ∧ jx_Go jxP d 41 38 [l0, l1, l2, l3] st (jx_wi h a q.1 (upd q.2 x.toNatClampNeg y)) Q := jg_iw rfl
theorem s41_38 : jx_Go jxP d 41 38 [l0, l1, l2, l3] [] h Q ↔ Q [] h := jx_rt rfl rfl
-- 42 TalkBench$Scales.allowOneBitMore
theorem s42_0 : jx_Go jxP d 42 0 [.ref a, l1, l2, l3] st h Q ↔ jx_Go jxP d 42 1 [.ref a, l1, l2, l3] (.ref a :: st) h Q := jg_al rfl rfl
theorem s42_1 : jx_Go jxP d 42 1 [l0, l1, l2, l3] (.ref a :: st) h Q ↔ ∃ v, jx_fl h a 6 1 = some v ∧ jx_Go jxP d 42 4 [l0, l1, l2, l3] (v :: st) h Q := jg_gf rfl
theorem s42_4 : jx_Go jxP d 42 4 [l0, l1, l2, l3] (.ref a :: st) h Q ↔ ∃ v, jx_fl h a 4 0 = some v ∧ jx_Go jxP d 42 7 [l0, l1, l2, l3] (v :: st) h Q := jg_gf rfl
theorem s42_7 : jx_Go jxP d 42 7 [l0, l1, l2, l3] (.int x :: st) h Q ↔ jx_Go jxP d 42 8 [l0, .int x, l2, l3] st h Q := jg_is rfl rfl
theorem s42_8 : jx_Go jxP d 42 8 [l0, .int x, l2, l3] st h Q ↔ jx_Go jxP d 42 9 [l0, .int x, l2, l3] (.int x :: st) h Q := jg_il rfl rfl
theorem s42_9 : jx_Go jxP d 42 9 [l0, l1, l2, l3] st h Q ↔ jx_Go jxP d 42 10 [l0, l1, l2, l3] (.int (nI 1) :: st) h Q := jg_c rfl
theorem s42_10 : jx_Go jxP d 42 10 [l0, l1, l2, l3] (.int y :: .int x :: st) h Q ↔ if x < y then jx_Go jxP d 42 68 [l0, l1, l2, l3] st h Q else jx_Go jxP d 42 13 [l0, l1, l2, l3] st h Q := jg_icP rfl rfl
theorem s42_13 : jx_Go jxP d 42 13 [.ref a, l1, l2, l3] st h Q ↔ jx_Go jxP d 42 14 [.ref a, l1, l2, l3] (.ref a :: st) h Q := jg_al rfl rfl
theorem s42_14 : jx_Go jxP d 42 14 [l0, l1, l2, l3] (.ref a :: st) h Q ↔ ∃ v, jx_fl h a 6 1 = some v ∧ jx_Go jxP d 42 17 [l0, l1, l2, l3] (v :: st) h Q := jg_gf rfl
theorem s42_17 : jx_Go jxP d 42 17 [l0, l1, l2, l3] (.ref a :: st) h Q ↔ ∃ v, jx_fl h a 4 1 = some v ∧ jx_Go jxP d 42 20 [l0, l1, l2, l3] (v :: st) h Q := jg_gf rfl
theorem s42_20 : jx_Go jxP d 42 20 [l0, l1, l2, l3] (.int x :: st) h Q ↔ jx_Go jxP d 42 21 [l0, l1, .int x, l3] st h Q := jg_is rfl rfl
theorem s42_21 : jx_Go jxP d 42 21 [l0, l1, .int x, l3] st h Q ↔ jx_Go jxP d 42 22 [l0, l1, .int x, l3] (.int x :: st) h Q := jg_il rfl rfl
theorem s42_22 : jx_Go jxP d 42 22 [l0, l1, l2, l3] st h Q ↔ jx_Go jxP d 42 23 [l0, l1, l2, l3] (.int (nI 1) :: st) h Q := jg_c rfl
theorem s42_23 : jx_Go jxP d 42 23 [l0, l1, l2, l3] (.int y :: .int x :: st) h Q ↔ if x < y then jx_Go jxP d 42 62 [l0, l1, l2, l3] st h Q else jx_Go jxP d 42 26 [l0, l1, l2, l3] st h Q := jg_icP rfl rfl
theorem s42_26 : jx_Go jxP d 42 26 [l0, .int x, l2, l3] st h Q ↔ jx_Go jxP d 42 27 [l0, .int x, l2, l3] (.int x :: st) h Q := jg_il rfl rfl
theorem s42_27 : jx_Go jxP d 42 27 [l0, l1, .int x, l3] st h Q ↔ jx_Go jxP d 42 28 [l0, l1, .int x, l3] (.int x :: st) h Q := jg_il rfl rfl
theorem s42_28 : jx_Go jxP (d + 1) 42 28 [l0, l1, l2, l3] (.int x1 :: .int x0 :: st) h Q ↔ (st.length ≤ 4 ∧ jx_Go jxP d 128 0 [.int x0, .int x1] [] h (fun s1 h1 => jx_Go jxP (d + 1) 42 31 [l0, l1, l2, l3] (s1 ++ st) h1 Q)) := jg_callS (as := [.int x1, .int x0]) rfl rfl rfl rfl
theorem s42_31 : jx_Go jxP d 42 31 [l0, l1, l2, l3] (.int x :: st) h Q ↔ jx_Go jxP d 42 32 [l0, l1, l2, .int x] st h Q := jg_is rfl rfl
theorem s42_32 : jx_Go jxP d 42 32 [.ref a, l1, l2, l3] st h Q ↔ jx_Go jxP d 42 33 [.ref a, l1, l2, l3] (.ref a :: st) h Q := jg_al rfl rfl
theorem s42_33 : jx_Go jxP d 42 33 [l0, l1, l2, l3] (.ref a :: st) h Q ↔ ∃ v, jx_fl h a 6 5 = some v ∧ jx_Go jxP d 42 36 [l0, l1, l2, l3] (v :: st) h Q := jg_gf rfl
theorem s42_36 : jx_Go jxP d 42 36 [l0, l1, l2, .int x] st h Q ↔ jx_Go jxP d 42 37 [l0, l1, l2, .int x] (.int x :: st) h Q := jg_il rfl rfl
theorem s42_37 : jx_Go jxP d 42 37 [l0, l1, l2, l3] (.int x :: .ref a :: st) h Q ↔ ∃ q, jx_ai h a = some q ∧ jx_in x q.1 ∧ jx_Go jxP d 42 38 [l0, l1, l2, l3] (.int (q.2 x.toNatClampNeg) :: st) h Q := jg_ia rfl
theorem s42_38 : jx_Go jxP d 42 38 [l0, l1, l2, l3] (.int x :: st) h Q ↔ if x ≤ 0 then jx_Go jxP d 42 56 [l0, l1, l2, l3] st h Q else jx_Go jxP d 42 41 [l0, l1, l2, l3] st h Q := jg_ifP rfl rfl
theorem s42_41 : jx_Go jxP d 42 41 [.ref a, l1, l2, l3] st h Q ↔ jx_Go jxP d 42 42 [.ref a, l1, l2, l3] (.ref a :: st) h Q := jg_al rfl rfl
theorem s42_42 : jx_Go jxP d 42 42 [l0, l1, l2, .int x] st h Q ↔ jx_Go jxP d 42 43 [l0, l1, l2, .int x] (.int x :: st) h Q := jg_il rfl rfl
theorem s42_43 : jx_Go jxP d 42 43 [l0, .int x, l2, l3] st h Q ↔ jx_Go jxP d 42 44 [l0, .int x, l2, l3] (.int x :: st) h Q := jg_il rfl rfl
theorem s42_44 : jx_Go jxP d 42 44 [l0, l1, l2, l3] st h Q ↔ jx_Go jxP d 42 46 [l0, l1, l2, l3] (.int (nI 32) :: st) h Q := jg_c rfl
theorem s42_46 : jx_Go jxP (d + 1) 42 46 [l0, l1, l2, l3] (.int x2 :: .int x1 :: .int x0 :: .ref a :: st) h Q ↔ (st.length ≤ 4 ∧ jx_cl h a = some 6 ∧ jx_Go jxP d 43 0 [.ref a, .int x0, .int x1, .int x2, jx_u, jx_u, jx_u, jx_u] [] h (fun s1 h1 => jx_Go jxP (d + 1) 42 49 [l0, l1, l2, l3] (s1 ++ st) h1 Q)) := jg_callV (as := [.int x2, .int x1, .int x0, .ref a]) rfl rfl rfl rfl rfl
theorem s42_49 : jx_Go jxP d 42 49 [.ref a, l1, l2, l3] st h Q ↔ jx_Go jxP d 42 50 [.ref a, l1, l2, l3] (.ref a :: st) h Q := jg_al rfl rfl
theorem s42_50 : jx_Go jxP d 42 50 [l0, l1, l2, .int x] st h Q ↔ jx_Go jxP d 42 51 [l0, l1, l2, .int x] (.int x :: st) h Q := jg_il rfl rfl
theorem s42_51 : jx_Go jxP d 42 51 [l0, l1, .int x, l3] st h Q ↔ jx_Go jxP d 42 52 [l0, l1, .int x, l3] (.int x :: st) h Q := jg_il rfl rfl
theorem s42_52 : jx_Go jxP d 42 52 [l0, l1, l2, l3] st h Q ↔ jx_Go jxP d 42 53 [l0, l1, l2, l3] (.int (nI 1) :: st) h Q := jg_c rfl
theorem s42_53 : jx_Go jxP (d + 1) 42 53 [l0, l1, l2, l3] (.int x2 :: .int x1 :: .int x0 :: .ref a :: st) h Q ↔ (st.length ≤ 4 ∧ jx_cl h a = some 6 ∧ jx_Go jxP d 43 0 [.ref a, .int x0, .int x1, .int x2, jx_u, jx_u, jx_u, jx_u] [] h (fun s1 h1 => jx_Go jxP (d + 1) 42 56 [l0, l1, l2, l3] (s1 ++ st) h1 Q)) := jg_callV (as := [.int x2, .int x1, .int x0, .ref a]) rfl rfl rfl rfl rfl
theorem s42_56 : jx_Go jxP d 42 56 [l0, l1, .int x, l3] st h Q ↔ jx_Go jxP d 42 59 [l0, l1, .int (x + (-1)), l3] st h Q := jg_inc rfl rfl rfl
theorem s42_59 : jx_Go jxP d 42 59 [l0, l1, l2, l3] st h Q ↔ jx_Go jxP d 42 21 [l0, l1, l2, l3] st h Q := jg_go rfl
theorem s42_62 : jx_Go jxP d 42 62 [l0, .int x, l2, l3] st h Q ↔ jx_Go jxP d 42 65 [l0, .int (x + (-1)), l2, l3] st h Q := jg_inc rfl rfl rfl
theorem s42_65 : jx_Go jxP d 42 65 [l0, l1, l2, l3] st h Q ↔ jx_Go jxP d 42 8 [l0, l1, l2, l3] st h Q := jg_go rfl
theorem s42_68 : jx_Go jxP d 42 68 [l0, l1, l2, l3] [] h Q ↔ Q [] h := jx_rt rfl rfl
-- 43 TalkBench$Scales.tryPartings
theorem s43_0 : jx_Go jxP d 43 0 [.ref a, l1, l2, l3, l4, l5, l6, l7] st h Q ↔ jx_Go jxP d 43 1 [.ref a, l1, l2, l3, l4, l5, l6, l7] (.ref a :: st) h Q := jg_al rfl rfl
theorem s43_1 : jx_Go jxP d 43 1 [l0, l1, l2, l3, l4, l5, l6, l7] (.ref a :: st) h Q ↔ ∃ v, jx_fl h a 6 5 = some v ∧ jx_Go jxP d 43 4 [l0, l1, l2, l3, l4, l5, l6, l7] (v :: st) h Q := jg_gf rfl
theorem s43_4 : jx_Go jxP d 43 4 [l0, .int x, l2, l3, l4, l5, l6, l7] st h Q ↔ jx_Go jxP d 43 5 [l0, .int x, l2, l3, l4, l5, l6, l7] (.int x :: st) h Q := jg_il rfl rfl
theorem s43_5 : jx_Go jxP d 43 5 [l0, l1, l2, l3, l4, l5, l6, l7] (.int x :: .ref a :: st) h Q ↔ ∃ q, jx_ai h a = some q ∧ jx_in x q.1 ∧ jx_Go jxP d 43 6 [l0, l1, l2, l3, l4, l5, l6, l7] (.int (q.2 x.toNatClampNeg) :: st) h Q := jg_ia rfl
theorem s43_6 : jx_Go jxP d 43 6 [l0, l1, l2, l3, l4, l5, l6, l7] (.int x :: st) h Q ↔ jx_Go jxP d 43 8 [l0, l1, l2, l3, .int x, l5, l6, l7] st h Q := jg_is rfl rfl
theorem s43_8 : jx_Go jxP d 43 8 [.ref a, l1, l2, l3, l4, l5, l6, l7] st h Q ↔ jx_Go jxP d 43 9 [.ref a, l1, l2, l3, l4, l5, l6, l7] (.ref a :: st) h Q := jg_al rfl rfl
theorem s43_9 : jx_Go jxP d 43 9 [l0, l1, l2, l3, l4, l5, l6, l7] (.ref a :: st) h Q ↔ ∃ v, jx_fl h a 6 2 = some v ∧ jx_Go jxP d 43 12 [l0, l1, l2, l3, l4, l5, l6, l7] (v :: st) h Q := jg_gf rfl
theorem s43_12 : jx_Go jxP d 43 12 [l0, l1, l2, l3, l4, l5, l6, l7] (.ref a :: st) h Q ↔ ∃ v, jx_fl h a 5 0 = some v ∧ jx_Go jxP d 43 15 [l0, l1, l2, l3, l4, l5, l6, l7] (v :: st) h Q := jg_gf rfl
theorem s43_15 : jx_Go jxP d 43 15 [l0, l1, .int x, l3, l4, l5, l6, l7] st h Q ↔ jx_Go jxP d 43 16 [l0, l1, .int x, l3, l4, l5, l6, l7] (.int x :: st) h Q := jg_il rfl rfl
theorem s43_16 : jx_Go jxP d 43 16 [l0, l1, l2, l3, l4, l5, l6, l7] (.int x :: .ref a :: st) h Q ↔ ∃ q, jx_ai h a = some q ∧ jx_in x q.1 ∧ jx_Go jxP d 43 17 [l0, l1, l2, l3, l4, l5, l6, l7] (.int (q.2 x.toNatClampNeg) :: st) h Q := jg_ia rfl
theorem s43_17 : jx_Go jxP d 43 17 [l0, l1, l2, l3, l4, l5, l6, l7] (.int x :: st) h Q ↔ jx_Go jxP d 43 19 [l0, l1, l2, l3, l4, .int x, l6, l7] st h Q := jg_is rfl rfl
theorem s43_19 : jx_Go jxP d 43 19 [l0, l1, l2, l3, l4, .int x, l6, l7] st h Q ↔ jx_Go jxP d 43 21 [l0, l1, l2, l3, l4, .int x, l6, l7] (.int x :: st) h Q := jg_il rfl rfl
theorem s43_21 : jx_Go jxP d 43 21 [.ref a, l1, l2, l3, l4, l5, l6, l7] st h Q ↔ jx_Go jxP d 43 22 [.ref a, l1, l2, l3, l4, l5, l6, l7] (.ref a :: st) h Q := jg_al rfl rfl
theorem s43_22 : jx_Go jxP d 43 22 [l0, l1, l2, l3, l4, l5, l6, l7] (.ref a :: st) h Q ↔ ∃ v, jx_fl h a 6 2 = some v ∧ jx_Go jxP d 43 25 [l0, l1, l2, l3, l4, l5, l6, l7] (v :: st) h Q := jg_gf rfl
theorem s43_25 : jx_Go jxP d 43 25 [l0, l1, l2, l3, l4, l5, l6, l7] (.ref a :: st) h Q ↔ ∃ v, jx_fl h a 5 0 = some v ∧ jx_Go jxP d 43 28 [l0, l1, l2, l3, l4, l5, l6, l7] (v :: st) h Q := jg_gf rfl
theorem s43_28 : jx_Go jxP d 43 28 [l0, l1, .int x, l3, l4, l5, l6, l7] st h Q ↔ jx_Go jxP d 43 29 [l0, l1, .int x, l3, l4, l5, l6, l7] (.int x :: st) h Q := jg_il rfl rfl
theorem s43_29 : jx_Go jxP d 43 29 [l0, l1, l2, l3, l4, l5, l6, l7] st h Q ↔ jx_Go jxP d 43 30 [l0, l1, l2, l3, l4, l5, l6, l7] (.int (nI 1) :: st) h Q := jg_c rfl
theorem s43_30 : jx_Go jxP d 43 30 [l0, l1, l2, l3, l4, l5, l6, l7] (.int y :: .int x :: st) h Q ↔ jx_Go jxP d 43 31 [l0, l1, l2, l3, l4, l5, l6, l7] (.int (x + y) :: st) h Q := jg_b (f := fun x y => x + y) rfl
theorem s43_31 : jx_Go jxP d 43 31 [l0, l1, l2, l3, l4, l5, l6, l7] (.int x :: .ref a :: st) h Q ↔ ∃ q, jx_ai h a = some q ∧ jx_in x q.1 ∧ jx_Go jxP d 43 32 [l0, l1, l2, l3, l4, l5, l6, l7] (.int (q.2 x.toNatClampNeg) :: st) h Q := jg_ia rfl
theorem s43_32 : jx_Go jxP d 43 32 [l0, l1, l2, l3, l4, l5, l6, l7] (.int y :: .int x :: st) h Q ↔ if y ≤ x then jx_Go jxP d 43 97 [l0, l1, l2, l3, l4, l5, l6, l7] st h Q else jx_Go jxP d 43 35 [l0, l1, l2, l3, l4, l5, l6, l7] st h Q := jg_icP rfl rfl
theorem s43_35 : jx_Go jxP d 43 35 [l0, .int x, l2, l3, l4, l5, l6, l7] st h Q ↔ jx_Go jxP d 43 36 [l0, .int x, l2, l3, l4, l5, l6, l7] (.int x :: st) h Q := jg_il rfl rfl
theorem s43_36 : jx_Go jxP d 43 36 [.ref a, l1, l2, l3, l4, l5, l6, l7] st h Q ↔ jx_Go jxP d 43 37 [.ref a, l1, l2, l3, l4, l5, l6, l7] (.ref a :: st) h Q := jg_al rfl rfl
theorem s43_37 : jx_Go jxP d 43 37 [l0, l1, l2, l3, l4, l5, l6, l7] (.ref a :: st) h Q ↔ ∃ v, jx_fl h a 6 2 = some v ∧ jx_Go jxP d 43 40 [l0, l1, l2, l3, l4, l5, l6, l7] (v :: st) h Q := jg_gf rfl
theorem s43_40 : jx_Go jxP d 43 40 [l0, l1, l2, l3, l4, l5, l6, l7] (.ref a :: st) h Q ↔ ∃ v, jx_fl h a 5 1 = some v ∧ jx_Go jxP d 43 43 [l0, l1, l2, l3, l4, l5, l6, l7] (v :: st) h Q := jg_gf rfl
theorem s43_43 : jx_Go jxP d 43 43 [l0, l1, l2, l3, l4, .int x, l6, l7] st h Q ↔ jx_Go jxP d 43 45 [l0, l1, l2, l3, l4, .int x, l6, l7] (.int x :: st) h Q := jg_il rfl rfl
theorem s43_45 : jx_Go jxP d 43 45 [l0, l1, l2, l3, l4, l5, l6, l7] (.int x :: .ref a :: st) h Q ↔ ∃ q, jx_ai h a = some q ∧ jx_in x q.1 ∧ jx_Go jxP d 43 46 [l0, l1, l2, l3, l4, l5, l6, l7] (.int (q.2 x.toNatClampNeg) :: st) h Q := jg_ia rfl
theorem s43_46 : jx_Go jxP d 43 46 [l0, l1, l2, .int x, l4, l5, l6, l7] st h Q ↔ jx_Go jxP d 43 47 [l0, l1, l2, .int x, l4, l5, l6, l7] (.int x :: st) h Q := jg_il rfl rfl
theorem s43_47 : jx_Go jxP d 43 47 [l0, l1, l2, l3, l4, l5, l6, l7] (.int y :: .int x :: st) h Q ↔ jx_Go jxP d 43 48 [l0, l1, l2, l3, l4, l5, l6, l7] (.int (x * y) :: st) h Q := jg_b (f := fun x y => x * y) rfl
theorem s43_48 : jx_Go jxP d 43 48 [l0, l1, l2, l3, l4, l5, l6, l7] (.int y :: .int x :: st) h Q ↔ jx_Go jxP d 43 49 [l0, l1, l2, l3, l4, l5, l6, l7] (.int (x - y) :: st) h Q := jg_b (f := fun x y => x - y) rfl
theorem s43_49 : jx_Go jxP d 43 49 [l0, l1, l2, l3, l4, l5, l6, l7] (.int x :: st) h Q ↔ jx_Go jxP d 43 51 [l0, l1, l2, l3, l4, l5, .int x, l7] st h Q := jg_is rfl rfl
theorem s43_51 : jx_Go jxP d 43 51 [l0, .int x, l2, l3, l4, l5, l6, l7] st h Q ↔ jx_Go jxP d 43 52 [l0, .int x, l2, l3, l4, l5, l6, l7] (.int x :: st) h Q := jg_il rfl rfl
theorem s43_52 : jx_Go jxP d 43 52 [l0, l1, .int x, l3, l4, l5, l6, l7] st h Q ↔ jx_Go jxP d 43 53 [l0, l1, .int x, l3, l4, l5, l6, l7] (.int x :: st) h Q := jg_il rfl rfl
theorem s43_53 : jx_Go jxP d 43 53 [.ref a, l1, l2, l3, l4, l5, l6, l7] st h Q ↔ jx_Go jxP d 43 54 [.ref a, l1, l2, l3, l4, l5, l6, l7] (.ref a :: st) h Q := jg_al rfl rfl
theorem s43_54 : jx_Go jxP d 43 54 [l0, l1, l2, l3, l4, l5, l6, l7] (.ref a :: st) h Q ↔ ∃ v, jx_fl h a 6 2 = some v ∧ jx_Go jxP d 43 57 [l0, l1, l2, l3, l4, l5, l6, l7] (v :: st) h Q := jg_gf rfl
theorem s43_57 : jx_Go jxP d 43 57 [l0, l1, l2, l3, l4, l5, l6, l7] (.ref a :: st) h Q ↔ ∃ v, jx_fl h a 5 1 = some v ∧ jx_Go jxP d 43 60 [l0, l1, l2, l3, l4, l5, l6, l7] (v :: st) h Q := jg_gf rfl
theorem s43_60 : jx_Go jxP d 43 60 [l0, l1, l2, l3, l4, .int x, l6, l7] st h Q ↔ jx_Go jxP d 43 62 [l0, l1, l2, l3, l4, .int x, l6, l7] (.int x :: st) h Q := jg_il rfl rfl
theorem s43_62 : jx_Go jxP d 43 62 [l0, l1, l2, l3, l4, l5, l6, l7] (.int x :: .ref a :: st) h Q ↔ ∃ q, jx_ai h a = some q ∧ jx_in x q.1 ∧ jx_Go jxP d 43 63 [l0, l1, l2, l3, l4, l5, l6, l7] (.int (q.2 x.toNatClampNeg) :: st) h Q := jg_ia rfl
theorem s43_63 : jx_Go jxP d 43 63 [l0, l1, l2, l3, l4, l5, l6, l7] (.int y :: .int x :: st) h Q ↔ jx_Go jxP d 43 64 [l0, l1, l2, l3, l4, l5, l6, l7] (.int (x - y) :: st) h Q := jg_b (f := fun x y => x - y) rfl
theorem s43_64 : jx_Go jxP d 43 64 [l0, l1, l2, .int x, l4, l5, l6, l7] st h Q ↔ jx_Go jxP d 43 65 [l0, l1, l2, .int x, l4, l5, l6, l7] (.int x :: st) h Q := jg_il rfl rfl
theorem s43_65 : jx_Go jxP d 43 65 [l0, l1, l2, l3, l4, l5, l6, l7] (.int y :: .int x :: st) h Q ↔ jx_Go jxP d 43 66 [l0, l1, l2, l3, l4, l5, l6, l7] (.int (x * y) :: st) h Q := jg_b (f := fun x y => x * y) rfl
theorem s43_66 : jx_Go jxP d 43 66 [l0, l1, l2, l3, l4, l5, l6, l7] (.int y :: .int x :: st) h Q ↔ jx_Go jxP d 43 67 [l0, l1, l2, l3, l4, l5, l6, l7] (.int (x - y) :: st) h Q := jg_b (f := fun x y => x - y) rfl
theorem s43_67 : jx_Go jxP d 43 67 [l0, l1, l2, l3, l4, l5, l6, l7] (.int x :: st) h Q ↔ jx_Go jxP d 43 69 [l0, l1, l2, l3, l4, l5, l6, .int x] st h Q := jg_is rfl rfl
theorem s43_69 : jx_Go jxP d 43 69 [l0, l1, l2, l3, .int x, l5, l6, l7] st h Q ↔ jx_Go jxP d 43 71 [l0, l1, l2, l3, .int x, l5, l6, l7] (.int x :: st) h Q := jg_il rfl rfl
theorem s43_71 : jx_Go jxP d 43 71 [.ref a, l1, l2, l3, l4, l5, l6, l7] st h Q ↔ jx_Go jxP d 43 72 [.ref a, l1, l2, l3, l4, l5, l6, l7] (.ref a :: st) h Q := jg_al rfl rfl
theorem s43_72 : jx_Go jxP d 43 72 [l0, l1, l2, l3, l4, l5, l6, l7] (.ref a :: st) h Q ↔ ∃ v, jx_fl h a 6 5 = some v ∧ jx_Go jxP d 43 75 [l0, l1, l2, l3, l4, l5, l6, l7] (v :: st) h Q := jg_gf rfl
theorem s43_75 : jx_Go jxP d 43 75 [l0, l1, l2, l3, l4, l5, .int x, l7] st h Q ↔ jx_Go jxP d 43 77 [l0, l1, l2, l3, l4, l5, .int x, l7] (.int x :: st) h Q := jg_il rfl rfl
theorem s43_77 : jx_Go jxP d 43 77 [l0, l1, l2, l3, l4, l5, l6, l7] (.int x :: .ref a :: st) h Q ↔ ∃ q, jx_ai h a = some q ∧ jx_in x q.1 ∧ jx_Go jxP d 43 78 [l0, l1, l2, l3, l4, l5, l6, l7] (.int (q.2 x.toNatClampNeg) :: st) h Q := jg_ia rfl
theorem s43_78 : jx_Go jxP d 43 78 [.ref a, l1, l2, l3, l4, l5, l6, l7] st h Q ↔ jx_Go jxP d 43 79 [.ref a, l1, l2, l3, l4, l5, l6, l7] (.ref a :: st) h Q := jg_al rfl rfl
theorem s43_79 : jx_Go jxP d 43 79 [l0, l1, l2, l3, l4, l5, l6, l7] (.ref a :: st) h Q ↔ ∃ v, jx_fl h a 6 5 = some v ∧ jx_Go jxP d 43 82 [l0, l1, l2, l3, l4, l5, l6, l7] (v :: st) h Q := jg_gf rfl
theorem s43_82 : jx_Go jxP d 43 82 [l0, l1, l2, l3, l4, l5, l6, .int x] st h Q ↔ jx_Go jxP d 43 84 [l0, l1, l2, l3, l4, l5, l6, .int x] (.int x :: st) h Q := jg_il rfl rfl
theorem s43_84 : jx_Go jxP d 43 84 [l0, l1, l2, l3, l4, l5, l6, l7] (.int x :: .ref a :: st) h Q ↔ ∃ q, jx_ai h a = some q ∧ jx_in x q.1 ∧ jx_Go jxP d 43 85 [l0, l1, l2, l3, l4, l5, l6, l7] (.int (q.2 x.toNatClampNeg) :: st) h Q := jg_ia rfl
theorem s43_85 : jx_Go jxP d 43 85 [l0, l1, l2, l3, l4, l5, l6, l7] (.int y :: .int x :: st) h Q ↔ jx_Go jxP d 43 86 [l0, l1, l2, l3, l4, l5, l6, l7] (.int (x + y) :: st) h Q := jg_b (f := fun x y => x + y) rfl
theorem s43_86 : jx_Go jxP d 43 86 [l0, l1, l2, l3, l4, l5, l6, l7] (.int y :: .int x :: st) h Q ↔ (st.length ≤ 4 ∧ jx_Go jxP d 43 89 [l0, l1, l2, l3, l4, l5, l6, l7] (.int (if y < x then y else x) :: st) h Q) := jg_m2 (f := fun x y => if y < x then y else x) rfl
theorem s43_89 : jx_Go jxP d 43 89 [l0, l1, l2, l3, l4, l5, l6, l7] (.int x :: st) h Q ↔ jx_Go jxP d 43 91 [l0, l1, l2, l3, .int x, l5, l6, l7] st h Q := jg_is rfl rfl
theorem s43_91 : jx_Go jxP d 43 91 [l0, l1, l2, l3, l4, .int x, l6, l7] st h Q ↔ jx_Go jxP d 43 94 [l0, l1, l2, l3, l4, .int (x + (nI 1)), l6, l7] st h Q := jg_inc rfl rfl rfl
theorem s43_94 : jx_Go jxP d 43 94 [l0, l1, l2, l3, l4, l5, l6, l7] st h Q ↔ jx_Go jxP d 43 19 [l0, l1, l2, l3, l4, l5, l6, l7] st h Q := jg_go rfl
theorem s43_97 : jx_Go jxP d 43 97 [.ref a, l1, l2, l3, l4, l5, l6, l7] st h Q ↔ jx_Go jxP d 43 98 [.ref a, l1, l2, l3, l4, l5, l6, l7] (.ref a :: st) h Q := jg_al rfl rfl
theorem s43_98 : jx_Go jxP d 43 98 [l0, l1, l2, l3, l4, l5, l6, l7] (.ref a :: st) h Q ↔ ∃ v, jx_fl h a 6 5 = some v ∧ jx_Go jxP d 43 101 [l0, l1, l2, l3, l4, l5, l6, l7] (v :: st) h Q := jg_gf rfl
theorem s43_101 : jx_Go jxP d 43 101 [l0, .int x, l2, l3, l4, l5, l6, l7] st h Q ↔ jx_Go jxP d 43 102 [l0, .int x, l2, l3, l4, l5, l6, l7] (.int x :: st) h Q := jg_il rfl rfl
theorem s43_102 : jx_Go jxP d 43 102 [l0, l1, l2, l3, .int x, l5, l6, l7] st h Q ↔ jx_Go jxP d 43 104 [l0, l1, l2, l3, .int x, l5, l6, l7] (.int x :: st) h Q := jg_il rfl rfl
theorem s43_104 : jx_Go jxP d 43 104 [l0, l1, l2, l3, l4, l5, l6, l7] (.int y :: .int x :: .ref a :: st) h Q ↔ ∃ q, jx_ai h a = some q ∧ jx_in x q.1 ∧ jx_Go jxP d 43 105 [l0, l1, l2, l3, l4, l5, l6, l7] st (jx_wi h a q.1 (upd q.2 x.toNatClampNeg y)) Q := jg_iw rfl
theorem s43_105 : jx_Go jxP d 43 105 [l0, l1, l2, l3, l4, l5, l6, l7] [] h Q ↔ Q [] h := jx_rt rfl rfl
-- 44 TalkBench$Searches.<init>
theorem s44_0 : jx_Go jxP d 44 0 [.ref a, l1, l2] st h Q ↔ jx_Go jxP d 44 1 [.ref a, l1, l2] (.ref a :: st) h Q := jg_al rfl rfl
theorem s44_1 : jx_Go jxP d 44 1 [l0, l1, l2] [.ref a] h Q ↔ jx_Go jxP d 44 4 [l0, l1, l2] [] h Q := jg_oi rfl
theorem s44_4 : jx_Go jxP d 44 4 [.ref a, l1, l2] st h Q ↔ jx_Go jxP d 44 5 [.ref a, l1, l2] (.ref a :: st) h Q := jg_al rfl rfl
theorem s44_5 : jx_Go jxP d 44 5 [l0, l1, l2] st h Q ↔ jx_Go jxP d 44 7 [l0, l1, l2] (.int (nI 25) :: st) h Q := jg_c rfl
theorem s44_7 : jx_Go jxP d 44 7 [l0, l1, l2] (.int (nI 25) :: st) h Q ↔ jx_Go jxP d 44 9 [l0, l1, l2] (.ref h.1 :: st) (jx_mk h 25 (.inl (0, 25, .inl (fun _ => 0)))) Q := jg_ni rfl (jx_inB_iff.mp (by decide +kernel))
theorem s44_9 : jx_Go jxP d 44 9 [l0, l1, l2] (.ref b :: .ref a :: st) h Q ↔ ∃ v, jx_fl h a 7 2 = some v ∧ jx_Go jxP d 44 12 [l0, l1, l2] st (jx_uf h a 2 (.ref b)) Q := jg_pfR rfl
theorem s44_12 : jx_Go jxP d 44 12 [.ref a, l1, l2] st h Q ↔ jx_Go jxP d 44 13 [.ref a, l1, l2] (.ref a :: st) h Q := jg_al rfl rfl
theorem s44_13 : jx_Go jxP d 44 13 [l0, l1, l2] st h Q ↔ jx_Go jxP d 44 15 [l0, l1, l2] (.int (nI 32) :: st) h Q := jg_c rfl
theorem s44_15 : jx_Go jxP d 44 15 [l0, l1, l2] (.int (nI 32) :: st) h Q ↔ jx_Go jxP d 44 17 [l0, l1, l2] (.ref h.1 :: st) (jx_mk h 32 (.inl (0, 32, .inl (fun _ => 0)))) Q := jg_ni rfl (jx_inB_iff.mp (by decide +kernel))
theorem s44_17 : jx_Go jxP d 44 17 [l0, l1, l2] (.ref b :: .ref a :: st) h Q ↔ ∃ v, jx_fl h a 7 3 = some v ∧ jx_Go jxP d 44 20 [l0, l1, l2] st (jx_uf h a 3 (.ref b)) Q := jg_pfR rfl
theorem s44_20 : jx_Go jxP d 44 20 [.ref a, l1, l2] st h Q ↔ jx_Go jxP d 44 21 [.ref a, l1, l2] (.ref a :: st) h Q := jg_al rfl rfl
theorem s44_21 : jx_Go jxP d 44 21 [l0, .ref a, l2] st h Q ↔ jx_Go jxP d 44 22 [l0, .ref a, l2] (.ref a :: st) h Q := jg_al rfl rfl
theorem s44_22 : jx_Go jxP d 44 22 [l0, l1, l2] (.ref b :: .ref a :: st) h Q ↔ ∃ v, jx_fl h a 7 0 = some v ∧ jx_Go jxP d 44 25 [l0, l1, l2] st (jx_uf h a 0 (.ref b)) Q := jg_pfR rfl
theorem s44_25 : jx_Go jxP d 44 25 [.ref a, l1, l2] st h Q ↔ jx_Go jxP d 44 26 [.ref a, l1, l2] (.ref a :: st) h Q := jg_al rfl rfl
theorem s44_26 : jx_Go jxP d 44 26 [l0, l1, .ref a] st h Q ↔ jx_Go jxP d 44 27 [l0, l1, .ref a] (.ref a :: st) h Q := jg_al rfl rfl
theorem s44_27 : jx_Go jxP d 44 27 [l0, l1, l2] (.ref b :: .ref a :: st) h Q ↔ ∃ v, jx_fl h a 7 1 = some v ∧ jx_Go jxP d 44 30 [l0, l1, l2] st (jx_uf h a 1 (.ref b)) Q := jg_pfR rfl
theorem s44_30 : jx_Go jxP d 44 30 [l0, l1, l2] [] h Q ↔ Q [] h := jx_rt rfl rfl
-- 45 TalkBench$Searches.greatestFooling
theorem s45_0 : jx_Go jxP d 45 0 [.ref a, l1, l2, l3] st h Q ↔ jx_Go jxP d 45 1 [.ref a, l1, l2, l3] (.ref a :: st) h Q := jg_al rfl rfl
theorem s45_1 : jx_Go jxP d 45 1 [l0, .int x, l2, l3] st h Q ↔ jx_Go jxP d 45 2 [l0, .int x, l2, l3] (.int x :: st) h Q := jg_il rfl rfl
theorem s45_2 : jx_Go jxP (d + 1) 45 2 [l0, l1, l2, l3] (.int x0 :: .ref a :: st) h Q ↔ (st.length ≤ 4 ∧ jx_cl h a = some 7 ∧ jx_Go jxP d 46 0 [.ref a, .int x0, jx_u, jx_u] [] h (fun s1 h1 => jx_Go jxP (d + 1) 45 5 [l0, l1, l2, l3] (s1 ++ st) h1 Q)) := jg_callV (as := [.int x0, .ref a]) rfl rfl rfl rfl rfl
theorem s45_5 : jx_Go jxP d 45 5 [l0, l1, l2, l3] (.int x :: st) h Q ↔ jx_Go jxP d 45 6 [l0, l1, .int x, l3] st h Q := jg_is rfl rfl
theorem s45_6 : jx_Go jxP d 45 6 [l0, l1, l2, l3] st h Q ↔ jx_Go jxP d 45 7 [l0, l1, l2, l3] (.int (nI 0) :: st) h Q := jg_c rfl
theorem s45_7 : jx_Go jxP d 45 7 [l0, l1, l2, l3] (.int x :: st) h Q ↔ jx_Go jxP d 45 8 [l0, l1, l2, .int x] st h Q := jg_is rfl rfl
theorem s45_8 : jx_Go jxP d 45 8 [l0, l1, l2, .int x] st h Q ↔ jx_Go jxP d 45 9 [l0, l1, l2, .int x] (.int x :: st) h Q := jg_il rfl rfl
theorem s45_9 : jx_Go jxP d 45 9 [l0, l1, l2, l3] st h Q ↔ jx_Go jxP d 45 11 [l0, l1, l2, l3] (.int (nI 25) :: st) h Q := jg_c rfl
theorem s45_11 : jx_Go jxP d 45 11 [l0, l1, l2, l3] (.int y :: .int x :: st) h Q ↔ if y ≤ x then jx_Go jxP d 45 45 [l0, l1, l2, l3] st h Q else jx_Go jxP d 45 14 [l0, l1, l2, l3] st h Q := jg_icP rfl rfl
theorem s45_14 : jx_Go jxP d 45 14 [.ref a, l1, l2, l3] st h Q ↔ jx_Go jxP d 45 15 [.ref a, l1, l2, l3] (.ref a :: st) h Q := jg_al rfl rfl
theorem s45_15 : jx_Go jxP d 45 15 [l0, l1, l2, l3] (.ref a :: st) h Q ↔ ∃ v, jx_fl h a 7 2 = some v ∧ jx_Go jxP d 45 18 [l0, l1, l2, l3] (v :: st) h Q := jg_gf rfl
theorem s45_18 : jx_Go jxP d 45 18 [l0, l1, l2, .int x] st h Q ↔ jx_Go jxP d 45 19 [l0, l1, l2, .int x] (.int x :: st) h Q := jg_il rfl rfl
theorem s45_19 : jx_Go jxP d 45 19 [l0, l1, .int x, l3] st h Q ↔ jx_Go jxP d 45 20 [l0, l1, .int x, l3] (.int x :: st) h Q := jg_il rfl rfl
theorem s45_20 : jx_Go jxP d 45 20 [l0, l1, l2, .int x] st h Q ↔ jx_Go jxP d 45 21 [l0, l1, l2, .int x] (.int x :: st) h Q := jg_il rfl rfl
theorem s45_21 : jx_Go jxP d 45 21 [l0, l1, l2, l3] (.int y :: .int x :: st) h Q ↔ jx_Go jxP d 45 22 [l0, l1, l2, l3] (.int (x >>> (y &&& 31)) :: st) h Q := jg_b (f := fun x y => x >>> (y &&& 31)) rfl
theorem s45_22 : jx_Go jxP d 45 22 [l0, l1, l2, l3] st h Q ↔ jx_Go jxP d 45 23 [l0, l1, l2, l3] (.int (nI 1) :: st) h Q := jg_c rfl
theorem s45_23 : jx_Go jxP d 45 23 [l0, l1, l2, l3] (.int y :: .int x :: st) h Q ↔ jx_Go jxP d 45 24 [l0, l1, l2, l3] (.int (x &&& y) :: st) h Q := jg_b (f := fun x y => x &&& y) rfl
theorem s45_24 : jx_Go jxP d 45 24 [l0, l1, l2, l3] st h Q ↔ jx_Go jxP d 45 25 [l0, l1, l2, l3] (.int (nI 1) :: st) h Q := jg_c rfl
theorem s45_25 : jx_Go jxP d 45 25 [l0, l1, l2, l3] (.int y :: .int x :: st) h Q ↔ if x = y then jx_Go jxP d 45 28 [l0, l1, l2, l3] st h Q else jx_Go jxP d 45 37 [l0, l1, l2, l3] st h Q := jg_icN rfl rfl
theorem s45_28 : jx_Go jxP d 45 28 [.ref a, l1, l2, l3] st h Q ↔ jx_Go jxP d 45 29 [.ref a, l1, l2, l3] (.ref a :: st) h Q := jg_al rfl rfl
theorem s45_29 : jx_Go jxP d 45 29 [l0, l1, l2, .int x] st h Q ↔ jx_Go jxP d 45 30 [l0, l1, l2, .int x] (.int x :: st) h Q := jg_il rfl rfl
theorem s45_30 : jx_Go jxP d 45 30 [l0, l1, .int x, l3] st h Q ↔ jx_Go jxP d 45 31 [l0, l1, .int x, l3] (.int x :: st) h Q := jg_il rfl rfl
theorem s45_31 : jx_Go jxP (d + 1) 45 31 [l0, l1, l2, l3] (.int x1 :: .int x0 :: .ref a :: st) h Q ↔ (st.length ≤ 4 ∧ jx_cl h a = some 7 ∧ jx_Go jxP d 47 0 [.ref a, .int x0, .int x1, jx_u, jx_u] [] h (fun s1 h1 => jx_Go jxP (d + 1) 45 34 [l0, l1, l2, l3] (s1 ++ st) h1 Q)) := jg_callV (as := [.int x1, .int x0, .ref a]) rfl rfl rfl rfl rfl
theorem s45_34 : jx_Go jxP d 45 34 [l0, l1, l2, l3] st h Q ↔ jx_Go jxP d 45 38 [l0, l1, l2, l3] st h Q := jg_go rfl
theorem s45_37 : jx_Go jxP d 45 37 [l0, l1, l2, l3] st h Q ↔ jx_Go jxP d 45 38 [l0, l1, l2, l3] (.int (nI 0) :: st) h Q := jg_c rfl
theorem s45_38 : jx_Go jxP d 45 38 [l0, l1, l2, l3] (.int y :: .int x :: .ref a :: st) h Q ↔ ∃ q, jx_ai h a = some q ∧ jx_in x q.1 ∧ jx_Go jxP d 45 39 [l0, l1, l2, l3] st (jx_wi h a q.1 (upd q.2 x.toNatClampNeg y)) Q := jg_iw rfl
theorem s45_39 : jx_Go jxP d 45 39 [l0, l1, l2, .int x] st h Q ↔ jx_Go jxP d 45 42 [l0, l1, l2, .int (x + (nI 1))] st h Q := jg_inc rfl rfl rfl
theorem s45_42 : jx_Go jxP d 45 42 [l0, l1, l2, l3] st h Q ↔ jx_Go jxP d 45 8 [l0, l1, l2, l3] st h Q := jg_go rfl
theorem s45_45 : jx_Go jxP d 45 45 [.ref a, l1, l2, l3] st h Q ↔ jx_Go jxP d 45 46 [.ref a, l1, l2, l3] (.ref a :: st) h Q := jg_al rfl rfl
theorem s45_46 : jx_Go jxP d 45 46 [l0, l1, l2, l3] st h Q ↔ jx_Go jxP d 45 47 [l0, l1, l2, l3] (.int (nI 0) :: st) h Q := jg_c rfl
theorem s45_47 : jx_Go jxP d 45 47 [l0, l1, l2, l3] (.int x :: .ref a :: st) h Q ↔ ∃ v, jx_fl h a 7 5 = some v ∧ jx_Go jxP d 45 50 [l0, l1, l2, l3] st (jx_uf h a 5 (.int x)) Q := jg_pfI rfl
theorem s45_50 : jx_Go jxP d 45 50 [.ref a, l1, l2, l3] st h Q ↔ jx_Go jxP d 45 51 [.ref a, l1, l2, l3] (.ref a :: st) h Q := jg_al rfl rfl
theorem s45_51 : jx_Go jxP d 45 51 [l0, l1, l2, l3] st h Q ↔ jx_Go jxP d 45 52 [l0, l1, l2, l3] (.int (nI 0) :: st) h Q := jg_c rfl
theorem s45_52 : jx_Go jxP d 45 52 [l0, l1, .int x, l3] st h Q ↔ jx_Go jxP d 45 53 [l0, l1, .int x, l3] (.int x :: st) h Q := jg_il rfl rfl
theorem s45_53 : jx_Go jxP d 45 53 [l0, l1, l2, l3] st h Q ↔ jx_Go jxP d 45 54 [l0, l1, l2, l3] (.int (nI 0) :: st) h Q := jg_c rfl
theorem s45_54 : jx_Go jxP (d + 1) 45 54 [l0, l1, l2, l3] (.int x2 :: .int x1 :: .int x0 :: .ref a :: st) h Q ↔ (st.length ≤ 4 ∧ jx_cl h a = some 7 ∧ jx_Go jxP d 48 0 [.ref a, .int x0, .int x1, .int x2, jx_u, jx_u, jx_u, jx_u] [] h (fun s1 h1 => jx_Go jxP (d + 1) 45 57 [l0, l1, l2, l3] (s1 ++ st) h1 Q)) := jg_callV (as := [.int x2, .int x1, .int x0, .ref a]) rfl rfl rfl rfl rfl
theorem s45_57 : jx_Go jxP d 45 57 [.ref a, l1, l2, l3] st h Q ↔ jx_Go jxP d 45 58 [.ref a, l1, l2, l3] (.ref a :: st) h Q := jg_al rfl rfl
theorem s45_58 : jx_Go jxP d 45 58 [l0, l1, l2, l3] (.ref a :: st) h Q ↔ ∃ v, jx_fl h a 7 5 = some v ∧ jx_Go jxP d 45 61 [l0, l1, l2, l3] (v :: st) h Q := jg_gf rfl
theorem s45_61 : jx_Go jxP d 45 61 [l0, l1, l2, l3] [.int x] h Q ↔ Q [.int x] h := jx_rt rfl rfl
-- 46 TalkBench$Searches.placesThatAre
theorem s46_0 : jx_Go jxP d 46 0 [l0, l1, l2, l3] st h Q ↔ jx_Go jxP d 46 1 [l0, l1, l2, l3] (.int (nI 0) :: st) h Q := jg_c rfl
theorem s46_1 : jx_Go jxP d 46 1 [l0, l1, l2, l3] (.int x :: st) h Q ↔ jx_Go jxP d 46 2 [l0, l1, .int x, l3] st h Q := jg_is rfl rfl
theorem s46_2 : jx_Go jxP d 46 2 [l0, l1, l2, l3] st h Q ↔ jx_Go jxP d 46 3 [l0, l1, l2, l3] (.int (nI 0) :: st) h Q := jg_c rfl
theorem s46_3 : jx_Go jxP d 46 3 [l0, l1, l2, l3] (.int x :: st) h Q ↔ jx_Go jxP d 46 4 [l0, l1, l2, .int x] st h Q := jg_is rfl rfl
theorem s46_4 : jx_Go jxP d 46 4 [l0, l1, l2, .int x] st h Q ↔ jx_Go jxP d 46 5 [l0, l1, l2, .int x] (.int x :: st) h Q := jg_il rfl rfl
theorem s46_5 : jx_Go jxP d 46 5 [.ref a, l1, l2, l3] st h Q ↔ jx_Go jxP d 46 6 [.ref a, l1, l2, l3] (.ref a :: st) h Q := jg_al rfl rfl
theorem s46_6 : jx_Go jxP d 46 6 [l0, l1, l2, l3] (.ref a :: st) h Q ↔ ∃ v, jx_fl h a 7 0 = some v ∧ jx_Go jxP d 46 9 [l0, l1, l2, l3] (v :: st) h Q := jg_gf rfl
theorem s46_9 : jx_Go jxP d 46 9 [l0, l1, l2, l3] (.ref a :: st) h Q ↔ ∃ v, jx_fl h a 10 0 = some v ∧ jx_Go jxP d 46 12 [l0, l1, l2, l3] (v :: st) h Q := jg_gf rfl
theorem s46_12 : jx_Go jxP d 46 12 [l0, l1, l2, l3] (.int y :: .int x :: st) h Q ↔ if y ≤ x then jx_Go jxP d 46 39 [l0, l1, l2, l3] st h Q else jx_Go jxP d 46 15 [l0, l1, l2, l3] st h Q := jg_icP rfl rfl
theorem s46_15 : jx_Go jxP d 46 15 [l0, l1, .int x, l3] st h Q ↔ jx_Go jxP d 46 16 [l0, l1, .int x, l3] (.int x :: st) h Q := jg_il rfl rfl
theorem s46_16 : jx_Go jxP d 46 16 [.ref a, l1, l2, l3] st h Q ↔ jx_Go jxP d 46 17 [.ref a, l1, l2, l3] (.ref a :: st) h Q := jg_al rfl rfl
theorem s46_17 : jx_Go jxP d 46 17 [l0, l1, l2, l3] (.ref a :: st) h Q ↔ ∃ v, jx_fl h a 7 1 = some v ∧ jx_Go jxP d 46 20 [l0, l1, l2, l3] (v :: st) h Q := jg_gf rfl
theorem s46_20 : jx_Go jxP d 46 20 [l0, .int x, l2, l3] st h Q ↔ jx_Go jxP d 46 21 [l0, .int x, l2, l3] (.int x :: st) h Q := jg_il rfl rfl
theorem s46_21 : jx_Go jxP d 46 21 [l0, l1, l2, l3] st h Q ↔ jx_Go jxP d 46 22 [l0, l1, l2, l3] (.int (nI 1) :: st) h Q := jg_c rfl
theorem s46_22 : jx_Go jxP d 46 22 [l0, l1, l2, .int x] st h Q ↔ jx_Go jxP d 46 23 [l0, l1, l2, .int x] (.int x :: st) h Q := jg_il rfl rfl
theorem s46_23 : jx_Go jxP d 46 23 [l0, l1, l2, l3] (.int y :: .int x :: st) h Q ↔ jx_Go jxP d 46 24 [l0, l1, l2, l3] (.int (x <<< (y &&& 31)) :: st) h Q := jg_b (f := fun x y => x <<< (y &&& 31)) rfl
theorem s46_24 : jx_Go jxP (d + 1) 46 24 [l0, l1, l2, l3] (.int x1 :: .int x0 :: .ref a :: st) h Q ↔ (st.length ≤ 4 ∧ jx_cl h a = some 4 ∧ jx_Go jxP d 32 0 [.ref a, .int x0, .int x1] [] h (fun s1 h1 => jx_Go jxP (d + 1) 46 27 [l0, l1, l2, l3] (s1 ++ st) h1 Q)) := jg_callV (as := [.int x1, .int x0, .ref a]) rfl rfl rfl rfl rfl
theorem s46_27 : jx_Go jxP d 46 27 [l0, l1, l2, l3] st h Q ↔ jx_Go jxP d 46 28 [l0, l1, l2, l3] (.int (nI 5) :: st) h Q := jg_c rfl
theorem s46_28 : jx_Go jxP d 46 28 [l0, l1, l2, .int x] st h Q ↔ jx_Go jxP d 46 29 [l0, l1, l2, .int x] (.int x :: st) h Q := jg_il rfl rfl
theorem s46_29 : jx_Go jxP d 46 29 [l0, l1, l2, l3] (.int y :: .int x :: st) h Q ↔ jx_Go jxP d 46 30 [l0, l1, l2, l3] (.int (x * y) :: st) h Q := jg_b (f := fun x y => x * y) rfl
theorem s46_30 : jx_Go jxP d 46 30 [l0, l1, l2, l3] (.int y :: .int x :: st) h Q ↔ jx_Go jxP d 46 31 [l0, l1, l2, l3] (.int (x <<< (y &&& 31)) :: st) h Q := jg_b (f := fun x y => x <<< (y &&& 31)) rfl
theorem s46_31 : jx_Go jxP d 46 31 [l0, l1, l2, l3] (.int y :: .int x :: st) h Q ↔ jx_Go jxP d 46 32 [l0, l1, l2, l3] (.int (x ||| y) :: st) h Q := jg_b (f := fun x y => x ||| y) rfl
theorem s46_32 : jx_Go jxP d 46 32 [l0, l1, l2, l3] (.int x :: st) h Q ↔ jx_Go jxP d 46 33 [l0, l1, .int x, l3] st h Q := jg_is rfl rfl
theorem s46_33 : jx_Go jxP d 46 33 [l0, l1, l2, .int x] st h Q ↔ jx_Go jxP d 46 36 [l0, l1, l2, .int (x + (nI 1))] st h Q := jg_inc rfl rfl rfl
theorem s46_36 : jx_Go jxP d 46 36 [l0, l1, l2, l3] st h Q ↔ jx_Go jxP d 46 4 [l0, l1, l2, l3] st h Q := jg_go rfl
theorem s46_39 : jx_Go jxP d 46 39 [l0, l1, .int x, l3] st h Q ↔ jx_Go jxP d 46 40 [l0, l1, .int x, l3] (.int x :: st) h Q := jg_il rfl rfl
theorem s46_40 : jx_Go jxP d 46 40 [l0, l1, l2, l3] [.int x] h Q ↔ Q [.int x] h := jx_rt rfl rfl
-- 47 TalkBench$Searches.placesApart
theorem s47_0 : jx_Go jxP d 47 0 [l0, l1, l2, l3, l4] st h Q ↔ jx_Go jxP d 47 1 [l0, l1, l2, l3, l4] (.int (nI 0) :: st) h Q := jg_c rfl
theorem s47_1 : jx_Go jxP d 47 1 [l0, l1, l2, l3, l4] (.int x :: st) h Q ↔ jx_Go jxP d 47 2 [l0, l1, l2, .int x, l4] st h Q := jg_is rfl rfl
theorem s47_2 : jx_Go jxP d 47 2 [l0, l1, l2, l3, l4] st h Q ↔ jx_Go jxP d 47 3 [l0, l1, l2, l3, l4] (.int (nI 0) :: st) h Q := jg_c rfl
theorem s47_3 : jx_Go jxP d 47 3 [l0, l1, l2, l3, l4] (.int x :: st) h Q ↔ jx_Go jxP d 47 5 [l0, l1, l2, l3, .int x] st h Q := jg_is rfl rfl
theorem s47_5 : jx_Go jxP d 47 5 [l0, l1, l2, l3, .int x] st h Q ↔ jx_Go jxP d 47 7 [l0, l1, l2, l3, .int x] (.int x :: st) h Q := jg_il rfl rfl
theorem s47_7 : jx_Go jxP d 47 7 [l0, l1, l2, l3, l4] st h Q ↔ jx_Go jxP d 47 9 [l0, l1, l2, l3, l4] (.int (nI 25) :: st) h Q := jg_c rfl
theorem s47_9 : jx_Go jxP d 47 9 [l0, l1, l2, l3, l4] (.int y :: .int x :: st) h Q ↔ if y ≤ x then jx_Go jxP d 47 48 [l0, l1, l2, l3, l4] st h Q else jx_Go jxP d 47 12 [l0, l1, l2, l3, l4] st h Q := jg_icP rfl rfl
theorem s47_12 : jx_Go jxP d 47 12 [l0, l1, .int x, l3, l4] st h Q ↔ jx_Go jxP d 47 13 [l0, l1, .int x, l3, l4] (.int x :: st) h Q := jg_il rfl rfl
theorem s47_13 : jx_Go jxP d 47 13 [l0, l1, l2, l3, .int x] st h Q ↔ jx_Go jxP d 47 15 [l0, l1, l2, l3, .int x] (.int x :: st) h Q := jg_il rfl rfl
theorem s47_15 : jx_Go jxP d 47 15 [l0, l1, l2, l3, l4] (.int y :: .int x :: st) h Q ↔ jx_Go jxP d 47 16 [l0, l1, l2, l3, l4] (.int (x >>> (y &&& 31)) :: st) h Q := jg_b (f := fun x y => x >>> (y &&& 31)) rfl
theorem s47_16 : jx_Go jxP d 47 16 [l0, l1, l2, l3, l4] st h Q ↔ jx_Go jxP d 47 17 [l0, l1, l2, l3, l4] (.int (nI 1) :: st) h Q := jg_c rfl
theorem s47_17 : jx_Go jxP d 47 17 [l0, l1, l2, l3, l4] (.int y :: .int x :: st) h Q ↔ jx_Go jxP d 47 18 [l0, l1, l2, l3, l4] (.int (x &&& y) :: st) h Q := jg_b (f := fun x y => x &&& y) rfl
theorem s47_18 : jx_Go jxP d 47 18 [l0, l1, l2, l3, l4] st h Q ↔ jx_Go jxP d 47 19 [l0, l1, l2, l3, l4] (.int (nI 1) :: st) h Q := jg_c rfl
theorem s47_19 : jx_Go jxP d 47 19 [l0, l1, l2, l3, l4] (.int y :: .int x :: st) h Q ↔ if x = y then jx_Go jxP d 47 22 [l0, l1, l2, l3, l4] st h Q else jx_Go jxP d 47 42 [l0, l1, l2, l3, l4] st h Q := jg_icN rfl rfl
theorem s47_22 : jx_Go jxP d 47 22 [.ref a, l1, l2, l3, l4] st h Q ↔ jx_Go jxP d 47 23 [.ref a, l1, l2, l3, l4] (.ref a :: st) h Q := jg_al rfl rfl
theorem s47_23 : jx_Go jxP d 47 23 [l0, l1, l2, l3, l4] (.ref a :: st) h Q ↔ ∃ v, jx_fl h a 7 1 = some v ∧ jx_Go jxP d 47 26 [l0, l1, l2, l3, l4] (v :: st) h Q := jg_gf rfl
theorem s47_26 : jx_Go jxP d 47 26 [l0, .int x, l2, l3, l4] st h Q ↔ jx_Go jxP d 47 27 [l0, .int x, l2, l3, l4] (.int x :: st) h Q := jg_il rfl rfl
theorem s47_27 : jx_Go jxP d 47 27 [l0, l1, l2, l3, .int x] st h Q ↔ jx_Go jxP d 47 29 [l0, l1, l2, l3, .int x] (.int x :: st) h Q := jg_il rfl rfl
theorem s47_29 : jx_Go jxP (d + 1) 47 29 [l0, l1, l2, l3, l4] (.int x1 :: .int x0 :: .ref a :: st) h Q ↔ (st.length ≤ 4 ∧ jx_cl h a = some 4 ∧ jx_Go jxP d 33 0 [.ref a, .int x0, .int x1, jx_u, jx_u] [] h (fun s1 h1 => jx_Go jxP (d + 1) 47 32 [l0, l1, l2, l3, l4] (s1 ++ st) h1 Q)) := jg_callV (as := [.int x1, .int x0, .ref a]) rfl rfl rfl rfl rfl
theorem s47_32 : jx_Go jxP d 47 32 [l0, l1, l2, l3, l4] (.int x :: st) h Q ↔ if x = 0 then jx_Go jxP d 47 35 [l0, l1, l2, l3, l4] st h Q else jx_Go jxP d 47 42 [l0, l1, l2, l3, l4] st h Q := jg_ifN rfl rfl
theorem s47_35 : jx_Go jxP d 47 35 [l0, l1, l2, .int x, l4] st h Q ↔ jx_Go jxP d 47 36 [l0, l1, l2, .int x, l4] (.int x :: st) h Q := jg_il rfl rfl
theorem s47_36 : jx_Go jxP d 47 36 [l0, l1, l2, l3, l4] st h Q ↔ jx_Go jxP d 47 37 [l0, l1, l2, l3, l4] (.int (nI 1) :: st) h Q := jg_c rfl
theorem s47_37 : jx_Go jxP d 47 37 [l0, l1, l2, l3, .int x] st h Q ↔ jx_Go jxP d 47 39 [l0, l1, l2, l3, .int x] (.int x :: st) h Q := jg_il rfl rfl
theorem s47_39 : jx_Go jxP d 47 39 [l0, l1, l2, l3, l4] (.int y :: .int x :: st) h Q ↔ jx_Go jxP d 47 40 [l0, l1, l2, l3, l4] (.int (x <<< (y &&& 31)) :: st) h Q := jg_b (f := fun x y => x <<< (y &&& 31)) rfl
theorem s47_40 : jx_Go jxP d 47 40 [l0, l1, l2, l3, l4] (.int y :: .int x :: st) h Q ↔ jx_Go jxP d 47 41 [l0, l1, l2, l3, l4] (.int (x ||| y) :: st) h Q := jg_b (f := fun x y => x ||| y) rfl
theorem s47_41 : jx_Go jxP d 47 41 [l0, l1, l2, l3, l4] (.int x :: st) h Q ↔ jx_Go jxP d 47 42 [l0, l1, l2, .int x, l4] st h Q := jg_is rfl rfl
theorem s47_42 : jx_Go jxP d 47 42 [l0, l1, l2, l3, .int x] st h Q ↔ jx_Go jxP d 47 45 [l0, l1, l2, l3, .int (x + (nI 1))] st h Q := jg_inc rfl rfl rfl
theorem s47_45 : jx_Go jxP d 47 45 [l0, l1, l2, l3, l4] st h Q ↔ jx_Go jxP d 47 5 [l0, l1, l2, l3, l4] st h Q := jg_go rfl
theorem s47_48 : jx_Go jxP d 47 48 [l0, l1, l2, .int x, l4] st h Q ↔ jx_Go jxP d 47 49 [l0, l1, l2, .int x, l4] (.int x :: st) h Q := jg_il rfl rfl
theorem s47_49 : jx_Go jxP d 47 49 [l0, l1, l2, l3, l4] [.int x] h Q ↔ Q [.int x] h := jx_rt rfl rfl
-- 48 TalkBench$Searches.choose
theorem s48_0 : jx_Go jxP d 48 0 [l0, l1, l2, .int x, l4, l5, l6, l7] st h Q ↔ jx_Go jxP d 48 1 [l0, l1, l2, .int x, l4, l5, l6, l7] (.int x :: st) h Q := jg_il rfl rfl
theorem s48_1 : jx_Go jxP (d + 1) 48 1 [l0, l1, l2, l3, l4, l5, l6, l7] (.int x0 :: st) h Q ↔ (st.length ≤ 4 ∧ jx_Go jxP d 197 0 [.int x0] [] h (fun s1 h1 => jx_Go jxP (d + 1) 48 4 [l0, l1, l2, l3, l4, l5, l6, l7] (s1 ++ st) h1 Q)) := jg_callS (as := [.int x0]) rfl rfl rfl rfl
theorem s48_4 : jx_Go jxP d 48 4 [l0, l1, l2, l3, l4, l5, l6, l7] (.int x :: st) h Q ↔ jx_Go jxP d 48 6 [l0, l1, l2, l3, .int x, l5, l6, l7] st h Q := jg_is rfl rfl
theorem s48_6 : jx_Go jxP d 48 6 [.ref a, l1, l2, l3, l4, l5, l6, l7] st h Q ↔ jx_Go jxP d 48 7 [.ref a, l1, l2, l3, l4, l5, l6, l7] (.ref a :: st) h Q := jg_al rfl rfl
theorem s48_7 : jx_Go jxP d 48 7 [l0, l1, l2, l3, l4, l5, l6, l7] (.ref a :: st) h Q ↔ ∃ v, jx_fl h a 7 5 = some v ∧ jx_Go jxP d 48 10 [l0, l1, l2, l3, l4, l5, l6, l7] (v :: st) h Q := jg_gf rfl
theorem s48_10 : jx_Go jxP (d + 1) 48 10 [l0, l1, l2, l3, l4, l5, l6, l7] (.int x0 :: st) h Q ↔ (st.length ≤ 4 ∧ jx_Go jxP d 197 0 [.int x0] [] h (fun s1 h1 => jx_Go jxP (d + 1) 48 13 [l0, l1, l2, l3, l4, l5, l6, l7] (s1 ++ st) h1 Q)) := jg_callS (as := [.int x0]) rfl rfl rfl rfl
theorem s48_13 : jx_Go jxP d 48 13 [l0, l1, l2, l3, l4, l5, l6, l7] (.int x :: st) h Q ↔ jx_Go jxP d 48 15 [l0, l1, l2, l3, l4, .int x, l6, l7] st h Q := jg_is rfl rfl
theorem s48_15 : jx_Go jxP d 48 15 [l0, l1, l2, l3, .int x, l5, l6, l7] st h Q ↔ jx_Go jxP d 48 17 [l0, l1, l2, l3, .int x, l5, l6, l7] (.int x :: st) h Q := jg_il rfl rfl
theorem s48_17 : jx_Go jxP d 48 17 [l0, l1, l2, l3, l4, .int x, l6, l7] st h Q ↔ jx_Go jxP d 48 19 [l0, l1, l2, l3, l4, .int x, l6, l7] (.int x :: st) h Q := jg_il rfl rfl
theorem s48_19 : jx_Go jxP d 48 19 [l0, l1, l2, l3, l4, l5, l6, l7] (.int y :: .int x :: st) h Q ↔ if x ≤ y then jx_Go jxP d 48 31 [l0, l1, l2, l3, l4, l5, l6, l7] st h Q else jx_Go jxP d 48 22 [l0, l1, l2, l3, l4, l5, l6, l7] st h Q := jg_icP rfl rfl
theorem s48_22 : jx_Go jxP d 48 22 [.ref a, l1, l2, l3, l4, l5, l6, l7] st h Q ↔ jx_Go jxP d 48 23 [.ref a, l1, l2, l3, l4, l5, l6, l7] (.ref a :: st) h Q := jg_al rfl rfl
theorem s48_23 : jx_Go jxP d 48 23 [l0, l1, l2, .int x, l4, l5, l6, l7] st h Q ↔ jx_Go jxP d 48 24 [l0, l1, l2, .int x, l4, l5, l6, l7] (.int x :: st) h Q := jg_il rfl rfl
theorem s48_24 : jx_Go jxP d 48 24 [l0, l1, l2, l3, l4, l5, l6, l7] (.int x :: .ref a :: st) h Q ↔ ∃ v, jx_fl h a 7 5 = some v ∧ jx_Go jxP d 48 27 [l0, l1, l2, l3, l4, l5, l6, l7] st (jx_uf h a 5 (.int x)) Q := jg_pfI rfl
theorem s48_27 : jx_Go jxP d 48 27 [l0, l1, l2, l3, .int x, l5, l6, l7] st h Q ↔ jx_Go jxP d 48 29 [l0, l1, l2, l3, .int x, l5, l6, l7] (.int x :: st) h Q := jg_il rfl rfl
theorem s48_29 : jx_Go jxP d 48 29 [l0, l1, l2, l3, l4, l5, l6, l7] (.int x :: st) h Q ↔ jx_Go jxP d 48 31 [l0, l1, l2, l3, l4, .int x, l6, l7] st h Q := jg_is rfl rfl
theorem s48_31 : jx_Go jxP d 48 31 [l0, .int x, l2, l3, l4, l5, l6, l7] st h Q ↔ jx_Go jxP d 48 32 [l0, .int x, l2, l3, l4, l5, l6, l7] (.int x :: st) h Q := jg_il rfl rfl
theorem s48_32 : jx_Go jxP d 48 32 [.ref a, l1, l2, l3, l4, l5, l6, l7] st h Q ↔ jx_Go jxP d 48 33 [.ref a, l1, l2, l3, l4, l5, l6, l7] (.ref a :: st) h Q := jg_al rfl rfl
theorem s48_33 : jx_Go jxP d 48 33 [l0, l1, l2, l3, l4, l5, l6, l7] (.ref a :: st) h Q ↔ ∃ v, jx_fl h a 7 0 = some v ∧ jx_Go jxP d 48 36 [l0, l1, l2, l3, l4, l5, l6, l7] (v :: st) h Q := jg_gf rfl
theorem s48_36 : jx_Go jxP d 48 36 [l0, l1, l2, l3, l4, l5, l6, l7] (.ref a :: st) h Q ↔ ∃ v, jx_fl h a 10 0 = some v ∧ jx_Go jxP d 48 39 [l0, l1, l2, l3, l4, l5, l6, l7] (v :: st) h Q := jg_gf rfl
theorem s48_39 : jx_Go jxP d 48 39 [l0, l1, l2, l3, l4, l5, l6, l7] (.int y :: .int x :: st) h Q ↔ if y ≤ x then jx_Go jxP d 48 59 [l0, l1, l2, l3, l4, l5, l6, l7] st h Q else jx_Go jxP d 48 42 [l0, l1, l2, l3, l4, l5, l6, l7] st h Q := jg_icP rfl rfl
theorem s48_42 : jx_Go jxP d 48 42 [l0, l1, l2, l3, .int x, l5, l6, l7] st h Q ↔ jx_Go jxP d 48 44 [l0, l1, l2, l3, .int x, l5, l6, l7] (.int x :: st) h Q := jg_il rfl rfl
theorem s48_44 : jx_Go jxP d 48 44 [.ref a, l1, l2, l3, l4, l5, l6, l7] st h Q ↔ jx_Go jxP d 48 45 [.ref a, l1, l2, l3, l4, l5, l6, l7] (.ref a :: st) h Q := jg_al rfl rfl
theorem s48_45 : jx_Go jxP d 48 45 [l0, l1, l2, l3, l4, l5, l6, l7] (.ref a :: st) h Q ↔ ∃ v, jx_fl h a 7 0 = some v ∧ jx_Go jxP d 48 48 [l0, l1, l2, l3, l4, l5, l6, l7] (v :: st) h Q := jg_gf rfl
theorem s48_48 : jx_Go jxP d 48 48 [l0, l1, l2, l3, l4, l5, l6, l7] (.ref a :: st) h Q ↔ ∃ v, jx_fl h a 10 0 = some v ∧ jx_Go jxP d 48 51 [l0, l1, l2, l3, l4, l5, l6, l7] (v :: st) h Q := jg_gf rfl
theorem s48_51 : jx_Go jxP d 48 51 [l0, l1, l2, l3, l4, l5, l6, l7] (.int y :: .int x :: st) h Q ↔ jx_Go jxP d 48 52 [l0, l1, l2, l3, l4, l5, l6, l7] (.int (x + y) :: st) h Q := jg_b (f := fun x y => x + y) rfl
theorem s48_52 : jx_Go jxP d 48 52 [l0, .int x, l2, l3, l4, l5, l6, l7] st h Q ↔ jx_Go jxP d 48 53 [l0, .int x, l2, l3, l4, l5, l6, l7] (.int x :: st) h Q := jg_il rfl rfl
theorem s48_53 : jx_Go jxP d 48 53 [l0, l1, l2, l3, l4, l5, l6, l7] (.int y :: .int x :: st) h Q ↔ jx_Go jxP d 48 54 [l0, l1, l2, l3, l4, l5, l6, l7] (.int (x - y) :: st) h Q := jg_b (f := fun x y => x - y) rfl
theorem s48_54 : jx_Go jxP d 48 54 [l0, l1, l2, l3, l4, .int x, l6, l7] st h Q ↔ jx_Go jxP d 48 56 [l0, l1, l2, l3, l4, .int x, l6, l7] (.int x :: st) h Q := jg_il rfl rfl
theorem s48_56 : jx_Go jxP d 48 56 [l0, l1, l2, l3, l4, l5, l6, l7] (.int y :: .int x :: st) h Q ↔ if y < x then jx_Go jxP d 48 60 [l0, l1, l2, l3, l4, l5, l6, l7] st h Q else jx_Go jxP d 48 59 [l0, l1, l2, l3, l4, l5, l6, l7] st h Q := jg_icP rfl rfl
theorem s48_59 : jx_Go jxP d 48 59 [l0, l1, l2, l3, l4, l5, l6, l7] [] h Q ↔ Q [] h := jx_rt rfl rfl
theorem s48_60 : jx_Go jxP d 48 60 [l0, l1, l2, l3, l4, l5, l6, l7] st h Q ↔ jx_Go jxP d 48 61 [l0, l1, l2, l3, l4, l5, l6, l7] (.int (nI 0) :: st) h Q := jg_c rfl
theorem s48_61 : jx_Go jxP d 48 61 [l0, l1, l2, l3, l4, l5, l6, l7] (.int x :: st) h Q ↔ jx_Go jxP d 48 63 [l0, l1, l2, l3, l4, l5, .int x, l7] st h Q := jg_is rfl rfl
theorem s48_63 : jx_Go jxP d 48 63 [l0, l1, l2, l3, l4, l5, .int x, l7] st h Q ↔ jx_Go jxP d 48 65 [l0, l1, l2, l3, l4, l5, .int x, l7] (.int x :: st) h Q := jg_il rfl rfl
theorem s48_65 : jx_Go jxP d 48 65 [.ref a, l1, l2, l3, l4, l5, l6, l7] st h Q ↔ jx_Go jxP d 48 66 [.ref a, l1, l2, l3, l4, l5, l6, l7] (.ref a :: st) h Q := jg_al rfl rfl
theorem s48_66 : jx_Go jxP d 48 66 [l0, l1, l2, l3, l4, l5, l6, l7] (.ref a :: st) h Q ↔ ∃ v, jx_fl h a 7 0 = some v ∧ jx_Go jxP d 48 69 [l0, l1, l2, l3, l4, l5, l6, l7] (v :: st) h Q := jg_gf rfl
theorem s48_69 : jx_Go jxP d 48 69 [l0, l1, l2, l3, l4, l5, l6, l7] (.ref a :: st) h Q ↔ ∃ v, jx_fl h a 10 1 = some v ∧ jx_Go jxP d 48 72 [l0, l1, l2, l3, l4, l5, l6, l7] (v :: st) h Q := jg_gf rfl
theorem s48_72 : jx_Go jxP d 48 72 [l0, l1, l2, l3, l4, l5, l6, l7] (.int y :: .int x :: st) h Q ↔ if y ≤ x then jx_Go jxP d 48 121 [l0, l1, l2, l3, l4, l5, l6, l7] st h Q else jx_Go jxP d 48 75 [l0, l1, l2, l3, l4, l5, l6, l7] st h Q := jg_icP rfl rfl
theorem s48_75 : jx_Go jxP d 48 75 [l0, l1, l2, l3, l4, l5, l6, l7] st h Q ↔ jx_Go jxP d 48 76 [l0, l1, l2, l3, l4, l5, l6, l7] (.int (nI 5) :: st) h Q := jg_c rfl
theorem s48_76 : jx_Go jxP d 48 76 [l0, .int x, l2, l3, l4, l5, l6, l7] st h Q ↔ jx_Go jxP d 48 77 [l0, .int x, l2, l3, l4, l5, l6, l7] (.int x :: st) h Q := jg_il rfl rfl
theorem s48_77 : jx_Go jxP d 48 77 [l0, l1, l2, l3, l4, l5, l6, l7] (.int y :: .int x :: st) h Q ↔ jx_Go jxP d 48 78 [l0, l1, l2, l3, l4, l5, l6, l7] (.int (x * y) :: st) h Q := jg_b (f := fun x y => x * y) rfl
theorem s48_78 : jx_Go jxP d 48 78 [l0, l1, l2, l3, l4, l5, .int x, l7] st h Q ↔ jx_Go jxP d 48 80 [l0, l1, l2, l3, l4, l5, .int x, l7] (.int x :: st) h Q := jg_il rfl rfl
theorem s48_80 : jx_Go jxP d 48 80 [l0, l1, l2, l3, l4, l5, l6, l7] (.int y :: .int x :: st) h Q ↔ jx_Go jxP d 48 81 [l0, l1, l2, l3, l4, l5, l6, l7] (.int (x + y) :: st) h Q := jg_b (f := fun x y => x + y) rfl
theorem s48_81 : jx_Go jxP d 48 81 [l0, l1, l2, l3, l4, l5, l6, l7] (.int x :: st) h Q ↔ jx_Go jxP d 48 83 [l0, l1, l2, l3, l4, l5, l6, .int x] st h Q := jg_is rfl rfl
theorem s48_83 : jx_Go jxP d 48 83 [l0, l1, .int x, l3, l4, l5, l6, l7] st h Q ↔ jx_Go jxP d 48 84 [l0, l1, .int x, l3, l4, l5, l6, l7] (.int x :: st) h Q := jg_il rfl rfl
theorem s48_84 : jx_Go jxP d 48 84 [l0, l1, l2, l3, l4, l5, l6, .int x] st h Q ↔ jx_Go jxP d 48 86 [l0, l1, l2, l3, l4, l5, l6, .int x] (.int x :: st) h Q := jg_il rfl rfl
theorem s48_86 : jx_Go jxP d 48 86 [l0, l1, l2, l3, l4, l5, l6, l7] (.int y :: .int x :: st) h Q ↔ jx_Go jxP d 48 87 [l0, l1, l2, l3, l4, l5, l6, l7] (.int (x >>> (y &&& 31)) :: st) h Q := jg_b (f := fun x y => x >>> (y &&& 31)) rfl
theorem s48_87 : jx_Go jxP d 48 87 [l0, l1, l2, l3, l4, l5, l6, l7] st h Q ↔ jx_Go jxP d 48 88 [l0, l1, l2, l3, l4, l5, l6, l7] (.int (nI 1) :: st) h Q := jg_c rfl
theorem s48_88 : jx_Go jxP d 48 88 [l0, l1, l2, l3, l4, l5, l6, l7] (.int y :: .int x :: st) h Q ↔ jx_Go jxP d 48 89 [l0, l1, l2, l3, l4, l5, l6, l7] (.int (x &&& y) :: st) h Q := jg_b (f := fun x y => x &&& y) rfl
theorem s48_89 : jx_Go jxP d 48 89 [l0, l1, l2, l3, l4, l5, l6, l7] st h Q ↔ jx_Go jxP d 48 90 [l0, l1, l2, l3, l4, l5, l6, l7] (.int (nI 1) :: st) h Q := jg_c rfl
theorem s48_90 : jx_Go jxP d 48 90 [l0, l1, l2, l3, l4, l5, l6, l7] (.int y :: .int x :: st) h Q ↔ if x = y then jx_Go jxP d 48 93 [l0, l1, l2, l3, l4, l5, l6, l7] st h Q else jx_Go jxP d 48 115 [l0, l1, l2, l3, l4, l5, l6, l7] st h Q := jg_icN rfl rfl
theorem s48_93 : jx_Go jxP d 48 93 [.ref a, l1, l2, l3, l4, l5, l6, l7] st h Q ↔ jx_Go jxP d 48 94 [.ref a, l1, l2, l3, l4, l5, l6, l7] (.ref a :: st) h Q := jg_al rfl rfl
theorem s48_94 : jx_Go jxP d 48 94 [l0, .int x, l2, l3, l4, l5, l6, l7] st h Q ↔ jx_Go jxP d 48 95 [l0, .int x, l2, l3, l4, l5, l6, l7] (.int x :: st) h Q := jg_il rfl rfl
theorem s48_95 : jx_Go jxP d 48 95 [l0, l1, l2, l3, l4, l5, l6, l7] st h Q ↔ jx_Go jxP d 48 96 [l0, l1, l2, l3, l4, l5, l6, l7] (.int (nI 1) :: st) h Q := jg_c rfl
theorem s48_96 : jx_Go jxP d 48 96 [l0, l1, l2, l3, l4, l5, l6, l7] (.int y :: .int x :: st) h Q ↔ jx_Go jxP d 48 97 [l0, l1, l2, l3, l4, l5, l6, l7] (.int (x + y) :: st) h Q := jg_b (f := fun x y => x + y) rfl
theorem s48_97 : jx_Go jxP d 48 97 [l0, l1, .int x, l3, l4, l5, l6, l7] st h Q ↔ jx_Go jxP d 48 98 [l0, l1, .int x, l3, l4, l5, l6, l7] (.int x :: st) h Q := jg_il rfl rfl
theorem s48_98 : jx_Go jxP d 48 98 [.ref a, l1, l2, l3, l4, l5, l6, l7] st h Q ↔ jx_Go jxP d 48 99 [.ref a, l1, l2, l3, l4, l5, l6, l7] (.ref a :: st) h Q := jg_al rfl rfl
theorem s48_99 : jx_Go jxP d 48 99 [l0, l1, l2, l3, l4, l5, l6, l7] (.ref a :: st) h Q ↔ ∃ v, jx_fl h a 7 2 = some v ∧ jx_Go jxP d 48 102 [l0, l1, l2, l3, l4, l5, l6, l7] (v :: st) h Q := jg_gf rfl
theorem s48_102 : jx_Go jxP d 48 102 [l0, l1, l2, l3, l4, l5, l6, .int x] st h Q ↔ jx_Go jxP d 48 104 [l0, l1, l2, l3, l4, l5, l6, .int x] (.int x :: st) h Q := jg_il rfl rfl
theorem s48_104 : jx_Go jxP d 48 104 [l0, l1, l2, l3, l4, l5, l6, l7] (.int x :: .ref a :: st) h Q ↔ ∃ q, jx_ai h a = some q ∧ jx_in x q.1 ∧ jx_Go jxP d 48 105 [l0, l1, l2, l3, l4, l5, l6, l7] (.int (q.2 x.toNatClampNeg) :: st) h Q := jg_ia rfl
theorem s48_105 : jx_Go jxP d 48 105 [l0, l1, l2, l3, l4, l5, l6, l7] (.int y :: .int x :: st) h Q ↔ jx_Go jxP d 48 106 [l0, l1, l2, l3, l4, l5, l6, l7] (.int (x &&& y) :: st) h Q := jg_b (f := fun x y => x &&& y) rfl
theorem s48_106 : jx_Go jxP d 48 106 [l0, l1, l2, .int x, l4, l5, l6, l7] st h Q ↔ jx_Go jxP d 48 107 [l0, l1, l2, .int x, l4, l5, l6, l7] (.int x :: st) h Q := jg_il rfl rfl
theorem s48_107 : jx_Go jxP d 48 107 [l0, l1, l2, l3, l4, l5, l6, l7] st h Q ↔ jx_Go jxP d 48 108 [l0, l1, l2, l3, l4, l5, l6, l7] (.int (nI 1) :: st) h Q := jg_c rfl
theorem s48_108 : jx_Go jxP d 48 108 [l0, l1, l2, l3, l4, l5, l6, .int x] st h Q ↔ jx_Go jxP d 48 110 [l0, l1, l2, l3, l4, l5, l6, .int x] (.int x :: st) h Q := jg_il rfl rfl
theorem s48_110 : jx_Go jxP d 48 110 [l0, l1, l2, l3, l4, l5, l6, l7] (.int y :: .int x :: st) h Q ↔ jx_Go jxP d 48 111 [l0, l1, l2, l3, l4, l5, l6, l7] (.int (x <<< (y &&& 31)) :: st) h Q := jg_b (f := fun x y => x <<< (y &&& 31)) rfl
theorem s48_111 : jx_Go jxP d 48 111 [l0, l1, l2, l3, l4, l5, l6, l7] (.int y :: .int x :: st) h Q ↔ jx_Go jxP d 48 112 [l0, l1, l2, l3, l4, l5, l6, l7] (.int (x ||| y) :: st) h Q := jg_b (f := fun x y => x ||| y) rfl
theorem s48_112 : jx_Go jxP (d + 1) 48 112 [l0, l1, l2, l3, l4, l5, l6, l7] (.int x2 :: .int x1 :: .int x0 :: .ref a :: st) h Q ↔ (st.length ≤ 4 ∧ jx_cl h a = some 7 ∧ jx_Go jxP d 48 0 [.ref a, .int x0, .int x1, .int x2, jx_u, jx_u, jx_u, jx_u] [] h (fun s1 h1 => jx_Go jxP (d + 1) 48 115 [l0, l1, l2, l3, l4, l5, l6, l7] (s1 ++ st) h1 Q)) := jg_callV (as := [.int x2, .int x1, .int x0, .ref a]) rfl rfl rfl rfl rfl
theorem s48_115 : jx_Go jxP d 48 115 [l0, l1, l2, l3, l4, l5, .int x, l7] st h Q ↔ jx_Go jxP d 48 118 [l0, l1, l2, l3, l4, l5, .int (x + (nI 1)), l7] st h Q := jg_inc rfl rfl rfl
theorem s48_118 : jx_Go jxP d 48 118 [l0, l1, l2, l3, l4, l5, l6, l7] st h Q ↔ jx_Go jxP d 48 63 [l0, l1, l2, l3, l4, l5, l6, l7] st h Q := jg_go rfl
theorem s48_121 : jx_Go jxP d 48 121 [.ref a, l1, l2, l3, l4, l5, l6, l7] st h Q ↔ jx_Go jxP d 48 122 [.ref a, l1, l2, l3, l4, l5, l6, l7] (.ref a :: st) h Q := jg_al rfl rfl
theorem s48_122 : jx_Go jxP d 48 122 [l0, .int x, l2, l3, l4, l5, l6, l7] st h Q ↔ jx_Go jxP d 48 123 [l0, .int x, l2, l3, l4, l5, l6, l7] (.int x :: st) h Q := jg_il rfl rfl
theorem s48_123 : jx_Go jxP d 48 123 [l0, l1, l2, l3, l4, l5, l6, l7] st h Q ↔ jx_Go jxP d 48 124 [l0, l1, l2, l3, l4, l5, l6, l7] (.int (nI 1) :: st) h Q := jg_c rfl
theorem s48_124 : jx_Go jxP d 48 124 [l0, l1, l2, l3, l4, l5, l6, l7] (.int y :: .int x :: st) h Q ↔ jx_Go jxP d 48 125 [l0, l1, l2, l3, l4, l5, l6, l7] (.int (x + y) :: st) h Q := jg_b (f := fun x y => x + y) rfl
theorem s48_125 : jx_Go jxP d 48 125 [l0, l1, .int x, l3, l4, l5, l6, l7] st h Q ↔ jx_Go jxP d 48 126 [l0, l1, .int x, l3, l4, l5, l6, l7] (.int x :: st) h Q := jg_il rfl rfl
theorem s48_126 : jx_Go jxP d 48 126 [l0, l1, l2, .int x, l4, l5, l6, l7] st h Q ↔ jx_Go jxP d 48 127 [l0, l1, l2, .int x, l4, l5, l6, l7] (.int x :: st) h Q := jg_il rfl rfl
theorem s48_127 : jx_Go jxP (d + 1) 48 127 [l0, l1, l2, l3, l4, l5, l6, l7] (.int x2 :: .int x1 :: .int x0 :: .ref a :: st) h Q ↔ (st.length ≤ 4 ∧ jx_cl h a = some 7 ∧ jx_Go jxP d 48 0 [.ref a, .int x0, .int x1, .int x2, jx_u, jx_u, jx_u, jx_u] [] h (fun s1 h1 => jx_Go jxP (d + 1) 48 130 [l0, l1, l2, l3, l4, l5, l6, l7] (s1 ++ st) h1 Q)) := jg_callV (as := [.int x2, .int x1, .int x0, .ref a]) rfl rfl rfl rfl rfl
theorem s48_130 : jx_Go jxP d 48 130 [l0, l1, l2, l3, l4, l5, l6, l7] [] h Q ↔ Q [] h := jx_rt rfl rfl
-- 49 TalkBench$Searches.fewestToCover
theorem s49_0 : jx_Go jxP d 49 0 [.ref a, l1] st h Q ↔ jx_Go jxP d 49 1 [.ref a, l1] (.ref a :: st) h Q := jg_al rfl rfl
theorem s49_1 : jx_Go jxP d 49 1 [l0, .int x] st h Q ↔ jx_Go jxP d 49 2 [l0, .int x] (.int x :: st) h Q := jg_il rfl rfl
theorem s49_2 : jx_Go jxP (d + 1) 49 2 [l0, l1] (.int x0 :: .ref a :: st) h Q ↔ (st.length ≤ 4 ∧ jx_cl h a = some 7 ∧ jx_Go jxP d 51 0 [.ref a, .int x0, jx_u, jx_u] [] h (fun s1 h1 => jx_Go jxP (d + 1) 49 5 [l0, l1] (s1 ++ st) h1 Q)) := jg_callV (as := [.int x0, .ref a]) rfl rfl rfl rfl rfl
theorem s49_5 : jx_Go jxP d 49 5 [.ref a, l1] st h Q ↔ jx_Go jxP d 49 6 [.ref a, l1] (.ref a :: st) h Q := jg_al rfl rfl
theorem s49_6 : jx_Go jxP d 49 6 [.ref a, l1] st h Q ↔ jx_Go jxP d 49 7 [.ref a, l1] (.ref a :: st) h Q := jg_al rfl rfl
theorem s49_7 : jx_Go jxP d 49 7 [l0, .int x] st h Q ↔ jx_Go jxP d 49 8 [l0, .int x] (.int x :: st) h Q := jg_il rfl rfl
theorem s49_8 : jx_Go jxP (d + 1) 49 8 [l0, l1] (.int x0 :: .ref a :: st) h Q ↔ (st.length ≤ 4 ∧ jx_cl h a = some 7 ∧ jx_Go jxP d 45 0 [.ref a, .int x0, jx_u, jx_u] [] h (fun s1 h1 => jx_Go jxP (d + 1) 49 11 [l0, l1] (s1 ++ st) h1 Q)) := jg_callV (as := [.int x0, .ref a]) rfl rfl rfl rfl rfl
theorem s49_11 : jx_Go jxP d 49 11 [l0, l1] (.int x :: .ref a :: st) h Q ↔ ∃ v, jx_fl h a 7 6 = some v ∧ jx_Go jxP d 49 14 [l0, l1] st (jx_uf h a 6 (.int x)) Q := jg_pfI rfl
theorem s49_14 : jx_Go jxP d 49 14 [.ref a, l1] st h Q ↔ jx_Go jxP d 49 15 [.ref a, l1] (.ref a :: st) h Q := jg_al rfl rfl
theorem s49_15 : jx_Go jxP d 49 15 [.ref a, l1] st h Q ↔ jx_Go jxP d 49 16 [.ref a, l1] (.ref a :: st) h Q := jg_al rfl rfl
theorem s49_16 : jx_Go jxP d 49 16 [l0, .int x] st h Q ↔ jx_Go jxP d 49 17 [l0, .int x] (.int x :: st) h Q := jg_il rfl rfl
theorem s49_17 : jx_Go jxP (d + 1) 49 17 [l0, l1] (.int x0 :: .ref a :: st) h Q ↔ (st.length ≤ 4 ∧ jx_cl h a = some 7 ∧ jx_Go jxP d 50 0 [.ref a, .int x0, jx_u, jx_u] [] h (fun s1 h1 => jx_Go jxP (d + 1) 49 20 [l0, l1] (s1 ++ st) h1 Q)) := jg_callV (as := [.int x0, .ref a]) rfl rfl rfl rfl rfl
theorem s49_20 : jx_Go jxP d 49 20 [l0, l1] (.int x :: .ref a :: st) h Q ↔ ∃ v, jx_fl h a 7 7 = some v ∧ jx_Go jxP d 49 23 [l0, l1] st (jx_uf h a 7 (.int x)) Q := jg_pfI rfl
theorem s49_23 : jx_Go jxP d 49 23 [.ref a, l1] st h Q ↔ jx_Go jxP d 49 24 [.ref a, l1] (.ref a :: st) h Q := jg_al rfl rfl
theorem s49_24 : jx_Go jxP d 49 24 [.ref a, l1] st h Q ↔ jx_Go jxP d 49 25 [.ref a, l1] (.ref a :: st) h Q := jg_al rfl rfl
theorem s49_25 : jx_Go jxP d 49 25 [l0, .int x] st h Q ↔ jx_Go jxP d 49 26 [l0, .int x] (.int x :: st) h Q := jg_il rfl rfl
theorem s49_26 : jx_Go jxP (d + 1) 49 26 [l0, l1] (.int x0 :: .ref a :: st) h Q ↔ (st.length ≤ 4 ∧ jx_cl h a = some 7 ∧ jx_Go jxP d 46 0 [.ref a, .int x0, jx_u, jx_u] [] h (fun s1 h1 => jx_Go jxP (d + 1) 49 29 [l0, l1] (s1 ++ st) h1 Q)) := jg_callV (as := [.int x0, .ref a]) rfl rfl rfl rfl rfl
theorem s49_29 : jx_Go jxP d 49 29 [l0, l1] st h Q ↔ jx_Go jxP d 49 30 [l0, l1] (.int (nI 0) :: st) h Q := jg_c rfl
theorem s49_30 : jx_Go jxP (d + 1) 49 30 [l0, l1] (.int x1 :: .int x0 :: .ref a :: st) h Q ↔ (st.length ≤ 4 ∧ jx_cl h a = some 7 ∧ jx_Go jxP d 53 0 [.ref a, .int x0, .int x1, jx_u, jx_u] [] h (fun s1 h1 => jx_Go jxP (d + 1) 49 33 [l0, l1] (s1 ++ st) h1 Q)) := jg_callV (as := [.int x1, .int x0, .ref a]) rfl rfl rfl rfl rfl
theorem s49_33 : jx_Go jxP d 49 33 [.ref a, l1] st h Q ↔ jx_Go jxP d 49 34 [.ref a, l1] (.ref a :: st) h Q := jg_al rfl rfl
theorem s49_34 : jx_Go jxP d 49 34 [l0, l1] (.ref a :: st) h Q ↔ ∃ v, jx_fl h a 7 7 = some v ∧ jx_Go jxP d 49 37 [l0, l1] (v :: st) h Q := jg_gf rfl
theorem s49_37 : jx_Go jxP d 49 37 [l0, l1] [.int x] h Q ↔ Q [.int x] h := jx_rt rfl rfl
-- 50 TalkBench$Searches.countRowsWith
theorem s50_0 : jx_Go jxP d 50 0 [l0, l1, l2, l3] st h Q ↔ jx_Go jxP d 50 1 [l0, l1, l2, l3] (.int (nI 0) :: st) h Q := jg_c rfl
theorem s50_1 : jx_Go jxP d 50 1 [l0, l1, l2, l3] (.int x :: st) h Q ↔ jx_Go jxP d 50 2 [l0, l1, .int x, l3] st h Q := jg_is rfl rfl
theorem s50_2 : jx_Go jxP d 50 2 [l0, l1, l2, l3] st h Q ↔ jx_Go jxP d 50 3 [l0, l1, l2, l3] (.int (nI 0) :: st) h Q := jg_c rfl
theorem s50_3 : jx_Go jxP d 50 3 [l0, l1, l2, l3] (.int x :: st) h Q ↔ jx_Go jxP d 50 4 [l0, l1, l2, .int x] st h Q := jg_is rfl rfl
theorem s50_4 : jx_Go jxP d 50 4 [l0, l1, l2, .int x] st h Q ↔ jx_Go jxP d 50 5 [l0, l1, l2, .int x] (.int x :: st) h Q := jg_il rfl rfl
theorem s50_5 : jx_Go jxP d 50 5 [.ref a, l1, l2, l3] st h Q ↔ jx_Go jxP d 50 6 [.ref a, l1, l2, l3] (.ref a :: st) h Q := jg_al rfl rfl
theorem s50_6 : jx_Go jxP d 50 6 [l0, l1, l2, l3] (.ref a :: st) h Q ↔ ∃ v, jx_fl h a 7 0 = some v ∧ jx_Go jxP d 50 9 [l0, l1, l2, l3] (v :: st) h Q := jg_gf rfl
theorem s50_9 : jx_Go jxP d 50 9 [l0, l1, l2, l3] (.ref a :: st) h Q ↔ ∃ v, jx_fl h a 10 0 = some v ∧ jx_Go jxP d 50 12 [l0, l1, l2, l3] (v :: st) h Q := jg_gf rfl
theorem s50_12 : jx_Go jxP d 50 12 [l0, l1, l2, l3] (.int y :: .int x :: st) h Q ↔ if y ≤ x then jx_Go jxP d 50 38 [l0, l1, l2, l3] st h Q else jx_Go jxP d 50 15 [l0, l1, l2, l3] st h Q := jg_icP rfl rfl
theorem s50_15 : jx_Go jxP d 50 15 [.ref a, l1, l2, l3] st h Q ↔ jx_Go jxP d 50 16 [.ref a, l1, l2, l3] (.ref a :: st) h Q := jg_al rfl rfl
theorem s50_16 : jx_Go jxP d 50 16 [l0, l1, l2, l3] (.ref a :: st) h Q ↔ ∃ v, jx_fl h a 7 1 = some v ∧ jx_Go jxP d 50 19 [l0, l1, l2, l3] (v :: st) h Q := jg_gf rfl
theorem s50_19 : jx_Go jxP d 50 19 [l0, .int x, l2, l3] st h Q ↔ jx_Go jxP d 50 20 [l0, .int x, l2, l3] (.int x :: st) h Q := jg_il rfl rfl
theorem s50_20 : jx_Go jxP d 50 20 [l0, l1, l2, l3] st h Q ↔ jx_Go jxP d 50 21 [l0, l1, l2, l3] (.int (nI 1) :: st) h Q := jg_c rfl
theorem s50_21 : jx_Go jxP d 50 21 [l0, l1, l2, .int x] st h Q ↔ jx_Go jxP d 50 22 [l0, l1, l2, .int x] (.int x :: st) h Q := jg_il rfl rfl
theorem s50_22 : jx_Go jxP d 50 22 [l0, l1, l2, l3] (.int y :: .int x :: st) h Q ↔ jx_Go jxP d 50 23 [l0, l1, l2, l3] (.int (x <<< (y &&& 31)) :: st) h Q := jg_b (f := fun x y => x <<< (y &&& 31)) rfl
theorem s50_23 : jx_Go jxP (d + 1) 50 23 [l0, l1, l2, l3] (.int x1 :: .int x0 :: .ref a :: st) h Q ↔ (st.length ≤ 4 ∧ jx_cl h a = some 4 ∧ jx_Go jxP d 32 0 [.ref a, .int x0, .int x1] [] h (fun s1 h1 => jx_Go jxP (d + 1) 50 26 [l0, l1, l2, l3] (s1 ++ st) h1 Q)) := jg_callV (as := [.int x1, .int x0, .ref a]) rfl rfl rfl rfl rfl
theorem s50_26 : jx_Go jxP d 50 26 [l0, l1, l2, l3] (.int x :: st) h Q ↔ if x = 0 then jx_Go jxP d 50 32 [l0, l1, l2, l3] st h Q else jx_Go jxP d 50 29 [l0, l1, l2, l3] st h Q := jg_ifP rfl rfl
theorem s50_29 : jx_Go jxP d 50 29 [l0, l1, .int x, l3] st h Q ↔ jx_Go jxP d 50 32 [l0, l1, .int (x + (nI 1)), l3] st h Q := jg_inc rfl rfl rfl
theorem s50_32 : jx_Go jxP d 50 32 [l0, l1, l2, .int x] st h Q ↔ jx_Go jxP d 50 35 [l0, l1, l2, .int (x + (nI 1))] st h Q := jg_inc rfl rfl rfl
theorem s50_35 : jx_Go jxP d 50 35 [l0, l1, l2, l3] st h Q ↔ jx_Go jxP d 50 4 [l0, l1, l2, l3] st h Q := jg_go rfl
theorem s50_38 : jx_Go jxP d 50 38 [l0, l1, .int x, l3] st h Q ↔ jx_Go jxP d 50 39 [l0, l1, .int x, l3] (.int x :: st) h Q := jg_il rfl rfl
theorem s50_39 : jx_Go jxP d 50 39 [l0, l1, l2, l3] [.int x] h Q ↔ Q [.int x] h := jx_rt rfl rfl
-- 51 TalkBench$Searches.listGreatestBlocks
theorem s51_0 : jx_Go jxP d 51 0 [.ref a, l1, l2, l3] st h Q ↔ jx_Go jxP d 51 1 [.ref a, l1, l2, l3] (.ref a :: st) h Q := jg_al rfl rfl
theorem s51_1 : jx_Go jxP d 51 1 [l0, l1, l2, l3] st h Q ↔ jx_Go jxP d 51 2 [l0, l1, l2, l3] (.int (nI 0) :: st) h Q := jg_c rfl
theorem s51_2 : jx_Go jxP d 51 2 [l0, l1, l2, l3] (.int x :: .ref a :: st) h Q ↔ ∃ v, jx_fl h a 7 4 = some v ∧ jx_Go jxP d 51 5 [l0, l1, l2, l3] st (jx_uf h a 4 (.int x)) Q := jg_pfI rfl
theorem s51_5 : jx_Go jxP d 51 5 [l0, l1, l2, l3] st h Q ↔ jx_Go jxP d 51 6 [l0, l1, l2, l3] (.int (nI 1) :: st) h Q := jg_c rfl
theorem s51_6 : jx_Go jxP d 51 6 [l0, l1, l2, l3] (.int x :: st) h Q ↔ jx_Go jxP d 51 7 [l0, l1, .int x, l3] st h Q := jg_is rfl rfl
theorem s51_7 : jx_Go jxP d 51 7 [l0, l1, .int x, l3] st h Q ↔ jx_Go jxP d 51 8 [l0, l1, .int x, l3] (.int x :: st) h Q := jg_il rfl rfl
theorem s51_8 : jx_Go jxP d 51 8 [.ref a, l1, l2, l3] st h Q ↔ jx_Go jxP d 51 9 [.ref a, l1, l2, l3] (.ref a :: st) h Q := jg_al rfl rfl
theorem s51_9 : jx_Go jxP d 51 9 [l0, l1, l2, l3] (.ref a :: st) h Q ↔ ∃ v, jx_fl h a 7 1 = some v ∧ jx_Go jxP d 51 12 [l0, l1, l2, l3] (v :: st) h Q := jg_gf rfl
theorem s51_12 : jx_Go jxP d 51 12 [l0, l1, l2, l3] (.ref a :: st) h Q ↔ ∃ v, jx_fl h a 4 0 = some v ∧ jx_Go jxP d 51 15 [l0, l1, l2, l3] (v :: st) h Q := jg_gf rfl
theorem s51_15 : jx_Go jxP d 51 15 [l0, l1, l2, l3] (.int y :: .int x :: st) h Q ↔ if y < x then jx_Go jxP d 51 87 [l0, l1, l2, l3] st h Q else jx_Go jxP d 51 18 [l0, l1, l2, l3] st h Q := jg_icP rfl rfl
theorem s51_18 : jx_Go jxP d 51 18 [.ref a, l1, l2, l3] st h Q ↔ jx_Go jxP d 51 19 [.ref a, l1, l2, l3] (.ref a :: st) h Q := jg_al rfl rfl
theorem s51_19 : jx_Go jxP d 51 19 [l0, l1, l2, l3] (.ref a :: st) h Q ↔ ∃ v, jx_fl h a 7 1 = some v ∧ jx_Go jxP d 51 22 [l0, l1, l2, l3] (v :: st) h Q := jg_gf rfl
theorem s51_22 : jx_Go jxP d 51 22 [l0, l1, l2, l3] (.ref a :: st) h Q ↔ ∃ v, jx_fl h a 4 1 = some v ∧ jx_Go jxP d 51 25 [l0, l1, l2, l3] (v :: st) h Q := jg_gf rfl
theorem s51_25 : jx_Go jxP d 51 25 [.ref a, l1, l2, l3] st h Q ↔ jx_Go jxP d 51 26 [.ref a, l1, l2, l3] (.ref a :: st) h Q := jg_al rfl rfl
theorem s51_26 : jx_Go jxP d 51 26 [l0, l1, l2, l3] (.ref a :: st) h Q ↔ ∃ v, jx_fl h a 7 1 = some v ∧ jx_Go jxP d 51 29 [l0, l1, l2, l3] (v :: st) h Q := jg_gf rfl
theorem s51_29 : jx_Go jxP d 51 29 [l0, l1, l2, l3] st h Q ↔ jx_Go jxP d 51 30 [l0, l1, l2, l3] (.int (nI 1) :: st) h Q := jg_c rfl
theorem s51_30 : jx_Go jxP d 51 30 [l0, .int x, l2, l3] st h Q ↔ jx_Go jxP d 51 31 [l0, .int x, l2, l3] (.int x :: st) h Q := jg_il rfl rfl
theorem s51_31 : jx_Go jxP d 51 31 [l0, l1, l2, l3] (.int y :: .int x :: st) h Q ↔ jx_Go jxP d 51 32 [l0, l1, l2, l3] (.int (x - y) :: st) h Q := jg_b (f := fun x y => x - y) rfl
theorem s51_32 : jx_Go jxP d 51 32 [l0, l1, .int x, l3] st h Q ↔ jx_Go jxP d 51 33 [l0, l1, .int x, l3] (.int x :: st) h Q := jg_il rfl rfl
theorem s51_33 : jx_Go jxP (d + 1) 51 33 [l0, l1, l2, l3] (.int x1 :: .int x0 :: .ref a :: st) h Q ↔ (st.length ≤ 4 ∧ jx_cl h a = some 4 ∧ jx_Go jxP d 32 0 [.ref a, .int x0, .int x1] [] h (fun s1 h1 => jx_Go jxP (d + 1) 51 36 [l0, l1, l2, l3] (s1 ++ st) h1 Q)) := jg_callV (as := [.int x1, .int x0, .ref a]) rfl rfl rfl rfl rfl
theorem s51_36 : jx_Go jxP d 51 36 [l0, l1, l2, l3] st h Q ↔ jx_Go jxP d 51 37 [l0, l1, l2, l3] (.int (-1) :: st) h Q := jg_c rfl
theorem s51_37 : jx_Go jxP d 51 37 [l0, l1, l2, l3] (.int y :: .int x :: st) h Q ↔ jx_Go jxP d 51 38 [l0, l1, l2, l3] (.int (x ^^^ y) :: st) h Q := jg_b (f := fun x y => x ^^^ y) rfl
theorem s51_38 : jx_Go jxP d 51 38 [l0, l1, l2, l3] (.int y :: .int x :: st) h Q ↔ jx_Go jxP d 51 39 [l0, l1, l2, l3] (.int (x &&& y) :: st) h Q := jg_b (f := fun x y => x &&& y) rfl
theorem s51_39 : jx_Go jxP d 51 39 [l0, l1, l2, l3] (.int x :: st) h Q ↔ jx_Go jxP d 51 40 [l0, l1, l2, .int x] st h Q := jg_is rfl rfl
theorem s51_40 : jx_Go jxP d 51 40 [l0, l1, l2, .int x] st h Q ↔ jx_Go jxP d 51 41 [l0, l1, l2, .int x] (.int x :: st) h Q := jg_il rfl rfl
theorem s51_41 : jx_Go jxP d 51 41 [l0, l1, l2, l3] (.int x :: st) h Q ↔ if x = 0 then jx_Go jxP d 51 81 [l0, l1, l2, l3] st h Q else jx_Go jxP d 51 44 [l0, l1, l2, l3] st h Q := jg_ifP rfl rfl
theorem s51_44 : jx_Go jxP d 51 44 [l0, l1, .int x, l3] st h Q ↔ jx_Go jxP d 51 45 [l0, l1, .int x, l3] (.int x :: st) h Q := jg_il rfl rfl
theorem s51_45 : jx_Go jxP d 51 45 [.ref a, l1, l2, l3] st h Q ↔ jx_Go jxP d 51 46 [.ref a, l1, l2, l3] (.ref a :: st) h Q := jg_al rfl rfl
theorem s51_46 : jx_Go jxP d 51 46 [l0, l1, l2, l3] st h Q ↔ jx_Go jxP d 51 47 [l0, l1, l2, l3] (.int (nI 1) :: st) h Q := jg_c rfl
theorem s51_47 : jx_Go jxP d 51 47 [l0, .int x, l2, l3] st h Q ↔ jx_Go jxP d 51 48 [l0, .int x, l2, l3] (.int x :: st) h Q := jg_il rfl rfl
theorem s51_48 : jx_Go jxP d 51 48 [l0, l1, l2, l3] (.int y :: .int x :: st) h Q ↔ jx_Go jxP d 51 49 [l0, l1, l2, l3] (.int (x - y) :: st) h Q := jg_b (f := fun x y => x - y) rfl
theorem s51_49 : jx_Go jxP d 51 49 [l0, l1, l2, .int x] st h Q ↔ jx_Go jxP d 51 50 [l0, l1, l2, .int x] (.int x :: st) h Q := jg_il rfl rfl
theorem s51_50 : jx_Go jxP (d + 1) 51 50 [l0, l1, l2, l3] (.int x1 :: .int x0 :: .ref a :: st) h Q ↔ (st.length ≤ 4 ∧ jx_cl h a = some 7 ∧ jx_Go jxP d 52 0 [.ref a, .int x0, .int x1, jx_u, jx_u] [] h (fun s1 h1 => jx_Go jxP (d + 1) 51 53 [l0, l1, l2, l3] (s1 ++ st) h1 Q)) := jg_callV (as := [.int x1, .int x0, .ref a]) rfl rfl rfl rfl rfl
theorem s51_53 : jx_Go jxP d 51 53 [l0, l1, l2, l3] (.int y :: .int x :: st) h Q ↔ if x = y then jx_Go jxP d 51 56 [l0, l1, l2, l3] st h Q else jx_Go jxP d 51 81 [l0, l1, l2, l3] st h Q := jg_icN rfl rfl
theorem s51_56 : jx_Go jxP d 51 56 [.ref a, l1, l2, l3] st h Q ↔ jx_Go jxP d 51 57 [.ref a, l1, l2, l3] (.ref a :: st) h Q := jg_al rfl rfl
theorem s51_57 : jx_Go jxP d 51 57 [l0, l1, l2, l3] (.ref a :: st) h Q ↔ ∃ v, jx_fl h a 7 3 = some v ∧ jx_Go jxP d 51 60 [l0, l1, l2, l3] (v :: st) h Q := jg_gf rfl
theorem s51_60 : jx_Go jxP d 51 60 [.ref a, l1, l2, l3] st h Q ↔ jx_Go jxP d 51 61 [.ref a, l1, l2, l3] (.ref a :: st) h Q := jg_al rfl rfl
theorem s51_61 : jx_Go jxP d 51 61 [l0, l1, l2, l3] (.ref a :: st) h Q ↔ ∃ v, jx_fl h a 7 4 = some v ∧ jx_Go jxP d 51 64 [l0, l1, l2, l3] (v :: st) h Q := jg_gf rfl
theorem s51_64 : jx_Go jxP d 51 64 [.ref a, l1, l2, l3] st h Q ↔ jx_Go jxP d 51 65 [.ref a, l1, l2, l3] (.ref a :: st) h Q := jg_al rfl rfl
theorem s51_65 : jx_Go jxP d 51 65 [l0, l1, .int x, l3] st h Q ↔ jx_Go jxP d 51 66 [l0, l1, .int x, l3] (.int x :: st) h Q := jg_il rfl rfl
theorem s51_66 : jx_Go jxP d 51 66 [l0, l1, l2, .int x] st h Q ↔ jx_Go jxP d 51 67 [l0, l1, l2, .int x] (.int x :: st) h Q := jg_il rfl rfl
theorem s51_67 : jx_Go jxP (d + 1) 51 67 [l0, l1, l2, l3] (.int x1 :: .int x0 :: .ref a :: st) h Q ↔ (st.length ≤ 4 ∧ jx_cl h a = some 7 ∧ jx_Go jxP d 54 0 [.ref a, .int x0, .int x1, jx_u, jx_u] [] h (fun s1 h1 => jx_Go jxP (d + 1) 51 70 [l0, l1, l2, l3] (s1 ++ st) h1 Q)) := jg_callV (as := [.int x1, .int x0, .ref a]) rfl rfl rfl rfl rfl
theorem s51_70 : jx_Go jxP d 51 70 [l0, l1, l2, l3] (.int y :: .int x :: .ref a :: st) h Q ↔ ∃ q, jx_ai h a = some q ∧ jx_in x q.1 ∧ jx_Go jxP d 51 71 [l0, l1, l2, l3] st (jx_wi h a q.1 (upd q.2 x.toNatClampNeg y)) Q := jg_iw rfl
theorem s51_71 : jx_Go jxP d 51 71 [.ref a, l1, l2, l3] st h Q ↔ jx_Go jxP d 51 72 [.ref a, l1, l2, l3] (.ref a :: st) h Q := jg_al rfl rfl
theorem s51_72i : jx_Go jxP d 51 72 [l0, l1, l2, l3] (.int x :: st) h Q ↔ jx_Go jxP d 51 73 [l0, l1, l2, l3] (.int x :: .int x :: st) h Q := jg_dI rfl
theorem s51_72r : jx_Go jxP d 51 72 [l0, l1, l2, l3] (.ref a :: st) h Q ↔ jx_Go jxP d 51 73 [l0, l1, l2, l3] (.ref a :: .ref a :: st) h Q := jg_dR rfl
theorem s51_73 : jx_Go jxP d 51 73 [l0, l1, l2, l3] (.ref a :: st) h Q ↔ ∃ v, jx_fl h a 7 4 = some v ∧ jx_Go jxP d 51 76 [l0, l1, l2, l3] (v :: st) h Q := jg_gf rfl
theorem s51_76 : jx_Go jxP d 51 76 [l0, l1, l2, l3] st h Q ↔ jx_Go jxP d 51 77 [l0, l1, l2, l3] (.int (nI 1) :: st) h Q := jg_c rfl
theorem s51_77 : jx_Go jxP d 51 77 [l0, l1, l2, l3] (.int y :: .int x :: st) h Q ↔ jx_Go jxP d 51 78 [l0, l1, l2, l3] (.int (x + y) :: st) h Q := jg_b (f := fun x y => x + y) rfl
theorem s51_78 : jx_Go jxP d 51 78 [l0, l1, l2, l3] (.int x :: .ref a :: st) h Q ↔ ∃ v, jx_fl h a 7 4 = some v ∧ jx_Go jxP d 51 81 [l0, l1, l2, l3] st (jx_uf h a 4 (.int x)) Q := jg_pfI rfl
theorem s51_81 : jx_Go jxP d 51 81 [l0, l1, .int x, l3] st h Q ↔ jx_Go jxP d 51 84 [l0, l1, .int (x + (nI 1)), l3] st h Q := jg_inc rfl rfl rfl
theorem s51_84 : jx_Go jxP d 51 84 [l0, l1, l2, l3] st h Q ↔ jx_Go jxP d 51 7 [l0, l1, l2, l3] st h Q := jg_go rfl
theorem s51_87 : jx_Go jxP d 51 87 [l0, l1, l2, l3] [] h Q ↔ Q [] h := jx_rt rfl rfl
-- 52 TalkBench$Searches.rowsWithout
theorem s52_0 : jx_Go jxP d 52 0 [l0, l1, l2, l3, l4] st h Q ↔ jx_Go jxP d 52 1 [l0, l1, l2, l3, l4] (.int (nI 0) :: st) h Q := jg_c rfl
theorem s52_1 : jx_Go jxP d 52 1 [l0, l1, l2, l3, l4] (.int x :: st) h Q ↔ jx_Go jxP d 52 2 [l0, l1, l2, .int x, l4] st h Q := jg_is rfl rfl
theorem s52_2 : jx_Go jxP d 52 2 [l0, l1, l2, l3, l4] st h Q ↔ jx_Go jxP d 52 3 [l0, l1, l2, l3, l4] (.int (nI 0) :: st) h Q := jg_c rfl
theorem s52_3 : jx_Go jxP d 52 3 [l0, l1, l2, l3, l4] (.int x :: st) h Q ↔ jx_Go jxP d 52 5 [l0, l1, l2, l3, .int x] st h Q := jg_is rfl rfl
theorem s52_5 : jx_Go jxP d 52 5 [l0, l1, l2, l3, .int x] st h Q ↔ jx_Go jxP d 52 7 [l0, l1, l2, l3, .int x] (.int x :: st) h Q := jg_il rfl rfl
theorem s52_7 : jx_Go jxP d 52 7 [.ref a, l1, l2, l3, l4] st h Q ↔ jx_Go jxP d 52 8 [.ref a, l1, l2, l3, l4] (.ref a :: st) h Q := jg_al rfl rfl
theorem s52_8 : jx_Go jxP d 52 8 [l0, l1, l2, l3, l4] (.ref a :: st) h Q ↔ ∃ v, jx_fl h a 7 0 = some v ∧ jx_Go jxP d 52 11 [l0, l1, l2, l3, l4] (v :: st) h Q := jg_gf rfl
theorem s52_11 : jx_Go jxP d 52 11 [l0, l1, l2, l3, l4] (.ref a :: st) h Q ↔ ∃ v, jx_fl h a 10 0 = some v ∧ jx_Go jxP d 52 14 [l0, l1, l2, l3, l4] (v :: st) h Q := jg_gf rfl
theorem s52_14 : jx_Go jxP d 52 14 [l0, l1, l2, l3, l4] (.int y :: .int x :: st) h Q ↔ if y ≤ x then jx_Go jxP d 52 47 [l0, l1, l2, l3, l4] st h Q else jx_Go jxP d 52 17 [l0, l1, l2, l3, l4] st h Q := jg_icP rfl rfl
theorem s52_17 : jx_Go jxP d 52 17 [.ref a, l1, l2, l3, l4] st h Q ↔ jx_Go jxP d 52 18 [.ref a, l1, l2, l3, l4] (.ref a :: st) h Q := jg_al rfl rfl
theorem s52_18 : jx_Go jxP d 52 18 [l0, l1, l2, l3, l4] (.ref a :: st) h Q ↔ ∃ v, jx_fl h a 7 1 = some v ∧ jx_Go jxP d 52 21 [l0, l1, l2, l3, l4] (v :: st) h Q := jg_gf rfl
theorem s52_21 : jx_Go jxP d 52 21 [l0, .int x, l2, l3, l4] st h Q ↔ jx_Go jxP d 52 22 [l0, .int x, l2, l3, l4] (.int x :: st) h Q := jg_il rfl rfl
theorem s52_22 : jx_Go jxP d 52 22 [l0, l1, l2, l3, l4] st h Q ↔ jx_Go jxP d 52 23 [l0, l1, l2, l3, l4] (.int (nI 1) :: st) h Q := jg_c rfl
theorem s52_23 : jx_Go jxP d 52 23 [l0, l1, l2, l3, .int x] st h Q ↔ jx_Go jxP d 52 25 [l0, l1, l2, l3, .int x] (.int x :: st) h Q := jg_il rfl rfl
theorem s52_25 : jx_Go jxP d 52 25 [l0, l1, l2, l3, l4] (.int y :: .int x :: st) h Q ↔ jx_Go jxP d 52 26 [l0, l1, l2, l3, l4] (.int (x <<< (y &&& 31)) :: st) h Q := jg_b (f := fun x y => x <<< (y &&& 31)) rfl
theorem s52_26 : jx_Go jxP (d + 1) 52 26 [l0, l1, l2, l3, l4] (.int x1 :: .int x0 :: .ref a :: st) h Q ↔ (st.length ≤ 4 ∧ jx_cl h a = some 4 ∧ jx_Go jxP d 32 0 [.ref a, .int x0, .int x1] [] h (fun s1 h1 => jx_Go jxP (d + 1) 52 29 [l0, l1, l2, l3, l4] (s1 ++ st) h1 Q)) := jg_callV (as := [.int x1, .int x0, .ref a]) rfl rfl rfl rfl rfl
theorem s52_29 : jx_Go jxP d 52 29 [l0, l1, .int x, l3, l4] st h Q ↔ jx_Go jxP d 52 30 [l0, l1, .int x, l3, l4] (.int x :: st) h Q := jg_il rfl rfl
theorem s52_30 : jx_Go jxP d 52 30 [l0, l1, l2, l3, l4] (.int y :: .int x :: st) h Q ↔ jx_Go jxP d 52 31 [l0, l1, l2, l3, l4] (.int (x &&& y) :: st) h Q := jg_b (f := fun x y => x &&& y) rfl
theorem s52_31 : jx_Go jxP d 52 31 [l0, l1, l2, l3, l4] (.int x :: st) h Q ↔ if x = 0 then jx_Go jxP d 52 34 [l0, l1, l2, l3, l4] st h Q else jx_Go jxP d 52 41 [l0, l1, l2, l3, l4] st h Q := jg_ifN rfl rfl
theorem s52_34 : jx_Go jxP d 52 34 [l0, l1, l2, .int x, l4] st h Q ↔ jx_Go jxP d 52 35 [l0, l1, l2, .int x, l4] (.int x :: st) h Q := jg_il rfl rfl
theorem s52_35 : jx_Go jxP d 52 35 [l0, l1, l2, l3, l4] st h Q ↔ jx_Go jxP d 52 36 [l0, l1, l2, l3, l4] (.int (nI 1) :: st) h Q := jg_c rfl
theorem s52_36 : jx_Go jxP d 52 36 [l0, l1, l2, l3, .int x] st h Q ↔ jx_Go jxP d 52 38 [l0, l1, l2, l3, .int x] (.int x :: st) h Q := jg_il rfl rfl
theorem s52_38 : jx_Go jxP d 52 38 [l0, l1, l2, l3, l4] (.int y :: .int x :: st) h Q ↔ jx_Go jxP d 52 39 [l0, l1, l2, l3, l4] (.int (x <<< (y &&& 31)) :: st) h Q := jg_b (f := fun x y => x <<< (y &&& 31)) rfl
theorem s52_39 : jx_Go jxP d 52 39 [l0, l1, l2, l3, l4] (.int y :: .int x :: st) h Q ↔ jx_Go jxP d 52 40 [l0, l1, l2, l3, l4] (.int (x ||| y) :: st) h Q := jg_b (f := fun x y => x ||| y) rfl
theorem s52_40 : jx_Go jxP d 52 40 [l0, l1, l2, l3, l4] (.int x :: st) h Q ↔ jx_Go jxP d 52 41 [l0, l1, l2, .int x, l4] st h Q := jg_is rfl rfl
theorem s52_41 : jx_Go jxP d 52 41 [l0, l1, l2, l3, .int x] st h Q ↔ jx_Go jxP d 52 44 [l0, l1, l2, l3, .int (x + (nI 1))] st h Q := jg_inc rfl rfl rfl
theorem s52_44 : jx_Go jxP d 52 44 [l0, l1, l2, l3, l4] st h Q ↔ jx_Go jxP d 52 5 [l0, l1, l2, l3, l4] st h Q := jg_go rfl
theorem s52_47 : jx_Go jxP d 52 47 [l0, l1, l2, .int x, l4] st h Q ↔ jx_Go jxP d 52 48 [l0, l1, l2, .int x, l4] (.int x :: st) h Q := jg_il rfl rfl
theorem s52_48 : jx_Go jxP d 52 48 [l0, l1, l2, l3, l4] [.int x] h Q ↔ Q [.int x] h := jx_rt rfl rfl
-- 53 TalkBench$Searches.coverRest
theorem s53_0 : jx_Go jxP d 53 0 [l0, .int x, l2, l3, l4] st h Q ↔ jx_Go jxP d 53 1 [l0, .int x, l2, l3, l4] (.int x :: st) h Q := jg_il rfl rfl
theorem s53_1 : jx_Go jxP d 53 1 [l0, l1, l2, l3, l4] (.int x :: st) h Q ↔ if x = 0 then jx_Go jxP d 53 4 [l0, l1, l2, l3, l4] st h Q else jx_Go jxP d 53 17 [l0, l1, l2, l3, l4] st h Q := jg_ifN rfl rfl
theorem s53_4 : jx_Go jxP d 53 4 [.ref a, l1, l2, l3, l4] st h Q ↔ jx_Go jxP d 53 5 [.ref a, l1, l2, l3, l4] (.ref a :: st) h Q := jg_al rfl rfl
theorem s53_5 : jx_Go jxP d 53 5 [.ref a, l1, l2, l3, l4] st h Q ↔ jx_Go jxP d 53 6 [.ref a, l1, l2, l3, l4] (.ref a :: st) h Q := jg_al rfl rfl
theorem s53_6 : jx_Go jxP d 53 6 [l0, l1, l2, l3, l4] (.ref a :: st) h Q ↔ ∃ v, jx_fl h a 7 7 = some v ∧ jx_Go jxP d 53 9 [l0, l1, l2, l3, l4] (v :: st) h Q := jg_gf rfl
theorem s53_9 : jx_Go jxP d 53 9 [l0, l1, .int x, l3, l4] st h Q ↔ jx_Go jxP d 53 10 [l0, l1, .int x, l3, l4] (.int x :: st) h Q := jg_il rfl rfl
theorem s53_10 : jx_Go jxP d 53 10 [l0, l1, l2, l3, l4] (.int y :: .int x :: st) h Q ↔ (st.length ≤ 4 ∧ jx_Go jxP d 53 13 [l0, l1, l2, l3, l4] (.int (if y < x then y else x) :: st) h Q) := jg_m2 (f := fun x y => if y < x then y else x) rfl
theorem s53_13 : jx_Go jxP d 53 13 [l0, l1, l2, l3, l4] (.int x :: .ref a :: st) h Q ↔ ∃ v, jx_fl h a 7 7 = some v ∧ jx_Go jxP d 53 16 [l0, l1, l2, l3, l4] st (jx_uf h a 7 (.int x)) Q := jg_pfI rfl
theorem s53_16 : jx_Go jxP d 53 16 [l0, l1, l2, l3, l4] [] h Q ↔ Q [] h := jx_rt rfl rfl
theorem s53_17 : jx_Go jxP d 53 17 [l0, l1, .int x, l3, l4] st h Q ↔ jx_Go jxP d 53 18 [l0, l1, .int x, l3, l4] (.int x :: st) h Q := jg_il rfl rfl
theorem s53_18 : jx_Go jxP d 53 18 [l0, l1, l2, l3, l4] st h Q ↔ jx_Go jxP d 53 19 [l0, l1, l2, l3, l4] (.int (nI 1) :: st) h Q := jg_c rfl
theorem s53_19 : jx_Go jxP d 53 19 [l0, .int x, l2, l3, l4] st h Q ↔ jx_Go jxP d 53 20 [l0, .int x, l2, l3, l4] (.int x :: st) h Q := jg_il rfl rfl
theorem s53_20 : jx_Go jxP d 53 20 [.ref a, l1, l2, l3, l4] st h Q ↔ jx_Go jxP d 53 21 [.ref a, l1, l2, l3, l4] (.ref a :: st) h Q := jg_al rfl rfl
theorem s53_21 : jx_Go jxP d 53 21 [l0, l1, l2, l3, l4] (.ref a :: st) h Q ↔ ∃ v, jx_fl h a 7 6 = some v ∧ jx_Go jxP d 53 24 [l0, l1, l2, l3, l4] (v :: st) h Q := jg_gf rfl
theorem s53_24 : jx_Go jxP d 53 24 [l0, l1, l2, l3, l4] (.int y :: .int x :: st) h Q ↔ jx_Go jxP d 53 25 [l0, l1, l2, l3, l4] (.int (x &&& y) :: st) h Q := jg_b (f := fun x y => x &&& y) rfl
theorem s53_25 : jx_Go jxP (d + 1) 53 25 [l0, l1, l2, l3, l4] (.int x0 :: st) h Q ↔ (st.length ≤ 4 ∧ jx_Go jxP d 197 0 [.int x0] [] h (fun s1 h1 => jx_Go jxP (d + 1) 53 28 [l0, l1, l2, l3, l4] (s1 ++ st) h1 Q)) := jg_callS (as := [.int x0]) rfl rfl rfl rfl
theorem s53_28 : jx_Go jxP d 53 28 [l0, l1, l2, l3, l4] (.int y :: .int x :: st) h Q ↔ (st.length ≤ 4 ∧ jx_Go jxP d 53 31 [l0, l1, l2, l3, l4] (.int (if x < y then y else x) :: st) h Q) := jg_m2 (f := fun x y => if x < y then y else x) rfl
theorem s53_31 : jx_Go jxP d 53 31 [l0, l1, l2, l3, l4] (.int y :: .int x :: st) h Q ↔ jx_Go jxP d 53 32 [l0, l1, l2, l3, l4] (.int (x + y) :: st) h Q := jg_b (f := fun x y => x + y) rfl
theorem s53_32 : jx_Go jxP d 53 32 [.ref a, l1, l2, l3, l4] st h Q ↔ jx_Go jxP d 53 33 [.ref a, l1, l2, l3, l4] (.ref a :: st) h Q := jg_al rfl rfl
theorem s53_33 : jx_Go jxP d 53 33 [l0, l1, l2, l3, l4] (.ref a :: st) h Q ↔ ∃ v, jx_fl h a 7 7 = some v ∧ jx_Go jxP d 53 36 [l0, l1, l2, l3, l4] (v :: st) h Q := jg_gf rfl
theorem s53_36 : jx_Go jxP d 53 36 [l0, l1, l2, l3, l4] (.int y :: .int x :: st) h Q ↔ if x < y then jx_Go jxP d 53 40 [l0, l1, l2, l3, l4] st h Q else jx_Go jxP d 53 39 [l0, l1, l2, l3, l4] st h Q := jg_icP rfl rfl
theorem s53_39 : jx_Go jxP d 53 39 [l0, l1, l2, l3, l4] [] h Q ↔ Q [] h := jx_rt rfl rfl
theorem s53_40 : jx_Go jxP d 53 40 [l0, .int x, l2, l3, l4] st h Q ↔ jx_Go jxP d 53 41 [l0, .int x, l2, l3, l4] (.int x :: st) h Q := jg_il rfl rfl
theorem s53_41 : jx_Go jxP (d + 1) 53 41 [l0, l1, l2, l3, l4] (.int x0 :: st) h Q ↔ (st.length ≤ 4 ∧ jx_Go jxP d 127 0 [.int x0] [] h (fun s1 h1 => jx_Go jxP (d + 1) 53 44 [l0, l1, l2, l3, l4] (s1 ++ st) h1 Q)) := jg_callS (as := [.int x0]) rfl rfl rfl rfl
theorem s53_44 : jx_Go jxP d 53 44 [l0, l1, l2, l3, l4] (.int x :: st) h Q ↔ jx_Go jxP d 53 45 [l0, l1, l2, .int x, l4] st h Q := jg_is rfl rfl
theorem s53_45 : jx_Go jxP d 53 45 [l0, l1, l2, l3, l4] st h Q ↔ jx_Go jxP d 53 46 [l0, l1, l2, l3, l4] (.int (nI 0) :: st) h Q := jg_c rfl
theorem s53_46 : jx_Go jxP d 53 46 [l0, l1, l2, l3, l4] (.int x :: st) h Q ↔ jx_Go jxP d 53 48 [l0, l1, l2, l3, .int x] st h Q := jg_is rfl rfl
theorem s53_48 : jx_Go jxP d 53 48 [l0, l1, l2, l3, .int x] st h Q ↔ jx_Go jxP d 53 50 [l0, l1, l2, l3, .int x] (.int x :: st) h Q := jg_il rfl rfl
theorem s53_50 : jx_Go jxP d 53 50 [.ref a, l1, l2, l3, l4] st h Q ↔ jx_Go jxP d 53 51 [.ref a, l1, l2, l3, l4] (.ref a :: st) h Q := jg_al rfl rfl
theorem s53_51 : jx_Go jxP d 53 51 [l0, l1, l2, l3, l4] (.ref a :: st) h Q ↔ ∃ v, jx_fl h a 7 4 = some v ∧ jx_Go jxP d 53 54 [l0, l1, l2, l3, l4] (v :: st) h Q := jg_gf rfl
theorem s53_54 : jx_Go jxP d 53 54 [l0, l1, l2, l3, l4] (.int y :: .int x :: st) h Q ↔ if y ≤ x then jx_Go jxP d 53 93 [l0, l1, l2, l3, l4] st h Q else jx_Go jxP d 53 57 [l0, l1, l2, l3, l4] st h Q := jg_icP rfl rfl
theorem s53_57 : jx_Go jxP d 53 57 [.ref a, l1, l2, l3, l4] st h Q ↔ jx_Go jxP d 53 58 [.ref a, l1, l2, l3, l4] (.ref a :: st) h Q := jg_al rfl rfl
theorem s53_58 : jx_Go jxP d 53 58 [l0, l1, l2, l3, l4] (.ref a :: st) h Q ↔ ∃ v, jx_fl h a 7 3 = some v ∧ jx_Go jxP d 53 61 [l0, l1, l2, l3, l4] (v :: st) h Q := jg_gf rfl
theorem s53_61 : jx_Go jxP d 53 61 [l0, l1, l2, l3, .int x] st h Q ↔ jx_Go jxP d 53 63 [l0, l1, l2, l3, .int x] (.int x :: st) h Q := jg_il rfl rfl
theorem s53_63 : jx_Go jxP d 53 63 [l0, l1, l2, l3, l4] (.int x :: .ref a :: st) h Q ↔ ∃ q, jx_ai h a = some q ∧ jx_in x q.1 ∧ jx_Go jxP d 53 64 [l0, l1, l2, l3, l4] (.int (q.2 x.toNatClampNeg) :: st) h Q := jg_ia rfl
theorem s53_64 : jx_Go jxP d 53 64 [l0, l1, l2, .int x, l4] st h Q ↔ jx_Go jxP d 53 65 [l0, l1, l2, .int x, l4] (.int x :: st) h Q := jg_il rfl rfl
theorem s53_65 : jx_Go jxP d 53 65 [l0, l1, l2, l3, l4] (.int y :: .int x :: st) h Q ↔ jx_Go jxP d 53 66 [l0, l1, l2, l3, l4] (.int (x &&& y) :: st) h Q := jg_b (f := fun x y => x &&& y) rfl
theorem s53_66 : jx_Go jxP d 53 66 [l0, l1, l2, l3, l4] (.int x :: st) h Q ↔ if x = 0 then jx_Go jxP d 53 87 [l0, l1, l2, l3, l4] st h Q else jx_Go jxP d 53 69 [l0, l1, l2, l3, l4] st h Q := jg_ifP rfl rfl
theorem s53_69 : jx_Go jxP d 53 69 [.ref a, l1, l2, l3, l4] st h Q ↔ jx_Go jxP d 53 70 [.ref a, l1, l2, l3, l4] (.ref a :: st) h Q := jg_al rfl rfl
theorem s53_70 : jx_Go jxP d 53 70 [l0, .int x, l2, l3, l4] st h Q ↔ jx_Go jxP d 53 71 [l0, .int x, l2, l3, l4] (.int x :: st) h Q := jg_il rfl rfl
theorem s53_71 : jx_Go jxP d 53 71 [.ref a, l1, l2, l3, l4] st h Q ↔ jx_Go jxP d 53 72 [.ref a, l1, l2, l3, l4] (.ref a :: st) h Q := jg_al rfl rfl
theorem s53_72 : jx_Go jxP d 53 72 [l0, l1, l2, l3, l4] (.ref a :: st) h Q ↔ ∃ v, jx_fl h a 7 3 = some v ∧ jx_Go jxP d 53 75 [l0, l1, l2, l3, l4] (v :: st) h Q := jg_gf rfl
theorem s53_75 : jx_Go jxP d 53 75 [l0, l1, l2, l3, .int x] st h Q ↔ jx_Go jxP d 53 77 [l0, l1, l2, l3, .int x] (.int x :: st) h Q := jg_il rfl rfl
theorem s53_77 : jx_Go jxP d 53 77 [l0, l1, l2, l3, l4] (.int x :: .ref a :: st) h Q ↔ ∃ q, jx_ai h a = some q ∧ jx_in x q.1 ∧ jx_Go jxP d 53 78 [l0, l1, l2, l3, l4] (.int (q.2 x.toNatClampNeg) :: st) h Q := jg_ia rfl
theorem s53_78 : jx_Go jxP d 53 78 [l0, l1, l2, l3, l4] st h Q ↔ jx_Go jxP d 53 79 [l0, l1, l2, l3, l4] (.int (-1) :: st) h Q := jg_c rfl
theorem s53_79 : jx_Go jxP d 53 79 [l0, l1, l2, l3, l4] (.int y :: .int x :: st) h Q ↔ jx_Go jxP d 53 80 [l0, l1, l2, l3, l4] (.int (x ^^^ y) :: st) h Q := jg_b (f := fun x y => x ^^^ y) rfl
theorem s53_80 : jx_Go jxP d 53 80 [l0, l1, l2, l3, l4] (.int y :: .int x :: st) h Q ↔ jx_Go jxP d 53 81 [l0, l1, l2, l3, l4] (.int (x &&& y) :: st) h Q := jg_b (f := fun x y => x &&& y) rfl
theorem s53_81 : jx_Go jxP d 53 81 [l0, l1, .int x, l3, l4] st h Q ↔ jx_Go jxP d 53 82 [l0, l1, .int x, l3, l4] (.int x :: st) h Q := jg_il rfl rfl
theorem s53_82 : jx_Go jxP d 53 82 [l0, l1, l2, l3, l4] st h Q ↔ jx_Go jxP d 53 83 [l0, l1, l2, l3, l4] (.int (nI 1) :: st) h Q := jg_c rfl
theorem s53_83 : jx_Go jxP d 53 83 [l0, l1, l2, l3, l4] (.int y :: .int x :: st) h Q ↔ jx_Go jxP d 53 84 [l0, l1, l2, l3, l4] (.int (x + y) :: st) h Q := jg_b (f := fun x y => x + y) rfl
theorem s53_84 : jx_Go jxP (d + 1) 53 84 [l0, l1, l2, l3, l4] (.int x1 :: .int x0 :: .ref a :: st) h Q ↔ (st.length ≤ 4 ∧ jx_cl h a = some 7 ∧ jx_Go jxP d 53 0 [.ref a, .int x0, .int x1, jx_u, jx_u] [] h (fun s1 h1 => jx_Go jxP (d + 1) 53 87 [l0, l1, l2, l3, l4] (s1 ++ st) h1 Q)) := jg_callV (as := [.int x1, .int x0, .ref a]) rfl rfl rfl rfl rfl
theorem s53_87 : jx_Go jxP d 53 87 [l0, l1, l2, l3, .int x] st h Q ↔ jx_Go jxP d 53 90 [l0, l1, l2, l3, .int (x + (nI 1))] st h Q := jg_inc rfl rfl rfl
theorem s53_90 : jx_Go jxP d 53 90 [l0, l1, l2, l3, l4] st h Q ↔ jx_Go jxP d 53 48 [l0, l1, l2, l3, l4] st h Q := jg_go rfl
theorem s53_93 : jx_Go jxP d 53 93 [l0, l1, l2, l3, l4] [] h Q ↔ Q [] h := jx_rt rfl rfl
-- 54 TalkBench$Searches.placesOf
theorem s54_0 : jx_Go jxP d 54 0 [l0, l1, l2, l3, l4] st h Q ↔ jx_Go jxP d 54 1 [l0, l1, l2, l3, l4] (.int (nI 0) :: st) h Q := jg_c rfl
theorem s54_1 : jx_Go jxP d 54 1 [l0, l1, l2, l3, l4] (.int x :: st) h Q ↔ jx_Go jxP d 54 2 [l0, l1, l2, .int x, l4] st h Q := jg_is rfl rfl
theorem s54_2 : jx_Go jxP d 54 2 [l0, l1, l2, l3, l4] st h Q ↔ jx_Go jxP d 54 3 [l0, l1, l2, l3, l4] (.int (nI 0) :: st) h Q := jg_c rfl
theorem s54_3 : jx_Go jxP d 54 3 [l0, l1, l2, l3, l4] (.int x :: st) h Q ↔ jx_Go jxP d 54 5 [l0, l1, l2, l3, .int x] st h Q := jg_is rfl rfl
theorem s54_5 : jx_Go jxP d 54 5 [l0, l1, l2, l3, .int x] st h Q ↔ jx_Go jxP d 54 7 [l0, l1, l2, l3, .int x] (.int x :: st) h Q := jg_il rfl rfl
theorem s54_7 : jx_Go jxP d 54 7 [.ref a, l1, l2, l3, l4] st h Q ↔ jx_Go jxP d 54 8 [.ref a, l1, l2, l3, l4] (.ref a :: st) h Q := jg_al rfl rfl
theorem s54_8 : jx_Go jxP d 54 8 [l0, l1, l2, l3, l4] (.ref a :: st) h Q ↔ ∃ v, jx_fl h a 7 0 = some v ∧ jx_Go jxP d 54 11 [l0, l1, l2, l3, l4] (v :: st) h Q := jg_gf rfl
theorem s54_11 : jx_Go jxP d 54 11 [l0, l1, l2, l3, l4] (.ref a :: st) h Q ↔ ∃ v, jx_fl h a 10 0 = some v ∧ jx_Go jxP d 54 14 [l0, l1, l2, l3, l4] (v :: st) h Q := jg_gf rfl
theorem s54_14 : jx_Go jxP d 54 14 [l0, l1, l2, l3, l4] (.int y :: .int x :: st) h Q ↔ if y ≤ x then jx_Go jxP d 54 42 [l0, l1, l2, l3, l4] st h Q else jx_Go jxP d 54 17 [l0, l1, l2, l3, l4] st h Q := jg_icP rfl rfl
theorem s54_17 : jx_Go jxP d 54 17 [l0, .int x, l2, l3, l4] st h Q ↔ jx_Go jxP d 54 18 [l0, .int x, l2, l3, l4] (.int x :: st) h Q := jg_il rfl rfl
theorem s54_18 : jx_Go jxP d 54 18 [l0, l1, l2, l3, .int x] st h Q ↔ jx_Go jxP d 54 20 [l0, l1, l2, l3, .int x] (.int x :: st) h Q := jg_il rfl rfl
theorem s54_20 : jx_Go jxP d 54 20 [l0, l1, l2, l3, l4] (.int y :: .int x :: st) h Q ↔ jx_Go jxP d 54 21 [l0, l1, l2, l3, l4] (.int (x >>> (y &&& 31)) :: st) h Q := jg_b (f := fun x y => x >>> (y &&& 31)) rfl
theorem s54_21 : jx_Go jxP d 54 21 [l0, l1, l2, l3, l4] st h Q ↔ jx_Go jxP d 54 22 [l0, l1, l2, l3, l4] (.int (nI 1) :: st) h Q := jg_c rfl
theorem s54_22 : jx_Go jxP d 54 22 [l0, l1, l2, l3, l4] (.int y :: .int x :: st) h Q ↔ jx_Go jxP d 54 23 [l0, l1, l2, l3, l4] (.int (x &&& y) :: st) h Q := jg_b (f := fun x y => x &&& y) rfl
theorem s54_23 : jx_Go jxP d 54 23 [l0, l1, l2, l3, l4] st h Q ↔ jx_Go jxP d 54 24 [l0, l1, l2, l3, l4] (.int (nI 1) :: st) h Q := jg_c rfl
theorem s54_24 : jx_Go jxP d 54 24 [l0, l1, l2, l3, l4] (.int y :: .int x :: st) h Q ↔ if x = y then jx_Go jxP d 54 27 [l0, l1, l2, l3, l4] st h Q else jx_Go jxP d 54 36 [l0, l1, l2, l3, l4] st h Q := jg_icN rfl rfl
theorem s54_27 : jx_Go jxP d 54 27 [l0, l1, l2, .int x, l4] st h Q ↔ jx_Go jxP d 54 28 [l0, l1, l2, .int x, l4] (.int x :: st) h Q := jg_il rfl rfl
theorem s54_28 : jx_Go jxP d 54 28 [l0, l1, .int x, l3, l4] st h Q ↔ jx_Go jxP d 54 29 [l0, l1, .int x, l3, l4] (.int x :: st) h Q := jg_il rfl rfl
theorem s54_29 : jx_Go jxP d 54 29 [l0, l1, l2, l3, l4] st h Q ↔ jx_Go jxP d 54 30 [l0, l1, l2, l3, l4] (.int (nI 5) :: st) h Q := jg_c rfl
theorem s54_30 : jx_Go jxP d 54 30 [l0, l1, l2, l3, .int x] st h Q ↔ jx_Go jxP d 54 32 [l0, l1, l2, l3, .int x] (.int x :: st) h Q := jg_il rfl rfl
theorem s54_32 : jx_Go jxP d 54 32 [l0, l1, l2, l3, l4] (.int y :: .int x :: st) h Q ↔ jx_Go jxP d 54 33 [l0, l1, l2, l3, l4] (.int (x * y) :: st) h Q := jg_b (f := fun x y => x * y) rfl
theorem s54_33 : jx_Go jxP d 54 33 [l0, l1, l2, l3, l4] (.int y :: .int x :: st) h Q ↔ jx_Go jxP d 54 34 [l0, l1, l2, l3, l4] (.int (x <<< (y &&& 31)) :: st) h Q := jg_b (f := fun x y => x <<< (y &&& 31)) rfl
theorem s54_34 : jx_Go jxP d 54 34 [l0, l1, l2, l3, l4] (.int y :: .int x :: st) h Q ↔ jx_Go jxP d 54 35 [l0, l1, l2, l3, l4] (.int (x ||| y) :: st) h Q := jg_b (f := fun x y => x ||| y) rfl
theorem s54_35 : jx_Go jxP d 54 35 [l0, l1, l2, l3, l4] (.int x :: st) h Q ↔ jx_Go jxP d 54 36 [l0, l1, l2, .int x, l4] st h Q := jg_is rfl rfl
theorem s54_36 : jx_Go jxP d 54 36 [l0, l1, l2, l3, .int x] st h Q ↔ jx_Go jxP d 54 39 [l0, l1, l2, l3, .int (x + (nI 1))] st h Q := jg_inc rfl rfl rfl
theorem s54_39 : jx_Go jxP d 54 39 [l0, l1, l2, l3, l4] st h Q ↔ jx_Go jxP d 54 5 [l0, l1, l2, l3, l4] st h Q := jg_go rfl
theorem s54_42 : jx_Go jxP d 54 42 [l0, l1, l2, .int x, l4] st h Q ↔ jx_Go jxP d 54 43 [l0, l1, l2, .int x, l4] (.int x :: st) h Q := jg_il rfl rfl
theorem s54_43 : jx_Go jxP d 54 43 [l0, l1, l2, l3, l4] [.int x] h Q ↔ Q [.int x] h := jx_rt rfl rfl
-- 55 TalkBench$Sheet.<init>
theorem s55_0 : jx_Go jxP d 55 0 [.ref a] st h Q ↔ jx_Go jxP d 55 1 [.ref a] (.ref a :: st) h Q := jg_al rfl rfl
theorem s55_1 : jx_Go jxP d 55 1 [l0] [.ref a] h Q ↔ jx_Go jxP d 55 4 [l0] [] h Q := jg_oi rfl
theorem s55_4 : jx_Go jxP d 55 4 [.ref a] st h Q ↔ jx_Go jxP d 55 5 [.ref a] (.ref a :: st) h Q := jg_al rfl rfl
theorem s55_5 : jx_Go jxP d 55 5 [l0] st h Q ↔ jx_Go jxP d 55 7 [l0] (.int (nI 30) :: st) h Q := jg_c rfl
theorem s55_7 : jx_Go jxP d 55 7 [l0] (.int (nI 30) :: st) h Q ↔ jx_Go jxP d 55 9 [l0] (.ref h.1 :: st) (jx_mk h 30 (.inl (0, 30, .inl (fun _ => 0)))) Q := jg_ni rfl (jx_inB_iff.mp (by decide +kernel))
theorem s55_9 : jx_Go jxP d 55 9 [l0] (.ref b :: .ref a :: st) h Q ↔ ∃ v, jx_fl h a 8 2 = some v ∧ jx_Go jxP d 55 12 [l0] st (jx_uf h a 2 (.ref b)) Q := jg_pfR rfl
theorem s55_12 : jx_Go jxP d 55 12 [l0] [] h Q ↔ Q [] h := jx_rt rfl rfl
-- 56 TalkBench$Sheet.isMissing
theorem s56_0 : jx_Go jxP d 56 0 [.ref a] st h Q ↔ jx_Go jxP d 56 1 [.ref a] (.ref a :: st) h Q := jg_al rfl rfl
theorem s56_1 : jx_Go jxP d 56 1 [l0] (.ref a :: st) h Q ↔ ∃ v, jx_fl h a 8 0 = some v ∧ jx_Go jxP d 56 4 [l0] (v :: st) h Q := jg_gf rfl
theorem s56_4 : jx_Go jxP d 56 4 [l0] (.int x :: st) h Q ↔ if x = 0 then jx_Go jxP d 56 7 [l0] st h Q else jx_Go jxP d 56 11 [l0] st h Q := jg_ifN rfl rfl
theorem s56_7 : jx_Go jxP d 56 7 [l0] st h Q ↔ jx_Go jxP d 56 8 [l0] (.int (nI 1) :: st) h Q := jg_c rfl
theorem s56_8 : jx_Go jxP d 56 8 [l0] st h Q ↔ jx_Go jxP d 56 12 [l0] st h Q := jg_go rfl
theorem s56_11 : jx_Go jxP d 56 11 [l0] st h Q ↔ jx_Go jxP d 56 12 [l0] (.int (nI 0) :: st) h Q := jg_c rfl
theorem s56_12b0 : jx_Go jxP d 56 12 [l0] [.int (nI 0)] h Q ↔ Q [.int (nI 0)] h := jx_rt rfl rfl
theorem s56_12b1 : jx_Go jxP d 56 12 [l0] [.int (nI 1)] h Q ↔ Q [.int (nI 1)] h := jx_rt rfl rfl
-- 57 TalkBench$Sheet.reset
theorem s57_0 : jx_Go jxP d 57 0 [.ref a, l1, l2] st h Q ↔ jx_Go jxP d 57 1 [.ref a, l1, l2] (.ref a :: st) h Q := jg_al rfl rfl
theorem s57_1 : jx_Go jxP d 57 1 [l0, .int x, l2] st h Q ↔ jx_Go jxP d 57 2 [l0, .int x, l2] (.int x :: st) h Q := jg_il rfl rfl
theorem s57_2 : jx_Go jxP d 57 2 [l0, l1, l2] (.int x :: .ref a :: st) h Q ↔ ∃ v, jx_fl h a 8 0 = some v ∧ jx_Go jxP d 57 5 [l0, l1, l2] st (jx_uf h a 0 (.int x)) Q := jg_pfI rfl
theorem s57_5 : jx_Go jxP d 57 5 [.ref a, l1, l2] st h Q ↔ jx_Go jxP d 57 6 [.ref a, l1, l2] (.ref a :: st) h Q := jg_al rfl rfl
theorem s57_6 : jx_Go jxP d 57 6 [l0, l1, .int x] st h Q ↔ jx_Go jxP d 57 7 [l0, l1, .int x] (.int x :: st) h Q := jg_il rfl rfl
theorem s57_7 : jx_Go jxP d 57 7 [l0, l1, l2] (.int x :: .ref a :: st) h Q ↔ ∃ v, jx_fl h a 8 1 = some v ∧ jx_Go jxP d 57 10 [l0, l1, l2] st (jx_uf h a 1 (.int x)) Q := jg_pfI rfl
theorem s57_10 : jx_Go jxP d 57 10 [.ref a, l1, l2] st h Q ↔ jx_Go jxP d 57 11 [.ref a, l1, l2] (.ref a :: st) h Q := jg_al rfl rfl
theorem s57_11 : jx_Go jxP d 57 11 [l0, l1, l2] (.ref a :: st) h Q ↔ ∃ v, jx_fl h a 8 2 = some v ∧ jx_Go jxP d 57 14 [l0, l1, l2] (v :: st) h Q := jg_gf rfl
theorem s57_14 : jx_Go jxP d 57 14 [l0, l1, l2] st h Q ↔ jx_Go jxP d 57 15 [l0, l1, l2] (.int (nI 0) :: st) h Q := jg_c rfl
theorem s57_15 : jx_Go jxP (d + 1) 57 15 [l0, l1, l2] (.int x1 :: .ref a0 :: st) h Q ↔ (st.length ≤ 4 ∧ jx_Go jxP d 198 0 [.ref a0, .int x1, jx_u, jx_u] [] h (fun s1 h1 => jx_Go jxP (d + 1) 57 18 [l0, l1, l2] (s1 ++ st) h1 Q)) := jg_callS (as := [.int x1, .ref a0]) rfl rfl rfl rfl
theorem s57_18 : jx_Go jxP d 57 18 [l0, l1, l2] [] h Q ↔ Q [] h := jx_rt rfl rfl
-- 58 TalkBench$Sheet.set
theorem s58_0 : jx_Go jxP d 58 0 [.ref a, l1, l2] st h Q ↔ jx_Go jxP d 58 1 [.ref a, l1, l2] (.ref a :: st) h Q := jg_al rfl rfl
theorem s58_1 : jx_Go jxP d 58 1 [l0, l1, l2] (.ref a :: st) h Q ↔ ∃ v, jx_fl h a 8 2 = some v ∧ jx_Go jxP d 58 4 [l0, l1, l2] (v :: st) h Q := jg_gf rfl
theorem s58_4 : jx_Go jxP d 58 4 [l0, .int x, l2] st h Q ↔ jx_Go jxP d 58 5 [l0, .int x, l2] (.int x :: st) h Q := jg_il rfl rfl
theorem s58_5 : jx_Go jxP d 58 5 [.ref a, l1, l2] st h Q ↔ jx_Go jxP d 58 6 [.ref a, l1, l2] (.ref a :: st) h Q := jg_al rfl rfl
theorem s58_6 : jx_Go jxP d 58 6 [l0, l1, l2] (.ref a :: st) h Q ↔ ∃ v, jx_fl h a 8 0 = some v ∧ jx_Go jxP d 58 9 [l0, l1, l2] (v :: st) h Q := jg_gf rfl
theorem s58_9 : jx_Go jxP d 58 9 [l0, l1, l2] st h Q ↔ jx_Go jxP d 58 11 [l0, l1, l2] (.int (nI 32) :: st) h Q := jg_c rfl
theorem s58_11 : jx_Go jxP d 58 11 [l0, l1, l2] (.int y :: .int x :: st) h Q ↔ if x = y then jx_Go jxP d 58 14 [l0, l1, l2] st h Q else jx_Go jxP d 58 18 [l0, l1, l2] st h Q := jg_icN rfl rfl
theorem s58_14 : jx_Go jxP d 58 14 [l0, l1, .int x] st h Q ↔ jx_Go jxP d 58 15 [l0, l1, .int x] (.int x :: st) h Q := jg_il rfl rfl
theorem s58_15 : jx_Go jxP d 58 15 [l0, l1, l2] st h Q ↔ jx_Go jxP d 58 28 [l0, l1, l2] st h Q := jg_go rfl
theorem s58_18 : jx_Go jxP d 58 18 [l0, l1, .int x] st h Q ↔ jx_Go jxP d 58 19 [l0, l1, .int x] (.int x :: st) h Q := jg_il rfl rfl
theorem s58_19 : jx_Go jxP d 58 19 [l0, l1, l2] st h Q ↔ jx_Go jxP d 58 20 [l0, l1, l2] (.int (nI 1) :: st) h Q := jg_c rfl
theorem s58_20 : jx_Go jxP d 58 20 [.ref a, l1, l2] st h Q ↔ jx_Go jxP d 58 21 [.ref a, l1, l2] (.ref a :: st) h Q := jg_al rfl rfl
theorem s58_21 : jx_Go jxP d 58 21 [l0, l1, l2] (.ref a :: st) h Q ↔ ∃ v, jx_fl h a 8 0 = some v ∧ jx_Go jxP d 58 24 [l0, l1, l2] (v :: st) h Q := jg_gf rfl
theorem s58_24 : jx_Go jxP d 58 24 [l0, l1, l2] (.int y :: .int x :: st) h Q ↔ jx_Go jxP d 58 25 [l0, l1, l2] (.int (x <<< (y &&& 31)) :: st) h Q := jg_b (f := fun x y => x <<< (y &&& 31)) rfl
theorem s58_25 : jx_Go jxP d 58 25 [l0, l1, l2] st h Q ↔ jx_Go jxP d 58 26 [l0, l1, l2] (.int (nI 1) :: st) h Q := jg_c rfl
theorem s58_26 : jx_Go jxP d 58 26 [l0, l1, l2] (.int y :: .int x :: st) h Q ↔ jx_Go jxP d 58 27 [l0, l1, l2] (.int (x - y) :: st) h Q := jg_b (f := fun x y => x - y) rfl
theorem s58_27 : jx_Go jxP d 58 27 [l0, l1, l2] (.int y :: .int x :: st) h Q ↔ jx_Go jxP d 58 28 [l0, l1, l2] (.int (x &&& y) :: st) h Q := jg_b (f := fun x y => x &&& y) rfl
theorem s58_28 : jx_Go jxP d 58 28 [l0, l1, l2] (.int y :: .int x :: .ref a :: st) h Q ↔ ∃ q, jx_ai h a = some q ∧ jx_in x q.1 ∧ jx_Go jxP d 58 29 [l0, l1, l2] st (jx_wi h a q.1 (upd q.2 x.toNatClampNeg y)) Q := jg_iw rfl
theorem s58_29 : jx_Go jxP d 58 29 [l0, l1, l2] [] h Q ↔ Q [] h := jx_rt rfl rfl
-- 59 TalkBench$Sheet.hasRun
theorem s59_0 : jx_Go jxP d 59 0 [l0, .int x, l2] st h Q ↔ jx_Go jxP d 59 1 [l0, .int x, l2] (.int x :: st) h Q := jg_il rfl rfl
theorem s59_1 : jx_Go jxP d 59 1 [l0, l1, l2] (.int x :: st) h Q ↔ if x < 0 then jx_Go jxP d 59 22 [l0, l1, l2] st h Q else jx_Go jxP d 59 4 [l0, l1, l2] st h Q := jg_ifP rfl rfl
theorem s59_4 : jx_Go jxP d 59 4 [l0, l1, .int x] st h Q ↔ jx_Go jxP d 59 5 [l0, l1, .int x] (.int x :: st) h Q := jg_il rfl rfl
theorem s59_5 : jx_Go jxP d 59 5 [l0, l1, l2] (.int x :: st) h Q ↔ if x < 0 then jx_Go jxP d 59 22 [l0, l1, l2] st h Q else jx_Go jxP d 59 8 [l0, l1, l2] st h Q := jg_ifP rfl rfl
theorem s59_8 : jx_Go jxP d 59 8 [l0, .int x, l2] st h Q ↔ jx_Go jxP d 59 9 [l0, .int x, l2] (.int x :: st) h Q := jg_il rfl rfl
theorem s59_9 : jx_Go jxP d 59 9 [.ref a, l1, l2] st h Q ↔ jx_Go jxP d 59 10 [.ref a, l1, l2] (.ref a :: st) h Q := jg_al rfl rfl
theorem s59_10 : jx_Go jxP d 59 10 [l0, l1, l2] (.ref a :: st) h Q ↔ ∃ v, jx_fl h a 8 1 = some v ∧ jx_Go jxP d 59 13 [l0, l1, l2] (v :: st) h Q := jg_gf rfl
theorem s59_13 : jx_Go jxP d 59 13 [l0, l1, .int x] st h Q ↔ jx_Go jxP d 59 14 [l0, l1, .int x] (.int x :: st) h Q := jg_il rfl rfl
theorem s59_14 : jx_Go jxP d 59 14 [l0, l1, l2] (.int y :: .int x :: st) h Q ↔ jx_Go jxP d 59 15 [l0, l1, l2] (.int (x - y) :: st) h Q := jg_b (f := fun x y => x - y) rfl
theorem s59_15 : jx_Go jxP d 59 15 [l0, l1, l2] (.int y :: .int x :: st) h Q ↔ if y < x then jx_Go jxP d 59 22 [l0, l1, l2] st h Q else jx_Go jxP d 59 18 [l0, l1, l2] st h Q := jg_icP rfl rfl
theorem s59_18 : jx_Go jxP d 59 18 [l0, l1, l2] st h Q ↔ jx_Go jxP d 59 19 [l0, l1, l2] (.int (nI 1) :: st) h Q := jg_c rfl
theorem s59_19 : jx_Go jxP d 59 19 [l0, l1, l2] st h Q ↔ jx_Go jxP d 59 23 [l0, l1, l2] st h Q := jg_go rfl
theorem s59_22 : jx_Go jxP d 59 22 [l0, l1, l2] st h Q ↔ jx_Go jxP d 59 23 [l0, l1, l2] (.int (nI 0) :: st) h Q := jg_c rfl
theorem s59_23b0 : jx_Go jxP d 59 23 [l0, l1, l2] [.int (nI 0)] h Q ↔ Q [.int (nI 0)] h := jx_rt rfl rfl
theorem s59_23b1 : jx_Go jxP d 59 23 [l0, l1, l2] [.int (nI 1)] h Q ↔ Q [.int (nI 1)] h := jx_rt rfl rfl
-- 60 TalkBench$Sheet.holdsPlaces
theorem s60_0 : jx_Go jxP d 60 0 [l0, l1] st h Q ↔ jx_Go jxP d 60 1 [l0, l1] (.int (nI 0) :: st) h Q := jg_c rfl
theorem s60_1 : jx_Go jxP d 60 1 [l0, l1] (.int x :: st) h Q ↔ jx_Go jxP d 60 2 [l0, .int x] st h Q := jg_is rfl rfl
theorem s60_2 : jx_Go jxP d 60 2 [l0, .int x] st h Q ↔ jx_Go jxP d 60 3 [l0, .int x] (.int x :: st) h Q := jg_il rfl rfl
theorem s60_3 : jx_Go jxP d 60 3 [.ref a, l1] st h Q ↔ jx_Go jxP d 60 4 [.ref a, l1] (.ref a :: st) h Q := jg_al rfl rfl
theorem s60_4 : jx_Go jxP d 60 4 [l0, l1] (.ref a :: st) h Q ↔ ∃ v, jx_fl h a 8 1 = some v ∧ jx_Go jxP d 60 7 [l0, l1] (v :: st) h Q := jg_gf rfl
theorem s60_7 : jx_Go jxP d 60 7 [l0, l1] (.int y :: .int x :: st) h Q ↔ if y ≤ x then jx_Go jxP d 60 37 [l0, l1] st h Q else jx_Go jxP d 60 10 [l0, l1] st h Q := jg_icP rfl rfl
theorem s60_10 : jx_Go jxP d 60 10 [.ref a, l1] st h Q ↔ jx_Go jxP d 60 11 [.ref a, l1] (.ref a :: st) h Q := jg_al rfl rfl
theorem s60_11 : jx_Go jxP d 60 11 [l0, l1] (.ref a :: st) h Q ↔ ∃ v, jx_fl h a 8 2 = some v ∧ jx_Go jxP d 60 14 [l0, l1] (v :: st) h Q := jg_gf rfl
theorem s60_14 : jx_Go jxP d 60 14 [l0, .int x] st h Q ↔ jx_Go jxP d 60 15 [l0, .int x] (.int x :: st) h Q := jg_il rfl rfl
theorem s60_15 : jx_Go jxP d 60 15 [l0, l1] (.int x :: .ref a :: st) h Q ↔ ∃ q, jx_ai h a = some q ∧ jx_in x q.1 ∧ jx_Go jxP d 60 16 [l0, l1] (.int (q.2 x.toNatClampNeg) :: st) h Q := jg_ia rfl
theorem s60_16 : jx_Go jxP d 60 16 [l0, l1] (.int x :: st) h Q ↔ if x < 0 then jx_Go jxP d 60 29 [l0, l1] st h Q else jx_Go jxP d 60 19 [l0, l1] st h Q := jg_ifP rfl rfl
theorem s60_19 : jx_Go jxP d 60 19 [.ref a, l1] st h Q ↔ jx_Go jxP d 60 20 [.ref a, l1] (.ref a :: st) h Q := jg_al rfl rfl
theorem s60_20 : jx_Go jxP d 60 20 [l0, l1] (.ref a :: st) h Q ↔ ∃ v, jx_fl h a 8 2 = some v ∧ jx_Go jxP d 60 23 [l0, l1] (v :: st) h Q := jg_gf rfl
theorem s60_23 : jx_Go jxP d 60 23 [l0, .int x] st h Q ↔ jx_Go jxP d 60 24 [l0, .int x] (.int x :: st) h Q := jg_il rfl rfl
theorem s60_24 : jx_Go jxP d 60 24 [l0, l1] (.int x :: .ref a :: st) h Q ↔ ∃ q, jx_ai h a = some q ∧ jx_in x q.1 ∧ jx_Go jxP d 60 25 [l0, l1] (.int (q.2 x.toNatClampNeg) :: st) h Q := jg_ia rfl
theorem s60_25 : jx_Go jxP d 60 25 [l0, l1] st h Q ↔ jx_Go jxP d 60 26 [l0, l1] (.int (nI 2) :: st) h Q := jg_c rfl
theorem s60_26 : jx_Go jxP d 60 26 [l0, l1] (.int y :: .int x :: st) h Q ↔ if x ≤ y then jx_Go jxP d 60 31 [l0, l1] st h Q else jx_Go jxP d 60 29 [l0, l1] st h Q := jg_icP rfl rfl
theorem s60_29 : jx_Go jxP d 60 29 [l0, l1] st h Q ↔ jx_Go jxP d 60 30 [l0, l1] (.int (nI 0) :: st) h Q := jg_c rfl
theorem s60_30b0 : jx_Go jxP d 60 30 [l0, l1] [.int (nI 0)] h Q ↔ Q [.int (nI 0)] h := jx_rt rfl rfl
theorem s60_30b1 : jx_Go jxP d 60 30 [l0, l1] [.int (nI 1)] h Q ↔ Q [.int (nI 1)] h := jx_rt rfl rfl
theorem s60_31 : jx_Go jxP d 60 31 [l0, .int x] st h Q ↔ jx_Go jxP d 60 34 [l0, .int (x + (nI 1))] st h Q := jg_inc rfl rfl rfl
theorem s60_34 : jx_Go jxP d 60 34 [l0, l1] st h Q ↔ jx_Go jxP d 60 2 [l0, l1] st h Q := jg_go rfl
theorem s60_37 : jx_Go jxP d 60 37 [l0, l1] st h Q ↔ jx_Go jxP d 60 38 [l0, l1] (.int (nI 1) :: st) h Q := jg_c rfl
theorem s60_38b0 : jx_Go jxP d 60 38 [l0, l1] [.int (nI 0)] h Q ↔ Q [.int (nI 0)] h := jx_rt rfl rfl
theorem s60_38b1 : jx_Go jxP d 60 38 [l0, l1] [.int (nI 1)] h Q ↔ Q [.int (nI 1)] h := jx_rt rfl rfl
-- 61 TalkBench$Talk.<init>
theorem s61_0 : jx_Go jxP d 61 0 [.ref a, l1, l2] st h Q ↔ jx_Go jxP d 61 1 [.ref a, l1, l2] (.ref a :: st) h Q := jg_al rfl rfl
theorem s61_1 : jx_Go jxP d 61 1 [l0, l1, l2] [.ref a] h Q ↔ jx_Go jxP d 61 4 [l0, l1, l2] [] h Q := jg_oi rfl
theorem s61_4 : jx_Go jxP d 61 4 [.ref a, l1, l2] st h Q ↔ jx_Go jxP d 61 5 [.ref a, l1, l2] (.ref a :: st) h Q := jg_al rfl rfl
theorem s61_5 : jx_Go jxP d 61 5 [l0, l1, l2] st h Q ↔ jx_Go jxP d 61 7 [l0, l1, l2] (.int (nI 49) :: st) h Q := jg_c rfl
theorem s61_7 : jx_Go jxP d 61 7 [l0, l1, l2] (.int (nI 49) :: st) h Q ↔ jx_Go jxP d 61 9 [l0, l1, l2] (.ref h.1 :: st) (jx_mk h 49 (.inl (0, 49, .inl (fun _ => 0)))) Q := jg_ni rfl (jx_inB_iff.mp (by decide +kernel))
theorem s61_9 : jx_Go jxP d 61 9 [l0, l1, l2] (.ref b :: .ref a :: st) h Q ↔ ∃ v, jx_fl h a 9 2 = some v ∧ jx_Go jxP d 61 12 [l0, l1, l2] st (jx_uf h a 2 (.ref b)) Q := jg_pfR rfl
theorem s61_12 : jx_Go jxP d 61 12 [.ref a, l1, l2] st h Q ↔ jx_Go jxP d 61 13 [.ref a, l1, l2] (.ref a :: st) h Q := jg_al rfl rfl
theorem s61_13 : jx_Go jxP d 61 13 [l0, l1, l2] st h Q ↔ jx_Go jxP d 61 15 [l0, l1, l2] (.int (nI 49) :: st) h Q := jg_c rfl
theorem s61_15 : jx_Go jxP d 61 15 [l0, l1, l2] (.int (nI 49) :: st) h Q ↔ jx_Go jxP d 61 17 [l0, l1, l2] (.ref h.1 :: st) (jx_mk h 49 (.inl (0, 49, .inl (fun _ => 0)))) Q := jg_ni rfl (jx_inB_iff.mp (by decide +kernel))
theorem s61_17 : jx_Go jxP d 61 17 [l0, l1, l2] (.ref b :: .ref a :: st) h Q ↔ ∃ v, jx_fl h a 9 3 = some v ∧ jx_Go jxP d 61 20 [l0, l1, l2] st (jx_uf h a 3 (.ref b)) Q := jg_pfR rfl
theorem s61_20 : jx_Go jxP d 61 20 [.ref a, l1, l2] st h Q ↔ jx_Go jxP d 61 21 [.ref a, l1, l2] (.ref a :: st) h Q := jg_al rfl rfl
theorem s61_21 : jx_Go jxP d 61 21 [l0, l1, l2] st h Q ↔ jx_Go jxP d 61 23 [l0, l1, l2] (.int (nI 49) :: st) h Q := jg_c rfl
theorem s61_23 : jx_Go jxP d 61 23 [l0, l1, l2] (.int (nI 49) :: st) h Q ↔ jx_Go jxP d 61 25 [l0, l1, l2] (.ref h.1 :: st) (jx_mk h 49 (.inl (0, 49, .inl (fun _ => 0)))) Q := jg_ni rfl (jx_inB_iff.mp (by decide +kernel))
theorem s61_25 : jx_Go jxP d 61 25 [l0, l1, l2] (.ref b :: .ref a :: st) h Q ↔ ∃ v, jx_fl h a 9 4 = some v ∧ jx_Go jxP d 61 28 [l0, l1, l2] st (jx_uf h a 4 (.ref b)) Q := jg_pfR rfl
theorem s61_28 : jx_Go jxP d 61 28 [.ref a, l1, l2] st h Q ↔ jx_Go jxP d 61 29 [.ref a, l1, l2] (.ref a :: st) h Q := jg_al rfl rfl
theorem s61_29 : jx_Go jxP d 61 29 [l0, l1, l2] st h Q ↔ jx_Go jxP d 61 31 [l0, l1, l2] (.int (nI 49) :: st) h Q := jg_c rfl
theorem s61_31 : jx_Go jxP d 61 31 [l0, l1, l2] (.int (nI 49) :: st) h Q ↔ jx_Go jxP d 61 33 [l0, l1, l2] (.ref h.1 :: st) (jx_mk h 49 (.inl (0, 49, .inl (fun _ => 0)))) Q := jg_ni rfl (jx_inB_iff.mp (by decide +kernel))
theorem s61_33 : jx_Go jxP d 61 33 [l0, l1, l2] (.ref b :: .ref a :: st) h Q ↔ ∃ v, jx_fl h a 9 5 = some v ∧ jx_Go jxP d 61 36 [l0, l1, l2] st (jx_uf h a 5 (.ref b)) Q := jg_pfR rfl
theorem s61_36 : jx_Go jxP d 61 36 [.ref a, l1, l2] st h Q ↔ jx_Go jxP d 61 37 [.ref a, l1, l2] (.ref a :: st) h Q := jg_al rfl rfl
theorem s61_37 : jx_Go jxP d 61 37 [l0, l1, l2] st h Q ↔ jx_Go jxP d 61 39 [l0, l1, l2] (.int (nI 49) :: st) h Q := jg_c rfl
theorem s61_39 : jx_Go jxP d 61 39 [l0, l1, l2] (.int (nI 49) :: st) h Q ↔ jx_Go jxP d 61 41 [l0, l1, l2] (.ref h.1 :: st) (jx_mk h 49 (.inl (0, 49, .inl (fun _ => 0)))) Q := jg_ni rfl (jx_inB_iff.mp (by decide +kernel))
theorem s61_41 : jx_Go jxP d 61 41 [l0, l1, l2] (.ref b :: .ref a :: st) h Q ↔ ∃ v, jx_fl h a 9 6 = some v ∧ jx_Go jxP d 61 44 [l0, l1, l2] st (jx_uf h a 6 (.ref b)) Q := jg_pfR rfl
theorem s61_44 : jx_Go jxP d 61 44 [.ref a, l1, l2] st h Q ↔ jx_Go jxP d 61 45 [.ref a, l1, l2] (.ref a :: st) h Q := jg_al rfl rfl
theorem s61_45 : jx_Go jxP d 61 45 [l0, l1, l2] st h Q ↔ jx_Go jxP d 61 47 [l0, l1, l2] (.int (nI 49) :: st) h Q := jg_c rfl
theorem s61_47 : jx_Go jxP d 61 47 [l0, l1, l2] (.int (nI 49) :: st) h Q ↔ jx_Go jxP d 61 49 [l0, l1, l2] (.ref h.1 :: st) (jx_mk h 49 (.inl (0, 49, .inl (fun _ => 0)))) Q := jg_ni rfl (jx_inB_iff.mp (by decide +kernel))
theorem s61_49 : jx_Go jxP d 61 49 [l0, l1, l2] (.ref b :: .ref a :: st) h Q ↔ ∃ v, jx_fl h a 9 7 = some v ∧ jx_Go jxP d 61 52 [l0, l1, l2] st (jx_uf h a 7 (.ref b)) Q := jg_pfR rfl
theorem s61_52 : jx_Go jxP d 61 52 [.ref a, l1, l2] st h Q ↔ jx_Go jxP d 61 53 [.ref a, l1, l2] (.ref a :: st) h Q := jg_al rfl rfl
theorem s61_53 : jx_Go jxP d 61 53 [l0, .ref a, l2] st h Q ↔ jx_Go jxP d 61 54 [l0, .ref a, l2] (.ref a :: st) h Q := jg_al rfl rfl
theorem s61_54 : jx_Go jxP d 61 54 [l0, l1, l2] (.ref b :: .ref a :: st) h Q ↔ ∃ v, jx_fl h a 9 0 = some v ∧ jx_Go jxP d 61 57 [l0, l1, l2] st (jx_uf h a 0 (.ref b)) Q := jg_pfR rfl
theorem s61_57 : jx_Go jxP d 61 57 [.ref a, l1, l2] st h Q ↔ jx_Go jxP d 61 58 [.ref a, l1, l2] (.ref a :: st) h Q := jg_al rfl rfl
theorem s61_58 : jx_Go jxP d 61 58 [l0, l1, .ref a] st h Q ↔ jx_Go jxP d 61 59 [l0, l1, .ref a] (.ref a :: st) h Q := jg_al rfl rfl
theorem s61_59 : jx_Go jxP d 61 59 [l0, l1, l2] (.ref b :: .ref a :: st) h Q ↔ ∃ v, jx_fl h a 9 1 = some v ∧ jx_Go jxP d 61 62 [l0, l1, l2] st (jx_uf h a 1 (.ref b)) Q := jg_pfR rfl
theorem s61_62 : jx_Go jxP d 61 62 [l0, l1, l2] [] h Q ↔ Q [] h := jx_rt rfl rfl
-- 62 TalkBench$Talk.forget
theorem s62_0 : jx_Go jxP d 62 0 [.ref a] st h Q ↔ jx_Go jxP d 62 1 [.ref a] (.ref a :: st) h Q := jg_al rfl rfl
theorem s62_1 : jx_Go jxP d 62 1 [l0] st h Q ↔ jx_Go jxP d 62 2 [l0] (.int (nI 0) :: st) h Q := jg_c rfl
theorem s62_2 : jx_Go jxP d 62 2 [l0] (.int x :: .ref a :: st) h Q ↔ ∃ v, jx_fl h a 9 8 = some v ∧ jx_Go jxP d 62 5 [l0] st (jx_uf h a 8 (.int x)) Q := jg_pfI rfl
theorem s62_5 : jx_Go jxP d 62 5 [l0] [] h Q ↔ Q [] h := jx_rt rfl rfl
-- 63 TalkBench$Talk.make
theorem s63_0 : jx_Go jxP d 63 0 [.ref a] st h Q ↔ jx_Go jxP d 63 1 [.ref a] (.ref a :: st) h Q := jg_al rfl rfl
theorem s63_1 : jx_Go jxP d 63 1 [l0] st h Q ↔ jx_Go jxP d 63 2 [l0] (.int (nI 0) :: st) h Q := jg_c rfl
theorem s63_2 : jx_Go jxP d 63 2 [l0] (.int x :: .ref a :: st) h Q ↔ ∃ v, jx_fl h a 9 8 = some v ∧ jx_Go jxP d 63 5 [l0] st (jx_uf h a 8 (.int x)) Q := jg_pfI rfl
theorem s63_5 : jx_Go jxP d 63 5 [.ref a] st h Q ↔ jx_Go jxP d 63 6 [.ref a] (.ref a :: st) h Q := jg_al rfl rfl
theorem s63_6 : jx_Go jxP d 63 6 [.ref a] st h Q ↔ jx_Go jxP d 63 7 [.ref a] (.ref a :: st) h Q := jg_al rfl rfl
theorem s63_7 : jx_Go jxP d 63 7 [l0] (.ref a :: st) h Q ↔ ∃ v, jx_fl h a 9 0 = some v ∧ jx_Go jxP d 63 10 [l0] (v :: st) h Q := jg_gf rfl
theorem s63_10 : jx_Go jxP d 63 10 [l0] (.ref a :: st) h Q ↔ ∃ v, jx_fl h a 4 0 = some v ∧ jx_Go jxP d 63 13 [l0] (v :: st) h Q := jg_gf rfl
theorem s63_13 : jx_Go jxP d 63 13 [.ref a] st h Q ↔ jx_Go jxP d 63 14 [.ref a] (.ref a :: st) h Q := jg_al rfl rfl
theorem s63_14 : jx_Go jxP d 63 14 [l0] (.ref a :: st) h Q ↔ ∃ v, jx_fl h a 9 0 = some v ∧ jx_Go jxP d 63 17 [l0] (v :: st) h Q := jg_gf rfl
theorem s63_17 : jx_Go jxP d 63 17 [l0] (.ref a :: st) h Q ↔ ∃ v, jx_fl h a 4 1 = some v ∧ jx_Go jxP d 63 20 [l0] (v :: st) h Q := jg_gf rfl
theorem s63_20 : jx_Go jxP d 63 20 [l0] st h Q ↔ jx_Go jxP d 63 21 [l0] (.int (nI 0) :: st) h Q := jg_c rfl
theorem s63_21 : jx_Go jxP (d + 1) 63 21 [l0] (.int x2 :: .int x1 :: .int x0 :: .ref a :: st) h Q ↔ (st.length ≤ 4 ∧ jx_cl h a = some 9 ∧ jx_Go jxP d 64 0 [.ref a, .int x0, .int x1, .int x2, jx_u, jx_u, jx_u] [] h (fun s1 h1 => jx_Go jxP (d + 1) 63 24 [l0] (s1 ++ st) h1 Q)) := jg_callV (as := [.int x2, .int x1, .int x0, .ref a]) rfl rfl rfl rfl rfl
theorem s63_24 : jx_Go jxP d 63 24 [l0] (.int x :: st) h Q ↔ jx_Go jxP d 63 25 [l0] st h Q := jg_pI rfl
theorem s63_25 : jx_Go jxP d 63 25 [l0] [] h Q ↔ Q [] h := jx_rt rfl rfl
-- 64 TalkBench$Talk.grow
theorem s64_0 : jx_Go jxP d 64 0 [.ref a, l1, l2, l3, l4, l5, l6] st h Q ↔ jx_Go jxP d 64 1 [.ref a, l1, l2, l3, l4, l5, l6] (.ref a :: st) h Q := jg_al rfl rfl
theorem s64_1 : jx_Go jxP d 64 1 [l0, l1, l2, l3, l4, l5, l6] (.ref a :: st) h Q ↔ ∃ v, jx_fl h a 9 8 = some v ∧ jx_Go jxP d 64 4 [l0, l1, l2, l3, l4, l5, l6] (v :: st) h Q := jg_gf rfl
theorem s64_4 : jx_Go jxP d 64 4 [l0, l1, l2, l3, l4, l5, l6] st h Q ↔ jx_Go jxP d 64 6 [l0, l1, l2, l3, l4, l5, l6] (.int (nI 49) :: st) h Q := jg_c rfl
theorem s64_6 : jx_Go jxP d 64 6 [l0, l1, l2, l3, l4, l5, l6] (.int y :: .int x :: st) h Q ↔ if x < y then jx_Go jxP d 64 12 [l0, l1, l2, l3, l4, l5, l6] st h Q else jx_Go jxP d 64 9 [l0, l1, l2, l3, l4, l5, l6] st h Q := jg_icP rfl rfl
theorem s64_9 : jx_Go jxP d 64 9 [l0, l1, l2, l3, l4, l5, l6] st h Q ↔ jx_Go jxP d 64 11 [l0, l1, l2, l3, l4, l5, l6] (.int (nI 48) :: st) h Q := jg_c rfl
theorem s64_11 : jx_Go jxP d 64 11 [l0, l1, l2, l3, l4, l5, l6] [.int x] h Q ↔ Q [.int x] h := jx_rt rfl rfl
theorem s64_12 : jx_Go jxP d 64 12 [.ref a, l1, l2, l3, l4, l5, l6] st h Q ↔ jx_Go jxP d 64 13 [.ref a, l1, l2, l3, l4, l5, l6] (.ref a :: st) h Q := jg_al rfl rfl
theorem s64_13 : jx_Go jxP d 64 13 [l0, l1, l2, l3, l4, l5, l6] (.ref a :: st) h Q ↔ ∃ v, jx_fl h a 9 8 = some v ∧ jx_Go jxP d 64 16 [l0, l1, l2, l3, l4, l5, l6] (v :: st) h Q := jg_gf rfl
theorem s64_16 : jx_Go jxP d 64 16 [l0, l1, l2, l3, l4, l5, l6] (.int x :: st) h Q ↔ jx_Go jxP d 64 18 [l0, l1, l2, l3, .int x, l5, l6] st h Q := jg_is rfl rfl
theorem s64_18 : jx_Go jxP d 64 18 [.ref a, l1, l2, l3, l4, l5, l6] st h Q ↔ jx_Go jxP d 64 19 [.ref a, l1, l2, l3, l4, l5, l6] (.ref a :: st) h Q := jg_al rfl rfl
theorem s64_19i : jx_Go jxP d 64 19 [l0, l1, l2, l3, l4, l5, l6] (.int x :: st) h Q ↔ jx_Go jxP d 64 20 [l0, l1, l2, l3, l4, l5, l6] (.int x :: .int x :: st) h Q := jg_dI rfl
theorem s64_19r : jx_Go jxP d 64 19 [l0, l1, l2, l3, l4, l5, l6] (.ref a :: st) h Q ↔ jx_Go jxP d 64 20 [l0, l1, l2, l3, l4, l5, l6] (.ref a :: .ref a :: st) h Q := jg_dR rfl
theorem s64_20 : jx_Go jxP d 64 20 [l0, l1, l2, l3, l4, l5, l6] (.ref a :: st) h Q ↔ ∃ v, jx_fl h a 9 8 = some v ∧ jx_Go jxP d 64 23 [l0, l1, l2, l3, l4, l5, l6] (v :: st) h Q := jg_gf rfl
theorem s64_23 : jx_Go jxP d 64 23 [l0, l1, l2, l3, l4, l5, l6] st h Q ↔ jx_Go jxP d 64 24 [l0, l1, l2, l3, l4, l5, l6] (.int (nI 1) :: st) h Q := jg_c rfl
theorem s64_24 : jx_Go jxP d 64 24 [l0, l1, l2, l3, l4, l5, l6] (.int y :: .int x :: st) h Q ↔ jx_Go jxP d 64 25 [l0, l1, l2, l3, l4, l5, l6] (.int (x + y) :: st) h Q := jg_b (f := fun x y => x + y) rfl
theorem s64_25 : jx_Go jxP d 64 25 [l0, l1, l2, l3, l4, l5, l6] (.int x :: .ref a :: st) h Q ↔ ∃ v, jx_fl h a 9 8 = some v ∧ jx_Go jxP d 64 28 [l0, l1, l2, l3, l4, l5, l6] st (jx_uf h a 8 (.int x)) Q := jg_pfI rfl
theorem s64_28 : jx_Go jxP d 64 28 [.ref a, l1, l2, l3, l4, l5, l6] st h Q ↔ jx_Go jxP d 64 29 [.ref a, l1, l2, l3, l4, l5, l6] (.ref a :: st) h Q := jg_al rfl rfl
theorem s64_29 : jx_Go jxP d 64 29 [l0, l1, l2, l3, l4, l5, l6] (.ref a :: st) h Q ↔ ∃ v, jx_fl h a 9 3 = some v ∧ jx_Go jxP d 64 32 [l0, l1, l2, l3, l4, l5, l6] (v :: st) h Q := jg_gf rfl
theorem s64_32 : jx_Go jxP d 64 32 [l0, l1, l2, l3, .int x, l5, l6] st h Q ↔ jx_Go jxP d 64 34 [l0, l1, l2, l3, .int x, l5, l6] (.int x :: st) h Q := jg_il rfl rfl
theorem s64_34 : jx_Go jxP d 64 34 [l0, .int x, l2, l3, l4, l5, l6] st h Q ↔ jx_Go jxP d 64 35 [l0, .int x, l2, l3, l4, l5, l6] (.int x :: st) h Q := jg_il rfl rfl
theorem s64_35 : jx_Go jxP d 64 35 [l0, l1, l2, l3, l4, l5, l6] (.int y :: .int x :: .ref a :: st) h Q ↔ ∃ q, jx_ai h a = some q ∧ jx_in x q.1 ∧ jx_Go jxP d 64 36 [l0, l1, l2, l3, l4, l5, l6] st (jx_wi h a q.1 (upd q.2 x.toNatClampNeg y)) Q := jg_iw rfl
theorem s64_36 : jx_Go jxP d 64 36 [.ref a, l1, l2, l3, l4, l5, l6] st h Q ↔ jx_Go jxP d 64 37 [.ref a, l1, l2, l3, l4, l5, l6] (.ref a :: st) h Q := jg_al rfl rfl
theorem s64_37 : jx_Go jxP d 64 37 [l0, l1, l2, l3, l4, l5, l6] (.ref a :: st) h Q ↔ ∃ v, jx_fl h a 9 4 = some v ∧ jx_Go jxP d 64 40 [l0, l1, l2, l3, l4, l5, l6] (v :: st) h Q := jg_gf rfl
theorem s64_40 : jx_Go jxP d 64 40 [l0, l1, l2, l3, .int x, l5, l6] st h Q ↔ jx_Go jxP d 64 42 [l0, l1, l2, l3, .int x, l5, l6] (.int x :: st) h Q := jg_il rfl rfl
theorem s64_42 : jx_Go jxP d 64 42 [l0, l1, .int x, l3, l4, l5, l6] st h Q ↔ jx_Go jxP d 64 43 [l0, l1, .int x, l3, l4, l5, l6] (.int x :: st) h Q := jg_il rfl rfl
theorem s64_43 : jx_Go jxP d 64 43 [l0, l1, l2, l3, l4, l5, l6] (.int y :: .int x :: .ref a :: st) h Q ↔ ∃ q, jx_ai h a = some q ∧ jx_in x q.1 ∧ jx_Go jxP d 64 44 [l0, l1, l2, l3, l4, l5, l6] st (jx_wi h a q.1 (upd q.2 x.toNatClampNeg y)) Q := jg_iw rfl
theorem s64_44 : jx_Go jxP d 64 44 [.ref a, l1, l2, l3, l4, l5, l6] st h Q ↔ jx_Go jxP d 64 45 [.ref a, l1, l2, l3, l4, l5, l6] (.ref a :: st) h Q := jg_al rfl rfl
theorem s64_45 : jx_Go jxP d 64 45 [l0, l1, l2, l3, l4, l5, l6] (.ref a :: st) h Q ↔ ∃ v, jx_fl h a 9 7 = some v ∧ jx_Go jxP d 64 48 [l0, l1, l2, l3, l4, l5, l6] (v :: st) h Q := jg_gf rfl
theorem s64_48 : jx_Go jxP d 64 48 [l0, l1, l2, l3, .int x, l5, l6] st h Q ↔ jx_Go jxP d 64 50 [l0, l1, l2, l3, .int x, l5, l6] (.int x :: st) h Q := jg_il rfl rfl
theorem s64_50 : jx_Go jxP d 64 50 [l0, l1, l2, .int x, l4, l5, l6] st h Q ↔ jx_Go jxP d 64 51 [l0, l1, l2, .int x, l4, l5, l6] (.int x :: st) h Q := jg_il rfl rfl
theorem s64_51 : jx_Go jxP d 64 51 [l0, l1, l2, l3, l4, l5, l6] (.int y :: .int x :: .ref a :: st) h Q ↔ ∃ q, jx_ai h a = some q ∧ jx_in x q.1 ∧ jx_Go jxP d 64 52 [l0, l1, l2, l3, l4, l5, l6] st (jx_wi h a q.1 (upd q.2 x.toNatClampNeg y)) Q := jg_iw rfl
theorem s64_52 : jx_Go jxP d 64 52 [l0, l1, l2, .int x, l4, l5, l6] st h Q ↔ jx_Go jxP d 64 53 [l0, l1, l2, .int x, l4, l5, l6] (.int x :: st) h Q := jg_il rfl rfl
theorem s64_53 : jx_Go jxP d 64 53 [l0, l1, l2, l3, l4, l5, l6] st h Q ↔ jx_Go jxP d 64 55 [l0, l1, l2, l3, l4, l5, l6] (.int (nI 8) :: st) h Q := jg_c rfl
theorem s64_55 : jx_Go jxP d 64 55 [l0, l1, l2, l3, l4, l5, l6] (.int y :: .int x :: st) h Q ↔ if y ≤ x then jx_Go jxP d 64 70 [l0, l1, l2, l3, l4, l5, l6] st h Q else jx_Go jxP d 64 58 [l0, l1, l2, l3, l4, l5, l6] st h Q := jg_icP rfl rfl
theorem s64_58 : jx_Go jxP d 64 58 [.ref a, l1, l2, l3, l4, l5, l6] st h Q ↔ jx_Go jxP d 64 59 [.ref a, l1, l2, l3, l4, l5, l6] (.ref a :: st) h Q := jg_al rfl rfl
theorem s64_59 : jx_Go jxP d 64 59 [l0, l1, l2, l3, l4, l5, l6] (.ref a :: st) h Q ↔ ∃ v, jx_fl h a 9 0 = some v ∧ jx_Go jxP d 64 62 [l0, l1, l2, l3, l4, l5, l6] (v :: st) h Q := jg_gf rfl
theorem s64_62 : jx_Go jxP d 64 62 [l0, .int x, l2, l3, l4, l5, l6] st h Q ↔ jx_Go jxP d 64 63 [l0, .int x, l2, l3, l4, l5, l6] (.int x :: st) h Q := jg_il rfl rfl
theorem s64_63 : jx_Go jxP d 64 63 [l0, l1, .int x, l3, l4, l5, l6] st h Q ↔ jx_Go jxP d 64 64 [l0, l1, .int x, l3, l4, l5, l6] (.int x :: st) h Q := jg_il rfl rfl
theorem s64_64 : jx_Go jxP (d + 1) 64 64 [l0, l1, l2, l3, l4, l5, l6] (.int x1 :: .int x0 :: .ref a :: st) h Q ↔ (st.length ≤ 4 ∧ jx_cl h a = some 4 ∧ jx_Go jxP d 31 0 [.ref a, .int x0, .int x1] [] h (fun s1 h1 => jx_Go jxP (d + 1) 64 67 [l0, l1, l2, l3, l4, l5, l6] (s1 ++ st) h1 Q)) := jg_callV (as := [.int x1, .int x0, .ref a]) rfl rfl rfl rfl rfl
theorem s64_67 : jx_Go jxP d 64 67 [l0, l1, l2, l3, l4, l5, l6] (.int x :: st) h Q ↔ if x = 0 then jx_Go jxP d 64 116 [l0, l1, l2, l3, l4, l5, l6] st h Q else jx_Go jxP d 64 70 [l0, l1, l2, l3, l4, l5, l6] st h Q := jg_ifP rfl rfl
theorem s64_70 : jx_Go jxP d 64 70 [.ref a, l1, l2, l3, l4, l5, l6] st h Q ↔ jx_Go jxP d 64 71 [.ref a, l1, l2, l3, l4, l5, l6] (.ref a :: st) h Q := jg_al rfl rfl
theorem s64_71 : jx_Go jxP d 64 71 [l0, l1, l2, l3, l4, l5, l6] (.ref a :: st) h Q ↔ ∃ v, jx_fl h a 9 2 = some v ∧ jx_Go jxP d 64 74 [l0, l1, l2, l3, l4, l5, l6] (v :: st) h Q := jg_gf rfl
theorem s64_74 : jx_Go jxP d 64 74 [l0, l1, l2, l3, .int x, l5, l6] st h Q ↔ jx_Go jxP d 64 76 [l0, l1, l2, l3, .int x, l5, l6] (.int x :: st) h Q := jg_il rfl rfl
theorem s64_76 : jx_Go jxP d 64 76 [l0, l1, l2, l3, l4, l5, l6] st h Q ↔ jx_Go jxP d 64 77 [l0, l1, l2, l3, l4, l5, l6] (.int (nI 2) :: st) h Q := jg_c rfl
theorem s64_77 : jx_Go jxP d 64 77 [l0, l1, l2, l3, l4, l5, l6] (.int y :: .int x :: .ref a :: st) h Q ↔ ∃ q, jx_ai h a = some q ∧ jx_in x q.1 ∧ jx_Go jxP d 64 78 [l0, l1, l2, l3, l4, l5, l6] st (jx_wi h a q.1 (upd q.2 x.toNatClampNeg y)) Q := jg_iw rfl
theorem s64_78 : jx_Go jxP d 64 78 [.ref a, l1, l2, l3, l4, l5, l6] st h Q ↔ jx_Go jxP d 64 79 [.ref a, l1, l2, l3, l4, l5, l6] (.ref a :: st) h Q := jg_al rfl rfl
theorem s64_79 : jx_Go jxP d 64 79 [l0, l1, l2, l3, l4, l5, l6] (.ref a :: st) h Q ↔ ∃ v, jx_fl h a 9 5 = some v ∧ jx_Go jxP d 64 82 [l0, l1, l2, l3, l4, l5, l6] (v :: st) h Q := jg_gf rfl
theorem s64_82 : jx_Go jxP d 64 82 [l0, l1, l2, l3, .int x, l5, l6] st h Q ↔ jx_Go jxP d 64 84 [l0, l1, l2, l3, .int x, l5, l6] (.int x :: st) h Q := jg_il rfl rfl
theorem s64_84 : jx_Go jxP d 64 84 [.ref a, l1, l2, l3, l4, l5, l6] st h Q ↔ jx_Go jxP d 64 85 [.ref a, l1, l2, l3, l4, l5, l6] (.ref a :: st) h Q := jg_al rfl rfl
theorem s64_85 : jx_Go jxP d 64 85 [l0, l1, l2, l3, l4, l5, l6] (.ref a :: st) h Q ↔ ∃ v, jx_fl h a 9 0 = some v ∧ jx_Go jxP d 64 88 [l0, l1, l2, l3, l4, l5, l6] (v :: st) h Q := jg_gf rfl
theorem s64_88 : jx_Go jxP d 64 88 [l0, l1, l2, l3, l4, l5, l6] (.ref a :: st) h Q ↔ ∃ v, jx_fl h a 4 2 = some v ∧ jx_Go jxP d 64 91 [l0, l1, l2, l3, l4, l5, l6] (v :: st) h Q := jg_gf rfl
theorem s64_91 : jx_Go jxP d 64 91 [l0, .int x, l2, l3, l4, l5, l6] st h Q ↔ jx_Go jxP d 64 92 [l0, .int x, l2, l3, l4, l5, l6] (.int x :: st) h Q := jg_il rfl rfl
theorem s64_92 : jx_Go jxP d 64 92 [l0, l1, l2, l3, l4, l5, l6] (.int x :: .ref a :: st) h Q ↔ ∃ q, jx_ai h a = some q ∧ jx_in x q.1 ∧ jx_Go jxP d 64 93 [l0, l1, l2, l3, l4, l5, l6] (.int (q.2 x.toNatClampNeg) :: st) h Q := jg_ia rfl
theorem s64_93 : jx_Go jxP d 64 93 [l0, l1, .int x, l3, l4, l5, l6] st h Q ↔ jx_Go jxP d 64 94 [l0, l1, .int x, l3, l4, l5, l6] (.int x :: st) h Q := jg_il rfl rfl
theorem s64_94 : jx_Go jxP d 64 94 [l0, l1, l2, l3, l4, l5, l6] (.int y :: .int x :: st) h Q ↔ jx_Go jxP d 64 95 [l0, l1, l2, l3, l4, l5, l6] (.int (x &&& y) :: st) h Q := jg_b (f := fun x y => x &&& y) rfl
theorem s64_95 : jx_Go jxP d 64 95 [l0, l1, l2, l3, l4, l5, l6] (.int x :: st) h Q ↔ if x = 0 then jx_Go jxP d 64 102 [l0, l1, l2, l3, l4, l5, l6] st h Q else jx_Go jxP d 64 98 [l0, l1, l2, l3, l4, l5, l6] st h Q := jg_ifP rfl rfl
theorem s64_98 : jx_Go jxP d 64 98 [l0, l1, l2, l3, l4, l5, l6] st h Q ↔ jx_Go jxP d 64 99 [l0, l1, l2, l3, l4, l5, l6] (.int (nI 1) :: st) h Q := jg_c rfl
theorem s64_99 : jx_Go jxP d 64 99 [l0, l1, l2, l3, l4, l5, l6] st h Q ↔ jx_Go jxP d 64 103 [l0, l1, l2, l3, l4, l5, l6] st h Q := jg_go rfl
theorem s64_102 : jx_Go jxP d 64 102 [l0, l1, l2, l3, l4, l5, l6] st h Q ↔ jx_Go jxP d 64 103 [l0, l1, l2, l3, l4, l5, l6] (.int (nI 0) :: st) h Q := jg_c rfl
theorem s64_103 : jx_Go jxP d 64 103 [l0, l1, l2, l3, l4, l5, l6] (.int y :: .int x :: .ref a :: st) h Q ↔ ∃ q, jx_ai h a = some q ∧ jx_in x q.1 ∧ jx_Go jxP d 64 104 [l0, l1, l2, l3, l4, l5, l6] st (jx_wi h a q.1 (upd q.2 x.toNatClampNeg y)) Q := jg_iw rfl
theorem s64_104 : jx_Go jxP d 64 104 [.ref a, l1, l2, l3, l4, l5, l6] st h Q ↔ jx_Go jxP d 64 105 [.ref a, l1, l2, l3, l4, l5, l6] (.ref a :: st) h Q := jg_al rfl rfl
theorem s64_105 : jx_Go jxP d 64 105 [l0, l1, l2, l3, l4, l5, l6] (.ref a :: st) h Q ↔ ∃ v, jx_fl h a 9 6 = some v ∧ jx_Go jxP d 64 108 [l0, l1, l2, l3, l4, l5, l6] (v :: st) h Q := jg_gf rfl
theorem s64_108 : jx_Go jxP d 64 108 [l0, l1, l2, l3, .int x, l5, l6] st h Q ↔ jx_Go jxP d 64 110 [l0, l1, l2, l3, .int x, l5, l6] (.int x :: st) h Q := jg_il rfl rfl
theorem s64_110 : jx_Go jxP d 64 110 [l0, l1, l2, l3, l4, l5, l6] st h Q ↔ jx_Go jxP d 64 112 [l0, l1, l2, l3, l4, l5, l6] (.int (-100) :: st) h Q := jg_c rfl
theorem s64_112 : jx_Go jxP d 64 112 [l0, l1, l2, l3, l4, l5, l6] (.int y :: .int x :: .ref a :: st) h Q ↔ ∃ q, jx_ai h a = some q ∧ jx_in x q.1 ∧ jx_Go jxP d 64 113 [l0, l1, l2, l3, l4, l5, l6] st (jx_wi h a q.1 (upd q.2 x.toNatClampNeg y)) Q := jg_iw rfl
theorem s64_113 : jx_Go jxP d 64 113 [l0, l1, l2, l3, .int x, l5, l6] st h Q ↔ jx_Go jxP d 64 115 [l0, l1, l2, l3, .int x, l5, l6] (.int x :: st) h Q := jg_il rfl rfl
theorem s64_115 : jx_Go jxP d 64 115 [l0, l1, l2, l3, l4, l5, l6] [.int x] h Q ↔ Q [.int x] h := jx_rt rfl rfl
theorem s64_116 : jx_Go jxP d 64 116 [.ref a, l1, l2, l3, l4, l5, l6] st h Q ↔ jx_Go jxP d 64 117 [.ref a, l1, l2, l3, l4, l5, l6] (.ref a :: st) h Q := jg_al rfl rfl
theorem s64_117 : jx_Go jxP d 64 117 [l0, l1, l2, l3, l4, l5, l6] (.ref a :: st) h Q ↔ ∃ v, jx_fl h a 9 1 = some v ∧ jx_Go jxP d 64 120 [l0, l1, l2, l3, l4, l5, l6] (v :: st) h Q := jg_gf rfl
theorem s64_120 : jx_Go jxP d 64 120 [l0, .int x, l2, l3, l4, l5, l6] st h Q ↔ jx_Go jxP d 64 121 [l0, .int x, l2, l3, l4, l5, l6] (.int x :: st) h Q := jg_il rfl rfl
theorem s64_121 : jx_Go jxP d 64 121 [l0, l1, .int x, l3, l4, l5, l6] st h Q ↔ jx_Go jxP d 64 122 [l0, l1, .int x, l3, l4, l5, l6] (.int x :: st) h Q := jg_il rfl rfl
theorem s64_122 : jx_Go jxP (d + 1) 64 122 [l0, l1, l2, l3, l4, l5, l6] (.int x1 :: .int x0 :: .ref a :: st) h Q ↔ (st.length ≤ 4 ∧ jx_cl h a = some 0 ∧ jx_Go jxP d 7 0 [.ref a, .int x0, .int x1, jx_u, jx_u, jx_u] [] h (fun s1 h1 => jx_Go jxP (d + 1) 64 125 [l0, l1, l2, l3, l4, l5, l6] (s1 ++ st) h1 Q)) := jg_callV (as := [.int x1, .int x0, .ref a]) rfl rfl rfl rfl rfl
theorem s64_125 : jx_Go jxP d 64 125 [l0, l1, l2, l3, l4, l5, l6] (.int x :: st) h Q ↔ jx_Go jxP d 64 127 [l0, l1, l2, l3, l4, .int x, l6] st h Q := jg_is rfl rfl
theorem s64_127 : jx_Go jxP d 64 127 [l0, l1, l2, l3, l4, .int x, l6] st h Q ↔ jx_Go jxP d 64 129 [l0, l1, l2, l3, l4, .int x, l6] (.int x :: st) h Q := jg_il rfl rfl
theorem s64_129 : jx_Go jxP d 64 129 [l0, l1, l2, l3, l4, l5, l6] st h Q ↔ jx_Go jxP d 64 131 [l0, l1, l2, l3, l4, l5, l6] (.int (nI 32) :: st) h Q := jg_c rfl
theorem s64_131 : jx_Go jxP d 64 131 [l0, l1, l2, l3, l4, l5, l6] (.int y :: .int x :: st) h Q ↔ (¬ y = 0 ∧ jx_Go jxP d 64 132 [l0, l1, l2, l3, l4, l5, l6] (.int (x - x / y * y) :: st) h Q) := jg_q (f := fun x y => x - x / y * y) rfl
theorem s64_132 : jx_Go jxP d 64 132 [l0, l1, l2, l3, l4, l5, l6] (.int x :: st) h Q ↔ jx_Go jxP d 64 134 [l0, l1, l2, l3, l4, l5, .int x] st h Q := jg_is rfl rfl
theorem s64_134 : jx_Go jxP d 64 134 [l0, l1, l2, l3, l4, .int x, l6] st h Q ↔ jx_Go jxP d 64 136 [l0, l1, l2, l3, l4, .int x, l6] (.int x :: st) h Q := jg_il rfl rfl
theorem s64_136 : jx_Go jxP d 64 136 [l0, l1, l2, l3, l4, l5, l6] st h Q ↔ jx_Go jxP d 64 138 [l0, l1, l2, l3, l4, l5, l6] (.int (nI 32) :: st) h Q := jg_c rfl
theorem s64_138 : jx_Go jxP d 64 138 [l0, l1, l2, l3, l4, l5, l6] (.int y :: .int x :: st) h Q ↔ if x < y then jx_Go jxP d 64 188 [l0, l1, l2, l3, l4, l5, l6] st h Q else jx_Go jxP d 64 141 [l0, l1, l2, l3, l4, l5, l6] st h Q := jg_icP rfl rfl
theorem s64_141 : jx_Go jxP d 64 141 [.ref a, l1, l2, l3, l4, l5, l6] st h Q ↔ jx_Go jxP d 64 142 [.ref a, l1, l2, l3, l4, l5, l6] (.ref a :: st) h Q := jg_al rfl rfl
theorem s64_142 : jx_Go jxP d 64 142 [l0, l1, l2, l3, l4, l5, l6] (.ref a :: st) h Q ↔ ∃ v, jx_fl h a 9 2 = some v ∧ jx_Go jxP d 64 145 [l0, l1, l2, l3, l4, l5, l6] (v :: st) h Q := jg_gf rfl
theorem s64_145 : jx_Go jxP d 64 145 [l0, l1, l2, l3, .int x, l5, l6] st h Q ↔ jx_Go jxP d 64 147 [l0, l1, l2, l3, .int x, l5, l6] (.int x :: st) h Q := jg_il rfl rfl
theorem s64_147 : jx_Go jxP d 64 147 [l0, l1, l2, l3, l4, l5, l6] st h Q ↔ jx_Go jxP d 64 148 [l0, l1, l2, l3, l4, l5, l6] (.int (nI 1) :: st) h Q := jg_c rfl
theorem s64_148 : jx_Go jxP d 64 148 [l0, l1, l2, l3, l4, l5, l6] (.int y :: .int x :: .ref a :: st) h Q ↔ ∃ q, jx_ai h a = some q ∧ jx_in x q.1 ∧ jx_Go jxP d 64 149 [l0, l1, l2, l3, l4, l5, l6] st (jx_wi h a q.1 (upd q.2 x.toNatClampNeg y)) Q := jg_iw rfl
theorem s64_149 : jx_Go jxP d 64 149 [.ref a, l1, l2, l3, l4, l5, l6] st h Q ↔ jx_Go jxP d 64 150 [.ref a, l1, l2, l3, l4, l5, l6] (.ref a :: st) h Q := jg_al rfl rfl
theorem s64_150 : jx_Go jxP d 64 150 [l0, l1, l2, l3, l4, l5, l6] (.ref a :: st) h Q ↔ ∃ v, jx_fl h a 9 5 = some v ∧ jx_Go jxP d 64 153 [l0, l1, l2, l3, l4, l5, l6] (v :: st) h Q := jg_gf rfl
theorem s64_153 : jx_Go jxP d 64 153 [l0, l1, l2, l3, .int x, l5, l6] st h Q ↔ jx_Go jxP d 64 155 [l0, l1, l2, l3, .int x, l5, l6] (.int x :: st) h Q := jg_il rfl rfl
theorem s64_155 : jx_Go jxP d 64 155 [.ref a, l1, l2, l3, l4, l5, l6] st h Q ↔ jx_Go jxP d 64 156 [.ref a, l1, l2, l3, l4, l5, l6] (.ref a :: st) h Q := jg_al rfl rfl
theorem s64_156 : jx_Go jxP d 64 156 [l0, .int x, l2, l3, l4, l5, l6] st h Q ↔ jx_Go jxP d 64 157 [l0, .int x, l2, l3, l4, l5, l6] (.int x :: st) h Q := jg_il rfl rfl
theorem s64_157 : jx_Go jxP d 64 157 [l0, l1, .int x, l3, l4, l5, l6] st h Q ↔ jx_Go jxP d 64 158 [l0, l1, .int x, l3, l4, l5, l6] (.int x :: st) h Q := jg_il rfl rfl
theorem s64_158 : jx_Go jxP d 64 158 [l0, l1, l2, l3, l4, l5, .int x] st h Q ↔ jx_Go jxP d 64 160 [l0, l1, l2, l3, l4, l5, .int x] (.int x :: st) h Q := jg_il rfl rfl
theorem s64_160 : jx_Go jxP d 64 160 [l0, l1, l2, l3, l4, l5, l6] (.int y :: .int x :: st) h Q ↔ jx_Go jxP d 64 161 [l0, l1, l2, l3, l4, l5, l6] (.int (x - y) :: st) h Q := jg_b (f := fun x y => x - y) rfl
theorem s64_161 : jx_Go jxP d 64 161 [l0, l1, l2, .int x, l4, l5, l6] st h Q ↔ jx_Go jxP d 64 162 [l0, l1, l2, .int x, l4, l5, l6] (.int x :: st) h Q := jg_il rfl rfl
theorem s64_162 : jx_Go jxP d 64 162 [l0, l1, l2, l3, l4, l5, l6] st h Q ↔ jx_Go jxP d 64 163 [l0, l1, l2, l3, l4, l5, l6] (.int (nI 1) :: st) h Q := jg_c rfl
theorem s64_163 : jx_Go jxP d 64 163 [l0, l1, l2, l3, l4, l5, l6] (.int y :: .int x :: st) h Q ↔ jx_Go jxP d 64 164 [l0, l1, l2, l3, l4, l5, l6] (.int (x + y) :: st) h Q := jg_b (f := fun x y => x + y) rfl
theorem s64_164 : jx_Go jxP (d + 1) 64 164 [l0, l1, l2, l3, l4, l5, l6] (.int x2 :: .int x1 :: .int x0 :: .ref a :: st) h Q ↔ (st.length ≤ 4 ∧ jx_cl h a = some 9 ∧ jx_Go jxP d 64 0 [.ref a, .int x0, .int x1, .int x2, jx_u, jx_u, jx_u] [] h (fun s1 h1 => jx_Go jxP (d + 1) 64 167 [l0, l1, l2, l3, l4, l5, l6] (s1 ++ st) h1 Q)) := jg_callV (as := [.int x2, .int x1, .int x0, .ref a]) rfl rfl rfl rfl rfl
theorem s64_167 : jx_Go jxP d 64 167 [l0, l1, l2, l3, l4, l5, l6] (.int y :: .int x :: .ref a :: st) h Q ↔ ∃ q, jx_ai h a = some q ∧ jx_in x q.1 ∧ jx_Go jxP d 64 168 [l0, l1, l2, l3, l4, l5, l6] st (jx_wi h a q.1 (upd q.2 x.toNatClampNeg y)) Q := jg_iw rfl
theorem s64_168 : jx_Go jxP d 64 168 [.ref a, l1, l2, l3, l4, l5, l6] st h Q ↔ jx_Go jxP d 64 169 [.ref a, l1, l2, l3, l4, l5, l6] (.ref a :: st) h Q := jg_al rfl rfl
theorem s64_169 : jx_Go jxP d 64 169 [l0, l1, l2, l3, l4, l5, l6] (.ref a :: st) h Q ↔ ∃ v, jx_fl h a 9 6 = some v ∧ jx_Go jxP d 64 172 [l0, l1, l2, l3, l4, l5, l6] (v :: st) h Q := jg_gf rfl
theorem s64_172 : jx_Go jxP d 64 172 [l0, l1, l2, l3, .int x, l5, l6] st h Q ↔ jx_Go jxP d 64 174 [l0, l1, l2, l3, .int x, l5, l6] (.int x :: st) h Q := jg_il rfl rfl
theorem s64_174 : jx_Go jxP d 64 174 [.ref a, l1, l2, l3, l4, l5, l6] st h Q ↔ jx_Go jxP d 64 175 [.ref a, l1, l2, l3, l4, l5, l6] (.ref a :: st) h Q := jg_al rfl rfl
theorem s64_175 : jx_Go jxP d 64 175 [l0, .int x, l2, l3, l4, l5, l6] st h Q ↔ jx_Go jxP d 64 176 [l0, .int x, l2, l3, l4, l5, l6] (.int x :: st) h Q := jg_il rfl rfl
theorem s64_176 : jx_Go jxP d 64 176 [l0, l1, l2, l3, l4, l5, .int x] st h Q ↔ jx_Go jxP d 64 178 [l0, l1, l2, l3, l4, l5, .int x] (.int x :: st) h Q := jg_il rfl rfl
theorem s64_178 : jx_Go jxP d 64 178 [l0, l1, l2, .int x, l4, l5, l6] st h Q ↔ jx_Go jxP d 64 179 [l0, l1, l2, .int x, l4, l5, l6] (.int x :: st) h Q := jg_il rfl rfl
theorem s64_179 : jx_Go jxP d 64 179 [l0, l1, l2, l3, l4, l5, l6] st h Q ↔ jx_Go jxP d 64 180 [l0, l1, l2, l3, l4, l5, l6] (.int (nI 1) :: st) h Q := jg_c rfl
theorem s64_180 : jx_Go jxP d 64 180 [l0, l1, l2, l3, l4, l5, l6] (.int y :: .int x :: st) h Q ↔ jx_Go jxP d 64 181 [l0, l1, l2, l3, l4, l5, l6] (.int (x + y) :: st) h Q := jg_b (f := fun x y => x + y) rfl
theorem s64_181 : jx_Go jxP (d + 1) 64 181 [l0, l1, l2, l3, l4, l5, l6] (.int x2 :: .int x1 :: .int x0 :: .ref a :: st) h Q ↔ (st.length ≤ 4 ∧ jx_cl h a = some 9 ∧ jx_Go jxP d 64 0 [.ref a, .int x0, .int x1, .int x2, jx_u, jx_u, jx_u] [] h (fun s1 h1 => jx_Go jxP (d + 1) 64 184 [l0, l1, l2, l3, l4, l5, l6] (s1 ++ st) h1 Q)) := jg_callV (as := [.int x2, .int x1, .int x0, .ref a]) rfl rfl rfl rfl rfl
theorem s64_184 : jx_Go jxP d 64 184 [l0, l1, l2, l3, l4, l5, l6] (.int y :: .int x :: .ref a :: st) h Q ↔ ∃ q, jx_ai h a = some q ∧ jx_in x q.1 ∧ jx_Go jxP d 64 185 [l0, l1, l2, l3, l4, l5, l6] st (jx_wi h a q.1 (upd q.2 x.toNatClampNeg y)) Q := jg_iw rfl
theorem s64_185 : jx_Go jxP d 64 185 [l0, l1, l2, l3, l4, l5, l6] st h Q ↔ jx_Go jxP d 64 232 [l0, l1, l2, l3, l4, l5, l6] st h Q := jg_go rfl
theorem s64_188 : jx_Go jxP d 64 188 [.ref a, l1, l2, l3, l4, l5, l6] st h Q ↔ jx_Go jxP d 64 189 [.ref a, l1, l2, l3, l4, l5, l6] (.ref a :: st) h Q := jg_al rfl rfl
theorem s64_189 : jx_Go jxP d 64 189 [l0, l1, l2, l3, l4, l5, l6] (.ref a :: st) h Q ↔ ∃ v, jx_fl h a 9 2 = some v ∧ jx_Go jxP d 64 192 [l0, l1, l2, l3, l4, l5, l6] (v :: st) h Q := jg_gf rfl
theorem s64_192 : jx_Go jxP d 64 192 [l0, l1, l2, l3, .int x, l5, l6] st h Q ↔ jx_Go jxP d 64 194 [l0, l1, l2, l3, .int x, l5, l6] (.int x :: st) h Q := jg_il rfl rfl
theorem s64_194 : jx_Go jxP d 64 194 [l0, l1, l2, l3, l4, l5, l6] st h Q ↔ jx_Go jxP d 64 195 [l0, l1, l2, l3, l4, l5, l6] (.int (nI 0) :: st) h Q := jg_c rfl
theorem s64_195 : jx_Go jxP d 64 195 [l0, l1, l2, l3, l4, l5, l6] (.int y :: .int x :: .ref a :: st) h Q ↔ ∃ q, jx_ai h a = some q ∧ jx_in x q.1 ∧ jx_Go jxP d 64 196 [l0, l1, l2, l3, l4, l5, l6] st (jx_wi h a q.1 (upd q.2 x.toNatClampNeg y)) Q := jg_iw rfl
theorem s64_196 : jx_Go jxP d 64 196 [.ref a, l1, l2, l3, l4, l5, l6] st h Q ↔ jx_Go jxP d 64 197 [.ref a, l1, l2, l3, l4, l5, l6] (.ref a :: st) h Q := jg_al rfl rfl
theorem s64_197 : jx_Go jxP d 64 197 [l0, l1, l2, l3, l4, l5, l6] (.ref a :: st) h Q ↔ ∃ v, jx_fl h a 9 5 = some v ∧ jx_Go jxP d 64 200 [l0, l1, l2, l3, l4, l5, l6] (v :: st) h Q := jg_gf rfl
theorem s64_200 : jx_Go jxP d 64 200 [l0, l1, l2, l3, .int x, l5, l6] st h Q ↔ jx_Go jxP d 64 202 [l0, l1, l2, l3, .int x, l5, l6] (.int x :: st) h Q := jg_il rfl rfl
theorem s64_202 : jx_Go jxP d 64 202 [.ref a, l1, l2, l3, l4, l5, l6] st h Q ↔ jx_Go jxP d 64 203 [.ref a, l1, l2, l3, l4, l5, l6] (.ref a :: st) h Q := jg_al rfl rfl
theorem s64_203 : jx_Go jxP d 64 203 [l0, .int x, l2, l3, l4, l5, l6] st h Q ↔ jx_Go jxP d 64 204 [l0, .int x, l2, l3, l4, l5, l6] (.int x :: st) h Q := jg_il rfl rfl
theorem s64_204 : jx_Go jxP d 64 204 [l0, l1, l2, l3, l4, l5, .int x] st h Q ↔ jx_Go jxP d 64 206 [l0, l1, l2, l3, l4, l5, .int x] (.int x :: st) h Q := jg_il rfl rfl
theorem s64_206 : jx_Go jxP d 64 206 [l0, l1, l2, l3, l4, l5, l6] (.int y :: .int x :: st) h Q ↔ jx_Go jxP d 64 207 [l0, l1, l2, l3, l4, l5, l6] (.int (x - y) :: st) h Q := jg_b (f := fun x y => x - y) rfl
theorem s64_207 : jx_Go jxP d 64 207 [l0, l1, .int x, l3, l4, l5, l6] st h Q ↔ jx_Go jxP d 64 208 [l0, l1, .int x, l3, l4, l5, l6] (.int x :: st) h Q := jg_il rfl rfl
theorem s64_208 : jx_Go jxP d 64 208 [l0, l1, l2, .int x, l4, l5, l6] st h Q ↔ jx_Go jxP d 64 209 [l0, l1, l2, .int x, l4, l5, l6] (.int x :: st) h Q := jg_il rfl rfl
theorem s64_209 : jx_Go jxP d 64 209 [l0, l1, l2, l3, l4, l5, l6] st h Q ↔ jx_Go jxP d 64 210 [l0, l1, l2, l3, l4, l5, l6] (.int (nI 1) :: st) h Q := jg_c rfl
theorem s64_210 : jx_Go jxP d 64 210 [l0, l1, l2, l3, l4, l5, l6] (.int y :: .int x :: st) h Q ↔ jx_Go jxP d 64 211 [l0, l1, l2, l3, l4, l5, l6] (.int (x + y) :: st) h Q := jg_b (f := fun x y => x + y) rfl
theorem s64_211 : jx_Go jxP (d + 1) 64 211 [l0, l1, l2, l3, l4, l5, l6] (.int x2 :: .int x1 :: .int x0 :: .ref a :: st) h Q ↔ (st.length ≤ 4 ∧ jx_cl h a = some 9 ∧ jx_Go jxP d 64 0 [.ref a, .int x0, .int x1, .int x2, jx_u, jx_u, jx_u] [] h (fun s1 h1 => jx_Go jxP (d + 1) 64 214 [l0, l1, l2, l3, l4, l5, l6] (s1 ++ st) h1 Q)) := jg_callV (as := [.int x2, .int x1, .int x0, .ref a]) rfl rfl rfl rfl rfl
theorem s64_214 : jx_Go jxP d 64 214 [l0, l1, l2, l3, l4, l5, l6] (.int y :: .int x :: .ref a :: st) h Q ↔ ∃ q, jx_ai h a = some q ∧ jx_in x q.1 ∧ jx_Go jxP d 64 215 [l0, l1, l2, l3, l4, l5, l6] st (jx_wi h a q.1 (upd q.2 x.toNatClampNeg y)) Q := jg_iw rfl
theorem s64_215 : jx_Go jxP d 64 215 [.ref a, l1, l2, l3, l4, l5, l6] st h Q ↔ jx_Go jxP d 64 216 [.ref a, l1, l2, l3, l4, l5, l6] (.ref a :: st) h Q := jg_al rfl rfl
theorem s64_216 : jx_Go jxP d 64 216 [l0, l1, l2, l3, l4, l5, l6] (.ref a :: st) h Q ↔ ∃ v, jx_fl h a 9 6 = some v ∧ jx_Go jxP d 64 219 [l0, l1, l2, l3, l4, l5, l6] (v :: st) h Q := jg_gf rfl
theorem s64_219 : jx_Go jxP d 64 219 [l0, l1, l2, l3, .int x, l5, l6] st h Q ↔ jx_Go jxP d 64 221 [l0, l1, l2, l3, .int x, l5, l6] (.int x :: st) h Q := jg_il rfl rfl
theorem s64_221 : jx_Go jxP d 64 221 [.ref a, l1, l2, l3, l4, l5, l6] st h Q ↔ jx_Go jxP d 64 222 [.ref a, l1, l2, l3, l4, l5, l6] (.ref a :: st) h Q := jg_al rfl rfl
theorem s64_222 : jx_Go jxP d 64 222 [l0, l1, l2, l3, l4, l5, .int x] st h Q ↔ jx_Go jxP d 64 224 [l0, l1, l2, l3, l4, l5, .int x] (.int x :: st) h Q := jg_il rfl rfl
theorem s64_224 : jx_Go jxP d 64 224 [l0, l1, .int x, l3, l4, l5, l6] st h Q ↔ jx_Go jxP d 64 225 [l0, l1, .int x, l3, l4, l5, l6] (.int x :: st) h Q := jg_il rfl rfl
theorem s64_225 : jx_Go jxP d 64 225 [l0, l1, l2, .int x, l4, l5, l6] st h Q ↔ jx_Go jxP d 64 226 [l0, l1, l2, .int x, l4, l5, l6] (.int x :: st) h Q := jg_il rfl rfl
theorem s64_226 : jx_Go jxP d 64 226 [l0, l1, l2, l3, l4, l5, l6] st h Q ↔ jx_Go jxP d 64 227 [l0, l1, l2, l3, l4, l5, l6] (.int (nI 1) :: st) h Q := jg_c rfl
theorem s64_227 : jx_Go jxP d 64 227 [l0, l1, l2, l3, l4, l5, l6] (.int y :: .int x :: st) h Q ↔ jx_Go jxP d 64 228 [l0, l1, l2, l3, l4, l5, l6] (.int (x + y) :: st) h Q := jg_b (f := fun x y => x + y) rfl
theorem s64_228 : jx_Go jxP (d + 1) 64 228 [l0, l1, l2, l3, l4, l5, l6] (.int x2 :: .int x1 :: .int x0 :: .ref a :: st) h Q ↔ (st.length ≤ 4 ∧ jx_cl h a = some 9 ∧ jx_Go jxP d 64 0 [.ref a, .int x0, .int x1, .int x2, jx_u, jx_u, jx_u] [] h (fun s1 h1 => jx_Go jxP (d + 1) 64 231 [l0, l1, l2, l3, l4, l5, l6] (s1 ++ st) h1 Q)) := jg_callV (as := [.int x2, .int x1, .int x0, .ref a]) rfl rfl rfl rfl rfl
theorem s64_231 : jx_Go jxP d 64 231 [l0, l1, l2, l3, l4, l5, l6] (.int y :: .int x :: .ref a :: st) h Q ↔ ∃ q, jx_ai h a = some q ∧ jx_in x q.1 ∧ jx_Go jxP d 64 232 [l0, l1, l2, l3, l4, l5, l6] st (jx_wi h a q.1 (upd q.2 x.toNatClampNeg y)) Q := jg_iw rfl
theorem s64_232 : jx_Go jxP d 64 232 [l0, l1, l2, l3, .int x, l5, l6] st h Q ↔ jx_Go jxP d 64 234 [l0, l1, l2, l3, .int x, l5, l6] (.int x :: st) h Q := jg_il rfl rfl
theorem s64_234 : jx_Go jxP d 64 234 [l0, l1, l2, l3, l4, l5, l6] [.int x] h Q ↔ Q [.int x] h := jx_rt rfl rfl
-- 65 TalkBench$Talk.tellOf
theorem s65_0 : jx_Go jxP d 65 0 [l0, l1, .int x] st h Q ↔ jx_Go jxP d 65 1 [l0, l1, .int x] (.int x :: st) h Q := jg_il rfl rfl
theorem s65_1 : jx_Go jxP d 65 1 [l0, l1, l2] (.int x :: st) h Q ↔ jx_Go jxP d 65 (js_swt 1 70 0 4 [35, 42, 49, 56, 63] x) [l0, l1, l2] st h Q := jg_sw rfl
theorem s65_36 : jx_Go jxP d 65 36 [.ref a, l1, l2] st h Q ↔ jx_Go jxP d 65 37 [.ref a, l1, l2] (.ref a :: st) h Q := jg_al rfl rfl
theorem s65_37 : jx_Go jxP d 65 37 [l0, l1, l2] (.ref a :: st) h Q ↔ ∃ v, jx_fl h a 9 2 = some v ∧ jx_Go jxP d 65 40 [l0, l1, l2] (v :: st) h Q := jg_gf rfl
theorem s65_40 : jx_Go jxP d 65 40 [l0, .int x, l2] st h Q ↔ jx_Go jxP d 65 41 [l0, .int x, l2] (.int x :: st) h Q := jg_il rfl rfl
theorem s65_41 : jx_Go jxP d 65 41 [l0, l1, l2] (.int x :: .ref a :: st) h Q ↔ ∃ q, jx_ai h a = some q ∧ jx_in x q.1 ∧ jx_Go jxP d 65 42 [l0, l1, l2] (.int (q.2 x.toNatClampNeg) :: st) h Q := jg_ia rfl
theorem s65_42 : jx_Go jxP d 65 42 [l0, l1, l2] [.int x] h Q ↔ Q [.int x] h := jx_rt rfl rfl
theorem s65_43 : jx_Go jxP d 65 43 [.ref a, l1, l2] st h Q ↔ jx_Go jxP d 65 44 [.ref a, l1, l2] (.ref a :: st) h Q := jg_al rfl rfl
theorem s65_44 : jx_Go jxP d 65 44 [l0, l1, l2] (.ref a :: st) h Q ↔ ∃ v, jx_fl h a 9 3 = some v ∧ jx_Go jxP d 65 47 [l0, l1, l2] (v :: st) h Q := jg_gf rfl
theorem s65_47 : jx_Go jxP d 65 47 [l0, .int x, l2] st h Q ↔ jx_Go jxP d 65 48 [l0, .int x, l2] (.int x :: st) h Q := jg_il rfl rfl
theorem s65_48 : jx_Go jxP d 65 48 [l0, l1, l2] (.int x :: .ref a :: st) h Q ↔ ∃ q, jx_ai h a = some q ∧ jx_in x q.1 ∧ jx_Go jxP d 65 49 [l0, l1, l2] (.int (q.2 x.toNatClampNeg) :: st) h Q := jg_ia rfl
theorem s65_49 : jx_Go jxP d 65 49 [l0, l1, l2] [.int x] h Q ↔ Q [.int x] h := jx_rt rfl rfl
theorem s65_50 : jx_Go jxP d 65 50 [.ref a, l1, l2] st h Q ↔ jx_Go jxP d 65 51 [.ref a, l1, l2] (.ref a :: st) h Q := jg_al rfl rfl
theorem s65_51 : jx_Go jxP d 65 51 [l0, l1, l2] (.ref a :: st) h Q ↔ ∃ v, jx_fl h a 9 4 = some v ∧ jx_Go jxP d 65 54 [l0, l1, l2] (v :: st) h Q := jg_gf rfl
theorem s65_54 : jx_Go jxP d 65 54 [l0, .int x, l2] st h Q ↔ jx_Go jxP d 65 55 [l0, .int x, l2] (.int x :: st) h Q := jg_il rfl rfl
theorem s65_55 : jx_Go jxP d 65 55 [l0, l1, l2] (.int x :: .ref a :: st) h Q ↔ ∃ q, jx_ai h a = some q ∧ jx_in x q.1 ∧ jx_Go jxP d 65 56 [l0, l1, l2] (.int (q.2 x.toNatClampNeg) :: st) h Q := jg_ia rfl
theorem s65_56 : jx_Go jxP d 65 56 [l0, l1, l2] [.int x] h Q ↔ Q [.int x] h := jx_rt rfl rfl
theorem s65_57 : jx_Go jxP d 65 57 [.ref a, l1, l2] st h Q ↔ jx_Go jxP d 65 58 [.ref a, l1, l2] (.ref a :: st) h Q := jg_al rfl rfl
theorem s65_58 : jx_Go jxP d 65 58 [l0, l1, l2] (.ref a :: st) h Q ↔ ∃ v, jx_fl h a 9 5 = some v ∧ jx_Go jxP d 65 61 [l0, l1, l2] (v :: st) h Q := jg_gf rfl
theorem s65_61 : jx_Go jxP d 65 61 [l0, .int x, l2] st h Q ↔ jx_Go jxP d 65 62 [l0, .int x, l2] (.int x :: st) h Q := jg_il rfl rfl
theorem s65_62 : jx_Go jxP d 65 62 [l0, l1, l2] (.int x :: .ref a :: st) h Q ↔ ∃ q, jx_ai h a = some q ∧ jx_in x q.1 ∧ jx_Go jxP d 65 63 [l0, l1, l2] (.int (q.2 x.toNatClampNeg) :: st) h Q := jg_ia rfl
theorem s65_63 : jx_Go jxP d 65 63 [l0, l1, l2] [.int x] h Q ↔ Q [.int x] h := jx_rt rfl rfl
theorem s65_64 : jx_Go jxP d 65 64 [.ref a, l1, l2] st h Q ↔ jx_Go jxP d 65 65 [.ref a, l1, l2] (.ref a :: st) h Q := jg_al rfl rfl
theorem s65_65 : jx_Go jxP d 65 65 [l0, l1, l2] (.ref a :: st) h Q ↔ ∃ v, jx_fl h a 9 6 = some v ∧ jx_Go jxP d 65 68 [l0, l1, l2] (v :: st) h Q := jg_gf rfl
theorem s65_68 : jx_Go jxP d 65 68 [l0, .int x, l2] st h Q ↔ jx_Go jxP d 65 69 [l0, .int x, l2] (.int x :: st) h Q := jg_il rfl rfl
theorem s65_69 : jx_Go jxP d 65 69 [l0, l1, l2] (.int x :: .ref a :: st) h Q ↔ ∃ q, jx_ai h a = some q ∧ jx_in x q.1 ∧ jx_Go jxP d 65 70 [l0, l1, l2] (.int (q.2 x.toNatClampNeg) :: st) h Q := jg_ia rfl
theorem s65_70 : jx_Go jxP d 65 70 [l0, l1, l2] [.int x] h Q ↔ Q [.int x] h := jx_rt rfl rfl
theorem s65_71 : jx_Go jxP d 65 71 [.ref a, l1, l2] st h Q ↔ jx_Go jxP d 65 72 [.ref a, l1, l2] (.ref a :: st) h Q := jg_al rfl rfl
theorem s65_72 : jx_Go jxP d 65 72 [l0, l1, l2] (.ref a :: st) h Q ↔ ∃ v, jx_fl h a 9 7 = some v ∧ jx_Go jxP d 65 75 [l0, l1, l2] (v :: st) h Q := jg_gf rfl
theorem s65_75 : jx_Go jxP d 65 75 [l0, .int x, l2] st h Q ↔ jx_Go jxP d 65 76 [l0, .int x, l2] (.int x :: st) h Q := jg_il rfl rfl
theorem s65_76 : jx_Go jxP d 65 76 [l0, l1, l2] (.int x :: .ref a :: st) h Q ↔ ∃ q, jx_ai h a = some q ∧ jx_in x q.1 ∧ jx_Go jxP d 65 77 [l0, l1, l2] (.int (q.2 x.toNatClampNeg) :: st) h Q := jg_ia rfl
theorem s65_77 : jx_Go jxP d 65 77 [l0, l1, l2] [.int x] h Q ↔ Q [.int x] h := jx_rt rfl rfl
-- 66 TalkBench$Talk.wordsFor
theorem s66_0 : jx_Go jxP d 66 0 [l0, l1, l2, l3, l4, l5, l6, l7] st h Q ↔ jx_Go jxP d 66 1 [l0, l1, l2, l3, l4, l5, l6, l7] (.int (nI 1) :: st) h Q := jg_c rfl
theorem s66_1 : jx_Go jxP d 66 1 [l0, l1, l2, l3, l4, l5, l6, l7] (.int x :: st) h Q ↔ jx_Go jxP d 66 2 [l0, l1, l2, .int x, l4, l5, l6, l7] st h Q := jg_is rfl rfl
theorem s66_2 : jx_Go jxP d 66 2 [l0, l1, l2, l3, l4, l5, l6, l7] st h Q ↔ jx_Go jxP d 66 3 [l0, l1, l2, l3, l4, l5, l6, l7] (.int (nI 0) :: st) h Q := jg_c rfl
theorem s66_3 : jx_Go jxP d 66 3 [l0, l1, l2, l3, l4, l5, l6, l7] (.int x :: st) h Q ↔ jx_Go jxP d 66 5 [l0, l1, l2, l3, .int x, l5, l6, l7] st h Q := jg_is rfl rfl
theorem s66_5 : jx_Go jxP d 66 5 [l0, l1, l2, l3, l4, l5, l6, l7] st h Q ↔ jx_Go jxP d 66 6 [l0, l1, l2, l3, l4, l5, l6, l7] (.int (nI 0) :: st) h Q := jg_c rfl
theorem s66_6 : jx_Go jxP d 66 6 [l0, l1, l2, l3, l4, l5, l6, l7] (.int x :: st) h Q ↔ jx_Go jxP d 66 8 [l0, l1, l2, l3, l4, .int x, l6, l7] st h Q := jg_is rfl rfl
theorem s66_8 : jx_Go jxP d 66 8 [l0, l1, l2, l3, l4, .int x, l6, l7] st h Q ↔ jx_Go jxP d 66 10 [l0, l1, l2, l3, l4, .int x, l6, l7] (.int x :: st) h Q := jg_il rfl rfl
theorem s66_10 : jx_Go jxP d 66 10 [l0, l1, l2, l3, l4, l5, l6, l7] st h Q ↔ jx_Go jxP d 66 12 [l0, l1, l2, l3, l4, l5, l6, l7] (.int (nI 8) :: st) h Q := jg_c rfl
theorem s66_12 : jx_Go jxP d 66 12 [l0, l1, l2, l3, l4, l5, l6, l7] (.int y :: .int x :: st) h Q ↔ if y ≤ x then jx_Go jxP d 66 105 [l0, l1, l2, l3, l4, l5, l6, l7] st h Q else jx_Go jxP d 66 15 [l0, l1, l2, l3, l4, l5, l6, l7] st h Q := jg_icP rfl rfl
theorem s66_15 : jx_Go jxP d 66 15 [.ref a, l1, l2, l3, l4, l5, l6, l7] st h Q ↔ jx_Go jxP d 66 16 [.ref a, l1, l2, l3, l4, l5, l6, l7] (.ref a :: st) h Q := jg_al rfl rfl
theorem s66_16 : jx_Go jxP d 66 16 [l0, l1, l2, l3, l4, l5, l6, l7] (.ref a :: st) h Q ↔ ∃ v, jx_fl h a 9 2 = some v ∧ jx_Go jxP d 66 19 [l0, l1, l2, l3, l4, l5, l6, l7] (v :: st) h Q := jg_gf rfl
theorem s66_19 : jx_Go jxP d 66 19 [l0, l1, l2, l3, .int x, l5, l6, l7] st h Q ↔ jx_Go jxP d 66 21 [l0, l1, l2, l3, .int x, l5, l6, l7] (.int x :: st) h Q := jg_il rfl rfl
theorem s66_21 : jx_Go jxP d 66 21 [l0, l1, l2, l3, l4, l5, l6, l7] (.int x :: .ref a :: st) h Q ↔ ∃ q, jx_ai h a = some q ∧ jx_in x q.1 ∧ jx_Go jxP d 66 22 [l0, l1, l2, l3, l4, l5, l6, l7] (.int (q.2 x.toNatClampNeg) :: st) h Q := jg_ia rfl
theorem s66_22 : jx_Go jxP d 66 22 [l0, l1, l2, l3, l4, l5, l6, l7] st h Q ↔ jx_Go jxP d 66 23 [l0, l1, l2, l3, l4, l5, l6, l7] (.int (nI 2) :: st) h Q := jg_c rfl
theorem s66_23 : jx_Go jxP d 66 23 [l0, l1, l2, l3, l4, l5, l6, l7] (.int y :: .int x :: st) h Q ↔ if x = y then jx_Go jxP d 66 105 [l0, l1, l2, l3, l4, l5, l6, l7] st h Q else jx_Go jxP d 66 26 [l0, l1, l2, l3, l4, l5, l6, l7] st h Q := jg_icP rfl rfl
theorem s66_26 : jx_Go jxP d 66 26 [.ref a, l1, l2, l3, l4, l5, l6, l7] st h Q ↔ jx_Go jxP d 66 27 [.ref a, l1, l2, l3, l4, l5, l6, l7] (.ref a :: st) h Q := jg_al rfl rfl
theorem s66_27 : jx_Go jxP d 66 27 [l0, l1, l2, l3, l4, l5, l6, l7] (.ref a :: st) h Q ↔ ∃ v, jx_fl h a 9 6 = some v ∧ jx_Go jxP d 66 30 [l0, l1, l2, l3, l4, l5, l6, l7] (v :: st) h Q := jg_gf rfl
theorem s66_30 : jx_Go jxP d 66 30 [l0, l1, l2, l3, .int x, l5, l6, l7] st h Q ↔ jx_Go jxP d 66 32 [l0, l1, l2, l3, .int x, l5, l6, l7] (.int x :: st) h Q := jg_il rfl rfl
theorem s66_32 : jx_Go jxP d 66 32 [l0, l1, l2, l3, l4, l5, l6, l7] (.int x :: .ref a :: st) h Q ↔ ∃ q, jx_ai h a = some q ∧ jx_in x q.1 ∧ jx_Go jxP d 66 33 [l0, l1, l2, l3, l4, l5, l6, l7] (.int (q.2 x.toNatClampNeg) :: st) h Q := jg_ia rfl
theorem s66_33 : jx_Go jxP d 66 33 [l0, l1, l2, l3, l4, l5, l6, l7] (.int x :: st) h Q ↔ jx_Go jxP d 66 35 [l0, l1, l2, l3, l4, l5, .int x, l7] st h Q := jg_is rfl rfl
theorem s66_35 : jx_Go jxP d 66 35 [.ref a, l1, l2, l3, l4, l5, l6, l7] st h Q ↔ jx_Go jxP d 66 36 [.ref a, l1, l2, l3, l4, l5, l6, l7] (.ref a :: st) h Q := jg_al rfl rfl
theorem s66_36 : jx_Go jxP d 66 36 [l0, l1, l2, l3, l4, l5, l6, l7] (.ref a :: st) h Q ↔ ∃ v, jx_fl h a 9 2 = some v ∧ jx_Go jxP d 66 39 [l0, l1, l2, l3, l4, l5, l6, l7] (v :: st) h Q := jg_gf rfl
theorem s66_39 : jx_Go jxP d 66 39 [l0, l1, l2, l3, .int x, l5, l6, l7] st h Q ↔ jx_Go jxP d 66 41 [l0, l1, l2, l3, .int x, l5, l6, l7] (.int x :: st) h Q := jg_il rfl rfl
theorem s66_41 : jx_Go jxP d 66 41 [l0, l1, l2, l3, l4, l5, l6, l7] (.int x :: .ref a :: st) h Q ↔ ∃ q, jx_ai h a = some q ∧ jx_in x q.1 ∧ jx_Go jxP d 66 42 [l0, l1, l2, l3, l4, l5, l6, l7] (.int (q.2 x.toNatClampNeg) :: st) h Q := jg_ia rfl
theorem s66_42 : jx_Go jxP d 66 42 [l0, l1, l2, l3, l4, l5, l6, l7] (.int x :: st) h Q ↔ if x = 0 then jx_Go jxP d 66 45 [l0, l1, l2, l3, l4, l5, l6, l7] st h Q else jx_Go jxP d 66 59 [l0, l1, l2, l3, l4, l5, l6, l7] st h Q := jg_ifN rfl rfl
theorem s66_45 : jx_Go jxP d 66 45 [.ref a, l1, l2, l3, l4, l5, l6, l7] st h Q ↔ jx_Go jxP d 66 46 [.ref a, l1, l2, l3, l4, l5, l6, l7] (.ref a :: st) h Q := jg_al rfl rfl
theorem s66_46 : jx_Go jxP d 66 46 [l0, l1, l2, l3, l4, l5, l6, l7] (.ref a :: st) h Q ↔ ∃ v, jx_fl h a 9 3 = some v ∧ jx_Go jxP d 66 49 [l0, l1, l2, l3, l4, l5, l6, l7] (v :: st) h Q := jg_gf rfl
theorem s66_49 : jx_Go jxP d 66 49 [l0, l1, l2, l3, l4, l5, .int x, l7] st h Q ↔ jx_Go jxP d 66 51 [l0, l1, l2, l3, l4, l5, .int x, l7] (.int x :: st) h Q := jg_il rfl rfl
theorem s66_51 : jx_Go jxP d 66 51 [l0, l1, l2, l3, l4, l5, l6, l7] (.int x :: .ref a :: st) h Q ↔ ∃ q, jx_ai h a = some q ∧ jx_in x q.1 ∧ jx_Go jxP d 66 52 [l0, l1, l2, l3, l4, l5, l6, l7] (.int (q.2 x.toNatClampNeg) :: st) h Q := jg_ia rfl
theorem s66_52 : jx_Go jxP d 66 52 [l0, .int x, l2, l3, l4, l5, l6, l7] st h Q ↔ jx_Go jxP d 66 53 [l0, .int x, l2, l3, l4, l5, l6, l7] (.int x :: st) h Q := jg_il rfl rfl
theorem s66_53 : jx_Go jxP d 66 53 [l0, l1, l2, l3, l4, l5, l6, l7] (.int y :: .int x :: st) h Q ↔ jx_Go jxP d 66 54 [l0, l1, l2, l3, l4, l5, l6, l7] (.int (x >>> (y &&& 31)) :: st) h Q := jg_b (f := fun x y => x >>> (y &&& 31)) rfl
theorem s66_54 : jx_Go jxP d 66 54 [l0, l1, l2, l3, l4, l5, l6, l7] st h Q ↔ jx_Go jxP d 66 55 [l0, l1, l2, l3, l4, l5, l6, l7] (.int (nI 1) :: st) h Q := jg_c rfl
theorem s66_55 : jx_Go jxP d 66 55 [l0, l1, l2, l3, l4, l5, l6, l7] (.int y :: .int x :: st) h Q ↔ jx_Go jxP d 66 56 [l0, l1, l2, l3, l4, l5, l6, l7] (.int (x &&& y) :: st) h Q := jg_b (f := fun x y => x &&& y) rfl
theorem s66_56 : jx_Go jxP d 66 56 [l0, l1, l2, l3, l4, l5, l6, l7] st h Q ↔ jx_Go jxP d 66 70 [l0, l1, l2, l3, l4, l5, l6, l7] st h Q := jg_go rfl
theorem s66_59 : jx_Go jxP d 66 59 [.ref a, l1, l2, l3, l4, l5, l6, l7] st h Q ↔ jx_Go jxP d 66 60 [.ref a, l1, l2, l3, l4, l5, l6, l7] (.ref a :: st) h Q := jg_al rfl rfl
theorem s66_60 : jx_Go jxP d 66 60 [l0, l1, l2, l3, l4, l5, l6, l7] (.ref a :: st) h Q ↔ ∃ v, jx_fl h a 9 4 = some v ∧ jx_Go jxP d 66 63 [l0, l1, l2, l3, l4, l5, l6, l7] (v :: st) h Q := jg_gf rfl
theorem s66_63 : jx_Go jxP d 66 63 [l0, l1, l2, l3, l4, l5, .int x, l7] st h Q ↔ jx_Go jxP d 66 65 [l0, l1, l2, l3, l4, l5, .int x, l7] (.int x :: st) h Q := jg_il rfl rfl
theorem s66_65 : jx_Go jxP d 66 65 [l0, l1, l2, l3, l4, l5, l6, l7] (.int x :: .ref a :: st) h Q ↔ ∃ q, jx_ai h a = some q ∧ jx_in x q.1 ∧ jx_Go jxP d 66 66 [l0, l1, l2, l3, l4, l5, l6, l7] (.int (q.2 x.toNatClampNeg) :: st) h Q := jg_ia rfl
theorem s66_66 : jx_Go jxP d 66 66 [l0, l1, .int x, l3, l4, l5, l6, l7] st h Q ↔ jx_Go jxP d 66 67 [l0, l1, .int x, l3, l4, l5, l6, l7] (.int x :: st) h Q := jg_il rfl rfl
theorem s66_67 : jx_Go jxP d 66 67 [l0, l1, l2, l3, l4, l5, l6, l7] (.int y :: .int x :: st) h Q ↔ jx_Go jxP d 66 68 [l0, l1, l2, l3, l4, l5, l6, l7] (.int (x >>> (y &&& 31)) :: st) h Q := jg_b (f := fun x y => x >>> (y &&& 31)) rfl
theorem s66_68 : jx_Go jxP d 66 68 [l0, l1, l2, l3, l4, l5, l6, l7] st h Q ↔ jx_Go jxP d 66 69 [l0, l1, l2, l3, l4, l5, l6, l7] (.int (nI 1) :: st) h Q := jg_c rfl
theorem s66_69 : jx_Go jxP d 66 69 [l0, l1, l2, l3, l4, l5, l6, l7] (.int y :: .int x :: st) h Q ↔ jx_Go jxP d 66 70 [l0, l1, l2, l3, l4, l5, l6, l7] (.int (x &&& y) :: st) h Q := jg_b (f := fun x y => x &&& y) rfl
theorem s66_70 : jx_Go jxP d 66 70 [l0, l1, l2, l3, l4, l5, l6, l7] (.int x :: st) h Q ↔ jx_Go jxP d 66 72 [l0, l1, l2, l3, l4, l5, l6, .int x] st h Q := jg_is rfl rfl
theorem s66_72 : jx_Go jxP d 66 72 [l0, l1, l2, l3, l4, l5, l6, l7] st h Q ↔ jx_Go jxP d 66 73 [l0, l1, l2, l3, l4, l5, l6, l7] (.int (nI 2) :: st) h Q := jg_c rfl
theorem s66_73 : jx_Go jxP d 66 73 [l0, l1, l2, .int x, l4, l5, l6, l7] st h Q ↔ jx_Go jxP d 66 74 [l0, l1, l2, .int x, l4, l5, l6, l7] (.int x :: st) h Q := jg_il rfl rfl
theorem s66_74 : jx_Go jxP d 66 74 [l0, l1, l2, l3, l4, l5, l6, l7] (.int y :: .int x :: st) h Q ↔ jx_Go jxP d 66 75 [l0, l1, l2, l3, l4, l5, l6, l7] (.int (x * y) :: st) h Q := jg_b (f := fun x y => x * y) rfl
theorem s66_75 : jx_Go jxP d 66 75 [l0, l1, l2, l3, l4, l5, l6, .int x] st h Q ↔ jx_Go jxP d 66 77 [l0, l1, l2, l3, l4, l5, l6, .int x] (.int x :: st) h Q := jg_il rfl rfl
theorem s66_77 : jx_Go jxP d 66 77 [l0, l1, l2, l3, l4, l5, l6, l7] (.int y :: .int x :: st) h Q ↔ jx_Go jxP d 66 78 [l0, l1, l2, l3, l4, l5, l6, l7] (.int (x + y) :: st) h Q := jg_b (f := fun x y => x + y) rfl
theorem s66_78 : jx_Go jxP d 66 78 [l0, l1, l2, l3, l4, l5, l6, l7] (.int x :: st) h Q ↔ jx_Go jxP d 66 79 [l0, l1, l2, .int x, l4, l5, l6, l7] st h Q := jg_is rfl rfl
theorem s66_79 : jx_Go jxP d 66 79 [l0, l1, l2, l3, l4, l5, l6, .int x] st h Q ↔ jx_Go jxP d 66 81 [l0, l1, l2, l3, l4, l5, l6, .int x] (.int x :: st) h Q := jg_il rfl rfl
theorem s66_81 : jx_Go jxP d 66 81 [l0, l1, l2, l3, l4, l5, l6, l7] st h Q ↔ jx_Go jxP d 66 82 [l0, l1, l2, l3, l4, l5, l6, l7] (.int (nI 1) :: st) h Q := jg_c rfl
theorem s66_82 : jx_Go jxP d 66 82 [l0, l1, l2, l3, l4, l5, l6, l7] (.int y :: .int x :: st) h Q ↔ if x = y then jx_Go jxP d 66 85 [l0, l1, l2, l3, l4, l5, l6, l7] st h Q else jx_Go jxP d 66 90 [l0, l1, l2, l3, l4, l5, l6, l7] st h Q := jg_icN rfl rfl
theorem s66_85 : jx_Go jxP d 66 85 [l0, l1, l2, l3, l4, l5, .int x, l7] st h Q ↔ jx_Go jxP d 66 87 [l0, l1, l2, l3, l4, l5, .int x, l7] (.int x :: st) h Q := jg_il rfl rfl
theorem s66_87 : jx_Go jxP d 66 87 [l0, l1, l2, l3, l4, l5, l6, l7] st h Q ↔ jx_Go jxP d 66 97 [l0, l1, l2, l3, l4, l5, l6, l7] st h Q := jg_go rfl
theorem s66_90 : jx_Go jxP d 66 90 [.ref a, l1, l2, l3, l4, l5, l6, l7] st h Q ↔ jx_Go jxP d 66 91 [.ref a, l1, l2, l3, l4, l5, l6, l7] (.ref a :: st) h Q := jg_al rfl rfl
theorem s66_91 : jx_Go jxP d 66 91 [l0, l1, l2, l3, l4, l5, l6, l7] (.ref a :: st) h Q ↔ ∃ v, jx_fl h a 9 5 = some v ∧ jx_Go jxP d 66 94 [l0, l1, l2, l3, l4, l5, l6, l7] (v :: st) h Q := jg_gf rfl
theorem s66_94 : jx_Go jxP d 66 94 [l0, l1, l2, l3, .int x, l5, l6, l7] st h Q ↔ jx_Go jxP d 66 96 [l0, l1, l2, l3, .int x, l5, l6, l7] (.int x :: st) h Q := jg_il rfl rfl
theorem s66_96 : jx_Go jxP d 66 96 [l0, l1, l2, l3, l4, l5, l6, l7] (.int x :: .ref a :: st) h Q ↔ ∃ q, jx_ai h a = some q ∧ jx_in x q.1 ∧ jx_Go jxP d 66 97 [l0, l1, l2, l3, l4, l5, l6, l7] (.int (q.2 x.toNatClampNeg) :: st) h Q := jg_ia rfl
theorem s66_97 : jx_Go jxP d 66 97 [l0, l1, l2, l3, l4, l5, l6, l7] (.int x :: st) h Q ↔ jx_Go jxP d 66 99 [l0, l1, l2, l3, .int x, l5, l6, l7] st h Q := jg_is rfl rfl
theorem s66_99 : jx_Go jxP d 66 99 [l0, l1, l2, l3, l4, .int x, l6, l7] st h Q ↔ jx_Go jxP d 66 102 [l0, l1, l2, l3, l4, .int (x + (nI 1)), l6, l7] st h Q := jg_inc rfl rfl rfl
theorem s66_102 : jx_Go jxP d 66 102 [l0, l1, l2, l3, l4, l5, l6, l7] st h Q ↔ jx_Go jxP d 66 8 [l0, l1, l2, l3, l4, l5, l6, l7] st h Q := jg_go rfl
theorem s66_105 : jx_Go jxP d 66 105 [l0, l1, l2, .int x, l4, l5, l6, l7] st h Q ↔ jx_Go jxP d 66 106 [l0, l1, l2, .int x, l4, l5, l6, l7] (.int x :: st) h Q := jg_il rfl rfl
theorem s66_106 : jx_Go jxP d 66 106 [l0, l1, l2, l3, l4, l5, l6, l7] [.int x] h Q ↔ Q [.int x] h := jx_rt rfl rfl
-- 67 TalkBench$Task.<init>
theorem s67_0 : jx_Go jxP d 67 0 [.ref a] st h Q ↔ jx_Go jxP d 67 1 [.ref a] (.ref a :: st) h Q := jg_al rfl rfl
theorem s67_1 : jx_Go jxP d 67 1 [l0] [.ref a] h Q ↔ jx_Go jxP d 67 4 [l0] [] h Q := jg_oi rfl
theorem s67_4 : jx_Go jxP d 67 4 [.ref a] st h Q ↔ jx_Go jxP d 67 5 [.ref a] (.ref a :: st) h Q := jg_al rfl rfl
theorem s67_5 : jx_Go jxP d 67 5 [l0] st h Q ↔ jx_Go jxP d 67 6 [l0] (.int (nI 1) :: st) h Q := jg_c rfl
theorem s67_6 : jx_Go jxP d 67 6 [l0] (.int x :: .ref a :: st) h Q ↔ ∃ v, jx_fl h a 10 0 = some v ∧ jx_Go jxP d 67 9 [l0] st (jx_uf h a 0 (.int x)) Q := jg_pfI rfl
theorem s67_9 : jx_Go jxP d 67 9 [.ref a] st h Q ↔ jx_Go jxP d 67 10 [.ref a] (.ref a :: st) h Q := jg_al rfl rfl
theorem s67_10 : jx_Go jxP d 67 10 [l0] st h Q ↔ jx_Go jxP d 67 11 [l0] (.int (nI 1) :: st) h Q := jg_c rfl
theorem s67_11 : jx_Go jxP d 67 11 [l0] (.int x :: .ref a :: st) h Q ↔ ∃ v, jx_fl h a 10 1 = some v ∧ jx_Go jxP d 67 14 [l0] st (jx_uf h a 1 (.int x)) Q := jg_pfI rfl
theorem s67_14 : jx_Go jxP d 67 14 [.ref a] st h Q ↔ jx_Go jxP d 67 15 [.ref a] (.ref a :: st) h Q := jg_al rfl rfl
theorem s67_15 : jx_Go jxP d 67 15 [l0] st h Q ↔ jx_Go jxP d 67 17 [l0] (.int (nI 25) :: st) h Q := jg_c rfl
theorem s67_17 : jx_Go jxP d 67 17 [l0] (.int (nI 25) :: st) h Q ↔ jx_Go jxP d 67 19 [l0] (.ref h.1 :: st) (jx_mk h 25 (.inl (0, 25, .inl (fun _ => 0)))) Q := jg_ni rfl (jx_inB_iff.mp (by decide +kernel))
theorem s67_19 : jx_Go jxP d 67 19 [l0] (.ref b :: .ref a :: st) h Q ↔ ∃ v, jx_fl h a 10 2 = some v ∧ jx_Go jxP d 67 22 [l0] st (jx_uf h a 2 (.ref b)) Q := jg_pfR rfl
theorem s67_22 : jx_Go jxP d 67 22 [.ref a] st h Q ↔ jx_Go jxP d 67 23 [.ref a] (.ref a :: st) h Q := jg_al rfl rfl
theorem s67_23 : jx_Go jxP d 67 23 [l0] st h Q ↔ jx_Go jxP d 67 25 [l0] (.int (nI 25) :: st) h Q := jg_c rfl
theorem s67_25 : jx_Go jxP d 67 25 [l0] (.int (nI 25) :: st) h Q ↔ jx_Go jxP d 67 27 [l0] (.ref h.1 :: st) (jx_mk h 25 (.inl (0, 25, .inl (fun _ => 0)))) Q := jg_ni rfl (jx_inB_iff.mp (by decide +kernel))
theorem s67_27 : jx_Go jxP d 67 27 [l0] (.ref b :: .ref a :: st) h Q ↔ ∃ v, jx_fl h a 10 3 = some v ∧ jx_Go jxP d 67 30 [l0] st (jx_uf h a 3 (.ref b)) Q := jg_pfR rfl
theorem s67_30 : jx_Go jxP d 67 30 [.ref a] st h Q ↔ jx_Go jxP d 67 31 [.ref a] (.ref a :: st) h Q := jg_al rfl rfl
theorem s67_31 : jx_Go jxP d 67 31 [l0] (.ref a :: st) h Q ↔ ∃ v, jx_fl h a 10 3 = some v ∧ jx_Go jxP d 67 34 [l0] (v :: st) h Q := jg_gf rfl
theorem s67_34 : jx_Go jxP d 67 34 [l0] st h Q ↔ jx_Go jxP d 67 35 [l0] (.int (nI 1) :: st) h Q := jg_c rfl
theorem s67_35 : jx_Go jxP (d + 1) 67 35 [l0] (.int x1 :: .ref a0 :: st) h Q ↔ (st.length ≤ 4 ∧ jx_Go jxP d 198 0 [.ref a0, .int x1, jx_u, jx_u] [] h (fun s1 h1 => jx_Go jxP (d + 1) 67 38 [l0] (s1 ++ st) h1 Q)) := jg_callS (as := [.int x1, .ref a0]) rfl rfl rfl rfl
theorem s67_38 : jx_Go jxP d 67 38 [l0] [] h Q ↔ Q [] h := jx_rt rfl rfl
-- 68 TalkBench$Task.size
theorem s68_0 : jx_Go jxP d 68 0 [.ref a] st h Q ↔ jx_Go jxP d 68 1 [.ref a] (.ref a :: st) h Q := jg_al rfl rfl
theorem s68_1 : jx_Go jxP d 68 1 [l0] (.ref a :: st) h Q ↔ ∃ v, jx_fl h a 10 0 = some v ∧ jx_Go jxP d 68 4 [l0] (v :: st) h Q := jg_gf rfl
theorem s68_4 : jx_Go jxP d 68 4 [.ref a] st h Q ↔ jx_Go jxP d 68 5 [.ref a] (.ref a :: st) h Q := jg_al rfl rfl
theorem s68_5 : jx_Go jxP d 68 5 [l0] (.ref a :: st) h Q ↔ ∃ v, jx_fl h a 10 1 = some v ∧ jx_Go jxP d 68 8 [l0] (v :: st) h Q := jg_gf rfl
theorem s68_8 : jx_Go jxP d 68 8 [l0] (.int y :: .int x :: st) h Q ↔ jx_Go jxP d 68 9 [l0] (.int (x * y) :: st) h Q := jg_b (f := fun x y => x * y) rfl
theorem s68_9 : jx_Go jxP d 68 9 [l0] [.int x] h Q ↔ Q [.int x] h := jx_rt rfl rfl
-- 69 TalkBench$Task.has
theorem s69_0 : jx_Go jxP d 69 0 [l0, .int x, l2] st h Q ↔ jx_Go jxP d 69 1 [l0, .int x, l2] (.int x :: st) h Q := jg_il rfl rfl
theorem s69_1 : jx_Go jxP d 69 1 [l0, l1, l2] (.int x :: st) h Q ↔ if x < 0 then jx_Go jxP d 69 28 [l0, l1, l2] st h Q else jx_Go jxP d 69 4 [l0, l1, l2] st h Q := jg_ifP rfl rfl
theorem s69_4 : jx_Go jxP d 69 4 [l0, .int x, l2] st h Q ↔ jx_Go jxP d 69 5 [l0, .int x, l2] (.int x :: st) h Q := jg_il rfl rfl
theorem s69_5 : jx_Go jxP d 69 5 [.ref a, l1, l2] st h Q ↔ jx_Go jxP d 69 6 [.ref a, l1, l2] (.ref a :: st) h Q := jg_al rfl rfl
theorem s69_6 : jx_Go jxP d 69 6 [l0, l1, l2] (.ref a :: st) h Q ↔ ∃ v, jx_fl h a 10 0 = some v ∧ jx_Go jxP d 69 9 [l0, l1, l2] (v :: st) h Q := jg_gf rfl
theorem s69_9 : jx_Go jxP d 69 9 [l0, l1, l2] (.int y :: .int x :: st) h Q ↔ if y ≤ x then jx_Go jxP d 69 28 [l0, l1, l2] st h Q else jx_Go jxP d 69 12 [l0, l1, l2] st h Q := jg_icP rfl rfl
theorem s69_12 : jx_Go jxP d 69 12 [l0, l1, .int x] st h Q ↔ jx_Go jxP d 69 13 [l0, l1, .int x] (.int x :: st) h Q := jg_il rfl rfl
theorem s69_13 : jx_Go jxP d 69 13 [l0, l1, l2] (.int x :: st) h Q ↔ if x < 0 then jx_Go jxP d 69 28 [l0, l1, l2] st h Q else jx_Go jxP d 69 16 [l0, l1, l2] st h Q := jg_ifP rfl rfl
theorem s69_16 : jx_Go jxP d 69 16 [l0, l1, .int x] st h Q ↔ jx_Go jxP d 69 17 [l0, l1, .int x] (.int x :: st) h Q := jg_il rfl rfl
theorem s69_17 : jx_Go jxP d 69 17 [.ref a, l1, l2] st h Q ↔ jx_Go jxP d 69 18 [.ref a, l1, l2] (.ref a :: st) h Q := jg_al rfl rfl
theorem s69_18 : jx_Go jxP d 69 18 [l0, l1, l2] (.ref a :: st) h Q ↔ ∃ v, jx_fl h a 10 1 = some v ∧ jx_Go jxP d 69 21 [l0, l1, l2] (v :: st) h Q := jg_gf rfl
theorem s69_21 : jx_Go jxP d 69 21 [l0, l1, l2] (.int y :: .int x :: st) h Q ↔ if y ≤ x then jx_Go jxP d 69 28 [l0, l1, l2] st h Q else jx_Go jxP d 69 24 [l0, l1, l2] st h Q := jg_icP rfl rfl
theorem s69_24 : jx_Go jxP d 69 24 [l0, l1, l2] st h Q ↔ jx_Go jxP d 69 25 [l0, l1, l2] (.int (nI 1) :: st) h Q := jg_c rfl
theorem s69_25 : jx_Go jxP d 69 25 [l0, l1, l2] st h Q ↔ jx_Go jxP d 69 29 [l0, l1, l2] st h Q := jg_go rfl
theorem s69_28 : jx_Go jxP d 69 28 [l0, l1, l2] st h Q ↔ jx_Go jxP d 69 29 [l0, l1, l2] (.int (nI 0) :: st) h Q := jg_c rfl
theorem s69_29b0 : jx_Go jxP d 69 29 [l0, l1, l2] [.int (nI 0)] h Q ↔ Q [.int (nI 0)] h := jx_rt rfl rfl
theorem s69_29b1 : jx_Go jxP d 69 29 [l0, l1, l2] [.int (nI 1)] h Q ↔ Q [.int (nI 1)] h := jx_rt rfl rfl
-- 70 TalkBench$Task.clear
theorem s70_0 : jx_Go jxP d 70 0 [.ref a, l1, l2] st h Q ↔ jx_Go jxP d 70 1 [.ref a, l1, l2] (.ref a :: st) h Q := jg_al rfl rfl
theorem s70_1 : jx_Go jxP d 70 1 [l0, .int x, l2] st h Q ↔ jx_Go jxP d 70 2 [l0, .int x, l2] (.int x :: st) h Q := jg_il rfl rfl
theorem s70_2 : jx_Go jxP d 70 2 [l0, l1, l2] (.int x :: .ref a :: st) h Q ↔ ∃ v, jx_fl h a 10 0 = some v ∧ jx_Go jxP d 70 5 [l0, l1, l2] st (jx_uf h a 0 (.int x)) Q := jg_pfI rfl
theorem s70_5 : jx_Go jxP d 70 5 [.ref a, l1, l2] st h Q ↔ jx_Go jxP d 70 6 [.ref a, l1, l2] (.ref a :: st) h Q := jg_al rfl rfl
theorem s70_6 : jx_Go jxP d 70 6 [l0, l1, .int x] st h Q ↔ jx_Go jxP d 70 7 [l0, l1, .int x] (.int x :: st) h Q := jg_il rfl rfl
theorem s70_7 : jx_Go jxP d 70 7 [l0, l1, l2] (.int x :: .ref a :: st) h Q ↔ ∃ v, jx_fl h a 10 1 = some v ∧ jx_Go jxP d 70 10 [l0, l1, l2] st (jx_uf h a 1 (.int x)) Q := jg_pfI rfl
theorem s70_10 : jx_Go jxP d 70 10 [.ref a, l1, l2] st h Q ↔ jx_Go jxP d 70 11 [.ref a, l1, l2] (.ref a :: st) h Q := jg_al rfl rfl
theorem s70_11 : jx_Go jxP d 70 11 [l0, l1, l2] (.ref a :: st) h Q ↔ ∃ v, jx_fl h a 10 2 = some v ∧ jx_Go jxP d 70 14 [l0, l1, l2] (v :: st) h Q := jg_gf rfl
theorem s70_14 : jx_Go jxP d 70 14 [l0, l1, l2] st h Q ↔ jx_Go jxP d 70 15 [l0, l1, l2] (.int (nI 0) :: st) h Q := jg_c rfl
theorem s70_15 : jx_Go jxP (d + 1) 70 15 [l0, l1, l2] (.int x1 :: .ref a0 :: st) h Q ↔ (st.length ≤ 4 ∧ jx_Go jxP d 198 0 [.ref a0, .int x1, jx_u, jx_u] [] h (fun s1 h1 => jx_Go jxP (d + 1) 70 18 [l0, l1, l2] (s1 ++ st) h1 Q)) := jg_callS (as := [.int x1, .ref a0]) rfl rfl rfl rfl
theorem s70_18 : jx_Go jxP d 70 18 [.ref a, l1, l2] st h Q ↔ jx_Go jxP d 70 19 [.ref a, l1, l2] (.ref a :: st) h Q := jg_al rfl rfl
theorem s70_19 : jx_Go jxP d 70 19 [l0, l1, l2] (.ref a :: st) h Q ↔ ∃ v, jx_fl h a 10 3 = some v ∧ jx_Go jxP d 70 22 [l0, l1, l2] (v :: st) h Q := jg_gf rfl
theorem s70_22 : jx_Go jxP d 70 22 [l0, l1, l2] st h Q ↔ jx_Go jxP d 70 23 [l0, l1, l2] (.int (nI 1) :: st) h Q := jg_c rfl
theorem s70_23 : jx_Go jxP (d + 1) 70 23 [l0, l1, l2] (.int x1 :: .ref a0 :: st) h Q ↔ (st.length ≤ 4 ∧ jx_Go jxP d 198 0 [.ref a0, .int x1, jx_u, jx_u] [] h (fun s1 h1 => jx_Go jxP (d + 1) 70 26 [l0, l1, l2] (s1 ++ st) h1 Q)) := jg_callS (as := [.int x1, .ref a0]) rfl rfl rfl rfl
theorem s70_26 : jx_Go jxP d 70 26 [l0, l1, l2] [] h Q ↔ Q [] h := jx_rt rfl rfl
-- 71 TalkBench$Task.become
theorem s71_0 : jx_Go jxP d 71 0 [.ref a, l1] st h Q ↔ jx_Go jxP d 71 1 [.ref a, l1] (.ref a :: st) h Q := jg_al rfl rfl
theorem s71_1 : jx_Go jxP d 71 1 [l0, .ref a] st h Q ↔ jx_Go jxP d 71 2 [l0, .ref a] (.ref a :: st) h Q := jg_al rfl rfl
theorem s71_2 : jx_Go jxP d 71 2 [l0, l1] (.ref a :: st) h Q ↔ ∃ v, jx_fl h a 10 0 = some v ∧ jx_Go jxP d 71 5 [l0, l1] (v :: st) h Q := jg_gf rfl
theorem s71_5 : jx_Go jxP d 71 5 [l0, l1] (.int x :: .ref a :: st) h Q ↔ ∃ v, jx_fl h a 10 0 = some v ∧ jx_Go jxP d 71 8 [l0, l1] st (jx_uf h a 0 (.int x)) Q := jg_pfI rfl
theorem s71_8 : jx_Go jxP d 71 8 [.ref a, l1] st h Q ↔ jx_Go jxP d 71 9 [.ref a, l1] (.ref a :: st) h Q := jg_al rfl rfl
theorem s71_9 : jx_Go jxP d 71 9 [l0, .ref a] st h Q ↔ jx_Go jxP d 71 10 [l0, .ref a] (.ref a :: st) h Q := jg_al rfl rfl
theorem s71_10 : jx_Go jxP d 71 10 [l0, l1] (.ref a :: st) h Q ↔ ∃ v, jx_fl h a 10 1 = some v ∧ jx_Go jxP d 71 13 [l0, l1] (v :: st) h Q := jg_gf rfl
theorem s71_13 : jx_Go jxP d 71 13 [l0, l1] (.int x :: .ref a :: st) h Q ↔ ∃ v, jx_fl h a 10 1 = some v ∧ jx_Go jxP d 71 16 [l0, l1] st (jx_uf h a 1 (.int x)) Q := jg_pfI rfl
theorem s71_16 : jx_Go jxP d 71 16 [l0, .ref a] st h Q ↔ jx_Go jxP d 71 17 [l0, .ref a] (.ref a :: st) h Q := jg_al rfl rfl
theorem s71_17 : jx_Go jxP d 71 17 [l0, l1] (.ref a :: st) h Q ↔ ∃ v, jx_fl h a 10 2 = some v ∧ jx_Go jxP d 71 20 [l0, l1] (v :: st) h Q := jg_gf rfl
theorem s71_20 : jx_Go jxP d 71 20 [l0, l1] st h Q ↔ jx_Go jxP d 71 21 [l0, l1] (.int (nI 0) :: st) h Q := jg_c rfl
theorem s71_21 : jx_Go jxP d 71 21 [.ref a, l1] st h Q ↔ jx_Go jxP d 71 22 [.ref a, l1] (.ref a :: st) h Q := jg_al rfl rfl
theorem s71_22 : jx_Go jxP d 71 22 [l0, l1] (.ref a :: st) h Q ↔ ∃ v, jx_fl h a 10 2 = some v ∧ jx_Go jxP d 71 25 [l0, l1] (v :: st) h Q := jg_gf rfl
theorem s71_25 : jx_Go jxP d 71 25 [l0, l1] st h Q ↔ jx_Go jxP d 71 26 [l0, l1] (.int (nI 0) :: st) h Q := jg_c rfl
theorem s71_26 : jx_Go jxP d 71 26 [l0, l1] st h Q ↔ jx_Go jxP d 71 28 [l0, l1] (.int (nI 25) :: st) h Q := jg_c rfl
theorem s71_28 : jx_Go jxP d 71 28 [l0, l1] (.int z :: .int y :: .ref b :: .int x :: .ref a :: st) h Q ↔ ∃ q, jx_ai h a = some q ∧ ∃ q', jx_ai h b = some q' ∧ (st.length ≤ 4 ∧ ¬ x < 0 ∧ ¬ y < 0 ∧ ¬ z < 0 ∧ x.toNatClampNeg + z.toNatClampNeg ≤ q.1 ∧ y.toNatClampNeg + z.toNatClampNeg ≤ q'.1) ∧ jx_Go jxP d 71 31 [l0, l1] st (jx_wi h b q'.1 (va_cpy q.2 q'.2 x.toNatClampNeg y.toNatClampNeg z.toNatClampNeg)) Q := jg_cp rfl
theorem s71_31 : jx_Go jxP d 71 31 [l0, .ref a] st h Q ↔ jx_Go jxP d 71 32 [l0, .ref a] (.ref a :: st) h Q := jg_al rfl rfl
theorem s71_32 : jx_Go jxP d 71 32 [l0, l1] (.ref a :: st) h Q ↔ ∃ v, jx_fl h a 10 3 = some v ∧ jx_Go jxP d 71 35 [l0, l1] (v :: st) h Q := jg_gf rfl
theorem s71_35 : jx_Go jxP d 71 35 [l0, l1] st h Q ↔ jx_Go jxP d 71 36 [l0, l1] (.int (nI 0) :: st) h Q := jg_c rfl
theorem s71_36 : jx_Go jxP d 71 36 [.ref a, l1] st h Q ↔ jx_Go jxP d 71 37 [.ref a, l1] (.ref a :: st) h Q := jg_al rfl rfl
theorem s71_37 : jx_Go jxP d 71 37 [l0, l1] (.ref a :: st) h Q ↔ ∃ v, jx_fl h a 10 3 = some v ∧ jx_Go jxP d 71 40 [l0, l1] (v :: st) h Q := jg_gf rfl
theorem s71_40 : jx_Go jxP d 71 40 [l0, l1] st h Q ↔ jx_Go jxP d 71 41 [l0, l1] (.int (nI 0) :: st) h Q := jg_c rfl
theorem s71_41 : jx_Go jxP d 71 41 [l0, l1] st h Q ↔ jx_Go jxP d 71 43 [l0, l1] (.int (nI 25) :: st) h Q := jg_c rfl
theorem s71_43 : jx_Go jxP d 71 43 [l0, l1] (.int z :: .int y :: .ref b :: .int x :: .ref a :: st) h Q ↔ ∃ q, jx_ai h a = some q ∧ ∃ q', jx_ai h b = some q' ∧ (st.length ≤ 4 ∧ ¬ x < 0 ∧ ¬ y < 0 ∧ ¬ z < 0 ∧ x.toNatClampNeg + z.toNatClampNeg ≤ q.1 ∧ y.toNatClampNeg + z.toNatClampNeg ≤ q'.1) ∧ jx_Go jxP d 71 46 [l0, l1] st (jx_wi h b q'.1 (va_cpy q.2 q'.2 x.toNatClampNeg y.toNatClampNeg z.toNatClampNeg)) Q := jg_cp rfl
theorem s71_46 : jx_Go jxP d 71 46 [l0, l1] [] h Q ↔ Q [] h := jx_rt rfl rfl
-- 72 TalkBench$Task.count
theorem s72_0 : jx_Go jxP d 72 0 [l0, l1, l2, l3, l4] st h Q ↔ jx_Go jxP d 72 1 [l0, l1, l2, l3, l4] (.int (nI 0) :: st) h Q := jg_c rfl
theorem s72_1 : jx_Go jxP d 72 1 [l0, l1, l2, l3, l4] (.int x :: st) h Q ↔ jx_Go jxP d 72 2 [l0, l1, .int x, l3, l4] st h Q := jg_is rfl rfl
theorem s72_2 : jx_Go jxP d 72 2 [l0, l1, l2, l3, l4] st h Q ↔ jx_Go jxP d 72 3 [l0, l1, l2, l3, l4] (.int (nI 0) :: st) h Q := jg_c rfl
theorem s72_3 : jx_Go jxP d 72 3 [l0, l1, l2, l3, l4] (.int x :: st) h Q ↔ jx_Go jxP d 72 4 [l0, l1, l2, .int x, l4] st h Q := jg_is rfl rfl
theorem s72_4 : jx_Go jxP d 72 4 [l0, l1, l2, .int x, l4] st h Q ↔ jx_Go jxP d 72 5 [l0, l1, l2, .int x, l4] (.int x :: st) h Q := jg_il rfl rfl
theorem s72_5 : jx_Go jxP d 72 5 [.ref a, l1, l2, l3, l4] st h Q ↔ jx_Go jxP d 72 6 [.ref a, l1, l2, l3, l4] (.ref a :: st) h Q := jg_al rfl rfl
theorem s72_6 : jx_Go jxP d 72 6 [l0, l1, l2, l3, l4] (.ref a :: st) h Q ↔ ∃ v, jx_fl h a 10 0 = some v ∧ jx_Go jxP d 72 9 [l0, l1, l2, l3, l4] (v :: st) h Q := jg_gf rfl
theorem s72_9 : jx_Go jxP d 72 9 [l0, l1, l2, l3, l4] (.int y :: .int x :: st) h Q ↔ if y ≤ x then jx_Go jxP d 72 54 [l0, l1, l2, l3, l4] st h Q else jx_Go jxP d 72 12 [l0, l1, l2, l3, l4] st h Q := jg_icP rfl rfl
theorem s72_12 : jx_Go jxP d 72 12 [l0, l1, l2, l3, l4] st h Q ↔ jx_Go jxP d 72 13 [l0, l1, l2, l3, l4] (.int (nI 0) :: st) h Q := jg_c rfl
theorem s72_13 : jx_Go jxP d 72 13 [l0, l1, l2, l3, l4] (.int x :: st) h Q ↔ jx_Go jxP d 72 15 [l0, l1, l2, l3, .int x] st h Q := jg_is rfl rfl
theorem s72_15 : jx_Go jxP d 72 15 [l0, l1, l2, l3, .int x] st h Q ↔ jx_Go jxP d 72 17 [l0, l1, l2, l3, .int x] (.int x :: st) h Q := jg_il rfl rfl
theorem s72_17 : jx_Go jxP d 72 17 [.ref a, l1, l2, l3, l4] st h Q ↔ jx_Go jxP d 72 18 [.ref a, l1, l2, l3, l4] (.ref a :: st) h Q := jg_al rfl rfl
theorem s72_18 : jx_Go jxP d 72 18 [l0, l1, l2, l3, l4] (.ref a :: st) h Q ↔ ∃ v, jx_fl h a 10 1 = some v ∧ jx_Go jxP d 72 21 [l0, l1, l2, l3, l4] (v :: st) h Q := jg_gf rfl
theorem s72_21 : jx_Go jxP d 72 21 [l0, l1, l2, l3, l4] (.int y :: .int x :: st) h Q ↔ if y ≤ x then jx_Go jxP d 72 48 [l0, l1, l2, l3, l4] st h Q else jx_Go jxP d 72 24 [l0, l1, l2, l3, l4] st h Q := jg_icP rfl rfl
theorem s72_24 : jx_Go jxP d 72 24 [.ref a, l1, l2, l3, l4] st h Q ↔ jx_Go jxP d 72 25 [.ref a, l1, l2, l3, l4] (.ref a :: st) h Q := jg_al rfl rfl
theorem s72_25 : jx_Go jxP d 72 25 [l0, l1, l2, l3, l4] (.ref a :: st) h Q ↔ ∃ v, jx_fl h a 10 2 = some v ∧ jx_Go jxP d 72 28 [l0, l1, l2, l3, l4] (v :: st) h Q := jg_gf rfl
theorem s72_28 : jx_Go jxP d 72 28 [l0, l1, l2, l3, l4] st h Q ↔ jx_Go jxP d 72 29 [l0, l1, l2, l3, l4] (.int (nI 5) :: st) h Q := jg_c rfl
theorem s72_29 : jx_Go jxP d 72 29 [l0, l1, l2, .int x, l4] st h Q ↔ jx_Go jxP d 72 30 [l0, l1, l2, .int x, l4] (.int x :: st) h Q := jg_il rfl rfl
theorem s72_30 : jx_Go jxP d 72 30 [l0, l1, l2, l3, l4] (.int y :: .int x :: st) h Q ↔ jx_Go jxP d 72 31 [l0, l1, l2, l3, l4] (.int (x * y) :: st) h Q := jg_b (f := fun x y => x * y) rfl
theorem s72_31 : jx_Go jxP d 72 31 [l0, l1, l2, l3, .int x] st h Q ↔ jx_Go jxP d 72 33 [l0, l1, l2, l3, .int x] (.int x :: st) h Q := jg_il rfl rfl
theorem s72_33 : jx_Go jxP d 72 33 [l0, l1, l2, l3, l4] (.int y :: .int x :: st) h Q ↔ jx_Go jxP d 72 34 [l0, l1, l2, l3, l4] (.int (x + y) :: st) h Q := jg_b (f := fun x y => x + y) rfl
theorem s72_34 : jx_Go jxP d 72 34 [l0, l1, l2, l3, l4] (.int x :: .ref a :: st) h Q ↔ ∃ q, jx_ai h a = some q ∧ jx_in x q.1 ∧ jx_Go jxP d 72 35 [l0, l1, l2, l3, l4] (.int (q.2 x.toNatClampNeg) :: st) h Q := jg_ia rfl
theorem s72_35 : jx_Go jxP d 72 35 [l0, .int x, l2, l3, l4] st h Q ↔ jx_Go jxP d 72 36 [l0, .int x, l2, l3, l4] (.int x :: st) h Q := jg_il rfl rfl
theorem s72_36 : jx_Go jxP d 72 36 [l0, l1, l2, l3, l4] (.int y :: .int x :: st) h Q ↔ if x = y then jx_Go jxP d 72 39 [l0, l1, l2, l3, l4] st h Q else jx_Go jxP d 72 42 [l0, l1, l2, l3, l4] st h Q := jg_icN rfl rfl
theorem s72_39 : jx_Go jxP d 72 39 [l0, l1, .int x, l3, l4] st h Q ↔ jx_Go jxP d 72 42 [l0, l1, .int (x + (nI 1)), l3, l4] st h Q := jg_inc rfl rfl rfl
theorem s72_42 : jx_Go jxP d 72 42 [l0, l1, l2, l3, .int x] st h Q ↔ jx_Go jxP d 72 45 [l0, l1, l2, l3, .int (x + (nI 1))] st h Q := jg_inc rfl rfl rfl
theorem s72_45 : jx_Go jxP d 72 45 [l0, l1, l2, l3, l4] st h Q ↔ jx_Go jxP d 72 15 [l0, l1, l2, l3, l4] st h Q := jg_go rfl
theorem s72_48 : jx_Go jxP d 72 48 [l0, l1, l2, .int x, l4] st h Q ↔ jx_Go jxP d 72 51 [l0, l1, l2, .int (x + (nI 1)), l4] st h Q := jg_inc rfl rfl rfl
theorem s72_51 : jx_Go jxP d 72 51 [l0, l1, l2, l3, l4] st h Q ↔ jx_Go jxP d 72 4 [l0, l1, l2, l3, l4] st h Q := jg_go rfl
theorem s72_54 : jx_Go jxP d 72 54 [l0, l1, .int x, l3, l4] st h Q ↔ jx_Go jxP d 72 55 [l0, l1, .int x, l3, l4] (.int x :: st) h Q := jg_il rfl rfl
theorem s72_55 : jx_Go jxP d 72 55 [l0, l1, l2, l3, l4] [.int x] h Q ↔ Q [.int x] h := jx_rt rfl rfl
-- 73 TalkBench$Task.findKind
theorem s73_0 : jx_Go jxP d 73 0 [.ref a] st h Q ↔ jx_Go jxP d 73 1 [.ref a] (.ref a :: st) h Q := jg_al rfl rfl
theorem s73_1 : jx_Go jxP d 73 1 [l0] st h Q ↔ jx_Go jxP d 73 2 [l0] (.int (nI 2) :: st) h Q := jg_c rfl
theorem s73_2 : jx_Go jxP (d + 1) 73 2 [l0] (.int x0 :: .ref a :: st) h Q ↔ (st.length ≤ 4 ∧ jx_cl h a = some 10 ∧ jx_Go jxP d 72 0 [.ref a, .int x0, jx_u, jx_u, jx_u] [] h (fun s1 h1 => jx_Go jxP (d + 1) 73 5 [l0] (s1 ++ st) h1 Q)) := jg_callV (as := [.int x0, .ref a]) rfl rfl rfl rfl rfl
theorem s73_5 : jx_Go jxP d 73 5 [l0] (.int x :: st) h Q ↔ if x ≤ 0 then jx_Go jxP d 73 10 [l0] st h Q else jx_Go jxP d 73 8 [l0] st h Q := jg_ifP rfl rfl
theorem s73_8 : jx_Go jxP d 73 8 [l0] st h Q ↔ jx_Go jxP d 73 9 [l0] (.int (nI 3) :: st) h Q := jg_c rfl
theorem s73_9 : jx_Go jxP d 73 9 [l0] [.int x] h Q ↔ Q [.int x] h := jx_rt rfl rfl
theorem s73_10 : jx_Go jxP d 73 10 [.ref a] st h Q ↔ jx_Go jxP d 73 11 [.ref a] (.ref a :: st) h Q := jg_al rfl rfl
theorem s73_11 : jx_Go jxP d 73 11 [l0] (.ref a :: st) h Q ↔ ∃ v, jx_fl h a 10 0 = some v ∧ jx_Go jxP d 73 14 [l0] (v :: st) h Q := jg_gf rfl
theorem s73_14 : jx_Go jxP d 73 14 [.ref a] st h Q ↔ jx_Go jxP d 73 15 [.ref a] (.ref a :: st) h Q := jg_al rfl rfl
theorem s73_15 : jx_Go jxP d 73 15 [l0] (.ref a :: st) h Q ↔ ∃ v, jx_fl h a 10 1 = some v ∧ jx_Go jxP d 73 18 [l0] (v :: st) h Q := jg_gf rfl
theorem s73_18 : jx_Go jxP d 73 18 [l0] (.int y :: .int x :: st) h Q ↔ if x = y then jx_Go jxP d 73 21 [l0] st h Q else jx_Go jxP d 73 25 [l0] st h Q := jg_icN rfl rfl
theorem s73_21 : jx_Go jxP d 73 21 [l0] st h Q ↔ jx_Go jxP d 73 22 [l0] (.int (nI 2) :: st) h Q := jg_c rfl
theorem s73_22 : jx_Go jxP d 73 22 [l0] st h Q ↔ jx_Go jxP d 73 26 [l0] st h Q := jg_go rfl
theorem s73_25 : jx_Go jxP d 73 25 [l0] st h Q ↔ jx_Go jxP d 73 26 [l0] (.int (nI 1) :: st) h Q := jg_c rfl
theorem s73_26 : jx_Go jxP d 73 26 [l0] [.int x] h Q ↔ Q [.int x] h := jx_rt rfl rfl
-- 74 TalkBench$Task.fillByRule
theorem s74_0 : jx_Go jxP d 74 0 [l0, l1, l2, l3] st h Q ↔ jx_Go jxP d 74 1 [l0, l1, l2, l3] (.int (nI 0) :: st) h Q := jg_c rfl
theorem s74_1 : jx_Go jxP d 74 1 [l0, l1, l2, l3] (.int x :: st) h Q ↔ jx_Go jxP d 74 2 [l0, l1, .int x, l3] st h Q := jg_is rfl rfl
theorem s74_2 : jx_Go jxP d 74 2 [l0, l1, .int x, l3] st h Q ↔ jx_Go jxP d 74 3 [l0, l1, .int x, l3] (.int x :: st) h Q := jg_il rfl rfl
theorem s74_3 : jx_Go jxP d 74 3 [.ref a, l1, l2, l3] st h Q ↔ jx_Go jxP d 74 4 [.ref a, l1, l2, l3] (.ref a :: st) h Q := jg_al rfl rfl
theorem s74_4 : jx_Go jxP d 74 4 [l0, l1, l2, l3] (.ref a :: st) h Q ↔ ∃ v, jx_fl h a 10 0 = some v ∧ jx_Go jxP d 74 7 [l0, l1, l2, l3] (v :: st) h Q := jg_gf rfl
theorem s74_7 : jx_Go jxP d 74 7 [l0, l1, l2, l3] (.int y :: .int x :: st) h Q ↔ if y ≤ x then jx_Go jxP d 74 48 [l0, l1, l2, l3] st h Q else jx_Go jxP d 74 10 [l0, l1, l2, l3] st h Q := jg_icP rfl rfl
theorem s74_10 : jx_Go jxP d 74 10 [l0, l1, l2, l3] st h Q ↔ jx_Go jxP d 74 11 [l0, l1, l2, l3] (.int (nI 0) :: st) h Q := jg_c rfl
theorem s74_11 : jx_Go jxP d 74 11 [l0, l1, l2, l3] (.int x :: st) h Q ↔ jx_Go jxP d 74 12 [l0, l1, l2, .int x] st h Q := jg_is rfl rfl
theorem s74_12 : jx_Go jxP d 74 12 [l0, l1, l2, .int x] st h Q ↔ jx_Go jxP d 74 13 [l0, l1, l2, .int x] (.int x :: st) h Q := jg_il rfl rfl
theorem s74_13 : jx_Go jxP d 74 13 [.ref a, l1, l2, l3] st h Q ↔ jx_Go jxP d 74 14 [.ref a, l1, l2, l3] (.ref a :: st) h Q := jg_al rfl rfl
theorem s74_14 : jx_Go jxP d 74 14 [l0, l1, l2, l3] (.ref a :: st) h Q ↔ ∃ v, jx_fl h a 10 1 = some v ∧ jx_Go jxP d 74 17 [l0, l1, l2, l3] (v :: st) h Q := jg_gf rfl
theorem s74_17 : jx_Go jxP d 74 17 [l0, l1, l2, l3] (.int y :: .int x :: st) h Q ↔ if y ≤ x then jx_Go jxP d 74 42 [l0, l1, l2, l3] st h Q else jx_Go jxP d 74 20 [l0, l1, l2, l3] st h Q := jg_icP rfl rfl
theorem s74_20 : jx_Go jxP d 74 20 [.ref a, l1, l2, l3] st h Q ↔ jx_Go jxP d 74 21 [.ref a, l1, l2, l3] (.ref a :: st) h Q := jg_al rfl rfl
theorem s74_21 : jx_Go jxP d 74 21 [l0, l1, l2, l3] (.ref a :: st) h Q ↔ ∃ v, jx_fl h a 10 2 = some v ∧ jx_Go jxP d 74 24 [l0, l1, l2, l3] (v :: st) h Q := jg_gf rfl
theorem s74_24 : jx_Go jxP d 74 24 [l0, l1, l2, l3] st h Q ↔ jx_Go jxP d 74 25 [l0, l1, l2, l3] (.int (nI 5) :: st) h Q := jg_c rfl
theorem s74_25 : jx_Go jxP d 74 25 [l0, l1, .int x, l3] st h Q ↔ jx_Go jxP d 74 26 [l0, l1, .int x, l3] (.int x :: st) h Q := jg_il rfl rfl
theorem s74_26 : jx_Go jxP d 74 26 [l0, l1, l2, l3] (.int y :: .int x :: st) h Q ↔ jx_Go jxP d 74 27 [l0, l1, l2, l3] (.int (x * y) :: st) h Q := jg_b (f := fun x y => x * y) rfl
theorem s74_27 : jx_Go jxP d 74 27 [l0, l1, l2, .int x] st h Q ↔ jx_Go jxP d 74 28 [l0, l1, l2, .int x] (.int x :: st) h Q := jg_il rfl rfl
theorem s74_28 : jx_Go jxP d 74 28 [l0, l1, l2, l3] (.int y :: .int x :: st) h Q ↔ jx_Go jxP d 74 29 [l0, l1, l2, l3] (.int (x + y) :: st) h Q := jg_b (f := fun x y => x + y) rfl
theorem s74_29 : jx_Go jxP d 74 29 [l0, .int x, l2, l3] st h Q ↔ jx_Go jxP d 74 30 [l0, .int x, l2, l3] (.int x :: st) h Q := jg_il rfl rfl
theorem s74_30 : jx_Go jxP d 74 30 [l0, l1, .int x, l3] st h Q ↔ jx_Go jxP d 74 31 [l0, l1, .int x, l3] (.int x :: st) h Q := jg_il rfl rfl
theorem s74_31 : jx_Go jxP d 74 31 [l0, l1, l2, .int x] st h Q ↔ jx_Go jxP d 74 32 [l0, l1, l2, .int x] (.int x :: st) h Q := jg_il rfl rfl
theorem s74_32 : jx_Go jxP (d + 1) 74 32 [l0, l1, l2, l3] (.int x2 :: .int x1 :: .int x0 :: st) h Q ↔ (st.length ≤ 4 ∧ jx_Go jxP d 75 0 [.int x0, .int x1, .int x2, jx_u, jx_u] [] h (fun s1 h1 => jx_Go jxP (d + 1) 74 35 [l0, l1, l2, l3] (s1 ++ st) h1 Q)) := jg_callS (as := [.int x2, .int x1, .int x0]) rfl rfl rfl rfl
theorem s74_35 : jx_Go jxP d 74 35 [l0, l1, l2, l3] (.int y :: .int x :: .ref a :: st) h Q ↔ ∃ q, jx_ai h a = some q ∧ jx_in x q.1 ∧ jx_Go jxP d 74 36 [l0, l1, l2, l3] st (jx_wi h a q.1 (upd q.2 x.toNatClampNeg y)) Q := jg_iw rfl
theorem s74_36 : jx_Go jxP d 74 36 [l0, l1, l2, .int x] st h Q ↔ jx_Go jxP d 74 39 [l0, l1, l2, .int (x + (nI 1))] st h Q := jg_inc rfl rfl rfl
theorem s74_39 : jx_Go jxP d 74 39 [l0, l1, l2, l3] st h Q ↔ jx_Go jxP d 74 12 [l0, l1, l2, l3] st h Q := jg_go rfl
theorem s74_42 : jx_Go jxP d 74 42 [l0, l1, .int x, l3] st h Q ↔ jx_Go jxP d 74 45 [l0, l1, .int (x + (nI 1)), l3] st h Q := jg_inc rfl rfl rfl
theorem s74_45 : jx_Go jxP d 74 45 [l0, l1, l2, l3] st h Q ↔ jx_Go jxP d 74 2 [l0, l1, l2, l3] st h Q := jg_go rfl
theorem s74_48 : jx_Go jxP d 74 48 [l0, l1, l2, l3] [] h Q ↔ Q [] h := jx_rt rfl rfl
-- 75 TalkBench$Task.byRule
theorem s75_0 : jx_Go jxP d 75 0 [l0, .int x, l2, l3, l4] st h Q ↔ jx_Go jxP d 75 1 [l0, .int x, l2, l3, l4] (.int x :: st) h Q := jg_il rfl rfl
theorem s75_1 : jx_Go jxP d 75 1 [l0, l1, .int x, l3, l4] st h Q ↔ jx_Go jxP d 75 2 [l0, l1, .int x, l3, l4] (.int x :: st) h Q := jg_il rfl rfl
theorem s75_2 : jx_Go jxP d 75 2 [l0, l1, l2, l3, l4] (.int y :: .int x :: st) h Q ↔ jx_Go jxP d 75 3 [l0, l1, l2, l3, l4] (.int (x &&& y) :: st) h Q := jg_b (f := fun x y => x &&& y) rfl
theorem s75_3 : jx_Go jxP (d + 1) 75 3 [l0, l1, l2, l3, l4] (.int x0 :: st) h Q ↔ (st.length ≤ 4 ∧ jx_Go jxP d 197 0 [.int x0] [] h (fun s1 h1 => jx_Go jxP (d + 1) 75 6 [l0, l1, l2, l3, l4] (s1 ++ st) h1 Q)) := jg_callS (as := [.int x0]) rfl rfl rfl rfl
theorem s75_6 : jx_Go jxP d 75 6 [l0, l1, l2, l3, l4] (.int x :: st) h Q ↔ jx_Go jxP d 75 7 [l0, l1, l2, .int x, l4] st h Q := jg_is rfl rfl
theorem s75_7 : jx_Go jxP d 75 7 [l0, .int x, l2, l3, l4] st h Q ↔ jx_Go jxP d 75 8 [l0, .int x, l2, l3, l4] (.int x :: st) h Q := jg_il rfl rfl
theorem s75_8 : jx_Go jxP d 75 8 [l0, l1, .int x, l3, l4] st h Q ↔ jx_Go jxP d 75 9 [l0, l1, .int x, l3, l4] (.int x :: st) h Q := jg_il rfl rfl
theorem s75_9 : jx_Go jxP d 75 9 [l0, l1, l2, l3, l4] (.int y :: .int x :: st) h Q ↔ jx_Go jxP d 75 10 [l0, l1, l2, l3, l4] (.int (x - y) :: st) h Q := jg_b (f := fun x y => x - y) rfl
theorem s75_10 : jx_Go jxP d 75 10 [l0, l1, l2, l3, l4] (.int x :: st) h Q ↔ (st.length ≤ 4 ∧ jx_Go jxP d 75 13 [l0, l1, l2, l3, l4] (.int (if 0 ≤ x then x else 0 - x) :: st) h Q) := jg_m1 (f := fun x => if 0 ≤ x then x else 0 - x) rfl
theorem s75_13 : jx_Go jxP d 75 13 [l0, l1, l2, l3, l4] (.int x :: st) h Q ↔ jx_Go jxP d 75 15 [l0, l1, l2, l3, .int x] st h Q := jg_is rfl rfl
theorem s75_15 : jx_Go jxP d 75 15 [.int x, l1, l2, l3, l4] st h Q ↔ jx_Go jxP d 75 16 [.int x, l1, l2, l3, l4] (.int x :: st) h Q := jg_il rfl rfl
theorem s75_16 : jx_Go jxP d 75 16 [l0, l1, l2, l3, l4] (.int x :: st) h Q ↔ jx_Go jxP d 75 (js_swt 16 68 0 3 [32, 43, 54, 64] x) [l0, l1, l2, l3, l4] st h Q := jg_sw rfl
theorem s75_48 : jx_Go jxP d 75 48 [l0, .int x, l2, l3, l4] st h Q ↔ jx_Go jxP d 75 49 [l0, .int x, l2, l3, l4] (.int x :: st) h Q := jg_il rfl rfl
theorem s75_49 : jx_Go jxP d 75 49 [l0, l1, .int x, l3, l4] st h Q ↔ jx_Go jxP d 75 50 [l0, l1, .int x, l3, l4] (.int x :: st) h Q := jg_il rfl rfl
theorem s75_50 : jx_Go jxP d 75 50 [l0, l1, l2, l3, l4] (.int y :: .int x :: st) h Q ↔ if x = y then jx_Go jxP d 75 53 [l0, l1, l2, l3, l4] st h Q else jx_Go jxP d 75 57 [l0, l1, l2, l3, l4] st h Q := jg_icN rfl rfl
theorem s75_53 : jx_Go jxP d 75 53 [l0, l1, l2, l3, l4] st h Q ↔ jx_Go jxP d 75 54 [l0, l1, l2, l3, l4] (.int (nI 1) :: st) h Q := jg_c rfl
theorem s75_54 : jx_Go jxP d 75 54 [l0, l1, l2, l3, l4] st h Q ↔ jx_Go jxP d 75 58 [l0, l1, l2, l3, l4] st h Q := jg_go rfl
theorem s75_57 : jx_Go jxP d 75 57 [l0, l1, l2, l3, l4] st h Q ↔ jx_Go jxP d 75 58 [l0, l1, l2, l3, l4] (.int (nI 0) :: st) h Q := jg_c rfl
theorem s75_58 : jx_Go jxP d 75 58 [l0, l1, l2, l3, l4] [.int x] h Q ↔ Q [.int x] h := jx_rt rfl rfl
theorem s75_59 : jx_Go jxP d 75 59 [l0, .int x, l2, l3, l4] st h Q ↔ jx_Go jxP d 75 60 [l0, .int x, l2, l3, l4] (.int x :: st) h Q := jg_il rfl rfl
theorem s75_60 : jx_Go jxP d 75 60 [l0, l1, .int x, l3, l4] st h Q ↔ jx_Go jxP d 75 61 [l0, l1, .int x, l3, l4] (.int x :: st) h Q := jg_il rfl rfl
theorem s75_61 : jx_Go jxP d 75 61 [l0, l1, l2, l3, l4] (.int y :: .int x :: st) h Q ↔ if y ≤ x then jx_Go jxP d 75 68 [l0, l1, l2, l3, l4] st h Q else jx_Go jxP d 75 64 [l0, l1, l2, l3, l4] st h Q := jg_icP rfl rfl
theorem s75_64 : jx_Go jxP d 75 64 [l0, l1, l2, l3, l4] st h Q ↔ jx_Go jxP d 75 65 [l0, l1, l2, l3, l4] (.int (nI 1) :: st) h Q := jg_c rfl
theorem s75_65 : jx_Go jxP d 75 65 [l0, l1, l2, l3, l4] st h Q ↔ jx_Go jxP d 75 69 [l0, l1, l2, l3, l4] st h Q := jg_go rfl
theorem s75_68 : jx_Go jxP d 75 68 [l0, l1, l2, l3, l4] st h Q ↔ jx_Go jxP d 75 69 [l0, l1, l2, l3, l4] (.int (nI 0) :: st) h Q := jg_c rfl
theorem s75_69 : jx_Go jxP d 75 69 [l0, l1, l2, l3, l4] [.int x] h Q ↔ Q [.int x] h := jx_rt rfl rfl
theorem s75_70 : jx_Go jxP d 75 70 [l0, l1, l2, .int x, l4] st h Q ↔ jx_Go jxP d 75 71 [l0, l1, l2, .int x, l4] (.int x :: st) h Q := jg_il rfl rfl
theorem s75_71 : jx_Go jxP d 75 71 [l0, l1, l2, l3, l4] (.int x :: st) h Q ↔ if x = 0 then jx_Go jxP d 75 74 [l0, l1, l2, l3, l4] st h Q else jx_Go jxP d 75 78 [l0, l1, l2, l3, l4] st h Q := jg_ifN rfl rfl
theorem s75_74 : jx_Go jxP d 75 74 [l0, l1, l2, l3, l4] st h Q ↔ jx_Go jxP d 75 75 [l0, l1, l2, l3, l4] (.int (nI 1) :: st) h Q := jg_c rfl
theorem s75_75 : jx_Go jxP d 75 75 [l0, l1, l2, l3, l4] st h Q ↔ jx_Go jxP d 75 79 [l0, l1, l2, l3, l4] st h Q := jg_go rfl
theorem s75_78 : jx_Go jxP d 75 78 [l0, l1, l2, l3, l4] st h Q ↔ jx_Go jxP d 75 79 [l0, l1, l2, l3, l4] (.int (nI 0) :: st) h Q := jg_c rfl
theorem s75_79 : jx_Go jxP d 75 79 [l0, l1, l2, l3, l4] [.int x] h Q ↔ Q [.int x] h := jx_rt rfl rfl
theorem s75_80 : jx_Go jxP d 75 80 [l0, l1, l2, .int x, l4] st h Q ↔ jx_Go jxP d 75 81 [l0, l1, l2, .int x, l4] (.int x :: st) h Q := jg_il rfl rfl
theorem s75_81 : jx_Go jxP d 75 81 [l0, l1, l2, l3, l4] st h Q ↔ jx_Go jxP d 75 82 [l0, l1, l2, l3, l4] (.int (nI 1) :: st) h Q := jg_c rfl
theorem s75_82 : jx_Go jxP d 75 82 [l0, l1, l2, l3, l4] (.int y :: .int x :: st) h Q ↔ jx_Go jxP d 75 83 [l0, l1, l2, l3, l4] (.int (x &&& y) :: st) h Q := jg_b (f := fun x y => x &&& y) rfl
theorem s75_83 : jx_Go jxP d 75 83 [l0, l1, l2, l3, l4] [.int x] h Q ↔ Q [.int x] h := jx_rt rfl rfl
theorem s75_84 : jx_Go jxP d 75 84 [l0, l1, l2, l3, .int x] st h Q ↔ jx_Go jxP d 75 86 [l0, l1, l2, l3, .int x] (.int x :: st) h Q := jg_il rfl rfl
theorem s75_86 : jx_Go jxP d 75 86 [l0, l1, l2, l3, l4] st h Q ↔ jx_Go jxP d 75 87 [l0, l1, l2, l3, l4] (.int (nI 1) :: st) h Q := jg_c rfl
theorem s75_87 : jx_Go jxP d 75 87 [l0, l1, l2, l3, l4] (.int y :: .int x :: st) h Q ↔ if y < x then jx_Go jxP d 75 94 [l0, l1, l2, l3, l4] st h Q else jx_Go jxP d 75 90 [l0, l1, l2, l3, l4] st h Q := jg_icP rfl rfl
theorem s75_90 : jx_Go jxP d 75 90 [l0, l1, l2, l3, l4] st h Q ↔ jx_Go jxP d 75 91 [l0, l1, l2, l3, l4] (.int (nI 1) :: st) h Q := jg_c rfl
theorem s75_91 : jx_Go jxP d 75 91 [l0, l1, l2, l3, l4] st h Q ↔ jx_Go jxP d 75 105 [l0, l1, l2, l3, l4] st h Q := jg_go rfl
theorem s75_94 : jx_Go jxP d 75 94 [l0, l1, l2, l3, .int x] st h Q ↔ jx_Go jxP d 75 96 [l0, l1, l2, l3, .int x] (.int x :: st) h Q := jg_il rfl rfl
theorem s75_96 : jx_Go jxP d 75 96 [l0, l1, l2, l3, l4] st h Q ↔ jx_Go jxP d 75 97 [l0, l1, l2, l3, l4] (.int (nI 2) :: st) h Q := jg_c rfl
theorem s75_97 : jx_Go jxP d 75 97 [l0, l1, l2, l3, l4] (.int y :: .int x :: st) h Q ↔ if x = y then jx_Go jxP d 75 100 [l0, l1, l2, l3, l4] st h Q else jx_Go jxP d 75 104 [l0, l1, l2, l3, l4] st h Q := jg_icN rfl rfl
theorem s75_100 : jx_Go jxP d 75 100 [l0, l1, l2, l3, l4] st h Q ↔ jx_Go jxP d 75 101 [l0, l1, l2, l3, l4] (.int (nI 2) :: st) h Q := jg_c rfl
theorem s75_101 : jx_Go jxP d 75 101 [l0, l1, l2, l3, l4] st h Q ↔ jx_Go jxP d 75 105 [l0, l1, l2, l3, l4] st h Q := jg_go rfl
theorem s75_104 : jx_Go jxP d 75 104 [l0, l1, l2, l3, l4] st h Q ↔ jx_Go jxP d 75 105 [l0, l1, l2, l3, l4] (.int (nI 0) :: st) h Q := jg_c rfl
theorem s75_105 : jx_Go jxP d 75 105 [l0, l1, l2, l3, l4] [.int x] h Q ↔ Q [.int x] h := jx_rt rfl rfl
-- 76 TalkBench$Task.fillFrom
theorem s76_0 : jx_Go jxP d 76 0 [l0, l1, l2, l3, l4] st h Q ↔ jx_Go jxP d 76 1 [l0, l1, l2, l3, l4] (.int (nI 0) :: st) h Q := jg_c rfl
theorem s76_1 : jx_Go jxP d 76 1 [l0, l1, l2, l3, l4] (.int x :: st) h Q ↔ jx_Go jxP d 76 2 [l0, l1, .int x, l3, l4] st h Q := jg_is rfl rfl
theorem s76_2 : jx_Go jxP d 76 2 [l0, l1, l2, l3, l4] st h Q ↔ jx_Go jxP d 76 3 [l0, l1, l2, l3, l4] (.int (nI 0) :: st) h Q := jg_c rfl
theorem s76_3 : jx_Go jxP d 76 3 [l0, l1, l2, l3, l4] (.int x :: st) h Q ↔ jx_Go jxP d 76 4 [l0, l1, l2, .int x, l4] st h Q := jg_is rfl rfl
theorem s76_4 : jx_Go jxP d 76 4 [l0, l1, l2, .int x, l4] st h Q ↔ jx_Go jxP d 76 5 [l0, l1, l2, .int x, l4] (.int x :: st) h Q := jg_il rfl rfl
theorem s76_5 : jx_Go jxP d 76 5 [.ref a, l1, l2, l3, l4] st h Q ↔ jx_Go jxP d 76 6 [.ref a, l1, l2, l3, l4] (.ref a :: st) h Q := jg_al rfl rfl
theorem s76_6 : jx_Go jxP d 76 6 [l0, l1, l2, l3, l4] (.ref a :: st) h Q ↔ ∃ v, jx_fl h a 10 0 = some v ∧ jx_Go jxP d 76 9 [l0, l1, l2, l3, l4] (v :: st) h Q := jg_gf rfl
theorem s76_9 : jx_Go jxP d 76 9 [l0, l1, l2, l3, l4] (.int y :: .int x :: st) h Q ↔ if y ≤ x then jx_Go jxP d 76 68 [l0, l1, l2, l3, l4] st h Q else jx_Go jxP d 76 12 [l0, l1, l2, l3, l4] st h Q := jg_icP rfl rfl
theorem s76_12 : jx_Go jxP d 76 12 [l0, l1, l2, l3, l4] st h Q ↔ jx_Go jxP d 76 13 [l0, l1, l2, l3, l4] (.int (nI 0) :: st) h Q := jg_c rfl
theorem s76_13 : jx_Go jxP d 76 13 [l0, l1, l2, l3, l4] (.int x :: st) h Q ↔ jx_Go jxP d 76 15 [l0, l1, l2, l3, .int x] st h Q := jg_is rfl rfl
theorem s76_15 : jx_Go jxP d 76 15 [l0, l1, l2, l3, .int x] st h Q ↔ jx_Go jxP d 76 17 [l0, l1, l2, l3, .int x] (.int x :: st) h Q := jg_il rfl rfl
theorem s76_17 : jx_Go jxP d 76 17 [.ref a, l1, l2, l3, l4] st h Q ↔ jx_Go jxP d 76 18 [.ref a, l1, l2, l3, l4] (.ref a :: st) h Q := jg_al rfl rfl
theorem s76_18 : jx_Go jxP d 76 18 [l0, l1, l2, l3, l4] (.ref a :: st) h Q ↔ ∃ v, jx_fl h a 10 1 = some v ∧ jx_Go jxP d 76 21 [l0, l1, l2, l3, l4] (v :: st) h Q := jg_gf rfl
theorem s76_21 : jx_Go jxP d 76 21 [l0, l1, l2, l3, l4] (.int y :: .int x :: st) h Q ↔ if y ≤ x then jx_Go jxP d 76 62 [l0, l1, l2, l3, l4] st h Q else jx_Go jxP d 76 24 [l0, l1, l2, l3, l4] st h Q := jg_icP rfl rfl
theorem s76_24 : jx_Go jxP d 76 24 [.ref a, l1, l2, l3, l4] st h Q ↔ jx_Go jxP d 76 25 [.ref a, l1, l2, l3, l4] (.ref a :: st) h Q := jg_al rfl rfl
theorem s76_25 : jx_Go jxP d 76 25 [l0, l1, l2, l3, l4] (.ref a :: st) h Q ↔ ∃ v, jx_fl h a 10 2 = some v ∧ jx_Go jxP d 76 28 [l0, l1, l2, l3, l4] (v :: st) h Q := jg_gf rfl
theorem s76_28 : jx_Go jxP d 76 28 [l0, l1, l2, l3, l4] st h Q ↔ jx_Go jxP d 76 29 [l0, l1, l2, l3, l4] (.int (nI 5) :: st) h Q := jg_c rfl
theorem s76_29 : jx_Go jxP d 76 29 [l0, l1, l2, .int x, l4] st h Q ↔ jx_Go jxP d 76 30 [l0, l1, l2, .int x, l4] (.int x :: st) h Q := jg_il rfl rfl
theorem s76_30 : jx_Go jxP d 76 30 [l0, l1, l2, l3, l4] (.int y :: .int x :: st) h Q ↔ jx_Go jxP d 76 31 [l0, l1, l2, l3, l4] (.int (x * y) :: st) h Q := jg_b (f := fun x y => x * y) rfl
theorem s76_31 : jx_Go jxP d 76 31 [l0, l1, l2, l3, .int x] st h Q ↔ jx_Go jxP d 76 33 [l0, l1, l2, l3, .int x] (.int x :: st) h Q := jg_il rfl rfl
theorem s76_33 : jx_Go jxP d 76 33 [l0, l1, l2, l3, l4] (.int y :: .int x :: st) h Q ↔ jx_Go jxP d 76 34 [l0, l1, l2, l3, l4] (.int (x + y) :: st) h Q := jg_b (f := fun x y => x + y) rfl
theorem s76_34 : jx_Go jxP d 76 34 [l0, l1, .int x, l3, l4] st h Q ↔ jx_Go jxP d 76 35 [l0, l1, .int x, l3, l4] (.int x :: st) h Q := jg_il rfl rfl
theorem s76_35 : jx_Go jxP d 76 35 [l0, .ref a, l2, l3, l4] st h Q ↔ jx_Go jxP d 76 36 [l0, .ref a, l2, l3, l4] (.ref a :: st) h Q := jg_al rfl rfl
theorem s76_36 : jx_Go jxP d 76 36 [l0, l1, l2, l3, l4] (.ref a :: st) h Q ↔ ∃ v, jx_fl h a 8 1 = some v ∧ jx_Go jxP d 76 39 [l0, l1, l2, l3, l4] (v :: st) h Q := jg_gf rfl
theorem s76_39 : jx_Go jxP d 76 39 [l0, l1, l2, l3, l4] (.int y :: .int x :: st) h Q ↔ if y ≤ x then jx_Go jxP d 76 51 [l0, l1, l2, l3, l4] st h Q else jx_Go jxP d 76 42 [l0, l1, l2, l3, l4] st h Q := jg_icP rfl rfl
theorem s76_42 : jx_Go jxP d 76 42 [l0, .ref a, l2, l3, l4] st h Q ↔ jx_Go jxP d 76 43 [l0, .ref a, l2, l3, l4] (.ref a :: st) h Q := jg_al rfl rfl
theorem s76_43 : jx_Go jxP d 76 43 [l0, l1, l2, l3, l4] (.ref a :: st) h Q ↔ ∃ v, jx_fl h a 8 2 = some v ∧ jx_Go jxP d 76 46 [l0, l1, l2, l3, l4] (v :: st) h Q := jg_gf rfl
theorem s76_46 : jx_Go jxP d 76 46 [l0, l1, .int x, l3, l4] st h Q ↔ jx_Go jxP d 76 47 [l0, l1, .int x, l3, l4] (.int x :: st) h Q := jg_il rfl rfl
theorem s76_47 : jx_Go jxP d 76 47 [l0, l1, l2, l3, l4] (.int x :: .ref a :: st) h Q ↔ ∃ q, jx_ai h a = some q ∧ jx_in x q.1 ∧ jx_Go jxP d 76 48 [l0, l1, l2, l3, l4] (.int (q.2 x.toNatClampNeg) :: st) h Q := jg_ia rfl
theorem s76_48 : jx_Go jxP d 76 48 [l0, l1, l2, l3, l4] st h Q ↔ jx_Go jxP d 76 52 [l0, l1, l2, l3, l4] st h Q := jg_go rfl
theorem s76_51 : jx_Go jxP d 76 51 [l0, l1, l2, l3, l4] st h Q ↔ jx_Go jxP d 76 52 [l0, l1, l2, l3, l4] (.int (nI 2) :: st) h Q := jg_c rfl
theorem s76_52 : jx_Go jxP d 76 52 [l0, l1, l2, l3, l4] (.int y :: .int x :: .ref a :: st) h Q ↔ ∃ q, jx_ai h a = some q ∧ jx_in x q.1 ∧ jx_Go jxP d 76 53 [l0, l1, l2, l3, l4] st (jx_wi h a q.1 (upd q.2 x.toNatClampNeg y)) Q := jg_iw rfl
theorem s76_53 : jx_Go jxP d 76 53 [l0, l1, .int x, l3, l4] st h Q ↔ jx_Go jxP d 76 56 [l0, l1, .int (x + (nI 1)), l3, l4] st h Q := jg_inc rfl rfl rfl
theorem s76_56 : jx_Go jxP d 76 56 [l0, l1, l2, l3, .int x] st h Q ↔ jx_Go jxP d 76 59 [l0, l1, l2, l3, .int (x + (nI 1))] st h Q := jg_inc rfl rfl rfl
theorem s76_59 : jx_Go jxP d 76 59 [l0, l1, l2, l3, l4] st h Q ↔ jx_Go jxP d 76 15 [l0, l1, l2, l3, l4] st h Q := jg_go rfl
theorem s76_62 : jx_Go jxP d 76 62 [l0, l1, l2, .int x, l4] st h Q ↔ jx_Go jxP d 76 65 [l0, l1, l2, .int (x + (nI 1)), l4] st h Q := jg_inc rfl rfl rfl
theorem s76_65 : jx_Go jxP d 76 65 [l0, l1, l2, l3, l4] st h Q ↔ jx_Go jxP d 76 4 [l0, l1, l2, l3, l4] st h Q := jg_go rfl
theorem s76_68 : jx_Go jxP d 76 68 [l0, l1, l2, l3, l4] [] h Q ↔ Q [] h := jx_rt rfl rfl
-- 77 TalkBench$Task.swapSides
theorem s77_0 : jx_Go jxP d 77 0 [l0, l1, l2] st h Q ↔ jx_Go jxP d 77 1 [l0, l1, l2] (.int (nI 0) :: st) h Q := jg_c rfl
theorem s77_1 : jx_Go jxP d 77 1 [l0, l1, l2] (.int x :: st) h Q ↔ jx_Go jxP d 77 2 [l0, .int x, l2] st h Q := jg_is rfl rfl
theorem s77_2 : jx_Go jxP d 77 2 [l0, .int x, l2] st h Q ↔ jx_Go jxP d 77 3 [l0, .int x, l2] (.int x :: st) h Q := jg_il rfl rfl
theorem s77_3 : jx_Go jxP d 77 3 [l0, l1, l2] st h Q ↔ jx_Go jxP d 77 4 [l0, l1, l2] (.int (nI 5) :: st) h Q := jg_c rfl
theorem s77_4 : jx_Go jxP d 77 4 [l0, l1, l2] (.int y :: .int x :: st) h Q ↔ if y ≤ x then jx_Go jxP d 77 60 [l0, l1, l2] st h Q else jx_Go jxP d 77 7 [l0, l1, l2] st h Q := jg_icP rfl rfl
theorem s77_7 : jx_Go jxP d 77 7 [l0, l1, l2] st h Q ↔ jx_Go jxP d 77 8 [l0, l1, l2] (.int (nI 0) :: st) h Q := jg_c rfl
theorem s77_8 : jx_Go jxP d 77 8 [l0, l1, l2] (.int x :: st) h Q ↔ jx_Go jxP d 77 9 [l0, l1, .int x] st h Q := jg_is rfl rfl
theorem s77_9 : jx_Go jxP d 77 9 [l0, l1, .int x] st h Q ↔ jx_Go jxP d 77 10 [l0, l1, .int x] (.int x :: st) h Q := jg_il rfl rfl
theorem s77_10 : jx_Go jxP d 77 10 [l0, .int x, l2] st h Q ↔ jx_Go jxP d 77 11 [l0, .int x, l2] (.int x :: st) h Q := jg_il rfl rfl
theorem s77_11 : jx_Go jxP d 77 11 [l0, l1, l2] (.int y :: .int x :: st) h Q ↔ if y ≤ x then jx_Go jxP d 77 54 [l0, l1, l2] st h Q else jx_Go jxP d 77 14 [l0, l1, l2] st h Q := jg_icP rfl rfl
theorem s77_14 : jx_Go jxP d 77 14 [.ref a, l1, l2] st h Q ↔ jx_Go jxP d 77 15 [.ref a, l1, l2] (.ref a :: st) h Q := jg_al rfl rfl
theorem s77_15 : jx_Go jxP d 77 15 [l0, l1, l2] (.ref a :: st) h Q ↔ ∃ v, jx_fl h a 10 2 = some v ∧ jx_Go jxP d 77 18 [l0, l1, l2] (v :: st) h Q := jg_gf rfl
theorem s77_18 : jx_Go jxP d 77 18 [l0, l1, l2] st h Q ↔ jx_Go jxP d 77 19 [l0, l1, l2] (.int (nI 5) :: st) h Q := jg_c rfl
theorem s77_19 : jx_Go jxP d 77 19 [l0, .int x, l2] st h Q ↔ jx_Go jxP d 77 20 [l0, .int x, l2] (.int x :: st) h Q := jg_il rfl rfl
theorem s77_20 : jx_Go jxP d 77 20 [l0, l1, l2] (.int y :: .int x :: st) h Q ↔ jx_Go jxP d 77 21 [l0, l1, l2] (.int (x * y) :: st) h Q := jg_b (f := fun x y => x * y) rfl
theorem s77_21 : jx_Go jxP d 77 21 [l0, l1, .int x] st h Q ↔ jx_Go jxP d 77 22 [l0, l1, .int x] (.int x :: st) h Q := jg_il rfl rfl
theorem s77_22 : jx_Go jxP d 77 22 [l0, l1, l2] (.int y :: .int x :: st) h Q ↔ jx_Go jxP d 77 23 [l0, l1, l2] (.int (x + y) :: st) h Q := jg_b (f := fun x y => x + y) rfl
theorem s77_23 : jx_Go jxP d 77 23 [l0, l1, l2] st h Q ↔ jx_Go jxP d 77 24 [l0, l1, l2] (.int (nI 5) :: st) h Q := jg_c rfl
theorem s77_24 : jx_Go jxP d 77 24 [l0, l1, .int x] st h Q ↔ jx_Go jxP d 77 25 [l0, l1, .int x] (.int x :: st) h Q := jg_il rfl rfl
theorem s77_25 : jx_Go jxP d 77 25 [l0, l1, l2] (.int y :: .int x :: st) h Q ↔ jx_Go jxP d 77 26 [l0, l1, l2] (.int (x * y) :: st) h Q := jg_b (f := fun x y => x * y) rfl
theorem s77_26 : jx_Go jxP d 77 26 [l0, .int x, l2] st h Q ↔ jx_Go jxP d 77 27 [l0, .int x, l2] (.int x :: st) h Q := jg_il rfl rfl
theorem s77_27 : jx_Go jxP d 77 27 [l0, l1, l2] (.int y :: .int x :: st) h Q ↔ jx_Go jxP d 77 28 [l0, l1, l2] (.int (x + y) :: st) h Q := jg_b (f := fun x y => x + y) rfl
theorem s77_28 : jx_Go jxP (d + 1) 77 28 [l0, l1, l2] (.int x2 :: .int x1 :: .ref a0 :: st) h Q ↔ (st.length ≤ 4 ∧ jx_Go jxP d 78 0 [.ref a0, .int x1, .int x2, jx_u] [] h (fun s1 h1 => jx_Go jxP (d + 1) 77 31 [l0, l1, l2] (s1 ++ st) h1 Q)) := jg_callS (as := [.int x2, .int x1, .ref a0]) rfl rfl rfl rfl
theorem s77_31 : jx_Go jxP d 77 31 [.ref a, l1, l2] st h Q ↔ jx_Go jxP d 77 32 [.ref a, l1, l2] (.ref a :: st) h Q := jg_al rfl rfl
theorem s77_32 : jx_Go jxP d 77 32 [l0, l1, l2] (.ref a :: st) h Q ↔ ∃ v, jx_fl h a 10 3 = some v ∧ jx_Go jxP d 77 35 [l0, l1, l2] (v :: st) h Q := jg_gf rfl
theorem s77_35 : jx_Go jxP d 77 35 [l0, l1, l2] st h Q ↔ jx_Go jxP d 77 36 [l0, l1, l2] (.int (nI 5) :: st) h Q := jg_c rfl
theorem s77_36 : jx_Go jxP d 77 36 [l0, .int x, l2] st h Q ↔ jx_Go jxP d 77 37 [l0, .int x, l2] (.int x :: st) h Q := jg_il rfl rfl
theorem s77_37 : jx_Go jxP d 77 37 [l0, l1, l2] (.int y :: .int x :: st) h Q ↔ jx_Go jxP d 77 38 [l0, l1, l2] (.int (x * y) :: st) h Q := jg_b (f := fun x y => x * y) rfl
theorem s77_38 : jx_Go jxP d 77 38 [l0, l1, .int x] st h Q ↔ jx_Go jxP d 77 39 [l0, l1, .int x] (.int x :: st) h Q := jg_il rfl rfl
theorem s77_39 : jx_Go jxP d 77 39 [l0, l1, l2] (.int y :: .int x :: st) h Q ↔ jx_Go jxP d 77 40 [l0, l1, l2] (.int (x + y) :: st) h Q := jg_b (f := fun x y => x + y) rfl
theorem s77_40 : jx_Go jxP d 77 40 [l0, l1, l2] st h Q ↔ jx_Go jxP d 77 41 [l0, l1, l2] (.int (nI 5) :: st) h Q := jg_c rfl
theorem s77_41 : jx_Go jxP d 77 41 [l0, l1, .int x] st h Q ↔ jx_Go jxP d 77 42 [l0, l1, .int x] (.int x :: st) h Q := jg_il rfl rfl
theorem s77_42 : jx_Go jxP d 77 42 [l0, l1, l2] (.int y :: .int x :: st) h Q ↔ jx_Go jxP d 77 43 [l0, l1, l2] (.int (x * y) :: st) h Q := jg_b (f := fun x y => x * y) rfl
theorem s77_43 : jx_Go jxP d 77 43 [l0, .int x, l2] st h Q ↔ jx_Go jxP d 77 44 [l0, .int x, l2] (.int x :: st) h Q := jg_il rfl rfl
theorem s77_44 : jx_Go jxP d 77 44 [l0, l1, l2] (.int y :: .int x :: st) h Q ↔ jx_Go jxP d 77 45 [l0, l1, l2] (.int (x + y) :: st) h Q := jg_b (f := fun x y => x + y) rfl
theorem s77_45 : jx_Go jxP (d + 1) 77 45 [l0, l1, l2] (.int x2 :: .int x1 :: .ref a0 :: st) h Q ↔ (st.length ≤ 4 ∧ jx_Go jxP d 78 0 [.ref a0, .int x1, .int x2, jx_u] [] h (fun s1 h1 => jx_Go jxP (d + 1) 77 48 [l0, l1, l2] (s1 ++ st) h1 Q)) := jg_callS (as := [.int x2, .int x1, .ref a0]) rfl rfl rfl rfl
theorem s77_48 : jx_Go jxP d 77 48 [l0, l1, .int x] st h Q ↔ jx_Go jxP d 77 51 [l0, l1, .int (x + (nI 1))] st h Q := jg_inc rfl rfl rfl
theorem s77_51 : jx_Go jxP d 77 51 [l0, l1, l2] st h Q ↔ jx_Go jxP d 77 9 [l0, l1, l2] st h Q := jg_go rfl
theorem s77_54 : jx_Go jxP d 77 54 [l0, .int x, l2] st h Q ↔ jx_Go jxP d 77 57 [l0, .int (x + (nI 1)), l2] st h Q := jg_inc rfl rfl rfl
theorem s77_57 : jx_Go jxP d 77 57 [l0, l1, l2] st h Q ↔ jx_Go jxP d 77 2 [l0, l1, l2] st h Q := jg_go rfl
theorem s77_60 : jx_Go jxP d 77 60 [.ref a, l1, l2] st h Q ↔ jx_Go jxP d 77 61 [.ref a, l1, l2] (.ref a :: st) h Q := jg_al rfl rfl
theorem s77_61 : jx_Go jxP d 77 61 [l0, l1, l2] (.ref a :: st) h Q ↔ ∃ v, jx_fl h a 10 0 = some v ∧ jx_Go jxP d 77 64 [l0, l1, l2] (v :: st) h Q := jg_gf rfl
theorem s77_64 : jx_Go jxP d 77 64 [l0, l1, l2] (.int x :: st) h Q ↔ jx_Go jxP d 77 65 [l0, .int x, l2] st h Q := jg_is rfl rfl
theorem s77_65 : jx_Go jxP d 77 65 [.ref a, l1, l2] st h Q ↔ jx_Go jxP d 77 66 [.ref a, l1, l2] (.ref a :: st) h Q := jg_al rfl rfl
theorem s77_66 : jx_Go jxP d 77 66 [.ref a, l1, l2] st h Q ↔ jx_Go jxP d 77 67 [.ref a, l1, l2] (.ref a :: st) h Q := jg_al rfl rfl
theorem s77_67 : jx_Go jxP d 77 67 [l0, l1, l2] (.ref a :: st) h Q ↔ ∃ v, jx_fl h a 10 1 = some v ∧ jx_Go jxP d 77 70 [l0, l1, l2] (v :: st) h Q := jg_gf rfl
theorem s77_70 : jx_Go jxP d 77 70 [l0, l1, l2] (.int x :: .ref a :: st) h Q ↔ ∃ v, jx_fl h a 10 0 = some v ∧ jx_Go jxP d 77 73 [l0, l1, l2] st (jx_uf h a 0 (.int x)) Q := jg_pfI rfl
theorem s77_73 : jx_Go jxP d 77 73 [.ref a, l1, l2] st h Q ↔ jx_Go jxP d 77 74 [.ref a, l1, l2] (.ref a :: st) h Q := jg_al rfl rfl
theorem s77_74 : jx_Go jxP d 77 74 [l0, .int x, l2] st h Q ↔ jx_Go jxP d 77 75 [l0, .int x, l2] (.int x :: st) h Q := jg_il rfl rfl
theorem s77_75 : jx_Go jxP d 77 75 [l0, l1, l2] (.int x :: .ref a :: st) h Q ↔ ∃ v, jx_fl h a 10 1 = some v ∧ jx_Go jxP d 77 78 [l0, l1, l2] st (jx_uf h a 1 (.int x)) Q := jg_pfI rfl
theorem s77_78 : jx_Go jxP d 77 78 [l0, l1, l2] [] h Q ↔ Q [] h := jx_rt rfl rfl
-- 78 TalkBench$Task.swap
theorem s78_0 : jx_Go jxP d 78 0 [.ref a, l1, l2, l3] st h Q ↔ jx_Go jxP d 78 1 [.ref a, l1, l2, l3] (.ref a :: st) h Q := jg_al rfl rfl
theorem s78_1 : jx_Go jxP d 78 1 [l0, .int x, l2, l3] st h Q ↔ jx_Go jxP d 78 2 [l0, .int x, l2, l3] (.int x :: st) h Q := jg_il rfl rfl
theorem s78_2 : jx_Go jxP d 78 2 [l0, l1, l2, l3] (.int x :: .ref a :: st) h Q ↔ ∃ q, jx_ai h a = some q ∧ jx_in x q.1 ∧ jx_Go jxP d 78 3 [l0, l1, l2, l3] (.int (q.2 x.toNatClampNeg) :: st) h Q := jg_ia rfl
theorem s78_3 : jx_Go jxP d 78 3 [l0, l1, l2, l3] (.int x :: st) h Q ↔ jx_Go jxP d 78 4 [l0, l1, l2, .int x] st h Q := jg_is rfl rfl
theorem s78_4 : jx_Go jxP d 78 4 [.ref a, l1, l2, l3] st h Q ↔ jx_Go jxP d 78 5 [.ref a, l1, l2, l3] (.ref a :: st) h Q := jg_al rfl rfl
theorem s78_5 : jx_Go jxP d 78 5 [l0, .int x, l2, l3] st h Q ↔ jx_Go jxP d 78 6 [l0, .int x, l2, l3] (.int x :: st) h Q := jg_il rfl rfl
theorem s78_6 : jx_Go jxP d 78 6 [.ref a, l1, l2, l3] st h Q ↔ jx_Go jxP d 78 7 [.ref a, l1, l2, l3] (.ref a :: st) h Q := jg_al rfl rfl
theorem s78_7 : jx_Go jxP d 78 7 [l0, l1, .int x, l3] st h Q ↔ jx_Go jxP d 78 8 [l0, l1, .int x, l3] (.int x :: st) h Q := jg_il rfl rfl
theorem s78_8 : jx_Go jxP d 78 8 [l0, l1, l2, l3] (.int x :: .ref a :: st) h Q ↔ ∃ q, jx_ai h a = some q ∧ jx_in x q.1 ∧ jx_Go jxP d 78 9 [l0, l1, l2, l3] (.int (q.2 x.toNatClampNeg) :: st) h Q := jg_ia rfl
theorem s78_9 : jx_Go jxP d 78 9 [l0, l1, l2, l3] (.int y :: .int x :: .ref a :: st) h Q ↔ ∃ q, jx_ai h a = some q ∧ jx_in x q.1 ∧ jx_Go jxP d 78 10 [l0, l1, l2, l3] st (jx_wi h a q.1 (upd q.2 x.toNatClampNeg y)) Q := jg_iw rfl
theorem s78_10 : jx_Go jxP d 78 10 [.ref a, l1, l2, l3] st h Q ↔ jx_Go jxP d 78 11 [.ref a, l1, l2, l3] (.ref a :: st) h Q := jg_al rfl rfl
theorem s78_11 : jx_Go jxP d 78 11 [l0, l1, .int x, l3] st h Q ↔ jx_Go jxP d 78 12 [l0, l1, .int x, l3] (.int x :: st) h Q := jg_il rfl rfl
theorem s78_12 : jx_Go jxP d 78 12 [l0, l1, l2, .int x] st h Q ↔ jx_Go jxP d 78 13 [l0, l1, l2, .int x] (.int x :: st) h Q := jg_il rfl rfl
theorem s78_13 : jx_Go jxP d 78 13 [l0, l1, l2, l3] (.int y :: .int x :: .ref a :: st) h Q ↔ ∃ q, jx_ai h a = some q ∧ jx_in x q.1 ∧ jx_Go jxP d 78 14 [l0, l1, l2, l3] st (jx_wi h a q.1 (upd q.2 x.toNatClampNeg y)) Q := jg_iw rfl
theorem s78_14 : jx_Go jxP d 78 14 [l0, l1, l2, l3] [] h Q ↔ Q [] h := jx_rt rfl rfl
-- 79 TalkBench$Task.swapAnswers
theorem s79_0 : jx_Go jxP d 79 0 [l0, l1, l2, l3] st h Q ↔ jx_Go jxP d 79 1 [l0, l1, l2, l3] (.int (nI 0) :: st) h Q := jg_c rfl
theorem s79_1 : jx_Go jxP d 79 1 [l0, l1, l2, l3] (.int x :: st) h Q ↔ jx_Go jxP d 79 2 [l0, .int x, l2, l3] st h Q := jg_is rfl rfl
theorem s79_2 : jx_Go jxP d 79 2 [l0, .int x, l2, l3] st h Q ↔ jx_Go jxP d 79 3 [l0, .int x, l2, l3] (.int x :: st) h Q := jg_il rfl rfl
theorem s79_3 : jx_Go jxP d 79 3 [.ref a, l1, l2, l3] st h Q ↔ jx_Go jxP d 79 4 [.ref a, l1, l2, l3] (.ref a :: st) h Q := jg_al rfl rfl
theorem s79_4 : jx_Go jxP d 79 4 [l0, l1, l2, l3] (.ref a :: st) h Q ↔ ∃ v, jx_fl h a 10 0 = some v ∧ jx_Go jxP d 79 7 [l0, l1, l2, l3] (v :: st) h Q := jg_gf rfl
theorem s79_7 : jx_Go jxP d 79 7 [l0, l1, l2, l3] (.int y :: .int x :: st) h Q ↔ if y ≤ x then jx_Go jxP d 79 62 [l0, l1, l2, l3] st h Q else jx_Go jxP d 79 10 [l0, l1, l2, l3] st h Q := jg_icP rfl rfl
theorem s79_10 : jx_Go jxP d 79 10 [l0, l1, l2, l3] st h Q ↔ jx_Go jxP d 79 11 [l0, l1, l2, l3] (.int (nI 0) :: st) h Q := jg_c rfl
theorem s79_11 : jx_Go jxP d 79 11 [l0, l1, l2, l3] (.int x :: st) h Q ↔ jx_Go jxP d 79 12 [l0, l1, .int x, l3] st h Q := jg_is rfl rfl
theorem s79_12 : jx_Go jxP d 79 12 [l0, l1, .int x, l3] st h Q ↔ jx_Go jxP d 79 13 [l0, l1, .int x, l3] (.int x :: st) h Q := jg_il rfl rfl
theorem s79_13 : jx_Go jxP d 79 13 [.ref a, l1, l2, l3] st h Q ↔ jx_Go jxP d 79 14 [.ref a, l1, l2, l3] (.ref a :: st) h Q := jg_al rfl rfl
theorem s79_14 : jx_Go jxP d 79 14 [l0, l1, l2, l3] (.ref a :: st) h Q ↔ ∃ v, jx_fl h a 10 1 = some v ∧ jx_Go jxP d 79 17 [l0, l1, l2, l3] (v :: st) h Q := jg_gf rfl
theorem s79_17 : jx_Go jxP d 79 17 [l0, l1, l2, l3] (.int y :: .int x :: st) h Q ↔ if y ≤ x then jx_Go jxP d 79 56 [l0, l1, l2, l3] st h Q else jx_Go jxP d 79 20 [l0, l1, l2, l3] st h Q := jg_icP rfl rfl
theorem s79_20 : jx_Go jxP d 79 20 [l0, l1, l2, l3] st h Q ↔ jx_Go jxP d 79 21 [l0, l1, l2, l3] (.int (nI 5) :: st) h Q := jg_c rfl
theorem s79_21 : jx_Go jxP d 79 21 [l0, .int x, l2, l3] st h Q ↔ jx_Go jxP d 79 22 [l0, .int x, l2, l3] (.int x :: st) h Q := jg_il rfl rfl
theorem s79_22 : jx_Go jxP d 79 22 [l0, l1, l2, l3] (.int y :: .int x :: st) h Q ↔ jx_Go jxP d 79 23 [l0, l1, l2, l3] (.int (x * y) :: st) h Q := jg_b (f := fun x y => x * y) rfl
theorem s79_23 : jx_Go jxP d 79 23 [l0, l1, .int x, l3] st h Q ↔ jx_Go jxP d 79 24 [l0, l1, .int x, l3] (.int x :: st) h Q := jg_il rfl rfl
theorem s79_24 : jx_Go jxP d 79 24 [l0, l1, l2, l3] (.int y :: .int x :: st) h Q ↔ jx_Go jxP d 79 25 [l0, l1, l2, l3] (.int (x + y) :: st) h Q := jg_b (f := fun x y => x + y) rfl
theorem s79_25 : jx_Go jxP d 79 25 [l0, l1, l2, l3] (.int x :: st) h Q ↔ jx_Go jxP d 79 26 [l0, l1, l2, .int x] st h Q := jg_is rfl rfl
theorem s79_26 : jx_Go jxP d 79 26 [.ref a, l1, l2, l3] st h Q ↔ jx_Go jxP d 79 27 [.ref a, l1, l2, l3] (.ref a :: st) h Q := jg_al rfl rfl
theorem s79_27 : jx_Go jxP d 79 27 [l0, l1, l2, l3] (.ref a :: st) h Q ↔ ∃ v, jx_fl h a 10 2 = some v ∧ jx_Go jxP d 79 30 [l0, l1, l2, l3] (v :: st) h Q := jg_gf rfl
theorem s79_30 : jx_Go jxP d 79 30 [l0, l1, l2, .int x] st h Q ↔ jx_Go jxP d 79 31 [l0, l1, l2, .int x] (.int x :: st) h Q := jg_il rfl rfl
theorem s79_31 : jx_Go jxP d 79 31 [l0, l1, l2, l3] (.int x :: .ref a :: st) h Q ↔ ∃ q, jx_ai h a = some q ∧ jx_in x q.1 ∧ jx_Go jxP d 79 32 [l0, l1, l2, l3] (.int (q.2 x.toNatClampNeg) :: st) h Q := jg_ia rfl
theorem s79_32 : jx_Go jxP d 79 32 [l0, l1, l2, l3] st h Q ↔ jx_Go jxP d 79 33 [l0, l1, l2, l3] (.int (nI 2) :: st) h Q := jg_c rfl
theorem s79_33 : jx_Go jxP d 79 33 [l0, l1, l2, l3] (.int y :: .int x :: st) h Q ↔ if x = y then jx_Go jxP d 79 50 [l0, l1, l2, l3] st h Q else jx_Go jxP d 79 36 [l0, l1, l2, l3] st h Q := jg_icP rfl rfl
theorem s79_36 : jx_Go jxP d 79 36 [.ref a, l1, l2, l3] st h Q ↔ jx_Go jxP d 79 37 [.ref a, l1, l2, l3] (.ref a :: st) h Q := jg_al rfl rfl
theorem s79_37 : jx_Go jxP d 79 37 [l0, l1, l2, l3] (.ref a :: st) h Q ↔ ∃ v, jx_fl h a 10 2 = some v ∧ jx_Go jxP d 79 40 [l0, l1, l2, l3] (v :: st) h Q := jg_gf rfl
theorem s79_40 : jx_Go jxP d 79 40 [l0, l1, l2, .int x] st h Q ↔ jx_Go jxP d 79 41 [l0, l1, l2, .int x] (.int x :: st) h Q := jg_il rfl rfl
theorem s79_41 : jx_Go jxP d 79 41 [l0, l1, l2, l3] st h Q ↔ jx_Go jxP d 79 42 [l0, l1, l2, l3] (.int (nI 1) :: st) h Q := jg_c rfl
theorem s79_42 : jx_Go jxP d 79 42 [.ref a, l1, l2, l3] st h Q ↔ jx_Go jxP d 79 43 [.ref a, l1, l2, l3] (.ref a :: st) h Q := jg_al rfl rfl
theorem s79_43 : jx_Go jxP d 79 43 [l0, l1, l2, l3] (.ref a :: st) h Q ↔ ∃ v, jx_fl h a 10 2 = some v ∧ jx_Go jxP d 79 46 [l0, l1, l2, l3] (v :: st) h Q := jg_gf rfl
theorem s79_46 : jx_Go jxP d 79 46 [l0, l1, l2, .int x] st h Q ↔ jx_Go jxP d 79 47 [l0, l1, l2, .int x] (.int x :: st) h Q := jg_il rfl rfl
theorem s79_47 : jx_Go jxP d 79 47 [l0, l1, l2, l3] (.int x :: .ref a :: st) h Q ↔ ∃ q, jx_ai h a = some q ∧ jx_in x q.1 ∧ jx_Go jxP d 79 48 [l0, l1, l2, l3] (.int (q.2 x.toNatClampNeg) :: st) h Q := jg_ia rfl
theorem s79_48 : jx_Go jxP d 79 48 [l0, l1, l2, l3] (.int y :: .int x :: st) h Q ↔ jx_Go jxP d 79 49 [l0, l1, l2, l3] (.int (x - y) :: st) h Q := jg_b (f := fun x y => x - y) rfl
theorem s79_49 : jx_Go jxP d 79 49 [l0, l1, l2, l3] (.int y :: .int x :: .ref a :: st) h Q ↔ ∃ q, jx_ai h a = some q ∧ jx_in x q.1 ∧ jx_Go jxP d 79 50 [l0, l1, l2, l3] st (jx_wi h a q.1 (upd q.2 x.toNatClampNeg y)) Q := jg_iw rfl
theorem s79_50 : jx_Go jxP d 79 50 [l0, l1, .int x, l3] st h Q ↔ jx_Go jxP d 79 53 [l0, l1, .int (x + (nI 1)), l3] st h Q := jg_inc rfl rfl rfl
theorem s79_53 : jx_Go jxP d 79 53 [l0, l1, l2, l3] st h Q ↔ jx_Go jxP d 79 12 [l0, l1, l2, l3] st h Q := jg_go rfl
theorem s79_56 : jx_Go jxP d 79 56 [l0, .int x, l2, l3] st h Q ↔ jx_Go jxP d 79 59 [l0, .int (x + (nI 1)), l2, l3] st h Q := jg_inc rfl rfl rfl
theorem s79_59 : jx_Go jxP d 79 59 [l0, l1, l2, l3] st h Q ↔ jx_Go jxP d 79 2 [l0, l1, l2, l3] st h Q := jg_go rfl
theorem s79_62 : jx_Go jxP d 79 62 [l0, l1, l2, l3] [] h Q ↔ Q [] h := jx_rt rfl rfl
-- 80 TalkBench$Task.countUnlike
theorem s80_0 : jx_Go jxP d 80 0 [l0, .int x, l2, l3, l4, l5, l6] st h Q ↔ jx_Go jxP d 80 1 [l0, .int x, l2, l3, l4, l5, l6] (.int x :: st) h Q := jg_il rfl rfl
theorem s80_1 : jx_Go jxP d 80 1 [l0, l1, l2, l3, l4, l5, l6] (.int x :: st) h Q ↔ if x = 0 then jx_Go jxP d 80 11 [l0, l1, l2, l3, l4, l5, l6] st h Q else jx_Go jxP d 80 4 [l0, l1, l2, l3, l4, l5, l6] st h Q := jg_ifP rfl rfl
theorem s80_4 : jx_Go jxP d 80 4 [.ref a, l1, l2, l3, l4, l5, l6] st h Q ↔ jx_Go jxP d 80 5 [.ref a, l1, l2, l3, l4, l5, l6] (.ref a :: st) h Q := jg_al rfl rfl
theorem s80_5 : jx_Go jxP d 80 5 [l0, l1, l2, l3, l4, l5, l6] (.ref a :: st) h Q ↔ ∃ v, jx_fl h a 10 1 = some v ∧ jx_Go jxP d 80 8 [l0, l1, l2, l3, l4, l5, l6] (v :: st) h Q := jg_gf rfl
theorem s80_8 : jx_Go jxP d 80 8 [l0, l1, l2, l3, l4, l5, l6] st h Q ↔ jx_Go jxP d 80 15 [l0, l1, l2, l3, l4, l5, l6] st h Q := jg_go rfl
theorem s80_11 : jx_Go jxP d 80 11 [.ref a, l1, l2, l3, l4, l5, l6] st h Q ↔ jx_Go jxP d 80 12 [.ref a, l1, l2, l3, l4, l5, l6] (.ref a :: st) h Q := jg_al rfl rfl
theorem s80_12 : jx_Go jxP d 80 12 [l0, l1, l2, l3, l4, l5, l6] (.ref a :: st) h Q ↔ ∃ v, jx_fl h a 10 0 = some v ∧ jx_Go jxP d 80 15 [l0, l1, l2, l3, l4, l5, l6] (v :: st) h Q := jg_gf rfl
theorem s80_15 : jx_Go jxP d 80 15 [l0, l1, l2, l3, l4, l5, l6] (.int x :: st) h Q ↔ jx_Go jxP d 80 16 [l0, l1, .int x, l3, l4, l5, l6] st h Q := jg_is rfl rfl
theorem s80_16 : jx_Go jxP d 80 16 [l0, l1, l2, l3, l4, l5, l6] st h Q ↔ jx_Go jxP d 80 17 [l0, l1, l2, l3, l4, l5, l6] (.int (nI 0) :: st) h Q := jg_c rfl
theorem s80_17 : jx_Go jxP d 80 17 [l0, l1, l2, l3, l4, l5, l6] (.int x :: st) h Q ↔ jx_Go jxP d 80 18 [l0, l1, l2, .int x, l4, l5, l6] st h Q := jg_is rfl rfl
theorem s80_18 : jx_Go jxP d 80 18 [l0, l1, l2, l3, l4, l5, l6] st h Q ↔ jx_Go jxP d 80 19 [l0, l1, l2, l3, l4, l5, l6] (.int (nI 0) :: st) h Q := jg_c rfl
theorem s80_19 : jx_Go jxP d 80 19 [l0, l1, l2, l3, l4, l5, l6] (.int x :: st) h Q ↔ jx_Go jxP d 80 21 [l0, l1, l2, l3, .int x, l5, l6] st h Q := jg_is rfl rfl
theorem s80_21 : jx_Go jxP d 80 21 [l0, l1, l2, l3, .int x, l5, l6] st h Q ↔ jx_Go jxP d 80 23 [l0, l1, l2, l3, .int x, l5, l6] (.int x :: st) h Q := jg_il rfl rfl
theorem s80_23 : jx_Go jxP d 80 23 [l0, l1, .int x, l3, l4, l5, l6] st h Q ↔ jx_Go jxP d 80 24 [l0, l1, .int x, l3, l4, l5, l6] (.int x :: st) h Q := jg_il rfl rfl
theorem s80_24 : jx_Go jxP d 80 24 [l0, l1, l2, l3, l4, l5, l6] (.int y :: .int x :: st) h Q ↔ if y ≤ x then jx_Go jxP d 80 84 [l0, l1, l2, l3, l4, l5, l6] st h Q else jx_Go jxP d 80 27 [l0, l1, l2, l3, l4, l5, l6] st h Q := jg_icP rfl rfl
theorem s80_27 : jx_Go jxP d 80 27 [l0, l1, l2, l3, l4, l5, l6] st h Q ↔ jx_Go jxP d 80 28 [l0, l1, l2, l3, l4, l5, l6] (.int (nI 1) :: st) h Q := jg_c rfl
theorem s80_28 : jx_Go jxP d 80 28 [l0, l1, l2, l3, l4, l5, l6] (.int x :: st) h Q ↔ jx_Go jxP d 80 30 [l0, l1, l2, l3, l4, .int x, l6] st h Q := jg_is rfl rfl
theorem s80_30 : jx_Go jxP d 80 30 [l0, l1, l2, l3, l4, l5, l6] st h Q ↔ jx_Go jxP d 80 31 [l0, l1, l2, l3, l4, l5, l6] (.int (nI 0) :: st) h Q := jg_c rfl
theorem s80_31 : jx_Go jxP d 80 31 [l0, l1, l2, l3, l4, l5, l6] (.int x :: st) h Q ↔ jx_Go jxP d 80 33 [l0, l1, l2, l3, l4, l5, .int x] st h Q := jg_is rfl rfl
theorem s80_33 : jx_Go jxP d 80 33 [l0, l1, l2, l3, l4, l5, .int x] st h Q ↔ jx_Go jxP d 80 35 [l0, l1, l2, l3, l4, l5, .int x] (.int x :: st) h Q := jg_il rfl rfl
theorem s80_35 : jx_Go jxP d 80 35 [l0, l1, l2, l3, .int x, l5, l6] st h Q ↔ jx_Go jxP d 80 37 [l0, l1, l2, l3, .int x, l5, l6] (.int x :: st) h Q := jg_il rfl rfl
theorem s80_37 : jx_Go jxP d 80 37 [l0, l1, l2, l3, l4, l5, l6] (.int y :: .int x :: st) h Q ↔ if y ≤ x then jx_Go jxP d 80 70 [l0, l1, l2, l3, l4, l5, l6] st h Q else jx_Go jxP d 80 40 [l0, l1, l2, l3, l4, l5, l6] st h Q := jg_icP rfl rfl
theorem s80_40 : jx_Go jxP d 80 40 [l0, l1, l2, l3, l4, .int x, l6] st h Q ↔ jx_Go jxP d 80 42 [l0, l1, l2, l3, l4, .int x, l6] (.int x :: st) h Q := jg_il rfl rfl
theorem s80_42 : jx_Go jxP d 80 42 [l0, l1, l2, l3, l4, l5, l6] (.int x :: st) h Q ↔ if x = 0 then jx_Go jxP d 80 61 [l0, l1, l2, l3, l4, l5, l6] st h Q else jx_Go jxP d 80 45 [l0, l1, l2, l3, l4, l5, l6] st h Q := jg_ifP rfl rfl
theorem s80_45 : jx_Go jxP d 80 45 [.ref a, l1, l2, l3, l4, l5, l6] st h Q ↔ jx_Go jxP d 80 46 [.ref a, l1, l2, l3, l4, l5, l6] (.ref a :: st) h Q := jg_al rfl rfl
theorem s80_46 : jx_Go jxP d 80 46 [l0, l1, l2, l3, .int x, l5, l6] st h Q ↔ jx_Go jxP d 80 48 [l0, l1, l2, l3, .int x, l5, l6] (.int x :: st) h Q := jg_il rfl rfl
theorem s80_48 : jx_Go jxP d 80 48 [l0, l1, l2, l3, l4, l5, .int x] st h Q ↔ jx_Go jxP d 80 50 [l0, l1, l2, l3, l4, l5, .int x] (.int x :: st) h Q := jg_il rfl rfl
theorem s80_50 : jx_Go jxP d 80 50 [l0, .int x, l2, l3, l4, l5, l6] st h Q ↔ jx_Go jxP d 80 51 [l0, .int x, l2, l3, l4, l5, l6] (.int x :: st) h Q := jg_il rfl rfl
theorem s80_51 : jx_Go jxP (d + 1) 80 51 [l0, l1, l2, l3, l4, l5, l6] (.int x2 :: .int x1 :: .int x0 :: .ref a :: st) h Q ↔ (st.length ≤ 4 ∧ jx_cl h a = some 10 ∧ jx_Go jxP d 81 0 [.ref a, .int x0, .int x1, .int x2, jx_u, jx_u, jx_u, jx_u, jx_u] [] h (fun s1 h1 => jx_Go jxP (d + 1) 80 54 [l0, l1, l2, l3, l4, l5, l6] (s1 ++ st) h1 Q)) := jg_callV (as := [.int x2, .int x1, .int x0, .ref a]) rfl rfl rfl rfl rfl
theorem s80_54 : jx_Go jxP d 80 54 [l0, l1, l2, l3, l4, l5, l6] (.int x :: st) h Q ↔ if x = 0 then jx_Go jxP d 80 57 [l0, l1, l2, l3, l4, l5, l6] st h Q else jx_Go jxP d 80 61 [l0, l1, l2, l3, l4, l5, l6] st h Q := jg_ifN rfl rfl
theorem s80_57 : jx_Go jxP d 80 57 [l0, l1, l2, l3, l4, l5, l6] st h Q ↔ jx_Go jxP d 80 58 [l0, l1, l2, l3, l4, l5, l6] (.int (nI 1) :: st) h Q := jg_c rfl
theorem s80_58 : jx_Go jxP d 80 58 [l0, l1, l2, l3, l4, l5, l6] st h Q ↔ jx_Go jxP d 80 62 [l0, l1, l2, l3, l4, l5, l6] st h Q := jg_go rfl
theorem s80_61 : jx_Go jxP d 80 61 [l0, l1, l2, l3, l4, l5, l6] st h Q ↔ jx_Go jxP d 80 62 [l0, l1, l2, l3, l4, l5, l6] (.int (nI 0) :: st) h Q := jg_c rfl
theorem s80_62 : jx_Go jxP d 80 62 [l0, l1, l2, l3, l4, l5, l6] (.int x :: st) h Q ↔ jx_Go jxP d 80 64 [l0, l1, l2, l3, l4, .int x, l6] st h Q := jg_is rfl rfl
theorem s80_64 : jx_Go jxP d 80 64 [l0, l1, l2, l3, l4, l5, .int x] st h Q ↔ jx_Go jxP d 80 67 [l0, l1, l2, l3, l4, l5, .int (x + (nI 1))] st h Q := jg_inc rfl rfl rfl
theorem s80_67 : jx_Go jxP d 80 67 [l0, l1, l2, l3, l4, l5, l6] st h Q ↔ jx_Go jxP d 80 33 [l0, l1, l2, l3, l4, l5, l6] st h Q := jg_go rfl
theorem s80_70 : jx_Go jxP d 80 70 [l0, l1, l2, l3, l4, .int x, l6] st h Q ↔ jx_Go jxP d 80 72 [l0, l1, l2, l3, l4, .int x, l6] (.int x :: st) h Q := jg_il rfl rfl
theorem s80_72 : jx_Go jxP d 80 72 [l0, l1, l2, l3, l4, l5, l6] (.int x :: st) h Q ↔ if x = 0 then jx_Go jxP d 80 78 [l0, l1, l2, l3, l4, l5, l6] st h Q else jx_Go jxP d 80 75 [l0, l1, l2, l3, l4, l5, l6] st h Q := jg_ifP rfl rfl
theorem s80_75 : jx_Go jxP d 80 75 [l0, l1, l2, .int x, l4, l5, l6] st h Q ↔ jx_Go jxP d 80 78 [l0, l1, l2, .int (x + (nI 1)), l4, l5, l6] st h Q := jg_inc rfl rfl rfl
theorem s80_78 : jx_Go jxP d 80 78 [l0, l1, l2, l3, .int x, l5, l6] st h Q ↔ jx_Go jxP d 80 81 [l0, l1, l2, l3, .int (x + (nI 1)), l5, l6] st h Q := jg_inc rfl rfl rfl
theorem s80_81 : jx_Go jxP d 80 81 [l0, l1, l2, l3, l4, l5, l6] st h Q ↔ jx_Go jxP d 80 21 [l0, l1, l2, l3, l4, l5, l6] st h Q := jg_go rfl
theorem s80_84 : jx_Go jxP d 80 84 [l0, l1, l2, .int x, l4, l5, l6] st h Q ↔ jx_Go jxP d 80 85 [l0, l1, l2, .int x, l4, l5, l6] (.int x :: st) h Q := jg_il rfl rfl
theorem s80_85 : jx_Go jxP d 80 85 [l0, l1, l2, l3, l4, l5, l6] [.int x] h Q ↔ Q [.int x] h := jx_rt rfl rfl
-- 81 TalkBench$Task.areAlike
theorem s81_0 : jx_Go jxP d 81 0 [l0, l1, l2, .int x, l4, l5, l6, l7, l8] st h Q ↔ jx_Go jxP d 81 1 [l0, l1, l2, .int x, l4, l5, l6, l7, l8] (.int x :: st) h Q := jg_il rfl rfl
theorem s81_1 : jx_Go jxP d 81 1 [l0, l1, l2, l3, l4, l5, l6, l7, l8] (.int x :: st) h Q ↔ if x = 0 then jx_Go jxP d 81 11 [l0, l1, l2, l3, l4, l5, l6, l7, l8] st h Q else jx_Go jxP d 81 4 [l0, l1, l2, l3, l4, l5, l6, l7, l8] st h Q := jg_ifP rfl rfl
theorem s81_4 : jx_Go jxP d 81 4 [.ref a, l1, l2, l3, l4, l5, l6, l7, l8] st h Q ↔ jx_Go jxP d 81 5 [.ref a, l1, l2, l3, l4, l5, l6, l7, l8] (.ref a :: st) h Q := jg_al rfl rfl
theorem s81_5 : jx_Go jxP d 81 5 [l0, l1, l2, l3, l4, l5, l6, l7, l8] (.ref a :: st) h Q ↔ ∃ v, jx_fl h a 10 0 = some v ∧ jx_Go jxP d 81 8 [l0, l1, l2, l3, l4, l5, l6, l7, l8] (v :: st) h Q := jg_gf rfl
theorem s81_8 : jx_Go jxP d 81 8 [l0, l1, l2, l3, l4, l5, l6, l7, l8] st h Q ↔ jx_Go jxP d 81 15 [l0, l1, l2, l3, l4, l5, l6, l7, l8] st h Q := jg_go rfl
theorem s81_11 : jx_Go jxP d 81 11 [.ref a, l1, l2, l3, l4, l5, l6, l7, l8] st h Q ↔ jx_Go jxP d 81 12 [.ref a, l1, l2, l3, l4, l5, l6, l7, l8] (.ref a :: st) h Q := jg_al rfl rfl
theorem s81_12 : jx_Go jxP d 81 12 [l0, l1, l2, l3, l4, l5, l6, l7, l8] (.ref a :: st) h Q ↔ ∃ v, jx_fl h a 10 1 = some v ∧ jx_Go jxP d 81 15 [l0, l1, l2, l3, l4, l5, l6, l7, l8] (v :: st) h Q := jg_gf rfl
theorem s81_15 : jx_Go jxP d 81 15 [l0, l1, l2, l3, l4, l5, l6, l7, l8] (.int x :: st) h Q ↔ jx_Go jxP d 81 17 [l0, l1, l2, l3, .int x, l5, l6, l7, l8] st h Q := jg_is rfl rfl
theorem s81_17 : jx_Go jxP d 81 17 [l0, l1, l2, .int x, l4, l5, l6, l7, l8] st h Q ↔ jx_Go jxP d 81 18 [l0, l1, l2, .int x, l4, l5, l6, l7, l8] (.int x :: st) h Q := jg_il rfl rfl
theorem s81_18 : jx_Go jxP d 81 18 [l0, l1, l2, l3, l4, l5, l6, l7, l8] (.int x :: st) h Q ↔ if x = 0 then jx_Go jxP d 81 25 [l0, l1, l2, l3, l4, l5, l6, l7, l8] st h Q else jx_Go jxP d 81 21 [l0, l1, l2, l3, l4, l5, l6, l7, l8] st h Q := jg_ifP rfl rfl
theorem s81_21 : jx_Go jxP d 81 21 [l0, l1, l2, l3, l4, l5, l6, l7, l8] st h Q ↔ jx_Go jxP d 81 22 [l0, l1, l2, l3, l4, l5, l6, l7, l8] (.int (nI 5) :: st) h Q := jg_c rfl
theorem s81_22 : jx_Go jxP d 81 22 [l0, l1, l2, l3, l4, l5, l6, l7, l8] st h Q ↔ jx_Go jxP d 81 26 [l0, l1, l2, l3, l4, l5, l6, l7, l8] st h Q := jg_go rfl
theorem s81_25 : jx_Go jxP d 81 25 [l0, l1, l2, l3, l4, l5, l6, l7, l8] st h Q ↔ jx_Go jxP d 81 26 [l0, l1, l2, l3, l4, l5, l6, l7, l8] (.int (nI 1) :: st) h Q := jg_c rfl
theorem s81_26 : jx_Go jxP d 81 26 [l0, l1, l2, l3, l4, l5, l6, l7, l8] (.int x :: st) h Q ↔ jx_Go jxP d 81 28 [l0, l1, l2, l3, l4, .int x, l6, l7, l8] st h Q := jg_is rfl rfl
theorem s81_28 : jx_Go jxP d 81 28 [l0, l1, l2, .int x, l4, l5, l6, l7, l8] st h Q ↔ jx_Go jxP d 81 29 [l0, l1, l2, .int x, l4, l5, l6, l7, l8] (.int x :: st) h Q := jg_il rfl rfl
theorem s81_29 : jx_Go jxP d 81 29 [l0, l1, l2, l3, l4, l5, l6, l7, l8] (.int x :: st) h Q ↔ if x = 0 then jx_Go jxP d 81 36 [l0, l1, l2, l3, l4, l5, l6, l7, l8] st h Q else jx_Go jxP d 81 32 [l0, l1, l2, l3, l4, l5, l6, l7, l8] st h Q := jg_ifP rfl rfl
theorem s81_32 : jx_Go jxP d 81 32 [l0, .int x, l2, l3, l4, l5, l6, l7, l8] st h Q ↔ jx_Go jxP d 81 33 [l0, .int x, l2, l3, l4, l5, l6, l7, l8] (.int x :: st) h Q := jg_il rfl rfl
theorem s81_33 : jx_Go jxP d 81 33 [l0, l1, l2, l3, l4, l5, l6, l7, l8] st h Q ↔ jx_Go jxP d 81 39 [l0, l1, l2, l3, l4, l5, l6, l7, l8] st h Q := jg_go rfl
theorem s81_36 : jx_Go jxP d 81 36 [l0, l1, l2, l3, l4, l5, l6, l7, l8] st h Q ↔ jx_Go jxP d 81 37 [l0, l1, l2, l3, l4, l5, l6, l7, l8] (.int (nI 5) :: st) h Q := jg_c rfl
theorem s81_37 : jx_Go jxP d 81 37 [l0, .int x, l2, l3, l4, l5, l6, l7, l8] st h Q ↔ jx_Go jxP d 81 38 [l0, .int x, l2, l3, l4, l5, l6, l7, l8] (.int x :: st) h Q := jg_il rfl rfl
theorem s81_38 : jx_Go jxP d 81 38 [l0, l1, l2, l3, l4, l5, l6, l7, l8] (.int y :: .int x :: st) h Q ↔ jx_Go jxP d 81 39 [l0, l1, l2, l3, l4, l5, l6, l7, l8] (.int (x * y) :: st) h Q := jg_b (f := fun x y => x * y) rfl
theorem s81_39 : jx_Go jxP d 81 39 [l0, l1, l2, l3, l4, l5, l6, l7, l8] (.int x :: st) h Q ↔ jx_Go jxP d 81 41 [l0, l1, l2, l3, l4, l5, .int x, l7, l8] st h Q := jg_is rfl rfl
theorem s81_41 : jx_Go jxP d 81 41 [l0, l1, l2, .int x, l4, l5, l6, l7, l8] st h Q ↔ jx_Go jxP d 81 42 [l0, l1, l2, .int x, l4, l5, l6, l7, l8] (.int x :: st) h Q := jg_il rfl rfl
theorem s81_42 : jx_Go jxP d 81 42 [l0, l1, l2, l3, l4, l5, l6, l7, l8] (.int x :: st) h Q ↔ if x = 0 then jx_Go jxP d 81 49 [l0, l1, l2, l3, l4, l5, l6, l7, l8] st h Q else jx_Go jxP d 81 45 [l0, l1, l2, l3, l4, l5, l6, l7, l8] st h Q := jg_ifP rfl rfl
theorem s81_45 : jx_Go jxP d 81 45 [l0, l1, .int x, l3, l4, l5, l6, l7, l8] st h Q ↔ jx_Go jxP d 81 46 [l0, l1, .int x, l3, l4, l5, l6, l7, l8] (.int x :: st) h Q := jg_il rfl rfl
theorem s81_46 : jx_Go jxP d 81 46 [l0, l1, l2, l3, l4, l5, l6, l7, l8] st h Q ↔ jx_Go jxP d 81 52 [l0, l1, l2, l3, l4, l5, l6, l7, l8] st h Q := jg_go rfl
theorem s81_49 : jx_Go jxP d 81 49 [l0, l1, l2, l3, l4, l5, l6, l7, l8] st h Q ↔ jx_Go jxP d 81 50 [l0, l1, l2, l3, l4, l5, l6, l7, l8] (.int (nI 5) :: st) h Q := jg_c rfl
theorem s81_50 : jx_Go jxP d 81 50 [l0, l1, .int x, l3, l4, l5, l6, l7, l8] st h Q ↔ jx_Go jxP d 81 51 [l0, l1, .int x, l3, l4, l5, l6, l7, l8] (.int x :: st) h Q := jg_il rfl rfl
theorem s81_51 : jx_Go jxP d 81 51 [l0, l1, l2, l3, l4, l5, l6, l7, l8] (.int y :: .int x :: st) h Q ↔ jx_Go jxP d 81 52 [l0, l1, l2, l3, l4, l5, l6, l7, l8] (.int (x * y) :: st) h Q := jg_b (f := fun x y => x * y) rfl
theorem s81_52 : jx_Go jxP d 81 52 [l0, l1, l2, l3, l4, l5, l6, l7, l8] (.int x :: st) h Q ↔ jx_Go jxP d 81 54 [l0, l1, l2, l3, l4, l5, l6, .int x, l8] st h Q := jg_is rfl rfl
theorem s81_54 : jx_Go jxP d 81 54 [l0, l1, l2, l3, l4, l5, l6, l7, l8] st h Q ↔ jx_Go jxP d 81 55 [l0, l1, l2, l3, l4, l5, l6, l7, l8] (.int (nI 0) :: st) h Q := jg_c rfl
theorem s81_55 : jx_Go jxP d 81 55 [l0, l1, l2, l3, l4, l5, l6, l7, l8] (.int x :: st) h Q ↔ jx_Go jxP d 81 57 [l0, l1, l2, l3, l4, l5, l6, l7, .int x] st h Q := jg_is rfl rfl
theorem s81_57 : jx_Go jxP d 81 57 [l0, l1, l2, l3, l4, l5, l6, l7, .int x] st h Q ↔ jx_Go jxP d 81 59 [l0, l1, l2, l3, l4, l5, l6, l7, .int x] (.int x :: st) h Q := jg_il rfl rfl
theorem s81_59 : jx_Go jxP d 81 59 [l0, l1, l2, l3, .int x, l5, l6, l7, l8] st h Q ↔ jx_Go jxP d 81 61 [l0, l1, l2, l3, .int x, l5, l6, l7, l8] (.int x :: st) h Q := jg_il rfl rfl
theorem s81_61 : jx_Go jxP d 81 61 [l0, l1, l2, l3, l4, l5, l6, l7, l8] (.int y :: .int x :: st) h Q ↔ if y ≤ x then jx_Go jxP d 81 101 [l0, l1, l2, l3, l4, l5, l6, l7, l8] st h Q else jx_Go jxP d 81 64 [l0, l1, l2, l3, l4, l5, l6, l7, l8] st h Q := jg_icP rfl rfl
theorem s81_64 : jx_Go jxP d 81 64 [.ref a, l1, l2, l3, l4, l5, l6, l7, l8] st h Q ↔ jx_Go jxP d 81 65 [.ref a, l1, l2, l3, l4, l5, l6, l7, l8] (.ref a :: st) h Q := jg_al rfl rfl
theorem s81_65 : jx_Go jxP d 81 65 [l0, l1, l2, l3, l4, l5, l6, l7, l8] (.ref a :: st) h Q ↔ ∃ v, jx_fl h a 10 2 = some v ∧ jx_Go jxP d 81 68 [l0, l1, l2, l3, l4, l5, l6, l7, l8] (v :: st) h Q := jg_gf rfl
theorem s81_68 : jx_Go jxP d 81 68 [l0, l1, l2, l3, l4, l5, .int x, l7, l8] st h Q ↔ jx_Go jxP d 81 70 [l0, l1, l2, l3, l4, l5, .int x, l7, l8] (.int x :: st) h Q := jg_il rfl rfl
theorem s81_70 : jx_Go jxP d 81 70 [l0, l1, l2, l3, l4, .int x, l6, l7, l8] st h Q ↔ jx_Go jxP d 81 72 [l0, l1, l2, l3, l4, .int x, l6, l7, l8] (.int x :: st) h Q := jg_il rfl rfl
theorem s81_72 : jx_Go jxP d 81 72 [l0, l1, l2, l3, l4, l5, l6, l7, .int x] st h Q ↔ jx_Go jxP d 81 74 [l0, l1, l2, l3, l4, l5, l6, l7, .int x] (.int x :: st) h Q := jg_il rfl rfl
theorem s81_74 : jx_Go jxP d 81 74 [l0, l1, l2, l3, l4, l5, l6, l7, l8] (.int y :: .int x :: st) h Q ↔ jx_Go jxP d 81 75 [l0, l1, l2, l3, l4, l5, l6, l7, l8] (.int (x * y) :: st) h Q := jg_b (f := fun x y => x * y) rfl
theorem s81_75 : jx_Go jxP d 81 75 [l0, l1, l2, l3, l4, l5, l6, l7, l8] (.int y :: .int x :: st) h Q ↔ jx_Go jxP d 81 76 [l0, l1, l2, l3, l4, l5, l6, l7, l8] (.int (x + y) :: st) h Q := jg_b (f := fun x y => x + y) rfl
theorem s81_76 : jx_Go jxP d 81 76 [l0, l1, l2, l3, l4, l5, l6, l7, l8] (.int x :: .ref a :: st) h Q ↔ ∃ q, jx_ai h a = some q ∧ jx_in x q.1 ∧ jx_Go jxP d 81 77 [l0, l1, l2, l3, l4, l5, l6, l7, l8] (.int (q.2 x.toNatClampNeg) :: st) h Q := jg_ia rfl
theorem s81_77 : jx_Go jxP d 81 77 [.ref a, l1, l2, l3, l4, l5, l6, l7, l8] st h Q ↔ jx_Go jxP d 81 78 [.ref a, l1, l2, l3, l4, l5, l6, l7, l8] (.ref a :: st) h Q := jg_al rfl rfl
theorem s81_78 : jx_Go jxP d 81 78 [l0, l1, l2, l3, l4, l5, l6, l7, l8] (.ref a :: st) h Q ↔ ∃ v, jx_fl h a 10 2 = some v ∧ jx_Go jxP d 81 81 [l0, l1, l2, l3, l4, l5, l6, l7, l8] (v :: st) h Q := jg_gf rfl
theorem s81_81 : jx_Go jxP d 81 81 [l0, l1, l2, l3, l4, l5, l6, .int x, l8] st h Q ↔ jx_Go jxP d 81 83 [l0, l1, l2, l3, l4, l5, l6, .int x, l8] (.int x :: st) h Q := jg_il rfl rfl
theorem s81_83 : jx_Go jxP d 81 83 [l0, l1, l2, l3, l4, .int x, l6, l7, l8] st h Q ↔ jx_Go jxP d 81 85 [l0, l1, l2, l3, l4, .int x, l6, l7, l8] (.int x :: st) h Q := jg_il rfl rfl
theorem s81_85 : jx_Go jxP d 81 85 [l0, l1, l2, l3, l4, l5, l6, l7, .int x] st h Q ↔ jx_Go jxP d 81 87 [l0, l1, l2, l3, l4, l5, l6, l7, .int x] (.int x :: st) h Q := jg_il rfl rfl
theorem s81_87 : jx_Go jxP d 81 87 [l0, l1, l2, l3, l4, l5, l6, l7, l8] (.int y :: .int x :: st) h Q ↔ jx_Go jxP d 81 88 [l0, l1, l2, l3, l4, l5, l6, l7, l8] (.int (x * y) :: st) h Q := jg_b (f := fun x y => x * y) rfl
theorem s81_88 : jx_Go jxP d 81 88 [l0, l1, l2, l3, l4, l5, l6, l7, l8] (.int y :: .int x :: st) h Q ↔ jx_Go jxP d 81 89 [l0, l1, l2, l3, l4, l5, l6, l7, l8] (.int (x + y) :: st) h Q := jg_b (f := fun x y => x + y) rfl
theorem s81_89 : jx_Go jxP d 81 89 [l0, l1, l2, l3, l4, l5, l6, l7, l8] (.int x :: .ref a :: st) h Q ↔ ∃ q, jx_ai h a = some q ∧ jx_in x q.1 ∧ jx_Go jxP d 81 90 [l0, l1, l2, l3, l4, l5, l6, l7, l8] (.int (q.2 x.toNatClampNeg) :: st) h Q := jg_ia rfl
theorem s81_90 : jx_Go jxP d 81 90 [l0, l1, l2, l3, l4, l5, l6, l7, l8] (.int y :: .int x :: st) h Q ↔ if x = y then jx_Go jxP d 81 95 [l0, l1, l2, l3, l4, l5, l6, l7, l8] st h Q else jx_Go jxP d 81 93 [l0, l1, l2, l3, l4, l5, l6, l7, l8] st h Q := jg_icP rfl rfl
theorem s81_93 : jx_Go jxP d 81 93 [l0, l1, l2, l3, l4, l5, l6, l7, l8] st h Q ↔ jx_Go jxP d 81 94 [l0, l1, l2, l3, l4, l5, l6, l7, l8] (.int (nI 0) :: st) h Q := jg_c rfl
theorem s81_94b0 : jx_Go jxP d 81 94 [l0, l1, l2, l3, l4, l5, l6, l7, l8] [.int (nI 0)] h Q ↔ Q [.int (nI 0)] h := jx_rt rfl rfl
theorem s81_94b1 : jx_Go jxP d 81 94 [l0, l1, l2, l3, l4, l5, l6, l7, l8] [.int (nI 1)] h Q ↔ Q [.int (nI 1)] h := jx_rt rfl rfl
theorem s81_95 : jx_Go jxP d 81 95 [l0, l1, l2, l3, l4, l5, l6, l7, .int x] st h Q ↔ jx_Go jxP d 81 98 [l0, l1, l2, l3, l4, l5, l6, l7, .int (x + (nI 1))] st h Q := jg_inc rfl rfl rfl
theorem s81_98 : jx_Go jxP d 81 98 [l0, l1, l2, l3, l4, l5, l6, l7, l8] st h Q ↔ jx_Go jxP d 81 57 [l0, l1, l2, l3, l4, l5, l6, l7, l8] st h Q := jg_go rfl
theorem s81_101 : jx_Go jxP d 81 101 [l0, l1, l2, l3, l4, l5, l6, l7, l8] st h Q ↔ jx_Go jxP d 81 102 [l0, l1, l2, l3, l4, l5, l6, l7, l8] (.int (nI 1) :: st) h Q := jg_c rfl
theorem s81_102b0 : jx_Go jxP d 81 102 [l0, l1, l2, l3, l4, l5, l6, l7, l8] [.int (nI 0)] h Q ↔ Q [.int (nI 0)] h := jx_rt rfl rfl
theorem s81_102b1 : jx_Go jxP d 81 102 [l0, l1, l2, l3, l4, l5, l6, l7, l8] [.int (nI 1)] h Q ↔ Q [.int (nI 1)] h := jx_rt rfl rfl
-- 82 TalkBench$Task.findRank
theorem s82_0 : jx_Go jxP d 82 0 [.ref a, l1, l2, l3, l4, l5, l6] st h Q ↔ jx_Go jxP d 82 1 [.ref a, l1, l2, l3, l4, l5, l6] (.ref a :: st) h Q := jg_al rfl rfl
theorem s82_1 : jx_Go jxP d 82 1 [l0, l1, l2, l3, l4, l5, l6] (.ref a :: st) h Q ↔ ∃ v, jx_fl h a 10 2 = some v ∧ jx_Go jxP d 82 4 [l0, l1, l2, l3, l4, l5, l6] (v :: st) h Q := jg_gf rfl
theorem s82_4 : jx_Go jxP d 82 4 [l0, l1, l2, l3, l4, l5, l6] st h Q ↔ jx_Go jxP d 82 6 [l0, l1, l2, l3, l4, l5, l6] (.int (nI 25) :: st) h Q := jg_c rfl
theorem s82_6 : jx_Go jxP (d + 1) 82 6 [l0, l1, l2, l3, l4, l5, l6] (.int x1 :: .ref a0 :: st) h Q ↔ (st.length ≤ 4 ∧ jx_Go jxP d 199 0 [.ref a0, .int x1, jx_u] [] h (fun s1 h1 => jx_Go jxP (d + 1) 82 9 [l0, l1, l2, l3, l4, l5, l6] (s1 ++ st) h1 Q)) := jg_callS (as := [.int x1, .ref a0]) rfl rfl rfl rfl
theorem s82_9 : jx_Go jxP d 82 9 [l0, l1, l2, l3, l4, l5, l6] (.ref a :: st) h Q ↔ jx_Go jxP d 82 10 [l0, l1, .ref a, l3, l4, l5, l6] st h Q := jg_as rfl rfl
theorem s82_10 : jx_Go jxP d 82 10 [l0, l1, l2, l3, l4, l5, l6] st h Q ↔ jx_Go jxP d 82 11 [l0, l1, l2, l3, l4, l5, l6] (.int (nI 0) :: st) h Q := jg_c rfl
theorem s82_11 : jx_Go jxP d 82 11 [l0, l1, l2, l3, l4, l5, l6] (.int x :: st) h Q ↔ jx_Go jxP d 82 12 [l0, l1, l2, .int x, l4, l5, l6] st h Q := jg_is rfl rfl
theorem s82_12 : jx_Go jxP d 82 12 [l0, l1, l2, l3, l4, l5, l6] st h Q ↔ jx_Go jxP d 82 13 [l0, l1, l2, l3, l4, l5, l6] (.int (nI 0) :: st) h Q := jg_c rfl
theorem s82_13 : jx_Go jxP d 82 13 [l0, l1, l2, l3, l4, l5, l6] (.int x :: st) h Q ↔ jx_Go jxP d 82 15 [l0, l1, l2, l3, .int x, l5, l6] st h Q := jg_is rfl rfl
theorem s82_15 : jx_Go jxP d 82 15 [l0, l1, l2, l3, .int x, l5, l6] st h Q ↔ jx_Go jxP d 82 17 [l0, l1, l2, l3, .int x, l5, l6] (.int x :: st) h Q := jg_il rfl rfl
theorem s82_17 : jx_Go jxP d 82 17 [.ref a, l1, l2, l3, l4, l5, l6] st h Q ↔ jx_Go jxP d 82 18 [.ref a, l1, l2, l3, l4, l5, l6] (.ref a :: st) h Q := jg_al rfl rfl
theorem s82_18 : jx_Go jxP d 82 18 [l0, l1, l2, l3, l4, l5, l6] (.ref a :: st) h Q ↔ ∃ v, jx_fl h a 10 1 = some v ∧ jx_Go jxP d 82 21 [l0, l1, l2, l3, l4, l5, l6] (v :: st) h Q := jg_gf rfl
theorem s82_21 : jx_Go jxP d 82 21 [l0, l1, l2, l3, l4, l5, l6] (.int y :: .int x :: st) h Q ↔ if y ≤ x then jx_Go jxP d 82 104 [l0, l1, l2, l3, l4, l5, l6] st h Q else jx_Go jxP d 82 24 [l0, l1, l2, l3, l4, l5, l6] st h Q := jg_icP rfl rfl
theorem s82_24 : jx_Go jxP d 82 24 [l0, l1, l2, .int x, l4, l5, l6] st h Q ↔ jx_Go jxP d 82 25 [l0, l1, l2, .int x, l4, l5, l6] (.int x :: st) h Q := jg_il rfl rfl
theorem s82_25 : jx_Go jxP d 82 25 [.ref a, l1, l2, l3, l4, l5, l6] st h Q ↔ jx_Go jxP d 82 26 [.ref a, l1, l2, l3, l4, l5, l6] (.ref a :: st) h Q := jg_al rfl rfl
theorem s82_26 : jx_Go jxP d 82 26 [l0, l1, l2, l3, l4, l5, l6] (.ref a :: st) h Q ↔ ∃ v, jx_fl h a 10 0 = some v ∧ jx_Go jxP d 82 29 [l0, l1, l2, l3, l4, l5, l6] (v :: st) h Q := jg_gf rfl
theorem s82_29 : jx_Go jxP d 82 29 [l0, l1, l2, l3, l4, l5, l6] (.int y :: .int x :: st) h Q ↔ if y ≤ x then jx_Go jxP d 82 104 [l0, l1, l2, l3, l4, l5, l6] st h Q else jx_Go jxP d 82 32 [l0, l1, l2, l3, l4, l5, l6] st h Q := jg_icP rfl rfl
theorem s82_32 : jx_Go jxP d 82 32 [.ref a, l1, l2, l3, l4, l5, l6] st h Q ↔ jx_Go jxP d 82 33 [.ref a, l1, l2, l3, l4, l5, l6] (.ref a :: st) h Q := jg_al rfl rfl
theorem s82_33 : jx_Go jxP d 82 33 [l0, l1, .ref a, l3, l4, l5, l6] st h Q ↔ jx_Go jxP d 82 34 [l0, l1, .ref a, l3, l4, l5, l6] (.ref a :: st) h Q := jg_al rfl rfl
theorem s82_34 : jx_Go jxP d 82 34 [l0, l1, l2, .int x, l4, l5, l6] st h Q ↔ jx_Go jxP d 82 35 [l0, l1, l2, .int x, l4, l5, l6] (.int x :: st) h Q := jg_il rfl rfl
theorem s82_35 : jx_Go jxP d 82 35 [l0, l1, l2, l3, .int x, l5, l6] st h Q ↔ jx_Go jxP d 82 37 [l0, l1, l2, l3, .int x, l5, l6] (.int x :: st) h Q := jg_il rfl rfl
theorem s82_37 : jx_Go jxP (d + 1) 82 37 [l0, l1, l2, l3, l4, l5, l6] (.int x2 :: .int x1 :: .ref a0 :: .ref a :: st) h Q ↔ (st.length ≤ 4 ∧ jx_cl h a = some 10 ∧ jx_Go jxP d 83 0 [.ref a, .ref a0, .int x1, .int x2, jx_u] [] h (fun s1 h1 => jx_Go jxP (d + 1) 82 40 [l0, l1, l2, l3, l4, l5, l6] (s1 ++ st) h1 Q)) := jg_callV (as := [.int x2, .int x1, .ref a0, .ref a]) rfl rfl rfl rfl rfl
theorem s82_40 : jx_Go jxP d 82 40 [l0, l1, l2, l3, l4, l5, l6] (.int x :: st) h Q ↔ jx_Go jxP d 82 42 [l0, l1, l2, l3, l4, .int x, l6] st h Q := jg_is rfl rfl
theorem s82_42 : jx_Go jxP d 82 42 [l0, l1, l2, l3, l4, .int x, l6] st h Q ↔ jx_Go jxP d 82 44 [l0, l1, l2, l3, l4, .int x, l6] (.int x :: st) h Q := jg_il rfl rfl
theorem s82_44 : jx_Go jxP d 82 44 [.ref a, l1, l2, l3, l4, l5, l6] st h Q ↔ jx_Go jxP d 82 45 [.ref a, l1, l2, l3, l4, l5, l6] (.ref a :: st) h Q := jg_al rfl rfl
theorem s82_45 : jx_Go jxP d 82 45 [l0, l1, l2, l3, l4, l5, l6] (.ref a :: st) h Q ↔ ∃ v, jx_fl h a 10 0 = some v ∧ jx_Go jxP d 82 48 [l0, l1, l2, l3, l4, l5, l6] (v :: st) h Q := jg_gf rfl
theorem s82_48 : jx_Go jxP d 82 48 [l0, l1, l2, l3, l4, l5, l6] (.int y :: .int x :: st) h Q ↔ if y ≤ x then jx_Go jxP d 82 98 [l0, l1, l2, l3, l4, l5, l6] st h Q else jx_Go jxP d 82 51 [l0, l1, l2, l3, l4, l5, l6] st h Q := jg_icP rfl rfl
theorem s82_51 : jx_Go jxP d 82 51 [l0, l1, l2, l3, l4, l5, l6] st h Q ↔ jx_Go jxP d 82 52 [l0, l1, l2, l3, l4, l5, l6] (.int (nI 0) :: st) h Q := jg_c rfl
theorem s82_52 : jx_Go jxP d 82 52 [l0, l1, l2, l3, l4, l5, l6] (.int x :: st) h Q ↔ jx_Go jxP d 82 54 [l0, l1, l2, l3, l4, l5, .int x] st h Q := jg_is rfl rfl
theorem s82_54 : jx_Go jxP d 82 54 [l0, l1, l2, l3, l4, l5, .int x] st h Q ↔ jx_Go jxP d 82 56 [l0, l1, l2, l3, l4, l5, .int x] (.int x :: st) h Q := jg_il rfl rfl
theorem s82_56 : jx_Go jxP d 82 56 [.ref a, l1, l2, l3, l4, l5, l6] st h Q ↔ jx_Go jxP d 82 57 [.ref a, l1, l2, l3, l4, l5, l6] (.ref a :: st) h Q := jg_al rfl rfl
theorem s82_57 : jx_Go jxP d 82 57 [l0, l1, l2, l3, l4, l5, l6] (.ref a :: st) h Q ↔ ∃ v, jx_fl h a 10 1 = some v ∧ jx_Go jxP d 82 60 [l0, l1, l2, l3, l4, l5, l6] (v :: st) h Q := jg_gf rfl
theorem s82_60 : jx_Go jxP d 82 60 [l0, l1, l2, l3, l4, l5, l6] (.int y :: .int x :: st) h Q ↔ if y ≤ x then jx_Go jxP d 82 86 [l0, l1, l2, l3, l4, l5, l6] st h Q else jx_Go jxP d 82 63 [l0, l1, l2, l3, l4, l5, l6] st h Q := jg_icP rfl rfl
theorem s82_63 : jx_Go jxP d 82 63 [l0, l1, .ref a, l3, l4, l5, l6] st h Q ↔ jx_Go jxP d 82 64 [l0, l1, .ref a, l3, l4, l5, l6] (.ref a :: st) h Q := jg_al rfl rfl
theorem s82_64 : jx_Go jxP d 82 64 [l0, l1, l2, l3, l4, l5, l6] st h Q ↔ jx_Go jxP d 82 65 [l0, l1, l2, l3, l4, l5, l6] (.int (nI 5) :: st) h Q := jg_c rfl
theorem s82_65 : jx_Go jxP d 82 65 [l0, l1, l2, l3, l4, .int x, l6] st h Q ↔ jx_Go jxP d 82 67 [l0, l1, l2, l3, l4, .int x, l6] (.int x :: st) h Q := jg_il rfl rfl
theorem s82_67 : jx_Go jxP d 82 67 [l0, l1, l2, l3, l4, l5, l6] (.int y :: .int x :: st) h Q ↔ jx_Go jxP d 82 68 [l0, l1, l2, l3, l4, l5, l6] (.int (x * y) :: st) h Q := jg_b (f := fun x y => x * y) rfl
theorem s82_68 : jx_Go jxP d 82 68 [l0, l1, l2, l3, l4, l5, .int x] st h Q ↔ jx_Go jxP d 82 70 [l0, l1, l2, l3, l4, l5, .int x] (.int x :: st) h Q := jg_il rfl rfl
theorem s82_70 : jx_Go jxP d 82 70 [l0, l1, l2, l3, l4, l5, l6] (.int y :: .int x :: st) h Q ↔ jx_Go jxP d 82 71 [l0, l1, l2, l3, l4, l5, l6] (.int (x + y) :: st) h Q := jg_b (f := fun x y => x + y) rfl
theorem s82_71 : jx_Go jxP d 82 71 [l0, l1, l2, l3, l4, l5, l6] st h Q ↔ jx_Go jxP d 82 72 [l0, l1, l2, l3, l4, l5, l6] (.int (nI 5) :: st) h Q := jg_c rfl
theorem s82_72 : jx_Go jxP d 82 72 [l0, l1, l2, .int x, l4, l5, l6] st h Q ↔ jx_Go jxP d 82 73 [l0, l1, l2, .int x, l4, l5, l6] (.int x :: st) h Q := jg_il rfl rfl
theorem s82_73 : jx_Go jxP d 82 73 [l0, l1, l2, l3, l4, l5, l6] (.int y :: .int x :: st) h Q ↔ jx_Go jxP d 82 74 [l0, l1, l2, l3, l4, l5, l6] (.int (x * y) :: st) h Q := jg_b (f := fun x y => x * y) rfl
theorem s82_74 : jx_Go jxP d 82 74 [l0, l1, l2, l3, l4, l5, .int x] st h Q ↔ jx_Go jxP d 82 76 [l0, l1, l2, l3, l4, l5, .int x] (.int x :: st) h Q := jg_il rfl rfl
theorem s82_76 : jx_Go jxP d 82 76 [l0, l1, l2, l3, l4, l5, l6] (.int y :: .int x :: st) h Q ↔ jx_Go jxP d 82 77 [l0, l1, l2, l3, l4, l5, l6] (.int (x + y) :: st) h Q := jg_b (f := fun x y => x + y) rfl
theorem s82_77 : jx_Go jxP (d + 1) 82 77 [l0, l1, l2, l3, l4, l5, l6] (.int x2 :: .int x1 :: .ref a0 :: st) h Q ↔ (st.length ≤ 4 ∧ jx_Go jxP d 78 0 [.ref a0, .int x1, .int x2, jx_u] [] h (fun s1 h1 => jx_Go jxP (d + 1) 82 80 [l0, l1, l2, l3, l4, l5, l6] (s1 ++ st) h1 Q)) := jg_callS (as := [.int x2, .int x1, .ref a0]) rfl rfl rfl rfl
theorem s82_80 : jx_Go jxP d 82 80 [l0, l1, l2, l3, l4, l5, .int x] st h Q ↔ jx_Go jxP d 82 83 [l0, l1, l2, l3, l4, l5, .int (x + (nI 1))] st h Q := jg_inc rfl rfl rfl
theorem s82_83 : jx_Go jxP d 82 83 [l0, l1, l2, l3, l4, l5, l6] st h Q ↔ jx_Go jxP d 82 54 [l0, l1, l2, l3, l4, l5, l6] st h Q := jg_go rfl
theorem s82_86 : jx_Go jxP d 82 86 [.ref a, l1, l2, l3, l4, l5, l6] st h Q ↔ jx_Go jxP d 82 87 [.ref a, l1, l2, l3, l4, l5, l6] (.ref a :: st) h Q := jg_al rfl rfl
theorem s82_87 : jx_Go jxP d 82 87 [l0, l1, .ref a, l3, l4, l5, l6] st h Q ↔ jx_Go jxP d 82 88 [l0, l1, .ref a, l3, l4, l5, l6] (.ref a :: st) h Q := jg_al rfl rfl
theorem s82_88 : jx_Go jxP d 82 88 [l0, l1, l2, .int x, l4, l5, l6] st h Q ↔ jx_Go jxP d 82 89 [l0, l1, l2, .int x, l4, l5, l6] (.int x :: st) h Q := jg_il rfl rfl
theorem s82_89 : jx_Go jxP d 82 89 [l0, l1, l2, l3, .int x, l5, l6] st h Q ↔ jx_Go jxP d 82 91 [l0, l1, l2, l3, .int x, l5, l6] (.int x :: st) h Q := jg_il rfl rfl
theorem s82_91 : jx_Go jxP d 82 91 [l0, .int x, l2, l3, l4, l5, l6] st h Q ↔ jx_Go jxP d 82 92 [l0, .int x, l2, l3, l4, l5, l6] (.int x :: st) h Q := jg_il rfl rfl
theorem s82_92 : jx_Go jxP (d + 1) 82 92 [l0, l1, l2, l3, l4, l5, l6] (.int x3 :: .int x2 :: .int x1 :: .ref a0 :: .ref a :: st) h Q ↔ (st.length ≤ 4 ∧ jx_cl h a = some 10 ∧ jx_Go jxP d 84 0 [.ref a, .ref a0, .int x1, .int x2, .int x3, jx_u, jx_u, jx_u, jx_u, jx_u, jx_u] [] h (fun s1 h1 => jx_Go jxP (d + 1) 82 95 [l0, l1, l2, l3, l4, l5, l6] (s1 ++ st) h1 Q)) := jg_callV (as := [.int x3, .int x2, .int x1, .ref a0, .ref a]) rfl rfl rfl rfl rfl
theorem s82_95 : jx_Go jxP d 82 95 [l0, l1, l2, .int x, l4, l5, l6] st h Q ↔ jx_Go jxP d 82 98 [l0, l1, l2, .int (x + (nI 1)), l4, l5, l6] st h Q := jg_inc rfl rfl rfl
theorem s82_98 : jx_Go jxP d 82 98 [l0, l1, l2, l3, .int x, l5, l6] st h Q ↔ jx_Go jxP d 82 101 [l0, l1, l2, l3, .int (x + (nI 1)), l5, l6] st h Q := jg_inc rfl rfl rfl
theorem s82_101 : jx_Go jxP d 82 101 [l0, l1, l2, l3, l4, l5, l6] st h Q ↔ jx_Go jxP d 82 15 [l0, l1, l2, l3, l4, l5, l6] st h Q := jg_go rfl
theorem s82_104 : jx_Go jxP d 82 104 [l0, l1, l2, .int x, l4, l5, l6] st h Q ↔ jx_Go jxP d 82 105 [l0, l1, l2, .int x, l4, l5, l6] (.int x :: st) h Q := jg_il rfl rfl
theorem s82_105 : jx_Go jxP d 82 105 [l0, l1, l2, l3, l4, l5, l6] [.int x] h Q ↔ Q [.int x] h := jx_rt rfl rfl
-- 83 TalkBench$Task.findPivot
theorem s83_0 : jx_Go jxP d 83 0 [l0, l1, .int x, l3, l4] st h Q ↔ jx_Go jxP d 83 1 [l0, l1, .int x, l3, l4] (.int x :: st) h Q := jg_il rfl rfl
theorem s83_1 : jx_Go jxP d 83 1 [l0, l1, l2, l3, l4] (.int x :: st) h Q ↔ jx_Go jxP d 83 3 [l0, l1, l2, l3, .int x] st h Q := jg_is rfl rfl
theorem s83_3 : jx_Go jxP d 83 3 [l0, l1, l2, l3, .int x] st h Q ↔ jx_Go jxP d 83 5 [l0, l1, l2, l3, .int x] (.int x :: st) h Q := jg_il rfl rfl
theorem s83_5 : jx_Go jxP d 83 5 [.ref a, l1, l2, l3, l4] st h Q ↔ jx_Go jxP d 83 6 [.ref a, l1, l2, l3, l4] (.ref a :: st) h Q := jg_al rfl rfl
theorem s83_6 : jx_Go jxP d 83 6 [l0, l1, l2, l3, l4] (.ref a :: st) h Q ↔ ∃ v, jx_fl h a 10 0 = some v ∧ jx_Go jxP d 83 9 [l0, l1, l2, l3, l4] (v :: st) h Q := jg_gf rfl
theorem s83_9 : jx_Go jxP d 83 9 [l0, l1, l2, l3, l4] (.int y :: .int x :: st) h Q ↔ if y ≤ x then jx_Go jxP d 83 29 [l0, l1, l2, l3, l4] st h Q else jx_Go jxP d 83 12 [l0, l1, l2, l3, l4] st h Q := jg_icP rfl rfl
theorem s83_12 : jx_Go jxP d 83 12 [l0, .ref a, l2, l3, l4] st h Q ↔ jx_Go jxP d 83 13 [l0, .ref a, l2, l3, l4] (.ref a :: st) h Q := jg_al rfl rfl
theorem s83_13 : jx_Go jxP d 83 13 [l0, l1, l2, l3, l4] st h Q ↔ jx_Go jxP d 83 14 [l0, l1, l2, l3, l4] (.int (nI 5) :: st) h Q := jg_c rfl
theorem s83_14 : jx_Go jxP d 83 14 [l0, l1, l2, l3, .int x] st h Q ↔ jx_Go jxP d 83 16 [l0, l1, l2, l3, .int x] (.int x :: st) h Q := jg_il rfl rfl
theorem s83_16 : jx_Go jxP d 83 16 [l0, l1, l2, l3, l4] (.int y :: .int x :: st) h Q ↔ jx_Go jxP d 83 17 [l0, l1, l2, l3, l4] (.int (x * y) :: st) h Q := jg_b (f := fun x y => x * y) rfl
theorem s83_17 : jx_Go jxP d 83 17 [l0, l1, l2, .int x, l4] st h Q ↔ jx_Go jxP d 83 18 [l0, l1, l2, .int x, l4] (.int x :: st) h Q := jg_il rfl rfl
theorem s83_18 : jx_Go jxP d 83 18 [l0, l1, l2, l3, l4] (.int y :: .int x :: st) h Q ↔ jx_Go jxP d 83 19 [l0, l1, l2, l3, l4] (.int (x + y) :: st) h Q := jg_b (f := fun x y => x + y) rfl
theorem s83_19 : jx_Go jxP d 83 19 [l0, l1, l2, l3, l4] (.int x :: .ref a :: st) h Q ↔ ∃ q, jx_ai h a = some q ∧ jx_in x q.1 ∧ jx_Go jxP d 83 20 [l0, l1, l2, l3, l4] (.int (q.2 x.toNatClampNeg) :: st) h Q := jg_ia rfl
theorem s83_20 : jx_Go jxP d 83 20 [l0, l1, l2, l3, l4] (.int x :: st) h Q ↔ if x = 0 then jx_Go jxP d 83 23 [l0, l1, l2, l3, l4] st h Q else jx_Go jxP d 83 29 [l0, l1, l2, l3, l4] st h Q := jg_ifN rfl rfl
theorem s83_23 : jx_Go jxP d 83 23 [l0, l1, l2, l3, .int x] st h Q ↔ jx_Go jxP d 83 26 [l0, l1, l2, l3, .int (x + (nI 1))] st h Q := jg_inc rfl rfl rfl
theorem s83_26 : jx_Go jxP d 83 26 [l0, l1, l2, l3, l4] st h Q ↔ jx_Go jxP d 83 3 [l0, l1, l2, l3, l4] st h Q := jg_go rfl
theorem s83_29 : jx_Go jxP d 83 29 [l0, l1, l2, l3, .int x] st h Q ↔ jx_Go jxP d 83 31 [l0, l1, l2, l3, .int x] (.int x :: st) h Q := jg_il rfl rfl
theorem s83_31 : jx_Go jxP d 83 31 [l0, l1, l2, l3, l4] [.int x] h Q ↔ Q [.int x] h := jx_rt rfl rfl
-- 84 TalkBench$Task.clearBelow
theorem s84_0 : jx_Go jxP d 84 0 [l0, .ref a, l2, l3, l4, l5, l6, l7, l8, l9, l10] st h Q ↔ jx_Go jxP d 84 1 [l0, .ref a, l2, l3, l4, l5, l6, l7, l8, l9, l10] (.ref a :: st) h Q := jg_al rfl rfl
theorem s84_1 : jx_Go jxP d 84 1 [l0, l1, l2, l3, l4, l5, l6, l7, l8, l9, l10] st h Q ↔ jx_Go jxP d 84 2 [l0, l1, l2, l3, l4, l5, l6, l7, l8, l9, l10] (.int (nI 5) :: st) h Q := jg_c rfl
theorem s84_2 : jx_Go jxP d 84 2 [l0, l1, .int x, l3, l4, l5, l6, l7, l8, l9, l10] st h Q ↔ jx_Go jxP d 84 3 [l0, l1, .int x, l3, l4, l5, l6, l7, l8, l9, l10] (.int x :: st) h Q := jg_il rfl rfl
theorem s84_3 : jx_Go jxP d 84 3 [l0, l1, l2, l3, l4, l5, l6, l7, l8, l9, l10] (.int y :: .int x :: st) h Q ↔ jx_Go jxP d 84 4 [l0, l1, l2, l3, l4, l5, l6, l7, l8, l9, l10] (.int (x * y) :: st) h Q := jg_b (f := fun x y => x * y) rfl
theorem s84_4 : jx_Go jxP d 84 4 [l0, l1, l2, .int x, l4, l5, l6, l7, l8, l9, l10] st h Q ↔ jx_Go jxP d 84 5 [l0, l1, l2, .int x, l4, l5, l6, l7, l8, l9, l10] (.int x :: st) h Q := jg_il rfl rfl
theorem s84_5 : jx_Go jxP d 84 5 [l0, l1, l2, l3, l4, l5, l6, l7, l8, l9, l10] (.int y :: .int x :: st) h Q ↔ jx_Go jxP d 84 6 [l0, l1, l2, l3, l4, l5, l6, l7, l8, l9, l10] (.int (x + y) :: st) h Q := jg_b (f := fun x y => x + y) rfl
theorem s84_6 : jx_Go jxP d 84 6 [l0, l1, l2, l3, l4, l5, l6, l7, l8, l9, l10] (.int x :: .ref a :: st) h Q ↔ ∃ q, jx_ai h a = some q ∧ jx_in x q.1 ∧ jx_Go jxP d 84 7 [l0, l1, l2, l3, l4, l5, l6, l7, l8, l9, l10] (.int (q.2 x.toNatClampNeg) :: st) h Q := jg_ia rfl
theorem s84_7 : jx_Go jxP d 84 7 [l0, l1, l2, l3, l4, l5, l6, l7, l8, l9, l10] (.int x :: st) h Q ↔ jx_Go jxP d 84 9 [l0, l1, l2, l3, l4, .int x, l6, l7, l8, l9, l10] st h Q := jg_is rfl rfl
theorem s84_9 : jx_Go jxP d 84 9 [l0, l1, .int x, l3, l4, l5, l6, l7, l8, l9, l10] st h Q ↔ jx_Go jxP d 84 10 [l0, l1, .int x, l3, l4, l5, l6, l7, l8, l9, l10] (.int x :: st) h Q := jg_il rfl rfl
theorem s84_10 : jx_Go jxP d 84 10 [l0, l1, l2, l3, l4, l5, l6, l7, l8, l9, l10] st h Q ↔ jx_Go jxP d 84 11 [l0, l1, l2, l3, l4, l5, l6, l7, l8, l9, l10] (.int (nI 1) :: st) h Q := jg_c rfl
theorem s84_11 : jx_Go jxP d 84 11 [l0, l1, l2, l3, l4, l5, l6, l7, l8, l9, l10] (.int y :: .int x :: st) h Q ↔ jx_Go jxP d 84 12 [l0, l1, l2, l3, l4, l5, l6, l7, l8, l9, l10] (.int (x + y) :: st) h Q := jg_b (f := fun x y => x + y) rfl
theorem s84_12 : jx_Go jxP d 84 12 [l0, l1, l2, l3, l4, l5, l6, l7, l8, l9, l10] (.int x :: st) h Q ↔ jx_Go jxP d 84 14 [l0, l1, l2, l3, l4, l5, .int x, l7, l8, l9, l10] st h Q := jg_is rfl rfl
theorem s84_14 : jx_Go jxP d 84 14 [l0, l1, l2, l3, l4, l5, .int x, l7, l8, l9, l10] st h Q ↔ jx_Go jxP d 84 16 [l0, l1, l2, l3, l4, l5, .int x, l7, l8, l9, l10] (.int x :: st) h Q := jg_il rfl rfl
theorem s84_16 : jx_Go jxP d 84 16 [.ref a, l1, l2, l3, l4, l5, l6, l7, l8, l9, l10] st h Q ↔ jx_Go jxP d 84 17 [.ref a, l1, l2, l3, l4, l5, l6, l7, l8, l9, l10] (.ref a :: st) h Q := jg_al rfl rfl
theorem s84_17 : jx_Go jxP d 84 17 [l0, l1, l2, l3, l4, l5, l6, l7, l8, l9, l10] (.ref a :: st) h Q ↔ ∃ v, jx_fl h a 10 0 = some v ∧ jx_Go jxP d 84 20 [l0, l1, l2, l3, l4, l5, l6, l7, l8, l9, l10] (v :: st) h Q := jg_gf rfl
theorem s84_20 : jx_Go jxP d 84 20 [l0, l1, l2, l3, l4, l5, l6, l7, l8, l9, l10] (.int y :: .int x :: st) h Q ↔ if y ≤ x then jx_Go jxP d 84 105 [l0, l1, l2, l3, l4, l5, l6, l7, l8, l9, l10] st h Q else jx_Go jxP d 84 23 [l0, l1, l2, l3, l4, l5, l6, l7, l8, l9, l10] st h Q := jg_icP rfl rfl
theorem s84_23 : jx_Go jxP d 84 23 [l0, .ref a, l2, l3, l4, l5, l6, l7, l8, l9, l10] st h Q ↔ jx_Go jxP d 84 24 [l0, .ref a, l2, l3, l4, l5, l6, l7, l8, l9, l10] (.ref a :: st) h Q := jg_al rfl rfl
theorem s84_24 : jx_Go jxP d 84 24 [l0, l1, l2, l3, l4, l5, l6, l7, l8, l9, l10] st h Q ↔ jx_Go jxP d 84 25 [l0, l1, l2, l3, l4, l5, l6, l7, l8, l9, l10] (.int (nI 5) :: st) h Q := jg_c rfl
theorem s84_25 : jx_Go jxP d 84 25 [l0, l1, l2, l3, l4, l5, .int x, l7, l8, l9, l10] st h Q ↔ jx_Go jxP d 84 27 [l0, l1, l2, l3, l4, l5, .int x, l7, l8, l9, l10] (.int x :: st) h Q := jg_il rfl rfl
theorem s84_27 : jx_Go jxP d 84 27 [l0, l1, l2, l3, l4, l5, l6, l7, l8, l9, l10] (.int y :: .int x :: st) h Q ↔ jx_Go jxP d 84 28 [l0, l1, l2, l3, l4, l5, l6, l7, l8, l9, l10] (.int (x * y) :: st) h Q := jg_b (f := fun x y => x * y) rfl
theorem s84_28 : jx_Go jxP d 84 28 [l0, l1, l2, .int x, l4, l5, l6, l7, l8, l9, l10] st h Q ↔ jx_Go jxP d 84 29 [l0, l1, l2, .int x, l4, l5, l6, l7, l8, l9, l10] (.int x :: st) h Q := jg_il rfl rfl
theorem s84_29 : jx_Go jxP d 84 29 [l0, l1, l2, l3, l4, l5, l6, l7, l8, l9, l10] (.int y :: .int x :: st) h Q ↔ jx_Go jxP d 84 30 [l0, l1, l2, l3, l4, l5, l6, l7, l8, l9, l10] (.int (x + y) :: st) h Q := jg_b (f := fun x y => x + y) rfl
theorem s84_30 : jx_Go jxP d 84 30 [l0, l1, l2, l3, l4, l5, l6, l7, l8, l9, l10] (.int x :: .ref a :: st) h Q ↔ ∃ q, jx_ai h a = some q ∧ jx_in x q.1 ∧ jx_Go jxP d 84 31 [l0, l1, l2, l3, l4, l5, l6, l7, l8, l9, l10] (.int (q.2 x.toNatClampNeg) :: st) h Q := jg_ia rfl
theorem s84_31 : jx_Go jxP d 84 31 [l0, l1, l2, l3, l4, l5, l6, l7, l8, l9, l10] (.int x :: st) h Q ↔ jx_Go jxP d 84 33 [l0, l1, l2, l3, l4, l5, l6, .int x, l8, l9, l10] st h Q := jg_is rfl rfl
theorem s84_33 : jx_Go jxP d 84 33 [l0, l1, l2, l3, l4, l5, l6, l7, l8, l9, l10] st h Q ↔ jx_Go jxP d 84 34 [l0, l1, l2, l3, l4, l5, l6, l7, l8, l9, l10] (.int (nI 0) :: st) h Q := jg_c rfl
theorem s84_34 : jx_Go jxP d 84 34 [l0, l1, l2, l3, l4, l5, l6, l7, l8, l9, l10] (.int x :: st) h Q ↔ jx_Go jxP d 84 36 [l0, l1, l2, l3, l4, l5, l6, l7, .int x, l9, l10] st h Q := jg_is rfl rfl
theorem s84_36 : jx_Go jxP d 84 36 [l0, l1, l2, l3, l4, l5, l6, l7, .int x, l9, l10] st h Q ↔ jx_Go jxP d 84 38 [l0, l1, l2, l3, l4, l5, l6, l7, .int x, l9, l10] (.int x :: st) h Q := jg_il rfl rfl
theorem s84_38 : jx_Go jxP d 84 38 [.ref a, l1, l2, l3, l4, l5, l6, l7, l8, l9, l10] st h Q ↔ jx_Go jxP d 84 39 [.ref a, l1, l2, l3, l4, l5, l6, l7, l8, l9, l10] (.ref a :: st) h Q := jg_al rfl rfl
theorem s84_39 : jx_Go jxP d 84 39 [l0, l1, l2, l3, l4, l5, l6, l7, l8, l9, l10] (.ref a :: st) h Q ↔ ∃ v, jx_fl h a 10 1 = some v ∧ jx_Go jxP d 84 42 [l0, l1, l2, l3, l4, l5, l6, l7, l8, l9, l10] (v :: st) h Q := jg_gf rfl
theorem s84_42 : jx_Go jxP d 84 42 [l0, l1, l2, l3, l4, l5, l6, l7, l8, l9, l10] (.int y :: .int x :: st) h Q ↔ if y ≤ x then jx_Go jxP d 84 99 [l0, l1, l2, l3, l4, l5, l6, l7, l8, l9, l10] st h Q else jx_Go jxP d 84 45 [l0, l1, l2, l3, l4, l5, l6, l7, l8, l9, l10] st h Q := jg_icP rfl rfl
theorem s84_45 : jx_Go jxP d 84 45 [l0, l1, l2, l3, l4, l5, l6, l7, l8, l9, l10] st h Q ↔ jx_Go jxP d 84 46 [l0, l1, l2, l3, l4, l5, l6, l7, l8, l9, l10] (.int (nI 5) :: st) h Q := jg_c rfl
theorem s84_46 : jx_Go jxP d 84 46 [l0, l1, l2, l3, l4, l5, .int x, l7, l8, l9, l10] st h Q ↔ jx_Go jxP d 84 48 [l0, l1, l2, l3, l4, l5, .int x, l7, l8, l9, l10] (.int x :: st) h Q := jg_il rfl rfl
theorem s84_48 : jx_Go jxP d 84 48 [l0, l1, l2, l3, l4, l5, l6, l7, l8, l9, l10] (.int y :: .int x :: st) h Q ↔ jx_Go jxP d 84 49 [l0, l1, l2, l3, l4, l5, l6, l7, l8, l9, l10] (.int (x * y) :: st) h Q := jg_b (f := fun x y => x * y) rfl
theorem s84_49 : jx_Go jxP d 84 49 [l0, l1, l2, l3, l4, l5, l6, l7, .int x, l9, l10] st h Q ↔ jx_Go jxP d 84 51 [l0, l1, l2, l3, l4, l5, l6, l7, .int x, l9, l10] (.int x :: st) h Q := jg_il rfl rfl
theorem s84_51 : jx_Go jxP d 84 51 [l0, l1, l2, l3, l4, l5, l6, l7, l8, l9, l10] (.int y :: .int x :: st) h Q ↔ jx_Go jxP d 84 52 [l0, l1, l2, l3, l4, l5, l6, l7, l8, l9, l10] (.int (x + y) :: st) h Q := jg_b (f := fun x y => x + y) rfl
theorem s84_52 : jx_Go jxP d 84 52 [l0, l1, l2, l3, l4, l5, l6, l7, l8, l9, l10] (.int x :: st) h Q ↔ jx_Go jxP d 84 54 [l0, l1, l2, l3, l4, l5, l6, l7, l8, .int x, l10] st h Q := jg_is rfl rfl
theorem s84_54 : jx_Go jxP d 84 54 [l0, .ref a, l2, l3, l4, l5, l6, l7, l8, l9, l10] st h Q ↔ jx_Go jxP d 84 55 [l0, .ref a, l2, l3, l4, l5, l6, l7, l8, l9, l10] (.ref a :: st) h Q := jg_al rfl rfl
theorem s84_55 : jx_Go jxP d 84 55 [l0, l1, l2, l3, l4, l5, l6, l7, l8, .int x, l10] st h Q ↔ jx_Go jxP d 84 57 [l0, l1, l2, l3, l4, l5, l6, l7, l8, .int x, l10] (.int x :: st) h Q := jg_il rfl rfl
theorem s84_57 : jx_Go jxP d 84 57 [l0, l1, l2, l3, l4, l5, l6, l7, l8, l9, l10] (.int x :: .ref a :: st) h Q ↔ ∃ q, jx_ai h a = some q ∧ jx_in x q.1 ∧ jx_Go jxP d 84 58 [l0, l1, l2, l3, l4, l5, l6, l7, l8, l9, l10] (.int (q.2 x.toNatClampNeg) :: st) h Q := jg_ia rfl
theorem s84_58 : jx_Go jxP d 84 58 [l0, l1, l2, l3, l4, .int x, l6, l7, l8, l9, l10] st h Q ↔ jx_Go jxP d 84 60 [l0, l1, l2, l3, l4, .int x, l6, l7, l8, l9, l10] (.int x :: st) h Q := jg_il rfl rfl
theorem s84_60 : jx_Go jxP d 84 60 [l0, l1, l2, l3, l4, l5, l6, l7, l8, l9, l10] (.int y :: .int x :: st) h Q ↔ jx_Go jxP d 84 61 [l0, l1, l2, l3, l4, l5, l6, l7, l8, l9, l10] (.int (x * y) :: st) h Q := jg_b (f := fun x y => x * y) rfl
theorem s84_61 : jx_Go jxP d 84 61 [l0, .ref a, l2, l3, l4, l5, l6, l7, l8, l9, l10] st h Q ↔ jx_Go jxP d 84 62 [l0, .ref a, l2, l3, l4, l5, l6, l7, l8, l9, l10] (.ref a :: st) h Q := jg_al rfl rfl
theorem s84_62 : jx_Go jxP d 84 62 [l0, l1, l2, l3, l4, l5, l6, l7, l8, l9, l10] st h Q ↔ jx_Go jxP d 84 63 [l0, l1, l2, l3, l4, l5, l6, l7, l8, l9, l10] (.int (nI 5) :: st) h Q := jg_c rfl
theorem s84_63 : jx_Go jxP d 84 63 [l0, l1, .int x, l3, l4, l5, l6, l7, l8, l9, l10] st h Q ↔ jx_Go jxP d 84 64 [l0, l1, .int x, l3, l4, l5, l6, l7, l8, l9, l10] (.int x :: st) h Q := jg_il rfl rfl
theorem s84_64 : jx_Go jxP d 84 64 [l0, l1, l2, l3, l4, l5, l6, l7, l8, l9, l10] (.int y :: .int x :: st) h Q ↔ jx_Go jxP d 84 65 [l0, l1, l2, l3, l4, l5, l6, l7, l8, l9, l10] (.int (x * y) :: st) h Q := jg_b (f := fun x y => x * y) rfl
theorem s84_65 : jx_Go jxP d 84 65 [l0, l1, l2, l3, l4, l5, l6, l7, .int x, l9, l10] st h Q ↔ jx_Go jxP d 84 67 [l0, l1, l2, l3, l4, l5, l6, l7, .int x, l9, l10] (.int x :: st) h Q := jg_il rfl rfl
theorem s84_67 : jx_Go jxP d 84 67 [l0, l1, l2, l3, l4, l5, l6, l7, l8, l9, l10] (.int y :: .int x :: st) h Q ↔ jx_Go jxP d 84 68 [l0, l1, l2, l3, l4, l5, l6, l7, l8, l9, l10] (.int (x + y) :: st) h Q := jg_b (f := fun x y => x + y) rfl
theorem s84_68 : jx_Go jxP d 84 68 [l0, l1, l2, l3, l4, l5, l6, l7, l8, l9, l10] (.int x :: .ref a :: st) h Q ↔ ∃ q, jx_ai h a = some q ∧ jx_in x q.1 ∧ jx_Go jxP d 84 69 [l0, l1, l2, l3, l4, l5, l6, l7, l8, l9, l10] (.int (q.2 x.toNatClampNeg) :: st) h Q := jg_ia rfl
theorem s84_69 : jx_Go jxP d 84 69 [l0, l1, l2, l3, l4, l5, l6, .int x, l8, l9, l10] st h Q ↔ jx_Go jxP d 84 71 [l0, l1, l2, l3, l4, l5, l6, .int x, l8, l9, l10] (.int x :: st) h Q := jg_il rfl rfl
theorem s84_71 : jx_Go jxP d 84 71 [l0, l1, l2, l3, l4, l5, l6, l7, l8, l9, l10] (.int y :: .int x :: st) h Q ↔ jx_Go jxP d 84 72 [l0, l1, l2, l3, l4, l5, l6, l7, l8, l9, l10] (.int (x * y) :: st) h Q := jg_b (f := fun x y => x * y) rfl
theorem s84_72 : jx_Go jxP d 84 72 [l0, l1, l2, l3, l4, l5, l6, l7, l8, l9, l10] (.int y :: .int x :: st) h Q ↔ jx_Go jxP d 84 73 [l0, l1, l2, l3, l4, l5, l6, l7, l8, l9, l10] (.int (x - y) :: st) h Q := jg_b (f := fun x y => x - y) rfl
theorem s84_73 : jx_Go jxP d 84 73 [l0, l1, l2, l3, l4, l5, l6, l7, l8, l9, l10] (.int x :: st) h Q ↔ jx_Go jxP d 84 75 [l0, l1, l2, l3, l4, l5, l6, l7, l8, l9, .int x] st h Q := jg_is rfl rfl
theorem s84_75 : jx_Go jxP d 84 75 [l0, .ref a, l2, l3, l4, l5, l6, l7, l8, l9, l10] st h Q ↔ jx_Go jxP d 84 76 [l0, .ref a, l2, l3, l4, l5, l6, l7, l8, l9, l10] (.ref a :: st) h Q := jg_al rfl rfl
theorem s84_76 : jx_Go jxP d 84 76 [l0, l1, l2, l3, l4, l5, l6, l7, l8, .int x, l10] st h Q ↔ jx_Go jxP d 84 78 [l0, l1, l2, l3, l4, l5, l6, l7, l8, .int x, l10] (.int x :: st) h Q := jg_il rfl rfl
theorem s84_78 : jx_Go jxP d 84 78 [l0, l1, l2, l3, .int x, l5, l6, l7, l8, l9, l10] st h Q ↔ jx_Go jxP d 84 80 [l0, l1, l2, l3, .int x, l5, l6, l7, l8, l9, l10] (.int x :: st) h Q := jg_il rfl rfl
theorem s84_80 : jx_Go jxP d 84 80 [l0, l1, l2, l3, l4, l5, l6, l7, l8, l9, l10] (.int x :: st) h Q ↔ if x = 0 then jx_Go jxP d 84 88 [l0, l1, l2, l3, l4, l5, l6, l7, l8, l9, l10] st h Q else jx_Go jxP d 84 83 [l0, l1, l2, l3, l4, l5, l6, l7, l8, l9, l10] st h Q := jg_ifP rfl rfl
theorem s84_83 : jx_Go jxP d 84 83 [l0, l1, l2, l3, l4, l5, l6, l7, l8, l9, .int x] st h Q ↔ jx_Go jxP d 84 85 [l0, l1, l2, l3, l4, l5, l6, l7, l8, l9, .int x] (.int x :: st) h Q := jg_il rfl rfl
theorem s84_85 : jx_Go jxP d 84 85 [l0, l1, l2, l3, l4, l5, l6, l7, l8, l9, l10] st h Q ↔ jx_Go jxP d 84 92 [l0, l1, l2, l3, l4, l5, l6, l7, l8, l9, l10] st h Q := jg_go rfl
theorem s84_88 : jx_Go jxP d 84 88 [l0, l1, l2, l3, l4, l5, l6, l7, l8, l9, .int x] st h Q ↔ jx_Go jxP d 84 90 [l0, l1, l2, l3, l4, l5, l6, l7, l8, l9, .int x] (.int x :: st) h Q := jg_il rfl rfl
theorem s84_90 : jx_Go jxP d 84 90 [l0, l1, l2, l3, l4, l5, l6, l7, l8, l9, l10] st h Q ↔ jx_Go jxP d 84 91 [l0, l1, l2, l3, l4, l5, l6, l7, l8, l9, l10] (.int (nI 1) :: st) h Q := jg_c rfl
theorem s84_91 : jx_Go jxP d 84 91 [l0, l1, l2, l3, l4, l5, l6, l7, l8, l9, l10] (.int y :: .int x :: st) h Q ↔ jx_Go jxP d 84 92 [l0, l1, l2, l3, l4, l5, l6, l7, l8, l9, l10] (.int (x &&& y) :: st) h Q := jg_b (f := fun x y => x &&& y) rfl
theorem s84_92 : jx_Go jxP d 84 92 [l0, l1, l2, l3, l4, l5, l6, l7, l8, l9, l10] (.int y :: .int x :: .ref a :: st) h Q ↔ ∃ q, jx_ai h a = some q ∧ jx_in x q.1 ∧ jx_Go jxP d 84 93 [l0, l1, l2, l3, l4, l5, l6, l7, l8, l9, l10] st (jx_wi h a q.1 (upd q.2 x.toNatClampNeg y)) Q := jg_iw rfl
theorem s84_93 : jx_Go jxP d 84 93 [l0, l1, l2, l3, l4, l5, l6, l7, .int x, l9, l10] st h Q ↔ jx_Go jxP d 84 96 [l0, l1, l2, l3, l4, l5, l6, l7, .int (x + (nI 1)), l9, l10] st h Q := jg_inc rfl rfl rfl
theorem s84_96 : jx_Go jxP d 84 96 [l0, l1, l2, l3, l4, l5, l6, l7, l8, l9, l10] st h Q ↔ jx_Go jxP d 84 36 [l0, l1, l2, l3, l4, l5, l6, l7, l8, l9, l10] st h Q := jg_go rfl
theorem s84_99 : jx_Go jxP d 84 99 [l0, l1, l2, l3, l4, l5, .int x, l7, l8, l9, l10] st h Q ↔ jx_Go jxP d 84 102 [l0, l1, l2, l3, l4, l5, .int (x + (nI 1)), l7, l8, l9, l10] st h Q := jg_inc rfl rfl rfl
theorem s84_102 : jx_Go jxP d 84 102 [l0, l1, l2, l3, l4, l5, l6, l7, l8, l9, l10] st h Q ↔ jx_Go jxP d 84 14 [l0, l1, l2, l3, l4, l5, l6, l7, l8, l9, l10] st h Q := jg_go rfl
theorem s84_105 : jx_Go jxP d 84 105 [l0, l1, l2, l3, l4, l5, l6, l7, l8, l9, l10] [] h Q ↔ Q [] h := jx_rt rfl rfl
-- 197 java/lang/Integer.bitCount
theorem s197_0 : jx_Go jxP d 197 0 [.int x] st h Q ↔ jx_Go jxP d 197 1 [.int x] (.int x :: st) h Q := jg_il rfl rfl
theorem s197_1 : jx_Go jxP d 197 1 [.int x] st h Q ↔ jx_Go jxP d 197 2 [.int x] (.int x :: st) h Q := jg_il rfl rfl
theorem s197_2 : jx_Go jxP d 197 2 [l0] st h Q ↔ jx_Go jxP d 197 3 [l0] (.int (nI 1) :: st) h Q := jg_c rfl
theorem s197_3 : jx_Go jxP d 197 3 [l0] (.int y :: .int x :: st) h Q ↔ jx_Go jxP d 197 4 [l0] (.int ((x.toUInt32 >>> (y.toUInt32 &&& Int32.toUInt32 31)).toInt32) :: st) h Q := jg_b (f := fun x y => (x.toUInt32 >>> (y.toUInt32 &&& Int32.toUInt32 31)).toInt32) rfl
theorem s197_4 : jx_Go jxP d 197 4 [l0] st h Q ↔ jx_Go jxP d 197 7 [l0] (.int (nI 1431655765) :: st) h Q := jg_c rfl
theorem s197_7 : jx_Go jxP d 197 7 [l0] (.int y :: .int x :: st) h Q ↔ jx_Go jxP d 197 8 [l0] (.int (x &&& y) :: st) h Q := jg_b (f := fun x y => x &&& y) rfl
theorem s197_8 : jx_Go jxP d 197 8 [l0] (.int y :: .int x :: st) h Q ↔ jx_Go jxP d 197 9 [l0] (.int (x - y) :: st) h Q := jg_b (f := fun x y => x - y) rfl
theorem s197_9 : jx_Go jxP d 197 9 [l0] (.int x :: st) h Q ↔ jx_Go jxP d 197 10 [.int x] st h Q := jg_is rfl rfl
theorem s197_10 : jx_Go jxP d 197 10 [.int x] st h Q ↔ jx_Go jxP d 197 11 [.int x] (.int x :: st) h Q := jg_il rfl rfl
theorem s197_11 : jx_Go jxP d 197 11 [l0] st h Q ↔ jx_Go jxP d 197 14 [l0] (.int (nI 858993459) :: st) h Q := jg_c rfl
theorem s197_14 : jx_Go jxP d 197 14 [l0] (.int y :: .int x :: st) h Q ↔ jx_Go jxP d 197 15 [l0] (.int (x &&& y) :: st) h Q := jg_b (f := fun x y => x &&& y) rfl
theorem s197_15 : jx_Go jxP d 197 15 [.int x] st h Q ↔ jx_Go jxP d 197 16 [.int x] (.int x :: st) h Q := jg_il rfl rfl
theorem s197_16 : jx_Go jxP d 197 16 [l0] st h Q ↔ jx_Go jxP d 197 17 [l0] (.int (nI 2) :: st) h Q := jg_c rfl
theorem s197_17 : jx_Go jxP d 197 17 [l0] (.int y :: .int x :: st) h Q ↔ jx_Go jxP d 197 18 [l0] (.int ((x.toUInt32 >>> (y.toUInt32 &&& Int32.toUInt32 31)).toInt32) :: st) h Q := jg_b (f := fun x y => (x.toUInt32 >>> (y.toUInt32 &&& Int32.toUInt32 31)).toInt32) rfl
theorem s197_18 : jx_Go jxP d 197 18 [l0] st h Q ↔ jx_Go jxP d 197 21 [l0] (.int (nI 858993459) :: st) h Q := jg_c rfl
theorem s197_21 : jx_Go jxP d 197 21 [l0] (.int y :: .int x :: st) h Q ↔ jx_Go jxP d 197 22 [l0] (.int (x &&& y) :: st) h Q := jg_b (f := fun x y => x &&& y) rfl
theorem s197_22 : jx_Go jxP d 197 22 [l0] (.int y :: .int x :: st) h Q ↔ jx_Go jxP d 197 23 [l0] (.int (x + y) :: st) h Q := jg_b (f := fun x y => x + y) rfl
theorem s197_23 : jx_Go jxP d 197 23 [l0] (.int x :: st) h Q ↔ jx_Go jxP d 197 24 [.int x] st h Q := jg_is rfl rfl
theorem s197_24 : jx_Go jxP d 197 24 [.int x] st h Q ↔ jx_Go jxP d 197 25 [.int x] (.int x :: st) h Q := jg_il rfl rfl
theorem s197_25 : jx_Go jxP d 197 25 [.int x] st h Q ↔ jx_Go jxP d 197 26 [.int x] (.int x :: st) h Q := jg_il rfl rfl
theorem s197_26 : jx_Go jxP d 197 26 [l0] st h Q ↔ jx_Go jxP d 197 27 [l0] (.int (nI 4) :: st) h Q := jg_c rfl
theorem s197_27 : jx_Go jxP d 197 27 [l0] (.int y :: .int x :: st) h Q ↔ jx_Go jxP d 197 28 [l0] (.int ((x.toUInt32 >>> (y.toUInt32 &&& Int32.toUInt32 31)).toInt32) :: st) h Q := jg_b (f := fun x y => (x.toUInt32 >>> (y.toUInt32 &&& Int32.toUInt32 31)).toInt32) rfl
theorem s197_28 : jx_Go jxP d 197 28 [l0] (.int y :: .int x :: st) h Q ↔ jx_Go jxP d 197 29 [l0] (.int (x + y) :: st) h Q := jg_b (f := fun x y => x + y) rfl
theorem s197_29 : jx_Go jxP d 197 29 [l0] st h Q ↔ jx_Go jxP d 197 32 [l0] (.int (nI 252645135) :: st) h Q := jg_c rfl
theorem s197_32 : jx_Go jxP d 197 32 [l0] (.int y :: .int x :: st) h Q ↔ jx_Go jxP d 197 33 [l0] (.int (x &&& y) :: st) h Q := jg_b (f := fun x y => x &&& y) rfl
theorem s197_33 : jx_Go jxP d 197 33 [l0] (.int x :: st) h Q ↔ jx_Go jxP d 197 34 [.int x] st h Q := jg_is rfl rfl
theorem s197_34 : jx_Go jxP d 197 34 [.int x] st h Q ↔ jx_Go jxP d 197 35 [.int x] (.int x :: st) h Q := jg_il rfl rfl
theorem s197_35 : jx_Go jxP d 197 35 [.int x] st h Q ↔ jx_Go jxP d 197 36 [.int x] (.int x :: st) h Q := jg_il rfl rfl
theorem s197_36 : jx_Go jxP d 197 36 [l0] st h Q ↔ jx_Go jxP d 197 38 [l0] (.int (nI 8) :: st) h Q := jg_c rfl
theorem s197_38 : jx_Go jxP d 197 38 [l0] (.int y :: .int x :: st) h Q ↔ jx_Go jxP d 197 39 [l0] (.int ((x.toUInt32 >>> (y.toUInt32 &&& Int32.toUInt32 31)).toInt32) :: st) h Q := jg_b (f := fun x y => (x.toUInt32 >>> (y.toUInt32 &&& Int32.toUInt32 31)).toInt32) rfl
theorem s197_39 : jx_Go jxP d 197 39 [l0] (.int y :: .int x :: st) h Q ↔ jx_Go jxP d 197 40 [l0] (.int (x + y) :: st) h Q := jg_b (f := fun x y => x + y) rfl
theorem s197_40 : jx_Go jxP d 197 40 [l0] (.int x :: st) h Q ↔ jx_Go jxP d 197 41 [.int x] st h Q := jg_is rfl rfl
theorem s197_41 : jx_Go jxP d 197 41 [.int x] st h Q ↔ jx_Go jxP d 197 42 [.int x] (.int x :: st) h Q := jg_il rfl rfl
theorem s197_42 : jx_Go jxP d 197 42 [.int x] st h Q ↔ jx_Go jxP d 197 43 [.int x] (.int x :: st) h Q := jg_il rfl rfl
theorem s197_43 : jx_Go jxP d 197 43 [l0] st h Q ↔ jx_Go jxP d 197 45 [l0] (.int (nI 16) :: st) h Q := jg_c rfl
theorem s197_45 : jx_Go jxP d 197 45 [l0] (.int y :: .int x :: st) h Q ↔ jx_Go jxP d 197 46 [l0] (.int ((x.toUInt32 >>> (y.toUInt32 &&& Int32.toUInt32 31)).toInt32) :: st) h Q := jg_b (f := fun x y => (x.toUInt32 >>> (y.toUInt32 &&& Int32.toUInt32 31)).toInt32) rfl
theorem s197_46 : jx_Go jxP d 197 46 [l0] (.int y :: .int x :: st) h Q ↔ jx_Go jxP d 197 47 [l0] (.int (x + y) :: st) h Q := jg_b (f := fun x y => x + y) rfl
theorem s197_47 : jx_Go jxP d 197 47 [l0] (.int x :: st) h Q ↔ jx_Go jxP d 197 48 [.int x] st h Q := jg_is rfl rfl
theorem s197_48 : jx_Go jxP d 197 48 [.int x] st h Q ↔ jx_Go jxP d 197 49 [.int x] (.int x :: st) h Q := jg_il rfl rfl
theorem s197_49 : jx_Go jxP d 197 49 [l0] st h Q ↔ jx_Go jxP d 197 51 [l0] (.int (nI 63) :: st) h Q := jg_c rfl
theorem s197_51 : jx_Go jxP d 197 51 [l0] (.int y :: .int x :: st) h Q ↔ jx_Go jxP d 197 52 [l0] (.int (x &&& y) :: st) h Q := jg_b (f := fun x y => x &&& y) rfl
theorem s197_52 : jx_Go jxP d 197 52 [l0] [.int x] h Q ↔ Q [.int x] h := jx_rt rfl rfl
-- 198 java/util/Arrays.fill
theorem s198_0 : jx_Go jxP d 198 0 [l0, l1, l2, l3] st h Q ↔ jx_Go jxP d 198 1 [l0, l1, l2, l3] (.int (nI 0) :: st) h Q := jg_c rfl
theorem s198_1 : jx_Go jxP d 198 1 [l0, l1, l2, l3] (.int x :: st) h Q ↔ jx_Go jxP d 198 2 [l0, l1, .int x, l3] st h Q := jg_is rfl rfl
theorem s198_2 : jx_Go jxP d 198 2 [.ref a, l1, l2, l3] st h Q ↔ jx_Go jxP d 198 3 [.ref a, l1, l2, l3] (.ref a :: st) h Q := jg_al rfl rfl
theorem s198_3 : jx_Go jxP d 198 3 [l0, l1, l2, l3] (.ref a :: st) h Q ↔ ∃ q, jx_ai h a = some q ∧ jx_Go jxP d 198 4 [l0, l1, l2, l3] (.int (nI q.1) :: st) h Q := jg_len rfl
theorem s198_4 : jx_Go jxP d 198 4 [l0, l1, l2, l3] (.int x :: st) h Q ↔ jx_Go jxP d 198 5 [l0, l1, l2, .int x] st h Q := jg_is rfl rfl
theorem s198_5 : jx_Go jxP d 198 5 [l0, l1, .int x, l3] st h Q ↔ jx_Go jxP d 198 6 [l0, l1, .int x, l3] (.int x :: st) h Q := jg_il rfl rfl
theorem s198_6 : jx_Go jxP d 198 6 [l0, l1, l2, .int x] st h Q ↔ jx_Go jxP d 198 7 [l0, l1, l2, .int x] (.int x :: st) h Q := jg_il rfl rfl
theorem s198_7 : jx_Go jxP d 198 7 [l0, l1, l2, l3] (.int y :: .int x :: st) h Q ↔ if y ≤ x then jx_Go jxP d 198 20 [l0, l1, l2, l3] st h Q else jx_Go jxP d 198 10 [l0, l1, l2, l3] st h Q := jg_icP rfl rfl
theorem s198_10 : jx_Go jxP d 198 10 [.ref a, l1, l2, l3] st h Q ↔ jx_Go jxP d 198 11 [.ref a, l1, l2, l3] (.ref a :: st) h Q := jg_al rfl rfl
theorem s198_11 : jx_Go jxP d 198 11 [l0, l1, .int x, l3] st h Q ↔ jx_Go jxP d 198 12 [l0, l1, .int x, l3] (.int x :: st) h Q := jg_il rfl rfl
theorem s198_12 : jx_Go jxP d 198 12 [l0, .int x, l2, l3] st h Q ↔ jx_Go jxP d 198 13 [l0, .int x, l2, l3] (.int x :: st) h Q := jg_il rfl rfl
theorem s198_13 : jx_Go jxP d 198 13 [l0, l1, l2, l3] (.int y :: .int x :: .ref a :: st) h Q ↔ ∃ q, jx_ai h a = some q ∧ jx_in x q.1 ∧ jx_Go jxP d 198 14 [l0, l1, l2, l3] st (jx_wi h a q.1 (upd q.2 x.toNatClampNeg y)) Q := jg_iw rfl
theorem s198_14 : jx_Go jxP d 198 14 [l0, l1, .int x, l3] st h Q ↔ jx_Go jxP d 198 17 [l0, l1, .int (x + (nI 1)), l3] st h Q := jg_inc rfl rfl rfl
theorem s198_17 : jx_Go jxP d 198 17 [l0, l1, l2, l3] st h Q ↔ jx_Go jxP d 198 5 [l0, l1, l2, l3] st h Q := jg_go rfl
theorem s198_20 : jx_Go jxP d 198 20 [l0, l1, l2, l3] [] h Q ↔ Q [] h := jx_rt rfl rfl
-- 199 java/util/Arrays.copyOf
theorem s199_0 : jx_Go jxP d 199 0 [l0, .int x, l2] st h Q ↔ jx_Go jxP d 199 1 [l0, .int x, l2] (.int x :: st) h Q := jg_il rfl rfl
theorem s199_1 : jx_Go jxP d 199 1 [.ref a, l1, l2] st h Q ↔ jx_Go jxP d 199 2 [.ref a, l1, l2] (.ref a :: st) h Q := jg_al rfl rfl
theorem s199_2 : jx_Go jxP d 199 2 [l0, l1, l2] (.ref a :: st) h Q ↔ ∃ q, jx_ai h a = some q ∧ jx_Go jxP d 199 3 [l0, l1, l2] (.int (nI q.1) :: st) h Q := jg_len rfl
theorem s199_3 : jx_Go jxP d 199 3 [l0, l1, l2] (.int y :: .int x :: st) h Q ↔ if x = y then jx_Go jxP d 199 6 [l0, l1, l2] st h Q else jx_Go jxP d 199 14 [l0, l1, l2] st h Q := jg_icN rfl rfl
theorem s199_6 : jx_Go jxP d 199 6 [.ref a, l1, l2] st h Q ↔ jx_Go jxP d 199 7 [.ref a, l1, l2] (.ref a :: st) h Q := jg_al rfl rfl
theorem s199_7 : jx_Go jxP d 199 7 [l0, l1, l2] (.ref a :: st) h Q ↔ ∃ q, jx_ai h a = some q ∧ st.length ≤ 4 ∧ jx_Go jxP d 199 10 [l0, l1, l2] (.ref h.1 :: st) (jx_mk h q.1 (.inl (0, q.1, .inl q.2))) Q := jg_cn rfl
theorem s199_10 : jx_Go jxP d 199 10 [l0, l1, l2] (.ref a :: st) h Q ↔ ∃ q, jx_ai h a = some q ∧ jx_Go jxP d 199 13 [l0, l1, l2] (.ref a :: st) h Q := jg_ct rfl
theorem s199_13 : jx_Go jxP d 199 13 [l0, l1, l2] [.ref a] h Q ↔ Q [.ref a] h := jx_rt rfl rfl
theorem s199_14 : jx_Go jxP d 199 14 [l0, .int x, l2] st h Q ↔ jx_Go jxP d 199 15 [l0, .int x, l2] (.int x :: st) h Q := jg_il rfl rfl
theorem s199_17 : jx_Go jxP d 199 17 [l0, l1, l2] (.ref a :: st) h Q ↔ jx_Go jxP d 199 18 [l0, l1, .ref a] st h Q := jg_as rfl rfl
theorem s199_18 : jx_Go jxP d 199 18 [.ref a, l1, l2] st h Q ↔ jx_Go jxP d 199 19 [.ref a, l1, l2] (.ref a :: st) h Q := jg_al rfl rfl
theorem s199_19 : jx_Go jxP d 199 19 [l0, l1, l2] st h Q ↔ jx_Go jxP d 199 20 [l0, l1, l2] (.int (nI 0) :: st) h Q := jg_c rfl
theorem s199_20 : jx_Go jxP d 199 20 [l0, l1, .ref a] st h Q ↔ jx_Go jxP d 199 21 [l0, l1, .ref a] (.ref a :: st) h Q := jg_al rfl rfl
theorem s199_21 : jx_Go jxP d 199 21 [l0, l1, l2] st h Q ↔ jx_Go jxP d 199 22 [l0, l1, l2] (.int (nI 0) :: st) h Q := jg_c rfl
theorem s199_22 : jx_Go jxP d 199 22 [.ref a, l1, l2] st h Q ↔ jx_Go jxP d 199 23 [.ref a, l1, l2] (.ref a :: st) h Q := jg_al rfl rfl
theorem s199_23 : jx_Go jxP d 199 23 [l0, l1, l2] (.ref a :: st) h Q ↔ ∃ q, jx_ai h a = some q ∧ jx_Go jxP d 199 24 [l0, l1, l2] (.int (nI q.1) :: st) h Q := jg_len rfl
theorem s199_24 : jx_Go jxP d 199 24 [l0, .int x, l2] st h Q ↔ jx_Go jxP d 199 25 [l0, .int x, l2] (.int x :: st) h Q := jg_il rfl rfl
theorem s199_25 : jx_Go jxP d 199 25 [l0, l1, l2] (.int y :: .int x :: st) h Q ↔ (st.length ≤ 4 ∧ jx_Go jxP d 199 28 [l0, l1, l2] (.int (if y < x then y else x) :: st) h Q) := jg_m2 (f := fun x y => if y < x then y else x) rfl
theorem s199_28 : jx_Go jxP d 199 28 [l0, l1, l2] (.int z :: .int y :: .ref b :: .int x :: .ref a :: st) h Q ↔ ∃ q, jx_ai h a = some q ∧ ∃ q', jx_ai h b = some q' ∧ (st.length ≤ 4 ∧ ¬ x < 0 ∧ ¬ y < 0 ∧ ¬ z < 0 ∧ x.toNatClampNeg + z.toNatClampNeg ≤ q.1 ∧ y.toNatClampNeg + z.toNatClampNeg ≤ q'.1) ∧ jx_Go jxP d 199 31 [l0, l1, l2] st (jx_wi h b q'.1 (va_cpy q.2 q'.2 x.toNatClampNeg y.toNatClampNeg z.toNatClampNeg)) Q := jg_cp rfl
theorem s199_31 : jx_Go jxP d 199 31 [l0, l1, .ref a] st h Q ↔ jx_Go jxP d 199 32 [l0, l1, .ref a] (.ref a :: st) h Q := jg_al rfl rfl
theorem s199_32 : jx_Go jxP d 199 32 [l0, l1, l2] [.ref a] h Q ↔ Q [.ref a] h := jx_rt rfl rfl
end JST
