/-! ===== a step lemma for each instruction ===== -/
section JST
variable {d a b a0 a1 a2 a3 a4 : Nat} {l0 l1 l2 l3 l4 l5 l6 l7 l8 l9 l10 l11 l12 l13 l14 l15 l16 l17 l18 l19 l20 l21 l22 l23 l24 l25 l26 : Value} {x y z x0 x1 x2 x3 x4 : Int32} {u w : Int64} {st : List Value} {h : jxH} {Q : List Value → jxH → Prop}
-- 86 TalkBench.table
theorem s86_0 : jx_Go jxP d 86 0 [l0, .int x, l2, l3] st h Q ↔ jx_Go jxP d 86 1 [l0, .int x, l2, l3] (.int x :: st) h Q := jg_il rfl rfl
theorem s86_1 : jx_Go jxP d 86 1 [l0, l1, l2, l3] st h Q ↔ jx_Go jxP d 86 2 [l0, l1, l2, l3] (.int (nI 1) :: st) h Q := jg_c rfl
theorem s86_2 : jx_Go jxP d 86 2 [l0, l1, l2, l3] (.int y :: .int x :: st) h Q ↔ if x < y then jx_Go jxP d 86 20 [l0, l1, l2, l3] st h Q else jx_Go jxP d 86 5 [l0, l1, l2, l3] st h Q := jg_icP rfl rfl
theorem s86_5 : jx_Go jxP d 86 5 [l0, .int x, l2, l3] st h Q ↔ jx_Go jxP d 86 6 [l0, .int x, l2, l3] (.int x :: st) h Q := jg_il rfl rfl
theorem s86_6 : jx_Go jxP d 86 6 [l0, l1, l2, l3] st h Q ↔ jx_Go jxP d 86 7 [l0, l1, l2, l3] (.int (nI 5) :: st) h Q := jg_c rfl
theorem s86_7 : jx_Go jxP d 86 7 [l0, l1, l2, l3] (.int y :: .int x :: st) h Q ↔ if y < x then jx_Go jxP d 86 20 [l0, l1, l2, l3] st h Q else jx_Go jxP d 86 10 [l0, l1, l2, l3] st h Q := jg_icP rfl rfl
theorem s86_10 : jx_Go jxP d 86 10 [l0, l1, .int x, l3] st h Q ↔ jx_Go jxP d 86 11 [l0, l1, .int x, l3] (.int x :: st) h Q := jg_il rfl rfl
theorem s86_11 : jx_Go jxP d 86 11 [l0, l1, l2, l3] st h Q ↔ jx_Go jxP d 86 12 [l0, l1, l2, l3] (.int (nI 1) :: st) h Q := jg_c rfl
theorem s86_12 : jx_Go jxP d 86 12 [l0, l1, l2, l3] (.int y :: .int x :: st) h Q ↔ if x < y then jx_Go jxP d 86 20 [l0, l1, l2, l3] st h Q else jx_Go jxP d 86 15 [l0, l1, l2, l3] st h Q := jg_icP rfl rfl
theorem s86_15 : jx_Go jxP d 86 15 [l0, l1, .int x, l3] st h Q ↔ jx_Go jxP d 86 16 [l0, l1, .int x, l3] (.int x :: st) h Q := jg_il rfl rfl
theorem s86_16 : jx_Go jxP d 86 16 [l0, l1, l2, l3] st h Q ↔ jx_Go jxP d 86 17 [l0, l1, l2, l3] (.int (nI 5) :: st) h Q := jg_c rfl
theorem s86_17 : jx_Go jxP d 86 17 [l0, l1, l2, l3] (.int y :: .int x :: st) h Q ↔ if x ≤ y then jx_Go jxP d 86 26 [l0, l1, l2, l3] st h Q else jx_Go jxP d 86 20 [l0, l1, l2, l3] st h Q := jg_icP rfl rfl
theorem s86_20 : jx_Go jxP d 86 20 [.ref a, l1, l2, l3] st h Q ↔ jx_Go jxP d 86 21 [.ref a, l1, l2, l3] (.ref a :: st) h Q := jg_al rfl rfl
theorem s86_21 : jx_Go jxP d 86 21 [l0, l1, l2, l3] st h Q ↔ jx_Go jxP d 86 22 [l0, l1, l2, l3] (.int (-1) :: st) h Q := jg_c rfl
theorem s86_22 : jx_Go jxP (d + 1) 86 22 [l0, l1, l2, l3] (.int x0 :: .ref a :: st) h Q ↔ (st.length ≤ 4 ∧ jx_cl h a = some 11 ∧ jx_Go jxP d 120 0 [.ref a, .int x0] [] h (fun s1 h1 => jx_Go jxP (d + 1) 86 25 [l0, l1, l2, l3] (s1 ++ st) h1 Q)) := jg_callV (as := [.int x0, .ref a]) rfl rfl rfl rfl rfl
theorem s86_25 : jx_Go jxP d 86 25 [l0, l1, l2, l3] [.int x] h Q ↔ Q [.int x] h := jx_rt rfl rfl
theorem s86_26 : jx_Go jxP d 86 26 [.ref a, l1, l2, l3] st h Q ↔ jx_Go jxP d 86 27 [.ref a, l1, l2, l3] (.ref a :: st) h Q := jg_al rfl rfl
theorem s86_27 : jx_Go jxP d 86 27 [l0, l1, l2, l3] (.ref a :: st) h Q ↔ ∃ v, jx_fl h a 11 0 = some v ∧ jx_Go jxP d 86 30 [l0, l1, l2, l3] (v :: st) h Q := jg_gf rfl
theorem s86_30 : jx_Go jxP (d + 1) 86 30 [l0, l1, l2, l3] (.ref a :: st) h Q ↔ (st.length ≤ 4 ∧ jx_cl h a = some 10 ∧ jx_Go jxP d 68 0 [.ref a] [] h (fun s1 h1 => jx_Go jxP (d + 1) 86 33 [l0, l1, l2, l3] (s1 ++ st) h1 Q)) := jg_callV (as := [.ref a]) rfl rfl rfl rfl rfl
theorem s86_33 : jx_Go jxP d 86 33 [l0, l1, l2, l3] (.int x :: st) h Q ↔ jx_Go jxP d 86 34 [l0, l1, l2, .int x] st h Q := jg_is rfl rfl
theorem s86_34 : jx_Go jxP d 86 34 [.ref a, l1, l2, l3] st h Q ↔ jx_Go jxP d 86 35 [.ref a, l1, l2, l3] (.ref a :: st) h Q := jg_al rfl rfl
theorem s86_35 : jx_Go jxP d 86 35 [l0, l1, l2, l3] (.ref a :: st) h Q ↔ ∃ v, jx_fl h a 11 3 = some v ∧ jx_Go jxP d 86 38 [l0, l1, l2, l3] (v :: st) h Q := jg_gf rfl
theorem s86_38 : jx_Go jxP d 86 38 [.ref a, l1, l2, l3] st h Q ↔ jx_Go jxP d 86 39 [.ref a, l1, l2, l3] (.ref a :: st) h Q := jg_al rfl rfl
theorem s86_39 : jx_Go jxP d 86 39 [l0, l1, l2, l3] (.ref a :: st) h Q ↔ ∃ v, jx_fl h a 11 0 = some v ∧ jx_Go jxP d 86 42 [l0, l1, l2, l3] (v :: st) h Q := jg_gf rfl
theorem s86_42 : jx_Go jxP (d + 1) 86 42 [l0, l1, l2, l3] (.ref a0 :: .ref a :: st) h Q ↔ (st.length ≤ 4 ∧ jx_cl h a = some 1 ∧ jx_Go jxP d 12 0 [.ref a, .ref a0] [] h (fun s1 h1 => jx_Go jxP (d + 1) 86 45 [l0, l1, l2, l3] (s1 ++ st) h1 Q)) := jg_callV (as := [.ref a0, .ref a]) rfl rfl rfl rfl rfl
theorem s86_45 : jx_Go jxP d 86 45 [.ref a, l1, l2, l3] st h Q ↔ jx_Go jxP d 86 46 [.ref a, l1, l2, l3] (.ref a :: st) h Q := jg_al rfl rfl
theorem s86_46 : jx_Go jxP d 86 46 [l0, l1, l2, l3] (.ref a :: st) h Q ↔ ∃ v, jx_fl h a 11 0 = some v ∧ jx_Go jxP d 86 49 [l0, l1, l2, l3] (v :: st) h Q := jg_gf rfl
theorem s86_49 : jx_Go jxP d 86 49 [l0, .int x, l2, l3] st h Q ↔ jx_Go jxP d 86 50 [l0, .int x, l2, l3] (.int x :: st) h Q := jg_il rfl rfl
theorem s86_50 : jx_Go jxP d 86 50 [l0, l1, .int x, l3] st h Q ↔ jx_Go jxP d 86 51 [l0, l1, .int x, l3] (.int x :: st) h Q := jg_il rfl rfl
theorem s86_51 : jx_Go jxP (d + 1) 86 51 [l0, l1, l2, l3] (.int x1 :: .int x0 :: .ref a :: st) h Q ↔ (st.length ≤ 4 ∧ jx_cl h a = some 10 ∧ jx_Go jxP d 70 0 [.ref a, .int x0, .int x1] [] h (fun s1 h1 => jx_Go jxP (d + 1) 86 54 [l0, l1, l2, l3] (s1 ++ st) h1 Q)) := jg_callV (as := [.int x1, .int x0, .ref a]) rfl rfl rfl rfl rfl
theorem s86_54 : jx_Go jxP d 86 54 [.ref a, l1, l2, l3] st h Q ↔ jx_Go jxP d 86 55 [.ref a, l1, l2, l3] (.ref a :: st) h Q := jg_al rfl rfl
theorem s86_55 : jx_Go jxP (d + 1) 86 55 [l0, l1, l2, l3] (.ref a :: st) h Q ↔ (st.length ≤ 4 ∧ jx_cl h a = some 11 ∧ jx_Go jxP d 121 0 [.ref a] [] h (fun s1 h1 => jx_Go jxP (d + 1) 86 58 [l0, l1, l2, l3] (s1 ++ st) h1 Q)) := jg_callV (as := [.ref a]) rfl rfl rfl rfl rfl
theorem s86_58 : jx_Go jxP d 86 58 [l0, l1, l2, .int x] st h Q ↔ jx_Go jxP d 86 59 [l0, l1, l2, .int x] (.int x :: st) h Q := jg_il rfl rfl
theorem s86_59 : jx_Go jxP d 86 59 [l0, l1, l2, l3] [.int x] h Q ↔ Q [.int x] h := jx_rt rfl rfl
-- 87 TalkBench.put
theorem s87_0 : jx_Go jxP d 87 0 [.ref a, l1, l2, l3, l4, l5] st h Q ↔ jx_Go jxP d 87 1 [.ref a, l1, l2, l3, l4, l5] (.ref a :: st) h Q := jg_al rfl rfl
theorem s87_1 : jx_Go jxP d 87 1 [l0, l1, l2, l3, l4, l5] (.ref a :: st) h Q ↔ ∃ v, jx_fl h a 11 0 = some v ∧ jx_Go jxP d 87 4 [l0, l1, l2, l3, l4, l5] (v :: st) h Q := jg_gf rfl
theorem s87_4 : jx_Go jxP d 87 4 [l0, .int x, l2, l3, l4, l5] st h Q ↔ jx_Go jxP d 87 5 [l0, .int x, l2, l3, l4, l5] (.int x :: st) h Q := jg_il rfl rfl
theorem s87_5 : jx_Go jxP d 87 5 [l0, l1, .int x, l3, l4, l5] st h Q ↔ jx_Go jxP d 87 6 [l0, l1, .int x, l3, l4, l5] (.int x :: st) h Q := jg_il rfl rfl
theorem s87_6 : jx_Go jxP (d + 1) 87 6 [l0, l1, l2, l3, l4, l5] (.int x1 :: .int x0 :: .ref a :: st) h Q ↔ (st.length ≤ 4 ∧ jx_cl h a = some 10 ∧ jx_Go jxP d 69 0 [.ref a, .int x0, .int x1] [] h (fun s1 h1 => jx_Go jxP (d + 1) 87 9 [l0, l1, l2, l3, l4, l5] (s1 ++ st) h1 Q)) := jg_callV (as := [.int x1, .int x0, .ref a]) rfl rfl rfl rfl rfl
theorem s87_9 : jx_Go jxP d 87 9 [l0, l1, l2, l3, l4, l5] (.int x :: st) h Q ↔ if x = 0 then jx_Go jxP d 87 21 [l0, l1, l2, l3, l4, l5] st h Q else jx_Go jxP d 87 12 [l0, l1, l2, l3, l4, l5] st h Q := jg_ifP rfl rfl
theorem s87_12 : jx_Go jxP d 87 12 [l0, l1, l2, .int x, l4, l5] st h Q ↔ jx_Go jxP d 87 13 [l0, l1, l2, .int x, l4, l5] (.int x :: st) h Q := jg_il rfl rfl
theorem s87_13 : jx_Go jxP d 87 13 [l0, l1, l2, l3, l4, l5] (.int x :: st) h Q ↔ if x < 0 then jx_Go jxP d 87 21 [l0, l1, l2, l3, l4, l5] st h Q else jx_Go jxP d 87 16 [l0, l1, l2, l3, l4, l5] st h Q := jg_ifP rfl rfl
theorem s87_16 : jx_Go jxP d 87 16 [l0, l1, l2, .int x, l4, l5] st h Q ↔ jx_Go jxP d 87 17 [l0, l1, l2, .int x, l4, l5] (.int x :: st) h Q := jg_il rfl rfl
theorem s87_17 : jx_Go jxP d 87 17 [l0, l1, l2, l3, l4, l5] st h Q ↔ jx_Go jxP d 87 18 [l0, l1, l2, l3, l4, l5] (.int (nI 2) :: st) h Q := jg_c rfl
theorem s87_18 : jx_Go jxP d 87 18 [l0, l1, l2, l3, l4, l5] (.int y :: .int x :: st) h Q ↔ if x ≤ y then jx_Go jxP d 87 27 [l0, l1, l2, l3, l4, l5] st h Q else jx_Go jxP d 87 21 [l0, l1, l2, l3, l4, l5] st h Q := jg_icP rfl rfl
theorem s87_21 : jx_Go jxP d 87 21 [.ref a, l1, l2, l3, l4, l5] st h Q ↔ jx_Go jxP d 87 22 [.ref a, l1, l2, l3, l4, l5] (.ref a :: st) h Q := jg_al rfl rfl
theorem s87_22 : jx_Go jxP d 87 22 [l0, l1, l2, l3, l4, l5] st h Q ↔ jx_Go jxP d 87 23 [l0, l1, l2, l3, l4, l5] (.int (-1) :: st) h Q := jg_c rfl
theorem s87_23 : jx_Go jxP (d + 1) 87 23 [l0, l1, l2, l3, l4, l5] (.int x0 :: .ref a :: st) h Q ↔ (st.length ≤ 4 ∧ jx_cl h a = some 11 ∧ jx_Go jxP d 120 0 [.ref a, .int x0] [] h (fun s1 h1 => jx_Go jxP (d + 1) 87 26 [l0, l1, l2, l3, l4, l5] (s1 ++ st) h1 Q)) := jg_callV (as := [.int x0, .ref a]) rfl rfl rfl rfl rfl
theorem s87_26 : jx_Go jxP d 87 26 [l0, l1, l2, l3, l4, l5] [.int x] h Q ↔ Q [.int x] h := jx_rt rfl rfl
theorem s87_27 : jx_Go jxP d 87 27 [.ref a, l1, l2, l3, l4, l5] st h Q ↔ jx_Go jxP d 87 28 [.ref a, l1, l2, l3, l4, l5] (.ref a :: st) h Q := jg_al rfl rfl
theorem s87_28 : jx_Go jxP d 87 28 [l0, l1, l2, l3, l4, l5] (.ref a :: st) h Q ↔ ∃ v, jx_fl h a 11 3 = some v ∧ jx_Go jxP d 87 31 [l0, l1, l2, l3, l4, l5] (v :: st) h Q := jg_gf rfl
theorem s87_31 : jx_Go jxP d 87 31 [.ref a, l1, l2, l3, l4, l5] st h Q ↔ jx_Go jxP d 87 32 [.ref a, l1, l2, l3, l4, l5] (.ref a :: st) h Q := jg_al rfl rfl
theorem s87_32 : jx_Go jxP d 87 32 [l0, l1, l2, l3, l4, l5] (.ref a :: st) h Q ↔ ∃ v, jx_fl h a 11 0 = some v ∧ jx_Go jxP d 87 35 [l0, l1, l2, l3, l4, l5] (v :: st) h Q := jg_gf rfl
theorem s87_35 : jx_Go jxP (d + 1) 87 35 [l0, l1, l2, l3, l4, l5] (.ref a0 :: .ref a :: st) h Q ↔ (st.length ≤ 4 ∧ jx_cl h a = some 1 ∧ jx_Go jxP d 12 0 [.ref a, .ref a0] [] h (fun s1 h1 => jx_Go jxP (d + 1) 87 38 [l0, l1, l2, l3, l4, l5] (s1 ++ st) h1 Q)) := jg_callV (as := [.ref a0, .ref a]) rfl rfl rfl rfl rfl
theorem s87_38 : jx_Go jxP d 87 38 [l0, l1, l2, l3, l4, l5] st h Q ↔ jx_Go jxP d 87 39 [l0, l1, l2, l3, l4, l5] (.int (nI 5) :: st) h Q := jg_c rfl
theorem s87_39 : jx_Go jxP d 87 39 [l0, .int x, l2, l3, l4, l5] st h Q ↔ jx_Go jxP d 87 40 [l0, .int x, l2, l3, l4, l5] (.int x :: st) h Q := jg_il rfl rfl
theorem s87_40 : jx_Go jxP d 87 40 [l0, l1, l2, l3, l4, l5] (.int y :: .int x :: st) h Q ↔ jx_Go jxP d 87 41 [l0, l1, l2, l3, l4, l5] (.int (x * y) :: st) h Q := jg_b (f := fun x y => x * y) rfl
theorem s87_41 : jx_Go jxP d 87 41 [l0, l1, .int x, l3, l4, l5] st h Q ↔ jx_Go jxP d 87 42 [l0, l1, .int x, l3, l4, l5] (.int x :: st) h Q := jg_il rfl rfl
theorem s87_42 : jx_Go jxP d 87 42 [l0, l1, l2, l3, l4, l5] (.int y :: .int x :: st) h Q ↔ jx_Go jxP d 87 43 [l0, l1, l2, l3, l4, l5] (.int (x + y) :: st) h Q := jg_b (f := fun x y => x + y) rfl
theorem s87_43 : jx_Go jxP d 87 43 [l0, l1, l2, l3, l4, l5] (.int x :: st) h Q ↔ jx_Go jxP d 87 45 [l0, l1, l2, l3, .int x, l5] st h Q := jg_is rfl rfl
theorem s87_45 : jx_Go jxP d 87 45 [.ref a, l1, l2, l3, l4, l5] st h Q ↔ jx_Go jxP d 87 46 [.ref a, l1, l2, l3, l4, l5] (.ref a :: st) h Q := jg_al rfl rfl
theorem s87_46 : jx_Go jxP d 87 46 [l0, l1, l2, l3, l4, l5] (.ref a :: st) h Q ↔ ∃ v, jx_fl h a 11 0 = some v ∧ jx_Go jxP d 87 49 [l0, l1, l2, l3, l4, l5] (v :: st) h Q := jg_gf rfl
theorem s87_49 : jx_Go jxP d 87 49 [l0, l1, l2, l3, l4, l5] (.ref a :: st) h Q ↔ ∃ v, jx_fl h a 10 2 = some v ∧ jx_Go jxP d 87 52 [l0, l1, l2, l3, l4, l5] (v :: st) h Q := jg_gf rfl
theorem s87_52 : jx_Go jxP d 87 52 [l0, l1, l2, l3, .int x, l5] st h Q ↔ jx_Go jxP d 87 54 [l0, l1, l2, l3, .int x, l5] (.int x :: st) h Q := jg_il rfl rfl
theorem s87_54 : jx_Go jxP d 87 54 [l0, l1, l2, l3, l4, l5] (.int x :: .ref a :: st) h Q ↔ ∃ q, jx_ai h a = some q ∧ jx_in x q.1 ∧ jx_Go jxP d 87 55 [l0, l1, l2, l3, l4, l5] (.int (q.2 x.toNatClampNeg) :: st) h Q := jg_ia rfl
theorem s87_55 : jx_Go jxP d 87 55 [l0, l1, l2, l3, l4, l5] (.int x :: st) h Q ↔ jx_Go jxP d 87 57 [l0, l1, l2, l3, l4, .int x] st h Q := jg_is rfl rfl
theorem s87_57 : jx_Go jxP d 87 57 [.ref a, l1, l2, l3, l4, l5] st h Q ↔ jx_Go jxP d 87 58 [.ref a, l1, l2, l3, l4, l5] (.ref a :: st) h Q := jg_al rfl rfl
theorem s87_58 : jx_Go jxP d 87 58 [l0, l1, l2, l3, l4, l5] (.ref a :: st) h Q ↔ ∃ v, jx_fl h a 11 0 = some v ∧ jx_Go jxP d 87 61 [l0, l1, l2, l3, l4, l5] (v :: st) h Q := jg_gf rfl
theorem s87_61 : jx_Go jxP d 87 61 [l0, l1, l2, l3, l4, l5] (.ref a :: st) h Q ↔ ∃ v, jx_fl h a 10 2 = some v ∧ jx_Go jxP d 87 64 [l0, l1, l2, l3, l4, l5] (v :: st) h Q := jg_gf rfl
theorem s87_64 : jx_Go jxP d 87 64 [l0, l1, l2, l3, .int x, l5] st h Q ↔ jx_Go jxP d 87 66 [l0, l1, l2, l3, .int x, l5] (.int x :: st) h Q := jg_il rfl rfl
theorem s87_66 : jx_Go jxP d 87 66 [l0, l1, l2, .int x, l4, l5] st h Q ↔ jx_Go jxP d 87 67 [l0, l1, l2, .int x, l4, l5] (.int x :: st) h Q := jg_il rfl rfl
theorem s87_67 : jx_Go jxP d 87 67 [l0, l1, l2, l3, l4, l5] (.int y :: .int x :: .ref a :: st) h Q ↔ ∃ q, jx_ai h a = some q ∧ jx_in x q.1 ∧ jx_Go jxP d 87 68 [l0, l1, l2, l3, l4, l5] st (jx_wi h a q.1 (upd q.2 x.toNatClampNeg y)) Q := jg_iw rfl
theorem s87_68 : jx_Go jxP d 87 68 [.ref a, l1, l2, l3, l4, l5] st h Q ↔ jx_Go jxP d 87 69 [.ref a, l1, l2, l3, l4, l5] (.ref a :: st) h Q := jg_al rfl rfl
theorem s87_69 : jx_Go jxP (d + 1) 87 69 [l0, l1, l2, l3, l4, l5] (.ref a :: st) h Q ↔ (st.length ≤ 4 ∧ jx_cl h a = some 11 ∧ jx_Go jxP d 121 0 [.ref a] [] h (fun s1 h1 => jx_Go jxP (d + 1) 87 72 [l0, l1, l2, l3, l4, l5] (s1 ++ st) h1 Q)) := jg_callV (as := [.ref a]) rfl rfl rfl rfl rfl
theorem s87_72 : jx_Go jxP d 87 72 [l0, l1, l2, l3, l4, .int x] st h Q ↔ jx_Go jxP d 87 74 [l0, l1, l2, l3, l4, .int x] (.int x :: st) h Q := jg_il rfl rfl
theorem s87_74 : jx_Go jxP d 87 74 [l0, l1, l2, l3, l4, l5] [.int x] h Q ↔ Q [.int x] h := jx_rt rfl rfl
-- 88 TalkBench.place
theorem s88_0 : jx_Go jxP d 88 0 [.ref a, l1, l2] st h Q ↔ jx_Go jxP d 88 1 [.ref a, l1, l2] (.ref a :: st) h Q := jg_al rfl rfl
theorem s88_1 : jx_Go jxP d 88 1 [l0, l1, l2] (.ref a :: st) h Q ↔ ∃ v, jx_fl h a 11 0 = some v ∧ jx_Go jxP d 88 4 [l0, l1, l2] (v :: st) h Q := jg_gf rfl
theorem s88_4 : jx_Go jxP d 88 4 [l0, .int x, l2] st h Q ↔ jx_Go jxP d 88 5 [l0, .int x, l2] (.int x :: st) h Q := jg_il rfl rfl
theorem s88_5 : jx_Go jxP d 88 5 [l0, l1, .int x] st h Q ↔ jx_Go jxP d 88 6 [l0, l1, .int x] (.int x :: st) h Q := jg_il rfl rfl
theorem s88_6 : jx_Go jxP (d + 1) 88 6 [l0, l1, l2] (.int x1 :: .int x0 :: .ref a :: st) h Q ↔ (st.length ≤ 4 ∧ jx_cl h a = some 10 ∧ jx_Go jxP d 69 0 [.ref a, .int x0, .int x1] [] h (fun s1 h1 => jx_Go jxP (d + 1) 88 9 [l0, l1, l2] (s1 ++ st) h1 Q)) := jg_callV (as := [.int x1, .int x0, .ref a]) rfl rfl rfl rfl rfl
theorem s88_9 : jx_Go jxP d 88 9 [l0, l1, l2] (.int x :: st) h Q ↔ if x = 0 then jx_Go jxP d 88 12 [l0, l1, l2] st h Q else jx_Go jxP d 88 18 [l0, l1, l2] st h Q := jg_ifN rfl rfl
theorem s88_12 : jx_Go jxP d 88 12 [.ref a, l1, l2] st h Q ↔ jx_Go jxP d 88 13 [.ref a, l1, l2] (.ref a :: st) h Q := jg_al rfl rfl
theorem s88_13 : jx_Go jxP d 88 13 [l0, l1, l2] st h Q ↔ jx_Go jxP d 88 14 [l0, l1, l2] (.int (-1) :: st) h Q := jg_c rfl
theorem s88_14 : jx_Go jxP (d + 1) 88 14 [l0, l1, l2] (.int x0 :: .ref a :: st) h Q ↔ (st.length ≤ 4 ∧ jx_cl h a = some 11 ∧ jx_Go jxP d 120 0 [.ref a, .int x0] [] h (fun s1 h1 => jx_Go jxP (d + 1) 88 17 [l0, l1, l2] (s1 ++ st) h1 Q)) := jg_callV (as := [.int x0, .ref a]) rfl rfl rfl rfl rfl
theorem s88_17 : jx_Go jxP d 88 17 [l0, l1, l2] [.int x] h Q ↔ Q [.int x] h := jx_rt rfl rfl
theorem s88_18 : jx_Go jxP d 88 18 [.ref a, l1, l2] st h Q ↔ jx_Go jxP d 88 19 [.ref a, l1, l2] (.ref a :: st) h Q := jg_al rfl rfl
theorem s88_19 : jx_Go jxP d 88 19 [l0, l1, l2] (.ref a :: st) h Q ↔ ∃ v, jx_fl h a 11 0 = some v ∧ jx_Go jxP d 88 22 [l0, l1, l2] (v :: st) h Q := jg_gf rfl
theorem s88_22 : jx_Go jxP d 88 22 [l0, l1, l2] (.ref a :: st) h Q ↔ ∃ v, jx_fl h a 10 2 = some v ∧ jx_Go jxP d 88 25 [l0, l1, l2] (v :: st) h Q := jg_gf rfl
theorem s88_25 : jx_Go jxP d 88 25 [l0, l1, l2] st h Q ↔ jx_Go jxP d 88 26 [l0, l1, l2] (.int (nI 5) :: st) h Q := jg_c rfl
theorem s88_26 : jx_Go jxP d 88 26 [l0, .int x, l2] st h Q ↔ jx_Go jxP d 88 27 [l0, .int x, l2] (.int x :: st) h Q := jg_il rfl rfl
theorem s88_27 : jx_Go jxP d 88 27 [l0, l1, l2] (.int y :: .int x :: st) h Q ↔ jx_Go jxP d 88 28 [l0, l1, l2] (.int (x * y) :: st) h Q := jg_b (f := fun x y => x * y) rfl
theorem s88_28 : jx_Go jxP d 88 28 [l0, l1, .int x] st h Q ↔ jx_Go jxP d 88 29 [l0, l1, .int x] (.int x :: st) h Q := jg_il rfl rfl
theorem s88_29 : jx_Go jxP d 88 29 [l0, l1, l2] (.int y :: .int x :: st) h Q ↔ jx_Go jxP d 88 30 [l0, l1, l2] (.int (x + y) :: st) h Q := jg_b (f := fun x y => x + y) rfl
theorem s88_30 : jx_Go jxP d 88 30 [l0, l1, l2] (.int x :: .ref a :: st) h Q ↔ ∃ q, jx_ai h a = some q ∧ jx_in x q.1 ∧ jx_Go jxP d 88 31 [l0, l1, l2] (.int (q.2 x.toNatClampNeg) :: st) h Q := jg_ia rfl
theorem s88_31 : jx_Go jxP d 88 31 [l0, l1, l2] [.int x] h Q ↔ Q [.int x] h := jx_rt rfl rfl
-- 89 TalkBench.weigh
theorem s89_0 : jx_Go jxP d 89 0 [.ref a, l1, l2, l3, l4, l5] st h Q ↔ jx_Go jxP d 89 1 [.ref a, l1, l2, l3, l4, l5] (.ref a :: st) h Q := jg_al rfl rfl
theorem s89_1 : jx_Go jxP d 89 1 [l0, l1, l2, l3, l4, l5] (.ref a :: st) h Q ↔ ∃ v, jx_fl h a 11 0 = some v ∧ jx_Go jxP d 89 4 [l0, l1, l2, l3, l4, l5] (v :: st) h Q := jg_gf rfl
theorem s89_4 : jx_Go jxP d 89 4 [l0, .int x, l2, l3, l4, l5] st h Q ↔ jx_Go jxP d 89 5 [l0, .int x, l2, l3, l4, l5] (.int x :: st) h Q := jg_il rfl rfl
theorem s89_5 : jx_Go jxP d 89 5 [l0, l1, .int x, l3, l4, l5] st h Q ↔ jx_Go jxP d 89 6 [l0, l1, .int x, l3, l4, l5] (.int x :: st) h Q := jg_il rfl rfl
theorem s89_6 : jx_Go jxP (d + 1) 89 6 [l0, l1, l2, l3, l4, l5] (.int x1 :: .int x0 :: .ref a :: st) h Q ↔ (st.length ≤ 4 ∧ jx_cl h a = some 10 ∧ jx_Go jxP d 69 0 [.ref a, .int x0, .int x1] [] h (fun s1 h1 => jx_Go jxP (d + 1) 89 9 [l0, l1, l2, l3, l4, l5] (s1 ++ st) h1 Q)) := jg_callV (as := [.int x1, .int x0, .ref a]) rfl rfl rfl rfl rfl
theorem s89_9 : jx_Go jxP d 89 9 [l0, l1, l2, l3, l4, l5] (.int x :: st) h Q ↔ if x = 0 then jx_Go jxP d 89 22 [l0, l1, l2, l3, l4, l5] st h Q else jx_Go jxP d 89 12 [l0, l1, l2, l3, l4, l5] st h Q := jg_ifP rfl rfl
theorem s89_12 : jx_Go jxP d 89 12 [l0, l1, l2, .int x, l4, l5] st h Q ↔ jx_Go jxP d 89 13 [l0, l1, l2, .int x, l4, l5] (.int x :: st) h Q := jg_il rfl rfl
theorem s89_13 : jx_Go jxP d 89 13 [l0, l1, l2, l3, l4, l5] (.int x :: st) h Q ↔ if x < 0 then jx_Go jxP d 89 22 [l0, l1, l2, l3, l4, l5] st h Q else jx_Go jxP d 89 16 [l0, l1, l2, l3, l4, l5] st h Q := jg_ifP rfl rfl
theorem s89_16 : jx_Go jxP d 89 16 [l0, l1, l2, .int x, l4, l5] st h Q ↔ jx_Go jxP d 89 17 [l0, l1, l2, .int x, l4, l5] (.int x :: st) h Q := jg_il rfl rfl
theorem s89_17 : jx_Go jxP d 89 17 [l0, l1, l2, l3, l4, l5] st h Q ↔ jx_Go jxP d 89 19 [l0, l1, l2, l3, l4, l5] (.int (nI 9) :: st) h Q := jg_c rfl
theorem s89_19 : jx_Go jxP d 89 19 [l0, l1, l2, l3, l4, l5] (.int y :: .int x :: st) h Q ↔ if x ≤ y then jx_Go jxP d 89 28 [l0, l1, l2, l3, l4, l5] st h Q else jx_Go jxP d 89 22 [l0, l1, l2, l3, l4, l5] st h Q := jg_icP rfl rfl
theorem s89_22 : jx_Go jxP d 89 22 [.ref a, l1, l2, l3, l4, l5] st h Q ↔ jx_Go jxP d 89 23 [.ref a, l1, l2, l3, l4, l5] (.ref a :: st) h Q := jg_al rfl rfl
theorem s89_23 : jx_Go jxP d 89 23 [l0, l1, l2, l3, l4, l5] st h Q ↔ jx_Go jxP d 89 24 [l0, l1, l2, l3, l4, l5] (.int (-1) :: st) h Q := jg_c rfl
theorem s89_24 : jx_Go jxP (d + 1) 89 24 [l0, l1, l2, l3, l4, l5] (.int x0 :: .ref a :: st) h Q ↔ (st.length ≤ 4 ∧ jx_cl h a = some 11 ∧ jx_Go jxP d 120 0 [.ref a, .int x0] [] h (fun s1 h1 => jx_Go jxP (d + 1) 89 27 [l0, l1, l2, l3, l4, l5] (s1 ++ st) h1 Q)) := jg_callV (as := [.int x0, .ref a]) rfl rfl rfl rfl rfl
theorem s89_27 : jx_Go jxP d 89 27 [l0, l1, l2, l3, l4, l5] [.int x] h Q ↔ Q [.int x] h := jx_rt rfl rfl
theorem s89_28 : jx_Go jxP d 89 28 [.ref a, l1, l2, l3, l4, l5] st h Q ↔ jx_Go jxP d 89 29 [.ref a, l1, l2, l3, l4, l5] (.ref a :: st) h Q := jg_al rfl rfl
theorem s89_29 : jx_Go jxP d 89 29 [l0, l1, l2, l3, l4, l5] (.ref a :: st) h Q ↔ ∃ v, jx_fl h a 11 3 = some v ∧ jx_Go jxP d 89 32 [l0, l1, l2, l3, l4, l5] (v :: st) h Q := jg_gf rfl
theorem s89_32 : jx_Go jxP d 89 32 [.ref a, l1, l2, l3, l4, l5] st h Q ↔ jx_Go jxP d 89 33 [.ref a, l1, l2, l3, l4, l5] (.ref a :: st) h Q := jg_al rfl rfl
theorem s89_33 : jx_Go jxP d 89 33 [l0, l1, l2, l3, l4, l5] (.ref a :: st) h Q ↔ ∃ v, jx_fl h a 11 0 = some v ∧ jx_Go jxP d 89 36 [l0, l1, l2, l3, l4, l5] (v :: st) h Q := jg_gf rfl
theorem s89_36 : jx_Go jxP (d + 1) 89 36 [l0, l1, l2, l3, l4, l5] (.ref a0 :: .ref a :: st) h Q ↔ (st.length ≤ 4 ∧ jx_cl h a = some 1 ∧ jx_Go jxP d 12 0 [.ref a, .ref a0] [] h (fun s1 h1 => jx_Go jxP (d + 1) 89 39 [l0, l1, l2, l3, l4, l5] (s1 ++ st) h1 Q)) := jg_callV (as := [.ref a0, .ref a]) rfl rfl rfl rfl rfl
theorem s89_39 : jx_Go jxP d 89 39 [l0, l1, l2, l3, l4, l5] st h Q ↔ jx_Go jxP d 89 40 [l0, l1, l2, l3, l4, l5] (.int (nI 5) :: st) h Q := jg_c rfl
theorem s89_40 : jx_Go jxP d 89 40 [l0, .int x, l2, l3, l4, l5] st h Q ↔ jx_Go jxP d 89 41 [l0, .int x, l2, l3, l4, l5] (.int x :: st) h Q := jg_il rfl rfl
theorem s89_41 : jx_Go jxP d 89 41 [l0, l1, l2, l3, l4, l5] (.int y :: .int x :: st) h Q ↔ jx_Go jxP d 89 42 [l0, l1, l2, l3, l4, l5] (.int (x * y) :: st) h Q := jg_b (f := fun x y => x * y) rfl
theorem s89_42 : jx_Go jxP d 89 42 [l0, l1, .int x, l3, l4, l5] st h Q ↔ jx_Go jxP d 89 43 [l0, l1, .int x, l3, l4, l5] (.int x :: st) h Q := jg_il rfl rfl
theorem s89_43 : jx_Go jxP d 89 43 [l0, l1, l2, l3, l4, l5] (.int y :: .int x :: st) h Q ↔ jx_Go jxP d 89 44 [l0, l1, l2, l3, l4, l5] (.int (x + y) :: st) h Q := jg_b (f := fun x y => x + y) rfl
theorem s89_44 : jx_Go jxP d 89 44 [l0, l1, l2, l3, l4, l5] (.int x :: st) h Q ↔ jx_Go jxP d 89 46 [l0, l1, l2, l3, .int x, l5] st h Q := jg_is rfl rfl
theorem s89_46 : jx_Go jxP d 89 46 [.ref a, l1, l2, l3, l4, l5] st h Q ↔ jx_Go jxP d 89 47 [.ref a, l1, l2, l3, l4, l5] (.ref a :: st) h Q := jg_al rfl rfl
theorem s89_47 : jx_Go jxP d 89 47 [l0, l1, l2, l3, l4, l5] (.ref a :: st) h Q ↔ ∃ v, jx_fl h a 11 0 = some v ∧ jx_Go jxP d 89 50 [l0, l1, l2, l3, l4, l5] (v :: st) h Q := jg_gf rfl
theorem s89_50 : jx_Go jxP d 89 50 [l0, l1, l2, l3, l4, l5] (.ref a :: st) h Q ↔ ∃ v, jx_fl h a 10 3 = some v ∧ jx_Go jxP d 89 53 [l0, l1, l2, l3, l4, l5] (v :: st) h Q := jg_gf rfl
theorem s89_53 : jx_Go jxP d 89 53 [l0, l1, l2, l3, .int x, l5] st h Q ↔ jx_Go jxP d 89 55 [l0, l1, l2, l3, .int x, l5] (.int x :: st) h Q := jg_il rfl rfl
theorem s89_55 : jx_Go jxP d 89 55 [l0, l1, l2, l3, l4, l5] (.int x :: .ref a :: st) h Q ↔ ∃ q, jx_ai h a = some q ∧ jx_in x q.1 ∧ jx_Go jxP d 89 56 [l0, l1, l2, l3, l4, l5] (.int (q.2 x.toNatClampNeg) :: st) h Q := jg_ia rfl
theorem s89_56 : jx_Go jxP d 89 56 [l0, l1, l2, l3, l4, l5] (.int x :: st) h Q ↔ jx_Go jxP d 89 58 [l0, l1, l2, l3, l4, .int x] st h Q := jg_is rfl rfl
theorem s89_58 : jx_Go jxP d 89 58 [.ref a, l1, l2, l3, l4, l5] st h Q ↔ jx_Go jxP d 89 59 [.ref a, l1, l2, l3, l4, l5] (.ref a :: st) h Q := jg_al rfl rfl
theorem s89_59 : jx_Go jxP d 89 59 [l0, l1, l2, l3, l4, l5] (.ref a :: st) h Q ↔ ∃ v, jx_fl h a 11 0 = some v ∧ jx_Go jxP d 89 62 [l0, l1, l2, l3, l4, l5] (v :: st) h Q := jg_gf rfl
theorem s89_62 : jx_Go jxP d 89 62 [l0, l1, l2, l3, l4, l5] (.ref a :: st) h Q ↔ ∃ v, jx_fl h a 10 3 = some v ∧ jx_Go jxP d 89 65 [l0, l1, l2, l3, l4, l5] (v :: st) h Q := jg_gf rfl
theorem s89_65 : jx_Go jxP d 89 65 [l0, l1, l2, l3, .int x, l5] st h Q ↔ jx_Go jxP d 89 67 [l0, l1, l2, l3, .int x, l5] (.int x :: st) h Q := jg_il rfl rfl
theorem s89_67 : jx_Go jxP d 89 67 [l0, l1, l2, .int x, l4, l5] st h Q ↔ jx_Go jxP d 89 68 [l0, l1, l2, .int x, l4, l5] (.int x :: st) h Q := jg_il rfl rfl
theorem s89_68 : jx_Go jxP d 89 68 [l0, l1, l2, l3, l4, l5] (.int y :: .int x :: .ref a :: st) h Q ↔ ∃ q, jx_ai h a = some q ∧ jx_in x q.1 ∧ jx_Go jxP d 89 69 [l0, l1, l2, l3, l4, l5] st (jx_wi h a q.1 (upd q.2 x.toNatClampNeg y)) Q := jg_iw rfl
theorem s89_69 : jx_Go jxP d 89 69 [.ref a, l1, l2, l3, l4, l5] st h Q ↔ jx_Go jxP d 89 70 [.ref a, l1, l2, l3, l4, l5] (.ref a :: st) h Q := jg_al rfl rfl
theorem s89_70 : jx_Go jxP d 89 70 [l0, l1, l2, l3, l4, l5] (.ref a :: st) h Q ↔ ∃ v, jx_fl h a 11 6 = some v ∧ jx_Go jxP d 89 73 [l0, l1, l2, l3, l4, l5] (v :: st) h Q := jg_gf rfl
theorem s89_73 : jx_Go jxP (d + 1) 89 73 [l0, l1, l2, l3, l4, l5] (.ref a :: st) h Q ↔ (st.length ≤ 4 ∧ jx_cl h a = some 6 ∧ jx_Go jxP d 36 0 [.ref a] [] h (fun s1 h1 => jx_Go jxP (d + 1) 89 76 [l0, l1, l2, l3, l4, l5] (s1 ++ st) h1 Q)) := jg_callV (as := [.ref a]) rfl rfl rfl rfl rfl
theorem s89_76 : jx_Go jxP d 89 76 [l0, l1, l2, l3, l4, .int x] st h Q ↔ jx_Go jxP d 89 78 [l0, l1, l2, l3, l4, .int x] (.int x :: st) h Q := jg_il rfl rfl
theorem s89_78 : jx_Go jxP d 89 78 [l0, l1, l2, l3, l4, l5] [.int x] h Q ↔ Q [.int x] h := jx_rt rfl rfl
-- 90 TalkBench.rule
theorem s90_0 : jx_Go jxP d 90 0 [l0, .int x] st h Q ↔ jx_Go jxP d 90 1 [l0, .int x] (.int x :: st) h Q := jg_il rfl rfl
theorem s90_1 : jx_Go jxP d 90 1 [l0, l1] (.int x :: st) h Q ↔ if x < 0 then jx_Go jxP d 90 9 [l0, l1] st h Q else jx_Go jxP d 90 4 [l0, l1] st h Q := jg_ifP rfl rfl
theorem s90_4 : jx_Go jxP d 90 4 [l0, .int x] st h Q ↔ jx_Go jxP d 90 5 [l0, .int x] (.int x :: st) h Q := jg_il rfl rfl
theorem s90_5 : jx_Go jxP d 90 5 [l0, l1] st h Q ↔ jx_Go jxP d 90 6 [l0, l1] (.int (nI 4) :: st) h Q := jg_c rfl
theorem s90_6 : jx_Go jxP d 90 6 [l0, l1] (.int y :: .int x :: st) h Q ↔ if x ≤ y then jx_Go jxP d 90 15 [l0, l1] st h Q else jx_Go jxP d 90 9 [l0, l1] st h Q := jg_icP rfl rfl
theorem s90_9 : jx_Go jxP d 90 9 [.ref a, l1] st h Q ↔ jx_Go jxP d 90 10 [.ref a, l1] (.ref a :: st) h Q := jg_al rfl rfl
theorem s90_10 : jx_Go jxP d 90 10 [l0, l1] st h Q ↔ jx_Go jxP d 90 11 [l0, l1] (.int (-1) :: st) h Q := jg_c rfl
theorem s90_11 : jx_Go jxP (d + 1) 90 11 [l0, l1] (.int x0 :: .ref a :: st) h Q ↔ (st.length ≤ 4 ∧ jx_cl h a = some 11 ∧ jx_Go jxP d 120 0 [.ref a, .int x0] [] h (fun s1 h1 => jx_Go jxP (d + 1) 90 14 [l0, l1] (s1 ++ st) h1 Q)) := jg_callV (as := [.int x0, .ref a]) rfl rfl rfl rfl rfl
theorem s90_14 : jx_Go jxP d 90 14 [l0, l1] [.int x] h Q ↔ Q [.int x] h := jx_rt rfl rfl
theorem s90_15 : jx_Go jxP d 90 15 [.ref a, l1] st h Q ↔ jx_Go jxP d 90 16 [.ref a, l1] (.ref a :: st) h Q := jg_al rfl rfl
theorem s90_16 : jx_Go jxP d 90 16 [l0, l1] (.ref a :: st) h Q ↔ ∃ v, jx_fl h a 11 3 = some v ∧ jx_Go jxP d 90 19 [l0, l1] (v :: st) h Q := jg_gf rfl
theorem s90_19 : jx_Go jxP d 90 19 [.ref a, l1] st h Q ↔ jx_Go jxP d 90 20 [.ref a, l1] (.ref a :: st) h Q := jg_al rfl rfl
theorem s90_20 : jx_Go jxP d 90 20 [l0, l1] (.ref a :: st) h Q ↔ ∃ v, jx_fl h a 11 0 = some v ∧ jx_Go jxP d 90 23 [l0, l1] (v :: st) h Q := jg_gf rfl
theorem s90_23 : jx_Go jxP (d + 1) 90 23 [l0, l1] (.ref a0 :: .ref a :: st) h Q ↔ (st.length ≤ 4 ∧ jx_cl h a = some 1 ∧ jx_Go jxP d 12 0 [.ref a, .ref a0] [] h (fun s1 h1 => jx_Go jxP (d + 1) 90 26 [l0, l1] (s1 ++ st) h1 Q)) := jg_callV (as := [.ref a0, .ref a]) rfl rfl rfl rfl rfl
theorem s90_26 : jx_Go jxP d 90 26 [.ref a, l1] st h Q ↔ jx_Go jxP d 90 27 [.ref a, l1] (.ref a :: st) h Q := jg_al rfl rfl
theorem s90_27 : jx_Go jxP d 90 27 [l0, l1] (.ref a :: st) h Q ↔ ∃ v, jx_fl h a 11 0 = some v ∧ jx_Go jxP d 90 30 [l0, l1] (v :: st) h Q := jg_gf rfl
theorem s90_30 : jx_Go jxP d 90 30 [l0, .int x] st h Q ↔ jx_Go jxP d 90 31 [l0, .int x] (.int x :: st) h Q := jg_il rfl rfl
theorem s90_31 : jx_Go jxP (d + 1) 90 31 [l0, l1] (.int x0 :: .ref a :: st) h Q ↔ (st.length ≤ 4 ∧ jx_cl h a = some 10 ∧ jx_Go jxP d 74 0 [.ref a, .int x0, jx_u, jx_u] [] h (fun s1 h1 => jx_Go jxP (d + 1) 90 34 [l0, l1] (s1 ++ st) h1 Q)) := jg_callV (as := [.int x0, .ref a]) rfl rfl rfl rfl rfl
theorem s90_34 : jx_Go jxP d 90 34 [.ref a, l1] st h Q ↔ jx_Go jxP d 90 35 [.ref a, l1] (.ref a :: st) h Q := jg_al rfl rfl
theorem s90_35 : jx_Go jxP (d + 1) 90 35 [l0, l1] (.ref a :: st) h Q ↔ (st.length ≤ 4 ∧ jx_cl h a = some 11 ∧ jx_Go jxP d 121 0 [.ref a] [] h (fun s1 h1 => jx_Go jxP (d + 1) 90 38 [l0, l1] (s1 ++ st) h1 Q)) := jg_callV (as := [.ref a]) rfl rfl rfl rfl rfl
theorem s90_38 : jx_Go jxP d 90 38 [.ref a, l1] st h Q ↔ jx_Go jxP d 90 39 [.ref a, l1] (.ref a :: st) h Q := jg_al rfl rfl
theorem s90_39 : jx_Go jxP d 90 39 [l0, l1] (.ref a :: st) h Q ↔ ∃ v, jx_fl h a 11 0 = some v ∧ jx_Go jxP d 90 42 [l0, l1] (v :: st) h Q := jg_gf rfl
theorem s90_42 : jx_Go jxP d 90 42 [l0, l1] st h Q ↔ jx_Go jxP d 90 43 [l0, l1] (.int (nI 1) :: st) h Q := jg_c rfl
theorem s90_43 : jx_Go jxP (d + 1) 90 43 [l0, l1] (.int x0 :: .ref a :: st) h Q ↔ (st.length ≤ 4 ∧ jx_cl h a = some 10 ∧ jx_Go jxP d 72 0 [.ref a, .int x0, jx_u, jx_u, jx_u] [] h (fun s1 h1 => jx_Go jxP (d + 1) 90 46 [l0, l1] (s1 ++ st) h1 Q)) := jg_callV (as := [.int x0, .ref a]) rfl rfl rfl rfl rfl
theorem s90_46 : jx_Go jxP d 90 46 [l0, l1] [.int x] h Q ↔ Q [.int x] h := jx_rt rfl rfl
-- 91 TalkBench.turn
theorem s91_0 : jx_Go jxP d 91 0 [.ref a] st h Q ↔ jx_Go jxP d 91 1 [.ref a] (.ref a :: st) h Q := jg_al rfl rfl
theorem s91_1 : jx_Go jxP d 91 1 [l0] (.ref a :: st) h Q ↔ ∃ v, jx_fl h a 11 3 = some v ∧ jx_Go jxP d 91 4 [l0] (v :: st) h Q := jg_gf rfl
theorem s91_4 : jx_Go jxP d 91 4 [.ref a] st h Q ↔ jx_Go jxP d 91 5 [.ref a] (.ref a :: st) h Q := jg_al rfl rfl
theorem s91_5 : jx_Go jxP d 91 5 [l0] (.ref a :: st) h Q ↔ ∃ v, jx_fl h a 11 0 = some v ∧ jx_Go jxP d 91 8 [l0] (v :: st) h Q := jg_gf rfl
theorem s91_8 : jx_Go jxP (d + 1) 91 8 [l0] (.ref a0 :: .ref a :: st) h Q ↔ (st.length ≤ 4 ∧ jx_cl h a = some 1 ∧ jx_Go jxP d 12 0 [.ref a, .ref a0] [] h (fun s1 h1 => jx_Go jxP (d + 1) 91 11 [l0] (s1 ++ st) h1 Q)) := jg_callV (as := [.ref a0, .ref a]) rfl rfl rfl rfl rfl
theorem s91_11 : jx_Go jxP d 91 11 [.ref a] st h Q ↔ jx_Go jxP d 91 12 [.ref a] (.ref a :: st) h Q := jg_al rfl rfl
theorem s91_12 : jx_Go jxP d 91 12 [l0] (.ref a :: st) h Q ↔ ∃ v, jx_fl h a 11 0 = some v ∧ jx_Go jxP d 91 15 [l0] (v :: st) h Q := jg_gf rfl
theorem s91_15 : jx_Go jxP (d + 1) 91 15 [l0] (.ref a :: st) h Q ↔ (st.length ≤ 4 ∧ jx_cl h a = some 10 ∧ jx_Go jxP d 77 0 [.ref a, jx_u, jx_u] [] h (fun s1 h1 => jx_Go jxP (d + 1) 91 18 [l0] (s1 ++ st) h1 Q)) := jg_callV (as := [.ref a]) rfl rfl rfl rfl rfl
theorem s91_18 : jx_Go jxP d 91 18 [.ref a] st h Q ↔ jx_Go jxP d 91 19 [.ref a] (.ref a :: st) h Q := jg_al rfl rfl
theorem s91_19 : jx_Go jxP (d + 1) 91 19 [l0] (.ref a :: st) h Q ↔ (st.length ≤ 4 ∧ jx_cl h a = some 11 ∧ jx_Go jxP d 121 0 [.ref a] [] h (fun s1 h1 => jx_Go jxP (d + 1) 91 22 [l0] (s1 ++ st) h1 Q)) := jg_callV (as := [.ref a]) rfl rfl rfl rfl rfl
theorem s91_22 : jx_Go jxP d 91 22 [.ref a] st h Q ↔ jx_Go jxP d 91 23 [.ref a] (.ref a :: st) h Q := jg_al rfl rfl
theorem s91_23 : jx_Go jxP d 91 23 [l0] (.ref a :: st) h Q ↔ ∃ v, jx_fl h a 11 0 = some v ∧ jx_Go jxP d 91 26 [l0] (v :: st) h Q := jg_gf rfl
theorem s91_26 : jx_Go jxP d 91 26 [l0] (.ref a :: st) h Q ↔ ∃ v, jx_fl h a 10 0 = some v ∧ jx_Go jxP d 91 29 [l0] (v :: st) h Q := jg_gf rfl
theorem s91_29 : jx_Go jxP d 91 29 [l0] [.int x] h Q ↔ Q [.int x] h := jx_rt rfl rfl
-- 92 TalkBench.turnAnswers
theorem s92_0 : jx_Go jxP d 92 0 [.ref a] st h Q ↔ jx_Go jxP d 92 1 [.ref a] (.ref a :: st) h Q := jg_al rfl rfl
theorem s92_1 : jx_Go jxP d 92 1 [l0] (.ref a :: st) h Q ↔ ∃ v, jx_fl h a 11 3 = some v ∧ jx_Go jxP d 92 4 [l0] (v :: st) h Q := jg_gf rfl
theorem s92_4 : jx_Go jxP d 92 4 [.ref a] st h Q ↔ jx_Go jxP d 92 5 [.ref a] (.ref a :: st) h Q := jg_al rfl rfl
theorem s92_5 : jx_Go jxP d 92 5 [l0] (.ref a :: st) h Q ↔ ∃ v, jx_fl h a 11 0 = some v ∧ jx_Go jxP d 92 8 [l0] (v :: st) h Q := jg_gf rfl
theorem s92_8 : jx_Go jxP (d + 1) 92 8 [l0] (.ref a0 :: .ref a :: st) h Q ↔ (st.length ≤ 4 ∧ jx_cl h a = some 1 ∧ jx_Go jxP d 12 0 [.ref a, .ref a0] [] h (fun s1 h1 => jx_Go jxP (d + 1) 92 11 [l0] (s1 ++ st) h1 Q)) := jg_callV (as := [.ref a0, .ref a]) rfl rfl rfl rfl rfl
theorem s92_11 : jx_Go jxP d 92 11 [.ref a] st h Q ↔ jx_Go jxP d 92 12 [.ref a] (.ref a :: st) h Q := jg_al rfl rfl
theorem s92_12 : jx_Go jxP d 92 12 [l0] (.ref a :: st) h Q ↔ ∃ v, jx_fl h a 11 0 = some v ∧ jx_Go jxP d 92 15 [l0] (v :: st) h Q := jg_gf rfl
theorem s92_15 : jx_Go jxP (d + 1) 92 15 [l0] (.ref a :: st) h Q ↔ (st.length ≤ 4 ∧ jx_cl h a = some 10 ∧ jx_Go jxP d 79 0 [.ref a, jx_u, jx_u, jx_u] [] h (fun s1 h1 => jx_Go jxP (d + 1) 92 18 [l0] (s1 ++ st) h1 Q)) := jg_callV (as := [.ref a]) rfl rfl rfl rfl rfl
theorem s92_18 : jx_Go jxP d 92 18 [.ref a] st h Q ↔ jx_Go jxP d 92 19 [.ref a] (.ref a :: st) h Q := jg_al rfl rfl
theorem s92_19 : jx_Go jxP (d + 1) 92 19 [l0] (.ref a :: st) h Q ↔ (st.length ≤ 4 ∧ jx_cl h a = some 11 ∧ jx_Go jxP d 121 0 [.ref a] [] h (fun s1 h1 => jx_Go jxP (d + 1) 92 22 [l0] (s1 ++ st) h1 Q)) := jg_callV (as := [.ref a]) rfl rfl rfl rfl rfl
theorem s92_22 : jx_Go jxP d 92 22 [.ref a] st h Q ↔ jx_Go jxP d 92 23 [.ref a] (.ref a :: st) h Q := jg_al rfl rfl
theorem s92_23 : jx_Go jxP d 92 23 [l0] (.ref a :: st) h Q ↔ ∃ v, jx_fl h a 11 0 = some v ∧ jx_Go jxP d 92 26 [l0] (v :: st) h Q := jg_gf rfl
theorem s92_26 : jx_Go jxP d 92 26 [l0] st h Q ↔ jx_Go jxP d 92 27 [l0] (.int (nI 1) :: st) h Q := jg_c rfl
theorem s92_27 : jx_Go jxP (d + 1) 92 27 [l0] (.int x0 :: .ref a :: st) h Q ↔ (st.length ≤ 4 ∧ jx_cl h a = some 10 ∧ jx_Go jxP d 72 0 [.ref a, .int x0, jx_u, jx_u, jx_u] [] h (fun s1 h1 => jx_Go jxP (d + 1) 92 30 [l0] (s1 ++ st) h1 Q)) := jg_callV (as := [.int x0, .ref a]) rfl rfl rfl rfl rfl
theorem s92_30 : jx_Go jxP d 92 30 [l0] [.int x] h Q ↔ Q [.int x] h := jx_rt rfl rfl
-- 93 TalkBench.unlike
theorem s93_0 : jx_Go jxP d 93 0 [.ref a, l1] st h Q ↔ jx_Go jxP d 93 1 [.ref a, l1] (.ref a :: st) h Q := jg_al rfl rfl
theorem s93_1 : jx_Go jxP d 93 1 [l0, l1] (.ref a :: st) h Q ↔ ∃ v, jx_fl h a 11 0 = some v ∧ jx_Go jxP d 93 4 [l0, l1] (v :: st) h Q := jg_gf rfl
theorem s93_4 : jx_Go jxP d 93 4 [l0, .int x] st h Q ↔ jx_Go jxP d 93 5 [l0, .int x] (.int x :: st) h Q := jg_il rfl rfl
theorem s93_5 : jx_Go jxP (d + 1) 93 5 [l0, l1] (.int x0 :: .ref a :: st) h Q ↔ (st.length ≤ 4 ∧ jx_cl h a = some 10 ∧ jx_Go jxP d 80 0 [.ref a, .int x0, jx_u, jx_u, jx_u, jx_u, jx_u] [] h (fun s1 h1 => jx_Go jxP (d + 1) 93 8 [l0, l1] (s1 ++ st) h1 Q)) := jg_callV (as := [.int x0, .ref a]) rfl rfl rfl rfl rfl
theorem s93_8 : jx_Go jxP d 93 8 [l0, l1] [.int x] h Q ↔ Q [.int x] h := jx_rt rfl rfl
-- 94 TalkBench.sheet
theorem s94_0 : jx_Go jxP d 94 0 [l0, .int x, l2, l3, l4] st h Q ↔ jx_Go jxP d 94 1 [l0, .int x, l2, l3, l4] (.int x :: st) h Q := jg_il rfl rfl
theorem s94_1 : jx_Go jxP (d + 1) 94 1 [l0, l1, l2, l3, l4] (.int x0 :: st) h Q ↔ (st.length ≤ 4 ∧ jx_Go jxP d 122 0 [.int x0] [] h (fun s1 h1 => jx_Go jxP (d + 1) 94 4 [l0, l1, l2, l3, l4] (s1 ++ st) h1 Q)) := jg_callS (as := [.int x0]) rfl rfl rfl rfl
theorem s94_4 : jx_Go jxP d 94 4 [l0, l1, l2, l3, l4] (.int x :: st) h Q ↔ if x = 0 then jx_Go jxP d 94 7 [l0, l1, l2, l3, l4] st h Q else jx_Go jxP d 94 29 [l0, l1, l2, l3, l4] st h Q := jg_ifN rfl rfl
theorem s94_7 : jx_Go jxP d 94 7 [l0, l1, .int x, l3, l4] st h Q ↔ jx_Go jxP d 94 8 [l0, l1, .int x, l3, l4] (.int x :: st) h Q := jg_il rfl rfl
theorem s94_8 : jx_Go jxP d 94 8 [l0, l1, l2, l3, l4] (.int x :: st) h Q ↔ if x = 0 then jx_Go jxP d 94 35 [l0, l1, l2, l3, l4] st h Q else jx_Go jxP d 94 11 [l0, l1, l2, l3, l4] st h Q := jg_ifP rfl rfl
theorem s94_11 : jx_Go jxP d 94 11 [l0, l1, .int x, l3, l4] st h Q ↔ jx_Go jxP d 94 12 [l0, l1, .int x, l3, l4] (.int x :: st) h Q := jg_il rfl rfl
theorem s94_12 : jx_Go jxP d 94 12 [l0, l1, l2, l3, l4] st h Q ↔ jx_Go jxP d 94 14 [l0, l1, l2, l3, l4] (.int (nI 8) :: st) h Q := jg_c rfl
theorem s94_14 : jx_Go jxP d 94 14 [l0, l1, l2, l3, l4] (.int y :: .int x :: st) h Q ↔ if x = y then jx_Go jxP d 94 35 [l0, l1, l2, l3, l4] st h Q else jx_Go jxP d 94 17 [l0, l1, l2, l3, l4] st h Q := jg_icP rfl rfl
theorem s94_17 : jx_Go jxP d 94 17 [l0, l1, .int x, l3, l4] st h Q ↔ jx_Go jxP d 94 18 [l0, l1, .int x, l3, l4] (.int x :: st) h Q := jg_il rfl rfl
theorem s94_18 : jx_Go jxP d 94 18 [l0, l1, l2, l3, l4] st h Q ↔ jx_Go jxP d 94 20 [l0, l1, l2, l3, l4] (.int (nI 16) :: st) h Q := jg_c rfl
theorem s94_20 : jx_Go jxP d 94 20 [l0, l1, l2, l3, l4] (.int y :: .int x :: st) h Q ↔ if x = y then jx_Go jxP d 94 35 [l0, l1, l2, l3, l4] st h Q else jx_Go jxP d 94 23 [l0, l1, l2, l3, l4] st h Q := jg_icP rfl rfl
theorem s94_23 : jx_Go jxP d 94 23 [l0, l1, .int x, l3, l4] st h Q ↔ jx_Go jxP d 94 24 [l0, l1, .int x, l3, l4] (.int x :: st) h Q := jg_il rfl rfl
theorem s94_24 : jx_Go jxP d 94 24 [l0, l1, l2, l3, l4] st h Q ↔ jx_Go jxP d 94 26 [l0, l1, l2, l3, l4] (.int (nI 32) :: st) h Q := jg_c rfl
theorem s94_26 : jx_Go jxP d 94 26 [l0, l1, l2, l3, l4] (.int y :: .int x :: st) h Q ↔ if x = y then jx_Go jxP d 94 35 [l0, l1, l2, l3, l4] st h Q else jx_Go jxP d 94 29 [l0, l1, l2, l3, l4] st h Q := jg_icP rfl rfl
theorem s94_29 : jx_Go jxP d 94 29 [.ref a, l1, l2, l3, l4] st h Q ↔ jx_Go jxP d 94 30 [.ref a, l1, l2, l3, l4] (.ref a :: st) h Q := jg_al rfl rfl
theorem s94_30 : jx_Go jxP d 94 30 [l0, l1, l2, l3, l4] st h Q ↔ jx_Go jxP d 94 31 [l0, l1, l2, l3, l4] (.int (-1) :: st) h Q := jg_c rfl
theorem s94_31 : jx_Go jxP (d + 1) 94 31 [l0, l1, l2, l3, l4] (.int x0 :: .ref a :: st) h Q ↔ (st.length ≤ 4 ∧ jx_cl h a = some 11 ∧ jx_Go jxP d 120 0 [.ref a, .int x0] [] h (fun s1 h1 => jx_Go jxP (d + 1) 94 34 [l0, l1, l2, l3, l4] (s1 ++ st) h1 Q)) := jg_callV (as := [.int x0, .ref a]) rfl rfl rfl rfl rfl
theorem s94_34 : jx_Go jxP d 94 34 [l0, l1, l2, l3, l4] [.int x] h Q ↔ Q [.int x] h := jx_rt rfl rfl
theorem s94_35 : jx_Go jxP d 94 35 [l0, l1, l2, .int x, l4] st h Q ↔ jx_Go jxP d 94 36 [l0, l1, l2, .int x, l4] (.int x :: st) h Q := jg_il rfl rfl
theorem s94_36 : jx_Go jxP d 94 36 [l0, l1, l2, l3, l4] (.int x :: st) h Q ↔ if 0 ≤ x then jx_Go jxP d 94 46 [l0, l1, l2, l3, l4] st h Q else jx_Go jxP d 94 39 [l0, l1, l2, l3, l4] st h Q := jg_ifP rfl rfl
theorem s94_39 : jx_Go jxP d 94 39 [.ref a, l1, l2, l3, l4] st h Q ↔ jx_Go jxP d 94 40 [.ref a, l1, l2, l3, l4] (.ref a :: st) h Q := jg_al rfl rfl
theorem s94_40 : jx_Go jxP d 94 40 [l0, l1, l2, l3, l4] st h Q ↔ jx_Go jxP d 94 42 [l0, l1, l2, l3, l4] (.int (-3) :: st) h Q := jg_c rfl
theorem s94_42 : jx_Go jxP (d + 1) 94 42 [l0, l1, l2, l3, l4] (.int x0 :: .ref a :: st) h Q ↔ (st.length ≤ 4 ∧ jx_cl h a = some 11 ∧ jx_Go jxP d 120 0 [.ref a, .int x0] [] h (fun s1 h1 => jx_Go jxP (d + 1) 94 45 [l0, l1, l2, l3, l4] (s1 ++ st) h1 Q)) := jg_callV (as := [.int x0, .ref a]) rfl rfl rfl rfl rfl
theorem s94_45 : jx_Go jxP d 94 45 [l0, l1, l2, l3, l4] [.int x] h Q ↔ Q [.int x] h := jx_rt rfl rfl
theorem s94_46 : jx_Go jxP d 94 46 [l0, l1, l2, .int x, l4] st h Q ↔ jx_Go jxP d 94 47 [l0, l1, l2, .int x, l4] (.int x :: st) h Q := jg_il rfl rfl
theorem s94_47 : jx_Go jxP d 94 47 [l0, l1, l2, l3, l4] st h Q ↔ jx_Go jxP d 94 49 [l0, l1, l2, l3, l4] (.int (nI 30) :: st) h Q := jg_c rfl
theorem s94_49 : jx_Go jxP d 94 49 [l0, l1, l2, l3, l4] (.int y :: .int x :: st) h Q ↔ if x ≤ y then jx_Go jxP d 94 58 [l0, l1, l2, l3, l4] st h Q else jx_Go jxP d 94 52 [l0, l1, l2, l3, l4] st h Q := jg_icP rfl rfl
theorem s94_52 : jx_Go jxP d 94 52 [.ref a, l1, l2, l3, l4] st h Q ↔ jx_Go jxP d 94 53 [.ref a, l1, l2, l3, l4] (.ref a :: st) h Q := jg_al rfl rfl
theorem s94_53 : jx_Go jxP d 94 53 [l0, l1, l2, l3, l4] st h Q ↔ jx_Go jxP d 94 54 [l0, l1, l2, l3, l4] (.int (-1) :: st) h Q := jg_c rfl
theorem s94_54 : jx_Go jxP (d + 1) 94 54 [l0, l1, l2, l3, l4] (.int x0 :: .ref a :: st) h Q ↔ (st.length ≤ 4 ∧ jx_cl h a = some 11 ∧ jx_Go jxP d 120 0 [.ref a, .int x0] [] h (fun s1 h1 => jx_Go jxP (d + 1) 94 57 [l0, l1, l2, l3, l4] (s1 ++ st) h1 Q)) := jg_callV (as := [.int x0, .ref a]) rfl rfl rfl rfl rfl
theorem s94_57 : jx_Go jxP d 94 57 [l0, l1, l2, l3, l4] [.int x] h Q ↔ Q [.int x] h := jx_rt rfl rfl
theorem s94_58 : jx_Go jxP d 94 58 [l0, l1, .int x, l3, l4] st h Q ↔ jx_Go jxP d 94 59 [l0, l1, .int x, l3, l4] (.int x :: st) h Q := jg_il rfl rfl
theorem s94_59 : jx_Go jxP d 94 59 [l0, l1, l2, l3, l4] (.int x :: st) h Q ↔ if x = 0 then jx_Go jxP d 94 62 [l0, l1, l2, l3, l4] st h Q else jx_Go jxP d 94 66 [l0, l1, l2, l3, l4] st h Q := jg_ifN rfl rfl
theorem s94_62 : jx_Go jxP d 94 62 [l0, l1, l2, l3, l4] st h Q ↔ jx_Go jxP d 94 63 [l0, l1, l2, l3, l4] (.int (nI 0) :: st) h Q := jg_c rfl
theorem s94_63 : jx_Go jxP d 94 63 [l0, l1, l2, l3, l4] st h Q ↔ jx_Go jxP d 94 67 [l0, l1, l2, l3, l4] st h Q := jg_go rfl
theorem s94_66 : jx_Go jxP d 94 66 [l0, l1, l2, .int x, l4] st h Q ↔ jx_Go jxP d 94 67 [l0, l1, l2, .int x, l4] (.int x :: st) h Q := jg_il rfl rfl
theorem s94_67 : jx_Go jxP d 94 67 [l0, l1, l2, l3, l4] (.int x :: st) h Q ↔ jx_Go jxP d 94 69 [l0, l1, l2, l3, .int x] st h Q := jg_is rfl rfl
theorem s94_69 : jx_Go jxP d 94 69 [.ref a, l1, l2, l3, l4] st h Q ↔ jx_Go jxP d 94 70 [.ref a, l1, l2, l3, l4] (.ref a :: st) h Q := jg_al rfl rfl
theorem s94_70 : jx_Go jxP d 94 70 [l0, l1, l2, l3, l4] (.ref a :: st) h Q ↔ ∃ v, jx_fl h a 11 2 = some v ∧ jx_Go jxP d 94 73 [l0, l1, l2, l3, l4] (v :: st) h Q := jg_gf rfl
theorem s94_73 : jx_Go jxP d 94 73 [l0, .int x, l2, l3, l4] st h Q ↔ jx_Go jxP d 94 74 [l0, .int x, l2, l3, l4] (.int x :: st) h Q := jg_il rfl rfl
theorem s94_74 : jx_Go jxP d 94 74 [l0, l1, l2, l3, l4] (.int x :: .ref a :: st) h Q ↔ ∃ q, jx_ar h a 3 = some q ∧ jx_in x q.1 ∧ jx_Go jxP d 94 75 [l0, l1, l2, l3, l4] (jx_rv (q.2 x.toNatClampNeg) :: st) h Q := jg_ra rfl
theorem s94_75 : jx_Go jxP d 94 75 [l0, l1, .int x, l3, l4] st h Q ↔ jx_Go jxP d 94 76 [l0, l1, .int x, l3, l4] (.int x :: st) h Q := jg_il rfl rfl
theorem s94_76 : jx_Go jxP d 94 76 [l0, l1, l2, l3, .int x] st h Q ↔ jx_Go jxP d 94 78 [l0, l1, l2, l3, .int x] (.int x :: st) h Q := jg_il rfl rfl
theorem s94_78 : jx_Go jxP (d + 1) 94 78 [l0, l1, l2, l3, l4] (.int x1 :: .int x0 :: .ref a :: st) h Q ↔ (st.length ≤ 4 ∧ jx_cl h a = some 8 ∧ jx_Go jxP d 57 0 [.ref a, .int x0, .int x1] [] h (fun s1 h1 => jx_Go jxP (d + 1) 94 81 [l0, l1, l2, l3, l4] (s1 ++ st) h1 Q)) := jg_callV (as := [.int x1, .int x0, .ref a]) rfl rfl rfl rfl rfl
theorem s94_81 : jx_Go jxP d 94 81 [l0, l1, l2, l3, .int x] st h Q ↔ jx_Go jxP d 94 83 [l0, l1, l2, l3, .int x] (.int x :: st) h Q := jg_il rfl rfl
theorem s94_83 : jx_Go jxP d 94 83 [l0, l1, l2, l3, l4] [.int x] h Q ↔ Q [.int x] h := jx_rt rfl rfl
-- 95 TalkBench.write
theorem s95_0 : jx_Go jxP d 95 0 [l0, .int x, l2, l3] st h Q ↔ jx_Go jxP d 95 1 [l0, .int x, l2, l3] (.int x :: st) h Q := jg_il rfl rfl
theorem s95_1 : jx_Go jxP (d + 1) 95 1 [l0, l1, l2, l3] (.int x0 :: st) h Q ↔ (st.length ≤ 4 ∧ jx_Go jxP d 122 0 [.int x0] [] h (fun s1 h1 => jx_Go jxP (d + 1) 95 4 [l0, l1, l2, l3] (s1 ++ st) h1 Q)) := jg_callS (as := [.int x0]) rfl rfl rfl rfl
theorem s95_4 : jx_Go jxP d 95 4 [l0, l1, l2, l3] (.int x :: st) h Q ↔ if x = 0 then jx_Go jxP d 95 13 [l0, l1, l2, l3] st h Q else jx_Go jxP d 95 7 [l0, l1, l2, l3] st h Q := jg_ifP rfl rfl
theorem s95_7 : jx_Go jxP d 95 7 [.ref a, l1, l2, l3] st h Q ↔ jx_Go jxP d 95 8 [.ref a, l1, l2, l3] (.ref a :: st) h Q := jg_al rfl rfl
theorem s95_8 : jx_Go jxP d 95 8 [l0, l1, l2, l3] st h Q ↔ jx_Go jxP d 95 9 [l0, l1, l2, l3] (.int (-1) :: st) h Q := jg_c rfl
theorem s95_9 : jx_Go jxP (d + 1) 95 9 [l0, l1, l2, l3] (.int x0 :: .ref a :: st) h Q ↔ (st.length ≤ 4 ∧ jx_cl h a = some 11 ∧ jx_Go jxP d 120 0 [.ref a, .int x0] [] h (fun s1 h1 => jx_Go jxP (d + 1) 95 12 [l0, l1, l2, l3] (s1 ++ st) h1 Q)) := jg_callV (as := [.int x0, .ref a]) rfl rfl rfl rfl rfl
theorem s95_12 : jx_Go jxP d 95 12 [l0, l1, l2, l3] [.int x] h Q ↔ Q [.int x] h := jx_rt rfl rfl
theorem s95_13 : jx_Go jxP d 95 13 [.ref a, l1, l2, l3] st h Q ↔ jx_Go jxP d 95 14 [.ref a, l1, l2, l3] (.ref a :: st) h Q := jg_al rfl rfl
theorem s95_14 : jx_Go jxP d 95 14 [l0, l1, l2, l3] (.ref a :: st) h Q ↔ ∃ v, jx_fl h a 11 2 = some v ∧ jx_Go jxP d 95 17 [l0, l1, l2, l3] (v :: st) h Q := jg_gf rfl
theorem s95_17 : jx_Go jxP d 95 17 [l0, .int x, l2, l3] st h Q ↔ jx_Go jxP d 95 18 [l0, .int x, l2, l3] (.int x :: st) h Q := jg_il rfl rfl
theorem s95_18 : jx_Go jxP d 95 18 [l0, l1, l2, l3] (.int x :: .ref a :: st) h Q ↔ ∃ q, jx_ar h a 3 = some q ∧ jx_in x q.1 ∧ jx_Go jxP d 95 19 [l0, l1, l2, l3] (jx_rv (q.2 x.toNatClampNeg) :: st) h Q := jg_ra rfl
theorem s95_19 : jx_Go jxP (d + 1) 95 19 [l0, l1, l2, l3] (.ref a :: st) h Q ↔ (st.length ≤ 4 ∧ jx_cl h a = some 8 ∧ jx_Go jxP d 56 0 [.ref a] [] h (fun s1 h1 => jx_Go jxP (d + 1) 95 22 [l0, l1, l2, l3] (s1 ++ st) h1 Q)) := jg_callV (as := [.ref a]) rfl rfl rfl rfl rfl
theorem s95_22 : jx_Go jxP d 95 22 [l0, l1, l2, l3] (.int x :: st) h Q ↔ if x = 0 then jx_Go jxP d 95 32 [l0, l1, l2, l3] st h Q else jx_Go jxP d 95 25 [l0, l1, l2, l3] st h Q := jg_ifP rfl rfl
theorem s95_25 : jx_Go jxP d 95 25 [.ref a, l1, l2, l3] st h Q ↔ jx_Go jxP d 95 26 [.ref a, l1, l2, l3] (.ref a :: st) h Q := jg_al rfl rfl
theorem s95_26 : jx_Go jxP d 95 26 [l0, l1, l2, l3] st h Q ↔ jx_Go jxP d 95 28 [l0, l1, l2, l3] (.int (-2) :: st) h Q := jg_c rfl
theorem s95_28 : jx_Go jxP (d + 1) 95 28 [l0, l1, l2, l3] (.int x0 :: .ref a :: st) h Q ↔ (st.length ≤ 4 ∧ jx_cl h a = some 11 ∧ jx_Go jxP d 120 0 [.ref a, .int x0] [] h (fun s1 h1 => jx_Go jxP (d + 1) 95 31 [l0, l1, l2, l3] (s1 ++ st) h1 Q)) := jg_callV (as := [.int x0, .ref a]) rfl rfl rfl rfl rfl
theorem s95_31 : jx_Go jxP d 95 31 [l0, l1, l2, l3] [.int x] h Q ↔ Q [.int x] h := jx_rt rfl rfl
theorem s95_32 : jx_Go jxP d 95 32 [l0, l1, .int x, l3] st h Q ↔ jx_Go jxP d 95 33 [l0, l1, .int x, l3] (.int x :: st) h Q := jg_il rfl rfl
theorem s95_33 : jx_Go jxP d 95 33 [l0, l1, l2, l3] (.int x :: st) h Q ↔ if x < 0 then jx_Go jxP d 95 49 [l0, l1, l2, l3] st h Q else jx_Go jxP d 95 36 [l0, l1, l2, l3] st h Q := jg_ifP rfl rfl
theorem s95_36 : jx_Go jxP d 95 36 [l0, l1, .int x, l3] st h Q ↔ jx_Go jxP d 95 37 [l0, l1, .int x, l3] (.int x :: st) h Q := jg_il rfl rfl
theorem s95_37 : jx_Go jxP d 95 37 [.ref a, l1, l2, l3] st h Q ↔ jx_Go jxP d 95 38 [.ref a, l1, l2, l3] (.ref a :: st) h Q := jg_al rfl rfl
theorem s95_38 : jx_Go jxP d 95 38 [l0, l1, l2, l3] (.ref a :: st) h Q ↔ ∃ v, jx_fl h a 11 2 = some v ∧ jx_Go jxP d 95 41 [l0, l1, l2, l3] (v :: st) h Q := jg_gf rfl
theorem s95_41 : jx_Go jxP d 95 41 [l0, .int x, l2, l3] st h Q ↔ jx_Go jxP d 95 42 [l0, .int x, l2, l3] (.int x :: st) h Q := jg_il rfl rfl
theorem s95_42 : jx_Go jxP d 95 42 [l0, l1, l2, l3] (.int x :: .ref a :: st) h Q ↔ ∃ q, jx_ar h a 3 = some q ∧ jx_in x q.1 ∧ jx_Go jxP d 95 43 [l0, l1, l2, l3] (jx_rv (q.2 x.toNatClampNeg) :: st) h Q := jg_ra rfl
theorem s95_43 : jx_Go jxP d 95 43 [l0, l1, l2, l3] (.ref a :: st) h Q ↔ ∃ v, jx_fl h a 8 1 = some v ∧ jx_Go jxP d 95 46 [l0, l1, l2, l3] (v :: st) h Q := jg_gf rfl
theorem s95_46 : jx_Go jxP d 95 46 [l0, l1, l2, l3] (.int y :: .int x :: st) h Q ↔ if x < y then jx_Go jxP d 95 55 [l0, l1, l2, l3] st h Q else jx_Go jxP d 95 49 [l0, l1, l2, l3] st h Q := jg_icP rfl rfl
theorem s95_49 : jx_Go jxP d 95 49 [.ref a, l1, l2, l3] st h Q ↔ jx_Go jxP d 95 50 [.ref a, l1, l2, l3] (.ref a :: st) h Q := jg_al rfl rfl
theorem s95_50 : jx_Go jxP d 95 50 [l0, l1, l2, l3] st h Q ↔ jx_Go jxP d 95 51 [l0, l1, l2, l3] (.int (-1) :: st) h Q := jg_c rfl
theorem s95_51 : jx_Go jxP (d + 1) 95 51 [l0, l1, l2, l3] (.int x0 :: .ref a :: st) h Q ↔ (st.length ≤ 4 ∧ jx_cl h a = some 11 ∧ jx_Go jxP d 120 0 [.ref a, .int x0] [] h (fun s1 h1 => jx_Go jxP (d + 1) 95 54 [l0, l1, l2, l3] (s1 ++ st) h1 Q)) := jg_callV (as := [.int x0, .ref a]) rfl rfl rfl rfl rfl
theorem s95_54 : jx_Go jxP d 95 54 [l0, l1, l2, l3] [.int x] h Q ↔ Q [.int x] h := jx_rt rfl rfl
theorem s95_55 : jx_Go jxP d 95 55 [.ref a, l1, l2, l3] st h Q ↔ jx_Go jxP d 95 56 [.ref a, l1, l2, l3] (.ref a :: st) h Q := jg_al rfl rfl
theorem s95_56 : jx_Go jxP d 95 56 [l0, l1, l2, l3] (.ref a :: st) h Q ↔ ∃ v, jx_fl h a 11 2 = some v ∧ jx_Go jxP d 95 59 [l0, l1, l2, l3] (v :: st) h Q := jg_gf rfl
theorem s95_59 : jx_Go jxP d 95 59 [l0, .int x, l2, l3] st h Q ↔ jx_Go jxP d 95 60 [l0, .int x, l2, l3] (.int x :: st) h Q := jg_il rfl rfl
theorem s95_60 : jx_Go jxP d 95 60 [l0, l1, l2, l3] (.int x :: .ref a :: st) h Q ↔ ∃ q, jx_ar h a 3 = some q ∧ jx_in x q.1 ∧ jx_Go jxP d 95 61 [l0, l1, l2, l3] (jx_rv (q.2 x.toNatClampNeg) :: st) h Q := jg_ra rfl
theorem s95_61 : jx_Go jxP d 95 61 [l0, l1, .int x, l3] st h Q ↔ jx_Go jxP d 95 62 [l0, l1, .int x, l3] (.int x :: st) h Q := jg_il rfl rfl
theorem s95_62 : jx_Go jxP d 95 62 [l0, l1, l2, .int x] st h Q ↔ jx_Go jxP d 95 63 [l0, l1, l2, .int x] (.int x :: st) h Q := jg_il rfl rfl
theorem s95_63 : jx_Go jxP (d + 1) 95 63 [l0, l1, l2, l3] (.int x1 :: .int x0 :: .ref a :: st) h Q ↔ (st.length ≤ 4 ∧ jx_cl h a = some 8 ∧ jx_Go jxP d 58 0 [.ref a, .int x0, .int x1] [] h (fun s1 h1 => jx_Go jxP (d + 1) 95 66 [l0, l1, l2, l3] (s1 ++ st) h1 Q)) := jg_callV (as := [.int x1, .int x0, .ref a]) rfl rfl rfl rfl rfl
theorem s95_66 : jx_Go jxP d 95 66 [l0, l1, l2, l3] st h Q ↔ jx_Go jxP d 95 67 [l0, l1, l2, l3] (.int (nI 0) :: st) h Q := jg_c rfl
theorem s95_67 : jx_Go jxP d 95 67 [l0, l1, l2, l3] [.int x] h Q ↔ Q [.int x] h := jx_rt rfl rfl
-- 96 TalkBench.copy
theorem s96_0 : jx_Go jxP d 96 0 [l0, .int x, l2, l3, l4, l5, l6, l7] st h Q ↔ jx_Go jxP d 96 1 [l0, .int x, l2, l3, l4, l5, l6, l7] (.int x :: st) h Q := jg_il rfl rfl
theorem s96_1 : jx_Go jxP (d + 1) 96 1 [l0, l1, l2, l3, l4, l5, l6, l7] (.int x0 :: st) h Q ↔ (st.length ≤ 4 ∧ jx_Go jxP d 122 0 [.int x0] [] h (fun s1 h1 => jx_Go jxP (d + 1) 96 4 [l0, l1, l2, l3, l4, l5, l6, l7] (s1 ++ st) h1 Q)) := jg_callS (as := [.int x0]) rfl rfl rfl rfl
theorem s96_4 : jx_Go jxP d 96 4 [l0, l1, l2, l3, l4, l5, l6, l7] (.int x :: st) h Q ↔ if x = 0 then jx_Go jxP d 96 7 [l0, l1, l2, l3, l4, l5, l6, l7] st h Q else jx_Go jxP d 96 14 [l0, l1, l2, l3, l4, l5, l6, l7] st h Q := jg_ifN rfl rfl
theorem s96_7 : jx_Go jxP d 96 7 [l0, l1, l2, .int x, l4, l5, l6, l7] st h Q ↔ jx_Go jxP d 96 8 [l0, l1, l2, .int x, l4, l5, l6, l7] (.int x :: st) h Q := jg_il rfl rfl
theorem s96_8 : jx_Go jxP (d + 1) 96 8 [l0, l1, l2, l3, l4, l5, l6, l7] (.int x0 :: st) h Q ↔ (st.length ≤ 4 ∧ jx_Go jxP d 122 0 [.int x0] [] h (fun s1 h1 => jx_Go jxP (d + 1) 96 11 [l0, l1, l2, l3, l4, l5, l6, l7] (s1 ++ st) h1 Q)) := jg_callS (as := [.int x0]) rfl rfl rfl rfl
theorem s96_11 : jx_Go jxP d 96 11 [l0, l1, l2, l3, l4, l5, l6, l7] (.int x :: st) h Q ↔ if x = 0 then jx_Go jxP d 96 20 [l0, l1, l2, l3, l4, l5, l6, l7] st h Q else jx_Go jxP d 96 14 [l0, l1, l2, l3, l4, l5, l6, l7] st h Q := jg_ifP rfl rfl
theorem s96_14 : jx_Go jxP d 96 14 [.ref a, l1, l2, l3, l4, l5, l6, l7] st h Q ↔ jx_Go jxP d 96 15 [.ref a, l1, l2, l3, l4, l5, l6, l7] (.ref a :: st) h Q := jg_al rfl rfl
theorem s96_15 : jx_Go jxP d 96 15 [l0, l1, l2, l3, l4, l5, l6, l7] st h Q ↔ jx_Go jxP d 96 16 [l0, l1, l2, l3, l4, l5, l6, l7] (.int (-1) :: st) h Q := jg_c rfl
theorem s96_16 : jx_Go jxP (d + 1) 96 16 [l0, l1, l2, l3, l4, l5, l6, l7] (.int x0 :: .ref a :: st) h Q ↔ (st.length ≤ 4 ∧ jx_cl h a = some 11 ∧ jx_Go jxP d 120 0 [.ref a, .int x0] [] h (fun s1 h1 => jx_Go jxP (d + 1) 96 19 [l0, l1, l2, l3, l4, l5, l6, l7] (s1 ++ st) h1 Q)) := jg_callV (as := [.int x0, .ref a]) rfl rfl rfl rfl rfl
theorem s96_19 : jx_Go jxP d 96 19 [l0, l1, l2, l3, l4, l5, l6, l7] [.int x] h Q ↔ Q [.int x] h := jx_rt rfl rfl
theorem s96_20 : jx_Go jxP d 96 20 [.ref a, l1, l2, l3, l4, l5, l6, l7] st h Q ↔ jx_Go jxP d 96 21 [.ref a, l1, l2, l3, l4, l5, l6, l7] (.ref a :: st) h Q := jg_al rfl rfl
theorem s96_21 : jx_Go jxP d 96 21 [l0, l1, l2, l3, l4, l5, l6, l7] (.ref a :: st) h Q ↔ ∃ v, jx_fl h a 11 2 = some v ∧ jx_Go jxP d 96 24 [l0, l1, l2, l3, l4, l5, l6, l7] (v :: st) h Q := jg_gf rfl
theorem s96_24 : jx_Go jxP d 96 24 [l0, .int x, l2, l3, l4, l5, l6, l7] st h Q ↔ jx_Go jxP d 96 25 [l0, .int x, l2, l3, l4, l5, l6, l7] (.int x :: st) h Q := jg_il rfl rfl
theorem s96_25 : jx_Go jxP d 96 25 [l0, l1, l2, l3, l4, l5, l6, l7] (.int x :: .ref a :: st) h Q ↔ ∃ q, jx_ar h a 3 = some q ∧ jx_in x q.1 ∧ jx_Go jxP d 96 26 [l0, l1, l2, l3, l4, l5, l6, l7] (jx_rv (q.2 x.toNatClampNeg) :: st) h Q := jg_ra rfl
theorem s96_26 : jx_Go jxP d 96 26 [l0, l1, l2, l3, l4, l5, l6, l7] (.ref a :: st) h Q ↔ jx_Go jxP d 96 28 [l0, l1, l2, l3, l4, l5, .ref a, l7] st h Q := jg_as rfl rfl
theorem s96_28 : jx_Go jxP d 96 28 [.ref a, l1, l2, l3, l4, l5, l6, l7] st h Q ↔ jx_Go jxP d 96 29 [.ref a, l1, l2, l3, l4, l5, l6, l7] (.ref a :: st) h Q := jg_al rfl rfl
theorem s96_29 : jx_Go jxP d 96 29 [l0, l1, l2, l3, l4, l5, l6, l7] (.ref a :: st) h Q ↔ ∃ v, jx_fl h a 11 2 = some v ∧ jx_Go jxP d 96 32 [l0, l1, l2, l3, l4, l5, l6, l7] (v :: st) h Q := jg_gf rfl
theorem s96_32 : jx_Go jxP d 96 32 [l0, l1, l2, .int x, l4, l5, l6, l7] st h Q ↔ jx_Go jxP d 96 33 [l0, l1, l2, .int x, l4, l5, l6, l7] (.int x :: st) h Q := jg_il rfl rfl
theorem s96_33 : jx_Go jxP d 96 33 [l0, l1, l2, l3, l4, l5, l6, l7] (.int x :: .ref a :: st) h Q ↔ ∃ q, jx_ar h a 3 = some q ∧ jx_in x q.1 ∧ jx_Go jxP d 96 34 [l0, l1, l2, l3, l4, l5, l6, l7] (jx_rv (q.2 x.toNatClampNeg) :: st) h Q := jg_ra rfl
theorem s96_34 : jx_Go jxP d 96 34 [l0, l1, l2, l3, l4, l5, l6, l7] (.ref a :: st) h Q ↔ jx_Go jxP d 96 36 [l0, l1, l2, l3, l4, l5, l6, .ref a] st h Q := jg_as rfl rfl
theorem s96_36 : jx_Go jxP d 96 36 [l0, l1, l2, l3, l4, l5, .ref a, l7] st h Q ↔ jx_Go jxP d 96 38 [l0, l1, l2, l3, l4, l5, .ref a, l7] (.ref a :: st) h Q := jg_al rfl rfl
theorem s96_38 : jx_Go jxP (d + 1) 96 38 [l0, l1, l2, l3, l4, l5, l6, l7] (.ref a :: st) h Q ↔ (st.length ≤ 4 ∧ jx_cl h a = some 8 ∧ jx_Go jxP d 56 0 [.ref a] [] h (fun s1 h1 => jx_Go jxP (d + 1) 96 41 [l0, l1, l2, l3, l4, l5, l6, l7] (s1 ++ st) h1 Q)) := jg_callV (as := [.ref a]) rfl rfl rfl rfl rfl
theorem s96_41 : jx_Go jxP d 96 41 [l0, l1, l2, l3, l4, l5, l6, l7] (.int x :: st) h Q ↔ if x = 0 then jx_Go jxP d 96 44 [l0, l1, l2, l3, l4, l5, l6, l7] st h Q else jx_Go jxP d 96 52 [l0, l1, l2, l3, l4, l5, l6, l7] st h Q := jg_ifN rfl rfl
theorem s96_44 : jx_Go jxP d 96 44 [l0, l1, l2, l3, l4, l5, l6, .ref a] st h Q ↔ jx_Go jxP d 96 46 [l0, l1, l2, l3, l4, l5, l6, .ref a] (.ref a :: st) h Q := jg_al rfl rfl
theorem s96_46 : jx_Go jxP (d + 1) 96 46 [l0, l1, l2, l3, l4, l5, l6, l7] (.ref a :: st) h Q ↔ (st.length ≤ 4 ∧ jx_cl h a = some 8 ∧ jx_Go jxP d 56 0 [.ref a] [] h (fun s1 h1 => jx_Go jxP (d + 1) 96 49 [l0, l1, l2, l3, l4, l5, l6, l7] (s1 ++ st) h1 Q)) := jg_callV (as := [.ref a]) rfl rfl rfl rfl rfl
theorem s96_49 : jx_Go jxP d 96 49 [l0, l1, l2, l3, l4, l5, l6, l7] (.int x :: st) h Q ↔ if x = 0 then jx_Go jxP d 96 59 [l0, l1, l2, l3, l4, l5, l6, l7] st h Q else jx_Go jxP d 96 52 [l0, l1, l2, l3, l4, l5, l6, l7] st h Q := jg_ifP rfl rfl
theorem s96_52 : jx_Go jxP d 96 52 [.ref a, l1, l2, l3, l4, l5, l6, l7] st h Q ↔ jx_Go jxP d 96 53 [.ref a, l1, l2, l3, l4, l5, l6, l7] (.ref a :: st) h Q := jg_al rfl rfl
theorem s96_53 : jx_Go jxP d 96 53 [l0, l1, l2, l3, l4, l5, l6, l7] st h Q ↔ jx_Go jxP d 96 55 [l0, l1, l2, l3, l4, l5, l6, l7] (.int (-2) :: st) h Q := jg_c rfl
theorem s96_55 : jx_Go jxP (d + 1) 96 55 [l0, l1, l2, l3, l4, l5, l6, l7] (.int x0 :: .ref a :: st) h Q ↔ (st.length ≤ 4 ∧ jx_cl h a = some 11 ∧ jx_Go jxP d 120 0 [.ref a, .int x0] [] h (fun s1 h1 => jx_Go jxP (d + 1) 96 58 [l0, l1, l2, l3, l4, l5, l6, l7] (s1 ++ st) h1 Q)) := jg_callV (as := [.int x0, .ref a]) rfl rfl rfl rfl rfl
theorem s96_58 : jx_Go jxP d 96 58 [l0, l1, l2, l3, l4, l5, l6, l7] [.int x] h Q ↔ Q [.int x] h := jx_rt rfl rfl
theorem s96_59 : jx_Go jxP d 96 59 [l0, l1, l2, l3, l4, l5, .ref a, l7] st h Q ↔ jx_Go jxP d 96 61 [l0, l1, l2, l3, l4, l5, .ref a, l7] (.ref a :: st) h Q := jg_al rfl rfl
theorem s96_61 : jx_Go jxP d 96 61 [l0, l1, l2, l3, l4, l5, l6, l7] (.ref a :: st) h Q ↔ ∃ v, jx_fl h a 8 0 = some v ∧ jx_Go jxP d 96 64 [l0, l1, l2, l3, l4, l5, l6, l7] (v :: st) h Q := jg_gf rfl
theorem s96_64 : jx_Go jxP d 96 64 [l0, l1, l2, l3, l4, l5, l6, .ref a] st h Q ↔ jx_Go jxP d 96 66 [l0, l1, l2, l3, l4, l5, l6, .ref a] (.ref a :: st) h Q := jg_al rfl rfl
theorem s96_66 : jx_Go jxP d 96 66 [l0, l1, l2, l3, l4, l5, l6, l7] (.ref a :: st) h Q ↔ ∃ v, jx_fl h a 8 0 = some v ∧ jx_Go jxP d 96 69 [l0, l1, l2, l3, l4, l5, l6, l7] (v :: st) h Q := jg_gf rfl
theorem s96_69 : jx_Go jxP d 96 69 [l0, l1, l2, l3, l4, l5, l6, l7] (.int y :: .int x :: st) h Q ↔ if x = y then jx_Go jxP d 96 79 [l0, l1, l2, l3, l4, l5, l6, l7] st h Q else jx_Go jxP d 96 72 [l0, l1, l2, l3, l4, l5, l6, l7] st h Q := jg_icP rfl rfl
theorem s96_72 : jx_Go jxP d 96 72 [.ref a, l1, l2, l3, l4, l5, l6, l7] st h Q ↔ jx_Go jxP d 96 73 [.ref a, l1, l2, l3, l4, l5, l6, l7] (.ref a :: st) h Q := jg_al rfl rfl
theorem s96_73 : jx_Go jxP d 96 73 [l0, l1, l2, l3, l4, l5, l6, l7] st h Q ↔ jx_Go jxP d 96 75 [l0, l1, l2, l3, l4, l5, l6, l7] (.int (-4) :: st) h Q := jg_c rfl
theorem s96_75 : jx_Go jxP (d + 1) 96 75 [l0, l1, l2, l3, l4, l5, l6, l7] (.int x0 :: .ref a :: st) h Q ↔ (st.length ≤ 4 ∧ jx_cl h a = some 11 ∧ jx_Go jxP d 120 0 [.ref a, .int x0] [] h (fun s1 h1 => jx_Go jxP (d + 1) 96 78 [l0, l1, l2, l3, l4, l5, l6, l7] (s1 ++ st) h1 Q)) := jg_callV (as := [.int x0, .ref a]) rfl rfl rfl rfl rfl
theorem s96_78 : jx_Go jxP d 96 78 [l0, l1, l2, l3, l4, l5, l6, l7] [.int x] h Q ↔ Q [.int x] h := jx_rt rfl rfl
theorem s96_79 : jx_Go jxP d 96 79 [l0, l1, l2, l3, l4, l5, .ref a, l7] st h Q ↔ jx_Go jxP d 96 81 [l0, l1, l2, l3, l4, l5, .ref a, l7] (.ref a :: st) h Q := jg_al rfl rfl
theorem s96_81 : jx_Go jxP d 96 81 [l0, l1, .int x, l3, l4, l5, l6, l7] st h Q ↔ jx_Go jxP d 96 82 [l0, l1, .int x, l3, l4, l5, l6, l7] (.int x :: st) h Q := jg_il rfl rfl
theorem s96_82 : jx_Go jxP d 96 82 [l0, l1, l2, l3, l4, .int x, l6, l7] st h Q ↔ jx_Go jxP d 96 84 [l0, l1, l2, l3, l4, .int x, l6, l7] (.int x :: st) h Q := jg_il rfl rfl
theorem s96_84 : jx_Go jxP (d + 1) 96 84 [l0, l1, l2, l3, l4, l5, l6, l7] (.int x1 :: .int x0 :: .ref a :: st) h Q ↔ (st.length ≤ 4 ∧ jx_cl h a = some 8 ∧ jx_Go jxP d 59 0 [.ref a, .int x0, .int x1] [] h (fun s1 h1 => jx_Go jxP (d + 1) 96 87 [l0, l1, l2, l3, l4, l5, l6, l7] (s1 ++ st) h1 Q)) := jg_callV (as := [.int x1, .int x0, .ref a]) rfl rfl rfl rfl rfl
theorem s96_87 : jx_Go jxP d 96 87 [l0, l1, l2, l3, l4, l5, l6, l7] (.int x :: st) h Q ↔ if x = 0 then jx_Go jxP d 96 102 [l0, l1, l2, l3, l4, l5, l6, l7] st h Q else jx_Go jxP d 96 90 [l0, l1, l2, l3, l4, l5, l6, l7] st h Q := jg_ifP rfl rfl
theorem s96_90 : jx_Go jxP d 96 90 [l0, l1, l2, l3, l4, l5, l6, .ref a] st h Q ↔ jx_Go jxP d 96 92 [l0, l1, l2, l3, l4, l5, l6, .ref a] (.ref a :: st) h Q := jg_al rfl rfl
theorem s96_92 : jx_Go jxP d 96 92 [l0, l1, l2, l3, .int x, l5, l6, l7] st h Q ↔ jx_Go jxP d 96 94 [l0, l1, l2, l3, .int x, l5, l6, l7] (.int x :: st) h Q := jg_il rfl rfl
theorem s96_94 : jx_Go jxP d 96 94 [l0, l1, l2, l3, l4, .int x, l6, l7] st h Q ↔ jx_Go jxP d 96 96 [l0, l1, l2, l3, l4, .int x, l6, l7] (.int x :: st) h Q := jg_il rfl rfl
theorem s96_96 : jx_Go jxP (d + 1) 96 96 [l0, l1, l2, l3, l4, l5, l6, l7] (.int x1 :: .int x0 :: .ref a :: st) h Q ↔ (st.length ≤ 4 ∧ jx_cl h a = some 8 ∧ jx_Go jxP d 59 0 [.ref a, .int x0, .int x1] [] h (fun s1 h1 => jx_Go jxP (d + 1) 96 99 [l0, l1, l2, l3, l4, l5, l6, l7] (s1 ++ st) h1 Q)) := jg_callV (as := [.int x1, .int x0, .ref a]) rfl rfl rfl rfl rfl
theorem s96_99 : jx_Go jxP d 96 99 [l0, l1, l2, l3, l4, l5, l6, l7] (.int x :: st) h Q ↔ if x = 0 then jx_Go jxP d 96 102 [l0, l1, l2, l3, l4, l5, l6, l7] st h Q else jx_Go jxP d 96 108 [l0, l1, l2, l3, l4, l5, l6, l7] st h Q := jg_ifN rfl rfl
theorem s96_102 : jx_Go jxP d 96 102 [.ref a, l1, l2, l3, l4, l5, l6, l7] st h Q ↔ jx_Go jxP d 96 103 [.ref a, l1, l2, l3, l4, l5, l6, l7] (.ref a :: st) h Q := jg_al rfl rfl
theorem s96_103 : jx_Go jxP d 96 103 [l0, l1, l2, l3, l4, l5, l6, l7] st h Q ↔ jx_Go jxP d 96 104 [l0, l1, l2, l3, l4, l5, l6, l7] (.int (-1) :: st) h Q := jg_c rfl
theorem s96_104 : jx_Go jxP (d + 1) 96 104 [l0, l1, l2, l3, l4, l5, l6, l7] (.int x0 :: .ref a :: st) h Q ↔ (st.length ≤ 4 ∧ jx_cl h a = some 11 ∧ jx_Go jxP d 120 0 [.ref a, .int x0] [] h (fun s1 h1 => jx_Go jxP (d + 1) 96 107 [l0, l1, l2, l3, l4, l5, l6, l7] (s1 ++ st) h1 Q)) := jg_callV (as := [.int x0, .ref a]) rfl rfl rfl rfl rfl
theorem s96_107 : jx_Go jxP d 96 107 [l0, l1, l2, l3, l4, l5, l6, l7] [.int x] h Q ↔ Q [.int x] h := jx_rt rfl rfl
theorem s96_108 : jx_Go jxP d 96 108 [l0, l1, l2, l3, l4, l5, .ref a, l7] st h Q ↔ jx_Go jxP d 96 110 [l0, l1, l2, l3, l4, l5, .ref a, l7] (.ref a :: st) h Q := jg_al rfl rfl
theorem s96_110 : jx_Go jxP d 96 110 [l0, l1, l2, l3, l4, l5, l6, l7] (.ref a :: st) h Q ↔ ∃ v, jx_fl h a 8 2 = some v ∧ jx_Go jxP d 96 113 [l0, l1, l2, l3, l4, l5, l6, l7] (v :: st) h Q := jg_gf rfl
theorem s96_113 : jx_Go jxP d 96 113 [l0, l1, .int x, l3, l4, l5, l6, l7] st h Q ↔ jx_Go jxP d 96 114 [l0, l1, .int x, l3, l4, l5, l6, l7] (.int x :: st) h Q := jg_il rfl rfl
theorem s96_114 : jx_Go jxP d 96 114 [l0, l1, l2, l3, l4, l5, l6, .ref a] st h Q ↔ jx_Go jxP d 96 116 [l0, l1, l2, l3, l4, l5, l6, .ref a] (.ref a :: st) h Q := jg_al rfl rfl
theorem s96_116 : jx_Go jxP d 96 116 [l0, l1, l2, l3, l4, l5, l6, l7] (.ref a :: st) h Q ↔ ∃ v, jx_fl h a 8 2 = some v ∧ jx_Go jxP d 96 119 [l0, l1, l2, l3, l4, l5, l6, l7] (v :: st) h Q := jg_gf rfl
theorem s96_119 : jx_Go jxP d 96 119 [l0, l1, l2, l3, .int x, l5, l6, l7] st h Q ↔ jx_Go jxP d 96 121 [l0, l1, l2, l3, .int x, l5, l6, l7] (.int x :: st) h Q := jg_il rfl rfl
theorem s96_121 : jx_Go jxP d 96 121 [l0, l1, l2, l3, l4, .int x, l6, l7] st h Q ↔ jx_Go jxP d 96 123 [l0, l1, l2, l3, l4, .int x, l6, l7] (.int x :: st) h Q := jg_il rfl rfl
theorem s96_123 : jx_Go jxP d 96 123 [l0, l1, l2, l3, l4, l5, l6, l7] (.int z :: .int y :: .ref b :: .int x :: .ref a :: st) h Q ↔ ∃ q, jx_ai h a = some q ∧ ∃ q', jx_ai h b = some q' ∧ (st.length ≤ 4 ∧ ¬ x < 0 ∧ ¬ y < 0 ∧ ¬ z < 0 ∧ x.toNatClampNeg + z.toNatClampNeg ≤ q.1 ∧ y.toNatClampNeg + z.toNatClampNeg ≤ q'.1) ∧ jx_Go jxP d 96 126 [l0, l1, l2, l3, l4, l5, l6, l7] st (jx_wi h b q'.1 (va_cpy q.2 q'.2 x.toNatClampNeg y.toNatClampNeg z.toNatClampNeg)) Q := jg_cp rfl
theorem s96_126 : jx_Go jxP d 96 126 [l0, l1, l2, l3, l4, .int x, l6, l7] st h Q ↔ jx_Go jxP d 96 128 [l0, l1, l2, l3, l4, .int x, l6, l7] (.int x :: st) h Q := jg_il rfl rfl
theorem s96_128 : jx_Go jxP d 96 128 [l0, l1, l2, l3, l4, l5, l6, l7] [.int x] h Q ↔ Q [.int x] h := jx_rt rfl rfl
-- 97 TalkBench.lay
theorem s97_0 : jx_Go jxP d 97 0 [l0, .int x, l2] st h Q ↔ jx_Go jxP d 97 1 [l0, .int x, l2] (.int x :: st) h Q := jg_il rfl rfl
theorem s97_1 : jx_Go jxP (d + 1) 97 1 [l0, l1, l2] (.int x0 :: st) h Q ↔ (st.length ≤ 4 ∧ jx_Go jxP d 122 0 [.int x0] [] h (fun s1 h1 => jx_Go jxP (d + 1) 97 4 [l0, l1, l2] (s1 ++ st) h1 Q)) := jg_callS (as := [.int x0]) rfl rfl rfl rfl
theorem s97_4 : jx_Go jxP d 97 4 [l0, l1, l2] (.int x :: st) h Q ↔ if x = 0 then jx_Go jxP d 97 13 [l0, l1, l2] st h Q else jx_Go jxP d 97 7 [l0, l1, l2] st h Q := jg_ifP rfl rfl
theorem s97_7 : jx_Go jxP d 97 7 [.ref a, l1, l2] st h Q ↔ jx_Go jxP d 97 8 [.ref a, l1, l2] (.ref a :: st) h Q := jg_al rfl rfl
theorem s97_8 : jx_Go jxP d 97 8 [l0, l1, l2] st h Q ↔ jx_Go jxP d 97 9 [l0, l1, l2] (.int (-1) :: st) h Q := jg_c rfl
theorem s97_9 : jx_Go jxP (d + 1) 97 9 [l0, l1, l2] (.int x0 :: .ref a :: st) h Q ↔ (st.length ≤ 4 ∧ jx_cl h a = some 11 ∧ jx_Go jxP d 120 0 [.ref a, .int x0] [] h (fun s1 h1 => jx_Go jxP (d + 1) 97 12 [l0, l1, l2] (s1 ++ st) h1 Q)) := jg_callV (as := [.int x0, .ref a]) rfl rfl rfl rfl rfl
theorem s97_12 : jx_Go jxP d 97 12 [l0, l1, l2] [.int x] h Q ↔ Q [.int x] h := jx_rt rfl rfl
theorem s97_13 : jx_Go jxP d 97 13 [.ref a, l1, l2] st h Q ↔ jx_Go jxP d 97 14 [.ref a, l1, l2] (.ref a :: st) h Q := jg_al rfl rfl
theorem s97_14 : jx_Go jxP d 97 14 [l0, l1, l2] (.ref a :: st) h Q ↔ ∃ v, jx_fl h a 11 2 = some v ∧ jx_Go jxP d 97 17 [l0, l1, l2] (v :: st) h Q := jg_gf rfl
theorem s97_17 : jx_Go jxP d 97 17 [l0, .int x, l2] st h Q ↔ jx_Go jxP d 97 18 [l0, .int x, l2] (.int x :: st) h Q := jg_il rfl rfl
theorem s97_18 : jx_Go jxP d 97 18 [l0, l1, l2] (.int x :: .ref a :: st) h Q ↔ ∃ q, jx_ar h a 3 = some q ∧ jx_in x q.1 ∧ jx_Go jxP d 97 19 [l0, l1, l2] (jx_rv (q.2 x.toNatClampNeg) :: st) h Q := jg_ra rfl
theorem s97_19 : jx_Go jxP d 97 19 [l0, l1, l2] (.ref a :: st) h Q ↔ jx_Go jxP d 97 20 [l0, l1, .ref a] st h Q := jg_as rfl rfl
theorem s97_20 : jx_Go jxP d 97 20 [l0, l1, .ref a] st h Q ↔ jx_Go jxP d 97 21 [l0, l1, .ref a] (.ref a :: st) h Q := jg_al rfl rfl
theorem s97_21 : jx_Go jxP (d + 1) 97 21 [l0, l1, l2] (.ref a :: st) h Q ↔ (st.length ≤ 4 ∧ jx_cl h a = some 8 ∧ jx_Go jxP d 56 0 [.ref a] [] h (fun s1 h1 => jx_Go jxP (d + 1) 97 24 [l0, l1, l2] (s1 ++ st) h1 Q)) := jg_callV (as := [.ref a]) rfl rfl rfl rfl rfl
theorem s97_24 : jx_Go jxP d 97 24 [l0, l1, l2] (.int x :: st) h Q ↔ if x = 0 then jx_Go jxP d 97 34 [l0, l1, l2] st h Q else jx_Go jxP d 97 27 [l0, l1, l2] st h Q := jg_ifP rfl rfl
theorem s97_27 : jx_Go jxP d 97 27 [.ref a, l1, l2] st h Q ↔ jx_Go jxP d 97 28 [.ref a, l1, l2] (.ref a :: st) h Q := jg_al rfl rfl
theorem s97_28 : jx_Go jxP d 97 28 [l0, l1, l2] st h Q ↔ jx_Go jxP d 97 30 [l0, l1, l2] (.int (-2) :: st) h Q := jg_c rfl
theorem s97_30 : jx_Go jxP (d + 1) 97 30 [l0, l1, l2] (.int x0 :: .ref a :: st) h Q ↔ (st.length ≤ 4 ∧ jx_cl h a = some 11 ∧ jx_Go jxP d 120 0 [.ref a, .int x0] [] h (fun s1 h1 => jx_Go jxP (d + 1) 97 33 [l0, l1, l2] (s1 ++ st) h1 Q)) := jg_callV (as := [.int x0, .ref a]) rfl rfl rfl rfl rfl
theorem s97_33 : jx_Go jxP d 97 33 [l0, l1, l2] [.int x] h Q ↔ Q [.int x] h := jx_rt rfl rfl
theorem s97_34 : jx_Go jxP d 97 34 [l0, l1, .ref a] st h Q ↔ jx_Go jxP d 97 35 [l0, l1, .ref a] (.ref a :: st) h Q := jg_al rfl rfl
theorem s97_35 : jx_Go jxP d 97 35 [l0, l1, l2] (.ref a :: st) h Q ↔ ∃ v, jx_fl h a 8 1 = some v ∧ jx_Go jxP d 97 38 [l0, l1, l2] (v :: st) h Q := jg_gf rfl
theorem s97_38 : jx_Go jxP d 97 38 [.ref a, l1, l2] st h Q ↔ jx_Go jxP d 97 39 [.ref a, l1, l2] (.ref a :: st) h Q := jg_al rfl rfl
theorem s97_39 : jx_Go jxP d 97 39 [l0, l1, l2] (.ref a :: st) h Q ↔ ∃ v, jx_fl h a 11 0 = some v ∧ jx_Go jxP d 97 42 [l0, l1, l2] (v :: st) h Q := jg_gf rfl
theorem s97_42 : jx_Go jxP (d + 1) 97 42 [l0, l1, l2] (.ref a :: st) h Q ↔ (st.length ≤ 4 ∧ jx_cl h a = some 10 ∧ jx_Go jxP d 68 0 [.ref a] [] h (fun s1 h1 => jx_Go jxP (d + 1) 97 45 [l0, l1, l2] (s1 ++ st) h1 Q)) := jg_callV (as := [.ref a]) rfl rfl rfl rfl rfl
theorem s97_45 : jx_Go jxP d 97 45 [l0, l1, l2] (.int y :: .int x :: st) h Q ↔ if x ≤ y then jx_Go jxP d 97 55 [l0, l1, l2] st h Q else jx_Go jxP d 97 48 [l0, l1, l2] st h Q := jg_icP rfl rfl
theorem s97_48 : jx_Go jxP d 97 48 [.ref a, l1, l2] st h Q ↔ jx_Go jxP d 97 49 [.ref a, l1, l2] (.ref a :: st) h Q := jg_al rfl rfl
theorem s97_49 : jx_Go jxP d 97 49 [l0, l1, l2] st h Q ↔ jx_Go jxP d 97 51 [l0, l1, l2] (.int (-3) :: st) h Q := jg_c rfl
theorem s97_51 : jx_Go jxP (d + 1) 97 51 [l0, l1, l2] (.int x0 :: .ref a :: st) h Q ↔ (st.length ≤ 4 ∧ jx_cl h a = some 11 ∧ jx_Go jxP d 120 0 [.ref a, .int x0] [] h (fun s1 h1 => jx_Go jxP (d + 1) 97 54 [l0, l1, l2] (s1 ++ st) h1 Q)) := jg_callV (as := [.int x0, .ref a]) rfl rfl rfl rfl rfl
theorem s97_54 : jx_Go jxP d 97 54 [l0, l1, l2] [.int x] h Q ↔ Q [.int x] h := jx_rt rfl rfl
theorem s97_55 : jx_Go jxP d 97 55 [l0, l1, .ref a] st h Q ↔ jx_Go jxP d 97 56 [l0, l1, .ref a] (.ref a :: st) h Q := jg_al rfl rfl
theorem s97_56 : jx_Go jxP (d + 1) 97 56 [l0, l1, l2] (.ref a :: st) h Q ↔ (st.length ≤ 4 ∧ jx_cl h a = some 8 ∧ jx_Go jxP d 60 0 [.ref a, jx_u] [] h (fun s1 h1 => jx_Go jxP (d + 1) 97 59 [l0, l1, l2] (s1 ++ st) h1 Q)) := jg_callV (as := [.ref a]) rfl rfl rfl rfl rfl
theorem s97_59 : jx_Go jxP d 97 59 [l0, l1, l2] (.int x :: st) h Q ↔ if x = 0 then jx_Go jxP d 97 62 [l0, l1, l2] st h Q else jx_Go jxP d 97 68 [l0, l1, l2] st h Q := jg_ifN rfl rfl
theorem s97_62 : jx_Go jxP d 97 62 [.ref a, l1, l2] st h Q ↔ jx_Go jxP d 97 63 [.ref a, l1, l2] (.ref a :: st) h Q := jg_al rfl rfl
theorem s97_63 : jx_Go jxP d 97 63 [l0, l1, l2] st h Q ↔ jx_Go jxP d 97 64 [l0, l1, l2] (.int (-1) :: st) h Q := jg_c rfl
theorem s97_64 : jx_Go jxP (d + 1) 97 64 [l0, l1, l2] (.int x0 :: .ref a :: st) h Q ↔ (st.length ≤ 4 ∧ jx_cl h a = some 11 ∧ jx_Go jxP d 120 0 [.ref a, .int x0] [] h (fun s1 h1 => jx_Go jxP (d + 1) 97 67 [l0, l1, l2] (s1 ++ st) h1 Q)) := jg_callV (as := [.int x0, .ref a]) rfl rfl rfl rfl rfl
theorem s97_67 : jx_Go jxP d 97 67 [l0, l1, l2] [.int x] h Q ↔ Q [.int x] h := jx_rt rfl rfl
theorem s97_68 : jx_Go jxP d 97 68 [.ref a, l1, l2] st h Q ↔ jx_Go jxP d 97 69 [.ref a, l1, l2] (.ref a :: st) h Q := jg_al rfl rfl
theorem s97_69 : jx_Go jxP d 97 69 [l0, l1, l2] (.ref a :: st) h Q ↔ ∃ v, jx_fl h a 11 3 = some v ∧ jx_Go jxP d 97 72 [l0, l1, l2] (v :: st) h Q := jg_gf rfl
theorem s97_72 : jx_Go jxP d 97 72 [.ref a, l1, l2] st h Q ↔ jx_Go jxP d 97 73 [.ref a, l1, l2] (.ref a :: st) h Q := jg_al rfl rfl
theorem s97_73 : jx_Go jxP d 97 73 [l0, l1, l2] (.ref a :: st) h Q ↔ ∃ v, jx_fl h a 11 0 = some v ∧ jx_Go jxP d 97 76 [l0, l1, l2] (v :: st) h Q := jg_gf rfl
theorem s97_76 : jx_Go jxP (d + 1) 97 76 [l0, l1, l2] (.ref a0 :: .ref a :: st) h Q ↔ (st.length ≤ 4 ∧ jx_cl h a = some 1 ∧ jx_Go jxP d 12 0 [.ref a, .ref a0] [] h (fun s1 h1 => jx_Go jxP (d + 1) 97 79 [l0, l1, l2] (s1 ++ st) h1 Q)) := jg_callV (as := [.ref a0, .ref a]) rfl rfl rfl rfl rfl
theorem s97_79 : jx_Go jxP d 97 79 [.ref a, l1, l2] st h Q ↔ jx_Go jxP d 97 80 [.ref a, l1, l2] (.ref a :: st) h Q := jg_al rfl rfl
theorem s97_80 : jx_Go jxP d 97 80 [l0, l1, l2] (.ref a :: st) h Q ↔ ∃ v, jx_fl h a 11 0 = some v ∧ jx_Go jxP d 97 83 [l0, l1, l2] (v :: st) h Q := jg_gf rfl
theorem s97_83 : jx_Go jxP d 97 83 [l0, l1, .ref a] st h Q ↔ jx_Go jxP d 97 84 [l0, l1, .ref a] (.ref a :: st) h Q := jg_al rfl rfl
theorem s97_84 : jx_Go jxP (d + 1) 97 84 [l0, l1, l2] (.ref a0 :: .ref a :: st) h Q ↔ (st.length ≤ 4 ∧ jx_cl h a = some 10 ∧ jx_Go jxP d 76 0 [.ref a, .ref a0, jx_u, jx_u, jx_u] [] h (fun s1 h1 => jx_Go jxP (d + 1) 97 87 [l0, l1, l2] (s1 ++ st) h1 Q)) := jg_callV (as := [.ref a0, .ref a]) rfl rfl rfl rfl rfl
theorem s97_87 : jx_Go jxP d 97 87 [.ref a, l1, l2] st h Q ↔ jx_Go jxP d 97 88 [.ref a, l1, l2] (.ref a :: st) h Q := jg_al rfl rfl
theorem s97_88 : jx_Go jxP (d + 1) 97 88 [l0, l1, l2] (.ref a :: st) h Q ↔ (st.length ≤ 4 ∧ jx_cl h a = some 11 ∧ jx_Go jxP d 121 0 [.ref a] [] h (fun s1 h1 => jx_Go jxP (d + 1) 97 91 [l0, l1, l2] (s1 ++ st) h1 Q)) := jg_callV (as := [.ref a]) rfl rfl rfl rfl rfl
theorem s97_91 : jx_Go jxP d 97 91 [l0, l1, .ref a] st h Q ↔ jx_Go jxP d 97 92 [l0, l1, .ref a] (.ref a :: st) h Q := jg_al rfl rfl
theorem s97_92 : jx_Go jxP d 97 92 [l0, l1, l2] (.ref a :: st) h Q ↔ ∃ v, jx_fl h a 8 1 = some v ∧ jx_Go jxP d 97 95 [l0, l1, l2] (v :: st) h Q := jg_gf rfl
theorem s97_95 : jx_Go jxP d 97 95 [l0, l1, l2] [.int x] h Q ↔ Q [.int x] h := jx_rt rfl rfl
-- 98 TalkBench.bits
theorem s98_0 : jx_Go jxP d 98 0 [.ref a, l1, l2] st h Q ↔ jx_Go jxP d 98 1 [.ref a, l1, l2] (.ref a :: st) h Q := jg_al rfl rfl
theorem s98_1 : jx_Go jxP d 98 1 [l0, l1, l2] (.ref a :: st) h Q ↔ ∃ v, jx_fl h a 11 4 = some v ∧ jx_Go jxP d 98 4 [l0, l1, l2] (v :: st) h Q := jg_gf rfl
theorem s98_4 : jx_Go jxP d 98 4 [l0, .int x, l2] st h Q ↔ jx_Go jxP d 98 5 [l0, .int x, l2] (.int x :: st) h Q := jg_il rfl rfl
theorem s98_5 : jx_Go jxP d 98 5 [l0, l1, .int x] st h Q ↔ jx_Go jxP d 98 6 [l0, l1, .int x] (.int x :: st) h Q := jg_il rfl rfl
theorem s98_6 : jx_Go jxP (d + 1) 98 6 [l0, l1, l2] (.int x1 :: .int x0 :: .ref a :: st) h Q ↔ (st.length ≤ 4 ∧ jx_cl h a = some 4 ∧ jx_Go jxP d 30 0 [.ref a, .int x0, .int x1] [] h (fun s1 h1 => jx_Go jxP (d + 1) 98 9 [l0, l1, l2] (s1 ++ st) h1 Q)) := jg_callV (as := [.int x1, .int x0, .ref a]) rfl rfl rfl rfl rfl
theorem s98_9 : jx_Go jxP d 98 9 [l0, l1, l2] (.int x :: st) h Q ↔ if x = 0 then jx_Go jxP d 98 12 [l0, l1, l2] st h Q else jx_Go jxP d 98 18 [l0, l1, l2] st h Q := jg_ifN rfl rfl
theorem s98_12 : jx_Go jxP d 98 12 [.ref a, l1, l2] st h Q ↔ jx_Go jxP d 98 13 [.ref a, l1, l2] (.ref a :: st) h Q := jg_al rfl rfl
theorem s98_13 : jx_Go jxP d 98 13 [l0, l1, l2] st h Q ↔ jx_Go jxP d 98 14 [l0, l1, l2] (.int (-1) :: st) h Q := jg_c rfl
theorem s98_14 : jx_Go jxP (d + 1) 98 14 [l0, l1, l2] (.int x0 :: .ref a :: st) h Q ↔ (st.length ≤ 4 ∧ jx_cl h a = some 11 ∧ jx_Go jxP d 120 0 [.ref a, .int x0] [] h (fun s1 h1 => jx_Go jxP (d + 1) 98 17 [l0, l1, l2] (s1 ++ st) h1 Q)) := jg_callV (as := [.int x0, .ref a]) rfl rfl rfl rfl rfl
theorem s98_17 : jx_Go jxP d 98 17 [l0, l1, l2] [.int x] h Q ↔ Q [.int x] h := jx_rt rfl rfl
theorem s98_18 : jx_Go jxP d 98 18 [.ref a, l1, l2] st h Q ↔ jx_Go jxP d 98 19 [.ref a, l1, l2] (.ref a :: st) h Q := jg_al rfl rfl
theorem s98_19 : jx_Go jxP d 98 19 [l0, l1, l2] (.ref a :: st) h Q ↔ ∃ v, jx_fl h a 11 5 = some v ∧ jx_Go jxP d 98 22 [l0, l1, l2] (v :: st) h Q := jg_gf rfl
theorem s98_22 : jx_Go jxP d 98 22 [l0, .int x, l2] st h Q ↔ jx_Go jxP d 98 23 [l0, .int x, l2] (.int x :: st) h Q := jg_il rfl rfl
theorem s98_23 : jx_Go jxP d 98 23 [l0, l1, .int x] st h Q ↔ jx_Go jxP d 98 24 [l0, l1, .int x] (.int x :: st) h Q := jg_il rfl rfl
theorem s98_24 : jx_Go jxP (d + 1) 98 24 [l0, l1, l2] (.int x1 :: .int x0 :: .ref a :: st) h Q ↔ (st.length ≤ 4 ∧ jx_cl h a = some 0 ∧ jx_Go jxP d 2 0 [.ref a, .int x0, .int x1] [] h (fun s1 h1 => jx_Go jxP (d + 1) 98 27 [l0, l1, l2] (s1 ++ st) h1 Q)) := jg_callV (as := [.int x1, .int x0, .ref a]) rfl rfl rfl rfl rfl
theorem s98_27 : jx_Go jxP d 98 27 [l0, l1, l2] [.int x] h Q ↔ Q [.int x] h := jx_rt rfl rfl
-- 99 TalkBench.ends
theorem s99_0 : jx_Go jxP d 99 0 [.ref a, l1, l2] st h Q ↔ jx_Go jxP d 99 1 [.ref a, l1, l2] (.ref a :: st) h Q := jg_al rfl rfl
theorem s99_1 : jx_Go jxP d 99 1 [l0, l1, l2] (.ref a :: st) h Q ↔ ∃ v, jx_fl h a 11 4 = some v ∧ jx_Go jxP d 99 4 [l0, l1, l2] (v :: st) h Q := jg_gf rfl
theorem s99_4 : jx_Go jxP d 99 4 [l0, .int x, l2] st h Q ↔ jx_Go jxP d 99 5 [l0, .int x, l2] (.int x :: st) h Q := jg_il rfl rfl
theorem s99_5 : jx_Go jxP d 99 5 [l0, l1, .int x] st h Q ↔ jx_Go jxP d 99 6 [l0, l1, .int x] (.int x :: st) h Q := jg_il rfl rfl
theorem s99_6 : jx_Go jxP (d + 1) 99 6 [l0, l1, l2] (.int x1 :: .int x0 :: .ref a :: st) h Q ↔ (st.length ≤ 4 ∧ jx_cl h a = some 4 ∧ jx_Go jxP d 30 0 [.ref a, .int x0, .int x1] [] h (fun s1 h1 => jx_Go jxP (d + 1) 99 9 [l0, l1, l2] (s1 ++ st) h1 Q)) := jg_callV (as := [.int x1, .int x0, .ref a]) rfl rfl rfl rfl rfl
theorem s99_9 : jx_Go jxP d 99 9 [l0, l1, l2] (.int x :: st) h Q ↔ if x = 0 then jx_Go jxP d 99 12 [l0, l1, l2] st h Q else jx_Go jxP d 99 18 [l0, l1, l2] st h Q := jg_ifN rfl rfl
theorem s99_12 : jx_Go jxP d 99 12 [.ref a, l1, l2] st h Q ↔ jx_Go jxP d 99 13 [.ref a, l1, l2] (.ref a :: st) h Q := jg_al rfl rfl
theorem s99_13 : jx_Go jxP d 99 13 [l0, l1, l2] st h Q ↔ jx_Go jxP d 99 14 [l0, l1, l2] (.int (-1) :: st) h Q := jg_c rfl
theorem s99_14 : jx_Go jxP (d + 1) 99 14 [l0, l1, l2] (.int x0 :: .ref a :: st) h Q ↔ (st.length ≤ 4 ∧ jx_cl h a = some 11 ∧ jx_Go jxP d 120 0 [.ref a, .int x0] [] h (fun s1 h1 => jx_Go jxP (d + 1) 99 17 [l0, l1, l2] (s1 ++ st) h1 Q)) := jg_callV (as := [.int x0, .ref a]) rfl rfl rfl rfl rfl
theorem s99_17 : jx_Go jxP d 99 17 [l0, l1, l2] [.int x] h Q ↔ Q [.int x] h := jx_rt rfl rfl
theorem s99_18 : jx_Go jxP d 99 18 [.ref a, l1, l2] st h Q ↔ jx_Go jxP d 99 19 [.ref a, l1, l2] (.ref a :: st) h Q := jg_al rfl rfl
theorem s99_19 : jx_Go jxP d 99 19 [l0, l1, l2] (.ref a :: st) h Q ↔ ∃ v, jx_fl h a 11 5 = some v ∧ jx_Go jxP d 99 22 [l0, l1, l2] (v :: st) h Q := jg_gf rfl
theorem s99_22 : jx_Go jxP d 99 22 [l0, .int x, l2] st h Q ↔ jx_Go jxP d 99 23 [l0, .int x, l2] (.int x :: st) h Q := jg_il rfl rfl
theorem s99_23 : jx_Go jxP d 99 23 [l0, l1, .int x] st h Q ↔ jx_Go jxP d 99 24 [l0, l1, .int x] (.int x :: st) h Q := jg_il rfl rfl
theorem s99_24 : jx_Go jxP (d + 1) 99 24 [l0, l1, l2] (.int x1 :: .int x0 :: .ref a :: st) h Q ↔ (st.length ≤ 4 ∧ jx_cl h a = some 0 ∧ jx_Go jxP d 3 0 [.ref a, .int x0, .int x1] [] h (fun s1 h1 => jx_Go jxP (d + 1) 99 27 [l0, l1, l2] (s1 ++ st) h1 Q)) := jg_callV (as := [.int x1, .int x0, .ref a]) rfl rfl rfl rfl rfl
theorem s99_27 : jx_Go jxP d 99 27 [l0, l1, l2] [.int x] h Q ↔ Q [.int x] h := jx_rt rfl rfl
-- 100 TalkBench.talk
theorem s100_0 : jx_Go jxP d 100 0 [.ref a] st h Q ↔ jx_Go jxP d 100 1 [.ref a] (.ref a :: st) h Q := jg_al rfl rfl
theorem s100_1 : jx_Go jxP d 100 1 [l0] (.ref a :: st) h Q ↔ ∃ v, jx_fl h a 11 7 = some v ∧ jx_Go jxP d 100 4 [l0] (v :: st) h Q := jg_gf rfl
theorem s100_4 : jx_Go jxP (d + 1) 100 4 [l0] (.ref a :: st) h Q ↔ (st.length ≤ 4 ∧ jx_cl h a = some 9 ∧ jx_Go jxP d 63 0 [.ref a] [] h (fun s1 h1 => jx_Go jxP (d + 1) 100 7 [l0] (s1 ++ st) h1 Q)) := jg_callV (as := [.ref a]) rfl rfl rfl rfl rfl
theorem s100_7 : jx_Go jxP d 100 7 [.ref a] st h Q ↔ jx_Go jxP d 100 8 [.ref a] (.ref a :: st) h Q := jg_al rfl rfl
theorem s100_8 : jx_Go jxP d 100 8 [l0] (.ref a :: st) h Q ↔ ∃ v, jx_fl h a 11 7 = some v ∧ jx_Go jxP d 100 11 [l0] (v :: st) h Q := jg_gf rfl
theorem s100_11 : jx_Go jxP d 100 11 [l0] (.ref a :: st) h Q ↔ ∃ v, jx_fl h a 9 8 = some v ∧ jx_Go jxP d 100 14 [l0] (v :: st) h Q := jg_gf rfl
theorem s100_14 : jx_Go jxP d 100 14 [l0] [.int x] h Q ↔ Q [.int x] h := jx_rt rfl rfl
-- 101 TalkBench.knot
theorem s101_0 : jx_Go jxP d 101 0 [.ref a, l1, l2] st h Q ↔ jx_Go jxP d 101 1 [.ref a, l1, l2] (.ref a :: st) h Q := jg_al rfl rfl
theorem s101_1 : jx_Go jxP d 101 1 [l0, l1, l2] (.ref a :: st) h Q ↔ ∃ v, jx_fl h a 11 7 = some v ∧ jx_Go jxP d 101 4 [l0, l1, l2] (v :: st) h Q := jg_gf rfl
theorem s101_4 : jx_Go jxP d 101 4 [l0, l1, l2] (.ref a :: st) h Q ↔ ∃ v, jx_fl h a 9 8 = some v ∧ jx_Go jxP d 101 7 [l0, l1, l2] (v :: st) h Q := jg_gf rfl
theorem s101_7 : jx_Go jxP d 101 7 [l0, l1, l2] (.int x :: st) h Q ↔ if x = 0 then jx_Go jxP d 101 10 [l0, l1, l2] st h Q else jx_Go jxP d 101 17 [l0, l1, l2] st h Q := jg_ifN rfl rfl
theorem s101_10 : jx_Go jxP d 101 10 [.ref a, l1, l2] st h Q ↔ jx_Go jxP d 101 11 [.ref a, l1, l2] (.ref a :: st) h Q := jg_al rfl rfl
theorem s101_11 : jx_Go jxP d 101 11 [l0, l1, l2] st h Q ↔ jx_Go jxP d 101 13 [l0, l1, l2] (.int (-6) :: st) h Q := jg_c rfl
theorem s101_13 : jx_Go jxP (d + 1) 101 13 [l0, l1, l2] (.int x0 :: .ref a :: st) h Q ↔ (st.length ≤ 4 ∧ jx_cl h a = some 11 ∧ jx_Go jxP d 120 0 [.ref a, .int x0] [] h (fun s1 h1 => jx_Go jxP (d + 1) 101 16 [l0, l1, l2] (s1 ++ st) h1 Q)) := jg_callV (as := [.int x0, .ref a]) rfl rfl rfl rfl rfl
theorem s101_16 : jx_Go jxP d 101 16 [l0, l1, l2] [.int x] h Q ↔ Q [.int x] h := jx_rt rfl rfl
theorem s101_17 : jx_Go jxP d 101 17 [l0, .int x, l2] st h Q ↔ jx_Go jxP d 101 18 [l0, .int x, l2] (.int x :: st) h Q := jg_il rfl rfl
theorem s101_18 : jx_Go jxP d 101 18 [l0, l1, l2] (.int x :: st) h Q ↔ if x < 0 then jx_Go jxP d 101 41 [l0, l1, l2] st h Q else jx_Go jxP d 101 21 [l0, l1, l2] st h Q := jg_ifP rfl rfl
theorem s101_21 : jx_Go jxP d 101 21 [l0, .int x, l2] st h Q ↔ jx_Go jxP d 101 22 [l0, .int x, l2] (.int x :: st) h Q := jg_il rfl rfl
theorem s101_22 : jx_Go jxP d 101 22 [.ref a, l1, l2] st h Q ↔ jx_Go jxP d 101 23 [.ref a, l1, l2] (.ref a :: st) h Q := jg_al rfl rfl
theorem s101_23 : jx_Go jxP d 101 23 [l0, l1, l2] (.ref a :: st) h Q ↔ ∃ v, jx_fl h a 11 7 = some v ∧ jx_Go jxP d 101 26 [l0, l1, l2] (v :: st) h Q := jg_gf rfl
theorem s101_26 : jx_Go jxP d 101 26 [l0, l1, l2] (.ref a :: st) h Q ↔ ∃ v, jx_fl h a 9 8 = some v ∧ jx_Go jxP d 101 29 [l0, l1, l2] (v :: st) h Q := jg_gf rfl
theorem s101_29 : jx_Go jxP d 101 29 [l0, l1, l2] (.int y :: .int x :: st) h Q ↔ if y ≤ x then jx_Go jxP d 101 41 [l0, l1, l2] st h Q else jx_Go jxP d 101 32 [l0, l1, l2] st h Q := jg_icP rfl rfl
theorem s101_32 : jx_Go jxP d 101 32 [l0, l1, .int x] st h Q ↔ jx_Go jxP d 101 33 [l0, l1, .int x] (.int x :: st) h Q := jg_il rfl rfl
theorem s101_33 : jx_Go jxP d 101 33 [l0, l1, l2] (.int x :: st) h Q ↔ if x < 0 then jx_Go jxP d 101 41 [l0, l1, l2] st h Q else jx_Go jxP d 101 36 [l0, l1, l2] st h Q := jg_ifP rfl rfl
theorem s101_36 : jx_Go jxP d 101 36 [l0, l1, .int x] st h Q ↔ jx_Go jxP d 101 37 [l0, l1, .int x] (.int x :: st) h Q := jg_il rfl rfl
theorem s101_37 : jx_Go jxP d 101 37 [l0, l1, l2] st h Q ↔ jx_Go jxP d 101 38 [l0, l1, l2] (.int (nI 5) :: st) h Q := jg_c rfl
theorem s101_38 : jx_Go jxP d 101 38 [l0, l1, l2] (.int y :: .int x :: st) h Q ↔ if x ≤ y then jx_Go jxP d 101 47 [l0, l1, l2] st h Q else jx_Go jxP d 101 41 [l0, l1, l2] st h Q := jg_icP rfl rfl
theorem s101_41 : jx_Go jxP d 101 41 [.ref a, l1, l2] st h Q ↔ jx_Go jxP d 101 42 [.ref a, l1, l2] (.ref a :: st) h Q := jg_al rfl rfl
theorem s101_42 : jx_Go jxP d 101 42 [l0, l1, l2] st h Q ↔ jx_Go jxP d 101 43 [l0, l1, l2] (.int (-1) :: st) h Q := jg_c rfl
theorem s101_43 : jx_Go jxP (d + 1) 101 43 [l0, l1, l2] (.int x0 :: .ref a :: st) h Q ↔ (st.length ≤ 4 ∧ jx_cl h a = some 11 ∧ jx_Go jxP d 120 0 [.ref a, .int x0] [] h (fun s1 h1 => jx_Go jxP (d + 1) 101 46 [l0, l1, l2] (s1 ++ st) h1 Q)) := jg_callV (as := [.int x0, .ref a]) rfl rfl rfl rfl rfl
theorem s101_46 : jx_Go jxP d 101 46 [l0, l1, l2] [.int x] h Q ↔ Q [.int x] h := jx_rt rfl rfl
theorem s101_47 : jx_Go jxP d 101 47 [.ref a, l1, l2] st h Q ↔ jx_Go jxP d 101 48 [.ref a, l1, l2] (.ref a :: st) h Q := jg_al rfl rfl
theorem s101_48 : jx_Go jxP d 101 48 [l0, l1, l2] (.ref a :: st) h Q ↔ ∃ v, jx_fl h a 11 7 = some v ∧ jx_Go jxP d 101 51 [l0, l1, l2] (v :: st) h Q := jg_gf rfl
theorem s101_51 : jx_Go jxP d 101 51 [l0, .int x, l2] st h Q ↔ jx_Go jxP d 101 52 [l0, .int x, l2] (.int x :: st) h Q := jg_il rfl rfl
theorem s101_52 : jx_Go jxP d 101 52 [l0, l1, .int x] st h Q ↔ jx_Go jxP d 101 53 [l0, l1, .int x] (.int x :: st) h Q := jg_il rfl rfl
theorem s101_53 : jx_Go jxP (d + 1) 101 53 [l0, l1, l2] (.int x1 :: .int x0 :: .ref a :: st) h Q ↔ (st.length ≤ 4 ∧ jx_cl h a = some 9 ∧ jx_Go jxP d 65 0 [.ref a, .int x0, .int x1] [] h (fun s1 h1 => jx_Go jxP (d + 1) 101 56 [l0, l1, l2] (s1 ++ st) h1 Q)) := jg_callV (as := [.int x1, .int x0, .ref a]) rfl rfl rfl rfl rfl
theorem s101_56 : jx_Go jxP d 101 56 [l0, l1, l2] [.int x] h Q ↔ Q [.int x] h := jx_rt rfl rfl
-- 102 TalkBench.said
theorem s102_0 : jx_Go jxP d 102 0 [.ref a, l1, l2] st h Q ↔ jx_Go jxP d 102 1 [.ref a, l1, l2] (.ref a :: st) h Q := jg_al rfl rfl
theorem s102_1 : jx_Go jxP d 102 1 [l0, l1, l2] (.ref a :: st) h Q ↔ ∃ v, jx_fl h a 11 7 = some v ∧ jx_Go jxP d 102 4 [l0, l1, l2] (v :: st) h Q := jg_gf rfl
theorem s102_4 : jx_Go jxP d 102 4 [l0, l1, l2] (.ref a :: st) h Q ↔ ∃ v, jx_fl h a 9 8 = some v ∧ jx_Go jxP d 102 7 [l0, l1, l2] (v :: st) h Q := jg_gf rfl
theorem s102_7 : jx_Go jxP d 102 7 [l0, l1, l2] (.int x :: st) h Q ↔ if x = 0 then jx_Go jxP d 102 10 [l0, l1, l2] st h Q else jx_Go jxP d 102 17 [l0, l1, l2] st h Q := jg_ifN rfl rfl
theorem s102_10 : jx_Go jxP d 102 10 [.ref a, l1, l2] st h Q ↔ jx_Go jxP d 102 11 [.ref a, l1, l2] (.ref a :: st) h Q := jg_al rfl rfl
theorem s102_11 : jx_Go jxP d 102 11 [l0, l1, l2] st h Q ↔ jx_Go jxP d 102 13 [l0, l1, l2] (.int (-6) :: st) h Q := jg_c rfl
theorem s102_13 : jx_Go jxP (d + 1) 102 13 [l0, l1, l2] (.int x0 :: .ref a :: st) h Q ↔ (st.length ≤ 4 ∧ jx_cl h a = some 11 ∧ jx_Go jxP d 120 0 [.ref a, .int x0] [] h (fun s1 h1 => jx_Go jxP (d + 1) 102 16 [l0, l1, l2] (s1 ++ st) h1 Q)) := jg_callV (as := [.int x0, .ref a]) rfl rfl rfl rfl rfl
theorem s102_16 : jx_Go jxP d 102 16 [l0, l1, l2] [.int x] h Q ↔ Q [.int x] h := jx_rt rfl rfl
theorem s102_17 : jx_Go jxP d 102 17 [.ref a, l1, l2] st h Q ↔ jx_Go jxP d 102 18 [.ref a, l1, l2] (.ref a :: st) h Q := jg_al rfl rfl
theorem s102_18 : jx_Go jxP d 102 18 [l0, l1, l2] (.ref a :: st) h Q ↔ ∃ v, jx_fl h a 11 0 = some v ∧ jx_Go jxP d 102 21 [l0, l1, l2] (v :: st) h Q := jg_gf rfl
theorem s102_21 : jx_Go jxP d 102 21 [l0, .int x, l2] st h Q ↔ jx_Go jxP d 102 22 [l0, .int x, l2] (.int x :: st) h Q := jg_il rfl rfl
theorem s102_22 : jx_Go jxP d 102 22 [l0, l1, .int x] st h Q ↔ jx_Go jxP d 102 23 [l0, l1, .int x] (.int x :: st) h Q := jg_il rfl rfl
theorem s102_23 : jx_Go jxP (d + 1) 102 23 [l0, l1, l2] (.int x1 :: .int x0 :: .ref a :: st) h Q ↔ (st.length ≤ 4 ∧ jx_cl h a = some 10 ∧ jx_Go jxP d 69 0 [.ref a, .int x0, .int x1] [] h (fun s1 h1 => jx_Go jxP (d + 1) 102 26 [l0, l1, l2] (s1 ++ st) h1 Q)) := jg_callV (as := [.int x1, .int x0, .ref a]) rfl rfl rfl rfl rfl
theorem s102_26 : jx_Go jxP d 102 26 [l0, l1, l2] (.int x :: st) h Q ↔ if x = 0 then jx_Go jxP d 102 29 [l0, l1, l2] st h Q else jx_Go jxP d 102 35 [l0, l1, l2] st h Q := jg_ifN rfl rfl
theorem s102_29 : jx_Go jxP d 102 29 [.ref a, l1, l2] st h Q ↔ jx_Go jxP d 102 30 [.ref a, l1, l2] (.ref a :: st) h Q := jg_al rfl rfl
theorem s102_30 : jx_Go jxP d 102 30 [l0, l1, l2] st h Q ↔ jx_Go jxP d 102 31 [l0, l1, l2] (.int (-1) :: st) h Q := jg_c rfl
theorem s102_31 : jx_Go jxP (d + 1) 102 31 [l0, l1, l2] (.int x0 :: .ref a :: st) h Q ↔ (st.length ≤ 4 ∧ jx_cl h a = some 11 ∧ jx_Go jxP d 120 0 [.ref a, .int x0] [] h (fun s1 h1 => jx_Go jxP (d + 1) 102 34 [l0, l1, l2] (s1 ++ st) h1 Q)) := jg_callV (as := [.int x0, .ref a]) rfl rfl rfl rfl rfl
theorem s102_34 : jx_Go jxP d 102 34 [l0, l1, l2] [.int x] h Q ↔ Q [.int x] h := jx_rt rfl rfl
theorem s102_35 : jx_Go jxP d 102 35 [.ref a, l1, l2] st h Q ↔ jx_Go jxP d 102 36 [.ref a, l1, l2] (.ref a :: st) h Q := jg_al rfl rfl
theorem s102_36 : jx_Go jxP d 102 36 [l0, l1, l2] (.ref a :: st) h Q ↔ ∃ v, jx_fl h a 11 7 = some v ∧ jx_Go jxP d 102 39 [l0, l1, l2] (v :: st) h Q := jg_gf rfl
theorem s102_39 : jx_Go jxP d 102 39 [l0, .int x, l2] st h Q ↔ jx_Go jxP d 102 40 [l0, .int x, l2] (.int x :: st) h Q := jg_il rfl rfl
theorem s102_40 : jx_Go jxP d 102 40 [l0, l1, .int x] st h Q ↔ jx_Go jxP d 102 41 [l0, l1, .int x] (.int x :: st) h Q := jg_il rfl rfl
theorem s102_41 : jx_Go jxP (d + 1) 102 41 [l0, l1, l2] (.int x1 :: .int x0 :: .ref a :: st) h Q ↔ (st.length ≤ 4 ∧ jx_cl h a = some 9 ∧ jx_Go jxP d 66 0 [.ref a, .int x0, .int x1, jx_u, jx_u, jx_u, jx_u, jx_u] [] h (fun s1 h1 => jx_Go jxP (d + 1) 102 44 [l0, l1, l2] (s1 ++ st) h1 Q)) := jg_callV (as := [.int x1, .int x0, .ref a]) rfl rfl rfl rfl rfl
theorem s102_44 : jx_Go jxP d 102 44 [l0, l1, l2] [.int x] h Q ↔ Q [.int x] h := jx_rt rfl rfl
-- 103 TalkBench.classes
theorem s103_0 : jx_Go jxP d 103 0 [.ref a, l1] st h Q ↔ jx_Go jxP d 103 1 [.ref a, l1] (.ref a :: st) h Q := jg_al rfl rfl
theorem s103_1 : jx_Go jxP d 103 1 [l0, l1] (.ref a :: st) h Q ↔ ∃ v, jx_fl h a 11 5 = some v ∧ jx_Go jxP d 103 4 [l0, l1] (v :: st) h Q := jg_gf rfl
theorem s103_4 : jx_Go jxP d 103 4 [l0, .int x] st h Q ↔ jx_Go jxP d 103 5 [l0, .int x] (.int x :: st) h Q := jg_il rfl rfl
theorem s103_5 : jx_Go jxP (d + 1) 103 5 [l0, l1] (.int x0 :: .ref a :: st) h Q ↔ (st.length ≤ 4 ∧ jx_cl h a = some 0 ∧ jx_Go jxP d 9 0 [.ref a, .int x0, jx_u, jx_u, jx_u, jx_u, jx_u] [] h (fun s1 h1 => jx_Go jxP (d + 1) 103 8 [l0, l1] (s1 ++ st) h1 Q)) := jg_callV (as := [.int x0, .ref a]) rfl rfl rfl rfl rfl
theorem s103_8 : jx_Go jxP d 103 8 [l0, l1] [.int x] h Q ↔ Q [.int x] h := jx_rt rfl rfl
-- 104 TalkBench.once
theorem s104_0 : jx_Go jxP d 104 0 [.ref a, l1, l2, l3] st h Q ↔ jx_Go jxP d 104 1 [.ref a, l1, l2, l3] (.ref a :: st) h Q := jg_al rfl rfl
theorem s104_1 : jx_Go jxP d 104 1 [l0, l1, l2, l3] (.ref a :: st) h Q ↔ ∃ v, jx_fl h a 11 5 = some v ∧ jx_Go jxP d 104 4 [l0, l1, l2, l3] (v :: st) h Q := jg_gf rfl
theorem s104_4 : jx_Go jxP d 104 4 [l0, .int x, l2, l3] st h Q ↔ jx_Go jxP d 104 5 [l0, .int x, l2, l3] (.int x :: st) h Q := jg_il rfl rfl
theorem s104_5 : jx_Go jxP (d + 1) 104 5 [l0, l1, l2, l3] (.int x0 :: .ref a :: st) h Q ↔ (st.length ≤ 4 ∧ jx_cl h a = some 0 ∧ jx_Go jxP d 9 0 [.ref a, .int x0, jx_u, jx_u, jx_u, jx_u, jx_u] [] h (fun s1 h1 => jx_Go jxP (d + 1) 104 8 [l0, l1, l2, l3] (s1 ++ st) h1 Q)) := jg_callV (as := [.int x0, .ref a]) rfl rfl rfl rfl rfl
theorem s104_8 : jx_Go jxP d 104 8 [l0, l1, l2, l3] (.int x :: st) h Q ↔ jx_Go jxP d 104 9 [l0, l1, .int x, l3] st h Q := jg_is rfl rfl
theorem s104_9 : jx_Go jxP d 104 9 [l0, l1, l2, l3] st h Q ↔ jx_Go jxP d 104 10 [l0, l1, l2, l3] (.int (nI 0) :: st) h Q := jg_c rfl
theorem s104_10 : jx_Go jxP d 104 10 [l0, l1, l2, l3] (.int x :: st) h Q ↔ jx_Go jxP d 104 11 [l0, l1, l2, .int x] st h Q := jg_is rfl rfl
theorem s104_11 : jx_Go jxP d 104 11 [l0, l1, l2, .int x] st h Q ↔ jx_Go jxP d 104 12 [l0, l1, l2, .int x] (.int x :: st) h Q := jg_il rfl rfl
theorem s104_12 : jx_Go jxP d 104 12 [l0, l1, l2, l3] st h Q ↔ jx_Go jxP d 104 13 [l0, l1, l2, l3] (.int (nI 5) :: st) h Q := jg_c rfl
theorem s104_13 : jx_Go jxP d 104 13 [l0, l1, l2, l3] (.int y :: .int x :: st) h Q ↔ if y ≤ x then jx_Go jxP d 104 29 [l0, l1, l2, l3] st h Q else jx_Go jxP d 104 16 [l0, l1, l2, l3] st h Q := jg_icP rfl rfl
theorem s104_16 : jx_Go jxP d 104 16 [l0, l1, l2, l3] st h Q ↔ jx_Go jxP d 104 17 [l0, l1, l2, l3] (.int (nI 1) :: st) h Q := jg_c rfl
theorem s104_17 : jx_Go jxP d 104 17 [l0, l1, l2, .int x] st h Q ↔ jx_Go jxP d 104 18 [l0, l1, l2, .int x] (.int x :: st) h Q := jg_il rfl rfl
theorem s104_18 : jx_Go jxP d 104 18 [l0, l1, l2, l3] (.int y :: .int x :: st) h Q ↔ jx_Go jxP d 104 19 [l0, l1, l2, l3] (.int (x <<< (y &&& 31)) :: st) h Q := jg_b (f := fun x y => x <<< (y &&& 31)) rfl
theorem s104_19 : jx_Go jxP d 104 19 [l0, l1, .int x, l3] st h Q ↔ jx_Go jxP d 104 20 [l0, l1, .int x, l3] (.int x :: st) h Q := jg_il rfl rfl
theorem s104_20 : jx_Go jxP d 104 20 [l0, l1, l2, l3] (.int y :: .int x :: st) h Q ↔ if y ≤ x then jx_Go jxP d 104 29 [l0, l1, l2, l3] st h Q else jx_Go jxP d 104 23 [l0, l1, l2, l3] st h Q := jg_icP rfl rfl
theorem s104_23 : jx_Go jxP d 104 23 [l0, l1, l2, .int x] st h Q ↔ jx_Go jxP d 104 26 [l0, l1, l2, .int (x + (nI 1))] st h Q := jg_inc rfl rfl rfl
theorem s104_26 : jx_Go jxP d 104 26 [l0, l1, l2, l3] st h Q ↔ jx_Go jxP d 104 11 [l0, l1, l2, l3] st h Q := jg_go rfl
theorem s104_29 : jx_Go jxP d 104 29 [l0, l1, l2, .int x] st h Q ↔ jx_Go jxP d 104 30 [l0, l1, l2, .int x] (.int x :: st) h Q := jg_il rfl rfl
theorem s104_30 : jx_Go jxP d 104 30 [l0, l1, l2, l3] [.int x] h Q ↔ Q [.int x] h := jx_rt rfl rfl
-- 105 TalkBench.rank
theorem s105_0 : jx_Go jxP d 105 0 [.ref a, l1] st h Q ↔ jx_Go jxP d 105 1 [.ref a, l1] (.ref a :: st) h Q := jg_al rfl rfl
theorem s105_1 : jx_Go jxP d 105 1 [l0, l1] (.ref a :: st) h Q ↔ ∃ v, jx_fl h a 11 0 = some v ∧ jx_Go jxP d 105 4 [l0, l1] (v :: st) h Q := jg_gf rfl
theorem s105_4 : jx_Go jxP d 105 4 [l0, l1] st h Q ↔ jx_Go jxP d 105 5 [l0, l1] (.int (nI 2) :: st) h Q := jg_c rfl
theorem s105_5 : jx_Go jxP (d + 1) 105 5 [l0, l1] (.int x0 :: .ref a :: st) h Q ↔ (st.length ≤ 4 ∧ jx_cl h a = some 10 ∧ jx_Go jxP d 72 0 [.ref a, .int x0, jx_u, jx_u, jx_u] [] h (fun s1 h1 => jx_Go jxP (d + 1) 105 8 [l0, l1] (s1 ++ st) h1 Q)) := jg_callV (as := [.int x0, .ref a]) rfl rfl rfl rfl rfl
theorem s105_8 : jx_Go jxP d 105 8 [l0, l1] (.int x :: st) h Q ↔ if x ≤ 0 then jx_Go jxP d 105 18 [l0, l1] st h Q else jx_Go jxP d 105 11 [l0, l1] st h Q := jg_ifP rfl rfl
theorem s105_11 : jx_Go jxP d 105 11 [.ref a, l1] st h Q ↔ jx_Go jxP d 105 12 [.ref a, l1] (.ref a :: st) h Q := jg_al rfl rfl
theorem s105_12 : jx_Go jxP d 105 12 [l0, l1] st h Q ↔ jx_Go jxP d 105 14 [l0, l1] (.int (-8) :: st) h Q := jg_c rfl
theorem s105_14 : jx_Go jxP (d + 1) 105 14 [l0, l1] (.int x0 :: .ref a :: st) h Q ↔ (st.length ≤ 4 ∧ jx_cl h a = some 11 ∧ jx_Go jxP d 120 0 [.ref a, .int x0] [] h (fun s1 h1 => jx_Go jxP (d + 1) 105 17 [l0, l1] (s1 ++ st) h1 Q)) := jg_callV (as := [.int x0, .ref a]) rfl rfl rfl rfl rfl
theorem s105_17 : jx_Go jxP d 105 17 [l0, l1] [.int x] h Q ↔ Q [.int x] h := jx_rt rfl rfl
theorem s105_18 : jx_Go jxP d 105 18 [.ref a, l1] st h Q ↔ jx_Go jxP d 105 19 [.ref a, l1] (.ref a :: st) h Q := jg_al rfl rfl
theorem s105_19 : jx_Go jxP d 105 19 [l0, l1] (.ref a :: st) h Q ↔ ∃ v, jx_fl h a 11 0 = some v ∧ jx_Go jxP d 105 22 [l0, l1] (v :: st) h Q := jg_gf rfl
theorem s105_22 : jx_Go jxP d 105 22 [l0, .int x] st h Q ↔ jx_Go jxP d 105 23 [l0, .int x] (.int x :: st) h Q := jg_il rfl rfl
theorem s105_23 : jx_Go jxP (d + 1) 105 23 [l0, l1] (.int x0 :: .ref a :: st) h Q ↔ (st.length ≤ 4 ∧ jx_cl h a = some 10 ∧ jx_Go jxP d 82 0 [.ref a, .int x0, jx_u, jx_u, jx_u, jx_u, jx_u] [] h (fun s1 h1 => jx_Go jxP (d + 1) 105 26 [l0, l1] (s1 ++ st) h1 Q)) := jg_callV (as := [.int x0, .ref a]) rfl rfl rfl rfl rfl
theorem s105_26 : jx_Go jxP d 105 26 [l0, l1] [.int x] h Q ↔ Q [.int x] h := jx_rt rfl rfl
-- 106 TalkBench.fool
theorem s106_0 : jx_Go jxP d 106 0 [l0, .int x] st h Q ↔ jx_Go jxP d 106 1 [l0, .int x] (.int x :: st) h Q := jg_il rfl rfl
theorem s106_1 : jx_Go jxP (d + 1) 106 1 [l0, l1] (.int x0 :: st) h Q ↔ (st.length ≤ 4 ∧ jx_Go jxP d 124 0 [.int x0] [] h (fun s1 h1 => jx_Go jxP (d + 1) 106 4 [l0, l1] (s1 ++ st) h1 Q)) := jg_callS (as := [.int x0]) rfl rfl rfl rfl
theorem s106_4 : jx_Go jxP d 106 4 [l0, l1] (.int x :: st) h Q ↔ if x = 0 then jx_Go jxP d 106 13 [l0, l1] st h Q else jx_Go jxP d 106 7 [l0, l1] st h Q := jg_ifP rfl rfl
theorem s106_7 : jx_Go jxP d 106 7 [.ref a, l1] st h Q ↔ jx_Go jxP d 106 8 [.ref a, l1] (.ref a :: st) h Q := jg_al rfl rfl
theorem s106_8 : jx_Go jxP d 106 8 [l0, l1] st h Q ↔ jx_Go jxP d 106 9 [l0, l1] (.int (-1) :: st) h Q := jg_c rfl
theorem s106_9 : jx_Go jxP (d + 1) 106 9 [l0, l1] (.int x0 :: .ref a :: st) h Q ↔ (st.length ≤ 4 ∧ jx_cl h a = some 11 ∧ jx_Go jxP d 120 0 [.ref a, .int x0] [] h (fun s1 h1 => jx_Go jxP (d + 1) 106 12 [l0, l1] (s1 ++ st) h1 Q)) := jg_callV (as := [.int x0, .ref a]) rfl rfl rfl rfl rfl
theorem s106_12 : jx_Go jxP d 106 12 [l0, l1] [.int x] h Q ↔ Q [.int x] h := jx_rt rfl rfl
theorem s106_13 : jx_Go jxP d 106 13 [.ref a, l1] st h Q ↔ jx_Go jxP d 106 14 [.ref a, l1] (.ref a :: st) h Q := jg_al rfl rfl
theorem s106_14 : jx_Go jxP d 106 14 [l0, l1] (.ref a :: st) h Q ↔ ∃ v, jx_fl h a 11 9 = some v ∧ jx_Go jxP d 106 17 [l0, l1] (v :: st) h Q := jg_gf rfl
theorem s106_17 : jx_Go jxP d 106 17 [l0, .int x] st h Q ↔ jx_Go jxP d 106 18 [l0, .int x] (.int x :: st) h Q := jg_il rfl rfl
theorem s106_18 : jx_Go jxP (d + 1) 106 18 [l0, l1] (.int x0 :: .ref a :: st) h Q ↔ (st.length ≤ 4 ∧ jx_cl h a = some 7 ∧ jx_Go jxP d 45 0 [.ref a, .int x0, jx_u, jx_u] [] h (fun s1 h1 => jx_Go jxP (d + 1) 106 21 [l0, l1] (s1 ++ st) h1 Q)) := jg_callV (as := [.int x0, .ref a]) rfl rfl rfl rfl rfl
theorem s106_21 : jx_Go jxP (d + 1) 106 21 [l0, l1] (.int x0 :: st) h Q ↔ (st.length ≤ 4 ∧ jx_Go jxP d 197 0 [.int x0] [] h (fun s1 h1 => jx_Go jxP (d + 1) 106 24 [l0, l1] (s1 ++ st) h1 Q)) := jg_callS (as := [.int x0]) rfl rfl rfl rfl
theorem s106_24 : jx_Go jxP d 106 24 [l0, l1] [.int x] h Q ↔ Q [.int x] h := jx_rt rfl rfl
-- 107 TalkBench.cover
theorem s107_0 : jx_Go jxP d 107 0 [l0, .int x] st h Q ↔ jx_Go jxP d 107 1 [l0, .int x] (.int x :: st) h Q := jg_il rfl rfl
theorem s107_1 : jx_Go jxP (d + 1) 107 1 [l0, l1] (.int x0 :: st) h Q ↔ (st.length ≤ 4 ∧ jx_Go jxP d 124 0 [.int x0] [] h (fun s1 h1 => jx_Go jxP (d + 1) 107 4 [l0, l1] (s1 ++ st) h1 Q)) := jg_callS (as := [.int x0]) rfl rfl rfl rfl
theorem s107_4 : jx_Go jxP d 107 4 [l0, l1] (.int x :: st) h Q ↔ if x = 0 then jx_Go jxP d 107 13 [l0, l1] st h Q else jx_Go jxP d 107 7 [l0, l1] st h Q := jg_ifP rfl rfl
theorem s107_7 : jx_Go jxP d 107 7 [.ref a, l1] st h Q ↔ jx_Go jxP d 107 8 [.ref a, l1] (.ref a :: st) h Q := jg_al rfl rfl
theorem s107_8 : jx_Go jxP d 107 8 [l0, l1] st h Q ↔ jx_Go jxP d 107 9 [l0, l1] (.int (-1) :: st) h Q := jg_c rfl
theorem s107_9 : jx_Go jxP (d + 1) 107 9 [l0, l1] (.int x0 :: .ref a :: st) h Q ↔ (st.length ≤ 4 ∧ jx_cl h a = some 11 ∧ jx_Go jxP d 120 0 [.ref a, .int x0] [] h (fun s1 h1 => jx_Go jxP (d + 1) 107 12 [l0, l1] (s1 ++ st) h1 Q)) := jg_callV (as := [.int x0, .ref a]) rfl rfl rfl rfl rfl
theorem s107_12 : jx_Go jxP d 107 12 [l0, l1] [.int x] h Q ↔ Q [.int x] h := jx_rt rfl rfl
theorem s107_13 : jx_Go jxP d 107 13 [.ref a, l1] st h Q ↔ jx_Go jxP d 107 14 [.ref a, l1] (.ref a :: st) h Q := jg_al rfl rfl
theorem s107_14 : jx_Go jxP d 107 14 [l0, l1] (.ref a :: st) h Q ↔ ∃ v, jx_fl h a 11 9 = some v ∧ jx_Go jxP d 107 17 [l0, l1] (v :: st) h Q := jg_gf rfl
theorem s107_17 : jx_Go jxP d 107 17 [l0, .int x] st h Q ↔ jx_Go jxP d 107 18 [l0, .int x] (.int x :: st) h Q := jg_il rfl rfl
theorem s107_18 : jx_Go jxP (d + 1) 107 18 [l0, l1] (.int x0 :: .ref a :: st) h Q ↔ (st.length ≤ 4 ∧ jx_cl h a = some 7 ∧ jx_Go jxP d 49 0 [.ref a, .int x0] [] h (fun s1 h1 => jx_Go jxP (d + 1) 107 21 [l0, l1] (s1 ++ st) h1 Q)) := jg_callV (as := [.int x0, .ref a]) rfl rfl rfl rfl rfl
theorem s107_21 : jx_Go jxP d 107 21 [l0, l1] [.int x] h Q ↔ Q [.int x] h := jx_rt rfl rfl
-- 108 TalkBench.part
theorem s108_0 : jx_Go jxP d 108 0 [.ref a] st h Q ↔ jx_Go jxP d 108 1 [.ref a] (.ref a :: st) h Q := jg_al rfl rfl
theorem s108_1 : jx_Go jxP d 108 1 [l0] (.ref a :: st) h Q ↔ ∃ v, jx_fl h a 11 0 = some v ∧ jx_Go jxP d 108 4 [l0] (v :: st) h Q := jg_gf rfl
theorem s108_4 : jx_Go jxP d 108 4 [l0] (.ref a :: st) h Q ↔ ∃ v, jx_fl h a 10 0 = some v ∧ jx_Go jxP d 108 7 [l0] (v :: st) h Q := jg_gf rfl
theorem s108_7 : jx_Go jxP d 108 7 [l0] st h Q ↔ jx_Go jxP d 108 8 [l0] (.int (nI 4) :: st) h Q := jg_c rfl
theorem s108_8 : jx_Go jxP d 108 8 [l0] (.int y :: .int x :: st) h Q ↔ if y < x then jx_Go jxP d 108 22 [l0] st h Q else jx_Go jxP d 108 11 [l0] st h Q := jg_icP rfl rfl
theorem s108_11 : jx_Go jxP d 108 11 [.ref a] st h Q ↔ jx_Go jxP d 108 12 [.ref a] (.ref a :: st) h Q := jg_al rfl rfl
theorem s108_12 : jx_Go jxP d 108 12 [l0] (.ref a :: st) h Q ↔ ∃ v, jx_fl h a 11 0 = some v ∧ jx_Go jxP d 108 15 [l0] (v :: st) h Q := jg_gf rfl
theorem s108_15 : jx_Go jxP d 108 15 [l0] (.ref a :: st) h Q ↔ ∃ v, jx_fl h a 10 1 = some v ∧ jx_Go jxP d 108 18 [l0] (v :: st) h Q := jg_gf rfl
theorem s108_18 : jx_Go jxP d 108 18 [l0] st h Q ↔ jx_Go jxP d 108 19 [l0] (.int (nI 4) :: st) h Q := jg_c rfl
theorem s108_19 : jx_Go jxP d 108 19 [l0] (.int y :: .int x :: st) h Q ↔ if x ≤ y then jx_Go jxP d 108 29 [l0] st h Q else jx_Go jxP d 108 22 [l0] st h Q := jg_icP rfl rfl
theorem s108_22 : jx_Go jxP d 108 22 [.ref a] st h Q ↔ jx_Go jxP d 108 23 [.ref a] (.ref a :: st) h Q := jg_al rfl rfl
theorem s108_23 : jx_Go jxP d 108 23 [l0] st h Q ↔ jx_Go jxP d 108 25 [l0] (.int (-7) :: st) h Q := jg_c rfl
theorem s108_25 : jx_Go jxP (d + 1) 108 25 [l0] (.int x0 :: .ref a :: st) h Q ↔ (st.length ≤ 4 ∧ jx_cl h a = some 11 ∧ jx_Go jxP d 120 0 [.ref a, .int x0] [] h (fun s1 h1 => jx_Go jxP (d + 1) 108 28 [l0] (s1 ++ st) h1 Q)) := jg_callV (as := [.int x0, .ref a]) rfl rfl rfl rfl rfl
theorem s108_28 : jx_Go jxP d 108 28 [l0] [.int x] h Q ↔ Q [.int x] h := jx_rt rfl rfl
theorem s108_29 : jx_Go jxP d 108 29 [.ref a] st h Q ↔ jx_Go jxP d 108 30 [.ref a] (.ref a :: st) h Q := jg_al rfl rfl
theorem s108_30 : jx_Go jxP d 108 30 [l0] (.ref a :: st) h Q ↔ ∃ v, jx_fl h a 11 5 = some v ∧ jx_Go jxP d 108 33 [l0] (v :: st) h Q := jg_gf rfl
theorem s108_33 : jx_Go jxP d 108 33 [.ref a] st h Q ↔ jx_Go jxP d 108 34 [.ref a] (.ref a :: st) h Q := jg_al rfl rfl
theorem s108_34 : jx_Go jxP d 108 34 [l0] (.ref a :: st) h Q ↔ ∃ v, jx_fl h a 11 4 = some v ∧ jx_Go jxP d 108 37 [l0] (v :: st) h Q := jg_gf rfl
theorem s108_37 : jx_Go jxP d 108 37 [l0] (.ref a :: st) h Q ↔ ∃ v, jx_fl h a 4 0 = some v ∧ jx_Go jxP d 108 40 [l0] (v :: st) h Q := jg_gf rfl
theorem s108_40 : jx_Go jxP d 108 40 [.ref a] st h Q ↔ jx_Go jxP d 108 41 [.ref a] (.ref a :: st) h Q := jg_al rfl rfl
theorem s108_41 : jx_Go jxP d 108 41 [l0] (.ref a :: st) h Q ↔ ∃ v, jx_fl h a 11 4 = some v ∧ jx_Go jxP d 108 44 [l0] (v :: st) h Q := jg_gf rfl
theorem s108_44 : jx_Go jxP d 108 44 [l0] (.ref a :: st) h Q ↔ ∃ v, jx_fl h a 4 1 = some v ∧ jx_Go jxP d 108 47 [l0] (v :: st) h Q := jg_gf rfl
theorem s108_47 : jx_Go jxP (d + 1) 108 47 [l0] (.int x1 :: .int x0 :: .ref a :: st) h Q ↔ (st.length ≤ 4 ∧ jx_cl h a = some 0 ∧ jx_Go jxP d 3 0 [.ref a, .int x0, .int x1] [] h (fun s1 h1 => jx_Go jxP (d + 1) 108 50 [l0] (s1 ++ st) h1 Q)) := jg_callV (as := [.int x1, .int x0, .ref a]) rfl rfl rfl rfl rfl
theorem s108_50 : jx_Go jxP d 108 50 [l0] [.int x] h Q ↔ Q [.int x] h := jx_rt rfl rfl
-- 109 TalkBench.swing
theorem s109_0 : jx_Go jxP d 109 0 [.ref a] st h Q ↔ jx_Go jxP d 109 1 [.ref a] (.ref a :: st) h Q := jg_al rfl rfl
theorem s109_1 : jx_Go jxP d 109 1 [l0] (.ref a :: st) h Q ↔ ∃ v, jx_fl h a 11 6 = some v ∧ jx_Go jxP d 109 4 [l0] (v :: st) h Q := jg_gf rfl
theorem s109_4 : jx_Go jxP (d + 1) 109 4 [l0] (.ref a :: st) h Q ↔ (st.length ≤ 4 ∧ jx_cl h a = some 6 ∧ jx_Go jxP d 37 0 [.ref a, jx_u, jx_u, jx_u, jx_u] [] h (fun s1 h1 => jx_Go jxP (d + 1) 109 7 [l0] (s1 ++ st) h1 Q)) := jg_callV (as := [.ref a]) rfl rfl rfl rfl rfl
theorem s109_7 : jx_Go jxP d 109 7 [l0] [.int x] h Q ↔ Q [.int x] h := jx_rt rfl rfl
-- 110 TalkBench.wrong
theorem s110_0 : jx_Go jxP d 110 0 [l0, .int x] st h Q ↔ jx_Go jxP d 110 1 [l0, .int x] (.int x :: st) h Q := jg_il rfl rfl
theorem s110_1 : jx_Go jxP d 110 1 [l0, l1] (.int x :: st) h Q ↔ if x < 0 then jx_Go jxP d 110 10 [l0, l1] st h Q else jx_Go jxP d 110 4 [l0, l1] st h Q := jg_ifP rfl rfl
theorem s110_4 : jx_Go jxP d 110 4 [l0, .int x] st h Q ↔ jx_Go jxP d 110 5 [l0, .int x] (.int x :: st) h Q := jg_il rfl rfl
theorem s110_5 : jx_Go jxP d 110 5 [l0, l1] st h Q ↔ jx_Go jxP d 110 7 [l0, l1] (.int (nI 6) :: st) h Q := jg_c rfl
theorem s110_7 : jx_Go jxP d 110 7 [l0, l1] (.int y :: .int x :: st) h Q ↔ if x ≤ y then jx_Go jxP d 110 16 [l0, l1] st h Q else jx_Go jxP d 110 10 [l0, l1] st h Q := jg_icP rfl rfl
theorem s110_10 : jx_Go jxP d 110 10 [.ref a, l1] st h Q ↔ jx_Go jxP d 110 11 [.ref a, l1] (.ref a :: st) h Q := jg_al rfl rfl
theorem s110_11 : jx_Go jxP d 110 11 [l0, l1] st h Q ↔ jx_Go jxP d 110 12 [l0, l1] (.int (-1) :: st) h Q := jg_c rfl
theorem s110_12 : jx_Go jxP (d + 1) 110 12 [l0, l1] (.int x0 :: .ref a :: st) h Q ↔ (st.length ≤ 4 ∧ jx_cl h a = some 11 ∧ jx_Go jxP d 120 0 [.ref a, .int x0] [] h (fun s1 h1 => jx_Go jxP (d + 1) 110 15 [l0, l1] (s1 ++ st) h1 Q)) := jg_callV (as := [.int x0, .ref a]) rfl rfl rfl rfl rfl
theorem s110_15 : jx_Go jxP d 110 15 [l0, l1] [.int x] h Q ↔ Q [.int x] h := jx_rt rfl rfl
theorem s110_16 : jx_Go jxP d 110 16 [.ref a, l1] st h Q ↔ jx_Go jxP d 110 17 [.ref a, l1] (.ref a :: st) h Q := jg_al rfl rfl
theorem s110_17 : jx_Go jxP d 110 17 [l0, l1] (.ref a :: st) h Q ↔ ∃ v, jx_fl h a 11 6 = some v ∧ jx_Go jxP d 110 20 [l0, l1] (v :: st) h Q := jg_gf rfl
theorem s110_20 : jx_Go jxP d 110 20 [l0, .int x] st h Q ↔ jx_Go jxP d 110 21 [l0, .int x] (.int x :: st) h Q := jg_il rfl rfl
theorem s110_21 : jx_Go jxP (d + 1) 110 21 [l0, l1] (.int x0 :: .ref a :: st) h Q ↔ (st.length ≤ 4 ∧ jx_cl h a = some 6 ∧ jx_Go jxP d 38 0 [.ref a, .int x0, jx_u, jx_u] [] h (fun s1 h1 => jx_Go jxP (d + 1) 110 24 [l0, l1] (s1 ++ st) h1 Q)) := jg_callV (as := [.int x0, .ref a]) rfl rfl rfl rfl rfl
theorem s110_24 : jx_Go jxP d 110 24 [l0, l1] [.int x] h Q ↔ Q [.int x] h := jx_rt rfl rfl
-- 111 TalkBench.tell
theorem s111_0 : jx_Go jxP d 111 0 [.ref a, l1] st h Q ↔ jx_Go jxP d 111 1 [.ref a, l1] (.ref a :: st) h Q := jg_al rfl rfl
theorem s111_1 : jx_Go jxP d 111 1 [l0, l1] (.ref a :: st) h Q ↔ ∃ v, jx_fl h a 11 8 = some v ∧ jx_Go jxP d 111 4 [l0, l1] (v :: st) h Q := jg_gf rfl
theorem s111_4 : jx_Go jxP d 111 4 [l0, l1] (.ref a :: st) h Q ↔ ∃ v, jx_fl h a 2 3 = some v ∧ jx_Go jxP d 111 7 [l0, l1] (v :: st) h Q := jg_gf rfl
theorem s111_7 : jx_Go jxP d 111 7 [l0, l1] st h Q ↔ jx_Go jxP d 111 9 [l0, l1] (.int (nI 120) :: st) h Q := jg_c rfl
theorem s111_9 : jx_Go jxP d 111 9 [l0, l1] (.int y :: .int x :: st) h Q ↔ if x < y then jx_Go jxP d 111 19 [l0, l1] st h Q else jx_Go jxP d 111 12 [l0, l1] st h Q := jg_icP rfl rfl
theorem s111_12 : jx_Go jxP d 111 12 [.ref a, l1] st h Q ↔ jx_Go jxP d 111 13 [.ref a, l1] (.ref a :: st) h Q := jg_al rfl rfl
theorem s111_13 : jx_Go jxP d 111 13 [l0, l1] st h Q ↔ jx_Go jxP d 111 15 [l0, l1] (.int (-5) :: st) h Q := jg_c rfl
theorem s111_15 : jx_Go jxP (d + 1) 111 15 [l0, l1] (.int x0 :: .ref a :: st) h Q ↔ (st.length ≤ 4 ∧ jx_cl h a = some 11 ∧ jx_Go jxP d 120 0 [.ref a, .int x0] [] h (fun s1 h1 => jx_Go jxP (d + 1) 111 18 [l0, l1] (s1 ++ st) h1 Q)) := jg_callV (as := [.int x0, .ref a]) rfl rfl rfl rfl rfl
theorem s111_18 : jx_Go jxP d 111 18 [l0, l1] [.int x] h Q ↔ Q [.int x] h := jx_rt rfl rfl
theorem s111_19 : jx_Go jxP d 111 19 [.ref a, l1] st h Q ↔ jx_Go jxP d 111 20 [.ref a, l1] (.ref a :: st) h Q := jg_al rfl rfl
theorem s111_20 : jx_Go jxP d 111 20 [l0, l1] (.ref a :: st) h Q ↔ ∃ v, jx_fl h a 11 8 = some v ∧ jx_Go jxP d 111 23 [l0, l1] (v :: st) h Q := jg_gf rfl
theorem s111_23 : jx_Go jxP d 111 23 [l0, .int x] st h Q ↔ jx_Go jxP d 111 24 [l0, .int x] (.int x :: st) h Q := jg_il rfl rfl
theorem s111_24 : jx_Go jxP (d + 1) 111 24 [l0, l1] (.int x0 :: .ref a :: st) h Q ↔ (st.length ≤ 4 ∧ jx_cl h a = some 2 ∧ jx_Go jxP d 15 0 [.ref a, .int x0] [] h (fun s1 h1 => jx_Go jxP (d + 1) 111 27 [l0, l1] (s1 ++ st) h1 Q)) := jg_callV (as := [.int x0, .ref a]) rfl rfl rfl rfl rfl
theorem s111_27 : jx_Go jxP d 111 27 [.ref a, l1] st h Q ↔ jx_Go jxP d 111 28 [.ref a, l1] (.ref a :: st) h Q := jg_al rfl rfl
theorem s111_28 : jx_Go jxP d 111 28 [l0, l1] (.ref a :: st) h Q ↔ ∃ v, jx_fl h a 11 8 = some v ∧ jx_Go jxP d 111 31 [l0, l1] (v :: st) h Q := jg_gf rfl
theorem s111_31 : jx_Go jxP d 111 31 [l0, l1] (.ref a :: st) h Q ↔ ∃ v, jx_fl h a 2 3 = some v ∧ jx_Go jxP d 111 34 [l0, l1] (v :: st) h Q := jg_gf rfl
theorem s111_34 : jx_Go jxP d 111 34 [l0, l1] [.int x] h Q ↔ Q [.int x] h := jx_rt rfl rfl
-- 112 TalkBench.check
theorem s112_0 : jx_Go jxP d 112 0 [.ref a, l1] st h Q ↔ jx_Go jxP d 112 1 [.ref a, l1] (.ref a :: st) h Q := jg_al rfl rfl
theorem s112_1 : jx_Go jxP d 112 1 [l0, l1] (.ref a :: st) h Q ↔ ∃ v, jx_fl h a 11 8 = some v ∧ jx_Go jxP d 112 4 [l0, l1] (v :: st) h Q := jg_gf rfl
theorem s112_4 : jx_Go jxP (d + 1) 112 4 [l0, l1] (.ref a :: st) h Q ↔ (st.length ≤ 4 ∧ jx_cl h a = some 2 ∧ jx_Go jxP d 16 0 [.ref a] [] h (fun s1 h1 => jx_Go jxP (d + 1) 112 7 [l0, l1] (s1 ++ st) h1 Q)) := jg_callV (as := [.ref a]) rfl rfl rfl rfl rfl
theorem s112_7 : jx_Go jxP d 112 7 [l0, l1] (.int x :: st) h Q ↔ jx_Go jxP d 112 8 [l0, .int x] st h Q := jg_is rfl rfl
theorem s112_8 : jx_Go jxP d 112 8 [.ref a, l1] st h Q ↔ jx_Go jxP d 112 9 [.ref a, l1] (.ref a :: st) h Q := jg_al rfl rfl
theorem s112_9 : jx_Go jxP d 112 9 [l0, l1] (.ref a :: st) h Q ↔ ∃ v, jx_fl h a 11 8 = some v ∧ jx_Go jxP d 112 12 [l0, l1] (v :: st) h Q := jg_gf rfl
theorem s112_12 : jx_Go jxP d 112 12 [l0, l1] st h Q ↔ jx_Go jxP d 112 13 [l0, l1] (.int (nI 0) :: st) h Q := jg_c rfl
theorem s112_13 : jx_Go jxP d 112 13 [l0, l1] (.int x :: .ref a :: st) h Q ↔ ∃ v, jx_fl h a 2 3 = some v ∧ jx_Go jxP d 112 16 [l0, l1] st (jx_uf h a 3 (.int x)) Q := jg_pfI rfl
theorem s112_16 : jx_Go jxP d 112 16 [l0, .int x] st h Q ↔ jx_Go jxP d 112 17 [l0, .int x] (.int x :: st) h Q := jg_il rfl rfl
theorem s112_17 : jx_Go jxP d 112 17 [l0, l1] [.int x] h Q ↔ Q [.int x] h := jx_rt rfl rfl
-- 113 TalkBench.fools
theorem s113_0 : jx_Go jxP d 113 0 [l0, .int x, l2] st h Q ↔ jx_Go jxP d 113 1 [l0, .int x, l2] (.int x :: st) h Q := jg_il rfl rfl
theorem s113_1 : jx_Go jxP (d + 1) 113 1 [l0, l1, l2] (.int x0 :: st) h Q ↔ (st.length ≤ 4 ∧ jx_Go jxP d 124 0 [.int x0] [] h (fun s1 h1 => jx_Go jxP (d + 1) 113 4 [l0, l1, l2] (s1 ++ st) h1 Q)) := jg_callS (as := [.int x0]) rfl rfl rfl rfl
theorem s113_4 : jx_Go jxP d 113 4 [l0, l1, l2] (.int x :: st) h Q ↔ if x = 0 then jx_Go jxP d 113 11 [l0, l1, l2] st h Q else jx_Go jxP d 113 7 [l0, l1, l2] st h Q := jg_ifP rfl rfl
theorem s113_7 : jx_Go jxP d 113 7 [l0, l1, l2] st h Q ↔ jx_Go jxP d 113 8 [l0, l1, l2] (.int (-1) :: st) h Q := jg_c rfl
theorem s113_8 : jx_Go jxP d 113 8 [l0, l1, l2] st h Q ↔ jx_Go jxP d 113 19 [l0, l1, l2] st h Q := jg_go rfl
theorem s113_11 : jx_Go jxP d 113 11 [.ref a, l1, l2] st h Q ↔ jx_Go jxP d 113 12 [.ref a, l1, l2] (.ref a :: st) h Q := jg_al rfl rfl
theorem s113_12 : jx_Go jxP d 113 12 [l0, l1, l2] (.ref a :: st) h Q ↔ ∃ v, jx_fl h a 11 8 = some v ∧ jx_Go jxP d 113 15 [l0, l1, l2] (v :: st) h Q := jg_gf rfl
theorem s113_15 : jx_Go jxP d 113 15 [l0, .int x, l2] st h Q ↔ jx_Go jxP d 113 16 [l0, .int x, l2] (.int x :: st) h Q := jg_il rfl rfl
theorem s113_16 : jx_Go jxP (d + 1) 113 16 [l0, l1, l2] (.int x0 :: .ref a :: st) h Q ↔ (st.length ≤ 4 ∧ jx_cl h a = some 2 ∧ jx_Go jxP d 19 0 [.ref a, .int x0, jx_u] [] h (fun s1 h1 => jx_Go jxP (d + 1) 113 19 [l0, l1, l2] (s1 ++ st) h1 Q)) := jg_callV (as := [.int x0, .ref a]) rfl rfl rfl rfl rfl
theorem s113_19 : jx_Go jxP d 113 19 [l0, l1, l2] (.int x :: st) h Q ↔ jx_Go jxP d 113 20 [l0, l1, .int x] st h Q := jg_is rfl rfl
theorem s113_20 : jx_Go jxP d 113 20 [.ref a, l1, l2] st h Q ↔ jx_Go jxP d 113 21 [.ref a, l1, l2] (.ref a :: st) h Q := jg_al rfl rfl
theorem s113_21 : jx_Go jxP d 113 21 [l0, l1, l2] (.ref a :: st) h Q ↔ ∃ v, jx_fl h a 11 8 = some v ∧ jx_Go jxP d 113 24 [l0, l1, l2] (v :: st) h Q := jg_gf rfl
theorem s113_24 : jx_Go jxP d 113 24 [l0, l1, l2] st h Q ↔ jx_Go jxP d 113 25 [l0, l1, l2] (.int (nI 0) :: st) h Q := jg_c rfl
theorem s113_25 : jx_Go jxP d 113 25 [l0, l1, l2] (.int x :: .ref a :: st) h Q ↔ ∃ v, jx_fl h a 2 3 = some v ∧ jx_Go jxP d 113 28 [l0, l1, l2] st (jx_uf h a 3 (.int x)) Q := jg_pfI rfl
theorem s113_28 : jx_Go jxP d 113 28 [l0, l1, .int x] st h Q ↔ jx_Go jxP d 113 29 [l0, l1, .int x] (.int x :: st) h Q := jg_il rfl rfl
theorem s113_29 : jx_Go jxP d 113 29 [l0, l1, l2] (.int x :: st) h Q ↔ if 0 ≤ x then jx_Go jxP d 113 40 [l0, l1, l2] st h Q else jx_Go jxP d 113 32 [l0, l1, l2] st h Q := jg_ifP rfl rfl
theorem s113_32 : jx_Go jxP d 113 32 [.ref a, l1, l2] st h Q ↔ jx_Go jxP d 113 33 [.ref a, l1, l2] (.ref a :: st) h Q := jg_al rfl rfl
theorem s113_33 : jx_Go jxP d 113 33 [l0, l1, .int x] st h Q ↔ jx_Go jxP d 113 34 [l0, l1, .int x] (.int x :: st) h Q := jg_il rfl rfl
theorem s113_34 : jx_Go jxP (d + 1) 113 34 [l0, l1, l2] (.int x0 :: .ref a :: st) h Q ↔ (st.length ≤ 4 ∧ jx_cl h a = some 11 ∧ jx_Go jxP d 120 0 [.ref a, .int x0] [] h (fun s1 h1 => jx_Go jxP (d + 1) 113 37 [l0, l1, l2] (s1 ++ st) h1 Q)) := jg_callV (as := [.int x0, .ref a]) rfl rfl rfl rfl rfl
theorem s113_37 : jx_Go jxP d 113 37 [l0, l1, l2] st h Q ↔ jx_Go jxP d 113 41 [l0, l1, l2] st h Q := jg_go rfl
theorem s113_40 : jx_Go jxP d 113 40 [l0, l1, .int x] st h Q ↔ jx_Go jxP d 113 41 [l0, l1, .int x] (.int x :: st) h Q := jg_il rfl rfl
theorem s113_41 : jx_Go jxP d 113 41 [l0, l1, l2] [.int x] h Q ↔ Q [.int x] h := jx_rt rfl rfl
-- 114 TalkBench.keep
theorem s114_0 : jx_Go jxP d 114 0 [l0, .int x] st h Q ↔ jx_Go jxP d 114 1 [l0, .int x] (.int x :: st) h Q := jg_il rfl rfl
theorem s114_1 : jx_Go jxP (d + 1) 114 1 [l0, l1] (.int x0 :: st) h Q ↔ (st.length ≤ 4 ∧ jx_Go jxP d 123 0 [.int x0] [] h (fun s1 h1 => jx_Go jxP (d + 1) 114 4 [l0, l1] (s1 ++ st) h1 Q)) := jg_callS (as := [.int x0]) rfl rfl rfl rfl
theorem s114_4 : jx_Go jxP d 114 4 [l0, l1] (.int x :: st) h Q ↔ if x = 0 then jx_Go jxP d 114 13 [l0, l1] st h Q else jx_Go jxP d 114 7 [l0, l1] st h Q := jg_ifP rfl rfl
theorem s114_7 : jx_Go jxP d 114 7 [.ref a, l1] st h Q ↔ jx_Go jxP d 114 8 [.ref a, l1] (.ref a :: st) h Q := jg_al rfl rfl
theorem s114_8 : jx_Go jxP d 114 8 [l0, l1] st h Q ↔ jx_Go jxP d 114 9 [l0, l1] (.int (-1) :: st) h Q := jg_c rfl
theorem s114_9 : jx_Go jxP (d + 1) 114 9 [l0, l1] (.int x0 :: .ref a :: st) h Q ↔ (st.length ≤ 4 ∧ jx_cl h a = some 11 ∧ jx_Go jxP d 120 0 [.ref a, .int x0] [] h (fun s1 h1 => jx_Go jxP (d + 1) 114 12 [l0, l1] (s1 ++ st) h1 Q)) := jg_callV (as := [.int x0, .ref a]) rfl rfl rfl rfl rfl
theorem s114_12 : jx_Go jxP d 114 12 [l0, l1] [.int x] h Q ↔ Q [.int x] h := jx_rt rfl rfl
theorem s114_13 : jx_Go jxP d 114 13 [.ref a, l1] st h Q ↔ jx_Go jxP d 114 14 [.ref a, l1] (.ref a :: st) h Q := jg_al rfl rfl
theorem s114_14 : jx_Go jxP d 114 14 [l0, l1] (.ref a :: st) h Q ↔ ∃ v, jx_fl h a 11 1 = some v ∧ jx_Go jxP d 114 17 [l0, l1] (v :: st) h Q := jg_gf rfl
theorem s114_17 : jx_Go jxP d 114 17 [l0, .int x] st h Q ↔ jx_Go jxP d 114 18 [l0, .int x] (.int x :: st) h Q := jg_il rfl rfl
theorem s114_18 : jx_Go jxP d 114 18 [l0, l1] (.int x :: .ref a :: st) h Q ↔ ∃ q, jx_ar h a 2 = some q ∧ jx_in x q.1 ∧ jx_Go jxP d 114 19 [l0, l1] (jx_rv (q.2 x.toNatClampNeg) :: st) h Q := jg_ra rfl
theorem s114_19r : jx_Go jxP d 114 19 [l0, l1] (.ref a :: st) h Q ↔ jx_Go jxP d 114 35 [l0, l1] st h Q := jg_nnR rfl
theorem s114_19n : jx_Go jxP d 114 19 [l0, l1] (.null :: st) h Q ↔ jx_Go jxP d 114 22 [l0, l1] st h Q := jg_nnN rfl
theorem s114_22 : jx_Go jxP d 114 22 [.ref a, l1] st h Q ↔ jx_Go jxP d 114 23 [.ref a, l1] (.ref a :: st) h Q := jg_al rfl rfl
theorem s114_23 : jx_Go jxP d 114 23 [l0, l1] (.ref a :: st) h Q ↔ ∃ v, jx_fl h a 11 1 = some v ∧ jx_Go jxP d 114 26 [l0, l1] (v :: st) h Q := jg_gf rfl
theorem s114_26 : jx_Go jxP d 114 26 [l0, .int x] st h Q ↔ jx_Go jxP d 114 27 [l0, .int x] (.int x :: st) h Q := jg_il rfl rfl
theorem s114_27 : jx_Go jxP d 114 27 [l0, l1] st h Q ↔ jx_Go jxP d 114 30 [l0, l1] (.ref h.1 :: st) (jx_mk h 4 (.inr (10, [.int 0, .int 0, .null, .null]))) Q := jg_nw (fs := [.int 0, .int 0, .null, .null]) rfl
theorem s114_30i : jx_Go jxP d 114 30 [l0, l1] (.int x :: st) h Q ↔ jx_Go jxP d 114 31 [l0, l1] (.int x :: .int x :: st) h Q := jg_dI rfl
theorem s114_30r : jx_Go jxP d 114 30 [l0, l1] (.ref a :: st) h Q ↔ jx_Go jxP d 114 31 [l0, l1] (.ref a :: .ref a :: st) h Q := jg_dR rfl
theorem s114_31 : jx_Go jxP (d + 1) 114 31 [l0, l1] (.ref a :: st) h Q ↔ (st.length ≤ 4 ∧ jx_cl h a = some 10 ∧ jx_Go jxP d 67 0 [.ref a] [] h (fun s1 h1 => jx_Go jxP (d + 1) 114 34 [l0, l1] (s1 ++ st) h1 Q)) := jg_callV (as := [.ref a]) rfl rfl rfl rfl rfl
theorem s114_34 : jx_Go jxP d 114 34 [l0, l1] (.ref b :: .int x :: .ref a :: st) h Q ↔ ∃ q, jx_ar h a 2 = some q ∧ (jx_in x q.1 ∧ jx_cl h b = some 10) ∧ jx_Go jxP d 114 35 [l0, l1] st (jx_wr h a 2 q.1 (va_up q.2 x.toNatClampNeg (some b))) Q := jg_rw rfl
theorem s114_35 : jx_Go jxP d 114 35 [.ref a, l1] st h Q ↔ jx_Go jxP d 114 36 [.ref a, l1] (.ref a :: st) h Q := jg_al rfl rfl
theorem s114_36 : jx_Go jxP d 114 36 [l0, l1] (.ref a :: st) h Q ↔ ∃ v, jx_fl h a 11 1 = some v ∧ jx_Go jxP d 114 39 [l0, l1] (v :: st) h Q := jg_gf rfl
theorem s114_39 : jx_Go jxP d 114 39 [l0, .int x] st h Q ↔ jx_Go jxP d 114 40 [l0, .int x] (.int x :: st) h Q := jg_il rfl rfl
theorem s114_40 : jx_Go jxP d 114 40 [l0, l1] (.int x :: .ref a :: st) h Q ↔ ∃ q, jx_ar h a 2 = some q ∧ jx_in x q.1 ∧ jx_Go jxP d 114 41 [l0, l1] (jx_rv (q.2 x.toNatClampNeg) :: st) h Q := jg_ra rfl
theorem s114_41 : jx_Go jxP d 114 41 [.ref a, l1] st h Q ↔ jx_Go jxP d 114 42 [.ref a, l1] (.ref a :: st) h Q := jg_al rfl rfl
theorem s114_42 : jx_Go jxP d 114 42 [l0, l1] (.ref a :: st) h Q ↔ ∃ v, jx_fl h a 11 0 = some v ∧ jx_Go jxP d 114 45 [l0, l1] (v :: st) h Q := jg_gf rfl
theorem s114_45 : jx_Go jxP (d + 1) 114 45 [l0, l1] (.ref a0 :: .ref a :: st) h Q ↔ (st.length ≤ 4 ∧ jx_cl h a = some 10 ∧ jx_Go jxP d 71 0 [.ref a, .ref a0] [] h (fun s1 h1 => jx_Go jxP (d + 1) 114 48 [l0, l1] (s1 ++ st) h1 Q)) := jg_callV (as := [.ref a0, .ref a]) rfl rfl rfl rfl rfl
theorem s114_48 : jx_Go jxP d 114 48 [.ref a, l1] st h Q ↔ jx_Go jxP d 114 49 [.ref a, l1] (.ref a :: st) h Q := jg_al rfl rfl
theorem s114_49 : jx_Go jxP d 114 49 [l0, l1] (.ref a :: st) h Q ↔ ∃ v, jx_fl h a 11 0 = some v ∧ jx_Go jxP d 114 52 [l0, l1] (v :: st) h Q := jg_gf rfl
theorem s114_52 : jx_Go jxP (d + 1) 114 52 [l0, l1] (.ref a :: st) h Q ↔ (st.length ≤ 4 ∧ jx_cl h a = some 10 ∧ jx_Go jxP d 73 0 [.ref a] [] h (fun s1 h1 => jx_Go jxP (d + 1) 114 55 [l0, l1] (s1 ++ st) h1 Q)) := jg_callV (as := [.ref a]) rfl rfl rfl rfl rfl
theorem s114_55 : jx_Go jxP d 114 55 [l0, l1] [.int x] h Q ↔ Q [.int x] h := jx_rt rfl rfl
-- 115 TalkBench.bring
theorem s115_0 : jx_Go jxP d 115 0 [l0, .int x] st h Q ↔ jx_Go jxP d 115 1 [l0, .int x] (.int x :: st) h Q := jg_il rfl rfl
theorem s115_1 : jx_Go jxP (d + 1) 115 1 [l0, l1] (.int x0 :: st) h Q ↔ (st.length ≤ 4 ∧ jx_Go jxP d 123 0 [.int x0] [] h (fun s1 h1 => jx_Go jxP (d + 1) 115 4 [l0, l1] (s1 ++ st) h1 Q)) := jg_callS (as := [.int x0]) rfl rfl rfl rfl
theorem s115_4 : jx_Go jxP d 115 4 [l0, l1] (.int x :: st) h Q ↔ if x = 0 then jx_Go jxP d 115 13 [l0, l1] st h Q else jx_Go jxP d 115 7 [l0, l1] st h Q := jg_ifP rfl rfl
theorem s115_7 : jx_Go jxP d 115 7 [.ref a, l1] st h Q ↔ jx_Go jxP d 115 8 [.ref a, l1] (.ref a :: st) h Q := jg_al rfl rfl
theorem s115_8 : jx_Go jxP d 115 8 [l0, l1] st h Q ↔ jx_Go jxP d 115 9 [l0, l1] (.int (-1) :: st) h Q := jg_c rfl
theorem s115_9 : jx_Go jxP (d + 1) 115 9 [l0, l1] (.int x0 :: .ref a :: st) h Q ↔ (st.length ≤ 4 ∧ jx_cl h a = some 11 ∧ jx_Go jxP d 120 0 [.ref a, .int x0] [] h (fun s1 h1 => jx_Go jxP (d + 1) 115 12 [l0, l1] (s1 ++ st) h1 Q)) := jg_callV (as := [.int x0, .ref a]) rfl rfl rfl rfl rfl
theorem s115_12 : jx_Go jxP d 115 12 [l0, l1] [.int x] h Q ↔ Q [.int x] h := jx_rt rfl rfl
theorem s115_13 : jx_Go jxP d 115 13 [.ref a, l1] st h Q ↔ jx_Go jxP d 115 14 [.ref a, l1] (.ref a :: st) h Q := jg_al rfl rfl
theorem s115_14 : jx_Go jxP d 115 14 [l0, l1] (.ref a :: st) h Q ↔ ∃ v, jx_fl h a 11 1 = some v ∧ jx_Go jxP d 115 17 [l0, l1] (v :: st) h Q := jg_gf rfl
theorem s115_17 : jx_Go jxP d 115 17 [l0, .int x] st h Q ↔ jx_Go jxP d 115 18 [l0, .int x] (.int x :: st) h Q := jg_il rfl rfl
theorem s115_18 : jx_Go jxP d 115 18 [l0, l1] (.int x :: .ref a :: st) h Q ↔ ∃ q, jx_ar h a 2 = some q ∧ jx_in x q.1 ∧ jx_Go jxP d 115 19 [l0, l1] (jx_rv (q.2 x.toNatClampNeg) :: st) h Q := jg_ra rfl
theorem s115_19r : jx_Go jxP d 115 19 [l0, l1] (.ref a :: st) h Q ↔ jx_Go jxP d 115 29 [l0, l1] st h Q := jg_nnR rfl
theorem s115_19n : jx_Go jxP d 115 19 [l0, l1] (.null :: st) h Q ↔ jx_Go jxP d 115 22 [l0, l1] st h Q := jg_nnN rfl
theorem s115_22 : jx_Go jxP d 115 22 [.ref a, l1] st h Q ↔ jx_Go jxP d 115 23 [.ref a, l1] (.ref a :: st) h Q := jg_al rfl rfl
theorem s115_23 : jx_Go jxP d 115 23 [l0, l1] st h Q ↔ jx_Go jxP d 115 25 [l0, l1] (.int (-6) :: st) h Q := jg_c rfl
theorem s115_25 : jx_Go jxP (d + 1) 115 25 [l0, l1] (.int x0 :: .ref a :: st) h Q ↔ (st.length ≤ 4 ∧ jx_cl h a = some 11 ∧ jx_Go jxP d 120 0 [.ref a, .int x0] [] h (fun s1 h1 => jx_Go jxP (d + 1) 115 28 [l0, l1] (s1 ++ st) h1 Q)) := jg_callV (as := [.int x0, .ref a]) rfl rfl rfl rfl rfl
theorem s115_28 : jx_Go jxP d 115 28 [l0, l1] [.int x] h Q ↔ Q [.int x] h := jx_rt rfl rfl
theorem s115_29 : jx_Go jxP d 115 29 [.ref a, l1] st h Q ↔ jx_Go jxP d 115 30 [.ref a, l1] (.ref a :: st) h Q := jg_al rfl rfl
theorem s115_30 : jx_Go jxP d 115 30 [l0, l1] (.ref a :: st) h Q ↔ ∃ v, jx_fl h a 11 3 = some v ∧ jx_Go jxP d 115 33 [l0, l1] (v :: st) h Q := jg_gf rfl
theorem s115_33 : jx_Go jxP d 115 33 [.ref a, l1] st h Q ↔ jx_Go jxP d 115 34 [.ref a, l1] (.ref a :: st) h Q := jg_al rfl rfl
theorem s115_34 : jx_Go jxP d 115 34 [l0, l1] (.ref a :: st) h Q ↔ ∃ v, jx_fl h a 11 0 = some v ∧ jx_Go jxP d 115 37 [l0, l1] (v :: st) h Q := jg_gf rfl
theorem s115_37 : jx_Go jxP (d + 1) 115 37 [l0, l1] (.ref a0 :: .ref a :: st) h Q ↔ (st.length ≤ 4 ∧ jx_cl h a = some 1 ∧ jx_Go jxP d 12 0 [.ref a, .ref a0] [] h (fun s1 h1 => jx_Go jxP (d + 1) 115 40 [l0, l1] (s1 ++ st) h1 Q)) := jg_callV (as := [.ref a0, .ref a]) rfl rfl rfl rfl rfl
theorem s115_40 : jx_Go jxP d 115 40 [.ref a, l1] st h Q ↔ jx_Go jxP d 115 41 [.ref a, l1] (.ref a :: st) h Q := jg_al rfl rfl
theorem s115_41 : jx_Go jxP d 115 41 [l0, l1] (.ref a :: st) h Q ↔ ∃ v, jx_fl h a 11 0 = some v ∧ jx_Go jxP d 115 44 [l0, l1] (v :: st) h Q := jg_gf rfl
theorem s115_44 : jx_Go jxP d 115 44 [.ref a, l1] st h Q ↔ jx_Go jxP d 115 45 [.ref a, l1] (.ref a :: st) h Q := jg_al rfl rfl
theorem s115_45 : jx_Go jxP d 115 45 [l0, l1] (.ref a :: st) h Q ↔ ∃ v, jx_fl h a 11 1 = some v ∧ jx_Go jxP d 115 48 [l0, l1] (v :: st) h Q := jg_gf rfl
theorem s115_48 : jx_Go jxP d 115 48 [l0, .int x] st h Q ↔ jx_Go jxP d 115 49 [l0, .int x] (.int x :: st) h Q := jg_il rfl rfl
theorem s115_49 : jx_Go jxP d 115 49 [l0, l1] (.int x :: .ref a :: st) h Q ↔ ∃ q, jx_ar h a 2 = some q ∧ jx_in x q.1 ∧ jx_Go jxP d 115 50 [l0, l1] (jx_rv (q.2 x.toNatClampNeg) :: st) h Q := jg_ra rfl
theorem s115_50 : jx_Go jxP (d + 1) 115 50 [l0, l1] (.ref a0 :: .ref a :: st) h Q ↔ (st.length ≤ 4 ∧ jx_cl h a = some 10 ∧ jx_Go jxP d 71 0 [.ref a, .ref a0] [] h (fun s1 h1 => jx_Go jxP (d + 1) 115 53 [l0, l1] (s1 ++ st) h1 Q)) := jg_callV (as := [.ref a0, .ref a]) rfl rfl rfl rfl rfl
theorem s115_53 : jx_Go jxP d 115 53 [.ref a, l1] st h Q ↔ jx_Go jxP d 115 54 [.ref a, l1] (.ref a :: st) h Q := jg_al rfl rfl
theorem s115_54 : jx_Go jxP (d + 1) 115 54 [l0, l1] (.ref a :: st) h Q ↔ (st.length ≤ 4 ∧ jx_cl h a = some 11 ∧ jx_Go jxP d 121 0 [.ref a] [] h (fun s1 h1 => jx_Go jxP (d + 1) 115 57 [l0, l1] (s1 ++ st) h1 Q)) := jg_callV (as := [.ref a]) rfl rfl rfl rfl rfl
theorem s115_57 : jx_Go jxP d 115 57 [.ref a, l1] st h Q ↔ jx_Go jxP d 115 58 [.ref a, l1] (.ref a :: st) h Q := jg_al rfl rfl
theorem s115_58 : jx_Go jxP d 115 58 [l0, l1] (.ref a :: st) h Q ↔ ∃ v, jx_fl h a 11 0 = some v ∧ jx_Go jxP d 115 61 [l0, l1] (v :: st) h Q := jg_gf rfl
theorem s115_61 : jx_Go jxP (d + 1) 115 61 [l0, l1] (.ref a :: st) h Q ↔ (st.length ≤ 4 ∧ jx_cl h a = some 10 ∧ jx_Go jxP d 68 0 [.ref a] [] h (fun s1 h1 => jx_Go jxP (d + 1) 115 64 [l0, l1] (s1 ++ st) h1 Q)) := jg_callV (as := [.ref a]) rfl rfl rfl rfl rfl
theorem s115_64 : jx_Go jxP d 115 64 [l0, l1] [.int x] h Q ↔ Q [.int x] h := jx_rt rfl rfl
-- 116 TalkBench.as
theorem s116_0 : jx_Go jxP d 116 0 [l0, .int x, l2] st h Q ↔ jx_Go jxP d 116 1 [l0, .int x, l2] (.int x :: st) h Q := jg_il rfl rfl
theorem s116_1 : jx_Go jxP (d + 1) 116 1 [l0, l1, l2] (.int x0 :: st) h Q ↔ (st.length ≤ 4 ∧ jx_Go jxP d 123 0 [.int x0] [] h (fun s1 h1 => jx_Go jxP (d + 1) 116 4 [l0, l1, l2] (s1 ++ st) h1 Q)) := jg_callS (as := [.int x0]) rfl rfl rfl rfl
theorem s116_4 : jx_Go jxP d 116 4 [l0, l1, l2] (.int x :: st) h Q ↔ if x = 0 then jx_Go jxP d 116 7 [l0, l1, l2] st h Q else jx_Go jxP d 116 16 [l0, l1, l2] st h Q := jg_ifN rfl rfl
theorem s116_7 : jx_Go jxP d 116 7 [l0, l1, .int x] st h Q ↔ jx_Go jxP d 116 8 [l0, l1, .int x] (.int x :: st) h Q := jg_il rfl rfl
theorem s116_8 : jx_Go jxP d 116 8 [l0, l1, l2] (.int x :: st) h Q ↔ if x < 0 then jx_Go jxP d 116 16 [l0, l1, l2] st h Q else jx_Go jxP d 116 11 [l0, l1, l2] st h Q := jg_ifP rfl rfl
theorem s116_11 : jx_Go jxP d 116 11 [l0, l1, .int x] st h Q ↔ jx_Go jxP d 116 12 [l0, l1, .int x] (.int x :: st) h Q := jg_il rfl rfl
theorem s116_12 : jx_Go jxP d 116 12 [l0, l1, l2] st h Q ↔ jx_Go jxP d 116 13 [l0, l1, l2] (.int (nI 3) :: st) h Q := jg_c rfl
theorem s116_13 : jx_Go jxP d 116 13 [l0, l1, l2] (.int y :: .int x :: st) h Q ↔ if x ≤ y then jx_Go jxP d 116 22 [l0, l1, l2] st h Q else jx_Go jxP d 116 16 [l0, l1, l2] st h Q := jg_icP rfl rfl
theorem s116_16 : jx_Go jxP d 116 16 [.ref a, l1, l2] st h Q ↔ jx_Go jxP d 116 17 [.ref a, l1, l2] (.ref a :: st) h Q := jg_al rfl rfl
theorem s116_17 : jx_Go jxP d 116 17 [l0, l1, l2] st h Q ↔ jx_Go jxP d 116 18 [l0, l1, l2] (.int (-1) :: st) h Q := jg_c rfl
theorem s116_18 : jx_Go jxP (d + 1) 116 18 [l0, l1, l2] (.int x0 :: .ref a :: st) h Q ↔ (st.length ≤ 4 ∧ jx_cl h a = some 11 ∧ jx_Go jxP d 120 0 [.ref a, .int x0] [] h (fun s1 h1 => jx_Go jxP (d + 1) 116 21 [l0, l1, l2] (s1 ++ st) h1 Q)) := jg_callV (as := [.int x0, .ref a]) rfl rfl rfl rfl rfl
theorem s116_21 : jx_Go jxP d 116 21 [l0, l1, l2] [.int x] h Q ↔ Q [.int x] h := jx_rt rfl rfl
theorem s116_22 : jx_Go jxP d 116 22 [.ref a, l1, l2] st h Q ↔ jx_Go jxP d 116 23 [.ref a, l1, l2] (.ref a :: st) h Q := jg_al rfl rfl
theorem s116_23 : jx_Go jxP d 116 23 [l0, l1, l2] (.ref a :: st) h Q ↔ ∃ v, jx_fl h a 11 1 = some v ∧ jx_Go jxP d 116 26 [l0, l1, l2] (v :: st) h Q := jg_gf rfl
theorem s116_26 : jx_Go jxP d 116 26 [l0, .int x, l2] st h Q ↔ jx_Go jxP d 116 27 [l0, .int x, l2] (.int x :: st) h Q := jg_il rfl rfl
theorem s116_27 : jx_Go jxP d 116 27 [l0, l1, l2] (.int x :: .ref a :: st) h Q ↔ ∃ q, jx_ar h a 2 = some q ∧ jx_in x q.1 ∧ jx_Go jxP d 116 28 [l0, l1, l2] (jx_rv (q.2 x.toNatClampNeg) :: st) h Q := jg_ra rfl
theorem s116_28r : jx_Go jxP d 116 28 [l0, l1, l2] (.ref a :: st) h Q ↔ jx_Go jxP d 116 38 [l0, l1, l2] st h Q := jg_nnR rfl
theorem s116_28n : jx_Go jxP d 116 28 [l0, l1, l2] (.null :: st) h Q ↔ jx_Go jxP d 116 31 [l0, l1, l2] st h Q := jg_nnN rfl
theorem s116_31 : jx_Go jxP d 116 31 [.ref a, l1, l2] st h Q ↔ jx_Go jxP d 116 32 [.ref a, l1, l2] (.ref a :: st) h Q := jg_al rfl rfl
theorem s116_32 : jx_Go jxP d 116 32 [l0, l1, l2] st h Q ↔ jx_Go jxP d 116 34 [l0, l1, l2] (.int (-6) :: st) h Q := jg_c rfl
theorem s116_34 : jx_Go jxP (d + 1) 116 34 [l0, l1, l2] (.int x0 :: .ref a :: st) h Q ↔ (st.length ≤ 4 ∧ jx_cl h a = some 11 ∧ jx_Go jxP d 120 0 [.ref a, .int x0] [] h (fun s1 h1 => jx_Go jxP (d + 1) 116 37 [l0, l1, l2] (s1 ++ st) h1 Q)) := jg_callV (as := [.int x0, .ref a]) rfl rfl rfl rfl rfl
theorem s116_37 : jx_Go jxP d 116 37 [l0, l1, l2] [.int x] h Q ↔ Q [.int x] h := jx_rt rfl rfl
theorem s116_38 : jx_Go jxP d 116 38 [.ref a, l1, l2] st h Q ↔ jx_Go jxP d 116 39 [.ref a, l1, l2] (.ref a :: st) h Q := jg_al rfl rfl
theorem s116_39 : jx_Go jxP d 116 39 [l0, l1, l2] (.ref a :: st) h Q ↔ ∃ v, jx_fl h a 11 1 = some v ∧ jx_Go jxP d 116 42 [l0, l1, l2] (v :: st) h Q := jg_gf rfl
theorem s116_42 : jx_Go jxP d 116 42 [l0, .int x, l2] st h Q ↔ jx_Go jxP d 116 43 [l0, .int x, l2] (.int x :: st) h Q := jg_il rfl rfl
theorem s116_43 : jx_Go jxP d 116 43 [l0, l1, l2] (.int x :: .ref a :: st) h Q ↔ ∃ q, jx_ar h a 2 = some q ∧ jx_in x q.1 ∧ jx_Go jxP d 116 44 [l0, l1, l2] (jx_rv (q.2 x.toNatClampNeg) :: st) h Q := jg_ra rfl
theorem s116_44 : jx_Go jxP (d + 1) 116 44 [l0, l1, l2] (.ref a :: st) h Q ↔ (st.length ≤ 4 ∧ jx_cl h a = some 10 ∧ jx_Go jxP d 73 0 [.ref a] [] h (fun s1 h1 => jx_Go jxP (d + 1) 116 47 [l0, l1, l2] (s1 ++ st) h1 Q)) := jg_callV (as := [.ref a]) rfl rfl rfl rfl rfl
theorem s116_47 : jx_Go jxP d 116 47 [l0, l1, .int x] st h Q ↔ jx_Go jxP d 116 48 [l0, l1, .int x] (.int x :: st) h Q := jg_il rfl rfl
theorem s116_48 : jx_Go jxP (d + 1) 116 48 [l0, l1, l2] (.int x1 :: .int x0 :: st) h Q ↔ (st.length ≤ 4 ∧ jx_Go jxP d 125 0 [.int x0, .int x1] [] h (fun s1 h1 => jx_Go jxP (d + 1) 116 51 [l0, l1, l2] (s1 ++ st) h1 Q)) := jg_callS (as := [.int x1, .int x0]) rfl rfl rfl rfl
theorem s116_51 : jx_Go jxP d 116 51 [l0, l1, l2] (.int x :: st) h Q ↔ if x = 0 then jx_Go jxP d 116 54 [l0, l1, l2] st h Q else jx_Go jxP d 116 61 [l0, l1, l2] st h Q := jg_ifN rfl rfl
theorem s116_54 : jx_Go jxP d 116 54 [.ref a, l1, l2] st h Q ↔ jx_Go jxP d 116 55 [.ref a, l1, l2] (.ref a :: st) h Q := jg_al rfl rfl
theorem s116_55 : jx_Go jxP d 116 55 [l0, l1, l2] st h Q ↔ jx_Go jxP d 116 57 [l0, l1, l2] (.int (-4) :: st) h Q := jg_c rfl
theorem s116_57 : jx_Go jxP (d + 1) 116 57 [l0, l1, l2] (.int x0 :: .ref a :: st) h Q ↔ (st.length ≤ 4 ∧ jx_cl h a = some 11 ∧ jx_Go jxP d 120 0 [.ref a, .int x0] [] h (fun s1 h1 => jx_Go jxP (d + 1) 116 60 [l0, l1, l2] (s1 ++ st) h1 Q)) := jg_callV (as := [.int x0, .ref a]) rfl rfl rfl rfl rfl
theorem s116_60 : jx_Go jxP d 116 60 [l0, l1, l2] [.int x] h Q ↔ Q [.int x] h := jx_rt rfl rfl
theorem s116_61 : jx_Go jxP d 116 61 [.ref a, l1, l2] st h Q ↔ jx_Go jxP d 116 62 [.ref a, l1, l2] (.ref a :: st) h Q := jg_al rfl rfl
theorem s116_62 : jx_Go jxP d 116 62 [l0, l1, l2] (.ref a :: st) h Q ↔ ∃ v, jx_fl h a 11 1 = some v ∧ jx_Go jxP d 116 65 [l0, l1, l2] (v :: st) h Q := jg_gf rfl
theorem s116_65 : jx_Go jxP d 116 65 [l0, .int x, l2] st h Q ↔ jx_Go jxP d 116 66 [l0, .int x, l2] (.int x :: st) h Q := jg_il rfl rfl
theorem s116_66 : jx_Go jxP d 116 66 [l0, l1, l2] (.int x :: .ref a :: st) h Q ↔ ∃ q, jx_ar h a 2 = some q ∧ jx_in x q.1 ∧ jx_Go jxP d 116 67 [l0, l1, l2] (jx_rv (q.2 x.toNatClampNeg) :: st) h Q := jg_ra rfl
theorem s116_67 : jx_Go jxP d 116 67 [l0, l1, l2] st h Q ↔ jx_Go jxP d 116 68 [l0, l1, l2] (.int (nI 1) :: st) h Q := jg_c rfl
theorem s116_68 : jx_Go jxP (d + 1) 116 68 [l0, l1, l2] (.int x0 :: .ref a :: st) h Q ↔ (st.length ≤ 4 ∧ jx_cl h a = some 10 ∧ jx_Go jxP d 72 0 [.ref a, .int x0, jx_u, jx_u, jx_u] [] h (fun s1 h1 => jx_Go jxP (d + 1) 116 71 [l0, l1, l2] (s1 ++ st) h1 Q)) := jg_callV (as := [.int x0, .ref a]) rfl rfl rfl rfl rfl
theorem s116_71 : jx_Go jxP d 116 71 [l0, l1, l2] [.int x] h Q ↔ Q [.int x] h := jx_rt rfl rfl
-- 117 TalkBench.same
theorem s117_0 : jx_Go jxP d 117 0 [l0, .int x] st h Q ↔ jx_Go jxP d 117 1 [l0, .int x] (.int x :: st) h Q := jg_il rfl rfl
theorem s117_1 : jx_Go jxP (d + 1) 117 1 [l0, l1] (.int x0 :: st) h Q ↔ (st.length ≤ 4 ∧ jx_Go jxP d 123 0 [.int x0] [] h (fun s1 h1 => jx_Go jxP (d + 1) 117 4 [l0, l1] (s1 ++ st) h1 Q)) := jg_callS (as := [.int x0]) rfl rfl rfl rfl
theorem s117_4 : jx_Go jxP d 117 4 [l0, l1] (.int x :: st) h Q ↔ if x = 0 then jx_Go jxP d 117 13 [l0, l1] st h Q else jx_Go jxP d 117 7 [l0, l1] st h Q := jg_ifP rfl rfl
theorem s117_7 : jx_Go jxP d 117 7 [.ref a, l1] st h Q ↔ jx_Go jxP d 117 8 [.ref a, l1] (.ref a :: st) h Q := jg_al rfl rfl
theorem s117_8 : jx_Go jxP d 117 8 [l0, l1] st h Q ↔ jx_Go jxP d 117 9 [l0, l1] (.int (-1) :: st) h Q := jg_c rfl
theorem s117_9 : jx_Go jxP (d + 1) 117 9 [l0, l1] (.int x0 :: .ref a :: st) h Q ↔ (st.length ≤ 4 ∧ jx_cl h a = some 11 ∧ jx_Go jxP d 120 0 [.ref a, .int x0] [] h (fun s1 h1 => jx_Go jxP (d + 1) 117 12 [l0, l1] (s1 ++ st) h1 Q)) := jg_callV (as := [.int x0, .ref a]) rfl rfl rfl rfl rfl
theorem s117_12 : jx_Go jxP d 117 12 [l0, l1] [.int x] h Q ↔ Q [.int x] h := jx_rt rfl rfl
theorem s117_13 : jx_Go jxP d 117 13 [.ref a, l1] st h Q ↔ jx_Go jxP d 117 14 [.ref a, l1] (.ref a :: st) h Q := jg_al rfl rfl
theorem s117_14 : jx_Go jxP d 117 14 [l0, l1] (.ref a :: st) h Q ↔ ∃ v, jx_fl h a 11 1 = some v ∧ jx_Go jxP d 117 17 [l0, l1] (v :: st) h Q := jg_gf rfl
theorem s117_17 : jx_Go jxP d 117 17 [l0, .int x] st h Q ↔ jx_Go jxP d 117 18 [l0, .int x] (.int x :: st) h Q := jg_il rfl rfl
theorem s117_18 : jx_Go jxP d 117 18 [l0, l1] (.int x :: .ref a :: st) h Q ↔ ∃ q, jx_ar h a 2 = some q ∧ jx_in x q.1 ∧ jx_Go jxP d 117 19 [l0, l1] (jx_rv (q.2 x.toNatClampNeg) :: st) h Q := jg_ra rfl
theorem s117_19r : jx_Go jxP d 117 19 [l0, l1] (.ref a :: st) h Q ↔ jx_Go jxP d 117 29 [l0, l1] st h Q := jg_nnR rfl
theorem s117_19n : jx_Go jxP d 117 19 [l0, l1] (.null :: st) h Q ↔ jx_Go jxP d 117 22 [l0, l1] st h Q := jg_nnN rfl
theorem s117_22 : jx_Go jxP d 117 22 [.ref a, l1] st h Q ↔ jx_Go jxP d 117 23 [.ref a, l1] (.ref a :: st) h Q := jg_al rfl rfl
theorem s117_23 : jx_Go jxP d 117 23 [l0, l1] st h Q ↔ jx_Go jxP d 117 25 [l0, l1] (.int (-6) :: st) h Q := jg_c rfl
theorem s117_25 : jx_Go jxP (d + 1) 117 25 [l0, l1] (.int x0 :: .ref a :: st) h Q ↔ (st.length ≤ 4 ∧ jx_cl h a = some 11 ∧ jx_Go jxP d 120 0 [.ref a, .int x0] [] h (fun s1 h1 => jx_Go jxP (d + 1) 117 28 [l0, l1] (s1 ++ st) h1 Q)) := jg_callV (as := [.int x0, .ref a]) rfl rfl rfl rfl rfl
theorem s117_28 : jx_Go jxP d 117 28 [l0, l1] [.int x] h Q ↔ Q [.int x] h := jx_rt rfl rfl
theorem s117_29 : jx_Go jxP d 117 29 [.ref a, l1] st h Q ↔ jx_Go jxP d 117 30 [.ref a, l1] (.ref a :: st) h Q := jg_al rfl rfl
theorem s117_30 : jx_Go jxP d 117 30 [l0, l1] (.ref a :: st) h Q ↔ ∃ v, jx_fl h a 11 10 = some v ∧ jx_Go jxP d 117 33 [l0, l1] (v :: st) h Q := jg_gf rfl
theorem s117_33 : jx_Go jxP d 117 33 [.ref a, l1] st h Q ↔ jx_Go jxP d 117 34 [.ref a, l1] (.ref a :: st) h Q := jg_al rfl rfl
theorem s117_34 : jx_Go jxP d 117 34 [l0, l1] (.ref a :: st) h Q ↔ ∃ v, jx_fl h a 11 0 = some v ∧ jx_Go jxP d 117 37 [l0, l1] (v :: st) h Q := jg_gf rfl
theorem s117_37 : jx_Go jxP d 117 37 [.ref a, l1] st h Q ↔ jx_Go jxP d 117 38 [.ref a, l1] (.ref a :: st) h Q := jg_al rfl rfl
theorem s117_38 : jx_Go jxP d 117 38 [l0, l1] (.ref a :: st) h Q ↔ ∃ v, jx_fl h a 11 1 = some v ∧ jx_Go jxP d 117 41 [l0, l1] (v :: st) h Q := jg_gf rfl
theorem s117_41 : jx_Go jxP d 117 41 [l0, .int x] st h Q ↔ jx_Go jxP d 117 42 [l0, .int x] (.int x :: st) h Q := jg_il rfl rfl
theorem s117_42 : jx_Go jxP d 117 42 [l0, l1] (.int x :: .ref a :: st) h Q ↔ ∃ q, jx_ar h a 2 = some q ∧ jx_in x q.1 ∧ jx_Go jxP d 117 43 [l0, l1] (jx_rv (q.2 x.toNatClampNeg) :: st) h Q := jg_ra rfl
theorem s117_43 : jx_Go jxP (d + 1) 117 43 [l0, l1] (.ref a1 :: .ref a0 :: .ref a :: st) h Q ↔ (st.length ≤ 4 ∧ jx_cl h a = some 3 ∧ jx_Go jxP d 22 0 [.ref a, .ref a0, .ref a1, jx_u] [] h (fun s1 h1 => jx_Go jxP (d + 1) 117 46 [l0, l1] (s1 ++ st) h1 Q)) := jg_callV (as := [.ref a1, .ref a0, .ref a]) rfl rfl rfl rfl rfl
theorem s117_46 : jx_Go jxP d 117 46 [l0, l1] (.int x :: st) h Q ↔ if x = 0 then jx_Go jxP d 117 53 [l0, l1] st h Q else jx_Go jxP d 117 49 [l0, l1] st h Q := jg_ifP rfl rfl
theorem s117_49 : jx_Go jxP d 117 49 [l0, l1] st h Q ↔ jx_Go jxP d 117 50 [l0, l1] (.int (nI 1) :: st) h Q := jg_c rfl
theorem s117_50 : jx_Go jxP d 117 50 [l0, l1] st h Q ↔ jx_Go jxP d 117 54 [l0, l1] st h Q := jg_go rfl
theorem s117_53 : jx_Go jxP d 117 53 [l0, l1] st h Q ↔ jx_Go jxP d 117 54 [l0, l1] (.int (nI 0) :: st) h Q := jg_c rfl
theorem s117_54 : jx_Go jxP d 117 54 [l0, l1] [.int x] h Q ↔ Q [.int x] h := jx_rt rfl rfl
-- 118 TalkBench.undo
theorem s118_0 : jx_Go jxP d 118 0 [.ref a] st h Q ↔ jx_Go jxP d 118 1 [.ref a] (.ref a :: st) h Q := jg_al rfl rfl
theorem s118_1 : jx_Go jxP d 118 1 [l0] (.ref a :: st) h Q ↔ ∃ v, jx_fl h a 11 3 = some v ∧ jx_Go jxP d 118 4 [l0] (v :: st) h Q := jg_gf rfl
theorem s118_4 : jx_Go jxP d 118 4 [l0] (.ref a :: st) h Q ↔ ∃ v, jx_fl h a 1 2 = some v ∧ jx_Go jxP d 118 7 [l0] (v :: st) h Q := jg_gf rfl
theorem s118_7 : jx_Go jxP d 118 7 [l0] (.int x :: st) h Q ↔ if x = 0 then jx_Go jxP d 118 10 [l0] st h Q else jx_Go jxP d 118 17 [l0] st h Q := jg_ifN rfl rfl
theorem s118_10 : jx_Go jxP d 118 10 [.ref a] st h Q ↔ jx_Go jxP d 118 11 [.ref a] (.ref a :: st) h Q := jg_al rfl rfl
theorem s118_11 : jx_Go jxP d 118 11 [l0] st h Q ↔ jx_Go jxP d 118 13 [l0] (.int (-6) :: st) h Q := jg_c rfl
theorem s118_13 : jx_Go jxP (d + 1) 118 13 [l0] (.int x0 :: .ref a :: st) h Q ↔ (st.length ≤ 4 ∧ jx_cl h a = some 11 ∧ jx_Go jxP d 120 0 [.ref a, .int x0] [] h (fun s1 h1 => jx_Go jxP (d + 1) 118 16 [l0] (s1 ++ st) h1 Q)) := jg_callV (as := [.int x0, .ref a]) rfl rfl rfl rfl rfl
theorem s118_16 : jx_Go jxP d 118 16 [l0] [.int x] h Q ↔ Q [.int x] h := jx_rt rfl rfl
theorem s118_17 : jx_Go jxP d 118 17 [.ref a] st h Q ↔ jx_Go jxP d 118 18 [.ref a] (.ref a :: st) h Q := jg_al rfl rfl
theorem s118_18 : jx_Go jxP d 118 18 [l0] (.ref a :: st) h Q ↔ ∃ v, jx_fl h a 11 3 = some v ∧ jx_Go jxP d 118 21 [l0] (v :: st) h Q := jg_gf rfl
theorem s118_21 : jx_Go jxP d 118 21 [.ref a] st h Q ↔ jx_Go jxP d 118 22 [.ref a] (.ref a :: st) h Q := jg_al rfl rfl
theorem s118_22 : jx_Go jxP d 118 22 [l0] (.ref a :: st) h Q ↔ ∃ v, jx_fl h a 11 0 = some v ∧ jx_Go jxP d 118 25 [l0] (v :: st) h Q := jg_gf rfl
theorem s118_25 : jx_Go jxP (d + 1) 118 25 [l0] (.ref a0 :: .ref a :: st) h Q ↔ (st.length ≤ 4 ∧ jx_cl h a = some 1 ∧ jx_Go jxP d 13 0 [.ref a, .ref a0] [] h (fun s1 h1 => jx_Go jxP (d + 1) 118 28 [l0] (s1 ++ st) h1 Q)) := jg_callV (as := [.ref a0, .ref a]) rfl rfl rfl rfl rfl
theorem s118_28 : jx_Go jxP d 118 28 [.ref a] st h Q ↔ jx_Go jxP d 118 29 [.ref a] (.ref a :: st) h Q := jg_al rfl rfl
theorem s118_29 : jx_Go jxP (d + 1) 118 29 [l0] (.ref a :: st) h Q ↔ (st.length ≤ 4 ∧ jx_cl h a = some 11 ∧ jx_Go jxP d 121 0 [.ref a] [] h (fun s1 h1 => jx_Go jxP (d + 1) 118 32 [l0] (s1 ++ st) h1 Q)) := jg_callV (as := [.ref a]) rfl rfl rfl rfl rfl
theorem s118_32 : jx_Go jxP d 118 32 [.ref a] st h Q ↔ jx_Go jxP d 118 33 [.ref a] (.ref a :: st) h Q := jg_al rfl rfl
theorem s118_33 : jx_Go jxP d 118 33 [l0] (.ref a :: st) h Q ↔ ∃ v, jx_fl h a 11 3 = some v ∧ jx_Go jxP d 118 36 [l0] (v :: st) h Q := jg_gf rfl
theorem s118_36 : jx_Go jxP d 118 36 [l0] (.ref a :: st) h Q ↔ ∃ v, jx_fl h a 1 2 = some v ∧ jx_Go jxP d 118 39 [l0] (v :: st) h Q := jg_gf rfl
theorem s118_39 : jx_Go jxP d 118 39 [l0] [.int x] h Q ↔ Q [.int x] h := jx_rt rfl rfl
-- 119 TalkBench.told
theorem s119_0 : jx_Go jxP d 119 0 [l0, .int x] st h Q ↔ jx_Go jxP d 119 1 [l0, .int x] (.int x :: st) h Q := jg_il rfl rfl
theorem s119_1 : jx_Go jxP d 119 1 [l0, l1] (.int x :: st) h Q ↔ jx_Go jxP d 119 (js_swt 1 98 0 6 [43, 51, 59, 68, 77, 85, 93] x) [l0, l1] st h Q := jg_sw rfl
theorem s119_44 : jx_Go jxP d 119 44 [.ref a, l1] st h Q ↔ jx_Go jxP d 119 45 [.ref a, l1] (.ref a :: st) h Q := jg_al rfl rfl
theorem s119_45 : jx_Go jxP d 119 45 [l0, l1] (.ref a :: st) h Q ↔ ∃ v, jx_fl h a 11 0 = some v ∧ jx_Go jxP d 119 48 [l0, l1] (v :: st) h Q := jg_gf rfl
theorem s119_48 : jx_Go jxP d 119 48 [l0, l1] (.ref a :: st) h Q ↔ ∃ v, jx_fl h a 10 0 = some v ∧ jx_Go jxP d 119 51 [l0, l1] (v :: st) h Q := jg_gf rfl
theorem s119_51 : jx_Go jxP d 119 51 [l0, l1] [.int x] h Q ↔ Q [.int x] h := jx_rt rfl rfl
theorem s119_52 : jx_Go jxP d 119 52 [.ref a, l1] st h Q ↔ jx_Go jxP d 119 53 [.ref a, l1] (.ref a :: st) h Q := jg_al rfl rfl
theorem s119_53 : jx_Go jxP d 119 53 [l0, l1] (.ref a :: st) h Q ↔ ∃ v, jx_fl h a 11 0 = some v ∧ jx_Go jxP d 119 56 [l0, l1] (v :: st) h Q := jg_gf rfl
theorem s119_56 : jx_Go jxP d 119 56 [l0, l1] (.ref a :: st) h Q ↔ ∃ v, jx_fl h a 10 1 = some v ∧ jx_Go jxP d 119 59 [l0, l1] (v :: st) h Q := jg_gf rfl
theorem s119_59 : jx_Go jxP d 119 59 [l0, l1] [.int x] h Q ↔ Q [.int x] h := jx_rt rfl rfl
theorem s119_60 : jx_Go jxP d 119 60 [.ref a, l1] st h Q ↔ jx_Go jxP d 119 61 [.ref a, l1] (.ref a :: st) h Q := jg_al rfl rfl
theorem s119_61 : jx_Go jxP d 119 61 [l0, l1] (.ref a :: st) h Q ↔ ∃ v, jx_fl h a 11 0 = some v ∧ jx_Go jxP d 119 64 [l0, l1] (v :: st) h Q := jg_gf rfl
theorem s119_64 : jx_Go jxP d 119 64 [l0, l1] st h Q ↔ jx_Go jxP d 119 65 [l0, l1] (.int (nI 1) :: st) h Q := jg_c rfl
theorem s119_65 : jx_Go jxP (d + 1) 119 65 [l0, l1] (.int x0 :: .ref a :: st) h Q ↔ (st.length ≤ 4 ∧ jx_cl h a = some 10 ∧ jx_Go jxP d 72 0 [.ref a, .int x0, jx_u, jx_u, jx_u] [] h (fun s1 h1 => jx_Go jxP (d + 1) 119 68 [l0, l1] (s1 ++ st) h1 Q)) := jg_callV (as := [.int x0, .ref a]) rfl rfl rfl rfl rfl
theorem s119_68 : jx_Go jxP d 119 68 [l0, l1] [.int x] h Q ↔ Q [.int x] h := jx_rt rfl rfl
theorem s119_69 : jx_Go jxP d 119 69 [.ref a, l1] st h Q ↔ jx_Go jxP d 119 70 [.ref a, l1] (.ref a :: st) h Q := jg_al rfl rfl
theorem s119_70 : jx_Go jxP d 119 70 [l0, l1] (.ref a :: st) h Q ↔ ∃ v, jx_fl h a 11 0 = some v ∧ jx_Go jxP d 119 73 [l0, l1] (v :: st) h Q := jg_gf rfl
theorem s119_73 : jx_Go jxP d 119 73 [l0, l1] st h Q ↔ jx_Go jxP d 119 74 [l0, l1] (.int (nI 2) :: st) h Q := jg_c rfl
theorem s119_74 : jx_Go jxP (d + 1) 119 74 [l0, l1] (.int x0 :: .ref a :: st) h Q ↔ (st.length ≤ 4 ∧ jx_cl h a = some 10 ∧ jx_Go jxP d 72 0 [.ref a, .int x0, jx_u, jx_u, jx_u] [] h (fun s1 h1 => jx_Go jxP (d + 1) 119 77 [l0, l1] (s1 ++ st) h1 Q)) := jg_callV (as := [.int x0, .ref a]) rfl rfl rfl rfl rfl
theorem s119_77 : jx_Go jxP d 119 77 [l0, l1] [.int x] h Q ↔ Q [.int x] h := jx_rt rfl rfl
theorem s119_78 : jx_Go jxP d 119 78 [.ref a, l1] st h Q ↔ jx_Go jxP d 119 79 [.ref a, l1] (.ref a :: st) h Q := jg_al rfl rfl
theorem s119_79 : jx_Go jxP d 119 79 [l0, l1] (.ref a :: st) h Q ↔ ∃ v, jx_fl h a 11 8 = some v ∧ jx_Go jxP d 119 82 [l0, l1] (v :: st) h Q := jg_gf rfl
theorem s119_82 : jx_Go jxP d 119 82 [l0, l1] (.ref a :: st) h Q ↔ ∃ v, jx_fl h a 2 3 = some v ∧ jx_Go jxP d 119 85 [l0, l1] (v :: st) h Q := jg_gf rfl
theorem s119_85 : jx_Go jxP d 119 85 [l0, l1] [.int x] h Q ↔ Q [.int x] h := jx_rt rfl rfl
theorem s119_86 : jx_Go jxP d 119 86 [.ref a, l1] st h Q ↔ jx_Go jxP d 119 87 [.ref a, l1] (.ref a :: st) h Q := jg_al rfl rfl
theorem s119_87 : jx_Go jxP d 119 87 [l0, l1] (.ref a :: st) h Q ↔ ∃ v, jx_fl h a 11 7 = some v ∧ jx_Go jxP d 119 90 [l0, l1] (v :: st) h Q := jg_gf rfl
theorem s119_90 : jx_Go jxP d 119 90 [l0, l1] (.ref a :: st) h Q ↔ ∃ v, jx_fl h a 9 8 = some v ∧ jx_Go jxP d 119 93 [l0, l1] (v :: st) h Q := jg_gf rfl
theorem s119_93 : jx_Go jxP d 119 93 [l0, l1] [.int x] h Q ↔ Q [.int x] h := jx_rt rfl rfl
theorem s119_94 : jx_Go jxP d 119 94 [.ref a, l1] st h Q ↔ jx_Go jxP d 119 95 [.ref a, l1] (.ref a :: st) h Q := jg_al rfl rfl
theorem s119_95 : jx_Go jxP d 119 95 [l0, l1] (.ref a :: st) h Q ↔ ∃ v, jx_fl h a 11 11 = some v ∧ jx_Go jxP d 119 98 [l0, l1] (v :: st) h Q := jg_gf rfl
theorem s119_98 : jx_Go jxP d 119 98 [l0, l1] [.int x] h Q ↔ Q [.int x] h := jx_rt rfl rfl
theorem s119_99 : jx_Go jxP d 119 99 [.ref a, l1] st h Q ↔ jx_Go jxP d 119 100 [.ref a, l1] (.ref a :: st) h Q := jg_al rfl rfl
theorem s119_100 : jx_Go jxP d 119 100 [l0, l1] st h Q ↔ jx_Go jxP d 119 101 [l0, l1] (.int (-1) :: st) h Q := jg_c rfl
theorem s119_101 : jx_Go jxP (d + 1) 119 101 [l0, l1] (.int x0 :: .ref a :: st) h Q ↔ (st.length ≤ 4 ∧ jx_cl h a = some 11 ∧ jx_Go jxP d 120 0 [.ref a, .int x0] [] h (fun s1 h1 => jx_Go jxP (d + 1) 119 104 [l0, l1] (s1 ++ st) h1 Q)) := jg_callV (as := [.int x0, .ref a]) rfl rfl rfl rfl rfl
theorem s119_104 : jx_Go jxP d 119 104 [l0, l1] [.int x] h Q ↔ Q [.int x] h := jx_rt rfl rfl
-- 120 TalkBench.finding
theorem s120_0 : jx_Go jxP d 120 0 [.ref a, l1] st h Q ↔ jx_Go jxP d 120 1 [.ref a, l1] (.ref a :: st) h Q := jg_al rfl rfl
theorem s120_1i : jx_Go jxP d 120 1 [l0, l1] (.int x :: st) h Q ↔ jx_Go jxP d 120 2 [l0, l1] (.int x :: .int x :: st) h Q := jg_dI rfl
theorem s120_1r : jx_Go jxP d 120 1 [l0, l1] (.ref a :: st) h Q ↔ jx_Go jxP d 120 2 [l0, l1] (.ref a :: .ref a :: st) h Q := jg_dR rfl
theorem s120_2 : jx_Go jxP d 120 2 [l0, l1] (.ref a :: st) h Q ↔ ∃ v, jx_fl h a 11 11 = some v ∧ jx_Go jxP d 120 5 [l0, l1] (v :: st) h Q := jg_gf rfl
theorem s120_5 : jx_Go jxP d 120 5 [l0, l1] st h Q ↔ jx_Go jxP d 120 6 [l0, l1] (.int (nI 1) :: st) h Q := jg_c rfl
theorem s120_6 : jx_Go jxP d 120 6 [l0, l1] (.int y :: .int x :: st) h Q ↔ jx_Go jxP d 120 7 [l0, l1] (.int (x + y) :: st) h Q := jg_b (f := fun x y => x + y) rfl
theorem s120_7 : jx_Go jxP d 120 7 [l0, l1] (.int x :: .ref a :: st) h Q ↔ ∃ v, jx_fl h a 11 11 = some v ∧ jx_Go jxP d 120 10 [l0, l1] st (jx_uf h a 11 (.int x)) Q := jg_pfI rfl
theorem s120_10 : jx_Go jxP d 120 10 [l0, .int x] st h Q ↔ jx_Go jxP d 120 11 [l0, .int x] (.int x :: st) h Q := jg_il rfl rfl
theorem s120_11 : jx_Go jxP d 120 11 [l0, l1] [.int x] h Q ↔ Q [.int x] h := jx_rt rfl rfl
-- 121 TalkBench.takeNewPlaces
theorem s121_0 : jx_Go jxP d 121 0 [.ref a] st h Q ↔ jx_Go jxP d 121 1 [.ref a] (.ref a :: st) h Q := jg_al rfl rfl
theorem s121_1 : jx_Go jxP d 121 1 [l0] (.ref a :: st) h Q ↔ ∃ v, jx_fl h a 11 4 = some v ∧ jx_Go jxP d 121 4 [l0] (v :: st) h Q := jg_gf rfl
theorem s121_4 : jx_Go jxP d 121 4 [.ref a] st h Q ↔ jx_Go jxP d 121 5 [.ref a] (.ref a :: st) h Q := jg_al rfl rfl
theorem s121_5 : jx_Go jxP d 121 5 [l0] (.ref a :: st) h Q ↔ ∃ v, jx_fl h a 11 0 = some v ∧ jx_Go jxP d 121 8 [l0] (v :: st) h Q := jg_gf rfl
theorem s121_8 : jx_Go jxP (d + 1) 121 8 [l0] (.ref a0 :: .ref a :: st) h Q ↔ (st.length ≤ 4 ∧ jx_cl h a = some 4 ∧ jx_Go jxP d 28 0 [.ref a, .ref a0, jx_u, jx_u] [] h (fun s1 h1 => jx_Go jxP (d + 1) 121 11 [l0] (s1 ++ st) h1 Q)) := jg_callV (as := [.ref a0, .ref a]) rfl rfl rfl rfl rfl
theorem s121_11 : jx_Go jxP d 121 11 [.ref a] st h Q ↔ jx_Go jxP d 121 12 [.ref a] (.ref a :: st) h Q := jg_al rfl rfl
theorem s121_12 : jx_Go jxP d 121 12 [l0] (.ref a :: st) h Q ↔ ∃ v, jx_fl h a 11 5 = some v ∧ jx_Go jxP d 121 15 [l0] (v :: st) h Q := jg_gf rfl
theorem s121_15 : jx_Go jxP (d + 1) 121 15 [l0] (.ref a :: st) h Q ↔ (st.length ≤ 4 ∧ jx_cl h a = some 0 ∧ jx_Go jxP d 1 0 [.ref a] [] h (fun s1 h1 => jx_Go jxP (d + 1) 121 18 [l0] (s1 ++ st) h1 Q)) := jg_callV (as := [.ref a]) rfl rfl rfl rfl rfl
theorem s121_18 : jx_Go jxP d 121 18 [.ref a] st h Q ↔ jx_Go jxP d 121 19 [.ref a] (.ref a :: st) h Q := jg_al rfl rfl
theorem s121_19 : jx_Go jxP d 121 19 [l0] (.ref a :: st) h Q ↔ ∃ v, jx_fl h a 11 6 = some v ∧ jx_Go jxP d 121 22 [l0] (v :: st) h Q := jg_gf rfl
theorem s121_22 : jx_Go jxP (d + 1) 121 22 [l0] (.ref a :: st) h Q ↔ (st.length ≤ 4 ∧ jx_cl h a = some 6 ∧ jx_Go jxP d 36 0 [.ref a] [] h (fun s1 h1 => jx_Go jxP (d + 1) 121 25 [l0] (s1 ++ st) h1 Q)) := jg_callV (as := [.ref a]) rfl rfl rfl rfl rfl
theorem s121_25 : jx_Go jxP d 121 25 [.ref a] st h Q ↔ jx_Go jxP d 121 26 [.ref a] (.ref a :: st) h Q := jg_al rfl rfl
theorem s121_26 : jx_Go jxP d 121 26 [l0] (.ref a :: st) h Q ↔ ∃ v, jx_fl h a 11 7 = some v ∧ jx_Go jxP d 121 29 [l0] (v :: st) h Q := jg_gf rfl
theorem s121_29 : jx_Go jxP (d + 1) 121 29 [l0] (.ref a :: st) h Q ↔ (st.length ≤ 4 ∧ jx_cl h a = some 9 ∧ jx_Go jxP d 62 0 [.ref a] [] h (fun s1 h1 => jx_Go jxP (d + 1) 121 32 [l0] (s1 ++ st) h1 Q)) := jg_callV (as := [.ref a]) rfl rfl rfl rfl rfl
theorem s121_32 : jx_Go jxP d 121 32 [l0] [] h Q ↔ Q [] h := jx_rt rfl rfl
-- 122 TalkBench.noSheet
theorem s122_0 : jx_Go jxP d 122 0 [.int x] st h Q ↔ jx_Go jxP d 122 1 [.int x] (.int x :: st) h Q := jg_il rfl rfl
theorem s122_1 : jx_Go jxP d 122 1 [l0] (.int x :: st) h Q ↔ if x < 0 then jx_Go jxP d 122 9 [l0] st h Q else jx_Go jxP d 122 4 [l0] st h Q := jg_ifP rfl rfl
theorem s122_4 : jx_Go jxP d 122 4 [.int x] st h Q ↔ jx_Go jxP d 122 5 [.int x] (.int x :: st) h Q := jg_il rfl rfl
theorem s122_5 : jx_Go jxP d 122 5 [l0] st h Q ↔ jx_Go jxP d 122 6 [l0] (.int (nI 4) :: st) h Q := jg_c rfl
theorem s122_6 : jx_Go jxP d 122 6 [l0] (.int y :: .int x :: st) h Q ↔ if x < y then jx_Go jxP d 122 13 [l0] st h Q else jx_Go jxP d 122 9 [l0] st h Q := jg_icP rfl rfl
theorem s122_9 : jx_Go jxP d 122 9 [l0] st h Q ↔ jx_Go jxP d 122 10 [l0] (.int (nI 1) :: st) h Q := jg_c rfl
theorem s122_10 : jx_Go jxP d 122 10 [l0] st h Q ↔ jx_Go jxP d 122 14 [l0] st h Q := jg_go rfl
theorem s122_13 : jx_Go jxP d 122 13 [l0] st h Q ↔ jx_Go jxP d 122 14 [l0] (.int (nI 0) :: st) h Q := jg_c rfl
theorem s122_14b0 : jx_Go jxP d 122 14 [l0] [.int (nI 0)] h Q ↔ Q [.int (nI 0)] h := jx_rt rfl rfl
theorem s122_14b1 : jx_Go jxP d 122 14 [l0] [.int (nI 1)] h Q ↔ Q [.int (nI 1)] h := jx_rt rfl rfl
-- 123 TalkBench.noSlot
theorem s123_0 : jx_Go jxP d 123 0 [.int x] st h Q ↔ jx_Go jxP d 123 1 [.int x] (.int x :: st) h Q := jg_il rfl rfl
theorem s123_1 : jx_Go jxP d 123 1 [l0] (.int x :: st) h Q ↔ if x < 0 then jx_Go jxP d 123 9 [l0] st h Q else jx_Go jxP d 123 4 [l0] st h Q := jg_ifP rfl rfl
theorem s123_4 : jx_Go jxP d 123 4 [.int x] st h Q ↔ jx_Go jxP d 123 5 [.int x] (.int x :: st) h Q := jg_il rfl rfl
theorem s123_5 : jx_Go jxP d 123 5 [l0] st h Q ↔ jx_Go jxP d 123 6 [l0] (.int (nI 4) :: st) h Q := jg_c rfl
theorem s123_6 : jx_Go jxP d 123 6 [l0] (.int y :: .int x :: st) h Q ↔ if x < y then jx_Go jxP d 123 13 [l0] st h Q else jx_Go jxP d 123 9 [l0] st h Q := jg_icP rfl rfl
theorem s123_9 : jx_Go jxP d 123 9 [l0] st h Q ↔ jx_Go jxP d 123 10 [l0] (.int (nI 1) :: st) h Q := jg_c rfl
theorem s123_10 : jx_Go jxP d 123 10 [l0] st h Q ↔ jx_Go jxP d 123 14 [l0] st h Q := jg_go rfl
theorem s123_13 : jx_Go jxP d 123 13 [l0] st h Q ↔ jx_Go jxP d 123 14 [l0] (.int (nI 0) :: st) h Q := jg_c rfl
theorem s123_14b0 : jx_Go jxP d 123 14 [l0] [.int (nI 0)] h Q ↔ Q [.int (nI 0)] h := jx_rt rfl rfl
theorem s123_14b1 : jx_Go jxP d 123 14 [l0] [.int (nI 1)] h Q ↔ Q [.int (nI 1)] h := jx_rt rfl rfl
-- 124 TalkBench.isNoAnswer
theorem s124_0 : jx_Go jxP d 124 0 [.int x] st h Q ↔ jx_Go jxP d 124 1 [.int x] (.int x :: st) h Q := jg_il rfl rfl
theorem s124_1 : jx_Go jxP d 124 1 [l0] (.int x :: st) h Q ↔ if x = 0 then jx_Go jxP d 124 13 [l0] st h Q else jx_Go jxP d 124 4 [l0] st h Q := jg_ifP rfl rfl
theorem s124_4 : jx_Go jxP d 124 4 [.int x] st h Q ↔ jx_Go jxP d 124 5 [.int x] (.int x :: st) h Q := jg_il rfl rfl
theorem s124_5 : jx_Go jxP d 124 5 [l0] st h Q ↔ jx_Go jxP d 124 6 [l0] (.int (nI 1) :: st) h Q := jg_c rfl
theorem s124_6 : jx_Go jxP d 124 6 [l0] (.int y :: .int x :: st) h Q ↔ if x = y then jx_Go jxP d 124 13 [l0] st h Q else jx_Go jxP d 124 9 [l0] st h Q := jg_icP rfl rfl
theorem s124_9 : jx_Go jxP d 124 9 [l0] st h Q ↔ jx_Go jxP d 124 10 [l0] (.int (nI 1) :: st) h Q := jg_c rfl
theorem s124_10 : jx_Go jxP d 124 10 [l0] st h Q ↔ jx_Go jxP d 124 14 [l0] st h Q := jg_go rfl
theorem s124_13 : jx_Go jxP d 124 13 [l0] st h Q ↔ jx_Go jxP d 124 14 [l0] (.int (nI 0) :: st) h Q := jg_c rfl
theorem s124_14b0 : jx_Go jxP d 124 14 [l0] [.int (nI 0)] h Q ↔ Q [.int (nI 0)] h := jx_rt rfl rfl
theorem s124_14b1 : jx_Go jxP d 124 14 [l0] [.int (nI 1)] h Q ↔ Q [.int (nI 1)] h := jx_rt rfl rfl
-- 125 TalkBench.isUnder
theorem s125_0 : jx_Go jxP d 125 0 [l0, .int x] st h Q ↔ jx_Go jxP d 125 1 [l0, .int x] (.int x :: st) h Q := jg_il rfl rfl
theorem s125_1 : jx_Go jxP d 125 1 [l0, l1] (.int x :: st) h Q ↔ if x = 0 then jx_Go jxP d 125 19 [l0, l1] st h Q else jx_Go jxP d 125 4 [l0, l1] st h Q := jg_ifP rfl rfl
theorem s125_4 : jx_Go jxP d 125 4 [l0, .int x] st h Q ↔ jx_Go jxP d 125 5 [l0, .int x] (.int x :: st) h Q := jg_il rfl rfl
theorem s125_5 : jx_Go jxP d 125 5 [.int x, l1] st h Q ↔ jx_Go jxP d 125 6 [.int x, l1] (.int x :: st) h Q := jg_il rfl rfl
theorem s125_6 : jx_Go jxP d 125 6 [l0, l1] (.int y :: .int x :: st) h Q ↔ if x = y then jx_Go jxP d 125 19 [l0, l1] st h Q else jx_Go jxP d 125 9 [l0, l1] st h Q := jg_icP rfl rfl
theorem s125_9 : jx_Go jxP d 125 9 [l0, .int x] st h Q ↔ jx_Go jxP d 125 10 [l0, .int x] (.int x :: st) h Q := jg_il rfl rfl
theorem s125_10 : jx_Go jxP d 125 10 [l0, l1] st h Q ↔ jx_Go jxP d 125 11 [l0, l1] (.int (nI 1) :: st) h Q := jg_c rfl
theorem s125_11 : jx_Go jxP d 125 11 [l0, l1] (.int y :: .int x :: st) h Q ↔ if x = y then jx_Go jxP d 125 14 [l0, l1] st h Q else jx_Go jxP d 125 23 [l0, l1] st h Q := jg_icN rfl rfl
theorem s125_14 : jx_Go jxP d 125 14 [.int x, l1] st h Q ↔ jx_Go jxP d 125 15 [.int x, l1] (.int x :: st) h Q := jg_il rfl rfl
theorem s125_15 : jx_Go jxP d 125 15 [l0, l1] st h Q ↔ jx_Go jxP d 125 16 [l0, l1] (.int (nI 2) :: st) h Q := jg_c rfl
theorem s125_16 : jx_Go jxP d 125 16 [l0, l1] (.int y :: .int x :: st) h Q ↔ if x = y then jx_Go jxP d 125 19 [l0, l1] st h Q else jx_Go jxP d 125 23 [l0, l1] st h Q := jg_icN rfl rfl
theorem s125_19 : jx_Go jxP d 125 19 [l0, l1] st h Q ↔ jx_Go jxP d 125 20 [l0, l1] (.int (nI 1) :: st) h Q := jg_c rfl
theorem s125_20 : jx_Go jxP d 125 20 [l0, l1] st h Q ↔ jx_Go jxP d 125 24 [l0, l1] st h Q := jg_go rfl
theorem s125_23 : jx_Go jxP d 125 23 [l0, l1] st h Q ↔ jx_Go jxP d 125 24 [l0, l1] (.int (nI 0) :: st) h Q := jg_c rfl
theorem s125_24b0 : jx_Go jxP d 125 24 [l0, l1] [.int (nI 0)] h Q ↔ Q [.int (nI 0)] h := jx_rt rfl rfl
theorem s125_24b1 : jx_Go jxP d 125 24 [l0, l1] [.int (nI 1)] h Q ↔ Q [.int (nI 1)] h := jx_rt rfl rfl
-- 126 TalkBench.memberOf
theorem s126_0 : jx_Go jxP d 126 0 [.int x] st h Q ↔ jx_Go jxP d 126 1 [.int x] (.int x :: st) h Q := jg_il rfl rfl
theorem s126_1 : jx_Go jxP d 126 1 [l0] st h Q ↔ jx_Go jxP d 126 2 [l0] (.int (nI 1) :: st) h Q := jg_c rfl
theorem s126_2 : jx_Go jxP d 126 2 [l0] (.int y :: .int x :: st) h Q ↔ jx_Go jxP d 126 3 [l0] (.int (x - y) :: st) h Q := jg_b (f := fun x y => x - y) rfl
theorem s126_3 : jx_Go jxP (d + 1) 126 3 [l0] (.int x0 :: st) h Q ↔ (st.length ≤ 4 ∧ jx_Go jxP d 197 0 [.int x0] [] h (fun s1 h1 => jx_Go jxP (d + 1) 126 6 [l0] (s1 ++ st) h1 Q)) := jg_callS (as := [.int x0]) rfl rfl rfl rfl
theorem s126_6 : jx_Go jxP d 126 6 [l0] [.int x] h Q ↔ Q [.int x] h := jx_rt rfl rfl
-- 127 TalkBench.lowestOf
theorem s127_0 : jx_Go jxP d 127 0 [.int x] st h Q ↔ jx_Go jxP d 127 1 [.int x] (.int x :: st) h Q := jg_il rfl rfl
theorem s127_1 : jx_Go jxP d 127 1 [.int x] st h Q ↔ jx_Go jxP d 127 2 [.int x] (.int x :: st) h Q := jg_il rfl rfl
theorem s127_2 : jx_Go jxP d 127 2 [l0] (.int x :: st) h Q ↔ jx_Go jxP d 127 3 [l0] (.int (-x) :: st) h Q := jg_1 (f := fun x => -x) rfl
theorem s127_3 : jx_Go jxP d 127 3 [l0] (.int y :: .int x :: st) h Q ↔ jx_Go jxP d 127 4 [l0] (.int (x &&& y) :: st) h Q := jg_b (f := fun x y => x &&& y) rfl
theorem s127_4 : jx_Go jxP d 127 4 [l0] [.int x] h Q ↔ Q [.int x] h := jx_rt rfl rfl
-- 128 TalkBench.blockAt
theorem s128_0 : jx_Go jxP d 128 0 [l0, l1] st h Q ↔ jx_Go jxP d 128 2 [l0, l1] (.int (nI 32) :: st) h Q := jg_c rfl
theorem s128_2 : jx_Go jxP d 128 2 [.int x, l1] st h Q ↔ jx_Go jxP d 128 3 [.int x, l1] (.int x :: st) h Q := jg_il rfl rfl
theorem s128_3 : jx_Go jxP d 128 3 [l0, l1] (.int y :: .int x :: st) h Q ↔ jx_Go jxP d 128 4 [l0, l1] (.int (x * y) :: st) h Q := jg_b (f := fun x y => x * y) rfl
theorem s128_4 : jx_Go jxP d 128 4 [l0, l1] st h Q ↔ jx_Go jxP d 128 5 [l0, l1] (.int (nI 1) :: st) h Q := jg_c rfl
theorem s128_5 : jx_Go jxP d 128 5 [l0, .int x] st h Q ↔ jx_Go jxP d 128 6 [l0, .int x] (.int x :: st) h Q := jg_il rfl rfl
theorem s128_6 : jx_Go jxP d 128 6 [l0, l1] (.int y :: .int x :: st) h Q ↔ jx_Go jxP d 128 7 [l0, l1] (.int (x * y) :: st) h Q := jg_b (f := fun x y => x * y) rfl
theorem s128_7 : jx_Go jxP d 128 7 [l0, l1] (.int y :: .int x :: st) h Q ↔ jx_Go jxP d 128 8 [l0, l1] (.int (x + y) :: st) h Q := jg_b (f := fun x y => x + y) rfl
theorem s128_8 : jx_Go jxP d 128 8 [l0, l1] [.int x] h Q ↔ Q [.int x] h := jx_rt rfl rfl
end JST
