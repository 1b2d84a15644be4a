/-! ===== a step lemma for each instruction ===== -/
section JST
variable {d a b a0 a1 a2 a3 a4 : Nat} {l0 l1 l2 l3 l4 l5 l6 l7 l8 l9 l10 l11 l12 l13 l14 l15 l16 l17 l18 l19 l20 l21 l22 l23 l24 l25 l26 : Value} {x y z x0 x1 x2 x3 x4 : Int32} {u w : Int64} {st : List Value} {h : jxH} {Q : List Value → jxH → Prop}
-- 200 TalkBenchLaw.law
theorem s200_0 : jx_Go jxP d 200 0 [l0, l1, l2, l3] st h Q ↔ jx_Go jxP d 200 3 [l0, l1, l2, l3] (.ref h.1 :: st) (jx_mk h 12 (.inr (11, [.null, .null, .null, .null, .null, .null, .null, .null, .null, .null, .null, .int 0]))) Q := jg_nw (fs := [.null, .null, .null, .null, .null, .null, .null, .null, .null, .null, .null, .int 0]) rfl
theorem s200_3i : jx_Go jxP d 200 3 [l0, l1, l2, l3] (.int x :: st) h Q ↔ jx_Go jxP d 200 4 [l0, l1, l2, l3] (.int x :: .int x :: st) h Q := jg_dI rfl
theorem s200_3r : jx_Go jxP d 200 3 [l0, l1, l2, l3] (.ref a :: st) h Q ↔ jx_Go jxP d 200 4 [l0, l1, l2, l3] (.ref a :: .ref a :: st) h Q := jg_dR rfl
theorem s200_4 : jx_Go jxP (d + 1) 200 4 [l0, l1, l2, l3] (.ref a :: st) h Q ↔ (st.length ≤ 4 ∧ jx_cl h a = some 11 ∧ jx_Go jxP d 85 0 [.ref a, jx_u] [] h (fun s1 h1 => jx_Go jxP (d + 1) 200 7 [l0, l1, l2, l3] (s1 ++ st) h1 Q)) := jg_callV (as := [.ref a]) rfl rfl rfl rfl rfl
theorem s200_7 : jx_Go jxP d 200 7 [l0, l1, l2, l3] (.ref a :: st) h Q ↔ jx_Go jxP d 200 8 [l0, .ref a, l2, l3] st h Q := jg_as rfl rfl
theorem s200_8 : jx_Go jxP d 200 8 [l0, l1, l2, l3] st h Q ↔ jx_Go jxP d 200 11 [l0, l1, l2, l3] (.ref h.1 :: st) (jx_mk h 38 (.inr (12, [.int 0, .int 0, .null, .null, .int 0, .null, .null, .null, .null, .null, .null, .int 0, .null, .int 0, .int 0, .null, .null, .null, .null, .null, .null, .null, .null, .null, .null, .null, .null, .null, .null, .null, .null, .null, .null, .null, .null, .null, .null, .null]))) Q := jg_nw (fs := [.int 0, .int 0, .null, .null, .int 0, .null, .null, .null, .null, .null, .null, .int 0, .null, .int 0, .int 0, .null, .null, .null, .null, .null, .null, .null, .null, .null, .null, .null, .null, .null, .null, .null, .null, .null, .null, .null, .null, .null, .null, .null]) rfl
theorem s200_11i : jx_Go jxP d 200 11 [l0, l1, l2, l3] (.int x :: st) h Q ↔ jx_Go jxP d 200 12 [l0, l1, l2, l3] (.int x :: .int x :: st) h Q := jg_dI rfl
theorem s200_11r : jx_Go jxP d 200 11 [l0, l1, l2, l3] (.ref a :: st) h Q ↔ jx_Go jxP d 200 12 [l0, l1, l2, l3] (.ref a :: .ref a :: st) h Q := jg_dR rfl
theorem s200_12 : jx_Go jxP (d + 1) 200 12 [l0, l1, l2, l3] (.ref a :: st) h Q ↔ (st.length ≤ 4 ∧ jx_cl h a = some 12 ∧ jx_Go jxP d 129 0 [.ref a, jx_u] [] h (fun s1 h1 => jx_Go jxP (d + 1) 200 15 [l0, l1, l2, l3] (s1 ++ st) h1 Q)) := jg_callV (as := [.ref a]) rfl rfl rfl rfl rfl
theorem s200_15 : jx_Go jxP d 200 15 [l0, l1, l2, l3] (.ref a :: st) h Q ↔ jx_Go jxP d 200 16 [l0, l1, .ref a, l3] st h Q := jg_as rfl rfl
theorem s200_16 : jx_Go jxP d 200 16 [l0, l1, l2, l3] st h Q ↔ jx_Go jxP d 200 17 [l0, l1, l2, l3] (.int (nI 0) :: st) h Q := jg_c rfl
theorem s200_17 : jx_Go jxP d 200 17 [l0, l1, l2, l3] (.int x :: st) h Q ↔ jx_Go jxP d 200 18 [l0, l1, l2, .int x] st h Q := jg_is rfl rfl
theorem s200_18 : jx_Go jxP d 200 18 [l0, l1, l2, .int x] st h Q ↔ jx_Go jxP d 200 19 [l0, l1, l2, .int x] (.int x :: st) h Q := jg_il rfl rfl
theorem s200_19 : jx_Go jxP d 200 19 [.ref a, l1, l2, l3] st h Q ↔ jx_Go jxP d 200 20 [.ref a, l1, l2, l3] (.ref a :: st) h Q := jg_al rfl rfl
theorem s200_20 : jx_Go jxP d 200 20 [l0, l1, l2, l3] (.ref 0 :: st) h Q ↔ ∃ q, jx_sc h 0 = some q ∧ jx_Go jxP d 200 21 [l0, l1, l2, l3] (.int (nI q.1) :: st) h Q := jg_sl rfl
theorem s200_21 : jx_Go jxP d 200 21 [l0, l1, l2, l3] st h Q ↔ jx_Go jxP d 200 23 [l0, l1, l2, l3] (.int (nI 6) :: st) h Q := jg_c rfl
theorem s200_23 : jx_Go jxP d 200 23 [l0, l1, l2, l3] (.int y :: .int x :: st) h Q ↔ jx_Go jxP d 200 24 [l0, l1, l2, l3] (.int (x - y) :: st) h Q := jg_b (f := fun x y => x - y) rfl
theorem s200_24 : jx_Go jxP d 200 24 [l0, l1, l2, l3] (.int y :: .int x :: st) h Q ↔ if y < x then jx_Go jxP d 200 1156 [l0, l1, l2, l3] st h Q else jx_Go jxP d 200 27 [l0, l1, l2, l3] st h Q := jg_icP rfl rfl
theorem s200_27 : jx_Go jxP d 200 27 [.ref a, l1, l2, l3] st h Q ↔ jx_Go jxP d 200 28 [.ref a, l1, l2, l3] (.ref a :: st) h Q := jg_al rfl rfl
theorem s200_28 : jx_Go jxP d 200 28 [l0, l1, l2, .int x] st h Q ↔ jx_Go jxP d 200 29 [l0, l1, l2, .int x] (.int x :: st) h Q := jg_il rfl rfl
theorem s200_29 : jx_Go jxP d 200 29 [l0, l1, l2, l3] (.int x :: .ref 0 :: st) h Q ↔ ∃ q, jx_sc h 0 = some q ∧ jx_in x q.1 ∧ jx_Go jxP d 200 30 [l0, l1, l2, l3] (.int (q.2 x.toNatClampNeg) :: st) h Q := jg_sa rfl
theorem s200_30 : jx_Go jxP d 200 30 [l0, l1, l2, l3] st h Q ↔ jx_Go jxP d 200 32 [l0, l1, l2, l3] (.int (nI 63) :: st) h Q := jg_c rfl
theorem s200_32 : jx_Go jxP d 200 32 [l0, l1, l2, l3] (.int y :: .int x :: st) h Q ↔ jx_Go jxP d 200 33 [l0, l1, l2, l3] (.int (x &&& y) :: st) h Q := jg_b (f := fun x y => x &&& y) rfl
theorem s200_33 : jx_Go jxP d 200 33 [l0, l1, l2, l3] (.int x :: st) h Q ↔ jx_Go jxP d 200 (js_swt 33 1117 0 33 [151, 184, 227, 260, 303, 326, 339, 352, 391, 434, 477, 540, 563, 596, 629, 642, 675, 708, 747, 786, 825, 848, 871, 884, 897, 920, 943, 956, 979, 1002, 1025, 1058, 1081, 1094] x) [l0, l1, l2, l3] st h Q := jg_sw rfl
theorem s200_184 : jx_Go jxP d 200 184 [l0, .ref a, l2, l3] st h Q ↔ jx_Go jxP d 200 185 [l0, .ref a, l2, l3] (.ref a :: st) h Q := jg_al rfl rfl
theorem s200_185 : jx_Go jxP d 200 185 [.ref a, l1, l2, l3] st h Q ↔ jx_Go jxP d 200 186 [.ref a, l1, l2, l3] (.ref a :: st) h Q := jg_al rfl rfl
theorem s200_186 : jx_Go jxP d 200 186 [l0, l1, l2, .int x] st h Q ↔ jx_Go jxP d 200 187 [l0, l1, l2, .int x] (.int x :: st) h Q := jg_il rfl rfl
theorem s200_187 : jx_Go jxP d 200 187 [l0, l1, l2, l3] st h Q ↔ jx_Go jxP d 200 188 [l0, l1, l2, l3] (.int (nI 1) :: st) h Q := jg_c rfl
theorem s200_188 : jx_Go jxP d 200 188 [l0, l1, l2, l3] (.int y :: .int x :: st) h Q ↔ jx_Go jxP d 200 189 [l0, l1, l2, l3] (.int (x + y) :: st) h Q := jg_b (f := fun x y => x + y) rfl
theorem s200_189 : jx_Go jxP d 200 189 [l0, l1, l2, l3] (.int x :: .ref 0 :: st) h Q ↔ ∃ q, jx_sc h 0 = some q ∧ jx_in x q.1 ∧ jx_Go jxP d 200 190 [l0, l1, l2, l3] (.int (q.2 x.toNatClampNeg) :: st) h Q := jg_sa rfl
theorem s200_190 : jx_Go jxP d 200 190 [.ref a, l1, l2, l3] st h Q ↔ jx_Go jxP d 200 191 [.ref a, l1, l2, l3] (.ref a :: st) h Q := jg_al rfl rfl
theorem s200_191 : jx_Go jxP d 200 191 [l0, l1, l2, .int x] st h Q ↔ jx_Go jxP d 200 192 [l0, l1, l2, .int x] (.int x :: st) h Q := jg_il rfl rfl
theorem s200_192 : jx_Go jxP d 200 192 [l0, l1, l2, l3] st h Q ↔ jx_Go jxP d 200 193 [l0, l1, l2, l3] (.int (nI 2) :: st) h Q := jg_c rfl
theorem s200_193 : jx_Go jxP d 200 193 [l0, l1, l2, l3] (.int y :: .int x :: st) h Q ↔ jx_Go jxP d 200 194 [l0, l1, l2, l3] (.int (x + y) :: st) h Q := jg_b (f := fun x y => x + y) rfl
theorem s200_194 : jx_Go jxP d 200 194 [l0, l1, l2, l3] (.int x :: .ref 0 :: st) h Q ↔ ∃ q, jx_sc h 0 = some q ∧ jx_in x q.1 ∧ jx_Go jxP d 200 195 [l0, l1, l2, l3] (.int (q.2 x.toNatClampNeg) :: st) h Q := jg_sa rfl
theorem s200_195 : jx_Go jxP (d + 1) 200 195 [l0, l1, l2, l3] (.int x1 :: .int x0 :: .ref a :: st) h Q ↔ (st.length ≤ 4 ∧ jx_cl h a = some 11 ∧ jx_Go jxP d 86 0 [.ref a, .int x0, .int x1, jx_u] [] h (fun s1 h1 => jx_Go jxP (d + 1) 200 198 [l0, l1, l2, l3] (s1 ++ st) h1 Q)) := jg_callV (as := [.int x1, .int x0, .ref a]) rfl rfl rfl rfl rfl
theorem s200_198 : jx_Go jxP d 200 198 [l0, l1, .ref a, l3] st h Q ↔ jx_Go jxP d 200 199 [l0, l1, .ref a, l3] (.ref a :: st) h Q := jg_al rfl rfl
theorem s200_199 : jx_Go jxP d 200 199 [.ref a, l1, l2, l3] st h Q ↔ jx_Go jxP d 200 200 [.ref a, l1, l2, l3] (.ref a :: st) h Q := jg_al rfl rfl
theorem s200_200 : jx_Go jxP d 200 200 [l0, l1, l2, .int x] st h Q ↔ jx_Go jxP d 200 201 [l0, l1, l2, .int x] (.int x :: st) h Q := jg_il rfl rfl
theorem s200_201 : jx_Go jxP d 200 201 [l0, l1, l2, l3] st h Q ↔ jx_Go jxP d 200 202 [l0, l1, l2, l3] (.int (nI 1) :: st) h Q := jg_c rfl
theorem s200_202 : jx_Go jxP d 200 202 [l0, l1, l2, l3] (.int y :: .int x :: st) h Q ↔ jx_Go jxP d 200 203 [l0, l1, l2, l3] (.int (x + y) :: st) h Q := jg_b (f := fun x y => x + y) rfl
theorem s200_203 : jx_Go jxP d 200 203 [l0, l1, l2, l3] (.int x :: .ref 0 :: st) h Q ↔ ∃ q, jx_sc h 0 = some q ∧ jx_in x q.1 ∧ jx_Go jxP d 200 204 [l0, l1, l2, l3] (.int (q.2 x.toNatClampNeg) :: st) h Q := jg_sa rfl
theorem s200_204 : jx_Go jxP d 200 204 [.ref a, l1, l2, l3] st h Q ↔ jx_Go jxP d 200 205 [.ref a, l1, l2, l3] (.ref a :: st) h Q := jg_al rfl rfl
theorem s200_205 : jx_Go jxP d 200 205 [l0, l1, l2, .int x] st h Q ↔ jx_Go jxP d 200 206 [l0, l1, l2, .int x] (.int x :: st) h Q := jg_il rfl rfl
theorem s200_206 : jx_Go jxP d 200 206 [l0, l1, l2, l3] st h Q ↔ jx_Go jxP d 200 207 [l0, l1, l2, l3] (.int (nI 2) :: st) h Q := jg_c rfl
theorem s200_207 : jx_Go jxP d 200 207 [l0, l1, l2, l3] (.int y :: .int x :: st) h Q ↔ jx_Go jxP d 200 208 [l0, l1, l2, l3] (.int (x + y) :: st) h Q := jg_b (f := fun x y => x + y) rfl
theorem s200_208 : jx_Go jxP d 200 208 [l0, l1, l2, l3] (.int x :: .ref 0 :: st) h Q ↔ ∃ q, jx_sc h 0 = some q ∧ jx_in x q.1 ∧ jx_Go jxP d 200 209 [l0, l1, l2, l3] (.int (q.2 x.toNatClampNeg) :: st) h Q := jg_sa rfl
theorem s200_209 : jx_Go jxP (d + 1) 200 209 [l0, l1, l2, l3] (.int x1 :: .int x0 :: .ref a :: st) h Q ↔ (st.length ≤ 4 ∧ jx_cl h a = some 12 ∧ jx_Go jxP d 139 0 [.ref a, .int x0, .int x1, jx_u, jx_u] [] h (fun s1 h1 => jx_Go jxP (d + 1) 200 212 [l0, l1, l2, l3] (s1 ++ st) h1 Q)) := jg_callV (as := [.int x1, .int x0, .ref a]) rfl rfl rfl rfl rfl
theorem s200_212 : jx_Go jxP d 200 212 [l0, l1, l2, l3] (.int y :: .int x :: st) h Q ↔ if x = y then jx_Go jxP d 200 1150 [l0, l1, l2, l3] st h Q else jx_Go jxP d 200 215 [l0, l1, l2, l3] st h Q := jg_icP rfl rfl
theorem s200_215 : jx_Go jxP d 200 215 [l0, l1, l2, l3] st h Q ↔ jx_Go jxP d 200 216 [l0, l1, l2, l3] (.int (nI 0) :: st) h Q := jg_c rfl
theorem s200_216b0 : jx_Go jxP d 200 216 [l0, l1, l2, l3] [.int (nI 0)] h Q ↔ Q [.int (nI 0)] h := jx_rt rfl rfl
theorem s200_216b1 : jx_Go jxP d 200 216 [l0, l1, l2, l3] [.int (nI 1)] h Q ↔ Q [.int (nI 1)] h := jx_rt rfl rfl
theorem s200_217 : jx_Go jxP d 200 217 [l0, .ref a, l2, l3] st h Q ↔ jx_Go jxP d 200 218 [l0, .ref a, l2, l3] (.ref a :: st) h Q := jg_al rfl rfl
theorem s200_218 : jx_Go jxP d 200 218 [.ref a, l1, l2, l3] st h Q ↔ jx_Go jxP d 200 219 [.ref a, l1, l2, l3] (.ref a :: st) h Q := jg_al rfl rfl
theorem s200_219 : jx_Go jxP d 200 219 [l0, l1, l2, .int x] st h Q ↔ jx_Go jxP d 200 220 [l0, l1, l2, .int x] (.int x :: st) h Q := jg_il rfl rfl
theorem s200_220 : jx_Go jxP d 200 220 [l0, l1, l2, l3] st h Q ↔ jx_Go jxP d 200 221 [l0, l1, l2, l3] (.int (nI 1) :: st) h Q := jg_c rfl
theorem s200_221 : jx_Go jxP d 200 221 [l0, l1, l2, l3] (.int y :: .int x :: st) h Q ↔ jx_Go jxP d 200 222 [l0, l1, l2, l3] (.int (x + y) :: st) h Q := jg_b (f := fun x y => x + y) rfl
theorem s200_222 : jx_Go jxP d 200 222 [l0, l1, l2, l3] (.int x :: .ref 0 :: st) h Q ↔ ∃ q, jx_sc h 0 = some q ∧ jx_in x q.1 ∧ jx_Go jxP d 200 223 [l0, l1, l2, l3] (.int (q.2 x.toNatClampNeg) :: st) h Q := jg_sa rfl
theorem s200_223 : jx_Go jxP d 200 223 [.ref a, l1, l2, l3] st h Q ↔ jx_Go jxP d 200 224 [.ref a, l1, l2, l3] (.ref a :: st) h Q := jg_al rfl rfl
theorem s200_224 : jx_Go jxP d 200 224 [l0, l1, l2, .int x] st h Q ↔ jx_Go jxP d 200 225 [l0, l1, l2, .int x] (.int x :: st) h Q := jg_il rfl rfl
theorem s200_225 : jx_Go jxP d 200 225 [l0, l1, l2, l3] st h Q ↔ jx_Go jxP d 200 226 [l0, l1, l2, l3] (.int (nI 2) :: st) h Q := jg_c rfl
theorem s200_226 : jx_Go jxP d 200 226 [l0, l1, l2, l3] (.int y :: .int x :: st) h Q ↔ jx_Go jxP d 200 227 [l0, l1, l2, l3] (.int (x + y) :: st) h Q := jg_b (f := fun x y => x + y) rfl
theorem s200_227 : jx_Go jxP d 200 227 [l0, l1, l2, l3] (.int x :: .ref 0 :: st) h Q ↔ ∃ q, jx_sc h 0 = some q ∧ jx_in x q.1 ∧ jx_Go jxP d 200 228 [l0, l1, l2, l3] (.int (q.2 x.toNatClampNeg) :: st) h Q := jg_sa rfl
theorem s200_228 : jx_Go jxP d 200 228 [.ref a, l1, l2, l3] st h Q ↔ jx_Go jxP d 200 229 [.ref a, l1, l2, l3] (.ref a :: st) h Q := jg_al rfl rfl
theorem s200_229 : jx_Go jxP d 200 229 [l0, l1, l2, .int x] st h Q ↔ jx_Go jxP d 200 230 [l0, l1, l2, .int x] (.int x :: st) h Q := jg_il rfl rfl
theorem s200_230 : jx_Go jxP d 200 230 [l0, l1, l2, l3] st h Q ↔ jx_Go jxP d 200 231 [l0, l1, l2, l3] (.int (nI 3) :: st) h Q := jg_c rfl
theorem s200_231 : jx_Go jxP d 200 231 [l0, l1, l2, l3] (.int y :: .int x :: st) h Q ↔ jx_Go jxP d 200 232 [l0, l1, l2, l3] (.int (x + y) :: st) h Q := jg_b (f := fun x y => x + y) rfl
theorem s200_232 : jx_Go jxP d 200 232 [l0, l1, l2, l3] (.int x :: .ref 0 :: st) h Q ↔ ∃ q, jx_sc h 0 = some q ∧ jx_in x q.1 ∧ jx_Go jxP d 200 233 [l0, l1, l2, l3] (.int (q.2 x.toNatClampNeg) :: st) h Q := jg_sa rfl
theorem s200_233 : jx_Go jxP (d + 1) 200 233 [l0, l1, l2, l3] (.int x2 :: .int x1 :: .int x0 :: .ref a :: st) h Q ↔ (st.length ≤ 4 ∧ jx_cl h a = some 11 ∧ jx_Go jxP d 87 0 [.ref a, .int x0, .int x1, .int x2, jx_u, jx_u] [] h (fun s1 h1 => jx_Go jxP (d + 1) 200 236 [l0, l1, l2, l3] (s1 ++ st) h1 Q)) := jg_callV (as := [.int x2, .int x1, .int x0, .ref a]) rfl rfl rfl rfl rfl
theorem s200_236 : jx_Go jxP d 200 236 [l0, l1, .ref a, l3] st h Q ↔ jx_Go jxP d 200 237 [l0, l1, .ref a, l3] (.ref a :: st) h Q := jg_al rfl rfl
theorem s200_237 : jx_Go jxP d 200 237 [.ref a, l1, l2, l3] st h Q ↔ jx_Go jxP d 200 238 [.ref a, l1, l2, l3] (.ref a :: st) h Q := jg_al rfl rfl
theorem s200_238 : jx_Go jxP d 200 238 [l0, l1, l2, .int x] st h Q ↔ jx_Go jxP d 200 239 [l0, l1, l2, .int x] (.int x :: st) h Q := jg_il rfl rfl
theorem s200_239 : jx_Go jxP d 200 239 [l0, l1, l2, l3] st h Q ↔ jx_Go jxP d 200 240 [l0, l1, l2, l3] (.int (nI 1) :: st) h Q := jg_c rfl
theorem s200_240 : jx_Go jxP d 200 240 [l0, l1, l2, l3] (.int y :: .int x :: st) h Q ↔ jx_Go jxP d 200 241 [l0, l1, l2, l3] (.int (x + y) :: st) h Q := jg_b (f := fun x y => x + y) rfl
theorem s200_241 : jx_Go jxP d 200 241 [l0, l1, l2, l3] (.int x :: .ref 0 :: st) h Q ↔ ∃ q, jx_sc h 0 = some q ∧ jx_in x q.1 ∧ jx_Go jxP d 200 242 [l0, l1, l2, l3] (.int (q.2 x.toNatClampNeg) :: st) h Q := jg_sa rfl
theorem s200_242 : jx_Go jxP d 200 242 [.ref a, l1, l2, l3] st h Q ↔ jx_Go jxP d 200 243 [.ref a, l1, l2, l3] (.ref a :: st) h Q := jg_al rfl rfl
theorem s200_243 : jx_Go jxP d 200 243 [l0, l1, l2, .int x] st h Q ↔ jx_Go jxP d 200 244 [l0, l1, l2, .int x] (.int x :: st) h Q := jg_il rfl rfl
theorem s200_244 : jx_Go jxP d 200 244 [l0, l1, l2, l3] st h Q ↔ jx_Go jxP d 200 245 [l0, l1, l2, l3] (.int (nI 2) :: st) h Q := jg_c rfl
theorem s200_245 : jx_Go jxP d 200 245 [l0, l1, l2, l3] (.int y :: .int x :: st) h Q ↔ jx_Go jxP d 200 246 [l0, l1, l2, l3] (.int (x + y) :: st) h Q := jg_b (f := fun x y => x + y) rfl
theorem s200_246 : jx_Go jxP d 200 246 [l0, l1, l2, l3] (.int x :: .ref 0 :: st) h Q ↔ ∃ q, jx_sc h 0 = some q ∧ jx_in x q.1 ∧ jx_Go jxP d 200 247 [l0, l1, l2, l3] (.int (q.2 x.toNatClampNeg) :: st) h Q := jg_sa rfl
theorem s200_247 : jx_Go jxP d 200 247 [.ref a, l1, l2, l3] st h Q ↔ jx_Go jxP d 200 248 [.ref a, l1, l2, l3] (.ref a :: st) h Q := jg_al rfl rfl
theorem s200_248 : jx_Go jxP d 200 248 [l0, l1, l2, .int x] st h Q ↔ jx_Go jxP d 200 249 [l0, l1, l2, .int x] (.int x :: st) h Q := jg_il rfl rfl
theorem s200_249 : jx_Go jxP d 200 249 [l0, l1, l2, l3] st h Q ↔ jx_Go jxP d 200 250 [l0, l1, l2, l3] (.int (nI 3) :: st) h Q := jg_c rfl
theorem s200_250 : jx_Go jxP d 200 250 [l0, l1, l2, l3] (.int y :: .int x :: st) h Q ↔ jx_Go jxP d 200 251 [l0, l1, l2, l3] (.int (x + y) :: st) h Q := jg_b (f := fun x y => x + y) rfl
theorem s200_251 : jx_Go jxP d 200 251 [l0, l1, l2, l3] (.int x :: .ref 0 :: st) h Q ↔ ∃ q, jx_sc h 0 = some q ∧ jx_in x q.1 ∧ jx_Go jxP d 200 252 [l0, l1, l2, l3] (.int (q.2 x.toNatClampNeg) :: st) h Q := jg_sa rfl
theorem s200_252 : jx_Go jxP (d + 1) 200 252 [l0, l1, l2, l3] (.int x2 :: .int x1 :: .int x0 :: .ref a :: st) h Q ↔ (st.length ≤ 4 ∧ jx_cl h a = some 12 ∧ jx_Go jxP d 140 0 [.ref a, .int x0, .int x1, .int x2, jx_u] [] h (fun s1 h1 => jx_Go jxP (d + 1) 200 255 [l0, l1, l2, l3] (s1 ++ st) h1 Q)) := jg_callV (as := [.int x2, .int x1, .int x0, .ref a]) rfl rfl rfl rfl rfl
theorem s200_255 : jx_Go jxP d 200 255 [l0, l1, l2, l3] (.int y :: .int x :: st) h Q ↔ if x = y then jx_Go jxP d 200 1150 [l0, l1, l2, l3] st h Q else jx_Go jxP d 200 258 [l0, l1, l2, l3] st h Q := jg_icP rfl rfl
theorem s200_258 : jx_Go jxP d 200 258 [l0, l1, l2, l3] st h Q ↔ jx_Go jxP d 200 259 [l0, l1, l2, l3] (.int (nI 0) :: st) h Q := jg_c rfl
theorem s200_259b0 : jx_Go jxP d 200 259 [l0, l1, l2, l3] [.int (nI 0)] h Q ↔ Q [.int (nI 0)] h := jx_rt rfl rfl
theorem s200_259b1 : jx_Go jxP d 200 259 [l0, l1, l2, l3] [.int (nI 1)] h Q ↔ Q [.int (nI 1)] h := jx_rt rfl rfl
theorem s200_260 : jx_Go jxP d 200 260 [l0, .ref a, l2, l3] st h Q ↔ jx_Go jxP d 200 261 [l0, .ref a, l2, l3] (.ref a :: st) h Q := jg_al rfl rfl
theorem s200_261 : jx_Go jxP d 200 261 [.ref a, l1, l2, l3] st h Q ↔ jx_Go jxP d 200 262 [.ref a, l1, l2, l3] (.ref a :: st) h Q := jg_al rfl rfl
theorem s200_262 : jx_Go jxP d 200 262 [l0, l1, l2, .int x] st h Q ↔ jx_Go jxP d 200 263 [l0, l1, l2, .int x] (.int x :: st) h Q := jg_il rfl rfl
theorem s200_263 : jx_Go jxP d 200 263 [l0, l1, l2, l3] st h Q ↔ jx_Go jxP d 200 264 [l0, l1, l2, l3] (.int (nI 1) :: st) h Q := jg_c rfl
theorem s200_264 : jx_Go jxP d 200 264 [l0, l1, l2, l3] (.int y :: .int x :: st) h Q ↔ jx_Go jxP d 200 265 [l0, l1, l2, l3] (.int (x + y) :: st) h Q := jg_b (f := fun x y => x + y) rfl
theorem s200_265 : jx_Go jxP d 200 265 [l0, l1, l2, l3] (.int x :: .ref 0 :: st) h Q ↔ ∃ q, jx_sc h 0 = some q ∧ jx_in x q.1 ∧ jx_Go jxP d 200 266 [l0, l1, l2, l3] (.int (q.2 x.toNatClampNeg) :: st) h Q := jg_sa rfl
theorem s200_266 : jx_Go jxP d 200 266 [.ref a, l1, l2, l3] st h Q ↔ jx_Go jxP d 200 267 [.ref a, l1, l2, l3] (.ref a :: st) h Q := jg_al rfl rfl
theorem s200_267 : jx_Go jxP d 200 267 [l0, l1, l2, .int x] st h Q ↔ jx_Go jxP d 200 268 [l0, l1, l2, .int x] (.int x :: st) h Q := jg_il rfl rfl
theorem s200_268 : jx_Go jxP d 200 268 [l0, l1, l2, l3] st h Q ↔ jx_Go jxP d 200 269 [l0, l1, l2, l3] (.int (nI 2) :: st) h Q := jg_c rfl
theorem s200_269 : jx_Go jxP d 200 269 [l0, l1, l2, l3] (.int y :: .int x :: st) h Q ↔ jx_Go jxP d 200 270 [l0, l1, l2, l3] (.int (x + y) :: st) h Q := jg_b (f := fun x y => x + y) rfl
theorem s200_270 : jx_Go jxP d 200 270 [l0, l1, l2, l3] (.int x :: .ref 0 :: st) h Q ↔ ∃ q, jx_sc h 0 = some q ∧ jx_in x q.1 ∧ jx_Go jxP d 200 271 [l0, l1, l2, l3] (.int (q.2 x.toNatClampNeg) :: st) h Q := jg_sa rfl
theorem s200_271 : jx_Go jxP (d + 1) 200 271 [l0, l1, l2, l3] (.int x1 :: .int x0 :: .ref a :: st) h Q ↔ (st.length ≤ 4 ∧ jx_cl h a = some 11 ∧ jx_Go jxP d 88 0 [.ref a, .int x0, .int x1] [] h (fun s1 h1 => jx_Go jxP (d + 1) 200 274 [l0, l1, l2, l3] (s1 ++ st) h1 Q)) := jg_callV (as := [.int x1, .int x0, .ref a]) rfl rfl rfl rfl rfl
theorem s200_274 : jx_Go jxP d 200 274 [l0, l1, .ref a, l3] st h Q ↔ jx_Go jxP d 200 275 [l0, l1, .ref a, l3] (.ref a :: st) h Q := jg_al rfl rfl
theorem s200_275 : jx_Go jxP d 200 275 [.ref a, l1, l2, l3] st h Q ↔ jx_Go jxP d 200 276 [.ref a, l1, l2, l3] (.ref a :: st) h Q := jg_al rfl rfl
theorem s200_276 : jx_Go jxP d 200 276 [l0, l1, l2, .int x] st h Q ↔ jx_Go jxP d 200 277 [l0, l1, l2, .int x] (.int x :: st) h Q := jg_il rfl rfl
theorem s200_277 : jx_Go jxP d 200 277 [l0, l1, l2, l3] st h Q ↔ jx_Go jxP d 200 278 [l0, l1, l2, l3] (.int (nI 1) :: st) h Q := jg_c rfl
theorem s200_278 : jx_Go jxP d 200 278 [l0, l1, l2, l3] (.int y :: .int x :: st) h Q ↔ jx_Go jxP d 200 279 [l0, l1, l2, l3] (.int (x + y) :: st) h Q := jg_b (f := fun x y => x + y) rfl
theorem s200_279 : jx_Go jxP d 200 279 [l0, l1, l2, l3] (.int x :: .ref 0 :: st) h Q ↔ ∃ q, jx_sc h 0 = some q ∧ jx_in x q.1 ∧ jx_Go jxP d 200 280 [l0, l1, l2, l3] (.int (q.2 x.toNatClampNeg) :: st) h Q := jg_sa rfl
theorem s200_280 : jx_Go jxP d 200 280 [.ref a, l1, l2, l3] st h Q ↔ jx_Go jxP d 200 281 [.ref a, l1, l2, l3] (.ref a :: st) h Q := jg_al rfl rfl
theorem s200_281 : jx_Go jxP d 200 281 [l0, l1, l2, .int x] st h Q ↔ jx_Go jxP d 200 282 [l0, l1, l2, .int x] (.int x :: st) h Q := jg_il rfl rfl
theorem s200_282 : jx_Go jxP d 200 282 [l0, l1, l2, l3] st h Q ↔ jx_Go jxP d 200 283 [l0, l1, l2, l3] (.int (nI 2) :: st) h Q := jg_c rfl
theorem s200_283 : jx_Go jxP d 200 283 [l0, l1, l2, l3] (.int y :: .int x :: st) h Q ↔ jx_Go jxP d 200 284 [l0, l1, l2, l3] (.int (x + y) :: st) h Q := jg_b (f := fun x y => x + y) rfl
theorem s200_284 : jx_Go jxP d 200 284 [l0, l1, l2, l3] (.int x :: .ref 0 :: st) h Q ↔ ∃ q, jx_sc h 0 = some q ∧ jx_in x q.1 ∧ jx_Go jxP d 200 285 [l0, l1, l2, l3] (.int (q.2 x.toNatClampNeg) :: st) h Q := jg_sa rfl
theorem s200_285 : jx_Go jxP (d + 1) 200 285 [l0, l1, l2, l3] (.int x1 :: .int x0 :: .ref a :: st) h Q ↔ (st.length ≤ 4 ∧ jx_cl h a = some 12 ∧ jx_Go jxP d 141 0 [.ref a, .int x0, .int x1] [] h (fun s1 h1 => jx_Go jxP (d + 1) 200 288 [l0, l1, l2, l3] (s1 ++ st) h1 Q)) := jg_callV (as := [.int x1, .int x0, .ref a]) rfl rfl rfl rfl rfl
theorem s200_288 : jx_Go jxP d 200 288 [l0, l1, l2, l3] (.int y :: .int x :: st) h Q ↔ if x = y then jx_Go jxP d 200 1150 [l0, l1, l2, l3] st h Q else jx_Go jxP d 200 291 [l0, l1, l2, l3] st h Q := jg_icP rfl rfl
theorem s200_291 : jx_Go jxP d 200 291 [l0, l1, l2, l3] st h Q ↔ jx_Go jxP d 200 292 [l0, l1, l2, l3] (.int (nI 0) :: st) h Q := jg_c rfl
theorem s200_292b0 : jx_Go jxP d 200 292 [l0, l1, l2, l3] [.int (nI 0)] h Q ↔ Q [.int (nI 0)] h := jx_rt rfl rfl
theorem s200_292b1 : jx_Go jxP d 200 292 [l0, l1, l2, l3] [.int (nI 1)] h Q ↔ Q [.int (nI 1)] h := jx_rt rfl rfl
theorem s200_293 : jx_Go jxP d 200 293 [l0, .ref a, l2, l3] st h Q ↔ jx_Go jxP d 200 294 [l0, .ref a, l2, l3] (.ref a :: st) h Q := jg_al rfl rfl
theorem s200_294 : jx_Go jxP d 200 294 [.ref a, l1, l2, l3] st h Q ↔ jx_Go jxP d 200 295 [.ref a, l1, l2, l3] (.ref a :: st) h Q := jg_al rfl rfl
theorem s200_295 : jx_Go jxP d 200 295 [l0, l1, l2, .int x] st h Q ↔ jx_Go jxP d 200 296 [l0, l1, l2, .int x] (.int x :: st) h Q := jg_il rfl rfl
theorem s200_296 : jx_Go jxP d 200 296 [l0, l1, l2, l3] st h Q ↔ jx_Go jxP d 200 297 [l0, l1, l2, l3] (.int (nI 1) :: st) h Q := jg_c rfl
theorem s200_297 : jx_Go jxP d 200 297 [l0, l1, l2, l3] (.int y :: .int x :: st) h Q ↔ jx_Go jxP d 200 298 [l0, l1, l2, l3] (.int (x + y) :: st) h Q := jg_b (f := fun x y => x + y) rfl
theorem s200_298 : jx_Go jxP d 200 298 [l0, l1, l2, l3] (.int x :: .ref 0 :: st) h Q ↔ ∃ q, jx_sc h 0 = some q ∧ jx_in x q.1 ∧ jx_Go jxP d 200 299 [l0, l1, l2, l3] (.int (q.2 x.toNatClampNeg) :: st) h Q := jg_sa rfl
theorem s200_299 : jx_Go jxP d 200 299 [.ref a, l1, l2, l3] st h Q ↔ jx_Go jxP d 200 300 [.ref a, l1, l2, l3] (.ref a :: st) h Q := jg_al rfl rfl
theorem s200_300 : jx_Go jxP d 200 300 [l0, l1, l2, .int x] st h Q ↔ jx_Go jxP d 200 301 [l0, l1, l2, .int x] (.int x :: st) h Q := jg_il rfl rfl
theorem s200_301 : jx_Go jxP d 200 301 [l0, l1, l2, l3] st h Q ↔ jx_Go jxP d 200 302 [l0, l1, l2, l3] (.int (nI 2) :: st) h Q := jg_c rfl
theorem s200_302 : jx_Go jxP d 200 302 [l0, l1, l2, l3] (.int y :: .int x :: st) h Q ↔ jx_Go jxP d 200 303 [l0, l1, l2, l3] (.int (x + y) :: st) h Q := jg_b (f := fun x y => x + y) rfl
theorem s200_303 : jx_Go jxP d 200 303 [l0, l1, l2, l3] (.int x :: .ref 0 :: st) h Q ↔ ∃ q, jx_sc h 0 = some q ∧ jx_in x q.1 ∧ jx_Go jxP d 200 304 [l0, l1, l2, l3] (.int (q.2 x.toNatClampNeg) :: st) h Q := jg_sa rfl
theorem s200_304 : jx_Go jxP d 200 304 [.ref a, l1, l2, l3] st h Q ↔ jx_Go jxP d 200 305 [.ref a, l1, l2, l3] (.ref a :: st) h Q := jg_al rfl rfl
theorem s200_305 : jx_Go jxP d 200 305 [l0, l1, l2, .int x] st h Q ↔ jx_Go jxP d 200 306 [l0, l1, l2, .int x] (.int x :: st) h Q := jg_il rfl rfl
theorem s200_306 : jx_Go jxP d 200 306 [l0, l1, l2, l3] st h Q ↔ jx_Go jxP d 200 307 [l0, l1, l2, l3] (.int (nI 3) :: st) h Q := jg_c rfl
theorem s200_307 : jx_Go jxP d 200 307 [l0, l1, l2, l3] (.int y :: .int x :: st) h Q ↔ jx_Go jxP d 200 308 [l0, l1, l2, l3] (.int (x + y) :: st) h Q := jg_b (f := fun x y => x + y) rfl
theorem s200_308 : jx_Go jxP d 200 308 [l0, l1, l2, l3] (.int x :: .ref 0 :: st) h Q ↔ ∃ q, jx_sc h 0 = some q ∧ jx_in x q.1 ∧ jx_Go jxP d 200 309 [l0, l1, l2, l3] (.int (q.2 x.toNatClampNeg) :: st) h Q := jg_sa rfl
theorem s200_309 : jx_Go jxP (d + 1) 200 309 [l0, l1, l2, l3] (.int x2 :: .int x1 :: .int x0 :: .ref a :: st) h Q ↔ (st.length ≤ 4 ∧ jx_cl h a = some 11 ∧ jx_Go jxP d 89 0 [.ref a, .int x0, .int x1, .int x2, jx_u, jx_u] [] h (fun s1 h1 => jx_Go jxP (d + 1) 200 312 [l0, l1, l2, l3] (s1 ++ st) h1 Q)) := jg_callV (as := [.int x2, .int x1, .int x0, .ref a]) rfl rfl rfl rfl rfl
theorem s200_312 : jx_Go jxP d 200 312 [l0, l1, .ref a, l3] st h Q ↔ jx_Go jxP d 200 313 [l0, l1, .ref a, l3] (.ref a :: st) h Q := jg_al rfl rfl
theorem s200_313 : jx_Go jxP d 200 313 [.ref a, l1, l2, l3] st h Q ↔ jx_Go jxP d 200 314 [.ref a, l1, l2, l3] (.ref a :: st) h Q := jg_al rfl rfl
theorem s200_314 : jx_Go jxP d 200 314 [l0, l1, l2, .int x] st h Q ↔ jx_Go jxP d 200 315 [l0, l1, l2, .int x] (.int x :: st) h Q := jg_il rfl rfl
theorem s200_315 : jx_Go jxP d 200 315 [l0, l1, l2, l3] st h Q ↔ jx_Go jxP d 200 316 [l0, l1, l2, l3] (.int (nI 1) :: st) h Q := jg_c rfl
theorem s200_316 : jx_Go jxP d 200 316 [l0, l1, l2, l3] (.int y :: .int x :: st) h Q ↔ jx_Go jxP d 200 317 [l0, l1, l2, l3] (.int (x + y) :: st) h Q := jg_b (f := fun x y => x + y) rfl
theorem s200_317 : jx_Go jxP d 200 317 [l0, l1, l2, l3] (.int x :: .ref 0 :: st) h Q ↔ ∃ q, jx_sc h 0 = some q ∧ jx_in x q.1 ∧ jx_Go jxP d 200 318 [l0, l1, l2, l3] (.int (q.2 x.toNatClampNeg) :: st) h Q := jg_sa rfl
theorem s200_318 : jx_Go jxP d 200 318 [.ref a, l1, l2, l3] st h Q ↔ jx_Go jxP d 200 319 [.ref a, l1, l2, l3] (.ref a :: st) h Q := jg_al rfl rfl
theorem s200_319 : jx_Go jxP d 200 319 [l0, l1, l2, .int x] st h Q ↔ jx_Go jxP d 200 320 [l0, l1, l2, .int x] (.int x :: st) h Q := jg_il rfl rfl
theorem s200_320 : jx_Go jxP d 200 320 [l0, l1, l2, l3] st h Q ↔ jx_Go jxP d 200 321 [l0, l1, l2, l3] (.int (nI 2) :: st) h Q := jg_c rfl
theorem s200_321 : jx_Go jxP d 200 321 [l0, l1, l2, l3] (.int y :: .int x :: st) h Q ↔ jx_Go jxP d 200 322 [l0, l1, l2, l3] (.int (x + y) :: st) h Q := jg_b (f := fun x y => x + y) rfl
theorem s200_322 : jx_Go jxP d 200 322 [l0, l1, l2, l3] (.int x :: .ref 0 :: st) h Q ↔ ∃ q, jx_sc h 0 = some q ∧ jx_in x q.1 ∧ jx_Go jxP d 200 323 [l0, l1, l2, l3] (.int (q.2 x.toNatClampNeg) :: st) h Q := jg_sa rfl
theorem s200_323 : jx_Go jxP d 200 323 [.ref a, l1, l2, l3] st h Q ↔ jx_Go jxP d 200 324 [.ref a, l1, l2, l3] (.ref a :: st) h Q := jg_al rfl rfl
theorem s200_324 : jx_Go jxP d 200 324 [l0, l1, l2, .int x] st h Q ↔ jx_Go jxP d 200 325 [l0, l1, l2, .int x] (.int x :: st) h Q := jg_il rfl rfl
theorem s200_325 : jx_Go jxP d 200 325 [l0, l1, l2, l3] st h Q ↔ jx_Go jxP d 200 326 [l0, l1, l2, l3] (.int (nI 3) :: st) h Q := jg_c rfl
theorem s200_326 : jx_Go jxP d 200 326 [l0, l1, l2, l3] (.int y :: .int x :: st) h Q ↔ jx_Go jxP d 200 327 [l0, l1, l2, l3] (.int (x + y) :: st) h Q := jg_b (f := fun x y => x + y) rfl
theorem s200_327 : jx_Go jxP d 200 327 [l0, l1, l2, l3] (.int x :: .ref 0 :: st) h Q ↔ ∃ q, jx_sc h 0 = some q ∧ jx_in x q.1 ∧ jx_Go jxP d 200 328 [l0, l1, l2, l3] (.int (q.2 x.toNatClampNeg) :: st) h Q := jg_sa rfl
theorem s200_328 : jx_Go jxP (d + 1) 200 328 [l0, l1, l2, l3] (.int x2 :: .int x1 :: .int x0 :: .ref a :: st) h Q ↔ (st.length ≤ 4 ∧ jx_cl h a = some 12 ∧ jx_Go jxP d 142 0 [.ref a, .int x0, .int x1, .int x2, jx_u] [] h (fun s1 h1 => jx_Go jxP (d + 1) 200 331 [l0, l1, l2, l3] (s1 ++ st) h1 Q)) := jg_callV (as := [.int x2, .int x1, .int x0, .ref a]) rfl rfl rfl rfl rfl
theorem s200_331 : jx_Go jxP d 200 331 [l0, l1, l2, l3] (.int y :: .int x :: st) h Q ↔ if x = y then jx_Go jxP d 200 1150 [l0, l1, l2, l3] st h Q else jx_Go jxP d 200 334 [l0, l1, l2, l3] st h Q := jg_icP rfl rfl
theorem s200_334 : jx_Go jxP d 200 334 [l0, l1, l2, l3] st h Q ↔ jx_Go jxP d 200 335 [l0, l1, l2, l3] (.int (nI 0) :: st) h Q := jg_c rfl
theorem s200_335b0 : jx_Go jxP d 200 335 [l0, l1, l2, l3] [.int (nI 0)] h Q ↔ Q [.int (nI 0)] h := jx_rt rfl rfl
theorem s200_335b1 : jx_Go jxP d 200 335 [l0, l1, l2, l3] [.int (nI 1)] h Q ↔ Q [.int (nI 1)] h := jx_rt rfl rfl
theorem s200_336 : jx_Go jxP d 200 336 [l0, .ref a, l2, l3] st h Q ↔ jx_Go jxP d 200 337 [l0, .ref a, l2, l3] (.ref a :: st) h Q := jg_al rfl rfl
theorem s200_337 : jx_Go jxP d 200 337 [.ref a, l1, l2, l3] st h Q ↔ jx_Go jxP d 200 338 [.ref a, l1, l2, l3] (.ref a :: st) h Q := jg_al rfl rfl
theorem s200_338 : jx_Go jxP d 200 338 [l0, l1, l2, .int x] st h Q ↔ jx_Go jxP d 200 339 [l0, l1, l2, .int x] (.int x :: st) h Q := jg_il rfl rfl
theorem s200_339 : jx_Go jxP d 200 339 [l0, l1, l2, l3] st h Q ↔ jx_Go jxP d 200 340 [l0, l1, l2, l3] (.int (nI 1) :: st) h Q := jg_c rfl
theorem s200_340 : jx_Go jxP d 200 340 [l0, l1, l2, l3] (.int y :: .int x :: st) h Q ↔ jx_Go jxP d 200 341 [l0, l1, l2, l3] (.int (x + y) :: st) h Q := jg_b (f := fun x y => x + y) rfl
theorem s200_341 : jx_Go jxP d 200 341 [l0, l1, l2, l3] (.int x :: .ref 0 :: st) h Q ↔ ∃ q, jx_sc h 0 = some q ∧ jx_in x q.1 ∧ jx_Go jxP d 200 342 [l0, l1, l2, l3] (.int (q.2 x.toNatClampNeg) :: st) h Q := jg_sa rfl
theorem s200_342 : jx_Go jxP (d + 1) 200 342 [l0, l1, l2, l3] (.int x0 :: .ref a :: st) h Q ↔ (st.length ≤ 4 ∧ jx_cl h a = some 11 ∧ jx_Go jxP d 90 0 [.ref a, .int x0] [] h (fun s1 h1 => jx_Go jxP (d + 1) 200 345 [l0, l1, l2, l3] (s1 ++ st) h1 Q)) := jg_callV (as := [.int x0, .ref a]) rfl rfl rfl rfl rfl
theorem s200_345 : jx_Go jxP d 200 345 [l0, l1, .ref a, l3] st h Q ↔ jx_Go jxP d 200 346 [l0, l1, .ref a, l3] (.ref a :: st) h Q := jg_al rfl rfl
theorem s200_346 : jx_Go jxP d 200 346 [.ref a, l1, l2, l3] st h Q ↔ jx_Go jxP d 200 347 [.ref a, l1, l2, l3] (.ref a :: st) h Q := jg_al rfl rfl
theorem s200_347 : jx_Go jxP d 200 347 [l0, l1, l2, .int x] st h Q ↔ jx_Go jxP d 200 348 [l0, l1, l2, .int x] (.int x :: st) h Q := jg_il rfl rfl
theorem s200_348 : jx_Go jxP d 200 348 [l0, l1, l2, l3] st h Q ↔ jx_Go jxP d 200 349 [l0, l1, l2, l3] (.int (nI 1) :: st) h Q := jg_c rfl
theorem s200_349 : jx_Go jxP d 200 349 [l0, l1, l2, l3] (.int y :: .int x :: st) h Q ↔ jx_Go jxP d 200 350 [l0, l1, l2, l3] (.int (x + y) :: st) h Q := jg_b (f := fun x y => x + y) rfl
theorem s200_350 : jx_Go jxP d 200 350 [l0, l1, l2, l3] (.int x :: .ref 0 :: st) h Q ↔ ∃ q, jx_sc h 0 = some q ∧ jx_in x q.1 ∧ jx_Go jxP d 200 351 [l0, l1, l2, l3] (.int (q.2 x.toNatClampNeg) :: st) h Q := jg_sa rfl
theorem s200_351 : jx_Go jxP (d + 1) 200 351 [l0, l1, l2, l3] (.int x0 :: .ref a :: st) h Q ↔ (st.length ≤ 4 ∧ jx_cl h a = some 12 ∧ jx_Go jxP d 143 0 [.ref a, .int x0, jx_u, jx_u, jx_u, jx_u] [] h (fun s1 h1 => jx_Go jxP (d + 1) 200 354 [l0, l1, l2, l3] (s1 ++ st) h1 Q)) := jg_callV (as := [.int x0, .ref a]) rfl rfl rfl rfl rfl
theorem s200_354 : jx_Go jxP d 200 354 [l0, l1, l2, l3] (.int y :: .int x :: st) h Q ↔ if x = y then jx_Go jxP d 200 1150 [l0, l1, l2, l3] st h Q else jx_Go jxP d 200 357 [l0, l1, l2, l3] st h Q := jg_icP rfl rfl
theorem s200_357 : jx_Go jxP d 200 357 [l0, l1, l2, l3] st h Q ↔ jx_Go jxP d 200 358 [l0, l1, l2, l3] (.int (nI 0) :: st) h Q := jg_c rfl
theorem s200_358b0 : jx_Go jxP d 200 358 [l0, l1, l2, l3] [.int (nI 0)] h Q ↔ Q [.int (nI 0)] h := jx_rt rfl rfl
theorem s200_358b1 : jx_Go jxP d 200 358 [l0, l1, l2, l3] [.int (nI 1)] h Q ↔ Q [.int (nI 1)] h := jx_rt rfl rfl
theorem s200_359 : jx_Go jxP d 200 359 [l0, .ref a, l2, l3] st h Q ↔ jx_Go jxP d 200 360 [l0, .ref a, l2, l3] (.ref a :: st) h Q := jg_al rfl rfl
theorem s200_360 : jx_Go jxP (d + 1) 200 360 [l0, l1, l2, l3] (.ref a :: st) h Q ↔ (st.length ≤ 4 ∧ jx_cl h a = some 11 ∧ jx_Go jxP d 91 0 [.ref a] [] h (fun s1 h1 => jx_Go jxP (d + 1) 200 363 [l0, l1, l2, l3] (s1 ++ st) h1 Q)) := jg_callV (as := [.ref a]) rfl rfl rfl rfl rfl
theorem s200_363 : jx_Go jxP d 200 363 [l0, l1, .ref a, l3] st h Q ↔ jx_Go jxP d 200 364 [l0, l1, .ref a, l3] (.ref a :: st) h Q := jg_al rfl rfl
theorem s200_364 : jx_Go jxP (d + 1) 200 364 [l0, l1, l2, l3] (.ref a :: st) h Q ↔ (st.length ≤ 4 ∧ jx_cl h a = some 12 ∧ jx_Go jxP d 144 0 [.ref a, jx_u, jx_u, jx_u] [] h (fun s1 h1 => jx_Go jxP (d + 1) 200 367 [l0, l1, l2, l3] (s1 ++ st) h1 Q)) := jg_callV (as := [.ref a]) rfl rfl rfl rfl rfl
theorem s200_367 : jx_Go jxP d 200 367 [l0, l1, l2, l3] (.int y :: .int x :: st) h Q ↔ if x = y then jx_Go jxP d 200 1150 [l0, l1, l2, l3] st h Q else jx_Go jxP d 200 370 [l0, l1, l2, l3] st h Q := jg_icP rfl rfl
theorem s200_370 : jx_Go jxP d 200 370 [l0, l1, l2, l3] st h Q ↔ jx_Go jxP d 200 371 [l0, l1, l2, l3] (.int (nI 0) :: st) h Q := jg_c rfl
theorem s200_371b0 : jx_Go jxP d 200 371 [l0, l1, l2, l3] [.int (nI 0)] h Q ↔ Q [.int (nI 0)] h := jx_rt rfl rfl
theorem s200_371b1 : jx_Go jxP d 200 371 [l0, l1, l2, l3] [.int (nI 1)] h Q ↔ Q [.int (nI 1)] h := jx_rt rfl rfl
theorem s200_372 : jx_Go jxP d 200 372 [l0, .ref a, l2, l3] st h Q ↔ jx_Go jxP d 200 373 [l0, .ref a, l2, l3] (.ref a :: st) h Q := jg_al rfl rfl
theorem s200_373 : jx_Go jxP (d + 1) 200 373 [l0, l1, l2, l3] (.ref a :: st) h Q ↔ (st.length ≤ 4 ∧ jx_cl h a = some 11 ∧ jx_Go jxP d 92 0 [.ref a] [] h (fun s1 h1 => jx_Go jxP (d + 1) 200 376 [l0, l1, l2, l3] (s1 ++ st) h1 Q)) := jg_callV (as := [.ref a]) rfl rfl rfl rfl rfl
theorem s200_376 : jx_Go jxP d 200 376 [l0, l1, .ref a, l3] st h Q ↔ jx_Go jxP d 200 377 [l0, l1, .ref a, l3] (.ref a :: st) h Q := jg_al rfl rfl
theorem s200_377 : jx_Go jxP (d + 1) 200 377 [l0, l1, l2, l3] (.ref a :: st) h Q ↔ (st.length ≤ 4 ∧ jx_cl h a = some 12 ∧ jx_Go jxP d 145 0 [.ref a, jx_u] [] h (fun s1 h1 => jx_Go jxP (d + 1) 200 380 [l0, l1, l2, l3] (s1 ++ st) h1 Q)) := jg_callV (as := [.ref a]) rfl rfl rfl rfl rfl
theorem s200_380 : jx_Go jxP d 200 380 [l0, l1, l2, l3] (.int y :: .int x :: st) h Q ↔ if x = y then jx_Go jxP d 200 1150 [l0, l1, l2, l3] st h Q else jx_Go jxP d 200 383 [l0, l1, l2, l3] st h Q := jg_icP rfl rfl
theorem s200_383 : jx_Go jxP d 200 383 [l0, l1, l2, l3] st h Q ↔ jx_Go jxP d 200 384 [l0, l1, l2, l3] (.int (nI 0) :: st) h Q := jg_c rfl
theorem s200_384b0 : jx_Go jxP d 200 384 [l0, l1, l2, l3] [.int (nI 0)] h Q ↔ Q [.int (nI 0)] h := jx_rt rfl rfl
theorem s200_384b1 : jx_Go jxP d 200 384 [l0, l1, l2, l3] [.int (nI 1)] h Q ↔ Q [.int (nI 1)] h := jx_rt rfl rfl
theorem s200_385 : jx_Go jxP d 200 385 [l0, .ref a, l2, l3] st h Q ↔ jx_Go jxP d 200 386 [l0, .ref a, l2, l3] (.ref a :: st) h Q := jg_al rfl rfl
theorem s200_386 : jx_Go jxP d 200 386 [.ref a, l1, l2, l3] st h Q ↔ jx_Go jxP d 200 387 [.ref a, l1, l2, l3] (.ref a :: st) h Q := jg_al rfl rfl
theorem s200_387 : jx_Go jxP d 200 387 [l0, l1, l2, .int x] st h Q ↔ jx_Go jxP d 200 388 [l0, l1, l2, .int x] (.int x :: st) h Q := jg_il rfl rfl
theorem s200_388 : jx_Go jxP d 200 388 [l0, l1, l2, l3] st h Q ↔ jx_Go jxP d 200 389 [l0, l1, l2, l3] (.int (nI 1) :: st) h Q := jg_c rfl
theorem s200_389 : jx_Go jxP d 200 389 [l0, l1, l2, l3] (.int y :: .int x :: st) h Q ↔ jx_Go jxP d 200 390 [l0, l1, l2, l3] (.int (x + y) :: st) h Q := jg_b (f := fun x y => x + y) rfl
theorem s200_390 : jx_Go jxP d 200 390 [l0, l1, l2, l3] (.int x :: .ref 0 :: st) h Q ↔ ∃ q, jx_sc h 0 = some q ∧ jx_in x q.1 ∧ jx_Go jxP d 200 391 [l0, l1, l2, l3] (.int (q.2 x.toNatClampNeg) :: st) h Q := jg_sa rfl
theorem s200_391 : jx_Go jxP d 200 391 [l0, l1, l2, l3] (.int x :: st) h Q ↔ if x = 0 then jx_Go jxP d 200 398 [l0, l1, l2, l3] st h Q else jx_Go jxP d 200 394 [l0, l1, l2, l3] st h Q := jg_ifP rfl rfl
theorem s200_394 : jx_Go jxP d 200 394 [l0, l1, l2, l3] st h Q ↔ jx_Go jxP d 200 395 [l0, l1, l2, l3] (.int (nI 1) :: st) h Q := jg_c rfl
theorem s200_395 : jx_Go jxP d 200 395 [l0, l1, l2, l3] st h Q ↔ jx_Go jxP d 200 399 [l0, l1, l2, l3] st h Q := jg_go rfl
theorem s200_398 : jx_Go jxP d 200 398 [l0, l1, l2, l3] st h Q ↔ jx_Go jxP d 200 399 [l0, l1, l2, l3] (.int (nI 0) :: st) h Q := jg_c rfl
theorem s200_399 : jx_Go jxP (d + 1) 200 399 [l0, l1, l2, l3] (.int x0 :: .ref a :: st) h Q ↔ (st.length ≤ 4 ∧ jx_cl h a = some 11 ∧ jx_Go jxP d 93 0 [.ref a, .int x0] [] h (fun s1 h1 => jx_Go jxP (d + 1) 200 402 [l0, l1, l2, l3] (s1 ++ st) h1 Q)) := jg_callV (as := [.int x0, .ref a]) rfl rfl rfl rfl rfl
theorem s200_402 : jx_Go jxP d 200 402 [l0, l1, .ref a, l3] st h Q ↔ jx_Go jxP d 200 403 [l0, l1, .ref a, l3] (.ref a :: st) h Q := jg_al rfl rfl
theorem s200_403 : jx_Go jxP d 200 403 [.ref a, l1, l2, l3] st h Q ↔ jx_Go jxP d 200 404 [.ref a, l1, l2, l3] (.ref a :: st) h Q := jg_al rfl rfl
theorem s200_404 : jx_Go jxP d 200 404 [l0, l1, l2, .int x] st h Q ↔ jx_Go jxP d 200 405 [l0, l1, l2, .int x] (.int x :: st) h Q := jg_il rfl rfl
theorem s200_405 : jx_Go jxP d 200 405 [l0, l1, l2, l3] st h Q ↔ jx_Go jxP d 200 406 [l0, l1, l2, l3] (.int (nI 1) :: st) h Q := jg_c rfl
theorem s200_406 : jx_Go jxP d 200 406 [l0, l1, l2, l3] (.int y :: .int x :: st) h Q ↔ jx_Go jxP d 200 407 [l0, l1, l2, l3] (.int (x + y) :: st) h Q := jg_b (f := fun x y => x + y) rfl
theorem s200_407 : jx_Go jxP d 200 407 [l0, l1, l2, l3] (.int x :: .ref 0 :: st) h Q ↔ ∃ q, jx_sc h 0 = some q ∧ jx_in x q.1 ∧ jx_Go jxP d 200 408 [l0, l1, l2, l3] (.int (q.2 x.toNatClampNeg) :: st) h Q := jg_sa rfl
theorem s200_408 : jx_Go jxP d 200 408 [l0, l1, l2, l3] (.int x :: st) h Q ↔ if x = 0 then jx_Go jxP d 200 415 [l0, l1, l2, l3] st h Q else jx_Go jxP d 200 411 [l0, l1, l2, l3] st h Q := jg_ifP rfl rfl
theorem s200_411 : jx_Go jxP d 200 411 [l0, l1, l2, l3] st h Q ↔ jx_Go jxP d 200 412 [l0, l1, l2, l3] (.int (nI 1) :: st) h Q := jg_c rfl
theorem s200_412 : jx_Go jxP d 200 412 [l0, l1, l2, l3] st h Q ↔ jx_Go jxP d 200 416 [l0, l1, l2, l3] st h Q := jg_go rfl
theorem s200_415 : jx_Go jxP d 200 415 [l0, l1, l2, l3] st h Q ↔ jx_Go jxP d 200 416 [l0, l1, l2, l3] (.int (nI 0) :: st) h Q := jg_c rfl
theorem s200_416 : jx_Go jxP (d + 1) 200 416 [l0, l1, l2, l3] (.int x0 :: .ref a :: st) h Q ↔ (st.length ≤ 4 ∧ jx_cl h a = some 12 ∧ jx_Go jxP d 147 0 [.ref a, .int x0, jx_u, jx_u, jx_u, jx_u, jx_u, jx_u, jx_u] [] h (fun s1 h1 => jx_Go jxP (d + 1) 200 419 [l0, l1, l2, l3] (s1 ++ st) h1 Q)) := jg_callV (as := [.int x0, .ref a]) rfl rfl rfl rfl rfl
theorem s200_419 : jx_Go jxP d 200 419 [l0, l1, l2, l3] (.int y :: .int x :: st) h Q ↔ if x = y then jx_Go jxP d 200 1150 [l0, l1, l2, l3] st h Q else jx_Go jxP d 200 422 [l0, l1, l2, l3] st h Q := jg_icP rfl rfl
theorem s200_422 : jx_Go jxP d 200 422 [l0, l1, l2, l3] st h Q ↔ jx_Go jxP d 200 423 [l0, l1, l2, l3] (.int (nI 0) :: st) h Q := jg_c rfl
theorem s200_423b0 : jx_Go jxP d 200 423 [l0, l1, l2, l3] [.int (nI 0)] h Q ↔ Q [.int (nI 0)] h := jx_rt rfl rfl
theorem s200_423b1 : jx_Go jxP d 200 423 [l0, l1, l2, l3] [.int (nI 1)] h Q ↔ Q [.int (nI 1)] h := jx_rt rfl rfl
theorem s200_424 : jx_Go jxP d 200 424 [l0, .ref a, l2, l3] st h Q ↔ jx_Go jxP d 200 425 [l0, .ref a, l2, l3] (.ref a :: st) h Q := jg_al rfl rfl
theorem s200_425 : jx_Go jxP d 200 425 [.ref a, l1, l2, l3] st h Q ↔ jx_Go jxP d 200 426 [.ref a, l1, l2, l3] (.ref a :: st) h Q := jg_al rfl rfl
theorem s200_426 : jx_Go jxP d 200 426 [l0, l1, l2, .int x] st h Q ↔ jx_Go jxP d 200 427 [l0, l1, l2, .int x] (.int x :: st) h Q := jg_il rfl rfl
theorem s200_427 : jx_Go jxP d 200 427 [l0, l1, l2, l3] st h Q ↔ jx_Go jxP d 200 428 [l0, l1, l2, l3] (.int (nI 1) :: st) h Q := jg_c rfl
theorem s200_428 : jx_Go jxP d 200 428 [l0, l1, l2, l3] (.int y :: .int x :: st) h Q ↔ jx_Go jxP d 200 429 [l0, l1, l2, l3] (.int (x + y) :: st) h Q := jg_b (f := fun x y => x + y) rfl
theorem s200_429 : jx_Go jxP d 200 429 [l0, l1, l2, l3] (.int x :: .ref 0 :: st) h Q ↔ ∃ q, jx_sc h 0 = some q ∧ jx_in x q.1 ∧ jx_Go jxP d 200 430 [l0, l1, l2, l3] (.int (q.2 x.toNatClampNeg) :: st) h Q := jg_sa rfl
theorem s200_430 : jx_Go jxP d 200 430 [.ref a, l1, l2, l3] st h Q ↔ jx_Go jxP d 200 431 [.ref a, l1, l2, l3] (.ref a :: st) h Q := jg_al rfl rfl
theorem s200_431 : jx_Go jxP d 200 431 [l0, l1, l2, .int x] st h Q ↔ jx_Go jxP d 200 432 [l0, l1, l2, .int x] (.int x :: st) h Q := jg_il rfl rfl
theorem s200_432 : jx_Go jxP d 200 432 [l0, l1, l2, l3] st h Q ↔ jx_Go jxP d 200 433 [l0, l1, l2, l3] (.int (nI 2) :: st) h Q := jg_c rfl
theorem s200_433 : jx_Go jxP d 200 433 [l0, l1, l2, l3] (.int y :: .int x :: st) h Q ↔ jx_Go jxP d 200 434 [l0, l1, l2, l3] (.int (x + y) :: st) h Q := jg_b (f := fun x y => x + y) rfl
theorem s200_434 : jx_Go jxP d 200 434 [l0, l1, l2, l3] (.int x :: .ref 0 :: st) h Q ↔ ∃ q, jx_sc h 0 = some q ∧ jx_in x q.1 ∧ jx_Go jxP d 200 435 [l0, l1, l2, l3] (.int (q.2 x.toNatClampNeg) :: st) h Q := jg_sa rfl
theorem s200_435 : jx_Go jxP d 200 435 [.ref a, l1, l2, l3] st h Q ↔ jx_Go jxP d 200 436 [.ref a, l1, l2, l3] (.ref a :: st) h Q := jg_al rfl rfl
theorem s200_436 : jx_Go jxP d 200 436 [l0, l1, l2, .int x] st h Q ↔ jx_Go jxP d 200 437 [l0, l1, l2, .int x] (.int x :: st) h Q := jg_il rfl rfl
theorem s200_437 : jx_Go jxP d 200 437 [l0, l1, l2, l3] st h Q ↔ jx_Go jxP d 200 438 [l0, l1, l2, l3] (.int (nI 3) :: st) h Q := jg_c rfl
theorem s200_438 : jx_Go jxP d 200 438 [l0, l1, l2, l3] (.int y :: .int x :: st) h Q ↔ jx_Go jxP d 200 439 [l0, l1, l2, l3] (.int (x + y) :: st) h Q := jg_b (f := fun x y => x + y) rfl
theorem s200_439 : jx_Go jxP d 200 439 [l0, l1, l2, l3] (.int x :: .ref 0 :: st) h Q ↔ ∃ q, jx_sc h 0 = some q ∧ jx_in x q.1 ∧ jx_Go jxP d 200 440 [l0, l1, l2, l3] (.int (q.2 x.toNatClampNeg) :: st) h Q := jg_sa rfl
theorem s200_440 : jx_Go jxP (d + 1) 200 440 [l0, l1, l2, l3] (.int x2 :: .int x1 :: .int x0 :: .ref a :: st) h Q ↔ (st.length ≤ 4 ∧ jx_cl h a = some 11 ∧ jx_Go jxP d 94 0 [.ref a, .int x0, .int x1, .int x2, jx_u] [] h (fun s1 h1 => jx_Go jxP (d + 1) 200 443 [l0, l1, l2, l3] (s1 ++ st) h1 Q)) := jg_callV (as := [.int x2, .int x1, .int x0, .ref a]) rfl rfl rfl rfl rfl
theorem s200_443 : jx_Go jxP d 200 443 [l0, l1, .ref a, l3] st h Q ↔ jx_Go jxP d 200 444 [l0, l1, .ref a, l3] (.ref a :: st) h Q := jg_al rfl rfl
theorem s200_444 : jx_Go jxP d 200 444 [.ref a, l1, l2, l3] st h Q ↔ jx_Go jxP d 200 445 [.ref a, l1, l2, l3] (.ref a :: st) h Q := jg_al rfl rfl
theorem s200_445 : jx_Go jxP d 200 445 [l0, l1, l2, .int x] st h Q ↔ jx_Go jxP d 200 446 [l0, l1, l2, .int x] (.int x :: st) h Q := jg_il rfl rfl
theorem s200_446 : jx_Go jxP d 200 446 [l0, l1, l2, l3] st h Q ↔ jx_Go jxP d 200 447 [l0, l1, l2, l3] (.int (nI 1) :: st) h Q := jg_c rfl
theorem s200_447 : jx_Go jxP d 200 447 [l0, l1, l2, l3] (.int y :: .int x :: st) h Q ↔ jx_Go jxP d 200 448 [l0, l1, l2, l3] (.int (x + y) :: st) h Q := jg_b (f := fun x y => x + y) rfl
theorem s200_448 : jx_Go jxP d 200 448 [l0, l1, l2, l3] (.int x :: .ref 0 :: st) h Q ↔ ∃ q, jx_sc h 0 = some q ∧ jx_in x q.1 ∧ jx_Go jxP d 200 449 [l0, l1, l2, l3] (.int (q.2 x.toNatClampNeg) :: st) h Q := jg_sa rfl
theorem s200_449 : jx_Go jxP d 200 449 [.ref a, l1, l2, l3] st h Q ↔ jx_Go jxP d 200 450 [.ref a, l1, l2, l3] (.ref a :: st) h Q := jg_al rfl rfl
theorem s200_450 : jx_Go jxP d 200 450 [l0, l1, l2, .int x] st h Q ↔ jx_Go jxP d 200 451 [l0, l1, l2, .int x] (.int x :: st) h Q := jg_il rfl rfl
theorem s200_451 : jx_Go jxP d 200 451 [l0, l1, l2, l3] st h Q ↔ jx_Go jxP d 200 452 [l0, l1, l2, l3] (.int (nI 2) :: st) h Q := jg_c rfl
theorem s200_452 : jx_Go jxP d 200 452 [l0, l1, l2, l3] (.int y :: .int x :: st) h Q ↔ jx_Go jxP d 200 453 [l0, l1, l2, l3] (.int (x + y) :: st) h Q := jg_b (f := fun x y => x + y) rfl
theorem s200_453 : jx_Go jxP d 200 453 [l0, l1, l2, l3] (.int x :: .ref 0 :: st) h Q ↔ ∃ q, jx_sc h 0 = some q ∧ jx_in x q.1 ∧ jx_Go jxP d 200 454 [l0, l1, l2, l3] (.int (q.2 x.toNatClampNeg) :: st) h Q := jg_sa rfl
theorem s200_454 : jx_Go jxP d 200 454 [.ref a, l1, l2, l3] st h Q ↔ jx_Go jxP d 200 455 [.ref a, l1, l2, l3] (.ref a :: st) h Q := jg_al rfl rfl
theorem s200_455 : jx_Go jxP d 200 455 [l0, l1, l2, .int x] st h Q ↔ jx_Go jxP d 200 456 [l0, l1, l2, .int x] (.int x :: st) h Q := jg_il rfl rfl
theorem s200_456 : jx_Go jxP d 200 456 [l0, l1, l2, l3] st h Q ↔ jx_Go jxP d 200 457 [l0, l1, l2, l3] (.int (nI 3) :: st) h Q := jg_c rfl
theorem s200_457 : jx_Go jxP d 200 457 [l0, l1, l2, l3] (.int y :: .int x :: st) h Q ↔ jx_Go jxP d 200 458 [l0, l1, l2, l3] (.int (x + y) :: st) h Q := jg_b (f := fun x y => x + y) rfl
theorem s200_458 : jx_Go jxP d 200 458 [l0, l1, l2, l3] (.int x :: .ref 0 :: st) h Q ↔ ∃ q, jx_sc h 0 = some q ∧ jx_in x q.1 ∧ jx_Go jxP d 200 459 [l0, l1, l2, l3] (.int (q.2 x.toNatClampNeg) :: st) h Q := jg_sa rfl
theorem s200_459 : jx_Go jxP (d + 1) 200 459 [l0, l1, l2, l3] (.int x2 :: .int x1 :: .int x0 :: .ref a :: st) h Q ↔ (st.length ≤ 4 ∧ jx_cl h a = some 12 ∧ jx_Go jxP d 149 0 [.ref a, .int x0, .int x1, .int x2, jx_u] [] h (fun s1 h1 => jx_Go jxP (d + 1) 200 462 [l0, l1, l2, l3] (s1 ++ st) h1 Q)) := jg_callV (as := [.int x2, .int x1, .int x0, .ref a]) rfl rfl rfl rfl rfl
theorem s200_462 : jx_Go jxP d 200 462 [l0, l1, l2, l3] (.int y :: .int x :: st) h Q ↔ if x = y then jx_Go jxP d 200 1150 [l0, l1, l2, l3] st h Q else jx_Go jxP d 200 465 [l0, l1, l2, l3] st h Q := jg_icP rfl rfl
theorem s200_465 : jx_Go jxP d 200 465 [l0, l1, l2, l3] st h Q ↔ jx_Go jxP d 200 466 [l0, l1, l2, l3] (.int (nI 0) :: st) h Q := jg_c rfl
theorem s200_466b0 : jx_Go jxP d 200 466 [l0, l1, l2, l3] [.int (nI 0)] h Q ↔ Q [.int (nI 0)] h := jx_rt rfl rfl
theorem s200_466b1 : jx_Go jxP d 200 466 [l0, l1, l2, l3] [.int (nI 1)] h Q ↔ Q [.int (nI 1)] h := jx_rt rfl rfl
theorem s200_467 : jx_Go jxP d 200 467 [l0, .ref a, l2, l3] st h Q ↔ jx_Go jxP d 200 468 [l0, .ref a, l2, l3] (.ref a :: st) h Q := jg_al rfl rfl
theorem s200_468 : jx_Go jxP d 200 468 [.ref a, l1, l2, l3] st h Q ↔ jx_Go jxP d 200 469 [.ref a, l1, l2, l3] (.ref a :: st) h Q := jg_al rfl rfl
theorem s200_469 : jx_Go jxP d 200 469 [l0, l1, l2, .int x] st h Q ↔ jx_Go jxP d 200 470 [l0, l1, l2, .int x] (.int x :: st) h Q := jg_il rfl rfl
theorem s200_470 : jx_Go jxP d 200 470 [l0, l1, l2, l3] st h Q ↔ jx_Go jxP d 200 471 [l0, l1, l2, l3] (.int (nI 1) :: st) h Q := jg_c rfl
theorem s200_471 : jx_Go jxP d 200 471 [l0, l1, l2, l3] (.int y :: .int x :: st) h Q ↔ jx_Go jxP d 200 472 [l0, l1, l2, l3] (.int (x + y) :: st) h Q := jg_b (f := fun x y => x + y) rfl
theorem s200_472 : jx_Go jxP d 200 472 [l0, l1, l2, l3] (.int x :: .ref 0 :: st) h Q ↔ ∃ q, jx_sc h 0 = some q ∧ jx_in x q.1 ∧ jx_Go jxP d 200 473 [l0, l1, l2, l3] (.int (q.2 x.toNatClampNeg) :: st) h Q := jg_sa rfl
theorem s200_473 : jx_Go jxP d 200 473 [.ref a, l1, l2, l3] st h Q ↔ jx_Go jxP d 200 474 [.ref a, l1, l2, l3] (.ref a :: st) h Q := jg_al rfl rfl
theorem s200_474 : jx_Go jxP d 200 474 [l0, l1, l2, .int x] st h Q ↔ jx_Go jxP d 200 475 [l0, l1, l2, .int x] (.int x :: st) h Q := jg_il rfl rfl
theorem s200_475 : jx_Go jxP d 200 475 [l0, l1, l2, l3] st h Q ↔ jx_Go jxP d 200 476 [l0, l1, l2, l3] (.int (nI 2) :: st) h Q := jg_c rfl
theorem s200_476 : jx_Go jxP d 200 476 [l0, l1, l2, l3] (.int y :: .int x :: st) h Q ↔ jx_Go jxP d 200 477 [l0, l1, l2, l3] (.int (x + y) :: st) h Q := jg_b (f := fun x y => x + y) rfl
theorem s200_477 : jx_Go jxP d 200 477 [l0, l1, l2, l3] (.int x :: .ref 0 :: st) h Q ↔ ∃ q, jx_sc h 0 = some q ∧ jx_in x q.1 ∧ jx_Go jxP d 200 478 [l0, l1, l2, l3] (.int (q.2 x.toNatClampNeg) :: st) h Q := jg_sa rfl
theorem s200_478 : jx_Go jxP d 200 478 [.ref a, l1, l2, l3] st h Q ↔ jx_Go jxP d 200 479 [.ref a, l1, l2, l3] (.ref a :: st) h Q := jg_al rfl rfl
theorem s200_479 : jx_Go jxP d 200 479 [l0, l1, l2, .int x] st h Q ↔ jx_Go jxP d 200 480 [l0, l1, l2, .int x] (.int x :: st) h Q := jg_il rfl rfl
theorem s200_480 : jx_Go jxP d 200 480 [l0, l1, l2, l3] st h Q ↔ jx_Go jxP d 200 481 [l0, l1, l2, l3] (.int (nI 3) :: st) h Q := jg_c rfl
theorem s200_481 : jx_Go jxP d 200 481 [l0, l1, l2, l3] (.int y :: .int x :: st) h Q ↔ jx_Go jxP d 200 482 [l0, l1, l2, l3] (.int (x + y) :: st) h Q := jg_b (f := fun x y => x + y) rfl
theorem s200_482 : jx_Go jxP d 200 482 [l0, l1, l2, l3] (.int x :: .ref 0 :: st) h Q ↔ ∃ q, jx_sc h 0 = some q ∧ jx_in x q.1 ∧ jx_Go jxP d 200 483 [l0, l1, l2, l3] (.int (q.2 x.toNatClampNeg) :: st) h Q := jg_sa rfl
theorem s200_483 : jx_Go jxP (d + 1) 200 483 [l0, l1, l2, l3] (.int x2 :: .int x1 :: .int x0 :: .ref a :: st) h Q ↔ (st.length ≤ 4 ∧ jx_cl h a = some 11 ∧ jx_Go jxP d 95 0 [.ref a, .int x0, .int x1, .int x2] [] h (fun s1 h1 => jx_Go jxP (d + 1) 200 486 [l0, l1, l2, l3] (s1 ++ st) h1 Q)) := jg_callV (as := [.int x2, .int x1, .int x0, .ref a]) rfl rfl rfl rfl rfl
theorem s200_486 : jx_Go jxP d 200 486 [l0, l1, .ref a, l3] st h Q ↔ jx_Go jxP d 200 487 [l0, l1, .ref a, l3] (.ref a :: st) h Q := jg_al rfl rfl
theorem s200_487 : jx_Go jxP d 200 487 [.ref a, l1, l2, l3] st h Q ↔ jx_Go jxP d 200 488 [.ref a, l1, l2, l3] (.ref a :: st) h Q := jg_al rfl rfl
theorem s200_488 : jx_Go jxP d 200 488 [l0, l1, l2, .int x] st h Q ↔ jx_Go jxP d 200 489 [l0, l1, l2, .int x] (.int x :: st) h Q := jg_il rfl rfl
theorem s200_489 : jx_Go jxP d 200 489 [l0, l1, l2, l3] st h Q ↔ jx_Go jxP d 200 490 [l0, l1, l2, l3] (.int (nI 1) :: st) h Q := jg_c rfl
theorem s200_490 : jx_Go jxP d 200 490 [l0, l1, l2, l3] (.int y :: .int x :: st) h Q ↔ jx_Go jxP d 200 491 [l0, l1, l2, l3] (.int (x + y) :: st) h Q := jg_b (f := fun x y => x + y) rfl
theorem s200_491 : jx_Go jxP d 200 491 [l0, l1, l2, l3] (.int x :: .ref 0 :: st) h Q ↔ ∃ q, jx_sc h 0 = some q ∧ jx_in x q.1 ∧ jx_Go jxP d 200 492 [l0, l1, l2, l3] (.int (q.2 x.toNatClampNeg) :: st) h Q := jg_sa rfl
theorem s200_492 : jx_Go jxP d 200 492 [.ref a, l1, l2, l3] st h Q ↔ jx_Go jxP d 200 493 [.ref a, l1, l2, l3] (.ref a :: st) h Q := jg_al rfl rfl
theorem s200_493 : jx_Go jxP d 200 493 [l0, l1, l2, .int x] st h Q ↔ jx_Go jxP d 200 494 [l0, l1, l2, .int x] (.int x :: st) h Q := jg_il rfl rfl
theorem s200_494 : jx_Go jxP d 200 494 [l0, l1, l2, l3] st h Q ↔ jx_Go jxP d 200 495 [l0, l1, l2, l3] (.int (nI 2) :: st) h Q := jg_c rfl
theorem s200_495 : jx_Go jxP d 200 495 [l0, l1, l2, l3] (.int y :: .int x :: st) h Q ↔ jx_Go jxP d 200 496 [l0, l1, l2, l3] (.int (x + y) :: st) h Q := jg_b (f := fun x y => x + y) rfl
theorem s200_496 : jx_Go jxP d 200 496 [l0, l1, l2, l3] (.int x :: .ref 0 :: st) h Q ↔ ∃ q, jx_sc h 0 = some q ∧ jx_in x q.1 ∧ jx_Go jxP d 200 497 [l0, l1, l2, l3] (.int (q.2 x.toNatClampNeg) :: st) h Q := jg_sa rfl
theorem s200_497 : jx_Go jxP d 200 497 [.ref a, l1, l2, l3] st h Q ↔ jx_Go jxP d 200 498 [.ref a, l1, l2, l3] (.ref a :: st) h Q := jg_al rfl rfl
theorem s200_498 : jx_Go jxP d 200 498 [l0, l1, l2, .int x] st h Q ↔ jx_Go jxP d 200 499 [l0, l1, l2, .int x] (.int x :: st) h Q := jg_il rfl rfl
theorem s200_499 : jx_Go jxP d 200 499 [l0, l1, l2, l3] st h Q ↔ jx_Go jxP d 200 500 [l0, l1, l2, l3] (.int (nI 3) :: st) h Q := jg_c rfl
theorem s200_500 : jx_Go jxP d 200 500 [l0, l1, l2, l3] (.int y :: .int x :: st) h Q ↔ jx_Go jxP d 200 501 [l0, l1, l2, l3] (.int (x + y) :: st) h Q := jg_b (f := fun x y => x + y) rfl
theorem s200_501 : jx_Go jxP d 200 501 [l0, l1, l2, l3] (.int x :: .ref 0 :: st) h Q ↔ ∃ q, jx_sc h 0 = some q ∧ jx_in x q.1 ∧ jx_Go jxP d 200 502 [l0, l1, l2, l3] (.int (q.2 x.toNatClampNeg) :: st) h Q := jg_sa rfl
theorem s200_502 : jx_Go jxP (d + 1) 200 502 [l0, l1, l2, l3] (.int x2 :: .int x1 :: .int x0 :: .ref a :: st) h Q ↔ (st.length ≤ 4 ∧ jx_cl h a = some 12 ∧ jx_Go jxP d 150 0 [.ref a, .int x0, .int x1, .int x2] [] h (fun s1 h1 => jx_Go jxP (d + 1) 200 505 [l0, l1, l2, l3] (s1 ++ st) h1 Q)) := jg_callV (as := [.int x2, .int x1, .int x0, .ref a]) rfl rfl rfl rfl rfl
theorem s200_505 : jx_Go jxP d 200 505 [l0, l1, l2, l3] (.int y :: .int x :: st) h Q ↔ if x = y then jx_Go jxP d 200 1150 [l0, l1, l2, l3] st h Q else jx_Go jxP d 200 508 [l0, l1, l2, l3] st h Q := jg_icP rfl rfl
theorem s200_508 : jx_Go jxP d 200 508 [l0, l1, l2, l3] st h Q ↔ jx_Go jxP d 200 509 [l0, l1, l2, l3] (.int (nI 0) :: st) h Q := jg_c rfl
theorem s200_509b0 : jx_Go jxP d 200 509 [l0, l1, l2, l3] [.int (nI 0)] h Q ↔ Q [.int (nI 0)] h := jx_rt rfl rfl
theorem s200_509b1 : jx_Go jxP d 200 509 [l0, l1, l2, l3] [.int (nI 1)] h Q ↔ Q [.int (nI 1)] h := jx_rt rfl rfl
theorem s200_510 : jx_Go jxP d 200 510 [l0, .ref a, l2, l3] st h Q ↔ jx_Go jxP d 200 511 [l0, .ref a, l2, l3] (.ref a :: st) h Q := jg_al rfl rfl
theorem s200_511 : jx_Go jxP d 200 511 [.ref a, l1, l2, l3] st h Q ↔ jx_Go jxP d 200 512 [.ref a, l1, l2, l3] (.ref a :: st) h Q := jg_al rfl rfl
theorem s200_512 : jx_Go jxP d 200 512 [l0, l1, l2, .int x] st h Q ↔ jx_Go jxP d 200 513 [l0, l1, l2, .int x] (.int x :: st) h Q := jg_il rfl rfl
theorem s200_513 : jx_Go jxP d 200 513 [l0, l1, l2, l3] st h Q ↔ jx_Go jxP d 200 514 [l0, l1, l2, l3] (.int (nI 1) :: st) h Q := jg_c rfl
theorem s200_514 : jx_Go jxP d 200 514 [l0, l1, l2, l3] (.int y :: .int x :: st) h Q ↔ jx_Go jxP d 200 515 [l0, l1, l2, l3] (.int (x + y) :: st) h Q := jg_b (f := fun x y => x + y) rfl
theorem s200_515 : jx_Go jxP d 200 515 [l0, l1, l2, l3] (.int x :: .ref 0 :: st) h Q ↔ ∃ q, jx_sc h 0 = some q ∧ jx_in x q.1 ∧ jx_Go jxP d 200 516 [l0, l1, l2, l3] (.int (q.2 x.toNatClampNeg) :: st) h Q := jg_sa rfl
theorem s200_516 : jx_Go jxP d 200 516 [.ref a, l1, l2, l3] st h Q ↔ jx_Go jxP d 200 517 [.ref a, l1, l2, l3] (.ref a :: st) h Q := jg_al rfl rfl
theorem s200_517 : jx_Go jxP d 200 517 [l0, l1, l2, .int x] st h Q ↔ jx_Go jxP d 200 518 [l0, l1, l2, .int x] (.int x :: st) h Q := jg_il rfl rfl
theorem s200_518 : jx_Go jxP d 200 518 [l0, l1, l2, l3] st h Q ↔ jx_Go jxP d 200 519 [l0, l1, l2, l3] (.int (nI 2) :: st) h Q := jg_c rfl
theorem s200_519 : jx_Go jxP d 200 519 [l0, l1, l2, l3] (.int y :: .int x :: st) h Q ↔ jx_Go jxP d 200 520 [l0, l1, l2, l3] (.int (x + y) :: st) h Q := jg_b (f := fun x y => x + y) rfl
theorem s200_520 : jx_Go jxP d 200 520 [l0, l1, l2, l3] (.int x :: .ref 0 :: st) h Q ↔ ∃ q, jx_sc h 0 = some q ∧ jx_in x q.1 ∧ jx_Go jxP d 200 521 [l0, l1, l2, l3] (.int (q.2 x.toNatClampNeg) :: st) h Q := jg_sa rfl
theorem s200_521 : jx_Go jxP d 200 521 [.ref a, l1, l2, l3] st h Q ↔ jx_Go jxP d 200 522 [.ref a, l1, l2, l3] (.ref a :: st) h Q := jg_al rfl rfl
theorem s200_522 : jx_Go jxP d 200 522 [l0, l1, l2, .int x] st h Q ↔ jx_Go jxP d 200 523 [l0, l1, l2, .int x] (.int x :: st) h Q := jg_il rfl rfl
theorem s200_523 : jx_Go jxP d 200 523 [l0, l1, l2, l3] st h Q ↔ jx_Go jxP d 200 524 [l0, l1, l2, l3] (.int (nI 3) :: st) h Q := jg_c rfl
theorem s200_524 : jx_Go jxP d 200 524 [l0, l1, l2, l3] (.int y :: .int x :: st) h Q ↔ jx_Go jxP d 200 525 [l0, l1, l2, l3] (.int (x + y) :: st) h Q := jg_b (f := fun x y => x + y) rfl
theorem s200_525 : jx_Go jxP d 200 525 [l0, l1, l2, l3] (.int x :: .ref 0 :: st) h Q ↔ ∃ q, jx_sc h 0 = some q ∧ jx_in x q.1 ∧ jx_Go jxP d 200 526 [l0, l1, l2, l3] (.int (q.2 x.toNatClampNeg) :: st) h Q := jg_sa rfl
theorem s200_526 : jx_Go jxP d 200 526 [.ref a, l1, l2, l3] st h Q ↔ jx_Go jxP d 200 527 [.ref a, l1, l2, l3] (.ref a :: st) h Q := jg_al rfl rfl
theorem s200_527 : jx_Go jxP d 200 527 [l0, l1, l2, .int x] st h Q ↔ jx_Go jxP d 200 528 [l0, l1, l2, .int x] (.int x :: st) h Q := jg_il rfl rfl
theorem s200_528 : jx_Go jxP d 200 528 [l0, l1, l2, l3] st h Q ↔ jx_Go jxP d 200 529 [l0, l1, l2, l3] (.int (nI 4) :: st) h Q := jg_c rfl
theorem s200_529 : jx_Go jxP d 200 529 [l0, l1, l2, l3] (.int y :: .int x :: st) h Q ↔ jx_Go jxP d 200 530 [l0, l1, l2, l3] (.int (x + y) :: st) h Q := jg_b (f := fun x y => x + y) rfl
theorem s200_530 : jx_Go jxP d 200 530 [l0, l1, l2, l3] (.int x :: .ref 0 :: st) h Q ↔ ∃ q, jx_sc h 0 = some q ∧ jx_in x q.1 ∧ jx_Go jxP d 200 531 [l0, l1, l2, l3] (.int (q.2 x.toNatClampNeg) :: st) h Q := jg_sa rfl
theorem s200_531 : jx_Go jxP d 200 531 [.ref a, l1, l2, l3] st h Q ↔ jx_Go jxP d 200 532 [.ref a, l1, l2, l3] (.ref a :: st) h Q := jg_al rfl rfl
theorem s200_532 : jx_Go jxP d 200 532 [l0, l1, l2, .int x] st h Q ↔ jx_Go jxP d 200 533 [l0, l1, l2, .int x] (.int x :: st) h Q := jg_il rfl rfl
theorem s200_533 : jx_Go jxP d 200 533 [l0, l1, l2, l3] st h Q ↔ jx_Go jxP d 200 534 [l0, l1, l2, l3] (.int (nI 5) :: st) h Q := jg_c rfl
theorem s200_534 : jx_Go jxP d 200 534 [l0, l1, l2, l3] (.int y :: .int x :: st) h Q ↔ jx_Go jxP d 200 535 [l0, l1, l2, l3] (.int (x + y) :: st) h Q := jg_b (f := fun x y => x + y) rfl
theorem s200_535 : jx_Go jxP d 200 535 [l0, l1, l2, l3] (.int x :: .ref 0 :: st) h Q ↔ ∃ q, jx_sc h 0 = some q ∧ jx_in x q.1 ∧ jx_Go jxP d 200 536 [l0, l1, l2, l3] (.int (q.2 x.toNatClampNeg) :: st) h Q := jg_sa rfl
theorem s200_536 : jx_Go jxP (d + 1) 200 536 [l0, l1, l2, l3] (.int x4 :: .int x3 :: .int x2 :: .int x1 :: .int x0 :: .ref a :: st) h Q ↔ (st.length ≤ 4 ∧ jx_cl h a = some 11 ∧ jx_Go jxP d 96 0 [.ref a, .int x0, .int x1, .int x2, .int x3, .int x4, jx_u, jx_u] [] h (fun s1 h1 => jx_Go jxP (d + 1) 200 539 [l0, l1, l2, l3] (s1 ++ st) h1 Q)) := jg_callV (as := [.int x4, .int x3, .int x2, .int x1, .int x0, .ref a]) rfl rfl rfl rfl rfl
theorem s200_539 : jx_Go jxP d 200 539 [l0, l1, .ref a, l3] st h Q ↔ jx_Go jxP d 200 540 [l0, l1, .ref a, l3] (.ref a :: st) h Q := jg_al rfl rfl
theorem s200_540 : jx_Go jxP d 200 540 [.ref a, l1, l2, l3] st h Q ↔ jx_Go jxP d 200 541 [.ref a, l1, l2, l3] (.ref a :: st) h Q := jg_al rfl rfl
theorem s200_541 : jx_Go jxP d 200 541 [l0, l1, l2, .int x] st h Q ↔ jx_Go jxP d 200 542 [l0, l1, l2, .int x] (.int x :: st) h Q := jg_il rfl rfl
theorem s200_542 : jx_Go jxP d 200 542 [l0, l1, l2, l3] st h Q ↔ jx_Go jxP d 200 543 [l0, l1, l2, l3] (.int (nI 1) :: st) h Q := jg_c rfl
theorem s200_543 : jx_Go jxP d 200 543 [l0, l1, l2, l3] (.int y :: .int x :: st) h Q ↔ jx_Go jxP d 200 544 [l0, l1, l2, l3] (.int (x + y) :: st) h Q := jg_b (f := fun x y => x + y) rfl
theorem s200_544 : jx_Go jxP d 200 544 [l0, l1, l2, l3] (.int x :: .ref 0 :: st) h Q ↔ ∃ q, jx_sc h 0 = some q ∧ jx_in x q.1 ∧ jx_Go jxP d 200 545 [l0, l1, l2, l3] (.int (q.2 x.toNatClampNeg) :: st) h Q := jg_sa rfl
theorem s200_545 : jx_Go jxP d 200 545 [.ref a, l1, l2, l3] st h Q ↔ jx_Go jxP d 200 546 [.ref a, l1, l2, l3] (.ref a :: st) h Q := jg_al rfl rfl
theorem s200_546 : jx_Go jxP d 200 546 [l0, l1, l2, .int x] st h Q ↔ jx_Go jxP d 200 547 [l0, l1, l2, .int x] (.int x :: st) h Q := jg_il rfl rfl
theorem s200_547 : jx_Go jxP d 200 547 [l0, l1, l2, l3] st h Q ↔ jx_Go jxP d 200 548 [l0, l1, l2, l3] (.int (nI 2) :: st) h Q := jg_c rfl
theorem s200_548 : jx_Go jxP d 200 548 [l0, l1, l2, l3] (.int y :: .int x :: st) h Q ↔ jx_Go jxP d 200 549 [l0, l1, l2, l3] (.int (x + y) :: st) h Q := jg_b (f := fun x y => x + y) rfl
theorem s200_549 : jx_Go jxP d 200 549 [l0, l1, l2, l3] (.int x :: .ref 0 :: st) h Q ↔ ∃ q, jx_sc h 0 = some q ∧ jx_in x q.1 ∧ jx_Go jxP d 200 550 [l0, l1, l2, l3] (.int (q.2 x.toNatClampNeg) :: st) h Q := jg_sa rfl
theorem s200_550 : jx_Go jxP d 200 550 [.ref a, l1, l2, l3] st h Q ↔ jx_Go jxP d 200 551 [.ref a, l1, l2, l3] (.ref a :: st) h Q := jg_al rfl rfl
theorem s200_551 : jx_Go jxP d 200 551 [l0, l1, l2, .int x] st h Q ↔ jx_Go jxP d 200 552 [l0, l1, l2, .int x] (.int x :: st) h Q := jg_il rfl rfl
theorem s200_552 : jx_Go jxP d 200 552 [l0, l1, l2, l3] st h Q ↔ jx_Go jxP d 200 553 [l0, l1, l2, l3] (.int (nI 3) :: st) h Q := jg_c rfl
theorem s200_553 : jx_Go jxP d 200 553 [l0, l1, l2, l3] (.int y :: .int x :: st) h Q ↔ jx_Go jxP d 200 554 [l0, l1, l2, l3] (.int (x + y) :: st) h Q := jg_b (f := fun x y => x + y) rfl
theorem s200_554 : jx_Go jxP d 200 554 [l0, l1, l2, l3] (.int x :: .ref 0 :: st) h Q ↔ ∃ q, jx_sc h 0 = some q ∧ jx_in x q.1 ∧ jx_Go jxP d 200 555 [l0, l1, l2, l3] (.int (q.2 x.toNatClampNeg) :: st) h Q := jg_sa rfl
theorem s200_555 : jx_Go jxP d 200 555 [.ref a, l1, l2, l3] st h Q ↔ jx_Go jxP d 200 556 [.ref a, l1, l2, l3] (.ref a :: st) h Q := jg_al rfl rfl
theorem s200_556 : jx_Go jxP d 200 556 [l0, l1, l2, .int x] st h Q ↔ jx_Go jxP d 200 557 [l0, l1, l2, .int x] (.int x :: st) h Q := jg_il rfl rfl
theorem s200_557 : jx_Go jxP d 200 557 [l0, l1, l2, l3] st h Q ↔ jx_Go jxP d 200 558 [l0, l1, l2, l3] (.int (nI 4) :: st) h Q := jg_c rfl
theorem s200_558 : jx_Go jxP d 200 558 [l0, l1, l2, l3] (.int y :: .int x :: st) h Q ↔ jx_Go jxP d 200 559 [l0, l1, l2, l3] (.int (x + y) :: st) h Q := jg_b (f := fun x y => x + y) rfl
theorem s200_559 : jx_Go jxP d 200 559 [l0, l1, l2, l3] (.int x :: .ref 0 :: st) h Q ↔ ∃ q, jx_sc h 0 = some q ∧ jx_in x q.1 ∧ jx_Go jxP d 200 560 [l0, l1, l2, l3] (.int (q.2 x.toNatClampNeg) :: st) h Q := jg_sa rfl
theorem s200_560 : jx_Go jxP d 200 560 [.ref a, l1, l2, l3] st h Q ↔ jx_Go jxP d 200 561 [.ref a, l1, l2, l3] (.ref a :: st) h Q := jg_al rfl rfl
theorem s200_561 : jx_Go jxP d 200 561 [l0, l1, l2, .int x] st h Q ↔ jx_Go jxP d 200 562 [l0, l1, l2, .int x] (.int x :: st) h Q := jg_il rfl rfl
theorem s200_562 : jx_Go jxP d 200 562 [l0, l1, l2, l3] st h Q ↔ jx_Go jxP d 200 563 [l0, l1, l2, l3] (.int (nI 5) :: st) h Q := jg_c rfl
theorem s200_563 : jx_Go jxP d 200 563 [l0, l1, l2, l3] (.int y :: .int x :: st) h Q ↔ jx_Go jxP d 200 564 [l0, l1, l2, l3] (.int (x + y) :: st) h Q := jg_b (f := fun x y => x + y) rfl
theorem s200_564 : jx_Go jxP d 200 564 [l0, l1, l2, l3] (.int x :: .ref 0 :: st) h Q ↔ ∃ q, jx_sc h 0 = some q ∧ jx_in x q.1 ∧ jx_Go jxP d 200 565 [l0, l1, l2, l3] (.int (q.2 x.toNatClampNeg) :: st) h Q := jg_sa rfl
theorem s200_565 : jx_Go jxP (d + 1) 200 565 [l0, l1, l2, l3] (.int x4 :: .int x3 :: .int x2 :: .int x1 :: .int x0 :: .ref a :: st) h Q ↔ (st.length ≤ 4 ∧ jx_cl h a = some 12 ∧ jx_Go jxP d 152 0 [.ref a, .int x0, .int x1, .int x2, .int x3, .int x4, jx_u] [] h (fun s1 h1 => jx_Go jxP (d + 1) 200 568 [l0, l1, l2, l3] (s1 ++ st) h1 Q)) := jg_callV (as := [.int x4, .int x3, .int x2, .int x1, .int x0, .ref a]) rfl rfl rfl rfl rfl
theorem s200_568 : jx_Go jxP d 200 568 [l0, l1, l2, l3] (.int y :: .int x :: st) h Q ↔ if x = y then jx_Go jxP d 200 1150 [l0, l1, l2, l3] st h Q else jx_Go jxP d 200 571 [l0, l1, l2, l3] st h Q := jg_icP rfl rfl
theorem s200_571 : jx_Go jxP d 200 571 [l0, l1, l2, l3] st h Q ↔ jx_Go jxP d 200 572 [l0, l1, l2, l3] (.int (nI 0) :: st) h Q := jg_c rfl
theorem s200_572b0 : jx_Go jxP d 200 572 [l0, l1, l2, l3] [.int (nI 0)] h Q ↔ Q [.int (nI 0)] h := jx_rt rfl rfl
theorem s200_572b1 : jx_Go jxP d 200 572 [l0, l1, l2, l3] [.int (nI 1)] h Q ↔ Q [.int (nI 1)] h := jx_rt rfl rfl
theorem s200_573 : jx_Go jxP d 200 573 [l0, .ref a, l2, l3] st h Q ↔ jx_Go jxP d 200 574 [l0, .ref a, l2, l3] (.ref a :: st) h Q := jg_al rfl rfl
theorem s200_574 : jx_Go jxP d 200 574 [.ref a, l1, l2, l3] st h Q ↔ jx_Go jxP d 200 575 [.ref a, l1, l2, l3] (.ref a :: st) h Q := jg_al rfl rfl
theorem s200_575 : jx_Go jxP d 200 575 [l0, l1, l2, .int x] st h Q ↔ jx_Go jxP d 200 576 [l0, l1, l2, .int x] (.int x :: st) h Q := jg_il rfl rfl
theorem s200_576 : jx_Go jxP d 200 576 [l0, l1, l2, l3] st h Q ↔ jx_Go jxP d 200 577 [l0, l1, l2, l3] (.int (nI 1) :: st) h Q := jg_c rfl
theorem s200_577 : jx_Go jxP d 200 577 [l0, l1, l2, l3] (.int y :: .int x :: st) h Q ↔ jx_Go jxP d 200 578 [l0, l1, l2, l3] (.int (x + y) :: st) h Q := jg_b (f := fun x y => x + y) rfl
theorem s200_578 : jx_Go jxP d 200 578 [l0, l1, l2, l3] (.int x :: .ref 0 :: st) h Q ↔ ∃ q, jx_sc h 0 = some q ∧ jx_in x q.1 ∧ jx_Go jxP d 200 579 [l0, l1, l2, l3] (.int (q.2 x.toNatClampNeg) :: st) h Q := jg_sa rfl
theorem s200_579 : jx_Go jxP (d + 1) 200 579 [l0, l1, l2, l3] (.int x0 :: .ref a :: st) h Q ↔ (st.length ≤ 4 ∧ jx_cl h a = some 11 ∧ jx_Go jxP d 97 0 [.ref a, .int x0, jx_u] [] h (fun s1 h1 => jx_Go jxP (d + 1) 200 582 [l0, l1, l2, l3] (s1 ++ st) h1 Q)) := jg_callV (as := [.int x0, .ref a]) rfl rfl rfl rfl rfl
theorem s200_582 : jx_Go jxP d 200 582 [l0, l1, .ref a, l3] st h Q ↔ jx_Go jxP d 200 583 [l0, l1, .ref a, l3] (.ref a :: st) h Q := jg_al rfl rfl
theorem s200_583 : jx_Go jxP d 200 583 [.ref a, l1, l2, l3] st h Q ↔ jx_Go jxP d 200 584 [.ref a, l1, l2, l3] (.ref a :: st) h Q := jg_al rfl rfl
theorem s200_584 : jx_Go jxP d 200 584 [l0, l1, l2, .int x] st h Q ↔ jx_Go jxP d 200 585 [l0, l1, l2, .int x] (.int x :: st) h Q := jg_il rfl rfl
theorem s200_585 : jx_Go jxP d 200 585 [l0, l1, l2, l3] st h Q ↔ jx_Go jxP d 200 586 [l0, l1, l2, l3] (.int (nI 1) :: st) h Q := jg_c rfl
theorem s200_586 : jx_Go jxP d 200 586 [l0, l1, l2, l3] (.int y :: .int x :: st) h Q ↔ jx_Go jxP d 200 587 [l0, l1, l2, l3] (.int (x + y) :: st) h Q := jg_b (f := fun x y => x + y) rfl
theorem s200_587 : jx_Go jxP d 200 587 [l0, l1, l2, l3] (.int x :: .ref 0 :: st) h Q ↔ ∃ q, jx_sc h 0 = some q ∧ jx_in x q.1 ∧ jx_Go jxP d 200 588 [l0, l1, l2, l3] (.int (q.2 x.toNatClampNeg) :: st) h Q := jg_sa rfl
theorem s200_588 : jx_Go jxP (d + 1) 200 588 [l0, l1, l2, l3] (.int x0 :: .ref a :: st) h Q ↔ (st.length ≤ 4 ∧ jx_cl h a = some 12 ∧ jx_Go jxP d 153 0 [.ref a, .int x0, jx_u] [] h (fun s1 h1 => jx_Go jxP (d + 1) 200 591 [l0, l1, l2, l3] (s1 ++ st) h1 Q)) := jg_callV (as := [.int x0, .ref a]) rfl rfl rfl rfl rfl
theorem s200_591 : jx_Go jxP d 200 591 [l0, l1, l2, l3] (.int y :: .int x :: st) h Q ↔ if x = y then jx_Go jxP d 200 1150 [l0, l1, l2, l3] st h Q else jx_Go jxP d 200 594 [l0, l1, l2, l3] st h Q := jg_icP rfl rfl
theorem s200_594 : jx_Go jxP d 200 594 [l0, l1, l2, l3] st h Q ↔ jx_Go jxP d 200 595 [l0, l1, l2, l3] (.int (nI 0) :: st) h Q := jg_c rfl
theorem s200_595b0 : jx_Go jxP d 200 595 [l0, l1, l2, l3] [.int (nI 0)] h Q ↔ Q [.int (nI 0)] h := jx_rt rfl rfl
theorem s200_595b1 : jx_Go jxP d 200 595 [l0, l1, l2, l3] [.int (nI 1)] h Q ↔ Q [.int (nI 1)] h := jx_rt rfl rfl
theorem s200_596 : jx_Go jxP d 200 596 [l0, .ref a, l2, l3] st h Q ↔ jx_Go jxP d 200 597 [l0, .ref a, l2, l3] (.ref a :: st) h Q := jg_al rfl rfl
theorem s200_597 : jx_Go jxP d 200 597 [.ref a, l1, l2, l3] st h Q ↔ jx_Go jxP d 200 598 [.ref a, l1, l2, l3] (.ref a :: st) h Q := jg_al rfl rfl
theorem s200_598 : jx_Go jxP d 200 598 [l0, l1, l2, .int x] st h Q ↔ jx_Go jxP d 200 599 [l0, l1, l2, .int x] (.int x :: st) h Q := jg_il rfl rfl
theorem s200_599 : jx_Go jxP d 200 599 [l0, l1, l2, l3] st h Q ↔ jx_Go jxP d 200 600 [l0, l1, l2, l3] (.int (nI 1) :: st) h Q := jg_c rfl
theorem s200_600 : jx_Go jxP d 200 600 [l0, l1, l2, l3] (.int y :: .int x :: st) h Q ↔ jx_Go jxP d 200 601 [l0, l1, l2, l3] (.int (x + y) :: st) h Q := jg_b (f := fun x y => x + y) rfl
theorem s200_601 : jx_Go jxP d 200 601 [l0, l1, l2, l3] (.int x :: .ref 0 :: st) h Q ↔ ∃ q, jx_sc h 0 = some q ∧ jx_in x q.1 ∧ jx_Go jxP d 200 602 [l0, l1, l2, l3] (.int (q.2 x.toNatClampNeg) :: st) h Q := jg_sa rfl
theorem s200_602 : jx_Go jxP d 200 602 [.ref a, l1, l2, l3] st h Q ↔ jx_Go jxP d 200 603 [.ref a, l1, l2, l3] (.ref a :: st) h Q := jg_al rfl rfl
theorem s200_603 : jx_Go jxP d 200 603 [l0, l1, l2, .int x] st h Q ↔ jx_Go jxP d 200 604 [l0, l1, l2, .int x] (.int x :: st) h Q := jg_il rfl rfl
theorem s200_604 : jx_Go jxP d 200 604 [l0, l1, l2, l3] st h Q ↔ jx_Go jxP d 200 605 [l0, l1, l2, l3] (.int (nI 2) :: st) h Q := jg_c rfl
theorem s200_605 : jx_Go jxP d 200 605 [l0, l1, l2, l3] (.int y :: .int x :: st) h Q ↔ jx_Go jxP d 200 606 [l0, l1, l2, l3] (.int (x + y) :: st) h Q := jg_b (f := fun x y => x + y) rfl
theorem s200_606 : jx_Go jxP d 200 606 [l0, l1, l2, l3] (.int x :: .ref 0 :: st) h Q ↔ ∃ q, jx_sc h 0 = some q ∧ jx_in x q.1 ∧ jx_Go jxP d 200 607 [l0, l1, l2, l3] (.int (q.2 x.toNatClampNeg) :: st) h Q := jg_sa rfl
theorem s200_607 : jx_Go jxP (d + 1) 200 607 [l0, l1, l2, l3] (.int x1 :: .int x0 :: .ref a :: st) h Q ↔ (st.length ≤ 4 ∧ jx_cl h a = some 11 ∧ jx_Go jxP d 98 0 [.ref a, .int x0, .int x1] [] h (fun s1 h1 => jx_Go jxP (d + 1) 200 610 [l0, l1, l2, l3] (s1 ++ st) h1 Q)) := jg_callV (as := [.int x1, .int x0, .ref a]) rfl rfl rfl rfl rfl
theorem s200_610 : jx_Go jxP d 200 610 [l0, l1, .ref a, l3] st h Q ↔ jx_Go jxP d 200 611 [l0, l1, .ref a, l3] (.ref a :: st) h Q := jg_al rfl rfl
theorem s200_611 : jx_Go jxP d 200 611 [.ref a, l1, l2, l3] st h Q ↔ jx_Go jxP d 200 612 [.ref a, l1, l2, l3] (.ref a :: st) h Q := jg_al rfl rfl
theorem s200_612 : jx_Go jxP d 200 612 [l0, l1, l2, .int x] st h Q ↔ jx_Go jxP d 200 613 [l0, l1, l2, .int x] (.int x :: st) h Q := jg_il rfl rfl
theorem s200_613 : jx_Go jxP d 200 613 [l0, l1, l2, l3] st h Q ↔ jx_Go jxP d 200 614 [l0, l1, l2, l3] (.int (nI 1) :: st) h Q := jg_c rfl
theorem s200_614 : jx_Go jxP d 200 614 [l0, l1, l2, l3] (.int y :: .int x :: st) h Q ↔ jx_Go jxP d 200 615 [l0, l1, l2, l3] (.int (x + y) :: st) h Q := jg_b (f := fun x y => x + y) rfl
theorem s200_615 : jx_Go jxP d 200 615 [l0, l1, l2, l3] (.int x :: .ref 0 :: st) h Q ↔ ∃ q, jx_sc h 0 = some q ∧ jx_in x q.1 ∧ jx_Go jxP d 200 616 [l0, l1, l2, l3] (.int (q.2 x.toNatClampNeg) :: st) h Q := jg_sa rfl
theorem s200_616 : jx_Go jxP d 200 616 [.ref a, l1, l2, l3] st h Q ↔ jx_Go jxP d 200 617 [.ref a, l1, l2, l3] (.ref a :: st) h Q := jg_al rfl rfl
theorem s200_617 : jx_Go jxP d 200 617 [l0, l1, l2, .int x] st h Q ↔ jx_Go jxP d 200 618 [l0, l1, l2, .int x] (.int x :: st) h Q := jg_il rfl rfl
theorem s200_618 : jx_Go jxP d 200 618 [l0, l1, l2, l3] st h Q ↔ jx_Go jxP d 200 619 [l0, l1, l2, l3] (.int (nI 2) :: st) h Q := jg_c rfl
theorem s200_619 : jx_Go jxP d 200 619 [l0, l1, l2, l3] (.int y :: .int x :: st) h Q ↔ jx_Go jxP d 200 620 [l0, l1, l2, l3] (.int (x + y) :: st) h Q := jg_b (f := fun x y => x + y) rfl
theorem s200_620 : jx_Go jxP d 200 620 [l0, l1, l2, l3] (.int x :: .ref 0 :: st) h Q ↔ ∃ q, jx_sc h 0 = some q ∧ jx_in x q.1 ∧ jx_Go jxP d 200 621 [l0, l1, l2, l3] (.int (q.2 x.toNatClampNeg) :: st) h Q := jg_sa rfl
theorem s200_621 : jx_Go jxP (d + 1) 200 621 [l0, l1, l2, l3] (.int x1 :: .int x0 :: .ref a :: st) h Q ↔ (st.length ≤ 4 ∧ jx_cl h a = some 12 ∧ jx_Go jxP d 162 0 [.ref a, .int x0, .int x1] [] h (fun s1 h1 => jx_Go jxP (d + 1) 200 624 [l0, l1, l2, l3] (s1 ++ st) h1 Q)) := jg_callV (as := [.int x1, .int x0, .ref a]) rfl rfl rfl rfl rfl
theorem s200_624 : jx_Go jxP d 200 624 [l0, l1, l2, l3] (.int y :: .int x :: st) h Q ↔ if x = y then jx_Go jxP d 200 1150 [l0, l1, l2, l3] st h Q else jx_Go jxP d 200 627 [l0, l1, l2, l3] st h Q := jg_icP rfl rfl
theorem s200_627 : jx_Go jxP d 200 627 [l0, l1, l2, l3] st h Q ↔ jx_Go jxP d 200 628 [l0, l1, l2, l3] (.int (nI 0) :: st) h Q := jg_c rfl
theorem s200_628b0 : jx_Go jxP d 200 628 [l0, l1, l2, l3] [.int (nI 0)] h Q ↔ Q [.int (nI 0)] h := jx_rt rfl rfl
theorem s200_628b1 : jx_Go jxP d 200 628 [l0, l1, l2, l3] [.int (nI 1)] h Q ↔ Q [.int (nI 1)] h := jx_rt rfl rfl
theorem s200_629 : jx_Go jxP d 200 629 [l0, .ref a, l2, l3] st h Q ↔ jx_Go jxP d 200 630 [l0, .ref a, l2, l3] (.ref a :: st) h Q := jg_al rfl rfl
theorem s200_630 : jx_Go jxP d 200 630 [.ref a, l1, l2, l3] st h Q ↔ jx_Go jxP d 200 631 [.ref a, l1, l2, l3] (.ref a :: st) h Q := jg_al rfl rfl
theorem s200_631 : jx_Go jxP d 200 631 [l0, l1, l2, .int x] st h Q ↔ jx_Go jxP d 200 632 [l0, l1, l2, .int x] (.int x :: st) h Q := jg_il rfl rfl
theorem s200_632 : jx_Go jxP d 200 632 [l0, l1, l2, l3] st h Q ↔ jx_Go jxP d 200 633 [l0, l1, l2, l3] (.int (nI 1) :: st) h Q := jg_c rfl
theorem s200_633 : jx_Go jxP d 200 633 [l0, l1, l2, l3] (.int y :: .int x :: st) h Q ↔ jx_Go jxP d 200 634 [l0, l1, l2, l3] (.int (x + y) :: st) h Q := jg_b (f := fun x y => x + y) rfl
theorem s200_634 : jx_Go jxP d 200 634 [l0, l1, l2, l3] (.int x :: .ref 0 :: st) h Q ↔ ∃ q, jx_sc h 0 = some q ∧ jx_in x q.1 ∧ jx_Go jxP d 200 635 [l0, l1, l2, l3] (.int (q.2 x.toNatClampNeg) :: st) h Q := jg_sa rfl
theorem s200_635 : jx_Go jxP d 200 635 [.ref a, l1, l2, l3] st h Q ↔ jx_Go jxP d 200 636 [.ref a, l1, l2, l3] (.ref a :: st) h Q := jg_al rfl rfl
theorem s200_636 : jx_Go jxP d 200 636 [l0, l1, l2, .int x] st h Q ↔ jx_Go jxP d 200 637 [l0, l1, l2, .int x] (.int x :: st) h Q := jg_il rfl rfl
theorem s200_637 : jx_Go jxP d 200 637 [l0, l1, l2, l3] st h Q ↔ jx_Go jxP d 200 638 [l0, l1, l2, l3] (.int (nI 2) :: st) h Q := jg_c rfl
theorem s200_638 : jx_Go jxP d 200 638 [l0, l1, l2, l3] (.int y :: .int x :: st) h Q ↔ jx_Go jxP d 200 639 [l0, l1, l2, l3] (.int (x + y) :: st) h Q := jg_b (f := fun x y => x + y) rfl
theorem s200_639 : jx_Go jxP d 200 639 [l0, l1, l2, l3] (.int x :: .ref 0 :: st) h Q ↔ ∃ q, jx_sc h 0 = some q ∧ jx_in x q.1 ∧ jx_Go jxP d 200 640 [l0, l1, l2, l3] (.int (q.2 x.toNatClampNeg) :: st) h Q := jg_sa rfl
theorem s200_640 : jx_Go jxP (d + 1) 200 640 [l0, l1, l2, l3] (.int x1 :: .int x0 :: .ref a :: st) h Q ↔ (st.length ≤ 4 ∧ jx_cl h a = some 11 ∧ jx_Go jxP d 99 0 [.ref a, .int x0, .int x1] [] h (fun s1 h1 => jx_Go jxP (d + 1) 200 643 [l0, l1, l2, l3] (s1 ++ st) h1 Q)) := jg_callV (as := [.int x1, .int x0, .ref a]) rfl rfl rfl rfl rfl
theorem s200_643 : jx_Go jxP d 200 643 [l0, l1, .ref a, l3] st h Q ↔ jx_Go jxP d 200 644 [l0, l1, .ref a, l3] (.ref a :: st) h Q := jg_al rfl rfl
theorem s200_644 : jx_Go jxP d 200 644 [.ref a, l1, l2, l3] st h Q ↔ jx_Go jxP d 200 645 [.ref a, l1, l2, l3] (.ref a :: st) h Q := jg_al rfl rfl
theorem s200_645 : jx_Go jxP d 200 645 [l0, l1, l2, .int x] st h Q ↔ jx_Go jxP d 200 646 [l0, l1, l2, .int x] (.int x :: st) h Q := jg_il rfl rfl
theorem s200_646 : jx_Go jxP d 200 646 [l0, l1, l2, l3] st h Q ↔ jx_Go jxP d 200 647 [l0, l1, l2, l3] (.int (nI 1) :: st) h Q := jg_c rfl
theorem s200_647 : jx_Go jxP d 200 647 [l0, l1, l2, l3] (.int y :: .int x :: st) h Q ↔ jx_Go jxP d 200 648 [l0, l1, l2, l3] (.int (x + y) :: st) h Q := jg_b (f := fun x y => x + y) rfl
theorem s200_648 : jx_Go jxP d 200 648 [l0, l1, l2, l3] (.int x :: .ref 0 :: st) h Q ↔ ∃ q, jx_sc h 0 = some q ∧ jx_in x q.1 ∧ jx_Go jxP d 200 649 [l0, l1, l2, l3] (.int (q.2 x.toNatClampNeg) :: st) h Q := jg_sa rfl
theorem s200_649 : jx_Go jxP d 200 649 [.ref a, l1, l2, l3] st h Q ↔ jx_Go jxP d 200 650 [.ref a, l1, l2, l3] (.ref a :: st) h Q := jg_al rfl rfl
theorem s200_650 : jx_Go jxP d 200 650 [l0, l1, l2, .int x] st h Q ↔ jx_Go jxP d 200 651 [l0, l1, l2, .int x] (.int x :: st) h Q := jg_il rfl rfl
theorem s200_651 : jx_Go jxP d 200 651 [l0, l1, l2, l3] st h Q ↔ jx_Go jxP d 200 652 [l0, l1, l2, l3] (.int (nI 2) :: st) h Q := jg_c rfl
theorem s200_652 : jx_Go jxP d 200 652 [l0, l1, l2, l3] (.int y :: .int x :: st) h Q ↔ jx_Go jxP d 200 653 [l0, l1, l2, l3] (.int (x + y) :: st) h Q := jg_b (f := fun x y => x + y) rfl
theorem s200_653 : jx_Go jxP d 200 653 [l0, l1, l2, l3] (.int x :: .ref 0 :: st) h Q ↔ ∃ q, jx_sc h 0 = some q ∧ jx_in x q.1 ∧ jx_Go jxP d 200 654 [l0, l1, l2, l3] (.int (q.2 x.toNatClampNeg) :: st) h Q := jg_sa rfl
theorem s200_654 : jx_Go jxP (d + 1) 200 654 [l0, l1, l2, l3] (.int x1 :: .int x0 :: .ref a :: st) h Q ↔ (st.length ≤ 4 ∧ jx_cl h a = some 12 ∧ jx_Go jxP d 163 0 [.ref a, .int x0, .int x1] [] h (fun s1 h1 => jx_Go jxP (d + 1) 200 657 [l0, l1, l2, l3] (s1 ++ st) h1 Q)) := jg_callV (as := [.int x1, .int x0, .ref a]) rfl rfl rfl rfl rfl
theorem s200_657 : jx_Go jxP d 200 657 [l0, l1, l2, l3] (.int y :: .int x :: st) h Q ↔ if x = y then jx_Go jxP d 200 1150 [l0, l1, l2, l3] st h Q else jx_Go jxP d 200 660 [l0, l1, l2, l3] st h Q := jg_icP rfl rfl
theorem s200_660 : jx_Go jxP d 200 660 [l0, l1, l2, l3] st h Q ↔ jx_Go jxP d 200 661 [l0, l1, l2, l3] (.int (nI 0) :: st) h Q := jg_c rfl
theorem s200_661b0 : jx_Go jxP d 200 661 [l0, l1, l2, l3] [.int (nI 0)] h Q ↔ Q [.int (nI 0)] h := jx_rt rfl rfl
theorem s200_661b1 : jx_Go jxP d 200 661 [l0, l1, l2, l3] [.int (nI 1)] h Q ↔ Q [.int (nI 1)] h := jx_rt rfl rfl
theorem s200_662 : jx_Go jxP d 200 662 [l0, .ref a, l2, l3] st h Q ↔ jx_Go jxP d 200 663 [l0, .ref a, l2, l3] (.ref a :: st) h Q := jg_al rfl rfl
theorem s200_663 : jx_Go jxP (d + 1) 200 663 [l0, l1, l2, l3] (.ref a :: st) h Q ↔ (st.length ≤ 4 ∧ jx_cl h a = some 11 ∧ jx_Go jxP d 100 0 [.ref a] [] h (fun s1 h1 => jx_Go jxP (d + 1) 200 666 [l0, l1, l2, l3] (s1 ++ st) h1 Q)) := jg_callV (as := [.ref a]) rfl rfl rfl rfl rfl
theorem s200_666 : jx_Go jxP d 200 666 [l0, l1, .ref a, l3] st h Q ↔ jx_Go jxP d 200 667 [l0, l1, .ref a, l3] (.ref a :: st) h Q := jg_al rfl rfl
theorem s200_667 : jx_Go jxP (d + 1) 200 667 [l0, l1, l2, l3] (.ref a :: st) h Q ↔ (st.length ≤ 4 ∧ jx_cl h a = some 12 ∧ jx_Go jxP d 166 0 [.ref a, jx_u, jx_u, jx_u, jx_u, jx_u] [] h (fun s1 h1 => jx_Go jxP (d + 1) 200 670 [l0, l1, l2, l3] (s1 ++ st) h1 Q)) := jg_callV (as := [.ref a]) rfl rfl rfl rfl rfl
theorem s200_670 : jx_Go jxP d 200 670 [l0, l1, l2, l3] (.int y :: .int x :: st) h Q ↔ if x = y then jx_Go jxP d 200 1150 [l0, l1, l2, l3] st h Q else jx_Go jxP d 200 673 [l0, l1, l2, l3] st h Q := jg_icP rfl rfl
theorem s200_673 : jx_Go jxP d 200 673 [l0, l1, l2, l3] st h Q ↔ jx_Go jxP d 200 674 [l0, l1, l2, l3] (.int (nI 0) :: st) h Q := jg_c rfl
theorem s200_674b0 : jx_Go jxP d 200 674 [l0, l1, l2, l3] [.int (nI 0)] h Q ↔ Q [.int (nI 0)] h := jx_rt rfl rfl
theorem s200_674b1 : jx_Go jxP d 200 674 [l0, l1, l2, l3] [.int (nI 1)] h Q ↔ Q [.int (nI 1)] h := jx_rt rfl rfl
theorem s200_675 : jx_Go jxP d 200 675 [l0, .ref a, l2, l3] st h Q ↔ jx_Go jxP d 200 676 [l0, .ref a, l2, l3] (.ref a :: st) h Q := jg_al rfl rfl
theorem s200_676 : jx_Go jxP d 200 676 [.ref a, l1, l2, l3] st h Q ↔ jx_Go jxP d 200 677 [.ref a, l1, l2, l3] (.ref a :: st) h Q := jg_al rfl rfl
theorem s200_677 : jx_Go jxP d 200 677 [l0, l1, l2, .int x] st h Q ↔ jx_Go jxP d 200 678 [l0, l1, l2, .int x] (.int x :: st) h Q := jg_il rfl rfl
theorem s200_678 : jx_Go jxP d 200 678 [l0, l1, l2, l3] st h Q ↔ jx_Go jxP d 200 679 [l0, l1, l2, l3] (.int (nI 1) :: st) h Q := jg_c rfl
theorem s200_679 : jx_Go jxP d 200 679 [l0, l1, l2, l3] (.int y :: .int x :: st) h Q ↔ jx_Go jxP d 200 680 [l0, l1, l2, l3] (.int (x + y) :: st) h Q := jg_b (f := fun x y => x + y) rfl
theorem s200_680 : jx_Go jxP d 200 680 [l0, l1, l2, l3] (.int x :: .ref 0 :: st) h Q ↔ ∃ q, jx_sc h 0 = some q ∧ jx_in x q.1 ∧ jx_Go jxP d 200 681 [l0, l1, l2, l3] (.int (q.2 x.toNatClampNeg) :: st) h Q := jg_sa rfl
theorem s200_681 : jx_Go jxP d 200 681 [.ref a, l1, l2, l3] st h Q ↔ jx_Go jxP d 200 682 [.ref a, l1, l2, l3] (.ref a :: st) h Q := jg_al rfl rfl
theorem s200_682 : jx_Go jxP d 200 682 [l0, l1, l2, .int x] st h Q ↔ jx_Go jxP d 200 683 [l0, l1, l2, .int x] (.int x :: st) h Q := jg_il rfl rfl
theorem s200_683 : jx_Go jxP d 200 683 [l0, l1, l2, l3] st h Q ↔ jx_Go jxP d 200 684 [l0, l1, l2, l3] (.int (nI 2) :: st) h Q := jg_c rfl
theorem s200_684 : jx_Go jxP d 200 684 [l0, l1, l2, l3] (.int y :: .int x :: st) h Q ↔ jx_Go jxP d 200 685 [l0, l1, l2, l3] (.int (x + y) :: st) h Q := jg_b (f := fun x y => x + y) rfl
theorem s200_685 : jx_Go jxP d 200 685 [l0, l1, l2, l3] (.int x :: .ref 0 :: st) h Q ↔ ∃ q, jx_sc h 0 = some q ∧ jx_in x q.1 ∧ jx_Go jxP d 200 686 [l0, l1, l2, l3] (.int (q.2 x.toNatClampNeg) :: st) h Q := jg_sa rfl
theorem s200_686 : jx_Go jxP (d + 1) 200 686 [l0, l1, l2, l3] (.int x1 :: .int x0 :: .ref a :: st) h Q ↔ (st.length ≤ 4 ∧ jx_cl h a = some 11 ∧ jx_Go jxP d 101 0 [.ref a, .int x0, .int x1] [] h (fun s1 h1 => jx_Go jxP (d + 1) 200 689 [l0, l1, l2, l3] (s1 ++ st) h1 Q)) := jg_callV (as := [.int x1, .int x0, .ref a]) rfl rfl rfl rfl rfl
theorem s200_689 : jx_Go jxP d 200 689 [l0, l1, .ref a, l3] st h Q ↔ jx_Go jxP d 200 690 [l0, l1, .ref a, l3] (.ref a :: st) h Q := jg_al rfl rfl
theorem s200_690 : jx_Go jxP d 200 690 [.ref a, l1, l2, l3] st h Q ↔ jx_Go jxP d 200 691 [.ref a, l1, l2, l3] (.ref a :: st) h Q := jg_al rfl rfl
theorem s200_691 : jx_Go jxP d 200 691 [l0, l1, l2, .int x] st h Q ↔ jx_Go jxP d 200 692 [l0, l1, l2, .int x] (.int x :: st) h Q := jg_il rfl rfl
theorem s200_692 : jx_Go jxP d 200 692 [l0, l1, l2, l3] st h Q ↔ jx_Go jxP d 200 693 [l0, l1, l2, l3] (.int (nI 1) :: st) h Q := jg_c rfl
theorem s200_693 : jx_Go jxP d 200 693 [l0, l1, l2, l3] (.int y :: .int x :: st) h Q ↔ jx_Go jxP d 200 694 [l0, l1, l2, l3] (.int (x + y) :: st) h Q := jg_b (f := fun x y => x + y) rfl
theorem s200_694 : jx_Go jxP d 200 694 [l0, l1, l2, l3] (.int x :: .ref 0 :: st) h Q ↔ ∃ q, jx_sc h 0 = some q ∧ jx_in x q.1 ∧ jx_Go jxP d 200 695 [l0, l1, l2, l3] (.int (q.2 x.toNatClampNeg) :: st) h Q := jg_sa rfl
theorem s200_695 : jx_Go jxP d 200 695 [.ref a, l1, l2, l3] st h Q ↔ jx_Go jxP d 200 696 [.ref a, l1, l2, l3] (.ref a :: st) h Q := jg_al rfl rfl
theorem s200_696 : jx_Go jxP d 200 696 [l0, l1, l2, .int x] st h Q ↔ jx_Go jxP d 200 697 [l0, l1, l2, .int x] (.int x :: st) h Q := jg_il rfl rfl
theorem s200_697 : jx_Go jxP d 200 697 [l0, l1, l2, l3] st h Q ↔ jx_Go jxP d 200 698 [l0, l1, l2, l3] (.int (nI 2) :: st) h Q := jg_c rfl
theorem s200_698 : jx_Go jxP d 200 698 [l0, l1, l2, l3] (.int y :: .int x :: st) h Q ↔ jx_Go jxP d 200 699 [l0, l1, l2, l3] (.int (x + y) :: st) h Q := jg_b (f := fun x y => x + y) rfl
theorem s200_699 : jx_Go jxP d 200 699 [l0, l1, l2, l3] (.int x :: .ref 0 :: st) h Q ↔ ∃ q, jx_sc h 0 = some q ∧ jx_in x q.1 ∧ jx_Go jxP d 200 700 [l0, l1, l2, l3] (.int (q.2 x.toNatClampNeg) :: st) h Q := jg_sa rfl
theorem s200_700 : jx_Go jxP (d + 1) 200 700 [l0, l1, l2, l3] (.int x1 :: .int x0 :: .ref a :: st) h Q ↔ (st.length ≤ 4 ∧ jx_cl h a = some 12 ∧ jx_Go jxP d 167 0 [.ref a, .int x0, .int x1] [] h (fun s1 h1 => jx_Go jxP (d + 1) 200 703 [l0, l1, l2, l3] (s1 ++ st) h1 Q)) := jg_callV (as := [.int x1, .int x0, .ref a]) rfl rfl rfl rfl rfl
theorem s200_703 : jx_Go jxP d 200 703 [l0, l1, l2, l3] (.int y :: .int x :: st) h Q ↔ if x = y then jx_Go jxP d 200 1150 [l0, l1, l2, l3] st h Q else jx_Go jxP d 200 706 [l0, l1, l2, l3] st h Q := jg_icP rfl rfl
theorem s200_706 : jx_Go jxP d 200 706 [l0, l1, l2, l3] st h Q ↔ jx_Go jxP d 200 707 [l0, l1, l2, l3] (.int (nI 0) :: st) h Q := jg_c rfl
theorem s200_707b0 : jx_Go jxP d 200 707 [l0, l1, l2, l3] [.int (nI 0)] h Q ↔ Q [.int (nI 0)] h := jx_rt rfl rfl
theorem s200_707b1 : jx_Go jxP d 200 707 [l0, l1, l2, l3] [.int (nI 1)] h Q ↔ Q [.int (nI 1)] h := jx_rt rfl rfl
theorem s200_708 : jx_Go jxP d 200 708 [l0, .ref a, l2, l3] st h Q ↔ jx_Go jxP d 200 709 [l0, .ref a, l2, l3] (.ref a :: st) h Q := jg_al rfl rfl
theorem s200_709 : jx_Go jxP d 200 709 [.ref a, l1, l2, l3] st h Q ↔ jx_Go jxP d 200 710 [.ref a, l1, l2, l3] (.ref a :: st) h Q := jg_al rfl rfl
theorem s200_710 : jx_Go jxP d 200 710 [l0, l1, l2, .int x] st h Q ↔ jx_Go jxP d 200 711 [l0, l1, l2, .int x] (.int x :: st) h Q := jg_il rfl rfl
theorem s200_711 : jx_Go jxP d 200 711 [l0, l1, l2, l3] st h Q ↔ jx_Go jxP d 200 712 [l0, l1, l2, l3] (.int (nI 1) :: st) h Q := jg_c rfl
theorem s200_712 : jx_Go jxP d 200 712 [l0, l1, l2, l3] (.int y :: .int x :: st) h Q ↔ jx_Go jxP d 200 713 [l0, l1, l2, l3] (.int (x + y) :: st) h Q := jg_b (f := fun x y => x + y) rfl
theorem s200_713 : jx_Go jxP d 200 713 [l0, l1, l2, l3] (.int x :: .ref 0 :: st) h Q ↔ ∃ q, jx_sc h 0 = some q ∧ jx_in x q.1 ∧ jx_Go jxP d 200 714 [l0, l1, l2, l3] (.int (q.2 x.toNatClampNeg) :: st) h Q := jg_sa rfl
theorem s200_714 : jx_Go jxP d 200 714 [.ref a, l1, l2, l3] st h Q ↔ jx_Go jxP d 200 715 [.ref a, l1, l2, l3] (.ref a :: st) h Q := jg_al rfl rfl
theorem s200_715 : jx_Go jxP d 200 715 [l0, l1, l2, .int x] st h Q ↔ jx_Go jxP d 200 716 [l0, l1, l2, .int x] (.int x :: st) h Q := jg_il rfl rfl
theorem s200_716 : jx_Go jxP d 200 716 [l0, l1, l2, l3] st h Q ↔ jx_Go jxP d 200 717 [l0, l1, l2, l3] (.int (nI 2) :: st) h Q := jg_c rfl
theorem s200_717 : jx_Go jxP d 200 717 [l0, l1, l2, l3] (.int y :: .int x :: st) h Q ↔ jx_Go jxP d 200 718 [l0, l1, l2, l3] (.int (x + y) :: st) h Q := jg_b (f := fun x y => x + y) rfl
theorem s200_718 : jx_Go jxP d 200 718 [l0, l1, l2, l3] (.int x :: .ref 0 :: st) h Q ↔ ∃ q, jx_sc h 0 = some q ∧ jx_in x q.1 ∧ jx_Go jxP d 200 719 [l0, l1, l2, l3] (.int (q.2 x.toNatClampNeg) :: st) h Q := jg_sa rfl
theorem s200_719 : jx_Go jxP (d + 1) 200 719 [l0, l1, l2, l3] (.int x1 :: .int x0 :: .ref a :: st) h Q ↔ (st.length ≤ 4 ∧ jx_cl h a = some 11 ∧ jx_Go jxP d 102 0 [.ref a, .int x0, .int x1] [] h (fun s1 h1 => jx_Go jxP (d + 1) 200 722 [l0, l1, l2, l3] (s1 ++ st) h1 Q)) := jg_callV (as := [.int x1, .int x0, .ref a]) rfl rfl rfl rfl rfl
theorem s200_722 : jx_Go jxP d 200 722 [l0, l1, .ref a, l3] st h Q ↔ jx_Go jxP d 200 723 [l0, l1, .ref a, l3] (.ref a :: st) h Q := jg_al rfl rfl
theorem s200_723 : jx_Go jxP d 200 723 [.ref a, l1, l2, l3] st h Q ↔ jx_Go jxP d 200 724 [.ref a, l1, l2, l3] (.ref a :: st) h Q := jg_al rfl rfl
theorem s200_724 : jx_Go jxP d 200 724 [l0, l1, l2, .int x] st h Q ↔ jx_Go jxP d 200 725 [l0, l1, l2, .int x] (.int x :: st) h Q := jg_il rfl rfl
theorem s200_725 : jx_Go jxP d 200 725 [l0, l1, l2, l3] st h Q ↔ jx_Go jxP d 200 726 [l0, l1, l2, l3] (.int (nI 1) :: st) h Q := jg_c rfl
theorem s200_726 : jx_Go jxP d 200 726 [l0, l1, l2, l3] (.int y :: .int x :: st) h Q ↔ jx_Go jxP d 200 727 [l0, l1, l2, l3] (.int (x + y) :: st) h Q := jg_b (f := fun x y => x + y) rfl
theorem s200_727 : jx_Go jxP d 200 727 [l0, l1, l2, l3] (.int x :: .ref 0 :: st) h Q ↔ ∃ q, jx_sc h 0 = some q ∧ jx_in x q.1 ∧ jx_Go jxP d 200 728 [l0, l1, l2, l3] (.int (q.2 x.toNatClampNeg) :: st) h Q := jg_sa rfl
theorem s200_728 : jx_Go jxP d 200 728 [.ref a, l1, l2, l3] st h Q ↔ jx_Go jxP d 200 729 [.ref a, l1, l2, l3] (.ref a :: st) h Q := jg_al rfl rfl
theorem s200_729 : jx_Go jxP d 200 729 [l0, l1, l2, .int x] st h Q ↔ jx_Go jxP d 200 730 [l0, l1, l2, .int x] (.int x :: st) h Q := jg_il rfl rfl
theorem s200_730 : jx_Go jxP d 200 730 [l0, l1, l2, l3] st h Q ↔ jx_Go jxP d 200 731 [l0, l1, l2, l3] (.int (nI 2) :: st) h Q := jg_c rfl
theorem s200_731 : jx_Go jxP d 200 731 [l0, l1, l2, l3] (.int y :: .int x :: st) h Q ↔ jx_Go jxP d 200 732 [l0, l1, l2, l3] (.int (x + y) :: st) h Q := jg_b (f := fun x y => x + y) rfl
theorem s200_732 : jx_Go jxP d 200 732 [l0, l1, l2, l3] (.int x :: .ref 0 :: st) h Q ↔ ∃ q, jx_sc h 0 = some q ∧ jx_in x q.1 ∧ jx_Go jxP d 200 733 [l0, l1, l2, l3] (.int (q.2 x.toNatClampNeg) :: st) h Q := jg_sa rfl
theorem s200_733 : jx_Go jxP (d + 1) 200 733 [l0, l1, l2, l3] (.int x1 :: .int x0 :: .ref a :: st) h Q ↔ (st.length ≤ 4 ∧ jx_cl h a = some 12 ∧ jx_Go jxP d 168 0 [.ref a, .int x0, .int x1, jx_u, jx_u, jx_u] [] h (fun s1 h1 => jx_Go jxP (d + 1) 200 736 [l0, l1, l2, l3] (s1 ++ st) h1 Q)) := jg_callV (as := [.int x1, .int x0, .ref a]) rfl rfl rfl rfl rfl
theorem s200_736 : jx_Go jxP d 200 736 [l0, l1, l2, l3] (.int y :: .int x :: st) h Q ↔ if x = y then jx_Go jxP d 200 1150 [l0, l1, l2, l3] st h Q else jx_Go jxP d 200 739 [l0, l1, l2, l3] st h Q := jg_icP rfl rfl
theorem s200_739 : jx_Go jxP d 200 739 [l0, l1, l2, l3] st h Q ↔ jx_Go jxP d 200 740 [l0, l1, l2, l3] (.int (nI 0) :: st) h Q := jg_c rfl
theorem s200_740b0 : jx_Go jxP d 200 740 [l0, l1, l2, l3] [.int (nI 0)] h Q ↔ Q [.int (nI 0)] h := jx_rt rfl rfl
theorem s200_740b1 : jx_Go jxP d 200 740 [l0, l1, l2, l3] [.int (nI 1)] h Q ↔ Q [.int (nI 1)] h := jx_rt rfl rfl
theorem s200_741 : jx_Go jxP d 200 741 [l0, .ref a, l2, l3] st h Q ↔ jx_Go jxP d 200 742 [l0, .ref a, l2, l3] (.ref a :: st) h Q := jg_al rfl rfl
theorem s200_742 : jx_Go jxP d 200 742 [.ref a, l1, l2, l3] st h Q ↔ jx_Go jxP d 200 743 [.ref a, l1, l2, l3] (.ref a :: st) h Q := jg_al rfl rfl
theorem s200_743 : jx_Go jxP d 200 743 [l0, l1, l2, .int x] st h Q ↔ jx_Go jxP d 200 744 [l0, l1, l2, .int x] (.int x :: st) h Q := jg_il rfl rfl
theorem s200_744 : jx_Go jxP d 200 744 [l0, l1, l2, l3] st h Q ↔ jx_Go jxP d 200 745 [l0, l1, l2, l3] (.int (nI 1) :: st) h Q := jg_c rfl
theorem s200_745 : jx_Go jxP d 200 745 [l0, l1, l2, l3] (.int y :: .int x :: st) h Q ↔ jx_Go jxP d 200 746 [l0, l1, l2, l3] (.int (x + y) :: st) h Q := jg_b (f := fun x y => x + y) rfl
theorem s200_746 : jx_Go jxP d 200 746 [l0, l1, l2, l3] (.int x :: .ref 0 :: st) h Q ↔ ∃ q, jx_sc h 0 = some q ∧ jx_in x q.1 ∧ jx_Go jxP d 200 747 [l0, l1, l2, l3] (.int (q.2 x.toNatClampNeg) :: st) h Q := jg_sa rfl
theorem s200_747 : jx_Go jxP d 200 747 [l0, l1, l2, l3] (.int x :: st) h Q ↔ if x = 0 then jx_Go jxP d 200 754 [l0, l1, l2, l3] st h Q else jx_Go jxP d 200 750 [l0, l1, l2, l3] st h Q := jg_ifP rfl rfl
theorem s200_750 : jx_Go jxP d 200 750 [l0, l1, l2, l3] st h Q ↔ jx_Go jxP d 200 751 [l0, l1, l2, l3] (.int (nI 1) :: st) h Q := jg_c rfl
theorem s200_751 : jx_Go jxP d 200 751 [l0, l1, l2, l3] st h Q ↔ jx_Go jxP d 200 755 [l0, l1, l2, l3] st h Q := jg_go rfl
theorem s200_754 : jx_Go jxP d 200 754 [l0, l1, l2, l3] st h Q ↔ jx_Go jxP d 200 755 [l0, l1, l2, l3] (.int (nI 0) :: st) h Q := jg_c rfl
theorem s200_755 : jx_Go jxP (d + 1) 200 755 [l0, l1, l2, l3] (.int x0 :: .ref a :: st) h Q ↔ (st.length ≤ 4 ∧ jx_cl h a = some 11 ∧ jx_Go jxP d 103 0 [.ref a, .int x0] [] h (fun s1 h1 => jx_Go jxP (d + 1) 200 758 [l0, l1, l2, l3] (s1 ++ st) h1 Q)) := jg_callV (as := [.int x0, .ref a]) rfl rfl rfl rfl rfl
theorem s200_758 : jx_Go jxP d 200 758 [l0, l1, .ref a, l3] st h Q ↔ jx_Go jxP d 200 759 [l0, l1, .ref a, l3] (.ref a :: st) h Q := jg_al rfl rfl
theorem s200_759 : jx_Go jxP d 200 759 [.ref a, l1, l2, l3] st h Q ↔ jx_Go jxP d 200 760 [.ref a, l1, l2, l3] (.ref a :: st) h Q := jg_al rfl rfl
theorem s200_760 : jx_Go jxP d 200 760 [l0, l1, l2, .int x] st h Q ↔ jx_Go jxP d 200 761 [l0, l1, l2, .int x] (.int x :: st) h Q := jg_il rfl rfl
theorem s200_761 : jx_Go jxP d 200 761 [l0, l1, l2, l3] st h Q ↔ jx_Go jxP d 200 762 [l0, l1, l2, l3] (.int (nI 1) :: st) h Q := jg_c rfl
theorem s200_762 : jx_Go jxP d 200 762 [l0, l1, l2, l3] (.int y :: .int x :: st) h Q ↔ jx_Go jxP d 200 763 [l0, l1, l2, l3] (.int (x + y) :: st) h Q := jg_b (f := fun x y => x + y) rfl
theorem s200_763 : jx_Go jxP d 200 763 [l0, l1, l2, l3] (.int x :: .ref 0 :: st) h Q ↔ ∃ q, jx_sc h 0 = some q ∧ jx_in x q.1 ∧ jx_Go jxP d 200 764 [l0, l1, l2, l3] (.int (q.2 x.toNatClampNeg) :: st) h Q := jg_sa rfl
theorem s200_764 : jx_Go jxP d 200 764 [l0, l1, l2, l3] (.int x :: st) h Q ↔ if x = 0 then jx_Go jxP d 200 771 [l0, l1, l2, l3] st h Q else jx_Go jxP d 200 767 [l0, l1, l2, l3] st h Q := jg_ifP rfl rfl
theorem s200_767 : jx_Go jxP d 200 767 [l0, l1, l2, l3] st h Q ↔ jx_Go jxP d 200 768 [l0, l1, l2, l3] (.int (nI 1) :: st) h Q := jg_c rfl
theorem s200_768 : jx_Go jxP d 200 768 [l0, l1, l2, l3] st h Q ↔ jx_Go jxP d 200 772 [l0, l1, l2, l3] st h Q := jg_go rfl
theorem s200_771 : jx_Go jxP d 200 771 [l0, l1, l2, l3] st h Q ↔ jx_Go jxP d 200 772 [l0, l1, l2, l3] (.int (nI 0) :: st) h Q := jg_c rfl
theorem s200_772 : jx_Go jxP (d + 1) 200 772 [l0, l1, l2, l3] (.int x0 :: .ref a :: st) h Q ↔ (st.length ≤ 4 ∧ jx_cl h a = some 12 ∧ jx_Go jxP d 170 0 [.ref a, .int x0, jx_u, jx_u, jx_u, jx_u, jx_u, jx_u] [] h (fun s1 h1 => jx_Go jxP (d + 1) 200 775 [l0, l1, l2, l3] (s1 ++ st) h1 Q)) := jg_callV (as := [.int x0, .ref a]) rfl rfl rfl rfl rfl
theorem s200_775 : jx_Go jxP d 200 775 [l0, l1, l2, l3] (.int y :: .int x :: st) h Q ↔ if x = y then jx_Go jxP d 200 1150 [l0, l1, l2, l3] st h Q else jx_Go jxP d 200 778 [l0, l1, l2, l3] st h Q := jg_icP rfl rfl
theorem s200_778 : jx_Go jxP d 200 778 [l0, l1, l2, l3] st h Q ↔ jx_Go jxP d 200 779 [l0, l1, l2, l3] (.int (nI 0) :: st) h Q := jg_c rfl
theorem s200_779b0 : jx_Go jxP d 200 779 [l0, l1, l2, l3] [.int (nI 0)] h Q ↔ Q [.int (nI 0)] h := jx_rt rfl rfl
theorem s200_779b1 : jx_Go jxP d 200 779 [l0, l1, l2, l3] [.int (nI 1)] h Q ↔ Q [.int (nI 1)] h := jx_rt rfl rfl
theorem s200_780 : jx_Go jxP d 200 780 [l0, .ref a, l2, l3] st h Q ↔ jx_Go jxP d 200 781 [l0, .ref a, l2, l3] (.ref a :: st) h Q := jg_al rfl rfl
theorem s200_781 : jx_Go jxP d 200 781 [.ref a, l1, l2, l3] st h Q ↔ jx_Go jxP d 200 782 [.ref a, l1, l2, l3] (.ref a :: st) h Q := jg_al rfl rfl
theorem s200_782 : jx_Go jxP d 200 782 [l0, l1, l2, .int x] st h Q ↔ jx_Go jxP d 200 783 [l0, l1, l2, .int x] (.int x :: st) h Q := jg_il rfl rfl
theorem s200_783 : jx_Go jxP d 200 783 [l0, l1, l2, l3] st h Q ↔ jx_Go jxP d 200 784 [l0, l1, l2, l3] (.int (nI 1) :: st) h Q := jg_c rfl
theorem s200_784 : jx_Go jxP d 200 784 [l0, l1, l2, l3] (.int y :: .int x :: st) h Q ↔ jx_Go jxP d 200 785 [l0, l1, l2, l3] (.int (x + y) :: st) h Q := jg_b (f := fun x y => x + y) rfl
theorem s200_785 : jx_Go jxP d 200 785 [l0, l1, l2, l3] (.int x :: .ref 0 :: st) h Q ↔ ∃ q, jx_sc h 0 = some q ∧ jx_in x q.1 ∧ jx_Go jxP d 200 786 [l0, l1, l2, l3] (.int (q.2 x.toNatClampNeg) :: st) h Q := jg_sa rfl
theorem s200_786 : jx_Go jxP d 200 786 [l0, l1, l2, l3] (.int x :: st) h Q ↔ if x = 0 then jx_Go jxP d 200 793 [l0, l1, l2, l3] st h Q else jx_Go jxP d 200 789 [l0, l1, l2, l3] st h Q := jg_ifP rfl rfl
theorem s200_789 : jx_Go jxP d 200 789 [l0, l1, l2, l3] st h Q ↔ jx_Go jxP d 200 790 [l0, l1, l2, l3] (.int (nI 1) :: st) h Q := jg_c rfl
theorem s200_790 : jx_Go jxP d 200 790 [l0, l1, l2, l3] st h Q ↔ jx_Go jxP d 200 794 [l0, l1, l2, l3] st h Q := jg_go rfl
theorem s200_793 : jx_Go jxP d 200 793 [l0, l1, l2, l3] st h Q ↔ jx_Go jxP d 200 794 [l0, l1, l2, l3] (.int (nI 0) :: st) h Q := jg_c rfl
theorem s200_794 : jx_Go jxP (d + 1) 200 794 [l0, l1, l2, l3] (.int x0 :: .ref a :: st) h Q ↔ (st.length ≤ 4 ∧ jx_cl h a = some 11 ∧ jx_Go jxP d 104 0 [.ref a, .int x0, jx_u, jx_u] [] h (fun s1 h1 => jx_Go jxP (d + 1) 200 797 [l0, l1, l2, l3] (s1 ++ st) h1 Q)) := jg_callV (as := [.int x0, .ref a]) rfl rfl rfl rfl rfl
theorem s200_797 : jx_Go jxP d 200 797 [l0, l1, .ref a, l3] st h Q ↔ jx_Go jxP d 200 798 [l0, l1, .ref a, l3] (.ref a :: st) h Q := jg_al rfl rfl
theorem s200_798 : jx_Go jxP d 200 798 [.ref a, l1, l2, l3] st h Q ↔ jx_Go jxP d 200 799 [.ref a, l1, l2, l3] (.ref a :: st) h Q := jg_al rfl rfl
theorem s200_799 : jx_Go jxP d 200 799 [l0, l1, l2, .int x] st h Q ↔ jx_Go jxP d 200 800 [l0, l1, l2, .int x] (.int x :: st) h Q := jg_il rfl rfl
theorem s200_800 : jx_Go jxP d 200 800 [l0, l1, l2, l3] st h Q ↔ jx_Go jxP d 200 801 [l0, l1, l2, l3] (.int (nI 1) :: st) h Q := jg_c rfl
theorem s200_801 : jx_Go jxP d 200 801 [l0, l1, l2, l3] (.int y :: .int x :: st) h Q ↔ jx_Go jxP d 200 802 [l0, l1, l2, l3] (.int (x + y) :: st) h Q := jg_b (f := fun x y => x + y) rfl
theorem s200_802 : jx_Go jxP d 200 802 [l0, l1, l2, l3] (.int x :: .ref 0 :: st) h Q ↔ ∃ q, jx_sc h 0 = some q ∧ jx_in x q.1 ∧ jx_Go jxP d 200 803 [l0, l1, l2, l3] (.int (q.2 x.toNatClampNeg) :: st) h Q := jg_sa rfl
theorem s200_803 : jx_Go jxP d 200 803 [l0, l1, l2, l3] (.int x :: st) h Q ↔ if x = 0 then jx_Go jxP d 200 810 [l0, l1, l2, l3] st h Q else jx_Go jxP d 200 806 [l0, l1, l2, l3] st h Q := jg_ifP rfl rfl
theorem s200_806 : jx_Go jxP d 200 806 [l0, l1, l2, l3] st h Q ↔ jx_Go jxP d 200 807 [l0, l1, l2, l3] (.int (nI 1) :: st) h Q := jg_c rfl
theorem s200_807 : jx_Go jxP d 200 807 [l0, l1, l2, l3] st h Q ↔ jx_Go jxP d 200 811 [l0, l1, l2, l3] st h Q := jg_go rfl
theorem s200_810 : jx_Go jxP d 200 810 [l0, l1, l2, l3] st h Q ↔ jx_Go jxP d 200 811 [l0, l1, l2, l3] (.int (nI 0) :: st) h Q := jg_c rfl
theorem s200_811 : jx_Go jxP (d + 1) 200 811 [l0, l1, l2, l3] (.int x0 :: .ref a :: st) h Q ↔ (st.length ≤ 4 ∧ jx_cl h a = some 12 ∧ jx_Go jxP d 171 0 [.ref a, .int x0, jx_u, jx_u] [] h (fun s1 h1 => jx_Go jxP (d + 1) 200 814 [l0, l1, l2, l3] (s1 ++ st) h1 Q)) := jg_callV (as := [.int x0, .ref a]) rfl rfl rfl rfl rfl
theorem s200_814 : jx_Go jxP d 200 814 [l0, l1, l2, l3] (.int y :: .int x :: st) h Q ↔ if x = y then jx_Go jxP d 200 1150 [l0, l1, l2, l3] st h Q else jx_Go jxP d 200 817 [l0, l1, l2, l3] st h Q := jg_icP rfl rfl
theorem s200_817 : jx_Go jxP d 200 817 [l0, l1, l2, l3] st h Q ↔ jx_Go jxP d 200 818 [l0, l1, l2, l3] (.int (nI 0) :: st) h Q := jg_c rfl
theorem s200_818b0 : jx_Go jxP d 200 818 [l0, l1, l2, l3] [.int (nI 0)] h Q ↔ Q [.int (nI 0)] h := jx_rt rfl rfl
theorem s200_818b1 : jx_Go jxP d 200 818 [l0, l1, l2, l3] [.int (nI 1)] h Q ↔ Q [.int (nI 1)] h := jx_rt rfl rfl
theorem s200_819 : jx_Go jxP d 200 819 [l0, .ref a, l2, l3] st h Q ↔ jx_Go jxP d 200 820 [l0, .ref a, l2, l3] (.ref a :: st) h Q := jg_al rfl rfl
theorem s200_820 : jx_Go jxP d 200 820 [.ref a, l1, l2, l3] st h Q ↔ jx_Go jxP d 200 821 [.ref a, l1, l2, l3] (.ref a :: st) h Q := jg_al rfl rfl
theorem s200_821 : jx_Go jxP d 200 821 [l0, l1, l2, .int x] st h Q ↔ jx_Go jxP d 200 822 [l0, l1, l2, .int x] (.int x :: st) h Q := jg_il rfl rfl
theorem s200_822 : jx_Go jxP d 200 822 [l0, l1, l2, l3] st h Q ↔ jx_Go jxP d 200 823 [l0, l1, l2, l3] (.int (nI 1) :: st) h Q := jg_c rfl
theorem s200_823 : jx_Go jxP d 200 823 [l0, l1, l2, l3] (.int y :: .int x :: st) h Q ↔ jx_Go jxP d 200 824 [l0, l1, l2, l3] (.int (x + y) :: st) h Q := jg_b (f := fun x y => x + y) rfl
theorem s200_824 : jx_Go jxP d 200 824 [l0, l1, l2, l3] (.int x :: .ref 0 :: st) h Q ↔ ∃ q, jx_sc h 0 = some q ∧ jx_in x q.1 ∧ jx_Go jxP d 200 825 [l0, l1, l2, l3] (.int (q.2 x.toNatClampNeg) :: st) h Q := jg_sa rfl
theorem s200_825 : jx_Go jxP d 200 825 [l0, l1, l2, l3] (.int x :: st) h Q ↔ if x = 0 then jx_Go jxP d 200 832 [l0, l1, l2, l3] st h Q else jx_Go jxP d 200 828 [l0, l1, l2, l3] st h Q := jg_ifP rfl rfl
theorem s200_828 : jx_Go jxP d 200 828 [l0, l1, l2, l3] st h Q ↔ jx_Go jxP d 200 829 [l0, l1, l2, l3] (.int (nI 1) :: st) h Q := jg_c rfl
theorem s200_829 : jx_Go jxP d 200 829 [l0, l1, l2, l3] st h Q ↔ jx_Go jxP d 200 833 [l0, l1, l2, l3] st h Q := jg_go rfl
theorem s200_832 : jx_Go jxP d 200 832 [l0, l1, l2, l3] st h Q ↔ jx_Go jxP d 200 833 [l0, l1, l2, l3] (.int (nI 0) :: st) h Q := jg_c rfl
theorem s200_833 : jx_Go jxP (d + 1) 200 833 [l0, l1, l2, l3] (.int x0 :: .ref a :: st) h Q ↔ (st.length ≤ 4 ∧ jx_cl h a = some 11 ∧ jx_Go jxP d 105 0 [.ref a, .int x0] [] h (fun s1 h1 => jx_Go jxP (d + 1) 200 836 [l0, l1, l2, l3] (s1 ++ st) h1 Q)) := jg_callV (as := [.int x0, .ref a]) rfl rfl rfl rfl rfl
theorem s200_836 : jx_Go jxP d 200 836 [l0, l1, .ref a, l3] st h Q ↔ jx_Go jxP d 200 837 [l0, l1, .ref a, l3] (.ref a :: st) h Q := jg_al rfl rfl
theorem s200_837 : jx_Go jxP d 200 837 [.ref a, l1, l2, l3] st h Q ↔ jx_Go jxP d 200 838 [.ref a, l1, l2, l3] (.ref a :: st) h Q := jg_al rfl rfl
theorem s200_838 : jx_Go jxP d 200 838 [l0, l1, l2, .int x] st h Q ↔ jx_Go jxP d 200 839 [l0, l1, l2, .int x] (.int x :: st) h Q := jg_il rfl rfl
theorem s200_839 : jx_Go jxP d 200 839 [l0, l1, l2, l3] st h Q ↔ jx_Go jxP d 200 840 [l0, l1, l2, l3] (.int (nI 1) :: st) h Q := jg_c rfl
theorem s200_840 : jx_Go jxP d 200 840 [l0, l1, l2, l3] (.int y :: .int x :: st) h Q ↔ jx_Go jxP d 200 841 [l0, l1, l2, l3] (.int (x + y) :: st) h Q := jg_b (f := fun x y => x + y) rfl
theorem s200_841 : jx_Go jxP d 200 841 [l0, l1, l2, l3] (.int x :: .ref 0 :: st) h Q ↔ ∃ q, jx_sc h 0 = some q ∧ jx_in x q.1 ∧ jx_Go jxP d 200 842 [l0, l1, l2, l3] (.int (q.2 x.toNatClampNeg) :: st) h Q := jg_sa rfl
theorem s200_842 : jx_Go jxP d 200 842 [l0, l1, l2, l3] (.int x :: st) h Q ↔ if x = 0 then jx_Go jxP d 200 849 [l0, l1, l2, l3] st h Q else jx_Go jxP d 200 845 [l0, l1, l2, l3] st h Q := jg_ifP rfl rfl
theorem s200_845 : jx_Go jxP d 200 845 [l0, l1, l2, l3] st h Q ↔ jx_Go jxP d 200 846 [l0, l1, l2, l3] (.int (nI 1) :: st) h Q := jg_c rfl
theorem s200_846 : jx_Go jxP d 200 846 [l0, l1, l2, l3] st h Q ↔ jx_Go jxP d 200 850 [l0, l1, l2, l3] st h Q := jg_go rfl
theorem s200_849 : jx_Go jxP d 200 849 [l0, l1, l2, l3] st h Q ↔ jx_Go jxP d 200 850 [l0, l1, l2, l3] (.int (nI 0) :: st) h Q := jg_c rfl
theorem s200_850 : jx_Go jxP (d + 1) 200 850 [l0, l1, l2, l3] (.int x0 :: .ref a :: st) h Q ↔ (st.length ≤ 4 ∧ jx_cl h a = some 12 ∧ jx_Go jxP d 173 0 [.ref a, .int x0, jx_u, jx_u, jx_u, jx_u, jx_u, jx_u, jx_u, jx_u, jx_u, jx_u, jx_u, jx_u, jx_u, jx_u, jx_u, jx_u, jx_u, jx_u, jx_u, jx_u, jx_u, jx_u, jx_u, jx_u, jx_u] [] h (fun s1 h1 => jx_Go jxP (d + 1) 200 853 [l0, l1, l2, l3] (s1 ++ st) h1 Q)) := jg_callV (as := [.int x0, .ref a]) rfl rfl rfl rfl rfl
theorem s200_853 : jx_Go jxP d 200 853 [l0, l1, l2, l3] (.int y :: .int x :: st) h Q ↔ if x = y then jx_Go jxP d 200 1150 [l0, l1, l2, l3] st h Q else jx_Go jxP d 200 856 [l0, l1, l2, l3] st h Q := jg_icP rfl rfl
theorem s200_856 : jx_Go jxP d 200 856 [l0, l1, l2, l3] st h Q ↔ jx_Go jxP d 200 857 [l0, l1, l2, l3] (.int (nI 0) :: st) h Q := jg_c rfl
theorem s200_857b0 : jx_Go jxP d 200 857 [l0, l1, l2, l3] [.int (nI 0)] h Q ↔ Q [.int (nI 0)] h := jx_rt rfl rfl
theorem s200_857b1 : jx_Go jxP d 200 857 [l0, l1, l2, l3] [.int (nI 1)] h Q ↔ Q [.int (nI 1)] h := jx_rt rfl rfl
theorem s200_858 : jx_Go jxP d 200 858 [l0, .ref a, l2, l3] st h Q ↔ jx_Go jxP d 200 859 [l0, .ref a, l2, l3] (.ref a :: st) h Q := jg_al rfl rfl
theorem s200_859 : jx_Go jxP d 200 859 [.ref a, l1, l2, l3] st h Q ↔ jx_Go jxP d 200 860 [.ref a, l1, l2, l3] (.ref a :: st) h Q := jg_al rfl rfl
theorem s200_860 : jx_Go jxP d 200 860 [l0, l1, l2, .int x] st h Q ↔ jx_Go jxP d 200 861 [l0, l1, l2, .int x] (.int x :: st) h Q := jg_il rfl rfl
theorem s200_861 : jx_Go jxP d 200 861 [l0, l1, l2, l3] st h Q ↔ jx_Go jxP d 200 862 [l0, l1, l2, l3] (.int (nI 1) :: st) h Q := jg_c rfl
theorem s200_862 : jx_Go jxP d 200 862 [l0, l1, l2, l3] (.int y :: .int x :: st) h Q ↔ jx_Go jxP d 200 863 [l0, l1, l2, l3] (.int (x + y) :: st) h Q := jg_b (f := fun x y => x + y) rfl
theorem s200_863 : jx_Go jxP d 200 863 [l0, l1, l2, l3] (.int x :: .ref 0 :: st) h Q ↔ ∃ q, jx_sc h 0 = some q ∧ jx_in x q.1 ∧ jx_Go jxP d 200 864 [l0, l1, l2, l3] (.int (q.2 x.toNatClampNeg) :: st) h Q := jg_sa rfl
theorem s200_864 : jx_Go jxP (d + 1) 200 864 [l0, l1, l2, l3] (.int x0 :: .ref a :: st) h Q ↔ (st.length ≤ 4 ∧ jx_cl h a = some 11 ∧ jx_Go jxP d 106 0 [.ref a, .int x0] [] h (fun s1 h1 => jx_Go jxP (d + 1) 200 867 [l0, l1, l2, l3] (s1 ++ st) h1 Q)) := jg_callV (as := [.int x0, .ref a]) rfl rfl rfl rfl rfl
theorem s200_867 : jx_Go jxP d 200 867 [l0, l1, .ref a, l3] st h Q ↔ jx_Go jxP d 200 868 [l0, l1, .ref a, l3] (.ref a :: st) h Q := jg_al rfl rfl
theorem s200_868 : jx_Go jxP d 200 868 [.ref a, l1, l2, l3] st h Q ↔ jx_Go jxP d 200 869 [.ref a, l1, l2, l3] (.ref a :: st) h Q := jg_al rfl rfl
theorem s200_869 : jx_Go jxP d 200 869 [l0, l1, l2, .int x] st h Q ↔ jx_Go jxP d 200 870 [l0, l1, l2, .int x] (.int x :: st) h Q := jg_il rfl rfl
theorem s200_870 : jx_Go jxP d 200 870 [l0, l1, l2, l3] st h Q ↔ jx_Go jxP d 200 871 [l0, l1, l2, l3] (.int (nI 1) :: st) h Q := jg_c rfl
theorem s200_871 : jx_Go jxP d 200 871 [l0, l1, l2, l3] (.int y :: .int x :: st) h Q ↔ jx_Go jxP d 200 872 [l0, l1, l2, l3] (.int (x + y) :: st) h Q := jg_b (f := fun x y => x + y) rfl
theorem s200_872 : jx_Go jxP d 200 872 [l0, l1, l2, l3] (.int x :: .ref 0 :: st) h Q ↔ ∃ q, jx_sc h 0 = some q ∧ jx_in x q.1 ∧ jx_Go jxP d 200 873 [l0, l1, l2, l3] (.int (q.2 x.toNatClampNeg) :: st) h Q := jg_sa rfl
theorem s200_873 : jx_Go jxP (d + 1) 200 873 [l0, l1, l2, l3] (.int x0 :: .ref a :: st) h Q ↔ (st.length ≤ 4 ∧ jx_cl h a = some 12 ∧ jx_Go jxP d 175 0 [.ref a, .int x0, jx_u, jx_u, jx_u, jx_u, jx_u, jx_u, jx_u, jx_u, jx_u] [] h (fun s1 h1 => jx_Go jxP (d + 1) 200 876 [l0, l1, l2, l3] (s1 ++ st) h1 Q)) := jg_callV (as := [.int x0, .ref a]) rfl rfl rfl rfl rfl
theorem s200_876 : jx_Go jxP d 200 876 [l0, l1, l2, l3] (.int y :: .int x :: st) h Q ↔ if x = y then jx_Go jxP d 200 1150 [l0, l1, l2, l3] st h Q else jx_Go jxP d 200 879 [l0, l1, l2, l3] st h Q := jg_icP rfl rfl
theorem s200_879 : jx_Go jxP d 200 879 [l0, l1, l2, l3] st h Q ↔ jx_Go jxP d 200 880 [l0, l1, l2, l3] (.int (nI 0) :: st) h Q := jg_c rfl
theorem s200_880b0 : jx_Go jxP d 200 880 [l0, l1, l2, l3] [.int (nI 0)] h Q ↔ Q [.int (nI 0)] h := jx_rt rfl rfl
theorem s200_880b1 : jx_Go jxP d 200 880 [l0, l1, l2, l3] [.int (nI 1)] h Q ↔ Q [.int (nI 1)] h := jx_rt rfl rfl
theorem s200_881 : jx_Go jxP d 200 881 [l0, .ref a, l2, l3] st h Q ↔ jx_Go jxP d 200 882 [l0, .ref a, l2, l3] (.ref a :: st) h Q := jg_al rfl rfl
theorem s200_882 : jx_Go jxP d 200 882 [.ref a, l1, l2, l3] st h Q ↔ jx_Go jxP d 200 883 [.ref a, l1, l2, l3] (.ref a :: st) h Q := jg_al rfl rfl
theorem s200_883 : jx_Go jxP d 200 883 [l0, l1, l2, .int x] st h Q ↔ jx_Go jxP d 200 884 [l0, l1, l2, .int x] (.int x :: st) h Q := jg_il rfl rfl
theorem s200_884 : jx_Go jxP d 200 884 [l0, l1, l2, l3] st h Q ↔ jx_Go jxP d 200 885 [l0, l1, l2, l3] (.int (nI 1) :: st) h Q := jg_c rfl
theorem s200_885 : jx_Go jxP d 200 885 [l0, l1, l2, l3] (.int y :: .int x :: st) h Q ↔ jx_Go jxP d 200 886 [l0, l1, l2, l3] (.int (x + y) :: st) h Q := jg_b (f := fun x y => x + y) rfl
theorem s200_886 : jx_Go jxP d 200 886 [l0, l1, l2, l3] (.int x :: .ref 0 :: st) h Q ↔ ∃ q, jx_sc h 0 = some q ∧ jx_in x q.1 ∧ jx_Go jxP d 200 887 [l0, l1, l2, l3] (.int (q.2 x.toNatClampNeg) :: st) h Q := jg_sa rfl
theorem s200_887 : jx_Go jxP (d + 1) 200 887 [l0, l1, l2, l3] (.int x0 :: .ref a :: st) h Q ↔ (st.length ≤ 4 ∧ jx_cl h a = some 11 ∧ jx_Go jxP d 107 0 [.ref a, .int x0] [] h (fun s1 h1 => jx_Go jxP (d + 1) 200 890 [l0, l1, l2, l3] (s1 ++ st) h1 Q)) := jg_callV (as := [.int x0, .ref a]) rfl rfl rfl rfl rfl
theorem s200_890 : jx_Go jxP d 200 890 [l0, l1, .ref a, l3] st h Q ↔ jx_Go jxP d 200 891 [l0, l1, .ref a, l3] (.ref a :: st) h Q := jg_al rfl rfl
theorem s200_891 : jx_Go jxP d 200 891 [.ref a, l1, l2, l3] st h Q ↔ jx_Go jxP d 200 892 [.ref a, l1, l2, l3] (.ref a :: st) h Q := jg_al rfl rfl
theorem s200_892 : jx_Go jxP d 200 892 [l0, l1, l2, .int x] st h Q ↔ jx_Go jxP d 200 893 [l0, l1, l2, .int x] (.int x :: st) h Q := jg_il rfl rfl
theorem s200_893 : jx_Go jxP d 200 893 [l0, l1, l2, l3] st h Q ↔ jx_Go jxP d 200 894 [l0, l1, l2, l3] (.int (nI 1) :: st) h Q := jg_c rfl
theorem s200_894 : jx_Go jxP d 200 894 [l0, l1, l2, l3] (.int y :: .int x :: st) h Q ↔ jx_Go jxP d 200 895 [l0, l1, l2, l3] (.int (x + y) :: st) h Q := jg_b (f := fun x y => x + y) rfl
theorem s200_895 : jx_Go jxP d 200 895 [l0, l1, l2, l3] (.int x :: .ref 0 :: st) h Q ↔ ∃ q, jx_sc h 0 = some q ∧ jx_in x q.1 ∧ jx_Go jxP d 200 896 [l0, l1, l2, l3] (.int (q.2 x.toNatClampNeg) :: st) h Q := jg_sa rfl
theorem s200_896 : jx_Go jxP (d + 1) 200 896 [l0, l1, l2, l3] (.int x0 :: .ref a :: st) h Q ↔ (st.length ≤ 4 ∧ jx_cl h a = some 12 ∧ jx_Go jxP d 179 0 [.ref a, .int x0, jx_u, jx_u, jx_u] [] h (fun s1 h1 => jx_Go jxP (d + 1) 200 899 [l0, l1, l2, l3] (s1 ++ st) h1 Q)) := jg_callV (as := [.int x0, .ref a]) rfl rfl rfl rfl rfl
theorem s200_899 : jx_Go jxP d 200 899 [l0, l1, l2, l3] (.int y :: .int x :: st) h Q ↔ if x = y then jx_Go jxP d 200 1150 [l0, l1, l2, l3] st h Q else jx_Go jxP d 200 902 [l0, l1, l2, l3] st h Q := jg_icP rfl rfl
theorem s200_902 : jx_Go jxP d 200 902 [l0, l1, l2, l3] st h Q ↔ jx_Go jxP d 200 903 [l0, l1, l2, l3] (.int (nI 0) :: st) h Q := jg_c rfl
theorem s200_903b0 : jx_Go jxP d 200 903 [l0, l1, l2, l3] [.int (nI 0)] h Q ↔ Q [.int (nI 0)] h := jx_rt rfl rfl
theorem s200_903b1 : jx_Go jxP d 200 903 [l0, l1, l2, l3] [.int (nI 1)] h Q ↔ Q [.int (nI 1)] h := jx_rt rfl rfl
theorem s200_904 : jx_Go jxP d 200 904 [l0, .ref a, l2, l3] st h Q ↔ jx_Go jxP d 200 905 [l0, .ref a, l2, l3] (.ref a :: st) h Q := jg_al rfl rfl
theorem s200_905 : jx_Go jxP (d + 1) 200 905 [l0, l1, l2, l3] (.ref a :: st) h Q ↔ (st.length ≤ 4 ∧ jx_cl h a = some 11 ∧ jx_Go jxP d 108 0 [.ref a] [] h (fun s1 h1 => jx_Go jxP (d + 1) 200 908 [l0, l1, l2, l3] (s1 ++ st) h1 Q)) := jg_callV (as := [.ref a]) rfl rfl rfl rfl rfl
theorem s200_908 : jx_Go jxP d 200 908 [l0, l1, .ref a, l3] st h Q ↔ jx_Go jxP d 200 909 [l0, l1, .ref a, l3] (.ref a :: st) h Q := jg_al rfl rfl
theorem s200_909 : jx_Go jxP (d + 1) 200 909 [l0, l1, l2, l3] (.ref a :: st) h Q ↔ (st.length ≤ 4 ∧ jx_cl h a = some 12 ∧ jx_Go jxP d 180 0 [.ref a, jx_u, jx_u, jx_u, jx_u, jx_u, jx_u] [] h (fun s1 h1 => jx_Go jxP (d + 1) 200 912 [l0, l1, l2, l3] (s1 ++ st) h1 Q)) := jg_callV (as := [.ref a]) rfl rfl rfl rfl rfl
theorem s200_912 : jx_Go jxP d 200 912 [l0, l1, l2, l3] (.int y :: .int x :: st) h Q ↔ if x = y then jx_Go jxP d 200 1150 [l0, l1, l2, l3] st h Q else jx_Go jxP d 200 915 [l0, l1, l2, l3] st h Q := jg_icP rfl rfl
theorem s200_915 : jx_Go jxP d 200 915 [l0, l1, l2, l3] st h Q ↔ jx_Go jxP d 200 916 [l0, l1, l2, l3] (.int (nI 0) :: st) h Q := jg_c rfl
theorem s200_916b0 : jx_Go jxP d 200 916 [l0, l1, l2, l3] [.int (nI 0)] h Q ↔ Q [.int (nI 0)] h := jx_rt rfl rfl
theorem s200_916b1 : jx_Go jxP d 200 916 [l0, l1, l2, l3] [.int (nI 1)] h Q ↔ Q [.int (nI 1)] h := jx_rt rfl rfl
theorem s200_917 : jx_Go jxP d 200 917 [l0, .ref a, l2, l3] st h Q ↔ jx_Go jxP d 200 918 [l0, .ref a, l2, l3] (.ref a :: st) h Q := jg_al rfl rfl
theorem s200_918 : jx_Go jxP (d + 1) 200 918 [l0, l1, l2, l3] (.ref a :: st) h Q ↔ (st.length ≤ 4 ∧ jx_cl h a = some 11 ∧ jx_Go jxP d 109 0 [.ref a] [] h (fun s1 h1 => jx_Go jxP (d + 1) 200 921 [l0, l1, l2, l3] (s1 ++ st) h1 Q)) := jg_callV (as := [.ref a]) rfl rfl rfl rfl rfl
theorem s200_921 : jx_Go jxP d 200 921 [l0, l1, .ref a, l3] st h Q ↔ jx_Go jxP d 200 922 [l0, l1, .ref a, l3] (.ref a :: st) h Q := jg_al rfl rfl
theorem s200_922 : jx_Go jxP (d + 1) 200 922 [l0, l1, l2, l3] (.ref a :: st) h Q ↔ (st.length ≤ 4 ∧ jx_cl h a = some 12 ∧ jx_Go jxP d 182 0 [.ref a, jx_u, jx_u, jx_u] [] h (fun s1 h1 => jx_Go jxP (d + 1) 200 925 [l0, l1, l2, l3] (s1 ++ st) h1 Q)) := jg_callV (as := [.ref a]) rfl rfl rfl rfl rfl
theorem s200_925 : jx_Go jxP d 200 925 [l0, l1, l2, l3] (.int y :: .int x :: st) h Q ↔ if x = y then jx_Go jxP d 200 1150 [l0, l1, l2, l3] st h Q else jx_Go jxP d 200 928 [l0, l1, l2, l3] st h Q := jg_icP rfl rfl
theorem s200_928 : jx_Go jxP d 200 928 [l0, l1, l2, l3] st h Q ↔ jx_Go jxP d 200 929 [l0, l1, l2, l3] (.int (nI 0) :: st) h Q := jg_c rfl
theorem s200_929b0 : jx_Go jxP d 200 929 [l0, l1, l2, l3] [.int (nI 0)] h Q ↔ Q [.int (nI 0)] h := jx_rt rfl rfl
theorem s200_929b1 : jx_Go jxP d 200 929 [l0, l1, l2, l3] [.int (nI 1)] h Q ↔ Q [.int (nI 1)] h := jx_rt rfl rfl
theorem s200_930 : jx_Go jxP d 200 930 [l0, .ref a, l2, l3] st h Q ↔ jx_Go jxP d 200 931 [l0, .ref a, l2, l3] (.ref a :: st) h Q := jg_al rfl rfl
theorem s200_931 : jx_Go jxP d 200 931 [.ref a, l1, l2, l3] st h Q ↔ jx_Go jxP d 200 932 [.ref a, l1, l2, l3] (.ref a :: st) h Q := jg_al rfl rfl
theorem s200_932 : jx_Go jxP d 200 932 [l0, l1, l2, .int x] st h Q ↔ jx_Go jxP d 200 933 [l0, l1, l2, .int x] (.int x :: st) h Q := jg_il rfl rfl
theorem s200_933 : jx_Go jxP d 200 933 [l0, l1, l2, l3] st h Q ↔ jx_Go jxP d 200 934 [l0, l1, l2, l3] (.int (nI 1) :: st) h Q := jg_c rfl
theorem s200_934 : jx_Go jxP d 200 934 [l0, l1, l2, l3] (.int y :: .int x :: st) h Q ↔ jx_Go jxP d 200 935 [l0, l1, l2, l3] (.int (x + y) :: st) h Q := jg_b (f := fun x y => x + y) rfl
theorem s200_935 : jx_Go jxP d 200 935 [l0, l1, l2, l3] (.int x :: .ref 0 :: st) h Q ↔ ∃ q, jx_sc h 0 = some q ∧ jx_in x q.1 ∧ jx_Go jxP d 200 936 [l0, l1, l2, l3] (.int (q.2 x.toNatClampNeg) :: st) h Q := jg_sa rfl
theorem s200_936 : jx_Go jxP (d + 1) 200 936 [l0, l1, l2, l3] (.int x0 :: .ref a :: st) h Q ↔ (st.length ≤ 4 ∧ jx_cl h a = some 11 ∧ jx_Go jxP d 110 0 [.ref a, .int x0] [] h (fun s1 h1 => jx_Go jxP (d + 1) 200 939 [l0, l1, l2, l3] (s1 ++ st) h1 Q)) := jg_callV (as := [.int x0, .ref a]) rfl rfl rfl rfl rfl
theorem s200_939 : jx_Go jxP d 200 939 [l0, l1, .ref a, l3] st h Q ↔ jx_Go jxP d 200 940 [l0, l1, .ref a, l3] (.ref a :: st) h Q := jg_al rfl rfl
theorem s200_940 : jx_Go jxP d 200 940 [.ref a, l1, l2, l3] st h Q ↔ jx_Go jxP d 200 941 [.ref a, l1, l2, l3] (.ref a :: st) h Q := jg_al rfl rfl
theorem s200_941 : jx_Go jxP d 200 941 [l0, l1, l2, .int x] st h Q ↔ jx_Go jxP d 200 942 [l0, l1, l2, .int x] (.int x :: st) h Q := jg_il rfl rfl
theorem s200_942 : jx_Go jxP d 200 942 [l0, l1, l2, l3] st h Q ↔ jx_Go jxP d 200 943 [l0, l1, l2, l3] (.int (nI 1) :: st) h Q := jg_c rfl
theorem s200_943 : jx_Go jxP d 200 943 [l0, l1, l2, l3] (.int y :: .int x :: st) h Q ↔ jx_Go jxP d 200 944 [l0, l1, l2, l3] (.int (x + y) :: st) h Q := jg_b (f := fun x y => x + y) rfl
theorem s200_944 : jx_Go jxP d 200 944 [l0, l1, l2, l3] (.int x :: .ref 0 :: st) h Q ↔ ∃ q, jx_sc h 0 = some q ∧ jx_in x q.1 ∧ jx_Go jxP d 200 945 [l0, l1, l2, l3] (.int (q.2 x.toNatClampNeg) :: st) h Q := jg_sa rfl
theorem s200_945 : jx_Go jxP (d + 1) 200 945 [l0, l1, l2, l3] (.int x0 :: .ref a :: st) h Q ↔ (st.length ≤ 4 ∧ jx_cl h a = some 12 ∧ jx_Go jxP d 183 0 [.ref a, .int x0, jx_u, jx_u, jx_u, jx_u, jx_u, jx_u] [] h (fun s1 h1 => jx_Go jxP (d + 1) 200 948 [l0, l1, l2, l3] (s1 ++ st) h1 Q)) := jg_callV (as := [.int x0, .ref a]) rfl rfl rfl rfl rfl
theorem s200_948 : jx_Go jxP d 200 948 [l0, l1, l2, l3] (.int y :: .int x :: st) h Q ↔ if x = y then jx_Go jxP d 200 1150 [l0, l1, l2, l3] st h Q else jx_Go jxP d 200 951 [l0, l1, l2, l3] st h Q := jg_icP rfl rfl
theorem s200_951 : jx_Go jxP d 200 951 [l0, l1, l2, l3] st h Q ↔ jx_Go jxP d 200 952 [l0, l1, l2, l3] (.int (nI 0) :: st) h Q := jg_c rfl
theorem s200_952b0 : jx_Go jxP d 200 952 [l0, l1, l2, l3] [.int (nI 0)] h Q ↔ Q [.int (nI 0)] h := jx_rt rfl rfl
theorem s200_952b1 : jx_Go jxP d 200 952 [l0, l1, l2, l3] [.int (nI 1)] h Q ↔ Q [.int (nI 1)] h := jx_rt rfl rfl
theorem s200_953 : jx_Go jxP d 200 953 [l0, .ref a, l2, l3] st h Q ↔ jx_Go jxP d 200 954 [l0, .ref a, l2, l3] (.ref a :: st) h Q := jg_al rfl rfl
theorem s200_954 : jx_Go jxP d 200 954 [.ref a, l1, l2, l3] st h Q ↔ jx_Go jxP d 200 955 [.ref a, l1, l2, l3] (.ref a :: st) h Q := jg_al rfl rfl
theorem s200_955 : jx_Go jxP d 200 955 [l0, l1, l2, .int x] st h Q ↔ jx_Go jxP d 200 956 [l0, l1, l2, .int x] (.int x :: st) h Q := jg_il rfl rfl
theorem s200_956 : jx_Go jxP d 200 956 [l0, l1, l2, l3] st h Q ↔ jx_Go jxP d 200 957 [l0, l1, l2, l3] (.int (nI 1) :: st) h Q := jg_c rfl
theorem s200_957 : jx_Go jxP d 200 957 [l0, l1, l2, l3] (.int y :: .int x :: st) h Q ↔ jx_Go jxP d 200 958 [l0, l1, l2, l3] (.int (x + y) :: st) h Q := jg_b (f := fun x y => x + y) rfl
theorem s200_958 : jx_Go jxP d 200 958 [l0, l1, l2, l3] (.int x :: .ref 0 :: st) h Q ↔ ∃ q, jx_sc h 0 = some q ∧ jx_in x q.1 ∧ jx_Go jxP d 200 959 [l0, l1, l2, l3] (.int (q.2 x.toNatClampNeg) :: st) h Q := jg_sa rfl
theorem s200_959 : jx_Go jxP (d + 1) 200 959 [l0, l1, l2, l3] (.int x0 :: .ref a :: st) h Q ↔ (st.length ≤ 4 ∧ jx_cl h a = some 11 ∧ jx_Go jxP d 111 0 [.ref a, .int x0] [] h (fun s1 h1 => jx_Go jxP (d + 1) 200 962 [l0, l1, l2, l3] (s1 ++ st) h1 Q)) := jg_callV (as := [.int x0, .ref a]) rfl rfl rfl rfl rfl
theorem s200_962 : jx_Go jxP d 200 962 [l0, l1, .ref a, l3] st h Q ↔ jx_Go jxP d 200 963 [l0, l1, .ref a, l3] (.ref a :: st) h Q := jg_al rfl rfl
theorem s200_963 : jx_Go jxP d 200 963 [.ref a, l1, l2, l3] st h Q ↔ jx_Go jxP d 200 964 [.ref a, l1, l2, l3] (.ref a :: st) h Q := jg_al rfl rfl
theorem s200_964 : jx_Go jxP d 200 964 [l0, l1, l2, .int x] st h Q ↔ jx_Go jxP d 200 965 [l0, l1, l2, .int x] (.int x :: st) h Q := jg_il rfl rfl
theorem s200_965 : jx_Go jxP d 200 965 [l0, l1, l2, l3] st h Q ↔ jx_Go jxP d 200 966 [l0, l1, l2, l3] (.int (nI 1) :: st) h Q := jg_c rfl
theorem s200_966 : jx_Go jxP d 200 966 [l0, l1, l2, l3] (.int y :: .int x :: st) h Q ↔ jx_Go jxP d 200 967 [l0, l1, l2, l3] (.int (x + y) :: st) h Q := jg_b (f := fun x y => x + y) rfl
theorem s200_967 : jx_Go jxP d 200 967 [l0, l1, l2, l3] (.int x :: .ref 0 :: st) h Q ↔ ∃ q, jx_sc h 0 = some q ∧ jx_in x q.1 ∧ jx_Go jxP d 200 968 [l0, l1, l2, l3] (.int (q.2 x.toNatClampNeg) :: st) h Q := jg_sa rfl
theorem s200_968 : jx_Go jxP (d + 1) 200 968 [l0, l1, l2, l3] (.int x0 :: .ref a :: st) h Q ↔ (st.length ≤ 4 ∧ jx_cl h a = some 12 ∧ jx_Go jxP d 185 0 [.ref a, .int x0] [] h (fun s1 h1 => jx_Go jxP (d + 1) 200 971 [l0, l1, l2, l3] (s1 ++ st) h1 Q)) := jg_callV (as := [.int x0, .ref a]) rfl rfl rfl rfl rfl
theorem s200_971 : jx_Go jxP d 200 971 [l0, l1, l2, l3] (.int y :: .int x :: st) h Q ↔ if x = y then jx_Go jxP d 200 1150 [l0, l1, l2, l3] st h Q else jx_Go jxP d 200 974 [l0, l1, l2, l3] st h Q := jg_icP rfl rfl
theorem s200_974 : jx_Go jxP d 200 974 [l0, l1, l2, l3] st h Q ↔ jx_Go jxP d 200 975 [l0, l1, l2, l3] (.int (nI 0) :: st) h Q := jg_c rfl
theorem s200_975b0 : jx_Go jxP d 200 975 [l0, l1, l2, l3] [.int (nI 0)] h Q ↔ Q [.int (nI 0)] h := jx_rt rfl rfl
theorem s200_975b1 : jx_Go jxP d 200 975 [l0, l1, l2, l3] [.int (nI 1)] h Q ↔ Q [.int (nI 1)] h := jx_rt rfl rfl
theorem s200_976 : jx_Go jxP d 200 976 [l0, .ref a, l2, l3] st h Q ↔ jx_Go jxP d 200 977 [l0, .ref a, l2, l3] (.ref a :: st) h Q := jg_al rfl rfl
theorem s200_977 : jx_Go jxP (d + 1) 200 977 [l0, l1, l2, l3] (.ref a :: st) h Q ↔ (st.length ≤ 4 ∧ jx_cl h a = some 11 ∧ jx_Go jxP d 112 0 [.ref a, jx_u] [] h (fun s1 h1 => jx_Go jxP (d + 1) 200 980 [l0, l1, l2, l3] (s1 ++ st) h1 Q)) := jg_callV (as := [.ref a]) rfl rfl rfl rfl rfl
theorem s200_980 : jx_Go jxP d 200 980 [l0, l1, .ref a, l3] st h Q ↔ jx_Go jxP d 200 981 [l0, l1, .ref a, l3] (.ref a :: st) h Q := jg_al rfl rfl
theorem s200_981 : jx_Go jxP (d + 1) 200 981 [l0, l1, l2, l3] (.ref a :: st) h Q ↔ (st.length ≤ 4 ∧ jx_cl h a = some 12 ∧ jx_Go jxP d 186 0 [.ref a, jx_u, jx_u, jx_u, jx_u, jx_u, jx_u, jx_u, jx_u, jx_u, jx_u] [] h (fun s1 h1 => jx_Go jxP (d + 1) 200 984 [l0, l1, l2, l3] (s1 ++ st) h1 Q)) := jg_callV (as := [.ref a]) rfl rfl rfl rfl rfl
theorem s200_984 : jx_Go jxP d 200 984 [l0, l1, l2, l3] (.int y :: .int x :: st) h Q ↔ if x = y then jx_Go jxP d 200 1150 [l0, l1, l2, l3] st h Q else jx_Go jxP d 200 987 [l0, l1, l2, l3] st h Q := jg_icP rfl rfl
theorem s200_987 : jx_Go jxP d 200 987 [l0, l1, l2, l3] st h Q ↔ jx_Go jxP d 200 988 [l0, l1, l2, l3] (.int (nI 0) :: st) h Q := jg_c rfl
theorem s200_988b0 : jx_Go jxP d 200 988 [l0, l1, l2, l3] [.int (nI 0)] h Q ↔ Q [.int (nI 0)] h := jx_rt rfl rfl
theorem s200_988b1 : jx_Go jxP d 200 988 [l0, l1, l2, l3] [.int (nI 1)] h Q ↔ Q [.int (nI 1)] h := jx_rt rfl rfl
theorem s200_989 : jx_Go jxP d 200 989 [l0, .ref a, l2, l3] st h Q ↔ jx_Go jxP d 200 990 [l0, .ref a, l2, l3] (.ref a :: st) h Q := jg_al rfl rfl
theorem s200_990 : jx_Go jxP d 200 990 [.ref a, l1, l2, l3] st h Q ↔ jx_Go jxP d 200 991 [.ref a, l1, l2, l3] (.ref a :: st) h Q := jg_al rfl rfl
theorem s200_991 : jx_Go jxP d 200 991 [l0, l1, l2, .int x] st h Q ↔ jx_Go jxP d 200 992 [l0, l1, l2, .int x] (.int x :: st) h Q := jg_il rfl rfl
theorem s200_992 : jx_Go jxP d 200 992 [l0, l1, l2, l3] st h Q ↔ jx_Go jxP d 200 993 [l0, l1, l2, l3] (.int (nI 1) :: st) h Q := jg_c rfl
theorem s200_993 : jx_Go jxP d 200 993 [l0, l1, l2, l3] (.int y :: .int x :: st) h Q ↔ jx_Go jxP d 200 994 [l0, l1, l2, l3] (.int (x + y) :: st) h Q := jg_b (f := fun x y => x + y) rfl
theorem s200_994 : jx_Go jxP d 200 994 [l0, l1, l2, l3] (.int x :: .ref 0 :: st) h Q ↔ ∃ q, jx_sc h 0 = some q ∧ jx_in x q.1 ∧ jx_Go jxP d 200 995 [l0, l1, l2, l3] (.int (q.2 x.toNatClampNeg) :: st) h Q := jg_sa rfl
theorem s200_995 : jx_Go jxP (d + 1) 200 995 [l0, l1, l2, l3] (.int x0 :: .ref a :: st) h Q ↔ (st.length ≤ 4 ∧ jx_cl h a = some 11 ∧ jx_Go jxP d 113 0 [.ref a, .int x0, jx_u] [] h (fun s1 h1 => jx_Go jxP (d + 1) 200 998 [l0, l1, l2, l3] (s1 ++ st) h1 Q)) := jg_callV (as := [.int x0, .ref a]) rfl rfl rfl rfl rfl
theorem s200_998 : jx_Go jxP d 200 998 [l0, l1, .ref a, l3] st h Q ↔ jx_Go jxP d 200 999 [l0, l1, .ref a, l3] (.ref a :: st) h Q := jg_al rfl rfl
theorem s200_999 : jx_Go jxP d 200 999 [.ref a, l1, l2, l3] st h Q ↔ jx_Go jxP d 200 1000 [.ref a, l1, l2, l3] (.ref a :: st) h Q := jg_al rfl rfl
theorem s200_1000 : jx_Go jxP d 200 1000 [l0, l1, l2, .int x] st h Q ↔ jx_Go jxP d 200 1001 [l0, l1, l2, .int x] (.int x :: st) h Q := jg_il rfl rfl
theorem s200_1001 : jx_Go jxP d 200 1001 [l0, l1, l2, l3] st h Q ↔ jx_Go jxP d 200 1002 [l0, l1, l2, l3] (.int (nI 1) :: st) h Q := jg_c rfl
theorem s200_1002 : jx_Go jxP d 200 1002 [l0, l1, l2, l3] (.int y :: .int x :: st) h Q ↔ jx_Go jxP d 200 1003 [l0, l1, l2, l3] (.int (x + y) :: st) h Q := jg_b (f := fun x y => x + y) rfl
theorem s200_1003 : jx_Go jxP d 200 1003 [l0, l1, l2, l3] (.int x :: .ref 0 :: st) h Q ↔ ∃ q, jx_sc h 0 = some q ∧ jx_in x q.1 ∧ jx_Go jxP d 200 1004 [l0, l1, l2, l3] (.int (q.2 x.toNatClampNeg) :: st) h Q := jg_sa rfl
theorem s200_1004 : jx_Go jxP (d + 1) 200 1004 [l0, l1, l2, l3] (.int x0 :: .ref a :: st) h Q ↔ (st.length ≤ 4 ∧ jx_cl h a = some 12 ∧ jx_Go jxP d 187 0 [.ref a, .int x0, jx_u, jx_u, jx_u, jx_u, jx_u] [] h (fun s1 h1 => jx_Go jxP (d + 1) 200 1007 [l0, l1, l2, l3] (s1 ++ st) h1 Q)) := jg_callV (as := [.int x0, .ref a]) rfl rfl rfl rfl rfl
theorem s200_1007 : jx_Go jxP d 200 1007 [l0, l1, l2, l3] (.int y :: .int x :: st) h Q ↔ if x = y then jx_Go jxP d 200 1150 [l0, l1, l2, l3] st h Q else jx_Go jxP d 200 1010 [l0, l1, l2, l3] st h Q := jg_icP rfl rfl
theorem s200_1010 : jx_Go jxP d 200 1010 [l0, l1, l2, l3] st h Q ↔ jx_Go jxP d 200 1011 [l0, l1, l2, l3] (.int (nI 0) :: st) h Q := jg_c rfl
theorem s200_1011b0 : jx_Go jxP d 200 1011 [l0, l1, l2, l3] [.int (nI 0)] h Q ↔ Q [.int (nI 0)] h := jx_rt rfl rfl
theorem s200_1011b1 : jx_Go jxP d 200 1011 [l0, l1, l2, l3] [.int (nI 1)] h Q ↔ Q [.int (nI 1)] h := jx_rt rfl rfl
theorem s200_1012 : jx_Go jxP d 200 1012 [l0, .ref a, l2, l3] st h Q ↔ jx_Go jxP d 200 1013 [l0, .ref a, l2, l3] (.ref a :: st) h Q := jg_al rfl rfl
theorem s200_1013 : jx_Go jxP d 200 1013 [.ref a, l1, l2, l3] st h Q ↔ jx_Go jxP d 200 1014 [.ref a, l1, l2, l3] (.ref a :: st) h Q := jg_al rfl rfl
theorem s200_1014 : jx_Go jxP d 200 1014 [l0, l1, l2, .int x] st h Q ↔ jx_Go jxP d 200 1015 [l0, l1, l2, .int x] (.int x :: st) h Q := jg_il rfl rfl
theorem s200_1015 : jx_Go jxP d 200 1015 [l0, l1, l2, l3] st h Q ↔ jx_Go jxP d 200 1016 [l0, l1, l2, l3] (.int (nI 1) :: st) h Q := jg_c rfl
theorem s200_1016 : jx_Go jxP d 200 1016 [l0, l1, l2, l3] (.int y :: .int x :: st) h Q ↔ jx_Go jxP d 200 1017 [l0, l1, l2, l3] (.int (x + y) :: st) h Q := jg_b (f := fun x y => x + y) rfl
theorem s200_1017 : jx_Go jxP d 200 1017 [l0, l1, l2, l3] (.int x :: .ref 0 :: st) h Q ↔ ∃ q, jx_sc h 0 = some q ∧ jx_in x q.1 ∧ jx_Go jxP d 200 1018 [l0, l1, l2, l3] (.int (q.2 x.toNatClampNeg) :: st) h Q := jg_sa rfl
theorem s200_1018 : jx_Go jxP (d + 1) 200 1018 [l0, l1, l2, l3] (.int x0 :: .ref a :: st) h Q ↔ (st.length ≤ 4 ∧ jx_cl h a = some 11 ∧ jx_Go jxP d 114 0 [.ref a, .int x0] [] h (fun s1 h1 => jx_Go jxP (d + 1) 200 1021 [l0, l1, l2, l3] (s1 ++ st) h1 Q)) := jg_callV (as := [.int x0, .ref a]) rfl rfl rfl rfl rfl
theorem s200_1021 : jx_Go jxP d 200 1021 [l0, l1, .ref a, l3] st h Q ↔ jx_Go jxP d 200 1022 [l0, l1, .ref a, l3] (.ref a :: st) h Q := jg_al rfl rfl
theorem s200_1022 : jx_Go jxP d 200 1022 [.ref a, l1, l2, l3] st h Q ↔ jx_Go jxP d 200 1023 [.ref a, l1, l2, l3] (.ref a :: st) h Q := jg_al rfl rfl
theorem s200_1023 : jx_Go jxP d 200 1023 [l0, l1, l2, .int x] st h Q ↔ jx_Go jxP d 200 1024 [l0, l1, l2, .int x] (.int x :: st) h Q := jg_il rfl rfl
theorem s200_1024 : jx_Go jxP d 200 1024 [l0, l1, l2, l3] st h Q ↔ jx_Go jxP d 200 1025 [l0, l1, l2, l3] (.int (nI 1) :: st) h Q := jg_c rfl
theorem s200_1025 : jx_Go jxP d 200 1025 [l0, l1, l2, l3] (.int y :: .int x :: st) h Q ↔ jx_Go jxP d 200 1026 [l0, l1, l2, l3] (.int (x + y) :: st) h Q := jg_b (f := fun x y => x + y) rfl
theorem s200_1026 : jx_Go jxP d 200 1026 [l0, l1, l2, l3] (.int x :: .ref 0 :: st) h Q ↔ ∃ q, jx_sc h 0 = some q ∧ jx_in x q.1 ∧ jx_Go jxP d 200 1027 [l0, l1, l2, l3] (.int (q.2 x.toNatClampNeg) :: st) h Q := jg_sa rfl
theorem s200_1027 : jx_Go jxP (d + 1) 200 1027 [l0, l1, l2, l3] (.int x0 :: .ref a :: st) h Q ↔ (st.length ≤ 4 ∧ jx_cl h a = some 12 ∧ jx_Go jxP d 189 0 [.ref a, .int x0] [] h (fun s1 h1 => jx_Go jxP (d + 1) 200 1030 [l0, l1, l2, l3] (s1 ++ st) h1 Q)) := jg_callV (as := [.int x0, .ref a]) rfl rfl rfl rfl rfl
theorem s200_1030 : jx_Go jxP d 200 1030 [l0, l1, l2, l3] (.int y :: .int x :: st) h Q ↔ if x = y then jx_Go jxP d 200 1150 [l0, l1, l2, l3] st h Q else jx_Go jxP d 200 1033 [l0, l1, l2, l3] st h Q := jg_icP rfl rfl
theorem s200_1033 : jx_Go jxP d 200 1033 [l0, l1, l2, l3] st h Q ↔ jx_Go jxP d 200 1034 [l0, l1, l2, l3] (.int (nI 0) :: st) h Q := jg_c rfl
theorem s200_1034b0 : jx_Go jxP d 200 1034 [l0, l1, l2, l3] [.int (nI 0)] h Q ↔ Q [.int (nI 0)] h := jx_rt rfl rfl
theorem s200_1034b1 : jx_Go jxP d 200 1034 [l0, l1, l2, l3] [.int (nI 1)] h Q ↔ Q [.int (nI 1)] h := jx_rt rfl rfl
theorem s200_1035 : jx_Go jxP d 200 1035 [l0, .ref a, l2, l3] st h Q ↔ jx_Go jxP d 200 1036 [l0, .ref a, l2, l3] (.ref a :: st) h Q := jg_al rfl rfl
theorem s200_1036 : jx_Go jxP d 200 1036 [.ref a, l1, l2, l3] st h Q ↔ jx_Go jxP d 200 1037 [.ref a, l1, l2, l3] (.ref a :: st) h Q := jg_al rfl rfl
theorem s200_1037 : jx_Go jxP d 200 1037 [l0, l1, l2, .int x] st h Q ↔ jx_Go jxP d 200 1038 [l0, l1, l2, .int x] (.int x :: st) h Q := jg_il rfl rfl
theorem s200_1038 : jx_Go jxP d 200 1038 [l0, l1, l2, l3] st h Q ↔ jx_Go jxP d 200 1039 [l0, l1, l2, l3] (.int (nI 1) :: st) h Q := jg_c rfl
theorem s200_1039 : jx_Go jxP d 200 1039 [l0, l1, l2, l3] (.int y :: .int x :: st) h Q ↔ jx_Go jxP d 200 1040 [l0, l1, l2, l3] (.int (x + y) :: st) h Q := jg_b (f := fun x y => x + y) rfl
theorem s200_1040 : jx_Go jxP d 200 1040 [l0, l1, l2, l3] (.int x :: .ref 0 :: st) h Q ↔ ∃ q, jx_sc h 0 = some q ∧ jx_in x q.1 ∧ jx_Go jxP d 200 1041 [l0, l1, l2, l3] (.int (q.2 x.toNatClampNeg) :: st) h Q := jg_sa rfl
theorem s200_1041 : jx_Go jxP (d + 1) 200 1041 [l0, l1, l2, l3] (.int x0 :: .ref a :: st) h Q ↔ (st.length ≤ 4 ∧ jx_cl h a = some 11 ∧ jx_Go jxP d 115 0 [.ref a, .int x0] [] h (fun s1 h1 => jx_Go jxP (d + 1) 200 1044 [l0, l1, l2, l3] (s1 ++ st) h1 Q)) := jg_callV (as := [.int x0, .ref a]) rfl rfl rfl rfl rfl
theorem s200_1044 : jx_Go jxP d 200 1044 [l0, l1, .ref a, l3] st h Q ↔ jx_Go jxP d 200 1045 [l0, l1, .ref a, l3] (.ref a :: st) h Q := jg_al rfl rfl
theorem s200_1045 : jx_Go jxP d 200 1045 [.ref a, l1, l2, l3] st h Q ↔ jx_Go jxP d 200 1046 [.ref a, l1, l2, l3] (.ref a :: st) h Q := jg_al rfl rfl
theorem s200_1046 : jx_Go jxP d 200 1046 [l0, l1, l2, .int x] st h Q ↔ jx_Go jxP d 200 1047 [l0, l1, l2, .int x] (.int x :: st) h Q := jg_il rfl rfl
theorem s200_1047 : jx_Go jxP d 200 1047 [l0, l1, l2, l3] st h Q ↔ jx_Go jxP d 200 1048 [l0, l1, l2, l3] (.int (nI 1) :: st) h Q := jg_c rfl
theorem s200_1048 : jx_Go jxP d 200 1048 [l0, l1, l2, l3] (.int y :: .int x :: st) h Q ↔ jx_Go jxP d 200 1049 [l0, l1, l2, l3] (.int (x + y) :: st) h Q := jg_b (f := fun x y => x + y) rfl
theorem s200_1049 : jx_Go jxP d 200 1049 [l0, l1, l2, l3] (.int x :: .ref 0 :: st) h Q ↔ ∃ q, jx_sc h 0 = some q ∧ jx_in x q.1 ∧ jx_Go jxP d 200 1050 [l0, l1, l2, l3] (.int (q.2 x.toNatClampNeg) :: st) h Q := jg_sa rfl
theorem s200_1050 : jx_Go jxP (d + 1) 200 1050 [l0, l1, l2, l3] (.int x0 :: .ref a :: st) h Q ↔ (st.length ≤ 4 ∧ jx_cl h a = some 12 ∧ jx_Go jxP d 190 0 [.ref a, .int x0] [] h (fun s1 h1 => jx_Go jxP (d + 1) 200 1053 [l0, l1, l2, l3] (s1 ++ st) h1 Q)) := jg_callV (as := [.int x0, .ref a]) rfl rfl rfl rfl rfl
theorem s200_1053 : jx_Go jxP d 200 1053 [l0, l1, l2, l3] (.int y :: .int x :: st) h Q ↔ if x = y then jx_Go jxP d 200 1150 [l0, l1, l2, l3] st h Q else jx_Go jxP d 200 1056 [l0, l1, l2, l3] st h Q := jg_icP rfl rfl
theorem s200_1056 : jx_Go jxP d 200 1056 [l0, l1, l2, l3] st h Q ↔ jx_Go jxP d 200 1057 [l0, l1, l2, l3] (.int (nI 0) :: st) h Q := jg_c rfl
theorem s200_1057b0 : jx_Go jxP d 200 1057 [l0, l1, l2, l3] [.int (nI 0)] h Q ↔ Q [.int (nI 0)] h := jx_rt rfl rfl
theorem s200_1057b1 : jx_Go jxP d 200 1057 [l0, l1, l2, l3] [.int (nI 1)] h Q ↔ Q [.int (nI 1)] h := jx_rt rfl rfl
theorem s200_1058 : jx_Go jxP d 200 1058 [l0, .ref a, l2, l3] st h Q ↔ jx_Go jxP d 200 1059 [l0, .ref a, l2, l3] (.ref a :: st) h Q := jg_al rfl rfl
theorem s200_1059 : jx_Go jxP d 200 1059 [.ref a, l1, l2, l3] st h Q ↔ jx_Go jxP d 200 1060 [.ref a, l1, l2, l3] (.ref a :: st) h Q := jg_al rfl rfl
theorem s200_1060 : jx_Go jxP d 200 1060 [l0, l1, l2, .int x] st h Q ↔ jx_Go jxP d 200 1061 [l0, l1, l2, .int x] (.int x :: st) h Q := jg_il rfl rfl
theorem s200_1061 : jx_Go jxP d 200 1061 [l0, l1, l2, l3] st h Q ↔ jx_Go jxP d 200 1062 [l0, l1, l2, l3] (.int (nI 1) :: st) h Q := jg_c rfl
theorem s200_1062 : jx_Go jxP d 200 1062 [l0, l1, l2, l3] (.int y :: .int x :: st) h Q ↔ jx_Go jxP d 200 1063 [l0, l1, l2, l3] (.int (x + y) :: st) h Q := jg_b (f := fun x y => x + y) rfl
theorem s200_1063 : jx_Go jxP d 200 1063 [l0, l1, l2, l3] (.int x :: .ref 0 :: st) h Q ↔ ∃ q, jx_sc h 0 = some q ∧ jx_in x q.1 ∧ jx_Go jxP d 200 1064 [l0, l1, l2, l3] (.int (q.2 x.toNatClampNeg) :: st) h Q := jg_sa rfl
theorem s200_1064 : jx_Go jxP d 200 1064 [.ref a, l1, l2, l3] st h Q ↔ jx_Go jxP d 200 1065 [.ref a, l1, l2, l3] (.ref a :: st) h Q := jg_al rfl rfl
theorem s200_1065 : jx_Go jxP d 200 1065 [l0, l1, l2, .int x] st h Q ↔ jx_Go jxP d 200 1066 [l0, l1, l2, .int x] (.int x :: st) h Q := jg_il rfl rfl
theorem s200_1066 : jx_Go jxP d 200 1066 [l0, l1, l2, l3] st h Q ↔ jx_Go jxP d 200 1067 [l0, l1, l2, l3] (.int (nI 2) :: st) h Q := jg_c rfl
theorem s200_1067 : jx_Go jxP d 200 1067 [l0, l1, l2, l3] (.int y :: .int x :: st) h Q ↔ jx_Go jxP d 200 1068 [l0, l1, l2, l3] (.int (x + y) :: st) h Q := jg_b (f := fun x y => x + y) rfl
theorem s200_1068 : jx_Go jxP d 200 1068 [l0, l1, l2, l3] (.int x :: .ref 0 :: st) h Q ↔ ∃ q, jx_sc h 0 = some q ∧ jx_in x q.1 ∧ jx_Go jxP d 200 1069 [l0, l1, l2, l3] (.int (q.2 x.toNatClampNeg) :: st) h Q := jg_sa rfl
theorem s200_1069 : jx_Go jxP (d + 1) 200 1069 [l0, l1, l2, l3] (.int x1 :: .int x0 :: .ref a :: st) h Q ↔ (st.length ≤ 4 ∧ jx_cl h a = some 11 ∧ jx_Go jxP d 116 0 [.ref a, .int x0, .int x1] [] h (fun s1 h1 => jx_Go jxP (d + 1) 200 1072 [l0, l1, l2, l3] (s1 ++ st) h1 Q)) := jg_callV (as := [.int x1, .int x0, .ref a]) rfl rfl rfl rfl rfl
theorem s200_1072 : jx_Go jxP d 200 1072 [l0, l1, .ref a, l3] st h Q ↔ jx_Go jxP d 200 1073 [l0, l1, .ref a, l3] (.ref a :: st) h Q := jg_al rfl rfl
theorem s200_1073 : jx_Go jxP d 200 1073 [.ref a, l1, l2, l3] st h Q ↔ jx_Go jxP d 200 1074 [.ref a, l1, l2, l3] (.ref a :: st) h Q := jg_al rfl rfl
theorem s200_1074 : jx_Go jxP d 200 1074 [l0, l1, l2, .int x] st h Q ↔ jx_Go jxP d 200 1075 [l0, l1, l2, .int x] (.int x :: st) h Q := jg_il rfl rfl
theorem s200_1075 : jx_Go jxP d 200 1075 [l0, l1, l2, l3] st h Q ↔ jx_Go jxP d 200 1076 [l0, l1, l2, l3] (.int (nI 1) :: st) h Q := jg_c rfl
theorem s200_1076 : jx_Go jxP d 200 1076 [l0, l1, l2, l3] (.int y :: .int x :: st) h Q ↔ jx_Go jxP d 200 1077 [l0, l1, l2, l3] (.int (x + y) :: st) h Q := jg_b (f := fun x y => x + y) rfl
theorem s200_1077 : jx_Go jxP d 200 1077 [l0, l1, l2, l3] (.int x :: .ref 0 :: st) h Q ↔ ∃ q, jx_sc h 0 = some q ∧ jx_in x q.1 ∧ jx_Go jxP d 200 1078 [l0, l1, l2, l3] (.int (q.2 x.toNatClampNeg) :: st) h Q := jg_sa rfl
theorem s200_1078 : jx_Go jxP d 200 1078 [.ref a, l1, l2, l3] st h Q ↔ jx_Go jxP d 200 1079 [.ref a, l1, l2, l3] (.ref a :: st) h Q := jg_al rfl rfl
theorem s200_1079 : jx_Go jxP d 200 1079 [l0, l1, l2, .int x] st h Q ↔ jx_Go jxP d 200 1080 [l0, l1, l2, .int x] (.int x :: st) h Q := jg_il rfl rfl
theorem s200_1080 : jx_Go jxP d 200 1080 [l0, l1, l2, l3] st h Q ↔ jx_Go jxP d 200 1081 [l0, l1, l2, l3] (.int (nI 2) :: st) h Q := jg_c rfl
theorem s200_1081 : jx_Go jxP d 200 1081 [l0, l1, l2, l3] (.int y :: .int x :: st) h Q ↔ jx_Go jxP d 200 1082 [l0, l1, l2, l3] (.int (x + y) :: st) h Q := jg_b (f := fun x y => x + y) rfl
theorem s200_1082 : jx_Go jxP d 200 1082 [l0, l1, l2, l3] (.int x :: .ref 0 :: st) h Q ↔ ∃ q, jx_sc h 0 = some q ∧ jx_in x q.1 ∧ jx_Go jxP d 200 1083 [l0, l1, l2, l3] (.int (q.2 x.toNatClampNeg) :: st) h Q := jg_sa rfl
theorem s200_1083 : jx_Go jxP (d + 1) 200 1083 [l0, l1, l2, l3] (.int x1 :: .int x0 :: .ref a :: st) h Q ↔ (st.length ≤ 4 ∧ jx_cl h a = some 12 ∧ jx_Go jxP d 192 0 [.ref a, .int x0, .int x1, jx_u, jx_u, jx_u, jx_u] [] h (fun s1 h1 => jx_Go jxP (d + 1) 200 1086 [l0, l1, l2, l3] (s1 ++ st) h1 Q)) := jg_callV (as := [.int x1, .int x0, .ref a]) rfl rfl rfl rfl rfl
theorem s200_1086 : jx_Go jxP d 200 1086 [l0, l1, l2, l3] (.int y :: .int x :: st) h Q ↔ if x = y then jx_Go jxP d 200 1150 [l0, l1, l2, l3] st h Q else jx_Go jxP d 200 1089 [l0, l1, l2, l3] st h Q := jg_icP rfl rfl
theorem s200_1089 : jx_Go jxP d 200 1089 [l0, l1, l2, l3] st h Q ↔ jx_Go jxP d 200 1090 [l0, l1, l2, l3] (.int (nI 0) :: st) h Q := jg_c rfl
theorem s200_1090b0 : jx_Go jxP d 200 1090 [l0, l1, l2, l3] [.int (nI 0)] h Q ↔ Q [.int (nI 0)] h := jx_rt rfl rfl
theorem s200_1090b1 : jx_Go jxP d 200 1090 [l0, l1, l2, l3] [.int (nI 1)] h Q ↔ Q [.int (nI 1)] h := jx_rt rfl rfl
theorem s200_1091 : jx_Go jxP d 200 1091 [l0, .ref a, l2, l3] st h Q ↔ jx_Go jxP d 200 1092 [l0, .ref a, l2, l3] (.ref a :: st) h Q := jg_al rfl rfl
theorem s200_1092 : jx_Go jxP d 200 1092 [.ref a, l1, l2, l3] st h Q ↔ jx_Go jxP d 200 1093 [.ref a, l1, l2, l3] (.ref a :: st) h Q := jg_al rfl rfl
theorem s200_1093 : jx_Go jxP d 200 1093 [l0, l1, l2, .int x] st h Q ↔ jx_Go jxP d 200 1094 [l0, l1, l2, .int x] (.int x :: st) h Q := jg_il rfl rfl
theorem s200_1094 : jx_Go jxP d 200 1094 [l0, l1, l2, l3] st h Q ↔ jx_Go jxP d 200 1095 [l0, l1, l2, l3] (.int (nI 1) :: st) h Q := jg_c rfl
theorem s200_1095 : jx_Go jxP d 200 1095 [l0, l1, l2, l3] (.int y :: .int x :: st) h Q ↔ jx_Go jxP d 200 1096 [l0, l1, l2, l3] (.int (x + y) :: st) h Q := jg_b (f := fun x y => x + y) rfl
theorem s200_1096 : jx_Go jxP d 200 1096 [l0, l1, l2, l3] (.int x :: .ref 0 :: st) h Q ↔ ∃ q, jx_sc h 0 = some q ∧ jx_in x q.1 ∧ jx_Go jxP d 200 1097 [l0, l1, l2, l3] (.int (q.2 x.toNatClampNeg) :: st) h Q := jg_sa rfl
theorem s200_1097 : jx_Go jxP (d + 1) 200 1097 [l0, l1, l2, l3] (.int x0 :: .ref a :: st) h Q ↔ (st.length ≤ 4 ∧ jx_cl h a = some 11 ∧ jx_Go jxP d 117 0 [.ref a, .int x0] [] h (fun s1 h1 => jx_Go jxP (d + 1) 200 1100 [l0, l1, l2, l3] (s1 ++ st) h1 Q)) := jg_callV (as := [.int x0, .ref a]) rfl rfl rfl rfl rfl
theorem s200_1100 : jx_Go jxP d 200 1100 [l0, l1, .ref a, l3] st h Q ↔ jx_Go jxP d 200 1101 [l0, l1, .ref a, l3] (.ref a :: st) h Q := jg_al rfl rfl
theorem s200_1101 : jx_Go jxP d 200 1101 [.ref a, l1, l2, l3] st h Q ↔ jx_Go jxP d 200 1102 [.ref a, l1, l2, l3] (.ref a :: st) h Q := jg_al rfl rfl
theorem s200_1102 : jx_Go jxP d 200 1102 [l0, l1, l2, .int x] st h Q ↔ jx_Go jxP d 200 1103 [l0, l1, l2, .int x] (.int x :: st) h Q := jg_il rfl rfl
theorem s200_1103 : jx_Go jxP d 200 1103 [l0, l1, l2, l3] st h Q ↔ jx_Go jxP d 200 1104 [l0, l1, l2, l3] (.int (nI 1) :: st) h Q := jg_c rfl
theorem s200_1104 : jx_Go jxP d 200 1104 [l0, l1, l2, l3] (.int y :: .int x :: st) h Q ↔ jx_Go jxP d 200 1105 [l0, l1, l2, l3] (.int (x + y) :: st) h Q := jg_b (f := fun x y => x + y) rfl
theorem s200_1105 : jx_Go jxP d 200 1105 [l0, l1, l2, l3] (.int x :: .ref 0 :: st) h Q ↔ ∃ q, jx_sc h 0 = some q ∧ jx_in x q.1 ∧ jx_Go jxP d 200 1106 [l0, l1, l2, l3] (.int (q.2 x.toNatClampNeg) :: st) h Q := jg_sa rfl
theorem s200_1106 : jx_Go jxP (d + 1) 200 1106 [l0, l1, l2, l3] (.int x0 :: .ref a :: st) h Q ↔ (st.length ≤ 4 ∧ jx_cl h a = some 12 ∧ jx_Go jxP d 195 0 [.ref a, .int x0, jx_u, jx_u, jx_u, jx_u] [] h (fun s1 h1 => jx_Go jxP (d + 1) 200 1109 [l0, l1, l2, l3] (s1 ++ st) h1 Q)) := jg_callV (as := [.int x0, .ref a]) rfl rfl rfl rfl rfl
theorem s200_1109 : jx_Go jxP d 200 1109 [l0, l1, l2, l3] (.int y :: .int x :: st) h Q ↔ if x = y then jx_Go jxP d 200 1150 [l0, l1, l2, l3] st h Q else jx_Go jxP d 200 1112 [l0, l1, l2, l3] st h Q := jg_icP rfl rfl
theorem s200_1112 : jx_Go jxP d 200 1112 [l0, l1, l2, l3] st h Q ↔ jx_Go jxP d 200 1113 [l0, l1, l2, l3] (.int (nI 0) :: st) h Q := jg_c rfl
theorem s200_1113b0 : jx_Go jxP d 200 1113 [l0, l1, l2, l3] [.int (nI 0)] h Q ↔ Q [.int (nI 0)] h := jx_rt rfl rfl
theorem s200_1113b1 : jx_Go jxP d 200 1113 [l0, l1, l2, l3] [.int (nI 1)] h Q ↔ Q [.int (nI 1)] h := jx_rt rfl rfl
theorem s200_1114 : jx_Go jxP d 200 1114 [l0, .ref a, l2, l3] st h Q ↔ jx_Go jxP d 200 1115 [l0, .ref a, l2, l3] (.ref a :: st) h Q := jg_al rfl rfl
theorem s200_1115 : jx_Go jxP (d + 1) 200 1115 [l0, l1, l2, l3] (.ref a :: st) h Q ↔ (st.length ≤ 4 ∧ jx_cl h a = some 11 ∧ jx_Go jxP d 118 0 [.ref a] [] h (fun s1 h1 => jx_Go jxP (d + 1) 200 1118 [l0, l1, l2, l3] (s1 ++ st) h1 Q)) := jg_callV (as := [.ref a]) rfl rfl rfl rfl rfl
theorem s200_1118 : jx_Go jxP d 200 1118 [l0, l1, .ref a, l3] st h Q ↔ jx_Go jxP d 200 1119 [l0, l1, .ref a, l3] (.ref a :: st) h Q := jg_al rfl rfl
theorem s200_1119 : jx_Go jxP (d + 1) 200 1119 [l0, l1, l2, l3] (.ref a :: st) h Q ↔ (st.length ≤ 4 ∧ jx_cl h a = some 12 ∧ jx_Go jxP d 137 0 [.ref a] [] h (fun s1 h1 => jx_Go jxP (d + 1) 200 1122 [l0, l1, l2, l3] (s1 ++ st) h1 Q)) := jg_callV (as := [.ref a]) rfl rfl rfl rfl rfl
theorem s200_1122 : jx_Go jxP d 200 1122 [l0, l1, l2, l3] (.int y :: .int x :: st) h Q ↔ if x = y then jx_Go jxP d 200 1150 [l0, l1, l2, l3] st h Q else jx_Go jxP d 200 1125 [l0, l1, l2, l3] st h Q := jg_icP rfl rfl
theorem s200_1125 : jx_Go jxP d 200 1125 [l0, l1, l2, l3] st h Q ↔ jx_Go jxP d 200 1126 [l0, l1, l2, l3] (.int (nI 0) :: st) h Q := jg_c rfl
theorem s200_1126b0 : jx_Go jxP d 200 1126 [l0, l1, l2, l3] [.int (nI 0)] h Q ↔ Q [.int (nI 0)] h := jx_rt rfl rfl
theorem s200_1126b1 : jx_Go jxP d 200 1126 [l0, l1, l2, l3] [.int (nI 1)] h Q ↔ Q [.int (nI 1)] h := jx_rt rfl rfl
theorem s200_1127 : jx_Go jxP d 200 1127 [l0, .ref a, l2, l3] st h Q ↔ jx_Go jxP d 200 1128 [l0, .ref a, l2, l3] (.ref a :: st) h Q := jg_al rfl rfl
theorem s200_1128 : jx_Go jxP d 200 1128 [.ref a, l1, l2, l3] st h Q ↔ jx_Go jxP d 200 1129 [.ref a, l1, l2, l3] (.ref a :: st) h Q := jg_al rfl rfl
theorem s200_1129 : jx_Go jxP d 200 1129 [l0, l1, l2, .int x] st h Q ↔ jx_Go jxP d 200 1130 [l0, l1, l2, .int x] (.int x :: st) h Q := jg_il rfl rfl
theorem s200_1130 : jx_Go jxP d 200 1130 [l0, l1, l2, l3] st h Q ↔ jx_Go jxP d 200 1131 [l0, l1, l2, l3] (.int (nI 1) :: st) h Q := jg_c rfl
theorem s200_1131 : jx_Go jxP d 200 1131 [l0, l1, l2, l3] (.int y :: .int x :: st) h Q ↔ jx_Go jxP d 200 1132 [l0, l1, l2, l3] (.int (x + y) :: st) h Q := jg_b (f := fun x y => x + y) rfl
theorem s200_1132 : jx_Go jxP d 200 1132 [l0, l1, l2, l3] (.int x :: .ref 0 :: st) h Q ↔ ∃ q, jx_sc h 0 = some q ∧ jx_in x q.1 ∧ jx_Go jxP d 200 1133 [l0, l1, l2, l3] (.int (q.2 x.toNatClampNeg) :: st) h Q := jg_sa rfl
theorem s200_1133 : jx_Go jxP (d + 1) 200 1133 [l0, l1, l2, l3] (.int x0 :: .ref a :: st) h Q ↔ (st.length ≤ 4 ∧ jx_cl h a = some 11 ∧ jx_Go jxP d 119 0 [.ref a, .int x0] [] h (fun s1 h1 => jx_Go jxP (d + 1) 200 1136 [l0, l1, l2, l3] (s1 ++ st) h1 Q)) := jg_callV (as := [.int x0, .ref a]) rfl rfl rfl rfl rfl
theorem s200_1136 : jx_Go jxP d 200 1136 [l0, l1, .ref a, l3] st h Q ↔ jx_Go jxP d 200 1137 [l0, l1, .ref a, l3] (.ref a :: st) h Q := jg_al rfl rfl
theorem s200_1137 : jx_Go jxP d 200 1137 [.ref a, l1, l2, l3] st h Q ↔ jx_Go jxP d 200 1138 [.ref a, l1, l2, l3] (.ref a :: st) h Q := jg_al rfl rfl
theorem s200_1138 : jx_Go jxP d 200 1138 [l0, l1, l2, .int x] st h Q ↔ jx_Go jxP d 200 1139 [l0, l1, l2, .int x] (.int x :: st) h Q := jg_il rfl rfl
theorem s200_1139 : jx_Go jxP d 200 1139 [l0, l1, l2, l3] st h Q ↔ jx_Go jxP d 200 1140 [l0, l1, l2, l3] (.int (nI 1) :: st) h Q := jg_c rfl
theorem s200_1140 : jx_Go jxP d 200 1140 [l0, l1, l2, l3] (.int y :: .int x :: st) h Q ↔ jx_Go jxP d 200 1141 [l0, l1, l2, l3] (.int (x + y) :: st) h Q := jg_b (f := fun x y => x + y) rfl
theorem s200_1141 : jx_Go jxP d 200 1141 [l0, l1, l2, l3] (.int x :: .ref 0 :: st) h Q ↔ ∃ q, jx_sc h 0 = some q ∧ jx_in x q.1 ∧ jx_Go jxP d 200 1142 [l0, l1, l2, l3] (.int (q.2 x.toNatClampNeg) :: st) h Q := jg_sa rfl
theorem s200_1142 : jx_Go jxP (d + 1) 200 1142 [l0, l1, l2, l3] (.int x0 :: .ref a :: st) h Q ↔ (st.length ≤ 4 ∧ jx_cl h a = some 12 ∧ jx_Go jxP d 196 0 [.ref a, .int x0] [] h (fun s1 h1 => jx_Go jxP (d + 1) 200 1145 [l0, l1, l2, l3] (s1 ++ st) h1 Q)) := jg_callV (as := [.int x0, .ref a]) rfl rfl rfl rfl rfl
theorem s200_1145 : jx_Go jxP d 200 1145 [l0, l1, l2, l3] (.int y :: .int x :: st) h Q ↔ if x = y then jx_Go jxP d 200 1150 [l0, l1, l2, l3] st h Q else jx_Go jxP d 200 1148 [l0, l1, l2, l3] st h Q := jg_icP rfl rfl
theorem s200_1148 : jx_Go jxP d 200 1148 [l0, l1, l2, l3] st h Q ↔ jx_Go jxP d 200 1149 [l0, l1, l2, l3] (.int (nI 0) :: st) h Q := jg_c rfl
theorem s200_1149b0 : jx_Go jxP d 200 1149 [l0, l1, l2, l3] [.int (nI 0)] h Q ↔ Q [.int (nI 0)] h := jx_rt rfl rfl
theorem s200_1149b1 : jx_Go jxP d 200 1149 [l0, l1, l2, l3] [.int (nI 1)] h Q ↔ Q [.int (nI 1)] h := jx_rt rfl rfl
theorem s200_1150 : jx_Go jxP d 200 1150 [l0, l1, l2, .int x] st h Q ↔ jx_Go jxP d 200 1153 [l0, l1, l2, .int (x + (nI 6))] st h Q := jg_inc rfl rfl rfl
theorem s200_1153 : jx_Go jxP d 200 1153 [l0, l1, l2, l3] st h Q ↔ jx_Go jxP d 200 18 [l0, l1, l2, l3] st h Q := jg_go rfl
theorem s200_1156 : jx_Go jxP d 200 1156 [l0, l1, l2, l3] st h Q ↔ jx_Go jxP d 200 1157 [l0, l1, l2, l3] (.int (nI 1) :: st) h Q := jg_c rfl
theorem s200_1157b0 : jx_Go jxP d 200 1157 [l0, l1, l2, l3] [.int (nI 0)] h Q ↔ Q [.int (nI 0)] h := jx_rt rfl rfl
theorem s200_1157b1 : jx_Go jxP d 200 1157 [l0, l1, l2, l3] [.int (nI 1)] h Q ↔ Q [.int (nI 1)] h := jx_rt rfl rfl
end JST
