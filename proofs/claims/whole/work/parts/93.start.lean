/-! THE CLAIM OUT OF ONE WALK OF THE LAW'S BODY. Your part is whole_start (and what it stands on); all else here is the same for every law, but numbers. -/
def R_law : String := "TalkBenchLaw"
def lw_P (b : Addr) (xs : List Int32) (args : Array Value) (s : State) : Prop := args = #[.ref b] ∧ s.IntsAt b xs ∧ xs.length ≤ 3072 ∧ (Jvm.Cond.and given_1 narrow_1).before args s = true
def lw_Q (_ : Array Value) (s : State) (o : Outcome) (t : State) : Prop := o = .returned (some (.int 1)) ∧ Framed s o t [] 600000 7302250
def lw_Z (below : List Frame) (a : Array Value) (s : State) : State → Prop := fun t => ∃ o, t.status = .running ∧ Ended t below o ∧ lw_Q a s o t
/-- the law's own end, with 1 on the stack, nothing written that was there before, its room as the claim has it -/
theorem lw_ret {p : Program} {l : Launch} {e : Env} {s : State} {m : MethodId} {below : List Frame} {meth : Method} {c : Code} {b : Nat} (hx : p.tables.exec = Jvm.exec) (hb : c.code = code) (hr : meth.sig.returnType = ret) (hlocks : meth.locks = false) {pc : Nat} {H : Heap} {ls : Array Slot} (hdg : decode code pc = .ok (.ireturn, 1)) : W p l e room_1 s m #[Value.ref b] below meth c H [] 600000 7302250 (lw_Z below #[Value.ref b] s) (F0 m pc ls [.int 1]) := by
  intro T hT X
  obtain ⟨fs, hret, hrun, hended, hW, hframe⟩ := X.leave (v := some (.int 1)) (hlocks := hlocks) (fun h => by rw [hr] at h; cases h)
  have hmeth' : T.vm.method? m = some meth := X.method'
  refine ⟨T.setFrames fs, ?_, .returned (some (.int 1)), hrun, hended, rfl, ⟨_, rfl⟩, hW, hframe⟩
  jvm_step X.here [X.here.top, hx, hb, hdg, hmeth', hr, ret, narrow_b1]
  (try refine ⟨rfl, ?_⟩); (try refine ⟨rfl, ?_⟩)
  first | (intro acts; rw [hret _ acts rfl rfl rfl]) | rw [hret _ _ rfl rfl rfl]
  exact Steps.refl _
/-- what holds at the law's entry: the machine, the code, the tables' words (any of lw_tbl by 'hts w (by decide +kernel)'), the script of L ints xs at the cell b, what the Statement gives of the start (any of its parts by flat_of_before) -/
def lw_At (p : Program) (s : State) (m : MethodId) (meth : Method) (c : Code) (b L : Nat) (xs : Nat → Int32) : Prop :=
  p.tables.exec = Jvm.exec ∧ c.code = code ∧ meth.sig.returnType = ret ∧ c.maxLocals = 4 ∧ s.vm.findClass R_law = some m.cls ∧ (∀ w ∈ lw_tbl, w.before #[Value.ref b] s = true) ∧ va_X b L xs s s.heap ∧ b < s.heap.size ∧ meth.locks = false ∧ (Jvm.Cond.and given_1 narrow_1).before #[Value.ref b] s = true
/-! ===== from the law's entry ===== -/
theorem jk_tab {w : Cond} {s : State} {b : Nat} (i : Nat) (hts : ∀ w ∈ lw_tbl, w.before #[Value.ref b] s = true) (h : lw_tbl[i]? = some w) : w.before #[Value.ref b] s = true := hts w (List.mem_of_getElem? h)
theorem jk_nw {w : Cond} {s : State} {b : Nat} (i : Nat) (hts : ∀ w ∈ lw_tbl, w.before #[Value.ref b] s = true) (h : lw_tbl[i]? = some w) (ho : w.onTables = true) : va_Nw w s := va_tabs ho rfl (jk_tab i hts h)
theorem jk_arr {s : State} {b : Nat} {ty : FieldType} (h : (Cond.arrayClass ty).before #[Value.ref b] s = true) : ∃ cA : ClassId, ArrOfT s cA ty ∧ s.vm.findClass ("[" ++ ty.toString) = some cA := by
  obtain ⟨cA, kA, comp, h1, h2, h3⟩ := Cond.arrayClass_spec h
  exact ⟨cA, fun n z => ⟨fun k h => (by cases h), kA, h2, comp, h3⟩, h1⟩
theorem jk_obj {s : State} {C : String} (h : va_AO C s) : ∃ cA : ClassId, ArrOfT s cA (.object C) ∧ va_RA s cA (.object C) := by
  obtain ⟨comp, c, k, h1, h2, h3, h4, h5⟩ := Cond.arrayOver_spec h
  exact ⟨c, fun n z => ⟨fun k h => (by cases h), k, h3, comp, h4⟩, k, comp, h3, h4, h1, h5⟩
theorem jk_two {s : State} (h : (Cond.arrayOver (.array .int)).before #[] s = true) : ∃ cA : ClassId, ArrOfT s cA (.array .int) ∧ va_RA s cA (.array .int) := by
  obtain ⟨comp, c, k, h1, h2, h3, h4⟩ := Cond.arrayOver_specA h
  exact ⟨c, fun n z => ⟨fun k h => (by cases h), k, h2, comp, h3⟩, h4⟩
theorem jk_known {s : State} {b : Nat} (hts : ∀ w ∈ lw_tbl, w.before #[Value.ref b] s = true) : ∃ D : va_G, ∀ (c : Nat) (q : vw_C), vwCl[c]? = some q → u_Kn s q.1 q.2.1 q.2.2 (D.1 c) (D.2 c) := by
  have htT : ∀ w ∈ js_T, w.before #[Value.ref b] s = true := fun w hw => hts w (List.mem_filter.mp hw).1
  obtain ⟨c0, i0, h0⟩ := u_known (C := RX0) (T := TX0) (N := 6) htT jl_0 (htT _ jw_227)
  obtain ⟨c1, i1, h1⟩ := u_known (C := RX1) (T := TX1) (N := 3) htT jl_1 (htT _ jw_124)
  obtain ⟨c2, i2, h2⟩ := u_known (C := RX2) (T := TX2) (N := 6) htT jl_2 (htT _ jw_318)
  obtain ⟨c3, i3, h3⟩ := u_known (C := RX3) (T := TX3) (N := 2) htT jl_3 (htT _ jw_175)
  obtain ⟨c4, i4, h4⟩ := u_known (C := RX4) (T := TX4) (N := 4) htT jl_4 (htT _ jw_143)
  obtain ⟨c5, i5, h5⟩ := u_known (C := RX5) (T := TX5) (N := 2) htT jl_5 (htT _ jw_210)
  obtain ⟨c6, i6, h6⟩ := u_known (C := RX6) (T := TX6) (N := 8) htT jl_6 (htT _ jw_252)
  obtain ⟨c7, i7, h7⟩ := u_known (C := RX7) (T := TX7) (N := 8) htT jl_7 (htT _ jw_344)
  obtain ⟨c8, i8, h8⟩ := u_known (C := RX8) (T := TX8) (N := 3) htT jl_8 (htT _ jw_189)
  obtain ⟨c9, i9, h9⟩ := u_known (C := RX9) (T := TX9) (N := 9) htT jl_9 (htT _ jw_283)
  obtain ⟨c10, i10, h10⟩ := u_known (C := RX10) (T := TX10) (N := 4) htT jl_10 (htT _ jw_83)
  obtain ⟨c11, i11, h11⟩ := u_known (C := RX11) (T := TX11) (N := 12) htT jl_11 (htT _ jw_75)
  obtain ⟨c12, i12, h12⟩ := u_known (C := RX12) (T := TX12) (N := 38) htT jl_12 (htT _ jw_921)
  refine ⟨(fun k => [c0, c1, c2, c3, c4, c5, c6, c7, c8, c9, c10, c11, c12].getD k c0, fun k => [i0, i1, i2, i3, i4, i5, i6, i7, i8, i9, i10, i11, i12].getD k i0), fun k q hq => ?_⟩
  match k, hq with
  | 0, hq => cases hq; exact h0
  | 1, hq => cases hq; exact h1
  | 2, hq => cases hq; exact h2
  | 3, hq => cases hq; exact h3
  | 4, hq => cases hq; exact h4
  | 5, hq => cases hq; exact h5
  | 6, hq => cases hq; exact h6
  | 7, hq => cases hq; exact h7
  | 8, hq => cases hq; exact h8
  | 9, hq => cases hq; exact h9
  | 10, hq => cases hq; exact h10
  | 11, hq => cases hq; exact h11
  | 12, hq => cases hq; exact h12
  | k + 13, hq => simp at hq
theorem jk_K {s : State} {b : Nat} (hts : ∀ w ∈ lw_tbl, w.before #[Value.ref b] s = true) : ∃ (D : va_G) (G : Nat → ClassId), js_K D G s := by
  obtain ⟨D, hD⟩ := jk_known hts
  have ao2 : va_AO RX10 s := va_AO.of (jk_tab 120 hts (by decide +kernel))
  have ao3 : va_AO RX8 s := va_AO.of (jk_tab 122 hts (by decide +kernel))
  have ao4 : (Cond.arrayOver (.array .int)).before #[] s = true := jk_tab (w := .arrayOver (.array .int)) 181 hts (by decide +kernel)
  obtain ⟨g0, a0, n0⟩ := jk_arr (ty := .int) (jk_tab 119 hts (by decide +kernel))
  obtain ⟨g1, a1, n1⟩ := jk_arr (ty := .long) (jk_tab 1042 hts (by decide +kernel))
  obtain ⟨g2, a2, n2⟩ := jk_obj ao2
  obtain ⟨g3, a3, n3⟩ := jk_obj ao3
  obtain ⟨g4, a4, n4⟩ := jk_two ao4
  refine ⟨D, fun k => [g0, g1, g2, g3, g4].getD k g0, ⟨hD, fun k q hq => ?_⟩, ?_, jk_nw 696 hts (by decide +kernel) (by decide), ao2, ao3, ao4⟩
  · match k, hq with
    | 0, hq => cases hq; exact ⟨a0, n0⟩
    | 1, hq => cases hq; exact ⟨a1, n1⟩
    | 2, hq => cases hq; exact ⟨a2, n2⟩
    | 3, hq => cases hq; exact ⟨a3, n3⟩
    | 4, hq => cases hq; exact ⟨a4, n4⟩
    | k + 5, hq => simp [js_tys] at hq
  · intro w hw
    unfold js_nl at hw
    rcases List.mem_cons.mp hw with rfl | hw
    · exact jk_nw 144 hts (by decide +kernel) (by decide)
    rcases List.mem_cons.mp hw with rfl | hw
    · exact jk_nw 176 hts (by decide +kernel) (by decide)
    rcases List.mem_cons.mp hw with rfl | hw
    · exact jk_nw 190 hts (by decide +kernel) (by decide)
    rcases List.mem_cons.mp hw with rfl | hw
    · exact jk_nw 382 hts (by decide +kernel) (by decide)
    rcases List.mem_cons.mp hw with rfl | hw
    · exact jk_nw 604 hts (by decide +kernel) (by decide)
    rcases List.mem_cons.mp hw with rfl | hw
    · exact jk_nw 773 hts (by decide +kernel) (by decide)
    rcases List.mem_cons.mp hw with rfl | hw
    · exact jk_nw 794 hts (by decide +kernel) (by decide)
    rcases List.mem_cons.mp hw with rfl | hw
    · exact jk_nw 795 hts (by decide +kernel) (by decide)
    rcases List.mem_cons.mp hw with rfl | hw
    · exact jk_nw 800 hts (by decide +kernel) (by decide)
    rcases List.mem_cons.mp hw with rfl | hw
    · exact jk_nw 846 hts (by decide +kernel) (by decide)
    · cases hw
theorem jw_start (hp : jPart) (hP : js_P jxP jsI) {p : Program} {e : Env} {s : State} {m : MethodId} {below : List Frame} {meth : Method} {c : Code} (l : Launch) {b L : Nat} {xs : Nat → Int32} (hL : L ≤ 3072) (C0 : lw_At p s m meth c b L xs) : W p l e room_1 s m #[Value.ref b] below meth c s.heap [] 0 0 (lw_Z below #[Value.ref b] s) (entryFrame m ([Value.ref b] : List Value).toArray 4) := by
  obtain ⟨hx, hb, hr, hml, hown, hts, hX, hbl, hlocks, hgv⟩ := C0
  obtain ⟨D, G, hK⟩ := jk_K hts
  obtain ⟨n, pcf, stf, hf, hrun, q1, q2, q3⟩ := jwhole (d := 0) (Q := fun st h' => st = [.int (nI 1)] ∧ h'.1 ≤ 182 + 3 * (L / 6) ∧ h'.2.1 ≤ 200000 + 60 * (L / 6)) hp (n := L) (f := xs) (by omega) (fun h' b1 b2 => ⟨rfl, b1, b2⟩)
  obtain ⟨⟨g1, g2, r, hr1, hr2⟩, hW⟩ := js_sound hP n _ _ _ _ _ _ _ _ _ hrun
  have hret : js_ret code pcf ret r := (hP 200 pcf _ hr1).2
  have hdg : decode code pcf = .ok (.ireturn, 1) := by
    subst q1
    rcases hret with ⟨rfl, -, -⟩ | ⟨-, -, h⟩ | ⟨-, -, h⟩ | ⟨rfl, -, -⟩
    · cases hr2
    · exact h
    · exact h
    · cases hr2
  have hz : s.heap.size = s.heap.size - 1 + 1 := by omega
  have hl := lv_entry ([.ref b]) (n := 4) (Nat.le_of_ble_eq_true rfl)
  rw [lg_entry_eq]
  generalize (lg_sl ([.ref b]) ++ List.replicate (4 - (lg_sl ([.ref b])).length) Slot.unset).toArray = ls at hl ⊢
  have hl : lv_has ls 4 [(0, .ref b)] := hl
  refine hW p l e room_1 s m #[Value.ref b] below meth c (lw_Z below #[Value.ref b] s) D G b (s.heap.size - 1) s.heap 1 0 ⟨hx, hb, hml, hown, fun w hw => hts w (List.mem_filter.mp hw).1⟩ hK (fun w => absurd w (by decide +kernel)) (by decide) (by decide) (by show _ ≤ 600000; omega) (by show _ ≤ 7302250; omega) ?_ s.heap [] ls hl ⟨hz, Nat.le_refl _, by omega, fun i i1 i2 => absurd i2 (by show ¬ i < 1; omega), fun i hi => ?_, L, xs, rfl, hX⟩ va_S.rf (Nat.le_refl _) (Nat.le_refl _)
  · intro H locs X hR hS h1 h2
    subst q1
    refine va_forget (fun q hq => ?_) ?_
    · have := hS.2.2 q hq
      omega
    · refine W.widen (k := 600000) (n := 7302250) (by omega) (by omega) ?_
      exact lw_ret hx hb hr hlocks hdg
  · have hi : 1 ≤ i := hi
    show (if i = 0 then _ else jx_no) = jx_no
    rw [if_neg (by omega)]
theorem jmm_ok : ∀ pc index : Nat, decode cX3_init pc = .ok (.multianewarray index 2, 4) → Cond.classLink RX3 index "[[I" ∈ js_T → js_S RX3 cX3_init 1 true pc (jo_mm (pc + 4)) := fun _ _ hd hl => js_mmt hd hl jw_119
theorem whole_start {p : Program} {e : Env} {s : State} {m : MethodId} {below : List Frame} {meth : Method} {c : Code} (l : Launch) (hflags : l.flags = flags0) {b L : Nat} {xs : Nat → Int32} (hL : L ≤ 3072) (C0 : lw_At p s m meth c b L xs) : W p l e room_1 s m #[Value.ref b] below meth c s.heap [] 0 0 (lw_Z below #[Value.ref b] s) (entryFrame m ([Value.ref b] : List Value).toArray 4) := jw_start jPart_ok (jsP_ok jmm_ok) l hL C0
