/-! ===== what the pure machine does, the machine does: stores and new cells ===== -/
section JSI
variable {own : String} {cc : ByteArray} {nL pc : Nat} {ini : Bool}
theorem js_iast (hd : decode cc pc = .ok (.iastore, 1)) : js_S own cc nL ini pc (jo_iw (pc + 1)) := by
  refine ⟨fun ls st h pc' ls' st' h' e1 => ?_, fun p l e R s m args below meth c' Q D G b z H0 k0 n0 S hK hini hf hlo ls st h pc' ls' st' h' e1 hcl hsl kW H locs X hL hR hS hk hn => ?_⟩ <;> unfold jo_iw at e1 <;> split at e1 <;> (try (cases e1; done)) <;> split at e1 <;> (try (cases e1; done)) <;> split at e1 <;> (try (cases e1; done))
  · cases e1
    exact ⟨Nat.le_refl _, Nat.le_refl _⟩
  · next v i a rest _ x hx hi =>
    cases e1
    obtain ⟨i1, i2, i3, i4⟩ := hR.in (jx_ai_inv hx) (fun _ _ q => by cases q) (fun _ _ q => by cases q)
    show W p l e R s m args below meth c' H locs _ _ Q (F0 m pc X (.int v :: .int i :: .ref (js_a b z a) :: st'.map (js_v b z)))
    rw [i4]
    refine W.iast S.1 S.2.1 i3 ((hK.1.2 0 _ rfl).1 x.1 (fun j => .int (x.2 j))) (fun q => by cases q) (by show ¬ (i < 0 ∨ (arrV _ _ _).slots.size ≤ _); rw [arrV_size]; exact js_in hi) rfl rfl hd fun H1 e9 z9 oq => ?_
    refine kW H1 _ X hL (hR.put i1 i2 (x := .inl (0, x.1, .inl (upd x.2 i.toNatClampNeg v))) ?_ z9 oq) (hS.put z9 oq (by show z < z + a; omega)) hk hn
    show H1[z + a]? = some (vp_cell (G 0) (x.1, .inl (upd x.2 i.toNatClampNeg v)))
    rw [e9]
    rw [vp_cell_i, vp_cell_i, arrV_store]
    congr 2
    funext q
    by_cases hq : q = i.toNatClampNeg
    · subst hq
      simp [updV, upd]
    · simp [updV, upd, hq]
theorem js_last (hd : decode cc pc = .ok (.lastore, 1)) : js_S own cc nL ini pc (jo_lw (pc + 1)) := by
  refine ⟨fun ls st h pc' ls' st' h' e1 => ?_, fun p l e R s m args below meth c' Q D G b z H0 k0 n0 S hK hini hf hlo ls st h pc' ls' st' h' e1 hcl hsl kW H locs X hL hR hS hk hn => ?_⟩ <;> unfold jo_lw at e1 <;> split at e1 <;> (try (cases e1; done)) <;> split at e1 <;> (try (cases e1; done)) <;> split at e1 <;> (try (cases e1; done))
  · cases e1
    exact ⟨Nat.le_refl _, Nat.le_refl _⟩
  · next v i a rest _ x hx hi =>
    cases e1
    obtain ⟨i1, i2, i3, i4⟩ := hR.in (jx_al_inv hx) (fun _ _ q => by cases q) (fun _ _ q => by cases q)
    show W p l e R s m args below meth c' H locs _ _ Q (F0 m pc X (.long v :: .int i :: .ref (js_a b z a) :: st'.map (js_v b z)))
    rw [i4]
    refine W.last S.1 S.2.1 i3 ((hK.1.2 1 _ rfl).1 x.1 (fun j => .long (x.2 j))) (fun q => by cases q) (by show ¬ (i < 0 ∨ (arrV _ _ _).slots.size ≤ _); rw [arrV_size]; exact js_in hi) rfl rfl hd fun H1 e9 z9 oq => ?_
    refine kW H1 _ X hL (hR.put i1 i2 (x := .inl (1, x.1, .inr (.inl (vp_updL x.2 i.toNatClampNeg v)))) ?_ z9 oq) (hS.put z9 oq (by show z < z + a; omega)) hk hn
    show H1[z + a]? = some (vp_cell (G 1) (x.1, .inr (.inl (vp_updL x.2 i.toNatClampNeg v))))
    rw [e9]
    rw [vp_cell_l, vp_cell_l, arrV_store]
    congr 2
    funext q
    by_cases hq : q = i.toNatClampNeg
    · subst hq
      simp [updV, vp_updL]
    · simp [updV, vp_updL, hq]
theorem js_aast {t cv : Nat} {r : vw_C} (ht : t = 2 ∧ r.1 = RX10 ∨ t = 3 ∧ r.1 = RX8) (hr : vwCl[cv]? = some r) (hd : decode cc pc = .ok (.aastore, 1)) : js_S own cc nL ini pc (jo_rw (pc + 1) t cv) := by
  refine ⟨fun ls st h pc' ls' st' h' e1 => ?_, fun p l e R s m args below meth c' Q D G b z H0 k0 n0 S hK hini hf hlo ls st h pc' ls' st' h' e1 hcl hsl kW H locs X hL hR hS hk hn => ?_⟩ <;> unfold jo_rw at e1 <;> split at e1 <;> (try (cases e1; done)) <;> split at e1 <;> (try (cases e1; done)) <;> split at e1 <;> (try (cases e1; done))
  · cases e1
    exact ⟨Nat.le_refl _, Nat.le_refl _⟩
  · next v i a rest _ x hx hi =>
    cases e1
    obtain ⟨hi, hcv⟩ := hi
    obtain ⟨fs, hxv⟩ := jx_cl_inv hcv
    obtain ⟨j1, j2, j3, j4⟩ := hR.in hxv (fun _ _ q => by cases q) (fun _ _ q => by cases q)
    obtain ⟨i1, i2, i3, i4⟩ := hR.in (jx_ar_inv hx) (fun _ _ q => by rcases ht with ⟨rfl, -⟩ | ⟨rfl, -⟩ <;> cases q) (fun _ _ q => by rcases ht with ⟨rfl, -⟩ | ⟨rfl, -⟩ <;> cases q)
    show W p l e R s m args below meth c' H locs _ _ Q (F0 m pc X (.ref (js_a b z v) :: .int i :: .ref (js_a b z a) :: st'.map (js_v b z)))
    rw [i4, j4]
    obtain ⟨r', hr', cellV, g1, g2, g3, -⟩ := j3
    have hcls := (hK.1.1 cv r hr).2
    have hRA : ∃ (kA : Class) (comp : ClassId), s.vm.classes[G t]? = some kA ∧ kA.kind = .array comp (.object r.1) ∧ s.vm.findClass r.1 = some comp := by
      rcases ht with ⟨rfl, e⟩ | ⟨rfl, e⟩ <;> rw [e]
      · obtain ⟨kA, comp, k1, k2, k3, -⟩ := (hK.1.2 2 _ rfl).2
        exact ⟨kA, comp, k1, k2, k3⟩
      · obtain ⟨kA, comp, k1, k2, k3, -⟩ := (hK.1.2 3 _ rfl).2
        exact ⟨kA, comp, k1, k2, k3⟩
    obtain ⟨kA, comp, k1, k2, k3⟩ := hRA
    have hcomp : comp = D.1 cv := Option.some.inj (k3.symm.trans hcls.1)
    subst hcomp
    have hcl2 := hcls
    obtain ⟨kC, hkC, -⟩ := hcls.2
    have hlt : i.toNatClampNeg < x.1 := (jx_inB_iff.mp hi).2
    refine W.aast (k := kA) (comp := D.1 cv) (t := .object r.1) S.1 S.2.1 i3 (fun q h => by cases h) (fun h => by cases h) k1 k2 rfl hkC ⟨(jx_inB_iff.mp hi).1, by show _ < (arrV _ _ _).slots.size; rw [arrV_size]; exact hlt⟩ g1 (fun q h => by rw [g3] at h; cases h) (by rw [g2]; exact hkC) (by rw [g2]; exact va_assign hcl2) rfl rfl hd fun H1 e9 z9 oq => ?_
    refine kW H1 _ X hL (hR.put i1 i2 (x := .inl (t, x.1, .inr (.inr (.inr (.inr (va_up x.2 i.toNatClampNeg (some v))))))) ?_ z9 oq) (hS.put z9 oq (by show z < z + a; omega)) hk hn
    show H1[z + a]? = some (vp_cell (G t) (x.1, .inr (.inr (.inr (.inr (fun j => ((va_up x.2 i.toNatClampNeg (some v)) j).map (js_a b z)))))))
    rw [e9]
    rw [vp_cell_q, vp_cell_q, arrV_store]
    congr 2
    funext q
    by_cases hq : q = i.toNatClampNeg
    · subst hq
      simp [updV, va_up, va_rf, j4]
    · simp [updV, va_up, hq]
theorem js_newo {index c n : Nat} {C : String} {T : u_T} {N : Nat} {ty0 : Nat → FieldType} {fs : List Value} (hd : decode cc pc = .ok (.new index, 3)) (hc : vwCl[c]? = some (C, T, N)) (hin : ∀ w ∈ u_ws C T N, w ∈ js_T) (hty : ∀ k, k < N → parseFieldDescriptor (T k).2.2.1 = some (ty0 k)) (hl : Cond.classLink own index C ∈ js_T) (hins : Cond.instantiable C N ∈ js_T) (hini0 : Cond.initialized C ∈ js_T) (hfs : ∀ j, j < N → defaultValue (ty0 j) = vp_V fs j) (hfl : fs.length = N) (hfr : ∀ b z, fs.map (js_v b z) = fs) : js_S own cc nL ini pc (jo_nw (pc + 3) c fs) := by
  refine ⟨fun ls st h pc' ls' st' h' e1 => ?_, fun p l e R s m args below meth c' Q D G b z H0 k0 n0 S hK hini hf hlo ls st h pc' ls' st' h' e1 hcl hsl kW H locs X hL hR hS hk hn => ?_⟩ <;> cases e1
  · exact ⟨Nat.le_succ _, Nat.le_add_right _ _⟩
  · have hts := S.2.2.2.2
    have hKn := hK.1.1 c _ hc
    have hcl' : h.1 + 1 - k0 ≤ R.cells := hcl
    have hsl' : h.2.1 + fs.length - n0 ≤ R.slots := hsl
    have hz : H.size = z + h.1 := hR.1
    refine W.newcK S.1 S.2.1 S.2.2.2.1 (hts _ hl) (hts _ hins) (hts _ hini0) rfl hd (by omega) (by omega) hKn.2.1 hz fun H1 kC hkC e1 z1 o1 => ?_
    have hat : va_at D vwCl (z + h.1, js_e G b z (.inr (c, fs))) H1 := by
      refine ⟨_, hc, ?_⟩
      show t_OB (z + h.1) (D.1 c) N (D.2 c) H1 (vp_V (fs.map (js_v b z)))
      rw [hfr]
      exact (u_born ty0 hts hin hKn hkC e1 hty).to hfs
    have kk := kW H1 locs X hL (hR.mk (n := fs.length) hat (by omega) (fun q hq => o1 q (by omega))) (js_Sm hS (by omega) (fun q hq => o1 q (by omega))) (Nat.le_succ_of_le hk) (Nat.le_trans hn (Nat.le_add_right _ _))
    have e2 : h.1 - k0 + 1 = (jx_mk h fs.length (.inr (c, fs))).1 - k0 := by show _ = h.1 + 1 - k0; omega
    have e3 : h.2.1 - n0 + N = (jx_mk h fs.length (.inr (c, fs))).2.1 - n0 := by show _ = h.2.1 + fs.length - n0; omega
    have e4 : js_v b z (.ref h.1) = .ref (z + h.1) := by
      have := hR.2.1
      show Value.ref (js_a b z h.1) = _
      rw [js_a, if_neg (by omega)]
    rw [List.map_cons, e4] at kk
    rw [e2, e3]
    exact kk
theorem js_cnt {i : Int32} {n : Nat} (hi : jx_inB i n = true) : ¬ i < 0 := (jx_inB_iff.mp hi).1
theorem js_newi (hd : decode cc pc = .ok (.newarray .int, 2)) (hw : Cond.arrayClass .int ∈ js_T) : js_S own cc nL ini pc (jo_ni (pc + 2)) := by
  refine ⟨fun ls st h pc' ls' st' h' e1 => ?_, fun p l e R s m args below meth c' Q D G b z H0 k0 n0 S hK hini hf hlo ls st h pc' ls' st' h' e1 hcl hsl kW H locs X hL hR hS hk hn => ?_⟩ <;> unfold jo_ni at e1 <;> split at e1 <;> (try (cases e1; done)) <;> split at e1 <;> (try (cases e1; done))
  · cases e1
    exact ⟨Nat.le_succ _, Nat.le_add_right _ _⟩
  · next x rest hx =>
    cases e1
    have hcl' : h.1 + 1 - k0 ≤ R.cells := hcl
    have hsl' : h.2.1 + x.toNatClampNeg - n0 ≤ R.slots := hsl
    have hz : H.size = z + h.1 := hR.1
    have hlt : x.toNatClampNeg < 1000000 := (jx_inB_iff.mp hx).2
    refine va_newaK (atype := .int) S.1 S.2.1 (S.2.2.2.2 _ hw) rfl hd rfl (js_cnt hx) rfl (by show _ * 4 ≤ _; omega) (by omega) (by omega) hz fun H1 cA e1 z1 o1 hAr hNm => ?_
    have hcA : cA = G 0 := Option.some.inj (hNm.symm.trans (hK.1.2 0 _ rfl).2)
    subst hcA
    have kk := kW H1 locs X hL (hR.mk (n := x.toNatClampNeg) (x := .inl (0, x.toNatClampNeg, .inl (fun _ => 0))) e1 (by omega) (fun q hq => o1 q (by omega))) (js_Sm hS (by omega) (fun q hq => o1 q (by omega))) (Nat.le_succ_of_le hk) (Nat.le_trans hn (Nat.le_add_right _ _))
    have e2 : h.1 - k0 + 1 = (jx_mk h x.toNatClampNeg (.inl (0, x.toNatClampNeg, .inl (fun _ => 0)))).1 - k0 := by show _ = h.1 + 1 - k0; omega
    have e3 : h.2.1 - n0 + x.toNatClampNeg = (jx_mk h x.toNatClampNeg (.inl (0, x.toNatClampNeg, .inl (fun _ => 0)))).2.1 - n0 := by show _ = h.2.1 + x.toNatClampNeg - n0; omega
    have e4 : js_v b z (.ref h.1) = .ref (z + h.1) := by
      have := hR.2.1
      show Value.ref (js_a b z h.1) = _
      rw [js_a, if_neg (by omega)]
    rw [List.map_cons, e4] at kk
    rw [e2, e3]
    exact kk
theorem js_newj (hd : decode cc pc = .ok (.newarray .long, 2)) (hw : Cond.arrayClass .long ∈ js_T) : js_S own cc nL ini pc (jo_nj (pc + 2)) := by
  refine ⟨fun ls st h pc' ls' st' h' e1 => ?_, fun p l e R s m args below meth c' Q D G b z H0 k0 n0 S hK hini hf hlo ls st h pc' ls' st' h' e1 hcl hsl kW H locs X hL hR hS hk hn => ?_⟩ <;> unfold jo_nj at e1 <;> split at e1 <;> (try (cases e1; done)) <;> split at e1 <;> (try (cases e1; done))
  · cases e1
    exact ⟨Nat.le_succ _, Nat.le_add_right _ _⟩
  · next x rest hx =>
    cases e1
    have hcl' : h.1 + 1 - k0 ≤ R.cells := hcl
    have hsl' : h.2.1 + x.toNatClampNeg - n0 ≤ R.slots := hsl
    have hz : H.size = z + h.1 := hR.1
    have hlt : x.toNatClampNeg < 1000000 := (jx_inB_iff.mp hx).2
    refine va_newaK (atype := .long) S.1 S.2.1 (S.2.2.2.2 _ hw) rfl hd rfl (js_cnt hx) rfl (by show _ * 8 ≤ _; omega) (by omega) (by omega) hz fun H1 cA e1 z1 o1 hAr hNm => ?_
    have hcA : cA = G 1 := Option.some.inj (hNm.symm.trans (hK.1.2 1 _ rfl).2)
    subst hcA
    have kk := kW H1 locs X hL (hR.mk (n := x.toNatClampNeg) (x := .inl (1, x.toNatClampNeg, .inr (.inl (fun _ => 0)))) e1 (by omega) (fun q hq => o1 q (by omega))) (js_Sm hS (by omega) (fun q hq => o1 q (by omega))) (Nat.le_succ_of_le hk) (Nat.le_trans hn (Nat.le_add_right _ _))
    have e2 : h.1 - k0 + 1 = (jx_mk h x.toNatClampNeg (.inl (1, x.toNatClampNeg, .inr (.inl (fun _ => 0))))).1 - k0 := by show _ = h.1 + 1 - k0; omega
    have e3 : h.2.1 - n0 + x.toNatClampNeg = (jx_mk h x.toNatClampNeg (.inl (1, x.toNatClampNeg, .inr (.inl (fun _ => 0))))).2.1 - n0 := by show _ = h.2.1 + x.toNatClampNeg - n0; omega
    have e4 : js_v b z (.ref h.1) = .ref (z + h.1) := by
      have := hR.2.1
      show Value.ref (js_a b z h.1) = _
      rw [js_a, if_neg (by omega)]
    rw [List.map_cons, e4] at kk
    rw [e2, e3]
    exact kk
theorem js_newr {index t : Nat} {C : String} (ht : t = 2 ∧ C = RX10 ∨ t = 3 ∧ C = RX8) (hd : decode cc pc = .ok (.anewarray index, 3)) (hl : Cond.classLink own index C ∈ js_T) : js_S own cc nL ini pc (jo_nr (pc + 3) t) := by
  refine ⟨fun ls st h pc' ls' st' h' e1 => ?_, fun p l e R s m args below meth c' Q D G b z H0 k0 n0 S hK hini hf hlo ls st h pc' ls' st' h' e1 hcl hsl kW H locs X hL hR hS hk hn => ?_⟩ <;> unfold jo_nr at e1 <;> split at e1 <;> (try (cases e1; done)) <;> split at e1 <;> (try (cases e1; done))
  · cases e1
    exact ⟨Nat.le_succ _, Nat.le_add_right _ _⟩
  · next x rest hx =>
    cases e1
    have hcl' : h.1 + 1 - k0 ≤ R.cells := hcl
    have hsl' : h.2.1 + x.toNatClampNeg - n0 ≤ R.slots := hsl
    have hz : H.size = z + h.1 := hR.1
    have hlt : x.toNatClampNeg < 1000000 := (jx_inB_iff.mp hx).2
    have hover : va_AO C s := by
      rcases ht with ⟨-, rfl⟩ | ⟨-, rfl⟩
      · exact hK.2.2.2.1
      · exact hK.2.2.2.2.1
    refine W.anew S.1 S.2.1 S.2.2.2.1 (S.2.2.2.2 _ hl) (va_AO.use hover) rfl hd rfl (js_cnt hx) (by omega) (by omega) (by omega) fun cA kA comp f1 f2 f3 f4 => ?_
    have hcA : cA = G t := by
      rcases ht with ⟨rfl, rfl⟩ | ⟨rfl, rfl⟩
      · obtain ⟨_, _, -, -, -, k4⟩ := (hK.1.2 2 _ rfl).2
        exact Option.some.inj (f1.symm.trans k4)
      · obtain ⟨_, _, -, -, -, k4⟩ := (hK.1.2 3 _ rfl).2
        exact Option.some.inj (f1.symm.trans k4)
    subst hcA
    generalize hH1 : H.push ({ cls := G t, slots := Array.replicate x.toNatClampNeg .null, vm := .none } : Cell) = H1
    have z1 : H1.size = H.size + 1 := by rw [← hH1, Array.size_push]
    have e1 : H1[H.size]? = some (arrV (G t) x.toNatClampNeg (fun _ => .null)) := by rw [← hH1, Array.getElem?_push_size, ← arrV_new]
    have o1 : ∀ q : Nat, q < H.size → H1[q]? = H[q]? := fun q hq => by rw [← hH1, Array.getElem?_push, if_neg (Nat.ne_of_lt hq)]
    rw [hz] at e1
    have kk := kW H1 locs X hL (hR.mk (n := x.toNatClampNeg) (x := .inl (t, x.toNatClampNeg, .inr (.inr (.inr (.inr (fun _ => none)))))) e1 (by omega) (fun q hq => o1 q (by omega))) (js_Sm hS (by omega) (fun q hq => o1 q (by omega))) (Nat.le_succ_of_le hk) (Nat.le_trans hn (Nat.le_add_right _ _))
    have e2 : h.1 - k0 + 1 = (jx_mk h x.toNatClampNeg (.inl (t, x.toNatClampNeg, .inr (.inr (.inr (.inr (fun _ => none))))))).1 - k0 := by show _ = h.1 + 1 - k0; omega
    have e3 : h.2.1 - n0 + x.toNatClampNeg = (jx_mk h x.toNatClampNeg (.inl (t, x.toNatClampNeg, .inr (.inr (.inr (.inr (fun _ => none))))))).2.1 - n0 := by show _ = h.2.1 + x.toNatClampNeg - n0; omega
    have e4 : js_v b z (.ref h.1) = .ref H.size := by
      have := hR.2.1
      show Value.ref (js_a b z h.1) = _
      rw [js_a, if_neg (by omega), hz]
    rw [List.map_cons, e4] at kk
    rw [e2, e3]
    exact kk
theorem js_csum : ∀ (st : List Value), (st.map fun v => v.category).sum ≤ 2 * st.length
  | [] => Nat.le_refl _
  | v :: st => by
    have := js_csum st
    have hv : v.category ≤ 2 := by cases v <;> first | exact Nat.le_refl _ | exact Nat.le_succ _
    simp only [List.map_cons, List.sum_cons, List.length_cons]
    omega
theorem js_obji {index : Nat} (hd : decode cc pc = .ok (.invokespecial index, 3)) (hl : Cond.methodLink own index objectInit ∈ js_T) (hi : Cond.instanceMethod objectInit ∈ js_T) (hco : Cond.code objectInit ⟨#[0xb1]⟩ 1 none ∈ js_T) : js_S own cc nL ini pc (jo_oi (pc + 3)) := by
  refine ⟨fun ls st h pc' ls' st' h' e1 => ?_, fun p l e R s m args below meth c' Q D G b z H0 k0 n0 S hK hini hf hlo ls st h pc' ls' st' h' e1 hcl hsl kW H locs X hL hR hS hk hn => ?_⟩ <;> unfold jo_oi at e1 <;> split at e1 <;> (try (cases e1; done)) <;> split at e1 <;> (try (cases e1; done))
  · cases e1
    exact ⟨Nat.le_refl _, Nat.le_refl _⟩
  · next a rest hr =>
    cases e1
    have kk := kW H locs X hL hR hS hk hn
    have hts := S.2.2.2.2
    have hcs := js_csum (st'.map (js_v b z))
    rw [List.length_map] at hcs
    exact W.objInit (a := js_a b z a) (rest := st'.map (js_v b z)) S.1 S.2.1 S.2.2.2.1 (hts _ hl) (hts _ hi) (hts _ hco) rfl (by rw [S.2.2.1]; exact hL.1) rfl hd hf (by show 2 * 0 + _ + 12 ≤ _; omega) kk
theorem js_copy {index : Nat} (hd : decode cc pc = .ok (.invokestatic index, 3)) (hl : Cond.methodLink own index arraycopyName ∈ js_T) (hna : Cond.native arraycopyName ∈ js_T) (hst : Cond.static arraycopyName ∈ js_T) (hi0 : Cond.initialized "java/lang/System" ∈ js_T) : js_S own cc nL ini pc (jo_cp (pc + 3)) := by
  refine ⟨fun ls st h pc' ls' st' h' e1 => ?_, fun p l e R s m args below meth c' Q D G b z H0 k0 n0 S hK hini hf hlo ls st h pc' ls' st' h' e1 hcl hsl kW H locs X hL hR hS hk hn => ?_⟩ <;> unfold jo_cp at e1 <;> split at e1 <;> (try (cases e1; done)) <;> split at e1 <;> (try (cases e1; done)) <;> split at e1 <;> (try (cases e1; done)) <;> split at e1 <;> (try (cases e1; done))
  · cases e1
    exact ⟨Nat.le_refl _, Nat.le_refl _⟩
  · next n dp a1 sp a0 rest _ x hx _ y hy hcond =>
    cases e1
    obtain ⟨hr, h1, h2, h3, h4, h5⟩ := hcond
    obtain ⟨i1, i2, i3, i4⟩ := hR.in (jx_ai_inv hx) (fun _ _ q => by cases q) (fun _ _ q => by cases q)
    obtain ⟨j1, j2, j3, j4⟩ := hR.in (jx_ai_inv hy) (fun _ _ q => by cases q) (fun _ _ q => by cases q)
    have hts := S.2.2.2.2
    have hcs := js_csum (st'.map (js_v b z))
    rw [List.length_map] at hcs
    show W p l e R s m args below meth c' H locs _ _ Q (F0 m pc X (.int n :: .int dp :: .ref (js_a b z a1) :: .int sp :: .ref (js_a b z a0) :: st'.map (js_v b z)))
    rw [i4, j4]
    have nn : ∀ w : Int32, ¬ w < 0 → w.toInt = (w.toNatClampNeg : Int) := by
      intro w hw
      have hw0 : (0 : Int) ≤ w.toInt := by
        have := Int32.not_lt.mp hw
        simpa using Int32.le_iff_toInt_le.mp this
      show w.toInt = ((w.toInt.toNat : Nat) : Int)
      omega
    have hc0 : H[z + a0]? = some (vp_cell (G 0) (x.1, .inl x.2)) := i3
    have hc1 : H[z + a1]? = some (vp_cell (G 0) (y.1, .inl y.2)) := j3
    intro T hT XT
    obtain ⟨-, k9, hk9, cm9, hkk9⟩ := (hK.1.2 0 _ rfl).1 x.1 (fun j => .int (x.2 j))
    obtain ⟨vm', X', step⟩ := XT.arraycopy S.1 S.2.2.2.1 (hts _ hl) (hts _ hna) (hts _ hst) (hts _ hi0) (src := z + a0) (dst := z + a1) (cs := vp_cell (G 0) (x.1, .inl x.2)) (cd := vp_cell (G 0) (y.1, .inl y.2)) (srcPos := sp) (destPos := dp) (n := n) (by rw [hT]; exact hc0) (by rw [hT]; exact hc1)
      (fun _ h => by cases h) (fun _ h => by cases h) (fun h => by cases h) (fun h => by cases h) hk9 hk9 hkk9 hkk9 rfl h1 h2 h3
      (by rw [nn sp h1, nn n h3]; show ¬ _ > ((arrV (G 0) x.1 (fun j => .int (x.2 j))).slots.size : Int); rw [arrV_size]; omega)
      (by rw [nn dp h2, nn n h3]; show ¬ _ > ((arrV (G 0) y.1 (fun j => .int (y.2 j))).slots.size : Int); rw [arrV_size]; omega)
      (fun vm₁ _ i hi => by
        have e : (vp_cell (G 0) (x.1, .inl x.2)).slots.getD (sp.toNatClampNeg + i) .null = .int (x.2 (sp.toNatClampNeg + i)) := by
          show (arrV (G 0) x.1 (fun j => .int (x.2 j))).slots.getD _ _ = _
          rw [Array.getD_eq_getD_getElem?, arrV_read _ _ (by omega)]
          rfl
        refine ⟨?_, ?_⟩
        · rw [e]
          rfl
        · rw [e]
          exact trivial)
      (g := F0 m pc X (.int n :: .int dp :: .ref (z + a1) :: .int sp :: .ref (z + a0) :: st'.map (js_v b z))) rfl (by rw [S.2.2.1]; exact hL.1) (rest := st'.map (js_v b z)) rfl (by rw [S.2.1]; exact hd) hf (by show 2 * 0 + _ + (5 + 2 + 11) ≤ _; omega)
    have e9 : copied (vp_cell (G 0) (x.1, .inl x.2)) (vp_cell (G 0) (y.1, .inl y.2)) sp dp n = vp_cell (G 0) (y.1, .inl (va_cpy x.2 y.2 sp.toNatClampNeg dp.toNatClampNeg n.toNatClampNeg)) := va_copied (fun w => .int w) (G 0) (G 0) x.2 y.2 h4
    rw [e9] at X' step
    have hl9 : z + a1 < H.size := (Array.getElem?_eq_some_iff.mp hc1).1
    have hheap : ((T.setVm vm').setCell (z + a1) (vp_cell (G 0) (y.1, .inl (va_cpy x.2 y.2 sp.toNatClampNeg dp.toNatClampNeg n.toNatClampNeg)))).heap = H.setIfInBounds (z + a1) (vp_cell (G 0) (y.1, .inl (va_cpy x.2 y.2 sp.toNatClampNeg dp.toNatClampNeg n.toNatClampNeg))) := by rw [← hT]; rfl
    have oq : ∀ q : Nat, q ≠ z + a1 → (H.setIfInBounds (z + a1) (vp_cell (G 0) (y.1, .inl (va_cpy x.2 y.2 sp.toNatClampNeg dp.toNatClampNeg n.toNatClampNeg))))[q]? = H[q]? := fun q hq => by simp [Array.getElem?_setIfInBounds, Ne.symm hq]
    have hsz : (H.setIfInBounds (z + a1) (vp_cell (G 0) (y.1, .inl (va_cpy x.2 y.2 sp.toNatClampNeg dp.toNatClampNeg n.toNatClampNeg)))).size = H.size := by simp
    have hA1 : z < z + a1 := by omega
    obtain ⟨t, b1, b2⟩ := kW _ _ X hL (hR.put j1 j2 (x := .inl (0, y.1, .inl (va_cpy x.2 y.2 sp.toNatClampNeg dp.toNatClampNeg n.toNatClampNeg))) (show (H.setIfInBounds (z + a1) _)[z + a1]? = some _ by simp [Array.getElem?_setIfInBounds, hl9]) hsz oq) ⟨by rw [hsz]; exact hS.1, fun q g1 g2 => by
        rw [oq q (fun e => g2 (by rw [e]; exact hA1))]
        exact hS.2.1 q g1 g2, fun q hq => by
        rcases List.mem_append.mp hq with h | h
        · exact hS.2.2 q h
        · obtain ⟨w, -, hw⟩ := List.mem_map.mp h
          rw [← hw]
          exact hA1⟩ hk hn _ hheap X'
    exact ⟨t, step t b1, b2⟩
theorem js_clone {index : Nat} (hd : decode cc pc = .ok (.invokevirtual index, 3)) (hl : Cond.methodLink own index ⟨"[I", "clone", "()Ljava/lang/Object;"⟩ ∈ js_T) (hsa : Cond.sameMethod "[I" "java/lang/Object" "clone" "()Ljava/lang/Object;" ∈ js_T) (hna : Cond.native ⟨"java/lang/Object", "clone", "()Ljava/lang/Object;"⟩ ∈ js_T) (hi0 : Cond.instanceMethod ⟨"java/lang/Object", "clone", "()Ljava/lang/Object;"⟩ ∈ js_T) (hse : Cond.selects "[I" ⟨"[I", "clone", "()Ljava/lang/Object;"⟩ ⟨"java/lang/Object", "clone", "()Ljava/lang/Object;"⟩ ∈ js_T) : js_S own cc nL ini pc (jo_cn (pc + 3)) := by
  refine ⟨fun ls st h pc' ls' st' h' e1 => ?_, fun p l e R s m args below meth c' Q D G b z H0 k0 n0 S hK hini hf hlo ls st h pc' ls' st' h' e1 hcl hsl kW H locs X hL hR hS hk hn => ?_⟩ <;> unfold jo_cn at e1 <;> split at e1 <;> (try (cases e1; done)) <;> split at e1 <;> (try (cases e1; done)) <;> split at e1 <;> (try (cases e1; done))
  · cases e1
    exact ⟨Nat.le_succ _, Nat.le_add_right _ _⟩
  · next a rest _ x hx hr =>
    cases e1
    obtain ⟨i1, i2, i3, i4⟩ := hR.in (jx_ai_inv hx) (fun _ _ q => by cases q) (fun _ _ q => by cases q)
    have hts := S.2.2.2.2
    have hcl' : h.1 + 1 - k0 ≤ R.cells := hcl
    have hsl' : h.2.1 + x.1 - n0 ≤ R.slots := hsl
    have hz : H.size = z + h.1 := hR.1
    have hcs := js_csum (rest.map (js_v b z))
    rw [List.length_map] at hcs
    show W p l e R s m args below meth c' H locs _ _ Q (F0 m pc X (.ref (js_a b z a) :: rest.map (js_v b z)))
    rw [i4]
    have hnm : s.vm.findClass "[I" = some (G 0) := (hK.1.2 0 _ rfl).2
    obtain ⟨c0, t0', f1, f2, f3⟩ := Cond.castable_spec (va_Nw.use (A := args) rfl hK.2.2.1)
    cases hnm.symm.trans f1
    have hsz : (vp_cell (G 0) (x.1, .inl x.2)).slots.size = x.1 := arrV_size _ _ _
    intro T hT XT
    have hcellT : T.heap[z + a]? = some (vp_cell (G 0) (x.1, .inl x.2)) := by rw [hT]; exact i3
    obtain ⟨-, kA, hkA, comp, hkind⟩ := State.isArrayOf_alike XT.warmed.alike ((hK.1.2 0 _ rfl).1 0 (fun _ => .null))
    obtain ⟨-, kS, hkS, compS, hkindS⟩ := (hK.1.2 0 _ rfl).1 0 (fun _ => .null)
    obtain ⟨vm', X', st9⟩ := XT.cloneArray S.1 S.2.2.2.1 (hts _ hl) (hts _ hsa) (hts _ hna) (hts _ hi0) (hts _ hse) (a := z + a) (cell := vp_cell (G 0) (x.1, .inl x.2)) hcellT (fun k h => by cases h) (fun h => by cases h) hnm f2 f3
      (fun i v hv => by
        have hk' : T.vm.classes[G 0]? = some kA := hkA
        have hfit : fits .int v = true := va_fit (fun i _ => rfl) i v hv
        simpa [State.fitsSlot, State.slotType?, vp_cell, arrV, hk', hkind] using hfit)
      (g := F0 m pc X (.ref (z + a) :: rest.map (js_v b z))) rfl (by rw [S.2.2.1]; exact hL.1) rfl (by rw [S.2.1]; exact hd) hf (by show 2 * 0 + _ + 14 ≤ _; omega) (by omega) (by rw [hsz]; omega) (hloader := Vm.clonesLoader_of_array hkS hkindS)
    have hcellE : ({ cls := (vp_cell (G 0) (x.1, .inl x.2)).cls, slots := (vp_cell (G 0) (x.1, .inl x.2)).slots } : Cell) = vp_cell (G 0) (x.1, .inl x.2) := rfl
    rw [hcellE, hsz] at X'
    generalize hH1 : H.push (vp_cell (G 0) (x.1, .inl x.2)) = H1
    have z1 : H1.size = H.size + 1 := by rw [← hH1, Array.size_push]
    have e1 : H1[z + h.1]? = some (vp_cell (G 0) (x.1, .inl x.2)) := by rw [← hH1, ← hz, Array.getElem?_push_size]
    have o1 : ∀ q : Nat, q < H.size → H1[q]? = H[q]? := fun q hq => by rw [← hH1, Array.getElem?_push, if_neg (Nat.ne_of_lt hq)]
    have kk := kW H1 locs X hL (hR.mk (n := x.1) (x := .inl (0, x.1, .inl x.2)) e1 (by omega) (fun q hq => o1 q (by omega))) (js_Sm hS (by omega) (fun q hq => o1 q (by omega))) (Nat.le_succ_of_le hk) (Nat.le_trans hn (Nat.le_add_right _ _))
    have e2 : (jx_mk h x.1 (.inl (0, x.1, .inl x.2))).1 - k0 = h.1 - k0 + 1 := by show h.1 + 1 - k0 = _; omega
    have e3 : (jx_mk h x.1 (.inl (0, x.1, .inl x.2))).2.1 - n0 = h.2.1 - n0 + x.1 := by show h.2.1 + x.1 - n0 = _; omega
    have e4 : js_v b z (.ref h.1) = .ref H.size := by
      have := hR.2.1
      show Value.ref (js_a b z h.1) = _
      rw [js_a, if_neg (by omega), hz]
    rw [List.map_cons, e4, e2, e3] at kk
    obtain ⟨t, b1, b2⟩ := kk ((T.setVm vm').pushCell (vp_cell (G 0) (x.1, .inl x.2))) (by rw [← hH1, ← hT]; rfl) X'
    refine ⟨t, st9 t ?_, b2⟩
    rw [hcellE, hT]
    exact b1
end JSI
