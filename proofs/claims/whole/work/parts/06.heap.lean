/-! ===== what the pure machine does, the machine does: steps at the heap ===== -/
section JSR
variable {D : va_G} {G : Nat → ClassId} {b z : Nat} {s : State} {h : jxH} {H H1 : Heap} {a : Nat}
theorem js_R.in (hR : js_R D G b z s h H) {x : jxC} (hx : h.2.2 a = x) (h9 : ∀ L f, x ≠ .inl (9, L, f)) (h7 : ∀ L f, x ≠ .inl (77, L, f)) : 1 ≤ a ∧ a < h.1 ∧ va_at D vwCl (z + a, js_e G b z x) H ∧ js_a b z a = z + a := by
  obtain ⟨r1, r2, r3, r4, r5, L, xs, r6, r7⟩ := hR
  have ha0 : a ≠ 0 := by
    intro e
    subst e
    exact h9 L (.inl xs) (by rw [← hx, r6])
  have hlt : a < h.1 := Nat.not_le.mp fun q => h7 0 (.inl (fun _ => 0)) (by rw [← hx, r5 a q]; rfl)
  refine ⟨by omega, hlt, ?_, by rw [js_a, if_neg ha0]⟩
  rw [← hx]
  exact r4 a (by omega) hlt
theorem js_R.put (hR : js_R D G b z s h H) (h1 : 1 ≤ a) (h2 : a < h.1) {x : jxC} (hx : va_at D vwCl (z + a, js_e G b z x) H1) (e2 : H1.size = H.size) (e3 : ∀ q : Nat, q ≠ z + a → H1[q]? = H[q]?) : js_R D G b z s (jx_w h a x) H1 := by
  obtain ⟨r1, r2, r3, r4, r5, L, xs, r6, r7⟩ := hR
  refine ⟨e2.trans r1, r2, r3, fun i i1 i2 => ?_, fun i hi => ?_, L, xs, ?_, r7.kept (e3 b (by omega))⟩
  · by_cases hi : i = a
    · subst hi
      show va_at D vwCl (z + i, js_e G b z (if i = i then x else h.2.2 i)) H1
      rw [if_pos rfl]
      exact hx
    · show va_at D vwCl (z + i, js_e G b z (if i = a then x else h.2.2 i)) H1
      rw [if_neg hi]
      exact (r4 i i1 i2).kept (e3 _ (by omega))
  · show (if i = a then x else h.2.2 i) = jx_no
    have hi' : h.1 ≤ i := hi
    rw [if_neg (by omega)]
    exact r5 i hi'
  · show (if 0 = a then x else h.2.2 0) = _
    rw [if_neg (by omega)]
    exact r6
theorem js_R.mk (hR : js_R D G b z s h H) {n : Nat} {x : jxC} (hx : va_at D vwCl (z + h.1, js_e G b z x) H1) (e2 : H1.size = H.size + 1) (e3 : ∀ q : Nat, q < H.size → H1[q]? = H[q]?) : js_R D G b z s (jx_mk h n x) H1 := by
  obtain ⟨r1, r2, r3, r4, r5, L, xs, r6, r7⟩ := hR
  refine ⟨by rw [e2, r1]; rfl, Nat.le_succ_of_le r2, r3, fun i i1 i2 => ?_, fun i hi => ?_, L, xs, ?_, r7.kept (e3 b (by omega))⟩
  · have i2' : i < h.1 + 1 := i2
    by_cases hi : i = h.1
    · subst hi
      show va_at D vwCl (z + h.1, js_e G b z (if h.1 = h.1 then x else h.2.2 h.1)) H1
      rw [if_pos rfl]
      exact hx
    · show va_at D vwCl (z + i, js_e G b z (if i = h.1 then x else h.2.2 i)) H1
      rw [if_neg hi]
      exact (r4 i i1 (by omega)).kept (e3 _ (by show z + i < H.size; omega))
  · have hi' : h.1 + 1 ≤ i := hi
    show (if i = h.1 then x else h.2.2 i) = jx_no
    rw [if_neg (by omega)]
    exact r5 i (by omega)
  · show (if 0 = h.1 then x else h.2.2 0) = _
    rw [if_neg (by omega)]
    exact r6
theorem js_Sm {H0 : Heap} {locs : List Loc} (hS : va_S (fun q => z < q) H0 H locs) (e2 : H.size ≤ H1.size) (e3 : ∀ q : Nat, q < H.size → H1[q]? = H[q]?) : va_S (fun q => z < q) H0 H1 locs :=
  ⟨Nat.le_trans hS.1 e2, fun q h1 h2 => (e3 q (Nat.lt_of_lt_of_le h1 hS.1)).trans (hS.2.1 q h1 h2), hS.2.2⟩
theorem js_P1 {q : Nat × va_E} (hx : va_at D vwCl q H) : va_P D vwCl [q] H := fun k x hk => by
  have hz : k < 1 := (List.getElem?_eq_some_iff.mp hk).1
  rw [show k = 0 by omega] at hk
  cases hk
  exact hx
theorem jx_fl_inv {c k : Nat} {v : Value} (e : jx_fl h a c k = some v) : ∃ fs, h.2.2 a = .inr (c, fs) ∧ fs[k]? = some v := by
  unfold jx_fl at e
  split at e
  · next c' fs hx =>
    split at e
    · next hc => subst hc; exact ⟨fs, hx, e⟩
    · cases e
  · cases e
theorem jx_cl_inv {c : Nat} (e : jx_cl h a = some c) : ∃ fs, h.2.2 a = .inr (c, fs) := by
  unfold jx_cl at e
  split at e
  · next c' fs hx => cases e; exact ⟨fs, hx⟩
  · cases e
theorem jx_ai_inv {x : Nat × (Nat → Int32)} (e : jx_ai h a = some x) : h.2.2 a = .inl (0, x.1, .inl x.2) := by
  unfold jx_ai at e
  split at e
  · next n f hx => cases e; exact hx
  · cases e
theorem jx_sc_inv {x : Nat × (Nat → Int32)} (e : jx_sc h a = some x) : h.2.2 a = .inl (9, x.1, .inl x.2) := by
  unfold jx_sc at e
  split at e
  · next n f hx => cases e; exact hx
  · cases e
theorem jx_al_inv {x : Nat × (Nat → Int64)} (e : jx_al h a = some x) : h.2.2 a = .inl (1, x.1, .inr (.inl x.2)) := by
  unfold jx_al at e
  split at e
  · next n f hx => cases e; exact hx
  · cases e
theorem jx_ar_inv {t : Nat} {x : Nat × (Nat → Option Nat)} (e : jx_ar h a t = some x) : h.2.2 a = .inl (t, x.1, .inr (.inr (.inr (.inr x.2)))) := by
  unfold jx_ar at e
  split at e
  · next t' n f hx =>
    split at e
    · next ht => subst ht; cases e; exact hx
    · cases e
  · cases e
theorem js_in {i : Int32} {n : Nat} (e : jx_inB i n = true) : vp_in i n := by
  obtain ⟨h1, h2⟩ := jx_inB_iff.mp e
  rintro (q | q)
  · exact h1 q
  · omega
end JSR
section JSH
variable {own : String} {cc : ByteArray} {nL pc : Nat} {ini : Bool}
theorem js_getf {index c k : Nat} {C : String} {T : u_T} {N : Nat} (hd : decode cc pc = .ok (.getfield index, 3)) (hc : vwCl[c]? = some (C, T, N)) (hin : ∀ w ∈ u_ws C T N, w ∈ js_T) (hkN : k < N) (hl : Cond.fieldLink own index (T k).1 (T k).2.1 (T k).2.2.1 ∈ js_T) : js_S own cc nL ini pc (jo_gf (pc + 3) c k) := by
  refine ⟨fun ls st h pc' ls' st' h' e1 => ?_, fun p l e R s m args below meth c' Q D G b z H0 k0 n0 S hK hini hf hlo ls st h pc' ls' st' h' e1 hcl hsl kW H locs X hL hR hS hk hn => ?_⟩
  · unfold jo_gf at e1
    split at e1
    · obtain ⟨v, hv, e⟩ := Option.map_eq_some_iff.mp e1
      cases e
      exact ⟨Nat.le_refl _, Nat.le_refl _⟩
    · cases e1
  · unfold jo_gf at e1
    split at e1
    · next a rest =>
      obtain ⟨v, hv, e⟩ := Option.map_eq_some_iff.mp e1
      cases e
      obtain ⟨fs, hx, hfs⟩ := jx_fl_inv hv
      obtain ⟨i1, i2, i3, i4⟩ := hR.in hx (fun _ _ q => by cases q) (fun _ _ q => by cases q)
      have kk := kW H locs X hL hR hS hk hn
      show W p l e R s m args below meth c' H locs _ _ Q (F0 m pc X (.ref (js_a b z a) :: rest.map (js_v b z)))
      rw [i4]
      exact va_get (D := D) (ws := [(z + a, .inr (c, fs.map (js_v b z)))]) S.1 S.2.1 S.2.2.2.2 hin S.2.2.2.1 hK.1 (js_P1 i3) 0 rfl hc k hkN (S.2.2.2.2 _ hl) (fun _ q => q) (v := js_v b z v) (by rw [List.getElem?_map, hfs]; rfl) hd kk
    · cases e1
/-- what may be put into a field -/
def js_fitT (t : Nat) (ty : FieldType) : Prop := ∀ (v : Value), jx_fit t v = true → ∀ b z : Nat, narrow ty (js_v b z v) = js_v b z v ∧ fits ty (js_v b z v) = true
theorem js_fit0 : js_fitT 0 .int := fun v h b z => by
  cases v <;> first | exact ⟨rfl, rfl⟩ | (simp [jx_fit] at h)
theorem js_fit1 : js_fitT 1 .boolean := fun v h b z => by
  cases v with
  | int x =>
    simp only [jx_fit, Bool.or_eq_true, beq_iff_eq] at h
    rcases h with rfl | rfl <;> exact ⟨rfl, rfl⟩
  | _ => simp [jx_fit] at h
theorem js_fit2o {C : String} : js_fitT 2 (.object C) := fun v h b z => by
  cases v <;> first | exact ⟨rfl, rfl⟩ | (simp [jx_fit] at h)
theorem js_fit2a {t : FieldType} : js_fitT 2 (.array t) := fun v h b z => by
  cases v <;> first | exact ⟨rfl, rfl⟩ | (simp [jx_fit] at h)
theorem js_putf {index c k t : Nat} {C : String} {T : u_T} {N : Nat} {ty : FieldType} {ty0 : Nat → FieldType} (hd : decode cc pc = .ok (.putfield index, 3)) (hc : vwCl[c]? = some (C, T, N)) (hin : ∀ w ∈ u_ws C T N, w ∈ js_T) (hty : ∀ k, k < N → parseFieldDescriptor (T k).2.2.1 = some (ty0 k)) (hnm : ∀ a, a < N → ∀ b, b < N → a ≠ b → (T a).2.1 ≠ (T b).2.1) (hkN : k < N) (hl : Cond.fieldLink own index (T k).1 (T k).2.1 (T k).2.2.1 ∈ js_T)
    (hfin : (T k).2.2.2 = false ∨ ((T k).2.2.2 = true ∧ ini = true ∧ (T k).1 = own)) (hdt : parseFieldDescriptor (T k).2.2.1 = some ty) (hfit : js_fitT t ty) : js_S own cc nL ini pc (jo_pf (pc + 3) c k t) := by
  refine ⟨fun ls st h pc' ls' st' h' e1 => ?_, fun p l e R s m args below meth c' Q D G b z H0 k0 n0 S hK hini hf hlo ls st h pc' ls' st' h' e1 hcl hsl kW H locs X hL hR hS hk hn => ?_⟩
  · unfold jo_pf at e1
    split at e1
    · split at e1
      · obtain ⟨v, hv, e⟩ := Option.map_eq_some_iff.mp e1
        cases e
        exact ⟨Nat.le_refl _, Nat.le_refl _⟩
      · cases e1
    · cases e1
  · unfold jo_pf at e1
    split at e1
    · next v a rest =>
      split at e1
      · next hv0 =>
        obtain ⟨v', hv, e⟩ := Option.map_eq_some_iff.mp e1
        cases e
        obtain ⟨fs, hx, hfs⟩ := jx_fl_inv hv
        obtain ⟨i1, i2, i3, i4⟩ := hR.in hx (fun _ _ q => by cases q) (fun _ _ q => by cases q)
        have hkl : k < fs.length := (List.getElem?_eq_some_iff.mp hfs).1
        obtain ⟨hn1, hn2⟩ := hfit v hv0 b z
        show W p l e R s m args below meth c' H locs _ _ Q (F0 m pc X (js_v b z v :: .ref (js_a b z a) :: st'.map (js_v b z)))
        rw [i4]
        have hts := S.2.2.2.2
        have hap := va_apart (own := own) hts hin ty0 hty hnm hK.1 hc
        obtain ⟨r, h1, cell, q1, q2, q3, q4⟩ := i3
        have hr : r = (C, T, N) := Option.some.inj (h1.symm.trans hc)
        subst hr
        obtain ⟨hSl, hfc, kC, hkC, hkind⟩ := hK.1.1 c _ hc
        obtain ⟨cf, kf, fi, f, hi, hsl'⟩ := hSl k hkN
        have hlay := hts _ (hin _ (u_in_lay hkN))
        have hst := (u_facts hfc hkC (u_lays hts hin hkN) hi).1
        have fin : ∀ (H' : Heap), H'[z + a]? = some (cell.setSlot (D.2 c k) (js_v b z v)) → H'.size = H.size → (∀ q, q ≠ z + a → H'[q]? = H[q]?) → W p l e R s m args below meth c' H' (locs ++ [⟨z + a, D.2 c k⟩]) (h.1 - k0) (h.2.1 - n0) Q (F0 m (pc + 3) X (st'.map (js_v b z))) := by
          intro H' e1 e2 e3
          have hat : va_at D vwCl (z + a, js_e G b z (.inr (c, fs.set k v))) H' := by
            refine ⟨_, hc, ?_⟩
            show t_OB (z + a) (D.1 c) N (D.2 c) H' (vp_V ((fs.set k v).map (js_v b z)))
            rw [List.map_set]
            exact t_OB.to (V := updV (vp_V (fs.map (js_v b z))) k (js_v b z v)) ⟨_, e1, q2, q3, t_set q4 hap hkN _⟩ (fun j _ => vp_updV_set (by rw [List.length_map]; exact hkl) _ j)
          have hR' := hR.put i1 i2 hat e2 e3
          have e4 : jx_uf h a k v = jx_w h a (.inr (c, fs.set k v)) := by rw [jx_uf, hx]
          rw [← e4] at hR'
          exact kW H' _ X hL hR' (hS.put e2 e3 (by show z < z + a; omega)) hk hn
        unfold u_lay at hlay
        rcases hfin with hfin | ⟨hfin, hini', hdecl⟩
        · rw [if_neg (by rw [hfin]; decide)] at hlay
          have h6 := u_store hfc hkC hkind hlay hi hdt hn1 hn2
          refine W.putK S.1 S.2.1 (f := f) ⟨S.2.2.2.1, hts _ hl, ⟨_, _, _, hi⟩, hst⟩ (by rw [q2]; exact h6) q1 q3 (by rw [hsl']; exact k2_hasslot (q4 k hkN)) rfl rfl hd fun H' e1 e2 e3 => ?_
          rw [hsl'] at e1 ⊢
          exact fin H' e1 e2 e3
        · rw [if_pos hfin] at hlay
          have hcf : m.cls = cf := by
            obtain ⟨_, _, c9, _, _, _, -, -, hf9, -, -, -, hown2, -⟩ := Cond.laysFinal_spec hlay
            have e9 : c9 = cf := by have := hi.symm.trans hf9; simp at this; exact this.1.symm
            rw [hdecl] at hown2
            rw [← e9]; exact Option.some.inj (S.2.2.2.1.symm.trans hown2)
          have h6 := u_fits hfc hkC hkind (Or.inr hlay) hi hdt hn1 hn2
          refine W.putFinK S.1 S.2.1 S.2.2.2.1 (hts _ hl) hi hst hcf (hini hini') (by rw [q2]; exact h6) q1 q3 (by rw [hsl']; exact k2_hasslot (q4 k hkN)) rfl rfl hd fun H' e1 e2 e3 => ?_
          rw [hsl'] at e1 ⊢
          exact fin H' e1 e2 e3
      · cases e1
    · cases e1
theorem js_iald (hd : decode cc pc = .ok (.iaload, 1)) : js_S own cc nL ini pc (jo_ia (pc + 1)) := by
  refine ⟨fun ls st h pc' ls' st' h' e1 => ?_, fun p l e R s m args below meth c' Q D G b z H0 k0 n0 S hK hini hf hlo ls st h pc' ls' st' h' e1 hcl hsl kW H locs X hL hR hS hk hn => ?_⟩ <;> unfold jo_ia at e1 <;> split at e1 <;> (try (cases e1; done)) <;> split at e1 <;> (try (cases e1; done)) <;> split at e1 <;> (try (cases e1; done))
  · cases e1
    exact ⟨Nat.le_refl _, Nat.le_refl _⟩
  · next i a rest _ x hx hi =>
    cases e1
    obtain ⟨i1, i2, i3, i4⟩ := hR.in (jx_ai_inv hx) (fun _ _ q => by cases q) (fun _ _ q => by cases q)
    have kk := kW H locs X hL hR hS hk hn
    show W p l e R s m args below meth c' H locs _ _ Q (F0 m pc X (.int i :: .ref (js_a b z a) :: rest.map (js_v b z)))
    rw [i4]
    exact va_iald (D := D) (ws := [(z + a, .inl (G 0, x.1, .inl x.2))]) S.1 S.2.1 hK.1 (js_P1 i3) 0 0 rfl rfl (js_in hi) hd kk
theorem js_lald (hd : decode cc pc = .ok (.laload, 1)) : js_S own cc nL ini pc (jo_la (pc + 1)) := by
  refine ⟨fun ls st h pc' ls' st' h' e1 => ?_, fun p l e R s m args below meth c' Q D G b z H0 k0 n0 S hK hini hf hlo ls st h pc' ls' st' h' e1 hcl hsl kW H locs X hL hR hS hk hn => ?_⟩ <;> unfold jo_la at e1 <;> split at e1 <;> (try (cases e1; done)) <;> split at e1 <;> (try (cases e1; done)) <;> split at e1 <;> (try (cases e1; done))
  · cases e1
    exact ⟨Nat.le_refl _, Nat.le_refl _⟩
  · next i a rest _ x hx hi =>
    cases e1
    obtain ⟨i1, i2, i3, i4⟩ := hR.in (jx_al_inv hx) (fun _ _ q => by cases q) (fun _ _ q => by cases q)
    have kk := kW H locs X hL hR hS hk hn
    show W p l e R s m args below meth c' H locs _ _ Q (F0 m pc X (.int i :: .ref (js_a b z a) :: rest.map (js_v b z)))
    rw [i4]
    exact va_lald (D := D) (ws := [(z + a, .inl (G 1, x.1, .inr (.inl x.2)))]) S.1 S.2.1 hK.1 (js_P1 i3) 0 1 rfl rfl (js_in hi) hd kk
theorem js_rvv {b z : Nat} (r : Option Nat) : va_rf (r.map (js_a b z)) = js_v b z (jx_rv r) := by
  cases r <;> rfl
theorem js_aald2 {t : Nat} {C : String} (ht : t = 2 ∧ C = RX10 ∨ t = 3 ∧ C = RX8) (hd : decode cc pc = .ok (.aaload, 1)) : js_S own cc nL ini pc (jo_ra (pc + 1) t) := by
  refine ⟨fun ls st h pc' ls' st' h' e1 => ?_, fun p l e R s m args below meth c' Q D G b z H0 k0 n0 S hK hini hf hlo ls st h pc' ls' st' h' e1 hcl hsl kW H locs X hL hR hS hk hn => ?_⟩ <;> unfold jo_ra at e1 <;> split at e1 <;> (try (cases e1; done)) <;> split at e1 <;> (try (cases e1; done)) <;> split at e1 <;> (try (cases e1; done))
  · cases e1
    exact ⟨Nat.le_refl _, Nat.le_refl _⟩
  · next i a rest _ x hx hi =>
    cases e1
    obtain ⟨i1, i2, i3, i4⟩ := hR.in (jx_ar_inv hx) (fun _ _ q => by rcases ht with ⟨rfl, -⟩ | ⟨rfl, -⟩ <;> cases q) (fun _ _ q => by rcases ht with ⟨rfl, -⟩ | ⟨rfl, -⟩ <;> cases q)
    have kk := kW H locs X hL hR hS hk hn
    rw [List.map_cons, ← js_rvv] at kk
    show W p l e R s m args below meth c' H locs _ _ Q (F0 m pc X (.int i :: .ref (js_a b z a) :: rest.map (js_v b z)))
    rw [i4]
    rcases ht with ⟨rfl, rfl⟩ | ⟨rfl, rfl⟩
    · exact va_aldq (D := D) (ws := [(z + a, .inl (G 2, x.1, .inr (.inr (.inr (.inr (fun j => (x.2 j).map (js_a b z)))))))]) S.1 S.2.1 hK.1 (js_P1 i3) 0 2 rfl rfl (js_in hi) hd kk
    · exact va_aldq (D := D) (ws := [(z + a, .inl (G 3, x.1, .inr (.inr (.inr (.inr (fun j => (x.2 j).map (js_a b z)))))))]) S.1 S.2.1 hK.1 (js_P1 i3) 0 3 rfl rfl (js_in hi) hd kk
theorem js_aald4 (hd : decode cc pc = .ok (.aaload, 1)) : js_S own cc nL ini pc (jo_ra (pc + 1) 4) := by
  refine ⟨fun ls st h pc' ls' st' h' e1 => ?_, fun p l e R s m args below meth c' Q D G b z H0 k0 n0 S hK hini hf hlo ls st h pc' ls' st' h' e1 hcl hsl kW H locs X hL hR hS hk hn => ?_⟩ <;> unfold jo_ra at e1 <;> split at e1 <;> (try (cases e1; done)) <;> split at e1 <;> (try (cases e1; done)) <;> split at e1 <;> (try (cases e1; done))
  · cases e1
    exact ⟨Nat.le_refl _, Nat.le_refl _⟩
  · next i a rest _ x hx hi =>
    cases e1
    obtain ⟨i1, i2, i3, i4⟩ := hR.in (jx_ar_inv hx) (fun _ _ q => by cases q) (fun _ _ q => by cases q)
    have kk := kW H locs X hL hR hS hk hn
    rw [List.map_cons, ← js_rvv] at kk
    show W p l e R s m args below meth c' H locs _ _ Q (F0 m pc X (.int i :: .ref (js_a b z a) :: rest.map (js_v b z)))
    rw [i4]
    have hlt : i.toNatClampNeg < x.1 := (jx_inB_iff.mp hi).2
    exact W.aald (v := va_rf ((x.2 i.toNatClampNeg).map (js_a b z))) (ty := .array .int) S.1 S.2.1 i3 ((hK.1.2 4 _ rfl).1 x.1 (fun j => va_rf ((x.2 j).map (js_a b z)))) rfl (fun q => by cases q) (by show ¬ (i < 0 ∨ (arrV _ _ _).slots.size ≤ _); rw [arrV_size]; exact js_in hi) (by show (arrV _ _ _).slots[_]? = _; rw [arrV_read _ _ hlt]) rfl rfl hd kk
theorem js_sald (hd : decode cc pc = .ok (.iaload, 1)) : js_S own cc nL ini pc (jo_sa (pc + 1)) := by
  refine ⟨fun ls st h pc' ls' st' h' e1 => ?_, fun p l e R s m args below meth c' Q D G b z H0 k0 n0 S hK hini hf hlo ls st h pc' ls' st' h' e1 hcl hsl kW H locs X hL hR hS hk hn => ?_⟩ <;> unfold jo_sa at e1 <;> split at e1 <;> (try (cases e1; done)) <;> split at e1 <;> (try (cases e1; done)) <;> split at e1 <;> (try (cases e1; done))
  · cases e1
    exact ⟨Nat.le_refl _, Nat.le_refl _⟩
  · next i rest _ x hx hi =>
    cases e1
    have kk := kW H locs X hL hR hS hk hn
    obtain ⟨r1, r2, r3, r4, r5, L, xs, r6, r7⟩ := hR
    have e9 := (jx_sc_inv hx).symm.trans r6
    obtain ⟨x1, x2⟩ := x
    cases e9
    show W p l e R s m args below meth c' H locs _ _ Q (F0 m pc X (.int i :: .ref b :: rest.map (js_v b z)))
    obtain ⟨scr, g1, g2, g3, g4, g5⟩ := r7
    exact W.iald (v := .int (x2 i.toNatClampNeg)) S.1 S.2.1 g1 g2 g3 (by rw [g4]; exact js_in hi) (g5 _ (jx_inB_iff.mp hi).2) rfl rfl hd kk
theorem js_slen (hd : decode cc pc = .ok (.arraylength, 1)) : js_S own cc nL ini pc (jo_sl (pc + 1)) := by
  refine ⟨fun ls st h pc' ls' st' h' e1 => ?_, fun p l e R s m args below meth c' Q D G b z H0 k0 n0 S hK hini hf hlo ls st h pc' ls' st' h' e1 hcl hsl kW H locs X hL hR hS hk hn => ?_⟩ <;> unfold jo_sl at e1 <;> split at e1 <;> (try (cases e1; done)) <;> obtain ⟨x, hx, ex⟩ := Option.map_eq_some_iff.mp e1 <;> cases ex
  · exact ⟨Nat.le_refl _, Nat.le_refl _⟩
  · next rest =>
    have kk := kW H locs X hL hR hS hk hn
    obtain ⟨r1, r2, r3, r4, r5, L, xs, r6, r7⟩ := hR
    have e9 := (jx_sc_inv hx).symm.trans r6
    obtain ⟨x1, x2⟩ := x
    cases e9
    show W p l e R s m args below meth c' H locs _ _ Q (F0 m pc X (.ref b :: rest.map (js_v b z)))
    obtain ⟨scr, g1, g2, g3, g4, g5⟩ := r7
    exact W.alen (n := nI x1) S.1 S.2.1 g1 g2 (by rw [g4] <;> rfl) rfl rfl hd kk
theorem js_alen (hd : decode cc pc = .ok (.arraylength, 1)) : js_S own cc nL ini pc (jo_len (pc + 1)) := by
  refine ⟨fun ls st h pc' ls' st' h' e1 => ?_, fun p l e R s m args below meth c' Q D G b z H0 k0 n0 S hK hini hf hlo ls st h pc' ls' st' h' e1 hcl hsl kW H locs X hL hR hS hk hn => ?_⟩ <;> unfold jo_len at e1 <;> split at e1 <;> (try (cases e1; done)) <;> obtain ⟨x, hx, ex⟩ := Option.map_eq_some_iff.mp e1 <;> cases ex
  · exact ⟨Nat.le_refl _, Nat.le_refl _⟩
  · next a rest =>
    obtain ⟨i1, i2, i3, i4⟩ := hR.in (jx_ai_inv hx) (fun _ _ q => by cases q) (fun _ _ q => by cases q)
    have kk := kW H locs X hL hR hS hk hn
    show W p l e R s m args below meth c' H locs _ _ Q (F0 m pc X (.ref (js_a b z a) :: rest.map (js_v b z)))
    rw [i4]
    exact va_alen (D := D) (ws := [(z + a, .inl (G 0, x.1, .inl x.2))]) S.1 S.2.1 hK.1 (js_P1 i3) 0 0 rfl rfl (v := nI x.1) rfl hd kk
theorem js_cast {index : Nat} (hd : decode cc pc = .ok (.checkcast index, 3)) (hl : Cond.classLink own index "[I" ∈ js_T) : js_S own cc nL ini pc (jo_ct (pc + 3)) := by
  refine ⟨fun ls st h pc' ls' st' h' e1 => ?_, fun p l e R s m args below meth c' Q D G b z H0 k0 n0 S hK hini hf hlo ls st h pc' ls' st' h' e1 hcl hsl kW H locs X hL hR hS hk hn => ?_⟩ <;> unfold jo_ct at e1 <;> split at e1 <;> (try (cases e1; done)) <;> obtain ⟨x, hx, ex⟩ := Option.map_eq_some_iff.mp e1 <;> cases ex
  · exact ⟨Nat.le_refl _, Nat.le_refl _⟩
  · next a rest =>
    obtain ⟨i1, i2, i3, i4⟩ := hR.in (jx_ai_inv hx) (fun _ _ q => by cases q) (fun _ _ q => by cases q)
    have kk := kW H locs X hL hR hS hk hn
    rw [List.map_cons, show js_v b z (.ref a) = .ref (js_a b z a) from rfl, i4] at kk
    show W p l e R s m args below meth c' H locs _ _ Q (F0 m pc X (.ref (js_a b z a) :: rest.map (js_v b z)))
    rw [i4]
    exact va_castA (D := D) (ws := [(z + a, .inl (G 0, x.1, .inl x.2))]) S.1 S.2.1 S.2.2.2.1 (S.2.2.2.2 _ hl) (js_P1 i3) 0 rfl ((hK.1.2 0 _ rfl).2) hd kk
end JSH
