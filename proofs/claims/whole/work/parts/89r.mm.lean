/-! ===== what the pure machine does, the machine does: an array of arrays ===== -/
theorem jm_outer (c : ClassId) (N h0 : Nat) : ∀ i : Nat, Jvm.Free.Multi.outerC c N h0 i = arrV c N (fun j => va_rf (if j < i then some (h0 + 1 + j) else none))
  | 0 => by
    show ({ cls := c, slots := Array.replicate N .null, vm := .none } : Cell) = _
    rw [arrV_new]
    refine congrArg (arrV c N) (funext fun j => ?_)
    simp [va_rf]
  | i + 1 => by
    show (Jvm.Free.Multi.outerC c N h0 i).setSlot i (.ref (h0 + 1 + i)) = _
    rw [jm_outer c N h0 i, arrV_store]
    refine congrArg (arrV c N) (funext fun j => ?_)
    by_cases e : j = i
    · subst e
      simp [updV, va_rf]
    · by_cases h : j < i
      · simp [updV, e, h, Nat.lt_succ_of_lt h]
      · simp [updV, e, h, show ¬ j < i + 1 by omega]
theorem js_mmt {own : String} {cc : ByteArray} {nL pc index : Nat} {ini : Bool} (hd : decode cc pc = .ok (.multianewarray index 2, 4)) (hl : Cond.classLink own index "[[I" ∈ js_T) (hw : Cond.arrayClass .int ∈ js_T) : js_S own cc nL ini pc (jo_mm (pc + 4)) := by
  refine ⟨fun ls st h pc' ls' st' h' e1 => ?_, fun p l e R s m args below meth c' Q D G b z H0 k0 n0 S hK hini hf hlo ls st h pc' ls' st' h' e1 hcl hsl kW H locs X hL hR hS hk hn => ?_⟩ <;> unfold jo_mm at e1 <;> split at e1 <;> (try (cases e1; done)) <;> split at e1 <;> (try (cases e1; done))
  · cases e1
    refine ⟨?_, ?_⟩
    · show h.1 ≤ h.1 + 1 + _
      omega
    · show h.2.1 ≤ h.2.1 + _ + _
      omega
  · next k x rest hx =>
    cases e1
    have lx : x.toNatClampNeg < 1000000 := (jx_inB_iff.mp hx.1).2
    have lk : k.toNatClampNeg < 1000000 := (jx_inB_iff.mp hx.2).2
    have nx : ¬ x < 0 := js_cnt hx.1
    have nk : ¬ k < 0 := js_cnt hx.2
    have hcl' : h.1 + 1 + x.toNatClampNeg - k0 ≤ R.cells := hcl
    have hsl' : h.2.1 + x.toNatClampNeg + x.toNatClampNeg * k.toNatClampNeg - n0 ≤ R.slots := hsl
    have hz : H.size = z + h.1 := hR.1
    have h1 : 1 ≤ h.1 := hR.2.1
    intro T hT Xs
    obtain ⟨vm₁, cA, comp, -, fA, fC, -, -, X', step⟩ := Xs.multianewarray2F (ty := .int) S.1 S.2.2.2.1 (S.2.2.2.2 _ hl) hK.2.2.2.2.2 (S.2.2.2.2 _ hw) (g := F0 m pc X (.int k :: .int x :: rest.map (js_v b z))) rfl (by rw [S.2.1]; exact hd) rfl nx nk (by omega) (by show _ * 4 ≤ _; omega) (by omega) rfl rfl (by omega) (by omega)
    have cA4 : cA = G 4 := Option.some.inj (fA.symm.trans (hK.1.2 4 _ rfl).2)
    have c0 : comp = G 0 := Option.some.inj (fC.symm.trans (hK.1.2 0 _ rfl).2)
    subst cA4
    subst c0
    generalize hF : Jvm.Free.Multi.fill (T.setVm vm₁) (G 4) (G 0) x.toNatClampNeg k.toNatClampNeg (defaultValue .int) x.toNatClampNeg = F at X' step
    have hTh : (T.setVm vm₁).heap = H := hT
    obtain ⟨f1, f2, -, -⟩ := Jvm.Free.Multi.fill_facts (T.setVm vm₁) (G 4) (G 0) x.toNatClampNeg k.toNatClampNeg (defaultValue .int) x.toNatClampNeg
    rw [hF, hTh] at f1 f2
    have hold : ∀ q : Nat, q < H.size → F.heap[q]? = H[q]? := fun q hq => by
      have := Jvm.Free.Multi.fill_old (T.setVm vm₁) (G 4) (G 0) x.toNatClampNeg k.toNatClampNeg (defaultValue .int) (a := q) (by rw [hTh]; exact hq) x.toNatClampNeg
      rw [hF, hTh] at this
      exact this
    have hrow : ∀ j : Nat, j < x.toNatClampNeg → F.heap[H.size + 1 + j]? = some (vp_cell (G 0) (k.toNatClampNeg, .inl (fun _ => 0))) := fun j hj => by
      have := Jvm.Free.Multi.fill_inner (T.setVm vm₁) (G 4) (G 0) x.toNatClampNeg k.toNatClampNeg (defaultValue .int) x.toNatClampNeg j hj
      rw [hF, hTh] at this
      rw [this, vp_cell_i, ← arrV_new]
      rfl
    rw [jm_outer] at f2
    have e4 : ∀ i, 1 ≤ i → js_a b z i = z + i := fun i hi => by rw [js_a, if_neg (by omega)]
    have R1 : js_R D G b z s (jx_mm h x.toNatClampNeg k.toNatClampNeg) F.heap := by
      obtain ⟨r1, r2, r3, r4, r5, L, xs, r6, r7⟩ := hR
      refine ⟨?_, ?_, r3, fun i i1 i2 => ?_, fun i hi => ?_, L, xs, ?_, ?_⟩
      · show F.heap.size = z + (h.1 + 1 + x.toNatClampNeg)
        omega
      · show 1 ≤ h.1 + 1 + x.toNatClampNeg
        omega
      · have i2 : i < h.1 + 1 + x.toNatClampNeg := i2
        unfold jx_mm
        dsimp only
        by_cases w1 : i < h.1
        · rw [if_pos w1]
          have := r4 i i1 w1
          exact this.kept (hold _ (by show z + i < H.size; omega))
        · rw [if_neg w1]
          by_cases w2 : i = h.1
          · rw [if_pos w2]
            subst w2
            show F.heap[z + h.1]? = some (vp_cell (G 4) (x.toNatClampNeg, .inr (.inr (.inr (.inr (fun j => (if j < x.toNatClampNeg then some (h.1 + 1 + j) else none).map (js_a b z)))))))
            rw [← hz, f2, vp_cell_q]
            congr 2
            funext j
            congr 1
            by_cases w : j < x.toNatClampNeg
            · rw [if_pos w, if_pos w, Option.map_some, e4 _ (by omega), hz]
              congr 1
              omega
            · rw [if_neg w, if_neg w]
              rfl
          · rw [if_neg w2, if_pos i2]
            show F.heap[z + i]? = some (vp_cell (G 0) (k.toNatClampNeg, .inl (fun _ => 0)))
            have := hrow (i - h.1 - 1) (by omega)
            rw [show H.size + 1 + (i - h.1 - 1) = z + i by omega] at this
            exact this
      · have hi : h.1 + 1 + x.toNatClampNeg ≤ i := hi
        unfold jx_mm
        dsimp only
        rw [if_neg (by omega), if_neg (by omega), if_neg (by omega)]
        exact r5 i (by omega)
      · unfold jx_mm
        dsimp only
        rw [if_pos (by omega)]
        exact r6
      · exact r7.kept (hold b (by omega))
    have kk := kW F.heap locs X hL R1 (js_Sm hS (by omega) (fun q hq => hold q (by omega))) (by show k0 ≤ h.1 + 1 + _; omega) (by show n0 ≤ h.2.1 + _ + _; omega)
    have e2 : h.1 - k0 + 1 + x.toNatClampNeg = (jx_mm h x.toNatClampNeg k.toNatClampNeg).1 - k0 := by show _ = h.1 + 1 + x.toNatClampNeg - k0; omega
    have e3 : h.2.1 - n0 + x.toNatClampNeg + x.toNatClampNeg * k.toNatClampNeg = (jx_mm h x.toNatClampNeg k.toNatClampNeg).2.1 - n0 := by show _ = h.2.1 + x.toNatClampNeg + x.toNatClampNeg * k.toNatClampNeg - n0; omega
    rw [← e2, ← e3, List.map_cons, show js_v b z (.ref h.1) = .ref (z + h.1) from congrArg Value.ref (e4 _ h1)] at kk
    obtain ⟨t, a1, b1⟩ := kk F rfl X'
    refine ⟨t, step t ?_, b1⟩
    have ez : T.heap.size = z + h.1 := by rw [hT]; exact hz
    rw [ez]
    exact a1
