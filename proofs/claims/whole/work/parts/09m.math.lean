/-! ===== Math.max, min, abs as steps ===== -/
def jo_m2 (n : Nat) (f : Int32 → Int32 → Int32) : jxO := fun ls st h => match st with
  | .int y :: .int x :: r => if r.length ≤ 4 then some (n, ls, .int (f x y) :: r, h) else none
  | _ => none
def jo_m1 (n : Nat) (f : Int32 → Int32) : jxO := fun ls st h => match st with
  | .int x :: r => if r.length ≤ 4 then some (n, ls, .int (f x) :: r, h) else none
  | _ => none
section JSM
variable {own : String} {cc : ByteArray} {nL pc : Nat} {ini : Bool}
theorem js_mmax {index : Nat} (hd : decode cc pc = .ok (.invokestatic index, 3)) (hl : Cond.methodLink own index Lib.Math.max.name ∈ js_T) (hs : Cond.static Lib.Math.max.name ∈ js_T) (hi : Cond.initialized "java/lang/Math" ∈ js_T) (hc : Cond.code Lib.Math.max.name Lib.Math.max.code 2 (some .int) ∈ js_T) : js_S own cc nL ini pc (jo_m2 (pc + 3) (fun x y => if x < y then y else x)) := by
  refine ⟨fun ls st h pc' ls' st' h' e1 => ?_, fun p l e R s m args below meth c' Q D G b z H0 k0 n0 S hK hini hf hlo ls st h pc' ls' st' h' e1 hcl hsl kW H locs X hL hR hS hk hn => ?_⟩ <;> unfold jo_m2 at e1 <;> split at e1 <;> (try (cases e1; done)) <;> split at e1 <;> (try (cases e1; done))
  · cases e1
    exact ⟨Nat.le_refl _, Nat.le_refl _⟩
  · next y x rest hr =>
    cases e1
    have kk := kW H locs X hL hR hS hk hn
    have hts := S.2.2.2.2
    have hcs := js_csum (rest.map (js_v b z))
    rw [List.length_map] at hcs
    exact va_mmax S.1 S.2.1 (S.2.2.1.trans hL.1.symm) S.2.2.2.1 (hts _ hl) (hts _ hs) (hts _ hi) (hts _ hc) hf (by omega) hcl hsl hd kk
theorem js_mmin {index : Nat} (hd : decode cc pc = .ok (.invokestatic index, 3)) (hl : Cond.methodLink own index Lib.Math.min.name ∈ js_T) (hs : Cond.static Lib.Math.min.name ∈ js_T) (hi : Cond.initialized "java/lang/Math" ∈ js_T) (hc : Cond.code Lib.Math.min.name Lib.Math.min.code 2 (some .int) ∈ js_T) : js_S own cc nL ini pc (jo_m2 (pc + 3) (fun x y => if y < x then y else x)) := by
  refine ⟨fun ls st h pc' ls' st' h' e1 => ?_, fun p l e R s m args below meth c' Q D G b z H0 k0 n0 S hK hini hf hlo ls st h pc' ls' st' h' e1 hcl hsl kW H locs X hL hR hS hk hn => ?_⟩ <;> unfold jo_m2 at e1 <;> split at e1 <;> (try (cases e1; done)) <;> split at e1 <;> (try (cases e1; done))
  · cases e1
    exact ⟨Nat.le_refl _, Nat.le_refl _⟩
  · next y x rest hr =>
    cases e1
    have kk := kW H locs X hL hR hS hk hn
    have hts := S.2.2.2.2
    have hcs := js_csum (rest.map (js_v b z))
    rw [List.length_map] at hcs
    exact va_mmin S.1 S.2.1 (S.2.2.1.trans hL.1.symm) S.2.2.2.1 (hts _ hl) (hts _ hs) (hts _ hi) (hts _ hc) hf (by omega) hcl hsl hd kk
theorem js_mabs {index : Nat} (hd : decode cc pc = .ok (.invokestatic index, 3)) (hl : Cond.methodLink own index Lib.Math.abs.name ∈ js_T) (hs : Cond.static Lib.Math.abs.name ∈ js_T) (hi : Cond.initialized "java/lang/Math" ∈ js_T) (hc : Cond.code Lib.Math.abs.name Lib.Math.abs.code 1 (some .int) ∈ js_T) : js_S own cc nL ini pc (jo_m1 (pc + 3) (fun x => if 0 ≤ x then x else 0 - x)) := by
  refine ⟨fun ls st h pc' ls' st' h' e1 => ?_, fun p l e R s m args below meth c' Q D G b z H0 k0 n0 S hK hini hf hlo ls st h pc' ls' st' h' e1 hcl hsl kW H locs X hL hR hS hk hn => ?_⟩ <;> unfold jo_m1 at e1 <;> split at e1 <;> (try (cases e1; done)) <;> split at e1 <;> (try (cases e1; done))
  · cases e1
    exact ⟨Nat.le_refl _, Nat.le_refl _⟩
  · next x rest hr =>
    cases e1
    have kk := kW H locs X hL hR hS hk hn
    have hts := S.2.2.2.2
    have hcs := js_csum (rest.map (js_v b z))
    rw [List.length_map] at hcs
    exact va_mabs S.1 S.2.1 (S.2.2.1.trans hL.1.symm) S.2.2.2.1 (hts _ hl) (hts _ hs) (hts _ hi) (hts _ hc) hf (by omega) hcl hsl hd kk
end JSM
section JGM
variable {P : jxM} {d M pc n : Nat} {ls st : List Value} {h : jxH} {Q : List Value → jxH → Prop} {x y : Int32}
theorem jg_m2 {f : Int32 → Int32 → Int32} (hc : (P M).2 pc = some (.inl (jo_m2 n f))) : jx_Go P d M pc ls (.int y :: .int x :: st) h Q ↔ (st.length ≤ 4 ∧ jx_Go P d M n ls (.int (f x y) :: st) h Q) := by
  by_cases hy : st.length ≤ 4
  · rw [jx_op (pc' := n) (ls' := ls) (st' := .int (f x y) :: st) (h' := h) hc (by simp only [jo_m2, if_pos hy])]; simp [hy]
  · rw [jx_opN hc (by simp only [jo_m2, if_neg hy])]; simp [hy]
theorem jg_m1 {f : Int32 → Int32} (hc : (P M).2 pc = some (.inl (jo_m1 n f))) : jx_Go P d M pc ls (.int x :: st) h Q ↔ (st.length ≤ 4 ∧ jx_Go P d M n ls (.int (f x) :: st) h Q) := by
  by_cases hy : st.length ≤ 4
  · rw [jx_op (pc' := n) (ls' := ls) (st' := .int (f x) :: st) (h' := h) hc (by simp only [jo_m1, if_pos hy])]; simp [hy]
  · rw [jx_opN hc (by simp only [jo_m1, if_neg hy])]; simp [hy]
end JGM
