/-! ===== what the pure machine does, the machine does: the words ===== -/
def js_a (b z i : Nat) : Nat := if i = 0 then b else z + i
def js_v (b z : Nat) : Value → Value
  | .ref a => .ref (js_a b z a)
  | v => v
def js_e (G : Nat → ClassId) (b z : Nat) : jxC → va_E
  | .inl (t, n, .inl f) => .inl (G t, n, .inl f)
  | .inl (t, n, .inr (.inl f)) => .inl (G t, n, .inr (.inl f))
  | .inl (t, n, .inr (.inr (.inl f))) => .inl (G t, n, .inr (.inr (.inl f)))
  | .inl (t, n, .inr (.inr (.inr (.inl f)))) => .inl (G t, n, .inr (.inr (.inr (.inl f))))
  | .inl (t, n, .inr (.inr (.inr (.inr f)))) => .inl (G t, n, .inr (.inr (.inr (.inr (fun j => (f j).map (js_a b z))))))
  | .inr (c, fs) => .inr (c, fs.map (js_v b z))
def js_T : List Cond := lw_tbl.filter goodWord
def js_nl : List Cond := [.methodLinkNest RX11 35 yX4_init RX11, .methodLinkNest RX11 42 yX3_init RX11, .methodLinkNest RX11 47 yX8_init RX11, .methodLinkNest RX4 37 yX11_lowestOf RX11, .methodLinkNest RX0 36 yX11_blockAt RX11, .methodLinkNest RX7 107 yX11_lowestOf RX11, .methodLinkNest RX6 51 yX11_blockAt RX11, .methodLinkNest RX6 71 yX11_lowestOf RX11, .methodLinkNest RX6 78 yX11_memberOf RX11, .methodLinkNest RX2 49 yX11_isNoAnswer RX11]
def js_tys (G : Nat → ClassId) : List (ClassId × FieldType) := [(G 0, .int), (G 1, .long), (G 2, .object RX10), (G 3, .object RX8), (G 4, .array .int)]
def js_K (D : va_G) (G : Nat → ClassId) (U : State) : Prop := va_K D vwCl (js_tys G) U ∧ (∀ w ∈ js_nl, va_Nw w U) ∧ va_Nw (.castable "[I" "java/lang/Cloneable") U ∧ va_AO RX10 U ∧ va_AO RX8 U ∧ (Cond.arrayOver (.array .int)).before #[] U = true
def js_R (D : va_G) (G : Nat → ClassId) (b z : Nat) (s : State) (h : jxH) (H : Heap) : Prop :=
  H.size = z + h.1 ∧ 1 ≤ h.1 ∧ b ≤ z ∧ (∀ i, 1 ≤ i → i < h.1 → va_at D vwCl (z + i, js_e G b z (h.2.2 i)) H) ∧ (∀ i, h.1 ≤ i → h.2.2 i = jx_no) ∧ ∃ (L : Nat) (xs : Nat → Int32), h.2.2 0 = .inl (9, L, .inl xs) ∧ va_X b L xs s H
/-- the locals that are known, as the kit lists them -/
def js_as (b z nL : Nat) (ls : List Value) : List (Nat × Value) :=
  (List.range nL).filterMap (fun i => match ls[i]? with
    | some v => if jx_c1 v = true then some (i, js_v b z v) else none
    | none => none) ++ (List.range nL).filterMap (fun i => match ls[nL + 1 + i]? with
    | some (.long x) => some (i, .long x)
    | _ => none)
theorem js_as_iff {b z nL : Nat} {ls : List Value} {i : Nat} {w : Value} : (i, w) ∈ js_as b z nL ls ↔ (i < nL ∧ ∃ v, ls[i]? = some v ∧ jx_c1 v = true ∧ w = js_v b z v) ∨ (i < nL ∧ ∃ x, ls[nL + 1 + i]? = some (.long x) ∧ w = .long x) := by
  unfold js_as
  rw [List.mem_append]
  constructor
  · rintro (h | h)
    · obtain ⟨j, hj, e⟩ := List.mem_filterMap.mp h
      left
      cases hv : ls[j]? with
      | none => rw [hv] at e; cases e
      | some v =>
        rw [hv] at e
        dsimp only at e
        by_cases hc : jx_c1 v = true
        · rw [if_pos hc] at e
          cases e
          exact ⟨List.mem_range.mp hj, v, hv, hc, rfl⟩
        · rw [if_neg hc] at e
          cases e
    · obtain ⟨j, hj, e⟩ := List.mem_filterMap.mp h
      right
      split at e
      · next x hx =>
        cases e
        exact ⟨List.mem_range.mp hj, x, hx, rfl⟩
      · cases e
  · rintro (⟨hi, v, hv, hc, rfl⟩ | ⟨hi, x, hx, rfl⟩)
    · left
      refine List.mem_filterMap.mpr ⟨i, List.mem_range.mpr hi, ?_⟩
      rw [hv]
      dsimp only
      rw [if_pos hc]
    · right
      refine List.mem_filterMap.mpr ⟨i, List.mem_range.mpr hi, ?_⟩
      rw [hx]
theorem js_v_c1 {b z : Nat} {v : Value} (h : jx_c1 v = true) : (js_v b z v).category = 1 := by
  cases v <;> first | rfl | (simp [jx_c1] at h)
theorem js_c1_cat {v : Value} (h : jx_c1 v = true) : v.category = 1 := by
  cases v <;> first | rfl | (simp [jx_c1] at h)
theorem js_si {b z nL i : Nat} {ls : List Value} {X' : Array Slot} {v : Value} (hi : i < nL) (hv : jx_c1 v = true)
    (h : lv_has X' nL ((i, js_v b z v) :: (js_as b z nL ls).filter (fun q => !(q.1 == i) && !(q.1 + 1 == i && q.2.category == 2)))) : lv_has X' nL (js_as b z nL (jx_si ls nL i v)) := by
  obtain ⟨h1, h2, h3⟩ := h
  refine ⟨h1, h2, fun q hq => ?_⟩
  obtain ⟨j, w⟩ := q
  rcases js_as_iff.mp hq with ⟨hj, u, hu, hc, rfl⟩ | ⟨hj, x, hx, rfl⟩
  · by_cases hji : j = i
    · subst hji
      have hlt : j < ls.length := by
        have := (List.getElem?_eq_some_iff.mp hu).1
        simpa [jx_si] using this
      unfold jx_si at hu
      rw [List.getElem?_set_ne (by omega), List.getElem?_set_ne (by omega), List.getElem?_set_self hlt] at hu
      cases hu
      exact h3 _ (by simp)
    · unfold jx_si at hu
      rw [List.getElem?_set_ne (by omega), List.getElem?_set_ne (by omega), List.getElem?_set_ne (by omega)] at hu
      refine h3 _ (List.mem_cons_of_mem _ (List.mem_filter.mpr ⟨js_as_iff.mpr (Or.inl ⟨hj, u, hu, hc, rfl⟩), ?_⟩))
      simp [hji, js_v_c1 hc]
  · unfold jx_si at hx
    have n1 : nL + 1 + i ≠ nL + 1 + j := by
      intro e
      rw [e] at hx
      rw [List.getElem?_set] at hx
      simp only [if_true] at hx
      split at hx <;> cases hx
    rw [List.getElem?_set_ne n1] at hx
    have n2 : nL + i ≠ nL + 1 + j := by
      intro e
      rw [e] at hx
      rw [List.getElem?_set] at hx
      simp only [if_true] at hx
      split at hx <;> cases hx
    rw [List.getElem?_set_ne n2, List.getElem?_set_ne (by omega)] at hx
    refine h3 _ (List.mem_cons_of_mem _ (List.mem_filter.mpr ⟨js_as_iff.mpr (Or.inr ⟨hj, x, hx, rfl⟩), ?_⟩))
    have e1 : ¬ j = i := by omega
    have e2 : ¬ j + 1 = i := by omega
    simp [e1, e2]
theorem js_sl {b z nL i : Nat} {ls : List Value} {X' : Array Slot} {u : Int64} (hi : i + 1 < nL)
    (h : lv_has X' nL ((i, .long u) :: (js_as b z nL ls).filter (fun q => !(q.1 == i) && (!(q.1 == i + 1) && !(q.1 + 1 == i && q.2.category == 2))))) : lv_has X' nL (js_as b z nL (((((ls.set i jx_u).set (i + 1) jx_u).set (nL + i) jx_u).set (nL + 1 + i) (.long u)).set (nL + 2 + i) jx_u)) := by
  obtain ⟨h1, h2, h3⟩ := h
  refine ⟨h1, h2, fun q hq => ?_⟩
  obtain ⟨j, w⟩ := q
  rcases js_as_iff.mp hq with ⟨hj, v, hv, hc, rfl⟩ | ⟨hj, x, hx, rfl⟩
  · rw [List.getElem?_set_ne (by omega), List.getElem?_set_ne (by omega), List.getElem?_set_ne (by omega)] at hv
    have n1 : i + 1 ≠ j := by
      intro e
      subst e
      rw [List.getElem?_set] at hv
      simp only [if_true] at hv
      split at hv <;> cases hv
      simp [jx_c1] at hc
    rw [List.getElem?_set_ne n1] at hv
    have n2 : i ≠ j := by
      intro e
      subst e
      rw [List.getElem?_set] at hv
      simp only [if_true] at hv
      split at hv <;> cases hv
      simp [jx_c1] at hc
    rw [List.getElem?_set_ne n2] at hv
    refine h3 _ (List.mem_cons_of_mem _ (List.mem_filter.mpr ⟨js_as_iff.mpr (Or.inl ⟨hj, v, hv, hc, rfl⟩), ?_⟩))
    simp [Ne.symm n1, Ne.symm n2, js_v_c1 hc]
  · have n1 : nL + 2 + i ≠ nL + 1 + j := by
      intro e
      rw [e] at hx
      rw [List.getElem?_set] at hx
      simp only [if_true] at hx
      split at hx <;> cases hx
    rw [List.getElem?_set_ne n1] at hx
    by_cases hji : j = i
    · subst hji
      rw [List.getElem?_set] at hx
      simp only [if_true] at hx
      split at hx
      · cases hx
        exact h3 _ (by simp)
      · cases hx
    · rw [List.getElem?_set_ne (by omega)] at hx
      have n2 : nL + i ≠ nL + 1 + j := by
        intro e
        rw [e] at hx
        rw [List.getElem?_set] at hx
        simp only [if_true] at hx
        split at hx <;> cases hx
      rw [List.getElem?_set_ne n2, List.getElem?_set_ne (by omega), List.getElem?_set_ne (by omega)] at hx
      refine h3 _ (List.mem_cons_of_mem _ (List.mem_filter.mpr ⟨js_as_iff.mpr (Or.inr ⟨hj, x, hx, rfl⟩), ?_⟩))
      have e2 : ¬ j + 1 = i := by omega
      have e3 : ¬ j = i + 1 := by omega
      simp [hji, e2, e3]
theorem js_args_mem : ∀ (vs : List Value) (o j : Nat) (w : Value), (∀ v ∈ vs, v.category = 1) → vs[j]? = some w → (o + j, w) ∈ lv_args o vs
  | [], _, j, w, _, h => by simp at h
  | v :: vs, o, j, w, hc, h => by
    have hv : ¬ v.category = 2 := by rw [hc v List.mem_cons_self]; decide
    rw [lv_args, if_neg hv]
    cases j with
    | zero =>
      simp at h
      subst h
      simp
    | succ j =>
      rw [List.getElem?_cons_succ] at h
      have := js_args_mem vs (o + 1) j w (fun u hu => hc u (List.mem_cons_of_mem _ hu)) h
      rw [show o + (j + 1) = o + 1 + j by omega]
      exact List.mem_cons_of_mem _ this
theorem js_sl_len : ∀ (vs : List Value), (∀ v ∈ vs, v.category = 1) → (lg_sl vs).length = vs.length
  | [], _ => rfl
  | v :: vs, hc => by
    have hv : ¬ v.category = 2 := by rw [hc v List.mem_cons_self]; decide
    have := js_sl_len vs (fun u hu => hc u (List.mem_cons_of_mem _ hu))
    unfold lg_sl at this ⊢
    rw [List.flatMap_cons, if_neg hv, List.length_append, this]
    simp
    omega
theorem js_entry {b z nL N : Nat} {vs : List Value} (hN : nL ≤ N) (hc : ∀ v ∈ vs, jx_c1 v = true) (hl : vs.length ≤ nL) : lv_has ((lg_sl (vs.map (js_v b z)) ++ List.replicate (nL - (lg_sl (vs.map (js_v b z))).length) Slot.unset).toArray) nL (js_as b z nL (vs ++ List.replicate (N - vs.length) jx_u)) := by
  have hc2 : ∀ v ∈ vs.map (js_v b z), v.category = 1 := by
    intro v hv
    obtain ⟨u, hu, rfl⟩ := List.mem_map.mp hv
    exact js_v_c1 (hc u hu)
  have hlen : (lg_sl (vs.map (js_v b z))).length = vs.length := by rw [js_sl_len _ hc2, List.length_map]
  obtain ⟨h1, h2, h3⟩ := lv_entry (vs.map (js_v b z)) (n := nL) (by rw [hlen]; exact hl)
  refine ⟨h1, h2, fun q hq => ?_⟩
  obtain ⟨j, w⟩ := q
  rcases js_as_iff.mp hq with ⟨hj, v, hv, hcv, rfl⟩ | ⟨hj, x, hx, rfl⟩
  · by_cases hjl : j < vs.length
    · rw [List.getElem?_append_left hjl] at hv
      have := js_args_mem (vs.map (js_v b z)) 0 j (js_v b z v) hc2 (by rw [List.getElem?_map, hv]; rfl)
      rw [Nat.zero_add] at this
      exact h3 _ this
    · rw [List.getElem?_append_right (by omega), List.getElem?_replicate] at hv
      split at hv
      · cases hv
        simp [jx_c1] at hcv
      · cases hv
  · rw [List.getElem?_append_right (by omega), List.getElem?_replicate] at hx
    split at hx
    · cases hx
    · cases hx
