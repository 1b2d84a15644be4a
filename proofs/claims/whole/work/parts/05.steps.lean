/-! ===== what the pure machine does, the machine does: the steps ===== -/
def js_W (p : Program) (l : Launch) (e : Env) (R : Room) (s : State) (m : MethodId) (args : Array Value) (below : List Frame) (meth : Method) (c : Code) (Q : State → Prop) (D : va_G) (G : Nat → ClassId) (b z : Nat) (H0 : Heap) (k0 n0 nL pc : Nat) (ls st : List Value) (h : jxH) : Prop :=
  ∀ (H : Heap) (locs : List Loc) (X : Array Slot), lv_has X nL (js_as b z nL ls) → js_R D G b z s h H → va_S (fun q => z < q) H0 H locs → k0 ≤ h.1 → n0 ≤ h.2.1 → W p l e R s m args below meth c H locs (h.1 - k0) (h.2.1 - n0) Q (F0 m pc X (st.map (js_v b z)))
def js_S (own : String) (cc : ByteArray) (nL : Nat) (ini : Bool) (pc : Nat) (o : jxO) : Prop :=
  (∀ ls st h pc' ls' st' h', o ls st h = some (pc', ls', st', h') → h.1 ≤ h'.1 ∧ h.2.1 ≤ h'.2.1) ∧
  ∀ (p : Program) (l : Launch) (e : Env) (R : Room) (s : State) (m : MethodId) (args : Array Value) (below : List Frame) (meth : Method) (c : Code) (Q : State → Prop) (D : va_G) (G : Nat → ClassId) (b z : Nat) (H0 : Heap) (k0 n0 : Nat), CallFix p m c cc nL s args js_T own → js_K D G s → (ini = true → meth.name = "<init>") → 1 ≤ R.frames → 100 ≤ R.locals →
    ∀ ls st h pc' ls' st' h', o ls st h = some (pc', ls', st', h') → h'.1 - k0 ≤ R.cells → h'.2.1 - n0 ≤ R.slots → js_W p l e R s m args below meth c Q D G b z H0 k0 n0 nL pc' ls' st' h' → js_W p l e R s m args below meth c Q D G b z H0 k0 n0 nL pc ls st h
section JSS
variable {own : String} {cc : ByteArray} {nL pc : Nat} {ini : Bool}
/-- a step that leaves locals and heap -/
theorem js_pure {o : jxO} (ho : ∀ ls st h r, o ls st h = some r → r.2.1 = ls ∧ r.2.2.2 = h ∧ ∀ (p : Program) (l : Launch) (e : Env) (R : Room) (s : State) (m : MethodId) (args : Array Value) (below : List Frame) (meth : Method) (c : Code) (H : Heap) (locs : List Loc) (k n : Nat) (Q : State → Prop) (b z : Nat) (X : Array Slot), p.tables.exec = Jvm.exec → c.code = cc → s.vm.findClass own = some m.cls → (∀ w ∈ js_T, w.before args s = true) → lv_has X nL (js_as b z nL ls) → W p l e R s m args below meth c H locs k n Q (F0 m r.1 X (r.2.2.1.map (js_v b z))) → W p l e R s m args below meth c H locs k n Q (F0 m pc X (st.map (js_v b z)))) : js_S own cc nL ini pc o := by
  refine ⟨fun ls st h pc' ls' st' h' e => ?_, fun p l e R s m args below meth c Q D G b z H0 k0 n0 S _ _ _ _ ls st h pc' ls' st' h' e1 _ _ kW H locs X hL hR hS hk hn => ?_⟩
  · have := (ho ls st h _ e).2.1
    dsimp only at this
    subst this
    exact ⟨Nat.le_refl _, Nat.le_refl _⟩
  · obtain ⟨a1, a2, a3⟩ := ho ls st h _ e1
    dsimp only at a1 a2 a3
    subst a1
    subst a2
    exact a3 p l e R s m args below meth c H locs _ _ Q b z X S.1 S.2.1 S.2.2.2.1 S.2.2.2.2 hL (kW H locs X hL hR hS hk hn)
/-- a step that sets a local -/
theorem js_loc {o : jxO} (ho : ∀ ls st h r, o ls st h = some r → r.2.2.2 = h ∧ ∀ (p : Program) (l : Launch) (e : Env) (R : Room) (s : State) (m : MethodId) (args : Array Value) (below : List Frame) (meth : Method) (c : Code) (H : Heap) (locs : List Loc) (k n : Nat) (Q : State → Prop) (b z : Nat) (X : Array Slot), p.tables.exec = Jvm.exec → c.code = cc → lv_has X nL (js_as b z nL ls) → (∀ X', lv_has X' nL (js_as b z nL r.2.1) → W p l e R s m args below meth c H locs k n Q (F0 m r.1 X' (r.2.2.1.map (js_v b z)))) → W p l e R s m args below meth c H locs k n Q (F0 m pc X (st.map (js_v b z)))) : js_S own cc nL ini pc o := by
  refine ⟨fun ls st h pc' ls' st' h' e => ?_, fun p l e R s m args below meth c Q D G b z H0 k0 n0 S _ _ _ _ ls st h pc' ls' st' h' e1 _ _ kW H locs X hL hR hS hk hn => ?_⟩
  · have := (ho ls st h _ e).1
    dsimp only at this
    subst this
    exact ⟨Nat.le_refl _, Nat.le_refl _⟩
  · obtain ⟨a2, a3⟩ := ho ls st h _ e1
    dsimp only at a2 a3
    subst a2
    exact a3 p l e R s m args below meth c H locs _ _ Q b z X S.1 S.2.1 hL (fun X' hL' => kW H locs X' hL' hR hS hk hn)
theorem js_iconst {n : Int} {x : Int32} (hd : decode cc pc = .ok (.iconst n, 1)) (hv : Int32.ofInt n = x) : js_S own cc nL ini pc (jo_c (pc + 1) x) := js_pure (fun ls st h r e => by
  cases e
  exact ⟨rfl, rfl, fun p l e R s m args below meth c H locs k n Q b z X hx hb ho ht hl kk => lv_iconst hx hb hd hv kk⟩)
theorem js_bipush {n : Int} {x : Int32} (hd : decode cc pc = .ok (.bipush n, 2)) (hv : (Int8.ofInt n).toInt32 = x) : js_S own cc nL ini pc (jo_c (pc + 2) x) := js_pure (fun ls st h r e => by
  cases e
  exact ⟨rfl, rfl, fun p l e R s m args below meth c H locs k n Q b z X hx hb ho ht hl kk => lv_bipush hx hb hd hv kk⟩)
theorem js_sipush {n : Int} {x : Int32} (hd : decode cc pc = .ok (.sipush n, 3)) (hv : (Int16.ofInt n).toInt32 = x) : js_S own cc nL ini pc (jo_c (pc + 3) x) := js_pure (fun ls st h r e => by
  cases e
  exact ⟨rfl, rfl, fun p l e R s m args below meth c H locs k n Q b z X hx hb ho ht hl kk => lv_sipush hx hb hd hv kk⟩)
theorem js_ldc {i : Nat} {x : Int32} (hd : decode cc pc = .ok (.ldc i, 2)) (hw : Cond.constant own i x ∈ js_T) : js_S own cc nL ini pc (jo_c (pc + 2) x) := js_pure (fun ls st h r e => by
  cases e
  exact ⟨rfl, rfl, fun p l e R s m args below meth c H locs k n Q b z X hx hb ho ht hl kk => lv_ldc hx hb ho (ht _ hw) hd kk⟩)
theorem js_ldcw {i : Nat} {x : Int32} (hd : decode cc pc = .ok (.ldc_w i, 3)) (hw : Cond.constant own i x ∈ js_T) : js_S own cc nL ini pc (jo_c (pc + 3) x) := js_pure (fun ls st h r e => by
  cases e
  exact ⟨rfl, rfl, fun p l e R s m args below meth c H locs k n Q b z X hx hb ho ht hl kk => lv_ldcw hx hb ho (ht _ hw) hd kk⟩)
theorem js_lconst {n : Fin 2} {u : Int64} (hd : decode cc pc = .ok (.lconst n, 1)) (hv : Int64.ofNat (n : Nat) = u) : js_S own cc nL ini pc (jo_cl (pc + 1) u) := js_pure (fun ls st h r e => by
  cases e
  exact ⟨rfl, rfl, fun p l e R s m args below meth c H locs k n Q b z X hx hb ho ht hl kk => lv_lconst hx hb hd hv kk⟩)
theorem js_goto {off : Int} {t : Nat} (hd : decode cc pc = .ok (.goto off, 3)) (ht : (pc : Int) + off = (t : Int)) : js_S own cc nL ini pc (jo_go t) := js_pure (fun ls st h r e => by
  cases e
  exact ⟨rfl, rfl, fun p l e R s m args below meth c H locs k n Q b z X hx hb ho ht hl kk => lv_goto hx hb hd (by assumption) kk⟩)
theorem js_iload {i : Nat} (hi : i < nL) (hd : decode cc pc = .ok (.iload i, 2)) : js_S own cc nL ini pc (jo_il (pc + 2) i) := js_pure (fun ls st h r e => by
  unfold jo_il at e
  split at e
  · next x hx0 =>
    cases e
    exact ⟨rfl, rfl, fun p l e R s m args below meth c H locs k n Q b z X hx hb ho ht hl kk => lv_iload hx hb hd (hl.2.2 (i, .int x) (js_as_iff.mpr (Or.inl ⟨hi, _, hx0, rfl, rfl⟩))) kk⟩
  · cases e)
theorem js_iload_n {q : Fin 4} {i : Nat} (hq : (q : Nat) = i) (hi : i < nL) (hd : decode cc pc = .ok (.iload_n q, 1)) : js_S own cc nL ini pc (jo_il (pc + 1) i) := js_pure (fun ls st h r e => by
  unfold jo_il at e
  split at e
  · next x hx0 =>
    cases e
    exact ⟨rfl, rfl, fun p l e R s m args below meth c H locs k n Q b z X hx hb ho ht hl kk => lv_iload_n hx hb hd hq (hl.2.2 (i, .int x) (js_as_iff.mpr (Or.inl ⟨hi, _, hx0, rfl, rfl⟩))) kk⟩
  · cases e)
theorem js_aload {i : Nat} (hi : i < nL) (hd : decode cc pc = .ok (.aload i, 2)) : js_S own cc nL ini pc (jo_al (pc + 2) i) := js_pure (fun ls st h r e => by
  unfold jo_al at e
  split at e
  · next x hx0 =>
    cases e
    exact ⟨rfl, rfl, fun p l e R s m args below meth c H locs k n Q b z X hx hb ho ht hl kk => lv_aload hx hb hd (hl.2.2 (i, .ref (js_a b z x)) (js_as_iff.mpr (Or.inl ⟨hi, _, hx0, rfl, rfl⟩))) kk⟩
  · cases e)
theorem js_aload_n {q : Fin 4} {i : Nat} (hq : (q : Nat) = i) (hi : i < nL) (hd : decode cc pc = .ok (.aload_n q, 1)) : js_S own cc nL ini pc (jo_al (pc + 1) i) := js_pure (fun ls st h r e => by
  unfold jo_al at e
  split at e
  · next x hx0 =>
    cases e
    exact ⟨rfl, rfl, fun p l e R s m args below meth c H locs k n Q b z X hx hb ho ht hl kk => lv_aload_n hx hb hd hq (hl.2.2 (i, .ref (js_a b z x)) (js_as_iff.mpr (Or.inl ⟨hi, _, hx0, rfl, rfl⟩))) kk⟩
  · cases e)
theorem js_lload {i : Nat} (hi : i < nL) (hd : decode cc pc = .ok (.lload i, 2)) : js_S own cc nL ini pc (jo_ll (pc + 2) nL i) := js_pure (fun ls st h r e => by
  unfold jo_ll at e
  split at e
  · next x hx0 =>
    cases e
    exact ⟨rfl, rfl, fun p l e R s m args below meth c H locs k n Q b z X hx hb ho ht hl kk => lv_lload hx hb hd (hl.2.2 (i, .long x) (js_as_iff.mpr (Or.inr ⟨hi, _, hx0, rfl⟩))) kk⟩
  · cases e)
theorem js_istore {i : Nat} (hi : i < nL) (hd : decode cc pc = .ok (.istore i, 2)) : js_S own cc nL ini pc (jo_is (pc + 2) nL i) := js_loc (fun ls st h r e => by
  unfold jo_is at e
  split at e
  · next x rest =>
    cases e
    exact ⟨rfl, fun p l e R s m args below meth c H locs k n Q b z X hx hb hl kk => lv_istore hx hb hd hl hi rfl (fun X' hX => kk X' (js_si (v := .int x) hi rfl hX))⟩
  · cases e)
theorem js_istore_n {q : Fin 4} {i : Nat} (hq : (q : Nat) = i) (hi : i < nL) (hd : decode cc pc = .ok (.istore_n q, 1)) : js_S own cc nL ini pc (jo_is (pc + 1) nL i) := js_loc (fun ls st h r e => by
  unfold jo_is at e
  split at e
  · next x rest =>
    cases e
    exact ⟨rfl, fun p l e R s m args below meth c H locs k n Q b z X hx hb hl kk => lv_istore_n hx hb hd hq hl hi rfl (fun X' hX => kk X' (js_si (v := .int x) hi rfl hX))⟩
  · cases e)
theorem js_astore {i : Nat} (hi : i < nL) (hd : decode cc pc = .ok (.astore i, 2)) : js_S own cc nL ini pc (jo_as (pc + 2) nL i) := js_loc (fun ls st h r e => by
  unfold jo_as at e
  split at e
  · next x rest =>
    cases e
    exact ⟨rfl, fun p l e R s m args below meth c H locs k n Q b z X hx hb hl kk => lv_astore hx hb hd hl hi rfl (fun X' hX => kk X' (js_si (v := .ref x) hi rfl hX))⟩
  · cases e)
theorem js_astore_n {q : Fin 4} {i : Nat} (hq : (q : Nat) = i) (hi : i < nL) (hd : decode cc pc = .ok (.astore_n q, 1)) : js_S own cc nL ini pc (jo_as (pc + 1) nL i) := js_loc (fun ls st h r e => by
  unfold jo_as at e
  split at e
  · next x rest =>
    cases e
    exact ⟨rfl, fun p l e R s m args below meth c H locs k n Q b z X hx hb hl kk => lv_astore_n hx hb hd hq hl hi rfl (fun X' hX => kk X' (js_si (v := .ref x) hi rfl hX))⟩
  · cases e)
theorem js_lstore {i : Nat} (hi : i + 1 < nL) (hd : decode cc pc = .ok (.lstore i, 2)) : js_S own cc nL ini pc (jo_ls (pc + 2) nL i) := js_loc (fun ls st h r e => by
  unfold jo_ls at e
  split at e
  · next x rest =>
    cases e
    exact ⟨rfl, fun p l e R s m args below meth c H locs k n Q b z X hx hb hl kk => lv_lstore hx hb hd hl hi rfl (fun X' hX => kk X' (js_sl hi hX))⟩
  · cases e)
theorem js_iinc {i : Nat} {n : Int} {y : Int32} (hi : i < nL) (hd : decode cc pc = .ok (.iinc i n, 3)) (hv : Int32.ofInt n = y) : js_S own cc nL ini pc (jo_inc (pc + 3) nL i y) := js_loc (fun ls st h r e => by
  unfold jo_inc at e
  split at e
  · next x hx0 =>
    cases e
    refine ⟨rfl, fun p l e R s m args below meth c H locs k n' Q b z X hx hb hl kk => ?_⟩
    obtain ⟨j, hj⟩ := List.getElem?_of_mem (js_as_iff.mpr (Or.inl ⟨hi, _, hx0, rfl, rfl⟩) : (i, Value.int x) ∈ js_as b z nL ls)
    exact lv_iinc hx hb hd hl hj (by rw [hv]) hi rfl (fun X' hX => kk X' (js_si (v := .int (x + y)) hi rfl hX))
  · cases e)
theorem js_iadd (hd : decode cc pc = .ok (.iadd, 1)) : js_S own cc nL ini pc (jo_b (pc + 1) (fun x y => x + y)) := js_pure (fun ls st h r e => by
  unfold jo_b at e
  split at e
  · cases e
    exact ⟨rfl, rfl, fun p l e R s m args below meth c H locs k n Q b z X hx hb ho ht hl kk => lv_iadd hx hb hd kk⟩
  · cases e)
theorem js_isub (hd : decode cc pc = .ok (.isub, 1)) : js_S own cc nL ini pc (jo_b (pc + 1) (fun x y => x - y)) := js_pure (fun ls st h r e => by
  unfold jo_b at e
  split at e
  · cases e
    exact ⟨rfl, rfl, fun p l e R s m args below meth c H locs k n Q b z X hx hb ho ht hl kk => lv_isub hx hb hd kk⟩
  · cases e)
theorem js_imul (hd : decode cc pc = .ok (.imul, 1)) : js_S own cc nL ini pc (jo_b (pc + 1) (fun x y => x * y)) := js_pure (fun ls st h r e => by
  unfold jo_b at e
  split at e
  · cases e
    exact ⟨rfl, rfl, fun p l e R s m args below meth c H locs k n Q b z X hx hb ho ht hl kk => lv_imul hx hb hd kk⟩
  · cases e)
theorem js_iand (hd : decode cc pc = .ok (.iand, 1)) : js_S own cc nL ini pc (jo_b (pc + 1) (fun x y => x &&& y)) := js_pure (fun ls st h r e => by
  unfold jo_b at e
  split at e
  · cases e
    exact ⟨rfl, rfl, fun p l e R s m args below meth c H locs k n Q b z X hx hb ho ht hl kk => lv_iand hx hb hd kk⟩
  · cases e)
theorem js_ior (hd : decode cc pc = .ok (.ior, 1)) : js_S own cc nL ini pc (jo_b (pc + 1) (fun x y => x ||| y)) := js_pure (fun ls st h r e => by
  unfold jo_b at e
  split at e
  · cases e
    exact ⟨rfl, rfl, fun p l e R s m args below meth c H locs k n Q b z X hx hb ho ht hl kk => lv_ior hx hb hd kk⟩
  · cases e)
theorem js_ixor (hd : decode cc pc = .ok (.ixor, 1)) : js_S own cc nL ini pc (jo_b (pc + 1) (fun x y => x ^^^ y)) := js_pure (fun ls st h r e => by
  unfold jo_b at e
  split at e
  · cases e
    exact ⟨rfl, rfl, fun p l e R s m args below meth c H locs k n Q b z X hx hb ho ht hl kk => lv_ixor hx hb hd kk⟩
  · cases e)
theorem js_ishl (hd : decode cc pc = .ok (.ishl, 1)) : js_S own cc nL ini pc (jo_b (pc + 1) (fun x y => x <<< (y &&& 31))) := js_pure (fun ls st h r e => by
  unfold jo_b at e
  split at e
  · cases e
    exact ⟨rfl, rfl, fun p l e R s m args below meth c H locs k n Q b z X hx hb ho ht hl kk => lv_ishl hx hb hd kk⟩
  · cases e)
theorem js_ishr (hd : decode cc pc = .ok (.ishr, 1)) : js_S own cc nL ini pc (jo_b (pc + 1) (fun x y => x >>> (y &&& 31))) := js_pure (fun ls st h r e => by
  unfold jo_b at e
  split at e
  · cases e
    exact ⟨rfl, rfl, fun p l e R s m args below meth c H locs k n Q b z X hx hb ho ht hl kk => lv_ishr hx hb hd kk⟩
  · cases e)
theorem js_iushr (hd : decode cc pc = .ok (.iushr, 1)) : js_S own cc nL ini pc (jo_b (pc + 1) (fun x y => (x.toUInt32 >>> (y.toUInt32 &&& Int32.toUInt32 31)).toInt32)) := js_pure (fun ls st h r e => by
  unfold jo_b at e
  split at e
  · cases e
    exact ⟨rfl, rfl, fun p l e R s m args below meth c H locs k n Q b z X hx hb ho ht hl kk => lv_iushr hx hb hd rfl kk⟩
  · cases e)
theorem js_idiv (hd : decode cc pc = .ok (.idiv, 1)) : js_S own cc nL ini pc (jo_q (pc + 1) (fun x y => x / y)) := js_pure (fun ls st h r e => by
  unfold jo_q at e
  split at e
  · split at e
    · cases e
    · next hy =>
      cases e
      exact ⟨rfl, rfl, fun p l e R s m args below meth c H locs k n Q b z X hx hb ho ht hl kk => lv_idiv hx hb hd hy kk⟩
  · cases e)
theorem js_irem (hd : decode cc pc = .ok (.irem, 1)) : js_S own cc nL ini pc (jo_q (pc + 1) (fun x y => x - x / y * y)) := js_pure (fun ls st h r e => by
  unfold jo_q at e
  split at e
  · split at e
    · cases e
    · next hy =>
      cases e
      exact ⟨rfl, rfl, fun p l e R s m args below meth c H locs k n Q b z X hx hb ho ht hl kk => lv_irem hx hb hd hy kk⟩
  · cases e)
theorem js_ineg (hd : decode cc pc = .ok (.ineg, 1)) : js_S own cc nL ini pc (jo_1 (pc + 1) (fun x => -x)) := js_pure (fun ls st h r e => by
  unfold jo_1 at e
  split at e
  · cases e
    exact ⟨rfl, rfl, fun p l e R s m args below meth c H locs k n Q b z X hx hb ho ht hl kk => lv_ineg hx hb hd kk⟩
  · cases e)
theorem js_i2b (hd : decode cc pc = .ok (.i2b, 1)) : js_S own cc nL ini pc (jo_1 (pc + 1) (fun x => x.toInt8.toInt32)) := js_pure (fun ls st h r e => by
  unfold jo_1 at e
  split at e
  · cases e
    exact ⟨rfl, rfl, fun p l e R s m args below meth c H locs k n Q b z X hx hb ho ht hl kk => lv_i2b hx hb hd rfl kk⟩
  · cases e)
theorem js_i2s (hd : decode cc pc = .ok (.i2s, 1)) : js_S own cc nL ini pc (jo_1 (pc + 1) (fun x => x.toInt16.toInt32)) := js_pure (fun ls st h r e => by
  unfold jo_1 at e
  split at e
  · cases e
    exact ⟨rfl, rfl, fun p l e R s m args below meth c H locs k n Q b z X hx hb ho ht hl kk => lv_i2s hx hb hd rfl kk⟩
  · cases e)
theorem js_i2l (hd : decode cc pc = .ok (.i2l, 1)) : js_S own cc nL ini pc (jo_i2l (pc + 1)) := js_pure (fun ls st h r e => by
  unfold jo_i2l at e
  split at e
  · cases e
    exact ⟨rfl, rfl, fun p l e R s m args below meth c H locs k n Q b z X hx hb ho ht hl kk => lv_i2l hx hb hd rfl kk⟩
  · cases e)
theorem js_lsub (hd : decode cc pc = .ok (.lsub, 1)) : js_S own cc nL ini pc (jo_lb (pc + 1) (fun x y => x - y)) := js_pure (fun ls st h r e => by
  unfold jo_lb at e
  split at e
  · cases e
    exact ⟨rfl, rfl, fun p l e R s m args below meth c H locs k n Q b z X hx hb ho ht hl kk => lv_lsub hx hb hd kk⟩
  · cases e)
theorem js_lmul (hd : decode cc pc = .ok (.lmul, 1)) : js_S own cc nL ini pc (jo_lb (pc + 1) (fun x y => x * y)) := js_pure (fun ls st h r e => by
  unfold jo_lb at e
  split at e
  · cases e
    exact ⟨rfl, rfl, fun p l e R s m args below meth c H locs k n Q b z X hx hb ho ht hl kk => lv_lmul hx hb hd kk⟩
  · cases e)
theorem js_land (hd : decode cc pc = .ok (.land, 1)) : js_S own cc nL ini pc (jo_lb (pc + 1) (fun x y => x &&& y)) := js_pure (fun ls st h r e => by
  unfold jo_lb at e
  split at e
  · cases e
    exact ⟨rfl, rfl, fun p l e R s m args below meth c H locs k n Q b z X hx hb ho ht hl kk => lv_land hx hb hd kk⟩
  · cases e)
theorem js_lcmp (hd : decode cc pc = .ok (.lcmp, 1)) : js_S own cc nL ini pc (jo_lc (pc + 1)) := js_pure (fun ls st h r e => by
  unfold jo_lc at e
  split at e
  · cases e
    exact ⟨rfl, rfl, fun p l e R s m args below meth c H locs k n Q b z X hx hb ho ht hl kk => W.lcmp hx hb hd kk⟩
  · cases e)
theorem js_if_eq {off : Int} {t : Nat} (hd : decode cc pc = .ok (.ifCond .eq off, 3)) (ht0 : (pc : Int) + off = (t : Int)) : js_S own cc nL ini pc (jo_if (pc + 3) t (fun x => decide (x = 0))) := js_pure (fun ls st h r e => by
  unfold jo_if at e
  split at e
  · cases e
    exact ⟨rfl, rfl, fun p l e R s m args below meth c H locs k n Q b z X hx hb ho ht hl kk => lv_if_eq hx hb hd ht0 (fun q => by rw [if_pos (decide_eq_true q)] at kk; exact kk) (fun q => by rw [if_neg (by rw [decide_eq_true_eq]; exact q)] at kk; exact kk)⟩
  · cases e)
theorem js_ic_eq {off : Int} {t : Nat} (hd : decode cc pc = .ok (.if_icmp .eq off, 3)) (ht0 : (pc : Int) + off = (t : Int)) : js_S own cc nL ini pc (jo_ic (pc + 3) t (fun x y => decide (x = y))) := js_pure (fun ls st h r e => by
  unfold jo_ic at e
  split at e
  · cases e
    exact ⟨rfl, rfl, fun p l e R s m args below meth c H locs k n Q b z X hx hb ho ht hl kk => lv_icmp_eq hx hb hd ht0 (fun q => by rw [if_pos (decide_eq_true q)] at kk; exact kk) (fun q => by rw [if_neg (by rw [decide_eq_true_eq]; exact q)] at kk; exact kk)⟩
  · cases e)
theorem js_if_ne {off : Int} {t : Nat} (hd : decode cc pc = .ok (.ifCond .ne off, 3)) (ht0 : (pc : Int) + off = (t : Int)) : js_S own cc nL ini pc (jo_if (pc + 3) t (fun x => decide (¬ x = 0))) := js_pure (fun ls st h r e => by
  unfold jo_if at e
  split at e
  · cases e
    exact ⟨rfl, rfl, fun p l e R s m args below meth c H locs k n Q b z X hx hb ho ht hl kk => lv_if_ne hx hb hd ht0 (fun q => by rw [if_pos (decide_eq_true q)] at kk; exact kk) (fun q => by rw [if_neg (by rw [decide_eq_true_eq]; exact fun w => w q)] at kk; exact kk)⟩
  · cases e)
theorem js_ic_ne {off : Int} {t : Nat} (hd : decode cc pc = .ok (.if_icmp .ne off, 3)) (ht0 : (pc : Int) + off = (t : Int)) : js_S own cc nL ini pc (jo_ic (pc + 3) t (fun x y => decide (¬ x = y))) := js_pure (fun ls st h r e => by
  unfold jo_ic at e
  split at e
  · cases e
    exact ⟨rfl, rfl, fun p l e R s m args below meth c H locs k n Q b z X hx hb ho ht hl kk => lv_icmp_ne hx hb hd ht0 (fun q => by rw [if_pos (decide_eq_true q)] at kk; exact kk) (fun q => by rw [if_neg (by rw [decide_eq_true_eq]; exact fun w => w q)] at kk; exact kk)⟩
  · cases e)
theorem js_if_lt {off : Int} {t : Nat} (hd : decode cc pc = .ok (.ifCond .lt off, 3)) (ht0 : (pc : Int) + off = (t : Int)) : js_S own cc nL ini pc (jo_if (pc + 3) t (fun x => decide (x < 0))) := js_pure (fun ls st h r e => by
  unfold jo_if at e
  split at e
  · cases e
    exact ⟨rfl, rfl, fun p l e R s m args below meth c H locs k n Q b z X hx hb ho ht hl kk => lv_if_lt hx hb hd ht0 (fun q => by rw [if_pos (decide_eq_true q)] at kk; exact kk) (fun q => by rw [if_neg (by rw [decide_eq_true_eq]; exact q)] at kk; exact kk)⟩
  · cases e)
theorem js_ic_lt {off : Int} {t : Nat} (hd : decode cc pc = .ok (.if_icmp .lt off, 3)) (ht0 : (pc : Int) + off = (t : Int)) : js_S own cc nL ini pc (jo_ic (pc + 3) t (fun x y => decide (x < y))) := js_pure (fun ls st h r e => by
  unfold jo_ic at e
  split at e
  · cases e
    exact ⟨rfl, rfl, fun p l e R s m args below meth c H locs k n Q b z X hx hb ho ht hl kk => lv_icmp_lt hx hb hd ht0 (fun q => by rw [if_pos (decide_eq_true q)] at kk; exact kk) (fun q => by rw [if_neg (by rw [decide_eq_true_eq]; exact q)] at kk; exact kk)⟩
  · cases e)
theorem js_if_ge {off : Int} {t : Nat} (hd : decode cc pc = .ok (.ifCond .ge off, 3)) (ht0 : (pc : Int) + off = (t : Int)) : js_S own cc nL ini pc (jo_if (pc + 3) t (fun x => decide (0 ≤ x))) := js_pure (fun ls st h r e => by
  unfold jo_if at e
  split at e
  · cases e
    exact ⟨rfl, rfl, fun p l e R s m args below meth c H locs k n Q b z X hx hb ho ht hl kk => lv_if_ge hx hb hd ht0 (fun q => by rw [if_pos (decide_eq_true q)] at kk; exact kk) (fun q => by rw [if_neg (by rw [decide_eq_true_eq]; exact q)] at kk; exact kk)⟩
  · cases e)
theorem js_ic_ge {off : Int} {t : Nat} (hd : decode cc pc = .ok (.if_icmp .ge off, 3)) (ht0 : (pc : Int) + off = (t : Int)) : js_S own cc nL ini pc (jo_ic (pc + 3) t (fun x y => decide (y ≤ x))) := js_pure (fun ls st h r e => by
  unfold jo_ic at e
  split at e
  · cases e
    exact ⟨rfl, rfl, fun p l e R s m args below meth c H locs k n Q b z X hx hb ho ht hl kk => lv_icmp_ge hx hb hd ht0 (fun q => by rw [if_pos (decide_eq_true q)] at kk; exact kk) (fun q => by rw [if_neg (by rw [decide_eq_true_eq]; exact q)] at kk; exact kk)⟩
  · cases e)
theorem js_if_gt {off : Int} {t : Nat} (hd : decode cc pc = .ok (.ifCond .gt off, 3)) (ht0 : (pc : Int) + off = (t : Int)) : js_S own cc nL ini pc (jo_if (pc + 3) t (fun x => decide (0 < x))) := js_pure (fun ls st h r e => by
  unfold jo_if at e
  split at e
  · cases e
    exact ⟨rfl, rfl, fun p l e R s m args below meth c H locs k n Q b z X hx hb ho ht hl kk => lv_if_gt hx hb hd ht0 (fun q => by rw [if_pos (decide_eq_true q)] at kk; exact kk) (fun q => by rw [if_neg (by rw [decide_eq_true_eq]; exact q)] at kk; exact kk)⟩
  · cases e)
theorem js_ic_gt {off : Int} {t : Nat} (hd : decode cc pc = .ok (.if_icmp .gt off, 3)) (ht0 : (pc : Int) + off = (t : Int)) : js_S own cc nL ini pc (jo_ic (pc + 3) t (fun x y => decide (y < x))) := js_pure (fun ls st h r e => by
  unfold jo_ic at e
  split at e
  · cases e
    exact ⟨rfl, rfl, fun p l e R s m args below meth c H locs k n Q b z X hx hb ho ht hl kk => lv_icmp_gt hx hb hd ht0 (fun q => by rw [if_pos (decide_eq_true q)] at kk; exact kk) (fun q => by rw [if_neg (by rw [decide_eq_true_eq]; exact q)] at kk; exact kk)⟩
  · cases e)
theorem js_if_le {off : Int} {t : Nat} (hd : decode cc pc = .ok (.ifCond .le off, 3)) (ht0 : (pc : Int) + off = (t : Int)) : js_S own cc nL ini pc (jo_if (pc + 3) t (fun x => decide (x ≤ 0))) := js_pure (fun ls st h r e => by
  unfold jo_if at e
  split at e
  · cases e
    exact ⟨rfl, rfl, fun p l e R s m args below meth c H locs k n Q b z X hx hb ho ht hl kk => lv_if_le hx hb hd ht0 (fun q => by rw [if_pos (decide_eq_true q)] at kk; exact kk) (fun q => by rw [if_neg (by rw [decide_eq_true_eq]; exact q)] at kk; exact kk)⟩
  · cases e)
theorem js_ic_le {off : Int} {t : Nat} (hd : decode cc pc = .ok (.if_icmp .le off, 3)) (ht0 : (pc : Int) + off = (t : Int)) : js_S own cc nL ini pc (jo_ic (pc + 3) t (fun x y => decide (x ≤ y))) := js_pure (fun ls st h r e => by
  unfold jo_ic at e
  split at e
  · cases e
    exact ⟨rfl, rfl, fun p l e R s m args below meth c H locs k n Q b z X hx hb ho ht hl kk => lv_icmp_le hx hb hd ht0 (fun q => by rw [if_pos (decide_eq_true q)] at kk; exact kk) (fun q => by rw [if_neg (by rw [decide_eq_true_eq]; exact q)] at kk; exact kk)⟩
  · cases e)
theorem js_ifnn {off : Int} {t : Nat} (hd : decode cc pc = .ok (.ifnonnull off, 3)) (ht0 : (pc : Int) + off = (t : Int)) : js_S own cc nL ini pc (jo_nn (pc + 3) t) := js_pure (fun ls st h r e => by
  unfold jo_nn at e
  split at e
  · cases e
    exact ⟨rfl, rfl, fun p l e R s m args below meth c H locs k n Q b z X hx hb ho ht hl kk => lv_ifnonnull hx hb hd ht0 kk⟩
  · cases e
    exact ⟨rfl, rfl, fun p l e R s m args below meth c H locs k n Q b z X hx hb ho ht hl kk => lv_ifnonnullN hx hb hd kk⟩
  · cases e)
theorem js_dup (hd : decode cc pc = .ok (.dup, 1)) : js_S own cc nL ini pc (jo_d (pc + 1)) := js_pure (fun ls st h r e => by
  unfold jo_d at e
  split at e
  · next v rest =>
    split at e
    · next hc =>
      cases e
      exact ⟨rfl, rfl, fun p l e R s m args below meth c H locs k n Q b z X hx hb ho ht hl kk => lv_dup hx hb hd (js_v_c1 hc) kk⟩
    · cases e
  · cases e)
theorem js_dup2 (hd : decode cc pc = .ok (.dup2, 1)) : js_S own cc nL ini pc (jo_d2 (pc + 1)) := js_pure (fun ls st h r e => by
  unfold jo_d2 at e
  split at e
  · next v w rest =>
    split at e
    · next hc =>
      cases e
      exact ⟨rfl, rfl, fun p l e R s m args below meth c H locs k n Q b z X hx hb ho ht hl kk => lv_dup2_11 hx hb hd (js_v_c1 hc.1) (js_v_c1 hc.2) kk⟩
    · cases e
  · cases e)
theorem js_pop (hd : decode cc pc = .ok (.pop, 1)) : js_S own cc nL ini pc (jo_p (pc + 1)) := js_pure (fun ls st h r e => by
  unfold jo_p at e
  split at e
  · next v rest =>
    split at e
    · next hc =>
      cases e
      exact ⟨rfl, rfl, fun p l e R s m args below meth c H locs k n Q b z X hx hb ho ht hl kk => lv_pop hx hb hd (js_v_c1 hc) kk⟩
    · cases e
  · cases e)
/-- where a tableswitch goes -/
def js_swt (pc : Nat) (dflt lo hi : Int) (offs : List Int) (x : Int32) : Nat := if x.toInt < lo ∨ hi < x.toInt then ((pc : Int) + dflt).toNat else ((pc : Int) + (offs[(x.toInt - lo).toNat]?).getD 0).toNat
theorem js_tsw {dflt lo hi : Int} {offs : Array Int} {len : Nat} (hd : decode cc pc = .ok (.tableswitch dflt lo hi offs, len)) (h0 : 0 ≤ (pc : Int) + dflt) (h1 : offs.toList.all (fun o => decide (0 ≤ (pc : Int) + o)) = true) (h2 : hi < lo + offs.size) : js_S own cc nL ini pc (jo_sw (js_swt pc dflt lo hi offs.toList)) := js_pure (fun ls st h r e => by
  unfold jo_sw at e
  split at e
  · next x rest =>
    cases e
    refine ⟨rfl, rfl, fun p l e R s m args below meth c H locs k n Q b z X hx hb ho ht hl kk => ?_⟩
    dsimp only at kk
    by_cases hx0 : x.toInt < lo ∨ hi < x.toInt
    · rw [js_swt, if_pos hx0] at kk
      exact lv_tableOut hx hb hd hx0 (by omega) kk
    · rw [js_swt, if_neg hx0] at kk
      have hlt : (x.toInt - lo).toNat < offs.size := by omega
      have hg : offs[(x.toInt - lo).toNat]? = some offs[(x.toInt - lo).toNat] := Array.getElem?_eq_getElem hlt
      rw [Array.getElem?_toList, hg] at kk
      dsimp only [Option.getD] at kk
      have hm := List.all_eq_true.mp h1 offs[(x.toInt - lo).toNat] (Array.mem_toList_iff.mpr (Array.getElem_mem hlt))
      rw [decide_eq_true_eq] at hm
      exact lv_tableIn hx hb hd (fun q => hx0 (Or.inl q)) (fun q => hx0 (Or.inr q)) hg (by omega) kk
  · cases e)
end JSS
