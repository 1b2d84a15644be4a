/-! ===== what the pure machine does, the machine does: calls, returns, runs ===== -/
theorem js_R.moved {D : va_G} {G : Nat → ClassId} {b z : Nat} {s t : State} {h : jxH} {H : Heap} (hvm : s.vm.Alike t.vm) (hR : js_R D G b z s h H) : js_R D G b z t h H := by
  obtain ⟨r1, r2, r3, r4, r5, L, xs, r6, r7⟩ := hR
  exact ⟨r1, r2, r3, r4, r5, L, xs, r6, r7.moved hvm⟩
theorem js_AOA {t : FieldType} {u U : State} (hvm : u.vm.Alike U.vm) (h : (Cond.arrayOver (.array t)).before #[] u = true) : (Cond.arrayOver (.array t)).before #[] U = true := by
  obtain ⟨comp, c, k, h1, h2, h3, h4, h5⟩ := arrayOverA_spec h
  obtain ⟨k', hk', he⟩ := hvm.2.2 _ _ h3
  have hi : (U.vm.classes.findIdx? fun (x : Class) => match x.kind with | .array component _ => component == comp | _ => false) = some c := by
    have hb : ∀ vm : Vm, (vm.bare.classes.findIdx? fun (x : Class) => match x.kind with | .array component _ => component == comp | _ => false) = (vm.classes.findIdx? fun (x : Class) => match x.kind with | .array component _ => component == comp | _ => false) := fun vm => by
      simp only [Vm.bare, Array.findIdx?_map]
      rfl
    have h2' : (u.vm.classes.findIdx? fun (x : Class) => match x.kind with | .array component _ => component == comp | _ => false) = some c := h2
    rw [← hb] at h2' ⊢
    first | (rw [hvm.bare_eq]; exact h2') | (rw [← hvm.bare_eq]; exact h2')
  have hkind : k'.kind = .array comp (.array t) := by rw [he]; exact h4
  have f1 : U.vm.findClass (FieldType.array t).toString = some comp := by rw [hvm.findClass]; exact h1
  have f2 : U.vm.findClass ("[" ++ (FieldType.array t).toString) = some c := by rw [hvm.findClass]; exact h5
  unfold Cond.before Cond.holds
  simp only [Cond.value]
  rw [f1, Option.bind_some]
  refine (congrArg (fun o : Option Nat => (o.bind (fun c => (U.vm.classes[c]?).map fun (k : Class) => match k.kind with | .array _ ty => decide (ty = FieldType.array t) && decide (U.vm.findClass ("[" ++ (FieldType.array t).toString) = some c) | _ => false) == some true)) hi).trans ?_
  simp [hk', hkind, f2]
theorem js_nl_warm {w : Cond} (hw : w ∈ js_nl) {s U : State} (hW : s.WarmedH U.vm) (h : va_Nw w s) : va_Nw w U := by
  simp only [js_nl, List.mem_cons, List.not_mem_nil, or_false] at hw
  rcases hw with rfl | rfl | rfl | rfl | rfl | rfl | rfl | rfl | rfl | rfl <;> exact va_Nw.warmM hW h
theorem js_nl_tab {w : Cond} (hw : w ∈ js_nl) : w.onTables = true := by
  simp only [js_nl, List.mem_cons, List.not_mem_nil, or_false] at hw
  rcases hw with rfl | rfl | rfl | rfl | rfl | rfl | rfl | rfl | rfl | rfl <;> rfl
theorem js_K.warm {D : va_G} {G : Nat → ClassId} {s U : State} (hW : s.WarmedH U.vm) (h : js_K D G s) : js_K D G U :=
  ⟨va_K.moved hW.alike h.1, fun w hw => js_nl_warm hw hW (h.2.1 w hw), va_Nw.warmC hW h.2.2.1, va_AO.moved hW.alike h.2.2.2.1, va_AO.moved hW.alike h.2.2.2.2.1, js_AOA hW.alike h.2.2.2.2.2⟩
theorem js_K.same {D : va_G} {G : Nat → ClassId} {s U : State} (hv : s.vm = U.vm) (h : js_K D G s) : js_K D G U := by
  have ha : s.vm.Alike U.vm := by rw [hv]; exact Vm.Alike.refl _
  exact ⟨va_K.moved ha h.1, fun w hw => va_Nw.same (js_nl_tab hw) hv (h.2.1 w hw), va_Nw.same rfl hv h.2.2.1, va_AO.moved ha h.2.2.2.1, va_AO.moved ha h.2.2.2.2.1, js_AOA ha h.2.2.2.2.2⟩
theorem js_T_good {w : Cond} (hw : w ∈ js_T) : (w.onTables && w.keeps) = true ∨ ∃ ty, w = .arrayClass ty := good_of_word (List.mem_filter.mp hw).2
/-- a method as the tables have it: name, bytes, locals, what it returns -/
abbrev jsM : Type := MethodName × ByteArray × Nat × Option FieldType
def js_meth (y : jsM) : Prop := plainName y.1.cls = true ∧ Cond.code y.1 y.2.1 y.2.2.1 y.2.2.2 ∈ js_T ∧ Cond.initialized y.1.cls ∈ js_T ∧ y.1.cls ≠ "java/lang/invoke/MethodHandle" ∧ y.1.cls ≠ "java/lang/invoke/VarHandle" ∧ y.2.2.1 ≤ 22
def js_ret (cc : ByteArray) (pc : Nat) (ret : Option FieldType) (r : Nat) : Prop :=
  (r = 0 ∧ ret = none ∧ decode cc pc = .ok (.return_, 1)) ∨ (r = 1 ∧ ret = some .int ∧ decode cc pc = .ok (.ireturn, 1)) ∨ (r = 2 ∧ ret = some .boolean ∧ decode cc pc = .ok (.ireturn, 1)) ∨ (r = 3 ∧ ret = some (.array .int) ∧ decode cc pc = .ok (.areturn, 1))
def js_call (inf : Nat → jsM) (own : String) (cc : ByteArray) (pc y k nx : Nat) (ck : Option Nat) : Prop :=
  nx = pc + 3 ∧ js_meth (inf y) ∧ k ≤ (inf y).2.2.1 ∧ ∃ index : Nat,
    (decode cc pc = .ok (.invokevirtual index, 3) ∧ ∃ (c : Nat) (r : vw_C), ck = some c ∧ vwCl[c]? = some r ∧ (inf y).1.cls = r.1 ∧ (parseMethodDescriptor (inf y).1.desc).map (fun d => d.parameters.length) = some (k - 1) ∧ 1 ≤ k ∧ Cond.methodLink own index (inf y).1 ∈ js_T ∧ Cond.instanceMethod (inf y).1 ∈ js_T ∧ Cond.selects r.1 (inf y).1 (inf y).1 ∈ js_T) ∨
    (decode cc pc = .ok (.invokestatic index, 3) ∧ ck = none ∧ (parseMethodDescriptor (inf y).1.desc).map (fun d => d.parameters.length) = some k ∧ Cond.static (inf y).1 ∈ js_T ∧ (Cond.methodLink own index (inf y).1 ∈ js_T ∨ Cond.methodLinkNest own index (inf y).1 RX11 ∈ js_nl)) ∨
    (decode cc pc = .ok (.invokespecial index, 3) ∧ (inf y).1.name = "<init>" ∧ (inf y).2.2.2 = none ∧ (∃ c : Nat, ck = some c) ∧ (parseMethodDescriptor (inf y).1.desc).map (fun d => d.parameters.length) = some (k - 1) ∧ 1 ≤ k ∧ Cond.instanceMethod (inf y).1 ∈ js_T ∧ (Cond.methodLink own index (inf y).1 ∈ js_T ∨ Cond.methodLinkNest own index (inf y).1 RX11 ∈ js_nl))
def js_I (inf : Nat → jsM) (M pc : Nat) (i : jxI) : Prop := match i with
  | .inl o => js_S (inf M).1.cls (inf M).2.1 (inf M).2.2.1 (decide ((inf M).1.name = "<init>")) pc o
  | .inr (.inl (y, k, nx, ck)) => js_call inf (inf M).1.cls (inf M).2.1 pc y k nx ck
  | .inr (.inr r) => js_ret (inf M).2.1 pc (inf M).2.2.2 r
/-- the program as the tables have it -/
def js_P (P : jxM) (inf : Nat → jsM) : Prop := ∀ M pc i, (P M).2 pc = some i → (inf M).2.2.1 ≤ (P M).1 ∧ js_I inf M pc i
def js_room (d k n : Nat) : Room := { frames := d + 1, cells := k, slots := n, locals := 41 * d + 100 }
/-- what is to be shown of a run -/
def js_ok (P : jxM) (inf : Nat → jsM) (n : Nat) : Prop := ∀ (d M pc : Nat) (ls st : List Value) (h : jxH) (pcf : Nat) (stf : List Value) (hf : jxH), jx_run P n d M pc ls st h = some (pcf, stf, hf) →
  (h.1 ≤ hf.1 ∧ h.2.1 ≤ hf.2.1 ∧ ∃ r, (P M).2 pcf = some (.inr (.inr r)) ∧ jx_okr r stf = true) ∧
  ∀ (p : Program) (l : Launch) (e : Env) (R : Room) (s : State) (m : MethodId) (args : Array Value) (below : List Frame) (meth : Method) (c : Code) (Q : State → Prop) (D : va_G) (G : Nat → ClassId) (b z : Nat) (H0 : Heap) (k0 n0 : Nat), CallFix p m c (inf M).2.1 (inf M).2.2.1 s args js_T (inf M).1.cls → js_K D G s → (decide ((inf M).1.name = "<init>") = true → meth.name = "<init>") → d + 1 ≤ R.frames → 41 * d + 100 ≤ R.locals → hf.1 - k0 ≤ R.cells → hf.2.1 - n0 ≤ R.slots →
    (∀ (H : Heap) (locs : List Loc) (X : Array Slot), js_R D G b z s hf H → va_S (fun q => z < q) H0 H locs → k0 ≤ hf.1 → n0 ≤ hf.2.1 → W p l e R s m args below meth c H locs (hf.1 - k0) (hf.2.1 - n0) Q (F0 m pcf X (stf.map (js_v b z)))) →
    js_W p l e R s m args below meth c Q D G b z H0 k0 n0 (inf M).2.2.1 pc ls st h
def js_Pc (D : va_G) (G : Nat → ClassId) (b z : Nat) (av : List Value) (h : jxH) : Array Value → State → Prop := va_Pc av (fun U => js_R D G b z U h U.heap ∧ js_K D G U)
def js_Qc (D : va_G) (G : Nat → ClassId) (b z : Nat) (stf : List Value) (hf : jxH) : Array Value → State → Outcome → State → Prop := fun _ st oc t => oc = .returned (stf.map (js_v b z)).head? ∧ js_R D G b z t hf t.heap ∧ va_F (fun q => z < q) st t
theorem js_blind {D : va_G} {G : Nat → ClassId} {b z : Nat} {av : List Value} {h : jxH} : FrameBlind (js_Pc D G b z av h) := by
  intro a U g mk ⟨e, hR, hK⟩
  exact ⟨e, js_R.moved (s := U) (t := U.calling g mk a) (Vm.Alike.refl U.vm) hR, js_K.same (s := U) (U := U.calling g mk a) rfl hK⟩
theorem js_okr_len {r : Nat} {st : List Value} (h : jx_okr r st = true) : st.length ≤ 1 := by
  unfold jx_okr at h
  split at h <;> first | (simp; done) | (cases h)
theorem js_okr0 : ∀ {st : List Value}, jx_okr 0 st = true → st = []
  | [], _ => rfl
  | _ :: _, h => by simp [jx_okr] at h
theorem js_okr1 : ∀ {st : List Value}, jx_okr 1 st = true → ∃ x, st = [.int x]
  | [], h => by simp [jx_okr] at h
  | [v], h => by cases v <;> first | exact ⟨_, rfl⟩ | (simp [jx_okr] at h)
  | _ :: _ :: _, h => by simp [jx_okr] at h
theorem js_okr2 : ∀ {st : List Value}, jx_okr 2 st = true → ∃ x, st = [.int x] ∧ (x = 0 ∨ x = 1)
  | [], h => by simp [jx_okr] at h
  | [v], h => by cases v <;> first | exact ⟨_, rfl, by simpa [jx_okr] using h⟩ | (simp [jx_okr] at h)
  | _ :: _ :: _, h => by simp [jx_okr] at h
theorem js_okr3 : ∀ {st : List Value}, jx_okr 3 st = true → ∃ x, st = [.ref x]
  | [], h => by simp [jx_okr] at h
  | [v], h => by cases v <;> first | exact ⟨_, rfl⟩ | (simp [jx_okr] at h)
  | _ :: _ :: _, h => by simp [jx_okr] at h
/-- a method's contract at these arguments and this heap -/
theorem js_met {P : jxM} {inf : Nat → jsM} (hP : js_P P inf) {n : Nat} (ih : js_ok P inf n) {d y N : Nat} {av : List Value} {h : jxH} {pcf : Nat} {stf : List Value} {hf : jxH} (hm : js_meth (inf y)) (hN : (inf y).2.2.1 ≤ N) (hrun : jx_run P n d y 0 (av ++ List.replicate (N - av.length) jx_u) [] h = some (pcf, stf, hf)) (hav : ∀ v ∈ av, jx_c1 v = true) (hlen : av.length ≤ (inf y).2.2.1) (l : Launch) (D : va_G) (G : Nat → ClassId) (b z : Nat) :
    Met l (inf y).1 (Cond.code (inf y).1 (inf y).2.1 (inf y).2.2.1 (inf y).2.2.2 :: js_T) (js_room d (hf.1 - h.1) (hf.2.1 - h.2.1)) (js_Pc D G b z (av.map (js_v b z)) h) (js_Qc D G b z stf hf) (hf.1 - h.1) (hf.2.1 - h.2.1) (fun q => z < q) := by
  obtain ⟨⟨m1, m2, r, hr, hok⟩, body⟩ := ih d y 0 _ _ h pcf stf hf hrun
  refine Met.ofW (cc := (inf y).2.1) (maxL := (inf y).2.2.1) (ret := (inf y).2.2.2) hm.1 rfl ?_
  intro p e s m args below meth c s₁ B hml hv
  obtain ⟨rfl, hR, hK⟩ := hv
  have hts := atoms_spec (ws := Cond.code (inf y).1 (inf y).2.1 (inf y).2.2.1 (inf y).2.2.2 :: js_T) B.pre
  have hlocks := B.notSynchronized
  have S : CallFix p m c (inf y).2.1 (inf y).2.2.1 s (av.map (js_v b z)).toArray js_T (inf y).1.cls := ⟨B.exec, B.bytes, hml, findClass_of_methodNamed B.named, fun w hw => hts w (List.mem_cons_of_mem _ hw)⟩
  have hret : js_ret (inf y).2.1 pcf (inf y).2.2.2 r := (hP y pcf _ hr).2
  have key := body p l e (js_room d (hf.1 - h.1) (hf.2.1 - h.2.1)) s m (av.map (js_v b z)).toArray below meth c (MQ below (js_Qc D G b z stf hf) (av.map (js_v b z)).toArray s (hf.1 - h.1) (hf.2.1 - h.2.1) (fun q => z < q)) D G b z s.heap h.1 h.2.1 S hK (fun q => ((name_of_methodNamed B.named B.method).1).trans (of_decide_eq_true q)) (Nat.le_refl _) (Nat.le_refl _) (Nat.le_refl _) (Nat.le_refl _) (fun H locs X hR' hS' _ _ => by
    have hq : ∀ t : State, t.heap = H → s.WarmedH t.vm → js_R D G b z t hf t.heap ∧ va_F (fun q => z < q) s t := fun t ht hW => ⟨by rw [ht]; exact hR'.moved hW.alike, hS'.F ht⟩
    rcases hret with ⟨rfl, e1, e2⟩ | ⟨rfl, e1, e2⟩ | ⟨rfl, e1, e2⟩ | ⟨rfl, e1, e2⟩
    · have := js_okr0 hok
      subst this
      exact W.vret B.exec B.bytes (B.returns.trans e1) (fun t ht hW => ⟨rfl, hq t ht hW⟩) hS'.2.2 e2
    · obtain ⟨x, rfl⟩ := js_okr1 hok
      exact W.iret B.exec B.bytes (B.returns.trans e1) (fun t ht hW => ⟨rfl, hq t ht hW⟩) hS'.2.2 e2
    · obtain ⟨x, rfl, hx⟩ := js_okr2 hok
      exact W.zret B.exec B.bytes (B.returns.trans e1) (by rcases hx with rfl | rfl <;> rfl) (fun t ht hW => ⟨rfl, hq t ht hW⟩) hS'.2.2 e2
    · obtain ⟨x, rfl⟩ := js_okr3 hok
      exact W.aret B.exec B.bytes (B.returns.trans e1) (Or.inr ⟨_, rfl⟩) (Or.inr ⟨_, rfl⟩) (fun t ht hW => ⟨rfl, hq t ht hW⟩) hS'.2.2 e2)
  have hent := js_entry (b := b) (z := z) (nL := (inf y).2.2.1) hN hav hlen
  have w0 := key s.heap [] _ hent hR va_S.rf (Nat.le_refl _) (Nat.le_refl _)
  rw [Nat.sub_self, Nat.sub_self] at w0
  rw [lg_entry_eq]
  exact w0
section JSC
variable {p : Program} {l : Launch} {e : Env} {R : Room} {s : State} {m : MethodId} {args : Array Value} {below : List Frame} {meth : Method} {c : Code} {H : Heap} {locs : List Loc} {cells slots : Nat} {Q : State → Prop}
theorem js_after {D : va_G} {G : Nat → ClassId} {b z mc ms pc : Nat} {stf : List Value} {hf : jxH} {H0 : Heap} {X : Array Slot} {st0 rest : List Value} {a : Array Value} (hl : stf.length ≤ 1) (hr : va_Run p l e R s m args below meth c H locs cells slots mc ms (F0 m pc X st0) rest (js_Qc D G b z stf hf a) (fun q => z < q)) (hS : va_S (fun q => z < q) H0 H locs)
    (kk : ∀ (H1 : Heap) (locs1 : List Loc), js_R D G b z s hf H1 → va_S (fun q => z < q) H0 H1 locs1 → W p l e R s m args below meth c H1 locs1 (cells + mc) (slots + ms) Q (F0 m (pc + 3) X (stf.map (js_v b z) ++ rest))) : W p l e R s m args below meth c H locs cells slots Q (F0 m pc X st0) := by
  intro T hT XT
  obtain ⟨v, st₀, t, T', L, h0, X', hL, e1, e2, ⟨hv, hR, hz, hk⟩, st⟩ := hr T hT XT
  cases hv
  rw [h0] at hz hk
  have hvl : (stf.map (js_v b z)).head?.toList = stf.map (js_v b z) := by
    match stf, hl with
    | [], _ => rfl
    | [_], _ => rfl
  have hR' : js_R D G b z s hf T'.heap := by
    rw [e1]
    refine hR.moved ?_
    rw [← e2]
    exact X'.warmed.alike.symm
  obtain ⟨t2, a1, b1⟩ := kk T'.heap (locs ++ L) hR' ⟨Nat.le_trans hS.1 (by rw [e1]; exact hz), fun q h1 h2 => by rw [e1, hk q (Nat.lt_of_lt_of_le h1 hS.1) h2]; exact hS.2.1 q h1 h2, fun q hq => by
      rcases List.mem_append.mp hq with h | h
      · exact hS.2.2 q h
      · exact hL q h⟩ T' rfl X'
  rw [← hvl] at a1
  exact ⟨t2, st t2 a1, b1⟩
end JSC
