/-! ===== the steps ===== -/
def jx_in (i : Int32) (n : Nat) : Prop := ¬ i < 0 ∧ i.toNatClampNeg < n
def jx_inB (i : Int32) (n : Nat) : Bool := decide (¬ i < 0) && decide (i.toNatClampNeg < n)
theorem jx_inB_iff {i : Int32} {n : Nat} : jx_inB i n = true ↔ jx_in i n := by simp [jx_inB, jx_in]
def jx_si (ls : List Value) (L i : Nat) (v : Value) : List Value := ((ls.set i v).set (L + i) jx_u).set (L + 1 + i) jx_u
def jo_c (n : Nat) (x : Int32) : jxO := fun ls st h => some (n, ls, .int x :: st, h)
def jo_cl (n : Nat) (x : Int64) : jxO := fun ls st h => some (n, ls, .long x :: st, h)
def jo_il (n i : Nat) : jxO := fun ls st h => match ls[i]? with
  | some (.int x) => some (n, ls, .int x :: st, h)
  | _ => none
def jo_al (n i : Nat) : jxO := fun ls st h => match ls[i]? with
  | some (.ref x) => some (n, ls, .ref x :: st, h)
  | _ => none
def jo_ll (n L i : Nat) : jxO := fun ls st h => match ls[L + 1 + i]? with
  | some (.long x) => some (n, ls, .long x :: st, h)
  | _ => none
def jo_is (n L i : Nat) : jxO := fun ls st h => match st with
  | .int x :: r => some (n, jx_si ls L i (.int x), r, h)
  | _ => none
def jo_as (n L i : Nat) : jxO := fun ls st h => match st with
  | .ref x :: r => some (n, jx_si ls L i (.ref x), r, h)
  | _ => none
def jo_ls (n L i : Nat) : jxO := fun ls st h => match st with
  | .long x :: r => some (n, ((((ls.set i jx_u).set (i + 1) jx_u).set (L + i) jx_u).set (L + 1 + i) (.long x)).set (L + 2 + i) jx_u, r, h)
  | _ => none
def jo_inc (n L i : Nat) (k : Int32) : jxO := fun ls st h => match ls[i]? with
  | some (.int x) => some (n, jx_si ls L i (.int (x + k)), st, h)
  | _ => none
def jo_b (n : Nat) (f : Int32 → Int32 → Int32) : jxO := fun ls st h => match st with
  | .int y :: .int x :: r => some (n, ls, .int (f x y) :: r, h)
  | _ => none
def jo_q (n : Nat) (f : Int32 → Int32 → Int32) : jxO := fun ls st h => match st with
  | .int y :: .int x :: r => if y = 0 then none else some (n, ls, .int (f x y) :: r, h)
  | _ => none
def jo_1 (n : Nat) (f : Int32 → Int32) : jxO := fun ls st h => match st with
  | .int x :: r => some (n, ls, .int (f x) :: r, h)
  | _ => none
def jo_i2l (n : Nat) : jxO := fun ls st h => match st with
  | .int x :: r => some (n, ls, .long x.toInt64 :: r, h)
  | _ => none
def jo_lb (n : Nat) (f : Int64 → Int64 → Int64) : jxO := fun ls st h => match st with
  | .long y :: .long x :: r => some (n, ls, .long (f x y) :: r, h)
  | _ => none
def jo_lc (n : Nat) : jxO := fun ls st h => match st with
  | .long y :: .long x :: r => some (n, ls, .int (lg_cmp x y) :: r, h)
  | _ => none
def jo_if (n t : Nat) (p : Int32 → Bool) : jxO := fun ls st h => match st with
  | .int x :: r => some (if p x = true then t else n, ls, r, h)
  | _ => none
def jo_ic (n t : Nat) (p : Int32 → Int32 → Bool) : jxO := fun ls st h => match st with
  | .int y :: .int x :: r => some (if p x y = true then t else n, ls, r, h)
  | _ => none
def jo_go (t : Nat) : jxO := fun ls st h => some (t, ls, st, h)
def jo_nn (n t : Nat) : jxO := fun ls st h => match st with
  | .ref _ :: r => some (t, ls, r, h)
  | .null :: r => some (n, ls, r, h)
  | _ => none
def jo_sw (f : Int32 → Nat) : jxO := fun ls st h => match st with
  | .int x :: r => some (f x, ls, r, h)
  | _ => none
def jo_d (n : Nat) : jxO := fun ls st h => match st with
  | v :: r => if jx_c1 v = true then some (n, ls, v :: v :: r, h) else none
  | _ => none
def jo_d2 (n : Nat) : jxO := fun ls st h => match st with
  | v :: w :: r => if jx_c1 v = true ∧ jx_c1 w = true then some (n, ls, v :: w :: v :: w :: r, h) else none
  | _ => none
def jo_p (n : Nat) : jxO := fun ls st h => match st with
  | v :: r => if jx_c1 v = true then some (n, ls, r, h) else none
  | _ => none
def jo_oi (n : Nat) : jxO := fun ls st h => match st with
  | .ref _ :: r => if r.length ≤ 4 then some (n, ls, r, h) else none
  | _ => none
def jo_gf (n c k : Nat) : jxO := fun ls st h => match st with
  | .ref a :: r => (jx_fl h a c k).map (fun v => (n, ls, v :: r, h))
  | _ => none
/-- what a field takes: 0 an int, 1 a truth value, 2 a reference -/
def jx_fit (t : Nat) (v : Value) : Bool := match t, v with
  | 0, .int _ => true
  | 1, .int x => x == 0 || x == 1
  | 2, .ref _ => true
  | _, _ => false
def jo_pf (n c k t : Nat) : jxO := fun ls st h => match st with
  | v :: .ref a :: r => if jx_fit t v = true then (jx_fl h a c k).map (fun _ => (n, ls, r, jx_uf h a k v)) else none
  | _ => none
def jo_ia (n : Nat) : jxO := fun ls st h => match st with
  | .int i :: .ref a :: r => match jx_ai h a with
    | some x => if jx_inB i x.1 = true then some (n, ls, .int (x.2 i.toNatClampNeg) :: r, h) else none
    | none => none
  | _ => none
def jo_sa (n : Nat) : jxO := fun ls st h => match st with
  | .int i :: .ref 0 :: r => match jx_sc h 0 with
    | some x => if jx_inB i x.1 = true then some (n, ls, .int (x.2 i.toNatClampNeg) :: r, h) else none
    | none => none
  | _ => none
def jo_la (n : Nat) : jxO := fun ls st h => match st with
  | .int i :: .ref a :: r => match jx_al h a with
    | some x => if jx_inB i x.1 = true then some (n, ls, .long (x.2 i.toNatClampNeg) :: r, h) else none
    | none => none
  | _ => none
def jx_rv (r : Option Nat) : Value := match r with
  | none => .null
  | some a => .ref a
def jo_ra (n t : Nat) : jxO := fun ls st h => match st with
  | .int i :: .ref a :: r => match jx_ar h a t with
    | some x => if jx_inB i x.1 = true then some (n, ls, jx_rv (x.2 i.toNatClampNeg) :: r, h) else none
    | none => none
  | _ => none
def jo_iw (n : Nat) : jxO := fun ls st h => match st with
  | .int v :: .int i :: .ref a :: r => match jx_ai h a with
    | some x => if jx_inB i x.1 = true then some (n, ls, r, jx_wi h a x.1 (upd x.2 i.toNatClampNeg v)) else none
    | none => none
  | _ => none
def jo_lw (n : Nat) : jxO := fun ls st h => match st with
  | .long v :: .int i :: .ref a :: r => match jx_al h a with
    | some x => if jx_inB i x.1 = true then some (n, ls, r, jx_wl h a x.1 (vp_updL x.2 i.toNatClampNeg v)) else none
    | none => none
  | _ => none
def jo_rw (n t c : Nat) : jxO := fun ls st h => match st with
  | .ref v :: .int i :: .ref a :: r => match jx_ar h a t with
    | some x => if jx_inB i x.1 = true ∧ jx_cl h v = some c then some (n, ls, r, jx_wr h a t x.1 (va_up x.2 i.toNatClampNeg (some v))) else none
    | none => none
  | _ => none
def jo_len (n : Nat) : jxO := fun ls st h => match st with
  | .ref a :: r => (jx_ai h a).map (fun x => (n, ls, .int (nI x.1) :: r, h))
  | _ => none
def jo_sl (n : Nat) : jxO := fun ls st h => match st with
  | .ref 0 :: r => (jx_sc h 0).map (fun x => (n, ls, .int (nI x.1) :: r, h))
  | _ => none
def jo_nw (n c : Nat) (fs : List Value) : jxO := fun ls st h => some (n, ls, .ref h.1 :: st, jx_mk h fs.length (.inr (c, fs)))
def jo_ni (n : Nat) : jxO := fun ls st h => match st with
  | .int x :: r => if jx_inB x 1000000 = true then some (n, ls, .ref h.1 :: r, jx_mk h x.toNatClampNeg (.inl (0, x.toNatClampNeg, .inl (fun _ => 0)))) else none
  | _ => none
def jo_nj (n : Nat) : jxO := fun ls st h => match st with
  | .int x :: r => if jx_inB x 1000000 = true then some (n, ls, .ref h.1 :: r, jx_mk h x.toNatClampNeg (.inl (1, x.toNatClampNeg, .inr (.inl (fun _ => 0))))) else none
  | _ => none
def jo_nr (n t : Nat) : jxO := fun ls st h => match st with
  | .int x :: r => if jx_inB x 1000000 = true then some (n, ls, .ref h.1 :: r, jx_mk h x.toNatClampNeg (.inl (t, x.toNatClampNeg, .inr (.inr (.inr (.inr (fun _ => none))))))) else none
  | _ => none
def jo_mm (n : Nat) : jxO := fun ls st h => match st with
  | .int k :: .int x :: r => if jx_inB x 1000000 = true ∧ jx_inB k 1000000 = true then some (n, ls, .ref h.1 :: r, jx_mm h x.toNatClampNeg k.toNatClampNeg) else none
  | _ => none
def jo_cp (n : Nat) : jxO := fun ls st h => match st with
  | .int m :: .int dp :: .ref b :: .int sp :: .ref a :: r => match jx_ai h a with
    | some x => match jx_ai h b with
      | some y => if r.length ≤ 4 ∧ ¬ sp < 0 ∧ ¬ dp < 0 ∧ ¬ m < 0 ∧ sp.toNatClampNeg + m.toNatClampNeg ≤ x.1 ∧ dp.toNatClampNeg + m.toNatClampNeg ≤ y.1 then some (n, ls, r, jx_wi h b y.1 (va_cpy x.2 y.2 sp.toNatClampNeg dp.toNatClampNeg m.toNatClampNeg)) else none
      | none => none
    | none => none
  | _ => none
def jo_cn (n : Nat) : jxO := fun ls st h => match st with
  | .ref a :: r => match jx_ai h a with
    | some x => if r.length ≤ 4 then some (n, ls, .ref h.1 :: r, jx_mk h x.1 (.inl (0, x.1, .inl x.2))) else none
    | none => none
  | _ => none
def jo_ct (n : Nat) : jxO := fun ls st h => match st with
  | .ref a :: r => (jx_ai h a).map (fun _ => (n, ls, .ref a :: r, h))
  | _ => none
/-! ===== what they do, for a walk ===== -/
section JGS
variable {P : jxM} {d M pc n t i L c k : Nat} {ls st : List Value} {h : jxH} {Q : List Value → jxH → Prop} {x y z : Int32} {u w : Int64} {a b : Nat} {v : Value}
theorem jg_c (hc : (P M).2 pc = some (.inl (jo_c n x))) : jx_Go P d M pc ls st h Q ↔ jx_Go P d M n ls (.int x :: st) h Q := jx_op hc rfl
theorem jg_cl (hc : (P M).2 pc = some (.inl (jo_cl n u))) : jx_Go P d M pc ls st h Q ↔ jx_Go P d M n ls (.long u :: st) h Q := jx_op hc rfl
theorem jg_il (hc : (P M).2 pc = some (.inl (jo_il n i))) (hl : ls[i]? = some (.int x)) : jx_Go P d M pc ls st h Q ↔ jx_Go P d M n ls (.int x :: st) h Q := jx_op hc (by simp only [jo_il, hl])
theorem jg_al (hc : (P M).2 pc = some (.inl (jo_al n i))) (hl : ls[i]? = some (.ref a)) : jx_Go P d M pc ls st h Q ↔ jx_Go P d M n ls (.ref a :: st) h Q := jx_op hc (by simp only [jo_al, hl])
theorem jg_ll (hc : (P M).2 pc = some (.inl (jo_ll n L i))) (hl : ls[L + 1 + i]? = some (.long u)) : jx_Go P d M pc ls st h Q ↔ jx_Go P d M n ls (.long u :: st) h Q := jx_op hc (by simp only [jo_ll, hl])
theorem jg_is {ls' : List Value} (hc : (P M).2 pc = some (.inl (jo_is n L i))) (hl : jx_si ls L i (.int x) = ls') : jx_Go P d M pc ls (.int x :: st) h Q ↔ jx_Go P d M n ls' st h Q := jx_op hc (by subst hl; rfl)
theorem jg_as {ls' : List Value} (hc : (P M).2 pc = some (.inl (jo_as n L i))) (hl : jx_si ls L i (.ref a) = ls') : jx_Go P d M pc ls (.ref a :: st) h Q ↔ jx_Go P d M n ls' st h Q := jx_op hc (by subst hl; rfl)
theorem jg_ls {ls' : List Value} (hc : (P M).2 pc = some (.inl (jo_ls n L i))) (hl : ((((ls.set i jx_u).set (i + 1) jx_u).set (L + i) jx_u).set (L + 1 + i) (.long u)).set (L + 2 + i) jx_u = ls') : jx_Go P d M pc ls (.long u :: st) h Q ↔ jx_Go P d M n ls' st h Q := jx_op hc (by subst hl; rfl)
theorem jg_inc {ls' : List Value} (hc : (P M).2 pc = some (.inl (jo_inc n L i y))) (hx : ls[i]? = some (.int x)) (hl : jx_si ls L i (.int (x + y)) = ls') : jx_Go P d M pc ls st h Q ↔ jx_Go P d M n ls' st h Q := jx_op hc (by subst hl; simp only [jo_inc, hx])
theorem jg_b {f : Int32 → Int32 → Int32} (hc : (P M).2 pc = some (.inl (jo_b n f))) : jx_Go P d M pc ls (.int y :: .int x :: st) h Q ↔ jx_Go P d M n ls (.int (f x y) :: st) h Q := jx_op hc rfl
theorem jg_q {f : Int32 → Int32 → Int32} (hc : (P M).2 pc = some (.inl (jo_q n f))) : jx_Go P d M pc ls (.int y :: .int x :: st) h Q ↔ (¬ y = 0 ∧ jx_Go P d M n ls (.int (f x y) :: st) h Q) := by
  by_cases hy : y = 0
  · rw [jx_opN hc (by simp [jo_q, hy])]; simp [hy]
  · rw [jx_op hc (by simp [jo_q, hy]; exact ⟨rfl, rfl, rfl, rfl⟩)]; simp [hy]
theorem jg_1 {f : Int32 → Int32} (hc : (P M).2 pc = some (.inl (jo_1 n f))) : jx_Go P d M pc ls (.int x :: st) h Q ↔ jx_Go P d M n ls (.int (f x) :: st) h Q := jx_op hc rfl
theorem jg_i2l (hc : (P M).2 pc = some (.inl (jo_i2l n))) : jx_Go P d M pc ls (.int x :: st) h Q ↔ jx_Go P d M n ls (.long x.toInt64 :: st) h Q := jx_op hc rfl
theorem jg_lb {f : Int64 → Int64 → Int64} (hc : (P M).2 pc = some (.inl (jo_lb n f))) : jx_Go P d M pc ls (.long w :: .long u :: st) h Q ↔ jx_Go P d M n ls (.long (f u w) :: st) h Q := jx_op hc rfl
theorem jg_lc (hc : (P M).2 pc = some (.inl (jo_lc n))) : jx_Go P d M pc ls (.long w :: .long u :: st) h Q ↔ jx_Go P d M n ls (.int (lg_cmp u w) :: st) h Q := jx_op hc rfl
theorem jg_if {p : Int32 → Bool} (hc : (P M).2 pc = some (.inl (jo_if n t p))) : jx_Go P d M pc ls (.int x :: st) h Q ↔ if p x = true then jx_Go P d M t ls st h Q else jx_Go P d M n ls st h Q := by
  rw [jx_op (pc' := if p x = true then t else n) (ls' := ls) (st' := st) (h' := h) hc rfl]
  split <;> rfl
theorem jg_ic {p : Int32 → Int32 → Bool} (hc : (P M).2 pc = some (.inl (jo_ic n t p))) : jx_Go P d M pc ls (.int y :: .int x :: st) h Q ↔ if p x y = true then jx_Go P d M t ls st h Q else jx_Go P d M n ls st h Q := by
  rw [jx_op (pc' := if p x y = true then t else n) (ls' := ls) (st' := st) (h' := h) hc rfl]
  split <;> rfl
theorem jg_go (hc : (P M).2 pc = some (.inl (jo_go t))) : jx_Go P d M pc ls st h Q ↔ jx_Go P d M t ls st h Q := jx_op hc rfl
theorem jg_nnR (hc : (P M).2 pc = some (.inl (jo_nn n t))) : jx_Go P d M pc ls (.ref a :: st) h Q ↔ jx_Go P d M t ls st h Q := jx_op hc rfl
theorem jg_nnN (hc : (P M).2 pc = some (.inl (jo_nn n t))) : jx_Go P d M pc ls (.null :: st) h Q ↔ jx_Go P d M n ls st h Q := jx_op hc rfl
theorem jg_sw {f : Int32 → Nat} (hc : (P M).2 pc = some (.inl (jo_sw f))) : jx_Go P d M pc ls (.int x :: st) h Q ↔ jx_Go P d M (f x) ls st h Q := jx_op hc rfl
theorem jg_dI (hc : (P M).2 pc = some (.inl (jo_d n))) : jx_Go P d M pc ls (.int x :: st) h Q ↔ jx_Go P d M n ls (.int x :: .int x :: st) h Q := jx_op hc rfl
theorem jg_dR (hc : (P M).2 pc = some (.inl (jo_d n))) : jx_Go P d M pc ls (.ref a :: st) h Q ↔ jx_Go P d M n ls (.ref a :: .ref a :: st) h Q := jx_op hc rfl
theorem jg_d2 (hc : (P M).2 pc = some (.inl (jo_d2 n))) : jx_Go P d M pc ls (.int x :: .ref a :: st) h Q ↔ jx_Go P d M n ls (.int x :: .ref a :: .int x :: .ref a :: st) h Q := jx_op hc rfl
theorem jg_pI (hc : (P M).2 pc = some (.inl (jo_p n))) : jx_Go P d M pc ls (.int x :: st) h Q ↔ jx_Go P d M n ls st h Q := jx_op hc rfl
theorem jg_oi (hc : (P M).2 pc = some (.inl (jo_oi n))) : jx_Go P d M pc ls [.ref a] h Q ↔ jx_Go P d M n ls [] h Q := jx_op hc rfl
theorem jg_gf (hc : (P M).2 pc = some (.inl (jo_gf n c k))) : jx_Go P d M pc ls (.ref a :: st) h Q ↔ ∃ v, jx_fl h a c k = some v ∧ jx_Go P d M n ls (v :: st) h Q := jx_opE (F := fun v => (n, ls, v :: st, h)) hc rfl
theorem jg_pfI (hc : (P M).2 pc = some (.inl (jo_pf n c k 0))) : jx_Go P d M pc ls (.int x :: .ref a :: st) h Q ↔ ∃ v, jx_fl h a c k = some v ∧ jx_Go P d M n ls st (jx_uf h a k (.int x)) Q := jx_opE (F := fun v => (n, ls, st, jx_uf h a k (.int x))) hc rfl
theorem jg_pfZ (hc : (P M).2 pc = some (.inl (jo_pf n c k 1))) (hx : x = 0 ∨ x = 1) : jx_Go P d M pc ls (.int x :: .ref a :: st) h Q ↔ ∃ v, jx_fl h a c k = some v ∧ jx_Go P d M n ls st (jx_uf h a k (.int x)) Q := jx_opE (F := fun v => (n, ls, st, jx_uf h a k (.int x))) hc (by rcases hx with rfl | rfl <;> rfl)
theorem jg_pfR (hc : (P M).2 pc = some (.inl (jo_pf n c k 2))) : jx_Go P d M pc ls (.ref b :: .ref a :: st) h Q ↔ ∃ v, jx_fl h a c k = some v ∧ jx_Go P d M n ls st (jx_uf h a k (.ref b)) Q := jx_opE (F := fun v => (n, ls, st, jx_uf h a k (.ref b))) hc rfl
theorem jg_ia (hc : (P M).2 pc = some (.inl (jo_ia n))) : jx_Go P d M pc ls (.int x :: .ref a :: st) h Q ↔ ∃ q, jx_ai h a = some q ∧ jx_in x q.1 ∧ jx_Go P d M n ls (.int (q.2 x.toNatClampNeg) :: st) h Q := by
  refine jx_opC (x := jx_ai h a) (p := fun q => jx_in x q.1) (F := fun q => (n, ls, .int (q.2 x.toNatClampNeg) :: st, h)) hc ?_ ?_ ?_
  · intro q e hp; simp only [jo_ia, e]; rw [if_pos (jx_inB_iff.mpr hp)]
  · intro q e hp; simp only [jo_ia, e]; rw [if_neg (fun z => hp (jx_inB_iff.mp z))]
  · intro e; simp only [jo_ia, e]
theorem jg_sa (hc : (P M).2 pc = some (.inl (jo_sa n))) : jx_Go P d M pc ls (.int x :: .ref 0 :: st) h Q ↔ ∃ q, jx_sc h 0 = some q ∧ jx_in x q.1 ∧ jx_Go P d M n ls (.int (q.2 x.toNatClampNeg) :: st) h Q := by
  refine jx_opC (x := jx_sc h 0) (p := fun q => jx_in x q.1) (F := fun q => (n, ls, .int (q.2 x.toNatClampNeg) :: st, h)) hc ?_ ?_ ?_
  · intro q e hp; simp only [jo_sa, e]; rw [if_pos (jx_inB_iff.mpr hp)]
  · intro q e hp; simp only [jo_sa, e]; rw [if_neg (fun z => hp (jx_inB_iff.mp z))]
  · intro e; simp only [jo_sa, e]
theorem jg_la (hc : (P M).2 pc = some (.inl (jo_la n))) : jx_Go P d M pc ls (.int x :: .ref a :: st) h Q ↔ ∃ q, jx_al h a = some q ∧ jx_in x q.1 ∧ jx_Go P d M n ls (.long (q.2 x.toNatClampNeg) :: st) h Q := by
  refine jx_opC (x := jx_al h a) (p := fun q => jx_in x q.1) (F := fun q => (n, ls, .long (q.2 x.toNatClampNeg) :: st, h)) hc ?_ ?_ ?_
  · intro q e hp; simp only [jo_la, e]; rw [if_pos (jx_inB_iff.mpr hp)]
  · intro q e hp; simp only [jo_la, e]; rw [if_neg (fun z => hp (jx_inB_iff.mp z))]
  · intro e; simp only [jo_la, e]
theorem jg_ra (hc : (P M).2 pc = some (.inl (jo_ra n t))) : jx_Go P d M pc ls (.int x :: .ref a :: st) h Q ↔ ∃ q, jx_ar h a t = some q ∧ jx_in x q.1 ∧ jx_Go P d M n ls (jx_rv (q.2 x.toNatClampNeg) :: st) h Q := by
  refine jx_opC (x := jx_ar h a t) (p := fun q => jx_in x q.1) (F := fun q => (n, ls, jx_rv (q.2 x.toNatClampNeg) :: st, h)) hc ?_ ?_ ?_
  · intro q e hp; simp only [jo_ra, e]; rw [if_pos (jx_inB_iff.mpr hp)]
  · intro q e hp; simp only [jo_ra, e]; rw [if_neg (fun z => hp (jx_inB_iff.mp z))]
  · intro e; simp only [jo_ra, e]
theorem jg_iw (hc : (P M).2 pc = some (.inl (jo_iw n))) : jx_Go P d M pc ls (.int y :: .int x :: .ref a :: st) h Q ↔ ∃ q, jx_ai h a = some q ∧ jx_in x q.1 ∧ jx_Go P d M n ls st (jx_wi h a q.1 (upd q.2 x.toNatClampNeg y)) Q := by
  refine jx_opC (x := jx_ai h a) (p := fun q => jx_in x q.1) (F := fun q => (n, ls, st, jx_wi h a q.1 (upd q.2 x.toNatClampNeg y))) hc ?_ ?_ ?_
  · intro q e hp; simp only [jo_iw, e]; rw [if_pos (jx_inB_iff.mpr hp)]
  · intro q e hp; simp only [jo_iw, e]; rw [if_neg (fun z => hp (jx_inB_iff.mp z))]
  · intro e; simp only [jo_iw, e]
theorem jg_lw (hc : (P M).2 pc = some (.inl (jo_lw n))) : jx_Go P d M pc ls (.long u :: .int x :: .ref a :: st) h Q ↔ ∃ q, jx_al h a = some q ∧ jx_in x q.1 ∧ jx_Go P d M n ls st (jx_wl h a q.1 (vp_updL q.2 x.toNatClampNeg u)) Q := by
  refine jx_opC (x := jx_al h a) (p := fun q => jx_in x q.1) (F := fun q => (n, ls, st, jx_wl h a q.1 (vp_updL q.2 x.toNatClampNeg u))) hc ?_ ?_ ?_
  · intro q e hp; simp only [jo_lw, e]; rw [if_pos (jx_inB_iff.mpr hp)]
  · intro q e hp; simp only [jo_lw, e]; rw [if_neg (fun z => hp (jx_inB_iff.mp z))]
  · intro e; simp only [jo_lw, e]
theorem jg_rw (hc : (P M).2 pc = some (.inl (jo_rw n t c))) : jx_Go P d M pc ls (.ref b :: .int x :: .ref a :: st) h Q ↔ ∃ q, jx_ar h a t = some q ∧ (jx_in x q.1 ∧ jx_cl h b = some c) ∧ jx_Go P d M n ls st (jx_wr h a t q.1 (va_up q.2 x.toNatClampNeg (some b))) Q := by
  refine jx_opC (x := jx_ar h a t) (p := fun q => jx_in x q.1 ∧ jx_cl h b = some c) (F := fun q => (n, ls, st, jx_wr h a t q.1 (va_up q.2 x.toNatClampNeg (some b)))) hc ?_ ?_ ?_
  · intro q e hp; simp only [jo_rw, e]; rw [if_pos ⟨jx_inB_iff.mpr hp.1, hp.2⟩]
  · intro q e hp; simp only [jo_rw, e]; rw [if_neg (fun z => hp ⟨jx_inB_iff.mp z.1, z.2⟩)]
  · intro e; simp only [jo_rw, e]
theorem jg_len (hc : (P M).2 pc = some (.inl (jo_len n))) : jx_Go P d M pc ls (.ref a :: st) h Q ↔ ∃ q, jx_ai h a = some q ∧ jx_Go P d M n ls (.int (nI q.1) :: st) h Q := jx_opE (F := fun (x : Nat × (Nat → Int32)) => (n, ls, .int (nI x.1) :: st, h)) hc rfl
theorem jg_sl (hc : (P M).2 pc = some (.inl (jo_sl n))) : jx_Go P d M pc ls (.ref 0 :: st) h Q ↔ ∃ q, jx_sc h 0 = some q ∧ jx_Go P d M n ls (.int (nI q.1) :: st) h Q := jx_opE (F := fun (x : Nat × (Nat → Int32)) => (n, ls, .int (nI x.1) :: st, h)) hc rfl
theorem jg_ct (hc : (P M).2 pc = some (.inl (jo_ct n))) : jx_Go P d M pc ls (.ref a :: st) h Q ↔ ∃ q, jx_ai h a = some q ∧ jx_Go P d M n ls (.ref a :: st) h Q := jx_opE (F := fun x => (n, ls, .ref a :: st, h)) hc rfl
theorem jg_nw {fs : List Value} (hc : (P M).2 pc = some (.inl (jo_nw n c fs))) : jx_Go P d M pc ls st h Q ↔ jx_Go P d M n ls (.ref h.1 :: st) (jx_mk h fs.length (.inr (c, fs))) Q := jx_op hc rfl
theorem jg_ni (hc : (P M).2 pc = some (.inl (jo_ni n))) (hx : jx_in x 1000000) : jx_Go P d M pc ls (.int x :: st) h Q ↔ jx_Go P d M n ls (.ref h.1 :: st) (jx_mk h x.toNatClampNeg (.inl (0, x.toNatClampNeg, .inl (fun _ => 0)))) Q := jx_op hc (by simp only [jo_ni]; rw [if_pos (jx_inB_iff.mpr hx)])
theorem jg_cp (hc : (P M).2 pc = some (.inl (jo_cp n))) : jx_Go P d M pc ls (.int z :: .int y :: .ref b :: .int x :: .ref a :: st) h Q ↔ ∃ q, jx_ai h a = some q ∧ ∃ q', jx_ai h b = some q' ∧ (st.length ≤ 4 ∧ ¬ x < 0 ∧ ¬ y < 0 ∧ ¬ z < 0 ∧ x.toNatClampNeg + z.toNatClampNeg ≤ q.1 ∧ y.toNatClampNeg + z.toNatClampNeg ≤ q'.1) ∧ jx_Go P d M n ls st (jx_wi h b q'.1 (va_cpy q.2 q'.2 x.toNatClampNeg y.toNatClampNeg z.toNatClampNeg)) Q := by
  cases e1 : jx_ai h a with
  | none => rw [jx_opN hc (by simp only [jo_cp, e1])]; simp
  | some q =>
    cases e2 : jx_ai h b with
    | none => rw [jx_opN hc (by simp only [jo_cp, e1, e2])]; simp
    | some q' =>
      by_cases hp : st.length ≤ 4 ∧ ¬ x < 0 ∧ ¬ y < 0 ∧ ¬ z < 0 ∧ x.toNatClampNeg + z.toNatClampNeg ≤ q.1 ∧ y.toNatClampNeg + z.toNatClampNeg ≤ q'.1
      · rw [jx_op hc (by simp only [jo_cp, e1, e2]; rw [if_pos hp])]
        constructor
        · exact fun g => ⟨q, rfl, q', rfl, hp, g⟩
        · rintro ⟨_, e, _, e', -, g⟩
          cases e; cases e'; exact g
      · rw [jx_opN hc (by simp only [jo_cp, e1, e2]; rw [if_neg hp])]
        constructor
        · exact False.elim
        · rintro ⟨_, e, _, e', p, -⟩
          cases e; cases e'; exact hp p
theorem jg_cn (hc : (P M).2 pc = some (.inl (jo_cn n))) : jx_Go P d M pc ls (.ref a :: st) h Q ↔ ∃ q, jx_ai h a = some q ∧ st.length ≤ 4 ∧ jx_Go P d M n ls (.ref h.1 :: st) (jx_mk h q.1 (.inl (0, q.1, .inl q.2))) Q := by
  refine jx_opC (x := jx_ai h a) (p := fun q => st.length ≤ 4) (F := fun q => (n, ls, .ref h.1 :: st, jx_mk h q.1 (.inl (0, q.1, .inl q.2)))) hc ?_ ?_ ?_
  · intro q e hp; simp only [jo_cn, e]; rw [if_pos hp]
  · intro q e hp; simp only [jo_cn, e]; rw [if_neg hp]
  · intro e; simp only [jo_cn, e]
end JGS
