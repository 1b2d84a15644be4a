section
/-! ===== a pure machine: cells by their numbers, methods by theirs ===== -/
abbrev jxC : Type := (Nat × vp_A) ⊕ (Nat × List Value)
/-- how many cells there are, how many slots were made, what they hold -/
abbrev jxH : Type := Nat × Nat × (Nat → jxC)
/-- a step: locals, stack, heap; the next place -/
abbrev jxO : Type := List Value → List Value → jxH → Option (Nat × List Value × List Value × jxH)
/-- a step, or a call (callee, how many arguments, next place, the receiver's kind), or a return (its kind) -/
abbrev jxI : Type := jxO ⊕ (Nat × Nat × Nat × Option Nat) ⊕ Nat
abbrev jxM : Type := Nat → Nat × (Nat → Option jxI)
abbrev jx_u : Value := .retAddr 0
/-- nothing there -/
def jx_no : jxC := .inl (77, 0, .inl (fun _ => 0))
def jx_fl (h : jxH) (a c k : Nat) : Option Value := match h.2.2 a with
  | .inr (c', fs) => if c' = c then fs[k]? else none
  | .inl _ => none
def jx_cl (h : jxH) (a : Nat) : Option Nat := match h.2.2 a with
  | .inr (c', _) => some c'
  | .inl _ => none
def jx_ai (h : jxH) (a : Nat) : Option (Nat × (Nat → Int32)) := match h.2.2 a with
  | .inl (0, n, .inl f) => some (n, f)
  | _ => none
def jx_sc (h : jxH) (a : Nat) : Option (Nat × (Nat → Int32)) := match h.2.2 a with
  | .inl (9, n, .inl f) => some (n, f)
  | _ => none
def jx_al (h : jxH) (a : Nat) : Option (Nat × (Nat → Int64)) := match h.2.2 a with
  | .inl (1, n, .inr (.inl f)) => some (n, f)
  | _ => none
/-- an array of references, of kind t: 2 tasks, 3 sheets, 4 rows of ints -/
def jx_ar (h : jxH) (a t : Nat) : Option (Nat × (Nat → Option Nat)) := match h.2.2 a with
  | .inl (t', n, .inr (.inr (.inr (.inr f)))) => if t' = t then some (n, f) else none
  | _ => none
def jx_w (h : jxH) (a : Nat) (x : jxC) : jxH := (h.1, h.2.1, fun j => if j = a then x else h.2.2 j)
def jx_uf (h : jxH) (a k : Nat) (v : Value) : jxH := jx_w h a (match h.2.2 a with
  | .inr (c, fs) => .inr (c, fs.set k v)
  | x => x)
def jx_wi (h : jxH) (a n : Nat) (f : Nat → Int32) : jxH := jx_w h a (.inl (0, n, .inl f))
def jx_wl (h : jxH) (a n : Nat) (f : Nat → Int64) : jxH := jx_w h a (.inl (1, n, .inr (.inl f)))
def jx_wr (h : jxH) (a t n : Nat) (f : Nat → Option Nat) : jxH := jx_w h a (.inl (t, n, .inr (.inr (.inr (.inr f)))))
def jx_mk (h : jxH) (s : Nat) (x : jxC) : jxH := (h.1 + 1, h.2.1 + s, fun j => if j = h.1 then x else h.2.2 j)
/-- a fresh array of n rows of k ints -/
def jx_mm (h : jxH) (n k : Nat) : jxH := (h.1 + 1 + n, h.2.1 + n + n * k, fun j => if j < h.1 then h.2.2 j else if j = h.1 then .inl (4, n, .inr (.inr (.inr (.inr (fun i => if i < n then some (h.1 + 1 + i) else none))))) else if j < h.1 + 1 + n then .inl (0, k, .inl (fun _ => 0)) else h.2.2 j)
/-- the arguments of a call: of one slot each; a receiver of its kind; not much below them -/
def jx_c1 : Value → Bool
  | .int _ => true
  | .ref _ => true
  | _ => false
def jx_okc (k : Nat) (ck : Option Nat) (st : List Value) (h : jxH) : Bool :=
  decide (k ≤ st.length) && (st.take k).all jx_c1 && decide ((st.drop k).length ≤ 4) && (match ck with
    | none => true
    | some c => match (st.take k).getLast? with
      | some (.ref a) => jx_cl h a == some c
      | _ => false)
def jx_ent (L k : Nat) (st : List Value) : List Value := (st.take k).reverse ++ List.replicate (L - k) jx_u
/-- what a return asks of the stack: 0 nothing, 1 an int, 2 a truth value, 3 a reference -/
def jx_okr (r : Nat) (st : List Value) : Bool := match r, st with
  | 0, [] => true
  | 1, [.int _] => true
  | 2, [.int x] => x == 0 || x == 1
  | 3, [.ref _] => true
  | _, _ => false
def jx_run (P : jxM) : Nat → Nat → Nat → Nat → List Value → List Value → jxH → Option (Nat × List Value × jxH)
  | 0, _, _, _, _, _, _ => none
  | n + 1, d, M, pc, ls, st, h => match (P M).2 pc with
    | none => none
    | some (.inl o) => match o ls st h with
      | none => none
      | some (pc', ls', st', h') => jx_run P n d M pc' ls' st' h'
    | some (.inr (.inl (y, k, nx, ck))) => match d with
      | 0 => none
      | d' + 1 => if jx_okc k ck st h = true then (match jx_run P n d' y 0 (jx_ent (P y).1 k st) [] h with
          | none => none
          | some (_, s1, h1) => jx_run P n (d' + 1) M nx ls (s1 ++ st.drop k) h1)
        else none
    | some (.inr (.inr r)) => if jx_okr r st = true then some (pc, st, h) else none
theorem jx_mono1 (P : jxM) : ∀ (n d M pc : Nat) (ls st : List Value) (h : jxH) (r : Nat × List Value × jxH), jx_run P n d M pc ls st h = some r → jx_run P (n + 1) d M pc ls st h = some r
  | 0, _, _, _, _, _, _, _, e => by simp [jx_run] at e
  | n + 1, d, M, pc, ls, st, h, r, e => by
    rw [jx_run] at e ⊢
    cases hc : (P M).2 pc with
    | none => rw [hc] at e; exact e
    | some i =>
      rw [hc] at e
      rcases i with o | ⟨y, k, nx, ck⟩ | q
      · dsimp only at e ⊢
        cases ho : o ls st h with
        | none => rw [ho] at e; exact e
        | some x =>
          rw [ho] at e
          obtain ⟨pc', ls', st', h'⟩ := x
          exact jx_mono1 P n d M pc' ls' st' h' r e
      · dsimp only at e ⊢
        cases d with
        | zero => exact e
        | succ d' =>
          dsimp only at e ⊢
          by_cases hk : jx_okc k ck st h = true
          · rw [if_pos hk] at e ⊢
            cases hr : jx_run P n d' y 0 (jx_ent (P y).1 k st) [] h with
            | none => rw [hr] at e; cases e
            | some x =>
              rw [hr] at e
              obtain ⟨a, s1, h1⟩ := x
              rw [jx_mono1 P n d' y 0 _ _ h _ hr]
              exact jx_mono1 P n (d' + 1) M nx ls _ h1 r e
          · rw [if_neg hk] at e
            cases e
      · exact e
theorem jx_mono (P : jxM) {n m d M pc : Nat} {ls st : List Value} {h : jxH} {r : Nat × List Value × jxH} (hn : n ≤ m) (e : jx_run P n d M pc ls st h = some r) : jx_run P m d M pc ls st h = some r := by
  obtain ⟨k, rfl⟩ := Nat.exists_eq_add_of_le hn
  clear hn
  induction k with
  | zero => exact e
  | succ k ih => exact jx_mono1 P (n + k) d M pc ls st h r ih
/-- it comes to a return with Q -/
def jx_Go (P : jxM) (d M pc : Nat) (ls st : List Value) (h : jxH) (Q : List Value → jxH → Prop) : Prop := ∃ (n pc' : Nat) (st' : List Value) (h' : jxH), jx_run P n d M pc ls st h = some (pc', st', h') ∧ Q st' h'
section JXG
variable {P : jxM} {d M pc : Nat} {ls st : List Value} {h : jxH} {Q : List Value → jxH → Prop}
theorem jx_Go.imp {Q' : List Value → jxH → Prop} (g : jx_Go P d M pc ls st h Q) (hq : ∀ s t, Q s t → Q' s t) : jx_Go P d M pc ls st h Q' := by
  obtain ⟨n, pc', st', h', e, q⟩ := g
  exact ⟨n, pc', st', h', e, hq _ _ q⟩
theorem jx_op {o : jxO} {pc' : Nat} {ls' st' : List Value} {h' : jxH} (hc : (P M).2 pc = some (.inl o)) (ho : o ls st h = some (pc', ls', st', h')) : jx_Go P d M pc ls st h Q ↔ jx_Go P d M pc' ls' st' h' Q := by
  constructor
  · rintro ⟨n, a, b, c, e, q⟩
    cases n with
    | zero => simp [jx_run] at e
    | succ n =>
      rw [jx_run, hc] at e
      dsimp only at e
      rw [ho] at e
      exact ⟨n, a, b, c, e, q⟩
  · rintro ⟨n, a, b, c, e, q⟩
    refine ⟨n + 1, a, b, c, ?_, q⟩
    rw [jx_run, hc]
    dsimp only
    rw [ho]
    exact e
/-- a step that may not be done -/
theorem jx_opN {o : jxO} (hc : (P M).2 pc = some (.inl o)) (ho : o ls st h = none) : jx_Go P d M pc ls st h Q ↔ False := by
  constructor
  · rintro ⟨n, a, b, c, e, q⟩
    cases n with
    | zero => simp [jx_run] at e
    | succ n =>
      rw [jx_run, hc] at e
      dsimp only at e
      rw [ho] at e
      cases e
  · exact False.elim
/-- a step with a lookup in it -/
theorem jx_opE {o : jxO} {A : Type} {x : Option A} {F : A → Nat × List Value × List Value × jxH} (hc : (P M).2 pc = some (.inl o)) (ho : o ls st h = x.map F) : jx_Go P d M pc ls st h Q ↔ ∃ a, x = some a ∧ jx_Go P d M (F a).1 (F a).2.1 (F a).2.2.1 (F a).2.2.2 Q := by
  cases x with
  | none => rw [jx_opN hc (by rw [ho]; rfl)]; simp
  | some a =>
    rw [jx_op (pc' := (F a).1) (ls' := (F a).2.1) (st' := (F a).2.2.1) (h' := (F a).2.2.2) hc (by rw [ho]; rfl)]
    simp
/-- a step with a lookup and a condition -/
theorem jx_opC {o : jxO} {A : Type} {x : Option A} {p : A → Prop} {F : A → Nat × List Value × List Value × jxH} (hc : (P M).2 pc = some (.inl o)) (hp : ∀ a, x = some a → p a → o ls st h = some (F a)) (hq : ∀ a, x = some a → ¬ p a → o ls st h = none) (hn : x = none → o ls st h = none) : jx_Go P d M pc ls st h Q ↔ ∃ a, x = some a ∧ p a ∧ jx_Go P d M (F a).1 (F a).2.1 (F a).2.2.1 (F a).2.2.2 Q := by
  cases x with
  | none => rw [jx_opN hc (hn rfl)]; simp
  | some a =>
    by_cases ha : p a
    · rw [jx_op (pc' := (F a).1) (ls' := (F a).2.1) (st' := (F a).2.2.1) (h' := (F a).2.2.2) hc (hp a rfl ha)]
      simp [ha]
    · rw [jx_opN hc (hq a rfl ha)]
      simp [ha]
theorem jx_rt {r : Nat} (hc : (P M).2 pc = some (.inr (.inr r))) (hr : jx_okr r st = true) : jx_Go P d M pc ls st h Q ↔ Q st h := by
  constructor
  · rintro ⟨n, a, b, c, e, q⟩
    cases n with
    | zero => simp [jx_run] at e
    | succ n =>
      rw [jx_run, hc] at e
      dsimp only at e
      rw [if_pos hr] at e
      cases e
      exact q
  · intro q
    refine ⟨1, pc, st, h, ?_, q⟩
    rw [jx_run, hc]
    dsimp only
    rw [if_pos hr]
theorem jx_ca {y k nx : Nat} {ck : Option Nat} (hc : (P M).2 pc = some (.inr (.inl (y, k, nx, ck)))) (hk : jx_okc k ck st h = true) : jx_Go P (d + 1) M pc ls st h Q ↔ jx_Go P d y 0 (jx_ent (P y).1 k st) [] h (fun s1 h1 => jx_Go P (d + 1) M nx ls (s1 ++ st.drop k) h1 Q) := by
  constructor
  · rintro ⟨n, a, b, c, e, q⟩
    cases n with
    | zero => simp [jx_run] at e
    | succ n =>
      rw [jx_run, hc] at e
      dsimp only at e
      rw [if_pos hk] at e
      cases hr : jx_run P n d y 0 (jx_ent (P y).1 k st) [] h with
      | none => rw [hr] at e; cases e
      | some x =>
        rw [hr] at e
        obtain ⟨p1, s1, h1⟩ := x
        exact ⟨n, p1, s1, h1, hr, n, a, b, c, e, q⟩
  · rintro ⟨n, p1, s1, h1, hr, m, a, b, c, e, q⟩
    refine ⟨n + m + 1, a, b, c, ?_, q⟩
    rw [jx_run, hc]
    dsimp only
    rw [if_pos hk, jx_mono P (by omega) hr]
    exact jx_mono P (by omega) e
end JXG
end
section
/-! ===== the steps ===== -/
def jx_in (i : Int32) (n : Nat) : Prop := ¬ i < 0 ∧ i.toNatClampNeg < n
def jx_inB (i : Int32) (n : Nat) : Bool := decide (¬ i < 0) && decide (i.toNatClampNeg < n)
theorem jx_inB_iff {i : Int32} {n : Nat} : jx_inB i n = true ↔ jx_in i n := by simp [jx_inB, jx_in]
def jx_si (ls : List Value) (L i : Nat) (v : Value) : List Value := ((ls.set i v).set (L + i) jx_u).set (L + 1 + i) jx_u
def jo_c (n : Nat) (x : Int32) : jxO := fun ls st h => some (n, ls, .int x :: st, h)
def jo_cl (n : Nat) (x : Int64) : jxO := fun ls st h => some (n, ls, .long x :: st, h)
def jo_il (n i : Nat) : jxO := fun ls st h => match ls[i]? with
  | some (.int x) => some (n, ls, .int x :: st, h)
  | _ => none
def jo_al (n i : Nat) : jxO := fun ls st h => match ls[i]? with
  | some (.ref x) => some (n, ls, .ref x :: st, h)
  | _ => none
def jo_ll (n L i : Nat) : jxO := fun ls st h => match ls[L + 1 + i]? with
  | some (.long x) => some (n, ls, .long x :: st, h)
  | _ => none
def jo_is (n L i : Nat) : jxO := fun ls st h => match st with
  | .int x :: r => some (n, jx_si ls L i (.int x), r, h)
  | _ => none
def jo_as (n L i : Nat) : jxO := fun ls st h => match st with
  | .ref x :: r => some (n, jx_si ls L i (.ref x), r, h)
  | _ => none
def jo_ls (n L i : Nat) : jxO := fun ls st h => match st with
  | .long x :: r => some (n, ((((ls.set i jx_u).set (i + 1) jx_u).set (L + i) jx_u).set (L + 1 + i) (.long x)).set (L + 2 + i) jx_u, r, h)
  | _ => none
def jo_inc (n L i : Nat) (k : Int32) : jxO := fun ls st h => match ls[i]? with
  | some (.int x) => some (n, jx_si ls L i (.int (x + k)), st, h)
  | _ => none
def jo_b (n : Nat) (f : Int32 → Int32 → Int32) : jxO := fun ls st h => match st with
  | .int y :: .int x :: r => some (n, ls, .int (f x y) :: r, h)
  | _ => none
def jo_q (n : Nat) (f : Int32 → Int32 → Int32) : jxO := fun ls st h => match st with
  | .int y :: .int x :: r => if y = 0 then none else some (n, ls, .int (f x y) :: r, h)
  | _ => none
def jo_1 (n : Nat) (f : Int32 → Int32) : jxO := fun ls st h => match st with
  | .int x :: r => some (n, ls, .int (f x) :: r, h)
  | _ => none
def jo_i2l (n : Nat) : jxO := fun ls st h => match st with
  | .int x :: r => some (n, ls, .long x.toInt64 :: r, h)
  | _ => none
def jo_lb (n : Nat) (f : Int64 → Int64 → Int64) : jxO := fun ls st h => match st with
  | .long y :: .long x :: r => some (n, ls, .long (f x y) :: r, h)
  | _ => none
def jo_lc (n : Nat) : jxO := fun ls st h => match st with
  | .long y :: .long x :: r => some (n, ls, .int (lg_cmp x y) :: r, h)
  | _ => none
def jo_if (n t : Nat) (p : Int32 → Bool) : jxO := fun ls st h => match st with
  | .int x :: r => some (if p x = true then t else n, ls, r, h)
  | _ => none
def jo_ic (n t : Nat) (p : Int32 → Int32 → Bool) : jxO := fun ls st h => match st with
  | .int y :: .int x :: r => some (if p x y = true then t else n, ls, r, h)
  | _ => none
def jo_go (t : Nat) : jxO := fun ls st h => some (t, ls, st, h)
def jo_nn (n t : Nat) : jxO := fun ls st h => match st with
  | .ref _ :: r => some (t, ls, r, h)
  | .null :: r => some (n, ls, r, h)
  | _ => none
def jo_sw (f : Int32 → Nat) : jxO := fun ls st h => match st with
  | .int x :: r => some (f x, ls, r, h)
  | _ => none
def jo_d (n : Nat) : jxO := fun ls st h => match st with
  | v :: r => if jx_c1 v = true then some (n, ls, v :: v :: r, h) else none
  | _ => none
def jo_d2 (n : Nat) : jxO := fun ls st h => match st with
  | v :: w :: r => if jx_c1 v = true ∧ jx_c1 w = true then some (n, ls, v :: w :: v :: w :: r, h) else none
  | _ => none
def jo_p (n : Nat) : jxO := fun ls st h => match st with
  | v :: r => if jx_c1 v = true then some (n, ls, r, h) else none
  | _ => none
def jo_oi (n : Nat) : jxO := fun ls st h => match st with
  | .ref _ :: r => if r.length ≤ 4 then some (n, ls, r, h) else none
  | _ => none
def jo_gf (n c k : Nat) : jxO := fun ls st h => match st with
  | .ref a :: r => (jx_fl h a c k).map (fun v => (n, ls, v :: r, h))
  | _ => none
/-- what a field takes: 0 an int, 1 a truth value, 2 a reference -/
def jx_fit (t : Nat) (v : Value) : Bool := match t, v with
  | 0, .int _ => true
  | 1, .int x => x == 0 || x == 1
  | 2, .ref _ => true
  | _, _ => false
def jo_pf (n c k t : Nat) : jxO := fun ls st h => match st with
  | v :: .ref a :: r => if jx_fit t v = true then (jx_fl h a c k).map (fun _ => (n, ls, r, jx_uf h a k v)) else none
  | _ => none
def jo_ia (n : Nat) : jxO := fun ls st h => match st with
  | .int i :: .ref a :: r => match jx_ai h a with
    | some x => if jx_inB i x.1 = true then some (n, ls, .int (x.2 i.toNatClampNeg) :: r, h) else none
    | none => none
  | _ => none
def jo_sa (n : Nat) : jxO := fun ls st h => match st with
  | .int i :: .ref 0 :: r => match jx_sc h 0 with
    | some x => if jx_inB i x.1 = true then some (n, ls, .int (x.2 i.toNatClampNeg) :: r, h) else none
    | none => none
  | _ => none
def jo_la (n : Nat) : jxO := fun ls st h => match st with
  | .int i :: .ref a :: r => match jx_al h a with
    | some x => if jx_inB i x.1 = true then some (n, ls, .long (x.2 i.toNatClampNeg) :: r, h) else none
    | none => none
  | _ => none
def jx_rv (r : Option Nat) : Value := match r with
  | none => .null
  | some a => .ref a
def jo_ra (n t : Nat) : jxO := fun ls st h => match st with
  | .int i :: .ref a :: r => match jx_ar h a t with
    | some x => if jx_inB i x.1 = true then some (n, ls, jx_rv (x.2 i.toNatClampNeg) :: r, h) else none
    | none => none
  | _ => none
def jo_iw (n : Nat) : jxO := fun ls st h => match st with
  | .int v :: .int i :: .ref a :: r => match jx_ai h a with
    | some x => if jx_inB i x.1 = true then some (n, ls, r, jx_wi h a x.1 (upd x.2 i.toNatClampNeg v)) else none
    | none => none
  | _ => none
def jo_lw (n : Nat) : jxO := fun ls st h => match st with
  | .long v :: .int i :: .ref a :: r => match jx_al h a with
    | some x => if jx_inB i x.1 = true then some (n, ls, r, jx_wl h a x.1 (vp_updL x.2 i.toNatClampNeg v)) else none
    | none => none
  | _ => none
def jo_rw (n t c : Nat) : jxO := fun ls st h => match st with
  | .ref v :: .int i :: .ref a :: r => match jx_ar h a t with
    | some x => if jx_inB i x.1 = true ∧ jx_cl h v = some c then some (n, ls, r, jx_wr h a t x.1 (va_up x.2 i.toNatClampNeg (some v))) else none
    | none => none
  | _ => none
def jo_len (n : Nat) : jxO := fun ls st h => match st with
  | .ref a :: r => (jx_ai h a).map (fun x => (n, ls, .int (nI x.1) :: r, h))
  | _ => none
def jo_sl (n : Nat) : jxO := fun ls st h => match st with
  | .ref 0 :: r => (jx_sc h 0).map (fun x => (n, ls, .int (nI x.1) :: r, h))
  | _ => none
def jo_nw (n c : Nat) (fs : List Value) : jxO := fun ls st h => some (n, ls, .ref h.1 :: st, jx_mk h fs.length (.inr (c, fs)))
def jo_ni (n : Nat) : jxO := fun ls st h => match st with
  | .int x :: r => if jx_inB x 1000000 = true then some (n, ls, .ref h.1 :: r, jx_mk h x.toNatClampNeg (.inl (0, x.toNatClampNeg, .inl (fun _ => 0)))) else none
  | _ => none
def jo_nj (n : Nat) : jxO := fun ls st h => match st with
  | .int x :: r => if jx_inB x 1000000 = true then some (n, ls, .ref h.1 :: r, jx_mk h x.toNatClampNeg (.inl (1, x.toNatClampNeg, .inr (.inl (fun _ => 0))))) else none
  | _ => none
def jo_nr (n t : Nat) : jxO := fun ls st h => match st with
  | .int x :: r => if jx_inB x 1000000 = true then some (n, ls, .ref h.1 :: r, jx_mk h x.toNatClampNeg (.inl (t, x.toNatClampNeg, .inr (.inr (.inr (.inr (fun _ => none))))))) else none
  | _ => none
def jo_mm (n : Nat) : jxO := fun ls st h => match st with
  | .int k :: .int x :: r => if jx_inB x 1000000 = true ∧ jx_inB k 1000000 = true then some (n, ls, .ref h.1 :: r, jx_mm h x.toNatClampNeg k.toNatClampNeg) else none
  | _ => none
def jo_cp (n : Nat) : jxO := fun ls st h => match st with
  | .int m :: .int dp :: .ref b :: .int sp :: .ref a :: r => match jx_ai h a with
    | some x => match jx_ai h b with
      | some y => if r.length ≤ 4 ∧ ¬ sp < 0 ∧ ¬ dp < 0 ∧ ¬ m < 0 ∧ sp.toNatClampNeg + m.toNatClampNeg ≤ x.1 ∧ dp.toNatClampNeg + m.toNatClampNeg ≤ y.1 then some (n, ls, r, jx_wi h b y.1 (va_cpy x.2 y.2 sp.toNatClampNeg dp.toNatClampNeg m.toNatClampNeg)) else none
      | none => none
    | none => none
  | _ => none
def jo_cn (n : Nat) : jxO := fun ls st h => match st with
  | .ref a :: r => match jx_ai h a with
    | some x => if r.length ≤ 4 then some (n, ls, .ref h.1 :: r, jx_mk h x.1 (.inl (0, x.1, .inl x.2))) else none
    | none => none
  | _ => none
def jo_ct (n : Nat) : jxO := fun ls st h => match st with
  | .ref a :: r => (jx_ai h a).map (fun _ => (n, ls, .ref a :: r, h))
  | _ => none
/-! ===== what they do, for a walk ===== -/
section JGS
variable {P : jxM} {d M pc n t i L c k : Nat} {ls st : List Value} {h : jxH} {Q : List Value → jxH → Prop} {x y z : Int32} {u w : Int64} {a b : Nat} {v : Value}
theorem jg_c (hc : (P M).2 pc = some (.inl (jo_c n x))) : jx_Go P d M pc ls st h Q ↔ jx_Go P d M n ls (.int x :: st) h Q := jx_op hc rfl
theorem jg_cl (hc : (P M).2 pc = some (.inl (jo_cl n u))) : jx_Go P d M pc ls st h Q ↔ jx_Go P d M n ls (.long u :: st) h Q := jx_op hc rfl
theorem jg_il (hc : (P M).2 pc = some (.inl (jo_il n i))) (hl : ls[i]? = some (.int x)) : jx_Go P d M pc ls st h Q ↔ jx_Go P d M n ls (.int x :: st) h Q := jx_op hc (by simp only [jo_il, hl])
theorem jg_al (hc : (P M).2 pc = some (.inl (jo_al n i))) (hl : ls[i]? = some (.ref a)) : jx_Go P d M pc ls st h Q ↔ jx_Go P d M n ls (.ref a :: st) h Q := jx_op hc (by simp only [jo_al, hl])
theorem jg_ll (hc : (P M).2 pc = some (.inl (jo_ll n L i))) (hl : ls[L + 1 + i]? = some (.long u)) : jx_Go P d M pc ls st h Q ↔ jx_Go P d M n ls (.long u :: st) h Q := jx_op hc (by simp only [jo_ll, hl])
theorem jg_is {ls' : List Value} (hc : (P M).2 pc = some (.inl (jo_is n L i))) (hl : jx_si ls L i (.int x) = ls') : jx_Go P d M pc ls (.int x :: st) h Q ↔ jx_Go P d M n ls' st h Q := jx_op hc (by subst hl; rfl)
theorem jg_as {ls' : List Value} (hc : (P M).2 pc = some (.inl (jo_as n L i))) (hl : jx_si ls L i (.ref a) = ls') : jx_Go P d M pc ls (.ref a :: st) h Q ↔ jx_Go P d M n ls' st h Q := jx_op hc (by subst hl; rfl)
theorem jg_ls {ls' : List Value} (hc : (P M).2 pc = some (.inl (jo_ls n L i))) (hl : ((((ls.set i jx_u).set (i + 1) jx_u).set (L + i) jx_u).set (L + 1 + i) (.long u)).set (L + 2 + i) jx_u = ls') : jx_Go P d M pc ls (.long u :: st) h Q ↔ jx_Go P d M n ls' st h Q := jx_op hc (by subst hl; rfl)
theorem jg_inc {ls' : List Value} (hc : (P M).2 pc = some (.inl (jo_inc n L i y))) (hx : ls[i]? = some (.int x)) (hl : jx_si ls L i (.int (x + y)) = ls') : jx_Go P d M pc ls st h Q ↔ jx_Go P d M n ls' st h Q := jx_op hc (by subst hl; simp only [jo_inc, hx])
theorem jg_b {f : Int32 → Int32 → Int32} (hc : (P M).2 pc = some (.inl (jo_b n f))) : jx_Go P d M pc ls (.int y :: .int x :: st) h Q ↔ jx_Go P d M n ls (.int (f x y) :: st) h Q := jx_op hc rfl
theorem jg_q {f : Int32 → Int32 → Int32} (hc : (P M).2 pc = some (.inl (jo_q n f))) : jx_Go P d M pc ls (.int y :: .int x :: st) h Q ↔ (¬ y = 0 ∧ jx_Go P d M n ls (.int (f x y) :: st) h Q) := by
  by_cases hy : y = 0
  · rw [jx_opN hc (by simp [jo_q, hy])]; simp [hy]
  · rw [jx_op hc (by simp [jo_q, hy]; exact ⟨rfl, rfl, rfl, rfl⟩)]; simp [hy]
theorem jg_1 {f : Int32 → Int32} (hc : (P M).2 pc = some (.inl (jo_1 n f))) : jx_Go P d M pc ls (.int x :: st) h Q ↔ jx_Go P d M n ls (.int (f x) :: st) h Q := jx_op hc rfl
theorem jg_i2l (hc : (P M).2 pc = some (.inl (jo_i2l n))) : jx_Go P d M pc ls (.int x :: st) h Q ↔ jx_Go P d M n ls (.long x.toInt64 :: st) h Q := jx_op hc rfl
theorem jg_lb {f : Int64 → Int64 → Int64} (hc : (P M).2 pc = some (.inl (jo_lb n f))) : jx_Go P d M pc ls (.long w :: .long u :: st) h Q ↔ jx_Go P d M n ls (.long (f u w) :: st) h Q := jx_op hc rfl
theorem jg_lc (hc : (P M).2 pc = some (.inl (jo_lc n))) : jx_Go P d M pc ls (.long w :: .long u :: st) h Q ↔ jx_Go P d M n ls (.int (lg_cmp u w) :: st) h Q := jx_op hc rfl
theorem jg_if {p : Int32 → Bool} (hc : (P M).2 pc = some (.inl (jo_if n t p))) : jx_Go P d M pc ls (.int x :: st) h Q ↔ if p x = true then jx_Go P d M t ls st h Q else jx_Go P d M n ls st h Q := by
  rw [jx_op (pc' := if p x = true then t else n) (ls' := ls) (st' := st) (h' := h) hc rfl]
  split <;> rfl
theorem jg_ic {p : Int32 → Int32 → Bool} (hc : (P M).2 pc = some (.inl (jo_ic n t p))) : jx_Go P d M pc ls (.int y :: .int x :: st) h Q ↔ if p x y = true then jx_Go P d M t ls st h Q else jx_Go P d M n ls st h Q := by
  rw [jx_op (pc' := if p x y = true then t else n) (ls' := ls) (st' := st) (h' := h) hc rfl]
  split <;> rfl
theorem jg_go (hc : (P M).2 pc = some (.inl (jo_go t))) : jx_Go P d M pc ls st h Q ↔ jx_Go P d M t ls st h Q := jx_op hc rfl
theorem jg_nnR (hc : (P M).2 pc = some (.inl (jo_nn n t))) : jx_Go P d M pc ls (.ref a :: st) h Q ↔ jx_Go P d M t ls st h Q := jx_op hc rfl
theorem jg_nnN (hc : (P M).2 pc = some (.inl (jo_nn n t))) : jx_Go P d M pc ls (.null :: st) h Q ↔ jx_Go P d M n ls st h Q := jx_op hc rfl
theorem jg_sw {f : Int32 → Nat} (hc : (P M).2 pc = some (.inl (jo_sw f))) : jx_Go P d M pc ls (.int x :: st) h Q ↔ jx_Go P d M (f x) ls st h Q := jx_op hc rfl
theorem jg_dI (hc : (P M).2 pc = some (.inl (jo_d n))) : jx_Go P d M pc ls (.int x :: st) h Q ↔ jx_Go P d M n ls (.int x :: .int x :: st) h Q := jx_op hc rfl
theorem jg_dR (hc : (P M).2 pc = some (.inl (jo_d n))) : jx_Go P d M pc ls (.ref a :: st) h Q ↔ jx_Go P d M n ls (.ref a :: .ref a :: st) h Q := jx_op hc rfl
theorem jg_d2 (hc : (P M).2 pc = some (.inl (jo_d2 n))) : jx_Go P d M pc ls (.int x :: .ref a :: st) h Q ↔ jx_Go P d M n ls (.int x :: .ref a :: .int x :: .ref a :: st) h Q := jx_op hc rfl
theorem jg_pI (hc : (P M).2 pc = some (.inl (jo_p n))) : jx_Go P d M pc ls (.int x :: st) h Q ↔ jx_Go P d M n ls st h Q := jx_op hc rfl
theorem jg_oi (hc : (P M).2 pc = some (.inl (jo_oi n))) : jx_Go P d M pc ls [.ref a] h Q ↔ jx_Go P d M n ls [] h Q := jx_op hc rfl
theorem jg_gf (hc : (P M).2 pc = some (.inl (jo_gf n c k))) : jx_Go P d M pc ls (.ref a :: st) h Q ↔ ∃ v, jx_fl h a c k = some v ∧ jx_Go P d M n ls (v :: st) h Q := jx_opE (F := fun v => (n, ls, v :: st, h)) hc rfl
theorem jg_pfI (hc : (P M).2 pc = some (.inl (jo_pf n c k 0))) : jx_Go P d M pc ls (.int x :: .ref a :: st) h Q ↔ ∃ v, jx_fl h a c k = some v ∧ jx_Go P d M n ls st (jx_uf h a k (.int x)) Q := jx_opE (F := fun v => (n, ls, st, jx_uf h a k (.int x))) hc rfl
theorem jg_pfZ (hc : (P M).2 pc = some (.inl (jo_pf n c k 1))) (hx : x = 0 ∨ x = 1) : jx_Go P d M pc ls (.int x :: .ref a :: st) h Q ↔ ∃ v, jx_fl h a c k = some v ∧ jx_Go P d M n ls st (jx_uf h a k (.int x)) Q := jx_opE (F := fun v => (n, ls, st, jx_uf h a k (.int x))) hc (by rcases hx with rfl | rfl <;> rfl)
theorem jg_pfR (hc : (P M).2 pc = some (.inl (jo_pf n c k 2))) : jx_Go P d M pc ls (.ref b :: .ref a :: st) h Q ↔ ∃ v, jx_fl h a c k = some v ∧ jx_Go P d M n ls st (jx_uf h a k (.ref b)) Q := jx_opE (F := fun v => (n, ls, st, jx_uf h a k (.ref b))) hc rfl
theorem jg_ia (hc : (P M).2 pc = some (.inl (jo_ia n))) : jx_Go P d M pc ls (.int x :: .ref a :: st) h Q ↔ ∃ q, jx_ai h a = some q ∧ jx_in x q.1 ∧ jx_Go P d M n ls (.int (q.2 x.toNatClampNeg) :: st) h Q := by
  refine jx_opC (x := jx_ai h a) (p := fun q => jx_in x q.1) (F := fun q => (n, ls, .int (q.2 x.toNatClampNeg) :: st, h)) hc ?_ ?_ ?_
  · intro q e hp; simp only [jo_ia, e]; rw [if_pos (jx_inB_iff.mpr hp)]
  · intro q e hp; simp only [jo_ia, e]; rw [if_neg (fun z => hp (jx_inB_iff.mp z))]
  · intro e; simp only [jo_ia, e]
theorem jg_sa (hc : (P M).2 pc = some (.inl (jo_sa n))) : jx_Go P d M pc ls (.int x :: .ref 0 :: st) h Q ↔ ∃ q, jx_sc h 0 = some q ∧ jx_in x q.1 ∧ jx_Go P d M n ls (.int (q.2 x.toNatClampNeg) :: st) h Q := by
  refine jx_opC (x := jx_sc h 0) (p := fun q => jx_in x q.1) (F := fun q => (n, ls, .int (q.2 x.toNatClampNeg) :: st, h)) hc ?_ ?_ ?_
  · intro q e hp; simp only [jo_sa, e]; rw [if_pos (jx_inB_iff.mpr hp)]
  · intro q e hp; simp only [jo_sa, e]; rw [if_neg (fun z => hp (jx_inB_iff.mp z))]
  · intro e; simp only [jo_sa, e]
theorem jg_la (hc : (P M).2 pc = some (.inl (jo_la n))) : jx_Go P d M pc ls (.int x :: .ref a :: st) h Q ↔ ∃ q, jx_al h a = some q ∧ jx_in x q.1 ∧ jx_Go P d M n ls (.long (q.2 x.toNatClampNeg) :: st) h Q := by
  refine jx_opC (x := jx_al h a) (p := fun q => jx_in x q.1) (F := fun q => (n, ls, .long (q.2 x.toNatClampNeg) :: st, h)) hc ?_ ?_ ?_
  · intro q e hp; simp only [jo_la, e]; rw [if_pos (jx_inB_iff.mpr hp)]
  · intro q e hp; simp only [jo_la, e]; rw [if_neg (fun z => hp (jx_inB_iff.mp z))]
  · intro e; simp only [jo_la, e]
theorem jg_ra (hc : (P M).2 pc = some (.inl (jo_ra n t))) : jx_Go P d M pc ls (.int x :: .ref a :: st) h Q ↔ ∃ q, jx_ar h a t = some q ∧ jx_in x q.1 ∧ jx_Go P d M n ls (jx_rv (q.2 x.toNatClampNeg) :: st) h Q := by
  refine jx_opC (x := jx_ar h a t) (p := fun q => jx_in x q.1) (F := fun q => (n, ls, jx_rv (q.2 x.toNatClampNeg) :: st, h)) hc ?_ ?_ ?_
  · intro q e hp; simp only [jo_ra, e]; rw [if_pos (jx_inB_iff.mpr hp)]
  · intro q e hp; simp only [jo_ra, e]; rw [if_neg (fun z => hp (jx_inB_iff.mp z))]
  · intro e; simp only [jo_ra, e]
theorem jg_iw (hc : (P M).2 pc = some (.inl (jo_iw n))) : jx_Go P d M pc ls (.int y :: .int x :: .ref a :: st) h Q ↔ ∃ q, jx_ai h a = some q ∧ jx_in x q.1 ∧ jx_Go P d M n ls st (jx_wi h a q.1 (upd q.2 x.toNatClampNeg y)) Q := by
  refine jx_opC (x := jx_ai h a) (p := fun q => jx_in x q.1) (F := fun q => (n, ls, st, jx_wi h a q.1 (upd q.2 x.toNatClampNeg y))) hc ?_ ?_ ?_
  · intro q e hp; simp only [jo_iw, e]; rw [if_pos (jx_inB_iff.mpr hp)]
  · intro q e hp; simp only [jo_iw, e]; rw [if_neg (fun z => hp (jx_inB_iff.mp z))]
  · intro e; simp only [jo_iw, e]
theorem jg_lw (hc : (P M).2 pc = some (.inl (jo_lw n))) : jx_Go P d M pc ls (.long u :: .int x :: .ref a :: st) h Q ↔ ∃ q, jx_al h a = some q ∧ jx_in x q.1 ∧ jx_Go P d M n ls st (jx_wl h a q.1 (vp_updL q.2 x.toNatClampNeg u)) Q := by
  refine jx_opC (x := jx_al h a) (p := fun q => jx_in x q.1) (F := fun q => (n, ls, st, jx_wl h a q.1 (vp_updL q.2 x.toNatClampNeg u))) hc ?_ ?_ ?_
  · intro q e hp; simp only [jo_lw, e]; rw [if_pos (jx_inB_iff.mpr hp)]
  · intro q e hp; simp only [jo_lw, e]; rw [if_neg (fun z => hp (jx_inB_iff.mp z))]
  · intro e; simp only [jo_lw, e]
theorem jg_rw (hc : (P M).2 pc = some (.inl (jo_rw n t c))) : jx_Go P d M pc ls (.ref b :: .int x :: .ref a :: st) h Q ↔ ∃ q, jx_ar h a t = some q ∧ (jx_in x q.1 ∧ jx_cl h b = some c) ∧ jx_Go P d M n ls st (jx_wr h a t q.1 (va_up q.2 x.toNatClampNeg (some b))) Q := by
  refine jx_opC (x := jx_ar h a t) (p := fun q => jx_in x q.1 ∧ jx_cl h b = some c) (F := fun q => (n, ls, st, jx_wr h a t q.1 (va_up q.2 x.toNatClampNeg (some b)))) hc ?_ ?_ ?_
  · intro q e hp; simp only [jo_rw, e]; rw [if_pos ⟨jx_inB_iff.mpr hp.1, hp.2⟩]
  · intro q e hp; simp only [jo_rw, e]; rw [if_neg (fun z => hp ⟨jx_inB_iff.mp z.1, z.2⟩)]
  · intro e; simp only [jo_rw, e]
theorem jg_len (hc : (P M).2 pc = some (.inl (jo_len n))) : jx_Go P d M pc ls (.ref a :: st) h Q ↔ ∃ q, jx_ai h a = some q ∧ jx_Go P d M n ls (.int (nI q.1) :: st) h Q := jx_opE (F := fun (x : Nat × (Nat → Int32)) => (n, ls, .int (nI x.1) :: st, h)) hc rfl
theorem jg_sl (hc : (P M).2 pc = some (.inl (jo_sl n))) : jx_Go P d M pc ls (.ref 0 :: st) h Q ↔ ∃ q, jx_sc h 0 = some q ∧ jx_Go P d M n ls (.int (nI q.1) :: st) h Q := jx_opE (F := fun (x : Nat × (Nat → Int32)) => (n, ls, .int (nI x.1) :: st, h)) hc rfl
theorem jg_ct (hc : (P M).2 pc = some (.inl (jo_ct n))) : jx_Go P d M pc ls (.ref a :: st) h Q ↔ ∃ q, jx_ai h a = some q ∧ jx_Go P d M n ls (.ref a :: st) h Q := jx_opE (F := fun x => (n, ls, .ref a :: st, h)) hc rfl
theorem jg_nw {fs : List Value} (hc : (P M).2 pc = some (.inl (jo_nw n c fs))) : jx_Go P d M pc ls st h Q ↔ jx_Go P d M n ls (.ref h.1 :: st) (jx_mk h fs.length (.inr (c, fs))) Q := jx_op hc rfl
theorem jg_ni (hc : (P M).2 pc = some (.inl (jo_ni n))) (hx : jx_in x 1000000) : jx_Go P d M pc ls (.int x :: st) h Q ↔ jx_Go P d M n ls (.ref h.1 :: st) (jx_mk h x.toNatClampNeg (.inl (0, x.toNatClampNeg, .inl (fun _ => 0)))) Q := jx_op hc (by simp only [jo_ni]; rw [if_pos (jx_inB_iff.mpr hx)])
theorem jg_cp (hc : (P M).2 pc = some (.inl (jo_cp n))) : jx_Go P d M pc ls (.int z :: .int y :: .ref b :: .int x :: .ref a :: st) h Q ↔ ∃ q, jx_ai h a = some q ∧ ∃ q', jx_ai h b = some q' ∧ (st.length ≤ 4 ∧ ¬ x < 0 ∧ ¬ y < 0 ∧ ¬ z < 0 ∧ x.toNatClampNeg + z.toNatClampNeg ≤ q.1 ∧ y.toNatClampNeg + z.toNatClampNeg ≤ q'.1) ∧ jx_Go P d M n ls st (jx_wi h b q'.1 (va_cpy q.2 q'.2 x.toNatClampNeg y.toNatClampNeg z.toNatClampNeg)) Q := by
  cases e1 : jx_ai h a with
  | none => rw [jx_opN hc (by simp only [jo_cp, e1])]; simp
  | some q =>
    cases e2 : jx_ai h b with
    | none => rw [jx_opN hc (by simp only [jo_cp, e1, e2])]; simp
    | some q' =>
      by_cases hp : st.length ≤ 4 ∧ ¬ x < 0 ∧ ¬ y < 0 ∧ ¬ z < 0 ∧ x.toNatClampNeg + z.toNatClampNeg ≤ q.1 ∧ y.toNatClampNeg + z.toNatClampNeg ≤ q'.1
      · rw [jx_op hc (by simp only [jo_cp, e1, e2]; rw [if_pos hp])]
        constructor
        · exact fun g => ⟨q, rfl, q', rfl, hp, g⟩
        · rintro ⟨_, e, _, e', -, g⟩
          cases e; cases e'; exact g
      · rw [jx_opN hc (by simp only [jo_cp, e1, e2]; rw [if_neg hp])]
        constructor
        · exact False.elim
        · rintro ⟨_, e, _, e', p, -⟩
          cases e; cases e'; exact hp p
theorem jg_cn (hc : (P M).2 pc = some (.inl (jo_cn n))) : jx_Go P d M pc ls (.ref a :: st) h Q ↔ ∃ q, jx_ai h a = some q ∧ st.length ≤ 4 ∧ jx_Go P d M n ls (.ref h.1 :: st) (jx_mk h q.1 (.inl (0, q.1, .inl q.2))) Q := by
  refine jx_opC (x := jx_ai h a) (p := fun q => st.length ≤ 4) (F := fun q => (n, ls, .ref h.1 :: st, jx_mk h q.1 (.inl (0, q.1, .inl q.2)))) hc ?_ ?_ ?_
  · intro q e hp; simp only [jo_cn, e]; rw [if_pos hp]
  · intro q e hp; simp only [jo_cn, e]; rw [if_neg hp]
  · intro e; simp only [jo_cn, e]
end JGS
end
section
-- ===== PART A: goes FIRST, ahead of the names: the tables' words, and 'selects' of the private methods out of them =====
/-- a private method of a class that the tables say can be made, by its rows of tables_1 -/
def lw_okq (q : MethodName × Nat) : Prop := (q.1.cls ≠ "java/lang/invoke/MethodHandle" ∧ q.1.cls ≠ "java/lang/invoke/VarHandle") ∧ Cond.instantiable q.1.cls q.2 ∈ tables_1 ∧ Cond.privateMethod q.1 ∈ tables_1 ∧ Cond.instanceMethod q.1 ∈ tables_1
theorem lw_p0 : lw_okq (⟨"TalkBench$Marks", "readRow", "(LTalkBench$Task;I)V"⟩, 4) := ⟨⟨by decide +kernel, by decide +kernel⟩, List.mem_of_getElem? (i := 87) (by decide +kernel), List.mem_of_getElem? (i := 323) (by decide +kernel), List.mem_of_getElem? (i := 324) (by decide +kernel)⟩
theorem lw_p1 : lw_okq (⟨"TalkBench", "finding", "(I)I"⟩, 12) := ⟨⟨by decide +kernel, by decide +kernel⟩, List.mem_of_getElem? (i := 19) (by decide +kernel), List.mem_of_getElem? (i := 371) (by decide +kernel), List.mem_of_getElem? (i := 372) (by decide +kernel)⟩
theorem lw_p2 : lw_okq (⟨"TalkBench", "takeNewPlaces", "()V"⟩, 12) := ⟨⟨by decide +kernel, by decide +kernel⟩, List.mem_of_getElem? (i := 19) (by decide +kernel), List.mem_of_getElem? (i := 397) (by decide +kernel), List.mem_of_getElem? (i := 398) (by decide +kernel)⟩
theorem lw_p3 : lw_okq (⟨"TalkBench$Task", "areAlike", "(IIZ)Z"⟩, 4) := ⟨⟨by decide +kernel, by decide +kernel⟩, List.mem_of_getElem? (i := 27) (by decide +kernel), List.mem_of_getElem? (i := 480) (by decide +kernel), List.mem_of_getElem? (i := 481) (by decide +kernel)⟩
theorem lw_p4 : lw_okq (⟨"TalkBench$Blocks", "learn", "()V"⟩, 6) := ⟨⟨by decide +kernel, by decide +kernel⟩, List.mem_of_getElem? (i := 171) (by decide +kernel), List.mem_of_getElem? (i := 541) (by decide +kernel), List.mem_of_getElem? (i := 542) (by decide +kernel)⟩
theorem lw_p5 : lw_okq (⟨"TalkBench$Blocks", "learnBlock", "(II)V"⟩, 6) := ⟨⟨by decide +kernel, by decide +kernel⟩, List.mem_of_getElem? (i := 171) (by decide +kernel), List.mem_of_getElem? (i := 545) (by decide +kernel), List.mem_of_getElem? (i := 546) (by decide +kernel)⟩
theorem lw_p6 : lw_okq (⟨"TalkBench$Blocks", "tryPartings", "(III)V"⟩, 6) := ⟨⟨by decide +kernel, by decide +kernel⟩, List.mem_of_getElem? (i := 171) (by decide +kernel), List.mem_of_getElem? (i := 556) (by decide +kernel), List.mem_of_getElem? (i := 557) (by decide +kernel)⟩
theorem lw_p7 : lw_okq (⟨"TalkBench$Talk", "grow", "(III)I"⟩, 9) := ⟨⟨by decide +kernel, by decide +kernel⟩, List.mem_of_getElem? (i := 227) (by decide +kernel), List.mem_of_getElem? (i := 580) (by decide +kernel), List.mem_of_getElem? (i := 581) (by decide +kernel)⟩
theorem lw_p8 : lw_okq (⟨"TalkBench$Blocks", "firstBest", "(III)I"⟩, 6) := ⟨⟨by decide +kernel, by decide +kernel⟩, List.mem_of_getElem? (i := 171) (by decide +kernel), List.mem_of_getElem? (i := 589) (by decide +kernel), List.mem_of_getElem? (i := 590) (by decide +kernel)⟩
theorem lw_p9 : lw_okq (⟨"TalkBench$Blocks", "isPeaceful", "(IZ)Z"⟩, 6) := ⟨⟨by decide +kernel, by decide +kernel⟩, List.mem_of_getElem? (i := 171) (by decide +kernel), List.mem_of_getElem? (i := 617) (by decide +kernel), List.mem_of_getElem? (i := 618) (by decide +kernel)⟩
theorem lw_p10 : lw_okq (⟨"TalkBench$Task", "findPivot", "([III)I"⟩, 4) := ⟨⟨by decide +kernel, by decide +kernel⟩, List.mem_of_getElem? (i := 27) (by decide +kernel), List.mem_of_getElem? (i := 645) (by decide +kernel), List.mem_of_getElem? (i := 646) (by decide +kernel)⟩
theorem lw_p11 : lw_okq (⟨"TalkBench$Task", "clearBelow", "([IIIZ)V"⟩, 4) := ⟨⟨by decide +kernel, by decide +kernel⟩, List.mem_of_getElem? (i := 27) (by decide +kernel), List.mem_of_getElem? (i := 649) (by decide +kernel), List.mem_of_getElem? (i := 650) (by decide +kernel)⟩
theorem lw_p12 : lw_okq (⟨"TalkBench$Searches", "placesThatAre", "(I)I"⟩, 8) := ⟨⟨by decide +kernel, by decide +kernel⟩, List.mem_of_getElem? (i := 288) (by decide +kernel), List.mem_of_getElem? (i := 664) (by decide +kernel), List.mem_of_getElem? (i := 665) (by decide +kernel)⟩
theorem lw_p13 : lw_okq (⟨"TalkBench$Searches", "placesApart", "(II)I"⟩, 8) := ⟨⟨by decide +kernel, by decide +kernel⟩, List.mem_of_getElem? (i := 288) (by decide +kernel), List.mem_of_getElem? (i := 672) (by decide +kernel), List.mem_of_getElem? (i := 673) (by decide +kernel)⟩
theorem lw_p14 : lw_okq (⟨"TalkBench$Searches", "choose", "(III)V"⟩, 8) := ⟨⟨by decide +kernel, by decide +kernel⟩, List.mem_of_getElem? (i := 288) (by decide +kernel), List.mem_of_getElem? (i := 681) (by decide +kernel), List.mem_of_getElem? (i := 682) (by decide +kernel)⟩
theorem lw_p15 : lw_okq (⟨"TalkBench$Searches", "listGreatestBlocks", "(I)V"⟩, 8) := ⟨⟨by decide +kernel, by decide +kernel⟩, List.mem_of_getElem? (i := 288) (by decide +kernel), List.mem_of_getElem? (i := 695) (by decide +kernel), List.mem_of_getElem? (i := 696) (by decide +kernel)⟩
def lw_privs_1 : List (MethodName × Nat) := [(⟨"TalkBench$Marks", "readRow", "(LTalkBench$Task;I)V"⟩, 4), (⟨"TalkBench", "finding", "(I)I"⟩, 12), (⟨"TalkBench", "takeNewPlaces", "()V"⟩, 12), (⟨"TalkBench$Task", "areAlike", "(IIZ)Z"⟩, 4), (⟨"TalkBench$Blocks", "learn", "()V"⟩, 6), (⟨"TalkBench$Blocks", "learnBlock", "(II)V"⟩, 6), (⟨"TalkBench$Blocks", "tryPartings", "(III)V"⟩, 6), (⟨"TalkBench$Talk", "grow", "(III)I"⟩, 9), (⟨"TalkBench$Blocks", "firstBest", "(III)I"⟩, 6), (⟨"TalkBench$Blocks", "isPeaceful", "(IZ)Z"⟩, 6), (⟨"TalkBench$Task", "findPivot", "([III)I"⟩, 4), (⟨"TalkBench$Task", "clearBelow", "([IIIZ)V"⟩, 4), (⟨"TalkBench$Searches", "placesThatAre", "(I)I"⟩, 8), (⟨"TalkBench$Searches", "placesApart", "(II)I"⟩, 8), (⟨"TalkBench$Searches", "choose", "(III)V"⟩, 8), (⟨"TalkBench$Searches", "listGreatestBlocks", "(I)V"⟩, 8)]
theorem lw_r1 : ∀ q ∈ lw_privs_1, lw_okq q := List.forall_mem_cons.mpr ⟨lw_p0, List.forall_mem_cons.mpr ⟨lw_p1, List.forall_mem_cons.mpr ⟨lw_p2, List.forall_mem_cons.mpr ⟨lw_p3, List.forall_mem_cons.mpr ⟨lw_p4, List.forall_mem_cons.mpr ⟨lw_p5, List.forall_mem_cons.mpr ⟨lw_p6, List.forall_mem_cons.mpr ⟨lw_p7, List.forall_mem_cons.mpr ⟨lw_p8, List.forall_mem_cons.mpr ⟨lw_p9, List.forall_mem_cons.mpr ⟨lw_p10, List.forall_mem_cons.mpr ⟨lw_p11, List.forall_mem_cons.mpr ⟨lw_p12, List.forall_mem_cons.mpr ⟨lw_p13, List.forall_mem_cons.mpr ⟨lw_p14, List.forall_mem_cons.mpr ⟨lw_p15, fun _ h => absurd h List.not_mem_nil⟩⟩⟩⟩⟩⟩⟩⟩⟩⟩⟩⟩⟩⟩⟩⟩
theorem lw_p16 : lw_okq (⟨"TalkBench$Searches", "rowsWithout", "(II)I"⟩, 8) := ⟨⟨by decide +kernel, by decide +kernel⟩, List.mem_of_getElem? (i := 288) (by decide +kernel), List.mem_of_getElem? (i := 699) (by decide +kernel), List.mem_of_getElem? (i := 700) (by decide +kernel)⟩
theorem lw_p17 : lw_okq (⟨"TalkBench$Searches", "placesOf", "(II)I"⟩, 8) := ⟨⟨by decide +kernel, by decide +kernel⟩, List.mem_of_getElem? (i := 288) (by decide +kernel), List.mem_of_getElem? (i := 703) (by decide +kernel), List.mem_of_getElem? (i := 704) (by decide +kernel)⟩
theorem lw_p18 : lw_okq (⟨"TalkBench$Searches", "countRowsWith", "(I)I"⟩, 8) := ⟨⟨by decide +kernel, by decide +kernel⟩, List.mem_of_getElem? (i := 288) (by decide +kernel), List.mem_of_getElem? (i := 708) (by decide +kernel), List.mem_of_getElem? (i := 709) (by decide +kernel)⟩
theorem lw_p19 : lw_okq (⟨"TalkBench$Searches", "coverRest", "(II)V"⟩, 8) := ⟨⟨by decide +kernel, by decide +kernel⟩, List.mem_of_getElem? (i := 288) (by decide +kernel), List.mem_of_getElem? (i := 712) (by decide +kernel), List.mem_of_getElem? (i := 713) (by decide +kernel)⟩
theorem lw_p20 : lw_okq (⟨"TalkBench$Scales", "weighBlocks", "()V"⟩, 8) := ⟨⟨by decide +kernel, by decide +kernel⟩, List.mem_of_getElem? (i := 196) (by decide +kernel), List.mem_of_getElem? (i := 731) (by decide +kernel), List.mem_of_getElem? (i := 732) (by decide +kernel)⟩
theorem lw_p21 : lw_okq (⟨"TalkBench$Scales", "weighBlock", "(II)V"⟩, 8) := ⟨⟨by decide +kernel, by decide +kernel⟩, List.mem_of_getElem? (i := 196) (by decide +kernel), List.mem_of_getElem? (i := 735) (by decide +kernel), List.mem_of_getElem? (i := 736) (by decide +kernel)⟩
theorem lw_p22 : lw_okq (⟨"TalkBench$Scales", "addUp", "(III)V"⟩, 8) := ⟨⟨by decide +kernel, by decide +kernel⟩, List.mem_of_getElem? (i := 196) (by decide +kernel), List.mem_of_getElem? (i := 741) (by decide +kernel), List.mem_of_getElem? (i := 742) (by decide +kernel)⟩
theorem lw_p23 : lw_okq (⟨"TalkBench$Scales", "allowOneBitMore", "()V"⟩, 8) := ⟨⟨by decide +kernel, by decide +kernel⟩, List.mem_of_getElem? (i := 196) (by decide +kernel), List.mem_of_getElem? (i := 759) (by decide +kernel), List.mem_of_getElem? (i := 760) (by decide +kernel)⟩
theorem lw_p24 : lw_okq (⟨"TalkBench$Scales", "tryPartings", "(III)V"⟩, 8) := ⟨⟨by decide +kernel, by decide +kernel⟩, List.mem_of_getElem? (i := 196) (by decide +kernel), List.mem_of_getElem? (i := 763) (by decide +kernel), List.mem_of_getElem? (i := 764) (by decide +kernel)⟩
theorem lw_p25 : lw_okq (⟨"TalkBench$Judge", "isRight", "(III)Z"⟩, 6) := ⟨⟨by decide +kernel, by decide +kernel⟩, List.mem_of_getElem? (i := 262) (by decide +kernel), List.mem_of_getElem? (i := 783) (by decide +kernel), List.mem_of_getElem? (i := 784) (by decide +kernel)⟩
theorem lw_p26 : lw_okq (⟨"TalkBench$Judge", "endIsRight", "(IIII)Z"⟩, 6) := ⟨⟨by decide +kernel, by decide +kernel⟩, List.mem_of_getElem? (i := 262) (by decide +kernel), List.mem_of_getElem? (i := 787) (by decide +kernel), List.mem_of_getElem? (i := 788) (by decide +kernel)⟩
theorem lw_p27 : lw_okq (⟨"TalkBench$Judge", "liesWithEarlier", "(I)Z"⟩, 6) := ⟨⟨by decide +kernel, by decide +kernel⟩, List.mem_of_getElem? (i := 262) (by decide +kernel), List.mem_of_getElem? (i := 803) (by decide +kernel), List.mem_of_getElem? (i := 804) (by decide +kernel)⟩
theorem lw_p28 : lw_okq (⟨"TalkBench$Likeness", "matchRest", "(IILTalkBench$Task;)Z"⟩, 2) := ⟨⟨by decide +kernel, by decide +kernel⟩, List.mem_of_getElem? (i := 119) (by decide +kernel), List.mem_of_getElem? (i := 843) (by decide +kernel), List.mem_of_getElem? (i := 844) (by decide +kernel)⟩
theorem lw_p29 : lw_okq (⟨"TalkBenchModel", "finding", "(I)I"⟩, 38) := ⟨⟨by decide +kernel, by decide +kernel⟩, List.mem_of_getElem? (i := 865) (by decide +kernel), List.mem_of_getElem? (i := 992) (by decide +kernel), List.mem_of_getElem? (i := 993) (by decide +kernel)⟩
theorem lw_p30 : lw_okq (⟨"TalkBenchModel", "load", "([II)V"⟩, 38) := ⟨⟨by decide +kernel, by decide +kernel⟩, List.mem_of_getElem? (i := 865) (by decide +kernel), List.mem_of_getElem? (i := 996) (by decide +kernel), List.mem_of_getElem? (i := 997) (by decide +kernel)⟩
theorem lw_p31 : lw_okq (⟨"TalkBenchModel", "keepTask", "()V"⟩, 38) := ⟨⟨by decide +kernel, by decide +kernel⟩, List.mem_of_getElem? (i := 865) (by decide +kernel), List.mem_of_getElem? (i := 1004) (by decide +kernel), List.mem_of_getElem? (i := 1005) (by decide +kernel)⟩
def lw_privs_2 : List (MethodName × Nat) := [(⟨"TalkBench$Searches", "rowsWithout", "(II)I"⟩, 8), (⟨"TalkBench$Searches", "placesOf", "(II)I"⟩, 8), (⟨"TalkBench$Searches", "countRowsWith", "(I)I"⟩, 8), (⟨"TalkBench$Searches", "coverRest", "(II)V"⟩, 8), (⟨"TalkBench$Scales", "weighBlocks", "()V"⟩, 8), (⟨"TalkBench$Scales", "weighBlock", "(II)V"⟩, 8), (⟨"TalkBench$Scales", "addUp", "(III)V"⟩, 8), (⟨"TalkBench$Scales", "allowOneBitMore", "()V"⟩, 8), (⟨"TalkBench$Scales", "tryPartings", "(III)V"⟩, 8), (⟨"TalkBench$Judge", "isRight", "(III)Z"⟩, 6), (⟨"TalkBench$Judge", "endIsRight", "(IIII)Z"⟩, 6), (⟨"TalkBench$Judge", "liesWithEarlier", "(I)Z"⟩, 6), (⟨"TalkBench$Likeness", "matchRest", "(IILTalkBench$Task;)Z"⟩, 2), (⟨"TalkBenchModel", "finding", "(I)I"⟩, 38), (⟨"TalkBenchModel", "load", "([II)V"⟩, 38), (⟨"TalkBenchModel", "keepTask", "()V"⟩, 38)]
theorem lw_r2 : ∀ q ∈ lw_privs_2, lw_okq q := List.forall_mem_cons.mpr ⟨lw_p16, List.forall_mem_cons.mpr ⟨lw_p17, List.forall_mem_cons.mpr ⟨lw_p18, List.forall_mem_cons.mpr ⟨lw_p19, List.forall_mem_cons.mpr ⟨lw_p20, List.forall_mem_cons.mpr ⟨lw_p21, List.forall_mem_cons.mpr ⟨lw_p22, List.forall_mem_cons.mpr ⟨lw_p23, List.forall_mem_cons.mpr ⟨lw_p24, List.forall_mem_cons.mpr ⟨lw_p25, List.forall_mem_cons.mpr ⟨lw_p26, List.forall_mem_cons.mpr ⟨lw_p27, List.forall_mem_cons.mpr ⟨lw_p28, List.forall_mem_cons.mpr ⟨lw_p29, List.forall_mem_cons.mpr ⟨lw_p30, List.forall_mem_cons.mpr ⟨lw_p31, fun _ h => absurd h List.not_mem_nil⟩⟩⟩⟩⟩⟩⟩⟩⟩⟩⟩⟩⟩⟩⟩⟩
theorem lw_p32 : lw_okq (⟨"TalkBenchModel", "save", "([II)V"⟩, 38) := ⟨⟨by decide +kernel, by decide +kernel⟩, List.mem_of_getElem? (i := 865) (by decide +kernel), List.mem_of_getElem? (i := 1008) (by decide +kernel), List.mem_of_getElem? (i := 1009) (by decide +kernel)⟩
theorem lw_p33 : lw_okq (⟨"TalkBenchModel", "isPlace", "(II)Z"⟩, 38) := ⟨⟨by decide +kernel, by decide +kernel⟩, List.mem_of_getElem? (i := 865) (by decide +kernel), List.mem_of_getElem? (i := 1016) (by decide +kernel), List.mem_of_getElem? (i := 1017) (by decide +kernel)⟩
theorem lw_p34 : lw_okq (⟨"TalkBenchModel", "ones", "(I)I"⟩, 38) := ⟨⟨by decide +kernel, by decide +kernel⟩, List.mem_of_getElem? (i := 865) (by decide +kernel), List.mem_of_getElem? (i := 1035) (by decide +kernel), List.mem_of_getElem? (i := 1036) (by decide +kernel)⟩
theorem lw_p35 : lw_okq (⟨"TalkBenchModel", "at", "(ZII)I"⟩, 38) := ⟨⟨by decide +kernel, by decide +kernel⟩, List.mem_of_getElem? (i := 865) (by decide +kernel), List.mem_of_getElem? (i := 1051) (by decide +kernel), List.mem_of_getElem? (i := 1052) (by decide +kernel)⟩
theorem lw_p36 : lw_okq (⟨"TalkBenchModel", "hasPart", "(III)Z"⟩, 38) := ⟨⟨by decide +kernel, by decide +kernel⟩, List.mem_of_getElem? (i := 865) (by decide +kernel), List.mem_of_getElem? (i := 1070) (by decide +kernel), List.mem_of_getElem? (i := 1071) (by decide +kernel)⟩
theorem lw_p37 : lw_okq (⟨"TalkBenchModel", "areSets", "(II)Z"⟩, 38) := ⟨⟨by decide +kernel, by decide +kernel⟩, List.mem_of_getElem? (i := 865) (by decide +kernel), List.mem_of_getElem? (i := 1082) (by decide +kernel), List.mem_of_getElem? (i := 1083) (by decide +kernel)⟩
theorem lw_p38 : lw_okq (⟨"TalkBenchModel", "tellBlocks", "()V"⟩, 38) := ⟨⟨by decide +kernel, by decide +kernel⟩, List.mem_of_getElem? (i := 865) (by decide +kernel), List.mem_of_getElem? (i := 1086) (by decide +kernel), List.mem_of_getElem? (i := 1087) (by decide +kernel)⟩
theorem lw_p39 : lw_okq (⟨"TalkBenchModel", "all", "()I"⟩, 38) := ⟨⟨by decide +kernel, by decide +kernel⟩, List.mem_of_getElem? (i := 865) (by decide +kernel), List.mem_of_getElem? (i := 1090) (by decide +kernel), List.mem_of_getElem? (i := 1091) (by decide +kernel)⟩
theorem lw_p40 : lw_okq (⟨"TalkBenchModel", "isBlock", "(I)Z"⟩, 38) := ⟨⟨by decide +kernel, by decide +kernel⟩, List.mem_of_getElem? (i := 865) (by decide +kernel), List.mem_of_getElem? (i := 1094) (by decide +kernel), List.mem_of_getElem? (i := 1095) (by decide +kernel)⟩
theorem lw_p41 : lw_okq (⟨"TalkBenchModel", "isEven", "(I)Z"⟩, 38) := ⟨⟨by decide +kernel, by decide +kernel⟩, List.mem_of_getElem? (i := 865) (by decide +kernel), List.mem_of_getElem? (i := 1098) (by decide +kernel), List.mem_of_getElem? (i := 1099) (by decide +kernel)⟩
theorem lw_p42 : lw_okq (⟨"TalkBenchModel", "has", "(I)I"⟩, 38) := ⟨⟨by decide +kernel, by decide +kernel⟩, List.mem_of_getElem? (i := 865) (by decide +kernel), List.mem_of_getElem? (i := 1102) (by decide +kernel), List.mem_of_getElem? (i := 1103) (by decide +kernel)⟩
theorem lw_p43 : lw_okq (⟨"TalkBenchModel", "parted", "(IIZ)Z"⟩, 38) := ⟨⟨by decide +kernel, by decide +kernel⟩, List.mem_of_getElem? (i := 865) (by decide +kernel), List.mem_of_getElem? (i := 1109) (by decide +kernel), List.mem_of_getElem? (i := 1110) (by decide +kernel)⟩
theorem lw_p44 : lw_okq (⟨"TalkBenchModel", "takeBest", "(IZI)V"⟩, 38) := ⟨⟨by decide +kernel, by decide +kernel⟩, List.mem_of_getElem? (i := 865) (by decide +kernel), List.mem_of_getElem? (i := 1113) (by decide +kernel), List.mem_of_getElem? (i := 1114) (by decide +kernel)⟩
theorem lw_p45 : lw_okq (⟨"TalkBenchModel", "parting", "(I)I"⟩, 38) := ⟨⟨by decide +kernel, by decide +kernel⟩, List.mem_of_getElem? (i := 865) (by decide +kernel), List.mem_of_getElem? (i := 1125) (by decide +kernel), List.mem_of_getElem? (i := 1126) (by decide +kernel)⟩
theorem lw_p46 : lw_okq (⟨"TalkBenchModel", "reaches", "(II)Z"⟩, 38) := ⟨⟨by decide +kernel, by decide +kernel⟩, List.mem_of_getElem? (i := 865) (by decide +kernel), List.mem_of_getElem? (i := 1129) (by decide +kernel), List.mem_of_getElem? (i := 1130) (by decide +kernel)⟩
theorem lw_p47 : lw_okq (⟨"TalkBenchModel", "quarrel", "(ZII)Z"⟩, 38) := ⟨⟨by decide +kernel, by decide +kernel⟩, List.mem_of_getElem? (i := 865) (by decide +kernel), List.mem_of_getElem? (i := 1145) (by decide +kernel), List.mem_of_getElem? (i := 1146) (by decide +kernel)⟩
def lw_privs_3 : List (MethodName × Nat) := [(⟨"TalkBenchModel", "save", "([II)V"⟩, 38), (⟨"TalkBenchModel", "isPlace", "(II)Z"⟩, 38), (⟨"TalkBenchModel", "ones", "(I)I"⟩, 38), (⟨"TalkBenchModel", "at", "(ZII)I"⟩, 38), (⟨"TalkBenchModel", "hasPart", "(III)Z"⟩, 38), (⟨"TalkBenchModel", "areSets", "(II)Z"⟩, 38), (⟨"TalkBenchModel", "tellBlocks", "()V"⟩, 38), (⟨"TalkBenchModel", "all", "()I"⟩, 38), (⟨"TalkBenchModel", "isBlock", "(I)Z"⟩, 38), (⟨"TalkBenchModel", "isEven", "(I)Z"⟩, 38), (⟨"TalkBenchModel", "has", "(I)I"⟩, 38), (⟨"TalkBenchModel", "parted", "(IIZ)Z"⟩, 38), (⟨"TalkBenchModel", "takeBest", "(IZI)V"⟩, 38), (⟨"TalkBenchModel", "parting", "(I)I"⟩, 38), (⟨"TalkBenchModel", "reaches", "(II)Z"⟩, 38), (⟨"TalkBenchModel", "quarrel", "(ZII)Z"⟩, 38)]
theorem lw_r3 : ∀ q ∈ lw_privs_3, lw_okq q := List.forall_mem_cons.mpr ⟨lw_p32, List.forall_mem_cons.mpr ⟨lw_p33, List.forall_mem_cons.mpr ⟨lw_p34, List.forall_mem_cons.mpr ⟨lw_p35, List.forall_mem_cons.mpr ⟨lw_p36, List.forall_mem_cons.mpr ⟨lw_p37, List.forall_mem_cons.mpr ⟨lw_p38, List.forall_mem_cons.mpr ⟨lw_p39, List.forall_mem_cons.mpr ⟨lw_p40, List.forall_mem_cons.mpr ⟨lw_p41, List.forall_mem_cons.mpr ⟨lw_p42, List.forall_mem_cons.mpr ⟨lw_p43, List.forall_mem_cons.mpr ⟨lw_p44, List.forall_mem_cons.mpr ⟨lw_p45, List.forall_mem_cons.mpr ⟨lw_p46, List.forall_mem_cons.mpr ⟨lw_p47, fun _ h => absurd h List.not_mem_nil⟩⟩⟩⟩⟩⟩⟩⟩⟩⟩⟩⟩⟩⟩⟩⟩
theorem lw_p48 : lw_okq (⟨"TalkBenchModel", "swapLines", "(II)V"⟩, 38) := ⟨⟨by decide +kernel, by decide +kernel⟩, List.mem_of_getElem? (i := 865) (by decide +kernel), List.mem_of_getElem? (i := 1158) (by decide +kernel), List.mem_of_getElem? (i := 1159) (by decide +kernel)⟩
theorem lw_p49 : lw_okq (⟨"TalkBenchModel", "lieTogether", "(II)Z"⟩, 38) := ⟨⟨by decide +kernel, by decide +kernel⟩, List.mem_of_getElem? (i := 865) (by decide +kernel), List.mem_of_getElem? (i := 1166) (by decide +kernel), List.mem_of_getElem? (i := 1167) (by decide +kernel)⟩
theorem lw_p50 : lw_okq (⟨"TalkBenchModel", "covers", "(III)Z"⟩, 38) := ⟨⟨by decide +kernel, by decide +kernel⟩, List.mem_of_getElem? (i := 865) (by decide +kernel), List.mem_of_getElem? (i := 1174) (by decide +kernel), List.mem_of_getElem? (i := 1175) (by decide +kernel)⟩
theorem lw_p51 : lw_okq (⟨"TalkBenchModel", "rowsFor", "(II)I"⟩, 38) := ⟨⟨by decide +kernel, by decide +kernel⟩, List.mem_of_getElem? (i := 865) (by decide +kernel), List.mem_of_getElem? (i := 1178) (by decide +kernel), List.mem_of_getElem? (i := 1179) (by decide +kernel)⟩
theorem lw_p52 : lw_okq (⟨"TalkBenchModel", "placesOf", "(II)I"⟩, 38) := ⟨⟨by decide +kernel, by decide +kernel⟩, List.mem_of_getElem? (i := 865) (by decide +kernel), List.mem_of_getElem? (i := 1182) (by decide +kernel), List.mem_of_getElem? (i := 1183) (by decide +kernel)⟩
theorem lw_p53 : lw_okq (⟨"TalkBenchModel", "weightOf", "(II)I"⟩, 38) := ⟨⟨by decide +kernel, by decide +kernel⟩, List.mem_of_getElem? (i := 865) (by decide +kernel), List.mem_of_getElem? (i := 1194) (by decide +kernel), List.mem_of_getElem? (i := 1195) (by decide +kernel)⟩
theorem lw_p54 : lw_okq (⟨"TalkBenchModel", "lessWrong", "(IZIII)I"⟩, 38) := ⟨⟨by decide +kernel, by decide +kernel⟩, List.mem_of_getElem? (i := 865) (by decide +kernel), List.mem_of_getElem? (i := 1202) (by decide +kernel), List.mem_of_getElem? (i := 1203) (by decide +kernel)⟩
theorem lw_p55 : lw_okq (⟨"TalkBenchModel", "slotPlace", "(III)I"⟩, 38) := ⟨⟨by decide +kernel, by decide +kernel⟩, List.mem_of_getElem? (i := 865) (by decide +kernel), List.mem_of_getElem? (i := 1233) (by decide +kernel), List.mem_of_getElem? (i := 1234) (by decide +kernel)⟩
def lw_privs_4 : List (MethodName × Nat) := [(⟨"TalkBenchModel", "swapLines", "(II)V"⟩, 38), (⟨"TalkBenchModel", "lieTogether", "(II)Z"⟩, 38), (⟨"TalkBenchModel", "covers", "(III)Z"⟩, 38), (⟨"TalkBenchModel", "rowsFor", "(II)I"⟩, 38), (⟨"TalkBenchModel", "placesOf", "(II)I"⟩, 38), (⟨"TalkBenchModel", "weightOf", "(II)I"⟩, 38), (⟨"TalkBenchModel", "lessWrong", "(IZIII)I"⟩, 38), (⟨"TalkBenchModel", "slotPlace", "(III)I"⟩, 38)]
theorem lw_r4 : ∀ q ∈ lw_privs_4, lw_okq q := List.forall_mem_cons.mpr ⟨lw_p48, List.forall_mem_cons.mpr ⟨lw_p49, List.forall_mem_cons.mpr ⟨lw_p50, List.forall_mem_cons.mpr ⟨lw_p51, List.forall_mem_cons.mpr ⟨lw_p52, List.forall_mem_cons.mpr ⟨lw_p53, List.forall_mem_cons.mpr ⟨lw_p54, List.forall_mem_cons.mpr ⟨lw_p55, fun _ h => absurd h List.not_mem_nil⟩⟩⟩⟩⟩⟩⟩⟩
def lw_privs : List (MethodName × Nat) := lw_privs_1 ++ (lw_privs_2 ++ (lw_privs_3 ++ (lw_privs_4)))
def lw_tbl : List Cond := k2_sels lw_privs ++ tables_1
theorem lw_privs_ok : ∀ q ∈ lw_privs, lw_okq q := by
  show ∀ q ∈ lw_privs_1 ++ (lw_privs_2 ++ (lw_privs_3 ++ (lw_privs_4))), lw_okq q
  exact List.forall_mem_append.mpr ⟨lw_r1, List.forall_mem_append.mpr ⟨lw_r2, List.forall_mem_append.mpr ⟨lw_r3, lw_r4⟩⟩⟩
def RX0 : String := "TalkBench$Blocks"
def TX0 : u_T := fun k => match k with
  | 0 => ("TalkBench$Blocks", "marks", "LTalkBench$Marks;", true)
  | 1 => ("TalkBench$Blocks", "partings", "LTalkBench$Partings;", true)
  | 2 => ("TalkBench$Blocks", "bitsOf", "[I", true)
  | 3 => ("TalkBench$Blocks", "endsOf", "[I", true)
  | 4 => ("TalkBench$Blocks", "classesOf", "[I", true)
  | _ => ("TalkBench$Blocks", "known", "Z", false)
def tyX0 : Nat → FieldType := fun k => match k with
  | 0 => .object "TalkBench$Marks"
  | 1 => .object "TalkBench$Partings"
  | 2 => .array .int
  | 3 => .array .int
  | 4 => .array .int
  | _ => .boolean
theorem nmX0 : ∀ a, a < 6 → ∀ b, b < 6 → a ≠ b → (TX0 a).2.1 ≠ (TX0 b).2.1 := by decide +kernel
theorem tyX0_ok : ∀ k, k < 6 → parseFieldDescriptor (TX0 k).2.2.1 = some (tyX0 k) := by decide +kernel
abbrev cX0_init : ByteArray := prog_2_method_1_code
def yX0_init : MethodName := ⟨RX0, "<init>", "(LTalkBench$Marks;LTalkBench$Partings;)V"⟩
abbrev cX0_forget : ByteArray := prog_2_method_2_code
def yX0_forget : MethodName := ⟨RX0, "forget", "()V"⟩
abbrev cX0_leastBits : ByteArray := prog_2_method_3_code
def yX0_leastBits : MethodName := ⟨RX0, "leastBits", "(II)I"⟩
abbrev cX0_fewestEnds : ByteArray := prog_2_method_4_code
def yX0_fewestEnds : MethodName := ⟨RX0, "fewestEnds", "(II)I"⟩
abbrev cX0_learn : ByteArray := prog_2_method_5_code
def yX0_learn : MethodName := ⟨RX0, "learn", "()V"⟩
abbrev cX0_learnBlock : ByteArray := prog_2_method_6_code
def yX0_learnBlock : MethodName := ⟨RX0, "learnBlock", "(II)V"⟩
abbrev cX0_tryPartings : ByteArray := prog_2_method_7_code
def yX0_tryPartings : MethodName := ⟨RX0, "tryPartings", "(III)V"⟩
abbrev cX0_bestParting : ByteArray := prog_2_method_8_code
def yX0_bestParting : MethodName := ⟨RX0, "bestParting", "(II)I"⟩
abbrev cX0_firstBest : ByteArray := prog_2_method_9_code
def yX0_firstBest : MethodName := ⟨RX0, "firstBest", "(III)I"⟩
abbrev cX0_fewestClasses : ByteArray := prog_2_method_10_code
def yX0_fewestClasses : MethodName := ⟨RX0, "fewestClasses", "(Z)I"⟩
abbrev cX0_isPeaceful : ByteArray := prog_2_method_11_code
def yX0_isPeaceful : MethodName := ⟨RX0, "isPeaceful", "(IZ)Z"⟩
def RX1 : String := "TalkBench$History"
def TX1 : u_T := fun k => match k with
  | 0 => ("TalkBench$History", "tasks", "[LTalkBench$Task;", true)
  | 1 => ("TalkBench$History", "next", "I", false)
  | _ => ("TalkBench$History", "count", "I", false)
def tyX1 : Nat → FieldType := fun k => match k with
  | 0 => .array (.object "TalkBench$Task")
  | 1 => .int
  | _ => .int
theorem nmX1 : ∀ a, a < 3 → ∀ b, b < 3 → a ≠ b → (TX1 a).2.1 ≠ (TX1 b).2.1 := by decide +kernel
theorem tyX1_ok : ∀ k, k < 3 → parseFieldDescriptor (TX1 k).2.2.1 = some (tyX1 k) := by decide +kernel
abbrev cX1_init : ByteArray := prog_3_method_1_code
def yX1_init : MethodName := ⟨RX1, "<init>", "()V"⟩
abbrev cX1_push : ByteArray := prog_3_method_2_code
def yX1_push : MethodName := ⟨RX1, "push", "(LTalkBench$Task;)V"⟩
abbrev cX1_pop : ByteArray := prog_3_method_3_code
def yX1_pop : MethodName := ⟨RX1, "pop", "(LTalkBench$Task;)V"⟩
def RX2 : String := "TalkBench$Judge"
def TX2 : u_T := fun k => match k with
  | 0 => ("TalkBench$Judge", "task", "LTalkBench$Task;", true)
  | 1 => ("TalkBench$Judge", "marks", "LTalkBench$Marks;", true)
  | 2 => ("TalkBench$Judge", "numbers", "[I", true)
  | 3 => ("TalkBench$Judge", "count", "I", false)
  | 4 => ("TalkBench$Judge", "knotsRead", "I", false)
  | _ => ("TalkBench$Judge", "mostBits", "I", false)
def tyX2 : Nat → FieldType := fun k => match k with
  | 0 => .object "TalkBench$Task"
  | 1 => .object "TalkBench$Marks"
  | 2 => .array .int
  | 3 => .int
  | 4 => .int
  | _ => .int
theorem nmX2 : ∀ a, a < 6 → ∀ b, b < 6 → a ≠ b → (TX2 a).2.1 ≠ (TX2 b).2.1 := by decide +kernel
theorem tyX2_ok : ∀ k, k < 6 → parseFieldDescriptor (TX2 k).2.2.1 = some (tyX2 k) := by decide +kernel
abbrev cX2_init : ByteArray := prog_4_method_1_code
def yX2_init : MethodName := ⟨RX2, "<init>", "(LTalkBench$Task;LTalkBench$Marks;)V"⟩
abbrev cX2_take : ByteArray := prog_4_method_2_code
def yX2_take : MethodName := ⟨RX2, "take", "(I)V"⟩
abbrev cX2_judgeTalk : ByteArray := prog_4_method_3_code
def yX2_judgeTalk : MethodName := ⟨RX2, "judgeTalk", "()I"⟩
abbrev cX2_isRight : ByteArray := prog_4_method_4_code
def yX2_isRight : MethodName := ⟨RX2, "isRight", "(III)Z"⟩
abbrev cX2_endIsRight : ByteArray := prog_4_method_5_code
def yX2_endIsRight : MethodName := ⟨RX2, "endIsRight", "(IIII)Z"⟩
abbrev cX2_judgeFooling : ByteArray := prog_4_method_6_code
def yX2_judgeFooling : MethodName := ⟨RX2, "judgeFooling", "(I)I"⟩
abbrev cX2_liesWithEarlier : ByteArray := prog_4_method_7_code
def yX2_liesWithEarlier : MethodName := ⟨RX2, "liesWithEarlier", "(I)Z"⟩
def RX3 : String := "TalkBench$Likeness"
def TX3 : u_T := fun k => match k with
  | 0 => ("TalkBench$Likeness", "cut", "[[I", true)
  | _ => ("TalkBench$Likeness", "otherCut", "[[I", true)
def tyX3 : Nat → FieldType := fun k => match k with
  | 0 => .array (.array .int)
  | _ => .array (.array .int)
theorem nmX3 : ∀ a, a < 2 → ∀ b, b < 2 → a ≠ b → (TX3 a).2.1 ≠ (TX3 b).2.1 := by decide +kernel
theorem tyX3_ok : ∀ k, k < 2 → parseFieldDescriptor (TX3 k).2.2.1 = some (tyX3 k) := by decide +kernel
abbrev cX3_init : ByteArray := prog_5_method_1_code
def yX3_init : MethodName := ⟨RX3, "<init>", "()V"⟩
abbrev cX3_isReordered : ByteArray := prog_5_method_2_code
def yX3_isReordered : MethodName := ⟨RX3, "isReordered", "(LTalkBench$Task;LTalkBench$Task;)Z"⟩
abbrev cX3_matchRest : ByteArray := prog_5_method_3_code
def yX3_matchRest : MethodName := ⟨RX3, "matchRest", "(IILTalkBench$Task;)Z"⟩
abbrev cX3_addRow : ByteArray := prog_5_method_4_code
def yX3_addRow : MethodName := ⟨RX3, "addRow", "([[IILTalkBench$Task;I)V"⟩
abbrev cX3_haveSameColumns : ByteArray := prog_5_method_5_code
def yX3_haveSameColumns : MethodName := ⟨RX3, "haveSameColumns", "([I[II)Z"⟩
abbrev cX3_findFree : ByteArray := prog_5_method_6_code
def yX3_findFree : MethodName := ⟨RX3, "findFree", "([IIII)I"⟩
def RX4 : String := "TalkBench$Marks"
def TX4 : u_T := fun k => match k with
  | 0 => ("TalkBench$Marks", "allRows", "I", false)
  | 1 => ("TalkBench$Marks", "allColumns", "I", false)
  | 2 => ("TalkBench$Marks", "ones", "[I", true)
  | _ => ("TalkBench$Marks", "zeros", "[I", true)
def tyX4 : Nat → FieldType := fun k => match k with
  | 0 => .int
  | 1 => .int
  | 2 => .array .int
  | _ => .array .int
theorem nmX4 : ∀ a, a < 4 → ∀ b, b < 4 → a ≠ b → (TX4 a).2.1 ≠ (TX4 b).2.1 := by decide +kernel
theorem tyX4_ok : ∀ k, k < 4 → parseFieldDescriptor (TX4 k).2.2.1 = some (tyX4 k) := by decide +kernel
abbrev cX4_init : ByteArray := prog_6_method_1_code
def yX4_init : MethodName := ⟨RX4, "<init>", "()V"⟩
abbrev cX4_read : ByteArray := prog_6_method_2_code
def yX4_read : MethodName := ⟨RX4, "read", "(LTalkBench$Task;)V"⟩
abbrev cX4_readRow : ByteArray := prog_6_method_3_code
def yX4_readRow : MethodName := ⟨RX4, "readRow", "(LTalkBench$Task;I)V"⟩
abbrev cX4_hasBlock : ByteArray := prog_6_method_4_code
def yX4_hasBlock : MethodName := ⟨RX4, "hasBlock", "(II)Z"⟩
abbrev cX4_isEven : ByteArray := prog_6_method_5_code
def yX4_isEven : MethodName := ⟨RX4, "isEven", "(II)Z"⟩
abbrev cX4_columnsWith : ByteArray := prog_6_method_6_code
def yX4_columnsWith : MethodName := ⟨RX4, "columnsWith", "(II)I"⟩
abbrev cX4_areInOneEvenBlock : ByteArray := prog_6_method_7_code
def yX4_areInOneEvenBlock : MethodName := ⟨RX4, "areInOneEvenBlock", "(II)Z"⟩
def RX5 : String := "TalkBench$Partings"
def TX5 : u_T := fun k => match k with
  | 0 => ("TalkBench$Partings", "from", "[I", true)
  | _ => ("TalkBench$Partings", "seconds", "[I", true)
def tyX5 : Nat → FieldType := fun k => match k with
  | 0 => .array .int
  | _ => .array .int
theorem nmX5 : ∀ a, a < 2 → ∀ b, b < 2 → a ≠ b → (TX5 a).2.1 ≠ (TX5 b).2.1 := by decide +kernel
theorem tyX5_ok : ∀ k, k < 2 → parseFieldDescriptor (TX5 k).2.2.1 = some (tyX5 k) := by decide +kernel
abbrev cX5_init : ByteArray := prog_7_method_1_code
def yX5_init : MethodName := ⟨RX5, "<init>", "()V"⟩
def RX6 : String := "TalkBench$Scales"
def TX6 : u_T := fun k => match k with
  | 0 => ("TalkBench$Scales", "task", "LTalkBench$Task;", true)
  | 1 => ("TalkBench$Scales", "marks", "LTalkBench$Marks;", true)
  | 2 => ("TalkBench$Scales", "partings", "LTalkBench$Partings;", true)
  | 3 => ("TalkBench$Scales", "ones", "[I", true)
  | 4 => ("TalkBench$Scales", "zeros", "[I", true)
  | 5 => ("TalkBench$Scales", "loss", "[I", true)
  | 6 => ("TalkBench$Scales", "lossOfAll", "[I", true)
  | _ => ("TalkBench$Scales", "bitsOfLoss", "I", false)
def tyX6 : Nat → FieldType := fun k => match k with
  | 0 => .object "TalkBench$Task"
  | 1 => .object "TalkBench$Marks"
  | 2 => .object "TalkBench$Partings"
  | 3 => .array .int
  | 4 => .array .int
  | 5 => .array .int
  | 6 => .array .int
  | _ => .int
theorem nmX6 : ∀ a, a < 8 → ∀ b, b < 8 → a ≠ b → (TX6 a).2.1 ≠ (TX6 b).2.1 := by decide +kernel
theorem tyX6_ok : ∀ k, k < 8 → parseFieldDescriptor (TX6 k).2.2.1 = some (tyX6 k) := by decide +kernel
abbrev cX6_init : ByteArray := prog_8_method_1_code
def yX6_init : MethodName := ⟨RX6, "<init>", "(LTalkBench$Task;LTalkBench$Marks;LTalkBench$Partings;)V"⟩
abbrev cX6_forget : ByteArray := prog_8_method_2_code
def yX6_forget : MethodName := ⟨RX6, "forget", "()V"⟩
abbrev cX6_greatestDifference : ByteArray := prog_8_method_3_code
def yX6_greatestDifference : MethodName := ⟨RX6, "greatestDifference", "()I"⟩
abbrev cX6_leastLoss : ByteArray := prog_8_method_4_code
def yX6_leastLoss : MethodName := ⟨RX6, "leastLoss", "(I)I"⟩
abbrev cX6_weighBlocks : ByteArray := prog_8_method_5_code
def yX6_weighBlocks : MethodName := ⟨RX6, "weighBlocks", "()V"⟩
abbrev cX6_weighBlock : ByteArray := prog_8_method_6_code
def yX6_weighBlock : MethodName := ⟨RX6, "weighBlock", "(II)V"⟩
abbrev cX6_addUp : ByteArray := prog_8_method_7_code
def yX6_addUp : MethodName := ⟨RX6, "addUp", "(III)V"⟩
abbrev cX6_allowOneBitMore : ByteArray := prog_8_method_8_code
def yX6_allowOneBitMore : MethodName := ⟨RX6, "allowOneBitMore", "()V"⟩
abbrev cX6_tryPartings : ByteArray := prog_8_method_9_code
def yX6_tryPartings : MethodName := ⟨RX6, "tryPartings", "(III)V"⟩
def RX7 : String := "TalkBench$Searches"
def TX7 : u_T := fun k => match k with
  | 0 => ("TalkBench$Searches", "task", "LTalkBench$Task;", true)
  | 1 => ("TalkBench$Searches", "marks", "LTalkBench$Marks;", true)
  | 2 => ("TalkBench$Searches", "apart", "[I", true)
  | 3 => ("TalkBench$Searches", "greatBlocks", "[I", true)
  | 4 => ("TalkBench$Searches", "greatBlockCount", "I", false)
  | 5 => ("TalkBench$Searches", "bestFooling", "I", false)
  | 6 => ("TalkBench$Searches", "foolingPlaces", "I", false)
  | _ => ("TalkBench$Searches", "bestCover", "I", false)
def tyX7 : Nat → FieldType := fun k => match k with
  | 0 => .object "TalkBench$Task"
  | 1 => .object "TalkBench$Marks"
  | 2 => .array .int
  | 3 => .array .int
  | 4 => .int
  | 5 => .int
  | 6 => .int
  | _ => .int
theorem nmX7 : ∀ a, a < 8 → ∀ b, b < 8 → a ≠ b → (TX7 a).2.1 ≠ (TX7 b).2.1 := by decide +kernel
theorem tyX7_ok : ∀ k, k < 8 → parseFieldDescriptor (TX7 k).2.2.1 = some (tyX7 k) := by decide +kernel
abbrev cX7_init : ByteArray := prog_9_method_1_code
def yX7_init : MethodName := ⟨RX7, "<init>", "(LTalkBench$Task;LTalkBench$Marks;)V"⟩
abbrev cX7_greatestFooling : ByteArray := prog_9_method_2_code
def yX7_greatestFooling : MethodName := ⟨RX7, "greatestFooling", "(I)I"⟩
abbrev cX7_placesThatAre : ByteArray := prog_9_method_3_code
def yX7_placesThatAre : MethodName := ⟨RX7, "placesThatAre", "(I)I"⟩
abbrev cX7_placesApart : ByteArray := prog_9_method_4_code
def yX7_placesApart : MethodName := ⟨RX7, "placesApart", "(II)I"⟩
abbrev cX7_choose : ByteArray := prog_9_method_5_code
def yX7_choose : MethodName := ⟨RX7, "choose", "(III)V"⟩
abbrev cX7_fewestToCover : ByteArray := prog_9_method_6_code
def yX7_fewestToCover : MethodName := ⟨RX7, "fewestToCover", "(I)I"⟩
abbrev cX7_countRowsWith : ByteArray := prog_9_method_7_code
def yX7_countRowsWith : MethodName := ⟨RX7, "countRowsWith", "(I)I"⟩
abbrev cX7_listGreatestBlocks : ByteArray := prog_9_method_8_code
def yX7_listGreatestBlocks : MethodName := ⟨RX7, "listGreatestBlocks", "(I)V"⟩
abbrev cX7_rowsWithout : ByteArray := prog_9_method_9_code
def yX7_rowsWithout : MethodName := ⟨RX7, "rowsWithout", "(II)I"⟩
abbrev cX7_coverRest : ByteArray := prog_9_method_10_code
def yX7_coverRest : MethodName := ⟨RX7, "coverRest", "(II)V"⟩
abbrev cX7_placesOf : ByteArray := prog_9_method_11_code
def yX7_placesOf : MethodName := ⟨RX7, "placesOf", "(II)I"⟩
def RX8 : String := "TalkBench$Sheet"
def TX8 : u_T := fun k => match k with
  | 0 => ("TalkBench$Sheet", "bits", "I", false)
  | 1 => ("TalkBench$Sheet", "count", "I", false)
  | _ => ("TalkBench$Sheet", "numbers", "[I", true)
def tyX8 : Nat → FieldType := fun k => match k with
  | 0 => .int
  | 1 => .int
  | _ => .array .int
theorem nmX8 : ∀ a, a < 3 → ∀ b, b < 3 → a ≠ b → (TX8 a).2.1 ≠ (TX8 b).2.1 := by decide +kernel
theorem tyX8_ok : ∀ k, k < 3 → parseFieldDescriptor (TX8 k).2.2.1 = some (tyX8 k) := by decide +kernel
abbrev cX8_init : ByteArray := prog_10_method_1_code
def yX8_init : MethodName := ⟨RX8, "<init>", "()V"⟩
abbrev cX8_isMissing : ByteArray := prog_10_method_2_code
def yX8_isMissing : MethodName := ⟨RX8, "isMissing", "()Z"⟩
abbrev cX8_reset : ByteArray := prog_10_method_3_code
def yX8_reset : MethodName := ⟨RX8, "reset", "(II)V"⟩
abbrev cX8_set : ByteArray := prog_10_method_4_code
def yX8_set : MethodName := ⟨RX8, "set", "(II)V"⟩
abbrev cX8_hasRun : ByteArray := prog_10_method_5_code
def yX8_hasRun : MethodName := ⟨RX8, "hasRun", "(II)Z"⟩
abbrev cX8_holdsPlaces : ByteArray := prog_10_method_6_code
def yX8_holdsPlaces : MethodName := ⟨RX8, "holdsPlaces", "()Z"⟩
def RX9 : String := "TalkBench$Talk"
def TX9 : u_T := fun k => match k with
  | 0 => ("TalkBench$Talk", "marks", "LTalkBench$Marks;", true)
  | 1 => ("TalkBench$Talk", "blocks", "LTalkBench$Blocks;", true)
  | 2 => ("TalkBench$Talk", "whose", "[I", true)
  | 3 => ("TalkBench$Talk", "rowsOf", "[I", true)
  | 4 => ("TalkBench$Talk", "columnsOf", "[I", true)
  | 5 => ("TalkBench$Talk", "firsts", "[I", true)
  | 6 => ("TalkBench$Talk", "seconds", "[I", true)
  | 7 => ("TalkBench$Talk", "above", "[I", true)
  | _ => ("TalkBench$Talk", "count", "I", false)
def tyX9 : Nat → FieldType := fun k => match k with
  | 0 => .object "TalkBench$Marks"
  | 1 => .object "TalkBench$Blocks"
  | 2 => .array .int
  | 3 => .array .int
  | 4 => .array .int
  | 5 => .array .int
  | 6 => .array .int
  | 7 => .array .int
  | _ => .int
theorem nmX9 : ∀ a, a < 9 → ∀ b, b < 9 → a ≠ b → (TX9 a).2.1 ≠ (TX9 b).2.1 := by decide +kernel
theorem tyX9_ok : ∀ k, k < 9 → parseFieldDescriptor (TX9 k).2.2.1 = some (tyX9 k) := by decide +kernel
abbrev cX9_init : ByteArray := prog_11_method_1_code
def yX9_init : MethodName := ⟨RX9, "<init>", "(LTalkBench$Marks;LTalkBench$Blocks;)V"⟩
abbrev cX9_forget : ByteArray := prog_11_method_2_code
def yX9_forget : MethodName := ⟨RX9, "forget", "()V"⟩
abbrev cX9_make : ByteArray := prog_11_method_3_code
def yX9_make : MethodName := ⟨RX9, "make", "()V"⟩
abbrev cX9_grow : ByteArray := prog_11_method_4_code
def yX9_grow : MethodName := ⟨RX9, "grow", "(III)I"⟩
abbrev cX9_tellOf : ByteArray := prog_11_method_5_code
def yX9_tellOf : MethodName := ⟨RX9, "tellOf", "(II)I"⟩
abbrev cX9_wordsFor : ByteArray := prog_11_method_6_code
def yX9_wordsFor : MethodName := ⟨RX9, "wordsFor", "(II)I"⟩
def RX10 : String := "TalkBench$Task"
def TX10 : u_T := fun k => match k with
  | 0 => ("TalkBench$Task", "rowCount", "I", false)
  | 1 => ("TalkBench$Task", "columnCount", "I", false)
  | 2 => ("TalkBench$Task", "places", "[I", true)
  | _ => ("TalkBench$Task", "weights", "[I", true)
def tyX10 : Nat → FieldType := fun k => match k with
  | 0 => .int
  | 1 => .int
  | 2 => .array .int
  | _ => .array .int
theorem nmX10 : ∀ a, a < 4 → ∀ b, b < 4 → a ≠ b → (TX10 a).2.1 ≠ (TX10 b).2.1 := by decide +kernel
theorem tyX10_ok : ∀ k, k < 4 → parseFieldDescriptor (TX10 k).2.2.1 = some (tyX10 k) := by decide +kernel
abbrev cX10_init : ByteArray := prog_12_method_1_code
def yX10_init : MethodName := ⟨RX10, "<init>", "()V"⟩
abbrev cX10_size : ByteArray := prog_12_method_2_code
def yX10_size : MethodName := ⟨RX10, "size", "()I"⟩
abbrev cX10_has : ByteArray := prog_12_method_3_code
def yX10_has : MethodName := ⟨RX10, "has", "(II)Z"⟩
abbrev cX10_clear : ByteArray := prog_12_method_4_code
def yX10_clear : MethodName := ⟨RX10, "clear", "(II)V"⟩
abbrev cX10_become : ByteArray := prog_12_method_5_code
def yX10_become : MethodName := ⟨RX10, "become", "(LTalkBench$Task;)V"⟩
abbrev cX10_count : ByteArray := prog_12_method_6_code
def yX10_count : MethodName := ⟨RX10, "count", "(I)I"⟩
abbrev cX10_findKind : ByteArray := prog_12_method_7_code
def yX10_findKind : MethodName := ⟨RX10, "findKind", "()I"⟩
abbrev cX10_fillByRule : ByteArray := prog_12_method_8_code
def yX10_fillByRule : MethodName := ⟨RX10, "fillByRule", "(I)V"⟩
abbrev cX10_byRule : ByteArray := prog_12_method_9_code
def yX10_byRule : MethodName := ⟨RX10, "byRule", "(III)I"⟩
abbrev cX10_fillFrom : ByteArray := prog_12_method_10_code
def yX10_fillFrom : MethodName := ⟨RX10, "fillFrom", "(LTalkBench$Sheet;)V"⟩
abbrev cX10_swapSides : ByteArray := prog_12_method_11_code
def yX10_swapSides : MethodName := ⟨RX10, "swapSides", "()V"⟩
abbrev cX10_swap : ByteArray := prog_12_method_12_code
def yX10_swap : MethodName := ⟨RX10, "swap", "([III)V"⟩
abbrev cX10_swapAnswers : ByteArray := prog_12_method_13_code
def yX10_swapAnswers : MethodName := ⟨RX10, "swapAnswers", "()V"⟩
abbrev cX10_countUnlike : ByteArray := prog_12_method_14_code
def yX10_countUnlike : MethodName := ⟨RX10, "countUnlike", "(Z)I"⟩
abbrev cX10_areAlike : ByteArray := prog_12_method_15_code
def yX10_areAlike : MethodName := ⟨RX10, "areAlike", "(IIZ)Z"⟩
abbrev cX10_findRank : ByteArray := prog_12_method_16_code
def yX10_findRank : MethodName := ⟨RX10, "findRank", "(Z)I"⟩
abbrev cX10_findPivot : ByteArray := prog_12_method_17_code
def yX10_findPivot : MethodName := ⟨RX10, "findPivot", "([III)I"⟩
abbrev cX10_clearBelow : ByteArray := prog_12_method_18_code
def yX10_clearBelow : MethodName := ⟨RX10, "clearBelow", "([IIIZ)V"⟩
def RX11 : String := "TalkBench"
def TX11 : u_T := fun k => match k with
  | 0 => ("TalkBench", "task", "LTalkBench$Task;", true)
  | 1 => ("TalkBench", "slots", "[LTalkBench$Task;", true)
  | 2 => ("TalkBench", "sheets", "[LTalkBench$Sheet;", true)
  | 3 => ("TalkBench", "history", "LTalkBench$History;", true)
  | 4 => ("TalkBench", "marks", "LTalkBench$Marks;", true)
  | 5 => ("TalkBench", "blocks", "LTalkBench$Blocks;", true)
  | 6 => ("TalkBench", "scales", "LTalkBench$Scales;", true)
  | 7 => ("TalkBench", "talk", "LTalkBench$Talk;", true)
  | 8 => ("TalkBench", "judge", "LTalkBench$Judge;", true)
  | 9 => ("TalkBench", "searches", "LTalkBench$Searches;", true)
  | 10 => ("TalkBench", "likeness", "LTalkBench$Likeness;", true)
  | _ => ("TalkBench", "findings", "I", false)
def tyX11 : Nat → FieldType := fun k => match k with
  | 0 => .object "TalkBench$Task"
  | 1 => .array (.object "TalkBench$Task")
  | 2 => .array (.object "TalkBench$Sheet")
  | 3 => .object "TalkBench$History"
  | 4 => .object "TalkBench$Marks"
  | 5 => .object "TalkBench$Blocks"
  | 6 => .object "TalkBench$Scales"
  | 7 => .object "TalkBench$Talk"
  | 8 => .object "TalkBench$Judge"
  | 9 => .object "TalkBench$Searches"
  | 10 => .object "TalkBench$Likeness"
  | _ => .int
theorem nmX11 : ∀ a, a < 12 → ∀ b, b < 12 → a ≠ b → (TX11 a).2.1 ≠ (TX11 b).2.1 := by decide +kernel
theorem tyX11_ok : ∀ k, k < 12 → parseFieldDescriptor (TX11 k).2.2.1 = some (tyX11 k) := by decide +kernel
abbrev cX11_init : ByteArray := prog_1_method_1_code
def yX11_init : MethodName := ⟨RX11, "<init>", "()V"⟩
abbrev cX11_table : ByteArray := prog_1_method_2_code
def yX11_table : MethodName := ⟨RX11, "table", "(II)I"⟩
abbrev cX11_put : ByteArray := prog_1_method_3_code
def yX11_put : MethodName := ⟨RX11, "put", "(III)I"⟩
abbrev cX11_place : ByteArray := prog_1_method_4_code
def yX11_place : MethodName := ⟨RX11, "place", "(II)I"⟩
abbrev cX11_weigh : ByteArray := prog_1_method_5_code
def yX11_weigh : MethodName := ⟨RX11, "weigh", "(III)I"⟩
abbrev cX11_rule : ByteArray := prog_1_method_6_code
def yX11_rule : MethodName := ⟨RX11, "rule", "(I)I"⟩
abbrev cX11_turn : ByteArray := prog_1_method_7_code
def yX11_turn : MethodName := ⟨RX11, "turn", "()I"⟩
abbrev cX11_turnAnswers : ByteArray := prog_1_method_8_code
def yX11_turnAnswers : MethodName := ⟨RX11, "turnAnswers", "()I"⟩
abbrev cX11_unlike : ByteArray := prog_1_method_9_code
def yX11_unlike : MethodName := ⟨RX11, "unlike", "(Z)I"⟩
abbrev cX11_sheet : ByteArray := prog_1_method_10_code
def yX11_sheet : MethodName := ⟨RX11, "sheet", "(III)I"⟩
abbrev cX11_write : ByteArray := prog_1_method_11_code
def yX11_write : MethodName := ⟨RX11, "write", "(III)I"⟩
abbrev cX11_copy : ByteArray := prog_1_method_12_code
def yX11_copy : MethodName := ⟨RX11, "copy", "(IIIII)I"⟩
abbrev cX11_lay : ByteArray := prog_1_method_13_code
def yX11_lay : MethodName := ⟨RX11, "lay", "(I)I"⟩
abbrev cX11_bits : ByteArray := prog_1_method_14_code
def yX11_bits : MethodName := ⟨RX11, "bits", "(II)I"⟩
abbrev cX11_ends : ByteArray := prog_1_method_15_code
def yX11_ends : MethodName := ⟨RX11, "ends", "(II)I"⟩
abbrev cX11_talk : ByteArray := prog_1_method_16_code
def yX11_talk : MethodName := ⟨RX11, "talk", "()I"⟩
abbrev cX11_knot : ByteArray := prog_1_method_17_code
def yX11_knot : MethodName := ⟨RX11, "knot", "(II)I"⟩
abbrev cX11_said : ByteArray := prog_1_method_18_code
def yX11_said : MethodName := ⟨RX11, "said", "(II)I"⟩
abbrev cX11_classes : ByteArray := prog_1_method_19_code
def yX11_classes : MethodName := ⟨RX11, "classes", "(Z)I"⟩
abbrev cX11_once : ByteArray := prog_1_method_20_code
def yX11_once : MethodName := ⟨RX11, "once", "(Z)I"⟩
abbrev cX11_rank : ByteArray := prog_1_method_21_code
def yX11_rank : MethodName := ⟨RX11, "rank", "(Z)I"⟩
abbrev cX11_fool : ByteArray := prog_1_method_22_code
def yX11_fool : MethodName := ⟨RX11, "fool", "(I)I"⟩
abbrev cX11_cover : ByteArray := prog_1_method_23_code
def yX11_cover : MethodName := ⟨RX11, "cover", "(I)I"⟩
abbrev cX11_part : ByteArray := prog_1_method_24_code
def yX11_part : MethodName := ⟨RX11, "part", "()I"⟩
abbrev cX11_swing : ByteArray := prog_1_method_25_code
def yX11_swing : MethodName := ⟨RX11, "swing", "()I"⟩
abbrev cX11_wrong : ByteArray := prog_1_method_26_code
def yX11_wrong : MethodName := ⟨RX11, "wrong", "(I)I"⟩
abbrev cX11_tell : ByteArray := prog_1_method_27_code
def yX11_tell : MethodName := ⟨RX11, "tell", "(I)I"⟩
abbrev cX11_check : ByteArray := prog_1_method_28_code
def yX11_check : MethodName := ⟨RX11, "check", "()I"⟩
abbrev cX11_fools : ByteArray := prog_1_method_29_code
def yX11_fools : MethodName := ⟨RX11, "fools", "(I)I"⟩
abbrev cX11_keep : ByteArray := prog_1_method_30_code
def yX11_keep : MethodName := ⟨RX11, "keep", "(I)I"⟩
abbrev cX11_bring : ByteArray := prog_1_method_31_code
def yX11_bring : MethodName := ⟨RX11, "bring", "(I)I"⟩
abbrev cX11_as : ByteArray := prog_1_method_32_code
def yX11_as : MethodName := ⟨RX11, "as", "(II)I"⟩
abbrev cX11_same : ByteArray := prog_1_method_33_code
def yX11_same : MethodName := ⟨RX11, "same", "(I)I"⟩
abbrev cX11_undo : ByteArray := prog_1_method_34_code
def yX11_undo : MethodName := ⟨RX11, "undo", "()I"⟩
abbrev cX11_told : ByteArray := prog_1_method_35_code
def yX11_told : MethodName := ⟨RX11, "told", "(I)I"⟩
abbrev cX11_finding : ByteArray := prog_1_method_36_code
def yX11_finding : MethodName := ⟨RX11, "finding", "(I)I"⟩
abbrev cX11_takeNewPlaces : ByteArray := prog_1_method_37_code
def yX11_takeNewPlaces : MethodName := ⟨RX11, "takeNewPlaces", "()V"⟩
abbrev cX11_noSheet : ByteArray := prog_1_method_38_code
def yX11_noSheet : MethodName := ⟨RX11, "noSheet", "(I)Z"⟩
abbrev cX11_noSlot : ByteArray := prog_1_method_39_code
def yX11_noSlot : MethodName := ⟨RX11, "noSlot", "(I)Z"⟩
abbrev cX11_isNoAnswer : ByteArray := prog_1_method_40_code
def yX11_isNoAnswer : MethodName := ⟨RX11, "isNoAnswer", "(I)Z"⟩
abbrev cX11_isUnder : ByteArray := prog_1_method_41_code
def yX11_isUnder : MethodName := ⟨RX11, "isUnder", "(II)Z"⟩
abbrev cX11_memberOf : ByteArray := prog_1_method_42_code
def yX11_memberOf : MethodName := ⟨RX11, "memberOf", "(I)I"⟩
abbrev cX11_lowestOf : ByteArray := prog_1_method_43_code
def yX11_lowestOf : MethodName := ⟨RX11, "lowestOf", "(I)I"⟩
abbrev cX11_blockAt : ByteArray := prog_1_method_44_code
def yX11_blockAt : MethodName := ⟨RX11, "blockAt", "(II)I"⟩
def RX12 : String := "TalkBenchModel"
def TX12 : u_T := fun k => match k with
  | 0 => ("TalkBenchModel", "rows", "I", false)
  | 1 => ("TalkBenchModel", "columns", "I", false)
  | 2 => ("TalkBenchModel", "place", "[I", true)
  | 3 => ("TalkBenchModel", "weight", "[I", true)
  | 4 => ("TalkBenchModel", "kept", "I", false)
  | 5 => ("TalkBenchModel", "keptTasks", "[I", true)
  | 6 => ("TalkBenchModel", "slots", "[I", true)
  | 7 => ("TalkBenchModel", "slotKind", "[I", true)
  | 8 => ("TalkBenchModel", "bits", "[I", true)
  | 9 => ("TalkBenchModel", "size", "[I", true)
  | 10 => ("TalkBenchModel", "number", "[I", true)
  | 11 => ("TalkBenchModel", "waits", "I", false)
  | 12 => ("TalkBenchModel", "waiting", "[I", true)
  | 13 => ("TalkBenchModel", "found", "I", false)
  | 14 => ("TalkBenchModel", "knots", "I", false)
  | 15 => ("TalkBenchModel", "carried", "[I", true)
  | 16 => ("TalkBenchModel", "leastBits", "[I", true)
  | 17 => ("TalkBenchModel", "fewestEnds", "[I", true)
  | 18 => ("TalkBenchModel", "knotBlock", "[I", true)
  | 19 => ("TalkBenchModel", "knotWhose", "[I", true)
  | 20 => ("TalkBenchModel", "knotFirst", "[I", true)
  | 21 => ("TalkBenchModel", "knotSecond", "[I", true)
  | 22 => ("TalkBenchModel", "knotDeep", "[I", true)
  | 23 => ("TalkBenchModel", "knotSet", "[I", true)
  | 24 => ("TalkBenchModel", "comeBlock", "[I", true)
  | 25 => ("TalkBenchModel", "comeOf", "[I", true)
  | 26 => ("TalkBenchModel", "fewest", "[I", true)
  | 27 => ("TalkBenchModel", "m", "[J", true)
  | 28 => ("TalkBenchModel", "chosen", "[I", true)
  | 29 => ("TalkBenchModel", "had", "[I", true)
  | 30 => ("TalkBenchModel", "tried", "[I", true)
  | 31 => ("TalkBenchModel", "partsFor", "[I", true)
  | 32 => ("TalkBenchModel", "evenPlaces", "[I", true)
  | 33 => ("TalkBenchModel", "wrongs", "[I", true)
  | 34 => ("TalkBenchModel", "dueBlock", "[I", true)
  | 35 => ("TalkBenchModel", "dueDeep", "[I", true)
  | 36 => ("TalkBenchModel", "rowOrder", "[I", true)
  | _ => ("TalkBenchModel", "columnOrder", "[I", true)
def tyX12 : Nat → FieldType := fun k => match k with
  | 0 => .int
  | 1 => .int
  | 2 => .array .int
  | 3 => .array .int
  | 4 => .int
  | 5 => .array .int
  | 6 => .array .int
  | 7 => .array .int
  | 8 => .array .int
  | 9 => .array .int
  | 10 => .array .int
  | 11 => .int
  | 12 => .array .int
  | 13 => .int
  | 14 => .int
  | 15 => .array .int
  | 16 => .array .int
  | 17 => .array .int
  | 18 => .array .int
  | 19 => .array .int
  | 20 => .array .int
  | 21 => .array .int
  | 22 => .array .int
  | 23 => .array .int
  | 24 => .array .int
  | 25 => .array .int
  | 26 => .array .int
  | 27 => .array .long
  | 28 => .array .int
  | 29 => .array .int
  | 30 => .array .int
  | 31 => .array .int
  | 32 => .array .int
  | 33 => .array .int
  | 34 => .array .int
  | 35 => .array .int
  | 36 => .array .int
  | _ => .array .int
theorem nmX12 : ∀ a, a < 38 → ∀ b, b < 38 → a ≠ b → (TX12 a).2.1 ≠ (TX12 b).2.1 := by decide +kernel
theorem tyX12_ok : ∀ k, k < 38 → parseFieldDescriptor (TX12 k).2.2.1 = some (tyX12 k) := by decide +kernel
abbrev cX12_init : ByteArray := prog_14_method_1_code
def yX12_init : MethodName := ⟨RX12, "<init>", "()V"⟩
abbrev cX12_finding : ByteArray := prog_14_method_2_code
def yX12_finding : MethodName := ⟨RX12, "finding", "(I)I"⟩
abbrev cX12_isPlace : ByteArray := prog_14_method_3_code
def yX12_isPlace : MethodName := ⟨RX12, "isPlace", "(II)Z"⟩
abbrev cX12_in : ByteArray := prog_14_method_4_code
def yX12_in : MethodName := ⟨RX12, "in", "(II)Z"⟩
abbrev cX12_countOf : ByteArray := prog_14_method_5_code
def yX12_countOf : MethodName := ⟨RX12, "countOf", "(I)I"⟩
abbrev cX12_save : ByteArray := prog_14_method_6_code
def yX12_save : MethodName := ⟨RX12, "save", "([II)V"⟩
abbrev cX12_load : ByteArray := prog_14_method_7_code
def yX12_load : MethodName := ⟨RX12, "load", "([II)V"⟩
abbrev cX12_keepTask : ByteArray := prog_14_method_8_code
def yX12_keepTask : MethodName := ⟨RX12, "keepTask", "()V"⟩
abbrev cX12_undo : ByteArray := prog_14_method_9_code
def yX12_undo : MethodName := ⟨RX12, "undo", "()I"⟩
abbrev cX12_ones : ByteArray := prog_14_method_10_code
def yX12_ones : MethodName := ⟨RX12, "ones", "(I)I"⟩
abbrev cX12_table : ByteArray := prog_14_method_11_code
def yX12_table : MethodName := ⟨RX12, "table", "(II)I"⟩
abbrev cX12_put : ByteArray := prog_14_method_12_code
def yX12_put : MethodName := ⟨RX12, "put", "(III)I"⟩
abbrev cX12_place : ByteArray := prog_14_method_13_code
def yX12_place : MethodName := ⟨RX12, "place", "(II)I"⟩
abbrev cX12_weigh : ByteArray := prog_14_method_14_code
def yX12_weigh : MethodName := ⟨RX12, "weigh", "(III)I"⟩
abbrev cX12_rule : ByteArray := prog_14_method_15_code
def yX12_rule : MethodName := ⟨RX12, "rule", "(I)I"⟩
abbrev cX12_turn : ByteArray := prog_14_method_16_code
def yX12_turn : MethodName := ⟨RX12, "turn", "()I"⟩
abbrev cX12_turnAnswers : ByteArray := prog_14_method_17_code
def yX12_turnAnswers : MethodName := ⟨RX12, "turnAnswers", "()I"⟩
abbrev cX12_at : ByteArray := prog_14_method_18_code
def yX12_at : MethodName := ⟨RX12, "at", "(ZII)I"⟩
abbrev cX12_unlike : ByteArray := prog_14_method_19_code
def yX12_unlike : MethodName := ⟨RX12, "unlike", "(Z)I"⟩
abbrev cX12_isSheet : ByteArray := prog_14_method_20_code
def yX12_isSheet : MethodName := ⟨RX12, "isSheet", "(I)Z"⟩
abbrev cX12_sheet : ByteArray := prog_14_method_21_code
def yX12_sheet : MethodName := ⟨RX12, "sheet", "(III)I"⟩
abbrev cX12_write : ByteArray := prog_14_method_22_code
def yX12_write : MethodName := ⟨RX12, "write", "(III)I"⟩
abbrev cX12_hasPart : ByteArray := prog_14_method_23_code
def yX12_hasPart : MethodName := ⟨RX12, "hasPart", "(III)Z"⟩
abbrev cX12_copy : ByteArray := prog_14_method_24_code
def yX12_copy : MethodName := ⟨RX12, "copy", "(IIIII)I"⟩
abbrev cX12_lay : ByteArray := prog_14_method_25_code
def yX12_lay : MethodName := ⟨RX12, "lay", "(I)I"⟩
abbrev cX12_all : ByteArray := prog_14_method_26_code
def yX12_all : MethodName := ⟨RX12, "all", "()I"⟩
abbrev cX12_has : ByteArray := prog_14_method_27_code
def yX12_has : MethodName := ⟨RX12, "has", "(I)I"⟩
abbrev cX12_isEven : ByteArray := prog_14_method_28_code
def yX12_isEven : MethodName := ⟨RX12, "isEven", "(I)Z"⟩
abbrev cX12_isBlock : ByteArray := prog_14_method_29_code
def yX12_isBlock : MethodName := ⟨RX12, "isBlock", "(I)Z"⟩
abbrev cX12_tellBlocks : ByteArray := prog_14_method_30_code
def yX12_tellBlocks : MethodName := ⟨RX12, "tellBlocks", "()V"⟩
abbrev cX12_parted : ByteArray := prog_14_method_31_code
def yX12_parted : MethodName := ⟨RX12, "parted", "(IIZ)Z"⟩
abbrev cX12_takeBest : ByteArray := prog_14_method_32_code
def yX12_takeBest : MethodName := ⟨RX12, "takeBest", "(IZI)V"⟩
abbrev cX12_areSets : ByteArray := prog_14_method_33_code
def yX12_areSets : MethodName := ⟨RX12, "areSets", "(II)Z"⟩
abbrev cX12_bits : ByteArray := prog_14_method_34_code
def yX12_bits : MethodName := ⟨RX12, "bits", "(II)I"⟩
abbrev cX12_ends : ByteArray := prog_14_method_35_code
def yX12_ends : MethodName := ⟨RX12, "ends", "(II)I"⟩
abbrev cX12_reaches : ByteArray := prog_14_method_36_code
def yX12_reaches : MethodName := ⟨RX12, "reaches", "(II)Z"⟩
abbrev cX12_parting : ByteArray := prog_14_method_37_code
def yX12_parting : MethodName := ⟨RX12, "parting", "(I)I"⟩
abbrev cX12_talk : ByteArray := prog_14_method_38_code
def yX12_talk : MethodName := ⟨RX12, "talk", "()I"⟩
abbrev cX12_knot : ByteArray := prog_14_method_39_code
def yX12_knot : MethodName := ⟨RX12, "knot", "(II)I"⟩
abbrev cX12_said : ByteArray := prog_14_method_40_code
def yX12_said : MethodName := ⟨RX12, "said", "(II)I"⟩
abbrev cX12_quarrel : ByteArray := prog_14_method_41_code
def yX12_quarrel : MethodName := ⟨RX12, "quarrel", "(ZII)Z"⟩
abbrev cX12_classes : ByteArray := prog_14_method_42_code
def yX12_classes : MethodName := ⟨RX12, "classes", "(Z)I"⟩
abbrev cX12_once : ByteArray := prog_14_method_43_code
def yX12_once : MethodName := ⟨RX12, "once", "(Z)I"⟩
abbrev cX12_swapLines : ByteArray := prog_14_method_44_code
def yX12_swapLines : MethodName := ⟨RX12, "swapLines", "(II)V"⟩
abbrev cX12_rank : ByteArray := prog_14_method_45_code
def yX12_rank : MethodName := ⟨RX12, "rank", "(Z)I"⟩
abbrev cX12_lieTogether : ByteArray := prog_14_method_46_code
def yX12_lieTogether : MethodName := ⟨RX12, "lieTogether", "(II)Z"⟩
abbrev cX12_fool : ByteArray := prog_14_method_47_code
def yX12_fool : MethodName := ⟨RX12, "fool", "(I)I"⟩
abbrev cX12_rowsFor : ByteArray := prog_14_method_48_code
def yX12_rowsFor : MethodName := ⟨RX12, "rowsFor", "(II)I"⟩
abbrev cX12_placesOf : ByteArray := prog_14_method_49_code
def yX12_placesOf : MethodName := ⟨RX12, "placesOf", "(II)I"⟩
abbrev cX12_covers : ByteArray := prog_14_method_50_code
def yX12_covers : MethodName := ⟨RX12, "covers", "(III)Z"⟩
abbrev cX12_cover : ByteArray := prog_14_method_51_code
def yX12_cover : MethodName := ⟨RX12, "cover", "(I)I"⟩
abbrev cX12_part : ByteArray := prog_14_method_52_code
def yX12_part : MethodName := ⟨RX12, "part", "()I"⟩
abbrev cX12_weightOf : ByteArray := prog_14_method_53_code
def yX12_weightOf : MethodName := ⟨RX12, "weightOf", "(II)I"⟩
abbrev cX12_swing : ByteArray := prog_14_method_54_code
def yX12_swing : MethodName := ⟨RX12, "swing", "()I"⟩
abbrev cX12_wrong : ByteArray := prog_14_method_55_code
def yX12_wrong : MethodName := ⟨RX12, "wrong", "(I)I"⟩
abbrev cX12_lessWrong : ByteArray := prog_14_method_56_code
def yX12_lessWrong : MethodName := ⟨RX12, "lessWrong", "(IZIII)I"⟩
abbrev cX12_tell : ByteArray := prog_14_method_57_code
def yX12_tell : MethodName := ⟨RX12, "tell", "(I)I"⟩
abbrev cX12_check : ByteArray := prog_14_method_58_code
def yX12_check : MethodName := ⟨RX12, "check", "()I"⟩
abbrev cX12_fools : ByteArray := prog_14_method_59_code
def yX12_fools : MethodName := ⟨RX12, "fools", "(I)I"⟩
abbrev cX12_isSlot : ByteArray := prog_14_method_60_code
def yX12_isSlot : MethodName := ⟨RX12, "isSlot", "(I)Z"⟩
abbrev cX12_keep : ByteArray := prog_14_method_61_code
def yX12_keep : MethodName := ⟨RX12, "keep", "(I)I"⟩
abbrev cX12_bring : ByteArray := prog_14_method_62_code
def yX12_bring : MethodName := ⟨RX12, "bring", "(I)I"⟩
abbrev cX12_slotPlace : ByteArray := prog_14_method_63_code
def yX12_slotPlace : MethodName := ⟨RX12, "slotPlace", "(III)I"⟩
abbrev cX12_as : ByteArray := prog_14_method_64_code
def yX12_as : MethodName := ⟨RX12, "as", "(II)I"⟩
abbrev cX12_lineOf : ByteArray := prog_14_method_65_code
def yX12_lineOf : MethodName := ⟨RX12, "lineOf", "(III)I"⟩
abbrev cX12_orders : ByteArray := prog_14_method_66_code
def yX12_orders : MethodName := ⟨RX12, "orders", "(I)I"⟩
abbrev cX12_same : ByteArray := prog_14_method_67_code
def yX12_same : MethodName := ⟨RX12, "same", "(I)I"⟩
abbrev cX12_told : ByteArray := prog_14_method_68_code
def yX12_told : MethodName := ⟨RX12, "told", "(I)I"⟩
def RJx8e188 : String := "java/lang/Cloneable"
def RJ6 : String := "java/lang/Integer"
abbrev cJ6_bitCount_0f7a4 : ByteArray := prog_16_method_49_code
def yJ6_bitCount_0f7a4 : MethodName := ⟨RJ6, "bitCount", "(I)I"⟩
def RJ9 : String := "java/lang/Math"
abbrev cJ9_abs_0f7a4 : ByteArray := prog_17_method_59_code
def yJ9_abs_0f7a4 : MethodName := ⟨RJ9, "abs", "(I)I"⟩
abbrev cJ9_max_7cf53 : ByteArray := prog_17_method_65_code
def yJ9_max_7cf53 : MethodName := ⟨RJ9, "max", "(II)I"⟩
abbrev cJ9_min_7cf53 : ByteArray := prog_17_method_69_code
def yJ9_min_7cf53 : MethodName := ⟨RJ9, "min", "(II)I"⟩
def RJ10 : String := "java/lang/System"
def RJ7 : String := "java/util/Arrays"
abbrev cJ7_fill_53178 : ByteArray := prog_19_method_103_code
def yJ7_fill_53178 : MethodName := ⟨RJ7, "fill", "([II)V"⟩
abbrev cJ7_copyOf_59c91 : ByteArray := prog_19_method_123_code
def yJ7_copyOf_59c91 : MethodName := ⟨RJ7, "copyOf", "([II)[I"⟩
def RL : String := "TalkBenchLaw"
abbrev cL_law : ByteArray := code
def yL_law : MethodName := ⟨RL, "law", "([I)Z"⟩
abbrev vwCl : List vw_C := [(RX0, TX0, 6), (RX1, TX1, 3), (RX2, TX2, 6), (RX3, TX3, 2), (RX4, TX4, 4), (RX5, TX5, 2), (RX6, TX6, 8), (RX7, TX7, 8), (RX8, TX8, 3), (RX9, TX9, 9), (RX10, TX10, 4), (RX11, TX11, 12), (RX12, TX12, 38)]
end
section
/-! ===== what the pure machine does, the machine does: the words ===== -/
def js_a (b z i : Nat) : Nat := if i = 0 then b else z + i
def js_v (b z : Nat) : Value → Value
  | .ref a => .ref (js_a b z a)
  | v => v
def js_e (G : Nat → ClassId) (b z : Nat) : jxC → va_E
  | .inl (t, n, .inl f) => .inl (G t, n, .inl f)
  | .inl (t, n, .inr (.inl f)) => .inl (G t, n, .inr (.inl f))
  | .inl (t, n, .inr (.inr (.inl f))) => .inl (G t, n, .inr (.inr (.inl f)))
  | .inl (t, n, .inr (.inr (.inr (.inl f)))) => .inl (G t, n, .inr (.inr (.inr (.inl f))))
  | .inl (t, n, .inr (.inr (.inr (.inr f)))) => .inl (G t, n, .inr (.inr (.inr (.inr (fun j => (f j).map (js_a b z))))))
  | .inr (c, fs) => .inr (c, fs.map (js_v b z))
def js_T : List Cond := lw_tbl.filter goodWord
def js_nl : List Cond := [.methodLinkNest RX11 35 yX4_init RX11, .methodLinkNest RX11 42 yX3_init RX11, .methodLinkNest RX11 47 yX8_init RX11, .methodLinkNest RX4 37 yX11_lowestOf RX11, .methodLinkNest RX0 36 yX11_blockAt RX11, .methodLinkNest RX7 107 yX11_lowestOf RX11, .methodLinkNest RX6 51 yX11_blockAt RX11, .methodLinkNest RX6 71 yX11_lowestOf RX11, .methodLinkNest RX6 78 yX11_memberOf RX11, .methodLinkNest RX2 49 yX11_isNoAnswer RX11]
def js_tys (G : Nat → ClassId) : List (ClassId × FieldType) := [(G 0, .int), (G 1, .long), (G 2, .object RX10), (G 3, .object RX8), (G 4, .array .int)]
def js_K (D : va_G) (G : Nat → ClassId) (U : State) : Prop := va_K D vwCl (js_tys G) U ∧ (∀ w ∈ js_nl, va_Nw w U) ∧ va_Nw (.castable "[I" "java/lang/Cloneable") U ∧ va_AO RX10 U ∧ va_AO RX8 U ∧ (Cond.arrayOver (.array .int)).before #[] U = true
def js_R (D : va_G) (G : Nat → ClassId) (b z : Nat) (s : State) (h : jxH) (H : Heap) : Prop :=
  H.size = z + h.1 ∧ 1 ≤ h.1 ∧ b ≤ z ∧ (∀ i, 1 ≤ i → i < h.1 → va_at D vwCl (z + i, js_e G b z (h.2.2 i)) H) ∧ (∀ i, h.1 ≤ i → h.2.2 i = jx_no) ∧ ∃ (L : Nat) (xs : Nat → Int32), h.2.2 0 = .inl (9, L, .inl xs) ∧ va_X b L xs s H
/-- the locals that are known, as the kit lists them -/
def js_as (b z nL : Nat) (ls : List Value) : List (Nat × Value) :=
  (List.range nL).filterMap (fun i => match ls[i]? with
    | some v => if jx_c1 v = true then some (i, js_v b z v) else none
    | none => none) ++ (List.range nL).filterMap (fun i => match ls[nL + 1 + i]? with
    | some (.long x) => some (i, .long x)
    | _ => none)
theorem js_as_iff {b z nL : Nat} {ls : List Value} {i : Nat} {w : Value} : (i, w) ∈ js_as b z nL ls ↔ (i < nL ∧ ∃ v, ls[i]? = some v ∧ jx_c1 v = true ∧ w = js_v b z v) ∨ (i < nL ∧ ∃ x, ls[nL + 1 + i]? = some (.long x) ∧ w = .long x) := by
  unfold js_as
  rw [List.mem_append]
  constructor
  · rintro (h | h)
    · obtain ⟨j, hj, e⟩ := List.mem_filterMap.mp h
      left
      cases hv : ls[j]? with
      | none => rw [hv] at e; cases e
      | some v =>
        rw [hv] at e
        dsimp only at e
        by_cases hc : jx_c1 v = true
        · rw [if_pos hc] at e
          cases e
          exact ⟨List.mem_range.mp hj, v, hv, hc, rfl⟩
        · rw [if_neg hc] at e
          cases e
    · obtain ⟨j, hj, e⟩ := List.mem_filterMap.mp h
      right
      split at e
      · next x hx =>
        cases e
        exact ⟨List.mem_range.mp hj, x, hx, rfl⟩
      · cases e
  · rintro (⟨hi, v, hv, hc, rfl⟩ | ⟨hi, x, hx, rfl⟩)
    · left
      refine List.mem_filterMap.mpr ⟨i, List.mem_range.mpr hi, ?_⟩
      rw [hv]
      dsimp only
      rw [if_pos hc]
    · right
      refine List.mem_filterMap.mpr ⟨i, List.mem_range.mpr hi, ?_⟩
      rw [hx]
theorem js_v_c1 {b z : Nat} {v : Value} (h : jx_c1 v = true) : (js_v b z v).category = 1 := by
  cases v <;> first | rfl | (simp [jx_c1] at h)
theorem js_c1_cat {v : Value} (h : jx_c1 v = true) : v.category = 1 := by
  cases v <;> first | rfl | (simp [jx_c1] at h)
theorem js_si {b z nL i : Nat} {ls : List Value} {X' : Array Slot} {v : Value} (hi : i < nL) (hv : jx_c1 v = true)
    (h : lv_has X' nL ((i, js_v b z v) :: (js_as b z nL ls).filter (fun q => !(q.1 == i) && !(q.1 + 1 == i && q.2.category == 2)))) : lv_has X' nL (js_as b z nL (jx_si ls nL i v)) := by
  obtain ⟨h1, h2, h3⟩ := h
  refine ⟨h1, h2, fun q hq => ?_⟩
  obtain ⟨j, w⟩ := q
  rcases js_as_iff.mp hq with ⟨hj, u, hu, hc, rfl⟩ | ⟨hj, x, hx, rfl⟩
  · by_cases hji : j = i
    · subst hji
      have hlt : j < ls.length := by
        have := (List.getElem?_eq_some_iff.mp hu).1
        simpa [jx_si] using this
      unfold jx_si at hu
      rw [List.getElem?_set_ne (by omega), List.getElem?_set_ne (by omega), List.getElem?_set_self hlt] at hu
      cases hu
      exact h3 _ (by simp)
    · unfold jx_si at hu
      rw [List.getElem?_set_ne (by omega), List.getElem?_set_ne (by omega), List.getElem?_set_ne (by omega)] at hu
      refine h3 _ (List.mem_cons_of_mem _ (List.mem_filter.mpr ⟨js_as_iff.mpr (Or.inl ⟨hj, u, hu, hc, rfl⟩), ?_⟩))
      simp [hji, js_v_c1 hc]
  · unfold jx_si at hx
    have n1 : nL + 1 + i ≠ nL + 1 + j := by
      intro e
      rw [e] at hx
      rw [List.getElem?_set] at hx
      simp only [if_true] at hx
      split at hx <;> cases hx
    rw [List.getElem?_set_ne n1] at hx
    have n2 : nL + i ≠ nL + 1 + j := by
      intro e
      rw [e] at hx
      rw [List.getElem?_set] at hx
      simp only [if_true] at hx
      split at hx <;> cases hx
    rw [List.getElem?_set_ne n2, List.getElem?_set_ne (by omega)] at hx
    refine h3 _ (List.mem_cons_of_mem _ (List.mem_filter.mpr ⟨js_as_iff.mpr (Or.inr ⟨hj, x, hx, rfl⟩), ?_⟩))
    have e1 : ¬ j = i := by omega
    have e2 : ¬ j + 1 = i := by omega
    simp [e1, e2]
theorem js_sl {b z nL i : Nat} {ls : List Value} {X' : Array Slot} {u : Int64} (hi : i + 1 < nL)
    (h : lv_has X' nL ((i, .long u) :: (js_as b z nL ls).filter (fun q => !(q.1 == i) && (!(q.1 == i + 1) && !(q.1 + 1 == i && q.2.category == 2))))) : lv_has X' nL (js_as b z nL (((((ls.set i jx_u).set (i + 1) jx_u).set (nL + i) jx_u).set (nL + 1 + i) (.long u)).set (nL + 2 + i) jx_u)) := by
  obtain ⟨h1, h2, h3⟩ := h
  refine ⟨h1, h2, fun q hq => ?_⟩
  obtain ⟨j, w⟩ := q
  rcases js_as_iff.mp hq with ⟨hj, v, hv, hc, rfl⟩ | ⟨hj, x, hx, rfl⟩
  · rw [List.getElem?_set_ne (by omega), List.getElem?_set_ne (by omega), List.getElem?_set_ne (by omega)] at hv
    have n1 : i + 1 ≠ j := by
      intro e
      subst e
      rw [List.getElem?_set] at hv
      simp only [if_true] at hv
      split at hv <;> cases hv
      simp [jx_c1] at hc
    rw [List.getElem?_set_ne n1] at hv
    have n2 : i ≠ j := by
      intro e
      subst e
      rw [List.getElem?_set] at hv
      simp only [if_true] at hv
      split at hv <;> cases hv
      simp [jx_c1] at hc
    rw [List.getElem?_set_ne n2] at hv
    refine h3 _ (List.mem_cons_of_mem _ (List.mem_filter.mpr ⟨js_as_iff.mpr (Or.inl ⟨hj, v, hv, hc, rfl⟩), ?_⟩))
    simp [Ne.symm n1, Ne.symm n2, js_v_c1 hc]
  · have n1 : nL + 2 + i ≠ nL + 1 + j := by
      intro e
      rw [e] at hx
      rw [List.getElem?_set] at hx
      simp only [if_true] at hx
      split at hx <;> cases hx
    rw [List.getElem?_set_ne n1] at hx
    by_cases hji : j = i
    · subst hji
      rw [List.getElem?_set] at hx
      simp only [if_true] at hx
      split at hx
      · cases hx
        exact h3 _ (by simp)
      · cases hx
    · rw [List.getElem?_set_ne (by omega)] at hx
      have n2 : nL + i ≠ nL + 1 + j := by
        intro e
        rw [e] at hx
        rw [List.getElem?_set] at hx
        simp only [if_true] at hx
        split at hx <;> cases hx
      rw [List.getElem?_set_ne n2, List.getElem?_set_ne (by omega), List.getElem?_set_ne (by omega)] at hx
      refine h3 _ (List.mem_cons_of_mem _ (List.mem_filter.mpr ⟨js_as_iff.mpr (Or.inr ⟨hj, x, hx, rfl⟩), ?_⟩))
      have e2 : ¬ j + 1 = i := by omega
      have e3 : ¬ j = i + 1 := by omega
      simp [hji, e2, e3]
theorem js_args_mem : ∀ (vs : List Value) (o j : Nat) (w : Value), (∀ v ∈ vs, v.category = 1) → vs[j]? = some w → (o + j, w) ∈ lv_args o vs
  | [], _, j, w, _, h => by simp at h
  | v :: vs, o, j, w, hc, h => by
    have hv : ¬ v.category = 2 := by rw [hc v List.mem_cons_self]; decide
    rw [lv_args, if_neg hv]
    cases j with
    | zero =>
      simp at h
      subst h
      simp
    | succ j =>
      rw [List.getElem?_cons_succ] at h
      have := js_args_mem vs (o + 1) j w (fun u hu => hc u (List.mem_cons_of_mem _ hu)) h
      rw [show o + (j + 1) = o + 1 + j by omega]
      exact List.mem_cons_of_mem _ this
theorem js_sl_len : ∀ (vs : List Value), (∀ v ∈ vs, v.category = 1) → (lg_sl vs).length = vs.length
  | [], _ => rfl
  | v :: vs, hc => by
    have hv : ¬ v.category = 2 := by rw [hc v List.mem_cons_self]; decide
    have := js_sl_len vs (fun u hu => hc u (List.mem_cons_of_mem _ hu))
    unfold lg_sl at this ⊢
    rw [List.flatMap_cons, if_neg hv, List.length_append, this]
    simp
    omega
theorem js_entry {b z nL N : Nat} {vs : List Value} (hN : nL ≤ N) (hc : ∀ v ∈ vs, jx_c1 v = true) (hl : vs.length ≤ nL) : lv_has ((lg_sl (vs.map (js_v b z)) ++ List.replicate (nL - (lg_sl (vs.map (js_v b z))).length) Slot.unset).toArray) nL (js_as b z nL (vs ++ List.replicate (N - vs.length) jx_u)) := by
  have hc2 : ∀ v ∈ vs.map (js_v b z), v.category = 1 := by
    intro v hv
    obtain ⟨u, hu, rfl⟩ := List.mem_map.mp hv
    exact js_v_c1 (hc u hu)
  have hlen : (lg_sl (vs.map (js_v b z))).length = vs.length := by rw [js_sl_len _ hc2, List.length_map]
  obtain ⟨h1, h2, h3⟩ := lv_entry (vs.map (js_v b z)) (n := nL) (by rw [hlen]; exact hl)
  refine ⟨h1, h2, fun q hq => ?_⟩
  obtain ⟨j, w⟩ := q
  rcases js_as_iff.mp hq with ⟨hj, v, hv, hcv, rfl⟩ | ⟨hj, x, hx, rfl⟩
  · by_cases hjl : j < vs.length
    · rw [List.getElem?_append_left hjl] at hv
      have := js_args_mem (vs.map (js_v b z)) 0 j (js_v b z v) hc2 (by rw [List.getElem?_map, hv]; rfl)
      rw [Nat.zero_add] at this
      exact h3 _ this
    · rw [List.getElem?_append_right (by omega), List.getElem?_replicate] at hv
      split at hv
      · cases hv
        simp [jx_c1] at hcv
      · cases hv
  · rw [List.getElem?_append_right (by omega), List.getElem?_replicate] at hx
    split at hx
    · cases hx
    · cases hx
end
section
/-! ===== what the pure machine does, the machine does: the steps ===== -/
def js_W (p : Program) (l : Launch) (e : Env) (R : Room) (s : State) (m : MethodId) (args : Array Value) (below : List Frame) (meth : Method) (c : Code) (Q : State → Prop) (D : va_G) (G : Nat → ClassId) (b z : Nat) (H0 : Heap) (k0 n0 nL pc : Nat) (ls st : List Value) (h : jxH) : Prop :=
  ∀ (H : Heap) (locs : List Loc) (X : Array Slot), lv_has X nL (js_as b z nL ls) → js_R D G b z s h H → va_S (fun q => z < q) H0 H locs → k0 ≤ h.1 → n0 ≤ h.2.1 → W p l e R s m args below meth c H locs (h.1 - k0) (h.2.1 - n0) Q (F0 m pc X (st.map (js_v b z)))
def js_S (own : String) (cc : ByteArray) (nL : Nat) (ini : Bool) (pc : Nat) (o : jxO) : Prop :=
  (∀ ls st h pc' ls' st' h', o ls st h = some (pc', ls', st', h') → h.1 ≤ h'.1 ∧ h.2.1 ≤ h'.2.1) ∧
  ∀ (p : Program) (l : Launch) (e : Env) (R : Room) (s : State) (m : MethodId) (args : Array Value) (below : List Frame) (meth : Method) (c : Code) (Q : State → Prop) (D : va_G) (G : Nat → ClassId) (b z : Nat) (H0 : Heap) (k0 n0 : Nat), CallFix p m c cc nL s args js_T own → js_K D G s → (ini = true → meth.name = "<init>") → 1 ≤ R.frames → 100 ≤ R.locals →
    ∀ ls st h pc' ls' st' h', o ls st h = some (pc', ls', st', h') → h'.1 - k0 ≤ R.cells → h'.2.1 - n0 ≤ R.slots → js_W p l e R s m args below meth c Q D G b z H0 k0 n0 nL pc' ls' st' h' → js_W p l e R s m args below meth c Q D G b z H0 k0 n0 nL pc ls st h
section JSS
variable {own : String} {cc : ByteArray} {nL pc : Nat} {ini : Bool}
/-- a step that leaves locals and heap -/
theorem js_pure {o : jxO} (ho : ∀ ls st h r, o ls st h = some r → r.2.1 = ls ∧ r.2.2.2 = h ∧ ∀ (p : Program) (l : Launch) (e : Env) (R : Room) (s : State) (m : MethodId) (args : Array Value) (below : List Frame) (meth : Method) (c : Code) (H : Heap) (locs : List Loc) (k n : Nat) (Q : State → Prop) (b z : Nat) (X : Array Slot), p.tables.exec = Jvm.exec → c.code = cc → s.vm.findClass own = some m.cls → (∀ w ∈ js_T, w.before args s = true) → lv_has X nL (js_as b z nL ls) → W p l e R s m args below meth c H locs k n Q (F0 m r.1 X (r.2.2.1.map (js_v b z))) → W p l e R s m args below meth c H locs k n Q (F0 m pc X (st.map (js_v b z)))) : js_S own cc nL ini pc o := by
  refine ⟨fun ls st h pc' ls' st' h' e => ?_, fun p l e R s m args below meth c Q D G b z H0 k0 n0 S _ _ _ _ ls st h pc' ls' st' h' e1 _ _ kW H locs X hL hR hS hk hn => ?_⟩
  · have := (ho ls st h _ e).2.1
    dsimp only at this
    subst this
    exact ⟨Nat.le_refl _, Nat.le_refl _⟩
  · obtain ⟨a1, a2, a3⟩ := ho ls st h _ e1
    dsimp only at a1 a2 a3
    subst a1
    subst a2
    exact a3 p l e R s m args below meth c H locs _ _ Q b z X S.1 S.2.1 S.2.2.2.1 S.2.2.2.2 hL (kW H locs X hL hR hS hk hn)
/-- a step that sets a local -/
theorem js_loc {o : jxO} (ho : ∀ ls st h r, o ls st h = some r → r.2.2.2 = h ∧ ∀ (p : Program) (l : Launch) (e : Env) (R : Room) (s : State) (m : MethodId) (args : Array Value) (below : List Frame) (meth : Method) (c : Code) (H : Heap) (locs : List Loc) (k n : Nat) (Q : State → Prop) (b z : Nat) (X : Array Slot), p.tables.exec = Jvm.exec → c.code = cc → lv_has X nL (js_as b z nL ls) → (∀ X', lv_has X' nL (js_as b z nL r.2.1) → W p l e R s m args below meth c H locs k n Q (F0 m r.1 X' (r.2.2.1.map (js_v b z)))) → W p l e R s m args below meth c H locs k n Q (F0 m pc X (st.map (js_v b z)))) : js_S own cc nL ini pc o := by
  refine ⟨fun ls st h pc' ls' st' h' e => ?_, fun p l e R s m args below meth c Q D G b z H0 k0 n0 S _ _ _ _ ls st h pc' ls' st' h' e1 _ _ kW H locs X hL hR hS hk hn => ?_⟩
  · have := (ho ls st h _ e).1
    dsimp only at this
    subst this
    exact ⟨Nat.le_refl _, Nat.le_refl _⟩
  · obtain ⟨a2, a3⟩ := ho ls st h _ e1
    dsimp only at a2 a3
    subst a2
    exact a3 p l e R s m args below meth c H locs _ _ Q b z X S.1 S.2.1 hL (fun X' hL' => kW H locs X' hL' hR hS hk hn)
theorem js_iconst {n : Int} {x : Int32} (hd : decode cc pc = .ok (.iconst n, 1)) (hv : Int32.ofInt n = x) : js_S own cc nL ini pc (jo_c (pc + 1) x) := js_pure (fun ls st h r e => by
  cases e
  exact ⟨rfl, rfl, fun p l e R s m args below meth c H locs k n Q b z X hx hb ho ht hl kk => lv_iconst hx hb hd hv kk⟩)
theorem js_bipush {n : Int} {x : Int32} (hd : decode cc pc = .ok (.bipush n, 2)) (hv : (Int8.ofInt n).toInt32 = x) : js_S own cc nL ini pc (jo_c (pc + 2) x) := js_pure (fun ls st h r e => by
  cases e
  exact ⟨rfl, rfl, fun p l e R s m args below meth c H locs k n Q b z X hx hb ho ht hl kk => lv_bipush hx hb hd hv kk⟩)
theorem js_sipush {n : Int} {x : Int32} (hd : decode cc pc = .ok (.sipush n, 3)) (hv : (Int16.ofInt n).toInt32 = x) : js_S own cc nL ini pc (jo_c (pc + 3) x) := js_pure (fun ls st h r e => by
  cases e
  exact ⟨rfl, rfl, fun p l e R s m args below meth c H locs k n Q b z X hx hb ho ht hl kk => lv_sipush hx hb hd hv kk⟩)
theorem js_ldc {i : Nat} {x : Int32} (hd : decode cc pc = .ok (.ldc i, 2)) (hw : Cond.constant own i x ∈ js_T) : js_S own cc nL ini pc (jo_c (pc + 2) x) := js_pure (fun ls st h r e => by
  cases e
  exact ⟨rfl, rfl, fun p l e R s m args below meth c H locs k n Q b z X hx hb ho ht hl kk => lv_ldc hx hb ho (ht _ hw) hd kk⟩)
theorem js_ldcw {i : Nat} {x : Int32} (hd : decode cc pc = .ok (.ldc_w i, 3)) (hw : Cond.constant own i x ∈ js_T) : js_S own cc nL ini pc (jo_c (pc + 3) x) := js_pure (fun ls st h r e => by
  cases e
  exact ⟨rfl, rfl, fun p l e R s m args below meth c H locs k n Q b z X hx hb ho ht hl kk => lv_ldcw hx hb ho (ht _ hw) hd kk⟩)
theorem js_lconst {n : Fin 2} {u : Int64} (hd : decode cc pc = .ok (.lconst n, 1)) (hv : Int64.ofNat (n : Nat) = u) : js_S own cc nL ini pc (jo_cl (pc + 1) u) := js_pure (fun ls st h r e => by
  cases e
  exact ⟨rfl, rfl, fun p l e R s m args below meth c H locs k n Q b z X hx hb ho ht hl kk => lv_lconst hx hb hd hv kk⟩)
theorem js_goto {off : Int} {t : Nat} (hd : decode cc pc = .ok (.goto off, 3)) (ht : (pc : Int) + off = (t : Int)) : js_S own cc nL ini pc (jo_go t) := js_pure (fun ls st h r e => by
  cases e
  exact ⟨rfl, rfl, fun p l e R s m args below meth c H locs k n Q b z X hx hb ho ht hl kk => lv_goto hx hb hd (by assumption) kk⟩)
theorem js_iload {i : Nat} (hi : i < nL) (hd : decode cc pc = .ok (.iload i, 2)) : js_S own cc nL ini pc (jo_il (pc + 2) i) := js_pure (fun ls st h r e => by
  unfold jo_il at e
  split at e
  · next x hx0 =>
    cases e
    exact ⟨rfl, rfl, fun p l e R s m args below meth c H locs k n Q b z X hx hb ho ht hl kk => lv_iload hx hb hd (hl.2.2 (i, .int x) (js_as_iff.mpr (Or.inl ⟨hi, _, hx0, rfl, rfl⟩))) kk⟩
  · cases e)
theorem js_iload_n {q : Fin 4} {i : Nat} (hq : (q : Nat) = i) (hi : i < nL) (hd : decode cc pc = .ok (.iload_n q, 1)) : js_S own cc nL ini pc (jo_il (pc + 1) i) := js_pure (fun ls st h r e => by
  unfold jo_il at e
  split at e
  · next x hx0 =>
    cases e
    exact ⟨rfl, rfl, fun p l e R s m args below meth c H locs k n Q b z X hx hb ho ht hl kk => lv_iload_n hx hb hd hq (hl.2.2 (i, .int x) (js_as_iff.mpr (Or.inl ⟨hi, _, hx0, rfl, rfl⟩))) kk⟩
  · cases e)
theorem js_aload {i : Nat} (hi : i < nL) (hd : decode cc pc = .ok (.aload i, 2)) : js_S own cc nL ini pc (jo_al (pc + 2) i) := js_pure (fun ls st h r e => by
  unfold jo_al at e
  split at e
  · next x hx0 =>
    cases e
    exact ⟨rfl, rfl, fun p l e R s m args below meth c H locs k n Q b z X hx hb ho ht hl kk => lv_aload hx hb hd (hl.2.2 (i, .ref (js_a b z x)) (js_as_iff.mpr (Or.inl ⟨hi, _, hx0, rfl, rfl⟩))) kk⟩
  · cases e)
theorem js_aload_n {q : Fin 4} {i : Nat} (hq : (q : Nat) = i) (hi : i < nL) (hd : decode cc pc = .ok (.aload_n q, 1)) : js_S own cc nL ini pc (jo_al (pc + 1) i) := js_pure (fun ls st h r e => by
  unfold jo_al at e
  split at e
  · next x hx0 =>
    cases e
    exact ⟨rfl, rfl, fun p l e R s m args below meth c H locs k n Q b z X hx hb ho ht hl kk => lv_aload_n hx hb hd hq (hl.2.2 (i, .ref (js_a b z x)) (js_as_iff.mpr (Or.inl ⟨hi, _, hx0, rfl, rfl⟩))) kk⟩
  · cases e)
theorem js_lload {i : Nat} (hi : i < nL) (hd : decode cc pc = .ok (.lload i, 2)) : js_S own cc nL ini pc (jo_ll (pc + 2) nL i) := js_pure (fun ls st h r e => by
  unfold jo_ll at e
  split at e
  · next x hx0 =>
    cases e
    exact ⟨rfl, rfl, fun p l e R s m args below meth c H locs k n Q b z X hx hb ho ht hl kk => lv_lload hx hb hd (hl.2.2 (i, .long x) (js_as_iff.mpr (Or.inr ⟨hi, _, hx0, rfl⟩))) kk⟩
  · cases e)
theorem js_istore {i : Nat} (hi : i < nL) (hd : decode cc pc = .ok (.istore i, 2)) : js_S own cc nL ini pc (jo_is (pc + 2) nL i) := js_loc (fun ls st h r e => by
  unfold jo_is at e
  split at e
  · next x rest =>
    cases e
    exact ⟨rfl, fun p l e R s m args below meth c H locs k n Q b z X hx hb hl kk => lv_istore hx hb hd hl hi rfl (fun X' hX => kk X' (js_si (v := .int x) hi rfl hX))⟩
  · cases e)
theorem js_istore_n {q : Fin 4} {i : Nat} (hq : (q : Nat) = i) (hi : i < nL) (hd : decode cc pc = .ok (.istore_n q, 1)) : js_S own cc nL ini pc (jo_is (pc + 1) nL i) := js_loc (fun ls st h r e => by
  unfold jo_is at e
  split at e
  · next x rest =>
    cases e
    exact ⟨rfl, fun p l e R s m args below meth c H locs k n Q b z X hx hb hl kk => lv_istore_n hx hb hd hq hl hi rfl (fun X' hX => kk X' (js_si (v := .int x) hi rfl hX))⟩
  · cases e)
theorem js_astore {i : Nat} (hi : i < nL) (hd : decode cc pc = .ok (.astore i, 2)) : js_S own cc nL ini pc (jo_as (pc + 2) nL i) := js_loc (fun ls st h r e => by
  unfold jo_as at e
  split at e
  · next x rest =>
    cases e
    exact ⟨rfl, fun p l e R s m args below meth c H locs k n Q b z X hx hb hl kk => lv_astore hx hb hd hl hi rfl (fun X' hX => kk X' (js_si (v := .ref x) hi rfl hX))⟩
  · cases e)
theorem js_astore_n {q : Fin 4} {i : Nat} (hq : (q : Nat) = i) (hi : i < nL) (hd : decode cc pc = .ok (.astore_n q, 1)) : js_S own cc nL ini pc (jo_as (pc + 1) nL i) := js_loc (fun ls st h r e => by
  unfold jo_as at e
  split at e
  · next x rest =>
    cases e
    exact ⟨rfl, fun p l e R s m args below meth c H locs k n Q b z X hx hb hl kk => lv_astore_n hx hb hd hq hl hi rfl (fun X' hX => kk X' (js_si (v := .ref x) hi rfl hX))⟩
  · cases e)
theorem js_lstore {i : Nat} (hi : i + 1 < nL) (hd : decode cc pc = .ok (.lstore i, 2)) : js_S own cc nL ini pc (jo_ls (pc + 2) nL i) := js_loc (fun ls st h r e => by
  unfold jo_ls at e
  split at e
  · next x rest =>
    cases e
    exact ⟨rfl, fun p l e R s m args below meth c H locs k n Q b z X hx hb hl kk => lv_lstore hx hb hd hl hi rfl (fun X' hX => kk X' (js_sl hi hX))⟩
  · cases e)
theorem js_iinc {i : Nat} {n : Int} {y : Int32} (hi : i < nL) (hd : decode cc pc = .ok (.iinc i n, 3)) (hv : Int32.ofInt n = y) : js_S own cc nL ini pc (jo_inc (pc + 3) nL i y) := js_loc (fun ls st h r e => by
  unfold jo_inc at e
  split at e
  · next x hx0 =>
    cases e
    refine ⟨rfl, fun p l e R s m args below meth c H locs k n' Q b z X hx hb hl kk => ?_⟩
    obtain ⟨j, hj⟩ := List.getElem?_of_mem (js_as_iff.mpr (Or.inl ⟨hi, _, hx0, rfl, rfl⟩) : (i, Value.int x) ∈ js_as b z nL ls)
    exact lv_iinc hx hb hd hl hj (by rw [hv]) hi rfl (fun X' hX => kk X' (js_si (v := .int (x + y)) hi rfl hX))
  · cases e)
theorem js_iadd (hd : decode cc pc = .ok (.iadd, 1)) : js_S own cc nL ini pc (jo_b (pc + 1) (fun x y => x + y)) := js_pure (fun ls st h r e => by
  unfold jo_b at e
  split at e
  · cases e
    exact ⟨rfl, rfl, fun p l e R s m args below meth c H locs k n Q b z X hx hb ho ht hl kk => lv_iadd hx hb hd kk⟩
  · cases e)
theorem js_isub (hd : decode cc pc = .ok (.isub, 1)) : js_S own cc nL ini pc (jo_b (pc + 1) (fun x y => x - y)) := js_pure (fun ls st h r e => by
  unfold jo_b at e
  split at e
  · cases e
    exact ⟨rfl, rfl, fun p l e R s m args below meth c H locs k n Q b z X hx hb ho ht hl kk => lv_isub hx hb hd kk⟩
  · cases e)
theorem js_imul (hd : decode cc pc = .ok (.imul, 1)) : js_S own cc nL ini pc (jo_b (pc + 1) (fun x y => x * y)) := js_pure (fun ls st h r e => by
  unfold jo_b at e
  split at e
  · cases e
    exact ⟨rfl, rfl, fun p l e R s m args below meth c H locs k n Q b z X hx hb ho ht hl kk => lv_imul hx hb hd kk⟩
  · cases e)
theorem js_iand (hd : decode cc pc = .ok (.iand, 1)) : js_S own cc nL ini pc (jo_b (pc + 1) (fun x y => x &&& y)) := js_pure (fun ls st h r e => by
  unfold jo_b at e
  split at e
  · cases e
    exact ⟨rfl, rfl, fun p l e R s m args below meth c H locs k n Q b z X hx hb ho ht hl kk => lv_iand hx hb hd kk⟩
  · cases e)
theorem js_ior (hd : decode cc pc = .ok (.ior, 1)) : js_S own cc nL ini pc (jo_b (pc + 1) (fun x y => x ||| y)) := js_pure (fun ls st h r e => by
  unfold jo_b at e
  split at e
  · cases e
    exact ⟨rfl, rfl, fun p l e R s m args below meth c H locs k n Q b z X hx hb ho ht hl kk => lv_ior hx hb hd kk⟩
  · cases e)
theorem js_ixor (hd : decode cc pc = .ok (.ixor, 1)) : js_S own cc nL ini pc (jo_b (pc + 1) (fun x y => x ^^^ y)) := js_pure (fun ls st h r e => by
  unfold jo_b at e
  split at e
  · cases e
    exact ⟨rfl, rfl, fun p l e R s m args below meth c H locs k n Q b z X hx hb ho ht hl kk => lv_ixor hx hb hd kk⟩
  · cases e)
theorem js_ishl (hd : decode cc pc = .ok (.ishl, 1)) : js_S own cc nL ini pc (jo_b (pc + 1) (fun x y => x <<< (y &&& 31))) := js_pure (fun ls st h r e => by
  unfold jo_b at e
  split at e
  · cases e
    exact ⟨rfl, rfl, fun p l e R s m args below meth c H locs k n Q b z X hx hb ho ht hl kk => lv_ishl hx hb hd kk⟩
  · cases e)
theorem js_ishr (hd : decode cc pc = .ok (.ishr, 1)) : js_S own cc nL ini pc (jo_b (pc + 1) (fun x y => x >>> (y &&& 31))) := js_pure (fun ls st h r e => by
  unfold jo_b at e
  split at e
  · cases e
    exact ⟨rfl, rfl, fun p l e R s m args below meth c H locs k n Q b z X hx hb ho ht hl kk => lv_ishr hx hb hd kk⟩
  · cases e)
theorem js_iushr (hd : decode cc pc = .ok (.iushr, 1)) : js_S own cc nL ini pc (jo_b (pc + 1) (fun x y => (x.toUInt32 >>> (y.toUInt32 &&& Int32.toUInt32 31)).toInt32)) := js_pure (fun ls st h r e => by
  unfold jo_b at e
  split at e
  · cases e
    exact ⟨rfl, rfl, fun p l e R s m args below meth c H locs k n Q b z X hx hb ho ht hl kk => lv_iushr hx hb hd rfl kk⟩
  · cases e)
theorem js_idiv (hd : decode cc pc = .ok (.idiv, 1)) : js_S own cc nL ini pc (jo_q (pc + 1) (fun x y => x / y)) := js_pure (fun ls st h r e => by
  unfold jo_q at e
  split at e
  · split at e
    · cases e
    · next hy =>
      cases e
      exact ⟨rfl, rfl, fun p l e R s m args below meth c H locs k n Q b z X hx hb ho ht hl kk => lv_idiv hx hb hd hy kk⟩
  · cases e)
theorem js_irem (hd : decode cc pc = .ok (.irem, 1)) : js_S own cc nL ini pc (jo_q (pc + 1) (fun x y => x - x / y * y)) := js_pure (fun ls st h r e => by
  unfold jo_q at e
  split at e
  · split at e
    · cases e
    · next hy =>
      cases e
      exact ⟨rfl, rfl, fun p l e R s m args below meth c H locs k n Q b z X hx hb ho ht hl kk => lv_irem hx hb hd hy kk⟩
  · cases e)
theorem js_ineg (hd : decode cc pc = .ok (.ineg, 1)) : js_S own cc nL ini pc (jo_1 (pc + 1) (fun x => -x)) := js_pure (fun ls st h r e => by
  unfold jo_1 at e
  split at e
  · cases e
    exact ⟨rfl, rfl, fun p l e R s m args below meth c H locs k n Q b z X hx hb ho ht hl kk => lv_ineg hx hb hd kk⟩
  · cases e)
theorem js_i2b (hd : decode cc pc = .ok (.i2b, 1)) : js_S own cc nL ini pc (jo_1 (pc + 1) (fun x => x.toInt8.toInt32)) := js_pure (fun ls st h r e => by
  unfold jo_1 at e
  split at e
  · cases e
    exact ⟨rfl, rfl, fun p l e R s m args below meth c H locs k n Q b z X hx hb ho ht hl kk => lv_i2b hx hb hd rfl kk⟩
  · cases e)
theorem js_i2s (hd : decode cc pc = .ok (.i2s, 1)) : js_S own cc nL ini pc (jo_1 (pc + 1) (fun x => x.toInt16.toInt32)) := js_pure (fun ls st h r e => by
  unfold jo_1 at e
  split at e
  · cases e
    exact ⟨rfl, rfl, fun p l e R s m args below meth c H locs k n Q b z X hx hb ho ht hl kk => lv_i2s hx hb hd rfl kk⟩
  · cases e)
theorem js_i2l (hd : decode cc pc = .ok (.i2l, 1)) : js_S own cc nL ini pc (jo_i2l (pc + 1)) := js_pure (fun ls st h r e => by
  unfold jo_i2l at e
  split at e
  · cases e
    exact ⟨rfl, rfl, fun p l e R s m args below meth c H locs k n Q b z X hx hb ho ht hl kk => lv_i2l hx hb hd rfl kk⟩
  · cases e)
theorem js_lsub (hd : decode cc pc = .ok (.lsub, 1)) : js_S own cc nL ini pc (jo_lb (pc + 1) (fun x y => x - y)) := js_pure (fun ls st h r e => by
  unfold jo_lb at e
  split at e
  · cases e
    exact ⟨rfl, rfl, fun p l e R s m args below meth c H locs k n Q b z X hx hb ho ht hl kk => lv_lsub hx hb hd kk⟩
  · cases e)
theorem js_lmul (hd : decode cc pc = .ok (.lmul, 1)) : js_S own cc nL ini pc (jo_lb (pc + 1) (fun x y => x * y)) := js_pure (fun ls st h r e => by
  unfold jo_lb at e
  split at e
  · cases e
    exact ⟨rfl, rfl, fun p l e R s m args below meth c H locs k n Q b z X hx hb ho ht hl kk => lv_lmul hx hb hd kk⟩
  · cases e)
theorem js_land (hd : decode cc pc = .ok (.land, 1)) : js_S own cc nL ini pc (jo_lb (pc + 1) (fun x y => x &&& y)) := js_pure (fun ls st h r e => by
  unfold jo_lb at e
  split at e
  · cases e
    exact ⟨rfl, rfl, fun p l e R s m args below meth c H locs k n Q b z X hx hb ho ht hl kk => lv_land hx hb hd kk⟩
  · cases e)
theorem js_lcmp (hd : decode cc pc = .ok (.lcmp, 1)) : js_S own cc nL ini pc (jo_lc (pc + 1)) := js_pure (fun ls st h r e => by
  unfold jo_lc at e
  split at e
  · cases e
    exact ⟨rfl, rfl, fun p l e R s m args below meth c H locs k n Q b z X hx hb ho ht hl kk => W.lcmp hx hb hd kk⟩
  · cases e)
theorem js_if_eq {off : Int} {t : Nat} (hd : decode cc pc = .ok (.ifCond .eq off, 3)) (ht0 : (pc : Int) + off = (t : Int)) : js_S own cc nL ini pc (jo_if (pc + 3) t (fun x => decide (x = 0))) := js_pure (fun ls st h r e => by
  unfold jo_if at e
  split at e
  · cases e
    exact ⟨rfl, rfl, fun p l e R s m args below meth c H locs k n Q b z X hx hb ho ht hl kk => lv_if_eq hx hb hd ht0 (fun q => by rw [if_pos (decide_eq_true q)] at kk; exact kk) (fun q => by rw [if_neg (by rw [decide_eq_true_eq]; exact q)] at kk; exact kk)⟩
  · cases e)
theorem js_ic_eq {off : Int} {t : Nat} (hd : decode cc pc = .ok (.if_icmp .eq off, 3)) (ht0 : (pc : Int) + off = (t : Int)) : js_S own cc nL ini pc (jo_ic (pc + 3) t (fun x y => decide (x = y))) := js_pure (fun ls st h r e => by
  unfold jo_ic at e
  split at e
  · cases e
    exact ⟨rfl, rfl, fun p l e R s m args below meth c H locs k n Q b z X hx hb ho ht hl kk => lv_icmp_eq hx hb hd ht0 (fun q => by rw [if_pos (decide_eq_true q)] at kk; exact kk) (fun q => by rw [if_neg (by rw [decide_eq_true_eq]; exact q)] at kk; exact kk)⟩
  · cases e)
theorem js_if_ne {off : Int} {t : Nat} (hd : decode cc pc = .ok (.ifCond .ne off, 3)) (ht0 : (pc : Int) + off = (t : Int)) : js_S own cc nL ini pc (jo_if (pc + 3) t (fun x => decide (¬ x = 0))) := js_pure (fun ls st h r e => by
  unfold jo_if at e
  split at e
  · cases e
    exact ⟨rfl, rfl, fun p l e R s m args below meth c H locs k n Q b z X hx hb ho ht hl kk => lv_if_ne hx hb hd ht0 (fun q => by rw [if_pos (decide_eq_true q)] at kk; exact kk) (fun q => by rw [if_neg (by rw [decide_eq_true_eq]; exact fun w => w q)] at kk; exact kk)⟩
  · cases e)
theorem js_ic_ne {off : Int} {t : Nat} (hd : decode cc pc = .ok (.if_icmp .ne off, 3)) (ht0 : (pc : Int) + off = (t : Int)) : js_S own cc nL ini pc (jo_ic (pc + 3) t (fun x y => decide (¬ x = y))) := js_pure (fun ls st h r e => by
  unfold jo_ic at e
  split at e
  · cases e
    exact ⟨rfl, rfl, fun p l e R s m args below meth c H locs k n Q b z X hx hb ho ht hl kk => lv_icmp_ne hx hb hd ht0 (fun q => by rw [if_pos (decide_eq_true q)] at kk; exact kk) (fun q => by rw [if_neg (by rw [decide_eq_true_eq]; exact fun w => w q)] at kk; exact kk)⟩
  · cases e)
theorem js_if_lt {off : Int} {t : Nat} (hd : decode cc pc = .ok (.ifCond .lt off, 3)) (ht0 : (pc : Int) + off = (t : Int)) : js_S own cc nL ini pc (jo_if (pc + 3) t (fun x => decide (x < 0))) := js_pure (fun ls st h r e => by
  unfold jo_if at e
  split at e
  · cases e
    exact ⟨rfl, rfl, fun p l e R s m args below meth c H locs k n Q b z X hx hb ho ht hl kk => lv_if_lt hx hb hd ht0 (fun q => by rw [if_pos (decide_eq_true q)] at kk; exact kk) (fun q => by rw [if_neg (by rw [decide_eq_true_eq]; exact q)] at kk; exact kk)⟩
  · cases e)
theorem js_ic_lt {off : Int} {t : Nat} (hd : decode cc pc = .ok (.if_icmp .lt off, 3)) (ht0 : (pc : Int) + off = (t : Int)) : js_S own cc nL ini pc (jo_ic (pc + 3) t (fun x y => decide (x < y))) := js_pure (fun ls st h r e => by
  unfold jo_ic at e
  split at e
  · cases e
    exact ⟨rfl, rfl, fun p l e R s m args below meth c H locs k n Q b z X hx hb ho ht hl kk => lv_icmp_lt hx hb hd ht0 (fun q => by rw [if_pos (decide_eq_true q)] at kk; exact kk) (fun q => by rw [if_neg (by rw [decide_eq_true_eq]; exact q)] at kk; exact kk)⟩
  · cases e)
theorem js_if_ge {off : Int} {t : Nat} (hd : decode cc pc = .ok (.ifCond .ge off, 3)) (ht0 : (pc : Int) + off = (t : Int)) : js_S own cc nL ini pc (jo_if (pc + 3) t (fun x => decide (0 ≤ x))) := js_pure (fun ls st h r e => by
  unfold jo_if at e
  split at e
  · cases e
    exact ⟨rfl, rfl, fun p l e R s m args below meth c H locs k n Q b z X hx hb ho ht hl kk => lv_if_ge hx hb hd ht0 (fun q => by rw [if_pos (decide_eq_true q)] at kk; exact kk) (fun q => by rw [if_neg (by rw [decide_eq_true_eq]; exact q)] at kk; exact kk)⟩
  · cases e)
theorem js_ic_ge {off : Int} {t : Nat} (hd : decode cc pc = .ok (.if_icmp .ge off, 3)) (ht0 : (pc : Int) + off = (t : Int)) : js_S own cc nL ini pc (jo_ic (pc + 3) t (fun x y => decide (y ≤ x))) := js_pure (fun ls st h r e => by
  unfold jo_ic at e
  split at e
  · cases e
    exact ⟨rfl, rfl, fun p l e R s m args below meth c H locs k n Q b z X hx hb ho ht hl kk => lv_icmp_ge hx hb hd ht0 (fun q => by rw [if_pos (decide_eq_true q)] at kk; exact kk) (fun q => by rw [if_neg (by rw [decide_eq_true_eq]; exact q)] at kk; exact kk)⟩
  · cases e)
theorem js_if_gt {off : Int} {t : Nat} (hd : decode cc pc = .ok (.ifCond .gt off, 3)) (ht0 : (pc : Int) + off = (t : Int)) : js_S own cc nL ini pc (jo_if (pc + 3) t (fun x => decide (0 < x))) := js_pure (fun ls st h r e => by
  unfold jo_if at e
  split at e
  · cases e
    exact ⟨rfl, rfl, fun p l e R s m args below meth c H locs k n Q b z X hx hb ho ht hl kk => lv_if_gt hx hb hd ht0 (fun q => by rw [if_pos (decide_eq_true q)] at kk; exact kk) (fun q => by rw [if_neg (by rw [decide_eq_true_eq]; exact q)] at kk; exact kk)⟩
  · cases e)
theorem js_ic_gt {off : Int} {t : Nat} (hd : decode cc pc = .ok (.if_icmp .gt off, 3)) (ht0 : (pc : Int) + off = (t : Int)) : js_S own cc nL ini pc (jo_ic (pc + 3) t (fun x y => decide (y < x))) := js_pure (fun ls st h r e => by
  unfold jo_ic at e
  split at e
  · cases e
    exact ⟨rfl, rfl, fun p l e R s m args below meth c H locs k n Q b z X hx hb ho ht hl kk => lv_icmp_gt hx hb hd ht0 (fun q => by rw [if_pos (decide_eq_true q)] at kk; exact kk) (fun q => by rw [if_neg (by rw [decide_eq_true_eq]; exact q)] at kk; exact kk)⟩
  · cases e)
theorem js_if_le {off : Int} {t : Nat} (hd : decode cc pc = .ok (.ifCond .le off, 3)) (ht0 : (pc : Int) + off = (t : Int)) : js_S own cc nL ini pc (jo_if (pc + 3) t (fun x => decide (x ≤ 0))) := js_pure (fun ls st h r e => by
  unfold jo_if at e
  split at e
  · cases e
    exact ⟨rfl, rfl, fun p l e R s m args below meth c H locs k n Q b z X hx hb ho ht hl kk => lv_if_le hx hb hd ht0 (fun q => by rw [if_pos (decide_eq_true q)] at kk; exact kk) (fun q => by rw [if_neg (by rw [decide_eq_true_eq]; exact q)] at kk; exact kk)⟩
  · cases e)
theorem js_ic_le {off : Int} {t : Nat} (hd : decode cc pc = .ok (.if_icmp .le off, 3)) (ht0 : (pc : Int) + off = (t : Int)) : js_S own cc nL ini pc (jo_ic (pc + 3) t (fun x y => decide (x ≤ y))) := js_pure (fun ls st h r e => by
  unfold jo_ic at e
  split at e
  · cases e
    exact ⟨rfl, rfl, fun p l e R s m args below meth c H locs k n Q b z X hx hb ho ht hl kk => lv_icmp_le hx hb hd ht0 (fun q => by rw [if_pos (decide_eq_true q)] at kk; exact kk) (fun q => by rw [if_neg (by rw [decide_eq_true_eq]; exact q)] at kk; exact kk)⟩
  · cases e)
theorem js_ifnn {off : Int} {t : Nat} (hd : decode cc pc = .ok (.ifnonnull off, 3)) (ht0 : (pc : Int) + off = (t : Int)) : js_S own cc nL ini pc (jo_nn (pc + 3) t) := js_pure (fun ls st h r e => by
  unfold jo_nn at e
  split at e
  · cases e
    exact ⟨rfl, rfl, fun p l e R s m args below meth c H locs k n Q b z X hx hb ho ht hl kk => lv_ifnonnull hx hb hd ht0 kk⟩
  · cases e
    exact ⟨rfl, rfl, fun p l e R s m args below meth c H locs k n Q b z X hx hb ho ht hl kk => lv_ifnonnullN hx hb hd kk⟩
  · cases e)
theorem js_dup (hd : decode cc pc = .ok (.dup, 1)) : js_S own cc nL ini pc (jo_d (pc + 1)) := js_pure (fun ls st h r e => by
  unfold jo_d at e
  split at e
  · next v rest =>
    split at e
    · next hc =>
      cases e
      exact ⟨rfl, rfl, fun p l e R s m args below meth c H locs k n Q b z X hx hb ho ht hl kk => lv_dup hx hb hd (js_v_c1 hc) kk⟩
    · cases e
  · cases e)
theorem js_dup2 (hd : decode cc pc = .ok (.dup2, 1)) : js_S own cc nL ini pc (jo_d2 (pc + 1)) := js_pure (fun ls st h r e => by
  unfold jo_d2 at e
  split at e
  · next v w rest =>
    split at e
    · next hc =>
      cases e
      exact ⟨rfl, rfl, fun p l e R s m args below meth c H locs k n Q b z X hx hb ho ht hl kk => lv_dup2_11 hx hb hd (js_v_c1 hc.1) (js_v_c1 hc.2) kk⟩
    · cases e
  · cases e)
theorem js_pop (hd : decode cc pc = .ok (.pop, 1)) : js_S own cc nL ini pc (jo_p (pc + 1)) := js_pure (fun ls st h r e => by
  unfold jo_p at e
  split at e
  · next v rest =>
    split at e
    · next hc =>
      cases e
      exact ⟨rfl, rfl, fun p l e R s m args below meth c H locs k n Q b z X hx hb ho ht hl kk => lv_pop hx hb hd (js_v_c1 hc) kk⟩
    · cases e
  · cases e)
/-- where a tableswitch goes -/
def js_swt (pc : Nat) (dflt lo hi : Int) (offs : List Int) (x : Int32) : Nat := if x.toInt < lo ∨ hi < x.toInt then ((pc : Int) + dflt).toNat else ((pc : Int) + (offs[(x.toInt - lo).toNat]?).getD 0).toNat
theorem js_tsw {dflt lo hi : Int} {offs : Array Int} {len : Nat} (hd : decode cc pc = .ok (.tableswitch dflt lo hi offs, len)) (h0 : 0 ≤ (pc : Int) + dflt) (h1 : offs.toList.all (fun o => decide (0 ≤ (pc : Int) + o)) = true) (h2 : hi < lo + offs.size) : js_S own cc nL ini pc (jo_sw (js_swt pc dflt lo hi offs.toList)) := js_pure (fun ls st h r e => by
  unfold jo_sw at e
  split at e
  · next x rest =>
    cases e
    refine ⟨rfl, rfl, fun p l e R s m args below meth c H locs k n Q b z X hx hb ho ht hl kk => ?_⟩
    dsimp only at kk
    by_cases hx0 : x.toInt < lo ∨ hi < x.toInt
    · rw [js_swt, if_pos hx0] at kk
      exact lv_tableOut hx hb hd hx0 (by omega) kk
    · rw [js_swt, if_neg hx0] at kk
      have hlt : (x.toInt - lo).toNat < offs.size := by omega
      have hg : offs[(x.toInt - lo).toNat]? = some offs[(x.toInt - lo).toNat] := Array.getElem?_eq_getElem hlt
      rw [Array.getElem?_toList, hg] at kk
      dsimp only [Option.getD] at kk
      have hm := List.all_eq_true.mp h1 offs[(x.toInt - lo).toNat] (Array.mem_toList_iff.mpr (Array.getElem_mem hlt))
      rw [decide_eq_true_eq] at hm
      exact lv_tableIn hx hb hd (fun q => hx0 (Or.inl q)) (fun q => hx0 (Or.inr q)) hg (by omega) kk
  · cases e)
end JSS
end
section
/-! ===== what the pure machine does, the machine does: steps at the heap ===== -/
section JSR
variable {D : va_G} {G : Nat → ClassId} {b z : Nat} {s : State} {h : jxH} {H H1 : Heap} {a : Nat}
theorem js_R.in (hR : js_R D G b z s h H) {x : jxC} (hx : h.2.2 a = x) (h9 : ∀ L f, x ≠ .inl (9, L, f)) (h7 : ∀ L f, x ≠ .inl (77, L, f)) : 1 ≤ a ∧ a < h.1 ∧ va_at D vwCl (z + a, js_e G b z x) H ∧ js_a b z a = z + a := by
  obtain ⟨r1, r2, r3, r4, r5, L, xs, r6, r7⟩ := hR
  have ha0 : a ≠ 0 := by
    intro e
    subst e
    exact h9 L (.inl xs) (by rw [← hx, r6])
  have hlt : a < h.1 := Nat.not_le.mp fun q => h7 0 (.inl (fun _ => 0)) (by rw [← hx, r5 a q]; rfl)
  refine ⟨by omega, hlt, ?_, by rw [js_a, if_neg ha0]⟩
  rw [← hx]
  exact r4 a (by omega) hlt
theorem js_R.put (hR : js_R D G b z s h H) (h1 : 1 ≤ a) (h2 : a < h.1) {x : jxC} (hx : va_at D vwCl (z + a, js_e G b z x) H1) (e2 : H1.size = H.size) (e3 : ∀ q : Nat, q ≠ z + a → H1[q]? = H[q]?) : js_R D G b z s (jx_w h a x) H1 := by
  obtain ⟨r1, r2, r3, r4, r5, L, xs, r6, r7⟩ := hR
  refine ⟨e2.trans r1, r2, r3, fun i i1 i2 => ?_, fun i hi => ?_, L, xs, ?_, r7.kept (e3 b (by omega))⟩
  · by_cases hi : i = a
    · subst hi
      show va_at D vwCl (z + i, js_e G b z (if i = i then x else h.2.2 i)) H1
      rw [if_pos rfl]
      exact hx
    · show va_at D vwCl (z + i, js_e G b z (if i = a then x else h.2.2 i)) H1
      rw [if_neg hi]
      exact (r4 i i1 i2).kept (e3 _ (by omega))
  · show (if i = a then x else h.2.2 i) = jx_no
    have hi' : h.1 ≤ i := hi
    rw [if_neg (by omega)]
    exact r5 i hi'
  · show (if 0 = a then x else h.2.2 0) = _
    rw [if_neg (by omega)]
    exact r6
theorem js_R.mk (hR : js_R D G b z s h H) {n : Nat} {x : jxC} (hx : va_at D vwCl (z + h.1, js_e G b z x) H1) (e2 : H1.size = H.size + 1) (e3 : ∀ q : Nat, q < H.size → H1[q]? = H[q]?) : js_R D G b z s (jx_mk h n x) H1 := by
  obtain ⟨r1, r2, r3, r4, r5, L, xs, r6, r7⟩ := hR
  refine ⟨by rw [e2, r1]; rfl, Nat.le_succ_of_le r2, r3, fun i i1 i2 => ?_, fun i hi => ?_, L, xs, ?_, r7.kept (e3 b (by omega))⟩
  · have i2' : i < h.1 + 1 := i2
    by_cases hi : i = h.1
    · subst hi
      show va_at D vwCl (z + h.1, js_e G b z (if h.1 = h.1 then x else h.2.2 h.1)) H1
      rw [if_pos rfl]
      exact hx
    · show va_at D vwCl (z + i, js_e G b z (if i = h.1 then x else h.2.2 i)) H1
      rw [if_neg hi]
      exact (r4 i i1 (by omega)).kept (e3 _ (by show z + i < H.size; omega))
  · have hi' : h.1 + 1 ≤ i := hi
    show (if i = h.1 then x else h.2.2 i) = jx_no
    rw [if_neg (by omega)]
    exact r5 i (by omega)
  · show (if 0 = h.1 then x else h.2.2 0) = _
    rw [if_neg (by omega)]
    exact r6
theorem js_Sm {H0 : Heap} {locs : List Loc} (hS : va_S (fun q => z < q) H0 H locs) (e2 : H.size ≤ H1.size) (e3 : ∀ q : Nat, q < H.size → H1[q]? = H[q]?) : va_S (fun q => z < q) H0 H1 locs :=
  ⟨Nat.le_trans hS.1 e2, fun q h1 h2 => (e3 q (Nat.lt_of_lt_of_le h1 hS.1)).trans (hS.2.1 q h1 h2), hS.2.2⟩
theorem js_P1 {q : Nat × va_E} (hx : va_at D vwCl q H) : va_P D vwCl [q] H := fun k x hk => by
  have hz : k < 1 := (List.getElem?_eq_some_iff.mp hk).1
  rw [show k = 0 by omega] at hk
  cases hk
  exact hx
theorem jx_fl_inv {c k : Nat} {v : Value} (e : jx_fl h a c k = some v) : ∃ fs, h.2.2 a = .inr (c, fs) ∧ fs[k]? = some v := by
  unfold jx_fl at e
  split at e
  · next c' fs hx =>
    split at e
    · next hc => subst hc; exact ⟨fs, hx, e⟩
    · cases e
  · cases e
theorem jx_cl_inv {c : Nat} (e : jx_cl h a = some c) : ∃ fs, h.2.2 a = .inr (c, fs) := by
  unfold jx_cl at e
  split at e
  · next c' fs hx => cases e; exact ⟨fs, hx⟩
  · cases e
theorem jx_ai_inv {x : Nat × (Nat → Int32)} (e : jx_ai h a = some x) : h.2.2 a = .inl (0, x.1, .inl x.2) := by
  unfold jx_ai at e
  split at e
  · next n f hx => cases e; exact hx
  · cases e
theorem jx_sc_inv {x : Nat × (Nat → Int32)} (e : jx_sc h a = some x) : h.2.2 a = .inl (9, x.1, .inl x.2) := by
  unfold jx_sc at e
  split at e
  · next n f hx => cases e; exact hx
  · cases e
theorem jx_al_inv {x : Nat × (Nat → Int64)} (e : jx_al h a = some x) : h.2.2 a = .inl (1, x.1, .inr (.inl x.2)) := by
  unfold jx_al at e
  split at e
  · next n f hx => cases e; exact hx
  · cases e
theorem jx_ar_inv {t : Nat} {x : Nat × (Nat → Option Nat)} (e : jx_ar h a t = some x) : h.2.2 a = .inl (t, x.1, .inr (.inr (.inr (.inr x.2)))) := by
  unfold jx_ar at e
  split at e
  · next t' n f hx =>
    split at e
    · next ht => subst ht; cases e; exact hx
    · cases e
  · cases e
theorem js_in {i : Int32} {n : Nat} (e : jx_inB i n = true) : vp_in i n := by
  obtain ⟨h1, h2⟩ := jx_inB_iff.mp e
  rintro (q | q)
  · exact h1 q
  · omega
end JSR
section JSH
variable {own : String} {cc : ByteArray} {nL pc : Nat} {ini : Bool}
theorem js_getf {index c k : Nat} {C : String} {T : u_T} {N : Nat} (hd : decode cc pc = .ok (.getfield index, 3)) (hc : vwCl[c]? = some (C, T, N)) (hin : ∀ w ∈ u_ws C T N, w ∈ js_T) (hkN : k < N) (hl : Cond.fieldLink own index (T k).1 (T k).2.1 (T k).2.2.1 ∈ js_T) : js_S own cc nL ini pc (jo_gf (pc + 3) c k) := by
  refine ⟨fun ls st h pc' ls' st' h' e1 => ?_, fun p l e R s m args below meth c' Q D G b z H0 k0 n0 S hK hini hf hlo ls st h pc' ls' st' h' e1 hcl hsl kW H locs X hL hR hS hk hn => ?_⟩
  · unfold jo_gf at e1
    split at e1
    · obtain ⟨v, hv, e⟩ := Option.map_eq_some_iff.mp e1
      cases e
      exact ⟨Nat.le_refl _, Nat.le_refl _⟩
    · cases e1
  · unfold jo_gf at e1
    split at e1
    · next a rest =>
      obtain ⟨v, hv, e⟩ := Option.map_eq_some_iff.mp e1
      cases e
      obtain ⟨fs, hx, hfs⟩ := jx_fl_inv hv
      obtain ⟨i1, i2, i3, i4⟩ := hR.in hx (fun _ _ q => by cases q) (fun _ _ q => by cases q)
      have kk := kW H locs X hL hR hS hk hn
      show W p l e R s m args below meth c' H locs _ _ Q (F0 m pc X (.ref (js_a b z a) :: rest.map (js_v b z)))
      rw [i4]
      exact va_get (D := D) (ws := [(z + a, .inr (c, fs.map (js_v b z)))]) S.1 S.2.1 S.2.2.2.2 hin S.2.2.2.1 hK.1 (js_P1 i3) 0 rfl hc k hkN (S.2.2.2.2 _ hl) (fun _ q => q) (v := js_v b z v) (by rw [List.getElem?_map, hfs]; rfl) hd kk
    · cases e1
/-- what may be put into a field -/
def js_fitT (t : Nat) (ty : FieldType) : Prop := ∀ (v : Value), jx_fit t v = true → ∀ b z : Nat, narrow ty (js_v b z v) = js_v b z v ∧ fits ty (js_v b z v) = true
theorem js_fit0 : js_fitT 0 .int := fun v h b z => by
  cases v <;> first | exact ⟨rfl, rfl⟩ | (simp [jx_fit] at h)
theorem js_fit1 : js_fitT 1 .boolean := fun v h b z => by
  cases v with
  | int x =>
    simp only [jx_fit, Bool.or_eq_true, beq_iff_eq] at h
    rcases h with rfl | rfl <;> exact ⟨rfl, rfl⟩
  | _ => simp [jx_fit] at h
theorem js_fit2o {C : String} : js_fitT 2 (.object C) := fun v h b z => by
  cases v <;> first | exact ⟨rfl, rfl⟩ | (simp [jx_fit] at h)
theorem js_fit2a {t : FieldType} : js_fitT 2 (.array t) := fun v h b z => by
  cases v <;> first | exact ⟨rfl, rfl⟩ | (simp [jx_fit] at h)
theorem js_putf {index c k t : Nat} {C : String} {T : u_T} {N : Nat} {ty : FieldType} {ty0 : Nat → FieldType} (hd : decode cc pc = .ok (.putfield index, 3)) (hc : vwCl[c]? = some (C, T, N)) (hin : ∀ w ∈ u_ws C T N, w ∈ js_T) (hty : ∀ k, k < N → parseFieldDescriptor (T k).2.2.1 = some (ty0 k)) (hnm : ∀ a, a < N → ∀ b, b < N → a ≠ b → (T a).2.1 ≠ (T b).2.1) (hkN : k < N) (hl : Cond.fieldLink own index (T k).1 (T k).2.1 (T k).2.2.1 ∈ js_T)
    (hfin : (T k).2.2.2 = false ∨ ((T k).2.2.2 = true ∧ ini = true ∧ (T k).1 = own)) (hdt : parseFieldDescriptor (T k).2.2.1 = some ty) (hfit : js_fitT t ty) : js_S own cc nL ini pc (jo_pf (pc + 3) c k t) := by
  refine ⟨fun ls st h pc' ls' st' h' e1 => ?_, fun p l e R s m args below meth c' Q D G b z H0 k0 n0 S hK hini hf hlo ls st h pc' ls' st' h' e1 hcl hsl kW H locs X hL hR hS hk hn => ?_⟩
  · unfold jo_pf at e1
    split at e1
    · split at e1
      · obtain ⟨v, hv, e⟩ := Option.map_eq_some_iff.mp e1
        cases e
        exact ⟨Nat.le_refl _, Nat.le_refl _⟩
      · cases e1
    · cases e1
  · unfold jo_pf at e1
    split at e1
    · next v a rest =>
      split at e1
      · next hv0 =>
        obtain ⟨v', hv, e⟩ := Option.map_eq_some_iff.mp e1
        cases e
        obtain ⟨fs, hx, hfs⟩ := jx_fl_inv hv
        obtain ⟨i1, i2, i3, i4⟩ := hR.in hx (fun _ _ q => by cases q) (fun _ _ q => by cases q)
        have hkl : k < fs.length := (List.getElem?_eq_some_iff.mp hfs).1
        obtain ⟨hn1, hn2⟩ := hfit v hv0 b z
        show W p l e R s m args below meth c' H locs _ _ Q (F0 m pc X (js_v b z v :: .ref (js_a b z a) :: st'.map (js_v b z)))
        rw [i4]
        have hts := S.2.2.2.2
        have hap := va_apart (own := own) hts hin ty0 hty hnm hK.1 hc
        obtain ⟨r, h1, cell, q1, q2, q3, q4⟩ := i3
        have hr : r = (C, T, N) := Option.some.inj (h1.symm.trans hc)
        subst hr
        obtain ⟨hSl, hfc, kC, hkC, hkind⟩ := hK.1.1 c _ hc
        obtain ⟨cf, kf, fi, f, hi, hsl'⟩ := hSl k hkN
        have hlay := hts _ (hin _ (u_in_lay hkN))
        have hst := (u_facts hfc hkC (u_lays hts hin hkN) hi).1
        have fin : ∀ (H' : Heap), H'[z + a]? = some (cell.setSlot (D.2 c k) (js_v b z v)) → H'.size = H.size → (∀ q, q ≠ z + a → H'[q]? = H[q]?) → W p l e R s m args below meth c' H' (locs ++ [⟨z + a, D.2 c k⟩]) (h.1 - k0) (h.2.1 - n0) Q (F0 m (pc + 3) X (st'.map (js_v b z))) := by
          intro H' e1 e2 e3
          have hat : va_at D vwCl (z + a, js_e G b z (.inr (c, fs.set k v))) H' := by
            refine ⟨_, hc, ?_⟩
            show t_OB (z + a) (D.1 c) N (D.2 c) H' (vp_V ((fs.set k v).map (js_v b z)))
            rw [List.map_set]
            exact t_OB.to (V := updV (vp_V (fs.map (js_v b z))) k (js_v b z v)) ⟨_, e1, q2, q3, t_set q4 hap hkN _⟩ (fun j _ => vp_updV_set (by rw [List.length_map]; exact hkl) _ j)
          have hR' := hR.put i1 i2 hat e2 e3
          have e4 : jx_uf h a k v = jx_w h a (.inr (c, fs.set k v)) := by rw [jx_uf, hx]
          rw [← e4] at hR'
          exact kW H' _ X hL hR' (hS.put e2 e3 (by show z < z + a; omega)) hk hn
        unfold u_lay at hlay
        rcases hfin with hfin | ⟨hfin, hini', hdecl⟩
        · rw [if_neg (by rw [hfin]; decide)] at hlay
          have h6 := u_store hfc hkC hkind hlay hi hdt hn1 hn2
          refine W.putK S.1 S.2.1 (f := f) ⟨S.2.2.2.1, hts _ hl, ⟨_, _, _, hi⟩, hst⟩ (by rw [q2]; exact h6) q1 q3 (by rw [hsl']; exact k2_hasslot (q4 k hkN)) rfl rfl hd fun H' e1 e2 e3 => ?_
          rw [hsl'] at e1 ⊢
          exact fin H' e1 e2 e3
        · rw [if_pos hfin] at hlay
          have hcf : m.cls = cf := by
            obtain ⟨_, _, c9, _, _, _, -, -, hf9, -, -, -, hown2, -⟩ := Cond.laysFinal_spec hlay
            have e9 : c9 = cf := by have := hi.symm.trans hf9; simp at this; exact this.1.symm
            rw [hdecl] at hown2
            rw [← e9]; exact Option.some.inj (S.2.2.2.1.symm.trans hown2)
          have h6 := u_fits hfc hkC hkind (Or.inr hlay) hi hdt hn1 hn2
          refine W.putFinK S.1 S.2.1 S.2.2.2.1 (hts _ hl) hi hst hcf (hini hini') (by rw [q2]; exact h6) q1 q3 (by rw [hsl']; exact k2_hasslot (q4 k hkN)) rfl rfl hd fun H' e1 e2 e3 => ?_
          rw [hsl'] at e1 ⊢
          exact fin H' e1 e2 e3
      · cases e1
    · cases e1
theorem js_iald (hd : decode cc pc = .ok (.iaload, 1)) : js_S own cc nL ini pc (jo_ia (pc + 1)) := by
  refine ⟨fun ls st h pc' ls' st' h' e1 => ?_, fun p l e R s m args below meth c' Q D G b z H0 k0 n0 S hK hini hf hlo ls st h pc' ls' st' h' e1 hcl hsl kW H locs X hL hR hS hk hn => ?_⟩ <;> unfold jo_ia at e1 <;> split at e1 <;> (try (cases e1; done)) <;> split at e1 <;> (try (cases e1; done)) <;> split at e1 <;> (try (cases e1; done))
  · cases e1
    exact ⟨Nat.le_refl _, Nat.le_refl _⟩
  · next i a rest _ x hx hi =>
    cases e1
    obtain ⟨i1, i2, i3, i4⟩ := hR.in (jx_ai_inv hx) (fun _ _ q => by cases q) (fun _ _ q => by cases q)
    have kk := kW H locs X hL hR hS hk hn
    show W p l e R s m args below meth c' H locs _ _ Q (F0 m pc X (.int i :: .ref (js_a b z a) :: rest.map (js_v b z)))
    rw [i4]
    exact va_iald (D := D) (ws := [(z + a, .inl (G 0, x.1, .inl x.2))]) S.1 S.2.1 hK.1 (js_P1 i3) 0 0 rfl rfl (js_in hi) hd kk
theorem js_lald (hd : decode cc pc = .ok (.laload, 1)) : js_S own cc nL ini pc (jo_la (pc + 1)) := by
  refine ⟨fun ls st h pc' ls' st' h' e1 => ?_, fun p l e R s m args below meth c' Q D G b z H0 k0 n0 S hK hini hf hlo ls st h pc' ls' st' h' e1 hcl hsl kW H locs X hL hR hS hk hn => ?_⟩ <;> unfold jo_la at e1 <;> split at e1 <;> (try (cases e1; done)) <;> split at e1 <;> (try (cases e1; done)) <;> split at e1 <;> (try (cases e1; done))
  · cases e1
    exact ⟨Nat.le_refl _, Nat.le_refl _⟩
  · next i a rest _ x hx hi =>
    cases e1
    obtain ⟨i1, i2, i3, i4⟩ := hR.in (jx_al_inv hx) (fun _ _ q => by cases q) (fun _ _ q => by cases q)
    have kk := kW H locs X hL hR hS hk hn
    show W p l e R s m args below meth c' H locs _ _ Q (F0 m pc X (.int i :: .ref (js_a b z a) :: rest.map (js_v b z)))
    rw [i4]
    exact va_lald (D := D) (ws := [(z + a, .inl (G 1, x.1, .inr (.inl x.2)))]) S.1 S.2.1 hK.1 (js_P1 i3) 0 1 rfl rfl (js_in hi) hd kk
theorem js_rvv {b z : Nat} (r : Option Nat) : va_rf (r.map (js_a b z)) = js_v b z (jx_rv r) := by
  cases r <;> rfl
theorem js_aald2 {t : Nat} {C : String} (ht : t = 2 ∧ C = RX10 ∨ t = 3 ∧ C = RX8) (hd : decode cc pc = .ok (.aaload, 1)) : js_S own cc nL ini pc (jo_ra (pc + 1) t) := by
  refine ⟨fun ls st h pc' ls' st' h' e1 => ?_, fun p l e R s m args below meth c' Q D G b z H0 k0 n0 S hK hini hf hlo ls st h pc' ls' st' h' e1 hcl hsl kW H locs X hL hR hS hk hn => ?_⟩ <;> unfold jo_ra at e1 <;> split at e1 <;> (try (cases e1; done)) <;> split at e1 <;> (try (cases e1; done)) <;> split at e1 <;> (try (cases e1; done))
  · cases e1
    exact ⟨Nat.le_refl _, Nat.le_refl _⟩
  · next i a rest _ x hx hi =>
    cases e1
    obtain ⟨i1, i2, i3, i4⟩ := hR.in (jx_ar_inv hx) (fun _ _ q => by rcases ht with ⟨rfl, -⟩ | ⟨rfl, -⟩ <;> cases q) (fun _ _ q => by rcases ht with ⟨rfl, -⟩ | ⟨rfl, -⟩ <;> cases q)
    have kk := kW H locs X hL hR hS hk hn
    rw [List.map_cons, ← js_rvv] at kk
    show W p l e R s m args below meth c' H locs _ _ Q (F0 m pc X (.int i :: .ref (js_a b z a) :: rest.map (js_v b z)))
    rw [i4]
    rcases ht with ⟨rfl, rfl⟩ | ⟨rfl, rfl⟩
    · exact va_aldq (D := D) (ws := [(z + a, .inl (G 2, x.1, .inr (.inr (.inr (.inr (fun j => (x.2 j).map (js_a b z)))))))]) S.1 S.2.1 hK.1 (js_P1 i3) 0 2 rfl rfl (js_in hi) hd kk
    · exact va_aldq (D := D) (ws := [(z + a, .inl (G 3, x.1, .inr (.inr (.inr (.inr (fun j => (x.2 j).map (js_a b z)))))))]) S.1 S.2.1 hK.1 (js_P1 i3) 0 3 rfl rfl (js_in hi) hd kk
theorem js_aald4 (hd : decode cc pc = .ok (.aaload, 1)) : js_S own cc nL ini pc (jo_ra (pc + 1) 4) := by
  refine ⟨fun ls st h pc' ls' st' h' e1 => ?_, fun p l e R s m args below meth c' Q D G b z H0 k0 n0 S hK hini hf hlo ls st h pc' ls' st' h' e1 hcl hsl kW H locs X hL hR hS hk hn => ?_⟩ <;> unfold jo_ra at e1 <;> split at e1 <;> (try (cases e1; done)) <;> split at e1 <;> (try (cases e1; done)) <;> split at e1 <;> (try (cases e1; done))
  · cases e1
    exact ⟨Nat.le_refl _, Nat.le_refl _⟩
  · next i a rest _ x hx hi =>
    cases e1
    obtain ⟨i1, i2, i3, i4⟩ := hR.in (jx_ar_inv hx) (fun _ _ q => by cases q) (fun _ _ q => by cases q)
    have kk := kW H locs X hL hR hS hk hn
    rw [List.map_cons, ← js_rvv] at kk
    show W p l e R s m args below meth c' H locs _ _ Q (F0 m pc X (.int i :: .ref (js_a b z a) :: rest.map (js_v b z)))
    rw [i4]
    have hlt : i.toNatClampNeg < x.1 := (jx_inB_iff.mp hi).2
    exact W.aald (v := va_rf ((x.2 i.toNatClampNeg).map (js_a b z))) (ty := .array .int) S.1 S.2.1 i3 ((hK.1.2 4 _ rfl).1 x.1 (fun j => va_rf ((x.2 j).map (js_a b z)))) rfl (fun q => by cases q) (by show ¬ (i < 0 ∨ (arrV _ _ _).slots.size ≤ _); rw [arrV_size]; exact js_in hi) (by show (arrV _ _ _).slots[_]? = _; rw [arrV_read _ _ hlt]) rfl rfl hd kk
theorem js_sald (hd : decode cc pc = .ok (.iaload, 1)) : js_S own cc nL ini pc (jo_sa (pc + 1)) := by
  refine ⟨fun ls st h pc' ls' st' h' e1 => ?_, fun p l e R s m args below meth c' Q D G b z H0 k0 n0 S hK hini hf hlo ls st h pc' ls' st' h' e1 hcl hsl kW H locs X hL hR hS hk hn => ?_⟩ <;> unfold jo_sa at e1 <;> split at e1 <;> (try (cases e1; done)) <;> split at e1 <;> (try (cases e1; done)) <;> split at e1 <;> (try (cases e1; done))
  · cases e1
    exact ⟨Nat.le_refl _, Nat.le_refl _⟩
  · next i rest _ x hx hi =>
    cases e1
    have kk := kW H locs X hL hR hS hk hn
    obtain ⟨r1, r2, r3, r4, r5, L, xs, r6, r7⟩ := hR
    have e9 := (jx_sc_inv hx).symm.trans r6
    obtain ⟨x1, x2⟩ := x
    cases e9
    show W p l e R s m args below meth c' H locs _ _ Q (F0 m pc X (.int i :: .ref b :: rest.map (js_v b z)))
    obtain ⟨scr, g1, g2, g3, g4, g5⟩ := r7
    exact W.iald (v := .int (x2 i.toNatClampNeg)) S.1 S.2.1 g1 g2 g3 (by rw [g4]; exact js_in hi) (g5 _ (jx_inB_iff.mp hi).2) rfl rfl hd kk
theorem js_slen (hd : decode cc pc = .ok (.arraylength, 1)) : js_S own cc nL ini pc (jo_sl (pc + 1)) := by
  refine ⟨fun ls st h pc' ls' st' h' e1 => ?_, fun p l e R s m args below meth c' Q D G b z H0 k0 n0 S hK hini hf hlo ls st h pc' ls' st' h' e1 hcl hsl kW H locs X hL hR hS hk hn => ?_⟩ <;> unfold jo_sl at e1 <;> split at e1 <;> (try (cases e1; done)) <;> obtain ⟨x, hx, ex⟩ := Option.map_eq_some_iff.mp e1 <;> cases ex
  · exact ⟨Nat.le_refl _, Nat.le_refl _⟩
  · next rest =>
    have kk := kW H locs X hL hR hS hk hn
    obtain ⟨r1, r2, r3, r4, r5, L, xs, r6, r7⟩ := hR
    have e9 := (jx_sc_inv hx).symm.trans r6
    obtain ⟨x1, x2⟩ := x
    cases e9
    show W p l e R s m args below meth c' H locs _ _ Q (F0 m pc X (.ref b :: rest.map (js_v b z)))
    obtain ⟨scr, g1, g2, g3, g4, g5⟩ := r7
    exact W.alen (n := nI x1) S.1 S.2.1 g1 g2 (by rw [g4] <;> rfl) rfl rfl hd kk
theorem js_alen (hd : decode cc pc = .ok (.arraylength, 1)) : js_S own cc nL ini pc (jo_len (pc + 1)) := by
  refine ⟨fun ls st h pc' ls' st' h' e1 => ?_, fun p l e R s m args below meth c' Q D G b z H0 k0 n0 S hK hini hf hlo ls st h pc' ls' st' h' e1 hcl hsl kW H locs X hL hR hS hk hn => ?_⟩ <;> unfold jo_len at e1 <;> split at e1 <;> (try (cases e1; done)) <;> obtain ⟨x, hx, ex⟩ := Option.map_eq_some_iff.mp e1 <;> cases ex
  · exact ⟨Nat.le_refl _, Nat.le_refl _⟩
  · next a rest =>
    obtain ⟨i1, i2, i3, i4⟩ := hR.in (jx_ai_inv hx) (fun _ _ q => by cases q) (fun _ _ q => by cases q)
    have kk := kW H locs X hL hR hS hk hn
    show W p l e R s m args below meth c' H locs _ _ Q (F0 m pc X (.ref (js_a b z a) :: rest.map (js_v b z)))
    rw [i4]
    exact va_alen (D := D) (ws := [(z + a, .inl (G 0, x.1, .inl x.2))]) S.1 S.2.1 hK.1 (js_P1 i3) 0 0 rfl rfl (v := nI x.1) rfl hd kk
theorem js_cast {index : Nat} (hd : decode cc pc = .ok (.checkcast index, 3)) (hl : Cond.classLink own index "[I" ∈ js_T) : js_S own cc nL ini pc (jo_ct (pc + 3)) := by
  refine ⟨fun ls st h pc' ls' st' h' e1 => ?_, fun p l e R s m args below meth c' Q D G b z H0 k0 n0 S hK hini hf hlo ls st h pc' ls' st' h' e1 hcl hsl kW H locs X hL hR hS hk hn => ?_⟩ <;> unfold jo_ct at e1 <;> split at e1 <;> (try (cases e1; done)) <;> obtain ⟨x, hx, ex⟩ := Option.map_eq_some_iff.mp e1 <;> cases ex
  · exact ⟨Nat.le_refl _, Nat.le_refl _⟩
  · next a rest =>
    obtain ⟨i1, i2, i3, i4⟩ := hR.in (jx_ai_inv hx) (fun _ _ q => by cases q) (fun _ _ q => by cases q)
    have kk := kW H locs X hL hR hS hk hn
    rw [List.map_cons, show js_v b z (.ref a) = .ref (js_a b z a) from rfl, i4] at kk
    show W p l e R s m args below meth c' H locs _ _ Q (F0 m pc X (.ref (js_a b z a) :: rest.map (js_v b z)))
    rw [i4]
    exact va_castA (D := D) (ws := [(z + a, .inl (G 0, x.1, .inl x.2))]) S.1 S.2.1 S.2.2.2.1 (S.2.2.2.2 _ hl) (js_P1 i3) 0 rfl ((hK.1.2 0 _ rfl).2) hd kk
end JSH
end
section
/-! ===== what the pure machine does, the machine does: stores and new cells ===== -/
section JSI
variable {own : String} {cc : ByteArray} {nL pc : Nat} {ini : Bool}
theorem js_iast (hd : decode cc pc = .ok (.iastore, 1)) : js_S own cc nL ini pc (jo_iw (pc + 1)) := by
  refine ⟨fun ls st h pc' ls' st' h' e1 => ?_, fun p l e R s m args below meth c' Q D G b z H0 k0 n0 S hK hini hf hlo ls st h pc' ls' st' h' e1 hcl hsl kW H locs X hL hR hS hk hn => ?_⟩ <;> unfold jo_iw at e1 <;> split at e1 <;> (try (cases e1; done)) <;> split at e1 <;> (try (cases e1; done)) <;> split at e1 <;> (try (cases e1; done))
  · cases e1
    exact ⟨Nat.le_refl _, Nat.le_refl _⟩
  · next v i a rest _ x hx hi =>
    cases e1
    obtain ⟨i1, i2, i3, i4⟩ := hR.in (jx_ai_inv hx) (fun _ _ q => by cases q) (fun _ _ q => by cases q)
    show W p l e R s m args below meth c' H locs _ _ Q (F0 m pc X (.int v :: .int i :: .ref (js_a b z a) :: st'.map (js_v b z)))
    rw [i4]
    refine W.iast S.1 S.2.1 i3 ((hK.1.2 0 _ rfl).1 x.1 (fun j => .int (x.2 j))) (fun q => by cases q) (by show ¬ (i < 0 ∨ (arrV _ _ _).slots.size ≤ _); rw [arrV_size]; exact js_in hi) rfl rfl hd fun H1 e9 z9 oq => ?_
    refine kW H1 _ X hL (hR.put i1 i2 (x := .inl (0, x.1, .inl (upd x.2 i.toNatClampNeg v))) ?_ z9 oq) (hS.put z9 oq (by show z < z + a; omega)) hk hn
    show H1[z + a]? = some (vp_cell (G 0) (x.1, .inl (upd x.2 i.toNatClampNeg v)))
    rw [e9]
    rw [vp_cell_i, vp_cell_i, arrV_store]
    congr 2
    funext q
    by_cases hq : q = i.toNatClampNeg
    · subst hq
      simp [updV, upd]
    · simp [updV, upd, hq]
theorem js_last (hd : decode cc pc = .ok (.lastore, 1)) : js_S own cc nL ini pc (jo_lw (pc + 1)) := by
  refine ⟨fun ls st h pc' ls' st' h' e1 => ?_, fun p l e R s m args below meth c' Q D G b z H0 k0 n0 S hK hini hf hlo ls st h pc' ls' st' h' e1 hcl hsl kW H locs X hL hR hS hk hn => ?_⟩ <;> unfold jo_lw at e1 <;> split at e1 <;> (try (cases e1; done)) <;> split at e1 <;> (try (cases e1; done)) <;> split at e1 <;> (try (cases e1; done))
  · cases e1
    exact ⟨Nat.le_refl _, Nat.le_refl _⟩
  · next v i a rest _ x hx hi =>
    cases e1
    obtain ⟨i1, i2, i3, i4⟩ := hR.in (jx_al_inv hx) (fun _ _ q => by cases q) (fun _ _ q => by cases q)
    show W p l e R s m args below meth c' H locs _ _ Q (F0 m pc X (.long v :: .int i :: .ref (js_a b z a) :: st'.map (js_v b z)))
    rw [i4]
    refine W.last S.1 S.2.1 i3 ((hK.1.2 1 _ rfl).1 x.1 (fun j => .long (x.2 j))) (fun q => by cases q) (by show ¬ (i < 0 ∨ (arrV _ _ _).slots.size ≤ _); rw [arrV_size]; exact js_in hi) rfl rfl hd fun H1 e9 z9 oq => ?_
    refine kW H1 _ X hL (hR.put i1 i2 (x := .inl (1, x.1, .inr (.inl (vp_updL x.2 i.toNatClampNeg v)))) ?_ z9 oq) (hS.put z9 oq (by show z < z + a; omega)) hk hn
    show H1[z + a]? = some (vp_cell (G 1) (x.1, .inr (.inl (vp_updL x.2 i.toNatClampNeg v))))
    rw [e9]
    rw [vp_cell_l, vp_cell_l, arrV_store]
    congr 2
    funext q
    by_cases hq : q = i.toNatClampNeg
    · subst hq
      simp [updV, vp_updL]
    · simp [updV, vp_updL, hq]
theorem js_aast {t cv : Nat} {r : vw_C} (ht : t = 2 ∧ r.1 = RX10 ∨ t = 3 ∧ r.1 = RX8) (hr : vwCl[cv]? = some r) (hd : decode cc pc = .ok (.aastore, 1)) : js_S own cc nL ini pc (jo_rw (pc + 1) t cv) := by
  refine ⟨fun ls st h pc' ls' st' h' e1 => ?_, fun p l e R s m args below meth c' Q D G b z H0 k0 n0 S hK hini hf hlo ls st h pc' ls' st' h' e1 hcl hsl kW H locs X hL hR hS hk hn => ?_⟩ <;> unfold jo_rw at e1 <;> split at e1 <;> (try (cases e1; done)) <;> split at e1 <;> (try (cases e1; done)) <;> split at e1 <;> (try (cases e1; done))
  · cases e1
    exact ⟨Nat.le_refl _, Nat.le_refl _⟩
  · next v i a rest _ x hx hi =>
    cases e1
    obtain ⟨hi, hcv⟩ := hi
    obtain ⟨fs, hxv⟩ := jx_cl_inv hcv
    obtain ⟨j1, j2, j3, j4⟩ := hR.in hxv (fun _ _ q => by cases q) (fun _ _ q => by cases q)
    obtain ⟨i1, i2, i3, i4⟩ := hR.in (jx_ar_inv hx) (fun _ _ q => by rcases ht with ⟨rfl, -⟩ | ⟨rfl, -⟩ <;> cases q) (fun _ _ q => by rcases ht with ⟨rfl, -⟩ | ⟨rfl, -⟩ <;> cases q)
    show W p l e R s m args below meth c' H locs _ _ Q (F0 m pc X (.ref (js_a b z v) :: .int i :: .ref (js_a b z a) :: st'.map (js_v b z)))
    rw [i4, j4]
    obtain ⟨r', hr', cellV, g1, g2, g3, -⟩ := j3
    have hcls := (hK.1.1 cv r hr).2
    have hRA : ∃ (kA : Class) (comp : ClassId), s.vm.classes[G t]? = some kA ∧ kA.kind = .array comp (.object r.1) ∧ s.vm.findClass r.1 = some comp := by
      rcases ht with ⟨rfl, e⟩ | ⟨rfl, e⟩ <;> rw [e]
      · obtain ⟨kA, comp, k1, k2, k3, -⟩ := (hK.1.2 2 _ rfl).2
        exact ⟨kA, comp, k1, k2, k3⟩
      · obtain ⟨kA, comp, k1, k2, k3, -⟩ := (hK.1.2 3 _ rfl).2
        exact ⟨kA, comp, k1, k2, k3⟩
    obtain ⟨kA, comp, k1, k2, k3⟩ := hRA
    have hcomp : comp = D.1 cv := Option.some.inj (k3.symm.trans hcls.1)
    subst hcomp
    have hcl2 := hcls
    obtain ⟨kC, hkC, -⟩ := hcls.2
    have hlt : i.toNatClampNeg < x.1 := (jx_inB_iff.mp hi).2
    refine W.aast (k := kA) (comp := D.1 cv) (t := .object r.1) S.1 S.2.1 i3 (fun q h => by cases h) (fun h => by cases h) k1 k2 rfl hkC ⟨(jx_inB_iff.mp hi).1, by show _ < (arrV _ _ _).slots.size; rw [arrV_size]; exact hlt⟩ g1 (fun q h => by rw [g3] at h; cases h) (by rw [g2]; exact hkC) (by rw [g2]; exact va_assign hcl2) rfl rfl hd fun H1 e9 z9 oq => ?_
    refine kW H1 _ X hL (hR.put i1 i2 (x := .inl (t, x.1, .inr (.inr (.inr (.inr (va_up x.2 i.toNatClampNeg (some v))))))) ?_ z9 oq) (hS.put z9 oq (by show z < z + a; omega)) hk hn
    show H1[z + a]? = some (vp_cell (G t) (x.1, .inr (.inr (.inr (.inr (fun j => ((va_up x.2 i.toNatClampNeg (some v)) j).map (js_a b z)))))))
    rw [e9]
    rw [vp_cell_q, vp_cell_q, arrV_store]
    congr 2
    funext q
    by_cases hq : q = i.toNatClampNeg
    · subst hq
      simp [updV, va_up, va_rf, j4]
    · simp [updV, va_up, hq]
theorem js_newo {index c n : Nat} {C : String} {T : u_T} {N : Nat} {ty0 : Nat → FieldType} {fs : List Value} (hd : decode cc pc = .ok (.new index, 3)) (hc : vwCl[c]? = some (C, T, N)) (hin : ∀ w ∈ u_ws C T N, w ∈ js_T) (hty : ∀ k, k < N → parseFieldDescriptor (T k).2.2.1 = some (ty0 k)) (hl : Cond.classLink own index C ∈ js_T) (hins : Cond.instantiable C N ∈ js_T) (hini0 : Cond.initialized C ∈ js_T) (hfs : ∀ j, j < N → defaultValue (ty0 j) = vp_V fs j) (hfl : fs.length = N) (hfr : ∀ b z, fs.map (js_v b z) = fs) : js_S own cc nL ini pc (jo_nw (pc + 3) c fs) := by
  refine ⟨fun ls st h pc' ls' st' h' e1 => ?_, fun p l e R s m args below meth c' Q D G b z H0 k0 n0 S hK hini hf hlo ls st h pc' ls' st' h' e1 hcl hsl kW H locs X hL hR hS hk hn => ?_⟩ <;> cases e1
  · exact ⟨Nat.le_succ _, Nat.le_add_right _ _⟩
  · have hts := S.2.2.2.2
    have hKn := hK.1.1 c _ hc
    have hcl' : h.1 + 1 - k0 ≤ R.cells := hcl
    have hsl' : h.2.1 + fs.length - n0 ≤ R.slots := hsl
    have hz : H.size = z + h.1 := hR.1
    refine W.newcK S.1 S.2.1 S.2.2.2.1 (hts _ hl) (hts _ hins) (hts _ hini0) rfl hd (by omega) (by omega) hKn.2.1 hz fun H1 kC hkC e1 z1 o1 => ?_
    have hat : va_at D vwCl (z + h.1, js_e G b z (.inr (c, fs))) H1 := by
      refine ⟨_, hc, ?_⟩
      show t_OB (z + h.1) (D.1 c) N (D.2 c) H1 (vp_V (fs.map (js_v b z)))
      rw [hfr]
      exact (u_born ty0 hts hin hKn hkC e1 hty).to hfs
    have kk := kW H1 locs X hL (hR.mk (n := fs.length) hat (by omega) (fun q hq => o1 q (by omega))) (js_Sm hS (by omega) (fun q hq => o1 q (by omega))) (Nat.le_succ_of_le hk) (Nat.le_trans hn (Nat.le_add_right _ _))
    have e2 : h.1 - k0 + 1 = (jx_mk h fs.length (.inr (c, fs))).1 - k0 := by show _ = h.1 + 1 - k0; omega
    have e3 : h.2.1 - n0 + N = (jx_mk h fs.length (.inr (c, fs))).2.1 - n0 := by show _ = h.2.1 + fs.length - n0; omega
    have e4 : js_v b z (.ref h.1) = .ref (z + h.1) := by
      have := hR.2.1
      show Value.ref (js_a b z h.1) = _
      rw [js_a, if_neg (by omega)]
    rw [List.map_cons, e4] at kk
    rw [e2, e3]
    exact kk
theorem js_cnt {i : Int32} {n : Nat} (hi : jx_inB i n = true) : ¬ i < 0 := (jx_inB_iff.mp hi).1
theorem js_newi (hd : decode cc pc = .ok (.newarray .int, 2)) (hw : Cond.arrayClass .int ∈ js_T) : js_S own cc nL ini pc (jo_ni (pc + 2)) := by
  refine ⟨fun ls st h pc' ls' st' h' e1 => ?_, fun p l e R s m args below meth c' Q D G b z H0 k0 n0 S hK hini hf hlo ls st h pc' ls' st' h' e1 hcl hsl kW H locs X hL hR hS hk hn => ?_⟩ <;> unfold jo_ni at e1 <;> split at e1 <;> (try (cases e1; done)) <;> split at e1 <;> (try (cases e1; done))
  · cases e1
    exact ⟨Nat.le_succ _, Nat.le_add_right _ _⟩
  · next x rest hx =>
    cases e1
    have hcl' : h.1 + 1 - k0 ≤ R.cells := hcl
    have hsl' : h.2.1 + x.toNatClampNeg - n0 ≤ R.slots := hsl
    have hz : H.size = z + h.1 := hR.1
    have hlt : x.toNatClampNeg < 1000000 := (jx_inB_iff.mp hx).2
    refine va_newaK (atype := .int) S.1 S.2.1 (S.2.2.2.2 _ hw) rfl hd rfl (js_cnt hx) rfl (by show _ * 4 ≤ _; omega) (by omega) (by omega) hz fun H1 cA e1 z1 o1 hAr hNm => ?_
    have hcA : cA = G 0 := Option.some.inj (hNm.symm.trans (hK.1.2 0 _ rfl).2)
    subst hcA
    have kk := kW H1 locs X hL (hR.mk (n := x.toNatClampNeg) (x := .inl (0, x.toNatClampNeg, .inl (fun _ => 0))) e1 (by omega) (fun q hq => o1 q (by omega))) (js_Sm hS (by omega) (fun q hq => o1 q (by omega))) (Nat.le_succ_of_le hk) (Nat.le_trans hn (Nat.le_add_right _ _))
    have e2 : h.1 - k0 + 1 = (jx_mk h x.toNatClampNeg (.inl (0, x.toNatClampNeg, .inl (fun _ => 0)))).1 - k0 := by show _ = h.1 + 1 - k0; omega
    have e3 : h.2.1 - n0 + x.toNatClampNeg = (jx_mk h x.toNatClampNeg (.inl (0, x.toNatClampNeg, .inl (fun _ => 0)))).2.1 - n0 := by show _ = h.2.1 + x.toNatClampNeg - n0; omega
    have e4 : js_v b z (.ref h.1) = .ref (z + h.1) := by
      have := hR.2.1
      show Value.ref (js_a b z h.1) = _
      rw [js_a, if_neg (by omega)]
    rw [List.map_cons, e4] at kk
    rw [e2, e3]
    exact kk
theorem js_newj (hd : decode cc pc = .ok (.newarray .long, 2)) (hw : Cond.arrayClass .long ∈ js_T) : js_S own cc nL ini pc (jo_nj (pc + 2)) := by
  refine ⟨fun ls st h pc' ls' st' h' e1 => ?_, fun p l e R s m args below meth c' Q D G b z H0 k0 n0 S hK hini hf hlo ls st h pc' ls' st' h' e1 hcl hsl kW H locs X hL hR hS hk hn => ?_⟩ <;> unfold jo_nj at e1 <;> split at e1 <;> (try (cases e1; done)) <;> split at e1 <;> (try (cases e1; done))
  · cases e1
    exact ⟨Nat.le_succ _, Nat.le_add_right _ _⟩
  · next x rest hx =>
    cases e1
    have hcl' : h.1 + 1 - k0 ≤ R.cells := hcl
    have hsl' : h.2.1 + x.toNatClampNeg - n0 ≤ R.slots := hsl
    have hz : H.size = z + h.1 := hR.1
    have hlt : x.toNatClampNeg < 1000000 := (jx_inB_iff.mp hx).2
    refine va_newaK (atype := .long) S.1 S.2.1 (S.2.2.2.2 _ hw) rfl hd rfl (js_cnt hx) rfl (by show _ * 8 ≤ _; omega) (by omega) (by omega) hz fun H1 cA e1 z1 o1 hAr hNm => ?_
    have hcA : cA = G 1 := Option.some.inj (hNm.symm.trans (hK.1.2 1 _ rfl).2)
    subst hcA
    have kk := kW H1 locs X hL (hR.mk (n := x.toNatClampNeg) (x := .inl (1, x.toNatClampNeg, .inr (.inl (fun _ => 0)))) e1 (by omega) (fun q hq => o1 q (by omega))) (js_Sm hS (by omega) (fun q hq => o1 q (by omega))) (Nat.le_succ_of_le hk) (Nat.le_trans hn (Nat.le_add_right _ _))
    have e2 : h.1 - k0 + 1 = (jx_mk h x.toNatClampNeg (.inl (1, x.toNatClampNeg, .inr (.inl (fun _ => 0))))).1 - k0 := by show _ = h.1 + 1 - k0; omega
    have e3 : h.2.1 - n0 + x.toNatClampNeg = (jx_mk h x.toNatClampNeg (.inl (1, x.toNatClampNeg, .inr (.inl (fun _ => 0))))).2.1 - n0 := by show _ = h.2.1 + x.toNatClampNeg - n0; omega
    have e4 : js_v b z (.ref h.1) = .ref (z + h.1) := by
      have := hR.2.1
      show Value.ref (js_a b z h.1) = _
      rw [js_a, if_neg (by omega)]
    rw [List.map_cons, e4] at kk
    rw [e2, e3]
    exact kk
theorem js_newr {index t : Nat} {C : String} (ht : t = 2 ∧ C = RX10 ∨ t = 3 ∧ C = RX8) (hd : decode cc pc = .ok (.anewarray index, 3)) (hl : Cond.classLink own index C ∈ js_T) : js_S own cc nL ini pc (jo_nr (pc + 3) t) := by
  refine ⟨fun ls st h pc' ls' st' h' e1 => ?_, fun p l e R s m args below meth c' Q D G b z H0 k0 n0 S hK hini hf hlo ls st h pc' ls' st' h' e1 hcl hsl kW H locs X hL hR hS hk hn => ?_⟩ <;> unfold jo_nr at e1 <;> split at e1 <;> (try (cases e1; done)) <;> split at e1 <;> (try (cases e1; done))
  · cases e1
    exact ⟨Nat.le_succ _, Nat.le_add_right _ _⟩
  · next x rest hx =>
    cases e1
    have hcl' : h.1 + 1 - k0 ≤ R.cells := hcl
    have hsl' : h.2.1 + x.toNatClampNeg - n0 ≤ R.slots := hsl
    have hz : H.size = z + h.1 := hR.1
    have hlt : x.toNatClampNeg < 1000000 := (jx_inB_iff.mp hx).2
    have hover : va_AO C s := by
      rcases ht with ⟨-, rfl⟩ | ⟨-, rfl⟩
      · exact hK.2.2.2.1
      · exact hK.2.2.2.2.1
    refine W.anew S.1 S.2.1 S.2.2.2.1 (S.2.2.2.2 _ hl) (va_AO.use hover) rfl hd rfl (js_cnt hx) (by omega) (by omega) (by omega) fun cA kA comp f1 f2 f3 f4 => ?_
    have hcA : cA = G t := by
      rcases ht with ⟨rfl, rfl⟩ | ⟨rfl, rfl⟩
      · obtain ⟨_, _, -, -, -, k4⟩ := (hK.1.2 2 _ rfl).2
        exact Option.some.inj (f1.symm.trans k4)
      · obtain ⟨_, _, -, -, -, k4⟩ := (hK.1.2 3 _ rfl).2
        exact Option.some.inj (f1.symm.trans k4)
    subst hcA
    generalize hH1 : H.push ({ cls := G t, slots := Array.replicate x.toNatClampNeg .null, vm := .none } : Cell) = H1
    have z1 : H1.size = H.size + 1 := by rw [← hH1, Array.size_push]
    have e1 : H1[H.size]? = some (arrV (G t) x.toNatClampNeg (fun _ => .null)) := by rw [← hH1, Array.getElem?_push_size, ← arrV_new]
    have o1 : ∀ q : Nat, q < H.size → H1[q]? = H[q]? := fun q hq => by rw [← hH1, Array.getElem?_push, if_neg (Nat.ne_of_lt hq)]
    rw [hz] at e1
    have kk := kW H1 locs X hL (hR.mk (n := x.toNatClampNeg) (x := .inl (t, x.toNatClampNeg, .inr (.inr (.inr (.inr (fun _ => none)))))) e1 (by omega) (fun q hq => o1 q (by omega))) (js_Sm hS (by omega) (fun q hq => o1 q (by omega))) (Nat.le_succ_of_le hk) (Nat.le_trans hn (Nat.le_add_right _ _))
    have e2 : h.1 - k0 + 1 = (jx_mk h x.toNatClampNeg (.inl (t, x.toNatClampNeg, .inr (.inr (.inr (.inr (fun _ => none))))))).1 - k0 := by show _ = h.1 + 1 - k0; omega
    have e3 : h.2.1 - n0 + x.toNatClampNeg = (jx_mk h x.toNatClampNeg (.inl (t, x.toNatClampNeg, .inr (.inr (.inr (.inr (fun _ => none))))))).2.1 - n0 := by show _ = h.2.1 + x.toNatClampNeg - n0; omega
    have e4 : js_v b z (.ref h.1) = .ref H.size := by
      have := hR.2.1
      show Value.ref (js_a b z h.1) = _
      rw [js_a, if_neg (by omega), hz]
    rw [List.map_cons, e4] at kk
    rw [e2, e3]
    exact kk
theorem js_csum : ∀ (st : List Value), (st.map fun v => v.category).sum ≤ 2 * st.length
  | [] => Nat.le_refl _
  | v :: st => by
    have := js_csum st
    have hv : v.category ≤ 2 := by cases v <;> first | exact Nat.le_refl _ | exact Nat.le_succ _
    simp only [List.map_cons, List.sum_cons, List.length_cons]
    omega
theorem js_obji {index : Nat} (hd : decode cc pc = .ok (.invokespecial index, 3)) (hl : Cond.methodLink own index objectInit ∈ js_T) (hi : Cond.instanceMethod objectInit ∈ js_T) (hco : Cond.code objectInit ⟨#[0xb1]⟩ 1 none ∈ js_T) : js_S own cc nL ini pc (jo_oi (pc + 3)) := by
  refine ⟨fun ls st h pc' ls' st' h' e1 => ?_, fun p l e R s m args below meth c' Q D G b z H0 k0 n0 S hK hini hf hlo ls st h pc' ls' st' h' e1 hcl hsl kW H locs X hL hR hS hk hn => ?_⟩ <;> unfold jo_oi at e1 <;> split at e1 <;> (try (cases e1; done)) <;> split at e1 <;> (try (cases e1; done))
  · cases e1
    exact ⟨Nat.le_refl _, Nat.le_refl _⟩
  · next a rest hr =>
    cases e1
    have kk := kW H locs X hL hR hS hk hn
    have hts := S.2.2.2.2
    have hcs := js_csum (st'.map (js_v b z))
    rw [List.length_map] at hcs
    exact W.objInit (a := js_a b z a) (rest := st'.map (js_v b z)) S.1 S.2.1 S.2.2.2.1 (hts _ hl) (hts _ hi) (hts _ hco) rfl (by rw [S.2.2.1]; exact hL.1) rfl hd hf (by show 2 * 0 + _ + 12 ≤ _; omega) kk
theorem js_copy {index : Nat} (hd : decode cc pc = .ok (.invokestatic index, 3)) (hl : Cond.methodLink own index arraycopyName ∈ js_T) (hna : Cond.native arraycopyName ∈ js_T) (hst : Cond.static arraycopyName ∈ js_T) (hi0 : Cond.initialized "java/lang/System" ∈ js_T) : js_S own cc nL ini pc (jo_cp (pc + 3)) := by
  refine ⟨fun ls st h pc' ls' st' h' e1 => ?_, fun p l e R s m args below meth c' Q D G b z H0 k0 n0 S hK hini hf hlo ls st h pc' ls' st' h' e1 hcl hsl kW H locs X hL hR hS hk hn => ?_⟩ <;> unfold jo_cp at e1 <;> split at e1 <;> (try (cases e1; done)) <;> split at e1 <;> (try (cases e1; done)) <;> split at e1 <;> (try (cases e1; done)) <;> split at e1 <;> (try (cases e1; done))
  · cases e1
    exact ⟨Nat.le_refl _, Nat.le_refl _⟩
  · next n dp a1 sp a0 rest _ x hx _ y hy hcond =>
    cases e1
    obtain ⟨hr, h1, h2, h3, h4, h5⟩ := hcond
    obtain ⟨i1, i2, i3, i4⟩ := hR.in (jx_ai_inv hx) (fun _ _ q => by cases q) (fun _ _ q => by cases q)
    obtain ⟨j1, j2, j3, j4⟩ := hR.in (jx_ai_inv hy) (fun _ _ q => by cases q) (fun _ _ q => by cases q)
    have hts := S.2.2.2.2
    have hcs := js_csum (st'.map (js_v b z))
    rw [List.length_map] at hcs
    show W p l e R s m args below meth c' H locs _ _ Q (F0 m pc X (.int n :: .int dp :: .ref (js_a b z a1) :: .int sp :: .ref (js_a b z a0) :: st'.map (js_v b z)))
    rw [i4, j4]
    have nn : ∀ w : Int32, ¬ w < 0 → w.toInt = (w.toNatClampNeg : Int) := by
      intro w hw
      have hw0 : (0 : Int) ≤ w.toInt := by
        have := Int32.not_lt.mp hw
        simpa using Int32.le_iff_toInt_le.mp this
      show w.toInt = ((w.toInt.toNat : Nat) : Int)
      omega
    have hc0 : H[z + a0]? = some (vp_cell (G 0) (x.1, .inl x.2)) := i3
    have hc1 : H[z + a1]? = some (vp_cell (G 0) (y.1, .inl y.2)) := j3
    intro T hT XT
    obtain ⟨-, k9, hk9, cm9, hkk9⟩ := (hK.1.2 0 _ rfl).1 x.1 (fun j => .int (x.2 j))
    obtain ⟨vm', X', step⟩ := XT.arraycopy S.1 S.2.2.2.1 (hts _ hl) (hts _ hna) (hts _ hst) (hts _ hi0) (src := z + a0) (dst := z + a1) (cs := vp_cell (G 0) (x.1, .inl x.2)) (cd := vp_cell (G 0) (y.1, .inl y.2)) (srcPos := sp) (destPos := dp) (n := n) (by rw [hT]; exact hc0) (by rw [hT]; exact hc1)
      (fun _ h => by cases h) (fun _ h => by cases h) (fun h => by cases h) (fun h => by cases h) hk9 hk9 hkk9 hkk9 rfl h1 h2 h3
      (by rw [nn sp h1, nn n h3]; show ¬ _ > ((arrV (G 0) x.1 (fun j => .int (x.2 j))).slots.size : Int); rw [arrV_size]; omega)
      (by rw [nn dp h2, nn n h3]; show ¬ _ > ((arrV (G 0) y.1 (fun j => .int (y.2 j))).slots.size : Int); rw [arrV_size]; omega)
      (fun vm₁ _ i hi => by
        have e : (vp_cell (G 0) (x.1, .inl x.2)).slots.getD (sp.toNatClampNeg + i) .null = .int (x.2 (sp.toNatClampNeg + i)) := by
          show (arrV (G 0) x.1 (fun j => .int (x.2 j))).slots.getD _ _ = _
          rw [Array.getD_eq_getD_getElem?, arrV_read _ _ (by omega)]
          rfl
        refine ⟨?_, ?_⟩
        · rw [e]
          rfl
        · rw [e]
          exact trivial)
      (g := F0 m pc X (.int n :: .int dp :: .ref (z + a1) :: .int sp :: .ref (z + a0) :: st'.map (js_v b z))) rfl (by rw [S.2.2.1]; exact hL.1) (rest := st'.map (js_v b z)) rfl (by rw [S.2.1]; exact hd) hf (by show 2 * 0 + _ + (5 + 2 + 11) ≤ _; omega)
    have e9 : copied (vp_cell (G 0) (x.1, .inl x.2)) (vp_cell (G 0) (y.1, .inl y.2)) sp dp n = vp_cell (G 0) (y.1, .inl (va_cpy x.2 y.2 sp.toNatClampNeg dp.toNatClampNeg n.toNatClampNeg)) := va_copied (fun w => .int w) (G 0) (G 0) x.2 y.2 h4
    rw [e9] at X' step
    have hl9 : z + a1 < H.size := (Array.getElem?_eq_some_iff.mp hc1).1
    have hheap : ((T.setVm vm').setCell (z + a1) (vp_cell (G 0) (y.1, .inl (va_cpy x.2 y.2 sp.toNatClampNeg dp.toNatClampNeg n.toNatClampNeg)))).heap = H.setIfInBounds (z + a1) (vp_cell (G 0) (y.1, .inl (va_cpy x.2 y.2 sp.toNatClampNeg dp.toNatClampNeg n.toNatClampNeg))) := by rw [← hT]; rfl
    have oq : ∀ q : Nat, q ≠ z + a1 → (H.setIfInBounds (z + a1) (vp_cell (G 0) (y.1, .inl (va_cpy x.2 y.2 sp.toNatClampNeg dp.toNatClampNeg n.toNatClampNeg))))[q]? = H[q]? := fun q hq => by simp [Array.getElem?_setIfInBounds, Ne.symm hq]
    have hsz : (H.setIfInBounds (z + a1) (vp_cell (G 0) (y.1, .inl (va_cpy x.2 y.2 sp.toNatClampNeg dp.toNatClampNeg n.toNatClampNeg)))).size = H.size := by simp
    have hA1 : z < z + a1 := by omega
    obtain ⟨t, b1, b2⟩ := kW _ _ X hL (hR.put j1 j2 (x := .inl (0, y.1, .inl (va_cpy x.2 y.2 sp.toNatClampNeg dp.toNatClampNeg n.toNatClampNeg))) (show (H.setIfInBounds (z + a1) _)[z + a1]? = some _ by simp [Array.getElem?_setIfInBounds, hl9]) hsz oq) ⟨by rw [hsz]; exact hS.1, fun q g1 g2 => by
        rw [oq q (fun e => g2 (by rw [e]; exact hA1))]
        exact hS.2.1 q g1 g2, fun q hq => by
        rcases List.mem_append.mp hq with h | h
        · exact hS.2.2 q h
        · obtain ⟨w, -, hw⟩ := List.mem_map.mp h
          rw [← hw]
          exact hA1⟩ hk hn _ hheap X'
    exact ⟨t, step t b1, b2⟩
theorem js_clone {index : Nat} (hd : decode cc pc = .ok (.invokevirtual index, 3)) (hl : Cond.methodLink own index ⟨"[I", "clone", "()Ljava/lang/Object;"⟩ ∈ js_T) (hsa : Cond.sameMethod "[I" "java/lang/Object" "clone" "()Ljava/lang/Object;" ∈ js_T) (hna : Cond.native ⟨"java/lang/Object", "clone", "()Ljava/lang/Object;"⟩ ∈ js_T) (hi0 : Cond.instanceMethod ⟨"java/lang/Object", "clone", "()Ljava/lang/Object;"⟩ ∈ js_T) (hse : Cond.selects "[I" ⟨"[I", "clone", "()Ljava/lang/Object;"⟩ ⟨"java/lang/Object", "clone", "()Ljava/lang/Object;"⟩ ∈ js_T) : js_S own cc nL ini pc (jo_cn (pc + 3)) := by
  refine ⟨fun ls st h pc' ls' st' h' e1 => ?_, fun p l e R s m args below meth c' Q D G b z H0 k0 n0 S hK hini hf hlo ls st h pc' ls' st' h' e1 hcl hsl kW H locs X hL hR hS hk hn => ?_⟩ <;> unfold jo_cn at e1 <;> split at e1 <;> (try (cases e1; done)) <;> split at e1 <;> (try (cases e1; done)) <;> split at e1 <;> (try (cases e1; done))
  · cases e1
    exact ⟨Nat.le_succ _, Nat.le_add_right _ _⟩
  · next a rest _ x hx hr =>
    cases e1
    obtain ⟨i1, i2, i3, i4⟩ := hR.in (jx_ai_inv hx) (fun _ _ q => by cases q) (fun _ _ q => by cases q)
    have hts := S.2.2.2.2
    have hcl' : h.1 + 1 - k0 ≤ R.cells := hcl
    have hsl' : h.2.1 + x.1 - n0 ≤ R.slots := hsl
    have hz : H.size = z + h.1 := hR.1
    have hcs := js_csum (rest.map (js_v b z))
    rw [List.length_map] at hcs
    show W p l e R s m args below meth c' H locs _ _ Q (F0 m pc X (.ref (js_a b z a) :: rest.map (js_v b z)))
    rw [i4]
    have hnm : s.vm.findClass "[I" = some (G 0) := (hK.1.2 0 _ rfl).2
    obtain ⟨c0, t0', f1, f2, f3⟩ := Cond.castable_spec (va_Nw.use (A := args) rfl hK.2.2.1)
    cases hnm.symm.trans f1
    have hsz : (vp_cell (G 0) (x.1, .inl x.2)).slots.size = x.1 := arrV_size _ _ _
    intro T hT XT
    have hcellT : T.heap[z + a]? = some (vp_cell (G 0) (x.1, .inl x.2)) := by rw [hT]; exact i3
    obtain ⟨-, kA, hkA, comp, hkind⟩ := State.isArrayOf_alike XT.warmed.alike ((hK.1.2 0 _ rfl).1 0 (fun _ => .null))
    obtain ⟨-, kS, hkS, compS, hkindS⟩ := (hK.1.2 0 _ rfl).1 0 (fun _ => .null)
    obtain ⟨vm', X', st9⟩ := XT.cloneArray S.1 S.2.2.2.1 (hts _ hl) (hts _ hsa) (hts _ hna) (hts _ hi0) (hts _ hse) (a := z + a) (cell := vp_cell (G 0) (x.1, .inl x.2)) hcellT (fun k h => by cases h) (fun h => by cases h) hnm f2 f3
      (fun i v hv => by
        have hk' : T.vm.classes[G 0]? = some kA := hkA
        have hfit : fits .int v = true := va_fit (fun i _ => rfl) i v hv
        simpa [State.fitsSlot, State.slotType?, vp_cell, arrV, hk', hkind] using hfit)
      (g := F0 m pc X (.ref (z + a) :: rest.map (js_v b z))) rfl (by rw [S.2.2.1]; exact hL.1) rfl (by rw [S.2.1]; exact hd) hf (by show 2 * 0 + _ + 14 ≤ _; omega) (by omega) (by rw [hsz]; omega) (hloader := Vm.clonesLoader_of_array hkS hkindS)
    have hcellE : ({ cls := (vp_cell (G 0) (x.1, .inl x.2)).cls, slots := (vp_cell (G 0) (x.1, .inl x.2)).slots } : Cell) = vp_cell (G 0) (x.1, .inl x.2) := rfl
    rw [hcellE, hsz] at X'
    generalize hH1 : H.push (vp_cell (G 0) (x.1, .inl x.2)) = H1
    have z1 : H1.size = H.size + 1 := by rw [← hH1, Array.size_push]
    have e1 : H1[z + h.1]? = some (vp_cell (G 0) (x.1, .inl x.2)) := by rw [← hH1, ← hz, Array.getElem?_push_size]
    have o1 : ∀ q : Nat, q < H.size → H1[q]? = H[q]? := fun q hq => by rw [← hH1, Array.getElem?_push, if_neg (Nat.ne_of_lt hq)]
    have kk := kW H1 locs X hL (hR.mk (n := x.1) (x := .inl (0, x.1, .inl x.2)) e1 (by omega) (fun q hq => o1 q (by omega))) (js_Sm hS (by omega) (fun q hq => o1 q (by omega))) (Nat.le_succ_of_le hk) (Nat.le_trans hn (Nat.le_add_right _ _))
    have e2 : (jx_mk h x.1 (.inl (0, x.1, .inl x.2))).1 - k0 = h.1 - k0 + 1 := by show h.1 + 1 - k0 = _; omega
    have e3 : (jx_mk h x.1 (.inl (0, x.1, .inl x.2))).2.1 - n0 = h.2.1 - n0 + x.1 := by show h.2.1 + x.1 - n0 = _; omega
    have e4 : js_v b z (.ref h.1) = .ref H.size := by
      have := hR.2.1
      show Value.ref (js_a b z h.1) = _
      rw [js_a, if_neg (by omega), hz]
    rw [List.map_cons, e4, e2, e3] at kk
    obtain ⟨t, b1, b2⟩ := kk ((T.setVm vm').pushCell (vp_cell (G 0) (x.1, .inl x.2))) (by rw [← hH1, ← hT]; rfl) X'
    refine ⟨t, st9 t ?_, b2⟩
    rw [hcellE, hT]
    exact b1
end JSI
end
section
/-! ===== what the pure machine does, the machine does: calls, returns, runs ===== -/
theorem js_R.moved {D : va_G} {G : Nat → ClassId} {b z : Nat} {s t : State} {h : jxH} {H : Heap} (hvm : s.vm.Alike t.vm) (hR : js_R D G b z s h H) : js_R D G b z t h H := by
  obtain ⟨r1, r2, r3, r4, r5, L, xs, r6, r7⟩ := hR
  exact ⟨r1, r2, r3, r4, r5, L, xs, r6, r7.moved hvm⟩
theorem js_AOA {t : FieldType} {u U : State} (hvm : u.vm.Alike U.vm) (h : (Cond.arrayOver (.array t)).before #[] u = true) : (Cond.arrayOver (.array t)).before #[] U = true := by
  obtain ⟨comp, c, k, h1, h2, h3, h4, h5⟩ := arrayOverA_spec h
  obtain ⟨k', hk', he⟩ := hvm.2.2 _ _ h3
  have hi : (U.vm.classes.findIdx? fun (x : Class) => match x.kind with | .array component _ => component == comp | _ => false) = some c := by
    have hb : ∀ vm : Vm, (vm.bare.classes.findIdx? fun (x : Class) => match x.kind with | .array component _ => component == comp | _ => false) = (vm.classes.findIdx? fun (x : Class) => match x.kind with | .array component _ => component == comp | _ => false) := fun vm => by
      simp only [Vm.bare, Array.findIdx?_map]
      rfl
    have h2' : (u.vm.classes.findIdx? fun (x : Class) => match x.kind with | .array component _ => component == comp | _ => false) = some c := h2
    rw [← hb] at h2' ⊢
    first | (rw [hvm.bare_eq]; exact h2') | (rw [← hvm.bare_eq]; exact h2')
  have hkind : k'.kind = .array comp (.array t) := by rw [he]; exact h4
  have f1 : U.vm.findClass (FieldType.array t).toString = some comp := by rw [hvm.findClass]; exact h1
  have f2 : U.vm.findClass ("[" ++ (FieldType.array t).toString) = some c := by rw [hvm.findClass]; exact h5
  unfold Cond.before Cond.holds
  simp only [Cond.value]
  rw [f1, Option.bind_some]
  refine (congrArg (fun o : Option Nat => (o.bind (fun c => (U.vm.classes[c]?).map fun (k : Class) => match k.kind with | .array _ ty => decide (ty = FieldType.array t) && decide (U.vm.findClass ("[" ++ (FieldType.array t).toString) = some c) | _ => false) == some true)) hi).trans ?_
  simp [hk', hkind, f2]
theorem js_nl_warm {w : Cond} (hw : w ∈ js_nl) {s U : State} (hW : s.WarmedH U.vm) (h : va_Nw w s) : va_Nw w U := by
  simp only [js_nl, List.mem_cons, List.not_mem_nil, or_false] at hw
  rcases hw with rfl | rfl | rfl | rfl | rfl | rfl | rfl | rfl | rfl | rfl <;> exact va_Nw.warmM hW h
theorem js_nl_tab {w : Cond} (hw : w ∈ js_nl) : w.onTables = true := by
  simp only [js_nl, List.mem_cons, List.not_mem_nil, or_false] at hw
  rcases hw with rfl | rfl | rfl | rfl | rfl | rfl | rfl | rfl | rfl | rfl <;> rfl
theorem js_K.warm {D : va_G} {G : Nat → ClassId} {s U : State} (hW : s.WarmedH U.vm) (h : js_K D G s) : js_K D G U :=
  ⟨va_K.moved hW.alike h.1, fun w hw => js_nl_warm hw hW (h.2.1 w hw), va_Nw.warmC hW h.2.2.1, va_AO.moved hW.alike h.2.2.2.1, va_AO.moved hW.alike h.2.2.2.2.1, js_AOA hW.alike h.2.2.2.2.2⟩
theorem js_K.same {D : va_G} {G : Nat → ClassId} {s U : State} (hv : s.vm = U.vm) (h : js_K D G s) : js_K D G U := by
  have ha : s.vm.Alike U.vm := by rw [hv]; exact Vm.Alike.refl _
  exact ⟨va_K.moved ha h.1, fun w hw => va_Nw.same (js_nl_tab hw) hv (h.2.1 w hw), va_Nw.same rfl hv h.2.2.1, va_AO.moved ha h.2.2.2.1, va_AO.moved ha h.2.2.2.2.1, js_AOA ha h.2.2.2.2.2⟩
theorem js_T_good {w : Cond} (hw : w ∈ js_T) : (w.onTables && w.keeps) = true ∨ ∃ ty, w = .arrayClass ty := good_of_word (List.mem_filter.mp hw).2
/-- a method as the tables have it: name, bytes, locals, what it returns -/
abbrev jsM : Type := MethodName × ByteArray × Nat × Option FieldType
def js_meth (y : jsM) : Prop := plainName y.1.cls = true ∧ Cond.code y.1 y.2.1 y.2.2.1 y.2.2.2 ∈ js_T ∧ Cond.initialized y.1.cls ∈ js_T ∧ y.1.cls ≠ "java/lang/invoke/MethodHandle" ∧ y.1.cls ≠ "java/lang/invoke/VarHandle" ∧ y.2.2.1 ≤ 22
def js_ret (cc : ByteArray) (pc : Nat) (ret : Option FieldType) (r : Nat) : Prop :=
  (r = 0 ∧ ret = none ∧ decode cc pc = .ok (.return_, 1)) ∨ (r = 1 ∧ ret = some .int ∧ decode cc pc = .ok (.ireturn, 1)) ∨ (r = 2 ∧ ret = some .boolean ∧ decode cc pc = .ok (.ireturn, 1)) ∨ (r = 3 ∧ ret = some (.array .int) ∧ decode cc pc = .ok (.areturn, 1))
def js_call (inf : Nat → jsM) (own : String) (cc : ByteArray) (pc y k nx : Nat) (ck : Option Nat) : Prop :=
  nx = pc + 3 ∧ js_meth (inf y) ∧ k ≤ (inf y).2.2.1 ∧ ∃ index : Nat,
    (decode cc pc = .ok (.invokevirtual index, 3) ∧ ∃ (c : Nat) (r : vw_C), ck = some c ∧ vwCl[c]? = some r ∧ (inf y).1.cls = r.1 ∧ (parseMethodDescriptor (inf y).1.desc).map (fun d => d.parameters.length) = some (k - 1) ∧ 1 ≤ k ∧ Cond.methodLink own index (inf y).1 ∈ js_T ∧ Cond.instanceMethod (inf y).1 ∈ js_T ∧ Cond.selects r.1 (inf y).1 (inf y).1 ∈ js_T) ∨
    (decode cc pc = .ok (.invokestatic index, 3) ∧ ck = none ∧ (parseMethodDescriptor (inf y).1.desc).map (fun d => d.parameters.length) = some k ∧ Cond.static (inf y).1 ∈ js_T ∧ (Cond.methodLink own index (inf y).1 ∈ js_T ∨ Cond.methodLinkNest own index (inf y).1 RX11 ∈ js_nl)) ∨
    (decode cc pc = .ok (.invokespecial index, 3) ∧ (inf y).1.name = "<init>" ∧ (inf y).2.2.2 = none ∧ (∃ c : Nat, ck = some c) ∧ (parseMethodDescriptor (inf y).1.desc).map (fun d => d.parameters.length) = some (k - 1) ∧ 1 ≤ k ∧ Cond.instanceMethod (inf y).1 ∈ js_T ∧ (Cond.methodLink own index (inf y).1 ∈ js_T ∨ Cond.methodLinkNest own index (inf y).1 RX11 ∈ js_nl))
def js_I (inf : Nat → jsM) (M pc : Nat) (i : jxI) : Prop := match i with
  | .inl o => js_S (inf M).1.cls (inf M).2.1 (inf M).2.2.1 (decide ((inf M).1.name = "<init>")) pc o
  | .inr (.inl (y, k, nx, ck)) => js_call inf (inf M).1.cls (inf M).2.1 pc y k nx ck
  | .inr (.inr r) => js_ret (inf M).2.1 pc (inf M).2.2.2 r
/-- the program as the tables have it -/
def js_P (P : jxM) (inf : Nat → jsM) : Prop := ∀ M pc i, (P M).2 pc = some i → (inf M).2.2.1 ≤ (P M).1 ∧ js_I inf M pc i
def js_room (d k n : Nat) : Room := { frames := d + 1, cells := k, slots := n, locals := 41 * d + 100 }
/-- what is to be shown of a run -/
def js_ok (P : jxM) (inf : Nat → jsM) (n : Nat) : Prop := ∀ (d M pc : Nat) (ls st : List Value) (h : jxH) (pcf : Nat) (stf : List Value) (hf : jxH), jx_run P n d M pc ls st h = some (pcf, stf, hf) →
  (h.1 ≤ hf.1 ∧ h.2.1 ≤ hf.2.1 ∧ ∃ r, (P M).2 pcf = some (.inr (.inr r)) ∧ jx_okr r stf = true) ∧
  ∀ (p : Program) (l : Launch) (e : Env) (R : Room) (s : State) (m : MethodId) (args : Array Value) (below : List Frame) (meth : Method) (c : Code) (Q : State → Prop) (D : va_G) (G : Nat → ClassId) (b z : Nat) (H0 : Heap) (k0 n0 : Nat), CallFix p m c (inf M).2.1 (inf M).2.2.1 s args js_T (inf M).1.cls → js_K D G s → (decide ((inf M).1.name = "<init>") = true → meth.name = "<init>") → d + 1 ≤ R.frames → 41 * d + 100 ≤ R.locals → hf.1 - k0 ≤ R.cells → hf.2.1 - n0 ≤ R.slots →
    (∀ (H : Heap) (locs : List Loc) (X : Array Slot), js_R D G b z s hf H → va_S (fun q => z < q) H0 H locs → k0 ≤ hf.1 → n0 ≤ hf.2.1 → W p l e R s m args below meth c H locs (hf.1 - k0) (hf.2.1 - n0) Q (F0 m pcf X (stf.map (js_v b z)))) →
    js_W p l e R s m args below meth c Q D G b z H0 k0 n0 (inf M).2.2.1 pc ls st h
def js_Pc (D : va_G) (G : Nat → ClassId) (b z : Nat) (av : List Value) (h : jxH) : Array Value → State → Prop := va_Pc av (fun U => js_R D G b z U h U.heap ∧ js_K D G U)
def js_Qc (D : va_G) (G : Nat → ClassId) (b z : Nat) (stf : List Value) (hf : jxH) : Array Value → State → Outcome → State → Prop := fun _ st oc t => oc = .returned (stf.map (js_v b z)).head? ∧ js_R D G b z t hf t.heap ∧ va_F (fun q => z < q) st t
theorem js_blind {D : va_G} {G : Nat → ClassId} {b z : Nat} {av : List Value} {h : jxH} : FrameBlind (js_Pc D G b z av h) := by
  intro a U g mk ⟨e, hR, hK⟩
  exact ⟨e, js_R.moved (s := U) (t := U.calling g mk a) (Vm.Alike.refl U.vm) hR, js_K.same (s := U) (U := U.calling g mk a) rfl hK⟩
theorem js_okr_len {r : Nat} {st : List Value} (h : jx_okr r st = true) : st.length ≤ 1 := by
  unfold jx_okr at h
  split at h <;> first | (simp; done) | (cases h)
theorem js_okr0 : ∀ {st : List Value}, jx_okr 0 st = true → st = []
  | [], _ => rfl
  | _ :: _, h => by simp [jx_okr] at h
theorem js_okr1 : ∀ {st : List Value}, jx_okr 1 st = true → ∃ x, st = [.int x]
  | [], h => by simp [jx_okr] at h
  | [v], h => by cases v <;> first | exact ⟨_, rfl⟩ | (simp [jx_okr] at h)
  | _ :: _ :: _, h => by simp [jx_okr] at h
theorem js_okr2 : ∀ {st : List Value}, jx_okr 2 st = true → ∃ x, st = [.int x] ∧ (x = 0 ∨ x = 1)
  | [], h => by simp [jx_okr] at h
  | [v], h => by cases v <;> first | exact ⟨_, rfl, by simpa [jx_okr] using h⟩ | (simp [jx_okr] at h)
  | _ :: _ :: _, h => by simp [jx_okr] at h
theorem js_okr3 : ∀ {st : List Value}, jx_okr 3 st = true → ∃ x, st = [.ref x]
  | [], h => by simp [jx_okr] at h
  | [v], h => by cases v <;> first | exact ⟨_, rfl⟩ | (simp [jx_okr] at h)
  | _ :: _ :: _, h => by simp [jx_okr] at h
/-- a method's contract at these arguments and this heap -/
theorem js_met {P : jxM} {inf : Nat → jsM} (hP : js_P P inf) {n : Nat} (ih : js_ok P inf n) {d y N : Nat} {av : List Value} {h : jxH} {pcf : Nat} {stf : List Value} {hf : jxH} (hm : js_meth (inf y)) (hN : (inf y).2.2.1 ≤ N) (hrun : jx_run P n d y 0 (av ++ List.replicate (N - av.length) jx_u) [] h = some (pcf, stf, hf)) (hav : ∀ v ∈ av, jx_c1 v = true) (hlen : av.length ≤ (inf y).2.2.1) (l : Launch) (D : va_G) (G : Nat → ClassId) (b z : Nat) :
    Met l (inf y).1 (Cond.code (inf y).1 (inf y).2.1 (inf y).2.2.1 (inf y).2.2.2 :: js_T) (js_room d (hf.1 - h.1) (hf.2.1 - h.2.1)) (js_Pc D G b z (av.map (js_v b z)) h) (js_Qc D G b z stf hf) (hf.1 - h.1) (hf.2.1 - h.2.1) (fun q => z < q) := by
  obtain ⟨⟨m1, m2, r, hr, hok⟩, body⟩ := ih d y 0 _ _ h pcf stf hf hrun
  refine Met.ofW (cc := (inf y).2.1) (maxL := (inf y).2.2.1) (ret := (inf y).2.2.2) hm.1 rfl ?_
  intro p e s m args below meth c s₁ B hml hv
  obtain ⟨rfl, hR, hK⟩ := hv
  have hts := atoms_spec (ws := Cond.code (inf y).1 (inf y).2.1 (inf y).2.2.1 (inf y).2.2.2 :: js_T) B.pre
  have hlocks := B.notSynchronized
  have S : CallFix p m c (inf y).2.1 (inf y).2.2.1 s (av.map (js_v b z)).toArray js_T (inf y).1.cls := ⟨B.exec, B.bytes, hml, findClass_of_methodNamed B.named, fun w hw => hts w (List.mem_cons_of_mem _ hw)⟩
  have hret : js_ret (inf y).2.1 pcf (inf y).2.2.2 r := (hP y pcf _ hr).2
  have key := body p l e (js_room d (hf.1 - h.1) (hf.2.1 - h.2.1)) s m (av.map (js_v b z)).toArray below meth c (MQ below (js_Qc D G b z stf hf) (av.map (js_v b z)).toArray s (hf.1 - h.1) (hf.2.1 - h.2.1) (fun q => z < q)) D G b z s.heap h.1 h.2.1 S hK (fun q => ((name_of_methodNamed B.named B.method).1).trans (of_decide_eq_true q)) (Nat.le_refl _) (Nat.le_refl _) (Nat.le_refl _) (Nat.le_refl _) (fun H locs X hR' hS' _ _ => by
    have hq : ∀ t : State, t.heap = H → s.WarmedH t.vm → js_R D G b z t hf t.heap ∧ va_F (fun q => z < q) s t := fun t ht hW => ⟨by rw [ht]; exact hR'.moved hW.alike, hS'.F ht⟩
    rcases hret with ⟨rfl, e1, e2⟩ | ⟨rfl, e1, e2⟩ | ⟨rfl, e1, e2⟩ | ⟨rfl, e1, e2⟩
    · have := js_okr0 hok
      subst this
      exact W.vret B.exec B.bytes (B.returns.trans e1) (fun t ht hW => ⟨rfl, hq t ht hW⟩) hS'.2.2 e2
    · obtain ⟨x, rfl⟩ := js_okr1 hok
      exact W.iret B.exec B.bytes (B.returns.trans e1) (fun t ht hW => ⟨rfl, hq t ht hW⟩) hS'.2.2 e2
    · obtain ⟨x, rfl, hx⟩ := js_okr2 hok
      exact W.zret B.exec B.bytes (B.returns.trans e1) (by rcases hx with rfl | rfl <;> rfl) (fun t ht hW => ⟨rfl, hq t ht hW⟩) hS'.2.2 e2
    · obtain ⟨x, rfl⟩ := js_okr3 hok
      exact W.aret B.exec B.bytes (B.returns.trans e1) (Or.inr ⟨_, rfl⟩) (Or.inr ⟨_, rfl⟩) (fun t ht hW => ⟨rfl, hq t ht hW⟩) hS'.2.2 e2)
  have hent := js_entry (b := b) (z := z) (nL := (inf y).2.2.1) hN hav hlen
  have w0 := key s.heap [] _ hent hR va_S.rf (Nat.le_refl _) (Nat.le_refl _)
  rw [Nat.sub_self, Nat.sub_self] at w0
  rw [lg_entry_eq]
  exact w0
section JSC
variable {p : Program} {l : Launch} {e : Env} {R : Room} {s : State} {m : MethodId} {args : Array Value} {below : List Frame} {meth : Method} {c : Code} {H : Heap} {locs : List Loc} {cells slots : Nat} {Q : State → Prop}
theorem js_after {D : va_G} {G : Nat → ClassId} {b z mc ms pc : Nat} {stf : List Value} {hf : jxH} {H0 : Heap} {X : Array Slot} {st0 rest : List Value} {a : Array Value} (hl : stf.length ≤ 1) (hr : va_Run p l e R s m args below meth c H locs cells slots mc ms (F0 m pc X st0) rest (js_Qc D G b z stf hf a) (fun q => z < q)) (hS : va_S (fun q => z < q) H0 H locs)
    (kk : ∀ (H1 : Heap) (locs1 : List Loc), js_R D G b z s hf H1 → va_S (fun q => z < q) H0 H1 locs1 → W p l e R s m args below meth c H1 locs1 (cells + mc) (slots + ms) Q (F0 m (pc + 3) X (stf.map (js_v b z) ++ rest))) : W p l e R s m args below meth c H locs cells slots Q (F0 m pc X st0) := by
  intro T hT XT
  obtain ⟨v, st₀, t, T', L, h0, X', hL, e1, e2, ⟨hv, hR, hz, hk⟩, st⟩ := hr T hT XT
  cases hv
  rw [h0] at hz hk
  have hvl : (stf.map (js_v b z)).head?.toList = stf.map (js_v b z) := by
    match stf, hl with
    | [], _ => rfl
    | [_], _ => rfl
  have hR' : js_R D G b z s hf T'.heap := by
    rw [e1]
    refine hR.moved ?_
    rw [← e2]
    exact X'.warmed.alike.symm
  obtain ⟨t2, a1, b1⟩ := kk T'.heap (locs ++ L) hR' ⟨Nat.le_trans hS.1 (by rw [e1]; exact hz), fun q h1 h2 => by rw [e1, hk q (Nat.lt_of_lt_of_le h1 hS.1) h2]; exact hS.2.1 q h1 h2, fun q hq => by
      rcases List.mem_append.mp hq with h | h
      · exact hS.2.2 q h
      · exact hL q h⟩ T' rfl X'
  rw [← hvl] at a1
  exact ⟨t2, st t2 a1, b1⟩
end JSC
end
section
/-! ===== what the pure machine does, the machine does: every run ===== -/
theorem js_sound {P : jxM} {inf : Nat → jsM} (hP : js_P P inf) : ∀ n, js_ok P inf n
  | 0 => by
    intro d M pc ls st h pcf stf hf hrun
    simp [jx_run] at hrun
  | n + 1 => by
    have ih := js_sound hP n
    intro d M pc ls st h pcf stf hf hrun
    rw [jx_run] at hrun
    cases hc : (P M).2 pc with
    | none => rw [hc] at hrun; cases hrun
    | some i =>
      rw [hc] at hrun
      have hI := (hP M pc _ hc).2
      rcases i with o | ⟨y, k, nx, ck⟩ | q
      · dsimp only at hrun
        cases ho : o ls st h with
        | none => rw [ho] at hrun; cases hrun
        | some x =>
          rw [ho] at hrun
          obtain ⟨pc', ls', st', h'⟩ := x
          dsimp only at hrun
          obtain ⟨⟨m1, m2, r, hr, hok⟩, body⟩ := ih d M pc' ls' st' h' pcf stf hf hrun
          have hS : js_S (inf M).1.cls (inf M).2.1 (inf M).2.2.1 (decide ((inf M).1.name = "<init>")) pc o := hI
          obtain ⟨mo, hS2⟩ := hS
          obtain ⟨q1, q2⟩ := mo _ _ _ _ _ _ _ ho
          refine ⟨⟨Nat.le_trans q1 m1, Nat.le_trans q2 m2, r, hr, hok⟩, fun p l e R s m args below meth c Q D G b z H0 k0 n0 S hK hin hfr hlo hcl hsl kend => ?_⟩
          exact hS2 p l e R s m args below meth c Q D G b z H0 k0 n0 S hK hin (by omega) (by omega) ls st h pc' ls' st' h' ho (by omega) (by omega) (body p l e R s m args below meth c Q D G b z H0 k0 n0 S hK hin hfr hlo hcl hsl kend)
      · dsimp only at hrun
        cases d with
        | zero => cases hrun
        | succ d' =>
          dsimp only at hrun
          by_cases hk : jx_okc k ck st h = true
          · rw [if_pos hk] at hrun
            cases hr : jx_run P n d' y 0 (jx_ent (P y).1 k st) [] h with
            | none => rw [hr] at hrun; cases hrun
            | some x =>
              rw [hr] at hrun
              obtain ⟨p1, s1, h1⟩ := x
              dsimp only at hrun
              obtain ⟨⟨c1, c2, rc, hrc, hokc⟩, -⟩ := ih d' y 0 _ _ h p1 s1 h1 hr
              obtain ⟨⟨m1, m2, r, hrr, hok⟩, body⟩ := ih (d' + 1) M nx ls _ h1 pcf stf hf hrun
              refine ⟨⟨Nat.le_trans c1 m1, Nat.le_trans c2 m2, r, hrr, hok⟩, fun p l e R s m args below meth c Q D G b z H0 k0 n0 S hK hin hfr hlo hcl hsl kend => ?_⟩
              have hW := body p l e R s m args below meth c Q D G b z H0 k0 n0 S hK hin hfr hlo hcl hsl kend
              obtain ⟨rfl, hm, hkL, index, hkind⟩ := (hI : js_call inf (inf M).1.cls (inf M).2.1 pc y k nx ck)
              intro H locs X hL hR hS hk0 hn0
              have hPy : (inf y).2.2.1 ≤ (P y).1 := (hP y p1 _ hrc).1
              unfold jx_okc at hk
              rw [Bool.and_eq_true, Bool.and_eq_true, Bool.and_eq_true, decide_eq_true_eq, decide_eq_true_eq] at hk
              obtain ⟨⟨⟨hk1, hk2⟩, hk3⟩, hk4⟩ := hk
              have hav : ∀ v ∈ (st.take k).reverse, jx_c1 v = true := fun v hv => List.all_eq_true.mp hk2 v (List.mem_reverse.mp hv)
              have hal : ((st.take k).reverse).length = k := by rw [List.length_reverse, List.length_take]; omega
              have hr' : jx_run P n d' y 0 ((st.take k).reverse ++ List.replicate ((P y).1 - ((st.take k).reverse).length) jx_u) [] h = some (p1, s1, h1) := by
                rw [hal]
                exact hr
              have hMet := js_met hP ih hm hPy hr' hav (by rw [hal]; exact hkL) l D G b z
              have hG : GoodIn js_T (Cond.code (inf y).1 (inf y).2.1 (inf y).2.2.1 (inf y).2.2.2 :: js_T) := by
                intro w hw
                rcases List.mem_cons.mp hw with rfl | hw
                · exact ⟨hm.2.1, Or.inl rfl⟩
                · exact ⟨hw, js_T_good hw⟩
              have hts := S.2.2.2.2
              have hini : (Cond.initialized (inf y).1.cls).before args s = true := hts _ hm.2.2.1
              have hroom : (js_room d' (h1.1 - h.1) (h1.2.1 - h.2.1)).frames + 1 ≤ R.frames ∧ 8 + ((inf y).2.2.1 + 11) + (js_room d' (h1.1 - h.1) (h1.2.1 - h.2.1)).locals ≤ R.locals := by
                have := hm.2.2.2.2.2
                exact ⟨hfr, by show 8 + ((inf y).2.2.1 + 11) + (41 * d' + 100) ≤ _; omega⟩
              have hfit : h.1 - k0 + (h1.1 - h.1) ≤ R.cells ∧ h.2.1 - n0 + (h1.2.1 - h.2.1) ≤ R.slots := ⟨by omega, by omega⟩
              have hcs := js_csum ((st.drop k).map (js_v b z))
              rw [List.length_map] at hcs
              have hwid : 2 * (F0 m pc X (st.map (js_v b z))).monitorRoom + (((st.drop k).map (js_v b z)).map fun v => v.category).sum ≤ 8 := by
                show 2 * 0 + _ ≤ 8
                omega
              have hpre : ∀ U : State, U.heap = H → s.WarmedH U.vm → js_Pc D G b z (((st.take k).reverse).map (js_v b z)) h (((st.take k).reverse).map (js_v b z)).toArray U := fun U hU hWm => ⟨rfl, by rw [hU]; exact hR.moved hWm.alike, hK.warm hWm⟩
              have hsplit : st.map (js_v b z) = (st.take k).map (js_v b z) ++ (st.drop k).map (js_v b z) := by rw [← List.map_append, List.take_append_drop]
              have fin : ∀ {a : Array Value}, va_Run p l e R s m args below meth c H locs (h.1 - k0) (h.2.1 - n0) (h1.1 - h.1) (h1.2.1 - h.2.1) (F0 m pc X (st.map (js_v b z))) ((st.drop k).map (js_v b z)) (js_Qc D G b z s1 h1 a) (fun q => z < q) → W p l e R s m args below meth c H locs (h.1 - k0) (h.2.1 - n0) Q (F0 m pc X (st.map (js_v b z))) := by
                intro a hrun2
                refine js_after (js_okr_len hokc) hrun2 hS (fun H1 locs1 hR1 hS1 => ?_)
                have w1 := hW H1 locs1 X hL hR1 hS1 (by omega) (by omega)
                rw [List.map_append] at w1
                have e1 : h.1 - k0 + (h1.1 - h.1) = h1.1 - k0 := by omega
                have e2 : h.2.1 - n0 + (h1.2.1 - h.2.1) = h1.2.1 - n0 := by omega
                rw [e1, e2]
                exact w1
              have hrev : (((st.take k).reverse).map (js_v b z)).reverse = (st.take k).map (js_v b z) := by rw [← List.map_reverse, List.reverse_reverse]
              rcases hkind with ⟨hd, cn, r0, rfl, hcr, hcls, hpar, hk5, hl1, hl2, hl3⟩ | ⟨hd, rfl, hpar, hst, hl1⟩ | ⟨hd, hnm, hret, ⟨cn, rfl⟩, hpar, hk5, hl2, hl1⟩
              · -- a virtual call
                dsimp only at hk4
                split at hk4
                · next a hga =>
                  have hcl2 : jx_cl h a = some cn := by simpa using hk4
                  obtain ⟨fs, hfs⟩ := jx_cl_inv hcl2
                  obtain ⟨i1, i2, i3, i4⟩ := hR.in hfs (fun _ _ q => by cases q) (fun _ _ q => by cases q)
                  obtain ⟨pre, hpre2⟩ : ∃ pre, st.take k = pre ++ [.ref a] := by
                    obtain ⟨ys, hys⟩ := List.getLast?_eq_some_iff.mp hga
                    exact ⟨ys, hys⟩
                  have hrv : ((st.take k).reverse).map (js_v b z) = .ref (z + a) :: (pre.reverse).map (js_v b z) := by
                    rw [hpre2, List.reverse_append]
                    show (Value.ref a :: pre.reverse).map (js_v b z) = _
                    rw [List.map_cons]
                    show Value.ref (js_a b z a) :: _ = _
                    rw [i4]
                  have hplen : ((pre.reverse).map (js_v b z)).length = k - 1 := by
                    have := congrArg List.length hpre2
                    rw [List.length_take, List.length_append] at this
                    simp only [List.length_map, List.length_reverse, List.length_singleton] at this ⊢
                    omega
                  rw [hrv] at hMet hpre
                  refine fin (va_runV (b := z + a) (As := (pre.reverse).map (js_v b z)) (C := r0.1) S hMet ⟨callB_of (k - 1) hts hG rfl rfl rfl hini (hts _ hl1) ⟨hm.2.2.2.1, hm.2.2.2.2.1, hpar⟩ hroom, hts _ hl2, hts _ hl3⟩ ⟨js_blind, va_recv hK.1 (js_P1 i3) hcr (q0 := 0) rfl, hpre⟩ rfl hplen hL.1 ?_ hwid hd hfit)
                  show st.map (js_v b z) = _
                  rw [hsplit, hpre2, List.map_append]
                  rw [← List.map_reverse, List.reverse_reverse, List.append_assoc]
                  show _ ++ (Value.ref (js_a b z a) :: _) = _
                  rw [i4]
                  rfl
                · cases hk4
              · -- a static call
                have hstk : (F0 m pc X (st.map (js_v b z))).stack = (((st.take k).reverse).map (js_v b z)).reverse ++ (st.drop k).map (js_v b z) := by
                  show st.map (js_v b z) = _
                  rw [hrev, hsplit]
                rcases hl1 with hl1 | hl1
                · exact fin (va_runS (As := ((st.take k).reverse).map (js_v b z)) S hMet ⟨callB_of k hts hG rfl rfl rfl hini (hts _ hl1) ⟨hm.2.2.2.1, hm.2.2.2.2.1, hpar⟩ hroom, hts _ hst⟩ ⟨js_blind, hpre⟩ rfl (by rw [List.length_map]; exact hal) hL.1 hstk hwid hd hfit)
                · exact fin (va_runSN (As := ((st.take k).reverse).map (js_v b z)) S hMet ⟨va_cnB k hts hG rfl rfl rfl (hK.2.1 _ hl1) hini ⟨hm.2.2.2.1, hm.2.2.2.2.1, hpar⟩ hroom, hts _ hst, trivial⟩ ⟨js_blind, hpre⟩ rfl (by rw [List.length_map]; exact hal) hL.1 hstk hwid hd hfit)
              · -- a constructor
                dsimp only at hk4
                split at hk4
                · next a hga =>
                  obtain ⟨pre, hpre2⟩ : ∃ pre, st.take k = pre ++ [.ref a] := by
                    obtain ⟨ys, hys⟩ := List.getLast?_eq_some_iff.mp hga
                    exact ⟨ys, hys⟩
                  have hrv : ((st.take k).reverse).map (js_v b z) = .ref (js_a b z a) :: (pre.reverse).map (js_v b z) := by
                    rw [hpre2, List.reverse_append]
                    rfl
                  have hplen : ((pre.reverse).map (js_v b z)).length = k - 1 := by
                    have := congrArg List.length hpre2
                    rw [List.length_take, List.length_append] at this
                    simp only [List.length_map, List.length_reverse, List.length_singleton] at this ⊢
                    omega
                  rw [hrv] at hMet hpre
                  rw [hret] at hMet hG
                  have hstk : (F0 m pc X (st.map (js_v b z))).stack = ((pre.reverse).map (js_v b z)).reverse ++ .ref (js_a b z a) :: (st.drop k).map (js_v b z) := by
                    show st.map (js_v b z) = _
                    rw [hsplit, hpre2, List.map_append]
                    rw [← List.map_reverse, List.reverse_reverse, List.append_assoc]
                    rfl
                  rcases hl1 with hl1 | hl1
                  · exact fin (va_runI (b := js_a b z a) (As := (pre.reverse).map (js_v b z)) S hMet ⟨callB_of (k - 1) hts hG rfl rfl rfl hini (hts _ hl1) ⟨hm.2.2.2.1, hm.2.2.2.2.1, hpar⟩ hroom, hnm, hts _ hl2⟩ ⟨js_blind, hpre⟩ rfl hplen hL.1 hstk hwid hd hfit)
                  · exact fin (va_runIN (b := js_a b z a) (As := (pre.reverse).map (js_v b z)) S hMet ⟨va_cnB (k - 1) hts hG rfl rfl rfl (hK.2.1 _ hl1) hini ⟨hm.2.2.2.1, hm.2.2.2.2.1, hpar⟩ hroom, hnm, hts _ hl2⟩ ⟨js_blind, hpre⟩ rfl hplen hL.1 hstk hwid hd hfit)
                · cases hk4
          · rw [if_neg hk] at hrun
            cases hrun
      · dsimp only at hrun
        by_cases hq : jx_okr q st = true
        · rw [if_pos hq] at hrun
          cases hrun
          refine ⟨⟨Nat.le_refl _, Nat.le_refl _, q, hc, hq⟩, fun p l e R s m args below meth c Q D G b z H0 k0 n0 S hK hin hfr hlo hcl hsl kend => ?_⟩
          intro H locs X hL hR hS hk hn
          exact kend H locs X hR hS hk hn
        · rw [if_neg hq] at hrun
          cases hrun
end
section
/-! ===== Math.max, min, abs as steps ===== -/
def jo_m2 (n : Nat) (f : Int32 → Int32 → Int32) : jxO := fun ls st h => match st with
  | .int y :: .int x :: r => if r.length ≤ 4 then some (n, ls, .int (f x y) :: r, h) else none
  | _ => none
def jo_m1 (n : Nat) (f : Int32 → Int32) : jxO := fun ls st h => match st with
  | .int x :: r => if r.length ≤ 4 then some (n, ls, .int (f x) :: r, h) else none
  | _ => none
section JSM
variable {own : String} {cc : ByteArray} {nL pc : Nat} {ini : Bool}
theorem js_mmax {index : Nat} (hd : decode cc pc = .ok (.invokestatic index, 3)) (hl : Cond.methodLink own index Lib.Math.max.name ∈ js_T) (hs : Cond.static Lib.Math.max.name ∈ js_T) (hi : Cond.initialized "java/lang/Math" ∈ js_T) (hc : Cond.code Lib.Math.max.name Lib.Math.max.code 2 (some .int) ∈ js_T) : js_S own cc nL ini pc (jo_m2 (pc + 3) (fun x y => if x < y then y else x)) := by
  refine ⟨fun ls st h pc' ls' st' h' e1 => ?_, fun p l e R s m args below meth c' Q D G b z H0 k0 n0 S hK hini hf hlo ls st h pc' ls' st' h' e1 hcl hsl kW H locs X hL hR hS hk hn => ?_⟩ <;> unfold jo_m2 at e1 <;> split at e1 <;> (try (cases e1; done)) <;> split at e1 <;> (try (cases e1; done))
  · cases e1
    exact ⟨Nat.le_refl _, Nat.le_refl _⟩
  · next y x rest hr =>
    cases e1
    have kk := kW H locs X hL hR hS hk hn
    have hts := S.2.2.2.2
    have hcs := js_csum (rest.map (js_v b z))
    rw [List.length_map] at hcs
    exact va_mmax S.1 S.2.1 (S.2.2.1.trans hL.1.symm) S.2.2.2.1 (hts _ hl) (hts _ hs) (hts _ hi) (hts _ hc) hf (by omega) hcl hsl hd kk
theorem js_mmin {index : Nat} (hd : decode cc pc = .ok (.invokestatic index, 3)) (hl : Cond.methodLink own index Lib.Math.min.name ∈ js_T) (hs : Cond.static Lib.Math.min.name ∈ js_T) (hi : Cond.initialized "java/lang/Math" ∈ js_T) (hc : Cond.code Lib.Math.min.name Lib.Math.min.code 2 (some .int) ∈ js_T) : js_S own cc nL ini pc (jo_m2 (pc + 3) (fun x y => if y < x then y else x)) := by
  refine ⟨fun ls st h pc' ls' st' h' e1 => ?_, fun p l e R s m args below meth c' Q D G b z H0 k0 n0 S hK hini hf hlo ls st h pc' ls' st' h' e1 hcl hsl kW H locs X hL hR hS hk hn => ?_⟩ <;> unfold jo_m2 at e1 <;> split at e1 <;> (try (cases e1; done)) <;> split at e1 <;> (try (cases e1; done))
  · cases e1
    exact ⟨Nat.le_refl _, Nat.le_refl _⟩
  · next y x rest hr =>
    cases e1
    have kk := kW H locs X hL hR hS hk hn
    have hts := S.2.2.2.2
    have hcs := js_csum (rest.map (js_v b z))
    rw [List.length_map] at hcs
    exact va_mmin S.1 S.2.1 (S.2.2.1.trans hL.1.symm) S.2.2.2.1 (hts _ hl) (hts _ hs) (hts _ hi) (hts _ hc) hf (by omega) hcl hsl hd kk
theorem js_mabs {index : Nat} (hd : decode cc pc = .ok (.invokestatic index, 3)) (hl : Cond.methodLink own index Lib.Math.abs.name ∈ js_T) (hs : Cond.static Lib.Math.abs.name ∈ js_T) (hi : Cond.initialized "java/lang/Math" ∈ js_T) (hc : Cond.code Lib.Math.abs.name Lib.Math.abs.code 1 (some .int) ∈ js_T) : js_S own cc nL ini pc (jo_m1 (pc + 3) (fun x => if 0 ≤ x then x else 0 - x)) := by
  refine ⟨fun ls st h pc' ls' st' h' e1 => ?_, fun p l e R s m args below meth c' Q D G b z H0 k0 n0 S hK hini hf hlo ls st h pc' ls' st' h' e1 hcl hsl kW H locs X hL hR hS hk hn => ?_⟩ <;> unfold jo_m1 at e1 <;> split at e1 <;> (try (cases e1; done)) <;> split at e1 <;> (try (cases e1; done))
  · cases e1
    exact ⟨Nat.le_refl _, Nat.le_refl _⟩
  · next x rest hr =>
    cases e1
    have kk := kW H locs X hL hR hS hk hn
    have hts := S.2.2.2.2
    have hcs := js_csum (rest.map (js_v b z))
    rw [List.length_map] at hcs
    exact va_mabs S.1 S.2.1 (S.2.2.1.trans hL.1.symm) S.2.2.2.1 (hts _ hl) (hts _ hs) (hts _ hi) (hts _ hc) hf (by omega) hcl hsl hd kk
end JSM
section JGM
variable {P : jxM} {d M pc n : Nat} {ls st : List Value} {h : jxH} {Q : List Value → jxH → Prop} {x y : Int32}
theorem jg_m2 {f : Int32 → Int32 → Int32} (hc : (P M).2 pc = some (.inl (jo_m2 n f))) : jx_Go P d M pc ls (.int y :: .int x :: st) h Q ↔ (st.length ≤ 4 ∧ jx_Go P d M n ls (.int (f x y) :: st) h Q) := by
  by_cases hy : st.length ≤ 4
  · rw [jx_op (pc' := n) (ls' := ls) (st' := .int (f x y) :: st) (h' := h) hc (by simp only [jo_m2, if_pos hy])]; simp [hy]
  · rw [jx_opN hc (by simp only [jo_m2, if_neg hy])]; simp [hy]
theorem jg_m1 {f : Int32 → Int32} (hc : (P M).2 pc = some (.inl (jo_m1 n f))) : jx_Go P d M pc ls (.int x :: st) h Q ↔ (st.length ≤ 4 ∧ jx_Go P d M n ls (.int (f x) :: st) h Q) := by
  by_cases hy : st.length ≤ 4
  · rw [jx_op (pc' := n) (ls' := ls) (st' := .int (f x) :: st) (h' := h) hc (by simp only [jo_m1, if_pos hy])]; simp [hy]
  · rw [jx_opN hc (by simp only [jo_m1, if_neg hy])]; simp [hy]
end JGM
end
section
/-! ===== the code of every method ===== -/
def jt_n {α : Type} (k : Nat) (a b : Nat → α) : Nat → α := fun i => cond (Nat.ble k i) (b i) (a i)
def jt_l (k : Nat) (x : jxI) : Nat → Option jxI := fun i => cond (Nat.beq i k) (some x) none
def jt_c {α : Type} (x : α) : Nat → α := fun _ => x
/-- TalkBench$Blocks.<init>(LTalkBench$Marks;LTalkBench$Partings;)V -/
def jc_0 : Nat → Option jxI := (jt_n 22 (jt_n 10 (jt_n 4 (jt_n 1 (jt_l 0 (.inl (jo_al 1 0))) (jt_l 1 (.inl (jo_oi 4)))) (jt_n 5 (jt_l 4 (.inl (jo_al 5 0))) (jt_n 8 (jt_l 5 (.inl (jo_c 8 (nI 1024)))) (jt_l 8 (.inl (jo_ni 10)))))) (jt_n 14 (jt_n 13 (jt_l 10 (.inl (jo_pf 13 0 2 2))) (jt_l 13 (.inl (jo_al 14 0)))) (jt_n 17 (jt_l 14 (.inl (jo_c 17 (nI 1024)))) (jt_n 19 (jt_l 17 (.inl (jo_ni 19))) (jt_l 19 (.inl (jo_pf 22 0 3 2))))))) (jt_n 31 (jt_n 25 (jt_n 23 (jt_l 22 (.inl (jo_al 23 0))) (jt_l 23 (.inl (jo_c 25 (nI 32))))) (jt_n 27 (jt_l 25 (.inl (jo_ni 27))) (jt_n 30 (jt_l 27 (.inl (jo_pf 30 0 4 2))) (jt_l 30 (.inl (jo_al 31 0)))))) (jt_n 36 (jt_n 32 (jt_l 31 (.inl (jo_al 32 1))) (jt_n 35 (jt_l 32 (.inl (jo_pf 35 0 0 2))) (jt_l 35 (.inl (jo_al 36 0))))) (jt_n 37 (jt_l 36 (.inl (jo_al 37 2))) (jt_n 40 (jt_l 37 (.inl (jo_pf 40 0 1 2))) (jt_l 40 (.inr (.inr 0))))))))
/-- TalkBench$Blocks.forget()V -/
def jc_1 : Nat → Option jxI := (jt_n 2 (jt_n 1 (jt_l 0 (.inl (jo_al 1 0))) (jt_l 1 (.inl (jo_c 2 (nI 0))))) (jt_n 5 (jt_l 2 (.inl (jo_pf 5 0 5 1))) (jt_l 5 (.inr (.inr 0)))))
/-- TalkBench$Blocks.leastBits(II)I -/
def jc_2 : Nat → Option jxI := (jt_n 8 (jt_n 4 (jt_n 1 (jt_l 0 (.inl (jo_al 1 0))) (jt_l 1 (.inr (.inl (4, 1, 4, some 0))))) (jt_n 5 (jt_l 4 (.inl (jo_al 5 0))) (jt_l 5 (.inl (jo_gf 8 0 2))))) (jt_n 10 (jt_n 9 (jt_l 8 (.inl (jo_il 9 1))) (jt_l 9 (.inl (jo_il 10 2)))) (jt_n 13 (jt_l 10 (.inr (.inl (128, 2, 13, none)))) (jt_n 14 (jt_l 13 (.inl (jo_ia 14))) (jt_l 14 (.inr (.inr 1)))))))
/-- TalkBench$Blocks.fewestEnds(II)I -/
def jc_3 : Nat → Option jxI := (jt_n 8 (jt_n 4 (jt_n 1 (jt_l 0 (.inl (jo_al 1 0))) (jt_l 1 (.inr (.inl (4, 1, 4, some 0))))) (jt_n 5 (jt_l 4 (.inl (jo_al 5 0))) (jt_l 5 (.inl (jo_gf 8 0 3))))) (jt_n 10 (jt_n 9 (jt_l 8 (.inl (jo_il 9 1))) (jt_l 9 (.inl (jo_il 10 2)))) (jt_n 13 (jt_l 10 (.inr (.inl (128, 2, 13, none)))) (jt_n 14 (jt_l 13 (.inl (jo_ia 14))) (jt_l 14 (.inr (.inr 1)))))))
/-- TalkBench$Blocks.learn()V -/
def jc_4 : Nat → Option jxI := (jt_n 25 (jt_n 11 (jt_n 7 (jt_n 1 (jt_l 0 (.inl (jo_al 1 0))) (jt_n 4 (jt_l 1 (.inl (jo_gf 4 0 5))) (jt_l 4 (.inl (jo_if 7 8 (fun x => decide (x = 0))))))) (jt_n 9 (jt_n 8 (jt_l 7 (.inr (.inr 0))) (jt_l 8 (.inl (jo_c 9 (nI 1))))) (jt_n 10 (jt_l 9 (.inl (jo_is 10 3 1))) (jt_l 10 (.inl (jo_il 11 1)))))) (jt_n 21 (jt_n 15 (jt_n 12 (jt_l 11 (.inl (jo_al 12 0))) (jt_l 12 (.inl (jo_gf 15 0 0)))) (jt_n 18 (jt_l 15 (.inl (jo_gf 18 4 0))) (jt_l 18 (.inl (jo_ic 21 52 (fun x y => decide (y < x))))))) (jt_n 23 (jt_n 22 (jt_l 21 (.inl (jo_c 22 (nI 1)))) (jt_l 22 (.inl (jo_is 23 3 2)))) (jt_n 24 (jt_l 23 (.inl (jo_il 24 2))) (jt_l 24 (.inl (jo_al 25 0))))))) (jt_n 40 (jt_n 34 (jt_n 28 (jt_l 25 (.inl (jo_gf 28 0 0))) (jt_n 31 (jt_l 28 (.inl (jo_gf 31 4 1))) (jt_l 31 (.inl (jo_ic 34 46 (fun x y => decide (y < x))))))) (jt_n 36 (jt_n 35 (jt_l 34 (.inl (jo_al 35 0))) (jt_l 35 (.inl (jo_il 36 1)))) (jt_n 37 (jt_l 36 (.inl (jo_il 37 2))) (jt_l 37 (.inr (.inl (5, 3, 40, some 0))))))) (jt_n 52 (jt_n 46 (jt_n 43 (jt_l 40 (.inl (jo_inc 43 3 2 (nI 1)))) (jt_l 43 (.inl (jo_go 23)))) (jt_n 49 (jt_l 46 (.inl (jo_inc 49 3 1 (nI 1)))) (jt_l 49 (.inl (jo_go 10))))) (jt_n 54 (jt_n 53 (jt_l 52 (.inl (jo_al 53 0))) (jt_l 53 (.inl (jo_c 54 (nI 1))))) (jt_n 57 (jt_l 54 (.inl (jo_pf 57 0 5 1))) (jt_l 57 (.inr (.inr 0))))))))
/-- TalkBench$Blocks.learnBlock(II)V -/
def jc_5 : Nat → Option jxI := (jt_n 33 (jt_n 18 (jt_n 7 (jt_n 2 (jt_n 1 (jt_l 0 (.inl (jo_il 1 1))) (jt_l 1 (.inl (jo_il 2 2)))) (jt_n 5 (jt_l 2 (.inr (.inl (128, 2, 5, none)))) (jt_n 6 (jt_l 5 (.inl (jo_is 6 4 3))) (jt_l 6 (.inl (jo_al 7 0)))))) (jt_n 11 (jt_n 10 (jt_l 7 (.inl (jo_gf 10 0 0))) (jt_l 10 (.inl (jo_il 11 1)))) (jt_n 12 (jt_l 11 (.inl (jo_il 12 2))) (jt_n 15 (jt_l 12 (.inr (.inl (31, 3, 15, some 4)))) (jt_l 15 (.inl (jo_if 18 33 (fun x => decide (x = 0))))))))) (jt_n 25 (jt_n 22 (jt_n 19 (jt_l 18 (.inl (jo_al 19 0))) (jt_l 19 (.inl (jo_gf 22 0 2)))) (jt_n 23 (jt_l 22 (.inl (jo_il 23 3))) (jt_n 24 (jt_l 23 (.inl (jo_c 24 (nI 0)))) (jt_l 24 (.inl (jo_iw 25)))))) (jt_n 30 (jt_n 26 (jt_l 25 (.inl (jo_al 26 0))) (jt_n 29 (jt_l 26 (.inl (jo_gf 29 0 3))) (jt_l 29 (.inl (jo_il 30 3))))) (jt_n 31 (jt_l 30 (.inl (jo_c 31 (nI 1)))) (jt_n 32 (jt_l 31 (.inl (jo_iw 32))) (jt_l 32 (.inr (.inr 0)))))))) (jt_n 51 (jt_n 42 (jt_n 37 (jt_n 34 (jt_l 33 (.inl (jo_al 34 0))) (jt_l 34 (.inl (jo_gf 37 0 2)))) (jt_n 38 (jt_l 37 (.inl (jo_il 38 3))) (jt_n 41 (jt_l 38 (.inl (jo_c 41 (nI 1000)))) (jt_l 41 (.inl (jo_iw 42)))))) (jt_n 46 (jt_n 43 (jt_l 42 (.inl (jo_al 43 0))) (jt_l 43 (.inl (jo_gf 46 0 3)))) (jt_n 47 (jt_l 46 (.inl (jo_il 47 3))) (jt_n 50 (jt_l 47 (.inl (jo_c 50 (nI 1000)))) (jt_l 50 (.inl (jo_iw 51))))))) (jt_n 59 (jt_n 53 (jt_n 52 (jt_l 51 (.inl (jo_al 52 0))) (jt_l 52 (.inl (jo_il 53 3)))) (jt_n 54 (jt_l 53 (.inl (jo_il 54 1))) (jt_n 56 (jt_l 54 (.inl (jo_c 56 (nI 32)))) (jt_l 56 (.inr (.inl (6, 4, 59, some 0))))))) (jt_n 62 (jt_n 60 (jt_l 59 (.inl (jo_al 60 0))) (jt_n 61 (jt_l 60 (.inl (jo_il 61 3))) (jt_l 61 (.inl (jo_il 62 2))))) (jt_n 63 (jt_l 62 (.inl (jo_c 63 (nI 1)))) (jt_n 66 (jt_l 63 (.inr (.inl (6, 4, 66, some 0)))) (jt_l 66 (.inr (.inr 0)))))))))
/-- TalkBench$Blocks.tryPartings(III)V -/
def jc_6 : Nat → Option jxI := (jt_n 72 (jt_n 37 (jt_n 16 (jt_n 8 (jt_n 4 (jt_n 1 (jt_l 0 (.inl (jo_al 1 0))) (jt_l 1 (.inl (jo_gf 4 0 2)))) (jt_n 5 (jt_l 4 (.inl (jo_il 5 1))) (jt_n 6 (jt_l 5 (.inl (jo_ia 6))) (jt_l 6 (.inl (jo_is 8 9 4)))))) (jt_n 12 (jt_n 9 (jt_l 8 (.inl (jo_al 9 0))) (jt_l 9 (.inl (jo_gf 12 0 3)))) (jt_n 13 (jt_l 12 (.inl (jo_il 13 1))) (jt_n 14 (jt_l 13 (.inl (jo_ia 14))) (jt_l 14 (.inl (jo_is 16 9 5))))))) (jt_n 25 (jt_n 20 (jt_n 17 (jt_l 16 (.inl (jo_al 17 0))) (jt_l 17 (.inl (jo_gf 20 0 1)))) (jt_n 23 (jt_l 20 (.inl (jo_gf 23 5 0))) (jt_n 24 (jt_l 23 (.inl (jo_il 24 2))) (jt_l 24 (.inl (jo_ia 25)))))) (jt_n 30 (jt_n 27 (jt_l 25 (.inl (jo_is 27 9 6))) (jt_n 29 (jt_l 27 (.inl (jo_il 29 6))) (jt_l 29 (.inl (jo_al 30 0))))) (jt_n 33 (jt_l 30 (.inl (jo_gf 33 0 1))) (jt_n 36 (jt_l 33 (.inl (jo_gf 36 5 0))) (jt_l 36 (.inl (jo_il 37 2)))))))) (jt_n 55 (jt_n 44 (jt_n 39 (jt_n 38 (jt_l 37 (.inl (jo_c 38 (nI 1)))) (jt_l 38 (.inl (jo_b 39 (fun x y => x + y))))) (jt_n 40 (jt_l 39 (.inl (jo_ia 40))) (jt_n 43 (jt_l 40 (.inl (jo_ic 43 131 (fun x y => decide (y ≤ x))))) (jt_l 43 (.inl (jo_il 44 1)))))) (jt_n 51 (jt_n 45 (jt_l 44 (.inl (jo_al 45 0))) (jt_n 48 (jt_l 45 (.inl (jo_gf 48 0 1))) (jt_l 48 (.inl (jo_gf 51 5 1))))) (jt_n 53 (jt_l 51 (.inl (jo_il 53 6))) (jt_n 54 (jt_l 53 (.inl (jo_ia 54))) (jt_l 54 (.inl (jo_il 55 3))))))) (jt_n 61 (jt_n 57 (jt_n 56 (jt_l 55 (.inl (jo_b 56 (fun x y => x * y)))) (jt_l 56 (.inl (jo_b 57 (fun x y => x - y))))) (jt_n 59 (jt_l 57 (.inl (jo_is 59 9 7))) (jt_n 60 (jt_l 59 (.inl (jo_il 60 1))) (jt_l 60 (.inl (jo_il 61 2)))))) (jt_n 68 (jt_n 62 (jt_l 61 (.inl (jo_al 62 0))) (jt_n 65 (jt_l 62 (.inl (jo_gf 65 0 1))) (jt_l 65 (.inl (jo_gf 68 5 1))))) (jt_n 70 (jt_l 68 (.inl (jo_il 70 6))) (jt_n 71 (jt_l 70 (.inl (jo_ia 71))) (jt_l 71 (.inl (jo_b 72 (fun x y => x - y)))))))))) (jt_n 109 (jt_n 87 (jt_n 79 (jt_n 74 (jt_n 73 (jt_l 72 (.inl (jo_il 73 3))) (jt_l 73 (.inl (jo_b 74 (fun x y => x * y))))) (jt_n 75 (jt_l 74 (.inl (jo_b 75 (fun x y => x - y)))) (jt_n 77 (jt_l 75 (.inl (jo_is 77 9 8))) (jt_l 77 (.inl (jo_il 79 4)))))) (jt_n 81 (jt_n 80 (jt_l 79 (.inl (jo_c 80 (nI 1)))) (jt_l 80 (.inl (jo_al 81 0)))) (jt_n 84 (jt_l 81 (.inl (jo_gf 84 0 2))) (jt_n 86 (jt_l 84 (.inl (jo_il 86 7))) (jt_l 86 (.inl (jo_ia 87))))))) (jt_n 97 (jt_n 91 (jt_n 88 (jt_l 87 (.inl (jo_al 88 0))) (jt_l 88 (.inl (jo_gf 91 0 2)))) (jt_n 93 (jt_l 91 (.inl (jo_il 93 8))) (jt_n 94 (jt_l 93 (.inl (jo_ia 94))) (jt_l 94 (.inl (jo_m2 97 (fun x y => if x < y then y else x))))))) (jt_n 103 (jt_n 98 (jt_l 97 (.inl (jo_b 98 (fun x y => x + y)))) (jt_n 101 (jt_l 98 (.inl (jo_m2 101 (fun x y => if y < x then y else x)))) (jt_l 101 (.inl (jo_is 103 9 4))))) (jt_n 105 (jt_l 103 (.inl (jo_il 105 5))) (jt_n 106 (jt_l 105 (.inl (jo_al 106 0))) (jt_l 106 (.inl (jo_gf 109 0 3)))))))) (jt_n 131 (jt_n 118 (jt_n 112 (jt_n 111 (jt_l 109 (.inl (jo_il 111 7))) (jt_l 111 (.inl (jo_ia 112)))) (jt_n 113 (jt_l 112 (.inl (jo_al 113 0))) (jt_n 116 (jt_l 113 (.inl (jo_gf 116 0 3))) (jt_l 116 (.inl (jo_il 118 8)))))) (jt_n 123 (jt_n 119 (jt_l 118 (.inl (jo_ia 119))) (jt_n 120 (jt_l 119 (.inl (jo_b 120 (fun x y => x + y)))) (jt_l 120 (.inl (jo_m2 123 (fun x y => if y < x then y else x)))))) (jt_n 125 (jt_l 123 (.inl (jo_is 125 9 5))) (jt_n 128 (jt_l 125 (.inl (jo_inc 128 9 6 (nI 1)))) (jt_l 128 (.inl (jo_go 27))))))) (jt_n 139 (jt_n 135 (jt_n 132 (jt_l 131 (.inl (jo_al 132 0))) (jt_l 132 (.inl (jo_gf 135 0 2)))) (jt_n 136 (jt_l 135 (.inl (jo_il 136 1))) (jt_n 138 (jt_l 136 (.inl (jo_il 138 4))) (jt_l 138 (.inl (jo_iw 139)))))) (jt_n 144 (jt_n 140 (jt_l 139 (.inl (jo_al 140 0))) (jt_n 143 (jt_l 140 (.inl (jo_gf 143 0 3))) (jt_l 143 (.inl (jo_il 144 1))))) (jt_n 146 (jt_l 144 (.inl (jo_il 146 5))) (jt_n 147 (jt_l 146 (.inl (jo_iw 147))) (jt_l 147 (.inr (.inr 0))))))))))
/-- TalkBench$Blocks.bestParting(II)I -/
def jc_7 : Nat → Option jxI := (jt_n 27 (jt_n 11 (jt_n 5 (jt_n 1 (jt_l 0 (.inl (jo_al 1 0))) (jt_n 4 (jt_l 1 (.inr (.inl (4, 1, 4, some 0)))) (jt_l 4 (.inl (jo_il 5 1))))) (jt_n 9 (jt_n 6 (jt_l 5 (.inl (jo_il 6 2))) (jt_l 6 (.inr (.inl (128, 2, 9, none))))) (jt_n 10 (jt_l 9 (.inl (jo_is 10 6 3))) (jt_l 10 (.inl (jo_al 11 0)))))) (jt_n 18 (jt_n 13 (jt_n 12 (jt_l 11 (.inl (jo_il 12 3))) (jt_l 12 (.inl (jo_il 13 1)))) (jt_n 15 (jt_l 13 (.inl (jo_c 15 (nI 32)))) (jt_l 15 (.inr (.inl (8, 4, 18, some 0)))))) (jt_n 22 (jt_n 20 (jt_l 18 (.inl (jo_is 20 6 4))) (jt_l 20 (.inl (jo_il 22 4)))) (jt_n 25 (jt_l 22 (.inl (jo_if 25 28 (fun x => decide (x = 0))))) (jt_l 25 (.inl (jo_il 27 4))))))) (jt_n 37 (jt_n 30 (jt_n 28 (jt_l 27 (.inr (.inr 1))) (jt_n 29 (jt_l 28 (.inl (jo_al 29 0))) (jt_l 29 (.inl (jo_il 30 3))))) (jt_n 32 (jt_n 31 (jt_l 30 (.inl (jo_il 31 2))) (jt_l 31 (.inl (jo_c 32 (nI 1))))) (jt_n 35 (jt_l 32 (.inr (.inl (8, 4, 35, some 0)))) (jt_l 35 (.inl (jo_is 37 6 5)))))) (jt_n 46 (jt_n 42 (jt_n 39 (jt_l 37 (.inl (jo_il 39 5))) (jt_l 39 (.inl (jo_if 42 46 (fun x => decide (¬ x = 0)))))) (jt_n 43 (jt_l 42 (.inl (jo_c 43 (nI 0)))) (jt_l 43 (.inl (jo_go 51))))) (jt_n 50 (jt_n 48 (jt_l 46 (.inl (jo_c 48 (nI 32)))) (jt_l 48 (.inl (jo_il 50 5)))) (jt_n 51 (jt_l 50 (.inl (jo_b 51 (fun x y => x + y)))) (jt_l 51 (.inr (.inr 1))))))))
/-- TalkBench$Blocks.firstBest(III)I -/
def jc_8 : Nat → Option jxI := (jt_n 55 (jt_n 28 (jt_n 14 (jt_n 8 (jt_n 4 (jt_n 1 (jt_l 0 (.inl (jo_al 1 0))) (jt_l 1 (.inl (jo_gf 4 0 1)))) (jt_n 7 (jt_l 4 (.inl (jo_gf 7 5 0))) (jt_l 7 (.inl (jo_il 8 2))))) (jt_n 11 (jt_n 9 (jt_l 8 (.inl (jo_ia 9))) (jt_l 9 (.inl (jo_is 11 7 4)))) (jt_n 13 (jt_l 11 (.inl (jo_il 13 4))) (jt_l 13 (.inl (jo_al 14 0)))))) (jt_n 22 (jt_n 20 (jt_n 17 (jt_l 14 (.inl (jo_gf 17 0 1))) (jt_l 17 (.inl (jo_gf 20 5 0)))) (jt_n 21 (jt_l 20 (.inl (jo_il 21 2))) (jt_l 21 (.inl (jo_c 22 (nI 1)))))) (jt_n 24 (jt_n 23 (jt_l 22 (.inl (jo_b 23 (fun x y => x + y)))) (jt_l 23 (.inl (jo_ia 24)))) (jt_n 27 (jt_l 24 (.inl (jo_ic 27 110 (fun x y => decide (y ≤ x))))) (jt_l 27 (.inl (jo_il 28 1))))))) (jt_n 41 (jt_n 37 (jt_n 32 (jt_n 29 (jt_l 28 (.inl (jo_al 29 0))) (jt_l 29 (.inl (jo_gf 32 0 1)))) (jt_n 35 (jt_l 32 (.inl (jo_gf 35 5 1))) (jt_l 35 (.inl (jo_il 37 4))))) (jt_n 39 (jt_n 38 (jt_l 37 (.inl (jo_ia 38))) (jt_l 38 (.inl (jo_il 39 3)))) (jt_n 40 (jt_l 39 (.inl (jo_b 40 (fun x y => x * y)))) (jt_l 40 (.inl (jo_b 41 (fun x y => x - y))))))) (jt_n 46 (jt_n 44 (jt_n 43 (jt_l 41 (.inl (jo_is 43 7 5))) (jt_l 43 (.inl (jo_il 44 1)))) (jt_n 45 (jt_l 44 (.inl (jo_il 45 2))) (jt_l 45 (.inl (jo_al 46 0))))) (jt_n 52 (jt_n 49 (jt_l 46 (.inl (jo_gf 49 0 1))) (jt_l 49 (.inl (jo_gf 52 5 1)))) (jt_n 54 (jt_l 52 (.inl (jo_il 54 4))) (jt_l 54 (.inl (jo_ia 55)))))))) (jt_n 81 (jt_n 67 (jt_n 59 (jt_n 57 (jt_n 56 (jt_l 55 (.inl (jo_b 56 (fun x y => x - y)))) (jt_l 56 (.inl (jo_il 57 3)))) (jt_n 58 (jt_l 57 (.inl (jo_b 58 (fun x y => x * y)))) (jt_l 58 (.inl (jo_b 59 (fun x y => x - y)))))) (jt_n 62 (jt_n 61 (jt_l 59 (.inl (jo_is 61 7 6))) (jt_l 61 (.inl (jo_al 62 0)))) (jt_n 65 (jt_l 62 (.inl (jo_gf 65 0 2))) (jt_l 65 (.inl (jo_il 67 5)))))) (jt_n 73 (jt_n 69 (jt_n 68 (jt_l 67 (.inl (jo_ia 68))) (jt_l 68 (.inl (jo_al 69 0)))) (jt_n 72 (jt_l 69 (.inl (jo_gf 72 0 2))) (jt_l 72 (.inl (jo_il 73 1))))) (jt_n 77 (jt_n 74 (jt_l 73 (.inl (jo_ia 74))) (jt_l 74 (.inl (jo_ic 77 104 (fun x y => decide (y ≤ x)))))) (jt_n 78 (jt_l 77 (.inl (jo_al 78 0))) (jt_l 78 (.inl (jo_gf 81 0 2))))))) (jt_n 94 (jt_n 88 (jt_n 84 (jt_n 83 (jt_l 81 (.inl (jo_il 83 6))) (jt_l 83 (.inl (jo_ia 84)))) (jt_n 85 (jt_l 84 (.inl (jo_al 85 0))) (jt_l 85 (.inl (jo_gf 88 0 2))))) (jt_n 90 (jt_n 89 (jt_l 88 (.inl (jo_il 89 1))) (jt_l 89 (.inl (jo_ia 90)))) (jt_n 93 (jt_l 90 (.inl (jo_ic 93 104 (fun x y => decide (y ≤ x))))) (jt_l 93 (.inl (jo_al 94 0)))))) (jt_n 103 (jt_n 100 (jt_n 97 (jt_l 94 (.inl (jo_gf 97 0 1))) (jt_l 97 (.inl (jo_gf 100 5 1)))) (jt_n 102 (jt_l 100 (.inl (jo_il 102 4))) (jt_l 102 (.inl (jo_ia 103))))) (jt_n 107 (jt_n 104 (jt_l 103 (.inr (.inr 1))) (jt_l 104 (.inl (jo_inc 107 7 4 (nI 1))))) (jt_n 110 (jt_l 107 (.inl (jo_go 11))) (jt_n 111 (jt_l 110 (.inl (jo_c 111 (nI 0)))) (jt_l 111 (.inr (.inr 1))))))))))
/-- TalkBench$Blocks.fewestClasses(Z)I -/
def jc_9 : Nat → Option jxI := (jt_n 71 (jt_n 35 (jt_n 21 (jt_n 8 (jt_n 4 (jt_n 1 (jt_l 0 (.inl (jo_il 1 1))) (jt_l 1 (.inl (jo_if 4 14 (fun x => decide (x = 0)))))) (jt_n 5 (jt_l 4 (.inl (jo_al 5 0))) (jt_l 5 (.inl (jo_gf 8 0 0))))) (jt_n 14 (jt_n 11 (jt_l 8 (.inl (jo_gf 11 4 1))) (jt_l 11 (.inl (jo_go 21)))) (jt_n 15 (jt_l 14 (.inl (jo_al 15 0))) (jt_n 18 (jt_l 15 (.inl (jo_gf 18 0 0))) (jt_l 18 (.inl (jo_gf 21 4 0))))))) (jt_n 26 (jt_n 23 (jt_n 22 (jt_l 21 (.inl (jo_is 22 7 2))) (jt_l 22 (.inl (jo_c 23 (nI 1))))) (jt_n 24 (jt_l 23 (.inl (jo_is 24 7 3))) (jt_n 25 (jt_l 24 (.inl (jo_il 25 3))) (jt_l 25 (.inl (jo_il 26 2)))))) (jt_n 30 (jt_n 29 (jt_l 26 (.inl (jo_ic 29 136 (fun x y => decide (y < x))))) (jt_l 29 (.inl (jo_al 30 0)))) (jt_n 31 (jt_l 30 (.inl (jo_il 31 3))) (jt_n 32 (jt_l 31 (.inl (jo_il 32 1))) (jt_l 32 (.inr (.inl (10, 3, 35, some 0))))))))) (jt_n 55 (jt_n 45 (jt_n 39 (jt_n 38 (jt_l 35 (.inl (jo_if 38 42 (fun x => decide (x = 0))))) (jt_l 38 (.inl (jo_c 39 (nI 1))))) (jt_n 42 (jt_l 39 (.inl (jo_go 45))) (jt_l 42 (.inl (jo_c 45 (nI 1000)))))) (jt_n 48 (jt_n 47 (jt_l 45 (.inl (jo_is 47 7 4))) (jt_l 47 (.inl (jo_al 48 0)))) (jt_n 51 (jt_l 48 (.inl (jo_gf 51 0 1))) (jt_n 54 (jt_l 51 (.inl (jo_gf 54 5 0))) (jt_l 54 (.inl (jo_il 55 3))))))) (jt_n 64 (jt_n 58 (jt_n 56 (jt_l 55 (.inl (jo_ia 56))) (jt_l 56 (.inl (jo_is 58 7 5)))) (jt_n 60 (jt_l 58 (.inl (jo_il 60 5))) (jt_n 61 (jt_l 60 (.inl (jo_al 61 0))) (jt_l 61 (.inl (jo_gf 64 0 1)))))) (jt_n 68 (jt_n 67 (jt_l 64 (.inl (jo_gf 67 5 0))) (jt_l 67 (.inl (jo_il 68 3)))) (jt_n 69 (jt_l 68 (.inl (jo_c 69 (nI 1)))) (jt_n 70 (jt_l 69 (.inl (jo_b 70 (fun x y => x + y)))) (jt_l 70 (.inl (jo_ia 71))))))))) (jt_n 107 (jt_n 90 (jt_n 80 (jt_n 76 (jt_n 74 (jt_l 71 (.inl (jo_ic 74 122 (fun x y => decide (y ≤ x))))) (jt_l 74 (.inl (jo_il 76 4)))) (jt_n 77 (jt_l 76 (.inl (jo_c 77 (nI 1)))) (jt_l 77 (.inl (jo_ic 80 122 (fun x y => decide (x ≤ y))))))) (jt_n 84 (jt_n 81 (jt_l 80 (.inl (jo_al 81 0))) (jt_l 81 (.inl (jo_gf 84 0 1)))) (jt_n 87 (jt_l 84 (.inl (jo_gf 87 5 1))) (jt_n 89 (jt_l 87 (.inl (jo_il 89 5))) (jt_l 89 (.inl (jo_ia 90))))))) (jt_n 99 (jt_n 94 (jt_n 92 (jt_l 90 (.inl (jo_is 92 7 6))) (jt_l 92 (.inl (jo_il 94 4)))) (jt_n 95 (jt_l 94 (.inl (jo_al 95 0))) (jt_n 98 (jt_l 95 (.inl (jo_gf 98 0 4))) (jt_l 98 (.inl (jo_il 99 3)))))) (jt_n 102 (jt_n 101 (jt_l 99 (.inl (jo_il 101 6))) (jt_l 101 (.inl (jo_b 102 (fun x y => x - y))))) (jt_n 103 (jt_l 102 (.inl (jo_ia 103))) (jt_n 104 (jt_l 103 (.inl (jo_al 104 0))) (jt_l 104 (.inl (jo_gf 107 0 4)))))))) (jt_n 126 (jt_n 114 (jt_n 110 (jt_n 109 (jt_l 107 (.inl (jo_il 109 6))) (jt_l 109 (.inl (jo_ia 110)))) (jt_n 111 (jt_l 110 (.inl (jo_b 111 (fun x y => x + y)))) (jt_l 111 (.inl (jo_m2 114 (fun x y => if y < x then y else x)))))) (jt_n 119 (jt_n 116 (jt_l 114 (.inl (jo_is 116 7 4))) (jt_l 116 (.inl (jo_inc 119 7 5 (nI 1))))) (jt_n 122 (jt_l 119 (.inl (jo_go 58))) (jt_n 123 (jt_l 122 (.inl (jo_al 123 0))) (jt_l 123 (.inl (jo_gf 126 0 4))))))) (jt_n 136 (jt_n 129 (jt_n 127 (jt_l 126 (.inl (jo_il 127 3))) (jt_l 127 (.inl (jo_il 129 4)))) (jt_n 130 (jt_l 129 (.inl (jo_iw 130))) (jt_n 133 (jt_l 130 (.inl (jo_inc 133 7 3 (nI 1)))) (jt_l 133 (.inl (jo_go 24)))))) (jt_n 140 (jt_n 137 (jt_l 136 (.inl (jo_al 137 0))) (jt_l 137 (.inl (jo_gf 140 0 4)))) (jt_n 141 (jt_l 140 (.inl (jo_il 141 2))) (jt_n 142 (jt_l 141 (.inl (jo_ia 142))) (jt_l 142 (.inr (.inr 1))))))))))
/-- TalkBench$Blocks.isPeaceful(IZ)Z -/
def jc_10 : Nat → Option jxI := (jt_n 39 (jt_n 21 (jt_n 8 (jt_n 4 (jt_n 1 (jt_l 0 (.inl (jo_il 1 2))) (jt_l 1 (.inl (jo_if 4 14 (fun x => decide (x = 0)))))) (jt_n 5 (jt_l 4 (.inl (jo_al 5 0))) (jt_l 5 (.inl (jo_gf 8 0 0))))) (jt_n 14 (jt_n 11 (jt_l 8 (.inl (jo_gf 11 4 0))) (jt_l 11 (.inl (jo_go 21)))) (jt_n 15 (jt_l 14 (.inl (jo_al 15 0))) (jt_n 18 (jt_l 15 (.inl (jo_gf 18 0 0))) (jt_l 18 (.inl (jo_gf 21 4 1))))))) (jt_n 28 (jt_n 23 (jt_n 22 (jt_l 21 (.inl (jo_is 22 5 3))) (jt_l 22 (.inl (jo_c 23 (nI 1))))) (jt_n 25 (jt_l 23 (.inl (jo_is 25 5 4))) (jt_n 27 (jt_l 25 (.inl (jo_il 27 4))) (jt_l 27 (.inl (jo_il 28 3)))))) (jt_n 32 (jt_n 31 (jt_l 28 (.inl (jo_ic 31 75 (fun x y => decide (y < x))))) (jt_l 31 (.inl (jo_il 32 2)))) (jt_n 35 (jt_l 32 (.inl (jo_if 35 51 (fun x => decide (x = 0))))) (jt_n 36 (jt_l 35 (.inl (jo_al 36 0))) (jt_l 36 (.inl (jo_gf 39 0 0)))))))) (jt_n 61 (jt_n 51 (jt_n 42 (jt_n 41 (jt_l 39 (.inl (jo_il 41 4))) (jt_l 41 (.inl (jo_il 42 1)))) (jt_n 45 (jt_l 42 (.inr (.inl (31, 3, 45, some 4)))) (jt_n 48 (jt_l 45 (.inl (jo_if 48 66 (fun x => decide (¬ x = 0))))) (jt_l 48 (.inl (jo_go 64)))))) (jt_n 55 (jt_n 52 (jt_l 51 (.inl (jo_al 52 0))) (jt_l 52 (.inl (jo_gf 55 0 0)))) (jt_n 56 (jt_l 55 (.inl (jo_il 56 1))) (jt_n 58 (jt_l 56 (.inl (jo_il 58 4))) (jt_l 58 (.inr (.inl (31, 3, 61, some 4)))))))) (jt_n 69 (jt_n 65 (jt_n 64 (jt_l 61 (.inl (jo_if 64 66 (fun x => decide (¬ x = 0))))) (jt_l 64 (.inl (jo_c 65 (nI 0))))) (jt_n 66 (jt_l 65 (.inr (.inr 2))) (jt_n 68 (jt_l 66 (.inl (jo_il 68 4))) (jt_l 68 (.inl (jo_c 69 (nI 1))))))) (jt_n 72 (jt_n 70 (jt_l 69 (.inl (jo_b 70 (fun x y => x <<< (y &&& 31))))) (jt_l 70 (.inl (jo_is 72 5 4)))) (jt_n 75 (jt_l 72 (.inl (jo_go 25))) (jt_n 76 (jt_l 75 (.inl (jo_c 76 (nI 1)))) (jt_l 76 (.inr (.inr 2)))))))))
/-- TalkBench$History.<init>()V -/
def jc_11 : Nat → Option jxI := (jt_n 18 (jt_n 10 (jt_n 4 (jt_n 1 (jt_l 0 (.inl (jo_al 1 0))) (jt_l 1 (.inl (jo_oi 4)))) (jt_n 5 (jt_l 4 (.inl (jo_al 5 0))) (jt_n 7 (jt_l 5 (.inl (jo_c 7 (nI 30)))) (jt_l 7 (.inl (jo_nr 10 2)))))) (jt_n 14 (jt_n 13 (jt_l 10 (.inl (jo_pf 13 1 0 2))) (jt_l 13 (.inl (jo_c 14 (nI 0))))) (jt_n 15 (jt_l 14 (.inl (jo_is 15 2 1))) (jt_n 16 (jt_l 15 (.inl (jo_il 16 1))) (jt_l 16 (.inl (jo_c 18 (nI 30)))))))) (jt_n 29 (jt_n 22 (jt_n 21 (jt_l 18 (.inl (jo_ic 21 40 (fun x y => decide (y ≤ x))))) (jt_l 21 (.inl (jo_al 22 0)))) (jt_n 25 (jt_l 22 (.inl (jo_gf 25 1 0))) (jt_n 26 (jt_l 25 (.inl (jo_il 26 1))) (jt_l 26 (.inl (jo_nw 29 10 [.int 0, .int 0, .null, .null])))))) (jt_n 34 (jt_n 30 (jt_l 29 (.inl (jo_d 30))) (jt_n 33 (jt_l 30 (.inr (.inl (67, 1, 33, some 10)))) (jt_l 33 (.inl (jo_rw 34 2 10))))) (jt_n 37 (jt_l 34 (.inl (jo_inc 37 2 1 (nI 1)))) (jt_n 40 (jt_l 37 (.inl (jo_go 15))) (jt_l 40 (.inr (.inr 0))))))))
/-- TalkBench$History.push(LTalkBench$Task;)V -/
def jc_12 : Nat → Option jxI := (jt_n 26 (jt_n 13 (jt_n 5 (jt_n 1 (jt_l 0 (.inl (jo_al 1 0))) (jt_n 4 (jt_l 1 (.inl (jo_gf 4 1 0))) (jt_l 4 (.inl (jo_al 5 0))))) (jt_n 9 (jt_n 8 (jt_l 5 (.inl (jo_gf 8 1 1))) (jt_l 8 (.inl (jo_ra 9 2)))) (jt_n 10 (jt_l 9 (.inl (jo_al 10 1))) (jt_l 10 (.inr (.inl (71, 2, 13, some 10))))))) (jt_n 19 (jt_n 15 (jt_n 14 (jt_l 13 (.inl (jo_al 14 0))) (jt_l 14 (.inl (jo_al 15 0)))) (jt_n 18 (jt_l 15 (.inl (jo_gf 18 1 1))) (jt_l 18 (.inl (jo_c 19 (nI 1)))))) (jt_n 22 (jt_n 20 (jt_l 19 (.inl (jo_b 20 (fun x y => x + y)))) (jt_l 20 (.inl (jo_c 22 (nI 30))))) (jt_n 25 (jt_l 22 (.inl (jo_ic 25 29 (fun x y => decide (¬ x = y))))) (jt_l 25 (.inl (jo_c 26 (nI 0)))))))) (jt_n 39 (jt_n 33 (jt_n 29 (jt_l 26 (.inl (jo_go 35))) (jt_n 30 (jt_l 29 (.inl (jo_al 30 0))) (jt_l 30 (.inl (jo_gf 33 1 1))))) (jt_n 35 (jt_n 34 (jt_l 33 (.inl (jo_c 34 (nI 1)))) (jt_l 34 (.inl (jo_b 35 (fun x y => x + y))))) (jt_n 38 (jt_l 35 (.inl (jo_pf 38 1 1 0))) (jt_l 38 (.inl (jo_al 39 0)))))) (jt_n 45 (jt_n 43 (jt_n 40 (jt_l 39 (.inl (jo_al 40 0))) (jt_l 40 (.inl (jo_gf 43 1 2)))) (jt_n 44 (jt_l 43 (.inl (jo_c 44 (nI 1)))) (jt_l 44 (.inl (jo_b 45 (fun x y => x + y)))))) (jt_n 50 (jt_n 47 (jt_l 45 (.inl (jo_c 47 (nI 30)))) (jt_l 47 (.inl (jo_m2 50 (fun x y => if y < x then y else x))))) (jt_n 53 (jt_l 50 (.inl (jo_pf 53 1 2 0))) (jt_l 53 (.inr (.inr 0))))))))
/-- TalkBench$History.pop(LTalkBench$Task;)V -/
def jc_13 : Nat → Option jxI := (jt_n 23 (jt_n 13 (jt_n 5 (jt_n 1 (jt_l 0 (.inl (jo_al 1 0))) (jt_n 2 (jt_l 1 (.inl (jo_al 2 0))) (jt_l 2 (.inl (jo_gf 5 1 1))))) (jt_n 8 (jt_l 5 (.inl (jo_if 8 13 (fun x => decide (¬ x = 0))))) (jt_n 10 (jt_l 8 (.inl (jo_c 10 (nI 29)))) (jt_l 10 (.inl (jo_go 19)))))) (jt_n 18 (jt_n 14 (jt_l 13 (.inl (jo_al 14 0))) (jt_n 17 (jt_l 14 (.inl (jo_gf 17 1 1))) (jt_l 17 (.inl (jo_c 18 (nI 1)))))) (jt_n 19 (jt_l 18 (.inl (jo_b 19 (fun x y => x - y)))) (jt_n 22 (jt_l 19 (.inl (jo_pf 22 1 1 0))) (jt_l 22 (.inl (jo_al 23 0))))))) (jt_n 33 (jt_n 28 (jt_n 24 (jt_l 23 (.inl (jo_d 24))) (jt_n 27 (jt_l 24 (.inl (jo_gf 27 1 2))) (jt_l 27 (.inl (jo_c 28 (nI 1)))))) (jt_n 29 (jt_l 28 (.inl (jo_b 29 (fun x y => x - y)))) (jt_n 32 (jt_l 29 (.inl (jo_pf 32 1 2 0))) (jt_l 32 (.inl (jo_al 33 1)))))) (jt_n 38 (jt_n 34 (jt_l 33 (.inl (jo_al 34 0))) (jt_n 37 (jt_l 34 (.inl (jo_gf 37 1 0))) (jt_l 37 (.inl (jo_al 38 0))))) (jt_n 42 (jt_n 41 (jt_l 38 (.inl (jo_gf 41 1 1))) (jt_l 41 (.inl (jo_ra 42 2)))) (jt_n 45 (jt_l 42 (.inr (.inl (71, 2, 45, some 10)))) (jt_l 45 (.inr (.inr 0))))))))
/-- TalkBench$Judge.<init>(LTalkBench$Task;LTalkBench$Marks;)V -/
def jc_14 : Nat → Option jxI := (jt_n 12 (jt_n 5 (jt_n 1 (jt_l 0 (.inl (jo_al 1 0))) (jt_n 4 (jt_l 1 (.inl (jo_oi 4))) (jt_l 4 (.inl (jo_al 5 0))))) (jt_n 7 (jt_l 5 (.inl (jo_c 7 (nI 120)))) (jt_n 9 (jt_l 7 (.inl (jo_ni 9))) (jt_l 9 (.inl (jo_pf 12 2 2 2)))))) (jt_n 17 (jt_n 13 (jt_l 12 (.inl (jo_al 13 0))) (jt_n 14 (jt_l 13 (.inl (jo_al 14 1))) (jt_l 14 (.inl (jo_pf 17 2 0 2))))) (jt_n 19 (jt_n 18 (jt_l 17 (.inl (jo_al 18 0))) (jt_l 18 (.inl (jo_al 19 2)))) (jt_n 22 (jt_l 19 (.inl (jo_pf 22 2 1 2))) (jt_l 22 (.inr (.inr 0)))))))
/-- TalkBench$Judge.take(I)V -/
def jc_15 : Nat → Option jxI := (jt_n 10 (jt_n 5 (jt_n 1 (jt_l 0 (.inl (jo_al 1 0))) (jt_n 4 (jt_l 1 (.inl (jo_gf 4 2 2))) (jt_l 4 (.inl (jo_al 5 0))))) (jt_n 8 (jt_l 5 (.inl (jo_gf 8 2 3))) (jt_n 9 (jt_l 8 (.inl (jo_il 9 1))) (jt_l 9 (.inl (jo_iw 10)))))) (jt_n 15 (jt_n 11 (jt_l 10 (.inl (jo_al 11 0))) (jt_n 12 (jt_l 11 (.inl (jo_d 12))) (jt_l 12 (.inl (jo_gf 15 2 3))))) (jt_n 17 (jt_n 16 (jt_l 15 (.inl (jo_c 16 (nI 1)))) (jt_l 16 (.inl (jo_b 17 (fun x y => x + y))))) (jt_n 20 (jt_l 17 (.inl (jo_pf 20 2 3 0))) (jt_l 20 (.inr (.inr 0)))))))
/-- TalkBench$Judge.judgeTalk()I -/
def jc_16 : Nat → Option jxI := (jt_n 32 (jt_n 12 (jt_n 6 (jt_n 2 (jt_n 1 (jt_l 0 (.inl (jo_al 1 0))) (jt_l 1 (.inl (jo_c 2 (nI 0))))) (jt_n 5 (jt_l 2 (.inl (jo_pf 5 2 4 0))) (jt_l 5 (.inl (jo_al 6 0))))) (jt_n 10 (jt_n 7 (jt_l 6 (.inl (jo_c 7 (nI 0)))) (jt_l 7 (.inl (jo_pf 10 2 5 0)))) (jt_n 11 (jt_l 10 (.inl (jo_al 11 0))) (jt_l 11 (.inl (jo_al 12 0)))))) (jt_n 22 (jt_n 18 (jt_n 15 (jt_l 12 (.inl (jo_gf 15 2 1))) (jt_l 15 (.inl (jo_gf 18 4 0)))) (jt_n 19 (jt_l 18 (.inl (jo_al 19 0))) (jt_l 19 (.inl (jo_gf 22 2 1))))) (jt_n 26 (jt_n 25 (jt_l 22 (.inl (jo_gf 25 4 1))) (jt_l 25 (.inl (jo_c 26 (nI 0))))) (jt_n 29 (jt_l 26 (.inr (.inl (17, 4, 29, some 2)))) (jt_l 29 (.inl (jo_if 32 40 (fun x => decide (¬ x = 0))))))))) (jt_n 45 (jt_n 39 (jt_n 35 (jt_n 34 (jt_l 32 (.inl (jo_c 34 (nI 100)))) (jt_l 34 (.inl (jo_al 35 0)))) (jt_n 38 (jt_l 35 (.inl (jo_gf 38 2 4))) (jt_l 38 (.inl (jo_b 39 (fun x y => x + y)))))) (jt_n 41 (jt_n 40 (jt_l 39 (.inr (.inr 1))) (jt_l 40 (.inl (jo_c 41 (nI 2))))) (jt_n 42 (jt_l 41 (.inl (jo_al 42 0))) (jt_l 42 (.inl (jo_gf 45 2 4)))))) (jt_n 53 (jt_n 47 (jt_n 46 (jt_l 45 (.inl (jo_b 46 (fun x y => x * y)))) (jt_l 46 (.inl (jo_al 47 0)))) (jt_n 50 (jt_l 47 (.inl (jo_gf 50 2 3))) (jt_l 50 (.inl (jo_ic 53 58 (fun x y => decide (y ≤ x))))))) (jt_n 58 (jt_n 55 (jt_l 53 (.inl (jo_c 55 (nI 90)))) (jt_l 55 (.inl (jo_go 62)))) (jt_n 59 (jt_l 58 (.inl (jo_al 59 0))) (jt_n 62 (jt_l 59 (.inl (jo_gf 62 2 5))) (jt_l 62 (.inr (.inr 1)))))))))
/-- TalkBench$Judge.isRight(III)Z -/
def jc_17 : Nat → Option jxI := (jt_n 102 (jt_n 49 (jt_n 25 (jt_n 11 (jt_n 5 (jt_n 1 (jt_l 0 (.inl (jo_c 1 (nI 2)))) (jt_n 2 (jt_l 1 (.inl (jo_al 2 0))) (jt_l 2 (.inl (jo_gf 5 2 4))))) (jt_n 8 (jt_n 6 (jt_l 5 (.inl (jo_b 6 (fun x y => x * y)))) (jt_l 6 (.inl (jo_is 8 9 4)))) (jt_n 10 (jt_l 8 (.inl (jo_il 10 4))) (jt_l 10 (.inl (jo_c 11 (nI 1))))))) (jt_n 16 (jt_n 12 (jt_l 11 (.inl (jo_b 12 (fun x y => x + y)))) (jt_n 13 (jt_l 12 (.inl (jo_al 13 0))) (jt_l 13 (.inl (jo_gf 16 2 3))))) (jt_n 20 (jt_n 19 (jt_l 16 (.inl (jo_ic 19 25 (fun x y => decide (y ≤ x))))) (jt_l 19 (.inl (jo_il 20 3)))) (jt_n 22 (jt_l 20 (.inl (jo_c 22 (nI 8)))) (jt_l 22 (.inl (jo_ic 25 27 (fun x y => decide (x ≤ y))))))))) (jt_n 36 (jt_n 28 (jt_n 26 (jt_l 25 (.inl (jo_c 26 (nI 0)))) (jt_n 27 (jt_l 26 (.inr (.inr 2))) (jt_l 27 (.inl (jo_al 28 0))))) (jt_n 33 (jt_n 31 (jt_l 28 (.inl (jo_gf 31 2 2))) (jt_l 31 (.inl (jo_il 33 4)))) (jt_n 34 (jt_l 33 (.inl (jo_ia 34))) (jt_l 34 (.inl (jo_is 36 9 5)))))) (jt_n 43 (jt_n 40 (jt_n 37 (jt_l 36 (.inl (jo_al 37 0))) (jt_l 37 (.inl (jo_gf 40 2 2)))) (jt_n 42 (jt_l 40 (.inl (jo_il 42 4))) (jt_l 42 (.inl (jo_c 43 (nI 1)))))) (jt_n 45 (jt_n 44 (jt_l 43 (.inl (jo_b 44 (fun x y => x + y)))) (jt_l 44 (.inl (jo_ia 45)))) (jt_n 47 (jt_l 45 (.inl (jo_is 47 9 6))) (jt_l 47 (.inl (jo_il 49 5)))))))) (jt_n 75 (jt_n 59 (jt_n 54 (jt_n 50 (jt_l 49 (.inl (jo_c 50 (nI 2)))) (jt_n 53 (jt_l 50 (.inl (jo_ic 53 63 (fun x y => decide (¬ x = y))))) (jt_l 53 (.inl (jo_al 54 0))))) (jt_n 56 (jt_n 55 (jt_l 54 (.inl (jo_il 55 1))) (jt_l 55 (.inl (jo_il 56 2)))) (jt_n 58 (jt_l 56 (.inl (jo_il 58 6))) (jt_l 58 (.inl (jo_il 59 3)))))) (jt_n 68 (jt_n 63 (jt_n 62 (jt_l 59 (.inr (.inl (18, 5, 62, some 2)))) (jt_l 62 (.inr (.inr 2)))) (jt_n 65 (jt_l 63 (.inl (jo_il 65 5))) (jt_l 65 (.inl (jo_if 68 76 (fun x => decide (x = 0))))))) (jt_n 71 (jt_n 70 (jt_l 68 (.inl (jo_il 70 5))) (jt_l 70 (.inl (jo_c 71 (nI 1))))) (jt_n 74 (jt_l 71 (.inl (jo_ic 74 76 (fun x y => decide (x = y))))) (jt_l 74 (.inl (jo_c 75 (nI 0)))))))) (jt_n 88 (jt_n 81 (jt_n 76 (jt_l 75 (.inr (.inr 2))) (jt_n 78 (jt_l 76 (.inl (jo_il 78 5))) (jt_l 78 (.inl (jo_if 81 85 (fun x => decide (¬ x = 0))))))) (jt_n 85 (jt_n 82 (jt_l 81 (.inl (jo_il 82 1))) (jt_l 82 (.inl (jo_go 86)))) (jt_n 86 (jt_l 85 (.inl (jo_il 86 2))) (jt_l 86 (.inl (jo_is 88 9 7)))))) (jt_n 94 (jt_n 92 (jt_n 90 (jt_l 88 (.inl (jo_il 90 7))) (jt_l 90 (.inl (jo_il 92 7)))) (jt_n 93 (jt_l 92 (.inl (jo_c 93 (nI 1)))) (jt_l 93 (.inl (jo_b 94 (fun x y => x - y)))))) (jt_n 97 (jt_n 95 (jt_l 94 (.inl (jo_b 95 (fun x y => x &&& y)))) (jt_l 95 (.inl (jo_is 97 9 8)))) (jt_n 99 (jt_l 97 (.inl (jo_il 99 6))) (jt_l 99 (.inl (jo_if 102 112 (fun x => decide (x = 0))))))))))) (jt_n 149 (jt_n 126 (jt_n 114 (jt_n 107 (jt_n 104 (jt_l 102 (.inl (jo_il 104 6))) (jt_n 106 (jt_l 104 (.inl (jo_il 106 8))) (jt_l 106 (.inl (jo_b 107 (fun x y => x &&& y)))))) (jt_n 112 (jt_n 109 (jt_l 107 (.inl (jo_il 109 6))) (jt_l 109 (.inl (jo_ic 112 114 (fun x y => decide (x = y)))))) (jt_n 113 (jt_l 112 (.inl (jo_c 113 (nI 0)))) (jt_l 113 (.inr (.inr 2)))))) (jt_n 119 (jt_n 115 (jt_l 114 (.inl (jo_al 115 0))) (jt_n 116 (jt_l 115 (.inl (jo_d 116))) (jt_l 116 (.inl (jo_gf 119 2 4))))) (jt_n 121 (jt_n 120 (jt_l 119 (.inl (jo_c 120 (nI 1)))) (jt_l 120 (.inl (jo_b 121 (fun x y => x + y))))) (jt_n 124 (jt_l 121 (.inl (jo_pf 124 2 4 0))) (jt_l 124 (.inl (jo_il 126 5))))))) (jt_n 136 (jt_n 131 (jt_n 129 (jt_l 126 (.inl (jo_if 129 163 (fun x => decide (¬ x = 0))))) (jt_n 130 (jt_l 129 (.inl (jo_al 130 0))) (jt_l 130 (.inl (jo_il 131 1))))) (jt_n 134 (jt_n 133 (jt_l 131 (.inl (jo_il 133 6))) (jt_l 133 (.inl (jo_b 134 (fun x y => x - y))))) (jt_n 135 (jt_l 134 (.inl (jo_il 135 2))) (jt_l 135 (.inl (jo_il 136 3)))))) (jt_n 144 (jt_n 138 (jt_n 137 (jt_l 136 (.inl (jo_c 137 (nI 1)))) (jt_l 137 (.inl (jo_b 138 (fun x y => x + y))))) (jt_n 141 (jt_l 138 (.inr (.inl (17, 4, 141, some 2)))) (jt_l 141 (.inl (jo_if 144 161 (fun x => decide (x = 0))))))) (jt_n 147 (jt_n 145 (jt_l 144 (.inl (jo_al 145 0))) (jt_l 145 (.inl (jo_il 147 6)))) (jt_n 148 (jt_l 147 (.inl (jo_il 148 2))) (jt_l 148 (.inl (jo_il 149 3)))))))) (jt_n 171 (jt_n 162 (jt_n 154 (jt_n 150 (jt_l 149 (.inl (jo_c 150 (nI 1)))) (jt_n 151 (jt_l 150 (.inl (jo_b 151 (fun x y => x + y)))) (jt_l 151 (.inr (.inl (17, 4, 154, some 2)))))) (jt_n 158 (jt_n 157 (jt_l 154 (.inl (jo_if 157 161 (fun x => decide (x = 0))))) (jt_l 157 (.inl (jo_c 158 (nI 1))))) (jt_n 161 (jt_l 158 (.inl (jo_go 162))) (jt_l 161 (.inl (jo_c 162 (nI 0))))))) (jt_n 166 (jt_n 164 (jt_n 163 (jt_l 162 (.inr (.inr 2))) (jt_l 163 (.inl (jo_al 164 0)))) (jt_n 165 (jt_l 164 (.inl (jo_il 165 1))) (jt_l 165 (.inl (jo_il 166 2))))) (jt_n 169 (jt_n 168 (jt_l 166 (.inl (jo_il 168 6))) (jt_l 168 (.inl (jo_b 169 (fun x y => x - y))))) (jt_n 170 (jt_l 169 (.inl (jo_il 170 3))) (jt_l 170 (.inl (jo_c 171 (nI 1)))))))) (jt_n 183 (jt_n 178 (jt_n 172 (jt_l 171 (.inl (jo_b 172 (fun x y => x + y)))) (jt_n 175 (jt_l 172 (.inr (.inl (17, 4, 175, some 2)))) (jt_l 175 (.inl (jo_if 178 195 (fun x => decide (x = 0))))))) (jt_n 180 (jt_n 179 (jt_l 178 (.inl (jo_al 179 0))) (jt_l 179 (.inl (jo_il 180 1)))) (jt_n 182 (jt_l 180 (.inl (jo_il 182 6))) (jt_l 182 (.inl (jo_il 183 3)))))) (jt_n 191 (jt_n 185 (jt_n 184 (jt_l 183 (.inl (jo_c 184 (nI 1)))) (jt_l 184 (.inl (jo_b 185 (fun x y => x + y))))) (jt_n 188 (jt_l 185 (.inr (.inl (17, 4, 188, some 2)))) (jt_l 188 (.inl (jo_if 191 195 (fun x => decide (x = 0))))))) (jt_n 195 (jt_n 192 (jt_l 191 (.inl (jo_c 192 (nI 1)))) (jt_l 192 (.inl (jo_go 196)))) (jt_n 196 (jt_l 195 (.inl (jo_c 196 (nI 0)))) (jt_l 196 (.inr (.inr 2))))))))))
/-- TalkBench$Judge.endIsRight(IIII)Z -/
def jc_18 : Nat → Option jxI := (jt_n 24 (jt_n 13 (jt_n 7 (jt_n 1 (jt_l 0 (.inl (jo_il 1 3))) (jt_n 4 (jt_l 1 (.inr (.inl (124, 1, 4, none)))) (jt_l 4 (.inl (jo_if 7 23 (fun x => decide (¬ x = 0))))))) (jt_n 11 (jt_n 8 (jt_l 7 (.inl (jo_al 8 0))) (jt_l 8 (.inl (jo_gf 11 2 1)))) (jt_n 12 (jt_l 11 (.inl (jo_c 12 (nI 1)))) (jt_l 12 (.inl (jo_il 13 3)))))) (jt_n 18 (jt_n 14 (jt_l 13 (.inl (jo_b 14 (fun x y => x - y)))) (jt_n 15 (jt_l 14 (.inl (jo_il 15 1))) (jt_l 15 (.inr (.inl (32, 3, 18, some 4)))))) (jt_n 20 (jt_n 19 (jt_l 18 (.inl (jo_il 19 2))) (jt_l 19 (.inl (jo_b 20 (fun x y => x &&& y))))) (jt_n 23 (jt_l 20 (.inl (jo_if 23 25 (fun x => decide (x = 0))))) (jt_l 23 (.inl (jo_c 24 (nI 0)))))))) (jt_n 35 (jt_n 27 (jt_n 25 (jt_l 24 (.inr (.inr 2))) (jt_n 26 (jt_l 25 (.inl (jo_al 26 0))) (jt_l 26 (.inl (jo_d 27))))) (jt_n 31 (jt_n 30 (jt_l 27 (.inl (jo_gf 30 2 4))) (jt_l 30 (.inl (jo_c 31 (nI 1))))) (jt_n 32 (jt_l 31 (.inl (jo_b 32 (fun x y => x + y)))) (jt_l 32 (.inl (jo_pf 35 2 4 0)))))) (jt_n 42 (jt_n 37 (jt_n 36 (jt_l 35 (.inl (jo_al 36 0))) (jt_l 36 (.inl (jo_al 37 0)))) (jt_n 40 (jt_l 37 (.inl (jo_gf 40 2 5))) (jt_l 40 (.inl (jo_il 42 4))))) (jt_n 48 (jt_n 45 (jt_l 42 (.inl (jo_m2 45 (fun x y => if x < y then y else x)))) (jt_l 45 (.inl (jo_pf 48 2 5 0)))) (jt_n 49 (jt_l 48 (.inl (jo_c 49 (nI 1)))) (jt_l 49 (.inr (.inr 2))))))))
/-- TalkBench$Judge.judgeFooling(I)I -/
def jc_19 : Nat → Option jxI := (jt_n 46 (jt_n 24 (jt_n 11 (jt_n 3 (jt_n 1 (jt_l 0 (.inl (jo_c 1 (nI 0)))) (jt_n 2 (jt_l 1 (.inl (jo_is 2 3 2))) (jt_l 2 (.inl (jo_il 3 2))))) (jt_n 7 (jt_n 4 (jt_l 3 (.inl (jo_al 4 0))) (jt_l 4 (.inl (jo_gf 7 2 3)))) (jt_n 10 (jt_l 7 (.inl (jo_ic 10 53 (fun x y => decide (y ≤ x))))) (jt_l 10 (.inl (jo_al 11 0)))))) (jt_n 16 (jt_n 14 (jt_l 11 (.inl (jo_gf 14 2 2))) (jt_n 15 (jt_l 14 (.inl (jo_il 15 2))) (jt_l 15 (.inl (jo_ia 16))))) (jt_n 20 (jt_n 19 (jt_l 16 (.inl (jo_if 19 45 (fun x => decide (x < 0))))) (jt_l 19 (.inl (jo_al 20 0)))) (jt_n 23 (jt_l 20 (.inl (jo_gf 23 2 0))) (jt_l 23 (.inl (jo_al 24 0))))))) (jt_n 35 (jt_n 29 (jt_n 27 (jt_l 24 (.inl (jo_gf 27 2 2))) (jt_n 28 (jt_l 27 (.inl (jo_il 28 2))) (jt_l 28 (.inl (jo_ia 29))))) (jt_n 31 (jt_n 30 (jt_l 29 (.inl (jo_c 30 (nI 5)))) (jt_l 30 (.inl (jo_q 31 (fun x y => x / y))))) (jt_n 32 (jt_l 31 (.inl (jo_al 32 0))) (jt_l 32 (.inl (jo_gf 35 2 2)))))) (jt_n 38 (jt_n 36 (jt_l 35 (.inl (jo_il 36 2))) (jt_n 37 (jt_l 36 (.inl (jo_ia 37))) (jt_l 37 (.inl (jo_c 38 (nI 5)))))) (jt_n 42 (jt_n 39 (jt_l 38 (.inl (jo_q 39 (fun x y => x - x / y * y)))) (jt_l 39 (.inr (.inl (69, 3, 42, some 10))))) (jt_n 45 (jt_l 42 (.inl (jo_if 45 47 (fun x => decide (¬ x = 0))))) (jt_l 45 (.inl (jo_c 46 (-1))))))))) (jt_n 74 (jt_n 57 (jt_n 53 (jt_n 47 (jt_l 46 (.inr (.inr 1))) (jt_n 50 (jt_l 47 (.inl (jo_inc 50 3 2 (nI 1)))) (jt_l 50 (.inl (jo_go 2))))) (jt_n 55 (jt_n 54 (jt_l 53 (.inl (jo_c 54 (nI 0)))) (jt_l 54 (.inl (jo_is 55 3 2)))) (jt_n 56 (jt_l 55 (.inl (jo_il 56 2))) (jt_l 56 (.inl (jo_al 57 0)))))) (jt_n 64 (jt_n 60 (jt_l 57 (.inl (jo_gf 60 2 3))) (jt_n 63 (jt_l 60 (.inl (jo_ic 63 97 (fun x y => decide (y ≤ x))))) (jt_l 63 (.inl (jo_al 64 0))))) (jt_n 70 (jt_n 67 (jt_l 64 (.inl (jo_gf 67 2 0))) (jt_l 67 (.inl (jo_gf 70 10 2)))) (jt_n 71 (jt_l 70 (.inl (jo_al 71 0))) (jt_l 71 (.inl (jo_gf 74 2 2))))))) (jt_n 83 (jt_n 77 (jt_n 75 (jt_l 74 (.inl (jo_il 75 2))) (jt_n 76 (jt_l 75 (.inl (jo_ia 76))) (jt_l 76 (.inl (jo_ia 77))))) (jt_n 81 (jt_n 78 (jt_l 77 (.inl (jo_il 78 1))) (jt_l 78 (.inl (jo_ic 81 89 (fun x y => decide (¬ x = y)))))) (jt_n 82 (jt_l 81 (.inl (jo_al 82 0))) (jt_l 82 (.inl (jo_il 83 2)))))) (jt_n 91 (jt_n 89 (jt_n 86 (jt_l 83 (.inr (.inl (20, 2, 86, some 2)))) (jt_l 86 (.inl (jo_if 89 91 (fun x => decide (x = 0)))))) (jt_n 90 (jt_l 89 (.inl (jo_c 90 (nI 0)))) (jt_l 90 (.inr (.inr 1))))) (jt_n 97 (jt_n 94 (jt_l 91 (.inl (jo_inc 94 3 2 (nI 1)))) (jt_l 94 (.inl (jo_go 55)))) (jt_n 98 (jt_l 97 (.inl (jo_c 98 (nI 1)))) (jt_l 98 (.inr (.inr 1)))))))))
/-- TalkBench$Judge.liesWithEarlier(I)Z -/
def jc_20 : Nat → Option jxI := (jt_n 17 (jt_n 7 (jt_n 2 (jt_n 1 (jt_l 0 (.inl (jo_c 1 (nI 0)))) (jt_l 1 (.inl (jo_is 2 3 2)))) (jt_n 3 (jt_l 2 (.inl (jo_il 3 2))) (jt_n 4 (jt_l 3 (.inl (jo_il 4 1))) (jt_l 4 (.inl (jo_ic 7 37 (fun x y => decide (y ≤ x)))))))) (jt_n 12 (jt_n 8 (jt_l 7 (.inl (jo_al 8 0))) (jt_n 11 (jt_l 8 (.inl (jo_gf 11 2 1))) (jt_l 11 (.inl (jo_al 12 0))))) (jt_n 15 (jt_l 12 (.inl (jo_gf 15 2 2))) (jt_n 16 (jt_l 15 (.inl (jo_il 16 1))) (jt_l 16 (.inl (jo_ia 17))))))) (jt_n 29 (jt_n 22 (jt_n 18 (jt_l 17 (.inl (jo_al 18 0))) (jt_n 21 (jt_l 18 (.inl (jo_gf 21 2 2))) (jt_l 21 (.inl (jo_il 22 2))))) (jt_n 23 (jt_l 22 (.inl (jo_ia 23))) (jt_n 26 (jt_l 23 (.inr (.inl (33, 3, 26, some 4)))) (jt_l 26 (.inl (jo_if 29 31 (fun x => decide (x = 0)))))))) (jt_n 34 (jt_n 30 (jt_l 29 (.inl (jo_c 30 (nI 1)))) (jt_n 31 (jt_l 30 (.inr (.inr 2))) (jt_l 31 (.inl (jo_inc 34 3 2 (nI 1)))))) (jt_n 37 (jt_l 34 (.inl (jo_go 2))) (jt_n 38 (jt_l 37 (.inl (jo_c 38 (nI 0)))) (jt_l 38 (.inr (.inr 2))))))))
/-- TalkBench$Likeness.<init>()V -/
def jc_21 : Nat → Option jxI := (jt_n 12 (jt_n 5 (jt_n 1 (jt_l 0 (.inl (jo_al 1 0))) (jt_n 4 (jt_l 1 (.inl (jo_oi 4))) (jt_l 4 (.inl (jo_al 5 0))))) (jt_n 7 (jt_l 5 (.inl (jo_c 7 (nI 6)))) (jt_n 8 (jt_l 7 (.inl (jo_c 8 (nI 5)))) (jt_l 8 (.inl (jo_mm 12)))))) (jt_n 18 (jt_n 15 (jt_l 12 (.inl (jo_pf 15 3 0 2))) (jt_n 16 (jt_l 15 (.inl (jo_al 16 0))) (jt_l 16 (.inl (jo_c 18 (nI 6)))))) (jt_n 23 (jt_n 19 (jt_l 18 (.inl (jo_c 19 (nI 5)))) (jt_l 19 (.inl (jo_mm 23)))) (jt_n 26 (jt_l 23 (.inl (jo_pf 26 3 1 2))) (jt_l 26 (.inr (.inr 0)))))))
/-- TalkBench$Likeness.isReordered(LTalkBench$Task;LTalkBench$Task;)Z -/
def jc_22 : Nat → Option jxI := (jt_n 28 (jt_n 16 (jt_n 8 (jt_n 4 (jt_n 1 (jt_l 0 (.inl (jo_al 1 1))) (jt_l 1 (.inl (jo_gf 4 10 0)))) (jt_n 5 (jt_l 4 (.inl (jo_al 5 2))) (jt_l 5 (.inl (jo_gf 8 10 0))))) (jt_n 12 (jt_n 11 (jt_l 8 (.inl (jo_ic 11 22 (fun x y => decide (¬ x = y))))) (jt_l 11 (.inl (jo_al 12 1)))) (jt_n 15 (jt_l 12 (.inl (jo_gf 15 10 1))) (jt_l 15 (.inl (jo_al 16 2)))))) (jt_n 24 (jt_n 22 (jt_n 19 (jt_l 16 (.inl (jo_gf 19 10 1))) (jt_l 19 (.inl (jo_ic 22 24 (fun x y => decide (x = y)))))) (jt_n 23 (jt_l 22 (.inl (jo_c 23 (nI 0)))) (jt_l 23 (.inr (.inr 2))))) (jt_n 26 (jt_n 25 (jt_l 24 (.inl (jo_c 25 (nI 0)))) (jt_l 25 (.inl (jo_is 26 4 3)))) (jt_n 27 (jt_l 26 (.inl (jo_il 27 3))) (jt_l 27 (.inl (jo_al 28 1))))))) (jt_n 44 (jt_n 38 (jt_n 34 (jt_n 31 (jt_l 28 (.inl (jo_gf 31 10 0))) (jt_l 31 (.inl (jo_ic 34 50 (fun x y => decide (y ≤ x)))))) (jt_n 35 (jt_l 34 (.inl (jo_al 35 0))) (jt_l 35 (.inl (jo_gf 38 3 0))))) (jt_n 40 (jt_n 39 (jt_l 38 (.inl (jo_il 39 3))) (jt_l 39 (.inl (jo_al 40 1)))) (jt_n 41 (jt_l 40 (.inl (jo_il 41 3))) (jt_l 41 (.inr (.inl (24, 4, 44, none))))))) (jt_n 52 (jt_n 50 (jt_n 47 (jt_l 44 (.inl (jo_inc 47 4 3 (nI 1)))) (jt_l 47 (.inl (jo_go 26)))) (jt_n 51 (jt_l 50 (.inl (jo_al 51 0))) (jt_l 51 (.inl (jo_c 52 (nI 0)))))) (jt_n 54 (jt_n 53 (jt_l 52 (.inl (jo_c 53 (nI 0)))) (jt_l 53 (.inl (jo_al 54 2)))) (jt_n 57 (jt_l 54 (.inr (.inl (23, 4, 57, some 3)))) (jt_l 57 (.inr (.inr 2))))))))
/-- TalkBench$Likeness.matchRest(IILTalkBench$Task;)Z -/
def jc_23 : Nat → Option jxI := (jt_n 49 (jt_n 25 (jt_n 11 (jt_n 5 (jt_n 1 (jt_l 0 (.inl (jo_il 1 1))) (jt_n 2 (jt_l 1 (.inl (jo_al 2 3))) (jt_l 2 (.inl (jo_gf 5 10 0))))) (jt_n 9 (jt_n 8 (jt_l 5 (.inl (jo_ic 8 10 (fun x y => decide (x < y))))) (jt_l 8 (.inl (jo_c 9 (nI 1))))) (jt_n 10 (jt_l 9 (.inr (.inr 2))) (jt_l 10 (.inl (jo_c 11 (nI 0))))))) (jt_n 16 (jt_n 13 (jt_l 11 (.inl (jo_is 13 5 4))) (jt_n 15 (jt_l 13 (.inl (jo_il 15 4))) (jt_l 15 (.inl (jo_al 16 3))))) (jt_n 22 (jt_n 19 (jt_l 16 (.inl (jo_gf 19 10 0))) (jt_l 19 (.inl (jo_ic 22 93 (fun x y => decide (y ≤ x)))))) (jt_n 23 (jt_l 22 (.inl (jo_il 23 2))) (jt_l 23 (.inl (jo_il 25 4))))))) (jt_n 36 (jt_n 28 (jt_n 26 (jt_l 25 (.inl (jo_b 26 (fun x y => x >>> (y &&& 31))))) (jt_n 27 (jt_l 26 (.inl (jo_c 27 (nI 1)))) (jt_l 27 (.inl (jo_b 28 (fun x y => x &&& y)))))) (jt_n 32 (jt_n 31 (jt_l 28 (.inl (jo_if 31 87 (fun x => decide (¬ x = 0))))) (jt_l 31 (.inl (jo_al 32 0)))) (jt_n 35 (jt_l 32 (.inl (jo_gf 35 3 1))) (jt_l 35 (.inl (jo_il 36 1)))))) (jt_n 43 (jt_n 39 (jt_n 37 (jt_l 36 (.inl (jo_al 37 3))) (jt_l 37 (.inl (jo_il 39 4)))) (jt_n 42 (jt_l 39 (.inr (.inl (24, 4, 42, none)))) (jt_l 42 (.inl (jo_al 43 0))))) (jt_n 47 (jt_n 46 (jt_l 43 (.inl (jo_gf 46 3 0))) (jt_l 46 (.inl (jo_il 47 1)))) (jt_n 48 (jt_l 47 (.inl (jo_c 48 (nI 1)))) (jt_l 48 (.inl (jo_b 49 (fun x y => x + y))))))))) (jt_n 71 (jt_n 58 (jt_n 54 (jt_n 50 (jt_l 49 (.inl (jo_ra 50 4))) (jt_n 51 (jt_l 50 (.inl (jo_al 51 0))) (jt_l 51 (.inl (jo_gf 54 3 1))))) (jt_n 56 (jt_n 55 (jt_l 54 (.inl (jo_il 55 1))) (jt_l 55 (.inl (jo_c 56 (nI 1))))) (jt_n 57 (jt_l 56 (.inl (jo_b 57 (fun x y => x + y)))) (jt_l 57 (.inl (jo_ra 58 4)))))) (jt_n 65 (jt_n 59 (jt_l 58 (.inl (jo_al 59 3))) (jt_n 62 (jt_l 59 (.inl (jo_gf 62 10 1))) (jt_l 62 (.inr (.inl (25, 3, 65, none)))))) (jt_n 69 (jt_n 68 (jt_l 65 (.inl (jo_if 68 87 (fun x => decide (x = 0))))) (jt_l 68 (.inl (jo_al 69 0)))) (jt_n 70 (jt_l 69 (.inl (jo_il 70 1))) (jt_l 70 (.inl (jo_c 71 (nI 1)))))))) (jt_n 79 (jt_n 74 (jt_n 72 (jt_l 71 (.inl (jo_b 72 (fun x y => x + y)))) (jt_n 73 (jt_l 72 (.inl (jo_il 73 2))) (jt_l 73 (.inl (jo_c 74 (nI 1)))))) (jt_n 77 (jt_n 76 (jt_l 74 (.inl (jo_il 76 4))) (jt_l 76 (.inl (jo_b 77 (fun x y => x <<< (y &&& 31)))))) (jt_n 78 (jt_l 77 (.inl (jo_b 78 (fun x y => x ||| y)))) (jt_l 78 (.inl (jo_al 79 3)))))) (jt_n 87 (jt_n 85 (jt_n 82 (jt_l 79 (.inr (.inl (23, 4, 82, some 3)))) (jt_l 82 (.inl (jo_if 85 87 (fun x => decide (x = 0)))))) (jt_n 86 (jt_l 85 (.inl (jo_c 86 (nI 1)))) (jt_l 86 (.inr (.inr 2))))) (jt_n 93 (jt_n 90 (jt_l 87 (.inl (jo_inc 90 5 4 (nI 1)))) (jt_l 90 (.inl (jo_go 13)))) (jt_n 94 (jt_l 93 (.inl (jo_c 94 (nI 0)))) (jt_l 94 (.inr (.inr 2)))))))))
/-- TalkBench$Likeness.addRow([[IILTalkBench$Task;I)V -/
def jc_24 : Nat → Option jxI := (jt_n 23 (jt_n 14 (jt_n 6 (jt_n 3 (jt_n 1 (jt_l 0 (.inl (jo_c 1 (nI 0)))) (jt_l 1 (.inl (jo_is 3 5 4)))) (jt_n 5 (jt_l 3 (.inl (jo_il 5 4))) (jt_l 5 (.inl (jo_al 6 2))))) (jt_n 12 (jt_n 9 (jt_l 6 (.inl (jo_gf 9 10 1))) (jt_l 9 (.inl (jo_ic 12 46 (fun x y => decide (y ≤ x)))))) (jt_n 13 (jt_l 12 (.inl (jo_al 13 0))) (jt_l 13 (.inl (jo_il 14 1)))))) (jt_n 19 (jt_n 16 (jt_n 15 (jt_l 14 (.inl (jo_c 15 (nI 1)))) (jt_l 15 (.inl (jo_b 16 (fun x y => x + y))))) (jt_n 17 (jt_l 16 (.inl (jo_ra 17 4))) (jt_l 17 (.inl (jo_il 19 4))))) (jt_n 21 (jt_n 20 (jt_l 19 (.inl (jo_c 20 (nI 3)))) (jt_l 20 (.inl (jo_al 21 0)))) (jt_n 22 (jt_l 21 (.inl (jo_il 22 1))) (jt_l 22 (.inl (jo_ra 23 4))))))) (jt_n 34 (jt_n 28 (jt_n 26 (jt_n 25 (jt_l 23 (.inl (jo_il 25 4))) (jt_l 25 (.inl (jo_ia 26)))) (jt_n 27 (jt_l 26 (.inl (jo_b 27 (fun x y => x * y)))) (jt_l 27 (.inl (jo_al 28 2))))) (jt_n 32 (jt_n 31 (jt_l 28 (.inl (jo_gf 31 10 2))) (jt_l 31 (.inl (jo_c 32 (nI 5))))) (jt_n 33 (jt_l 32 (.inl (jo_il 33 3))) (jt_l 33 (.inl (jo_b 34 (fun x y => x * y))))))) (jt_n 39 (jt_n 37 (jt_n 36 (jt_l 34 (.inl (jo_il 36 4))) (jt_l 36 (.inl (jo_b 37 (fun x y => x + y))))) (jt_n 38 (jt_l 37 (.inl (jo_ia 38))) (jt_l 38 (.inl (jo_b 39 (fun x y => x + y)))))) (jt_n 43 (jt_n 40 (jt_l 39 (.inl (jo_iw 40))) (jt_l 40 (.inl (jo_inc 43 5 4 (nI 1))))) (jt_n 46 (jt_l 43 (.inl (jo_go 3))) (jt_l 46 (.inr (.inr 0))))))))
/-- TalkBench$Likeness.haveSameColumns([I[II)Z -/
def jc_25 : Nat → Option jxI := (jt_n 23 (jt_n 11 (jt_n 3 (jt_n 1 (jt_l 0 (.inl (jo_c 1 (nI 0)))) (jt_n 2 (jt_l 1 (.inl (jo_is 2 6 3))) (jt_l 2 (.inl (jo_c 3 (nI 0)))))) (jt_n 7 (jt_n 5 (jt_l 3 (.inl (jo_is 5 6 4))) (jt_l 5 (.inl (jo_il 7 4)))) (jt_n 8 (jt_l 7 (.inl (jo_il 8 2))) (jt_l 8 (.inl (jo_ic 11 44 (fun x y => decide (y ≤ x)))))))) (jt_n 15 (jt_n 13 (jt_n 12 (jt_l 11 (.inl (jo_al 12 1))) (jt_l 12 (.inl (jo_il 13 2)))) (jt_n 14 (jt_l 13 (.inl (jo_il 14 3))) (jt_l 14 (.inl (jo_al 15 0))))) (jt_n 18 (jt_n 17 (jt_l 15 (.inl (jo_il 17 4))) (jt_l 17 (.inl (jo_ia 18)))) (jt_n 21 (jt_l 18 (.inr (.inl (26, 4, 21, none)))) (jt_l 21 (.inl (jo_is 23 6 5))))))) (jt_n 33 (jt_n 29 (jt_n 25 (jt_l 23 (.inl (jo_il 25 5))) (jt_n 26 (jt_l 25 (.inl (jo_il 26 2))) (jt_l 26 (.inl (jo_ic 29 31 (fun x y => decide (¬ x = y))))))) (jt_n 31 (jt_n 30 (jt_l 29 (.inl (jo_c 30 (nI 0)))) (jt_l 30 (.inr (.inr 2)))) (jt_n 32 (jt_l 31 (.inl (jo_il 32 3))) (jt_l 32 (.inl (jo_c 33 (nI 1))))))) (jt_n 38 (jt_n 36 (jt_n 35 (jt_l 33 (.inl (jo_il 35 5))) (jt_l 35 (.inl (jo_b 36 (fun x y => x <<< (y &&& 31)))))) (jt_n 37 (jt_l 36 (.inl (jo_b 37 (fun x y => x ||| y)))) (jt_l 37 (.inl (jo_is 38 6 3))))) (jt_n 44 (jt_n 41 (jt_l 38 (.inl (jo_inc 41 6 4 (nI 1)))) (jt_l 41 (.inl (jo_go 5)))) (jt_n 45 (jt_l 44 (.inl (jo_c 45 (nI 1)))) (jt_l 45 (.inr (.inr 2))))))))
/-- TalkBench$Likeness.findFree([IIII)I -/
def jc_26 : Nat → Option jxI := (jt_n 17 (jt_n 9 (jt_n 3 (jt_n 1 (jt_l 0 (.inl (jo_c 1 (nI 0)))) (jt_l 1 (.inl (jo_is 3 5 4)))) (jt_n 5 (jt_l 3 (.inl (jo_il 5 4))) (jt_n 6 (jt_l 5 (.inl (jo_il 6 1))) (jt_l 6 (.inl (jo_ic 9 33 (fun x y => decide (y ≤ x)))))))) (jt_n 12 (jt_n 10 (jt_l 9 (.inl (jo_al 10 0))) (jt_l 10 (.inl (jo_il 12 4)))) (jt_n 13 (jt_l 12 (.inl (jo_ia 13))) (jt_n 14 (jt_l 13 (.inl (jo_il 14 3))) (jt_l 14 (.inl (jo_ic 17 27 (fun x y => decide (¬ x = y))))))))) (jt_n 23 (jt_n 20 (jt_n 18 (jt_l 17 (.inl (jo_il 18 2))) (jt_l 18 (.inl (jo_il 20 4)))) (jt_n 21 (jt_l 20 (.inl (jo_b 21 (fun x y => x >>> (y &&& 31))))) (jt_n 22 (jt_l 21 (.inl (jo_c 22 (nI 1)))) (jt_l 22 (.inl (jo_b 23 (fun x y => x &&& y))))))) (jt_n 30 (jt_n 24 (jt_l 23 (.inl (jo_c 24 (nI 1)))) (jt_n 27 (jt_l 24 (.inl (jo_ic 27 33 (fun x y => decide (¬ x = y))))) (jt_l 27 (.inl (jo_inc 30 5 4 (nI 1)))))) (jt_n 33 (jt_l 30 (.inl (jo_go 3))) (jt_n 35 (jt_l 33 (.inl (jo_il 35 4))) (jt_l 35 (.inr (.inr 1))))))))
/-- TalkBench$Marks.<init>()V -/
def jc_27 : Nat → Option jxI := (jt_n 9 (jt_n 4 (jt_n 1 (jt_l 0 (.inl (jo_al 1 0))) (jt_l 1 (.inl (jo_oi 4)))) (jt_n 5 (jt_l 4 (.inl (jo_al 5 0))) (jt_n 7 (jt_l 5 (.inl (jo_c 7 (nI 32)))) (jt_l 7 (.inl (jo_ni 9)))))) (jt_n 15 (jt_n 12 (jt_l 9 (.inl (jo_pf 12 4 2 2))) (jt_n 13 (jt_l 12 (.inl (jo_al 13 0))) (jt_l 13 (.inl (jo_c 15 (nI 32)))))) (jt_n 17 (jt_l 15 (.inl (jo_ni 17))) (jt_n 20 (jt_l 17 (.inl (jo_pf 20 4 3 2))) (jt_l 20 (.inr (.inr 0)))))))
/-- TalkBench$Marks.read(LTalkBench$Task;)V -/
def jc_28 : Nat → Option jxI := (jt_n 60 (jt_n 26 (jt_n 13 (jt_n 6 (jt_n 2 (jt_n 1 (jt_l 0 (.inl (jo_al 1 0))) (jt_l 1 (.inl (jo_c 2 (nI 1))))) (jt_n 3 (jt_l 2 (.inl (jo_al 3 1))) (jt_l 3 (.inl (jo_gf 6 10 0))))) (jt_n 8 (jt_n 7 (jt_l 6 (.inl (jo_b 7 (fun x y => x <<< (y &&& 31))))) (jt_l 7 (.inl (jo_c 8 (nI 1))))) (jt_n 9 (jt_l 8 (.inl (jo_b 9 (fun x y => x - y)))) (jt_n 12 (jt_l 9 (.inl (jo_pf 12 4 0 0))) (jt_l 12 (.inl (jo_al 13 0))))))) (jt_n 19 (jt_n 15 (jt_n 14 (jt_l 13 (.inl (jo_c 14 (nI 1)))) (jt_l 14 (.inl (jo_al 15 1)))) (jt_n 18 (jt_l 15 (.inl (jo_gf 18 10 1))) (jt_l 18 (.inl (jo_b 19 (fun x y => x <<< (y &&& 31))))))) (jt_n 21 (jt_n 20 (jt_l 19 (.inl (jo_c 20 (nI 1)))) (jt_l 20 (.inl (jo_b 21 (fun x y => x - y))))) (jt_n 24 (jt_l 21 (.inl (jo_pf 24 4 1 0))) (jt_n 25 (jt_l 24 (.inl (jo_c 25 (nI 0)))) (jt_l 25 (.inl (jo_is 26 4 2)))))))) (jt_n 43 (jt_n 34 (jt_n 28 (jt_n 27 (jt_l 26 (.inl (jo_il 27 2))) (jt_l 27 (.inl (jo_al 28 1)))) (jt_n 31 (jt_l 28 (.inl (jo_gf 31 10 0))) (jt_l 31 (.inl (jo_ic 34 46 (fun x y => decide (y ≤ x))))))) (jt_n 36 (jt_n 35 (jt_l 34 (.inl (jo_al 35 0))) (jt_l 35 (.inl (jo_al 36 1)))) (jt_n 37 (jt_l 36 (.inl (jo_il 37 2))) (jt_n 40 (jt_l 37 (.inr (.inl (29, 3, 40, some 4)))) (jt_l 40 (.inl (jo_inc 43 4 2 (nI 1)))))))) (jt_n 49 (jt_n 47 (jt_n 46 (jt_l 43 (.inl (jo_go 26))) (jt_l 46 (.inl (jo_c 47 (nI 1))))) (jt_n 48 (jt_l 47 (.inl (jo_is 48 4 2))) (jt_l 48 (.inl (jo_il 49 2))))) (jt_n 53 (jt_n 50 (jt_l 49 (.inl (jo_al 50 0))) (jt_l 50 (.inl (jo_gf 53 4 0)))) (jt_n 56 (jt_l 53 (.inl (jo_ic 56 114 (fun x y => decide (y < x))))) (jt_n 57 (jt_l 56 (.inl (jo_il 57 2))) (jt_l 57 (.inr (.inl (127, 1, 60, none)))))))))) (jt_n 86 (jt_n 75 (jt_n 66 (jt_n 62 (jt_n 61 (jt_l 60 (.inl (jo_is 61 4 3))) (jt_l 61 (.inl (jo_il 62 2)))) (jt_n 63 (jt_l 62 (.inl (jo_il 63 3))) (jt_l 63 (.inl (jo_ic 66 108 (fun x y => decide (x = y))))))) (jt_n 70 (jt_n 67 (jt_l 66 (.inl (jo_al 67 0))) (jt_l 67 (.inl (jo_gf 70 4 2)))) (jt_n 71 (jt_l 70 (.inl (jo_il 71 2))) (jt_n 72 (jt_l 71 (.inl (jo_al 72 0))) (jt_l 72 (.inl (jo_gf 75 4 2))))))) (jt_n 81 (jt_n 77 (jt_n 76 (jt_l 75 (.inl (jo_il 76 3))) (jt_l 76 (.inl (jo_ia 77)))) (jt_n 78 (jt_l 77 (.inl (jo_al 78 0))) (jt_l 78 (.inl (jo_gf 81 4 2))))) (jt_n 83 (jt_n 82 (jt_l 81 (.inl (jo_il 82 2))) (jt_l 82 (.inl (jo_il 83 3)))) (jt_n 84 (jt_l 83 (.inl (jo_b 84 (fun x y => x - y)))) (jt_n 85 (jt_l 84 (.inl (jo_ia 85))) (jt_l 85 (.inl (jo_b 86 (fun x y => x ||| y))))))))) (jt_n 99 (jt_n 92 (jt_n 88 (jt_n 87 (jt_l 86 (.inl (jo_iw 87))) (jt_l 87 (.inl (jo_al 88 0)))) (jt_n 91 (jt_l 88 (.inl (jo_gf 91 4 3))) (jt_l 91 (.inl (jo_il 92 2))))) (jt_n 96 (jt_n 93 (jt_l 92 (.inl (jo_al 93 0))) (jt_l 93 (.inl (jo_gf 96 4 3)))) (jt_n 97 (jt_l 96 (.inl (jo_il 97 3))) (jt_n 98 (jt_l 97 (.inl (jo_ia 98))) (jt_l 98 (.inl (jo_al 99 0))))))) (jt_n 106 (jt_n 103 (jt_n 102 (jt_l 99 (.inl (jo_gf 102 4 3))) (jt_l 102 (.inl (jo_il 103 2)))) (jt_n 104 (jt_l 103 (.inl (jo_il 104 3))) (jt_n 105 (jt_l 104 (.inl (jo_b 105 (fun x y => x - y)))) (jt_l 105 (.inl (jo_ia 106)))))) (jt_n 108 (jt_n 107 (jt_l 106 (.inl (jo_b 107 (fun x y => x ||| y)))) (jt_l 107 (.inl (jo_iw 108)))) (jt_n 111 (jt_l 108 (.inl (jo_inc 111 4 2 (nI 1)))) (jt_n 114 (jt_l 111 (.inl (jo_go 48))) (jt_l 114 (.inr (.inr 0))))))))))
/-- TalkBench$Marks.readRow(LTalkBench$Task;I)V -/
def jc_29 : Nat → Option jxI := (jt_n 42 (jt_n 22 (jt_n 8 (jt_n 3 (jt_n 1 (jt_l 0 (.inl (jo_c 1 (nI 0)))) (jt_n 2 (jt_l 1 (.inl (jo_is 2 7 3))) (jt_l 2 (.inl (jo_c 3 (nI 0)))))) (jt_n 5 (jt_l 3 (.inl (jo_is 5 7 4))) (jt_n 6 (jt_l 5 (.inl (jo_c 6 (nI 0)))) (jt_l 6 (.inl (jo_is 8 7 5)))))) (jt_n 14 (jt_n 10 (jt_l 8 (.inl (jo_il 10 5))) (jt_n 11 (jt_l 10 (.inl (jo_al 11 1))) (jt_l 11 (.inl (jo_gf 14 10 1))))) (jt_n 18 (jt_n 17 (jt_l 14 (.inl (jo_ic 17 66 (fun x y => decide (y ≤ x))))) (jt_l 17 (.inl (jo_al 18 1)))) (jt_n 21 (jt_l 18 (.inl (jo_gf 21 10 2))) (jt_l 21 (.inl (jo_c 22 (nI 5)))))))) (jt_n 32 (jt_n 26 (jt_n 23 (jt_l 22 (.inl (jo_il 23 2))) (jt_n 24 (jt_l 23 (.inl (jo_b 24 (fun x y => x * y)))) (jt_l 24 (.inl (jo_il 26 5))))) (jt_n 28 (jt_n 27 (jt_l 26 (.inl (jo_b 27 (fun x y => x + y)))) (jt_l 27 (.inl (jo_ia 28)))) (jt_n 30 (jt_l 28 (.inl (jo_is 30 7 6))) (jt_l 30 (.inl (jo_il 32 6)))))) (jt_n 37 (jt_n 33 (jt_l 32 (.inl (jo_c 33 (nI 1)))) (jt_n 36 (jt_l 33 (.inl (jo_ic 36 46 (fun x y => decide (¬ x = y))))) (jt_l 36 (.inl (jo_il 37 3))))) (jt_n 40 (jt_n 38 (jt_l 37 (.inl (jo_c 38 (nI 1)))) (jt_l 38 (.inl (jo_il 40 5)))) (jt_n 41 (jt_l 40 (.inl (jo_b 41 (fun x y => x <<< (y &&& 31))))) (jt_l 41 (.inl (jo_b 42 (fun x y => x ||| y))))))))) (jt_n 67 (jt_n 54 (jt_n 48 (jt_n 43 (jt_l 42 (.inl (jo_is 43 7 3))) (jt_n 46 (jt_l 43 (.inl (jo_go 60))) (jt_l 46 (.inl (jo_il 48 6))))) (jt_n 51 (jt_l 48 (.inl (jo_if 51 60 (fun x => decide (¬ x = 0))))) (jt_n 53 (jt_l 51 (.inl (jo_il 53 4))) (jt_l 53 (.inl (jo_c 54 (nI 1))))))) (jt_n 58 (jt_n 56 (jt_l 54 (.inl (jo_il 56 5))) (jt_n 57 (jt_l 56 (.inl (jo_b 57 (fun x y => x <<< (y &&& 31))))) (jt_l 57 (.inl (jo_b 58 (fun x y => x ||| y)))))) (jt_n 63 (jt_n 60 (jt_l 58 (.inl (jo_is 60 7 4))) (jt_l 60 (.inl (jo_inc 63 7 5 (nI 1))))) (jt_n 66 (jt_l 63 (.inl (jo_go 8))) (jt_l 66 (.inl (jo_al 67 0))))))) (jt_n 76 (jt_n 72 (jt_n 70 (jt_l 67 (.inl (jo_gf 70 4 2))) (jt_n 71 (jt_l 70 (.inl (jo_c 71 (nI 1)))) (jt_l 71 (.inl (jo_il 72 2))))) (jt_n 74 (jt_n 73 (jt_l 72 (.inl (jo_b 73 (fun x y => x <<< (y &&& 31))))) (jt_l 73 (.inl (jo_il 74 3)))) (jt_n 75 (jt_l 74 (.inl (jo_iw 75))) (jt_l 75 (.inl (jo_al 76 0)))))) (jt_n 81 (jt_n 79 (jt_l 76 (.inl (jo_gf 79 4 3))) (jt_n 80 (jt_l 79 (.inl (jo_c 80 (nI 1)))) (jt_l 80 (.inl (jo_il 81 2))))) (jt_n 84 (jt_n 82 (jt_l 81 (.inl (jo_b 82 (fun x y => x <<< (y &&& 31))))) (jt_l 82 (.inl (jo_il 84 4)))) (jt_n 85 (jt_l 84 (.inl (jo_iw 85))) (jt_l 85 (.inr (.inr 0)))))))))
/-- TalkBench$Marks.hasBlock(II)Z -/
def jc_30 : Nat → Option jxI := (jt_n 15 (jt_n 6 (jt_n 2 (jt_n 1 (jt_l 0 (.inl (jo_il 1 1))) (jt_l 1 (.inl (jo_c 2 (nI 1))))) (jt_n 5 (jt_l 2 (.inl (jo_ic 5 30 (fun x y => decide (x < y))))) (jt_l 5 (.inl (jo_il 6 1))))) (jt_n 10 (jt_n 7 (jt_l 6 (.inl (jo_al 7 0))) (jt_l 7 (.inl (jo_gf 10 4 0)))) (jt_n 13 (jt_l 10 (.inl (jo_ic 13 30 (fun x y => decide (y < x))))) (jt_n 14 (jt_l 13 (.inl (jo_il 14 2))) (jt_l 14 (.inl (jo_c 15 (nI 1)))))))) (jt_n 23 (jt_n 19 (jt_n 18 (jt_l 15 (.inl (jo_ic 18 30 (fun x y => decide (x < y))))) (jt_l 18 (.inl (jo_il 19 2)))) (jt_n 20 (jt_l 19 (.inl (jo_al 20 0))) (jt_l 20 (.inl (jo_gf 23 4 1))))) (jt_n 27 (jt_n 26 (jt_l 23 (.inl (jo_ic 26 30 (fun x y => decide (y < x))))) (jt_l 26 (.inl (jo_c 27 (nI 1))))) (jt_n 30 (jt_l 27 (.inl (jo_go 31))) (jt_n 31 (jt_l 30 (.inl (jo_c 31 (nI 0)))) (jt_l 31 (.inr (.inr 2))))))))
/-- TalkBench$Marks.isEven(II)Z -/
def jc_31 : Nat → Option jxI := (jt_n 15 (jt_n 6 (jt_n 4 (jt_n 1 (jt_l 0 (.inl (jo_al 1 0))) (jt_l 1 (.inl (jo_gf 4 4 2)))) (jt_n 5 (jt_l 4 (.inl (jo_il 5 1))) (jt_l 5 (.inl (jo_ia 6))))) (jt_n 8 (jt_n 7 (jt_l 6 (.inl (jo_il 7 2))) (jt_l 7 (.inl (jo_b 8 (fun x y => x &&& y))))) (jt_n 11 (jt_l 8 (.inl (jo_if 11 22 (fun x => decide (x = 0))))) (jt_n 12 (jt_l 11 (.inl (jo_al 12 0))) (jt_l 12 (.inl (jo_gf 15 4 3))))))) (jt_n 19 (jt_n 17 (jt_n 16 (jt_l 15 (.inl (jo_il 16 1))) (jt_l 16 (.inl (jo_ia 17)))) (jt_n 18 (jt_l 17 (.inl (jo_il 18 2))) (jt_l 18 (.inl (jo_b 19 (fun x y => x &&& y)))))) (jt_n 23 (jt_n 22 (jt_l 19 (.inl (jo_if 22 26 (fun x => decide (¬ x = 0))))) (jt_l 22 (.inl (jo_c 23 (nI 1))))) (jt_n 26 (jt_l 23 (.inl (jo_go 27))) (jt_n 27 (jt_l 26 (.inl (jo_c 27 (nI 0)))) (jt_l 27 (.inr (.inr 2))))))))
/-- TalkBench$Marks.columnsWith(II)I -/
def jc_32 : Nat → Option jxI := (jt_n 10 (jt_n 5 (jt_n 1 (jt_l 0 (.inl (jo_il 1 1))) (jt_n 2 (jt_l 1 (.inl (jo_c 2 (nI 1)))) (jt_l 2 (.inl (jo_ic 5 14 (fun x y => decide (¬ x = y))))))) (jt_n 6 (jt_l 5 (.inl (jo_al 6 0))) (jt_n 9 (jt_l 6 (.inl (jo_gf 9 4 2))) (jt_l 9 (.inl (jo_il 10 2)))))) (jt_n 15 (jt_n 11 (jt_l 10 (.inl (jo_ia 11))) (jt_n 14 (jt_l 11 (.inl (jo_go 20))) (jt_l 14 (.inl (jo_al 15 0))))) (jt_n 19 (jt_n 18 (jt_l 15 (.inl (jo_gf 18 4 3))) (jt_l 18 (.inl (jo_il 19 2)))) (jt_n 20 (jt_l 19 (.inl (jo_ia 20))) (jt_l 20 (.inr (.inr 1)))))))
/-- TalkBench$Marks.areInOneEvenBlock(II)Z -/
def jc_33 : Nat → Option jxI := (jt_n 14 (jt_n 7 (jt_n 3 (jt_n 1 (jt_l 0 (.inl (jo_c 1 (nI 1)))) (jt_n 2 (jt_l 1 (.inl (jo_il 2 1))) (jt_l 2 (.inl (jo_c 3 (nI 5)))))) (jt_n 5 (jt_n 4 (jt_l 3 (.inl (jo_q 4 (fun x y => x / y)))) (jt_l 4 (.inl (jo_b 5 (fun x y => x <<< (y &&& 31)))))) (jt_n 6 (jt_l 5 (.inl (jo_c 6 (nI 1)))) (jt_l 6 (.inl (jo_il 7 2)))))) (jt_n 10 (jt_n 8 (jt_l 7 (.inl (jo_c 8 (nI 5)))) (jt_n 9 (jt_l 8 (.inl (jo_q 9 (fun x y => x / y)))) (jt_l 9 (.inl (jo_b 10 (fun x y => x <<< (y &&& 31))))))) (jt_n 12 (jt_n 11 (jt_l 10 (.inl (jo_b 11 (fun x y => x ||| y)))) (jt_l 11 (.inl (jo_is 12 5 3)))) (jt_n 13 (jt_l 12 (.inl (jo_c 13 (nI 1)))) (jt_l 13 (.inl (jo_il 14 1))))))) (jt_n 21 (jt_n 17 (jt_n 15 (jt_l 14 (.inl (jo_c 15 (nI 5)))) (jt_n 16 (jt_l 15 (.inl (jo_q 16 (fun x y => x - x / y * y)))) (jt_l 16 (.inl (jo_b 17 (fun x y => x <<< (y &&& 31))))))) (jt_n 19 (jt_n 18 (jt_l 17 (.inl (jo_c 18 (nI 1)))) (jt_l 18 (.inl (jo_il 19 2)))) (jt_n 20 (jt_l 19 (.inl (jo_c 20 (nI 5)))) (jt_l 20 (.inl (jo_q 21 (fun x y => x - x / y * y))))))) (jt_n 26 (jt_n 23 (jt_n 22 (jt_l 21 (.inl (jo_b 22 (fun x y => x <<< (y &&& 31))))) (jt_l 22 (.inl (jo_b 23 (fun x y => x ||| y))))) (jt_n 25 (jt_l 23 (.inl (jo_is 25 5 4))) (jt_l 25 (.inl (jo_al 26 0))))) (jt_n 29 (jt_n 27 (jt_l 26 (.inl (jo_il 27 3))) (jt_l 27 (.inl (jo_il 29 4)))) (jt_n 32 (jt_l 29 (.inr (.inl (31, 3, 32, some 4)))) (jt_l 32 (.inr (.inr 2))))))))
/-- TalkBench$Partings.<init>()V -/
def jc_34 : Nat → Option jxI := (jt_n 43 (jt_n 24 (jt_n 13 (jt_n 5 (jt_n 1 (jt_l 0 (.inl (jo_al 1 0))) (jt_n 4 (jt_l 1 (.inl (jo_oi 4))) (jt_l 4 (.inl (jo_al 5 0))))) (jt_n 9 (jt_n 7 (jt_l 5 (.inl (jo_c 7 (nI 33)))) (jt_l 7 (.inl (jo_ni 9)))) (jt_n 12 (jt_l 9 (.inl (jo_pf 12 5 0 2))) (jt_l 12 (.inl (jo_al 13 0)))))) (jt_n 20 (jt_n 15 (jt_l 13 (.inl (jo_c 15 (nI 90)))) (jt_n 17 (jt_l 15 (.inl (jo_ni 17))) (jt_l 17 (.inl (jo_pf 20 5 1 2))))) (jt_n 22 (jt_n 21 (jt_l 20 (.inl (jo_c 21 (nI 0)))) (jt_l 21 (.inl (jo_is 22 5 1)))) (jt_n 23 (jt_l 22 (.inl (jo_c 23 (nI 0)))) (jt_l 23 (.inl (jo_is 24 5 2))))))) (jt_n 36 (jt_n 30 (jt_n 25 (jt_l 24 (.inl (jo_il 25 2))) (jt_n 27 (jt_l 25 (.inl (jo_c 27 (nI 32)))) (jt_l 27 (.inl (jo_ic 30 90 (fun x y => decide (y ≤ x))))))) (jt_n 34 (jt_n 31 (jt_l 30 (.inl (jo_al 31 0))) (jt_l 31 (.inl (jo_gf 34 5 0)))) (jt_n 35 (jt_l 34 (.inl (jo_il 35 2))) (jt_l 35 (.inl (jo_il 36 1)))))) (jt_n 39 (jt_n 37 (jt_l 36 (.inl (jo_iw 37))) (jt_n 38 (jt_l 37 (.inl (jo_il 38 2))) (jt_l 38 (.inl (jo_il 39 2))))) (jt_n 41 (jt_n 40 (jt_l 39 (.inl (jo_c 40 (nI 1)))) (jt_l 40 (.inl (jo_b 41 (fun x y => x - y))))) (jt_n 42 (jt_l 41 (.inl (jo_b 42 (fun x y => x &&& y)))) (jt_l 42 (.inl (jo_is 43 5 3)))))))) (jt_n 68 (jt_n 55 (jt_n 48 (jt_n 44 (jt_l 43 (.inl (jo_c 44 (nI 1)))) (jt_n 46 (jt_l 44 (.inl (jo_is 46 5 4))) (jt_l 46 (.inl (jo_il 48 4))))) (jt_n 52 (jt_n 49 (jt_l 48 (.inl (jo_il 49 3))) (jt_l 49 (.inl (jo_ic 52 84 (fun x y => decide (y < x)))))) (jt_n 53 (jt_l 52 (.inl (jo_il 53 1))) (jt_l 53 (.inl (jo_c 55 (nI 90))))))) (jt_n 61 (jt_n 58 (jt_l 55 (.inl (jo_ic 58 84 (fun x y => decide (y ≤ x))))) (jt_n 60 (jt_l 58 (.inl (jo_il 60 4))) (jt_l 60 (.inl (jo_il 61 3))))) (jt_n 64 (jt_n 62 (jt_l 61 (.inl (jo_b 62 (fun x y => x &&& y)))) (jt_l 62 (.inl (jo_il 64 4)))) (jt_n 67 (jt_l 64 (.inl (jo_ic 67 78 (fun x y => decide (¬ x = y))))) (jt_l 67 (.inl (jo_al 68 0))))))) (jt_n 84 (jt_n 74 (jt_n 71 (jt_l 68 (.inl (jo_gf 71 5 1))) (jt_n 72 (jt_l 71 (.inl (jo_il 72 1))) (jt_l 72 (.inl (jo_il 74 4))))) (jt_n 78 (jt_n 75 (jt_l 74 (.inl (jo_iw 75))) (jt_l 75 (.inl (jo_inc 78 5 1 (nI 1))))) (jt_n 81 (jt_l 78 (.inl (jo_inc 81 5 4 (nI 1)))) (jt_l 81 (.inl (jo_go 46)))))) (jt_n 94 (jt_n 90 (jt_n 87 (jt_l 84 (.inl (jo_inc 87 5 2 (nI 1)))) (jt_l 87 (.inl (jo_go 24)))) (jt_n 91 (jt_l 90 (.inl (jo_al 91 0))) (jt_l 91 (.inl (jo_gf 94 5 0))))) (jt_n 97 (jt_n 96 (jt_l 94 (.inl (jo_c 96 (nI 32)))) (jt_l 96 (.inl (jo_il 97 1)))) (jt_n 98 (jt_l 97 (.inl (jo_iw 98))) (jt_l 98 (.inr (.inr 0)))))))))
/-- TalkBench$Scales.<init>(LTalkBench$Task;LTalkBench$Marks;LTalkBench$Partings;)V -/
def jc_35 : Nat → Option jxI := (jt_n 32 (jt_n 14 (jt_n 5 (jt_n 1 (jt_l 0 (.inl (jo_al 1 0))) (jt_n 4 (jt_l 1 (.inl (jo_oi 4))) (jt_l 4 (.inl (jo_al 5 0))))) (jt_n 10 (jt_n 8 (jt_l 5 (.inl (jo_c 8 (nI 1024)))) (jt_l 8 (.inl (jo_ni 10)))) (jt_n 13 (jt_l 10 (.inl (jo_pf 13 6 3 2))) (jt_l 13 (.inl (jo_al 14 0)))))) (jt_n 23 (jt_n 19 (jt_n 17 (jt_l 14 (.inl (jo_c 17 (nI 1024)))) (jt_l 17 (.inl (jo_ni 19)))) (jt_n 22 (jt_l 19 (.inl (jo_pf 22 6 4 2))) (jt_l 22 (.inl (jo_al 23 0))))) (jt_n 28 (jt_n 26 (jt_l 23 (.inl (jo_c 26 (nI 1024)))) (jt_l 26 (.inl (jo_ni 28)))) (jt_n 31 (jt_l 28 (.inl (jo_pf 31 6 5 2))) (jt_l 31 (.inl (jo_al 32 0))))))) (jt_n 46 (jt_n 40 (jt_n 36 (jt_n 34 (jt_l 32 (.inl (jo_c 34 (nI 7)))) (jt_l 34 (.inl (jo_ni 36)))) (jt_n 39 (jt_l 36 (.inl (jo_pf 39 6 6 2))) (jt_l 39 (.inl (jo_al 40 0))))) (jt_n 44 (jt_n 41 (jt_l 40 (.inl (jo_c 41 (-1)))) (jt_l 41 (.inl (jo_pf 44 6 7 0)))) (jt_n 45 (jt_l 44 (.inl (jo_al 45 0))) (jt_l 45 (.inl (jo_al 46 1)))))) (jt_n 54 (jt_n 50 (jt_n 49 (jt_l 46 (.inl (jo_pf 49 6 0 2))) (jt_l 49 (.inl (jo_al 50 0)))) (jt_n 51 (jt_l 50 (.inl (jo_al 51 2))) (jt_l 51 (.inl (jo_pf 54 6 1 2))))) (jt_n 56 (jt_n 55 (jt_l 54 (.inl (jo_al 55 0))) (jt_l 55 (.inl (jo_al 56 3)))) (jt_n 59 (jt_l 56 (.inl (jo_pf 59 6 2 2))) (jt_l 59 (.inr (.inr 0))))))))
/-- TalkBench$Scales.forget()V -/
def jc_36 : Nat → Option jxI := (jt_n 2 (jt_n 1 (jt_l 0 (.inl (jo_al 1 0))) (jt_l 1 (.inl (jo_c 2 (-1))))) (jt_n 5 (jt_l 2 (.inl (jo_pf 5 6 7 0))) (jt_l 5 (.inr (.inr 0)))))
/-- TalkBench$Scales.greatestDifference()I -/
def jc_37 : Nat → Option jxI := (jt_n 34 (jt_n 16 (jt_n 7 (jt_n 4 (jt_n 1 (jt_l 0 (.inl (jo_al 1 0))) (jt_l 1 (.inr (.inl (39, 1, 4, some 6))))) (jt_n 5 (jt_l 4 (.inl (jo_c 5 (nI 0)))) (jt_n 6 (jt_l 5 (.inl (jo_is 6 5 1))) (jt_l 6 (.inl (jo_c 7 (nI 1))))))) (jt_n 9 (jt_n 8 (jt_l 7 (.inl (jo_is 8 5 2))) (jt_l 8 (.inl (jo_il 9 2)))) (jt_n 10 (jt_l 9 (.inl (jo_al 10 0))) (jt_n 13 (jt_l 10 (.inl (jo_gf 13 6 1))) (jt_l 13 (.inl (jo_gf 16 4 0))))))) (jt_n 23 (jt_n 20 (jt_n 19 (jt_l 16 (.inl (jo_ic 19 74 (fun x y => decide (y < x))))) (jt_l 19 (.inl (jo_c 20 (nI 1))))) (jt_n 21 (jt_l 20 (.inl (jo_is 21 5 3))) (jt_n 22 (jt_l 21 (.inl (jo_il 22 3))) (jt_l 22 (.inl (jo_al 23 0)))))) (jt_n 29 (jt_n 26 (jt_l 23 (.inl (jo_gf 26 6 1))) (jt_l 26 (.inl (jo_gf 29 4 1)))) (jt_n 32 (jt_l 29 (.inl (jo_ic 32 68 (fun x y => decide (y < x))))) (jt_n 33 (jt_l 32 (.inl (jo_il 33 2))) (jt_l 33 (.inl (jo_il 34 3)))))))) (jt_n 53 (jt_n 44 (jt_n 39 (jt_n 37 (jt_l 34 (.inr (.inl (128, 2, 37, none)))) (jt_l 37 (.inl (jo_is 39 5 4)))) (jt_n 40 (jt_l 39 (.inl (jo_il 40 1))) (jt_n 41 (jt_l 40 (.inl (jo_al 41 0))) (jt_l 41 (.inl (jo_gf 44 6 3)))))) (jt_n 47 (jt_n 46 (jt_l 44 (.inl (jo_il 46 4))) (jt_l 46 (.inl (jo_ia 47)))) (jt_n 48 (jt_l 47 (.inl (jo_al 48 0))) (jt_n 51 (jt_l 48 (.inl (jo_gf 51 6 4))) (jt_l 51 (.inl (jo_il 53 4))))))) (jt_n 62 (jt_n 55 (jt_n 54 (jt_l 53 (.inl (jo_ia 54))) (jt_l 54 (.inl (jo_b 55 (fun x y => x - y))))) (jt_n 58 (jt_l 55 (.inl (jo_m1 58 (fun x => if 0 ≤ x then x else 0 - x)))) (jt_n 61 (jt_l 58 (.inl (jo_m2 61 (fun x y => if x < y then y else x)))) (jt_l 61 (.inl (jo_is 62 5 1)))))) (jt_n 71 (jt_n 65 (jt_l 62 (.inl (jo_inc 65 5 3 (nI 1)))) (jt_n 68 (jt_l 65 (.inl (jo_go 21))) (jt_l 68 (.inl (jo_inc 71 5 2 (nI 1)))))) (jt_n 74 (jt_l 71 (.inl (jo_go 8))) (jt_n 75 (jt_l 74 (.inl (jo_il 75 1))) (jt_l 75 (.inr (.inr 1)))))))))
/-- TalkBench$Scales.leastLoss(I)I -/
def jc_38 : Nat → Option jxI := (jt_n 39 (jt_n 22 (jt_n 11 (jt_n 4 (jt_n 1 (jt_l 0 (.inl (jo_al 1 0))) (jt_l 1 (.inr (.inl (39, 1, 4, some 6))))) (jt_n 5 (jt_l 4 (.inl (jo_al 5 0))) (jt_n 8 (jt_l 5 (.inl (jo_gf 8 6 1))) (jt_l 8 (.inl (jo_gf 11 4 0)))))) (jt_n 15 (jt_n 12 (jt_l 11 (.inl (jo_al 12 0))) (jt_l 12 (.inl (jo_gf 15 6 1)))) (jt_n 18 (jt_l 15 (.inl (jo_gf 18 4 1))) (jt_n 21 (jt_l 18 (.inr (.inl (128, 2, 21, none)))) (jt_l 21 (.inl (jo_is 22 4 2))))))) (jt_n 29 (jt_n 26 (jt_n 23 (jt_l 22 (.inl (jo_al 23 0))) (jt_l 23 (.inl (jo_gf 26 6 7)))) (jt_n 27 (jt_l 26 (.inl (jo_c 27 (nI 1)))) (jt_n 28 (jt_l 27 (.inl (jo_b 28 (fun x y => x + y)))) (jt_l 28 (.inl (jo_is 29 4 3)))))) (jt_n 34 (jt_n 30 (jt_l 29 (.inl (jo_il 30 3))) (jt_n 31 (jt_l 30 (.inl (jo_il 31 1))) (jt_l 31 (.inl (jo_ic 34 70 (fun x y => decide (y < x))))))) (jt_n 35 (jt_l 34 (.inl (jo_al 35 0))) (jt_n 38 (jt_l 35 (.inl (jo_gf 38 6 5))) (jt_l 38 (.inl (jo_il 39 2)))))))) (jt_n 58 (jt_n 48 (jt_n 43 (jt_n 40 (jt_l 39 (.inl (jo_ia 40))) (jt_l 40 (.inl (jo_if 43 47 (fun x => decide (x ≤ 0)))))) (jt_n 44 (jt_l 43 (.inl (jo_al 44 0))) (jt_n 47 (jt_l 44 (.inr (.inl (42, 1, 47, some 6)))) (jt_l 47 (.inl (jo_al 48 0)))))) (jt_n 53 (jt_n 51 (jt_l 48 (.inl (jo_gf 51 6 6))) (jt_n 52 (jt_l 51 (.inl (jo_il 52 3))) (jt_l 52 (.inl (jo_al 53 0))))) (jt_n 56 (jt_l 53 (.inl (jo_gf 56 6 5))) (jt_n 57 (jt_l 56 (.inl (jo_il 57 2))) (jt_l 57 (.inl (jo_ia 58))))))) (jt_n 67 (jt_n 60 (jt_n 59 (jt_l 58 (.inl (jo_iw 59))) (jt_l 59 (.inl (jo_al 60 0)))) (jt_n 61 (jt_l 60 (.inl (jo_il 61 3))) (jt_n 64 (jt_l 61 (.inl (jo_pf 64 6 7 0))) (jt_l 64 (.inl (jo_inc 67 4 3 (nI 1))))))) (jt_n 74 (jt_n 70 (jt_l 67 (.inl (jo_go 29))) (jt_n 71 (jt_l 70 (.inl (jo_al 71 0))) (jt_l 71 (.inl (jo_gf 74 6 6))))) (jt_n 75 (jt_l 74 (.inl (jo_il 75 1))) (jt_n 76 (jt_l 75 (.inl (jo_ia 76))) (jt_l 76 (.inr (.inr 1)))))))))
/-- TalkBench$Scales.weighBlocks()V -/
def jc_39 : Nat → Option jxI := (jt_n 38 (jt_n 19 (jt_n 9 (jt_n 4 (jt_n 1 (jt_l 0 (.inl (jo_al 1 0))) (jt_l 1 (.inl (jo_gf 4 6 7)))) (jt_n 5 (jt_l 4 (.inl (jo_c 5 (-1)))) (jt_n 8 (jt_l 5 (.inl (jo_ic 8 9 (fun x y => decide (x = y))))) (jt_l 8 (.inr (.inr 0)))))) (jt_n 12 (jt_n 10 (jt_l 9 (.inl (jo_c 10 (nI 1)))) (jt_n 11 (jt_l 10 (.inl (jo_is 11 3 1))) (jt_l 11 (.inl (jo_il 12 1))))) (jt_n 13 (jt_l 12 (.inl (jo_al 13 0))) (jt_n 16 (jt_l 13 (.inl (jo_gf 16 6 1))) (jt_l 16 (.inl (jo_gf 19 4 0))))))) (jt_n 26 (jt_n 23 (jt_n 22 (jt_l 19 (.inl (jo_ic 22 53 (fun x y => decide (y < x))))) (jt_l 22 (.inl (jo_c 23 (nI 1))))) (jt_n 24 (jt_l 23 (.inl (jo_is 24 3 2))) (jt_n 25 (jt_l 24 (.inl (jo_il 25 2))) (jt_l 25 (.inl (jo_al 26 0)))))) (jt_n 35 (jt_n 29 (jt_l 26 (.inl (jo_gf 29 6 1))) (jt_n 32 (jt_l 29 (.inl (jo_gf 32 4 1))) (jt_l 32 (.inl (jo_ic 35 47 (fun x y => decide (y < x))))))) (jt_n 36 (jt_l 35 (.inl (jo_al 36 0))) (jt_n 37 (jt_l 36 (.inl (jo_il 37 1))) (jt_l 37 (.inl (jo_il 38 2)))))))) (jt_n 63 (jt_n 53 (jt_n 44 (jt_n 41 (jt_l 38 (.inr (.inl (40, 3, 41, some 6)))) (jt_l 41 (.inl (jo_inc 44 3 2 (nI 1))))) (jt_n 47 (jt_l 44 (.inl (jo_go 24))) (jt_n 50 (jt_l 47 (.inl (jo_inc 50 3 1 (nI 1)))) (jt_l 50 (.inl (jo_go 11)))))) (jt_n 58 (jt_n 54 (jt_l 53 (.inl (jo_al 54 0))) (jt_n 55 (jt_l 54 (.inl (jo_c 55 (nI 0)))) (jt_l 55 (.inl (jo_pf 58 6 7 0))))) (jt_n 59 (jt_l 58 (.inl (jo_al 59 0))) (jt_n 62 (jt_l 59 (.inl (jo_gf 62 6 6))) (jt_l 62 (.inl (jo_c 63 (nI 0)))))))) (jt_n 75 (jt_n 68 (jt_n 64 (jt_l 63 (.inl (jo_al 64 0))) (jt_n 67 (jt_l 64 (.inl (jo_gf 67 6 5))) (jt_l 67 (.inl (jo_al 68 0))))) (jt_n 71 (jt_l 68 (.inl (jo_gf 71 6 1))) (jt_n 74 (jt_l 71 (.inl (jo_gf 74 4 0))) (jt_l 74 (.inl (jo_al 75 0)))))) (jt_n 84 (jt_n 78 (jt_l 75 (.inl (jo_gf 78 6 1))) (jt_n 81 (jt_l 78 (.inl (jo_gf 81 4 1))) (jt_l 81 (.inr (.inl (128, 2, 84, none)))))) (jt_n 85 (jt_l 84 (.inl (jo_ia 85))) (jt_n 86 (jt_l 85 (.inl (jo_iw 86))) (jt_l 86 (.inr (.inr 0)))))))))
/-- TalkBench$Scales.weighBlock(II)V -/
def jc_40 : Nat → Option jxI := (jt_n 87 (jt_n 43 (jt_n 21 (jt_n 10 (jt_n 5 (jt_n 1 (jt_l 0 (.inl (jo_il 1 1))) (jt_n 2 (jt_l 1 (.inl (jo_il 2 2))) (jt_l 2 (.inr (.inl (128, 2, 5, none)))))) (jt_n 6 (jt_l 5 (.inl (jo_is 6 7 3))) (jt_n 7 (jt_l 6 (.inl (jo_il 7 1))) (jt_l 7 (.inr (.inl (127, 1, 10, none))))))) (jt_n 16 (jt_n 12 (jt_l 10 (.inl (jo_is 12 7 4))) (jt_n 13 (jt_l 12 (.inl (jo_il 13 2))) (jt_l 13 (.inr (.inl (127, 1, 16, none)))))) (jt_n 18 (jt_l 16 (.inl (jo_is 18 7 5))) (jt_n 19 (jt_l 18 (.inl (jo_il 19 1))) (jt_l 19 (.inl (jo_il 21 4))))))) (jt_n 32 (jt_n 26 (jt_n 24 (jt_l 21 (.inl (jo_ic 24 46 (fun x y => decide (x = y))))) (jt_n 25 (jt_l 24 (.inl (jo_al 25 0))) (jt_l 25 (.inl (jo_il 26 3))))) (jt_n 28 (jt_l 26 (.inl (jo_il 28 4))) (jt_n 29 (jt_l 28 (.inl (jo_il 29 2))) (jt_l 29 (.inr (.inl (128, 2, 32, none))))))) (jt_n 36 (jt_n 33 (jt_l 32 (.inl (jo_il 33 1))) (jt_n 35 (jt_l 33 (.inl (jo_il 35 4))) (jt_l 35 (.inl (jo_b 36 (fun x y => x - y)))))) (jt_n 37 (jt_l 36 (.inl (jo_il 37 2))) (jt_n 40 (jt_l 37 (.inr (.inl (128, 2, 40, none)))) (jt_l 40 (.inr (.inl (41, 4, 43, some 6))))))))) (jt_n 64 (jt_n 54 (jt_n 49 (jt_n 46 (jt_l 43 (.inl (jo_go 154))) (jt_n 47 (jt_l 46 (.inl (jo_il 47 2))) (jt_l 47 (.inl (jo_il 49 5))))) (jt_n 52 (jt_l 49 (.inl (jo_ic 52 74 (fun x y => decide (x = y))))) (jt_n 53 (jt_l 52 (.inl (jo_al 53 0))) (jt_l 53 (.inl (jo_il 54 3)))))) (jt_n 60 (jt_n 55 (jt_l 54 (.inl (jo_il 55 1))) (jt_n 57 (jt_l 55 (.inl (jo_il 57 5))) (jt_l 57 (.inr (.inl (128, 2, 60, none)))))) (jt_n 61 (jt_l 60 (.inl (jo_il 61 1))) (jt_n 62 (jt_l 61 (.inl (jo_il 62 2))) (jt_l 62 (.inl (jo_il 64 5))))))) (jt_n 76 (jt_n 71 (jt_n 65 (jt_l 64 (.inl (jo_b 65 (fun x y => x - y)))) (jt_n 68 (jt_l 65 (.inr (.inl (128, 2, 68, none)))) (jt_l 68 (.inr (.inl (41, 4, 71, some 6)))))) (jt_n 74 (jt_l 71 (.inl (jo_go 154))) (jt_n 75 (jt_l 74 (.inl (jo_c 75 (nI 5)))) (jt_l 75 (.inl (jo_il 76 1)))))) (jt_n 81 (jt_n 79 (jt_l 76 (.inr (.inl (126, 1, 79, none)))) (jt_n 80 (jt_l 79 (.inl (jo_b 80 (fun x y => x * y)))) (jt_l 80 (.inl (jo_il 81 2))))) (jt_n 84 (jt_l 81 (.inr (.inl (126, 1, 84, none)))) (jt_n 85 (jt_l 84 (.inl (jo_b 85 (fun x y => x + y)))) (jt_l 85 (.inl (jo_is 87 7 6))))))))) (jt_n 133 (jt_n 110 (jt_n 99 (jt_n 92 (jt_n 88 (jt_l 87 (.inl (jo_al 88 0))) (jt_n 91 (jt_l 88 (.inl (jo_gf 91 6 3))) (jt_l 91 (.inl (jo_il 92 3))))) (jt_n 93 (jt_l 92 (.inl (jo_al 93 0))) (jt_n 96 (jt_l 93 (.inl (jo_gf 96 6 0))) (jt_l 96 (.inl (jo_gf 99 10 2)))))) (jt_n 103 (jt_n 101 (jt_l 99 (.inl (jo_il 101 6))) (jt_n 102 (jt_l 101 (.inl (jo_ia 102))) (jt_l 102 (.inl (jo_c 103 (nI 1)))))) (jt_n 106 (jt_l 103 (.inl (jo_ic 106 119 (fun x y => decide (¬ x = y))))) (jt_n 107 (jt_l 106 (.inl (jo_al 107 0))) (jt_l 107 (.inl (jo_gf 110 6 0))))))) (jt_n 121 (jt_n 116 (jt_n 113 (jt_l 110 (.inl (jo_gf 113 10 3))) (jt_n 115 (jt_l 113 (.inl (jo_il 115 6))) (jt_l 115 (.inl (jo_ia 116))))) (jt_n 119 (jt_l 116 (.inl (jo_go 120))) (jt_n 120 (jt_l 119 (.inl (jo_c 120 (nI 0)))) (jt_l 120 (.inl (jo_iw 121)))))) (jt_n 126 (jt_n 122 (jt_l 121 (.inl (jo_al 122 0))) (jt_n 125 (jt_l 122 (.inl (jo_gf 125 6 4))) (jt_l 125 (.inl (jo_il 126 3))))) (jt_n 127 (jt_l 126 (.inl (jo_al 127 0))) (jt_n 130 (jt_l 127 (.inl (jo_gf 130 6 0))) (jt_l 130 (.inl (jo_gf 133 10 2)))))))) (jt_n 155 (jt_n 146 (jt_n 139 (jt_n 135 (jt_l 133 (.inl (jo_il 135 6))) (jt_n 136 (jt_l 135 (.inl (jo_ia 136))) (jt_l 136 (.inl (jo_if 139 152 (fun x => decide (¬ x = 0))))))) (jt_n 140 (jt_l 139 (.inl (jo_al 140 0))) (jt_n 143 (jt_l 140 (.inl (jo_gf 143 6 0))) (jt_l 143 (.inl (jo_gf 146 10 3)))))) (jt_n 152 (jt_n 148 (jt_l 146 (.inl (jo_il 148 6))) (jt_n 149 (jt_l 148 (.inl (jo_ia 149))) (jt_l 149 (.inl (jo_go 153))))) (jt_n 153 (jt_l 152 (.inl (jo_c 153 (nI 0)))) (jt_n 154 (jt_l 153 (.inl (jo_iw 154))) (jt_l 154 (.inl (jo_al 155 0))))))) (jt_n 165 (jt_n 160 (jt_n 158 (jt_l 155 (.inl (jo_gf 158 6 5))) (jt_n 159 (jt_l 158 (.inl (jo_il 159 3))) (jt_l 159 (.inl (jo_al 160 0))))) (jt_n 163 (jt_l 160 (.inl (jo_gf 163 6 3))) (jt_n 164 (jt_l 163 (.inl (jo_il 164 3))) (jt_l 164 (.inl (jo_ia 165)))))) (jt_n 170 (jt_n 166 (jt_l 165 (.inl (jo_al 166 0))) (jt_n 169 (jt_l 166 (.inl (jo_gf 169 6 4))) (jt_l 169 (.inl (jo_il 170 3))))) (jt_n 174 (jt_n 171 (jt_l 170 (.inl (jo_ia 171))) (jt_l 171 (.inl (jo_m2 174 (fun x y => if y < x then y else x))))) (jt_n 175 (jt_l 174 (.inl (jo_iw 175))) (jt_l 175 (.inr (.inr 0))))))))))
/-- TalkBench$Scales.addUp(III)V -/
def jc_41 : Nat → Option jxI := (jt_n 19 (jt_n 10 (jt_n 5 (jt_n 1 (jt_l 0 (.inl (jo_al 1 0))) (jt_n 4 (jt_l 1 (.inl (jo_gf 4 6 3))) (jt_l 4 (.inl (jo_il 5 1))))) (jt_n 6 (jt_l 5 (.inl (jo_al 6 0))) (jt_n 9 (jt_l 6 (.inl (jo_gf 9 6 3))) (jt_l 9 (.inl (jo_il 10 2)))))) (jt_n 15 (jt_n 11 (jt_l 10 (.inl (jo_ia 11))) (jt_n 12 (jt_l 11 (.inl (jo_al 12 0))) (jt_l 12 (.inl (jo_gf 15 6 3))))) (jt_n 17 (jt_n 16 (jt_l 15 (.inl (jo_il 16 3))) (jt_l 16 (.inl (jo_ia 17)))) (jt_n 18 (jt_l 17 (.inl (jo_b 18 (fun x y => x + y)))) (jt_l 18 (.inl (jo_iw 19))))))) (jt_n 30 (jt_n 24 (jt_n 20 (jt_l 19 (.inl (jo_al 20 0))) (jt_n 23 (jt_l 20 (.inl (jo_gf 23 6 4))) (jt_l 23 (.inl (jo_il 24 1))))) (jt_n 28 (jt_n 25 (jt_l 24 (.inl (jo_al 25 0))) (jt_l 25 (.inl (jo_gf 28 6 4)))) (jt_n 29 (jt_l 28 (.inl (jo_il 29 2))) (jt_l 29 (.inl (jo_ia 30)))))) (jt_n 35 (jt_n 31 (jt_l 30 (.inl (jo_al 31 0))) (jt_n 34 (jt_l 31 (.inl (jo_gf 34 6 4))) (jt_l 34 (.inl (jo_il 35 3))))) (jt_n 37 (jt_n 36 (jt_l 35 (.inl (jo_ia 36))) (jt_l 36 (.inl (jo_b 37 (fun x y => x + y))))) (jt_n 38 (jt_l 37 (.inl (jo_iw 38))) (jt_l 38 (.inr (.inr 0))))))))
/-- TalkBench$Scales.allowOneBitMore()V -/
def jc_42 : Nat → Option jxI := (jt_n 33 (jt_n 17 (jt_n 8 (jt_n 4 (jt_n 1 (jt_l 0 (.inl (jo_al 1 0))) (jt_l 1 (.inl (jo_gf 4 6 1)))) (jt_n 7 (jt_l 4 (.inl (jo_gf 7 4 0))) (jt_l 7 (.inl (jo_is 8 4 1))))) (jt_n 10 (jt_n 9 (jt_l 8 (.inl (jo_il 9 1))) (jt_l 9 (.inl (jo_c 10 (nI 1))))) (jt_n 13 (jt_l 10 (.inl (jo_ic 13 68 (fun x y => decide (x < y))))) (jt_n 14 (jt_l 13 (.inl (jo_al 14 0))) (jt_l 14 (.inl (jo_gf 17 6 1))))))) (jt_n 26 (jt_n 21 (jt_n 20 (jt_l 17 (.inl (jo_gf 20 4 1))) (jt_l 20 (.inl (jo_is 21 4 2)))) (jt_n 22 (jt_l 21 (.inl (jo_il 22 2))) (jt_n 23 (jt_l 22 (.inl (jo_c 23 (nI 1)))) (jt_l 23 (.inl (jo_ic 26 62 (fun x y => decide (x < y)))))))) (jt_n 28 (jt_n 27 (jt_l 26 (.inl (jo_il 27 1))) (jt_l 27 (.inl (jo_il 28 2)))) (jt_n 31 (jt_l 28 (.inr (.inl (128, 2, 31, none)))) (jt_n 32 (jt_l 31 (.inl (jo_is 32 4 3))) (jt_l 32 (.inl (jo_al 33 0)))))))) (jt_n 49 (jt_n 41 (jt_n 37 (jt_n 36 (jt_l 33 (.inl (jo_gf 36 6 5))) (jt_l 36 (.inl (jo_il 37 3)))) (jt_n 38 (jt_l 37 (.inl (jo_ia 38))) (jt_l 38 (.inl (jo_if 41 56 (fun x => decide (x ≤ 0))))))) (jt_n 43 (jt_n 42 (jt_l 41 (.inl (jo_al 42 0))) (jt_l 42 (.inl (jo_il 43 3)))) (jt_n 44 (jt_l 43 (.inl (jo_il 44 1))) (jt_n 46 (jt_l 44 (.inl (jo_c 46 (nI 32)))) (jt_l 46 (.inr (.inl (43, 4, 49, some 6)))))))) (jt_n 56 (jt_n 51 (jt_n 50 (jt_l 49 (.inl (jo_al 50 0))) (jt_l 50 (.inl (jo_il 51 3)))) (jt_n 52 (jt_l 51 (.inl (jo_il 52 2))) (jt_n 53 (jt_l 52 (.inl (jo_c 53 (nI 1)))) (jt_l 53 (.inr (.inl (43, 4, 56, some 6))))))) (jt_n 62 (jt_n 59 (jt_l 56 (.inl (jo_inc 59 4 2 (-1)))) (jt_l 59 (.inl (jo_go 21)))) (jt_n 65 (jt_l 62 (.inl (jo_inc 65 4 1 (-1)))) (jt_n 68 (jt_l 65 (.inl (jo_go 8))) (jt_l 68 (.inr (.inr 0)))))))))
/-- TalkBench$Scales.tryPartings(III)V -/
def jc_43 : Nat → Option jxI := (jt_n 52 (jt_n 28 (jt_n 12 (jt_n 5 (jt_n 1 (jt_l 0 (.inl (jo_al 1 0))) (jt_n 4 (jt_l 1 (.inl (jo_gf 4 6 5))) (jt_l 4 (.inl (jo_il 5 1))))) (jt_n 8 (jt_n 6 (jt_l 5 (.inl (jo_ia 6))) (jt_l 6 (.inl (jo_is 8 8 4)))) (jt_n 9 (jt_l 8 (.inl (jo_al 9 0))) (jt_l 9 (.inl (jo_gf 12 6 2)))))) (jt_n 19 (jt_n 16 (jt_n 15 (jt_l 12 (.inl (jo_gf 15 5 0))) (jt_l 15 (.inl (jo_il 16 2)))) (jt_n 17 (jt_l 16 (.inl (jo_ia 17))) (jt_l 17 (.inl (jo_is 19 8 5))))) (jt_n 22 (jt_n 21 (jt_l 19 (.inl (jo_il 21 5))) (jt_l 21 (.inl (jo_al 22 0)))) (jt_n 25 (jt_l 22 (.inl (jo_gf 25 6 2))) (jt_l 25 (.inl (jo_gf 28 5 0))))))) (jt_n 40 (jt_n 32 (jt_n 30 (jt_n 29 (jt_l 28 (.inl (jo_il 29 2))) (jt_l 29 (.inl (jo_c 30 (nI 1))))) (jt_n 31 (jt_l 30 (.inl (jo_b 31 (fun x y => x + y)))) (jt_l 31 (.inl (jo_ia 32))))) (jt_n 36 (jt_n 35 (jt_l 32 (.inl (jo_ic 35 97 (fun x y => decide (y ≤ x))))) (jt_l 35 (.inl (jo_il 36 1)))) (jt_n 37 (jt_l 36 (.inl (jo_al 37 0))) (jt_l 37 (.inl (jo_gf 40 6 2)))))) (jt_n 47 (jt_n 45 (jt_n 43 (jt_l 40 (.inl (jo_gf 43 5 1))) (jt_l 43 (.inl (jo_il 45 5)))) (jt_n 46 (jt_l 45 (.inl (jo_ia 46))) (jt_l 46 (.inl (jo_il 47 3))))) (jt_n 49 (jt_n 48 (jt_l 47 (.inl (jo_b 48 (fun x y => x * y)))) (jt_l 48 (.inl (jo_b 49 (fun x y => x - y))))) (jt_n 51 (jt_l 49 (.inl (jo_is 51 8 6))) (jt_l 51 (.inl (jo_il 52 1)))))))) (jt_n 77 (jt_n 64 (jt_n 57 (jt_n 53 (jt_l 52 (.inl (jo_il 53 2))) (jt_n 54 (jt_l 53 (.inl (jo_al 54 0))) (jt_l 54 (.inl (jo_gf 57 6 2))))) (jt_n 62 (jt_n 60 (jt_l 57 (.inl (jo_gf 60 5 1))) (jt_l 60 (.inl (jo_il 62 5)))) (jt_n 63 (jt_l 62 (.inl (jo_ia 63))) (jt_l 63 (.inl (jo_b 64 (fun x y => x - y))))))) (jt_n 69 (jt_n 66 (jt_n 65 (jt_l 64 (.inl (jo_il 65 3))) (jt_l 65 (.inl (jo_b 66 (fun x y => x * y))))) (jt_n 67 (jt_l 66 (.inl (jo_b 67 (fun x y => x - y)))) (jt_l 67 (.inl (jo_is 69 8 7))))) (jt_n 72 (jt_n 71 (jt_l 69 (.inl (jo_il 71 4))) (jt_l 71 (.inl (jo_al 72 0)))) (jt_n 75 (jt_l 72 (.inl (jo_gf 75 6 5))) (jt_l 75 (.inl (jo_il 77 6))))))) (jt_n 91 (jt_n 84 (jt_n 79 (jt_n 78 (jt_l 77 (.inl (jo_ia 78))) (jt_l 78 (.inl (jo_al 79 0)))) (jt_n 82 (jt_l 79 (.inl (jo_gf 82 6 5))) (jt_l 82 (.inl (jo_il 84 7))))) (jt_n 86 (jt_n 85 (jt_l 84 (.inl (jo_ia 85))) (jt_l 85 (.inl (jo_b 86 (fun x y => x + y))))) (jt_n 89 (jt_l 86 (.inl (jo_m2 89 (fun x y => if y < x then y else x)))) (jt_l 89 (.inl (jo_is 91 8 4)))))) (jt_n 101 (jt_n 97 (jt_n 94 (jt_l 91 (.inl (jo_inc 94 8 5 (nI 1)))) (jt_l 94 (.inl (jo_go 19)))) (jt_n 98 (jt_l 97 (.inl (jo_al 98 0))) (jt_l 98 (.inl (jo_gf 101 6 5))))) (jt_n 104 (jt_n 102 (jt_l 101 (.inl (jo_il 102 1))) (jt_l 102 (.inl (jo_il 104 4)))) (jt_n 105 (jt_l 104 (.inl (jo_iw 105))) (jt_l 105 (.inr (.inr 0)))))))))
/-- TalkBench$Searches.<init>(LTalkBench$Task;LTalkBench$Marks;)V -/
def jc_44 : Nat → Option jxI := (jt_n 15 (jt_n 7 (jt_n 4 (jt_n 1 (jt_l 0 (.inl (jo_al 1 0))) (jt_l 1 (.inl (jo_oi 4)))) (jt_n 5 (jt_l 4 (.inl (jo_al 5 0))) (jt_l 5 (.inl (jo_c 7 (nI 25)))))) (jt_n 12 (jt_n 9 (jt_l 7 (.inl (jo_ni 9))) (jt_l 9 (.inl (jo_pf 12 7 2 2)))) (jt_n 13 (jt_l 12 (.inl (jo_al 13 0))) (jt_l 13 (.inl (jo_c 15 (nI 32))))))) (jt_n 22 (jt_n 20 (jt_n 17 (jt_l 15 (.inl (jo_ni 17))) (jt_l 17 (.inl (jo_pf 20 7 3 2)))) (jt_n 21 (jt_l 20 (.inl (jo_al 21 0))) (jt_l 21 (.inl (jo_al 22 1))))) (jt_n 26 (jt_n 25 (jt_l 22 (.inl (jo_pf 25 7 0 2))) (jt_l 25 (.inl (jo_al 26 0)))) (jt_n 27 (jt_l 26 (.inl (jo_al 27 2))) (jt_n 30 (jt_l 27 (.inl (jo_pf 30 7 1 2))) (jt_l 30 (.inr (.inr 0))))))))
/-- TalkBench$Searches.greatestFooling(I)I -/
def jc_45 : Nat → Option jxI := (jt_n 28 (jt_n 14 (jt_n 6 (jt_n 2 (jt_n 1 (jt_l 0 (.inl (jo_al 1 0))) (jt_l 1 (.inl (jo_il 2 1)))) (jt_n 5 (jt_l 2 (.inr (.inl (46, 2, 5, some 7)))) (jt_l 5 (.inl (jo_is 6 4 2))))) (jt_n 8 (jt_n 7 (jt_l 6 (.inl (jo_c 7 (nI 0)))) (jt_l 7 (.inl (jo_is 8 4 3)))) (jt_n 9 (jt_l 8 (.inl (jo_il 9 3))) (jt_n 11 (jt_l 9 (.inl (jo_c 11 (nI 25)))) (jt_l 11 (.inl (jo_ic 14 45 (fun x y => decide (y ≤ x))))))))) (jt_n 21 (jt_n 18 (jt_n 15 (jt_l 14 (.inl (jo_al 15 0))) (jt_l 15 (.inl (jo_gf 18 7 2)))) (jt_n 19 (jt_l 18 (.inl (jo_il 19 3))) (jt_n 20 (jt_l 19 (.inl (jo_il 20 2))) (jt_l 20 (.inl (jo_il 21 3)))))) (jt_n 23 (jt_n 22 (jt_l 21 (.inl (jo_b 22 (fun x y => x >>> (y &&& 31))))) (jt_l 22 (.inl (jo_c 23 (nI 1))))) (jt_n 24 (jt_l 23 (.inl (jo_b 24 (fun x y => x &&& y)))) (jt_n 25 (jt_l 24 (.inl (jo_c 25 (nI 1)))) (jt_l 25 (.inl (jo_ic 28 37 (fun x y => decide (¬ x = y)))))))))) (jt_n 46 (jt_n 37 (jt_n 30 (jt_n 29 (jt_l 28 (.inl (jo_al 29 0))) (jt_l 29 (.inl (jo_il 30 3)))) (jt_n 31 (jt_l 30 (.inl (jo_il 31 2))) (jt_n 34 (jt_l 31 (.inr (.inl (47, 3, 34, some 7)))) (jt_l 34 (.inl (jo_go 38)))))) (jt_n 39 (jt_n 38 (jt_l 37 (.inl (jo_c 38 (nI 0)))) (jt_l 38 (.inl (jo_iw 39)))) (jt_n 42 (jt_l 39 (.inl (jo_inc 42 4 3 (nI 1)))) (jt_n 45 (jt_l 42 (.inl (jo_go 8))) (jt_l 45 (.inl (jo_al 46 0))))))) (jt_n 53 (jt_n 50 (jt_n 47 (jt_l 46 (.inl (jo_c 47 (nI 0)))) (jt_l 47 (.inl (jo_pf 50 7 5 0)))) (jt_n 51 (jt_l 50 (.inl (jo_al 51 0))) (jt_n 52 (jt_l 51 (.inl (jo_c 52 (nI 0)))) (jt_l 52 (.inl (jo_il 53 2)))))) (jt_n 57 (jt_n 54 (jt_l 53 (.inl (jo_c 54 (nI 0)))) (jt_l 54 (.inr (.inl (48, 4, 57, some 7))))) (jt_n 58 (jt_l 57 (.inl (jo_al 58 0))) (jt_n 61 (jt_l 58 (.inl (jo_gf 61 7 5))) (jt_l 61 (.inr (.inr 1)))))))))
/-- TalkBench$Searches.placesThatAre(I)I -/
def jc_46 : Nat → Option jxI := (jt_n 21 (jt_n 6 (jt_n 3 (jt_n 1 (jt_l 0 (.inl (jo_c 1 (nI 0)))) (jt_n 2 (jt_l 1 (.inl (jo_is 2 4 2))) (jt_l 2 (.inl (jo_c 3 (nI 0)))))) (jt_n 4 (jt_l 3 (.inl (jo_is 4 4 3))) (jt_n 5 (jt_l 4 (.inl (jo_il 5 3))) (jt_l 5 (.inl (jo_al 6 0)))))) (jt_n 15 (jt_n 9 (jt_l 6 (.inl (jo_gf 9 7 0))) (jt_n 12 (jt_l 9 (.inl (jo_gf 12 10 0))) (jt_l 12 (.inl (jo_ic 15 39 (fun x y => decide (y ≤ x))))))) (jt_n 17 (jt_n 16 (jt_l 15 (.inl (jo_il 16 2))) (jt_l 16 (.inl (jo_al 17 0)))) (jt_n 20 (jt_l 17 (.inl (jo_gf 20 7 1))) (jt_l 20 (.inl (jo_il 21 1))))))) (jt_n 30 (jt_n 24 (jt_n 22 (jt_l 21 (.inl (jo_c 22 (nI 1)))) (jt_n 23 (jt_l 22 (.inl (jo_il 23 3))) (jt_l 23 (.inl (jo_b 24 (fun x y => x <<< (y &&& 31))))))) (jt_n 28 (jt_n 27 (jt_l 24 (.inr (.inl (32, 3, 27, some 4)))) (jt_l 27 (.inl (jo_c 28 (nI 5))))) (jt_n 29 (jt_l 28 (.inl (jo_il 29 3))) (jt_l 29 (.inl (jo_b 30 (fun x y => x * y))))))) (jt_n 33 (jt_n 31 (jt_l 30 (.inl (jo_b 31 (fun x y => x <<< (y &&& 31))))) (jt_n 32 (jt_l 31 (.inl (jo_b 32 (fun x y => x ||| y)))) (jt_l 32 (.inl (jo_is 33 4 2))))) (jt_n 39 (jt_n 36 (jt_l 33 (.inl (jo_inc 36 4 3 (nI 1)))) (jt_l 36 (.inl (jo_go 4)))) (jt_n 40 (jt_l 39 (.inl (jo_il 40 2))) (jt_l 40 (.inr (.inr 1))))))))
/-- TalkBench$Searches.placesApart(II)I -/
def jc_47 : Nat → Option jxI := (jt_n 23 (jt_n 12 (jt_n 3 (jt_n 1 (jt_l 0 (.inl (jo_c 1 (nI 0)))) (jt_n 2 (jt_l 1 (.inl (jo_is 2 5 3))) (jt_l 2 (.inl (jo_c 3 (nI 0)))))) (jt_n 7 (jt_n 5 (jt_l 3 (.inl (jo_is 5 5 4))) (jt_l 5 (.inl (jo_il 7 4)))) (jt_n 9 (jt_l 7 (.inl (jo_c 9 (nI 25)))) (jt_l 9 (.inl (jo_ic 12 48 (fun x y => decide (y ≤ x)))))))) (jt_n 17 (jt_n 15 (jt_n 13 (jt_l 12 (.inl (jo_il 13 2))) (jt_l 13 (.inl (jo_il 15 4)))) (jt_n 16 (jt_l 15 (.inl (jo_b 16 (fun x y => x >>> (y &&& 31))))) (jt_l 16 (.inl (jo_c 17 (nI 1)))))) (jt_n 19 (jt_n 18 (jt_l 17 (.inl (jo_b 18 (fun x y => x &&& y)))) (jt_l 18 (.inl (jo_c 19 (nI 1))))) (jt_n 22 (jt_l 19 (.inl (jo_ic 22 42 (fun x y => decide (¬ x = y))))) (jt_l 22 (.inl (jo_al 23 0))))))) (jt_n 37 (jt_n 29 (jt_n 26 (jt_l 23 (.inl (jo_gf 26 7 1))) (jt_n 27 (jt_l 26 (.inl (jo_il 27 1))) (jt_l 27 (.inl (jo_il 29 4))))) (jt_n 35 (jt_n 32 (jt_l 29 (.inr (.inl (33, 3, 32, some 4)))) (jt_l 32 (.inl (jo_if 35 42 (fun x => decide (¬ x = 0)))))) (jt_n 36 (jt_l 35 (.inl (jo_il 36 3))) (jt_l 36 (.inl (jo_c 37 (nI 1))))))) (jt_n 42 (jt_n 40 (jt_n 39 (jt_l 37 (.inl (jo_il 39 4))) (jt_l 39 (.inl (jo_b 40 (fun x y => x <<< (y &&& 31)))))) (jt_n 41 (jt_l 40 (.inl (jo_b 41 (fun x y => x ||| y)))) (jt_l 41 (.inl (jo_is 42 5 3))))) (jt_n 48 (jt_n 45 (jt_l 42 (.inl (jo_inc 45 5 4 (nI 1)))) (jt_l 45 (.inl (jo_go 5)))) (jt_n 49 (jt_l 48 (.inl (jo_il 49 3))) (jt_l 49 (.inr (.inr 1))))))))
/-- TalkBench$Searches.choose(III)V -/
def jc_48 : Nat → Option jxI := (jt_n 76 (jt_n 39 (jt_n 19 (jt_n 7 (jt_n 4 (jt_n 1 (jt_l 0 (.inl (jo_il 1 3))) (jt_l 1 (.inr (.inl (197, 1, 4, none))))) (jt_n 6 (jt_l 4 (.inl (jo_is 6 8 4))) (jt_l 6 (.inl (jo_al 7 0))))) (jt_n 13 (jt_n 10 (jt_l 7 (.inl (jo_gf 10 7 5))) (jt_l 10 (.inr (.inl (197, 1, 13, none))))) (jt_n 15 (jt_l 13 (.inl (jo_is 15 8 5))) (jt_n 17 (jt_l 15 (.inl (jo_il 17 4))) (jt_l 17 (.inl (jo_il 19 5))))))) (jt_n 29 (jt_n 23 (jt_n 22 (jt_l 19 (.inl (jo_ic 22 31 (fun x y => decide (x ≤ y))))) (jt_l 22 (.inl (jo_al 23 0)))) (jt_n 24 (jt_l 23 (.inl (jo_il 24 3))) (jt_n 27 (jt_l 24 (.inl (jo_pf 27 7 5 0))) (jt_l 27 (.inl (jo_il 29 4)))))) (jt_n 32 (jt_n 31 (jt_l 29 (.inl (jo_is 31 8 5))) (jt_l 31 (.inl (jo_il 32 1)))) (jt_n 33 (jt_l 32 (.inl (jo_al 33 0))) (jt_n 36 (jt_l 33 (.inl (jo_gf 36 7 0))) (jt_l 36 (.inl (jo_gf 39 10 0)))))))) (jt_n 56 (jt_n 48 (jt_n 44 (jt_n 42 (jt_l 39 (.inl (jo_ic 42 59 (fun x y => decide (y ≤ x))))) (jt_l 42 (.inl (jo_il 44 4)))) (jt_n 45 (jt_l 44 (.inl (jo_al 45 0))) (jt_l 45 (.inl (jo_gf 48 7 0))))) (jt_n 52 (jt_n 51 (jt_l 48 (.inl (jo_gf 51 10 0))) (jt_l 51 (.inl (jo_b 52 (fun x y => x + y))))) (jt_n 53 (jt_l 52 (.inl (jo_il 53 1))) (jt_n 54 (jt_l 53 (.inl (jo_b 54 (fun x y => x - y)))) (jt_l 54 (.inl (jo_il 56 5))))))) (jt_n 65 (jt_n 60 (jt_n 59 (jt_l 56 (.inl (jo_ic 59 60 (fun x y => decide (y < x))))) (jt_l 59 (.inr (.inr 0)))) (jt_n 61 (jt_l 60 (.inl (jo_c 61 (nI 0)))) (jt_n 63 (jt_l 61 (.inl (jo_is 63 8 6))) (jt_l 63 (.inl (jo_il 65 6)))))) (jt_n 69 (jt_n 66 (jt_l 65 (.inl (jo_al 66 0))) (jt_l 66 (.inl (jo_gf 69 7 0)))) (jt_n 72 (jt_l 69 (.inl (jo_gf 72 10 1))) (jt_n 75 (jt_l 72 (.inl (jo_ic 75 121 (fun x y => decide (y ≤ x))))) (jt_l 75 (.inl (jo_c 76 (nI 5)))))))))) (jt_n 102 (jt_n 88 (jt_n 81 (jt_n 78 (jt_n 77 (jt_l 76 (.inl (jo_il 77 1))) (jt_l 77 (.inl (jo_b 78 (fun x y => x * y))))) (jt_n 80 (jt_l 78 (.inl (jo_il 80 6))) (jt_l 80 (.inl (jo_b 81 (fun x y => x + y)))))) (jt_n 84 (jt_n 83 (jt_l 81 (.inl (jo_is 83 8 7))) (jt_l 83 (.inl (jo_il 84 2)))) (jt_n 86 (jt_l 84 (.inl (jo_il 86 7))) (jt_n 87 (jt_l 86 (.inl (jo_b 87 (fun x y => x >>> (y &&& 31))))) (jt_l 87 (.inl (jo_c 88 (nI 1)))))))) (jt_n 95 (jt_n 90 (jt_n 89 (jt_l 88 (.inl (jo_b 89 (fun x y => x &&& y)))) (jt_l 89 (.inl (jo_c 90 (nI 1))))) (jt_n 93 (jt_l 90 (.inl (jo_ic 93 115 (fun x y => decide (¬ x = y))))) (jt_n 94 (jt_l 93 (.inl (jo_al 94 0))) (jt_l 94 (.inl (jo_il 95 1)))))) (jt_n 97 (jt_n 96 (jt_l 95 (.inl (jo_c 96 (nI 1)))) (jt_l 96 (.inl (jo_b 97 (fun x y => x + y))))) (jt_n 98 (jt_l 97 (.inl (jo_il 98 2))) (jt_n 99 (jt_l 98 (.inl (jo_al 99 0))) (jt_l 99 (.inl (jo_gf 102 7 2)))))))) (jt_n 115 (jt_n 107 (jt_n 105 (jt_n 104 (jt_l 102 (.inl (jo_il 104 7))) (jt_l 104 (.inl (jo_ia 105)))) (jt_n 106 (jt_l 105 (.inl (jo_b 106 (fun x y => x &&& y)))) (jt_l 106 (.inl (jo_il 107 3))))) (jt_n 110 (jt_n 108 (jt_l 107 (.inl (jo_c 108 (nI 1)))) (jt_l 108 (.inl (jo_il 110 7)))) (jt_n 111 (jt_l 110 (.inl (jo_b 111 (fun x y => x <<< (y &&& 31))))) (jt_n 112 (jt_l 111 (.inl (jo_b 112 (fun x y => x ||| y)))) (jt_l 112 (.inr (.inl (48, 4, 115, some 7)))))))) (jt_n 124 (jt_n 121 (jt_n 118 (jt_l 115 (.inl (jo_inc 118 8 6 (nI 1)))) (jt_l 118 (.inl (jo_go 63)))) (jt_n 122 (jt_l 121 (.inl (jo_al 122 0))) (jt_n 123 (jt_l 122 (.inl (jo_il 123 1))) (jt_l 123 (.inl (jo_c 124 (nI 1))))))) (jt_n 126 (jt_n 125 (jt_l 124 (.inl (jo_b 125 (fun x y => x + y)))) (jt_l 125 (.inl (jo_il 126 2)))) (jt_n 127 (jt_l 126 (.inl (jo_il 127 3))) (jt_n 130 (jt_l 127 (.inr (.inl (48, 4, 130, some 7)))) (jt_l 130 (.inr (.inr 0))))))))))
/-- TalkBench$Searches.fewestToCover(I)I -/
def jc_49 : Nat → Option jxI := (jt_n 17 (jt_n 7 (jt_n 2 (jt_n 1 (jt_l 0 (.inl (jo_al 1 0))) (jt_l 1 (.inl (jo_il 2 1)))) (jt_n 5 (jt_l 2 (.inr (.inl (51, 2, 5, some 7)))) (jt_n 6 (jt_l 5 (.inl (jo_al 6 0))) (jt_l 6 (.inl (jo_al 7 0)))))) (jt_n 14 (jt_n 8 (jt_l 7 (.inl (jo_il 8 1))) (jt_n 11 (jt_l 8 (.inr (.inl (45, 2, 11, some 7)))) (jt_l 11 (.inl (jo_pf 14 7 6 0))))) (jt_n 15 (jt_l 14 (.inl (jo_al 15 0))) (jt_n 16 (jt_l 15 (.inl (jo_al 16 0))) (jt_l 16 (.inl (jo_il 17 1))))))) (jt_n 26 (jt_n 23 (jt_n 20 (jt_l 17 (.inr (.inl (50, 2, 20, some 7)))) (jt_l 20 (.inl (jo_pf 23 7 7 0)))) (jt_n 24 (jt_l 23 (.inl (jo_al 24 0))) (jt_n 25 (jt_l 24 (.inl (jo_al 25 0))) (jt_l 25 (.inl (jo_il 26 1)))))) (jt_n 33 (jt_n 29 (jt_l 26 (.inr (.inl (46, 2, 29, some 7)))) (jt_n 30 (jt_l 29 (.inl (jo_c 30 (nI 0)))) (jt_l 30 (.inr (.inl (53, 3, 33, some 7)))))) (jt_n 34 (jt_l 33 (.inl (jo_al 34 0))) (jt_n 37 (jt_l 34 (.inl (jo_gf 37 7 7))) (jt_l 37 (.inr (.inr 1))))))))
/-- TalkBench$Searches.countRowsWith(I)I -/
def jc_50 : Nat → Option jxI := (jt_n 19 (jt_n 5 (jt_n 2 (jt_n 1 (jt_l 0 (.inl (jo_c 1 (nI 0)))) (jt_l 1 (.inl (jo_is 2 4 2)))) (jt_n 3 (jt_l 2 (.inl (jo_c 3 (nI 0)))) (jt_n 4 (jt_l 3 (.inl (jo_is 4 4 3))) (jt_l 4 (.inl (jo_il 5 3)))))) (jt_n 12 (jt_n 6 (jt_l 5 (.inl (jo_al 6 0))) (jt_n 9 (jt_l 6 (.inl (jo_gf 9 7 0))) (jt_l 9 (.inl (jo_gf 12 10 0))))) (jt_n 15 (jt_l 12 (.inl (jo_ic 15 38 (fun x y => decide (y ≤ x))))) (jt_n 16 (jt_l 15 (.inl (jo_al 16 0))) (jt_l 16 (.inl (jo_gf 19 7 1))))))) (jt_n 26 (jt_n 21 (jt_n 20 (jt_l 19 (.inl (jo_il 20 1))) (jt_l 20 (.inl (jo_c 21 (nI 1))))) (jt_n 22 (jt_l 21 (.inl (jo_il 22 3))) (jt_n 23 (jt_l 22 (.inl (jo_b 23 (fun x y => x <<< (y &&& 31))))) (jt_l 23 (.inr (.inl (32, 3, 26, some 4))))))) (jt_n 35 (jt_n 29 (jt_l 26 (.inl (jo_if 29 32 (fun x => decide (x = 0))))) (jt_n 32 (jt_l 29 (.inl (jo_inc 32 4 2 (nI 1)))) (jt_l 32 (.inl (jo_inc 35 4 3 (nI 1)))))) (jt_n 38 (jt_l 35 (.inl (jo_go 4))) (jt_n 39 (jt_l 38 (.inl (jo_il 39 2))) (jt_l 39 (.inr (.inr 1))))))))
/-- TalkBench$Searches.listGreatestBlocks(I)V -/
def jc_51 : Nat → Option jxI := (jt_n 44 (jt_n 25 (jt_n 8 (jt_n 5 (jt_n 1 (jt_l 0 (.inl (jo_al 1 0))) (jt_n 2 (jt_l 1 (.inl (jo_c 2 (nI 0)))) (jt_l 2 (.inl (jo_pf 5 7 4 0))))) (jt_n 6 (jt_l 5 (.inl (jo_c 6 (nI 1)))) (jt_n 7 (jt_l 6 (.inl (jo_is 7 4 2))) (jt_l 7 (.inl (jo_il 8 2)))))) (jt_n 15 (jt_n 9 (jt_l 8 (.inl (jo_al 9 0))) (jt_n 12 (jt_l 9 (.inl (jo_gf 12 7 1))) (jt_l 12 (.inl (jo_gf 15 4 0))))) (jt_n 19 (jt_n 18 (jt_l 15 (.inl (jo_ic 18 87 (fun x y => decide (y < x))))) (jt_l 18 (.inl (jo_al 19 0)))) (jt_n 22 (jt_l 19 (.inl (jo_gf 22 7 1))) (jt_l 22 (.inl (jo_gf 25 4 1))))))) (jt_n 33 (jt_n 30 (jt_n 26 (jt_l 25 (.inl (jo_al 26 0))) (jt_n 29 (jt_l 26 (.inl (jo_gf 29 7 1))) (jt_l 29 (.inl (jo_c 30 (nI 1)))))) (jt_n 31 (jt_l 30 (.inl (jo_il 31 1))) (jt_n 32 (jt_l 31 (.inl (jo_b 32 (fun x y => x - y)))) (jt_l 32 (.inl (jo_il 33 2)))))) (jt_n 38 (jt_n 36 (jt_l 33 (.inr (.inl (32, 3, 36, some 4)))) (jt_n 37 (jt_l 36 (.inl (jo_c 37 (-1)))) (jt_l 37 (.inl (jo_b 38 (fun x y => x ^^^ y)))))) (jt_n 40 (jt_n 39 (jt_l 38 (.inl (jo_b 39 (fun x y => x &&& y)))) (jt_l 39 (.inl (jo_is 40 4 3)))) (jt_n 41 (jt_l 40 (.inl (jo_il 41 3))) (jt_l 41 (.inl (jo_if 44 81 (fun x => decide (x = 0)))))))))) (jt_n 65 (jt_n 50 (jt_n 47 (jt_n 45 (jt_l 44 (.inl (jo_il 45 2))) (jt_n 46 (jt_l 45 (.inl (jo_al 46 0))) (jt_l 46 (.inl (jo_c 47 (nI 1)))))) (jt_n 48 (jt_l 47 (.inl (jo_il 48 1))) (jt_n 49 (jt_l 48 (.inl (jo_b 49 (fun x y => x - y)))) (jt_l 49 (.inl (jo_il 50 3)))))) (jt_n 57 (jt_n 53 (jt_l 50 (.inr (.inl (52, 3, 53, some 7)))) (jt_n 56 (jt_l 53 (.inl (jo_ic 56 81 (fun x y => decide (¬ x = y))))) (jt_l 56 (.inl (jo_al 57 0))))) (jt_n 61 (jt_n 60 (jt_l 57 (.inl (jo_gf 60 7 3))) (jt_l 60 (.inl (jo_al 61 0)))) (jt_n 64 (jt_l 61 (.inl (jo_gf 64 7 4))) (jt_l 64 (.inl (jo_al 65 0))))))) (jt_n 73 (jt_n 70 (jt_n 66 (jt_l 65 (.inl (jo_il 66 2))) (jt_n 67 (jt_l 66 (.inl (jo_il 67 3))) (jt_l 67 (.inr (.inl (54, 3, 70, some 7)))))) (jt_n 71 (jt_l 70 (.inl (jo_iw 71))) (jt_n 72 (jt_l 71 (.inl (jo_al 72 0))) (jt_l 72 (.inl (jo_d 73)))))) (jt_n 78 (jt_n 76 (jt_l 73 (.inl (jo_gf 76 7 4))) (jt_n 77 (jt_l 76 (.inl (jo_c 77 (nI 1)))) (jt_l 77 (.inl (jo_b 78 (fun x y => x + y)))))) (jt_n 84 (jt_n 81 (jt_l 78 (.inl (jo_pf 81 7 4 0))) (jt_l 81 (.inl (jo_inc 84 4 2 (nI 1))))) (jt_n 87 (jt_l 84 (.inl (jo_go 7))) (jt_l 87 (.inr (.inr 0)))))))))
/-- TalkBench$Searches.rowsWithout(II)I -/
def jc_52 : Nat → Option jxI := (jt_n 25 (jt_n 11 (jt_n 3 (jt_n 1 (jt_l 0 (.inl (jo_c 1 (nI 0)))) (jt_n 2 (jt_l 1 (.inl (jo_is 2 5 3))) (jt_l 2 (.inl (jo_c 3 (nI 0)))))) (jt_n 7 (jt_n 5 (jt_l 3 (.inl (jo_is 5 5 4))) (jt_l 5 (.inl (jo_il 7 4)))) (jt_n 8 (jt_l 7 (.inl (jo_al 8 0))) (jt_l 8 (.inl (jo_gf 11 7 0)))))) (jt_n 18 (jt_n 14 (jt_l 11 (.inl (jo_gf 14 10 0))) (jt_n 17 (jt_l 14 (.inl (jo_ic 17 47 (fun x y => decide (y ≤ x))))) (jt_l 17 (.inl (jo_al 18 0))))) (jt_n 22 (jt_n 21 (jt_l 18 (.inl (jo_gf 21 7 1))) (jt_l 21 (.inl (jo_il 22 1)))) (jt_n 23 (jt_l 22 (.inl (jo_c 23 (nI 1)))) (jt_l 23 (.inl (jo_il 25 4))))))) (jt_n 36 (jt_n 30 (jt_n 26 (jt_l 25 (.inl (jo_b 26 (fun x y => x <<< (y &&& 31))))) (jt_n 29 (jt_l 26 (.inr (.inl (32, 3, 29, some 4)))) (jt_l 29 (.inl (jo_il 30 2))))) (jt_n 34 (jt_n 31 (jt_l 30 (.inl (jo_b 31 (fun x y => x &&& y)))) (jt_l 31 (.inl (jo_if 34 41 (fun x => decide (¬ x = 0)))))) (jt_n 35 (jt_l 34 (.inl (jo_il 35 3))) (jt_l 35 (.inl (jo_c 36 (nI 1))))))) (jt_n 41 (jt_n 39 (jt_n 38 (jt_l 36 (.inl (jo_il 38 4))) (jt_l 38 (.inl (jo_b 39 (fun x y => x <<< (y &&& 31)))))) (jt_n 40 (jt_l 39 (.inl (jo_b 40 (fun x y => x ||| y)))) (jt_l 40 (.inl (jo_is 41 5 3))))) (jt_n 47 (jt_n 44 (jt_l 41 (.inl (jo_inc 44 5 4 (nI 1)))) (jt_l 44 (.inl (jo_go 5)))) (jt_n 48 (jt_l 47 (.inl (jo_il 48 3))) (jt_l 48 (.inr (.inr 1))))))))
/-- TalkBench$Searches.coverRest(II)V -/
def jc_53 : Nat → Option jxI := (jt_n 48 (jt_n 21 (jt_n 10 (jt_n 5 (jt_n 1 (jt_l 0 (.inl (jo_il 1 1))) (jt_n 4 (jt_l 1 (.inl (jo_if 4 17 (fun x => decide (¬ x = 0))))) (jt_l 4 (.inl (jo_al 5 0))))) (jt_n 6 (jt_l 5 (.inl (jo_al 6 0))) (jt_n 9 (jt_l 6 (.inl (jo_gf 9 7 7))) (jt_l 9 (.inl (jo_il 10 2)))))) (jt_n 17 (jt_n 13 (jt_l 10 (.inl (jo_m2 13 (fun x y => if y < x then y else x)))) (jt_n 16 (jt_l 13 (.inl (jo_pf 16 7 7 0))) (jt_l 16 (.inr (.inr 0))))) (jt_n 19 (jt_n 18 (jt_l 17 (.inl (jo_il 18 2))) (jt_l 18 (.inl (jo_c 19 (nI 1))))) (jt_n 20 (jt_l 19 (.inl (jo_il 20 1))) (jt_l 20 (.inl (jo_al 21 0))))))) (jt_n 36 (jt_n 28 (jt_n 24 (jt_l 21 (.inl (jo_gf 24 7 6))) (jt_n 25 (jt_l 24 (.inl (jo_b 25 (fun x y => x &&& y)))) (jt_l 25 (.inr (.inl (197, 1, 28, none)))))) (jt_n 32 (jt_n 31 (jt_l 28 (.inl (jo_m2 31 (fun x y => if x < y then y else x)))) (jt_l 31 (.inl (jo_b 32 (fun x y => x + y))))) (jt_n 33 (jt_l 32 (.inl (jo_al 33 0))) (jt_l 33 (.inl (jo_gf 36 7 7)))))) (jt_n 41 (jt_n 39 (jt_l 36 (.inl (jo_ic 39 40 (fun x y => decide (x < y))))) (jt_n 40 (jt_l 39 (.inr (.inr 0))) (jt_l 40 (.inl (jo_il 41 1))))) (jt_n 45 (jt_n 44 (jt_l 41 (.inr (.inl (127, 1, 44, none)))) (jt_l 44 (.inl (jo_is 45 5 3)))) (jt_n 46 (jt_l 45 (.inl (jo_c 46 (nI 0)))) (jt_l 46 (.inl (jo_is 48 5 4)))))))) (jt_n 71 (jt_n 61 (jt_n 54 (jt_n 50 (jt_l 48 (.inl (jo_il 50 4))) (jt_n 51 (jt_l 50 (.inl (jo_al 51 0))) (jt_l 51 (.inl (jo_gf 54 7 4))))) (jt_n 57 (jt_l 54 (.inl (jo_ic 57 93 (fun x y => decide (y ≤ x))))) (jt_n 58 (jt_l 57 (.inl (jo_al 58 0))) (jt_l 58 (.inl (jo_gf 61 7 3)))))) (jt_n 65 (jt_n 63 (jt_l 61 (.inl (jo_il 63 4))) (jt_n 64 (jt_l 63 (.inl (jo_ia 64))) (jt_l 64 (.inl (jo_il 65 3))))) (jt_n 69 (jt_n 66 (jt_l 65 (.inl (jo_b 66 (fun x y => x &&& y)))) (jt_l 66 (.inl (jo_if 69 87 (fun x => decide (x = 0)))))) (jt_n 70 (jt_l 69 (.inl (jo_al 70 0))) (jt_l 70 (.inl (jo_il 71 1))))))) (jt_n 81 (jt_n 77 (jt_n 72 (jt_l 71 (.inl (jo_al 72 0))) (jt_n 75 (jt_l 72 (.inl (jo_gf 75 7 3))) (jt_l 75 (.inl (jo_il 77 4))))) (jt_n 79 (jt_n 78 (jt_l 77 (.inl (jo_ia 78))) (jt_l 78 (.inl (jo_c 79 (-1))))) (jt_n 80 (jt_l 79 (.inl (jo_b 80 (fun x y => x ^^^ y)))) (jt_l 80 (.inl (jo_b 81 (fun x y => x &&& y))))))) (jt_n 84 (jt_n 82 (jt_l 81 (.inl (jo_il 82 2))) (jt_n 83 (jt_l 82 (.inl (jo_c 83 (nI 1)))) (jt_l 83 (.inl (jo_b 84 (fun x y => x + y)))))) (jt_n 90 (jt_n 87 (jt_l 84 (.inr (.inl (53, 3, 87, some 7)))) (jt_l 87 (.inl (jo_inc 90 5 4 (nI 1))))) (jt_n 93 (jt_l 90 (.inl (jo_go 48))) (jt_l 93 (.inr (.inr 0)))))))))
/-- TalkBench$Searches.placesOf(II)I -/
def jc_54 : Nat → Option jxI := (jt_n 23 (jt_n 11 (jt_n 3 (jt_n 1 (jt_l 0 (.inl (jo_c 1 (nI 0)))) (jt_n 2 (jt_l 1 (.inl (jo_is 2 5 3))) (jt_l 2 (.inl (jo_c 3 (nI 0)))))) (jt_n 7 (jt_n 5 (jt_l 3 (.inl (jo_is 5 5 4))) (jt_l 5 (.inl (jo_il 7 4)))) (jt_n 8 (jt_l 7 (.inl (jo_al 8 0))) (jt_l 8 (.inl (jo_gf 11 7 0)))))) (jt_n 18 (jt_n 14 (jt_l 11 (.inl (jo_gf 14 10 0))) (jt_n 17 (jt_l 14 (.inl (jo_ic 17 42 (fun x y => decide (y ≤ x))))) (jt_l 17 (.inl (jo_il 18 1))))) (jt_n 21 (jt_n 20 (jt_l 18 (.inl (jo_il 20 4))) (jt_l 20 (.inl (jo_b 21 (fun x y => x >>> (y &&& 31)))))) (jt_n 22 (jt_l 21 (.inl (jo_c 22 (nI 1)))) (jt_l 22 (.inl (jo_b 23 (fun x y => x &&& y)))))))) (jt_n 33 (jt_n 28 (jt_n 24 (jt_l 23 (.inl (jo_c 24 (nI 1)))) (jt_n 27 (jt_l 24 (.inl (jo_ic 27 36 (fun x y => decide (¬ x = y))))) (jt_l 27 (.inl (jo_il 28 3))))) (jt_n 30 (jt_n 29 (jt_l 28 (.inl (jo_il 29 2))) (jt_l 29 (.inl (jo_c 30 (nI 5))))) (jt_n 32 (jt_l 30 (.inl (jo_il 32 4))) (jt_l 32 (.inl (jo_b 33 (fun x y => x * y))))))) (jt_n 36 (jt_n 34 (jt_l 33 (.inl (jo_b 34 (fun x y => x <<< (y &&& 31))))) (jt_n 35 (jt_l 34 (.inl (jo_b 35 (fun x y => x ||| y)))) (jt_l 35 (.inl (jo_is 36 5 3))))) (jt_n 42 (jt_n 39 (jt_l 36 (.inl (jo_inc 39 5 4 (nI 1)))) (jt_l 39 (.inl (jo_go 5)))) (jt_n 43 (jt_l 42 (.inl (jo_il 43 3))) (jt_l 43 (.inr (.inr 1))))))))
/-- TalkBench$Sheet.<init>()V -/
def jc_55 : Nat → Option jxI := (jt_n 5 (jt_n 1 (jt_l 0 (.inl (jo_al 1 0))) (jt_n 4 (jt_l 1 (.inl (jo_oi 4))) (jt_l 4 (.inl (jo_al 5 0))))) (jt_n 9 (jt_n 7 (jt_l 5 (.inl (jo_c 7 (nI 30)))) (jt_l 7 (.inl (jo_ni 9)))) (jt_n 12 (jt_l 9 (.inl (jo_pf 12 8 2 2))) (jt_l 12 (.inr (.inr 0))))))
/-- TalkBench$Sheet.isMissing()Z -/
def jc_56 : Nat → Option jxI := (jt_n 7 (jt_n 1 (jt_l 0 (.inl (jo_al 1 0))) (jt_n 4 (jt_l 1 (.inl (jo_gf 4 8 0))) (jt_l 4 (.inl (jo_if 7 11 (fun x => decide (¬ x = 0))))))) (jt_n 11 (jt_n 8 (jt_l 7 (.inl (jo_c 8 (nI 1)))) (jt_l 8 (.inl (jo_go 12)))) (jt_n 12 (jt_l 11 (.inl (jo_c 12 (nI 0)))) (jt_l 12 (.inr (.inr 2))))))
/-- TalkBench$Sheet.reset(II)V -/
def jc_57 : Nat → Option jxI := (jt_n 7 (jt_n 2 (jt_n 1 (jt_l 0 (.inl (jo_al 1 0))) (jt_l 1 (.inl (jo_il 2 1)))) (jt_n 5 (jt_l 2 (.inl (jo_pf 5 8 0 0))) (jt_n 6 (jt_l 5 (.inl (jo_al 6 0))) (jt_l 6 (.inl (jo_il 7 2)))))) (jt_n 14 (jt_n 10 (jt_l 7 (.inl (jo_pf 10 8 1 0))) (jt_n 11 (jt_l 10 (.inl (jo_al 11 0))) (jt_l 11 (.inl (jo_gf 14 8 2))))) (jt_n 15 (jt_l 14 (.inl (jo_c 15 (nI 0)))) (jt_n 18 (jt_l 15 (.inr (.inl (198, 2, 18, none)))) (jt_l 18 (.inr (.inr 0)))))))
/-- TalkBench$Sheet.set(II)V -/
def jc_58 : Nat → Option jxI := (jt_n 18 (jt_n 6 (jt_n 4 (jt_n 1 (jt_l 0 (.inl (jo_al 1 0))) (jt_l 1 (.inl (jo_gf 4 8 2)))) (jt_n 5 (jt_l 4 (.inl (jo_il 5 1))) (jt_l 5 (.inl (jo_al 6 0))))) (jt_n 11 (jt_n 9 (jt_l 6 (.inl (jo_gf 9 8 0))) (jt_l 9 (.inl (jo_c 11 (nI 32))))) (jt_n 14 (jt_l 11 (.inl (jo_ic 14 18 (fun x y => decide (¬ x = y))))) (jt_n 15 (jt_l 14 (.inl (jo_il 15 2))) (jt_l 15 (.inl (jo_go 28))))))) (jt_n 25 (jt_n 20 (jt_n 19 (jt_l 18 (.inl (jo_il 19 2))) (jt_l 19 (.inl (jo_c 20 (nI 1))))) (jt_n 21 (jt_l 20 (.inl (jo_al 21 0))) (jt_n 24 (jt_l 21 (.inl (jo_gf 24 8 0))) (jt_l 24 (.inl (jo_b 25 (fun x y => x <<< (y &&& 31)))))))) (jt_n 27 (jt_n 26 (jt_l 25 (.inl (jo_c 26 (nI 1)))) (jt_l 26 (.inl (jo_b 27 (fun x y => x - y))))) (jt_n 28 (jt_l 27 (.inl (jo_b 28 (fun x y => x &&& y)))) (jt_n 29 (jt_l 28 (.inl (jo_iw 29))) (jt_l 29 (.inr (.inr 0))))))))
/-- TalkBench$Sheet.hasRun(II)Z -/
def jc_59 : Nat → Option jxI := (jt_n 13 (jt_n 5 (jt_n 1 (jt_l 0 (.inl (jo_il 1 1))) (jt_n 4 (jt_l 1 (.inl (jo_if 4 22 (fun x => decide (x < 0))))) (jt_l 4 (.inl (jo_il 5 2))))) (jt_n 9 (jt_n 8 (jt_l 5 (.inl (jo_if 8 22 (fun x => decide (x < 0))))) (jt_l 8 (.inl (jo_il 9 1)))) (jt_n 10 (jt_l 9 (.inl (jo_al 10 0))) (jt_l 10 (.inl (jo_gf 13 8 1)))))) (jt_n 18 (jt_n 14 (jt_l 13 (.inl (jo_il 14 2))) (jt_n 15 (jt_l 14 (.inl (jo_b 15 (fun x y => x - y)))) (jt_l 15 (.inl (jo_ic 18 22 (fun x y => decide (y < x))))))) (jt_n 22 (jt_n 19 (jt_l 18 (.inl (jo_c 19 (nI 1)))) (jt_l 19 (.inl (jo_go 23)))) (jt_n 23 (jt_l 22 (.inl (jo_c 23 (nI 0)))) (jt_l 23 (.inr (.inr 2)))))))
/-- TalkBench$Sheet.holdsPlaces()Z -/
def jc_60 : Nat → Option jxI := (jt_n 19 (jt_n 7 (jt_n 2 (jt_n 1 (jt_l 0 (.inl (jo_c 1 (nI 0)))) (jt_l 1 (.inl (jo_is 2 2 1)))) (jt_n 3 (jt_l 2 (.inl (jo_il 3 1))) (jt_n 4 (jt_l 3 (.inl (jo_al 4 0))) (jt_l 4 (.inl (jo_gf 7 8 1)))))) (jt_n 14 (jt_n 10 (jt_l 7 (.inl (jo_ic 10 37 (fun x y => decide (y ≤ x))))) (jt_n 11 (jt_l 10 (.inl (jo_al 11 0))) (jt_l 11 (.inl (jo_gf 14 8 2))))) (jt_n 15 (jt_l 14 (.inl (jo_il 15 1))) (jt_n 16 (jt_l 15 (.inl (jo_ia 16))) (jt_l 16 (.inl (jo_if 19 29 (fun x => decide (x < 0))))))))) (jt_n 29 (jt_n 24 (jt_n 20 (jt_l 19 (.inl (jo_al 20 0))) (jt_n 23 (jt_l 20 (.inl (jo_gf 23 8 2))) (jt_l 23 (.inl (jo_il 24 1))))) (jt_n 25 (jt_l 24 (.inl (jo_ia 25))) (jt_n 26 (jt_l 25 (.inl (jo_c 26 (nI 2)))) (jt_l 26 (.inl (jo_ic 29 31 (fun x y => decide (x ≤ y)))))))) (jt_n 34 (jt_n 30 (jt_l 29 (.inl (jo_c 30 (nI 0)))) (jt_n 31 (jt_l 30 (.inr (.inr 2))) (jt_l 31 (.inl (jo_inc 34 2 1 (nI 1)))))) (jt_n 37 (jt_l 34 (.inl (jo_go 2))) (jt_n 38 (jt_l 37 (.inl (jo_c 38 (nI 1)))) (jt_l 38 (.inr (.inr 2))))))))
/-- TalkBench$Talk.<init>(LTalkBench$Marks;LTalkBench$Blocks;)V -/
def jc_61 : Nat → Option jxI := (jt_n 31 (jt_n 15 (jt_n 7 (jt_n 4 (jt_n 1 (jt_l 0 (.inl (jo_al 1 0))) (jt_l 1 (.inl (jo_oi 4)))) (jt_n 5 (jt_l 4 (.inl (jo_al 5 0))) (jt_l 5 (.inl (jo_c 7 (nI 49)))))) (jt_n 12 (jt_n 9 (jt_l 7 (.inl (jo_ni 9))) (jt_l 9 (.inl (jo_pf 12 9 2 2)))) (jt_n 13 (jt_l 12 (.inl (jo_al 13 0))) (jt_l 13 (.inl (jo_c 15 (nI 49))))))) (jt_n 23 (jt_n 20 (jt_n 17 (jt_l 15 (.inl (jo_ni 17))) (jt_l 17 (.inl (jo_pf 20 9 3 2)))) (jt_n 21 (jt_l 20 (.inl (jo_al 21 0))) (jt_l 21 (.inl (jo_c 23 (nI 49)))))) (jt_n 28 (jt_n 25 (jt_l 23 (.inl (jo_ni 25))) (jt_l 25 (.inl (jo_pf 28 9 4 2)))) (jt_n 29 (jt_l 28 (.inl (jo_al 29 0))) (jt_l 29 (.inl (jo_c 31 (nI 49)))))))) (jt_n 47 (jt_n 39 (jt_n 36 (jt_n 33 (jt_l 31 (.inl (jo_ni 33))) (jt_l 33 (.inl (jo_pf 36 9 5 2)))) (jt_n 37 (jt_l 36 (.inl (jo_al 37 0))) (jt_l 37 (.inl (jo_c 39 (nI 49)))))) (jt_n 44 (jt_n 41 (jt_l 39 (.inl (jo_ni 41))) (jt_l 41 (.inl (jo_pf 44 9 6 2)))) (jt_n 45 (jt_l 44 (.inl (jo_al 45 0))) (jt_l 45 (.inl (jo_c 47 (nI 49))))))) (jt_n 54 (jt_n 52 (jt_n 49 (jt_l 47 (.inl (jo_ni 49))) (jt_l 49 (.inl (jo_pf 52 9 7 2)))) (jt_n 53 (jt_l 52 (.inl (jo_al 53 0))) (jt_l 53 (.inl (jo_al 54 1))))) (jt_n 58 (jt_n 57 (jt_l 54 (.inl (jo_pf 57 9 0 2))) (jt_l 57 (.inl (jo_al 58 0)))) (jt_n 59 (jt_l 58 (.inl (jo_al 59 2))) (jt_n 62 (jt_l 59 (.inl (jo_pf 62 9 1 2))) (jt_l 62 (.inr (.inr 0)))))))))
/-- TalkBench$Talk.forget()V -/
def jc_62 : Nat → Option jxI := (jt_n 2 (jt_n 1 (jt_l 0 (.inl (jo_al 1 0))) (jt_l 1 (.inl (jo_c 2 (nI 0))))) (jt_n 5 (jt_l 2 (.inl (jo_pf 5 9 8 0))) (jt_l 5 (.inr (.inr 0)))))
/-- TalkBench$Talk.make()V -/
def jc_63 : Nat → Option jxI := (jt_n 13 (jt_n 5 (jt_n 1 (jt_l 0 (.inl (jo_al 1 0))) (jt_n 2 (jt_l 1 (.inl (jo_c 2 (nI 0)))) (jt_l 2 (.inl (jo_pf 5 9 8 0))))) (jt_n 7 (jt_n 6 (jt_l 5 (.inl (jo_al 6 0))) (jt_l 6 (.inl (jo_al 7 0)))) (jt_n 10 (jt_l 7 (.inl (jo_gf 10 9 0))) (jt_l 10 (.inl (jo_gf 13 4 0)))))) (jt_n 20 (jt_n 14 (jt_l 13 (.inl (jo_al 14 0))) (jt_n 17 (jt_l 14 (.inl (jo_gf 17 9 0))) (jt_l 17 (.inl (jo_gf 20 4 1))))) (jt_n 24 (jt_n 21 (jt_l 20 (.inl (jo_c 21 (nI 0)))) (jt_l 21 (.inr (.inl (64, 4, 24, some 9))))) (jt_n 25 (jt_l 24 (.inl (jo_p 25))) (jt_l 25 (.inr (.inr 0)))))))
/-- TalkBench$Talk.grow(III)I -/
def jc_64 : Nat → Option jxI := (jt_n 122 (jt_n 62 (jt_n 32 (jt_n 16 (jt_n 9 (jt_n 4 (jt_n 1 (jt_l 0 (.inl (jo_al 1 0))) (jt_l 1 (.inl (jo_gf 4 9 8)))) (jt_n 6 (jt_l 4 (.inl (jo_c 6 (nI 49)))) (jt_l 6 (.inl (jo_ic 9 12 (fun x y => decide (x < y))))))) (jt_n 12 (jt_n 11 (jt_l 9 (.inl (jo_c 11 (-100)))) (jt_l 11 (.inr (.inr 1)))) (jt_n 13 (jt_l 12 (.inl (jo_al 13 0))) (jt_l 13 (.inl (jo_gf 16 9 8)))))) (jt_n 23 (jt_n 19 (jt_n 18 (jt_l 16 (.inl (jo_is 18 7 4))) (jt_l 18 (.inl (jo_al 19 0)))) (jt_n 20 (jt_l 19 (.inl (jo_d 20))) (jt_l 20 (.inl (jo_gf 23 9 8))))) (jt_n 25 (jt_n 24 (jt_l 23 (.inl (jo_c 24 (nI 1)))) (jt_l 24 (.inl (jo_b 25 (fun x y => x + y))))) (jt_n 28 (jt_l 25 (.inl (jo_pf 28 9 8 0))) (jt_n 29 (jt_l 28 (.inl (jo_al 29 0))) (jt_l 29 (.inl (jo_gf 32 9 3)))))))) (jt_n 45 (jt_n 37 (jt_n 35 (jt_n 34 (jt_l 32 (.inl (jo_il 34 4))) (jt_l 34 (.inl (jo_il 35 1)))) (jt_n 36 (jt_l 35 (.inl (jo_iw 36))) (jt_l 36 (.inl (jo_al 37 0))))) (jt_n 42 (jt_n 40 (jt_l 37 (.inl (jo_gf 40 9 4))) (jt_l 40 (.inl (jo_il 42 4)))) (jt_n 43 (jt_l 42 (.inl (jo_il 43 2))) (jt_n 44 (jt_l 43 (.inl (jo_iw 44))) (jt_l 44 (.inl (jo_al 45 0))))))) (jt_n 52 (jt_n 50 (jt_n 48 (jt_l 45 (.inl (jo_gf 48 9 7))) (jt_l 48 (.inl (jo_il 50 4)))) (jt_n 51 (jt_l 50 (.inl (jo_il 51 3))) (jt_l 51 (.inl (jo_iw 52))))) (jt_n 55 (jt_n 53 (jt_l 52 (.inl (jo_il 53 3))) (jt_l 53 (.inl (jo_c 55 (nI 8))))) (jt_n 58 (jt_l 55 (.inl (jo_ic 58 70 (fun x y => decide (y ≤ x))))) (jt_n 59 (jt_l 58 (.inl (jo_al 59 0))) (jt_l 59 (.inl (jo_gf 62 9 0))))))))) (jt_n 93 (jt_n 77 (jt_n 70 (jt_n 64 (jt_n 63 (jt_l 62 (.inl (jo_il 63 1))) (jt_l 63 (.inl (jo_il 64 2)))) (jt_n 67 (jt_l 64 (.inr (.inl (31, 3, 67, some 4)))) (jt_l 67 (.inl (jo_if 70 116 (fun x => decide (x = 0))))))) (jt_n 74 (jt_n 71 (jt_l 70 (.inl (jo_al 71 0))) (jt_l 71 (.inl (jo_gf 74 9 2)))) (jt_n 76 (jt_l 74 (.inl (jo_il 76 4))) (jt_l 76 (.inl (jo_c 77 (nI 2))))))) (jt_n 84 (jt_n 79 (jt_n 78 (jt_l 77 (.inl (jo_iw 78))) (jt_l 78 (.inl (jo_al 79 0)))) (jt_n 82 (jt_l 79 (.inl (jo_gf 82 9 5))) (jt_l 82 (.inl (jo_il 84 4))))) (jt_n 88 (jt_n 85 (jt_l 84 (.inl (jo_al 85 0))) (jt_l 85 (.inl (jo_gf 88 9 0)))) (jt_n 91 (jt_l 88 (.inl (jo_gf 91 4 2))) (jt_n 92 (jt_l 91 (.inl (jo_il 92 1))) (jt_l 92 (.inl (jo_ia 93)))))))) (jt_n 108 (jt_n 99 (jt_n 95 (jt_n 94 (jt_l 93 (.inl (jo_il 94 2))) (jt_l 94 (.inl (jo_b 95 (fun x y => x &&& y))))) (jt_n 98 (jt_l 95 (.inl (jo_if 98 102 (fun x => decide (x = 0))))) (jt_l 98 (.inl (jo_c 99 (nI 1)))))) (jt_n 103 (jt_n 102 (jt_l 99 (.inl (jo_go 103))) (jt_l 102 (.inl (jo_c 103 (nI 0))))) (jt_n 104 (jt_l 103 (.inl (jo_iw 104))) (jt_n 105 (jt_l 104 (.inl (jo_al 105 0))) (jt_l 105 (.inl (jo_gf 108 9 6))))))) (jt_n 115 (jt_n 112 (jt_n 110 (jt_l 108 (.inl (jo_il 110 4))) (jt_l 110 (.inl (jo_c 112 (-100))))) (jt_n 113 (jt_l 112 (.inl (jo_iw 113))) (jt_l 113 (.inl (jo_il 115 4))))) (jt_n 117 (jt_n 116 (jt_l 115 (.inr (.inr 1))) (jt_l 116 (.inl (jo_al 117 0)))) (jt_n 120 (jt_l 117 (.inl (jo_gf 120 9 1))) (jt_n 121 (jt_l 120 (.inl (jo_il 121 1))) (jt_l 121 (.inl (jo_il 122 2)))))))))) (jt_n 180 (jt_n 155 (jt_n 138 (jt_n 131 (jt_n 127 (jt_n 125 (jt_l 122 (.inr (.inl (7, 3, 125, some 0)))) (jt_l 125 (.inl (jo_is 127 7 5)))) (jt_n 129 (jt_l 127 (.inl (jo_il 129 5))) (jt_l 129 (.inl (jo_c 131 (nI 32)))))) (jt_n 134 (jt_n 132 (jt_l 131 (.inl (jo_q 132 (fun x y => x - x / y * y)))) (jt_l 132 (.inl (jo_is 134 7 6)))) (jt_n 136 (jt_l 134 (.inl (jo_il 136 5))) (jt_l 136 (.inl (jo_c 138 (nI 32))))))) (jt_n 147 (jt_n 142 (jt_n 141 (jt_l 138 (.inl (jo_ic 141 188 (fun x y => decide (x < y))))) (jt_l 141 (.inl (jo_al 142 0)))) (jt_n 145 (jt_l 142 (.inl (jo_gf 145 9 2))) (jt_l 145 (.inl (jo_il 147 4))))) (jt_n 149 (jt_n 148 (jt_l 147 (.inl (jo_c 148 (nI 1)))) (jt_l 148 (.inl (jo_iw 149)))) (jt_n 150 (jt_l 149 (.inl (jo_al 150 0))) (jt_n 153 (jt_l 150 (.inl (jo_gf 153 9 5))) (jt_l 153 (.inl (jo_il 155 4)))))))) (jt_n 167 (jt_n 160 (jt_n 157 (jt_n 156 (jt_l 155 (.inl (jo_al 156 0))) (jt_l 156 (.inl (jo_il 157 1)))) (jt_n 158 (jt_l 157 (.inl (jo_il 158 2))) (jt_l 158 (.inl (jo_il 160 6))))) (jt_n 162 (jt_n 161 (jt_l 160 (.inl (jo_b 161 (fun x y => x - y)))) (jt_l 161 (.inl (jo_il 162 3)))) (jt_n 163 (jt_l 162 (.inl (jo_c 163 (nI 1)))) (jt_n 164 (jt_l 163 (.inl (jo_b 164 (fun x y => x + y)))) (jt_l 164 (.inr (.inl (64, 4, 167, some 9)))))))) (jt_n 174 (jt_n 169 (jt_n 168 (jt_l 167 (.inl (jo_iw 168))) (jt_l 168 (.inl (jo_al 169 0)))) (jt_n 172 (jt_l 169 (.inl (jo_gf 172 9 6))) (jt_l 172 (.inl (jo_il 174 4))))) (jt_n 176 (jt_n 175 (jt_l 174 (.inl (jo_al 175 0))) (jt_l 175 (.inl (jo_il 176 1)))) (jt_n 178 (jt_l 176 (.inl (jo_il 178 6))) (jt_n 179 (jt_l 178 (.inl (jo_il 179 3))) (jt_l 179 (.inl (jo_c 180 (nI 1)))))))))) (jt_n 208 (jt_n 195 (jt_n 188 (jt_n 184 (jt_n 181 (jt_l 180 (.inl (jo_b 181 (fun x y => x + y)))) (jt_l 181 (.inr (.inl (64, 4, 184, some 9))))) (jt_n 185 (jt_l 184 (.inl (jo_iw 185))) (jt_l 185 (.inl (jo_go 232))))) (jt_n 192 (jt_n 189 (jt_l 188 (.inl (jo_al 189 0))) (jt_l 189 (.inl (jo_gf 192 9 2)))) (jt_n 194 (jt_l 192 (.inl (jo_il 194 4))) (jt_l 194 (.inl (jo_c 195 (nI 0))))))) (jt_n 202 (jt_n 197 (jt_n 196 (jt_l 195 (.inl (jo_iw 196))) (jt_l 196 (.inl (jo_al 197 0)))) (jt_n 200 (jt_l 197 (.inl (jo_gf 200 9 5))) (jt_l 200 (.inl (jo_il 202 4))))) (jt_n 204 (jt_n 203 (jt_l 202 (.inl (jo_al 203 0))) (jt_l 203 (.inl (jo_il 204 1)))) (jt_n 206 (jt_l 204 (.inl (jo_il 206 6))) (jt_n 207 (jt_l 206 (.inl (jo_b 207 (fun x y => x - y)))) (jt_l 207 (.inl (jo_il 208 2)))))))) (jt_n 222 (jt_n 214 (jt_n 210 (jt_n 209 (jt_l 208 (.inl (jo_il 209 3))) (jt_l 209 (.inl (jo_c 210 (nI 1))))) (jt_n 211 (jt_l 210 (.inl (jo_b 211 (fun x y => x + y)))) (jt_l 211 (.inr (.inl (64, 4, 214, some 9)))))) (jt_n 216 (jt_n 215 (jt_l 214 (.inl (jo_iw 215))) (jt_l 215 (.inl (jo_al 216 0)))) (jt_n 219 (jt_l 216 (.inl (jo_gf 219 9 6))) (jt_n 221 (jt_l 219 (.inl (jo_il 221 4))) (jt_l 221 (.inl (jo_al 222 0))))))) (jt_n 227 (jt_n 225 (jt_n 224 (jt_l 222 (.inl (jo_il 224 6))) (jt_l 224 (.inl (jo_il 225 2)))) (jt_n 226 (jt_l 225 (.inl (jo_il 226 3))) (jt_l 226 (.inl (jo_c 227 (nI 1)))))) (jt_n 231 (jt_n 228 (jt_l 227 (.inl (jo_b 228 (fun x y => x + y)))) (jt_l 228 (.inr (.inl (64, 4, 231, some 9))))) (jt_n 232 (jt_l 231 (.inl (jo_iw 232))) (jt_n 234 (jt_l 232 (.inl (jo_il 234 4))) (jt_l 234 (.inr (.inr 1)))))))))))
/-- TalkBench$Talk.tellOf(II)I -/
def jc_65 : Nat → Option jxI := (jt_n 56 (jt_n 44 (jt_n 40 (jt_n 36 (jt_n 1 (jt_l 0 (.inl (jo_il 1 2))) (jt_l 1 (.inl (jo_sw (js_swt 1 70 0 4 [35, 42, 49, 56, 63]))))) (jt_n 37 (jt_l 36 (.inl (jo_al 37 0))) (jt_l 37 (.inl (jo_gf 40 9 2))))) (jt_n 42 (jt_n 41 (jt_l 40 (.inl (jo_il 41 1))) (jt_l 41 (.inl (jo_ia 42)))) (jt_n 43 (jt_l 42 (.inr (.inr 1))) (jt_l 43 (.inl (jo_al 44 0)))))) (jt_n 50 (jt_n 48 (jt_n 47 (jt_l 44 (.inl (jo_gf 47 9 3))) (jt_l 47 (.inl (jo_il 48 1)))) (jt_n 49 (jt_l 48 (.inl (jo_ia 49))) (jt_l 49 (.inr (.inr 1))))) (jt_n 54 (jt_n 51 (jt_l 50 (.inl (jo_al 51 0))) (jt_l 51 (.inl (jo_gf 54 9 4)))) (jt_n 55 (jt_l 54 (.inl (jo_il 55 1))) (jt_l 55 (.inl (jo_ia 56))))))) (jt_n 68 (jt_n 62 (jt_n 58 (jt_n 57 (jt_l 56 (.inr (.inr 1))) (jt_l 57 (.inl (jo_al 58 0)))) (jt_n 61 (jt_l 58 (.inl (jo_gf 61 9 5))) (jt_l 61 (.inl (jo_il 62 1))))) (jt_n 64 (jt_n 63 (jt_l 62 (.inl (jo_ia 63))) (jt_l 63 (.inr (.inr 1)))) (jt_n 65 (jt_l 64 (.inl (jo_al 65 0))) (jt_l 65 (.inl (jo_gf 68 9 6)))))) (jt_n 72 (jt_n 70 (jt_n 69 (jt_l 68 (.inl (jo_il 69 1))) (jt_l 69 (.inl (jo_ia 70)))) (jt_n 71 (jt_l 70 (.inr (.inr 1))) (jt_l 71 (.inl (jo_al 72 0))))) (jt_n 76 (jt_n 75 (jt_l 72 (.inl (jo_gf 75 9 7))) (jt_l 75 (.inl (jo_il 76 1)))) (jt_n 77 (jt_l 76 (.inl (jo_ia 77))) (jt_l 77 (.inr (.inr 1))))))))
/-- TalkBench$Talk.wordsFor(II)I -/
def jc_66 : Nat → Option jxI := (jt_n 54 (jt_n 26 (jt_n 10 (jt_n 3 (jt_n 1 (jt_l 0 (.inl (jo_c 1 (nI 1)))) (jt_n 2 (jt_l 1 (.inl (jo_is 2 8 3))) (jt_l 2 (.inl (jo_c 3 (nI 0)))))) (jt_n 6 (jt_n 5 (jt_l 3 (.inl (jo_is 5 8 4))) (jt_l 5 (.inl (jo_c 6 (nI 0))))) (jt_n 8 (jt_l 6 (.inl (jo_is 8 8 5))) (jt_l 8 (.inl (jo_il 10 5)))))) (jt_n 19 (jt_n 15 (jt_n 12 (jt_l 10 (.inl (jo_c 12 (nI 8)))) (jt_l 12 (.inl (jo_ic 15 105 (fun x y => decide (y ≤ x)))))) (jt_n 16 (jt_l 15 (.inl (jo_al 16 0))) (jt_l 16 (.inl (jo_gf 19 9 2))))) (jt_n 22 (jt_n 21 (jt_l 19 (.inl (jo_il 21 4))) (jt_l 21 (.inl (jo_ia 22)))) (jt_n 23 (jt_l 22 (.inl (jo_c 23 (nI 2)))) (jt_l 23 (.inl (jo_ic 26 105 (fun x y => decide (x = y))))))))) (jt_n 41 (jt_n 33 (jt_n 30 (jt_n 27 (jt_l 26 (.inl (jo_al 27 0))) (jt_l 27 (.inl (jo_gf 30 9 6)))) (jt_n 32 (jt_l 30 (.inl (jo_il 32 4))) (jt_l 32 (.inl (jo_ia 33))))) (jt_n 36 (jt_n 35 (jt_l 33 (.inl (jo_is 35 8 6))) (jt_l 35 (.inl (jo_al 36 0)))) (jt_n 39 (jt_l 36 (.inl (jo_gf 39 9 2))) (jt_l 39 (.inl (jo_il 41 4)))))) (jt_n 49 (jt_n 45 (jt_n 42 (jt_l 41 (.inl (jo_ia 42))) (jt_l 42 (.inl (jo_if 45 59 (fun x => decide (¬ x = 0)))))) (jt_n 46 (jt_l 45 (.inl (jo_al 46 0))) (jt_l 46 (.inl (jo_gf 49 9 3))))) (jt_n 52 (jt_n 51 (jt_l 49 (.inl (jo_il 51 6))) (jt_l 51 (.inl (jo_ia 52)))) (jt_n 53 (jt_l 52 (.inl (jo_il 53 1))) (jt_l 53 (.inl (jo_b 54 (fun x y => x >>> (y &&& 31)))))))))) (jt_n 77 (jt_n 67 (jt_n 60 (jt_n 56 (jt_n 55 (jt_l 54 (.inl (jo_c 55 (nI 1)))) (jt_l 55 (.inl (jo_b 56 (fun x y => x &&& y))))) (jt_n 59 (jt_l 56 (.inl (jo_go 70))) (jt_l 59 (.inl (jo_al 60 0))))) (jt_n 65 (jt_n 63 (jt_l 60 (.inl (jo_gf 63 9 4))) (jt_l 63 (.inl (jo_il 65 6)))) (jt_n 66 (jt_l 65 (.inl (jo_ia 66))) (jt_l 66 (.inl (jo_il 67 2)))))) (jt_n 72 (jt_n 69 (jt_n 68 (jt_l 67 (.inl (jo_b 68 (fun x y => x >>> (y &&& 31))))) (jt_l 68 (.inl (jo_c 69 (nI 1))))) (jt_n 70 (jt_l 69 (.inl (jo_b 70 (fun x y => x &&& y)))) (jt_l 70 (.inl (jo_is 72 8 7))))) (jt_n 74 (jt_n 73 (jt_l 72 (.inl (jo_c 73 (nI 2)))) (jt_l 73 (.inl (jo_il 74 3)))) (jt_n 75 (jt_l 74 (.inl (jo_b 75 (fun x y => x * y)))) (jt_l 75 (.inl (jo_il 77 7))))))) (jt_n 91 (jt_n 82 (jt_n 79 (jt_n 78 (jt_l 77 (.inl (jo_b 78 (fun x y => x + y)))) (jt_l 78 (.inl (jo_is 79 8 3)))) (jt_n 81 (jt_l 79 (.inl (jo_il 81 7))) (jt_l 81 (.inl (jo_c 82 (nI 1)))))) (jt_n 87 (jt_n 85 (jt_l 82 (.inl (jo_ic 85 90 (fun x y => decide (¬ x = y))))) (jt_l 85 (.inl (jo_il 87 6)))) (jt_n 90 (jt_l 87 (.inl (jo_go 97))) (jt_l 90 (.inl (jo_al 91 0)))))) (jt_n 99 (jt_n 96 (jt_n 94 (jt_l 91 (.inl (jo_gf 94 9 5))) (jt_l 94 (.inl (jo_il 96 4)))) (jt_n 97 (jt_l 96 (.inl (jo_ia 97))) (jt_l 97 (.inl (jo_is 99 8 4))))) (jt_n 105 (jt_n 102 (jt_l 99 (.inl (jo_inc 102 8 5 (nI 1)))) (jt_l 102 (.inl (jo_go 8)))) (jt_n 106 (jt_l 105 (.inl (jo_il 106 3))) (jt_l 106 (.inr (.inr 1)))))))))
/-- TalkBench$Task.<init>()V -/
def jc_67 : Nat → Option jxI := (jt_n 17 (jt_n 9 (jt_n 4 (jt_n 1 (jt_l 0 (.inl (jo_al 1 0))) (jt_l 1 (.inl (jo_oi 4)))) (jt_n 5 (jt_l 4 (.inl (jo_al 5 0))) (jt_n 6 (jt_l 5 (.inl (jo_c 6 (nI 1)))) (jt_l 6 (.inl (jo_pf 9 10 0 0)))))) (jt_n 11 (jt_n 10 (jt_l 9 (.inl (jo_al 10 0))) (jt_l 10 (.inl (jo_c 11 (nI 1))))) (jt_n 14 (jt_l 11 (.inl (jo_pf 14 10 1 0))) (jt_n 15 (jt_l 14 (.inl (jo_al 15 0))) (jt_l 15 (.inl (jo_c 17 (nI 25)))))))) (jt_n 27 (jt_n 22 (jt_n 19 (jt_l 17 (.inl (jo_ni 19))) (jt_l 19 (.inl (jo_pf 22 10 2 2)))) (jt_n 23 (jt_l 22 (.inl (jo_al 23 0))) (jt_n 25 (jt_l 23 (.inl (jo_c 25 (nI 25)))) (jt_l 25 (.inl (jo_ni 27)))))) (jt_n 34 (jt_n 30 (jt_l 27 (.inl (jo_pf 30 10 3 2))) (jt_n 31 (jt_l 30 (.inl (jo_al 31 0))) (jt_l 31 (.inl (jo_gf 34 10 3))))) (jt_n 35 (jt_l 34 (.inl (jo_c 35 (nI 1)))) (jt_n 38 (jt_l 35 (.inr (.inl (198, 2, 38, none)))) (jt_l 38 (.inr (.inr 0))))))))
/-- TalkBench$Task.size()I -/
def jc_68 : Nat → Option jxI := (jt_n 5 (jt_n 1 (jt_l 0 (.inl (jo_al 1 0))) (jt_n 4 (jt_l 1 (.inl (jo_gf 4 10 0))) (jt_l 4 (.inl (jo_al 5 0))))) (jt_n 8 (jt_l 5 (.inl (jo_gf 8 10 1))) (jt_n 9 (jt_l 8 (.inl (jo_b 9 (fun x y => x * y)))) (jt_l 9 (.inr (.inr 1))))))
/-- TalkBench$Task.has(II)Z -/
def jc_69 : Nat → Option jxI := (jt_n 16 (jt_n 6 (jt_n 4 (jt_n 1 (jt_l 0 (.inl (jo_il 1 1))) (jt_l 1 (.inl (jo_if 4 28 (fun x => decide (x < 0)))))) (jt_n 5 (jt_l 4 (.inl (jo_il 5 1))) (jt_l 5 (.inl (jo_al 6 0))))) (jt_n 12 (jt_n 9 (jt_l 6 (.inl (jo_gf 9 10 0))) (jt_l 9 (.inl (jo_ic 12 28 (fun x y => decide (y ≤ x)))))) (jt_n 13 (jt_l 12 (.inl (jo_il 13 2))) (jt_l 13 (.inl (jo_if 16 28 (fun x => decide (x < 0)))))))) (jt_n 24 (jt_n 18 (jt_n 17 (jt_l 16 (.inl (jo_il 17 2))) (jt_l 17 (.inl (jo_al 18 0)))) (jt_n 21 (jt_l 18 (.inl (jo_gf 21 10 1))) (jt_l 21 (.inl (jo_ic 24 28 (fun x y => decide (y ≤ x))))))) (jt_n 28 (jt_n 25 (jt_l 24 (.inl (jo_c 25 (nI 1)))) (jt_l 25 (.inl (jo_go 29)))) (jt_n 29 (jt_l 28 (.inl (jo_c 29 (nI 0)))) (jt_l 29 (.inr (.inr 2)))))))
/-- TalkBench$Task.clear(II)V -/
def jc_70 : Nat → Option jxI := (jt_n 11 (jt_n 5 (jt_n 1 (jt_l 0 (.inl (jo_al 1 0))) (jt_n 2 (jt_l 1 (.inl (jo_il 2 1))) (jt_l 2 (.inl (jo_pf 5 10 0 0))))) (jt_n 7 (jt_n 6 (jt_l 5 (.inl (jo_al 6 0))) (jt_l 6 (.inl (jo_il 7 2)))) (jt_n 10 (jt_l 7 (.inl (jo_pf 10 10 1 0))) (jt_l 10 (.inl (jo_al 11 0)))))) (jt_n 19 (jt_n 15 (jt_n 14 (jt_l 11 (.inl (jo_gf 14 10 2))) (jt_l 14 (.inl (jo_c 15 (nI 0))))) (jt_n 18 (jt_l 15 (.inr (.inl (198, 2, 18, none)))) (jt_l 18 (.inl (jo_al 19 0))))) (jt_n 23 (jt_n 22 (jt_l 19 (.inl (jo_gf 22 10 3))) (jt_l 22 (.inl (jo_c 23 (nI 1))))) (jt_n 26 (jt_l 23 (.inr (.inl (198, 2, 26, none)))) (jt_l 26 (.inr (.inr 0)))))))
/-- TalkBench$Task.become(LTalkBench$Task;)V -/
def jc_71 : Nat → Option jxI := (jt_n 22 (jt_n 10 (jt_n 5 (jt_n 1 (jt_l 0 (.inl (jo_al 1 0))) (jt_n 2 (jt_l 1 (.inl (jo_al 2 1))) (jt_l 2 (.inl (jo_gf 5 10 0))))) (jt_n 8 (jt_l 5 (.inl (jo_pf 8 10 0 0))) (jt_n 9 (jt_l 8 (.inl (jo_al 9 0))) (jt_l 9 (.inl (jo_al 10 1)))))) (jt_n 17 (jt_n 13 (jt_l 10 (.inl (jo_gf 13 10 1))) (jt_n 16 (jt_l 13 (.inl (jo_pf 16 10 1 0))) (jt_l 16 (.inl (jo_al 17 1))))) (jt_n 20 (jt_l 17 (.inl (jo_gf 20 10 2))) (jt_n 21 (jt_l 20 (.inl (jo_c 21 (nI 0)))) (jt_l 21 (.inl (jo_al 22 0))))))) (jt_n 35 (jt_n 28 (jt_n 25 (jt_l 22 (.inl (jo_gf 25 10 2))) (jt_n 26 (jt_l 25 (.inl (jo_c 26 (nI 0)))) (jt_l 26 (.inl (jo_c 28 (nI 25)))))) (jt_n 31 (jt_l 28 (.inl (jo_cp 31))) (jt_n 32 (jt_l 31 (.inl (jo_al 32 1))) (jt_l 32 (.inl (jo_gf 35 10 3)))))) (jt_n 40 (jt_n 36 (jt_l 35 (.inl (jo_c 36 (nI 0)))) (jt_n 37 (jt_l 36 (.inl (jo_al 37 0))) (jt_l 37 (.inl (jo_gf 40 10 3))))) (jt_n 43 (jt_n 41 (jt_l 40 (.inl (jo_c 41 (nI 0)))) (jt_l 41 (.inl (jo_c 43 (nI 25))))) (jt_n 46 (jt_l 43 (.inl (jo_cp 46))) (jt_l 46 (.inr (.inr 0))))))))
/-- TalkBench$Task.count(I)I -/
def jc_72 : Nat → Option jxI := (jt_n 25 (jt_n 9 (jt_n 3 (jt_n 1 (jt_l 0 (.inl (jo_c 1 (nI 0)))) (jt_n 2 (jt_l 1 (.inl (jo_is 2 5 2))) (jt_l 2 (.inl (jo_c 3 (nI 0)))))) (jt_n 5 (jt_n 4 (jt_l 3 (.inl (jo_is 4 5 3))) (jt_l 4 (.inl (jo_il 5 3)))) (jt_n 6 (jt_l 5 (.inl (jo_al 6 0))) (jt_l 6 (.inl (jo_gf 9 10 0)))))) (jt_n 17 (jt_n 13 (jt_n 12 (jt_l 9 (.inl (jo_ic 12 54 (fun x y => decide (y ≤ x))))) (jt_l 12 (.inl (jo_c 13 (nI 0))))) (jt_n 15 (jt_l 13 (.inl (jo_is 15 5 4))) (jt_l 15 (.inl (jo_il 17 4))))) (jt_n 21 (jt_n 18 (jt_l 17 (.inl (jo_al 18 0))) (jt_l 18 (.inl (jo_gf 21 10 1)))) (jt_n 24 (jt_l 21 (.inl (jo_ic 24 48 (fun x y => decide (y ≤ x))))) (jt_l 24 (.inl (jo_al 25 0))))))) (jt_n 36 (jt_n 31 (jt_n 29 (jt_n 28 (jt_l 25 (.inl (jo_gf 28 10 2))) (jt_l 28 (.inl (jo_c 29 (nI 5))))) (jt_n 30 (jt_l 29 (.inl (jo_il 30 3))) (jt_l 30 (.inl (jo_b 31 (fun x y => x * y)))))) (jt_n 34 (jt_n 33 (jt_l 31 (.inl (jo_il 33 4))) (jt_l 33 (.inl (jo_b 34 (fun x y => x + y))))) (jt_n 35 (jt_l 34 (.inl (jo_ia 35))) (jt_l 35 (.inl (jo_il 36 1)))))) (jt_n 48 (jt_n 42 (jt_n 39 (jt_l 36 (.inl (jo_ic 39 42 (fun x y => decide (¬ x = y))))) (jt_l 39 (.inl (jo_inc 42 5 2 (nI 1))))) (jt_n 45 (jt_l 42 (.inl (jo_inc 45 5 4 (nI 1)))) (jt_l 45 (.inl (jo_go 15))))) (jt_n 54 (jt_n 51 (jt_l 48 (.inl (jo_inc 51 5 3 (nI 1)))) (jt_l 51 (.inl (jo_go 4)))) (jt_n 55 (jt_l 54 (.inl (jo_il 55 2))) (jt_l 55 (.inr (.inr 1))))))))
/-- TalkBench$Task.findKind()I -/
def jc_73 : Nat → Option jxI := (jt_n 11 (jt_n 5 (jt_n 1 (jt_l 0 (.inl (jo_al 1 0))) (jt_n 2 (jt_l 1 (.inl (jo_c 2 (nI 2)))) (jt_l 2 (.inr (.inl (72, 2, 5, some 10)))))) (jt_n 9 (jt_n 8 (jt_l 5 (.inl (jo_if 8 10 (fun x => decide (x ≤ 0))))) (jt_l 8 (.inl (jo_c 9 (nI 3))))) (jt_n 10 (jt_l 9 (.inr (.inr 1))) (jt_l 10 (.inl (jo_al 11 0)))))) (jt_n 21 (jt_n 15 (jt_n 14 (jt_l 11 (.inl (jo_gf 14 10 0))) (jt_l 14 (.inl (jo_al 15 0)))) (jt_n 18 (jt_l 15 (.inl (jo_gf 18 10 1))) (jt_l 18 (.inl (jo_ic 21 25 (fun x y => decide (¬ x = y))))))) (jt_n 25 (jt_n 22 (jt_l 21 (.inl (jo_c 22 (nI 2)))) (jt_l 22 (.inl (jo_go 26)))) (jt_n 26 (jt_l 25 (.inl (jo_c 26 (nI 1)))) (jt_l 26 (.inr (.inr 1)))))))
/-- TalkBench$Task.fillByRule(I)V -/
def jc_74 : Nat → Option jxI := (jt_n 24 (jt_n 11 (jt_n 3 (jt_n 1 (jt_l 0 (.inl (jo_c 1 (nI 0)))) (jt_n 2 (jt_l 1 (.inl (jo_is 2 4 2))) (jt_l 2 (.inl (jo_il 3 2))))) (jt_n 7 (jt_n 4 (jt_l 3 (.inl (jo_al 4 0))) (jt_l 4 (.inl (jo_gf 7 10 0)))) (jt_n 10 (jt_l 7 (.inl (jo_ic 10 48 (fun x y => decide (y ≤ x))))) (jt_l 10 (.inl (jo_c 11 (nI 0))))))) (jt_n 14 (jt_n 12 (jt_l 11 (.inl (jo_is 12 4 3))) (jt_n 13 (jt_l 12 (.inl (jo_il 13 3))) (jt_l 13 (.inl (jo_al 14 0))))) (jt_n 20 (jt_n 17 (jt_l 14 (.inl (jo_gf 17 10 1))) (jt_l 17 (.inl (jo_ic 20 42 (fun x y => decide (y ≤ x)))))) (jt_n 21 (jt_l 20 (.inl (jo_al 21 0))) (jt_l 21 (.inl (jo_gf 24 10 2))))))) (jt_n 31 (jt_n 27 (jt_n 25 (jt_l 24 (.inl (jo_c 25 (nI 5)))) (jt_n 26 (jt_l 25 (.inl (jo_il 26 2))) (jt_l 26 (.inl (jo_b 27 (fun x y => x * y)))))) (jt_n 29 (jt_n 28 (jt_l 27 (.inl (jo_il 28 3))) (jt_l 28 (.inl (jo_b 29 (fun x y => x + y))))) (jt_n 30 (jt_l 29 (.inl (jo_il 30 1))) (jt_l 30 (.inl (jo_il 31 2)))))) (jt_n 39 (jt_n 35 (jt_n 32 (jt_l 31 (.inl (jo_il 32 3))) (jt_l 32 (.inr (.inl (75, 3, 35, none))))) (jt_n 36 (jt_l 35 (.inl (jo_iw 36))) (jt_l 36 (.inl (jo_inc 39 4 3 (nI 1)))))) (jt_n 45 (jt_n 42 (jt_l 39 (.inl (jo_go 12))) (jt_l 42 (.inl (jo_inc 45 4 2 (nI 1))))) (jt_n 48 (jt_l 45 (.inl (jo_go 2))) (jt_l 48 (.inr (.inr 0))))))))
/-- TalkBench$Task.byRule(III)I -/
def jc_75 : Nat → Option jxI := (jt_n 68 (jt_n 48 (jt_n 8 (jt_n 3 (jt_n 1 (jt_l 0 (.inl (jo_il 1 1))) (jt_n 2 (jt_l 1 (.inl (jo_il 2 2))) (jt_l 2 (.inl (jo_b 3 (fun x y => x &&& y)))))) (jt_n 6 (jt_l 3 (.inr (.inl (197, 1, 6, none)))) (jt_n 7 (jt_l 6 (.inl (jo_is 7 5 3))) (jt_l 7 (.inl (jo_il 8 1)))))) (jt_n 13 (jt_n 9 (jt_l 8 (.inl (jo_il 9 2))) (jt_n 10 (jt_l 9 (.inl (jo_b 10 (fun x y => x - y)))) (jt_l 10 (.inl (jo_m1 13 (fun x => if 0 ≤ x then x else 0 - x)))))) (jt_n 15 (jt_l 13 (.inl (jo_is 15 5 4))) (jt_n 16 (jt_l 15 (.inl (jo_il 16 0))) (jt_l 16 (.inl (jo_sw (js_swt 16 68 0 3 [32, 43, 54, 64])))))))) (jt_n 58 (jt_n 53 (jt_n 49 (jt_l 48 (.inl (jo_il 49 1))) (jt_n 50 (jt_l 49 (.inl (jo_il 50 2))) (jt_l 50 (.inl (jo_ic 53 57 (fun x y => decide (¬ x = y))))))) (jt_n 54 (jt_l 53 (.inl (jo_c 54 (nI 1)))) (jt_n 57 (jt_l 54 (.inl (jo_go 58))) (jt_l 57 (.inl (jo_c 58 (nI 0))))))) (jt_n 61 (jt_n 59 (jt_l 58 (.inr (.inr 1))) (jt_n 60 (jt_l 59 (.inl (jo_il 60 1))) (jt_l 60 (.inl (jo_il 61 2))))) (jt_n 64 (jt_l 61 (.inl (jo_ic 64 68 (fun x y => decide (y ≤ x))))) (jt_n 65 (jt_l 64 (.inl (jo_c 65 (nI 1)))) (jt_l 65 (.inl (jo_go 69)))))))) (jt_n 84 (jt_n 78 (jt_n 71 (jt_n 69 (jt_l 68 (.inl (jo_c 69 (nI 0)))) (jt_n 70 (jt_l 69 (.inr (.inr 1))) (jt_l 70 (.inl (jo_il 71 3))))) (jt_n 74 (jt_l 71 (.inl (jo_if 74 78 (fun x => decide (¬ x = 0))))) (jt_n 75 (jt_l 74 (.inl (jo_c 75 (nI 1)))) (jt_l 75 (.inl (jo_go 79)))))) (jt_n 81 (jt_n 79 (jt_l 78 (.inl (jo_c 79 (nI 0)))) (jt_n 80 (jt_l 79 (.inr (.inr 1))) (jt_l 80 (.inl (jo_il 81 3))))) (jt_n 82 (jt_l 81 (.inl (jo_c 82 (nI 1)))) (jt_n 83 (jt_l 82 (.inl (jo_b 83 (fun x y => x &&& y)))) (jt_l 83 (.inr (.inr 1))))))) (jt_n 96 (jt_n 90 (jt_n 86 (jt_l 84 (.inl (jo_il 86 4))) (jt_n 87 (jt_l 86 (.inl (jo_c 87 (nI 1)))) (jt_l 87 (.inl (jo_ic 90 94 (fun x y => decide (y < x))))))) (jt_n 91 (jt_l 90 (.inl (jo_c 91 (nI 1)))) (jt_n 94 (jt_l 91 (.inl (jo_go 105))) (jt_l 94 (.inl (jo_il 96 4)))))) (jt_n 101 (jt_n 97 (jt_l 96 (.inl (jo_c 97 (nI 2)))) (jt_n 100 (jt_l 97 (.inl (jo_ic 100 104 (fun x y => decide (¬ x = y))))) (jt_l 100 (.inl (jo_c 101 (nI 2)))))) (jt_n 104 (jt_l 101 (.inl (jo_go 105))) (jt_n 105 (jt_l 104 (.inl (jo_c 105 (nI 0)))) (jt_l 105 (.inr (.inr 1)))))))))
/-- TalkBench$Task.fillFrom(LTalkBench$Sheet;)V -/
def jc_76 : Nat → Option jxI := (jt_n 31 (jt_n 13 (jt_n 4 (jt_n 2 (jt_n 1 (jt_l 0 (.inl (jo_c 1 (nI 0)))) (jt_l 1 (.inl (jo_is 2 5 2)))) (jt_n 3 (jt_l 2 (.inl (jo_c 3 (nI 0)))) (jt_l 3 (.inl (jo_is 4 5 3))))) (jt_n 6 (jt_n 5 (jt_l 4 (.inl (jo_il 5 3))) (jt_l 5 (.inl (jo_al 6 0)))) (jt_n 9 (jt_l 6 (.inl (jo_gf 9 10 0))) (jt_n 12 (jt_l 9 (.inl (jo_ic 12 68 (fun x y => decide (y ≤ x))))) (jt_l 12 (.inl (jo_c 13 (nI 0)))))))) (jt_n 24 (jt_n 17 (jt_n 15 (jt_l 13 (.inl (jo_is 15 5 4))) (jt_l 15 (.inl (jo_il 17 4)))) (jt_n 18 (jt_l 17 (.inl (jo_al 18 0))) (jt_n 21 (jt_l 18 (.inl (jo_gf 21 10 1))) (jt_l 21 (.inl (jo_ic 24 62 (fun x y => decide (y ≤ x)))))))) (jt_n 28 (jt_n 25 (jt_l 24 (.inl (jo_al 25 0))) (jt_l 25 (.inl (jo_gf 28 10 2)))) (jt_n 29 (jt_l 28 (.inl (jo_c 29 (nI 5)))) (jt_n 30 (jt_l 29 (.inl (jo_il 30 3))) (jt_l 30 (.inl (jo_b 31 (fun x y => x * y))))))))) (jt_n 47 (jt_n 36 (jt_n 34 (jt_n 33 (jt_l 31 (.inl (jo_il 33 4))) (jt_l 33 (.inl (jo_b 34 (fun x y => x + y))))) (jt_n 35 (jt_l 34 (.inl (jo_il 35 2))) (jt_l 35 (.inl (jo_al 36 1))))) (jt_n 42 (jt_n 39 (jt_l 36 (.inl (jo_gf 39 8 1))) (jt_l 39 (.inl (jo_ic 42 51 (fun x y => decide (y ≤ x)))))) (jt_n 43 (jt_l 42 (.inl (jo_al 43 1))) (jt_n 46 (jt_l 43 (.inl (jo_gf 46 8 2))) (jt_l 46 (.inl (jo_il 47 2))))))) (jt_n 56 (jt_n 51 (jt_n 48 (jt_l 47 (.inl (jo_ia 48))) (jt_l 48 (.inl (jo_go 52)))) (jt_n 52 (jt_l 51 (.inl (jo_c 52 (nI 2)))) (jt_n 53 (jt_l 52 (.inl (jo_iw 53))) (jt_l 53 (.inl (jo_inc 56 5 2 (nI 1))))))) (jt_n 62 (jt_n 59 (jt_l 56 (.inl (jo_inc 59 5 4 (nI 1)))) (jt_l 59 (.inl (jo_go 15)))) (jt_n 65 (jt_l 62 (.inl (jo_inc 65 5 3 (nI 1)))) (jt_n 68 (jt_l 65 (.inl (jo_go 4))) (jt_l 68 (.inr (.inr 0)))))))))
/-- TalkBench$Task.swapSides()V -/
def jc_77 : Nat → Option jxI := (jt_n 35 (jt_n 18 (jt_n 8 (jt_n 3 (jt_n 1 (jt_l 0 (.inl (jo_c 1 (nI 0)))) (jt_n 2 (jt_l 1 (.inl (jo_is 2 3 1))) (jt_l 2 (.inl (jo_il 3 1))))) (jt_n 4 (jt_l 3 (.inl (jo_c 4 (nI 5)))) (jt_n 7 (jt_l 4 (.inl (jo_ic 7 60 (fun x y => decide (y ≤ x))))) (jt_l 7 (.inl (jo_c 8 (nI 0))))))) (jt_n 11 (jt_n 9 (jt_l 8 (.inl (jo_is 9 3 2))) (jt_n 10 (jt_l 9 (.inl (jo_il 10 2))) (jt_l 10 (.inl (jo_il 11 1))))) (jt_n 14 (jt_l 11 (.inl (jo_ic 14 54 (fun x y => decide (y ≤ x))))) (jt_n 15 (jt_l 14 (.inl (jo_al 15 0))) (jt_l 15 (.inl (jo_gf 18 10 2))))))) (jt_n 24 (jt_n 21 (jt_n 19 (jt_l 18 (.inl (jo_c 19 (nI 5)))) (jt_n 20 (jt_l 19 (.inl (jo_il 20 1))) (jt_l 20 (.inl (jo_b 21 (fun x y => x * y)))))) (jt_n 22 (jt_l 21 (.inl (jo_il 22 2))) (jt_n 23 (jt_l 22 (.inl (jo_b 23 (fun x y => x + y)))) (jt_l 23 (.inl (jo_c 24 (nI 5))))))) (jt_n 27 (jt_n 25 (jt_l 24 (.inl (jo_il 25 2))) (jt_n 26 (jt_l 25 (.inl (jo_b 26 (fun x y => x * y)))) (jt_l 26 (.inl (jo_il 27 1))))) (jt_n 31 (jt_n 28 (jt_l 27 (.inl (jo_b 28 (fun x y => x + y)))) (jt_l 28 (.inr (.inl (78, 3, 31, none))))) (jt_n 32 (jt_l 31 (.inl (jo_al 32 0))) (jt_l 32 (.inl (jo_gf 35 10 3)))))))) (jt_n 54 (jt_n 41 (jt_n 38 (jt_n 36 (jt_l 35 (.inl (jo_c 36 (nI 5)))) (jt_n 37 (jt_l 36 (.inl (jo_il 37 1))) (jt_l 37 (.inl (jo_b 38 (fun x y => x * y)))))) (jt_n 39 (jt_l 38 (.inl (jo_il 39 2))) (jt_n 40 (jt_l 39 (.inl (jo_b 40 (fun x y => x + y)))) (jt_l 40 (.inl (jo_c 41 (nI 5))))))) (jt_n 44 (jt_n 42 (jt_l 41 (.inl (jo_il 42 2))) (jt_n 43 (jt_l 42 (.inl (jo_b 43 (fun x y => x * y)))) (jt_l 43 (.inl (jo_il 44 1))))) (jt_n 48 (jt_n 45 (jt_l 44 (.inl (jo_b 45 (fun x y => x + y)))) (jt_l 45 (.inr (.inl (78, 3, 48, none))))) (jt_n 51 (jt_l 48 (.inl (jo_inc 51 3 2 (nI 1)))) (jt_l 51 (.inl (jo_go 9))))))) (jt_n 66 (jt_n 61 (jt_n 57 (jt_l 54 (.inl (jo_inc 57 3 1 (nI 1)))) (jt_n 60 (jt_l 57 (.inl (jo_go 2))) (jt_l 60 (.inl (jo_al 61 0))))) (jt_n 64 (jt_l 61 (.inl (jo_gf 64 10 0))) (jt_n 65 (jt_l 64 (.inl (jo_is 65 3 1))) (jt_l 65 (.inl (jo_al 66 0)))))) (jt_n 73 (jt_n 67 (jt_l 66 (.inl (jo_al 67 0))) (jt_n 70 (jt_l 67 (.inl (jo_gf 70 10 1))) (jt_l 70 (.inl (jo_pf 73 10 0 0))))) (jt_n 75 (jt_n 74 (jt_l 73 (.inl (jo_al 74 0))) (jt_l 74 (.inl (jo_il 75 1)))) (jt_n 78 (jt_l 75 (.inl (jo_pf 78 10 1 0))) (jt_l 78 (.inr (.inr 0)))))))))
/-- TalkBench$Task.swap([III)V -/
def jc_78 : Nat → Option jxI := (jt_n 7 (jt_n 3 (jt_n 1 (jt_l 0 (.inl (jo_al 1 0))) (jt_n 2 (jt_l 1 (.inl (jo_il 2 1))) (jt_l 2 (.inl (jo_ia 3))))) (jt_n 5 (jt_n 4 (jt_l 3 (.inl (jo_is 4 4 3))) (jt_l 4 (.inl (jo_al 5 0)))) (jt_n 6 (jt_l 5 (.inl (jo_il 6 1))) (jt_l 6 (.inl (jo_al 7 0)))))) (jt_n 11 (jt_n 9 (jt_n 8 (jt_l 7 (.inl (jo_il 8 2))) (jt_l 8 (.inl (jo_ia 9)))) (jt_n 10 (jt_l 9 (.inl (jo_iw 10))) (jt_l 10 (.inl (jo_al 11 0))))) (jt_n 13 (jt_n 12 (jt_l 11 (.inl (jo_il 12 2))) (jt_l 12 (.inl (jo_il 13 3)))) (jt_n 14 (jt_l 13 (.inl (jo_iw 14))) (jt_l 14 (.inr (.inr 0)))))))
/-- TalkBench$Task.swapAnswers()V -/
def jc_79 : Nat → Option jxI := (jt_n 27 (jt_n 13 (jt_n 4 (jt_n 2 (jt_n 1 (jt_l 0 (.inl (jo_c 1 (nI 0)))) (jt_l 1 (.inl (jo_is 2 4 1)))) (jt_n 3 (jt_l 2 (.inl (jo_il 3 1))) (jt_l 3 (.inl (jo_al 4 0))))) (jt_n 10 (jt_n 7 (jt_l 4 (.inl (jo_gf 7 10 0))) (jt_l 7 (.inl (jo_ic 10 62 (fun x y => decide (y ≤ x)))))) (jt_n 11 (jt_l 10 (.inl (jo_c 11 (nI 0)))) (jt_n 12 (jt_l 11 (.inl (jo_is 12 4 2))) (jt_l 12 (.inl (jo_il 13 2))))))) (jt_n 22 (jt_n 17 (jt_n 14 (jt_l 13 (.inl (jo_al 14 0))) (jt_l 14 (.inl (jo_gf 17 10 1)))) (jt_n 20 (jt_l 17 (.inl (jo_ic 20 56 (fun x y => decide (y ≤ x))))) (jt_n 21 (jt_l 20 (.inl (jo_c 21 (nI 5)))) (jt_l 21 (.inl (jo_il 22 1)))))) (jt_n 24 (jt_n 23 (jt_l 22 (.inl (jo_b 23 (fun x y => x * y)))) (jt_l 23 (.inl (jo_il 24 2)))) (jt_n 25 (jt_l 24 (.inl (jo_b 25 (fun x y => x + y)))) (jt_n 26 (jt_l 25 (.inl (jo_is 26 4 3))) (jt_l 26 (.inl (jo_al 27 0)))))))) (jt_n 43 (jt_n 36 (jt_n 31 (jt_n 30 (jt_l 27 (.inl (jo_gf 30 10 2))) (jt_l 30 (.inl (jo_il 31 3)))) (jt_n 32 (jt_l 31 (.inl (jo_ia 32))) (jt_n 33 (jt_l 32 (.inl (jo_c 33 (nI 2)))) (jt_l 33 (.inl (jo_ic 36 50 (fun x y => decide (x = y)))))))) (jt_n 40 (jt_n 37 (jt_l 36 (.inl (jo_al 37 0))) (jt_l 37 (.inl (jo_gf 40 10 2)))) (jt_n 41 (jt_l 40 (.inl (jo_il 41 3))) (jt_n 42 (jt_l 41 (.inl (jo_c 42 (nI 1)))) (jt_l 42 (.inl (jo_al 43 0))))))) (jt_n 50 (jt_n 47 (jt_n 46 (jt_l 43 (.inl (jo_gf 46 10 2))) (jt_l 46 (.inl (jo_il 47 3)))) (jt_n 48 (jt_l 47 (.inl (jo_ia 48))) (jt_n 49 (jt_l 48 (.inl (jo_b 49 (fun x y => x - y)))) (jt_l 49 (.inl (jo_iw 50)))))) (jt_n 56 (jt_n 53 (jt_l 50 (.inl (jo_inc 53 4 2 (nI 1)))) (jt_l 53 (.inl (jo_go 12)))) (jt_n 59 (jt_l 56 (.inl (jo_inc 59 4 1 (nI 1)))) (jt_n 62 (jt_l 59 (.inl (jo_go 2))) (jt_l 62 (.inr (.inr 0)))))))))
/-- TalkBench$Task.countUnlike(Z)I -/
def jc_80 : Nat → Option jxI := (jt_n 37 (jt_n 18 (jt_n 11 (jt_n 4 (jt_n 1 (jt_l 0 (.inl (jo_il 1 1))) (jt_l 1 (.inl (jo_if 4 11 (fun x => decide (x = 0)))))) (jt_n 5 (jt_l 4 (.inl (jo_al 5 0))) (jt_n 8 (jt_l 5 (.inl (jo_gf 8 10 1))) (jt_l 8 (.inl (jo_go 15)))))) (jt_n 15 (jt_n 12 (jt_l 11 (.inl (jo_al 12 0))) (jt_l 12 (.inl (jo_gf 15 10 0)))) (jt_n 16 (jt_l 15 (.inl (jo_is 16 7 2))) (jt_n 17 (jt_l 16 (.inl (jo_c 17 (nI 0)))) (jt_l 17 (.inl (jo_is 18 7 3))))))) (jt_n 27 (jt_n 21 (jt_n 19 (jt_l 18 (.inl (jo_c 19 (nI 0)))) (jt_l 19 (.inl (jo_is 21 7 4)))) (jt_n 23 (jt_l 21 (.inl (jo_il 23 4))) (jt_n 24 (jt_l 23 (.inl (jo_il 24 2))) (jt_l 24 (.inl (jo_ic 27 84 (fun x y => decide (y ≤ x)))))))) (jt_n 31 (jt_n 28 (jt_l 27 (.inl (jo_c 28 (nI 1)))) (jt_n 30 (jt_l 28 (.inl (jo_is 30 7 5))) (jt_l 30 (.inl (jo_c 31 (nI 0)))))) (jt_n 33 (jt_l 31 (.inl (jo_is 33 7 6))) (jt_n 35 (jt_l 33 (.inl (jo_il 35 6))) (jt_l 35 (.inl (jo_il 37 4)))))))) (jt_n 61 (jt_n 48 (jt_n 42 (jt_n 40 (jt_l 37 (.inl (jo_ic 40 70 (fun x y => decide (y ≤ x))))) (jt_l 40 (.inl (jo_il 42 5)))) (jt_n 45 (jt_l 42 (.inl (jo_if 45 61 (fun x => decide (x = 0))))) (jt_n 46 (jt_l 45 (.inl (jo_al 46 0))) (jt_l 46 (.inl (jo_il 48 4)))))) (jt_n 54 (jt_n 50 (jt_l 48 (.inl (jo_il 50 6))) (jt_n 51 (jt_l 50 (.inl (jo_il 51 1))) (jt_l 51 (.inr (.inl (81, 4, 54, some 10)))))) (jt_n 57 (jt_l 54 (.inl (jo_if 57 61 (fun x => decide (¬ x = 0))))) (jt_n 58 (jt_l 57 (.inl (jo_c 58 (nI 1)))) (jt_l 58 (.inl (jo_go 62))))))) (jt_n 72 (jt_n 64 (jt_n 62 (jt_l 61 (.inl (jo_c 62 (nI 0)))) (jt_l 62 (.inl (jo_is 64 7 5)))) (jt_n 67 (jt_l 64 (.inl (jo_inc 67 7 6 (nI 1)))) (jt_n 70 (jt_l 67 (.inl (jo_go 33))) (jt_l 70 (.inl (jo_il 72 5)))))) (jt_n 81 (jt_n 75 (jt_l 72 (.inl (jo_if 75 78 (fun x => decide (x = 0))))) (jt_n 78 (jt_l 75 (.inl (jo_inc 78 7 3 (nI 1)))) (jt_l 78 (.inl (jo_inc 81 7 4 (nI 1)))))) (jt_n 84 (jt_l 81 (.inl (jo_go 21))) (jt_n 85 (jt_l 84 (.inl (jo_il 85 3))) (jt_l 85 (.inr (.inr 1)))))))))
/-- TalkBench$Task.areAlike(IIZ)Z -/
def jc_81 : Nat → Option jxI := (jt_n 52 (jt_n 28 (jt_n 15 (jt_n 5 (jt_n 1 (jt_l 0 (.inl (jo_il 1 3))) (jt_n 4 (jt_l 1 (.inl (jo_if 4 11 (fun x => decide (x = 0))))) (jt_l 4 (.inl (jo_al 5 0))))) (jt_n 11 (jt_n 8 (jt_l 5 (.inl (jo_gf 8 10 0))) (jt_l 8 (.inl (jo_go 15)))) (jt_n 12 (jt_l 11 (.inl (jo_al 12 0))) (jt_l 12 (.inl (jo_gf 15 10 1)))))) (jt_n 21 (jt_n 17 (jt_l 15 (.inl (jo_is 17 9 4))) (jt_n 18 (jt_l 17 (.inl (jo_il 18 3))) (jt_l 18 (.inl (jo_if 21 25 (fun x => decide (x = 0))))))) (jt_n 25 (jt_n 22 (jt_l 21 (.inl (jo_c 22 (nI 5)))) (jt_l 22 (.inl (jo_go 26)))) (jt_n 26 (jt_l 25 (.inl (jo_c 26 (nI 1)))) (jt_l 26 (.inl (jo_is 28 9 5))))))) (jt_n 39 (jt_n 33 (jt_n 29 (jt_l 28 (.inl (jo_il 29 3))) (jt_n 32 (jt_l 29 (.inl (jo_if 32 36 (fun x => decide (x = 0))))) (jt_l 32 (.inl (jo_il 33 1))))) (jt_n 37 (jt_n 36 (jt_l 33 (.inl (jo_go 39))) (jt_l 36 (.inl (jo_c 37 (nI 5))))) (jt_n 38 (jt_l 37 (.inl (jo_il 38 1))) (jt_l 38 (.inl (jo_b 39 (fun x y => x * y))))))) (jt_n 46 (jt_n 42 (jt_n 41 (jt_l 39 (.inl (jo_is 41 9 6))) (jt_l 41 (.inl (jo_il 42 3)))) (jt_n 45 (jt_l 42 (.inl (jo_if 45 49 (fun x => decide (x = 0))))) (jt_l 45 (.inl (jo_il 46 2))))) (jt_n 50 (jt_n 49 (jt_l 46 (.inl (jo_go 52))) (jt_l 49 (.inl (jo_c 50 (nI 5))))) (jt_n 51 (jt_l 50 (.inl (jo_il 51 2))) (jt_l 51 (.inl (jo_b 52 (fun x y => x * y))))))))) (jt_n 77 (jt_n 65 (jt_n 57 (jt_n 54 (jt_l 52 (.inl (jo_is 54 9 7))) (jt_n 55 (jt_l 54 (.inl (jo_c 55 (nI 0)))) (jt_l 55 (.inl (jo_is 57 9 8))))) (jt_n 61 (jt_n 59 (jt_l 57 (.inl (jo_il 59 8))) (jt_l 59 (.inl (jo_il 61 4)))) (jt_n 64 (jt_l 61 (.inl (jo_ic 64 101 (fun x y => decide (y ≤ x))))) (jt_l 64 (.inl (jo_al 65 0)))))) (jt_n 72 (jt_n 68 (jt_l 65 (.inl (jo_gf 68 10 2))) (jt_n 70 (jt_l 68 (.inl (jo_il 70 6))) (jt_l 70 (.inl (jo_il 72 5))))) (jt_n 75 (jt_n 74 (jt_l 72 (.inl (jo_il 74 8))) (jt_l 74 (.inl (jo_b 75 (fun x y => x * y))))) (jt_n 76 (jt_l 75 (.inl (jo_b 76 (fun x y => x + y)))) (jt_l 76 (.inl (jo_ia 77))))))) (jt_n 89 (jt_n 83 (jt_n 78 (jt_l 77 (.inl (jo_al 78 0))) (jt_n 81 (jt_l 78 (.inl (jo_gf 81 10 2))) (jt_l 81 (.inl (jo_il 83 7))))) (jt_n 87 (jt_n 85 (jt_l 83 (.inl (jo_il 85 5))) (jt_l 85 (.inl (jo_il 87 8)))) (jt_n 88 (jt_l 87 (.inl (jo_b 88 (fun x y => x * y)))) (jt_l 88 (.inl (jo_b 89 (fun x y => x + y))))))) (jt_n 95 (jt_n 93 (jt_n 90 (jt_l 89 (.inl (jo_ia 90))) (jt_l 90 (.inl (jo_ic 93 95 (fun x y => decide (x = y)))))) (jt_n 94 (jt_l 93 (.inl (jo_c 94 (nI 0)))) (jt_l 94 (.inr (.inr 2))))) (jt_n 101 (jt_n 98 (jt_l 95 (.inl (jo_inc 98 9 8 (nI 1)))) (jt_l 98 (.inl (jo_go 57)))) (jt_n 102 (jt_l 101 (.inl (jo_c 102 (nI 1)))) (jt_l 102 (.inr (.inr 2)))))))))
/-- TalkBench$Task.findRank(Z)I -/
def jc_82 : Nat → Option jxI := (jt_n 54 (jt_n 25 (jt_n 12 (jt_n 6 (jt_n 1 (jt_l 0 (.inl (jo_al 1 0))) (jt_n 4 (jt_l 1 (.inl (jo_gf 4 10 2))) (jt_l 4 (.inl (jo_c 6 (nI 25)))))) (jt_n 10 (jt_n 9 (jt_l 6 (.inr (.inl (199, 2, 9, none)))) (jt_l 9 (.inl (jo_as 10 7 2)))) (jt_n 11 (jt_l 10 (.inl (jo_c 11 (nI 0)))) (jt_l 11 (.inl (jo_is 12 7 3)))))) (jt_n 17 (jt_n 13 (jt_l 12 (.inl (jo_c 13 (nI 0)))) (jt_n 15 (jt_l 13 (.inl (jo_is 15 7 4))) (jt_l 15 (.inl (jo_il 17 4))))) (jt_n 21 (jt_n 18 (jt_l 17 (.inl (jo_al 18 0))) (jt_l 18 (.inl (jo_gf 21 10 1)))) (jt_n 24 (jt_l 21 (.inl (jo_ic 24 104 (fun x y => decide (y ≤ x))))) (jt_l 24 (.inl (jo_il 25 3))))))) (jt_n 37 (jt_n 32 (jt_n 26 (jt_l 25 (.inl (jo_al 26 0))) (jt_n 29 (jt_l 26 (.inl (jo_gf 29 10 0))) (jt_l 29 (.inl (jo_ic 32 104 (fun x y => decide (y ≤ x))))))) (jt_n 34 (jt_n 33 (jt_l 32 (.inl (jo_al 33 0))) (jt_l 33 (.inl (jo_al 34 2)))) (jt_n 35 (jt_l 34 (.inl (jo_il 35 3))) (jt_l 35 (.inl (jo_il 37 4)))))) (jt_n 45 (jt_n 42 (jt_n 40 (jt_l 37 (.inr (.inl (83, 4, 40, some 10)))) (jt_l 40 (.inl (jo_is 42 7 5)))) (jt_n 44 (jt_l 42 (.inl (jo_il 44 5))) (jt_l 44 (.inl (jo_al 45 0))))) (jt_n 51 (jt_n 48 (jt_l 45 (.inl (jo_gf 48 10 0))) (jt_l 48 (.inl (jo_ic 51 98 (fun x y => decide (y ≤ x)))))) (jt_n 52 (jt_l 51 (.inl (jo_c 52 (nI 0)))) (jt_l 52 (.inl (jo_is 54 7 6)))))))) (jt_n 76 (jt_n 67 (jt_n 60 (jt_n 56 (jt_l 54 (.inl (jo_il 56 6))) (jt_n 57 (jt_l 56 (.inl (jo_al 57 0))) (jt_l 57 (.inl (jo_gf 60 10 1))))) (jt_n 64 (jt_n 63 (jt_l 60 (.inl (jo_ic 63 86 (fun x y => decide (y ≤ x))))) (jt_l 63 (.inl (jo_al 64 2)))) (jt_n 65 (jt_l 64 (.inl (jo_c 65 (nI 5)))) (jt_l 65 (.inl (jo_il 67 5)))))) (jt_n 71 (jt_n 68 (jt_l 67 (.inl (jo_b 68 (fun x y => x * y)))) (jt_n 70 (jt_l 68 (.inl (jo_il 70 6))) (jt_l 70 (.inl (jo_b 71 (fun x y => x + y)))))) (jt_n 73 (jt_n 72 (jt_l 71 (.inl (jo_c 72 (nI 5)))) (jt_l 72 (.inl (jo_il 73 3)))) (jt_n 74 (jt_l 73 (.inl (jo_b 74 (fun x y => x * y)))) (jt_l 74 (.inl (jo_il 76 6))))))) (jt_n 89 (jt_n 83 (jt_n 77 (jt_l 76 (.inl (jo_b 77 (fun x y => x + y)))) (jt_n 80 (jt_l 77 (.inr (.inl (78, 3, 80, none)))) (jt_l 80 (.inl (jo_inc 83 7 6 (nI 1)))))) (jt_n 87 (jt_n 86 (jt_l 83 (.inl (jo_go 54))) (jt_l 86 (.inl (jo_al 87 0)))) (jt_n 88 (jt_l 87 (.inl (jo_al 88 2))) (jt_l 88 (.inl (jo_il 89 3)))))) (jt_n 98 (jt_n 92 (jt_n 91 (jt_l 89 (.inl (jo_il 91 4))) (jt_l 91 (.inl (jo_il 92 1)))) (jt_n 95 (jt_l 92 (.inr (.inl (84, 5, 95, some 10)))) (jt_l 95 (.inl (jo_inc 98 7 3 (nI 1)))))) (jt_n 104 (jt_n 101 (jt_l 98 (.inl (jo_inc 101 7 4 (nI 1)))) (jt_l 101 (.inl (jo_go 15)))) (jt_n 105 (jt_l 104 (.inl (jo_il 105 3))) (jt_l 105 (.inr (.inr 1)))))))))
/-- TalkBench$Task.findPivot([III)I -/
def jc_83 : Nat → Option jxI := (jt_n 16 (jt_n 6 (jt_n 3 (jt_n 1 (jt_l 0 (.inl (jo_il 1 2))) (jt_l 1 (.inl (jo_is 3 5 4)))) (jt_n 5 (jt_l 3 (.inl (jo_il 5 4))) (jt_l 5 (.inl (jo_al 6 0))))) (jt_n 12 (jt_n 9 (jt_l 6 (.inl (jo_gf 9 10 0))) (jt_l 9 (.inl (jo_ic 12 29 (fun x y => decide (y ≤ x)))))) (jt_n 13 (jt_l 12 (.inl (jo_al 13 1))) (jt_n 14 (jt_l 13 (.inl (jo_c 14 (nI 5)))) (jt_l 14 (.inl (jo_il 16 4))))))) (jt_n 20 (jt_n 18 (jt_n 17 (jt_l 16 (.inl (jo_b 17 (fun x y => x * y)))) (jt_l 17 (.inl (jo_il 18 3)))) (jt_n 19 (jt_l 18 (.inl (jo_b 19 (fun x y => x + y)))) (jt_l 19 (.inl (jo_ia 20))))) (jt_n 26 (jt_n 23 (jt_l 20 (.inl (jo_if 23 29 (fun x => decide (¬ x = 0))))) (jt_l 23 (.inl (jo_inc 26 5 4 (nI 1))))) (jt_n 29 (jt_l 26 (.inl (jo_go 3))) (jt_n 31 (jt_l 29 (.inl (jo_il 31 4))) (jt_l 31 (.inr (.inr 1))))))))
/-- TalkBench$Task.clearBelow([IIIZ)V -/
def jc_84 : Nat → Option jxI := (jt_n 49 (jt_n 23 (jt_n 9 (jt_n 4 (jt_n 2 (jt_n 1 (jt_l 0 (.inl (jo_al 1 1))) (jt_l 1 (.inl (jo_c 2 (nI 5))))) (jt_n 3 (jt_l 2 (.inl (jo_il 3 2))) (jt_l 3 (.inl (jo_b 4 (fun x y => x * y)))))) (jt_n 6 (jt_n 5 (jt_l 4 (.inl (jo_il 5 3))) (jt_l 5 (.inl (jo_b 6 (fun x y => x + y))))) (jt_n 7 (jt_l 6 (.inl (jo_ia 7))) (jt_l 7 (.inl (jo_is 9 11 5)))))) (jt_n 14 (jt_n 11 (jt_n 10 (jt_l 9 (.inl (jo_il 10 2))) (jt_l 10 (.inl (jo_c 11 (nI 1))))) (jt_n 12 (jt_l 11 (.inl (jo_b 12 (fun x y => x + y)))) (jt_l 12 (.inl (jo_is 14 11 6))))) (jt_n 17 (jt_n 16 (jt_l 14 (.inl (jo_il 16 6))) (jt_l 16 (.inl (jo_al 17 0)))) (jt_n 20 (jt_l 17 (.inl (jo_gf 20 10 0))) (jt_l 20 (.inl (jo_ic 23 105 (fun x y => decide (y ≤ x))))))))) (jt_n 33 (jt_n 28 (jt_n 25 (jt_n 24 (jt_l 23 (.inl (jo_al 24 1))) (jt_l 24 (.inl (jo_c 25 (nI 5))))) (jt_n 27 (jt_l 25 (.inl (jo_il 27 6))) (jt_l 27 (.inl (jo_b 28 (fun x y => x * y)))))) (jt_n 30 (jt_n 29 (jt_l 28 (.inl (jo_il 29 3))) (jt_l 29 (.inl (jo_b 30 (fun x y => x + y))))) (jt_n 31 (jt_l 30 (.inl (jo_ia 31))) (jt_l 31 (.inl (jo_is 33 11 7)))))) (jt_n 39 (jt_n 36 (jt_n 34 (jt_l 33 (.inl (jo_c 34 (nI 0)))) (jt_l 34 (.inl (jo_is 36 11 8)))) (jt_n 38 (jt_l 36 (.inl (jo_il 38 8))) (jt_l 38 (.inl (jo_al 39 0))))) (jt_n 45 (jt_n 42 (jt_l 39 (.inl (jo_gf 42 10 1))) (jt_l 42 (.inl (jo_ic 45 99 (fun x y => decide (y ≤ x)))))) (jt_n 46 (jt_l 45 (.inl (jo_c 46 (nI 5)))) (jt_n 48 (jt_l 46 (.inl (jo_il 48 6))) (jt_l 48 (.inl (jo_b 49 (fun x y => x * y)))))))))) (jt_n 72 (jt_n 61 (jt_n 55 (jt_n 52 (jt_n 51 (jt_l 49 (.inl (jo_il 51 8))) (jt_l 51 (.inl (jo_b 52 (fun x y => x + y))))) (jt_n 54 (jt_l 52 (.inl (jo_is 54 11 9))) (jt_l 54 (.inl (jo_al 55 1))))) (jt_n 58 (jt_n 57 (jt_l 55 (.inl (jo_il 57 9))) (jt_l 57 (.inl (jo_ia 58)))) (jt_n 60 (jt_l 58 (.inl (jo_il 60 5))) (jt_l 60 (.inl (jo_b 61 (fun x y => x * y))))))) (jt_n 65 (jt_n 63 (jt_n 62 (jt_l 61 (.inl (jo_al 62 1))) (jt_l 62 (.inl (jo_c 63 (nI 5))))) (jt_n 64 (jt_l 63 (.inl (jo_il 64 2))) (jt_l 64 (.inl (jo_b 65 (fun x y => x * y)))))) (jt_n 68 (jt_n 67 (jt_l 65 (.inl (jo_il 67 8))) (jt_l 67 (.inl (jo_b 68 (fun x y => x + y))))) (jt_n 69 (jt_l 68 (.inl (jo_ia 69))) (jt_n 71 (jt_l 69 (.inl (jo_il 71 7))) (jt_l 71 (.inl (jo_b 72 (fun x y => x * y))))))))) (jt_n 88 (jt_n 78 (jt_n 75 (jt_n 73 (jt_l 72 (.inl (jo_b 73 (fun x y => x - y)))) (jt_l 73 (.inl (jo_is 75 11 10)))) (jt_n 76 (jt_l 75 (.inl (jo_al 76 1))) (jt_l 76 (.inl (jo_il 78 9))))) (jt_n 83 (jt_n 80 (jt_l 78 (.inl (jo_il 80 4))) (jt_l 80 (.inl (jo_if 83 88 (fun x => decide (x = 0)))))) (jt_n 85 (jt_l 83 (.inl (jo_il 85 10))) (jt_l 85 (.inl (jo_go 92)))))) (jt_n 93 (jt_n 91 (jt_n 90 (jt_l 88 (.inl (jo_il 90 10))) (jt_l 90 (.inl (jo_c 91 (nI 1))))) (jt_n 92 (jt_l 91 (.inl (jo_b 92 (fun x y => x &&& y)))) (jt_l 92 (.inl (jo_iw 93))))) (jt_n 99 (jt_n 96 (jt_l 93 (.inl (jo_inc 96 11 8 (nI 1)))) (jt_l 96 (.inl (jo_go 36)))) (jt_n 102 (jt_l 99 (.inl (jo_inc 102 11 6 (nI 1)))) (jt_n 105 (jt_l 102 (.inl (jo_go 14))) (jt_l 105 (.inr (.inr 0))))))))))
/-- TalkBench.<init>()V -/
def jc_85 : Nat → Option jxI := (jt_n 99 (jt_n 50 (jt_n 24 (jt_n 12 (jt_n 5 (jt_n 1 (jt_l 0 (.inl (jo_al 1 0))) (jt_n 4 (jt_l 1 (.inl (jo_oi 4))) (jt_l 4 (.inl (jo_al 5 0))))) (jt_n 8 (jt_l 5 (.inl (jo_nw 8 10 [.int 0, .int 0, .null, .null]))) (jt_n 9 (jt_l 8 (.inl (jo_d 9))) (jt_l 9 (.inr (.inl (67, 1, 12, some 10))))))) (jt_n 17 (jt_n 15 (jt_l 12 (.inl (jo_pf 15 11 0 2))) (jt_n 16 (jt_l 15 (.inl (jo_al 16 0))) (jt_l 16 (.inl (jo_c 17 (nI 4)))))) (jt_n 20 (jt_l 17 (.inl (jo_nr 20 2))) (jt_n 23 (jt_l 20 (.inl (jo_pf 23 11 1 2))) (jt_l 23 (.inl (jo_al 24 0))))))) (jt_n 36 (jt_n 31 (jt_n 25 (jt_l 24 (.inl (jo_c 25 (nI 4)))) (jt_n 28 (jt_l 25 (.inl (jo_nr 28 3))) (jt_l 28 (.inl (jo_pf 31 11 2 2))))) (jt_n 32 (jt_l 31 (.inl (jo_al 32 0))) (jt_n 35 (jt_l 32 (.inl (jo_nw 35 1 [.null, .int 0, .int 0]))) (jt_l 35 (.inl (jo_d 36)))))) (jt_n 43 (jt_n 39 (jt_l 36 (.inr (.inl (11, 1, 39, some 1)))) (jt_n 42 (jt_l 39 (.inl (jo_pf 42 11 3 2))) (jt_l 42 (.inl (jo_al 43 0))))) (jt_n 46 (jt_l 43 (.inl (jo_nw 46 4 [.int 0, .int 0, .null, .null]))) (jt_n 47 (jt_l 46 (.inl (jo_d 47))) (jt_l 47 (.inr (.inl (27, 1, 50, some 4))))))))) (jt_n 72 (jt_n 64 (jt_n 57 (jt_n 53 (jt_l 50 (.inl (jo_pf 53 11 4 2))) (jt_n 54 (jt_l 53 (.inl (jo_al 54 0))) (jt_l 54 (.inl (jo_nw 57 3 [.null, .null]))))) (jt_n 58 (jt_l 57 (.inl (jo_d 58))) (jt_n 61 (jt_l 58 (.inr (.inl (21, 1, 61, some 3)))) (jt_l 61 (.inl (jo_pf 64 11 10 2)))))) (jt_n 67 (jt_n 65 (jt_l 64 (.inl (jo_c 65 (nI 0)))) (jt_n 66 (jt_l 65 (.inl (jo_is 66 2 1))) (jt_l 66 (.inl (jo_il 67 1))))) (jt_n 68 (jt_l 67 (.inl (jo_c 68 (nI 4)))) (jt_n 71 (jt_l 68 (.inl (jo_ic 71 90 (fun x y => decide (y ≤ x))))) (jt_l 71 (.inl (jo_al 72 0))))))) (jt_n 84 (jt_n 79 (jt_n 75 (jt_l 72 (.inl (jo_gf 75 11 2))) (jt_n 76 (jt_l 75 (.inl (jo_il 76 1))) (jt_l 76 (.inl (jo_nw 79 8 [.int 0, .int 0, .null]))))) (jt_n 80 (jt_l 79 (.inl (jo_d 80))) (jt_n 83 (jt_l 80 (.inr (.inl (55, 1, 83, some 8)))) (jt_l 83 (.inl (jo_rw 84 3 8)))))) (jt_n 93 (jt_n 87 (jt_l 84 (.inl (jo_inc 87 2 1 (nI 1)))) (jt_n 90 (jt_l 87 (.inl (jo_go 66))) (jt_l 90 (.inl (jo_nw 93 5 [.null, .null]))))) (jt_n 97 (jt_n 94 (jt_l 93 (.inl (jo_d 94))) (jt_l 94 (.inr (.inl (34, 1, 97, some 5))))) (jt_n 98 (jt_l 97 (.inl (jo_as 98 2 1))) (jt_l 98 (.inl (jo_al 99 0))))))))) (jt_n 150 (jt_n 123 (jt_n 111 (jt_n 104 (jt_n 102 (jt_l 99 (.inl (jo_nw 102 0 [.null, .null, .null, .null, .null, .int 0]))) (jt_n 103 (jt_l 102 (.inl (jo_d 103))) (jt_l 103 (.inl (jo_al 104 0))))) (jt_n 107 (jt_l 104 (.inl (jo_gf 107 11 4))) (jt_n 108 (jt_l 107 (.inl (jo_al 108 1))) (jt_l 108 (.inr (.inl (0, 3, 111, some 0))))))) (jt_n 118 (jt_n 114 (jt_l 111 (.inl (jo_pf 114 11 5 2))) (jt_n 115 (jt_l 114 (.inl (jo_al 115 0))) (jt_l 115 (.inl (jo_nw 118 6 [.null, .null, .null, .null, .null, .null, .null, .int 0]))))) (jt_n 119 (jt_l 118 (.inl (jo_d 119))) (jt_n 120 (jt_l 119 (.inl (jo_al 120 0))) (jt_l 120 (.inl (jo_gf 123 11 0))))))) (jt_n 135 (jt_n 128 (jt_n 124 (jt_l 123 (.inl (jo_al 124 0))) (jt_n 127 (jt_l 124 (.inl (jo_gf 127 11 4))) (jt_l 127 (.inl (jo_al 128 1))))) (jt_n 131 (jt_l 128 (.inr (.inl (35, 4, 131, some 6)))) (jt_n 134 (jt_l 131 (.inl (jo_pf 134 11 6 2))) (jt_l 134 (.inl (jo_al 135 0)))))) (jt_n 140 (jt_n 138 (jt_l 135 (.inl (jo_nw 138 9 [.null, .null, .null, .null, .null, .null, .null, .null, .int 0]))) (jt_n 139 (jt_l 138 (.inl (jo_d 139))) (jt_l 139 (.inl (jo_al 140 0))))) (jt_n 144 (jt_n 143 (jt_l 140 (.inl (jo_gf 143 11 4))) (jt_l 143 (.inl (jo_al 144 0)))) (jt_n 147 (jt_l 144 (.inl (jo_gf 147 11 5))) (jt_l 147 (.inr (.inl (61, 3, 150, some 9))))))))) (jt_n 176 (jt_n 162 (jt_n 157 (jt_n 153 (jt_l 150 (.inl (jo_pf 153 11 7 2))) (jt_n 154 (jt_l 153 (.inl (jo_al 154 0))) (jt_l 154 (.inl (jo_nw 157 2 [.null, .null, .null, .int 0, .int 0, .int 0]))))) (jt_n 158 (jt_l 157 (.inl (jo_d 158))) (jt_n 159 (jt_l 158 (.inl (jo_al 159 0))) (jt_l 159 (.inl (jo_gf 162 11 0)))))) (jt_n 169 (jt_n 163 (jt_l 162 (.inl (jo_al 163 0))) (jt_n 166 (jt_l 163 (.inl (jo_gf 166 11 4))) (jt_l 166 (.inr (.inl (14, 3, 169, some 2)))))) (jt_n 172 (jt_l 169 (.inl (jo_pf 172 11 8 2))) (jt_n 173 (jt_l 172 (.inl (jo_al 173 0))) (jt_l 173 (.inl (jo_nw 176 7 [.null, .null, .null, .null, .int 0, .int 0, .int 0, .int 0]))))))) (jt_n 188 (jt_n 181 (jt_n 177 (jt_l 176 (.inl (jo_d 177))) (jt_n 178 (jt_l 177 (.inl (jo_al 178 0))) (jt_l 178 (.inl (jo_gf 181 11 0))))) (jt_n 182 (jt_l 181 (.inl (jo_al 182 0))) (jt_n 185 (jt_l 182 (.inl (jo_gf 185 11 4))) (jt_l 185 (.inr (.inl (44, 3, 188, some 7))))))) (jt_n 195 (jt_n 191 (jt_l 188 (.inl (jo_pf 191 11 9 2))) (jt_n 192 (jt_l 191 (.inl (jo_al 192 0))) (jt_l 192 (.inl (jo_gf 195 11 4))))) (jt_n 199 (jt_n 196 (jt_l 195 (.inl (jo_al 196 0))) (jt_l 196 (.inl (jo_gf 199 11 0)))) (jt_n 202 (jt_l 199 (.inr (.inl (28, 2, 202, some 4)))) (jt_l 202 (.inr (.inr 0))))))))))
/-- TalkBench.table(II)I -/
def jc_86 : Nat → Option jxI := (jt_n 27 (jt_n 12 (jt_n 6 (jt_n 2 (jt_n 1 (jt_l 0 (.inl (jo_il 1 1))) (jt_l 1 (.inl (jo_c 2 (nI 1))))) (jt_n 5 (jt_l 2 (.inl (jo_ic 5 20 (fun x y => decide (x < y))))) (jt_l 5 (.inl (jo_il 6 1))))) (jt_n 10 (jt_n 7 (jt_l 6 (.inl (jo_c 7 (nI 5)))) (jt_l 7 (.inl (jo_ic 10 20 (fun x y => decide (y < x)))))) (jt_n 11 (jt_l 10 (.inl (jo_il 11 2))) (jt_l 11 (.inl (jo_c 12 (nI 1))))))) (jt_n 20 (jt_n 16 (jt_n 15 (jt_l 12 (.inl (jo_ic 15 20 (fun x y => decide (x < y))))) (jt_l 15 (.inl (jo_il 16 2)))) (jt_n 17 (jt_l 16 (.inl (jo_c 17 (nI 5)))) (jt_l 17 (.inl (jo_ic 20 26 (fun x y => decide (x ≤ y))))))) (jt_n 22 (jt_n 21 (jt_l 20 (.inl (jo_al 21 0))) (jt_l 21 (.inl (jo_c 22 (-1))))) (jt_n 25 (jt_l 22 (.inr (.inl (120, 2, 25, some 11)))) (jt_n 26 (jt_l 25 (.inr (.inr 1))) (jt_l 26 (.inl (jo_al 27 0)))))))) (jt_n 45 (jt_n 35 (jt_n 33 (jt_n 30 (jt_l 27 (.inl (jo_gf 30 11 0))) (jt_l 30 (.inr (.inl (68, 1, 33, some 10))))) (jt_n 34 (jt_l 33 (.inl (jo_is 34 4 3))) (jt_l 34 (.inl (jo_al 35 0))))) (jt_n 39 (jt_n 38 (jt_l 35 (.inl (jo_gf 38 11 3))) (jt_l 38 (.inl (jo_al 39 0)))) (jt_n 42 (jt_l 39 (.inl (jo_gf 42 11 0))) (jt_l 42 (.inr (.inl (12, 2, 45, some 1))))))) (jt_n 51 (jt_n 49 (jt_n 46 (jt_l 45 (.inl (jo_al 46 0))) (jt_l 46 (.inl (jo_gf 49 11 0)))) (jt_n 50 (jt_l 49 (.inl (jo_il 50 1))) (jt_l 50 (.inl (jo_il 51 2))))) (jt_n 55 (jt_n 54 (jt_l 51 (.inr (.inl (70, 3, 54, some 10)))) (jt_l 54 (.inl (jo_al 55 0)))) (jt_n 58 (jt_l 55 (.inr (.inl (121, 1, 58, some 11)))) (jt_n 59 (jt_l 58 (.inl (jo_il 59 3))) (jt_l 59 (.inr (.inr 1)))))))))
/-- TalkBench.put(III)I -/
def jc_87 : Nat → Option jxI := (jt_n 39 (jt_n 18 (jt_n 9 (jt_n 4 (jt_n 1 (jt_l 0 (.inl (jo_al 1 0))) (jt_l 1 (.inl (jo_gf 4 11 0)))) (jt_n 5 (jt_l 4 (.inl (jo_il 5 1))) (jt_n 6 (jt_l 5 (.inl (jo_il 6 2))) (jt_l 6 (.inr (.inl (69, 3, 9, some 10))))))) (jt_n 13 (jt_n 12 (jt_l 9 (.inl (jo_if 12 21 (fun x => decide (x = 0))))) (jt_l 12 (.inl (jo_il 13 3)))) (jt_n 16 (jt_l 13 (.inl (jo_if 16 21 (fun x => decide (x < 0))))) (jt_n 17 (jt_l 16 (.inl (jo_il 17 3))) (jt_l 17 (.inl (jo_c 18 (nI 2)))))))) (jt_n 27 (jt_n 22 (jt_n 21 (jt_l 18 (.inl (jo_ic 21 27 (fun x y => decide (x ≤ y))))) (jt_l 21 (.inl (jo_al 22 0)))) (jt_n 23 (jt_l 22 (.inl (jo_c 23 (-1)))) (jt_n 26 (jt_l 23 (.inr (.inl (120, 2, 26, some 11)))) (jt_l 26 (.inr (.inr 1)))))) (jt_n 32 (jt_n 28 (jt_l 27 (.inl (jo_al 28 0))) (jt_n 31 (jt_l 28 (.inl (jo_gf 31 11 3))) (jt_l 31 (.inl (jo_al 32 0))))) (jt_n 35 (jt_l 32 (.inl (jo_gf 35 11 0))) (jt_n 38 (jt_l 35 (.inr (.inl (12, 2, 38, some 1)))) (jt_l 38 (.inl (jo_c 39 (nI 5))))))))) (jt_n 55 (jt_n 45 (jt_n 41 (jt_n 40 (jt_l 39 (.inl (jo_il 40 1))) (jt_l 40 (.inl (jo_b 41 (fun x y => x * y))))) (jt_n 42 (jt_l 41 (.inl (jo_il 42 2))) (jt_n 43 (jt_l 42 (.inl (jo_b 43 (fun x y => x + y)))) (jt_l 43 (.inl (jo_is 45 6 4)))))) (jt_n 49 (jt_n 46 (jt_l 45 (.inl (jo_al 46 0))) (jt_l 46 (.inl (jo_gf 49 11 0)))) (jt_n 52 (jt_l 49 (.inl (jo_gf 52 10 2))) (jt_n 54 (jt_l 52 (.inl (jo_il 54 4))) (jt_l 54 (.inl (jo_ia 55))))))) (jt_n 66 (jt_n 58 (jt_n 57 (jt_l 55 (.inl (jo_is 57 6 5))) (jt_l 57 (.inl (jo_al 58 0)))) (jt_n 61 (jt_l 58 (.inl (jo_gf 61 11 0))) (jt_n 64 (jt_l 61 (.inl (jo_gf 64 10 2))) (jt_l 64 (.inl (jo_il 66 4)))))) (jt_n 69 (jt_n 67 (jt_l 66 (.inl (jo_il 67 3))) (jt_n 68 (jt_l 67 (.inl (jo_iw 68))) (jt_l 68 (.inl (jo_al 69 0))))) (jt_n 72 (jt_l 69 (.inr (.inl (121, 1, 72, some 11)))) (jt_n 74 (jt_l 72 (.inl (jo_il 74 5))) (jt_l 74 (.inr (.inr 1)))))))))
/-- TalkBench.place(II)I -/
def jc_88 : Nat → Option jxI := (jt_n 18 (jt_n 9 (jt_n 4 (jt_n 1 (jt_l 0 (.inl (jo_al 1 0))) (jt_l 1 (.inl (jo_gf 4 11 0)))) (jt_n 5 (jt_l 4 (.inl (jo_il 5 1))) (jt_n 6 (jt_l 5 (.inl (jo_il 6 2))) (jt_l 6 (.inr (.inl (69, 3, 9, some 10))))))) (jt_n 13 (jt_n 12 (jt_l 9 (.inl (jo_if 12 18 (fun x => decide (¬ x = 0))))) (jt_l 12 (.inl (jo_al 13 0)))) (jt_n 14 (jt_l 13 (.inl (jo_c 14 (-1)))) (jt_n 17 (jt_l 14 (.inr (.inl (120, 2, 17, some 11)))) (jt_l 17 (.inr (.inr 1))))))) (jt_n 27 (jt_n 22 (jt_n 19 (jt_l 18 (.inl (jo_al 19 0))) (jt_l 19 (.inl (jo_gf 22 11 0)))) (jt_n 25 (jt_l 22 (.inl (jo_gf 25 10 2))) (jt_n 26 (jt_l 25 (.inl (jo_c 26 (nI 5)))) (jt_l 26 (.inl (jo_il 27 1)))))) (jt_n 29 (jt_n 28 (jt_l 27 (.inl (jo_b 28 (fun x y => x * y)))) (jt_l 28 (.inl (jo_il 29 2)))) (jt_n 30 (jt_l 29 (.inl (jo_b 30 (fun x y => x + y)))) (jt_n 31 (jt_l 30 (.inl (jo_ia 31))) (jt_l 31 (.inr (.inr 1))))))))
/-- TalkBench.weigh(III)I -/
def jc_89 : Nat → Option jxI := (jt_n 40 (jt_n 19 (jt_n 9 (jt_n 4 (jt_n 1 (jt_l 0 (.inl (jo_al 1 0))) (jt_l 1 (.inl (jo_gf 4 11 0)))) (jt_n 5 (jt_l 4 (.inl (jo_il 5 1))) (jt_n 6 (jt_l 5 (.inl (jo_il 6 2))) (jt_l 6 (.inr (.inl (69, 3, 9, some 10))))))) (jt_n 13 (jt_n 12 (jt_l 9 (.inl (jo_if 12 22 (fun x => decide (x = 0))))) (jt_l 12 (.inl (jo_il 13 3)))) (jt_n 16 (jt_l 13 (.inl (jo_if 16 22 (fun x => decide (x < 0))))) (jt_n 17 (jt_l 16 (.inl (jo_il 17 3))) (jt_l 17 (.inl (jo_c 19 (nI 9)))))))) (jt_n 28 (jt_n 23 (jt_n 22 (jt_l 19 (.inl (jo_ic 22 28 (fun x y => decide (x ≤ y))))) (jt_l 22 (.inl (jo_al 23 0)))) (jt_n 24 (jt_l 23 (.inl (jo_c 24 (-1)))) (jt_n 27 (jt_l 24 (.inr (.inl (120, 2, 27, some 11)))) (jt_l 27 (.inr (.inr 1)))))) (jt_n 33 (jt_n 29 (jt_l 28 (.inl (jo_al 29 0))) (jt_n 32 (jt_l 29 (.inl (jo_gf 32 11 3))) (jt_l 32 (.inl (jo_al 33 0))))) (jt_n 36 (jt_l 33 (.inl (jo_gf 36 11 0))) (jt_n 39 (jt_l 36 (.inr (.inl (12, 2, 39, some 1)))) (jt_l 39 (.inl (jo_c 40 (nI 5))))))))) (jt_n 58 (jt_n 46 (jt_n 42 (jt_n 41 (jt_l 40 (.inl (jo_il 41 1))) (jt_l 41 (.inl (jo_b 42 (fun x y => x * y))))) (jt_n 43 (jt_l 42 (.inl (jo_il 43 2))) (jt_n 44 (jt_l 43 (.inl (jo_b 44 (fun x y => x + y)))) (jt_l 44 (.inl (jo_is 46 6 4)))))) (jt_n 53 (jt_n 47 (jt_l 46 (.inl (jo_al 47 0))) (jt_n 50 (jt_l 47 (.inl (jo_gf 50 11 0))) (jt_l 50 (.inl (jo_gf 53 10 3))))) (jt_n 55 (jt_l 53 (.inl (jo_il 55 4))) (jt_n 56 (jt_l 55 (.inl (jo_ia 56))) (jt_l 56 (.inl (jo_is 58 6 5))))))) (jt_n 68 (jt_n 62 (jt_n 59 (jt_l 58 (.inl (jo_al 59 0))) (jt_l 59 (.inl (jo_gf 62 11 0)))) (jt_n 65 (jt_l 62 (.inl (jo_gf 65 10 3))) (jt_n 67 (jt_l 65 (.inl (jo_il 67 4))) (jt_l 67 (.inl (jo_il 68 3)))))) (jt_n 73 (jt_n 69 (jt_l 68 (.inl (jo_iw 69))) (jt_n 70 (jt_l 69 (.inl (jo_al 70 0))) (jt_l 70 (.inl (jo_gf 73 11 6))))) (jt_n 76 (jt_l 73 (.inr (.inl (36, 1, 76, some 6)))) (jt_n 78 (jt_l 76 (.inl (jo_il 78 5))) (jt_l 78 (.inr (.inr 1)))))))))
/-- TalkBench.rule(I)I -/
def jc_90 : Nat → Option jxI := (jt_n 20 (jt_n 10 (jt_n 5 (jt_n 1 (jt_l 0 (.inl (jo_il 1 1))) (jt_n 4 (jt_l 1 (.inl (jo_if 4 9 (fun x => decide (x < 0))))) (jt_l 4 (.inl (jo_il 5 1))))) (jt_n 6 (jt_l 5 (.inl (jo_c 6 (nI 4)))) (jt_n 9 (jt_l 6 (.inl (jo_ic 9 15 (fun x y => decide (x ≤ y))))) (jt_l 9 (.inl (jo_al 10 0)))))) (jt_n 15 (jt_n 11 (jt_l 10 (.inl (jo_c 11 (-1)))) (jt_n 14 (jt_l 11 (.inr (.inl (120, 2, 14, some 11)))) (jt_l 14 (.inr (.inr 1))))) (jt_n 16 (jt_l 15 (.inl (jo_al 16 0))) (jt_n 19 (jt_l 16 (.inl (jo_gf 19 11 3))) (jt_l 19 (.inl (jo_al 20 0))))))) (jt_n 34 (jt_n 27 (jt_n 23 (jt_l 20 (.inl (jo_gf 23 11 0))) (jt_n 26 (jt_l 23 (.inr (.inl (12, 2, 26, some 1)))) (jt_l 26 (.inl (jo_al 27 0))))) (jt_n 30 (jt_l 27 (.inl (jo_gf 30 11 0))) (jt_n 31 (jt_l 30 (.inl (jo_il 31 1))) (jt_l 31 (.inr (.inl (74, 2, 34, some 10))))))) (jt_n 39 (jt_n 35 (jt_l 34 (.inl (jo_al 35 0))) (jt_n 38 (jt_l 35 (.inr (.inl (121, 1, 38, some 11)))) (jt_l 38 (.inl (jo_al 39 0))))) (jt_n 43 (jt_n 42 (jt_l 39 (.inl (jo_gf 42 11 0))) (jt_l 42 (.inl (jo_c 43 (nI 1))))) (jt_n 46 (jt_l 43 (.inr (.inl (72, 2, 46, some 10)))) (jt_l 46 (.inr (.inr 1))))))))
/-- TalkBench.turn()I -/
def jc_91 : Nat → Option jxI := (jt_n 15 (jt_n 5 (jt_n 1 (jt_l 0 (.inl (jo_al 1 0))) (jt_n 4 (jt_l 1 (.inl (jo_gf 4 11 3))) (jt_l 4 (.inl (jo_al 5 0))))) (jt_n 11 (jt_n 8 (jt_l 5 (.inl (jo_gf 8 11 0))) (jt_l 8 (.inr (.inl (12, 2, 11, some 1))))) (jt_n 12 (jt_l 11 (.inl (jo_al 12 0))) (jt_l 12 (.inl (jo_gf 15 11 0)))))) (jt_n 22 (jt_n 18 (jt_l 15 (.inr (.inl (77, 1, 18, some 10)))) (jt_n 19 (jt_l 18 (.inl (jo_al 19 0))) (jt_l 19 (.inr (.inl (121, 1, 22, some 11)))))) (jt_n 26 (jt_n 23 (jt_l 22 (.inl (jo_al 23 0))) (jt_l 23 (.inl (jo_gf 26 11 0)))) (jt_n 29 (jt_l 26 (.inl (jo_gf 29 10 0))) (jt_l 29 (.inr (.inr 1)))))))
/-- TalkBench.turnAnswers()I -/
def jc_92 : Nat → Option jxI := (jt_n 15 (jt_n 5 (jt_n 1 (jt_l 0 (.inl (jo_al 1 0))) (jt_n 4 (jt_l 1 (.inl (jo_gf 4 11 3))) (jt_l 4 (.inl (jo_al 5 0))))) (jt_n 11 (jt_n 8 (jt_l 5 (.inl (jo_gf 8 11 0))) (jt_l 8 (.inr (.inl (12, 2, 11, some 1))))) (jt_n 12 (jt_l 11 (.inl (jo_al 12 0))) (jt_l 12 (.inl (jo_gf 15 11 0)))))) (jt_n 23 (jt_n 19 (jt_n 18 (jt_l 15 (.inr (.inl (79, 1, 18, some 10)))) (jt_l 18 (.inl (jo_al 19 0)))) (jt_n 22 (jt_l 19 (.inr (.inl (121, 1, 22, some 11)))) (jt_l 22 (.inl (jo_al 23 0))))) (jt_n 27 (jt_n 26 (jt_l 23 (.inl (jo_gf 26 11 0))) (jt_l 26 (.inl (jo_c 27 (nI 1))))) (jt_n 30 (jt_l 27 (.inr (.inl (72, 2, 30, some 10)))) (jt_l 30 (.inr (.inr 1)))))))
/-- TalkBench.unlike(Z)I -/
def jc_93 : Nat → Option jxI := (jt_n 4 (jt_n 1 (jt_l 0 (.inl (jo_al 1 0))) (jt_l 1 (.inl (jo_gf 4 11 0)))) (jt_n 5 (jt_l 4 (.inl (jo_il 5 1))) (jt_n 8 (jt_l 5 (.inr (.inl (80, 2, 8, some 10)))) (jt_l 8 (.inr (.inr 1))))))
/-- TalkBench.sheet(III)I -/
def jc_94 : Nat → Option jxI := (jt_n 45 (jt_n 23 (jt_n 11 (jt_n 4 (jt_n 1 (jt_l 0 (.inl (jo_il 1 1))) (jt_l 1 (.inr (.inl (122, 1, 4, none))))) (jt_n 7 (jt_l 4 (.inl (jo_if 7 29 (fun x => decide (¬ x = 0))))) (jt_n 8 (jt_l 7 (.inl (jo_il 8 2))) (jt_l 8 (.inl (jo_if 11 35 (fun x => decide (x = 0)))))))) (jt_n 17 (jt_n 12 (jt_l 11 (.inl (jo_il 12 2))) (jt_n 14 (jt_l 12 (.inl (jo_c 14 (nI 8)))) (jt_l 14 (.inl (jo_ic 17 35 (fun x y => decide (x = y))))))) (jt_n 18 (jt_l 17 (.inl (jo_il 18 2))) (jt_n 20 (jt_l 18 (.inl (jo_c 20 (nI 16)))) (jt_l 20 (.inl (jo_ic 23 35 (fun x y => decide (x = y))))))))) (jt_n 34 (jt_n 29 (jt_n 24 (jt_l 23 (.inl (jo_il 24 2))) (jt_n 26 (jt_l 24 (.inl (jo_c 26 (nI 32)))) (jt_l 26 (.inl (jo_ic 29 35 (fun x y => decide (x = y))))))) (jt_n 30 (jt_l 29 (.inl (jo_al 30 0))) (jt_n 31 (jt_l 30 (.inl (jo_c 31 (-1)))) (jt_l 31 (.inr (.inl (120, 2, 34, some 11))))))) (jt_n 39 (jt_n 35 (jt_l 34 (.inr (.inr 1))) (jt_n 36 (jt_l 35 (.inl (jo_il 36 3))) (jt_l 36 (.inl (jo_if 39 46 (fun x => decide (0 ≤ x))))))) (jt_n 40 (jt_l 39 (.inl (jo_al 40 0))) (jt_n 42 (jt_l 40 (.inl (jo_c 42 (-3)))) (jt_l 42 (.inr (.inl (120, 2, 45, some 11))))))))) (jt_n 63 (jt_n 53 (jt_n 47 (jt_n 46 (jt_l 45 (.inr (.inr 1))) (jt_l 46 (.inl (jo_il 47 3)))) (jt_n 49 (jt_l 47 (.inl (jo_c 49 (nI 30)))) (jt_n 52 (jt_l 49 (.inl (jo_ic 52 58 (fun x y => decide (x ≤ y))))) (jt_l 52 (.inl (jo_al 53 0)))))) (jt_n 58 (jt_n 54 (jt_l 53 (.inl (jo_c 54 (-1)))) (jt_n 57 (jt_l 54 (.inr (.inl (120, 2, 57, some 11)))) (jt_l 57 (.inr (.inr 1))))) (jt_n 59 (jt_l 58 (.inl (jo_il 59 2))) (jt_n 62 (jt_l 59 (.inl (jo_if 62 66 (fun x => decide (¬ x = 0))))) (jt_l 62 (.inl (jo_c 63 (nI 0)))))))) (jt_n 74 (jt_n 69 (jt_n 66 (jt_l 63 (.inl (jo_go 67))) (jt_n 67 (jt_l 66 (.inl (jo_il 67 3))) (jt_l 67 (.inl (jo_is 69 5 4))))) (jt_n 70 (jt_l 69 (.inl (jo_al 70 0))) (jt_n 73 (jt_l 70 (.inl (jo_gf 73 11 2))) (jt_l 73 (.inl (jo_il 74 1)))))) (jt_n 78 (jt_n 75 (jt_l 74 (.inl (jo_ra 75 3))) (jt_n 76 (jt_l 75 (.inl (jo_il 76 2))) (jt_l 76 (.inl (jo_il 78 4))))) (jt_n 81 (jt_l 78 (.inr (.inl (57, 3, 81, some 8)))) (jt_n 83 (jt_l 81 (.inl (jo_il 83 4))) (jt_l 83 (.inr (.inr 1)))))))))
/-- TalkBench.write(III)I -/
def jc_95 : Nat → Option jxI := (jt_n 36 (jt_n 17 (jt_n 8 (jt_n 4 (jt_n 1 (jt_l 0 (.inl (jo_il 1 1))) (jt_l 1 (.inr (.inl (122, 1, 4, none))))) (jt_n 7 (jt_l 4 (.inl (jo_if 7 13 (fun x => decide (x = 0))))) (jt_l 7 (.inl (jo_al 8 0))))) (jt_n 12 (jt_n 9 (jt_l 8 (.inl (jo_c 9 (-1)))) (jt_l 9 (.inr (.inl (120, 2, 12, some 11))))) (jt_n 13 (jt_l 12 (.inr (.inr 1))) (jt_n 14 (jt_l 13 (.inl (jo_al 14 0))) (jt_l 14 (.inl (jo_gf 17 11 2))))))) (jt_n 26 (jt_n 19 (jt_n 18 (jt_l 17 (.inl (jo_il 18 1))) (jt_l 18 (.inl (jo_ra 19 3)))) (jt_n 22 (jt_l 19 (.inr (.inl (56, 1, 22, some 8)))) (jt_n 25 (jt_l 22 (.inl (jo_if 25 32 (fun x => decide (x = 0))))) (jt_l 25 (.inl (jo_al 26 0)))))) (jt_n 31 (jt_n 28 (jt_l 26 (.inl (jo_c 28 (-2)))) (jt_l 28 (.inr (.inl (120, 2, 31, some 11))))) (jt_n 32 (jt_l 31 (.inr (.inr 1))) (jt_n 33 (jt_l 32 (.inl (jo_il 33 2))) (jt_l 33 (.inl (jo_if 36 49 (fun x => decide (x < 0)))))))))) (jt_n 54 (jt_n 43 (jt_n 38 (jt_n 37 (jt_l 36 (.inl (jo_il 37 2))) (jt_l 37 (.inl (jo_al 38 0)))) (jt_n 41 (jt_l 38 (.inl (jo_gf 41 11 2))) (jt_n 42 (jt_l 41 (.inl (jo_il 42 1))) (jt_l 42 (.inl (jo_ra 43 3)))))) (jt_n 49 (jt_n 46 (jt_l 43 (.inl (jo_gf 46 8 1))) (jt_l 46 (.inl (jo_ic 49 55 (fun x y => decide (x < y)))))) (jt_n 50 (jt_l 49 (.inl (jo_al 50 0))) (jt_n 51 (jt_l 50 (.inl (jo_c 51 (-1)))) (jt_l 51 (.inr (.inl (120, 2, 54, some 11)))))))) (jt_n 61 (jt_n 56 (jt_n 55 (jt_l 54 (.inr (.inr 1))) (jt_l 55 (.inl (jo_al 56 0)))) (jt_n 59 (jt_l 56 (.inl (jo_gf 59 11 2))) (jt_n 60 (jt_l 59 (.inl (jo_il 60 1))) (jt_l 60 (.inl (jo_ra 61 3)))))) (jt_n 63 (jt_n 62 (jt_l 61 (.inl (jo_il 62 2))) (jt_l 62 (.inl (jo_il 63 3)))) (jt_n 66 (jt_l 63 (.inr (.inl (58, 3, 66, some 8)))) (jt_n 67 (jt_l 66 (.inl (jo_c 67 (nI 0)))) (jt_l 67 (.inr (.inr 1)))))))))
/-- TalkBench.copy(IIIII)I -/
def jc_96 : Nat → Option jxI := (jt_n 61 (jt_n 28 (jt_n 15 (jt_n 7 (jt_n 1 (jt_l 0 (.inl (jo_il 1 1))) (jt_n 4 (jt_l 1 (.inr (.inl (122, 1, 4, none)))) (jt_l 4 (.inl (jo_if 7 14 (fun x => decide (¬ x = 0))))))) (jt_n 11 (jt_n 8 (jt_l 7 (.inl (jo_il 8 3))) (jt_l 8 (.inr (.inl (122, 1, 11, none))))) (jt_n 14 (jt_l 11 (.inl (jo_if 14 20 (fun x => decide (x = 0))))) (jt_l 14 (.inl (jo_al 15 0)))))) (jt_n 21 (jt_n 19 (jt_n 16 (jt_l 15 (.inl (jo_c 16 (-1)))) (jt_l 16 (.inr (.inl (120, 2, 19, some 11))))) (jt_n 20 (jt_l 19 (.inr (.inr 1))) (jt_l 20 (.inl (jo_al 21 0))))) (jt_n 25 (jt_n 24 (jt_l 21 (.inl (jo_gf 24 11 2))) (jt_l 24 (.inl (jo_il 25 1)))) (jt_n 26 (jt_l 25 (.inl (jo_ra 26 3))) (jt_l 26 (.inl (jo_as 28 8 6))))))) (jt_n 44 (jt_n 34 (jt_n 32 (jt_n 29 (jt_l 28 (.inl (jo_al 29 0))) (jt_l 29 (.inl (jo_gf 32 11 2)))) (jt_n 33 (jt_l 32 (.inl (jo_il 33 3))) (jt_l 33 (.inl (jo_ra 34 3))))) (jt_n 38 (jt_n 36 (jt_l 34 (.inl (jo_as 36 8 7))) (jt_l 36 (.inl (jo_al 38 6)))) (jt_n 41 (jt_l 38 (.inr (.inl (56, 1, 41, some 8)))) (jt_l 41 (.inl (jo_if 44 52 (fun x => decide (¬ x = 0)))))))) (jt_n 53 (jt_n 49 (jt_n 46 (jt_l 44 (.inl (jo_al 46 7))) (jt_l 46 (.inr (.inl (56, 1, 49, some 8))))) (jt_n 52 (jt_l 49 (.inl (jo_if 52 59 (fun x => decide (x = 0))))) (jt_l 52 (.inl (jo_al 53 0))))) (jt_n 58 (jt_n 55 (jt_l 53 (.inl (jo_c 55 (-2)))) (jt_l 55 (.inr (.inl (120, 2, 58, some 11))))) (jt_n 59 (jt_l 58 (.inr (.inr 1))) (jt_l 59 (.inl (jo_al 61 6)))))))) (jt_n 96 (jt_n 79 (jt_n 72 (jt_n 66 (jt_n 64 (jt_l 61 (.inl (jo_gf 64 8 0))) (jt_l 64 (.inl (jo_al 66 7)))) (jt_n 69 (jt_l 66 (.inl (jo_gf 69 8 0))) (jt_l 69 (.inl (jo_ic 72 79 (fun x y => decide (x = y))))))) (jt_n 75 (jt_n 73 (jt_l 72 (.inl (jo_al 73 0))) (jt_l 73 (.inl (jo_c 75 (-4))))) (jt_n 78 (jt_l 75 (.inr (.inl (120, 2, 78, some 11)))) (jt_l 78 (.inr (.inr 1)))))) (jt_n 87 (jt_n 82 (jt_n 81 (jt_l 79 (.inl (jo_al 81 6))) (jt_l 81 (.inl (jo_il 82 2)))) (jt_n 84 (jt_l 82 (.inl (jo_il 84 5))) (jt_l 84 (.inr (.inl (59, 3, 87, some 8)))))) (jt_n 92 (jt_n 90 (jt_l 87 (.inl (jo_if 90 102 (fun x => decide (x = 0))))) (jt_l 90 (.inl (jo_al 92 7)))) (jt_n 94 (jt_l 92 (.inl (jo_il 94 4))) (jt_l 94 (.inl (jo_il 96 5))))))) (jt_n 113 (jt_n 104 (jt_n 102 (jt_n 99 (jt_l 96 (.inr (.inl (59, 3, 99, some 8)))) (jt_l 99 (.inl (jo_if 102 108 (fun x => decide (¬ x = 0)))))) (jt_n 103 (jt_l 102 (.inl (jo_al 103 0))) (jt_l 103 (.inl (jo_c 104 (-1)))))) (jt_n 108 (jt_n 107 (jt_l 104 (.inr (.inl (120, 2, 107, some 11)))) (jt_l 107 (.inr (.inr 1)))) (jt_n 110 (jt_l 108 (.inl (jo_al 110 6))) (jt_l 110 (.inl (jo_gf 113 8 2)))))) (jt_n 121 (jt_n 116 (jt_n 114 (jt_l 113 (.inl (jo_il 114 2))) (jt_l 114 (.inl (jo_al 116 7)))) (jt_n 119 (jt_l 116 (.inl (jo_gf 119 8 2))) (jt_l 119 (.inl (jo_il 121 4))))) (jt_n 126 (jt_n 123 (jt_l 121 (.inl (jo_il 123 5))) (jt_l 123 (.inl (jo_cp 126)))) (jt_n 128 (jt_l 126 (.inl (jo_il 128 5))) (jt_l 128 (.inr (.inr 1)))))))))
/-- TalkBench.lay(I)I -/
def jc_97 : Nat → Option jxI := (jt_n 48 (jt_n 20 (jt_n 12 (jt_n 7 (jt_n 1 (jt_l 0 (.inl (jo_il 1 1))) (jt_n 4 (jt_l 1 (.inr (.inl (122, 1, 4, none)))) (jt_l 4 (.inl (jo_if 7 13 (fun x => decide (x = 0))))))) (jt_n 8 (jt_l 7 (.inl (jo_al 8 0))) (jt_n 9 (jt_l 8 (.inl (jo_c 9 (-1)))) (jt_l 9 (.inr (.inl (120, 2, 12, some 11))))))) (jt_n 17 (jt_n 13 (jt_l 12 (.inr (.inr 1))) (jt_n 14 (jt_l 13 (.inl (jo_al 14 0))) (jt_l 14 (.inl (jo_gf 17 11 2))))) (jt_n 18 (jt_l 17 (.inl (jo_il 18 1))) (jt_n 19 (jt_l 18 (.inl (jo_ra 19 3))) (jt_l 19 (.inl (jo_as 20 3 2))))))) (jt_n 33 (jt_n 27 (jt_n 21 (jt_l 20 (.inl (jo_al 21 2))) (jt_n 24 (jt_l 21 (.inr (.inl (56, 1, 24, some 8)))) (jt_l 24 (.inl (jo_if 27 34 (fun x => decide (x = 0))))))) (jt_n 28 (jt_l 27 (.inl (jo_al 28 0))) (jt_n 30 (jt_l 28 (.inl (jo_c 30 (-2)))) (jt_l 30 (.inr (.inl (120, 2, 33, some 11))))))) (jt_n 38 (jt_n 34 (jt_l 33 (.inr (.inr 1))) (jt_n 35 (jt_l 34 (.inl (jo_al 35 2))) (jt_l 35 (.inl (jo_gf 38 8 1))))) (jt_n 42 (jt_n 39 (jt_l 38 (.inl (jo_al 39 0))) (jt_l 39 (.inl (jo_gf 42 11 0)))) (jt_n 45 (jt_l 42 (.inr (.inl (68, 1, 45, some 10)))) (jt_l 45 (.inl (jo_ic 48 55 (fun x y => decide (x ≤ y)))))))))) (jt_n 69 (jt_n 59 (jt_n 54 (jt_n 49 (jt_l 48 (.inl (jo_al 49 0))) (jt_n 51 (jt_l 49 (.inl (jo_c 51 (-3)))) (jt_l 51 (.inr (.inl (120, 2, 54, some 11)))))) (jt_n 55 (jt_l 54 (.inr (.inr 1))) (jt_n 56 (jt_l 55 (.inl (jo_al 56 2))) (jt_l 56 (.inr (.inl (60, 1, 59, some 8))))))) (jt_n 64 (jt_n 62 (jt_l 59 (.inl (jo_if 62 68 (fun x => decide (¬ x = 0))))) (jt_n 63 (jt_l 62 (.inl (jo_al 63 0))) (jt_l 63 (.inl (jo_c 64 (-1)))))) (jt_n 67 (jt_l 64 (.inr (.inl (120, 2, 67, some 11)))) (jt_n 68 (jt_l 67 (.inr (.inr 1))) (jt_l 68 (.inl (jo_al 69 0))))))) (jt_n 83 (jt_n 76 (jt_n 72 (jt_l 69 (.inl (jo_gf 72 11 3))) (jt_n 73 (jt_l 72 (.inl (jo_al 73 0))) (jt_l 73 (.inl (jo_gf 76 11 0))))) (jt_n 79 (jt_l 76 (.inr (.inl (12, 2, 79, some 1)))) (jt_n 80 (jt_l 79 (.inl (jo_al 80 0))) (jt_l 80 (.inl (jo_gf 83 11 0)))))) (jt_n 88 (jt_n 84 (jt_l 83 (.inl (jo_al 84 2))) (jt_n 87 (jt_l 84 (.inr (.inl (76, 2, 87, some 10)))) (jt_l 87 (.inl (jo_al 88 0))))) (jt_n 92 (jt_n 91 (jt_l 88 (.inr (.inl (121, 1, 91, some 11)))) (jt_l 91 (.inl (jo_al 92 2)))) (jt_n 95 (jt_l 92 (.inl (jo_gf 95 8 1))) (jt_l 95 (.inr (.inr 1)))))))))
/-- TalkBench.bits(II)I -/
def jc_98 : Nat → Option jxI := (jt_n 14 (jt_n 6 (jt_n 4 (jt_n 1 (jt_l 0 (.inl (jo_al 1 0))) (jt_l 1 (.inl (jo_gf 4 11 4)))) (jt_n 5 (jt_l 4 (.inl (jo_il 5 1))) (jt_l 5 (.inl (jo_il 6 2))))) (jt_n 12 (jt_n 9 (jt_l 6 (.inr (.inl (30, 3, 9, some 4)))) (jt_l 9 (.inl (jo_if 12 18 (fun x => decide (¬ x = 0)))))) (jt_n 13 (jt_l 12 (.inl (jo_al 13 0))) (jt_l 13 (.inl (jo_c 14 (-1))))))) (jt_n 22 (jt_n 18 (jt_n 17 (jt_l 14 (.inr (.inl (120, 2, 17, some 11)))) (jt_l 17 (.inr (.inr 1)))) (jt_n 19 (jt_l 18 (.inl (jo_al 19 0))) (jt_l 19 (.inl (jo_gf 22 11 5))))) (jt_n 24 (jt_n 23 (jt_l 22 (.inl (jo_il 23 1))) (jt_l 23 (.inl (jo_il 24 2)))) (jt_n 27 (jt_l 24 (.inr (.inl (2, 3, 27, some 0)))) (jt_l 27 (.inr (.inr 1)))))))
/-- TalkBench.ends(II)I -/
def jc_99 : Nat → Option jxI := (jt_n 14 (jt_n 6 (jt_n 4 (jt_n 1 (jt_l 0 (.inl (jo_al 1 0))) (jt_l 1 (.inl (jo_gf 4 11 4)))) (jt_n 5 (jt_l 4 (.inl (jo_il 5 1))) (jt_l 5 (.inl (jo_il 6 2))))) (jt_n 12 (jt_n 9 (jt_l 6 (.inr (.inl (30, 3, 9, some 4)))) (jt_l 9 (.inl (jo_if 12 18 (fun x => decide (¬ x = 0)))))) (jt_n 13 (jt_l 12 (.inl (jo_al 13 0))) (jt_l 13 (.inl (jo_c 14 (-1))))))) (jt_n 22 (jt_n 18 (jt_n 17 (jt_l 14 (.inr (.inl (120, 2, 17, some 11)))) (jt_l 17 (.inr (.inr 1)))) (jt_n 19 (jt_l 18 (.inl (jo_al 19 0))) (jt_l 19 (.inl (jo_gf 22 11 5))))) (jt_n 24 (jt_n 23 (jt_l 22 (.inl (jo_il 23 1))) (jt_l 23 (.inl (jo_il 24 2)))) (jt_n 27 (jt_l 24 (.inr (.inl (3, 3, 27, some 0)))) (jt_l 27 (.inr (.inr 1)))))))
/-- TalkBench.talk()I -/
def jc_100 : Nat → Option jxI := (jt_n 7 (jt_n 1 (jt_l 0 (.inl (jo_al 1 0))) (jt_n 4 (jt_l 1 (.inl (jo_gf 4 11 7))) (jt_l 4 (.inr (.inl (63, 1, 7, some 9)))))) (jt_n 11 (jt_n 8 (jt_l 7 (.inl (jo_al 8 0))) (jt_l 8 (.inl (jo_gf 11 11 7)))) (jt_n 14 (jt_l 11 (.inl (jo_gf 14 9 8))) (jt_l 14 (.inr (.inr 1))))))
/-- TalkBench.knot(II)I -/
def jc_101 : Nat → Option jxI := (jt_n 32 (jt_n 16 (jt_n 7 (jt_n 1 (jt_l 0 (.inl (jo_al 1 0))) (jt_n 4 (jt_l 1 (.inl (jo_gf 4 11 7))) (jt_l 4 (.inl (jo_gf 7 9 8))))) (jt_n 11 (jt_n 10 (jt_l 7 (.inl (jo_if 10 17 (fun x => decide (¬ x = 0))))) (jt_l 10 (.inl (jo_al 11 0)))) (jt_n 13 (jt_l 11 (.inl (jo_c 13 (-6)))) (jt_l 13 (.inr (.inl (120, 2, 16, some 11))))))) (jt_n 22 (jt_n 18 (jt_n 17 (jt_l 16 (.inr (.inr 1))) (jt_l 17 (.inl (jo_il 18 1)))) (jt_n 21 (jt_l 18 (.inl (jo_if 21 41 (fun x => decide (x < 0))))) (jt_l 21 (.inl (jo_il 22 1))))) (jt_n 26 (jt_n 23 (jt_l 22 (.inl (jo_al 23 0))) (jt_l 23 (.inl (jo_gf 26 11 7)))) (jt_n 29 (jt_l 26 (.inl (jo_gf 29 9 8))) (jt_l 29 (.inl (jo_ic 32 41 (fun x y => decide (y ≤ x))))))))) (jt_n 43 (jt_n 37 (jt_n 33 (jt_l 32 (.inl (jo_il 33 2))) (jt_n 36 (jt_l 33 (.inl (jo_if 36 41 (fun x => decide (x < 0))))) (jt_l 36 (.inl (jo_il 37 2))))) (jt_n 41 (jt_n 38 (jt_l 37 (.inl (jo_c 38 (nI 5)))) (jt_l 38 (.inl (jo_ic 41 47 (fun x y => decide (x ≤ y)))))) (jt_n 42 (jt_l 41 (.inl (jo_al 42 0))) (jt_l 42 (.inl (jo_c 43 (-1))))))) (jt_n 51 (jt_n 47 (jt_n 46 (jt_l 43 (.inr (.inl (120, 2, 46, some 11)))) (jt_l 46 (.inr (.inr 1)))) (jt_n 48 (jt_l 47 (.inl (jo_al 48 0))) (jt_l 48 (.inl (jo_gf 51 11 7))))) (jt_n 53 (jt_n 52 (jt_l 51 (.inl (jo_il 52 1))) (jt_l 52 (.inl (jo_il 53 2)))) (jt_n 56 (jt_l 53 (.inr (.inl (65, 3, 56, some 9)))) (jt_l 56 (.inr (.inr 1))))))))
/-- TalkBench.said(II)I -/
def jc_102 : Nat → Option jxI := (jt_n 23 (jt_n 13 (jt_n 7 (jt_n 1 (jt_l 0 (.inl (jo_al 1 0))) (jt_n 4 (jt_l 1 (.inl (jo_gf 4 11 7))) (jt_l 4 (.inl (jo_gf 7 9 8))))) (jt_n 10 (jt_l 7 (.inl (jo_if 10 17 (fun x => decide (¬ x = 0))))) (jt_n 11 (jt_l 10 (.inl (jo_al 11 0))) (jt_l 11 (.inl (jo_c 13 (-6))))))) (jt_n 18 (jt_n 16 (jt_l 13 (.inr (.inl (120, 2, 16, some 11)))) (jt_n 17 (jt_l 16 (.inr (.inr 1))) (jt_l 17 (.inl (jo_al 18 0))))) (jt_n 21 (jt_l 18 (.inl (jo_gf 21 11 0))) (jt_n 22 (jt_l 21 (.inl (jo_il 22 1))) (jt_l 22 (.inl (jo_il 23 2))))))) (jt_n 35 (jt_n 30 (jt_n 26 (jt_l 23 (.inr (.inl (69, 3, 26, some 10)))) (jt_n 29 (jt_l 26 (.inl (jo_if 29 35 (fun x => decide (¬ x = 0))))) (jt_l 29 (.inl (jo_al 30 0))))) (jt_n 31 (jt_l 30 (.inl (jo_c 31 (-1)))) (jt_n 34 (jt_l 31 (.inr (.inl (120, 2, 34, some 11)))) (jt_l 34 (.inr (.inr 1)))))) (jt_n 40 (jt_n 36 (jt_l 35 (.inl (jo_al 36 0))) (jt_n 39 (jt_l 36 (.inl (jo_gf 39 11 7))) (jt_l 39 (.inl (jo_il 40 1))))) (jt_n 41 (jt_l 40 (.inl (jo_il 41 2))) (jt_n 44 (jt_l 41 (.inr (.inl (66, 3, 44, some 9)))) (jt_l 44 (.inr (.inr 1))))))))
/-- TalkBench.classes(Z)I -/
def jc_103 : Nat → Option jxI := (jt_n 4 (jt_n 1 (jt_l 0 (.inl (jo_al 1 0))) (jt_l 1 (.inl (jo_gf 4 11 5)))) (jt_n 5 (jt_l 4 (.inl (jo_il 5 1))) (jt_n 8 (jt_l 5 (.inr (.inl (9, 2, 8, some 0)))) (jt_l 8 (.inr (.inr 1))))))
/-- TalkBench.once(Z)I -/
def jc_104 : Nat → Option jxI := (jt_n 13 (jt_n 8 (jt_n 4 (jt_n 1 (jt_l 0 (.inl (jo_al 1 0))) (jt_l 1 (.inl (jo_gf 4 11 5)))) (jt_n 5 (jt_l 4 (.inl (jo_il 5 1))) (jt_l 5 (.inr (.inl (9, 2, 8, some 0)))))) (jt_n 10 (jt_n 9 (jt_l 8 (.inl (jo_is 9 4 2))) (jt_l 9 (.inl (jo_c 10 (nI 0))))) (jt_n 11 (jt_l 10 (.inl (jo_is 11 4 3))) (jt_n 12 (jt_l 11 (.inl (jo_il 12 3))) (jt_l 12 (.inl (jo_c 13 (nI 5)))))))) (jt_n 20 (jt_n 17 (jt_n 16 (jt_l 13 (.inl (jo_ic 16 29 (fun x y => decide (y ≤ x))))) (jt_l 16 (.inl (jo_c 17 (nI 1))))) (jt_n 18 (jt_l 17 (.inl (jo_il 18 3))) (jt_n 19 (jt_l 18 (.inl (jo_b 19 (fun x y => x <<< (y &&& 31))))) (jt_l 19 (.inl (jo_il 20 2)))))) (jt_n 26 (jt_n 23 (jt_l 20 (.inl (jo_ic 23 29 (fun x y => decide (y ≤ x))))) (jt_l 23 (.inl (jo_inc 26 4 3 (nI 1))))) (jt_n 29 (jt_l 26 (.inl (jo_go 11))) (jt_n 30 (jt_l 29 (.inl (jo_il 30 3))) (jt_l 30 (.inr (.inr 1))))))))
/-- TalkBench.rank(Z)I -/
def jc_105 : Nat → Option jxI := (jt_n 14 (jt_n 5 (jt_n 1 (jt_l 0 (.inl (jo_al 1 0))) (jt_n 4 (jt_l 1 (.inl (jo_gf 4 11 0))) (jt_l 4 (.inl (jo_c 5 (nI 2)))))) (jt_n 11 (jt_n 8 (jt_l 5 (.inr (.inl (72, 2, 8, some 10)))) (jt_l 8 (.inl (jo_if 11 18 (fun x => decide (x ≤ 0)))))) (jt_n 12 (jt_l 11 (.inl (jo_al 12 0))) (jt_l 12 (.inl (jo_c 14 (-8))))))) (jt_n 19 (jt_n 17 (jt_l 14 (.inr (.inl (120, 2, 17, some 11)))) (jt_n 18 (jt_l 17 (.inr (.inr 1))) (jt_l 18 (.inl (jo_al 19 0))))) (jt_n 23 (jt_n 22 (jt_l 19 (.inl (jo_gf 22 11 0))) (jt_l 22 (.inl (jo_il 23 1)))) (jt_n 26 (jt_l 23 (.inr (.inl (82, 2, 26, some 10)))) (jt_l 26 (.inr (.inr 1)))))))
/-- TalkBench.fool(I)I -/
def jc_106 : Nat → Option jxI := (jt_n 12 (jt_n 7 (jt_n 1 (jt_l 0 (.inl (jo_il 1 1))) (jt_n 4 (jt_l 1 (.inr (.inl (124, 1, 4, none)))) (jt_l 4 (.inl (jo_if 7 13 (fun x => decide (x = 0))))))) (jt_n 8 (jt_l 7 (.inl (jo_al 8 0))) (jt_n 9 (jt_l 8 (.inl (jo_c 9 (-1)))) (jt_l 9 (.inr (.inl (120, 2, 12, some 11))))))) (jt_n 17 (jt_n 13 (jt_l 12 (.inr (.inr 1))) (jt_n 14 (jt_l 13 (.inl (jo_al 14 0))) (jt_l 14 (.inl (jo_gf 17 11 9))))) (jt_n 21 (jt_n 18 (jt_l 17 (.inl (jo_il 18 1))) (jt_l 18 (.inr (.inl (45, 2, 21, some 7))))) (jt_n 24 (jt_l 21 (.inr (.inl (197, 1, 24, none)))) (jt_l 24 (.inr (.inr 1)))))))
/-- TalkBench.cover(I)I -/
def jc_107 : Nat → Option jxI := (jt_n 12 (jt_n 7 (jt_n 1 (jt_l 0 (.inl (jo_il 1 1))) (jt_n 4 (jt_l 1 (.inr (.inl (124, 1, 4, none)))) (jt_l 4 (.inl (jo_if 7 13 (fun x => decide (x = 0))))))) (jt_n 8 (jt_l 7 (.inl (jo_al 8 0))) (jt_n 9 (jt_l 8 (.inl (jo_c 9 (-1)))) (jt_l 9 (.inr (.inl (120, 2, 12, some 11))))))) (jt_n 17 (jt_n 13 (jt_l 12 (.inr (.inr 1))) (jt_n 14 (jt_l 13 (.inl (jo_al 14 0))) (jt_l 14 (.inl (jo_gf 17 11 9))))) (jt_n 18 (jt_l 17 (.inl (jo_il 18 1))) (jt_n 21 (jt_l 18 (.inr (.inl (49, 2, 21, some 7)))) (jt_l 21 (.inr (.inr 1)))))))
/-- TalkBench.part()I -/
def jc_108 : Nat → Option jxI := (jt_n 25 (jt_n 12 (jt_n 7 (jt_n 1 (jt_l 0 (.inl (jo_al 1 0))) (jt_n 4 (jt_l 1 (.inl (jo_gf 4 11 0))) (jt_l 4 (.inl (jo_gf 7 10 0))))) (jt_n 8 (jt_l 7 (.inl (jo_c 8 (nI 4)))) (jt_n 11 (jt_l 8 (.inl (jo_ic 11 22 (fun x y => decide (y < x))))) (jt_l 11 (.inl (jo_al 12 0)))))) (jt_n 19 (jt_n 15 (jt_l 12 (.inl (jo_gf 15 11 0))) (jt_n 18 (jt_l 15 (.inl (jo_gf 18 10 1))) (jt_l 18 (.inl (jo_c 19 (nI 4)))))) (jt_n 22 (jt_l 19 (.inl (jo_ic 22 29 (fun x y => decide (x ≤ y))))) (jt_n 23 (jt_l 22 (.inl (jo_al 23 0))) (jt_l 23 (.inl (jo_c 25 (-7)))))))) (jt_n 37 (jt_n 30 (jt_n 28 (jt_l 25 (.inr (.inl (120, 2, 28, some 11)))) (jt_n 29 (jt_l 28 (.inr (.inr 1))) (jt_l 29 (.inl (jo_al 30 0))))) (jt_n 33 (jt_l 30 (.inl (jo_gf 33 11 5))) (jt_n 34 (jt_l 33 (.inl (jo_al 34 0))) (jt_l 34 (.inl (jo_gf 37 11 4)))))) (jt_n 44 (jt_n 40 (jt_l 37 (.inl (jo_gf 40 4 0))) (jt_n 41 (jt_l 40 (.inl (jo_al 41 0))) (jt_l 41 (.inl (jo_gf 44 11 4))))) (jt_n 47 (jt_l 44 (.inl (jo_gf 47 4 1))) (jt_n 50 (jt_l 47 (.inr (.inl (3, 3, 50, some 0)))) (jt_l 50 (.inr (.inr 1))))))))
/-- TalkBench.swing()I -/
def jc_109 : Nat → Option jxI := (jt_n 4 (jt_n 1 (jt_l 0 (.inl (jo_al 1 0))) (jt_l 1 (.inl (jo_gf 4 11 6)))) (jt_n 7 (jt_l 4 (.inr (.inl (37, 1, 7, some 6)))) (jt_l 7 (.inr (.inr 1)))))
/-- TalkBench.wrong(I)I -/
def jc_110 : Nat → Option jxI := (jt_n 12 (jt_n 5 (jt_n 1 (jt_l 0 (.inl (jo_il 1 1))) (jt_n 4 (jt_l 1 (.inl (jo_if 4 10 (fun x => decide (x < 0))))) (jt_l 4 (.inl (jo_il 5 1))))) (jt_n 10 (jt_n 7 (jt_l 5 (.inl (jo_c 7 (nI 6)))) (jt_l 7 (.inl (jo_ic 10 16 (fun x y => decide (x ≤ y)))))) (jt_n 11 (jt_l 10 (.inl (jo_al 11 0))) (jt_l 11 (.inl (jo_c 12 (-1))))))) (jt_n 17 (jt_n 15 (jt_l 12 (.inr (.inl (120, 2, 15, some 11)))) (jt_n 16 (jt_l 15 (.inr (.inr 1))) (jt_l 16 (.inl (jo_al 17 0))))) (jt_n 21 (jt_n 20 (jt_l 17 (.inl (jo_gf 20 11 6))) (jt_l 20 (.inl (jo_il 21 1)))) (jt_n 24 (jt_l 21 (.inr (.inl (38, 2, 24, some 6)))) (jt_l 24 (.inr (.inr 1)))))))
/-- TalkBench.tell(I)I -/
def jc_111 : Nat → Option jxI := (jt_n 18 (jt_n 9 (jt_n 4 (jt_n 1 (jt_l 0 (.inl (jo_al 1 0))) (jt_l 1 (.inl (jo_gf 4 11 8)))) (jt_n 7 (jt_l 4 (.inl (jo_gf 7 2 3))) (jt_l 7 (.inl (jo_c 9 (nI 120)))))) (jt_n 13 (jt_n 12 (jt_l 9 (.inl (jo_ic 12 19 (fun x y => decide (x < y))))) (jt_l 12 (.inl (jo_al 13 0)))) (jt_n 15 (jt_l 13 (.inl (jo_c 15 (-5)))) (jt_l 15 (.inr (.inl (120, 2, 18, some 11))))))) (jt_n 24 (jt_n 20 (jt_n 19 (jt_l 18 (.inr (.inr 1))) (jt_l 19 (.inl (jo_al 20 0)))) (jt_n 23 (jt_l 20 (.inl (jo_gf 23 11 8))) (jt_l 23 (.inl (jo_il 24 1))))) (jt_n 28 (jt_n 27 (jt_l 24 (.inr (.inl (15, 2, 27, some 2)))) (jt_l 27 (.inl (jo_al 28 0)))) (jt_n 31 (jt_l 28 (.inl (jo_gf 31 11 8))) (jt_n 34 (jt_l 31 (.inl (jo_gf 34 2 3))) (jt_l 34 (.inr (.inr 1))))))))
/-- TalkBench.check()I -/
def jc_112 : Nat → Option jxI := (jt_n 9 (jt_n 4 (jt_n 1 (jt_l 0 (.inl (jo_al 1 0))) (jt_l 1 (.inl (jo_gf 4 11 8)))) (jt_n 7 (jt_l 4 (.inr (.inl (16, 1, 7, some 2)))) (jt_n 8 (jt_l 7 (.inl (jo_is 8 2 1))) (jt_l 8 (.inl (jo_al 9 0)))))) (jt_n 13 (jt_n 12 (jt_l 9 (.inl (jo_gf 12 11 8))) (jt_l 12 (.inl (jo_c 13 (nI 0))))) (jt_n 16 (jt_l 13 (.inl (jo_pf 16 2 3 0))) (jt_n 17 (jt_l 16 (.inl (jo_il 17 1))) (jt_l 17 (.inr (.inr 1)))))))
/-- TalkBench.fools(I)I -/
def jc_113 : Nat → Option jxI := (jt_n 21 (jt_n 11 (jt_n 4 (jt_n 1 (jt_l 0 (.inl (jo_il 1 1))) (jt_l 1 (.inr (.inl (124, 1, 4, none))))) (jt_n 7 (jt_l 4 (.inl (jo_if 7 11 (fun x => decide (x = 0))))) (jt_n 8 (jt_l 7 (.inl (jo_c 8 (-1)))) (jt_l 8 (.inl (jo_go 19)))))) (jt_n 16 (jt_n 12 (jt_l 11 (.inl (jo_al 12 0))) (jt_n 15 (jt_l 12 (.inl (jo_gf 15 11 8))) (jt_l 15 (.inl (jo_il 16 1))))) (jt_n 19 (jt_l 16 (.inr (.inl (19, 2, 19, some 2)))) (jt_n 20 (jt_l 19 (.inl (jo_is 20 3 2))) (jt_l 20 (.inl (jo_al 21 0))))))) (jt_n 32 (jt_n 25 (jt_n 24 (jt_l 21 (.inl (jo_gf 24 11 8))) (jt_l 24 (.inl (jo_c 25 (nI 0))))) (jt_n 28 (jt_l 25 (.inl (jo_pf 28 2 3 0))) (jt_n 29 (jt_l 28 (.inl (jo_il 29 2))) (jt_l 29 (.inl (jo_if 32 40 (fun x => decide (0 ≤ x)))))))) (jt_n 37 (jt_n 33 (jt_l 32 (.inl (jo_al 33 0))) (jt_n 34 (jt_l 33 (.inl (jo_il 34 2))) (jt_l 34 (.inr (.inl (120, 2, 37, some 11)))))) (jt_n 40 (jt_l 37 (.inl (jo_go 41))) (jt_n 41 (jt_l 40 (.inl (jo_il 41 2))) (jt_l 41 (.inr (.inr 1))))))))
/-- TalkBench.keep(I)I -/
def jc_114 : Nat → Option jxI := (jt_n 27 (jt_n 13 (jt_n 7 (jt_n 1 (jt_l 0 (.inl (jo_il 1 1))) (jt_n 4 (jt_l 1 (.inr (.inl (123, 1, 4, none)))) (jt_l 4 (.inl (jo_if 7 13 (fun x => decide (x = 0))))))) (jt_n 9 (jt_n 8 (jt_l 7 (.inl (jo_al 8 0))) (jt_l 8 (.inl (jo_c 9 (-1))))) (jt_n 12 (jt_l 9 (.inr (.inl (120, 2, 12, some 11)))) (jt_l 12 (.inr (.inr 1)))))) (jt_n 19 (jt_n 17 (jt_n 14 (jt_l 13 (.inl (jo_al 14 0))) (jt_l 14 (.inl (jo_gf 17 11 1)))) (jt_n 18 (jt_l 17 (.inl (jo_il 18 1))) (jt_l 18 (.inl (jo_ra 19 2))))) (jt_n 23 (jt_n 22 (jt_l 19 (.inl (jo_nn 22 35))) (jt_l 22 (.inl (jo_al 23 0)))) (jt_n 26 (jt_l 23 (.inl (jo_gf 26 11 1))) (jt_l 26 (.inl (jo_il 27 1))))))) (jt_n 40 (jt_n 34 (jt_n 30 (jt_l 27 (.inl (jo_nw 30 10 [.int 0, .int 0, .null, .null]))) (jt_n 31 (jt_l 30 (.inl (jo_d 31))) (jt_l 31 (.inr (.inl (67, 1, 34, some 10)))))) (jt_n 36 (jt_n 35 (jt_l 34 (.inl (jo_rw 35 2 10))) (jt_l 35 (.inl (jo_al 36 0)))) (jt_n 39 (jt_l 36 (.inl (jo_gf 39 11 1))) (jt_l 39 (.inl (jo_il 40 1)))))) (jt_n 48 (jt_n 42 (jt_n 41 (jt_l 40 (.inl (jo_ra 41 2))) (jt_l 41 (.inl (jo_al 42 0)))) (jt_n 45 (jt_l 42 (.inl (jo_gf 45 11 0))) (jt_l 45 (.inr (.inl (71, 2, 48, some 10)))))) (jt_n 52 (jt_n 49 (jt_l 48 (.inl (jo_al 49 0))) (jt_l 49 (.inl (jo_gf 52 11 0)))) (jt_n 55 (jt_l 52 (.inr (.inl (73, 1, 55, some 10)))) (jt_l 55 (.inr (.inr 1))))))))
/-- TalkBench.bring(I)I -/
def jc_115 : Nat → Option jxI := (jt_n 30 (jt_n 14 (jt_n 8 (jt_n 4 (jt_n 1 (jt_l 0 (.inl (jo_il 1 1))) (jt_l 1 (.inr (.inl (123, 1, 4, none))))) (jt_n 7 (jt_l 4 (.inl (jo_if 7 13 (fun x => decide (x = 0))))) (jt_l 7 (.inl (jo_al 8 0))))) (jt_n 12 (jt_n 9 (jt_l 8 (.inl (jo_c 9 (-1)))) (jt_l 9 (.inr (.inl (120, 2, 12, some 11))))) (jt_n 13 (jt_l 12 (.inr (.inr 1))) (jt_l 13 (.inl (jo_al 14 0)))))) (jt_n 22 (jt_n 18 (jt_n 17 (jt_l 14 (.inl (jo_gf 17 11 1))) (jt_l 17 (.inl (jo_il 18 1)))) (jt_n 19 (jt_l 18 (.inl (jo_ra 19 2))) (jt_l 19 (.inl (jo_nn 22 29))))) (jt_n 25 (jt_n 23 (jt_l 22 (.inl (jo_al 23 0))) (jt_l 23 (.inl (jo_c 25 (-6))))) (jt_n 28 (jt_l 25 (.inr (.inl (120, 2, 28, some 11)))) (jt_n 29 (jt_l 28 (.inr (.inr 1))) (jt_l 29 (.inl (jo_al 30 0)))))))) (jt_n 48 (jt_n 40 (jt_n 34 (jt_n 33 (jt_l 30 (.inl (jo_gf 33 11 3))) (jt_l 33 (.inl (jo_al 34 0)))) (jt_n 37 (jt_l 34 (.inl (jo_gf 37 11 0))) (jt_l 37 (.inr (.inl (12, 2, 40, some 1)))))) (jt_n 44 (jt_n 41 (jt_l 40 (.inl (jo_al 41 0))) (jt_l 41 (.inl (jo_gf 44 11 0)))) (jt_n 45 (jt_l 44 (.inl (jo_al 45 0))) (jt_l 45 (.inl (jo_gf 48 11 1)))))) (jt_n 54 (jt_n 50 (jt_n 49 (jt_l 48 (.inl (jo_il 49 1))) (jt_l 49 (.inl (jo_ra 50 2)))) (jt_n 53 (jt_l 50 (.inr (.inl (71, 2, 53, some 10)))) (jt_l 53 (.inl (jo_al 54 0))))) (jt_n 58 (jt_n 57 (jt_l 54 (.inr (.inl (121, 1, 57, some 11)))) (jt_l 57 (.inl (jo_al 58 0)))) (jt_n 61 (jt_l 58 (.inl (jo_gf 61 11 0))) (jt_n 64 (jt_l 61 (.inr (.inl (68, 1, 64, some 10)))) (jt_l 64 (.inr (.inr 1)))))))))
/-- TalkBench.as(II)I -/
def jc_116 : Nat → Option jxI := (jt_n 37 (jt_n 18 (jt_n 11 (jt_n 4 (jt_n 1 (jt_l 0 (.inl (jo_il 1 1))) (jt_l 1 (.inr (.inl (123, 1, 4, none))))) (jt_n 7 (jt_l 4 (.inl (jo_if 7 16 (fun x => decide (¬ x = 0))))) (jt_n 8 (jt_l 7 (.inl (jo_il 8 2))) (jt_l 8 (.inl (jo_if 11 16 (fun x => decide (x < 0)))))))) (jt_n 13 (jt_n 12 (jt_l 11 (.inl (jo_il 12 2))) (jt_l 12 (.inl (jo_c 13 (nI 3))))) (jt_n 16 (jt_l 13 (.inl (jo_ic 16 22 (fun x y => decide (x ≤ y))))) (jt_n 17 (jt_l 16 (.inl (jo_al 17 0))) (jt_l 17 (.inl (jo_c 18 (-1)))))))) (jt_n 27 (jt_n 22 (jt_n 21 (jt_l 18 (.inr (.inl (120, 2, 21, some 11)))) (jt_l 21 (.inr (.inr 1)))) (jt_n 23 (jt_l 22 (.inl (jo_al 23 0))) (jt_n 26 (jt_l 23 (.inl (jo_gf 26 11 1))) (jt_l 26 (.inl (jo_il 27 1)))))) (jt_n 31 (jt_n 28 (jt_l 27 (.inl (jo_ra 28 2))) (jt_l 28 (.inl (jo_nn 31 38)))) (jt_n 32 (jt_l 31 (.inl (jo_al 32 0))) (jt_n 34 (jt_l 32 (.inl (jo_c 34 (-6)))) (jt_l 34 (.inr (.inl (120, 2, 37, some 11))))))))) (jt_n 55 (jt_n 44 (jt_n 39 (jt_n 38 (jt_l 37 (.inr (.inr 1))) (jt_l 38 (.inl (jo_al 39 0)))) (jt_n 42 (jt_l 39 (.inl (jo_gf 42 11 1))) (jt_n 43 (jt_l 42 (.inl (jo_il 43 1))) (jt_l 43 (.inl (jo_ra 44 2)))))) (jt_n 48 (jt_n 47 (jt_l 44 (.inr (.inl (73, 1, 47, some 10)))) (jt_l 47 (.inl (jo_il 48 2)))) (jt_n 51 (jt_l 48 (.inr (.inl (125, 2, 51, none)))) (jt_n 54 (jt_l 51 (.inl (jo_if 54 61 (fun x => decide (¬ x = 0))))) (jt_l 54 (.inl (jo_al 55 0))))))) (jt_n 65 (jt_n 60 (jt_n 57 (jt_l 55 (.inl (jo_c 57 (-4)))) (jt_l 57 (.inr (.inl (120, 2, 60, some 11))))) (jt_n 61 (jt_l 60 (.inr (.inr 1))) (jt_n 62 (jt_l 61 (.inl (jo_al 62 0))) (jt_l 62 (.inl (jo_gf 65 11 1)))))) (jt_n 67 (jt_n 66 (jt_l 65 (.inl (jo_il 66 1))) (jt_l 66 (.inl (jo_ra 67 2)))) (jt_n 68 (jt_l 67 (.inl (jo_c 68 (nI 1)))) (jt_n 71 (jt_l 68 (.inr (.inl (72, 2, 71, some 10)))) (jt_l 71 (.inr (.inr 1)))))))))
/-- TalkBench.same(I)I -/
def jc_117 : Nat → Option jxI := (jt_n 28 (jt_n 13 (jt_n 7 (jt_n 1 (jt_l 0 (.inl (jo_il 1 1))) (jt_n 4 (jt_l 1 (.inr (.inl (123, 1, 4, none)))) (jt_l 4 (.inl (jo_if 7 13 (fun x => decide (x = 0))))))) (jt_n 9 (jt_n 8 (jt_l 7 (.inl (jo_al 8 0))) (jt_l 8 (.inl (jo_c 9 (-1))))) (jt_n 12 (jt_l 9 (.inr (.inl (120, 2, 12, some 11)))) (jt_l 12 (.inr (.inr 1)))))) (jt_n 19 (jt_n 17 (jt_n 14 (jt_l 13 (.inl (jo_al 14 0))) (jt_l 14 (.inl (jo_gf 17 11 1)))) (jt_n 18 (jt_l 17 (.inl (jo_il 18 1))) (jt_l 18 (.inl (jo_ra 19 2))))) (jt_n 23 (jt_n 22 (jt_l 19 (.inl (jo_nn 22 29))) (jt_l 22 (.inl (jo_al 23 0)))) (jt_n 25 (jt_l 23 (.inl (jo_c 25 (-6)))) (jt_l 25 (.inr (.inl (120, 2, 28, some 11)))))))) (jt_n 41 (jt_n 33 (jt_n 29 (jt_l 28 (.inr (.inr 1))) (jt_n 30 (jt_l 29 (.inl (jo_al 30 0))) (jt_l 30 (.inl (jo_gf 33 11 10))))) (jt_n 37 (jt_n 34 (jt_l 33 (.inl (jo_al 34 0))) (jt_l 34 (.inl (jo_gf 37 11 0)))) (jt_n 38 (jt_l 37 (.inl (jo_al 38 0))) (jt_l 38 (.inl (jo_gf 41 11 1)))))) (jt_n 49 (jt_n 43 (jt_n 42 (jt_l 41 (.inl (jo_il 42 1))) (jt_l 42 (.inl (jo_ra 43 2)))) (jt_n 46 (jt_l 43 (.inr (.inl (22, 3, 46, some 3)))) (jt_l 46 (.inl (jo_if 49 53 (fun x => decide (x = 0))))))) (jt_n 53 (jt_n 50 (jt_l 49 (.inl (jo_c 50 (nI 1)))) (jt_l 50 (.inl (jo_go 54)))) (jt_n 54 (jt_l 53 (.inl (jo_c 54 (nI 0)))) (jt_l 54 (.inr (.inr 1))))))))
/-- TalkBench.undo()I -/
def jc_118 : Nat → Option jxI := (jt_n 18 (jt_n 10 (jt_n 4 (jt_n 1 (jt_l 0 (.inl (jo_al 1 0))) (jt_l 1 (.inl (jo_gf 4 11 3)))) (jt_n 7 (jt_l 4 (.inl (jo_gf 7 1 2))) (jt_l 7 (.inl (jo_if 10 17 (fun x => decide (¬ x = 0))))))) (jt_n 13 (jt_n 11 (jt_l 10 (.inl (jo_al 11 0))) (jt_l 11 (.inl (jo_c 13 (-6))))) (jt_n 16 (jt_l 13 (.inr (.inl (120, 2, 16, some 11)))) (jt_n 17 (jt_l 16 (.inr (.inr 1))) (jt_l 17 (.inl (jo_al 18 0))))))) (jt_n 29 (jt_n 22 (jt_n 21 (jt_l 18 (.inl (jo_gf 21 11 3))) (jt_l 21 (.inl (jo_al 22 0)))) (jt_n 25 (jt_l 22 (.inl (jo_gf 25 11 0))) (jt_n 28 (jt_l 25 (.inr (.inl (13, 2, 28, some 1)))) (jt_l 28 (.inl (jo_al 29 0)))))) (jt_n 33 (jt_n 32 (jt_l 29 (.inr (.inl (121, 1, 32, some 11)))) (jt_l 32 (.inl (jo_al 33 0)))) (jt_n 36 (jt_l 33 (.inl (jo_gf 36 11 3))) (jt_n 39 (jt_l 36 (.inl (jo_gf 39 1 2))) (jt_l 39 (.inr (.inr 1))))))))
/-- TalkBench.told(I)I -/
def jc_119 : Nat → Option jxI := (jt_n 73 (jt_n 56 (jt_n 48 (jt_n 44 (jt_n 1 (jt_l 0 (.inl (jo_il 1 1))) (jt_l 1 (.inl (jo_sw (js_swt 1 98 0 6 [43, 51, 59, 68, 77, 85, 93]))))) (jt_n 45 (jt_l 44 (.inl (jo_al 45 0))) (jt_l 45 (.inl (jo_gf 48 11 0))))) (jt_n 52 (jt_n 51 (jt_l 48 (.inl (jo_gf 51 10 0))) (jt_l 51 (.inr (.inr 1)))) (jt_n 53 (jt_l 52 (.inl (jo_al 53 0))) (jt_l 53 (.inl (jo_gf 56 11 0)))))) (jt_n 64 (jt_n 60 (jt_n 59 (jt_l 56 (.inl (jo_gf 59 10 1))) (jt_l 59 (.inr (.inr 1)))) (jt_n 61 (jt_l 60 (.inl (jo_al 61 0))) (jt_l 61 (.inl (jo_gf 64 11 0))))) (jt_n 68 (jt_n 65 (jt_l 64 (.inl (jo_c 65 (nI 1)))) (jt_l 65 (.inr (.inl (72, 2, 68, some 10))))) (jt_n 69 (jt_l 68 (.inr (.inr 1))) (jt_n 70 (jt_l 69 (.inl (jo_al 70 0))) (jt_l 70 (.inl (jo_gf 73 11 0)))))))) (jt_n 90 (jt_n 79 (jt_n 77 (jt_n 74 (jt_l 73 (.inl (jo_c 74 (nI 2)))) (jt_l 74 (.inr (.inl (72, 2, 77, some 10))))) (jt_n 78 (jt_l 77 (.inr (.inr 1))) (jt_l 78 (.inl (jo_al 79 0))))) (jt_n 85 (jt_n 82 (jt_l 79 (.inl (jo_gf 82 11 8))) (jt_l 82 (.inl (jo_gf 85 2 3)))) (jt_n 86 (jt_l 85 (.inr (.inr 1))) (jt_n 87 (jt_l 86 (.inl (jo_al 87 0))) (jt_l 87 (.inl (jo_gf 90 11 7))))))) (jt_n 98 (jt_n 94 (jt_n 93 (jt_l 90 (.inl (jo_gf 93 9 8))) (jt_l 93 (.inr (.inr 1)))) (jt_n 95 (jt_l 94 (.inl (jo_al 95 0))) (jt_l 95 (.inl (jo_gf 98 11 11))))) (jt_n 100 (jt_n 99 (jt_l 98 (.inr (.inr 1))) (jt_l 99 (.inl (jo_al 100 0)))) (jt_n 101 (jt_l 100 (.inl (jo_c 101 (-1)))) (jt_n 104 (jt_l 101 (.inr (.inl (120, 2, 104, some 11)))) (jt_l 104 (.inr (.inr 1)))))))))
/-- TalkBench.finding(I)I -/
def jc_120 : Nat → Option jxI := (jt_n 6 (jt_n 2 (jt_n 1 (jt_l 0 (.inl (jo_al 1 0))) (jt_l 1 (.inl (jo_d 2)))) (jt_n 5 (jt_l 2 (.inl (jo_gf 5 11 11))) (jt_l 5 (.inl (jo_c 6 (nI 1)))))) (jt_n 10 (jt_n 7 (jt_l 6 (.inl (jo_b 7 (fun x y => x + y)))) (jt_l 7 (.inl (jo_pf 10 11 11 0)))) (jt_n 11 (jt_l 10 (.inl (jo_il 11 1))) (jt_l 11 (.inr (.inr 1))))))
/-- TalkBench.takeNewPlaces()V -/
def jc_121 : Nat → Option jxI := (jt_n 15 (jt_n 5 (jt_n 1 (jt_l 0 (.inl (jo_al 1 0))) (jt_n 4 (jt_l 1 (.inl (jo_gf 4 11 4))) (jt_l 4 (.inl (jo_al 5 0))))) (jt_n 11 (jt_n 8 (jt_l 5 (.inl (jo_gf 8 11 0))) (jt_l 8 (.inr (.inl (28, 2, 11, some 4))))) (jt_n 12 (jt_l 11 (.inl (jo_al 12 0))) (jt_l 12 (.inl (jo_gf 15 11 5)))))) (jt_n 25 (jt_n 19 (jt_n 18 (jt_l 15 (.inr (.inl (1, 1, 18, some 0)))) (jt_l 18 (.inl (jo_al 19 0)))) (jt_n 22 (jt_l 19 (.inl (jo_gf 22 11 6))) (jt_l 22 (.inr (.inl (36, 1, 25, some 6)))))) (jt_n 29 (jt_n 26 (jt_l 25 (.inl (jo_al 26 0))) (jt_l 26 (.inl (jo_gf 29 11 7)))) (jt_n 32 (jt_l 29 (.inr (.inl (62, 1, 32, some 9)))) (jt_l 32 (.inr (.inr 0)))))))
/-- TalkBench.noSheet(I)Z -/
def jc_122 : Nat → Option jxI := (jt_n 6 (jt_n 4 (jt_n 1 (jt_l 0 (.inl (jo_il 1 0))) (jt_l 1 (.inl (jo_if 4 9 (fun x => decide (x < 0)))))) (jt_n 5 (jt_l 4 (.inl (jo_il 5 0))) (jt_l 5 (.inl (jo_c 6 (nI 4)))))) (jt_n 10 (jt_n 9 (jt_l 6 (.inl (jo_ic 9 13 (fun x y => decide (x < y))))) (jt_l 9 (.inl (jo_c 10 (nI 1))))) (jt_n 13 (jt_l 10 (.inl (jo_go 14))) (jt_n 14 (jt_l 13 (.inl (jo_c 14 (nI 0)))) (jt_l 14 (.inr (.inr 2)))))))
/-- TalkBench.noSlot(I)Z -/
def jc_123 : Nat → Option jxI := (jt_n 6 (jt_n 4 (jt_n 1 (jt_l 0 (.inl (jo_il 1 0))) (jt_l 1 (.inl (jo_if 4 9 (fun x => decide (x < 0)))))) (jt_n 5 (jt_l 4 (.inl (jo_il 5 0))) (jt_l 5 (.inl (jo_c 6 (nI 4)))))) (jt_n 10 (jt_n 9 (jt_l 6 (.inl (jo_ic 9 13 (fun x y => decide (x < y))))) (jt_l 9 (.inl (jo_c 10 (nI 1))))) (jt_n 13 (jt_l 10 (.inl (jo_go 14))) (jt_n 14 (jt_l 13 (.inl (jo_c 14 (nI 0)))) (jt_l 14 (.inr (.inr 2)))))))
/-- TalkBench.isNoAnswer(I)Z -/
def jc_124 : Nat → Option jxI := (jt_n 6 (jt_n 4 (jt_n 1 (jt_l 0 (.inl (jo_il 1 0))) (jt_l 1 (.inl (jo_if 4 13 (fun x => decide (x = 0)))))) (jt_n 5 (jt_l 4 (.inl (jo_il 5 0))) (jt_l 5 (.inl (jo_c 6 (nI 1)))))) (jt_n 10 (jt_n 9 (jt_l 6 (.inl (jo_ic 9 13 (fun x y => decide (x = y))))) (jt_l 9 (.inl (jo_c 10 (nI 1))))) (jt_n 13 (jt_l 10 (.inl (jo_go 14))) (jt_n 14 (jt_l 13 (.inl (jo_c 14 (nI 0)))) (jt_l 14 (.inr (.inr 2)))))))
/-- TalkBench.isUnder(II)Z -/
def jc_125 : Nat → Option jxI := (jt_n 11 (jt_n 5 (jt_n 1 (jt_l 0 (.inl (jo_il 1 1))) (jt_n 4 (jt_l 1 (.inl (jo_if 4 19 (fun x => decide (x = 0))))) (jt_l 4 (.inl (jo_il 5 1))))) (jt_n 9 (jt_n 6 (jt_l 5 (.inl (jo_il 6 0))) (jt_l 6 (.inl (jo_ic 9 19 (fun x y => decide (x = y)))))) (jt_n 10 (jt_l 9 (.inl (jo_il 10 1))) (jt_l 10 (.inl (jo_c 11 (nI 1))))))) (jt_n 19 (jt_n 15 (jt_n 14 (jt_l 11 (.inl (jo_ic 14 23 (fun x y => decide (¬ x = y))))) (jt_l 14 (.inl (jo_il 15 0)))) (jt_n 16 (jt_l 15 (.inl (jo_c 16 (nI 2)))) (jt_l 16 (.inl (jo_ic 19 23 (fun x y => decide (¬ x = y))))))) (jt_n 23 (jt_n 20 (jt_l 19 (.inl (jo_c 20 (nI 1)))) (jt_l 20 (.inl (jo_go 24)))) (jt_n 24 (jt_l 23 (.inl (jo_c 24 (nI 0)))) (jt_l 24 (.inr (.inr 2)))))))
/-- TalkBench.memberOf(I)I -/
def jc_126 : Nat → Option jxI := (jt_n 2 (jt_n 1 (jt_l 0 (.inl (jo_il 1 0))) (jt_l 1 (.inl (jo_c 2 (nI 1))))) (jt_n 3 (jt_l 2 (.inl (jo_b 3 (fun x y => x - y)))) (jt_n 6 (jt_l 3 (.inr (.inl (197, 1, 6, none)))) (jt_l 6 (.inr (.inr 1))))))
/-- TalkBench.lowestOf(I)I -/
def jc_127 : Nat → Option jxI := (jt_n 2 (jt_n 1 (jt_l 0 (.inl (jo_il 1 0))) (jt_l 1 (.inl (jo_il 2 0)))) (jt_n 3 (jt_l 2 (.inl (jo_1 3 (fun x => -x)))) (jt_n 4 (jt_l 3 (.inl (jo_b 4 (fun x y => x &&& y)))) (jt_l 4 (.inr (.inr 1))))))
/-- TalkBench.blockAt(II)I -/
def jc_128 : Nat → Option jxI := (jt_n 5 (jt_n 3 (jt_n 2 (jt_l 0 (.inl (jo_c 2 (nI 32)))) (jt_l 2 (.inl (jo_il 3 0)))) (jt_n 4 (jt_l 3 (.inl (jo_b 4 (fun x y => x * y)))) (jt_l 4 (.inl (jo_c 5 (nI 1)))))) (jt_n 7 (jt_n 6 (jt_l 5 (.inl (jo_il 6 1))) (jt_l 6 (.inl (jo_b 7 (fun x y => x * y))))) (jt_n 8 (jt_l 7 (.inl (jo_b 8 (fun x y => x + y)))) (jt_l 8 (.inr (.inr 1))))))
/-- TalkBenchModel.<init>()V -/
def jc_129 : Nat → Option jxI := (jt_n 159 (jt_n 77 (jt_n 39 (jt_n 17 (jt_n 9 (jt_n 4 (jt_n 1 (jt_l 0 (.inl (jo_al 1 0))) (jt_l 1 (.inl (jo_oi 4)))) (jt_n 5 (jt_l 4 (.inl (jo_al 5 0))) (jt_n 6 (jt_l 5 (.inl (jo_c 6 (nI 1)))) (jt_l 6 (.inl (jo_pf 9 12 0 0)))))) (jt_n 11 (jt_n 10 (jt_l 9 (.inl (jo_al 10 0))) (jt_l 10 (.inl (jo_c 11 (nI 1))))) (jt_n 14 (jt_l 11 (.inl (jo_pf 14 12 1 0))) (jt_n 15 (jt_l 14 (.inl (jo_al 15 0))) (jt_l 15 (.inl (jo_c 17 (nI 25)))))))) (jt_n 27 (jt_n 22 (jt_n 19 (jt_l 17 (.inl (jo_ni 19))) (jt_l 19 (.inl (jo_pf 22 12 2 2)))) (jt_n 23 (jt_l 22 (.inl (jo_al 23 0))) (jt_n 25 (jt_l 23 (.inl (jo_c 25 (nI 25)))) (jt_l 25 (.inl (jo_ni 27)))))) (jt_n 31 (jt_n 30 (jt_l 27 (.inl (jo_pf 30 12 3 2))) (jt_l 30 (.inl (jo_al 31 0)))) (jt_n 34 (jt_l 31 (.inl (jo_c 34 (nI 1560)))) (jt_n 36 (jt_l 34 (.inl (jo_ni 36))) (jt_l 36 (.inl (jo_pf 39 12 5 2)))))))) (jt_n 57 (jt_n 49 (jt_n 43 (jt_n 40 (jt_l 39 (.inl (jo_al 40 0))) (jt_l 40 (.inl (jo_c 43 (nI 208))))) (jt_n 45 (jt_l 43 (.inl (jo_ni 45))) (jt_n 48 (jt_l 45 (.inl (jo_pf 48 12 6 2))) (jt_l 48 (.inl (jo_al 49 0)))))) (jt_n 52 (jt_n 50 (jt_l 49 (.inl (jo_c 50 (nI 4)))) (jt_l 50 (.inl (jo_ni 52)))) (jt_n 55 (jt_l 52 (.inl (jo_pf 55 12 7 2))) (jt_n 56 (jt_l 55 (.inl (jo_al 56 0))) (jt_l 56 (.inl (jo_c 57 (nI 4)))))))) (jt_n 66 (jt_n 62 (jt_n 59 (jt_l 57 (.inl (jo_ni 59))) (jt_l 59 (.inl (jo_pf 62 12 8 2)))) (jt_n 63 (jt_l 62 (.inl (jo_al 63 0))) (jt_n 64 (jt_l 63 (.inl (jo_c 64 (nI 4)))) (jt_l 64 (.inl (jo_ni 66)))))) (jt_n 70 (jt_n 69 (jt_l 66 (.inl (jo_pf 69 12 9 2))) (jt_l 69 (.inl (jo_al 70 0)))) (jt_n 72 (jt_l 70 (.inl (jo_c 72 (nI 120)))) (jt_n 74 (jt_l 72 (.inl (jo_ni 74))) (jt_l 74 (.inl (jo_pf 77 12 10 2))))))))) (jt_n 119 (jt_n 97 (jt_n 86 (jt_n 80 (jt_n 78 (jt_l 77 (.inl (jo_al 78 0))) (jt_l 78 (.inl (jo_c 80 (nI 120))))) (jt_n 82 (jt_l 80 (.inl (jo_ni 82))) (jt_n 85 (jt_l 82 (.inl (jo_pf 85 12 12 2))) (jt_l 85 (.inl (jo_al 86 0)))))) (jt_n 90 (jt_n 88 (jt_l 86 (.inl (jo_c 88 (nI 30)))) (jt_l 88 (.inl (jo_ni 90)))) (jt_n 93 (jt_l 90 (.inl (jo_pf 93 12 15 2))) (jt_n 94 (jt_l 93 (.inl (jo_al 94 0))) (jt_l 94 (.inl (jo_c 97 (nI 1024)))))))) (jt_n 108 (jt_n 102 (jt_n 99 (jt_l 97 (.inl (jo_ni 99))) (jt_l 99 (.inl (jo_pf 102 12 16 2)))) (jt_n 103 (jt_l 102 (.inl (jo_al 103 0))) (jt_n 106 (jt_l 103 (.inl (jo_c 106 (nI 1024)))) (jt_l 106 (.inl (jo_ni 108)))))) (jt_n 112 (jt_n 111 (jt_l 108 (.inl (jo_pf 111 12 17 2))) (jt_l 111 (.inl (jo_al 112 0)))) (jt_n 114 (jt_l 112 (.inl (jo_c 114 (nI 64)))) (jt_n 116 (jt_l 114 (.inl (jo_ni 116))) (jt_l 116 (.inl (jo_pf 119 12 18 2)))))))) (jt_n 138 (jt_n 128 (jt_n 122 (jt_n 120 (jt_l 119 (.inl (jo_al 120 0))) (jt_l 120 (.inl (jo_c 122 (nI 64))))) (jt_n 124 (jt_l 122 (.inl (jo_ni 124))) (jt_n 127 (jt_l 124 (.inl (jo_pf 127 12 19 2))) (jt_l 127 (.inl (jo_al 128 0)))))) (jt_n 132 (jt_n 130 (jt_l 128 (.inl (jo_c 130 (nI 64)))) (jt_l 130 (.inl (jo_ni 132)))) (jt_n 135 (jt_l 132 (.inl (jo_pf 135 12 20 2))) (jt_n 136 (jt_l 135 (.inl (jo_al 136 0))) (jt_l 136 (.inl (jo_c 138 (nI 64)))))))) (jt_n 148 (jt_n 143 (jt_n 140 (jt_l 138 (.inl (jo_ni 140))) (jt_l 140 (.inl (jo_pf 143 12 21 2)))) (jt_n 144 (jt_l 143 (.inl (jo_al 144 0))) (jt_n 146 (jt_l 144 (.inl (jo_c 146 (nI 64)))) (jt_l 146 (.inl (jo_ni 148)))))) (jt_n 152 (jt_n 151 (jt_l 148 (.inl (jo_pf 151 12 22 2))) (jt_l 151 (.inl (jo_al 152 0)))) (jt_n 154 (jt_l 152 (.inl (jo_c 154 (nI 64)))) (jt_n 156 (jt_l 154 (.inl (jo_ni 156))) (jt_l 156 (.inl (jo_pf 159 12 23 2)))))))))) (jt_n 240 (jt_n 198 (jt_n 178 (jt_n 168 (jt_n 162 (jt_n 160 (jt_l 159 (.inl (jo_al 160 0))) (jt_l 160 (.inl (jo_c 162 (nI 64))))) (jt_n 164 (jt_l 162 (.inl (jo_ni 164))) (jt_n 167 (jt_l 164 (.inl (jo_pf 167 12 24 2))) (jt_l 167 (.inl (jo_al 168 0)))))) (jt_n 172 (jt_n 170 (jt_l 168 (.inl (jo_c 170 (nI 64)))) (jt_l 170 (.inl (jo_ni 172)))) (jt_n 175 (jt_l 172 (.inl (jo_pf 175 12 25 2))) (jt_n 176 (jt_l 175 (.inl (jo_al 176 0))) (jt_l 176 (.inl (jo_c 178 (nI 32)))))))) (jt_n 188 (jt_n 183 (jt_n 180 (jt_l 178 (.inl (jo_ni 180))) (jt_l 180 (.inl (jo_pf 183 12 26 2)))) (jt_n 184 (jt_l 183 (.inl (jo_al 184 0))) (jt_n 186 (jt_l 184 (.inl (jo_c 186 (nI 25)))) (jt_l 186 (.inl (jo_nj 188)))))) (jt_n 192 (jt_n 191 (jt_l 188 (.inl (jo_pf 191 12 27 2))) (jt_l 191 (.inl (jo_al 192 0)))) (jt_n 193 (jt_l 192 (.inl (jo_c 193 (nI 5)))) (jt_n 195 (jt_l 193 (.inl (jo_ni 195))) (jt_l 195 (.inl (jo_pf 198 12 28 2)))))))) (jt_n 217 (jt_n 207 (jt_n 201 (jt_n 199 (jt_l 198 (.inl (jo_al 199 0))) (jt_l 199 (.inl (jo_c 201 (nI 7))))) (jt_n 203 (jt_l 201 (.inl (jo_ni 203))) (jt_n 206 (jt_l 203 (.inl (jo_pf 206 12 29 2))) (jt_l 206 (.inl (jo_al 207 0)))))) (jt_n 211 (jt_n 209 (jt_l 207 (.inl (jo_c 209 (nI 7)))) (jt_l 209 (.inl (jo_ni 211)))) (jt_n 214 (jt_l 211 (.inl (jo_pf 214 12 30 2))) (jt_n 215 (jt_l 214 (.inl (jo_al 215 0))) (jt_l 215 (.inl (jo_c 217 (nI 65536)))))))) (jt_n 228 (jt_n 222 (jt_n 219 (jt_l 217 (.inl (jo_ni 219))) (jt_l 219 (.inl (jo_pf 222 12 31 2)))) (jt_n 223 (jt_l 222 (.inl (jo_al 223 0))) (jt_n 226 (jt_l 223 (.inl (jo_c 226 (nI 256)))) (jt_l 226 (.inl (jo_ni 228)))))) (jt_n 232 (jt_n 231 (jt_l 228 (.inl (jo_pf 231 12 32 2))) (jt_l 231 (.inl (jo_al 232 0)))) (jt_n 235 (jt_l 232 (.inl (jo_c 235 (nI 7168)))) (jt_n 237 (jt_l 235 (.inl (jo_ni 237))) (jt_l 237 (.inl (jo_pf 240 12 33 2))))))))) (jt_n 274 (jt_n 258 (jt_n 249 (jt_n 243 (jt_n 241 (jt_l 240 (.inl (jo_al 241 0))) (jt_l 241 (.inl (jo_c 243 (nI 64))))) (jt_n 245 (jt_l 243 (.inl (jo_ni 245))) (jt_n 248 (jt_l 245 (.inl (jo_pf 248 12 34 2))) (jt_l 248 (.inl (jo_al 249 0)))))) (jt_n 253 (jt_n 251 (jt_l 249 (.inl (jo_c 251 (nI 64)))) (jt_l 251 (.inl (jo_ni 253)))) (jt_n 256 (jt_l 253 (.inl (jo_pf 256 12 35 2))) (jt_n 257 (jt_l 256 (.inl (jo_al 257 0))) (jt_l 257 (.inl (jo_c 258 (nI 5)))))))) (jt_n 267 (jt_n 263 (jt_n 260 (jt_l 258 (.inl (jo_ni 260))) (jt_l 260 (.inl (jo_pf 263 12 36 2)))) (jt_n 264 (jt_l 263 (.inl (jo_al 264 0))) (jt_n 265 (jt_l 264 (.inl (jo_c 265 (nI 5)))) (jt_l 265 (.inl (jo_ni 267)))))) (jt_n 271 (jt_n 270 (jt_l 267 (.inl (jo_pf 270 12 37 2))) (jt_l 270 (.inl (jo_c 271 (nI 0))))) (jt_n 272 (jt_l 271 (.inl (jo_is 272 2 1))) (jt_n 273 (jt_l 272 (.inl (jo_il 273 1))) (jt_l 273 (.inl (jo_c 274 (nI 4))))))))) (jt_n 292 (jt_n 283 (jt_n 278 (jt_n 277 (jt_l 274 (.inl (jo_ic 277 290 (fun x y => decide (y ≤ x))))) (jt_l 277 (.inl (jo_al 278 0)))) (jt_n 281 (jt_l 278 (.inl (jo_gf 281 12 7))) (jt_n 282 (jt_l 281 (.inl (jo_il 282 1))) (jt_l 282 (.inl (jo_c 283 (-1))))))) (jt_n 287 (jt_n 284 (jt_l 283 (.inl (jo_iw 284))) (jt_l 284 (.inl (jo_inc 287 2 1 (nI 1))))) (jt_n 290 (jt_l 287 (.inl (jo_go 272))) (jt_n 291 (jt_l 290 (.inl (jo_c 291 (nI 0)))) (jt_l 291 (.inl (jo_is 292 2 1))))))) (jt_n 302 (jt_n 295 (jt_n 293 (jt_l 292 (.inl (jo_il 293 1))) (jt_l 293 (.inl (jo_c 295 (nI 25))))) (jt_n 298 (jt_l 295 (.inl (jo_ic 298 311 (fun x y => decide (y ≤ x))))) (jt_n 299 (jt_l 298 (.inl (jo_al 299 0))) (jt_l 299 (.inl (jo_gf 302 12 3)))))) (jt_n 305 (jt_n 303 (jt_l 302 (.inl (jo_il 303 1))) (jt_n 304 (jt_l 303 (.inl (jo_c 304 (nI 1)))) (jt_l 304 (.inl (jo_iw 305))))) (jt_n 308 (jt_l 305 (.inl (jo_inc 308 2 1 (nI 1)))) (jt_n 311 (jt_l 308 (.inl (jo_go 292))) (jt_l 311 (.inr (.inr 0)))))))))))
/-- TalkBenchModel.finding(I)I -/
def jc_130 : Nat → Option jxI := (jt_n 6 (jt_n 2 (jt_n 1 (jt_l 0 (.inl (jo_al 1 0))) (jt_l 1 (.inl (jo_d 2)))) (jt_n 5 (jt_l 2 (.inl (jo_gf 5 12 13))) (jt_l 5 (.inl (jo_c 6 (nI 1)))))) (jt_n 10 (jt_n 7 (jt_l 6 (.inl (jo_b 7 (fun x y => x + y)))) (jt_l 7 (.inl (jo_pf 10 12 13 0)))) (jt_n 11 (jt_l 10 (.inl (jo_il 11 1))) (jt_l 11 (.inr (.inr 1))))))
/-- TalkBenchModel.isPlace(II)Z -/
def jc_131 : Nat → Option jxI := (jt_n 16 (jt_n 6 (jt_n 4 (jt_n 1 (jt_l 0 (.inl (jo_il 1 1))) (jt_l 1 (.inl (jo_if 4 28 (fun x => decide (x < 0)))))) (jt_n 5 (jt_l 4 (.inl (jo_il 5 1))) (jt_l 5 (.inl (jo_al 6 0))))) (jt_n 12 (jt_n 9 (jt_l 6 (.inl (jo_gf 9 12 0))) (jt_l 9 (.inl (jo_ic 12 28 (fun x y => decide (y ≤ x)))))) (jt_n 13 (jt_l 12 (.inl (jo_il 13 2))) (jt_l 13 (.inl (jo_if 16 28 (fun x => decide (x < 0)))))))) (jt_n 24 (jt_n 18 (jt_n 17 (jt_l 16 (.inl (jo_il 17 2))) (jt_l 17 (.inl (jo_al 18 0)))) (jt_n 21 (jt_l 18 (.inl (jo_gf 21 12 1))) (jt_l 21 (.inl (jo_ic 24 28 (fun x y => decide (y ≤ x))))))) (jt_n 28 (jt_n 25 (jt_l 24 (.inl (jo_c 25 (nI 1)))) (jt_l 25 (.inl (jo_go 29)))) (jt_n 29 (jt_l 28 (.inl (jo_c 29 (nI 0)))) (jt_l 29 (.inr (.inr 2)))))))
/-- TalkBenchModel.in(II)Z -/
def jc_132 : Nat → Option jxI := (jt_n 5 (jt_n 2 (jt_n 1 (jt_l 0 (.inl (jo_il 1 0))) (jt_l 1 (.inl (jo_il 2 1)))) (jt_n 3 (jt_l 2 (.inl (jo_b 3 (fun x y => x >>> (y &&& 31))))) (jt_n 4 (jt_l 3 (.inl (jo_c 4 (nI 1)))) (jt_l 4 (.inl (jo_b 5 (fun x y => x &&& y))))))) (jt_n 10 (jt_n 6 (jt_l 5 (.inl (jo_c 6 (nI 1)))) (jt_n 9 (jt_l 6 (.inl (jo_ic 9 13 (fun x y => decide (¬ x = y))))) (jt_l 9 (.inl (jo_c 10 (nI 1)))))) (jt_n 13 (jt_l 10 (.inl (jo_go 14))) (jt_n 14 (jt_l 13 (.inl (jo_c 14 (nI 0)))) (jt_l 14 (.inr (.inr 2)))))))
/-- TalkBenchModel.countOf(I)I -/
def jc_133 : Nat → Option jxI := (jt_n 12 (jt_n 4 (jt_n 2 (jt_n 1 (jt_l 0 (.inl (jo_c 1 (nI 0)))) (jt_l 1 (.inl (jo_is 2 3 1)))) (jt_n 3 (jt_l 2 (.inl (jo_c 3 (nI 0)))) (jt_l 3 (.inl (jo_is 4 3 2))))) (jt_n 7 (jt_n 5 (jt_l 4 (.inl (jo_il 5 2))) (jt_l 5 (.inl (jo_c 7 (nI 31))))) (jt_n 10 (jt_l 7 (.inl (jo_ic 10 24 (fun x y => decide (y ≤ x))))) (jt_n 11 (jt_l 10 (.inl (jo_il 11 1))) (jt_l 11 (.inl (jo_il 12 0))))))) (jt_n 17 (jt_n 14 (jt_n 13 (jt_l 12 (.inl (jo_il 13 2))) (jt_l 13 (.inl (jo_b 14 (fun x y => x >>> (y &&& 31)))))) (jt_n 15 (jt_l 14 (.inl (jo_c 15 (nI 1)))) (jt_n 16 (jt_l 15 (.inl (jo_b 16 (fun x y => x &&& y)))) (jt_l 16 (.inl (jo_b 17 (fun x y => x + y))))))) (jt_n 21 (jt_n 18 (jt_l 17 (.inl (jo_is 18 3 1))) (jt_l 18 (.inl (jo_inc 21 3 2 (nI 1))))) (jt_n 24 (jt_l 21 (.inl (jo_go 4))) (jt_n 25 (jt_l 24 (.inl (jo_il 25 1))) (jt_l 25 (.inr (.inr 1))))))))
/-- TalkBenchModel.save([II)V -/
def jc_134 : Nat → Option jxI := (jt_n 28 (jt_n 12 (jt_n 7 (jt_n 2 (jt_n 1 (jt_l 0 (.inl (jo_al 1 1))) (jt_l 1 (.inl (jo_il 2 2)))) (jt_n 3 (jt_l 2 (.inl (jo_al 3 0))) (jt_n 6 (jt_l 3 (.inl (jo_gf 6 12 0))) (jt_l 6 (.inl (jo_iw 7)))))) (jt_n 9 (jt_n 8 (jt_l 7 (.inl (jo_al 8 1))) (jt_l 8 (.inl (jo_il 9 2)))) (jt_n 10 (jt_l 9 (.inl (jo_c 10 (nI 1)))) (jt_n 11 (jt_l 10 (.inl (jo_b 11 (fun x y => x + y)))) (jt_l 11 (.inl (jo_al 12 0))))))) (jt_n 19 (jt_n 16 (jt_n 15 (jt_l 12 (.inl (jo_gf 15 12 1))) (jt_l 15 (.inl (jo_iw 16)))) (jt_n 17 (jt_l 16 (.inl (jo_c 17 (nI 0)))) (jt_n 18 (jt_l 17 (.inl (jo_is 18 4 3))) (jt_l 18 (.inl (jo_il 19 3)))))) (jt_n 25 (jt_n 21 (jt_l 19 (.inl (jo_c 21 (nI 25)))) (jt_n 24 (jt_l 21 (.inl (jo_ic 24 57 (fun x y => decide (y ≤ x))))) (jt_l 24 (.inl (jo_al 25 1))))) (jt_n 26 (jt_l 25 (.inl (jo_il 26 2))) (jt_n 27 (jt_l 26 (.inl (jo_c 27 (nI 2)))) (jt_l 27 (.inl (jo_b 28 (fun x y => x + y))))))))) (jt_n 41 (jt_n 35 (jt_n 30 (jt_n 29 (jt_l 28 (.inl (jo_il 29 3))) (jt_l 29 (.inl (jo_b 30 (fun x y => x + y))))) (jt_n 31 (jt_l 30 (.inl (jo_al 31 0))) (jt_n 34 (jt_l 31 (.inl (jo_gf 34 12 2))) (jt_l 34 (.inl (jo_il 35 3)))))) (jt_n 37 (jt_n 36 (jt_l 35 (.inl (jo_ia 36))) (jt_l 36 (.inl (jo_iw 37)))) (jt_n 38 (jt_l 37 (.inl (jo_al 38 1))) (jt_n 39 (jt_l 38 (.inl (jo_il 39 2))) (jt_l 39 (.inl (jo_c 41 (nI 27)))))))) (jt_n 48 (jt_n 43 (jt_n 42 (jt_l 41 (.inl (jo_b 42 (fun x y => x + y)))) (jt_l 42 (.inl (jo_il 43 3)))) (jt_n 44 (jt_l 43 (.inl (jo_b 44 (fun x y => x + y)))) (jt_n 45 (jt_l 44 (.inl (jo_al 45 0))) (jt_l 45 (.inl (jo_gf 48 12 3)))))) (jt_n 51 (jt_n 49 (jt_l 48 (.inl (jo_il 49 3))) (jt_n 50 (jt_l 49 (.inl (jo_ia 50))) (jt_l 50 (.inl (jo_iw 51))))) (jt_n 54 (jt_l 51 (.inl (jo_inc 54 4 3 (nI 1)))) (jt_n 57 (jt_l 54 (.inl (jo_go 18))) (jt_l 57 (.inr (.inr 0)))))))))
/-- TalkBenchModel.load([II)V -/
def jc_135 : Nat → Option jxI := (jt_n 31 (jt_n 13 (jt_n 7 (jt_n 2 (jt_n 1 (jt_l 0 (.inl (jo_al 1 0))) (jt_l 1 (.inl (jo_al 2 1)))) (jt_n 3 (jt_l 2 (.inl (jo_il 3 2))) (jt_n 4 (jt_l 3 (.inl (jo_ia 4))) (jt_l 4 (.inl (jo_pf 7 12 0 0)))))) (jt_n 10 (jt_n 8 (jt_l 7 (.inl (jo_al 8 0))) (jt_n 9 (jt_l 8 (.inl (jo_al 9 1))) (jt_l 9 (.inl (jo_il 10 2))))) (jt_n 11 (jt_l 10 (.inl (jo_c 11 (nI 1)))) (jt_n 12 (jt_l 11 (.inl (jo_b 12 (fun x y => x + y)))) (jt_l 12 (.inl (jo_ia 13))))))) (jt_n 21 (jt_n 17 (jt_n 16 (jt_l 13 (.inl (jo_pf 16 12 1 0))) (jt_l 16 (.inl (jo_c 17 (nI 0))))) (jt_n 18 (jt_l 17 (.inl (jo_is 18 4 3))) (jt_n 19 (jt_l 18 (.inl (jo_il 19 3))) (jt_l 19 (.inl (jo_c 21 (nI 25))))))) (jt_n 28 (jt_n 24 (jt_l 21 (.inl (jo_ic 24 57 (fun x y => decide (y ≤ x))))) (jt_n 25 (jt_l 24 (.inl (jo_al 25 0))) (jt_l 25 (.inl (jo_gf 28 12 2))))) (jt_n 29 (jt_l 28 (.inl (jo_il 29 3))) (jt_n 30 (jt_l 29 (.inl (jo_al 30 1))) (jt_l 30 (.inl (jo_il 31 2)))))))) (jt_n 44 (jt_n 36 (jt_n 33 (jt_n 32 (jt_l 31 (.inl (jo_c 32 (nI 2)))) (jt_l 32 (.inl (jo_b 33 (fun x y => x + y))))) (jt_n 34 (jt_l 33 (.inl (jo_il 34 3))) (jt_n 35 (jt_l 34 (.inl (jo_b 35 (fun x y => x + y)))) (jt_l 35 (.inl (jo_ia 36)))))) (jt_n 41 (jt_n 37 (jt_l 36 (.inl (jo_iw 37))) (jt_n 38 (jt_l 37 (.inl (jo_al 38 0))) (jt_l 38 (.inl (jo_gf 41 12 3))))) (jt_n 42 (jt_l 41 (.inl (jo_il 42 3))) (jt_n 43 (jt_l 42 (.inl (jo_al 43 1))) (jt_l 43 (.inl (jo_il 44 2))))))) (jt_n 51 (jt_n 48 (jt_n 46 (jt_l 44 (.inl (jo_c 46 (nI 27)))) (jt_n 47 (jt_l 46 (.inl (jo_b 47 (fun x y => x + y)))) (jt_l 47 (.inl (jo_il 48 3))))) (jt_n 49 (jt_l 48 (.inl (jo_b 49 (fun x y => x + y)))) (jt_n 50 (jt_l 49 (.inl (jo_ia 50))) (jt_l 50 (.inl (jo_iw 51)))))) (jt_n 58 (jt_n 54 (jt_l 51 (.inl (jo_inc 54 4 3 (nI 1)))) (jt_n 57 (jt_l 54 (.inl (jo_go 18))) (jt_l 57 (.inl (jo_al 58 0))))) (jt_n 59 (jt_l 58 (.inl (jo_c 59 (nI 0)))) (jt_n 62 (jt_l 59 (.inl (jo_pf 62 12 14 0))) (jt_l 62 (.inr (.inr 0)))))))))
/-- TalkBenchModel.keepTask()V -/
def jc_136 : Nat → Option jxI := (jt_n 39 (jt_n 19 (jt_n 10 (jt_n 4 (jt_n 1 (jt_l 0 (.inl (jo_al 1 0))) (jt_l 1 (.inl (jo_gf 4 12 4)))) (jt_n 6 (jt_l 4 (.inl (jo_c 6 (nI 30)))) (jt_n 9 (jt_l 6 (.inl (jo_ic 9 49 (fun x y => decide (¬ x = y))))) (jt_l 9 (.inl (jo_c 10 (nI 0))))))) (jt_n 12 (jt_n 11 (jt_l 10 (.inl (jo_is 11 2 1))) (jt_l 11 (.inl (jo_il 12 1)))) (jt_n 15 (jt_l 12 (.inl (jo_c 15 (nI 1508)))) (jt_n 18 (jt_l 15 (.inl (jo_ic 18 39 (fun x y => decide (y ≤ x))))) (jt_l 18 (.inl (jo_al 19 0))))))) (jt_n 28 (jt_n 23 (jt_n 22 (jt_l 19 (.inl (jo_gf 22 12 5))) (jt_l 22 (.inl (jo_il 23 1)))) (jt_n 24 (jt_l 23 (.inl (jo_al 24 0))) (jt_n 27 (jt_l 24 (.inl (jo_gf 27 12 5))) (jt_l 27 (.inl (jo_il 28 1)))))) (jt_n 32 (jt_n 30 (jt_l 28 (.inl (jo_c 30 (nI 52)))) (jt_n 31 (jt_l 30 (.inl (jo_b 31 (fun x y => x + y)))) (jt_l 31 (.inl (jo_ia 32))))) (jt_n 33 (jt_l 32 (.inl (jo_iw 33))) (jt_n 36 (jt_l 33 (.inl (jo_inc 36 2 1 (nI 1)))) (jt_l 36 (.inl (jo_go 11)))))))) (jt_n 56 (jt_n 46 (jt_n 41 (jt_n 40 (jt_l 39 (.inl (jo_al 40 0))) (jt_l 40 (.inl (jo_d 41)))) (jt_n 44 (jt_l 41 (.inl (jo_gf 44 12 4))) (jt_n 45 (jt_l 44 (.inl (jo_c 45 (nI 1)))) (jt_l 45 (.inl (jo_b 46 (fun x y => x - y))))))) (jt_n 50 (jt_n 49 (jt_l 46 (.inl (jo_pf 49 12 4 0))) (jt_l 49 (.inl (jo_al 50 0)))) (jt_n 51 (jt_l 50 (.inl (jo_al 51 0))) (jt_n 54 (jt_l 51 (.inl (jo_gf 54 12 5))) (jt_l 54 (.inl (jo_c 56 (nI 52)))))))) (jt_n 65 (jt_n 60 (jt_n 57 (jt_l 56 (.inl (jo_al 57 0))) (jt_l 57 (.inl (jo_gf 60 12 4)))) (jt_n 61 (jt_l 60 (.inl (jo_b 61 (fun x y => x * y)))) (jt_n 64 (jt_l 61 (.inr (.inl (134, 3, 64, some 12)))) (jt_l 64 (.inl (jo_al 65 0)))))) (jt_n 70 (jt_n 66 (jt_l 65 (.inl (jo_d 66))) (jt_n 69 (jt_l 66 (.inl (jo_gf 69 12 4))) (jt_l 69 (.inl (jo_c 70 (nI 1)))))) (jt_n 71 (jt_l 70 (.inl (jo_b 71 (fun x y => x + y)))) (jt_n 74 (jt_l 71 (.inl (jo_pf 74 12 4 0))) (jt_l 74 (.inr (.inr 0)))))))))
/-- TalkBenchModel.undo()I -/
def jc_137 : Nat → Option jxI := (jt_n 21 (jt_n 13 (jt_n 7 (jt_n 1 (jt_l 0 (.inl (jo_al 1 0))) (jt_n 4 (jt_l 1 (.inl (jo_gf 4 12 4))) (jt_l 4 (.inl (jo_if 7 14 (fun x => decide (¬ x = 0))))))) (jt_n 8 (jt_l 7 (.inl (jo_al 8 0))) (jt_n 10 (jt_l 8 (.inl (jo_c 10 (-6)))) (jt_l 10 (.inr (.inl (130, 2, 13, some 12))))))) (jt_n 16 (jt_n 14 (jt_l 13 (.inr (.inr 1))) (jt_n 15 (jt_l 14 (.inl (jo_al 15 0))) (jt_l 15 (.inl (jo_d 16))))) (jt_n 19 (jt_l 16 (.inl (jo_gf 19 12 4))) (jt_n 20 (jt_l 19 (.inl (jo_c 20 (nI 1)))) (jt_l 20 (.inl (jo_b 21 (fun x y => x - y)))))))) (jt_n 32 (jt_n 26 (jt_n 24 (jt_l 21 (.inl (jo_pf 24 12 4 0))) (jt_n 25 (jt_l 24 (.inl (jo_al 25 0))) (jt_l 25 (.inl (jo_al 26 0))))) (jt_n 29 (jt_l 26 (.inl (jo_gf 29 12 5))) (jt_n 31 (jt_l 29 (.inl (jo_c 31 (nI 52)))) (jt_l 31 (.inl (jo_al 32 0)))))) (jt_n 39 (jt_n 35 (jt_l 32 (.inl (jo_gf 35 12 4))) (jt_n 36 (jt_l 35 (.inl (jo_b 36 (fun x y => x * y)))) (jt_l 36 (.inr (.inl (135, 3, 39, some 12)))))) (jt_n 40 (jt_l 39 (.inl (jo_al 40 0))) (jt_n 43 (jt_l 40 (.inl (jo_gf 43 12 4))) (jt_l 43 (.inr (.inr 1))))))))
/-- TalkBenchModel.ones(I)I -/
def jc_138 : Nat → Option jxI := (jt_n 30 (jt_n 13 (jt_n 4 (jt_n 2 (jt_n 1 (jt_l 0 (.inl (jo_c 1 (nI 0)))) (jt_l 1 (.inl (jo_is 2 5 2)))) (jt_n 3 (jt_l 2 (.inl (jo_c 3 (nI 0)))) (jt_l 3 (.inl (jo_is 4 5 3))))) (jt_n 6 (jt_n 5 (jt_l 4 (.inl (jo_il 5 3))) (jt_l 5 (.inl (jo_al 6 0)))) (jt_n 9 (jt_l 6 (.inl (jo_gf 9 12 0))) (jt_n 12 (jt_l 9 (.inl (jo_ic 12 59 (fun x y => decide (y ≤ x))))) (jt_l 12 (.inl (jo_c 13 (nI 0)))))))) (jt_n 21 (jt_n 17 (jt_n 15 (jt_l 13 (.inl (jo_is 15 5 4))) (jt_l 15 (.inl (jo_il 17 4)))) (jt_n 18 (jt_l 17 (.inl (jo_al 18 0))) (jt_l 18 (.inl (jo_gf 21 12 1))))) (jt_n 25 (jt_n 24 (jt_l 21 (.inl (jo_ic 24 53 (fun x y => decide (y ≤ x))))) (jt_l 24 (.inl (jo_il 25 2)))) (jt_n 26 (jt_l 25 (.inl (jo_al 26 0))) (jt_n 29 (jt_l 26 (.inl (jo_gf 29 12 2))) (jt_l 29 (.inl (jo_c 30 (nI 5))))))))) (jt_n 44 (jt_n 35 (jt_n 32 (jt_n 31 (jt_l 30 (.inl (jo_il 31 3))) (jt_l 31 (.inl (jo_b 32 (fun x y => x * y))))) (jt_n 34 (jt_l 32 (.inl (jo_il 34 4))) (jt_l 34 (.inl (jo_b 35 (fun x y => x + y)))))) (jt_n 37 (jt_n 36 (jt_l 35 (.inl (jo_ia 36))) (jt_l 36 (.inl (jo_il 37 1)))) (jt_n 40 (jt_l 37 (.inl (jo_ic 40 44 (fun x y => decide (¬ x = y))))) (jt_n 41 (jt_l 40 (.inl (jo_c 41 (nI 1)))) (jt_l 41 (.inl (jo_go 45))))))) (jt_n 50 (jt_n 46 (jt_n 45 (jt_l 44 (.inl (jo_c 45 (nI 0)))) (jt_l 45 (.inl (jo_b 46 (fun x y => x + y))))) (jt_n 47 (jt_l 46 (.inl (jo_is 47 5 2))) (jt_l 47 (.inl (jo_inc 50 5 4 (nI 1)))))) (jt_n 56 (jt_n 53 (jt_l 50 (.inl (jo_go 15))) (jt_l 53 (.inl (jo_inc 56 5 3 (nI 1))))) (jt_n 59 (jt_l 56 (.inl (jo_go 4))) (jt_n 60 (jt_l 59 (.inl (jo_il 60 2))) (jt_l 60 (.inr (.inr 1)))))))))
/-- TalkBenchModel.table(II)I -/
def jc_139 : Nat → Option jxI := (jt_n 42 (jt_n 21 (jt_n 10 (jt_n 5 (jt_n 1 (jt_l 0 (.inl (jo_il 1 1))) (jt_n 2 (jt_l 1 (.inl (jo_c 2 (nI 1)))) (jt_l 2 (.inl (jo_ic 5 20 (fun x y => decide (x < y))))))) (jt_n 6 (jt_l 5 (.inl (jo_il 6 1))) (jt_n 7 (jt_l 6 (.inl (jo_c 7 (nI 5)))) (jt_l 7 (.inl (jo_ic 10 20 (fun x y => decide (y < x)))))))) (jt_n 15 (jt_n 11 (jt_l 10 (.inl (jo_il 11 2))) (jt_n 12 (jt_l 11 (.inl (jo_c 12 (nI 1)))) (jt_l 12 (.inl (jo_ic 15 20 (fun x y => decide (x < y))))))) (jt_n 17 (jt_n 16 (jt_l 15 (.inl (jo_il 16 2))) (jt_l 16 (.inl (jo_c 17 (nI 5))))) (jt_n 20 (jt_l 17 (.inl (jo_ic 20 26 (fun x y => decide (x ≤ y))))) (jt_l 20 (.inl (jo_al 21 0))))))) (jt_n 31 (jt_n 26 (jt_n 22 (jt_l 21 (.inl (jo_c 22 (-1)))) (jt_n 25 (jt_l 22 (.inr (.inl (130, 2, 25, some 12)))) (jt_l 25 (.inr (.inr 1))))) (jt_n 27 (jt_l 26 (.inl (jo_al 27 0))) (jt_n 30 (jt_l 27 (.inr (.inl (136, 1, 30, some 12)))) (jt_l 30 (.inl (jo_al 31 0)))))) (jt_n 38 (jt_n 34 (jt_l 31 (.inl (jo_gf 34 12 0))) (jt_n 35 (jt_l 34 (.inl (jo_al 35 0))) (jt_l 35 (.inl (jo_gf 38 12 1))))) (jt_n 40 (jt_n 39 (jt_l 38 (.inl (jo_b 39 (fun x y => x * y)))) (jt_l 39 (.inl (jo_is 40 5 3)))) (jt_n 41 (jt_l 40 (.inl (jo_al 41 0))) (jt_l 41 (.inl (jo_il 42 1)))))))) (jt_n 67 (jt_n 53 (jt_n 47 (jt_n 45 (jt_l 42 (.inl (jo_pf 45 12 0 0))) (jt_n 46 (jt_l 45 (.inl (jo_al 46 0))) (jt_l 46 (.inl (jo_il 47 2))))) (jt_n 50 (jt_l 47 (.inl (jo_pf 50 12 1 0))) (jt_n 51 (jt_l 50 (.inl (jo_c 51 (nI 0)))) (jt_l 51 (.inl (jo_is 53 5 4)))))) (jt_n 60 (jt_n 55 (jt_l 53 (.inl (jo_il 55 4))) (jt_n 57 (jt_l 55 (.inl (jo_c 57 (nI 25)))) (jt_l 57 (.inl (jo_ic 60 82 (fun x y => decide (y ≤ x))))))) (jt_n 64 (jt_n 61 (jt_l 60 (.inl (jo_al 61 0))) (jt_l 61 (.inl (jo_gf 64 12 2)))) (jt_n 66 (jt_l 64 (.inl (jo_il 66 4))) (jt_l 66 (.inl (jo_c 67 (nI 0)))))))) (jt_n 76 (jt_n 72 (jt_n 68 (jt_l 67 (.inl (jo_iw 68))) (jt_n 69 (jt_l 68 (.inl (jo_al 69 0))) (jt_l 69 (.inl (jo_gf 72 12 3))))) (jt_n 74 (jt_l 72 (.inl (jo_il 74 4))) (jt_n 75 (jt_l 74 (.inl (jo_c 75 (nI 1)))) (jt_l 75 (.inl (jo_iw 76)))))) (jt_n 83 (jt_n 79 (jt_l 76 (.inl (jo_inc 79 5 4 (nI 1)))) (jt_n 82 (jt_l 79 (.inl (jo_go 53))) (jt_l 82 (.inl (jo_al 83 0))))) (jt_n 87 (jt_n 84 (jt_l 83 (.inl (jo_c 84 (nI 0)))) (jt_l 84 (.inl (jo_pf 87 12 14 0)))) (jt_n 88 (jt_l 87 (.inl (jo_il 88 3))) (jt_l 88 (.inr (.inr 1)))))))))
/-- TalkBenchModel.put(III)I -/
def jc_140 : Nat → Option jxI := (jt_n 33 (jt_n 15 (jt_n 6 (jt_n 2 (jt_n 1 (jt_l 0 (.inl (jo_al 1 0))) (jt_l 1 (.inl (jo_il 2 1)))) (jt_n 3 (jt_l 2 (.inl (jo_il 3 2))) (jt_l 3 (.inr (.inl (131, 3, 6, some 12)))))) (jt_n 10 (jt_n 9 (jt_l 6 (.inl (jo_if 9 18 (fun x => decide (x = 0))))) (jt_l 9 (.inl (jo_il 10 3)))) (jt_n 13 (jt_l 10 (.inl (jo_if 13 18 (fun x => decide (x < 0))))) (jt_n 14 (jt_l 13 (.inl (jo_il 14 3))) (jt_l 14 (.inl (jo_c 15 (nI 2)))))))) (jt_n 24 (jt_n 19 (jt_n 18 (jt_l 15 (.inl (jo_ic 18 24 (fun x y => decide (x ≤ y))))) (jt_l 18 (.inl (jo_al 19 0)))) (jt_n 20 (jt_l 19 (.inl (jo_c 20 (-1)))) (jt_n 23 (jt_l 20 (.inr (.inl (130, 2, 23, some 12)))) (jt_l 23 (.inr (.inr 1)))))) (jt_n 28 (jt_n 25 (jt_l 24 (.inl (jo_al 25 0))) (jt_l 25 (.inr (.inl (136, 1, 28, some 12))))) (jt_n 29 (jt_l 28 (.inl (jo_al 29 0))) (jt_n 32 (jt_l 29 (.inl (jo_gf 32 12 2))) (jt_l 32 (.inl (jo_c 33 (nI 5))))))))) (jt_n 46 (jt_n 38 (jt_n 35 (jt_n 34 (jt_l 33 (.inl (jo_il 34 1))) (jt_l 34 (.inl (jo_b 35 (fun x y => x * y))))) (jt_n 36 (jt_l 35 (.inl (jo_il 36 2))) (jt_n 37 (jt_l 36 (.inl (jo_b 37 (fun x y => x + y)))) (jt_l 37 (.inl (jo_ia 38)))))) (jt_n 41 (jt_n 40 (jt_l 38 (.inl (jo_is 40 5 4))) (jt_l 40 (.inl (jo_al 41 0)))) (jt_n 44 (jt_l 41 (.inl (jo_gf 44 12 2))) (jt_n 45 (jt_l 44 (.inl (jo_c 45 (nI 5)))) (jt_l 45 (.inl (jo_il 46 1))))))) (jt_n 51 (jt_n 48 (jt_n 47 (jt_l 46 (.inl (jo_b 47 (fun x y => x * y)))) (jt_l 47 (.inl (jo_il 48 2)))) (jt_n 49 (jt_l 48 (.inl (jo_b 49 (fun x y => x + y)))) (jt_n 50 (jt_l 49 (.inl (jo_il 50 3))) (jt_l 50 (.inl (jo_iw 51)))))) (jt_n 53 (jt_n 52 (jt_l 51 (.inl (jo_al 52 0))) (jt_l 52 (.inl (jo_c 53 (nI 0))))) (jt_n 56 (jt_l 53 (.inl (jo_pf 56 12 14 0))) (jt_n 58 (jt_l 56 (.inl (jo_il 58 4))) (jt_l 58 (.inr (.inr 1)))))))))
/-- TalkBenchModel.place(II)I -/
def jc_141 : Nat → Option jxI := (jt_n 15 (jt_n 6 (jt_n 2 (jt_n 1 (jt_l 0 (.inl (jo_al 1 0))) (jt_l 1 (.inl (jo_il 2 1)))) (jt_n 3 (jt_l 2 (.inl (jo_il 3 2))) (jt_l 3 (.inr (.inl (131, 3, 6, some 12)))))) (jt_n 10 (jt_n 9 (jt_l 6 (.inl (jo_if 9 22 (fun x => decide (x = 0))))) (jt_l 9 (.inl (jo_al 10 0)))) (jt_n 13 (jt_l 10 (.inl (jo_gf 13 12 2))) (jt_n 14 (jt_l 13 (.inl (jo_c 14 (nI 5)))) (jt_l 14 (.inl (jo_il 15 1))))))) (jt_n 19 (jt_n 17 (jt_n 16 (jt_l 15 (.inl (jo_b 16 (fun x y => x * y)))) (jt_l 16 (.inl (jo_il 17 2)))) (jt_n 18 (jt_l 17 (.inl (jo_b 18 (fun x y => x + y)))) (jt_l 18 (.inl (jo_ia 19))))) (jt_n 23 (jt_n 22 (jt_l 19 (.inl (jo_go 27))) (jt_l 22 (.inl (jo_al 23 0)))) (jt_n 24 (jt_l 23 (.inl (jo_c 24 (-1)))) (jt_n 27 (jt_l 24 (.inr (.inl (130, 2, 27, some 12)))) (jt_l 27 (.inr (.inr 1))))))))
/-- TalkBenchModel.weigh(III)I -/
def jc_142 : Nat → Option jxI := (jt_n 33 (jt_n 16 (jt_n 6 (jt_n 2 (jt_n 1 (jt_l 0 (.inl (jo_al 1 0))) (jt_l 1 (.inl (jo_il 2 1)))) (jt_n 3 (jt_l 2 (.inl (jo_il 3 2))) (jt_l 3 (.inr (.inl (131, 3, 6, some 12)))))) (jt_n 10 (jt_n 9 (jt_l 6 (.inl (jo_if 9 19 (fun x => decide (x = 0))))) (jt_l 9 (.inl (jo_il 10 3)))) (jt_n 13 (jt_l 10 (.inl (jo_if 13 19 (fun x => decide (x < 0))))) (jt_n 14 (jt_l 13 (.inl (jo_il 14 3))) (jt_l 14 (.inl (jo_c 16 (nI 9)))))))) (jt_n 24 (jt_n 20 (jt_n 19 (jt_l 16 (.inl (jo_ic 19 25 (fun x y => decide (x ≤ y))))) (jt_l 19 (.inl (jo_al 20 0)))) (jt_n 21 (jt_l 20 (.inl (jo_c 21 (-1)))) (jt_l 21 (.inr (.inl (130, 2, 24, some 12)))))) (jt_n 26 (jt_n 25 (jt_l 24 (.inr (.inr 1))) (jt_l 25 (.inl (jo_al 26 0)))) (jt_n 29 (jt_l 26 (.inr (.inl (136, 1, 29, some 12)))) (jt_n 30 (jt_l 29 (.inl (jo_al 30 0))) (jt_l 30 (.inl (jo_gf 33 12 3)))))))) (jt_n 45 (jt_n 37 (jt_n 35 (jt_n 34 (jt_l 33 (.inl (jo_c 34 (nI 5)))) (jt_l 34 (.inl (jo_il 35 1)))) (jt_n 36 (jt_l 35 (.inl (jo_b 36 (fun x y => x * y)))) (jt_l 36 (.inl (jo_il 37 2))))) (jt_n 39 (jt_n 38 (jt_l 37 (.inl (jo_b 38 (fun x y => x + y)))) (jt_l 38 (.inl (jo_ia 39)))) (jt_n 41 (jt_l 39 (.inl (jo_is 41 5 4))) (jt_n 42 (jt_l 41 (.inl (jo_al 42 0))) (jt_l 42 (.inl (jo_gf 45 12 3))))))) (jt_n 49 (jt_n 47 (jt_n 46 (jt_l 45 (.inl (jo_c 46 (nI 5)))) (jt_l 46 (.inl (jo_il 47 1)))) (jt_n 48 (jt_l 47 (.inl (jo_b 48 (fun x y => x * y)))) (jt_l 48 (.inl (jo_il 49 2))))) (jt_n 51 (jt_n 50 (jt_l 49 (.inl (jo_b 50 (fun x y => x + y)))) (jt_l 50 (.inl (jo_il 51 3)))) (jt_n 52 (jt_l 51 (.inl (jo_iw 52))) (jt_n 54 (jt_l 52 (.inl (jo_il 54 4))) (jt_l 54 (.inr (.inr 1)))))))))
/-- TalkBenchModel.rule(I)I -/
def jc_143 : Nat → Option jxI := (jt_n 98 (jt_n 47 (jt_n 22 (jt_n 11 (jt_n 5 (jt_n 1 (jt_l 0 (.inl (jo_il 1 1))) (jt_n 4 (jt_l 1 (.inl (jo_if 4 9 (fun x => decide (x < 0))))) (jt_l 4 (.inl (jo_il 5 1))))) (jt_n 9 (jt_n 6 (jt_l 5 (.inl (jo_c 6 (nI 4)))) (jt_l 6 (.inl (jo_ic 9 15 (fun x y => decide (x ≤ y)))))) (jt_n 10 (jt_l 9 (.inl (jo_al 10 0))) (jt_l 10 (.inl (jo_c 11 (-1))))))) (jt_n 16 (jt_n 14 (jt_l 11 (.inr (.inl (130, 2, 14, some 12)))) (jt_n 15 (jt_l 14 (.inr (.inr 1))) (jt_l 15 (.inl (jo_al 16 0))))) (jt_n 20 (jt_n 19 (jt_l 16 (.inr (.inl (136, 1, 19, some 12)))) (jt_l 19 (.inl (jo_c 20 (nI 0))))) (jt_n 21 (jt_l 20 (.inl (jo_is 21 6 2))) (jt_l 21 (.inl (jo_il 22 2))))))) (jt_n 33 (jt_n 29 (jt_n 23 (jt_l 22 (.inl (jo_al 23 0))) (jt_n 26 (jt_l 23 (.inl (jo_gf 26 12 0))) (jt_l 26 (.inl (jo_ic 29 194 (fun x y => decide (y ≤ x))))))) (jt_n 31 (jt_n 30 (jt_l 29 (.inl (jo_c 30 (nI 0)))) (jt_l 30 (.inl (jo_is 31 6 3)))) (jt_n 32 (jt_l 31 (.inl (jo_il 32 3))) (jt_l 32 (.inl (jo_al 33 0)))))) (jt_n 41 (jt_n 39 (jt_n 36 (jt_l 33 (.inl (jo_gf 36 12 1))) (jt_l 36 (.inl (jo_ic 39 188 (fun x y => decide (y ≤ x)))))) (jt_n 40 (jt_l 39 (.inl (jo_il 40 2))) (jt_l 40 (.inl (jo_il 41 3))))) (jt_n 45 (jt_n 44 (jt_l 41 (.inl (jo_ic 44 50 (fun x y => decide (y ≤ x))))) (jt_l 44 (.inl (jo_il 45 3)))) (jt_n 46 (jt_l 45 (.inl (jo_il 46 2))) (jt_l 46 (.inl (jo_b 47 (fun x y => x - y))))))))) (jt_n 73 (jt_n 59 (jt_n 52 (jt_n 50 (jt_l 47 (.inl (jo_go 53))) (jt_n 51 (jt_l 50 (.inl (jo_il 51 2))) (jt_l 51 (.inl (jo_il 52 3))))) (jt_n 55 (jt_n 53 (jt_l 52 (.inl (jo_b 53 (fun x y => x - y)))) (jt_l 53 (.inl (jo_is 55 6 4)))) (jt_n 56 (jt_l 55 (.inl (jo_il 56 1))) (jt_l 56 (.inl (jo_if 59 72 (fun x => decide (¬ x = 0)))))))) (jt_n 65 (jt_n 61 (jt_n 60 (jt_l 59 (.inl (jo_il 60 2))) (jt_l 60 (.inl (jo_il 61 3)))) (jt_n 64 (jt_l 61 (.inl (jo_ic 64 68 (fun x y => decide (¬ x = y))))) (jt_l 64 (.inl (jo_c 65 (nI 1)))))) (jt_n 69 (jt_n 68 (jt_l 65 (.inl (jo_go 145))) (jt_l 68 (.inl (jo_c 69 (nI 0))))) (jt_n 72 (jt_l 69 (.inl (jo_go 145))) (jt_l 72 (.inl (jo_il 73 1))))))) (jt_n 86 (jt_n 78 (jt_n 74 (jt_l 73 (.inl (jo_c 74 (nI 1)))) (jt_n 77 (jt_l 74 (.inl (jo_ic 77 90 (fun x y => decide (¬ x = y))))) (jt_l 77 (.inl (jo_il 78 2))))) (jt_n 82 (jt_n 79 (jt_l 78 (.inl (jo_il 79 3))) (jt_l 79 (.inl (jo_ic 82 86 (fun x y => decide (y ≤ x)))))) (jt_n 83 (jt_l 82 (.inl (jo_c 83 (nI 1)))) (jt_l 83 (.inl (jo_go 145)))))) (jt_n 92 (jt_n 90 (jt_n 87 (jt_l 86 (.inl (jo_c 87 (nI 0)))) (jt_l 87 (.inl (jo_go 145)))) (jt_n 91 (jt_l 90 (.inl (jo_il 91 1))) (jt_l 91 (.inl (jo_c 92 (nI 2)))))) (jt_n 96 (jt_n 95 (jt_l 92 (.inl (jo_ic 95 109 (fun x y => decide (¬ x = y))))) (jt_l 95 (.inl (jo_il 96 2)))) (jt_n 97 (jt_l 96 (.inl (jo_il 97 3))) (jt_l 97 (.inl (jo_b 98 (fun x y => x &&& y)))))))))) (jt_n 151 (jt_n 122 (jt_n 111 (jt_n 105 (jt_n 101 (jt_l 98 (.inl (jo_if 101 105 (fun x => decide (¬ x = 0))))) (jt_n 102 (jt_l 101 (.inl (jo_c 102 (nI 1)))) (jt_l 102 (.inl (jo_go 145))))) (jt_n 109 (jt_n 106 (jt_l 105 (.inl (jo_c 106 (nI 0)))) (jt_l 106 (.inl (jo_go 145)))) (jt_n 110 (jt_l 109 (.inl (jo_il 110 1))) (jt_l 110 (.inl (jo_c 111 (nI 3))))))) (jt_n 116 (jt_n 114 (jt_l 111 (.inl (jo_ic 114 134 (fun x y => decide (¬ x = y))))) (jt_n 115 (jt_l 114 (.inl (jo_il 115 2))) (jt_l 115 (.inl (jo_il 116 3))))) (jt_n 120 (jt_n 117 (jt_l 116 (.inl (jo_b 117 (fun x y => x &&& y)))) (jt_l 117 (.inr (.inl (133, 1, 120, none))))) (jt_n 121 (jt_l 120 (.inl (jo_c 121 (nI 2)))) (jt_l 121 (.inl (jo_q 122 (fun x y => x - x / y * y)))))))) (jt_n 136 (jt_n 127 (jt_n 123 (jt_l 122 (.inl (jo_c 123 (nI 1)))) (jt_n 126 (jt_l 123 (.inl (jo_ic 126 130 (fun x y => decide (¬ x = y))))) (jt_l 126 (.inl (jo_c 127 (nI 1)))))) (jt_n 131 (jt_n 130 (jt_l 127 (.inl (jo_go 145))) (jt_l 130 (.inl (jo_c 131 (nI 0))))) (jt_n 134 (jt_l 131 (.inl (jo_go 145))) (jt_l 134 (.inl (jo_il 136 4)))))) (jt_n 144 (jt_n 140 (jt_n 137 (jt_l 136 (.inl (jo_c 137 (nI 1)))) (jt_l 137 (.inl (jo_ic 140 144 (fun x y => decide (y < x)))))) (jt_n 141 (jt_l 140 (.inl (jo_c 141 (nI 1)))) (jt_l 141 (.inl (jo_go 145))))) (jt_n 147 (jt_n 145 (jt_l 144 (.inl (jo_c 145 (nI 0)))) (jt_l 145 (.inl (jo_is 147 6 5)))) (jt_n 148 (jt_l 147 (.inl (jo_al 148 0))) (jt_l 148 (.inl (jo_gf 151 12 2)))))))) (jt_n 176 (jt_n 161 (jt_n 154 (jt_n 152 (jt_l 151 (.inl (jo_c 152 (nI 5)))) (jt_n 153 (jt_l 152 (.inl (jo_il 153 2))) (jt_l 153 (.inl (jo_b 154 (fun x y => x * y)))))) (jt_n 156 (jt_n 155 (jt_l 154 (.inl (jo_il 155 3))) (jt_l 155 (.inl (jo_b 156 (fun x y => x + y))))) (jt_n 158 (jt_l 156 (.inl (jo_il 158 5))) (jt_l 158 (.inl (jo_if 161 165 (fun x => decide (x = 0)))))))) (jt_n 167 (jt_n 165 (jt_n 162 (jt_l 161 (.inl (jo_c 162 (nI 1)))) (jt_l 162 (.inl (jo_go 181)))) (jt_n 166 (jt_l 165 (.inl (jo_il 166 1))) (jt_l 166 (.inl (jo_c 167 (nI 4)))))) (jt_n 172 (jt_n 170 (jt_l 167 (.inl (jo_ic 170 180 (fun x y => decide (¬ x = y))))) (jt_l 170 (.inl (jo_il 172 4)))) (jt_n 173 (jt_l 172 (.inl (jo_c 173 (nI 2)))) (jt_l 173 (.inl (jo_ic 176 180 (fun x y => decide (¬ x = y))))))))) (jt_n 191 (jt_n 181 (jt_n 177 (jt_l 176 (.inl (jo_c 177 (nI 2)))) (jt_n 180 (jt_l 177 (.inl (jo_go 181))) (jt_l 180 (.inl (jo_c 181 (nI 0)))))) (jt_n 185 (jt_n 182 (jt_l 181 (.inl (jo_iw 182))) (jt_l 182 (.inl (jo_inc 185 6 3 (nI 1))))) (jt_n 188 (jt_l 185 (.inl (jo_go 31))) (jt_l 188 (.inl (jo_inc 191 6 2 (nI 1))))))) (jt_n 199 (jt_n 195 (jt_n 194 (jt_l 191 (.inl (jo_go 21))) (jt_l 194 (.inl (jo_al 195 0)))) (jt_n 196 (jt_l 195 (.inl (jo_c 196 (nI 0)))) (jt_l 196 (.inl (jo_pf 199 12 14 0))))) (jt_n 201 (jt_n 200 (jt_l 199 (.inl (jo_al 200 0))) (jt_l 200 (.inl (jo_c 201 (nI 1))))) (jt_n 204 (jt_l 201 (.inr (.inl (138, 2, 204, some 12)))) (jt_l 204 (.inr (.inr 1))))))))))
/-- TalkBenchModel.turn()I -/
def jc_144 : Nat → Option jxI := (jt_n 66 (jt_n 35 (jt_n 18 (jt_n 8 (jt_n 5 (jt_n 1 (jt_l 0 (.inl (jo_al 1 0))) (jt_n 4 (jt_l 1 (.inr (.inl (136, 1, 4, some 12)))) (jt_l 4 (.inl (jo_c 5 (nI 0)))))) (jt_n 6 (jt_l 5 (.inl (jo_is 6 4 1))) (jt_n 7 (jt_l 6 (.inl (jo_il 7 1))) (jt_l 7 (.inl (jo_c 8 (nI 5))))))) (jt_n 13 (jt_n 11 (jt_l 8 (.inl (jo_ic 11 114 (fun x y => decide (y ≤ x))))) (jt_n 12 (jt_l 11 (.inl (jo_c 12 (nI 0)))) (jt_l 12 (.inl (jo_is 13 4 2))))) (jt_n 14 (jt_l 13 (.inl (jo_il 14 2))) (jt_n 15 (jt_l 14 (.inl (jo_il 15 1))) (jt_l 15 (.inl (jo_ic 18 108 (fun x y => decide (y ≤ x))))))))) (jt_n 26 (jt_n 23 (jt_n 19 (jt_l 18 (.inl (jo_al 19 0))) (jt_n 22 (jt_l 19 (.inl (jo_gf 22 12 2))) (jt_l 22 (.inl (jo_c 23 (nI 5)))))) (jt_n 24 (jt_l 23 (.inl (jo_il 24 1))) (jt_n 25 (jt_l 24 (.inl (jo_b 25 (fun x y => x * y)))) (jt_l 25 (.inl (jo_il 26 2)))))) (jt_n 29 (jt_n 27 (jt_l 26 (.inl (jo_b 27 (fun x y => x + y)))) (jt_n 28 (jt_l 27 (.inl (jo_ia 28))) (jt_l 28 (.inl (jo_is 29 4 3))))) (jt_n 33 (jt_n 30 (jt_l 29 (.inl (jo_al 30 0))) (jt_l 30 (.inl (jo_gf 33 12 2)))) (jt_n 34 (jt_l 33 (.inl (jo_c 34 (nI 5)))) (jt_l 34 (.inl (jo_il 35 1)))))))) (jt_n 49 (jt_n 43 (jt_n 38 (jt_n 36 (jt_l 35 (.inl (jo_b 36 (fun x y => x * y)))) (jt_n 37 (jt_l 36 (.inl (jo_il 37 2))) (jt_l 37 (.inl (jo_b 38 (fun x y => x + y)))))) (jt_n 39 (jt_l 38 (.inl (jo_al 39 0))) (jt_n 42 (jt_l 39 (.inl (jo_gf 42 12 2))) (jt_l 42 (.inl (jo_c 43 (nI 5))))))) (jt_n 46 (jt_n 44 (jt_l 43 (.inl (jo_il 44 2))) (jt_n 45 (jt_l 44 (.inl (jo_b 45 (fun x y => x * y)))) (jt_l 45 (.inl (jo_il 46 1))))) (jt_n 47 (jt_l 46 (.inl (jo_b 47 (fun x y => x + y)))) (jt_n 48 (jt_l 47 (.inl (jo_ia 48))) (jt_l 48 (.inl (jo_iw 49))))))) (jt_n 57 (jt_n 54 (jt_n 50 (jt_l 49 (.inl (jo_al 50 0))) (jt_n 53 (jt_l 50 (.inl (jo_gf 53 12 2))) (jt_l 53 (.inl (jo_c 54 (nI 5)))))) (jt_n 55 (jt_l 54 (.inl (jo_il 55 2))) (jt_n 56 (jt_l 55 (.inl (jo_b 56 (fun x y => x * y)))) (jt_l 56 (.inl (jo_il 57 1)))))) (jt_n 60 (jt_n 58 (jt_l 57 (.inl (jo_b 58 (fun x y => x + y)))) (jt_n 59 (jt_l 58 (.inl (jo_il 59 3))) (jt_l 59 (.inl (jo_iw 60))))) (jt_n 64 (jt_n 61 (jt_l 60 (.inl (jo_al 61 0))) (jt_l 61 (.inl (jo_gf 64 12 3)))) (jt_n 65 (jt_l 64 (.inl (jo_c 65 (nI 5)))) (jt_l 65 (.inl (jo_il 66 1))))))))) (jt_n 97 (jt_n 80 (jt_n 72 (jt_n 69 (jt_n 67 (jt_l 66 (.inl (jo_b 67 (fun x y => x * y)))) (jt_n 68 (jt_l 67 (.inl (jo_il 68 2))) (jt_l 68 (.inl (jo_b 69 (fun x y => x + y)))))) (jt_n 70 (jt_l 69 (.inl (jo_ia 70))) (jt_n 71 (jt_l 70 (.inl (jo_is 71 4 3))) (jt_l 71 (.inl (jo_al 72 0)))))) (jt_n 77 (jt_n 75 (jt_l 72 (.inl (jo_gf 75 12 3))) (jt_n 76 (jt_l 75 (.inl (jo_c 76 (nI 5)))) (jt_l 76 (.inl (jo_il 77 1))))) (jt_n 78 (jt_l 77 (.inl (jo_b 78 (fun x y => x * y)))) (jt_n 79 (jt_l 78 (.inl (jo_il 79 2))) (jt_l 79 (.inl (jo_b 80 (fun x y => x + y)))))))) (jt_n 88 (jt_n 85 (jt_n 81 (jt_l 80 (.inl (jo_al 81 0))) (jt_n 84 (jt_l 81 (.inl (jo_gf 84 12 3))) (jt_l 84 (.inl (jo_c 85 (nI 5)))))) (jt_n 86 (jt_l 85 (.inl (jo_il 86 2))) (jt_n 87 (jt_l 86 (.inl (jo_b 87 (fun x y => x * y)))) (jt_l 87 (.inl (jo_il 88 1)))))) (jt_n 91 (jt_n 89 (jt_l 88 (.inl (jo_b 89 (fun x y => x + y)))) (jt_n 90 (jt_l 89 (.inl (jo_ia 90))) (jt_l 90 (.inl (jo_iw 91))))) (jt_n 95 (jt_n 92 (jt_l 91 (.inl (jo_al 92 0))) (jt_l 92 (.inl (jo_gf 95 12 3)))) (jt_n 96 (jt_l 95 (.inl (jo_c 96 (nI 5)))) (jt_l 96 (.inl (jo_il 97 2)))))))) (jt_n 119 (jt_n 105 (jt_n 100 (jt_n 98 (jt_l 97 (.inl (jo_b 98 (fun x y => x * y)))) (jt_n 99 (jt_l 98 (.inl (jo_il 99 1))) (jt_l 99 (.inl (jo_b 100 (fun x y => x + y)))))) (jt_n 101 (jt_l 100 (.inl (jo_il 101 3))) (jt_n 102 (jt_l 101 (.inl (jo_iw 102))) (jt_l 102 (.inl (jo_inc 105 4 2 (nI 1))))))) (jt_n 114 (jt_n 108 (jt_l 105 (.inl (jo_go 13))) (jt_n 111 (jt_l 108 (.inl (jo_inc 111 4 1 (nI 1)))) (jt_l 111 (.inl (jo_go 6))))) (jt_n 115 (jt_l 114 (.inl (jo_al 115 0))) (jt_n 118 (jt_l 115 (.inl (jo_gf 118 12 0))) (jt_l 118 (.inl (jo_is 119 4 1))))))) (jt_n 129 (jt_n 124 (jt_n 120 (jt_l 119 (.inl (jo_al 120 0))) (jt_n 121 (jt_l 120 (.inl (jo_al 121 0))) (jt_l 121 (.inl (jo_gf 124 12 1))))) (jt_n 127 (jt_l 124 (.inl (jo_pf 127 12 0 0))) (jt_n 128 (jt_l 127 (.inl (jo_al 128 0))) (jt_l 128 (.inl (jo_il 129 1)))))) (jt_n 134 (jt_n 132 (jt_l 129 (.inl (jo_pf 132 12 1 0))) (jt_n 133 (jt_l 132 (.inl (jo_al 133 0))) (jt_l 133 (.inl (jo_c 134 (nI 0)))))) (jt_n 138 (jt_n 137 (jt_l 134 (.inl (jo_pf 137 12 14 0))) (jt_l 137 (.inl (jo_al 138 0)))) (jt_n 141 (jt_l 138 (.inl (jo_gf 141 12 0))) (jt_l 141 (.inr (.inr 1))))))))))
/-- TalkBenchModel.turnAnswers()I -/
def jc_145 : Nat → Option jxI := (jt_n 28 (jt_n 13 (jt_n 6 (jt_n 4 (jt_n 1 (jt_l 0 (.inl (jo_al 1 0))) (jt_l 1 (.inr (.inl (136, 1, 4, some 12))))) (jt_n 5 (jt_l 4 (.inl (jo_c 5 (nI 0)))) (jt_l 5 (.inl (jo_is 6 2 1))))) (jt_n 9 (jt_n 7 (jt_l 6 (.inl (jo_il 7 1))) (jt_l 7 (.inl (jo_c 9 (nI 25))))) (jt_n 12 (jt_l 9 (.inl (jo_ic 12 46 (fun x y => decide (y ≤ x))))) (jt_l 12 (.inl (jo_al 13 0)))))) (jt_n 21 (jt_n 17 (jt_n 16 (jt_l 13 (.inl (jo_gf 16 12 2))) (jt_l 16 (.inl (jo_il 17 1)))) (jt_n 18 (jt_l 17 (.inl (jo_al 18 0))) (jt_l 18 (.inl (jo_gf 21 12 2))))) (jt_n 23 (jt_n 22 (jt_l 21 (.inl (jo_il 22 1))) (jt_l 22 (.inl (jo_ia 23)))) (jt_n 24 (jt_l 23 (.inl (jo_c 24 (nI 2)))) (jt_n 27 (jt_l 24 (.inl (jo_ic 27 31 (fun x y => decide (¬ x = y))))) (jt_l 27 (.inl (jo_c 28 (nI 2))))))))) (jt_n 40 (jt_n 36 (jt_n 32 (jt_n 31 (jt_l 28 (.inl (jo_go 39))) (jt_l 31 (.inl (jo_c 32 (nI 1))))) (jt_n 33 (jt_l 32 (.inl (jo_al 33 0))) (jt_l 33 (.inl (jo_gf 36 12 2))))) (jt_n 38 (jt_n 37 (jt_l 36 (.inl (jo_il 37 1))) (jt_l 37 (.inl (jo_ia 38)))) (jt_n 39 (jt_l 38 (.inl (jo_b 39 (fun x y => x - y)))) (jt_l 39 (.inl (jo_iw 40)))))) (jt_n 48 (jt_n 46 (jt_n 43 (jt_l 40 (.inl (jo_inc 43 2 1 (nI 1)))) (jt_l 43 (.inl (jo_go 6)))) (jt_n 47 (jt_l 46 (.inl (jo_al 47 0))) (jt_l 47 (.inl (jo_c 48 (nI 0)))))) (jt_n 52 (jt_n 51 (jt_l 48 (.inl (jo_pf 51 12 14 0))) (jt_l 51 (.inl (jo_al 52 0)))) (jt_n 53 (jt_l 52 (.inl (jo_c 53 (nI 1)))) (jt_n 56 (jt_l 53 (.inr (.inl (138, 2, 56, some 12)))) (jt_l 56 (.inr (.inr 1)))))))))
/-- TalkBenchModel.at(ZII)I -/
def jc_146 : Nat → Option jxI := (jt_n 14 (jt_n 9 (jt_n 4 (jt_n 1 (jt_l 0 (.inl (jo_il 1 1))) (jt_l 1 (.inl (jo_if 4 17 (fun x => decide (x = 0)))))) (jt_n 5 (jt_l 4 (.inl (jo_al 5 0))) (jt_n 8 (jt_l 5 (.inl (jo_gf 8 12 2))) (jt_l 8 (.inl (jo_c 9 (nI 5))))))) (jt_n 11 (jt_n 10 (jt_l 9 (.inl (jo_il 10 3))) (jt_l 10 (.inl (jo_b 11 (fun x y => x * y))))) (jt_n 12 (jt_l 11 (.inl (jo_il 12 2))) (jt_n 13 (jt_l 12 (.inl (jo_b 13 (fun x y => x + y)))) (jt_l 13 (.inl (jo_ia 14))))))) (jt_n 23 (jt_n 18 (jt_n 17 (jt_l 14 (.inl (jo_go 27))) (jt_l 17 (.inl (jo_al 18 0)))) (jt_n 21 (jt_l 18 (.inl (jo_gf 21 12 2))) (jt_n 22 (jt_l 21 (.inl (jo_c 22 (nI 5)))) (jt_l 22 (.inl (jo_il 23 2)))))) (jt_n 25 (jt_n 24 (jt_l 23 (.inl (jo_b 24 (fun x y => x * y)))) (jt_l 24 (.inl (jo_il 25 3)))) (jt_n 26 (jt_l 25 (.inl (jo_b 26 (fun x y => x + y)))) (jt_n 27 (jt_l 26 (.inl (jo_ia 27))) (jt_l 27 (.inr (.inr 1))))))))
/-- TalkBenchModel.unlike(Z)I -/
def jc_147 : Nat → Option jxI := (jt_n 70 (jt_n 33 (jt_n 17 (jt_n 8 (jt_n 4 (jt_n 1 (jt_l 0 (.inl (jo_il 1 1))) (jt_l 1 (.inl (jo_if 4 11 (fun x => decide (x = 0)))))) (jt_n 5 (jt_l 4 (.inl (jo_al 5 0))) (jt_l 5 (.inl (jo_gf 8 12 1))))) (jt_n 12 (jt_n 11 (jt_l 8 (.inl (jo_go 15))) (jt_l 11 (.inl (jo_al 12 0)))) (jt_n 15 (jt_l 12 (.inl (jo_gf 15 12 0))) (jt_n 16 (jt_l 15 (.inl (jo_is 16 9 2))) (jt_l 16 (.inl (jo_c 17 (nI 0)))))))) (jt_n 24 (jt_n 19 (jt_n 18 (jt_l 17 (.inl (jo_is 18 9 3))) (jt_l 18 (.inl (jo_c 19 (nI 0))))) (jt_n 21 (jt_l 19 (.inl (jo_is 21 9 4))) (jt_n 23 (jt_l 21 (.inl (jo_il 23 4))) (jt_l 23 (.inl (jo_il 24 2)))))) (jt_n 28 (jt_n 27 (jt_l 24 (.inl (jo_ic 27 143 (fun x y => decide (y ≤ x))))) (jt_l 27 (.inl (jo_c 28 (nI 1))))) (jt_n 30 (jt_l 28 (.inl (jo_is 30 9 5))) (jt_n 31 (jt_l 30 (.inl (jo_c 31 (nI 0)))) (jt_l 31 (.inl (jo_is 33 9 6)))))))) (jt_n 49 (jt_n 41 (jt_n 37 (jt_n 35 (jt_l 33 (.inl (jo_il 35 6))) (jt_l 35 (.inl (jo_il 37 4)))) (jt_n 40 (jt_l 37 (.inl (jo_ic 40 124 (fun x y => decide (y ≤ x))))) (jt_l 40 (.inl (jo_c 41 (nI 1)))))) (jt_n 44 (jt_n 43 (jt_l 41 (.inl (jo_is 43 9 7))) (jt_l 43 (.inl (jo_c 44 (nI 0))))) (jt_n 46 (jt_l 44 (.inl (jo_is 46 9 8))) (jt_n 48 (jt_l 46 (.inl (jo_il 48 8))) (jt_l 48 (.inl (jo_il 49 1))))))) (jt_n 60 (jt_n 53 (jt_n 52 (jt_l 49 (.inl (jo_if 52 59 (fun x => decide (x = 0))))) (jt_l 52 (.inl (jo_al 53 0)))) (jt_n 56 (jt_l 53 (.inl (jo_gf 56 12 0))) (jt_n 59 (jt_l 56 (.inl (jo_go 63))) (jt_l 59 (.inl (jo_al 60 0)))))) (jt_n 66 (jt_n 63 (jt_l 60 (.inl (jo_gf 63 12 1))) (jt_l 63 (.inl (jo_ic 66 103 (fun x y => decide (y ≤ x)))))) (jt_n 68 (jt_l 66 (.inl (jo_il 68 7))) (jt_n 69 (jt_l 68 (.inl (jo_al 69 0))) (jt_l 69 (.inl (jo_il 70 1))))))))) (jt_n 110 (jt_n 89 (jt_n 78 (jt_n 74 (jt_n 72 (jt_l 70 (.inl (jo_il 72 4))) (jt_l 72 (.inl (jo_il 74 8)))) (jt_n 77 (jt_l 74 (.inr (.inl (146, 4, 77, some 12)))) (jt_l 77 (.inl (jo_al 78 0))))) (jt_n 81 (jt_n 79 (jt_l 78 (.inl (jo_il 79 1))) (jt_l 79 (.inl (jo_il 81 6)))) (jt_n 83 (jt_l 81 (.inl (jo_il 83 8))) (jt_n 86 (jt_l 83 (.inr (.inl (146, 4, 86, some 12)))) (jt_l 86 (.inl (jo_ic 89 93 (fun x y => decide (¬ x = y))))))))) (jt_n 97 (jt_n 93 (jt_n 90 (jt_l 89 (.inl (jo_c 90 (nI 1)))) (jt_l 90 (.inl (jo_go 94)))) (jt_n 94 (jt_l 93 (.inl (jo_c 94 (nI 0)))) (jt_n 95 (jt_l 94 (.inl (jo_b 95 (fun x y => x &&& y)))) (jt_l 95 (.inl (jo_is 97 9 7)))))) (jt_n 103 (jt_n 100 (jt_l 97 (.inl (jo_inc 100 9 8 (nI 1)))) (jt_l 100 (.inl (jo_go 46)))) (jt_n 105 (jt_l 103 (.inl (jo_il 105 5))) (jt_n 107 (jt_l 105 (.inl (jo_il 107 7))) (jt_l 107 (.inl (jo_if 110 114 (fun x => decide (¬ x = 0)))))))))) (jt_n 127 (jt_n 116 (jt_n 114 (jt_n 111 (jt_l 110 (.inl (jo_c 111 (nI 1)))) (jt_l 111 (.inl (jo_go 115)))) (jt_n 115 (jt_l 114 (.inl (jo_c 115 (nI 0)))) (jt_l 115 (.inl (jo_b 116 (fun x y => x &&& y)))))) (jt_n 121 (jt_n 118 (jt_l 116 (.inl (jo_is 118 9 5))) (jt_l 118 (.inl (jo_inc 121 9 6 (nI 1))))) (jt_n 124 (jt_l 121 (.inl (jo_go 33))) (jt_n 125 (jt_l 124 (.inl (jo_il 125 3))) (jt_l 125 (.inl (jo_il 127 5))))))) (jt_n 136 (jt_n 131 (jt_n 130 (jt_l 127 (.inl (jo_if 130 134 (fun x => decide (x = 0))))) (jt_l 130 (.inl (jo_c 131 (nI 1))))) (jt_n 134 (jt_l 131 (.inl (jo_go 135))) (jt_n 135 (jt_l 134 (.inl (jo_c 135 (nI 0)))) (jt_l 135 (.inl (jo_b 136 (fun x y => x + y))))))) (jt_n 140 (jt_n 137 (jt_l 136 (.inl (jo_is 137 9 3))) (jt_l 137 (.inl (jo_inc 140 9 4 (nI 1))))) (jt_n 143 (jt_l 140 (.inl (jo_go 21))) (jt_n 144 (jt_l 143 (.inl (jo_il 144 3))) (jt_l 144 (.inr (.inr 1))))))))))
/-- TalkBenchModel.isSheet(I)Z -/
def jc_148 : Nat → Option jxI := (jt_n 6 (jt_n 4 (jt_n 1 (jt_l 0 (.inl (jo_il 1 0))) (jt_l 1 (.inl (jo_if 4 13 (fun x => decide (x < 0)))))) (jt_n 5 (jt_l 4 (.inl (jo_il 5 0))) (jt_l 5 (.inl (jo_c 6 (nI 4)))))) (jt_n 10 (jt_n 9 (jt_l 6 (.inl (jo_ic 9 13 (fun x y => decide (y ≤ x))))) (jt_l 9 (.inl (jo_c 10 (nI 1))))) (jt_n 13 (jt_l 10 (.inl (jo_go 14))) (jt_n 14 (jt_l 13 (.inl (jo_c 14 (nI 0)))) (jt_l 14 (.inr (.inr 2)))))))
/-- TalkBenchModel.sheet(III)I -/
def jc_149 : Nat → Option jxI := (jt_n 62 (jt_n 31 (jt_n 17 (jt_n 8 (jt_n 4 (jt_n 1 (jt_l 0 (.inl (jo_il 1 1))) (jt_l 1 (.inr (.inl (148, 1, 4, none))))) (jt_n 7 (jt_l 4 (.inl (jo_if 7 29 (fun x => decide (x = 0))))) (jt_l 7 (.inl (jo_il 8 2))))) (jt_n 12 (jt_n 11 (jt_l 8 (.inl (jo_if 11 35 (fun x => decide (x = 0))))) (jt_l 11 (.inl (jo_il 12 2)))) (jt_n 14 (jt_l 12 (.inl (jo_c 14 (nI 8)))) (jt_l 14 (.inl (jo_ic 17 35 (fun x y => decide (x = y)))))))) (jt_n 24 (jt_n 20 (jt_n 18 (jt_l 17 (.inl (jo_il 18 2))) (jt_l 18 (.inl (jo_c 20 (nI 16))))) (jt_n 23 (jt_l 20 (.inl (jo_ic 23 35 (fun x y => decide (x = y))))) (jt_l 23 (.inl (jo_il 24 2))))) (jt_n 29 (jt_n 26 (jt_l 24 (.inl (jo_c 26 (nI 32)))) (jt_l 26 (.inl (jo_ic 29 35 (fun x y => decide (x = y)))))) (jt_n 30 (jt_l 29 (.inl (jo_al 30 0))) (jt_l 30 (.inl (jo_c 31 (-1)))))))) (jt_n 46 (jt_n 39 (jt_n 35 (jt_n 34 (jt_l 31 (.inr (.inl (130, 2, 34, some 12)))) (jt_l 34 (.inr (.inr 1)))) (jt_n 36 (jt_l 35 (.inl (jo_il 36 3))) (jt_l 36 (.inl (jo_if 39 46 (fun x => decide (0 ≤ x))))))) (jt_n 42 (jt_n 40 (jt_l 39 (.inl (jo_al 40 0))) (jt_l 40 (.inl (jo_c 42 (-3))))) (jt_n 45 (jt_l 42 (.inr (.inl (130, 2, 45, some 12)))) (jt_l 45 (.inr (.inr 1)))))) (jt_n 53 (jt_n 49 (jt_n 47 (jt_l 46 (.inl (jo_il 47 3))) (jt_l 47 (.inl (jo_c 49 (nI 30))))) (jt_n 52 (jt_l 49 (.inl (jo_ic 52 58 (fun x y => decide (x ≤ y))))) (jt_l 52 (.inl (jo_al 53 0))))) (jt_n 57 (jt_n 54 (jt_l 53 (.inl (jo_c 54 (-1)))) (jt_l 54 (.inr (.inl (130, 2, 57, some 12))))) (jt_n 58 (jt_l 57 (.inr (.inr 1))) (jt_n 59 (jt_l 58 (.inl (jo_al 59 0))) (jt_l 59 (.inl (jo_gf 62 12 8))))))))) (jt_n 87 (jt_n 74 (jt_n 66 (jt_n 64 (jt_n 63 (jt_l 62 (.inl (jo_il 63 1))) (jt_l 63 (.inl (jo_il 64 2)))) (jt_n 65 (jt_l 64 (.inl (jo_iw 65))) (jt_l 65 (.inl (jo_al 66 0))))) (jt_n 70 (jt_n 69 (jt_l 66 (.inl (jo_gf 69 12 9))) (jt_l 69 (.inl (jo_il 70 1)))) (jt_n 71 (jt_l 70 (.inl (jo_il 71 2))) (jt_l 71 (.inl (jo_if 74 78 (fun x => decide (¬ x = 0)))))))) (jt_n 80 (jt_n 78 (jt_n 75 (jt_l 74 (.inl (jo_c 75 (nI 0)))) (jt_l 75 (.inl (jo_go 79)))) (jt_n 79 (jt_l 78 (.inl (jo_il 79 3))) (jt_l 79 (.inl (jo_iw 80))))) (jt_n 83 (jt_n 81 (jt_l 80 (.inl (jo_c 81 (nI 0)))) (jt_l 81 (.inl (jo_is 83 5 4)))) (jt_n 85 (jt_l 83 (.inl (jo_il 85 4))) (jt_l 85 (.inl (jo_c 87 (nI 30)))))))) (jt_n 101 (jt_n 96 (jt_n 91 (jt_n 90 (jt_l 87 (.inl (jo_ic 90 109 (fun x y => decide (y ≤ x))))) (jt_l 90 (.inl (jo_al 91 0)))) (jt_n 94 (jt_l 91 (.inl (jo_gf 94 12 10))) (jt_l 94 (.inl (jo_c 96 (nI 30)))))) (jt_n 98 (jt_n 97 (jt_l 96 (.inl (jo_il 97 1))) (jt_l 97 (.inl (jo_b 98 (fun x y => x * y))))) (jt_n 100 (jt_l 98 (.inl (jo_il 100 4))) (jt_l 100 (.inl (jo_b 101 (fun x y => x + y))))))) (jt_n 109 (jt_n 103 (jt_n 102 (jt_l 101 (.inl (jo_c 102 (nI 0)))) (jt_l 102 (.inl (jo_iw 103)))) (jt_n 106 (jt_l 103 (.inl (jo_inc 106 5 4 (nI 1)))) (jt_l 106 (.inl (jo_go 83))))) (jt_n 113 (jt_n 110 (jt_l 109 (.inl (jo_al 110 0))) (jt_l 110 (.inl (jo_gf 113 12 9)))) (jt_n 114 (jt_l 113 (.inl (jo_il 114 1))) (jt_n 115 (jt_l 114 (.inl (jo_ia 115))) (jt_l 115 (.inr (.inr 1))))))))))
/-- TalkBenchModel.write(III)I -/
def jc_150 : Nat → Option jxI := (jt_n 49 (jt_n 25 (jt_n 13 (jt_n 7 (jt_n 1 (jt_l 0 (.inl (jo_il 1 1))) (jt_n 4 (jt_l 1 (.inr (.inl (148, 1, 4, none)))) (jt_l 4 (.inl (jo_if 7 13 (fun x => decide (¬ x = 0))))))) (jt_n 9 (jt_n 8 (jt_l 7 (.inl (jo_al 8 0))) (jt_l 8 (.inl (jo_c 9 (-1))))) (jt_n 12 (jt_l 9 (.inr (.inl (130, 2, 12, some 12)))) (jt_l 12 (.inr (.inr 1)))))) (jt_n 18 (jt_n 14 (jt_l 13 (.inl (jo_al 14 0))) (jt_n 17 (jt_l 14 (.inl (jo_gf 17 12 8))) (jt_l 17 (.inl (jo_il 18 1))))) (jt_n 22 (jt_n 19 (jt_l 18 (.inl (jo_ia 19))) (jt_l 19 (.inl (jo_if 22 29 (fun x => decide (¬ x = 0)))))) (jt_n 23 (jt_l 22 (.inl (jo_al 23 0))) (jt_l 23 (.inl (jo_c 25 (-2)))))))) (jt_n 38 (jt_n 30 (jt_n 28 (jt_l 25 (.inr (.inl (130, 2, 28, some 12)))) (jt_n 29 (jt_l 28 (.inr (.inr 1))) (jt_l 29 (.inl (jo_il 30 2))))) (jt_n 34 (jt_n 33 (jt_l 30 (.inl (jo_if 33 43 (fun x => decide (x < 0))))) (jt_l 33 (.inl (jo_il 34 2)))) (jt_n 35 (jt_l 34 (.inl (jo_al 35 0))) (jt_l 35 (.inl (jo_gf 38 12 9)))))) (jt_n 43 (jt_n 39 (jt_l 38 (.inl (jo_il 39 1))) (jt_n 40 (jt_l 39 (.inl (jo_ia 40))) (jt_l 40 (.inl (jo_ic 43 49 (fun x y => decide (x < y))))))) (jt_n 45 (jt_n 44 (jt_l 43 (.inl (jo_al 44 0))) (jt_l 44 (.inl (jo_c 45 (-1))))) (jt_n 48 (jt_l 45 (.inr (.inl (130, 2, 48, some 12)))) (jt_l 48 (.inr (.inr 1)))))))) (jt_n 71 (jt_n 59 (jt_n 55 (jt_n 50 (jt_l 49 (.inl (jo_al 50 0))) (jt_n 53 (jt_l 50 (.inl (jo_gf 53 12 10))) (jt_l 53 (.inl (jo_c 55 (nI 30)))))) (jt_n 57 (jt_n 56 (jt_l 55 (.inl (jo_il 56 1))) (jt_l 56 (.inl (jo_b 57 (fun x y => x * y))))) (jt_n 58 (jt_l 57 (.inl (jo_il 58 2))) (jt_l 58 (.inl (jo_b 59 (fun x y => x + y))))))) (jt_n 64 (jt_n 60 (jt_l 59 (.inl (jo_al 60 0))) (jt_n 63 (jt_l 60 (.inl (jo_gf 63 12 8))) (jt_l 63 (.inl (jo_il 64 1))))) (jt_n 67 (jt_n 65 (jt_l 64 (.inl (jo_ia 65))) (jt_l 65 (.inl (jo_c 67 (nI 8))))) (jt_n 70 (jt_l 67 (.inl (jo_ic 70 75 (fun x y => decide (¬ x = y))))) (jt_l 70 (.inl (jo_il 71 3))))))) (jt_n 83 (jt_n 76 (jt_n 72 (jt_l 71 (.inl (jo_1 72 (fun x => x.toInt8.toInt32)))) (jt_n 75 (jt_l 72 (.inl (jo_go 92))) (jt_l 75 (.inl (jo_al 76 0))))) (jt_n 80 (jt_n 79 (jt_l 76 (.inl (jo_gf 79 12 8))) (jt_l 79 (.inl (jo_il 80 1)))) (jt_n 81 (jt_l 80 (.inl (jo_ia 81))) (jt_l 81 (.inl (jo_c 83 (nI 16))))))) (jt_n 91 (jt_n 87 (jt_n 86 (jt_l 83 (.inl (jo_ic 86 91 (fun x y => decide (¬ x = y))))) (jt_l 86 (.inl (jo_il 87 3)))) (jt_n 88 (jt_l 87 (.inl (jo_1 88 (fun x => x.toInt16.toInt32)))) (jt_l 88 (.inl (jo_go 92))))) (jt_n 93 (jt_n 92 (jt_l 91 (.inl (jo_il 92 3))) (jt_l 92 (.inl (jo_iw 93)))) (jt_n 94 (jt_l 93 (.inl (jo_c 94 (nI 0)))) (jt_l 94 (.inr (.inr 1)))))))))
/-- TalkBenchModel.hasPart(III)Z -/
def jc_151 : Nat → Option jxI := (jt_n 19 (jt_n 9 (jt_n 4 (jt_n 1 (jt_l 0 (.inl (jo_il 1 2))) (jt_l 1 (.inl (jo_if 4 34 (fun x => decide (x < 0)))))) (jt_n 5 (jt_l 4 (.inl (jo_il 5 3))) (jt_n 8 (jt_l 5 (.inl (jo_if 8 34 (fun x => decide (x < 0))))) (jt_l 8 (.inl (jo_il 9 3)))))) (jt_n 14 (jt_n 10 (jt_l 9 (.inl (jo_al 10 0))) (jt_n 13 (jt_l 10 (.inl (jo_gf 13 12 9))) (jt_l 13 (.inl (jo_il 14 1))))) (jt_n 15 (jt_l 14 (.inl (jo_ia 15))) (jt_n 18 (jt_l 15 (.inl (jo_ic 18 34 (fun x y => decide (y < x))))) (jt_l 18 (.inl (jo_il 19 2))))))) (jt_n 26 (jt_n 23 (jt_n 20 (jt_l 19 (.inl (jo_al 20 0))) (jt_l 20 (.inl (jo_gf 23 12 9)))) (jt_n 24 (jt_l 23 (.inl (jo_il 24 1))) (jt_n 25 (jt_l 24 (.inl (jo_ia 25))) (jt_l 25 (.inl (jo_il 26 3)))))) (jt_n 31 (jt_n 27 (jt_l 26 (.inl (jo_b 27 (fun x y => x - y)))) (jt_n 30 (jt_l 27 (.inl (jo_ic 30 34 (fun x y => decide (y < x))))) (jt_l 30 (.inl (jo_c 31 (nI 1)))))) (jt_n 34 (jt_l 31 (.inl (jo_go 35))) (jt_n 35 (jt_l 34 (.inl (jo_c 35 (nI 0)))) (jt_l 35 (.inr (.inr 2))))))))
/-- TalkBenchModel.copy(IIIII)I -/
def jc_152 : Nat → Option jxI := (jt_n 87 (jt_n 45 (jt_n 24 (jt_n 14 (jt_n 7 (jt_n 1 (jt_l 0 (.inl (jo_il 1 1))) (jt_n 4 (jt_l 1 (.inr (.inl (148, 1, 4, none)))) (jt_l 4 (.inl (jo_if 7 14 (fun x => decide (x = 0))))))) (jt_n 8 (jt_l 7 (.inl (jo_il 8 3))) (jt_n 11 (jt_l 8 (.inr (.inl (148, 1, 11, none)))) (jt_l 11 (.inl (jo_if 14 20 (fun x => decide (¬ x = 0)))))))) (jt_n 19 (jt_n 15 (jt_l 14 (.inl (jo_al 15 0))) (jt_n 16 (jt_l 15 (.inl (jo_c 16 (-1)))) (jt_l 16 (.inr (.inl (130, 2, 19, some 12)))))) (jt_n 20 (jt_l 19 (.inr (.inr 1))) (jt_n 21 (jt_l 20 (.inl (jo_al 21 0))) (jt_l 21 (.inl (jo_gf 24 12 8))))))) (jt_n 34 (jt_n 29 (jt_n 25 (jt_l 24 (.inl (jo_il 25 1))) (jt_n 26 (jt_l 25 (.inl (jo_ia 26))) (jt_l 26 (.inl (jo_if 29 38 (fun x => decide (x = 0))))))) (jt_n 30 (jt_l 29 (.inl (jo_al 30 0))) (jt_n 33 (jt_l 30 (.inl (jo_gf 33 12 8))) (jt_l 33 (.inl (jo_il 34 3)))))) (jt_n 39 (jt_n 35 (jt_l 34 (.inl (jo_ia 35))) (jt_n 38 (jt_l 35 (.inl (jo_if 38 45 (fun x => decide (¬ x = 0))))) (jt_l 38 (.inl (jo_al 39 0))))) (jt_n 41 (jt_l 39 (.inl (jo_c 41 (-2)))) (jt_n 44 (jt_l 41 (.inr (.inl (130, 2, 44, some 12)))) (jt_l 44 (.inr (.inr 1)))))))) (jt_n 66 (jt_n 55 (jt_n 50 (jt_n 46 (jt_l 45 (.inl (jo_al 46 0))) (jt_n 49 (jt_l 46 (.inl (jo_gf 49 12 8))) (jt_l 49 (.inl (jo_il 50 1))))) (jt_n 51 (jt_l 50 (.inl (jo_ia 51))) (jt_n 52 (jt_l 51 (.inl (jo_al 52 0))) (jt_l 52 (.inl (jo_gf 55 12 8)))))) (jt_n 60 (jt_n 56 (jt_l 55 (.inl (jo_il 56 3))) (jt_n 57 (jt_l 56 (.inl (jo_ia 57))) (jt_l 57 (.inl (jo_ic 60 67 (fun x y => decide (x = y))))))) (jt_n 61 (jt_l 60 (.inl (jo_al 61 0))) (jt_n 63 (jt_l 61 (.inl (jo_c 63 (-4)))) (jt_l 63 (.inr (.inl (130, 2, 66, some 12)))))))) (jt_n 75 (jt_n 69 (jt_n 67 (jt_l 66 (.inr (.inr 1))) (jt_n 68 (jt_l 67 (.inl (jo_al 68 0))) (jt_l 68 (.inl (jo_il 69 1))))) (jt_n 70 (jt_l 69 (.inl (jo_il 70 2))) (jt_n 72 (jt_l 70 (.inl (jo_il 72 5))) (jt_l 72 (.inr (.inl (151, 4, 75, some 12))))))) (jt_n 80 (jt_n 78 (jt_l 75 (.inl (jo_if 78 90 (fun x => decide (x = 0))))) (jt_n 79 (jt_l 78 (.inl (jo_al 79 0))) (jt_l 79 (.inl (jo_il 80 3))))) (jt_n 82 (jt_l 80 (.inl (jo_il 82 4))) (jt_n 84 (jt_l 82 (.inl (jo_il 84 5))) (jt_l 84 (.inr (.inl (151, 4, 87, some 12)))))))))) (jt_n 127 (jt_n 110 (jt_n 97 (jt_n 92 (jt_n 90 (jt_l 87 (.inl (jo_if 90 96 (fun x => decide (¬ x = 0))))) (jt_n 91 (jt_l 90 (.inl (jo_al 91 0))) (jt_l 91 (.inl (jo_c 92 (-1)))))) (jt_n 95 (jt_l 92 (.inr (.inl (130, 2, 95, some 12)))) (jt_n 96 (jt_l 95 (.inr (.inr 1))) (jt_l 96 (.inl (jo_c 97 (nI 0))))))) (jt_n 103 (jt_n 99 (jt_l 97 (.inl (jo_is 99 7 6))) (jt_n 101 (jt_l 99 (.inl (jo_il 101 6))) (jt_l 101 (.inl (jo_il 103 5))))) (jt_n 106 (jt_l 103 (.inl (jo_ic 106 133 (fun x y => decide (y ≤ x))))) (jt_n 107 (jt_l 106 (.inl (jo_al 107 0))) (jt_l 107 (.inl (jo_gf 110 12 15))))))) (jt_n 120 (jt_n 116 (jt_n 112 (jt_l 110 (.inl (jo_il 112 6))) (jt_n 113 (jt_l 112 (.inl (jo_al 113 0))) (jt_l 113 (.inl (jo_gf 116 12 10))))) (jt_n 118 (jt_l 116 (.inl (jo_c 118 (nI 30)))) (jt_n 119 (jt_l 118 (.inl (jo_il 119 1))) (jt_l 119 (.inl (jo_b 120 (fun x y => x * y))))))) (jt_n 124 (jt_n 121 (jt_l 120 (.inl (jo_il 121 2))) (jt_n 122 (jt_l 121 (.inl (jo_b 122 (fun x y => x + y)))) (jt_l 122 (.inl (jo_il 124 6))))) (jt_n 125 (jt_l 124 (.inl (jo_b 125 (fun x y => x + y)))) (jt_n 126 (jt_l 125 (.inl (jo_ia 126))) (jt_l 126 (.inl (jo_iw 127)))))))) (jt_n 151 (jt_n 140 (jt_n 134 (jt_n 130 (jt_l 127 (.inl (jo_inc 130 7 6 (nI 1)))) (jt_n 133 (jt_l 130 (.inl (jo_go 99))) (jt_l 133 (.inl (jo_c 134 (nI 0)))))) (jt_n 136 (jt_l 134 (.inl (jo_is 136 7 6))) (jt_n 138 (jt_l 136 (.inl (jo_il 138 6))) (jt_l 138 (.inl (jo_il 140 5)))))) (jt_n 147 (jt_n 143 (jt_l 140 (.inl (jo_ic 143 171 (fun x y => decide (y ≤ x))))) (jt_n 144 (jt_l 143 (.inl (jo_al 144 0))) (jt_l 144 (.inl (jo_gf 147 12 10))))) (jt_n 149 (jt_l 147 (.inl (jo_c 149 (nI 30)))) (jt_n 150 (jt_l 149 (.inl (jo_il 150 3))) (jt_l 150 (.inl (jo_b 151 (fun x y => x * y)))))))) (jt_n 161 (jt_n 156 (jt_n 153 (jt_l 151 (.inl (jo_il 153 4))) (jt_n 154 (jt_l 153 (.inl (jo_b 154 (fun x y => x + y)))) (jt_l 154 (.inl (jo_il 156 6))))) (jt_n 157 (jt_l 156 (.inl (jo_b 157 (fun x y => x + y)))) (jt_n 158 (jt_l 157 (.inl (jo_al 158 0))) (jt_l 158 (.inl (jo_gf 161 12 15)))))) (jt_n 165 (jt_n 163 (jt_l 161 (.inl (jo_il 163 6))) (jt_n 164 (jt_l 163 (.inl (jo_ia 164))) (jt_l 164 (.inl (jo_iw 165))))) (jt_n 171 (jt_n 168 (jt_l 165 (.inl (jo_inc 168 7 6 (nI 1)))) (jt_l 168 (.inl (jo_go 136)))) (jt_n 173 (jt_l 171 (.inl (jo_il 173 5))) (jt_l 173 (.inr (.inr 1))))))))))
/-- TalkBenchModel.lay(I)I -/
def jc_153 : Nat → Option jxI := (jt_n 95 (jt_n 50 (jt_n 25 (jt_n 13 (jt_n 7 (jt_n 1 (jt_l 0 (.inl (jo_il 1 1))) (jt_n 4 (jt_l 1 (.inr (.inl (148, 1, 4, none)))) (jt_l 4 (.inl (jo_if 7 13 (fun x => decide (¬ x = 0))))))) (jt_n 9 (jt_n 8 (jt_l 7 (.inl (jo_al 8 0))) (jt_l 8 (.inl (jo_c 9 (-1))))) (jt_n 12 (jt_l 9 (.inr (.inl (130, 2, 12, some 12)))) (jt_l 12 (.inr (.inr 1)))))) (jt_n 18 (jt_n 14 (jt_l 13 (.inl (jo_al 14 0))) (jt_n 17 (jt_l 14 (.inl (jo_gf 17 12 8))) (jt_l 17 (.inl (jo_il 18 1))))) (jt_n 22 (jt_n 19 (jt_l 18 (.inl (jo_ia 19))) (jt_l 19 (.inl (jo_if 22 29 (fun x => decide (¬ x = 0)))))) (jt_n 23 (jt_l 22 (.inl (jo_al 23 0))) (jt_l 23 (.inl (jo_c 25 (-2)))))))) (jt_n 36 (jt_n 30 (jt_n 28 (jt_l 25 (.inr (.inl (130, 2, 28, some 12)))) (jt_n 29 (jt_l 28 (.inr (.inr 1))) (jt_l 29 (.inl (jo_al 30 0))))) (jt_n 34 (jt_n 33 (jt_l 30 (.inl (jo_gf 33 12 9))) (jt_l 33 (.inl (jo_il 34 1)))) (jt_n 35 (jt_l 34 (.inl (jo_ia 35))) (jt_l 35 (.inl (jo_al 36 0)))))) (jt_n 43 (jt_n 39 (jt_l 36 (.inl (jo_gf 39 12 0))) (jt_n 40 (jt_l 39 (.inl (jo_al 40 0))) (jt_l 40 (.inl (jo_gf 43 12 1))))) (jt_n 47 (jt_n 44 (jt_l 43 (.inl (jo_b 44 (fun x y => x * y)))) (jt_l 44 (.inl (jo_ic 47 54 (fun x y => decide (x ≤ y)))))) (jt_n 48 (jt_l 47 (.inl (jo_al 48 0))) (jt_l 48 (.inl (jo_c 50 (-3))))))))) (jt_n 73 (jt_n 61 (jt_n 55 (jt_n 53 (jt_l 50 (.inr (.inl (130, 2, 53, some 12)))) (jt_n 54 (jt_l 53 (.inr (.inr 1))) (jt_l 54 (.inl (jo_c 55 (nI 0)))))) (jt_n 57 (jt_n 56 (jt_l 55 (.inl (jo_is 56 3 2))) (jt_l 56 (.inl (jo_il 57 2)))) (jt_n 58 (jt_l 57 (.inl (jo_al 58 0))) (jt_l 58 (.inl (jo_gf 61 12 9)))))) (jt_n 66 (jt_n 62 (jt_l 61 (.inl (jo_il 62 1))) (jt_n 63 (jt_l 62 (.inl (jo_ia 63))) (jt_l 63 (.inl (jo_ic 66 107 (fun x y => decide (y ≤ x))))))) (jt_n 70 (jt_n 67 (jt_l 66 (.inl (jo_al 67 0))) (jt_l 67 (.inl (jo_gf 70 12 10)))) (jt_n 72 (jt_l 70 (.inl (jo_c 72 (nI 30)))) (jt_l 72 (.inl (jo_il 73 1))))))) (jt_n 84 (jt_n 76 (jt_n 74 (jt_l 73 (.inl (jo_b 74 (fun x y => x * y)))) (jt_n 75 (jt_l 74 (.inl (jo_il 75 2))) (jt_l 75 (.inl (jo_b 76 (fun x y => x + y)))))) (jt_n 80 (jt_n 77 (jt_l 76 (.inl (jo_ia 77))) (jt_l 77 (.inl (jo_if 80 95 (fun x => decide (x < 0)))))) (jt_n 81 (jt_l 80 (.inl (jo_al 81 0))) (jt_l 81 (.inl (jo_gf 84 12 10)))))) (jt_n 89 (jt_n 87 (jt_n 86 (jt_l 84 (.inl (jo_c 86 (nI 30)))) (jt_l 86 (.inl (jo_il 87 1)))) (jt_n 88 (jt_l 87 (.inl (jo_b 88 (fun x y => x * y)))) (jt_l 88 (.inl (jo_il 89 2))))) (jt_n 91 (jt_n 90 (jt_l 89 (.inl (jo_b 90 (fun x y => x + y)))) (jt_l 90 (.inl (jo_ia 91)))) (jt_n 92 (jt_l 91 (.inl (jo_c 92 (nI 2)))) (jt_l 92 (.inl (jo_ic 95 101 (fun x y => decide (x ≤ y))))))))))) (jt_n 143 (jt_n 119 (jt_n 108 (jt_n 100 (jt_n 96 (jt_l 95 (.inl (jo_al 96 0))) (jt_n 97 (jt_l 96 (.inl (jo_c 97 (-1)))) (jt_l 97 (.inr (.inl (130, 2, 100, some 12)))))) (jt_n 104 (jt_n 101 (jt_l 100 (.inr (.inr 1))) (jt_l 101 (.inl (jo_inc 104 3 2 (nI 1))))) (jt_n 107 (jt_l 104 (.inl (jo_go 56))) (jt_l 107 (.inl (jo_al 108 0)))))) (jt_n 113 (jt_n 111 (jt_l 108 (.inr (.inl (136, 1, 111, some 12)))) (jt_n 112 (jt_l 111 (.inl (jo_c 112 (nI 0)))) (jt_l 112 (.inl (jo_is 113 3 2))))) (jt_n 115 (jt_n 114 (jt_l 113 (.inl (jo_il 114 2))) (jt_l 114 (.inl (jo_al 115 0)))) (jt_n 118 (jt_l 115 (.inl (jo_gf 118 12 0))) (jt_l 118 (.inl (jo_al 119 0))))))) (jt_n 132 (jt_n 126 (jt_n 122 (jt_l 119 (.inl (jo_gf 122 12 1))) (jt_n 123 (jt_l 122 (.inl (jo_b 123 (fun x y => x * y)))) (jt_l 123 (.inl (jo_ic 126 177 (fun x y => decide (y ≤ x))))))) (jt_n 130 (jt_n 127 (jt_l 126 (.inl (jo_al 127 0))) (jt_l 127 (.inl (jo_gf 130 12 2)))) (jt_n 131 (jt_l 130 (.inl (jo_c 131 (nI 5)))) (jt_l 131 (.inl (jo_il 132 2)))))) (jt_n 137 (jt_n 133 (jt_l 132 (.inl (jo_al 133 0))) (jt_n 136 (jt_l 133 (.inl (jo_gf 136 12 1))) (jt_l 136 (.inl (jo_q 137 (fun x y => x / y)))))) (jt_n 139 (jt_n 138 (jt_l 137 (.inl (jo_b 138 (fun x y => x * y)))) (jt_l 138 (.inl (jo_il 139 2)))) (jt_n 140 (jt_l 139 (.inl (jo_al 140 0))) (jt_l 140 (.inl (jo_gf 143 12 1)))))))) (jt_n 164 (jt_n 152 (jt_n 146 (jt_n 144 (jt_l 143 (.inl (jo_q 144 (fun x y => x - x / y * y)))) (jt_n 145 (jt_l 144 (.inl (jo_b 145 (fun x y => x + y)))) (jt_l 145 (.inl (jo_il 146 2))))) (jt_n 150 (jt_n 147 (jt_l 146 (.inl (jo_al 147 0))) (jt_l 147 (.inl (jo_gf 150 12 9)))) (jt_n 151 (jt_l 150 (.inl (jo_il 151 1))) (jt_l 151 (.inl (jo_ia 152)))))) (jt_n 159 (jt_n 155 (jt_l 152 (.inl (jo_ic 155 169 (fun x y => decide (y ≤ x))))) (jt_n 156 (jt_l 155 (.inl (jo_al 156 0))) (jt_l 156 (.inl (jo_gf 159 12 10))))) (jt_n 162 (jt_n 161 (jt_l 159 (.inl (jo_c 161 (nI 30)))) (jt_l 161 (.inl (jo_il 162 1)))) (jt_n 163 (jt_l 162 (.inl (jo_b 163 (fun x y => x * y)))) (jt_l 163 (.inl (jo_il 164 2))))))) (jt_n 177 (jt_n 169 (jt_n 165 (jt_l 164 (.inl (jo_b 165 (fun x y => x + y)))) (jt_n 166 (jt_l 165 (.inl (jo_ia 166))) (jt_l 166 (.inl (jo_go 170))))) (jt_n 171 (jt_n 170 (jt_l 169 (.inl (jo_c 170 (nI 2)))) (jt_l 170 (.inl (jo_iw 171)))) (jt_n 174 (jt_l 171 (.inl (jo_inc 174 3 2 (nI 1)))) (jt_l 174 (.inl (jo_go 113)))))) (jt_n 183 (jt_n 179 (jt_n 178 (jt_l 177 (.inl (jo_al 178 0))) (jt_l 178 (.inl (jo_c 179 (nI 0))))) (jt_n 182 (jt_l 179 (.inl (jo_pf 182 12 14 0))) (jt_l 182 (.inl (jo_al 183 0))))) (jt_n 187 (jt_n 186 (jt_l 183 (.inl (jo_gf 186 12 9))) (jt_l 186 (.inl (jo_il 187 1)))) (jt_n 188 (jt_l 187 (.inl (jo_ia 188))) (jt_l 188 (.inr (.inr 1))))))))))
/-- TalkBenchModel.all()I -/
def jc_154 : Nat → Option jxI := (jt_n 11 (jt_n 7 (jt_n 3 (jt_n 2 (jt_l 0 (.inl (jo_c 2 (nI 32)))) (jt_l 2 (.inl (jo_c 3 (nI 1))))) (jt_n 4 (jt_l 3 (.inl (jo_al 4 0))) (jt_l 4 (.inl (jo_gf 7 12 0))))) (jt_n 9 (jt_n 8 (jt_l 7 (.inl (jo_b 8 (fun x y => x <<< (y &&& 31))))) (jt_l 8 (.inl (jo_c 9 (nI 1))))) (jt_n 10 (jt_l 9 (.inl (jo_b 10 (fun x y => x - y)))) (jt_l 10 (.inl (jo_b 11 (fun x y => x * y))))))) (jt_n 17 (jt_n 13 (jt_n 12 (jt_l 11 (.inl (jo_c 12 (nI 1)))) (jt_l 12 (.inl (jo_al 13 0)))) (jt_n 16 (jt_l 13 (.inl (jo_gf 16 12 1))) (jt_l 16 (.inl (jo_b 17 (fun x y => x <<< (y &&& 31))))))) (jt_n 19 (jt_n 18 (jt_l 17 (.inl (jo_b 18 (fun x y => x + y)))) (jt_l 18 (.inl (jo_c 19 (nI 1))))) (jt_n 20 (jt_l 19 (.inl (jo_b 20 (fun x y => x - y)))) (jt_l 20 (.inr (.inr 1)))))))
/-- TalkBenchModel.has(I)I -/
def jc_155 : Nat → Option jxI := (jt_n 47 (jt_n 21 (jt_n 6 (jt_n 3 (jt_n 1 (jt_l 0 (.inl (jo_c 1 (nI 0)))) (jt_n 2 (jt_l 1 (.inl (jo_is 2 5 2))) (jt_l 2 (.inl (jo_c 3 (nI 0)))))) (jt_n 4 (jt_l 3 (.inl (jo_is 4 5 3))) (jt_n 5 (jt_l 4 (.inl (jo_il 5 3))) (jt_l 5 (.inl (jo_al 6 0)))))) (jt_n 13 (jt_n 9 (jt_l 6 (.inl (jo_gf 9 12 0))) (jt_n 12 (jt_l 9 (.inl (jo_ic 12 89 (fun x y => decide (y ≤ x))))) (jt_l 12 (.inl (jo_c 13 (nI 0)))))) (jt_n 17 (jt_n 15 (jt_l 13 (.inl (jo_is 15 5 4))) (jt_l 15 (.inl (jo_il 17 4)))) (jt_n 18 (jt_l 17 (.inl (jo_al 18 0))) (jt_l 18 (.inl (jo_gf 21 12 1))))))) (jt_n 34 (jt_n 26 (jt_n 24 (jt_l 21 (.inl (jo_ic 24 83 (fun x y => decide (y ≤ x))))) (jt_n 25 (jt_l 24 (.inl (jo_il 25 1))) (jt_l 25 (.inl (jo_c 26 (nI 5)))))) (jt_n 28 (jt_n 27 (jt_l 26 (.inl (jo_b 27 (fun x y => x >>> (y &&& 31))))) (jt_l 27 (.inl (jo_il 28 3)))) (jt_n 31 (jt_l 28 (.inr (.inl (132, 2, 31, none)))) (jt_l 31 (.inl (jo_if 34 77 (fun x => decide (x = 0)))))))) (jt_n 38 (jt_n 35 (jt_l 34 (.inl (jo_il 35 1))) (jt_n 37 (jt_l 35 (.inl (jo_c 37 (nI 31)))) (jt_l 37 (.inl (jo_b 38 (fun x y => x &&& y)))))) (jt_n 43 (jt_n 40 (jt_l 38 (.inl (jo_il 40 4))) (jt_l 40 (.inr (.inl (132, 2, 43, none))))) (jt_n 46 (jt_l 43 (.inl (jo_if 46 77 (fun x => decide (x = 0))))) (jt_l 46 (.inl (jo_al 47 0)))))))) (jt_n 68 (jt_n 57 (jt_n 52 (jt_n 50 (jt_l 47 (.inl (jo_gf 50 12 2))) (jt_n 51 (jt_l 50 (.inl (jo_c 51 (nI 5)))) (jt_l 51 (.inl (jo_il 52 3))))) (jt_n 55 (jt_n 53 (jt_l 52 (.inl (jo_b 53 (fun x y => x * y)))) (jt_l 53 (.inl (jo_il 55 4)))) (jt_n 56 (jt_l 55 (.inl (jo_b 56 (fun x y => x + y)))) (jt_l 56 (.inl (jo_ia 57)))))) (jt_n 62 (jt_n 58 (jt_l 57 (.inl (jo_c 58 (nI 2)))) (jt_n 61 (jt_l 58 (.inl (jo_ic 61 77 (fun x y => decide (y ≤ x))))) (jt_l 61 (.inl (jo_il 62 2))))) (jt_n 64 (jt_n 63 (jt_l 62 (.inl (jo_c 63 (nI 1)))) (jt_l 63 (.inl (jo_al 64 0)))) (jt_n 67 (jt_l 64 (.inl (jo_gf 67 12 2))) (jt_l 67 (.inl (jo_c 68 (nI 5)))))))) (jt_n 76 (jt_n 72 (jt_n 69 (jt_l 68 (.inl (jo_il 69 3))) (jt_n 70 (jt_l 69 (.inl (jo_b 70 (fun x y => x * y)))) (jt_l 70 (.inl (jo_il 72 4))))) (jt_n 74 (jt_n 73 (jt_l 72 (.inl (jo_b 73 (fun x y => x + y)))) (jt_l 73 (.inl (jo_ia 74)))) (jt_n 75 (jt_l 74 (.inl (jo_b 75 (fun x y => x <<< (y &&& 31))))) (jt_l 75 (.inl (jo_b 76 (fun x y => x ||| y))))))) (jt_n 83 (jt_n 77 (jt_l 76 (.inl (jo_is 77 5 2))) (jt_n 80 (jt_l 77 (.inl (jo_inc 80 5 4 (nI 1)))) (jt_l 80 (.inl (jo_go 15))))) (jt_n 89 (jt_n 86 (jt_l 83 (.inl (jo_inc 86 5 3 (nI 1)))) (jt_l 86 (.inl (jo_go 4)))) (jt_n 90 (jt_l 89 (.inl (jo_il 90 2))) (jt_l 90 (.inr (.inr 1)))))))))
/-- TalkBenchModel.isEven(I)Z -/
def jc_156 : Nat → Option jxI := (jt_n 6 (jt_n 2 (jt_n 1 (jt_l 0 (.inl (jo_al 1 0))) (jt_l 1 (.inl (jo_il 2 1)))) (jt_n 5 (jt_l 2 (.inr (.inl (155, 2, 5, some 12)))) (jt_l 5 (.inl (jo_c 6 (nI 3)))))) (jt_n 10 (jt_n 9 (jt_l 6 (.inl (jo_ic 9 13 (fun x y => decide (x = y))))) (jt_l 9 (.inl (jo_c 10 (nI 1))))) (jt_n 13 (jt_l 10 (.inl (jo_go 14))) (jt_n 14 (jt_l 13 (.inl (jo_c 14 (nI 0)))) (jt_l 14 (.inr (.inr 2)))))))
/-- TalkBenchModel.isBlock(I)Z -/
def jc_157 : Nat → Option jxI := (jt_n 16 (jt_n 7 (jt_n 2 (jt_n 1 (jt_l 0 (.inl (jo_il 1 1))) (jt_l 1 (.inl (jo_c 2 (nI 5))))) (jt_n 3 (jt_l 2 (.inl (jo_b 3 (fun x y => x >>> (y &&& 31))))) (jt_n 6 (jt_l 3 (.inl (jo_if 6 30 (fun x => decide (x = 0))))) (jt_l 6 (.inl (jo_il 7 1)))))) (jt_n 10 (jt_n 9 (jt_l 7 (.inl (jo_c 9 (nI 31)))) (jt_l 9 (.inl (jo_b 10 (fun x y => x &&& y))))) (jt_n 13 (jt_l 10 (.inl (jo_if 13 30 (fun x => decide (x = 0))))) (jt_n 14 (jt_l 13 (.inl (jo_il 14 1))) (jt_l 14 (.inl (jo_c 16 (nI 31)))))))) (jt_n 23 (jt_n 18 (jt_n 17 (jt_l 16 (.inl (jo_b 17 (fun x y => x &&& y)))) (jt_l 17 (.inl (jo_c 18 (nI 1))))) (jt_n 19 (jt_l 18 (.inl (jo_al 19 0))) (jt_n 22 (jt_l 19 (.inl (jo_gf 22 12 1))) (jt_l 22 (.inl (jo_b 23 (fun x y => x <<< (y &&& 31)))))))) (jt_n 27 (jt_n 26 (jt_l 23 (.inl (jo_ic 26 30 (fun x y => decide (y ≤ x))))) (jt_l 26 (.inl (jo_c 27 (nI 1))))) (jt_n 30 (jt_l 27 (.inl (jo_go 31))) (jt_n 31 (jt_l 30 (.inl (jo_c 31 (nI 0)))) (jt_l 31 (.inr (.inr 2))))))))
/-- TalkBenchModel.tellBlocks()V -/
def jc_158 : Nat → Option jxI := (jt_n 59 (jt_n 28 (jt_n 12 (jt_n 4 (jt_n 2 (jt_n 1 (jt_l 0 (.inl (jo_c 1 (nI 0)))) (jt_l 1 (.inl (jo_is 2 4 1)))) (jt_n 3 (jt_l 2 (.inl (jo_il 3 1))) (jt_l 3 (.inl (jo_al 4 0))))) (jt_n 10 (jt_n 7 (jt_l 4 (.inr (.inl (154, 1, 7, some 12)))) (jt_l 7 (.inl (jo_ic 10 112 (fun x y => decide (y < x)))))) (jt_n 11 (jt_l 10 (.inl (jo_al 11 0))) (jt_l 11 (.inl (jo_il 12 1)))))) (jt_n 22 (jt_n 18 (jt_n 15 (jt_l 12 (.inr (.inl (157, 2, 15, some 12)))) (jt_l 15 (.inl (jo_if 18 21 (fun x => decide (¬ x = 0)))))) (jt_n 21 (jt_l 18 (.inl (jo_go 106))) (jt_l 21 (.inl (jo_al 22 0))))) (jt_n 26 (jt_n 23 (jt_l 22 (.inl (jo_il 23 1))) (jt_l 23 (.inr (.inl (156, 2, 26, some 12))))) (jt_n 27 (jt_l 26 (.inl (jo_is 27 4 2))) (jt_l 27 (.inl (jo_al 28 0))))))) (jt_n 43 (jt_n 36 (jt_n 32 (jt_n 31 (jt_l 28 (.inl (jo_gf 31 12 16))) (jt_l 31 (.inl (jo_il 32 1)))) (jt_n 33 (jt_l 32 (.inl (jo_il 33 2))) (jt_l 33 (.inl (jo_if 36 40 (fun x => decide (x = 0))))))) (jt_n 40 (jt_n 37 (jt_l 36 (.inl (jo_c 37 (nI 0)))) (jt_l 37 (.inl (jo_go 42)))) (jt_n 42 (jt_l 40 (.inl (jo_c 42 (nI 100)))) (jt_l 42 (.inl (jo_iw 43)))))) (jt_n 49 (jt_n 47 (jt_n 44 (jt_l 43 (.inl (jo_al 44 0))) (jt_l 44 (.inl (jo_gf 47 12 17)))) (jt_n 48 (jt_l 47 (.inl (jo_il 48 1))) (jt_l 48 (.inl (jo_il 49 2))))) (jt_n 53 (jt_n 52 (jt_l 49 (.inl (jo_if 52 56 (fun x => decide (x = 0))))) (jt_l 52 (.inl (jo_c 53 (nI 1))))) (jt_n 56 (jt_l 53 (.inl (jo_go 59))) (jt_l 56 (.inl (jo_c 59 (nI 1000))))))))) (jt_n 82 (jt_n 72 (jt_n 63 (jt_n 61 (jt_n 60 (jt_l 59 (.inl (jo_iw 60))) (jt_l 60 (.inl (jo_c 61 (nI 0))))) (jt_n 62 (jt_l 61 (.inl (jo_is 62 4 3))) (jt_l 62 (.inl (jo_il 63 3))))) (jt_n 68 (jt_n 65 (jt_l 63 (.inl (jo_c 65 (nI 32)))) (jt_l 65 (.inl (jo_ic 68 106 (fun x y => decide (y ≤ x)))))) (jt_n 69 (jt_l 68 (.inl (jo_il 69 2))) (jt_l 69 (.inl (jo_if 72 106 (fun x => decide (¬ x = 0)))))))) (jt_n 76 (jt_n 74 (jt_n 73 (jt_l 72 (.inl (jo_al 73 0))) (jt_l 73 (.inl (jo_il 74 1)))) (jt_n 75 (jt_l 74 (.inl (jo_al 75 0))) (jt_l 75 (.inl (jo_il 76 1))))) (jt_n 78 (jt_n 77 (jt_l 76 (.inl (jo_il 77 3))) (jt_l 77 (.inl (jo_c 78 (nI 1))))) (jt_n 81 (jt_l 78 (.inr (.inl (159, 4, 81, some 12)))) (jt_l 81 (.inl (jo_il 82 3))))))) (jt_n 92 (jt_n 88 (jt_n 84 (jt_n 83 (jt_l 82 (.inl (jo_c 83 (nI 5)))) (jt_l 83 (.inl (jo_b 84 (fun x y => x <<< (y &&& 31)))))) (jt_n 87 (jt_l 84 (.inr (.inl (160, 4, 87, some 12)))) (jt_l 87 (.inl (jo_al 88 0))))) (jt_n 90 (jt_n 89 (jt_l 88 (.inl (jo_il 89 1))) (jt_l 89 (.inl (jo_al 90 0)))) (jt_n 91 (jt_l 90 (.inl (jo_il 91 1))) (jt_l 91 (.inl (jo_il 92 3)))))) (jt_n 100 (jt_n 96 (jt_n 93 (jt_l 92 (.inl (jo_c 93 (nI 0)))) (jt_l 93 (.inr (.inl (159, 4, 96, some 12))))) (jt_n 97 (jt_l 96 (.inl (jo_il 97 3))) (jt_l 97 (.inr (.inl (160, 4, 100, some 12)))))) (jt_n 106 (jt_n 103 (jt_l 100 (.inl (jo_inc 103 4 3 (nI 1)))) (jt_l 103 (.inl (jo_go 62)))) (jt_n 109 (jt_l 106 (.inl (jo_inc 109 4 1 (nI 1)))) (jt_n 112 (jt_l 109 (.inl (jo_go 2))) (jt_l 112 (.inr (.inr 0))))))))))
/-- TalkBenchModel.parted(IIZ)Z -/
def jc_159 : Nat → Option jxI := (jt_n 23 (jt_n 11 (jt_n 5 (jt_n 1 (jt_l 0 (.inl (jo_il 1 3))) (jt_n 4 (jt_l 1 (.inl (jo_if 4 10 (fun x => decide (x = 0))))) (jt_l 4 (.inl (jo_il 5 1))))) (jt_n 7 (jt_n 6 (jt_l 5 (.inl (jo_c 6 (nI 5)))) (jt_l 6 (.inl (jo_b 7 (fun x y => x >>> (y &&& 31)))))) (jt_n 10 (jt_l 7 (.inl (jo_go 14))) (jt_l 10 (.inl (jo_il 11 1)))))) (jt_n 16 (jt_n 13 (jt_l 11 (.inl (jo_c 13 (nI 31)))) (jt_n 14 (jt_l 13 (.inl (jo_b 14 (fun x y => x &&& y)))) (jt_l 14 (.inl (jo_is 16 5 4))))) (jt_n 20 (jt_n 17 (jt_l 16 (.inl (jo_il 17 2))) (jt_l 17 (.inl (jo_if 20 44 (fun x => decide (x = 0)))))) (jt_n 21 (jt_l 20 (.inl (jo_il 21 2))) (jt_l 21 (.inl (jo_il 23 4))))))) (jt_n 34 (jt_n 26 (jt_n 24 (jt_l 23 (.inl (jo_c 24 (-1)))) (jt_n 25 (jt_l 24 (.inl (jo_b 25 (fun x y => x ^^^ y)))) (jt_l 25 (.inl (jo_b 26 (fun x y => x &&& y)))))) (jt_n 30 (jt_n 29 (jt_l 26 (.inl (jo_if 29 44 (fun x => decide (¬ x = 0))))) (jt_l 29 (.inl (jo_il 30 2)))) (jt_n 32 (jt_l 30 (.inl (jo_il 32 4))) (jt_l 32 (.inl (jo_il 34 4)))))) (jt_n 40 (jt_n 36 (jt_n 35 (jt_l 34 (.inl (jo_1 35 (fun x => -x)))) (jt_l 35 (.inl (jo_b 36 (fun x y => x &&& y))))) (jt_n 37 (jt_l 36 (.inl (jo_b 37 (fun x y => x &&& y)))) (jt_l 37 (.inl (jo_if 40 44 (fun x => decide (¬ x = 0))))))) (jt_n 44 (jt_n 41 (jt_l 40 (.inl (jo_c 41 (nI 1)))) (jt_l 41 (.inl (jo_go 45)))) (jt_n 45 (jt_l 44 (.inl (jo_c 45 (nI 0)))) (jt_l 45 (.inr (.inr 2))))))))
/-- TalkBenchModel.takeBest(IZI)V -/
def jc_160 : Nat → Option jxI := (jt_n 73 (jt_n 32 (jt_n 16 (jt_n 7 (jt_n 4 (jt_n 1 (jt_l 0 (.inl (jo_il 1 2))) (jt_l 1 (.inl (jo_if 4 145 (fun x => decide (x = 0)))))) (jt_n 5 (jt_l 4 (.inl (jo_il 5 1))) (jt_n 6 (jt_l 5 (.inl (jo_il 6 3))) (jt_l 6 (.inl (jo_b 7 (fun x y => x ^^^ y))))))) (jt_n 10 (jt_n 9 (jt_l 7 (.inl (jo_is 9 8 4))) (jt_l 9 (.inl (jo_il 10 3)))) (jt_n 12 (jt_l 10 (.inl (jo_c 12 (nI 32)))) (jt_n 15 (jt_l 12 (.inl (jo_ic 15 24 (fun x y => decide (y ≤ x))))) (jt_l 15 (.inl (jo_il 16 1))))))) (jt_n 24 (jt_n 19 (jt_n 18 (jt_l 16 (.inl (jo_c 18 (-32)))) (jt_l 18 (.inl (jo_b 19 (fun x y => x &&& y))))) (jt_n 20 (jt_l 19 (.inl (jo_il 20 3))) (jt_n 21 (jt_l 20 (.inl (jo_b 21 (fun x y => x ||| y)))) (jt_l 21 (.inl (jo_go 30)))))) (jt_n 28 (jt_n 25 (jt_l 24 (.inl (jo_il 25 3))) (jt_n 26 (jt_l 25 (.inl (jo_il 26 1))) (jt_l 26 (.inl (jo_c 28 (nI 31)))))) (jt_n 29 (jt_l 28 (.inl (jo_b 29 (fun x y => x &&& y)))) (jt_n 30 (jt_l 29 (.inl (jo_b 30 (fun x y => x ||| y)))) (jt_l 30 (.inl (jo_is 32 8 5)))))))) (jt_n 53 (jt_n 40 (jt_n 36 (jt_n 33 (jt_l 32 (.inl (jo_al 33 0))) (jt_l 33 (.inl (jo_gf 36 12 16)))) (jt_n 38 (jt_l 36 (.inl (jo_il 38 4))) (jt_n 39 (jt_l 38 (.inl (jo_ia 39))) (jt_l 39 (.inl (jo_al 40 0)))))) (jt_n 46 (jt_n 43 (jt_l 40 (.inl (jo_gf 43 12 16))) (jt_n 45 (jt_l 43 (.inl (jo_il 45 5))) (jt_l 45 (.inl (jo_ia 46))))) (jt_n 49 (jt_l 46 (.inl (jo_ic 49 59 (fun x y => decide (x ≤ y))))) (jt_n 50 (jt_l 49 (.inl (jo_al 50 0))) (jt_l 50 (.inl (jo_gf 53 12 16))))))) (jt_n 63 (jt_n 56 (jt_n 55 (jt_l 53 (.inl (jo_il 55 4))) (jt_l 55 (.inl (jo_ia 56)))) (jt_n 59 (jt_l 56 (.inl (jo_go 66))) (jt_n 60 (jt_l 59 (.inl (jo_al 60 0))) (jt_l 60 (.inl (jo_gf 63 12 16)))))) (jt_n 68 (jt_n 65 (jt_l 63 (.inl (jo_il 65 5))) (jt_n 66 (jt_l 65 (.inl (jo_ia 66))) (jt_l 66 (.inl (jo_is 68 8 6))))) (jt_n 69 (jt_l 68 (.inl (jo_al 69 0))) (jt_n 72 (jt_l 69 (.inl (jo_gf 72 12 16))) (jt_l 72 (.inl (jo_il 73 1))))))))) (jt_n 108 (jt_n 90 (jt_n 81 (jt_n 76 (jt_n 75 (jt_l 73 (.inl (jo_il 75 6))) (jt_l 75 (.inl (jo_c 76 (nI 1))))) (jt_n 77 (jt_l 76 (.inl (jo_b 77 (fun x y => x + y)))) (jt_n 78 (jt_l 77 (.inl (jo_al 78 0))) (jt_l 78 (.inl (jo_gf 81 12 16)))))) (jt_n 86 (jt_n 82 (jt_l 81 (.inl (jo_il 82 1))) (jt_n 83 (jt_l 82 (.inl (jo_ia 83))) (jt_l 83 (.inl (jo_ic 86 93 (fun x y => decide (y ≤ x))))))) (jt_n 88 (jt_l 86 (.inl (jo_il 88 6))) (jt_n 89 (jt_l 88 (.inl (jo_c 89 (nI 1)))) (jt_l 89 (.inl (jo_b 90 (fun x y => x + y)))))))) (jt_n 99 (jt_n 94 (jt_n 93 (jt_l 90 (.inl (jo_go 99))) (jt_l 93 (.inl (jo_al 94 0)))) (jt_n 97 (jt_l 94 (.inl (jo_gf 97 12 16))) (jt_n 98 (jt_l 97 (.inl (jo_il 98 1))) (jt_l 98 (.inl (jo_ia 99)))))) (jt_n 104 (jt_n 100 (jt_l 99 (.inl (jo_iw 100))) (jt_n 101 (jt_l 100 (.inl (jo_al 101 0))) (jt_l 101 (.inl (jo_gf 104 12 17))))) (jt_n 106 (jt_l 104 (.inl (jo_il 106 4))) (jt_n 107 (jt_l 106 (.inl (jo_ia 107))) (jt_l 107 (.inl (jo_al 108 0)))))))) (jt_n 128 (jt_n 117 (jt_n 113 (jt_n 111 (jt_l 108 (.inl (jo_gf 111 12 17))) (jt_l 111 (.inl (jo_il 113 5)))) (jt_n 114 (jt_l 113 (.inl (jo_ia 114))) (jt_n 115 (jt_l 114 (.inl (jo_b 115 (fun x y => x + y)))) (jt_l 115 (.inl (jo_is 117 8 7)))))) (jt_n 122 (jt_n 118 (jt_l 117 (.inl (jo_al 118 0))) (jt_n 121 (jt_l 118 (.inl (jo_gf 121 12 17))) (jt_l 121 (.inl (jo_il 122 1))))) (jt_n 124 (jt_l 122 (.inl (jo_il 124 7))) (jt_n 125 (jt_l 124 (.inl (jo_al 125 0))) (jt_l 125 (.inl (jo_gf 128 12 17))))))) (jt_n 138 (jt_n 130 (jt_n 129 (jt_l 128 (.inl (jo_il 129 1))) (jt_l 129 (.inl (jo_ia 130)))) (jt_n 133 (jt_l 130 (.inl (jo_ic 133 138 (fun x y => decide (y ≤ x))))) (jt_n 135 (jt_l 133 (.inl (jo_il 135 7))) (jt_l 135 (.inl (jo_go 144)))))) (jt_n 143 (jt_n 139 (jt_l 138 (.inl (jo_al 139 0))) (jt_n 142 (jt_l 139 (.inl (jo_gf 142 12 17))) (jt_l 142 (.inl (jo_il 143 1))))) (jt_n 144 (jt_l 143 (.inl (jo_ia 144))) (jt_n 145 (jt_l 144 (.inl (jo_iw 145))) (jt_l 145 (.inr (.inr 0))))))))))
/-- TalkBenchModel.areSets(II)Z -/
def jc_161 : Nat → Option jxI := (jt_n 18 (jt_n 7 (jt_n 4 (jt_n 1 (jt_l 0 (.inl (jo_il 1 1))) (jt_l 1 (.inl (jo_if 4 32 (fun x => decide (x ≤ 0)))))) (jt_n 5 (jt_l 4 (.inl (jo_il 5 1))) (jt_n 6 (jt_l 5 (.inl (jo_c 6 (nI 1)))) (jt_l 6 (.inl (jo_al 7 0)))))) (jt_n 11 (jt_n 10 (jt_l 7 (.inl (jo_gf 10 12 0))) (jt_l 10 (.inl (jo_b 11 (fun x y => x <<< (y &&& 31)))))) (jt_n 14 (jt_l 11 (.inl (jo_ic 14 32 (fun x y => decide (y ≤ x))))) (jt_n 15 (jt_l 14 (.inl (jo_il 15 2))) (jt_l 15 (.inl (jo_if 18 32 (fun x => decide (x ≤ 0))))))))) (jt_n 25 (jt_n 20 (jt_n 19 (jt_l 18 (.inl (jo_il 19 2))) (jt_l 19 (.inl (jo_c 20 (nI 1))))) (jt_n 21 (jt_l 20 (.inl (jo_al 21 0))) (jt_n 24 (jt_l 21 (.inl (jo_gf 24 12 1))) (jt_l 24 (.inl (jo_b 25 (fun x y => x <<< (y &&& 31)))))))) (jt_n 29 (jt_n 28 (jt_l 25 (.inl (jo_ic 28 32 (fun x y => decide (y ≤ x))))) (jt_l 28 (.inl (jo_c 29 (nI 1))))) (jt_n 32 (jt_l 29 (.inl (jo_go 33))) (jt_n 33 (jt_l 32 (.inl (jo_c 33 (nI 0)))) (jt_l 33 (.inr (.inr 2))))))))
/-- TalkBenchModel.bits(II)I -/
def jc_162 : Nat → Option jxI := (jt_n 16 (jt_n 9 (jt_n 2 (jt_n 1 (jt_l 0 (.inl (jo_al 1 0))) (jt_l 1 (.inl (jo_il 2 1)))) (jt_n 3 (jt_l 2 (.inl (jo_il 3 2))) (jt_n 6 (jt_l 3 (.inr (.inl (161, 3, 6, some 12)))) (jt_l 6 (.inl (jo_if 9 15 (fun x => decide (¬ x = 0)))))))) (jt_n 11 (jt_n 10 (jt_l 9 (.inl (jo_al 10 0))) (jt_l 10 (.inl (jo_c 11 (-1))))) (jt_n 14 (jt_l 11 (.inr (.inl (130, 2, 14, some 12)))) (jt_n 15 (jt_l 14 (.inr (.inr 1))) (jt_l 15 (.inl (jo_al 16 0))))))) (jt_n 26 (jt_n 20 (jt_n 19 (jt_l 16 (.inr (.inl (158, 1, 19, some 12)))) (jt_l 19 (.inl (jo_al 20 0)))) (jt_n 23 (jt_l 20 (.inl (jo_gf 23 12 16))) (jt_n 25 (jt_l 23 (.inl (jo_c 25 (nI 32)))) (jt_l 25 (.inl (jo_il 26 1)))))) (jt_n 28 (jt_n 27 (jt_l 26 (.inl (jo_b 27 (fun x y => x * y)))) (jt_l 27 (.inl (jo_il 28 2)))) (jt_n 29 (jt_l 28 (.inl (jo_b 29 (fun x y => x + y)))) (jt_n 30 (jt_l 29 (.inl (jo_ia 30))) (jt_l 30 (.inr (.inr 1))))))))
/-- TalkBenchModel.ends(II)I -/
def jc_163 : Nat → Option jxI := (jt_n 16 (jt_n 9 (jt_n 2 (jt_n 1 (jt_l 0 (.inl (jo_al 1 0))) (jt_l 1 (.inl (jo_il 2 1)))) (jt_n 3 (jt_l 2 (.inl (jo_il 3 2))) (jt_n 6 (jt_l 3 (.inr (.inl (161, 3, 6, some 12)))) (jt_l 6 (.inl (jo_if 9 15 (fun x => decide (¬ x = 0)))))))) (jt_n 11 (jt_n 10 (jt_l 9 (.inl (jo_al 10 0))) (jt_l 10 (.inl (jo_c 11 (-1))))) (jt_n 14 (jt_l 11 (.inr (.inl (130, 2, 14, some 12)))) (jt_n 15 (jt_l 14 (.inr (.inr 1))) (jt_l 15 (.inl (jo_al 16 0))))))) (jt_n 26 (jt_n 20 (jt_n 19 (jt_l 16 (.inr (.inl (158, 1, 19, some 12)))) (jt_l 19 (.inl (jo_al 20 0)))) (jt_n 23 (jt_l 20 (.inl (jo_gf 23 12 17))) (jt_n 25 (jt_l 23 (.inl (jo_c 25 (nI 32)))) (jt_l 25 (.inl (jo_il 26 1)))))) (jt_n 28 (jt_n 27 (jt_l 26 (.inl (jo_b 27 (fun x y => x * y)))) (jt_l 27 (.inl (jo_il 28 2)))) (jt_n 29 (jt_l 28 (.inl (jo_b 29 (fun x y => x + y)))) (jt_n 30 (jt_l 29 (.inl (jo_ia 30))) (jt_l 30 (.inr (.inr 1))))))))
/-- TalkBenchModel.reaches(II)Z -/
def jc_164 : Nat → Option jxI := (jt_n 37 (jt_n 16 (jt_n 7 (jt_n 3 (jt_n 1 (jt_l 0 (.inl (jo_il 1 1))) (jt_n 2 (jt_l 1 (.inl (jo_il 2 2))) (jt_l 2 (.inl (jo_b 3 (fun x y => x ^^^ y)))))) (jt_n 4 (jt_l 3 (.inl (jo_is 4 6 3))) (jt_n 5 (jt_l 4 (.inl (jo_il 5 2))) (jt_l 5 (.inl (jo_c 7 (nI 32))))))) (jt_n 13 (jt_n 10 (jt_l 7 (.inl (jo_ic 10 19 (fun x y => decide (y ≤ x))))) (jt_n 11 (jt_l 10 (.inl (jo_il 11 1))) (jt_l 11 (.inl (jo_c 13 (-32)))))) (jt_n 14 (jt_l 13 (.inl (jo_b 14 (fun x y => x &&& y)))) (jt_n 15 (jt_l 14 (.inl (jo_il 15 2))) (jt_l 15 (.inl (jo_b 16 (fun x y => x ||| y)))))))) (jt_n 25 (jt_n 21 (jt_n 19 (jt_l 16 (.inl (jo_go 25))) (jt_n 20 (jt_l 19 (.inl (jo_il 20 2))) (jt_l 20 (.inl (jo_il 21 1))))) (jt_n 23 (jt_l 21 (.inl (jo_c 23 (nI 31)))) (jt_n 24 (jt_l 23 (.inl (jo_b 24 (fun x y => x &&& y)))) (jt_l 24 (.inl (jo_b 25 (fun x y => x ||| y))))))) (jt_n 31 (jt_n 27 (jt_l 25 (.inl (jo_is 27 6 4))) (jt_n 28 (jt_l 27 (.inl (jo_al 28 0))) (jt_l 28 (.inl (jo_gf 31 12 16))))) (jt_n 33 (jt_n 32 (jt_l 31 (.inl (jo_il 32 3))) (jt_l 32 (.inl (jo_ia 33)))) (jt_n 34 (jt_l 33 (.inl (jo_al 34 0))) (jt_l 34 (.inl (jo_gf 37 12 16)))))))) (jt_n 59 (jt_n 48 (jt_n 43 (jt_n 39 (jt_l 37 (.inl (jo_il 39 4))) (jt_n 40 (jt_l 39 (.inl (jo_ia 40))) (jt_l 40 (.inl (jo_ic 43 52 (fun x y => decide (x ≤ y))))))) (jt_n 44 (jt_l 43 (.inl (jo_al 44 0))) (jt_n 47 (jt_l 44 (.inl (jo_gf 47 12 16))) (jt_l 47 (.inl (jo_il 48 3)))))) (jt_n 53 (jt_n 49 (jt_l 48 (.inl (jo_ia 49))) (jt_n 52 (jt_l 49 (.inl (jo_go 59))) (jt_l 52 (.inl (jo_al 53 0))))) (jt_n 56 (jt_l 53 (.inl (jo_gf 56 12 16))) (jt_n 58 (jt_l 56 (.inl (jo_il 58 4))) (jt_l 58 (.inl (jo_ia 59))))))) (jt_n 69 (jt_n 64 (jt_n 61 (jt_l 59 (.inl (jo_is 61 6 5))) (jt_n 63 (jt_l 61 (.inl (jo_il 63 5))) (jt_l 63 (.inl (jo_c 64 (nI 1)))))) (jt_n 65 (jt_l 64 (.inl (jo_b 65 (fun x y => x + y)))) (jt_n 66 (jt_l 65 (.inl (jo_al 66 0))) (jt_l 66 (.inl (jo_gf 69 12 16)))))) (jt_n 74 (jt_n 70 (jt_l 69 (.inl (jo_il 70 1))) (jt_n 71 (jt_l 70 (.inl (jo_ia 71))) (jt_l 71 (.inl (jo_ic 74 78 (fun x y => decide (¬ x = y))))))) (jt_n 78 (jt_n 75 (jt_l 74 (.inl (jo_c 75 (nI 1)))) (jt_l 75 (.inl (jo_go 79)))) (jt_n 79 (jt_l 78 (.inl (jo_c 79 (nI 0)))) (jt_l 79 (.inr (.inr 2)))))))))
/-- TalkBenchModel.parting(I)I -/
def jc_165 : Nat → Option jxI := (jt_n 31 (jt_n 15 (jt_n 8 (jt_n 2 (jt_n 1 (jt_l 0 (.inl (jo_c 1 (nI 1)))) (jt_l 1 (.inl (jo_is 2 3 2)))) (jt_n 3 (jt_l 2 (.inl (jo_il 3 2))) (jt_n 5 (jt_l 3 (.inl (jo_c 5 (nI 32)))) (jt_l 5 (.inl (jo_ic 8 39 (fun x y => decide (y ≤ x)))))))) (jt_n 10 (jt_n 9 (jt_l 8 (.inl (jo_al 9 0))) (jt_l 9 (.inl (jo_il 10 1)))) (jt_n 11 (jt_l 10 (.inl (jo_il 11 2))) (jt_n 12 (jt_l 11 (.inl (jo_c 12 (nI 1)))) (jt_l 12 (.inr (.inl (159, 4, 15, some 12)))))))) (jt_n 22 (jt_n 19 (jt_n 18 (jt_l 15 (.inl (jo_if 18 33 (fun x => decide (x = 0))))) (jt_l 18 (.inl (jo_al 19 0)))) (jt_n 20 (jt_l 19 (.inl (jo_il 20 1))) (jt_n 21 (jt_l 20 (.inl (jo_il 21 2))) (jt_l 21 (.inl (jo_c 22 (nI 5))))))) (jt_n 26 (jt_n 23 (jt_l 22 (.inl (jo_b 23 (fun x y => x <<< (y &&& 31))))) (jt_l 23 (.inr (.inl (164, 3, 26, some 12))))) (jt_n 29 (jt_l 26 (.inl (jo_if 29 33 (fun x => decide (x = 0))))) (jt_n 30 (jt_l 29 (.inl (jo_il 30 2))) (jt_l 30 (.inl (jo_c 31 (nI 5))))))))) (jt_n 45 (jt_n 40 (jt_n 33 (jt_n 32 (jt_l 31 (.inl (jo_b 32 (fun x y => x <<< (y &&& 31))))) (jt_l 32 (.inr (.inr 1)))) (jt_n 36 (jt_l 33 (.inl (jo_inc 36 3 2 (nI 1)))) (jt_n 39 (jt_l 36 (.inl (jo_go 2))) (jt_l 39 (.inl (jo_c 40 (nI 1))))))) (jt_n 42 (jt_n 41 (jt_l 40 (.inl (jo_is 41 3 2))) (jt_l 41 (.inl (jo_al 42 0)))) (jt_n 43 (jt_l 42 (.inl (jo_il 43 1))) (jt_n 44 (jt_l 43 (.inl (jo_il 44 2))) (jt_l 44 (.inl (jo_c 45 (nI 0)))))))) (jt_n 54 (jt_n 51 (jt_n 48 (jt_l 45 (.inr (.inl (159, 4, 48, some 12)))) (jt_l 48 (.inl (jo_if 51 60 (fun x => decide (x = 0)))))) (jt_n 52 (jt_l 51 (.inl (jo_al 52 0))) (jt_n 53 (jt_l 52 (.inl (jo_il 53 1))) (jt_l 53 (.inl (jo_il 54 2)))))) (jt_n 63 (jt_n 57 (jt_l 54 (.inr (.inl (164, 3, 57, some 12)))) (jt_n 60 (jt_l 57 (.inl (jo_if 60 66 (fun x => decide (¬ x = 0))))) (jt_l 60 (.inl (jo_inc 63 3 2 (nI 1)))))) (jt_n 66 (jt_l 63 (.inl (jo_go 41))) (jt_n 67 (jt_l 66 (.inl (jo_il 67 2))) (jt_l 67 (.inr (.inr 1)))))))))
/-- TalkBenchModel.talk()I -/
def jc_166 : Nat → Option jxI := (jt_n 147 (jt_n 71 (jt_n 35 (jt_n 16 (jt_n 9 (jt_n 4 (jt_n 1 (jt_l 0 (.inl (jo_al 1 0))) (jt_l 1 (.inr (.inl (158, 1, 4, some 12))))) (jt_n 5 (jt_l 4 (.inl (jo_al 5 0))) (jt_n 6 (jt_l 5 (.inl (jo_c 6 (nI 0)))) (jt_l 6 (.inl (jo_pf 9 12 14 0)))))) (jt_n 11 (jt_n 10 (jt_l 9 (.inl (jo_c 10 (nI 1)))) (jt_l 10 (.inl (jo_is 11 6 1)))) (jt_n 12 (jt_l 11 (.inl (jo_al 12 0))) (jt_n 15 (jt_l 12 (.inl (jo_gf 15 12 24))) (jt_l 15 (.inl (jo_c 16 (nI 0)))))))) (jt_n 25 (jt_n 20 (jt_n 17 (jt_l 16 (.inl (jo_al 17 0))) (jt_l 17 (.inr (.inl (154, 1, 20, some 12))))) (jt_n 21 (jt_l 20 (.inl (jo_iw 21))) (jt_n 22 (jt_l 21 (.inl (jo_al 22 0))) (jt_l 22 (.inl (jo_gf 25 12 25)))))) (jt_n 28 (jt_n 26 (jt_l 25 (.inl (jo_c 26 (nI 0)))) (jt_n 27 (jt_l 26 (.inl (jo_c 27 (-1)))) (jt_l 27 (.inl (jo_iw 28))))) (jt_n 29 (jt_l 28 (.inl (jo_il 29 1))) (jt_n 32 (jt_l 29 (.inl (jo_if 32 290 (fun x => decide (x ≤ 0))))) (jt_l 32 (.inl (jo_inc 35 6 1 (-1))))))))) (jt_n 50 (jt_n 42 (jt_n 39 (jt_n 36 (jt_l 35 (.inl (jo_al 36 0))) (jt_l 36 (.inl (jo_gf 39 12 24)))) (jt_n 40 (jt_l 39 (.inl (jo_il 40 1))) (jt_n 41 (jt_l 40 (.inl (jo_ia 41))) (jt_l 41 (.inl (jo_is 42 6 2)))))) (jt_n 47 (jt_n 43 (jt_l 42 (.inl (jo_al 43 0))) (jt_n 46 (jt_l 43 (.inl (jo_gf 46 12 25))) (jt_l 46 (.inl (jo_il 47 1))))) (jt_n 48 (jt_l 47 (.inl (jo_ia 48))) (jt_n 49 (jt_l 48 (.inl (jo_is 49 6 3))) (jt_l 49 (.inl (jo_al 50 0))))))) (jt_n 60 (jt_n 55 (jt_n 53 (jt_l 50 (.inl (jo_gf 53 12 14))) (jt_l 53 (.inl (jo_is 55 6 4)))) (jt_n 56 (jt_l 55 (.inl (jo_al 56 0))) (jt_n 57 (jt_l 56 (.inl (jo_d 57))) (jt_l 57 (.inl (jo_gf 60 12 14)))))) (jt_n 65 (jt_n 61 (jt_l 60 (.inl (jo_c 61 (nI 1)))) (jt_n 62 (jt_l 61 (.inl (jo_b 62 (fun x y => x + y)))) (jt_l 62 (.inl (jo_pf 65 12 14 0))))) (jt_n 66 (jt_l 65 (.inl (jo_al 66 0))) (jt_n 69 (jt_l 66 (.inl (jo_gf 69 12 18))) (jt_l 69 (.inl (jo_il 71 4))))))))) (jt_n 106 (jt_n 91 (jt_n 79 (jt_n 73 (jt_n 72 (jt_l 71 (.inl (jo_il 72 2))) (jt_l 72 (.inl (jo_iw 73)))) (jt_n 74 (jt_l 73 (.inl (jo_al 74 0))) (jt_n 77 (jt_l 74 (.inl (jo_gf 77 12 22))) (jt_l 77 (.inl (jo_il 79 4)))))) (jt_n 84 (jt_n 80 (jt_l 79 (.inl (jo_il 80 3))) (jt_n 83 (jt_l 80 (.inl (jo_if 83 87 (fun x => decide (0 ≤ x))))) (jt_l 83 (.inl (jo_c 84 (nI 0)))))) (jt_n 87 (jt_l 84 (.inl (jo_go 95))) (jt_n 88 (jt_l 87 (.inl (jo_al 88 0))) (jt_l 88 (.inl (jo_gf 91 12 22))))))) (jt_n 96 (jt_n 93 (jt_n 92 (jt_l 91 (.inl (jo_il 92 3))) (jt_l 92 (.inl (jo_ia 93)))) (jt_n 94 (jt_l 93 (.inl (jo_c 94 (nI 1)))) (jt_n 95 (jt_l 94 (.inl (jo_b 95 (fun x y => x + y)))) (jt_l 95 (.inl (jo_iw 96)))))) (jt_n 101 (jt_n 97 (jt_l 96 (.inl (jo_il 97 3))) (jt_n 100 (jt_l 97 (.inl (jo_if 100 120 (fun x => decide (x < 0))))) (jt_l 100 (.inl (jo_al 101 0))))) (jt_n 104 (jt_l 101 (.inl (jo_gf 104 12 20))) (jt_n 105 (jt_l 104 (.inl (jo_il 105 3))) (jt_l 105 (.inl (jo_ia 106)))))))) (jt_n 128 (jt_n 116 (jt_n 110 (jt_n 109 (jt_l 106 (.inl (jo_if 109 120 (fun x => decide (0 ≤ x))))) (jt_l 109 (.inl (jo_al 110 0)))) (jt_n 113 (jt_l 110 (.inl (jo_gf 113 12 20))) (jt_n 114 (jt_l 113 (.inl (jo_il 114 3))) (jt_l 114 (.inl (jo_il 116 4)))))) (jt_n 121 (jt_n 117 (jt_l 116 (.inl (jo_iw 117))) (jt_n 120 (jt_l 117 (.inl (jo_go 132))) (jt_l 120 (.inl (jo_il 121 3))))) (jt_n 124 (jt_l 121 (.inl (jo_if 124 132 (fun x => decide (x < 0))))) (jt_n 125 (jt_l 124 (.inl (jo_al 125 0))) (jt_l 125 (.inl (jo_gf 128 12 21))))))) (jt_n 134 (jt_n 131 (jt_n 129 (jt_l 128 (.inl (jo_il 129 3))) (jt_l 129 (.inl (jo_il 131 4)))) (jt_n 132 (jt_l 131 (.inl (jo_iw 132))) (jt_n 133 (jt_l 132 (.inl (jo_al 133 0))) (jt_l 133 (.inl (jo_il 134 2)))))) (jt_n 141 (jt_n 137 (jt_l 134 (.inr (.inl (156, 2, 137, some 12)))) (jt_n 140 (jt_l 137 (.inl (jo_if 140 181 (fun x => decide (x = 0))))) (jt_l 140 (.inl (jo_al 141 0))))) (jt_n 144 (jt_l 141 (.inl (jo_gf 144 12 19))) (jt_n 146 (jt_l 144 (.inl (jo_il 146 4))) (jt_l 146 (.inl (jo_c 147 (nI 2))))))))))) (jt_n 224 (jt_n 183 (jt_n 164 (jt_n 155 (jt_n 149 (jt_n 148 (jt_l 147 (.inl (jo_iw 148))) (jt_l 148 (.inl (jo_al 149 0)))) (jt_n 152 (jt_l 149 (.inl (jo_gf 152 12 20))) (jt_n 154 (jt_l 152 (.inl (jo_il 154 4))) (jt_l 154 (.inl (jo_al 155 0)))))) (jt_n 159 (jt_n 156 (jt_l 155 (.inl (jo_il 156 2))) (jt_l 156 (.inr (.inl (155, 2, 159, some 12))))) (jt_n 160 (jt_l 159 (.inl (jo_c 160 (nI 2)))) (jt_n 163 (jt_l 160 (.inl (jo_ic 163 167 (fun x y => decide (¬ x = y))))) (jt_l 163 (.inl (jo_c 164 (nI 1)))))))) (jt_n 173 (jt_n 168 (jt_n 167 (jt_l 164 (.inl (jo_go 168))) (jt_l 167 (.inl (jo_c 168 (nI 0))))) (jt_n 169 (jt_l 168 (.inl (jo_iw 169))) (jt_n 170 (jt_l 169 (.inl (jo_al 170 0))) (jt_l 170 (.inl (jo_gf 173 12 21)))))) (jt_n 178 (jt_n 175 (jt_l 173 (.inl (jo_il 175 4))) (jt_n 177 (jt_l 175 (.inl (jo_c 177 (-100)))) (jt_l 177 (.inl (jo_iw 178))))) (jt_n 181 (jt_l 178 (.inl (jo_go 28))) (jt_n 182 (jt_l 181 (.inl (jo_al 182 0))) (jt_l 182 (.inl (jo_il 183 2)))))))) (jt_n 206 (jt_n 194 (jt_n 188 (jt_n 186 (jt_l 183 (.inr (.inl (165, 2, 186, some 12)))) (jt_l 186 (.inl (jo_is 188 6 5)))) (jt_n 189 (jt_l 188 (.inl (jo_al 189 0))) (jt_n 192 (jt_l 189 (.inl (jo_gf 192 12 19))) (jt_l 192 (.inl (jo_il 194 4)))))) (jt_n 201 (jt_n 196 (jt_l 194 (.inl (jo_il 196 5))) (jt_n 198 (jt_l 196 (.inl (jo_c 198 (nI 32)))) (jt_l 198 (.inl (jo_ic 201 205 (fun x y => decide (y ≤ x))))))) (jt_n 202 (jt_l 201 (.inl (jo_c 202 (nI 1)))) (jt_n 205 (jt_l 202 (.inl (jo_go 206))) (jt_l 205 (.inl (jo_c 206 (nI 0)))))))) (jt_n 215 (jt_n 208 (jt_n 207 (jt_l 206 (.inl (jo_iw 207))) (jt_l 207 (.inl (jo_al 208 0)))) (jt_n 211 (jt_l 208 (.inl (jo_gf 211 12 23))) (jt_n 213 (jt_l 211 (.inl (jo_il 213 4))) (jt_l 213 (.inl (jo_il 215 5)))))) (jt_n 220 (jt_n 216 (jt_l 215 (.inl (jo_iw 216))) (jt_n 217 (jt_l 216 (.inl (jo_al 217 0))) (jt_l 217 (.inl (jo_gf 220 12 20))))) (jt_n 222 (jt_l 220 (.inl (jo_il 222 4))) (jt_n 223 (jt_l 222 (.inl (jo_c 223 (-1)))) (jt_l 223 (.inl (jo_iw 224))))))))) (jt_n 261 (jt_n 243 (jt_n 233 (jt_n 228 (jt_n 225 (jt_l 224 (.inl (jo_al 225 0))) (jt_l 225 (.inl (jo_gf 228 12 24)))) (jt_n 229 (jt_l 228 (.inl (jo_il 229 1))) (jt_n 231 (jt_l 229 (.inl (jo_il 231 5))) (jt_l 231 (.inl (jo_c 233 (nI 32))))))) (jt_n 239 (jt_n 236 (jt_l 233 (.inl (jo_ic 236 246 (fun x y => decide (y ≤ x))))) (jt_n 237 (jt_l 236 (.inl (jo_il 237 2))) (jt_l 237 (.inl (jo_c 239 (-32)))))) (jt_n 240 (jt_l 239 (.inl (jo_b 240 (fun x y => x &&& y)))) (jt_n 242 (jt_l 240 (.inl (jo_il 242 5))) (jt_l 242 (.inl (jo_b 243 (fun x y => x ||| y)))))))) (jt_n 252 (jt_n 248 (jt_n 246 (jt_l 243 (.inl (jo_go 253))) (jt_l 246 (.inl (jo_il 248 5)))) (jt_n 249 (jt_l 248 (.inl (jo_il 249 2))) (jt_n 251 (jt_l 249 (.inl (jo_c 251 (nI 31)))) (jt_l 251 (.inl (jo_b 252 (fun x y => x &&& y))))))) (jt_n 255 (jt_n 253 (jt_l 252 (.inl (jo_b 253 (fun x y => x ||| y)))) (jt_n 254 (jt_l 253 (.inl (jo_iw 254))) (jt_l 254 (.inl (jo_al 255 0))))) (jt_n 258 (jt_l 255 (.inl (jo_gf 258 12 25))) (jt_n 259 (jt_l 258 (.inl (jo_il 259 1))) (jt_l 259 (.inl (jo_il 261 4)))))))) (jt_n 275 (jt_n 268 (jt_n 263 (jt_n 262 (jt_l 261 (.inl (jo_iw 262))) (jt_l 262 (.inl (jo_al 263 0)))) (jt_n 266 (jt_l 263 (.inl (jo_gf 266 12 24))) (jt_n 267 (jt_l 266 (.inl (jo_il 267 1))) (jt_l 267 (.inl (jo_c 268 (nI 1))))))) (jt_n 272 (jt_n 269 (jt_l 268 (.inl (jo_b 269 (fun x y => x + y)))) (jt_n 270 (jt_l 269 (.inl (jo_il 270 2))) (jt_l 270 (.inl (jo_il 272 5))))) (jt_n 273 (jt_l 272 (.inl (jo_b 273 (fun x y => x ^^^ y)))) (jt_n 274 (jt_l 273 (.inl (jo_iw 274))) (jt_l 274 (.inl (jo_al 275 0))))))) (jt_n 283 (jt_n 279 (jt_n 278 (jt_l 275 (.inl (jo_gf 278 12 25))) (jt_l 278 (.inl (jo_il 279 1)))) (jt_n 280 (jt_l 279 (.inl (jo_c 280 (nI 1)))) (jt_n 281 (jt_l 280 (.inl (jo_b 281 (fun x y => x + y)))) (jt_l 281 (.inl (jo_il 283 4)))))) (jt_n 290 (jt_n 284 (jt_l 283 (.inl (jo_iw 284))) (jt_n 287 (jt_l 284 (.inl (jo_inc 287 6 1 (nI 2)))) (jt_l 287 (.inl (jo_go 28))))) (jt_n 291 (jt_l 290 (.inl (jo_al 291 0))) (jt_n 294 (jt_l 291 (.inl (jo_gf 294 12 14))) (jt_l 294 (.inr (.inr 1)))))))))))
/-- TalkBenchModel.knot(II)I -/
def jc_167 : Nat → Option jxI := (jt_n 83 (jt_n 27 (jt_n 14 (jt_n 7 (jt_n 1 (jt_l 0 (.inl (jo_al 1 0))) (jt_n 4 (jt_l 1 (.inl (jo_gf 4 12 14))) (jt_l 4 (.inl (jo_if 7 14 (fun x => decide (¬ x = 0))))))) (jt_n 10 (jt_n 8 (jt_l 7 (.inl (jo_al 8 0))) (jt_l 8 (.inl (jo_c 10 (-6))))) (jt_n 13 (jt_l 10 (.inr (.inl (130, 2, 13, some 12)))) (jt_l 13 (.inr (.inr 1)))))) (jt_n 19 (jt_n 15 (jt_l 14 (.inl (jo_il 15 1))) (jt_n 18 (jt_l 15 (.inl (jo_if 18 35 (fun x => decide (x < 0))))) (jt_l 18 (.inl (jo_il 19 1))))) (jt_n 23 (jt_n 20 (jt_l 19 (.inl (jo_al 20 0))) (jt_l 20 (.inl (jo_gf 23 12 14)))) (jt_n 26 (jt_l 23 (.inl (jo_ic 26 35 (fun x y => decide (y ≤ x))))) (jt_l 26 (.inl (jo_il 27 2))))))) (jt_n 40 (jt_n 32 (jt_n 30 (jt_l 27 (.inl (jo_if 30 35 (fun x => decide (x < 0))))) (jt_n 31 (jt_l 30 (.inl (jo_il 31 2))) (jt_l 31 (.inl (jo_c 32 (nI 5)))))) (jt_n 36 (jt_n 35 (jt_l 32 (.inl (jo_ic 35 41 (fun x y => decide (x ≤ y))))) (jt_l 35 (.inl (jo_al 36 0)))) (jt_n 37 (jt_l 36 (.inl (jo_c 37 (-1)))) (jt_l 37 (.inr (.inl (130, 2, 40, some 12))))))) (jt_n 77 (jt_n 42 (jt_n 41 (jt_l 40 (.inr (.inr 1))) (jt_l 41 (.inl (jo_il 42 2)))) (jt_n 76 (jt_l 42 (.inl (jo_sw (js_swt 42 74 0 4 [34, 41, 50, 60, 67])))) (jt_l 76 (.inl (jo_al 77 0))))) (jt_n 81 (jt_n 80 (jt_l 77 (.inl (jo_gf 80 12 19))) (jt_l 80 (.inl (jo_il 81 1)))) (jt_n 82 (jt_l 81 (.inl (jo_ia 82))) (jt_l 82 (.inr (.inr 1)))))))) (jt_n 102 (jt_n 92 (jt_n 88 (jt_n 84 (jt_l 83 (.inl (jo_al 84 0))) (jt_n 87 (jt_l 84 (.inl (jo_gf 87 12 18))) (jt_l 87 (.inl (jo_il 88 1))))) (jt_n 90 (jt_n 89 (jt_l 88 (.inl (jo_ia 89))) (jt_l 89 (.inl (jo_c 90 (nI 5))))) (jt_n 91 (jt_l 90 (.inl (jo_b 91 (fun x y => x >>> (y &&& 31))))) (jt_l 91 (.inr (.inr 1)))))) (jt_n 97 (jt_n 93 (jt_l 92 (.inl (jo_al 93 0))) (jt_n 96 (jt_l 93 (.inl (jo_gf 96 12 18))) (jt_l 96 (.inl (jo_il 97 1))))) (jt_n 100 (jt_n 98 (jt_l 97 (.inl (jo_ia 98))) (jt_l 98 (.inl (jo_c 100 (nI 31))))) (jt_n 101 (jt_l 100 (.inl (jo_b 101 (fun x y => x &&& y)))) (jt_l 101 (.inr (.inr 1))))))) (jt_n 113 (jt_n 107 (jt_n 103 (jt_l 102 (.inl (jo_al 103 0))) (jt_n 106 (jt_l 103 (.inl (jo_gf 106 12 20))) (jt_l 106 (.inl (jo_il 107 1))))) (jt_n 109 (jt_n 108 (jt_l 107 (.inl (jo_ia 108))) (jt_l 108 (.inr (.inr 1)))) (jt_n 110 (jt_l 109 (.inl (jo_al 110 0))) (jt_l 110 (.inl (jo_gf 113 12 21)))))) (jt_n 117 (jt_n 115 (jt_n 114 (jt_l 113 (.inl (jo_il 114 1))) (jt_l 114 (.inl (jo_ia 115)))) (jt_n 116 (jt_l 115 (.inr (.inr 1))) (jt_l 116 (.inl (jo_al 117 0))))) (jt_n 121 (jt_n 120 (jt_l 117 (.inl (jo_gf 120 12 22))) (jt_l 120 (.inl (jo_il 121 1)))) (jt_n 122 (jt_l 121 (.inl (jo_ia 122))) (jt_l 122 (.inr (.inr 1)))))))))
/-- TalkBenchModel.said(II)I -/
def jc_168 : Nat → Option jxI := (jt_n 60 (jt_n 31 (jt_n 16 (jt_n 8 (jt_n 4 (jt_n 1 (jt_l 0 (.inl (jo_al 1 0))) (jt_l 1 (.inl (jo_gf 4 12 14)))) (jt_n 7 (jt_l 4 (.inl (jo_if 7 14 (fun x => decide (¬ x = 0))))) (jt_l 7 (.inl (jo_al 8 0))))) (jt_n 13 (jt_n 10 (jt_l 8 (.inl (jo_c 10 (-6)))) (jt_l 10 (.inr (.inl (130, 2, 13, some 12))))) (jt_n 14 (jt_l 13 (.inr (.inr 1))) (jt_n 15 (jt_l 14 (.inl (jo_al 15 0))) (jt_l 15 (.inl (jo_il 16 1))))))) (jt_n 24 (jt_n 20 (jt_n 17 (jt_l 16 (.inl (jo_il 17 2))) (jt_l 17 (.inr (.inl (131, 3, 20, some 12))))) (jt_n 23 (jt_l 20 (.inl (jo_if 23 29 (fun x => decide (¬ x = 0))))) (jt_l 23 (.inl (jo_al 24 0))))) (jt_n 28 (jt_n 25 (jt_l 24 (.inl (jo_c 25 (-1)))) (jt_l 25 (.inr (.inl (130, 2, 28, some 12))))) (jt_n 29 (jt_l 28 (.inr (.inr 1))) (jt_n 30 (jt_l 29 (.inl (jo_c 30 (nI 0)))) (jt_l 30 (.inl (jo_is 31 6 3)))))))) (jt_n 45 (jt_n 38 (jt_n 34 (jt_n 32 (jt_l 31 (.inl (jo_c 32 (nI 1)))) (jt_l 32 (.inl (jo_is 34 6 4)))) (jt_n 35 (jt_l 34 (.inl (jo_al 35 0))) (jt_l 35 (.inl (jo_gf 38 12 19))))) (jt_n 40 (jt_n 39 (jt_l 38 (.inl (jo_il 39 3))) (jt_l 39 (.inl (jo_ia 40)))) (jt_n 41 (jt_l 40 (.inl (jo_c 41 (nI 2)))) (jt_n 44 (jt_l 41 (.inl (jo_ic 44 121 (fun x y => decide (x = y))))) (jt_l 44 (.inl (jo_al 45 0))))))) (jt_n 53 (jt_n 49 (jt_n 48 (jt_l 45 (.inl (jo_gf 48 12 19))) (jt_l 48 (.inl (jo_il 49 3)))) (jt_n 50 (jt_l 49 (.inl (jo_ia 50))) (jt_l 50 (.inl (jo_if 53 68 (fun x => decide (¬ x = 0))))))) (jt_n 57 (jt_n 54 (jt_l 53 (.inl (jo_al 54 0))) (jt_l 54 (.inl (jo_gf 57 12 23)))) (jt_n 58 (jt_l 57 (.inl (jo_il 58 3))) (jt_n 59 (jt_l 58 (.inl (jo_ia 59))) (jt_l 59 (.inl (jo_c 60 (nI 5)))))))))) (jt_n 93 (jt_n 75 (jt_n 68 (jt_n 62 (jt_n 61 (jt_l 60 (.inl (jo_b 61 (fun x y => x >>> (y &&& 31))))) (jt_l 61 (.inl (jo_il 62 1)))) (jt_n 65 (jt_l 62 (.inr (.inl (132, 2, 65, none)))) (jt_l 65 (.inl (jo_go 78))))) (jt_n 72 (jt_n 69 (jt_l 68 (.inl (jo_al 69 0))) (jt_l 69 (.inl (jo_gf 72 12 23)))) (jt_n 73 (jt_l 72 (.inl (jo_il 73 3))) (jt_n 74 (jt_l 73 (.inl (jo_ia 74))) (jt_l 74 (.inl (jo_il 75 2))))))) (jt_n 83 (jt_n 80 (jt_n 78 (jt_l 75 (.inr (.inl (132, 2, 78, none)))) (jt_l 78 (.inl (jo_is 80 6 5)))) (jt_n 81 (jt_l 80 (.inl (jo_c 81 (nI 2)))) (jt_l 81 (.inl (jo_il 83 4))))) (jt_n 86 (jt_n 84 (jt_l 83 (.inl (jo_b 84 (fun x y => x * y)))) (jt_l 84 (.inl (jo_il 86 5)))) (jt_n 89 (jt_l 86 (.inl (jo_if 89 93 (fun x => decide (x = 0))))) (jt_n 90 (jt_l 89 (.inl (jo_c 90 (nI 1)))) (jt_l 90 (.inl (jo_go 94)))))))) (jt_n 108 (jt_n 99 (jt_n 95 (jt_n 94 (jt_l 93 (.inl (jo_c 94 (nI 0)))) (jt_l 94 (.inl (jo_b 95 (fun x y => x + y))))) (jt_n 97 (jt_l 95 (.inl (jo_is 97 6 4))) (jt_l 97 (.inl (jo_il 99 5))))) (jt_n 103 (jt_n 102 (jt_l 99 (.inl (jo_if 102 111 (fun x => decide (x = 0))))) (jt_l 102 (.inl (jo_al 103 0)))) (jt_n 106 (jt_l 103 (.inl (jo_gf 106 12 21))) (jt_n 107 (jt_l 106 (.inl (jo_il 107 3))) (jt_l 107 (.inl (jo_ia 108))))))) (jt_n 116 (jt_n 112 (jt_n 111 (jt_l 108 (.inl (jo_go 117))) (jt_l 111 (.inl (jo_al 112 0)))) (jt_n 115 (jt_l 112 (.inl (jo_gf 115 12 20))) (jt_l 115 (.inl (jo_il 116 3))))) (jt_n 118 (jt_n 117 (jt_l 116 (.inl (jo_ia 117))) (jt_l 117 (.inl (jo_is 118 6 3)))) (jt_n 121 (jt_l 118 (.inl (jo_go 34))) (jt_n 123 (jt_l 121 (.inl (jo_il 123 4))) (jt_l 123 (.inr (.inr 1))))))))))
/-- TalkBenchModel.quarrel(ZII)Z -/
def jc_169 : Nat → Option jxI := (jt_n 45 (jt_n 23 (jt_n 9 (jt_n 4 (jt_n 1 (jt_l 0 (.inl (jo_c 1 (nI 0)))) (jt_n 3 (jt_l 1 (.inl (jo_is 3 6 4))) (jt_l 3 (.inl (jo_c 4 (nI 0)))))) (jt_n 6 (jt_l 4 (.inl (jo_is 6 6 5))) (jt_n 8 (jt_l 6 (.inl (jo_il 8 5))) (jt_l 8 (.inl (jo_il 9 1)))))) (jt_n 16 (jt_n 12 (jt_l 9 (.inl (jo_if 12 19 (fun x => decide (x = 0))))) (jt_n 13 (jt_l 12 (.inl (jo_al 13 0))) (jt_l 13 (.inl (jo_gf 16 12 0))))) (jt_n 19 (jt_l 16 (.inl (jo_go 23))) (jt_n 20 (jt_l 19 (.inl (jo_al 20 0))) (jt_l 20 (.inl (jo_gf 23 12 1))))))) (jt_n 33 (jt_n 29 (jt_n 26 (jt_l 23 (.inl (jo_ic 26 87 (fun x y => decide (y ≤ x))))) (jt_n 28 (jt_l 26 (.inl (jo_il 28 4))) (jt_l 28 (.inl (jo_al 29 0))))) (jt_n 30 (jt_l 29 (.inl (jo_il 30 1))) (jt_n 31 (jt_l 30 (.inl (jo_il 31 2))) (jt_l 31 (.inl (jo_il 33 5)))))) (jt_n 38 (jt_n 36 (jt_l 33 (.inr (.inl (146, 4, 36, some 12)))) (jt_n 37 (jt_l 36 (.inl (jo_al 37 0))) (jt_l 37 (.inl (jo_il 38 1))))) (jt_n 41 (jt_n 39 (jt_l 38 (.inl (jo_il 39 3))) (jt_l 39 (.inl (jo_il 41 5)))) (jt_n 44 (jt_l 41 (.inr (.inl (146, 4, 44, some 12)))) (jt_l 44 (.inl (jo_b 45 (fun x y => x + y))))))))) (jt_n 64 (jt_n 54 (jt_n 50 (jt_n 46 (jt_l 45 (.inl (jo_c 46 (nI 1)))) (jt_n 49 (jt_l 46 (.inl (jo_ic 49 77 (fun x y => decide (¬ x = y))))) (jt_l 49 (.inl (jo_al 50 0))))) (jt_n 51 (jt_l 50 (.inl (jo_il 51 1))) (jt_n 52 (jt_l 51 (.inl (jo_il 52 2))) (jt_l 52 (.inl (jo_il 54 5)))))) (jt_n 61 (jt_n 57 (jt_l 54 (.inr (.inl (146, 4, 57, some 12)))) (jt_n 58 (jt_l 57 (.inl (jo_c 58 (nI 2)))) (jt_l 58 (.inl (jo_ic 61 77 (fun x y => decide (y ≤ x))))))) (jt_n 62 (jt_l 61 (.inl (jo_al 62 0))) (jt_n 63 (jt_l 62 (.inl (jo_il 63 1))) (jt_l 63 (.inl (jo_il 64 3))))))) (jt_n 77 (jt_n 70 (jt_n 66 (jt_l 64 (.inl (jo_il 66 5))) (jt_n 69 (jt_l 66 (.inr (.inl (146, 4, 69, some 12)))) (jt_l 69 (.inl (jo_c 70 (nI 2)))))) (jt_n 73 (jt_l 70 (.inl (jo_ic 73 77 (fun x y => decide (y ≤ x))))) (jt_n 74 (jt_l 73 (.inl (jo_c 74 (nI 1)))) (jt_l 74 (.inl (jo_go 78)))))) (jt_n 81 (jt_n 78 (jt_l 77 (.inl (jo_c 78 (nI 0)))) (jt_n 79 (jt_l 78 (.inl (jo_b 79 (fun x y => x ||| y)))) (jt_l 79 (.inl (jo_is 81 6 4))))) (jt_n 87 (jt_n 84 (jt_l 81 (.inl (jo_inc 84 6 5 (nI 1)))) (jt_l 84 (.inl (jo_go 6)))) (jt_n 89 (jt_l 87 (.inl (jo_il 89 4))) (jt_l 89 (.inr (.inr 2)))))))))
/-- TalkBenchModel.classes(Z)I -/
def jc_170 : Nat → Option jxI := (jt_n 108 (jt_n 49 (jt_n 25 (jt_n 15 (jt_n 5 (jt_n 1 (jt_l 0 (.inl (jo_il 1 1))) (jt_n 4 (jt_l 1 (.inl (jo_if 4 11 (fun x => decide (x = 0))))) (jt_l 4 (.inl (jo_al 5 0))))) (jt_n 11 (jt_n 8 (jt_l 5 (.inl (jo_gf 8 12 1))) (jt_l 8 (.inl (jo_go 15)))) (jt_n 12 (jt_l 11 (.inl (jo_al 12 0))) (jt_l 12 (.inl (jo_gf 15 12 0)))))) (jt_n 21 (jt_n 17 (jt_n 16 (jt_l 15 (.inl (jo_is 16 8 2))) (jt_l 16 (.inl (jo_al 17 0)))) (jt_n 20 (jt_l 17 (.inl (jo_gf 20 12 26))) (jt_l 20 (.inl (jo_c 21 (nI 0)))))) (jt_n 23 (jt_n 22 (jt_l 21 (.inl (jo_c 22 (nI 0)))) (jt_l 22 (.inl (jo_iw 23)))) (jt_n 24 (jt_l 23 (.inl (jo_c 24 (nI 1)))) (jt_l 24 (.inl (jo_is 25 8 3))))))) (jt_n 36 (jt_n 28 (jt_n 26 (jt_l 25 (.inl (jo_il 26 3))) (jt_n 27 (jt_l 26 (.inl (jo_c 27 (nI 1)))) (jt_l 27 (.inl (jo_il 28 2))))) (jt_n 32 (jt_n 29 (jt_l 28 (.inl (jo_b 29 (fun x y => x <<< (y &&& 31))))) (jt_l 29 (.inl (jo_ic 32 205 (fun x y => decide (y ≤ x)))))) (jt_n 33 (jt_l 32 (.inl (jo_al 33 0))) (jt_l 33 (.inl (jo_gf 36 12 26)))))) (jt_n 41 (jt_n 39 (jt_n 37 (jt_l 36 (.inl (jo_il 37 3))) (jt_l 37 (.inl (jo_c 39 (nI 100))))) (jt_n 40 (jt_l 39 (.inl (jo_iw 40))) (jt_l 40 (.inl (jo_c 41 (nI 1)))))) (jt_n 45 (jt_n 43 (jt_l 41 (.inl (jo_is 43 8 4))) (jt_l 43 (.inl (jo_il 45 4)))) (jt_n 46 (jt_l 45 (.inl (jo_il 46 3))) (jt_l 46 (.inl (jo_ic 49 199 (fun x y => decide (y < x)))))))))) (jt_n 74 (jt_n 59 (jt_n 53 (jt_n 51 (jt_l 49 (.inl (jo_il 51 4))) (jt_n 52 (jt_l 51 (.inl (jo_il 52 3))) (jt_l 52 (.inl (jo_c 53 (-1)))))) (jt_n 55 (jt_n 54 (jt_l 53 (.inl (jo_b 54 (fun x y => x ^^^ y)))) (jt_l 54 (.inl (jo_b 55 (fun x y => x &&& y))))) (jt_n 58 (jt_l 55 (.inl (jo_if 58 62 (fun x => decide (¬ x = 0))))) (jt_l 58 (.inl (jo_c 59 (nI 1))))))) (jt_n 66 (jt_n 63 (jt_n 62 (jt_l 59 (.inl (jo_go 63))) (jt_l 62 (.inl (jo_c 63 (nI 0))))) (jt_n 65 (jt_l 63 (.inl (jo_is 65 8 5))) (jt_l 65 (.inl (jo_c 66 (nI 0)))))) (jt_n 70 (jt_n 68 (jt_l 66 (.inl (jo_is 68 8 6))) (jt_l 68 (.inl (jo_il 70 6)))) (jt_n 71 (jt_l 70 (.inl (jo_il 71 2))) (jt_l 71 (.inl (jo_ic 74 138 (fun x y => decide (y ≤ x))))))))) (jt_n 90 (jt_n 81 (jt_n 77 (jt_n 75 (jt_l 74 (.inl (jo_c 75 (nI 0)))) (jt_l 75 (.inl (jo_is 77 8 7)))) (jt_n 79 (jt_l 77 (.inl (jo_il 79 7))) (jt_l 79 (.inl (jo_il 81 6))))) (jt_n 86 (jt_n 84 (jt_l 81 (.inl (jo_ic 84 132 (fun x y => decide (y ≤ x))))) (jt_l 84 (.inl (jo_il 86 5)))) (jt_n 88 (jt_l 86 (.inl (jo_il 88 4))) (jt_l 88 (.inl (jo_il 90 6)))))) (jt_n 100 (jt_n 96 (jt_n 93 (jt_l 90 (.inr (.inl (132, 2, 93, none)))) (jt_l 93 (.inl (jo_if 96 118 (fun x => decide (x = 0)))))) (jt_n 98 (jt_l 96 (.inl (jo_il 98 4))) (jt_l 98 (.inl (jo_il 100 7))))) (jt_n 106 (jt_n 103 (jt_l 100 (.inr (.inl (132, 2, 103, none)))) (jt_l 103 (.inl (jo_if 106 118 (fun x => decide (x = 0)))))) (jt_n 107 (jt_l 106 (.inl (jo_al 107 0))) (jt_l 107 (.inl (jo_il 108 1))))))))) (jt_n 166 (jt_n 142 (jt_n 123 (jt_n 115 (jt_n 110 (jt_l 108 (.inl (jo_il 110 6))) (jt_n 112 (jt_l 110 (.inl (jo_il 112 7))) (jt_l 112 (.inr (.inl (169, 4, 115, some 12)))))) (jt_n 119 (jt_n 118 (jt_l 115 (.inl (jo_if 118 122 (fun x => decide (¬ x = 0))))) (jt_l 118 (.inl (jo_c 119 (nI 1))))) (jt_n 122 (jt_l 119 (.inl (jo_go 123))) (jt_l 122 (.inl (jo_c 123 (nI 0))))))) (jt_n 132 (jt_n 126 (jt_n 124 (jt_l 123 (.inl (jo_b 124 (fun x y => x &&& y)))) (jt_l 124 (.inl (jo_is 126 8 5)))) (jt_n 129 (jt_l 126 (.inl (jo_inc 129 8 7 (nI 1)))) (jt_l 129 (.inl (jo_go 77))))) (jt_n 138 (jt_n 135 (jt_l 132 (.inl (jo_inc 135 8 6 (nI 1)))) (jt_l 135 (.inl (jo_go 68)))) (jt_n 139 (jt_l 138 (.inl (jo_al 139 0))) (jt_l 139 (.inl (jo_gf 142 12 26))))))) (jt_n 156 (jt_n 149 (jt_n 145 (jt_n 143 (jt_l 142 (.inl (jo_il 143 3))) (jt_l 143 (.inl (jo_il 145 5)))) (jt_n 148 (jt_l 145 (.inl (jo_if 148 186 (fun x => decide (x = 0))))) (jt_l 148 (.inl (jo_c 149 (nI 1)))))) (jt_n 153 (jt_n 150 (jt_l 149 (.inl (jo_al 150 0))) (jt_l 150 (.inl (jo_gf 153 12 26)))) (jt_n 154 (jt_l 153 (.inl (jo_il 154 3))) (jt_l 154 (.inl (jo_il 156 4)))))) (jt_n 160 (jt_n 158 (jt_n 157 (jt_l 156 (.inl (jo_c 157 (-1)))) (jt_l 157 (.inl (jo_b 158 (fun x y => x ^^^ y))))) (jt_n 159 (jt_l 158 (.inl (jo_b 159 (fun x y => x &&& y)))) (jt_l 159 (.inl (jo_ia 160))))) (jt_n 162 (jt_n 161 (jt_l 160 (.inl (jo_b 161 (fun x y => x + y)))) (jt_l 161 (.inl (jo_al 162 0)))) (jt_n 165 (jt_l 162 (.inl (jo_gf 165 12 26))) (jt_l 165 (.inl (jo_il 166 3)))))))) (jt_n 190 (jt_n 178 (jt_n 171 (jt_n 167 (jt_l 166 (.inl (jo_ia 167))) (jt_n 170 (jt_l 167 (.inl (jo_ic 170 186 (fun x y => decide (y ≤ x))))) (jt_l 170 (.inl (jo_c 171 (nI 1)))))) (jt_n 175 (jt_n 172 (jt_l 171 (.inl (jo_al 172 0))) (jt_l 172 (.inl (jo_gf 175 12 26)))) (jt_n 176 (jt_l 175 (.inl (jo_il 176 3))) (jt_l 176 (.inl (jo_il 178 4)))))) (jt_n 182 (jt_n 180 (jt_n 179 (jt_l 178 (.inl (jo_c 179 (-1)))) (jt_l 179 (.inl (jo_b 180 (fun x y => x ^^^ y))))) (jt_n 181 (jt_l 180 (.inl (jo_b 181 (fun x y => x &&& y)))) (jt_l 181 (.inl (jo_ia 182))))) (jt_n 186 (jt_n 183 (jt_l 182 (.inl (jo_b 183 (fun x y => x + y)))) (jt_l 183 (.inl (jo_go 192)))) (jt_n 187 (jt_l 186 (.inl (jo_al 187 0))) (jt_l 187 (.inl (jo_gf 190 12 26))))))) (jt_n 206 (jt_n 196 (jt_n 192 (jt_n 191 (jt_l 190 (.inl (jo_il 191 3))) (jt_l 191 (.inl (jo_ia 192)))) (jt_n 193 (jt_l 192 (.inl (jo_iw 193))) (jt_l 193 (.inl (jo_inc 196 8 4 (nI 1)))))) (jt_n 202 (jt_n 199 (jt_l 196 (.inl (jo_go 43))) (jt_l 199 (.inl (jo_inc 202 8 3 (nI 1))))) (jt_n 205 (jt_l 202 (.inl (jo_go 25))) (jt_l 205 (.inl (jo_al 206 0)))))) (jt_n 212 (jt_n 210 (jt_n 209 (jt_l 206 (.inl (jo_gf 209 12 26))) (jt_l 209 (.inl (jo_c 210 (nI 1))))) (jt_n 211 (jt_l 210 (.inl (jo_il 211 2))) (jt_l 211 (.inl (jo_b 212 (fun x y => x <<< (y &&& 31))))))) (jt_n 214 (jt_n 213 (jt_l 212 (.inl (jo_c 213 (nI 1)))) (jt_l 213 (.inl (jo_b 214 (fun x y => x - y))))) (jt_n 215 (jt_l 214 (.inl (jo_ia 215))) (jt_l 215 (.inr (.inr 1))))))))))
/-- TalkBenchModel.once(Z)I -/
def jc_171 : Nat → Option jxI := (jt_n 9 (jt_n 5 (jt_n 1 (jt_l 0 (.inl (jo_al 1 0))) (jt_n 2 (jt_l 1 (.inl (jo_il 2 1))) (jt_l 2 (.inr (.inl (170, 2, 5, some 12)))))) (jt_n 7 (jt_n 6 (jt_l 5 (.inl (jo_is 6 4 2))) (jt_l 6 (.inl (jo_c 7 (nI 0))))) (jt_n 8 (jt_l 7 (.inl (jo_is 8 4 3))) (jt_l 8 (.inl (jo_c 9 (nI 1))))))) (jt_n 15 (jt_n 11 (jt_n 10 (jt_l 9 (.inl (jo_il 10 3))) (jt_l 10 (.inl (jo_b 11 (fun x y => x <<< (y &&& 31)))))) (jt_n 12 (jt_l 11 (.inl (jo_il 12 2))) (jt_l 12 (.inl (jo_ic 15 21 (fun x y => decide (y ≤ x))))))) (jt_n 21 (jt_n 18 (jt_l 15 (.inl (jo_inc 18 4 3 (nI 1)))) (jt_l 18 (.inl (jo_go 8)))) (jt_n 22 (jt_l 21 (.inl (jo_il 22 3))) (jt_l 22 (.inr (.inr 1)))))))
/-- TalkBenchModel.swapLines(II)V -/
def jc_172 : Nat → Option jxI := (jt_n 30 (jt_n 16 (jt_n 7 (jt_n 2 (jt_n 1 (jt_l 0 (.inl (jo_c 1 (nI 0)))) (jt_l 1 (.inl (jo_is 2 6 3)))) (jt_n 3 (jt_l 2 (.inl (jo_il 3 3))) (jt_n 4 (jt_l 3 (.inl (jo_al 4 0))) (jt_l 4 (.inl (jo_gf 7 12 1)))))) (jt_n 11 (jt_n 10 (jt_l 7 (.inl (jo_ic 10 60 (fun x y => decide (y ≤ x))))) (jt_l 10 (.inl (jo_al 11 0)))) (jt_n 14 (jt_l 11 (.inl (jo_gf 14 12 27))) (jt_n 15 (jt_l 14 (.inl (jo_c 15 (nI 5)))) (jt_l 15 (.inl (jo_il 16 1))))))) (jt_n 22 (jt_n 18 (jt_n 17 (jt_l 16 (.inl (jo_b 17 (fun x y => x * y)))) (jt_l 17 (.inl (jo_il 18 3)))) (jt_n 19 (jt_l 18 (.inl (jo_b 19 (fun x y => x + y)))) (jt_n 20 (jt_l 19 (.inl (jo_la 20))) (jt_l 20 (.inl (jo_ls 22 6 4)))))) (jt_n 27 (jt_n 23 (jt_l 22 (.inl (jo_al 23 0))) (jt_n 26 (jt_l 23 (.inl (jo_gf 26 12 27))) (jt_l 26 (.inl (jo_c 27 (nI 5)))))) (jt_n 28 (jt_l 27 (.inl (jo_il 28 1))) (jt_n 29 (jt_l 28 (.inl (jo_b 29 (fun x y => x * y)))) (jt_l 29 (.inl (jo_il 30 3)))))))) (jt_n 43 (jt_n 37 (jt_n 32 (jt_n 31 (jt_l 30 (.inl (jo_b 31 (fun x y => x + y)))) (jt_l 31 (.inl (jo_al 32 0)))) (jt_n 35 (jt_l 32 (.inl (jo_gf 35 12 27))) (jt_n 36 (jt_l 35 (.inl (jo_c 36 (nI 5)))) (jt_l 36 (.inl (jo_il 37 2)))))) (jt_n 40 (jt_n 38 (jt_l 37 (.inl (jo_b 38 (fun x y => x * y)))) (jt_n 39 (jt_l 38 (.inl (jo_il 39 3))) (jt_l 39 (.inl (jo_b 40 (fun x y => x + y)))))) (jt_n 41 (jt_l 40 (.inl (jo_la 41))) (jt_n 42 (jt_l 41 (.inl (jo_lw 42))) (jt_l 42 (.inl (jo_al 43 0))))))) (jt_n 50 (jt_n 47 (jt_n 46 (jt_l 43 (.inl (jo_gf 46 12 27))) (jt_l 46 (.inl (jo_c 47 (nI 5))))) (jt_n 48 (jt_l 47 (.inl (jo_il 48 2))) (jt_n 49 (jt_l 48 (.inl (jo_b 49 (fun x y => x * y)))) (jt_l 49 (.inl (jo_il 50 3)))))) (jt_n 54 (jt_n 51 (jt_l 50 (.inl (jo_b 51 (fun x y => x + y)))) (jt_n 53 (jt_l 51 (.inl (jo_ll 53 6 4))) (jt_l 53 (.inl (jo_lw 54))))) (jt_n 57 (jt_l 54 (.inl (jo_inc 57 6 3 (nI 1)))) (jt_n 60 (jt_l 57 (.inl (jo_go 2))) (jt_l 60 (.inr (.inr 0)))))))))
/-- TalkBenchModel.rank(Z)I -/
def jc_173 : Nat → Option jxI := (jt_n 126 (jt_n 59 (jt_n 29 (jt_n 15 (jt_n 8 (jt_n 2 (jt_n 1 (jt_l 0 (.inl (jo_al 1 0))) (jt_l 1 (.inl (jo_c 2 (nI 2))))) (jt_n 5 (jt_l 2 (.inr (.inl (138, 2, 5, some 12)))) (jt_l 5 (.inl (jo_if 8 15 (fun x => decide (x ≤ 0))))))) (jt_n 11 (jt_n 9 (jt_l 8 (.inl (jo_al 9 0))) (jt_l 9 (.inl (jo_c 11 (-8))))) (jt_n 14 (jt_l 11 (.inr (.inl (130, 2, 14, some 12)))) (jt_l 14 (.inr (.inr 1)))))) (jt_n 20 (jt_n 17 (jt_n 16 (jt_l 15 (.inl (jo_c 16 (nI 0)))) (jt_l 16 (.inl (jo_is 17 13 2)))) (jt_n 18 (jt_l 17 (.inl (jo_il 18 2))) (jt_l 18 (.inl (jo_c 20 (nI 25)))))) (jt_n 24 (jt_n 23 (jt_l 20 (.inl (jo_ic 23 42 (fun x y => decide (y ≤ x))))) (jt_l 23 (.inl (jo_al 24 0)))) (jt_n 27 (jt_l 24 (.inl (jo_gf 27 12 27))) (jt_n 28 (jt_l 27 (.inl (jo_il 28 2))) (jt_l 28 (.inl (jo_al 29 0)))))))) (jt_n 44 (jt_n 35 (jt_n 33 (jt_n 32 (jt_l 29 (.inl (jo_gf 32 12 2))) (jt_l 32 (.inl (jo_il 33 2)))) (jt_n 34 (jt_l 33 (.inl (jo_ia 34))) (jt_l 34 (.inl (jo_i2l 35))))) (jt_n 39 (jt_n 36 (jt_l 35 (.inl (jo_lw 36))) (jt_l 36 (.inl (jo_inc 39 13 2 (nI 1))))) (jt_n 42 (jt_l 39 (.inl (jo_go 17))) (jt_n 43 (jt_l 42 (.inl (jo_c 43 (nI 0)))) (jt_l 43 (.inl (jo_is 44 13 2))))))) (jt_n 48 (jt_n 46 (jt_n 45 (jt_l 44 (.inl (jo_c 45 (nI 0)))) (jt_l 45 (.inl (jo_is 46 13 3)))) (jt_n 47 (jt_l 46 (.inl (jo_il 47 3))) (jt_l 47 (.inl (jo_al 48 0))))) (jt_n 54 (jt_n 51 (jt_l 48 (.inl (jo_gf 51 12 1))) (jt_l 51 (.inl (jo_ic 54 244 (fun x y => decide (y ≤ x)))))) (jt_n 55 (jt_l 54 (.inl (jo_il 55 2))) (jt_n 56 (jt_l 55 (.inl (jo_al 56 0))) (jt_l 56 (.inl (jo_gf 59 12 0))))))))) (jt_n 90 (jt_n 78 (jt_n 67 (jt_n 63 (jt_n 62 (jt_l 59 (.inl (jo_ic 62 244 (fun x y => decide (y ≤ x))))) (jt_l 62 (.inl (jo_il 63 2)))) (jt_n 65 (jt_l 63 (.inl (jo_is 65 13 4))) (jt_l 65 (.inl (jo_il 67 4))))) (jt_n 71 (jt_n 68 (jt_l 67 (.inl (jo_al 68 0))) (jt_l 68 (.inl (jo_gf 71 12 0)))) (jt_n 74 (jt_l 71 (.inl (jo_ic 74 96 (fun x y => decide (y ≤ x))))) (jt_n 75 (jt_l 74 (.inl (jo_al 75 0))) (jt_l 75 (.inl (jo_gf 78 12 27))))))) (jt_n 83 (jt_n 81 (jt_n 79 (jt_l 78 (.inl (jo_c 79 (nI 5)))) (jt_l 79 (.inl (jo_il 81 4)))) (jt_n 82 (jt_l 81 (.inl (jo_b 82 (fun x y => x * y)))) (jt_l 82 (.inl (jo_il 83 3))))) (jt_n 85 (jt_n 84 (jt_l 83 (.inl (jo_b 84 (fun x y => x + y)))) (jt_l 84 (.inl (jo_la 85)))) (jt_n 86 (jt_l 85 (.inl (jo_cl 86 0))) (jt_n 87 (jt_l 86 (.inl (jo_lc 87))) (jt_l 87 (.inl (jo_if 90 96 (fun x => decide (¬ x = 0)))))))))) (jt_n 110 (jt_n 99 (jt_n 96 (jt_n 93 (jt_l 90 (.inl (jo_inc 93 13 4 (nI 1)))) (jt_l 93 (.inl (jo_go 65)))) (jt_n 98 (jt_l 96 (.inl (jo_il 98 4))) (jt_l 98 (.inl (jo_al 99 0))))) (jt_n 105 (jt_n 102 (jt_l 99 (.inl (jo_gf 102 12 0))) (jt_l 102 (.inl (jo_ic 105 108 (fun x y => decide (¬ x = y)))))) (jt_n 108 (jt_l 105 (.inl (jo_go 238))) (jt_n 109 (jt_l 108 (.inl (jo_al 109 0))) (jt_l 109 (.inl (jo_il 110 2))))))) (jt_n 117 (jt_n 115 (jt_n 112 (jt_l 110 (.inl (jo_il 112 4))) (jt_l 112 (.inr (.inl (172, 3, 115, some 12))))) (jt_n 116 (jt_l 115 (.inl (jo_il 116 2))) (jt_l 116 (.inl (jo_c 117 (nI 1)))))) (jt_n 120 (jt_n 118 (jt_l 117 (.inl (jo_b 118 (fun x y => x + y)))) (jt_l 118 (.inl (jo_is 120 13 5)))) (jt_n 122 (jt_l 120 (.inl (jo_il 122 5))) (jt_n 123 (jt_l 122 (.inl (jo_al 123 0))) (jt_l 123 (.inl (jo_gf 126 12 0)))))))))) (jt_n 181 (jt_n 151 (jt_n 138 (jt_n 134 (jt_n 130 (jt_n 129 (jt_l 126 (.inl (jo_ic 129 235 (fun x y => decide (y ≤ x))))) (jt_l 129 (.inl (jo_al 130 0)))) (jt_n 133 (jt_l 130 (.inl (jo_gf 133 12 27))) (jt_l 133 (.inl (jo_c 134 (nI 5)))))) (jt_n 136 (jt_n 135 (jt_l 134 (.inl (jo_il 135 2))) (jt_l 135 (.inl (jo_b 136 (fun x y => x * y))))) (jt_n 137 (jt_l 136 (.inl (jo_il 137 3))) (jt_l 137 (.inl (jo_b 138 (fun x y => x + y))))))) (jt_n 145 (jt_n 141 (jt_n 139 (jt_l 138 (.inl (jo_la 139))) (jt_l 139 (.inl (jo_ls 141 13 6)))) (jt_n 142 (jt_l 141 (.inl (jo_al 142 0))) (jt_l 142 (.inl (jo_gf 145 12 27))))) (jt_n 148 (jt_n 146 (jt_l 145 (.inl (jo_c 146 (nI 5)))) (jt_l 146 (.inl (jo_il 148 5)))) (jt_n 149 (jt_l 148 (.inl (jo_b 149 (fun x y => x * y)))) (jt_n 150 (jt_l 149 (.inl (jo_il 150 3))) (jt_l 150 (.inl (jo_b 151 (fun x y => x + y))))))))) (jt_n 167 (jt_n 157 (jt_n 154 (jt_n 152 (jt_l 151 (.inl (jo_la 152))) (jt_l 152 (.inl (jo_ls 154 13 8)))) (jt_n 155 (jt_l 154 (.inl (jo_c 155 (nI 0)))) (jt_l 155 (.inl (jo_is 157 13 10))))) (jt_n 160 (jt_n 159 (jt_l 157 (.inl (jo_il 159 10))) (jt_l 159 (.inl (jo_al 160 0)))) (jt_n 163 (jt_l 160 (.inl (jo_gf 163 12 1))) (jt_n 166 (jt_l 163 (.inl (jo_ic 166 229 (fun x y => decide (y ≤ x))))) (jt_l 166 (.inl (jo_al 167 0))))))) (jt_n 174 (jt_n 171 (jt_n 170 (jt_l 167 (.inl (jo_gf 170 12 27))) (jt_l 170 (.inl (jo_c 171 (nI 5))))) (jt_n 173 (jt_l 171 (.inl (jo_il 173 5))) (jt_l 173 (.inl (jo_b 174 (fun x y => x * y)))))) (jt_n 177 (jt_n 176 (jt_l 174 (.inl (jo_il 176 10))) (jt_l 176 (.inl (jo_b 177 (fun x y => x + y))))) (jt_n 178 (jt_l 177 (.inl (jo_la 178))) (jt_n 180 (jt_l 178 (.inl (jo_ll 180 13 6))) (jt_l 180 (.inl (jo_lb 181 (fun x y => x * y)))))))))) (jt_n 208 (jt_n 194 (jt_n 187 (jt_n 185 (jt_n 182 (jt_l 181 (.inl (jo_al 182 0))) (jt_l 182 (.inl (jo_gf 185 12 27)))) (jt_n 186 (jt_l 185 (.inl (jo_c 186 (nI 5)))) (jt_l 186 (.inl (jo_il 187 2))))) (jt_n 190 (jt_n 188 (jt_l 187 (.inl (jo_b 188 (fun x y => x * y)))) (jt_l 188 (.inl (jo_il 190 10)))) (jt_n 191 (jt_l 190 (.inl (jo_b 191 (fun x y => x + y)))) (jt_n 192 (jt_l 191 (.inl (jo_la 192))) (jt_l 192 (.inl (jo_ll 194 13 8))))))) (jt_n 199 (jt_n 196 (jt_n 195 (jt_l 194 (.inl (jo_lb 195 (fun x y => x * y)))) (jt_l 195 (.inl (jo_lb 196 (fun x y => x - y))))) (jt_n 198 (jt_l 196 (.inl (jo_ls 198 13 11))) (jt_l 198 (.inl (jo_al 199 0))))) (jt_n 203 (jt_n 202 (jt_l 199 (.inl (jo_gf 202 12 27))) (jt_l 202 (.inl (jo_c 203 (nI 5))))) (jt_n 205 (jt_l 203 (.inl (jo_il 205 5))) (jt_n 206 (jt_l 205 (.inl (jo_b 206 (fun x y => x * y)))) (jt_l 206 (.inl (jo_il 208 10)))))))) (jt_n 223 (jt_n 215 (jt_n 210 (jt_n 209 (jt_l 208 (.inl (jo_b 209 (fun x y => x + y)))) (jt_l 209 (.inl (jo_il 210 1)))) (jt_n 213 (jt_l 210 (.inl (jo_if 213 218 (fun x => decide (x = 0))))) (jt_l 213 (.inl (jo_ll 215 13 11))))) (jt_n 220 (jt_n 218 (jt_l 215 (.inl (jo_go 222))) (jt_l 218 (.inl (jo_ll 220 13 11)))) (jt_n 221 (jt_l 220 (.inl (jo_cl 221 1))) (jt_n 222 (jt_l 221 (.inl (jo_lb 222 (fun x y => x &&& y)))) (jt_l 222 (.inl (jo_lw 223))))))) (jt_n 235 (jt_n 229 (jt_n 226 (jt_l 223 (.inl (jo_inc 226 13 10 (nI 1)))) (jt_l 226 (.inl (jo_go 157)))) (jt_n 232 (jt_l 229 (.inl (jo_inc 232 13 5 (nI 1)))) (jt_l 232 (.inl (jo_go 120))))) (jt_n 241 (jt_n 238 (jt_l 235 (.inl (jo_inc 238 13 2 (nI 1)))) (jt_l 238 (.inl (jo_inc 241 13 3 (nI 1))))) (jt_n 244 (jt_l 241 (.inl (jo_go 46))) (jt_n 245 (jt_l 244 (.inl (jo_il 245 2))) (jt_l 245 (.inr (.inr 1)))))))))))
/-- TalkBenchModel.lieTogether(II)Z -/
def jc_174 : Nat → Option jxI := (jt_n 15 (jt_n 7 (jt_n 3 (jt_n 1 (jt_l 0 (.inl (jo_c 1 (nI 1)))) (jt_n 2 (jt_l 1 (.inl (jo_il 2 1))) (jt_l 2 (.inl (jo_c 3 (nI 5)))))) (jt_n 5 (jt_n 4 (jt_l 3 (.inl (jo_q 4 (fun x y => x / y)))) (jt_l 4 (.inl (jo_b 5 (fun x y => x <<< (y &&& 31)))))) (jt_n 6 (jt_l 5 (.inl (jo_c 6 (nI 1)))) (jt_l 6 (.inl (jo_il 7 2)))))) (jt_n 11 (jt_n 9 (jt_n 8 (jt_l 7 (.inl (jo_c 8 (nI 5)))) (jt_l 8 (.inl (jo_q 9 (fun x y => x / y))))) (jt_n 10 (jt_l 9 (.inl (jo_b 10 (fun x y => x <<< (y &&& 31))))) (jt_l 10 (.inl (jo_b 11 (fun x y => x ||| y)))))) (jt_n 13 (jt_n 12 (jt_l 11 (.inl (jo_c 12 (nI 5)))) (jt_l 12 (.inl (jo_b 13 (fun x y => x <<< (y &&& 31)))))) (jt_n 14 (jt_l 13 (.inl (jo_c 14 (nI 1)))) (jt_l 14 (.inl (jo_il 15 1))))))) (jt_n 22 (jt_n 18 (jt_n 16 (jt_l 15 (.inl (jo_c 16 (nI 5)))) (jt_n 17 (jt_l 16 (.inl (jo_q 17 (fun x y => x - x / y * y)))) (jt_l 17 (.inl (jo_b 18 (fun x y => x <<< (y &&& 31))))))) (jt_n 20 (jt_n 19 (jt_l 18 (.inl (jo_b 19 (fun x y => x ||| y)))) (jt_l 19 (.inl (jo_c 20 (nI 1))))) (jt_n 21 (jt_l 20 (.inl (jo_il 21 2))) (jt_l 21 (.inl (jo_c 22 (nI 5))))))) (jt_n 26 (jt_n 24 (jt_n 23 (jt_l 22 (.inl (jo_q 23 (fun x y => x - x / y * y)))) (jt_l 23 (.inl (jo_b 24 (fun x y => x <<< (y &&& 31)))))) (jt_n 25 (jt_l 24 (.inl (jo_b 25 (fun x y => x ||| y)))) (jt_l 25 (.inl (jo_is 26 4 3))))) (jt_n 28 (jt_n 27 (jt_l 26 (.inl (jo_al 27 0))) (jt_l 27 (.inl (jo_il 28 3)))) (jt_n 31 (jt_l 28 (.inr (.inl (156, 2, 31, some 12)))) (jt_l 31 (.inr (.inr 2))))))))
/-- TalkBenchModel.fool(I)I -/
def jc_175 : Nat → Option jxI := (jt_n 106 (jt_n 50 (jt_n 24 (jt_n 14 (jt_n 6 (jt_n 4 (jt_n 1 (jt_l 0 (.inl (jo_il 1 1))) (jt_l 1 (.inl (jo_if 4 9 (fun x => decide (x < 0)))))) (jt_n 5 (jt_l 4 (.inl (jo_il 5 1))) (jt_l 5 (.inl (jo_c 6 (nI 1)))))) (jt_n 10 (jt_n 9 (jt_l 6 (.inl (jo_ic 9 15 (fun x y => decide (x ≤ y))))) (jt_l 9 (.inl (jo_al 10 0)))) (jt_n 11 (jt_l 10 (.inl (jo_c 11 (-1)))) (jt_l 11 (.inr (.inl (130, 2, 14, some 12))))))) (jt_n 18 (jt_n 16 (jt_n 15 (jt_l 14 (.inr (.inr 1))) (jt_l 15 (.inl (jo_c 16 (nI 1))))) (jt_n 17 (jt_l 16 (.inl (jo_is 17 11 2))) (jt_l 17 (.inl (jo_c 18 (nI 0)))))) (jt_n 20 (jt_n 19 (jt_l 18 (.inl (jo_is 19 11 3))) (jt_l 19 (.inl (jo_il 20 3)))) (jt_n 21 (jt_l 20 (.inl (jo_al 21 0))) (jt_l 21 (.inl (jo_gf 24 12 0))))))) (jt_n 36 (jt_n 32 (jt_n 28 (jt_n 27 (jt_l 24 (.inl (jo_ic 27 42 (fun x y => decide (y ≤ x))))) (jt_l 27 (.inl (jo_il 28 2)))) (jt_n 29 (jt_l 28 (.inl (jo_al 29 0))) (jt_l 29 (.inl (jo_gf 32 12 1))))) (jt_n 34 (jt_n 33 (jt_l 32 (.inl (jo_c 33 (nI 1)))) (jt_l 33 (.inl (jo_b 34 (fun x y => x + y))))) (jt_n 35 (jt_l 34 (.inl (jo_b 35 (fun x y => x * y)))) (jt_l 35 (.inl (jo_is 36 11 2)))))) (jt_n 44 (jt_n 42 (jt_n 39 (jt_l 36 (.inl (jo_inc 39 11 3 (nI 1)))) (jt_l 39 (.inl (jo_go 19)))) (jt_n 43 (jt_l 42 (.inl (jo_c 43 (nI 0)))) (jt_l 43 (.inl (jo_is 44 11 3))))) (jt_n 47 (jt_n 45 (jt_l 44 (.inl (jo_c 45 (nI 0)))) (jt_l 45 (.inl (jo_is 47 11 4)))) (jt_n 49 (jt_l 47 (.inl (jo_il 49 4))) (jt_l 49 (.inl (jo_il 50 2)))))))) (jt_n 81 (jt_n 64 (jt_n 58 (jt_n 55 (jt_n 53 (jt_l 50 (.inl (jo_ic 53 226 (fun x y => decide (y ≤ x))))) (jt_l 53 (.inl (jo_il 55 4)))) (jt_n 57 (jt_l 55 (.inl (jo_is 57 11 5))) (jt_l 57 (.inl (jo_c 58 (nI 0)))))) (jt_n 61 (jt_n 60 (jt_l 58 (.inl (jo_is 60 11 6))) (jt_l 60 (.inl (jo_c 61 (nI 1))))) (jt_n 63 (jt_l 61 (.inl (jo_is 63 11 7))) (jt_l 63 (.inl (jo_c 64 (nI 0))))))) (jt_n 72 (jt_n 68 (jt_n 66 (jt_l 64 (.inl (jo_is 66 11 8))) (jt_l 66 (.inl (jo_il 68 8)))) (jt_n 69 (jt_l 68 (.inl (jo_al 69 0))) (jt_l 69 (.inl (jo_gf 72 12 0))))) (jt_n 77 (jt_n 75 (jt_l 72 (.inl (jo_ic 75 202 (fun x y => decide (y ≤ x))))) (jt_l 75 (.inl (jo_il 77 5)))) (jt_n 78 (jt_l 77 (.inl (jo_al 78 0))) (jt_l 78 (.inl (jo_gf 81 12 1))))))) (jt_n 91 (jt_n 85 (jt_n 83 (jt_n 82 (jt_l 81 (.inl (jo_c 82 (nI 1)))) (jt_l 82 (.inl (jo_b 83 (fun x y => x + y))))) (jt_n 84 (jt_l 83 (.inl (jo_q 84 (fun x y => x - x / y * y)))) (jt_l 84 (.inl (jo_c 85 (nI 1)))))) (jt_n 88 (jt_n 86 (jt_l 85 (.inl (jo_b 86 (fun x y => x - y)))) (jt_l 86 (.inl (jo_is 88 11 9)))) (jt_n 90 (jt_l 88 (.inl (jo_il 90 5))) (jt_l 90 (.inl (jo_al 91 0)))))) (jt_n 97 (jt_n 95 (jt_n 94 (jt_l 91 (.inl (jo_gf 94 12 1))) (jt_l 94 (.inl (jo_c 95 (nI 1))))) (jt_n 96 (jt_l 95 (.inl (jo_b 96 (fun x y => x + y)))) (jt_l 96 (.inl (jo_q 97 (fun x y => x / y)))))) (jt_n 101 (jt_n 99 (jt_l 97 (.inl (jo_is 99 11 5))) (jt_l 99 (.inl (jo_il 101 9)))) (jt_n 104 (jt_l 101 (.inl (jo_if 104 196 (fun x => decide (x < 0))))) (jt_l 104 (.inl (jo_il 106 7))))))))) (jt_n 160 (jt_n 131 (jt_n 118 (jt_n 113 (jt_n 110 (jt_n 107 (jt_l 106 (.inl (jo_al 107 0))) (jt_l 107 (.inl (jo_gf 110 12 2)))) (jt_n 111 (jt_l 110 (.inl (jo_c 111 (nI 5)))) (jt_l 111 (.inl (jo_il 113 8))))) (jt_n 116 (jt_n 114 (jt_l 113 (.inl (jo_b 114 (fun x y => x * y)))) (jt_l 114 (.inl (jo_il 116 9)))) (jt_n 117 (jt_l 116 (.inl (jo_b 117 (fun x y => x + y)))) (jt_l 117 (.inl (jo_ia 118)))))) (jt_n 126 (jt_n 122 (jt_n 119 (jt_l 118 (.inl (jo_il 119 1))) (jt_l 119 (.inl (jo_ic 122 126 (fun x y => decide (¬ x = y)))))) (jt_n 123 (jt_l 122 (.inl (jo_c 123 (nI 1)))) (jt_l 123 (.inl (jo_go 127))))) (jt_n 128 (jt_n 127 (jt_l 126 (.inl (jo_c 127 (nI 0)))) (jt_l 127 (.inl (jo_b 128 (fun x y => x &&& y))))) (jt_n 130 (jt_l 128 (.inl (jo_is 130 11 7))) (jt_l 130 (.inl (jo_c 131 (nI 0)))))))) (jt_n 147 (jt_n 140 (jt_n 135 (jt_n 133 (jt_l 131 (.inl (jo_is 133 11 10))) (jt_l 133 (.inl (jo_il 135 10)))) (jt_n 137 (jt_l 135 (.inl (jo_il 137 6))) (jt_l 137 (.inl (jo_ic 140 179 (fun x y => decide (y ≤ x))))))) (jt_n 145 (jt_n 142 (jt_l 140 (.inl (jo_il 142 7))) (jt_l 142 (.inl (jo_if 145 179 (fun x => decide (x = 0)))))) (jt_n 146 (jt_l 145 (.inl (jo_al 146 0))) (jt_l 146 (.inl (jo_al 147 0)))))) (jt_n 154 (jt_n 152 (jt_n 150 (jt_l 147 (.inl (jo_gf 150 12 28))) (jt_l 150 (.inl (jo_il 152 10)))) (jt_n 153 (jt_l 152 (.inl (jo_ia 153))) (jt_l 153 (.inl (jo_c 154 (nI 5)))))) (jt_n 157 (jt_n 156 (jt_l 154 (.inl (jo_il 156 8))) (jt_l 156 (.inl (jo_b 157 (fun x y => x * y))))) (jt_n 159 (jt_l 157 (.inl (jo_il 159 9))) (jt_l 159 (.inl (jo_b 160 (fun x y => x + y))))))))) (jt_n 192 (jt_n 179 (jt_n 170 (jt_n 166 (jt_n 163 (jt_l 160 (.inr (.inl (174, 3, 163, some 12)))) (jt_l 163 (.inl (jo_if 166 170 (fun x => decide (¬ x = 0)))))) (jt_n 167 (jt_l 166 (.inl (jo_c 167 (nI 1)))) (jt_l 167 (.inl (jo_go 171))))) (jt_n 173 (jt_n 171 (jt_l 170 (.inl (jo_c 171 (nI 0)))) (jt_l 171 (.inl (jo_is 173 11 7)))) (jt_n 176 (jt_l 173 (.inl (jo_inc 176 11 10 (nI 1)))) (jt_l 176 (.inl (jo_go 133)))))) (jt_n 186 (jt_n 183 (jt_n 180 (jt_l 179 (.inl (jo_al 180 0))) (jt_l 180 (.inl (jo_gf 183 12 28)))) (jt_n 185 (jt_l 183 (.inl (jo_il 185 6))) (jt_l 185 (.inl (jo_c 186 (nI 5)))))) (jt_n 189 (jt_n 188 (jt_l 186 (.inl (jo_il 188 8))) (jt_l 188 (.inl (jo_b 189 (fun x y => x * y))))) (jt_n 191 (jt_l 189 (.inl (jo_il 191 9))) (jt_l 191 (.inl (jo_b 192 (fun x y => x + y)))))))) (jt_n 210 (jt_n 202 (jt_n 196 (jt_n 193 (jt_l 192 (.inl (jo_iw 193))) (jt_l 193 (.inl (jo_inc 196 11 6 (nI 1))))) (jt_n 199 (jt_l 196 (.inl (jo_inc 199 11 8 (nI 1)))) (jt_l 199 (.inl (jo_go 66))))) (jt_n 207 (jt_n 204 (jt_l 202 (.inl (jo_il 204 7))) (jt_l 204 (.inl (jo_if 207 218 (fun x => decide (x = 0)))))) (jt_n 209 (jt_l 207 (.inl (jo_il 209 6))) (jt_l 209 (.inl (jo_il 210 3)))))) (jt_n 219 (jt_n 215 (jt_n 213 (jt_l 210 (.inl (jo_ic 213 218 (fun x y => decide (x ≤ y))))) (jt_l 213 (.inl (jo_il 215 6)))) (jt_n 218 (jt_l 215 (.inl (jo_go 219))) (jt_l 218 (.inl (jo_il 219 3))))) (jt_n 223 (jt_n 220 (jt_l 219 (.inl (jo_is 220 11 3))) (jt_l 220 (.inl (jo_inc 223 11 4 (nI 1))))) (jt_n 226 (jt_l 223 (.inl (jo_go 47))) (jt_n 227 (jt_l 226 (.inl (jo_il 227 3))) (jt_l 227 (.inr (.inr 1)))))))))))
/-- TalkBenchModel.rowsFor(II)I -/
def jc_176 : Nat → Option jxI := (jt_n 50 (jt_n 22 (jt_n 8 (jt_n 3 (jt_n 1 (jt_l 0 (.inl (jo_c 1 (nI 0)))) (jt_n 2 (jt_l 1 (.inl (jo_is 2 7 3))) (jt_l 2 (.inl (jo_c 3 (nI 0)))))) (jt_n 5 (jt_l 3 (.inl (jo_is 5 7 4))) (jt_n 7 (jt_l 5 (.inl (jo_il 7 4))) (jt_l 7 (.inl (jo_al 8 0)))))) (jt_n 15 (jt_n 11 (jt_l 8 (.inl (jo_gf 11 12 0))) (jt_n 14 (jt_l 11 (.inl (jo_ic 14 94 (fun x y => decide (y ≤ x))))) (jt_l 14 (.inl (jo_c 15 (nI 1)))))) (jt_n 18 (jt_n 17 (jt_l 15 (.inl (jo_is 17 7 5))) (jt_l 17 (.inl (jo_c 18 (nI 0))))) (jt_n 20 (jt_l 18 (.inl (jo_is 20 7 6))) (jt_l 20 (.inl (jo_il 22 6))))))) (jt_n 37 (jt_n 29 (jt_n 23 (jt_l 22 (.inl (jo_al 23 0))) (jt_n 26 (jt_l 23 (.inl (jo_gf 26 12 1))) (jt_l 26 (.inl (jo_ic 29 72 (fun x y => decide (y ≤ x))))))) (jt_n 32 (jt_n 31 (jt_l 29 (.inl (jo_il 31 5))) (jt_l 31 (.inl (jo_il 32 1)))) (jt_n 34 (jt_l 32 (.inl (jo_il 34 6))) (jt_l 34 (.inr (.inl (132, 2, 37, none))))))) (jt_n 44 (jt_n 40 (jt_l 37 (.inl (jo_if 40 58 (fun x => decide (x = 0))))) (jt_n 41 (jt_l 40 (.inl (jo_al 41 0))) (jt_l 41 (.inl (jo_gf 44 12 2))))) (jt_n 47 (jt_n 45 (jt_l 44 (.inl (jo_c 45 (nI 5)))) (jt_l 45 (.inl (jo_il 47 4)))) (jt_n 48 (jt_l 47 (.inl (jo_b 48 (fun x y => x * y)))) (jt_l 48 (.inl (jo_il 50 6)))))))) (jt_n 72 (jt_n 58 (jt_n 53 (jt_n 51 (jt_l 50 (.inl (jo_b 51 (fun x y => x + y)))) (jt_n 52 (jt_l 51 (.inl (jo_ia 52))) (jt_l 52 (.inl (jo_c 53 (nI 1)))))) (jt_n 54 (jt_l 53 (.inl (jo_il 54 2))) (jt_n 55 (jt_l 54 (.inl (jo_b 55 (fun x y => x - y)))) (jt_l 55 (.inl (jo_ic 58 62 (fun x y => decide (x = y)))))))) (jt_n 63 (jt_n 59 (jt_l 58 (.inl (jo_c 59 (nI 1)))) (jt_n 62 (jt_l 59 (.inl (jo_go 63))) (jt_l 62 (.inl (jo_c 63 (nI 0)))))) (jt_n 66 (jt_n 64 (jt_l 63 (.inl (jo_b 64 (fun x y => x &&& y)))) (jt_l 64 (.inl (jo_is 66 7 5)))) (jt_n 69 (jt_l 66 (.inl (jo_inc 69 7 6 (nI 1)))) (jt_l 69 (.inl (jo_go 20))))))) (jt_n 85 (jt_n 78 (jt_n 73 (jt_l 72 (.inl (jo_il 73 3))) (jt_n 75 (jt_l 73 (.inl (jo_il 75 5))) (jt_l 75 (.inl (jo_if 78 85 (fun x => decide (x = 0))))))) (jt_n 81 (jt_n 79 (jt_l 78 (.inl (jo_c 79 (nI 1)))) (jt_l 79 (.inl (jo_il 81 4)))) (jt_n 82 (jt_l 81 (.inl (jo_b 82 (fun x y => x <<< (y &&& 31))))) (jt_l 82 (.inl (jo_go 86)))))) (jt_n 88 (jt_n 86 (jt_l 85 (.inl (jo_c 86 (nI 0)))) (jt_n 87 (jt_l 86 (.inl (jo_b 87 (fun x y => x ||| y)))) (jt_l 87 (.inl (jo_is 88 7 3))))) (jt_n 94 (jt_n 91 (jt_l 88 (.inl (jo_inc 91 7 4 (nI 1)))) (jt_l 91 (.inl (jo_go 5)))) (jt_n 95 (jt_l 94 (.inl (jo_il 95 3))) (jt_l 95 (.inr (.inr 1)))))))))
/-- TalkBenchModel.placesOf(II)I -/
def jc_177 : Nat → Option jxI := (jt_n 37 (jt_n 17 (jt_n 7 (jt_n 2 (jt_n 1 (jt_l 0 (.inl (jo_c 1 (nI 0)))) (jt_l 1 (.inl (jo_is 2 6 3)))) (jt_n 3 (jt_l 2 (.inl (jo_c 3 (nI 0)))) (jt_n 5 (jt_l 3 (.inl (jo_is 5 6 4))) (jt_l 5 (.inl (jo_il 7 4)))))) (jt_n 11 (jt_n 8 (jt_l 7 (.inl (jo_al 8 0))) (jt_l 8 (.inl (jo_gf 11 12 0)))) (jt_n 14 (jt_l 11 (.inl (jo_ic 14 72 (fun x y => decide (y ≤ x))))) (jt_n 15 (jt_l 14 (.inl (jo_c 15 (nI 0)))) (jt_l 15 (.inl (jo_is 17 6 5))))))) (jt_n 27 (jt_n 20 (jt_n 19 (jt_l 17 (.inl (jo_il 19 5))) (jt_l 19 (.inl (jo_al 20 0)))) (jt_n 23 (jt_l 20 (.inl (jo_gf 23 12 1))) (jt_n 26 (jt_l 23 (.inl (jo_ic 26 66 (fun x y => decide (y ≤ x))))) (jt_l 26 (.inl (jo_il 27 3)))))) (jt_n 30 (jt_n 28 (jt_l 27 (.inl (jo_il 28 1))) (jt_l 28 (.inl (jo_il 30 4)))) (jt_n 33 (jt_l 30 (.inr (.inl (132, 2, 33, none)))) (jt_n 36 (jt_l 33 (.inl (jo_if 36 57 (fun x => decide (x = 0))))) (jt_l 36 (.inl (jo_il 37 2)))))))) (jt_n 54 (jt_n 47 (jt_n 42 (jt_n 39 (jt_l 37 (.inl (jo_il 39 5))) (jt_l 39 (.inr (.inl (132, 2, 42, none))))) (jt_n 45 (jt_l 42 (.inl (jo_if 45 57 (fun x => decide (x = 0))))) (jt_n 46 (jt_l 45 (.inl (jo_c 46 (nI 1)))) (jt_l 46 (.inl (jo_c 47 (nI 5))))))) (jt_n 50 (jt_n 49 (jt_l 47 (.inl (jo_il 49 4))) (jt_l 49 (.inl (jo_b 50 (fun x y => x * y))))) (jt_n 52 (jt_l 50 (.inl (jo_il 52 5))) (jt_n 53 (jt_l 52 (.inl (jo_b 53 (fun x y => x + y)))) (jt_l 53 (.inl (jo_b 54 (fun x y => x <<< (y &&& 31))))))))) (jt_n 63 (jt_n 58 (jt_n 57 (jt_l 54 (.inl (jo_go 58))) (jt_l 57 (.inl (jo_c 58 (nI 0))))) (jt_n 59 (jt_l 58 (.inl (jo_b 59 (fun x y => x ||| y)))) (jt_n 60 (jt_l 59 (.inl (jo_is 60 6 3))) (jt_l 60 (.inl (jo_inc 63 6 5 (nI 1))))))) (jt_n 69 (jt_n 66 (jt_l 63 (.inl (jo_go 17))) (jt_l 66 (.inl (jo_inc 69 6 4 (nI 1))))) (jt_n 72 (jt_l 69 (.inl (jo_go 5))) (jt_n 73 (jt_l 72 (.inl (jo_il 73 3))) (jt_l 73 (.inr (.inr 1)))))))))
/-- TalkBenchModel.covers(III)Z -/
def jc_178 : Nat → Option jxI := (jt_n 72 (jt_n 35 (jt_n 16 (jt_n 8 (jt_n 3 (jt_n 1 (jt_l 0 (.inl (jo_c 1 (nI 0)))) (jt_l 1 (.inl (jo_is 3 7 4)))) (jt_n 4 (jt_l 3 (.inl (jo_al 4 0))) (jt_n 7 (jt_l 4 (.inl (jo_gf 7 12 29))) (jt_l 7 (.inl (jo_c 8 (nI 0))))))) (jt_n 11 (jt_n 9 (jt_l 8 (.inl (jo_c 9 (nI 0)))) (jt_n 10 (jt_l 9 (.inl (jo_iw 10))) (jt_l 10 (.inl (jo_al 11 0))))) (jt_n 14 (jt_l 11 (.inl (jo_gf 14 12 30))) (jt_n 15 (jt_l 14 (.inl (jo_c 15 (nI 0)))) (jt_l 15 (.inl (jo_c 16 (nI 0)))))))) (jt_n 27 (jt_n 22 (jt_n 17 (jt_l 16 (.inl (jo_iw 17))) (jt_n 19 (jt_l 17 (.inl (jo_il 19 4))) (jt_l 19 (.inl (jo_if 22 153 (fun x => decide (x < 0))))))) (jt_n 23 (jt_l 22 (.inl (jo_il 23 1))) (jt_n 24 (jt_l 23 (.inl (jo_al 24 0))) (jt_l 24 (.inl (jo_gf 27 12 29)))))) (jt_n 31 (jt_n 29 (jt_l 27 (.inl (jo_il 29 4))) (jt_n 30 (jt_l 29 (.inl (jo_ia 30))) (jt_l 30 (.inl (jo_c 31 (-1)))))) (jt_n 32 (jt_l 31 (.inl (jo_b 32 (fun x y => x ^^^ y)))) (jt_n 33 (jt_l 32 (.inl (jo_b 33 (fun x y => x &&& y)))) (jt_l 33 (.inl (jo_is 35 7 5)))))))) (jt_n 52 (jt_n 43 (jt_n 40 (jt_n 37 (jt_l 35 (.inl (jo_il 37 5))) (jt_l 37 (.inl (jo_if 40 42 (fun x => decide (¬ x = 0)))))) (jt_n 41 (jt_l 40 (.inl (jo_c 41 (nI 1)))) (jt_n 42 (jt_l 41 (.inr (.inr 2))) (jt_l 42 (.inl (jo_al 43 0)))))) (jt_n 49 (jt_n 46 (jt_l 43 (.inl (jo_gf 46 12 30))) (jt_n 48 (jt_l 46 (.inl (jo_il 48 4))) (jt_l 48 (.inl (jo_d2 49))))) (jt_n 50 (jt_l 49 (.inl (jo_ia 50))) (jt_n 51 (jt_l 50 (.inl (jo_c 51 (nI 1)))) (jt_l 51 (.inl (jo_b 52 (fun x y => x + y)))))))) (jt_n 63 (jt_n 56 (jt_n 53 (jt_l 52 (.inl (jo_iw 53))) (jt_n 55 (jt_l 53 (.inl (jo_il 55 4))) (jt_l 55 (.inl (jo_il 56 3))))) (jt_n 59 (jt_l 56 (.inl (jo_ic 59 75 (fun x y => decide (x = y))))) (jt_n 60 (jt_l 59 (.inl (jo_al 60 0))) (jt_l 60 (.inl (jo_gf 63 12 30)))))) (jt_n 67 (jt_n 65 (jt_l 63 (.inl (jo_il 65 4))) (jt_n 66 (jt_l 65 (.inl (jo_ia 66))) (jt_l 66 (.inl (jo_c 67 (nI 1)))))) (jt_n 68 (jt_l 67 (.inl (jo_al 68 0))) (jt_n 71 (jt_l 68 (.inl (jo_gf 71 12 1))) (jt_l 71 (.inl (jo_b 72 (fun x y => x <<< (y &&& 31))))))))))) (jt_n 115 (jt_n 94 (jt_n 83 (jt_n 78 (jt_n 75 (jt_l 72 (.inl (jo_ic 75 81 (fun x y => decide (x < y))))) (jt_l 75 (.inl (jo_inc 78 7 4 (-1))))) (jt_n 81 (jt_l 78 (.inl (jo_go 17))) (jt_n 82 (jt_l 81 (.inl (jo_al 82 0))) (jt_l 82 (.inl (jo_al 83 0)))))) (jt_n 89 (jt_n 84 (jt_l 83 (.inl (jo_al 84 0))) (jt_n 87 (jt_l 84 (.inl (jo_gf 87 12 30))) (jt_l 87 (.inl (jo_il 89 4))))) (jt_n 90 (jt_l 89 (.inl (jo_ia 90))) (jt_n 91 (jt_l 90 (.inl (jo_il 91 2))) (jt_l 91 (.inr (.inl (176, 3, 94, some 12)))))))) (jt_n 106 (jt_n 100 (jt_n 95 (jt_l 94 (.inl (jo_al 95 0))) (jt_n 98 (jt_l 95 (.inl (jo_gf 98 12 30))) (jt_l 98 (.inl (jo_il 100 4))))) (jt_n 101 (jt_l 100 (.inl (jo_ia 101))) (jt_n 104 (jt_l 101 (.inr (.inl (177, 3, 104, some 12)))) (jt_l 104 (.inl (jo_is 106 7 6)))))) (jt_n 112 (jt_n 108 (jt_l 106 (.inl (jo_il 108 6))) (jt_n 110 (jt_l 108 (.inl (jo_il 110 5))) (jt_l 110 (.inl (jo_il 112 5))))) (jt_n 113 (jt_l 112 (.inl (jo_1 113 (fun x => -x)))) (jt_n 114 (jt_l 113 (.inl (jo_b 114 (fun x y => x &&& y)))) (jt_l 114 (.inl (jo_b 115 (fun x y => x &&& y))))))))) (jt_n 136 (jt_n 126 (jt_n 122 (jt_n 118 (jt_l 115 (.inl (jo_if 118 150 (fun x => decide (x = 0))))) (jt_n 119 (jt_l 118 (.inl (jo_al 119 0))) (jt_l 119 (.inl (jo_gf 122 12 29))))) (jt_n 124 (jt_l 122 (.inl (jo_il 124 4))) (jt_n 125 (jt_l 124 (.inl (jo_c 125 (nI 1)))) (jt_l 125 (.inl (jo_b 126 (fun x y => x + y))))))) (jt_n 132 (jt_n 127 (jt_l 126 (.inl (jo_al 127 0))) (jt_n 130 (jt_l 127 (.inl (jo_gf 130 12 29))) (jt_l 130 (.inl (jo_il 132 4))))) (jt_n 133 (jt_l 132 (.inl (jo_ia 133))) (jt_n 135 (jt_l 133 (.inl (jo_il 135 6))) (jt_l 135 (.inl (jo_b 136 (fun x y => x ||| y)))))))) (jt_n 145 (jt_n 141 (jt_n 137 (jt_l 136 (.inl (jo_iw 137))) (jt_n 138 (jt_l 137 (.inl (jo_al 138 0))) (jt_l 138 (.inl (jo_gf 141 12 30))))) (jt_n 143 (jt_l 141 (.inl (jo_il 143 4))) (jt_n 144 (jt_l 143 (.inl (jo_c 144 (nI 1)))) (jt_l 144 (.inl (jo_b 145 (fun x y => x + y))))))) (jt_n 150 (jt_n 146 (jt_l 145 (.inl (jo_c 146 (nI 0)))) (jt_n 147 (jt_l 146 (.inl (jo_iw 147))) (jt_l 147 (.inl (jo_inc 150 7 4 (nI 1)))))) (jt_n 153 (jt_l 150 (.inl (jo_go 17))) (jt_n 154 (jt_l 153 (.inl (jo_c 154 (nI 0)))) (jt_l 154 (.inr (.inr 2))))))))))
/-- TalkBenchModel.cover(I)I -/
def jc_179 : Nat → Option jxI := (jt_n 49 (jt_n 21 (jt_n 11 (jt_n 5 (jt_n 1 (jt_l 0 (.inl (jo_il 1 1))) (jt_n 4 (jt_l 1 (.inl (jo_if 4 9 (fun x => decide (x < 0))))) (jt_l 4 (.inl (jo_il 5 1))))) (jt_n 9 (jt_n 6 (jt_l 5 (.inl (jo_c 6 (nI 1)))) (jt_l 6 (.inl (jo_ic 9 15 (fun x y => decide (x ≤ y)))))) (jt_n 10 (jt_l 9 (.inl (jo_al 10 0))) (jt_l 10 (.inl (jo_c 11 (-1))))))) (jt_n 17 (jt_n 15 (jt_n 14 (jt_l 11 (.inr (.inl (130, 2, 14, some 12)))) (jt_l 14 (.inr (.inr 1)))) (jt_n 16 (jt_l 15 (.inl (jo_c 16 (nI 0)))) (jt_l 16 (.inl (jo_is 17 5 2))))) (jt_n 19 (jt_n 18 (jt_l 17 (.inl (jo_c 18 (nI 0)))) (jt_l 18 (.inl (jo_is 19 5 3)))) (jt_n 20 (jt_l 19 (.inl (jo_il 20 3))) (jt_l 20 (.inl (jo_al 21 0))))))) (jt_n 36 (jt_n 28 (jt_n 24 (jt_l 21 (.inl (jo_gf 24 12 0))) (jt_n 27 (jt_l 24 (.inl (jo_ic 27 81 (fun x y => decide (y ≤ x))))) (jt_l 27 (.inl (jo_c 28 (nI 0)))))) (jt_n 32 (jt_n 30 (jt_l 28 (.inl (jo_is 30 5 4))) (jt_l 30 (.inl (jo_il 32 4)))) (jt_n 33 (jt_l 32 (.inl (jo_al 33 0))) (jt_l 33 (.inl (jo_gf 36 12 1)))))) (jt_n 44 (jt_n 40 (jt_n 39 (jt_l 36 (.inl (jo_ic 39 75 (fun x y => decide (y ≤ x))))) (jt_l 39 (.inl (jo_il 40 2)))) (jt_n 41 (jt_l 40 (.inl (jo_al 41 0))) (jt_l 41 (.inl (jo_gf 44 12 2))))) (jt_n 46 (jt_n 45 (jt_l 44 (.inl (jo_c 45 (nI 5)))) (jt_l 45 (.inl (jo_il 46 3)))) (jt_n 47 (jt_l 46 (.inl (jo_b 47 (fun x y => x * y)))) (jt_l 47 (.inl (jo_il 49 4)))))))) (jt_n 69 (jt_n 58 (jt_n 52 (jt_n 50 (jt_l 49 (.inl (jo_b 50 (fun x y => x + y)))) (jt_n 51 (jt_l 50 (.inl (jo_ia 51))) (jt_l 51 (.inl (jo_il 52 1))))) (jt_n 56 (jt_n 55 (jt_l 52 (.inl (jo_ic 55 66 (fun x y => decide (¬ x = y))))) (jt_l 55 (.inl (jo_c 56 (nI 1))))) (jt_n 57 (jt_l 56 (.inl (jo_c 57 (nI 5)))) (jt_l 57 (.inl (jo_il 58 3)))))) (jt_n 63 (jt_n 61 (jt_n 59 (jt_l 58 (.inl (jo_b 59 (fun x y => x * y)))) (jt_l 59 (.inl (jo_il 61 4)))) (jt_n 62 (jt_l 61 (.inl (jo_b 62 (fun x y => x + y)))) (jt_l 62 (.inl (jo_b 63 (fun x y => x <<< (y &&& 31))))))) (jt_n 67 (jt_n 66 (jt_l 63 (.inl (jo_go 67))) (jt_l 66 (.inl (jo_c 67 (nI 0))))) (jt_n 68 (jt_l 67 (.inl (jo_b 68 (fun x y => x ||| y)))) (jt_l 68 (.inl (jo_is 69 5 2))))))) (jt_n 85 (jt_n 81 (jt_n 75 (jt_n 72 (jt_l 69 (.inl (jo_inc 72 5 4 (nI 1)))) (jt_l 72 (.inl (jo_go 30)))) (jt_n 78 (jt_l 75 (.inl (jo_inc 78 5 3 (nI 1)))) (jt_l 78 (.inl (jo_go 19))))) (jt_n 83 (jt_n 82 (jt_l 81 (.inl (jo_c 82 (nI 0)))) (jt_l 82 (.inl (jo_is 83 5 3)))) (jt_n 84 (jt_l 83 (.inl (jo_al 84 0))) (jt_l 84 (.inl (jo_il 85 2)))))) (jt_n 93 (jt_n 87 (jt_n 86 (jt_l 85 (.inl (jo_il 86 1))) (jt_l 86 (.inl (jo_il 87 3)))) (jt_n 90 (jt_l 87 (.inr (.inl (178, 4, 90, some 12)))) (jt_l 90 (.inl (jo_if 93 99 (fun x => decide (¬ x = 0))))))) (jt_n 99 (jt_n 96 (jt_l 93 (.inl (jo_inc 96 5 3 (nI 1)))) (jt_l 96 (.inl (jo_go 83)))) (jt_n 100 (jt_l 99 (.inl (jo_il 100 3))) (jt_l 100 (.inr (.inr 1)))))))))
/-- TalkBenchModel.part()I -/
def jc_180 : Nat → Option jxI := (jt_n 150 (jt_n 77 (jt_n 40 (jt_n 22 (jt_n 9 (jt_n 4 (jt_n 1 (jt_l 0 (.inl (jo_al 1 0))) (jt_l 1 (.inl (jo_gf 4 12 0)))) (jt_n 5 (jt_l 4 (.inl (jo_c 5 (nI 4)))) (jt_n 8 (jt_l 5 (.inl (jo_ic 8 16 (fun x y => decide (y < x))))) (jt_l 8 (.inl (jo_al 9 0)))))) (jt_n 16 (jt_n 12 (jt_l 9 (.inl (jo_gf 12 12 1))) (jt_n 13 (jt_l 12 (.inl (jo_c 13 (nI 4)))) (jt_l 13 (.inl (jo_ic 16 23 (fun x y => decide (x ≤ y))))))) (jt_n 17 (jt_l 16 (.inl (jo_al 17 0))) (jt_n 19 (jt_l 17 (.inl (jo_c 19 (-7)))) (jt_l 19 (.inr (.inl (130, 2, 22, some 12)))))))) (jt_n 28 (jt_n 25 (jt_n 23 (jt_l 22 (.inr (.inr 1))) (jt_n 24 (jt_l 23 (.inl (jo_c 24 (nI 0)))) (jt_l 24 (.inl (jo_is 25 7 1))))) (jt_n 26 (jt_l 25 (.inl (jo_c 26 (nI 0)))) (jt_n 27 (jt_l 26 (.inl (jo_is 27 7 2))) (jt_l 27 (.inl (jo_il 28 2)))))) (jt_n 35 (jt_n 29 (jt_l 28 (.inl (jo_al 29 0))) (jt_n 32 (jt_l 29 (.inr (.inl (154, 1, 32, some 12)))) (jt_l 32 (.inl (jo_ic 35 114 (fun x y => decide (y < x))))))) (jt_n 36 (jt_l 35 (.inl (jo_al 36 0))) (jt_n 37 (jt_l 36 (.inl (jo_il 37 2))) (jt_l 37 (.inr (.inl (157, 2, 40, some 12))))))))) (jt_n 59 (jt_n 51 (jt_n 44 (jt_n 43 (jt_l 40 (.inl (jo_if 43 108 (fun x => decide (x = 0))))) (jt_l 43 (.inl (jo_al 44 0)))) (jt_n 45 (jt_l 44 (.inl (jo_il 45 2))) (jt_n 48 (jt_l 45 (.inr (.inl (156, 2, 48, some 12)))) (jt_l 48 (.inl (jo_if 51 108 (fun x => decide (x = 0)))))))) (jt_n 56 (jt_n 52 (jt_l 51 (.inl (jo_al 52 0))) (jt_n 55 (jt_l 52 (.inl (jo_gf 55 12 32))) (jt_l 55 (.inl (jo_il 56 1))))) (jt_n 57 (jt_l 56 (.inl (jo_c 57 (nI 0)))) (jt_n 58 (jt_l 57 (.inl (jo_iw 58))) (jt_l 58 (.inl (jo_c 59 (nI 0)))))))) (jt_n 69 (jt_n 62 (jt_n 60 (jt_l 59 (.inl (jo_is 60 7 3))) (jt_n 61 (jt_l 60 (.inl (jo_il 61 3))) (jt_l 61 (.inl (jo_al 62 0))))) (jt_n 65 (jt_l 62 (.inl (jo_gf 65 12 0))) (jt_n 68 (jt_l 65 (.inl (jo_ic 68 105 (fun x y => decide (y ≤ x))))) (jt_l 68 (.inl (jo_al 69 0)))))) (jt_n 74 (jt_n 72 (jt_l 69 (.inl (jo_gf 72 12 32))) (jt_n 73 (jt_l 72 (.inl (jo_il 73 1))) (jt_l 73 (.inl (jo_d2 74))))) (jt_n 75 (jt_l 74 (.inl (jo_ia 75))) (jt_n 76 (jt_l 75 (.inl (jo_il 76 2))) (jt_l 76 (.inl (jo_c 77 (nI 5)))))))))) (jt_n 117 (jt_n 93 (jt_n 86 (jt_n 79 (jt_n 78 (jt_l 77 (.inl (jo_b 78 (fun x y => x >>> (y &&& 31))))) (jt_l 78 (.inl (jo_il 79 3)))) (jt_n 82 (jt_l 79 (.inr (.inl (132, 2, 82, none)))) (jt_n 85 (jt_l 82 (.inl (jo_if 85 96 (fun x => decide (x = 0))))) (jt_l 85 (.inl (jo_il 86 2)))))) (jt_n 90 (jt_n 88 (jt_l 86 (.inl (jo_c 88 (nI 31)))) (jt_n 89 (jt_l 88 (.inl (jo_b 89 (fun x y => x &&& y)))) (jt_l 89 (.inl (jo_c 90 (nI 4)))))) (jt_n 91 (jt_l 90 (.inl (jo_il 91 3))) (jt_n 92 (jt_l 91 (.inl (jo_b 92 (fun x y => x * y)))) (jt_l 92 (.inl (jo_b 93 (fun x y => x <<< (y &&& 31))))))))) (jt_n 105 (jt_n 98 (jt_n 96 (jt_l 93 (.inl (jo_go 97))) (jt_n 97 (jt_l 96 (.inl (jo_c 97 (nI 0)))) (jt_l 97 (.inl (jo_b 98 (fun x y => x ||| y)))))) (jt_n 99 (jt_l 98 (.inl (jo_iw 99))) (jt_n 102 (jt_l 99 (.inl (jo_inc 102 7 3 (nI 1)))) (jt_l 102 (.inl (jo_go 60)))))) (jt_n 114 (jt_n 108 (jt_l 105 (.inl (jo_inc 108 7 1 (nI 1)))) (jt_n 111 (jt_l 108 (.inl (jo_inc 111 7 2 (nI 1)))) (jt_l 111 (.inl (jo_go 27))))) (jt_n 115 (jt_l 114 (.inl (jo_c 115 (nI 0)))) (jt_n 116 (jt_l 115 (.inl (jo_is 116 7 2))) (jt_l 116 (.inl (jo_c 117 (nI 0))))))))) (jt_n 134 (jt_n 126 (jt_n 119 (jt_n 118 (jt_l 117 (.inl (jo_is 118 7 3))) (jt_l 118 (.inl (jo_il 119 3)))) (jt_n 120 (jt_l 119 (.inl (jo_al 120 0))) (jt_n 123 (jt_l 120 (.inl (jo_gf 123 12 0))) (jt_l 123 (.inl (jo_ic 126 147 (fun x y => decide (y ≤ x)))))))) (jt_n 129 (jt_n 127 (jt_l 126 (.inl (jo_il 127 2))) (jt_n 128 (jt_l 127 (.inl (jo_c 128 (nI 1)))) (jt_l 128 (.inl (jo_al 129 0))))) (jt_n 132 (jt_l 129 (.inl (jo_gf 132 12 1))) (jt_n 133 (jt_l 132 (.inl (jo_b 133 (fun x y => x <<< (y &&& 31))))) (jt_l 133 (.inl (jo_c 134 (nI 1)))))))) (jt_n 140 (jt_n 137 (jt_n 135 (jt_l 134 (.inl (jo_b 135 (fun x y => x - y)))) (jt_n 136 (jt_l 135 (.inl (jo_c 136 (nI 4)))) (jt_l 136 (.inl (jo_il 137 3))))) (jt_n 138 (jt_l 137 (.inl (jo_b 138 (fun x y => x * y)))) (jt_n 139 (jt_l 138 (.inl (jo_b 139 (fun x y => x <<< (y &&& 31))))) (jt_l 139 (.inl (jo_b 140 (fun x y => x ||| y))))))) (jt_n 147 (jt_n 141 (jt_l 140 (.inl (jo_is 141 7 2))) (jt_n 144 (jt_l 141 (.inl (jo_inc 144 7 3 (nI 1)))) (jt_l 144 (.inl (jo_go 118))))) (jt_n 148 (jt_l 147 (.inl (jo_il 148 2))) (jt_n 149 (jt_l 148 (.inl (jo_is 149 7 3))) (jt_l 149 (.inl (jo_il 150 3)))))))))) (jt_n 228 (jt_n 188 (jt_n 167 (jt_n 157 (jt_n 154 (jt_n 153 (jt_l 150 (.inl (jo_if 153 302 (fun x => decide (x < 0))))) (jt_l 153 (.inl (jo_il 154 3)))) (jt_n 155 (jt_l 154 (.inl (jo_il 155 2))) (jt_n 156 (jt_l 155 (.inl (jo_c 156 (-1)))) (jt_l 156 (.inl (jo_b 157 (fun x y => x ^^^ y))))))) (jt_n 164 (jt_n 158 (jt_l 157 (.inl (jo_b 158 (fun x y => x &&& y)))) (jt_n 161 (jt_l 158 (.inl (jo_if 161 164 (fun x => decide (x = 0))))) (jt_l 161 (.inl (jo_go 296))))) (jt_n 165 (jt_l 164 (.inl (jo_il 165 2))) (jt_n 166 (jt_l 165 (.inl (jo_il 166 3))) (jt_l 166 (.inl (jo_c 167 (-1)))))))) (jt_n 176 (jt_n 171 (jt_n 168 (jt_l 167 (.inl (jo_b 168 (fun x y => x ^^^ y)))) (jt_n 169 (jt_l 168 (.inl (jo_b 169 (fun x y => x &&& y)))) (jt_l 169 (.inl (jo_is 171 7 4))))) (jt_n 172 (jt_l 171 (.inl (jo_al 172 0))) (jt_n 175 (jt_l 172 (.inl (jo_gf 175 12 31))) (jt_l 175 (.inl (jo_il 176 3)))))) (jt_n 182 (jt_n 178 (jt_l 176 (.inl (jo_il 178 4))) (jt_n 181 (jt_l 178 (.inl (jo_if 181 185 (fun x => decide (¬ x = 0))))) (jt_l 181 (.inl (jo_c 182 (nI 0)))))) (jt_n 185 (jt_l 182 (.inl (jo_go 187))) (jt_n 187 (jt_l 185 (.inl (jo_c 187 (nI 100)))) (jt_l 187 (.inl (jo_iw 188)))))))) (jt_n 209 (jt_n 197 (jt_n 191 (jt_n 189 (jt_l 188 (.inl (jo_c 189 (nI 0)))) (jt_l 189 (.inl (jo_is 191 7 5)))) (jt_n 193 (jt_l 191 (.inl (jo_il 193 5))) (jt_n 194 (jt_l 193 (.inl (jo_il 194 1))) (jt_l 194 (.inl (jo_ic 197 296 (fun x y => decide (y ≤ x)))))))) (jt_n 203 (jt_n 199 (jt_l 197 (.inl (jo_il 199 4))) (jt_n 202 (jt_l 199 (.inl (jo_if 202 296 (fun x => decide (x = 0))))) (jt_l 202 (.inl (jo_al 203 0))))) (jt_n 206 (jt_l 203 (.inl (jo_gf 206 12 32))) (jt_n 208 (jt_l 206 (.inl (jo_il 208 5))) (jt_l 208 (.inl (jo_ia 209))))))) (jt_n 220 (jt_n 214 (jt_n 210 (jt_l 209 (.inl (jo_il 210 3))) (jt_n 211 (jt_l 210 (.inl (jo_b 211 (fun x y => x &&& y)))) (jt_l 211 (.inl (jo_if 214 235 (fun x => decide (¬ x = 0))))))) (jt_n 215 (jt_l 214 (.inl (jo_al 215 0))) (jt_n 218 (jt_l 215 (.inl (jo_gf 218 12 32))) (jt_l 218 (.inl (jo_il 220 5)))))) (jt_n 225 (jt_n 221 (jt_l 220 (.inl (jo_ia 221))) (jt_n 223 (jt_l 221 (.inl (jo_il 223 4))) (jt_l 223 (.inl (jo_il 225 4))))) (jt_n 226 (jt_l 225 (.inl (jo_1 226 (fun x => -x)))) (jt_n 227 (jt_l 226 (.inl (jo_b 227 (fun x y => x &&& y)))) (jt_l 227 (.inl (jo_b 228 (fun x y => x &&& y)))))))))) (jt_n 268 (jt_n 249 (jt_n 238 (jt_n 232 (jt_n 231 (jt_l 228 (.inl (jo_if 231 235 (fun x => decide (x = 0))))) (jt_l 231 (.inl (jo_c 232 (nI 1))))) (jt_n 235 (jt_l 232 (.inl (jo_go 236))) (jt_n 236 (jt_l 235 (.inl (jo_c 236 (nI 0)))) (jt_l 236 (.inl (jo_is 238 7 6)))))) (jt_n 244 (jt_n 240 (jt_l 238 (.inl (jo_il 240 6))) (jt_n 243 (jt_l 240 (.inl (jo_if 243 290 (fun x => decide (x = 0))))) (jt_l 243 (.inl (jo_c 244 (nI 1)))))) (jt_n 245 (jt_l 244 (.inl (jo_al 245 0))) (jt_n 248 (jt_l 245 (.inl (jo_gf 248 12 31))) (jt_l 248 (.inl (jo_il 249 3))))))) (jt_n 258 (jt_n 255 (jt_n 250 (jt_l 249 (.inl (jo_al 250 0))) (jt_n 253 (jt_l 250 (.inl (jo_gf 253 12 32))) (jt_l 253 (.inl (jo_il 255 5))))) (jt_n 256 (jt_l 255 (.inl (jo_ia 256))) (jt_n 257 (jt_l 256 (.inl (jo_b 257 (fun x y => x ||| y)))) (jt_l 257 (.inl (jo_ia 258)))))) (jt_n 263 (jt_n 259 (jt_l 258 (.inl (jo_b 259 (fun x y => x + y)))) (jt_n 260 (jt_l 259 (.inl (jo_al 260 0))) (jt_l 260 (.inl (jo_gf 263 12 31))))) (jt_n 264 (jt_l 263 (.inl (jo_il 264 3))) (jt_n 265 (jt_l 264 (.inl (jo_ia 265))) (jt_l 265 (.inl (jo_ic 268 290 (fun x y => decide (y ≤ x)))))))))) (jt_n 287 (jt_n 278 (jt_n 273 (jt_n 269 (jt_l 268 (.inl (jo_al 269 0))) (jt_n 272 (jt_l 269 (.inl (jo_gf 272 12 31))) (jt_l 272 (.inl (jo_il 273 3))))) (jt_n 274 (jt_l 273 (.inl (jo_c 274 (nI 1)))) (jt_n 275 (jt_l 274 (.inl (jo_al 275 0))) (jt_l 275 (.inl (jo_gf 278 12 31)))))) (jt_n 283 (jt_n 279 (jt_l 278 (.inl (jo_il 279 3))) (jt_n 280 (jt_l 279 (.inl (jo_al 280 0))) (jt_l 280 (.inl (jo_gf 283 12 32))))) (jt_n 285 (jt_l 283 (.inl (jo_il 285 5))) (jt_n 286 (jt_l 285 (.inl (jo_ia 286))) (jt_l 286 (.inl (jo_b 287 (fun x y => x ||| y)))))))) (jt_n 299 (jt_n 290 (jt_n 288 (jt_l 287 (.inl (jo_ia 288))) (jt_n 289 (jt_l 288 (.inl (jo_b 289 (fun x y => x + y)))) (jt_l 289 (.inl (jo_iw 290))))) (jt_n 293 (jt_l 290 (.inl (jo_inc 293 7 5 (nI 1)))) (jt_n 296 (jt_l 293 (.inl (jo_go 191))) (jt_l 296 (.inl (jo_inc 299 7 3 (-1))))))) (jt_n 306 (jt_n 302 (jt_l 299 (.inl (jo_go 149))) (jt_n 303 (jt_l 302 (.inl (jo_al 303 0))) (jt_l 303 (.inl (jo_gf 306 12 31))))) (jt_n 307 (jt_l 306 (.inl (jo_c 307 (nI 0)))) (jt_n 308 (jt_l 307 (.inl (jo_ia 308))) (jt_l 308 (.inr (.inr 1)))))))))))
/-- TalkBenchModel.weightOf(II)I -/
def jc_181 : Nat → Option jxI := (jt_n 50 (jt_n 23 (jt_n 8 (jt_n 3 (jt_n 1 (jt_l 0 (.inl (jo_c 1 (nI 0)))) (jt_n 2 (jt_l 1 (.inl (jo_is 2 6 3))) (jt_l 2 (.inl (jo_c 3 (nI 0)))))) (jt_n 5 (jt_l 3 (.inl (jo_is 5 6 4))) (jt_n 7 (jt_l 5 (.inl (jo_il 7 4))) (jt_l 7 (.inl (jo_al 8 0)))))) (jt_n 15 (jt_n 11 (jt_l 8 (.inl (jo_gf 11 12 0))) (jt_n 14 (jt_l 11 (.inl (jo_ic 14 96 (fun x y => decide (y ≤ x))))) (jt_l 14 (.inl (jo_c 15 (nI 0)))))) (jt_n 19 (jt_n 17 (jt_l 15 (.inl (jo_is 17 6 5))) (jt_l 17 (.inl (jo_il 19 5)))) (jt_n 20 (jt_l 19 (.inl (jo_al 20 0))) (jt_l 20 (.inl (jo_gf 23 12 1))))))) (jt_n 35 (jt_n 28 (jt_n 26 (jt_l 23 (.inl (jo_ic 26 90 (fun x y => decide (y ≤ x))))) (jt_n 27 (jt_l 26 (.inl (jo_il 27 3))) (jt_l 27 (.inl (jo_il 28 1))))) (jt_n 30 (jt_n 29 (jt_l 28 (.inl (jo_c 29 (nI 5)))) (jt_l 29 (.inl (jo_b 30 (fun x y => x >>> (y &&& 31)))))) (jt_n 32 (jt_l 30 (.inl (jo_il 32 4))) (jt_l 32 (.inr (.inl (132, 2, 35, none))))))) (jt_n 41 (jt_n 38 (jt_l 35 (.inl (jo_if 38 81 (fun x => decide (x = 0))))) (jt_n 39 (jt_l 38 (.inl (jo_il 39 1))) (jt_l 39 (.inl (jo_c 41 (nI 31)))))) (jt_n 44 (jt_n 42 (jt_l 41 (.inl (jo_b 42 (fun x y => x &&& y)))) (jt_l 42 (.inl (jo_il 44 5)))) (jt_n 47 (jt_l 44 (.inr (.inl (132, 2, 47, none)))) (jt_l 47 (.inl (jo_if 50 81 (fun x => decide (x = 0)))))))))) (jt_n 73 (jt_n 61 (jt_n 55 (jt_n 51 (jt_l 50 (.inl (jo_al 51 0))) (jt_n 54 (jt_l 51 (.inl (jo_gf 54 12 2))) (jt_l 54 (.inl (jo_c 55 (nI 5)))))) (jt_n 58 (jt_n 57 (jt_l 55 (.inl (jo_il 57 4))) (jt_l 57 (.inl (jo_b 58 (fun x y => x * y))))) (jt_n 60 (jt_l 58 (.inl (jo_il 60 5))) (jt_l 60 (.inl (jo_b 61 (fun x y => x + y))))))) (jt_n 66 (jt_n 62 (jt_l 61 (.inl (jo_ia 62))) (jt_n 63 (jt_l 62 (.inl (jo_il 63 2))) (jt_l 63 (.inl (jo_ic 66 81 (fun x y => decide (¬ x = y))))))) (jt_n 70 (jt_n 67 (jt_l 66 (.inl (jo_al 67 0))) (jt_l 67 (.inl (jo_gf 70 12 3)))) (jt_n 71 (jt_l 70 (.inl (jo_c 71 (nI 5)))) (jt_l 71 (.inl (jo_il 73 4))))))) (jt_n 83 (jt_n 77 (jt_n 74 (jt_l 73 (.inl (jo_b 74 (fun x y => x * y)))) (jt_n 76 (jt_l 74 (.inl (jo_il 76 5))) (jt_l 76 (.inl (jo_b 77 (fun x y => x + y)))))) (jt_n 81 (jt_n 78 (jt_l 77 (.inl (jo_ia 78))) (jt_l 78 (.inl (jo_go 82)))) (jt_n 82 (jt_l 81 (.inl (jo_c 82 (nI 0)))) (jt_l 82 (.inl (jo_b 83 (fun x y => x + y))))))) (jt_n 90 (jt_n 84 (jt_l 83 (.inl (jo_is 84 6 3))) (jt_n 87 (jt_l 84 (.inl (jo_inc 87 6 5 (nI 1)))) (jt_l 87 (.inl (jo_go 17))))) (jt_n 96 (jt_n 93 (jt_l 90 (.inl (jo_inc 93 6 4 (nI 1)))) (jt_l 93 (.inl (jo_go 5)))) (jt_n 97 (jt_l 96 (.inl (jo_il 97 3))) (jt_l 97 (.inr (.inr 1)))))))))
/-- TalkBenchModel.swing()I -/
def jc_182 : Nat → Option jxI := (jt_n 33 (jt_n 14 (jt_n 5 (jt_n 2 (jt_n 1 (jt_l 0 (.inl (jo_c 1 (nI 0)))) (jt_l 1 (.inl (jo_is 2 4 1)))) (jt_n 3 (jt_l 2 (.inl (jo_c 3 (nI 0)))) (jt_n 4 (jt_l 3 (.inl (jo_is 4 4 2))) (jt_l 4 (.inl (jo_il 5 2)))))) (jt_n 9 (jt_n 6 (jt_l 5 (.inl (jo_al 6 0))) (jt_l 6 (.inr (.inl (154, 1, 9, some 12))))) (jt_n 12 (jt_l 9 (.inl (jo_ic 12 66 (fun x y => decide (y < x))))) (jt_n 13 (jt_l 12 (.inl (jo_al 13 0))) (jt_l 13 (.inl (jo_il 14 2))))))) (jt_n 23 (jt_n 20 (jt_n 17 (jt_l 14 (.inr (.inl (157, 2, 17, some 12)))) (jt_l 17 (.inl (jo_if 20 36 (fun x => decide (x = 0)))))) (jt_n 21 (jt_l 20 (.inl (jo_al 21 0))) (jt_n 22 (jt_l 21 (.inl (jo_il 22 2))) (jt_l 22 (.inl (jo_c 23 (nI 1))))))) (jt_n 28 (jt_n 26 (jt_l 23 (.inr (.inl (181, 3, 26, some 12)))) (jt_n 27 (jt_l 26 (.inl (jo_al 27 0))) (jt_l 27 (.inl (jo_il 28 2))))) (jt_n 29 (jt_l 28 (.inl (jo_c 29 (nI 0)))) (jt_n 32 (jt_l 29 (.inr (.inl (181, 3, 32, some 12)))) (jt_l 32 (.inl (jo_b 33 (fun x y => x - y))))))))) (jt_n 49 (jt_n 42 (jt_n 37 (jt_n 36 (jt_l 33 (.inl (jo_go 37))) (jt_l 36 (.inl (jo_c 37 (nI 0))))) (jt_n 38 (jt_l 37 (.inl (jo_is 38 4 3))) (jt_n 39 (jt_l 38 (.inl (jo_il 39 3))) (jt_l 39 (.inl (jo_if 42 47 (fun x => decide (0 ≤ x)))))))) (jt_n 44 (jt_n 43 (jt_l 42 (.inl (jo_il 43 3))) (jt_l 43 (.inl (jo_1 44 (fun x => -x))))) (jt_n 47 (jt_l 44 (.inl (jo_go 48))) (jt_n 48 (jt_l 47 (.inl (jo_il 48 3))) (jt_l 48 (.inl (jo_is 49 4 3))))))) (jt_n 58 (jt_n 51 (jt_n 50 (jt_l 49 (.inl (jo_il 50 3))) (jt_l 50 (.inl (jo_il 51 1)))) (jt_n 54 (jt_l 51 (.inl (jo_ic 54 58 (fun x y => decide (x ≤ y))))) (jt_n 55 (jt_l 54 (.inl (jo_il 55 3))) (jt_l 55 (.inl (jo_go 59)))))) (jt_n 63 (jt_n 59 (jt_l 58 (.inl (jo_il 59 1))) (jt_n 60 (jt_l 59 (.inl (jo_is 60 4 1))) (jt_l 60 (.inl (jo_inc 63 4 2 (nI 1)))))) (jt_n 66 (jt_l 63 (.inl (jo_go 4))) (jt_n 67 (jt_l 66 (.inl (jo_il 67 1))) (jt_l 67 (.inr (.inr 1)))))))))
/-- TalkBenchModel.wrong(I)I -/
def jc_183 : Nat → Option jxI := (jt_n 91 (jt_n 44 (jt_n 19 (jt_n 11 (jt_n 5 (jt_n 1 (jt_l 0 (.inl (jo_il 1 1))) (jt_n 4 (jt_l 1 (.inl (jo_if 4 10 (fun x => decide (x < 0))))) (jt_l 4 (.inl (jo_il 5 1))))) (jt_n 7 (jt_l 5 (.inl (jo_c 7 (nI 6)))) (jt_n 10 (jt_l 7 (.inl (jo_ic 10 16 (fun x y => decide (x ≤ y))))) (jt_l 10 (.inl (jo_al 11 0)))))) (jt_n 16 (jt_n 12 (jt_l 11 (.inl (jo_c 12 (-1)))) (jt_n 15 (jt_l 12 (.inr (.inl (130, 2, 15, some 12)))) (jt_l 15 (.inr (.inr 1))))) (jt_n 17 (jt_l 16 (.inl (jo_c 17 (nI 0)))) (jt_n 18 (jt_l 17 (.inl (jo_is 18 8 2))) (jt_l 18 (.inl (jo_il 19 2))))))) (jt_n 27 (jt_n 24 (jt_n 20 (jt_l 19 (.inl (jo_il 20 1))) (jt_n 23 (jt_l 20 (.inl (jo_ic 23 164 (fun x y => decide (y < x))))) (jt_l 23 (.inl (jo_c 24 (nI 0)))))) (jt_n 25 (jt_l 24 (.inl (jo_is 25 8 3))) (jt_n 26 (jt_l 25 (.inl (jo_il 26 3))) (jt_l 26 (.inl (jo_al 27 0)))))) (jt_n 34 (jt_n 30 (jt_l 27 (.inr (.inl (154, 1, 30, some 12)))) (jt_n 33 (jt_l 30 (.inl (jo_ic 33 158 (fun x y => decide (y < x))))) (jt_l 33 (.inl (jo_al 34 0))))) (jt_n 38 (jt_n 35 (jt_l 34 (.inl (jo_il 35 3))) (jt_l 35 (.inr (.inl (157, 2, 38, some 12))))) (jt_n 41 (jt_l 38 (.inl (jo_if 41 44 (fun x => decide (¬ x = 0))))) (jt_l 41 (.inl (jo_go 152)))))))) (jt_n 64 (jt_n 53 (jt_n 47 (jt_n 45 (jt_l 44 (.inl (jo_al 45 0))) (jt_n 46 (jt_l 45 (.inl (jo_il 46 3))) (jt_l 46 (.inl (jo_c 47 (nI 1)))))) (jt_n 50 (jt_l 47 (.inr (.inl (181, 3, 50, some 12)))) (jt_n 52 (jt_l 50 (.inl (jo_is 52 8 4))) (jt_l 52 (.inl (jo_al 53 0)))))) (jt_n 58 (jt_n 54 (jt_l 53 (.inl (jo_il 54 3))) (jt_n 55 (jt_l 54 (.inl (jo_c 55 (nI 0)))) (jt_l 55 (.inr (.inl (181, 3, 58, some 12)))))) (jt_n 60 (jt_l 58 (.inl (jo_is 60 8 5))) (jt_n 62 (jt_l 60 (.inl (jo_il 62 4))) (jt_l 62 (.inl (jo_il 64 5))))))) (jt_n 77 (jt_n 72 (jt_n 67 (jt_l 64 (.inl (jo_ic 67 72 (fun x y => decide (y ≤ x))))) (jt_n 69 (jt_l 67 (.inl (jo_il 69 4))) (jt_l 69 (.inl (jo_go 74))))) (jt_n 74 (jt_l 72 (.inl (jo_il 74 5))) (jt_n 76 (jt_l 74 (.inl (jo_is 76 8 6))) (jt_l 76 (.inl (jo_c 77 (nI 1))))))) (jt_n 83 (jt_n 79 (jt_l 77 (.inl (jo_is 79 8 7))) (jt_n 81 (jt_l 79 (.inl (jo_il 81 7))) (jt_l 81 (.inl (jo_c 83 (nI 32)))))) (jt_n 87 (jt_n 86 (jt_l 83 (.inl (jo_ic 86 138 (fun x y => decide (y ≤ x))))) (jt_l 86 (.inl (jo_il 87 2)))) (jt_n 90 (jt_l 87 (.inl (jo_if 90 138 (fun x => decide (x ≤ 0))))) (jt_l 90 (.inl (jo_al 91 0))))))))) (jt_n 132 (jt_n 110 (jt_n 100 (jt_n 94 (jt_n 92 (jt_l 91 (.inl (jo_il 92 3))) (jt_n 93 (jt_l 92 (.inl (jo_al 93 0))) (jt_l 93 (.inl (jo_il 94 3))))) (jt_n 96 (jt_l 94 (.inl (jo_il 96 7))) (jt_n 97 (jt_l 96 (.inl (jo_c 97 (nI 1)))) (jt_l 97 (.inr (.inl (159, 4, 100, some 12))))))) (jt_n 104 (jt_n 102 (jt_l 100 (.inl (jo_il 102 7))) (jt_n 103 (jt_l 102 (.inl (jo_c 103 (nI 5)))) (jt_l 103 (.inl (jo_b 104 (fun x y => x <<< (y &&& 31))))))) (jt_n 105 (jt_l 104 (.inl (jo_il 105 2))) (jt_n 107 (jt_l 105 (.inl (jo_il 107 6))) (jt_l 107 (.inr (.inl (184, 6, 110, some 12)))))))) (jt_n 118 (jt_n 114 (jt_n 112 (jt_l 110 (.inl (jo_is 112 8 6))) (jt_n 113 (jt_l 112 (.inl (jo_al 113 0))) (jt_l 113 (.inl (jo_il 114 3))))) (jt_n 115 (jt_l 114 (.inl (jo_al 115 0))) (jt_n 116 (jt_l 115 (.inl (jo_il 116 3))) (jt_l 116 (.inl (jo_il 118 7)))))) (jt_n 124 (jt_n 119 (jt_l 118 (.inl (jo_c 119 (nI 0)))) (jt_n 122 (jt_l 119 (.inr (.inl (159, 4, 122, some 12)))) (jt_l 122 (.inl (jo_il 124 7))))) (jt_n 127 (jt_n 125 (jt_l 124 (.inl (jo_il 125 2))) (jt_l 125 (.inl (jo_il 127 6)))) (jt_n 130 (jt_l 127 (.inr (.inl (184, 6, 130, some 12)))) (jt_l 130 (.inl (jo_is 132 8 6)))))))) (jt_n 155 (jt_n 146 (jt_n 139 (jt_n 135 (jt_l 132 (.inl (jo_inc 135 8 7 (nI 1)))) (jt_n 138 (jt_l 135 (.inl (jo_go 79))) (jt_l 138 (.inl (jo_al 139 0))))) (jt_n 142 (jt_l 139 (.inl (jo_gf 142 12 33))) (jt_n 145 (jt_l 142 (.inl (jo_c 145 (nI 1024)))) (jt_l 145 (.inl (jo_il 146 2)))))) (jt_n 149 (jt_n 147 (jt_l 146 (.inl (jo_b 147 (fun x y => x * y)))) (jt_n 148 (jt_l 147 (.inl (jo_il 148 3))) (jt_l 148 (.inl (jo_b 149 (fun x y => x + y)))))) (jt_n 151 (jt_l 149 (.inl (jo_il 151 6))) (jt_n 152 (jt_l 151 (.inl (jo_iw 152))) (jt_l 152 (.inl (jo_inc 155 8 3 (nI 1)))))))) (jt_n 171 (jt_n 164 (jt_n 158 (jt_l 155 (.inl (jo_go 25))) (jt_n 161 (jt_l 158 (.inl (jo_inc 161 8 2 (nI 1)))) (jt_l 161 (.inl (jo_go 18))))) (jt_n 165 (jt_l 164 (.inl (jo_al 165 0))) (jt_n 168 (jt_l 165 (.inl (jo_gf 168 12 33))) (jt_l 168 (.inl (jo_c 171 (nI 1024))))))) (jt_n 174 (jt_n 172 (jt_l 171 (.inl (jo_il 172 1))) (jt_n 173 (jt_l 172 (.inl (jo_b 173 (fun x y => x * y)))) (jt_l 173 (.inl (jo_al 174 0))))) (jt_n 178 (jt_n 177 (jt_l 174 (.inr (.inl (154, 1, 177, some 12)))) (jt_l 177 (.inl (jo_b 178 (fun x y => x + y))))) (jt_n 179 (jt_l 178 (.inl (jo_ia 179))) (jt_l 179 (.inr (.inr 1))))))))))
/-- TalkBenchModel.lessWrong(IZIII)I -/
def jc_184 : Nat → Option jxI := (jt_n 41 (jt_n 19 (jt_n 10 (jt_n 6 (jt_n 1 (jt_l 0 (.inl (jo_il 1 2))) (jt_n 4 (jt_l 1 (.inl (jo_if 4 7 (fun x => decide (¬ x = 0))))) (jt_l 4 (.inl (jo_il 6 5))))) (jt_n 7 (jt_l 6 (.inr (.inr 1))) (jt_n 8 (jt_l 7 (.inl (jo_il 8 3))) (jt_l 8 (.inl (jo_c 10 (nI 32))))))) (jt_n 16 (jt_n 13 (jt_l 10 (.inl (jo_ic 13 22 (fun x y => decide (y ≤ x))))) (jt_n 14 (jt_l 13 (.inl (jo_il 14 1))) (jt_l 14 (.inl (jo_c 16 (-32)))))) (jt_n 17 (jt_l 16 (.inl (jo_b 17 (fun x y => x &&& y)))) (jt_n 18 (jt_l 17 (.inl (jo_il 18 3))) (jt_l 18 (.inl (jo_b 19 (fun x y => x ||| y)))))))) (jt_n 28 (jt_n 24 (jt_n 22 (jt_l 19 (.inl (jo_go 28))) (jt_n 23 (jt_l 22 (.inl (jo_il 23 3))) (jt_l 23 (.inl (jo_il 24 1))))) (jt_n 26 (jt_l 24 (.inl (jo_c 26 (nI 31)))) (jt_n 27 (jt_l 26 (.inl (jo_b 27 (fun x y => x &&& y)))) (jt_l 27 (.inl (jo_b 28 (fun x y => x ||| y))))))) (jt_n 34 (jt_n 30 (jt_l 28 (.inl (jo_is 30 8 6))) (jt_n 31 (jt_l 30 (.inl (jo_al 31 0))) (jt_l 31 (.inl (jo_gf 34 12 33))))) (jt_n 39 (jt_n 37 (jt_l 34 (.inl (jo_c 37 (nI 1024)))) (jt_l 37 (.inl (jo_il 39 4)))) (jt_n 40 (jt_l 39 (.inl (jo_c 40 (nI 1)))) (jt_l 40 (.inl (jo_b 41 (fun x y => x - y))))))))) (jt_n 58 (jt_n 47 (jt_n 44 (jt_n 42 (jt_l 41 (.inl (jo_b 42 (fun x y => x * y)))) (jt_n 43 (jt_l 42 (.inl (jo_il 43 1))) (jt_l 43 (.inl (jo_il 44 3))))) (jt_n 45 (jt_l 44 (.inl (jo_b 45 (fun x y => x ^^^ y)))) (jt_n 46 (jt_l 45 (.inl (jo_b 46 (fun x y => x + y)))) (jt_l 46 (.inl (jo_ia 47)))))) (jt_n 54 (jt_n 48 (jt_l 47 (.inl (jo_al 48 0))) (jt_n 51 (jt_l 48 (.inl (jo_gf 51 12 33))) (jt_l 51 (.inl (jo_c 54 (nI 1024)))))) (jt_n 56 (jt_l 54 (.inl (jo_il 56 4))) (jt_n 57 (jt_l 56 (.inl (jo_c 57 (nI 1)))) (jt_l 57 (.inl (jo_b 58 (fun x y => x - y)))))))) (jt_n 66 (jt_n 62 (jt_n 59 (jt_l 58 (.inl (jo_b 59 (fun x y => x * y)))) (jt_n 61 (jt_l 59 (.inl (jo_il 61 6))) (jt_l 61 (.inl (jo_b 62 (fun x y => x + y)))))) (jt_n 63 (jt_l 62 (.inl (jo_ia 63))) (jt_n 64 (jt_l 63 (.inl (jo_b 64 (fun x y => x + y)))) (jt_l 64 (.inl (jo_is 66 8 7)))))) (jt_n 73 (jt_n 68 (jt_l 66 (.inl (jo_il 68 7))) (jt_n 70 (jt_l 68 (.inl (jo_il 70 5))) (jt_l 70 (.inl (jo_ic 73 78 (fun x y => decide (y ≤ x))))))) (jt_n 78 (jt_n 75 (jt_l 73 (.inl (jo_il 75 7))) (jt_l 75 (.inl (jo_go 80)))) (jt_n 80 (jt_l 78 (.inl (jo_il 80 5))) (jt_l 80 (.inr (.inr 1)))))))))
/-- TalkBenchModel.tell(I)I -/
def jc_185 : Nat → Option jxI := (jt_n 21 (jt_n 10 (jt_n 4 (jt_n 1 (jt_l 0 (.inl (jo_al 1 0))) (jt_l 1 (.inl (jo_gf 4 12 11)))) (jt_n 6 (jt_l 4 (.inl (jo_c 6 (nI 120)))) (jt_n 9 (jt_l 6 (.inl (jo_ic 9 16 (fun x y => decide (¬ x = y))))) (jt_l 9 (.inl (jo_al 10 0)))))) (jt_n 16 (jt_n 12 (jt_l 10 (.inl (jo_c 12 (-5)))) (jt_n 15 (jt_l 12 (.inr (.inl (130, 2, 15, some 12)))) (jt_l 15 (.inr (.inr 1))))) (jt_n 17 (jt_l 16 (.inl (jo_al 17 0))) (jt_n 20 (jt_l 17 (.inl (jo_gf 20 12 12))) (jt_l 20 (.inl (jo_al 21 0))))))) (jt_n 31 (jt_n 26 (jt_n 24 (jt_l 21 (.inl (jo_gf 24 12 11))) (jt_n 25 (jt_l 24 (.inl (jo_il 25 1))) (jt_l 25 (.inl (jo_iw 26))))) (jt_n 27 (jt_l 26 (.inl (jo_al 27 0))) (jt_n 28 (jt_l 27 (.inl (jo_d 28))) (jt_l 28 (.inl (jo_gf 31 12 11)))))) (jt_n 36 (jt_n 32 (jt_l 31 (.inl (jo_c 32 (nI 1)))) (jt_n 33 (jt_l 32 (.inl (jo_b 33 (fun x y => x + y)))) (jt_l 33 (.inl (jo_pf 36 12 11 0))))) (jt_n 37 (jt_l 36 (.inl (jo_al 37 0))) (jt_n 40 (jt_l 37 (.inl (jo_gf 40 12 11))) (jt_l 40 (.inr (.inr 1))))))))
/-- TalkBenchModel.check()I -/
def jc_186 : Nat → Option jxI := (jt_n 148 (jt_n 70 (jt_n 34 (jt_n 17 (jt_n 7 (jt_n 4 (jt_n 1 (jt_l 0 (.inl (jo_al 1 0))) (jt_l 1 (.inl (jo_gf 4 12 11)))) (jt_n 5 (jt_l 4 (.inl (jo_is 5 11 1))) (jt_n 6 (jt_l 5 (.inl (jo_al 6 0))) (jt_l 6 (.inl (jo_c 7 (nI 0))))))) (jt_n 12 (jt_n 10 (jt_l 7 (.inl (jo_pf 10 12 11 0))) (jt_n 11 (jt_l 10 (.inl (jo_c 11 (nI 1)))) (jt_l 11 (.inl (jo_is 12 11 2))))) (jt_n 13 (jt_l 12 (.inl (jo_al 13 0))) (jt_n 16 (jt_l 13 (.inl (jo_gf 16 12 34))) (jt_l 16 (.inl (jo_c 17 (nI 0)))))))) (jt_n 27 (jt_n 22 (jt_n 18 (jt_l 17 (.inl (jo_al 18 0))) (jt_n 21 (jt_l 18 (.inr (.inl (154, 1, 21, some 12)))) (jt_l 21 (.inl (jo_iw 22))))) (jt_n 23 (jt_l 22 (.inl (jo_al 23 0))) (jt_n 26 (jt_l 23 (.inl (jo_gf 26 12 35))) (jt_l 26 (.inl (jo_c 27 (nI 0))))))) (jt_n 30 (jt_n 28 (jt_l 27 (.inl (jo_c 28 (nI 0)))) (jt_n 29 (jt_l 28 (.inl (jo_iw 29))) (jt_l 29 (.inl (jo_c 30 (nI 0)))))) (jt_n 31 (jt_l 30 (.inl (jo_is 31 11 3))) (jt_n 32 (jt_l 31 (.inl (jo_c 32 (nI 0)))) (jt_l 32 (.inl (jo_is 34 11 4)))))))) (jt_n 54 (jt_n 45 (jt_n 38 (jt_n 35 (jt_l 34 (.inl (jo_il 35 2))) (jt_l 35 (.inl (jo_if 38 304 (fun x => decide (x ≤ 0)))))) (jt_n 41 (jt_l 38 (.inl (jo_inc 41 11 2 (-1)))) (jt_n 42 (jt_l 41 (.inl (jo_al 42 0))) (jt_l 42 (.inl (jo_gf 45 12 34)))))) (jt_n 49 (jt_n 46 (jt_l 45 (.inl (jo_il 46 2))) (jt_n 47 (jt_l 46 (.inl (jo_ia 47))) (jt_l 47 (.inl (jo_is 49 11 5))))) (jt_n 50 (jt_l 49 (.inl (jo_al 50 0))) (jt_n 53 (jt_l 50 (.inl (jo_gf 53 12 35))) (jt_l 53 (.inl (jo_il 54 2))))))) (jt_n 61 (jt_n 58 (jt_n 55 (jt_l 54 (.inl (jo_ia 55))) (jt_n 57 (jt_l 55 (.inl (jo_is 57 11 6))) (jt_l 57 (.inl (jo_c 58 (nI 2)))))) (jt_n 59 (jt_l 58 (.inl (jo_il 59 3))) (jt_n 60 (jt_l 59 (.inl (jo_b 60 (fun x y => x * y)))) (jt_l 60 (.inl (jo_c 61 (nI 1))))))) (jt_n 66 (jt_n 62 (jt_l 61 (.inl (jo_b 62 (fun x y => x + y)))) (jt_n 63 (jt_l 62 (.inl (jo_il 63 1))) (jt_l 63 (.inl (jo_ic 66 71 (fun x y => decide (x < y))))))) (jt_n 68 (jt_l 66 (.inl (jo_c 68 (nI 100)))) (jt_n 69 (jt_l 68 (.inl (jo_il 69 3))) (jt_l 69 (.inl (jo_b 70 (fun x y => x + y)))))))))) (jt_n 106 (jt_n 86 (jt_n 77 (jt_n 72 (jt_n 71 (jt_l 70 (.inr (.inr 1))) (jt_l 71 (.inl (jo_al 72 0)))) (jt_n 75 (jt_l 72 (.inl (jo_gf 75 12 12))) (jt_n 76 (jt_l 75 (.inl (jo_c 76 (nI 2)))) (jt_l 76 (.inl (jo_il 77 3)))))) (jt_n 81 (jt_n 78 (jt_l 77 (.inl (jo_b 78 (fun x y => x * y)))) (jt_n 79 (jt_l 78 (.inl (jo_ia 79))) (jt_l 79 (.inl (jo_is 81 11 7))))) (jt_n 82 (jt_l 81 (.inl (jo_al 82 0))) (jt_n 85 (jt_l 82 (.inl (jo_gf 85 12 12))) (jt_l 85 (.inl (jo_c 86 (nI 2)))))))) (jt_n 93 (jt_n 89 (jt_n 87 (jt_l 86 (.inl (jo_il 87 3))) (jt_n 88 (jt_l 87 (.inl (jo_b 88 (fun x y => x * y)))) (jt_l 88 (.inl (jo_c 89 (nI 1)))))) (jt_n 90 (jt_l 89 (.inl (jo_b 90 (fun x y => x + y)))) (jt_n 91 (jt_l 90 (.inl (jo_ia 91))) (jt_l 91 (.inl (jo_is 93 11 8)))))) (jt_n 99 (jt_n 95 (jt_l 93 (.inl (jo_il 95 7))) (jt_n 96 (jt_l 95 (.inl (jo_c 96 (nI 2)))) (jt_l 96 (.inl (jo_ic 99 151 (fun x y => decide (¬ x = y))))))) (jt_n 101 (jt_l 99 (.inl (jo_il 101 8))) (jt_n 104 (jt_l 101 (.inl (jo_if 104 127 (fun x => decide (x < 0))))) (jt_l 104 (.inl (jo_il 106 8)))))))) (jt_n 124 (jt_n 117 (jt_n 111 (jt_n 107 (jt_l 106 (.inl (jo_c 107 (nI 1)))) (jt_n 110 (jt_l 107 (.inl (jo_ic 110 127 (fun x y => decide (y < x))))) (jt_l 110 (.inl (jo_al 111 0))))) (jt_n 113 (jt_l 111 (.inl (jo_il 113 5))) (jt_n 116 (jt_l 113 (.inr (.inl (155, 2, 116, some 12)))) (jt_l 116 (.inl (jo_c 117 (nI 1))))))) (jt_n 121 (jt_n 119 (jt_l 117 (.inl (jo_il 119 8))) (jt_n 120 (jt_l 119 (.inl (jo_b 120 (fun x y => x - y)))) (jt_l 120 (.inl (jo_b 121 (fun x y => x >>> (y &&& 31))))))) (jt_n 122 (jt_l 121 (.inl (jo_c 122 (nI 1)))) (jt_n 123 (jt_l 122 (.inl (jo_b 123 (fun x y => x &&& y)))) (jt_l 123 (.inl (jo_c 124 (nI 1)))))))) (jt_n 134 (jt_n 130 (jt_n 127 (jt_l 124 (.inl (jo_ic 127 132 (fun x y => decide (¬ x = y))))) (jt_n 129 (jt_l 127 (.inl (jo_c 129 (nI 100)))) (jt_l 129 (.inl (jo_il 130 3))))) (jt_n 131 (jt_l 130 (.inl (jo_b 131 (fun x y => x + y)))) (jt_n 132 (jt_l 131 (.inr (.inr 1))) (jt_l 132 (.inl (jo_il 134 6)))))) (jt_n 141 (jt_n 136 (jt_l 134 (.inl (jo_il 136 4))) (jt_n 139 (jt_l 136 (.inl (jo_ic 139 144 (fun x y => decide (x ≤ y))))) (jt_l 139 (.inl (jo_il 141 6))))) (jt_n 144 (jt_l 141 (.inl (jo_go 146))) (jt_n 146 (jt_l 144 (.inl (jo_il 146 4))) (jt_l 146 (.inl (jo_is 148 11 4)))))))))) (jt_n 244 (jt_n 199 (jt_n 174 (jt_n 159 (jt_n 153 (jt_n 151 (jt_l 148 (.inl (jo_go 298))) (jt_l 151 (.inl (jo_il 153 7)))) (jt_n 156 (jt_l 153 (.inl (jo_if 156 162 (fun x => decide (x = 0))))) (jt_n 158 (jt_l 156 (.inl (jo_il 158 7))) (jt_l 158 (.inl (jo_c 159 (nI 1))))))) (jt_n 167 (jt_n 162 (jt_l 159 (.inl (jo_ic 162 199 (fun x y => decide (¬ x = y))))) (jt_n 164 (jt_l 162 (.inl (jo_il 164 8))) (jt_l 164 (.inl (jo_if 167 199 (fun x => decide (x ≤ 0))))))) (jt_n 169 (jt_l 167 (.inl (jo_il 169 8))) (jt_n 171 (jt_l 169 (.inl (jo_c 171 (nI 32)))) (jt_l 171 (.inl (jo_ic 174 199 (fun x y => decide (y ≤ x))))))))) (jt_n 185 (jt_n 179 (jt_n 175 (jt_l 174 (.inl (jo_al 175 0))) (jt_n 177 (jt_l 175 (.inl (jo_il 177 5))) (jt_l 177 (.inl (jo_il 179 8))))) (jt_n 181 (jt_l 179 (.inl (jo_il 181 7))) (jt_n 184 (jt_l 181 (.inl (jo_if 184 188 (fun x => decide (¬ x = 0))))) (jt_l 184 (.inl (jo_c 185 (nI 1))))))) (jt_n 192 (jt_n 188 (jt_l 185 (.inl (jo_go 189))) (jt_n 189 (jt_l 188 (.inl (jo_c 189 (nI 0)))) (jt_l 189 (.inr (.inl (159, 4, 192, some 12)))))) (jt_n 195 (jt_l 192 (.inl (jo_if 195 199 (fun x => decide (x = 0))))) (jt_n 196 (jt_l 195 (.inl (jo_c 196 (nI 1)))) (jt_l 196 (.inl (jo_go 200)))))))) (jt_n 220 (jt_n 210 (jt_n 204 (jt_n 200 (jt_l 199 (.inl (jo_c 200 (nI 0)))) (jt_n 202 (jt_l 200 (.inl (jo_is 202 11 9))) (jt_l 202 (.inl (jo_il 204 9))))) (jt_n 207 (jt_l 204 (.inl (jo_if 207 212 (fun x => decide (¬ x = 0))))) (jt_n 209 (jt_l 207 (.inl (jo_c 209 (nI 100)))) (jt_l 209 (.inl (jo_il 210 3)))))) (jt_n 214 (jt_n 211 (jt_l 210 (.inl (jo_b 211 (fun x y => x + y)))) (jt_n 212 (jt_l 211 (.inr (.inr 1))) (jt_l 212 (.inl (jo_il 214 7))))) (jt_n 217 (jt_l 214 (.inl (jo_if 217 224 (fun x => decide (¬ x = 0))))) (jt_n 219 (jt_l 217 (.inl (jo_il 219 8))) (jt_l 219 (.inl (jo_c 220 (nI 5)))))))) (jt_n 232 (jt_n 226 (jt_n 221 (jt_l 220 (.inl (jo_b 221 (fun x y => x <<< (y &&& 31))))) (jt_n 224 (jt_l 221 (.inl (jo_go 226))) (jt_l 224 (.inl (jo_il 226 8))))) (jt_n 228 (jt_l 226 (.inl (jo_is 228 11 10))) (jt_n 229 (jt_l 228 (.inl (jo_al 229 0))) (jt_l 229 (.inl (jo_gf 232 12 34)))))) (jt_n 237 (jt_n 233 (jt_l 232 (.inl (jo_il 233 2))) (jt_n 235 (jt_l 233 (.inl (jo_il 235 10))) (jt_l 235 (.inl (jo_c 237 (nI 32)))))) (jt_n 240 (jt_l 237 (.inl (jo_ic 240 251 (fun x y => decide (y ≤ x))))) (jt_n 242 (jt_l 240 (.inl (jo_il 242 5))) (jt_l 242 (.inl (jo_c 244 (-32)))))))))) (jt_n 279 (jt_n 261 (jt_n 253 (jt_n 247 (jt_n 245 (jt_l 244 (.inl (jo_b 245 (fun x y => x &&& y)))) (jt_l 245 (.inl (jo_il 247 10)))) (jt_n 248 (jt_l 247 (.inl (jo_b 248 (fun x y => x ||| y)))) (jt_n 251 (jt_l 248 (.inl (jo_go 259))) (jt_l 251 (.inl (jo_il 253 10)))))) (jt_n 258 (jt_n 255 (jt_l 253 (.inl (jo_il 255 5))) (jt_n 257 (jt_l 255 (.inl (jo_c 257 (nI 31)))) (jt_l 257 (.inl (jo_b 258 (fun x y => x &&& y)))))) (jt_n 259 (jt_l 258 (.inl (jo_b 259 (fun x y => x ||| y)))) (jt_n 260 (jt_l 259 (.inl (jo_iw 260))) (jt_l 260 (.inl (jo_al 261 0))))))) (jt_n 270 (jt_n 267 (jt_n 264 (jt_l 261 (.inl (jo_gf 264 12 35))) (jt_n 265 (jt_l 264 (.inl (jo_il 265 2))) (jt_l 265 (.inl (jo_il 267 6))))) (jt_n 268 (jt_l 267 (.inl (jo_c 268 (nI 1)))) (jt_n 269 (jt_l 268 (.inl (jo_b 269 (fun x y => x + y)))) (jt_l 269 (.inl (jo_iw 270)))))) (jt_n 275 (jt_n 271 (jt_l 270 (.inl (jo_al 271 0))) (jt_n 274 (jt_l 271 (.inl (jo_gf 274 12 34))) (jt_l 274 (.inl (jo_il 275 2))))) (jt_n 276 (jt_l 275 (.inl (jo_c 276 (nI 1)))) (jt_n 277 (jt_l 276 (.inl (jo_b 277 (fun x y => x + y)))) (jt_l 277 (.inl (jo_il 279 5)))))))) (jt_n 295 (jt_n 288 (jt_n 283 (jt_n 281 (jt_l 279 (.inl (jo_il 281 10))) (jt_n 282 (jt_l 281 (.inl (jo_b 282 (fun x y => x ^^^ y)))) (jt_l 282 (.inl (jo_iw 283))))) (jt_n 284 (jt_l 283 (.inl (jo_al 284 0))) (jt_n 287 (jt_l 284 (.inl (jo_gf 287 12 35))) (jt_l 287 (.inl (jo_il 288 2)))))) (jt_n 292 (jt_n 289 (jt_l 288 (.inl (jo_c 289 (nI 1)))) (jt_n 290 (jt_l 289 (.inl (jo_b 290 (fun x y => x + y)))) (jt_l 290 (.inl (jo_il 292 6))))) (jt_n 293 (jt_l 292 (.inl (jo_c 293 (nI 1)))) (jt_n 294 (jt_l 293 (.inl (jo_b 294 (fun x y => x + y)))) (jt_l 294 (.inl (jo_iw 295))))))) (jt_n 307 (jt_n 304 (jt_n 298 (jt_l 295 (.inl (jo_inc 298 11 2 (nI 2)))) (jt_n 301 (jt_l 298 (.inl (jo_inc 301 11 3 (nI 1)))) (jt_l 301 (.inl (jo_go 34))))) (jt_n 305 (jt_l 304 (.inl (jo_c 305 (nI 2)))) (jt_n 306 (jt_l 305 (.inl (jo_il 306 3))) (jt_l 306 (.inl (jo_b 307 (fun x y => x * y))))))) (jt_n 313 (jt_n 308 (jt_l 307 (.inl (jo_il 308 1))) (jt_n 311 (jt_l 308 (.inl (jo_ic 311 316 (fun x y => decide (y ≤ x))))) (jt_l 311 (.inl (jo_c 313 (nI 90)))))) (jt_n 316 (jt_l 313 (.inl (jo_go 318))) (jt_n 318 (jt_l 316 (.inl (jo_il 318 4))) (jt_l 318 (.inr (.inr 1)))))))))))
/-- TalkBenchModel.fools(I)I -/
def jc_187 : Nat → Option jxI := (jt_n 99 (jt_n 50 (jt_n 24 (jt_n 11 (jt_n 5 (jt_n 1 (jt_l 0 (.inl (jo_al 1 0))) (jt_n 4 (jt_l 1 (.inl (jo_gf 4 12 11))) (jt_l 4 (.inl (jo_is 5 7 2))))) (jt_n 7 (jt_n 6 (jt_l 5 (.inl (jo_al 6 0))) (jt_l 6 (.inl (jo_c 7 (nI 0))))) (jt_n 10 (jt_l 7 (.inl (jo_pf 10 12 11 0))) (jt_l 10 (.inl (jo_il 11 1)))))) (jt_n 16 (jt_n 14 (jt_l 11 (.inl (jo_if 14 19 (fun x => decide (x = 0))))) (jt_n 15 (jt_l 14 (.inl (jo_il 15 1))) (jt_l 15 (.inl (jo_c 16 (nI 1)))))) (jt_n 20 (jt_n 19 (jt_l 16 (.inl (jo_ic 19 23 (fun x y => decide (¬ x = y))))) (jt_l 19 (.inl (jo_c 20 (nI 1))))) (jt_n 23 (jt_l 20 (.inl (jo_go 24))) (jt_l 23 (.inl (jo_c 24 (nI 0)))))))) (jt_n 35 (jt_n 28 (jt_n 25 (jt_l 24 (.inl (jo_is 25 7 3))) (jt_n 26 (jt_l 25 (.inl (jo_c 26 (nI 0)))) (jt_l 26 (.inl (jo_is 28 7 4))))) (jt_n 31 (jt_n 30 (jt_l 28 (.inl (jo_il 30 4))) (jt_l 30 (.inl (jo_il 31 2)))) (jt_n 34 (jt_l 31 (.inl (jo_ic 34 83 (fun x y => decide (y ≤ x))))) (jt_l 34 (.inl (jo_il 35 3)))))) (jt_n 42 (jt_n 39 (jt_n 36 (jt_l 35 (.inl (jo_al 36 0))) (jt_l 36 (.inl (jo_gf 39 12 12)))) (jt_n 41 (jt_l 39 (.inl (jo_il 41 4))) (jt_l 41 (.inl (jo_ia 42))))) (jt_n 46 (jt_n 45 (jt_l 42 (.inl (jo_if 45 74 (fun x => decide (x < 0))))) (jt_l 45 (.inl (jo_al 46 0)))) (jt_n 47 (jt_l 46 (.inl (jo_al 47 0))) (jt_l 47 (.inl (jo_gf 50 12 12)))))))) (jt_n 74 (jt_n 61 (jt_n 54 (jt_n 52 (jt_l 50 (.inl (jo_il 52 4))) (jt_n 53 (jt_l 52 (.inl (jo_ia 53))) (jt_l 53 (.inl (jo_c 54 (nI 5)))))) (jt_n 56 (jt_n 55 (jt_l 54 (.inl (jo_q 55 (fun x y => x / y)))) (jt_l 55 (.inl (jo_al 56 0)))) (jt_n 59 (jt_l 56 (.inl (jo_gf 59 12 12))) (jt_l 59 (.inl (jo_il 61 4)))))) (jt_n 64 (jt_n 62 (jt_l 61 (.inl (jo_ia 62))) (jt_n 63 (jt_l 62 (.inl (jo_c 63 (nI 5)))) (jt_l 63 (.inl (jo_q 64 (fun x y => x - x / y * y)))))) (jt_n 70 (jt_n 67 (jt_l 64 (.inr (.inl (131, 3, 67, some 12)))) (jt_l 67 (.inl (jo_if 70 74 (fun x => decide (x = 0)))))) (jt_n 71 (jt_l 70 (.inl (jo_c 71 (nI 1)))) (jt_l 71 (.inl (jo_go 75))))))) (jt_n 87 (jt_n 77 (jt_n 75 (jt_l 74 (.inl (jo_c 75 (nI 0)))) (jt_n 76 (jt_l 75 (.inl (jo_b 76 (fun x y => x &&& y)))) (jt_l 76 (.inl (jo_is 77 7 3))))) (jt_n 83 (jt_n 80 (jt_l 77 (.inl (jo_inc 80 7 4 (nI 1)))) (jt_l 80 (.inl (jo_go 28)))) (jt_n 84 (jt_l 83 (.inl (jo_il 84 3))) (jt_l 84 (.inl (jo_if 87 93 (fun x => decide (¬ x = 0)))))))) (jt_n 93 (jt_n 89 (jt_n 88 (jt_l 87 (.inl (jo_al 88 0))) (jt_l 88 (.inl (jo_c 89 (-1))))) (jt_n 92 (jt_l 89 (.inr (.inl (130, 2, 92, some 12)))) (jt_l 92 (.inr (.inr 1))))) (jt_n 96 (jt_n 94 (jt_l 93 (.inl (jo_c 94 (nI 1)))) (jt_l 94 (.inl (jo_is 96 7 4)))) (jt_n 97 (jt_l 96 (.inl (jo_c 97 (nI 0)))) (jt_l 97 (.inl (jo_is 99 7 5))))))))) (jt_n 151 (jt_n 124 (jt_n 112 (jt_n 105 (jt_n 101 (jt_l 99 (.inl (jo_il 101 5))) (jt_n 102 (jt_l 101 (.inl (jo_il 102 2))) (jt_l 102 (.inl (jo_ic 105 201 (fun x y => decide (y ≤ x))))))) (jt_n 108 (jt_n 107 (jt_l 105 (.inl (jo_il 107 4))) (jt_l 107 (.inl (jo_al 108 0)))) (jt_n 111 (jt_l 108 (.inl (jo_gf 111 12 2))) (jt_l 111 (.inl (jo_al 112 0)))))) (jt_n 118 (jt_n 115 (jt_l 112 (.inl (jo_gf 115 12 12))) (jt_n 117 (jt_l 115 (.inl (jo_il 117 5))) (jt_l 117 (.inl (jo_ia 118))))) (jt_n 120 (jt_n 119 (jt_l 118 (.inl (jo_ia 119))) (jt_l 119 (.inl (jo_il 120 1)))) (jt_n 123 (jt_l 120 (.inl (jo_ic 123 127 (fun x y => decide (¬ x = y))))) (jt_l 123 (.inl (jo_c 124 (nI 1)))))))) (jt_n 136 (jt_n 129 (jt_n 127 (jt_l 124 (.inl (jo_go 128))) (jt_n 128 (jt_l 127 (.inl (jo_c 128 (nI 0)))) (jt_l 128 (.inl (jo_b 129 (fun x y => x &&& y)))))) (jt_n 132 (jt_n 131 (jt_l 129 (.inl (jo_is 131 7 4))) (jt_l 131 (.inl (jo_c 132 (nI 0))))) (jt_n 134 (jt_l 132 (.inl (jo_is 134 7 6))) (jt_l 134 (.inl (jo_il 136 6)))))) (jt_n 144 (jt_n 141 (jt_n 138 (jt_l 136 (.inl (jo_il 138 5))) (jt_l 138 (.inl (jo_ic 141 195 (fun x y => decide (y ≤ x)))))) (jt_n 143 (jt_l 141 (.inl (jo_il 143 4))) (jt_l 143 (.inl (jo_al 144 0))))) (jt_n 149 (jt_n 147 (jt_l 144 (.inl (jo_gf 147 12 12))) (jt_l 147 (.inl (jo_il 149 6)))) (jt_n 150 (jt_l 149 (.inl (jo_ia 150))) (jt_l 150 (.inl (jo_al 151 0)))))))) (jt_n 181 (jt_n 165 (jt_n 157 (jt_n 154 (jt_l 151 (.inl (jo_gf 154 12 12))) (jt_n 156 (jt_l 154 (.inl (jo_il 156 5))) (jt_l 156 (.inl (jo_ia 157))))) (jt_n 161 (jt_n 160 (jt_l 157 (.inl (jo_ic 160 185 (fun x y => decide (x = y))))) (jt_l 160 (.inl (jo_al 161 0)))) (jt_n 162 (jt_l 161 (.inl (jo_al 162 0))) (jt_l 162 (.inl (jo_gf 165 12 12)))))) (jt_n 172 (jt_n 168 (jt_n 167 (jt_l 165 (.inl (jo_il 167 6))) (jt_l 167 (.inl (jo_ia 168)))) (jt_n 169 (jt_l 168 (.inl (jo_al 169 0))) (jt_l 169 (.inl (jo_gf 172 12 12))))) (jt_n 175 (jt_n 174 (jt_l 172 (.inl (jo_il 174 5))) (jt_l 174 (.inl (jo_ia 175)))) (jt_n 178 (jt_l 175 (.inr (.inl (174, 3, 178, some 12)))) (jt_l 178 (.inl (jo_if 181 185 (fun x => decide (¬ x = 0))))))))) (jt_n 195 (jt_n 186 (jt_n 182 (jt_l 181 (.inl (jo_c 182 (nI 1)))) (jt_n 185 (jt_l 182 (.inl (jo_go 186))) (jt_l 185 (.inl (jo_c 186 (nI 0)))))) (jt_n 189 (jt_n 187 (jt_l 186 (.inl (jo_b 187 (fun x y => x &&& y)))) (jt_l 187 (.inl (jo_is 189 7 4)))) (jt_n 192 (jt_l 189 (.inl (jo_inc 192 7 6 (nI 1)))) (jt_l 192 (.inl (jo_go 134)))))) (jt_n 206 (jt_n 201 (jt_n 198 (jt_l 195 (.inl (jo_inc 198 7 5 (nI 1)))) (jt_l 198 (.inl (jo_go 99)))) (jt_n 203 (jt_l 201 (.inl (jo_il 203 4))) (jt_l 203 (.inl (jo_if 206 210 (fun x => decide (x = 0))))))) (jt_n 210 (jt_n 207 (jt_l 206 (.inl (jo_c 207 (nI 1)))) (jt_l 207 (.inl (jo_go 211)))) (jt_n 211 (jt_l 210 (.inl (jo_c 211 (nI 0)))) (jt_l 211 (.inr (.inr 1))))))))))
/-- TalkBenchModel.isSlot(I)Z -/
def jc_188 : Nat → Option jxI := (jt_n 6 (jt_n 4 (jt_n 1 (jt_l 0 (.inl (jo_il 1 0))) (jt_l 1 (.inl (jo_if 4 13 (fun x => decide (x < 0)))))) (jt_n 5 (jt_l 4 (.inl (jo_il 5 0))) (jt_l 5 (.inl (jo_c 6 (nI 4)))))) (jt_n 10 (jt_n 9 (jt_l 6 (.inl (jo_ic 9 13 (fun x y => decide (y ≤ x))))) (jt_l 9 (.inl (jo_c 10 (nI 1))))) (jt_n 13 (jt_l 10 (.inl (jo_go 14))) (jt_n 14 (jt_l 13 (.inl (jo_c 14 (nI 0)))) (jt_l 14 (.inr (.inr 2)))))))
/-- TalkBenchModel.keep(I)I -/
def jc_189 : Nat → Option jxI := (jt_n 31 (jt_n 15 (jt_n 8 (jt_n 4 (jt_n 1 (jt_l 0 (.inl (jo_il 1 1))) (jt_l 1 (.inr (.inl (188, 1, 4, none))))) (jt_n 7 (jt_l 4 (.inl (jo_if 7 13 (fun x => decide (¬ x = 0))))) (jt_l 7 (.inl (jo_al 8 0))))) (jt_n 12 (jt_n 9 (jt_l 8 (.inl (jo_c 9 (-1)))) (jt_l 9 (.inr (.inl (130, 2, 12, some 12))))) (jt_n 13 (jt_l 12 (.inr (.inr 1))) (jt_n 14 (jt_l 13 (.inl (jo_al 14 0))) (jt_l 14 (.inl (jo_al 15 0))))))) (jt_n 22 (jt_n 20 (jt_n 18 (jt_l 15 (.inl (jo_gf 18 12 6))) (jt_l 18 (.inl (jo_c 20 (nI 52))))) (jt_n 21 (jt_l 20 (.inl (jo_il 21 1))) (jt_l 21 (.inl (jo_b 22 (fun x y => x * y)))))) (jt_n 26 (jt_n 25 (jt_l 22 (.inr (.inl (134, 3, 25, some 12)))) (jt_l 25 (.inl (jo_al 26 0)))) (jt_n 29 (jt_l 26 (.inl (jo_gf 29 12 7))) (jt_n 30 (jt_l 29 (.inl (jo_il 30 1))) (jt_l 30 (.inl (jo_al 31 0)))))))) (jt_n 50 (jt_n 39 (jt_n 35 (jt_n 32 (jt_l 31 (.inl (jo_c 32 (nI 2)))) (jt_l 32 (.inr (.inl (138, 2, 35, some 12))))) (jt_n 38 (jt_l 35 (.inl (jo_if 38 42 (fun x => decide (x ≤ 0))))) (jt_l 38 (.inl (jo_c 39 (nI 3)))))) (jt_n 43 (jt_n 42 (jt_l 39 (.inl (jo_go 58))) (jt_l 42 (.inl (jo_al 43 0)))) (jt_n 46 (jt_l 43 (.inl (jo_gf 46 12 0))) (jt_n 47 (jt_l 46 (.inl (jo_al 47 0))) (jt_l 47 (.inl (jo_gf 50 12 1))))))) (jt_n 59 (jt_n 54 (jt_n 53 (jt_l 50 (.inl (jo_ic 53 57 (fun x y => decide (¬ x = y))))) (jt_l 53 (.inl (jo_c 54 (nI 2))))) (jt_n 57 (jt_l 54 (.inl (jo_go 58))) (jt_n 58 (jt_l 57 (.inl (jo_c 58 (nI 1)))) (jt_l 58 (.inl (jo_iw 59)))))) (jt_n 63 (jt_n 60 (jt_l 59 (.inl (jo_al 60 0))) (jt_l 60 (.inl (jo_gf 63 12 7)))) (jt_n 64 (jt_l 63 (.inl (jo_il 64 1))) (jt_n 65 (jt_l 64 (.inl (jo_ia 65))) (jt_l 65 (.inr (.inr 1)))))))))
/-- TalkBenchModel.bring(I)I -/
def jc_190 : Nat → Option jxI := (jt_n 28 (jt_n 13 (jt_n 7 (jt_n 1 (jt_l 0 (.inl (jo_il 1 1))) (jt_n 4 (jt_l 1 (.inr (.inl (188, 1, 4, none)))) (jt_l 4 (.inl (jo_if 7 13 (fun x => decide (¬ x = 0))))))) (jt_n 9 (jt_n 8 (jt_l 7 (.inl (jo_al 8 0))) (jt_l 8 (.inl (jo_c 9 (-1))))) (jt_n 12 (jt_l 9 (.inr (.inl (130, 2, 12, some 12)))) (jt_l 12 (.inr (.inr 1)))))) (jt_n 19 (jt_n 17 (jt_n 14 (jt_l 13 (.inl (jo_al 14 0))) (jt_l 14 (.inl (jo_gf 17 12 7)))) (jt_n 18 (jt_l 17 (.inl (jo_il 18 1))) (jt_l 18 (.inl (jo_ia 19))))) (jt_n 23 (jt_n 22 (jt_l 19 (.inl (jo_if 22 29 (fun x => decide (0 ≤ x))))) (jt_l 22 (.inl (jo_al 23 0)))) (jt_n 25 (jt_l 23 (.inl (jo_c 25 (-6)))) (jt_l 25 (.inr (.inl (130, 2, 28, some 12)))))))) (jt_n 41 (jt_n 34 (jt_n 30 (jt_n 29 (jt_l 28 (.inr (.inr 1))) (jt_l 29 (.inl (jo_al 30 0)))) (jt_n 33 (jt_l 30 (.inr (.inl (136, 1, 33, some 12)))) (jt_l 33 (.inl (jo_al 34 0))))) (jt_n 38 (jt_n 35 (jt_l 34 (.inl (jo_al 35 0))) (jt_l 35 (.inl (jo_gf 38 12 6)))) (jt_n 40 (jt_l 38 (.inl (jo_c 40 (nI 52)))) (jt_l 40 (.inl (jo_il 41 1)))))) (jt_n 49 (jt_n 45 (jt_n 42 (jt_l 41 (.inl (jo_b 42 (fun x y => x * y)))) (jt_l 42 (.inr (.inl (135, 3, 45, some 12))))) (jt_n 46 (jt_l 45 (.inl (jo_al 46 0))) (jt_l 46 (.inl (jo_gf 49 12 0))))) (jt_n 53 (jt_n 50 (jt_l 49 (.inl (jo_al 50 0))) (jt_l 50 (.inl (jo_gf 53 12 1)))) (jt_n 54 (jt_l 53 (.inl (jo_b 54 (fun x y => x * y)))) (jt_l 54 (.inr (.inr 1))))))))
/-- TalkBenchModel.slotPlace(III)I -/
def jc_191 : Nat → Option jxI := (jt_n 10 (jt_n 6 (jt_n 1 (jt_l 0 (.inl (jo_al 1 0))) (jt_n 4 (jt_l 1 (.inl (jo_gf 4 12 6))) (jt_l 4 (.inl (jo_c 6 (nI 52)))))) (jt_n 8 (jt_n 7 (jt_l 6 (.inl (jo_il 7 1))) (jt_l 7 (.inl (jo_b 8 (fun x y => x * y))))) (jt_n 9 (jt_l 8 (.inl (jo_c 9 (nI 2)))) (jt_l 9 (.inl (jo_b 10 (fun x y => x + y))))))) (jt_n 14 (jt_n 12 (jt_n 11 (jt_l 10 (.inl (jo_c 11 (nI 5)))) (jt_l 11 (.inl (jo_il 12 2)))) (jt_n 13 (jt_l 12 (.inl (jo_b 13 (fun x y => x * y)))) (jt_l 13 (.inl (jo_b 14 (fun x y => x + y)))))) (jt_n 16 (jt_n 15 (jt_l 14 (.inl (jo_il 15 3))) (jt_l 15 (.inl (jo_b 16 (fun x y => x + y))))) (jt_n 17 (jt_l 16 (.inl (jo_ia 17))) (jt_l 17 (.inr (.inr 1)))))))
/-- TalkBenchModel.as(II)I -/
def jc_192 : Nat → Option jxI := (jt_n 72 (jt_n 38 (jt_n 18 (jt_n 11 (jt_n 4 (jt_n 1 (jt_l 0 (.inl (jo_il 1 1))) (jt_l 1 (.inr (.inl (188, 1, 4, none))))) (jt_n 7 (jt_l 4 (.inl (jo_if 7 16 (fun x => decide (x = 0))))) (jt_n 8 (jt_l 7 (.inl (jo_il 8 2))) (jt_l 8 (.inl (jo_if 11 16 (fun x => decide (x < 0)))))))) (jt_n 13 (jt_n 12 (jt_l 11 (.inl (jo_il 12 2))) (jt_l 12 (.inl (jo_c 13 (nI 3))))) (jt_n 16 (jt_l 13 (.inl (jo_ic 16 22 (fun x y => decide (x ≤ y))))) (jt_n 17 (jt_l 16 (.inl (jo_al 17 0))) (jt_l 17 (.inl (jo_c 18 (-1)))))))) (jt_n 27 (jt_n 22 (jt_n 21 (jt_l 18 (.inr (.inl (130, 2, 21, some 12)))) (jt_l 21 (.inr (.inr 1)))) (jt_n 23 (jt_l 22 (.inl (jo_al 23 0))) (jt_n 26 (jt_l 23 (.inl (jo_gf 26 12 7))) (jt_l 26 (.inl (jo_il 27 1)))))) (jt_n 32 (jt_n 28 (jt_l 27 (.inl (jo_ia 28))) (jt_n 31 (jt_l 28 (.inl (jo_if 31 38 (fun x => decide (0 ≤ x))))) (jt_l 31 (.inl (jo_al 32 0))))) (jt_n 34 (jt_l 32 (.inl (jo_c 34 (-6)))) (jt_n 37 (jt_l 34 (.inr (.inl (130, 2, 37, some 12)))) (jt_l 37 (.inr (.inr 1)))))))) (jt_n 54 (jt_n 45 (jt_n 42 (jt_n 39 (jt_l 38 (.inl (jo_al 39 0))) (jt_l 39 (.inl (jo_gf 42 12 7)))) (jt_n 43 (jt_l 42 (.inl (jo_il 43 1))) (jt_n 44 (jt_l 43 (.inl (jo_ia 44))) (jt_l 44 (.inl (jo_is 45 7 3)))))) (jt_n 47 (jt_n 46 (jt_l 45 (.inl (jo_il 46 3))) (jt_l 46 (.inl (jo_il 47 2)))) (jt_n 50 (jt_l 47 (.inl (jo_ic 50 71 (fun x y => decide (x = y))))) (jt_n 51 (jt_l 50 (.inl (jo_il 51 2))) (jt_l 51 (.inl (jo_if 54 71 (fun x => decide (x = 0))))))))) (jt_n 61 (jt_n 56 (jt_n 55 (jt_l 54 (.inl (jo_il 55 2))) (jt_l 55 (.inl (jo_c 56 (nI 1))))) (jt_n 59 (jt_l 56 (.inl (jo_ic 59 64 (fun x y => decide (¬ x = y))))) (jt_n 60 (jt_l 59 (.inl (jo_il 60 3))) (jt_l 60 (.inl (jo_c 61 (nI 2))))))) (jt_n 67 (jt_n 64 (jt_l 61 (.inl (jo_ic 64 71 (fun x y => decide (x = y))))) (jt_n 65 (jt_l 64 (.inl (jo_al 65 0))) (jt_l 65 (.inl (jo_c 67 (-4)))))) (jt_n 70 (jt_l 67 (.inr (.inl (130, 2, 70, some 12)))) (jt_n 71 (jt_l 70 (.inr (.inr 1))) (jt_l 71 (.inl (jo_c 72 (nI 0)))))))))) (jt_n 106 (jt_n 88 (jt_n 80 (jt_n 75 (jt_n 74 (jt_l 72 (.inl (jo_is 74 7 4))) (jt_l 74 (.inl (jo_c 75 (nI 0))))) (jt_n 77 (jt_l 75 (.inl (jo_is 77 7 5))) (jt_n 79 (jt_l 77 (.inl (jo_il 79 5))) (jt_l 79 (.inl (jo_al 80 0)))))) (jt_n 85 (jt_n 83 (jt_l 80 (.inl (jo_gf 83 12 6))) (jt_l 83 (.inl (jo_c 85 (nI 52))))) (jt_n 86 (jt_l 85 (.inl (jo_il 86 1))) (jt_n 87 (jt_l 86 (.inl (jo_b 87 (fun x y => x * y)))) (jt_l 87 (.inl (jo_ia 88))))))) (jt_n 97 (jt_n 92 (jt_n 91 (jt_l 88 (.inl (jo_ic 91 145 (fun x y => decide (y ≤ x))))) (jt_l 91 (.inl (jo_c 92 (nI 0))))) (jt_n 94 (jt_l 92 (.inl (jo_is 94 7 6))) (jt_n 96 (jt_l 94 (.inl (jo_il 96 6))) (jt_l 96 (.inl (jo_al 97 0)))))) (jt_n 103 (jt_n 100 (jt_l 97 (.inl (jo_gf 100 12 6))) (jt_n 102 (jt_l 100 (.inl (jo_c 102 (nI 52)))) (jt_l 102 (.inl (jo_il 103 1))))) (jt_n 104 (jt_l 103 (.inl (jo_b 104 (fun x y => x * y)))) (jt_n 105 (jt_l 104 (.inl (jo_c 105 (nI 1)))) (jt_l 105 (.inl (jo_b 106 (fun x y => x + y))))))))) (jt_n 125 (jt_n 114 (jt_n 110 (jt_n 107 (jt_l 106 (.inl (jo_ia 107))) (jt_l 107 (.inl (jo_ic 110 139 (fun x y => decide (y ≤ x)))))) (jt_n 112 (jt_l 110 (.inl (jo_il 112 4))) (jt_n 113 (jt_l 112 (.inl (jo_al 113 0))) (jt_l 113 (.inl (jo_il 114 1)))))) (jt_n 118 (jt_n 116 (jt_l 114 (.inl (jo_il 116 5))) (jt_l 116 (.inl (jo_il 118 6)))) (jt_n 121 (jt_l 118 (.inr (.inl (191, 4, 121, some 12)))) (jt_n 122 (jt_l 121 (.inl (jo_c 122 (nI 1)))) (jt_l 122 (.inl (jo_ic 125 129 (fun x y => decide (¬ x = y))))))))) (jt_n 133 (jt_n 129 (jt_n 126 (jt_l 125 (.inl (jo_c 126 (nI 1)))) (jt_l 126 (.inl (jo_go 130)))) (jt_n 130 (jt_l 129 (.inl (jo_c 130 (nI 0)))) (jt_n 131 (jt_l 130 (.inl (jo_b 131 (fun x y => x + y)))) (jt_l 131 (.inl (jo_is 133 7 4)))))) (jt_n 142 (jt_n 136 (jt_l 133 (.inl (jo_inc 136 7 6 (nI 1)))) (jt_n 139 (jt_l 136 (.inl (jo_go 94))) (jt_l 139 (.inl (jo_inc 142 7 5 (nI 1)))))) (jt_n 145 (jt_l 142 (.inl (jo_go 77))) (jt_n 147 (jt_l 145 (.inl (jo_il 147 4))) (jt_l 147 (.inr (.inr 1))))))))))
/-- TalkBenchModel.lineOf(III)I -/
def jc_193 : Nat → Option jxI := (jt_n 39 (jt_n 18 (jt_n 7 (jt_n 3 (jt_n 1 (jt_l 0 (.inl (jo_il 1 0))) (jt_n 2 (jt_l 1 (.inl (jo_is 2 8 3))) (jt_l 2 (.inl (jo_c 3 (nI 1)))))) (jt_n 5 (jt_n 4 (jt_l 3 (.inl (jo_il 4 2))) (jt_l 4 (.inl (jo_b 5 (fun x y => x <<< (y &&& 31)))))) (jt_n 6 (jt_l 5 (.inl (jo_c 6 (nI 1)))) (jt_l 6 (.inl (jo_b 7 (fun x y => x - y))))))) (jt_n 12 (jt_n 9 (jt_l 7 (.inl (jo_is 9 8 4))) (jt_n 10 (jt_l 9 (.inl (jo_c 10 (nI 0)))) (jt_l 10 (.inl (jo_is 12 8 5))))) (jt_n 15 (jt_n 13 (jt_l 12 (.inl (jo_c 13 (nI 0)))) (jt_l 13 (.inl (jo_is 15 8 6)))) (jt_n 17 (jt_l 15 (.inl (jo_il 17 6))) (jt_l 17 (.inl (jo_il 18 1))))))) (jt_n 29 (jt_n 23 (jt_n 21 (jt_l 18 (.inl (jo_ic 21 97 (fun x y => decide (y < x))))) (jt_n 22 (jt_l 21 (.inl (jo_il 22 3))) (jt_l 22 (.inl (jo_il 23 2))))) (jt_n 26 (jt_n 25 (jt_l 23 (.inl (jo_il 25 6))) (jt_l 25 (.inl (jo_b 26 (fun x y => x - y))))) (jt_n 27 (jt_l 26 (.inl (jo_q 27 (fun x y => x - x / y * y)))) (jt_l 27 (.inl (jo_is 29 8 7)))))) (jt_n 34 (jt_n 31 (jt_n 30 (jt_l 29 (.inl (jo_il 30 3))) (jt_l 30 (.inl (jo_il 31 2)))) (jt_n 33 (jt_l 31 (.inl (jo_il 33 6))) (jt_l 33 (.inl (jo_b 34 (fun x y => x - y)))))) (jt_n 36 (jt_n 35 (jt_l 34 (.inl (jo_q 35 (fun x y => x / y)))) (jt_l 35 (.inl (jo_is 36 8 3)))) (jt_n 37 (jt_l 36 (.inl (jo_c 37 (nI 0)))) (jt_l 37 (.inl (jo_is 39 8 5)))))))) (jt_n 72 (jt_n 56 (jt_n 46 (jt_n 41 (jt_l 39 (.inl (jo_il 41 4))) (jt_n 43 (jt_l 41 (.inl (jo_il 43 5))) (jt_l 43 (.inr (.inl (132, 2, 46, none)))))) (jt_n 51 (jt_n 49 (jt_l 46 (.inl (jo_if 49 54 (fun x => decide (x = 0))))) (jt_l 49 (.inl (jo_il 51 7)))) (jt_n 54 (jt_l 51 (.inl (jo_if 54 80 (fun x => decide (x ≤ 0))))) (jt_l 54 (.inl (jo_il 56 7)))))) (jt_n 66 (jt_n 60 (jt_n 58 (jt_l 56 (.inl (jo_il 58 4))) (jt_l 58 (.inl (jo_il 60 5)))) (jt_n 63 (jt_l 60 (.inr (.inl (132, 2, 63, none)))) (jt_l 63 (.inl (jo_if 66 70 (fun x => decide (x = 0))))))) (jt_n 70 (jt_n 67 (jt_l 66 (.inl (jo_c 67 (nI 1)))) (jt_l 67 (.inl (jo_go 71)))) (jt_n 71 (jt_l 70 (.inl (jo_c 71 (nI 0)))) (jt_l 71 (.inl (jo_b 72 (fun x y => x - y)))))))) (jt_n 86 (jt_n 80 (jt_n 74 (jt_l 72 (.inl (jo_is 74 8 7))) (jt_n 77 (jt_l 74 (.inl (jo_inc 77 8 5 (nI 1)))) (jt_l 77 (.inl (jo_go 39))))) (jt_n 83 (jt_n 82 (jt_l 80 (.inl (jo_il 82 4))) (jt_l 82 (.inl (jo_c 83 (nI 1))))) (jt_n 85 (jt_l 83 (.inl (jo_il 85 5))) (jt_l 85 (.inl (jo_b 86 (fun x y => x <<< (y &&& 31)))))))) (jt_n 91 (jt_n 88 (jt_n 87 (jt_l 86 (.inl (jo_c 87 (-1)))) (jt_l 87 (.inl (jo_b 88 (fun x y => x ^^^ y))))) (jt_n 89 (jt_l 88 (.inl (jo_b 89 (fun x y => x &&& y)))) (jt_l 89 (.inl (jo_is 91 8 4))))) (jt_n 97 (jt_n 94 (jt_l 91 (.inl (jo_inc 94 8 6 (nI 1)))) (jt_l 94 (.inl (jo_go 15)))) (jt_n 99 (jt_l 97 (.inl (jo_il 99 5))) (jt_l 99 (.inr (.inr 1)))))))))
/-- TalkBenchModel.orders(I)I -/
def jc_194 : Nat → Option jxI := (jt_n 9 (jt_n 3 (jt_n 1 (jt_l 0 (.inl (jo_c 1 (nI 1)))) (jt_n 2 (jt_l 1 (.inl (jo_is 2 3 1))) (jt_l 2 (.inl (jo_c 3 (nI 2)))))) (jt_n 5 (jt_n 4 (jt_l 3 (.inl (jo_is 4 3 2))) (jt_l 4 (.inl (jo_il 5 2)))) (jt_n 6 (jt_l 5 (.inl (jo_il 6 0))) (jt_l 6 (.inl (jo_ic 9 19 (fun x y => decide (y < x)))))))) (jt_n 13 (jt_n 11 (jt_n 10 (jt_l 9 (.inl (jo_il 10 1))) (jt_l 10 (.inl (jo_il 11 2)))) (jt_n 12 (jt_l 11 (.inl (jo_b 12 (fun x y => x * y)))) (jt_l 12 (.inl (jo_is 13 3 1))))) (jt_n 19 (jt_n 16 (jt_l 13 (.inl (jo_inc 16 3 2 (nI 1)))) (jt_l 16 (.inl (jo_go 4)))) (jt_n 20 (jt_l 19 (.inl (jo_il 20 1))) (jt_l 20 (.inr (.inr 1)))))))
/-- TalkBenchModel.same(I)I -/
def jc_195 : Nat → Option jxI := (jt_n 128 (jt_n 63 (jt_n 33 (jt_n 17 (jt_n 8 (jt_n 4 (jt_n 1 (jt_l 0 (.inl (jo_il 1 1))) (jt_l 1 (.inr (.inl (188, 1, 4, none))))) (jt_n 7 (jt_l 4 (.inl (jo_if 7 13 (fun x => decide (¬ x = 0))))) (jt_l 7 (.inl (jo_al 8 0))))) (jt_n 12 (jt_n 9 (jt_l 8 (.inl (jo_c 9 (-1)))) (jt_l 9 (.inr (.inl (130, 2, 12, some 12))))) (jt_n 13 (jt_l 12 (.inr (.inr 1))) (jt_n 14 (jt_l 13 (.inl (jo_al 14 0))) (jt_l 14 (.inl (jo_gf 17 12 7))))))) (jt_n 23 (jt_n 19 (jt_n 18 (jt_l 17 (.inl (jo_il 18 1))) (jt_l 18 (.inl (jo_ia 19)))) (jt_n 22 (jt_l 19 (.inl (jo_if 22 29 (fun x => decide (0 ≤ x))))) (jt_l 22 (.inl (jo_al 23 0))))) (jt_n 28 (jt_n 25 (jt_l 23 (.inl (jo_c 25 (-6)))) (jt_l 25 (.inr (.inl (130, 2, 28, some 12))))) (jt_n 29 (jt_l 28 (.inr (.inr 1))) (jt_n 30 (jt_l 29 (.inl (jo_al 30 0))) (jt_l 30 (.inl (jo_gf 33 12 6)))))))) (jt_n 49 (jt_n 38 (jt_n 36 (jt_n 35 (jt_l 33 (.inl (jo_c 35 (nI 52)))) (jt_l 35 (.inl (jo_il 36 1)))) (jt_n 37 (jt_l 36 (.inl (jo_b 37 (fun x y => x * y)))) (jt_l 37 (.inl (jo_ia 38))))) (jt_n 42 (jt_n 39 (jt_l 38 (.inl (jo_al 39 0))) (jt_l 39 (.inl (jo_gf 42 12 0)))) (jt_n 45 (jt_l 42 (.inl (jo_ic 45 63 (fun x y => decide (¬ x = y))))) (jt_n 46 (jt_l 45 (.inl (jo_al 46 0))) (jt_l 46 (.inl (jo_gf 49 12 6))))))) (jt_n 54 (jt_n 52 (jt_n 51 (jt_l 49 (.inl (jo_c 51 (nI 52)))) (jt_l 51 (.inl (jo_il 52 1)))) (jt_n 53 (jt_l 52 (.inl (jo_b 53 (fun x y => x * y)))) (jt_l 53 (.inl (jo_c 54 (nI 1)))))) (jt_n 56 (jt_n 55 (jt_l 54 (.inl (jo_b 55 (fun x y => x + y)))) (jt_l 55 (.inl (jo_ia 56)))) (jt_n 57 (jt_l 56 (.inl (jo_al 57 0))) (jt_n 60 (jt_l 57 (.inl (jo_gf 60 12 1))) (jt_l 60 (.inl (jo_ic 63 65 (fun x y => decide (x = y))))))))))) (jt_n 93 (jt_n 78 (jt_n 67 (jt_n 65 (jt_n 64 (jt_l 63 (.inl (jo_c 64 (nI 0)))) (jt_l 64 (.inr (.inr 1)))) (jt_n 66 (jt_l 65 (.inl (jo_c 66 (nI 0)))) (jt_l 66 (.inl (jo_is 67 6 2))))) (jt_n 69 (jt_n 68 (jt_l 67 (.inl (jo_il 68 2))) (jt_l 68 (.inl (jo_al 69 0)))) (jt_n 72 (jt_l 69 (.inl (jo_gf 72 12 0))) (jt_n 75 (jt_l 72 (.inr (.inl (194, 1, 75, none)))) (jt_l 75 (.inl (jo_ic 78 268 (fun x y => decide (y ≤ x))))))))) (jt_n 82 (jt_n 80 (jt_n 79 (jt_l 78 (.inl (jo_c 79 (nI 0)))) (jt_l 79 (.inl (jo_is 80 6 3)))) (jt_n 81 (jt_l 80 (.inl (jo_il 81 3))) (jt_l 81 (.inl (jo_al 82 0))))) (jt_n 88 (jt_n 85 (jt_l 82 (.inl (jo_gf 85 12 0))) (jt_l 85 (.inl (jo_ic 88 109 (fun x y => decide (y ≤ x)))))) (jt_n 89 (jt_l 88 (.inl (jo_al 89 0))) (jt_n 92 (jt_l 89 (.inl (jo_gf 92 12 36))) (jt_l 92 (.inl (jo_il 93 3)))))))) (jt_n 110 (jt_n 99 (jt_n 95 (jt_n 94 (jt_l 93 (.inl (jo_il 94 2))) (jt_l 94 (.inl (jo_il 95 3)))) (jt_n 96 (jt_l 95 (.inl (jo_al 96 0))) (jt_l 96 (.inl (jo_gf 99 12 0))))) (jt_n 103 (jt_n 102 (jt_l 99 (.inr (.inl (193, 3, 102, none)))) (jt_l 102 (.inl (jo_iw 103)))) (jt_n 106 (jt_l 103 (.inl (jo_inc 106 6 3 (nI 1)))) (jt_n 109 (jt_l 106 (.inl (jo_go 80))) (jt_l 109 (.inl (jo_c 110 (nI 0)))))))) (jt_n 119 (jt_n 112 (jt_n 111 (jt_l 110 (.inl (jo_is 111 6 3))) (jt_l 111 (.inl (jo_il 112 3)))) (jt_n 113 (jt_l 112 (.inl (jo_al 113 0))) (jt_n 116 (jt_l 113 (.inl (jo_gf 116 12 1))) (jt_l 116 (.inr (.inl (194, 1, 119, none))))))) (jt_n 123 (jt_n 122 (jt_l 119 (.inl (jo_ic 122 262 (fun x y => decide (y ≤ x))))) (jt_l 122 (.inl (jo_c 123 (nI 0))))) (jt_n 125 (jt_l 123 (.inl (jo_is 125 6 4))) (jt_n 127 (jt_l 125 (.inl (jo_il 127 4))) (jt_l 127 (.inl (jo_al 128 0)))))))))) (jt_n 201 (jt_n 165 (jt_n 147 (jt_n 138 (jt_n 134 (jt_n 131 (jt_l 128 (.inl (jo_gf 131 12 1))) (jt_l 131 (.inl (jo_ic 134 157 (fun x y => decide (y ≤ x)))))) (jt_n 135 (jt_l 134 (.inl (jo_al 135 0))) (jt_l 135 (.inl (jo_gf 138 12 37))))) (jt_n 141 (jt_n 140 (jt_l 138 (.inl (jo_il 140 4))) (jt_l 140 (.inl (jo_il 141 3)))) (jt_n 143 (jt_l 141 (.inl (jo_il 143 4))) (jt_n 144 (jt_l 143 (.inl (jo_al 144 0))) (jt_l 144 (.inl (jo_gf 147 12 1))))))) (jt_n 157 (jt_n 151 (jt_n 150 (jt_l 147 (.inr (.inl (193, 3, 150, none)))) (jt_l 150 (.inl (jo_iw 151)))) (jt_n 154 (jt_l 151 (.inl (jo_inc 154 6 4 (nI 1)))) (jt_l 154 (.inl (jo_go 125))))) (jt_n 160 (jt_n 158 (jt_l 157 (.inl (jo_c 158 (nI 1)))) (jt_l 158 (.inl (jo_is 160 6 4)))) (jt_n 161 (jt_l 160 (.inl (jo_c 161 (nI 0)))) (jt_n 163 (jt_l 161 (.inl (jo_is 163 6 5))) (jt_l 163 (.inl (jo_il 165 5)))))))) (jt_n 183 (jt_n 173 (jt_n 169 (jt_n 166 (jt_l 165 (.inl (jo_al 166 0))) (jt_l 166 (.inl (jo_gf 169 12 0)))) (jt_n 170 (jt_l 169 (.inl (jo_al 170 0))) (jt_l 170 (.inl (jo_gf 173 12 1))))) (jt_n 177 (jt_n 174 (jt_l 173 (.inl (jo_b 174 (fun x y => x * y)))) (jt_l 174 (.inl (jo_ic 177 249 (fun x y => decide (y ≤ x)))))) (jt_n 179 (jt_l 177 (.inl (jo_il 179 4))) (jt_n 182 (jt_l 179 (.inl (jo_if 182 249 (fun x => decide (x = 0))))) (jt_l 182 (.inl (jo_al 183 0))))))) (jt_n 193 (jt_n 187 (jt_n 186 (jt_l 183 (.inl (jo_gf 186 12 2))) (jt_l 186 (.inl (jo_c 187 (nI 5))))) (jt_n 189 (jt_l 187 (.inl (jo_il 189 5))) (jt_n 190 (jt_l 189 (.inl (jo_al 190 0))) (jt_l 190 (.inl (jo_gf 193 12 1)))))) (jt_n 195 (jt_n 194 (jt_l 193 (.inl (jo_q 194 (fun x y => x / y)))) (jt_l 194 (.inl (jo_b 195 (fun x y => x * y))))) (jt_n 197 (jt_l 195 (.inl (jo_il 197 5))) (jt_n 198 (jt_l 197 (.inl (jo_al 198 0))) (jt_l 198 (.inl (jo_gf 201 12 1))))))))) (jt_n 229 (jt_n 213 (jt_n 205 (jt_n 203 (jt_n 202 (jt_l 201 (.inl (jo_q 202 (fun x y => x - x / y * y)))) (jt_l 202 (.inl (jo_b 203 (fun x y => x + y))))) (jt_n 204 (jt_l 203 (.inl (jo_ia 204))) (jt_l 204 (.inl (jo_al 205 0))))) (jt_n 207 (jt_n 206 (jt_l 205 (.inl (jo_il 206 1))) (jt_l 206 (.inl (jo_al 207 0)))) (jt_n 210 (jt_l 207 (.inl (jo_gf 210 12 36))) (jt_n 212 (jt_l 210 (.inl (jo_il 212 5))) (jt_l 212 (.inl (jo_al 213 0))))))) (jt_n 219 (jt_n 217 (jt_n 216 (jt_l 213 (.inl (jo_gf 216 12 1))) (jt_l 216 (.inl (jo_q 217 (fun x y => x / y))))) (jt_n 218 (jt_l 217 (.inl (jo_ia 218))) (jt_l 218 (.inl (jo_al 219 0))))) (jt_n 224 (jt_n 222 (jt_l 219 (.inl (jo_gf 222 12 37))) (jt_l 222 (.inl (jo_il 224 5)))) (jt_n 225 (jt_l 224 (.inl (jo_al 225 0))) (jt_n 228 (jt_l 225 (.inl (jo_gf 228 12 1))) (jt_l 228 (.inl (jo_q 229 (fun x y => x - x / y * y))))))))) (jt_n 249 (jt_n 237 (jt_n 233 (jt_n 230 (jt_l 229 (.inl (jo_ia 230))) (jt_l 230 (.inr (.inl (191, 4, 233, some 12))))) (jt_n 236 (jt_l 233 (.inl (jo_ic 236 240 (fun x y => decide (¬ x = y))))) (jt_l 236 (.inl (jo_c 237 (nI 1)))))) (jt_n 241 (jt_n 240 (jt_l 237 (.inl (jo_go 241))) (jt_l 240 (.inl (jo_c 241 (nI 0))))) (jt_n 243 (jt_l 241 (.inl (jo_is 243 6 4))) (jt_n 246 (jt_l 243 (.inl (jo_inc 246 6 5 (nI 1)))) (jt_l 246 (.inl (jo_go 163))))))) (jt_n 259 (jt_n 254 (jt_n 251 (jt_l 249 (.inl (jo_il 251 4))) (jt_l 251 (.inl (jo_if 254 256 (fun x => decide (x = 0)))))) (jt_n 255 (jt_l 254 (.inl (jo_c 255 (nI 1)))) (jt_n 256 (jt_l 255 (.inr (.inr 1))) (jt_l 256 (.inl (jo_inc 259 6 3 (nI 1))))))) (jt_n 265 (jt_n 262 (jt_l 259 (.inl (jo_go 111))) (jt_l 262 (.inl (jo_inc 265 6 2 (nI 1))))) (jt_n 268 (jt_l 265 (.inl (jo_go 67))) (jt_n 269 (jt_l 268 (.inl (jo_c 269 (nI 0)))) (jt_l 269 (.inr (.inr 1)))))))))))
/-- TalkBenchModel.told(I)I -/
def jc_196 : Nat → Option jxI := (jt_n 66 (jt_n 15 (jt_n 7 (jt_n 4 (jt_n 1 (jt_l 0 (.inl (jo_il 1 1))) (jt_l 1 (.inl (jo_if 4 10 (fun x => decide (x < 0)))))) (jt_n 5 (jt_l 4 (.inl (jo_il 5 1))) (jt_l 5 (.inl (jo_c 7 (nI 6)))))) (jt_n 11 (jt_n 10 (jt_l 7 (.inl (jo_ic 10 16 (fun x y => decide (x ≤ y))))) (jt_l 10 (.inl (jo_al 11 0)))) (jt_n 12 (jt_l 11 (.inl (jo_c 12 (-1)))) (jt_l 12 (.inr (.inl (130, 2, 15, some 12))))))) (jt_n 57 (jt_n 17 (jt_n 16 (jt_l 15 (.inr (.inr 1))) (jt_l 16 (.inl (jo_il 17 1)))) (jt_n 56 (jt_l 17 (.inl (jo_sw (js_swt 17 71 0 5 [39, 44, 49, 55, 61, 66])))) (jt_l 56 (.inl (jo_al 57 0))))) (jt_n 61 (jt_n 60 (jt_l 57 (.inl (jo_gf 60 12 0))) (jt_l 60 (.inr (.inr 1)))) (jt_n 62 (jt_l 61 (.inl (jo_al 62 0))) (jt_n 65 (jt_l 62 (.inl (jo_gf 65 12 1))) (jt_l 65 (.inr (.inr 1)))))))) (jt_n 78 (jt_n 72 (jt_n 68 (jt_n 67 (jt_l 66 (.inl (jo_al 67 0))) (jt_l 67 (.inl (jo_c 68 (nI 1))))) (jt_n 71 (jt_l 68 (.inr (.inl (138, 2, 71, some 12)))) (jt_l 71 (.inr (.inr 1))))) (jt_n 74 (jt_n 73 (jt_l 72 (.inl (jo_al 73 0))) (jt_l 73 (.inl (jo_c 74 (nI 2))))) (jt_n 77 (jt_l 74 (.inr (.inl (138, 2, 77, some 12)))) (jt_l 77 (.inr (.inr 1)))))) (jt_n 84 (jt_n 82 (jt_n 79 (jt_l 78 (.inl (jo_al 79 0))) (jt_l 79 (.inl (jo_gf 82 12 11)))) (jt_n 83 (jt_l 82 (.inr (.inr 1))) (jt_l 83 (.inl (jo_al 84 0))))) (jt_n 88 (jt_n 87 (jt_l 84 (.inl (jo_gf 87 12 14))) (jt_l 87 (.inr (.inr 1)))) (jt_n 89 (jt_l 88 (.inl (jo_al 89 0))) (jt_n 92 (jt_l 89 (.inl (jo_gf 92 12 13))) (jt_l 92 (.inr (.inr 1)))))))))
/-- java/lang/Integer.bitCount(I)I -/
def jc_197 : Nat → Option jxI := (jt_n 27 (jt_n 14 (jt_n 7 (jt_n 2 (jt_n 1 (jt_l 0 (.inl (jo_il 1 0))) (jt_l 1 (.inl (jo_il 2 0)))) (jt_n 3 (jt_l 2 (.inl (jo_c 3 (nI 1)))) (jt_n 4 (jt_l 3 (.inl (jo_b 4 (fun x y => (x.toUInt32 >>> (y.toUInt32 &&& Int32.toUInt32 31)).toInt32)))) (jt_l 4 (.inl (jo_c 7 (nI 1431655765))))))) (jt_n 9 (jt_n 8 (jt_l 7 (.inl (jo_b 8 (fun x y => x &&& y)))) (jt_l 8 (.inl (jo_b 9 (fun x y => x - y))))) (jt_n 10 (jt_l 9 (.inl (jo_is 10 1 0))) (jt_n 11 (jt_l 10 (.inl (jo_il 11 0))) (jt_l 11 (.inl (jo_c 14 (nI 858993459)))))))) (jt_n 21 (jt_n 16 (jt_n 15 (jt_l 14 (.inl (jo_b 15 (fun x y => x &&& y)))) (jt_l 15 (.inl (jo_il 16 0)))) (jt_n 17 (jt_l 16 (.inl (jo_c 17 (nI 2)))) (jt_n 18 (jt_l 17 (.inl (jo_b 18 (fun x y => (x.toUInt32 >>> (y.toUInt32 &&& Int32.toUInt32 31)).toInt32)))) (jt_l 18 (.inl (jo_c 21 (nI 858993459))))))) (jt_n 24 (jt_n 22 (jt_l 21 (.inl (jo_b 22 (fun x y => x &&& y)))) (jt_n 23 (jt_l 22 (.inl (jo_b 23 (fun x y => x + y)))) (jt_l 23 (.inl (jo_is 24 1 0))))) (jt_n 25 (jt_l 24 (.inl (jo_il 25 0))) (jt_n 26 (jt_l 25 (.inl (jo_il 26 0))) (jt_l 26 (.inl (jo_c 27 (nI 4))))))))) (jt_n 40 (jt_n 34 (jt_n 29 (jt_n 28 (jt_l 27 (.inl (jo_b 28 (fun x y => (x.toUInt32 >>> (y.toUInt32 &&& Int32.toUInt32 31)).toInt32)))) (jt_l 28 (.inl (jo_b 29 (fun x y => x + y))))) (jt_n 32 (jt_l 29 (.inl (jo_c 32 (nI 252645135)))) (jt_n 33 (jt_l 32 (.inl (jo_b 33 (fun x y => x &&& y)))) (jt_l 33 (.inl (jo_is 34 1 0)))))) (jt_n 36 (jt_n 35 (jt_l 34 (.inl (jo_il 35 0))) (jt_l 35 (.inl (jo_il 36 0)))) (jt_n 38 (jt_l 36 (.inl (jo_c 38 (nI 8)))) (jt_n 39 (jt_l 38 (.inl (jo_b 39 (fun x y => (x.toUInt32 >>> (y.toUInt32 &&& Int32.toUInt32 31)).toInt32)))) (jt_l 39 (.inl (jo_b 40 (fun x y => x + y)))))))) (jt_n 46 (jt_n 42 (jt_n 41 (jt_l 40 (.inl (jo_is 41 1 0))) (jt_l 41 (.inl (jo_il 42 0)))) (jt_n 43 (jt_l 42 (.inl (jo_il 43 0))) (jt_n 45 (jt_l 43 (.inl (jo_c 45 (nI 16)))) (jt_l 45 (.inl (jo_b 46 (fun x y => (x.toUInt32 >>> (y.toUInt32 &&& Int32.toUInt32 31)).toInt32))))))) (jt_n 49 (jt_n 47 (jt_l 46 (.inl (jo_b 47 (fun x y => x + y)))) (jt_n 48 (jt_l 47 (.inl (jo_is 48 1 0))) (jt_l 48 (.inl (jo_il 49 0))))) (jt_n 51 (jt_l 49 (.inl (jo_c 51 (nI 63)))) (jt_n 52 (jt_l 51 (.inl (jo_b 52 (fun x y => x &&& y)))) (jt_l 52 (.inr (.inr 1)))))))))
/-- java/util/Arrays.fill([II)V -/
def jc_198 : Nat → Option jxI := (jt_n 7 (jt_n 3 (jt_n 1 (jt_l 0 (.inl (jo_c 1 (nI 0)))) (jt_n 2 (jt_l 1 (.inl (jo_is 2 4 2))) (jt_l 2 (.inl (jo_al 3 0))))) (jt_n 5 (jt_n 4 (jt_l 3 (.inl (jo_len 4))) (jt_l 4 (.inl (jo_is 5 4 3)))) (jt_n 6 (jt_l 5 (.inl (jo_il 6 2))) (jt_l 6 (.inl (jo_il 7 3)))))) (jt_n 13 (jt_n 11 (jt_n 10 (jt_l 7 (.inl (jo_ic 10 20 (fun x y => decide (y ≤ x))))) (jt_l 10 (.inl (jo_al 11 0)))) (jt_n 12 (jt_l 11 (.inl (jo_il 12 2))) (jt_l 12 (.inl (jo_il 13 1))))) (jt_n 17 (jt_n 14 (jt_l 13 (.inl (jo_iw 14))) (jt_l 14 (.inl (jo_inc 17 4 2 (nI 1))))) (jt_n 20 (jt_l 17 (.inl (jo_go 5))) (jt_l 20 (.inr (.inr 0)))))))
/-- java/util/Arrays.copyOf([II)[I -/
def jc_199 : Nat → Option jxI := (jt_n 18 (jt_n 7 (jt_n 2 (jt_n 1 (jt_l 0 (.inl (jo_il 1 1))) (jt_l 1 (.inl (jo_al 2 0)))) (jt_n 3 (jt_l 2 (.inl (jo_len 3))) (jt_n 6 (jt_l 3 (.inl (jo_ic 6 14 (fun x y => decide (¬ x = y))))) (jt_l 6 (.inl (jo_al 7 0)))))) (jt_n 14 (jt_n 10 (jt_l 7 (.inl (jo_cn 10))) (jt_n 13 (jt_l 10 (.inl (jo_ct 13))) (jt_l 13 (.inr (.inr 3))))) (jt_n 15 (jt_l 14 (.inl (jo_il 15 1))) (jt_n 17 (jt_l 15 (.inl (jo_ni 17))) (jt_l 17 (.inl (jo_as 18 3 2))))))) (jt_n 23 (jt_n 20 (jt_n 19 (jt_l 18 (.inl (jo_al 19 0))) (jt_l 19 (.inl (jo_c 20 (nI 0))))) (jt_n 21 (jt_l 20 (.inl (jo_al 21 2))) (jt_n 22 (jt_l 21 (.inl (jo_c 22 (nI 0)))) (jt_l 22 (.inl (jo_al 23 0)))))) (jt_n 28 (jt_n 24 (jt_l 23 (.inl (jo_len 24))) (jt_n 25 (jt_l 24 (.inl (jo_il 25 1))) (jt_l 25 (.inl (jo_m2 28 (fun x y => if y < x then y else x)))))) (jt_n 31 (jt_l 28 (.inl (jo_cp 31))) (jt_n 32 (jt_l 31 (.inl (jo_al 32 2))) (jt_l 32 (.inr (.inr 3))))))))
/-- TalkBenchLaw.law([I)Z -/
def jc_200 : Nat → Option jxI := (jt_n 624 (jt_n 395 (jt_n 268 (jt_n 215 (jt_n 185 (jt_n 19 (jt_n 11 (jt_n 4 (jt_n 3 (jt_l 0 (.inl (jo_nw 3 11 [.null, .null, .null, .null, .null, .null, .null, .null, .null, .null, .null, .int 0]))) (jt_l 3 (.inl (jo_d 4)))) (jt_n 7 (jt_l 4 (.inr (.inl (85, 1, 7, some 11)))) (jt_n 8 (jt_l 7 (.inl (jo_as 8 4 1))) (jt_l 8 (.inl (jo_nw 11 12 [.int 0, .int 0, .null, .null, .int 0, .null, .null, .null, .null, .null, .null, .int 0, .null, .int 0, .int 0, .null, .null, .null, .null, .null, .null, .null, .null, .null, .null, .null, .null, .null, .null, .null, .null, .null, .null, .null, .null, .null, .null, .null])))))) (jt_n 16 (jt_n 12 (jt_l 11 (.inl (jo_d 12))) (jt_n 15 (jt_l 12 (.inr (.inl (129, 1, 15, some 12)))) (jt_l 15 (.inl (jo_as 16 4 2))))) (jt_n 17 (jt_l 16 (.inl (jo_c 17 (nI 0)))) (jt_n 18 (jt_l 17 (.inl (jo_is 18 4 3))) (jt_l 18 (.inl (jo_il 19 3))))))) (jt_n 28 (jt_n 23 (jt_n 20 (jt_l 19 (.inl (jo_al 20 0))) (jt_n 21 (jt_l 20 (.inl (jo_sl 21))) (jt_l 21 (.inl (jo_c 23 (nI 6)))))) (jt_n 24 (jt_l 23 (.inl (jo_b 24 (fun x y => x - y)))) (jt_n 27 (jt_l 24 (.inl (jo_ic 27 1156 (fun x y => decide (y < x))))) (jt_l 27 (.inl (jo_al 28 0)))))) (jt_n 32 (jt_n 29 (jt_l 28 (.inl (jo_il 29 3))) (jt_n 30 (jt_l 29 (.inl (jo_sa 30))) (jt_l 30 (.inl (jo_c 32 (nI 63)))))) (jt_n 33 (jt_l 32 (.inl (jo_b 33 (fun x y => x &&& y)))) (jt_n 184 (jt_l 33 (.inl (jo_sw (js_swt 33 1117 0 33 [151, 184, 227, 260, 303, 326, 339, 352, 391, 434, 477, 540, 563, 596, 629, 642, 675, 708, 747, 786, 825, 848, 871, 884, 897, 920, 943, 956, 979, 1002, 1025, 1058, 1081, 1094])))) (jt_l 184 (.inl (jo_al 185 1)))))))) (jt_n 199 (jt_n 191 (jt_n 188 (jt_n 186 (jt_l 185 (.inl (jo_al 186 0))) (jt_n 187 (jt_l 186 (.inl (jo_il 187 3))) (jt_l 187 (.inl (jo_c 188 (nI 1)))))) (jt_n 189 (jt_l 188 (.inl (jo_b 189 (fun x y => x + y)))) (jt_n 190 (jt_l 189 (.inl (jo_sa 190))) (jt_l 190 (.inl (jo_al 191 0)))))) (jt_n 194 (jt_n 192 (jt_l 191 (.inl (jo_il 192 3))) (jt_n 193 (jt_l 192 (.inl (jo_c 193 (nI 2)))) (jt_l 193 (.inl (jo_b 194 (fun x y => x + y)))))) (jt_n 195 (jt_l 194 (.inl (jo_sa 195))) (jt_n 198 (jt_l 195 (.inr (.inl (86, 3, 198, some 11)))) (jt_l 198 (.inl (jo_al 199 2))))))) (jt_n 205 (jt_n 202 (jt_n 200 (jt_l 199 (.inl (jo_al 200 0))) (jt_n 201 (jt_l 200 (.inl (jo_il 201 3))) (jt_l 201 (.inl (jo_c 202 (nI 1)))))) (jt_n 203 (jt_l 202 (.inl (jo_b 203 (fun x y => x + y)))) (jt_n 204 (jt_l 203 (.inl (jo_sa 204))) (jt_l 204 (.inl (jo_al 205 0)))))) (jt_n 208 (jt_n 206 (jt_l 205 (.inl (jo_il 206 3))) (jt_n 207 (jt_l 206 (.inl (jo_c 207 (nI 2)))) (jt_l 207 (.inl (jo_b 208 (fun x y => x + y)))))) (jt_n 209 (jt_l 208 (.inl (jo_sa 209))) (jt_n 212 (jt_l 209 (.inr (.inl (139, 3, 212, some 12)))) (jt_l 212 (.inl (jo_ic 215 1150 (fun x y => decide (x = y))))))))))) (jt_n 240 (jt_n 226 (jt_n 220 (jt_n 217 (jt_n 216 (jt_l 215 (.inl (jo_c 216 (nI 0)))) (jt_l 216 (.inr (.inr 2)))) (jt_n 218 (jt_l 217 (.inl (jo_al 218 1))) (jt_n 219 (jt_l 218 (.inl (jo_al 219 0))) (jt_l 219 (.inl (jo_il 220 3)))))) (jt_n 223 (jt_n 221 (jt_l 220 (.inl (jo_c 221 (nI 1)))) (jt_n 222 (jt_l 221 (.inl (jo_b 222 (fun x y => x + y)))) (jt_l 222 (.inl (jo_sa 223))))) (jt_n 224 (jt_l 223 (.inl (jo_al 224 0))) (jt_n 225 (jt_l 224 (.inl (jo_il 225 3))) (jt_l 225 (.inl (jo_c 226 (nI 2)))))))) (jt_n 232 (jt_n 229 (jt_n 227 (jt_l 226 (.inl (jo_b 227 (fun x y => x + y)))) (jt_n 228 (jt_l 227 (.inl (jo_sa 228))) (jt_l 228 (.inl (jo_al 229 0))))) (jt_n 230 (jt_l 229 (.inl (jo_il 230 3))) (jt_n 231 (jt_l 230 (.inl (jo_c 231 (nI 3)))) (jt_l 231 (.inl (jo_b 232 (fun x y => x + y))))))) (jt_n 237 (jt_n 233 (jt_l 232 (.inl (jo_sa 233))) (jt_n 236 (jt_l 233 (.inr (.inl (87, 4, 236, some 11)))) (jt_l 236 (.inl (jo_al 237 2))))) (jt_n 238 (jt_l 237 (.inl (jo_al 238 0))) (jt_n 239 (jt_l 238 (.inl (jo_il 239 3))) (jt_l 239 (.inl (jo_c 240 (nI 1))))))))) (jt_n 252 (jt_n 246 (jt_n 243 (jt_n 241 (jt_l 240 (.inl (jo_b 241 (fun x y => x + y)))) (jt_n 242 (jt_l 241 (.inl (jo_sa 242))) (jt_l 242 (.inl (jo_al 243 0))))) (jt_n 244 (jt_l 243 (.inl (jo_il 244 3))) (jt_n 245 (jt_l 244 (.inl (jo_c 245 (nI 2)))) (jt_l 245 (.inl (jo_b 246 (fun x y => x + y))))))) (jt_n 249 (jt_n 247 (jt_l 246 (.inl (jo_sa 247))) (jt_n 248 (jt_l 247 (.inl (jo_al 248 0))) (jt_l 248 (.inl (jo_il 249 3))))) (jt_n 250 (jt_l 249 (.inl (jo_c 250 (nI 3)))) (jt_n 251 (jt_l 250 (.inl (jo_b 251 (fun x y => x + y)))) (jt_l 251 (.inl (jo_sa 252))))))) (jt_n 262 (jt_n 259 (jt_n 255 (jt_l 252 (.inr (.inl (140, 4, 255, some 12)))) (jt_n 258 (jt_l 255 (.inl (jo_ic 258 1150 (fun x y => decide (x = y))))) (jt_l 258 (.inl (jo_c 259 (nI 0)))))) (jt_n 260 (jt_l 259 (.inr (.inr 2))) (jt_n 261 (jt_l 260 (.inl (jo_al 261 1))) (jt_l 261 (.inl (jo_al 262 0)))))) (jt_n 265 (jt_n 263 (jt_l 262 (.inl (jo_il 263 3))) (jt_n 264 (jt_l 263 (.inl (jo_c 264 (nI 1)))) (jt_l 264 (.inl (jo_b 265 (fun x y => x + y)))))) (jt_n 266 (jt_l 265 (.inl (jo_sa 266))) (jt_n 267 (jt_l 266 (.inl (jo_al 267 0))) (jt_l 267 (.inl (jo_il 268 3)))))))))) (jt_n 323 (jt_n 297 (jt_n 281 (jt_n 275 (jt_n 270 (jt_n 269 (jt_l 268 (.inl (jo_c 269 (nI 2)))) (jt_l 269 (.inl (jo_b 270 (fun x y => x + y))))) (jt_n 271 (jt_l 270 (.inl (jo_sa 271))) (jt_n 274 (jt_l 271 (.inr (.inl (88, 3, 274, some 11)))) (jt_l 274 (.inl (jo_al 275 2)))))) (jt_n 278 (jt_n 276 (jt_l 275 (.inl (jo_al 276 0))) (jt_n 277 (jt_l 276 (.inl (jo_il 277 3))) (jt_l 277 (.inl (jo_c 278 (nI 1)))))) (jt_n 279 (jt_l 278 (.inl (jo_b 279 (fun x y => x + y)))) (jt_n 280 (jt_l 279 (.inl (jo_sa 280))) (jt_l 280 (.inl (jo_al 281 0))))))) (jt_n 291 (jt_n 284 (jt_n 282 (jt_l 281 (.inl (jo_il 282 3))) (jt_n 283 (jt_l 282 (.inl (jo_c 283 (nI 2)))) (jt_l 283 (.inl (jo_b 284 (fun x y => x + y)))))) (jt_n 285 (jt_l 284 (.inl (jo_sa 285))) (jt_n 288 (jt_l 285 (.inr (.inl (141, 3, 288, some 12)))) (jt_l 288 (.inl (jo_ic 291 1150 (fun x y => decide (x = y)))))))) (jt_n 294 (jt_n 292 (jt_l 291 (.inl (jo_c 292 (nI 0)))) (jt_n 293 (jt_l 292 (.inr (.inr 2))) (jt_l 293 (.inl (jo_al 294 1))))) (jt_n 295 (jt_l 294 (.inl (jo_al 295 0))) (jt_n 296 (jt_l 295 (.inl (jo_il 296 3))) (jt_l 296 (.inl (jo_c 297 (nI 1))))))))) (jt_n 309 (jt_n 303 (jt_n 300 (jt_n 298 (jt_l 297 (.inl (jo_b 298 (fun x y => x + y)))) (jt_n 299 (jt_l 298 (.inl (jo_sa 299))) (jt_l 299 (.inl (jo_al 300 0))))) (jt_n 301 (jt_l 300 (.inl (jo_il 301 3))) (jt_n 302 (jt_l 301 (.inl (jo_c 302 (nI 2)))) (jt_l 302 (.inl (jo_b 303 (fun x y => x + y))))))) (jt_n 306 (jt_n 304 (jt_l 303 (.inl (jo_sa 304))) (jt_n 305 (jt_l 304 (.inl (jo_al 305 0))) (jt_l 305 (.inl (jo_il 306 3))))) (jt_n 307 (jt_l 306 (.inl (jo_c 307 (nI 3)))) (jt_n 308 (jt_l 307 (.inl (jo_b 308 (fun x y => x + y)))) (jt_l 308 (.inl (jo_sa 309))))))) (jt_n 317 (jt_n 314 (jt_n 312 (jt_l 309 (.inr (.inl (89, 4, 312, some 11)))) (jt_n 313 (jt_l 312 (.inl (jo_al 313 2))) (jt_l 313 (.inl (jo_al 314 0))))) (jt_n 315 (jt_l 314 (.inl (jo_il 315 3))) (jt_n 316 (jt_l 315 (.inl (jo_c 316 (nI 1)))) (jt_l 316 (.inl (jo_b 317 (fun x y => x + y))))))) (jt_n 320 (jt_n 318 (jt_l 317 (.inl (jo_sa 318))) (jt_n 319 (jt_l 318 (.inl (jo_al 319 0))) (jt_l 319 (.inl (jo_il 320 3))))) (jt_n 321 (jt_l 320 (.inl (jo_c 321 (nI 2)))) (jt_n 322 (jt_l 321 (.inl (jo_b 322 (fun x y => x + y)))) (jt_l 322 (.inl (jo_sa 323))))))))) (jt_n 357 (jt_n 339 (jt_n 331 (jt_n 326 (jt_n 324 (jt_l 323 (.inl (jo_al 324 0))) (jt_n 325 (jt_l 324 (.inl (jo_il 325 3))) (jt_l 325 (.inl (jo_c 326 (nI 3)))))) (jt_n 327 (jt_l 326 (.inl (jo_b 327 (fun x y => x + y)))) (jt_n 328 (jt_l 327 (.inl (jo_sa 328))) (jt_l 328 (.inr (.inl (142, 4, 331, some 12))))))) (jt_n 336 (jt_n 334 (jt_l 331 (.inl (jo_ic 334 1150 (fun x y => decide (x = y))))) (jt_n 335 (jt_l 334 (.inl (jo_c 335 (nI 0)))) (jt_l 335 (.inr (.inr 2))))) (jt_n 337 (jt_l 336 (.inl (jo_al 337 1))) (jt_n 338 (jt_l 337 (.inl (jo_al 338 0))) (jt_l 338 (.inl (jo_il 339 3))))))) (jt_n 347 (jt_n 342 (jt_n 340 (jt_l 339 (.inl (jo_c 340 (nI 1)))) (jt_n 341 (jt_l 340 (.inl (jo_b 341 (fun x y => x + y)))) (jt_l 341 (.inl (jo_sa 342))))) (jt_n 345 (jt_l 342 (.inr (.inl (90, 2, 345, some 11)))) (jt_n 346 (jt_l 345 (.inl (jo_al 346 2))) (jt_l 346 (.inl (jo_al 347 0)))))) (jt_n 350 (jt_n 348 (jt_l 347 (.inl (jo_il 348 3))) (jt_n 349 (jt_l 348 (.inl (jo_c 349 (nI 1)))) (jt_l 349 (.inl (jo_b 350 (fun x y => x + y)))))) (jt_n 351 (jt_l 350 (.inl (jo_sa 351))) (jt_n 354 (jt_l 351 (.inr (.inl (143, 2, 354, some 12)))) (jt_l 354 (.inl (jo_ic 357 1150 (fun x y => decide (x = y)))))))))) (jt_n 377 (jt_n 367 (jt_n 360 (jt_n 358 (jt_l 357 (.inl (jo_c 358 (nI 0)))) (jt_n 359 (jt_l 358 (.inr (.inr 2))) (jt_l 359 (.inl (jo_al 360 1))))) (jt_n 363 (jt_l 360 (.inr (.inl (91, 1, 363, some 11)))) (jt_n 364 (jt_l 363 (.inl (jo_al 364 2))) (jt_l 364 (.inr (.inl (144, 1, 367, some 12))))))) (jt_n 372 (jt_n 370 (jt_l 367 (.inl (jo_ic 370 1150 (fun x y => decide (x = y))))) (jt_n 371 (jt_l 370 (.inl (jo_c 371 (nI 0)))) (jt_l 371 (.inr (.inr 2))))) (jt_n 373 (jt_l 372 (.inl (jo_al 373 1))) (jt_n 376 (jt_l 373 (.inr (.inl (92, 1, 376, some 11)))) (jt_l 376 (.inl (jo_al 377 2))))))) (jt_n 387 (jt_n 384 (jt_n 380 (jt_l 377 (.inr (.inl (145, 1, 380, some 12)))) (jt_n 383 (jt_l 380 (.inl (jo_ic 383 1150 (fun x y => decide (x = y))))) (jt_l 383 (.inl (jo_c 384 (nI 0)))))) (jt_n 385 (jt_l 384 (.inr (.inr 2))) (jt_n 386 (jt_l 385 (.inl (jo_al 386 1))) (jt_l 386 (.inl (jo_al 387 0)))))) (jt_n 390 (jt_n 388 (jt_l 387 (.inl (jo_il 388 3))) (jt_n 389 (jt_l 388 (.inl (jo_c 389 (nI 1)))) (jt_l 389 (.inl (jo_b 390 (fun x y => x + y)))))) (jt_n 391 (jt_l 390 (.inl (jo_sa 391))) (jt_n 394 (jt_l 391 (.inl (jo_if 394 398 (fun x => decide (x = 0))))) (jt_l 394 (.inl (jo_c 395 (nI 1)))))))))))) (jt_n 513 (jt_n 456 (jt_n 430 (jt_n 412 (jt_n 404 (jt_n 399 (jt_n 398 (jt_l 395 (.inl (jo_go 399))) (jt_l 398 (.inl (jo_c 399 (nI 0))))) (jt_n 402 (jt_l 399 (.inr (.inl (93, 2, 402, some 11)))) (jt_n 403 (jt_l 402 (.inl (jo_al 403 2))) (jt_l 403 (.inl (jo_al 404 0)))))) (jt_n 407 (jt_n 405 (jt_l 404 (.inl (jo_il 405 3))) (jt_n 406 (jt_l 405 (.inl (jo_c 406 (nI 1)))) (jt_l 406 (.inl (jo_b 407 (fun x y => x + y)))))) (jt_n 408 (jt_l 407 (.inl (jo_sa 408))) (jt_n 411 (jt_l 408 (.inl (jo_if 411 415 (fun x => decide (x = 0))))) (jt_l 411 (.inl (jo_c 412 (nI 1)))))))) (jt_n 424 (jt_n 419 (jt_n 415 (jt_l 412 (.inl (jo_go 416))) (jt_n 416 (jt_l 415 (.inl (jo_c 416 (nI 0)))) (jt_l 416 (.inr (.inl (147, 2, 419, some 12)))))) (jt_n 422 (jt_l 419 (.inl (jo_ic 422 1150 (fun x y => decide (x = y))))) (jt_n 423 (jt_l 422 (.inl (jo_c 423 (nI 0)))) (jt_l 423 (.inr (.inr 2)))))) (jt_n 427 (jt_n 425 (jt_l 424 (.inl (jo_al 425 1))) (jt_n 426 (jt_l 425 (.inl (jo_al 426 0))) (jt_l 426 (.inl (jo_il 427 3))))) (jt_n 428 (jt_l 427 (.inl (jo_c 428 (nI 1)))) (jt_n 429 (jt_l 428 (.inl (jo_b 429 (fun x y => x + y)))) (jt_l 429 (.inl (jo_sa 430)))))))) (jt_n 444 (jt_n 436 (jt_n 433 (jt_n 431 (jt_l 430 (.inl (jo_al 431 0))) (jt_n 432 (jt_l 431 (.inl (jo_il 432 3))) (jt_l 432 (.inl (jo_c 433 (nI 2)))))) (jt_n 434 (jt_l 433 (.inl (jo_b 434 (fun x y => x + y)))) (jt_n 435 (jt_l 434 (.inl (jo_sa 435))) (jt_l 435 (.inl (jo_al 436 0)))))) (jt_n 439 (jt_n 437 (jt_l 436 (.inl (jo_il 437 3))) (jt_n 438 (jt_l 437 (.inl (jo_c 438 (nI 3)))) (jt_l 438 (.inl (jo_b 439 (fun x y => x + y)))))) (jt_n 440 (jt_l 439 (.inl (jo_sa 440))) (jt_n 443 (jt_l 440 (.inr (.inl (94, 4, 443, some 11)))) (jt_l 443 (.inl (jo_al 444 2))))))) (jt_n 450 (jt_n 447 (jt_n 445 (jt_l 444 (.inl (jo_al 445 0))) (jt_n 446 (jt_l 445 (.inl (jo_il 446 3))) (jt_l 446 (.inl (jo_c 447 (nI 1)))))) (jt_n 448 (jt_l 447 (.inl (jo_b 448 (fun x y => x + y)))) (jt_n 449 (jt_l 448 (.inl (jo_sa 449))) (jt_l 449 (.inl (jo_al 450 0)))))) (jt_n 453 (jt_n 451 (jt_l 450 (.inl (jo_il 451 3))) (jt_n 452 (jt_l 451 (.inl (jo_c 452 (nI 2)))) (jt_l 452 (.inl (jo_b 453 (fun x y => x + y)))))) (jt_n 454 (jt_l 453 (.inl (jo_sa 454))) (jt_n 455 (jt_l 454 (.inl (jo_al 455 0))) (jt_l 455 (.inl (jo_il 456 3))))))))) (jt_n 483 (jt_n 471 (jt_n 465 (jt_n 458 (jt_n 457 (jt_l 456 (.inl (jo_c 457 (nI 3)))) (jt_l 457 (.inl (jo_b 458 (fun x y => x + y))))) (jt_n 459 (jt_l 458 (.inl (jo_sa 459))) (jt_n 462 (jt_l 459 (.inr (.inl (149, 4, 462, some 12)))) (jt_l 462 (.inl (jo_ic 465 1150 (fun x y => decide (x = y)))))))) (jt_n 468 (jt_n 466 (jt_l 465 (.inl (jo_c 466 (nI 0)))) (jt_n 467 (jt_l 466 (.inr (.inr 2))) (jt_l 467 (.inl (jo_al 468 1))))) (jt_n 469 (jt_l 468 (.inl (jo_al 469 0))) (jt_n 470 (jt_l 469 (.inl (jo_il 470 3))) (jt_l 470 (.inl (jo_c 471 (nI 1)))))))) (jt_n 477 (jt_n 474 (jt_n 472 (jt_l 471 (.inl (jo_b 472 (fun x y => x + y)))) (jt_n 473 (jt_l 472 (.inl (jo_sa 473))) (jt_l 473 (.inl (jo_al 474 0))))) (jt_n 475 (jt_l 474 (.inl (jo_il 475 3))) (jt_n 476 (jt_l 475 (.inl (jo_c 476 (nI 2)))) (jt_l 476 (.inl (jo_b 477 (fun x y => x + y))))))) (jt_n 480 (jt_n 478 (jt_l 477 (.inl (jo_sa 478))) (jt_n 479 (jt_l 478 (.inl (jo_al 479 0))) (jt_l 479 (.inl (jo_il 480 3))))) (jt_n 481 (jt_l 480 (.inl (jo_c 481 (nI 3)))) (jt_n 482 (jt_l 481 (.inl (jo_b 482 (fun x y => x + y)))) (jt_l 482 (.inl (jo_sa 483)))))))) (jt_n 497 (jt_n 491 (jt_n 488 (jt_n 486 (jt_l 483 (.inr (.inl (95, 4, 486, some 11)))) (jt_n 487 (jt_l 486 (.inl (jo_al 487 2))) (jt_l 487 (.inl (jo_al 488 0))))) (jt_n 489 (jt_l 488 (.inl (jo_il 489 3))) (jt_n 490 (jt_l 489 (.inl (jo_c 490 (nI 1)))) (jt_l 490 (.inl (jo_b 491 (fun x y => x + y))))))) (jt_n 494 (jt_n 492 (jt_l 491 (.inl (jo_sa 492))) (jt_n 493 (jt_l 492 (.inl (jo_al 493 0))) (jt_l 493 (.inl (jo_il 494 3))))) (jt_n 495 (jt_l 494 (.inl (jo_c 495 (nI 2)))) (jt_n 496 (jt_l 495 (.inl (jo_b 496 (fun x y => x + y)))) (jt_l 496 (.inl (jo_sa 497))))))) (jt_n 505 (jt_n 500 (jt_n 498 (jt_l 497 (.inl (jo_al 498 0))) (jt_n 499 (jt_l 498 (.inl (jo_il 499 3))) (jt_l 499 (.inl (jo_c 500 (nI 3)))))) (jt_n 501 (jt_l 500 (.inl (jo_b 501 (fun x y => x + y)))) (jt_n 502 (jt_l 501 (.inl (jo_sa 502))) (jt_l 502 (.inr (.inl (150, 4, 505, some 12))))))) (jt_n 510 (jt_n 508 (jt_l 505 (.inl (jo_ic 508 1150 (fun x y => decide (x = y))))) (jt_n 509 (jt_l 508 (.inl (jo_c 509 (nI 0)))) (jt_l 509 (.inr (.inr 2))))) (jt_n 511 (jt_l 510 (.inl (jo_al 511 1))) (jt_n 512 (jt_l 511 (.inl (jo_al 512 0))) (jt_l 512 (.inl (jo_il 513 3)))))))))) (jt_n 562 (jt_n 536 (jt_n 524 (jt_n 518 (jt_n 515 (jt_n 514 (jt_l 513 (.inl (jo_c 514 (nI 1)))) (jt_l 514 (.inl (jo_b 515 (fun x y => x + y))))) (jt_n 516 (jt_l 515 (.inl (jo_sa 516))) (jt_n 517 (jt_l 516 (.inl (jo_al 517 0))) (jt_l 517 (.inl (jo_il 518 3)))))) (jt_n 521 (jt_n 519 (jt_l 518 (.inl (jo_c 519 (nI 2)))) (jt_n 520 (jt_l 519 (.inl (jo_b 520 (fun x y => x + y)))) (jt_l 520 (.inl (jo_sa 521))))) (jt_n 522 (jt_l 521 (.inl (jo_al 522 0))) (jt_n 523 (jt_l 522 (.inl (jo_il 523 3))) (jt_l 523 (.inl (jo_c 524 (nI 3)))))))) (jt_n 530 (jt_n 527 (jt_n 525 (jt_l 524 (.inl (jo_b 525 (fun x y => x + y)))) (jt_n 526 (jt_l 525 (.inl (jo_sa 526))) (jt_l 526 (.inl (jo_al 527 0))))) (jt_n 528 (jt_l 527 (.inl (jo_il 528 3))) (jt_n 529 (jt_l 528 (.inl (jo_c 529 (nI 4)))) (jt_l 529 (.inl (jo_b 530 (fun x y => x + y))))))) (jt_n 533 (jt_n 531 (jt_l 530 (.inl (jo_sa 531))) (jt_n 532 (jt_l 531 (.inl (jo_al 532 0))) (jt_l 532 (.inl (jo_il 533 3))))) (jt_n 534 (jt_l 533 (.inl (jo_c 534 (nI 5)))) (jt_n 535 (jt_l 534 (.inl (jo_b 535 (fun x y => x + y)))) (jt_l 535 (.inl (jo_sa 536)))))))) (jt_n 550 (jt_n 544 (jt_n 541 (jt_n 539 (jt_l 536 (.inr (.inl (96, 6, 539, some 11)))) (jt_n 540 (jt_l 539 (.inl (jo_al 540 2))) (jt_l 540 (.inl (jo_al 541 0))))) (jt_n 542 (jt_l 541 (.inl (jo_il 542 3))) (jt_n 543 (jt_l 542 (.inl (jo_c 543 (nI 1)))) (jt_l 543 (.inl (jo_b 544 (fun x y => x + y))))))) (jt_n 547 (jt_n 545 (jt_l 544 (.inl (jo_sa 545))) (jt_n 546 (jt_l 545 (.inl (jo_al 546 0))) (jt_l 546 (.inl (jo_il 547 3))))) (jt_n 548 (jt_l 547 (.inl (jo_c 548 (nI 2)))) (jt_n 549 (jt_l 548 (.inl (jo_b 549 (fun x y => x + y)))) (jt_l 549 (.inl (jo_sa 550))))))) (jt_n 556 (jt_n 553 (jt_n 551 (jt_l 550 (.inl (jo_al 551 0))) (jt_n 552 (jt_l 551 (.inl (jo_il 552 3))) (jt_l 552 (.inl (jo_c 553 (nI 3)))))) (jt_n 554 (jt_l 553 (.inl (jo_b 554 (fun x y => x + y)))) (jt_n 555 (jt_l 554 (.inl (jo_sa 555))) (jt_l 555 (.inl (jo_al 556 0)))))) (jt_n 559 (jt_n 557 (jt_l 556 (.inl (jo_il 557 3))) (jt_n 558 (jt_l 557 (.inl (jo_c 558 (nI 4)))) (jt_l 558 (.inl (jo_b 559 (fun x y => x + y)))))) (jt_n 560 (jt_l 559 (.inl (jo_sa 560))) (jt_n 561 (jt_l 560 (.inl (jo_al 561 0))) (jt_l 561 (.inl (jo_il 562 3))))))))) (jt_n 596 (jt_n 578 (jt_n 572 (jt_n 565 (jt_n 563 (jt_l 562 (.inl (jo_c 563 (nI 5)))) (jt_n 564 (jt_l 563 (.inl (jo_b 564 (fun x y => x + y)))) (jt_l 564 (.inl (jo_sa 565))))) (jt_n 568 (jt_l 565 (.inr (.inl (152, 6, 568, some 12)))) (jt_n 571 (jt_l 568 (.inl (jo_ic 571 1150 (fun x y => decide (x = y))))) (jt_l 571 (.inl (jo_c 572 (nI 0))))))) (jt_n 575 (jt_n 573 (jt_l 572 (.inr (.inr 2))) (jt_n 574 (jt_l 573 (.inl (jo_al 574 1))) (jt_l 574 (.inl (jo_al 575 0))))) (jt_n 576 (jt_l 575 (.inl (jo_il 576 3))) (jt_n 577 (jt_l 576 (.inl (jo_c 577 (nI 1)))) (jt_l 577 (.inl (jo_b 578 (fun x y => x + y)))))))) (jt_n 586 (jt_n 583 (jt_n 579 (jt_l 578 (.inl (jo_sa 579))) (jt_n 582 (jt_l 579 (.inr (.inl (97, 2, 582, some 11)))) (jt_l 582 (.inl (jo_al 583 2))))) (jt_n 584 (jt_l 583 (.inl (jo_al 584 0))) (jt_n 585 (jt_l 584 (.inl (jo_il 585 3))) (jt_l 585 (.inl (jo_c 586 (nI 1))))))) (jt_n 591 (jt_n 587 (jt_l 586 (.inl (jo_b 587 (fun x y => x + y)))) (jt_n 588 (jt_l 587 (.inl (jo_sa 588))) (jt_l 588 (.inr (.inl (153, 2, 591, some 12)))))) (jt_n 594 (jt_l 591 (.inl (jo_ic 594 1150 (fun x y => decide (x = y))))) (jt_n 595 (jt_l 594 (.inl (jo_c 595 (nI 0)))) (jt_l 595 (.inr (.inr 2)))))))) (jt_n 610 (jt_n 602 (jt_n 599 (jt_n 597 (jt_l 596 (.inl (jo_al 597 1))) (jt_n 598 (jt_l 597 (.inl (jo_al 598 0))) (jt_l 598 (.inl (jo_il 599 3))))) (jt_n 600 (jt_l 599 (.inl (jo_c 600 (nI 1)))) (jt_n 601 (jt_l 600 (.inl (jo_b 601 (fun x y => x + y)))) (jt_l 601 (.inl (jo_sa 602)))))) (jt_n 605 (jt_n 603 (jt_l 602 (.inl (jo_al 603 0))) (jt_n 604 (jt_l 603 (.inl (jo_il 604 3))) (jt_l 604 (.inl (jo_c 605 (nI 2)))))) (jt_n 606 (jt_l 605 (.inl (jo_b 606 (fun x y => x + y)))) (jt_n 607 (jt_l 606 (.inl (jo_sa 607))) (jt_l 607 (.inr (.inl (98, 3, 610, some 11)))))))) (jt_n 616 (jt_n 613 (jt_n 611 (jt_l 610 (.inl (jo_al 611 2))) (jt_n 612 (jt_l 611 (.inl (jo_al 612 0))) (jt_l 612 (.inl (jo_il 613 3))))) (jt_n 614 (jt_l 613 (.inl (jo_c 614 (nI 1)))) (jt_n 615 (jt_l 614 (.inl (jo_b 615 (fun x y => x + y)))) (jt_l 615 (.inl (jo_sa 616)))))) (jt_n 619 (jt_n 617 (jt_l 616 (.inl (jo_al 617 0))) (jt_n 618 (jt_l 617 (.inl (jo_il 618 3))) (jt_l 618 (.inl (jo_c 619 (nI 2)))))) (jt_n 620 (jt_l 619 (.inl (jo_b 620 (fun x y => x + y)))) (jt_n 621 (jt_l 620 (.inl (jo_sa 621))) (jt_l 621 (.inr (.inl (162, 3, 624, some 12))))))))))))) (jt_n 887 (jt_n 744 (jt_n 685 (jt_n 651 (jt_n 637 (jt_n 631 (jt_n 628 (jt_n 627 (jt_l 624 (.inl (jo_ic 627 1150 (fun x y => decide (x = y))))) (jt_l 627 (.inl (jo_c 628 (nI 0))))) (jt_n 629 (jt_l 628 (.inr (.inr 2))) (jt_n 630 (jt_l 629 (.inl (jo_al 630 1))) (jt_l 630 (.inl (jo_al 631 0)))))) (jt_n 634 (jt_n 632 (jt_l 631 (.inl (jo_il 632 3))) (jt_n 633 (jt_l 632 (.inl (jo_c 633 (nI 1)))) (jt_l 633 (.inl (jo_b 634 (fun x y => x + y)))))) (jt_n 635 (jt_l 634 (.inl (jo_sa 635))) (jt_n 636 (jt_l 635 (.inl (jo_al 636 0))) (jt_l 636 (.inl (jo_il 637 3))))))) (jt_n 645 (jt_n 640 (jt_n 638 (jt_l 637 (.inl (jo_c 638 (nI 2)))) (jt_n 639 (jt_l 638 (.inl (jo_b 639 (fun x y => x + y)))) (jt_l 639 (.inl (jo_sa 640))))) (jt_n 643 (jt_l 640 (.inr (.inl (99, 3, 643, some 11)))) (jt_n 644 (jt_l 643 (.inl (jo_al 644 2))) (jt_l 644 (.inl (jo_al 645 0)))))) (jt_n 648 (jt_n 646 (jt_l 645 (.inl (jo_il 646 3))) (jt_n 647 (jt_l 646 (.inl (jo_c 647 (nI 1)))) (jt_l 647 (.inl (jo_b 648 (fun x y => x + y)))))) (jt_n 649 (jt_l 648 (.inl (jo_sa 649))) (jt_n 650 (jt_l 649 (.inl (jo_al 650 0))) (jt_l 650 (.inl (jo_il 651 3)))))))) (jt_n 673 (jt_n 661 (jt_n 654 (jt_n 652 (jt_l 651 (.inl (jo_c 652 (nI 2)))) (jt_n 653 (jt_l 652 (.inl (jo_b 653 (fun x y => x + y)))) (jt_l 653 (.inl (jo_sa 654))))) (jt_n 657 (jt_l 654 (.inr (.inl (163, 3, 657, some 12)))) (jt_n 660 (jt_l 657 (.inl (jo_ic 660 1150 (fun x y => decide (x = y))))) (jt_l 660 (.inl (jo_c 661 (nI 0))))))) (jt_n 666 (jt_n 662 (jt_l 661 (.inr (.inr 2))) (jt_n 663 (jt_l 662 (.inl (jo_al 663 1))) (jt_l 663 (.inr (.inl (100, 1, 666, some 11)))))) (jt_n 667 (jt_l 666 (.inl (jo_al 667 2))) (jt_n 670 (jt_l 667 (.inr (.inl (166, 1, 670, some 12)))) (jt_l 670 (.inl (jo_ic 673 1150 (fun x y => decide (x = y))))))))) (jt_n 679 (jt_n 676 (jt_n 674 (jt_l 673 (.inl (jo_c 674 (nI 0)))) (jt_n 675 (jt_l 674 (.inr (.inr 2))) (jt_l 675 (.inl (jo_al 676 1))))) (jt_n 677 (jt_l 676 (.inl (jo_al 677 0))) (jt_n 678 (jt_l 677 (.inl (jo_il 678 3))) (jt_l 678 (.inl (jo_c 679 (nI 1))))))) (jt_n 682 (jt_n 680 (jt_l 679 (.inl (jo_b 680 (fun x y => x + y)))) (jt_n 681 (jt_l 680 (.inl (jo_sa 681))) (jt_l 681 (.inl (jo_al 682 0))))) (jt_n 683 (jt_l 682 (.inl (jo_il 683 3))) (jt_n 684 (jt_l 683 (.inl (jo_c 684 (nI 2)))) (jt_l 684 (.inl (jo_b 685 (fun x y => x + y)))))))))) (jt_n 714 (jt_n 698 (jt_n 692 (jt_n 689 (jt_n 686 (jt_l 685 (.inl (jo_sa 686))) (jt_l 686 (.inr (.inl (101, 3, 689, some 11))))) (jt_n 690 (jt_l 689 (.inl (jo_al 690 2))) (jt_n 691 (jt_l 690 (.inl (jo_al 691 0))) (jt_l 691 (.inl (jo_il 692 3)))))) (jt_n 695 (jt_n 693 (jt_l 692 (.inl (jo_c 693 (nI 1)))) (jt_n 694 (jt_l 693 (.inl (jo_b 694 (fun x y => x + y)))) (jt_l 694 (.inl (jo_sa 695))))) (jt_n 696 (jt_l 695 (.inl (jo_al 696 0))) (jt_n 697 (jt_l 696 (.inl (jo_il 697 3))) (jt_l 697 (.inl (jo_c 698 (nI 2)))))))) (jt_n 708 (jt_n 703 (jt_n 699 (jt_l 698 (.inl (jo_b 699 (fun x y => x + y)))) (jt_n 700 (jt_l 699 (.inl (jo_sa 700))) (jt_l 700 (.inr (.inl (167, 3, 703, some 12)))))) (jt_n 706 (jt_l 703 (.inl (jo_ic 706 1150 (fun x y => decide (x = y))))) (jt_n 707 (jt_l 706 (.inl (jo_c 707 (nI 0)))) (jt_l 707 (.inr (.inr 2)))))) (jt_n 711 (jt_n 709 (jt_l 708 (.inl (jo_al 709 1))) (jt_n 710 (jt_l 709 (.inl (jo_al 710 0))) (jt_l 710 (.inl (jo_il 711 3))))) (jt_n 712 (jt_l 711 (.inl (jo_c 712 (nI 1)))) (jt_n 713 (jt_l 712 (.inl (jo_b 713 (fun x y => x + y)))) (jt_l 713 (.inl (jo_sa 714)))))))) (jt_n 728 (jt_n 722 (jt_n 717 (jt_n 715 (jt_l 714 (.inl (jo_al 715 0))) (jt_n 716 (jt_l 715 (.inl (jo_il 716 3))) (jt_l 716 (.inl (jo_c 717 (nI 2)))))) (jt_n 718 (jt_l 717 (.inl (jo_b 718 (fun x y => x + y)))) (jt_n 719 (jt_l 718 (.inl (jo_sa 719))) (jt_l 719 (.inr (.inl (102, 3, 722, some 11))))))) (jt_n 725 (jt_n 723 (jt_l 722 (.inl (jo_al 723 2))) (jt_n 724 (jt_l 723 (.inl (jo_al 724 0))) (jt_l 724 (.inl (jo_il 725 3))))) (jt_n 726 (jt_l 725 (.inl (jo_c 726 (nI 1)))) (jt_n 727 (jt_l 726 (.inl (jo_b 727 (fun x y => x + y)))) (jt_l 727 (.inl (jo_sa 728))))))) (jt_n 736 (jt_n 731 (jt_n 729 (jt_l 728 (.inl (jo_al 729 0))) (jt_n 730 (jt_l 729 (.inl (jo_il 730 3))) (jt_l 730 (.inl (jo_c 731 (nI 2)))))) (jt_n 732 (jt_l 731 (.inl (jo_b 732 (fun x y => x + y)))) (jt_n 733 (jt_l 732 (.inl (jo_sa 733))) (jt_l 733 (.inr (.inl (168, 3, 736, some 12))))))) (jt_n 741 (jt_n 739 (jt_l 736 (.inl (jo_ic 739 1150 (fun x y => decide (x = y))))) (jt_n 740 (jt_l 739 (.inl (jo_c 740 (nI 0)))) (jt_l 740 (.inr (.inr 2))))) (jt_n 742 (jt_l 741 (.inl (jo_al 742 1))) (jt_n 743 (jt_l 742 (.inl (jo_al 743 0))) (jt_l 743 (.inl (jo_il 744 3)))))))))) (jt_n 819 (jt_n 781 (jt_n 761 (jt_n 751 (jt_n 746 (jt_n 745 (jt_l 744 (.inl (jo_c 745 (nI 1)))) (jt_l 745 (.inl (jo_b 746 (fun x y => x + y))))) (jt_n 747 (jt_l 746 (.inl (jo_sa 747))) (jt_n 750 (jt_l 747 (.inl (jo_if 750 754 (fun x => decide (x = 0))))) (jt_l 750 (.inl (jo_c 751 (nI 1))))))) (jt_n 758 (jt_n 754 (jt_l 751 (.inl (jo_go 755))) (jt_n 755 (jt_l 754 (.inl (jo_c 755 (nI 0)))) (jt_l 755 (.inr (.inl (103, 2, 758, some 11)))))) (jt_n 759 (jt_l 758 (.inl (jo_al 759 2))) (jt_n 760 (jt_l 759 (.inl (jo_al 760 0))) (jt_l 760 (.inl (jo_il 761 3))))))) (jt_n 771 (jt_n 764 (jt_n 762 (jt_l 761 (.inl (jo_c 762 (nI 1)))) (jt_n 763 (jt_l 762 (.inl (jo_b 763 (fun x y => x + y)))) (jt_l 763 (.inl (jo_sa 764))))) (jt_n 767 (jt_l 764 (.inl (jo_if 767 771 (fun x => decide (x = 0))))) (jt_n 768 (jt_l 767 (.inl (jo_c 768 (nI 1)))) (jt_l 768 (.inl (jo_go 772)))))) (jt_n 778 (jt_n 772 (jt_l 771 (.inl (jo_c 772 (nI 0)))) (jt_n 775 (jt_l 772 (.inr (.inl (170, 2, 775, some 12)))) (jt_l 775 (.inl (jo_ic 778 1150 (fun x y => decide (x = y))))))) (jt_n 779 (jt_l 778 (.inl (jo_c 779 (nI 0)))) (jt_n 780 (jt_l 779 (.inr (.inr 2))) (jt_l 780 (.inl (jo_al 781 1)))))))) (jt_n 799 (jt_n 789 (jt_n 784 (jt_n 782 (jt_l 781 (.inl (jo_al 782 0))) (jt_n 783 (jt_l 782 (.inl (jo_il 783 3))) (jt_l 783 (.inl (jo_c 784 (nI 1)))))) (jt_n 785 (jt_l 784 (.inl (jo_b 785 (fun x y => x + y)))) (jt_n 786 (jt_l 785 (.inl (jo_sa 786))) (jt_l 786 (.inl (jo_if 789 793 (fun x => decide (x = 0)))))))) (jt_n 794 (jt_n 790 (jt_l 789 (.inl (jo_c 790 (nI 1)))) (jt_n 793 (jt_l 790 (.inl (jo_go 794))) (jt_l 793 (.inl (jo_c 794 (nI 0)))))) (jt_n 797 (jt_l 794 (.inr (.inl (104, 2, 797, some 11)))) (jt_n 798 (jt_l 797 (.inl (jo_al 798 2))) (jt_l 798 (.inl (jo_al 799 0))))))) (jt_n 807 (jt_n 802 (jt_n 800 (jt_l 799 (.inl (jo_il 800 3))) (jt_n 801 (jt_l 800 (.inl (jo_c 801 (nI 1)))) (jt_l 801 (.inl (jo_b 802 (fun x y => x + y)))))) (jt_n 803 (jt_l 802 (.inl (jo_sa 803))) (jt_n 806 (jt_l 803 (.inl (jo_if 806 810 (fun x => decide (x = 0))))) (jt_l 806 (.inl (jo_c 807 (nI 1))))))) (jt_n 814 (jt_n 810 (jt_l 807 (.inl (jo_go 811))) (jt_n 811 (jt_l 810 (.inl (jo_c 811 (nI 0)))) (jt_l 811 (.inr (.inl (171, 2, 814, some 12)))))) (jt_n 817 (jt_l 814 (.inl (jo_ic 817 1150 (fun x y => decide (x = y))))) (jt_n 818 (jt_l 817 (.inl (jo_c 818 (nI 0)))) (jt_l 818 (.inr (.inr 2))))))))) (jt_n 857 (jt_n 837 (jt_n 825 (jt_n 822 (jt_n 820 (jt_l 819 (.inl (jo_al 820 1))) (jt_n 821 (jt_l 820 (.inl (jo_al 821 0))) (jt_l 821 (.inl (jo_il 822 3))))) (jt_n 823 (jt_l 822 (.inl (jo_c 823 (nI 1)))) (jt_n 824 (jt_l 823 (.inl (jo_b 824 (fun x y => x + y)))) (jt_l 824 (.inl (jo_sa 825)))))) (jt_n 832 (jt_n 828 (jt_l 825 (.inl (jo_if 828 832 (fun x => decide (x = 0))))) (jt_n 829 (jt_l 828 (.inl (jo_c 829 (nI 1)))) (jt_l 829 (.inl (jo_go 833))))) (jt_n 833 (jt_l 832 (.inl (jo_c 833 (nI 0)))) (jt_n 836 (jt_l 833 (.inr (.inl (105, 2, 836, some 11)))) (jt_l 836 (.inl (jo_al 837 2))))))) (jt_n 845 (jt_n 840 (jt_n 838 (jt_l 837 (.inl (jo_al 838 0))) (jt_n 839 (jt_l 838 (.inl (jo_il 839 3))) (jt_l 839 (.inl (jo_c 840 (nI 1)))))) (jt_n 841 (jt_l 840 (.inl (jo_b 841 (fun x y => x + y)))) (jt_n 842 (jt_l 841 (.inl (jo_sa 842))) (jt_l 842 (.inl (jo_if 845 849 (fun x => decide (x = 0)))))))) (jt_n 850 (jt_n 846 (jt_l 845 (.inl (jo_c 846 (nI 1)))) (jt_n 849 (jt_l 846 (.inl (jo_go 850))) (jt_l 849 (.inl (jo_c 850 (nI 0)))))) (jt_n 853 (jt_l 850 (.inr (.inl (173, 2, 853, some 12)))) (jt_n 856 (jt_l 853 (.inl (jo_ic 856 1150 (fun x y => decide (x = y))))) (jt_l 856 (.inl (jo_c 857 (nI 0))))))))) (jt_n 871 (jt_n 863 (jt_n 860 (jt_n 858 (jt_l 857 (.inr (.inr 2))) (jt_n 859 (jt_l 858 (.inl (jo_al 859 1))) (jt_l 859 (.inl (jo_al 860 0))))) (jt_n 861 (jt_l 860 (.inl (jo_il 861 3))) (jt_n 862 (jt_l 861 (.inl (jo_c 862 (nI 1)))) (jt_l 862 (.inl (jo_b 863 (fun x y => x + y))))))) (jt_n 868 (jt_n 864 (jt_l 863 (.inl (jo_sa 864))) (jt_n 867 (jt_l 864 (.inr (.inl (106, 2, 867, some 11)))) (jt_l 867 (.inl (jo_al 868 2))))) (jt_n 869 (jt_l 868 (.inl (jo_al 869 0))) (jt_n 870 (jt_l 869 (.inl (jo_il 870 3))) (jt_l 870 (.inl (jo_c 871 (nI 1)))))))) (jt_n 881 (jt_n 876 (jt_n 872 (jt_l 871 (.inl (jo_b 872 (fun x y => x + y)))) (jt_n 873 (jt_l 872 (.inl (jo_sa 873))) (jt_l 873 (.inr (.inl (175, 2, 876, some 12)))))) (jt_n 879 (jt_l 876 (.inl (jo_ic 879 1150 (fun x y => decide (x = y))))) (jt_n 880 (jt_l 879 (.inl (jo_c 880 (nI 0)))) (jt_l 880 (.inr (.inr 2)))))) (jt_n 884 (jt_n 882 (jt_l 881 (.inl (jo_al 882 1))) (jt_n 883 (jt_l 882 (.inl (jo_al 883 0))) (jt_l 883 (.inl (jo_il 884 3))))) (jt_n 885 (jt_l 884 (.inl (jo_c 885 (nI 1)))) (jt_n 886 (jt_l 885 (.inl (jo_b 886 (fun x y => x + y)))) (jt_l 886 (.inl (jo_sa 887))))))))))) (jt_n 1025 (jt_n 958 (jt_n 928 (jt_n 904 (jt_n 894 (jt_n 891 (jt_n 890 (jt_l 887 (.inr (.inl (107, 2, 890, some 11)))) (jt_l 890 (.inl (jo_al 891 2)))) (jt_n 892 (jt_l 891 (.inl (jo_al 892 0))) (jt_n 893 (jt_l 892 (.inl (jo_il 893 3))) (jt_l 893 (.inl (jo_c 894 (nI 1))))))) (jt_n 899 (jt_n 895 (jt_l 894 (.inl (jo_b 895 (fun x y => x + y)))) (jt_n 896 (jt_l 895 (.inl (jo_sa 896))) (jt_l 896 (.inr (.inl (179, 2, 899, some 12)))))) (jt_n 902 (jt_l 899 (.inl (jo_ic 902 1150 (fun x y => decide (x = y))))) (jt_n 903 (jt_l 902 (.inl (jo_c 903 (nI 0)))) (jt_l 903 (.inr (.inr 2))))))) (jt_n 916 (jt_n 909 (jt_n 905 (jt_l 904 (.inl (jo_al 905 1))) (jt_n 908 (jt_l 905 (.inr (.inl (108, 1, 908, some 11)))) (jt_l 908 (.inl (jo_al 909 2))))) (jt_n 912 (jt_l 909 (.inr (.inl (180, 1, 912, some 12)))) (jt_n 915 (jt_l 912 (.inl (jo_ic 915 1150 (fun x y => decide (x = y))))) (jt_l 915 (.inl (jo_c 916 (nI 0))))))) (jt_n 921 (jt_n 917 (jt_l 916 (.inr (.inr 2))) (jt_n 918 (jt_l 917 (.inl (jo_al 918 1))) (jt_l 918 (.inr (.inl (109, 1, 921, some 11)))))) (jt_n 922 (jt_l 921 (.inl (jo_al 922 2))) (jt_n 925 (jt_l 922 (.inr (.inl (182, 1, 925, some 12)))) (jt_l 925 (.inl (jo_ic 928 1150 (fun x y => decide (x = y)))))))))) (jt_n 942 (jt_n 934 (jt_n 931 (jt_n 929 (jt_l 928 (.inl (jo_c 929 (nI 0)))) (jt_n 930 (jt_l 929 (.inr (.inr 2))) (jt_l 930 (.inl (jo_al 931 1))))) (jt_n 932 (jt_l 931 (.inl (jo_al 932 0))) (jt_n 933 (jt_l 932 (.inl (jo_il 933 3))) (jt_l 933 (.inl (jo_c 934 (nI 1))))))) (jt_n 939 (jt_n 935 (jt_l 934 (.inl (jo_b 935 (fun x y => x + y)))) (jt_n 936 (jt_l 935 (.inl (jo_sa 936))) (jt_l 936 (.inr (.inl (110, 2, 939, some 11)))))) (jt_n 940 (jt_l 939 (.inl (jo_al 940 2))) (jt_n 941 (jt_l 940 (.inl (jo_al 941 0))) (jt_l 941 (.inl (jo_il 942 3))))))) (jt_n 952 (jt_n 945 (jt_n 943 (jt_l 942 (.inl (jo_c 943 (nI 1)))) (jt_n 944 (jt_l 943 (.inl (jo_b 944 (fun x y => x + y)))) (jt_l 944 (.inl (jo_sa 945))))) (jt_n 948 (jt_l 945 (.inr (.inl (183, 2, 948, some 12)))) (jt_n 951 (jt_l 948 (.inl (jo_ic 951 1150 (fun x y => decide (x = y))))) (jt_l 951 (.inl (jo_c 952 (nI 0))))))) (jt_n 955 (jt_n 953 (jt_l 952 (.inr (.inr 2))) (jt_n 954 (jt_l 953 (.inl (jo_al 954 1))) (jt_l 954 (.inl (jo_al 955 0))))) (jt_n 956 (jt_l 955 (.inl (jo_il 956 3))) (jt_n 957 (jt_l 956 (.inl (jo_c 957 (nI 1)))) (jt_l 957 (.inl (jo_b 958 (fun x y => x + y)))))))))) (jt_n 993 (jt_n 975 (jt_n 965 (jt_n 962 (jt_n 959 (jt_l 958 (.inl (jo_sa 959))) (jt_l 959 (.inr (.inl (111, 2, 962, some 11))))) (jt_n 963 (jt_l 962 (.inl (jo_al 963 2))) (jt_n 964 (jt_l 963 (.inl (jo_al 964 0))) (jt_l 964 (.inl (jo_il 965 3)))))) (jt_n 968 (jt_n 966 (jt_l 965 (.inl (jo_c 966 (nI 1)))) (jt_n 967 (jt_l 966 (.inl (jo_b 967 (fun x y => x + y)))) (jt_l 967 (.inl (jo_sa 968))))) (jt_n 971 (jt_l 968 (.inr (.inl (185, 2, 971, some 12)))) (jt_n 974 (jt_l 971 (.inl (jo_ic 974 1150 (fun x y => decide (x = y))))) (jt_l 974 (.inl (jo_c 975 (nI 0)))))))) (jt_n 987 (jt_n 980 (jt_n 976 (jt_l 975 (.inr (.inr 2))) (jt_n 977 (jt_l 976 (.inl (jo_al 977 1))) (jt_l 977 (.inr (.inl (112, 1, 980, some 11)))))) (jt_n 981 (jt_l 980 (.inl (jo_al 981 2))) (jt_n 984 (jt_l 981 (.inr (.inl (186, 1, 984, some 12)))) (jt_l 984 (.inl (jo_ic 987 1150 (fun x y => decide (x = y)))))))) (jt_n 990 (jt_n 988 (jt_l 987 (.inl (jo_c 988 (nI 0)))) (jt_n 989 (jt_l 988 (.inr (.inr 2))) (jt_l 989 (.inl (jo_al 990 1))))) (jt_n 991 (jt_l 990 (.inl (jo_al 991 0))) (jt_n 992 (jt_l 991 (.inl (jo_il 992 3))) (jt_l 992 (.inl (jo_c 993 (nI 1))))))))) (jt_n 1011 (jt_n 1001 (jt_n 998 (jt_n 994 (jt_l 993 (.inl (jo_b 994 (fun x y => x + y)))) (jt_n 995 (jt_l 994 (.inl (jo_sa 995))) (jt_l 995 (.inr (.inl (113, 2, 998, some 11)))))) (jt_n 999 (jt_l 998 (.inl (jo_al 999 2))) (jt_n 1000 (jt_l 999 (.inl (jo_al 1000 0))) (jt_l 1000 (.inl (jo_il 1001 3)))))) (jt_n 1004 (jt_n 1002 (jt_l 1001 (.inl (jo_c 1002 (nI 1)))) (jt_n 1003 (jt_l 1002 (.inl (jo_b 1003 (fun x y => x + y)))) (jt_l 1003 (.inl (jo_sa 1004))))) (jt_n 1007 (jt_l 1004 (.inr (.inl (187, 2, 1007, some 12)))) (jt_n 1010 (jt_l 1007 (.inl (jo_ic 1010 1150 (fun x y => decide (x = y))))) (jt_l 1010 (.inl (jo_c 1011 (nI 0)))))))) (jt_n 1017 (jt_n 1014 (jt_n 1012 (jt_l 1011 (.inr (.inr 2))) (jt_n 1013 (jt_l 1012 (.inl (jo_al 1013 1))) (jt_l 1013 (.inl (jo_al 1014 0))))) (jt_n 1015 (jt_l 1014 (.inl (jo_il 1015 3))) (jt_n 1016 (jt_l 1015 (.inl (jo_c 1016 (nI 1)))) (jt_l 1016 (.inl (jo_b 1017 (fun x y => x + y))))))) (jt_n 1022 (jt_n 1018 (jt_l 1017 (.inl (jo_sa 1018))) (jt_n 1021 (jt_l 1018 (.inr (.inl (114, 2, 1021, some 11)))) (jt_l 1021 (.inl (jo_al 1022 2))))) (jt_n 1023 (jt_l 1022 (.inl (jo_al 1023 0))) (jt_n 1024 (jt_l 1023 (.inl (jo_il 1024 3))) (jt_l 1024 (.inl (jo_c 1025 (nI 1))))))))))) (jt_n 1086 (jt_n 1058 (jt_n 1040 (jt_n 1034 (jt_n 1027 (jt_n 1026 (jt_l 1025 (.inl (jo_b 1026 (fun x y => x + y)))) (jt_l 1026 (.inl (jo_sa 1027)))) (jt_n 1030 (jt_l 1027 (.inr (.inl (189, 2, 1030, some 12)))) (jt_n 1033 (jt_l 1030 (.inl (jo_ic 1033 1150 (fun x y => decide (x = y))))) (jt_l 1033 (.inl (jo_c 1034 (nI 0))))))) (jt_n 1037 (jt_n 1035 (jt_l 1034 (.inr (.inr 2))) (jt_n 1036 (jt_l 1035 (.inl (jo_al 1036 1))) (jt_l 1036 (.inl (jo_al 1037 0))))) (jt_n 1038 (jt_l 1037 (.inl (jo_il 1038 3))) (jt_n 1039 (jt_l 1038 (.inl (jo_c 1039 (nI 1)))) (jt_l 1039 (.inl (jo_b 1040 (fun x y => x + y)))))))) (jt_n 1048 (jt_n 1045 (jt_n 1041 (jt_l 1040 (.inl (jo_sa 1041))) (jt_n 1044 (jt_l 1041 (.inr (.inl (115, 2, 1044, some 11)))) (jt_l 1044 (.inl (jo_al 1045 2))))) (jt_n 1046 (jt_l 1045 (.inl (jo_al 1046 0))) (jt_n 1047 (jt_l 1046 (.inl (jo_il 1047 3))) (jt_l 1047 (.inl (jo_c 1048 (nI 1))))))) (jt_n 1053 (jt_n 1049 (jt_l 1048 (.inl (jo_b 1049 (fun x y => x + y)))) (jt_n 1050 (jt_l 1049 (.inl (jo_sa 1050))) (jt_l 1050 (.inr (.inl (190, 2, 1053, some 12)))))) (jt_n 1056 (jt_l 1053 (.inl (jo_ic 1056 1150 (fun x y => decide (x = y))))) (jt_n 1057 (jt_l 1056 (.inl (jo_c 1057 (nI 0)))) (jt_l 1057 (.inr (.inr 2)))))))) (jt_n 1072 (jt_n 1064 (jt_n 1061 (jt_n 1059 (jt_l 1058 (.inl (jo_al 1059 1))) (jt_n 1060 (jt_l 1059 (.inl (jo_al 1060 0))) (jt_l 1060 (.inl (jo_il 1061 3))))) (jt_n 1062 (jt_l 1061 (.inl (jo_c 1062 (nI 1)))) (jt_n 1063 (jt_l 1062 (.inl (jo_b 1063 (fun x y => x + y)))) (jt_l 1063 (.inl (jo_sa 1064)))))) (jt_n 1067 (jt_n 1065 (jt_l 1064 (.inl (jo_al 1065 0))) (jt_n 1066 (jt_l 1065 (.inl (jo_il 1066 3))) (jt_l 1066 (.inl (jo_c 1067 (nI 2)))))) (jt_n 1068 (jt_l 1067 (.inl (jo_b 1068 (fun x y => x + y)))) (jt_n 1069 (jt_l 1068 (.inl (jo_sa 1069))) (jt_l 1069 (.inr (.inl (116, 3, 1072, some 11)))))))) (jt_n 1078 (jt_n 1075 (jt_n 1073 (jt_l 1072 (.inl (jo_al 1073 2))) (jt_n 1074 (jt_l 1073 (.inl (jo_al 1074 0))) (jt_l 1074 (.inl (jo_il 1075 3))))) (jt_n 1076 (jt_l 1075 (.inl (jo_c 1076 (nI 1)))) (jt_n 1077 (jt_l 1076 (.inl (jo_b 1077 (fun x y => x + y)))) (jt_l 1077 (.inl (jo_sa 1078)))))) (jt_n 1081 (jt_n 1079 (jt_l 1078 (.inl (jo_al 1079 0))) (jt_n 1080 (jt_l 1079 (.inl (jo_il 1080 3))) (jt_l 1080 (.inl (jo_c 1081 (nI 2)))))) (jt_n 1082 (jt_l 1081 (.inl (jo_b 1082 (fun x y => x + y)))) (jt_n 1083 (jt_l 1082 (.inl (jo_sa 1083))) (jt_l 1083 (.inr (.inl (192, 3, 1086, some 12)))))))))) (jt_n 1122 (jt_n 1102 (jt_n 1094 (jt_n 1091 (jt_n 1089 (jt_l 1086 (.inl (jo_ic 1089 1150 (fun x y => decide (x = y))))) (jt_n 1090 (jt_l 1089 (.inl (jo_c 1090 (nI 0)))) (jt_l 1090 (.inr (.inr 2))))) (jt_n 1092 (jt_l 1091 (.inl (jo_al 1092 1))) (jt_n 1093 (jt_l 1092 (.inl (jo_al 1093 0))) (jt_l 1093 (.inl (jo_il 1094 3)))))) (jt_n 1097 (jt_n 1095 (jt_l 1094 (.inl (jo_c 1095 (nI 1)))) (jt_n 1096 (jt_l 1095 (.inl (jo_b 1096 (fun x y => x + y)))) (jt_l 1096 (.inl (jo_sa 1097))))) (jt_n 1100 (jt_l 1097 (.inr (.inl (117, 2, 1100, some 11)))) (jt_n 1101 (jt_l 1100 (.inl (jo_al 1101 2))) (jt_l 1101 (.inl (jo_al 1102 0))))))) (jt_n 1112 (jt_n 1105 (jt_n 1103 (jt_l 1102 (.inl (jo_il 1103 3))) (jt_n 1104 (jt_l 1103 (.inl (jo_c 1104 (nI 1)))) (jt_l 1104 (.inl (jo_b 1105 (fun x y => x + y)))))) (jt_n 1106 (jt_l 1105 (.inl (jo_sa 1106))) (jt_n 1109 (jt_l 1106 (.inr (.inl (195, 2, 1109, some 12)))) (jt_l 1109 (.inl (jo_ic 1112 1150 (fun x y => decide (x = y)))))))) (jt_n 1115 (jt_n 1113 (jt_l 1112 (.inl (jo_c 1113 (nI 0)))) (jt_n 1114 (jt_l 1113 (.inr (.inr 2))) (jt_l 1114 (.inl (jo_al 1115 1))))) (jt_n 1118 (jt_l 1115 (.inr (.inl (118, 1, 1118, some 11)))) (jt_n 1119 (jt_l 1118 (.inl (jo_al 1119 2))) (jt_l 1119 (.inr (.inl (137, 1, 1122, some 12))))))))) (jt_n 1138 (jt_n 1130 (jt_n 1127 (jt_n 1125 (jt_l 1122 (.inl (jo_ic 1125 1150 (fun x y => decide (x = y))))) (jt_n 1126 (jt_l 1125 (.inl (jo_c 1126 (nI 0)))) (jt_l 1126 (.inr (.inr 2))))) (jt_n 1128 (jt_l 1127 (.inl (jo_al 1128 1))) (jt_n 1129 (jt_l 1128 (.inl (jo_al 1129 0))) (jt_l 1129 (.inl (jo_il 1130 3)))))) (jt_n 1133 (jt_n 1131 (jt_l 1130 (.inl (jo_c 1131 (nI 1)))) (jt_n 1132 (jt_l 1131 (.inl (jo_b 1132 (fun x y => x + y)))) (jt_l 1132 (.inl (jo_sa 1133))))) (jt_n 1136 (jt_l 1133 (.inr (.inl (119, 2, 1136, some 11)))) (jt_n 1137 (jt_l 1136 (.inl (jo_al 1137 2))) (jt_l 1137 (.inl (jo_al 1138 0))))))) (jt_n 1148 (jt_n 1141 (jt_n 1139 (jt_l 1138 (.inl (jo_il 1139 3))) (jt_n 1140 (jt_l 1139 (.inl (jo_c 1140 (nI 1)))) (jt_l 1140 (.inl (jo_b 1141 (fun x y => x + y)))))) (jt_n 1142 (jt_l 1141 (.inl (jo_sa 1142))) (jt_n 1145 (jt_l 1142 (.inr (.inl (196, 2, 1145, some 12)))) (jt_l 1145 (.inl (jo_ic 1148 1150 (fun x y => decide (x = y)))))))) (jt_n 1153 (jt_n 1149 (jt_l 1148 (.inl (jo_c 1149 (nI 0)))) (jt_n 1150 (jt_l 1149 (.inr (.inr 2))) (jt_l 1150 (.inl (jo_inc 1153 4 3 (nI 6)))))) (jt_n 1156 (jt_l 1153 (.inl (jo_go 18))) (jt_n 1157 (jt_l 1156 (.inl (jo_c 1157 (nI 1)))) (jt_l 1157 (.inr (.inr 2)))))))))))))
/-- what the tables have of each, and its code -/
def jxA : Nat → jsM × Nat × (Nat → Option jxI) := (jt_n 100 (jt_n 50 (jt_n 25 (jt_n 12 (jt_n 6 (jt_n 3 (jt_n 1 (jt_c ((yX0_init, cX0_init, 3, none), 3, jc_0)) (jt_n 2 (jt_c ((yX0_forget, cX0_forget, 1, none), 1, jc_1)) (jt_c ((yX0_leastBits, cX0_leastBits, 3, (some .int)), 3, jc_2)))) (jt_n 4 (jt_c ((yX0_fewestEnds, cX0_fewestEnds, 3, (some .int)), 3, jc_3)) (jt_n 5 (jt_c ((yX0_learn, cX0_learn, 3, none), 3, jc_4)) (jt_c ((yX0_learnBlock, cX0_learnBlock, 4, none), 4, jc_5))))) (jt_n 9 (jt_n 7 (jt_c ((yX0_tryPartings, cX0_tryPartings, 9, none), 9, jc_6)) (jt_n 8 (jt_c ((yX0_bestParting, cX0_bestParting, 6, (some .int)), 6, jc_7)) (jt_c ((yX0_firstBest, cX0_firstBest, 7, (some .int)), 7, jc_8)))) (jt_n 10 (jt_c ((yX0_fewestClasses, cX0_fewestClasses, 7, (some .int)), 7, jc_9)) (jt_n 11 (jt_c ((yX0_isPeaceful, cX0_isPeaceful, 5, (some .boolean)), 5, jc_10)) (jt_c ((yX1_init, cX1_init, 2, none), 2, jc_11)))))) (jt_n 18 (jt_n 15 (jt_n 13 (jt_c ((yX1_push, cX1_push, 2, none), 2, jc_12)) (jt_n 14 (jt_c ((yX1_pop, cX1_pop, 2, none), 2, jc_13)) (jt_c ((yX2_init, cX2_init, 3, none), 3, jc_14)))) (jt_n 16 (jt_c ((yX2_take, cX2_take, 2, none), 2, jc_15)) (jt_n 17 (jt_c ((yX2_judgeTalk, cX2_judgeTalk, 1, (some .int)), 1, jc_16)) (jt_c ((yX2_isRight, cX2_isRight, 9, (some .boolean)), 9, jc_17))))) (jt_n 21 (jt_n 19 (jt_c ((yX2_endIsRight, cX2_endIsRight, 5, (some .boolean)), 5, jc_18)) (jt_n 20 (jt_c ((yX2_judgeFooling, cX2_judgeFooling, 3, (some .int)), 3, jc_19)) (jt_c ((yX2_liesWithEarlier, cX2_liesWithEarlier, 3, (some .boolean)), 3, jc_20)))) (jt_n 23 (jt_n 22 (jt_c ((yX3_init, cX3_init, 1, none), 1, jc_21)) (jt_c ((yX3_isReordered, cX3_isReordered, 4, (some .boolean)), 4, jc_22))) (jt_n 24 (jt_c ((yX3_matchRest, cX3_matchRest, 5, (some .boolean)), 5, jc_23)) (jt_c ((yX3_addRow, cX3_addRow, 5, none), 5, jc_24))))))) (jt_n 37 (jt_n 31 (jt_n 28 (jt_n 26 (jt_c ((yX3_haveSameColumns, cX3_haveSameColumns, 6, (some .boolean)), 6, jc_25)) (jt_n 27 (jt_c ((yX3_findFree, cX3_findFree, 5, (some .int)), 5, jc_26)) (jt_c ((yX4_init, cX4_init, 1, none), 1, jc_27)))) (jt_n 29 (jt_c ((yX4_read, cX4_read, 4, none), 4, jc_28)) (jt_n 30 (jt_c ((yX4_readRow, cX4_readRow, 7, none), 7, jc_29)) (jt_c ((yX4_hasBlock, cX4_hasBlock, 3, (some .boolean)), 3, jc_30))))) (jt_n 34 (jt_n 32 (jt_c ((yX4_isEven, cX4_isEven, 3, (some .boolean)), 3, jc_31)) (jt_n 33 (jt_c ((yX4_columnsWith, cX4_columnsWith, 3, (some .int)), 3, jc_32)) (jt_c ((yX4_areInOneEvenBlock, cX4_areInOneEvenBlock, 5, (some .boolean)), 5, jc_33)))) (jt_n 35 (jt_c ((yX5_init, cX5_init, 5, none), 5, jc_34)) (jt_n 36 (jt_c ((yX6_init, cX6_init, 4, none), 4, jc_35)) (jt_c ((yX6_forget, cX6_forget, 1, none), 1, jc_36)))))) (jt_n 43 (jt_n 40 (jt_n 38 (jt_c ((yX6_greatestDifference, cX6_greatestDifference, 5, (some .int)), 5, jc_37)) (jt_n 39 (jt_c ((yX6_leastLoss, cX6_leastLoss, 4, (some .int)), 4, jc_38)) (jt_c ((yX6_weighBlocks, cX6_weighBlocks, 3, none), 3, jc_39)))) (jt_n 41 (jt_c ((yX6_weighBlock, cX6_weighBlock, 7, none), 7, jc_40)) (jt_n 42 (jt_c ((yX6_addUp, cX6_addUp, 4, none), 4, jc_41)) (jt_c ((yX6_allowOneBitMore, cX6_allowOneBitMore, 4, none), 4, jc_42))))) (jt_n 46 (jt_n 44 (jt_c ((yX6_tryPartings, cX6_tryPartings, 8, none), 8, jc_43)) (jt_n 45 (jt_c ((yX7_init, cX7_init, 3, none), 3, jc_44)) (jt_c ((yX7_greatestFooling, cX7_greatestFooling, 4, (some .int)), 4, jc_45)))) (jt_n 48 (jt_n 47 (jt_c ((yX7_placesThatAre, cX7_placesThatAre, 4, (some .int)), 4, jc_46)) (jt_c ((yX7_placesApart, cX7_placesApart, 5, (some .int)), 5, jc_47))) (jt_n 49 (jt_c ((yX7_choose, cX7_choose, 8, none), 8, jc_48)) (jt_c ((yX7_fewestToCover, cX7_fewestToCover, 2, (some .int)), 2, jc_49)))))))) (jt_n 75 (jt_n 62 (jt_n 56 (jt_n 53 (jt_n 51 (jt_c ((yX7_countRowsWith, cX7_countRowsWith, 4, (some .int)), 4, jc_50)) (jt_n 52 (jt_c ((yX7_listGreatestBlocks, cX7_listGreatestBlocks, 4, none), 4, jc_51)) (jt_c ((yX7_rowsWithout, cX7_rowsWithout, 5, (some .int)), 5, jc_52)))) (jt_n 54 (jt_c ((yX7_coverRest, cX7_coverRest, 5, none), 5, jc_53)) (jt_n 55 (jt_c ((yX7_placesOf, cX7_placesOf, 5, (some .int)), 5, jc_54)) (jt_c ((yX8_init, cX8_init, 1, none), 1, jc_55))))) (jt_n 59 (jt_n 57 (jt_c ((yX8_isMissing, cX8_isMissing, 1, (some .boolean)), 1, jc_56)) (jt_n 58 (jt_c ((yX8_reset, cX8_reset, 3, none), 3, jc_57)) (jt_c ((yX8_set, cX8_set, 3, none), 3, jc_58)))) (jt_n 60 (jt_c ((yX8_hasRun, cX8_hasRun, 3, (some .boolean)), 3, jc_59)) (jt_n 61 (jt_c ((yX8_holdsPlaces, cX8_holdsPlaces, 2, (some .boolean)), 2, jc_60)) (jt_c ((yX9_init, cX9_init, 3, none), 3, jc_61)))))) (jt_n 68 (jt_n 65 (jt_n 63 (jt_c ((yX9_forget, cX9_forget, 1, none), 1, jc_62)) (jt_n 64 (jt_c ((yX9_make, cX9_make, 1, none), 1, jc_63)) (jt_c ((yX9_grow, cX9_grow, 7, (some .int)), 7, jc_64)))) (jt_n 66 (jt_c ((yX9_tellOf, cX9_tellOf, 3, (some .int)), 3, jc_65)) (jt_n 67 (jt_c ((yX9_wordsFor, cX9_wordsFor, 8, (some .int)), 8, jc_66)) (jt_c ((yX10_init, cX10_init, 1, none), 1, jc_67))))) (jt_n 71 (jt_n 69 (jt_c ((yX10_size, cX10_size, 1, (some .int)), 1, jc_68)) (jt_n 70 (jt_c ((yX10_has, cX10_has, 3, (some .boolean)), 3, jc_69)) (jt_c ((yX10_clear, cX10_clear, 3, none), 3, jc_70)))) (jt_n 73 (jt_n 72 (jt_c ((yX10_become, cX10_become, 2, none), 2, jc_71)) (jt_c ((yX10_count, cX10_count, 5, (some .int)), 5, jc_72))) (jt_n 74 (jt_c ((yX10_findKind, cX10_findKind, 1, (some .int)), 1, jc_73)) (jt_c ((yX10_fillByRule, cX10_fillByRule, 4, none), 4, jc_74))))))) (jt_n 87 (jt_n 81 (jt_n 78 (jt_n 76 (jt_c ((yX10_byRule, cX10_byRule, 5, (some .int)), 5, jc_75)) (jt_n 77 (jt_c ((yX10_fillFrom, cX10_fillFrom, 5, none), 5, jc_76)) (jt_c ((yX10_swapSides, cX10_swapSides, 3, none), 3, jc_77)))) (jt_n 79 (jt_c ((yX10_swap, cX10_swap, 4, none), 4, jc_78)) (jt_n 80 (jt_c ((yX10_swapAnswers, cX10_swapAnswers, 4, none), 4, jc_79)) (jt_c ((yX10_countUnlike, cX10_countUnlike, 7, (some .int)), 7, jc_80))))) (jt_n 84 (jt_n 82 (jt_c ((yX10_areAlike, cX10_areAlike, 9, (some .boolean)), 9, jc_81)) (jt_n 83 (jt_c ((yX10_findRank, cX10_findRank, 7, (some .int)), 7, jc_82)) (jt_c ((yX10_findPivot, cX10_findPivot, 5, (some .int)), 5, jc_83)))) (jt_n 85 (jt_c ((yX10_clearBelow, cX10_clearBelow, 11, none), 11, jc_84)) (jt_n 86 (jt_c ((yX11_init, cX11_init, 2, none), 2, jc_85)) (jt_c ((yX11_table, cX11_table, 4, (some .int)), 4, jc_86)))))) (jt_n 93 (jt_n 90 (jt_n 88 (jt_c ((yX11_put, cX11_put, 6, (some .int)), 6, jc_87)) (jt_n 89 (jt_c ((yX11_place, cX11_place, 3, (some .int)), 3, jc_88)) (jt_c ((yX11_weigh, cX11_weigh, 6, (some .int)), 6, jc_89)))) (jt_n 91 (jt_c ((yX11_rule, cX11_rule, 2, (some .int)), 2, jc_90)) (jt_n 92 (jt_c ((yX11_turn, cX11_turn, 1, (some .int)), 1, jc_91)) (jt_c ((yX11_turnAnswers, cX11_turnAnswers, 1, (some .int)), 1, jc_92))))) (jt_n 96 (jt_n 94 (jt_c ((yX11_unlike, cX11_unlike, 2, (some .int)), 2, jc_93)) (jt_n 95 (jt_c ((yX11_sheet, cX11_sheet, 5, (some .int)), 5, jc_94)) (jt_c ((yX11_write, cX11_write, 4, (some .int)), 4, jc_95)))) (jt_n 98 (jt_n 97 (jt_c ((yX11_copy, cX11_copy, 8, (some .int)), 8, jc_96)) (jt_c ((yX11_lay, cX11_lay, 3, (some .int)), 3, jc_97))) (jt_n 99 (jt_c ((yX11_bits, cX11_bits, 3, (some .int)), 3, jc_98)) (jt_c ((yX11_ends, cX11_ends, 3, (some .int)), 3, jc_99))))))))) (jt_n 150 (jt_n 125 (jt_n 112 (jt_n 106 (jt_n 103 (jt_n 101 (jt_c ((yX11_talk, cX11_talk, 1, (some .int)), 1, jc_100)) (jt_n 102 (jt_c ((yX11_knot, cX11_knot, 3, (some .int)), 3, jc_101)) (jt_c ((yX11_said, cX11_said, 3, (some .int)), 3, jc_102)))) (jt_n 104 (jt_c ((yX11_classes, cX11_classes, 2, (some .int)), 2, jc_103)) (jt_n 105 (jt_c ((yX11_once, cX11_once, 4, (some .int)), 4, jc_104)) (jt_c ((yX11_rank, cX11_rank, 2, (some .int)), 2, jc_105))))) (jt_n 109 (jt_n 107 (jt_c ((yX11_fool, cX11_fool, 2, (some .int)), 2, jc_106)) (jt_n 108 (jt_c ((yX11_cover, cX11_cover, 2, (some .int)), 2, jc_107)) (jt_c ((yX11_part, cX11_part, 1, (some .int)), 1, jc_108)))) (jt_n 110 (jt_c ((yX11_swing, cX11_swing, 1, (some .int)), 1, jc_109)) (jt_n 111 (jt_c ((yX11_wrong, cX11_wrong, 2, (some .int)), 2, jc_110)) (jt_c ((yX11_tell, cX11_tell, 2, (some .int)), 2, jc_111)))))) (jt_n 118 (jt_n 115 (jt_n 113 (jt_c ((yX11_check, cX11_check, 2, (some .int)), 2, jc_112)) (jt_n 114 (jt_c ((yX11_fools, cX11_fools, 3, (some .int)), 3, jc_113)) (jt_c ((yX11_keep, cX11_keep, 2, (some .int)), 2, jc_114)))) (jt_n 116 (jt_c ((yX11_bring, cX11_bring, 2, (some .int)), 2, jc_115)) (jt_n 117 (jt_c ((yX11_as, cX11_as, 3, (some .int)), 3, jc_116)) (jt_c ((yX11_same, cX11_same, 2, (some .int)), 2, jc_117))))) (jt_n 121 (jt_n 119 (jt_c ((yX11_undo, cX11_undo, 1, (some .int)), 1, jc_118)) (jt_n 120 (jt_c ((yX11_told, cX11_told, 2, (some .int)), 2, jc_119)) (jt_c ((yX11_finding, cX11_finding, 2, (some .int)), 2, jc_120)))) (jt_n 123 (jt_n 122 (jt_c ((yX11_takeNewPlaces, cX11_takeNewPlaces, 1, none), 1, jc_121)) (jt_c ((yX11_noSheet, cX11_noSheet, 1, (some .boolean)), 1, jc_122))) (jt_n 124 (jt_c ((yX11_noSlot, cX11_noSlot, 1, (some .boolean)), 1, jc_123)) (jt_c ((yX11_isNoAnswer, cX11_isNoAnswer, 1, (some .boolean)), 1, jc_124))))))) (jt_n 137 (jt_n 131 (jt_n 128 (jt_n 126 (jt_c ((yX11_isUnder, cX11_isUnder, 2, (some .boolean)), 2, jc_125)) (jt_n 127 (jt_c ((yX11_memberOf, cX11_memberOf, 1, (some .int)), 1, jc_126)) (jt_c ((yX11_lowestOf, cX11_lowestOf, 1, (some .int)), 1, jc_127)))) (jt_n 129 (jt_c ((yX11_blockAt, cX11_blockAt, 2, (some .int)), 2, jc_128)) (jt_n 130 (jt_c ((yX12_init, cX12_init, 2, none), 2, jc_129)) (jt_c ((yX12_finding, cX12_finding, 2, (some .int)), 2, jc_130))))) (jt_n 134 (jt_n 132 (jt_c ((yX12_isPlace, cX12_isPlace, 3, (some .boolean)), 3, jc_131)) (jt_n 133 (jt_c ((yX12_in, cX12_in, 2, (some .boolean)), 2, jc_132)) (jt_c ((yX12_countOf, cX12_countOf, 3, (some .int)), 3, jc_133)))) (jt_n 135 (jt_c ((yX12_save, cX12_save, 4, none), 4, jc_134)) (jt_n 136 (jt_c ((yX12_load, cX12_load, 4, none), 4, jc_135)) (jt_c ((yX12_keepTask, cX12_keepTask, 2, none), 2, jc_136)))))) (jt_n 143 (jt_n 140 (jt_n 138 (jt_c ((yX12_undo, cX12_undo, 1, (some .int)), 1, jc_137)) (jt_n 139 (jt_c ((yX12_ones, cX12_ones, 5, (some .int)), 5, jc_138)) (jt_c ((yX12_table, cX12_table, 5, (some .int)), 5, jc_139)))) (jt_n 141 (jt_c ((yX12_put, cX12_put, 5, (some .int)), 5, jc_140)) (jt_n 142 (jt_c ((yX12_place, cX12_place, 3, (some .int)), 3, jc_141)) (jt_c ((yX12_weigh, cX12_weigh, 5, (some .int)), 5, jc_142))))) (jt_n 146 (jt_n 144 (jt_c ((yX12_rule, cX12_rule, 6, (some .int)), 6, jc_143)) (jt_n 145 (jt_c ((yX12_turn, cX12_turn, 4, (some .int)), 4, jc_144)) (jt_c ((yX12_turnAnswers, cX12_turnAnswers, 2, (some .int)), 2, jc_145)))) (jt_n 148 (jt_n 147 (jt_c ((yX12_at, cX12_at, 4, (some .int)), 4, jc_146)) (jt_c ((yX12_unlike, cX12_unlike, 9, (some .int)), 9, jc_147))) (jt_n 149 (jt_c ((yX12_isSheet, cX12_isSheet, 1, (some .boolean)), 1, jc_148)) (jt_c ((yX12_sheet, cX12_sheet, 5, (some .int)), 5, jc_149)))))))) (jt_n 175 (jt_n 162 (jt_n 156 (jt_n 153 (jt_n 151 (jt_c ((yX12_write, cX12_write, 4, (some .int)), 4, jc_150)) (jt_n 152 (jt_c ((yX12_hasPart, cX12_hasPart, 4, (some .boolean)), 4, jc_151)) (jt_c ((yX12_copy, cX12_copy, 7, (some .int)), 7, jc_152)))) (jt_n 154 (jt_c ((yX12_lay, cX12_lay, 3, (some .int)), 3, jc_153)) (jt_n 155 (jt_c ((yX12_all, cX12_all, 1, (some .int)), 1, jc_154)) (jt_c ((yX12_has, cX12_has, 5, (some .int)), 5, jc_155))))) (jt_n 159 (jt_n 157 (jt_c ((yX12_isEven, cX12_isEven, 2, (some .boolean)), 2, jc_156)) (jt_n 158 (jt_c ((yX12_isBlock, cX12_isBlock, 2, (some .boolean)), 2, jc_157)) (jt_c ((yX12_tellBlocks, cX12_tellBlocks, 4, none), 4, jc_158)))) (jt_n 160 (jt_c ((yX12_parted, cX12_parted, 5, (some .boolean)), 5, jc_159)) (jt_n 161 (jt_c ((yX12_takeBest, cX12_takeBest, 8, none), 8, jc_160)) (jt_c ((yX12_areSets, cX12_areSets, 3, (some .boolean)), 3, jc_161)))))) (jt_n 168 (jt_n 165 (jt_n 163 (jt_c ((yX12_bits, cX12_bits, 3, (some .int)), 3, jc_162)) (jt_n 164 (jt_c ((yX12_ends, cX12_ends, 3, (some .int)), 3, jc_163)) (jt_c ((yX12_reaches, cX12_reaches, 6, (some .boolean)), 6, jc_164)))) (jt_n 166 (jt_c ((yX12_parting, cX12_parting, 3, (some .int)), 3, jc_165)) (jt_n 167 (jt_c ((yX12_talk, cX12_talk, 6, (some .int)), 6, jc_166)) (jt_c ((yX12_knot, cX12_knot, 3, (some .int)), 3, jc_167))))) (jt_n 171 (jt_n 169 (jt_c ((yX12_said, cX12_said, 6, (some .int)), 6, jc_168)) (jt_n 170 (jt_c ((yX12_quarrel, cX12_quarrel, 6, (some .boolean)), 6, jc_169)) (jt_c ((yX12_classes, cX12_classes, 8, (some .int)), 8, jc_170)))) (jt_n 173 (jt_n 172 (jt_c ((yX12_once, cX12_once, 4, (some .int)), 4, jc_171)) (jt_c ((yX12_swapLines, cX12_swapLines, 6, none), 13, jc_172))) (jt_n 174 (jt_c ((yX12_rank, cX12_rank, 13, (some .int)), 27, jc_173)) (jt_c ((yX12_lieTogether, cX12_lieTogether, 4, (some .boolean)), 4, jc_174))))))) (jt_n 188 (jt_n 181 (jt_n 178 (jt_n 176 (jt_c ((yX12_fool, cX12_fool, 11, (some .int)), 11, jc_175)) (jt_n 177 (jt_c ((yX12_rowsFor, cX12_rowsFor, 7, (some .int)), 7, jc_176)) (jt_c ((yX12_placesOf, cX12_placesOf, 6, (some .int)), 6, jc_177)))) (jt_n 179 (jt_c ((yX12_covers, cX12_covers, 7, (some .boolean)), 7, jc_178)) (jt_n 180 (jt_c ((yX12_cover, cX12_cover, 5, (some .int)), 5, jc_179)) (jt_c ((yX12_part, cX12_part, 7, (some .int)), 7, jc_180))))) (jt_n 184 (jt_n 182 (jt_c ((yX12_weightOf, cX12_weightOf, 6, (some .int)), 6, jc_181)) (jt_n 183 (jt_c ((yX12_swing, cX12_swing, 4, (some .int)), 4, jc_182)) (jt_c ((yX12_wrong, cX12_wrong, 8, (some .int)), 8, jc_183)))) (jt_n 186 (jt_n 185 (jt_c ((yX12_lessWrong, cX12_lessWrong, 8, (some .int)), 8, jc_184)) (jt_c ((yX12_tell, cX12_tell, 2, (some .int)), 2, jc_185))) (jt_n 187 (jt_c ((yX12_check, cX12_check, 11, (some .int)), 11, jc_186)) (jt_c ((yX12_fools, cX12_fools, 7, (some .int)), 7, jc_187)))))) (jt_n 194 (jt_n 191 (jt_n 189 (jt_c ((yX12_isSlot, cX12_isSlot, 1, (some .boolean)), 1, jc_188)) (jt_n 190 (jt_c ((yX12_keep, cX12_keep, 2, (some .int)), 2, jc_189)) (jt_c ((yX12_bring, cX12_bring, 2, (some .int)), 2, jc_190)))) (jt_n 192 (jt_c ((yX12_slotPlace, cX12_slotPlace, 4, (some .int)), 4, jc_191)) (jt_n 193 (jt_c ((yX12_as, cX12_as, 7, (some .int)), 7, jc_192)) (jt_c ((yX12_lineOf, cX12_lineOf, 8, (some .int)), 8, jc_193))))) (jt_n 197 (jt_n 195 (jt_c ((yX12_orders, cX12_orders, 3, (some .int)), 3, jc_194)) (jt_n 196 (jt_c ((yX12_same, cX12_same, 6, (some .int)), 6, jc_195)) (jt_c ((yX12_told, cX12_told, 2, (some .int)), 2, jc_196)))) (jt_n 199 (jt_n 198 (jt_c ((yJ6_bitCount_0f7a4, cJ6_bitCount_0f7a4, 1, (some .int)), 1, jc_197)) (jt_c ((yJ7_fill_53178, cJ7_fill_53178, 4, none), 4, jc_198))) (jt_n 200 (jt_c ((yJ7_copyOf_59c91, cJ7_copyOf_59c91, 3, (some (.array .int))), 3, jc_199)) (jt_c ((yL_law, cL_law, 4, ret), 4, jc_200))))))))))
def jsI : Nat → jsM := fun M => (jxA M).1
def jxP : jxM := fun M => (jxA M).2
theorem ji_0 : jsI 0 = (yX0_init, cX0_init, 3, none) := rfl
theorem ji_1 : jsI 1 = (yX0_forget, cX0_forget, 1, none) := rfl
theorem ji_2 : jsI 2 = (yX0_leastBits, cX0_leastBits, 3, (some .int)) := rfl
theorem ji_3 : jsI 3 = (yX0_fewestEnds, cX0_fewestEnds, 3, (some .int)) := rfl
theorem ji_4 : jsI 4 = (yX0_learn, cX0_learn, 3, none) := rfl
theorem ji_5 : jsI 5 = (yX0_learnBlock, cX0_learnBlock, 4, none) := rfl
theorem ji_6 : jsI 6 = (yX0_tryPartings, cX0_tryPartings, 9, none) := rfl
theorem ji_7 : jsI 7 = (yX0_bestParting, cX0_bestParting, 6, (some .int)) := rfl
theorem ji_8 : jsI 8 = (yX0_firstBest, cX0_firstBest, 7, (some .int)) := rfl
theorem ji_9 : jsI 9 = (yX0_fewestClasses, cX0_fewestClasses, 7, (some .int)) := rfl
theorem ji_10 : jsI 10 = (yX0_isPeaceful, cX0_isPeaceful, 5, (some .boolean)) := rfl
theorem ji_11 : jsI 11 = (yX1_init, cX1_init, 2, none) := rfl
theorem ji_12 : jsI 12 = (yX1_push, cX1_push, 2, none) := rfl
theorem ji_13 : jsI 13 = (yX1_pop, cX1_pop, 2, none) := rfl
theorem ji_14 : jsI 14 = (yX2_init, cX2_init, 3, none) := rfl
theorem ji_15 : jsI 15 = (yX2_take, cX2_take, 2, none) := rfl
theorem ji_16 : jsI 16 = (yX2_judgeTalk, cX2_judgeTalk, 1, (some .int)) := rfl
theorem ji_17 : jsI 17 = (yX2_isRight, cX2_isRight, 9, (some .boolean)) := rfl
theorem ji_18 : jsI 18 = (yX2_endIsRight, cX2_endIsRight, 5, (some .boolean)) := rfl
theorem ji_19 : jsI 19 = (yX2_judgeFooling, cX2_judgeFooling, 3, (some .int)) := rfl
theorem ji_20 : jsI 20 = (yX2_liesWithEarlier, cX2_liesWithEarlier, 3, (some .boolean)) := rfl
theorem ji_21 : jsI 21 = (yX3_init, cX3_init, 1, none) := rfl
theorem ji_22 : jsI 22 = (yX3_isReordered, cX3_isReordered, 4, (some .boolean)) := rfl
theorem ji_23 : jsI 23 = (yX3_matchRest, cX3_matchRest, 5, (some .boolean)) := rfl
theorem ji_24 : jsI 24 = (yX3_addRow, cX3_addRow, 5, none) := rfl
theorem ji_25 : jsI 25 = (yX3_haveSameColumns, cX3_haveSameColumns, 6, (some .boolean)) := rfl
theorem ji_26 : jsI 26 = (yX3_findFree, cX3_findFree, 5, (some .int)) := rfl
theorem ji_27 : jsI 27 = (yX4_init, cX4_init, 1, none) := rfl
theorem ji_28 : jsI 28 = (yX4_read, cX4_read, 4, none) := rfl
theorem ji_29 : jsI 29 = (yX4_readRow, cX4_readRow, 7, none) := rfl
theorem ji_30 : jsI 30 = (yX4_hasBlock, cX4_hasBlock, 3, (some .boolean)) := rfl
theorem ji_31 : jsI 31 = (yX4_isEven, cX4_isEven, 3, (some .boolean)) := rfl
theorem ji_32 : jsI 32 = (yX4_columnsWith, cX4_columnsWith, 3, (some .int)) := rfl
theorem ji_33 : jsI 33 = (yX4_areInOneEvenBlock, cX4_areInOneEvenBlock, 5, (some .boolean)) := rfl
theorem ji_34 : jsI 34 = (yX5_init, cX5_init, 5, none) := rfl
theorem ji_35 : jsI 35 = (yX6_init, cX6_init, 4, none) := rfl
theorem ji_36 : jsI 36 = (yX6_forget, cX6_forget, 1, none) := rfl
theorem ji_37 : jsI 37 = (yX6_greatestDifference, cX6_greatestDifference, 5, (some .int)) := rfl
theorem ji_38 : jsI 38 = (yX6_leastLoss, cX6_leastLoss, 4, (some .int)) := rfl
theorem ji_39 : jsI 39 = (yX6_weighBlocks, cX6_weighBlocks, 3, none) := rfl
theorem ji_40 : jsI 40 = (yX6_weighBlock, cX6_weighBlock, 7, none) := rfl
theorem ji_41 : jsI 41 = (yX6_addUp, cX6_addUp, 4, none) := rfl
theorem ji_42 : jsI 42 = (yX6_allowOneBitMore, cX6_allowOneBitMore, 4, none) := rfl
theorem ji_43 : jsI 43 = (yX6_tryPartings, cX6_tryPartings, 8, none) := rfl
theorem ji_44 : jsI 44 = (yX7_init, cX7_init, 3, none) := rfl
theorem ji_45 : jsI 45 = (yX7_greatestFooling, cX7_greatestFooling, 4, (some .int)) := rfl
theorem ji_46 : jsI 46 = (yX7_placesThatAre, cX7_placesThatAre, 4, (some .int)) := rfl
theorem ji_47 : jsI 47 = (yX7_placesApart, cX7_placesApart, 5, (some .int)) := rfl
theorem ji_48 : jsI 48 = (yX7_choose, cX7_choose, 8, none) := rfl
theorem ji_49 : jsI 49 = (yX7_fewestToCover, cX7_fewestToCover, 2, (some .int)) := rfl
theorem ji_50 : jsI 50 = (yX7_countRowsWith, cX7_countRowsWith, 4, (some .int)) := rfl
theorem ji_51 : jsI 51 = (yX7_listGreatestBlocks, cX7_listGreatestBlocks, 4, none) := rfl
theorem ji_52 : jsI 52 = (yX7_rowsWithout, cX7_rowsWithout, 5, (some .int)) := rfl
theorem ji_53 : jsI 53 = (yX7_coverRest, cX7_coverRest, 5, none) := rfl
theorem ji_54 : jsI 54 = (yX7_placesOf, cX7_placesOf, 5, (some .int)) := rfl
theorem ji_55 : jsI 55 = (yX8_init, cX8_init, 1, none) := rfl
theorem ji_56 : jsI 56 = (yX8_isMissing, cX8_isMissing, 1, (some .boolean)) := rfl
theorem ji_57 : jsI 57 = (yX8_reset, cX8_reset, 3, none) := rfl
theorem ji_58 : jsI 58 = (yX8_set, cX8_set, 3, none) := rfl
theorem ji_59 : jsI 59 = (yX8_hasRun, cX8_hasRun, 3, (some .boolean)) := rfl
theorem ji_60 : jsI 60 = (yX8_holdsPlaces, cX8_holdsPlaces, 2, (some .boolean)) := rfl
theorem ji_61 : jsI 61 = (yX9_init, cX9_init, 3, none) := rfl
theorem ji_62 : jsI 62 = (yX9_forget, cX9_forget, 1, none) := rfl
theorem ji_63 : jsI 63 = (yX9_make, cX9_make, 1, none) := rfl
theorem ji_64 : jsI 64 = (yX9_grow, cX9_grow, 7, (some .int)) := rfl
theorem ji_65 : jsI 65 = (yX9_tellOf, cX9_tellOf, 3, (some .int)) := rfl
theorem ji_66 : jsI 66 = (yX9_wordsFor, cX9_wordsFor, 8, (some .int)) := rfl
theorem ji_67 : jsI 67 = (yX10_init, cX10_init, 1, none) := rfl
theorem ji_68 : jsI 68 = (yX10_size, cX10_size, 1, (some .int)) := rfl
theorem ji_69 : jsI 69 = (yX10_has, cX10_has, 3, (some .boolean)) := rfl
theorem ji_70 : jsI 70 = (yX10_clear, cX10_clear, 3, none) := rfl
theorem ji_71 : jsI 71 = (yX10_become, cX10_become, 2, none) := rfl
theorem ji_72 : jsI 72 = (yX10_count, cX10_count, 5, (some .int)) := rfl
theorem ji_73 : jsI 73 = (yX10_findKind, cX10_findKind, 1, (some .int)) := rfl
theorem ji_74 : jsI 74 = (yX10_fillByRule, cX10_fillByRule, 4, none) := rfl
theorem ji_75 : jsI 75 = (yX10_byRule, cX10_byRule, 5, (some .int)) := rfl
theorem ji_76 : jsI 76 = (yX10_fillFrom, cX10_fillFrom, 5, none) := rfl
theorem ji_77 : jsI 77 = (yX10_swapSides, cX10_swapSides, 3, none) := rfl
theorem ji_78 : jsI 78 = (yX10_swap, cX10_swap, 4, none) := rfl
theorem ji_79 : jsI 79 = (yX10_swapAnswers, cX10_swapAnswers, 4, none) := rfl
theorem ji_80 : jsI 80 = (yX10_countUnlike, cX10_countUnlike, 7, (some .int)) := rfl
theorem ji_81 : jsI 81 = (yX10_areAlike, cX10_areAlike, 9, (some .boolean)) := rfl
theorem ji_82 : jsI 82 = (yX10_findRank, cX10_findRank, 7, (some .int)) := rfl
theorem ji_83 : jsI 83 = (yX10_findPivot, cX10_findPivot, 5, (some .int)) := rfl
theorem ji_84 : jsI 84 = (yX10_clearBelow, cX10_clearBelow, 11, none) := rfl
theorem ji_85 : jsI 85 = (yX11_init, cX11_init, 2, none) := rfl
theorem ji_86 : jsI 86 = (yX11_table, cX11_table, 4, (some .int)) := rfl
theorem ji_87 : jsI 87 = (yX11_put, cX11_put, 6, (some .int)) := rfl
theorem ji_88 : jsI 88 = (yX11_place, cX11_place, 3, (some .int)) := rfl
theorem ji_89 : jsI 89 = (yX11_weigh, cX11_weigh, 6, (some .int)) := rfl
theorem ji_90 : jsI 90 = (yX11_rule, cX11_rule, 2, (some .int)) := rfl
theorem ji_91 : jsI 91 = (yX11_turn, cX11_turn, 1, (some .int)) := rfl
theorem ji_92 : jsI 92 = (yX11_turnAnswers, cX11_turnAnswers, 1, (some .int)) := rfl
theorem ji_93 : jsI 93 = (yX11_unlike, cX11_unlike, 2, (some .int)) := rfl
theorem ji_94 : jsI 94 = (yX11_sheet, cX11_sheet, 5, (some .int)) := rfl
theorem ji_95 : jsI 95 = (yX11_write, cX11_write, 4, (some .int)) := rfl
theorem ji_96 : jsI 96 = (yX11_copy, cX11_copy, 8, (some .int)) := rfl
theorem ji_97 : jsI 97 = (yX11_lay, cX11_lay, 3, (some .int)) := rfl
theorem ji_98 : jsI 98 = (yX11_bits, cX11_bits, 3, (some .int)) := rfl
theorem ji_99 : jsI 99 = (yX11_ends, cX11_ends, 3, (some .int)) := rfl
theorem ji_100 : jsI 100 = (yX11_talk, cX11_talk, 1, (some .int)) := rfl
theorem ji_101 : jsI 101 = (yX11_knot, cX11_knot, 3, (some .int)) := rfl
theorem ji_102 : jsI 102 = (yX11_said, cX11_said, 3, (some .int)) := rfl
theorem ji_103 : jsI 103 = (yX11_classes, cX11_classes, 2, (some .int)) := rfl
theorem ji_104 : jsI 104 = (yX11_once, cX11_once, 4, (some .int)) := rfl
theorem ji_105 : jsI 105 = (yX11_rank, cX11_rank, 2, (some .int)) := rfl
theorem ji_106 : jsI 106 = (yX11_fool, cX11_fool, 2, (some .int)) := rfl
theorem ji_107 : jsI 107 = (yX11_cover, cX11_cover, 2, (some .int)) := rfl
theorem ji_108 : jsI 108 = (yX11_part, cX11_part, 1, (some .int)) := rfl
theorem ji_109 : jsI 109 = (yX11_swing, cX11_swing, 1, (some .int)) := rfl
theorem ji_110 : jsI 110 = (yX11_wrong, cX11_wrong, 2, (some .int)) := rfl
theorem ji_111 : jsI 111 = (yX11_tell, cX11_tell, 2, (some .int)) := rfl
theorem ji_112 : jsI 112 = (yX11_check, cX11_check, 2, (some .int)) := rfl
theorem ji_113 : jsI 113 = (yX11_fools, cX11_fools, 3, (some .int)) := rfl
theorem ji_114 : jsI 114 = (yX11_keep, cX11_keep, 2, (some .int)) := rfl
theorem ji_115 : jsI 115 = (yX11_bring, cX11_bring, 2, (some .int)) := rfl
theorem ji_116 : jsI 116 = (yX11_as, cX11_as, 3, (some .int)) := rfl
theorem ji_117 : jsI 117 = (yX11_same, cX11_same, 2, (some .int)) := rfl
theorem ji_118 : jsI 118 = (yX11_undo, cX11_undo, 1, (some .int)) := rfl
theorem ji_119 : jsI 119 = (yX11_told, cX11_told, 2, (some .int)) := rfl
theorem ji_120 : jsI 120 = (yX11_finding, cX11_finding, 2, (some .int)) := rfl
theorem ji_121 : jsI 121 = (yX11_takeNewPlaces, cX11_takeNewPlaces, 1, none) := rfl
theorem ji_122 : jsI 122 = (yX11_noSheet, cX11_noSheet, 1, (some .boolean)) := rfl
theorem ji_123 : jsI 123 = (yX11_noSlot, cX11_noSlot, 1, (some .boolean)) := rfl
theorem ji_124 : jsI 124 = (yX11_isNoAnswer, cX11_isNoAnswer, 1, (some .boolean)) := rfl
theorem ji_125 : jsI 125 = (yX11_isUnder, cX11_isUnder, 2, (some .boolean)) := rfl
theorem ji_126 : jsI 126 = (yX11_memberOf, cX11_memberOf, 1, (some .int)) := rfl
theorem ji_127 : jsI 127 = (yX11_lowestOf, cX11_lowestOf, 1, (some .int)) := rfl
theorem ji_128 : jsI 128 = (yX11_blockAt, cX11_blockAt, 2, (some .int)) := rfl
theorem ji_129 : jsI 129 = (yX12_init, cX12_init, 2, none) := rfl
theorem ji_130 : jsI 130 = (yX12_finding, cX12_finding, 2, (some .int)) := rfl
theorem ji_131 : jsI 131 = (yX12_isPlace, cX12_isPlace, 3, (some .boolean)) := rfl
theorem ji_132 : jsI 132 = (yX12_in, cX12_in, 2, (some .boolean)) := rfl
theorem ji_133 : jsI 133 = (yX12_countOf, cX12_countOf, 3, (some .int)) := rfl
theorem ji_134 : jsI 134 = (yX12_save, cX12_save, 4, none) := rfl
theorem ji_135 : jsI 135 = (yX12_load, cX12_load, 4, none) := rfl
theorem ji_136 : jsI 136 = (yX12_keepTask, cX12_keepTask, 2, none) := rfl
theorem ji_137 : jsI 137 = (yX12_undo, cX12_undo, 1, (some .int)) := rfl
theorem ji_138 : jsI 138 = (yX12_ones, cX12_ones, 5, (some .int)) := rfl
theorem ji_139 : jsI 139 = (yX12_table, cX12_table, 5, (some .int)) := rfl
theorem ji_140 : jsI 140 = (yX12_put, cX12_put, 5, (some .int)) := rfl
theorem ji_141 : jsI 141 = (yX12_place, cX12_place, 3, (some .int)) := rfl
theorem ji_142 : jsI 142 = (yX12_weigh, cX12_weigh, 5, (some .int)) := rfl
theorem ji_143 : jsI 143 = (yX12_rule, cX12_rule, 6, (some .int)) := rfl
theorem ji_144 : jsI 144 = (yX12_turn, cX12_turn, 4, (some .int)) := rfl
theorem ji_145 : jsI 145 = (yX12_turnAnswers, cX12_turnAnswers, 2, (some .int)) := rfl
theorem ji_146 : jsI 146 = (yX12_at, cX12_at, 4, (some .int)) := rfl
theorem ji_147 : jsI 147 = (yX12_unlike, cX12_unlike, 9, (some .int)) := rfl
theorem ji_148 : jsI 148 = (yX12_isSheet, cX12_isSheet, 1, (some .boolean)) := rfl
theorem ji_149 : jsI 149 = (yX12_sheet, cX12_sheet, 5, (some .int)) := rfl
theorem ji_150 : jsI 150 = (yX12_write, cX12_write, 4, (some .int)) := rfl
theorem ji_151 : jsI 151 = (yX12_hasPart, cX12_hasPart, 4, (some .boolean)) := rfl
theorem ji_152 : jsI 152 = (yX12_copy, cX12_copy, 7, (some .int)) := rfl
theorem ji_153 : jsI 153 = (yX12_lay, cX12_lay, 3, (some .int)) := rfl
theorem ji_154 : jsI 154 = (yX12_all, cX12_all, 1, (some .int)) := rfl
theorem ji_155 : jsI 155 = (yX12_has, cX12_has, 5, (some .int)) := rfl
theorem ji_156 : jsI 156 = (yX12_isEven, cX12_isEven, 2, (some .boolean)) := rfl
theorem ji_157 : jsI 157 = (yX12_isBlock, cX12_isBlock, 2, (some .boolean)) := rfl
theorem ji_158 : jsI 158 = (yX12_tellBlocks, cX12_tellBlocks, 4, none) := rfl
theorem ji_159 : jsI 159 = (yX12_parted, cX12_parted, 5, (some .boolean)) := rfl
theorem ji_160 : jsI 160 = (yX12_takeBest, cX12_takeBest, 8, none) := rfl
theorem ji_161 : jsI 161 = (yX12_areSets, cX12_areSets, 3, (some .boolean)) := rfl
theorem ji_162 : jsI 162 = (yX12_bits, cX12_bits, 3, (some .int)) := rfl
theorem ji_163 : jsI 163 = (yX12_ends, cX12_ends, 3, (some .int)) := rfl
theorem ji_164 : jsI 164 = (yX12_reaches, cX12_reaches, 6, (some .boolean)) := rfl
theorem ji_165 : jsI 165 = (yX12_parting, cX12_parting, 3, (some .int)) := rfl
theorem ji_166 : jsI 166 = (yX12_talk, cX12_talk, 6, (some .int)) := rfl
theorem ji_167 : jsI 167 = (yX12_knot, cX12_knot, 3, (some .int)) := rfl
theorem ji_168 : jsI 168 = (yX12_said, cX12_said, 6, (some .int)) := rfl
theorem ji_169 : jsI 169 = (yX12_quarrel, cX12_quarrel, 6, (some .boolean)) := rfl
theorem ji_170 : jsI 170 = (yX12_classes, cX12_classes, 8, (some .int)) := rfl
theorem ji_171 : jsI 171 = (yX12_once, cX12_once, 4, (some .int)) := rfl
theorem ji_172 : jsI 172 = (yX12_swapLines, cX12_swapLines, 6, none) := rfl
theorem ji_173 : jsI 173 = (yX12_rank, cX12_rank, 13, (some .int)) := rfl
theorem ji_174 : jsI 174 = (yX12_lieTogether, cX12_lieTogether, 4, (some .boolean)) := rfl
theorem ji_175 : jsI 175 = (yX12_fool, cX12_fool, 11, (some .int)) := rfl
theorem ji_176 : jsI 176 = (yX12_rowsFor, cX12_rowsFor, 7, (some .int)) := rfl
theorem ji_177 : jsI 177 = (yX12_placesOf, cX12_placesOf, 6, (some .int)) := rfl
theorem ji_178 : jsI 178 = (yX12_covers, cX12_covers, 7, (some .boolean)) := rfl
theorem ji_179 : jsI 179 = (yX12_cover, cX12_cover, 5, (some .int)) := rfl
theorem ji_180 : jsI 180 = (yX12_part, cX12_part, 7, (some .int)) := rfl
theorem ji_181 : jsI 181 = (yX12_weightOf, cX12_weightOf, 6, (some .int)) := rfl
theorem ji_182 : jsI 182 = (yX12_swing, cX12_swing, 4, (some .int)) := rfl
theorem ji_183 : jsI 183 = (yX12_wrong, cX12_wrong, 8, (some .int)) := rfl
theorem ji_184 : jsI 184 = (yX12_lessWrong, cX12_lessWrong, 8, (some .int)) := rfl
theorem ji_185 : jsI 185 = (yX12_tell, cX12_tell, 2, (some .int)) := rfl
theorem ji_186 : jsI 186 = (yX12_check, cX12_check, 11, (some .int)) := rfl
theorem ji_187 : jsI 187 = (yX12_fools, cX12_fools, 7, (some .int)) := rfl
theorem ji_188 : jsI 188 = (yX12_isSlot, cX12_isSlot, 1, (some .boolean)) := rfl
theorem ji_189 : jsI 189 = (yX12_keep, cX12_keep, 2, (some .int)) := rfl
theorem ji_190 : jsI 190 = (yX12_bring, cX12_bring, 2, (some .int)) := rfl
theorem ji_191 : jsI 191 = (yX12_slotPlace, cX12_slotPlace, 4, (some .int)) := rfl
theorem ji_192 : jsI 192 = (yX12_as, cX12_as, 7, (some .int)) := rfl
theorem ji_193 : jsI 193 = (yX12_lineOf, cX12_lineOf, 8, (some .int)) := rfl
theorem ji_194 : jsI 194 = (yX12_orders, cX12_orders, 3, (some .int)) := rfl
theorem ji_195 : jsI 195 = (yX12_same, cX12_same, 6, (some .int)) := rfl
theorem ji_196 : jsI 196 = (yX12_told, cX12_told, 2, (some .int)) := rfl
theorem ji_197 : jsI 197 = (yJ6_bitCount_0f7a4, cJ6_bitCount_0f7a4, 1, (some .int)) := rfl
theorem ji_198 : jsI 198 = (yJ7_fill_53178, cJ7_fill_53178, 4, none) := rfl
theorem ji_199 : jsI 199 = (yJ7_copyOf_59c91, cJ7_copyOf_59c91, 3, (some (.array .int))) := rfl
theorem ji_200 : jsI 200 = (yL_law, cL_law, 4, ret) := rfl
end
