section
/-! ===== a pure machine: cells by their numbers, methods by theirs ===== -/
abbrev jxC : Type := (Nat × vp_A) ⊕ (Nat × List Value)
/-- how many cells there are, how many slots were made, what they hold -/
abbrev jxH : Type := Nat × Nat × (Nat → jxC)
/-- a step: locals, stack, heap; the next place -/
abbrev jxO : Type := List Value → List Value → jxH → Option (Nat × List Value × List Value × jxH)
/-- a step, or a call (callee, how many arguments, next place, the receiver's kind), or a return (its kind) -/
abbrev jxI : Type := jxO ⊕ (Nat × Nat × Nat × Option Nat) ⊕ Nat
abbrev jxM : Type := Nat → Nat × (Nat → Option jxI)
abbrev jx_u : Value := .retAddr 0
/-- nothing there -/
def jx_no : jxC := .inl (77, 0, .inl (fun _ => 0))
def jx_fl (h : jxH) (a c k : Nat) : Option Value := match h.2.2 a with
  | .inr (c', fs) => if c' = c then fs[k]? else none
  | .inl _ => none
def jx_cl (h : jxH) (a : Nat) : Option Nat := match h.2.2 a with
  | .inr (c', _) => some c'
  | .inl _ => none
def jx_ai (h : jxH) (a : Nat) : Option (Nat × (Nat → Int32)) := match h.2.2 a with
  | .inl (0, n, .inl f) => some (n, f)
  | _ => none
def jx_sc (h : jxH) (a : Nat) : Option (Nat × (Nat → Int32)) := match h.2.2 a with
  | .inl (9, n, .inl f) => some (n, f)
  | _ => none
def jx_al (h : jxH) (a : Nat) : Option (Nat × (Nat → Int64)) := match h.2.2 a with
  | .inl (1, n, .inr (.inl f)) => some (n, f)
  | _ => none
/-- an array of references, of kind t: 2 tasks, 3 sheets, 4 rows of ints -/
def jx_ar (h : jxH) (a t : Nat) : Option (Nat × (Nat → Option Nat)) := match h.2.2 a with
  | .inl (t', n, .inr (.inr (.inr (.inr f)))) => if t' = t then some (n, f) else none
  | _ => none
def jx_w (h : jxH) (a : Nat) (x : jxC) : jxH := (h.1, h.2.1, fun j => if j = a then x else h.2.2 j)
def jx_uf (h : jxH) (a c k : Nat) (v : Value) : jxH := jx_w h a (match h.2.2 a with
  | .inr (_, fs) => .inr (c, fs.set k v)
  | x => x)
def jx_wi (h : jxH) (a n : Nat) (f : Nat → Int32) : jxH := jx_w h a (.inl (0, n, .inl f))
def jx_wl (h : jxH) (a n : Nat) (f : Nat → Int64) : jxH := jx_w h a (.inl (1, n, .inr (.inl f)))
def jx_wr (h : jxH) (a t n : Nat) (f : Nat → Option Nat) : jxH := jx_w h a (.inl (t, n, .inr (.inr (.inr (.inr f)))))
def jx_mk (h : jxH) (s : Nat) (x : jxC) : jxH := (h.1 + 1, h.2.1 + s, fun j => if j = h.1 then x else h.2.2 j)
/-- a fresh array of n rows of k ints -/
def jx_mm (h : jxH) (n k : Nat) : jxH := (h.1 + 1 + n, h.2.1 + n + n * k, fun j => if j < h.1 then h.2.2 j else if j = h.1 then .inl (4, n, .inr (.inr (.inr (.inr (fun i => if i < n then some (h.1 + 1 + i) else none))))) else if j < h.1 + 1 + n then .inl (0, k, .inl (fun _ => 0)) else h.2.2 j)
/-- the arguments of a call: of one slot each; a receiver of its kind; not much below them -/
def jx_c1 : Value → Bool
  | .int _ => true
  | .ref _ => true
  | _ => false
def jx_okc (k : Nat) (ck : Option Nat) (st : List Value) (h : jxH) : Bool :=
  decide (k ≤ st.length) && (st.take k).all jx_c1 && decide ((st.drop k).length ≤ 4) && (match ck with
    | none => true
    | some c => match (st.take k).getLast? with
      | some (.ref a) => jx_cl h a == some c
      | _ => false)
def jx_ent (L k : Nat) (st : List Value) : List Value := (st.take k).reverse ++ List.replicate (L - k) jx_u
/-- what a return asks of the stack: 0 nothing, 1 an int, 2 a truth value, 3 a reference -/
def jx_okr (r : Nat) (st : List Value) : Bool := match r, st with
  | 0, [] => true
  | 1, [.int _] => true
  | 2, [.int x] => x == 0 || x == 1
  | 3, [.ref _] => true
  | _, _ => false
def jx_run (P : jxM) : Nat → Nat → Nat → Nat → List Value → List Value → jxH → Option (Nat × List Value × jxH)
  | 0, _, _, _, _, _, _ => none
  | n + 1, d, M, pc, ls, st, h => match (P M).2 pc with
    | none => none
    | some (.inl o) => match o ls st h with
      | none => none
      | some (pc', ls', st', h') => jx_run P n d M pc' ls' st' h'
    | some (.inr (.inl (y, k, nx, ck))) => match d with
      | 0 => none
      | d' + 1 => if jx_okc k ck st h = true then (match jx_run P n d' y 0 (jx_ent (P y).1 k st) [] h with
          | none => none
          | some (_, s1, h1) => jx_run P n (d' + 1) M nx ls (s1 ++ st.drop k) h1)
        else none
    | some (.inr (.inr r)) => if jx_okr r st = true then some (pc, st, h) else none
theorem jx_mono1 (P : jxM) : ∀ (n d M pc : Nat) (ls st : List Value) (h : jxH) (r : Nat × List Value × jxH), jx_run P n d M pc ls st h = some r → jx_run P (n + 1) d M pc ls st h = some r
  | 0, _, _, _, _, _, _, _, e => by simp [jx_run] at e
  | n + 1, d, M, pc, ls, st, h, r, e => by
    rw [jx_run] at e ⊢
    cases hc : (P M).2 pc with
    | none => rw [hc] at e; exact e
    | some i =>
      rw [hc] at e
      rcases i with o | ⟨y, k, nx, ck⟩ | q
      · dsimp only at e ⊢
        cases ho : o ls st h with
        | none => rw [ho] at e; exact e
        | some x =>
          rw [ho] at e
          obtain ⟨pc', ls', st', h'⟩ := x
          exact jx_mono1 P n d M pc' ls' st' h' r e
      · dsimp only at e ⊢
        cases d with
        | zero => exact e
        | succ d' =>
          dsimp only at e ⊢
          by_cases hk : jx_okc k ck st h = true
          · rw [if_pos hk] at e ⊢
            cases hr : jx_run P n d' y 0 (jx_ent (P y).1 k st) [] h with
            | none => rw [hr] at e; cases e
            | some x =>
              rw [hr] at e
              obtain ⟨a, s1, h1⟩ := x
              rw [jx_mono1 P n d' y 0 _ _ h _ hr]
              exact jx_mono1 P n (d' + 1) M nx ls _ h1 r e
          · rw [if_neg hk] at e
            cases e
      · exact e
theorem jx_mono (P : jxM) {n m d M pc : Nat} {ls st : List Value} {h : jxH} {r : Nat × List Value × jxH} (hn : n ≤ m) (e : jx_run P n d M pc ls st h = some r) : jx_run P m d M pc ls st h = some r := by
  obtain ⟨k, rfl⟩ := Nat.exists_eq_add_of_le hn
  clear hn
  induction k with
  | zero => exact e
  | succ k ih => exact jx_mono1 P (n + k) d M pc ls st h r ih
/-- it comes to a return with Q -/
def jx_Go (P : jxM) (d M pc : Nat) (ls st : List Value) (h : jxH) (Q : List Value → jxH → Prop) : Prop := ∃ (n pc' : Nat) (st' : List Value) (h' : jxH), jx_run P n d M pc ls st h = some (pc', st', h') ∧ Q st' h'
section JXG
variable {P : jxM} {d M pc : Nat} {ls st : List Value} {h : jxH} {Q : List Value → jxH → Prop}
theorem jx_Go.imp {Q' : List Value → jxH → Prop} (g : jx_Go P d M pc ls st h Q) (hq : ∀ s t, Q s t → Q' s t) : jx_Go P d M pc ls st h Q' := by
  obtain ⟨n, pc', st', h', e, q⟩ := g
  exact ⟨n, pc', st', h', e, hq _ _ q⟩
theorem jx_op {o : jxO} {pc' : Nat} {ls' st' : List Value} {h' : jxH} (hc : (P M).2 pc = some (.inl o)) (ho : o ls st h = some (pc', ls', st', h')) : jx_Go P d M pc ls st h Q ↔ jx_Go P d M pc' ls' st' h' Q := by
  constructor
  · rintro ⟨n, a, b, c, e, q⟩
    cases n with
    | zero => simp [jx_run] at e
    | succ n =>
      rw [jx_run, hc] at e
      dsimp only at e
      rw [ho] at e
      exact ⟨n, a, b, c, e, q⟩
  · rintro ⟨n, a, b, c, e, q⟩
    refine ⟨n + 1, a, b, c, ?_, q⟩
    rw [jx_run, hc]
    dsimp only
    rw [ho]
    exact e
/-- a step that may not be done -/
theorem jx_opN {o : jxO} (hc : (P M).2 pc = some (.inl o)) (ho : o ls st h = none) : jx_Go P d M pc ls st h Q ↔ False := by
  constructor
  · rintro ⟨n, a, b, c, e, q⟩
    cases n with
    | zero => simp [jx_run] at e
    | succ n =>
      rw [jx_run, hc] at e
      dsimp only at e
      rw [ho] at e
      cases e
  · exact False.elim
/-- a step with a lookup in it -/
theorem jx_opE {o : jxO} {A : Type} {x : Option A} {F : A → Nat × List Value × List Value × jxH} (hc : (P M).2 pc = some (.inl o)) (ho : o ls st h = x.map F) : jx_Go P d M pc ls st h Q ↔ ∃ a, x = some a ∧ jx_Go P d M (F a).1 (F a).2.1 (F a).2.2.1 (F a).2.2.2 Q := by
  cases x with
  | none => rw [jx_opN hc (by rw [ho]; rfl)]; simp
  | some a =>
    rw [jx_op (pc' := (F a).1) (ls' := (F a).2.1) (st' := (F a).2.2.1) (h' := (F a).2.2.2) hc (by rw [ho]; rfl)]
    simp
/-- a step with a lookup and a condition -/
theorem jx_opC {o : jxO} {A : Type} {x : Option A} {p : A → Prop} {F : A → Nat × List Value × List Value × jxH} (hc : (P M).2 pc = some (.inl o)) (hp : ∀ a, x = some a → p a → o ls st h = some (F a)) (hq : ∀ a, x = some a → ¬ p a → o ls st h = none) (hn : x = none → o ls st h = none) : jx_Go P d M pc ls st h Q ↔ ∃ a, x = some a ∧ p a ∧ jx_Go P d M (F a).1 (F a).2.1 (F a).2.2.1 (F a).2.2.2 Q := by
  cases x with
  | none => rw [jx_opN hc (hn rfl)]; simp
  | some a =>
    by_cases ha : p a
    · rw [jx_op (pc' := (F a).1) (ls' := (F a).2.1) (st' := (F a).2.2.1) (h' := (F a).2.2.2) hc (hp a rfl ha)]
      simp [ha]
    · rw [jx_opN hc (hq a rfl ha)]
      simp [ha]
theorem jx_rt {r : Nat} (hc : (P M).2 pc = some (.inr (.inr r))) (hr : jx_okr r st = true) : jx_Go P d M pc ls st h Q ↔ Q st h := by
  constructor
  · rintro ⟨n, a, b, c, e, q⟩
    cases n with
    | zero => simp [jx_run] at e
    | succ n =>
      rw [jx_run, hc] at e
      dsimp only at e
      rw [if_pos hr] at e
      cases e
      exact q
  · intro q
    refine ⟨1, pc, st, h, ?_, q⟩
    rw [jx_run, hc]
    dsimp only
    rw [if_pos hr]
theorem jx_ca {y k nx : Nat} {ck : Option Nat} (hc : (P M).2 pc = some (.inr (.inl (y, k, nx, ck)))) (hk : jx_okc k ck st h = true) : jx_Go P (d + 1) M pc ls st h Q ↔ jx_Go P d y 0 (jx_ent (P y).1 k st) [] h (fun s1 h1 => jx_Go P (d + 1) M nx ls (s1 ++ st.drop k) h1 Q) := by
  constructor
  · rintro ⟨n, a, b, c, e, q⟩
    cases n with
    | zero => simp [jx_run] at e
    | succ n =>
      rw [jx_run, hc] at e
      dsimp only at e
      rw [if_pos hk] at e
      cases hr : jx_run P n d y 0 (jx_ent (P y).1 k st) [] h with
      | none => rw [hr] at e; cases e
      | some x =>
        rw [hr] at e
        obtain ⟨p1, s1, h1⟩ := x
        exact ⟨n, p1, s1, h1, hr, n, a, b, c, e, q⟩
  · rintro ⟨n, p1, s1, h1, hr, m, a, b, c, e, q⟩
    refine ⟨n + m + 1, a, b, c, ?_, q⟩
    rw [jx_run, hc]
    dsimp only
    rw [if_pos hk, jx_mono P (by omega) hr]
    exact jx_mono P (by omega) e
end JXG
end
section
/-! ===== the steps ===== -/
def jx_in (i : Int32) (n : Nat) : Prop := ¬ i < 0 ∧ i.toNatClampNeg < n
def jx_inB (i : Int32) (n : Nat) : Bool := decide (¬ i < 0) && decide (i.toNatClampNeg < n)
theorem jx_inB_iff {i : Int32} {n : Nat} : jx_inB i n = true ↔ jx_in i n := by simp [jx_inB, jx_in]
def jx_si (ls : List Value) (L i : Nat) (v : Value) : List Value := ((ls.set i v).set (L + i) jx_u).set (L + 1 + i) jx_u
def jo_c (n : Nat) (x : Int32) : jxO := fun ls st h => some (n, ls, .int x :: st, h)
def jo_cl (n : Nat) (x : Int64) : jxO := fun ls st h => some (n, ls, .long x :: st, h)
def jo_il (n i : Nat) : jxO := fun ls st h => match ls[i]? with
  | some (.int x) => some (n, ls, .int x :: st, h)
  | _ => none
def jo_al (n i : Nat) : jxO := fun ls st h => match ls[i]? with
  | some (.ref x) => some (n, ls, .ref x :: st, h)
  | _ => none
def jo_ll (n L i : Nat) : jxO := fun ls st h => match ls[L + 1 + i]? with
  | some (.long x) => some (n, ls, .long x :: st, h)
  | _ => none
def jo_is (n L i : Nat) : jxO := fun ls st h => match st with
  | .int x :: r => some (n, jx_si ls L i (.int x), r, h)
  | _ => none
def jo_as (n L i : Nat) : jxO := fun ls st h => match st with
  | .ref x :: r => some (n, jx_si ls L i (.ref x), r, h)
  | _ => none
def jo_ls (n L i : Nat) : jxO := fun ls st h => match st with
  | .long x :: r => some (n, ((((ls.set i jx_u).set (i + 1) jx_u).set (L + i) jx_u).set (L + 1 + i) (.long x)).set (L + 2 + i) jx_u, r, h)
  | _ => none
def jo_inc (n L i : Nat) (k : Int32) : jxO := fun ls st h => match ls[i]? with
  | some (.int x) => some (n, jx_si ls L i (.int (x + k)), st, h)
  | _ => none
def jo_b (n : Nat) (f : Int32 → Int32 → Int32) : jxO := fun ls st h => match st with
  | .int y :: .int x :: r => some (n, ls, .int (f x y) :: r, h)
  | _ => none
def jo_q (n : Nat) (f : Int32 → Int32 → Int32) : jxO := fun ls st h => match st with
  | .int y :: .int x :: r => if y = 0 then none else some (n, ls, .int (f x y) :: r, h)
  | _ => none
def jo_1 (n : Nat) (f : Int32 → Int32) : jxO := fun ls st h => match st with
  | .int x :: r => some (n, ls, .int (f x) :: r, h)
  | _ => none
def jo_i2l (n : Nat) : jxO := fun ls st h => match st with
  | .int x :: r => some (n, ls, .long x.toInt64 :: r, h)
  | _ => none
def jo_lb (n : Nat) (f : Int64 → Int64 → Int64) : jxO := fun ls st h => match st with
  | .long y :: .long x :: r => some (n, ls, .long (f x y) :: r, h)
  | _ => none
def jo_lc (n : Nat) : jxO := fun ls st h => match st with
  | .long y :: .long x :: r => some (n, ls, .int (lg_cmp x y) :: r, h)
  | _ => none
def jo_if (n t : Nat) (p : Int32 → Bool) : jxO := fun ls st h => match st with
  | .int x :: r => some (if p x = true then t else n, ls, r, h)
  | _ => none
def jo_ic (n t : Nat) (p : Int32 → Int32 → Bool) : jxO := fun ls st h => match st with
  | .int y :: .int x :: r => some (if p x y = true then t else n, ls, r, h)
  | _ => none
def jo_go (t : Nat) : jxO := fun ls st h => some (t, ls, st, h)
def jo_nn (n t : Nat) : jxO := fun ls st h => match st with
  | .ref _ :: r => some (t, ls, r, h)
  | .null :: r => some (n, ls, r, h)
  | _ => none
def jo_sw (f : Int32 → Nat) : jxO := fun ls st h => match st with
  | .int x :: r => some (f x, ls, r, h)
  | _ => none
def jo_d (n : Nat) : jxO := fun ls st h => match st with
  | v :: r => if jx_c1 v = true then some (n, ls, v :: v :: r, h) else none
  | _ => none
def jo_d2 (n : Nat) : jxO := fun ls st h => match st with
  | v :: w :: r => if jx_c1 v = true ∧ jx_c1 w = true then some (n, ls, v :: w :: v :: w :: r, h) else none
  | _ => none
def jo_p (n : Nat) : jxO := fun ls st h => match st with
  | v :: r => if jx_c1 v = true then some (n, ls, r, h) else none
  | _ => none
def jo_oi (n : Nat) : jxO := fun ls st h => match st with
  | .ref _ :: r => if r.length ≤ 4 then some (n, ls, r, h) else none
  | _ => none
def jo_gf (n c k : Nat) : jxO := fun ls st h => match st with
  | .ref a :: r => (jx_fl h a c k).map (fun v => (n, ls, v :: r, h))
  | _ => none
/-- what a field takes: 0 an int, 1 a truth value, 2 a reference -/
def jx_fit (t : Nat) (v : Value) : Bool := match t, v with
  | 0, .int _ => true
  | 1, .int x => x == 0 || x == 1
  | 2, .ref _ => true
  | _, _ => false
def jo_pf (n c k t : Nat) : jxO := fun ls st h => match st with
  | v :: .ref a :: r => if jx_fit t v = true then (jx_fl h a c k).map (fun _ => (n, ls, r, jx_uf h a c k v)) else none
  | _ => none
def jo_ia (n : Nat) : jxO := fun ls st h => match st with
  | .int i :: .ref a :: r => match jx_ai h a with
    | some x => if jx_inB i x.1 = true then some (n, ls, .int (x.2 i.toNatClampNeg) :: r, h) else none
    | none => none
  | _ => none
def jo_sa (n : Nat) : jxO := fun ls st h => match st with
  | .int i :: .ref 0 :: r => match jx_sc h 0 with
    | some x => if jx_inB i x.1 = true then some (n, ls, .int (x.2 i.toNatClampNeg) :: r, h) else none
    | none => none
  | _ => none
def jo_la (n : Nat) : jxO := fun ls st h => match st with
  | .int i :: .ref a :: r => match jx_al h a with
    | some x => if jx_inB i x.1 = true then some (n, ls, .long (x.2 i.toNatClampNeg) :: r, h) else none
    | none => none
  | _ => none
def jx_rv (r : Option Nat) : Value := match r with
  | none => .null
  | some a => .ref a
def jo_ra (n t : Nat) : jxO := fun ls st h => match st with
  | .int i :: .ref a :: r => match jx_ar h a t with
    | some x => if jx_inB i x.1 = true then some (n, ls, jx_rv (x.2 i.toNatClampNeg) :: r, h) else none
    | none => none
  | _ => none
def jo_iw (n : Nat) : jxO := fun ls st h => match st with
  | .int v :: .int i :: .ref a :: r => match jx_ai h a with
    | some x => if jx_inB i x.1 = true then some (n, ls, r, jx_wi h a x.1 (upd x.2 i.toNatClampNeg v)) else none
    | none => none
  | _ => none
def jo_lw (n : Nat) : jxO := fun ls st h => match st with
  | .long v :: .int i :: .ref a :: r => match jx_al h a with
    | some x => if jx_inB i x.1 = true then some (n, ls, r, jx_wl h a x.1 (vp_updL x.2 i.toNatClampNeg v)) else none
    | none => none
  | _ => none
def jo_rw (n t c : Nat) : jxO := fun ls st h => match st with
  | .ref v :: .int i :: .ref a :: r => match jx_ar h a t with
    | some x => if jx_inB i x.1 = true ∧ jx_cl h v = some c then some (n, ls, r, jx_wr h a t x.1 (va_up x.2 i.toNatClampNeg (some v))) else none
    | none => none
  | _ => none
def jo_len (n : Nat) : jxO := fun ls st h => match st with
  | .ref a :: r => (jx_ai h a).map (fun x => (n, ls, .int (nI x.1) :: r, h))
  | _ => none
def jo_sl (n : Nat) : jxO := fun ls st h => match st with
  | .ref 0 :: r => (jx_sc h 0).map (fun x => (n, ls, .int (nI x.1) :: r, h))
  | _ => none
def jo_nw (n c : Nat) (fs : List Value) : jxO := fun ls st h => some (n, ls, .ref h.1 :: st, jx_mk h fs.length (.inr (c, fs)))
def jo_ni (n : Nat) : jxO := fun ls st h => match st with
  | .int x :: r => if jx_inB x 1000000 = true then some (n, ls, .ref h.1 :: r, jx_mk h x.toNatClampNeg (.inl (0, x.toNatClampNeg, .inl (fun _ => 0)))) else none
  | _ => none
def jo_nj (n : Nat) : jxO := fun ls st h => match st with
  | .int x :: r => if jx_inB x 1000000 = true then some (n, ls, .ref h.1 :: r, jx_mk h x.toNatClampNeg (.inl (1, x.toNatClampNeg, .inr (.inl (fun _ => 0))))) else none
  | _ => none
def jo_nr (n t : Nat) : jxO := fun ls st h => match st with
  | .int x :: r => if jx_inB x 1000000 = true then some (n, ls, .ref h.1 :: r, jx_mk h x.toNatClampNeg (.inl (t, x.toNatClampNeg, .inr (.inr (.inr (.inr (fun _ => none))))))) else none
  | _ => none
def jo_mm (n : Nat) : jxO := fun ls st h => match st with
  | .int k :: .int x :: r => if jx_inB x 1000000 = true ∧ jx_inB k 1000000 = true then some (n, ls, .ref h.1 :: r, jx_mm h x.toNatClampNeg k.toNatClampNeg) else none
  | _ => none
def jo_cp (n : Nat) : jxO := fun ls st h => match st with
  | .int m :: .int dp :: .ref b :: .int sp :: .ref a :: r => match jx_ai h a with
    | some x => match jx_ai h b with
      | some y => if r.length ≤ 4 ∧ ¬ sp < 0 ∧ ¬ dp < 0 ∧ ¬ m < 0 ∧ sp.toNatClampNeg + m.toNatClampNeg ≤ x.1 ∧ dp.toNatClampNeg + m.toNatClampNeg ≤ y.1 then some (n, ls, r, jx_wi h b y.1 (va_cpy x.2 y.2 sp.toNatClampNeg dp.toNatClampNeg m.toNatClampNeg)) else none
      | none => none
    | none => none
  | _ => none
def jo_cn (n : Nat) : jxO := fun ls st h => match st with
  | .ref a :: r => match jx_ai h a with
    | some x => if r.length ≤ 4 then some (n, ls, .ref h.1 :: r, jx_mk h x.1 (.inl (0, x.1, .inl x.2))) else none
    | none => none
  | _ => none
def jo_ct (n : Nat) : jxO := fun ls st h => match st with
  | .ref a :: r => (jx_ai h a).map (fun _ => (n, ls, .ref a :: r, h))
  | _ => none
/-! ===== what they do, for a walk ===== -/
section JGS
variable {P : jxM} {d M pc n t i L c k : Nat} {ls st : List Value} {h : jxH} {Q : List Value → jxH → Prop} {x y z : Int32} {u w : Int64} {a b : Nat} {v : Value}
theorem jg_c (hc : (P M).2 pc = some (.inl (jo_c n x))) : jx_Go P d M pc ls st h Q ↔ jx_Go P d M n ls (.int x :: st) h Q := jx_op hc rfl
theorem jg_cl (hc : (P M).2 pc = some (.inl (jo_cl n u))) : jx_Go P d M pc ls st h Q ↔ jx_Go P d M n ls (.long u :: st) h Q := jx_op hc rfl
theorem jg_il (hc : (P M).2 pc = some (.inl (jo_il n i))) (hl : ls[i]? = some (.int x)) : jx_Go P d M pc ls st h Q ↔ jx_Go P d M n ls (.int x :: st) h Q := jx_op hc (by simp only [jo_il, hl])
theorem jg_al (hc : (P M).2 pc = some (.inl (jo_al n i))) (hl : ls[i]? = some (.ref a)) : jx_Go P d M pc ls st h Q ↔ jx_Go P d M n ls (.ref a :: st) h Q := jx_op hc (by simp only [jo_al, hl])
theorem jg_ll (hc : (P M).2 pc = some (.inl (jo_ll n L i))) (hl : ls[L + 1 + i]? = some (.long u)) : jx_Go P d M pc ls st h Q ↔ jx_Go P d M n ls (.long u :: st) h Q := jx_op hc (by simp only [jo_ll, hl])
theorem jg_is {ls' : List Value} (hc : (P M).2 pc = some (.inl (jo_is n L i))) (hl : jx_si ls L i (.int x) = ls') : jx_Go P d M pc ls (.int x :: st) h Q ↔ jx_Go P d M n ls' st h Q := jx_op hc (by subst hl; rfl)
theorem jg_as {ls' : List Value} (hc : (P M).2 pc = some (.inl (jo_as n L i))) (hl : jx_si ls L i (.ref a) = ls') : jx_Go P d M pc ls (.ref a :: st) h Q ↔ jx_Go P d M n ls' st h Q := jx_op hc (by subst hl; rfl)
theorem jg_ls {ls' : List Value} (hc : (P M).2 pc = some (.inl (jo_ls n L i))) (hl : ((((ls.set i jx_u).set (i + 1) jx_u).set (L + i) jx_u).set (L + 1 + i) (.long u)).set (L + 2 + i) jx_u = ls') : jx_Go P d M pc ls (.long u :: st) h Q ↔ jx_Go P d M n ls' st h Q := jx_op hc (by subst hl; rfl)
theorem jg_inc {ls' : List Value} (hc : (P M).2 pc = some (.inl (jo_inc n L i y))) (hx : ls[i]? = some (.int x)) (hl : jx_si ls L i (.int (x + y)) = ls') : jx_Go P d M pc ls st h Q ↔ jx_Go P d M n ls' st h Q := jx_op hc (by subst hl; simp only [jo_inc, hx])
theorem jg_b {f : Int32 → Int32 → Int32} (hc : (P M).2 pc = some (.inl (jo_b n f))) : jx_Go P d M pc ls (.int y :: .int x :: st) h Q ↔ jx_Go P d M n ls (.int (f x y) :: st) h Q := jx_op hc rfl
theorem jg_q {f : Int32 → Int32 → Int32} (hc : (P M).2 pc = some (.inl (jo_q n f))) : jx_Go P d M pc ls (.int y :: .int x :: st) h Q ↔ (¬ y = 0 ∧ jx_Go P d M n ls (.int (f x y) :: st) h Q) := by
  by_cases hy : y = 0
  · rw [jx_opN hc (by simp [jo_q, hy])]; simp [hy]
  · rw [jx_op hc (by simp [jo_q, hy]; exact ⟨rfl, rfl, rfl, rfl⟩)]; simp [hy]
theorem jg_1 {f : Int32 → Int32} (hc : (P M).2 pc = some (.inl (jo_1 n f))) : jx_Go P d M pc ls (.int x :: st) h Q ↔ jx_Go P d M n ls (.int (f x) :: st) h Q := jx_op hc rfl
theorem jg_i2l (hc : (P M).2 pc = some (.inl (jo_i2l n))) : jx_Go P d M pc ls (.int x :: st) h Q ↔ jx_Go P d M n ls (.long x.toInt64 :: st) h Q := jx_op hc rfl
theorem jg_lb {f : Int64 → Int64 → Int64} (hc : (P M).2 pc = some (.inl (jo_lb n f))) : jx_Go P d M pc ls (.long w :: .long u :: st) h Q ↔ jx_Go P d M n ls (.long (f u w) :: st) h Q := jx_op hc rfl
theorem jg_lc (hc : (P M).2 pc = some (.inl (jo_lc n))) : jx_Go P d M pc ls (.long w :: .long u :: st) h Q ↔ jx_Go P d M n ls (.int (lg_cmp u w) :: st) h Q := jx_op hc rfl
theorem jg_if {p : Int32 → Bool} (hc : (P M).2 pc = some (.inl (jo_if n t p))) : jx_Go P d M pc ls (.int x :: st) h Q ↔ if p x = true then jx_Go P d M t ls st h Q else jx_Go P d M n ls st h Q := by
  rw [jx_op (pc' := if p x = true then t else n) (ls' := ls) (st' := st) (h' := h) hc rfl]
  split <;> rfl
theorem jg_ic {p : Int32 → Int32 → Bool} (hc : (P M).2 pc = some (.inl (jo_ic n t p))) : jx_Go P d M pc ls (.int y :: .int x :: st) h Q ↔ if p x y = true then jx_Go P d M t ls st h Q else jx_Go P d M n ls st h Q := by
  rw [jx_op (pc' := if p x y = true then t else n) (ls' := ls) (st' := st) (h' := h) hc rfl]
  split <;> rfl
theorem jg_go (hc : (P M).2 pc = some (.inl (jo_go t))) : jx_Go P d M pc ls st h Q ↔ jx_Go P d M t ls st h Q := jx_op hc rfl
theorem jg_nnR (hc : (P M).2 pc = some (.inl (jo_nn n t))) : jx_Go P d M pc ls (.ref a :: st) h Q ↔ jx_Go P d M t ls st h Q := jx_op hc rfl
theorem jg_nnN (hc : (P M).2 pc = some (.inl (jo_nn n t))) : jx_Go P d M pc ls (.null :: st) h Q ↔ jx_Go P d M n ls st h Q := jx_op hc rfl
theorem jg_sw {f : Int32 → Nat} (hc : (P M).2 pc = some (.inl (jo_sw f))) : jx_Go P d M pc ls (.int x :: st) h Q ↔ jx_Go P d M (f x) ls st h Q := jx_op hc rfl
theorem jg_dI (hc : (P M).2 pc = some (.inl (jo_d n))) : jx_Go P d M pc ls (.int x :: st) h Q ↔ jx_Go P d M n ls (.int x :: .int x :: st) h Q := jx_op hc rfl
theorem jg_dR (hc : (P M).2 pc = some (.inl (jo_d n))) : jx_Go P d M pc ls (.ref a :: st) h Q ↔ jx_Go P d M n ls (.ref a :: .ref a :: st) h Q := jx_op hc rfl
theorem jg_d2 (hc : (P M).2 pc = some (.inl (jo_d2 n))) : jx_Go P d M pc ls (.int x :: .ref a :: st) h Q ↔ jx_Go P d M n ls (.int x :: .ref a :: .int x :: .ref a :: st) h Q := jx_op hc rfl
theorem jg_pI (hc : (P M).2 pc = some (.inl (jo_p n))) : jx_Go P d M pc ls (.int x :: st) h Q ↔ jx_Go P d M n ls st h Q := jx_op hc rfl
theorem jg_oi (hc : (P M).2 pc = some (.inl (jo_oi n))) : jx_Go P d M pc ls [.ref a] h Q ↔ jx_Go P d M n ls [] h Q := jx_op hc rfl
theorem jg_gf (hc : (P M).2 pc = some (.inl (jo_gf n c k))) : jx_Go P d M pc ls (.ref a :: st) h Q ↔ ∃ v, jx_fl h a c k = some v ∧ jx_Go P d M n ls (v :: st) h Q := jx_opE (F := fun v => (n, ls, v :: st, h)) hc rfl
theorem jg_pfI (hc : (P M).2 pc = some (.inl (jo_pf n c k 0))) : jx_Go P d M pc ls (.int x :: .ref a :: st) h Q ↔ ∃ v, jx_fl h a c k = some v ∧ jx_Go P d M n ls st (jx_uf h a c k (.int x)) Q := jx_opE (F := fun v => (n, ls, st, jx_uf h a c k (.int x))) hc rfl
theorem jg_pfZ (hc : (P M).2 pc = some (.inl (jo_pf n c k 1))) (hx : x = 0 ∨ x = 1) : jx_Go P d M pc ls (.int x :: .ref a :: st) h Q ↔ ∃ v, jx_fl h a c k = some v ∧ jx_Go P d M n ls st (jx_uf h a c k (.int x)) Q := jx_opE (F := fun v => (n, ls, st, jx_uf h a c k (.int x))) hc (by rcases hx with rfl | rfl <;> rfl)
theorem jg_pfR (hc : (P M).2 pc = some (.inl (jo_pf n c k 2))) : jx_Go P d M pc ls (.ref b :: .ref a :: st) h Q ↔ ∃ v, jx_fl h a c k = some v ∧ jx_Go P d M n ls st (jx_uf h a c k (.ref b)) Q := jx_opE (F := fun v => (n, ls, st, jx_uf h a c k (.ref b))) hc rfl
theorem jg_ia (hc : (P M).2 pc = some (.inl (jo_ia n))) : jx_Go P d M pc ls (.int x :: .ref a :: st) h Q ↔ ∃ q, jx_ai h a = some q ∧ jx_in x q.1 ∧ jx_Go P d M n ls (.int (q.2 x.toNatClampNeg) :: st) h Q := by
  refine jx_opC (x := jx_ai h a) (p := fun q => jx_in x q.1) (F := fun q => (n, ls, .int (q.2 x.toNatClampNeg) :: st, h)) hc ?_ ?_ ?_
  · intro q e hp; simp only [jo_ia, e]; rw [if_pos (jx_inB_iff.mpr hp)]
  · intro q e hp; simp only [jo_ia, e]; rw [if_neg (fun z => hp (jx_inB_iff.mp z))]
  · intro e; simp only [jo_ia, e]
theorem jg_sa (hc : (P M).2 pc = some (.inl (jo_sa n))) : jx_Go P d M pc ls (.int x :: .ref 0 :: st) h Q ↔ ∃ q, jx_sc h 0 = some q ∧ jx_in x q.1 ∧ jx_Go P d M n ls (.int (q.2 x.toNatClampNeg) :: st) h Q := by
  refine jx_opC (x := jx_sc h 0) (p := fun q => jx_in x q.1) (F := fun q => (n, ls, .int (q.2 x.toNatClampNeg) :: st, h)) hc ?_ ?_ ?_
  · intro q e hp; simp only [jo_sa, e]; rw [if_pos (jx_inB_iff.mpr hp)]
  · intro q e hp; simp only [jo_sa, e]; rw [if_neg (fun z => hp (jx_inB_iff.mp z))]
  · intro e; simp only [jo_sa, e]
theorem jg_la (hc : (P M).2 pc = some (.inl (jo_la n))) : jx_Go P d M pc ls (.int x :: .ref a :: st) h Q ↔ ∃ q, jx_al h a = some q ∧ jx_in x q.1 ∧ jx_Go P d M n ls (.long (q.2 x.toNatClampNeg) :: st) h Q := by
  refine jx_opC (x := jx_al h a) (p := fun q => jx_in x q.1) (F := fun q => (n, ls, .long (q.2 x.toNatClampNeg) :: st, h)) hc ?_ ?_ ?_
  · intro q e hp; simp only [jo_la, e]; rw [if_pos (jx_inB_iff.mpr hp)]
  · intro q e hp; simp only [jo_la, e]; rw [if_neg (fun z => hp (jx_inB_iff.mp z))]
  · intro e; simp only [jo_la, e]
theorem jg_ra (hc : (P M).2 pc = some (.inl (jo_ra n t))) : jx_Go P d M pc ls (.int x :: .ref a :: st) h Q ↔ ∃ q, jx_ar h a t = some q ∧ jx_in x q.1 ∧ jx_Go P d M n ls (jx_rv (q.2 x.toNatClampNeg) :: st) h Q := by
  refine jx_opC (x := jx_ar h a t) (p := fun q => jx_in x q.1) (F := fun q => (n, ls, jx_rv (q.2 x.toNatClampNeg) :: st, h)) hc ?_ ?_ ?_
  · intro q e hp; simp only [jo_ra, e]; rw [if_pos (jx_inB_iff.mpr hp)]
  · intro q e hp; simp only [jo_ra, e]; rw [if_neg (fun z => hp (jx_inB_iff.mp z))]
  · intro e; simp only [jo_ra, e]
theorem jg_iw (hc : (P M).2 pc = some (.inl (jo_iw n))) : jx_Go P d M pc ls (.int y :: .int x :: .ref a :: st) h Q ↔ ∃ q, jx_ai h a = some q ∧ jx_in x q.1 ∧ jx_Go P d M n ls st (jx_wi h a q.1 (upd q.2 x.toNatClampNeg y)) Q := by
  refine jx_opC (x := jx_ai h a) (p := fun q => jx_in x q.1) (F := fun q => (n, ls, st, jx_wi h a q.1 (upd q.2 x.toNatClampNeg y))) hc ?_ ?_ ?_
  · intro q e hp; simp only [jo_iw, e]; rw [if_pos (jx_inB_iff.mpr hp)]
  · intro q e hp; simp only [jo_iw, e]; rw [if_neg (fun z => hp (jx_inB_iff.mp z))]
  · intro e; simp only [jo_iw, e]
theorem jg_lw (hc : (P M).2 pc = some (.inl (jo_lw n))) : jx_Go P d M pc ls (.long u :: .int x :: .ref a :: st) h Q ↔ ∃ q, jx_al h a = some q ∧ jx_in x q.1 ∧ jx_Go P d M n ls st (jx_wl h a q.1 (vp_updL q.2 x.toNatClampNeg u)) Q := by
  refine jx_opC (x := jx_al h a) (p := fun q => jx_in x q.1) (F := fun q => (n, ls, st, jx_wl h a q.1 (vp_updL q.2 x.toNatClampNeg u))) hc ?_ ?_ ?_
  · intro q e hp; simp only [jo_lw, e]; rw [if_pos (jx_inB_iff.mpr hp)]
  · intro q e hp; simp only [jo_lw, e]; rw [if_neg (fun z => hp (jx_inB_iff.mp z))]
  · intro e; simp only [jo_lw, e]
theorem jg_rw (hc : (P M).2 pc = some (.inl (jo_rw n t c))) : jx_Go P d M pc ls (.ref b :: .int x :: .ref a :: st) h Q ↔ ∃ q, jx_ar h a t = some q ∧ (jx_in x q.1 ∧ jx_cl h b = some c) ∧ jx_Go P d M n ls st (jx_wr h a t q.1 (va_up q.2 x.toNatClampNeg (some b))) Q := by
  refine jx_opC (x := jx_ar h a t) (p := fun q => jx_in x q.1 ∧ jx_cl h b = some c) (F := fun q => (n, ls, st, jx_wr h a t q.1 (va_up q.2 x.toNatClampNeg (some b)))) hc ?_ ?_ ?_
  · intro q e hp; simp only [jo_rw, e]; rw [if_pos ⟨jx_inB_iff.mpr hp.1, hp.2⟩]
  · intro q e hp; simp only [jo_rw, e]; rw [if_neg (fun z => hp ⟨jx_inB_iff.mp z.1, z.2⟩)]
  · intro e; simp only [jo_rw, e]
theorem jg_len (hc : (P M).2 pc = some (.inl (jo_len n))) : jx_Go P d M pc ls (.ref a :: st) h Q ↔ ∃ q, jx_ai h a = some q ∧ jx_Go P d M n ls (.int (nI q.1) :: st) h Q := jx_opE (F := fun (x : Nat × (Nat → Int32)) => (n, ls, .int (nI x.1) :: st, h)) hc rfl
theorem jg_sl (hc : (P M).2 pc = some (.inl (jo_sl n))) : jx_Go P d M pc ls (.ref 0 :: st) h Q ↔ ∃ q, jx_sc h 0 = some q ∧ jx_Go P d M n ls (.int (nI q.1) :: st) h Q := jx_opE (F := fun (x : Nat × (Nat → Int32)) => (n, ls, .int (nI x.1) :: st, h)) hc rfl
theorem jg_ct (hc : (P M).2 pc = some (.inl (jo_ct n))) : jx_Go P d M pc ls (.ref a :: st) h Q ↔ ∃ q, jx_ai h a = some q ∧ jx_Go P d M n ls (.ref a :: st) h Q := jx_opE (F := fun x => (n, ls, .ref a :: st, h)) hc rfl
theorem jg_nw {fs : List Value} (hc : (P M).2 pc = some (.inl (jo_nw n c fs))) : jx_Go P d M pc ls st h Q ↔ jx_Go P d M n ls (.ref h.1 :: st) (jx_mk h fs.length (.inr (c, fs))) Q := jx_op hc rfl
theorem jg_ni (hc : (P M).2 pc = some (.inl (jo_ni n))) (hx : jx_in x 1000000) : jx_Go P d M pc ls (.int x :: st) h Q ↔ jx_Go P d M n ls (.ref h.1 :: st) (jx_mk h x.toNatClampNeg (.inl (0, x.toNatClampNeg, .inl (fun _ => 0)))) Q := jx_op hc (by simp only [jo_ni]; rw [if_pos (jx_inB_iff.mpr hx)])
theorem jg_cp (hc : (P M).2 pc = some (.inl (jo_cp n))) : jx_Go P d M pc ls (.int z :: .int y :: .ref b :: .int x :: .ref a :: st) h Q ↔ ∃ q, jx_ai h a = some q ∧ ∃ q', jx_ai h b = some q' ∧ (st.length ≤ 4 ∧ ¬ x < 0 ∧ ¬ y < 0 ∧ ¬ z < 0 ∧ x.toNatClampNeg + z.toNatClampNeg ≤ q.1 ∧ y.toNatClampNeg + z.toNatClampNeg ≤ q'.1) ∧ jx_Go P d M n ls st (jx_wi h b q'.1 (va_cpy q.2 q'.2 x.toNatClampNeg y.toNatClampNeg z.toNatClampNeg)) Q := by
  cases e1 : jx_ai h a with
  | none => rw [jx_opN hc (by simp only [jo_cp, e1])]; simp
  | some q =>
    cases e2 : jx_ai h b with
    | none => rw [jx_opN hc (by simp only [jo_cp, e1, e2])]; simp
    | some q' =>
      by_cases hp : st.length ≤ 4 ∧ ¬ x < 0 ∧ ¬ y < 0 ∧ ¬ z < 0 ∧ x.toNatClampNeg + z.toNatClampNeg ≤ q.1 ∧ y.toNatClampNeg + z.toNatClampNeg ≤ q'.1
      · rw [jx_op hc (by simp only [jo_cp, e1, e2]; rw [if_pos hp])]
        constructor
        · exact fun g => ⟨q, rfl, q', rfl, hp, g⟩
        · rintro ⟨_, e, _, e', -, g⟩
          cases e; cases e'; exact g
      · rw [jx_opN hc (by simp only [jo_cp, e1, e2]; rw [if_neg hp])]
        constructor
        · exact False.elim
        · rintro ⟨_, e, _, e', p, -⟩
          cases e; cases e'; exact hp p
theorem jg_cn (hc : (P M).2 pc = some (.inl (jo_cn n))) : jx_Go P d M pc ls (.ref a :: st) h Q ↔ ∃ q, jx_ai h a = some q ∧ st.length ≤ 4 ∧ jx_Go P d M n ls (.ref h.1 :: st) (jx_mk h q.1 (.inl (0, q.1, .inl q.2))) Q := by
  refine jx_opC (x := jx_ai h a) (p := fun q => st.length ≤ 4) (F := fun q => (n, ls, .ref h.1 :: st, jx_mk h q.1 (.inl (0, q.1, .inl q.2)))) hc ?_ ?_ ?_
  · intro q e hp; simp only [jo_cn, e]; rw [if_pos hp]
  · intro q e hp; simp only [jo_cn, e]; rw [if_neg hp]
  · intro e; simp only [jo_cn, e]
end JGS
end
section
-- ===== PART A: goes FIRST, ahead of the names: the tables' words, and 'selects' of the private methods out of them =====
/-- a private method of a class that the tables say can be made, by its rows of tables_1 -/
def lw_okq (q : MethodName × Nat) : Prop := (q.1.cls ≠ "java/lang/invoke/MethodHandle" ∧ q.1.cls ≠ "java/lang/invoke/VarHandle") ∧ Cond.instantiable q.1.cls q.2 ∈ tables_1 ∧ Cond.privateMethod q.1 ∈ tables_1 ∧ Cond.instanceMethod q.1 ∈ tables_1
theorem lw_p0 : lw_okq (⟨"TalkBench$Marks", "readRow", "(LTalkBench$Task;I)V"⟩, 4) := ⟨⟨by decide +kernel, by decide +kernel⟩, List.mem_of_getElem? (i := 87) (by decide +kernel), List.mem_of_getElem? (i := 323) (by decide +kernel), List.mem_of_getElem? (i := 324) (by decide +kernel)⟩
theorem lw_p1 : lw_okq (⟨"TalkBench", "finding", "(I)I"⟩, 12) := ⟨⟨by decide +kernel, by decide +kernel⟩, List.mem_of_getElem? (i := 19) (by decide +kernel), List.mem_of_getElem? (i := 371) (by decide +kernel), List.mem_of_getElem? (i := 372) (by decide +kernel)⟩
theorem lw_p2 : lw_okq (⟨"TalkBench", "takeNewPlaces", "()V"⟩, 12) := ⟨⟨by decide +kernel, by decide +kernel⟩, List.mem_of_getElem? (i := 19) (by decide +kernel), List.mem_of_getElem? (i := 397) (by decide +kernel), List.mem_of_getElem? (i := 398) (by decide +kernel)⟩
theorem lw_p3 : lw_okq (⟨"TalkBench$Task", "areAlike", "(IIZ)Z"⟩, 4) := ⟨⟨by decide +kernel, by decide +kernel⟩, List.mem_of_getElem? (i := 27) (by decide +kernel), List.mem_of_getElem? (i := 480) (by decide +kernel), List.mem_of_getElem? (i := 481) (by decide +kernel)⟩
theorem lw_p4 : lw_okq (⟨"TalkBench$Blocks", "learn", "()V"⟩, 6) := ⟨⟨by decide +kernel, by decide +kernel⟩, List.mem_of_getElem? (i := 171) (by decide +kernel), List.mem_of_getElem? (i := 541) (by decide +kernel), List.mem_of_getElem? (i := 542) (by decide +kernel)⟩
theorem lw_p5 : lw_okq (⟨"TalkBench$Blocks", "learnBlock", "(II)V"⟩, 6) := ⟨⟨by decide +kernel, by decide +kernel⟩, List.mem_of_getElem? (i := 171) (by decide +kernel), List.mem_of_getElem? (i := 545) (by decide +kernel), List.mem_of_getElem? (i := 546) (by decide +kernel)⟩
theorem lw_p6 : lw_okq (⟨"TalkBench$Blocks", "tryPartings", "(III)V"⟩, 6) := ⟨⟨by decide +kernel, by decide +kernel⟩, List.mem_of_getElem? (i := 171) (by decide +kernel), List.mem_of_getElem? (i := 556) (by decide +kernel), List.mem_of_getElem? (i := 557) (by decide +kernel)⟩
theorem lw_p7 : lw_okq (⟨"TalkBench$Talk", "grow", "(III)I"⟩, 9) := ⟨⟨by decide +kernel, by decide +kernel⟩, List.mem_of_getElem? (i := 227) (by decide +kernel), List.mem_of_getElem? (i := 580) (by decide +kernel), List.mem_of_getElem? (i := 581) (by decide +kernel)⟩
theorem lw_p8 : lw_okq (⟨"TalkBench$Blocks", "firstBest", "(III)I"⟩, 6) := ⟨⟨by decide +kernel, by decide +kernel⟩, List.mem_of_getElem? (i := 171) (by decide +kernel), List.mem_of_getElem? (i := 589) (by decide +kernel), List.mem_of_getElem? (i := 590) (by decide +kernel)⟩
theorem lw_p9 : lw_okq (⟨"TalkBench$Blocks", "isPeaceful", "(IZ)Z"⟩, 6) := ⟨⟨by decide +kernel, by decide +kernel⟩, List.mem_of_getElem? (i := 171) (by decide +kernel), List.mem_of_getElem? (i := 617) (by decide +kernel), List.mem_of_getElem? (i := 618) (by decide +kernel)⟩
theorem lw_p10 : lw_okq (⟨"TalkBench$Task", "findPivot", "([III)I"⟩, 4) := ⟨⟨by decide +kernel, by decide +kernel⟩, List.mem_of_getElem? (i := 27) (by decide +kernel), List.mem_of_getElem? (i := 645) (by decide +kernel), List.mem_of_getElem? (i := 646) (by decide +kernel)⟩
theorem lw_p11 : lw_okq (⟨"TalkBench$Task", "clearBelow", "([IIIZ)V"⟩, 4) := ⟨⟨by decide +kernel, by decide +kernel⟩, List.mem_of_getElem? (i := 27) (by decide +kernel), List.mem_of_getElem? (i := 649) (by decide +kernel), List.mem_of_getElem? (i := 650) (by decide +kernel)⟩
theorem lw_p12 : lw_okq (⟨"TalkBench$Searches", "placesThatAre", "(I)I"⟩, 8) := ⟨⟨by decide +kernel, by decide +kernel⟩, List.mem_of_getElem? (i := 288) (by decide +kernel), List.mem_of_getElem? (i := 664) (by decide +kernel), List.mem_of_getElem? (i := 665) (by decide +kernel)⟩
theorem lw_p13 : lw_okq (⟨"TalkBench$Searches", "placesApart", "(II)I"⟩, 8) := ⟨⟨by decide +kernel, by decide +kernel⟩, List.mem_of_getElem? (i := 288) (by decide +kernel), List.mem_of_getElem? (i := 672) (by decide +kernel), List.mem_of_getElem? (i := 673) (by decide +kernel)⟩
theorem lw_p14 : lw_okq (⟨"TalkBench$Searches", "choose", "(III)V"⟩, 8) := ⟨⟨by decide +kernel, by decide +kernel⟩, List.mem_of_getElem? (i := 288) (by decide +kernel), List.mem_of_getElem? (i := 681) (by decide +kernel), List.mem_of_getElem? (i := 682) (by decide +kernel)⟩
theorem lw_p15 : lw_okq (⟨"TalkBench$Searches", "listGreatestBlocks", "(I)V"⟩, 8) := ⟨⟨by decide +kernel, by decide +kernel⟩, List.mem_of_getElem? (i := 288) (by decide +kernel), List.mem_of_getElem? (i := 695) (by decide +kernel), List.mem_of_getElem? (i := 696) (by decide +kernel)⟩
def lw_privs_1 : List (MethodName × Nat) := [(⟨"TalkBench$Marks", "readRow", "(LTalkBench$Task;I)V"⟩, 4), (⟨"TalkBench", "finding", "(I)I"⟩, 12), (⟨"TalkBench", "takeNewPlaces", "()V"⟩, 12), (⟨"TalkBench$Task", "areAlike", "(IIZ)Z"⟩, 4), (⟨"TalkBench$Blocks", "learn", "()V"⟩, 6), (⟨"TalkBench$Blocks", "learnBlock", "(II)V"⟩, 6), (⟨"TalkBench$Blocks", "tryPartings", "(III)V"⟩, 6), (⟨"TalkBench$Talk", "grow", "(III)I"⟩, 9), (⟨"TalkBench$Blocks", "firstBest", "(III)I"⟩, 6), (⟨"TalkBench$Blocks", "isPeaceful", "(IZ)Z"⟩, 6), (⟨"TalkBench$Task", "findPivot", "([III)I"⟩, 4), (⟨"TalkBench$Task", "clearBelow", "([IIIZ)V"⟩, 4), (⟨"TalkBench$Searches", "placesThatAre", "(I)I"⟩, 8), (⟨"TalkBench$Searches", "placesApart", "(II)I"⟩, 8), (⟨"TalkBench$Searches", "choose", "(III)V"⟩, 8), (⟨"TalkBench$Searches", "listGreatestBlocks", "(I)V"⟩, 8)]
theorem lw_r1 : ∀ q ∈ lw_privs_1, lw_okq q := List.forall_mem_cons.mpr ⟨lw_p0, List.forall_mem_cons.mpr ⟨lw_p1, List.forall_mem_cons.mpr ⟨lw_p2, List.forall_mem_cons.mpr ⟨lw_p3, List.forall_mem_cons.mpr ⟨lw_p4, List.forall_mem_cons.mpr ⟨lw_p5, List.forall_mem_cons.mpr ⟨lw_p6, List.forall_mem_cons.mpr ⟨lw_p7, List.forall_mem_cons.mpr ⟨lw_p8, List.forall_mem_cons.mpr ⟨lw_p9, List.forall_mem_cons.mpr ⟨lw_p10, List.forall_mem_cons.mpr ⟨lw_p11, List.forall_mem_cons.mpr ⟨lw_p12, List.forall_mem_cons.mpr ⟨lw_p13, List.forall_mem_cons.mpr ⟨lw_p14, List.forall_mem_cons.mpr ⟨lw_p15, fun _ h => absurd h List.not_mem_nil⟩⟩⟩⟩⟩⟩⟩⟩⟩⟩⟩⟩⟩⟩⟩⟩
theorem lw_p16 : lw_okq (⟨"TalkBench$Searches", "rowsWithout", "(II)I"⟩, 8) := ⟨⟨by decide +kernel, by decide +kernel⟩, List.mem_of_getElem? (i := 288) (by decide +kernel), List.mem_of_getElem? (i := 699) (by decide +kernel), List.mem_of_getElem? (i := 700) (by decide +kernel)⟩
theorem lw_p17 : lw_okq (⟨"TalkBench$Searches", "placesOf", "(II)I"⟩, 8) := ⟨⟨by decide +kernel, by decide +kernel⟩, List.mem_of_getElem? (i := 288) (by decide +kernel), List.mem_of_getElem? (i := 703) (by decide +kernel), List.mem_of_getElem? (i := 704) (by decide +kernel)⟩
theorem lw_p18 : lw_okq (⟨"TalkBench$Searches", "countRowsWith", "(I)I"⟩, 8) := ⟨⟨by decide +kernel, by decide +kernel⟩, List.mem_of_getElem? (i := 288) (by decide +kernel), List.mem_of_getElem? (i := 708) (by decide +kernel), List.mem_of_getElem? (i := 709) (by decide +kernel)⟩
theorem lw_p19 : lw_okq (⟨"TalkBench$Searches", "coverRest", "(II)V"⟩, 8) := ⟨⟨by decide +kernel, by decide +kernel⟩, List.mem_of_getElem? (i := 288) (by decide +kernel), List.mem_of_getElem? (i := 712) (by decide +kernel), List.mem_of_getElem? (i := 713) (by decide +kernel)⟩
theorem lw_p20 : lw_okq (⟨"TalkBench$Scales", "weighBlocks", "()V"⟩, 8) := ⟨⟨by decide +kernel, by decide +kernel⟩, List.mem_of_getElem? (i := 196) (by decide +kernel), List.mem_of_getElem? (i := 731) (by decide +kernel), List.mem_of_getElem? (i := 732) (by decide +kernel)⟩
theorem lw_p21 : lw_okq (⟨"TalkBench$Scales", "weighBlock", "(II)V"⟩, 8) := ⟨⟨by decide +kernel, by decide +kernel⟩, List.mem_of_getElem? (i := 196) (by decide +kernel), List.mem_of_getElem? (i := 735) (by decide +kernel), List.mem_of_getElem? (i := 736) (by decide +kernel)⟩
theorem lw_p22 : lw_okq (⟨"TalkBench$Scales", "addUp", "(III)V"⟩, 8) := ⟨⟨by decide +kernel, by decide +kernel⟩, List.mem_of_getElem? (i := 196) (by decide +kernel), List.mem_of_getElem? (i := 741) (by decide +kernel), List.mem_of_getElem? (i := 742) (by decide +kernel)⟩
theorem lw_p23 : lw_okq (⟨"TalkBench$Scales", "allowOneBitMore", "()V"⟩, 8) := ⟨⟨by decide +kernel, by decide +kernel⟩, List.mem_of_getElem? (i := 196) (by decide +kernel), List.mem_of_getElem? (i := 759) (by decide +kernel), List.mem_of_getElem? (i := 760) (by decide +kernel)⟩
theorem lw_p24 : lw_okq (⟨"TalkBench$Scales", "tryPartings", "(III)V"⟩, 8) := ⟨⟨by decide +kernel, by decide +kernel⟩, List.mem_of_getElem? (i := 196) (by decide +kernel), List.mem_of_getElem? (i := 763) (by decide +kernel), List.mem_of_getElem? (i := 764) (by decide +kernel)⟩
theorem lw_p25 : lw_okq (⟨"TalkBench$Judge", "isRight", "(III)Z"⟩, 6) := ⟨⟨by decide +kernel, by decide +kernel⟩, List.mem_of_getElem? (i := 262) (by decide +kernel), List.mem_of_getElem? (i := 783) (by decide +kernel), List.mem_of_getElem? (i := 784) (by decide +kernel)⟩
theorem lw_p26 : lw_okq (⟨"TalkBench$Judge", "endIsRight", "(IIII)Z"⟩, 6) := ⟨⟨by decide +kernel, by decide +kernel⟩, List.mem_of_getElem? (i := 262) (by decide +kernel), List.mem_of_getElem? (i := 787) (by decide +kernel), List.mem_of_getElem? (i := 788) (by decide +kernel)⟩
theorem lw_p27 : lw_okq (⟨"TalkBench$Judge", "liesWithEarlier", "(I)Z"⟩, 6) := ⟨⟨by decide +kernel, by decide +kernel⟩, List.mem_of_getElem? (i := 262) (by decide +kernel), List.mem_of_getElem? (i := 803) (by decide +kernel), List.mem_of_getElem? (i := 804) (by decide +kernel)⟩
theorem lw_p28 : lw_okq (⟨"TalkBench$Likeness", "matchRest", "(IILTalkBench$Task;)Z"⟩, 2) := ⟨⟨by decide +kernel, by decide +kernel⟩, List.mem_of_getElem? (i := 119) (by decide +kernel), List.mem_of_getElem? (i := 843) (by decide +kernel), List.mem_of_getElem? (i := 844) (by decide +kernel)⟩
theorem lw_p29 : lw_okq (⟨"TalkBenchModel", "finding", "(I)I"⟩, 38) := ⟨⟨by decide +kernel, by decide +kernel⟩, List.mem_of_getElem? (i := 865) (by decide +kernel), List.mem_of_getElem? (i := 992) (by decide +kernel), List.mem_of_getElem? (i := 993) (by decide +kernel)⟩
theorem lw_p30 : lw_okq (⟨"TalkBenchModel", "load", "([II)V"⟩, 38) := ⟨⟨by decide +kernel, by decide +kernel⟩, List.mem_of_getElem? (i := 865) (by decide +kernel), List.mem_of_getElem? (i := 996) (by decide +kernel), List.mem_of_getElem? (i := 997) (by decide +kernel)⟩
theorem lw_p31 : lw_okq (⟨"TalkBenchModel", "keepTask", "()V"⟩, 38) := ⟨⟨by decide +kernel, by decide +kernel⟩, List.mem_of_getElem? (i := 865) (by decide +kernel), List.mem_of_getElem? (i := 1004) (by decide +kernel), List.mem_of_getElem? (i := 1005) (by decide +kernel)⟩
def lw_privs_2 : List (MethodName × Nat) := [(⟨"TalkBench$Searches", "rowsWithout", "(II)I"⟩, 8), (⟨"TalkBench$Searches", "placesOf", "(II)I"⟩, 8), (⟨"TalkBench$Searches", "countRowsWith", "(I)I"⟩, 8), (⟨"TalkBench$Searches", "coverRest", "(II)V"⟩, 8), (⟨"TalkBench$Scales", "weighBlocks", "()V"⟩, 8), (⟨"TalkBench$Scales", "weighBlock", "(II)V"⟩, 8), (⟨"TalkBench$Scales", "addUp", "(III)V"⟩, 8), (⟨"TalkBench$Scales", "allowOneBitMore", "()V"⟩, 8), (⟨"TalkBench$Scales", "tryPartings", "(III)V"⟩, 8), (⟨"TalkBench$Judge", "isRight", "(III)Z"⟩, 6), (⟨"TalkBench$Judge", "endIsRight", "(IIII)Z"⟩, 6), (⟨"TalkBench$Judge", "liesWithEarlier", "(I)Z"⟩, 6), (⟨"TalkBench$Likeness", "matchRest", "(IILTalkBench$Task;)Z"⟩, 2), (⟨"TalkBenchModel", "finding", "(I)I"⟩, 38), (⟨"TalkBenchModel", "load", "([II)V"⟩, 38), (⟨"TalkBenchModel", "keepTask", "()V"⟩, 38)]
theorem lw_r2 : ∀ q ∈ lw_privs_2, lw_okq q := List.forall_mem_cons.mpr ⟨lw_p16, List.forall_mem_cons.mpr ⟨lw_p17, List.forall_mem_cons.mpr ⟨lw_p18, List.forall_mem_cons.mpr ⟨lw_p19, List.forall_mem_cons.mpr ⟨lw_p20, List.forall_mem_cons.mpr ⟨lw_p21, List.forall_mem_cons.mpr ⟨lw_p22, List.forall_mem_cons.mpr ⟨lw_p23, List.forall_mem_cons.mpr ⟨lw_p24, List.forall_mem_cons.mpr ⟨lw_p25, List.forall_mem_cons.mpr ⟨lw_p26, List.forall_mem_cons.mpr ⟨lw_p27, List.forall_mem_cons.mpr ⟨lw_p28, List.forall_mem_cons.mpr ⟨lw_p29, List.forall_mem_cons.mpr ⟨lw_p30, List.forall_mem_cons.mpr ⟨lw_p31, fun _ h => absurd h List.not_mem_nil⟩⟩⟩⟩⟩⟩⟩⟩⟩⟩⟩⟩⟩⟩⟩⟩
theorem lw_p32 : lw_okq (⟨"TalkBenchModel", "save", "([II)V"⟩, 38) := ⟨⟨by decide +kernel, by decide +kernel⟩, List.mem_of_getElem? (i := 865) (by decide +kernel), List.mem_of_getElem? (i := 1008) (by decide +kernel), List.mem_of_getElem? (i := 1009) (by decide +kernel)⟩
theorem lw_p33 : lw_okq (⟨"TalkBenchModel", "isPlace", "(II)Z"⟩, 38) := ⟨⟨by decide +kernel, by decide +kernel⟩, List.mem_of_getElem? (i := 865) (by decide +kernel), List.mem_of_getElem? (i := 1016) (by decide +kernel), List.mem_of_getElem? (i := 1017) (by decide +kernel)⟩
theorem lw_p34 : lw_okq (⟨"TalkBenchModel", "ones", "(I)I"⟩, 38) := ⟨⟨by decide +kernel, by decide +kernel⟩, List.mem_of_getElem? (i := 865) (by decide +kernel), List.mem_of_getElem? (i := 1035) (by decide +kernel), List.mem_of_getElem? (i := 1036) (by decide +kernel)⟩
theorem lw_p35 : lw_okq (⟨"TalkBenchModel", "at", "(ZII)I"⟩, 38) := ⟨⟨by decide +kernel, by decide +kernel⟩, List.mem_of_getElem? (i := 865) (by decide +kernel), List.mem_of_getElem? (i := 1051) (by decide +kernel), List.mem_of_getElem? (i := 1052) (by decide +kernel)⟩
theorem lw_p36 : lw_okq (⟨"TalkBenchModel", "hasPart", "(III)Z"⟩, 38) := ⟨⟨by decide +kernel, by decide +kernel⟩, List.mem_of_getElem? (i := 865) (by decide +kernel), List.mem_of_getElem? (i := 1070) (by decide +kernel), List.mem_of_getElem? (i := 1071) (by decide +kernel)⟩
theorem lw_p37 : lw_okq (⟨"TalkBenchModel", "areSets", "(II)Z"⟩, 38) := ⟨⟨by decide +kernel, by decide +kernel⟩, List.mem_of_getElem? (i := 865) (by decide +kernel), List.mem_of_getElem? (i := 1082) (by decide +kernel), List.mem_of_getElem? (i := 1083) (by decide +kernel)⟩
theorem lw_p38 : lw_okq (⟨"TalkBenchModel", "tellBlocks", "()V"⟩, 38) := ⟨⟨by decide +kernel, by decide +kernel⟩, List.mem_of_getElem? (i := 865) (by decide +kernel), List.mem_of_getElem? (i := 1086) (by decide +kernel), List.mem_of_getElem? (i := 1087) (by decide +kernel)⟩
theorem lw_p39 : lw_okq (⟨"TalkBenchModel", "all", "()I"⟩, 38) := ⟨⟨by decide +kernel, by decide +kernel⟩, List.mem_of_getElem? (i := 865) (by decide +kernel), List.mem_of_getElem? (i := 1090) (by decide +kernel), List.mem_of_getElem? (i := 1091) (by decide +kernel)⟩
theorem lw_p40 : lw_okq (⟨"TalkBenchModel", "isBlock", "(I)Z"⟩, 38) := ⟨⟨by decide +kernel, by decide +kernel⟩, List.mem_of_getElem? (i := 865) (by decide +kernel), List.mem_of_getElem? (i := 1094) (by decide +kernel), List.mem_of_getElem? (i := 1095) (by decide +kernel)⟩
theorem lw_p41 : lw_okq (⟨"TalkBenchModel", "isEven", "(I)Z"⟩, 38) := ⟨⟨by decide +kernel, by decide +kernel⟩, List.mem_of_getElem? (i := 865) (by decide +kernel), List.mem_of_getElem? (i := 1098) (by decide +kernel), List.mem_of_getElem? (i := 1099) (by decide +kernel)⟩
theorem lw_p42 : lw_okq (⟨"TalkBenchModel", "has", "(I)I"⟩, 38) := ⟨⟨by decide +kernel, by decide +kernel⟩, List.mem_of_getElem? (i := 865) (by decide +kernel), List.mem_of_getElem? (i := 1102) (by decide +kernel), List.mem_of_getElem? (i := 1103) (by decide +kernel)⟩
theorem lw_p43 : lw_okq (⟨"TalkBenchModel", "parted", "(IIZ)Z"⟩, 38) := ⟨⟨by decide +kernel, by decide +kernel⟩, List.mem_of_getElem? (i := 865) (by decide +kernel), List.mem_of_getElem? (i := 1109) (by decide +kernel), List.mem_of_getElem? (i := 1110) (by decide +kernel)⟩
theorem lw_p44 : lw_okq (⟨"TalkBenchModel", "takeBest", "(IZI)V"⟩, 38) := ⟨⟨by decide +kernel, by decide +kernel⟩, List.mem_of_getElem? (i := 865) (by decide +kernel), List.mem_of_getElem? (i := 1113) (by decide +kernel), List.mem_of_getElem? (i := 1114) (by decide +kernel)⟩
theorem lw_p45 : lw_okq (⟨"TalkBenchModel", "parting", "(I)I"⟩, 38) := ⟨⟨by decide +kernel, by decide +kernel⟩, List.mem_of_getElem? (i := 865) (by decide +kernel), List.mem_of_getElem? (i := 1125) (by decide +kernel), List.mem_of_getElem? (i := 1126) (by decide +kernel)⟩
theorem lw_p46 : lw_okq (⟨"TalkBenchModel", "reaches", "(II)Z"⟩, 38) := ⟨⟨by decide +kernel, by decide +kernel⟩, List.mem_of_getElem? (i := 865) (by decide +kernel), List.mem_of_getElem? (i := 1129) (by decide +kernel), List.mem_of_getElem? (i := 1130) (by decide +kernel)⟩
theorem lw_p47 : lw_okq (⟨"TalkBenchModel", "quarrel", "(ZII)Z"⟩, 38) := ⟨⟨by decide +kernel, by decide +kernel⟩, List.mem_of_getElem? (i := 865) (by decide +kernel), List.mem_of_getElem? (i := 1145) (by decide +kernel), List.mem_of_getElem? (i := 1146) (by decide +kernel)⟩
def lw_privs_3 : List (MethodName × Nat) := [(⟨"TalkBenchModel", "save", "([II)V"⟩, 38), (⟨"TalkBenchModel", "isPlace", "(II)Z"⟩, 38), (⟨"TalkBenchModel", "ones", "(I)I"⟩, 38), (⟨"TalkBenchModel", "at", "(ZII)I"⟩, 38), (⟨"TalkBenchModel", "hasPart", "(III)Z"⟩, 38), (⟨"TalkBenchModel", "areSets", "(II)Z"⟩, 38), (⟨"TalkBenchModel", "tellBlocks", "()V"⟩, 38), (⟨"TalkBenchModel", "all", "()I"⟩, 38), (⟨"TalkBenchModel", "isBlock", "(I)Z"⟩, 38), (⟨"TalkBenchModel", "isEven", "(I)Z"⟩, 38), (⟨"TalkBenchModel", "has", "(I)I"⟩, 38), (⟨"TalkBenchModel", "parted", "(IIZ)Z"⟩, 38), (⟨"TalkBenchModel", "takeBest", "(IZI)V"⟩, 38), (⟨"TalkBenchModel", "parting", "(I)I"⟩, 38), (⟨"TalkBenchModel", "reaches", "(II)Z"⟩, 38), (⟨"TalkBenchModel", "quarrel", "(ZII)Z"⟩, 38)]
theorem lw_r3 : ∀ q ∈ lw_privs_3, lw_okq q := List.forall_mem_cons.mpr ⟨lw_p32, List.forall_mem_cons.mpr ⟨lw_p33, List.forall_mem_cons.mpr ⟨lw_p34, List.forall_mem_cons.mpr ⟨lw_p35, List.forall_mem_cons.mpr ⟨lw_p36, List.forall_mem_cons.mpr ⟨lw_p37, List.forall_mem_cons.mpr ⟨lw_p38, List.forall_mem_cons.mpr ⟨lw_p39, List.forall_mem_cons.mpr ⟨lw_p40, List.forall_mem_cons.mpr ⟨lw_p41, List.forall_mem_cons.mpr ⟨lw_p42, List.forall_mem_cons.mpr ⟨lw_p43, List.forall_mem_cons.mpr ⟨lw_p44, List.forall_mem_cons.mpr ⟨lw_p45, List.forall_mem_cons.mpr ⟨lw_p46, List.forall_mem_cons.mpr ⟨lw_p47, fun _ h => absurd h List.not_mem_nil⟩⟩⟩⟩⟩⟩⟩⟩⟩⟩⟩⟩⟩⟩⟩⟩
theorem lw_p48 : lw_okq (⟨"TalkBenchModel", "swapLines", "(II)V"⟩, 38) := ⟨⟨by decide +kernel, by decide +kernel⟩, List.mem_of_getElem? (i := 865) (by decide +kernel), List.mem_of_getElem? (i := 1158) (by decide +kernel), List.mem_of_getElem? (i := 1159) (by decide +kernel)⟩
theorem lw_p49 : lw_okq (⟨"TalkBenchModel", "lieTogether", "(II)Z"⟩, 38) := ⟨⟨by decide +kernel, by decide +kernel⟩, List.mem_of_getElem? (i := 865) (by decide +kernel), List.mem_of_getElem? (i := 1166) (by decide +kernel), List.mem_of_getElem? (i := 1167) (by decide +kernel)⟩
theorem lw_p50 : lw_okq (⟨"TalkBenchModel", "covers", "(III)Z"⟩, 38) := ⟨⟨by decide +kernel, by decide +kernel⟩, List.mem_of_getElem? (i := 865) (by decide +kernel), List.mem_of_getElem? (i := 1174) (by decide +kernel), List.mem_of_getElem? (i := 1175) (by decide +kernel)⟩
theorem lw_p51 : lw_okq (⟨"TalkBenchModel", "rowsFor", "(II)I"⟩, 38) := ⟨⟨by decide +kernel, by decide +kernel⟩, List.mem_of_getElem? (i := 865) (by decide +kernel), List.mem_of_getElem? (i := 1178) (by decide +kernel), List.mem_of_getElem? (i := 1179) (by decide +kernel)⟩
theorem lw_p52 : lw_okq (⟨"TalkBenchModel", "placesOf", "(II)I"⟩, 38) := ⟨⟨by decide +kernel, by decide +kernel⟩, List.mem_of_getElem? (i := 865) (by decide +kernel), List.mem_of_getElem? (i := 1182) (by decide +kernel), List.mem_of_getElem? (i := 1183) (by decide +kernel)⟩
theorem lw_p53 : lw_okq (⟨"TalkBenchModel", "weightOf", "(II)I"⟩, 38) := ⟨⟨by decide +kernel, by decide +kernel⟩, List.mem_of_getElem? (i := 865) (by decide +kernel), List.mem_of_getElem? (i := 1194) (by decide +kernel), List.mem_of_getElem? (i := 1195) (by decide +kernel)⟩
theorem lw_p54 : lw_okq (⟨"TalkBenchModel", "lessWrong", "(IZIII)I"⟩, 38) := ⟨⟨by decide +kernel, by decide +kernel⟩, List.mem_of_getElem? (i := 865) (by decide +kernel), List.mem_of_getElem? (i := 1202) (by decide +kernel), List.mem_of_getElem? (i := 1203) (by decide +kernel)⟩
theorem lw_p55 : lw_okq (⟨"TalkBenchModel", "slotPlace", "(III)I"⟩, 38) := ⟨⟨by decide +kernel, by decide +kernel⟩, List.mem_of_getElem? (i := 865) (by decide +kernel), List.mem_of_getElem? (i := 1233) (by decide +kernel), List.mem_of_getElem? (i := 1234) (by decide +kernel)⟩
def lw_privs_4 : List (MethodName × Nat) := [(⟨"TalkBenchModel", "swapLines", "(II)V"⟩, 38), (⟨"TalkBenchModel", "lieTogether", "(II)Z"⟩, 38), (⟨"TalkBenchModel", "covers", "(III)Z"⟩, 38), (⟨"TalkBenchModel", "rowsFor", "(II)I"⟩, 38), (⟨"TalkBenchModel", "placesOf", "(II)I"⟩, 38), (⟨"TalkBenchModel", "weightOf", "(II)I"⟩, 38), (⟨"TalkBenchModel", "lessWrong", "(IZIII)I"⟩, 38), (⟨"TalkBenchModel", "slotPlace", "(III)I"⟩, 38)]
theorem lw_r4 : ∀ q ∈ lw_privs_4, lw_okq q := List.forall_mem_cons.mpr ⟨lw_p48, List.forall_mem_cons.mpr ⟨lw_p49, List.forall_mem_cons.mpr ⟨lw_p50, List.forall_mem_cons.mpr ⟨lw_p51, List.forall_mem_cons.mpr ⟨lw_p52, List.forall_mem_cons.mpr ⟨lw_p53, List.forall_mem_cons.mpr ⟨lw_p54, List.forall_mem_cons.mpr ⟨lw_p55, fun _ h => absurd h List.not_mem_nil⟩⟩⟩⟩⟩⟩⟩⟩
def lw_privs : List (MethodName × Nat) := lw_privs_1 ++ (lw_privs_2 ++ (lw_privs_3 ++ (lw_privs_4)))
def lw_tbl : List Cond := k2_sels lw_privs ++ tables_1
theorem lw_privs_ok : ∀ q ∈ lw_privs, lw_okq q := by
  show ∀ q ∈ lw_privs_1 ++ (lw_privs_2 ++ (lw_privs_3 ++ (lw_privs_4))), lw_okq q
  exact List.forall_mem_append.mpr ⟨lw_r1, List.forall_mem_append.mpr ⟨lw_r2, List.forall_mem_append.mpr ⟨lw_r3, lw_r4⟩⟩⟩
def RX0 : String := "TalkBench$Blocks"
def TX0 : u_T := fun k => match k with
  | 0 => ("TalkBench$Blocks", "marks", "LTalkBench$Marks;", true)
  | 1 => ("TalkBench$Blocks", "partings", "LTalkBench$Partings;", true)
  | 2 => ("TalkBench$Blocks", "bitsOf", "[I", true)
  | 3 => ("TalkBench$Blocks", "endsOf", "[I", true)
  | 4 => ("TalkBench$Blocks", "classesOf", "[I", true)
  | _ => ("TalkBench$Blocks", "known", "Z", false)
def tyX0 : Nat → FieldType := fun k => match k with
  | 0 => .object "TalkBench$Marks"
  | 1 => .object "TalkBench$Partings"
  | 2 => .array .int
  | 3 => .array .int
  | 4 => .array .int
  | _ => .boolean
theorem nmX0 : ∀ a, a < 6 → ∀ b, b < 6 → a ≠ b → (TX0 a).2.1 ≠ (TX0 b).2.1 := by decide +kernel
theorem tyX0_ok : ∀ k, k < 6 → parseFieldDescriptor (TX0 k).2.2.1 = some (tyX0 k) := by decide +kernel
abbrev cX0_init : ByteArray := prog_2_method_1_code
def yX0_init : MethodName := ⟨RX0, "<init>", "(LTalkBench$Marks;LTalkBench$Partings;)V"⟩
abbrev cX0_forget : ByteArray := prog_2_method_2_code
def yX0_forget : MethodName := ⟨RX0, "forget", "()V"⟩
abbrev cX0_leastBits : ByteArray := prog_2_method_3_code
def yX0_leastBits : MethodName := ⟨RX0, "leastBits", "(II)I"⟩
abbrev cX0_fewestEnds : ByteArray := prog_2_method_4_code
def yX0_fewestEnds : MethodName := ⟨RX0, "fewestEnds", "(II)I"⟩
abbrev cX0_learn : ByteArray := prog_2_method_5_code
def yX0_learn : MethodName := ⟨RX0, "learn", "()V"⟩
abbrev cX0_learnBlock : ByteArray := prog_2_method_6_code
def yX0_learnBlock : MethodName := ⟨RX0, "learnBlock", "(II)V"⟩
abbrev cX0_tryPartings : ByteArray := prog_2_method_7_code
def yX0_tryPartings : MethodName := ⟨RX0, "tryPartings", "(III)V"⟩
abbrev cX0_bestParting : ByteArray := prog_2_method_8_code
def yX0_bestParting : MethodName := ⟨RX0, "bestParting", "(II)I"⟩
abbrev cX0_firstBest : ByteArray := prog_2_method_9_code
def yX0_firstBest : MethodName := ⟨RX0, "firstBest", "(III)I"⟩
abbrev cX0_fewestClasses : ByteArray := prog_2_method_10_code
def yX0_fewestClasses : MethodName := ⟨RX0, "fewestClasses", "(Z)I"⟩
abbrev cX0_isPeaceful : ByteArray := prog_2_method_11_code
def yX0_isPeaceful : MethodName := ⟨RX0, "isPeaceful", "(IZ)Z"⟩
def RX1 : String := "TalkBench$History"
def TX1 : u_T := fun k => match k with
  | 0 => ("TalkBench$History", "tasks", "[LTalkBench$Task;", true)
  | 1 => ("TalkBench$History", "next", "I", false)
  | _ => ("TalkBench$History", "count", "I", false)
def tyX1 : Nat → FieldType := fun k => match k with
  | 0 => .array (.object "TalkBench$Task")
  | 1 => .int
  | _ => .int
theorem nmX1 : ∀ a, a < 3 → ∀ b, b < 3 → a ≠ b → (TX1 a).2.1 ≠ (TX1 b).2.1 := by decide +kernel
theorem tyX1_ok : ∀ k, k < 3 → parseFieldDescriptor (TX1 k).2.2.1 = some (tyX1 k) := by decide +kernel
abbrev cX1_init : ByteArray := prog_3_method_1_code
def yX1_init : MethodName := ⟨RX1, "<init>", "()V"⟩
abbrev cX1_push : ByteArray := prog_3_method_2_code
def yX1_push : MethodName := ⟨RX1, "push", "(LTalkBench$Task;)V"⟩
abbrev cX1_pop : ByteArray := prog_3_method_3_code
def yX1_pop : MethodName := ⟨RX1, "pop", "(LTalkBench$Task;)V"⟩
def RX2 : String := "TalkBench$Judge"
def TX2 : u_T := fun k => match k with
  | 0 => ("TalkBench$Judge", "task", "LTalkBench$Task;", true)
  | 1 => ("TalkBench$Judge", "marks", "LTalkBench$Marks;", true)
  | 2 => ("TalkBench$Judge", "numbers", "[I", true)
  | 3 => ("TalkBench$Judge", "count", "I", false)
  | 4 => ("TalkBench$Judge", "knotsRead", "I", false)
  | _ => ("TalkBench$Judge", "mostBits", "I", false)
def tyX2 : Nat → FieldType := fun k => match k with
  | 0 => .object "TalkBench$Task"
  | 1 => .object "TalkBench$Marks"
  | 2 => .array .int
  | 3 => .int
  | 4 => .int
  | _ => .int
theorem nmX2 : ∀ a, a < 6 → ∀ b, b < 6 → a ≠ b → (TX2 a).2.1 ≠ (TX2 b).2.1 := by decide +kernel
theorem tyX2_ok : ∀ k, k < 6 → parseFieldDescriptor (TX2 k).2.2.1 = some (tyX2 k) := by decide +kernel
abbrev cX2_init : ByteArray := prog_4_method_1_code
def yX2_init : MethodName := ⟨RX2, "<init>", "(LTalkBench$Task;LTalkBench$Marks;)V"⟩
abbrev cX2_take : ByteArray := prog_4_method_2_code
def yX2_take : MethodName := ⟨RX2, "take", "(I)V"⟩
abbrev cX2_judgeTalk : ByteArray := prog_4_method_3_code
def yX2_judgeTalk : MethodName := ⟨RX2, "judgeTalk", "()I"⟩
abbrev cX2_isRight : ByteArray := prog_4_method_4_code
def yX2_isRight : MethodName := ⟨RX2, "isRight", "(III)Z"⟩
abbrev cX2_endIsRight : ByteArray := prog_4_method_5_code
def yX2_endIsRight : MethodName := ⟨RX2, "endIsRight", "(IIII)Z"⟩
abbrev cX2_judgeFooling : ByteArray := prog_4_method_6_code
def yX2_judgeFooling : MethodName := ⟨RX2, "judgeFooling", "(I)I"⟩
abbrev cX2_liesWithEarlier : ByteArray := prog_4_method_7_code
def yX2_liesWithEarlier : MethodName := ⟨RX2, "liesWithEarlier", "(I)Z"⟩
def RX3 : String := "TalkBench$Likeness"
def TX3 : u_T := fun k => match k with
  | 0 => ("TalkBench$Likeness", "cut", "[[I", true)
  | _ => ("TalkBench$Likeness", "otherCut", "[[I", true)
def tyX3 : Nat → FieldType := fun k => match k with
  | 0 => .array (.array .int)
  | _ => .array (.array .int)
theorem nmX3 : ∀ a, a < 2 → ∀ b, b < 2 → a ≠ b → (TX3 a).2.1 ≠ (TX3 b).2.1 := by decide +kernel
theorem tyX3_ok : ∀ k, k < 2 → parseFieldDescriptor (TX3 k).2.2.1 = some (tyX3 k) := by decide +kernel
abbrev cX3_init : ByteArray := prog_5_method_1_code
def yX3_init : MethodName := ⟨RX3, "<init>", "()V"⟩
abbrev cX3_isReordered : ByteArray := prog_5_method_2_code
def yX3_isReordered : MethodName := ⟨RX3, "isReordered", "(LTalkBench$Task;LTalkBench$Task;)Z"⟩
abbrev cX3_matchRest : ByteArray := prog_5_method_3_code
def yX3_matchRest : MethodName := ⟨RX3, "matchRest", "(IILTalkBench$Task;)Z"⟩
abbrev cX3_addRow : ByteArray := prog_5_method_4_code
def yX3_addRow : MethodName := ⟨RX3, "addRow", "([[IILTalkBench$Task;I)V"⟩
abbrev cX3_haveSameColumns : ByteArray := prog_5_method_5_code
def yX3_haveSameColumns : MethodName := ⟨RX3, "haveSameColumns", "([I[II)Z"⟩
abbrev cX3_findFree : ByteArray := prog_5_method_6_code
def yX3_findFree : MethodName := ⟨RX3, "findFree", "([IIII)I"⟩
def RX4 : String := "TalkBench$Marks"
def TX4 : u_T := fun k => match k with
  | 0 => ("TalkBench$Marks", "allRows", "I", false)
  | 1 => ("TalkBench$Marks", "allColumns", "I", false)
  | 2 => ("TalkBench$Marks", "ones", "[I", true)
  | _ => ("TalkBench$Marks", "zeros", "[I", true)
def tyX4 : Nat → FieldType := fun k => match k with
  | 0 => .int
  | 1 => .int
  | 2 => .array .int
  | _ => .array .int
theorem nmX4 : ∀ a, a < 4 → ∀ b, b < 4 → a ≠ b → (TX4 a).2.1 ≠ (TX4 b).2.1 := by decide +kernel
theorem tyX4_ok : ∀ k, k < 4 → parseFieldDescriptor (TX4 k).2.2.1 = some (tyX4 k) := by decide +kernel
abbrev cX4_init : ByteArray := prog_6_method_1_code
def yX4_init : MethodName := ⟨RX4, "<init>", "()V"⟩
abbrev cX4_read : ByteArray := prog_6_method_2_code
def yX4_read : MethodName := ⟨RX4, "read", "(LTalkBench$Task;)V"⟩
abbrev cX4_readRow : ByteArray := prog_6_method_3_code
def yX4_readRow : MethodName := ⟨RX4, "readRow", "(LTalkBench$Task;I)V"⟩
abbrev cX4_hasBlock : ByteArray := prog_6_method_4_code
def yX4_hasBlock : MethodName := ⟨RX4, "hasBlock", "(II)Z"⟩
abbrev cX4_isEven : ByteArray := prog_6_method_5_code
def yX4_isEven : MethodName := ⟨RX4, "isEven", "(II)Z"⟩
abbrev cX4_columnsWith : ByteArray := prog_6_method_6_code
def yX4_columnsWith : MethodName := ⟨RX4, "columnsWith", "(II)I"⟩
abbrev cX4_areInOneEvenBlock : ByteArray := prog_6_method_7_code
def yX4_areInOneEvenBlock : MethodName := ⟨RX4, "areInOneEvenBlock", "(II)Z"⟩
def RX5 : String := "TalkBench$Partings"
def TX5 : u_T := fun k => match k with
  | 0 => ("TalkBench$Partings", "from", "[I", true)
  | _ => ("TalkBench$Partings", "seconds", "[I", true)
def tyX5 : Nat → FieldType := fun k => match k with
  | 0 => .array .int
  | _ => .array .int
theorem nmX5 : ∀ a, a < 2 → ∀ b, b < 2 → a ≠ b → (TX5 a).2.1 ≠ (TX5 b).2.1 := by decide +kernel
theorem tyX5_ok : ∀ k, k < 2 → parseFieldDescriptor (TX5 k).2.2.1 = some (tyX5 k) := by decide +kernel
abbrev cX5_init : ByteArray := prog_7_method_1_code
def yX5_init : MethodName := ⟨RX5, "<init>", "()V"⟩
def RX6 : String := "TalkBench$Scales"
def TX6 : u_T := fun k => match k with
  | 0 => ("TalkBench$Scales", "task", "LTalkBench$Task;", true)
  | 1 => ("TalkBench$Scales", "marks", "LTalkBench$Marks;", true)
  | 2 => ("TalkBench$Scales", "partings", "LTalkBench$Partings;", true)
  | 3 => ("TalkBench$Scales", "ones", "[I", true)
  | 4 => ("TalkBench$Scales", "zeros", "[I", true)
  | 5 => ("TalkBench$Scales", "loss", "[I", true)
  | 6 => ("TalkBench$Scales", "lossOfAll", "[I", true)
  | _ => ("TalkBench$Scales", "bitsOfLoss", "I", false)
def tyX6 : Nat → FieldType := fun k => match k with
  | 0 => .object "TalkBench$Task"
  | 1 => .object "TalkBench$Marks"
  | 2 => .object "TalkBench$Partings"
  | 3 => .array .int
  | 4 => .array .int
  | 5 => .array .int
  | 6 => .array .int
  | _ => .int
theorem nmX6 : ∀ a, a < 8 → ∀ b, b < 8 → a ≠ b → (TX6 a).2.1 ≠ (TX6 b).2.1 := by decide +kernel
theorem tyX6_ok : ∀ k, k < 8 → parseFieldDescriptor (TX6 k).2.2.1 = some (tyX6 k) := by decide +kernel
abbrev cX6_init : ByteArray := prog_8_method_1_code
def yX6_init : MethodName := ⟨RX6, "<init>", "(LTalkBench$Task;LTalkBench$Marks;LTalkBench$Partings;)V"⟩
abbrev cX6_forget : ByteArray := prog_8_method_2_code
def yX6_forget : MethodName := ⟨RX6, "forget", "()V"⟩
abbrev cX6_greatestDifference : ByteArray := prog_8_method_3_code
def yX6_greatestDifference : MethodName := ⟨RX6, "greatestDifference", "()I"⟩
abbrev cX6_leastLoss : ByteArray := prog_8_method_4_code
def yX6_leastLoss : MethodName := ⟨RX6, "leastLoss", "(I)I"⟩
abbrev cX6_weighBlocks : ByteArray := prog_8_method_5_code
def yX6_weighBlocks : MethodName := ⟨RX6, "weighBlocks", "()V"⟩
abbrev cX6_weighBlock : ByteArray := prog_8_method_6_code
def yX6_weighBlock : MethodName := ⟨RX6, "weighBlock", "(II)V"⟩
abbrev cX6_addUp : ByteArray := prog_8_method_7_code
def yX6_addUp : MethodName := ⟨RX6, "addUp", "(III)V"⟩
abbrev cX6_allowOneBitMore : ByteArray := prog_8_method_8_code
def yX6_allowOneBitMore : MethodName := ⟨RX6, "allowOneBitMore", "()V"⟩
abbrev cX6_tryPartings : ByteArray := prog_8_method_9_code
def yX6_tryPartings : MethodName := ⟨RX6, "tryPartings", "(III)V"⟩
def RX7 : String := "TalkBench$Searches"
def TX7 : u_T := fun k => match k with
  | 0 => ("TalkBench$Searches", "task", "LTalkBench$Task;", true)
  | 1 => ("TalkBench$Searches", "marks", "LTalkBench$Marks;", true)
  | 2 => ("TalkBench$Searches", "apart", "[I", true)
  | 3 => ("TalkBench$Searches", "greatBlocks", "[I", true)
  | 4 => ("TalkBench$Searches", "greatBlockCount", "I", false)
  | 5 => ("TalkBench$Searches", "bestFooling", "I", false)
  | 6 => ("TalkBench$Searches", "foolingPlaces", "I", false)
  | _ => ("TalkBench$Searches", "bestCover", "I", false)
def tyX7 : Nat → FieldType := fun k => match k with
  | 0 => .object "TalkBench$Task"
  | 1 => .object "TalkBench$Marks"
  | 2 => .array .int
  | 3 => .array .int
  | 4 => .int
  | 5 => .int
  | 6 => .int
  | _ => .int
theorem nmX7 : ∀ a, a < 8 → ∀ b, b < 8 → a ≠ b → (TX7 a).2.1 ≠ (TX7 b).2.1 := by decide +kernel
theorem tyX7_ok : ∀ k, k < 8 → parseFieldDescriptor (TX7 k).2.2.1 = some (tyX7 k) := by decide +kernel
abbrev cX7_init : ByteArray := prog_9_method_1_code
def yX7_init : MethodName := ⟨RX7, "<init>", "(LTalkBench$Task;LTalkBench$Marks;)V"⟩
abbrev cX7_greatestFooling : ByteArray := prog_9_method_2_code
def yX7_greatestFooling : MethodName := ⟨RX7, "greatestFooling", "(I)I"⟩
abbrev cX7_placesThatAre : ByteArray := prog_9_method_3_code
def yX7_placesThatAre : MethodName := ⟨RX7, "placesThatAre", "(I)I"⟩
abbrev cX7_placesApart : ByteArray := prog_9_method_4_code
def yX7_placesApart : MethodName := ⟨RX7, "placesApart", "(II)I"⟩
abbrev cX7_choose : ByteArray := prog_9_method_5_code
def yX7_choose : MethodName := ⟨RX7, "choose", "(III)V"⟩
abbrev cX7_fewestToCover : ByteArray := prog_9_method_6_code
def yX7_fewestToCover : MethodName := ⟨RX7, "fewestToCover", "(I)I"⟩
abbrev cX7_countRowsWith : ByteArray := prog_9_method_7_code
def yX7_countRowsWith : MethodName := ⟨RX7, "countRowsWith", "(I)I"⟩
abbrev cX7_listGreatestBlocks : ByteArray := prog_9_method_8_code
def yX7_listGreatestBlocks : MethodName := ⟨RX7, "listGreatestBlocks", "(I)V"⟩
abbrev cX7_rowsWithout : ByteArray := prog_9_method_9_code
def yX7_rowsWithout : MethodName := ⟨RX7, "rowsWithout", "(II)I"⟩
abbrev cX7_coverRest : ByteArray := prog_9_method_10_code
def yX7_coverRest : MethodName := ⟨RX7, "coverRest", "(II)V"⟩
abbrev cX7_placesOf : ByteArray := prog_9_method_11_code
def yX7_placesOf : MethodName := ⟨RX7, "placesOf", "(II)I"⟩
def RX8 : String := "TalkBench$Sheet"
def TX8 : u_T := fun k => match k with
  | 0 => ("TalkBench$Sheet", "bits", "I", false)
  | 1 => ("TalkBench$Sheet", "count", "I", false)
  | _ => ("TalkBench$Sheet", "numbers", "[I", true)
def tyX8 : Nat → FieldType := fun k => match k with
  | 0 => .int
  | 1 => .int
  | _ => .array .int
theorem nmX8 : ∀ a, a < 3 → ∀ b, b < 3 → a ≠ b → (TX8 a).2.1 ≠ (TX8 b).2.1 := by decide +kernel
theorem tyX8_ok : ∀ k, k < 3 → parseFieldDescriptor (TX8 k).2.2.1 = some (tyX8 k) := by decide +kernel
abbrev cX8_init : ByteArray := prog_10_method_1_code
def yX8_init : MethodName := ⟨RX8, "<init>", "()V"⟩
abbrev cX8_isMissing : ByteArray := prog_10_method_2_code
def yX8_isMissing : MethodName := ⟨RX8, "isMissing", "()Z"⟩
abbrev cX8_reset : ByteArray := prog_10_method_3_code
def yX8_reset : MethodName := ⟨RX8, "reset", "(II)V"⟩
abbrev cX8_set : ByteArray := prog_10_method_4_code
def yX8_set : MethodName := ⟨RX8, "set", "(II)V"⟩
abbrev cX8_hasRun : ByteArray := prog_10_method_5_code
def yX8_hasRun : MethodName := ⟨RX8, "hasRun", "(II)Z"⟩
abbrev cX8_holdsPlaces : ByteArray := prog_10_method_6_code
def yX8_holdsPlaces : MethodName := ⟨RX8, "holdsPlaces", "()Z"⟩
def RX9 : String := "TalkBench$Talk"
def TX9 : u_T := fun k => match k with
  | 0 => ("TalkBench$Talk", "marks", "LTalkBench$Marks;", true)
  | 1 => ("TalkBench$Talk", "blocks", "LTalkBench$Blocks;", true)
  | 2 => ("TalkBench$Talk", "whose", "[I", true)
  | 3 => ("TalkBench$Talk", "rowsOf", "[I", true)
  | 4 => ("TalkBench$Talk", "columnsOf", "[I", true)
  | 5 => ("TalkBench$Talk", "firsts", "[I", true)
  | 6 => ("TalkBench$Talk", "seconds", "[I", true)
  | 7 => ("TalkBench$Talk", "above", "[I", true)
  | _ => ("TalkBench$Talk", "count", "I", false)
def tyX9 : Nat → FieldType := fun k => match k with
  | 0 => .object "TalkBench$Marks"
  | 1 => .object "TalkBench$Blocks"
  | 2 => .array .int
  | 3 => .array .int
  | 4 => .array .int
  | 5 => .array .int
  | 6 => .array .int
  | 7 => .array .int
  | _ => .int
theorem nmX9 : ∀ a, a < 9 → ∀ b, b < 9 → a ≠ b → (TX9 a).2.1 ≠ (TX9 b).2.1 := by decide +kernel
theorem tyX9_ok : ∀ k, k < 9 → parseFieldDescriptor (TX9 k).2.2.1 = some (tyX9 k) := by decide +kernel
abbrev cX9_init : ByteArray := prog_11_method_1_code
def yX9_init : MethodName := ⟨RX9, "<init>", "(LTalkBench$Marks;LTalkBench$Blocks;)V"⟩
abbrev cX9_forget : ByteArray := prog_11_method_2_code
def yX9_forget : MethodName := ⟨RX9, "forget", "()V"⟩
abbrev cX9_make : ByteArray := prog_11_method_3_code
def yX9_make : MethodName := ⟨RX9, "make", "()V"⟩
abbrev cX9_grow : ByteArray := prog_11_method_4_code
def yX9_grow : MethodName := ⟨RX9, "grow", "(III)I"⟩
abbrev cX9_tellOf : ByteArray := prog_11_method_5_code
def yX9_tellOf : MethodName := ⟨RX9, "tellOf", "(II)I"⟩
abbrev cX9_wordsFor : ByteArray := prog_11_method_6_code
def yX9_wordsFor : MethodName := ⟨RX9, "wordsFor", "(II)I"⟩
def RX10 : String := "TalkBench$Task"
def TX10 : u_T := fun k => match k with
  | 0 => ("TalkBench$Task", "rowCount", "I", false)
  | 1 => ("TalkBench$Task", "columnCount", "I", false)
  | 2 => ("TalkBench$Task", "places", "[I", true)
  | _ => ("TalkBench$Task", "weights", "[I", true)
def tyX10 : Nat → FieldType := fun k => match k with
  | 0 => .int
  | 1 => .int
  | 2 => .array .int
  | _ => .array .int
theorem nmX10 : ∀ a, a < 4 → ∀ b, b < 4 → a ≠ b → (TX10 a).2.1 ≠ (TX10 b).2.1 := by decide +kernel
theorem tyX10_ok : ∀ k, k < 4 → parseFieldDescriptor (TX10 k).2.2.1 = some (tyX10 k) := by decide +kernel
abbrev cX10_init : ByteArray := prog_12_method_1_code
def yX10_init : MethodName := ⟨RX10, "<init>", "()V"⟩
abbrev cX10_size : ByteArray := prog_12_method_2_code
def yX10_size : MethodName := ⟨RX10, "size", "()I"⟩
abbrev cX10_has : ByteArray := prog_12_method_3_code
def yX10_has : MethodName := ⟨RX10, "has", "(II)Z"⟩
abbrev cX10_clear : ByteArray := prog_12_method_4_code
def yX10_clear : MethodName := ⟨RX10, "clear", "(II)V"⟩
abbrev cX10_become : ByteArray := prog_12_method_5_code
def yX10_become : MethodName := ⟨RX10, "become", "(LTalkBench$Task;)V"⟩
abbrev cX10_count : ByteArray := prog_12_method_6_code
def yX10_count : MethodName := ⟨RX10, "count", "(I)I"⟩
abbrev cX10_findKind : ByteArray := prog_12_method_7_code
def yX10_findKind : MethodName := ⟨RX10, "findKind", "()I"⟩
abbrev cX10_fillByRule : ByteArray := prog_12_method_8_code
def yX10_fillByRule : MethodName := ⟨RX10, "fillByRule", "(I)V"⟩
abbrev cX10_byRule : ByteArray := prog_12_method_9_code
def yX10_byRule : MethodName := ⟨RX10, "byRule", "(III)I"⟩
abbrev cX10_fillFrom : ByteArray := prog_12_method_10_code
def yX10_fillFrom : MethodName := ⟨RX10, "fillFrom", "(LTalkBench$Sheet;)V"⟩
abbrev cX10_swapSides : ByteArray := prog_12_method_11_code
def yX10_swapSides : MethodName := ⟨RX10, "swapSides", "()V"⟩
abbrev cX10_swap : ByteArray := prog_12_method_12_code
def yX10_swap : MethodName := ⟨RX10, "swap", "([III)V"⟩
abbrev cX10_swapAnswers : ByteArray := prog_12_method_13_code
def yX10_swapAnswers : MethodName := ⟨RX10, "swapAnswers", "()V"⟩
abbrev cX10_countUnlike : ByteArray := prog_12_method_14_code
def yX10_countUnlike : MethodName := ⟨RX10, "countUnlike", "(Z)I"⟩
abbrev cX10_areAlike : ByteArray := prog_12_method_15_code
def yX10_areAlike : MethodName := ⟨RX10, "areAlike", "(IIZ)Z"⟩
abbrev cX10_findRank : ByteArray := prog_12_method_16_code
def yX10_findRank : MethodName := ⟨RX10, "findRank", "(Z)I"⟩
abbrev cX10_findPivot : ByteArray := prog_12_method_17_code
def yX10_findPivot : MethodName := ⟨RX10, "findPivot", "([III)I"⟩
abbrev cX10_clearBelow : ByteArray := prog_12_method_18_code
def yX10_clearBelow : MethodName := ⟨RX10, "clearBelow", "([IIIZ)V"⟩
def RX11 : String := "TalkBench"
def TX11 : u_T := fun k => match k with
  | 0 => ("TalkBench", "task", "LTalkBench$Task;", true)
  | 1 => ("TalkBench", "slots", "[LTalkBench$Task;", true)
  | 2 => ("TalkBench", "sheets", "[LTalkBench$Sheet;", true)
  | 3 => ("TalkBench", "history", "LTalkBench$History;", true)
  | 4 => ("TalkBench", "marks", "LTalkBench$Marks;", true)
  | 5 => ("TalkBench", "blocks", "LTalkBench$Blocks;", true)
  | 6 => ("TalkBench", "scales", "LTalkBench$Scales;", true)
  | 7 => ("TalkBench", "talk", "LTalkBench$Talk;", true)
  | 8 => ("TalkBench", "judge", "LTalkBench$Judge;", true)
  | 9 => ("TalkBench", "searches", "LTalkBench$Searches;", true)
  | 10 => ("TalkBench", "likeness", "LTalkBench$Likeness;", true)
  | _ => ("TalkBench", "findings", "I", false)
def tyX11 : Nat → FieldType := fun k => match k with
  | 0 => .object "TalkBench$Task"
  | 1 => .array (.object "TalkBench$Task")
  | 2 => .array (.object "TalkBench$Sheet")
  | 3 => .object "TalkBench$History"
  | 4 => .object "TalkBench$Marks"
  | 5 => .object "TalkBench$Blocks"
  | 6 => .object "TalkBench$Scales"
  | 7 => .object "TalkBench$Talk"
  | 8 => .object "TalkBench$Judge"
  | 9 => .object "TalkBench$Searches"
  | 10 => .object "TalkBench$Likeness"
  | _ => .int
theorem nmX11 : ∀ a, a < 12 → ∀ b, b < 12 → a ≠ b → (TX11 a).2.1 ≠ (TX11 b).2.1 := by decide +kernel
theorem tyX11_ok : ∀ k, k < 12 → parseFieldDescriptor (TX11 k).2.2.1 = some (tyX11 k) := by decide +kernel
abbrev cX11_init : ByteArray := prog_1_method_1_code
def yX11_init : MethodName := ⟨RX11, "<init>", "()V"⟩
abbrev cX11_table : ByteArray := prog_1_method_2_code
def yX11_table : MethodName := ⟨RX11, "table", "(II)I"⟩
abbrev cX11_put : ByteArray := prog_1_method_3_code
def yX11_put : MethodName := ⟨RX11, "put", "(III)I"⟩
abbrev cX11_place : ByteArray := prog_1_method_4_code
def yX11_place : MethodName := ⟨RX11, "place", "(II)I"⟩
abbrev cX11_weigh : ByteArray := prog_1_method_5_code
def yX11_weigh : MethodName := ⟨RX11, "weigh", "(III)I"⟩
abbrev cX11_rule : ByteArray := prog_1_method_6_code
def yX11_rule : MethodName := ⟨RX11, "rule", "(I)I"⟩
abbrev cX11_turn : ByteArray := prog_1_method_7_code
def yX11_turn : MethodName := ⟨RX11, "turn", "()I"⟩
abbrev cX11_turnAnswers : ByteArray := prog_1_method_8_code
def yX11_turnAnswers : MethodName := ⟨RX11, "turnAnswers", "()I"⟩
abbrev cX11_unlike : ByteArray := prog_1_method_9_code
def yX11_unlike : MethodName := ⟨RX11, "unlike", "(Z)I"⟩
abbrev cX11_sheet : ByteArray := prog_1_method_10_code
def yX11_sheet : MethodName := ⟨RX11, "sheet", "(III)I"⟩
abbrev cX11_write : ByteArray := prog_1_method_11_code
def yX11_write : MethodName := ⟨RX11, "write", "(III)I"⟩
abbrev cX11_copy : ByteArray := prog_1_method_12_code
def yX11_copy : MethodName := ⟨RX11, "copy", "(IIIII)I"⟩
abbrev cX11_lay : ByteArray := prog_1_method_13_code
def yX11_lay : MethodName := ⟨RX11, "lay", "(I)I"⟩
abbrev cX11_bits : ByteArray := prog_1_method_14_code
def yX11_bits : MethodName := ⟨RX11, "bits", "(II)I"⟩
abbrev cX11_ends : ByteArray := prog_1_method_15_code
def yX11_ends : MethodName := ⟨RX11, "ends", "(II)I"⟩
abbrev cX11_talk : ByteArray := prog_1_method_16_code
def yX11_talk : MethodName := ⟨RX11, "talk", "()I"⟩
abbrev cX11_knot : ByteArray := prog_1_method_17_code
def yX11_knot : MethodName := ⟨RX11, "knot", "(II)I"⟩
abbrev cX11_said : ByteArray := prog_1_method_18_code
def yX11_said : MethodName := ⟨RX11, "said", "(II)I"⟩
abbrev cX11_classes : ByteArray := prog_1_method_19_code
def yX11_classes : MethodName := ⟨RX11, "classes", "(Z)I"⟩
abbrev cX11_once : ByteArray := prog_1_method_20_code
def yX11_once : MethodName := ⟨RX11, "once", "(Z)I"⟩
abbrev cX11_rank : ByteArray := prog_1_method_21_code
def yX11_rank : MethodName := ⟨RX11, "rank", "(Z)I"⟩
abbrev cX11_fool : ByteArray := prog_1_method_22_code
def yX11_fool : MethodName := ⟨RX11, "fool", "(I)I"⟩
abbrev cX11_cover : ByteArray := prog_1_method_23_code
def yX11_cover : MethodName := ⟨RX11, "cover", "(I)I"⟩
abbrev cX11_part : ByteArray := prog_1_method_24_code
def yX11_part : MethodName := ⟨RX11, "part", "()I"⟩
abbrev cX11_swing : ByteArray := prog_1_method_25_code
def yX11_swing : MethodName := ⟨RX11, "swing", "()I"⟩
abbrev cX11_wrong : ByteArray := prog_1_method_26_code
def yX11_wrong : MethodName := ⟨RX11, "wrong", "(I)I"⟩
abbrev cX11_tell : ByteArray := prog_1_method_27_code
def yX11_tell : MethodName := ⟨RX11, "tell", "(I)I"⟩
abbrev cX11_check : ByteArray := prog_1_method_28_code
def yX11_check : MethodName := ⟨RX11, "check", "()I"⟩
abbrev cX11_fools : ByteArray := prog_1_method_29_code
def yX11_fools : MethodName := ⟨RX11, "fools", "(I)I"⟩
abbrev cX11_keep : ByteArray := prog_1_method_30_code
def yX11_keep : MethodName := ⟨RX11, "keep", "(I)I"⟩
abbrev cX11_bring : ByteArray := prog_1_method_31_code
def yX11_bring : MethodName := ⟨RX11, "bring", "(I)I"⟩
abbrev cX11_as : ByteArray := prog_1_method_32_code
def yX11_as : MethodName := ⟨RX11, "as", "(II)I"⟩
abbrev cX11_same : ByteArray := prog_1_method_33_code
def yX11_same : MethodName := ⟨RX11, "same", "(I)I"⟩
abbrev cX11_undo : ByteArray := prog_1_method_34_code
def yX11_undo : MethodName := ⟨RX11, "undo", "()I"⟩
abbrev cX11_told : ByteArray := prog_1_method_35_code
def yX11_told : MethodName := ⟨RX11, "told", "(I)I"⟩
abbrev cX11_finding : ByteArray := prog_1_method_36_code
def yX11_finding : MethodName := ⟨RX11, "finding", "(I)I"⟩
abbrev cX11_takeNewPlaces : ByteArray := prog_1_method_37_code
def yX11_takeNewPlaces : MethodName := ⟨RX11, "takeNewPlaces", "()V"⟩
abbrev cX11_noSheet : ByteArray := prog_1_method_38_code
def yX11_noSheet : MethodName := ⟨RX11, "noSheet", "(I)Z"⟩
abbrev cX11_noSlot : ByteArray := prog_1_method_39_code
def yX11_noSlot : MethodName := ⟨RX11, "noSlot", "(I)Z"⟩
abbrev cX11_isNoAnswer : ByteArray := prog_1_method_40_code
def yX11_isNoAnswer : MethodName := ⟨RX11, "isNoAnswer", "(I)Z"⟩
abbrev cX11_isUnder : ByteArray := prog_1_method_41_code
def yX11_isUnder : MethodName := ⟨RX11, "isUnder", "(II)Z"⟩
abbrev cX11_memberOf : ByteArray := prog_1_method_42_code
def yX11_memberOf : MethodName := ⟨RX11, "memberOf", "(I)I"⟩
abbrev cX11_lowestOf : ByteArray := prog_1_method_43_code
def yX11_lowestOf : MethodName := ⟨RX11, "lowestOf", "(I)I"⟩
abbrev cX11_blockAt : ByteArray := prog_1_method_44_code
def yX11_blockAt : MethodName := ⟨RX11, "blockAt", "(II)I"⟩
def RX12 : String := "TalkBenchModel"
def TX12 : u_T := fun k => match k with
  | 0 => ("TalkBenchModel", "rows", "I", false)
  | 1 => ("TalkBenchModel", "columns", "I", false)
  | 2 => ("TalkBenchModel", "place", "[I", true)
  | 3 => ("TalkBenchModel", "weight", "[I", true)
  | 4 => ("TalkBenchModel", "kept", "I", false)
  | 5 => ("TalkBenchModel", "keptTasks", "[I", true)
  | 6 => ("TalkBenchModel", "slots", "[I", true)
  | 7 => ("TalkBenchModel", "slotKind", "[I", true)
  | 8 => ("TalkBenchModel", "bits", "[I", true)
  | 9 => ("TalkBenchModel", "size", "[I", true)
  | 10 => ("TalkBenchModel", "number", "[I", true)
  | 11 => ("TalkBenchModel", "waits", "I", false)
  | 12 => ("TalkBenchModel", "waiting", "[I", true)
  | 13 => ("TalkBenchModel", "found", "I", false)
  | 14 => ("TalkBenchModel", "knots", "I", false)
  | 15 => ("TalkBenchModel", "carried", "[I", true)
  | 16 => ("TalkBenchModel", "leastBits", "[I", true)
  | 17 => ("TalkBenchModel", "fewestEnds", "[I", true)
  | 18 => ("TalkBenchModel", "knotBlock", "[I", true)
  | 19 => ("TalkBenchModel", "knotWhose", "[I", true)
  | 20 => ("TalkBenchModel", "knotFirst", "[I", true)
  | 21 => ("TalkBenchModel", "knotSecond", "[I", true)
  | 22 => ("TalkBenchModel", "knotDeep", "[I", true)
  | 23 => ("TalkBenchModel", "knotSet", "[I", true)
  | 24 => ("TalkBenchModel", "comeBlock", "[I", true)
  | 25 => ("TalkBenchModel", "comeOf", "[I", true)
  | 26 => ("TalkBenchModel", "fewest", "[I", true)
  | 27 => ("TalkBenchModel", "m", "[J", true)
  | 28 => ("TalkBenchModel", "chosen", "[I", true)
  | 29 => ("TalkBenchModel", "had", "[I", true)
  | 30 => ("TalkBenchModel", "tried", "[I", true)
  | 31 => ("TalkBenchModel", "partsFor", "[I", true)
  | 32 => ("TalkBenchModel", "evenPlaces", "[I", true)
  | 33 => ("TalkBenchModel", "wrongs", "[I", true)
  | 34 => ("TalkBenchModel", "dueBlock", "[I", true)
  | 35 => ("TalkBenchModel", "dueDeep", "[I", true)
  | 36 => ("TalkBenchModel", "rowOrder", "[I", true)
  | _ => ("TalkBenchModel", "columnOrder", "[I", true)
def tyX12 : Nat → FieldType := fun k => match k with
  | 0 => .int
  | 1 => .int
  | 2 => .array .int
  | 3 => .array .int
  | 4 => .int
  | 5 => .array .int
  | 6 => .array .int
  | 7 => .array .int
  | 8 => .array .int
  | 9 => .array .int
  | 10 => .array .int
  | 11 => .int
  | 12 => .array .int
  | 13 => .int
  | 14 => .int
  | 15 => .array .int
  | 16 => .array .int
  | 17 => .array .int
  | 18 => .array .int
  | 19 => .array .int
  | 20 => .array .int
  | 21 => .array .int
  | 22 => .array .int
  | 23 => .array .int
  | 24 => .array .int
  | 25 => .array .int
  | 26 => .array .int
  | 27 => .array .long
  | 28 => .array .int
  | 29 => .array .int
  | 30 => .array .int
  | 31 => .array .int
  | 32 => .array .int
  | 33 => .array .int
  | 34 => .array .int
  | 35 => .array .int
  | 36 => .array .int
  | _ => .array .int
theorem nmX12 : ∀ a, a < 38 → ∀ b, b < 38 → a ≠ b → (TX12 a).2.1 ≠ (TX12 b).2.1 := by decide +kernel
theorem tyX12_ok : ∀ k, k < 38 → parseFieldDescriptor (TX12 k).2.2.1 = some (tyX12 k) := by decide +kernel
abbrev cX12_init : ByteArray := prog_14_method_1_code
def yX12_init : MethodName := ⟨RX12, "<init>", "()V"⟩
abbrev cX12_finding : ByteArray := prog_14_method_2_code
def yX12_finding : MethodName := ⟨RX12, "finding", "(I)I"⟩
abbrev cX12_isPlace : ByteArray := prog_14_method_3_code
def yX12_isPlace : MethodName := ⟨RX12, "isPlace", "(II)Z"⟩
abbrev cX12_in : ByteArray := prog_14_method_4_code
def yX12_in : MethodName := ⟨RX12, "in", "(II)Z"⟩
abbrev cX12_countOf : ByteArray := prog_14_method_5_code
def yX12_countOf : MethodName := ⟨RX12, "countOf", "(I)I"⟩
abbrev cX12_save : ByteArray := prog_14_method_6_code
def yX12_save : MethodName := ⟨RX12, "save", "([II)V"⟩
abbrev cX12_load : ByteArray := prog_14_method_7_code
def yX12_load : MethodName := ⟨RX12, "load", "([II)V"⟩
abbrev cX12_keepTask : ByteArray := prog_14_method_8_code
def yX12_keepTask : MethodName := ⟨RX12, "keepTask", "()V"⟩
abbrev cX12_undo : ByteArray := prog_14_method_9_code
def yX12_undo : MethodName := ⟨RX12, "undo", "()I"⟩
abbrev cX12_ones : ByteArray := prog_14_method_10_code
def yX12_ones : MethodName := ⟨RX12, "ones", "(I)I"⟩
abbrev cX12_table : ByteArray := prog_14_method_11_code
def yX12_table : MethodName := ⟨RX12, "table", "(II)I"⟩
abbrev cX12_put : ByteArray := prog_14_method_12_code
def yX12_put : MethodName := ⟨RX12, "put", "(III)I"⟩
abbrev cX12_place : ByteArray := prog_14_method_13_code
def yX12_place : MethodName := ⟨RX12, "place", "(II)I"⟩
abbrev cX12_weigh : ByteArray := prog_14_method_14_code
def yX12_weigh : MethodName := ⟨RX12, "weigh", "(III)I"⟩
abbrev cX12_rule : ByteArray := prog_14_method_15_code
def yX12_rule : MethodName := ⟨RX12, "rule", "(I)I"⟩
abbrev cX12_turn : ByteArray := prog_14_method_16_code
def yX12_turn : MethodName := ⟨RX12, "turn", "()I"⟩
abbrev cX12_turnAnswers : ByteArray := prog_14_method_17_code
def yX12_turnAnswers : MethodName := ⟨RX12, "turnAnswers", "()I"⟩
abbrev cX12_at : ByteArray := prog_14_method_18_code
def yX12_at : MethodName := ⟨RX12, "at", "(ZII)I"⟩
abbrev cX12_unlike : ByteArray := prog_14_method_19_code
def yX12_unlike : MethodName := ⟨RX12, "unlike", "(Z)I"⟩
abbrev cX12_isSheet : ByteArray := prog_14_method_20_code
def yX12_isSheet : MethodName := ⟨RX12, "isSheet", "(I)Z"⟩
abbrev cX12_sheet : ByteArray := prog_14_method_21_code
def yX12_sheet : MethodName := ⟨RX12, "sheet", "(III)I"⟩
abbrev cX12_write : ByteArray := prog_14_method_22_code
def yX12_write : MethodName := ⟨RX12, "write", "(III)I"⟩
abbrev cX12_hasPart : ByteArray := prog_14_method_23_code
def yX12_hasPart : MethodName := ⟨RX12, "hasPart", "(III)Z"⟩
abbrev cX12_copy : ByteArray := prog_14_method_24_code
def yX12_copy : MethodName := ⟨RX12, "copy", "(IIIII)I"⟩
abbrev cX12_lay : ByteArray := prog_14_method_25_code
def yX12_lay : MethodName := ⟨RX12, "lay", "(I)I"⟩
abbrev cX12_all : ByteArray := prog_14_method_26_code
def yX12_all : MethodName := ⟨RX12, "all", "()I"⟩
abbrev cX12_has : ByteArray := prog_14_method_27_code
def yX12_has : MethodName := ⟨RX12, "has", "(I)I"⟩
abbrev cX12_isEven : ByteArray := prog_14_method_28_code
def yX12_isEven : MethodName := ⟨RX12, "isEven", "(I)Z"⟩
abbrev cX12_isBlock : ByteArray := prog_14_method_29_code
def yX12_isBlock : MethodName := ⟨RX12, "isBlock", "(I)Z"⟩
abbrev cX12_tellBlocks : ByteArray := prog_14_method_30_code
def yX12_tellBlocks : MethodName := ⟨RX12, "tellBlocks", "()V"⟩
abbrev cX12_parted : ByteArray := prog_14_method_31_code
def yX12_parted : MethodName := ⟨RX12, "parted", "(IIZ)Z"⟩
abbrev cX12_takeBest : ByteArray := prog_14_method_32_code
def yX12_takeBest : MethodName := ⟨RX12, "takeBest", "(IZI)V"⟩
abbrev cX12_areSets : ByteArray := prog_14_method_33_code
def yX12_areSets : MethodName := ⟨RX12, "areSets", "(II)Z"⟩
abbrev cX12_bits : ByteArray := prog_14_method_34_code
def yX12_bits : MethodName := ⟨RX12, "bits", "(II)I"⟩
abbrev cX12_ends : ByteArray := prog_14_method_35_code
def yX12_ends : MethodName := ⟨RX12, "ends", "(II)I"⟩
abbrev cX12_reaches : ByteArray := prog_14_method_36_code
def yX12_reaches : MethodName := ⟨RX12, "reaches", "(II)Z"⟩
abbrev cX12_parting : ByteArray := prog_14_method_37_code
def yX12_parting : MethodName := ⟨RX12, "parting", "(I)I"⟩
abbrev cX12_talk : ByteArray := prog_14_method_38_code
def yX12_talk : MethodName := ⟨RX12, "talk", "()I"⟩
abbrev cX12_knot : ByteArray := prog_14_method_39_code
def yX12_knot : MethodName := ⟨RX12, "knot", "(II)I"⟩
abbrev cX12_said : ByteArray := prog_14_method_40_code
def yX12_said : MethodName := ⟨RX12, "said", "(II)I"⟩
abbrev cX12_quarrel : ByteArray := prog_14_method_41_code
def yX12_quarrel : MethodName := ⟨RX12, "quarrel", "(ZII)Z"⟩
abbrev cX12_classes : ByteArray := prog_14_method_42_code
def yX12_classes : MethodName := ⟨RX12, "classes", "(Z)I"⟩
abbrev cX12_once : ByteArray := prog_14_method_43_code
def yX12_once : MethodName := ⟨RX12, "once", "(Z)I"⟩
abbrev cX12_swapLines : ByteArray := prog_14_method_44_code
def yX12_swapLines : MethodName := ⟨RX12, "swapLines", "(II)V"⟩
abbrev cX12_rank : ByteArray := prog_14_method_45_code
def yX12_rank : MethodName := ⟨RX12, "rank", "(Z)I"⟩
abbrev cX12_lieTogether : ByteArray := prog_14_method_46_code
def yX12_lieTogether : MethodName := ⟨RX12, "lieTogether", "(II)Z"⟩
abbrev cX12_fool : ByteArray := prog_14_method_47_code
def yX12_fool : MethodName := ⟨RX12, "fool", "(I)I"⟩
abbrev cX12_rowsFor : ByteArray := prog_14_method_48_code
def yX12_rowsFor : MethodName := ⟨RX12, "rowsFor", "(II)I"⟩
abbrev cX12_placesOf : ByteArray := prog_14_method_49_code
def yX12_placesOf : MethodName := ⟨RX12, "placesOf", "(II)I"⟩
abbrev cX12_covers : ByteArray := prog_14_method_50_code
def yX12_covers : MethodName := ⟨RX12, "covers", "(III)Z"⟩
abbrev cX12_cover : ByteArray := prog_14_method_51_code
def yX12_cover : MethodName := ⟨RX12, "cover", "(I)I"⟩
abbrev cX12_part : ByteArray := prog_14_method_52_code
def yX12_part : MethodName := ⟨RX12, "part", "()I"⟩
abbrev cX12_weightOf : ByteArray := prog_14_method_53_code
def yX12_weightOf : MethodName := ⟨RX12, "weightOf", "(II)I"⟩
abbrev cX12_swing : ByteArray := prog_14_method_54_code
def yX12_swing : MethodName := ⟨RX12, "swing", "()I"⟩
abbrev cX12_wrong : ByteArray := prog_14_method_55_code
def yX12_wrong : MethodName := ⟨RX12, "wrong", "(I)I"⟩
abbrev cX12_lessWrong : ByteArray := prog_14_method_56_code
def yX12_lessWrong : MethodName := ⟨RX12, "lessWrong", "(IZIII)I"⟩
abbrev cX12_tell : ByteArray := prog_14_method_57_code
def yX12_tell : MethodName := ⟨RX12, "tell", "(I)I"⟩
abbrev cX12_check : ByteArray := prog_14_method_58_code
def yX12_check : MethodName := ⟨RX12, "check", "()I"⟩
abbrev cX12_fools : ByteArray := prog_14_method_59_code
def yX12_fools : MethodName := ⟨RX12, "fools", "(I)I"⟩
abbrev cX12_isSlot : ByteArray := prog_14_method_60_code
def yX12_isSlot : MethodName := ⟨RX12, "isSlot", "(I)Z"⟩
abbrev cX12_keep : ByteArray := prog_14_method_61_code
def yX12_keep : MethodName := ⟨RX12, "keep", "(I)I"⟩
abbrev cX12_bring : ByteArray := prog_14_method_62_code
def yX12_bring : MethodName := ⟨RX12, "bring", "(I)I"⟩
abbrev cX12_slotPlace : ByteArray := prog_14_method_63_code
def yX12_slotPlace : MethodName := ⟨RX12, "slotPlace", "(III)I"⟩
abbrev cX12_as : ByteArray := prog_14_method_64_code
def yX12_as : MethodName := ⟨RX12, "as", "(II)I"⟩
abbrev cX12_lineOf : ByteArray := prog_14_method_65_code
def yX12_lineOf : MethodName := ⟨RX12, "lineOf", "(III)I"⟩
abbrev cX12_orders : ByteArray := prog_14_method_66_code
def yX12_orders : MethodName := ⟨RX12, "orders", "(I)I"⟩
abbrev cX12_same : ByteArray := prog_14_method_67_code
def yX12_same : MethodName := ⟨RX12, "same", "(I)I"⟩
abbrev cX12_told : ByteArray := prog_14_method_68_code
def yX12_told : MethodName := ⟨RX12, "told", "(I)I"⟩
def RJx8e188 : String := "java/lang/Cloneable"
def RJ6 : String := "java/lang/Integer"
abbrev cJ6_bitCount_0f7a4 : ByteArray := prog_16_method_49_code
def yJ6_bitCount_0f7a4 : MethodName := ⟨RJ6, "bitCount", "(I)I"⟩
def RJ9 : String := "java/lang/Math"
abbrev cJ9_abs_0f7a4 : ByteArray := prog_17_method_59_code
def yJ9_abs_0f7a4 : MethodName := ⟨RJ9, "abs", "(I)I"⟩
abbrev cJ9_max_7cf53 : ByteArray := prog_17_method_65_code
def yJ9_max_7cf53 : MethodName := ⟨RJ9, "max", "(II)I"⟩
abbrev cJ9_min_7cf53 : ByteArray := prog_17_method_69_code
def yJ9_min_7cf53 : MethodName := ⟨RJ9, "min", "(II)I"⟩
def RJ10 : String := "java/lang/System"
def RJ7 : String := "java/util/Arrays"
abbrev cJ7_fill_53178 : ByteArray := prog_19_method_103_code
def yJ7_fill_53178 : MethodName := ⟨RJ7, "fill", "([II)V"⟩
abbrev cJ7_copyOf_59c91 : ByteArray := prog_19_method_123_code
def yJ7_copyOf_59c91 : MethodName := ⟨RJ7, "copyOf", "([II)[I"⟩
def RL : String := "TalkBenchLaw"
abbrev cL_law : ByteArray := code
def yL_law : MethodName := ⟨RL, "law", "([I)Z"⟩
abbrev vwCl : List vw_C := [(RX0, TX0, 6), (RX1, TX1, 3), (RX2, TX2, 6), (RX3, TX3, 2), (RX4, TX4, 4), (RX5, TX5, 2), (RX6, TX6, 8), (RX7, TX7, 8), (RX8, TX8, 3), (RX9, TX9, 9), (RX10, TX10, 4), (RX11, TX11, 12), (RX12, TX12, 38)]
end
section
/-! ===== what the pure machine does, the machine does: the words ===== -/
def js_a (b z i : Nat) : Nat := if i = 0 then b else z + i
def js_v (b z : Nat) : Value → Value
  | .ref a => .ref (js_a b z a)
  | v => v
def js_e (G : Nat → ClassId) (b z : Nat) : jxC → va_E
  | .inl (t, n, .inl f) => .inl (G t, n, .inl f)
  | .inl (t, n, .inr (.inl f)) => .inl (G t, n, .inr (.inl f))
  | .inl (t, n, .inr (.inr (.inl f))) => .inl (G t, n, .inr (.inr (.inl f)))
  | .inl (t, n, .inr (.inr (.inr (.inl f)))) => .inl (G t, n, .inr (.inr (.inr (.inl f))))
  | .inl (t, n, .inr (.inr (.inr (.inr f)))) => .inl (G t, n, .inr (.inr (.inr (.inr (fun j => (f j).map (js_a b z))))))
  | .inr (c, fs) => .inr (c, fs.map (js_v b z))
def js_T : List Cond := lw_tbl.filter goodWord
def js_nl : List Cond := [.methodLinkNest RX11 35 yX4_init RX11, .methodLinkNest RX11 42 yX3_init RX11, .methodLinkNest RX11 47 yX8_init RX11, .methodLinkNest RX4 37 yX11_lowestOf RX11, .methodLinkNest RX0 36 yX11_blockAt RX11, .methodLinkNest RX7 107 yX11_lowestOf RX11, .methodLinkNest RX6 51 yX11_blockAt RX11, .methodLinkNest RX6 71 yX11_lowestOf RX11, .methodLinkNest RX6 78 yX11_memberOf RX11, .methodLinkNest RX2 49 yX11_isNoAnswer RX11]
def js_tys (G : Nat → ClassId) : List (ClassId × FieldType) := [(G 0, .int), (G 1, .long), (G 2, .object RX10), (G 3, .object RX8), (G 4, .array .int)]
def js_K (D : va_G) (G : Nat → ClassId) (U : State) : Prop := va_K D vwCl (js_tys G) U ∧ (∀ w ∈ js_nl, va_Nw w U) ∧ va_Nw (.castable "[I" "java/lang/Cloneable") U ∧ va_AO RX10 U ∧ va_AO RX8 U ∧ (Cond.arrayOver (.array .int)).before #[] U = true
def js_R (D : va_G) (G : Nat → ClassId) (b z : Nat) (s : State) (h : jxH) (H : Heap) : Prop :=
  H.size = z + h.1 ∧ 1 ≤ h.1 ∧ b ≤ z ∧ (∀ i, 1 ≤ i → i < h.1 → va_at D vwCl (z + i, js_e G b z (h.2.2 i)) H) ∧ (∀ i, h.1 ≤ i → h.2.2 i = jx_no) ∧ ∃ (L : Nat) (xs : Nat → Int32), h.2.2 0 = .inl (9, L, .inl xs) ∧ va_X b L xs s H
/-- the locals that are known, as the kit lists them -/
def js_as (b z nL : Nat) (ls : List Value) : List (Nat × Value) :=
  (List.range nL).filterMap (fun i => match ls[i]? with
    | some v => if jx_c1 v = true then some (i, js_v b z v) else none
    | none => none) ++ (List.range nL).filterMap (fun i => match ls[nL + 1 + i]? with
    | some (.long x) => some (i, .long x)
    | _ => none)
theorem js_as_iff {b z nL : Nat} {ls : List Value} {i : Nat} {w : Value} : (i, w) ∈ js_as b z nL ls ↔ (i < nL ∧ ∃ v, ls[i]? = some v ∧ jx_c1 v = true ∧ w = js_v b z v) ∨ (i < nL ∧ ∃ x, ls[nL + 1 + i]? = some (.long x) ∧ w = .long x) := by
  unfold js_as
  rw [List.mem_append]
  constructor
  · rintro (h | h)
    · obtain ⟨j, hj, e⟩ := List.mem_filterMap.mp h
      left
      cases hv : ls[j]? with
      | none => rw [hv] at e; cases e
      | some v =>
        rw [hv] at e
        dsimp only at e
        by_cases hc : jx_c1 v = true
        · rw [if_pos hc] at e
          cases e
          exact ⟨List.mem_range.mp hj, v, hv, hc, rfl⟩
        · rw [if_neg hc] at e
          cases e
    · obtain ⟨j, hj, e⟩ := List.mem_filterMap.mp h
      right
      split at e
      · next x hx =>
        cases e
        exact ⟨List.mem_range.mp hj, x, hx, rfl⟩
      · cases e
  · rintro (⟨hi, v, hv, hc, rfl⟩ | ⟨hi, x, hx, rfl⟩)
    · left
      refine List.mem_filterMap.mpr ⟨i, List.mem_range.mpr hi, ?_⟩
      rw [hv]
      dsimp only
      rw [if_pos hc]
    · right
      refine List.mem_filterMap.mpr ⟨i, List.mem_range.mpr hi, ?_⟩
      rw [hx]
theorem js_v_c1 {b z : Nat} {v : Value} (h : jx_c1 v = true) : (js_v b z v).category = 1 := by
  cases v <;> first | rfl | (simp [jx_c1] at h)
theorem js_c1_cat {v : Value} (h : jx_c1 v = true) : v.category = 1 := by
  cases v <;> first | rfl | (simp [jx_c1] at h)
theorem js_si {b z nL i : Nat} {ls : List Value} {X' : Array Slot} {v : Value} (hi : i < nL) (hv : jx_c1 v = true)
    (h : lv_has X' nL ((i, js_v b z v) :: (js_as b z nL ls).filter (fun q => !(q.1 == i) && !(q.1 + 1 == i && q.2.category == 2)))) : lv_has X' nL (js_as b z nL (jx_si ls nL i v)) := by
  obtain ⟨h1, h2, h3⟩ := h
  refine ⟨h1, h2, fun q hq => ?_⟩
  obtain ⟨j, w⟩ := q
  rcases js_as_iff.mp hq with ⟨hj, u, hu, hc, rfl⟩ | ⟨hj, x, hx, rfl⟩
  · by_cases hji : j = i
    · subst hji
      have hlt : j < ls.length := by
        have := (List.getElem?_eq_some_iff.mp hu).1
        simpa [jx_si] using this
      unfold jx_si at hu
      rw [List.getElem?_set_ne (by omega), List.getElem?_set_ne (by omega), List.getElem?_set_self hlt] at hu
      cases hu
      exact h3 _ (by simp)
    · unfold jx_si at hu
      rw [List.getElem?_set_ne (by omega), List.getElem?_set_ne (by omega), List.getElem?_set_ne (by omega)] at hu
      refine h3 _ (List.mem_cons_of_mem _ (List.mem_filter.mpr ⟨js_as_iff.mpr (Or.inl ⟨hj, u, hu, hc, rfl⟩), ?_⟩))
      simp [hji, js_v_c1 hc]
  · unfold jx_si at hx
    have n1 : nL + 1 + i ≠ nL + 1 + j := by
      intro e
      rw [e] at hx
      rw [List.getElem?_set] at hx
      simp only [if_true] at hx
      split at hx <;> cases hx
    rw [List.getElem?_set_ne n1] at hx
    have n2 : nL + i ≠ nL + 1 + j := by
      intro e
      rw [e] at hx
      rw [List.getElem?_set] at hx
      simp only [if_true] at hx
      split at hx <;> cases hx
    rw [List.getElem?_set_ne n2, List.getElem?_set_ne (by omega)] at hx
    refine h3 _ (List.mem_cons_of_mem _ (List.mem_filter.mpr ⟨js_as_iff.mpr (Or.inr ⟨hj, x, hx, rfl⟩), ?_⟩))
    have e1 : ¬ j = i := by omega
    have e2 : ¬ j + 1 = i := by omega
    simp [e1, e2]
theorem js_sl {b z nL i : Nat} {ls : List Value} {X' : Array Slot} {u : Int64} (hi : i + 1 < nL)
    (h : lv_has X' nL ((i, .long u) :: (js_as b z nL ls).filter (fun q => !(q.1 == i) && (!(q.1 == i + 1) && !(q.1 + 1 == i && q.2.category == 2))))) : lv_has X' nL (js_as b z nL (((((ls.set i jx_u).set (i + 1) jx_u).set (nL + i) jx_u).set (nL + 1 + i) (.long u)).set (nL + 2 + i) jx_u)) := by
  obtain ⟨h1, h2, h3⟩ := h
  refine ⟨h1, h2, fun q hq => ?_⟩
  obtain ⟨j, w⟩ := q
  rcases js_as_iff.mp hq with ⟨hj, v, hv, hc, rfl⟩ | ⟨hj, x, hx, rfl⟩
  · rw [List.getElem?_set_ne (by omega), List.getElem?_set_ne (by omega), List.getElem?_set_ne (by omega)] at hv
    have n1 : i + 1 ≠ j := by
      intro e
      subst e
      rw [List.getElem?_set] at hv
      simp only [if_true] at hv
      split at hv <;> cases hv
      simp [jx_c1] at hc
    rw [List.getElem?_set_ne n1] at hv
    have n2 : i ≠ j := by
      intro e
      subst e
      rw [List.getElem?_set] at hv
      simp only [if_true] at hv
      split at hv <;> cases hv
      simp [jx_c1] at hc
    rw [List.getElem?_set_ne n2] at hv
    refine h3 _ (List.mem_cons_of_mem _ (List.mem_filter.mpr ⟨js_as_iff.mpr (Or.inl ⟨hj, v, hv, hc, rfl⟩), ?_⟩))
    simp [Ne.symm n1, Ne.symm n2, js_v_c1 hc]
  · have n1 : nL + 2 + i ≠ nL + 1 + j := by
      intro e
      rw [e] at hx
      rw [List.getElem?_set] at hx
      simp only [if_true] at hx
      split at hx <;> cases hx
    rw [List.getElem?_set_ne n1] at hx
    by_cases hji : j = i
    · subst hji
      rw [List.getElem?_set] at hx
      simp only [if_true] at hx
      split at hx
      · cases hx
        exact h3 _ (by simp)
      · cases hx
    · rw [List.getElem?_set_ne (by omega)] at hx
      have n2 : nL + i ≠ nL + 1 + j := by
        intro e
        rw [e] at hx
        rw [List.getElem?_set] at hx
        simp only [if_true] at hx
        split at hx <;> cases hx
      rw [List.getElem?_set_ne n2, List.getElem?_set_ne (by omega), List.getElem?_set_ne (by omega)] at hx
      refine h3 _ (List.mem_cons_of_mem _ (List.mem_filter.mpr ⟨js_as_iff.mpr (Or.inr ⟨hj, x, hx, rfl⟩), ?_⟩))
      have e2 : ¬ j + 1 = i := by omega
      have e3 : ¬ j = i + 1 := by omega
      simp [hji, e2, e3]
theorem js_args_mem : ∀ (vs : List Value) (o j : Nat) (w : Value), (∀ v ∈ vs, v.category = 1) → vs[j]? = some w → (o + j, w) ∈ lv_args o vs
  | [], _, j, w, _, h => by simp at h
  | v :: vs, o, j, w, hc, h => by
    have hv : ¬ v.category = 2 := by rw [hc v List.mem_cons_self]; decide
    rw [lv_args, if_neg hv]
    cases j with
    | zero =>
      simp at h
      subst h
      simp
    | succ j =>
      rw [List.getElem?_cons_succ] at h
      have := js_args_mem vs (o + 1) j w (fun u hu => hc u (List.mem_cons_of_mem _ hu)) h
      rw [show o + (j + 1) = o + 1 + j by omega]
      exact List.mem_cons_of_mem _ this
theorem js_sl_len : ∀ (vs : List Value), (∀ v ∈ vs, v.category = 1) → (lg_sl vs).length = vs.length
  | [], _ => rfl
  | v :: vs, hc => by
    have hv : ¬ v.category = 2 := by rw [hc v List.mem_cons_self]; decide
    have := js_sl_len vs (fun u hu => hc u (List.mem_cons_of_mem _ hu))
    unfold lg_sl at this ⊢
    rw [List.flatMap_cons, if_neg hv, List.length_append, this]
    simp
    omega
theorem js_entry {b z nL : Nat} {vs : List Value} (hc : ∀ v ∈ vs, jx_c1 v = true) (hl : vs.length ≤ nL) : lv_has ((lg_sl (vs.map (js_v b z)) ++ List.replicate (nL - (lg_sl (vs.map (js_v b z))).length) Slot.unset).toArray) nL (js_as b z nL (vs ++ List.replicate (nL - vs.length) jx_u)) := by
  have hc2 : ∀ v ∈ vs.map (js_v b z), v.category = 1 := by
    intro v hv
    obtain ⟨u, hu, rfl⟩ := List.mem_map.mp hv
    exact js_v_c1 (hc u hu)
  have hlen : (lg_sl (vs.map (js_v b z))).length = vs.length := by rw [js_sl_len _ hc2, List.length_map]
  obtain ⟨h1, h2, h3⟩ := lv_entry (vs.map (js_v b z)) (n := nL) (by rw [hlen]; exact hl)
  refine ⟨h1, h2, fun q hq => ?_⟩
  obtain ⟨j, w⟩ := q
  rcases js_as_iff.mp hq with ⟨hj, v, hv, hcv, rfl⟩ | ⟨hj, x, hx, rfl⟩
  · by_cases hjl : j < vs.length
    · rw [List.getElem?_append_left hjl] at hv
      have := js_args_mem (vs.map (js_v b z)) 0 j (js_v b z v) hc2 (by rw [List.getElem?_map, hv]; rfl)
      rw [Nat.zero_add] at this
      exact h3 _ this
    · rw [List.getElem?_append_right (by omega), List.getElem?_replicate] at hv
      split at hv
      · cases hv
        simp [jx_c1] at hcv
      · cases hv
  · have := (List.getElem?_eq_some_iff.mp hx).1
    simp only [List.length_append, List.length_replicate] at this
    omega
end
section
/-! ===== what the pure machine does, the machine does: the steps ===== -/
def js_W (p : Program) (l : Launch) (e : Env) (R : Room) (s : State) (m : MethodId) (args : Array Value) (below : List Frame) (meth : Method) (c : Code) (Q : State → Prop) (D : va_G) (G : Nat → ClassId) (b z : Nat) (H0 : Heap) (k0 n0 nL pc : Nat) (ls st : List Value) (h : jxH) : Prop :=
  ∀ (H : Heap) (locs : List Loc) (X : Array Slot), lv_has X nL (js_as b z nL ls) → js_R D G b z s h H → va_S (fun q => z < q) H0 H locs → k0 ≤ h.1 → n0 ≤ h.2.1 → W p l e R s m args below meth c H locs (h.1 - k0) (h.2.1 - n0) Q (F0 m pc X (st.map (js_v b z)))
def js_S (own : String) (cc : ByteArray) (nL : Nat) (ini : Bool) (pc : Nat) (o : jxO) : Prop :=
  (∀ ls st h pc' ls' st' h', o ls st h = some (pc', ls', st', h') → h.1 ≤ h'.1 ∧ h.2.1 ≤ h'.2.1) ∧
  ∀ (p : Program) (l : Launch) (e : Env) (R : Room) (s : State) (m : MethodId) (args : Array Value) (below : List Frame) (meth : Method) (c : Code) (Q : State → Prop) (D : va_G) (G : Nat → ClassId) (b z : Nat) (H0 : Heap) (k0 n0 : Nat), CallFix p m c cc nL s args js_T own → js_K D G s → (ini = true → meth.name = "<init>") → 1 ≤ R.frames → 100 ≤ R.locals →
    ∀ ls st h pc' ls' st' h', o ls st h = some (pc', ls', st', h') → h'.1 - k0 ≤ R.cells → h'.2.1 - n0 ≤ R.slots → js_W p l e R s m args below meth c Q D G b z H0 k0 n0 nL pc' ls' st' h' → js_W p l e R s m args below meth c Q D G b z H0 k0 n0 nL pc ls st h
section JSS
variable {own : String} {cc : ByteArray} {nL pc : Nat} {ini : Bool}
/-- a step that leaves locals and heap -/
theorem js_pure {o : jxO} (ho : ∀ ls st h r, o ls st h = some r → r.2.1 = ls ∧ r.2.2.2 = h ∧ ∀ (p : Program) (l : Launch) (e : Env) (R : Room) (s : State) (m : MethodId) (args : Array Value) (below : List Frame) (meth : Method) (c : Code) (H : Heap) (locs : List Loc) (k n : Nat) (Q : State → Prop) (b z : Nat) (X : Array Slot), p.tables.exec = Jvm.exec → c.code = cc → s.vm.findClass own = some m.cls → (∀ w ∈ js_T, w.before args s = true) → lv_has X nL (js_as b z nL ls) → W p l e R s m args below meth c H locs k n Q (F0 m r.1 X (r.2.2.1.map (js_v b z))) → W p l e R s m args below meth c H locs k n Q (F0 m pc X (st.map (js_v b z)))) : js_S own cc nL ini pc o := by
  refine ⟨fun ls st h pc' ls' st' h' e => ?_, fun p l e R s m args below meth c Q D G b z H0 k0 n0 S _ _ _ _ ls st h pc' ls' st' h' e1 _ _ kW H locs X hL hR hS hk hn => ?_⟩
  · have := (ho ls st h _ e).2.1
    dsimp only at this
    subst this
    exact ⟨Nat.le_refl _, Nat.le_refl _⟩
  · obtain ⟨a1, a2, a3⟩ := ho ls st h _ e1
    dsimp only at a1 a2 a3
    subst a1
    subst a2
    exact a3 p l e R s m args below meth c H locs _ _ Q b z X S.1 S.2.1 S.2.2.2.1 S.2.2.2.2 hL (kW H locs X hL hR hS hk hn)
/-- a step that sets a local -/
theorem js_loc {o : jxO} (ho : ∀ ls st h r, o ls st h = some r → r.2.2.2 = h ∧ ∀ (p : Program) (l : Launch) (e : Env) (R : Room) (s : State) (m : MethodId) (args : Array Value) (below : List Frame) (meth : Method) (c : Code) (H : Heap) (locs : List Loc) (k n : Nat) (Q : State → Prop) (b z : Nat) (X : Array Slot), p.tables.exec = Jvm.exec → c.code = cc → lv_has X nL (js_as b z nL ls) → (∀ X', lv_has X' nL (js_as b z nL r.2.1) → W p l e R s m args below meth c H locs k n Q (F0 m r.1 X' (r.2.2.1.map (js_v b z)))) → W p l e R s m args below meth c H locs k n Q (F0 m pc X (st.map (js_v b z)))) : js_S own cc nL ini pc o := by
  refine ⟨fun ls st h pc' ls' st' h' e => ?_, fun p l e R s m args below meth c Q D G b z H0 k0 n0 S _ _ _ _ ls st h pc' ls' st' h' e1 _ _ kW H locs X hL hR hS hk hn => ?_⟩
  · have := (ho ls st h _ e).1
    dsimp only at this
    subst this
    exact ⟨Nat.le_refl _, Nat.le_refl _⟩
  · obtain ⟨a2, a3⟩ := ho ls st h _ e1
    dsimp only at a2 a3
    subst a2
    exact a3 p l e R s m args below meth c H locs _ _ Q b z X S.1 S.2.1 hL (fun X' hL' => kW H locs X' hL' hR hS hk hn)
theorem js_iconst {n : Int} {x : Int32} (hd : decode cc pc = .ok (.iconst n, 1)) (hv : Int32.ofInt n = x) : js_S own cc nL ini pc (jo_c (pc + 1) x) := js_pure (fun ls st h r e => by
  cases e
  exact ⟨rfl, rfl, fun p l e R s m args below meth c H locs k n Q b z X hx hb ho ht hl kk => lv_iconst hx hb hd hv kk⟩)
theorem js_bipush {n : Int} {x : Int32} (hd : decode cc pc = .ok (.bipush n, 2)) (hv : (Int8.ofInt n).toInt32 = x) : js_S own cc nL ini pc (jo_c (pc + 2) x) := js_pure (fun ls st h r e => by
  cases e
  exact ⟨rfl, rfl, fun p l e R s m args below meth c H locs k n Q b z X hx hb ho ht hl kk => lv_bipush hx hb hd hv kk⟩)
theorem js_sipush {n : Int} {x : Int32} (hd : decode cc pc = .ok (.sipush n, 3)) (hv : (Int16.ofInt n).toInt32 = x) : js_S own cc nL ini pc (jo_c (pc + 3) x) := js_pure (fun ls st h r e => by
  cases e
  exact ⟨rfl, rfl, fun p l e R s m args below meth c H locs k n Q b z X hx hb ho ht hl kk => lv_sipush hx hb hd hv kk⟩)
theorem js_ldc {i : Nat} {x : Int32} (hd : decode cc pc = .ok (.ldc i, 2)) (hw : Cond.constant own i x ∈ js_T) : js_S own cc nL ini pc (jo_c (pc + 2) x) := js_pure (fun ls st h r e => by
  cases e
  exact ⟨rfl, rfl, fun p l e R s m args below meth c H locs k n Q b z X hx hb ho ht hl kk => lv_ldc hx hb ho (ht _ hw) hd kk⟩)
theorem js_ldcw {i : Nat} {x : Int32} (hd : decode cc pc = .ok (.ldc_w i, 3)) (hw : Cond.constant own i x ∈ js_T) : js_S own cc nL ini pc (jo_c (pc + 3) x) := js_pure (fun ls st h r e => by
  cases e
  exact ⟨rfl, rfl, fun p l e R s m args below meth c H locs k n Q b z X hx hb ho ht hl kk => lv_ldcw hx hb ho (ht _ hw) hd kk⟩)
theorem js_lconst {n : Fin 2} {u : Int64} (hd : decode cc pc = .ok (.lconst n, 1)) (hv : Int64.ofNat (n : Nat) = u) : js_S own cc nL ini pc (jo_cl (pc + 1) u) := js_pure (fun ls st h r e => by
  cases e
  exact ⟨rfl, rfl, fun p l e R s m args below meth c H locs k n Q b z X hx hb ho ht hl kk => lv_lconst hx hb hd hv kk⟩)
theorem js_goto {off : Int} {t : Nat} (hd : decode cc pc = .ok (.goto off, 3)) (ht : (pc : Int) + off = (t : Int)) : js_S own cc nL ini pc (jo_go t) := js_pure (fun ls st h r e => by
  cases e
  exact ⟨rfl, rfl, fun p l e R s m args below meth c H locs k n Q b z X hx hb ho ht hl kk => lv_goto hx hb hd (by assumption) kk⟩)
theorem js_iload {i : Nat} (hi : i < nL) (hd : decode cc pc = .ok (.iload i, 2)) : js_S own cc nL ini pc (jo_il (pc + 2) i) := js_pure (fun ls st h r e => by
  unfold jo_il at e
  split at e
  · next x hx0 =>
    cases e
    exact ⟨rfl, rfl, fun p l e R s m args below meth c H locs k n Q b z X hx hb ho ht hl kk => lv_iload hx hb hd (hl.2.2 (i, .int x) (js_as_iff.mpr (Or.inl ⟨hi, _, hx0, rfl, rfl⟩))) kk⟩
  · cases e)
theorem js_iload_n {q : Fin 4} {i : Nat} (hq : (q : Nat) = i) (hi : i < nL) (hd : decode cc pc = .ok (.iload_n q, 1)) : js_S own cc nL ini pc (jo_il (pc + 1) i) := js_pure (fun ls st h r e => by
  unfold jo_il at e
  split at e
  · next x hx0 =>
    cases e
    exact ⟨rfl, rfl, fun p l e R s m args below meth c H locs k n Q b z X hx hb ho ht hl kk => lv_iload_n hx hb hd hq (hl.2.2 (i, .int x) (js_as_iff.mpr (Or.inl ⟨hi, _, hx0, rfl, rfl⟩))) kk⟩
  · cases e)
theorem js_aload {i : Nat} (hi : i < nL) (hd : decode cc pc = .ok (.aload i, 2)) : js_S own cc nL ini pc (jo_al (pc + 2) i) := js_pure (fun ls st h r e => by
  unfold jo_al at e
  split at e
  · next x hx0 =>
    cases e
    exact ⟨rfl, rfl, fun p l e R s m args below meth c H locs k n Q b z X hx hb ho ht hl kk => lv_aload hx hb hd (hl.2.2 (i, .ref (js_a b z x)) (js_as_iff.mpr (Or.inl ⟨hi, _, hx0, rfl, rfl⟩))) kk⟩
  · cases e)
theorem js_aload_n {q : Fin 4} {i : Nat} (hq : (q : Nat) = i) (hi : i < nL) (hd : decode cc pc = .ok (.aload_n q, 1)) : js_S own cc nL ini pc (jo_al (pc + 1) i) := js_pure (fun ls st h r e => by
  unfold jo_al at e
  split at e
  · next x hx0 =>
    cases e
    exact ⟨rfl, rfl, fun p l e R s m args below meth c H locs k n Q b z X hx hb ho ht hl kk => lv_aload_n hx hb hd hq (hl.2.2 (i, .ref (js_a b z x)) (js_as_iff.mpr (Or.inl ⟨hi, _, hx0, rfl, rfl⟩))) kk⟩
  · cases e)
theorem js_lload {i : Nat} (hi : i < nL) (hd : decode cc pc = .ok (.lload i, 2)) : js_S own cc nL ini pc (jo_ll (pc + 2) nL i) := js_pure (fun ls st h r e => by
  unfold jo_ll at e
  split at e
  · next x hx0 =>
    cases e
    exact ⟨rfl, rfl, fun p l e R s m args below meth c H locs k n Q b z X hx hb ho ht hl kk => lv_lload hx hb hd (hl.2.2 (i, .long x) (js_as_iff.mpr (Or.inr ⟨hi, _, hx0, rfl⟩))) kk⟩
  · cases e)
theorem js_istore {i : Nat} (hi : i < nL) (hd : decode cc pc = .ok (.istore i, 2)) : js_S own cc nL ini pc (jo_is (pc + 2) nL i) := js_loc (fun ls st h r e => by
  unfold jo_is at e
  split at e
  · next x rest =>
    cases e
    exact ⟨rfl, fun p l e R s m args below meth c H locs k n Q b z X hx hb hl kk => lv_istore hx hb hd hl hi rfl (fun X' hX => kk X' (js_si (v := .int x) hi rfl hX))⟩
  · cases e)
theorem js_istore_n {q : Fin 4} {i : Nat} (hq : (q : Nat) = i) (hi : i < nL) (hd : decode cc pc = .ok (.istore_n q, 1)) : js_S own cc nL ini pc (jo_is (pc + 1) nL i) := js_loc (fun ls st h r e => by
  unfold jo_is at e
  split at e
  · next x rest =>
    cases e
    exact ⟨rfl, fun p l e R s m args below meth c H locs k n Q b z X hx hb hl kk => lv_istore_n hx hb hd hq hl hi rfl (fun X' hX => kk X' (js_si (v := .int x) hi rfl hX))⟩
  · cases e)
theorem js_astore {i : Nat} (hi : i < nL) (hd : decode cc pc = .ok (.astore i, 2)) : js_S own cc nL ini pc (jo_as (pc + 2) nL i) := js_loc (fun ls st h r e => by
  unfold jo_as at e
  split at e
  · next x rest =>
    cases e
    exact ⟨rfl, fun p l e R s m args below meth c H locs k n Q b z X hx hb hl kk => lv_astore hx hb hd hl hi rfl (fun X' hX => kk X' (js_si (v := .ref x) hi rfl hX))⟩
  · cases e)
theorem js_astore_n {q : Fin 4} {i : Nat} (hq : (q : Nat) = i) (hi : i < nL) (hd : decode cc pc = .ok (.astore_n q, 1)) : js_S own cc nL ini pc (jo_as (pc + 1) nL i) := js_loc (fun ls st h r e => by
  unfold jo_as at e
  split at e
  · next x rest =>
    cases e
    exact ⟨rfl, fun p l e R s m args below meth c H locs k n Q b z X hx hb hl kk => lv_astore_n hx hb hd hq hl hi rfl (fun X' hX => kk X' (js_si (v := .ref x) hi rfl hX))⟩
  · cases e)
theorem js_lstore {i : Nat} (hi : i + 1 < nL) (hd : decode cc pc = .ok (.lstore i, 2)) : js_S own cc nL ini pc (jo_ls (pc + 2) nL i) := js_loc (fun ls st h r e => by
  unfold jo_ls at e
  split at e
  · next x rest =>
    cases e
    exact ⟨rfl, fun p l e R s m args below meth c H locs k n Q b z X hx hb hl kk => lv_lstore hx hb hd hl hi rfl (fun X' hX => kk X' (js_sl hi hX))⟩
  · cases e)
theorem js_iinc {i : Nat} {n : Int} {y : Int32} (hi : i < nL) (hd : decode cc pc = .ok (.iinc i n, 3)) (hv : Int32.ofInt n = y) : js_S own cc nL ini pc (jo_inc (pc + 3) nL i y) := js_loc (fun ls st h r e => by
  unfold jo_inc at e
  split at e
  · next x hx0 =>
    cases e
    refine ⟨rfl, fun p l e R s m args below meth c H locs k n' Q b z X hx hb hl kk => ?_⟩
    obtain ⟨j, hj⟩ := List.getElem?_of_mem (js_as_iff.mpr (Or.inl ⟨hi, _, hx0, rfl, rfl⟩) : (i, Value.int x) ∈ js_as b z nL ls)
    exact lv_iinc hx hb hd hl hj (by rw [hv]) hi rfl (fun X' hX => kk X' (js_si (v := .int (x + y)) hi rfl hX))
  · cases e)
theorem js_iadd (hd : decode cc pc = .ok (.iadd, 1)) : js_S own cc nL ini pc (jo_b (pc + 1) (fun x y => x + y)) := js_pure (fun ls st h r e => by
  unfold jo_b at e
  split at e
  · cases e
    exact ⟨rfl, rfl, fun p l e R s m args below meth c H locs k n Q b z X hx hb ho ht hl kk => lv_iadd hx hb hd kk⟩
  · cases e)
theorem js_isub (hd : decode cc pc = .ok (.isub, 1)) : js_S own cc nL ini pc (jo_b (pc + 1) (fun x y => x - y)) := js_pure (fun ls st h r e => by
  unfold jo_b at e
  split at e
  · cases e
    exact ⟨rfl, rfl, fun p l e R s m args below meth c H locs k n Q b z X hx hb ho ht hl kk => lv_isub hx hb hd kk⟩
  · cases e)
theorem js_imul (hd : decode cc pc = .ok (.imul, 1)) : js_S own cc nL ini pc (jo_b (pc + 1) (fun x y => x * y)) := js_pure (fun ls st h r e => by
  unfold jo_b at e
  split at e
  · cases e
    exact ⟨rfl, rfl, fun p l e R s m args below meth c H locs k n Q b z X hx hb ho ht hl kk => lv_imul hx hb hd kk⟩
  · cases e)
theorem js_iand (hd : decode cc pc = .ok (.iand, 1)) : js_S own cc nL ini pc (jo_b (pc + 1) (fun x y => x &&& y)) := js_pure (fun ls st h r e => by
  unfold jo_b at e
  split at e
  · cases e
    exact ⟨rfl, rfl, fun p l e R s m args below meth c H locs k n Q b z X hx hb ho ht hl kk => lv_iand hx hb hd kk⟩
  · cases e)
theorem js_ior (hd : decode cc pc = .ok (.ior, 1)) : js_S own cc nL ini pc (jo_b (pc + 1) (fun x y => x ||| y)) := js_pure (fun ls st h r e => by
  unfold jo_b at e
  split at e
  · cases e
    exact ⟨rfl, rfl, fun p l e R s m args below meth c H locs k n Q b z X hx hb ho ht hl kk => lv_ior hx hb hd kk⟩
  · cases e)
theorem js_ixor (hd : decode cc pc = .ok (.ixor, 1)) : js_S own cc nL ini pc (jo_b (pc + 1) (fun x y => x ^^^ y)) := js_pure (fun ls st h r e => by
  unfold jo_b at e
  split at e
  · cases e
    exact ⟨rfl, rfl, fun p l e R s m args below meth c H locs k n Q b z X hx hb ho ht hl kk => lv_ixor hx hb hd kk⟩
  · cases e)
theorem js_ishl (hd : decode cc pc = .ok (.ishl, 1)) : js_S own cc nL ini pc (jo_b (pc + 1) (fun x y => x <<< (y &&& 31))) := js_pure (fun ls st h r e => by
  unfold jo_b at e
  split at e
  · cases e
    exact ⟨rfl, rfl, fun p l e R s m args below meth c H locs k n Q b z X hx hb ho ht hl kk => lv_ishl hx hb hd kk⟩
  · cases e)
theorem js_ishr (hd : decode cc pc = .ok (.ishr, 1)) : js_S own cc nL ini pc (jo_b (pc + 1) (fun x y => x >>> (y &&& 31))) := js_pure (fun ls st h r e => by
  unfold jo_b at e
  split at e
  · cases e
    exact ⟨rfl, rfl, fun p l e R s m args below meth c H locs k n Q b z X hx hb ho ht hl kk => lv_ishr hx hb hd kk⟩
  · cases e)
theorem js_iushr (hd : decode cc pc = .ok (.iushr, 1)) : js_S own cc nL ini pc (jo_b (pc + 1) (fun x y => (x.toUInt32 >>> (y.toUInt32 &&& Int32.toUInt32 31)).toInt32)) := js_pure (fun ls st h r e => by
  unfold jo_b at e
  split at e
  · cases e
    exact ⟨rfl, rfl, fun p l e R s m args below meth c H locs k n Q b z X hx hb ho ht hl kk => lv_iushr hx hb hd rfl kk⟩
  · cases e)
theorem js_idiv (hd : decode cc pc = .ok (.idiv, 1)) : js_S own cc nL ini pc (jo_q (pc + 1) (fun x y => x / y)) := js_pure (fun ls st h r e => by
  unfold jo_q at e
  split at e
  · split at e
    · cases e
    · next hy =>
      cases e
      exact ⟨rfl, rfl, fun p l e R s m args below meth c H locs k n Q b z X hx hb ho ht hl kk => lv_idiv hx hb hd hy kk⟩
  · cases e)
theorem js_irem (hd : decode cc pc = .ok (.irem, 1)) : js_S own cc nL ini pc (jo_q (pc + 1) (fun x y => x - x / y * y)) := js_pure (fun ls st h r e => by
  unfold jo_q at e
  split at e
  · split at e
    · cases e
    · next hy =>
      cases e
      exact ⟨rfl, rfl, fun p l e R s m args below meth c H locs k n Q b z X hx hb ho ht hl kk => lv_irem hx hb hd hy kk⟩
  · cases e)
theorem js_ineg (hd : decode cc pc = .ok (.ineg, 1)) : js_S own cc nL ini pc (jo_1 (pc + 1) (fun x => -x)) := js_pure (fun ls st h r e => by
  unfold jo_1 at e
  split at e
  · cases e
    exact ⟨rfl, rfl, fun p l e R s m args below meth c H locs k n Q b z X hx hb ho ht hl kk => lv_ineg hx hb hd kk⟩
  · cases e)
theorem js_i2b (hd : decode cc pc = .ok (.i2b, 1)) : js_S own cc nL ini pc (jo_1 (pc + 1) (fun x => x.toInt8.toInt32)) := js_pure (fun ls st h r e => by
  unfold jo_1 at e
  split at e
  · cases e
    exact ⟨rfl, rfl, fun p l e R s m args below meth c H locs k n Q b z X hx hb ho ht hl kk => lv_i2b hx hb hd rfl kk⟩
  · cases e)
theorem js_i2s (hd : decode cc pc = .ok (.i2s, 1)) : js_S own cc nL ini pc (jo_1 (pc + 1) (fun x => x.toInt16.toInt32)) := js_pure (fun ls st h r e => by
  unfold jo_1 at e
  split at e
  · cases e
    exact ⟨rfl, rfl, fun p l e R s m args below meth c H locs k n Q b z X hx hb ho ht hl kk => lv_i2s hx hb hd rfl kk⟩
  · cases e)
theorem js_i2l (hd : decode cc pc = .ok (.i2l, 1)) : js_S own cc nL ini pc (jo_i2l (pc + 1)) := js_pure (fun ls st h r e => by
  unfold jo_i2l at e
  split at e
  · cases e
    exact ⟨rfl, rfl, fun p l e R s m args below meth c H locs k n Q b z X hx hb ho ht hl kk => lv_i2l hx hb hd rfl kk⟩
  · cases e)
theorem js_lsub (hd : decode cc pc = .ok (.lsub, 1)) : js_S own cc nL ini pc (jo_lb (pc + 1) (fun x y => x - y)) := js_pure (fun ls st h r e => by
  unfold jo_lb at e
  split at e
  · cases e
    exact ⟨rfl, rfl, fun p l e R s m args below meth c H locs k n Q b z X hx hb ho ht hl kk => lv_lsub hx hb hd kk⟩
  · cases e)
theorem js_lmul (hd : decode cc pc = .ok (.lmul, 1)) : js_S own cc nL ini pc (jo_lb (pc + 1) (fun x y => x * y)) := js_pure (fun ls st h r e => by
  unfold jo_lb at e
  split at e
  · cases e
    exact ⟨rfl, rfl, fun p l e R s m args below meth c H locs k n Q b z X hx hb ho ht hl kk => lv_lmul hx hb hd kk⟩
  · cases e)
theorem js_land (hd : decode cc pc = .ok (.land, 1)) : js_S own cc nL ini pc (jo_lb (pc + 1) (fun x y => x &&& y)) := js_pure (fun ls st h r e => by
  unfold jo_lb at e
  split at e
  · cases e
    exact ⟨rfl, rfl, fun p l e R s m args below meth c H locs k n Q b z X hx hb ho ht hl kk => lv_land hx hb hd kk⟩
  · cases e)
theorem js_lcmp (hd : decode cc pc = .ok (.lcmp, 1)) : js_S own cc nL ini pc (jo_lc (pc + 1)) := js_pure (fun ls st h r e => by
  unfold jo_lc at e
  split at e
  · cases e
    exact ⟨rfl, rfl, fun p l e R s m args below meth c H locs k n Q b z X hx hb ho ht hl kk => W.lcmp hx hb hd kk⟩
  · cases e)
theorem js_if_eq {off : Int} {t : Nat} (hd : decode cc pc = .ok (.ifCond .eq off, 3)) (ht0 : (pc : Int) + off = (t : Int)) : js_S own cc nL ini pc (jo_if (pc + 3) t (fun x => decide (x = 0))) := js_pure (fun ls st h r e => by
  unfold jo_if at e
  split at e
  · cases e
    exact ⟨rfl, rfl, fun p l e R s m args below meth c H locs k n Q b z X hx hb ho ht hl kk => lv_if_eq hx hb hd ht0 (fun q => by rw [if_pos (decide_eq_true q)] at kk; exact kk) (fun q => by rw [if_neg (by rw [decide_eq_true_eq]; exact q)] at kk; exact kk)⟩
  · cases e)
theorem js_ic_eq {off : Int} {t : Nat} (hd : decode cc pc = .ok (.if_icmp .eq off, 3)) (ht0 : (pc : Int) + off = (t : Int)) : js_S own cc nL ini pc (jo_ic (pc + 3) t (fun x y => decide (x = y))) := js_pure (fun ls st h r e => by
  unfold jo_ic at e
  split at e
  · cases e
    exact ⟨rfl, rfl, fun p l e R s m args below meth c H locs k n Q b z X hx hb ho ht hl kk => lv_icmp_eq hx hb hd ht0 (fun q => by rw [if_pos (decide_eq_true q)] at kk; exact kk) (fun q => by rw [if_neg (by rw [decide_eq_true_eq]; exact q)] at kk; exact kk)⟩
  · cases e)
theorem js_if_ne {off : Int} {t : Nat} (hd : decode cc pc = .ok (.ifCond .ne off, 3)) (ht0 : (pc : Int) + off = (t : Int)) : js_S own cc nL ini pc (jo_if (pc + 3) t (fun x => decide (¬ x = 0))) := js_pure (fun ls st h r e => by
  unfold jo_if at e
  split at e
  · cases e
    exact ⟨rfl, rfl, fun p l e R s m args below meth c H locs k n Q b z X hx hb ho ht hl kk => lv_if_ne hx hb hd ht0 (fun q => by rw [if_pos (decide_eq_true q)] at kk; exact kk) (fun q => by rw [if_neg (by rw [decide_eq_true_eq]; exact fun w => w q)] at kk; exact kk)⟩
  · cases e)
theorem js_ic_ne {off : Int} {t : Nat} (hd : decode cc pc = .ok (.if_icmp .ne off, 3)) (ht0 : (pc : Int) + off = (t : Int)) : js_S own cc nL ini pc (jo_ic (pc + 3) t (fun x y => decide (¬ x = y))) := js_pure (fun ls st h r e => by
  unfold jo_ic at e
  split at e
  · cases e
    exact ⟨rfl, rfl, fun p l e R s m args below meth c H locs k n Q b z X hx hb ho ht hl kk => lv_icmp_ne hx hb hd ht0 (fun q => by rw [if_pos (decide_eq_true q)] at kk; exact kk) (fun q => by rw [if_neg (by rw [decide_eq_true_eq]; exact fun w => w q)] at kk; exact kk)⟩
  · cases e)
theorem js_if_lt {off : Int} {t : Nat} (hd : decode cc pc = .ok (.ifCond .lt off, 3)) (ht0 : (pc : Int) + off = (t : Int)) : js_S own cc nL ini pc (jo_if (pc + 3) t (fun x => decide (x < 0))) := js_pure (fun ls st h r e => by
  unfold jo_if at e
  split at e
  · cases e
    exact ⟨rfl, rfl, fun p l e R s m args below meth c H locs k n Q b z X hx hb ho ht hl kk => lv_if_lt hx hb hd ht0 (fun q => by rw [if_pos (decide_eq_true q)] at kk; exact kk) (fun q => by rw [if_neg (by rw [decide_eq_true_eq]; exact q)] at kk; exact kk)⟩
  · cases e)
theorem js_ic_lt {off : Int} {t : Nat} (hd : decode cc pc = .ok (.if_icmp .lt off, 3)) (ht0 : (pc : Int) + off = (t : Int)) : js_S own cc nL ini pc (jo_ic (pc + 3) t (fun x y => decide (x < y))) := js_pure (fun ls st h r e => by
  unfold jo_ic at e
  split at e
  · cases e
    exact ⟨rfl, rfl, fun p l e R s m args below meth c H locs k n Q b z X hx hb ho ht hl kk => lv_icmp_lt hx hb hd ht0 (fun q => by rw [if_pos (decide_eq_true q)] at kk; exact kk) (fun q => by rw [if_neg (by rw [decide_eq_true_eq]; exact q)] at kk; exact kk)⟩
  · cases e)
theorem js_if_ge {off : Int} {t : Nat} (hd : decode cc pc = .ok (.ifCond .ge off, 3)) (ht0 : (pc : Int) + off = (t : Int)) : js_S own cc nL ini pc (jo_if (pc + 3) t (fun x => decide (0 ≤ x))) := js_pure (fun ls st h r e => by
  unfold jo_if at e
  split at e
  · cases e
    exact ⟨rfl, rfl, fun p l e R s m args below meth c H locs k n Q b z X hx hb ho ht hl kk => lv_if_ge hx hb hd ht0 (fun q => by rw [if_pos (decide_eq_true q)] at kk; exact kk) (fun q => by rw [if_neg (by rw [decide_eq_true_eq]; exact q)] at kk; exact kk)⟩
  · cases e)
theorem js_ic_ge {off : Int} {t : Nat} (hd : decode cc pc = .ok (.if_icmp .ge off, 3)) (ht0 : (pc : Int) + off = (t : Int)) : js_S own cc nL ini pc (jo_ic (pc + 3) t (fun x y => decide (y ≤ x))) := js_pure (fun ls st h r e => by
  unfold jo_ic at e
  split at e
  · cases e
    exact ⟨rfl, rfl, fun p l e R s m args below meth c H locs k n Q b z X hx hb ho ht hl kk => lv_icmp_ge hx hb hd ht0 (fun q => by rw [if_pos (decide_eq_true q)] at kk; exact kk) (fun q => by rw [if_neg (by rw [decide_eq_true_eq]; exact q)] at kk; exact kk)⟩
  · cases e)
theorem js_if_gt {off : Int} {t : Nat} (hd : decode cc pc = .ok (.ifCond .gt off, 3)) (ht0 : (pc : Int) + off = (t : Int)) : js_S own cc nL ini pc (jo_if (pc + 3) t (fun x => decide (0 < x))) := js_pure (fun ls st h r e => by
  unfold jo_if at e
  split at e
  · cases e
    exact ⟨rfl, rfl, fun p l e R s m args below meth c H locs k n Q b z X hx hb ho ht hl kk => lv_if_gt hx hb hd ht0 (fun q => by rw [if_pos (decide_eq_true q)] at kk; exact kk) (fun q => by rw [if_neg (by rw [decide_eq_true_eq]; exact q)] at kk; exact kk)⟩
  · cases e)
theorem js_ic_gt {off : Int} {t : Nat} (hd : decode cc pc = .ok (.if_icmp .gt off, 3)) (ht0 : (pc : Int) + off = (t : Int)) : js_S own cc nL ini pc (jo_ic (pc + 3) t (fun x y => decide (y < x))) := js_pure (fun ls st h r e => by
  unfold jo_ic at e
  split at e
  · cases e
    exact ⟨rfl, rfl, fun p l e R s m args below meth c H locs k n Q b z X hx hb ho ht hl kk => lv_icmp_gt hx hb hd ht0 (fun q => by rw [if_pos (decide_eq_true q)] at kk; exact kk) (fun q => by rw [if_neg (by rw [decide_eq_true_eq]; exact q)] at kk; exact kk)⟩
  · cases e)
theorem js_if_le {off : Int} {t : Nat} (hd : decode cc pc = .ok (.ifCond .le off, 3)) (ht0 : (pc : Int) + off = (t : Int)) : js_S own cc nL ini pc (jo_if (pc + 3) t (fun x => decide (x ≤ 0))) := js_pure (fun ls st h r e => by
  unfold jo_if at e
  split at e
  · cases e
    exact ⟨rfl, rfl, fun p l e R s m args below meth c H locs k n Q b z X hx hb ho ht hl kk => lv_if_le hx hb hd ht0 (fun q => by rw [if_pos (decide_eq_true q)] at kk; exact kk) (fun q => by rw [if_neg (by rw [decide_eq_true_eq]; exact q)] at kk; exact kk)⟩
  · cases e)
theorem js_ic_le {off : Int} {t : Nat} (hd : decode cc pc = .ok (.if_icmp .le off, 3)) (ht0 : (pc : Int) + off = (t : Int)) : js_S own cc nL ini pc (jo_ic (pc + 3) t (fun x y => decide (x ≤ y))) := js_pure (fun ls st h r e => by
  unfold jo_ic at e
  split at e
  · cases e
    exact ⟨rfl, rfl, fun p l e R s m args below meth c H locs k n Q b z X hx hb ho ht hl kk => lv_icmp_le hx hb hd ht0 (fun q => by rw [if_pos (decide_eq_true q)] at kk; exact kk) (fun q => by rw [if_neg (by rw [decide_eq_true_eq]; exact q)] at kk; exact kk)⟩
  · cases e)
theorem js_ifnn {off : Int} {t : Nat} (hd : decode cc pc = .ok (.ifnonnull off, 3)) (ht0 : (pc : Int) + off = (t : Int)) : js_S own cc nL ini pc (jo_nn (pc + 3) t) := js_pure (fun ls st h r e => by
  unfold jo_nn at e
  split at e
  · cases e
    exact ⟨rfl, rfl, fun p l e R s m args below meth c H locs k n Q b z X hx hb ho ht hl kk => lv_ifnonnull hx hb hd ht0 kk⟩
  · cases e
    exact ⟨rfl, rfl, fun p l e R s m args below meth c H locs k n Q b z X hx hb ho ht hl kk => lv_ifnonnullN hx hb hd kk⟩
  · cases e)
theorem js_dup (hd : decode cc pc = .ok (.dup, 1)) : js_S own cc nL ini pc (jo_d (pc + 1)) := js_pure (fun ls st h r e => by
  unfold jo_d at e
  split at e
  · next v rest =>
    split at e
    · next hc =>
      cases e
      exact ⟨rfl, rfl, fun p l e R s m args below meth c H locs k n Q b z X hx hb ho ht hl kk => lv_dup hx hb hd (js_v_c1 hc) kk⟩
    · cases e
  · cases e)
theorem js_dup2 (hd : decode cc pc = .ok (.dup2, 1)) : js_S own cc nL ini pc (jo_d2 (pc + 1)) := js_pure (fun ls st h r e => by
  unfold jo_d2 at e
  split at e
  · next v w rest =>
    split at e
    · next hc =>
      cases e
      exact ⟨rfl, rfl, fun p l e R s m args below meth c H locs k n Q b z X hx hb ho ht hl kk => lv_dup2_11 hx hb hd (js_v_c1 hc.1) (js_v_c1 hc.2) kk⟩
    · cases e
  · cases e)
theorem js_pop (hd : decode cc pc = .ok (.pop, 1)) : js_S own cc nL ini pc (jo_p (pc + 1)) := js_pure (fun ls st h r e => by
  unfold jo_p at e
  split at e
  · next v rest =>
    split at e
    · next hc =>
      cases e
      exact ⟨rfl, rfl, fun p l e R s m args below meth c H locs k n Q b z X hx hb ho ht hl kk => lv_pop hx hb hd (js_v_c1 hc) kk⟩
    · cases e
  · cases e)
/-- where a tableswitch goes -/
def js_swt (pc : Nat) (dflt lo hi : Int) (offs : List Int) (x : Int32) : Nat := if x.toInt < lo ∨ hi < x.toInt then ((pc : Int) + dflt).toNat else ((pc : Int) + (offs[(x.toInt - lo).toNat]?).getD 0).toNat
theorem js_tsw {dflt lo hi : Int} {offs : Array Int} {len : Nat} (hd : decode cc pc = .ok (.tableswitch dflt lo hi offs, len)) (h0 : 0 ≤ (pc : Int) + dflt) (h1 : offs.toList.all (fun o => decide (0 ≤ (pc : Int) + o)) = true) (h2 : hi < lo + offs.size) : js_S own cc nL ini pc (jo_sw (js_swt pc dflt lo hi offs.toList)) := js_pure (fun ls st h r e => by
  unfold jo_sw at e
  split at e
  · next x rest =>
    cases e
    refine ⟨rfl, rfl, fun p l e R s m args below meth c H locs k n Q b z X hx hb ho ht hl kk => ?_⟩
    dsimp only at kk
    by_cases hx0 : x.toInt < lo ∨ hi < x.toInt
    · rw [js_swt, if_pos hx0] at kk
      exact lv_tableOut hx hb hd hx0 (by omega) kk
    · rw [js_swt, if_neg hx0] at kk
      have hlt : (x.toInt - lo).toNat < offs.size := by omega
      have hg : offs[(x.toInt - lo).toNat]? = some offs[(x.toInt - lo).toNat] := Array.getElem?_eq_getElem hlt
      rw [Array.getElem?_toList, hg] at kk
      dsimp only [Option.getD] at kk
      have hm := List.all_eq_true.mp h1 offs[(x.toInt - lo).toNat] (Array.mem_toList_iff.mpr (Array.getElem_mem hlt))
      rw [decide_eq_true_eq] at hm
      exact lv_tableIn hx hb hd (fun q => hx0 (Or.inl q)) (fun q => hx0 (Or.inr q)) hg (by omega) kk
  · cases e)
end JSS
end
section
/-! ===== what the pure machine does, the machine does: steps at the heap ===== -/
section JSR
variable {D : va_G} {G : Nat → ClassId} {b z : Nat} {s : State} {h : jxH} {H H1 : Heap} {a : Nat}
theorem js_R.in (hR : js_R D G b z s h H) {x : jxC} (hx : h.2.2 a = x) (h9 : ∀ L f, x ≠ .inl (9, L, f)) (h7 : ∀ L f, x ≠ .inl (77, L, f)) : 1 ≤ a ∧ a < h.1 ∧ va_at D vwCl (z + a, js_e G b z x) H ∧ js_a b z a = z + a := by
  obtain ⟨r1, r2, r3, r4, r5, L, xs, r6, r7⟩ := hR
  have ha0 : a ≠ 0 := by
    intro e
    subst e
    exact h9 L (.inl xs) (by rw [← hx, r6])
  have hlt : a < h.1 := Nat.not_le.mp fun q => h7 0 (.inl (fun _ => 0)) (by rw [← hx, r5 a q]; rfl)
  refine ⟨by omega, hlt, ?_, by rw [js_a, if_neg ha0]⟩
  rw [← hx]
  exact r4 a (by omega) hlt
theorem js_R.put (hR : js_R D G b z s h H) (h1 : 1 ≤ a) (h2 : a < h.1) {x : jxC} (hx : va_at D vwCl (z + a, js_e G b z x) H1) (e2 : H1.size = H.size) (e3 : ∀ q : Nat, q ≠ z + a → H1[q]? = H[q]?) : js_R D G b z s (jx_w h a x) H1 := by
  obtain ⟨r1, r2, r3, r4, r5, L, xs, r6, r7⟩ := hR
  refine ⟨e2.trans r1, r2, r3, fun i i1 i2 => ?_, fun i hi => ?_, L, xs, ?_, r7.kept (e3 b (by omega))⟩
  · by_cases hi : i = a
    · subst hi
      show va_at D vwCl (z + i, js_e G b z (if i = i then x else h.2.2 i)) H1
      rw [if_pos rfl]
      exact hx
    · show va_at D vwCl (z + i, js_e G b z (if i = a then x else h.2.2 i)) H1
      rw [if_neg hi]
      exact (r4 i i1 i2).kept (e3 _ (by omega))
  · show (if i = a then x else h.2.2 i) = jx_no
    have hi' : h.1 ≤ i := hi
    rw [if_neg (by omega)]
    exact r5 i hi'
  · show (if 0 = a then x else h.2.2 0) = _
    rw [if_neg (by omega)]
    exact r6
theorem js_R.mk (hR : js_R D G b z s h H) {n : Nat} {x : jxC} (hx : va_at D vwCl (z + h.1, js_e G b z x) H1) (e2 : H1.size = H.size + 1) (e3 : ∀ q : Nat, q < H.size → H1[q]? = H[q]?) : js_R D G b z s (jx_mk h n x) H1 := by
  obtain ⟨r1, r2, r3, r4, r5, L, xs, r6, r7⟩ := hR
  refine ⟨by rw [e2, r1]; rfl, Nat.le_succ_of_le r2, r3, fun i i1 i2 => ?_, fun i hi => ?_, L, xs, ?_, r7.kept (e3 b (by omega))⟩
  · have i2' : i < h.1 + 1 := i2
    by_cases hi : i = h.1
    · subst hi
      show va_at D vwCl (z + h.1, js_e G b z (if h.1 = h.1 then x else h.2.2 h.1)) H1
      rw [if_pos rfl]
      exact hx
    · show va_at D vwCl (z + i, js_e G b z (if i = h.1 then x else h.2.2 i)) H1
      rw [if_neg hi]
      exact (r4 i i1 (by omega)).kept (e3 _ (by show z + i < H.size; omega))
  · have hi' : h.1 + 1 ≤ i := hi
    show (if i = h.1 then x else h.2.2 i) = jx_no
    rw [if_neg (by omega)]
    exact r5 i (by omega)
  · show (if 0 = h.1 then x else h.2.2 0) = _
    rw [if_neg (by omega)]
    exact r6
theorem js_Sm {H0 : Heap} {locs : List Loc} (hS : va_S (fun q => z < q) H0 H locs) (e2 : H.size ≤ H1.size) (e3 : ∀ q : Nat, q < H.size → H1[q]? = H[q]?) : va_S (fun q => z < q) H0 H1 locs :=
  ⟨Nat.le_trans hS.1 e2, fun q h1 h2 => (e3 q (Nat.lt_of_lt_of_le h1 hS.1)).trans (hS.2.1 q h1 h2), hS.2.2⟩
theorem js_P1 {q : Nat × va_E} (hx : va_at D vwCl q H) : va_P D vwCl [q] H := fun k x hk => by
  have hz : k < 1 := (List.getElem?_eq_some_iff.mp hk).1
  rw [show k = 0 by omega] at hk
  cases hk
  exact hx
theorem jx_fl_inv {c k : Nat} {v : Value} (e : jx_fl h a c k = some v) : ∃ fs, h.2.2 a = .inr (c, fs) ∧ fs[k]? = some v := by
  unfold jx_fl at e
  split at e
  · next c' fs hx =>
    split at e
    · next hc => subst hc; exact ⟨fs, hx, e⟩
    · cases e
  · cases e
theorem jx_cl_inv {c : Nat} (e : jx_cl h a = some c) : ∃ fs, h.2.2 a = .inr (c, fs) := by
  unfold jx_cl at e
  split at e
  · next c' fs hx => cases e; exact ⟨fs, hx⟩
  · cases e
theorem jx_ai_inv {x : Nat × (Nat → Int32)} (e : jx_ai h a = some x) : h.2.2 a = .inl (0, x.1, .inl x.2) := by
  unfold jx_ai at e
  split at e
  · next n f hx => cases e; exact hx
  · cases e
theorem jx_sc_inv {x : Nat × (Nat → Int32)} (e : jx_sc h a = some x) : h.2.2 a = .inl (9, x.1, .inl x.2) := by
  unfold jx_sc at e
  split at e
  · next n f hx => cases e; exact hx
  · cases e
theorem jx_al_inv {x : Nat × (Nat → Int64)} (e : jx_al h a = some x) : h.2.2 a = .inl (1, x.1, .inr (.inl x.2)) := by
  unfold jx_al at e
  split at e
  · next n f hx => cases e; exact hx
  · cases e
theorem jx_ar_inv {t : Nat} {x : Nat × (Nat → Option Nat)} (e : jx_ar h a t = some x) : h.2.2 a = .inl (t, x.1, .inr (.inr (.inr (.inr x.2)))) := by
  unfold jx_ar at e
  split at e
  · next t' n f hx =>
    split at e
    · next ht => subst ht; cases e; exact hx
    · cases e
  · cases e
theorem js_in {i : Int32} {n : Nat} (e : jx_inB i n = true) : vp_in i n := by
  obtain ⟨h1, h2⟩ := jx_inB_iff.mp e
  rintro (q | q)
  · exact h1 q
  · omega
end JSR
section JSH
variable {own : String} {cc : ByteArray} {nL pc : Nat} {ini : Bool}
theorem js_getf {index c k : Nat} {C : String} {T : u_T} {N : Nat} (hd : decode cc pc = .ok (.getfield index, 3)) (hc : vwCl[c]? = some (C, T, N)) (hin : ∀ w ∈ u_ws C T N, w ∈ js_T) (hkN : k < N) (hl : Cond.fieldLink own index (T k).1 (T k).2.1 (T k).2.2.1 ∈ js_T) : js_S own cc nL ini pc (jo_gf (pc + 3) c k) := by
  refine ⟨fun ls st h pc' ls' st' h' e1 => ?_, fun p l e R s m args below meth c' Q D G b z H0 k0 n0 S hK hini hf hlo ls st h pc' ls' st' h' e1 hcl hsl kW H locs X hL hR hS hk hn => ?_⟩
  · unfold jo_gf at e1
    split at e1
    · obtain ⟨v, hv, e⟩ := Option.map_eq_some_iff.mp e1
      cases e
      exact ⟨Nat.le_refl _, Nat.le_refl _⟩
    · cases e1
  · unfold jo_gf at e1
    split at e1
    · next a rest =>
      obtain ⟨v, hv, e⟩ := Option.map_eq_some_iff.mp e1
      cases e
      obtain ⟨fs, hx, hfs⟩ := jx_fl_inv hv
      obtain ⟨i1, i2, i3, i4⟩ := hR.in hx (fun _ _ q => by cases q) (fun _ _ q => by cases q)
      have kk := kW H locs X hL hR hS hk hn
      show W p l e R s m args below meth c' H locs _ _ Q (F0 m pc X (.ref (js_a b z a) :: rest.map (js_v b z)))
      rw [i4]
      exact va_get (D := D) (ws := [(z + a, .inr (c, fs.map (js_v b z)))]) S.1 S.2.1 S.2.2.2.2 hin S.2.2.2.1 hK.1 (js_P1 i3) 0 rfl hc k hkN (S.2.2.2.2 _ hl) (fun _ q => q) (v := js_v b z v) (by rw [List.getElem?_map, hfs]; rfl) hd kk
    · cases e1
/-- what may be put into a field -/
def js_fitT (t : Nat) (ty : FieldType) : Prop := ∀ (v : Value), jx_fit t v = true → ∀ b z : Nat, narrow ty (js_v b z v) = js_v b z v ∧ fits ty (js_v b z v) = true
theorem js_fit0 : js_fitT 0 .int := fun v h b z => by
  cases v <;> first | exact ⟨rfl, rfl⟩ | (simp [jx_fit] at h)
theorem js_fit1 : js_fitT 1 .boolean := fun v h b z => by
  cases v with
  | int x =>
    simp only [jx_fit, Bool.or_eq_true, beq_iff_eq] at h
    rcases h with rfl | rfl <;> exact ⟨rfl, rfl⟩
  | _ => simp [jx_fit] at h
theorem js_fit2o {C : String} : js_fitT 2 (.object C) := fun v h b z => by
  cases v <;> first | exact ⟨rfl, rfl⟩ | (simp [jx_fit] at h)
theorem js_fit2a {t : FieldType} : js_fitT 2 (.array t) := fun v h b z => by
  cases v <;> first | exact ⟨rfl, rfl⟩ | (simp [jx_fit] at h)
theorem js_putf {index c k t : Nat} {C : String} {T : u_T} {N : Nat} {ty : FieldType} {ty0 : Nat → FieldType} (hd : decode cc pc = .ok (.putfield index, 3)) (hc : vwCl[c]? = some (C, T, N)) (hin : ∀ w ∈ u_ws C T N, w ∈ js_T) (hty : ∀ k, k < N → parseFieldDescriptor (T k).2.2.1 = some (ty0 k)) (hnm : ∀ a, a < N → ∀ b, b < N → a ≠ b → (T a).2.1 ≠ (T b).2.1) (hkN : k < N) (hl : Cond.fieldLink own index (T k).1 (T k).2.1 (T k).2.2.1 ∈ js_T)
    (hfin : (T k).2.2.2 = false ∨ ((T k).2.2.2 = true ∧ ini = true ∧ (T k).1 = own)) (hdt : parseFieldDescriptor (T k).2.2.1 = some ty) (hfit : js_fitT t ty) : js_S own cc nL ini pc (jo_pf (pc + 3) c k t) := by
  refine ⟨fun ls st h pc' ls' st' h' e1 => ?_, fun p l e R s m args below meth c' Q D G b z H0 k0 n0 S hK hini hf hlo ls st h pc' ls' st' h' e1 hcl hsl kW H locs X hL hR hS hk hn => ?_⟩
  · unfold jo_pf at e1
    split at e1
    · split at e1
      · obtain ⟨v, hv, e⟩ := Option.map_eq_some_iff.mp e1
        cases e
        exact ⟨Nat.le_refl _, Nat.le_refl _⟩
      · cases e1
    · cases e1
  · unfold jo_pf at e1
    split at e1
    · next v a rest =>
      split at e1
      · next hv0 =>
        obtain ⟨v', hv, e⟩ := Option.map_eq_some_iff.mp e1
        cases e
        obtain ⟨fs, hx, hfs⟩ := jx_fl_inv hv
        obtain ⟨i1, i2, i3, i4⟩ := hR.in hx (fun _ _ q => by cases q) (fun _ _ q => by cases q)
        have hkl : k < fs.length := (List.getElem?_eq_some_iff.mp hfs).1
        obtain ⟨hn1, hn2⟩ := hfit v hv0 b z
        show W p l e R s m args below meth c' H locs _ _ Q (F0 m pc X (js_v b z v :: .ref (js_a b z a) :: st'.map (js_v b z)))
        rw [i4]
        have hts := S.2.2.2.2
        have hap := va_apart (own := own) hts hin ty0 hty hnm hK.1 hc
        obtain ⟨r, h1, cell, q1, q2, q3, q4⟩ := i3
        have hr : r = (C, T, N) := Option.some.inj (h1.symm.trans hc)
        subst hr
        obtain ⟨hSl, hfc, kC, hkC, hkind⟩ := hK.1.1 c _ hc
        obtain ⟨cf, kf, fi, f, hi, hsl'⟩ := hSl k hkN
        have hlay := hts _ (hin _ (u_in_lay hkN))
        have hst := (u_facts hfc hkC (u_lays hts hin hkN) hi).1
        have fin : ∀ (H' : Heap), H'[z + a]? = some (cell.setSlot (D.2 c k) (js_v b z v)) → H'.size = H.size → (∀ q, q ≠ z + a → H'[q]? = H[q]?) → W p l e R s m args below meth c' H' (locs ++ [⟨z + a, D.2 c k⟩]) (h.1 - k0) (h.2.1 - n0) Q (F0 m (pc + 3) X (st'.map (js_v b z))) := by
          intro H' e1 e2 e3
          have hat : va_at D vwCl (z + a, js_e G b z (.inr (c, fs.set k v))) H' := by
            refine ⟨_, hc, ?_⟩
            show t_OB (z + a) (D.1 c) N (D.2 c) H' (vp_V ((fs.set k v).map (js_v b z)))
            rw [List.map_set]
            exact t_OB.to (V := updV (vp_V (fs.map (js_v b z))) k (js_v b z v)) ⟨_, e1, q2, q3, t_set q4 hap hkN _⟩ (fun j _ => vp_updV_set (by rw [List.length_map]; exact hkl) _ j)
          have hR' := hR.put i1 i2 hat e2 e3
          have e4 : jx_uf h a c k v = jx_w h a (.inr (c, fs.set k v)) := by rw [jx_uf, hx]
          rw [← e4] at hR'
          exact kW H' _ X hL hR' (hS.put e2 e3 (by show z < z + a; omega)) hk hn
        unfold u_lay at hlay
        rcases hfin with hfin | ⟨hfin, hini', hdecl⟩
        · rw [if_neg (by rw [hfin]; decide)] at hlay
          have h6 := u_store hfc hkC hkind hlay hi hdt hn1 hn2
          refine W.putK S.1 S.2.1 (f := f) ⟨S.2.2.2.1, hts _ hl, ⟨_, _, _, hi⟩, hst⟩ (by rw [q2]; exact h6) q1 q3 (by rw [hsl']; exact k2_hasslot (q4 k hkN)) rfl rfl hd fun H' e1 e2 e3 => ?_
          rw [hsl'] at e1 ⊢
          exact fin H' e1 e2 e3
        · rw [if_pos hfin] at hlay
          have hcf : m.cls = cf := by
            obtain ⟨_, _, c9, _, _, _, -, -, hf9, -, -, -, hown2, -⟩ := Cond.laysFinal_spec hlay
            have e9 : c9 = cf := by have := hi.symm.trans hf9; simp at this; exact this.1.symm
            rw [hdecl] at hown2
            rw [← e9]; exact Option.some.inj (S.2.2.2.1.symm.trans hown2)
          have h6 := u_fits hfc hkC hkind (Or.inr hlay) hi hdt hn1 hn2
          refine W.putFinK S.1 S.2.1 S.2.2.2.1 (hts _ hl) hi hst hcf (hini hini') (by rw [q2]; exact h6) q1 q3 (by rw [hsl']; exact k2_hasslot (q4 k hkN)) rfl rfl hd fun H' e1 e2 e3 => ?_
          rw [hsl'] at e1 ⊢
          exact fin H' e1 e2 e3
      · cases e1
    · cases e1
theorem js_iald (hd : decode cc pc = .ok (.iaload, 1)) : js_S own cc nL ini pc (jo_ia (pc + 1)) := by
  refine ⟨fun ls st h pc' ls' st' h' e1 => ?_, fun p l e R s m args below meth c' Q D G b z H0 k0 n0 S hK hini hf hlo ls st h pc' ls' st' h' e1 hcl hsl kW H locs X hL hR hS hk hn => ?_⟩ <;> unfold jo_ia at e1 <;> split at e1 <;> (try (cases e1; done)) <;> split at e1 <;> (try (cases e1; done)) <;> split at e1 <;> (try (cases e1; done))
  · cases e1
    exact ⟨Nat.le_refl _, Nat.le_refl _⟩
  · next i a rest _ x hx hi =>
    cases e1
    obtain ⟨i1, i2, i3, i4⟩ := hR.in (jx_ai_inv hx) (fun _ _ q => by cases q) (fun _ _ q => by cases q)
    have kk := kW H locs X hL hR hS hk hn
    show W p l e R s m args below meth c' H locs _ _ Q (F0 m pc X (.int i :: .ref (js_a b z a) :: rest.map (js_v b z)))
    rw [i4]
    exact va_iald (D := D) (ws := [(z + a, .inl (G 0, x.1, .inl x.2))]) S.1 S.2.1 hK.1 (js_P1 i3) 0 0 rfl rfl (js_in hi) hd kk
theorem js_lald (hd : decode cc pc = .ok (.laload, 1)) : js_S own cc nL ini pc (jo_la (pc + 1)) := by
  refine ⟨fun ls st h pc' ls' st' h' e1 => ?_, fun p l e R s m args below meth c' Q D G b z H0 k0 n0 S hK hini hf hlo ls st h pc' ls' st' h' e1 hcl hsl kW H locs X hL hR hS hk hn => ?_⟩ <;> unfold jo_la at e1 <;> split at e1 <;> (try (cases e1; done)) <;> split at e1 <;> (try (cases e1; done)) <;> split at e1 <;> (try (cases e1; done))
  · cases e1
    exact ⟨Nat.le_refl _, Nat.le_refl _⟩
  · next i a rest _ x hx hi =>
    cases e1
    obtain ⟨i1, i2, i3, i4⟩ := hR.in (jx_al_inv hx) (fun _ _ q => by cases q) (fun _ _ q => by cases q)
    have kk := kW H locs X hL hR hS hk hn
    show W p l e R s m args below meth c' H locs _ _ Q (F0 m pc X (.int i :: .ref (js_a b z a) :: rest.map (js_v b z)))
    rw [i4]
    exact va_lald (D := D) (ws := [(z + a, .inl (G 1, x.1, .inr (.inl x.2)))]) S.1 S.2.1 hK.1 (js_P1 i3) 0 1 rfl rfl (js_in hi) hd kk
theorem js_rvv {b z : Nat} (r : Option Nat) : va_rf (r.map (js_a b z)) = js_v b z (jx_rv r) := by
  cases r <;> rfl
theorem js_aald2 {t : Nat} {C : String} (ht : t = 2 ∧ C = RX10 ∨ t = 3 ∧ C = RX8) (hd : decode cc pc = .ok (.aaload, 1)) : js_S own cc nL ini pc (jo_ra (pc + 1) t) := by
  refine ⟨fun ls st h pc' ls' st' h' e1 => ?_, fun p l e R s m args below meth c' Q D G b z H0 k0 n0 S hK hini hf hlo ls st h pc' ls' st' h' e1 hcl hsl kW H locs X hL hR hS hk hn => ?_⟩ <;> unfold jo_ra at e1 <;> split at e1 <;> (try (cases e1; done)) <;> split at e1 <;> (try (cases e1; done)) <;> split at e1 <;> (try (cases e1; done))
  · cases e1
    exact ⟨Nat.le_refl _, Nat.le_refl _⟩
  · next i a rest _ x hx hi =>
    cases e1
    obtain ⟨i1, i2, i3, i4⟩ := hR.in (jx_ar_inv hx) (fun _ _ q => by rcases ht with ⟨rfl, -⟩ | ⟨rfl, -⟩ <;> cases q) (fun _ _ q => by rcases ht with ⟨rfl, -⟩ | ⟨rfl, -⟩ <;> cases q)
    have kk := kW H locs X hL hR hS hk hn
    rw [List.map_cons, ← js_rvv] at kk
    show W p l e R s m args below meth c' H locs _ _ Q (F0 m pc X (.int i :: .ref (js_a b z a) :: rest.map (js_v b z)))
    rw [i4]
    rcases ht with ⟨rfl, rfl⟩ | ⟨rfl, rfl⟩
    · exact va_aldq (D := D) (ws := [(z + a, .inl (G 2, x.1, .inr (.inr (.inr (.inr (fun j => (x.2 j).map (js_a b z)))))))]) S.1 S.2.1 hK.1 (js_P1 i3) 0 2 rfl rfl (js_in hi) hd kk
    · exact va_aldq (D := D) (ws := [(z + a, .inl (G 3, x.1, .inr (.inr (.inr (.inr (fun j => (x.2 j).map (js_a b z)))))))]) S.1 S.2.1 hK.1 (js_P1 i3) 0 3 rfl rfl (js_in hi) hd kk
theorem js_aald4 (hd : decode cc pc = .ok (.aaload, 1)) : js_S own cc nL ini pc (jo_ra (pc + 1) 4) := by
  refine ⟨fun ls st h pc' ls' st' h' e1 => ?_, fun p l e R s m args below meth c' Q D G b z H0 k0 n0 S hK hini hf hlo ls st h pc' ls' st' h' e1 hcl hsl kW H locs X hL hR hS hk hn => ?_⟩ <;> unfold jo_ra at e1 <;> split at e1 <;> (try (cases e1; done)) <;> split at e1 <;> (try (cases e1; done)) <;> split at e1 <;> (try (cases e1; done))
  · cases e1
    exact ⟨Nat.le_refl _, Nat.le_refl _⟩
  · next i a rest _ x hx hi =>
    cases e1
    obtain ⟨i1, i2, i3, i4⟩ := hR.in (jx_ar_inv hx) (fun _ _ q => by cases q) (fun _ _ q => by cases q)
    have kk := kW H locs X hL hR hS hk hn
    rw [List.map_cons, ← js_rvv] at kk
    show W p l e R s m args below meth c' H locs _ _ Q (F0 m pc X (.int i :: .ref (js_a b z a) :: rest.map (js_v b z)))
    rw [i4]
    have hlt : i.toNatClampNeg < x.1 := (jx_inB_iff.mp hi).2
    exact W.aald (v := va_rf ((x.2 i.toNatClampNeg).map (js_a b z))) (ty := .array .int) S.1 S.2.1 i3 ((hK.1.2 4 _ rfl).1 x.1 (fun j => va_rf ((x.2 j).map (js_a b z)))) rfl (fun q => by cases q) (by show ¬ (i < 0 ∨ (arrV _ _ _).slots.size ≤ _); rw [arrV_size]; exact js_in hi) (by show (arrV _ _ _).slots[_]? = _; rw [arrV_read _ _ hlt]) rfl rfl hd kk
theorem js_sald (hd : decode cc pc = .ok (.iaload, 1)) : js_S own cc nL ini pc (jo_sa (pc + 1)) := by
  refine ⟨fun ls st h pc' ls' st' h' e1 => ?_, fun p l e R s m args below meth c' Q D G b z H0 k0 n0 S hK hini hf hlo ls st h pc' ls' st' h' e1 hcl hsl kW H locs X hL hR hS hk hn => ?_⟩ <;> unfold jo_sa at e1 <;> split at e1 <;> (try (cases e1; done)) <;> split at e1 <;> (try (cases e1; done)) <;> split at e1 <;> (try (cases e1; done))
  · cases e1
    exact ⟨Nat.le_refl _, Nat.le_refl _⟩
  · next i rest _ x hx hi =>
    cases e1
    have kk := kW H locs X hL hR hS hk hn
    obtain ⟨r1, r2, r3, r4, r5, L, xs, r6, r7⟩ := hR
    have e9 := (jx_sc_inv hx).symm.trans r6
    obtain ⟨x1, x2⟩ := x
    cases e9
    show W p l e R s m args below meth c' H locs _ _ Q (F0 m pc X (.int i :: .ref b :: rest.map (js_v b z)))
    obtain ⟨scr, g1, g2, g3, g4, g5⟩ := r7
    exact W.iald (v := .int (x2 i.toNatClampNeg)) S.1 S.2.1 g1 g2 g3 (by rw [g4]; exact js_in hi) (g5 _ (jx_inB_iff.mp hi).2) rfl rfl hd kk
theorem js_slen (hd : decode cc pc = .ok (.arraylength, 1)) : js_S own cc nL ini pc (jo_sl (pc + 1)) := by
  refine ⟨fun ls st h pc' ls' st' h' e1 => ?_, fun p l e R s m args below meth c' Q D G b z H0 k0 n0 S hK hini hf hlo ls st h pc' ls' st' h' e1 hcl hsl kW H locs X hL hR hS hk hn => ?_⟩ <;> unfold jo_sl at e1 <;> split at e1 <;> (try (cases e1; done)) <;> obtain ⟨x, hx, ex⟩ := Option.map_eq_some_iff.mp e1 <;> cases ex
  · exact ⟨Nat.le_refl _, Nat.le_refl _⟩
  · next rest =>
    have kk := kW H locs X hL hR hS hk hn
    obtain ⟨r1, r2, r3, r4, r5, L, xs, r6, r7⟩ := hR
    have e9 := (jx_sc_inv hx).symm.trans r6
    obtain ⟨x1, x2⟩ := x
    cases e9
    show W p l e R s m args below meth c' H locs _ _ Q (F0 m pc X (.ref b :: rest.map (js_v b z)))
    obtain ⟨scr, g1, g2, g3, g4, g5⟩ := r7
    exact W.alen (n := nI x1) S.1 S.2.1 g1 g2 (by rw [g4] <;> rfl) rfl rfl hd kk
theorem js_alen (hd : decode cc pc = .ok (.arraylength, 1)) : js_S own cc nL ini pc (jo_len (pc + 1)) := by
  refine ⟨fun ls st h pc' ls' st' h' e1 => ?_, fun p l e R s m args below meth c' Q D G b z H0 k0 n0 S hK hini hf hlo ls st h pc' ls' st' h' e1 hcl hsl kW H locs X hL hR hS hk hn => ?_⟩ <;> unfold jo_len at e1 <;> split at e1 <;> (try (cases e1; done)) <;> obtain ⟨x, hx, ex⟩ := Option.map_eq_some_iff.mp e1 <;> cases ex
  · exact ⟨Nat.le_refl _, Nat.le_refl _⟩
  · next a rest =>
    obtain ⟨i1, i2, i3, i4⟩ := hR.in (jx_ai_inv hx) (fun _ _ q => by cases q) (fun _ _ q => by cases q)
    have kk := kW H locs X hL hR hS hk hn
    show W p l e R s m args below meth c' H locs _ _ Q (F0 m pc X (.ref (js_a b z a) :: rest.map (js_v b z)))
    rw [i4]
    exact va_alen (D := D) (ws := [(z + a, .inl (G 0, x.1, .inl x.2))]) S.1 S.2.1 hK.1 (js_P1 i3) 0 0 rfl rfl (v := nI x.1) rfl hd kk
theorem js_cast {index : Nat} (hd : decode cc pc = .ok (.checkcast index, 3)) (hl : Cond.classLink own index "[I" ∈ js_T) : js_S own cc nL ini pc (jo_ct (pc + 3)) := by
  refine ⟨fun ls st h pc' ls' st' h' e1 => ?_, fun p l e R s m args below meth c' Q D G b z H0 k0 n0 S hK hini hf hlo ls st h pc' ls' st' h' e1 hcl hsl kW H locs X hL hR hS hk hn => ?_⟩ <;> unfold jo_ct at e1 <;> split at e1 <;> (try (cases e1; done)) <;> obtain ⟨x, hx, ex⟩ := Option.map_eq_some_iff.mp e1 <;> cases ex
  · exact ⟨Nat.le_refl _, Nat.le_refl _⟩
  · next a rest =>
    obtain ⟨i1, i2, i3, i4⟩ := hR.in (jx_ai_inv hx) (fun _ _ q => by cases q) (fun _ _ q => by cases q)
    have kk := kW H locs X hL hR hS hk hn
    rw [List.map_cons, show js_v b z (.ref a) = .ref (js_a b z a) from rfl, i4] at kk
    show W p l e R s m args below meth c' H locs _ _ Q (F0 m pc X (.ref (js_a b z a) :: rest.map (js_v b z)))
    rw [i4]
    exact va_castA (D := D) (ws := [(z + a, .inl (G 0, x.1, .inl x.2))]) S.1 S.2.1 S.2.2.2.1 (S.2.2.2.2 _ hl) (js_P1 i3) 0 rfl ((hK.1.2 0 _ rfl).2) hd kk
end JSH
end
section
/-! ===== what the pure machine does, the machine does: stores and new cells ===== -/
section JSI
variable {own : String} {cc : ByteArray} {nL pc : Nat} {ini : Bool}
theorem js_iast (hd : decode cc pc = .ok (.iastore, 1)) : js_S own cc nL ini pc (jo_iw (pc + 1)) := by
  refine ⟨fun ls st h pc' ls' st' h' e1 => ?_, fun p l e R s m args below meth c' Q D G b z H0 k0 n0 S hK hini hf hlo ls st h pc' ls' st' h' e1 hcl hsl kW H locs X hL hR hS hk hn => ?_⟩ <;> unfold jo_iw at e1 <;> split at e1 <;> (try (cases e1; done)) <;> split at e1 <;> (try (cases e1; done)) <;> split at e1 <;> (try (cases e1; done))
  · cases e1
    exact ⟨Nat.le_refl _, Nat.le_refl _⟩
  · next v i a rest _ x hx hi =>
    cases e1
    obtain ⟨i1, i2, i3, i4⟩ := hR.in (jx_ai_inv hx) (fun _ _ q => by cases q) (fun _ _ q => by cases q)
    show W p l e R s m args below meth c' H locs _ _ Q (F0 m pc X (.int v :: .int i :: .ref (js_a b z a) :: st'.map (js_v b z)))
    rw [i4]
    refine W.iast S.1 S.2.1 i3 ((hK.1.2 0 _ rfl).1 x.1 (fun j => .int (x.2 j))) (fun q => by cases q) (by show ¬ (i < 0 ∨ (arrV _ _ _).slots.size ≤ _); rw [arrV_size]; exact js_in hi) rfl rfl hd fun H1 e9 z9 oq => ?_
    refine kW H1 _ X hL (hR.put i1 i2 (x := .inl (0, x.1, .inl (upd x.2 i.toNatClampNeg v))) ?_ z9 oq) (hS.put z9 oq (by show z < z + a; omega)) hk hn
    show H1[z + a]? = some (vp_cell (G 0) (x.1, .inl (upd x.2 i.toNatClampNeg v)))
    rw [e9]
    rw [vp_cell_i, vp_cell_i, arrV_store]
    congr 2
    funext q
    by_cases hq : q = i.toNatClampNeg
    · subst hq
      simp [updV, upd]
    · simp [updV, upd, hq]
theorem js_last (hd : decode cc pc = .ok (.lastore, 1)) : js_S own cc nL ini pc (jo_lw (pc + 1)) := by
  refine ⟨fun ls st h pc' ls' st' h' e1 => ?_, fun p l e R s m args below meth c' Q D G b z H0 k0 n0 S hK hini hf hlo ls st h pc' ls' st' h' e1 hcl hsl kW H locs X hL hR hS hk hn => ?_⟩ <;> unfold jo_lw at e1 <;> split at e1 <;> (try (cases e1; done)) <;> split at e1 <;> (try (cases e1; done)) <;> split at e1 <;> (try (cases e1; done))
  · cases e1
    exact ⟨Nat.le_refl _, Nat.le_refl _⟩
  · next v i a rest _ x hx hi =>
    cases e1
    obtain ⟨i1, i2, i3, i4⟩ := hR.in (jx_al_inv hx) (fun _ _ q => by cases q) (fun _ _ q => by cases q)
    show W p l e R s m args below meth c' H locs _ _ Q (F0 m pc X (.long v :: .int i :: .ref (js_a b z a) :: st'.map (js_v b z)))
    rw [i4]
    refine W.last S.1 S.2.1 i3 ((hK.1.2 1 _ rfl).1 x.1 (fun j => .long (x.2 j))) (fun q => by cases q) (by show ¬ (i < 0 ∨ (arrV _ _ _).slots.size ≤ _); rw [arrV_size]; exact js_in hi) rfl rfl hd fun H1 e9 z9 oq => ?_
    refine kW H1 _ X hL (hR.put i1 i2 (x := .inl (1, x.1, .inr (.inl (vp_updL x.2 i.toNatClampNeg v)))) ?_ z9 oq) (hS.put z9 oq (by show z < z + a; omega)) hk hn
    show H1[z + a]? = some (vp_cell (G 1) (x.1, .inr (.inl (vp_updL x.2 i.toNatClampNeg v))))
    rw [e9]
    rw [vp_cell_l, vp_cell_l, arrV_store]
    congr 2
    funext q
    by_cases hq : q = i.toNatClampNeg
    · subst hq
      simp [updV, vp_updL]
    · simp [updV, vp_updL, hq]
theorem js_aast {t cv : Nat} {r : vw_C} (ht : t = 2 ∧ r.1 = RX10 ∨ t = 3 ∧ r.1 = RX8) (hr : vwCl[cv]? = some r) (hd : decode cc pc = .ok (.aastore, 1)) : js_S own cc nL ini pc (jo_rw (pc + 1) t cv) := by
  refine ⟨fun ls st h pc' ls' st' h' e1 => ?_, fun p l e R s m args below meth c' Q D G b z H0 k0 n0 S hK hini hf hlo ls st h pc' ls' st' h' e1 hcl hsl kW H locs X hL hR hS hk hn => ?_⟩ <;> unfold jo_rw at e1 <;> split at e1 <;> (try (cases e1; done)) <;> split at e1 <;> (try (cases e1; done)) <;> split at e1 <;> (try (cases e1; done))
  · cases e1
    exact ⟨Nat.le_refl _, Nat.le_refl _⟩
  · next v i a rest _ x hx hi =>
    cases e1
    obtain ⟨hi, hcv⟩ := hi
    obtain ⟨fs, hxv⟩ := jx_cl_inv hcv
    obtain ⟨j1, j2, j3, j4⟩ := hR.in hxv (fun _ _ q => by cases q) (fun _ _ q => by cases q)
    obtain ⟨i1, i2, i3, i4⟩ := hR.in (jx_ar_inv hx) (fun _ _ q => by rcases ht with ⟨rfl, -⟩ | ⟨rfl, -⟩ <;> cases q) (fun _ _ q => by rcases ht with ⟨rfl, -⟩ | ⟨rfl, -⟩ <;> cases q)
    show W p l e R s m args below meth c' H locs _ _ Q (F0 m pc X (.ref (js_a b z v) :: .int i :: .ref (js_a b z a) :: st'.map (js_v b z)))
    rw [i4, j4]
    obtain ⟨r', hr', cellV, g1, g2, g3, -⟩ := j3
    have hcls := (hK.1.1 cv r hr).2
    have hRA : ∃ (kA : Class) (comp : ClassId), s.vm.classes[G t]? = some kA ∧ kA.kind = .array comp (.object r.1) ∧ s.vm.findClass r.1 = some comp := by
      rcases ht with ⟨rfl, e⟩ | ⟨rfl, e⟩ <;> rw [e]
      · obtain ⟨kA, comp, k1, k2, k3, -⟩ := (hK.1.2 2 _ rfl).2
        exact ⟨kA, comp, k1, k2, k3⟩
      · obtain ⟨kA, comp, k1, k2, k3, -⟩ := (hK.1.2 3 _ rfl).2
        exact ⟨kA, comp, k1, k2, k3⟩
    obtain ⟨kA, comp, k1, k2, k3⟩ := hRA
    have hcomp : comp = D.1 cv := Option.some.inj (k3.symm.trans hcls.1)
    subst hcomp
    have hcl2 := hcls
    obtain ⟨kC, hkC, -⟩ := hcls.2
    have hlt : i.toNatClampNeg < x.1 := (jx_inB_iff.mp hi).2
    refine W.aast (k := kA) (comp := D.1 cv) (t := .object r.1) S.1 S.2.1 i3 (fun q h => by cases h) (fun h => by cases h) k1 k2 rfl hkC ⟨(jx_inB_iff.mp hi).1, by show _ < (arrV _ _ _).slots.size; rw [arrV_size]; exact hlt⟩ g1 (fun q h => by rw [g3] at h; cases h) (by rw [g2]; exact hkC) (by rw [g2]; exact va_assign hcl2) rfl rfl hd fun H1 e9 z9 oq => ?_
    refine kW H1 _ X hL (hR.put i1 i2 (x := .inl (t, x.1, .inr (.inr (.inr (.inr (va_up x.2 i.toNatClampNeg (some v))))))) ?_ z9 oq) (hS.put z9 oq (by show z < z + a; omega)) hk hn
    show H1[z + a]? = some (vp_cell (G t) (x.1, .inr (.inr (.inr (.inr (fun j => ((va_up x.2 i.toNatClampNeg (some v)) j).map (js_a b z)))))))
    rw [e9]
    rw [vp_cell_q, vp_cell_q, arrV_store]
    congr 2
    funext q
    by_cases hq : q = i.toNatClampNeg
    · subst hq
      simp [updV, va_up, va_rf, j4]
    · simp [updV, va_up, hq]
theorem js_newo {index c n : Nat} {C : String} {T : u_T} {N : Nat} {ty0 : Nat → FieldType} {fs : List Value} (hd : decode cc pc = .ok (.new index, 3)) (hc : vwCl[c]? = some (C, T, N)) (hin : ∀ w ∈ u_ws C T N, w ∈ js_T) (hty : ∀ k, k < N → parseFieldDescriptor (T k).2.2.1 = some (ty0 k)) (hl : Cond.classLink own index C ∈ js_T) (hins : Cond.instantiable C N ∈ js_T) (hini0 : Cond.initialized C ∈ js_T) (hfs : ∀ j, j < N → defaultValue (ty0 j) = vp_V fs j) (hfl : fs.length = N) (hfr : ∀ b z, fs.map (js_v b z) = fs) : js_S own cc nL ini pc (jo_nw (pc + 3) c fs) := by
  refine ⟨fun ls st h pc' ls' st' h' e1 => ?_, fun p l e R s m args below meth c' Q D G b z H0 k0 n0 S hK hini hf hlo ls st h pc' ls' st' h' e1 hcl hsl kW H locs X hL hR hS hk hn => ?_⟩ <;> cases e1
  · exact ⟨Nat.le_succ _, Nat.le_add_right _ _⟩
  · have hts := S.2.2.2.2
    have hKn := hK.1.1 c _ hc
    have hcl' : h.1 + 1 - k0 ≤ R.cells := hcl
    have hsl' : h.2.1 + fs.length - n0 ≤ R.slots := hsl
    have hz : H.size = z + h.1 := hR.1
    refine W.newcK S.1 S.2.1 S.2.2.2.1 (hts _ hl) (hts _ hins) (hts _ hini0) rfl hd (by omega) (by omega) hKn.2.1 hz fun H1 kC hkC e1 z1 o1 => ?_
    have hat : va_at D vwCl (z + h.1, js_e G b z (.inr (c, fs))) H1 := by
      refine ⟨_, hc, ?_⟩
      show t_OB (z + h.1) (D.1 c) N (D.2 c) H1 (vp_V (fs.map (js_v b z)))
      rw [hfr]
      exact (u_born ty0 hts hin hKn hkC e1 hty).to hfs
    have kk := kW H1 locs X hL (hR.mk (n := fs.length) hat (by omega) (fun q hq => o1 q (by omega))) (js_Sm hS (by omega) (fun q hq => o1 q (by omega))) (Nat.le_succ_of_le hk) (Nat.le_trans hn (Nat.le_add_right _ _))
    have e2 : h.1 - k0 + 1 = (jx_mk h fs.length (.inr (c, fs))).1 - k0 := by show _ = h.1 + 1 - k0; omega
    have e3 : h.2.1 - n0 + N = (jx_mk h fs.length (.inr (c, fs))).2.1 - n0 := by show _ = h.2.1 + fs.length - n0; omega
    have e4 : js_v b z (.ref h.1) = .ref (z + h.1) := by
      have := hR.2.1
      show Value.ref (js_a b z h.1) = _
      rw [js_a, if_neg (by omega)]
    rw [List.map_cons, e4] at kk
    rw [e2, e3]
    exact kk
theorem js_cnt {i : Int32} {n : Nat} (hi : jx_inB i n = true) : ¬ i < 0 := (jx_inB_iff.mp hi).1
theorem js_newi (hd : decode cc pc = .ok (.newarray .int, 2)) (hw : Cond.arrayClass .int ∈ js_T) : js_S own cc nL ini pc (jo_ni (pc + 2)) := by
  refine ⟨fun ls st h pc' ls' st' h' e1 => ?_, fun p l e R s m args below meth c' Q D G b z H0 k0 n0 S hK hini hf hlo ls st h pc' ls' st' h' e1 hcl hsl kW H locs X hL hR hS hk hn => ?_⟩ <;> unfold jo_ni at e1 <;> split at e1 <;> (try (cases e1; done)) <;> split at e1 <;> (try (cases e1; done))
  · cases e1
    exact ⟨Nat.le_succ _, Nat.le_add_right _ _⟩
  · next x rest hx =>
    cases e1
    have hcl' : h.1 + 1 - k0 ≤ R.cells := hcl
    have hsl' : h.2.1 + x.toNatClampNeg - n0 ≤ R.slots := hsl
    have hz : H.size = z + h.1 := hR.1
    have hlt : x.toNatClampNeg < 1000000 := (jx_inB_iff.mp hx).2
    refine va_newaK (atype := .int) S.1 S.2.1 (S.2.2.2.2 _ hw) rfl hd rfl (js_cnt hx) rfl (by show _ * 4 ≤ _; omega) (by omega) (by omega) hz fun H1 cA e1 z1 o1 hAr hNm => ?_
    have hcA : cA = G 0 := Option.some.inj (hNm.symm.trans (hK.1.2 0 _ rfl).2)
    subst hcA
    have kk := kW H1 locs X hL (hR.mk (n := x.toNatClampNeg) (x := .inl (0, x.toNatClampNeg, .inl (fun _ => 0))) e1 (by omega) (fun q hq => o1 q (by omega))) (js_Sm hS (by omega) (fun q hq => o1 q (by omega))) (Nat.le_succ_of_le hk) (Nat.le_trans hn (Nat.le_add_right _ _))
    have e2 : h.1 - k0 + 1 = (jx_mk h x.toNatClampNeg (.inl (0, x.toNatClampNeg, .inl (fun _ => 0)))).1 - k0 := by show _ = h.1 + 1 - k0; omega
    have e3 : h.2.1 - n0 + x.toNatClampNeg = (jx_mk h x.toNatClampNeg (.inl (0, x.toNatClampNeg, .inl (fun _ => 0)))).2.1 - n0 := by show _ = h.2.1 + x.toNatClampNeg - n0; omega
    have e4 : js_v b z (.ref h.1) = .ref (z + h.1) := by
      have := hR.2.1
      show Value.ref (js_a b z h.1) = _
      rw [js_a, if_neg (by omega)]
    rw [List.map_cons, e4] at kk
    rw [e2, e3]
    exact kk
theorem js_newj (hd : decode cc pc = .ok (.newarray .long, 2)) (hw : Cond.arrayClass .long ∈ js_T) : js_S own cc nL ini pc (jo_nj (pc + 2)) := by
  refine ⟨fun ls st h pc' ls' st' h' e1 => ?_, fun p l e R s m args below meth c' Q D G b z H0 k0 n0 S hK hini hf hlo ls st h pc' ls' st' h' e1 hcl hsl kW H locs X hL hR hS hk hn => ?_⟩ <;> unfold jo_nj at e1 <;> split at e1 <;> (try (cases e1; done)) <;> split at e1 <;> (try (cases e1; done))
  · cases e1
    exact ⟨Nat.le_succ _, Nat.le_add_right _ _⟩
  · next x rest hx =>
    cases e1
    have hcl' : h.1 + 1 - k0 ≤ R.cells := hcl
    have hsl' : h.2.1 + x.toNatClampNeg - n0 ≤ R.slots := hsl
    have hz : H.size = z + h.1 := hR.1
    have hlt : x.toNatClampNeg < 1000000 := (jx_inB_iff.mp hx).2
    refine va_newaK (atype := .long) S.1 S.2.1 (S.2.2.2.2 _ hw) rfl hd rfl (js_cnt hx) rfl (by show _ * 8 ≤ _; omega) (by omega) (by omega) hz fun H1 cA e1 z1 o1 hAr hNm => ?_
    have hcA : cA = G 1 := Option.some.inj (hNm.symm.trans (hK.1.2 1 _ rfl).2)
    subst hcA
    have kk := kW H1 locs X hL (hR.mk (n := x.toNatClampNeg) (x := .inl (1, x.toNatClampNeg, .inr (.inl (fun _ => 0)))) e1 (by omega) (fun q hq => o1 q (by omega))) (js_Sm hS (by omega) (fun q hq => o1 q (by omega))) (Nat.le_succ_of_le hk) (Nat.le_trans hn (Nat.le_add_right _ _))
    have e2 : h.1 - k0 + 1 = (jx_mk h x.toNatClampNeg (.inl (1, x.toNatClampNeg, .inr (.inl (fun _ => 0))))).1 - k0 := by show _ = h.1 + 1 - k0; omega
    have e3 : h.2.1 - n0 + x.toNatClampNeg = (jx_mk h x.toNatClampNeg (.inl (1, x.toNatClampNeg, .inr (.inl (fun _ => 0))))).2.1 - n0 := by show _ = h.2.1 + x.toNatClampNeg - n0; omega
    have e4 : js_v b z (.ref h.1) = .ref (z + h.1) := by
      have := hR.2.1
      show Value.ref (js_a b z h.1) = _
      rw [js_a, if_neg (by omega)]
    rw [List.map_cons, e4] at kk
    rw [e2, e3]
    exact kk
theorem js_newr {index t : Nat} {C : String} (ht : t = 2 ∧ C = RX10 ∨ t = 3 ∧ C = RX8) (hd : decode cc pc = .ok (.anewarray index, 3)) (hl : Cond.classLink own index C ∈ js_T) : js_S own cc nL ini pc (jo_nr (pc + 3) t) := by
  refine ⟨fun ls st h pc' ls' st' h' e1 => ?_, fun p l e R s m args below meth c' Q D G b z H0 k0 n0 S hK hini hf hlo ls st h pc' ls' st' h' e1 hcl hsl kW H locs X hL hR hS hk hn => ?_⟩ <;> unfold jo_nr at e1 <;> split at e1 <;> (try (cases e1; done)) <;> split at e1 <;> (try (cases e1; done))
  · cases e1
    exact ⟨Nat.le_succ _, Nat.le_add_right _ _⟩
  · next x rest hx =>
    cases e1
    have hcl' : h.1 + 1 - k0 ≤ R.cells := hcl
    have hsl' : h.2.1 + x.toNatClampNeg - n0 ≤ R.slots := hsl
    have hz : H.size = z + h.1 := hR.1
    have hlt : x.toNatClampNeg < 1000000 := (jx_inB_iff.mp hx).2
    have hover : va_AO C s := by
      rcases ht with ⟨-, rfl⟩ | ⟨-, rfl⟩
      · exact hK.2.2.2.1
      · exact hK.2.2.2.2.1
    refine W.anew S.1 S.2.1 S.2.2.2.1 (S.2.2.2.2 _ hl) (va_AO.use hover) rfl hd rfl (js_cnt hx) (by omega) (by omega) (by omega) fun cA kA comp f1 f2 f3 f4 => ?_
    have hcA : cA = G t := by
      rcases ht with ⟨rfl, rfl⟩ | ⟨rfl, rfl⟩
      · obtain ⟨_, _, -, -, -, k4⟩ := (hK.1.2 2 _ rfl).2
        exact Option.some.inj (f1.symm.trans k4)
      · obtain ⟨_, _, -, -, -, k4⟩ := (hK.1.2 3 _ rfl).2
        exact Option.some.inj (f1.symm.trans k4)
    subst hcA
    generalize hH1 : H.push ({ cls := G t, slots := Array.replicate x.toNatClampNeg .null, vm := .none } : Cell) = H1
    have z1 : H1.size = H.size + 1 := by rw [← hH1, Array.size_push]
    have e1 : H1[H.size]? = some (arrV (G t) x.toNatClampNeg (fun _ => .null)) := by rw [← hH1, Array.getElem?_push_size, ← arrV_new]
    have o1 : ∀ q : Nat, q < H.size → H1[q]? = H[q]? := fun q hq => by rw [← hH1, Array.getElem?_push, if_neg (Nat.ne_of_lt hq)]
    rw [hz] at e1
    have kk := kW H1 locs X hL (hR.mk (n := x.toNatClampNeg) (x := .inl (t, x.toNatClampNeg, .inr (.inr (.inr (.inr (fun _ => none)))))) e1 (by omega) (fun q hq => o1 q (by omega))) (js_Sm hS (by omega) (fun q hq => o1 q (by omega))) (Nat.le_succ_of_le hk) (Nat.le_trans hn (Nat.le_add_right _ _))
    have e2 : h.1 - k0 + 1 = (jx_mk h x.toNatClampNeg (.inl (t, x.toNatClampNeg, .inr (.inr (.inr (.inr (fun _ => none))))))).1 - k0 := by show _ = h.1 + 1 - k0; omega
    have e3 : h.2.1 - n0 + x.toNatClampNeg = (jx_mk h x.toNatClampNeg (.inl (t, x.toNatClampNeg, .inr (.inr (.inr (.inr (fun _ => none))))))).2.1 - n0 := by show _ = h.2.1 + x.toNatClampNeg - n0; omega
    have e4 : js_v b z (.ref h.1) = .ref H.size := by
      have := hR.2.1
      show Value.ref (js_a b z h.1) = _
      rw [js_a, if_neg (by omega), hz]
    rw [List.map_cons, e4] at kk
    rw [e2, e3]
    exact kk
theorem js_csum : ∀ (st : List Value), (st.map fun v => v.category).sum ≤ 2 * st.length
  | [] => Nat.le_refl _
  | v :: st => by
    have := js_csum st
    have hv : v.category ≤ 2 := by cases v <;> first | exact Nat.le_refl _ | exact Nat.le_succ _
    simp only [List.map_cons, List.sum_cons, List.length_cons]
    omega
theorem js_obji {index : Nat} (hd : decode cc pc = .ok (.invokespecial index, 3)) (hl : Cond.methodLink own index objectInit ∈ js_T) (hi : Cond.instanceMethod objectInit ∈ js_T) (hco : Cond.code objectInit ⟨#[0xb1]⟩ 1 none ∈ js_T) : js_S own cc nL ini pc (jo_oi (pc + 3)) := by
  refine ⟨fun ls st h pc' ls' st' h' e1 => ?_, fun p l e R s m args below meth c' Q D G b z H0 k0 n0 S hK hini hf hlo ls st h pc' ls' st' h' e1 hcl hsl kW H locs X hL hR hS hk hn => ?_⟩ <;> unfold jo_oi at e1 <;> split at e1 <;> (try (cases e1; done)) <;> split at e1 <;> (try (cases e1; done))
  · cases e1
    exact ⟨Nat.le_refl _, Nat.le_refl _⟩
  · next a rest hr =>
    cases e1
    have kk := kW H locs X hL hR hS hk hn
    have hts := S.2.2.2.2
    have hcs := js_csum (st'.map (js_v b z))
    rw [List.length_map] at hcs
    exact W.objInit (a := js_a b z a) (rest := st'.map (js_v b z)) S.1 S.2.1 S.2.2.2.1 (hts _ hl) (hts _ hi) (hts _ hco) rfl (by rw [S.2.2.1]; exact hL.1) rfl hd hf (by show 2 * 0 + _ + 12 ≤ _; omega) kk
theorem js_copy {index : Nat} (hd : decode cc pc = .ok (.invokestatic index, 3)) (hl : Cond.methodLink own index arraycopyName ∈ js_T) (hna : Cond.native arraycopyName ∈ js_T) (hst : Cond.static arraycopyName ∈ js_T) (hi0 : Cond.initialized "java/lang/System" ∈ js_T) : js_S own cc nL ini pc (jo_cp (pc + 3)) := by
  refine ⟨fun ls st h pc' ls' st' h' e1 => ?_, fun p l e R s m args below meth c' Q D G b z H0 k0 n0 S hK hini hf hlo ls st h pc' ls' st' h' e1 hcl hsl kW H locs X hL hR hS hk hn => ?_⟩ <;> unfold jo_cp at e1 <;> split at e1 <;> (try (cases e1; done)) <;> split at e1 <;> (try (cases e1; done)) <;> split at e1 <;> (try (cases e1; done)) <;> split at e1 <;> (try (cases e1; done))
  · cases e1
    exact ⟨Nat.le_refl _, Nat.le_refl _⟩
  · next n dp a1 sp a0 rest _ x hx _ y hy hcond =>
    cases e1
    obtain ⟨hr, h1, h2, h3, h4, h5⟩ := hcond
    obtain ⟨i1, i2, i3, i4⟩ := hR.in (jx_ai_inv hx) (fun _ _ q => by cases q) (fun _ _ q => by cases q)
    obtain ⟨j1, j2, j3, j4⟩ := hR.in (jx_ai_inv hy) (fun _ _ q => by cases q) (fun _ _ q => by cases q)
    have hts := S.2.2.2.2
    have hcs := js_csum (st'.map (js_v b z))
    rw [List.length_map] at hcs
    show W p l e R s m args below meth c' H locs _ _ Q (F0 m pc X (.int n :: .int dp :: .ref (js_a b z a1) :: .int sp :: .ref (js_a b z a0) :: st'.map (js_v b z)))
    rw [i4, j4]
    have nn : ∀ w : Int32, ¬ w < 0 → w.toInt = (w.toNatClampNeg : Int) := by
      intro w hw
      have hw0 : (0 : Int) ≤ w.toInt := by
        have := Int32.not_lt.mp hw
        simpa using Int32.le_iff_toInt_le.mp this
      show w.toInt = ((w.toInt.toNat : Nat) : Int)
      omega
    have hc0 : H[z + a0]? = some (vp_cell (G 0) (x.1, .inl x.2)) := i3
    have hc1 : H[z + a1]? = some (vp_cell (G 0) (y.1, .inl y.2)) := j3
    intro T hT XT
    obtain ⟨-, k9, hk9, cm9, hkk9⟩ := (hK.1.2 0 _ rfl).1 x.1 (fun j => .int (x.2 j))
    obtain ⟨vm', X', step⟩ := XT.arraycopy S.1 S.2.2.2.1 (hts _ hl) (hts _ hna) (hts _ hst) (hts _ hi0) (src := z + a0) (dst := z + a1) (cs := vp_cell (G 0) (x.1, .inl x.2)) (cd := vp_cell (G 0) (y.1, .inl y.2)) (srcPos := sp) (destPos := dp) (n := n) (by rw [hT]; exact hc0) (by rw [hT]; exact hc1)
      (fun _ h => by cases h) (fun _ h => by cases h) (fun h => by cases h) (fun h => by cases h) hk9 hk9 hkk9 hkk9 rfl h1 h2 h3
      (by rw [nn sp h1, nn n h3]; show ¬ _ > ((arrV (G 0) x.1 (fun j => .int (x.2 j))).slots.size : Int); rw [arrV_size]; omega)
      (by rw [nn dp h2, nn n h3]; show ¬ _ > ((arrV (G 0) y.1 (fun j => .int (y.2 j))).slots.size : Int); rw [arrV_size]; omega)
      (fun vm₁ _ i hi => by
        have e : (vp_cell (G 0) (x.1, .inl x.2)).slots.getD (sp.toNatClampNeg + i) .null = .int (x.2 (sp.toNatClampNeg + i)) := by
          show (arrV (G 0) x.1 (fun j => .int (x.2 j))).slots.getD _ _ = _
          rw [Array.getD_eq_getD_getElem?, arrV_read _ _ (by omega)]
          rfl
        refine ⟨?_, ?_⟩
        · rw [e]
          rfl
        · rw [e]
          exact trivial)
      (g := F0 m pc X (.int n :: .int dp :: .ref (z + a1) :: .int sp :: .ref (z + a0) :: st'.map (js_v b z))) rfl (by rw [S.2.2.1]; exact hL.1) (rest := st'.map (js_v b z)) rfl (by rw [S.2.1]; exact hd) hf (by show 2 * 0 + _ + (5 + 2 + 11) ≤ _; omega)
    have e9 : copied (vp_cell (G 0) (x.1, .inl x.2)) (vp_cell (G 0) (y.1, .inl y.2)) sp dp n = vp_cell (G 0) (y.1, .inl (va_cpy x.2 y.2 sp.toNatClampNeg dp.toNatClampNeg n.toNatClampNeg)) := va_copied (fun w => .int w) (G 0) (G 0) x.2 y.2 h4
    rw [e9] at X' step
    have hl9 : z + a1 < H.size := (Array.getElem?_eq_some_iff.mp hc1).1
    have hheap : ((T.setVm vm').setCell (z + a1) (vp_cell (G 0) (y.1, .inl (va_cpy x.2 y.2 sp.toNatClampNeg dp.toNatClampNeg n.toNatClampNeg)))).heap = H.setIfInBounds (z + a1) (vp_cell (G 0) (y.1, .inl (va_cpy x.2 y.2 sp.toNatClampNeg dp.toNatClampNeg n.toNatClampNeg))) := by rw [← hT]; rfl
    have oq : ∀ q : Nat, q ≠ z + a1 → (H.setIfInBounds (z + a1) (vp_cell (G 0) (y.1, .inl (va_cpy x.2 y.2 sp.toNatClampNeg dp.toNatClampNeg n.toNatClampNeg))))[q]? = H[q]? := fun q hq => by simp [Array.getElem?_setIfInBounds, Ne.symm hq]
    have hsz : (H.setIfInBounds (z + a1) (vp_cell (G 0) (y.1, .inl (va_cpy x.2 y.2 sp.toNatClampNeg dp.toNatClampNeg n.toNatClampNeg)))).size = H.size := by simp
    have hA1 : z < z + a1 := by omega
    obtain ⟨t, b1, b2⟩ := kW _ _ X hL (hR.put j1 j2 (x := .inl (0, y.1, .inl (va_cpy x.2 y.2 sp.toNatClampNeg dp.toNatClampNeg n.toNatClampNeg))) (show (H.setIfInBounds (z + a1) _)[z + a1]? = some _ by simp [Array.getElem?_setIfInBounds, hl9]) hsz oq) ⟨by rw [hsz]; exact hS.1, fun q g1 g2 => by
        rw [oq q (fun e => g2 (by rw [e]; exact hA1))]
        exact hS.2.1 q g1 g2, fun q hq => by
        rcases List.mem_append.mp hq with h | h
        · exact hS.2.2 q h
        · obtain ⟨w, -, hw⟩ := List.mem_map.mp h
          rw [← hw]
          exact hA1⟩ hk hn _ hheap X'
    exact ⟨t, step t b1, b2⟩
theorem js_clone {index : Nat} (hd : decode cc pc = .ok (.invokevirtual index, 3)) (hl : Cond.methodLink own index ⟨"[I", "clone", "()Ljava/lang/Object;"⟩ ∈ js_T) (hsa : Cond.sameMethod "[I" "java/lang/Object" "clone" "()Ljava/lang/Object;" ∈ js_T) (hna : Cond.native ⟨"java/lang/Object", "clone", "()Ljava/lang/Object;"⟩ ∈ js_T) (hi0 : Cond.instanceMethod ⟨"java/lang/Object", "clone", "()Ljava/lang/Object;"⟩ ∈ js_T) (hse : Cond.selects "[I" ⟨"[I", "clone", "()Ljava/lang/Object;"⟩ ⟨"java/lang/Object", "clone", "()Ljava/lang/Object;"⟩ ∈ js_T) : js_S own cc nL ini pc (jo_cn (pc + 3)) := by
  refine ⟨fun ls st h pc' ls' st' h' e1 => ?_, fun p l e R s m args below meth c' Q D G b z H0 k0 n0 S hK hini hf hlo ls st h pc' ls' st' h' e1 hcl hsl kW H locs X hL hR hS hk hn => ?_⟩ <;> unfold jo_cn at e1 <;> split at e1 <;> (try (cases e1; done)) <;> split at e1 <;> (try (cases e1; done)) <;> split at e1 <;> (try (cases e1; done))
  · cases e1
    exact ⟨Nat.le_succ _, Nat.le_add_right _ _⟩
  · next a rest _ x hx hr =>
    cases e1
    obtain ⟨i1, i2, i3, i4⟩ := hR.in (jx_ai_inv hx) (fun _ _ q => by cases q) (fun _ _ q => by cases q)
    have hts := S.2.2.2.2
    have hcl' : h.1 + 1 - k0 ≤ R.cells := hcl
    have hsl' : h.2.1 + x.1 - n0 ≤ R.slots := hsl
    have hz : H.size = z + h.1 := hR.1
    have hcs := js_csum (rest.map (js_v b z))
    rw [List.length_map] at hcs
    show W p l e R s m args below meth c' H locs _ _ Q (F0 m pc X (.ref (js_a b z a) :: rest.map (js_v b z)))
    rw [i4]
    have hnm : s.vm.findClass "[I" = some (G 0) := (hK.1.2 0 _ rfl).2
    obtain ⟨c0, t0', f1, f2, f3⟩ := Cond.castable_spec (va_Nw.use (A := args) rfl hK.2.2.1)
    cases hnm.symm.trans f1
    have hsz : (vp_cell (G 0) (x.1, .inl x.2)).slots.size = x.1 := arrV_size _ _ _
    intro T hT XT
    have hcellT : T.heap[z + a]? = some (vp_cell (G 0) (x.1, .inl x.2)) := by rw [hT]; exact i3
    obtain ⟨-, kA, hkA, comp, hkind⟩ := State.isArrayOf_alike XT.warmed.alike ((hK.1.2 0 _ rfl).1 0 (fun _ => .null))
    obtain ⟨-, kS, hkS, compS, hkindS⟩ := (hK.1.2 0 _ rfl).1 0 (fun _ => .null)
    obtain ⟨vm', X', st9⟩ := XT.cloneArray S.1 S.2.2.2.1 (hts _ hl) (hts _ hsa) (hts _ hna) (hts _ hi0) (hts _ hse) (a := z + a) (cell := vp_cell (G 0) (x.1, .inl x.2)) hcellT (fun k h => by cases h) (fun h => by cases h) hnm f2 f3
      (fun i v hv => by
        have hk' : T.vm.classes[G 0]? = some kA := hkA
        have hfit : fits .int v = true := va_fit (fun i _ => rfl) i v hv
        simpa [State.fitsSlot, State.slotType?, vp_cell, arrV, hk', hkind] using hfit)
      (g := F0 m pc X (.ref (z + a) :: rest.map (js_v b z))) rfl (by rw [S.2.2.1]; exact hL.1) rfl (by rw [S.2.1]; exact hd) hf (by show 2 * 0 + _ + 14 ≤ _; omega) (by omega) (by rw [hsz]; omega) (hloader := Vm.clonesLoader_of_array hkS hkindS)
    have hcellE : ({ cls := (vp_cell (G 0) (x.1, .inl x.2)).cls, slots := (vp_cell (G 0) (x.1, .inl x.2)).slots } : Cell) = vp_cell (G 0) (x.1, .inl x.2) := rfl
    rw [hcellE, hsz] at X'
    generalize hH1 : H.push (vp_cell (G 0) (x.1, .inl x.2)) = H1
    have z1 : H1.size = H.size + 1 := by rw [← hH1, Array.size_push]
    have e1 : H1[z + h.1]? = some (vp_cell (G 0) (x.1, .inl x.2)) := by rw [← hH1, ← hz, Array.getElem?_push_size]
    have o1 : ∀ q : Nat, q < H.size → H1[q]? = H[q]? := fun q hq => by rw [← hH1, Array.getElem?_push, if_neg (Nat.ne_of_lt hq)]
    have kk := kW H1 locs X hL (hR.mk (n := x.1) (x := .inl (0, x.1, .inl x.2)) e1 (by omega) (fun q hq => o1 q (by omega))) (js_Sm hS (by omega) (fun q hq => o1 q (by omega))) (Nat.le_succ_of_le hk) (Nat.le_trans hn (Nat.le_add_right _ _))
    have e2 : (jx_mk h x.1 (.inl (0, x.1, .inl x.2))).1 - k0 = h.1 - k0 + 1 := by show h.1 + 1 - k0 = _; omega
    have e3 : (jx_mk h x.1 (.inl (0, x.1, .inl x.2))).2.1 - n0 = h.2.1 - n0 + x.1 := by show h.2.1 + x.1 - n0 = _; omega
    have e4 : js_v b z (.ref h.1) = .ref H.size := by
      have := hR.2.1
      show Value.ref (js_a b z h.1) = _
      rw [js_a, if_neg (by omega), hz]
    rw [List.map_cons, e4, e2, e3] at kk
    obtain ⟨t, b1, b2⟩ := kk ((T.setVm vm').pushCell (vp_cell (G 0) (x.1, .inl x.2))) (by rw [← hH1, ← hT]; rfl) X'
    refine ⟨t, st9 t ?_, b2⟩
    rw [hcellE, hT]
    exact b1
end JSI
end
section
/-! ===== what the pure machine does, the machine does: calls, returns, runs ===== -/
theorem js_R.moved {D : va_G} {G : Nat → ClassId} {b z : Nat} {s t : State} {h : jxH} {H : Heap} (hvm : s.vm.Alike t.vm) (hR : js_R D G b z s h H) : js_R D G b z t h H := by
  obtain ⟨r1, r2, r3, r4, r5, L, xs, r6, r7⟩ := hR
  exact ⟨r1, r2, r3, r4, r5, L, xs, r6, r7.moved hvm⟩
theorem js_AOA {t : FieldType} {u U : State} (hvm : u.vm.Alike U.vm) (h : (Cond.arrayOver (.array t)).before #[] u = true) : (Cond.arrayOver (.array t)).before #[] U = true := by
  obtain ⟨comp, c, k, h1, h2, h3, h4, h5⟩ := arrayOverA_spec h
  obtain ⟨k', hk', he⟩ := hvm.2.2 _ _ h3
  have hi : (U.vm.classes.findIdx? fun (x : Class) => match x.kind with | .array component _ => component == comp | _ => false) = some c := by
    have hb : ∀ vm : Vm, (vm.bare.classes.findIdx? fun (x : Class) => match x.kind with | .array component _ => component == comp | _ => false) = (vm.classes.findIdx? fun (x : Class) => match x.kind with | .array component _ => component == comp | _ => false) := fun vm => by
      simp only [Vm.bare, Array.findIdx?_map]
      rfl
    have h2' : (u.vm.classes.findIdx? fun (x : Class) => match x.kind with | .array component _ => component == comp | _ => false) = some c := h2
    rw [← hb] at h2' ⊢
    first | (rw [hvm.bare_eq]; exact h2') | (rw [← hvm.bare_eq]; exact h2')
  have hkind : k'.kind = .array comp (.array t) := by rw [he]; exact h4
  have f1 : U.vm.findClass (FieldType.array t).toString = some comp := by rw [hvm.findClass]; exact h1
  have f2 : U.vm.findClass ("[" ++ (FieldType.array t).toString) = some c := by rw [hvm.findClass]; exact h5
  unfold Cond.before Cond.holds
  simp only [Cond.value]
  rw [f1, Option.bind_some]
  refine (congrArg (fun o : Option Nat => (o.bind (fun c => (U.vm.classes[c]?).map fun (k : Class) => match k.kind with | .array _ ty => decide (ty = FieldType.array t) && decide (U.vm.findClass ("[" ++ (FieldType.array t).toString) = some c) | _ => false) == some true)) hi).trans ?_
  simp [hk', hkind, f2]
theorem js_nl_warm {w : Cond} (hw : w ∈ js_nl) {s U : State} (hW : s.WarmedH U.vm) (h : va_Nw w s) : va_Nw w U := by
  simp only [js_nl, List.mem_cons, List.not_mem_nil, or_false] at hw
  rcases hw with rfl | rfl | rfl | rfl | rfl | rfl | rfl | rfl | rfl | rfl <;> exact va_Nw.warmM hW h
theorem js_nl_tab {w : Cond} (hw : w ∈ js_nl) : w.onTables = true := by
  simp only [js_nl, List.mem_cons, List.not_mem_nil, or_false] at hw
  rcases hw with rfl | rfl | rfl | rfl | rfl | rfl | rfl | rfl | rfl | rfl <;> rfl
theorem js_K.warm {D : va_G} {G : Nat → ClassId} {s U : State} (hW : s.WarmedH U.vm) (h : js_K D G s) : js_K D G U :=
  ⟨va_K.moved hW.alike h.1, fun w hw => js_nl_warm hw hW (h.2.1 w hw), va_Nw.warmC hW h.2.2.1, va_AO.moved hW.alike h.2.2.2.1, va_AO.moved hW.alike h.2.2.2.2.1, js_AOA hW.alike h.2.2.2.2.2⟩
theorem js_K.same {D : va_G} {G : Nat → ClassId} {s U : State} (hv : s.vm = U.vm) (h : js_K D G s) : js_K D G U := by
  have ha : s.vm.Alike U.vm := by rw [hv]; exact Vm.Alike.refl _
  exact ⟨va_K.moved ha h.1, fun w hw => va_Nw.same (js_nl_tab hw) hv (h.2.1 w hw), va_Nw.same rfl hv h.2.2.1, va_AO.moved ha h.2.2.2.1, va_AO.moved ha h.2.2.2.2.1, js_AOA ha h.2.2.2.2.2⟩
theorem js_T_good {w : Cond} (hw : w ∈ js_T) : (w.onTables && w.keeps) = true ∨ ∃ ty, w = .arrayClass ty := good_of_word (List.mem_filter.mp hw).2
/-- a method as the tables have it: name, bytes, locals, what it returns -/
abbrev jsM : Type := MethodName × ByteArray × Nat × Option FieldType
def js_meth (y : jsM) : Prop := plainName y.1.cls = true ∧ Cond.code y.1 y.2.1 y.2.2.1 y.2.2.2 ∈ js_T ∧ Cond.initialized y.1.cls ∈ js_T ∧ y.1.cls ≠ "java/lang/invoke/MethodHandle" ∧ y.1.cls ≠ "java/lang/invoke/VarHandle" ∧ y.2.2.1 ≤ 22
def js_ret (cc : ByteArray) (pc : Nat) (ret : Option FieldType) (r : Nat) : Prop :=
  (r = 0 ∧ ret = none ∧ decode cc pc = .ok (.return_, 1)) ∨ (r = 1 ∧ ret = some .int ∧ decode cc pc = .ok (.ireturn, 1)) ∨ (r = 2 ∧ ret = some .boolean ∧ decode cc pc = .ok (.ireturn, 1)) ∨ (r = 3 ∧ ret = some (.array .int) ∧ decode cc pc = .ok (.areturn, 1))
def js_call (inf : Nat → jsM) (own : String) (cc : ByteArray) (pc y k nx : Nat) (ck : Option Nat) : Prop :=
  nx = pc + 3 ∧ js_meth (inf y) ∧ k ≤ (inf y).2.2.1 ∧ ∃ index : Nat,
    (decode cc pc = .ok (.invokevirtual index, 3) ∧ ∃ (c : Nat) (r : vw_C), ck = some c ∧ vwCl[c]? = some r ∧ (inf y).1.cls = r.1 ∧ (parseMethodDescriptor (inf y).1.desc).map (fun d => d.parameters.length) = some (k - 1) ∧ 1 ≤ k ∧ Cond.methodLink own index (inf y).1 ∈ js_T ∧ Cond.instanceMethod (inf y).1 ∈ js_T ∧ Cond.selects r.1 (inf y).1 (inf y).1 ∈ js_T) ∨
    (decode cc pc = .ok (.invokestatic index, 3) ∧ ck = none ∧ (parseMethodDescriptor (inf y).1.desc).map (fun d => d.parameters.length) = some k ∧ Cond.static (inf y).1 ∈ js_T ∧ (Cond.methodLink own index (inf y).1 ∈ js_T ∨ Cond.methodLinkNest own index (inf y).1 RX11 ∈ js_nl)) ∨
    (decode cc pc = .ok (.invokespecial index, 3) ∧ (inf y).1.name = "<init>" ∧ (inf y).2.2.2 = none ∧ (∃ c : Nat, ck = some c) ∧ (parseMethodDescriptor (inf y).1.desc).map (fun d => d.parameters.length) = some (k - 1) ∧ 1 ≤ k ∧ Cond.instanceMethod (inf y).1 ∈ js_T ∧ (Cond.methodLink own index (inf y).1 ∈ js_T ∨ Cond.methodLinkNest own index (inf y).1 RX11 ∈ js_nl))
def js_I (inf : Nat → jsM) (M pc : Nat) (i : jxI) : Prop := match i with
  | .inl o => js_S (inf M).1.cls (inf M).2.1 (inf M).2.2.1 (decide ((inf M).1.name = "<init>")) pc o
  | .inr (.inl (y, k, nx, ck)) => js_call inf (inf M).1.cls (inf M).2.1 pc y k nx ck
  | .inr (.inr r) => js_ret (inf M).2.1 pc (inf M).2.2.2 r
/-- the program as the tables have it -/
def js_P (P : jxM) (inf : Nat → jsM) : Prop := ∀ M pc i, (P M).2 pc = some i → (P M).1 = (inf M).2.2.1 ∧ js_I inf M pc i
def js_room (d k n : Nat) : Room := { frames := d + 1, cells := k, slots := n, locals := 41 * d + 100 }
/-- what is to be shown of a run -/
def js_ok (P : jxM) (inf : Nat → jsM) (n : Nat) : Prop := ∀ (d M pc : Nat) (ls st : List Value) (h : jxH) (pcf : Nat) (stf : List Value) (hf : jxH), jx_run P n d M pc ls st h = some (pcf, stf, hf) →
  (h.1 ≤ hf.1 ∧ h.2.1 ≤ hf.2.1 ∧ ∃ r, (P M).2 pcf = some (.inr (.inr r)) ∧ jx_okr r stf = true) ∧
  ∀ (p : Program) (l : Launch) (e : Env) (R : Room) (s : State) (m : MethodId) (args : Array Value) (below : List Frame) (meth : Method) (c : Code) (Q : State → Prop) (D : va_G) (G : Nat → ClassId) (b z : Nat) (H0 : Heap) (k0 n0 : Nat), CallFix p m c (inf M).2.1 (inf M).2.2.1 s args js_T (inf M).1.cls → js_K D G s → (decide ((inf M).1.name = "<init>") = true → meth.name = "<init>") → d + 1 ≤ R.frames → 41 * d + 100 ≤ R.locals → hf.1 - k0 ≤ R.cells → hf.2.1 - n0 ≤ R.slots →
    (∀ (H : Heap) (locs : List Loc) (X : Array Slot), js_R D G b z s hf H → va_S (fun q => z < q) H0 H locs → k0 ≤ hf.1 → n0 ≤ hf.2.1 → W p l e R s m args below meth c H locs (hf.1 - k0) (hf.2.1 - n0) Q (F0 m pcf X (stf.map (js_v b z)))) →
    js_W p l e R s m args below meth c Q D G b z H0 k0 n0 (inf M).2.2.1 pc ls st h
def js_Pc (D : va_G) (G : Nat → ClassId) (b z : Nat) (av : List Value) (h : jxH) : Array Value → State → Prop := va_Pc av (fun U => js_R D G b z U h U.heap ∧ js_K D G U)
def js_Qc (D : va_G) (G : Nat → ClassId) (b z : Nat) (stf : List Value) (hf : jxH) : Array Value → State → Outcome → State → Prop := fun _ st oc t => oc = .returned (stf.map (js_v b z)).head? ∧ js_R D G b z t hf t.heap ∧ va_F (fun q => z < q) st t
theorem js_blind {D : va_G} {G : Nat → ClassId} {b z : Nat} {av : List Value} {h : jxH} : FrameBlind (js_Pc D G b z av h) := by
  intro a U g mk ⟨e, hR, hK⟩
  exact ⟨e, js_R.moved (s := U) (t := U.calling g mk a) (Vm.Alike.refl U.vm) hR, js_K.same (s := U) (U := U.calling g mk a) rfl hK⟩
theorem js_okr_len {r : Nat} {st : List Value} (h : jx_okr r st = true) : st.length ≤ 1 := by
  unfold jx_okr at h
  split at h <;> first | (simp; done) | (cases h)
theorem js_okr0 : ∀ {st : List Value}, jx_okr 0 st = true → st = []
  | [], _ => rfl
  | _ :: _, h => by simp [jx_okr] at h
theorem js_okr1 : ∀ {st : List Value}, jx_okr 1 st = true → ∃ x, st = [.int x]
  | [], h => by simp [jx_okr] at h
  | [v], h => by cases v <;> first | exact ⟨_, rfl⟩ | (simp [jx_okr] at h)
  | _ :: _ :: _, h => by simp [jx_okr] at h
theorem js_okr2 : ∀ {st : List Value}, jx_okr 2 st = true → ∃ x, st = [.int x] ∧ (x = 0 ∨ x = 1)
  | [], h => by simp [jx_okr] at h
  | [v], h => by cases v <;> first | exact ⟨_, rfl, by simpa [jx_okr] using h⟩ | (simp [jx_okr] at h)
  | _ :: _ :: _, h => by simp [jx_okr] at h
theorem js_okr3 : ∀ {st : List Value}, jx_okr 3 st = true → ∃ x, st = [.ref x]
  | [], h => by simp [jx_okr] at h
  | [v], h => by cases v <;> first | exact ⟨_, rfl⟩ | (simp [jx_okr] at h)
  | _ :: _ :: _, h => by simp [jx_okr] at h
/-- a method's contract at these arguments and this heap -/
theorem js_met {P : jxM} {inf : Nat → jsM} (hP : js_P P inf) {n : Nat} (ih : js_ok P inf n) {d y : Nat} {av : List Value} {h : jxH} {pcf : Nat} {stf : List Value} {hf : jxH} (hm : js_meth (inf y)) (hrun : jx_run P n d y 0 (av ++ List.replicate ((inf y).2.2.1 - av.length) jx_u) [] h = some (pcf, stf, hf)) (hav : ∀ v ∈ av, jx_c1 v = true) (hlen : av.length ≤ (inf y).2.2.1) (l : Launch) (D : va_G) (G : Nat → ClassId) (b z : Nat) :
    Met l (inf y).1 (Cond.code (inf y).1 (inf y).2.1 (inf y).2.2.1 (inf y).2.2.2 :: js_T) (js_room d (hf.1 - h.1) (hf.2.1 - h.2.1)) (js_Pc D G b z (av.map (js_v b z)) h) (js_Qc D G b z stf hf) (hf.1 - h.1) (hf.2.1 - h.2.1) (fun q => z < q) := by
  obtain ⟨⟨m1, m2, r, hr, hok⟩, body⟩ := ih d y 0 _ _ h pcf stf hf hrun
  refine Met.ofW (cc := (inf y).2.1) (maxL := (inf y).2.2.1) (ret := (inf y).2.2.2) hm.1 rfl ?_
  intro p e s m args below meth c s₁ B hml hv
  obtain ⟨rfl, hR, hK⟩ := hv
  have hts := atoms_spec (ws := Cond.code (inf y).1 (inf y).2.1 (inf y).2.2.1 (inf y).2.2.2 :: js_T) B.pre
  have hlocks := B.notSynchronized
  have S : CallFix p m c (inf y).2.1 (inf y).2.2.1 s (av.map (js_v b z)).toArray js_T (inf y).1.cls := ⟨B.exec, B.bytes, hml, findClass_of_methodNamed B.named, fun w hw => hts w (List.mem_cons_of_mem _ hw)⟩
  have hret : js_ret (inf y).2.1 pcf (inf y).2.2.2 r := (hP y pcf _ hr).2
  have key := body p l e (js_room d (hf.1 - h.1) (hf.2.1 - h.2.1)) s m (av.map (js_v b z)).toArray below meth c (MQ below (js_Qc D G b z stf hf) (av.map (js_v b z)).toArray s (hf.1 - h.1) (hf.2.1 - h.2.1) (fun q => z < q)) D G b z s.heap h.1 h.2.1 S hK (fun q => ((name_of_methodNamed B.named B.method).1).trans (of_decide_eq_true q)) (Nat.le_refl _) (Nat.le_refl _) (Nat.le_refl _) (Nat.le_refl _) (fun H locs X hR' hS' _ _ => by
    have hq : ∀ t : State, t.heap = H → s.WarmedH t.vm → js_R D G b z t hf t.heap ∧ va_F (fun q => z < q) s t := fun t ht hW => ⟨by rw [ht]; exact hR'.moved hW.alike, hS'.F ht⟩
    rcases hret with ⟨rfl, e1, e2⟩ | ⟨rfl, e1, e2⟩ | ⟨rfl, e1, e2⟩ | ⟨rfl, e1, e2⟩
    · have := js_okr0 hok
      subst this
      exact W.vret B.exec B.bytes (B.returns.trans e1) (fun t ht hW => ⟨rfl, hq t ht hW⟩) hS'.2.2 e2
    · obtain ⟨x, rfl⟩ := js_okr1 hok
      exact W.iret B.exec B.bytes (B.returns.trans e1) (fun t ht hW => ⟨rfl, hq t ht hW⟩) hS'.2.2 e2
    · obtain ⟨x, rfl, hx⟩ := js_okr2 hok
      exact W.zret B.exec B.bytes (B.returns.trans e1) (by rcases hx with rfl | rfl <;> rfl) (fun t ht hW => ⟨rfl, hq t ht hW⟩) hS'.2.2 e2
    · obtain ⟨x, rfl⟩ := js_okr3 hok
      exact W.aret B.exec B.bytes (B.returns.trans e1) (Or.inr ⟨_, rfl⟩) (Or.inr ⟨_, rfl⟩) (fun t ht hW => ⟨rfl, hq t ht hW⟩) hS'.2.2 e2)
  have hent := js_entry (b := b) (z := z) (nL := (inf y).2.2.1) hav hlen
  have w0 := key s.heap [] _ hent hR va_S.rf (Nat.le_refl _) (Nat.le_refl _)
  rw [Nat.sub_self, Nat.sub_self] at w0
  rw [lg_entry_eq]
  exact w0
section JSC
variable {p : Program} {l : Launch} {e : Env} {R : Room} {s : State} {m : MethodId} {args : Array Value} {below : List Frame} {meth : Method} {c : Code} {H : Heap} {locs : List Loc} {cells slots : Nat} {Q : State → Prop}
theorem js_after {D : va_G} {G : Nat → ClassId} {b z mc ms pc : Nat} {stf : List Value} {hf : jxH} {H0 : Heap} {X : Array Slot} {st0 rest : List Value} {a : Array Value} (hl : stf.length ≤ 1) (hr : va_Run p l e R s m args below meth c H locs cells slots mc ms (F0 m pc X st0) rest (js_Qc D G b z stf hf a) (fun q => z < q)) (hS : va_S (fun q => z < q) H0 H locs)
    (kk : ∀ (H1 : Heap) (locs1 : List Loc), js_R D G b z s hf H1 → va_S (fun q => z < q) H0 H1 locs1 → W p l e R s m args below meth c H1 locs1 (cells + mc) (slots + ms) Q (F0 m (pc + 3) X (stf.map (js_v b z) ++ rest))) : W p l e R s m args below meth c H locs cells slots Q (F0 m pc X st0) := by
  intro T hT XT
  obtain ⟨v, st₀, t, T', L, h0, X', hL, e1, e2, ⟨hv, hR, hz, hk⟩, st⟩ := hr T hT XT
  cases hv
  rw [h0] at hz hk
  have hvl : (stf.map (js_v b z)).head?.toList = stf.map (js_v b z) := by
    match stf, hl with
    | [], _ => rfl
    | [_], _ => rfl
  have hR' : js_R D G b z s hf T'.heap := by
    rw [e1]
    refine hR.moved ?_
    rw [← e2]
    exact X'.warmed.alike.symm
  obtain ⟨t2, a1, b1⟩ := kk T'.heap (locs ++ L) hR' ⟨Nat.le_trans hS.1 (by rw [e1]; exact hz), fun q h1 h2 => by rw [e1, hk q (Nat.lt_of_lt_of_le h1 hS.1) h2]; exact hS.2.1 q h1 h2, fun q hq => by
      rcases List.mem_append.mp hq with h | h
      · exact hS.2.2 q h
      · exact hL q h⟩ T' rfl X'
  rw [← hvl] at a1
  exact ⟨t2, st t2 a1, b1⟩
end JSC
end
section
/-! ===== what the pure machine does, the machine does: every run ===== -/
theorem js_sound {P : jxM} {inf : Nat → jsM} (hP : js_P P inf) : ∀ n, js_ok P inf n
  | 0 => by
    intro d M pc ls st h pcf stf hf hrun
    simp [jx_run] at hrun
  | n + 1 => by
    have ih := js_sound hP n
    intro d M pc ls st h pcf stf hf hrun
    rw [jx_run] at hrun
    cases hc : (P M).2 pc with
    | none => rw [hc] at hrun; cases hrun
    | some i =>
      rw [hc] at hrun
      have hI := (hP M pc _ hc).2
      rcases i with o | ⟨y, k, nx, ck⟩ | q
      · dsimp only at hrun
        cases ho : o ls st h with
        | none => rw [ho] at hrun; cases hrun
        | some x =>
          rw [ho] at hrun
          obtain ⟨pc', ls', st', h'⟩ := x
          dsimp only at hrun
          obtain ⟨⟨m1, m2, r, hr, hok⟩, body⟩ := ih d M pc' ls' st' h' pcf stf hf hrun
          have hS : js_S (inf M).1.cls (inf M).2.1 (inf M).2.2.1 (decide ((inf M).1.name = "<init>")) pc o := hI
          obtain ⟨mo, hS2⟩ := hS
          obtain ⟨q1, q2⟩ := mo _ _ _ _ _ _ _ ho
          refine ⟨⟨Nat.le_trans q1 m1, Nat.le_trans q2 m2, r, hr, hok⟩, fun p l e R s m args below meth c Q D G b z H0 k0 n0 S hK hin hfr hlo hcl hsl kend => ?_⟩
          exact hS2 p l e R s m args below meth c Q D G b z H0 k0 n0 S hK hin (by omega) (by omega) ls st h pc' ls' st' h' ho (by omega) (by omega) (body p l e R s m args below meth c Q D G b z H0 k0 n0 S hK hin hfr hlo hcl hsl kend)
      · dsimp only at hrun
        cases d with
        | zero => cases hrun
        | succ d' =>
          dsimp only at hrun
          by_cases hk : jx_okc k ck st h = true
          · rw [if_pos hk] at hrun
            cases hr : jx_run P n d' y 0 (jx_ent (P y).1 k st) [] h with
            | none => rw [hr] at hrun; cases hrun
            | some x =>
              rw [hr] at hrun
              obtain ⟨p1, s1, h1⟩ := x
              dsimp only at hrun
              obtain ⟨⟨c1, c2, rc, hrc, hokc⟩, -⟩ := ih d' y 0 _ _ h p1 s1 h1 hr
              obtain ⟨⟨m1, m2, r, hrr, hok⟩, body⟩ := ih (d' + 1) M nx ls _ h1 pcf stf hf hrun
              refine ⟨⟨Nat.le_trans c1 m1, Nat.le_trans c2 m2, r, hrr, hok⟩, fun p l e R s m args below meth c Q D G b z H0 k0 n0 S hK hin hfr hlo hcl hsl kend => ?_⟩
              have hW := body p l e R s m args below meth c Q D G b z H0 k0 n0 S hK hin hfr hlo hcl hsl kend
              obtain ⟨rfl, hm, hkL, index, hkind⟩ := (hI : js_call inf (inf M).1.cls (inf M).2.1 pc y k nx ck)
              intro H locs X hL hR hS hk0 hn0
              have hPy : (P y).1 = (inf y).2.2.1 := (hP y p1 _ hrc).1
              unfold jx_okc at hk
              rw [Bool.and_eq_true, Bool.and_eq_true, Bool.and_eq_true, decide_eq_true_eq, decide_eq_true_eq] at hk
              obtain ⟨⟨⟨hk1, hk2⟩, hk3⟩, hk4⟩ := hk
              have hav : ∀ v ∈ (st.take k).reverse, jx_c1 v = true := fun v hv => List.all_eq_true.mp hk2 v (List.mem_reverse.mp hv)
              have hal : ((st.take k).reverse).length = k := by rw [List.length_reverse, List.length_take]; omega
              have hr' : jx_run P n d' y 0 ((st.take k).reverse ++ List.replicate ((inf y).2.2.1 - ((st.take k).reverse).length) jx_u) [] h = some (p1, s1, h1) := by
                rw [hal, ← hPy]
                exact hr
              have hMet := js_met hP ih hm hr' hav (by rw [hal]; exact hkL) l D G b z
              have hG : GoodIn js_T (Cond.code (inf y).1 (inf y).2.1 (inf y).2.2.1 (inf y).2.2.2 :: js_T) := by
                intro w hw
                rcases List.mem_cons.mp hw with rfl | hw
                · exact ⟨hm.2.1, Or.inl rfl⟩
                · exact ⟨hw, js_T_good hw⟩
              have hts := S.2.2.2.2
              have hini : (Cond.initialized (inf y).1.cls).before args s = true := hts _ hm.2.2.1
              have hroom : (js_room d' (h1.1 - h.1) (h1.2.1 - h.2.1)).frames + 1 ≤ R.frames ∧ 8 + ((inf y).2.2.1 + 11) + (js_room d' (h1.1 - h.1) (h1.2.1 - h.2.1)).locals ≤ R.locals := by
                have := hm.2.2.2.2.2
                exact ⟨hfr, by show 8 + ((inf y).2.2.1 + 11) + (41 * d' + 100) ≤ _; omega⟩
              have hfit : h.1 - k0 + (h1.1 - h.1) ≤ R.cells ∧ h.2.1 - n0 + (h1.2.1 - h.2.1) ≤ R.slots := ⟨by omega, by omega⟩
              have hcs := js_csum ((st.drop k).map (js_v b z))
              rw [List.length_map] at hcs
              have hwid : 2 * (F0 m pc X (st.map (js_v b z))).monitorRoom + (((st.drop k).map (js_v b z)).map fun v => v.category).sum ≤ 8 := by
                show 2 * 0 + _ ≤ 8
                omega
              have hpre : ∀ U : State, U.heap = H → s.WarmedH U.vm → js_Pc D G b z (((st.take k).reverse).map (js_v b z)) h (((st.take k).reverse).map (js_v b z)).toArray U := fun U hU hWm => ⟨rfl, by rw [hU]; exact hR.moved hWm.alike, hK.warm hWm⟩
              have hsplit : st.map (js_v b z) = (st.take k).map (js_v b z) ++ (st.drop k).map (js_v b z) := by rw [← List.map_append, List.take_append_drop]
              have fin : ∀ {a : Array Value}, va_Run p l e R s m args below meth c H locs (h.1 - k0) (h.2.1 - n0) (h1.1 - h.1) (h1.2.1 - h.2.1) (F0 m pc X (st.map (js_v b z))) ((st.drop k).map (js_v b z)) (js_Qc D G b z s1 h1 a) (fun q => z < q) → W p l e R s m args below meth c H locs (h.1 - k0) (h.2.1 - n0) Q (F0 m pc X (st.map (js_v b z))) := by
                intro a hrun2
                refine js_after (js_okr_len hokc) hrun2 hS (fun H1 locs1 hR1 hS1 => ?_)
                have w1 := hW H1 locs1 X hL hR1 hS1 (by omega) (by omega)
                rw [List.map_append] at w1
                have e1 : h.1 - k0 + (h1.1 - h.1) = h1.1 - k0 := by omega
                have e2 : h.2.1 - n0 + (h1.2.1 - h.2.1) = h1.2.1 - n0 := by omega
                rw [e1, e2]
                exact w1
              have hrev : (((st.take k).reverse).map (js_v b z)).reverse = (st.take k).map (js_v b z) := by rw [← List.map_reverse, List.reverse_reverse]
              rcases hkind with ⟨hd, cn, r0, rfl, hcr, hcls, hpar, hk5, hl1, hl2, hl3⟩ | ⟨hd, rfl, hpar, hst, hl1⟩ | ⟨hd, hnm, hret, ⟨cn, rfl⟩, hpar, hk5, hl2, hl1⟩
              · -- a virtual call
                dsimp only at hk4
                split at hk4
                · next a hga =>
                  have hcl2 : jx_cl h a = some cn := by simpa using hk4
                  obtain ⟨fs, hfs⟩ := jx_cl_inv hcl2
                  obtain ⟨i1, i2, i3, i4⟩ := hR.in hfs (fun _ _ q => by cases q) (fun _ _ q => by cases q)
                  obtain ⟨pre, hpre2⟩ : ∃ pre, st.take k = pre ++ [.ref a] := by
                    obtain ⟨ys, hys⟩ := List.getLast?_eq_some_iff.mp hga
                    exact ⟨ys, hys⟩
                  have hrv : ((st.take k).reverse).map (js_v b z) = .ref (z + a) :: (pre.reverse).map (js_v b z) := by
                    rw [hpre2, List.reverse_append]
                    show (Value.ref a :: pre.reverse).map (js_v b z) = _
                    rw [List.map_cons]
                    show Value.ref (js_a b z a) :: _ = _
                    rw [i4]
                  have hplen : ((pre.reverse).map (js_v b z)).length = k - 1 := by
                    have := congrArg List.length hpre2
                    rw [List.length_take, List.length_append] at this
                    simp only [List.length_map, List.length_reverse, List.length_singleton] at this ⊢
                    omega
                  rw [hrv] at hMet hpre
                  refine fin (va_runV (b := z + a) (As := (pre.reverse).map (js_v b z)) (C := r0.1) S hMet ⟨callB_of (k - 1) hts hG rfl rfl rfl hini (hts _ hl1) ⟨hm.2.2.2.1, hm.2.2.2.2.1, hpar⟩ hroom, hts _ hl2, hts _ hl3⟩ ⟨js_blind, va_recv hK.1 (js_P1 i3) hcr (q0 := 0) rfl, hpre⟩ rfl hplen hL.1 ?_ hwid hd hfit)
                  show st.map (js_v b z) = _
                  rw [hsplit, hpre2, List.map_append]
                  rw [← List.map_reverse, List.reverse_reverse, List.append_assoc]
                  show _ ++ (Value.ref (js_a b z a) :: _) = _
                  rw [i4]
                  rfl
                · cases hk4
              · -- a static call
                have hstk : (F0 m pc X (st.map (js_v b z))).stack = (((st.take k).reverse).map (js_v b z)).reverse ++ (st.drop k).map (js_v b z) := by
                  show st.map (js_v b z) = _
                  rw [hrev, hsplit]
                rcases hl1 with hl1 | hl1
                · exact fin (va_runS (As := ((st.take k).reverse).map (js_v b z)) S hMet ⟨callB_of k hts hG rfl rfl rfl hini (hts _ hl1) ⟨hm.2.2.2.1, hm.2.2.2.2.1, hpar⟩ hroom, hts _ hst⟩ ⟨js_blind, hpre⟩ rfl (by rw [List.length_map]; exact hal) hL.1 hstk hwid hd hfit)
                · exact fin (va_runSN (As := ((st.take k).reverse).map (js_v b z)) S hMet ⟨va_cnB k hts hG rfl rfl rfl (hK.2.1 _ hl1) hini ⟨hm.2.2.2.1, hm.2.2.2.2.1, hpar⟩ hroom, hts _ hst, trivial⟩ ⟨js_blind, hpre⟩ rfl (by rw [List.length_map]; exact hal) hL.1 hstk hwid hd hfit)
              · -- a constructor
                dsimp only at hk4
                split at hk4
                · next a hga =>
                  obtain ⟨pre, hpre2⟩ : ∃ pre, st.take k = pre ++ [.ref a] := by
                    obtain ⟨ys, hys⟩ := List.getLast?_eq_some_iff.mp hga
                    exact ⟨ys, hys⟩
                  have hrv : ((st.take k).reverse).map (js_v b z) = .ref (js_a b z a) :: (pre.reverse).map (js_v b z) := by
                    rw [hpre2, List.reverse_append]
                    rfl
                  have hplen : ((pre.reverse).map (js_v b z)).length = k - 1 := by
                    have := congrArg List.length hpre2
                    rw [List.length_take, List.length_append] at this
                    simp only [List.length_map, List.length_reverse, List.length_singleton] at this ⊢
                    omega
                  rw [hrv] at hMet hpre
                  rw [hret] at hMet hG
                  have hstk : (F0 m pc X (st.map (js_v b z))).stack = ((pre.reverse).map (js_v b z)).reverse ++ .ref (js_a b z a) :: (st.drop k).map (js_v b z) := by
                    show st.map (js_v b z) = _
                    rw [hsplit, hpre2, List.map_append]
                    rw [← List.map_reverse, List.reverse_reverse, List.append_assoc]
                    rfl
                  rcases hl1 with hl1 | hl1
                  · exact fin (va_runI (b := js_a b z a) (As := (pre.reverse).map (js_v b z)) S hMet ⟨callB_of (k - 1) hts hG rfl rfl rfl hini (hts _ hl1) ⟨hm.2.2.2.1, hm.2.2.2.2.1, hpar⟩ hroom, hnm, hts _ hl2⟩ ⟨js_blind, hpre⟩ rfl hplen hL.1 hstk hwid hd hfit)
                  · exact fin (va_runIN (b := js_a b z a) (As := (pre.reverse).map (js_v b z)) S hMet ⟨va_cnB (k - 1) hts hG rfl rfl rfl (hK.2.1 _ hl1) hini ⟨hm.2.2.2.1, hm.2.2.2.2.1, hpar⟩ hroom, hnm, hts _ hl2⟩ ⟨js_blind, hpre⟩ rfl hplen hL.1 hstk hwid hd hfit)
                · cases hk4
          · rw [if_neg hk] at hrun
            cases hrun
      · dsimp only at hrun
        by_cases hq : jx_okr q st = true
        · rw [if_pos hq] at hrun
          cases hrun
          refine ⟨⟨Nat.le_refl _, Nat.le_refl _, q, hc, hq⟩, fun p l e R s m args below meth c Q D G b z H0 k0 n0 S hK hin hfr hlo hcl hsl kend => ?_⟩
          intro H locs X hL hR hS hk hn
          exact kend H locs X hR hS hk hn
        · rw [if_neg hq] at hrun
          cases hrun
end
