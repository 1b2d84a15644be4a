/-! ===== a pure machine: cells by their numbers, methods by theirs ===== -/
abbrev jxC : Type := (Nat × vp_A) ⊕ (Nat × List Value)
/-- how many cells there are, how many slots were made, what they hold -/
abbrev jxH : Type := Nat × Nat × (Nat → jxC)
/-- a step: locals, stack, heap; the next place -/
abbrev jxO : Type := List Value → List Value → jxH → Option (Nat × List Value × List Value × jxH)
/-- a step, or a call (callee, how many arguments, next place, the receiver's kind), or a return (its kind) -/
abbrev jxI : Type := jxO ⊕ (Nat × Nat × Nat × Option Nat) ⊕ Nat
abbrev jxM : Type := Nat → Nat × (Nat → Option jxI)
abbrev jx_u : Value := .retAddr 0
/-- nothing there -/
def jx_no : jxC := .inl (77, 0, .inl (fun _ => 0))
def jx_fl (h : jxH) (a c k : Nat) : Option Value := match h.2.2 a with
  | .inr (c', fs) => if c' = c then fs[k]? else none
  | .inl _ => none
def jx_cl (h : jxH) (a : Nat) : Option Nat := match h.2.2 a with
  | .inr (c', _) => some c'
  | .inl _ => none
def jx_ai (h : jxH) (a : Nat) : Option (Nat × (Nat → Int32)) := match h.2.2 a with
  | .inl (0, n, .inl f) => some (n, f)
  | _ => none
def jx_sc (h : jxH) (a : Nat) : Option (Nat × (Nat → Int32)) := match h.2.2 a with
  | .inl (9, n, .inl f) => some (n, f)
  | _ => none
def jx_al (h : jxH) (a : Nat) : Option (Nat × (Nat → Int64)) := match h.2.2 a with
  | .inl (1, n, .inr (.inl f)) => some (n, f)
  | _ => none
/-- an array of references, of kind t: 2 tasks, 3 sheets, 4 rows of ints -/
def jx_ar (h : jxH) (a t : Nat) : Option (Nat × (Nat → Option Nat)) := match h.2.2 a with
  | .inl (t', n, .inr (.inr (.inr (.inr f)))) => if t' = t then some (n, f) else none
  | _ => none
def jx_w (h : jxH) (a : Nat) (x : jxC) : jxH := (h.1, h.2.1, fun j => if j = a then x else h.2.2 j)
def jx_uf (h : jxH) (a k : Nat) (v : Value) : jxH := jx_w h a (match h.2.2 a with
  | .inr (c, fs) => .inr (c, fs.set k v)
  | x => x)
def jx_wi (h : jxH) (a n : Nat) (f : Nat → Int32) : jxH := jx_w h a (.inl (0, n, .inl f))
def jx_wl (h : jxH) (a n : Nat) (f : Nat → Int64) : jxH := jx_w h a (.inl (1, n, .inr (.inl f)))
def jx_wr (h : jxH) (a t n : Nat) (f : Nat → Option Nat) : jxH := jx_w h a (.inl (t, n, .inr (.inr (.inr (.inr f)))))
def jx_mk (h : jxH) (s : Nat) (x : jxC) : jxH := (h.1 + 1, h.2.1 + s, fun j => if j = h.1 then x else h.2.2 j)
/-- a fresh array of n rows of k ints -/
def jx_mm (h : jxH) (n k : Nat) : jxH := (h.1 + 1 + n, h.2.1 + n + n * k, fun j => if j < h.1 then h.2.2 j else if j = h.1 then .inl (4, n, .inr (.inr (.inr (.inr (fun i => if i < n then some (h.1 + 1 + i) else none))))) else if j < h.1 + 1 + n then .inl (0, k, .inl (fun _ => 0)) else h.2.2 j)
/-- the arguments of a call: of one slot each; a receiver of its kind; not much below them -/
def jx_c1 : Value → Bool
  | .int _ => true
  | .ref _ => true
  | _ => false
def jx_okc (k : Nat) (ck : Option Nat) (st : List Value) (h : jxH) : Bool :=
  decide (k ≤ st.length) && (st.take k).all jx_c1 && decide ((st.drop k).length ≤ 4) && (match ck with
    | none => true
    | some c => match (st.take k).getLast? with
      | some (.ref a) => jx_cl h a == some c
      | _ => false)
def jx_ent (L k : Nat) (st : List Value) : List Value := (st.take k).reverse ++ List.replicate (L - k) jx_u
/-- what a return asks of the stack: 0 nothing, 1 an int, 2 a truth value, 3 a reference -/
def jx_okr (r : Nat) (st : List Value) : Bool := match r, st with
  | 0, [] => true
  | 1, [.int _] => true
  | 2, [.int x] => x == 0 || x == 1
  | 3, [.ref _] => true
  | _, _ => false
def jx_run (P : jxM) : Nat → Nat → Nat → Nat → List Value → List Value → jxH → Option (Nat × List Value × jxH)
  | 0, _, _, _, _, _, _ => none
  | n + 1, d, M, pc, ls, st, h => match (P M).2 pc with
    | none => none
    | some (.inl o) => match o ls st h with
      | none => none
      | some (pc', ls', st', h') => jx_run P n d M pc' ls' st' h'
    | some (.inr (.inl (y, k, nx, ck))) => match d with
      | 0 => none
      | d' + 1 => if jx_okc k ck st h = true then (match jx_run P n d' y 0 (jx_ent (P y).1 k st) [] h with
          | none => none
          | some (_, s1, h1) => jx_run P n (d' + 1) M nx ls (s1 ++ st.drop k) h1)
        else none
    | some (.inr (.inr r)) => if jx_okr r st = true then some (pc, st, h) else none
theorem jx_mono1 (P : jxM) : ∀ (n d M pc : Nat) (ls st : List Value) (h : jxH) (r : Nat × List Value × jxH), jx_run P n d M pc ls st h = some r → jx_run P (n + 1) d M pc ls st h = some r
  | 0, _, _, _, _, _, _, _, e => by simp [jx_run] at e
  | n + 1, d, M, pc, ls, st, h, r, e => by
    rw [jx_run] at e ⊢
    cases hc : (P M).2 pc with
    | none => rw [hc] at e; exact e
    | some i =>
      rw [hc] at e
      rcases i with o | ⟨y, k, nx, ck⟩ | q
      · dsimp only at e ⊢
        cases ho : o ls st h with
        | none => rw [ho] at e; exact e
        | some x =>
          rw [ho] at e
          obtain ⟨pc', ls', st', h'⟩ := x
          exact jx_mono1 P n d M pc' ls' st' h' r e
      · dsimp only at e ⊢
        cases d with
        | zero => exact e
        | succ d' =>
          dsimp only at e ⊢
          by_cases hk : jx_okc k ck st h = true
          · rw [if_pos hk] at e ⊢
            cases hr : jx_run P n d' y 0 (jx_ent (P y).1 k st) [] h with
            | none => rw [hr] at e; cases e
            | some x =>
              rw [hr] at e
              obtain ⟨a, s1, h1⟩ := x
              rw [jx_mono1 P n d' y 0 _ _ h _ hr]
              exact jx_mono1 P n (d' + 1) M nx ls _ h1 r e
          · rw [if_neg hk] at e
            cases e
      · exact e
theorem jx_mono (P : jxM) {n m d M pc : Nat} {ls st : List Value} {h : jxH} {r : Nat × List Value × jxH} (hn : n ≤ m) (e : jx_run P n d M pc ls st h = some r) : jx_run P m d M pc ls st h = some r := by
  obtain ⟨k, rfl⟩ := Nat.exists_eq_add_of_le hn
  clear hn
  induction k with
  | zero => exact e
  | succ k ih => exact jx_mono1 P (n + k) d M pc ls st h r ih
/-- it comes to a return with Q -/
def jx_Go (P : jxM) (d M pc : Nat) (ls st : List Value) (h : jxH) (Q : List Value → jxH → Prop) : Prop := ∃ (n pc' : Nat) (st' : List Value) (h' : jxH), jx_run P n d M pc ls st h = some (pc', st', h') ∧ Q st' h'
section JXG
variable {P : jxM} {d M pc : Nat} {ls st : List Value} {h : jxH} {Q : List Value → jxH → Prop}
theorem jx_Go.imp {Q' : List Value → jxH → Prop} (g : jx_Go P d M pc ls st h Q) (hq : ∀ s t, Q s t → Q' s t) : jx_Go P d M pc ls st h Q' := by
  obtain ⟨n, pc', st', h', e, q⟩ := g
  exact ⟨n, pc', st', h', e, hq _ _ q⟩
theorem jx_op {o : jxO} {pc' : Nat} {ls' st' : List Value} {h' : jxH} (hc : (P M).2 pc = some (.inl o)) (ho : o ls st h = some (pc', ls', st', h')) : jx_Go P d M pc ls st h Q ↔ jx_Go P d M pc' ls' st' h' Q := by
  constructor
  · rintro ⟨n, a, b, c, e, q⟩
    cases n with
    | zero => simp [jx_run] at e
    | succ n =>
      rw [jx_run, hc] at e
      dsimp only at e
      rw [ho] at e
      exact ⟨n, a, b, c, e, q⟩
  · rintro ⟨n, a, b, c, e, q⟩
    refine ⟨n + 1, a, b, c, ?_, q⟩
    rw [jx_run, hc]
    dsimp only
    rw [ho]
    exact e
/-- a step that may not be done -/
theorem jx_opN {o : jxO} (hc : (P M).2 pc = some (.inl o)) (ho : o ls st h = none) : jx_Go P d M pc ls st h Q ↔ False := by
  constructor
  · rintro ⟨n, a, b, c, e, q⟩
    cases n with
    | zero => simp [jx_run] at e
    | succ n =>
      rw [jx_run, hc] at e
      dsimp only at e
      rw [ho] at e
      cases e
  · exact False.elim
/-- a step with a lookup in it -/
theorem jx_opE {o : jxO} {A : Type} {x : Option A} {F : A → Nat × List Value × List Value × jxH} (hc : (P M).2 pc = some (.inl o)) (ho : o ls st h = x.map F) : jx_Go P d M pc ls st h Q ↔ ∃ a, x = some a ∧ jx_Go P d M (F a).1 (F a).2.1 (F a).2.2.1 (F a).2.2.2 Q := by
  cases x with
  | none => rw [jx_opN hc (by rw [ho]; rfl)]; simp
  | some a =>
    rw [jx_op (pc' := (F a).1) (ls' := (F a).2.1) (st' := (F a).2.2.1) (h' := (F a).2.2.2) hc (by rw [ho]; rfl)]
    simp
/-- a step with a lookup and a condition -/
theorem jx_opC {o : jxO} {A : Type} {x : Option A} {p : A → Prop} {F : A → Nat × List Value × List Value × jxH} (hc : (P M).2 pc = some (.inl o)) (hp : ∀ a, x = some a → p a → o ls st h = some (F a)) (hq : ∀ a, x = some a → ¬ p a → o ls st h = none) (hn : x = none → o ls st h = none) : jx_Go P d M pc ls st h Q ↔ ∃ a, x = some a ∧ p a ∧ jx_Go P d M (F a).1 (F a).2.1 (F a).2.2.1 (F a).2.2.2 Q := by
  cases x with
  | none => rw [jx_opN hc (hn rfl)]; simp
  | some a =>
    by_cases ha : p a
    · rw [jx_op (pc' := (F a).1) (ls' := (F a).2.1) (st' := (F a).2.2.1) (h' := (F a).2.2.2) hc (hp a rfl ha)]
      simp [ha]
    · rw [jx_opN hc (hq a rfl ha)]
      simp [ha]
theorem jx_rt {r : Nat} (hc : (P M).2 pc = some (.inr (.inr r))) (hr : jx_okr r st = true) : jx_Go P d M pc ls st h Q ↔ Q st h := by
  constructor
  · rintro ⟨n, a, b, c, e, q⟩
    cases n with
    | zero => simp [jx_run] at e
    | succ n =>
      rw [jx_run, hc] at e
      dsimp only at e
      rw [if_pos hr] at e
      cases e
      exact q
  · intro q
    refine ⟨1, pc, st, h, ?_, q⟩
    rw [jx_run, hc]
    dsimp only
    rw [if_pos hr]
theorem jx_ca {y k nx : Nat} {ck : Option Nat} (hc : (P M).2 pc = some (.inr (.inl (y, k, nx, ck)))) (hk : jx_okc k ck st h = true) : jx_Go P (d + 1) M pc ls st h Q ↔ jx_Go P d y 0 (jx_ent (P y).1 k st) [] h (fun s1 h1 => jx_Go P (d + 1) M nx ls (s1 ++ st.drop k) h1 Q) := by
  constructor
  · rintro ⟨n, a, b, c, e, q⟩
    cases n with
    | zero => simp [jx_run] at e
    | succ n =>
      rw [jx_run, hc] at e
      dsimp only at e
      rw [if_pos hk] at e
      cases hr : jx_run P n d y 0 (jx_ent (P y).1 k st) [] h with
      | none => rw [hr] at e; cases e
      | some x =>
        rw [hr] at e
        obtain ⟨p1, s1, h1⟩ := x
        exact ⟨n, p1, s1, h1, hr, n, a, b, c, e, q⟩
  · rintro ⟨n, p1, s1, h1, hr, m, a, b, c, e, q⟩
    refine ⟨n + m + 1, a, b, c, ?_, q⟩
    rw [jx_run, hc]
    dsimp only
    rw [if_pos hk, jx_mono P (by omega) hr]
    exact jx_mono P (by omega) e
end JXG
