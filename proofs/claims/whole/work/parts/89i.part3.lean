/-! ===== part: the search finds every parting; trees ===== -/
section PART3
theorem jqB_first {L : Nat} {Ps : List Nat} (hD : jqD Ps L) (h0 : Ps ≠ []) : ∀ l, jqO l = true → (∀ P, P ∈ Ps → ∃ e, e ∈ l ∧ P ∈ e.2) → ∃ P, P ∈ Ps ∧ P ∈ jqB L l := by
  intro l
  induction l with
  | nil =>
    intro _ hv
    obtain ⟨P, hP⟩ := List.exists_mem_of_ne_nil _ h0
    obtain ⟨e, he, _⟩ := hv P hP
    cases he
  | cons e r ih =>
    intro ho hv
    obtain ⟨b, ps⟩ := e
    unfold jqO at ho
    rw [Bool.and_eq_true, Bool.and_eq_true, List.all_eq_true, List.all_eq_true] at ho
    obtain ⟨o1, o2, o3⟩ := ho
    by_cases z : L &&& b = 0
    · have zb : Nat.beq (Nat.land L b) 0 = true := by rw [show Nat.land L b = L &&& b from rfl, z]; rfl
      have e1 : jqB L ((b, ps) :: r) = jqB L r := by rw [jqB, zb]; rfl
      rw [e1]
      refine ih o3 (fun P hP => ?_)
      obtain ⟨e, he, hp⟩ := hv P hP
      rcases List.mem_cons.mp he with w | w
      · subst w
        exfalso
        have q := o1 P hp
        have s1 := (jqD_ex Ps L P hD hP).1
        have : P &&& b = 0 := by rw [← s1, Nat.and_assoc, z, Nat.and_zero]
        rw [show Nat.land P b = P &&& b from rfl, this] at q
        cases q
      · exact ⟨e, w, hp⟩
    · obtain ⟨i, i1, i2⟩ := jq_land z
      obtain ⟨P, hP, hi⟩ := jqD_bit Ps L i hD i1
      have pb : P &&& b ≠ 0 := jq_land2 hi i2
      have zb : Nat.beq (Nat.land L b) 0 = false := by
        cases q : Nat.beq (Nat.land L b) 0 with
        | false => rfl
        | true => exact absurd (Nat.eq_of_beq_eq_true q) z
      have e1 : jqB L ((b, ps) :: r) = ps := by rw [jqB, zb]; rfl
      rw [e1]
      refine ⟨P, hP, ?_⟩
      obtain ⟨e, he, hp⟩ := hv P hP
      rcases List.mem_cons.mp he with w | w
      · subst w; exact hp
      · exfalso
        have q := o2 e w
        rw [List.all_eq_true] at q
        exact pb (Nat.eq_of_beq_eq_true (q P hp))
theorem jqA_iff {p : Nat → Bool} : ∀ l, jqA p l = true ↔ ∃ x, x ∈ l ∧ p x = true := by
  intro l
  induction l with
  | nil => exact ⟨fun w => (by cases w), fun ⟨_, w, _⟩ => (by cases w)⟩
  | cons y r ih =>
    rw [jqA]
    cases q : p y with
    | true => exact ⟨fun _ => ⟨y, List.mem_cons_self, q⟩, fun _ => rfl⟩
    | false =>
      rw [cond_false, ih]
      constructor
      · rintro ⟨x, h1, h2⟩
        exact ⟨x, List.mem_cons_of_mem _ h1, h2⟩
      · rintro ⟨x, h1, h2⟩
        rcases List.mem_cons.mp h1 with w | w
        · subst w; rw [q] at h2; cases h2
        · exact ⟨x, w, h2⟩
theorem jqs_0 {L : Nat} : jqs 0 L = Nat.beq L 0 := rfl
theorem jqs_1 {L : Nat} : jqs 1 L = cond (Nat.beq L 0) true (jqA (fun P => Nat.beq P L) (jqB L jqP)) := rfl
theorem jqs_2 {n L : Nat} : jqs (n + 2) L = cond (Nat.beq L 0) true (jqA (fun P => cond (Nat.beq (Nat.land P L) P) (jqs (n + 1) (Nat.xor L P)) false) (jqB L jqP)) := rfl
theorem jqs_ok : ∀ (n : Nat) (Ps : List Nat) (L : Nat), Ps.length ≤ n → jqD Ps L → (∀ P, P ∈ Ps → ∃ e, e ∈ jqP ∧ P ∈ e.2) → jqs n L = true := by
  intro n
  have hO := jqO_P
  induction n with
  | zero =>
    intro Ps L hl hD hv
    have : Ps = [] := List.length_eq_zero_iff.mp (by omega)
    subst this
    rw [jqs_0, show L = 0 from hD]
    exact Nat.beq_refl 0
  | succ n ih =>
    intro Ps L hl hD hv
    have z0 : L = 0 ∨ L ≠ 0 := by omega
    rcases z0 with z | z
    · have zb : Nat.beq L 0 = true := by rw [z]; exact Nat.beq_refl 0
      cases n with
      | zero => rw [jqs_1, zb, cond_true]
      | succ n => rw [jqs_2, zb, cond_true]
    · have zb : Nat.beq L 0 = false := by
        cases q : Nat.beq L 0 with
        | false => rfl
        | true => exact absurd (Nat.eq_of_beq_eq_true q) z
      have hne : Ps ≠ [] := fun w => by subst w; exact z hD
      obtain ⟨P, hP, hB⟩ := jqB_first hD hne jqP hO hv
      obtain ⟨s1, s2⟩ := jqD_ex Ps L P hD hP
      have le := List.length_erase_of_mem hP
      cases n with
      | zero =>
        have : Ps.erase P = [] := List.length_eq_zero_iff.mp (by omega)
        rw [this] at s2
        have eL : L = P := by
          have w : L ^^^ P = 0 := s2
          apply Nat.eq_of_testBit_eq
          intro i
          have := congrArg (fun z => z.testBit i) w
          rw [Nat.testBit_xor, Nat.zero_testBit] at this
          revert this
          cases L.testBit i <;> cases P.testBit i <;> intro this <;> first | rfl | cases this
        rw [jqs_1, zb, cond_false, jqA_iff]
        exact ⟨P, hB, by rw [eL]; exact Nat.beq_refl P⟩
      | succ n =>
        rw [jqs_2, zb, cond_false, jqA_iff]
        refine ⟨P, hB, ?_⟩
        have b1 : Nat.beq (Nat.land P L) P = true := by
          rw [show Nat.land P L = P &&& L from rfl, s1]
          exact Nat.beq_refl P
        rw [b1, cond_true]
        exact ih (Ps.erase P) (L ^^^ P) (by omega) s2 (fun Q hQ => hv Q (List.mem_of_mem_erase hQ))
/-- at least a parts -/
def jqn : Nat → Nat → Bool
  | 0, _ => true
  | a + 1, L => cond (jqs a L) false true
theorem jqn_le {a L : Nat} {Ps : List Nat} (h : jqn a L = true) (hD : jqD Ps L) (hv : ∀ P, P ∈ Ps → ∃ e, e ∈ jqP ∧ P ∈ e.2) : a ≤ Ps.length := by
  rcases Nat.lt_or_ge Ps.length a with w | w
  · exfalso
    obtain ⟨a, rfl⟩ : ∃ a', a = a' + 1 := ⟨a - 1, by omega⟩
    have k := jqs_ok a Ps L (by omega) hD hv
    have h' : cond (jqs a L) false true = true := h
    rw [k] at h'
    cases h'
  · exact w

/-- the tree's check: zeros alone, ones alone -/
def jqz : List Nat → Nat → Nat → Bool
  | [], _, _ => true
  | a :: r, X, Y => cond (Nat.beq (X % 2) 0) (jqz r (X / 2) Y) (cond (Nat.beq (Nat.land a Y) 0) (jqz r (X / 2) Y) false)
def jqi : List Nat → Nat → Nat → Bool
  | [], X, _ => Nat.beq X 0
  | a :: r, X, Y => cond (Nat.beq (X % 2) 0) (jqi r (X / 2) Y) (cond (Nat.beq (Nat.land a Y) Y) (jqi r (X / 2) Y) false)
/-- the blocks that wait, the tree as a number, how many ends are left -/
def jqt (l : List Nat) : Nat → List (Nat × Nat) → Nat → Nat → Bool
  | 0, _, _, _ => false
  | _ + 1, [], _, _ => true
  | f + 1, (X, Y) :: st, D, n =>
    cond (Nat.beq (D % 32) 0)
      (cond (Nat.ble 1 n) (cond (cond (jqz l X Y) true (jqi l X Y)) (jqt l f st (D / 32) (n - 1)) false) false)
      (cond (Nat.ble (D % 32) 15)
        (jqt l f ((X, Nat.land Y (D % 32)) :: (X, Nat.xor Y (Nat.land Y (D % 32))) :: st) (D / 32) n)
        (jqt l f ((Nat.land X (D % 32 - 16), Y) :: (Nat.xor X (Nat.land X (D % 32 - 16)), Y) :: st) (D / 32) n))
def jqL : List Nat → Nat
  | [] => 0
  | a :: r => 16 * jqL r + a
def jqN : List Nat → Nat
  | [] => 0
  | a :: r => 16 * jqN r + (15 - a)
def jqw : List Nat → Nat
  | [] => 0
  | _ :: r => 2 * jqw r + 1
def jqc (l : List Nat) (D : Nat) : Bool := cond (jqn (D % 8) (jqL l)) (cond (jqn (D / 8 % 8) (jqN l)) (jqt l 16 [(jqw l, 15)] (D / 64) (D % 8 + D / 8 % 8)) false) false

/-- trees with at most n ends over the rows X and the columns Y -/
def jTr (t : Nat → Nat → Bool) (n : Nat) (X Y : Nat → Bool) : Prop := ∀ P : Nat → (Nat → Bool) → (Nat → Bool) → Prop,
  (∀ (n : Nat) (X Y : Nat → Bool) (b : Bool), 1 ≤ n → (∀ r c, X r = true → Y c = true → t r c = b) → P n X Y) →
  (∀ (n m : Nat) (X Y Z : Nat → Bool), P n (fun r => X r && Z r) Y → P m (fun r => X r && !Z r) Y → P (n + m) X Y) →
  (∀ (n m : Nat) (X Y Z : Nat → Bool), P n X (fun c => Y c && Z c) → P m X (fun c => Y c && !Z c) → P (n + m) X Y) → P n X Y
theorem jTr.lf {t : Nat → Nat → Bool} {n : Nat} {X Y : Nat → Bool} {b : Bool} (h1 : 1 ≤ n) (h : ∀ r c, X r = true → Y c = true → t r c = b) : jTr t n X Y := fun _ k1 _ _ => k1 _ _ _ b h1 h
theorem jTr.rw {t : Nat → Nat → Bool} {n m : Nat} {X Y : Nat → Bool} (Z : Nat → Bool) (h1 : jTr t n (fun r => X r && Z r) Y) (h2 : jTr t m (fun r => X r && !Z r) Y) : jTr t (n + m) X Y := fun P k1 k2 k3 => k2 _ _ _ _ Z (h1 P k1 k2 k3) (h2 P k1 k2 k3)
theorem jTr.cl {t : Nat → Nat → Bool} {n m : Nat} {X Y : Nat → Bool} (Z : Nat → Bool) (h1 : jTr t n X (fun c => Y c && Z c)) (h2 : jTr t m X (fun c => Y c && !Z c)) : jTr t (n + m) X Y := fun P k1 k2 k3 => k3 _ _ _ _ Z (h1 P k1 k2 k3) (h2 P k1 k2 k3)
theorem jTr.mo {t : Nat → Nat → Bool} {n : Nat} {X Y : Nat → Bool} (h : jTr t n X Y) : ∀ m, n ≤ m → jTr t m X Y := by
  refine h (fun n X Y => ∀ m, n ≤ m → jTr t m X Y) ?_ ?_ ?_
  · intro n X Y b h1 h2 m hm
    exact jTr.lf (by omega) h2
  · intro n m X Y Z h1 h2 k hk
    rw [show k = n + (k - n) by omega]
    exact jTr.rw Z (h1 n (Nat.le_refl _)) (h2 _ (by omega))
  · intro n m X Y Z h1 h2 k hk
    rw [show k = n + (k - n) by omega]
    exact jTr.cl Z (h1 n (Nat.le_refl _)) (h2 _ (by omega))
/-- a tree is drawn back along maps of the rows and the columns -/
theorem jTr.pb {t t' : Nat → Nat → Bool} {f g : Nat → Nat} {n : Nat} {X' Y' : Nat → Bool} (h : jTr t' n X' Y') : ∀ X Y : Nat → Bool, (∀ r, X r = true → X' (f r) = true) → (∀ c, Y c = true → Y' (g c) = true) → (∀ r c, X r = true → Y c = true → t r c = t' (f r) (g c)) → jTr t n X Y := by
  refine h (fun n X' Y' => ∀ X Y : Nat → Bool, (∀ r, X r = true → X' (f r) = true) → (∀ c, Y c = true → Y' (g c) = true) → (∀ r c, X r = true → Y c = true → t r c = t' (f r) (g c)) → jTr t n X Y) ?_ ?_ ?_
  · intro n X' Y' b h1 h2 X Y hX hY ht
    exact jTr.lf (b := b) h1 (fun r c hr hc => (ht r c hr hc).trans (h2 _ _ (hX r hr) (hY c hc)))
  · intro n m X' Y' Z h1 h2 X Y hX hY ht
    refine jTr.rw (fun r => Z (f r)) (h1 _ _ (fun r hr => ?_) hY (fun r c hr hc => ?_)) (h2 _ _ (fun r hr => ?_) hY (fun r c hr hc => ?_))
    · rw [Bool.and_eq_true] at hr ⊢
      exact ⟨hX r hr.1, hr.2⟩
    · rw [Bool.and_eq_true] at hr
      exact ht r c hr.1 hc
    · rw [Bool.and_eq_true] at hr ⊢
      exact ⟨hX r hr.1, hr.2⟩
    · rw [Bool.and_eq_true] at hr
      exact ht r c hr.1 hc
  · intro n m X' Y' Z h1 h2 X Y hX hY ht
    refine jTr.cl (fun c => Z (g c)) (h1 _ _ hX (fun c hc => ?_) (fun r c hr hc => ?_)) (h2 _ _ hX (fun c hc => ?_) (fun r c hr hc => ?_))
    · rw [Bool.and_eq_true] at hc ⊢
      exact ⟨hY c hc.1, hc.2⟩
    · rw [Bool.and_eq_true] at hc
      exact ht r c hr hc.1
    · rw [Bool.and_eq_true] at hc ⊢
      exact ⟨hY c hc.1, hc.2⟩
    · rw [Bool.and_eq_true] at hc
      exact ht r c hr hc.1
theorem jqz_ok {Y : Nat} : ∀ (l : List Nat) (X : Nat), jqz l X Y = true → ∀ i c, X.testBit i = true → Y.testBit c = true → (l.getD i 0).testBit c = false := by
  intro l
  induction l with
  | nil =>
    intro X _ i c _ _
    rw [List.getD_nil, Nat.zero_testBit]
  | cons a r ih =>
    intro X h i c hi hc
    have h' : cond (Nat.beq (X % 2) 0) (jqz r (X / 2) Y) (cond (Nat.beq (Nat.land a Y) 0) (jqz r (X / 2) Y) false) = true := h
    cases i with
    | zero =>
      rw [Nat.testBit_zero, decide_eq_true_iff] at hi
      rw [hi, show Nat.beq 1 0 = false from rfl, cond_false] at h'
      rw [List.getD_cons_zero]
      cases q : Nat.beq (Nat.land a Y) 0 with
      | false => rw [q] at h'; cases h'
      | true =>
        have e : a &&& Y = 0 := Nat.eq_of_beq_eq_true q
        have := congrArg (fun z => z.testBit c) e
        rw [Nat.testBit_and, hc, Bool.and_true, Nat.zero_testBit] at this
        exact this
    | succ i =>
      rw [List.getD_cons_succ]
      refine ih (X / 2) ?_ i c ?_ hc
      · revert h'
        cases Nat.beq (X % 2) 0 <;> cases Nat.beq (Nat.land a Y) 0 <;> intro h' <;> first | exact h' | cases h'
      · rw [← Nat.testBit_succ]; exact hi
theorem jqi_ok {Y : Nat} : ∀ (l : List Nat) (X : Nat), jqi l X Y = true → ∀ i c, X.testBit i = true → Y.testBit c = true → (l.getD i 0).testBit c = true := by
  intro l
  induction l with
  | nil =>
    intro X h i c hi _
    rw [show X = 0 from Nat.eq_of_beq_eq_true h, Nat.zero_testBit] at hi
    cases hi
  | cons a r ih =>
    intro X h i c hi hc
    have h' : cond (Nat.beq (X % 2) 0) (jqi r (X / 2) Y) (cond (Nat.beq (Nat.land a Y) Y) (jqi r (X / 2) Y) false) = true := h
    cases i with
    | zero =>
      rw [Nat.testBit_zero, decide_eq_true_iff] at hi
      rw [hi, show Nat.beq 1 0 = false from rfl, cond_false] at h'
      rw [List.getD_cons_zero]
      cases q : Nat.beq (Nat.land a Y) Y with
      | false => rw [q] at h'; cases h'
      | true =>
        have e : a &&& Y = Y := Nat.eq_of_beq_eq_true q
        have := congrArg (fun z => z.testBit c) e
        rw [Nat.testBit_and, hc, Bool.and_true] at this
        exact this
    | succ i =>
      rw [List.getD_cons_succ]
      refine ih (X / 2) ?_ i c ?_ hc
      · revert h'
        cases Nat.beq (X % 2) 0 <;> cases Nat.beq (Nat.land a Y) Y <;> intro h' <;> first | exact h' | cases h'
      · rw [← Nat.testBit_succ]; exact hi
/-- trees for all blocks that wait -/
def jTs (t : Nat → Nat → Bool) : List (Nat × Nat) → Nat → Prop
  | [], _ => True
  | e :: st, n => ∃ a b, a + b ≤ n ∧ jTr t a (fun r => e.1.testBit r) (fun c => e.2.testBit c) ∧ jTs t st b
theorem jqx_1 {X s : Nat} : (fun r => (Nat.land X s).testBit r) = fun r => X.testBit r && s.testBit r := by
  funext r
  exact Nat.testBit_and X s r
theorem jqx_2 {X s : Nat} : (fun r => (Nat.xor X (Nat.land X s)).testBit r) = fun r => X.testBit r && !s.testBit r := by
  funext r
  show (X ^^^ (X &&& s)).testBit r = _
  rw [Nat.testBit_xor, Nat.testBit_and]
  cases X.testBit r <;> cases s.testBit r <;> rfl
theorem jqt_ok (l : List Nat) : ∀ (f : Nat) (st : List (Nat × Nat)) (D n : Nat), jqt l f st D n = true → jTs (fun r c => (l.getD r 0).testBit c) st n := by
  intro f
  induction f with
  | zero => intro st D n h; cases h
  | succ f ih =>
    intro st D n h
    cases st with
    | nil => trivial
    | cons e st =>
      obtain ⟨X, Y⟩ := e
      have h' : cond (Nat.beq (D % 32) 0)
        (cond (Nat.ble 1 n) (cond (cond (jqz l X Y) true (jqi l X Y)) (jqt l f st (D / 32) (n - 1)) false) false)
        (cond (Nat.ble (D % 32) 15)
        (jqt l f ((X, Nat.land Y (D % 32)) :: (X, Nat.xor Y (Nat.land Y (D % 32))) :: st) (D / 32) n)
        (jqt l f ((Nat.land X (D % 32 - 16), Y) :: (Nat.xor X (Nat.land X (D % 32 - 16)), Y) :: st) (D / 32) n)) = true := h
      cases q : Nat.beq (D % 32) 0 with
      | true =>
        rw [q, cond_true] at h'
        cases q1 : Nat.ble 1 n with
        | false => rw [q1] at h'; cases h'
        | true =>
          have n1 : 1 ≤ n := Nat.le_of_ble_eq_true q1
          rw [q1, cond_true] at h'
          have key : ∀ b, (∀ i c, X.testBit i = true → Y.testBit c = true → (l.getD i 0).testBit c = b) → jqt l f st (D / 32) (n - 1) = true → jTs (fun r c => (l.getD r 0).testBit c) ((X, Y) :: st) n := fun b hb hj => ⟨1, n - 1, by omega, jTr.lf (b := b) (Nat.le_refl _) hb, ih _ _ _ hj⟩
          cases q2 : jqz l X Y with
          | true =>
            rw [q2, cond_true, cond_true] at h'
            exact key false (jqz_ok l X q2) h'
          | false =>
            rw [q2, cond_false] at h'
            cases q3 : jqi l X Y with
            | true =>
              rw [q3, cond_true] at h'
              exact key true (jqi_ok l X q3) h'
            | false => rw [q3] at h'; cases h'
      | false =>
        rw [q, cond_false] at h'
        cases q1 : Nat.ble (D % 32) 15 with
        | true =>
          rw [q1, cond_true] at h'
          obtain ⟨a, b, hab, t1, a2, b2, hab2, t2, t3⟩ := ih _ _ _ h'
          dsimp only at t1 t2
          rw [jqx_1] at t1
          rw [jqx_2] at t2
          exact ⟨a + a2, b2, by omega, jTr.cl _ t1 t2, t3⟩
        | false =>
          rw [q1, cond_false] at h'
          obtain ⟨a, b, hab, t1, a2, b2, hab2, t2, t3⟩ := ih _ _ _ h'
          dsimp only at t1 t2
          rw [jqx_1] at t1
          rw [jqx_2] at t2
          exact ⟨a + a2, b2, by omega, jTr.rw _ t1 t2, t3⟩
theorem jqw_bit : ∀ (l : List Nat) (i : Nat), (jqw l).testBit i = decide (i < l.length) := by
  intro l
  induction l with
  | nil => intro i; rw [show jqw [] = 0 from rfl, Nat.zero_testBit]; rfl
  | cons a r ih =>
    intro i
    rw [show jqw (a :: r) = 2 * jqw r + 1 from rfl]
    cases i with
    | zero => rw [Nat.testBit_zero, List.length_cons, decide_eq_true (show (2 * jqw r + 1) % 2 = 1 by omega), decide_eq_true (by omega)]
    | succ i =>
      rw [Nat.testBit_succ, show (2 * jqw r + 1) / 2 = jqw r by omega, ih, List.length_cons]
      exact decide_eq_decide.mpr ⟨fun w => by omega, fun w => by omega⟩
theorem jqL_bit : ∀ (l : List Nat) (_ : ∀ x, x ∈ l → x < 16) (i c : Nat), c < 4 → (jqL l).testBit (4 * i + c) = (l.getD i 0).testBit c := by
  intro l
  induction l with
  | nil => intro _ i c _; rw [show jqL [] = 0 from rfl, List.getD_nil, Nat.zero_testBit, Nat.zero_testBit]
  | cons a r ih =>
    intro hl i c hc
    have ha : a < 2 ^ 4 := hl a List.mem_cons_self
    rw [show jqL (a :: r) = 2 ^ 4 * jqL r + a from rfl, Nat.testBit_two_pow_mul_add _ ha]
    cases i with
    | zero => rw [if_pos (by omega), List.getD_cons_zero, show 4 * 0 + c = c by omega]
    | succ i => rw [if_neg (by omega), List.getD_cons_succ, show 4 * (i + 1) + c - 4 = 4 * i + c by omega]; exact ih (fun x hx => hl x (List.mem_cons_of_mem _ hx)) i c hc
theorem jq15 : ∀ a, a < 16 → ∀ c, c < 4 → (15 - a).testBit c = !a.testBit c := by decide +kernel
theorem jqN_bit : ∀ (l : List Nat) (_ : ∀ x, x ∈ l → x < 16) (i c : Nat), c < 4 → (jqN l).testBit (4 * i + c) = (decide (i < l.length) && !(l.getD i 0).testBit c) := by
  intro l
  induction l with
  | nil => intro _ i c _; rw [show jqN [] = 0 from rfl, Nat.zero_testBit, decide_eq_false (by simp), Bool.false_and]
  | cons a r ih =>
    intro hl i c hc
    have ha : a < 16 := hl a List.mem_cons_self
    have ha' : 15 - a < 2 ^ 4 := Nat.lt_of_le_of_lt (Nat.sub_le 15 a) (by decide)
    rw [show jqN (a :: r) = 2 ^ 4 * jqN r + (15 - a) from rfl, Nat.testBit_two_pow_mul_add _ ha', List.length_cons]
    cases i with
    | zero => rw [if_pos (by omega), List.getD_cons_zero, show 4 * 0 + c = c by omega, jq15 a ha c hc, decide_eq_true (by omega), Bool.true_and]
    | succ i =>
      rw [if_neg (by omega), List.getD_cons_succ, show 4 * (i + 1) + c - 4 = 4 * i + c by omega, ih (fun x hx => hl x (List.mem_cons_of_mem _ hx)) i c hc]
      congr 1
      exact decide_eq_decide.mpr ⟨fun w => by omega, fun w => by omega⟩
theorem jqc_ok {l : List Nat} {D : Nat} (h : jqc l D = true) : ∃ a b, jqn a (jqL l) = true ∧ jqn b (jqN l) = true ∧ jTr (fun r c => (l.getD r 0).testBit c) (a + b) (fun r => decide (r < l.length)) (fun c => decide (c < 4)) := by
  have h' : cond (jqn (D % 8) (jqL l)) (cond (jqn (D / 8 % 8) (jqN l)) (jqt l 16 [(jqw l, 15)] (D / 64) (D % 8 + D / 8 % 8)) false) false = true := h
  cases q1 : jqn (D % 8) (jqL l) with
  | false => rw [q1] at h'; cases h'
  | true =>
    cases q2 : jqn (D / 8 % 8) (jqN l) with
    | false => rw [q1, q2] at h'; cases h'
    | true =>
      rw [q1, q2, cond_true, cond_true] at h'
      refine ⟨_, _, q1, q2, ?_⟩
      obtain ⟨a, b, hab, t1, _⟩ := jqt_ok l _ _ _ _ h'
      refine jTr.pb (f := fun x => x) (g := fun x => x) (t1.mo _ (by omega)) _ _ (fun r hr => ?_) (fun c hc => ?_) (fun _ _ _ _ => rfl)
      · show (jqw l).testBit r = true
        rw [jqw_bit]; exact hr
      · show (15 : Nat).testBit c = true
        have := decide_eq_true_iff.mp hc
        rw [show (15 : Nat) = 2 ^ 4 - 1 from rfl, Nat.testBit_two_pow_sub_one]
        exact hc
end PART3
