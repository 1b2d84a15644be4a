/-! ===== part: partings and trees are drawn back to distinct rows ===== -/
section PART4
/-- put into a rising list -/
def jins (x : Nat) : List Nat → List Nat
  | [] => [x]
  | y :: r => if x < y then x :: y :: r else if x = y then y :: r else y :: jins x r
theorem jins_mem {x z : Nat} : ∀ l, z ∈ jins x l ↔ z = x ∨ z ∈ l := by
  intro l
  induction l with
  | nil => show z ∈ [x] ↔ _; rw [List.mem_singleton]; exact ⟨Or.inl, fun w => w.elim id (fun q => by cases q)⟩
  | cons y r ih =>
    show z ∈ (if x < y then x :: y :: r else if x = y then y :: r else y :: jins x r) ↔ _
    by_cases w : x < y
    · rw [if_pos w, List.mem_cons]
    · rw [if_neg w]
      by_cases e : x = y
      · rw [if_pos e, e, List.mem_cons]
        exact ⟨Or.inr, fun q => q.elim Or.inl id⟩
      · rw [if_neg e, List.mem_cons, ih, List.mem_cons]
        exact ⟨fun q => q.elim (fun a => Or.inr (Or.inl a)) (fun a => a.elim Or.inl (fun b => Or.inr (Or.inr b))), fun q => q.elim (fun a => Or.inr (Or.inl a)) (fun a => a.elim Or.inl (fun b => Or.inr (Or.inr b)))⟩
theorem jins_len {x : Nat} : ∀ l, (jins x l).length ≤ l.length + 1 := by
  intro l
  induction l with
  | nil => exact Nat.le_refl _
  | cons y r ih =>
    show (if x < y then x :: y :: r else if x = y then y :: r else y :: jins x r).length ≤ _
    split
    · exact Nat.le_refl _
    · split
      · exact Nat.le_succ _
      · exact Nat.succ_le_succ ih
theorem jins_up {x : Nat} : ∀ l : List Nat, l.Pairwise (· < ·) → (jins x l).Pairwise (· < ·) := by
  intro l
  induction l with
  | nil => intro _; exact List.pairwise_singleton _ _
  | cons y r ih =>
    intro h
    have h2 := List.pairwise_cons.mp h
    show (if x < y then x :: y :: r else if x = y then y :: r else y :: jins x r).Pairwise (· < ·)
    by_cases w : x < y
    · rw [if_pos w]
      refine List.pairwise_cons.mpr ⟨fun z hz => ?_, h⟩
      rcases List.mem_cons.mp hz with q | q
      · rw [q]; exact w
      · exact Nat.lt_trans w (h2.1 z q)
    · rw [if_neg w]
      by_cases e : x = y
      · rw [if_pos e]; exact h
      · rw [if_neg e]
        refine List.pairwise_cons.mpr ⟨fun z hz => ?_, ih h2.2⟩
        rcases (jins_mem r).mp hz with q | q
        · omega
        · exact h2.1 z q
def jsl (rv : Nat → Nat) : Nat → List Nat
  | 0 => []
  | n + 1 => jins (rv n) (jsl rv n)
theorem jsl_mem {rv : Nat → Nat} {x : Nat} : ∀ n, x ∈ jsl rv n ↔ ∃ r, r < n ∧ rv r = x := by
  intro n
  induction n with
  | zero => exact ⟨fun w => (by cases w), fun ⟨_, w, _⟩ => absurd w (Nat.not_lt_zero _)⟩
  | succ n ih =>
    show x ∈ jins (rv n) (jsl rv n) ↔ _
    rw [jins_mem, ih]
    constructor
    · rintro (q | ⟨r, q1, q2⟩)
      · exact ⟨n, Nat.lt_succ_self n, q.symm⟩
      · exact ⟨r, by omega, q2⟩
    · rintro ⟨r, q1, q2⟩
      by_cases e : r = n
      · subst e; exact Or.inl q2.symm
      · exact Or.inr ⟨r, by omega, q2⟩
theorem jsl_len {rv : Nat → Nat} : ∀ n, (jsl rv n).length ≤ n := by
  intro n
  induction n with
  | zero => exact Nat.le_refl _
  | succ n ih => exact Nat.le_trans (jins_len _) (Nat.succ_le_succ ih)
theorem jsl_up {rv : Nat → Nat} : ∀ n, (jsl rv n).Pairwise (· < ·) := by
  intro n
  induction n with
  | zero => exact List.Pairwise.nil
  | succ n ih => exact jins_up _ ih
/-- how many of the blocks hold a place -/
def jct (Ps : List (Nat × Nat)) (r c : Nat) : Nat := Ps.countP fun P => P.1.testBit r && P.2.testBit c
theorem jqD_ct : ∀ (Ms : List Nat) (L : Nat), (∀ i, Ms.countP (fun M => M.testBit i) = if L.testBit i = true then 1 else 0) → jqD Ms L := by
  intro Ms
  induction Ms with
  | nil =>
    intro L h
    show L = 0
    apply Nat.eq_of_testBit_eq
    intro i
    have := h i
    rw [Nat.zero_testBit]
    cases q : L.testBit i with
    | false => rfl
    | true => rw [q, if_pos rfl] at this; cases this
  | cons M r ih =>
    intro L h
    have s : ∀ i, M.testBit i = true → L.testBit i = true := by
      intro i hi
      have := h i
      rw [List.countP_cons, if_pos hi] at this
      cases q : L.testBit i with
      | true => rfl
      | false => rw [q, if_neg (by decide)] at this; omega
    refine ⟨jq_sub.mpr s, ih _ (fun i => ?_)⟩
    have := h i
    rw [List.countP_cons] at this
    rw [Nat.testBit_xor]
    cases q : M.testBit i with
    | true =>
      rw [q, s i q, if_pos rfl] at this
      rw [s i q, if_neg (by decide)]
      omega
    | false =>
      rw [q, if_neg (by decide)] at this
      rw [Bool.xor_false]
      exact this
/-- a block drawn back -/
def jqpl (f : Nat → Nat) (m C : Nat) (P : Nat × Nat) : Nat := jp4 4 (32 * jmk m (fun i => P.1.testBit (f i)) + jmk 4 (fun c => P.2.testBit (min c (C - 1))))
theorem jqpl_bit {f : Nat → Nat} {m C : Nat} {P : Nat × Nat} {p : Nat} (hm : m ≤ 4) : (jqpl f m C P).testBit p = (decide (p / 4 < m) && (P.1.testBit (f (p / 4)) && P.2.testBit (min (p % 4) (C - 1)))) := by
  unfold jqpl jp4
  have l4 : jmk 4 (fun c => P.2.testBit (min c (C - 1))) < 2 ^ 4 := jmk_lt 4
  have e1 : (32 * jmk m (fun i => P.1.testBit (f i)) + jmk 4 (fun c => P.2.testBit (min c (C - 1)))) / 32 = jmk m (fun i => P.1.testBit (f i)) := by omega
  have e2 : (32 * jmk m (fun i => P.1.testBit (f i)) + jmk 4 (fun c => P.2.testBit (min c (C - 1)))) % 32 = jmk 4 (fun c => P.2.testBit (min c (C - 1))) := by omega
  rw [jmk_bit, e1, e2, jmk_bit, jmk_bit, decide_eq_true (show p % 4 < 4 by omega), Bool.true_and]
  by_cases w : p / 4 < m
  · rw [decide_eq_true w, decide_eq_true (show p < 4 * 4 by omega), Bool.true_and, Bool.true_and, Bool.true_and]
  · rw [decide_eq_false w, Bool.false_and, Bool.false_and, Bool.and_false, Bool.false_and]
theorem jqP_all : jall 16 (fun X => jall 16 fun Y => Nat.beq (jp4 4 (32 * X + Y)) 0 || jqP.any fun e => e.2.any fun M => Nat.beq M (jp4 4 (32 * X + Y))) = true := by decide +kernel
theorem jqP_in {f : Nat → Nat} {m C : Nat} {P : Nat × Nat} (hm : m ≤ 4) (h0 : jqpl f m C P ≠ 0) : ∃ e, e ∈ jqP ∧ jqpl f m C P ∈ e.2 := by
  have lx : jmk m (fun i => P.1.testBit (f i)) < 16 := Nat.lt_of_lt_of_le (jmk_lt m) (Nat.le_trans (Nat.pow_le_pow_right (by decide) hm) (by decide))
  have ly : jmk 4 (fun c => P.2.testBit (min c (C - 1))) < 16 := jmk_lt 4
  have k := jall_iff.mp (jall_iff.mp jqP_all _ lx) _ ly
  rw [Bool.or_eq_true] at k
  rcases k with k | k
  · exact absurd (Nat.eq_of_beq_eq_true k) h0
  · rw [List.any_eq_true] at k
    obtain ⟨e, he, k⟩ := k
    rw [List.any_eq_true] at k
    obtain ⟨M, hM, k⟩ := k
    have := Nat.eq_of_beq_eq_true k
    refine ⟨e, he, ?_⟩
    unfold jqpl
    rw [← this]
    exact hM
theorem jqn_ct {f : Nat → Nat} {m C a L : Nat} {Ps : List (Nat × Nat)} (hm : m ≤ 4) (hq : jqn a L = true) (hb : ∀ i c, c < 4 → m ≤ i → L.testBit (4 * i + c) = false) (h : ∀ i c, i < m → c < 4 → jct Ps (f i) (min c (C - 1)) = if L.testBit (4 * i + c) = true then 1 else 0) : a ≤ Ps.length := by
  have hl : ((Ps.map (jqpl f m C)).filter fun M => decide (M ≠ 0)).length ≤ Ps.length := Nat.le_trans (List.length_filter_le _ _) (by rw [List.length_map]; exact Nat.le_refl _)
  refine Nat.le_trans (jqn_le hq (jqD_ct ((Ps.map (jqpl f m C)).filter fun M => decide (M ≠ 0)) L (fun p => ?_)) (fun M hM => ?_)) hl
  · rw [List.countP_filter]
    have e1 : List.countP (fun a => a.testBit p && decide (a ≠ 0)) (Ps.map (jqpl f m C)) = List.countP (fun P => (jqpl f m C P).testBit p) Ps := by
      rw [List.countP_map]
      apply List.countP_congr
      intro P hP
      show ((jqpl f m C P).testBit p && decide (jqpl f m C P ≠ 0)) = true ↔ _
      rw [Bool.and_eq_true, decide_eq_true_iff]
      refine ⟨fun w => w.1, fun w => ⟨w, fun z => ?_⟩⟩
      rw [z, Nat.zero_testBit] at w
      cases w
    rw [e1]
    have e2 : L.testBit p = L.testBit (4 * (p / 4) + p % 4) := by rw [Nat.div_add_mod]
    by_cases w : p / 4 < m
    · rw [e2, ← h (p / 4) (p % 4) w (by omega)]
      unfold jct
      apply List.countP_congr
      intro P hP
      rw [jqpl_bit hm, decide_eq_true w, Bool.true_and]
    · rw [e2, hb _ _ (by omega) (by omega), if_neg (by decide), List.countP_eq_zero]
      intro P hP
      rw [jqpl_bit hm, decide_eq_false w, Bool.false_and]
      decide
  · rw [List.mem_filter, List.mem_map] at hM
    obtain ⟨⟨P, _, rfl⟩, h0⟩ := hM
    exact jqP_in hm (decide_eq_true_iff.mp h0)
/-- for every rising list of one to four rows there is a tree as small as the partings -/
def jqAll : Prop := ∀ l : List Nat, l.Pairwise (· < ·) → 1 ≤ l.length → l.length ≤ 4 → (∀ x, x ∈ l → x < 16) → ∃ D, jqc l D = true
theorem jTr_4 (hA : jqAll) {t : Nat → Nat → Bool} {R C : Nat} {Ps Zs : List (Nat × Nat)} (hR1 : 1 ≤ R) (hR : R ≤ 4) (hC1 : 1 ≤ C) (hC : C ≤ 4) (h1 : ∀ r c, r < R → c < C → jct Ps r c = if t r c = true then 1 else 0) (h0 : ∀ r c, r < R → c < C → jct Zs r c = if t r c = true then 0 else 1) : jTr t (Ps.length + Zs.length) (fun r => decide (r < R)) (fun c => decide (c < C)) := by
  let rv : Nat → Nat := fun r => jmk 4 (fun c => t r (min c (C - 1)))
  have rvb : ∀ r c, c < 4 → (rv r).testBit c = t r (min c (C - 1)) := fun r c hc => by
    show (jmk 4 _).testBit c = _
    rw [jmk_bit, decide_eq_true hc, Bool.true_and]
  have rv16 : ∀ r, rv r < 16 := fun r => jmk_lt 4
  generalize rv = rv at rvb rv16
  have lm : ∀ x, x ∈ jsl rv R ↔ ∃ r, r < R ∧ rv r = x := fun x => jsl_mem R
  have ll := jsl_len (rv := rv) R
  have lu := jsl_up (rv := rv) R
  generalize jsl rv R = l at lm ll lu
  have l0 : rv 0 ∈ l := (lm _).mpr ⟨0, by omega, rfl⟩
  have l1 : 1 ≤ l.length := List.length_pos_of_mem l0
  have l16 : ∀ x, x ∈ l → x < 16 := fun x hx => by
    obtain ⟨r, _, e⟩ := (lm x).mp hx
    rw [← e]; exact rv16 r
  obtain ⟨D, hD⟩ := hA l lu l1 (by omega) l16
  obtain ⟨a, b, ha, hb, hT⟩ := jqc_ok hD
  have gm : ∀ i, i < l.length → l.getD i 0 ∈ l := fun i hi => by
    rw [List.getD_eq_getElem?_getD, List.getElem?_eq_getElem hi]
    exact List.getElem_mem hi
  have go : ∀ i, l.length ≤ i → l.getD i 0 = 0 := fun i hi => by
    rw [List.getD_eq_getElem?_getD, List.getElem?_eq_none hi]
    rfl
  have fb : ∀ i, i < l.length → jlst (fun r => rv r == l.getD i 0) R < R ∧ rv (jlst (fun r => rv r == l.getD i 0) R) = l.getD i 0 := fun i hi => by
    obtain ⟨r, r1, r2⟩ := (lm _).mp (gm i hi)
    obtain ⟨q1, q2, q3⟩ := jlst_le (p := fun r => rv r == l.getD i 0) R
    have lt : jlst (fun r => rv r == l.getD i 0) R < R := by
      rcases Nat.lt_or_ge (jlst (fun r => rv r == l.getD i 0) R) R with w | w
      · exact w
      · have := q3 r (by omega)
        rw [beq_eq_false_iff_ne] at this
        exact absurd r2 this
    exact ⟨lt, eq_of_beq (q2 lt)⟩
  obtain ⟨f, fb⟩ : ∃ f : Nat → Nat, ∀ i, i < l.length → f i < R ∧ rv (f i) = l.getD i 0 := ⟨_, fb⟩
  have c1 : ∀ c, min c (C - 1) < C := fun c => by omega
  have e1 := jqn_ct (f := f) (C := C) (Ps := Ps) (m := l.length) (by omega) ha (fun i c hc hi => by
    rw [jqL_bit l l16 i c hc, go i hi, Nat.zero_testBit]) (fun i c hi hc => by
    obtain ⟨f1, f2⟩ := fb i hi
    rw [jqL_bit l l16 i c hc, h1 _ _ f1 (c1 c), ← f2, rvb _ c hc])
  have e0 := jqn_ct (f := f) (C := C) (Ps := Zs) (m := l.length) (by omega) hb (fun i c hc hi => by
    rw [jqN_bit l l16 i c hc, decide_eq_false (by omega), Bool.false_and]) (fun i c hi hc => by
    obtain ⟨f1, f2⟩ := fb i hi
    rw [jqN_bit l l16 i c hc, h0 _ _ f1 (c1 c), ← f2, rvb _ c hc, decide_eq_true hi, Bool.true_and]
    cases t (f i) (min c (C - 1)) <;> rfl)
  refine jTr.pb (f := fun r => l.idxOf (rv r)) (g := fun c => c) (hT.mo _ (by omega)) _ _ (fun r hr => ?_) (fun c hc => ?_) (fun r c hr hc => ?_)
  · have hr := decide_eq_true_iff.mp hr
    exact decide_eq_true (List.idxOf_lt_length_of_mem ((lm _).mpr ⟨r, hr, rfl⟩))
  · have hc := decide_eq_true_iff.mp hc
    exact decide_eq_true (by omega)
  · have hr := decide_eq_true_iff.mp hr
    have hc := decide_eq_true_iff.mp hc
    have ii := List.idxOf_lt_length_of_mem ((lm (rv r)).mpr ⟨r, hr, rfl⟩)
    show t r c = (l.getD (l.idxOf (rv r)) 0).testBit c
    rw [List.getD_eq_getElem?_getD, List.getElem?_eq_getElem ii, Option.getD_some, List.getElem_idxOf ii, rvb r c (by omega), show min c (C - 1) = c by omega]

/-- a list of even blocks -/
def jEb (v : Nat → Int32) (R C : Nat) (Ps : List (Nat × Nat)) : Prop := ∀ P, P ∈ Ps → ∃ B, B < 1024 ∧ jeb v R C B = true ∧ P = (B / 32, B % 32)
theorem jp4_bit {R B r c : Nat} (hr : r < R) (hc : c < 4) : (jp4 R B).testBit (4 * r + c) = ((B / 32).testBit r && (B % 32).testBit c) := by
  unfold jp4
  rw [jmk_bit, decide_eq_true (by omega), Bool.true_and, show (4 * r + c) / 4 = r by omega, show (4 * r + c) % 4 = c by omega]
theorem jct_cons {P : Nat × Nat} {Ps : List (Nat × Nat)} {r c : Nat} : jct (P :: Ps) r c = jct Ps r c + if (P.1.testBit r && P.2.testBit c) = true then 1 else 0 := List.countP_cons
theorem jpn_ex {v : Nat → Int32} {R C : Nat} : ∀ n L, jpn v R C n L = true → ∃ Ps : List (Nat × Nat), Ps.length ≤ n ∧ jEb v R C Ps ∧ ∀ r c, r < R → c < 4 → jct Ps r c = if L.testBit (4 * r + c) = true then 1 else 0 := by
  have z : ∀ n, ∃ Ps : List (Nat × Nat), Ps.length ≤ n ∧ jEb v R C Ps ∧ ∀ r c, r < R → c < 4 → jct Ps r c = if (0 : Nat).testBit (4 * r + c) = true then 1 else 0 := fun n => ⟨[], Nat.zero_le _, fun P h => (by cases h), fun r c _ _ => by rw [Nat.zero_testBit]; rfl⟩
  intro n
  induction n with
  | zero =>
    intro L h
    have : L = 0 := eq_of_beq h
    subst this
    exact z 0
  | succ n ih =>
    intro L h
    rcases jpn_iff.mp h with e | ⟨B, hB, h1, h2, h3, h4⟩
    · subst e; exact z _
    · obtain ⟨Ps, p1, p2, p3⟩ := ih _ h4
      refine ⟨(B / 32, B % 32) :: Ps, Nat.succ_le_succ p1, fun P hP => ?_, fun r c hr hc => ?_⟩
      · rcases List.mem_cons.mp hP with w | w
        · exact ⟨B, hB, h1, w⟩
        · exact p2 P w
      · rw [jct_cons, p3 r c hr hc, jan_bit]
        have s := jan_sub.mp h2 (4 * r + c)
        have pb := jp4_bit (B := B) hr hc
        dsimp only
        rw [← pb]
        cases q : (jp4 R B).testBit (4 * r + c) with
        | true => rw [s q]; rfl
        | false => cases L.testBit (4 * r + c) <;> rfl
theorem jpn_of {v : Nat → Int32} {R C : Nat} (hR : R ≤ 4) : ∀ n (Ps : List (Nat × Nat)) (L : Nat), Ps.length ≤ n → L < 2 ^ (4 * R) → jEb v R C Ps → (∀ r c, r < R → c < 4 → jct Ps r c = if L.testBit (4 * r + c) = true then 1 else 0) → jpn v R C n L = true := by
  intro n
  induction n with
  | zero =>
    intro Ps L hl hL _ h
    have : Ps = [] := List.length_eq_zero_iff.mp (by omega)
    subst this
    have : L = 0 := by
      apply Nat.eq_of_testBit_eq
      intro i
      rw [Nat.zero_testBit]
      rcases Nat.lt_or_ge i (4 * R) with w | w
      · have := h (i / 4) (i % 4) (by omega) (by omega)
        rw [Nat.div_add_mod] at this
        cases q : L.testBit i with
        | false => rfl
        | true => rw [q] at this; cases this
      · exact Nat.testBit_lt_two_pow (Nat.lt_of_lt_of_le hL (Nat.pow_le_pow_right (by decide) w))
    rw [this]
    exact jpn_z
  | succ n ih =>
    intro Ps L hl hL hE h
    by_cases z : L = 0
    · rw [z]; exact jpn_z
    · have hL16 : L < 33554432 := Nat.lt_of_lt_of_le hL (Nat.le_trans (Nat.pow_le_pow_right (by decide) (show 4 * R ≤ 25 by omega)) (by decide))
      obtain ⟨o1, o2, _, _⟩ := jlo_ok (by omega) hL16
      have lo4 : jlo L < 4 * R := by
        rcases Nat.lt_or_ge (jlo L) (4 * R) with w | w
        · exact w
        · rw [Nat.testBit_lt_two_pow (Nat.lt_of_lt_of_le hL (Nat.pow_le_pow_right (by decide) w))] at o2
          cases o2
      have c1 := h (jlo L / 4) (jlo L % 4) (by omega) (by omega)
      rw [Nat.div_add_mod, o2, if_pos rfl] at c1
      obtain ⟨P, hP, hp⟩ := List.countP_pos_iff.mp (show 0 < Ps.countP _ by unfold jct at c1; rw [c1]; exact Nat.one_pos)
      obtain ⟨B, hB, he, eP⟩ := hE P hP
      have pm := List.perm_cons_erase hP
      have ct : ∀ r c, jct Ps r c = jct (Ps.erase P) r c + if (P.1.testBit r && P.2.testBit c) = true then 1 else 0 := fun r c => by
        rw [← jct_cons]
        exact pm.countP_eq _
      have le := List.length_erase_of_mem hP
      have l0 := List.length_pos_of_mem hP
      have bt : ∀ i, (jp4 R B).testBit i = true → ∃ r c, r < R ∧ c < 4 ∧ i = 4 * r + c ∧ (P.1.testBit r && P.2.testBit c) = true := fun i hi => by
        have w : i < 4 * R := by
          rcases Nat.lt_or_ge i (4 * R) with w | w
          · exact w
          · unfold jp4 at hi
            rw [jmk_bit, decide_eq_false (by omega)] at hi
            cases hi
        refine ⟨i / 4, i % 4, by omega, by omega, (Nat.div_add_mod i 4).symm, ?_⟩
        rw [eP]
        dsimp only
        rw [← jp4_bit (R := R) (by omega) (by omega), Nat.div_add_mod]
        exact hi
      refine jpn_iff.mpr (Or.inr ⟨B, hB, he, jan_sub.mpr (fun i hi => ?_), ?_, ih (Ps.erase P) _ (by omega) (jan_lt hL) (fun Q hQ => hE Q (List.mem_of_mem_erase hQ)) (fun r c hr hc => ?_)⟩)
      · obtain ⟨r, c, hr, hc, e, hb⟩ := bt i hi
        have k1 := ct r c
        rw [if_pos hb, h r c hr hc, ← e] at k1
        cases q : L.testBit i with
        | true => rfl
        | false => rw [q, if_neg (by decide)] at k1; omega
      · rw [← Nat.div_add_mod (jlo L) 4, jp4_bit (by omega) (by omega)]
        rw [eP] at hp
        exact hp
      · have k1 := ct r c
        rw [h r c hr hc] at k1
        rw [jan_bit, jp4_bit hr hc]
        rw [show P.1 = B / 32 by rw [eP], show P.2 = B % 32 by rw [eP]] at k1
        revert k1
        cases L.testBit (4 * r + c) <;> cases ((B / 32).testBit r && (B % 32).testBit c) <;> intro k1 <;> simp at k1 ⊢ <;> omega
theorem jsx : ∀ x, x < 32 → ∀ s, s < 32 → jpt x s = true → s &&& x = s := by decide +kernel
theorem jxs_bit {x s i : Nat} (h : s &&& x = s) : (x ^^^ s).testBit i = (x.testBit i && !s.testBit i) ∧ (s.testBit i = true → x.testBit i = true) := by
  have w := jq_sub.mp h i
  rw [Nat.testBit_xor]
  cases q : s.testBit i with
  | true => rw [w q]; exact ⟨rfl, fun _ => rfl⟩
  | false => exact ⟨by cases x.testBit i <;> rfl, fun z => (by cases z)⟩
/-- the ends of a best tree part the block -/
theorem jfe_pt {v : Nat → Int32} {R C : Nat} (hR : R ≤ 5) (hC : C ≤ 5) : ∀ n B, B < n → jblk R C B = true → ∃ Ps : List (Nat × Nat), Ps.length ≤ jfe v R C B ∧ jEb v R C Ps ∧ ∀ r c, jct Ps r c = if ((B / 32).testBit r && (B % 32).testBit c) = true then 1 else 0 := by
  have p1 := jp2 _ hR
  have p2 := jp2 _ hC
  intro n
  induction n with
  | zero => intro B hB; omega
  | succ n ih =>
    intro B hBn hb
    have hb' := jblk_iff.mp hb
    have hB : B < 1024 := by omega
    have h25 := jfe_25 (v := v) hR hC hb
    by_cases he : jev v R C B = true
    · refine ⟨[(B / 32, B % 32)], ?_, fun P hP => ⟨B, hB, ?_, List.mem_singleton.mp hP⟩, fun r c => ?_⟩
      · unfold jfe
        rw [jbt_eq hB, if_pos he]
        exact Nat.le_refl _
      · unfold jeb
        rw [hb, he]; rfl
      · rw [jct_cons, show jct [] r c = 0 from rfl, Nat.zero_add]
    · have join : ∀ B1 B2, B1 < B → B2 < B → jblk R C B1 = true → jblk R C B2 = true → jfe v R C B = jfe v R C B1 + jfe v R C B2 → (∀ r c, ((if ((B1 / 32).testBit r && (B1 % 32).testBit c) = true then 1 else 0) + if ((B2 / 32).testBit r && (B2 % 32).testBit c) = true then 1 else 0) = if ((B / 32).testBit r && (B % 32).testBit c) = true then 1 else 0) → ∃ Ps : List (Nat × Nat), Ps.length ≤ jfe v R C B ∧ jEb v R C Ps ∧ ∀ r c, jct Ps r c = if ((B / 32).testBit r && (B % 32).testBit c) = true then 1 else 0 := by
        intro B1 B2 l1 l2 b1 b2 e hs
        obtain ⟨P1, q1, q2, q3⟩ := ih B1 (by omega) b1
        obtain ⟨P2, q4, q5, q6⟩ := ih B2 (by omega) b2
        refine ⟨P1 ++ P2, by rw [List.length_append]; omega, fun P hP => ?_, fun r c => ?_⟩
        · rcases List.mem_append.mp hP with w | w
          · exact q2 P w
          · exact q5 P w
        · rw [← hs r c, ← q3 r c, ← q6 r c]
          exact List.countP_append
      have eq := jbt_eq (f := fun a b => a + b) (ev := jev v R C) (lo := 1) (hi := 1000) hB
      rw [if_neg he] at eq
      rcases jbst_att (f := fun a b => a + b) (T := jbt (fun a b => a + b) (jev v R C) 1 1000) (x := B / 32) (y := B % 32) (hi := 1000) 32 with w | ⟨s, hs, ⟨w1, w2⟩ | ⟨w1, w2⟩⟩
      · unfold jfe at h25
        omega
      · rw [← eq] at w2
        have k := jpt_lt (B / 32) (by omega) s hs w1
        have k2 := jsx (B / 32) (by omega) s hs w1
        have e1 : (32 * (B / 32 ^^^ s) + B % 32) / 32 = B / 32 ^^^ s := by omega
        have e2 : (32 * (B / 32 ^^^ s) + B % 32) % 32 = B % 32 := by omega
        have e3 : (32 * s + B % 32) / 32 = s := by omega
        have e4 : (32 * s + B % 32) % 32 = B % 32 := by omega
        refine join (32 * (B / 32 ^^^ s) + B % 32) (32 * s + B % 32) (by omega) (by omega) (jblk_iff.mpr (by rw [e1, e2]; omega)) (jblk_iff.mpr (by rw [e3, e4]; omega)) w2 (fun r c => ?_)
        obtain ⟨b1, b2⟩ := jxs_bit (i := r) k2
        rw [e1, e2, e3, e4, b1]
        cases q : s.testBit r with
        | true => rw [b2 q]; cases (B % 32).testBit c <;> rfl
        | false => cases (B % 32).testBit c <;> cases (B / 32).testBit r <;> rfl
      · rw [← eq] at w2
        have k := jpt_lt (B % 32) (by omega) s hs w1
        have k2 := jsx (B % 32) (by omega) s hs w1
        have e1 : (32 * (B / 32) + (B % 32 ^^^ s)) / 32 = B / 32 := by omega
        have e2 : (32 * (B / 32) + (B % 32 ^^^ s)) % 32 = B % 32 ^^^ s := by omega
        have e3 : (32 * (B / 32) + s) / 32 = B / 32 := by omega
        have e4 : (32 * (B / 32) + s) % 32 = s := by omega
        refine join (32 * (B / 32) + (B % 32 ^^^ s)) (32 * (B / 32) + s) (by omega) (by omega) (jblk_iff.mpr (by rw [e1, e2]; omega)) (jblk_iff.mpr (by rw [e3, e4]; omega)) w2 (fun r c => ?_)
        obtain ⟨b1, b2⟩ := jxs_bit (i := c) k2
        rw [e1, e2, e3, e4, b1]
        cases q : s.testBit c with
        | true => rw [b2 q]; cases (B / 32).testBit r <;> rfl
        | false => cases (B % 32).testBit c <;> cases (B / 32).testBit r <;> rfl
theorem jpt_or' : jall 32 (fun x => jall 32 fun s => (s == 0) || !(s &&& x == s) || (s == x) || ((jpt x s || jpt x (x ^^^ s)) && ((x ^^^ (x ^^^ s) == s) && (Nat.blt (x ^^^ s) 32 && (Nat.blt 0 (x ^^^ s) && (Nat.ble (x ^^^ s) x && Nat.ble s x)))))) = true := by decide +kernel
theorem jpt_or (x : Nat) (hx : x < 32) (s : Nat) (hs : s < 32) (h0 : s ≠ 0) (h1 : s &&& x = s) (h2 : s ≠ x) : (jpt x s = true ∨ jpt x (x ^^^ s) = true) ∧ x ^^^ (x ^^^ s) = s ∧ x ^^^ s < 32 ∧ 0 < x ^^^ s ∧ x ^^^ s ≤ x ∧ s ≤ x := by
  have k := jall_iff.mp (jall_iff.mp jpt_or' x hx) s hs
  rw [beq_false_of_ne h0, beq_false_of_ne h2, h1, beq_self_eq_true, Bool.not_true, Bool.or_false, Bool.or_false, Bool.false_or, Bool.and_eq_true, Bool.and_eq_true, Bool.and_eq_true, Bool.and_eq_true, Bool.and_eq_true, Bool.or_eq_true] at k
  obtain ⟨k1, k2, k3, k4, k5, k6⟩ := k
  exact ⟨k1, eq_of_beq k2, Nat.le_of_ble_eq_true k3, Nat.le_of_ble_eq_true k4, Nat.le_of_ble_eq_true k5, Nat.le_of_ble_eq_true k6⟩
/-- the fewest ends are no more than a tree's -/
theorem jfe_tr {v : Nat → Int32} {R C : Nat} {t : Nat → Nat → Bool} (hR : R ≤ 5) (hC : C ≤ 5) (h1 : ∀ r c, r < R → c < C → t r c = true → v (5 * r + c) ≠ nI 0) (h0 : ∀ r c, r < R → c < C → t r c = false → v (5 * r + c) ≠ nI 1) {n : Nat} {X Y : Nat → Bool} (h : jTr t n X Y) : 1 ≤ n ∧ ∀ x y, 0 < x → x < 2 ^ R → 0 < y → y < 2 ^ C → (∀ r, x.testBit r = true → X r = true) → (∀ c, y.testBit c = true → Y c = true) → jfe v R C (32 * x + y) ≤ n := by
  have p1 := jp2 _ hR
  have p2 := jp2 _ hC
  refine h (fun n X Y => 1 ≤ n ∧ ∀ x y, 0 < x → x < 2 ^ R → 0 < y → y < 2 ^ C → (∀ r, x.testBit r = true → X r = true) → (∀ c, y.testBit c = true → Y c = true) → jfe v R C (32 * x + y) ≤ n) ?_ ?_ ?_
  · intro n X Y b hn hb
    refine ⟨hn, fun x y x0 x1 y0 y1 hX hY => ?_⟩
    have he : jev v R C (32 * x + y) = true := by
      rw [jev_iff, jhz_iff, jhz_iff, show (32 * x + y) / 32 = x by omega, show (32 * x + y) % 32 = y by omega]
      rintro ⟨⟨r, c, a1, a2, a3, a4, a5⟩, ⟨r', c', b1, b2, b3, b4, b5⟩⟩
      have t1 := hb r c (hX r a3) (hY c a4)
      have t2 := hb r' c' (hX r' b3) (hY c' b4)
      cases b with
      | true => exact h1 r c a1 a2 t1 a5
      | false => exact h0 r' c' b1 b2 t2 b5
    unfold jfe
    rw [jbt_eq (by omega), if_pos he]
    exact hn
  · intro n m X Y Z ⟨n1, i1⟩ ⟨m1, i2⟩
    refine ⟨by omega, fun x y x0 x1 y0 y1 hX hY => ?_⟩
    have x32 : x < 32 := by omega
    have sb : ∀ r, (jmk 5 fun r => x.testBit r && Z r).testBit r = (x.testBit r && Z r) := fun r => by
      rw [jmk_bit]
      rcases Nat.lt_or_ge r 5 with w | w
      · rw [decide_eq_true w, Bool.true_and]
      · rw [Nat.testBit_lt_two_pow (Nat.lt_of_lt_of_le x32 (Nat.pow_le_pow_right (n := 2) (by decide) w)), Bool.false_and, Bool.and_false]
    have s32 : (jmk 5 fun r => x.testBit r && Z r) < 32 := jmk_lt 5
    generalize (jmk 5 fun r => x.testBit r && Z r) = s at sb s32
    have ss : s &&& x = s := jq_sub.mpr (fun i hi => by rw [sb, Bool.and_eq_true] at hi; exact hi.1)
    by_cases z0 : s = 0
    · have := i2 x y x0 x1 y0 y1 (fun r hr => by
        have := sb r
        rw [z0, Nat.zero_testBit, hr, Bool.true_and] at this
        show (X r && !Z r) = true
        rw [hX r hr, ← this]; rfl) hY
      omega
    · by_cases z1 : s = x
      · have := i1 x y x0 x1 y0 y1 (fun r hr => by
          have := sb r
          rw [z1, hr, Bool.true_and] at this
          show (X r && Z r) = true
          rw [hX r hr, ← this]; rfl) hY
        omega
      · obtain ⟨k1, k2, k3, k4, k5, k6⟩ := jpt_or x x32 s s32 z0 ss z1
        have j1 := i1 s y (by omega) (by omega) y0 y1 (fun r hr => by
          rw [sb, Bool.and_eq_true] at hr
          show (X r && Z r) = true
          rw [hX r hr.1, hr.2]; rfl) hY
        have j2 := i2 (x ^^^ s) y k4 (by omega) y0 y1 (fun r hr => by
          rw [(jxs_bit ss).1, sb, Bool.and_eq_true] at hr
          show (X r && !Z r) = true
          rw [hX r hr.1]
          have := hr.2
          rw [hr.1, Bool.true_and] at this
          rw [this]; rfl) hY
        have eq := jbt_eq (f := fun a b => a + b) (ev := jev v R C) (lo := 1) (hi := 1000) (B := 32 * x + y) (by omega)
        rw [show (32 * x + y) / 32 = x by omega, show (32 * x + y) % 32 = y by omega] at eq
        unfold jfe at j1 j2 ⊢
        rw [eq]
        split
        · omega
        · rcases k1 with k1 | k1
          · have := jbst_cutx (f := fun a b => a + b) (T := jbt (fun a b => a + b) (jev v R C) 1 1000) (y := y) (hi := 1000) k1 32 s32
            omega
          · have := jbst_cutx (f := fun a b => a + b) (T := jbt (fun a b => a + b) (jev v R C) 1 1000) (y := y) (hi := 1000) k1 32 k3
            rw [k2] at this
            omega
  · intro n m X Y Z ⟨n1, i1⟩ ⟨m1, i2⟩
    refine ⟨by omega, fun x y x0 x1 y0 y1 hX hY => ?_⟩
    have y32 : y < 32 := by omega
    have sb : ∀ r, (jmk 5 fun r => y.testBit r && Z r).testBit r = (y.testBit r && Z r) := fun r => by
      rw [jmk_bit]
      rcases Nat.lt_or_ge r 5 with w | w
      · rw [decide_eq_true w, Bool.true_and]
      · rw [Nat.testBit_lt_two_pow (Nat.lt_of_lt_of_le y32 (Nat.pow_le_pow_right (n := 2) (by decide) w)), Bool.false_and, Bool.and_false]
    have s32 : (jmk 5 fun r => y.testBit r && Z r) < 32 := jmk_lt 5
    generalize (jmk 5 fun r => y.testBit r && Z r) = s at sb s32
    have ss : s &&& y = s := jq_sub.mpr (fun i hi => by rw [sb, Bool.and_eq_true] at hi; exact hi.1)
    by_cases z0 : s = 0
    · have := i2 x y x0 x1 y0 y1 hX (fun r hr => by
        have := sb r
        rw [z0, Nat.zero_testBit, hr, Bool.true_and] at this
        show (Y r && !Z r) = true
        rw [hY r hr, ← this]; rfl)
      omega
    · by_cases z1 : s = y
      · have := i1 x y x0 x1 y0 y1 hX (fun r hr => by
          have := sb r
          rw [z1, hr, Bool.true_and] at this
          show (Y r && Z r) = true
          rw [hY r hr, ← this]; rfl)
        omega
      · obtain ⟨k1, k2, k3, k4, k5, k6⟩ := jpt_or y y32 s s32 z0 ss z1
        have j1 := i1 x s x0 x1 (by omega) (by omega) hX (fun r hr => by
          rw [sb, Bool.and_eq_true] at hr
          show (Y r && Z r) = true
          rw [hY r hr.1, hr.2]; rfl)
        have j2 := i2 x (y ^^^ s) x0 x1 k4 (by omega) hX (fun r hr => by
          rw [(jxs_bit ss).1, sb, Bool.and_eq_true] at hr
          show (Y r && !Z r) = true
          rw [hY r hr.1]
          have := hr.2
          rw [hr.1, Bool.true_and] at this
          rw [this]; rfl)
        have eq := jbt_eq (f := fun a b => a + b) (ev := jev v R C) (lo := 1) (hi := 1000) (B := 32 * x + y) (by omega)
        rw [show (32 * x + y) / 32 = x by omega, show (32 * x + y) % 32 = y by omega] at eq
        unfold jfe at j1 j2 ⊢
        rw [eq]
        split
        · omega
        · rcases k1 with k1 | k1
          · have := jbst_cuty (f := fun a b => a + b) (T := jbt (fun a b => a + b) (jev v R C) 1 1000) (x := x) (hi := 1000) k1 32 s32
            omega
          · have := jbst_cuty (f := fun a b => a + b) (T := jbt (fun a b => a + b) (jev v R C) 1 1000) (x := x) (hi := 1000) k1 32 k3
            rw [k2] at this
            omega

theorem jflt {α : Type} {co : α → Bool} : ∀ l : List α, l.length = (l.filter co).length + (l.filter fun P => !co P).length := by
  intro l
  induction l with
  | nil => rfl
  | cons a r ih =>
    rw [List.filter_cons, List.filter_cons, List.length_cons]
    cases co a with
    | true => rw [if_pos rfl, if_neg (by decide), List.length_cons]; omega
    | false => rw [if_neg (by decide), if_pos (by decide), List.length_cons]; omega
theorem jPart_of (hA : jqAll) : jPart := by
  intro v R C hR1 hR hC1 hC hV
  have p1 := jp2 R (by omega)
  have p2 := jp2 C (by omega)
  have q1 : 2 ≤ 2 ^ R := Nat.le_trans (show 2 ≤ 2 ^ 1 by decide) (Nat.pow_le_pow_right (by decide) hR1)
  have q2 : 2 ≤ 2 ^ C := Nat.le_trans (show 2 ≤ 2 ^ 1 by decide) (Nat.pow_le_pow_right (by decide) hC1)
  have eB : jalB R C = 32 * (2 ^ R - 1) + (2 ^ C - 1) := by unfold jalB; omega
  have b1 : jalB R C / 32 = 2 ^ R - 1 := by omega
  have b2 : jalB R C % 32 = 2 ^ C - 1 := by omega
  have hb : jblk R C (jalB R C) = true := jblk_iff.mpr (by omega)
  have wb : ∀ r c, r < R → c < 4 → (jw4 R C).testBit (4 * r + c) = decide (c < C) := fun r c hr hc => by
    unfold jw4
    rw [jmk_bit, decide_eq_true (by omega), Bool.true_and, show (4 * r + c) % 4 = c by omega]
  obtain ⟨l1, l2, l3⟩ := jlst_le (p := fun n => jpn v R C n (jw4 R C)) 100
  apply Nat.le_antisymm
  · obtain ⟨Ps, a1, a2, a3⟩ := jfe_pt (v := v) (R := R) (C := C) (by omega) (by omega) 1024 (jalB R C) (by omega) hb
    have k := jpn_of hR (jfe v R C (jalB R C)) Ps (jw4 R C) a1 (jmk_lt _) a2 (fun r c hr hc => by
      rw [a3 r c, b1, b2, wb r c hr hc, Nat.testBit_two_pow_sub_one, Nat.testBit_two_pow_sub_one, decide_eq_true hr, Bool.true_and])
    rcases Nat.lt_or_ge (jfe v R C (jalB R C)) (jps v R C (jw4 R C)) with w | w
    · have := l3 _ w
      rw [k] at this
      cases this
    · exact w
  · rcases Nat.lt_or_ge (jps v R C (jw4 R C)) 100 with w | w
    · obtain ⟨Ps, a1, a2, a3⟩ := jpn_ex _ _ (l2 w)
      have c1 : ∀ r c, r < R → c < C → jct Ps r c = 1 := fun r c hr hc => by
        rw [a3 r c hr (by omega), wb r c hr (by omega), decide_eq_true hc, if_pos rfl]
      let co : Nat × Nat → Bool := fun P => !jhz v R C (32 * P.1 + P.2) (nI 0)
      have hco : ∀ P, co P = !jhz v R C (32 * P.1 + P.2) (nI 0) := fun P => rfl
      generalize co = co at hco
      have sm : ∀ r c, jct Ps r c = jct (Ps.filter co) r c + jct (Ps.filter fun P => !co P) r c := fun r c => List.countP_eq_countP_filter_add _ _ _
      have ln : Ps.length = (Ps.filter co).length + (Ps.filter fun P => !co P).length := jflt Ps
      have a1' : Ps.length ≤ jps v R C (jw4 R C) := a1
      have tt : ∀ r c, decide (0 < jct (Ps.filter co) r c) = true → ∃ P, P ∈ Ps ∧ co P = true ∧ P.1.testBit r = true ∧ P.2.testBit c = true := fun r c h => by
        obtain ⟨P, h1, h2⟩ := List.countP_pos_iff.mp (decide_eq_true_iff.mp h)
        rw [Bool.and_eq_true] at h2
        obtain ⟨h3, h4⟩ := List.mem_filter.mp h1
        exact ⟨P, h3, h4, h2.1, h2.2⟩
      have tz : ∀ r c, 0 < jct (Ps.filter fun P => !co P) r c → ∃ P, P ∈ Ps ∧ co P = false ∧ P.1.testBit r = true ∧ P.2.testBit c = true := fun r c h => by
        obtain ⟨P, h1, h2⟩ := List.countP_pos_iff.mp h
        rw [Bool.and_eq_true] at h2
        obtain ⟨h3, h4⟩ := List.mem_filter.mp h1
        rw [Bool.not_eq_true'] at h4
        exact ⟨P, h3, h4, h2.1, h2.2⟩
      have tr := jTr_4 hA (t := fun r c => decide (0 < jct (Ps.filter co) r c)) (Ps := Ps.filter co) (Zs := Ps.filter fun P => !co P) hR1 hR hC1 hC (fun r c hr hc => by
        have s1 := sm r c
        rw [c1 r c hr hc] at s1
        by_cases z : 0 < jct (Ps.filter co) r c
        · rw [if_pos (decide_eq_true z)]; omega
        · rw [if_neg (by rw [decide_eq_false z]; decide)]; omega) (fun r c hr hc => by
        have s1 := sm r c
        rw [c1 r c hr hc] at s1
        by_cases z : 0 < jct (Ps.filter co) r c
        · rw [if_pos (decide_eq_true z)]; omega
        · rw [if_neg (by rw [decide_eq_false z]; decide)]; omega)
      have fin := (jfe_tr (v := v) (R := R) (C := C) (by omega) (by omega) (fun r c hr hc ht hv => by
        obtain ⟨P, hP, hc1, hx, hy⟩ := tt r c ht
        obtain ⟨B, hB, he, eP⟩ := a2 P hP
        have e1 : P.1 = B / 32 := by rw [eP]
        have e2 : P.2 = B % 32 := by rw [eP]
        rw [hco, e1, e2, Nat.div_add_mod] at hc1
        rw [e1] at hx
        rw [e2] at hy
        rw [jhz_iff.mpr ⟨r, c, hr, hc, hx, hy, hv⟩] at hc1
        cases hc1) (fun r c hr hc ht hv => by
        have ht := decide_eq_false_iff_not.mp ht
        have s1 := sm r c
        rw [c1 r c hr hc] at s1
        obtain ⟨P, hP, hc1, hx, hy⟩ := tz r c (by omega)
        obtain ⟨B, hB, he, eP⟩ := a2 P hP
        have e1 : P.1 = B / 32 := by rw [eP]
        have e2 : P.2 = B % 32 := by rw [eP]
        rw [hco, e1, e2, Nat.div_add_mod, Bool.not_eq_false'] at hc1
        rw [e1] at hx
        rw [e2] at hy
        unfold jeb at he
        rw [Bool.and_eq_true] at he
        exact jev_iff.mp he.2 ⟨hc1, jhz_iff.mpr ⟨r, c, hr, hc, hx, hy, hv⟩⟩) tr).2 (2 ^ R - 1) (2 ^ C - 1) (by omega) (by omega) (by omega) (by omega) (fun r hr => by
        rw [Nat.testBit_two_pow_sub_one] at hr; exact hr) (fun c hc => by
        rw [Nat.testBit_two_pow_sub_one] at hc; exact hc)
      rw [eB]
      omega
    · have := jfe_25 (v := v) (R := R) (C := C) (by omega) (by omega) hb
      omega
end PART4
