/-! ===== what holds at the first call ===== -/
section START3
variable {h : jxH}
theorem nI_bv (x : Int32) : nI x.toBitVec.toNat = x := by
  refine Int32.toInt_inj.mp ?_
  have q : ∀ y : Int32, y.toInt = Int.bmod y.toBitVec.toNat (2 ^ 32) := fun y => BitVec.toInt_eq_toNat_bmod _
  rw [q, q]
  congr 2
  show (BitVec.ofNat 32 x.toBitVec.toNat).toNat = _
  rw [BitVec.toNat_ofNat]
  have := x.toBitVec.isLt
  omega
theorem jcl_lt {o c : Nat} (e : jcl o = some c) : o < 182 := by
  unfold jcl at e
  split at e
  · omega
  · split at e <;> first | decide | cases e
theorem jln_lt {o c : Nat} (e : jln o = some c) : o < 182 := by
  unfold jln at e
  split at e
  · omega
  · split at e <;> first | decide | cases e
theorem jkd_lt {o k : Nat} {x : Option Nat} (e : jkd o k = some x) : k < 40 := by
  unfold jkd at e
  split at e
  · split at e
    · split at e <;> first | decide | cases e
    · cases e
  · split at e <;> first | (have w := (List.getElem?_eq_some_iff.mp e).1; exact Nat.lt_of_lt_of_le w (by decide)) | cases e
theorem jkR_R (e : jkR h = true) : jR (jzF h) (jzA h) (jzG h) (jzg h) h := by
  unfold jkR at e
  simp only [Bool.and_eq_true] at e
  obtain ⟨e1, e2, e3, e4, e5, e6, e7⟩ := e
  have e1' := jall_iff.mp e1
  have e2' := jall_iff.mp e2
  have r3 : ∀ {a t n b s : Nat}, jk3 h a t n b s = true → ∃ r', jx_ar h a t = some (n, r') ∧ ∀ i, i < n → r' i = some (b + s * i) := by
    intro a t n b s q
    unfold jk3 at q
    cases z : jx_ar h a t with
    | none => rw [z] at q; cases q
    | some x =>
      rw [z] at q
      simp only [Bool.and_eq_true] at q
      have q1 := Nat.eq_of_beq_eq_true q.1
      refine ⟨x.2, by rw [← q1], fun i hi => ?_⟩
      have q2 := jall_iff.mp q.2 i hi
      cases w : x.2 i with
      | none => rw [w] at q2; cases q2
      | some y =>
        rw [w] at q2
        rw [Nat.eq_of_beq_eq_true q2]
  refine ⟨fun o c k hc => ?_, fun a n ha => ?_, fun a t n r hr => ?_, ?_, ?_⟩
  · have q := e1' o (jcl_lt hc)
    unfold jk1 at q
    rw [hc] at q
    dsimp only at q
    cases z : h.2.2 o with
    | inl y => rw [z] at q; cases q
    | inr y =>
      obtain ⟨c', fs⟩ := y
      rw [z] at q
      simp only [Bool.and_eq_true] at q
      have q1 := Nat.eq_of_beq_eq_true q.1
      subst q1
      have q2 := jall_iff.mp q.2
      have fl : jx_fl h o c' k = fs[k]? := by
        unfold jx_fl
        rw [z]
        exact if_pos rfl
      rw [fl]
      constructor
      · intro hk
        have q3 := q2 k (jkd_lt hk)
        rw [hk] at q3
        dsimp only at q3
        split at q3
        · next x hx =>
          rw [hx]
          unfold jzF
          rw [z]
          dsimp only
          rw [hx]
          dsimp only
          rw [nI_bv]
        · cases q3
      · intro a hk
        have q3 := q2 k (jkd_lt hk)
        rw [hk] at q3
        dsimp only at q3
        split at q3
        · next b hx =>
          rw [hx, Nat.eq_of_beq_eq_true q3]
        · cases q3
  · have q := e2' a (jln_lt ha)
    unfold jk2 at q
    rw [ha] at q
    dsimp only at q
    cases z : jx_ai h a with
    | none => rw [z] at q; cases q
    | some x =>
      rw [z] at q
      dsimp only at q
      have q1 := Nat.eq_of_beq_eq_true q
      subst q1
      congr 1
      refine Prod.ext rfl ?_
      show x.2 = jzA h a
      unfold jx_ai at z
      unfold jzA
      split at z
      · next n f w => rw [w]; cases z; rfl
      · cases z
  · unfold jrf at hr
    split at hr
    · cases hr
      obtain ⟨r', q1, q2⟩ := r3 e3
      exact ⟨r', q1, fun i hi => by rw [q2 i hi, if_pos hi]⟩
    · cases hr
      obtain ⟨r', q1, q2⟩ := r3 e4
      exact ⟨r', q1, fun i hi => by rw [q2 i hi, if_pos hi]⟩
    · cases hr
      obtain ⟨r', q1, q2⟩ := r3 e5
      exact ⟨r', q1, fun i hi => by rw [q2 i hi, if_pos hi, Nat.one_mul]⟩
    · cases hr
      obtain ⟨r', q1, q2⟩ := r3 e6
      exact ⟨r', q1, fun i hi => by rw [q2 i hi, if_pos hi, Nat.one_mul]⟩
    · cases hr
  · unfold jk4 at e7
    rw [Bool.and_eq_true] at e7
    have q := e7.1
    unfold jzG
    cases z : jx_ar h 5 2 with
    | none => rw [z] at q; cases q
    | some x =>
      rw [z] at q
      have q1 := Nat.eq_of_beq_eq_true q
      rw [← q1]
  · unfold jk4 at e7
    rw [Bool.and_eq_true] at e7
    have q := e7.2
    unfold jzg
    cases z : jx_al h 171 with
    | none => rw [z] at q; cases q
    | some x =>
      rw [z] at q
      have q1 := Nat.eq_of_beq_eq_true q
      rw [← q1]
end START3
