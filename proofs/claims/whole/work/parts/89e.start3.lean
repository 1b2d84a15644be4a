/-! ===== what holds at the first call ===== -/
section START3
variable {h : jxH}
theorem nI_bv (x : Int32) : nI x.toBitVec.toNat = x := by
  refine Int32.toInt_inj.mp ?_
  have q : ∀ y : Int32, y.toInt = Int.bmod y.toBitVec.toNat (2 ^ 32) := fun y => BitVec.toInt_eq_toNat_bmod _
  rw [q, q]
  congr 2
  show (BitVec.ofNat 32 x.toBitVec.toNat).toNat = _
  rw [BitVec.toNat_ofNat]
  have := x.toBitVec.isLt
  omega
theorem jcl_l2 {o c : Nat} (e : jcl o = some c) : o < 182 := by
  unfold jcl at e
  split at e
  · omega
  · split at e <;> first | decide | cases e
theorem jln_l2 {o c : Nat} (e : jln o = some c) : o < 182 := by
  unfold jln at e
  split at e
  · omega
  · split at e <;> first | decide | cases e
theorem jkd_lt {o k : Nat} {x : Option Nat} (e : jkd o k = some x) : k < 40 := by
  unfold jkd at e
  split at e
  · split at e
    · split at e <;> first | decide | cases e
    · cases e
  · split at e <;> first | (have w := (List.getElem?_eq_some_iff.mp e).1; exact Nat.lt_of_lt_of_le w (by decide)) | cases e
theorem jkR_R (e : jkR h = true) : jR (jzF h) (jzA h) (jzG h) (jzg h) h := by
  unfold jkR at e
  simp only [Bool.and_eq_true] at e
  obtain ⟨e1, e2, e3, e4, e5, e6, e7⟩ := e
  have e1' := jall_iff.mp e1
  have e2' := jall_iff.mp e2
  have r3 : ∀ {a t n b s : Nat}, jk3 h a t n b s = true → ∃ r', jx_ar h a t = some (n, r') ∧ ∀ i, i < n → r' i = some (b + s * i) := by
    intro a t n b s q
    unfold jk3 at q
    cases z : jx_ar h a t with
    | none => rw [z] at q; cases q
    | some x =>
      rw [z] at q
      simp only [Bool.and_eq_true] at q
      have q1 := Nat.eq_of_beq_eq_true q.1
      refine ⟨x.2, by rw [← q1], fun i hi => ?_⟩
      have q2 := jall_iff.mp q.2 i hi
      cases w : x.2 i with
      | none => rw [w] at q2; cases q2
      | some y =>
        rw [w] at q2
        rw [Nat.eq_of_beq_eq_true q2]
  refine ⟨fun o c k hc => ?_, fun a n ha => ?_, fun a t n r hr => ?_, ?_, ?_⟩
  · have q := e1' o (jcl_l2 hc)
    unfold jk1 at q
    rw [hc] at q
    dsimp only at q
    cases z : h.2.2 o with
    | inl y => rw [z] at q; cases q
    | inr y =>
      obtain ⟨c', fs⟩ := y
      rw [z] at q
      simp only [Bool.and_eq_true] at q
      have q1 := Nat.eq_of_beq_eq_true q.1
      subst q1
      have q2 := jall_iff.mp q.2
      have fl : jx_fl h o c' k = fs[k]? := by
        unfold jx_fl
        rw [z]
        exact if_pos rfl
      rw [fl]
      constructor
      · intro hk
        have q3 := q2 k (jkd_lt hk)
        rw [hk] at q3
        dsimp only at q3
        split at q3
        · next x hx =>
          rw [hx]
          unfold jzF
          rw [z]
          dsimp only
          rw [hx]
          dsimp only
          rw [nI_bv]
        · cases q3
      · intro a hk
        have q3 := q2 k (jkd_lt hk)
        rw [hk] at q3
        dsimp only at q3
        split at q3
        · next b hx =>
          rw [hx, Nat.eq_of_beq_eq_true q3]
        · cases q3
  · have q := e2' a (jln_l2 ha)
    unfold jk2 at q
    rw [ha] at q
    dsimp only at q
    cases z : jx_ai h a with
    | none => rw [z] at q; cases q
    | some x =>
      rw [z] at q
      dsimp only at q
      have q1 := Nat.eq_of_beq_eq_true q
      subst q1
      have xa : x.2 = jzA h a := by
        unfold jx_ai at z
        unfold jzA
        split at z
        · next n f w => rw [w]; cases z; rfl
        · cases z
      rw [← xa]
  · unfold jrf at hr
    split at hr
    · cases hr
      obtain ⟨r', q1, q2⟩ := r3 e3
      exact ⟨r', q1, fun i hi => by dsimp only; rw [q2 i hi, if_pos hi]⟩
    · cases hr
      obtain ⟨r', q1, q2⟩ := r3 e4
      exact ⟨r', q1, fun i hi => by dsimp only; rw [q2 i hi, if_pos hi]⟩
    · cases hr
      obtain ⟨r', q1, q2⟩ := r3 e5
      exact ⟨r', q1, fun i hi => by dsimp only; rw [q2 i hi, if_pos hi, Nat.one_mul]⟩
    · cases hr
      obtain ⟨r', q1, q2⟩ := r3 e6
      exact ⟨r', q1, fun i hi => by dsimp only; rw [q2 i hi, if_pos hi, Nat.one_mul]⟩
    · cases hr
  · unfold jk4 at e7
    rw [Bool.and_eq_true] at e7
    have q := e7.1
    unfold jzG
    cases z : jx_ar h 5 2 with
    | none => rw [z] at q; cases q
    | some x =>
      rw [z] at q
      have q1 := Nat.eq_of_beq_eq_true q
      rw [← q1]
  · unfold jk4 at e7
    rw [Bool.and_eq_true] at e7
    have q := e7.2
    unfold jzg
    cases z : jx_al h 171 with
    | none => rw [z] at q; cases q
    | some x =>
      rw [z] at q
      have q1 := Nat.eq_of_beq_eq_true q
      rw [← q1]
theorem jkA_I (e : jkA h = true) : jI (jzF h) (jzA h) (jzG h) h ∧ h.1 = 182 ∧ h.2.1 ≤ 200000 := by
  unfold jkA at e
  simp only [Bool.and_eq_true] at e
  obtain ⟨e1, e2, e3, e4, e5, e6⟩ := e
  unfold jkN at e1
  simp only [Bool.and_eq_true] at e1
  obtain ⟨⟨n1, n2⟩, ⟨n3, n4⟩, ⟨n5, n6⟩, ⟨n7, n8⟩, n9, ⟨n10, n11⟩, ⟨n12, n13⟩, ⟨n14, n15⟩, ⟨n16, n17⟩, n18, n19⟩ := e1
  replace n1 := Nat.eq_of_beq_eq_true n1
  replace n2 := Nat.eq_of_beq_eq_true n2
  replace n3 := Nat.le_of_ble_eq_true n3
  replace n4 := Nat.le_of_ble_eq_true n4
  replace n5 := Nat.le_of_ble_eq_true n5
  replace n6 := Nat.le_of_ble_eq_true n6
  replace n7 := Nat.eq_of_beq_eq_true n7
  replace n8 := Nat.eq_of_beq_eq_true n8
  replace n9 := Nat.eq_of_beq_eq_true n9
  replace n10 := Nat.eq_of_beq_eq_true n10
  replace n11 := Nat.eq_of_beq_eq_true n11
  replace n12 := Nat.eq_of_beq_eq_true n12
  replace n13 := Nat.eq_of_beq_eq_true n13
  replace n14 := Nat.eq_of_beq_eq_true n14
  replace n15 := Nat.eq_of_beq_eq_true n15
  replace n16 := Nat.eq_of_beq_eq_true n16
  replace n17 := Nat.eq_of_beq_eq_true n17
  replace n18 := Nat.eq_of_beq_eq_true n18
  replace n19 := Nat.le_of_ble_eq_true n19
  unfold jkT at e2
  have tq : ∀ r c, r < jzF h 149 0 → c < jzF h 149 1 → (jzA h 3 (5 * r + c) = jzA h 150 (5 * r + c) ∧ jzA h 4 (5 * r + c) = jzA h 151 (5 * r + c)) ∧ jbel (jzA h 150 (5 * r + c)) 3 = true ∧ jbel (jzA h 151 (5 * r + c)) 10 = true := fun r c h1 h2 => by
    have q := jall_iff.mp (jall_iff.mp e2 r h1) c h2
    simpa only [Bool.and_eq_true, beq_iff_eq] using q
  refine ⟨⟨⟨n1, n2, n3, n4, n5, n6, fun r c h1 h2 => (tq r c h1 h2).1.1, fun r c h1 h2 => (tq r c h1 h2).1.2, fun r c h1 h2 => ?_, fun r c h1 h2 => (tq r c h1 h2).2.2⟩, ⟨by omega, by omega, by omega, fun i hi => by omega⟩, ⟨fun s hs => ?_, fun s t o p hs ht n w => ?_⟩, fun s hs => ?_, ⟨⟨?_, ?_, fun x h1 h2 => ?_⟩, ⟨fun x hx => ?_, fun p hp => ?_⟩, fun c hc => ?_⟩, .inl n10, .inl n11, ⟨by omega, .inl n13⟩, ⟨by omega, by omega, fun i hi => by omega⟩, by omega, by omega⟩, n18, n19⟩
  · obtain ⟨j, hj, ej⟩ := (jbel_iff (by omega)).mp (tq r c h1 h2).2.1
    rw [ej]
    rcases (show j = 0 ∨ j = 1 ∨ j = 2 by omega) with w | w | w <;> subst w
    · exact .inl rfl
    · exact .inr (.inl rfl)
    · exact .inr (.inr rfl)
  · have q := jall_iff.mp e3 s hs
    simp only [Bool.and_eq_true, beq_iff_eq, Option.isNone_iff_eq_none] at q
    exact .inl q
  · have q := jall_iff.mp e3 s hs
    simp only [Bool.and_eq_true, beq_iff_eq, Option.isNone_iff_eq_none] at q
    rw [q.1] at w
    cases w
  · have q := jall_iff.mp e4 s hs
    unfold jkS at q
    simp only [Bool.and_eq_true, beq_iff_eq] at q
    obtain ⟨⟨q1, q2⟩, ⟨q3, q4⟩, q5⟩ := q
    replace q3 := Nat.eq_of_beq_eq_true q3
    replace q4 := Nat.eq_of_beq_eq_true q4
    refine ⟨by rw [q3]; exact q1, by rw [q4]; exact q2, by omega, by omega, fun i hi => ?_⟩
    have q6 := jall_iff.mp q5 i hi
    rw [beq_iff_eq] at q6
    rw [q6]
    exact jnr.rf
  · unfold jkM at e5
    simp only [Bool.and_eq_true] at e5
    exact Nat.eq_of_beq_eq_true e5.1.1
  · unfold jkM at e5
    simp only [Bool.and_eq_true] at e5
    exact Nat.eq_of_beq_eq_true e5.1.2
  · unfold jkM at e5
    simp only [Bool.and_eq_true] at e5
    have q := jall_iff.mp e5.2 x h2
    simp only [Bool.or_eq_true, Bool.and_eq_true, beq_iff_eq] at q
    rcases q with q | q
    · have := Nat.eq_of_beq_eq_true q
      omega
    · exact q
  · unfold jkP at e6
    simp only [Bool.and_eq_true] at e6
    have q := jall_iff.mp e6.1 x hx
    exact beq_iff_eq.mp q
  · unfold jkP at e6
    simp only [Bool.and_eq_true] at e6
    have q := jall_iff.mp e6.2.1 p hp
    exact beq_iff_eq.mp q
  · unfold jkP at e6
    simp only [Bool.and_eq_true] at e6
    have q := jall_iff.mp e6.2.2 c hc
    simpa only [Bool.and_eq_true, beq_iff_eq] using q
end START3
