/-! ===== what is in cell 0 does not matter to the makers ===== -/
section START1
def jx_s0 (X : jxC) (h : jxH) : jxH := (h.1, h.2.1, fun j => if j = 0 then X else h.2.2 j)
def js0 (o : jxO) : Prop := ∀ X ls st h pc' ls' st' h', h.2.2 0 = jx_no → 0 < h.1 → o ls st h = some (pc', ls', st', h') → o ls st (jx_s0 X h) = some (pc', ls', st', jx_s0 X h') ∧ h'.2.2 0 = jx_no ∧ 0 < h'.1
variable {X : jxC} {h : jxH} {a c k n t i L : Nat}
theorem jz_ne {X : jxC} (ha : a ≠ 0) : (jx_s0 X h).2.2 a = h.2.2 a := if_neg ha
theorem jz_fl {v : Value} (h0 : h.2.2 0 = jx_no) (e : jx_fl h a c k = some v) : a ≠ 0 ∧ jx_fl (jx_s0 X h) a c k = some v := by
  have ha : a ≠ 0 := fun w => by
    subst w
    unfold jx_fl at e
    rw [h0] at e
    cases e
  refine ⟨ha, ?_⟩
  unfold jx_fl at e ⊢
  rw [jz_ne ha]
  exact e
theorem jz_cl {v : Nat} (h0 : h.2.2 0 = jx_no) (e : jx_cl h a = some v) : a ≠ 0 ∧ jx_cl (jx_s0 X h) a = some v := by
  have ha : a ≠ 0 := fun w => by
    subst w
    unfold jx_cl at e
    rw [h0] at e
    cases e
  refine ⟨ha, ?_⟩
  unfold jx_cl at e ⊢
  rw [jz_ne ha]
  exact e
theorem jz_ai {v : Nat × (Nat → Int32)} (h0 : h.2.2 0 = jx_no) (e : jx_ai h a = some v) : a ≠ 0 ∧ jx_ai (jx_s0 X h) a = some v := by
  have ha : a ≠ 0 := fun w => by
    subst w
    unfold jx_ai at e
    rw [h0] at e
    cases e
  refine ⟨ha, ?_⟩
  unfold jx_ai at e ⊢
  rw [jz_ne ha]
  exact e
theorem jz_ar {v : Nat × (Nat → Option Nat)} (h0 : h.2.2 0 = jx_no) (e : jx_ar h a t = some v) : a ≠ 0 ∧ jx_ar (jx_s0 X h) a t = some v := by
  have ha : a ≠ 0 := fun w => by
    subst w
    unfold jx_ar at e
    rw [h0] at e
    cases e
  refine ⟨ha, ?_⟩
  unfold jx_ar at e ⊢
  rw [jz_ne ha]
  exact e
theorem jz_w {x : jxC} (ha : a ≠ 0) : jx_w (jx_s0 X h) a x = jx_s0 X (jx_w h a x) := by
  unfold jx_w jx_s0
  refine Prod.ext rfl (Prod.ext rfl (funext fun j => ?_))
  dsimp only
  by_cases w : j = 0
  · rw [if_neg (by omega), if_pos w, if_pos w]
  · rw [if_neg w, if_neg w]
theorem jz_w0 {x : jxC} (h0 : h.2.2 0 = jx_no) (ha : a ≠ 0) : (jx_w h a x).2.2 0 = jx_no := (jh_w_ne (by omega)).trans h0
theorem jz_uf {v : Value} (ha : a ≠ 0) : jx_uf (jx_s0 X h) a k v = jx_s0 X (jx_uf h a k v) := by
  unfold jx_uf
  rw [jz_w ha, jz_ne ha]
theorem jz_mk {x : jxC} (hp : 0 < h.1) : jx_mk (jx_s0 X h) n x = jx_s0 X (jx_mk h n x) := by
  unfold jx_mk jx_s0
  refine Prod.ext rfl (Prod.ext rfl (funext fun j => ?_))
  dsimp only
  by_cases w : j = 0
  · rw [if_neg (by omega), if_pos w, if_pos w]
  · rw [if_neg w, if_neg w]
theorem jz_mk0 {x : jxC} (h0 : h.2.2 0 = jx_no) (hp : 0 < h.1) : (jx_mk h n x).2.2 0 = jx_no := (if_neg (by omega)).trans h0
theorem jz_mm' (hp : 0 < h.1) : jx_mm (jx_s0 X h) n k = jx_s0 X (jx_mm h n k) := by
  unfold jx_mm jx_s0
  refine Prod.ext rfl (Prod.ext rfl (funext fun j => ?_))
  dsimp only
  by_cases w : j = 0
  · rw [if_pos (by omega), if_pos w, if_pos w]
  · rw [if_neg w, if_neg w]
theorem jz_mm0 (h0 : h.2.2 0 = jx_no) (hp : 0 < h.1) : (jx_mm h n k).2.2 0 = jx_no := (if_pos hp).trans h0
theorem jz_c {x : Int32} : js0 (jo_c n x) := by
  intro X ls st h pc' ls' st' h' h0 hp e
  cases e
  exact ⟨rfl, h0, hp⟩
theorem jz_go : js0 (jo_go t) := by
  intro X ls st h pc' ls' st' h' h0 hp e
  cases e
  exact ⟨rfl, h0, hp⟩
theorem jz_is  : js0 (jo_is n L i) := by
  intro X ls st h pc' ls' st' h' h0 hp e
  unfold jo_is at e ⊢
  split at e
  · cases e; exact ⟨rfl, h0, hp⟩
  · cases e
theorem jz_as  : js0 (jo_as n L i) := by
  intro X ls st h pc' ls' st' h' h0 hp e
  unfold jo_as at e ⊢
  split at e
  · cases e; exact ⟨rfl, h0, hp⟩
  · cases e
theorem jz_b {f : Int32 → Int32 → Int32} : js0 (jo_b n f) := by
  intro X ls st h pc' ls' st' h' h0 hp e
  unfold jo_b at e ⊢
  split at e
  · cases e; exact ⟨rfl, h0, hp⟩
  · cases e
theorem jz_1 {f : Int32 → Int32} : js0 (jo_1 n f) := by
  intro X ls st h pc' ls' st' h' h0 hp e
  unfold jo_1 at e ⊢
  split at e
  · cases e; exact ⟨rfl, h0, hp⟩
  · cases e
theorem jz_d : js0 (jo_d n) := by
  intro X ls st h pc' ls' st' h' h0 hp e
  unfold jo_d at e ⊢
  split at e
  · split at e
    · next z =>
      try dsimp only
      rw [if_pos z]
      cases e
      exact ⟨rfl, h0, hp⟩
    · cases e
  · cases e
theorem jz_oi : js0 (jo_oi n) := by
  intro X ls st h pc' ls' st' h' h0 hp e
  unfold jo_oi at e ⊢
  split at e
  · split at e
    · next z =>
      try dsimp only
      rw [if_pos z]
      cases e
      exact ⟨rfl, h0, hp⟩
    · cases e
  · cases e
theorem jz_il : js0 (jo_il n i) := by
  intro X ls st h pc' ls' st' h' h0 hp e
  unfold jo_il at e ⊢
  split at e
  · cases e; exact ⟨rfl, h0, hp⟩
  · cases e
theorem jz_al : js0 (jo_al n i) := by
  intro X ls st h pc' ls' st' h' h0 hp e
  unfold jo_al at e ⊢
  split at e
  · cases e; exact ⟨rfl, h0, hp⟩
  · cases e
theorem jz_inc {k : Int32} : js0 (jo_inc n L i k) := by
  intro X ls st h pc' ls' st' h' h0 hp e
  unfold jo_inc at e ⊢
  split at e
  · cases e; exact ⟨rfl, h0, hp⟩
  · cases e
theorem jz_if {p : Int32 → Bool} : js0 (jo_if n t p) := by
  intro X ls st h pc' ls' st' h' h0 hp e
  unfold jo_if at e ⊢
  split at e
  · cases e; exact ⟨rfl, h0, hp⟩
  · cases e
theorem jz_ic {p : Int32 → Int32 → Bool} : js0 (jo_ic n t p) := by
  intro X ls st h pc' ls' st' h' h0 hp e
  unfold jo_ic at e ⊢
  split at e
  · cases e; exact ⟨rfl, h0, hp⟩
  · cases e
theorem jz_gf : js0 (jo_gf n c k) := by
  intro X ls st h pc' ls' st' h' h0 hp e
  unfold jo_gf at e ⊢
  split at e
  · next a r =>
    cases q : jx_fl h a c k with
    | none => rw [q] at e; cases e
    | some v =>
      rw [q] at e
      cases e
      try dsimp only
      rw [(jz_fl h0 q).2]
      exact ⟨rfl, h0, hp⟩
  · cases e
theorem jz_pf : js0 (jo_pf n c k t) := by
  intro X ls st h pc' ls' st' h' h0 hp e
  unfold jo_pf at e ⊢
  split at e
  · next v a r =>
    by_cases z : jx_fit t v = true
    · rw [if_pos z] at e
      cases q : jx_fl h a c k with
      | none => rw [q] at e; cases e
      | some u =>
        rw [q] at e
        cases e
        obtain ⟨ha, q2⟩ := jz_fl (X := X) h0 q
        try dsimp only
        rw [if_pos z, q2]
        refine ⟨?_, jz_w0 h0 ha, hp⟩
        rw [Option.map_some, jz_uf ha]
    · rw [if_neg z] at e; cases e
  · cases e
theorem jz_ia : js0 (jo_ia n) := by
  intro X ls st h pc' ls' st' h' h0 hp e
  unfold jo_ia at e ⊢
  split at e
  · next i a r =>
    cases q : jx_ai h a with
    | none => rw [q] at e; cases e
    | some u =>
      rw [q] at e
      dsimp only at e ⊢
      obtain ⟨ha, q2⟩ := jz_ai (X := X) h0 q
      rw [q2]
      try dsimp only
      by_cases z : jx_inB i u.1 = true
      · rw [if_pos z] at e ⊢
        cases e
        exact ⟨rfl, h0, hp⟩
      · rw [if_neg z] at e; cases e
  · cases e
theorem jz_iw : js0 (jo_iw n) := by
  intro X ls st h pc' ls' st' h' h0 hp e
  unfold jo_iw at e ⊢
  split at e
  · next v i a r =>
    cases q : jx_ai h a with
    | none => rw [q] at e; cases e
    | some u =>
      rw [q] at e
      dsimp only at e ⊢
      obtain ⟨ha, q2⟩ := jz_ai (X := X) h0 q
      rw [q2]
      try dsimp only
      by_cases z : jx_inB i u.1 = true
      · rw [if_pos z] at e ⊢
        cases e
        exact ⟨by unfold jx_wi; rw [jz_w ha], jz_w0 h0 ha, hp⟩
      · rw [if_neg z] at e; cases e
  · cases e
theorem jz_rw : js0 (jo_rw n t c) := by
  intro X ls st h pc' ls' st' h' h0 hp e
  unfold jo_rw at e ⊢
  split at e
  · next v i a r =>
    cases q : jx_ar h a t with
    | none => rw [q] at e; cases e
    | some u =>
      rw [q] at e
      dsimp only at e ⊢
      obtain ⟨ha, q2⟩ := jz_ar (X := X) h0 q
      rw [q2]
      try dsimp only
      by_cases z : jx_inB i u.1 = true ∧ jx_cl h v = some c
      · rw [if_pos z] at e
        rw [if_pos ⟨z.1, (jz_cl h0 z.2).2⟩]
        cases e
        exact ⟨by unfold jx_wr; rw [jz_w ha], jz_w0 h0 ha, hp⟩
      · rw [if_neg z] at e; cases e
  · cases e
theorem jz_len : js0 (jo_len n) := by
  intro X ls st h pc' ls' st' h' h0 hp e
  unfold jo_len at e ⊢
  split at e
  · next a r =>
    cases q : jx_ai h a with
    | none => rw [q] at e; cases e
    | some v =>
      rw [q] at e
      cases e
      try dsimp only
      rw [(jz_ai h0 q).2]
      exact ⟨rfl, h0, hp⟩
  · cases e
theorem jz_nw {fs : List Value} : js0 (jo_nw n c fs) := by
  intro X ls st h pc' ls' st' h' h0 hp e
  unfold jo_nw at e ⊢
  cases e
  exact ⟨by rw [jz_mk hp]; rfl, jz_mk0 h0 hp, Nat.succ_pos _⟩
theorem jz_ni : js0 (jo_ni n) := by
  intro X ls st h pc' ls' st' h' h0 hp e
  unfold jo_ni at e ⊢
  split at e
  · next x r =>
    by_cases z : jx_inB x 1000000 = true
    · rw [if_pos z] at e
      try dsimp only
      rw [if_pos z]
      cases e
      exact ⟨by rw [jz_mk hp]; rfl, jz_mk0 h0 hp, Nat.succ_pos _⟩
    · rw [if_neg z] at e; cases e
  · cases e
theorem jz_nj : js0 (jo_nj n) := by
  intro X ls st h pc' ls' st' h' h0 hp e
  unfold jo_nj at e ⊢
  split at e
  · next x r =>
    by_cases z : jx_inB x 1000000 = true
    · rw [if_pos z] at e
      try dsimp only
      rw [if_pos z]
      cases e
      exact ⟨by rw [jz_mk hp]; rfl, jz_mk0 h0 hp, Nat.succ_pos _⟩
    · rw [if_neg z] at e; cases e
  · cases e
theorem jz_nr : js0 (jo_nr n t) := by
  intro X ls st h pc' ls' st' h' h0 hp e
  unfold jo_nr at e ⊢
  split at e
  · next x r =>
    by_cases z : jx_inB x 1000000 = true
    · rw [if_pos z] at e
      try dsimp only
      rw [if_pos z]
      cases e
      exact ⟨by rw [jz_mk hp]; rfl, jz_mk0 h0 hp, Nat.succ_pos _⟩
    · rw [if_neg z] at e; cases e
  · cases e
theorem jz_mm : js0 (jo_mm n) := by
  intro X ls st h pc' ls' st' h' h0 hp e
  unfold jo_mm at e ⊢
  split at e
  · next k x r =>
    by_cases z : jx_inB x 1000000 = true ∧ jx_inB k 1000000 = true
    · rw [if_pos z] at e
      try dsimp only
      rw [if_pos z]
      cases e
      refine ⟨by rw [jz_mm' hp]; rfl, jz_mm0 h0 hp, ?_⟩
      show 0 < h.1 + 1 + _
      omega
    · rw [if_neg z] at e; cases e
  · cases e
/-- the makers and what they call -/
def jmkS (M : Nat) : Bool := M == 0 || M == 11 || M == 14 || M == 21 || M == 27 || M == 28 || M == 29 || M == 34 || M == 35 || M == 44 || M == 55 || M == 61 || M == 67 || M == 85 || M == 127 || M == 129 || M == 198
def jz_I (x : jxI) : Prop := match x with
  | .inl o => js0 o
  | .inr (.inl (y, _)) => jmkS y = true
  | .inr (.inr _) => True
def jt0 (a : Nat → Option jxI) : Prop := ∀ i x, a i = some x → jz_I x
theorem jt0_n {k : Nat} {a b : Nat → Option jxI} (ha : jt0 a) (hb : jt0 b) : jt0 (jt_n k a b) := by
  intro i x e
  unfold jt_n at e
  cases q : Nat.ble k i with
  | true => rw [q] at e; exact hb i x e
  | false => rw [q] at e; exact ha i x e
theorem jt0_l {k : Nat} {y : jxI} (hy : jz_I y) : jt0 (jt_l k y) := by
  intro i x e
  unfold jt_l at e
  cases q : Nat.beq i k with
  | true => rw [q] at e; cases e; exact hy
  | false => rw [q] at e; cases e
theorem jt0_c0 : jt0 jc_0 := (jt0_n (jt0_n (jt0_n (jt0_n (jt0_l jz_al) (jt0_l jz_oi)) (jt0_n (jt0_l jz_al) (jt0_n (jt0_l jz_c) (jt0_l jz_ni)))) (jt0_n (jt0_n (jt0_l jz_pf) (jt0_l jz_al)) (jt0_n (jt0_l jz_c) (jt0_n (jt0_l jz_ni) (jt0_l jz_pf))))) (jt0_n (jt0_n (jt0_n (jt0_l jz_al) (jt0_l jz_c)) (jt0_n (jt0_l jz_ni) (jt0_n (jt0_l jz_pf) (jt0_l jz_al)))) (jt0_n (jt0_n (jt0_l jz_al) (jt0_n (jt0_l jz_pf) (jt0_l jz_al))) (jt0_n (jt0_l jz_al) (jt0_n (jt0_l jz_pf) (jt0_l trivial))))))
theorem jt0_c11 : jt0 jc_11 := (jt0_n (jt0_n (jt0_n (jt0_n (jt0_l jz_al) (jt0_l jz_oi)) (jt0_n (jt0_l jz_al) (jt0_n (jt0_l jz_c) (jt0_l jz_nr)))) (jt0_n (jt0_n (jt0_l jz_pf) (jt0_l jz_c)) (jt0_n (jt0_l jz_is) (jt0_n (jt0_l jz_il) (jt0_l jz_c))))) (jt0_n (jt0_n (jt0_n (jt0_l jz_ic) (jt0_l jz_al)) (jt0_n (jt0_l jz_gf) (jt0_n (jt0_l jz_il) (jt0_l jz_nw)))) (jt0_n (jt0_n (jt0_l jz_d) (jt0_n (jt0_l rfl) (jt0_l jz_rw))) (jt0_n (jt0_l jz_inc) (jt0_n (jt0_l jz_go) (jt0_l trivial))))))
theorem jt0_c14 : jt0 jc_14 := (jt0_n (jt0_n (jt0_n (jt0_l jz_al) (jt0_n (jt0_l jz_oi) (jt0_l jz_al))) (jt0_n (jt0_l jz_c) (jt0_n (jt0_l jz_ni) (jt0_l jz_pf)))) (jt0_n (jt0_n (jt0_l jz_al) (jt0_n (jt0_l jz_al) (jt0_l jz_pf))) (jt0_n (jt0_n (jt0_l jz_al) (jt0_l jz_al)) (jt0_n (jt0_l jz_pf) (jt0_l trivial)))))
theorem jt0_c21 : jt0 jc_21 := (jt0_n (jt0_n (jt0_n (jt0_l jz_al) (jt0_n (jt0_l jz_oi) (jt0_l jz_al))) (jt0_n (jt0_l jz_c) (jt0_n (jt0_l jz_c) (jt0_l jz_mm)))) (jt0_n (jt0_n (jt0_l jz_pf) (jt0_n (jt0_l jz_al) (jt0_l jz_c))) (jt0_n (jt0_n (jt0_l jz_c) (jt0_l jz_mm)) (jt0_n (jt0_l jz_pf) (jt0_l trivial)))))
theorem jt0_c27 : jt0 jc_27 := (jt0_n (jt0_n (jt0_n (jt0_l jz_al) (jt0_l jz_oi)) (jt0_n (jt0_l jz_al) (jt0_n (jt0_l jz_c) (jt0_l jz_ni)))) (jt0_n (jt0_n (jt0_l jz_pf) (jt0_n (jt0_l jz_al) (jt0_l jz_c))) (jt0_n (jt0_l jz_ni) (jt0_n (jt0_l jz_pf) (jt0_l trivial)))))
theorem jt0_c28 : jt0 jc_28 := (jt0_n (jt0_n (jt0_n (jt0_n (jt0_n (jt0_n (jt0_l jz_al) (jt0_l jz_c)) (jt0_n (jt0_l jz_al) (jt0_l jz_gf))) (jt0_n (jt0_n (jt0_l jz_b) (jt0_l jz_c)) (jt0_n (jt0_l jz_b) (jt0_n (jt0_l jz_pf) (jt0_l jz_al))))) (jt0_n (jt0_n (jt0_n (jt0_l jz_c) (jt0_l jz_al)) (jt0_n (jt0_l jz_gf) (jt0_l jz_b))) (jt0_n (jt0_n (jt0_l jz_c) (jt0_l jz_b)) (jt0_n (jt0_l jz_pf) (jt0_n (jt0_l jz_c) (jt0_l jz_is)))))) (jt0_n (jt0_n (jt0_n (jt0_n (jt0_l jz_il) (jt0_l jz_al)) (jt0_n (jt0_l jz_gf) (jt0_l jz_ic))) (jt0_n (jt0_n (jt0_l jz_al) (jt0_l jz_al)) (jt0_n (jt0_l jz_il) (jt0_n (jt0_l rfl) (jt0_l jz_inc))))) (jt0_n (jt0_n (jt0_n (jt0_l jz_go) (jt0_l jz_c)) (jt0_n (jt0_l jz_is) (jt0_l jz_il))) (jt0_n (jt0_n (jt0_l jz_al) (jt0_l jz_gf)) (jt0_n (jt0_l jz_ic) (jt0_n (jt0_l jz_il) (jt0_l rfl))))))) (jt0_n (jt0_n (jt0_n (jt0_n (jt0_n (jt0_l jz_is) (jt0_l jz_il)) (jt0_n (jt0_l jz_il) (jt0_l jz_ic))) (jt0_n (jt0_n (jt0_l jz_al) (jt0_l jz_gf)) (jt0_n (jt0_l jz_il) (jt0_n (jt0_l jz_al) (jt0_l jz_gf))))) (jt0_n (jt0_n (jt0_n (jt0_l jz_il) (jt0_l jz_ia)) (jt0_n (jt0_l jz_al) (jt0_l jz_gf))) (jt0_n (jt0_n (jt0_l jz_il) (jt0_l jz_il)) (jt0_n (jt0_l jz_b) (jt0_n (jt0_l jz_ia) (jt0_l jz_b)))))) (jt0_n (jt0_n (jt0_n (jt0_n (jt0_l jz_iw) (jt0_l jz_al)) (jt0_n (jt0_l jz_gf) (jt0_l jz_il))) (jt0_n (jt0_n (jt0_l jz_al) (jt0_l jz_gf)) (jt0_n (jt0_l jz_il) (jt0_n (jt0_l jz_ia) (jt0_l jz_al))))) (jt0_n (jt0_n (jt0_n (jt0_l jz_gf) (jt0_l jz_il)) (jt0_n (jt0_l jz_il) (jt0_n (jt0_l jz_b) (jt0_l jz_ia)))) (jt0_n (jt0_n (jt0_l jz_b) (jt0_l jz_iw)) (jt0_n (jt0_l jz_inc) (jt0_n (jt0_l jz_go) (jt0_l trivial))))))))
theorem jt0_c29 : jt0 jc_29 := (jt0_n (jt0_n (jt0_n (jt0_n (jt0_n (jt0_l jz_c) (jt0_n (jt0_l jz_is) (jt0_l jz_c))) (jt0_n (jt0_l jz_is) (jt0_n (jt0_l jz_c) (jt0_l jz_is)))) (jt0_n (jt0_n (jt0_l jz_il) (jt0_n (jt0_l jz_al) (jt0_l jz_gf))) (jt0_n (jt0_n (jt0_l jz_ic) (jt0_l jz_al)) (jt0_n (jt0_l jz_gf) (jt0_l jz_c))))) (jt0_n (jt0_n (jt0_n (jt0_l jz_il) (jt0_n (jt0_l jz_b) (jt0_l jz_il))) (jt0_n (jt0_n (jt0_l jz_b) (jt0_l jz_ia)) (jt0_n (jt0_l jz_is) (jt0_l jz_il)))) (jt0_n (jt0_n (jt0_l jz_c) (jt0_n (jt0_l jz_ic) (jt0_l jz_il))) (jt0_n (jt0_n (jt0_l jz_c) (jt0_l jz_il)) (jt0_n (jt0_l jz_b) (jt0_l jz_b)))))) (jt0_n (jt0_n (jt0_n (jt0_n (jt0_l jz_is) (jt0_n (jt0_l jz_go) (jt0_l jz_il))) (jt0_n (jt0_l jz_if) (jt0_n (jt0_l jz_il) (jt0_l jz_c)))) (jt0_n (jt0_n (jt0_l jz_il) (jt0_n (jt0_l jz_b) (jt0_l jz_b))) (jt0_n (jt0_n (jt0_l jz_is) (jt0_l jz_inc)) (jt0_n (jt0_l jz_go) (jt0_l jz_al))))) (jt0_n (jt0_n (jt0_n (jt0_l jz_gf) (jt0_n (jt0_l jz_c) (jt0_l jz_il))) (jt0_n (jt0_n (jt0_l jz_b) (jt0_l jz_il)) (jt0_n (jt0_l jz_iw) (jt0_l jz_al)))) (jt0_n (jt0_n (jt0_l jz_gf) (jt0_n (jt0_l jz_c) (jt0_l jz_il))) (jt0_n (jt0_n (jt0_l jz_b) (jt0_l jz_il)) (jt0_n (jt0_l jz_iw) (jt0_l trivial)))))))
theorem jt0_c34 : jt0 jc_34 := (jt0_n (jt0_n (jt0_n (jt0_n (jt0_n (jt0_l jz_al) (jt0_n (jt0_l jz_oi) (jt0_l jz_al))) (jt0_n (jt0_n (jt0_l jz_c) (jt0_l jz_ni)) (jt0_n (jt0_l jz_pf) (jt0_l jz_al)))) (jt0_n (jt0_n (jt0_l jz_c) (jt0_n (jt0_l jz_ni) (jt0_l jz_pf))) (jt0_n (jt0_n (jt0_l jz_c) (jt0_l jz_is)) (jt0_n (jt0_l jz_c) (jt0_l jz_is))))) (jt0_n (jt0_n (jt0_n (jt0_l jz_il) (jt0_n (jt0_l jz_c) (jt0_l jz_ic))) (jt0_n (jt0_n (jt0_l jz_al) (jt0_l jz_gf)) (jt0_n (jt0_l jz_il) (jt0_l jz_il)))) (jt0_n (jt0_n (jt0_l jz_iw) (jt0_n (jt0_l jz_il) (jt0_l jz_il))) (jt0_n (jt0_n (jt0_l jz_c) (jt0_l jz_b)) (jt0_n (jt0_l jz_b) (jt0_l jz_is)))))) (jt0_n (jt0_n (jt0_n (jt0_n (jt0_l jz_c) (jt0_n (jt0_l jz_is) (jt0_l jz_il))) (jt0_n (jt0_n (jt0_l jz_il) (jt0_l jz_ic)) (jt0_n (jt0_l jz_il) (jt0_l jz_c)))) (jt0_n (jt0_n (jt0_l jz_ic) (jt0_n (jt0_l jz_il) (jt0_l jz_il))) (jt0_n (jt0_n (jt0_l jz_b) (jt0_l jz_il)) (jt0_n (jt0_l jz_ic) (jt0_l jz_al))))) (jt0_n (jt0_n (jt0_n (jt0_l jz_gf) (jt0_n (jt0_l jz_il) (jt0_l jz_il))) (jt0_n (jt0_n (jt0_l jz_iw) (jt0_l jz_inc)) (jt0_n (jt0_l jz_inc) (jt0_l jz_go)))) (jt0_n (jt0_n (jt0_n (jt0_l jz_inc) (jt0_l jz_go)) (jt0_n (jt0_l jz_al) (jt0_l jz_gf))) (jt0_n (jt0_n (jt0_l jz_c) (jt0_l jz_il)) (jt0_n (jt0_l jz_iw) (jt0_l trivial)))))))
theorem jt0_c35 : jt0 jc_35 := (jt0_n (jt0_n (jt0_n (jt0_n (jt0_l jz_al) (jt0_n (jt0_l jz_oi) (jt0_l jz_al))) (jt0_n (jt0_n (jt0_l jz_c) (jt0_l jz_ni)) (jt0_n (jt0_l jz_pf) (jt0_l jz_al)))) (jt0_n (jt0_n (jt0_n (jt0_l jz_c) (jt0_l jz_ni)) (jt0_n (jt0_l jz_pf) (jt0_l jz_al))) (jt0_n (jt0_n (jt0_l jz_c) (jt0_l jz_ni)) (jt0_n (jt0_l jz_pf) (jt0_l jz_al))))) (jt0_n (jt0_n (jt0_n (jt0_n (jt0_l jz_c) (jt0_l jz_ni)) (jt0_n (jt0_l jz_pf) (jt0_l jz_al))) (jt0_n (jt0_n (jt0_l jz_c) (jt0_l jz_pf)) (jt0_n (jt0_l jz_al) (jt0_l jz_al)))) (jt0_n (jt0_n (jt0_n (jt0_l jz_pf) (jt0_l jz_al)) (jt0_n (jt0_l jz_al) (jt0_l jz_pf))) (jt0_n (jt0_n (jt0_l jz_al) (jt0_l jz_al)) (jt0_n (jt0_l jz_pf) (jt0_l trivial))))))
theorem jt0_c44 : jt0 jc_44 := (jt0_n (jt0_n (jt0_n (jt0_n (jt0_l jz_al) (jt0_l jz_oi)) (jt0_n (jt0_l jz_al) (jt0_l jz_c))) (jt0_n (jt0_n (jt0_l jz_ni) (jt0_l jz_pf)) (jt0_n (jt0_l jz_al) (jt0_l jz_c)))) (jt0_n (jt0_n (jt0_n (jt0_l jz_ni) (jt0_l jz_pf)) (jt0_n (jt0_l jz_al) (jt0_l jz_al))) (jt0_n (jt0_n (jt0_l jz_pf) (jt0_l jz_al)) (jt0_n (jt0_l jz_al) (jt0_n (jt0_l jz_pf) (jt0_l trivial))))))
theorem jt0_c55 : jt0 jc_55 := (jt0_n (jt0_n (jt0_l jz_al) (jt0_n (jt0_l jz_oi) (jt0_l jz_al))) (jt0_n (jt0_n (jt0_l jz_c) (jt0_l jz_ni)) (jt0_n (jt0_l jz_pf) (jt0_l trivial))))
theorem jt0_c61 : jt0 jc_61 := (jt0_n (jt0_n (jt0_n (jt0_n (jt0_n (jt0_l jz_al) (jt0_l jz_oi)) (jt0_n (jt0_l jz_al) (jt0_l jz_c))) (jt0_n (jt0_n (jt0_l jz_ni) (jt0_l jz_pf)) (jt0_n (jt0_l jz_al) (jt0_l jz_c)))) (jt0_n (jt0_n (jt0_n (jt0_l jz_ni) (jt0_l jz_pf)) (jt0_n (jt0_l jz_al) (jt0_l jz_c))) (jt0_n (jt0_n (jt0_l jz_ni) (jt0_l jz_pf)) (jt0_n (jt0_l jz_al) (jt0_l jz_c))))) (jt0_n (jt0_n (jt0_n (jt0_n (jt0_l jz_ni) (jt0_l jz_pf)) (jt0_n (jt0_l jz_al) (jt0_l jz_c))) (jt0_n (jt0_n (jt0_l jz_ni) (jt0_l jz_pf)) (jt0_n (jt0_l jz_al) (jt0_l jz_c)))) (jt0_n (jt0_n (jt0_n (jt0_l jz_ni) (jt0_l jz_pf)) (jt0_n (jt0_l jz_al) (jt0_l jz_al))) (jt0_n (jt0_n (jt0_l jz_pf) (jt0_l jz_al)) (jt0_n (jt0_l jz_al) (jt0_n (jt0_l jz_pf) (jt0_l trivial)))))))
theorem jt0_c67 : jt0 jc_67 := (jt0_n (jt0_n (jt0_n (jt0_n (jt0_l jz_al) (jt0_l jz_oi)) (jt0_n (jt0_l jz_al) (jt0_n (jt0_l jz_c) (jt0_l jz_pf)))) (jt0_n (jt0_n (jt0_l jz_al) (jt0_l jz_c)) (jt0_n (jt0_l jz_pf) (jt0_n (jt0_l jz_al) (jt0_l jz_c))))) (jt0_n (jt0_n (jt0_n (jt0_l jz_ni) (jt0_l jz_pf)) (jt0_n (jt0_l jz_al) (jt0_n (jt0_l jz_c) (jt0_l jz_ni)))) (jt0_n (jt0_n (jt0_l jz_pf) (jt0_n (jt0_l jz_al) (jt0_l jz_gf))) (jt0_n (jt0_l jz_c) (jt0_n (jt0_l rfl) (jt0_l trivial))))))
theorem jt0_c85 : jt0 jc_85 := (jt0_n (jt0_n (jt0_n (jt0_n (jt0_n (jt0_n (jt0_l jz_al) (jt0_n (jt0_l jz_oi) (jt0_l jz_al))) (jt0_n (jt0_l jz_nw) (jt0_n (jt0_l jz_d) (jt0_l rfl)))) (jt0_n (jt0_n (jt0_l jz_pf) (jt0_n (jt0_l jz_al) (jt0_l jz_c))) (jt0_n (jt0_l jz_nr) (jt0_n (jt0_l jz_pf) (jt0_l jz_al))))) (jt0_n (jt0_n (jt0_n (jt0_l jz_c) (jt0_n (jt0_l jz_nr) (jt0_l jz_pf))) (jt0_n (jt0_l jz_al) (jt0_n (jt0_l jz_nw) (jt0_l jz_d)))) (jt0_n (jt0_n (jt0_l rfl) (jt0_n (jt0_l jz_pf) (jt0_l jz_al))) (jt0_n (jt0_l jz_nw) (jt0_n (jt0_l jz_d) (jt0_l rfl)))))) (jt0_n (jt0_n (jt0_n (jt0_n (jt0_l jz_pf) (jt0_n (jt0_l jz_al) (jt0_l jz_nw))) (jt0_n (jt0_l jz_d) (jt0_n (jt0_l rfl) (jt0_l jz_pf)))) (jt0_n (jt0_n (jt0_l jz_c) (jt0_n (jt0_l jz_is) (jt0_l jz_il))) (jt0_n (jt0_l jz_c) (jt0_n (jt0_l jz_ic) (jt0_l jz_al))))) (jt0_n (jt0_n (jt0_n (jt0_l jz_gf) (jt0_n (jt0_l jz_il) (jt0_l jz_nw))) (jt0_n (jt0_l jz_d) (jt0_n (jt0_l rfl) (jt0_l jz_rw)))) (jt0_n (jt0_n (jt0_l jz_inc) (jt0_n (jt0_l jz_go) (jt0_l jz_nw))) (jt0_n (jt0_n (jt0_l jz_d) (jt0_l rfl)) (jt0_n (jt0_l jz_as) (jt0_l jz_al))))))) (jt0_n (jt0_n (jt0_n (jt0_n (jt0_n (jt0_l jz_nw) (jt0_n (jt0_l jz_d) (jt0_l jz_al))) (jt0_n (jt0_l jz_gf) (jt0_n (jt0_l jz_al) (jt0_l rfl)))) (jt0_n (jt0_n (jt0_l jz_pf) (jt0_n (jt0_l jz_al) (jt0_l jz_nw))) (jt0_n (jt0_l jz_d) (jt0_n (jt0_l jz_al) (jt0_l jz_gf))))) (jt0_n (jt0_n (jt0_n (jt0_l jz_al) (jt0_n (jt0_l jz_gf) (jt0_l jz_al))) (jt0_n (jt0_l rfl) (jt0_n (jt0_l jz_pf) (jt0_l jz_al)))) (jt0_n (jt0_n (jt0_l jz_nw) (jt0_n (jt0_l jz_d) (jt0_l jz_al))) (jt0_n (jt0_n (jt0_l jz_gf) (jt0_l jz_al)) (jt0_n (jt0_l jz_gf) (jt0_l rfl)))))) (jt0_n (jt0_n (jt0_n (jt0_n (jt0_l jz_pf) (jt0_n (jt0_l jz_al) (jt0_l jz_nw))) (jt0_n (jt0_l jz_d) (jt0_n (jt0_l jz_al) (jt0_l jz_gf)))) (jt0_n (jt0_n (jt0_l jz_al) (jt0_n (jt0_l jz_gf) (jt0_l rfl))) (jt0_n (jt0_l jz_pf) (jt0_n (jt0_l jz_al) (jt0_l jz_nw))))) (jt0_n (jt0_n (jt0_n (jt0_l jz_d) (jt0_n (jt0_l jz_al) (jt0_l jz_gf))) (jt0_n (jt0_l jz_al) (jt0_n (jt0_l jz_gf) (jt0_l rfl)))) (jt0_n (jt0_n (jt0_l jz_pf) (jt0_n (jt0_l jz_al) (jt0_l jz_gf))) (jt0_n (jt0_n (jt0_l jz_al) (jt0_l jz_gf)) (jt0_n (jt0_l rfl) (jt0_l trivial))))))))
theorem jt0_c127 : jt0 jc_127 := (jt0_n (jt0_n (jt0_l jz_il) (jt0_l jz_il)) (jt0_n (jt0_l jz_1) (jt0_n (jt0_l jz_b) (jt0_l trivial))))
theorem jt0_c129 : jt0 jc_129 := (jt0_n (jt0_n (jt0_n (jt0_n (jt0_n (jt0_n (jt0_n (jt0_l jz_al) (jt0_l jz_oi)) (jt0_n (jt0_l jz_al) (jt0_n (jt0_l jz_c) (jt0_l jz_pf)))) (jt0_n (jt0_n (jt0_l jz_al) (jt0_l jz_c)) (jt0_n (jt0_l jz_pf) (jt0_n (jt0_l jz_al) (jt0_l jz_c))))) (jt0_n (jt0_n (jt0_n (jt0_l jz_ni) (jt0_l jz_pf)) (jt0_n (jt0_l jz_al) (jt0_n (jt0_l jz_c) (jt0_l jz_ni)))) (jt0_n (jt0_n (jt0_l jz_pf) (jt0_l jz_al)) (jt0_n (jt0_l jz_c) (jt0_n (jt0_l jz_ni) (jt0_l jz_pf)))))) (jt0_n (jt0_n (jt0_n (jt0_n (jt0_l jz_al) (jt0_l jz_c)) (jt0_n (jt0_l jz_ni) (jt0_n (jt0_l jz_pf) (jt0_l jz_al)))) (jt0_n (jt0_n (jt0_l jz_c) (jt0_l jz_ni)) (jt0_n (jt0_l jz_pf) (jt0_n (jt0_l jz_al) (jt0_l jz_c))))) (jt0_n (jt0_n (jt0_n (jt0_l jz_ni) (jt0_l jz_pf)) (jt0_n (jt0_l jz_al) (jt0_n (jt0_l jz_c) (jt0_l jz_ni)))) (jt0_n (jt0_n (jt0_l jz_pf) (jt0_l jz_al)) (jt0_n (jt0_l jz_c) (jt0_n (jt0_l jz_ni) (jt0_l jz_pf))))))) (jt0_n (jt0_n (jt0_n (jt0_n (jt0_n (jt0_l jz_al) (jt0_l jz_c)) (jt0_n (jt0_l jz_ni) (jt0_n (jt0_l jz_pf) (jt0_l jz_al)))) (jt0_n (jt0_n (jt0_l jz_c) (jt0_l jz_ni)) (jt0_n (jt0_l jz_pf) (jt0_n (jt0_l jz_al) (jt0_l jz_c))))) (jt0_n (jt0_n (jt0_n (jt0_l jz_ni) (jt0_l jz_pf)) (jt0_n (jt0_l jz_al) (jt0_n (jt0_l jz_c) (jt0_l jz_ni)))) (jt0_n (jt0_n (jt0_l jz_pf) (jt0_l jz_al)) (jt0_n (jt0_l jz_c) (jt0_n (jt0_l jz_ni) (jt0_l jz_pf)))))) (jt0_n (jt0_n (jt0_n (jt0_n (jt0_l jz_al) (jt0_l jz_c)) (jt0_n (jt0_l jz_ni) (jt0_n (jt0_l jz_pf) (jt0_l jz_al)))) (jt0_n (jt0_n (jt0_l jz_c) (jt0_l jz_ni)) (jt0_n (jt0_l jz_pf) (jt0_n (jt0_l jz_al) (jt0_l jz_c))))) (jt0_n (jt0_n (jt0_n (jt0_l jz_ni) (jt0_l jz_pf)) (jt0_n (jt0_l jz_al) (jt0_n (jt0_l jz_c) (jt0_l jz_ni)))) (jt0_n (jt0_n (jt0_l jz_pf) (jt0_l jz_al)) (jt0_n (jt0_l jz_c) (jt0_n (jt0_l jz_ni) (jt0_l jz_pf)))))))) (jt0_n (jt0_n (jt0_n (jt0_n (jt0_n (jt0_n (jt0_l jz_al) (jt0_l jz_c)) (jt0_n (jt0_l jz_ni) (jt0_n (jt0_l jz_pf) (jt0_l jz_al)))) (jt0_n (jt0_n (jt0_l jz_c) (jt0_l jz_ni)) (jt0_n (jt0_l jz_pf) (jt0_n (jt0_l jz_al) (jt0_l jz_c))))) (jt0_n (jt0_n (jt0_n (jt0_l jz_ni) (jt0_l jz_pf)) (jt0_n (jt0_l jz_al) (jt0_n (jt0_l jz_c) (jt0_l jz_nj)))) (jt0_n (jt0_n (jt0_l jz_pf) (jt0_l jz_al)) (jt0_n (jt0_l jz_c) (jt0_n (jt0_l jz_ni) (jt0_l jz_pf)))))) (jt0_n (jt0_n (jt0_n (jt0_n (jt0_l jz_al) (jt0_l jz_c)) (jt0_n (jt0_l jz_ni) (jt0_n (jt0_l jz_pf) (jt0_l jz_al)))) (jt0_n (jt0_n (jt0_l jz_c) (jt0_l jz_ni)) (jt0_n (jt0_l jz_pf) (jt0_n (jt0_l jz_al) (jt0_l jz_c))))) (jt0_n (jt0_n (jt0_n (jt0_l jz_ni) (jt0_l jz_pf)) (jt0_n (jt0_l jz_al) (jt0_n (jt0_l jz_c) (jt0_l jz_ni)))) (jt0_n (jt0_n (jt0_l jz_pf) (jt0_l jz_al)) (jt0_n (jt0_l jz_c) (jt0_n (jt0_l jz_ni) (jt0_l jz_pf))))))) (jt0_n (jt0_n (jt0_n (jt0_n (jt0_n (jt0_l jz_al) (jt0_l jz_c)) (jt0_n (jt0_l jz_ni) (jt0_n (jt0_l jz_pf) (jt0_l jz_al)))) (jt0_n (jt0_n (jt0_l jz_c) (jt0_l jz_ni)) (jt0_n (jt0_l jz_pf) (jt0_n (jt0_l jz_al) (jt0_l jz_c))))) (jt0_n (jt0_n (jt0_n (jt0_l jz_ni) (jt0_l jz_pf)) (jt0_n (jt0_l jz_al) (jt0_n (jt0_l jz_c) (jt0_l jz_ni)))) (jt0_n (jt0_n (jt0_l jz_pf) (jt0_l jz_c)) (jt0_n (jt0_l jz_is) (jt0_n (jt0_l jz_il) (jt0_l jz_c)))))) (jt0_n (jt0_n (jt0_n (jt0_n (jt0_l jz_ic) (jt0_l jz_al)) (jt0_n (jt0_l jz_gf) (jt0_n (jt0_l jz_il) (jt0_l jz_c)))) (jt0_n (jt0_n (jt0_l jz_iw) (jt0_l jz_inc)) (jt0_n (jt0_l jz_go) (jt0_n (jt0_l jz_c) (jt0_l jz_is))))) (jt0_n (jt0_n (jt0_n (jt0_l jz_il) (jt0_l jz_c)) (jt0_n (jt0_l jz_ic) (jt0_n (jt0_l jz_al) (jt0_l jz_gf)))) (jt0_n (jt0_n (jt0_l jz_il) (jt0_n (jt0_l jz_c) (jt0_l jz_iw))) (jt0_n (jt0_l jz_inc) (jt0_n (jt0_l jz_go) (jt0_l trivial)))))))))
theorem jt0_c198 : jt0 jc_198 := (jt0_n (jt0_n (jt0_n (jt0_l jz_c) (jt0_n (jt0_l jz_is) (jt0_l jz_al))) (jt0_n (jt0_n (jt0_l jz_len) (jt0_l jz_is)) (jt0_n (jt0_l jz_il) (jt0_l jz_il)))) (jt0_n (jt0_n (jt0_n (jt0_l jz_ic) (jt0_l jz_al)) (jt0_n (jt0_l jz_il) (jt0_l jz_il))) (jt0_n (jt0_n (jt0_l jz_iw) (jt0_l jz_inc)) (jt0_n (jt0_l jz_go) (jt0_l trivial)))))
theorem jt0_S {M : Nat} (hM : jmkS M = true) : jt0 (jxP M).2 := by
  unfold jmkS at hM
  simp only [Bool.or_eq_true, beq_iff_eq] at hM
  rcases hM with ((((((((((((((((e | e) | e) | e) | e) | e) | e) | e) | e) | e) | e) | e) | e) | e) | e) | e) | e) <;> subst e
  · exact jt0_c0
  · exact jt0_c11
  · exact jt0_c14
  · exact jt0_c21
  · exact jt0_c27
  · exact jt0_c28
  · exact jt0_c29
  · exact jt0_c34
  · exact jt0_c35
  · exact jt0_c44
  · exact jt0_c55
  · exact jt0_c61
  · exact jt0_c67
  · exact jt0_c85
  · exact jt0_c127
  · exact jt0_c129
  · exact jt0_c198
theorem jz_run : ∀ (n d M pc : Nat) (ls st : List Value) (h : jxH) (r : Nat × List Value × jxH), jmkS M = true → h.2.2 0 = jx_no → 0 < h.1 → jx_run jxP n d M pc ls st h = some r → jx_run jxP n d M pc ls st (jx_s0 X h) = some (r.1, r.2.1, jx_s0 X r.2.2) ∧ r.2.2.2.2 0 = jx_no ∧ 0 < r.2.2.1
  | 0, _, _, _, _, _, _, _, _, _, _, e => by simp [jx_run] at e
  | n + 1, d, M, pc, ls, st, h, r, hM, h0, hp, e => by
    rw [jx_run] at e ⊢
    cases hc : (jxP M).2 pc with
    | none => rw [hc] at e; cases e
    | some i =>
      have hi := jt0_S hM pc i hc
      rw [hc] at e
      rcases i with o | ⟨y, k, nx, ck⟩ | q
      · dsimp only at e ⊢
        cases ho : o ls st h with
        | none => rw [ho] at e; cases e
        | some x =>
          rw [ho] at e
          obtain ⟨pc', ls', st', h'⟩ := x
          obtain ⟨q1, q2, q3⟩ := hi X ls st h pc' ls' st' h' h0 hp ho
          rw [q1]
          exact jz_run n d M pc' ls' st' h' r hM q2 q3 e
      · dsimp only at e ⊢
        cases d with
        | zero => cases e
        | succ d' =>
          dsimp only at e ⊢
          by_cases hk : jx_okc k ck st h = true
          · have hk2 : jx_okc k ck st (jx_s0 X h) = true := by
              unfold jx_okc at hk ⊢
              rw [Bool.and_eq_true] at hk ⊢
              refine ⟨hk.1, ?_⟩
              have hk' := hk.2
              cases ck with
              | none => rfl
              | some c =>
                dsimp only at hk' ⊢
                split at hk'
                · next a _ =>
                  rw [beq_iff_eq] at hk'
                  rw [(jz_cl h0 hk').2]
                  exact beq_self_eq_true _
                · cases hk'
            rw [if_pos hk] at e
            rw [if_pos hk2]
            cases hr : jx_run jxP n d' y 0 (jx_ent (jxP y).1 k st) [] h with
            | none => rw [hr] at e; cases e
            | some x =>
              rw [hr] at e
              obtain ⟨a, s1, h1⟩ := x
              obtain ⟨q1, q2, q3⟩ := jz_run n d' y 0 _ _ h _ hi h0 hp hr
              rw [q1]
              exact jz_run n (d' + 1) M nx ls _ h1 r hM q2 q3 e
          · rw [if_neg hk] at e
            cases e
      · dsimp only at e ⊢
        by_cases z : jx_okr q st = true
        · rw [if_pos z] at e ⊢
          cases e
          exact ⟨rfl, h0, hp⟩
        · rw [if_neg z] at e; cases e
end START1
