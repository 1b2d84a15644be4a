/-! ===== tables that agree within have the same answers ===== -/
section AG1
def jAg (v v' : Nat → Int32) (R C : Nat) : Prop := ∀ r c, r < R → c < C → v (5 * r + c) = v' (5 * r + c)
variable {v v' : Nat → Int32} {R C : Nat}
theorem jAg.sy (e : jAg v v' R C) : jAg v' v R C := fun r c h1 h2 => (e r c h1 h2).symm
theorem jAg.tr {v2 : Nat → Int32} (e : jAg v v' R C) (e2 : jAg v' v2 R C) : jAg v v2 R C := fun r c h1 h2 => (e r c h1 h2).trans (e2 r c h1 h2)
theorem jAg.rf : jAg v v R C := fun _ _ _ _ => rfl
theorem jany_congr {n : Nat} {f f' : Nat → Bool} (e : ∀ i, i < n → f i = f' i) : jany n f = jany n f' := by
  induction n with
  | zero => rfl
  | succ n ih => rw [jany_s, jany_s, ih (fun i hi => e i (by omega)), e n (by omega)]
theorem jAg.cnt (e : jAg v v' R C) (x : Int32) : jcnt v R C x = jcnt v' R C x := by
  unfold jcnt
  exact jsum_congr (fun r hr => jsum_congr (fun c hc => by rw [e r c hr hc]))
theorem jAg.kind (e : jAg v v' R C) : jkind v R C = jkind v' R C := by
  unfold jkind
  rw [e.cnt]
theorem jAg.mo (e : jAg v v' R C) (x : Nat) (u : Int32) : jmo v R C x u = jmo v' R C x u := by
  unfold jmo
  exact jmk_congr C (fun c hc => jany_congr (fun r hr => by rw [e r c hr hc]))
theorem jAg.mk {F : Nat → Nat → Nat} {A : Nat → Nat → Int32} (e : jAg v v' R C) (m : jMk F A v R C) : jMk F A v' R C := by
  refine ⟨m.1, m.2.1, fun x h1 h2 => ?_⟩
  rw [← e.mo, ← e.mo]
  exact m.2.2 x h1 h2
theorem jAg.unl (e : jAg v v' R C) {b : Nat} : junl v R C b = junl v' R C b := by
  unfold junl
  refine jsum_congr (fun a ha => ?_)
  have : (jall a fun x => !jall (if b = 0 then C else R) fun k => v (if b = 0 then 5 * a + k else 5 * k + a) == v (if b = 0 then 5 * x + k else 5 * k + x)) = (jall a fun x => !jall (if b = 0 then C else R) fun k => v' (if b = 0 then 5 * a + k else 5 * k + a) == v' (if b = 0 then 5 * x + k else 5 * k + x)) := by
    refine jall_congr (fun x hx => ?_)
    congr 1
    refine jall_congr (fun k hk => ?_)
    by_cases z : b = 0
    · simp only [if_pos z] at *
      rw [e a k ha hk, e x k (by omega) hk]
    · simp only [if_neg z] at *
      rw [e k a hk ha, e k x hk (by omega)]
  rw [this]
theorem jAg.wo (e : jAg v v' R C) {W : Nat → Nat} (B : Nat) (x : Int32) : jwo v W R C B x = jwo v' W R C B x := by
  unfold jwo
  exact jsum_congr (fun r hr => jsum_congr (fun c hc => by rw [e r c hr hc]))
theorem jAg.sw (e : jAg v v' R C) {W : Nat → Nat} (n : Nat) : jsw v W R C n = jsw v' W R C n := by
  induction n with
  | zero => rfl
  | succ n ih =>
    rw [jsw_s, jsw_s, ih]
    unfold jdf
    rw [e.wo, e.wo]
theorem jAg.wr (e : jAg v v' R C) {W : Nat → Nat} (n : Nat) : jwr v W R C n = jwr v' W R C n := by
  have e0 : jw0 v W R C = jw0 v' W R C := by
    funext B
    unfold jw0
    rw [e.wo, e.wo]
  induction n with
  | zero => exact e0
  | succ n ih =>
    show (fun B => jbst (fun a b => a + b) (jwr v W R C n) (B / 32) (B % 32) 32 (jw0 v W R C B)) = fun B => jbst (fun a b => a + b) (jwr v' W R C n) (B / 32) (B % 32) 32 (jw0 v' W R C B)
    rw [ih, e0]
theorem jAg.hz (e : jAg v v' R C) (B : Nat) (x : Int32) : jhz v R C B x = jhz v' R C B x := by
  unfold jhz
  exact jany_congr (fun r hr => jany_congr (fun c hc => by rw [e r c hr hc]))
theorem jAg.ev (e : jAg v v' R C) (B : Nat) : jev v R C B = jev v' R C B := by
  unfold jev jhas
  rw [e.hz, e.hz]
theorem jAg.foB (e : jAg v v' R C) (hr : R ≤ 5) (hc : C ≤ 5) {n : Nat} {num num' : Nat → Int32} (en : ∀ i, i < n → num i = num' i) {u : Int32} (hf : jfoA R C n num u = true) : jfoB v R C n num u = jfoB v' R C n num' u := by
  unfold jfoA at hf
  rw [Bool.and_eq_true] at hf
  have hp := jall_iff.mp hf.2
  unfold jfoB
  refine jall_congr (fun i hi => ?_)
  obtain ⟨p, h1, h2, h3, h4⟩ := jnp_p hr hc (hp i hi)
  have e1 : v (num i).toNatClampNeg = v' (num i).toNatClampNeg := by
    rw [h2, jn_cl (by omega)]
    have := e (p / 5) (p % 5) h3 h4
    rwa [show 5 * (p / 5) + p % 5 = p by omega] at this
  rw [e1, ← en i hi]
  congr 1
  refine jall_congr (fun j hj => ?_)
  rw [← en j (by omega)]
  unfold jlie
  rw [e.ev]
theorem jfoA_congr {n : Nat} {num num' : Nat → Int32} (en : ∀ i, i < n → num i = num' i) {u : Int32} : jfoA R C n num u = jfoA R C n num' u := by
  unfold jfoA
  congr 1
  exact jall_congr (fun i hi => by rw [en i hi])
theorem jAg.sm (e : jAg v v' R C) {s s' : Nat → Int32} (e' : jAg s s' R C) (hr : R ≤ 5) (hc : C ≤ 5) (hr1 : 1 ≤ R) (hc1 : 1 ≤ C) : jsm v s R C = jsm v' s' R C := by
  rw [Bool.eq_iff_iff, jsm_iff hr hc hr1 hc1, jsm_iff hr hc hr1 hc1]
  refine exists_congr fun a => exists_congr fun b => and_congr_right fun ha => and_congr_right fun hb => ?_
  refine forall_congr' fun r => forall_congr' fun c => forall_congr' fun h1 => forall_congr' fun h2 => ?_
  rw [e r c h1 h2, e' (a r) (b c) (ha.1 r h1) (hb.1 c h2)]
theorem jAg.jv (e : jAg v v' R C) (hv : jV v R C) : jV v' R C := fun r c h1 h2 => by
  rw [← e r c h1 h2]
  exact hv r c h1 h2
theorem jAg.rs (e : jAg v v' R C) (hC : C ≤ 5) {fr : Bool} : (jrs fr R C (fun q => (v q).toInt) C).1 = (jrs fr R C (fun q => (v' q).toInt) C).1 := by
  refine (jrs_congr hC (fun q h1 h2 => ?_) C (Nat.le_refl _)).1
  have := e (q / 5) (q % 5) h1 h2
  rw [show 5 * (q / 5) + q % 5 = q by omega] at this
  show (v q).toInt = (v' q).toInt
  rw [this]
theorem jck_congr {wt wt' : Nat → Int32} {n : Nat} (e : ∀ i, i < n → wt i = wt' i) : ∀ f k B D b, jck v R C wt n f k B D b = jck v R C wt' n f k B D b := by
  intro f
  induction f with
  | zero => intro k B D b; rfl
  | succ f ih =>
    intro k B D b
    rw [jck, jck]
    by_cases h : n ≤ 2 * k + 1
    · rw [if_pos h, if_pos h]
    · rw [if_neg h, if_neg h, e (2 * k) (by omega), e (2 * k + 1) (by omega)]
      simp only [ih]
theorem jchk_congr {wt wt' : Nat → Int32} {n : Nat} (e : ∀ i, i < n → wt i = wt' i) : jchk v R C wt n = jchk v R C wt' n := by
  unfold jchk
  rw [jck_congr e]
end AG1
