/-! ===== the reference: fools ===== -/
section MD23
variable {d : Nat} {F : Nat → Nat → Nat} {A : Nat → Nat → Int32} {G : Nat → Option Nat} {g : Nat → Int64} {h : jxH} {Q : List Value → jxH → Prop}
/-- a number that is a place -/
def jnp (R C : Nat) (x : Int32) : Bool := decide (¬ x < 0) && decide (jbel (x / nI 5) R = true ∧ jbel (x - x / nI 5 * nI 5) C = true)
theorem jnp_p {R C : Nat} {x : Int32} (hr : R ≤ 5) (hc : C ≤ 5) (e : jnp R C x = true) : ∃ p, p < 25 ∧ x = nI p ∧ p / 5 < R ∧ p % 5 < C := by
  unfold jnp at e
  rw [Bool.and_eq_true, decide_eq_true_iff, decide_eq_true_iff] at e
  obtain ⟨e0, e1, e2⟩ := e
  have hx : x = nI x.toNatClampNeg ∧ x.toNatClampNeg < 2147483648 := by
    have t : (0 : Int) ≤ x.toInt := by
      rw [Int32.lt_iff_toInt_lt] at e0
      have : (0 : Int32).toInt = 0 := rfl
      omega
    have t2 := Int32.toInt_lt x
    have t3 : x.toNatClampNeg = x.toInt.toNat := rfl
    refine ⟨?_, by omega⟩
    apply Int32.toInt_inj.mp
    rw [nI_toInt (by omega)]
    omega
  obtain ⟨hx1, hx2⟩ := hx
  generalize x.toNatClampNeg = p at hx1 hx2
  subst hx1
  have d1 : nI p / nI 5 = nI (p / 5) := jn_div hx2 (by omega) (by omega)
  have d2 : nI p - nI p / nI 5 * nI 5 = nI (p % 5) := jn_rem hx2 (by omega) (by omega)
  rw [d2] at e2
  rw [d1] at e1
  obtain ⟨a, ha, ea⟩ := (jbel_iff (by omega)).mp e1
  obtain ⟨b, hb, eb⟩ := (jbel_iff (by omega)).mp e2
  have := (nI_eq (by omega) (by omega)).mp ea
  have := (nI_eq (by omega) (by omega)).mp eb
  exact ⟨p, by omega, rfl, by omega, by omega⟩
/-- all that wait are places -/
def jfoA (R C n : Nat) (num : Nat → Int32) (v : Int32) : Bool := jbel v 2 && jall n fun i => jnp R C (num i)
/-- no two lie together, all are v -/
def jfoB (pl : Nat → Int32) (R C n : Nat) (num : Nat → Int32) (v : Int32) : Bool := jall n fun i => (pl (num i).toNatClampNeg == v) && jall i fun j => !(num j == num i) && !jlie pl R C (num j).toNatClampNeg (num i).toNatClampNeg
end MD23
