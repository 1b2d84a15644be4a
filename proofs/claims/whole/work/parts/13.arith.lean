/-! ===== numbers for walks ===== -/
section JN
variable {a b n k : Nat}
theorem jn_ltT (h : a < b) (hb : b < 2147483648) : (nI a < nI b) = True := eq_true (nI_lt h (by omega))
theorem jn_ltF (h : b ≤ a) (ha : a < 2147483648) : (nI a < nI b) = False := eq_false (nI_nlt h (by omega))
theorem jn_leT (h : a ≤ b) (hb : b < 2147483648) : (nI a ≤ nI b) = True := eq_true (nI_le h (by omega))
theorem jn_leF (h : b < a) (ha : a < 2147483648) : (nI a ≤ nI b) = False := eq_false (nI_ge h (by omega))
theorem jn_eqT (h : a = b) : (nI a = nI b) = True := eq_true (by rw [h])
theorem jn_eqF (h : a ≠ b) (ha : a < 2147483648) (hb : b < 2147483648) : (nI a = nI b) = False := eq_false (fun e => h ((nI_eq (by omega) (by omega)).mp e))
theorem jn_lt0 (ha : a < 2147483648) : (nI a < 0) = False := eq_false (nI_pos (by omega))
theorem jn_ge0 (ha : a < 2147483648) : (0 ≤ nI a) = True := eq_true (nI_pos' (by omega))
theorem jn_gt0T (h : 0 < a) (ha : a < 2147483648) : (0 < nI a) = True := by
  have := jn_ltT h ha
  exact this
theorem jn_gt0F (h : a = 0) : (0 < nI a) = False := by subst h; decide
theorem jn_le0T (h : a = 0) : (nI a ≤ 0) = True := by subst h; decide
theorem jn_le0F (h : 0 < a) (ha : a < 2147483648) : (nI a ≤ 0) = False := eq_false (nI_nle h (by omega))
theorem jn_eq0T (h : a = 0) : (nI a = 0) = True := by subst h; decide
theorem jn_eq0F (h : 0 < a) (ha : a < 2147483648) : (nI a = 0) = False := eq_false (nI_ne0 h (by omega))
theorem jn_lt (ha : a < 2147483648) (hb : b < 2147483648) : (nI a < nI b) = (a < b) := propext (nI_ltI (by omega) (by omega))
theorem jn_le (ha : a < 2147483648) (hb : b < 2147483648) : (nI a ≤ nI b) = (a ≤ b) := propext (nI_leI (by omega) (by omega))
theorem jn_eq (ha : a < 2147483648) (hb : b < 2147483648) : (nI a = nI b) = (a = b) := propext (nI_eq (by omega) (by omega))
theorem jn_in (h : k < n) (hn : n ≤ 2147483648) : jx_in (nI k) n = True := by
  refine eq_true ⟨nI_pos (by omega), ?_⟩
  rw [nI_clamp (by omega)]
  exact h
theorem jn_cl (h : k < 2147483648) : (nI k).toNatClampNeg = k := nI_clamp (by omega)
theorem jn_sub (h : b ≤ a) : nI a - nI b = nI (a - b) := pk_sub h
theorem jn_m1 (h : 0 < a) : nI a + -1 = nI (a - 1) := by
  obtain ⟨c, rfl⟩ : ∃ c, a = c + 1 := ⟨a - 1, by omega⟩
  rw [pk_m1, Nat.add_sub_cancel]
theorem jn_div (ha : a < 2147483648) (h0 : 0 < b) (hb : b < 2147483648) : nI a / nI b = nI (a / b) := pk_div (by omega) h0 (by omega)
theorem jn_rem (ha : a < 2147483648) (h0 : 0 < b) (hb : b < 2147483648) : nI a - nI a / nI b * nI b = nI (a % b) := pk_rem (by omega) h0 (by omega)
end JN
/-- a walk from i on to the end e -/
theorem jloop (P : Nat → Prop) (e : Nat) (he : P e) (hs : ∀ i, i < e → P (i + 1) → P i) : ∀ i, i ≤ e → P i := by
  have key : ∀ k i, i + k = e → P i := by
    intro k
    induction k with
    | zero => intro i hi; rw [show i = e by omega]; exact he
    | succ k ih => intro i hi; exact hs i (by omega) (ih (i + 1) (by omega))
  intro i hi
  exact key (e - i) i (by omega)
/-- a sum over the numbers below n -/
def jsum (n : Nat) (g : Nat → Nat) : Nat := match n with
  | 0 => 0
  | n + 1 => jsum n g + g n
theorem jsum_0 {g : Nat → Nat} : jsum 0 g = 0 := rfl
theorem jsum_s {n : Nat} {g : Nat → Nat} : jsum (n + 1) g = jsum n g + g n := rfl
