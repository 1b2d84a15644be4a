/-! ===== the class and the reference answer alike: sheets ===== -/
section PAIR4
variable {d : Nat} {F F' : Nat → Nat → Nat} {A A' : Nat → Nat → Int32} {G : Nat → Option Nat} {g : Nat → Int64} {h h' : jxH}
theorem jI.s (e : jI F A G h) (hF : ∀ o k, (o < 117 ∨ 124 < o) → F' o k = F o k) (hA : ∀ a, (a < 118 ∨ (124 < a ∧ a < 155) ∨ a = 158 ∨ 159 < a) → A' a = A a) (it : jIt F' A') (hE : jE h h') : jI F' A' G h' :=
  ⟨e.ia.fr (fun k hk => ⟨hF _ _ (by omega), hF _ _ (by omega)⟩) (hA _ (by omega)) (hA _ (by omega)) (hA _ (by omega)) (hA _ (by omega)),
   e.ih.fr (fun o k h1 h2 => hF _ _ (by omega)) (hF _ _ (by omega)) (fun a h1 h2 => hA _ (by omega)) (hA _ (by omega)),
   e.is.fr (hA _ (by omega)) (hA _ (by omega)) hE,
   it,
   e.im.fr (fun k hk => ⟨hF _ _ (by omega), hF _ _ (by omega)⟩) (hA _ (by omega)) (fun a ha => hA _ (by omega)),
   e.ib.fr (hF _ _ (by omega)) (fun k hk => hF _ _ (by omega)) (fun a ha => hA _ (by omega)),
   e.ic.fr (hF _ _ (by omega)) (fun k hk => hF _ _ (by omega)) (fun a ha => hA _ (by omega)),
   e.ik.fr (hF _ _ (by omega)) (hF _ _ (by omega)) (fun k hk => hF _ _ (by omega)) (fun a ha => hA _ (by omega)),
   e.iw.fr (hF _ _ (by omega)) (hF _ _ (by omega)) (hA _ (by omega)) (hA _ (by omega)),
   by rw [hF 1 11 (by omega), hF 149 13 (by omega)]; exact e.fd,
   Nat.le_trans e.hp hE.1⟩
theorem jnr.rf {x : Int32} : jnr x x := ⟨rfl, fun _ => rfl⟩
/-- a number cut to its low bits is taken as a place alike, with its sign and without -/
theorem jnr_cut {x y : Int32} {m M : Nat} (hM : 6 ≤ M) (hM2 : M ≤ 65536) (hm : m < M) (ex : x.toInt = m) (ey : y.toInt = if 2 * m < M then (m : Int) else m - M) : jnr x y := by
  have x' : x = nI m := Int32.toInt_inj.mp (by rw [ex, nI_toInt (by omega)])
  by_cases z : 2 * m < M
  · rw [if_pos z] at ey
    have y' : y = nI m := Int32.toInt_inj.mp (by rw [ey, nI_toInt (by omega)])
    rw [x', y']
    exact jnr.rf
  · rw [if_neg z] at ey
    have yn : y < 0 := by
      rw [Int32.lt_iff_toInt_lt, ey]
      show (m : Int) - M < 0
      omega
    have y3 : ¬ jbel y 3 = true := jbel_a yn
    have x3 : ¬ jbel x 3 = true := by
      rw [x']
      intro w
      obtain ⟨j, hj, ej⟩ := (jbel_iff (by omega)).mp w
      rw [jn_eq (by omega) (by omega)] at ej
      omega
    exact ⟨by rw [Bool.not_eq_true] at x3 y3; rw [x3, y3], fun w => absurd w y3⟩
theorem jmsk_nr {b : Nat} (hb : b = 8 ∨ b = 16 ∨ b = 32) (v : Int32) : jnr (jmsk b v) (jtrc b v) := by
  have hn : v.toInt = Int.bmod v.toBitVec.toNat (2 ^ 32) := BitVec.toInt_eq_toNat_bmod v.toBitVec
  rcases hb with e | e | e <;> subst e
  · refine jnr_cut (m := v.toBitVec.toNat % 256) (M := 256) (by omega) (by omega) (by omega) ?_ ?_
    · unfold jmsk
      rw [if_neg (by decide), show nI 1 <<< (nI 8 &&& 31) - nI 1 = nI 255 by decide +kernel]
      have t : (v &&& nI 255).toBitVec.toNat = v.toBitVec.toNat % 256 := by
        rw [Int32.toBitVec_and, BitVec.toNat_and, show (nI 255).toBitVec.toNat = 2 ^ 8 - 1 by decide +kernel, Nat.and_two_pow_sub_one_eq_mod]
      have q : (v &&& nI 255).toInt = Int.bmod (v &&& nI 255).toBitVec.toNat (2 ^ 32) := BitVec.toInt_eq_toNat_bmod _
      rw [q, t, Int.bmod_def]
      generalize v.toBitVec.toNat = n
      split <;> omega
    · unfold jtrc
      rw [if_pos rfl, Int8.toInt_toInt32, Int32.toInt_toInt8, hn, Int.bmod_def, Int.bmod_def]
      generalize v.toBitVec.toNat = n
      split <;> split <;> split <;> omega
  · refine jnr_cut (m := v.toBitVec.toNat % 65536) (M := 65536) (by omega) (by omega) (by omega) ?_ ?_
    · unfold jmsk
      rw [if_neg (by decide), show nI 1 <<< (nI 16 &&& 31) - nI 1 = nI 65535 by decide +kernel]
      have t : (v &&& nI 65535).toBitVec.toNat = v.toBitVec.toNat % 65536 := by
        rw [Int32.toBitVec_and, BitVec.toNat_and, show (nI 65535).toBitVec.toNat = 2 ^ 16 - 1 by decide +kernel, Nat.and_two_pow_sub_one_eq_mod]
      have q : (v &&& nI 65535).toInt = Int.bmod (v &&& nI 65535).toBitVec.toNat (2 ^ 32) := BitVec.toInt_eq_toNat_bmod _
      rw [q, t, Int.bmod_def]
      generalize v.toBitVec.toNat = n
      split <;> omega
    · unfold jtrc
      rw [if_neg (by decide), if_pos rfl, Int16.toInt_toInt32, Int32.toInt_toInt16, hn, Int.bmod_def, Int.bmod_def]
      generalize v.toBitVec.toNat = n
      split <;> split <;> split <;> omega
  · exact jnr.rf
theorem jp_sheet (hZ : jZ h) (s b n : Int32) : jPr (d + 16) 94 [.ref 1, .int s, .int b, .int n, jx_u] 149 [.ref 149, .int s, .int b, .int n, jx_u] h := by
  obtain ⟨F, A, G, g, hR, hI⟩ := hZ
  cases e : jshA s b n with
  | some x => exact jPr.f (x := x) hR hI (fun Q k => tb_sheet_f hR e k) (fun F1 h1 Q _ hR1 k => md_sheet_f hR1 e k)
  | none =>
    unfold jshA at e
    by_cases z : jbel s 4 = true ∧ (b = 0 ∨ b = nI 8 ∨ b = nI 16 ∨ b = nI 32)
    · rw [if_pos z] at e
      by_cases z1 : n < 0
      · rw [if_pos z1] at e; cases e
      · rw [if_neg z1] at e
        by_cases z2 : nI 30 < n
        · rw [if_pos z2] at e; cases e
        · obtain ⟨s', hs, es⟩ := (jbel_iff (by omega)).mp z.1
          obtain ⟨n', hn, en⟩ := nI_of z1
          rw [en, nI_ltI (by omega) (by omega)] at z2
          obtain ⟨b', hb, eb⟩ : ∃ b', (b' = 0 ∨ b' = 8 ∨ b' = 16 ∨ b' = 32) ∧ b = nI b' := by
            rcases z.2 with q | q | q | q
            · exact ⟨0, by omega, q⟩
            · exact ⟨8, by omega, q⟩
            · exact ⟨16, by omega, q⟩
            · exact ⟨32, by omega, q⟩
          subst es; subst en; subst eb
          clear z e z1
          unfold jPr
          refine tb_sheet_t hR hs hb (by omega) (fun h1 nu hnu hR1 hD1 => ⟨_, rfl, jmid hR1 (hD1.2.2 0 (.inr rfl)), ?_⟩)
          refine md_sheet_t hR1 hs hb (by omega) (fun h2 nu2 hn1 hn2 hR2 hD2 => ⟨rfl, ⟨_, _, _, _, hR2, ?_⟩, (hD1.tr hD2).jE.jLg⟩)
          generalize ez : (if b' = 0 then 0 else n') = z' at *
          have hz : z' ≤ 30 := by rw [← ez]; split <;> omega
          refine hI.s (fun o k ho => by rw [jup_ne (by omega), jup_ne (by omega)]) (fun a ha => by rw [jua_ne (by omega), jua_ne (by omega), jua_ne (by omega), jua_ne (by omega)]) (fun t ht => ?_) (hD1.tr hD2).jE
          obtain ⟨i1, i2, i3, i4, i5⟩ := hI.it t ht
          rw [jua_ne (show (155 : Nat) ≠ 157 by omega), jua_ne (show (155 : Nat) ≠ 156 by omega), jua_same, jua_ne (show (156 : Nat) ≠ 157 by omega), jua_same, jua_same, jua_ne (show 118 + 2 * t ≠ 157 by omega), jua_ne (show 118 + 2 * t ≠ 156 by omega), jua_ne (show 118 + 2 * t ≠ 155 by omega), jua_ne (show (155 : Nat) ≠ 118 + 2 * s' by omega), jua_ne (show (156 : Nat) ≠ 118 + 2 * s' by omega)]
          rw [jua_ne (show (157 : Nat) ≠ 118 + 2 * s' by omega)] at hn2
          by_cases q : t = s'
          · subst q
            rw [jup_same, jup_ne (by omega), jup_same, jua_same, jupd_same, jupd_same]
            refine ⟨rfl, rfl, hb, hz, fun i hi => ?_⟩
            rw [hnu i hi, hn1 i hi]
            exact jnr.rf
          · rw [jup_ne (by omega), jup_ne (by omega), jup_ne (by omega), jup_ne (by omega), jua_ne (by omega), jupd_ne q, jupd_ne q]
            refine ⟨i1, i2, i3, i4, fun i hi => ?_⟩
            rw [hn2 _ (by omega)]
            exact i5 i hi
    · rw [if_neg z] at e; cases e
theorem jp_write (hZ : jZ h) (s i v : Int32) : jPr (d + 16) 95 [.ref 1, .int s, .int i, .int v] 150 [.ref 149, .int s, .int i, .int v] h := by
  obtain ⟨F, A, G, g, hR, hI⟩ := hZ
  have hB : ∀ s, s < 4 → F (117 + 2 * s) 0 ≤ 32 ∧ F (117 + 2 * s) 1 ≤ 30 := fun s hs => by
    obtain ⟨i1, i2, i3, i4, i5⟩ := hI.it s hs
    exact ⟨by omega, i4⟩
  have hB2 : ∀ s, s < 4 → A 155 s = nI ((fun s => F (117 + 2 * s) 0) s) ∧ A 156 s = nI ((fun s => F (117 + 2 * s) 1) s) ∧ (fun s => F (117 + 2 * s) 0) s ≤ 32 ∧ (fun s => F (117 + 2 * s) 1) s ≤ 30 := fun s hs => by
    obtain ⟨i1, i2, i3, i4, i5⟩ := hI.it s hs
    exact ⟨i1, i2, by dsimp only; omega, i4⟩
  cases e : jwrA (fun s => F (117 + 2 * s) 0) (fun s => F (117 + 2 * s) 1) s i with
  | some x => exact jPr.f (x := x) hR hI (fun Q k => tb_write_f hR hB e k) (fun F1 h1 Q _ hR1 k => md_write_f hR1 hB2 e k)
  | none =>
    unfold jwrA at e
    by_cases z : jbel s 4 = true
    · rw [if_pos z] at e
      obtain ⟨s', hs, es⟩ := (jbel_iff (by omega)).mp z
      subst es
      rw [jn_cl (by omega)] at e
      dsimp only at e
      obtain ⟨i1, i2, i3, i4, i5⟩ := hI.it s' hs
      by_cases z1 : F (117 + 2 * s') 0 = 0
      · rw [if_pos z1] at e; cases e
      · rw [if_neg z1] at e
        by_cases z2 : jbel i (F (117 + 2 * s') 1) = true
        · obtain ⟨i', hi, ei⟩ := (jbel_iff (by omega)).mp z2
          subst ei
          clear z e z2
          unfold jPr
          refine tb_write_t hR hs (by omega) i4 hi (fun h1 hR1 hD1 => ⟨_, rfl, jmid hR1 (hD1.2.2 0 (.inr rfl)), ?_⟩)
          refine md_write_t (b := F (117 + 2 * s') 0) (z := F (117 + 2 * s') 1) hR1 hs (by rw [jua_ne (by omega)]; exact i1) (by rw [jua_ne (by omega)]; exact i2) (by omega) i4 hi (fun h2 hR2 hD2 => ⟨rfl, ⟨_, _, _, _, hR2, ?_⟩, (hD1.tr hD2).jE.jLg⟩)
          refine hI.s (fun o k ho => rfl) (fun a ha => by rw [jua_ne (by omega), jua_ne (by omega)]) (fun t ht => ?_) (hD1.tr hD2).jE
          obtain ⟨j1, j2, j3, j4, j5⟩ := hI.it t ht
          rw [jua_ne (show (155 : Nat) ≠ 157 by omega), jua_ne (show (155 : Nat) ≠ 118 + 2 * s' by omega), jua_ne (show (156 : Nat) ≠ 157 by omega), jua_ne (show (156 : Nat) ≠ 118 + 2 * s' by omega), jua_same, jua_ne (show 118 + 2 * t ≠ 157 by omega), jua_ne (show (157 : Nat) ≠ 118 + 2 * s' by omega)]
          refine ⟨j1, j2, j3, j4, fun i0 hi0 => ?_⟩
          by_cases q : t = s'
          · subst q
            rw [jua_same]
            by_cases q2 : i0 = i'
            · subst q2
              rw [jupd_same, jupd_same]
              exact jmsk_nr (by omega) v
            · rw [jupd_ne q2, jupd_ne (by omega)]
              exact j5 i0 hi0
          · rw [jua_ne (by omega), jupd_ne (by omega)]
            exact j5 i0 hi0
        · rw [if_neg z2] at e; cases e
    · rw [if_neg z] at e; cases e
theorem jp_copy (hZ : jZ h) (s x t y n : Int32) : jPr (d + 16) 96 [.ref 1, .int s, .int x, .int t, .int y, .int n, jx_u, jx_u] 152 [.ref 149, .int s, .int x, .int t, .int y, .int n, jx_u] h := by
  obtain ⟨F, A, G, g, hR, hI⟩ := hZ
  have hB : ∀ s, s < 4 → F (117 + 2 * s) 0 ≤ 32 ∧ F (117 + 2 * s) 1 ≤ 30 := fun s hs => by
    obtain ⟨i1, i2, i3, i4, i5⟩ := hI.it s hs
    exact ⟨by omega, i4⟩
  have hB2 : ∀ s, s < 4 → A 155 s = nI ((fun s => F (117 + 2 * s) 0) s) ∧ A 156 s = nI ((fun s => F (117 + 2 * s) 1) s) ∧ (fun s => F (117 + 2 * s) 0) s ≤ 32 ∧ (fun s => F (117 + 2 * s) 1) s ≤ 30 := fun s hs => by
    obtain ⟨i1, i2, i3, i4, i5⟩ := hI.it s hs
    exact ⟨i1, i2, by dsimp only; omega, i4⟩
  cases e : jcpA (fun s => F (117 + 2 * s) 0) (fun s => F (117 + 2 * s) 1) s x t y n with
  | some w => exact jPr.f (x := w) hR hI (fun Q k => tb_copy_f hR hB e k) (fun F1 h1 Q _ hR1 k => md_copy_f hR1 hB2 e k)
  | none =>
    unfold jcpA at e
    by_cases z : jbel s 4 = true ∧ jbel t 4 = true
    · rw [if_pos z] at e
      obtain ⟨s', hs, es⟩ := (jbel_iff (by omega)).mp z.1
      obtain ⟨t', ht, et⟩ := (jbel_iff (by omega)).mp z.2
      subst es; subst et
      rw [jn_cl (by omega), jn_cl (by omega)] at e
      dsimp only at e
      obtain ⟨i1, i2, i3, i4, i5⟩ := hI.it s' hs
      obtain ⟨j1, j2, j3, j4, j5⟩ := hI.it t' ht
      by_cases z1 : F (117 + 2 * s') 0 = 0 ∨ F (117 + 2 * t') 0 = 0
      · rw [if_pos z1] at e; cases e
      · rw [if_neg z1] at e
        by_cases z2 : F (117 + 2 * s') 0 = F (117 + 2 * t') 0
        · rw [if_pos z2] at e
          by_cases z3 : jhp (F (117 + 2 * s') 1) x n = true ∧ jhp (F (117 + 2 * t') 1) y n = true
          · obtain ⟨x', n', ex, en, hx⟩ := jhp_t i4 z3.1
            obtain ⟨y', n2, ey, en2, hy⟩ := jhp_t j4 z3.2
            rw [en, nI_eq (by omega) (by omega)] at en2
            subst en2; subst ex; subst ey; subst en
            clear z e z3
            unfold jPr
            refine tb_copy_t hR hs ht (by omega) (by omega) z2 i4 j4 hx hy (fun h1 hR1 hD1 => ⟨_, rfl, jmid hR1 (hD1.2.2 0 (.inr rfl)), ?_⟩)
            refine md_copy_t (b := F (117 + 2 * s') 0) (z := F (117 + 2 * s') 1) (z' := F (117 + 2 * t') 1) hR1 hs ht (by rw [jua_ne (by omega)]; exact i1) (by rw [jua_ne (by omega), z2]; exact j1) (by rw [jua_ne (by omega)]; exact i2) (by rw [jua_ne (by omega)]; exact j2) (by omega) (by omega) i4 j4 hx hy (fun h2 nu ca hnu hR2 hD2 => ⟨rfl, ⟨_, _, _, _, hR2, ?_⟩, (hD1.tr hD2).jE.jLg⟩)
            rw [jua_ne (by omega)] at hnu
            refine hI.s (fun o k ho => rfl) (fun a ha => by rw [jua_ne (by omega), jua_ne (by omega), jua_ne (by omega)]) (fun u hu => ?_) (hD1.tr hD2).jE
            obtain ⟨k1, k2, k3, k4, k5⟩ := hI.it u hu
            rw [jua_ne (show (155 : Nat) ≠ 159 by omega), jua_ne (show (155 : Nat) ≠ 157 by omega), jua_ne (show (155 : Nat) ≠ 118 + 2 * t' by omega), jua_ne (show (156 : Nat) ≠ 159 by omega), jua_ne (show (156 : Nat) ≠ 157 by omega), jua_ne (show (156 : Nat) ≠ 118 + 2 * t' by omega), jua_ne (show (157 : Nat) ≠ 159 by omega), jua_same, jua_ne (show 118 + 2 * u ≠ 159 by omega), jua_ne (show 118 + 2 * u ≠ 157 by omega)]
            refine ⟨k1, k2, k3, k4, fun i hi => ?_⟩
            rw [hnu]
            by_cases q : u = t'
            · subst q
              rw [jua_same]
              unfold va_cpy
              by_cases q2 : y' ≤ i ∧ i < y' + n'
              · rw [if_pos q2, if_pos (by omega), show 30 * s' + x' + (30 * u + i - (30 * u + y')) = 30 * s' + (x' + (i - y')) by omega]
                exact i5 _ (by omega)
              · rw [if_neg q2, if_neg (by omega)]
                exact j5 i hi
            · rw [jua_ne (by omega), if_neg (by omega)]
              exact k5 i hi
          · rw [if_neg z3] at e; cases e
        · rw [if_neg z2] at e; cases e
    · rw [if_neg z] at e; cases e
end PAIR4
