/-! ===== a new task: what holds after it ===== -/
section PAIR5
variable {d : Nat} {F F1 F2 : Nat → Nat → Nat} {A A1 A2 : Nat → Nat → Int32} {G : Nat → Option Nat} {g : Nat → Int64} {h h1 h2 : jxH}
theorem jHq.sh {i i' c : Nat} (e : jHq F A i c) (f0 : F1 (9 + 3 * c) 0 = F (9 + 3 * c) 0) (f1 : F1 (9 + 3 * c) 1 = F (9 + 3 * c) 1) (a0 : A1 (10 + 3 * c) = A (10 + 3 * c)) (a1 : A1 (11 + 3 * c) = A (11 + 3 * c)) (a2 : ∀ j, j < 52 → A1 152 (52 * i' + j) = A 152 (52 * i + j)) : jHq F1 A1 i' c := by
  obtain ⟨e1, e2, e3, e4, e5, e6, e7, e8, e9, e10⟩ := e
  have b0 := a2 0 (by omega)
  rw [Nat.add_zero, Nat.add_zero] at b0
  unfold jHq
  rw [f0, f1, a0, a1, b0, a2 1 (by omega)]
  have bb : ∀ r c, r < 5 → c < 5 → A1 152 (52 * i' + 2 + (5 * r + c)) = A 152 (52 * i + 2 + (5 * r + c)) := fun r c h1 h2 => by
    rw [Nat.add_assoc (52 * i') 2, Nat.add_assoc (52 * i) 2]
    exact a2 _ (by omega)
  have bw : ∀ r c, r < 5 → c < 5 → A1 152 (52 * i' + 27 + (5 * r + c)) = A 152 (52 * i + 27 + (5 * r + c)) := fun r c h1 h2 => by
    rw [Nat.add_assoc (52 * i') 27, Nat.add_assoc (52 * i) 27]
    exact a2 _ (by omega)
  refine ⟨e1, e2, e3, e4, e5, e6, fun r c h1 h2 => ?_, fun r c h1 h2 => ?_, fun r c h1 h2 => ?_, fun r c h1 h2 => ?_⟩
  · rw [e7 r c h1 h2]; exact (bb r c (by omega) (by omega)).symm
  · rw [e8 r c h1 h2]; exact (bw r c (by omega) (by omega)).symm
  · have := e9 r c h1 h2
    dsimp only at this ⊢
    rwa [bb r c (by omega) (by omega)]
  · have := e10 r c h1 h2
    dsimp only at this ⊢
    rwa [bw r c (by omega) (by omega)]
theorem jHst.fr (e : jHst F A F1 A1) (hp : F 7 1 < 30) (hF : ∀ o k, 7 ≤ o → o < 97 → F2 o k = F1 o k) (hA : ∀ a, 8 ≤ a → a < 99 → A2 a = A1 a) : jHst F A F2 A2 := by
  obtain ⟨e1, e2, e3, e4, e5, e6⟩ := e
  refine ⟨by rw [hF 7 1 (by omega) (by omega)]; exact e1, by rw [hF 7 2 (by omega) (by omega)]; exact e2, by rw [hF _ 0 (by omega) (by omega)]; exact e3, by rw [hF _ 1 (by omega) (by omega)]; exact e4, fun j hj => ?_, fun i hi n => ?_⟩
  · rw [hA _ (by omega) (by omega), hA _ (by omega) (by omega)]
    exact e5 j hj
  · rw [hF _ 0 (by omega) (by omega), hF _ 1 (by omega) (by omega), hA _ (by omega) (by omega), hA _ (by omega) (by omega)]
    exact e6 i hi n
/-- the task that is put away last -/
theorem jHq.new (ia : jIa F A) (hst : jHst F A F1 A1) {i : Nat} {f0 : Nat → Int32} (e : A1 152 = jsv f0 (52 * i) (F 149 0) (F 149 1) (A 150) (A 151) 25) : jHq F1 A1 i (F 7 1) := by
  obtain ⟨a1, a2, r1, r5, c1, c5, a3, a4, a5, a6⟩ := ia
  obtain ⟨_, _, s0, s1, s2, _⟩ := hst
  have p0 : ∀ r c, r < 5 → c < 5 → A1 152 (52 * i + 2 + (5 * r + c)) = A 150 (5 * r + c) := fun r c h1 h2 => by
    rw [e]
    unfold jsv
    rw [if_neg (by omega), if_neg (by omega), if_pos (by omega)]
    congr 1
    omega
  have p1 : ∀ r c, r < 5 → c < 5 → A1 152 (52 * i + 27 + (5 * r + c)) = A 151 (5 * r + c) := fun r c h1 h2 => by
    rw [e]
    unfold jsv
    rw [if_neg (by omega), if_neg (by omega), if_neg (by omega), if_pos (by omega)]
    congr 1
    omega
  unfold jHq
  rw [s0, s1, a1, a2]
  refine ⟨?_, ?_, r1, r5, c1, c5, fun r c h1 h2 => ?_, fun r c h1 h2 => ?_, fun r c h1 h2 => ?_, fun r c h1 h2 => ?_⟩
  · rw [e]; unfold jsv; rw [if_pos rfl]
  · rw [e]; unfold jsv; rw [if_neg (by omega), if_pos rfl]
  · dsimp only
    rw [p0 r c (by omega) (by omega), (s2 _ (by omega)).1]
    exact a3 r c h1 h2
  · dsimp only
    rw [p1 r c (by omega) (by omega), (s2 _ (by omega)).2]
    exact a4 r c h1 h2
  · dsimp only
    rw [p0 r c (by omega) (by omega)]
    exact a5 r c h1 h2
  · dsimp only
    rw [p1 r c (by omega) (by omega)]
    exact a6 r c h1 h2
theorem jIh.push (e : jIh F A) (ia : jIa F A) (hst : jHst F A F1 A1) (f4 : F1 149 4 = if F 149 4 = 30 then 30 else F 149 4 + 1) (a2 : A1 152 = jkt (A 152) (F 149 4) (F 149 0) (F 149 1) (A 150) (A 151)) : jIh F1 A1 := by
  obtain ⟨e1, e2, e3, e4⟩ := e
  have hst' := hst
  obtain ⟨s1, s2, _, _, _, s6⟩ := hst'
  unfold jkt at a2
  unfold jIh
  rw [f4, s1, s2, e2]
  by_cases z : F 149 4 = 30
  · rw [if_pos z] at a2 ⊢
    refine ⟨by split <;> omega, by omega, by omega, fun i hi => ?_⟩
    by_cases y : i = 29
    · rw [show ((if F 7 1 + 1 = 30 then 0 else F 7 1 + 1) + 30 - 30 + i) % 30 = F 7 1 by split <;> omega]
      subst y
      exact jHq.new ia hst a2
    · have ec : ((if F 7 1 + 1 = 30 then 0 else F 7 1 + 1) + 30 - 30 + i) % 30 = (F 7 1 + 30 - F 149 4 + (i + 1)) % 30 := by split <;> omega
      rw [ec]
      have m := Nat.mod_lt (F 7 1 + 30 - F 149 4 + (i + 1)) (show 0 < 30 by omega)
      obtain ⟨t1, t2, t3, t4⟩ := s6 _ m (by omega)
      refine (e4 (i + 1) (by omega)).sh t1 t2 t3 t4 (fun j hj => ?_)
      rw [a2]
      unfold jsv jsh
      rw [if_neg (by omega), if_neg (by omega), if_neg (by omega), if_neg (by omega), if_pos (by omega)]
      congr 1
      omega
  · rw [if_neg z] at a2 ⊢
    refine ⟨by split <;> omega, by omega, by omega, fun i hi => ?_⟩
    by_cases y : i = F 149 4
    · rw [show ((if F 7 1 + 1 = 30 then 0 else F 7 1 + 1) + 30 - (F 149 4 + 1) + i) % 30 = F 7 1 by split <;> omega]
      subst y
      exact jHq.new ia hst a2
    · have ec : ((if F 7 1 + 1 = 30 then 0 else F 7 1 + 1) + 30 - (F 149 4 + 1) + i) % 30 = (F 7 1 + 30 - F 149 4 + i) % 30 := by split <;> omega
      rw [ec]
      have m := Nat.mod_lt (F 7 1 + 30 - F 149 4 + i) (show 0 < 30 by omega)
      obtain ⟨t1, t2, t3, t4⟩ := s6 _ m (by omega)
      refine (e4 i (by omega)).sh t1 t2 t3 t4 (fun j hj => ?_)
      rw [a2]
      unfold jsv
      rw [if_neg (by omega), if_neg (by omega), if_neg (by omega), if_neg (by omega)]
/-- what the reference does for a new task -/
def jMn (F1 : Nat → Nat → Nat) (A1 : Nat → Nat → Int32) (F2 : Nat → Nat → Nat) (A2 : Nat → Nat → Int32) (R' C' : Nat) : Prop := (∀ o k, (o ≠ 149 ∨ (k ≠ 0 ∧ k ≠ 1 ∧ k ≠ 4 ∧ k ≠ 14)) → F2 o k = F1 o k) ∧ F2 149 0 = R' ∧ F2 149 1 = C' ∧ F2 149 4 = (if F1 149 4 = 30 then 30 else F1 149 4 + 1) ∧ F2 149 14 = 0 ∧ (∀ a, a ≠ 150 → a ≠ 151 → a ≠ 152 → A2 a = A1 a) ∧ A2 152 = jkt (A1 152) (F1 149 4) (F1 149 0) (F1 149 1) (A1 150) (A1 151)
theorem jI.new (hI : jI F A G h) {R' C' : Nat} {pl wt : Nat → Int32} (hN : jNw F A F1 A1 R' C' pl wt) (hM : jMn F1 A1 F2 A2 R' C') (tq : jTq R' C' pl wt (A2 150) (A2 151)) (hE : jE h h2) : jI F2 A2 G h2 := by
  obtain ⟨hst, rs, vd, n1, n2, n3, n4⟩ := hN
  obtain ⟨m1, m2, m3, m4, m5, m6, m7⟩ := hM
  have f9 : ∀ k, F1 149 k = F 149 k := fun k => rs.1 _ _ (by omega)
  rw [f9, f9, f9, rs.2 152 (by omega), rs.2 150 (by omega), rs.2 151 (by omega)] at m7
  rw [f9] at m4
  have gF : ∀ o k, (o = 1 ∨ (102 ≤ o ∧ o ≠ 128 ∧ o ≠ 132 ∧ o ≠ 137 ∧ o ≠ 149)) → F2 o k = F o k := fun o k ho => by rw [m1 o k (by omega), rs.1 o k (by omega)]
  have gA : ∀ a, 102 ≤ a → a ≠ 150 → a ≠ 151 → a ≠ 152 → A2 a = A a := fun a h1 h2 h3 h4 => by rw [m6 a h2 h3 h4, rs.2 a h1]
  refine ⟨⟨?_, ?_, ?_⟩, ?_, ?_, ?_, ⟨?_, ?_, ?_⟩, ?_, ?_, ?_, ?_, ?_, Nat.le_trans hI.hp hE.1⟩
  · rw [m1 2 0 (by omega), n1, m2]
  · rw [m1 2 1 (by omega), n2, m3]
  · rw [m2, m3, m6 3 (by omega) (by omega) (by omega), m6 4 (by omega) (by omega) (by omega), n3, n4]
    exact tq
  · exact hI.ih.push hI.ia (hst.fr hI.ih.1 (fun o k h1 h2 => m1 o k (by omega)) (fun a h1 h2 => m6 a (by omega) (by omega) (by omega))) m4 m7
  · exact hI.is.fr (gA _ (by omega) (by omega) (by omega) (by omega)) (gA _ (by omega) (by omega) (by omega) (by omega)) hE
  · exact hI.it.fr (fun o k h1 h2 => gF o k (by omega)) (fun a ha => gA _ (by omega) (by omega) (by omega) (by omega))
  · rw [m2, m3]
    have mk := vd.1
    rw [n1, n2, n3] at mk
    exact (tq.2.2.2.2.1.mk mk).fr (m1 _ _ (by omega)) (m1 _ _ (by omega)) (m6 _ (by omega) (by omega) (by omega)) (m6 _ (by omega) (by omega) (by omega))
  · exact hI.im.2.1.fr (gA _ (by omega) (by omega) (by omega) (by omega)) (gA _ (by omega) (by omega) (by omega) (by omega))
  · intro c hc
    rw [gA 104 (by omega) (by omega) (by omega) (by omega), gA 111 (by omega) (by omega) (by omega) (by omega)]
    exact hI.im.2.2 c hc
  · exact .inl (by rw [m1 _ _ (by omega)]; exact vd.2.1)
  · exact .inl (by rw [m1 _ _ (by omega)]; exact vd.2.2.1)
  · exact ⟨by rw [m1 _ _ (by omega), m5]; exact vd.2.2.2, .inl m5⟩
  · exact hI.iw.fr (gF _ _ (by omega)) (by rw [m1 _ _ (by omega), f9]) (gA _ (by omega) (by omega) (by omega) (by omega)) (gA _ (by omega) (by omega) (by omega) (by omega))
  · rw [gF 1 11 (by omega), m1 149 13 (by omega), f9]
    exact hI.fd
theorem jPr.n {m1 m2 : Nat} {l1 l2 : List Value} {R' C' : Nat} (hR : jR F A G g h) (hI : jI F A G h) (ans : (Nat → Int32) → Int32) (Pc Pm : (Nat → Int32) → (Nat → Int32) → Prop) (tq : ∀ pl wt pl' wt', Pc pl wt → Pm pl' wt' → jTq R' C' pl wt pl' wt' ∧ ans pl = ans pl') (c : ∀ Q : List Value → jxH → Prop, (∀ h1 F1 A1 pl wt, Pc pl wt → jNw F A F1 A1 R' C' pl wt → jR F1 A1 G g h1 → jD h h1 → Q [.int (ans pl)] h1) → jx_Go jxP d m1 0 l1 [] h Q) (m : ∀ F1 A1 h1 (Q : List Value → jxH → Prop), (∀ k, F1 149 k = F 149 k) → (∀ a, 149 ≤ a → A1 a = A a) → jR F1 A1 G g h1 → (∀ h2 F2 A2, jMn F1 A1 F2 A2 R' C' → Pm (A2 150) (A2 151) → jR F2 A2 G g h2 → jD h1 h2 → Q [.int (ans (A2 150))] h2) → jx_Go jxP d m2 0 l2 [] h1 Q) : jPr d m1 l1 m2 l2 h := by
  refine c _ (fun h1 F1 A1 pl wt hp hN hR1 hD1 => ⟨_, rfl, jmid hR1 (hD1.2.2 0 (.inr rfl)), ?_⟩)
  refine m F1 A1 h1 _ (fun k => hN.2.1.1 _ _ (by omega)) (fun a ha => hN.2.1.2 a (by omega)) hR1 (fun h2 F2 A2 hM hm hR2 hD2 => ?_)
  obtain ⟨t1, t2⟩ := tq _ _ _ _ hp hm
  exact ⟨by rw [t2], ⟨_, _, _, _, hR2, hI.new hN hM t1 (hD1.tr hD2).jE⟩, (hD1.tr hD2).jE.jLg⟩
end PAIR5
