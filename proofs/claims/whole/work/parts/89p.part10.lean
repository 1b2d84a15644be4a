/-! ===== part: the fewest parts are the fewest ends ===== -/
section PART10
theorem jqAll_ok : jqAll := by
  intro l hu h1 h4 h16
  match l, hu, h1, h4, h16 with
  | [], _, h1, _, _ => exact absurd h1 (by decide)
  | [a], _, _, _, h16 => exact ⟨_, jall_iff.mp jqk1 a (h16 a List.mem_cons_self)⟩
  | [a, b], hu, _, _, h16 =>
    have ab : a < b := (List.pairwise_cons.mp hu).1 b List.mem_cons_self
    exact ⟨_, jall_iff.mp (jall_iff.mp jqk2 b (h16 b (List.mem_cons_of_mem _ List.mem_cons_self))) a ab⟩
  | [a, b, c], hu, _, _, h16 =>
    have u1 := List.pairwise_cons.mp hu
    have ab : a < b := u1.1 b List.mem_cons_self
    have bc : b < c := (List.pairwise_cons.mp u1.2).1 c List.mem_cons_self
    exact ⟨_, jall_iff.mp (jall_iff.mp (jall_iff.mp jqk3 c (h16 c (List.mem_cons_of_mem _ (List.mem_cons_of_mem _ List.mem_cons_self)))) b bc) a ab⟩
  | [a, b, c, e], hu, _, _, h16 =>
    have u1 := List.pairwise_cons.mp hu
    have u2 := List.pairwise_cons.mp u1.2
    have ab : a < b := u1.1 b List.mem_cons_self
    have bc : b < c := u2.1 c List.mem_cons_self
    have ce : c < e := (List.pairwise_cons.mp u2.2).1 e List.mem_cons_self
    have e16 : e < 16 := h16 e (List.mem_cons_of_mem _ (List.mem_cons_of_mem _ (List.mem_cons_of_mem _ List.mem_cons_self)))
    rcases (show e = 3 ∨ e = 4 ∨ e = 5 ∨ e = 6 ∨ e = 7 ∨ e = 8 ∨ e = 9 ∨ e = 10 ∨ e = 11 ∨ e = 12 ∨ e = 13 ∨ e = 14 ∨ e = 15 by omega) with w | w | w | w | w | w | w | w | w | w | w | w | w
    · subst w; exact ⟨_, jall_iff.mp (jall_iff.mp (jall_iff.mp jqk4_3 c ce) b bc) a ab⟩
    · subst w; exact ⟨_, jall_iff.mp (jall_iff.mp (jall_iff.mp jqk4_4 c ce) b bc) a ab⟩
    · subst w; exact ⟨_, jall_iff.mp (jall_iff.mp (jall_iff.mp jqk4_5 c ce) b bc) a ab⟩
    · subst w; exact ⟨_, jall_iff.mp (jall_iff.mp (jall_iff.mp jqk4_6 c ce) b bc) a ab⟩
    · subst w; exact ⟨_, jall_iff.mp (jall_iff.mp (jall_iff.mp jqk4_7 c ce) b bc) a ab⟩
    · subst w; exact ⟨_, jall_iff.mp (jall_iff.mp (jall_iff.mp jqk4_8 c ce) b bc) a ab⟩
    · subst w; exact ⟨_, jall_iff.mp (jall_iff.mp (jall_iff.mp jqk4_9 c ce) b bc) a ab⟩
    · subst w; exact ⟨_, jall_iff.mp (jall_iff.mp (jall_iff.mp jqk4_10 c ce) b bc) a ab⟩
    · subst w; exact ⟨_, jall_iff.mp (jall_iff.mp (jall_iff.mp jqk4_11 c ce) b bc) a ab⟩
    · subst w; exact ⟨_, jall_iff.mp (jall_iff.mp (jall_iff.mp jqk4_12 c ce) b bc) a ab⟩
    · subst w; exact ⟨_, jall_iff.mp (jall_iff.mp (jall_iff.mp jqk4_13 c ce) b bc) a ab⟩
    · subst w; exact ⟨_, jall_iff.mp (jall_iff.mp (jall_iff.mp jqk4_14 c ce) b bc) a ab⟩
    · subst w; exact ⟨_, jall_iff.mp (jall_iff.mp (jall_iff.mp jqk4_15 c ce) b bc) a ab⟩
  | _ :: _ :: _ :: _ :: _ :: _, _, _, h4, _ => exact absurd h4 (by simp)
theorem jPart_ok : jPart := jPart_of jqAll_ok
end PART10
