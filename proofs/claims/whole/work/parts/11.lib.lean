/-! ===== for walks: calls, branches, cells ===== -/
section JGC
variable {P : jxM} {d M pc n t k y nx c : Nat} {ls st : List Value} {h : jxH} {Q : List Value → jxH → Prop} {x x' : Int32} {a : Nat}
theorem jg_callN {ck : Option Nat} (hc : (P M).2 pc = some (.inr (.inl (y, k, nx, ck)))) (hk : ¬ jx_okc k ck st h = true) : jx_Go P (d + 1) M pc ls st h Q ↔ False := by
  constructor
  · rintro ⟨n, a, b, c, e, q⟩
    cases n with
    | zero => simp [jx_run] at e
    | succ n =>
      rw [jx_run, hc] at e
      dsimp only at e
      rw [if_neg hk] at e
      cases e
  · exact False.elim
theorem jg_callS {as : List Value} {L : Nat} {ent : List Value} (hc : (P M).2 pc = some (.inr (.inl (y, as.length, nx, none)))) (hL : (P y).1 = L) (ha : as.all jx_c1 = true) (he : as.reverse ++ List.replicate (L - as.length) jx_u = ent) : jx_Go P (d + 1) M pc ls (as ++ st) h Q ↔ (st.length ≤ 4 ∧ jx_Go P d y 0 ent [] h (fun s1 h1 => jx_Go P (d + 1) M nx ls (s1 ++ st) h1 Q)) := by
  by_cases hs : st.length ≤ 4
  · have hk : jx_okc as.length none (as ++ st) h = true := by simp [jx_okc, ha, hs]
    rw [jx_ca hc hk]
    have e1 : jx_ent (P y).1 as.length (as ++ st) = ent := by rw [jx_ent, hL, ← he, List.take_left]
    have e2 : (as ++ st).drop as.length = st := List.drop_left
    rw [e1, e2]
    simp [hs]
  · have hk : ¬ jx_okc as.length none (as ++ st) h = true := by simp [jx_okc, hs]
    rw [jg_callN hc hk]
    simp [hs]
theorem jg_callV {as : List Value} {L : Nat} {ent : List Value} (hc : (P M).2 pc = some (.inr (.inl (y, as.length, nx, some c)))) (hL : (P y).1 = L) (ha : as.all jx_c1 = true) (hr : as.getLast? = some (.ref a)) (he : as.reverse ++ List.replicate (L - as.length) jx_u = ent) : jx_Go P (d + 1) M pc ls (as ++ st) h Q ↔ (st.length ≤ 4 ∧ jx_cl h a = some c ∧ jx_Go P d y 0 ent [] h (fun s1 h1 => jx_Go P (d + 1) M nx ls (s1 ++ st) h1 Q)) := by
  by_cases hs : st.length ≤ 4 ∧ jx_cl h a = some c
  · have hk : jx_okc as.length (some c) (as ++ st) h = true := by simp [jx_okc, ha, hs.1, hr, hs.2]
    rw [jx_ca hc hk]
    have e1 : jx_ent (P y).1 as.length (as ++ st) = ent := by rw [jx_ent, hL, ← he, List.take_left]
    have e2 : (as ++ st).drop as.length = st := List.drop_left
    rw [e1, e2]
    simp [hs.1, hs.2]
  · have hk : ¬ jx_okc as.length (some c) (as ++ st) h = true := by
      intro q
      simp [jx_okc, ha, hr] at q
      exact hs ⟨q.1, q.2⟩
    rw [jg_callN hc hk]
    constructor
    · exact False.elim
    · rintro ⟨q1, q2, -⟩
      exact hs ⟨q1, q2⟩
theorem jg_ifP {p : Int32 → Bool} {A : Prop} {iA : Decidable A} (hc : (P M).2 pc = some (.inl (jo_if n t p))) (hA : p x = decide A) : jx_Go P d M pc ls (.int x :: st) h Q ↔ if A then jx_Go P d M t ls st h Q else jx_Go P d M n ls st h Q := by
  rw [jg_if hc, hA]
  by_cases h1 : A <;> simp [h1]
theorem jg_ifN {p : Int32 → Bool} {A : Prop} {iA : Decidable A} (hc : (P M).2 pc = some (.inl (jo_if n t p))) (hA : p x = decide (¬ A)) : jx_Go P d M pc ls (.int x :: st) h Q ↔ if A then jx_Go P d M n ls st h Q else jx_Go P d M t ls st h Q := by
  rw [jg_if hc, hA]
  by_cases h1 : A <;> simp [h1]
theorem jg_icP {p : Int32 → Int32 → Bool} {A : Prop} {iA : Decidable A} (hc : (P M).2 pc = some (.inl (jo_ic n t p))) (hA : p x x' = decide A) : jx_Go P d M pc ls (.int x' :: .int x :: st) h Q ↔ if A then jx_Go P d M t ls st h Q else jx_Go P d M n ls st h Q := by
  rw [jg_ic hc, hA]
  by_cases h1 : A <;> simp [h1]
theorem jg_icN {p : Int32 → Int32 → Bool} {A : Prop} {iA : Decidable A} (hc : (P M).2 pc = some (.inl (jo_ic n t p))) (hA : p x x' = decide (¬ A)) : jx_Go P d M pc ls (.int x' :: .int x :: st) h Q ↔ if A then jx_Go P d M n ls st h Q else jx_Go P d M t ls st h Q := by
  rw [jg_ic hc, hA]
  by_cases h1 : A <;> simp [h1]
end JGC
section JHL
variable {h : jxH} {a b c k k' n m t : Nat} {f f' : Nat → Int32} {g g' : Nat → Int64} {r : Nat → Option Nat} {v v' : Value} {x : jxC}
theorem jh_w_ne (hab : b ≠ a) {x : jxC} : (jx_w h a x).2.2 b = h.2.2 b := by simp [jx_w, hab]
theorem jh_w_self {x : jxC} : (jx_w h a x).2.2 a = x := by simp [jx_w]
theorem jh_uf_ne (hab : b ≠ a) : (jx_uf h a k v).2.2 b = h.2.2 b := jh_w_ne hab
theorem jh_ai_wi : jx_ai (jx_wi h a n f) a = some (n, f) := by simp [jx_ai, jx_wi, jh_w_self]
theorem jh_ai_wi_ne (hab : b ≠ a) : jx_ai (jx_wi h a n f) b = jx_ai h b := by simp [jx_ai, jx_wi, jh_w_ne hab]
theorem jh_ai_wl_ne (hab : b ≠ a) : jx_ai (jx_wl h a n g) b = jx_ai h b := by simp [jx_ai, jx_wl, jh_w_ne hab]
theorem jh_ai_wr_ne (hab : b ≠ a) : jx_ai (jx_wr h a t n r) b = jx_ai h b := by simp [jx_ai, jx_wr, jh_w_ne hab]
theorem jh_ai_uf : jx_ai (jx_uf h a k v) b = jx_ai h b := by
  by_cases hab : b = a
  · subst hab
    simp only [jx_ai, jx_uf, jh_w_self]
    cases e : h.2.2 b <;> rfl
  · simp [jx_ai, jh_uf_ne hab]
theorem jh_al_wl : jx_al (jx_wl h a n g) a = some (n, g) := by simp [jx_al, jx_wl, jh_w_self]
theorem jh_al_wl_ne (hab : b ≠ a) : jx_al (jx_wl h a n g) b = jx_al h b := by simp [jx_al, jx_wl, jh_w_ne hab]
theorem jh_al_wi_ne (hab : b ≠ a) : jx_al (jx_wi h a n f) b = jx_al h b := by simp [jx_al, jx_wi, jh_w_ne hab]
theorem jh_al_uf : jx_al (jx_uf h a k v) b = jx_al h b := by
  by_cases hab : b = a
  · subst hab
    simp only [jx_al, jx_uf, jh_w_self]
    cases e : h.2.2 b <;> rfl
  · simp [jx_al, jh_uf_ne hab]
theorem jh_ar_wr : jx_ar (jx_wr h a t n r) a t = some (n, r) := by simp [jx_ar, jx_wr, jh_w_self]
theorem jh_ar_wr_ne (hab : b ≠ a) : jx_ar (jx_wr h a t n r) b k = jx_ar h b k := by simp [jx_ar, jx_wr, jh_w_ne hab]
theorem jh_ar_wi_ne (hab : b ≠ a) : jx_ar (jx_wi h a n f) b k = jx_ar h b k := by simp [jx_ar, jx_wi, jh_w_ne hab]
theorem jh_ar_wl_ne (hab : b ≠ a) : jx_ar (jx_wl h a n g) b k = jx_ar h b k := by simp [jx_ar, jx_wl, jh_w_ne hab]
theorem jh_ar_uf : jx_ar (jx_uf h a k v) b t = jx_ar h b t := by
  by_cases hab : b = a
  · subst hab
    simp only [jx_ar, jx_uf, jh_w_self]
    cases e : h.2.2 b <;> rfl
  · simp [jx_ar, jh_uf_ne hab]
theorem jh_sc_wi_ne (hab : b ≠ a) : jx_sc (jx_wi h a n f) b = jx_sc h b := by simp [jx_sc, jx_wi, jh_w_ne hab]
theorem jh_sc_wl_ne (hab : b ≠ a) : jx_sc (jx_wl h a n g) b = jx_sc h b := by simp [jx_sc, jx_wl, jh_w_ne hab]
theorem jh_sc_wr_ne (hab : b ≠ a) : jx_sc (jx_wr h a t n r) b = jx_sc h b := by simp [jx_sc, jx_wr, jh_w_ne hab]
theorem jh_sc_uf : jx_sc (jx_uf h a k v) b = jx_sc h b := by
  by_cases hab : b = a
  · subst hab
    simp only [jx_sc, jx_uf, jh_w_self]
    cases e : h.2.2 b <;> rfl
  · simp [jx_sc, jh_uf_ne hab]
theorem jh_fl_wi_ne (hab : b ≠ a) : jx_fl (jx_wi h a n f) b c k = jx_fl h b c k := by simp [jx_fl, jx_wi, jh_w_ne hab]
theorem jh_fl_wl_ne (hab : b ≠ a) : jx_fl (jx_wl h a n g) b c k = jx_fl h b c k := by simp [jx_fl, jx_wl, jh_w_ne hab]
theorem jh_fl_wr_ne (hab : b ≠ a) : jx_fl (jx_wr h a t n r) b c k = jx_fl h b c k := by simp [jx_fl, jx_wr, jh_w_ne hab]
theorem jh_fl_uf (hv : (jx_fl h a c k).isSome = true) : jx_fl (jx_uf h a k v) a c k = some v := by
  obtain ⟨w, hw⟩ := Option.isSome_iff_exists.mp hv
  obtain ⟨fs, h1, h2⟩ := jx_fl_inv hw
  have hk : k < fs.length := (List.getElem?_eq_some_iff.mp h2).1
  simp [jx_fl, jx_uf, jh_w_self, h1, hk]
theorem jh_fl_uf_ne (hk : k' ≠ k) : jx_fl (jx_uf h a k v) b c k' = jx_fl h b c k' := by
  by_cases hab : b = a
  · subst hab
    simp only [jx_fl, jx_uf, jh_w_self]
    cases e : h.2.2 b with
    | inl x => rfl
    | inr x => simp [List.getElem?_set_ne (Ne.symm hk)]
  · simp [jx_fl, jh_uf_ne hab]
theorem jh_fl_uf_o (hab : b ≠ a) : jx_fl (jx_uf h a k v) b c k' = jx_fl h b c k' := by simp [jx_fl, jh_uf_ne hab]
theorem jh_cl_wi_ne (hab : b ≠ a) : jx_cl (jx_wi h a n f) b = jx_cl h b := by simp [jx_cl, jx_wi, jh_w_ne hab]
theorem jh_cl_wl_ne (hab : b ≠ a) : jx_cl (jx_wl h a n g) b = jx_cl h b := by simp [jx_cl, jx_wl, jh_w_ne hab]
theorem jh_cl_wr_ne (hab : b ≠ a) : jx_cl (jx_wr h a t n r) b = jx_cl h b := by simp [jx_cl, jx_wr, jh_w_ne hab]
theorem jh_cl_uf : jx_cl (jx_uf h a k v) b = jx_cl h b := by
  by_cases hab : b = a
  · subst hab
    simp only [jx_cl, jx_uf, jh_w_self]
    cases e : h.2.2 b <;> rfl
  · simp [jx_cl, jh_uf_ne hab]
theorem jh_cl_fl {w : Value} (e : jx_fl h a c k = some w) : jx_cl h a = some c := by
  obtain ⟨fs, h1, -⟩ := jx_fl_inv e
  simp [jx_cl, h1]
theorem jh_w_w {x y : jxC} : jx_w (jx_w h a x) a y = jx_w h a y := by
  unfold jx_w
  congr 2
  funext j
  dsimp only
  by_cases e : j = a <;> simp [e]
theorem jh_w_c (hab : a < b) {x y : jxC} : jx_w (jx_w h b x) a y = jx_w (jx_w h a y) b x := by
  unfold jx_w
  congr 2
  funext j
  dsimp only
  by_cases e : j = a
  · subst e
    simp [Nat.ne_of_lt hab]
  · simp [e]
theorem jh_w_id (e : h.2.2 a = x) : jx_w h a x = h := by
  unfold jx_w
  rw [← e]
  have : (fun j => if j = a then h.2.2 a else h.2.2 j) = h.2.2 := by
    funext j
    by_cases q : j = a
    · subst q; simp
    · simp [q]
  rw [this]
theorem jh_wi_wi : jx_wi (jx_wi h a n f) a m f' = jx_wi h a m f' := jh_w_w
theorem jh_wi_c (hab : a < b) : jx_wi (jx_wi h b n f) a m f' = jx_wi (jx_wi h a m f') b n f := jh_w_c hab
theorem jh_wi_id (e : jx_ai h a = some (n, f)) : jx_wi h a n f = h := jh_w_id (jx_ai_inv e)
theorem jh_wl_wl : jx_wl (jx_wl h a n g) a m g' = jx_wl h a m g' := jh_w_w
theorem jh_uf_uf : jx_uf (jx_uf h a k v) a k v' = jx_uf h a k v' := by
  unfold jx_uf
  rw [jh_w_w, jh_w_self]
  cases e : h.2.2 a with
  | inl x => rfl
  | inr x => simp
theorem jh_uf_c (hk : k < k') : jx_uf (jx_uf h a k' v) a k v' = jx_uf (jx_uf h a k v') a k' v := by
  unfold jx_uf
  rw [jh_w_w, jh_w_w, jh_w_self, jh_w_self]
  cases e : h.2.2 a with
  | inl x => rfl
  | inr x => simp [List.set_comm _ _ (Nat.ne_of_lt hk)]
theorem jh_uf_co (hab : a < b) : jx_uf (jx_uf h b k' v) a k v' = jx_uf (jx_uf h a k v') b k' v := by
  have hab' : a ≠ b := Nat.ne_of_lt hab
  unfold jx_uf
  rw [jh_w_ne hab', jh_w_ne hab'.symm, jh_w_c hab]
/-- fields behind arrays -/
theorem jh_uf_wi (hab : b ≠ a) : jx_uf (jx_wi h a n f) b k v = jx_wi (jx_uf h b k v) a n f := by
  unfold jx_uf jx_wi
  rw [jh_w_ne hab]
  rcases Nat.lt_or_gt_of_ne hab with q | q
  · rw [jh_w_c q]
  · rw [jh_w_c q]
theorem jh_uf_wl (hab : b ≠ a) : jx_uf (jx_wl h a n g) b k v = jx_wl (jx_uf h b k v) a n g := by
  unfold jx_uf jx_wl
  rw [jh_w_ne hab]
  rcases Nat.lt_or_gt_of_ne hab with q | q
  · rw [jh_w_c q]
  · rw [jh_w_c q]
theorem jh_uf_id (e : jx_fl h a c k = some v) : jx_uf h a k v = h := by
  obtain ⟨fs, h1, h2⟩ := jx_fl_inv e
  unfold jx_uf
  rw [h1]
  dsimp only
  refine jh_w_id ?_
  have hs : fs.set k v = fs := by
    apply List.ext_getElem?
    intro i
    by_cases q : k = i
    · subst q
      rw [List.getElem?_set_self (List.getElem?_eq_some_iff.mp h2).1, h2]
    · rw [List.getElem?_set_ne q]
  rw [h1, hs]
theorem jh_1_wi : (jx_wi h a n f).1 = h.1 := rfl
theorem jh_1_uf : (jx_uf h a k v).1 = h.1 := rfl
theorem jh_2_wi : (jx_wi h a n f).2.1 = h.2.1 := rfl
theorem jh_2_uf : (jx_uf h a k v).2.1 = h.2.1 := rfl
theorem jh_1_wl : (jx_wl h a n g).1 = h.1 := rfl
theorem jh_2_wl : (jx_wl h a n g).2.1 = h.2.1 := rfl
theorem jh_1_wr : (jx_wr h a t n r).1 = h.1 := rfl
theorem jh_2_wr : (jx_wr h a t n r).2.1 = h.2.1 := rfl
end JHL
