/-! ===== what the pure machine does, the machine does: every run ===== -/
theorem js_sound {P : jxM} {inf : Nat → jsM} (hP : js_P P inf) : ∀ n, js_ok P inf n
  | 0 => by
    intro d M pc ls st h pcf stf hf hrun
    simp [jx_run] at hrun
  | n + 1 => by
    have ih := js_sound hP n
    intro d M pc ls st h pcf stf hf hrun
    rw [jx_run] at hrun
    cases hc : (P M).2 pc with
    | none => rw [hc] at hrun; cases hrun
    | some i =>
      rw [hc] at hrun
      have hI := (hP M pc _ hc).2
      rcases i with o | ⟨y, k, nx, ck⟩ | q
      · dsimp only at hrun
        cases ho : o ls st h with
        | none => rw [ho] at hrun; cases hrun
        | some x =>
          rw [ho] at hrun
          obtain ⟨pc', ls', st', h'⟩ := x
          dsimp only at hrun
          obtain ⟨⟨m1, m2, r, hr, hok⟩, body⟩ := ih d M pc' ls' st' h' pcf stf hf hrun
          have hS : js_S (inf M).1.cls (inf M).2.1 (inf M).2.2.1 (decide ((inf M).1.name = "<init>")) pc o := hI
          obtain ⟨mo, hS2⟩ := hS
          obtain ⟨q1, q2⟩ := mo _ _ _ _ _ _ _ ho
          refine ⟨⟨Nat.le_trans q1 m1, Nat.le_trans q2 m2, r, hr, hok⟩, fun p l e R s m args below meth c Q D G b z H0 k0 n0 S hK hin hfr hlo hcl hsl kend => ?_⟩
          exact hS2 p l e R s m args below meth c Q D G b z H0 k0 n0 S hK hin (by omega) (by omega) ls st h pc' ls' st' h' ho (by omega) (by omega) (body p l e R s m args below meth c Q D G b z H0 k0 n0 S hK hin hfr hlo hcl hsl kend)
      · dsimp only at hrun
        cases d with
        | zero => cases hrun
        | succ d' =>
          dsimp only at hrun
          by_cases hk : jx_okc k ck st h = true
          · rw [if_pos hk] at hrun
            cases hr : jx_run P n d' y 0 (jx_ent (P y).1 k st) [] h with
            | none => rw [hr] at hrun; cases hrun
            | some x =>
              rw [hr] at hrun
              obtain ⟨p1, s1, h1⟩ := x
              dsimp only at hrun
              obtain ⟨⟨c1, c2, rc, hrc, hokc⟩, -⟩ := ih d' y 0 _ _ h p1 s1 h1 hr
              obtain ⟨⟨m1, m2, r, hrr, hok⟩, body⟩ := ih (d' + 1) M nx ls _ h1 pcf stf hf hrun
              refine ⟨⟨Nat.le_trans c1 m1, Nat.le_trans c2 m2, r, hrr, hok⟩, fun p l e R s m args below meth c Q D G b z H0 k0 n0 S hK hin hfr hlo hcl hsl kend => ?_⟩
              have hW := body p l e R s m args below meth c Q D G b z H0 k0 n0 S hK hin hfr hlo hcl hsl kend
              obtain ⟨rfl, hm, hkL, index, hkind⟩ := (hI : js_call inf (inf M).1.cls (inf M).2.1 pc y k nx ck)
              intro H locs X hL hR hS hk0 hn0
              have hPy : (inf y).2.2.1 ≤ (P y).1 := (hP y p1 _ hrc).1
              unfold jx_okc at hk
              rw [Bool.and_eq_true, Bool.and_eq_true, Bool.and_eq_true, decide_eq_true_eq, decide_eq_true_eq] at hk
              obtain ⟨⟨⟨hk1, hk2⟩, hk3⟩, hk4⟩ := hk
              have hav : ∀ v ∈ (st.take k).reverse, jx_c1 v = true := fun v hv => List.all_eq_true.mp hk2 v (List.mem_reverse.mp hv)
              have hal : ((st.take k).reverse).length = k := by rw [List.length_reverse, List.length_take]; omega
              have hr' : jx_run P n d' y 0 ((st.take k).reverse ++ List.replicate ((P y).1 - ((st.take k).reverse).length) jx_u) [] h = some (p1, s1, h1) := by
                rw [hal]
                exact hr
              have hMet := js_met hP ih hm hPy hr' hav (by rw [hal]; exact hkL) l D G b z
              have hG : GoodIn js_T (Cond.code (inf y).1 (inf y).2.1 (inf y).2.2.1 (inf y).2.2.2 :: js_T) := by
                intro w hw
                rcases List.mem_cons.mp hw with rfl | hw
                · exact ⟨hm.2.1, Or.inl rfl⟩
                · exact ⟨hw, js_T_good hw⟩
              have hts := S.2.2.2.2
              have hini : (Cond.initialized (inf y).1.cls).before args s = true := hts _ hm.2.2.1
              have hroom : (js_room d' (h1.1 - h.1) (h1.2.1 - h.2.1)).frames + 1 ≤ R.frames ∧ 8 + ((inf y).2.2.1 + 11) + (js_room d' (h1.1 - h.1) (h1.2.1 - h.2.1)).locals ≤ R.locals := by
                have := hm.2.2.2.2.2
                exact ⟨hfr, by show 8 + ((inf y).2.2.1 + 11) + (41 * d' + 100) ≤ _; omega⟩
              have hfit : h.1 - k0 + (h1.1 - h.1) ≤ R.cells ∧ h.2.1 - n0 + (h1.2.1 - h.2.1) ≤ R.slots := ⟨by omega, by omega⟩
              have hcs := js_csum ((st.drop k).map (js_v b z))
              rw [List.length_map] at hcs
              have hwid : 2 * (F0 m pc X (st.map (js_v b z))).monitorRoom + (((st.drop k).map (js_v b z)).map fun v => v.category).sum ≤ 8 := by
                show 2 * 0 + _ ≤ 8
                omega
              have hpre : ∀ U : State, U.heap = H → s.WarmedH U.vm → js_Pc D G b z (((st.take k).reverse).map (js_v b z)) h (((st.take k).reverse).map (js_v b z)).toArray U := fun U hU hWm => ⟨rfl, by rw [hU]; exact hR.moved hWm.alike, hK.warm hWm⟩
              have hsplit : st.map (js_v b z) = (st.take k).map (js_v b z) ++ (st.drop k).map (js_v b z) := by rw [← List.map_append, List.take_append_drop]
              have fin : ∀ {a : Array Value}, va_Run p l e R s m args below meth c H locs (h.1 - k0) (h.2.1 - n0) (h1.1 - h.1) (h1.2.1 - h.2.1) (F0 m pc X (st.map (js_v b z))) ((st.drop k).map (js_v b z)) (js_Qc D G b z s1 h1 a) (fun q => z < q) → W p l e R s m args below meth c H locs (h.1 - k0) (h.2.1 - n0) Q (F0 m pc X (st.map (js_v b z))) := by
                intro a hrun2
                refine js_after (js_okr_len hokc) hrun2 hS (fun H1 locs1 hR1 hS1 => ?_)
                have w1 := hW H1 locs1 X hL hR1 hS1 (by omega) (by omega)
                rw [List.map_append] at w1
                have e1 : h.1 - k0 + (h1.1 - h.1) = h1.1 - k0 := by omega
                have e2 : h.2.1 - n0 + (h1.2.1 - h.2.1) = h1.2.1 - n0 := by omega
                rw [e1, e2]
                exact w1
              have hrev : (((st.take k).reverse).map (js_v b z)).reverse = (st.take k).map (js_v b z) := by rw [← List.map_reverse, List.reverse_reverse]
              rcases hkind with ⟨hd, cn, r0, rfl, hcr, hcls, hpar, hk5, hl1, hl2, hl3⟩ | ⟨hd, rfl, hpar, hst, hl1⟩ | ⟨hd, hnm, hret, ⟨cn, rfl⟩, hpar, hk5, hl2, hl1⟩
              · -- a virtual call
                dsimp only at hk4
                split at hk4
                · next a hga =>
                  have hcl2 : jx_cl h a = some cn := by simpa using hk4
                  obtain ⟨fs, hfs⟩ := jx_cl_inv hcl2
                  obtain ⟨i1, i2, i3, i4⟩ := hR.in hfs (fun _ _ q => by cases q) (fun _ _ q => by cases q)
                  obtain ⟨pre, hpre2⟩ : ∃ pre, st.take k = pre ++ [.ref a] := by
                    obtain ⟨ys, hys⟩ := List.getLast?_eq_some_iff.mp hga
                    exact ⟨ys, hys⟩
                  have hrv : ((st.take k).reverse).map (js_v b z) = .ref (z + a) :: (pre.reverse).map (js_v b z) := by
                    rw [hpre2, List.reverse_append]
                    show (Value.ref a :: pre.reverse).map (js_v b z) = _
                    rw [List.map_cons]
                    show Value.ref (js_a b z a) :: _ = _
                    rw [i4]
                  have hplen : ((pre.reverse).map (js_v b z)).length = k - 1 := by
                    have := congrArg List.length hpre2
                    rw [List.length_take, List.length_append] at this
                    simp only [List.length_map, List.length_reverse, List.length_singleton] at this ⊢
                    omega
                  rw [hrv] at hMet hpre
                  refine fin (va_runV (b := z + a) (As := (pre.reverse).map (js_v b z)) (C := r0.1) S hMet ⟨callB_of (k - 1) hts hG rfl rfl rfl hini (hts _ hl1) ⟨hm.2.2.2.1, hm.2.2.2.2.1, hpar⟩ hroom, hts _ hl2, hts _ hl3⟩ ⟨js_blind, va_recv hK.1 (js_P1 i3) hcr (q0 := 0) rfl, hpre⟩ rfl hplen hL.1 ?_ hwid hd hfit)
                  show st.map (js_v b z) = _
                  rw [hsplit, hpre2, List.map_append]
                  rw [← List.map_reverse, List.reverse_reverse, List.append_assoc]
                  show _ ++ (Value.ref (js_a b z a) :: _) = _
                  rw [i4]
                  rfl
                · cases hk4
              · -- a static call
                have hstk : (F0 m pc X (st.map (js_v b z))).stack = (((st.take k).reverse).map (js_v b z)).reverse ++ (st.drop k).map (js_v b z) := by
                  show st.map (js_v b z) = _
                  rw [hrev, hsplit]
                rcases hl1 with hl1 | hl1
                · exact fin (va_runS (As := ((st.take k).reverse).map (js_v b z)) S hMet ⟨callB_of k hts hG rfl rfl rfl hini (hts _ hl1) ⟨hm.2.2.2.1, hm.2.2.2.2.1, hpar⟩ hroom, hts _ hst⟩ ⟨js_blind, hpre⟩ rfl (by rw [List.length_map]; exact hal) hL.1 hstk hwid hd hfit)
                · exact fin (va_runSN (As := ((st.take k).reverse).map (js_v b z)) S hMet ⟨va_cnB k hts hG rfl rfl rfl (hK.2.1 _ hl1) hini ⟨hm.2.2.2.1, hm.2.2.2.2.1, hpar⟩ hroom, hts _ hst, trivial⟩ ⟨js_blind, hpre⟩ rfl (by rw [List.length_map]; exact hal) hL.1 hstk hwid hd hfit)
              · -- a constructor
                dsimp only at hk4
                split at hk4
                · next a hga =>
                  obtain ⟨pre, hpre2⟩ : ∃ pre, st.take k = pre ++ [.ref a] := by
                    obtain ⟨ys, hys⟩ := List.getLast?_eq_some_iff.mp hga
                    exact ⟨ys, hys⟩
                  have hrv : ((st.take k).reverse).map (js_v b z) = .ref (js_a b z a) :: (pre.reverse).map (js_v b z) := by
                    rw [hpre2, List.reverse_append]
                    rfl
                  have hplen : ((pre.reverse).map (js_v b z)).length = k - 1 := by
                    have := congrArg List.length hpre2
                    rw [List.length_take, List.length_append] at this
                    simp only [List.length_map, List.length_reverse, List.length_singleton] at this ⊢
                    omega
                  rw [hrv] at hMet hpre
                  rw [hret] at hMet hG
                  have hstk : (F0 m pc X (st.map (js_v b z))).stack = ((pre.reverse).map (js_v b z)).reverse ++ .ref (js_a b z a) :: (st.drop k).map (js_v b z) := by
                    show st.map (js_v b z) = _
                    rw [hsplit, hpre2, List.map_append]
                    rw [← List.map_reverse, List.reverse_reverse, List.append_assoc]
                    rfl
                  rcases hl1 with hl1 | hl1
                  · exact fin (va_runI (b := js_a b z a) (As := (pre.reverse).map (js_v b z)) S hMet ⟨callB_of (k - 1) hts hG rfl rfl rfl hini (hts _ hl1) ⟨hm.2.2.2.1, hm.2.2.2.2.1, hpar⟩ hroom, hnm, hts _ hl2⟩ ⟨js_blind, hpre⟩ rfl hplen hL.1 hstk hwid hd hfit)
                  · exact fin (va_runIN (b := js_a b z a) (As := (pre.reverse).map (js_v b z)) S hMet ⟨va_cnB (k - 1) hts hG rfl rfl rfl (hK.2.1 _ hl1) hini ⟨hm.2.2.2.1, hm.2.2.2.2.1, hpar⟩ hroom, hnm, hts _ hl2⟩ ⟨js_blind, hpre⟩ rfl hplen hL.1 hstk hwid hd hfit)
                · cases hk4
          · rw [if_neg hk] at hrun
            cases hrun
      · dsimp only at hrun
        by_cases hq : jx_okr q st = true
        · rw [if_pos hq] at hrun
          cases hrun
          refine ⟨⟨Nat.le_refl _, Nat.le_refl _, q, hc, hq⟩, fun p l e R s m args below meth c Q D G b z H0 k0 n0 S hK hin hfr hlo hcl hsl kend => ?_⟩
          intro H locs X hL hR hS hk hn
          exact kend H locs X hR hS hk hn
        · rw [if_neg hq] at hrun
          cases hrun
