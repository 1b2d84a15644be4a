/-! ===== what the cells hold once both objects are made ===== -/
/-- kinds of the objects; 9, 12 .. 96 are the tasks of the history -/
def jcl (o : Nat) : Option Nat := if 9 ≤ o ∧ o < 99 then (if o % 3 = 0 then some 10 else none) else match o with
  | 1 => some 11
  | 2 => some 10
  | 7 => some 1
  | 99 => some 4
  | 102 => some 3
  | 117 => some 8
  | 119 => some 8
  | 121 => some 8
  | 123 => some 8
  | 125 => some 5
  | 128 => some 0
  | 132 => some 6
  | 137 => some 9
  | 144 => some 2
  | 146 => some 7
  | 149 => some 12
  | _ => none
/-- a field: some none is a number, some (some a) the cell a -/
def jkd (o k : Nat) : Option (Option Nat) := if 9 ≤ o ∧ o < 99 then (if o % 3 = 0 then (match k with | 0 => some none | 1 => some none | 2 => some (some (o + 1)) | 3 => some (some (o + 2)) | _ => none) else none) else match o with
  | 1 => [some 2, some 5, some 6, some 7, some 99, some 128, some 132, some 137, some 144, some 146, some 102, none][k]?
  | 2 => [none, none, some 3, some 4][k]?
  | 7 => [some 8, none, none][k]?
  | 99 => [none, none, some 100, some 101][k]?
  | 102 => [some 103, some 110][k]?
  | 117 => [none, none, some 118][k]?
  | 119 => [none, none, some 120][k]?
  | 121 => [none, none, some 122][k]?
  | 123 => [none, none, some 124][k]?
  | 125 => [some 126, some 127][k]?
  | 128 => [some 99, some 125, some 129, some 130, some 131, none][k]?
  | 132 => [some 2, some 99, some 125, some 133, some 134, some 135, some 136, none][k]?
  | 137 => [some 99, some 128, some 138, some 139, some 140, some 141, some 142, some 143, none][k]?
  | 144 => [some 2, some 99, some 145, none, none, none][k]?
  | 146 => [some 2, some 99, some 147, some 148, none, none, none, none][k]?
  | 149 => [none, none, some 150, some 151, none, some 152, some 153, some 154, some 155, some 156, some 157, none, some 158, none, none, some 159, some 160, some 161, some 162, some 163, some 164, some 165, some 166, some 167, some 168, some 169, some 170, some 171, some 172, some 173, some 174, some 175, some 176, some 177, some 178, some 179, some 180, some 181][k]?
  | _ => none
def jln (a : Nat) : Option Nat := if 9 ≤ a ∧ a < 99 then (if a % 3 = 0 then none else some 25) else match a with
  | 3 => some 25
  | 4 => some 25
  | 100 => some 32
  | 101 => some 32
  | 104 => some 5
  | 105 => some 5
  | 106 => some 5
  | 107 => some 5
  | 108 => some 5
  | 109 => some 5
  | 111 => some 5
  | 112 => some 5
  | 113 => some 5
  | 114 => some 5
  | 115 => some 5
  | 116 => some 5
  | 118 => some 30
  | 120 => some 30
  | 122 => some 30
  | 124 => some 30
  | 126 => some 33
  | 127 => some 90
  | 129 => some 1024
  | 130 => some 1024
  | 131 => some 32
  | 133 => some 1024
  | 134 => some 1024
  | 135 => some 1024
  | 136 => some 7
  | 138 => some 49
  | 139 => some 49
  | 140 => some 49
  | 141 => some 49
  | 142 => some 49
  | 143 => some 49
  | 145 => some 120
  | 147 => some 25
  | 148 => some 32
  | 150 => some 25
  | 151 => some 25
  | 152 => some 1560
  | 153 => some 208
  | 154 => some 4
  | 155 => some 4
  | 156 => some 4
  | 157 => some 120
  | 158 => some 120
  | 159 => some 30
  | 160 => some 1024
  | 161 => some 1024
  | 162 => some 64
  | 163 => some 64
  | 164 => some 64
  | 165 => some 64
  | 166 => some 64
  | 167 => some 64
  | 168 => some 64
  | 169 => some 64
  | 170 => some 32
  | 172 => some 5
  | 173 => some 7
  | 174 => some 7
  | 175 => some 65536
  | 176 => some 256
  | 177 => some 7168
  | 178 => some 64
  | 179 => some 64
  | 180 => some 5
  | 181 => some 5
  | _ => none
def jrf (a t : Nat) : Option (Nat × (Nat → Option Nat)) := match a, t with
  | 6, 3 => some (4, fun i => if i < 4 then some (117 + 2 * i) else none)
  | 8, 2 => some (30, fun i => if i < 30 then some (9 + 3 * i) else none)
  | 103, 4 => some (6, fun i => if i < 6 then some (104 + i) else none)
  | 110, 4 => some (6, fun i => if i < 6 then some (111 + i) else none)
  | _, _ => none
/-- numbers F of the objects, rows A, slots G, the rows of longs g -/
def jR (F : Nat → Nat → Nat) (A : Nat → Nat → Int32) (G : Nat → Option Nat) (g : Nat → Int64) (h : jxH) : Prop :=
  (∀ o c k, jcl o = some c → (jkd o k = some none → jx_fl h o c k = some (.int (nI (F o k)))) ∧ ∀ a, jkd o k = some (some a) → jx_fl h o c k = some (.ref a)) ∧ (∀ a n, jln a = some n → jx_ai h a = some (n, A a)) ∧
  (∀ a t n r, jrf a t = some (n, r) → ∃ r', jx_ar h a t = some (n, r') ∧ ∀ i, i < n → r' i = r i) ∧ jx_ar h 5 2 = some (4, G) ∧ jx_al h 171 = some (25, g)
def jup {α : Type} (F : Nat → Nat → α) (o k : Nat) (v : α) : Nat → Nat → α := fun o' k' => if o' = o ∧ k' = k then v else F o' k'
def jua (A : Nat → Nat → Int32) (a : Nat) (f : Nat → Int32) : Nat → Nat → Int32 := fun b => if b = a then f else A b
/-- cells beyond the first 182, and the script, stay -/
def jD (h h' : jxH) : Prop := h'.1 = h.1 ∧ h'.2.1 = h.2.1 ∧ ∀ i, (182 ≤ i ∨ i = 0) → h'.2.2 i = h.2.2 i
theorem jD.rf {h : jxH} : jD h h := ⟨rfl, rfl, fun _ _ => rfl⟩
theorem jD.tr {h h1 h2 : jxH} (a : jD h h1) (b : jD h1 h2) : jD h h2 := ⟨b.1.trans a.1, b.2.1.trans a.2.1, fun i hi => (b.2.2 i hi).trans (a.2.2 i hi)⟩
theorem jD.wi {h h1 : jxH} {a n : Nat} {f : Nat → Int32} (d : jD h h1) (ha : 0 < a ∧ a < 182) : jD h (jx_wi h1 a n f) := ⟨d.1, d.2.1, fun i hi => (jh_w_ne (by omega)).trans (d.2.2 i hi)⟩
theorem jD.wl {h h1 : jxH} {a n : Nat} {f : Nat → Int64} (d : jD h h1) (ha : 0 < a ∧ a < 182) : jD h (jx_wl h1 a n f) := ⟨d.1, d.2.1, fun i hi => (jh_w_ne (by omega)).trans (d.2.2 i hi)⟩
theorem jD.wr {h h1 : jxH} {a t n : Nat} {f : Nat → Option Nat} (d : jD h h1) (ha : 0 < a ∧ a < 182) : jD h (jx_wr h1 a t n f) := ⟨d.1, d.2.1, fun i hi => (jh_w_ne (by omega)).trans (d.2.2 i hi)⟩
theorem jD.uf {h h1 : jxH} {a k : Nat} {v : Value} (d : jD h h1) (ha : 0 < a ∧ a < 182) : jD h (jx_uf h1 a k v) := ⟨d.1, d.2.1, fun i hi => (jh_uf_ne (by omega)).trans (d.2.2 i hi)⟩
section JRS
variable {F : Nat → Nat → Nat} {A : Nat → Nat → Int32} {G : Nat → Option Nat} {g : Nat → Int64} {h : jxH}
theorem jcl_ln : ∀ o, o < 182 → (jcl o).isSome = true → jln o = none ∧ o ≠ 5 ∧ o ≠ 6 ∧ o ≠ 8 ∧ o ≠ 103 ∧ o ≠ 110 ∧ o ≠ 171 ∧ o ≠ 0 := by decide +kernel
theorem jcl_lt : ∀ o c, jcl o = some c → o < 182 := by
  intro o c e
  unfold jcl at e
  split at e
  · omega
  · split at e <;> first | omega | (cases e)
theorem jln_lt : ∀ o c, jln o = some c → o < 182 := by
  intro o c e
  unfold jln at e
  split at e
  · omega
  · split at e <;> first | omega | (cases e)
theorem jln_ne : ∀ o, o < 182 → (jln o).isSome = true → jcl o = none ∧ o ≠ 5 ∧ o ≠ 6 ∧ o ≠ 8 ∧ o ≠ 103 ∧ o ≠ 110 ∧ o ≠ 171 ∧ o ≠ 0 := by decide +kernel
theorem jrf_a {a t n : Nat} {r : Nat → Option Nat} (e : jrf a t = some (n, r)) : a = 6 ∨ a = 8 ∨ a = 103 ∨ a = 110 := by
  unfold jrf at e
  split at e <;> first | omega | (cases e)
theorem jR.wi (hR : jR F A G g h) {a n : Nat} {f : Nat → Int32} (ha : jln a = some n) : jR F (jua A a f) G g (jx_wi h a n f) := by
  obtain ⟨h1, h2, h3, h4, h5⟩ := hR
  obtain ⟨q1, q2, q3, q4, q5, q6, q7, q8⟩ := jln_ne a (jln_lt a n ha) (by rw [ha]; rfl)
  refine ⟨fun o c k hc => ?_, fun b m hb => ?_, fun b t m r hb => ?_, ?_, ?_⟩
  · have hne : o ≠ a := fun e => by rw [e, q1] at hc; cases hc
    exact ⟨fun e => (jh_fl_wi_ne hne).trans ((h1 o c k hc).1 e), fun b e => (jh_fl_wi_ne hne).trans ((h1 o c k hc).2 b e)⟩
  · by_cases e : b = a
    · subst e
      cases ha.symm.trans hb
      rw [jh_ai_wi, jua, if_pos rfl]
    · rw [jh_ai_wi_ne e, jua, if_neg e]
      exact h2 b m hb
  · have := jrf_a hb
    rw [jh_ar_wi_ne (by omega)]
    exact h3 b t m r hb
  · rw [jh_ar_wi_ne (by omega)]
    exact h4
  · rw [jh_al_wi_ne (by omega)]
    exact h5
theorem jR.uf (hR : jR F A G g h) {o k c v : Nat} (hc : jcl o = some c) (hk : jkd o k = some none) : jR (jup F o k v) A G g (jx_uf h o k (.int (nI v))) := by
  obtain ⟨h1, h2, h3, h4, h5⟩ := hR
  refine ⟨fun o' c' k' hc' => ⟨fun e => ?_, fun b e => ?_⟩, fun b m hb => ?_, fun b t m r hb => ?_, ?_, ?_⟩
  · by_cases e1 : o' = o
    · subst e1
      cases hc.symm.trans hc'
      by_cases e2 : k' = k
      · subst e2
        rw [jup, if_pos ⟨rfl, rfl⟩]
        exact jh_fl_uf (by rw [(h1 o' c k' hc).1 hk]; rfl)
      · rw [jh_fl_uf_ne e2, jup, if_neg (fun q => e2 q.2)]
        exact (h1 o' c k' hc).1 e
    · rw [jh_fl_uf_o e1, jup, if_neg (fun q => e1 q.1)]
      exact (h1 o' c' k' hc').1 e
  · by_cases e1 : o' = o
    · subst e1
      have e2 : k' ≠ k := fun q => by rw [q, hk] at e; cases e
      rw [jh_fl_uf_ne e2]
      exact (h1 o' c' k' hc').2 b e
    · rw [jh_fl_uf_o e1]
      exact (h1 o' c' k' hc').2 b e
  · rw [jh_ai_uf]
    exact h2 b m hb
  · rw [jh_ar_uf]
    exact h3 b t m r hb
  · rw [jh_ar_uf]
    exact h4
  · rw [jh_al_uf]
    exact h5
theorem jR.wl (hR : jR F A G g h) {g' : Nat → Int64} : jR F A G g' (jx_wl h 171 25 g') := by
  obtain ⟨h1, h2, h3, h4, h5⟩ := hR
  refine ⟨fun o c k hc => ?_, fun b m hb => ?_, fun b t m r hb => ?_, ?_, ?_⟩
  · have hne : o ≠ 171 := fun e => by subst e; cases hc
    exact ⟨fun e => (jh_fl_wl_ne hne).trans ((h1 o c k hc).1 e), fun b e => (jh_fl_wl_ne hne).trans ((h1 o c k hc).2 b e)⟩
  · have hne : b ≠ 171 := fun e => by subst e; cases hb
    rw [jh_ai_wl_ne hne]
    exact h2 b m hb
  · have := jrf_a hb
    rw [jh_ar_wl_ne (by omega)]
    exact h3 b t m r hb
  · rw [jh_ar_wl_ne (by omega)]
    exact h4
  · exact jh_al_wl
/-- nothing of it lies beyond -/
theorem jR.eq {h' : jxH} (hR : jR F A G g h) (e : ∀ i, i < 182 → h'.2.2 i = h.2.2 i) : jR F A G g h' := by
  obtain ⟨h1, h2, h3, h4, h5⟩ := hR
  refine ⟨fun o c k hc => ?_, fun b m hb => ?_, fun b t m r hb => ?_, ?_, ?_⟩
  · have := e o (jcl_lt o c hc)
    simp only [jx_fl, this]
    exact h1 o c k hc
  · have := e b (jln_lt b m hb)
    simp only [jx_ai, this]
    exact h2 b m hb
  · have := e b (by have := jrf_a hb; omega)
    simp only [jx_ar, this]
    exact h3 b t m r hb
  · simp only [jx_ar, e 5 (by decide)]
    exact h4
  · simp only [jx_al, e 171 (by decide)]
    exact h5
theorem jf_1_0 (hR : jR F A G g h) : jx_fl h 1 11 0 = some (.ref 2) := (hR.1 1 11 0 rfl).2 2 rfl
theorem jf_1_1 (hR : jR F A G g h) : jx_fl h 1 11 1 = some (.ref 5) := (hR.1 1 11 1 rfl).2 5 rfl
theorem jf_1_2 (hR : jR F A G g h) : jx_fl h 1 11 2 = some (.ref 6) := (hR.1 1 11 2 rfl).2 6 rfl
theorem jf_1_3 (hR : jR F A G g h) : jx_fl h 1 11 3 = some (.ref 7) := (hR.1 1 11 3 rfl).2 7 rfl
theorem jf_1_4 (hR : jR F A G g h) : jx_fl h 1 11 4 = some (.ref 99) := (hR.1 1 11 4 rfl).2 99 rfl
theorem jf_1_5 (hR : jR F A G g h) : jx_fl h 1 11 5 = some (.ref 128) := (hR.1 1 11 5 rfl).2 128 rfl
theorem jf_1_6 (hR : jR F A G g h) : jx_fl h 1 11 6 = some (.ref 132) := (hR.1 1 11 6 rfl).2 132 rfl
theorem jf_1_7 (hR : jR F A G g h) : jx_fl h 1 11 7 = some (.ref 137) := (hR.1 1 11 7 rfl).2 137 rfl
theorem jf_1_8 (hR : jR F A G g h) : jx_fl h 1 11 8 = some (.ref 144) := (hR.1 1 11 8 rfl).2 144 rfl
theorem jf_1_9 (hR : jR F A G g h) : jx_fl h 1 11 9 = some (.ref 146) := (hR.1 1 11 9 rfl).2 146 rfl
theorem jf_1_10 (hR : jR F A G g h) : jx_fl h 1 11 10 = some (.ref 102) := (hR.1 1 11 10 rfl).2 102 rfl
theorem jf_1_11 (hR : jR F A G g h) : jx_fl h 1 11 11 = some (.int (nI (F 1 11))) := (hR.1 1 11 11 rfl).1 rfl
theorem jc_of_1 (hR : jR F A G g h) : jx_cl h 1 = some 11 := jh_cl_fl (jf_1_0 hR)
theorem jf_2_0 (hR : jR F A G g h) : jx_fl h 2 10 0 = some (.int (nI (F 2 0))) := (hR.1 2 10 0 rfl).1 rfl
theorem jf_2_1 (hR : jR F A G g h) : jx_fl h 2 10 1 = some (.int (nI (F 2 1))) := (hR.1 2 10 1 rfl).1 rfl
theorem jf_2_2 (hR : jR F A G g h) : jx_fl h 2 10 2 = some (.ref 3) := (hR.1 2 10 2 rfl).2 3 rfl
theorem jf_2_3 (hR : jR F A G g h) : jx_fl h 2 10 3 = some (.ref 4) := (hR.1 2 10 3 rfl).2 4 rfl
theorem jc_of_2 (hR : jR F A G g h) : jx_cl h 2 = some 10 := jh_cl_fl (jf_2_0 hR)
theorem jf_7_0 (hR : jR F A G g h) : jx_fl h 7 1 0 = some (.ref 8) := (hR.1 7 1 0 rfl).2 8 rfl
theorem jf_7_1 (hR : jR F A G g h) : jx_fl h 7 1 1 = some (.int (nI (F 7 1))) := (hR.1 7 1 1 rfl).1 rfl
theorem jf_7_2 (hR : jR F A G g h) : jx_fl h 7 1 2 = some (.int (nI (F 7 2))) := (hR.1 7 1 2 rfl).1 rfl
theorem jc_of_7 (hR : jR F A G g h) : jx_cl h 7 = some 1 := jh_cl_fl (jf_7_0 hR)
theorem jf_99_0 (hR : jR F A G g h) : jx_fl h 99 4 0 = some (.int (nI (F 99 0))) := (hR.1 99 4 0 rfl).1 rfl
theorem jf_99_1 (hR : jR F A G g h) : jx_fl h 99 4 1 = some (.int (nI (F 99 1))) := (hR.1 99 4 1 rfl).1 rfl
theorem jf_99_2 (hR : jR F A G g h) : jx_fl h 99 4 2 = some (.ref 100) := (hR.1 99 4 2 rfl).2 100 rfl
theorem jf_99_3 (hR : jR F A G g h) : jx_fl h 99 4 3 = some (.ref 101) := (hR.1 99 4 3 rfl).2 101 rfl
theorem jc_of_99 (hR : jR F A G g h) : jx_cl h 99 = some 4 := jh_cl_fl (jf_99_0 hR)
theorem jf_102_0 (hR : jR F A G g h) : jx_fl h 102 3 0 = some (.ref 103) := (hR.1 102 3 0 rfl).2 103 rfl
theorem jf_102_1 (hR : jR F A G g h) : jx_fl h 102 3 1 = some (.ref 110) := (hR.1 102 3 1 rfl).2 110 rfl
theorem jc_of_102 (hR : jR F A G g h) : jx_cl h 102 = some 3 := jh_cl_fl (jf_102_0 hR)
theorem jf_117_0 (hR : jR F A G g h) : jx_fl h 117 8 0 = some (.int (nI (F 117 0))) := (hR.1 117 8 0 rfl).1 rfl
theorem jf_117_1 (hR : jR F A G g h) : jx_fl h 117 8 1 = some (.int (nI (F 117 1))) := (hR.1 117 8 1 rfl).1 rfl
theorem jf_117_2 (hR : jR F A G g h) : jx_fl h 117 8 2 = some (.ref 118) := (hR.1 117 8 2 rfl).2 118 rfl
theorem jc_of_117 (hR : jR F A G g h) : jx_cl h 117 = some 8 := jh_cl_fl (jf_117_0 hR)
theorem jf_119_0 (hR : jR F A G g h) : jx_fl h 119 8 0 = some (.int (nI (F 119 0))) := (hR.1 119 8 0 rfl).1 rfl
theorem jf_119_1 (hR : jR F A G g h) : jx_fl h 119 8 1 = some (.int (nI (F 119 1))) := (hR.1 119 8 1 rfl).1 rfl
theorem jf_119_2 (hR : jR F A G g h) : jx_fl h 119 8 2 = some (.ref 120) := (hR.1 119 8 2 rfl).2 120 rfl
theorem jc_of_119 (hR : jR F A G g h) : jx_cl h 119 = some 8 := jh_cl_fl (jf_119_0 hR)
theorem jf_121_0 (hR : jR F A G g h) : jx_fl h 121 8 0 = some (.int (nI (F 121 0))) := (hR.1 121 8 0 rfl).1 rfl
theorem jf_121_1 (hR : jR F A G g h) : jx_fl h 121 8 1 = some (.int (nI (F 121 1))) := (hR.1 121 8 1 rfl).1 rfl
theorem jf_121_2 (hR : jR F A G g h) : jx_fl h 121 8 2 = some (.ref 122) := (hR.1 121 8 2 rfl).2 122 rfl
theorem jc_of_121 (hR : jR F A G g h) : jx_cl h 121 = some 8 := jh_cl_fl (jf_121_0 hR)
theorem jf_123_0 (hR : jR F A G g h) : jx_fl h 123 8 0 = some (.int (nI (F 123 0))) := (hR.1 123 8 0 rfl).1 rfl
theorem jf_123_1 (hR : jR F A G g h) : jx_fl h 123 8 1 = some (.int (nI (F 123 1))) := (hR.1 123 8 1 rfl).1 rfl
theorem jf_123_2 (hR : jR F A G g h) : jx_fl h 123 8 2 = some (.ref 124) := (hR.1 123 8 2 rfl).2 124 rfl
theorem jc_of_123 (hR : jR F A G g h) : jx_cl h 123 = some 8 := jh_cl_fl (jf_123_0 hR)
theorem jf_125_0 (hR : jR F A G g h) : jx_fl h 125 5 0 = some (.ref 126) := (hR.1 125 5 0 rfl).2 126 rfl
theorem jf_125_1 (hR : jR F A G g h) : jx_fl h 125 5 1 = some (.ref 127) := (hR.1 125 5 1 rfl).2 127 rfl
theorem jc_of_125 (hR : jR F A G g h) : jx_cl h 125 = some 5 := jh_cl_fl (jf_125_0 hR)
theorem jf_128_0 (hR : jR F A G g h) : jx_fl h 128 0 0 = some (.ref 99) := (hR.1 128 0 0 rfl).2 99 rfl
theorem jf_128_1 (hR : jR F A G g h) : jx_fl h 128 0 1 = some (.ref 125) := (hR.1 128 0 1 rfl).2 125 rfl
theorem jf_128_2 (hR : jR F A G g h) : jx_fl h 128 0 2 = some (.ref 129) := (hR.1 128 0 2 rfl).2 129 rfl
theorem jf_128_3 (hR : jR F A G g h) : jx_fl h 128 0 3 = some (.ref 130) := (hR.1 128 0 3 rfl).2 130 rfl
theorem jf_128_4 (hR : jR F A G g h) : jx_fl h 128 0 4 = some (.ref 131) := (hR.1 128 0 4 rfl).2 131 rfl
theorem jf_128_5 (hR : jR F A G g h) : jx_fl h 128 0 5 = some (.int (nI (F 128 5))) := (hR.1 128 0 5 rfl).1 rfl
theorem jc_of_128 (hR : jR F A G g h) : jx_cl h 128 = some 0 := jh_cl_fl (jf_128_0 hR)
theorem jf_132_0 (hR : jR F A G g h) : jx_fl h 132 6 0 = some (.ref 2) := (hR.1 132 6 0 rfl).2 2 rfl
theorem jf_132_1 (hR : jR F A G g h) : jx_fl h 132 6 1 = some (.ref 99) := (hR.1 132 6 1 rfl).2 99 rfl
theorem jf_132_2 (hR : jR F A G g h) : jx_fl h 132 6 2 = some (.ref 125) := (hR.1 132 6 2 rfl).2 125 rfl
theorem jf_132_3 (hR : jR F A G g h) : jx_fl h 132 6 3 = some (.ref 133) := (hR.1 132 6 3 rfl).2 133 rfl
theorem jf_132_4 (hR : jR F A G g h) : jx_fl h 132 6 4 = some (.ref 134) := (hR.1 132 6 4 rfl).2 134 rfl
theorem jf_132_5 (hR : jR F A G g h) : jx_fl h 132 6 5 = some (.ref 135) := (hR.1 132 6 5 rfl).2 135 rfl
theorem jf_132_6 (hR : jR F A G g h) : jx_fl h 132 6 6 = some (.ref 136) := (hR.1 132 6 6 rfl).2 136 rfl
theorem jf_132_7 (hR : jR F A G g h) : jx_fl h 132 6 7 = some (.int (nI (F 132 7))) := (hR.1 132 6 7 rfl).1 rfl
theorem jc_of_132 (hR : jR F A G g h) : jx_cl h 132 = some 6 := jh_cl_fl (jf_132_0 hR)
theorem jf_137_0 (hR : jR F A G g h) : jx_fl h 137 9 0 = some (.ref 99) := (hR.1 137 9 0 rfl).2 99 rfl
theorem jf_137_1 (hR : jR F A G g h) : jx_fl h 137 9 1 = some (.ref 128) := (hR.1 137 9 1 rfl).2 128 rfl
theorem jf_137_2 (hR : jR F A G g h) : jx_fl h 137 9 2 = some (.ref 138) := (hR.1 137 9 2 rfl).2 138 rfl
theorem jf_137_3 (hR : jR F A G g h) : jx_fl h 137 9 3 = some (.ref 139) := (hR.1 137 9 3 rfl).2 139 rfl
theorem jf_137_4 (hR : jR F A G g h) : jx_fl h 137 9 4 = some (.ref 140) := (hR.1 137 9 4 rfl).2 140 rfl
theorem jf_137_5 (hR : jR F A G g h) : jx_fl h 137 9 5 = some (.ref 141) := (hR.1 137 9 5 rfl).2 141 rfl
theorem jf_137_6 (hR : jR F A G g h) : jx_fl h 137 9 6 = some (.ref 142) := (hR.1 137 9 6 rfl).2 142 rfl
theorem jf_137_7 (hR : jR F A G g h) : jx_fl h 137 9 7 = some (.ref 143) := (hR.1 137 9 7 rfl).2 143 rfl
theorem jf_137_8 (hR : jR F A G g h) : jx_fl h 137 9 8 = some (.int (nI (F 137 8))) := (hR.1 137 9 8 rfl).1 rfl
theorem jc_of_137 (hR : jR F A G g h) : jx_cl h 137 = some 9 := jh_cl_fl (jf_137_0 hR)
theorem jf_144_0 (hR : jR F A G g h) : jx_fl h 144 2 0 = some (.ref 2) := (hR.1 144 2 0 rfl).2 2 rfl
theorem jf_144_1 (hR : jR F A G g h) : jx_fl h 144 2 1 = some (.ref 99) := (hR.1 144 2 1 rfl).2 99 rfl
theorem jf_144_2 (hR : jR F A G g h) : jx_fl h 144 2 2 = some (.ref 145) := (hR.1 144 2 2 rfl).2 145 rfl
theorem jf_144_3 (hR : jR F A G g h) : jx_fl h 144 2 3 = some (.int (nI (F 144 3))) := (hR.1 144 2 3 rfl).1 rfl
theorem jf_144_4 (hR : jR F A G g h) : jx_fl h 144 2 4 = some (.int (nI (F 144 4))) := (hR.1 144 2 4 rfl).1 rfl
theorem jf_144_5 (hR : jR F A G g h) : jx_fl h 144 2 5 = some (.int (nI (F 144 5))) := (hR.1 144 2 5 rfl).1 rfl
theorem jc_of_144 (hR : jR F A G g h) : jx_cl h 144 = some 2 := jh_cl_fl (jf_144_0 hR)
theorem jf_146_0 (hR : jR F A G g h) : jx_fl h 146 7 0 = some (.ref 2) := (hR.1 146 7 0 rfl).2 2 rfl
theorem jf_146_1 (hR : jR F A G g h) : jx_fl h 146 7 1 = some (.ref 99) := (hR.1 146 7 1 rfl).2 99 rfl
theorem jf_146_2 (hR : jR F A G g h) : jx_fl h 146 7 2 = some (.ref 147) := (hR.1 146 7 2 rfl).2 147 rfl
theorem jf_146_3 (hR : jR F A G g h) : jx_fl h 146 7 3 = some (.ref 148) := (hR.1 146 7 3 rfl).2 148 rfl
theorem jf_146_4 (hR : jR F A G g h) : jx_fl h 146 7 4 = some (.int (nI (F 146 4))) := (hR.1 146 7 4 rfl).1 rfl
theorem jf_146_5 (hR : jR F A G g h) : jx_fl h 146 7 5 = some (.int (nI (F 146 5))) := (hR.1 146 7 5 rfl).1 rfl
theorem jf_146_6 (hR : jR F A G g h) : jx_fl h 146 7 6 = some (.int (nI (F 146 6))) := (hR.1 146 7 6 rfl).1 rfl
theorem jf_146_7 (hR : jR F A G g h) : jx_fl h 146 7 7 = some (.int (nI (F 146 7))) := (hR.1 146 7 7 rfl).1 rfl
theorem jc_of_146 (hR : jR F A G g h) : jx_cl h 146 = some 7 := jh_cl_fl (jf_146_0 hR)
theorem jf_149_0 (hR : jR F A G g h) : jx_fl h 149 12 0 = some (.int (nI (F 149 0))) := (hR.1 149 12 0 rfl).1 rfl
theorem jf_149_1 (hR : jR F A G g h) : jx_fl h 149 12 1 = some (.int (nI (F 149 1))) := (hR.1 149 12 1 rfl).1 rfl
theorem jf_149_2 (hR : jR F A G g h) : jx_fl h 149 12 2 = some (.ref 150) := (hR.1 149 12 2 rfl).2 150 rfl
theorem jf_149_3 (hR : jR F A G g h) : jx_fl h 149 12 3 = some (.ref 151) := (hR.1 149 12 3 rfl).2 151 rfl
theorem jf_149_4 (hR : jR F A G g h) : jx_fl h 149 12 4 = some (.int (nI (F 149 4))) := (hR.1 149 12 4 rfl).1 rfl
theorem jf_149_5 (hR : jR F A G g h) : jx_fl h 149 12 5 = some (.ref 152) := (hR.1 149 12 5 rfl).2 152 rfl
theorem jf_149_6 (hR : jR F A G g h) : jx_fl h 149 12 6 = some (.ref 153) := (hR.1 149 12 6 rfl).2 153 rfl
theorem jf_149_7 (hR : jR F A G g h) : jx_fl h 149 12 7 = some (.ref 154) := (hR.1 149 12 7 rfl).2 154 rfl
theorem jf_149_8 (hR : jR F A G g h) : jx_fl h 149 12 8 = some (.ref 155) := (hR.1 149 12 8 rfl).2 155 rfl
theorem jf_149_9 (hR : jR F A G g h) : jx_fl h 149 12 9 = some (.ref 156) := (hR.1 149 12 9 rfl).2 156 rfl
theorem jf_149_10 (hR : jR F A G g h) : jx_fl h 149 12 10 = some (.ref 157) := (hR.1 149 12 10 rfl).2 157 rfl
theorem jf_149_11 (hR : jR F A G g h) : jx_fl h 149 12 11 = some (.int (nI (F 149 11))) := (hR.1 149 12 11 rfl).1 rfl
theorem jf_149_12 (hR : jR F A G g h) : jx_fl h 149 12 12 = some (.ref 158) := (hR.1 149 12 12 rfl).2 158 rfl
theorem jf_149_13 (hR : jR F A G g h) : jx_fl h 149 12 13 = some (.int (nI (F 149 13))) := (hR.1 149 12 13 rfl).1 rfl
theorem jf_149_14 (hR : jR F A G g h) : jx_fl h 149 12 14 = some (.int (nI (F 149 14))) := (hR.1 149 12 14 rfl).1 rfl
theorem jf_149_15 (hR : jR F A G g h) : jx_fl h 149 12 15 = some (.ref 159) := (hR.1 149 12 15 rfl).2 159 rfl
theorem jf_149_16 (hR : jR F A G g h) : jx_fl h 149 12 16 = some (.ref 160) := (hR.1 149 12 16 rfl).2 160 rfl
theorem jf_149_17 (hR : jR F A G g h) : jx_fl h 149 12 17 = some (.ref 161) := (hR.1 149 12 17 rfl).2 161 rfl
theorem jf_149_18 (hR : jR F A G g h) : jx_fl h 149 12 18 = some (.ref 162) := (hR.1 149 12 18 rfl).2 162 rfl
theorem jf_149_19 (hR : jR F A G g h) : jx_fl h 149 12 19 = some (.ref 163) := (hR.1 149 12 19 rfl).2 163 rfl
theorem jf_149_20 (hR : jR F A G g h) : jx_fl h 149 12 20 = some (.ref 164) := (hR.1 149 12 20 rfl).2 164 rfl
theorem jf_149_21 (hR : jR F A G g h) : jx_fl h 149 12 21 = some (.ref 165) := (hR.1 149 12 21 rfl).2 165 rfl
theorem jf_149_22 (hR : jR F A G g h) : jx_fl h 149 12 22 = some (.ref 166) := (hR.1 149 12 22 rfl).2 166 rfl
theorem jf_149_23 (hR : jR F A G g h) : jx_fl h 149 12 23 = some (.ref 167) := (hR.1 149 12 23 rfl).2 167 rfl
theorem jf_149_24 (hR : jR F A G g h) : jx_fl h 149 12 24 = some (.ref 168) := (hR.1 149 12 24 rfl).2 168 rfl
theorem jf_149_25 (hR : jR F A G g h) : jx_fl h 149 12 25 = some (.ref 169) := (hR.1 149 12 25 rfl).2 169 rfl
theorem jf_149_26 (hR : jR F A G g h) : jx_fl h 149 12 26 = some (.ref 170) := (hR.1 149 12 26 rfl).2 170 rfl
theorem jf_149_27 (hR : jR F A G g h) : jx_fl h 149 12 27 = some (.ref 171) := (hR.1 149 12 27 rfl).2 171 rfl
theorem jf_149_28 (hR : jR F A G g h) : jx_fl h 149 12 28 = some (.ref 172) := (hR.1 149 12 28 rfl).2 172 rfl
theorem jf_149_29 (hR : jR F A G g h) : jx_fl h 149 12 29 = some (.ref 173) := (hR.1 149 12 29 rfl).2 173 rfl
theorem jf_149_30 (hR : jR F A G g h) : jx_fl h 149 12 30 = some (.ref 174) := (hR.1 149 12 30 rfl).2 174 rfl
theorem jf_149_31 (hR : jR F A G g h) : jx_fl h 149 12 31 = some (.ref 175) := (hR.1 149 12 31 rfl).2 175 rfl
theorem jf_149_32 (hR : jR F A G g h) : jx_fl h 149 12 32 = some (.ref 176) := (hR.1 149 12 32 rfl).2 176 rfl
theorem jf_149_33 (hR : jR F A G g h) : jx_fl h 149 12 33 = some (.ref 177) := (hR.1 149 12 33 rfl).2 177 rfl
theorem jf_149_34 (hR : jR F A G g h) : jx_fl h 149 12 34 = some (.ref 178) := (hR.1 149 12 34 rfl).2 178 rfl
theorem jf_149_35 (hR : jR F A G g h) : jx_fl h 149 12 35 = some (.ref 179) := (hR.1 149 12 35 rfl).2 179 rfl
theorem jf_149_36 (hR : jR F A G g h) : jx_fl h 149 12 36 = some (.ref 180) := (hR.1 149 12 36 rfl).2 180 rfl
theorem jf_149_37 (hR : jR F A G g h) : jx_fl h 149 12 37 = some (.ref 181) := (hR.1 149 12 37 rfl).2 181 rfl
theorem jc_of_149 (hR : jR F A G g h) : jx_cl h 149 = some 12 := jh_cl_fl (jf_149_0 hR)
theorem ja_3 (hR : jR F A G g h) : jx_ai h 3 = some (25, A 3) := hR.2.1 3 25 rfl
theorem ja_4 (hR : jR F A G g h) : jx_ai h 4 = some (25, A 4) := hR.2.1 4 25 rfl
theorem ja_100 (hR : jR F A G g h) : jx_ai h 100 = some (32, A 100) := hR.2.1 100 32 rfl
theorem ja_101 (hR : jR F A G g h) : jx_ai h 101 = some (32, A 101) := hR.2.1 101 32 rfl
theorem ja_104 (hR : jR F A G g h) : jx_ai h 104 = some (5, A 104) := hR.2.1 104 5 rfl
theorem ja_105 (hR : jR F A G g h) : jx_ai h 105 = some (5, A 105) := hR.2.1 105 5 rfl
theorem ja_106 (hR : jR F A G g h) : jx_ai h 106 = some (5, A 106) := hR.2.1 106 5 rfl
theorem ja_107 (hR : jR F A G g h) : jx_ai h 107 = some (5, A 107) := hR.2.1 107 5 rfl
theorem ja_108 (hR : jR F A G g h) : jx_ai h 108 = some (5, A 108) := hR.2.1 108 5 rfl
theorem ja_109 (hR : jR F A G g h) : jx_ai h 109 = some (5, A 109) := hR.2.1 109 5 rfl
theorem ja_111 (hR : jR F A G g h) : jx_ai h 111 = some (5, A 111) := hR.2.1 111 5 rfl
theorem ja_112 (hR : jR F A G g h) : jx_ai h 112 = some (5, A 112) := hR.2.1 112 5 rfl
theorem ja_113 (hR : jR F A G g h) : jx_ai h 113 = some (5, A 113) := hR.2.1 113 5 rfl
theorem ja_114 (hR : jR F A G g h) : jx_ai h 114 = some (5, A 114) := hR.2.1 114 5 rfl
theorem ja_115 (hR : jR F A G g h) : jx_ai h 115 = some (5, A 115) := hR.2.1 115 5 rfl
theorem ja_116 (hR : jR F A G g h) : jx_ai h 116 = some (5, A 116) := hR.2.1 116 5 rfl
theorem ja_118 (hR : jR F A G g h) : jx_ai h 118 = some (30, A 118) := hR.2.1 118 30 rfl
theorem ja_120 (hR : jR F A G g h) : jx_ai h 120 = some (30, A 120) := hR.2.1 120 30 rfl
theorem ja_122 (hR : jR F A G g h) : jx_ai h 122 = some (30, A 122) := hR.2.1 122 30 rfl
theorem ja_124 (hR : jR F A G g h) : jx_ai h 124 = some (30, A 124) := hR.2.1 124 30 rfl
theorem ja_126 (hR : jR F A G g h) : jx_ai h 126 = some (33, A 126) := hR.2.1 126 33 rfl
theorem ja_127 (hR : jR F A G g h) : jx_ai h 127 = some (90, A 127) := hR.2.1 127 90 rfl
theorem ja_129 (hR : jR F A G g h) : jx_ai h 129 = some (1024, A 129) := hR.2.1 129 1024 rfl
theorem ja_130 (hR : jR F A G g h) : jx_ai h 130 = some (1024, A 130) := hR.2.1 130 1024 rfl
theorem ja_131 (hR : jR F A G g h) : jx_ai h 131 = some (32, A 131) := hR.2.1 131 32 rfl
theorem ja_133 (hR : jR F A G g h) : jx_ai h 133 = some (1024, A 133) := hR.2.1 133 1024 rfl
theorem ja_134 (hR : jR F A G g h) : jx_ai h 134 = some (1024, A 134) := hR.2.1 134 1024 rfl
theorem ja_135 (hR : jR F A G g h) : jx_ai h 135 = some (1024, A 135) := hR.2.1 135 1024 rfl
theorem ja_136 (hR : jR F A G g h) : jx_ai h 136 = some (7, A 136) := hR.2.1 136 7 rfl
theorem ja_138 (hR : jR F A G g h) : jx_ai h 138 = some (49, A 138) := hR.2.1 138 49 rfl
theorem ja_139 (hR : jR F A G g h) : jx_ai h 139 = some (49, A 139) := hR.2.1 139 49 rfl
theorem ja_140 (hR : jR F A G g h) : jx_ai h 140 = some (49, A 140) := hR.2.1 140 49 rfl
theorem ja_141 (hR : jR F A G g h) : jx_ai h 141 = some (49, A 141) := hR.2.1 141 49 rfl
theorem ja_142 (hR : jR F A G g h) : jx_ai h 142 = some (49, A 142) := hR.2.1 142 49 rfl
theorem ja_143 (hR : jR F A G g h) : jx_ai h 143 = some (49, A 143) := hR.2.1 143 49 rfl
theorem ja_145 (hR : jR F A G g h) : jx_ai h 145 = some (120, A 145) := hR.2.1 145 120 rfl
theorem ja_147 (hR : jR F A G g h) : jx_ai h 147 = some (25, A 147) := hR.2.1 147 25 rfl
theorem ja_148 (hR : jR F A G g h) : jx_ai h 148 = some (32, A 148) := hR.2.1 148 32 rfl
theorem ja_150 (hR : jR F A G g h) : jx_ai h 150 = some (25, A 150) := hR.2.1 150 25 rfl
theorem ja_151 (hR : jR F A G g h) : jx_ai h 151 = some (25, A 151) := hR.2.1 151 25 rfl
theorem ja_152 (hR : jR F A G g h) : jx_ai h 152 = some (1560, A 152) := hR.2.1 152 1560 rfl
theorem ja_153 (hR : jR F A G g h) : jx_ai h 153 = some (208, A 153) := hR.2.1 153 208 rfl
theorem ja_154 (hR : jR F A G g h) : jx_ai h 154 = some (4, A 154) := hR.2.1 154 4 rfl
theorem ja_155 (hR : jR F A G g h) : jx_ai h 155 = some (4, A 155) := hR.2.1 155 4 rfl
theorem ja_156 (hR : jR F A G g h) : jx_ai h 156 = some (4, A 156) := hR.2.1 156 4 rfl
theorem ja_157 (hR : jR F A G g h) : jx_ai h 157 = some (120, A 157) := hR.2.1 157 120 rfl
theorem ja_158 (hR : jR F A G g h) : jx_ai h 158 = some (120, A 158) := hR.2.1 158 120 rfl
theorem ja_159 (hR : jR F A G g h) : jx_ai h 159 = some (30, A 159) := hR.2.1 159 30 rfl
theorem ja_160 (hR : jR F A G g h) : jx_ai h 160 = some (1024, A 160) := hR.2.1 160 1024 rfl
theorem ja_161 (hR : jR F A G g h) : jx_ai h 161 = some (1024, A 161) := hR.2.1 161 1024 rfl
theorem ja_162 (hR : jR F A G g h) : jx_ai h 162 = some (64, A 162) := hR.2.1 162 64 rfl
theorem ja_163 (hR : jR F A G g h) : jx_ai h 163 = some (64, A 163) := hR.2.1 163 64 rfl
theorem ja_164 (hR : jR F A G g h) : jx_ai h 164 = some (64, A 164) := hR.2.1 164 64 rfl
theorem ja_165 (hR : jR F A G g h) : jx_ai h 165 = some (64, A 165) := hR.2.1 165 64 rfl
theorem ja_166 (hR : jR F A G g h) : jx_ai h 166 = some (64, A 166) := hR.2.1 166 64 rfl
theorem ja_167 (hR : jR F A G g h) : jx_ai h 167 = some (64, A 167) := hR.2.1 167 64 rfl
theorem ja_168 (hR : jR F A G g h) : jx_ai h 168 = some (64, A 168) := hR.2.1 168 64 rfl
theorem ja_169 (hR : jR F A G g h) : jx_ai h 169 = some (64, A 169) := hR.2.1 169 64 rfl
theorem ja_170 (hR : jR F A G g h) : jx_ai h 170 = some (32, A 170) := hR.2.1 170 32 rfl
theorem ja_172 (hR : jR F A G g h) : jx_ai h 172 = some (5, A 172) := hR.2.1 172 5 rfl
theorem ja_173 (hR : jR F A G g h) : jx_ai h 173 = some (7, A 173) := hR.2.1 173 7 rfl
theorem ja_174 (hR : jR F A G g h) : jx_ai h 174 = some (7, A 174) := hR.2.1 174 7 rfl
theorem ja_175 (hR : jR F A G g h) : jx_ai h 175 = some (65536, A 175) := hR.2.1 175 65536 rfl
theorem ja_176 (hR : jR F A G g h) : jx_ai h 176 = some (256, A 176) := hR.2.1 176 256 rfl
theorem ja_177 (hR : jR F A G g h) : jx_ai h 177 = some (7168, A 177) := hR.2.1 177 7168 rfl
theorem ja_178 (hR : jR F A G g h) : jx_ai h 178 = some (64, A 178) := hR.2.1 178 64 rfl
theorem ja_179 (hR : jR F A G g h) : jx_ai h 179 = some (64, A 179) := hR.2.1 179 64 rfl
theorem ja_180 (hR : jR F A G g h) : jx_ai h 180 = some (5, A 180) := hR.2.1 180 5 rfl
theorem ja_181 (hR : jR F A G g h) : jx_ai h 181 = some (5, A 181) := hR.2.1 181 5 rfl
theorem ja_171 (hR : jR F A G g h) : jx_al h 171 = some (25, g) := hR.2.2.2.2
theorem ja_5 (hR : jR F A G g h) : jx_ar h 5 2 = some (4, G) := hR.2.2.2.1
end JRS
