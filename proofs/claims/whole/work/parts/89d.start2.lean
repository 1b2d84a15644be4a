/-! ===== the makers, run by the kernel ===== -/
section START2
def jzF (h : jxH) (o k : Nat) : Nat := match h.2.2 o with
  | .inr (_, fs) => (match fs[k]? with
    | some (.int x) => x.toBitVec.toNat
    | _ => 0)
  | _ => 0
def jzA (h : jxH) (a : Nat) : Nat → Int32 := match h.2.2 a with
  | .inl (_, _, .inl f) => f
  | _ => fun _ => 0
def jzG (h : jxH) : Nat → Option Nat := match jx_ar h 5 2 with
  | some x => x.2
  | none => fun _ => none
def jzg (h : jxH) : Nat → Int64 := match jx_al h 171 with
  | some x => x.2
  | none => fun _ => 0
def jk1 (h : jxH) (o : Nat) : Bool := match jcl o with
  | none => true
  | some c => match h.2.2 o with
    | .inr (c', fs) => Nat.beq c' c && jall 40 (fun k => match jkd o k with
      | none => true
      | some none => (match fs[k]? with
        | some (.int _) => true
        | _ => false)
      | some (some a) => (match fs[k]? with
        | some (.ref b) => Nat.beq b a
        | _ => false))
    | _ => false
def jk2 (h : jxH) (a : Nat) : Bool := match jln a with
  | none => true
  | some n => match jx_ai h a with
    | some x => Nat.beq x.1 n
    | none => false
def jk3 (h : jxH) (a t n b s : Nat) : Bool := match jx_ar h a t with
  | some x => Nat.beq x.1 n && jall n (fun i => match x.2 i with
    | some y => Nat.beq y (b + s * i)
    | none => false)
  | none => false
def jk4 (h : jxH) : Bool := (match jx_ar h 5 2 with
  | some x => Nat.beq x.1 4
  | none => false) && (match jx_al h 171 with
  | some x => Nat.beq x.1 25
  | none => false)
def jkR (h : jxH) : Bool := jall 182 (jk1 h) && (jall 182 (jk2 h) && (jk3 h 6 3 4 117 2 && (jk3 h 8 2 30 9 3 && (jk3 h 103 4 6 104 1 && (jk3 h 110 4 6 111 1 && jk4 h)))))
def jkT (h : jxH) (R C : Nat) (f w f' w' : Nat → Int32) : Bool := jall R fun r => jall C fun c => (f (5 * r + c) == f' (5 * r + c) && w (5 * r + c) == w' (5 * r + c)) && (jbel (f' (5 * r + c)) 3 && jbel (w' (5 * r + c)) 10)
def jkS (h : jxH) (s : Nat) : Bool := (jzA h 155 s == nI 0 && jzA h 156 s == nI 0) && ((Nat.beq (jzF h (117 + 2 * s) 0) 0 && Nat.beq (jzF h (117 + 2 * s) 1) 0) && jall 30 fun i => jzA h (118 + 2 * s) i == jzA h 157 (30 * s + i))
def jkM (h : jxH) (R C : Nat) (v : Nat → Int32) : Bool := (Nat.beq (jzF h 99 0) (2 ^ R - 1) && Nat.beq (jzF h 99 1) (2 ^ C - 1)) && jall (2 ^ R) fun x => Nat.beq x 0 || (jzA h 100 x == nI (jmo v R C x (nI 1)) && jzA h 101 x == nI (jmo v R C x (nI 0)))
def jkP (h : jxH) : Bool := (jall 33 fun x => jzA h 126 x == nI (jpF x)) && ((jall 90 fun p => jzA h 127 p == nI (jpS p)) && jall 5 fun c => jzA h 104 c == nI 0 && jzA h 111 c == nI 0)
def jkN (h : jxH) : Bool := (Nat.beq (jzF h 2 0) (jzF h 149 0) && Nat.beq (jzF h 2 1) (jzF h 149 1)) && ((Nat.ble 1 (jzF h 149 0) && Nat.ble (jzF h 149 0) 5) && ((Nat.ble 1 (jzF h 149 1) && Nat.ble (jzF h 149 1) 5) && ((Nat.beq (jzF h 7 1) 0 && Nat.beq (jzF h 7 2) 0) && (Nat.beq (jzF h 149 4) 0 && ((Nat.beq (jzF h 128 5) 0 && Nat.beq (jzF h 132 7) 4294967295) && ((Nat.beq (jzF h 137 8) 0 && Nat.beq (jzF h 149 14) 0) && ((Nat.beq (jzF h 144 3) 0 && Nat.beq (jzF h 149 11) 0) && ((Nat.beq (jzF h 1 11) 0 && Nat.beq (jzF h 149 13) 0) && (Nat.beq h.1 182 && Nat.ble h.2.1 200000)))))))))
def jkA (h : jxH) : Bool := jkN h && (jkT h (jzF h 149 0) (jzF h 149 1) (jzA h 3) (jzA h 4) (jzA h 150) (jzA h 151) && ((jall 4 fun s => (jzG h s).isNone && jzA h 154 s == -1) && (jall 4 (jkS h) && (jkM h (jzF h 149 0) (jzF h 149 1) (jzA h 150) && jkP h))))
def jst0 : jxH := (1, 0, fun _ => jx_no)
def jstA : jxH := jx_mk jst0 12 (.inr (11, [.null, .null, .null, .null, .null, .null, .null, .null, .null, .null, .null, .int 0]))
def jstB (h : jxH) : jxH := jx_mk h 38 (.inr (12, [.int 0, .int 0, .null, .null, .int 0, .null, .null, .null, .null, .null, .null, .int 0, .null, .int 0, .int 0, .null, .null, .null, .null, .null, .null, .null, .null, .null, .null, .null, .null, .null, .null, .null, .null, .null, .null, .null, .null, .null, .null, .null]))
def jst (K : jxH → Bool) : Bool := match jx_run jxP 100000 8 85 0 [.ref 1, jx_u] [] jstA with
  | some (_, [], hA) => Nat.beq hA.1 149 && (match jx_run jxP 100000 8 129 0 [.ref 149, jx_u] [] (jstB hA) with
    | some (_, [], hB) => K hB
    | _ => false)
  | _ => false
theorem jst_ok : jst (fun h => jkR h && jkA h) = true := by decide +kernel
end START2
