/-! ===== the abstract heap and its reads and writes ===== -/
def tyX0 : Nat → FieldType := fun k => match k with
  | 0 => .int
  | 1 => .int
  | 2 => .int
  | 3 => .int
  | 4 => .int
  | 5 => .array .int
  | 6 => .array .int
  | 7 => .array .int
  | 8 => .array .int
  | 9 => .array .int
  | 10 => .array .int
  | 11 => .object "WrongCook$Formula"
  | 12 => .object "WrongCook$Formula"
  | _ => .object "WrongCook$State"
def tyX1 : Nat → FieldType := fun k => match k with
  | 0 => .object "WrongCook$Reader"
  | 1 => .object "WrongCook$FormulaReader"
  | _ => .object "WrongCook$Case"
def tyX2 : Nat → FieldType := fun k => match k with
  | 0 => .array .int
  | _ => .array .int
def tyX3 : Nat → FieldType := fun k => match k with
  | 0 => .object "WrongCook$Reader"
  | 1 => .array .int
  | 2 => .int
  | _ => .boolean
def tyX4 : Nat → FieldType := fun k => match k with
  | 0 => .array (.object "WrongCook$State")
  | 1 => .int
  | _ => .int
def tyX5 : Nat → FieldType := fun k => match k with
  | 0 => .int
  | 1 => .int
  | 2 => .int
  | 3 => .int
  | 4 => .array .int
  | 5 => .array .int
  | 6 => .array .int
  | _ => .array .int
def tyX6 : Nat → FieldType := fun k => match k with
  | 0 => .array .byte
  | 1 => .array .int
  | 2 => .int
  | 3 => .int
  | 4 => .int
  | 5 => .int
  | 6 => .int
  | 7 => .int
  | 8 => .int
  | 9 => .int
  | _ => .int
def tyX7 : Nat → FieldType := fun k => match k with
  | 0 => .array .int
  | 1 => .int
  | 2 => .int
  | 3 => .int
  | 4 => .array .int
  | 5 => .array .int
  | _ => .array .int
def tyX8 : Nat → FieldType := fun k => match k with
  | 0 => .int
  | 1 => .array .int
  | 2 => .int
  | 3 => .array .int
  | 4 => .array .int
  | 5 => .int
  | 6 => .int
  | _ => .array .int
def tyX9 : Nat → FieldType := fun k => match k with
  | 0 => .int
  | 1 => .array .int
  | 2 => .array .int
  | 3 => .array .int
  | 4 => .array .int
  | 5 => .array .int
  | _ => .int
def tyX10 : Nat → FieldType := fun k => match k with
  | 0 => .array .int
  | 1 => .array .int
  | 2 => .array .int
  | _ => .array .int
def tyX11 : Nat → FieldType := fun k => match k with
  | 0 => .array .byte
  | 1 => .int
  | 2 => .object "WrongCook$Reader"
  | 3 => .object "WrongCook$FormulaReader"
  | 4 => .object "WrongCook$CaseReader"
  | 5 => .object "WrongCook$Case"
  | 6 => .object "WrongCook$State"
  | 7 => .object "WrongCook$History"
  | 8 => .object "WrongCook$Ring"
  | 9 => .object "WrongCook$Ring"
  | 10 => .object "WrongCook$Notes"
  | 11 => .object "WrongCook$Trading"
  | 12 => .array (.object "WrongCook$Sorter")
  | 13 => .array .int
  | 14 => .array .int
  | 15 => .array .int
  | 16 => .int
  | 17 => .array .int
  | _ => .int
def tyX12 : Nat → FieldType := fun k => match k with
  | 0 => .array .int
  | 1 => .int
  | 2 => .int
  | 3 => .int
  | 4 => .int
  | 5 => .int
  | 6 => .int
  | 7 => .int
  | 8 => .int
  | 9 => .array .int
  | 10 => .array .char
  | 11 => .array .char
  | 12 => .array .char
  | 13 => .array .char
  | 14 => .array .char
  | 15 => .array .char
  | 16 => .array .char
  | 17 => .array .char
  | 18 => .array .char
  | 19 => .array .char
  | 20 => .array .char
  | 21 => .array .char
  | 22 => .array .char
  | 23 => .array .char
  | 24 => .array .char
  | 25 => .array .char
  | 26 => .array .char
  | 27 => .array .char
  | 28 => .array .char
  | 29 => .array .char
  | 30 => .array .char
  | 31 => .array .char
  | 32 => .array .char
  | 33 => .int
  | 34 => .array .int
  | 35 => .array .long
  | 36 => .array .int
  | 37 => .array .int
  | 38 => .array .int
  | 39 => .array .int
  | 40 => .array .int
  | 41 => .array .int
  | 42 => .array .int
  | 43 => .array .int
  | 44 => .array .int
  | 45 => .array .int
  | 46 => .array .int
  | 47 => .int
  | 48 => .int
  | 49 => .boolean
  | 50 => .array .int
  | 51 => .long
  | 52 => .long
  | 53 => .long
  | 54 => .long
  | 55 => .array .int
  | 56 => .int
  | 57 => .int
  | 58 => .array .int
  | 59 => .array .int
  | 60 => .boolean
  | 61 => .int
  | 62 => .int
  | 63 => .array .int
  | 64 => .array .int
  | 65 => .int
  | 66 => .array .int
  | 67 => .array .int
  | 68 => .array .int
  | 69 => .array .int
  | 70 => .int
  | 71 => .array .int
  | 72 => .array .int
  | 73 => .array .int
  | 74 => .int
  | 75 => .int
  | 76 => .long
  | 77 => .array .char
  | 78 => .array .char
  | 79 => .array .char
  | 80 => .array .char
  | 81 => .array .char
  | 82 => .array .char
  | 83 => .array .char
  | 84 => .array .char
  | 85 => .array .char
  | 86 => .array .char
  | 87 => .array .char
  | 88 => .array .char
  | 89 => .array .char
  | 90 => .array .char
  | 91 => .array .char
  | 92 => .array .char
  | 93 => .array .char
  | 94 => .array .char
  | 95 => .array .char
  | 96 => .array .char
  | 97 => .array .int
  | 98 => .int
  | 99 => .array .int
  | 100 => .int
  | 101 => .int
  | 102 => .int
  | 103 => .array .long
  | 104 => .int
  | 105 => .long
  | 106 => .boolean
  | 107 => .array .int
  | _ => .int
/-- cells made so far, slots in them, the kind and length of each cell, what it holds -/
abbrev xa_H : Type := Nat × Nat × (Nat → Nat × Nat) × (Nat → Nat → Int)
def xn (h : xa_H) : Nat := h.1
def xz (h : xa_H) : Nat := h.2.1
def xk (h : xa_H) : Nat → Nat × Nat := h.2.2.1
def xm (h : xa_H) : Nat → Nat → Int := h.2.2.2
def xset (h : xa_H) (a k : Nat) (v : Int) : xa_H := (h.1, h.2.1, h.2.2.1, fun a' k' => if a' = a ∧ k' = k then v else h.2.2.2 a' k')
def xnew (h : xa_H) (kd n : Nat) (d : Nat → Int) : xa_H := (h.1 + 1, h.2.1 + n, fun a => if a = h.1 then (kd, n) else h.2.2.1 a, fun a k => if a = h.1 then d k else h.2.2.2 a k)
def w32 (z : Int) : Int := z.bmod 4294967296
def w64 (z : Int) : Int := z.bmod 18446744073709551616
def xb2 (f : Int32 → Int32 → Int32) (a b : Int) : Int := (f (Int32.ofInt a) (Int32.ofInt b)).toInt
def xand (a b : Int) : Int := xb2 (fun x y => x &&& y) a b
def xior (a b : Int) : Int := xb2 (fun x y => x ||| y) a b
def xxor (a b : Int) : Int := xb2 (fun x y => x ^^^ y) a b
def xshl (a b : Int) : Int := xb2 (fun x y => x <<< (y &&& 31)) a b
def xshr (a b : Int) : Int := xb2 (fun x y => x >>> (y &&& 31)) a b
def xushr (a b : Int) : Int := xb2 (fun x y => (x.toUInt32 >>> (y.toUInt32 &&& Int32.toUInt32 31)).toInt32) a b
def xi2b (a : Int) : Int := ((Int32.ofInt a).toInt8.toInt32).toInt
def xcmp (a b : Int) : Int := if a < b then -1 else if a = b then 0 else 1
def xtag : FieldType → Nat
  | .long => 1
  | .object _ => 2
  | .array _ => 2
  | .boolean => 3
  | _ => 0
def xtyf : Nat → Nat → FieldType
  | 0 => tyX0
  | 1 => tyX1
  | 2 => tyX2
  | 3 => tyX3
  | 4 => tyX4
  | 5 => tyX5
  | 6 => tyX6
  | 7 => tyX7
  | 8 => tyX8
  | 9 => tyX9
  | 10 => tyX10
  | 11 => tyX11
  | _ => tyX12
/-- the bytes of the reader's text -/
def xa_bl : List Int := [104, 101, 108, 100, 32, 115, 97, 108, 116, 32, 104, 111, 108, 100, 101, 114, 32, 104, 97, 115, 32, 119, 97, 110, 116, 115, 32, 112, 117, 114, 115, 101, 32, 118, 97, 108, 117, 101, 115, 32, 102, 101, 117, 100, 32, 115, 105, 115, 116, 101, 114, 32, 115, 119, 97, 112, 115, 32, 112, 97, 121, 115, 32, 102, 111, 103, 32, 103, 101, 116, 115, 32, 103, 105, 118, 101, 115, 32, 109, 101, 116, 32, 110, 105, 103, 104, 116, 32, 110, 117, 109, 98, 101, 114, 32, 111, 114, 32, 97, 110, 100, 32, 110, 111, 116, 32, 97, 108, 108, 32, 109, 105, 110, 32, 109, 97, 120, 32, 102, 105, 114, 115, 116, 32, 108, 97, 115, 116, 32, 111, 102, 116, 101, 110, 32, 116, 111, 116, 97, 108, 32, 109, 111, 115, 116, 32, 108, 101, 97, 115, 116]
def xby (j : Nat) : Int := xa_bl.getD j 0
/-- a cell of that class -/
def xok (h : xa_H) (ci : Nat) (a : Int) : Bool := decide (0 ≤ a) && decide (a.toNat < xn h) && decide ((xk h a.toNat).1 = 10 + ci)
/-- a place of an array of that kind -/
def xia (h : xa_H) (kd : Nat) (a i : Int) : Bool := decide (0 ≤ a) && decide (a.toNat < xn h) && decide ((xk h a.toNat).1 = kd) && decide (0 ≤ i) && decide (i < ((xk h a.toNat).2 : Int))
def xgf (h : xa_H) (ci k : Nat) (a : Int) : Option Int := if xok h ci a then some (xm h a.toNat k) else none
def xpf (h : xa_H) (ci k : Nat) (a v : Int) : Option xa_H := if xok h ci a then some (xset h a.toNat k v) else none
def xal (h : xa_H) (kd : Nat) (a i : Int) : Option Int := if xia h kd a i then some (xm h a.toNat i.toNat) else none
def xas (h : xa_H) (kd : Nat) (a i v : Int) : Option xa_H := if xia h kd a i then some (xset h a.toNat i.toNat v) else none
def xln (h : xa_H) (a : Int) : Option Int := if decide (0 ≤ a) && decide (a.toNat < xn h) && decide ((xk h a.toNat).1 < 6) && decide ((xk h a.toNat).2 < 2147483648) then some ((xk h a.toNat).2 : Int) else none
/-- the receiver is of that class -/
def xrc {α : Type} (h : xa_H) (ci : Nat) (a : Int) (E : Option α) : Option α := if xok h ci a then E else none
def xbo {α : Type} (v : Int) (E : Option α) : Option α := if v = 0 ∨ v = 1 then E else none
def xnz {α : Type} (v : Int) (E : Option α) : Option α := if v = 0 then none else E
/-- what a new object's fields hold -/
def xd0 (ci k : Nat) : Int := if xtag (xtyf ci k) = 2 then -1 else 0
def xda (kd : Nat) : Int := if 4 ≤ kd then -1 else 0
def xno (h : xa_H) (ci N : Nat) : xa_H := xnew h (10 + ci) N (xd0 ci)
def xna (h : xa_H) (kd : Nat) (v : Int) : Option xa_H := if 0 ≤ v ∧ v ≤ 1000000 then some (xnew h kd v.toNat (fun _ => xda kd)) else none
/-- a loop: the body goes on with another state, or ends -/
def xit {σ ε : Type} (f : σ → Option (σ ⊕ ε)) : Nat → σ → Option ε
  | 0, _ => none
  | n + 1, s => (f s).bind fun r => match r with
    | .inl s' => xit f n s'
    | .inr e => some e
def xn5 {α : Type} (v : Int) (E : Option α) : Option α := if v = -5 then none else E
/-- the int arrays' copy -/
def xcpy (h : xa_H) (s sp dd dp n : Nat) : xa_H := (h.1, h.2.1, h.2.2.1, fun a k => if a = dd ∧ dp ≤ k ∧ k < dp + n then h.2.2.2 s (sp + (k - dp)) else h.2.2.2 a k)
def xcp (h : xa_H) (s sp dd dp n : Int) : Option xa_H :=
  if 0 ≤ s ∧ s.toNat < xn h ∧ (xk h s.toNat).1 = 0 ∧ 0 ≤ dd ∧ dd.toNat < xn h ∧ (xk h dd.toNat).1 = 0 ∧ 0 ≤ sp ∧ 0 ≤ dp ∧ 0 ≤ n ∧ sp + n ≤ ((xk h s.toNat).2 : Int) ∧ dp + n ≤ ((xk h dd.toNat).2 : Int) then some (xcpy h s.toNat sp.toNat dd.toNat dp.toNat n.toNat) else none
def xnO (h : xa_H) (ci N : Nat) : Option xa_H := some (xno h ci N)
def xFU : Nat := 1000000
def xel {A B α : Type} (e : A ⊕ B) (f : A → Option α) (g : B → Option α) : Option α := match e with
  | .inl a => f a
  | .inr b => g b
def xsv (a : Int) : Option Int := if a = -3 then some (-4) else none
def xsc (a : Int) : Option Int := if a = -3 then some 0 else none
def xtl (a : Int) : Option Int := if a = -4 then some 151 else none
def xtb (a i : Int) : Option Int := if a = -4 ∧ 0 ≤ i ∧ i < 151 then some (xby i.toNat) else none
def xi2c (a : Int) : Int := (((Int32.ofInt a).toUInt32 % 65536).toInt32).toInt
def xch {α : Type} (v : Int) (E : Option α) : Option α := if 0 ≤ v ∧ v < 65536 then E else none
def xbt {α : Type} (v : Int) (E : Option α) : Option α := if -128 ≤ v ∧ v < 128 then E else none
def xrs {α : Type} (a : Int) (E : Option α) : Option α := if a = -3 then E else none
def xsl (sL : Nat) (sc : Nat → Int) (i : Int) : Option Int := if 0 ≤ i ∧ i < (sL : Int) then some (sc i.toNat) else none
def xfd (a b : Int) : Option Int := if b = 0 then none else some (w32 (Int.fdiv a b))
