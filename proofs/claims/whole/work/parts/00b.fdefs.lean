/-! ===== each method of the class and of the reference as a function ===== -/
def f_X9_init (v0 : Int) (h : xa_H) : Option (xa_H) :=
  xrc h 9 v0 <|
  (xpf h 9 0 v0 0).bind fun h1 =>
  (xna h1 0 6).bind fun h2 =>
  (xpf h2 9 1 v0 ((xn h1 : Int))).bind fun h3 =>
  (xna h3 0 6).bind fun h4 =>
  (xpf h4 9 2 v0 ((xn h3 : Int))).bind fun h5 =>
  (xna h5 0 6).bind fun h6 =>
  (xpf h6 9 3 v0 ((xn h5 : Int))).bind fun h7 =>
  (xna h7 0 36).bind fun h8 =>
  (xpf h8 9 4 v0 ((xn h7 : Int))).bind fun h9 =>
  (xna h9 0 30).bind fun h10 =>
  (xpf h10 9 5 v0 ((xn h9 : Int))).bind fun h11 =>
  (xpf h11 9 6 v0 0).bind fun h12 =>
  some h12
def f_J7_fill_53178_L5 (c0 c1 c3 : Int) (v2 : Int) (h : xa_H) : Option ((Int × xa_H) ⊕ (xa_H)) :=
  if v2 < c3 then
    (xas h 0 c0 v2 c1).bind fun h3 =>
    some (Sum.inl ((w32 (v2 + 1), h3)))
  else
    some (Sum.inr h)
def f_J7_fill_53178 (v0 v1 : Int) (h : xa_H) : Option (xa_H) :=
  (xln h v0).bind fun x1 =>
  (xit (fun s => f_J7_fill_53178_L5 v0 v1 x1 s.1 s.2) xFU ((0, h))).bind fun e4 =>
  some e4
def f_X0_init (v0 : Int) (h : xa_H) : Option (xa_H) :=
  xrc h 0 v0 <|
  (xpf h 0 0 v0 0).bind fun h1 =>
  (xpf h1 0 1 v0 0).bind fun h2 =>
  (xpf h2 0 2 v0 0).bind fun h3 =>
  (xpf h3 0 3 v0 0).bind fun h4 =>
  (xpf h4 0 4 v0 0).bind fun h5 =>
  (xna h5 0 6).bind fun h6 =>
  (xpf h6 0 5 v0 ((xn h5 : Int))).bind fun h7 =>
  (xna h7 0 6).bind fun h8 =>
  (xpf h8 0 6 v0 ((xn h7 : Int))).bind fun h9 =>
  (xna h9 0 6).bind fun h10 =>
  (xpf h10 0 7 v0 ((xn h9 : Int))).bind fun h11 =>
  (xna h11 0 6).bind fun h12 =>
  (xpf h12 0 8 v0 ((xn h11 : Int))).bind fun h13 =>
  (xna h13 0 36).bind fun h14 =>
  (xpf h14 0 9 v0 ((xn h13 : Int))).bind fun h15 =>
  (xna h15 0 6).bind fun h16 =>
  (xpf h16 0 10 v0 ((xn h15 : Int))).bind fun h17 =>
  (xpf h17 0 11 v0 ((-1))).bind fun h18 =>
  (xpf h18 0 12 v0 ((-1))).bind fun h19 =>
  (xnO h19 9 7).bind fun h20 =>
  (f_X9_init ((xn h19 : Int)) h20).bind fun r21 =>
  (xpf r21 0 13 v0 ((xn h19 : Int))).bind fun h22 =>
  (xgf h22 0 8 v0).bind fun x23 =>
  (f_J7_fill_53178 x23 ((-1)) h22).bind fun r24 =>
  some r24
def f_X1_init (v0 v1 v2 : Int) (h : xa_H) : Option (xa_H) :=
  xrc h 1 v0 <|
  (xpf h 1 2 v0 ((-1))).bind fun h1 =>
  (xpf h1 1 0 v0 v1).bind fun h2 =>
  (xpf h2 1 1 v0 v2).bind fun h3 =>
  some h3
def f_X3_init (v0 v1 : Int) (h : xa_H) : Option (xa_H) :=
  xrc h 3 v0 <|
  (xna h 0 1600).bind fun h1 =>
  (xpf h1 3 1 v0 ((xn h : Int))).bind fun h2 =>
  (xpf h2 3 0 v0 v1).bind fun h3 =>
  some h3
def f_X4_init_L25 (c0 : Int) (v1 : Int) (h : xa_H) : Option ((Int × xa_H) ⊕ (xa_H)) :=
  if v1 < 20 then
    (xgf h 4 0 c0).bind fun x6 =>
    (xnO h 9 7).bind fun h7 =>
    (f_X9_init ((xn h : Int)) h7).bind fun r8 =>
    xrc r8 9 ((xn h : Int)) <|
    (xas r8 4 x6 v1 ((xn h : Int))).bind fun h9 =>
    some (Sum.inl ((w32 (v1 + 1), h9)))
  else
    some (Sum.inr h)
def f_X4_init (v0 : Int) (h : xa_H) : Option (xa_H) :=
  xrc h 4 v0 <|
  (xna h 4 20).bind fun h1 =>
  (xpf h1 4 0 v0 ((xn h : Int))).bind fun h2 =>
  (xpf h2 4 1 v0 0).bind fun h3 =>
  (xpf h3 4 2 v0 0).bind fun h4 =>
  (xit (fun s => f_X4_init_L25 v0 s.1 s.2) xFU ((0, h4))).bind fun e10 =>
  some e10
def f_X5_init (v0 : Int) (h : xa_H) : Option (xa_H) :=
  xrc h 5 v0 <|
  (xpf h 5 0 v0 0).bind fun h1 =>
  (xpf h1 5 1 v0 0).bind fun h2 =>
  (xpf h2 5 2 v0 0).bind fun h3 =>
  (xpf h3 5 3 v0 0).bind fun h4 =>
  (xna h4 0 6).bind fun h5 =>
  (xpf h5 5 4 v0 ((xn h4 : Int))).bind fun h6 =>
  (xna h6 0 64).bind fun h7 =>
  (xpf h7 5 5 v0 ((xn h6 : Int))).bind fun h8 =>
  (xna h8 0 64).bind fun h9 =>
  (xpf h9 5 6 v0 ((xn h8 : Int))).bind fun h10 =>
  (xna h10 0 36).bind fun h11 =>
  (xpf h11 5 7 v0 ((xn h10 : Int))).bind fun h12 =>
  some h12
def f_J6_bitCount_0f7a4 (v0 : Int) (h : xa_H) : Option (Int) :=
  some (xand (w32 ((w32 ((xand (w32 ((w32 ((xand (w32 (v0 - (xand (xushr v0 1) 1431655765))) 858993459) + (xand (xushr (w32 (v0 - (xand (xushr v0 1) 1431655765))) 2) 858993459))) + (xushr (w32 ((xand (w32 (v0 - (xand (xushr v0 1) 1431655765))) 858993459) + (xand (xushr (w32 (v0 - (xand (xushr v0 1) 1431655765))) 2) 858993459))) 4))) 252645135) + (xushr (xand (w32 ((w32 ((xand (w32 (v0 - (xand (xushr v0 1) 1431655765))) 858993459) + (xand (xushr (w32 (v0 - (xand (xushr v0 1) 1431655765))) 2) 858993459))) + (xushr (w32 ((xand (w32 (v0 - (xand (xushr v0 1) 1431655765))) 858993459) + (xand (xushr (w32 (v0 - (xand (xushr v0 1) 1431655765))) 2) 858993459))) 4))) 252645135) 8))) + (xushr (w32 ((xand (w32 ((w32 ((xand (w32 (v0 - (xand (xushr v0 1) 1431655765))) 858993459) + (xand (xushr (w32 (v0 - (xand (xushr v0 1) 1431655765))) 2) 858993459))) + (xushr (w32 ((xand (w32 (v0 - (xand (xushr v0 1) 1431655765))) 858993459) + (xand (xushr (w32 (v0 - (xand (xushr v0 1) 1431655765))) 2) 858993459))) 4))) 252645135) + (xushr (xand (w32 ((w32 ((xand (w32 (v0 - (xand (xushr v0 1) 1431655765))) 858993459) + (xand (xushr (w32 (v0 - (xand (xushr v0 1) 1431655765))) 2) 858993459))) + (xushr (w32 ((xand (w32 (v0 - (xand (xushr v0 1) 1431655765))) 858993459) + (xand (xushr (w32 (v0 - (xand (xushr v0 1) 1431655765))) 2) 858993459))) 4))) 252645135) 8))) 16))) 63)
def f_X5_reckonFrom_L47 (c0 c1 c2 c3 : Int) (v4 : Int) (h : xa_H) : Option ((Int × xa_H) ⊕ (xa_H)) :=
  (xgf h 5 3 c0).bind fun x6 =>
  if v4 < x6 then
    if xand (xshr c3 v4) 1 = 1 then
      (xgf h 5 6 c0).bind fun x9 =>
      (xal h 0 x9 (xior c1 (xshl 1 v4))).bind fun x10 =>
      (xgf h 5 6 c0).bind fun x11 =>
      (xal h 0 x11 c1).bind fun x12 =>
      (xas h 0 x11 c1 (w32 (x12 + x10))).bind fun h13 =>
      (xgf h13 5 7 c0).bind fun x14 =>
      (xal h13 0 x14 (w32 ((w32 (c2 * 6)) + v4))).bind fun x15 =>
      (xgf h13 5 5 c0).bind fun x16 =>
      (xal h13 0 x16 c1).bind fun x17 =>
      (xas h13 0 x14 (w32 ((w32 (c2 * 6)) + v4)) (w32 (x15 + (w32 (x17 * x10))))).bind fun h18 =>
      some (Sum.inl ((w32 (v4 + 1), h18)))
    else
      some (Sum.inl ((w32 (v4 + 1), h)))
  else
    some (Sum.inr h)
def f_X5_reckonFrom (v0 v1 : Int) (h : xa_H) : Option (xa_H) :=
  (f_J6_bitCount_0f7a4 v1 h).bind fun r1 =>
  (xgf h 5 2 v0).bind fun x2 =>
  if r1 < x2 then
    (xgf h 5 4 v0).bind fun x4 =>
    (xal h 0 x4 r1).bind fun x5 =>
    (xit (fun s => f_X5_reckonFrom_L47 v0 v1 r1 (xand x5 (xxor v1 ((-1)))) s.1 s.2) xFU ((0, h))).bind fun e19 =>
    some e19
  else
    (xgf h 5 6 v0).bind fun x20 =>
    (xgf h 5 2 v0).bind fun x21 =>
    if r1 = x21 then
      (xas h 0 x20 v1 1).bind fun h23 =>
      some h23
    else
      (xas h 0 x20 v1 0).bind fun h24 =>
      some h24
def f_X5_reckonTo_L28 (c0 c1 c3 : Int) (v4 : Int) (h : xa_H) : Option ((Int × xa_H) ⊕ (xa_H)) :=
  (xgf h 5 3 c0).bind fun x6 =>
  if v4 < x6 then
    if xand (xshr c3 v4) 1 = 1 then
      (xgf h 5 5 c0).bind fun x9 =>
      (xal h 0 x9 (xior c1 (xshl 1 v4))).bind fun x10 =>
      (xgf h 5 5 c0).bind fun x11 =>
      (xal h 0 x11 c1).bind fun x12 =>
      (xas h 0 x9 (xior c1 (xshl 1 v4)) (w32 (x10 + x12))).bind fun h13 =>
      some (Sum.inl ((w32 (v4 + 1), h13)))
    else
      some (Sum.inl ((w32 (v4 + 1), h)))
  else
    some (Sum.inr h)
def f_X5_reckonTo (v0 v1 : Int) (h : xa_H) : Option (xa_H) :=
  (f_J6_bitCount_0f7a4 v1 h).bind fun r1 =>
  (xgf h 5 2 v0).bind fun x2 =>
  if r1 < x2 then
    (xgf h 5 4 v0).bind fun x4 =>
    (xal h 0 x4 r1).bind fun x5 =>
    (xit (fun s => f_X5_reckonTo_L28 v0 v1 (xand x5 (xxor v1 ((-1)))) s.1 s.2) xFU ((0, h))).bind fun e14 =>
    some e14
  else
    some h
def f_X5_reckon_L42 (c0 c1 : Int) (v2 : Int) (h : xa_H) : Option ((Int × xa_H) ⊕ (xa_H)) :=
  if c1 < v2 then
    some (Sum.inr h)
  else
    (xrc h 5 c0 (f_X5_reckonTo c0 v2 h)).bind fun r11 =>
    some (Sum.inl ((w32 (v2 + 1), r11)))
def f_X5_reckon_L60 (c0 : Int) (v2 : Int) (h : xa_H) : Option ((Int × xa_H) ⊕ (xa_H)) :=
  if v2 < 0 then
    some (Sum.inr h)
  else
    (xrc h 5 c0 (f_X5_reckonFrom c0 v2 h)).bind fun r14 =>
    some (Sum.inl ((w32 (v2 + (-1)), r14)))
def f_X5_reckon (v0 : Int) (h : xa_H) : Option (xa_H) :=
  (xgf h 5 5 v0).bind fun x1 =>
  (f_J7_fill_53178 x1 0 h).bind fun r2 =>
  (xgf r2 5 6 v0).bind fun x3 =>
  (f_J7_fill_53178 x3 0 r2).bind fun r4 =>
  (xgf r4 5 7 v0).bind fun x5 =>
  (f_J7_fill_53178 x5 0 r4).bind fun r6 =>
  (xgf r6 5 3 v0).bind fun x7 =>
  (xgf r6 5 5 v0).bind fun x8 =>
  (xas r6 0 x8 0 1).bind fun h9 =>
  (xit (fun s => f_X5_reckon_L42 v0 (w32 ((xshl 1 x7) - 1)) s.1 s.2) xFU ((0, h9))).bind fun e12 =>
  (xit (fun s => f_X5_reckon_L60 v0 s.1 s.2) xFU ((w32 ((xshl 1 x7) - 1), e12))).bind fun e15 =>
  (xgf e15 5 6 v0).bind fun x16 =>
  (xal e15 0 x16 0).bind fun x17 =>
  (xpf e15 5 1 v0 x17).bind fun h18 =>
  some h18
def f_X5_forget (v0 v1 v2 : Int) (h : xa_H) : Option (xa_H) :=
  (xpf h 5 0 v0 0).bind fun h1 =>
  (xpf h1 5 2 v0 v1).bind fun h2 =>
  (xpf h2 5 3 v0 v2).bind fun h3 =>
  (xgf h3 5 4 v0).bind fun x4 =>
  (f_J7_fill_53178 x4 (w32 ((xshl 1 v2) - 1)) h3).bind fun r5 =>
  (xrc r5 5 v0 (f_X5_reckon v0 r5)).bind fun r6 =>
  some r6
def f_J0_isLatin1_aae02 (v0 : Int) (h : xa_H) : Option (Int) :=
  if (1 : Int) = 0 then
    some 0
  else
    (xsc v0).bind fun x2 =>
    if x2 = 0 then
      some 1
    else
      some 0
def f_J3_checkIndex_8e157_J9 (v0 v1 v2 : Int) (h : xa_H) : Option (Int) :=
  none
def f_J3_checkIndex_8e157 (v0 v1 v2 : Int) (h : xa_H) : Option (Int) :=
  if v0 < 0 then
    f_J3_checkIndex_8e157_J9 v0 v1 v2 h
  else
    if v0 < v1 then
      some v0
    else
      f_J3_checkIndex_8e157_J9 v0 v1 v2 h
def f_J0_checkIndex_df160 (v0 v1 : Int) (h : xa_H) : Option (Unit) :=
  (f_J3_checkIndex_8e157 v0 v1 ((-5)) h).bind fun r1 =>
  some (())
def f_J1_charAt_3b067 (v0 v1 : Int) (h : xa_H) : Option (Int) :=
  (xtl v0).bind fun x1 =>
  (f_J0_checkIndex_df160 v1 x1 h).bind fun r2 =>
  (xtb v0 v1).bind fun x3 =>
  xch (xi2c (xand x3 255)) <|
  some (xi2c (xand x3 255))
def f_J0_charAt_5068e (v0 v1 : Int) (h : xa_H) : Option (Int) :=
  (xrs v0 (f_J0_isLatin1_aae02 v0 h)).bind fun r1 =>
  if r1 = 0 then
    (xsv v0).bind fun x3 =>
    none
  else
    (xsv v0).bind fun x4 =>
    (f_J1_charAt_3b067 x4 v1 h).bind fun r5 =>
    xch r5 <|
    some r5
def f_J0_coder_7d493 (v0 : Int) (h : xa_H) : Option (Int) :=
  if (1 : Int) = 0 then
    xbt 1 <|
    some 1
  else
    (xsc v0).bind fun x3 =>
    xbt x3 <|
    some x3
def f_J0_length_8abf5 (v0 : Int) (h : xa_H) : Option (Int) :=
  (xsv v0).bind fun x1 =>
  (xtl x1).bind fun x2 =>
  (xrs v0 (f_J0_coder_7d493 v0 h)).bind fun r3 =>
  some (xshr x2 r3)
def f_X6_init_L34 (c0 : Int) (v2 v3 v4 : Int) (h : xa_H) : Option ((Int × Int × Int × xa_H) ⊕ (xa_H)) :=
  (xrs ((-3)) (f_J0_length_8abf5 ((-3)) h)).bind fun r6 =>
  if v4 < r6 then
    (xrs ((-3)) (f_J0_charAt_5068e ((-3)) v4 h)).bind fun r8 =>
    if r8 = 32 then
      some (Sum.inl ((w32 (v2 + 1), 0, w32 (v4 + 1), h)))
    else
      if v2 < 29 then
        if v3 < 6 then
          (xgf h 6 1 c0).bind fun x12 =>
          (xal h 0 x12 v2).bind fun x13 =>
          (xas h 0 x12 v2 (xior x13 (xshl (w32 ((w32 (r8 - 97)) + 1)) (w32 (25 - (w32 (5 * v3))))))).bind fun h14 =>
          some (Sum.inl ((v2, w32 (v3 + 1), w32 (v4 + 1), h14)))
        else
          some (Sum.inl ((v2, v3, w32 (v4 + 1), h)))
      else
        some (Sum.inl ((v2, v3, w32 (v4 + 1), h)))
  else
    some (Sum.inr h)
def f_X6_init (v0 v1 : Int) (h : xa_H) : Option (xa_H) :=
  xrc h 6 v0 <|
  (xna h 0 29).bind fun h1 =>
  (xpf h1 6 1 v0 ((xn h : Int))).bind fun h2 =>
  (xpf h2 6 0 v0 v1).bind fun h3 =>
  (xpf h3 6 9 v0 0).bind fun h4 =>
  (xpf h4 6 10 v0 ((-1))).bind fun h5 =>
  (xit (fun s => f_X6_init_L34 v0 s.1 s.2.1 s.2.2.1 s.2.2.2) xFU ((0, 0, 0, h5))).bind fun e15 =>
  some e15
def f_X7_init (v0 : Int) (h : xa_H) : Option (xa_H) :=
  xrc h 7 v0 <|
  (xna h 0 6).bind fun h1 =>
  (xpf h1 7 0 v0 ((xn h : Int))).bind fun h2 =>
  (xpf h2 7 1 v0 0).bind fun h3 =>
  (xpf h3 7 2 v0 0).bind fun h4 =>
  (xpf h4 7 3 v0 ((-1))).bind fun h5 =>
  (xna h5 0 6).bind fun h6 =>
  (xpf h6 7 4 v0 ((xn h5 : Int))).bind fun h7 =>
  (xna h7 0 6).bind fun h8 =>
  (xpf h8 7 5 v0 ((xn h7 : Int))).bind fun h9 =>
  (xna h9 0 14).bind fun h10 =>
  (xpf h10 7 6 v0 ((xn h9 : Int))).bind fun h11 =>
  some h11
def f_X10_init (v0 : Int) (h : xa_H) : Option (xa_H) :=
  xrc h 10 v0 <|
  (xna h 0 6).bind fun h1 =>
  (xpf h1 10 0 v0 ((xn h : Int))).bind fun h2 =>
  (xna h2 0 6).bind fun h3 =>
  (xpf h3 10 1 v0 ((xn h2 : Int))).bind fun h4 =>
  (xna h4 0 6).bind fun h5 =>
  (xpf h5 10 2 v0 ((xn h4 : Int))).bind fun h6 =>
  (xna h6 0 6).bind fun h7 =>
  (xpf h7 10 3 v0 ((xn h6 : Int))).bind fun h8 =>
  some h8
def f_X11_init (v0 : Int) (h : xa_H) : Option (xa_H) :=
  xrc h 11 v0 <|
  (xna h 2 1600).bind fun h1 =>
  (xpf h1 11 0 v0 ((xn h : Int))).bind fun h2 =>
  (xpf h2 11 1 v0 0).bind fun h3 =>
  (xnO h3 6 11).bind fun h4 =>
  (xgf h4 11 0 v0).bind fun x5 =>
  (f_X6_init ((xn h3 : Int)) x5 h4).bind fun r6 =>
  (xpf r6 11 2 v0 ((xn h3 : Int))).bind fun h7 =>
  (xnO h7 3 4).bind fun h8 =>
  (xgf h8 11 2 v0).bind fun x9 =>
  (f_X3_init ((xn h7 : Int)) x9 h8).bind fun r10 =>
  (xpf r10 11 3 v0 ((xn h7 : Int))).bind fun h11 =>
  (xnO h11 1 3).bind fun h12 =>
  (xgf h12 11 2 v0).bind fun x13 =>
  (xgf h12 11 3 v0).bind fun x14 =>
  (f_X1_init ((xn h11 : Int)) x13 x14 h12).bind fun r15 =>
  (xpf r15 11 4 v0 ((xn h11 : Int))).bind fun h16 =>
  (xnO h16 0 14).bind fun h17 =>
  (f_X0_init ((xn h16 : Int)) h17).bind fun r18 =>
  (xpf r18 11 5 v0 ((xn h16 : Int))).bind fun h19 =>
  (xnO h19 9 7).bind fun h20 =>
  (f_X9_init ((xn h19 : Int)) h20).bind fun r21 =>
  (xpf r21 11 6 v0 ((xn h19 : Int))).bind fun h22 =>
  (xnO h22 4 3).bind fun h23 =>
  (f_X4_init ((xn h22 : Int)) h23).bind fun r24 =>
  (xpf r24 11 7 v0 ((xn h22 : Int))).bind fun h25 =>
  (xnO h25 7 7).bind fun h26 =>
  (f_X7_init ((xn h25 : Int)) h26).bind fun r27 =>
  (xpf r27 11 8 v0 ((xn h25 : Int))).bind fun h28 =>
  (xnO h28 7 7).bind fun h29 =>
  (f_X7_init ((xn h28 : Int)) h29).bind fun r30 =>
  (xpf r30 11 9 v0 ((xn h28 : Int))).bind fun h31 =>
  (xnO h31 5 8).bind fun h32 =>
  (f_X5_init ((xn h31 : Int)) h32).bind fun r33 =>
  (xpf r33 11 10 v0 ((xn h31 : Int))).bind fun h34 =>
  (xnO h34 10 4).bind fun h35 =>
  (f_X10_init ((xn h34 : Int)) h35).bind fun r36 =>
  (xpf r36 11 11 v0 ((xn h34 : Int))).bind fun h37 =>
  (xna h37 5 2).bind fun h38 =>
  (xpf h38 11 12 v0 ((xn h37 : Int))).bind fun h39 =>
  (xna h39 0 6).bind fun h40 =>
  (xpf h40 11 13 v0 ((xn h39 : Int))).bind fun h41 =>
  (xna h41 0 14).bind fun h42 =>
  (xpf h42 11 14 v0 ((xn h41 : Int))).bind fun h43 =>
  (xna h43 0 63).bind fun h44 =>
  (xpf h44 11 15 v0 ((xn h43 : Int))).bind fun h45 =>
  (xpf h45 11 16 v0 0).bind fun h46 =>
  (xna h46 0 6).bind fun h47 =>
  (xpf h47 11 17 v0 ((xn h46 : Int))).bind fun h48 =>
  (xpf h48 11 18 v0 1).bind fun h49 =>
  (xgf h49 11 10 v0).bind fun x50 =>
  (xrc h49 5 x50 (f_X5_forget x50 0 0 h49)).bind fun r51 =>
  some r51
def f_X11_isSettled (v0 v1 : Int) (h : xa_H) : Option (Int) :=
  (xgf h 11 6 v0).bind fun x1 =>
  (xgf h 9 1 x1).bind fun x2 =>
  (xal h 0 x2 v1).bind fun x3 =>
  (xgf h 11 6 v0).bind fun x4 =>
  (xgf h 9 2 x4).bind fun x5 =>
  (xal h 0 x5 v1).bind fun x6 =>
  if x3 = x6 then
    some 1
  else
    some 0
def f_X0_valueOf (v0 v1 v2 : Int) (h : xa_H) : Option (Int) :=
  (xgf h 0 9 v0).bind fun x1 =>
  (xal h 0 x1 (w32 ((w32 (v1 * 6)) + v2))).bind fun x2 =>
  some x2
def f_X11_findFacts_L98 (c0 c1 : Int) (v3 : Int) (h : xa_H) : Option ((Int × xa_H) ⊕ (xa_H)) :=
  if v3 < 6 then
    (xgf h 11 14 c0).bind fun x29 =>
    (xgf h 11 5 c0).bind fun x30 =>
    (xgf h 0 2 x30).bind fun x31 =>
    if v3 < x31 then
      (xgf h 11 6 c0).bind fun x33 =>
      (xgf h 9 4 x33).bind fun x34 =>
      (xal h 0 x34 (w32 ((w32 (c1 * 6)) + v3))).bind fun x35 =>
      (xas h 0 x29 (w32 (8 + v3)) x35).bind fun h36 =>
      some (Sum.inl ((w32 (v3 + 1), h36)))
    else
      (xas h 0 x29 (w32 (8 + v3)) 0).bind fun h37 =>
      some (Sum.inl ((w32 (v3 + 1), h37)))
  else
    some (Sum.inr h)
def f_X11_findFacts_J51 (v0 v1 v2 s0 s1 s2 : Int) (h : xa_H) : Option (xa_H) :=
  (xas h 0 s0 s1 s2).bind fun h13 =>
  (xgf h13 11 14 v0).bind fun x14 =>
  (xgf h13 11 5 v0).bind fun x15 =>
  (xgf h13 0 7 x15).bind fun x16 =>
  (xal h13 0 x16 v2).bind fun x17 =>
  (xas h13 0 x14 3 x17).bind fun h18 =>
  (xgf h18 11 14 v0).bind fun x19 =>
  (xgf h18 11 6 v0).bind fun x20 =>
  (xgf h18 9 3 x20).bind fun x21 =>
  (xal h18 0 x21 v1).bind fun x22 =>
  (xas h18 0 x19 5 x22).bind fun h23 =>
  (xgf h23 11 14 v0).bind fun x24 =>
  (xgf h23 11 6 v0).bind fun x25 =>
  (xgf h23 9 0 x25).bind fun x26 =>
  (xas h23 0 x24 6 x26).bind fun h27 =>
  (xit (fun s => f_X11_findFacts_L98 v0 v1 s.1 s.2) xFU ((0, h27))).bind fun e38 =>
  some e38
def f_X11_findFacts (v0 v1 : Int) (h : xa_H) : Option (xa_H) :=
  (xgf h 11 6 v0).bind fun x1 =>
  (xgf h 9 1 x1).bind fun x2 =>
  (xal h 0 x2 v1).bind fun x3 =>
  (xgf h 11 14 v0).bind fun x4 =>
  (xas h 0 x4 7 v1).bind fun h5 =>
  (xgf h5 11 14 v0).bind fun x6 =>
  (xgf h5 11 5 v0).bind fun x7 =>
  (xrc h5 0 x7 (f_X0_valueOf x7 v1 x3 h5)).bind fun r8 =>
  (xas h5 0 x6 1 r8).bind fun h9 =>
  (xgf h9 11 14 v0).bind fun x10 =>
  (xrc h9 11 v0 (f_X11_isSettled v0 v1 h9)).bind fun r11 =>
  if r11 = 0 then
    f_X11_findFacts_J51 v0 v1 x3 x10 2 0 h9
  else
    f_X11_findFacts_J51 v0 v1 x3 x10 2 1 h9
def f_X2_ofOne (v0 v1 v2 : Int) (h : xa_H) : Option (Int) :=
  if v0 = (-9) then
    some (w32 (1 - v1))
  else
    if v1 < 0 then
      some 0
    else
      if v1 < 6 then
        (xal h 0 v2 (w32 (8 + v1))).bind fun x4 =>
        some x4
      else
        some 0
def f_X2_limited (v0 : Int) (h : xa_H) : Option (Int) :=
  some (w32 (max ((-1000000)) (min 1000000 v0)))
def f_X2_ofTwo (v0 v1 v2 : Int) (h : xa_H) : Option (Int) :=
  if v0 = (-20) then
    some (xand v1 v2)
  else
    if v0 = (-19) then
      if v1 = v2 then
        some 1
      else
        some 0
    else
      if v0 = (-18) then
        if v2 < v1 then
          some 1
        else
          some 0
      else
        if v0 = (-17) then
          if v1 < v2 then
            some 1
          else
            some 0
        else
          if v0 = (-16) then
            some (max v1 v2)
          else
            if v0 = (-15) then
              some (min v1 v2)
            else
              if v0 = (-14) then
                if v2 = 0 then
                  some 0
                else
                  (xfd v1 v2).bind fun x12 =>
                  some x12
              else
                if v0 = (-13) then
                  (f_X2_limited (w64 (v1 * v2)) h).bind fun r14 =>
                  some r14
                else
                  if v0 = (-12) then
                    (f_X2_limited (w64 (v1 - v2)) h).bind fun r16 =>
                    some r16
                  else
                    if v0 = (-11) then
                      (f_X2_limited (w64 (v1 + v2)) h).bind fun r18 =>
                      some r18
                    else
                      some (xior v1 v2)
def f_X2_worth_L14 (c0 c1 c3 c4 : Int) (v2 v5 : Int) (h : xa_H) : Option ((Int × Int × xa_H) ⊕ ((Int × xa_H) ⊕ (Int × xa_H))) :=
  if v5 < c4 then
    (xal h 0 c3 v5).bind fun x4 =>
    if (-9) < x4 then
      if v2 < 64 then
        (xgf h 2 1 c0).bind fun x7 =>
        if x4 < 0 then
          (xal h 0 c1 (w32 (((-1)) - x4))).bind fun x9 =>
          (xas h 0 x7 v2 x9).bind fun h10 =>
          some (Sum.inl ((w32 (v2 + 1), w32 (v5 + 1), h10)))
        else
          (xas h 0 x7 v2 x4).bind fun h11 =>
          some (Sum.inl ((w32 (v2 + 1), w32 (v5 + 1), h11)))
      else
        some (Sum.inr (Sum.inl ((0, h))))
    else
      if (-11) < x4 then
        if v2 < 1 then
          some (Sum.inr (Sum.inl ((0, h))))
        else
          (xgf h 2 1 c0).bind fun x14 =>
          (xgf h 2 1 c0).bind fun x15 =>
          (xal h 0 x15 (w32 (v2 - 1))).bind fun x16 =>
          (f_X2_ofOne x4 x16 c1 h).bind fun r17 =>
          (xas h 0 x14 (w32 (v2 - 1)) r17).bind fun h18 =>
          some (Sum.inl ((v2, w32 (v5 + 1), h18)))
      else
        if v2 < 2 then
          some (Sum.inr (Sum.inl ((0, h))))
        else
          (xgf h 2 1 c0).bind fun x20 =>
          (xgf h 2 1 c0).bind fun x21 =>
          (xal h 0 x21 (w32 ((w32 (v2 + (-1))) - 1))).bind fun x22 =>
          (xgf h 2 1 c0).bind fun x23 =>
          (xal h 0 x23 (w32 (v2 + (-1)))).bind fun x24 =>
          (f_X2_ofTwo x4 x22 x24 h).bind fun r25 =>
          (xas h 0 x20 (w32 ((w32 (v2 + (-1))) - 1)) r25).bind fun h26 =>
          some (Sum.inl ((w32 (v2 + (-1)), w32 (v5 + 1), h26)))
  else
    some (Sum.inr (Sum.inr ((v2, h))))
def f_X2_worth (v0 v1 : Int) (h : xa_H) : Option (Int × xa_H) :=
  (xgf h 2 0 v0).bind fun x1 =>
  (xln h x1).bind fun x2 =>
  (xit (fun s => f_X2_worth_L14 v0 v1 x1 x2 s.1 s.2.1 s.2.2) xFU ((0, 0, h))).bind fun e27 =>
  xel e27 (fun r => some r) (fun y28 =>
    if 0 < y28.1 then
      (xgf y28.2 2 1 v0).bind fun x30 =>
      (xal y28.2 0 x30 (w32 (y28.1 - 1))).bind fun x31 =>
      some ((x31, y28.2))
    else
      some ((0, y28.2)))
def f_X11_answerSum_J62L11 (c0 c1 c2 v3 v7 v9 v10 s0 : Int) (h : xa_H) : Option ((Int × Int × Int × Int × xa_H) ⊕ (Int × Int × Int × xa_H)) :=
  if v9 = 0 then
    some (Sum.inl ((v3, s0, v10, w32 (v9 + 1), h)))
  else
    some (Sum.inl ((v3, s0, min v7 v10, w32 (v9 + 1), h)))
def f_X11_answerSum_L11 (c0 c1 c2 : Int) (v3 v5 v7 v9 : Int) (h : xa_H) : Option ((Int × Int × Int × Int × xa_H) ⊕ (Int × Int × Int × xa_H)) :=
  (xgf h 11 5 c0).bind fun x1 =>
  (xgf h 0 2 x1).bind fun x2 =>
  if v9 < x2 then
    (xrc h 11 c0 (f_X11_findFacts c0 v9 h)).bind fun r4 =>
    (xgf r4 11 14 c0).bind fun x5 =>
    (xrc r4 2 c2 (f_X2_worth c2 x5 r4)).bind fun r6 =>
    if v9 = 0 then
      f_X11_answerSum_J62L11 c0 c1 c2 (w64 (v3 + r6.1)) v7 v9 r6.1 r6.1 r6.2
    else
      f_X11_answerSum_J62L11 c0 c1 c2 (w64 (v3 + r6.1)) v7 v9 r6.1 (max v5 r6.1) r6.2
  else
    some (Sum.inr ((v3, v5, v7, h)))
def f_X11_answerSum (v0 v1 v2 : Int) (h : xa_H) : Option (Int × xa_H) :=
  (xit (fun s => f_X11_answerSum_L11 v0 v1 v2 s.1 s.2.1 s.2.2.1 s.2.2.2.1 s.2.2.2.2) xFU ((0, 0, 0, 0, h))).bind fun e9 =>
  if v1 = 26 then
    some ((e9.1, e9.2.2.2))
  else
    if v1 = 27 then
      some ((e9.2.1, e9.2.2.2))
    else
      some ((e9.2.2.1, e9.2.2.2))
def f_X11_answerTest_L11 (c0 c1 c2 : Int) (v3 v4 v5 v6 : Int) (h : xa_H) : Option ((Int × Int × Int × Int × xa_H) ⊕ (Int × Int × Int × xa_H)) :=
  (xgf h 11 5 c0).bind fun x1 =>
  (xgf h 0 2 x1).bind fun x2 =>
  if v6 < x2 then
    (xrc h 11 c0 (f_X11_findFacts c0 v6 h)).bind fun r4 =>
    (xgf r4 11 14 c0).bind fun x5 =>
    (xrc r4 2 c2 (f_X2_worth c2 x5 r4)).bind fun r6 =>
    if r6.1 = 0 then
      some (Sum.inl ((v3, v4, v5, w32 (v6 + 1), r6.2)))
    else
      if v4 = (-1) then
        some (Sum.inl ((w32 (v3 + 1), v6, v6, w32 (v6 + 1), r6.2)))
      else
        some (Sum.inl ((w32 (v3 + 1), v4, v6, w32 (v6 + 1), r6.2)))
  else
    some (Sum.inr ((v3, v4, v5, h)))
def f_X11_answerTest (v0 v1 v2 : Int) (h : xa_H) : Option (Int × xa_H) :=
  (xit (fun s => f_X11_answerTest_L11 v0 v1 v2 s.1 s.2.1 s.2.2.1 s.2.2.2.1 s.2.2.2.2) xFU ((0, (-1), (-1), 0, h))).bind fun e9 =>
  if v1 = 25 then
    some ((e9.1, e9.2.2.2))
  else
    if v1 = 23 then
      some ((e9.2.1, e9.2.2.2))
    else
      some ((e9.2.2.1, e9.2.2.2))
def f_X11_isHeld (v0 v1 : Int) (h : xa_H) : Option (Int) :=
  if v1 < 0 then
    some 0
  else
    (xgf h 11 5 v0).bind fun x2 =>
    (xgf h 0 1 x2).bind fun x3 =>
    if v1 < x3 then
      some 1
    else
      some 0
def f_X11_isHolder (v0 v1 : Int) (h : xa_H) : Option (Int) :=
  if v1 < 0 then
    some 0
  else
    (xgf h 11 5 v0).bind fun x2 =>
    (xgf h 0 2 x2).bind fun x3 =>
    if v1 < x3 then
      some 1
    else
      some 0
def f_X11_tapeByte (v0 v1 : Int) (h : xa_H) : Option (Int) :=
  if v1 < 0 then
    some 0
  else
    if v1 < 1600 then
      (xgf h 11 0 v0).bind fun x3 =>
      (xal h 2 x3 v1).bind fun x4 =>
      some (xand x4 255)
    else
      some 0
def f_X11_areNotes_L21 (c0 c1 : Int) (h : xa_H) (v2 : Int) : Option ((Int) ⊕ ((Int) ⊕ (Unit))) :=
  if v2 < c1 then
    (xrc h 11 c0 (f_X11_tapeByte c0 v2 h)).bind fun r5 =>
    (xrc h 11 c0 (f_X11_isHolder c0 r5 h)).bind fun r6 =>
    if r6 = 0 then
      some (Sum.inr (Sum.inl 0))
    else
      (xrc h 11 c0 (f_X11_tapeByte c0 (w32 (v2 + 1)) h)).bind fun r8 =>
      (xrc h 11 c0 (f_X11_isHeld c0 r8 h)).bind fun r9 =>
      if r9 = 0 then
        some (Sum.inr (Sum.inl 0))
      else
        (xrc h 11 c0 (f_X11_tapeByte c0 (w32 (v2 + 2)) h)).bind fun r11 =>
        if 1 < r11 then
          some (Sum.inr (Sum.inl 0))
        else
          some (Sum.inl (w32 (v2 + 3)))
  else
    some (Sum.inr (Sum.inr (())))
def f_X11_areNotes (v0 v1 : Int) (h : xa_H) : Option (Int) :=
  if v1 < 3 then
    some 0
  else
    if 60 < v1 then
      some 0
    else
      if Int.tmod v1 3 = 0 then
        (xit (fun s => f_X11_areNotes_L21 v0 v1 h s) xFU 0).bind fun e13 =>
        xel e13 (fun r => some r) (fun y14 =>
          some 1)
      else
        some 0
def f_X11_takeTape (v0 : Int) (h : xa_H) : Option (Int × xa_H) :=
  (xgf h 11 1 v0).bind fun x1 =>
  (xpf h 11 1 v0 0).bind fun h2 =>
  some ((x1, h2))
def f_X2_init (v0 v1 : Int) (h : xa_H) : Option (xa_H) :=
  xrc h 2 v0 <|
  (xna h 0 64).bind fun h1 =>
  (xpf h1 2 1 v0 ((xn h : Int))).bind fun h2 =>
  (xpf h2 2 0 v0 v1).bind fun h3 =>
  some h3
def f_X3_put (v0 v1 : Int) (h : xa_H) : Option (Int × xa_H) :=
  (xgf h 3 2 v0).bind fun x1 =>
  (xgf h 3 1 v0).bind fun x2 =>
  (xln h x2).bind fun x3 =>
  if x1 < x3 then
    (xgf h 3 1 v0).bind fun x5 =>
    (xgf h 3 2 v0).bind fun x6 =>
    (xas h 0 x5 x6 v1).bind fun h7 =>
    (xgf h7 3 2 v0).bind fun x8 =>
    (xpf h7 3 2 v0 (w32 (x8 + 1))).bind fun h9 =>
    some ((1, h9))
  else
    some ((1, h))
def f_X6_step_L27 (c0 c1 c2 : Int) (h : xa_H) : Option ((xa_H) ⊕ (xa_H)) :=
  (xgf h 6 5 c0).bind fun x4 =>
  (xgf h 6 2 c0).bind fun x5 =>
  if x4 < x5 then
    (xgf h 6 0 c0).bind fun x7 =>
    (xgf h 6 5 c0).bind fun x8 =>
    (xal h 2 x7 x8).bind fun x9 =>
    if x9 = 10 then
      (xgf h 6 5 c0).bind fun x11 =>
      (xpf h 6 5 c0 (w32 (x11 + 1))).bind fun h12 =>
      some (Sum.inl h12)
    else
      (xgf h 6 0 c0).bind fun x13 =>
      (xgf h 6 5 c0).bind fun x14 =>
      (xal h 2 x13 x14).bind fun x15 =>
      if x15 = 32 then
        (xgf h 6 5 c0).bind fun x17 =>
        (xpf h 6 5 c0 (w32 (x17 + 1))).bind fun h18 =>
        some (Sum.inl h18)
      else
        some (Sum.inr h)
  else
    some (Sum.inr h)
def f_X6_step_L132 (c0 c3 : Int) (h : xa_H) : Option ((xa_H) ⊕ (xa_H)) :=
  (xgf h 6 5 c0).bind fun x28 =>
  (xgf h 6 2 c0).bind fun x29 =>
  if x28 < x29 then
    (xgf h 6 0 c0).bind fun x31 =>
    (xgf h 6 5 c0).bind fun x32 =>
    (xal h 2 x31 x32).bind fun x33 =>
    if x33 < 97 then
      some (Sum.inr h)
    else
      (xgf h 6 0 c0).bind fun x35 =>
      (xgf h 6 5 c0).bind fun x36 =>
      (xal h 2 x35 x36).bind fun x37 =>
      if 122 < x37 then
        some (Sum.inr h)
      else
        (xgf h 6 5 c0).bind fun x39 =>
        (xgf h 6 4 c0).bind fun x40 =>
        if w32 (x39 - x40) < 6 then
          (xgf h 6 6 c0).bind fun x42 =>
          (xgf h 6 0 c0).bind fun x43 =>
          (xgf h 6 5 c0).bind fun x44 =>
          (xal h 2 x43 x44).bind fun x45 =>
          (xgf h 6 5 c0).bind fun x46 =>
          (xgf h 6 4 c0).bind fun x47 =>
          (xpf h 6 6 c0 (xior x42 (xshl (w32 ((w32 (x45 - 97)) + 1)) (w32 (25 - (w32 (5 * (w32 (x46 - x47))))))))).bind fun h48 =>
          (xgf h48 6 5 c0).bind fun x49 =>
          (xpf h48 6 5 c0 (w32 (x49 + 1))).bind fun h50 =>
          some (Sum.inl h50)
        else
          (xgf h 6 5 c0).bind fun x51 =>
          (xpf h 6 5 c0 (w32 (x51 + 1))).bind fun h52 =>
          some (Sum.inl h52)
  else
    some (Sum.inr h)
def f_X6_step_L263 (c0 c3 : Int) (v4 : Int) (h : xa_H) : Option ((Int × xa_H) ⊕ (xa_H)) :=
  if c3 = 0 then
    (xgf h 6 5 c0).bind fun x60 =>
    (xgf h 6 4 c0).bind fun x61 =>
    if 6 < w32 (x60 - x61) then
      some (Sum.inr h)
    else
      if v4 < 29 then
        (xgf h 6 1 c0).bind fun x64 =>
        (xal h 0 x64 v4).bind fun x65 =>
        (xgf h 6 6 c0).bind fun x66 =>
        if x65 = x66 then
          (xpf h 6 7 c0 v4).bind fun h68 =>
          some (Sum.inl ((w32 (v4 + 1), h68)))
        else
          (xgf h 6 7 c0).bind fun x69 =>
          (xpf h 6 7 c0 x69).bind fun h70 =>
          some (Sum.inl ((w32 (v4 + 1), h70)))
      else
        some (Sum.inr h)
  else
    some (Sum.inr h)
def f_X6_step_J257 (v0 v3 s0 s1 : Int) (h : xa_H) : Option (xa_H) :=
  (xpf h 6 3 s0 s1).bind fun h58 =>
  (xit (fun s => f_X6_step_L263 v0 v3 s.1 s.2) xFU ((0, h58))).bind fun e71 =>
  some e71
def f_X6_step_L322 (c0 c3 : Int) (h : xa_H) : Option ((xa_H) ⊕ (xa_H)) :=
  (xgf h 6 5 c0).bind fun x72 =>
  (xgf h 6 2 c0).bind fun x73 =>
  if x72 < x73 then
    (xgf h 6 0 c0).bind fun x75 =>
    (xgf h 6 5 c0).bind fun x76 =>
    (xal h 2 x75 x76).bind fun x77 =>
    if x77 < 48 then
      some (Sum.inr h)
    else
      (xgf h 6 0 c0).bind fun x79 =>
      (xgf h 6 5 c0).bind fun x80 =>
      (xal h 2 x79 x80).bind fun x81 =>
      if 57 < x81 then
        some (Sum.inr h)
      else
        (xgf h 6 5 c0).bind fun x83 =>
        (xgf h 6 4 c0).bind fun x84 =>
        if w32 (x83 - x84) < 4 then
          (xgf h 6 6 c0).bind fun x86 =>
          (xgf h 6 0 c0).bind fun x87 =>
          (xgf h 6 5 c0).bind fun x88 =>
          (xal h 2 x87 x88).bind fun x89 =>
          (xpf h 6 6 c0 (w32 ((w32 ((w32 (10 * x86)) + x89)) - 48))).bind fun h90 =>
          (xgf h90 6 5 c0).bind fun x91 =>
          (xpf h90 6 5 c0 (w32 (x91 + 1))).bind fun h92 =>
          some (Sum.inl h92)
        else
          (xgf h 6 5 c0).bind fun x93 =>
          (xpf h 6 5 c0 (w32 (x93 + 1))).bind fun h94 =>
          some (Sum.inl h94)
  else
    some (Sum.inr h)
def f_X6_step_J411 (v0 v3 : Int) (h : xa_H) : Option (xa_H) :=
  (xgf h 6 5 v0).bind fun x96 =>
  (xgf h 6 4 v0).bind fun x97 =>
  if x97 < x96 then
    if v3 = 0 then
      (xpf h 6 3 v0 2).bind fun h100 =>
      some h100
    else
      (xpf h 6 3 v0 4).bind fun h101 =>
      some h101
  else
    (xpf h 6 3 v0 3).bind fun h102 =>
    (xgf h102 6 0 v0).bind fun x103 =>
    (xgf h102 6 4 v0).bind fun x104 =>
    (xal h102 2 x103 x104).bind fun x105 =>
    (xpf h102 6 6 v0 (xand x105 255)).bind fun h106 =>
    (xgf h106 6 5 v0).bind fun x107 =>
    (xpf h106 6 5 v0 (w32 (x107 + 1))).bind fun h108 =>
    some h108
def f_X6_step_J236 (v0 v3 : Int) (h : xa_H) : Option (xa_H) :=
  (xgf h 6 5 v0).bind fun x54 =>
  (xgf h 6 4 v0).bind fun x55 =>
  if x55 < x54 then
    if v3 = 0 then
      f_X6_step_J257 v0 v3 v0 1 h
    else
      f_X6_step_J257 v0 v3 v0 4 h
  else
    (xit (fun s => f_X6_step_L322 v0 v3 s) xFU h).bind fun e95 =>
    f_X6_step_J411 v0 v3 e95
def f_X6_step_J96 (v0 s0 : Int) (h : xa_H) : Option (xa_H) :=
  (xgf h 6 5 v0).bind fun x21 =>
  (xpf h 6 4 v0 x21).bind fun h22 =>
  (xpf h22 6 6 v0 0).bind fun h23 =>
  (xpf h23 6 7 v0 ((-1))).bind fun h24 =>
  (xgf h24 6 4 v0).bind fun x25 =>
  (xgf h24 6 2 v0).bind fun x26 =>
  if x25 < x26 then
    (xit (fun s => f_X6_step_L132 v0 s0 s) xFU h24).bind fun e53 =>
    f_X6_step_J236 v0 s0 e53
  else
    (xpf h24 6 3 v0 0).bind fun h109 =>
    some h109
def f_X6_step_J95 (v0 : Int) (h : xa_H) : Option (xa_H) :=
  f_X6_step_J96 v0 0 h
def f_X6_step_J79 (v0 v1 v2 : Int) (h : xa_H) : Option (xa_H) :=
  if v1 = 0 then
    f_X6_step_J95 v0 h
  else
    (xgf h 6 5 v0).bind fun x110 =>
    if x110 = v2 then
      f_X6_step_J96 v0 1 h
    else
      f_X6_step_J95 v0 h
def f_X6_step_J21 (v0 s0 : Int) (h : xa_H) : Option (xa_H) :=
  (xgf h 6 5 v0).bind fun x3 =>
  (xit (fun s => f_X6_step_L27 v0 s0 x3 s) xFU h).bind fun e19 =>
  f_X6_step_J79 v0 s0 x3 e19
def f_X6_step_J16 (v0 : Int) (h : xa_H) : Option (xa_H) :=
  f_X6_step_J21 v0 1 h
def f_X6_step (v0 : Int) (h : xa_H) : Option (xa_H) :=
  (xgf h 6 3 v0).bind fun x1 =>
  if x1 = 1 then
    f_X6_step_J16 v0 h
  else
    (xgf h 6 3 v0).bind fun x112 =>
    if x112 = 2 then
      f_X6_step_J16 v0 h
    else
      f_X6_step_J21 v0 0 h
def f_X6_isSign (v0 v1 : Int) (h : xa_H) : Option (Int) :=
  (xgf h 6 3 v0).bind fun x1 =>
  if x1 = 3 then
    (xgf h 6 6 v0).bind fun x3 =>
    if x3 = v1 then
      some 1
    else
      some 0
  else
    some 0
def f_X3_signCode (v0 v1 v2 v3 v4 : Int) (h : xa_H) : Option (Int) :=
  (xgf h 3 0 v0).bind fun x1 =>
  (xrc h 6 x1 (f_X6_isSign x1 v1 h)).bind fun r2 =>
  if r2 = 0 then
    (xgf h 3 0 v0).bind fun x4 =>
    (xrc h 6 x4 (f_X6_isSign x4 v3 h)).bind fun r5 =>
    if r5 = 0 then
      some ((-22))
    else
      some v4
  else
    some v2
def f_X6_refuse (v0 v1 v2 : Int) (h : xa_H) : Option (Int × xa_H) :=
  (xpf h 6 9 v0 v1).bind fun h1 =>
  (xpf h1 6 10 v0 v2).bind fun h2 =>
  some ((0, h2))
def f_X3_stepInto (v0 v1 : Int) (h : xa_H) : Option (Int × xa_H) :=
  if v1 < 6 then
    (xgf h 3 0 v0).bind fun x2 =>
    (xrc h 6 x2 (f_X6_step x2 h)).bind fun r3 =>
    some ((1, r3))
  else
    (xgf h 3 0 v0).bind fun x4 =>
    (xgf h 3 0 v0).bind fun x5 =>
    (xgf h 6 4 x5).bind fun x6 =>
    (xrc h 6 x4 (f_X6_refuse x4 4 x6 h)).bind fun r7 =>
    xbo r7.1 <|
    some ((r7.1, r7.2))
def f_X6_stray (v0 : Int) (h : xa_H) : Option (Int × xa_H) :=
  (xpf h 6 9 v0 1).bind fun h1 =>
  (xgf h1 6 4 v0).bind fun x2 =>
  (xpf h1 6 10 v0 x2).bind fun h3 =>
  some ((0, h3))
def f_X6_needSign_J16 (v0 : Int) (h : xa_H) : Option (Int × xa_H) :=
  (xrc h 6 v0 (f_X6_stray v0 h)).bind fun r6 =>
  xbo r6.1 <|
  some ((r6.1, r6.2))
def f_X6_needSign (v0 v1 : Int) (h : xa_H) : Option (Int × xa_H) :=
  (xgf h 6 3 v0).bind fun x1 =>
  if x1 = 3 then
    (xgf h 6 6 v0).bind fun x3 =>
    if x3 = v1 then
      (xrc h 6 v0 (f_X6_step v0 h)).bind fun r5 =>
      some ((1, r5))
    else
      f_X6_needSign_J16 v0 h
  else
    f_X6_needSign_J16 v0 h
def f_X3_factCode (v0 v1 : Int) (h : xa_H) : Option (Int) :=
  if v1 = 1 then
    some ((-4))
  else
    if v1 = 2 then
      some ((-22))
    else
      if v1 = 3 then
        some ((-22))
      else
        if v1 = 4 then
          some ((-3))
        else
          if v1 = 5 then
            some ((-6))
          else
            if v1 = 6 then
              some ((-22))
            else
              if v1 = 7 then
                some ((-22))
              else
                if v1 = 8 then
                  some ((-22))
                else
                  if v1 = 9 then
                    some ((-22))
                  else
                    if v1 = 10 then
                      some ((-22))
                    else
                      if v1 = 11 then
                        some ((-22))
                      else
                        if v1 = 12 then
                          (xgf h 3 3 v0).bind fun x13 =>
                          if x13 = 0 then
                            some ((-1))
                          else
                            some ((-22))
                        else
                          if v1 = 13 then
                            some ((-2))
                          else
                            if v1 = 14 then
                              (xgf h 3 3 v0).bind fun x17 =>
                              if x17 = 0 then
                                some ((-5))
                              else
                                some ((-22))
                            else
                              if v1 = 15 then
                                some ((-7))
                              else
                                if v1 = 16 then
                                  (xgf h 3 3 v0).bind fun x21 =>
                                  if x21 = 0 then
                                    some ((-22))
                                  else
                                    some ((-8))
                                else
                                  some ((-22))
def f_X6_needNumber (v0 v1 : Int) (h : xa_H) : Option (Int × xa_H) :=
  (xgf h 6 6 v0).bind fun x1 =>
  (xgf h 6 3 v0).bind fun x2 =>
  if x2 = 2 then
    (xgf h 6 5 v0).bind fun x4 =>
    (xgf h 6 4 v0).bind fun x5 =>
    if 4 < w32 (x4 - x5) then
      (xgf h 6 4 v0).bind fun x7 =>
      (xrc h 6 v0 (f_X6_refuse v0 1 (w32 (x7 + 4)) h)).bind fun r8 =>
      some (((-1), r8.2))
    else
      if v1 < x1 then
        (xgf h 6 4 v0).bind fun x10 =>
        (xrc h 6 v0 (f_X6_refuse v0 2 x10 h)).bind fun r11 =>
        some (((-1), r11.2))
      else
        (xrc h 6 v0 (f_X6_step v0 h)).bind fun r12 =>
        some ((x1, r12))
  else
    (xrc h 6 v0 (f_X6_stray v0 h)).bind fun r13 =>
    some (((-1), r13.2))
def f_X3_test_L8 (rc : Nat → Int → Int → xa_H → Option (Int × xa_H)) (c0 c1 : Int) (v2 v3 : Int) (h : xa_H) : Option ((Int × Int × xa_H) ⊕ (Int × xa_H)) :=
  if v2 = 0 then
    some (Sum.inr ((v2, h)))
  else
    (xgf h 3 0 c0).bind fun x3 =>
    (xgf h 6 7 x3).bind fun x4 =>
    if x4 = 17 then
      if v3 < 1600 then
        (xgf h 3 0 c0).bind fun x7 =>
        (xrc h 6 x7 (f_X6_step x7 h)).bind fun r8 =>
        (xrc r8 3 c0 (rc 1 c0 c1 r8)).bind fun r9 =>
        if r9.1 = 0 then
          some (Sum.inl ((0, w32 (v3 + 1), r9.2)))
        else
          (xrc r9.2 3 c0 (f_X3_put c0 ((-21)) r9.2)).bind fun r11 =>
          if r11.1 = 0 then
            some (Sum.inl ((0, w32 (v3 + 1), r11.2)))
          else
            some (Sum.inl ((1, w32 (v3 + 1), r11.2)))
      else
        some (Sum.inr ((v2, h)))
    else
      some (Sum.inr ((v2, h)))
def f_X3_test (rc : Nat → Int → Int → xa_H → Option (Int × xa_H)) (v0 v1 : Int) (h : xa_H) : Option (Int × xa_H) :=
  (xrc h 3 v0 (rc 1 v0 v1 h)).bind fun r1 =>
  (xit (fun s => f_X3_test_L8 rc v0 v1 s.1 s.2.1 s.2.2) xFU ((r1.1, 0, r1.2))).bind fun e13 =>
  xbo e13.1 <|
  some ((e13.1, e13.2))
def f_X3_both_L8 (rc : Nat → Int → Int → xa_H → Option (Int × xa_H)) (c0 c1 : Int) (v2 v3 : Int) (h : xa_H) : Option ((Int × Int × xa_H) ⊕ (Int × xa_H)) :=
  if v2 = 0 then
    some (Sum.inr ((v2, h)))
  else
    (xgf h 3 0 c0).bind fun x3 =>
    (xgf h 6 7 x3).bind fun x4 =>
    if x4 = 18 then
      if v3 < 1600 then
        (xgf h 3 0 c0).bind fun x7 =>
        (xrc h 6 x7 (f_X6_step x7 h)).bind fun r8 =>
        (xrc r8 3 c0 (rc 2 c0 c1 r8)).bind fun r9 =>
        if r9.1 = 0 then
          some (Sum.inl ((0, w32 (v3 + 1), r9.2)))
        else
          (xrc r9.2 3 c0 (f_X3_put c0 ((-20)) r9.2)).bind fun r11 =>
          if r11.1 = 0 then
            some (Sum.inl ((0, w32 (v3 + 1), r11.2)))
          else
            some (Sum.inl ((1, w32 (v3 + 1), r11.2)))
      else
        some (Sum.inr ((v2, h)))
    else
      some (Sum.inr ((v2, h)))
def f_X3_both (rc : Nat → Int → Int → xa_H → Option (Int × xa_H)) (v0 v1 : Int) (h : xa_H) : Option (Int × xa_H) :=
  (xrc h 3 v0 (rc 2 v0 v1 h)).bind fun r1 =>
  (xit (fun s => f_X3_both_L8 rc v0 v1 s.1 s.2.1 s.2.2) xFU ((r1.1, 0, r1.2))).bind fun e13 =>
  xbo e13.1 <|
  some ((e13.1, e13.2))
def f_X3_fact_J159 (rc : Nat → Int → Int → xa_H → Option (Int × xa_H)) (v0 v1 s0 : Int) (h : xa_H) : Option (Int × xa_H) :=
  if s0 = (-22) then
    (xgf h 3 0 v0).bind fun x27 =>
    (xrc h 6 x27 (f_X6_stray x27 h)).bind fun r28 =>
    xbo r28.1 <|
    some ((r28.1, r28.2))
  else
    (xgf h 3 0 v0).bind fun x30 =>
    (xrc h 6 x30 (f_X6_step x30 h)).bind fun r31 =>
    (xrc r31 3 v0 (rc 3 v0 v1 r31)).bind fun r32 =>
    if r32.1 = 0 then
      some ((0, r32.2))
    else
      (xrc r32.2 3 v0 (f_X3_put v0 s0 r32.2)).bind fun r34 =>
      if r34.1 = 0 then
        some ((0, r34.2))
      else
        some ((1, r34.2))
def f_X3_fact (rc : Nat → Int → Int → xa_H → Option (Int × xa_H)) (v0 v1 : Int) (h : xa_H) : Option (Int × xa_H) :=
  (xgf h 3 0 v0).bind fun x1 =>
  (xgf h 6 7 x1).bind fun x2 =>
  if x2 = 19 then
    (xrc h 3 v0 (f_X3_stepInto v0 v1 h)).bind fun r4 =>
    if r4.1 = 0 then
      some ((0, r4.2))
    else
      (xrc r4.2 3 v0 (rc 2 v0 (w32 (v1 + 1)) r4.2)).bind fun r6 =>
      if r6.1 = 0 then
        some ((0, r6.2))
      else
        (xrc r6.2 3 v0 (f_X3_put v0 ((-9)) r6.2)).bind fun r8 =>
        if r8.1 = 0 then
          some ((0, r8.2))
        else
          some ((1, r8.2))
  else
    (xgf h 3 0 v0).bind fun x10 =>
    (xrc h 6 x10 (f_X6_isSign x10 91 h)).bind fun r11 =>
    if r11 = 0 then
      (xgf h 3 0 v0).bind fun x13 =>
      (xgf h 6 7 x13).bind fun x14 =>
      if x14 = 20 then
        (xgf h 3 0 v0).bind fun x16 =>
        (xrc h 6 x16 (f_X6_step x16 h)).bind fun r17 =>
        (xrc r17 3 v0 (f_X3_put v0 1 r17)).bind fun r18 =>
        xbo r18.1 <|
        some ((r18.1, r18.2))
      else
        (xrc h 3 v0 (rc 3 v0 v1 h)).bind fun r20 =>
        if r20.1 = 0 then
          some ((0, r20.2))
        else
          (xrc r20.2 3 v0 (f_X3_signCode v0 60 ((-17)) 62 ((-18)) r20.2)).bind fun r22 =>
          (xgf r20.2 3 0 v0).bind fun x23 =>
          (xrc r20.2 6 x23 (f_X6_isSign x23 61 r20.2)).bind fun r24 =>
          if r24 = 0 then
            f_X3_fact_J159 rc v0 v1 r22 r20.2
          else
            f_X3_fact_J159 rc v0 v1 ((-19)) r20.2
    else
      (xrc h 3 v0 (f_X3_stepInto v0 v1 h)).bind fun r36 =>
      if r36.1 = 0 then
        some ((0, r36.2))
      else
        (xrc r36.2 3 v0 (rc 0 v0 (w32 (v1 + 1)) r36.2)).bind fun r38 =>
        if r38.1 = 0 then
          some ((0, r38.2))
        else
          (xgf r38.2 3 0 v0).bind fun x40 =>
          (xrc r38.2 6 x40 (f_X6_needSign x40 93 r38.2)).bind fun r41 =>
          if r41.1 = 0 then
            some ((0, r41.2))
          else
            some ((1, r41.2))
def f_X3_sum_J68L22 (rc : Nat → Int → Int → xa_H → Option (Int × xa_H)) (c0 c1 v4 s0 : Int) (h : xa_H) : Option ((Int × Int × Int × xa_H) ⊕ (Int × xa_H)) :=
  (xrc h 3 c0 (f_X3_signCode c0 43 ((-11)) 45 ((-12)) h)).bind fun r10 =>
  some (Sum.inl ((s0, r10, w32 (v4 + 1), h)))
def f_X3_sum_J67L22 (rc : Nat → Int → Int → xa_H → Option (Int × xa_H)) (c0 c1 v4 : Int) (h : xa_H) : Option ((Int × Int × Int × xa_H) ⊕ (Int × xa_H)) :=
  f_X3_sum_J68L22 rc c0 c1 v4 0 h
def f_X3_sum_L22 (rc : Nat → Int → Int → xa_H → Option (Int × xa_H)) (c0 c1 : Int) (v2 v3 v4 : Int) (h : xa_H) : Option ((Int × Int × Int × xa_H) ⊕ (Int × xa_H)) :=
  if v2 = 0 then
    some (Sum.inr ((v2, h)))
  else
    if v3 = (-22) then
      some (Sum.inr ((v2, h)))
    else
      if v4 < 1600 then
        (xgf h 3 0 c0).bind fun x6 =>
        (xrc h 6 x6 (f_X6_step x6 h)).bind fun r7 =>
        (xrc r7 3 c0 (rc 4 c0 c1 r7)).bind fun r8 =>
        if r8.1 = 0 then
          f_X3_sum_J67L22 rc c0 c1 v4 r8.2
        else
          (xrc r8.2 3 c0 (f_X3_put c0 v3 r8.2)).bind fun r11 =>
          if r11.1 = 0 then
            f_X3_sum_J67L22 rc c0 c1 v4 r11.2
          else
            f_X3_sum_J68L22 rc c0 c1 v4 1 r11.2
      else
        some (Sum.inr ((v2, h)))
def f_X3_sum (rc : Nat → Int → Int → xa_H → Option (Int × xa_H)) (v0 v1 : Int) (h : xa_H) : Option (Int × xa_H) :=
  (xrc h 3 v0 (rc 4 v0 v1 h)).bind fun r1 =>
  (xrc r1.2 3 v0 (f_X3_signCode v0 43 ((-11)) 45 ((-12)) r1.2)).bind fun r2 =>
  (xit (fun s => f_X3_sum_L22 rc v0 v1 s.1 s.2.1 s.2.2.1 s.2.2.2) xFU ((r1.1, r2, 0, r1.2))).bind fun e13 =>
  xbo e13.1 <|
  some ((e13.1, e13.2))
def f_X3_product_J68L22 (rc : Nat → Int → Int → xa_H → Option (Int × xa_H)) (c0 c1 v4 s0 : Int) (h : xa_H) : Option ((Int × Int × Int × xa_H) ⊕ (Int × xa_H)) :=
  (xrc h 3 c0 (f_X3_signCode c0 42 ((-13)) 47 ((-14)) h)).bind fun r10 =>
  some (Sum.inl ((s0, r10, w32 (v4 + 1), h)))
def f_X3_product_J67L22 (rc : Nat → Int → Int → xa_H → Option (Int × xa_H)) (c0 c1 v4 : Int) (h : xa_H) : Option ((Int × Int × Int × xa_H) ⊕ (Int × xa_H)) :=
  f_X3_product_J68L22 rc c0 c1 v4 0 h
def f_X3_product_L22 (rc : Nat → Int → Int → xa_H → Option (Int × xa_H)) (c0 c1 : Int) (v2 v3 v4 : Int) (h : xa_H) : Option ((Int × Int × Int × xa_H) ⊕ (Int × xa_H)) :=
  if v2 = 0 then
    some (Sum.inr ((v2, h)))
  else
    if v3 = (-22) then
      some (Sum.inr ((v2, h)))
    else
      if v4 < 1600 then
        (xgf h 3 0 c0).bind fun x6 =>
        (xrc h 6 x6 (f_X6_step x6 h)).bind fun r7 =>
        (xrc r7 3 c0 (rc 5 c0 c1 r7)).bind fun r8 =>
        if r8.1 = 0 then
          f_X3_product_J67L22 rc c0 c1 v4 r8.2
        else
          (xrc r8.2 3 c0 (f_X3_put c0 v3 r8.2)).bind fun r11 =>
          if r11.1 = 0 then
            f_X3_product_J67L22 rc c0 c1 v4 r11.2
          else
            f_X3_product_J68L22 rc c0 c1 v4 1 r11.2
      else
        some (Sum.inr ((v2, h)))
def f_X3_product (rc : Nat → Int → Int → xa_H → Option (Int × xa_H)) (v0 v1 : Int) (h : xa_H) : Option (Int × xa_H) :=
  (xrc h 3 v0 (rc 5 v0 v1 h)).bind fun r1 =>
  (xrc r1.2 3 v0 (f_X3_signCode v0 42 ((-13)) 47 ((-14)) r1.2)).bind fun r2 =>
  (xit (fun s => f_X3_product_L22 rc v0 v1 s.1 s.2.1 s.2.2.1 s.2.2.2) xFU ((r1.1, r2, 0, r1.2))).bind fun e13 =>
  xbo e13.1 <|
  some ((e13.1, e13.2))
def f_X3_part_J132 (rc : Nat → Int → Int → xa_H → Option (Int × xa_H)) (v0 v1 s0 : Int) (h : xa_H) : Option (Int × xa_H) :=
  (xgf h 3 0 v0).bind fun x18 =>
  (xrc h 6 x18 (f_X6_step x18 h)).bind fun r19 =>
  (xrc r19 3 v0 (rc 6 v0 v1 r19)).bind fun r20 =>
  if r20.1 = 0 then
    some ((0, r20.2))
  else
    (xrc r20.2 3 v0 (f_X3_put v0 s0 r20.2)).bind fun r22 =>
    if r22.1 = 0 then
      some ((0, r22.2))
    else
      some ((1, r22.2))
def f_X3_part_J113 (rc : Nat → Int → Int → xa_H → Option (Int × xa_H)) (v0 v1 : Int) (h : xa_H) : Option (Int × xa_H) :=
  (xgf h 3 0 v0).bind fun x15 =>
  (xgf h 6 7 x15).bind fun x16 =>
  if x16 = 21 then
    f_X3_part_J132 rc v0 v1 ((-15)) h
  else
    f_X3_part_J132 rc v0 v1 ((-16)) h
def f_X3_part_J214 (rc : Nat → Int → Int → xa_H → Option (Int × xa_H)) (v0 : Int) (h : xa_H) : Option (Int × xa_H) :=
  (xgf h 3 0 v0).bind fun x29 =>
  (xgf h 6 7 x29).bind fun x30 =>
  (xrc h 3 v0 (f_X3_factCode v0 x30 h)).bind fun r31 =>
  if r31 = (-22) then
    (xgf h 3 0 v0).bind fun x33 =>
    (xrc h 6 x33 (f_X6_stray x33 h)).bind fun r34 =>
    xbo r34.1 <|
    some ((r34.1, r34.2))
  else
    (xgf h 3 0 v0).bind fun x36 =>
    (xrc h 6 x36 (f_X6_step x36 h)).bind fun r37 =>
    (xrc r37 3 v0 (f_X3_put v0 r31 r37)).bind fun r38 =>
    xbo r38.1 <|
    some ((r38.1, r38.2))
def f_X3_part (rc : Nat → Int → Int → xa_H → Option (Int × xa_H)) (v0 v1 : Int) (h : xa_H) : Option (Int × xa_H) :=
  (xgf h 3 0 v0).bind fun x1 =>
  (xgf h 6 3 x1).bind fun x2 =>
  if x2 = 2 then
    (xgf h 3 0 v0).bind fun x4 =>
    (xrc h 6 x4 (f_X6_needNumber x4 9999 h)).bind fun r5 =>
    if r5.1 = (-1) then
      some ((0, r5.2))
    else
      (xrc r5.2 3 v0 (f_X3_put v0 r5.1 r5.2)).bind fun r7 =>
      if r7.1 = 0 then
        some ((0, r7.2))
      else
        some ((1, r7.2))
  else
    (xgf h 3 0 v0).bind fun x9 =>
    (xrc h 6 x9 (f_X6_isSign x9 40 h)).bind fun r10 =>
    if r10 = 0 then
      (xgf h 3 0 v0).bind fun x12 =>
      (xgf h 6 7 x12).bind fun x13 =>
      if x13 = 21 then
        f_X3_part_J113 rc v0 v1 h
      else
        (xgf h 3 0 v0).bind fun x24 =>
        (xgf h 6 7 x24).bind fun x25 =>
        if x25 = 22 then
          f_X3_part_J113 rc v0 v1 h
        else
          (xgf h 3 3 v0).bind fun x27 =>
          if x27 = 0 then
            f_X3_part_J214 rc v0 h
          else
            (xgf h 3 0 v0).bind fun x40 =>
            (xgf h 6 7 x40).bind fun x41 =>
            if x41 = 14 then
              (xrc h 3 v0 (f_X3_stepInto v0 v1 h)).bind fun r43 =>
              if r43.1 = 0 then
                some ((0, r43.2))
              else
                (xrc r43.2 3 v0 (rc 5 v0 (w32 (v1 + 1)) r43.2)).bind fun r45 =>
                if r45.1 = 0 then
                  some ((0, r45.2))
                else
                  (xrc r45.2 3 v0 (f_X3_put v0 ((-10)) r45.2)).bind fun r47 =>
                  if r47.1 = 0 then
                    some ((0, r47.2))
                  else
                    some ((1, r47.2))
            else
              f_X3_part_J214 rc v0 h
    else
      (xrc h 3 v0 (f_X3_stepInto v0 v1 h)).bind fun r49 =>
      if r49.1 = 0 then
        some ((0, r49.2))
      else
        (xrc r49.2 3 v0 (rc 3 v0 (w32 (v1 + 1)) r49.2)).bind fun r51 =>
        if r51.1 = 0 then
          some ((0, r51.2))
        else
          (xgf r51.2 3 0 v0).bind fun x53 =>
          (xrc r51.2 6 x53 (f_X6_needSign x53 41 r51.2)).bind fun r54 =>
          if r54.1 = 0 then
            some ((0, r54.2))
          else
            some ((1, r54.2))
def f_X3_pair (rc : Nat → Int → Int → xa_H → Option (Int × xa_H)) (v0 v1 : Int) (h : xa_H) : Option (Int × xa_H) :=
  (xgf h 3 0 v0).bind fun x1 =>
  (xrc h 6 x1 (f_X6_isSign x1 40 h)).bind fun r2 =>
  if r2 = 0 then
    (xgf h 3 0 v0).bind fun x4 =>
    (xrc h 6 x4 (f_X6_stray x4 h)).bind fun r5 =>
    xbo r5.1 <|
    some ((r5.1, r5.2))
  else
    (xrc h 3 v0 (f_X3_stepInto v0 v1 h)).bind fun r7 =>
    if r7.1 = 0 then
      some ((0, r7.2))
    else
      (xrc r7.2 3 v0 (rc 3 v0 (w32 (v1 + 1)) r7.2)).bind fun r9 =>
      if r9.1 = 0 then
        some ((0, r9.2))
      else
        (xgf r9.2 3 0 v0).bind fun x11 =>
        (xrc r9.2 6 x11 (f_X6_needSign x11 44 r9.2)).bind fun r12 =>
        if r12.1 = 0 then
          some ((0, r12.2))
        else
          (xrc r12.2 3 v0 (rc 3 v0 (w32 (v1 + 1)) r12.2)).bind fun r14 =>
          if r14.1 = 0 then
            some ((0, r14.2))
          else
            (xgf r14.2 3 0 v0).bind fun x16 =>
            (xrc r14.2 6 x16 (f_X6_needSign x16 41 r14.2)).bind fun r17 =>
            if r17.1 = 0 then
              some ((0, r17.2))
            else
              some ((1, r17.2))
def f_rec : Nat → Nat → Int → Int → xa_H → Option (Int × xa_H)
  | 0, _, _, _, _ => none
  | n + 1, k, a, b, h => match k with
    | 0 => f_X3_test (f_rec n) a b h
    | 1 => f_X3_both (f_rec n) a b h
    | 2 => f_X3_fact (f_rec n) a b h
    | 3 => f_X3_sum (f_rec n) a b h
    | 4 => f_X3_product (f_rec n) a b h
    | 5 => f_X3_part (f_rec n) a b h
    | 6 => f_X3_pair (f_rec n) a b h
    | _ => none
def f_J7_copyOf_59c91 (v0 v1 : Int) (h : xa_H) : Option (Int × xa_H) :=
  (xln h v0).bind fun x1 =>
  if v1 = x1 then
    none
  else
    (xna h 0 v1).bind fun h3 =>
    (xln h3 v0).bind fun x4 =>
    (xcp h3 v0 0 ((xn h : Int)) 0 (min x4 v1)).bind fun h5 =>
    some (((xn h : Int), h5))
def f_X3_readSum (v0 v1 : Int) (h : xa_H) : Option (Int × xa_H) :=
  xbo v1 <|
  (xpf h 3 3 v0 v1).bind fun h1 =>
  (xpf h1 3 2 v0 0).bind fun h3 =>
  (xgf h3 3 0 v0).bind fun x4 =>
  (xrc h3 6 x4 (f_X6_step x4 h3)).bind fun r5 =>
  (xrc r5 3 v0 (f_rec 60 3 v0 0 r5)).bind fun r6 =>
  if r6.1 = 0 then
    some (((-1), r6.2))
  else
    (xnO r6.2 2 2).bind fun h8 =>
    (xgf h8 3 1 v0).bind fun x9 =>
    (xgf h8 3 2 v0).bind fun x10 =>
    (f_J7_copyOf_59c91 x9 x10 h8).bind fun r11 =>
    (f_X2_init ((xn r6.2 : Int)) r11.1 r11.2).bind fun r12 =>
    some (((xn r6.2 : Int), r12))
def f_X3_readTest (v0 v1 : Int) (h : xa_H) : Option (Int × xa_H) :=
  xbo v1 <|
  (xpf h 3 3 v0 v1).bind fun h1 =>
  (xpf h1 3 2 v0 0).bind fun h3 =>
  (xgf h3 3 0 v0).bind fun x4 =>
  (xrc h3 6 x4 (f_X6_step x4 h3)).bind fun r5 =>
  (xrc r5 3 v0 (f_rec 60 0 v0 0 r5)).bind fun r6 =>
  if r6.1 = 0 then
    some (((-1), r6.2))
  else
    (xnO r6.2 2 2).bind fun h8 =>
    (xgf h8 3 1 v0).bind fun x9 =>
    (xgf h8 3 2 v0).bind fun x10 =>
    (f_J7_copyOf_59c91 x9 x10 h8).bind fun r11 =>
    (f_X2_init ((xn r6.2 : Int)) r11.1 r11.2).bind fun r12 =>
    some (((xn r6.2 : Int), r12))
def f_X6_begin (v0 v1 : Int) (h : xa_H) : Option (xa_H) :=
  (xpf h 6 2 v0 v1).bind fun h1 =>
  (xpf h1 6 9 v0 0).bind fun h2 =>
  (xpf h2 6 10 v0 ((-1))).bind fun h3 =>
  (xpf h3 6 3 v0 3).bind fun h4 =>
  (xpf h4 6 5 v0 0).bind fun h5 =>
  (xrc h5 6 v0 (f_X6_step v0 h5)).bind fun r6 =>
  some r6
def f_X11_ask_J110 (v0 v1 v2 s0 : Int) (h : xa_H) : Option (Int × xa_H) :=
  xn5 s0 <|
  if s0 = -1 then
    some (((-1000000000000000), h))
  else
    (xgf h 11 2 v0).bind fun x16 =>
    (xgf h 6 3 x16).bind fun x17 =>
    if x17 = 0 then
      if v2 = 0 then
        (xrc h 11 v0 (f_X11_answerSum v0 v1 s0 h)).bind fun r20 =>
        some ((r20.1, r20.2))
      else
        (xrc h 11 v0 (f_X11_answerTest v0 v1 s0 h)).bind fun r21 =>
        some ((r21.1, r21.2))
    else
      (xgf h 11 2 v0).bind fun x22 =>
      (xrc h 6 x22 (f_X6_stray x22 h)).bind fun r23 =>
      some (((-1000000000000000), r23.2))
def f_X11_ask_J87 (v0 v1 v2 : Int) (h : xa_H) : Option (Int × xa_H) :=
  if v2 = 0 then
    (xgf h 11 3 v0).bind fun x13 =>
    (xrc h 3 x13 (f_X3_readSum x13 1 h)).bind fun r14 =>
    f_X11_ask_J110 v0 v1 v2 r14.1 r14.2
  else
    (xgf h 11 3 v0).bind fun x25 =>
    (xrc h 3 x25 (f_X3_readTest x25 1 h)).bind fun r26 =>
    f_X11_ask_J110 v0 v1 v2 r26.1 r26.2
def f_X11_ask_J66 (v0 v1 v2 s0 : Int) (h : xa_H) : Option (Int × xa_H) :=
  if v2 = 0 then
    if s0 = 0 then
      (xgf h 11 2 v0).bind fun x10 =>
      (xrc h 6 x10 (f_X6_stray x10 h)).bind fun r11 =>
      some (((-1000000000000000), r11.2))
    else
      f_X11_ask_J87 v0 v1 v2 h
  else
    f_X11_ask_J87 v0 v1 v2 h
def f_X11_ask_J61 (v0 v1 v2 : Int) (h : xa_H) : Option (Int × xa_H) :=
  f_X11_ask_J66 v0 v1 v2 1 h
def f_X11_ask_J42 (v0 v1 s0 : Int) (h : xa_H) : Option (Int × xa_H) :=
  if v1 = 26 then
    f_X11_ask_J61 v0 v1 s0 h
  else
    if v1 = 27 then
      f_X11_ask_J61 v0 v1 s0 h
    else
      if v1 = 28 then
        f_X11_ask_J61 v0 v1 s0 h
      else
        f_X11_ask_J66 v0 v1 s0 0 h
def f_X11_ask_J37 (v0 v1 : Int) (h : xa_H) : Option (Int × xa_H) :=
  f_X11_ask_J42 v0 v1 1 h
def f_X11_ask (v0 : Int) (h : xa_H) : Option (Int × xa_H) :=
  (xgf h 11 2 v0).bind fun x1 =>
  (xrc h 11 v0 (f_X11_takeTape v0 h)).bind fun r2 =>
  (xrc r2.2 6 x1 (f_X6_begin x1 r2.1 r2.2)).bind fun r3 =>
  (xgf r3 11 2 v0).bind fun x4 =>
  (xgf r3 6 7 x4).bind fun x5 =>
  if x5 = 23 then
    f_X11_ask_J37 v0 x5 r3
  else
    if x5 = 24 then
      f_X11_ask_J37 v0 x5 r3
    else
      if x5 = 25 then
        f_X11_ask_J37 v0 x5 r3
      else
        f_X11_ask_J42 v0 x5 0 r3
def f_X0_areFeuding (v0 v1 v2 : Int) (h : xa_H) : Option (Int) :=
  (xgf h 0 10 v0).bind fun x1 =>
  (xal h 0 x1 v1).bind fun x2 =>
  if xand (xshr x2 v2) 1 = 1 then
    some 1
  else
    some 0
def f_X11_bothGain (v0 v1 v2 : Int) (h : xa_H) : Option (Int) :=
  (xgf h 11 5 v0).bind fun x1 =>
  (xrc h 0 x1 (f_X0_areFeuding x1 v1 v2 h)).bind fun r2 =>
  if r2 = 0 then
    (xgf h 11 5 v0).bind fun x4 =>
    (xgf h 11 6 v0).bind fun x5 =>
    (xgf h 9 1 x5).bind fun x6 =>
    (xal h 0 x6 v2).bind fun x7 =>
    (xrc h 0 x4 (f_X0_valueOf x4 v1 x7 h)).bind fun r8 =>
    (xgf h 11 5 v0).bind fun x9 =>
    (xgf h 11 6 v0).bind fun x10 =>
    (xgf h 9 1 x10).bind fun x11 =>
    (xal h 0 x11 v1).bind fun x12 =>
    (xrc h 0 x9 (f_X0_valueOf x9 v1 x12 h)).bind fun r13 =>
    if r13 < r8 then
      (xgf h 11 5 v0).bind fun x15 =>
      (xgf h 11 6 v0).bind fun x16 =>
      (xgf h 9 1 x16).bind fun x17 =>
      (xal h 0 x17 v1).bind fun x18 =>
      (xrc h 0 x15 (f_X0_valueOf x15 v2 x18 h)).bind fun r19 =>
      (xgf h 11 5 v0).bind fun x20 =>
      (xgf h 11 6 v0).bind fun x21 =>
      (xgf h 9 1 x21).bind fun x22 =>
      (xal h 0 x22 v2).bind fun x23 =>
      (xrc h 0 x20 (f_X0_valueOf x20 v2 x23 h)).bind fun r24 =>
      if r24 < r19 then
        some 1
      else
        some 0
    else
      some 0
  else
    some 0
def f_X5_possible_L4 (c0 c1 : Int) (h : xa_H) (v2 v3 : Int) : Option ((Int × Int) ⊕ (Int)) :=
  (xgf h 5 3 c0).bind fun x1 =>
  if v3 < x1 then
    (xgf h 5 7 c0).bind fun x3 =>
    (xal h 0 x3 (w32 ((w32 (c1 * 6)) + v3))).bind fun x4 =>
    if 0 < x4 then
      some (Sum.inl ((xior v2 (xshl 1 v3), w32 (v3 + 1))))
    else
      some (Sum.inl ((xior v2 0, w32 (v3 + 1))))
  else
    some (Sum.inr v2)
def f_X5_possible (v0 v1 : Int) (h : xa_H) : Option (Int) :=
  (xit (fun s => f_X5_possible_L4 v0 v1 h s.1 s.2) xFU ((0, 0))).bind fun e6 =>
  some e6
def f_X11_can (v0 v1 : Int) (h : xa_H) : Option (Int) :=
  if v1 = (-1) then
    (xgf h 11 10 v0).bind fun x2 =>
    (xgf h 5 1 x2).bind fun x3 =>
    some x3
  else
    (xrc h 11 v0 (f_X11_isHolder v0 v1 h)).bind fun r4 =>
    if r4 = 0 then
      some ((-1))
    else
      (xgf h 11 10 v0).bind fun x6 =>
      (xrc h 5 x6 (f_X5_possible x6 v1 h)).bind fun r7 =>
      some r7
def f_X11_clear_L21 (c0 c1 : Int) (h : xa_H) (v2 v4 v6 : Int) : Option ((Int × Int × Int) ⊕ (Int × Int)) :=
  if v6 < c1 then
    (xgf h 11 5 c0).bind fun x4 =>
    (xgf h 0 4 x4).bind fun x5 =>
    some (Sum.inl ((w64 (v2 * (w32 (100 - x5))), w64 (v4 * 100), w32 (v6 + 1))))
  else
    some (Sum.inr ((v2, v4)))
def f_X11_clear (v0 v1 : Int) (h : xa_H) : Option (Int) :=
  if v1 < 0 then
    some ((-1))
  else
    if 5 < v1 then
      some ((-1))
    else
      (xit (fun s => f_X11_clear_L21 v0 v1 h s.1 s.2.1 s.2.2) xFU ((1000000, 1, 0))).bind fun e6 =>
      xnz e6.2 <|
      some (w32 (w64 (Int.tdiv e6.1 e6.2)))
def f_X7_ahead (v0 v1 : Int) (h : xa_H) : Option (Int) :=
  if 0 < v1 then
    some (w32 (v1 - 1))
  else
    (xgf h 7 1 v0).bind fun x2 =>
    some (w32 (x2 - 1))
def f_X7_behind (v0 v1 : Int) (h : xa_H) : Option (Int) :=
  (xgf h 7 1 v0).bind fun x1 =>
  if w32 (v1 + 1) < x1 then
    some (w32 (v1 + 1))
  else
    some 0
def f_X7_carryOut_L2 (c0 c1 : Int) (v2 : Int) (h : xa_H) : Option ((Int × xa_H) ⊕ (xa_H)) :=
  (xgf h 7 1 c0).bind fun x1 =>
  if v2 < x1 then
    (xgf h 7 0 c0).bind fun x3 =>
    (xal h 0 x3 v2).bind fun x4 =>
    (xgf h 7 0 c0).bind fun x5 =>
    (xrc h 7 c0 (f_X7_ahead c0 v2 h)).bind fun r6 =>
    (xal h 0 x5 r6).bind fun x7 =>
    (xgf h 9 1 c1).bind fun x8 =>
    (xgf h 7 5 c0).bind fun x9 =>
    (xal h 0 x9 v2).bind fun x10 =>
    (xas h 0 x8 x4 x10).bind fun h11 =>
    (xgf h11 9 3 c1).bind fun x12 =>
    (xgf h11 9 3 c1).bind fun x13 =>
    (xal h11 0 x13 x4).bind fun x14 =>
    (xgf h11 7 4 c0).bind fun x15 =>
    (xal h11 0 x15 v2).bind fun x16 =>
    (xgf h11 7 4 c0).bind fun x17 =>
    (xrc h11 7 c0 (f_X7_behind c0 v2 h11)).bind fun r18 =>
    (xal h11 0 x17 r18).bind fun x19 =>
    (xas h11 0 x12 x4 (min 9999 (w32 ((w32 (x14 - x16)) + x19)))).bind fun h20 =>
    (xgf h20 9 4 c1).bind fun x21 =>
    (xgf h20 9 4 c1).bind fun x22 =>
    (xal h20 0 x22 (w32 ((w32 (x4 * 6)) + x7))).bind fun x23 =>
    (xas h20 0 x21 (w32 ((w32 (x4 * 6)) + x7)) (min 99 (w32 (x23 + 1)))).bind fun h24 =>
    some (Sum.inl ((w32 (v2 + 1), h24)))
  else
    some (Sum.inr h)
def f_X7_carryOut (v0 v1 : Int) (h : xa_H) : Option (xa_H) :=
  (xit (fun s => f_X7_carryOut_L2 v0 v1 s.1 s.2) xFU ((0, h))).bind fun e25 =>
  some e25
def f_X9_keep_J30 (v0 v1 v2 v3 : Int) (h : xa_H) : Option (xa_H) :=
  (xgf h 9 5 v0).bind fun x3 =>
  (xgf h 9 6 v0).bind fun x4 =>
  (xgf h 9 0 v0).bind fun x5 =>
  (xas h 0 x3 x4 (w32 ((w32 ((w32 ((w32 (x5 * 1000)) + (w32 (v1 * 100)))) + (w32 (v2 * 10)))) + v3))).bind fun h6 =>
  (xgf h6 9 6 v0).bind fun x7 =>
  (xpf h6 9 6 v0 (w32 (x7 + 1))).bind fun h8 =>
  some h8
def f_X9_keep (v0 v1 v2 v3 : Int) (h : xa_H) : Option (xa_H) :=
  (xgf h 9 6 v0).bind fun x1 =>
  if x1 < 30 then
    f_X9_keep_J30 v0 v1 v2 v3 h
  else
    (xgf h 9 5 v0).bind fun x9 =>
    (xgf h 9 5 v0).bind fun x10 =>
    (xcp h x9 1 x10 0 29).bind fun h11 =>
    (xpf h11 9 6 v0 29).bind fun h12 =>
    f_X9_keep_J30 v0 v1 v2 v3 h12
def f_X11_closeRing (v0 : Int) (h : xa_H) : Option (xa_H) :=
  (xgf h 11 6 v0).bind fun x1 =>
  (xgf h 11 9 v0).bind fun x2 =>
  (xgf h 7 2 x2).bind fun x3 =>
  (xgf h 11 9 v0).bind fun x4 =>
  (xgf h 7 1 x4).bind fun x5 =>
  (xgf h 11 9 v0).bind fun x6 =>
  (xgf h 7 0 x6).bind fun x7 =>
  (xal h 0 x7 0).bind fun x8 =>
  (xrc h 9 x1 (f_X9_keep x1 x3 x5 x8 h)).bind fun r9 =>
  (xgf r9 11 9 v0).bind fun x10 =>
  (xgf r9 7 2 x10).bind fun x11 =>
  if x11 = 0 then
    (xgf r9 11 9 v0).bind fun x13 =>
    (xgf r9 11 6 v0).bind fun x14 =>
    (xrc r9 7 x13 (f_X7_carryOut x13 x14 r9)).bind fun r15 =>
    some r15
  else
    some r9
def f_X11_coinsOfAll_L4 (c0 : Int) (h : xa_H) (v1 v2 : Int) : Option ((Int × Int) ⊕ (Int)) :=
  (xgf h 11 5 c0).bind fun x1 =>
  (xgf h 0 2 x1).bind fun x2 =>
  if v2 < x2 then
    (xgf h 11 6 c0).bind fun x4 =>
    (xgf h 9 3 x4).bind fun x5 =>
    (xal h 0 x5 v2).bind fun x6 =>
    some (Sum.inl ((w32 (v1 + x6), w32 (v2 + 1))))
  else
    some (Sum.inr v1)
def f_X11_coinsOfAll (v0 : Int) (h : xa_H) : Option (Int) :=
  (xit (fun s => f_X11_coinsOfAll_L4 v0 h s.1 s.2) xFU ((0, 0))).bind fun e7 =>
  some e7
def f_X11_draw (v0 v1 : Int) (h : xa_H) : Option (Int × xa_H) :=
  (xgf h 11 18 v0).bind fun x1 =>
  (xpf h 11 18 v0 (xand (w32 ((w32 (1103515245 * x1)) + 12345)) 2147483647)).bind fun h2 =>
  if 0 < v1 then
    (xgf h2 11 18 v0).bind fun x4 =>
    xnz v1 <|
    some ((Int.tmod (w32 (Int.tdiv x4 64)) v1, h2))
  else
    some ((0, h2))
def f_X7_decide (v0 v1 v2 v3 : Int) (h : xa_H) : Option (xa_H) :=
  if v1 = (-1) then
    if v2 = (-1) then
      if v3 = (-1) then
        (xpf h 7 2 v0 0).bind fun h4 =>
        (xpf h4 7 3 v0 v3).bind fun h5 =>
        some h5
      else
        (xpf h 7 2 v0 3).bind fun h6 =>
        (xpf h6 7 3 v0 v3).bind fun h7 =>
        some h7
    else
      (xpf h 7 2 v0 2).bind fun h8 =>
      (xpf h8 7 3 v0 v2).bind fun h9 =>
      some h9
  else
    (xpf h 7 2 v0 1).bind fun h10 =>
    (xpf h10 7 3 v0 v1).bind fun h11 =>
    some h11
def f_X7_findFacts_J96 (v0 v1 v2 v3 v4 v5 s0 s1 s2 : Int) (h : xa_H) : Option (xa_H) :=
  (xas h 0 s0 s1 s2).bind fun h26 =>
  (xgf h26 7 6 v0).bind fun x27 =>
  (xgf h26 0 7 v2).bind fun x28 =>
  (xgf h26 7 5 v0).bind fun x29 =>
  (xal h26 0 x29 v1).bind fun x30 =>
  (xal h26 0 x28 x30).bind fun x31 =>
  (xas h26 0 x27 3 x31).bind fun h32 =>
  (xgf h32 7 6 v0).bind fun x33 =>
  (xgf h32 9 4 v3).bind fun x34 =>
  (xal h32 0 x34 (w32 ((w32 (v4 * 6)) + v5))).bind fun x35 =>
  (xas h32 0 x33 4 x35).bind fun h36 =>
  (xgf h36 7 6 v0).bind fun x37 =>
  (xgf h36 9 3 v3).bind fun x38 =>
  (xal h36 0 x38 v4).bind fun x39 =>
  (xas h36 0 x37 5 x39).bind fun h40 =>
  (xgf h40 7 6 v0).bind fun x41 =>
  (xgf h40 9 0 v3).bind fun x42 =>
  (xas h40 0 x41 6 x42).bind fun h43 =>
  some h43
def f_X7_findFacts (v0 v1 v2 v3 : Int) (h : xa_H) : Option (xa_H) :=
  (xgf h 7 0 v0).bind fun x1 =>
  (xal h 0 x1 v1).bind fun x2 =>
  (xgf h 7 0 v0).bind fun x3 =>
  (xrc h 7 v0 (f_X7_ahead v0 v1 h)).bind fun r4 =>
  (xal h 0 x3 r4).bind fun x5 =>
  (xgf h 7 5 v0).bind fun x6 =>
  (xgf h 9 1 v3).bind fun x7 =>
  (xal h 0 x7 x5).bind fun x8 =>
  (xas h 0 x6 v1 x8).bind fun h9 =>
  (xgf h9 7 6 v0).bind fun x10 =>
  (xgf h9 7 5 v0).bind fun x11 =>
  (xal h9 0 x11 v1).bind fun x12 =>
  (xrc h9 0 v2 (f_X0_valueOf v2 x2 x12 h9)).bind fun r13 =>
  (xas h9 0 x10 0 r13).bind fun h14 =>
  (xgf h14 7 6 v0).bind fun x15 =>
  (xgf h14 9 1 v3).bind fun x16 =>
  (xal h14 0 x16 x2).bind fun x17 =>
  (xrc h14 0 v2 (f_X0_valueOf v2 x2 x17 h14)).bind fun r18 =>
  (xas h14 0 x15 1 r18).bind fun h19 =>
  (xgf h19 7 6 v0).bind fun x20 =>
  (xgf h19 9 2 v3).bind fun x21 =>
  (xal h19 0 x21 x2).bind fun x22 =>
  (xgf h19 7 5 v0).bind fun x23 =>
  (xal h19 0 x23 v1).bind fun x24 =>
  if x22 = x24 then
    f_X7_findFacts_J96 v0 v1 v2 v3 x2 x5 x20 2 1 h19
  else
    f_X7_findFacts_J96 v0 v1 v2 v3 x2 x5 x20 2 0 h19
def f_X7_weigh_J118L11 (c0 c1 c2 v3 v4 v5 v6 v7 s0 : Int) (h : xa_H) : Option ((Int × Int × Int × Int × xa_H) ⊕ (Int × Int × Int × xa_H)) :=
  (xgf h 7 4 c0).bind fun x17 =>
  (xas h 0 x17 v6 (max 0 (min 999 s0))).bind fun h18 =>
  if v5 = (-1) then
    (xgf h18 7 4 c0).bind fun x20 =>
    (xal h18 0 x20 v6).bind fun x21 =>
    (xgf h18 9 3 c2).bind fun x22 =>
    (xal h18 0 x22 v7).bind fun x23 =>
    if x23 < x21 then
      some (Sum.inl ((v3, v4, v7, w32 (v6 + 1), h18)))
    else
      some (Sum.inl ((v3, v4, v5, w32 (v6 + 1), h18)))
  else
    some (Sum.inl ((v3, v4, v5, w32 (v6 + 1), h18)))
def f_X7_weigh_J96L11 (c0 c1 c2 v3 v4 v5 v6 v7 : Int) (h : xa_H) : Option ((Int × Int × Int × Int × xa_H) ⊕ (Int × Int × Int × xa_H)) :=
  (xgf h 0 12 c1).bind fun x15 =>
  xn5 x15 <|
  if x15 = -1 then
    f_X7_weigh_J118L11 c0 c1 c2 v3 v4 v5 v6 v7 0 h
  else
    (xgf h 0 12 c1).bind fun x25 =>
    (xgf h 7 6 c0).bind fun x26 =>
    (xrc h 2 x25 (f_X2_worth x25 x26 h)).bind fun r27 =>
    f_X7_weigh_J118L11 c0 c1 c2 v3 v4 v5 v6 v7 r27.1 r27.2
def f_X7_weigh_J65L11 (c0 c1 c2 v3 v4 v5 v6 v7 : Int) (h : xa_H) : Option ((Int × Int × Int × Int × xa_H) ⊕ (Int × Int × Int × xa_H)) :=
  if v4 = (-1) then
    (xgf h 0 11 c1).bind fun x13 =>
    xn5 x13 <|
    if x13 = -1 then
      f_X7_weigh_J96L11 c0 c1 c2 v3 v4 v5 v6 v7 h
    else
      (xgf h 0 11 c1).bind fun x29 =>
      (xgf h 7 6 c0).bind fun x30 =>
      (xrc h 2 x29 (f_X2_worth x29 x30 h)).bind fun r31 =>
      if r31.1 = 0 then
        f_X7_weigh_J96L11 c0 c1 c2 v3 v7 v5 v6 v7 r31.2
      else
        f_X7_weigh_J96L11 c0 c1 c2 v3 v4 v5 v6 v7 r31.2
  else
    f_X7_weigh_J96L11 c0 c1 c2 v3 v4 v5 v6 v7 h
def f_X7_weigh_L11 (c0 c1 c2 : Int) (v3 v4 v5 v6 : Int) (h : xa_H) : Option ((Int × Int × Int × Int × xa_H) ⊕ (Int × Int × Int × xa_H)) :=
  (xgf h 7 1 c0).bind fun x1 =>
  if v6 < x1 then
    (xgf h 7 0 c0).bind fun x3 =>
    (xal h 0 x3 v6).bind fun x4 =>
    (xrc h 7 c0 (f_X7_findFacts c0 v6 c1 c2 h)).bind fun r5 =>
    if v3 = (-1) then
      (xgf r5 7 0 c0).bind fun x7 =>
      (xrc r5 7 c0 (f_X7_behind c0 v6 r5)).bind fun r8 =>
      (xal r5 0 x7 r8).bind fun x9 =>
      (xrc r5 0 c1 (f_X0_areFeuding c1 x4 x9 r5)).bind fun r10 =>
      if r10 = 0 then
        f_X7_weigh_J65L11 c0 c1 c2 v3 v4 v5 v6 x4 r5
      else
        f_X7_weigh_J65L11 c0 c1 c2 x4 v4 v5 v6 x4 r5
    else
      f_X7_weigh_J65L11 c0 c1 c2 v3 v4 v5 v6 x4 r5
  else
    some (Sum.inr ((v3, v4, v5, h)))
def f_X7_weigh (v0 v1 v2 : Int) (h : xa_H) : Option (xa_H) :=
  (xit (fun s => f_X7_weigh_L11 v0 v1 v2 s.1 s.2.1 s.2.2.1 s.2.2.2.1 s.2.2.2.2) xFU (((-1), (-1), (-1), 0, h))).bind fun e34 =>
  (xrc e34.2.2.2 7 v0 (f_X7_decide v0 e34.1 e34.2.1 e34.2.2.1 e34.2.2.2)).bind fun r35 =>
  some r35
def f_X11_drawRing_J107 (v0 : Int) (h : xa_H) : Option (xa_H) :=
  (xrc h 11 v0 (f_X11_closeRing v0 h)).bind fun r22 =>
  some r22
def f_X11_drawRing_J64 (v0 s0 s1 s2 : Int) (h : xa_H) : Option (xa_H) :=
  (xas h 0 s0 s1 s2).bind fun h15 =>
  (xrc h15 11 v0 (f_X11_draw v0 100 h15)).bind fun r16 =>
  (xgf r16.2 11 5 v0).bind fun x17 =>
  (xgf r16.2 0 4 x17).bind fun x18 =>
  if r16.1 < x18 then
    (xgf r16.2 11 9 v0).bind fun x20 =>
    (xpf r16.2 7 2 x20 4).bind fun h21 =>
    f_X11_drawRing_J107 v0 h21
  else
    (xgf r16.2 11 9 v0).bind fun x23 =>
    (xgf r16.2 11 5 v0).bind fun x24 =>
    (xgf r16.2 11 6 v0).bind fun x25 =>
    (xrc r16.2 7 x23 (f_X7_weigh x23 x24 x25 r16.2)).bind fun r26 =>
    f_X11_drawRing_J107 v0 r26
def f_X11_drawRing (v0 : Int) (h : xa_H) : Option (xa_H) :=
  (xgf h 11 5 v0).bind fun x1 =>
  (xgf h 0 2 x1).bind fun x2 =>
  (xrc h 11 v0 (f_X11_draw v0 x2 h)).bind fun r3 =>
  (xgf r3.2 11 5 v0).bind fun x4 =>
  (xgf r3.2 0 2 x4).bind fun x5 =>
  (xrc r3.2 11 v0 (f_X11_draw v0 (w32 (x5 - 1)) r3.2)).bind fun r6 =>
  (xgf r6.2 11 9 v0).bind fun x7 =>
  (xpf r6.2 7 1 x7 2).bind fun h8 =>
  (xgf h8 11 9 v0).bind fun x9 =>
  (xgf h8 7 0 x9).bind fun x10 =>
  (xas h8 0 x10 0 r3.1).bind fun h11 =>
  (xgf h11 11 9 v0).bind fun x12 =>
  (xgf h11 7 0 x12).bind fun x13 =>
  if r6.1 < r3.1 then
    f_X11_drawRing_J64 v0 x13 1 r6.1 h11
  else
    f_X11_drawRing_J64 v0 x13 1 (w32 (r6.1 + 1)) h11
def f_X11_refuse (v0 v1 : Int) (h : xa_H) : Option (Int × xa_H) :=
  (xgf h 11 17 v0).bind fun x1 =>
  (xal h 0 x1 v1).bind fun x2 =>
  (xas h 0 x1 v1 (w32 (x2 + 1))).bind fun h3 =>
  some (((-1), h3))
def f_X11_end_J12 (v0 : Int) (h : xa_H) : Option (Int × xa_H) :=
  (xrc h 11 v0 (f_X11_refuse v0 0 h)).bind fun r2 =>
  some ((0, r2.2))
def f_X11_end (v0 v1 : Int) (h : xa_H) : Option (Int × xa_H) :=
  if v1 < 0 then
    f_X11_end_J12 v0 h
  else
    (xgf h 11 1 v0).bind fun x3 =>
    if x3 < v1 then
      f_X11_end_J12 v0 h
    else
      (xpf h 11 1 v0 v1).bind fun h5 =>
      some ((1, h5))
def f_X11_fault (v0 v1 : Int) (h : xa_H) : Option (Int) :=
  if v1 = 0 then
    (xgf h 11 2 v0).bind fun x2 =>
    (xgf h 6 9 x2).bind fun x3 =>
    some x3
  else
    if v1 = 1 then
      (xgf h 11 2 v0).bind fun x5 =>
      (xgf h 6 10 x5).bind fun x6 =>
      some x6
    else
      some ((-1))
def f_X11_putNumber_L3 (c0 c1 : Int) (v2 : Int) (h : xa_H) : Option ((Int × xa_H) ⊕ (xa_H)) :=
  if v2 < 0 then
    some (Sum.inr h)
  else
    (xgf h 11 1 c0).bind fun x2 =>
    if x2 < 1600 then
      (xgf h 11 0 c0).bind fun x4 =>
      (xgf h 11 1 c0).bind fun x5 =>
      (xas h 2 x4 x5 (xi2b (xi2b (xshr c1 v2)))).bind fun h6 =>
      (xgf h6 11 1 c0).bind fun x7 =>
      (xpf h6 11 1 c0 (w32 (x7 + 1))).bind fun h8 =>
      some (Sum.inl ((w32 (v2 + (-8)), h8)))
    else
      some (Sum.inr h)
def f_X11_putNumber (v0 v1 : Int) (h : xa_H) : Option (xa_H) :=
  (xit (fun s => f_X11_putNumber_L3 v0 v1 s.1 s.2) xFU ((24, h))).bind fun e9 =>
  some e9
def f_X11_feed (v0 v1 v2 v3 v4 v5 : Int) (h : xa_H) : Option (Int × xa_H) :=
  (xgf h 11 1 v0).bind fun x1 =>
  if 1600 < w32 (x1 + 20) then
    (xrc h 11 v0 (f_X11_refuse v0 0 h)).bind fun r3 =>
    some ((r3.1, r3.2))
  else
    (xrc h 11 v0 (f_X11_putNumber v0 v1 h)).bind fun r4 =>
    (xrc r4 11 v0 (f_X11_putNumber v0 v2 r4)).bind fun r5 =>
    (xrc r5 11 v0 (f_X11_putNumber v0 v3 r5)).bind fun r6 =>
    (xrc r6 11 v0 (f_X11_putNumber v0 v4 r6)).bind fun r7 =>
    (xrc r7 11 v0 (f_X11_putNumber v0 v5 r7)).bind fun r8 =>
    (xgf r8 11 1 v0).bind fun x9 =>
    some ((x9, r8))
def f_X9_holderOf_L2 (c0 c1 c2 : Int) (h : xa_H) (v3 : Int) : Option ((Int) ⊕ ((Int) ⊕ (Unit))) :=
  if v3 < c2 then
    (xgf h 9 1 c0).bind fun x2 =>
    (xal h 0 x2 v3).bind fun x3 =>
    if x3 = c1 then
      some (Sum.inr (Sum.inl v3))
    else
      some (Sum.inl (w32 (v3 + 1)))
  else
    some (Sum.inr (Sum.inr (())))
def f_X9_holderOf (v0 v1 v2 : Int) (h : xa_H) : Option (Int) :=
  (xit (fun s => f_X9_holderOf_L2 v0 v1 v2 h s) xFU 0).bind fun e5 =>
  xel e5 (fun r => some r) (fun y6 =>
    some ((-1)))
def f_X11_findSources_L4 (c0 : Int) (v1 v2 : Int) (h : xa_H) : Option ((Int × Int × xa_H) ⊕ ((Int × xa_H) ⊕ (xa_H))) :=
  (xgf h 11 5 c0).bind fun x1 =>
  (xgf h 0 2 x1).bind fun x2 =>
  if v2 < x2 then
    (xgf h 11 6 c0).bind fun x4 =>
    (xgf h 11 6 c0).bind fun x5 =>
    (xgf h 9 2 x5).bind fun x6 =>
    (xal h 0 x6 v2).bind fun x7 =>
    (xgf h 11 5 c0).bind fun x8 =>
    (xgf h 0 2 x8).bind fun x9 =>
    (xrc h 9 x4 (f_X9_holderOf x4 x7 x9 h)).bind fun r10 =>
    if r10 = (-1) then
      some (Sum.inr (Sum.inl ((0, h))))
    else
      if xand (xshr v1 r10) 1 = 1 then
        some (Sum.inr (Sum.inl ((0, h))))
      else
        (xgf h 11 13 c0).bind fun x13 =>
        (xas h 0 x13 v2 r10).bind fun h14 =>
        some (Sum.inl ((xior v1 (xshl 1 r10), w32 (v2 + 1), h14)))
  else
    some (Sum.inr (Sum.inr h))
def f_X11_findSources (v0 : Int) (h : xa_H) : Option (Int × xa_H) :=
  (xit (fun s => f_X11_findSources_L4 v0 s.1 s.2.1 s.2.2) xFU ((0, 0, h))).bind fun e15 =>
  xel e15 (fun r => some r) (fun y16 =>
    some ((1, y16)))
def f_X11_gain_L15 (c0 c1 c2 : Int) (h : xa_H) (v3 v4 : Int) : Option ((Int × Int) ⊕ (Int)) :=
  (xgf h 11 5 c0).bind fun x3 =>
  (xgf h 0 2 x3).bind fun x4 =>
  if v4 < x4 then
    if v4 = c1 then
      some (Sum.inl ((v3, w32 (v4 + 1))))
    else
      (xrc h 11 c0 (f_X11_bothGain c0 c1 v4 h)).bind fun r7 =>
      if r7 = 0 then
        some (Sum.inl ((v3, w32 (v4 + 1))))
      else
        some (Sum.inl ((xior v3 (xshl 1 v4), w32 (v4 + 1))))
  else
    some (Sum.inr v3)
def f_X11_gain (v0 v1 v2 : Int) (h : xa_H) : Option (Int) :=
  (xrc h 11 v0 (f_X11_isHolder v0 v1 h)).bind fun r1 =>
  if r1 = 0 then
    some ((-1))
  else
    (xit (fun s => f_X11_gain_L15 v0 v1 v2 h s.1 s.2) xFU ((0, 0))).bind fun e9 =>
    if v2 = 0 then
      (f_J6_bitCount_0f7a4 e9 h).bind fun r11 =>
      some r11
    else
      if v2 = 1 then
        some e9
      else
        some ((-1))
def f_X11_settledHolders_L4 (c0 : Int) (h : xa_H) (v1 v2 : Int) : Option ((Int × Int) ⊕ (Int)) :=
  (xgf h 11 5 c0).bind fun x1 =>
  (xgf h 0 2 x1).bind fun x2 =>
  if v2 < x2 then
    (xrc h 11 c0 (f_X11_isSettled c0 v2 h)).bind fun r4 =>
    if r4 = 0 then
      some (Sum.inl ((w32 (v1 + 0), w32 (v2 + 1))))
    else
      some (Sum.inl ((w32 (v1 + 1), w32 (v2 + 1))))
  else
    some (Sum.inr v1)
def f_X11_settledHolders (v0 : Int) (h : xa_H) : Option (Int) :=
  (xit (fun s => f_X11_settledHolders_L4 v0 h s.1 s.2) xFU ((0, 0))).bind fun e6 =>
  some e6
def f_X11_valueOfAll_L4 (c0 : Int) (h : xa_H) (v1 v2 : Int) : Option ((Int × Int) ⊕ (Int)) :=
  (xgf h 11 5 c0).bind fun x1 =>
  (xgf h 0 2 x1).bind fun x2 =>
  if v2 < x2 then
    (xgf h 11 5 c0).bind fun x4 =>
    (xgf h 11 6 c0).bind fun x5 =>
    (xgf h 9 1 x5).bind fun x6 =>
    (xal h 0 x6 v2).bind fun x7 =>
    (xrc h 0 x4 (f_X0_valueOf x4 v2 x7 h)).bind fun r8 =>
    some (Sum.inl ((w32 (v1 + r8), w32 (v2 + 1))))
  else
    some (Sum.inr v1)
def f_X11_valueOfAll (v0 : Int) (h : xa_H) : Option (Int) :=
  (xit (fun s => f_X11_valueOfAll_L4 v0 h s.1 s.2) xFU ((0, 0))).bind fun e9 =>
  some e9
def f_X11_has (v0 v1 : Int) (h : xa_H) : Option (Int) :=
  if v1 = 0 then
    (xgf h 11 5 v0).bind fun x2 =>
    (xgf h 0 1 x2).bind fun x3 =>
    some x3
  else
    if v1 = 1 then
      (xgf h 11 5 v0).bind fun x5 =>
      (xgf h 0 2 x5).bind fun x6 =>
      some x6
    else
      if v1 = 2 then
        (xgf h 11 5 v0).bind fun x8 =>
        (xgf h 0 3 x8).bind fun x9 =>
        some x9
      else
        if v1 = 3 then
          (xgf h 11 5 v0).bind fun x11 =>
          (xgf h 0 4 x11).bind fun x12 =>
          some x12
        else
          if v1 = 4 then
            (xgf h 11 6 v0).bind fun x14 =>
            (xgf h 9 0 x14).bind fun x15 =>
            some x15
          else
            if v1 = 5 then
              (xrc h 11 v0 (f_X11_settledHolders v0 h)).bind fun r17 =>
              some r17
            else
              if v1 = 6 then
                (xrc h 11 v0 (f_X11_coinsOfAll v0 h)).bind fun r19 =>
                some r19
              else
                if v1 = 7 then
                  (xrc h 11 v0 (f_X11_valueOfAll v0 h)).bind fun r21 =>
                  some r21
                else
                  if v1 = 8 then
                    (xgf h 11 6 v0).bind fun x23 =>
                    (xgf h 9 6 x23).bind fun x24 =>
                    some x24
                  else
                    if v1 = 9 then
                      (xgf h 11 10 v0).bind fun x26 =>
                      (xgf h 5 0 x26).bind fun x27 =>
                      some x27
                    else
                      if v1 = 10 then
                        (xgf h 11 7 v0).bind fun x29 =>
                        (xgf h 4 2 x29).bind fun x30 =>
                        some x30
                      else
                        some ((-1))
def f_X11_haveMet (v0 v1 v2 : Int) (h : xa_H) : Option (Int) :=
  (xgf h 11 6 v0).bind fun x1 =>
  (xgf h 9 4 x1).bind fun x2 =>
  (xal h 0 x2 (w32 ((w32 (v1 * 6)) + v2))).bind fun x3 =>
  if 0 < x3 then
    some 1
  else
    (xgf h 11 6 v0).bind fun x5 =>
    (xgf h 9 4 x5).bind fun x6 =>
    (xal h 0 x6 (w32 ((w32 (v2 * 6)) + v1))).bind fun x7 =>
    if 0 < x7 then
      some 1
    else
      some 0
def f_X11_howManyWant_L4 (c0 c1 : Int) (h : xa_H) (v2 v3 : Int) : Option ((Int × Int) ⊕ (Int)) :=
  (xgf h 11 5 c0).bind fun x1 =>
  (xgf h 0 2 x1).bind fun x2 =>
  if v3 < x2 then
    (xgf h 11 6 c0).bind fun x4 =>
    (xgf h 9 2 x4).bind fun x5 =>
    (xal h 0 x5 v3).bind fun x6 =>
    if x6 = c1 then
      some (Sum.inl ((w32 (v2 + 1), w32 (v3 + 1))))
    else
      some (Sum.inl ((w32 (v2 + 0), w32 (v3 + 1))))
  else
    some (Sum.inr v2)
def f_X11_howManyWant (v0 v1 : Int) (h : xa_H) : Option (Int) :=
  (xit (fun s => f_X11_howManyWant_L4 v0 v1 h s.1 s.2) xFU ((0, 0))).bind fun e8 =>
  some e8
def f_X11_held (v0 v1 v2 : Int) (h : xa_H) : Option (Int) :=
  (xrc h 11 v0 (f_X11_isHeld v0 v1 h)).bind fun r1 =>
  if r1 = 0 then
    some ((-1))
  else
    if v2 = 0 then
      (xgf h 11 5 v0).bind fun x4 =>
      (xgf h 0 7 x4).bind fun x5 =>
      (xal h 0 x5 v1).bind fun x6 =>
      some x6
    else
      if v2 = 1 then
        (xgf h 11 6 v0).bind fun x8 =>
        (xgf h 11 5 v0).bind fun x9 =>
        (xgf h 0 2 x9).bind fun x10 =>
        (xrc h 9 x8 (f_X9_holderOf x8 v1 x10 h)).bind fun r11 =>
        some r11
      else
        if v2 = 2 then
          (xgf h 11 5 v0).bind fun x13 =>
          (xgf h 0 8 x13).bind fun x14 =>
          (xal h 0 x14 v1).bind fun x15 =>
          some x15
        else
          if v2 = 3 then
            (xrc h 11 v0 (f_X11_howManyWant v0 v1 h)).bind fun r17 =>
            some r17
          else
            some ((-1))
def f_X11_holder (v0 v1 v2 : Int) (h : xa_H) : Option (Int) :=
  (xrc h 11 v0 (f_X11_isHolder v0 v1 h)).bind fun r1 =>
  if r1 = 0 then
    some ((-1))
  else
    if v2 = 0 then
      (xgf h 11 6 v0).bind fun x4 =>
      (xgf h 9 1 x4).bind fun x5 =>
      (xal h 0 x5 v1).bind fun x6 =>
      some x6
    else
      if v2 = 1 then
        (xgf h 11 6 v0).bind fun x8 =>
        (xgf h 9 2 x8).bind fun x9 =>
        (xal h 0 x9 v1).bind fun x10 =>
        some x10
      else
        if v2 = 2 then
          (xgf h 11 6 v0).bind fun x12 =>
          (xgf h 9 3 x12).bind fun x13 =>
          (xal h 0 x13 v1).bind fun x14 =>
          some x14
        else
          if v2 = 3 then
            (xrc h 11 v0 (f_X11_isSettled v0 v1 h)).bind fun r16 =>
            if r16 = 0 then
              some 0
            else
              some 1
          else
            if v2 = 4 then
              (xgf h 11 5 v0).bind fun x19 =>
              (xgf h 0 10 x19).bind fun x20 =>
              (xal h 0 x20 v1).bind fun x21 =>
              some x21
            else
              some ((-1))
def f_X11_putImage (v0 v1 : Int) (h : xa_H) : Option (xa_H) :=
  (xgf h 11 16 v0).bind fun x1 =>
  if x1 < 63 then
    (xgf h 11 15 v0).bind fun x3 =>
    (xgf h 11 16 v0).bind fun x4 =>
    (xas h 0 x3 x4 v1).bind fun h5 =>
    (xgf h5 11 16 v0).bind fun x6 =>
    (xpf h5 11 16 v0 (w32 (x6 + 1))).bind fun h7 =>
    some h7
  else
    some h
def f_X11_image_L110 (c0 c1 : Int) (v2 : Int) (h : xa_H) : Option ((Int × xa_H) ⊕ (xa_H)) :=
  (xgf h 11 5 c0).bind fun x27 =>
  (xgf h 0 2 x27).bind fun x28 =>
  if v2 < x28 then
    (xgf h 11 6 c0).bind fun x30 =>
    (xgf h 9 4 x30).bind fun x31 =>
    (xal h 0 x31 (w32 ((w32 (c1 * 6)) + v2))).bind fun x32 =>
    (xrc h 11 c0 (f_X11_putImage c0 x32 h)).bind fun r33 =>
    some (Sum.inl ((w32 (v2 + 1), r33)))
  else
    some (Sum.inr h)
def f_X11_image_L37 (c0 : Int) (v1 : Int) (h : xa_H) : Option ((Int × xa_H) ⊕ (xa_H)) :=
  (xgf h 11 5 c0).bind fun x8 =>
  (xgf h 0 2 x8).bind fun x9 =>
  if v1 < x9 then
    (xgf h 11 6 c0).bind fun x11 =>
    (xgf h 9 1 x11).bind fun x12 =>
    (xal h 0 x12 v1).bind fun x13 =>
    (xrc h 11 c0 (f_X11_putImage c0 x13 h)).bind fun r14 =>
    (xgf r14 11 6 c0).bind fun x15 =>
    (xgf r14 9 2 x15).bind fun x16 =>
    (xal r14 0 x16 v1).bind fun x17 =>
    (xrc r14 11 c0 (f_X11_putImage c0 x17 r14)).bind fun r18 =>
    (xgf r18 11 6 c0).bind fun x19 =>
    (xgf r18 9 3 x19).bind fun x20 =>
    (xal r18 0 x20 v1).bind fun x21 =>
    (xrc r18 11 c0 (f_X11_putImage c0 (w32 (Int.tdiv x21 256)) r18)).bind fun r22 =>
    (xgf r22 11 6 c0).bind fun x23 =>
    (xgf r22 9 3 x23).bind fun x24 =>
    (xal r22 0 x24 v1).bind fun x25 =>
    (xrc r22 11 c0 (f_X11_putImage c0 (Int.tmod x25 256) r22)).bind fun r26 =>
    (xit (fun s => f_X11_image_L110 c0 v1 s.1 s.2) xFU ((0, r26))).bind fun e34 =>
    some (Sum.inl ((w32 (v1 + 1), e34)))
  else
    some (Sum.inr h)
def f_X11_image_L156 (c0 : Int) (h : xa_H) (v1 v2 : Int) : Option ((Int × Int) ⊕ (Int)) :=
  (xgf h 11 16 c0).bind fun x36 =>
  if v2 < x36 then
    (xgf h 11 15 c0).bind fun x38 =>
    (xal h 0 x38 v2).bind fun x39 =>
    some (Sum.inl ((Int.tmod (w32 ((w32 (3 * v1)) + x39)) 251, w32 (v2 + 1))))
  else
    some (Sum.inr v1)
def f_X11_image (v0 : Int) (h : xa_H) : Option (Int × xa_H) :=
  (xpf h 11 16 v0 0).bind fun h1 =>
  (xgf h1 11 6 v0).bind fun x2 =>
  (xgf h1 9 0 x2).bind fun x3 =>
  (xrc h1 11 v0 (f_X11_putImage v0 (w32 (Int.tdiv x3 256)) h1)).bind fun r4 =>
  (xgf r4 11 6 v0).bind fun x5 =>
  (xgf r4 9 0 x5).bind fun x6 =>
  (xrc r4 11 v0 (f_X11_putImage v0 (Int.tmod x6 256) r4)).bind fun r7 =>
  (xit (fun s => f_X11_image_L37 v0 s.1 s.2) xFU ((0, r7))).bind fun e35 =>
  (xit (fun s => f_X11_image_L156 v0 e35 s.1 s.2) xFU ((17, 0))).bind fun e40 =>
  (xrc e35 11 v0 (f_X11_putImage v0 e40 e35)).bind fun r41 =>
  (xgf r41 11 16 v0).bind fun x42 =>
  some ((x42, r41))
def f_X11_imagePlace (v0 v1 : Int) (h : xa_H) : Option (Int) :=
  (xgf h 11 5 v0).bind fun x1 =>
  (xgf h 0 2 x1).bind fun x2 =>
  some (w32 (2 + (w32 (v1 * (w32 (4 + x2))))))
def f_X11_tapePair (v0 v1 : Int) (h : xa_H) : Option (Int) :=
  (xrc h 11 v0 (f_X11_tapeByte v0 v1 h)).bind fun r1 =>
  (xrc h 11 v0 (f_X11_tapeByte v0 (w32 (v1 + 1)) h)).bind fun r2 =>
  some (w32 ((w32 (r1 * 256)) + r2))
def f_X11_isHolderImage_J80L49 (c0 c1 c2 v3 s0 s1 : Int) (h : xa_H) : Option ((Int) ⊕ ((Int) ⊕ (Unit))) :=
  if s1 < s0 then
    some (Sum.inr (Sum.inl 0))
  else
    some (Sum.inl (w32 (v3 + 1)))
def f_X11_isHolderImage_L49 (c0 c1 c2 : Int) (h : xa_H) (v3 : Int) : Option ((Int) ⊕ ((Int) ⊕ (Unit))) :=
  (xgf h 11 5 c0).bind fun x10 =>
  (xgf h 0 2 x10).bind fun x11 =>
  if v3 < x11 then
    (xrc h 11 c0 (f_X11_tapeByte c0 (w32 ((w32 (c2 + 4)) + v3)) h)).bind fun r13 =>
    if v3 = c1 then
      f_X11_isHolderImage_J80L49 c0 c1 c2 v3 r13 0 h
    else
      f_X11_isHolderImage_J80L49 c0 c1 c2 v3 r13 99 h
  else
    some (Sum.inr (Sum.inr (())))
def f_X11_isHolderImage (v0 v1 : Int) (h : xa_H) : Option (Int) :=
  (xrc h 11 v0 (f_X11_imagePlace v0 v1 h)).bind fun r1 =>
  (xrc h 11 v0 (f_X11_tapeByte v0 r1 h)).bind fun r2 =>
  (xrc h 11 v0 (f_X11_isHeld v0 r2 h)).bind fun r3 =>
  if r3 = 0 then
    some 0
  else
    (xrc h 11 v0 (f_X11_tapeByte v0 (w32 (r1 + 1)) h)).bind fun r5 =>
    (xrc h 11 v0 (f_X11_isHeld v0 r5 h)).bind fun r6 =>
    if r6 = 0 then
      some 0
    else
      (xrc h 11 v0 (f_X11_tapePair v0 (w32 (r1 + 2)) h)).bind fun r8 =>
      if 9999 < r8 then
        some 0
      else
        (xit (fun s => f_X11_isHolderImage_L49 v0 v1 r1 h s) xFU 0).bind fun e16 =>
        xel e16 (fun r => some r) (fun y17 =>
          some 1)
def f_X11_isImage_L35 (c0 c1 : Int) (h : xa_H) (v2 v3 : Int) : Option ((Int × Int) ⊕ (Int)) :=
  if v3 < w32 (c1 - 1) then
    (xrc h 11 c0 (f_X11_tapeByte c0 v3 h)).bind fun r8 =>
    some (Sum.inl ((Int.tmod (w32 ((w32 (3 * v2)) + r8)) 251, w32 (v3 + 1))))
  else
    some (Sum.inr v2)
def f_X11_isImage_L80 (c0 : Int) (h : xa_H) (v3 v4 : Int) : Option ((Int × Int) ⊕ ((Int) ⊕ (Unit))) :=
  (xgf h 11 5 c0).bind fun x12 =>
  (xgf h 0 2 x12).bind fun x13 =>
  if v4 < x13 then
    (xrc h 11 c0 (f_X11_imagePlace c0 v4 h)).bind fun r15 =>
    (xrc h 11 c0 (f_X11_tapeByte c0 r15 h)).bind fun r16 =>
    (xrc h 11 c0 (f_X11_isHolderImage c0 v4 h)).bind fun r17 =>
    if r17 = 0 then
      some (Sum.inr (Sum.inl 0))
    else
      if xand (xshr v3 r16) 1 = 1 then
        some (Sum.inr (Sum.inl 0))
      else
        some (Sum.inl ((xior v3 (xshl 1 r16), w32 (v4 + 1))))
  else
    some (Sum.inr (Sum.inr (())))
def f_X11_isImage (v0 v1 : Int) (h : xa_H) : Option (Int) :=
  (xgf h 11 5 v0).bind fun x1 =>
  (xgf h 0 2 x1).bind fun x2 =>
  (xrc h 11 v0 (f_X11_imagePlace v0 x2 h)).bind fun r3 =>
  if v1 = w32 (r3 + 1) then
    (xrc h 11 v0 (f_X11_tapePair v0 0 h)).bind fun r5 =>
    if 9999 < r5 then
      some 0
    else
      (xit (fun s => f_X11_isImage_L35 v0 v1 h s.1 s.2) xFU ((17, 0))).bind fun e9 =>
      (xrc h 11 v0 (f_X11_tapeByte v0 (w32 (v1 - 1)) h)).bind fun r10 =>
      if r10 = e9 then
        (xit (fun s => f_X11_isImage_L80 v0 h s.1 s.2) xFU ((0, 0))).bind fun e20 =>
        xel e20 (fun r => some r) (fun y21 =>
          some 1)
      else
        some 0
  else
    some 0
def f_X11_readRing_L18 (c0 c1 c2 : Int) (h : xa_H) (v3 v4 : Int) : Option ((Int × Int) ⊕ ((Int × xa_H) ⊕ (Unit))) :=
  if v4 < c2 then
    (xrc h 11 c0 (f_X11_tapeByte c0 v4 h)).bind fun r4 =>
    (xrc h 11 c0 (f_X11_isHolder c0 r4 h)).bind fun r5 =>
    if r5 = 0 then
      some (Sum.inr (Sum.inl ((0, h))))
    else
      if xand (xshr v3 r4) 1 = 1 then
        some (Sum.inr (Sum.inl ((0, h))))
      else
        some (Sum.inl ((xior v3 (xshl 1 r4), w32 (v4 + 1))))
  else
    some (Sum.inr (Sum.inr (())))
def f_X11_readRing_L69 (c0 c1 c2 : Int) (v4 : Int) (h : xa_H) : Option ((Int × xa_H) ⊕ (xa_H)) :=
  if v4 < c2 then
    (xgf h 7 0 c1).bind fun x11 =>
    (xrc h 11 c0 (f_X11_tapeByte c0 v4 h)).bind fun r12 =>
    (xas h 0 x11 v4 r12).bind fun h13 =>
    some (Sum.inl ((w32 (v4 + 1), h13)))
  else
    some (Sum.inr h)
def f_X11_readRing (v0 v1 v2 : Int) (h : xa_H) : Option (Int × xa_H) :=
  if v2 < 2 then
    some ((0, h))
  else
    if 6 < v2 then
      some ((0, h))
    else
      (xit (fun s => f_X11_readRing_L18 v0 v1 v2 h s.1 s.2) xFU ((0, 0))).bind fun e8 =>
      xel e8 (fun r => some r) (fun y9 =>
        (xit (fun s => f_X11_readRing_L69 v0 v1 v2 s.1 s.2) xFU ((0, h))).bind fun e14 =>
        (xpf e14 7 1 v1 v2).bind fun h15 =>
        some ((1, h15)))
def f_X11_judge (v0 : Int) (h : xa_H) : Option (Int × xa_H) :=
  (xgf h 11 8 v0).bind fun x1 =>
  (xrc h 11 v0 (f_X11_takeTape v0 h)).bind fun r2 =>
  (xrc r2.2 11 v0 (f_X11_readRing v0 x1 r2.1 r2.2)).bind fun r3 =>
  if r3.1 = 0 then
    (xrc r3.2 11 v0 (f_X11_refuse v0 1 r3.2)).bind fun r5 =>
    some ((r5.1, r5.2))
  else
    (xgf r3.2 11 8 v0).bind fun x6 =>
    (xgf r3.2 11 5 v0).bind fun x7 =>
    (xgf r3.2 11 6 v0).bind fun x8 =>
    (xrc r3.2 7 x6 (f_X7_weigh x6 x7 x8 r3.2)).bind fun r9 =>
    (xgf r9 11 8 v0).bind fun x10 =>
    (xgf r9 7 2 x10).bind fun x11 =>
    some ((x11, r9))
def f_X7_paysOfAll_L4 (c0 : Int) (h : xa_H) (v1 v2 : Int) : Option ((Int × Int) ⊕ (Int)) :=
  (xgf h 7 1 c0).bind fun x1 =>
  if v2 < x1 then
    (xgf h 7 4 c0).bind fun x3 =>
    (xal h 0 x3 v2).bind fun x4 =>
    some (Sum.inl ((w32 (v1 + x4), w32 (v2 + 1))))
  else
    some (Sum.inr v1)
def f_X7_paysOfAll (v0 : Int) (h : xa_H) : Option (Int) :=
  (xit (fun s => f_X7_paysOfAll_L4 v0 h s.1 s.2) xFU ((0, 0))).bind fun e5 =>
  some e5
def f_X11_judged (v0 v1 : Int) (h : xa_H) : Option (Int) :=
  (xgf h 11 8 v0).bind fun x1 =>
  (xgf h 7 1 x1).bind fun x2 =>
  if x2 = 0 then
    some ((-1))
  else
    if v1 = 0 then
      (xgf h 11 8 v0).bind fun x5 =>
      (xgf h 7 3 x5).bind fun x6 =>
      some x6
    else
      if v1 = 1 then
        (xgf h 11 8 v0).bind fun x8 =>
        (xrc h 7 x8 (f_X7_paysOfAll x8 h)).bind fun r9 =>
        some r9
      else
        some ((-1))
def f_X11_kept (v0 v1 v2 : Int) (h : xa_H) : Option (Int) :=
  if v1 < 0 then
    some ((-1))
  else
    (xgf h 11 6 v0).bind fun x2 =>
    (xgf h 9 6 x2).bind fun x3 =>
    if v1 < x3 then
      (xgf h 11 6 v0).bind fun x5 =>
      (xgf h 9 5 x5).bind fun x6 =>
      (xal h 0 x6 v1).bind fun x7 =>
      if v2 = 0 then
        some (w32 (Int.tdiv x7 1000))
      else
        if v2 = 1 then
          some (Int.tmod (w32 (Int.tdiv x7 100)) 10)
        else
          if v2 = 2 then
            some (Int.tmod (w32 (Int.tdiv x7 10)) 10)
          else
            if v2 = 3 then
              some (Int.tmod x7 10)
            else
              some ((-1))
    else
      some ((-1))
def f_X11_letterOf (v0 v1 : Int) (h : xa_H) : Option (Int) :=
  some (xand (xshr v0 (w32 (25 - (w32 (5 * v1))))) 31)
def f_X11_letter_J38 (v0 v1 v2 v3 : Int) (h : xa_H) : Option (Int) :=
  if v1 = 1 then
    (xrc h 11 v0 (f_X11_isHolder v0 v2 h)).bind fun r7 =>
    if r7 = 0 then
      some ((-1))
    else
      (xgf h 11 5 v0).bind fun x9 =>
      (xgf h 0 6 x9).bind fun x10 =>
      (xal h 0 x10 v2).bind fun x11 =>
      (f_X11_letterOf x11 v3 h).bind fun r12 =>
      some r12
  else
    some ((-1))
def f_X11_letter (v0 v1 v2 v3 : Int) (h : xa_H) : Option (Int) :=
  if v3 < 0 then
    some ((-1))
  else
    if v3 < 6 then
      if v1 = 0 then
        (xrc h 11 v0 (f_X11_isHeld v0 v2 h)).bind fun r4 =>
        if r4 = 0 then
          f_X11_letter_J38 v0 v1 v2 v3 h
        else
          (xgf h 11 5 v0).bind fun x13 =>
          (xgf h 0 5 x13).bind fun x14 =>
          (xal h 0 x14 v2).bind fun x15 =>
          (f_X11_letterOf x15 v3 h).bind fun r16 =>
          some r16
      else
        f_X11_letter_J38 v0 v1 v2 v3 h
    else
      some ((-1))
def f_X8_addMove (v0 v1 v2 v3 : Int) (h : xa_H) : Option (xa_H) :=
  (xgf h 8 2 v0).bind fun x1 =>
  (xgf h 8 1 v0).bind fun x2 =>
  (xln h x2).bind fun x3 =>
  if x3 < w32 (x1 + 3) then
    some h
  else
    (xgf h 8 1 v0).bind fun x5 =>
    (xgf h 8 2 v0).bind fun x6 =>
    (xas h 0 x5 x6 v1).bind fun h7 =>
    (xgf h7 8 1 v0).bind fun x8 =>
    (xgf h7 8 2 v0).bind fun x9 =>
    (xas h7 0 x8 (w32 (x9 + 1)) v2).bind fun h10 =>
    (xgf h10 8 1 v0).bind fun x11 =>
    (xgf h10 8 2 v0).bind fun x12 =>
    (xas h10 0 x11 (w32 (x12 + 2)) v3).bind fun h13 =>
    (xgf h13 8 2 v0).bind fun x14 =>
    (xpf h13 8 2 v0 (w32 (x14 + 3))).bind fun h15 =>
    some h15
def f_X8_addMoves_L51 (c0 c1 c2 c3 c4 : Int) (v5 : Int) (h : xa_H) : Option ((Int × xa_H) ⊕ (xa_H)) :=
  if c2 = 3 then
    (xgf h 8 0 c0).bind fun x9 =>
    if v5 < x9 then
      (xrc h 0 c1 (f_X0_areFeuding c1 c3 v5 h)).bind fun r11 =>
      if r11 = 0 then
        (xrc h 0 c1 (f_X0_areFeuding c1 c4 v5 h)).bind fun r13 =>
        if r13 = 0 then
          (xrc h 8 c0 (f_X8_addMove c0 c3 c4 v5 h)).bind fun r15 =>
          (xrc r15 8 c0 (f_X8_addMove c0 c3 v5 c4 r15)).bind fun r16 =>
          some (Sum.inl ((w32 (v5 + 1), r16)))
        else
          some (Sum.inl ((w32 (v5 + 1), h)))
      else
        some (Sum.inl ((w32 (v5 + 1), h)))
    else
      some (Sum.inr h)
  else
    some (Sum.inr h)
def f_X8_addMoves_L15 (c0 c1 c2 c3 : Int) (v4 : Int) (h : xa_H) : Option ((Int × xa_H) ⊕ (xa_H)) :=
  (xgf h 8 0 c0).bind fun x3 =>
  if v4 < x3 then
    (xrc h 0 c1 (f_X0_areFeuding c1 c3 v4 h)).bind fun r5 =>
    if r5 = 0 then
      (xrc h 8 c0 (f_X8_addMove c0 c3 v4 ((-1)) h)).bind fun r7 =>
      (xit (fun s => f_X8_addMoves_L51 c0 c1 c2 c3 v4 s.1 s.2) xFU ((w32 (v4 + 1), r7))).bind fun e17 =>
      some (Sum.inl ((w32 (v4 + 1), e17)))
    else
      some (Sum.inl ((w32 (v4 + 1), h)))
  else
    some (Sum.inr h)
def f_X8_addMoves_L2 (c0 c1 c2 : Int) (v3 : Int) (h : xa_H) : Option ((Int × xa_H) ⊕ (xa_H)) :=
  (xgf h 8 0 c0).bind fun x1 =>
  if v3 < x1 then
    (xit (fun s => f_X8_addMoves_L15 c0 c1 c2 v3 s.1 s.2) xFU ((w32 (v3 + 1), h))).bind fun e18 =>
    some (Sum.inl ((w32 (v3 + 1), e18)))
  else
    some (Sum.inr h)
def f_X8_addMoves (v0 v1 v2 : Int) (h : xa_H) : Option (xa_H) :=
  (xit (fun s => f_X8_addMoves_L2 v0 v1 v2 s.1 s.2) xFU ((0, h))).bind fun e19 =>
  some e19
def f_X8_rankOfOrder_L6 (c0 : Int) (h : xa_H) (v1 v2 v3 : Int) : Option ((Int × Int × Int) ⊕ (Int)) :=
  (xgf h 8 0 c0).bind fun x1 =>
  if v3 < x1 then
    (xgf h 8 7 c0).bind fun x3 =>
    (xal h 0 x3 v3).bind fun x4 =>
    (xgf h 8 0 c0).bind fun x5 =>
    (xgf h 8 7 c0).bind fun x6 =>
    (xal h 0 x6 v3).bind fun x7 =>
    (f_J6_bitCount_0f7a4 (xand v2 (w32 ((xshl 1 x4) - 1))) h).bind fun r8 =>
    some (Sum.inl ((w32 ((w32 ((w32 (v1 * (w32 (x5 - v3)))) + x7)) - r8), xior v2 (xshl 1 x4), w32 (v3 + 1))))
  else
    some (Sum.inr v1)
def f_X8_rankOfOrder (v0 : Int) (h : xa_H) : Option (Int) :=
  (xit (fun s => f_X8_rankOfOrder_L6 v0 h s.1 s.2.1 s.2.2) xFU ((0, 0, 0))).bind fun e9 =>
  some e9
def f_X8_reach_L37 (c0 : Int) (v3 : Int) (h : xa_H) : Option ((Int × xa_H) ⊕ (xa_H)) :=
  (xgf h 8 0 c0).bind fun x11 =>
  if v3 < x11 then
    (xgf h 8 4 c0).bind fun x13 =>
    (xgf h 8 6 c0).bind fun x14 =>
    (xal h 0 x13 x14).bind fun x15 =>
    (xgf h 8 7 c0).bind fun x16 =>
    (xal h 0 x16 v3).bind fun x17 =>
    (xas h 0 x13 x14 (xior x15 (xshl x17 (w32 (3 * v3))))).bind fun h18 =>
    some (Sum.inl ((w32 (v3 + 1), h18)))
  else
    some (Sum.inr h)
def f_X8_reach (v0 v1 : Int) (h : xa_H) : Option (xa_H) :=
  (xrc h 8 v0 (f_X8_rankOfOrder v0 h)).bind fun r1 =>
  (xgf h 8 3 v0).bind fun x2 =>
  (xal h 0 x2 r1).bind fun x3 =>
  if x3 = (-1) then
    (xgf h 8 6 v0).bind fun x5 =>
    (xgf h 8 4 v0).bind fun x6 =>
    (xln h x6).bind fun x7 =>
    if x5 < x7 then
      (xgf h 8 3 v0).bind fun x9 =>
      (xas h 0 x9 r1 v1).bind fun h10 =>
      (xit (fun s => f_X8_reach_L37 v0 s.1 s.2) xFU ((0, h10))).bind fun e19 =>
      (xgf e19 8 6 v0).bind fun x20 =>
      (xpf e19 8 6 v0 (w32 (x20 + 1))).bind fun h21 =>
      some h21
    else
      some h
  else
    some h
def f_X8_init_L49 (c0 c1 c2 : Int) (h : xa_H) (v3 v4 : Int) : Option ((Int × Int) ⊕ (Int)) :=
  (xgf h 8 0 c0).bind fun x10 =>
  if x10 < v4 then
    some (Sum.inr v3)
  else
    some (Sum.inl ((w32 (v3 * v4), w32 (v4 + 1))))
def f_X8_init_L100 (c0 : Int) (v4 : Int) (h : xa_H) : Option ((Int × xa_H) ⊕ (xa_H)) :=
  (xgf h 8 0 c0).bind fun x20 =>
  if v4 < x20 then
    (xgf h 8 7 c0).bind fun x22 =>
    (xas h 0 x22 v4 v4).bind fun h23 =>
    some (Sum.inl ((w32 (v4 + 1), h23)))
  else
    some (Sum.inr h)
def f_X8_init (v0 v1 v2 : Int) (h : xa_H) : Option (xa_H) :=
  xrc h 8 v0 <|
  (xna h 0 165).bind fun h1 =>
  (xpf h1 8 1 v0 ((xn h : Int))).bind fun h2 =>
  (xpf h2 8 2 v0 0).bind fun h3 =>
  (xpf h3 8 5 v0 0).bind fun h4 =>
  (xpf h4 8 6 v0 0).bind fun h5 =>
  (xna h5 0 6).bind fun h6 =>
  (xpf h6 8 7 v0 ((xn h5 : Int))).bind fun h7 =>
  (xgf h7 0 2 v1).bind fun x8 =>
  (xpf h7 8 0 v0 x8).bind fun h9 =>
  (xit (fun s => f_X8_init_L49 v0 v1 v2 h9 s.1 s.2) xFU ((1, 2))).bind fun e12 =>
  (xna h9 0 e12).bind fun h13 =>
  (xpf h13 8 3 v0 ((xn h9 : Int))).bind fun h14 =>
  (xna h14 0 e12).bind fun h15 =>
  (xpf h15 8 4 v0 ((xn h14 : Int))).bind fun h16 =>
  (xgf h16 8 3 v0).bind fun x17 =>
  (f_J7_fill_53178 x17 ((-1)) h16).bind fun r18 =>
  (xrc r18 8 v0 (f_X8_addMoves v0 v1 v2 r18)).bind fun r19 =>
  (xit (fun s => f_X8_init_L100 v0 s.1 s.2) xFU ((0, r19))).bind fun e24 =>
  (xrc e24 8 v0 (f_X8_reach v0 0 e24)).bind fun r25 =>
  some r25
def f_X8_swap (v0 v1 v2 : Int) (h : xa_H) : Option (xa_H) :=
  (xgf h 8 7 v0).bind fun x1 =>
  (xal h 0 x1 v1).bind fun x2 =>
  (xgf h 8 7 v0).bind fun x3 =>
  (xgf h 8 7 v0).bind fun x4 =>
  (xal h 0 x4 v2).bind fun x5 =>
  (xas h 0 x3 v1 x5).bind fun h6 =>
  (xgf h6 8 7 v0).bind fun x7 =>
  (xas h6 0 x7 v2 x2).bind fun h8 =>
  some h8
def f_X8_reachFrom_L2 (c0 c1 : Int) (v2 : Int) (h : xa_H) : Option ((Int × xa_H) ⊕ (xa_H)) :=
  (xgf h 8 0 c0).bind fun x1 =>
  if v2 < x1 then
    (xgf h 8 7 c0).bind fun x3 =>
    (xas h 0 x3 v2 (xand (xshr c1 (w32 (3 * v2))) 7)).bind fun h4 =>
    some (Sum.inl ((w32 (v2 + 1), h4)))
  else
    some (Sum.inr h)
def f_X8_reachFrom_J125L44 (c0 c2 v3 : Int) (h : xa_H) : Option ((Int × xa_H) ⊕ (xa_H)) :=
  (xgf h 8 1 c0).bind fun x21 =>
  (xal h 0 x21 v3).bind fun x22 =>
  (xgf h 8 1 c0).bind fun x23 =>
  (xal h 0 x23 (w32 (v3 + 1))).bind fun x24 =>
  (xrc h 8 c0 (f_X8_swap c0 x22 x24 h)).bind fun r25 =>
  some (Sum.inl ((w32 (v3 + 3), r25)))
def f_X8_reachFrom_J100L44 (c0 c2 v3 v4 : Int) (h : xa_H) : Option ((Int × xa_H) ⊕ (xa_H)) :=
  (xrc h 8 c0 (f_X8_reach c0 c2 h)).bind fun r19 =>
  if v4 = (-1) then
    f_X8_reachFrom_J125L44 c0 c2 v3 r19
  else
    (xgf r19 8 1 c0).bind fun x26 =>
    (xal r19 0 x26 (w32 (v3 + 1))).bind fun x27 =>
    (xrc r19 8 c0 (f_X8_swap c0 x27 v4 r19)).bind fun r28 =>
    f_X8_reachFrom_J125L44 c0 c2 v3 r28
def f_X8_reachFrom_L44 (c0 c2 : Int) (v3 : Int) (h : xa_H) : Option ((Int × xa_H) ⊕ (xa_H)) :=
  (xgf h 8 2 c0).bind fun x9 =>
  if v3 < x9 then
    (xgf h 8 1 c0).bind fun x11 =>
    (xal h 0 x11 (w32 (v3 + 2))).bind fun x12 =>
    (xgf h 8 1 c0).bind fun x13 =>
    (xal h 0 x13 v3).bind fun x14 =>
    (xgf h 8 1 c0).bind fun x15 =>
    (xal h 0 x15 (w32 (v3 + 1))).bind fun x16 =>
    (xrc h 8 c0 (f_X8_swap c0 x14 x16 h)).bind fun r17 =>
    if x12 = (-1) then
      f_X8_reachFrom_J100L44 c0 c2 v3 x12 r17
    else
      (xgf r17 8 1 c0).bind fun x29 =>
      (xal r17 0 x29 (w32 (v3 + 1))).bind fun x30 =>
      (xrc r17 8 c0 (f_X8_swap c0 x30 x12 r17)).bind fun r31 =>
      f_X8_reachFrom_J100L44 c0 c2 v3 x12 r31
  else
    some (Sum.inr h)
def f_X8_reachFrom (v0 v1 : Int) (h : xa_H) : Option (xa_H) :=
  (xit (fun s => f_X8_reachFrom_L2 v0 v1 s.1 s.2) xFU ((0, h))).bind fun e5 =>
  (xgf e5 8 3 v0).bind fun x6 =>
  (xrc e5 8 v0 (f_X8_rankOfOrder v0 e5)).bind fun r7 =>
  (xal e5 0 x6 r7).bind fun x8 =>
  (xit (fun s => f_X8_reachFrom_L44 v0 (w32 (x8 + 1)) s.1 s.2) xFU ((0, e5))).bind fun e32 =>
  some e32
def f_X8_fewest_L17 (c0 c2 : Int) (h : xa_H) : Option ((xa_H) ⊕ (xa_H)) :=
  (xgf h 8 3 c0).bind fun x4 =>
  (xal h 0 x4 c2).bind fun x5 =>
  if x5 = (-1) then
    (xgf h 8 5 c0).bind fun x7 =>
    (xgf h 8 6 c0).bind fun x8 =>
    if x7 < x8 then
      (xgf h 8 5 c0).bind fun x10 =>
      (xgf h 8 4 c0).bind fun x11 =>
      (xln h x11).bind fun x12 =>
      if x10 < x12 then
        (xgf h 8 4 c0).bind fun x14 =>
        (xgf h 8 5 c0).bind fun x15 =>
        (xal h 0 x14 x15).bind fun x16 =>
        (xrc h 8 c0 (f_X8_reachFrom c0 x16 h)).bind fun r17 =>
        (xgf r17 8 5 c0).bind fun x18 =>
        (xpf r17 8 5 c0 (w32 (x18 + 1))).bind fun h19 =>
        some (Sum.inl h19)
      else
        some (Sum.inr h)
    else
      some (Sum.inr h)
  else
    some (Sum.inr h)
def f_X8_fewest (v0 v1 : Int) (h : xa_H) : Option (Int × xa_H) :=
  (xgf h 8 7 v0).bind fun x1 =>
  (xcp h v1 0 x1 0 6).bind fun h2 =>
  (xrc h2 8 v0 (f_X8_rankOfOrder v0 h2)).bind fun r3 =>
  (xit (fun s => f_X8_fewest_L17 v0 r3 s) xFU h2).bind fun e20 =>
  (xgf e20 8 3 v0).bind fun x21 =>
  (xal e20 0 x21 r3).bind fun x22 =>
  some ((x22, e20))
def f_X11_meetings_J54 (v0 v2 : Int) (h : xa_H) : Option (Int × xa_H) :=
  (xgf h 11 13 v0).bind fun x13 =>
  (xrc h 8 v2 (f_X8_fewest v2 x13 h)).bind fun r14 =>
  some ((r14.1, r14.2))
def f_X11_meetings (v0 v1 : Int) (h : xa_H) : Option (Int × xa_H) :=
  if v1 < 2 then
    some (((-1), h))
  else
    if 3 < v1 then
      some (((-1), h))
    else
      (xrc h 11 v0 (f_X11_findSources v0 h)).bind fun r3 =>
      if r3.1 = 0 then
        some (((-1), r3.2))
      else
        (xgf r3.2 11 12 v0).bind fun x5 =>
        (xal r3.2 5 x5 (w32 (v1 - 2))).bind fun x6 =>
        xn5 x6 <|
        if x6 = -1 then
          (xnO r3.2 8 8).bind fun h8 =>
          (xgf h8 11 5 v0).bind fun x9 =>
          (f_X8_init ((xn r3.2 : Int)) x9 v1 h8).bind fun r10 =>
          (xgf r10 11 12 v0).bind fun x11 =>
          xrc r10 8 ((xn r3.2 : Int)) <|
          (xas r10 5 x11 (w32 (v1 - 2)) ((xn r3.2 : Int))).bind fun h12 =>
          f_X11_meetings_J54 v0 ((xn r3.2 : Int)) h12
        else
          f_X11_meetings_J54 v0 x6 r3.2
def f_X11_met (v0 v1 v2 : Int) (h : xa_H) : Option (Int) :=
  (xrc h 11 v0 (f_X11_isHolder v0 v1 h)).bind fun r1 =>
  if r1 = 0 then
    some ((-1))
  else
    (xrc h 11 v0 (f_X11_isHolder v0 v2 h)).bind fun r3 =>
    if r3 = 0 then
      some ((-1))
    else
      (xgf h 11 6 v0).bind fun x5 =>
      (xgf h 9 4 x5).bind fun x6 =>
      (xal h 0 x6 (w32 ((w32 (v1 * 6)) + v2))).bind fun x7 =>
      some x7
def f_X11_moreBySwap (v0 v1 v2 : Int) (h : xa_H) : Option (Int) :=
  (xgf h 11 5 v0).bind fun x1 =>
  (xgf h 11 6 v0).bind fun x2 =>
  (xgf h 9 1 x2).bind fun x3 =>
  (xal h 0 x3 v2).bind fun x4 =>
  (xrc h 0 x1 (f_X0_valueOf x1 v1 x4 h)).bind fun r5 =>
  (xgf h 11 5 v0).bind fun x6 =>
  (xgf h 11 6 v0).bind fun x7 =>
  (xgf h 9 1 x7).bind fun x8 =>
  (xal h 0 x8 v1).bind fun x9 =>
  (xrc h 0 x6 (f_X0_valueOf x6 v1 x9 h)).bind fun r10 =>
  (xgf h 11 5 v0).bind fun x11 =>
  (xgf h 11 6 v0).bind fun x12 =>
  (xgf h 9 1 x12).bind fun x13 =>
  (xal h 0 x13 v1).bind fun x14 =>
  (xrc h 0 x11 (f_X0_valueOf x11 v2 x14 h)).bind fun r15 =>
  (xgf h 11 5 v0).bind fun x16 =>
  (xgf h 11 6 v0).bind fun x17 =>
  (xgf h 9 1 x17).bind fun x18 =>
  (xal h 0 x18 v2).bind fun x19 =>
  (xrc h 0 x16 (f_X0_valueOf x16 v2 x19 h)).bind fun r20 =>
  some (w32 ((w32 ((w32 (r5 - r10)) + r15)) - r20))
def f_X11_needed_L26 (c0 c1 : Int) (h : xa_H) (v2 v3 : Int) : Option ((Int × Int) ⊕ (Int)) :=
  if v3 = c1 then
    some (Sum.inr v2)
  else
    if v2 < 6 then
      (xgf h 11 13 c0).bind fun x9 =>
      (xal h 0 x9 v3).bind fun x10 =>
      some (Sum.inl ((w32 (v2 + 1), x10)))
    else
      some (Sum.inr v2)
def f_X11_needed (v0 v1 : Int) (h : xa_H) : Option (Int × xa_H) :=
  (xrc h 11 v0 (f_X11_isHolder v0 v1 h)).bind fun r1 =>
  if r1 = 0 then
    some (((-1), h))
  else
    (xrc h 11 v0 (f_X11_findSources v0 h)).bind fun r3 =>
    if r3.1 = 0 then
      some (((-1), r3.2))
    else
      (xgf r3.2 11 13 v0).bind fun x5 =>
      (xal r3.2 0 x5 v1).bind fun x6 =>
      (xit (fun s => f_X11_needed_L26 v0 v1 r3.2 s.1 s.2) xFU ((1, x6))).bind fun e11 =>
      some ((e11, r3.2))
def f_X5_leftAtMost (v0 v1 : Int) (h : xa_H) : Option (Int) :=
  (xgf h 5 7 v0).bind fun x1 =>
  (xal h 0 x1 v1).bind fun x2 =>
  (xgf h 5 1 v0).bind fun x3 =>
  (xgf h 5 7 v0).bind fun x4 =>
  (xal h 0 x4 v1).bind fun x5 =>
  some (max x2 (w32 (x3 - x5)))
def f_X5_bestQuestion_L14 (c0 c2 : Int) (h : xa_H) (v1 v3 : Int) : Option ((Int × Int) ⊕ (Int)) :=
  (xgf h 5 3 c0).bind fun x3 =>
  if v3 < x3 then
    (xrc h 5 c0 (f_X5_leftAtMost c0 (w32 ((w32 (c2 * 6)) + v3)) h)).bind fun r5 =>
    (xrc h 5 c0 (f_X5_leftAtMost c0 v1 h)).bind fun r6 =>
    if r5 < r6 then
      some (Sum.inl ((w32 ((w32 (c2 * 6)) + v3), w32 (v3 + 1))))
    else
      some (Sum.inl ((v1, w32 (v3 + 1))))
  else
    some (Sum.inr v1)
def f_X5_bestQuestion_L4 (c0 : Int) (h : xa_H) (v1 v2 : Int) : Option ((Int × Int) ⊕ (Int)) :=
  (xgf h 5 2 c0).bind fun x1 =>
  if v2 < x1 then
    (xit (fun s => f_X5_bestQuestion_L14 c0 v2 h s.1 s.2) xFU ((v1, 0))).bind fun e8 =>
    some (Sum.inl ((e8, w32 (v2 + 1))))
  else
    some (Sum.inr v1)
def f_X5_bestQuestion (v0 : Int) (h : xa_H) : Option (Int) :=
  (xit (fun s => f_X5_bestQuestion_L4 v0 h s.1 s.2) xFU ((0, 0))).bind fun e9 =>
  some e9
def f_X11_next (v0 v1 : Int) (h : xa_H) : Option (Int) :=
  (xgf h 11 5 v0).bind fun x1 =>
  (xgf h 0 2 x1).bind fun x2 =>
  if x2 = 0 then
    some ((-1))
  else
    (xgf h 11 10 v0).bind fun x4 =>
    (xgf h 5 1 x4).bind fun x5 =>
    if x5 = 0 then
      some ((-1))
    else
      (xgf h 11 10 v0).bind fun x7 =>
      (xrc h 5 x7 (f_X5_bestQuestion x7 h)).bind fun r8 =>
      if v1 = 0 then
        some (w32 (Int.tdiv r8 6))
      else
        if v1 = 1 then
          some (Int.tmod r8 6)
        else
          if v1 = 2 then
            (xgf h 11 10 v0).bind fun x12 =>
            (xrc h 5 x12 (f_X5_leftAtMost x12 r8 h)).bind fun r13 =>
            some r13
          else
            some ((-1))
def f_X9_copyFrom (v0 v1 : Int) (h : xa_H) : Option (xa_H) :=
  (xgf h 9 0 v1).bind fun x1 =>
  (xpf h 9 0 v0 x1).bind fun h2 =>
  (xgf h2 9 1 v1).bind fun x3 =>
  (xgf h2 9 1 v0).bind fun x4 =>
  (xcp h2 x3 0 x4 0 6).bind fun h5 =>
  (xgf h5 9 2 v1).bind fun x6 =>
  (xgf h5 9 2 v0).bind fun x7 =>
  (xcp h5 x6 0 x7 0 6).bind fun h8 =>
  (xgf h8 9 3 v1).bind fun x9 =>
  (xgf h8 9 3 v0).bind fun x10 =>
  (xcp h8 x9 0 x10 0 6).bind fun h11 =>
  (xgf h11 9 4 v1).bind fun x12 =>
  (xgf h11 9 4 v0).bind fun x13 =>
  (xcp h11 x12 0 x13 0 36).bind fun h14 =>
  (xgf h14 9 5 v1).bind fun x15 =>
  (xgf h14 9 5 v0).bind fun x16 =>
  (xcp h14 x15 0 x16 0 30).bind fun h17 =>
  (xgf h17 9 6 v1).bind fun x18 =>
  (xpf h17 9 6 v0 x18).bind fun h19 =>
  some h19
def f_X4_remember (v0 v1 : Int) (h : xa_H) : Option (xa_H) :=
  (xgf h 4 0 v0).bind fun x1 =>
  (xgf h 4 1 v0).bind fun x2 =>
  (xal h 4 x1 x2).bind fun x3 =>
  (xrc h 9 x3 (f_X9_copyFrom x3 v1 h)).bind fun r4 =>
  (xgf r4 4 1 v0).bind fun x5 =>
  (xpf r4 4 1 v0 (Int.tmod (w32 (x5 + 1)) 20)).bind fun h6 =>
  (xgf h6 4 2 v0).bind fun x7 =>
  (xpf h6 4 2 v0 (min (w32 (x7 + 1)) 20)).bind fun h8 =>
  some h8
def f_X11_nights_J26 (v0 : Int) (h : xa_H) : Option (Int × xa_H) :=
  (xrc h 11 v0 (f_X11_refuse v0 3 h)).bind fun r2 =>
  some ((r2.1, r2.2))
def f_X11_nights_J83L47 (c0 c1 v3 s0 s1 : Int) (h : xa_H) : Option ((Int × Int × xa_H) ⊕ (Int × xa_H)) :=
  (xgf h 11 6 c0).bind fun x21 =>
  (xgf h 9 0 x21).bind fun x22 =>
  (xpf h 9 0 x21 (w32 (x22 + 1))).bind fun h23 =>
  some (Sum.inl ((w32 (s0 + s1), w32 (v3 + 1), h23)))
def f_X11_nights_L47 (c0 c1 : Int) (v2 v3 : Int) (h : xa_H) : Option ((Int × Int × xa_H) ⊕ (Int × xa_H)) :=
  if v3 < c1 then
    (xgf h 11 5 c0).bind fun x11 =>
    (xgf h 0 2 x11).bind fun x12 =>
    if x12 < 2 then
      (xgf h 11 6 c0).bind fun x14 =>
      (xgf h 9 0 x14).bind fun x15 =>
      (xpf h 9 0 x14 (w32 (x15 + 1))).bind fun h16 =>
      some (Sum.inl ((v2, w32 (v3 + 1), h16)))
    else
      (xrc h 11 c0 (f_X11_drawRing c0 h)).bind fun r17 =>
      (xgf r17 11 9 c0).bind fun x18 =>
      (xgf r17 7 2 x18).bind fun x19 =>
      if x19 = 0 then
        f_X11_nights_J83L47 c0 c1 v3 v2 1 r17
      else
        f_X11_nights_J83L47 c0 c1 v3 v2 0 r17
  else
    some (Sum.inr ((v2, h)))
def f_X11_nights (v0 v1 : Int) (h : xa_H) : Option (Int × xa_H) :=
  if v1 < 1 then
    f_X11_nights_J26 v0 h
  else
    if 100 < v1 then
      f_X11_nights_J26 v0 h
    else
      (xgf h 11 6 v0).bind fun x4 =>
      (xgf h 9 0 x4).bind fun x5 =>
      if 9999 < w32 (x5 + v1) then
        f_X11_nights_J26 v0 h
      else
        (xgf h 11 7 v0).bind fun x7 =>
        (xgf h 11 6 v0).bind fun x8 =>
        (xrc h 4 x7 (f_X4_remember x7 x8 h)).bind fun r9 =>
        (xit (fun s => f_X11_nights_L47 v0 v1 s.1 s.2.1 s.2.2) xFU ((0, 0, r9))).bind fun e24 =>
        some ((e24.1, e24.2))
def f_X5_addRow (v0 v1 v2 v3 : Int) (h : xa_H) : Option (xa_H) :=
  (xgf h 5 4 v0).bind fun x1 =>
  (xal h 0 x1 v1).bind fun x2 =>
  if v3 = 0 then
    (xas h 0 x1 v1 (xand x2 (xxor (xshl 1 v2) ((-1))))).bind fun h4 =>
    (xgf h4 5 0 v0).bind fun x5 =>
    (xpf h4 5 0 v0 (w32 (x5 + 1))).bind fun h6 =>
    some h6
  else
    (xas h 0 x1 v1 (xand x2 (xshl 1 v2))).bind fun h7 =>
    (xgf h7 5 0 v0).bind fun x8 =>
    (xpf h7 5 0 v0 (w32 (x8 + 1))).bind fun h9 =>
    some h9
def f_X11_note_L42 (c0 c1 : Int) (v2 : Int) (h : xa_H) : Option ((Int × xa_H) ⊕ (xa_H)) :=
  if v2 < c1 then
    (xgf h 11 10 c0).bind fun x12 =>
    (xrc h 11 c0 (f_X11_tapeByte c0 v2 h)).bind fun r13 =>
    (xrc h 11 c0 (f_X11_tapeByte c0 (w32 (v2 + 1)) h)).bind fun r14 =>
    (xrc h 11 c0 (f_X11_tapeByte c0 (w32 (v2 + 2)) h)).bind fun r15 =>
    if r15 = 1 then
      (xrc h 5 x12 (f_X5_addRow x12 r13 r14 1 h)).bind fun r17 =>
      some (Sum.inl ((w32 (v2 + 3), r17)))
    else
      (xrc h 5 x12 (f_X5_addRow x12 r13 r14 0 h)).bind fun r18 =>
      some (Sum.inl ((w32 (v2 + 3), r18)))
  else
    some (Sum.inr h)
def f_X11_note (v0 : Int) (h : xa_H) : Option (Int × xa_H) :=
  (xrc h 11 v0 (f_X11_takeTape v0 h)).bind fun r1 =>
  (xrc r1.2 11 v0 (f_X11_areNotes v0 r1.1 r1.2)).bind fun r2 =>
  if r2 = 0 then
    (xrc r1.2 11 v0 (f_X11_refuse v0 1 r1.2)).bind fun r4 =>
    some ((r4.1, r4.2))
  else
    (xgf r1.2 11 10 v0).bind fun x5 =>
    (xgf r1.2 11 5 v0).bind fun x6 =>
    (xgf r1.2 0 2 x6).bind fun x7 =>
    (xgf r1.2 11 5 v0).bind fun x8 =>
    (xgf r1.2 0 1 x8).bind fun x9 =>
    (xrc r1.2 5 x5 (f_X5_forget x5 x7 x9 r1.2)).bind fun r10 =>
    (xit (fun s => f_X11_note_L42 v0 r1.1 s.1 s.2) xFU ((0, r10))).bind fun e19 =>
    (xgf e19 11 10 v0).bind fun x20 =>
    (xrc e19 5 x20 (f_X5_reckon x20 e19)).bind fun r21 =>
    (xgf r21 11 10 v0).bind fun x22 =>
    (xgf r21 5 0 x22).bind fun x23 =>
    some ((x23, r21))
def f_X11_octet (v0 v1 : Int) (h : xa_H) : Option (Int) :=
  if v1 < 0 then
    some ((-1))
  else
    (xgf h 11 16 v0).bind fun x2 =>
    if v1 < x2 then
      (xgf h 11 15 v0).bind fun x4 =>
      (xal h 0 x4 v1).bind fun x5 =>
      some x5
    else
      some ((-1))
def f_X11_withNeighbours_L18 (c0 c1 c3 : Int) (h : xa_H) (v2 v4 : Int) : Option ((Int × Int) ⊕ (Int)) :=
  (xgf h 11 5 c0).bind fun x4 =>
  (xgf h 0 2 x4).bind fun x5 =>
  if v4 < x5 then
    if xand (xshr c1 c3) 1 = 1 then
      (xrc h 11 c0 (f_X11_haveMet c0 c3 v4 h)).bind fun r8 =>
      if r8 = 0 then
        some (Sum.inl ((v2, w32 (v4 + 1))))
      else
        some (Sum.inl ((xior v2 (xshl 1 v4), w32 (v4 + 1))))
    else
      some (Sum.inl ((v2, w32 (v4 + 1))))
  else
    some (Sum.inr v2)
def f_X11_withNeighbours_L4 (c0 c1 : Int) (h : xa_H) (v2 v3 : Int) : Option ((Int × Int) ⊕ (Int)) :=
  (xgf h 11 5 c0).bind fun x1 =>
  (xgf h 0 2 x1).bind fun x2 =>
  if v3 < x2 then
    (xit (fun s => f_X11_withNeighbours_L18 c0 c1 v3 h s.1 s.2) xFU ((v2, 0))).bind fun e10 =>
    some (Sum.inl ((e10, w32 (v3 + 1))))
  else
    some (Sum.inr v2)
def f_X11_withNeighbours (v0 v1 : Int) (h : xa_H) : Option (Int) :=
  (xit (fun s => f_X11_withNeighbours_L4 v0 v1 h s.1 s.2) xFU ((v1, 0))).bind fun e11 =>
  some e11
def f_X11_on_L83 (c0 c3 : Int) (h : xa_H) (v4 v5 : Int) : Option ((Int × Int) ⊕ ((Int) ⊕ (Unit))) :=
  (xgf h 11 5 c0).bind fun x20 =>
  (xgf h 0 2 x20).bind fun x21 =>
  if v5 < x21 then
    (xrc h 11 c0 (f_X11_withNeighbours c0 v4 h)).bind fun r23 =>
    if xand (xshr r23 c3) 1 = 1 then
      some (Sum.inr (Sum.inl v5))
    else
      some (Sum.inl ((r23, w32 (v5 + 1))))
  else
    some (Sum.inr (Sum.inr (())))
def f_X11_on (v0 v1 : Int) (h : xa_H) : Option (Int) :=
  (xrc h 11 v0 (f_X11_isHeld v0 v1 h)).bind fun r1 =>
  if r1 = 0 then
    some ((-1))
  else
    (xgf h 11 5 v0).bind fun x3 =>
    (xgf h 0 8 x3).bind fun x4 =>
    (xal h 0 x4 v1).bind fun x5 =>
    if x5 = (-1) then
      some ((-1))
    else
      (xgf h 11 6 v0).bind fun x7 =>
      (xgf h 11 5 v0).bind fun x8 =>
      (xgf h 0 2 x8).bind fun x9 =>
      (xrc h 9 x7 (f_X9_holderOf x7 v1 x9 h)).bind fun r10 =>
      (xgf h 11 6 v0).bind fun x11 =>
      (xgf h 11 5 v0).bind fun x12 =>
      (xgf h 0 8 x12).bind fun x13 =>
      (xal h 0 x13 v1).bind fun x14 =>
      (xgf h 11 5 v0).bind fun x15 =>
      (xgf h 0 2 x15).bind fun x16 =>
      (xrc h 9 x11 (f_X9_holderOf x11 x14 x16 h)).bind fun r17 =>
      if r10 = (-1) then
        some ((-1))
      else
        if r17 = (-1) then
          some ((-1))
        else
          (xit (fun s => f_X11_on_L83 v0 r17 h s.1 s.2) xFU ((xshl 1 r10, 1))).bind fun e25 =>
          xel e25 (fun r => some r) (fun y26 =>
            some ((-1)))
def f_X0_addFeud (v0 v1 v2 : Int) (h : xa_H) : Option (xa_H) :=
  (xgf h 0 10 v0).bind fun x1 =>
  (xal h 0 x1 v1).bind fun x2 =>
  (xas h 0 x1 v1 (xior x2 (xshl 1 v2))).bind fun h3 =>
  (xgf h3 0 10 v0).bind fun x4 =>
  (xal h3 0 x4 v2).bind fun x5 =>
  (xas h3 0 x4 v2 (xior x5 (xshl 1 v1))).bind fun h6 =>
  (xgf h6 0 3 v0).bind fun x7 =>
  (xpf h6 0 3 v0 (w32 (x7 + 1))).bind fun h8 =>
  some h8
def f_X1_badName (v0 : Int) (h : xa_H) : Option (Int × xa_H) :=
  (xgf h 1 0 v0).bind fun x1 =>
  (xgf h 1 0 v0).bind fun x2 =>
  (xgf h 6 8 x2).bind fun x3 =>
  (xrc h 6 x1 (f_X6_refuse x1 3 x3 h)).bind fun r4 =>
  xbo r4.1 <|
  some ((r4.1, r4.2))
def f_X0_holderNamed_L2 (c0 c1 : Int) (h : xa_H) (v2 : Int) : Option ((Int) ⊕ ((Int) ⊕ (Unit))) :=
  (xgf h 0 2 c0).bind fun x1 =>
  if v2 < x1 then
    (xgf h 0 6 c0).bind fun x3 =>
    (xal h 0 x3 v2).bind fun x4 =>
    if x4 = c1 then
      some (Sum.inr (Sum.inl v2))
    else
      some (Sum.inl (w32 (v2 + 1)))
  else
    some (Sum.inr (Sum.inr (())))
def f_X0_holderNamed (v0 v1 : Int) (h : xa_H) : Option (Int) :=
  (xit (fun s => f_X0_holderNamed_L2 v0 v1 h s) xFU 0).bind fun e6 =>
  xel e6 (fun r => some r) (fun y7 =>
    some ((-1)))
def f_X6_needName_J37 (v0 v1 : Int) (h : xa_H) : Option (Int × xa_H) :=
  (xgf h 6 5 v0).bind fun x6 =>
  (xgf h 6 4 v0).bind fun x7 =>
  if 6 < w32 (x6 - x7) then
    (xgf h 6 4 v0).bind fun x9 =>
    (xrc h 6 v0 (f_X6_refuse v0 1 (w32 (x9 + 6)) h)).bind fun r10 =>
    some (((-1), r10.2))
  else
    (xgf h 6 4 v0).bind fun x11 =>
    (xpf h 6 8 v0 x11).bind fun h12 =>
    (xrc h12 6 v0 (f_X6_step v0 h12)).bind fun r13 =>
    some ((v1, r13))
def f_X6_needName_J30 (v0 : Int) (h : xa_H) : Option (Int × xa_H) :=
  (xrc h 6 v0 (f_X6_stray v0 h)).bind fun r16 =>
  some (((-1), r16.2))
def f_X6_needName (v0 : Int) (h : xa_H) : Option (Int × xa_H) :=
  (xgf h 6 6 v0).bind fun x1 =>
  (xgf h 6 3 v0).bind fun x2 =>
  if x2 = 1 then
    (xgf h 6 7 v0).bind fun x4 =>
    if x4 = (-1) then
      f_X6_needName_J37 v0 x1 h
    else
      (xgf h 6 7 v0).bind fun x14 =>
      if x14 < 23 then
        f_X6_needName_J30 v0 h
      else
        f_X6_needName_J37 v0 x1 h
  else
    f_X6_needName_J30 v0 h
def f_X1_knownHolder (v0 : Int) (h : xa_H) : Option (Int × xa_H) :=
  (xgf h 1 0 v0).bind fun x1 =>
  (xrc h 6 x1 (f_X6_needName x1 h)).bind fun r2 =>
  if r2.1 = (-1) then
    some (((-1), r2.2))
  else
    (xgf r2.2 1 2 v0).bind fun x4 =>
    (xrc r2.2 0 x4 (f_X0_holderNamed x4 r2.1 r2.2)).bind fun r5 =>
    if r5 = (-1) then
      (xrc r2.2 1 v0 (f_X1_badName v0 r2.2)).bind fun r7 =>
      some ((r5, r7.2))
    else
      some ((r5, r2.2))
def f_X1_readFeud_J48 (v0 : Int) (h : xa_H) : Option (Int × xa_H) :=
  (xrc h 1 v0 (f_X1_badName v0 h)).bind fun r8 =>
  xbo r8.1 <|
  some ((r8.1, r8.2))
def f_X1_readFeud (v0 : Int) (h : xa_H) : Option (Int × xa_H) :=
  (xgf h 1 0 v0).bind fun x1 =>
  (xrc h 6 x1 (f_X6_step x1 h)).bind fun r2 =>
  (xrc r2 1 v0 (f_X1_knownHolder v0 r2)).bind fun r3 =>
  if r3.1 = (-1) then
    some ((0, r3.2))
  else
    (xrc r3.2 1 v0 (f_X1_knownHolder v0 r3.2)).bind fun r5 =>
    if r5.1 = (-1) then
      some ((0, r5.2))
    else
      if r3.1 = r5.1 then
        f_X1_readFeud_J48 v0 r5.2
      else
        (xgf r5.2 1 2 v0).bind fun x10 =>
        (xrc r5.2 0 x10 (f_X0_areFeuding x10 r3.1 r5.1 r5.2)).bind fun r11 =>
        if r11 = 0 then
          (xgf r5.2 1 2 v0).bind fun x13 =>
          (xrc r5.2 0 x13 (f_X0_addFeud x13 r3.1 r5.1 r5.2)).bind fun r14 =>
          some ((1, r14))
        else
          f_X1_readFeud_J48 v0 r5.2
def f_X1_readFog (v0 : Int) (h : xa_H) : Option (Int × xa_H) :=
  (xgf h 1 0 v0).bind fun x1 =>
  (xrc h 6 x1 (f_X6_step x1 h)).bind fun r2 =>
  (xgf r2 1 0 v0).bind fun x3 =>
  (xrc r2 6 x3 (f_X6_needNumber x3 100 r2)).bind fun r4 =>
  if r4.1 = (-1) then
    some ((0, r4.2))
  else
    (xgf r4.2 1 2 v0).bind fun x6 =>
    (xpf r4.2 0 4 x6 r4.1).bind fun h7 =>
    some ((1, h7))
def f_X0_addHeld (v0 v1 v2 : Int) (h : xa_H) : Option (xa_H) :=
  (xgf h 0 1 v0).bind fun x1 =>
  if x1 < 6 then
    (xgf h 0 5 v0).bind fun x3 =>
    (xgf h 0 1 v0).bind fun x4 =>
    (xas h 0 x3 x4 v1).bind fun h5 =>
    (xgf h5 0 7 v0).bind fun x6 =>
    (xgf h5 0 1 v0).bind fun x7 =>
    (xas h5 0 x6 x7 v2).bind fun h8 =>
    (xgf h8 0 1 v0).bind fun x9 =>
    (xpf h8 0 1 v0 (w32 (x9 + 1))).bind fun h10 =>
    some h10
  else
    some h
def f_X0_heldNamed_L2 (c0 c1 : Int) (h : xa_H) (v2 : Int) : Option ((Int) ⊕ ((Int) ⊕ (Unit))) :=
  (xgf h 0 1 c0).bind fun x1 =>
  if v2 < x1 then
    (xgf h 0 5 c0).bind fun x3 =>
    (xal h 0 x3 v2).bind fun x4 =>
    if x4 = c1 then
      some (Sum.inr (Sum.inl v2))
    else
      some (Sum.inl (w32 (v2 + 1)))
  else
    some (Sum.inr (Sum.inr (())))
def f_X0_heldNamed (v0 v1 : Int) (h : xa_H) : Option (Int) :=
  (xit (fun s => f_X0_heldNamed_L2 v0 v1 h s) xFU 0).bind fun e6 =>
  xel e6 (fun r => some r) (fun y7 =>
    some ((-1)))
def f_X1_newName_J39 (v0 : Int) (h : xa_H) : Option (Int × xa_H) :=
  (xrc h 1 v0 (f_X1_badName v0 h)).bind fun r10 =>
  some (((-1), r10.2))
def f_X1_newName (v0 : Int) (h : xa_H) : Option (Int × xa_H) :=
  (xgf h 1 0 v0).bind fun x1 =>
  (xrc h 6 x1 (f_X6_needName x1 h)).bind fun r2 =>
  if r2.1 = (-1) then
    some (((-1), r2.2))
  else
    (xgf r2.2 1 2 v0).bind fun x4 =>
    (xrc r2.2 0 x4 (f_X0_heldNamed x4 r2.1 r2.2)).bind fun r5 =>
    if r5 = (-1) then
      (xgf r2.2 1 2 v0).bind fun x7 =>
      (xrc r2.2 0 x7 (f_X0_holderNamed x7 r2.1 r2.2)).bind fun r8 =>
      if r8 = (-1) then
        some ((r2.1, r2.2))
      else
        f_X1_newName_J39 v0 r2.2
    else
      f_X1_newName_J39 v0 r2.2
def f_X6_needWord (v0 v1 : Int) (h : xa_H) : Option (Int × xa_H) :=
  (xgf h 6 7 v0).bind fun x1 =>
  if x1 = v1 then
    (xrc h 6 v0 (f_X6_step v0 h)).bind fun r3 =>
    some ((1, r3))
  else
    (xrc h 6 v0 (f_X6_stray v0 h)).bind fun r4 =>
    xbo r4.1 <|
    some ((r4.1, r4.2))
def f_X1_readHeld (v0 : Int) (h : xa_H) : Option (Int × xa_H) :=
  (xgf h 1 0 v0).bind fun x1 =>
  (xrc h 6 x1 (f_X6_step x1 h)).bind fun r2 =>
  (xrc r2 1 v0 (f_X1_newName v0 r2)).bind fun r3 =>
  if r3.1 = (-1) then
    some ((0, r3.2))
  else
    (xgf r3.2 1 0 v0).bind fun x5 =>
    (xrc r3.2 6 x5 (f_X6_needWord x5 1 r3.2)).bind fun r6 =>
    if r6.1 = 0 then
      some ((0, r6.2))
    else
      (xgf r6.2 1 0 v0).bind fun x8 =>
      (xrc r6.2 6 x8 (f_X6_needNumber x8 99 r6.2)).bind fun r9 =>
      if r9.1 = (-1) then
        some ((0, r9.2))
      else
        (xgf r9.2 1 2 v0).bind fun x11 =>
        (xrc r9.2 0 x11 (f_X0_addHeld x11 r3.1 r9.1 r9.2)).bind fun r12 =>
        some ((1, r12))
def f_X0_addHolder (v0 v1 v2 v3 v4 : Int) (h : xa_H) : Option (xa_H) :=
  (xgf h 0 2 v0).bind fun x1 =>
  if x1 < 6 then
    (xgf h 0 6 v0).bind fun x3 =>
    (xgf h 0 2 v0).bind fun x4 =>
    (xas h 0 x3 x4 v1).bind fun h5 =>
    (xgf h5 0 13 v0).bind fun x6 =>
    (xgf h5 9 1 x6).bind fun x7 =>
    (xgf h5 0 2 v0).bind fun x8 =>
    (xas h5 0 x7 x8 v2).bind fun h9 =>
    (xgf h9 0 13 v0).bind fun x10 =>
    (xgf h9 9 2 x10).bind fun x11 =>
    (xgf h9 0 2 v0).bind fun x12 =>
    (xas h9 0 x11 x12 v3).bind fun h13 =>
    (xgf h13 0 13 v0).bind fun x14 =>
    (xgf h13 9 3 x14).bind fun x15 =>
    (xgf h13 0 2 v0).bind fun x16 =>
    (xas h13 0 x15 x16 v4).bind fun h17 =>
    (xgf h17 0 2 v0).bind fun x18 =>
    (xpf h17 0 2 v0 (w32 (x18 + 1))).bind fun h19 =>
    some h19
  else
    some h
def f_X1_knownHeld (v0 : Int) (h : xa_H) : Option (Int × xa_H) :=
  (xgf h 1 0 v0).bind fun x1 =>
  (xrc h 6 x1 (f_X6_needName x1 h)).bind fun r2 =>
  if r2.1 = (-1) then
    some (((-1), r2.2))
  else
    (xgf r2.2 1 2 v0).bind fun x4 =>
    (xrc r2.2 0 x4 (f_X0_heldNamed x4 r2.1 r2.2)).bind fun r5 =>
    if r5 = (-1) then
      (xrc r2.2 1 v0 (f_X1_badName v0 r2.2)).bind fun r7 =>
      some ((r5, r7.2))
    else
      some ((r5, r2.2))
def f_X1_readHolder (v0 : Int) (h : xa_H) : Option (Int × xa_H) :=
  (xgf h 1 0 v0).bind fun x1 =>
  (xrc h 6 x1 (f_X6_step x1 h)).bind fun r2 =>
  (xrc r2 1 v0 (f_X1_newName v0 r2)).bind fun r3 =>
  if r3.1 = (-1) then
    some ((0, r3.2))
  else
    (xgf r3.2 1 0 v0).bind fun x5 =>
    (xrc r3.2 6 x5 (f_X6_needWord x5 3 r3.2)).bind fun r6 =>
    if r6.1 = 0 then
      some ((0, r6.2))
    else
      (xrc r6.2 1 v0 (f_X1_knownHeld v0 r6.2)).bind fun r8 =>
      if r8.1 = (-1) then
        some ((0, r8.2))
      else
        (xgf r8.2 1 2 v0).bind fun x10 =>
        (xgf r8.2 0 13 x10).bind fun x11 =>
        (xgf r8.2 1 2 v0).bind fun x12 =>
        (xgf r8.2 0 2 x12).bind fun x13 =>
        (xrc r8.2 9 x11 (f_X9_holderOf x11 r8.1 x13 r8.2)).bind fun r14 =>
        if r14 = (-1) then
          (xgf r8.2 1 0 v0).bind fun x16 =>
          (xrc r8.2 6 x16 (f_X6_needWord x16 4 r8.2)).bind fun r17 =>
          if r17.1 = 0 then
            some ((0, r17.2))
          else
            (xrc r17.2 1 v0 (f_X1_knownHeld v0 r17.2)).bind fun r19 =>
            if r19.1 = (-1) then
              some ((0, r19.2))
            else
              (xgf r19.2 1 0 v0).bind fun x21 =>
              (xrc r19.2 6 x21 (f_X6_needWord x21 5 r19.2)).bind fun r22 =>
              if r22.1 = 0 then
                some ((0, r22.2))
              else
                (xgf r22.2 1 0 v0).bind fun x24 =>
                (xrc r22.2 6 x24 (f_X6_needNumber x24 999 r22.2)).bind fun r25 =>
                if r25.1 = (-1) then
                  some ((0, r25.2))
                else
                  (xgf r25.2 1 2 v0).bind fun x27 =>
                  (xrc r25.2 0 x27 (f_X0_addHolder x27 r3.1 r8.1 r19.1 r25.1 r25.2)).bind fun r28 =>
                  some ((1, r28))
        else
          (xrc r8.2 1 v0 (f_X1_badName v0 r8.2)).bind fun r29 =>
          xbo r29.1 <|
          some ((r29.1, r29.2))
def f_X1_readSister (v0 : Int) (h : xa_H) : Option (Int × xa_H) :=
  (xgf h 1 0 v0).bind fun x1 =>
  (xrc h 6 x1 (f_X6_step x1 h)).bind fun r2 =>
  (xrc r2 1 v0 (f_X1_knownHeld v0 r2)).bind fun r3 =>
  if r3.1 = (-1) then
    some ((0, r3.2))
  else
    (xgf r3.2 1 2 v0).bind fun x5 =>
    (xgf r3.2 0 8 x5).bind fun x6 =>
    (xal r3.2 0 x6 r3.1).bind fun x7 =>
    if x7 = (-1) then
      (xrc r3.2 1 v0 (f_X1_knownHeld v0 r3.2)).bind fun r9 =>
      if r9.1 = (-1) then
        some ((0, r9.2))
      else
        if r9.1 = r3.1 then
          (xrc r9.2 1 v0 (f_X1_badName v0 r9.2)).bind fun r12 =>
          xbo r12.1 <|
          some ((r12.1, r12.2))
        else
          (xgf r9.2 1 2 v0).bind fun x14 =>
          (xgf r9.2 0 8 x14).bind fun x15 =>
          (xas r9.2 0 x15 r3.1 r9.1).bind fun h16 =>
          some ((1, h16))
    else
      (xrc r3.2 1 v0 (f_X1_badName v0 r3.2)).bind fun r17 =>
      xbo r17.1 <|
      some ((r17.1, r17.2))
def f_X1_readValue (v0 : Int) (h : xa_H) : Option (Int × xa_H) :=
  (xgf h 1 0 v0).bind fun x1 =>
  (xrc h 6 x1 (f_X6_step x1 h)).bind fun r2 =>
  (xrc r2 1 v0 (f_X1_knownHolder v0 r2)).bind fun r3 =>
  if r3.1 = (-1) then
    some ((0, r3.2))
  else
    (xrc r3.2 1 v0 (f_X1_knownHeld v0 r3.2)).bind fun r5 =>
    if r5.1 = (-1) then
      some ((0, r5.2))
    else
      (xgf r5.2 1 0 v0).bind fun x7 =>
      (xrc r5.2 6 x7 (f_X6_needNumber x7 99 r5.2)).bind fun r8 =>
      if r8.1 = (-1) then
        some ((0, r8.2))
      else
        (xgf r8.2 1 2 v0).bind fun x10 =>
        (xgf r8.2 0 9 x10).bind fun x11 =>
        (xas r8.2 0 x11 (w32 ((w32 (r3.1 * 6)) + r5.1)) r8.1).bind fun h12 =>
        some ((1, h12))
def f_X1_tooMany (v0 : Int) (h : xa_H) : Option (Int × xa_H) :=
  (xgf h 1 0 v0).bind fun x1 =>
  (xgf h 1 0 v0).bind fun x2 =>
  (xgf h 6 4 x2).bind fun x3 =>
  (xrc h 6 x1 (f_X6_refuse x1 5 x3 h)).bind fun r4 =>
  xbo r4.1 <|
  some ((r4.1, r4.2))
def f_X1_readStatement (v0 : Int) (h : xa_H) : Option (Int × xa_H) :=
  (xgf h 1 0 v0).bind fun x1 =>
  (xgf h 6 7 x1).bind fun x2 =>
  if x2 = 0 then
    (xgf h 1 2 v0).bind fun x4 =>
    (xgf h 0 1 x4).bind fun x5 =>
    if x5 < 6 then
      (xrc h 1 v0 (f_X1_readHeld v0 h)).bind fun r7 =>
      xbo r7.1 <|
      some ((r7.1, r7.2))
    else
      (xrc h 1 v0 (f_X1_tooMany v0 h)).bind fun r9 =>
      xbo r9.1 <|
      some ((r9.1, r9.2))
  else
    if x2 = 1 then
      (xgf h 1 0 v0).bind fun x12 =>
      (xrc h 6 x12 (f_X6_stray x12 h)).bind fun r13 =>
      xbo r13.1 <|
      some ((r13.1, r13.2))
    else
      if x2 = 2 then
        (xgf h 1 2 v0).bind fun x16 =>
        (xgf h 0 2 x16).bind fun x17 =>
        if x17 < 6 then
          (xrc h 1 v0 (f_X1_readHolder v0 h)).bind fun r19 =>
          xbo r19.1 <|
          some ((r19.1, r19.2))
        else
          (xrc h 1 v0 (f_X1_tooMany v0 h)).bind fun r21 =>
          xbo r21.1 <|
          some ((r21.1, r21.2))
      else
        if x2 = 3 then
          (xgf h 1 0 v0).bind fun x24 =>
          (xrc h 6 x24 (f_X6_stray x24 h)).bind fun r25 =>
          xbo r25.1 <|
          some ((r25.1, r25.2))
        else
          if x2 = 4 then
            (xgf h 1 0 v0).bind fun x28 =>
            (xrc h 6 x28 (f_X6_stray x28 h)).bind fun r29 =>
            xbo r29.1 <|
            some ((r29.1, r29.2))
          else
            if x2 = 5 then
              (xgf h 1 0 v0).bind fun x32 =>
              (xrc h 6 x32 (f_X6_stray x32 h)).bind fun r33 =>
              xbo r33.1 <|
              some ((r33.1, r33.2))
            else
              if x2 = 6 then
                (xrc h 1 v0 (f_X1_readValue v0 h)).bind fun r36 =>
                xbo r36.1 <|
                some ((r36.1, r36.2))
              else
                if x2 = 7 then
                  (xgf h 1 2 v0).bind fun x39 =>
                  (xgf h 0 3 x39).bind fun x40 =>
                  if x40 < 10 then
                    (xrc h 1 v0 (f_X1_readFeud v0 h)).bind fun r42 =>
                    xbo r42.1 <|
                    some ((r42.1, r42.2))
                  else
                    (xrc h 1 v0 (f_X1_tooMany v0 h)).bind fun r44 =>
                    xbo r44.1 <|
                    some ((r44.1, r44.2))
                else
                  if x2 = 8 then
                    (xrc h 1 v0 (f_X1_readSister v0 h)).bind fun r47 =>
                    xbo r47.1 <|
                    some ((r47.1, r47.2))
                  else
                    if x2 = 9 then
                      (xgf h 1 2 v0).bind fun x50 =>
                      (xgf h 0 11 x50).bind fun x51 =>
                      xn5 x51 <|
                      if x51 = -1 then
                        (xgf h 1 2 v0).bind fun x53 =>
                        (xgf h 1 1 v0).bind fun x54 =>
                        (xrc h 3 x54 (f_X3_readTest x54 0 h)).bind fun r55 =>
                        (xpf r55.2 0 11 x53 r55.1).bind fun h56 =>
                        (xgf h56 1 2 v0).bind fun x57 =>
                        (xgf h56 0 11 x57).bind fun x58 =>
                        xn5 x58 <|
                        if x58 = -1 then
                          some ((0, h56))
                        else
                          some ((1, h56))
                      else
                        (xrc h 1 v0 (f_X1_tooMany v0 h)).bind fun r61 =>
                        xbo r61.1 <|
                        some ((r61.1, r61.2))
                    else
                      if x2 = 10 then
                        (xgf h 1 2 v0).bind fun x65 =>
                        (xgf h 0 12 x65).bind fun x66 =>
                        xn5 x66 <|
                        if x66 = -1 then
                          (xgf h 1 2 v0).bind fun x68 =>
                          (xgf h 1 1 v0).bind fun x69 =>
                          (xrc h 3 x69 (f_X3_readSum x69 0 h)).bind fun r70 =>
                          (xpf r70.2 0 12 x68 r70.1).bind fun h71 =>
                          (xgf h71 1 2 v0).bind fun x72 =>
                          (xgf h71 0 12 x72).bind fun x73 =>
                          xn5 x73 <|
                          if x73 = -1 then
                            some ((0, h71))
                          else
                            some ((1, h71))
                        else
                          (xrc h 1 v0 (f_X1_tooMany v0 h)).bind fun r76 =>
                          xbo r76.1 <|
                          some ((r76.1, r76.2))
                      else
                        if x2 = 11 then
                          (xrc h 1 v0 (f_X1_readFog v0 h)).bind fun r80 =>
                          xbo r80.1 <|
                          some ((r80.1, r80.2))
                        else
                          (xgf h 1 0 v0).bind fun x82 =>
                          (xrc h 6 x82 (f_X6_stray x82 h)).bind fun r83 =>
                          xbo r83.1 <|
                          some ((r83.1, r83.2))
def f_X1_readCase_L21 (c0 : Int) (v2 : Int) (h : xa_H) : Option ((Int × xa_H) ⊕ ((Int × xa_H) ⊕ (xa_H))) :=
  if 80 < v2 then
    some (Sum.inr (Sum.inr h))
  else
    (xgf h 1 0 c0).bind fun x7 =>
    (xgf h 6 3 x7).bind fun x8 =>
    if x8 = 0 then
      (xgf h 1 2 c0).bind fun x10 =>
      (xpf h 0 0 x10 v2).bind fun h11 =>
      (xgf h11 1 2 c0).bind fun x12 =>
      some (Sum.inr (Sum.inl ((x12, h11))))
    else
      if v2 = 80 then
        (xrc h 1 c0 (f_X1_tooMany c0 h)).bind fun r14 =>
        some (Sum.inr (Sum.inl (((-1), r14.2))))
      else
        (xrc h 1 c0 (f_X1_readStatement c0 h)).bind fun r15 =>
        if r15.1 = 0 then
          some (Sum.inr (Sum.inl (((-1), r15.2))))
        else
          (xgf r15.2 1 0 c0).bind fun x17 =>
          (xrc r15.2 6 x17 (f_X6_needSign x17 59 r15.2)).bind fun r18 =>
          if r18.1 = 0 then
            some (Sum.inr (Sum.inl (((-1), r18.2))))
          else
            some (Sum.inl ((w32 (v2 + 1), r18.2)))
def f_X1_readCase (v0 v1 : Int) (h : xa_H) : Option (Int × xa_H) :=
  (xnO h 0 14).bind fun h1 =>
  (f_X0_init ((xn h : Int)) h1).bind fun r2 =>
  (xpf r2 1 2 v0 ((xn h : Int))).bind fun h3 =>
  (xgf h3 1 0 v0).bind fun x4 =>
  (xrc h3 6 x4 (f_X6_begin x4 v1 h3)).bind fun r5 =>
  (xit (fun s => f_X1_readCase_L21 v0 s.1 s.2) xFU ((0, r5))).bind fun e20 =>
  xel e20 (fun r => some r) (fun y21 =>
    some (((-1), y21)))
def f_X4_forget (v0 : Int) (h : xa_H) : Option (xa_H) :=
  (xpf h 4 2 v0 0).bind fun h1 =>
  some h1
def f_X11_open (v0 : Int) (h : xa_H) : Option (Int × xa_H) :=
  (xgf h 11 4 v0).bind fun x1 =>
  (xrc h 11 v0 (f_X11_takeTape v0 h)).bind fun r2 =>
  (xrc r2.2 1 x1 (f_X1_readCase x1 r2.1 r2.2)).bind fun r3 =>
  xn5 r3.1 <|
  if r3.1 = -1 then
    (xrc r3.2 11 v0 (f_X11_refuse v0 1 r3.2)).bind fun r5 =>
    some ((r5.1, r5.2))
  else
    (xpf r3.2 11 5 v0 r3.1).bind fun h6 =>
    (xgf h6 11 6 v0).bind fun x7 =>
    (xgf h6 0 13 r3.1).bind fun x8 =>
    (xrc h6 9 x7 (f_X9_copyFrom x7 x8 h6)).bind fun r9 =>
    (xgf r9 11 7 v0).bind fun x10 =>
    (xrc r9 4 x10 (f_X4_forget x10 r9)).bind fun r11 =>
    (xgf r11 11 8 v0).bind fun x12 =>
    (xpf r11 7 1 x12 0).bind fun h13 =>
    (xgf h13 11 10 v0).bind fun x14 =>
    (xgf h13 0 2 r3.1).bind fun x15 =>
    (xgf h13 0 1 r3.1).bind fun x16 =>
    (xrc h13 5 x14 (f_X5_forget x14 x15 x16 h13)).bind fun r17 =>
    (xgf r17 11 12 v0).bind fun x18 =>
    (xas r17 5 x18 0 (-1)).bind fun h19 =>
    (xgf h19 11 12 v0).bind fun x20 =>
    (xas h19 5 x20 1 (-1)).bind fun h21 =>
    (xgf h21 0 0 r3.1).bind fun x22 =>
    some ((x22, h21))
def f_X11_resume_L113 (c0 c1 c2 : Int) (v3 : Int) (h : xa_H) : Option ((Int × xa_H) ⊕ (xa_H)) :=
  (xgf h 11 5 c0).bind fun x28 =>
  (xgf h 0 2 x28).bind fun x29 =>
  if v3 < x29 then
    (xgf h 11 6 c0).bind fun x31 =>
    (xgf h 9 4 x31).bind fun x32 =>
    (xrc h 11 c0 (f_X11_tapeByte c0 (w32 ((w32 (c2 + 4)) + v3)) h)).bind fun r33 =>
    (xas h 0 x32 (w32 ((w32 (c1 * 6)) + v3)) r33).bind fun h34 =>
    some (Sum.inl ((w32 (v3 + 1), h34)))
  else
    some (Sum.inr h)
def f_X11_resume_L48 (c0 : Int) (v1 : Int) (h : xa_H) : Option ((Int × xa_H) ⊕ (xa_H)) :=
  (xgf h 11 5 c0).bind fun x12 =>
  (xgf h 0 2 x12).bind fun x13 =>
  if v1 < x13 then
    (xrc h 11 c0 (f_X11_imagePlace c0 v1 h)).bind fun r15 =>
    (xgf h 11 6 c0).bind fun x16 =>
    (xgf h 9 1 x16).bind fun x17 =>
    (xrc h 11 c0 (f_X11_tapeByte c0 r15 h)).bind fun r18 =>
    (xas h 0 x17 v1 r18).bind fun h19 =>
    (xgf h19 11 6 c0).bind fun x20 =>
    (xgf h19 9 2 x20).bind fun x21 =>
    (xrc h19 11 c0 (f_X11_tapeByte c0 (w32 (r15 + 1)) h19)).bind fun r22 =>
    (xas h19 0 x21 v1 r22).bind fun h23 =>
    (xgf h23 11 6 c0).bind fun x24 =>
    (xgf h23 9 3 x24).bind fun x25 =>
    (xrc h23 11 c0 (f_X11_tapePair c0 (w32 (r15 + 2)) h23)).bind fun r26 =>
    (xas h23 0 x25 v1 r26).bind fun h27 =>
    (xit (fun s => f_X11_resume_L113 c0 v1 r15 s.1 s.2) xFU ((0, h27))).bind fun e35 =>
    some (Sum.inl ((w32 (v1 + 1), e35)))
  else
    some (Sum.inr h)
def f_X11_resume (v0 : Int) (h : xa_H) : Option (Int × xa_H) :=
  (xrc h 11 v0 (f_X11_takeTape v0 h)).bind fun r1 =>
  (xrc r1.2 11 v0 (f_X11_isImage v0 r1.1 r1.2)).bind fun r2 =>
  if r2 = 0 then
    (xrc r1.2 11 v0 (f_X11_refuse v0 5 r1.2)).bind fun r4 =>
    some ((0, r4.2))
  else
    (xgf r1.2 11 6 v0).bind fun x5 =>
    (xrc r1.2 11 v0 (f_X11_tapePair v0 0 r1.2)).bind fun r6 =>
    (xpf r1.2 9 0 x5 r6).bind fun h7 =>
    (xgf h7 11 6 v0).bind fun x8 =>
    (xpf h7 9 6 x8 0).bind fun h9 =>
    (xgf h9 11 7 v0).bind fun x10 =>
    (xrc h9 4 x10 (f_X4_forget x10 h9)).bind fun r11 =>
    (xit (fun s => f_X11_resume_L48 v0 s.1 s.2) xFU ((0, r11))).bind fun e36 =>
    some ((1, e36))
def f_X11_ring (v0 : Int) (h : xa_H) : Option (Int × xa_H) :=
  (xgf h 11 9 v0).bind fun x1 =>
  (xrc h 11 v0 (f_X11_takeTape v0 h)).bind fun r2 =>
  (xrc r2.2 11 v0 (f_X11_readRing v0 x1 r2.1 r2.2)).bind fun r3 =>
  if r3.1 = 0 then
    (xrc r3.2 11 v0 (f_X11_refuse v0 2 r3.2)).bind fun r5 =>
    some ((r5.1, r5.2))
  else
    (xgf r3.2 11 7 v0).bind fun x6 =>
    (xgf r3.2 11 6 v0).bind fun x7 =>
    (xrc r3.2 4 x6 (f_X4_remember x6 x7 r3.2)).bind fun r8 =>
    (xgf r8 11 9 v0).bind fun x9 =>
    (xgf r8 11 5 v0).bind fun x10 =>
    (xgf r8 11 6 v0).bind fun x11 =>
    (xrc r8 7 x9 (f_X7_weigh x9 x10 x11 r8)).bind fun r12 =>
    (xrc r12 11 v0 (f_X11_closeRing v0 r12)).bind fun r13 =>
    (xgf r13 11 9 v0).bind fun x14 =>
    (xgf r13 7 2 x14).bind fun x15 =>
    some ((x15, r13))
def f_X11_seed (v0 v1 : Int) (h : xa_H) : Option (Int × xa_H) :=
  if v1 < 0 then
    (xrc h 11 v0 (f_X11_refuse v0 5 h)).bind fun r2 =>
    some ((0, r2.2))
  else
    (xpf h 11 18 v0 v1).bind fun h3 =>
    some ((1, h3))
def f_X11_status (v0 v1 : Int) (h : xa_H) : Option (Int) :=
  if v1 < 0 then
    some ((-1))
  else
    (xgf h 11 17 v0).bind fun x2 =>
    (xln h x2).bind fun x3 =>
    if v1 < x3 then
      (xgf h 11 17 v0).bind fun x5 =>
      (xal h 0 x5 v1).bind fun x6 =>
      some x6
    else
      some ((-1))
def f_X11_together_L28 (c0 c1 c5 : Int) (h : xa_H) (v2 v3 v4 v6 : Int) : Option ((Int × Int × Int × Int) ⊕ (Int × Int × Int)) :=
  (xgf h 11 5 c0).bind fun x4 =>
  (xgf h 0 2 x4).bind fun x5 =>
  if v6 < x5 then
    (xrc h 11 c0 (f_X11_moreBySwap c0 c5 v6 h)).bind fun r7 =>
    if v2 < r7 then
      some (Sum.inl ((r7, c5, v6, w32 (v6 + 1))))
    else
      some (Sum.inl ((v2, v3, v4, w32 (v6 + 1))))
  else
    some (Sum.inr ((v2, v3, v4)))
def f_X11_together_L10 (c0 c1 : Int) (h : xa_H) (v2 v3 v4 v5 : Int) : Option ((Int × Int × Int × Int) ⊕ (Int × Int × Int)) :=
  (xgf h 11 5 c0).bind fun x1 =>
  (xgf h 0 2 x1).bind fun x2 =>
  if v5 < x2 then
    (xit (fun s => f_X11_together_L28 c0 c1 v5 h s.1 s.2.1 s.2.2.1 s.2.2.2) xFU ((v2, v3, v4, w32 (v5 + 1)))).bind fun e9 =>
    some (Sum.inl ((e9.1, e9.2.1, e9.2.2, w32 (v5 + 1))))
  else
    some (Sum.inr ((v2, v3, v4)))
def f_X11_together (v0 v1 : Int) (h : xa_H) : Option (Int) :=
  (xit (fun s => f_X11_together_L10 v0 v1 h s.1 s.2.1 s.2.2.1 s.2.2.2) xFU ((0, (-1), (-1), 0))).bind fun e10 =>
  if v1 = 0 then
    some e10.2.1
  else
    if v1 = 1 then
      some e10.2.2
    else
      if v1 = 2 then
        if 0 < e10.1 then
          some e10.1
        else
          some ((-1))
      else
        some ((-1))
def f_X10_point_J81L39 (c0 c1 c2 c3 c4 v5 v6 v7 s0 : Int) (h : xa_H) : Option ((Int × Int × xa_H) ⊕ (xa_H)) :=
  if s0 = 0 then
    some (Sum.inl ((v5, w32 (v6 + 1), h)))
  else
    (xrc h 0 c1 (f_X0_valueOf c1 c4 v6 h)).bind fun r14 =>
    if v5 < r14 then
      (xrc h 0 c1 (f_X0_valueOf c1 c4 v6 h)).bind fun r16 =>
      (xgf h 10 3 c0).bind fun x17 =>
      (xas h 0 x17 c4 v7).bind fun h18 =>
      some (Sum.inl ((r16, w32 (v6 + 1), h18)))
    else
      some (Sum.inl ((v5, w32 (v6 + 1), h)))
def f_X10_point_J80L39 (c0 c1 c2 c3 c4 v5 v6 v7 : Int) (h : xa_H) : Option ((Int × Int × xa_H) ⊕ (xa_H)) :=
  f_X10_point_J81L39 c0 c1 c2 c3 c4 v5 v6 v7 0 h
def f_X10_point_L39 (c0 c1 c2 c3 c4 : Int) (v5 v6 : Int) (h : xa_H) : Option ((Int × Int × xa_H) ⊕ (xa_H)) :=
  (xgf h 0 1 c1).bind fun x8 =>
  if v6 < x8 then
    (xgf h 0 2 c1).bind fun x10 =>
    (xrc h 9 c2 (f_X9_holderOf c2 v6 x10 h)).bind fun r11 =>
    if r11 = (-1) then
      f_X10_point_J80L39 c0 c1 c2 c3 c4 v5 v6 r11 h
    else
      if xand (xshr c3 r11) 1 = 1 then
        f_X10_point_J81L39 c0 c1 c2 c3 c4 v5 v6 r11 1 h
      else
        f_X10_point_J80L39 c0 c1 c2 c3 c4 v5 v6 r11 h
  else
    some (Sum.inr h)
def f_X10_point_L3 (c0 c1 c2 c3 : Int) (v4 : Int) (h : xa_H) : Option ((Int × xa_H) ⊕ (xa_H)) :=
  (xgf h 0 2 c1).bind fun x1 =>
  if v4 < x1 then
    (xgf h 10 3 c0).bind fun x3 =>
    (xas h 0 x3 v4 v4).bind fun h4 =>
    (xgf h4 9 1 c2).bind fun x5 =>
    (xal h4 0 x5 v4).bind fun x6 =>
    (xrc h4 0 c1 (f_X0_valueOf c1 v4 x6 h4)).bind fun r7 =>
    (xit (fun s => f_X10_point_L39 c0 c1 c2 c3 v4 s.1 s.2.1 s.2.2) xFU ((r7, 0, h4))).bind fun e20 =>
    some (Sum.inl ((w32 (v4 + 1), e20)))
  else
    some (Sum.inr h)
def f_X10_point (v0 v1 v2 v3 : Int) (h : xa_H) : Option (xa_H) :=
  (xit (fun s => f_X10_point_L3 v0 v1 v2 v3 s.1 s.2) xFU ((0, h))).bind fun e21 =>
  some e21
def f_X10_ringOf_L4 (c0 c1 : Int) (h : xa_H) (v2 v3 : Int) : Option ((Int × Int) ⊕ ((Int) ⊕ (Unit))) :=
  if 6 < v3 then
    some (Sum.inr (Sum.inr (())))
  else
    (xgf h 10 3 c0).bind fun x2 =>
    (xal h 0 x2 v2).bind fun x3 =>
    if x3 = c1 then
      some (Sum.inr (Sum.inl v3))
    else
      some (Sum.inl ((x3, w32 (v3 + 1))))
def f_X10_ringOf (v0 v1 : Int) (h : xa_H) : Option (Int) :=
  (xit (fun s => f_X10_ringOf_L4 v0 v1 h s.1 s.2) xFU ((v1, 1))).bind fun e5 =>
  xel e5 (fun r => some r) (fun y6 =>
    some 0)
def f_X10_play_J65L36 (c0 c1 c2 c3 c4 v5 v6 s0 : Int) (h : xa_H) : Option ((Int × Int × xa_H) ⊕ (Int × xa_H)) :=
  if 0 < s0 then
    (xgf h 10 0 c0).bind fun x10 =>
    (xgf h 9 1 c2).bind fun x11 =>
    (xgf h 10 3 c0).bind fun x12 =>
    (xal h 0 x12 v6).bind fun x13 =>
    (xal h 0 x11 x13).bind fun x14 =>
    (xas h 0 x10 v6 x14).bind fun h15 =>
    (xgf h15 10 1 c0).bind fun x16 =>
    (xas h15 0 x16 v6 c4).bind fun h17 =>
    (xgf h17 10 2 c0).bind fun x18 =>
    (xas h17 0 x18 v6 s0).bind fun h19 =>
    some (Sum.inl ((xior v5 (xshl 1 v6), w32 (v6 + 1), h19)))
  else
    some (Sum.inl ((v5, w32 (v6 + 1), h)))
def f_X10_play_L36 (c0 c1 c2 c3 c4 : Int) (v5 v6 : Int) (h : xa_H) : Option ((Int × Int × xa_H) ⊕ (Int × xa_H)) :=
  (xgf h 0 2 c1).bind fun x5 =>
  if v6 < x5 then
    if xand (xshr c3 v6) 1 = 1 then
      (xrc h 10 c0 (f_X10_ringOf c0 v6 h)).bind fun r8 =>
      f_X10_play_J65L36 c0 c1 c2 c3 c4 v5 v6 r8 h
    else
      f_X10_play_J65L36 c0 c1 c2 c3 c4 v5 v6 0 h
  else
    some (Sum.inr ((v5, h)))
def f_X10_play_L12 (c0 c1 c2 : Int) (v3 v4 : Int) (h : xa_H) : Option ((Int × Int × xa_H) ⊕ (xa_H)) :=
  if v3 = 0 then
    some (Sum.inr h)
  else
    if 6 < v4 then
      some (Sum.inr h)
    else
      (xrc h 10 c0 (f_X10_point c0 c1 c2 v3 h)).bind fun r4 =>
      (xit (fun s => f_X10_play_L36 c0 c1 c2 v3 v4 s.1 s.2.1 s.2.2) xFU ((0, 0, r4))).bind fun e20 =>
      some (Sum.inl ((xand v3 (xxor e20.1 ((-1))), w32 (v4 + 1), e20.2)))
def f_X10_play (v0 v1 v2 : Int) (h : xa_H) : Option (xa_H) :=
  (xgf h 0 2 v1).bind fun x1 =>
  (xit (fun s => f_X10_play_L12 v0 v1 v2 s.1 s.2.1 s.2.2) xFU ((w32 ((xshl 1 x1) - 1), 1, h))).bind fun e21 =>
  some e21
def f_X11_trade (v0 v1 v2 : Int) (h : xa_H) : Option (Int × xa_H) :=
  (xrc h 11 v0 (f_X11_isHolder v0 v1 h)).bind fun r1 =>
  if r1 = 0 then
    some (((-1), h))
  else
    (xgf h 11 11 v0).bind fun x3 =>
    (xgf h 11 5 v0).bind fun x4 =>
    (xgf h 11 6 v0).bind fun x5 =>
    (xrc h 10 x3 (f_X10_play x3 x4 x5 h)).bind fun r6 =>
    if v2 = 0 then
      (xgf r6 11 11 v0).bind fun x8 =>
      (xgf r6 10 0 x8).bind fun x9 =>
      (xal r6 0 x9 v1).bind fun x10 =>
      some ((x10, r6))
    else
      if v2 = 1 then
        (xgf r6 11 11 v0).bind fun x12 =>
        (xgf r6 10 1 x12).bind fun x13 =>
        (xal r6 0 x13 v1).bind fun x14 =>
        some ((x14, r6))
      else
        if v2 = 2 then
          (xgf r6 11 11 v0).bind fun x16 =>
          (xgf r6 10 2 x16).bind fun x17 =>
          (xal r6 0 x17 v1).bind fun x18 =>
          some ((x18, r6))
        else
          some (((-1), r6))
def f_X4_recall (v0 v1 : Int) (h : xa_H) : Option (Int × xa_H) :=
  (xgf h 4 2 v0).bind fun x1 =>
  if x1 = 0 then
    some ((0, h))
  else
    (xgf h 4 1 v0).bind fun x3 =>
    (xpf h 4 1 v0 (Int.tmod (w32 ((w32 (x3 + 20)) - 1)) 20)).bind fun h4 =>
    (xgf h4 4 2 v0).bind fun x5 =>
    (xpf h4 4 2 v0 (w32 (x5 - 1))).bind fun h6 =>
    (xgf h6 4 0 v0).bind fun x7 =>
    (xgf h6 4 1 v0).bind fun x8 =>
    (xal h6 4 x7 x8).bind fun x9 =>
    (xrc h6 9 v1 (f_X9_copyFrom v1 x9 h6)).bind fun r10 =>
    some ((1, r10))
def f_X11_undo (v0 : Int) (h : xa_H) : Option (Int × xa_H) :=
  (xgf h 11 7 v0).bind fun x1 =>
  (xgf h 11 6 v0).bind fun x2 =>
  (xrc h 4 x1 (f_X4_recall x1 x2 h)).bind fun r3 =>
  if r3.1 = 0 then
    (xrc r3.2 11 v0 (f_X11_refuse v0 4 r3.2)).bind fun r5 =>
    some ((0, r5.2))
  else
    some ((1, r3.2))
def f_X11_values (v0 v1 v2 : Int) (h : xa_H) : Option (Int) :=
  (xrc h 11 v0 (f_X11_isHolder v0 v1 h)).bind fun r1 =>
  if r1 = 0 then
    some ((-1))
  else
    (xrc h 11 v0 (f_X11_isHeld v0 v2 h)).bind fun r3 =>
    if r3 = 0 then
      some ((-1))
    else
      (xgf h 11 5 v0).bind fun x5 =>
      (xrc h 0 x5 (f_X0_valueOf x5 v1 v2 h)).bind fun r6 =>
      some r6
def f_X11_want_J29 (v0 : Int) (h : xa_H) : Option (Int × xa_H) :=
  (xrc h 11 v0 (f_X11_refuse v0 2 h)).bind fun r3 =>
  some ((0, r3.2))
def f_X11_want (v0 v1 v2 : Int) (h : xa_H) : Option (Int × xa_H) :=
  (xrc h 11 v0 (f_X11_isHolder v0 v1 h)).bind fun r1 =>
  if r1 = 0 then
    f_X11_want_J29 v0 h
  else
    (xrc h 11 v0 (f_X11_isHeld v0 v2 h)).bind fun r4 =>
    if r4 = 0 then
      f_X11_want_J29 v0 h
    else
      (xgf h 11 6 v0).bind fun x6 =>
      (xgf h 9 2 x6).bind fun x7 =>
      (xal h 0 x7 v1).bind fun x8 =>
      if x8 = v2 then
        f_X11_want_J29 v0 h
      else
        (xgf h 11 7 v0).bind fun x10 =>
        (xgf h 11 6 v0).bind fun x11 =>
        (xrc h 4 x10 (f_X4_remember x10 x11 h)).bind fun r12 =>
        (xgf r12 11 6 v0).bind fun x13 =>
        (xgf r12 9 2 x13).bind fun x14 =>
        (xas r12 0 x14 v1 v2).bind fun h15 =>
        some ((1, h15))
set_option maxRecDepth 100000 in
def f_X12_init (v0 : Int) (h : xa_H) : Option (xa_H) :=
  xrc h 12 v0 <|
  (xna h 0 1600).bind fun h1 =>
  (xpf h1 12 0 v0 ((xn h : Int))).bind fun h2 =>
  (xpf h2 12 8 v0 ((-1))).bind fun h3 =>
  (xna h3 0 6).bind fun h4 =>
  (xpf h4 12 9 v0 ((xn h3 : Int))).bind fun h5 =>
  (xna h5 3 4).bind fun h6 =>
  (xas h6 3 ((xn h5 : Int)) 0 104).bind fun h7 =>
  (xas h7 3 ((xn h5 : Int)) 1 101).bind fun h8 =>
  (xas h8 3 ((xn h5 : Int)) 2 108).bind fun h9 =>
  (xas h9 3 ((xn h5 : Int)) 3 100).bind fun h10 =>
  (xpf h10 12 10 v0 ((xn h5 : Int))).bind fun h11 =>
  (xna h11 3 4).bind fun h12 =>
  (xas h12 3 ((xn h11 : Int)) 0 115).bind fun h13 =>
  (xas h13 3 ((xn h11 : Int)) 1 97).bind fun h14 =>
  (xas h14 3 ((xn h11 : Int)) 2 108).bind fun h15 =>
  (xas h15 3 ((xn h11 : Int)) 3 116).bind fun h16 =>
  (xpf h16 12 11 v0 ((xn h11 : Int))).bind fun h17 =>
  (xna h17 3 6).bind fun h18 =>
  (xas h18 3 ((xn h17 : Int)) 0 104).bind fun h19 =>
  (xas h19 3 ((xn h17 : Int)) 1 111).bind fun h20 =>
  (xas h20 3 ((xn h17 : Int)) 2 108).bind fun h21 =>
  (xas h21 3 ((xn h17 : Int)) 3 100).bind fun h22 =>
  (xas h22 3 ((xn h17 : Int)) 4 101).bind fun h23 =>
  (xas h23 3 ((xn h17 : Int)) 5 114).bind fun h24 =>
  (xpf h24 12 12 v0 ((xn h17 : Int))).bind fun h25 =>
  (xna h25 3 3).bind fun h26 =>
  (xas h26 3 ((xn h25 : Int)) 0 104).bind fun h27 =>
  (xas h27 3 ((xn h25 : Int)) 1 97).bind fun h28 =>
  (xas h28 3 ((xn h25 : Int)) 2 115).bind fun h29 =>
  (xpf h29 12 13 v0 ((xn h25 : Int))).bind fun h30 =>
  (xna h30 3 5).bind fun h31 =>
  (xas h31 3 ((xn h30 : Int)) 0 119).bind fun h32 =>
  (xas h32 3 ((xn h30 : Int)) 1 97).bind fun h33 =>
  (xas h33 3 ((xn h30 : Int)) 2 110).bind fun h34 =>
  (xas h34 3 ((xn h30 : Int)) 3 116).bind fun h35 =>
  (xas h35 3 ((xn h30 : Int)) 4 115).bind fun h36 =>
  (xpf h36 12 14 v0 ((xn h30 : Int))).bind fun h37 =>
  (xna h37 3 5).bind fun h38 =>
  (xas h38 3 ((xn h37 : Int)) 0 112).bind fun h39 =>
  (xas h39 3 ((xn h37 : Int)) 1 117).bind fun h40 =>
  (xas h40 3 ((xn h37 : Int)) 2 114).bind fun h41 =>
  (xas h41 3 ((xn h37 : Int)) 3 115).bind fun h42 =>
  (xas h42 3 ((xn h37 : Int)) 4 101).bind fun h43 =>
  (xpf h43 12 15 v0 ((xn h37 : Int))).bind fun h44 =>
  (xna h44 3 6).bind fun h45 =>
  (xas h45 3 ((xn h44 : Int)) 0 118).bind fun h46 =>
  (xas h46 3 ((xn h44 : Int)) 1 97).bind fun h47 =>
  (xas h47 3 ((xn h44 : Int)) 2 108).bind fun h48 =>
  (xas h48 3 ((xn h44 : Int)) 3 117).bind fun h49 =>
  (xas h49 3 ((xn h44 : Int)) 4 101).bind fun h50 =>
  (xas h50 3 ((xn h44 : Int)) 5 115).bind fun h51 =>
  (xpf h51 12 16 v0 ((xn h44 : Int))).bind fun h52 =>
  (xna h52 3 4).bind fun h53 =>
  (xas h53 3 ((xn h52 : Int)) 0 102).bind fun h54 =>
  (xas h54 3 ((xn h52 : Int)) 1 101).bind fun h55 =>
  (xas h55 3 ((xn h52 : Int)) 2 117).bind fun h56 =>
  (xas h56 3 ((xn h52 : Int)) 3 100).bind fun h57 =>
  (xpf h57 12 17 v0 ((xn h52 : Int))).bind fun h58 =>
  (xna h58 3 6).bind fun h59 =>
  (xas h59 3 ((xn h58 : Int)) 0 115).bind fun h60 =>
  (xas h60 3 ((xn h58 : Int)) 1 105).bind fun h61 =>
  (xas h61 3 ((xn h58 : Int)) 2 115).bind fun h62 =>
  (xas h62 3 ((xn h58 : Int)) 3 116).bind fun h63 =>
  (xas h63 3 ((xn h58 : Int)) 4 101).bind fun h64 =>
  (xas h64 3 ((xn h58 : Int)) 5 114).bind fun h65 =>
  (xpf h65 12 18 v0 ((xn h58 : Int))).bind fun h66 =>
  (xna h66 3 5).bind fun h67 =>
  (xas h67 3 ((xn h66 : Int)) 0 115).bind fun h68 =>
  (xas h68 3 ((xn h66 : Int)) 1 119).bind fun h69 =>
  (xas h69 3 ((xn h66 : Int)) 2 97).bind fun h70 =>
  (xas h70 3 ((xn h66 : Int)) 3 112).bind fun h71 =>
  (xas h71 3 ((xn h66 : Int)) 4 115).bind fun h72 =>
  (xpf h72 12 19 v0 ((xn h66 : Int))).bind fun h73 =>
  (xna h73 3 4).bind fun h74 =>
  (xas h74 3 ((xn h73 : Int)) 0 112).bind fun h75 =>
  (xas h75 3 ((xn h73 : Int)) 1 97).bind fun h76 =>
  (xas h76 3 ((xn h73 : Int)) 2 121).bind fun h77 =>
  (xas h77 3 ((xn h73 : Int)) 3 115).bind fun h78 =>
  (xpf h78 12 20 v0 ((xn h73 : Int))).bind fun h79 =>
  (xna h79 3 3).bind fun h80 =>
  (xas h80 3 ((xn h79 : Int)) 0 102).bind fun h81 =>
  (xas h81 3 ((xn h79 : Int)) 1 111).bind fun h82 =>
  (xas h82 3 ((xn h79 : Int)) 2 103).bind fun h83 =>
  (xpf h83 12 21 v0 ((xn h79 : Int))).bind fun h84 =>
  (xna h84 3 4).bind fun h85 =>
  (xas h85 3 ((xn h84 : Int)) 0 103).bind fun h86 =>
  (xas h86 3 ((xn h84 : Int)) 1 101).bind fun h87 =>
  (xas h87 3 ((xn h84 : Int)) 2 116).bind fun h88 =>
  (xas h88 3 ((xn h84 : Int)) 3 115).bind fun h89 =>
  (xpf h89 12 22 v0 ((xn h84 : Int))).bind fun h90 =>
  (xna h90 3 5).bind fun h91 =>
  (xas h91 3 ((xn h90 : Int)) 0 103).bind fun h92 =>
  (xas h92 3 ((xn h90 : Int)) 1 105).bind fun h93 =>
  (xas h93 3 ((xn h90 : Int)) 2 118).bind fun h94 =>
  (xas h94 3 ((xn h90 : Int)) 3 101).bind fun h95 =>
  (xas h95 3 ((xn h90 : Int)) 4 115).bind fun h96 =>
  (xpf h96 12 23 v0 ((xn h90 : Int))).bind fun h97 =>
  (xna h97 3 3).bind fun h98 =>
  (xas h98 3 ((xn h97 : Int)) 0 109).bind fun h99 =>
  (xas h99 3 ((xn h97 : Int)) 1 101).bind fun h100 =>
  (xas h100 3 ((xn h97 : Int)) 2 116).bind fun h101 =>
  (xpf h101 12 24 v0 ((xn h97 : Int))).bind fun h102 =>
  (xna h102 3 5).bind fun h103 =>
  (xas h103 3 ((xn h102 : Int)) 0 110).bind fun h104 =>
  (xas h104 3 ((xn h102 : Int)) 1 105).bind fun h105 =>
  (xas h105 3 ((xn h102 : Int)) 2 103).bind fun h106 =>
  (xas h106 3 ((xn h102 : Int)) 3 104).bind fun h107 =>
  (xas h107 3 ((xn h102 : Int)) 4 116).bind fun h108 =>
  (xpf h108 12 25 v0 ((xn h102 : Int))).bind fun h109 =>
  (xna h109 3 6).bind fun h110 =>
  (xas h110 3 ((xn h109 : Int)) 0 110).bind fun h111 =>
  (xas h111 3 ((xn h109 : Int)) 1 117).bind fun h112 =>
  (xas h112 3 ((xn h109 : Int)) 2 109).bind fun h113 =>
  (xas h113 3 ((xn h109 : Int)) 3 98).bind fun h114 =>
  (xas h114 3 ((xn h109 : Int)) 4 101).bind fun h115 =>
  (xas h115 3 ((xn h109 : Int)) 5 114).bind fun h116 =>
  (xpf h116 12 26 v0 ((xn h109 : Int))).bind fun h117 =>
  (xna h117 3 2).bind fun h118 =>
  (xas h118 3 ((xn h117 : Int)) 0 111).bind fun h119 =>
  (xas h119 3 ((xn h117 : Int)) 1 114).bind fun h120 =>
  (xpf h120 12 27 v0 ((xn h117 : Int))).bind fun h121 =>
  (xna h121 3 3).bind fun h122 =>
  (xas h122 3 ((xn h121 : Int)) 0 97).bind fun h123 =>
  (xas h123 3 ((xn h121 : Int)) 1 110).bind fun h124 =>
  (xas h124 3 ((xn h121 : Int)) 2 100).bind fun h125 =>
  (xpf h125 12 28 v0 ((xn h121 : Int))).bind fun h126 =>
  (xna h126 3 3).bind fun h127 =>
  (xas h127 3 ((xn h126 : Int)) 0 110).bind fun h128 =>
  (xas h128 3 ((xn h126 : Int)) 1 111).bind fun h129 =>
  (xas h129 3 ((xn h126 : Int)) 2 116).bind fun h130 =>
  (xpf h130 12 29 v0 ((xn h126 : Int))).bind fun h131 =>
  (xna h131 3 3).bind fun h132 =>
  (xas h132 3 ((xn h131 : Int)) 0 97).bind fun h133 =>
  (xas h133 3 ((xn h131 : Int)) 1 108).bind fun h134 =>
  (xas h134 3 ((xn h131 : Int)) 2 108).bind fun h135 =>
  (xpf h135 12 30 v0 ((xn h131 : Int))).bind fun h136 =>
  (xna h136 3 3).bind fun h137 =>
  (xas h137 3 ((xn h136 : Int)) 0 109).bind fun h138 =>
  (xas h138 3 ((xn h136 : Int)) 1 105).bind fun h139 =>
  (xas h139 3 ((xn h136 : Int)) 2 110).bind fun h140 =>
  (xpf h140 12 31 v0 ((xn h136 : Int))).bind fun h141 =>
  (xna h141 3 3).bind fun h142 =>
  (xas h142 3 ((xn h141 : Int)) 0 109).bind fun h143 =>
  (xas h143 3 ((xn h141 : Int)) 1 97).bind fun h144 =>
  (xas h144 3 ((xn h141 : Int)) 2 120).bind fun h145 =>
  (xpf h145 12 32 v0 ((xn h141 : Int))).bind fun h146 =>
  (xna h146 0 6).bind fun h147 =>
  (xpf h147 12 34 v0 ((xn h146 : Int))).bind fun h148 =>
  (xna h148 1 24).bind fun h149 =>
  (xpf h149 12 35 v0 ((xn h148 : Int))).bind fun h150 =>
  (xna h150 0 12).bind fun h151 =>
  (xpf h151 12 36 v0 ((xn h150 : Int))).bind fun h152 =>
  (xna h152 0 12).bind fun h153 =>
  (xpf h153 12 37 v0 ((xn h152 : Int))).bind fun h154 =>
  (xna h154 0 6).bind fun h155 =>
  (xpf h155 12 38 v0 ((xn h154 : Int))).bind fun h156 =>
  (xna h156 0 6).bind fun h157 =>
  (xpf h157 12 39 v0 ((xn h156 : Int))).bind fun h158 =>
  (xna h158 0 6).bind fun h159 =>
  (xpf h159 12 40 v0 ((xn h158 : Int))).bind fun h160 =>
  (xna h160 0 72).bind fun h161 =>
  (xpf h161 12 41 v0 ((xn h160 : Int))).bind fun h162 =>
  (xna h162 0 12).bind fun h163 =>
  (xpf h163 12 42 v0 ((xn h162 : Int))).bind fun h164 =>
  (xna h164 0 2).bind fun h165 =>
  (xpf h165 12 43 v0 ((xn h164 : Int))).bind fun h166 =>
  (xna h166 0 4).bind fun h167 =>
  (xas h167 0 ((xn h166 : Int)) 0 ((-1))).bind fun h168 =>
  (xas h168 0 ((xn h166 : Int)) 1 ((-1))).bind fun h169 =>
  (xas h169 0 ((xn h166 : Int)) 2 ((-1))).bind fun h170 =>
  (xas h170 0 ((xn h166 : Int)) 3 ((-1))).bind fun h171 =>
  (xpf h171 12 44 v0 ((xn h166 : Int))).bind fun h172 =>
  (xna h172 0 4).bind fun h173 =>
  (xpf h173 12 45 v0 ((xn h172 : Int))).bind fun h174 =>
  (xna h174 0 3200).bind fun h175 =>
  (xpf h175 12 46 v0 ((xn h174 : Int))).bind fun h176 =>
  (xna h176 0 176).bind fun h177 =>
  (xpf h177 12 50 v0 ((xn h176 : Int))).bind fun h178 =>
  (xna h178 0 6).bind fun h179 =>
  (xpf h179 12 55 v0 ((xn h178 : Int))).bind fun h180 =>
  (xna h180 0 6).bind fun h181 =>
  (xpf h181 12 58 v0 ((xn h180 : Int))).bind fun h182 =>
  (xna h182 0 6).bind fun h183 =>
  (xpf h183 12 59 v0 ((xn h182 : Int))).bind fun h184 =>
  (xna h184 0 46656).bind fun h185 =>
  (xpf h185 12 63 v0 ((xn h184 : Int))).bind fun h186 =>
  (xna h186 0 720).bind fun h187 =>
  (xpf h187 12 64 v0 ((xn h186 : Int))).bind fun h188 =>
  (xna h188 0 6).bind fun h189 =>
  (xpf h189 12 66 v0 ((xn h188 : Int))).bind fun h190 =>
  (xna h190 0 6).bind fun h191 =>
  (xpf h191 12 67 v0 ((xn h190 : Int))).bind fun h192 =>
  (xna h192 0 6).bind fun h193 =>
  (xpf h193 12 68 v0 ((xn h192 : Int))).bind fun h194 =>
  (xna h194 0 6).bind fun h195 =>
  (xpf h195 12 69 v0 ((xn h194 : Int))).bind fun h196 =>
  (xna h196 0 60).bind fun h197 =>
  (xpf h197 12 71 v0 ((xn h196 : Int))).bind fun h198 =>
  (xna h198 0 36).bind fun h199 =>
  (xpf h199 12 72 v0 ((xn h198 : Int))).bind fun h200 =>
  (xna h200 0 3520).bind fun h201 =>
  (xpf h201 12 73 v0 ((xn h200 : Int))).bind fun h202 =>
  (xpf h202 12 76 v0 1).bind fun h203 =>
  (xna h203 3 5).bind fun h204 =>
  (xas h204 3 ((xn h203 : Int)) 0 102).bind fun h205 =>
  (xas h205 3 ((xn h203 : Int)) 1 105).bind fun h206 =>
  (xas h206 3 ((xn h203 : Int)) 2 114).bind fun h207 =>
  (xas h207 3 ((xn h203 : Int)) 3 115).bind fun h208 =>
  (xas h208 3 ((xn h203 : Int)) 4 116).bind fun h209 =>
  (xpf h209 12 77 v0 ((xn h203 : Int))).bind fun h210 =>
  (xna h210 3 4).bind fun h211 =>
  (xas h211 3 ((xn h210 : Int)) 0 108).bind fun h212 =>
  (xas h212 3 ((xn h210 : Int)) 1 97).bind fun h213 =>
  (xas h213 3 ((xn h210 : Int)) 2 115).bind fun h214 =>
  (xas h214 3 ((xn h210 : Int)) 3 116).bind fun h215 =>
  (xpf h215 12 78 v0 ((xn h210 : Int))).bind fun h216 =>
  (xna h216 3 5).bind fun h217 =>
  (xas h217 3 ((xn h216 : Int)) 0 111).bind fun h218 =>
  (xas h218 3 ((xn h216 : Int)) 1 102).bind fun h219 =>
  (xas h219 3 ((xn h216 : Int)) 2 116).bind fun h220 =>
  (xas h220 3 ((xn h216 : Int)) 3 101).bind fun h221 =>
  (xas h221 3 ((xn h216 : Int)) 4 110).bind fun h222 =>
  (xpf h222 12 79 v0 ((xn h216 : Int))).bind fun h223 =>
  (xna h223 3 5).bind fun h224 =>
  (xas h224 3 ((xn h223 : Int)) 0 116).bind fun h225 =>
  (xas h225 3 ((xn h223 : Int)) 1 111).bind fun h226 =>
  (xas h226 3 ((xn h223 : Int)) 2 116).bind fun h227 =>
  (xas h227 3 ((xn h223 : Int)) 3 97).bind fun h228 =>
  (xas h228 3 ((xn h223 : Int)) 4 108).bind fun h229 =>
  (xpf h229 12 80 v0 ((xn h223 : Int))).bind fun h230 =>
  (xna h230 3 4).bind fun h231 =>
  (xas h231 3 ((xn h230 : Int)) 0 109).bind fun h232 =>
  (xas h232 3 ((xn h230 : Int)) 1 111).bind fun h233 =>
  (xas h233 3 ((xn h230 : Int)) 2 115).bind fun h234 =>
  (xas h234 3 ((xn h230 : Int)) 3 116).bind fun h235 =>
  (xpf h235 12 81 v0 ((xn h230 : Int))).bind fun h236 =>
  (xna h236 3 5).bind fun h237 =>
  (xas h237 3 ((xn h236 : Int)) 0 108).bind fun h238 =>
  (xas h238 3 ((xn h236 : Int)) 1 101).bind fun h239 =>
  (xas h239 3 ((xn h236 : Int)) 2 97).bind fun h240 =>
  (xas h240 3 ((xn h236 : Int)) 3 115).bind fun h241 =>
  (xas h241 3 ((xn h236 : Int)) 4 116).bind fun h242 =>
  (xpf h242 12 82 v0 ((xn h236 : Int))).bind fun h243 =>
  (xna h243 3 3).bind fun h244 =>
  (xas h244 3 ((xn h243 : Int)) 0 110).bind fun h245 =>
  (xas h245 3 ((xn h243 : Int)) 1 111).bind fun h246 =>
  (xas h246 3 ((xn h243 : Int)) 2 116).bind fun h247 =>
  (xpf h247 12 83 v0 ((xn h243 : Int))).bind fun h248 =>
  (xna h248 3 3).bind fun h249 =>
  (xas h249 3 ((xn h248 : Int)) 0 97).bind fun h250 =>
  (xas h250 3 ((xn h248 : Int)) 1 110).bind fun h251 =>
  (xas h251 3 ((xn h248 : Int)) 2 100).bind fun h252 =>
  (xpf h252 12 84 v0 ((xn h248 : Int))).bind fun h253 =>
  (xna h253 3 2).bind fun h254 =>
  (xas h254 3 ((xn h253 : Int)) 0 111).bind fun h255 =>
  (xas h255 3 ((xn h253 : Int)) 1 114).bind fun h256 =>
  (xpf h256 12 85 v0 ((xn h253 : Int))).bind fun h257 =>
  (xna h257 3 3).bind fun h258 =>
  (xas h258 3 ((xn h257 : Int)) 0 97).bind fun h259 =>
  (xas h259 3 ((xn h257 : Int)) 1 108).bind fun h260 =>
  (xas h260 3 ((xn h257 : Int)) 2 108).bind fun h261 =>
  (xpf h261 12 86 v0 ((xn h257 : Int))).bind fun h262 =>
  (xna h262 3 3).bind fun h263 =>
  (xas h263 3 ((xn h262 : Int)) 0 109).bind fun h264 =>
  (xas h264 3 ((xn h262 : Int)) 1 105).bind fun h265 =>
  (xas h265 3 ((xn h262 : Int)) 2 110).bind fun h266 =>
  (xpf h266 12 87 v0 ((xn h262 : Int))).bind fun h267 =>
  (xna h267 3 3).bind fun h268 =>
  (xas h268 3 ((xn h267 : Int)) 0 109).bind fun h269 =>
  (xas h269 3 ((xn h267 : Int)) 1 97).bind fun h270 =>
  (xas h270 3 ((xn h267 : Int)) 2 120).bind fun h271 =>
  (xpf h271 12 88 v0 ((xn h267 : Int))).bind fun h272 =>
  (xna h272 3 4).bind fun h273 =>
  (xas h273 3 ((xn h272 : Int)) 0 103).bind fun h274 =>
  (xas h274 3 ((xn h272 : Int)) 1 101).bind fun h275 =>
  (xas h275 3 ((xn h272 : Int)) 2 116).bind fun h276 =>
  (xas h276 3 ((xn h272 : Int)) 3 115).bind fun h277 =>
  (xpf h277 12 89 v0 ((xn h272 : Int))).bind fun h278 =>
  (xna h278 3 5).bind fun h279 =>
  (xas h279 3 ((xn h278 : Int)) 0 103).bind fun h280 =>
  (xas h280 3 ((xn h278 : Int)) 1 105).bind fun h281 =>
  (xas h281 3 ((xn h278 : Int)) 2 118).bind fun h282 =>
  (xas h282 3 ((xn h278 : Int)) 3 101).bind fun h283 =>
  (xas h283 3 ((xn h278 : Int)) 4 115).bind fun h284 =>
  (xpf h284 12 90 v0 ((xn h278 : Int))).bind fun h285 =>
  (xna h285 3 5).bind fun h286 =>
  (xas h286 3 ((xn h285 : Int)) 0 119).bind fun h287 =>
  (xas h287 3 ((xn h285 : Int)) 1 97).bind fun h288 =>
  (xas h288 3 ((xn h285 : Int)) 2 110).bind fun h289 =>
  (xas h289 3 ((xn h285 : Int)) 3 116).bind fun h290 =>
  (xas h290 3 ((xn h285 : Int)) 4 115).bind fun h291 =>
  (xpf h291 12 91 v0 ((xn h285 : Int))).bind fun h292 =>
  (xna h292 3 4).bind fun h293 =>
  (xas h293 3 ((xn h292 : Int)) 0 115).bind fun h294 =>
  (xas h294 3 ((xn h292 : Int)) 1 97).bind fun h295 =>
  (xas h295 3 ((xn h292 : Int)) 2 108).bind fun h296 =>
  (xas h296 3 ((xn h292 : Int)) 3 116).bind fun h297 =>
  (xpf h297 12 92 v0 ((xn h292 : Int))).bind fun h298 =>
  (xna h298 3 3).bind fun h299 =>
  (xas h299 3 ((xn h298 : Int)) 0 109).bind fun h300 =>
  (xas h300 3 ((xn h298 : Int)) 1 101).bind fun h301 =>
  (xas h301 3 ((xn h298 : Int)) 2 116).bind fun h302 =>
  (xpf h302 12 93 v0 ((xn h298 : Int))).bind fun h303 =>
  (xna h303 3 5).bind fun h304 =>
  (xas h304 3 ((xn h303 : Int)) 0 112).bind fun h305 =>
  (xas h305 3 ((xn h303 : Int)) 1 117).bind fun h306 =>
  (xas h306 3 ((xn h303 : Int)) 2 114).bind fun h307 =>
  (xas h307 3 ((xn h303 : Int)) 3 115).bind fun h308 =>
  (xas h308 3 ((xn h303 : Int)) 4 101).bind fun h309 =>
  (xpf h309 12 94 v0 ((xn h303 : Int))).bind fun h310 =>
  (xna h310 3 5).bind fun h311 =>
  (xas h311 3 ((xn h310 : Int)) 0 110).bind fun h312 =>
  (xas h312 3 ((xn h310 : Int)) 1 105).bind fun h313 =>
  (xas h313 3 ((xn h310 : Int)) 2 103).bind fun h314 =>
  (xas h314 3 ((xn h310 : Int)) 3 104).bind fun h315 =>
  (xas h315 3 ((xn h310 : Int)) 4 116).bind fun h316 =>
  (xpf h316 12 95 v0 ((xn h310 : Int))).bind fun h317 =>
  (xna h317 3 6).bind fun h318 =>
  (xas h318 3 ((xn h317 : Int)) 0 110).bind fun h319 =>
  (xas h319 3 ((xn h317 : Int)) 1 117).bind fun h320 =>
  (xas h320 3 ((xn h317 : Int)) 2 109).bind fun h321 =>
  (xas h321 3 ((xn h317 : Int)) 3 98).bind fun h322 =>
  (xas h322 3 ((xn h317 : Int)) 4 101).bind fun h323 =>
  (xas h323 3 ((xn h317 : Int)) 5 114).bind fun h324 =>
  (xpf h324 12 96 v0 ((xn h317 : Int))).bind fun h325 =>
  (xna h325 0 1700).bind fun h326 =>
  (xpf h326 12 97 v0 ((xn h325 : Int))).bind fun h327 =>
  (xna h327 0 1700).bind fun h328 =>
  (xpf h328 12 99 v0 ((xn h327 : Int))).bind fun h329 =>
  (xna h329 1 1700).bind fun h330 =>
  (xpf h330 12 103 v0 ((xn h329 : Int))).bind fun h331 =>
  (xna h331 0 63).bind fun h332 =>
  (xpf h332 12 107 v0 ((xn h331 : Int))).bind fun h333 =>
  some h333
def f_X12_fail (v0 v1 v2 : Int) (h : xa_H) : Option (xa_H) :=
  (xgf h 12 5 v0).bind fun x1 =>
  if x1 = 0 then
    (xpf h 12 5 v0 v1).bind fun h3 =>
    (xpf h3 12 6 v0 v2).bind fun h4 =>
    some h4
  else
    some h
def f_X12_holderMany (v0 : Int) (h : xa_H) : Option (Int) :=
  (xgf h 12 34 v0).bind fun x1 =>
  (xal h 0 x1 4).bind fun x2 =>
  some x2
def f_X12_look_L0 (c0 : Int) (h : xa_H) : Option ((xa_H) ⊕ (xa_H)) :=
  (xgf h 12 2 c0).bind fun x1 =>
  (xgf h 12 3 c0).bind fun x2 =>
  if x1 < x2 then
    (xgf h 12 0 c0).bind fun x4 =>
    (xgf h 12 2 c0).bind fun x5 =>
    (xal h 0 x4 x5).bind fun x6 =>
    if x6 = 10 then
      (xgf h 12 2 c0).bind fun x8 =>
      (xpf h 12 2 c0 (w32 (x8 + 1))).bind fun h9 =>
      some (Sum.inl h9)
    else
      (xgf h 12 0 c0).bind fun x10 =>
      (xgf h 12 2 c0).bind fun x11 =>
      (xal h 0 x10 x11).bind fun x12 =>
      if x12 = 32 then
        (xgf h 12 2 c0).bind fun x14 =>
        (xpf h 12 2 c0 (w32 (x14 + 1))).bind fun h15 =>
        some (Sum.inl h15)
      else
        some (Sum.inr h)
  else
    some (Sum.inr h)
def f_X12_look_J52 (v0 : Int) (h : xa_H) : Option (Int × xa_H) :=
  (xgf h 12 2 v0).bind fun x17 =>
  (xgf h 12 3 v0).bind fun x18 =>
  if x17 < x18 then
    (xgf h 12 0 v0).bind fun x20 =>
    (xgf h 12 2 v0).bind fun x21 =>
    (xal h 0 x20 x21).bind fun x22 =>
    some ((x22, h))
  else
    some (((-1), h))
def f_X12_look (v0 : Int) (h : xa_H) : Option (Int × xa_H) :=
  (xit (fun s => f_X12_look_L0 v0 s) xFU h).bind fun e16 =>
  f_X12_look_J52 v0 e16
def f_X12_isLetter (v0 : Int) (h : xa_H) : Option (Int) :=
  if v0 < 97 then
    some 0
  else
    if 122 < v0 then
      some 0
    else
      some 1
def f_X12_isHere_L35 (c0 c1 : Int) (h : xa_H) (v2 : Int) : Option ((Int) ⊕ (Int)) :=
  (xgf h 12 3 c0).bind fun x10 =>
  if v2 < x10 then
    (xgf h 12 0 c0).bind fun x12 =>
    (xal h 0 x12 v2).bind fun x13 =>
    (f_X12_isLetter x13 h).bind fun r14 =>
    if r14 = 0 then
      some (Sum.inr v2)
    else
      some (Sum.inl (w32 (v2 + 1)))
  else
    some (Sum.inr v2)
def f_X12_isHere_L76 (c0 c1 : Int) (h : xa_H) (v3 : Int) : Option ((Int) ⊕ ((Int × xa_H) ⊕ (Unit))) :=
  (xln h c1).bind fun x20 =>
  if v3 < x20 then
    (xgf h 12 0 c0).bind fun x22 =>
    (xgf h 12 2 c0).bind fun x23 =>
    (xal h 0 x22 (w32 (x23 + v3))).bind fun x24 =>
    (xal h 3 c1 v3).bind fun x25 =>
    if x24 = x25 then
      some (Sum.inl (w32 (v3 + 1)))
    else
      some (Sum.inr (Sum.inl ((0, h))))
  else
    some (Sum.inr (Sum.inr (())))
def f_X12_isHere_J61 (v0 v1 v2 : Int) (h : xa_H) : Option (Int × xa_H) :=
  (xgf h 12 2 v0).bind fun x17 =>
  (xln h v1).bind fun x18 =>
  if w32 (v2 - x17) = x18 then
    (xit (fun s => f_X12_isHere_L76 v0 v1 h s) xFU 0).bind fun e27 =>
    xel e27 (fun r => some r) (fun y28 =>
      some ((1, h)))
  else
    some ((0, h))
def f_X12_isHere (v0 v1 : Int) (h : xa_H) : Option (Int × xa_H) :=
  (xgf h 12 5 v0).bind fun x1 =>
  if x1 = 0 then
    (xrc h 12 v0 (f_X12_look v0 h)).bind fun r3 =>
    (f_X12_isLetter r3.1 r3.2).bind fun r4 =>
    if r4 = 0 then
      some ((0, r3.2))
    else
      (xgf r3.2 12 2 v0).bind fun x6 =>
      (xgf r3.2 12 4 v0).bind fun x7 =>
      if x6 = x7 then
        some ((0, r3.2))
      else
        (xgf r3.2 12 2 v0).bind fun x9 =>
        (xit (fun s => f_X12_isHere_L35 v0 v1 r3.2 s) xFU x9).bind fun e16 =>
        f_X12_isHere_J61 v0 v1 e16 r3.2
  else
    some ((0, h))
def f_X12_takes (v0 v1 : Int) (h : xa_H) : Option (Int × xa_H) :=
  (xrc h 12 v0 (f_X12_isHere v0 v1 h)).bind fun r1 =>
  if r1.1 = 0 then
    some ((0, r1.2))
  else
    (xgf r1.2 12 2 v0).bind fun x3 =>
    (xln r1.2 v1).bind fun x4 =>
    (xpf r1.2 12 2 v0 (w32 (x3 + x4))).bind fun h5 =>
    (xgf h5 12 2 v0).bind fun x6 =>
    (xpf h5 12 4 v0 x6).bind fun h7 =>
    some ((1, h7))
def f_X12_asks (v0 v1 : Int) (h : xa_H) : Option (xa_H) :=
  (xgf h 12 5 v0).bind fun x1 =>
  if x1 = 0 then
    (xrc h 12 v0 (f_X12_takes v0 v1 h)).bind fun r3 =>
    if r3.1 = 0 then
      (xgf r3.2 12 2 v0).bind fun x5 =>
      (xrc r3.2 12 v0 (f_X12_fail v0 1 x5 r3.2)).bind fun r6 =>
      some r6
    else
      some r3.2
  else
    some h
def f_X12_qKind_J76 (v0 s0 : Int) (h : xa_H) : Option (Int × xa_H) :=
  if s0 = 5 then
    (xgf h 12 82 v0).bind fun x17 =>
    (xrc h 12 v0 (f_X12_asks v0 x17 h)).bind fun r18 =>
    some ((s0, r18))
  else
    some ((s0, h))
def f_X12_qKind (v0 : Int) (h : xa_H) : Option (Int × xa_H) :=
  (xgf h 12 77 v0).bind fun x1 =>
  (xrc h 12 v0 (f_X12_takes v0 x1 h)).bind fun r2 =>
  if r2.1 = 0 then
    (xgf r2.2 12 78 v0).bind fun x4 =>
    (xrc r2.2 12 v0 (f_X12_takes v0 x4 r2.2)).bind fun r5 =>
    if r5.1 = 0 then
      (xgf r5.2 12 79 v0).bind fun x7 =>
      (xrc r5.2 12 v0 (f_X12_takes v0 x7 r5.2)).bind fun r8 =>
      if r8.1 = 0 then
        (xgf r8.2 12 80 v0).bind fun x10 =>
        (xrc r8.2 12 v0 (f_X12_takes v0 x10 r8.2)).bind fun r11 =>
        if r11.1 = 0 then
          (xgf r11.2 12 81 v0).bind fun x13 =>
          (xrc r11.2 12 v0 (f_X12_takes v0 x13 r11.2)).bind fun r14 =>
          if r14.1 = 0 then
            f_X12_qKind_J76 v0 5 r14.2
          else
            f_X12_qKind_J76 v0 4 r14.2
        else
          f_X12_qKind_J76 v0 3 r11.2
      else
        f_X12_qKind_J76 v0 2 r8.2
    else
      f_X12_qKind_J76 v0 1 r5.2
  else
    f_X12_qKind_J76 v0 0 r2.2
def f_X12_qCode (v0 v1 : Int) (h : xa_H) : Option (xa_H) :=
  (xgf h 12 97 v0).bind fun x1 =>
  (xgf h 12 98 v0).bind fun x2 =>
  (xas h 0 x1 x2 v1).bind fun h3 =>
  (xgf h3 12 98 v0).bind fun x4 =>
  (xpf h3 12 98 v0 (w32 (x4 + 1))).bind fun h5 =>
  some h5
def f_X12_qDrops (v0 : Int) (h : xa_H) : Option (xa_H) :=
  (xgf h 12 100 v0).bind fun x1 =>
  (xpf h 12 100 v0 (w32 (x1 - 1))).bind fun h2 =>
  (xgf h2 12 99 v0).bind fun x3 =>
  (xgf h2 12 100 v0).bind fun x4 =>
  (xal h2 0 x3 x4).bind fun x5 =>
  (xrc h2 12 v0 (f_X12_qCode v0 x5 h2)).bind fun r6 =>
  some r6
def f_X12_takesSign (v0 v1 : Int) (h : xa_H) : Option (Int × xa_H) :=
  (xgf h 12 5 v0).bind fun x1 =>
  if x1 = 0 then
    (xrc h 12 v0 (f_X12_look v0 h)).bind fun r3 =>
    if r3.1 = v1 then
      (xgf r3.2 12 2 v0).bind fun x5 =>
      (xpf r3.2 12 2 v0 (w32 (x5 + 1))).bind fun h6 =>
      some ((1, h6))
    else
      some ((0, r3.2))
  else
    some ((0, h))
def f_X12_asksSign (v0 v1 : Int) (h : xa_H) : Option (xa_H) :=
  (xgf h 12 5 v0).bind fun x1 =>
  if x1 = 0 then
    (xrc h 12 v0 (f_X12_takesSign v0 v1 h)).bind fun r3 =>
    if r3.1 = 0 then
      (xgf r3.2 12 2 v0).bind fun x5 =>
      (xrc r3.2 12 v0 (f_X12_fail v0 1 x5 r3.2)).bind fun r6 =>
      some r6
    else
      some r3.2
  else
    some h
def f_X12_qIsBracket (v0 : Int) (h : xa_H) : Option (Int) :=
  if v0 < 20 then
    some 0
  else
    if 24 < v0 then
      some 0
    else
      some 1
def f_X12_qBracket_L7 (c0 : Int) (h : xa_H) (v1 : Int) : Option ((Int) ⊕ (Int)) :=
  (xgf h 12 102 c0).bind fun x2 =>
  if v1 < x2 then
    some (Sum.inr v1)
  else
    (xgf h 12 99 c0).bind fun x4 =>
    (xal h 0 x4 v1).bind fun x5 =>
    (f_X12_qIsBracket x5 h).bind fun r6 =>
    if r6 = 0 then
      some (Sum.inl (w32 (v1 + (-1))))
    else
      some (Sum.inr v1)
def f_X12_qBracket_J33 (v0 v1 : Int) (h : xa_H) : Option (Int) :=
  (xgf h 12 102 v0).bind fun x9 =>
  if v1 < x9 then
    some ((-1))
  else
    (xgf h 12 99 v0).bind fun x11 =>
    (xal h 0 x11 v1).bind fun x12 =>
    some x12
def f_X12_qBracket (v0 : Int) (h : xa_H) : Option (Int) :=
  (xgf h 12 100 v0).bind fun x1 =>
  (xit (fun s => f_X12_qBracket_L7 v0 h s) xFU (w32 (x1 - 1))).bind fun e8 =>
  f_X12_qBracket_J33 v0 e8 h
def f_X12_qDropsToBracket_L0 (c0 : Int) (h : xa_H) : Option ((xa_H) ⊕ (xa_H)) :=
  (xgf h 12 100 c0).bind fun x1 =>
  (xgf h 12 102 c0).bind fun x2 =>
  if x2 < x1 then
    (xgf h 12 99 c0).bind fun x4 =>
    (xgf h 12 100 c0).bind fun x5 =>
    (xal h 0 x4 (w32 (x5 - 1))).bind fun x6 =>
    (f_X12_qIsBracket x6 h).bind fun r7 =>
    if r7 = 0 then
      (xrc h 12 c0 (f_X12_qDrops c0 h)).bind fun r9 =>
      some (Sum.inl r9)
    else
      some (Sum.inr h)
  else
    some (Sum.inr h)
def f_X12_qDropsToBracket (v0 : Int) (h : xa_H) : Option (xa_H) :=
  (xit (fun s => f_X12_qDropsToBracket_L0 v0 s) xFU h).bind fun e10 =>
  some e10
def f_X12_qEndsPart_L0 (c0 : Int) (h : xa_H) : Option ((xa_H) ⊕ (xa_H)) :=
  (xgf h 12 5 c0).bind fun x1 =>
  if x1 = 0 then
    (xgf h 12 100 c0).bind fun x3 =>
    (xgf h 12 102 c0).bind fun x4 =>
    if x4 < x3 then
      (xgf h 12 99 c0).bind fun x6 =>
      (xgf h 12 100 c0).bind fun x7 =>
      (xal h 0 x6 (w32 (x7 - 1))).bind fun x8 =>
      if x8 < 60 then
        some (Sum.inr h)
      else
        (xgf h 12 101 c0).bind fun x10 =>
        (xpf h 12 101 c0 (w32 (x10 - 1))).bind fun h11 =>
        (xrc h11 12 c0 (f_X12_qDrops c0 h11)).bind fun r12 =>
        some (Sum.inl r12)
    else
      some (Sum.inr h)
  else
    some (Sum.inr h)
def f_X12_qEndsPart (v0 : Int) (h : xa_H) : Option (xa_H) :=
  (xit (fun s => f_X12_qEndsPart_L0 v0 s) xFU h).bind fun e13 =>
  some e13
def f_X12_qIsOn (v0 v1 : Int) (h : xa_H) : Option (Int) :=
  (xgf h 12 100 v0).bind fun x1 =>
  if 0 < x1 then
    (xgf h 12 99 v0).bind fun x3 =>
    (xgf h 12 100 v0).bind fun x4 =>
    (xal h 0 x3 (w32 (x4 - 1))).bind fun x5 =>
    if x5 = v1 then
      some 1
    else
      some 0
  else
    some 0
def f_X12_qGoesOn_J115L0 (c0 : Int) (h : xa_H) : Option ((xa_H) ⊕ (xa_H)) :=
  (xrc h 12 c0 (f_X12_qEndsPart c0 h)).bind fun r18 =>
  some (Sum.inl r18)
def f_X12_qGoesOn_J112L0 (c0 s0 s1 : Int) (h : xa_H) : Option ((xa_H) ⊕ (xa_H)) :=
  (xrc h 12 s0 (f_X12_qCode s0 s1 h)).bind fun r23 =>
  f_X12_qGoesOn_J115L0 c0 r23
def f_X12_qGoesOn_J43L0 (c0 : Int) (h : xa_H) : Option ((xa_H) ⊕ (xa_H)) :=
  (xgf h 12 2 c0).bind fun x7 =>
  (xpf h 12 2 c0 (w32 (x7 + 1))).bind fun h8 =>
  (xrc h8 12 c0 (f_X12_qDropsToBracket c0 h8)).bind fun r9 =>
  (xgf r9 12 100 c0).bind fun x10 =>
  (xpf r9 12 100 c0 (w32 (x10 - 1))).bind fun h11 =>
  (xgf h11 12 101 c0).bind fun x12 =>
  (xpf h11 12 101 c0 (w32 (x12 - 1))).bind fun h13 =>
  (xgf h13 12 99 c0).bind fun x14 =>
  (xgf h13 12 100 c0).bind fun x15 =>
  (xal h13 0 x14 x15).bind fun x16 =>
  if x16 = 20 then
    f_X12_qGoesOn_J115L0 c0 h13
  else
    (xgf h13 12 99 c0).bind fun x19 =>
    (xgf h13 12 100 c0).bind fun x20 =>
    (xal h13 0 x19 x20).bind fun x21 =>
    if x21 = 23 then
      f_X12_qGoesOn_J112L0 c0 c0 5 h13
    else
      f_X12_qGoesOn_J112L0 c0 c0 6 h13
def f_X12_qGoesOn_L0 (c0 : Int) (h : xa_H) : Option ((xa_H) ⊕ (xa_H)) :=
  (xgf h 12 5 c0).bind fun x1 =>
  if x1 = 0 then
    (xrc h 12 c0 (f_X12_look c0 h)).bind fun r3 =>
    if r3.1 = 41 then
      (xrc r3.2 12 c0 (f_X12_qBracket c0 r3.2)).bind fun r5 =>
      if r5 = 20 then
        f_X12_qGoesOn_J43L0 c0 r3.2
      else
        (xrc r3.2 12 c0 (f_X12_qBracket c0 r3.2)).bind fun r24 =>
        if r24 = 23 then
          f_X12_qGoesOn_J43L0 c0 r3.2
        else
          (xrc r3.2 12 c0 (f_X12_qBracket c0 r3.2)).bind fun r26 =>
          if r26 = 24 then
            f_X12_qGoesOn_J43L0 c0 r3.2
          else
            some (Sum.inr r3.2)
    else
      some (Sum.inr r3.2)
  else
    some (Sum.inr h)
def f_X12_qGoesOn_J326 (v0 : Int) (h : xa_H) : Option (Int × xa_H) :=
  (xrc h 12 v0 (f_X12_asksSign v0 44 h)).bind fun r39 =>
  (xgf r39 12 5 v0).bind fun x40 =>
  if x40 = 0 then
    (xrc r39 12 v0 (f_X12_qDropsToBracket v0 r39)).bind fun r42 =>
    (xgf r42 12 99 v0).bind fun x43 =>
    (xgf r42 12 100 v0).bind fun x44 =>
    (xal r42 0 x43 (w32 (x44 - 1))).bind fun x45 =>
    (xas r42 0 x43 (w32 (x44 - 1)) (w32 (x45 + 2))).bind fun h46 =>
    some ((1, h46))
  else
    some ((0, r39))
def f_X12_qGoesOn_J279L247 (c0 c1 : Int) (h : xa_H) : Option ((xa_H) ⊕ (xa_H)) :=
  (xrc h 12 c0 (f_X12_qDrops c0 h)).bind fun r67 =>
  some (Sum.inl r67)
def f_X12_qGoesOn_L247 (c0 c1 : Int) (h : xa_H) : Option ((xa_H) ⊕ (xa_H)) :=
  (xrc h 12 c0 (f_X12_qIsOn c0 3 h)).bind fun r59 =>
  if r59 = 0 then
    (xrc h 12 c0 (f_X12_qIsOn c0 4 h)).bind fun r61 =>
    if r61 = 0 then
      (xrc h 12 c0 (f_X12_qIsOn c0 1 h)).bind fun r63 =>
      if r63 = 0 then
        (xrc h 12 c0 (f_X12_qIsOn c0 2 h)).bind fun r65 =>
        if r65 = 0 then
          some (Sum.inr h)
        else
          f_X12_qGoesOn_J279L247 c0 c1 h
      else
        f_X12_qGoesOn_J279L247 c0 c1 h
    else
      f_X12_qGoesOn_J279L247 c0 c1 h
  else
    f_X12_qGoesOn_J279L247 c0 c1 h
def f_X12_qGoesOn_J246 (v0 s0 : Int) (h : xa_H) : Option (Int × xa_H) :=
  (xit (fun s => f_X12_qGoesOn_L247 v0 s0 s) xFU h).bind fun e68 =>
  (xgf e68 12 99 v0).bind fun x69 =>
  (xgf e68 12 100 v0).bind fun x70 =>
  (xas e68 0 x69 x70 s0).bind fun h71 =>
  (xgf h71 12 100 v0).bind fun x72 =>
  (xpf h71 12 100 v0 (w32 (x72 + 1))).bind fun h73 =>
  some ((1, h73))
def f_X12_qGoesOn_J225 (v0 : Int) (h : xa_H) : Option (Int × xa_H) :=
  (xgf h 12 0 v0).bind fun x55 =>
  (xgf h 12 2 v0).bind fun x56 =>
  (xal h 0 x55 (w32 (x56 - 1))).bind fun x57 =>
  if x57 = 43 then
    f_X12_qGoesOn_J246 v0 1 h
  else
    f_X12_qGoesOn_J246 v0 2 h
def f_X12_qGoesOn_J178L162 (c0 c1 : Int) (h : xa_H) : Option ((xa_H) ⊕ (xa_H)) :=
  (xrc h 12 c0 (f_X12_qDrops c0 h)).bind fun r82 =>
  some (Sum.inl r82)
def f_X12_qGoesOn_L162 (c0 c1 : Int) (h : xa_H) : Option ((xa_H) ⊕ (xa_H)) :=
  (xrc h 12 c0 (f_X12_qIsOn c0 3 h)).bind fun r78 =>
  if r78 = 0 then
    (xrc h 12 c0 (f_X12_qIsOn c0 4 h)).bind fun r80 =>
    if r80 = 0 then
      some (Sum.inr h)
    else
      f_X12_qGoesOn_J178L162 c0 c1 h
  else
    f_X12_qGoesOn_J178L162 c0 c1 h
def f_X12_qGoesOn_J161 (v0 s0 : Int) (h : xa_H) : Option (Int × xa_H) :=
  (xit (fun s => f_X12_qGoesOn_L162 v0 s0 s) xFU h).bind fun e83 =>
  (xgf e83 12 99 v0).bind fun x84 =>
  (xgf e83 12 100 v0).bind fun x85 =>
  (xas e83 0 x84 x85 s0).bind fun h86 =>
  (xgf h86 12 100 v0).bind fun x87 =>
  (xpf h86 12 100 v0 (w32 (x87 + 1))).bind fun h88 =>
  some ((1, h88))
def f_X12_qGoesOn_J140 (v0 : Int) (h : xa_H) : Option (Int × xa_H) :=
  (xgf h 12 0 v0).bind fun x74 =>
  (xgf h 12 2 v0).bind fun x75 =>
  (xal h 0 x74 (w32 (x75 - 1))).bind fun x76 =>
  if x76 = 42 then
    f_X12_qGoesOn_J161 v0 3 h
  else
    f_X12_qGoesOn_J161 v0 4 h
def f_X12_qGoesOn_J122 (v0 : Int) (h : xa_H) : Option (Int × xa_H) :=
  (xrc h 12 v0 (f_X12_takesSign v0 42 h)).bind fun r29 =>
  if r29.1 = 0 then
    (xrc r29.2 12 v0 (f_X12_takesSign v0 47 r29.2)).bind fun r31 =>
    if r31.1 = 0 then
      (xrc r31.2 12 v0 (f_X12_takesSign v0 43 r31.2)).bind fun r33 =>
      if r33.1 = 0 then
        (xrc r33.2 12 v0 (f_X12_takesSign v0 45 r33.2)).bind fun r35 =>
        if r35.1 = 0 then
          (xrc r35.2 12 v0 (f_X12_qBracket v0 r35.2)).bind fun r37 =>
          if r37 = 21 then
            f_X12_qGoesOn_J326 v0 r35.2
          else
            (xrc r35.2 12 v0 (f_X12_qBracket v0 r35.2)).bind fun r47 =>
            if r47 = 22 then
              f_X12_qGoesOn_J326 v0 r35.2
            else
              (xrc r35.2 12 v0 (f_X12_qBracket v0 r35.2)).bind fun r49 =>
              if r49 = (-1) then
                some ((0, r35.2))
              else
                (xgf r35.2 12 5 v0).bind fun x51 =>
                if x51 = 0 then
                  (xgf r35.2 12 2 v0).bind fun x53 =>
                  (xrc r35.2 12 v0 (f_X12_fail v0 1 x53 r35.2)).bind fun r54 =>
                  some ((0, r54))
                else
                  some ((0, r35.2))
        else
          f_X12_qGoesOn_J225 v0 r35.2
      else
        f_X12_qGoesOn_J225 v0 r33.2
    else
      f_X12_qGoesOn_J140 v0 r31.2
  else
    f_X12_qGoesOn_J140 v0 r29.2
def f_X12_qGoesOn (v0 : Int) (h : xa_H) : Option (Int × xa_H) :=
  (xit (fun s => f_X12_qGoesOn_L0 v0 s) xFU h).bind fun e28 =>
  f_X12_qGoesOn_J122 v0 e28
def f_X12_isDigit (v0 : Int) (h : xa_H) : Option (Int) :=
  if v0 < 48 then
    some 0
  else
    if 57 < v0 then
      some 0
    else
      some 1
def f_X12_isIn (v0 v2 v4 : Int) (h : xa_H) : Option (Int) :=
  if xcmp v0 v2 < 0 then
    some 0
  else
    if 0 < xcmp v0 v4 then
      some 0
    else
      some 1
def f_X12_number_J30 (v0 : Int) (h : xa_H) : Option (Int × xa_H) :=
  (xgf h 12 2 v0).bind fun x6 =>
  (xrc h 12 v0 (f_X12_fail v0 1 x6 h)).bind fun r7 =>
  some ((0, r7))
def f_X12_number_L49 (c0 c1 c2 c3 : Int) (v4 : Int) (h : xa_H) : Option ((Int × xa_H) ⊕ ((Int × xa_H) ⊕ (Int × xa_H))) :=
  (xgf h 12 2 c0).bind fun x12 =>
  (xgf h 12 3 c0).bind fun x13 =>
  if x12 < x13 then
    (xgf h 12 0 c0).bind fun x15 =>
    (xgf h 12 2 c0).bind fun x16 =>
    (xal h 0 x15 x16).bind fun x17 =>
    (f_X12_isDigit x17 h).bind fun r18 =>
    if r18 = 0 then
      some (Sum.inr (Sum.inr ((v4, h))))
    else
      (xgf h 12 2 c0).bind fun x20 =>
      if w32 (x20 - c3) = 4 then
        (xgf h 12 2 c0).bind fun x22 =>
        (xrc h 12 c0 (f_X12_fail c0 1 x22 h)).bind fun r23 =>
        some (Sum.inr (Sum.inl ((0, r23))))
      else
        (xgf h 12 0 c0).bind fun x24 =>
        (xgf h 12 2 c0).bind fun x25 =>
        (xal h 0 x24 x25).bind fun x26 =>
        (xgf h 12 2 c0).bind fun x27 =>
        (xpf h 12 2 c0 (w32 (x27 + 1))).bind fun h28 =>
        some (Sum.inl ((w32 ((w32 ((w32 (10 * v4)) + x26)) - 48), h28)))
  else
    some (Sum.inr (Sum.inr ((v4, h))))
def f_X12_number_J129 (v0 v1 v2 v3 v4 : Int) (h : xa_H) : Option (Int × xa_H) :=
  (xgf h 12 2 v0).bind fun x31 =>
  (xpf h 12 4 v0 x31).bind fun h32 =>
  (f_X12_isIn v4 v1 v2 h32).bind fun r33 =>
  if r33 = 0 then
    (xrc h32 12 v0 (f_X12_fail v0 2 v3 h32)).bind fun r35 =>
    some ((v4, r35))
  else
    some ((v4, h32))
def f_X12_number (v0 v1 v2 : Int) (h : xa_H) : Option (Int × xa_H) :=
  (xgf h 12 5 v0).bind fun x1 =>
  if x1 = 0 then
    (xrc h 12 v0 (f_X12_look v0 h)).bind fun r3 =>
    (f_X12_isDigit r3.1 r3.2).bind fun r4 =>
    if r4 = 0 then
      f_X12_number_J30 v0 r3.2
    else
      (xgf r3.2 12 2 v0).bind fun x8 =>
      (xgf r3.2 12 4 v0).bind fun x9 =>
      if x8 = x9 then
        f_X12_number_J30 v0 r3.2
      else
        (xgf r3.2 12 2 v0).bind fun x11 =>
        (xit (fun s => f_X12_number_L49 v0 v1 v2 x11 s.1 s.2) xFU ((0, r3.2))).bind fun e29 =>
        xel e29 (fun r => some r) (fun y30 =>
          f_X12_number_J129 v0 v1 v2 x11 y30.1 y30.2)
  else
    some ((0, h))
def f_X12_qAsksWord (v0 v1 : Int) (h : xa_H) : Option (xa_H) :=
  if v1 = 0 then
    (xgf h 12 89 v0).bind fun x2 =>
    (xrc h 12 v0 (f_X12_asks v0 x2 h)).bind fun r3 =>
    some r3
  else
    if v1 = 1 then
      (xgf h 12 90 v0).bind fun x5 =>
      (xrc h 12 v0 (f_X12_asks v0 x5 h)).bind fun r6 =>
      some r6
    else
      if v1 = 2 then
        (xgf h 12 91 v0).bind fun x8 =>
        (xrc h 12 v0 (f_X12_asks v0 x8 h)).bind fun r9 =>
        some r9
      else
        if v1 = 3 then
          (xgf h 12 92 v0).bind fun x11 =>
          (xrc h 12 v0 (f_X12_asks v0 x11 h)).bind fun r12 =>
          some r12
        else
          if v1 = 4 then
            (xgf h 12 93 v0).bind fun x14 =>
            (xrc h 12 v0 (f_X12_asks v0 x14 h)).bind fun r15 =>
            some r15
          else
            if v1 = 5 then
              (xgf h 12 94 v0).bind fun x17 =>
              (xrc h 12 v0 (f_X12_asks v0 x17 h)).bind fun r18 =>
              some r18
            else
              if v1 = 6 then
                (xgf h 12 95 v0).bind fun x20 =>
                (xrc h 12 v0 (f_X12_asks v0 x20 h)).bind fun r21 =>
                some r21
              else
                if v1 = 7 then
                  (xgf h 12 96 v0).bind fun x23 =>
                  (xrc h 12 v0 (f_X12_asks v0 x23 h)).bind fun r24 =>
                  some r24
                else
                  (xgf h 12 93 v0).bind fun x25 =>
                  (xrc h 12 v0 (f_X12_asks v0 x25 h)).bind fun r26 =>
                  some r26
def f_X12_qOpens (v0 v1 v2 : Int) (h : xa_H) : Option (xa_H) :=
  (xgf h 12 5 v0).bind fun x1 =>
  if x1 = 0 then
    (xgf h 12 101 v0).bind fun x3 =>
    if x3 = 6 then
      (xrc h 12 v0 (f_X12_fail v0 4 v2 h)).bind fun r5 =>
      some r5
    else
      (xgf h 12 101 v0).bind fun x6 =>
      (xpf h 12 101 v0 (w32 (x6 + 1))).bind fun h7 =>
      (xgf h7 12 99 v0).bind fun x8 =>
      (xgf h7 12 100 v0).bind fun x9 =>
      (xas h7 0 x8 x9 v1).bind fun h10 =>
      (xgf h10 12 100 v0).bind fun x11 =>
      (xpf h10 12 100 v0 (w32 (x11 + 1))).bind fun h12 =>
      some h12
  else
    some h
def f_X12_isAllowed (v0 v1 : Int) (h : xa_H) : Option (Int) :=
  (xgf h 12 49 v0).bind fun x1 =>
  if x1 = 0 then
    if v1 = 0 then
      some 0
    else
      if v1 = 4 then
        some 0
      else
        some 1
  else
    if v1 < 7 then
      some 1
    else
      some 0
def f_X12_qWordHere (v0 : Int) (h : xa_H) : Option (Int × xa_H) :=
  (xgf h 12 89 v0).bind fun x1 =>
  (xrc h 12 v0 (f_X12_isHere v0 x1 h)).bind fun r2 =>
  if r2.1 = 0 then
    (xgf r2.2 12 90 v0).bind fun x4 =>
    (xrc r2.2 12 v0 (f_X12_isHere v0 x4 r2.2)).bind fun r5 =>
    if r5.1 = 0 then
      (xgf r5.2 12 91 v0).bind fun x7 =>
      (xrc r5.2 12 v0 (f_X12_isHere v0 x7 r5.2)).bind fun r8 =>
      if r8.1 = 0 then
        (xgf r8.2 12 92 v0).bind fun x10 =>
        (xrc r8.2 12 v0 (f_X12_isHere v0 x10 r8.2)).bind fun r11 =>
        if r11.1 = 0 then
          (xgf r11.2 12 93 v0).bind fun x13 =>
          (xrc r11.2 12 v0 (f_X12_isHere v0 x13 r11.2)).bind fun r14 =>
          if r14.1 = 0 then
            (xgf r14.2 12 94 v0).bind fun x16 =>
            (xrc r14.2 12 v0 (f_X12_isHere v0 x16 r14.2)).bind fun r17 =>
            if r17.1 = 0 then
              (xgf r17.2 12 95 v0).bind fun x19 =>
              (xrc r17.2 12 v0 (f_X12_isHere v0 x19 r17.2)).bind fun r20 =>
              if r20.1 = 0 then
                (xgf r20.2 12 96 v0).bind fun x22 =>
                (xrc r20.2 12 v0 (f_X12_isHere v0 x22 r20.2)).bind fun r23 =>
                if r23.1 = 0 then
                  some (((-1), r23.2))
                else
                  some ((7, r23.2))
              else
                some ((6, r20.2))
            else
              some ((5, r17.2))
          else
            (xgf r14.2 12 49 v0).bind fun x25 =>
            if x25 = 0 then
              some ((8, r14.2))
            else
              some ((4, r14.2))
        else
          some ((3, r11.2))
      else
        some ((2, r8.2))
    else
      some ((1, r5.2))
  else
    some ((0, r2.2))
def f_X12_qWordOf (v0 v1 v2 : Int) (h : xa_H) : Option (Int × xa_H) :=
  (xrc h 12 v0 (f_X12_qWordHere v0 h)).bind fun r1 =>
  if r1.1 < v1 then
    some (((-1), r1.2))
  else
    if r1.1 < v2 then
      (xrc r1.2 12 v0 (f_X12_isAllowed v0 r1.1 r1.2)).bind fun r4 =>
      if r4 = 0 then
        some (((-1), r1.2))
      else
        some ((r1.1, r1.2))
    else
      some (((-1), r1.2))
def f_X12_qPartTold_J144L2 (c0 v1 : Int) (h : xa_H) : Option ((Int × xa_H) ⊕ (xa_H)) :=
  (xrc h 12 c0 (f_X12_asksSign c0 40 h)).bind fun r30 =>
  some (Sum.inl ((v1, r30)))
def f_X12_qPartTold_J139L2 (c0 v1 v5 s0 s1 : Int) (h : xa_H) : Option ((Int × xa_H) ⊕ (xa_H)) :=
  (xrc h 12 s0 (f_X12_qOpens s0 s1 v5 h)).bind fun r32 =>
  f_X12_qPartTold_J144L2 c0 v1 r32
def f_X12_qPartTold_J118L2 (c0 v1 v4 s0 : Int) (h : xa_H) : Option ((Int × xa_H) ⊕ (xa_H)) :=
  if s0 = (-1) then
    f_X12_qPartTold_J144L2 c0 v1 h
  else
    if v4 = 0 then
      f_X12_qPartTold_J139L2 c0 v1 s0 c0 22 h
    else
      f_X12_qPartTold_J139L2 c0 v1 s0 c0 21 h
def f_X12_qPartTold_J101L2 (c0 v1 v4 : Int) (h : xa_H) : Option ((Int × xa_H) ⊕ (xa_H)) :=
  (xrc h 12 c0 (f_X12_look c0 h)).bind fun r26 =>
  if r26.1 = 40 then
    (xgf r26.2 12 2 c0).bind fun x28 =>
    f_X12_qPartTold_J118L2 c0 v1 v4 x28 r26.2
  else
    f_X12_qPartTold_J118L2 c0 v1 v4 ((-1)) r26.2
def f_X12_qPartTold_J78L2 (c0 v1 : Int) (h : xa_H) : Option ((Int × xa_H) ⊕ (xa_H)) :=
  (xgf h 12 87 c0).bind fun x21 =>
  (xrc h 12 c0 (f_X12_takes c0 x21 h)).bind fun r22 =>
  if r22.1 = 0 then
    (xgf r22.2 12 88 c0).bind fun x24 =>
    (xrc r22.2 12 c0 (f_X12_asks c0 x24 r22.2)).bind fun r25 =>
    f_X12_qPartTold_J101L2 c0 v1 r22.1 r25
  else
    f_X12_qPartTold_J101L2 c0 v1 r22.1 r22.2
def f_X12_qPartTold_L2 (c0 : Int) (v1 : Int) (h : xa_H) : Option ((Int × xa_H) ⊕ (xa_H)) :=
  if v1 = 0 then
    some (Sum.inr h)
  else
    (xgf h 12 5 c0).bind fun x2 =>
    if x2 = 0 then
      (xrc h 12 c0 (f_X12_look c0 h)).bind fun r4 =>
      (xrc r4.2 12 c0 (f_X12_qWordOf c0 8 9 r4.2)).bind fun r5 =>
      if r4.1 = 40 then
        (xgf r5.2 12 2 c0).bind fun x7 =>
        (xrc r5.2 12 c0 (f_X12_qOpens c0 20 x7 r5.2)).bind fun r8 =>
        (xgf r8 12 2 c0).bind fun x9 =>
        (xpf r8 12 2 c0 (w32 (x9 + 1))).bind fun h10 =>
        some (Sum.inl ((v1, h10)))
      else
        (xgf r5.2 12 87 c0).bind fun x11 =>
        (xrc r5.2 12 c0 (f_X12_isHere c0 x11 r5.2)).bind fun r12 =>
        if r12.1 = 0 then
          (xgf r12.2 12 88 c0).bind fun x14 =>
          (xrc r12.2 12 c0 (f_X12_isHere c0 x14 r12.2)).bind fun r15 =>
          if r15.1 = 0 then
            if r5.1 = (-1) then
              some (Sum.inl ((0, r15.2)))
            else
              (xgf r15.2 12 2 c0).bind fun x18 =>
              (xrc r15.2 12 c0 (f_X12_qOpens c0 (w32 ((w32 (60 + r5.1)) - 8)) x18 r15.2)).bind fun r19 =>
              (xrc r19 12 c0 (f_X12_qAsksWord c0 r5.1 r19)).bind fun r20 =>
              some (Sum.inl ((v1, r20)))
          else
            f_X12_qPartTold_J78L2 c0 v1 r15.2
        else
          f_X12_qPartTold_J78L2 c0 v1 r12.2
    else
      some (Sum.inr h)
def f_X12_qPartTold_J237 (v0 s0 s1 : Int) (h : xa_H) : Option (xa_H) :=
  (xrc h 12 s0 (f_X12_qCode s0 s1 h)).bind fun r40 =>
  (xrc r40 12 v0 (f_X12_qEndsPart v0 r40)).bind fun r41 =>
  some r41
def f_X12_qPartTold_J212 (v0 v2 : Int) (h : xa_H) : Option (xa_H) :=
  if v2 = (-1) then
    (xrc h 12 v0 (f_X12_number v0 0 9999 h)).bind fun r39 =>
    f_X12_qPartTold_J237 v0 v0 (w32 (1000 + r39.1)) r39.2
  else
    f_X12_qPartTold_J237 v0 v0 (w32 (40 + v2)) h
def f_X12_qPartTold_J186 (v0 : Int) (h : xa_H) : Option (xa_H) :=
  (xgf h 12 5 v0).bind fun x34 =>
  if x34 = 0 then
    (xrc h 12 v0 (f_X12_qWordOf v0 0 8 h)).bind fun r36 =>
    if r36.1 = (-1) then
      f_X12_qPartTold_J212 v0 r36.1 r36.2
    else
      (xrc r36.2 12 v0 (f_X12_qAsksWord v0 r36.1 r36.2)).bind fun r42 =>
      f_X12_qPartTold_J212 v0 r36.1 r42
  else
    some h
def f_X12_qPartTold (v0 : Int) (h : xa_H) : Option (xa_H) :=
  (xit (fun s => f_X12_qPartTold_L2 v0 s.1 s.2) xFU ((1, h))).bind fun e33 =>
  f_X12_qPartTold_J186 v0 e33
def f_X12_qSums_L15 (c0 c1 : Int) (v2 : Int) (h : xa_H) : Option ((Int × xa_H) ⊕ (xa_H)) :=
  if v2 = 0 then
    some (Sum.inr h)
  else
    (xgf h 12 5 c0).bind fun x5 =>
    if x5 = 0 then
      (xrc h 12 c0 (f_X12_qPartTold c0 h)).bind fun r7 =>
      (xgf r7 12 5 c0).bind fun x8 =>
      if x8 = 0 then
        (xrc r7 12 c0 (f_X12_qGoesOn c0 r7)).bind fun r10 =>
        if r10.1 = 0 then
          some (Sum.inl ((0, r10.2)))
        else
          some (Sum.inl ((1, r10.2)))
      else
        some (Sum.inl ((0, r7)))
    else
      some (Sum.inr h)
def f_X12_qSums_L53 (c0 c1 : Int) (h : xa_H) : Option ((xa_H) ⊕ (xa_H)) :=
  (xgf h 12 5 c0).bind fun x13 =>
  if x13 = 0 then
    (xgf h 12 100 c0).bind fun x15 =>
    (xgf h 12 102 c0).bind fun x16 =>
    if x16 < x15 then
      (xrc h 12 c0 (f_X12_qDrops c0 h)).bind fun r18 =>
      some (Sum.inl r18)
    else
      some (Sum.inr h)
  else
    some (Sum.inr h)
def f_X12_qSums (v0 : Int) (h : xa_H) : Option (xa_H) :=
  (xgf h 12 102 v0).bind fun x1 =>
  (xgf h 12 100 v0).bind fun x2 =>
  (xpf h 12 102 v0 x2).bind fun h3 =>
  (xit (fun s => f_X12_qSums_L15 v0 x1 s.1 s.2) xFU ((1, h3))).bind fun e12 =>
  (xit (fun s => f_X12_qSums_L53 v0 x1 s) xFU e12).bind fun e19 =>
  (xpf e19 12 102 v0 x1).bind fun h20 =>
  some h20
def f_X12_qTakes_J90 (v0 v1 v2 : Int) (h : xa_H) : Option (xa_H) :=
  if 3 < v1 then
    (xgf h 12 106 v0).bind fun x13 =>
    if x13 = 0 then
      if v1 = 4 then
        (xgf h 12 105 v0).bind fun x16 =>
        if 0 < xcmp v2 x16 then
          (xpf h 12 105 v0 v2).bind fun h18 =>
          (xpf h18 12 106 v0 0).bind fun h19 =>
          some h19
        else
          (xpf h 12 106 v0 0).bind fun h20 =>
          some h20
      else
        (xgf h 12 105 v0).bind fun x21 =>
        if xcmp v2 x21 < 0 then
          (xpf h 12 105 v0 v2).bind fun h23 =>
          (xpf h23 12 106 v0 0).bind fun h24 =>
          some h24
        else
          (xpf h 12 106 v0 0).bind fun h25 =>
          some h25
    else
      (xpf h 12 105 v0 v2).bind fun h26 =>
      (xpf h26 12 106 v0 0).bind fun h27 =>
      some h27
  else
    (xpf h 12 106 v0 0).bind fun h28 =>
    some h28
def f_X12_qTakes_J75 (v0 v1 v2 : Int) (h : xa_H) : Option (xa_H) :=
  if v1 = 3 then
    (xgf h 12 105 v0).bind fun x10 =>
    (xpf h 12 105 v0 (w64 (x10 + v2))).bind fun h11 =>
    f_X12_qTakes_J90 v0 v1 v2 h11
  else
    f_X12_qTakes_J90 v0 v1 v2 h
def f_X12_qTakes_J55 (v0 v1 v2 v5 : Int) (h : xa_H) : Option (xa_H) :=
  if v1 = 2 then
    if v5 = 0 then
      f_X12_qTakes_J75 v0 v1 v2 h
    else
      (xgf h 12 105 v0).bind fun x29 =>
      (xpf h 12 105 v0 (w64 (x29 + 1))).bind fun h30 =>
      f_X12_qTakes_J75 v0 v1 v2 h30
  else
    f_X12_qTakes_J75 v0 v1 v2 h
def f_X12_qTakes_J48 (v0 v1 v2 v4 v5 : Int) (h : xa_H) : Option (xa_H) :=
  (xpf h 12 105 v0 v4).bind fun h31 =>
  f_X12_qTakes_J55 v0 v1 v2 v5 h31
def f_X12_qTakes_J38 (v0 v1 v2 v4 v5 : Int) (h : xa_H) : Option (xa_H) :=
  if v1 = 1 then
    if v5 = 0 then
      f_X12_qTakes_J55 v0 v1 v2 v5 h
    else
      f_X12_qTakes_J48 v0 v1 v2 v4 v5 h
  else
    f_X12_qTakes_J55 v0 v1 v2 v5 h
def f_X12_qTakes_J16 (v0 v1 v2 v4 s0 : Int) (h : xa_H) : Option (xa_H) :=
  if v1 = 0 then
    if s0 = 0 then
      f_X12_qTakes_J38 v0 v1 v2 v4 s0 h
    else
      (xgf h 12 105 v0).bind fun x32 =>
      if xcmp x32 ((-1)) = 0 then
        f_X12_qTakes_J48 v0 v1 v2 v4 s0 h
      else
        f_X12_qTakes_J38 v0 v1 v2 v4 s0 h
  else
    f_X12_qTakes_J38 v0 v1 v2 v4 s0 h
def f_X12_qTakes_J15 (v0 v1 v2 v4 : Int) (h : xa_H) : Option (xa_H) :=
  f_X12_qTakes_J16 v0 v1 v2 v4 0 h
def f_X12_qTakes (v0 v1 v2 v4 : Int) (h : xa_H) : Option (xa_H) :=
  if v1 < 3 then
    if xcmp v2 1 = 0 then
      f_X12_qTakes_J16 v0 v1 v2 v4 1 h
    else
      f_X12_qTakes_J15 v0 v1 v2 v4 h
  else
    f_X12_qTakes_J15 v0 v1 v2 v4 h
def f_X12_qDropsNots_L0 (c0 : Int) (h : xa_H) : Option ((xa_H) ⊕ (xa_H)) :=
  (xgf h 12 5 c0).bind fun x1 =>
  if x1 = 0 then
    (xrc h 12 c0 (f_X12_qIsOn c0 12 h)).bind fun r3 =>
    if r3 = 0 then
      some (Sum.inr h)
    else
      (xgf h 12 101 c0).bind fun x5 =>
      (xpf h 12 101 c0 (w32 (x5 - 1))).bind fun h6 =>
      (xrc h6 12 c0 (f_X12_qDrops c0 h6)).bind fun r7 =>
      some (Sum.inl r7)
  else
    some (Sum.inr h)
def f_X12_qDropsNots (v0 : Int) (h : xa_H) : Option (xa_H) :=
  (xit (fun s => f_X12_qDropsNots_L0 v0 s) xFU h).bind fun e8 =>
  some e8
def f_X12_qFact_J63 (v0 v1 : Int) (h : xa_H) : Option (xa_H) :=
  (xgf h 12 2 v0).bind fun x9 =>
  (xpf h 12 2 v0 (w32 (x9 + 1))).bind fun h10 =>
  (xrc h10 12 v0 (f_X12_qSums v0 h10)).bind fun r11 =>
  if v1 = 60 then
    (xrc r11 12 v0 (f_X12_qCode v0 7 r11)).bind fun r13 =>
    some r13
  else
    if v1 = 62 then
      (xrc r11 12 v0 (f_X12_qCode v0 8 r11)).bind fun r15 =>
      some r15
    else
      (xrc r11 12 v0 (f_X12_qCode v0 9 r11)).bind fun r16 =>
      some r16
def f_X12_qFact (v0 : Int) (h : xa_H) : Option (xa_H) :=
  (xgf h 12 86 v0).bind fun x1 =>
  (xrc h 12 v0 (f_X12_takes v0 x1 h)).bind fun r2 =>
  if r2.1 = 0 then
    (xrc r2.2 12 v0 (f_X12_qSums v0 r2.2)).bind fun r4 =>
    (xgf r4 12 5 v0).bind fun x5 =>
    if x5 = 0 then
      (xrc r4 12 v0 (f_X12_look v0 r4)).bind fun r7 =>
      if r7.1 = 60 then
        f_X12_qFact_J63 v0 r7.1 r7.2
      else
        if r7.1 = 62 then
          f_X12_qFact_J63 v0 r7.1 r7.2
        else
          if r7.1 = 61 then
            f_X12_qFact_J63 v0 r7.1 r7.2
          else
            (xgf r7.2 12 2 v0).bind fun x19 =>
            (xrc r7.2 12 v0 (f_X12_fail v0 1 x19 r7.2)).bind fun r20 =>
            some r20
    else
      some r4
  else
    (xrc r2.2 12 v0 (f_X12_qCode v0 13 r2.2)).bind fun r21 =>
    some r21
def f_X12_qHasSquare_L2 (c0 : Int) (h : xa_H) (v1 : Int) : Option ((Int) ⊕ ((Int) ⊕ (Unit))) :=
  (xgf h 12 100 c0).bind fun x1 =>
  if v1 < x1 then
    (xgf h 12 99 c0).bind fun x3 =>
    (xal h 0 x3 v1).bind fun x4 =>
    if x4 = 25 then
      some (Sum.inr (Sum.inl 1))
    else
      some (Sum.inl (w32 (v1 + 1)))
  else
    some (Sum.inr (Sum.inr (())))
def f_X12_qHasSquare (v0 : Int) (h : xa_H) : Option (Int) :=
  (xit (fun s => f_X12_qHasSquare_L2 v0 h s) xFU 0).bind fun e6 =>
  xel e6 (fun r => some r) (fun y7 =>
    some 0)
def f_X12_qGoesOnTest_L33 (c0 : Int) (h : xa_H) : Option ((xa_H) ⊕ (xa_H)) :=
  (xrc h 12 c0 (f_X12_qIsOn c0 25 h)).bind fun r9 =>
  if r9 = 0 then
    (xrc h 12 c0 (f_X12_qDrops c0 h)).bind fun r11 =>
    some (Sum.inl r11)
  else
    some (Sum.inr h)
def f_X12_qGoesOnTest_L0 (c0 : Int) (h : xa_H) : Option ((xa_H) ⊕ (xa_H)) :=
  (xgf h 12 5 c0).bind fun x1 =>
  if x1 = 0 then
    (xrc h 12 c0 (f_X12_look c0 h)).bind fun r3 =>
    if r3.1 = 93 then
      (xrc r3.2 12 c0 (f_X12_qHasSquare c0 r3.2)).bind fun r5 =>
      if r5 = 0 then
        some (Sum.inr r3.2)
      else
        (xgf r3.2 12 2 c0).bind fun x7 =>
        (xpf r3.2 12 2 c0 (w32 (x7 + 1))).bind fun h8 =>
        (xit (fun s => f_X12_qGoesOnTest_L33 c0 s) xFU h8).bind fun e12 =>
        (xgf e12 12 100 c0).bind fun x13 =>
        (xpf e12 12 100 c0 (w32 (x13 - 1))).bind fun h14 =>
        (xgf h14 12 101 c0).bind fun x15 =>
        (xpf h14 12 101 c0 (w32 (x15 - 1))).bind fun h16 =>
        (xrc h16 12 c0 (f_X12_qDropsNots c0 h16)).bind fun r17 =>
        some (Sum.inl r17)
    else
      some (Sum.inr r3.2)
  else
    some (Sum.inr h)
def f_X12_qGoesOnTest_J155L137 (c0 : Int) (h : xa_H) : Option ((xa_H) ⊕ (xa_H)) :=
  (xrc h 12 c0 (f_X12_qDrops c0 h)).bind fun r35 =>
  some (Sum.inl r35)
def f_X12_qGoesOnTest_L137 (c0 : Int) (h : xa_H) : Option ((xa_H) ⊕ (xa_H)) :=
  (xrc h 12 c0 (f_X12_qIsOn c0 10 h)).bind fun r31 =>
  if r31 = 0 then
    (xrc h 12 c0 (f_X12_qIsOn c0 11 h)).bind fun r33 =>
    if r33 = 0 then
      some (Sum.inr h)
    else
      f_X12_qGoesOnTest_J155L137 c0 h
  else
    f_X12_qGoesOnTest_J155L137 c0 h
def f_X12_qGoesOnTest_L87 (c0 : Int) (h : xa_H) : Option ((xa_H) ⊕ (xa_H)) :=
  (xrc h 12 c0 (f_X12_qIsOn c0 10 h)).bind fun r42 =>
  if r42 = 0 then
    some (Sum.inr h)
  else
    (xrc h 12 c0 (f_X12_qDrops c0 h)).bind fun r44 =>
    some (Sum.inl r44)
def f_X12_qGoesOnTest_J76 (v0 : Int) (h : xa_H) : Option (Int × xa_H) :=
  (xgf h 12 84 v0).bind fun x19 =>
  (xrc h 12 v0 (f_X12_takes v0 x19 h)).bind fun r20 =>
  if r20.1 = 0 then
    (xgf r20.2 12 85 v0).bind fun x22 =>
    (xrc r20.2 12 v0 (f_X12_takes v0 x22 r20.2)).bind fun r23 =>
    if r23.1 = 0 then
      (xgf r23.2 12 5 v0).bind fun x25 =>
      if x25 = 0 then
        (xrc r23.2 12 v0 (f_X12_qHasSquare v0 r23.2)).bind fun r27 =>
        if r27 = 0 then
          some ((0, r23.2))
        else
          (xgf r23.2 12 2 v0).bind fun x29 =>
          (xrc r23.2 12 v0 (f_X12_fail v0 1 x29 r23.2)).bind fun r30 =>
          some ((0, r30))
      else
        some ((0, r23.2))
    else
      (xit (fun s => f_X12_qGoesOnTest_L137 v0 s) xFU r23.2).bind fun e36 =>
      (xgf e36 12 99 v0).bind fun x37 =>
      (xgf e36 12 100 v0).bind fun x38 =>
      (xas e36 0 x37 x38 11).bind fun h39 =>
      (xgf h39 12 100 v0).bind fun x40 =>
      (xpf h39 12 100 v0 (w32 (x40 + 1))).bind fun h41 =>
      some ((1, h41))
  else
    (xit (fun s => f_X12_qGoesOnTest_L87 v0 s) xFU r20.2).bind fun e45 =>
    (xgf e45 12 99 v0).bind fun x46 =>
    (xgf e45 12 100 v0).bind fun x47 =>
    (xas e45 0 x46 x47 10).bind fun h48 =>
    (xgf h48 12 100 v0).bind fun x49 =>
    (xpf h48 12 100 v0 (w32 (x49 + 1))).bind fun h50 =>
    some ((1, h50))
def f_X12_qGoesOnTest (v0 : Int) (h : xa_H) : Option (Int × xa_H) :=
  (xit (fun s => f_X12_qGoesOnTest_L0 v0 s) xFU h).bind fun e18 =>
  f_X12_qGoesOnTest_J76 v0 e18
def f_X12_qTest_L2 (c0 : Int) (v1 : Int) (h : xa_H) : Option ((Int × xa_H) ⊕ (xa_H)) :=
  if v1 = 0 then
    some (Sum.inr h)
  else
    (xgf h 12 5 c0).bind fun x2 =>
    if x2 = 0 then
      (xrc h 12 c0 (f_X12_look c0 h)).bind fun r4 =>
      if r4.1 = 91 then
        (xgf r4.2 12 2 c0).bind fun x6 =>
        (xrc r4.2 12 c0 (f_X12_qOpens c0 25 x6 r4.2)).bind fun r7 =>
        (xgf r7 12 2 c0).bind fun x8 =>
        (xpf r7 12 2 c0 (w32 (x8 + 1))).bind fun h9 =>
        some (Sum.inl ((v1, h9)))
      else
        (xgf r4.2 12 83 c0).bind fun x10 =>
        (xrc r4.2 12 c0 (f_X12_isHere c0 x10 r4.2)).bind fun r11 =>
        if r11.1 = 0 then
          (xrc r11.2 12 c0 (f_X12_qFact c0 r11.2)).bind fun r13 =>
          (xrc r13 12 c0 (f_X12_qDropsNots c0 r13)).bind fun r14 =>
          (xgf r14 12 5 c0).bind fun x15 =>
          if x15 = 0 then
            (xrc r14 12 c0 (f_X12_qGoesOnTest c0 r14)).bind fun r17 =>
            if r17.1 = 0 then
              some (Sum.inl ((0, r17.2)))
            else
              some (Sum.inl ((1, r17.2)))
          else
            some (Sum.inl ((0, r14)))
        else
          (xgf r11.2 12 2 c0).bind fun x19 =>
          (xrc r11.2 12 c0 (f_X12_qOpens c0 12 x19 r11.2)).bind fun r20 =>
          (xgf r20 12 83 c0).bind fun x21 =>
          (xrc r20 12 c0 (f_X12_asks c0 x21 r20)).bind fun r22 =>
          some (Sum.inl ((v1, r22)))
    else
      some (Sum.inr h)
def f_X12_qTest_L110 (c0 : Int) (h : xa_H) : Option ((xa_H) ⊕ (xa_H)) :=
  (xgf h 12 5 c0).bind fun x24 =>
  if x24 = 0 then
    (xgf h 12 100 c0).bind fun x26 =>
    if 0 < x26 then
      (xrc h 12 c0 (f_X12_qDrops c0 h)).bind fun r28 =>
      some (Sum.inl r28)
    else
      some (Sum.inr h)
  else
    some (Sum.inr h)
def f_X12_qTest (v0 : Int) (h : xa_H) : Option (xa_H) :=
  (xit (fun s => f_X12_qTest_L2 v0 s.1 s.2) xFU ((1, h))).bind fun e23 =>
  (xit (fun s => f_X12_qTest_L110 v0 s) xFU e23).bind fun e29 =>
  some e29
def f_X12_qClip (v0 : Int) (h : xa_H) : Option (Int) :=
  if 0 < xcmp v0 1000000 then
    some 1000000
  else
    if xcmp v0 ((-1000000)) < 0 then
      some ((-1000000))
    else
      some v0
def f_X12_qFloor_J43 (v4 s0 s1 : Int) (h : xa_H) : Option (Int) :=
  if s0 = s1 then
    some v4
  else
    some (w64 (v4 - 1))
def f_X12_qFloor_J32 (v2 v4 s0 : Int) (h : xa_H) : Option (Int) :=
  if xcmp v2 0 < 0 then
    f_X12_qFloor_J43 v4 s0 1 h
  else
    f_X12_qFloor_J43 v4 s0 0 h
def f_X12_qFloor (v0 v2 : Int) (h : xa_H) : Option (Int) :=
  if xcmp v2 0 = 0 then
    some 0
  else
    xnz v2 <|
    xnz v2 <|
    if xcmp (Int.tmod v0 v2) 0 = 0 then
      some (w64 (Int.tdiv v0 v2))
    else
      if xcmp v0 0 < 0 then
        f_X12_qFloor_J32 v2 (w64 (Int.tdiv v0 v2)) 1 h
      else
        f_X12_qFloor_J32 v2 (w64 (Int.tdiv v0 v2)) 0 h
def f_X12_qPuts (v0 v1 : Int) (h : xa_H) : Option (xa_H) :=
  (xgf h 12 103 v0).bind fun x1 =>
  (xgf h 12 104 v0).bind fun x2 =>
  (xas h 1 x1 x2 v1).bind fun h3 =>
  (xgf h3 12 104 v0).bind fun x4 =>
  (xpf h3 12 104 v0 (w32 (x4 + 1))).bind fun h5 =>
  some h5
def f_X12_qJoins (v0 v1 : Int) (h : xa_H) : Option (xa_H) :=
  (xgf h 12 103 v0).bind fun x1 =>
  (xgf h 12 104 v0).bind fun x2 =>
  (xal h 1 x1 (w32 (x2 - 1))).bind fun x3 =>
  (xgf h 12 103 v0).bind fun x4 =>
  (xgf h 12 104 v0).bind fun x5 =>
  (xal h 1 x4 (w32 (x5 - 2))).bind fun x6 =>
  (xgf h 12 104 v0).bind fun x7 =>
  (xpf h 12 104 v0 (w32 (x7 - 2))).bind fun h8 =>
  if v1 = 1 then
    (f_X12_qClip (w64 (x6 + x3)) h8).bind fun r10 =>
    (xrc h8 12 v0 (f_X12_qPuts v0 r10 h8)).bind fun r11 =>
    some r11
  else
    if v1 = 2 then
      (f_X12_qClip (w64 (x6 - x3)) h8).bind fun r13 =>
      (xrc h8 12 v0 (f_X12_qPuts v0 r13 h8)).bind fun r14 =>
      some r14
    else
      if v1 = 3 then
        (f_X12_qClip (w64 (x6 * x3)) h8).bind fun r16 =>
        (xrc h8 12 v0 (f_X12_qPuts v0 r16 h8)).bind fun r17 =>
        some r17
      else
        if v1 = 4 then
          (f_X12_qFloor x6 x3 h8).bind fun r19 =>
          (xrc h8 12 v0 (f_X12_qPuts v0 r19 h8)).bind fun r20 =>
          some r20
        else
          if v1 = 5 then
            if xcmp x6 x3 < 0 then
              (xrc h8 12 v0 (f_X12_qPuts v0 x6 h8)).bind fun r23 =>
              some r23
            else
              (xrc h8 12 v0 (f_X12_qPuts v0 x3 h8)).bind fun r24 =>
              some r24
          else
            if v1 = 6 then
              if 0 < xcmp x6 x3 then
                (xrc h8 12 v0 (f_X12_qPuts v0 x6 h8)).bind fun r27 =>
                some r27
              else
                (xrc h8 12 v0 (f_X12_qPuts v0 x3 h8)).bind fun r28 =>
                some r28
            else
              if v1 = 7 then
                if xcmp x6 x3 < 0 then
                  (xrc h8 12 v0 (f_X12_qPuts v0 1 h8)).bind fun r31 =>
                  some r31
                else
                  (xrc h8 12 v0 (f_X12_qPuts v0 0 h8)).bind fun r32 =>
                  some r32
              else
                if v1 = 8 then
                  if 0 < xcmp x6 x3 then
                    (xrc h8 12 v0 (f_X12_qPuts v0 1 h8)).bind fun r35 =>
                    some r35
                  else
                    (xrc h8 12 v0 (f_X12_qPuts v0 0 h8)).bind fun r36 =>
                    some r36
                else
                  if v1 = 9 then
                    if xcmp x6 x3 = 0 then
                      (xrc h8 12 v0 (f_X12_qPuts v0 1 h8)).bind fun r39 =>
                      some r39
                    else
                      (xrc h8 12 v0 (f_X12_qPuts v0 0 h8)).bind fun r40 =>
                      some r40
                  else
                    if v1 = 10 then
                      (xrc h8 12 v0 (f_X12_qPuts v0 (w64 (x6 * x3)) h8)).bind fun r42 =>
                      some r42
                    else
                      if 0 < xcmp (w64 (x6 + x3)) 0 then
                        (xrc h8 12 v0 (f_X12_qPuts v0 1 h8)).bind fun r44 =>
                        some r44
                      else
                        (xrc h8 12 v0 (f_X12_qPuts v0 0 h8)).bind fun r45 =>
                        some r45
def f_X12_metBy (v0 v1 v2 : Int) (h : xa_H) : Option (Int) :=
  (xgf h 12 50 v0).bind fun x1 =>
  (xal h 0 x1 (w32 ((w32 ((w32 (1 + (w32 (9 * v1)))) + 3)) + v2))).bind fun x2 =>
  some x2
def f_X12_qOf (v0 v1 v2 v4 : Int) (h : xa_H) : Option (Int) :=
  (xrc h 12 v0 (f_X12_holderMany v0 h)).bind fun r1 =>
  (f_X12_isIn v2 0 (w32 (r1 - 1)) h).bind fun r2 =>
  if r2 = 0 then
    some 0
  else
    (xrc h 12 v0 (f_X12_metBy v0 v4 (w32 v2) h)).bind fun r4 =>
    some r4
def f_X12_hadBy (v0 v1 : Int) (h : xa_H) : Option (Int) :=
  (xgf h 12 50 v0).bind fun x1 =>
  (xal h 0 x1 (w32 (1 + (w32 (9 * v1))))).bind fun x2 =>
  some x2
def f_X12_purseOf (v0 v1 : Int) (h : xa_H) : Option (Int) :=
  (xgf h 12 50 v0).bind fun x1 =>
  (xal h 0 x1 (w32 ((w32 (1 + (w32 (9 * v1)))) + 2))).bind fun x2 =>
  some x2
def f_X12_valueOf (v0 v1 v2 : Int) (h : xa_H) : Option (Int) :=
  (xgf h 12 41 v0).bind fun x1 =>
  (xal h 0 x1 (w32 ((w32 (36 + (w32 (6 * v1)))) + v2))).bind fun x2 =>
  some x2
def f_X12_wantedBy (v0 v1 : Int) (h : xa_H) : Option (Int) :=
  (xgf h 12 50 v0).bind fun x1 =>
  (xal h 0 x1 (w32 ((w32 (1 + (w32 (9 * v1)))) + 1))).bind fun x2 =>
  some x2
def f_X12_qPartOf (v0 v1 v2 : Int) (h : xa_H) : Option (Int) :=
  if v1 = 0 then
    (xgf h 12 51 v0).bind fun x2 =>
    some x2
  else
    if v1 = 1 then
      (xrc h 12 v0 (f_X12_hadBy v0 v2 h)).bind fun r4 =>
      (xrc h 12 v0 (f_X12_valueOf v0 v2 r4 h)).bind fun r5 =>
      some r5
    else
      if v1 = 2 then
        (xgf h 12 49 v0).bind fun x7 =>
        if x7 = 0 then
          (xrc h 12 v0 (f_X12_wantedBy v0 v2 h)).bind fun r9 =>
          (xrc h 12 v0 (f_X12_hadBy v0 v2 h)).bind fun r10 =>
          if r9 = r10 then
            some 1
          else
            some 0
        else
          (xgf h 12 52 v0).bind fun x12 =>
          some x12
      else
        if v1 = 3 then
          (xgf h 12 49 v0).bind fun x14 =>
          if x14 = 0 then
            (xgf h 12 36 v0).bind fun x16 =>
            (xrc h 12 v0 (f_X12_hadBy v0 v2 h)).bind fun r17 =>
            (xal h 0 x16 (w32 (6 + r17))).bind fun x18 =>
            some x18
          else
            (xgf h 12 53 v0).bind fun x19 =>
            some x19
        else
          if v1 = 4 then
            (xgf h 12 54 v0).bind fun x21 =>
            some x21
          else
            if v1 = 5 then
              (xrc h 12 v0 (f_X12_purseOf v0 v2 h)).bind fun r23 =>
              some r23
            else
              if v1 = 6 then
                (xgf h 12 50 v0).bind fun x25 =>
                (xal h 0 x25 0).bind fun x26 =>
                some x26
              else
                some v2
def f_X12_qTold_L7 (c0 c1 : Int) (v2 : Int) (h : xa_H) : Option ((Int × xa_H) ⊕ (xa_H)) :=
  (xgf h 12 98 c0).bind fun x2 =>
  if v2 < x2 then
    (xgf h 12 97 c0).bind fun x4 =>
    (xal h 0 x4 v2).bind fun x5 =>
    if x5 < 1000 then
      if x5 < 60 then
        if x5 < 40 then
          if x5 = 13 then
            (xrc h 12 c0 (f_X12_qPuts c0 1 h)).bind fun r10 =>
            some (Sum.inl ((w32 (v2 + 1), r10)))
          else
            if x5 = 12 then
              (xgf h 12 103 c0).bind fun x12 =>
              (xgf h 12 104 c0).bind fun x13 =>
              (xgf h 12 103 c0).bind fun x14 =>
              (xgf h 12 104 c0).bind fun x15 =>
              (xal h 1 x14 (w32 (x15 - 1))).bind fun x16 =>
              (xas h 1 x12 (w32 (x13 - 1)) (w64 (1 - x16))).bind fun h17 =>
              some (Sum.inl ((w32 (v2 + 1), h17)))
            else
              (xrc h 12 c0 (f_X12_qJoins c0 x5 h)).bind fun r18 =>
              some (Sum.inl ((w32 (v2 + 1), r18)))
        else
          (xrc h 12 c0 (f_X12_qPartOf c0 (w32 (x5 - 40)) c1 h)).bind fun r19 =>
          (f_X12_qClip r19 h).bind fun r20 =>
          (xrc h 12 c0 (f_X12_qPuts c0 r20 h)).bind fun r21 =>
          some (Sum.inl ((w32 (v2 + 1), r21)))
      else
        (xgf h 12 103 c0).bind fun x22 =>
        (xgf h 12 104 c0).bind fun x23 =>
        (xgf h 12 103 c0).bind fun x24 =>
        (xgf h 12 104 c0).bind fun x25 =>
        (xal h 1 x24 (w32 (x25 - 1))).bind fun x26 =>
        (xrc h 12 c0 (f_X12_qOf c0 (w32 (x5 - 60)) x26 c1 h)).bind fun r27 =>
        (f_X12_qClip r27 h).bind fun r28 =>
        (xas h 1 x22 (w32 (x23 - 1)) r28).bind fun h29 =>
        some (Sum.inl ((w32 (v2 + 1), h29)))
    else
      (xrc h 12 c0 (f_X12_qPuts c0 (w32 (x5 - 1000)) h)).bind fun r30 =>
      some (Sum.inl ((w32 (v2 + 1), r30)))
  else
    some (Sum.inr h)
def f_X12_qTold (v0 v1 : Int) (h : xa_H) : Option (Int × xa_H) :=
  (xpf h 12 104 v0 0).bind fun h1 =>
  (xit (fun s => f_X12_qTold_L7 v0 v1 s.1 s.2) xFU ((0, h1))).bind fun e31 =>
  (xgf e31 12 103 v0).bind fun x32 =>
  (xal e31 1 x32 0).bind fun x33 =>
  some ((x33, e31))
def f_X12_ask_L167 (c0 c1 : Int) (v2 : Int) (h : xa_H) : Option ((Int × xa_H) ⊕ (xa_H)) :=
  (xrc h 12 c0 (f_X12_holderMany c0 h)).bind fun r31 =>
  if v2 < r31 then
    (xrc h 12 c0 (f_X12_qTold c0 v2 h)).bind fun r33 =>
    (xrc r33.2 12 c0 (f_X12_qTakes c0 c1 r33.1 v2 r33.2)).bind fun r34 =>
    some (Sum.inl ((w32 (v2 + 1), r34)))
  else
    some (Sum.inr h)
def f_X12_ask_J157 (v0 v1 s0 s1 : Int) (h : xa_H) : Option (Int × xa_H) :=
  (xpf h 12 105 s0 s1).bind fun h29 =>
  (xpf h29 12 106 v0 1).bind fun h30 =>
  (xit (fun s => f_X12_ask_L167 v0 v1 s.1 s.2) xFU ((0, h30))).bind fun e35 =>
  (xgf e35 12 105 v0).bind fun x36 =>
  some ((x36, e35))
def f_X12_ask_J117 (v0 v1 : Int) (h : xa_H) : Option (Int × xa_H) :=
  (xgf h 12 5 v0).bind fun x22 =>
  (xpf h 12 7 v0 x22).bind fun h23 =>
  (xgf h23 12 6 v0).bind fun x24 =>
  (xpf h23 12 8 v0 x24).bind fun h25 =>
  (xgf h25 12 5 v0).bind fun x26 =>
  if x26 = 0 then
    if v1 < 2 then
      f_X12_ask_J157 v0 v1 v0 ((-1)) h25
    else
      f_X12_ask_J157 v0 v1 v0 0 h25
  else
    some (((-1000000000000000), h25))
def f_X12_ask_J93 (v0 v1 : Int) (h : xa_H) : Option (Int × xa_H) :=
  (xgf h 12 5 v0).bind fun x18 =>
  if x18 = 0 then
    (xrc h 12 v0 (f_X12_look v0 h)).bind fun r20 =>
    if r20.1 = (-1) then
      f_X12_ask_J117 v0 v1 r20.2
    else
      (xgf r20.2 12 2 v0).bind fun x37 =>
      (xrc r20.2 12 v0 (f_X12_fail v0 1 x37 r20.2)).bind fun r38 =>
      f_X12_ask_J117 v0 v1 r38
  else
    f_X12_ask_J117 v0 v1 h
def f_X12_ask_J82 (v0 v1 : Int) (h : xa_H) : Option (Int × xa_H) :=
  (xgf h 12 5 v0).bind fun x39 =>
  if x39 = 0 then
    (xrc h 12 v0 (f_X12_qSums v0 h)).bind fun r41 =>
    f_X12_ask_J93 v0 v1 r41
  else
    f_X12_ask_J93 v0 v1 h
def f_X12_ask (v0 : Int) (h : xa_H) : Option (Int × xa_H) :=
  (xgf h 12 1 v0).bind fun x1 =>
  (xpf h 12 3 v0 x1).bind fun h2 =>
  (xpf h2 12 1 v0 0).bind fun h3 =>
  (xpf h3 12 2 v0 0).bind fun h4 =>
  (xpf h4 12 4 v0 ((-1))).bind fun h5 =>
  (xpf h5 12 5 v0 0).bind fun h6 =>
  (xpf h6 12 6 v0 ((-1))).bind fun h7 =>
  (xpf h7 12 49 v0 0).bind fun h8 =>
  (xpf h8 12 98 v0 0).bind fun h9 =>
  (xpf h9 12 100 v0 0).bind fun h10 =>
  (xpf h10 12 101 v0 0).bind fun h11 =>
  (xpf h11 12 102 v0 0).bind fun h12 =>
  (xrc h12 12 v0 (f_X12_qKind v0 h12)).bind fun r13 =>
  (xgf r13.2 12 5 v0).bind fun x14 =>
  if x14 = 0 then
    if r13.1 < 3 then
      (xrc r13.2 12 v0 (f_X12_qTest v0 r13.2)).bind fun r17 =>
      f_X12_ask_J93 v0 r13.1 r17
    else
      f_X12_ask_J82 v0 r13.1 r13.2
  else
    f_X12_ask_J82 v0 r13.1 r13.2
def f_X12_heldMany (v0 : Int) (h : xa_H) : Option (Int) :=
  (xgf h 12 34 v0).bind fun x1 =>
  (xal h 0 x1 3).bind fun x2 =>
  some x2
def f_X12_isHolder (v0 v1 : Int) (h : xa_H) : Option (Int) :=
  (xrc h 12 v0 (f_X12_holderMany v0 h)).bind fun r1 =>
  (f_X12_isIn v1 0 (w32 (r1 - 1)) h).bind fun r2 =>
  xbo r2 <|
  some r2
def f_X12_isWay_L7 (c0 : Int) (v2 v3 v4 : Int) (h : xa_H) : Option ((Int × Int × Int × xa_H) ⊕ ((Int × xa_H) ⊕ (xa_H))) :=
  (xrc h 12 c0 (f_X12_holderMany c0 h)).bind fun r1 =>
  if v4 < r1 then
    (xgf h 12 66 c0).bind fun x3 =>
    (xrc h 12 c0 (f_X12_heldMany c0 h)).bind fun r4 =>
    xnz r4 <|
    (xas h 0 x3 v4 (Int.tmod v2 r4)).bind fun h6 =>
    (xrc h6 12 c0 (f_X12_heldMany c0 h6)).bind fun r7 =>
    xnz r7 <|
    (xgf h6 12 66 c0).bind fun x9 =>
    (xal h6 0 x9 v4).bind fun x10 =>
    if xand (xshr v3 x10) 1 = 1 then
      some (Sum.inr (Sum.inl ((0, h6))))
    else
      (xgf h6 12 66 c0).bind fun x12 =>
      (xal h6 0 x12 v4).bind fun x13 =>
      some (Sum.inl ((w32 (Int.tdiv v2 r7), xior v3 (xshl 1 x13), w32 (v4 + 1), h6)))
  else
    some (Sum.inr (Sum.inr h))
def f_X12_isWay_J116L74 (c0 v4 s0 : Int) (h : xa_H) : Option ((Int) ⊕ ((Int × xa_H) ⊕ (Unit))) :=
  (xgf h 12 71 c0).bind fun x25 =>
  (xal h 0 x25 (w32 ((w32 (3 * v4)) + 2))).bind fun x26 =>
  if s0 = x26 then
    some (Sum.inl (w32 (v4 + 1)))
  else
    some (Sum.inr (Sum.inl ((0, h))))
def f_X12_isWay_L74 (c0 : Int) (h : xa_H) (v4 : Int) : Option ((Int) ⊕ ((Int × xa_H) ⊕ (Unit))) :=
  (xgf h 12 70 c0).bind fun x16 =>
  if v4 < x16 then
    (xgf h 12 66 c0).bind fun x18 =>
    (xgf h 12 71 c0).bind fun x19 =>
    (xal h 0 x19 (w32 (3 * v4))).bind fun x20 =>
    (xal h 0 x18 x20).bind fun x21 =>
    (xgf h 12 71 c0).bind fun x22 =>
    (xal h 0 x22 (w32 ((w32 (3 * v4)) + 1))).bind fun x23 =>
    if x21 = x23 then
      f_X12_isWay_J116L74 c0 v4 1 h
    else
      f_X12_isWay_J116L74 c0 v4 0 h
  else
    some (Sum.inr (Sum.inr (())))
def f_X12_isWay (v0 v1 : Int) (h : xa_H) : Option (Int × xa_H) :=
  (xit (fun s => f_X12_isWay_L7 v0 s.1 s.2.1 s.2.2.1 s.2.2.2) xFU ((v1, 0, 0, h))).bind fun e14 =>
  xel e14 (fun r => some r) (fun y15 =>
    (xit (fun s => f_X12_isWay_L74 v0 y15 s) xFU 0).bind fun e28 =>
    xel e28 (fun r => some r) (fun y29 =>
      some ((1, y15))))
def f_X12_laysWays_L2 (c0 : Int) (v1 : Int) (h : xa_H) : Option ((Int × xa_H) ⊕ (xa_H)) :=
  if v1 < 36 then
    (xgf h 12 72 c0).bind fun x2 =>
    (xas h 0 x2 v1 0).bind fun h3 =>
    some (Sum.inl ((w32 (v1 + 1), h3)))
  else
    some (Sum.inr h)
def f_X12_laysWays_L25 (c0 : Int) (h : xa_H) (v1 v2 : Int) : Option ((Int × Int) ⊕ (Int)) :=
  (xrc h 12 c0 (f_X12_holderMany c0 h)).bind fun r5 =>
  if v2 < r5 then
    (xrc h 12 c0 (f_X12_heldMany c0 h)).bind fun r7 =>
    some (Sum.inl ((w32 (v1 * r7), w32 (v2 + 1))))
  else
    some (Sum.inr v1)
def f_X12_laysWays_L72 (c0 c1 c2 c3 : Int) (v4 : Int) (h : xa_H) : Option ((Int × xa_H) ⊕ (xa_H)) :=
  (xrc h 12 c0 (f_X12_holderMany c0 h)).bind fun r12 =>
  if v4 < r12 then
    (xgf h 12 72 c0).bind fun x14 =>
    (xgf h 12 66 c0).bind fun x15 =>
    (xal h 0 x15 v4).bind fun x16 =>
    (xal h 0 x14 (w32 ((w32 (6 * v4)) + x16))).bind fun x17 =>
    (xas h 0 x14 (w32 ((w32 (6 * v4)) + x16)) (w32 (x17 + 1))).bind fun h18 =>
    some (Sum.inl ((w32 (v4 + 1), h18)))
  else
    some (Sum.inr h)
def f_X12_laysWays_L50 (c0 c1 : Int) (v2 v3 : Int) (h : xa_H) : Option ((Int × Int × xa_H) ⊕ (Int × xa_H)) :=
  if v3 < c1 then
    (xrc h 12 c0 (f_X12_isWay c0 v3 h)).bind fun r10 =>
    if r10.1 = 0 then
      some (Sum.inl ((v2, w32 (v3 + 1), r10.2)))
    else
      (xit (fun s => f_X12_laysWays_L72 c0 c1 (w32 (v2 + 1)) v3 s.1 s.2) xFU ((0, r10.2))).bind fun e19 =>
      some (Sum.inl ((w32 (v2 + 1), w32 (v3 + 1), e19)))
  else
    some (Sum.inr ((v2, h)))
def f_X12_laysWays (v0 : Int) (h : xa_H) : Option (Int × xa_H) :=
  (xit (fun s => f_X12_laysWays_L2 v0 s.1 s.2) xFU ((0, h))).bind fun e4 =>
  (xit (fun s => f_X12_laysWays_L25 v0 e4 s.1 s.2) xFU ((1, 0))).bind fun e8 =>
  (xit (fun s => f_X12_laysWays_L50 v0 e8 s.1 s.2.1 s.2.2) xFU ((0, 0, e4))).bind fun e20 =>
  some ((e20.1, e20.2))
def f_X12_can_L32 (c0 c1 : Int) (h : xa_H) (v3 v4 : Int) : Option ((Int × Int) ⊕ (Int)) :=
  (xrc h 12 c0 (f_X12_heldMany c0 h)).bind fun r4 =>
  if v4 < r4 then
    (xgf h 12 72 c0).bind fun x6 =>
    (xal h 0 x6 (w32 ((w32 (6 * c1)) + v4))).bind fun x7 =>
    if 0 < x7 then
      some (Sum.inl ((xior v3 (xshl 1 v4), w32 (v4 + 1))))
    else
      some (Sum.inl ((v3, w32 (v4 + 1))))
  else
    some (Sum.inr v3)
def f_X12_can_J15 (v0 v1 : Int) (h : xa_H) : Option (Int × xa_H) :=
  (xrc h 12 v0 (f_X12_laysWays v0 h)).bind fun r2 =>
  if v1 = (-1) then
    some ((r2.1, r2.2))
  else
    (xit (fun s => f_X12_can_L32 v0 v1 r2.2 s.1 s.2) xFU ((0, 0))).bind fun e9 =>
    some ((e9, r2.2))
def f_X12_can (v0 v1 : Int) (h : xa_H) : Option (Int × xa_H) :=
  if v1 = (-1) then
    f_X12_can_J15 v0 v1 h
  else
    (xrc h 12 v0 (f_X12_isHolder v0 v1 h)).bind fun r10 =>
    if r10 = 0 then
      some (((-1), h))
    else
      f_X12_can_J15 v0 v1 h
def f_X12_clear_L19 (c0 c1 : Int) (h : xa_H) (v2 v4 : Int) : Option ((Int × Int) ⊕ (Int)) :=
  if v4 < c1 then
    (xgf h 12 43 c0).bind fun x4 =>
    (xal h 0 x4 1).bind fun x5 =>
    some (Sum.inl ((w64 (v2 * (w32 (100 - x5))), w32 (v4 + 1))))
  else
    some (Sum.inr v2)
def f_X12_clear_L47 (c1 : Int) (h : xa_H) (v2 v4 : Int) : Option ((Int × Int) ⊕ (Int)) :=
  if v4 < 3 then
    some (Sum.inl ((w64 (v2 * 100), w32 (v4 + 1))))
  else
    some (Sum.inr v2)
def f_X12_clear_L68 (c1 : Int) (h : xa_H) (v2 v4 : Int) : Option ((Int × Int) ⊕ (Int)) :=
  if v4 < c1 then
    some (Sum.inl ((w64 (Int.tdiv v2 100), w32 (v4 + 1))))
  else
    some (Sum.inr v2)
def f_X12_clear (v0 v1 : Int) (h : xa_H) : Option (Int) :=
  (f_X12_isIn v1 0 5 h).bind fun r1 =>
  if r1 = 0 then
    some ((-1))
  else
    (xit (fun s => f_X12_clear_L19 v0 v1 h s.1 s.2) xFU ((1, 0))).bind fun e6 =>
    (xit (fun s => f_X12_clear_L47 v1 h s.1 s.2) xFU ((e6, v1))).bind fun e8 =>
    (xit (fun s => f_X12_clear_L68 v1 h s.1 s.2) xFU ((e8, 3))).bind fun e10 =>
    some (w32 e10)
def f_X12_end (v0 v1 : Int) (h : xa_H) : Option (Int × xa_H) :=
  if v1 < 0 then
    (xgf h 12 9 v0).bind fun x2 =>
    (xal h 0 x2 0).bind fun x3 =>
    (xas h 0 x2 0 (w32 (x3 + 1))).bind fun h4 =>
    some ((0, h4))
  else
    (xgf h 12 1 v0).bind fun x5 =>
    if x5 < v1 then
      (xgf h 12 9 v0).bind fun x7 =>
      (xal h 0 x7 0).bind fun x8 =>
      (xas h 0 x7 0 (w32 (x8 + 1))).bind fun h9 =>
      some ((0, h9))
    else
      (xpf h 12 1 v0 v1).bind fun h10 =>
      some ((1, h10))
def f_X12_fault (v0 v1 : Int) (h : xa_H) : Option (Int) :=
  if v1 = 0 then
    (xgf h 12 7 v0).bind fun x2 =>
    some x2
  else
    if v1 = 1 then
      (xgf h 12 8 v0).bind fun x4 =>
      some x4
    else
      some ((-1))
def f_X12_feed_J81L28 (c0 c1 c2 c3 c4 c5 v6 s0 : Int) (h : xa_H) : Option ((Int × xa_H) ⊕ (xa_H)) :=
  (xgf h 12 0 c0).bind fun x8 =>
  (xgf h 12 1 c0).bind fun x9 =>
  (xas h 0 x8 x9 (xand (xshr s0 (w32 (8 * (w32 (3 - (Int.tmod v6 4)))))) 255)).bind fun h10 =>
  (xgf h10 12 1 c0).bind fun x11 =>
  (xpf h10 12 1 c0 (w32 (x11 + 1))).bind fun h12 =>
  some (Sum.inl ((w32 (v6 + 1), h12)))
def f_X12_feed_L28 (c0 c1 c2 c3 c4 c5 : Int) (v6 : Int) (h : xa_H) : Option ((Int × xa_H) ⊕ (xa_H)) :=
  if v6 < 20 then
    if v6 < 4 then
      f_X12_feed_J81L28 c0 c1 c2 c3 c4 c5 v6 c1 h
    else
      if v6 < 8 then
        f_X12_feed_J81L28 c0 c1 c2 c3 c4 c5 v6 c2 h
      else
        if v6 < 12 then
          f_X12_feed_J81L28 c0 c1 c2 c3 c4 c5 v6 c3 h
        else
          if v6 < 16 then
            f_X12_feed_J81L28 c0 c1 c2 c3 c4 c5 v6 c4 h
          else
            f_X12_feed_J81L28 c0 c1 c2 c3 c4 c5 v6 c5 h
  else
    some (Sum.inr h)
def f_X12_feed (v0 v1 v2 v3 v4 v5 : Int) (h : xa_H) : Option (Int × xa_H) :=
  (xgf h 12 1 v0).bind fun x1 =>
  if 1600 < w32 (x1 + 20) then
    (xgf h 12 9 v0).bind fun x3 =>
    (xal h 0 x3 0).bind fun x4 =>
    (xas h 0 x3 0 (w32 (x4 + 1))).bind fun h5 =>
    some (((-1), h5))
  else
    (xit (fun s => f_X12_feed_L28 v0 v1 v2 v3 v4 v5 s.1 s.2) xFU ((0, h))).bind fun e16 =>
    (xgf e16 12 1 v0).bind fun x17 =>
    some ((x17, e16))
def f_X12_bits_L4 (h : xa_H) (v1 v2 : Int) : Option ((Int × Int) ⊕ (Int)) :=
  if v2 = 0 then
    some (Sum.inr v1)
  else
    some (Sum.inl ((w32 (v1 + 1), xand v2 (w32 (v2 - 1)))))
def f_X12_bits (v0 : Int) (h : xa_H) : Option (Int) :=
  (xit (fun s => f_X12_bits_L4 h s.1 s.2) xFU ((0, v0))).bind fun e2 =>
  some e2
def f_X12_areFeud (v0 v1 v2 : Int) (h : xa_H) : Option (Int) :=
  (xgf h 12 42 v0).bind fun x1 =>
  (xal h 0 x1 (w32 (6 + v1))).bind fun x2 =>
  if xand (xshr x2 v2) 1 = 1 then
    some 1
  else
    some 0
def f_X12_isGain (v0 v1 v2 : Int) (h : xa_H) : Option (Int) :=
  if v1 = v2 then
    some 0
  else
    (xrc h 12 v0 (f_X12_areFeud v0 v1 v2 h)).bind fun r2 =>
    if r2 = 0 then
      (xrc h 12 v0 (f_X12_hadBy v0 v2 h)).bind fun r4 =>
      (xrc h 12 v0 (f_X12_valueOf v0 v1 r4 h)).bind fun r5 =>
      (xrc h 12 v0 (f_X12_hadBy v0 v1 h)).bind fun r6 =>
      (xrc h 12 v0 (f_X12_valueOf v0 v1 r6 h)).bind fun r7 =>
      if r7 < r5 then
        (xrc h 12 v0 (f_X12_hadBy v0 v1 h)).bind fun r9 =>
        (xrc h 12 v0 (f_X12_valueOf v0 v2 r9 h)).bind fun r10 =>
        (xrc h 12 v0 (f_X12_hadBy v0 v2 h)).bind fun r11 =>
        (xrc h 12 v0 (f_X12_valueOf v0 v2 r11 h)).bind fun r12 =>
        if r12 < r10 then
          some 1
        else
          some 0
      else
        some 0
    else
      some 0
def f_X12_gain_L25 (c0 c1 c2 : Int) (h : xa_H) (v3 v4 : Int) : Option ((Int × Int) ⊕ (Int)) :=
  (xrc h 12 c0 (f_X12_holderMany c0 h)).bind fun r5 =>
  if v4 < r5 then
    (xrc h 12 c0 (f_X12_isGain c0 c1 v4 h)).bind fun r7 =>
    if r7 = 0 then
      some (Sum.inl ((v3, w32 (v4 + 1))))
    else
      some (Sum.inl ((xior v3 (xshl 1 v4), w32 (v4 + 1))))
  else
    some (Sum.inr v3)
def f_X12_gain (v0 v1 v2 : Int) (h : xa_H) : Option (Int) :=
  (xrc h 12 v0 (f_X12_isHolder v0 v1 h)).bind fun r1 =>
  if r1 = 0 then
    some ((-1))
  else
    (f_X12_isIn v2 0 1 h).bind fun r3 =>
    if r3 = 0 then
      some ((-1))
    else
      (xit (fun s => f_X12_gain_L25 v0 v1 v2 h s.1 s.2) xFU ((0, 0))).bind fun e9 =>
      if v2 = 0 then
        (f_X12_bits e9 h).bind fun r11 =>
        some r11
      else
        some e9
def f_X12_isSettled (v0 v1 : Int) (h : xa_H) : Option (Int) :=
  (xrc h 12 v0 (f_X12_hadBy v0 v1 h)).bind fun r1 =>
  (xrc h 12 v0 (f_X12_wantedBy v0 v1 h)).bind fun r2 =>
  if r1 = r2 then
    some 1
  else
    some 0
def f_X12_sumOf_L4 (c0 c1 : Int) (h : xa_H) (v2 v3 : Int) : Option ((Int × Int) ⊕ (Int)) :=
  (xrc h 12 c0 (f_X12_holderMany c0 h)).bind fun r1 =>
  if v3 < r1 then
    if c1 = 5 then
      (xrc h 12 c0 (f_X12_isSettled c0 v3 h)).bind fun r4 =>
      if r4 = 0 then
        some (Sum.inl ((w32 (v2 + 0), w32 (v3 + 1))))
      else
        some (Sum.inl ((w32 (v2 + 1), w32 (v3 + 1))))
    else
      if c1 = 6 then
        (xrc h 12 c0 (f_X12_purseOf c0 v3 h)).bind fun r7 =>
        some (Sum.inl ((w32 (v2 + r7), w32 (v3 + 1))))
      else
        (xrc h 12 c0 (f_X12_hadBy c0 v3 h)).bind fun r8 =>
        (xrc h 12 c0 (f_X12_valueOf c0 v3 r8 h)).bind fun r9 =>
        some (Sum.inl ((w32 (v2 + r9), w32 (v3 + 1))))
  else
    some (Sum.inr v2)
def f_X12_sumOf (v0 v1 : Int) (h : xa_H) : Option (Int) :=
  (xit (fun s => f_X12_sumOf_L4 v0 v1 h s.1 s.2) xFU ((0, 0))).bind fun e10 =>
  some e10
def f_X12_has (v0 v1 : Int) (h : xa_H) : Option (Int) :=
  if v1 = 0 then
    (xgf h 12 34 v0).bind fun x2 =>
    (xal h 0 x2 (w32 (3 + v1))).bind fun x3 =>
    some x3
  else
    if v1 = 1 then
      (xgf h 12 34 v0).bind fun x5 =>
      (xal h 0 x5 (w32 (3 + v1))).bind fun x6 =>
      some x6
    else
      if v1 = 2 then
        (xgf h 12 34 v0).bind fun x8 =>
        (xal h 0 x8 (w32 (3 + v1))).bind fun x9 =>
        some x9
      else
        if v1 = 3 then
          (xgf h 12 43 v0).bind fun x11 =>
          (xal h 0 x11 1).bind fun x12 =>
          some x12
        else
          if v1 = 4 then
            (xgf h 12 50 v0).bind fun x14 =>
            (xal h 0 x14 0).bind fun x15 =>
            some x15
          else
            if v1 = 5 then
              (xrc h 12 v0 (f_X12_sumOf v0 v1 h)).bind fun r17 =>
              some r17
            else
              if v1 = 6 then
                (xrc h 12 v0 (f_X12_sumOf v0 v1 h)).bind fun r19 =>
                some r19
              else
                if v1 = 7 then
                  (xrc h 12 v0 (f_X12_sumOf v0 v1 h)).bind fun r21 =>
                  some r21
                else
                  if v1 = 8 then
                    (xgf h 12 50 v0).bind fun x23 =>
                    (xal h 0 x23 55).bind fun x24 =>
                    some x24
                  else
                    if v1 = 9 then
                      (xgf h 12 70 v0).bind fun x26 =>
                      some x26
                    else
                      if v1 = 10 then
                        (xgf h 12 74 v0).bind fun x28 =>
                        some x28
                      else
                        some ((-1))
def f_X12_holderOf_L2 (c0 c1 : Int) (h : xa_H) (v2 : Int) : Option ((Int) ⊕ ((Int) ⊕ (Unit))) :=
  (xrc h 12 c0 (f_X12_holderMany c0 h)).bind fun r1 =>
  if v2 < r1 then
    (xrc h 12 c0 (f_X12_hadBy c0 v2 h)).bind fun r3 =>
    if r3 = c1 then
      some (Sum.inr (Sum.inl v2))
    else
      some (Sum.inl (w32 (v2 + 1)))
  else
    some (Sum.inr (Sum.inr (())))
def f_X12_holderOf (v0 v1 : Int) (h : xa_H) : Option (Int) :=
  (xit (fun s => f_X12_holderOf_L2 v0 v1 h s) xFU 0).bind fun e5 =>
  xel e5 (fun r => some r) (fun y6 =>
    some ((-1)))
def f_X12_isHeldThere (v0 v1 : Int) (h : xa_H) : Option (Int) :=
  (xrc h 12 v0 (f_X12_heldMany v0 h)).bind fun r1 =>
  (f_X12_isIn v1 0 (w32 (r1 - 1)) h).bind fun r2 =>
  xbo r2 <|
  some r2
def f_X12_wantMany_L4 (c0 c1 : Int) (h : xa_H) (v2 v3 : Int) : Option ((Int × Int) ⊕ (Int)) :=
  (xrc h 12 c0 (f_X12_holderMany c0 h)).bind fun r1 =>
  if v3 < r1 then
    (xrc h 12 c0 (f_X12_wantedBy c0 v3 h)).bind fun r3 =>
    if r3 = c1 then
      some (Sum.inl ((w32 (v2 + 1), w32 (v3 + 1))))
    else
      some (Sum.inl ((v2, w32 (v3 + 1))))
  else
    some (Sum.inr v2)
def f_X12_wantMany (v0 v1 : Int) (h : xa_H) : Option (Int) :=
  (xit (fun s => f_X12_wantMany_L4 v0 v1 h s.1 s.2) xFU ((0, 0))).bind fun e5 =>
  some e5
def f_X12_held (v0 v1 v2 : Int) (h : xa_H) : Option (Int) :=
  (xrc h 12 v0 (f_X12_isHeldThere v0 v1 h)).bind fun r1 =>
  if r1 = 0 then
    some ((-1))
  else
    if v2 = 0 then
      (xgf h 12 36 v0).bind fun x4 =>
      (xal h 0 x4 (w32 (6 + v1))).bind fun x5 =>
      some x5
    else
      if v2 = 1 then
        (xrc h 12 v0 (f_X12_holderOf v0 v1 h)).bind fun r7 =>
        some r7
      else
        if v2 = 2 then
          (xgf h 12 37 v0).bind fun x9 =>
          (xal h 0 x9 (w32 (6 + v1))).bind fun x10 =>
          some x10
        else
          if v2 = 3 then
            (xrc h 12 v0 (f_X12_wantMany v0 v1 h)).bind fun r12 =>
            some r12
          else
            some ((-1))
def f_X12_holder (v0 v1 v2 : Int) (h : xa_H) : Option (Int) :=
  (xrc h 12 v0 (f_X12_isHolder v0 v1 h)).bind fun r1 =>
  if r1 = 0 then
    some ((-1))
  else
    if v2 = 0 then
      (xrc h 12 v0 (f_X12_hadBy v0 v1 h)).bind fun r4 =>
      some r4
    else
      if v2 = 1 then
        (xrc h 12 v0 (f_X12_wantedBy v0 v1 h)).bind fun r6 =>
        some r6
      else
        if v2 = 2 then
          (xrc h 12 v0 (f_X12_purseOf v0 v1 h)).bind fun r8 =>
          some r8
        else
          if v2 = 3 then
            (xrc h 12 v0 (f_X12_isSettled v0 v1 h)).bind fun r10 =>
            if r10 = 0 then
              some 0
            else
              some 1
          else
            if v2 = 4 then
              (xgf h 12 42 v0).bind fun x13 =>
              (xal h 0 x13 (w32 (6 + v1))).bind fun x14 =>
              some x14
            else
              some ((-1))
def f_X12_checked_L5 (c0 c1 : Int) (h : xa_H) (v2 v3 : Int) : Option ((Int × Int) ⊕ (Int)) :=
  if v3 < c1 then
    (xal h 0 c0 v3).bind fun x2 =>
    some (Sum.inl ((Int.tmod (w32 ((w32 (3 * v2)) + x2)) 251, w32 (v3 + 1))))
  else
    some (Sum.inr v2)
def f_X12_checked (v0 v1 : Int) (h : xa_H) : Option (Int) :=
  (xit (fun s => f_X12_checked_L5 v0 v1 h s.1 s.2) xFU ((17, 0))).bind fun e3 =>
  some e3
def f_X12_writes (v0 v1 : Int) (h : xa_H) : Option (xa_H) :=
  (xgf h 12 107 v0).bind fun x1 =>
  (xgf h 12 108 v0).bind fun x2 =>
  (xas h 0 x1 x2 v1).bind fun h3 =>
  (xgf h3 12 108 v0).bind fun x4 =>
  (xpf h3 12 108 v0 (w32 (x4 + 1))).bind fun h5 =>
  some h5
def f_X12_image_L89 (c0 c1 : Int) (v2 : Int) (h : xa_H) : Option ((Int × xa_H) ⊕ (xa_H)) :=
  (xrc h 12 c0 (f_X12_holderMany c0 h)).bind fun r18 =>
  if v2 < r18 then
    (xrc h 12 c0 (f_X12_metBy c0 c1 v2 h)).bind fun r20 =>
    (xrc h 12 c0 (f_X12_writes c0 r20 h)).bind fun r21 =>
    some (Sum.inl ((w32 (v2 + 1), r21)))
  else
    some (Sum.inr h)
def f_X12_image_L35 (c0 : Int) (v1 : Int) (h : xa_H) : Option ((Int × xa_H) ⊕ (xa_H)) :=
  (xrc h 12 c0 (f_X12_holderMany c0 h)).bind fun r8 =>
  if v1 < r8 then
    (xrc h 12 c0 (f_X12_hadBy c0 v1 h)).bind fun r10 =>
    (xrc h 12 c0 (f_X12_writes c0 r10 h)).bind fun r11 =>
    (xrc r11 12 c0 (f_X12_wantedBy c0 v1 r11)).bind fun r12 =>
    (xrc r11 12 c0 (f_X12_writes c0 r12 r11)).bind fun r13 =>
    (xrc r13 12 c0 (f_X12_purseOf c0 v1 r13)).bind fun r14 =>
    (xrc r13 12 c0 (f_X12_writes c0 (w32 (Int.tdiv r14 256)) r13)).bind fun r15 =>
    (xrc r15 12 c0 (f_X12_purseOf c0 v1 r15)).bind fun r16 =>
    (xrc r15 12 c0 (f_X12_writes c0 (Int.tmod r16 256) r15)).bind fun r17 =>
    (xit (fun s => f_X12_image_L89 c0 v1 s.1 s.2) xFU ((0, r17))).bind fun e22 =>
    some (Sum.inl ((w32 (v1 + 1), e22)))
  else
    some (Sum.inr h)
def f_X12_image (v0 : Int) (h : xa_H) : Option (Int × xa_H) :=
  (xpf h 12 108 v0 0).bind fun h1 =>
  (xgf h1 12 50 v0).bind fun x2 =>
  (xal h1 0 x2 0).bind fun x3 =>
  (xrc h1 12 v0 (f_X12_writes v0 (w32 (Int.tdiv x3 256)) h1)).bind fun r4 =>
  (xgf r4 12 50 v0).bind fun x5 =>
  (xal r4 0 x5 0).bind fun x6 =>
  (xrc r4 12 v0 (f_X12_writes v0 (Int.tmod x6 256) r4)).bind fun r7 =>
  (xit (fun s => f_X12_image_L35 v0 s.1 s.2) xFU ((0, r7))).bind fun e23 =>
  (xgf e23 12 107 v0).bind fun x24 =>
  (xgf e23 12 108 v0).bind fun x25 =>
  (f_X12_checked x24 x25 e23).bind fun r26 =>
  (xrc e23 12 v0 (f_X12_writes v0 r26 e23)).bind fun r27 =>
  (xgf r27 12 108 v0).bind fun x28 =>
  some ((x28, r27))
def f_X12_isRing_L30 (c0 c1 : Int) (h : xa_H) (v2 v3 : Int) : Option ((Int × Int) ⊕ ((Int × xa_H) ⊕ (Unit))) :=
  if v3 < c1 then
    (xgf h 12 0 c0).bind fun x6 =>
    (xal h 0 x6 v3).bind fun x7 =>
    (xrc h 12 c0 (f_X12_isHolder c0 x7 h)).bind fun r8 =>
    if r8 = 0 then
      some (Sum.inr (Sum.inl ((0, h))))
    else
      (xgf h 12 0 c0).bind fun x10 =>
      (xal h 0 x10 v3).bind fun x11 =>
      if xand (xshr v2 x11) 1 = 1 then
        some (Sum.inr (Sum.inl ((0, h))))
      else
        (xgf h 12 0 c0).bind fun x13 =>
        (xal h 0 x13 v3).bind fun x14 =>
        some (Sum.inl ((xior v2 (xshl 1 x14), w32 (v3 + 1))))
  else
    some (Sum.inr (Sum.inr (())))
def f_X12_isRing_L83 (c0 c1 : Int) (v3 : Int) (h : xa_H) : Option ((Int × xa_H) ⊕ (xa_H)) :=
  if v3 < c1 then
    (xgf h 12 55 c0).bind fun x18 =>
    (xgf h 12 0 c0).bind fun x19 =>
    (xal h 0 x19 v3).bind fun x20 =>
    (xas h 0 x18 v3 x20).bind fun h21 =>
    some (Sum.inl ((w32 (v3 + 1), h21)))
  else
    some (Sum.inr h)
def f_X12_isRing (v0 : Int) (h : xa_H) : Option (Int × xa_H) :=
  (xgf h 12 1 v0).bind fun x1 =>
  (xpf h 12 1 v0 0).bind fun h2 =>
  (f_X12_isIn x1 2 6 h2).bind fun r3 =>
  if r3 = 0 then
    some ((0, h2))
  else
    (xit (fun s => f_X12_isRing_L30 v0 x1 h2 s.1 s.2) xFU ((0, 0))).bind fun e15 =>
    xel e15 (fun r => some r) (fun y16 =>
      (xit (fun s => f_X12_isRing_L83 v0 x1 s.1 s.2) xFU ((0, h2))).bind fun e22 =>
      (xpf e22 12 56 v0 x1).bind fun h23 =>
      some ((1, h23)))
def f_X12_giverOf (v0 v1 : Int) (h : xa_H) : Option (Int) :=
  (xgf h 12 55 v0).bind fun x1 =>
  (xgf h 12 56 v0).bind fun x2 =>
  (xgf h 12 56 v0).bind fun x3 =>
  xnz x3 <|
  (xal h 0 x1 (Int.tmod (w32 ((w32 (v1 + x2)) - 1)) x3)).bind fun x5 =>
  some x5
def f_X12_asksOf_J32 (v0 v1 v2 v3 s0 s1 : Int) (h : xa_H) : Option (xa_H) :=
  (xpf h 12 52 s0 s1).bind fun h6 =>
  (xgf h6 12 36 v0).bind fun x7 =>
  (xal h6 0 x7 (w32 (6 + v3))).bind fun x8 =>
  (xpf h6 12 53 v0 x8).bind fun h9 =>
  (xrc h9 12 v0 (f_X12_metBy v0 v1 v2 h9)).bind fun r10 =>
  (xpf h9 12 54 v0 r10).bind fun h11 =>
  (xpf h11 12 49 v0 1).bind fun h12 =>
  some h12
def f_X12_asksOf (v0 v1 v2 : Int) (h : xa_H) : Option (xa_H) :=
  (xrc h 12 v0 (f_X12_hadBy v0 v2 h)).bind fun r1 =>
  (xrc h 12 v0 (f_X12_valueOf v0 v1 r1 h)).bind fun r2 =>
  (xpf h 12 51 v0 r2).bind fun h3 =>
  (xrc h3 12 v0 (f_X12_wantedBy v0 v1 h3)).bind fun r4 =>
  if r4 = r1 then
    f_X12_asksOf_J32 v0 v1 v2 r1 v0 1 h3
  else
    f_X12_asksOf_J32 v0 v1 v2 r1 v0 0 h3
def f_X12_codesTell_L14 (c0 c1 c2 : Int) (v3 : Int) (h : xa_H) : Option ((Int × xa_H) ⊕ (xa_H)) :=
  (xgf h 12 45 c0).bind fun x4 =>
  (xal h 0 x4 (w32 (2 + c1))).bind fun x5 =>
  if v3 < x5 then
    (xgf h 12 46 c0).bind fun x7 =>
    (xal h 0 x7 (w32 (1600 + v3))).bind fun x8 =>
    if x8 < 1000 then
      if x8 < 40 then
        if x8 = 13 then
          (xrc h 12 c0 (f_X12_qPuts c0 1 h)).bind fun r12 =>
          some (Sum.inl ((w32 (v3 + 1), r12)))
        else
          if x8 = 12 then
            (xgf h 12 103 c0).bind fun x14 =>
            (xgf h 12 104 c0).bind fun x15 =>
            (xgf h 12 103 c0).bind fun x16 =>
            (xgf h 12 104 c0).bind fun x17 =>
            (xal h 1 x16 (w32 (x17 - 1))).bind fun x18 =>
            (xas h 1 x14 (w32 (x15 - 1)) (w64 (1 - x18))).bind fun h19 =>
            some (Sum.inl ((w32 (v3 + 1), h19)))
          else
            (xrc h 12 c0 (f_X12_qJoins c0 x8 h)).bind fun r20 =>
            some (Sum.inl ((w32 (v3 + 1), r20)))
      else
        (xrc h 12 c0 (f_X12_qPartOf c0 (w32 (x8 - 40)) c2 h)).bind fun r21 =>
        (xrc h 12 c0 (f_X12_qPuts c0 r21 h)).bind fun r22 =>
        some (Sum.inl ((w32 (v3 + 1), r22)))
    else
      (xrc h 12 c0 (f_X12_qPuts c0 (w32 (x8 - 1000)) h)).bind fun r23 =>
      some (Sum.inl ((w32 (v3 + 1), r23)))
  else
    some (Sum.inr h)
def f_X12_codesTell (v0 v1 v2 : Int) (h : xa_H) : Option (Int × xa_H) :=
  (xpf h 12 104 v0 0).bind fun h1 =>
  (xgf h1 12 44 v0).bind fun x2 =>
  (xal h1 0 x2 (w32 (2 + v1))).bind fun x3 =>
  (xit (fun s => f_X12_codesTell_L14 v0 v1 v2 s.1 s.2) xFU ((x3, h1))).bind fun e24 =>
  (xgf e24 12 103 v0).bind fun x25 =>
  (xal e24 1 x25 0).bind fun x26 =>
  some ((x26, e24))
def f_X12_paysOf (v0 v1 v2 : Int) (h : xa_H) : Option (Int × xa_H) :=
  (xgf h 12 44 v0).bind fun x1 =>
  (xal h 0 x1 3).bind fun x2 =>
  if x2 = (-1) then
    some ((0, h))
  else
    (xrc h 12 v0 (f_X12_asksOf v0 v1 v2 h)).bind fun r4 =>
    (xrc r4 12 v0 (f_X12_codesTell v0 1 v1 r4)).bind fun r5 =>
    if xcmp r5.1 0 < 0 then
      some ((0, r5.2))
    else
      if 0 < xcmp r5.1 999 then
        some ((999, r5.2))
      else
        some ((w32 r5.1, r5.2))
def f_X12_paysAll_L4 (c0 : Int) (v1 v2 : Int) (h : xa_H) : Option ((Int × Int × xa_H) ⊕ (Int × xa_H)) :=
  (xgf h 12 56 c0).bind fun x1 =>
  if v2 < x1 then
    (xgf h 12 55 c0).bind fun x3 =>
    (xal h 0 x3 v2).bind fun x4 =>
    (xrc h 12 c0 (f_X12_giverOf c0 v2 h)).bind fun r5 =>
    (xrc h 12 c0 (f_X12_paysOf c0 x4 r5 h)).bind fun r6 =>
    some (Sum.inl ((w32 (v1 + r6.1), w32 (v2 + 1), r6.2)))
  else
    some (Sum.inr ((v1, h)))
def f_X12_paysAll (v0 : Int) (h : xa_H) : Option (Int × xa_H) :=
  (xit (fun s => f_X12_paysAll_L4 v0 s.1 s.2.1 s.2.2) xFU ((0, 0, h))).bind fun e7 =>
  some ((e7.1, e7.2))
def f_X12_refuses (v0 v1 : Int) (h : xa_H) : Option (Int × xa_H) :=
  (xgf h 12 9 v0).bind fun x1 =>
  (xal h 0 x1 v1).bind fun x2 =>
  (xas h 0 x1 v1 (w32 (x2 + 1))).bind fun h3 =>
  some (((-1), h3))
def f_X12_doesSwap (v0 v1 v2 : Int) (h : xa_H) : Option (Int × xa_H) :=
  (xgf h 12 44 v0).bind fun x1 =>
  (xal h 0 x1 2).bind fun x2 =>
  if x2 = (-1) then
    some ((1, h))
  else
    (xrc h 12 v0 (f_X12_asksOf v0 v1 v2 h)).bind fun r4 =>
    (xrc r4 12 v0 (f_X12_codesTell v0 0 v1 r4)).bind fun r5 =>
    if xcmp r5.1 1 = 0 then
      some ((1, r5.2))
    else
      some ((0, r5.2))
def f_X12_whyNot_L7 (c0 : Int) (v1 : Int) (h : xa_H) : Option ((Int × xa_H) ⊕ ((Int × xa_H) ⊕ (xa_H))) :=
  (xgf h 12 56 c0).bind fun x2 =>
  if v1 < x2 then
    (xgf h 12 55 c0).bind fun x4 =>
    (xal h 0 x4 v1).bind fun x5 =>
    (xgf h 12 55 c0).bind fun x6 =>
    (xgf h 12 56 c0).bind fun x7 =>
    xnz x7 <|
    (xal h 0 x6 (Int.tmod (w32 (v1 + 1)) x7)).bind fun x9 =>
    (xrc h 12 c0 (f_X12_areFeud c0 x5 x9 h)).bind fun r10 =>
    if r10 = 0 then
      some (Sum.inl ((w32 (v1 + 1), h)))
    else
      (xgf h 12 55 c0).bind fun x12 =>
      (xal h 0 x12 v1).bind fun x13 =>
      (xpf h 12 57 c0 x13).bind fun h14 =>
      some (Sum.inr (Sum.inl ((1, h14))))
  else
    some (Sum.inr (Sum.inr h))
def f_X12_whyNot_L61 (c0 : Int) (v1 : Int) (h : xa_H) : Option ((Int × xa_H) ⊕ ((Int × xa_H) ⊕ (xa_H))) :=
  (xgf h 12 56 c0).bind fun x17 =>
  if v1 < x17 then
    (xgf h 12 55 c0).bind fun x19 =>
    (xal h 0 x19 v1).bind fun x20 =>
    (xrc h 12 c0 (f_X12_giverOf c0 v1 h)).bind fun r21 =>
    (xrc h 12 c0 (f_X12_doesSwap c0 x20 r21 h)).bind fun r22 =>
    if r22.1 = 0 then
      (xgf r22.2 12 55 c0).bind fun x24 =>
      (xal r22.2 0 x24 v1).bind fun x25 =>
      (xpf r22.2 12 57 c0 x25).bind fun h26 =>
      some (Sum.inr (Sum.inl ((2, h26))))
    else
      some (Sum.inl ((w32 (v1 + 1), r22.2)))
  else
    some (Sum.inr (Sum.inr h))
def f_X12_whyNot_L107 (c0 : Int) (v1 : Int) (h : xa_H) : Option ((Int × xa_H) ⊕ ((Int × xa_H) ⊕ (xa_H))) :=
  (xgf h 12 56 c0).bind fun x29 =>
  if v1 < x29 then
    (xgf h 12 55 c0).bind fun x31 =>
    (xal h 0 x31 v1).bind fun x32 =>
    (xrc h 12 c0 (f_X12_giverOf c0 v1 h)).bind fun r33 =>
    (xrc h 12 c0 (f_X12_paysOf c0 x32 r33 h)).bind fun r34 =>
    (xgf r34.2 12 55 c0).bind fun x35 =>
    (xal r34.2 0 x35 v1).bind fun x36 =>
    (xrc r34.2 12 c0 (f_X12_purseOf c0 x36 r34.2)).bind fun r37 =>
    if r37 < r34.1 then
      (xgf r34.2 12 55 c0).bind fun x39 =>
      (xal r34.2 0 x39 v1).bind fun x40 =>
      (xpf r34.2 12 57 c0 x40).bind fun h41 =>
      some (Sum.inr (Sum.inl ((3, h41))))
    else
      some (Sum.inl ((w32 (v1 + 1), r34.2)))
  else
    some (Sum.inr (Sum.inr h))
def f_X12_whyNot (v0 : Int) (h : xa_H) : Option (Int × xa_H) :=
  (xpf h 12 57 v0 ((-1))).bind fun h1 =>
  (xit (fun s => f_X12_whyNot_L7 v0 s.1 s.2) xFU ((0, h1))).bind fun e15 =>
  xel e15 (fun r => some r) (fun y16 =>
    (xit (fun s => f_X12_whyNot_L61 v0 s.1 s.2) xFU ((0, y16))).bind fun e27 =>
    xel e27 (fun r => some r) (fun y28 =>
      (xit (fun s => f_X12_whyNot_L107 v0 s.1 s.2) xFU ((0, y28))).bind fun e42 =>
      xel e42 (fun r => some r) (fun y43 =>
        some ((0, y43)))))
def f_X12_judge (v0 : Int) (h : xa_H) : Option (Int × xa_H) :=
  (xrc h 12 v0 (f_X12_isRing v0 h)).bind fun r1 =>
  if r1.1 = 0 then
    (xrc r1.2 12 v0 (f_X12_refuses v0 1 r1.2)).bind fun r3 =>
    some ((r3.1, r3.2))
  else
    (xrc r1.2 12 v0 (f_X12_whyNot v0 r1.2)).bind fun r4 =>
    (xgf r4.2 12 57 v0).bind fun x5 =>
    (xpf r4.2 12 61 v0 x5).bind fun h6 =>
    (xrc h6 12 v0 (f_X12_paysAll v0 h6)).bind fun r7 =>
    (xpf r7.2 12 62 v0 r7.1).bind fun h8 =>
    (xpf h8 12 60 v0 1).bind fun h9 =>
    some ((r4.1, h9))
def f_X12_judged (v0 v1 : Int) (h : xa_H) : Option (Int) :=
  (xgf h 12 60 v0).bind fun x1 =>
  if x1 = 0 then
    some ((-1))
  else
    if v1 = 0 then
      (xgf h 12 61 v0).bind fun x4 =>
      some x4
    else
      if v1 = 1 then
        (xgf h 12 62 v0).bind fun x6 =>
        some x6
      else
        some ((-1))
def f_X12_kept (v0 v1 v2 : Int) (h : xa_H) : Option (Int) :=
  (xgf h 12 50 v0).bind fun x1 =>
  (xal h 0 x1 55).bind fun x2 =>
  (f_X12_isIn v1 0 (w32 (x2 - 1)) h).bind fun r3 =>
  if r3 = 0 then
    some ((-1))
  else
    (f_X12_isIn v2 0 3 h).bind fun r5 =>
    if r5 = 0 then
      some ((-1))
    else
      (xgf h 12 50 v0).bind fun x7 =>
      (xal h 0 x7 (w32 ((w32 (56 + (w32 (4 * v1)))) + v2))).bind fun x8 =>
      some x8
def f_X12_letter_L67 (c3 c4 : Int) (h : xa_H) (v6 v7 : Int) : Option ((Int × Int) ⊕ (Int)) :=
  if 0 < xcmp v7 0 then
    some (Sum.inl ((w32 (v6 + 1), w64 (Int.tdiv v7 27))))
  else
    some (Sum.inr v6)
def f_X12_letter_L102 (c3 : Int) (h : xa_H) (v4 v7 : Int) : Option ((Int × Int) ⊕ (Int)) :=
  if c3 < v7 then
    some (Sum.inl ((w64 (Int.tdiv v4 27), w32 (v7 + (-1)))))
  else
    some (Sum.inr v4)
def f_X12_letter (v0 v1 v2 v3 : Int) (h : xa_H) : Option (Int) :=
  (f_X12_isIn v1 0 1 h).bind fun r1 =>
  if r1 = 0 then
    some ((-1))
  else
    (xgf h 12 34 v0).bind fun x3 =>
    (xal h 0 x3 (w32 (3 + v1))).bind fun x4 =>
    (f_X12_isIn v2 0 (w32 (x4 - 1)) h).bind fun r5 =>
    if r5 = 0 then
      some ((-1))
    else
      (f_X12_isIn v3 0 5 h).bind fun r7 =>
      if r7 = 0 then
        some ((-1))
      else
        (xgf h 12 35 v0).bind fun x9 =>
        (xal h 1 x9 (w32 ((w32 (12 + (w32 (6 * v1)))) + v2))).bind fun x10 =>
        (xit (fun s => f_X12_letter_L67 v3 x10 h s.1 s.2) xFU ((0, x10))).bind fun e12 =>
        if v3 < e12 then
          (xit (fun s => f_X12_letter_L102 v3 h s.1 s.2) xFU ((x10, w32 (e12 - 1)))).bind fun e15 =>
          some (w32 (Int.tmod e15 27))
        else
          some 0
def f_X12_areSettled_L2 (c0 : Int) (h : xa_H) (v1 : Int) : Option ((Int) ⊕ ((Int) ⊕ (Unit))) :=
  (xrc h 12 c0 (f_X12_holderMany c0 h)).bind fun r1 =>
  if v1 < r1 then
    (xgf h 12 66 c0).bind fun x3 =>
    (xal h 0 x3 v1).bind fun x4 =>
    (xrc h 12 c0 (f_X12_hadBy c0 x4 h)).bind fun r5 =>
    (xrc h 12 c0 (f_X12_wantedBy c0 v1 h)).bind fun r6 =>
    if r5 = r6 then
      some (Sum.inl (w32 (v1 + 1)))
    else
      some (Sum.inr (Sum.inl 0))
  else
    some (Sum.inr (Sum.inr (())))
def f_X12_areSettled (v0 : Int) (h : xa_H) : Option (Int) :=
  (xit (fun s => f_X12_areSettled_L2 v0 h s) xFU 0).bind fun e8 =>
  xel e8 (fun r => some r) (fun y9 =>
    some 1)
def f_X12_stateOf_L9 (c0 : Int) (h : xa_H) (v1 v2 : Int) : Option ((Int × Int) ⊕ (Int)) :=
  if v2 < 0 then
    some (Sum.inr v1)
  else
    (xgf h 12 66 c0).bind fun x3 =>
    (xal h 0 x3 v2).bind fun x4 =>
    some (Sum.inl ((w32 ((w32 (6 * v1)) + x4), w32 (v2 + (-1)))))
def f_X12_stateOf (v0 : Int) (h : xa_H) : Option (Int) :=
  (xrc h 12 v0 (f_X12_holderMany v0 h)).bind fun r1 =>
  (xit (fun s => f_X12_stateOf_L9 v0 h s.1 s.2) xFU ((0, w32 (r1 - 1)))).bind fun e5 =>
  some e5
def f_X12_comesTo (v0 v1 : Int) (h : xa_H) : Option (xa_H) :=
  (xrc h 12 v0 (f_X12_stateOf v0 h)).bind fun r1 =>
  (xgf h 12 63 v0).bind fun x2 =>
  (xal h 0 x2 r1).bind fun x3 =>
  if x3 = (-1) then
    (xgf h 12 63 v0).bind fun x5 =>
    (xas h 0 x5 r1 v1).bind fun h6 =>
    (xgf h6 12 64 v0).bind fun x7 =>
    (xgf h6 12 65 v0).bind fun x8 =>
    (xas h6 0 x7 x8 r1).bind fun h9 =>
    (xgf h9 12 65 v0).bind fun x10 =>
    (xpf h9 12 65 v0 (w32 (x10 + 1))).bind fun h11 =>
    some h11
  else
    some h
def f_X12_isState_L4 (c0 : Int) (v2 v3 : Int) (h : xa_H) : Option ((Int × Int × xa_H) ⊕ (xa_H)) :=
  (xrc h 12 c0 (f_X12_holderMany c0 h)).bind fun r1 =>
  if v3 < r1 then
    (xgf h 12 66 c0).bind fun x3 =>
    (xas h 0 x3 v3 (Int.tmod v2 6)).bind fun h4 =>
    some (Sum.inl ((w32 (Int.tdiv v2 6), w32 (v3 + 1), h4)))
  else
    some (Sum.inr h)
def f_X12_isState (v0 v1 : Int) (h : xa_H) : Option (xa_H) :=
  (xit (fun s => f_X12_isState_L4 v0 s.1 s.2.1 s.2.2) xFU ((v1, 0, h))).bind fun e5 =>
  some e5
def f_X12_tries_J38 (v0 v1 v2 v4 v6 : Int) (h : xa_H) : Option (xa_H) :=
  (xgf h 12 66 v0).bind fun x5 =>
  (xgf h 12 66 v0).bind fun x6 =>
  (xal h 0 x6 v1).bind fun x7 =>
  (xas h 0 x5 v2 x7).bind fun h8 =>
  (xgf h8 12 66 v0).bind fun x9 =>
  (xas h8 0 x9 v1 v6).bind fun h10 =>
  (xrc h10 12 v0 (f_X12_comesTo v0 v4 h10)).bind fun r11 =>
  some r11
def f_X12_tries_J10 (v0 v1 v2 v3 v4 s0 : Int) (h : xa_H) : Option (xa_H) :=
  (xgf h 12 66 v0).bind fun x2 =>
  (xal h 0 x2 s0).bind fun x3 =>
  if v3 = (-1) then
    f_X12_tries_J38 v0 v1 v2 v4 x3 h
  else
    (xgf h 12 66 v0).bind fun x12 =>
    (xgf h 12 66 v0).bind fun x13 =>
    (xal h 0 x13 v2).bind fun x14 =>
    (xas h 0 x12 v3 x14).bind fun h15 =>
    f_X12_tries_J38 v0 v1 v2 v4 x3 h15
def f_X12_tries (v0 v1 v2 v3 v4 : Int) (h : xa_H) : Option (xa_H) :=
  if v3 = (-1) then
    f_X12_tries_J10 v0 v1 v2 v3 v4 v2 h
  else
    f_X12_tries_J10 v0 v1 v2 v3 v4 v3 h
def f_X12_triesAll_L79 (c0 c1 c2 c3 c4 c5 : Int) (v6 : Int) (h : xa_H) : Option ((Int × xa_H) ⊕ (xa_H)) :=
  (xrc h 12 c0 (f_X12_holderMany c0 h)).bind fun r13 =>
  if v6 < r13 then
    if c2 = 3 then
      if c4 < v6 then
        if c4 < c5 then
          if v6 = c5 then
            some (Sum.inl ((w32 (v6 + 1), h)))
          else
            (xrc h 12 c0 (f_X12_areFeud c0 c5 v6 h)).bind fun r19 =>
            if r19 = 0 then
              (xrc h 12 c0 (f_X12_areFeud c0 c4 v6 h)).bind fun r21 =>
              if r21 = 0 then
                (xrc h 12 c0 (f_X12_isState c0 c1 h)).bind fun r23 =>
                (xrc r23 12 c0 (f_X12_tries c0 c4 c5 v6 c3 r23)).bind fun r24 =>
                some (Sum.inl ((w32 (v6 + 1), r24)))
              else
                some (Sum.inl ((w32 (v6 + 1), h)))
            else
              some (Sum.inl ((w32 (v6 + 1), h)))
        else
          some (Sum.inl ((w32 (v6 + 1), h)))
      else
        some (Sum.inl ((w32 (v6 + 1), h)))
    else
      some (Sum.inr h)
  else
    some (Sum.inr h)
def f_X12_triesAll_J76L24 (c0 c1 c2 c3 c4 v5 : Int) (h : xa_H) : Option ((Int × xa_H) ⊕ (xa_H)) :=
  (xit (fun s => f_X12_triesAll_L79 c0 c1 c2 c3 c4 v5 s.1 s.2) xFU ((0, h))).bind fun e25 =>
  some (Sum.inl ((w32 (v5 + 1), e25)))
def f_X12_triesAll_L24 (c0 c1 c2 c3 c4 : Int) (v5 : Int) (h : xa_H) : Option ((Int × xa_H) ⊕ (xa_H)) :=
  (xrc h 12 c0 (f_X12_holderMany c0 h)).bind fun r5 =>
  if v5 < r5 then
    if c4 = v5 then
      some (Sum.inl ((w32 (v5 + 1), h)))
    else
      (xrc h 12 c0 (f_X12_areFeud c0 c4 v5 h)).bind fun r8 =>
      if r8 = 0 then
        (xrc h 12 c0 (f_X12_isState c0 c1 h)).bind fun r10 =>
        if c4 < v5 then
          (xrc r10 12 c0 (f_X12_tries c0 c4 v5 ((-1)) c3 r10)).bind fun r12 =>
          f_X12_triesAll_J76L24 c0 c1 c2 c3 c4 v5 r12
        else
          f_X12_triesAll_J76L24 c0 c1 c2 c3 c4 v5 r10
      else
        some (Sum.inl ((w32 (v5 + 1), h)))
  else
    some (Sum.inr h)
def f_X12_triesAll_L12 (c0 c1 c2 c3 : Int) (v4 : Int) (h : xa_H) : Option ((Int × xa_H) ⊕ (xa_H)) :=
  (xrc h 12 c0 (f_X12_holderMany c0 h)).bind fun r3 =>
  if v4 < r3 then
    (xit (fun s => f_X12_triesAll_L24 c0 c1 c2 c3 v4 s.1 s.2) xFU ((0, h))).bind fun e26 =>
    some (Sum.inl ((w32 (v4 + 1), e26)))
  else
    some (Sum.inr h)
def f_X12_triesAll (v0 v1 v2 : Int) (h : xa_H) : Option (xa_H) :=
  (xgf h 12 63 v0).bind fun x1 =>
  (xal h 0 x1 v1).bind fun x2 =>
  (xit (fun s => f_X12_triesAll_L12 v0 v1 v2 (w32 (x2 + 1)) s.1 s.2) xFU ((0, h))).bind fun e27 =>
  some e27
def f_X12_meetings_L18 (c0 c1 : Int) (v2 : Int) (h : xa_H) : Option ((Int × xa_H) ⊕ (xa_H)) :=
  if v2 < 46656 then
    (xgf h 12 63 c0).bind fun x4 =>
    (xas h 0 x4 v2 ((-1))).bind fun h5 =>
    some (Sum.inl ((w32 (v2 + 1), h5)))
  else
    some (Sum.inr h)
def f_X12_meetings_L39 (c0 c1 : Int) (v2 : Int) (h : xa_H) : Option ((Int × xa_H) ⊕ (xa_H)) :=
  (xrc h 12 c0 (f_X12_holderMany c0 h)).bind fun r7 =>
  if v2 < r7 then
    (xgf h 12 66 c0).bind fun x9 =>
    (xas h 0 x9 v2 v2).bind fun h10 =>
    some (Sum.inl ((w32 (v2 + 1), h10)))
  else
    some (Sum.inr h)
def f_X12_meetings_L72 (c0 c1 : Int) (v2 : Int) (h : xa_H) : Option ((Int × xa_H) ⊕ ((Int × xa_H) ⊕ (xa_H))) :=
  (xgf h 12 65 c0).bind fun x14 =>
  if v2 < x14 then
    (xgf h 12 64 c0).bind fun x16 =>
    (xal h 0 x16 v2).bind fun x17 =>
    (xrc h 12 c0 (f_X12_isState c0 x17 h)).bind fun r18 =>
    (xrc r18 12 c0 (f_X12_areSettled c0 r18)).bind fun r19 =>
    if r19 = 0 then
      (xgf r18 12 64 c0).bind fun x21 =>
      (xal r18 0 x21 v2).bind fun x22 =>
      (xrc r18 12 c0 (f_X12_triesAll c0 x22 c1 r18)).bind fun r23 =>
      some (Sum.inl ((w32 (v2 + 1), r23)))
    else
      (xgf r18 12 63 c0).bind fun x24 =>
      (xgf r18 12 64 c0).bind fun x25 =>
      (xal r18 0 x25 v2).bind fun x26 =>
      (xal r18 0 x24 x26).bind fun x27 =>
      some (Sum.inr (Sum.inl ((x27, r18))))
  else
    some (Sum.inr (Sum.inr h))
def f_X12_meetings (v0 v1 : Int) (h : xa_H) : Option (Int × xa_H) :=
  (f_X12_isIn v1 2 3 h).bind fun r1 =>
  if r1 = 0 then
    some (((-1), h))
  else
    (xit (fun s => f_X12_meetings_L18 v0 v1 s.1 s.2) xFU ((0, h))).bind fun e6 =>
    (xit (fun s => f_X12_meetings_L39 v0 v1 s.1 s.2) xFU ((0, e6))).bind fun e11 =>
    (xpf e11 12 65 v0 0).bind fun h12 =>
    (xrc h12 12 v0 (f_X12_comesTo v0 0 h12)).bind fun r13 =>
    (xit (fun s => f_X12_meetings_L72 v0 v1 s.1 s.2) xFU ((0, r13))).bind fun e28 =>
    xel e28 (fun r => some r) (fun y29 =>
      some (((-1), y29)))
def f_X12_met (v0 v1 v2 : Int) (h : xa_H) : Option (Int) :=
  (xrc h 12 v0 (f_X12_isHolder v0 v1 h)).bind fun r1 =>
  if r1 = 0 then
    some ((-1))
  else
    (xrc h 12 v0 (f_X12_isHolder v0 v2 h)).bind fun r3 =>
    if r3 = 0 then
      some ((-1))
    else
      (xrc h 12 v0 (f_X12_metBy v0 v1 v2 h)).bind fun r5 =>
      some r5
def f_X12_areWanted_L2 (c0 : Int) (h : xa_H) (v1 : Int) : Option ((Int) ⊕ ((Int) ⊕ (Unit))) :=
  (xrc h 12 c0 (f_X12_holderMany c0 h)).bind fun r1 =>
  if v1 < r1 then
    (xrc h 12 c0 (f_X12_wantedBy c0 v1 h)).bind fun r3 =>
    (xrc h 12 c0 (f_X12_wantMany c0 r3 h)).bind fun r4 =>
    if r4 = 1 then
      (xrc h 12 c0 (f_X12_wantedBy c0 v1 h)).bind fun r6 =>
      (xrc h 12 c0 (f_X12_holderOf c0 r6 h)).bind fun r7 =>
      if r7 = (-1) then
        some (Sum.inr (Sum.inl 0))
      else
        some (Sum.inl (w32 (v1 + 1)))
    else
      some (Sum.inr (Sum.inl 0))
  else
    some (Sum.inr (Sum.inr (())))
def f_X12_areWanted (v0 : Int) (h : xa_H) : Option (Int) :=
  (xit (fun s => f_X12_areWanted_L2 v0 h s) xFU 0).bind fun e9 =>
  xel e9 (fun r => some r) (fun y10 =>
    some 1)
def f_X12_needed_L29 (c0 c1 : Int) (h : xa_H) (v2 v3 : Int) : Option ((Int × Int) ⊕ (Int)) :=
  if v3 = c1 then
    some (Sum.inr v2)
  else
    (xrc h 12 c0 (f_X12_wantedBy c0 v3 h)).bind fun r8 =>
    (xrc h 12 c0 (f_X12_holderOf c0 r8 h)).bind fun r9 =>
    some (Sum.inl ((w32 (v2 + 1), r9)))
def f_X12_needed (v0 v1 : Int) (h : xa_H) : Option (Int) :=
  (xrc h 12 v0 (f_X12_isHolder v0 v1 h)).bind fun r1 =>
  if r1 = 0 then
    some ((-1))
  else
    (xrc h 12 v0 (f_X12_areWanted v0 h)).bind fun r3 =>
    if r3 = 0 then
      some ((-1))
    else
      (xrc h 12 v0 (f_X12_wantedBy v0 v1 h)).bind fun r5 =>
      (xrc h 12 v0 (f_X12_holderOf v0 r5 h)).bind fun r6 =>
      (xit (fun s => f_X12_needed_L29 v0 v1 h s.1 s.2) xFU ((1, r6))).bind fun e10 =>
      some e10
def f_X12_next_J96L43 (c0 c1 c2 c5 v6 v7 : Int) (h : xa_H) : Option ((Int × Int × Int) ⊕ (Int × Int)) :=
  some (Sum.inl ((v7, w32 ((w32 (6 * c5)) + v6), w32 (v6 + 1))))
def f_X12_next_J82L43 (c0 c1 c2 c5 v3 v4 v6 v7 : Int) (h : xa_H) : Option ((Int × Int × Int) ⊕ (Int × Int)) :=
  if v3 = (-1) then
    f_X12_next_J96L43 c0 c1 c2 c5 v6 v7 h
  else
    if v7 < v3 then
      f_X12_next_J96L43 c0 c1 c2 c5 v6 v7 h
    else
      some (Sum.inl ((v3, v4, w32 (v6 + 1))))
def f_X12_next_L43 (c0 c1 c2 c5 : Int) (h : xa_H) (v3 v4 v6 : Int) : Option ((Int × Int × Int) ⊕ (Int × Int)) :=
  (xrc h 12 c0 (f_X12_heldMany c0 h)).bind fun r7 =>
  if v6 < r7 then
    (xgf h 12 72 c0).bind fun x9 =>
    (xal h 0 x9 (w32 ((w32 (6 * c5)) + v6))).bind fun x10 =>
    if x10 < w32 (c2 - x10) then
      f_X12_next_J82L43 c0 c1 c2 c5 v3 v4 v6 (w32 (c2 - x10)) h
    else
      f_X12_next_J82L43 c0 c1 c2 c5 v3 v4 v6 x10 h
  else
    some (Sum.inr ((v3, v4)))
def f_X12_next_L27 (c0 c1 c2 : Int) (h : xa_H) (v3 v4 v5 : Int) : Option ((Int × Int × Int) ⊕ (Int × Int)) :=
  (xrc h 12 c0 (f_X12_holderMany c0 h)).bind fun r4 =>
  if v5 < r4 then
    if 0 < c2 then
      (xit (fun s => f_X12_next_L43 c0 c1 c2 v5 h s.1 s.2.1 s.2.2) xFU ((v3, v4, 0))).bind fun e14 =>
      some (Sum.inl ((e14.1, e14.2, w32 (v5 + 1))))
    else
      some (Sum.inr ((v3, v4)))
  else
    some (Sum.inr ((v3, v4)))
def f_X12_next_J121 (v1 v3 v4 : Int) (h : xa_H) : Option (Int × xa_H) :=
  if v4 = (-1) then
    some (((-1), h))
  else
    if v1 = 0 then
      some ((w32 (Int.tdiv v4 6), h))
    else
      if v1 = 1 then
        some ((Int.tmod v4 6, h))
      else
        some ((v3, h))
def f_X12_next (v0 v1 : Int) (h : xa_H) : Option (Int × xa_H) :=
  (f_X12_isIn v1 0 2 h).bind fun r1 =>
  if r1 = 0 then
    some (((-1), h))
  else
    (xrc h 12 v0 (f_X12_laysWays v0 h)).bind fun r3 =>
    (xit (fun s => f_X12_next_L27 v0 v1 r3.1 r3.2 s.1 s.2.1 s.2.2) xFU (((-1), (-1), 0))).bind fun e15 =>
    f_X12_next_J121 v1 e15.1 e15.2 r3.2
def f_X12_keeps_L15 (c0 : Int) (v1 : Int) (h : xa_H) : Option ((Int × xa_H) ⊕ (xa_H)) :=
  if v1 < 176 then
    (xgf h 12 73 c0).bind fun x4 =>
    (xgf h 12 75 c0).bind fun x5 =>
    (xgf h 12 50 c0).bind fun x6 =>
    (xal h 0 x6 v1).bind fun x7 =>
    (xas h 0 x4 (w32 ((w32 (176 * x5)) + v1)) x7).bind fun h8 =>
    some (Sum.inl ((w32 (v1 + 1), h8)))
  else
    some (Sum.inr h)
def f_X12_keeps (v0 : Int) (h : xa_H) : Option (xa_H) :=
  (xgf h 12 75 v0).bind fun x1 =>
  (xpf h 12 75 v0 (Int.tmod (w32 (x1 + 1)) 20)).bind fun h2 =>
  (xit (fun s => f_X12_keeps_L15 v0 s.1 s.2) xFU ((0, h2))).bind fun e9 =>
  (xgf e9 12 74 v0).bind fun x10 =>
  if x10 < 20 then
    (xgf e9 12 74 v0).bind fun x12 =>
    (xpf e9 12 74 v0 (w32 (x12 + 1))).bind fun h13 =>
    some h13
  else
    some e9
def f_X12_comesAbout_L2 (c0 : Int) (v1 : Int) (h : xa_H) : Option ((Int × xa_H) ⊕ (xa_H)) :=
  (xgf h 12 56 c0).bind fun x1 =>
  if v1 < x1 then
    (xgf h 12 58 c0).bind fun x3 =>
    (xrc h 12 c0 (f_X12_giverOf c0 v1 h)).bind fun r4 =>
    (xrc h 12 c0 (f_X12_hadBy c0 r4 h)).bind fun r5 =>
    (xas h 0 x3 v1 r5).bind fun h6 =>
    (xgf h6 12 59 c0).bind fun x7 =>
    (xgf h6 12 55 c0).bind fun x8 =>
    (xal h6 0 x8 v1).bind fun x9 =>
    (xrc h6 12 c0 (f_X12_giverOf c0 v1 h6)).bind fun r10 =>
    (xrc h6 12 c0 (f_X12_paysOf c0 x9 r10 h6)).bind fun r11 =>
    (xas r11.2 0 x7 v1 r11.1).bind fun h12 =>
    some (Sum.inl ((w32 (v1 + 1), h12)))
  else
    some (Sum.inr h)
def f_X12_comesAbout_J137L54 (c0 v1 v2 s0 s1 s2 : Int) (h : xa_H) : Option ((Int × xa_H) ⊕ (xa_H)) :=
  (xas h 0 s0 s1 s2).bind fun h32 =>
  (xrc h32 12 c0 (f_X12_giverOf c0 v1 h32)).bind fun r33 =>
  (xgf h32 12 50 c0).bind fun x34 =>
  (xal h32 0 x34 (w32 ((w32 (v2 + 3)) + r33))).bind fun x35 =>
  if x35 < 99 then
    (xgf h32 12 50 c0).bind fun x37 =>
    (xal h32 0 x37 (w32 ((w32 (v2 + 3)) + r33))).bind fun x38 =>
    (xas h32 0 x37 (w32 ((w32 (v2 + 3)) + r33)) (w32 (x38 + 1))).bind fun h39 =>
    some (Sum.inl ((w32 (v1 + 1), h39)))
  else
    some (Sum.inl ((w32 (v1 + 1), h32)))
def f_X12_comesAbout_L54 (c0 : Int) (v1 : Int) (h : xa_H) : Option ((Int × xa_H) ⊕ (xa_H)) :=
  (xgf h 12 56 c0).bind fun x14 =>
  if v1 < x14 then
    (xgf h 12 55 c0).bind fun x16 =>
    (xal h 0 x16 v1).bind fun x17 =>
    (xgf h 12 50 c0).bind fun x18 =>
    (xgf h 12 58 c0).bind fun x19 =>
    (xal h 0 x19 v1).bind fun x20 =>
    (xas h 0 x18 (w32 (1 + (w32 (9 * x17)))) x20).bind fun h21 =>
    (xgf h21 12 50 c0).bind fun x22 =>
    (xal h21 0 x22 (w32 ((w32 (1 + (w32 (9 * x17)))) + 2))).bind fun x23 =>
    (xgf h21 12 59 c0).bind fun x24 =>
    (xal h21 0 x24 v1).bind fun x25 =>
    (xgf h21 12 59 c0).bind fun x26 =>
    (xgf h21 12 56 c0).bind fun x27 =>
    xnz x27 <|
    (xal h21 0 x26 (Int.tmod (w32 (v1 + 1)) x27)).bind fun x29 =>
    (xgf h21 12 50 c0).bind fun x30 =>
    if 9999 < w32 ((w32 (x23 - x25)) + x29) then
      f_X12_comesAbout_J137L54 c0 v1 (w32 (1 + (w32 (9 * x17)))) x30 (w32 ((w32 (1 + (w32 (9 * x17)))) + 2)) 9999 h21
    else
      f_X12_comesAbout_J137L54 c0 v1 (w32 (1 + (w32 (9 * x17)))) x30 (w32 ((w32 (1 + (w32 (9 * x17)))) + 2)) (w32 ((w32 (x23 - x25)) + x29)) h21
  else
    some (Sum.inr h)
def f_X12_comesAbout (v0 : Int) (h : xa_H) : Option (xa_H) :=
  (xit (fun s => f_X12_comesAbout_L2 v0 s.1 s.2) xFU ((0, h))).bind fun e13 =>
  (xit (fun s => f_X12_comesAbout_L54 v0 s.1 s.2) xFU ((0, e13))).bind fun e40 =>
  some e40
def f_X12_drawOf (v0 v1 : Int) (h : xa_H) : Option (Int × xa_H) :=
  (xgf h 12 76 v0).bind fun x1 =>
  (xpf h 12 76 v0 (Int.tmod (w64 ((w64 (1103515245 * x1)) + 12345)) 2147483648)).bind fun h2 =>
  (xgf h2 12 76 v0).bind fun x3 =>
  xnz v1 <|
  some ((w32 (Int.tmod (w64 (Int.tdiv x3 64)) v1), h2))
def f_X12_isKept_L15 (c0 c1 : Int) (v2 : Int) (h : xa_H) : Option ((Int × xa_H) ⊕ (xa_H)) :=
  if v2 < 172 then
    (xgf h 12 50 c0).bind fun x5 =>
    (xgf h 12 50 c0).bind fun x6 =>
    (xal h 0 x6 (w32 (v2 + 4))).bind fun x7 =>
    (xas h 0 x5 v2 x7).bind fun h8 =>
    some (Sum.inl ((w32 (v2 + 1), h8)))
  else
    some (Sum.inr h)
def f_X12_isKept_J56 (v0 v1 : Int) (h : xa_H) : Option (xa_H) :=
  (xgf h 12 50 v0).bind fun x10 =>
  (xal h 0 x10 55).bind fun x11 =>
  (xgf h 12 50 v0).bind fun x12 =>
  (xgf h 12 50 v0).bind fun x13 =>
  (xal h 0 x13 0).bind fun x14 =>
  (xas h 0 x12 (w32 ((w32 (56 + (w32 (4 * x11)))) - 4)) x14).bind fun h15 =>
  (xgf h15 12 50 v0).bind fun x16 =>
  (xas h15 0 x16 (w32 ((w32 ((w32 (56 + (w32 (4 * x11)))) - 4)) + 1)) v1).bind fun h17 =>
  (xgf h17 12 50 v0).bind fun x18 =>
  (xgf h17 12 56 v0).bind fun x19 =>
  (xas h17 0 x18 (w32 ((w32 ((w32 (56 + (w32 (4 * x11)))) - 4)) + 2)) x19).bind fun h20 =>
  (xgf h20 12 50 v0).bind fun x21 =>
  (xgf h20 12 55 v0).bind fun x22 =>
  (xal h20 0 x22 0).bind fun x23 =>
  (xas h20 0 x21 (w32 ((w32 ((w32 (56 + (w32 (4 * x11)))) - 4)) + 3)) x23).bind fun h24 =>
  some h24
def f_X12_isKept (v0 v1 : Int) (h : xa_H) : Option (xa_H) :=
  (xgf h 12 50 v0).bind fun x1 =>
  (xal h 0 x1 55).bind fun x2 =>
  if x2 = 30 then
    (xit (fun s => f_X12_isKept_L15 v0 v1 s.1 s.2) xFU ((56, h))).bind fun e9 =>
    f_X12_isKept_J56 v0 v1 e9
  else
    (xgf h 12 50 v0).bind fun x25 =>
    (xal h 0 x25 55).bind fun x26 =>
    (xas h 0 x25 55 (w32 (x26 + 1))).bind fun h27 =>
    f_X12_isKept_J56 v0 v1 h27
def f_X12_nightGoes_J95 (v0 v2 : Int) (h : xa_H) : Option (Int × xa_H) :=
  (xrc h 12 v0 (f_X12_isKept v0 v2 h)).bind fun r21 =>
  if v2 = 0 then
    some ((1, r21))
  else
    some ((0, r21))
def f_X12_nightGoes_J86 (v0 s0 : Int) (h : xa_H) : Option (Int × xa_H) :=
  if s0 = 0 then
    (xrc h 12 v0 (f_X12_comesAbout v0 h)).bind fun r20 =>
    f_X12_nightGoes_J95 v0 s0 r20
  else
    f_X12_nightGoes_J95 v0 s0 h
def f_X12_nightGoes_J62 (v0 s0 s1 s2 : Int) (h : xa_H) : Option (Int × xa_H) :=
  (xas h 0 s0 s1 s2).bind fun h14 =>
  (xrc h14 12 v0 (f_X12_drawOf v0 100 h14)).bind fun r15 =>
  (xgf r15.2 12 43 v0).bind fun x16 =>
  (xal r15.2 0 x16 1).bind fun x17 =>
  if r15.1 < x17 then
    f_X12_nightGoes_J86 v0 4 r15.2
  else
    (xrc r15.2 12 v0 (f_X12_whyNot v0 r15.2)).bind fun r23 =>
    f_X12_nightGoes_J86 v0 r23.1 r23.2
def f_X12_nightGoes (v0 : Int) (h : xa_H) : Option (Int × xa_H) :=
  (xrc h 12 v0 (f_X12_holderMany v0 h)).bind fun r1 =>
  if r1 < 2 then
    some ((0, h))
  else
    (xpf h 12 56 v0 2).bind fun h3 =>
    (xgf h3 12 55 v0).bind fun x4 =>
    (xrc h3 12 v0 (f_X12_holderMany v0 h3)).bind fun r5 =>
    (xrc h3 12 v0 (f_X12_drawOf v0 r5 h3)).bind fun r6 =>
    (xas r6.2 0 x4 0 r6.1).bind fun h7 =>
    (xrc h7 12 v0 (f_X12_holderMany v0 h7)).bind fun r8 =>
    (xrc h7 12 v0 (f_X12_drawOf v0 (w32 (r8 - 1)) h7)).bind fun r9 =>
    (xgf r9.2 12 55 v0).bind fun x10 =>
    (xgf r9.2 12 55 v0).bind fun x11 =>
    (xal r9.2 0 x11 0).bind fun x12 =>
    if r9.1 < x12 then
      f_X12_nightGoes_J62 v0 x10 1 r9.1 r9.2
    else
      f_X12_nightGoes_J62 v0 x10 1 (w32 (r9.1 + 1)) r9.2
def f_X12_nights_J26 (v0 : Int) (h : xa_H) : Option (Int × xa_H) :=
  (xrc h 12 v0 (f_X12_refuses v0 3 h)).bind fun r3 =>
  some ((r3.1, r3.2))
def f_X12_nights_J55L40 (c0 c1 v2 v3 : Int) (h : xa_H) : Option ((Int × Int × xa_H) ⊕ (Int × xa_H)) :=
  (xgf h 12 50 c0).bind fun x11 =>
  (xal h 0 x11 0).bind fun x12 =>
  (xas h 0 x11 0 (w32 (x12 + 1))).bind fun h13 =>
  some (Sum.inl ((v2, w32 (v3 + 1), h13)))
def f_X12_nights_L40 (c0 c1 : Int) (v2 v3 : Int) (h : xa_H) : Option ((Int × Int × xa_H) ⊕ (Int × xa_H)) :=
  if v3 < c1 then
    (xrc h 12 c0 (f_X12_nightGoes c0 h)).bind fun r9 =>
    if r9.1 = 0 then
      f_X12_nights_J55L40 c0 c1 v2 v3 r9.2
    else
      f_X12_nights_J55L40 c0 c1 (w32 (v2 + 1)) v3 r9.2
  else
    some (Sum.inr ((v2, h)))
def f_X12_nights (v0 v1 : Int) (h : xa_H) : Option (Int × xa_H) :=
  (f_X12_isIn v1 1 100 h).bind fun r1 =>
  if r1 = 0 then
    f_X12_nights_J26 v0 h
  else
    (xgf h 12 50 v0).bind fun x4 =>
    (xal h 0 x4 0).bind fun x5 =>
    if 9999 < w32 (x5 + v1) then
      f_X12_nights_J26 v0 h
    else
      (xrc h 12 v0 (f_X12_keeps v0 h)).bind fun r7 =>
      (xit (fun s => f_X12_nights_L40 v0 v1 s.1 s.2.1 s.2.2) xFU ((0, 0, r7))).bind fun e14 =>
      some ((e14.1, e14.2))
def f_X12_note_L36 (c0 c1 : Int) (h : xa_H) (v2 v3 : Int) : Option ((Int × Int) ⊕ (Int)) :=
  if v3 < c1 then
    if v2 = 0 then
      some (Sum.inr v2)
    else
      (xgf h 12 0 c0).bind fun x8 =>
      (xal h 0 x8 v3).bind fun x9 =>
      (xrc h 12 c0 (f_X12_isHolder c0 x9 h)).bind fun r10 =>
      if r10 = 0 then
        some (Sum.inl ((0, w32 (v3 + 3))))
      else
        (xgf h 12 0 c0).bind fun x12 =>
        (xal h 0 x12 (w32 (v3 + 1))).bind fun x13 =>
        (xrc h 12 c0 (f_X12_isHeldThere c0 x13 h)).bind fun r14 =>
        if r14 = 0 then
          some (Sum.inl ((0, w32 (v3 + 3))))
        else
          (xgf h 12 0 c0).bind fun x16 =>
          (xal h 0 x16 (w32 (v3 + 2))).bind fun x17 =>
          if x17 < 2 then
            some (Sum.inl ((1, w32 (v3 + 3))))
          else
            some (Sum.inl ((0, w32 (v3 + 3))))
  else
    some (Sum.inr v2)
def f_X12_note_L109 (c0 c1 : Int) (v3 : Int) (h : xa_H) : Option ((Int × xa_H) ⊕ (xa_H)) :=
  if v3 < c1 then
    (xgf h 12 71 c0).bind fun x23 =>
    (xgf h 12 0 c0).bind fun x24 =>
    (xal h 0 x24 v3).bind fun x25 =>
    (xas h 0 x23 v3 x25).bind fun h26 =>
    some (Sum.inl ((w32 (v3 + 1), h26)))
  else
    some (Sum.inr h)
def f_X12_note_J97 (v0 v1 v2 : Int) (h : xa_H) : Option (Int × xa_H) :=
  if v2 = 0 then
    (xrc h 12 v0 (f_X12_refuses v0 1 h)).bind fun r21 =>
    some ((r21.1, r21.2))
  else
    (xit (fun s => f_X12_note_L109 v0 v1 s.1 s.2) xFU ((0, h))).bind fun e27 =>
    (xpf e27 12 70 v0 (w32 (Int.tdiv v1 3))).bind fun h28 =>
    (xgf h28 12 70 v0).bind fun x29 =>
    some ((x29, h28))
def f_X12_note_J33 (v0 v1 s0 : Int) (h : xa_H) : Option (Int × xa_H) :=
  (xit (fun s => f_X12_note_L36 v0 v1 h s.1 s.2) xFU ((s0, 0))).bind fun e19 =>
  f_X12_note_J97 v0 v1 e19 h
def f_X12_note_J32 (v0 v1 : Int) (h : xa_H) : Option (Int × xa_H) :=
  f_X12_note_J33 v0 v1 0 h
def f_X12_note (v0 : Int) (h : xa_H) : Option (Int × xa_H) :=
  (xgf h 12 1 v0).bind fun x1 =>
  (xpf h 12 1 v0 0).bind fun h2 =>
  if 0 < x1 then
    if Int.tmod x1 3 = 0 then
      if 20 < w32 (Int.tdiv x1 3) then
        f_X12_note_J32 v0 x1 h2
      else
        f_X12_note_J33 v0 x1 1 h2
    else
      f_X12_note_J32 v0 x1 h2
  else
    f_X12_note_J32 v0 x1 h2
def f_X12_octet (v0 v1 : Int) (h : xa_H) : Option (Int) :=
  if v1 < 0 then
    some ((-1))
  else
    (xgf h 12 108 v0).bind fun x2 =>
    if v1 < x2 then
      (xgf h 12 107 v0).bind fun x4 =>
      (xal h 0 x4 v1).bind fun x5 =>
      some x5
    else
      some ((-1))
def f_X12_on_L91 (c0 c3 c4 c5 c7 : Int) (h : xa_H) (v6 v8 : Int) : Option ((Int × Int) ⊕ (Int)) :=
  (xrc h 12 c0 (f_X12_holderMany c0 h)).bind fun r15 =>
  if v8 < r15 then
    if xand (xshr c4 c7) 1 = 1 then
      (xrc h 12 c0 (f_X12_metBy c0 c7 v8 h)).bind fun r18 =>
      (xrc h 12 c0 (f_X12_metBy c0 v8 c7 h)).bind fun r19 =>
      if 0 < w32 (r18 + r19) then
        some (Sum.inl ((xior v6 (xshl 1 v8), w32 (v8 + 1))))
      else
        some (Sum.inl ((v6, w32 (v8 + 1))))
    else
      some (Sum.inl ((v6, w32 (v8 + 1))))
  else
    some (Sum.inr v6)
def f_X12_on_L79 (c0 c3 c4 c5 : Int) (h : xa_H) (v6 v7 : Int) : Option ((Int × Int) ⊕ (Int)) :=
  (xrc h 12 c0 (f_X12_holderMany c0 h)).bind fun r13 =>
  if v7 < r13 then
    (xit (fun s => f_X12_on_L91 c0 c3 c4 c5 v7 h s.1 s.2) xFU ((v6, 0))).bind fun e21 =>
    some (Sum.inl ((e21, w32 (v7 + 1))))
  else
    some (Sum.inr v6)
def f_X12_on_L63 (c0 c3 : Int) (h : xa_H) (v4 v5 : Int) : Option ((Int × Int) ⊕ ((Int) ⊕ (Int))) :=
  if xand (xshr v4 c3) 1 = 0 then
    (xit (fun s => f_X12_on_L79 c0 c3 v4 v5 h s.1 s.2) xFU ((v4, 0))).bind fun e22 =>
    if e22 = v4 then
      some (Sum.inr (Sum.inl ((-1))))
    else
      some (Sum.inl ((e22, w32 (v5 + 1))))
  else
    some (Sum.inr (Sum.inr v5))
def f_X12_on (v0 v1 : Int) (h : xa_H) : Option (Int) :=
  (xrc h 12 v0 (f_X12_isHeldThere v0 v1 h)).bind fun r1 =>
  if r1 = 0 then
    some ((-1))
  else
    (xgf h 12 37 v0).bind fun x3 =>
    (xal h 0 x3 (w32 (6 + v1))).bind fun x4 =>
    if x4 = (-1) then
      some ((-1))
    else
      (xrc h 12 v0 (f_X12_holderOf v0 v1 h)).bind fun r6 =>
      (xgf h 12 37 v0).bind fun x7 =>
      (xal h 0 x7 (w32 (6 + v1))).bind fun x8 =>
      (xrc h 12 v0 (f_X12_holderOf v0 x8 h)).bind fun r9 =>
      if r6 = (-1) then
        some ((-1))
      else
        if r9 = (-1) then
          some ((-1))
        else
          (xit (fun s => f_X12_on_L63 v0 r9 h s.1 s.2) xFU ((xshl 1 r6, 0))).bind fun e24 =>
          xel e24 (fun r => some r) (fun y25 =>
            some y25)
def f_X12_stands_L2 (c0 : Int) (v1 : Int) (h : xa_H) : Option ((Int × xa_H) ⊕ (xa_H)) :=
  if v1 < 3 then
    (xgf h 12 34 c0).bind fun x2 =>
    (xgf h 12 34 c0).bind fun x3 =>
    (xal h 0 x3 v1).bind fun x4 =>
    (xas h 0 x2 (w32 (3 + v1)) x4).bind fun h5 =>
    some (Sum.inl ((w32 (v1 + 1), h5)))
  else
    some (Sum.inr h)
def f_X12_stands_L29 (c0 : Int) (v1 : Int) (h : xa_H) : Option ((Int × xa_H) ⊕ (xa_H)) :=
  if v1 < 12 then
    (xgf h 12 35 c0).bind fun x8 =>
    (xgf h 12 35 c0).bind fun x9 =>
    (xal h 1 x9 v1).bind fun x10 =>
    (xas h 1 x8 (w32 (12 + v1)) x10).bind fun h11 =>
    some (Sum.inl ((w32 (v1 + 1), h11)))
  else
    some (Sum.inr h)
def f_X12_stands_L58 (c0 : Int) (v1 : Int) (h : xa_H) : Option ((Int × xa_H) ⊕ (xa_H)) :=
  if v1 < 6 then
    (xgf h 12 36 c0).bind fun x14 =>
    (xgf h 12 36 c0).bind fun x15 =>
    (xal h 0 x15 v1).bind fun x16 =>
    (xas h 0 x14 (w32 (6 + v1)) x16).bind fun h17 =>
    (xgf h17 12 37 c0).bind fun x18 =>
    (xgf h17 12 37 c0).bind fun x19 =>
    (xal h17 0 x19 v1).bind fun x20 =>
    (xas h17 0 x18 (w32 (6 + v1)) x20).bind fun h21 =>
    (xgf h21 12 42 c0).bind fun x22 =>
    (xgf h21 12 42 c0).bind fun x23 =>
    (xal h21 0 x23 v1).bind fun x24 =>
    (xas h21 0 x22 (w32 (6 + v1)) x24).bind fun h25 =>
    some (Sum.inl ((w32 (v1 + 1), h25)))
  else
    some (Sum.inr h)
def f_X12_stands_L117 (c0 : Int) (v1 : Int) (h : xa_H) : Option ((Int × xa_H) ⊕ (xa_H)) :=
  if v1 < 36 then
    (xgf h 12 41 c0).bind fun x28 =>
    (xgf h 12 41 c0).bind fun x29 =>
    (xal h 0 x29 v1).bind fun x30 =>
    (xas h 0 x28 (w32 (36 + v1)) x30).bind fun h31 =>
    some (Sum.inl ((w32 (v1 + 1), h31)))
  else
    some (Sum.inr h)
def f_X12_stands_L158 (c0 : Int) (v1 : Int) (h : xa_H) : Option ((Int × xa_H) ⊕ (xa_H)) :=
  if v1 < 2 then
    (xgf h 12 44 c0).bind fun x38 =>
    (xgf h 12 44 c0).bind fun x39 =>
    (xal h 0 x39 v1).bind fun x40 =>
    (xas h 0 x38 (w32 (2 + v1)) x40).bind fun h41 =>
    (xgf h41 12 45 c0).bind fun x42 =>
    (xgf h41 12 45 c0).bind fun x43 =>
    (xal h41 0 x43 v1).bind fun x44 =>
    (xas h41 0 x42 (w32 (2 + v1)) x44).bind fun h45 =>
    some (Sum.inl ((w32 (v1 + 1), h45)))
  else
    some (Sum.inr h)
def f_X12_stands_L199 (c0 : Int) (v1 : Int) (h : xa_H) : Option ((Int × xa_H) ⊕ (xa_H)) :=
  (xgf h 12 47 c0).bind fun x47 =>
  if v1 < x47 then
    (xgf h 12 46 c0).bind fun x49 =>
    (xgf h 12 46 c0).bind fun x50 =>
    (xal h 0 x50 v1).bind fun x51 =>
    (xas h 0 x49 (w32 (1600 + v1)) x51).bind fun h52 =>
    some (Sum.inl ((w32 (v1 + 1), h52)))
  else
    some (Sum.inr h)
def f_X12_stands_L231 (c0 : Int) (v1 : Int) (h : xa_H) : Option ((Int × xa_H) ⊕ (xa_H)) :=
  if v1 < 176 then
    (xgf h 12 50 c0).bind fun x55 =>
    (xas h 0 x55 v1 0).bind fun h56 =>
    some (Sum.inl ((w32 (v1 + 1), h56)))
  else
    some (Sum.inr h)
def f_X12_stands_L253 (c0 : Int) (v1 : Int) (h : xa_H) : Option ((Int × xa_H) ⊕ (xa_H)) :=
  (xgf h 12 34 c0).bind fun x58 =>
  (xal h 0 x58 1).bind fun x59 =>
  if v1 < x59 then
    (xgf h 12 50 c0).bind fun x61 =>
    (xgf h 12 38 c0).bind fun x62 =>
    (xal h 0 x62 v1).bind fun x63 =>
    (xas h 0 x61 (w32 (1 + (w32 (9 * v1)))) x63).bind fun h64 =>
    (xgf h64 12 50 c0).bind fun x65 =>
    (xgf h64 12 39 c0).bind fun x66 =>
    (xal h64 0 x66 v1).bind fun x67 =>
    (xas h64 0 x65 (w32 ((w32 (1 + (w32 (9 * v1)))) + 1)) x67).bind fun h68 =>
    (xgf h68 12 50 c0).bind fun x69 =>
    (xgf h68 12 40 c0).bind fun x70 =>
    (xal h68 0 x70 v1).bind fun x71 =>
    (xas h68 0 x69 (w32 ((w32 (1 + (w32 (9 * v1)))) + 2)) x71).bind fun h72 =>
    some (Sum.inl ((w32 (v1 + 1), h72)))
  else
    some (Sum.inr h)
def f_X12_stands (v0 : Int) (h : xa_H) : Option (xa_H) :=
  (xit (fun s => f_X12_stands_L2 v0 s.1 s.2) xFU ((0, h))).bind fun e6 =>
  (xit (fun s => f_X12_stands_L29 v0 s.1 s.2) xFU ((0, e6))).bind fun e12 =>
  (xit (fun s => f_X12_stands_L58 v0 s.1 s.2) xFU ((0, e12))).bind fun e26 =>
  (xit (fun s => f_X12_stands_L117 v0 s.1 s.2) xFU ((0, e26))).bind fun e32 =>
  (xgf e32 12 43 v0).bind fun x33 =>
  (xgf e32 12 43 v0).bind fun x34 =>
  (xal e32 0 x34 0).bind fun x35 =>
  (xas e32 0 x33 1 x35).bind fun h36 =>
  (xit (fun s => f_X12_stands_L158 v0 s.1 s.2) xFU ((0, h36))).bind fun e46 =>
  (xit (fun s => f_X12_stands_L199 v0 s.1 s.2) xFU ((0, e46))).bind fun e53 =>
  (xit (fun s => f_X12_stands_L231 v0 s.1 s.2) xFU ((0, e53))).bind fun e57 =>
  (xit (fun s => f_X12_stands_L253 v0 s.1 s.2) xFU ((0, e57))).bind fun e73 =>
  (xpf e73 12 74 v0 0).bind fun h74 =>
  (xpf h74 12 70 v0 0).bind fun h75 =>
  (xpf h75 12 60 v0 0).bind fun h76 =>
  some h76
def f_X12_codesTold_L91 (c0 c1 : Int) (v3 : Int) (h : xa_H) : Option ((Int × xa_H) ⊕ (xa_H)) :=
  (xgf h 12 98 c0).bind fun x20 =>
  if v3 < x20 then
    (xgf h 12 46 c0).bind fun x22 =>
    (xgf h 12 47 c0).bind fun x23 =>
    (xgf h 12 97 c0).bind fun x24 =>
    (xal h 0 x24 v3).bind fun x25 =>
    (xas h 0 x22 x23 x25).bind fun h26 =>
    (xgf h26 12 47 c0).bind fun x27 =>
    (xpf h26 12 47 c0 (w32 (x27 + 1))).bind fun h28 =>
    some (Sum.inl ((w32 (v3 + 1), h28)))
  else
    some (Sum.inr h)
def f_X12_codesTold_J71 (v0 v1 : Int) (h : xa_H) : Option (xa_H) :=
  (xgf h 12 5 v0).bind fun x15 =>
  if x15 = 0 then
    (xgf h 12 44 v0).bind fun x17 =>
    (xgf h 12 47 v0).bind fun x18 =>
    (xas h 0 x17 v1 x18).bind fun h19 =>
    (xit (fun s => f_X12_codesTold_L91 v0 v1 s.1 s.2) xFU ((0, h19))).bind fun e29 =>
    (xgf e29 12 45 v0).bind fun x30 =>
    (xgf e29 12 47 v0).bind fun x31 =>
    (xas e29 0 x30 v1 x31).bind fun h32 =>
    some h32
  else
    some h
def f_X12_codesTold_J23 (v0 v1 : Int) (h : xa_H) : Option (xa_H) :=
  (xgf h 12 5 v0).bind fun x6 =>
  if x6 = 0 then
    (xpf h 12 49 v0 1).bind fun h8 =>
    (xpf h8 12 98 v0 0).bind fun h9 =>
    (xpf h9 12 100 v0 0).bind fun h10 =>
    (xpf h10 12 101 v0 0).bind fun h11 =>
    (xpf h11 12 102 v0 0).bind fun h12 =>
    if v1 = 0 then
      (xrc h12 12 v0 (f_X12_qTest v0 h12)).bind fun r14 =>
      f_X12_codesTold_J71 v0 v1 r14
    else
      (xrc h12 12 v0 (f_X12_qSums v0 h12)).bind fun r33 =>
      f_X12_codesTold_J71 v0 v1 r33
  else
    some h
def f_X12_codesTold (v0 v1 v2 : Int) (h : xa_H) : Option (xa_H) :=
  (xgf h 12 5 v0).bind fun x1 =>
  if x1 = 0 then
    (xgf h 12 44 v0).bind fun x3 =>
    (xal h 0 x3 v1).bind fun x4 =>
    if x4 = (-1) then
      f_X12_codesTold_J23 v0 v1 h
    else
      (xrc h 12 v0 (f_X12_fail v0 5 v2 h)).bind fun r34 =>
      f_X12_codesTold_J23 v0 v1 r34
  else
    f_X12_codesTold_J23 v0 v1 h
def f_X12_isFull_J23 (v0 : Int) (h : xa_H) : Option (Int × xa_H) :=
  (xgf h 12 5 v0).bind fun x7 =>
  if x7 = 0 then
    some ((0, h))
  else
    some ((1, h))
def f_X12_isFull (v0 v1 v2 v3 : Int) (h : xa_H) : Option (Int × xa_H) :=
  (xgf h 12 5 v0).bind fun x1 =>
  if x1 = 0 then
    (xgf h 12 34 v0).bind fun x3 =>
    (xal h 0 x3 v1).bind fun x4 =>
    if x4 = v2 then
      (xrc h 12 v0 (f_X12_fail v0 5 v3 h)).bind fun r6 =>
      f_X12_isFull_J23 v0 r6
    else
      f_X12_isFull_J23 v0 h
  else
    f_X12_isFull_J23 v0 h
def f_X12_isOwnHere_J223 (v0 s0 : Int) (h : xa_H) : Option (Int × xa_H) :=
  if s0 = 0 then
    (xgf h 12 28 v0).bind fun x58 =>
    (xrc h 12 v0 (f_X12_isHere v0 x58 h)).bind fun r59 =>
    if r59.1 = 0 then
      (xgf r59.2 12 29 v0).bind fun x61 =>
      (xrc r59.2 12 v0 (f_X12_isHere v0 x61 r59.2)).bind fun r62 =>
      if r62.1 = 0 then
        (xgf r62.2 12 30 v0).bind fun x64 =>
        (xrc r62.2 12 v0 (f_X12_isHere v0 x64 r62.2)).bind fun r65 =>
        if r65.1 = 0 then
          (xgf r65.2 12 31 v0).bind fun x67 =>
          (xrc r65.2 12 v0 (f_X12_isHere v0 x67 r65.2)).bind fun r68 =>
          if r68.1 = 0 then
            (xgf r68.2 12 32 v0).bind fun x70 =>
            (xrc r68.2 12 v0 (f_X12_isHere v0 x70 r68.2)).bind fun r71 =>
            if r71.1 = 0 then
              some ((0, r71.2))
            else
              some ((1, r71.2))
          else
            some ((1, r68.2))
        else
          some ((1, r65.2))
      else
        some ((1, r62.2))
    else
      some ((1, r59.2))
  else
    some ((1, h))
def f_X12_isOwnHere_J218 (v0 : Int) (h : xa_H) : Option (Int × xa_H) :=
  f_X12_isOwnHere_J223 v0 1 h
def f_X12_isOwnHere_J147 (v0 s0 : Int) (h : xa_H) : Option (Int × xa_H) :=
  if s0 = 0 then
    (xgf h 12 22 v0).bind fun x39 =>
    (xrc h 12 v0 (f_X12_isHere v0 x39 h)).bind fun r40 =>
    if r40.1 = 0 then
      (xgf r40.2 12 23 v0).bind fun x42 =>
      (xrc r40.2 12 v0 (f_X12_isHere v0 x42 r40.2)).bind fun r43 =>
      if r43.1 = 0 then
        (xgf r43.2 12 24 v0).bind fun x45 =>
        (xrc r43.2 12 v0 (f_X12_isHere v0 x45 r43.2)).bind fun r46 =>
        if r46.1 = 0 then
          (xgf r46.2 12 25 v0).bind fun x48 =>
          (xrc r46.2 12 v0 (f_X12_isHere v0 x48 r46.2)).bind fun r49 =>
          if r49.1 = 0 then
            (xgf r49.2 12 26 v0).bind fun x51 =>
            (xrc r49.2 12 v0 (f_X12_isHere v0 x51 r49.2)).bind fun r52 =>
            if r52.1 = 0 then
              (xgf r52.2 12 27 v0).bind fun x54 =>
              (xrc r52.2 12 v0 (f_X12_isHere v0 x54 r52.2)).bind fun r55 =>
              if r55.1 = 0 then
                f_X12_isOwnHere_J223 v0 0 r55.2
              else
                f_X12_isOwnHere_J218 v0 r55.2
            else
              f_X12_isOwnHere_J218 v0 r52.2
          else
            f_X12_isOwnHere_J218 v0 r49.2
        else
          f_X12_isOwnHere_J218 v0 r46.2
      else
        f_X12_isOwnHere_J218 v0 r43.2
    else
      f_X12_isOwnHere_J218 v0 r40.2
  else
    f_X12_isOwnHere_J218 v0 h
def f_X12_isOwnHere_J142 (v0 : Int) (h : xa_H) : Option (Int × xa_H) :=
  f_X12_isOwnHere_J147 v0 1 h
def f_X12_isOwnHere_J71 (v0 s0 : Int) (h : xa_H) : Option (Int × xa_H) :=
  if s0 = 0 then
    (xgf h 12 16 v0).bind fun x20 =>
    (xrc h 12 v0 (f_X12_isHere v0 x20 h)).bind fun r21 =>
    if r21.1 = 0 then
      (xgf r21.2 12 17 v0).bind fun x23 =>
      (xrc r21.2 12 v0 (f_X12_isHere v0 x23 r21.2)).bind fun r24 =>
      if r24.1 = 0 then
        (xgf r24.2 12 18 v0).bind fun x26 =>
        (xrc r24.2 12 v0 (f_X12_isHere v0 x26 r24.2)).bind fun r27 =>
        if r27.1 = 0 then
          (xgf r27.2 12 19 v0).bind fun x29 =>
          (xrc r27.2 12 v0 (f_X12_isHere v0 x29 r27.2)).bind fun r30 =>
          if r30.1 = 0 then
            (xgf r30.2 12 20 v0).bind fun x32 =>
            (xrc r30.2 12 v0 (f_X12_isHere v0 x32 r30.2)).bind fun r33 =>
            if r33.1 = 0 then
              (xgf r33.2 12 21 v0).bind fun x35 =>
              (xrc r33.2 12 v0 (f_X12_isHere v0 x35 r33.2)).bind fun r36 =>
              if r36.1 = 0 then
                f_X12_isOwnHere_J147 v0 0 r36.2
              else
                f_X12_isOwnHere_J142 v0 r36.2
            else
              f_X12_isOwnHere_J142 v0 r33.2
          else
            f_X12_isOwnHere_J142 v0 r30.2
        else
          f_X12_isOwnHere_J142 v0 r27.2
      else
        f_X12_isOwnHere_J142 v0 r24.2
    else
      f_X12_isOwnHere_J142 v0 r21.2
  else
    f_X12_isOwnHere_J142 v0 h
def f_X12_isOwnHere_J66 (v0 : Int) (h : xa_H) : Option (Int × xa_H) :=
  f_X12_isOwnHere_J71 v0 1 h
def f_X12_isOwnHere (v0 : Int) (h : xa_H) : Option (Int × xa_H) :=
  (xgf h 12 10 v0).bind fun x1 =>
  (xrc h 12 v0 (f_X12_isHere v0 x1 h)).bind fun r2 =>
  if r2.1 = 0 then
    (xgf r2.2 12 11 v0).bind fun x4 =>
    (xrc r2.2 12 v0 (f_X12_isHere v0 x4 r2.2)).bind fun r5 =>
    if r5.1 = 0 then
      (xgf r5.2 12 12 v0).bind fun x7 =>
      (xrc r5.2 12 v0 (f_X12_isHere v0 x7 r5.2)).bind fun r8 =>
      if r8.1 = 0 then
        (xgf r8.2 12 13 v0).bind fun x10 =>
        (xrc r8.2 12 v0 (f_X12_isHere v0 x10 r8.2)).bind fun r11 =>
        if r11.1 = 0 then
          (xgf r11.2 12 14 v0).bind fun x13 =>
          (xrc r11.2 12 v0 (f_X12_isHere v0 x13 r11.2)).bind fun r14 =>
          if r14.1 = 0 then
            (xgf r14.2 12 15 v0).bind fun x16 =>
            (xrc r14.2 12 v0 (f_X12_isHere v0 x16 r14.2)).bind fun r17 =>
            if r17.1 = 0 then
              f_X12_isOwnHere_J71 v0 0 r17.2
            else
              f_X12_isOwnHere_J66 v0 r17.2
          else
            f_X12_isOwnHere_J66 v0 r14.2
        else
          f_X12_isOwnHere_J66 v0 r11.2
      else
        f_X12_isOwnHere_J66 v0 r8.2
    else
      f_X12_isOwnHere_J66 v0 r5.2
  else
    f_X12_isOwnHere_J66 v0 r2.2
def f_X12_name_J37 (v0 : Int) (h : xa_H) : Option (Int × xa_H) :=
  (xgf h 12 2 v0).bind fun x6 =>
  (xrc h 12 v0 (f_X12_fail v0 1 x6 h)).bind fun r7 =>
  some ((0, r7))
def f_X12_name_L58 (c0 : Int) (v1 : Int) (h : xa_H) : Option ((Int × xa_H) ⊕ ((Int × xa_H) ⊕ (Int × xa_H))) :=
  (xgf h 12 2 c0).bind fun x15 =>
  (xgf h 12 3 c0).bind fun x16 =>
  if x15 < x16 then
    (xgf h 12 0 c0).bind fun x18 =>
    (xgf h 12 2 c0).bind fun x19 =>
    (xal h 0 x18 x19).bind fun x20 =>
    (f_X12_isLetter x20 h).bind fun r21 =>
    if r21 = 0 then
      some (Sum.inr (Sum.inr ((v1, h))))
    else
      (xgf h 12 2 c0).bind fun x23 =>
      (xgf h 12 33 c0).bind fun x24 =>
      if w32 (x23 - x24) = 6 then
        (xgf h 12 2 c0).bind fun x26 =>
        (xrc h 12 c0 (f_X12_fail c0 1 x26 h)).bind fun r27 =>
        some (Sum.inr (Sum.inl ((0, r27))))
      else
        (xgf h 12 0 c0).bind fun x28 =>
        (xgf h 12 2 c0).bind fun x29 =>
        (xal h 0 x28 x29).bind fun x30 =>
        (xgf h 12 2 c0).bind fun x31 =>
        (xpf h 12 2 c0 (w32 (x31 + 1))).bind fun h32 =>
        some (Sum.inl ((w64 ((w64 ((w64 ((w64 (27 * v1)) + x30)) - 97)) + 1), h32)))
  else
    some (Sum.inr (Sum.inr ((v1, h))))
def f_X12_name (v0 : Int) (h : xa_H) : Option (Int × xa_H) :=
  (xgf h 12 5 v0).bind fun x1 =>
  if x1 = 0 then
    (xrc h 12 v0 (f_X12_look v0 h)).bind fun r3 =>
    (f_X12_isLetter r3.1 r3.2).bind fun r4 =>
    if r4 = 0 then
      f_X12_name_J37 v0 r3.2
    else
      (xgf r3.2 12 2 v0).bind fun x8 =>
      (xgf r3.2 12 4 v0).bind fun x9 =>
      if x8 = x9 then
        f_X12_name_J37 v0 r3.2
      else
        (xrc r3.2 12 v0 (f_X12_isOwnHere v0 r3.2)).bind fun r11 =>
        if r11.1 = 0 then
          (xgf r11.2 12 2 v0).bind fun x13 =>
          (xpf r11.2 12 33 v0 x13).bind fun h14 =>
          (xit (fun s => f_X12_name_L58 v0 s.1 s.2) xFU ((0, h14))).bind fun e33 =>
          xel e33 (fun r => some r) (fun y34 =>
            (xgf y34.2 12 2 v0).bind fun x35 =>
            (xpf y34.2 12 4 v0 x35).bind fun h36 =>
            some ((y34.1, h36)))
        else
          f_X12_name_J37 v0 r11.2
  else
    some ((0, h))
def f_X12_nameOf_L3 (c0 c1 c2 : Int) (h : xa_H) (v4 : Int) : Option ((Int) ⊕ ((Int) ⊕ (Unit))) :=
  (xgf h 12 34 c0).bind fun x1 =>
  (xal h 0 x1 c1).bind fun x2 =>
  if v4 < x2 then
    (xgf h 12 35 c0).bind fun x4 =>
    (xal h 1 x4 (w32 ((w32 (6 * c1)) + v4))).bind fun x5 =>
    if xcmp x5 c2 = 0 then
      some (Sum.inr (Sum.inl v4))
    else
      some (Sum.inl (w32 (v4 + 1)))
  else
    some (Sum.inr (Sum.inr (())))
def f_X12_nameOf (v0 v1 v2 : Int) (h : xa_H) : Option (Int) :=
  (xit (fun s => f_X12_nameOf_L3 v0 v1 v2 h s) xFU 0).bind fun e7 =>
  xel e7 (fun r => some r) (fun y8 =>
    some ((-1)))
def f_X12_oneOf_J35 (v0 v4 : Int) (h : xa_H) : Option (Int × xa_H) :=
  (xgf h 12 5 v0).bind fun x8 =>
  if x8 = 0 then
    some ((v4, h))
  else
    some ((0, h))
def f_X12_oneOf (v0 v1 : Int) (h : xa_H) : Option (Int × xa_H) :=
  (xrc h 12 v0 (f_X12_name v0 h)).bind fun r1 =>
  (xrc r1.2 12 v0 (f_X12_nameOf v0 v1 r1.1 r1.2)).bind fun r2 =>
  (xgf r1.2 12 5 v0).bind fun x3 =>
  if x3 = 0 then
    if r2 = (-1) then
      (xgf r1.2 12 33 v0).bind fun x6 =>
      (xrc r1.2 12 v0 (f_X12_fail v0 3 x6 r1.2)).bind fun r7 =>
      f_X12_oneOf_J35 v0 r2 r7
    else
      f_X12_oneOf_J35 v0 r2 r1.2
  else
    f_X12_oneOf_J35 v0 r2 r1.2
def f_X12_feudTold_J59 (v0 v2 v3 : Int) (h : xa_H) : Option (xa_H) :=
  (xgf h 12 5 v0).bind fun x10 =>
  if x10 = 0 then
    (xgf h 12 42 v0).bind fun x12 =>
    (xal h 0 x12 v2).bind fun x13 =>
    (xas h 0 x12 v2 (xior x13 (xshl 1 v3))).bind fun h14 =>
    (xgf h14 12 42 v0).bind fun x15 =>
    (xal h14 0 x15 v3).bind fun x16 =>
    (xas h14 0 x15 v3 (xior x16 (xshl 1 v2))).bind fun h17 =>
    (xgf h17 12 34 v0).bind fun x18 =>
    (xal h17 0 x18 2).bind fun x19 =>
    (xas h17 0 x18 2 (w32 (x19 + 1))).bind fun h20 =>
    some h20
  else
    some h
def f_X12_feudTold_J50 (v0 v2 v3 : Int) (h : xa_H) : Option (xa_H) :=
  (xgf h 12 33 v0).bind fun x8 =>
  (xrc h 12 v0 (f_X12_fail v0 3 x8 h)).bind fun r9 =>
  f_X12_feudTold_J59 v0 v2 v3 r9
def f_X12_feudTold (v0 v1 : Int) (h : xa_H) : Option (xa_H) :=
  (xrc h 12 v0 (f_X12_isFull v0 2 10 v1 h)).bind fun r1 =>
  if r1.1 = 0 then
    (xrc r1.2 12 v0 (f_X12_oneOf v0 1 r1.2)).bind fun r3 =>
    (xrc r3.2 12 v0 (f_X12_oneOf v0 1 r3.2)).bind fun r4 =>
    (xgf r4.2 12 5 v0).bind fun x5 =>
    if x5 = 0 then
      if r3.1 = r4.1 then
        f_X12_feudTold_J50 v0 r3.1 r4.1 r4.2
      else
        (xgf r4.2 12 42 v0).bind fun x21 =>
        (xal r4.2 0 x21 r3.1).bind fun x22 =>
        if xand (xshr x22 r4.1) 1 = 1 then
          f_X12_feudTold_J50 v0 r3.1 r4.1 r4.2
        else
          f_X12_feudTold_J59 v0 r3.1 r4.1 r4.2
    else
      f_X12_feudTold_J59 v0 r3.1 r4.1 r4.2
  else
    some r1.2
def f_X12_newName_L7 (c0 c1 : Int) (v3 : Int) (h : xa_H) : Option ((Int × xa_H) ⊕ (xa_H)) :=
  if v3 < 2 then
    (xgf h 12 5 c0).bind fun x3 =>
    if x3 = 0 then
      (xrc h 12 c0 (f_X12_nameOf c0 v3 c1 h)).bind fun r5 =>
      if r5 = (-1) then
        some (Sum.inl ((w32 (v3 + 1), h)))
      else
        (xgf h 12 33 c0).bind fun x7 =>
        (xrc h 12 c0 (f_X12_fail c0 3 x7 h)).bind fun r8 =>
        some (Sum.inl ((w32 (v3 + 1), r8)))
    else
      some (Sum.inl ((w32 (v3 + 1), h)))
  else
    some (Sum.inr h)
def f_X12_newName (v0 : Int) (h : xa_H) : Option (Int × xa_H) :=
  (xrc h 12 v0 (f_X12_name v0 h)).bind fun r1 =>
  (xit (fun s => f_X12_newName_L7 v0 r1.1 s.1 s.2) xFU ((0, r1.2))).bind fun e9 =>
  some ((r1.1, e9))
def f_X12_heldTold (v0 v1 : Int) (h : xa_H) : Option (xa_H) :=
  (xrc h 12 v0 (f_X12_isFull v0 0 6 v1 h)).bind fun r1 =>
  if r1.1 = 0 then
    (xrc r1.2 12 v0 (f_X12_newName v0 r1.2)).bind fun r3 =>
    (xgf r3.2 12 11 v0).bind fun x4 =>
    (xrc r3.2 12 v0 (f_X12_asks v0 x4 r3.2)).bind fun r5 =>
    (xrc r5 12 v0 (f_X12_number v0 0 99 r5)).bind fun r6 =>
    (xgf r6.2 12 5 v0).bind fun x7 =>
    if x7 = 0 then
      (xgf r6.2 12 35 v0).bind fun x9 =>
      (xgf r6.2 12 34 v0).bind fun x10 =>
      (xal r6.2 0 x10 0).bind fun x11 =>
      (xas r6.2 1 x9 x11 r3.1).bind fun h12 =>
      (xgf h12 12 36 v0).bind fun x13 =>
      (xgf h12 12 34 v0).bind fun x14 =>
      (xal h12 0 x14 0).bind fun x15 =>
      (xas h12 0 x13 x15 r6.1).bind fun h16 =>
      (xgf h16 12 34 v0).bind fun x17 =>
      (xal h16 0 x17 0).bind fun x18 =>
      (xas h16 0 x17 0 (w32 (x18 + 1))).bind fun h19 =>
      some h19
    else
      some r6.2
  else
    some r1.2
def f_X12_holderTold_L35 (c0 c2 c4 : Int) (v5 : Int) (h : xa_H) : Option ((Int × xa_H) ⊕ (xa_H)) :=
  (xgf h 12 34 c0).bind fun x7 =>
  (xal h 0 x7 1).bind fun x8 =>
  if v5 < x8 then
    (xgf h 12 5 c0).bind fun x10 =>
    if x10 = 0 then
      (xgf h 12 38 c0).bind fun x12 =>
      (xal h 0 x12 v5).bind fun x13 =>
      if x13 = c4 then
        (xgf h 12 33 c0).bind fun x15 =>
        (xrc h 12 c0 (f_X12_fail c0 3 x15 h)).bind fun r16 =>
        some (Sum.inl ((w32 (v5 + 1), r16)))
      else
        some (Sum.inl ((w32 (v5 + 1), h)))
    else
      some (Sum.inl ((w32 (v5 + 1), h)))
  else
    some (Sum.inr h)
def f_X12_holderTold (v0 v1 : Int) (h : xa_H) : Option (xa_H) :=
  (xrc h 12 v0 (f_X12_isFull v0 1 6 v1 h)).bind fun r1 =>
  if r1.1 = 0 then
    (xrc r1.2 12 v0 (f_X12_newName v0 r1.2)).bind fun r3 =>
    (xgf r3.2 12 13 v0).bind fun x4 =>
    (xrc r3.2 12 v0 (f_X12_asks v0 x4 r3.2)).bind fun r5 =>
    (xrc r5 12 v0 (f_X12_oneOf v0 0 r5)).bind fun r6 =>
    (xit (fun s => f_X12_holderTold_L35 v0 r3.1 r6.1 s.1 s.2) xFU ((0, r6.2))).bind fun e17 =>
    (xgf e17 12 14 v0).bind fun x18 =>
    (xrc e17 12 v0 (f_X12_asks v0 x18 e17)).bind fun r19 =>
    (xrc r19 12 v0 (f_X12_oneOf v0 0 r19)).bind fun r20 =>
    (xgf r20.2 12 15 v0).bind fun x21 =>
    (xrc r20.2 12 v0 (f_X12_asks v0 x21 r20.2)).bind fun r22 =>
    (xrc r22 12 v0 (f_X12_number v0 0 999 r22)).bind fun r23 =>
    (xgf r23.2 12 5 v0).bind fun x24 =>
    if x24 = 0 then
      (xgf r23.2 12 34 v0).bind fun x26 =>
      (xal r23.2 0 x26 1).bind fun x27 =>
      (xgf r23.2 12 35 v0).bind fun x28 =>
      (xas r23.2 1 x28 (w32 (6 + x27)) r3.1).bind fun h29 =>
      (xgf h29 12 38 v0).bind fun x30 =>
      (xas h29 0 x30 x27 r6.1).bind fun h31 =>
      (xgf h31 12 39 v0).bind fun x32 =>
      (xas h31 0 x32 x27 r20.1).bind fun h33 =>
      (xgf h33 12 40 v0).bind fun x34 =>
      (xas h33 0 x34 x27 r23.1).bind fun h35 =>
      (xgf h35 12 34 v0).bind fun x36 =>
      (xal h35 0 x36 1).bind fun x37 =>
      (xas h35 0 x36 1 (w32 (x37 + 1))).bind fun h38 =>
      some h38
    else
      some r23.2
  else
    some r1.2
def f_X12_sisterTold_J59 (v0 v1 v2 : Int) (h : xa_H) : Option (xa_H) :=
  (xgf h 12 5 v0).bind fun x13 =>
  if x13 = 0 then
    (xgf h 12 37 v0).bind fun x15 =>
    (xas h 0 x15 v1 v2).bind fun h16 =>
    some h16
  else
    some h
def f_X12_sisterTold_J32 (v0 v1 : Int) (h : xa_H) : Option (xa_H) :=
  (xrc h 12 v0 (f_X12_oneOf v0 0 h)).bind fun r7 =>
  (xgf r7.2 12 5 v0).bind fun x8 =>
  if x8 = 0 then
    if v1 = r7.1 then
      (xgf r7.2 12 33 v0).bind fun x11 =>
      (xrc r7.2 12 v0 (f_X12_fail v0 3 x11 r7.2)).bind fun r12 =>
      f_X12_sisterTold_J59 v0 v1 r7.1 r12
    else
      f_X12_sisterTold_J59 v0 v1 r7.1 r7.2
  else
    f_X12_sisterTold_J59 v0 v1 r7.1 r7.2
def f_X12_sisterTold (v0 : Int) (h : xa_H) : Option (xa_H) :=
  (xrc h 12 v0 (f_X12_oneOf v0 0 h)).bind fun r1 =>
  (xgf r1.2 12 5 v0).bind fun x2 =>
  if x2 = 0 then
    (xgf r1.2 12 37 v0).bind fun x4 =>
    (xal r1.2 0 x4 r1.1).bind fun x5 =>
    if x5 = (-1) then
      f_X12_sisterTold_J32 v0 r1.1 r1.2
    else
      (xgf r1.2 12 33 v0).bind fun x17 =>
      (xrc r1.2 12 v0 (f_X12_fail v0 3 x17 r1.2)).bind fun r18 =>
      f_X12_sisterTold_J32 v0 r1.1 r18
  else
    f_X12_sisterTold_J32 v0 r1.1 r1.2
def f_X12_valuesTold (v0 : Int) (h : xa_H) : Option (xa_H) :=
  (xrc h 12 v0 (f_X12_oneOf v0 1 h)).bind fun r1 =>
  (xrc r1.2 12 v0 (f_X12_oneOf v0 0 r1.2)).bind fun r2 =>
  (xrc r2.2 12 v0 (f_X12_number v0 0 99 r2.2)).bind fun r3 =>
  (xgf r3.2 12 5 v0).bind fun x4 =>
  if x4 = 0 then
    (xgf r3.2 12 41 v0).bind fun x6 =>
    (xas r3.2 0 x6 (w32 ((w32 (6 * r1.1)) + r2.1)) r3.1).bind fun h7 =>
    some h7
  else
    some r3.2
def f_X12_statementTold_J175 (v0 : Int) (h : xa_H) : Option (xa_H) :=
  (xrc h 12 v0 (f_X12_asksSign v0 59 h)).bind fun r31 =>
  (xgf r31 12 48 v0).bind fun x32 =>
  (xpf r31 12 48 v0 (w32 (x32 + 1))).bind fun h33 =>
  some h33
def f_X12_statementTold (v0 : Int) (h : xa_H) : Option (xa_H) :=
  (xgf h 12 2 v0).bind fun x1 =>
  (xgf h 12 48 v0).bind fun x2 =>
  if x2 = 80 then
    (xrc h 12 v0 (f_X12_fail v0 5 x1 h)).bind fun r4 =>
    some r4
  else
    (xgf h 12 10 v0).bind fun x5 =>
    (xrc h 12 v0 (f_X12_takes v0 x5 h)).bind fun r6 =>
    if r6.1 = 0 then
      (xgf r6.2 12 12 v0).bind fun x8 =>
      (xrc r6.2 12 v0 (f_X12_takes v0 x8 r6.2)).bind fun r9 =>
      if r9.1 = 0 then
        (xgf r9.2 12 16 v0).bind fun x11 =>
        (xrc r9.2 12 v0 (f_X12_takes v0 x11 r9.2)).bind fun r12 =>
        if r12.1 = 0 then
          (xgf r12.2 12 17 v0).bind fun x14 =>
          (xrc r12.2 12 v0 (f_X12_takes v0 x14 r12.2)).bind fun r15 =>
          if r15.1 = 0 then
            (xgf r15.2 12 18 v0).bind fun x17 =>
            (xrc r15.2 12 v0 (f_X12_takes v0 x17 r15.2)).bind fun r18 =>
            if r18.1 = 0 then
              (xgf r18.2 12 19 v0).bind fun x20 =>
              (xrc r18.2 12 v0 (f_X12_takes v0 x20 r18.2)).bind fun r21 =>
              if r21.1 = 0 then
                (xgf r21.2 12 20 v0).bind fun x23 =>
                (xrc r21.2 12 v0 (f_X12_takes v0 x23 r21.2)).bind fun r24 =>
                if r24.1 = 0 then
                  (xgf r24.2 12 21 v0).bind fun x26 =>
                  (xrc r24.2 12 v0 (f_X12_asks v0 x26 r24.2)).bind fun r27 =>
                  (xgf r27 12 43 v0).bind fun x28 =>
                  (xrc r27 12 v0 (f_X12_number v0 0 100 r27)).bind fun r29 =>
                  (xas r29.2 0 x28 0 r29.1).bind fun h30 =>
                  f_X12_statementTold_J175 v0 h30
                else
                  (xrc r24.2 12 v0 (f_X12_codesTold v0 1 x1 r24.2)).bind fun r34 =>
                  f_X12_statementTold_J175 v0 r34
              else
                (xrc r21.2 12 v0 (f_X12_codesTold v0 0 x1 r21.2)).bind fun r35 =>
                f_X12_statementTold_J175 v0 r35
            else
              (xrc r18.2 12 v0 (f_X12_sisterTold v0 r18.2)).bind fun r36 =>
              f_X12_statementTold_J175 v0 r36
          else
            (xrc r15.2 12 v0 (f_X12_feudTold v0 x1 r15.2)).bind fun r37 =>
            f_X12_statementTold_J175 v0 r37
        else
          (xrc r12.2 12 v0 (f_X12_valuesTold v0 r12.2)).bind fun r38 =>
          f_X12_statementTold_J175 v0 r38
      else
        (xrc r9.2 12 v0 (f_X12_holderTold v0 x1 r9.2)).bind fun r39 =>
        f_X12_statementTold_J175 v0 r39
    else
      (xrc r6.2 12 v0 (f_X12_heldTold v0 x1 r6.2)).bind fun r40 =>
      f_X12_statementTold_J175 v0 r40
def f_X12_open_L45 (c0 : Int) (v1 : Int) (h : xa_H) : Option ((Int × xa_H) ⊕ (xa_H)) :=
  if v1 < 3 then
    (xgf h 12 34 c0).bind fun x11 =>
    (xas h 0 x11 v1 0).bind fun h12 =>
    some (Sum.inl ((w32 (v1 + 1), h12)))
  else
    some (Sum.inr h)
def f_X12_open_L65 (c0 : Int) (v1 : Int) (h : xa_H) : Option ((Int × xa_H) ⊕ (xa_H)) :=
  if v1 < 36 then
    (xgf h 12 41 c0).bind fun x15 =>
    (xas h 0 x15 v1 0).bind fun h16 =>
    some (Sum.inl ((w32 (v1 + 1), h16)))
  else
    some (Sum.inr h)
def f_X12_open_L86 (c0 : Int) (v1 : Int) (h : xa_H) : Option ((Int × xa_H) ⊕ (xa_H)) :=
  if v1 < 6 then
    (xgf h 12 42 c0).bind fun x19 =>
    (xas h 0 x19 v1 0).bind fun h20 =>
    (xgf h20 12 37 c0).bind fun x21 =>
    (xas h20 0 x21 v1 ((-1))).bind fun h22 =>
    some (Sum.inl ((w32 (v1 + 1), h22)))
  else
    some (Sum.inr h)
def f_X12_open_L133 (c0 : Int) (h : xa_H) : Option ((xa_H) ⊕ (xa_H)) :=
  (xgf h 12 5 c0).bind fun x30 =>
  if x30 = 0 then
    (xrc h 12 c0 (f_X12_look c0 h)).bind fun r32 =>
    if r32.1 = (-1) then
      some (Sum.inr r32.2)
    else
      (xrc r32.2 12 c0 (f_X12_statementTold c0 r32.2)).bind fun r34 =>
      some (Sum.inl r34)
  else
    some (Sum.inr h)
def f_X12_open_J155 (v0 : Int) (h : xa_H) : Option (Int × xa_H) :=
  (xgf h 12 5 v0).bind fun x36 =>
  (xpf h 12 7 v0 x36).bind fun h37 =>
  (xgf h37 12 6 v0).bind fun x38 =>
  (xpf h37 12 8 v0 x38).bind fun h39 =>
  (xgf h39 12 5 v0).bind fun x40 =>
  if x40 = 0 then
    (xrc h39 12 v0 (f_X12_stands v0 h39)).bind fun r42 =>
    (xgf r42 12 48 v0).bind fun x43 =>
    some ((x43, r42))
  else
    (xgf h39 12 9 v0).bind fun x44 =>
    (xal h39 0 x44 1).bind fun x45 =>
    (xas h39 0 x44 1 (w32 (x45 + 1))).bind fun h46 =>
    some (((-1), h46))
def f_X12_open (v0 : Int) (h : xa_H) : Option (Int × xa_H) :=
  (xgf h 12 1 v0).bind fun x1 =>
  (xpf h 12 3 v0 x1).bind fun h2 =>
  (xpf h2 12 1 v0 0).bind fun h3 =>
  (xpf h3 12 2 v0 0).bind fun h4 =>
  (xpf h4 12 4 v0 ((-1))).bind fun h5 =>
  (xpf h5 12 5 v0 0).bind fun h6 =>
  (xpf h6 12 6 v0 ((-1))).bind fun h7 =>
  (xpf h7 12 48 v0 0).bind fun h8 =>
  (xpf h8 12 47 v0 0).bind fun h9 =>
  (xit (fun s => f_X12_open_L45 v0 s.1 s.2) xFU ((0, h9))).bind fun e13 =>
  (xit (fun s => f_X12_open_L65 v0 s.1 s.2) xFU ((0, e13))).bind fun e17 =>
  (xit (fun s => f_X12_open_L86 v0 s.1 s.2) xFU ((0, e17))).bind fun e23 =>
  (xgf e23 12 43 v0).bind fun x24 =>
  (xas e23 0 x24 0 0).bind fun h25 =>
  (xgf h25 12 44 v0).bind fun x26 =>
  (xas h25 0 x26 0 ((-1))).bind fun h27 =>
  (xgf h27 12 44 v0).bind fun x28 =>
  (xas h27 0 x28 1 ((-1))).bind fun h29 =>
  (xit (fun s => f_X12_open_L133 v0 s) xFU h29).bind fun e35 =>
  f_X12_open_J155 v0 e35
def f_X12_holderFrom (v0 v1 : Int) (h : xa_H) : Option (Int) :=
  (xrc h 12 v0 (f_X12_holderMany v0 h)).bind fun r1 =>
  some (w32 (2 + (w32 (v1 * (w32 (4 + r1))))))
def f_X12_isHolderTold_J94L65 (c0 c1 c2 v3 s0 s1 : Int) (h : xa_H) : Option ((Int) ⊕ ((Int) ⊕ (Unit))) :=
  if s1 < s0 then
    some (Sum.inr (Sum.inl 0))
  else
    some (Sum.inl (w32 (v3 + 1)))
def f_X12_isHolderTold_L65 (c0 c1 c2 : Int) (h : xa_H) (v3 : Int) : Option ((Int) ⊕ ((Int) ⊕ (Unit))) :=
  (xrc h 12 c0 (f_X12_holderMany c0 h)).bind fun r15 =>
  if v3 < r15 then
    (xgf h 12 0 c0).bind fun x17 =>
    (xal h 0 x17 (w32 ((w32 (c2 + 4)) + v3))).bind fun x18 =>
    if v3 = c1 then
      f_X12_isHolderTold_J94L65 c0 c1 c2 v3 x18 0 h
    else
      f_X12_isHolderTold_J94L65 c0 c1 c2 v3 x18 99 h
  else
    some (Sum.inr (Sum.inr (())))
def f_X12_isHolderTold_L107 (c0 c1 c2 : Int) (h : xa_H) (v3 : Int) : Option ((Int) ⊕ ((Int) ⊕ (Unit))) :=
  if v3 < c1 then
    (xgf h 12 0 c0).bind fun x24 =>
    (xrc h 12 c0 (f_X12_holderFrom c0 v3 h)).bind fun r25 =>
    (xal h 0 x24 r25).bind fun x26 =>
    (xgf h 12 0 c0).bind fun x27 =>
    (xal h 0 x27 c2).bind fun x28 =>
    if x26 = x28 then
      some (Sum.inr (Sum.inl 0))
    else
      some (Sum.inl (w32 (v3 + 1)))
  else
    some (Sum.inr (Sum.inr (())))
def f_X12_isHolderTold (v0 v1 : Int) (h : xa_H) : Option (Int) :=
  (xrc h 12 v0 (f_X12_holderFrom v0 v1 h)).bind fun r1 =>
  (xgf h 12 0 v0).bind fun x2 =>
  (xal h 0 x2 r1).bind fun x3 =>
  (xrc h 12 v0 (f_X12_isHeldThere v0 x3 h)).bind fun r4 =>
  if r4 = 0 then
    some 0
  else
    (xgf h 12 0 v0).bind fun x6 =>
    (xal h 0 x6 (w32 (r1 + 1))).bind fun x7 =>
    (xrc h 12 v0 (f_X12_isHeldThere v0 x7 h)).bind fun r8 =>
    if r8 = 0 then
      some 0
    else
      (xgf h 12 0 v0).bind fun x10 =>
      (xal h 0 x10 (w32 (r1 + 2))).bind fun x11 =>
      (xgf h 12 0 v0).bind fun x12 =>
      (xal h 0 x12 (w32 (r1 + 3))).bind fun x13 =>
      if 9999 < w32 ((w32 (256 * x11)) + x13) then
        some 0
      else
        (xit (fun s => f_X12_isHolderTold_L65 v0 v1 r1 h s) xFU 0).bind fun e21 =>
        xel e21 (fun r => some r) (fun y22 =>
          (xit (fun s => f_X12_isHolderTold_L107 v0 v1 r1 h s) xFU 0).bind fun e30 =>
          xel e30 (fun r => some r) (fun y31 =>
            some 1))
def f_X12_isImage_L62 (c0 : Int) (h : xa_H) (v2 : Int) : Option ((Int) ⊕ ((Int) ⊕ (Unit))) :=
  (xrc h 12 c0 (f_X12_holderMany c0 h)).bind fun r14 =>
  if v2 < r14 then
    (xrc h 12 c0 (f_X12_isHolderTold c0 v2 h)).bind fun r16 =>
    if r16 = 0 then
      some (Sum.inr (Sum.inl 0))
    else
      some (Sum.inl (w32 (v2 + 1)))
  else
    some (Sum.inr (Sum.inr (())))
def f_X12_isImage (v0 v1 : Int) (h : xa_H) : Option (Int) :=
  (xrc h 12 v0 (f_X12_holderMany v0 h)).bind fun r1 =>
  (xrc h 12 v0 (f_X12_holderFrom v0 r1 h)).bind fun r2 =>
  if v1 = w32 (r2 + 1) then
    (xgf h 12 0 v0).bind fun x4 =>
    (xal h 0 x4 (w32 (v1 - 1))).bind fun x5 =>
    (xgf h 12 0 v0).bind fun x6 =>
    (f_X12_checked x6 (w32 (v1 - 1)) h).bind fun r7 =>
    if x5 = r7 then
      (xgf h 12 0 v0).bind fun x9 =>
      (xal h 0 x9 0).bind fun x10 =>
      (xgf h 12 0 v0).bind fun x11 =>
      (xal h 0 x11 1).bind fun x12 =>
      if 9999 < w32 ((w32 (256 * x10)) + x12) then
        some 0
      else
        (xit (fun s => f_X12_isImage_L62 v0 h s) xFU 0).bind fun e18 =>
        xel e18 (fun r => some r) (fun y19 =>
          some 1)
    else
      some 0
  else
    some 0
def f_X12_resume_L144 (c0 c2 c3 : Int) (v4 : Int) (h : xa_H) : Option ((Int × xa_H) ⊕ (xa_H)) :=
  (xrc h 12 c0 (f_X12_holderMany c0 h)).bind fun r31 =>
  if v4 < r31 then
    (xgf h 12 50 c0).bind fun x33 =>
    (xgf h 12 0 c0).bind fun x34 =>
    (xal h 0 x34 (w32 ((w32 (c3 + 4)) + v4))).bind fun x35 =>
    (xas h 0 x33 (w32 ((w32 ((w32 (1 + (w32 (9 * c2)))) + 3)) + v4)) x35).bind fun h36 =>
    some (Sum.inl ((w32 (v4 + 1), h36)))
  else
    some (Sum.inr h)
def f_X12_resume_L55 (c0 : Int) (v2 : Int) (h : xa_H) : Option ((Int × xa_H) ⊕ (xa_H)) :=
  (xrc h 12 c0 (f_X12_holderMany c0 h)).bind fun r14 =>
  if v2 < r14 then
    (xrc h 12 c0 (f_X12_holderFrom c0 v2 h)).bind fun r16 =>
    (xgf h 12 50 c0).bind fun x17 =>
    (xgf h 12 0 c0).bind fun x18 =>
    (xal h 0 x18 r16).bind fun x19 =>
    (xas h 0 x17 (w32 (1 + (w32 (9 * v2)))) x19).bind fun h20 =>
    (xgf h20 12 50 c0).bind fun x21 =>
    (xgf h20 12 0 c0).bind fun x22 =>
    (xal h20 0 x22 (w32 (r16 + 1))).bind fun x23 =>
    (xas h20 0 x21 (w32 ((w32 (1 + (w32 (9 * v2)))) + 1)) x23).bind fun h24 =>
    (xgf h24 12 50 c0).bind fun x25 =>
    (xgf h24 12 0 c0).bind fun x26 =>
    (xal h24 0 x26 (w32 (r16 + 2))).bind fun x27 =>
    (xgf h24 12 0 c0).bind fun x28 =>
    (xal h24 0 x28 (w32 (r16 + 3))).bind fun x29 =>
    (xas h24 0 x25 (w32 ((w32 (1 + (w32 (9 * v2)))) + 2)) (w32 ((w32 (256 * x27)) + x29))).bind fun h30 =>
    (xit (fun s => f_X12_resume_L144 c0 v2 r16 s.1 s.2) xFU ((0, h30))).bind fun e37 =>
    some (Sum.inl ((w32 (v2 + 1), e37)))
  else
    some (Sum.inr h)
def f_X12_resume (v0 : Int) (h : xa_H) : Option (Int × xa_H) :=
  (xgf h 12 1 v0).bind fun x1 =>
  (xpf h 12 1 v0 0).bind fun h2 =>
  (xrc h2 12 v0 (f_X12_isImage v0 x1 h2)).bind fun r3 =>
  if r3 = 0 then
    (xgf h2 12 9 v0).bind fun x5 =>
    (xal h2 0 x5 5).bind fun x6 =>
    (xas h2 0 x5 5 (w32 (x6 + 1))).bind fun h7 =>
    some ((0, h7))
  else
    (xgf h2 12 50 v0).bind fun x8 =>
    (xgf h2 12 0 v0).bind fun x9 =>
    (xal h2 0 x9 0).bind fun x10 =>
    (xgf h2 12 0 v0).bind fun x11 =>
    (xal h2 0 x11 1).bind fun x12 =>
    (xas h2 0 x8 0 (w32 ((w32 (256 * x10)) + x12))).bind fun h13 =>
    (xit (fun s => f_X12_resume_L55 v0 s.1 s.2) xFU ((0, h13))).bind fun e38 =>
    (xgf e38 12 50 v0).bind fun x39 =>
    (xas e38 0 x39 55 0).bind fun h40 =>
    (xpf h40 12 74 v0 0).bind fun h41 =>
    some ((1, h41))
def f_X12_ring_J30 (v0 v1 : Int) (h : xa_H) : Option (Int × xa_H) :=
  (xrc h 12 v0 (f_X12_isKept v0 v1 h)).bind fun r8 =>
  some ((v1, r8))
def f_X12_ring (v0 : Int) (h : xa_H) : Option (Int × xa_H) :=
  (xrc h 12 v0 (f_X12_isRing v0 h)).bind fun r1 =>
  if r1.1 = 0 then
    (xrc r1.2 12 v0 (f_X12_refuses v0 2 r1.2)).bind fun r3 =>
    some ((r3.1, r3.2))
  else
    (xrc r1.2 12 v0 (f_X12_keeps v0 r1.2)).bind fun r4 =>
    (xrc r4 12 v0 (f_X12_whyNot v0 r4)).bind fun r5 =>
    if r5.1 = 0 then
      (xrc r5.2 12 v0 (f_X12_comesAbout v0 r5.2)).bind fun r7 =>
      f_X12_ring_J30 v0 r5.1 r7
    else
      f_X12_ring_J30 v0 r5.1 r5.2
def f_X12_seed (v0 v1 : Int) (h : xa_H) : Option (Int × xa_H) :=
  if v1 < 0 then
    (xgf h 12 9 v0).bind fun x2 =>
    (xal h 0 x2 5).bind fun x3 =>
    (xas h 0 x2 5 (w32 (x3 + 1))).bind fun h4 =>
    some ((0, h4))
  else
    (xpf h 12 76 v0 v1).bind fun h5 =>
    some ((1, h5))
def f_X12_status (v0 v1 : Int) (h : xa_H) : Option (Int) :=
  (f_X12_isIn v1 0 5 h).bind fun r1 =>
  if r1 = 0 then
    some ((-1))
  else
    (xgf h 12 9 v0).bind fun x3 =>
    (xal h 0 x3 v1).bind fun x4 =>
    some x4
def f_X12_moreBy (v0 v1 v2 : Int) (h : xa_H) : Option (Int) :=
  (xrc h 12 v0 (f_X12_hadBy v0 v2 h)).bind fun r1 =>
  (xrc h 12 v0 (f_X12_valueOf v0 v1 r1 h)).bind fun r2 =>
  (xrc h 12 v0 (f_X12_hadBy v0 v1 h)).bind fun r3 =>
  (xrc h 12 v0 (f_X12_valueOf v0 v1 r3 h)).bind fun r4 =>
  (xrc h 12 v0 (f_X12_hadBy v0 v1 h)).bind fun r5 =>
  (xrc h 12 v0 (f_X12_valueOf v0 v2 r5 h)).bind fun r6 =>
  (xrc h 12 v0 (f_X12_hadBy v0 v2 h)).bind fun r7 =>
  (xrc h 12 v0 (f_X12_valueOf v0 v2 r7 h)).bind fun r8 =>
  some (w32 ((w32 ((w32 (r2 - r4)) + r6)) - r8))
def f_X12_together_L39 (c0 c1 c5 : Int) (h : xa_H) (v2 v3 v4 v6 : Int) : Option ((Int × Int × Int × Int) ⊕ (Int × Int × Int)) :=
  (xrc h 12 c0 (f_X12_holderMany c0 h)).bind fun r5 =>
  if v6 < r5 then
    (xrc h 12 c0 (f_X12_moreBy c0 c5 v6 h)).bind fun r7 =>
    if v2 < r7 then
      (xrc h 12 c0 (f_X12_moreBy c0 c5 v6 h)).bind fun r9 =>
      some (Sum.inl ((r9, c5, v6, w32 (v6 + 1))))
    else
      some (Sum.inl ((v2, v3, v4, w32 (v6 + 1))))
  else
    some (Sum.inr ((v2, v3, v4)))
def f_X12_together_L24 (c0 c1 : Int) (h : xa_H) (v2 v3 v4 v5 : Int) : Option ((Int × Int × Int × Int) ⊕ (Int × Int × Int)) :=
  (xrc h 12 c0 (f_X12_holderMany c0 h)).bind fun r3 =>
  if v5 < r3 then
    (xit (fun s => f_X12_together_L39 c0 c1 v5 h s.1 s.2.1 s.2.2.1 s.2.2.2) xFU ((v2, v3, v4, w32 (v5 + 1)))).bind fun e10 =>
    some (Sum.inl ((e10.1, e10.2.1, e10.2.2, w32 (v5 + 1))))
  else
    some (Sum.inr ((v2, v3, v4)))
def f_X12_together (v0 v1 : Int) (h : xa_H) : Option (Int) :=
  (f_X12_isIn v1 0 2 h).bind fun r1 =>
  if r1 = 0 then
    some ((-1))
  else
    (xit (fun s => f_X12_together_L24 v0 v1 h s.1 s.2.1 s.2.2.1 s.2.2.2) xFU ((0, (-1), (-1), 0))).bind fun e11 =>
    if e11.2.1 = (-1) then
      some ((-1))
    else
      if v1 = 0 then
        some e11.2.1
      else
        if v1 = 1 then
          some e11.2.2
        else
          some e11.1
def f_X12_pointed_L4 (c0 c1 : Int) (h : xa_H) (v2 v3 : Int) : Option ((Int × Int) ⊕ (Int)) :=
  (xrc h 12 c0 (f_X12_heldMany c0 h)).bind fun r1 =>
  if v3 < r1 then
    (xrc h 12 c0 (f_X12_holderOf c0 v3 h)).bind fun r3 =>
    if r3 = (-1) then
      some (Sum.inl ((v2, w32 (v3 + 1))))
    else
      (xgf h 12 68 c0).bind fun x5 =>
      (xal h 0 x5 r3).bind fun x6 =>
      if x6 = 0 then
        (xrc h 12 c0 (f_X12_valueOf c0 c1 v3 h)).bind fun r8 =>
        (xrc h 12 c0 (f_X12_hadBy c0 v2 h)).bind fun r9 =>
        (xrc h 12 c0 (f_X12_valueOf c0 c1 r9 h)).bind fun r10 =>
        if r10 < r8 then
          some (Sum.inl ((r3, w32 (v3 + 1))))
        else
          some (Sum.inl ((v2, w32 (v3 + 1))))
      else
        some (Sum.inl ((v2, w32 (v3 + 1))))
  else
    some (Sum.inr v2)
def f_X12_pointed (v0 v1 : Int) (h : xa_H) : Option (Int) :=
  (xit (fun s => f_X12_pointed_L4 v0 v1 h s.1 s.2) xFU ((v1, 0))).bind fun e12 =>
  some e12
def f_X12_roundOf_L9 (c0 c1 : Int) (h : xa_H) (v2 v3 : Int) : Option ((Int × Int) ⊕ (Int × Int)) :=
  if v2 = c1 then
    some (Sum.inr ((v2, v3)))
  else
    if 6 < v3 then
      some (Sum.inr ((v2, v3)))
    else
      (xgf h 12 67 c0).bind fun x5 =>
      (xal h 0 x5 v2).bind fun x6 =>
      some (Sum.inl ((x6, w32 (v3 + 1))))
def f_X12_roundOf_J33 (v1 v2 v3 : Int) (h : xa_H) : Option (Int) :=
  if v2 = v1 then
    some v3
  else
    some 0
def f_X12_roundOf (v0 v1 : Int) (h : xa_H) : Option (Int) :=
  (xgf h 12 67 v0).bind fun x1 =>
  (xal h 0 x1 v1).bind fun x2 =>
  (xit (fun s => f_X12_roundOf_L9 v0 v1 h s.1 s.2) xFU ((x2, 1))).bind fun e7 =>
  f_X12_roundOf_J33 v1 e7.1 e7.2 h
def f_X12_trades_L2 (c0 : Int) (v1 : Int) (h : xa_H) : Option ((Int × xa_H) ⊕ (xa_H)) :=
  if v1 < 6 then
    (xgf h 12 68 c0).bind fun x2 =>
    (xas h 0 x2 v1 0).bind fun h3 =>
    some (Sum.inl ((w32 (v1 + 1), h3)))
  else
    some (Sum.inr h)
def f_X12_trades_L34 (c0 c1 c2 : Int) (v3 : Int) (h : xa_H) : Option ((Int × xa_H) ⊕ (xa_H)) :=
  (xrc h 12 c0 (f_X12_holderMany c0 h)).bind fun r7 =>
  if v3 < r7 then
    (xgf h 12 68 c0).bind fun x9 =>
    (xal h 0 x9 v3).bind fun x10 =>
    if x10 = 0 then
      (xgf h 12 67 c0).bind fun x12 =>
      (xrc h 12 c0 (f_X12_pointed c0 v3 h)).bind fun r13 =>
      (xas h 0 x12 v3 r13).bind fun h14 =>
      some (Sum.inl ((w32 (v3 + 1), h14)))
    else
      some (Sum.inl ((w32 (v3 + 1), h)))
  else
    some (Sum.inr h)
def f_X12_trades_L70 (c0 c1 c2 : Int) (v3 : Int) (h : xa_H) : Option ((Int × xa_H) ⊕ (xa_H)) :=
  (xrc h 12 c0 (f_X12_holderMany c0 h)).bind fun r16 =>
  if v3 < r16 then
    (xgf h 12 68 c0).bind fun x18 =>
    (xal h 0 x18 v3).bind fun x19 =>
    if x19 = 0 then
      (xgf h 12 69 c0).bind fun x21 =>
      (xrc h 12 c0 (f_X12_roundOf c0 v3 h)).bind fun r22 =>
      (xas h 0 x21 v3 r22).bind fun h23 =>
      some (Sum.inl ((w32 (v3 + 1), h23)))
    else
      some (Sum.inl ((w32 (v3 + 1), h)))
  else
    some (Sum.inr h)
def f_X12_trades_L106 (c0 c2 : Int) (v1 v3 : Int) (h : xa_H) : Option ((Int × Int × xa_H) ⊕ (Int × xa_H)) :=
  (xrc h 12 c0 (f_X12_holderMany c0 h)).bind fun r25 =>
  if v3 < r25 then
    (xgf h 12 68 c0).bind fun x27 =>
    (xal h 0 x27 v3).bind fun x28 =>
    if x28 = 0 then
      (xgf h 12 69 c0).bind fun x30 =>
      (xal h 0 x30 v3).bind fun x31 =>
      if x31 = 0 then
        some (Sum.inl ((v1, w32 (v3 + 1), h)))
      else
        (xgf h 12 68 c0).bind fun x33 =>
        (xas h 0 x33 v3 c2).bind fun h34 =>
        some (Sum.inl ((w32 (v1 + (-1)), w32 (v3 + 1), h34)))
    else
      some (Sum.inl ((v1, w32 (v3 + 1), h)))
  else
    some (Sum.inr ((v1, h)))
def f_X12_trades_L28 (c0 : Int) (v1 v2 : Int) (h : xa_H) : Option ((Int × Int × xa_H) ⊕ (xa_H)) :=
  if 0 < v1 then
    (xit (fun s => f_X12_trades_L34 c0 v1 v2 s.1 s.2) xFU ((0, h))).bind fun e15 =>
    (xit (fun s => f_X12_trades_L70 c0 v1 v2 s.1 s.2) xFU ((0, e15))).bind fun e24 =>
    (xit (fun s => f_X12_trades_L106 c0 v2 s.1 s.2.1 s.2.2) xFU ((v1, 0, e24))).bind fun e35 =>
    some (Sum.inl ((e35.1, w32 (v2 + 1), e35.2)))
  else
    some (Sum.inr h)
def f_X12_trades (v0 : Int) (h : xa_H) : Option (xa_H) :=
  (xit (fun s => f_X12_trades_L2 v0 s.1 s.2) xFU ((0, h))).bind fun e4 =>
  (xrc e4 12 v0 (f_X12_holderMany v0 e4)).bind fun r5 =>
  (xit (fun s => f_X12_trades_L28 v0 s.1 s.2.1 s.2.2) xFU ((r5, 1, e4))).bind fun e36 =>
  some e36
def f_X12_trade (v0 v1 v2 : Int) (h : xa_H) : Option (Int × xa_H) :=
  (xrc h 12 v0 (f_X12_isHolder v0 v1 h)).bind fun r1 =>
  if r1 = 0 then
    some (((-1), h))
  else
    (f_X12_isIn v2 0 2 h).bind fun r3 =>
    if r3 = 0 then
      some (((-1), h))
    else
      (xrc h 12 v0 (f_X12_trades v0 h)).bind fun r5 =>
      if v2 = 0 then
        (xgf r5 12 67 v0).bind fun x7 =>
        (xal r5 0 x7 v1).bind fun x8 =>
        (xrc r5 12 v0 (f_X12_hadBy v0 x8 r5)).bind fun r9 =>
        some ((r9, r5))
      else
        if v2 = 1 then
          (xgf r5 12 68 v0).bind fun x11 =>
          (xal r5 0 x11 v1).bind fun x12 =>
          some ((x12, r5))
        else
          (xgf r5 12 69 v0).bind fun x13 =>
          (xal r5 0 x13 v1).bind fun x14 =>
          some ((x14, r5))
def f_X12_undo_L21 (c0 : Int) (v1 : Int) (h : xa_H) : Option ((Int × xa_H) ⊕ (xa_H)) :=
  if v1 < 176 then
    (xgf h 12 50 c0).bind fun x7 =>
    (xgf h 12 73 c0).bind fun x8 =>
    (xgf h 12 75 c0).bind fun x9 =>
    (xal h 0 x8 (w32 ((w32 (176 * x9)) + v1))).bind fun x10 =>
    (xas h 0 x7 v1 x10).bind fun h11 =>
    some (Sum.inl ((w32 (v1 + 1), h11)))
  else
    some (Sum.inr h)
def f_X12_undo (v0 : Int) (h : xa_H) : Option (Int × xa_H) :=
  (xgf h 12 74 v0).bind fun x1 =>
  if x1 = 0 then
    (xgf h 12 9 v0).bind fun x3 =>
    (xal h 0 x3 4).bind fun x4 =>
    (xas h 0 x3 4 (w32 (x4 + 1))).bind fun h5 =>
    some ((0, h5))
  else
    (xit (fun s => f_X12_undo_L21 v0 s.1 s.2) xFU ((0, h))).bind fun e12 =>
    (xgf e12 12 75 v0).bind fun x13 =>
    (xpf e12 12 75 v0 (Int.tmod (w32 ((w32 (x13 + 20)) - 1)) 20)).bind fun h14 =>
    (xgf h14 12 74 v0).bind fun x15 =>
    (xpf h14 12 74 v0 (w32 (x15 - 1))).bind fun h16 =>
    some ((1, h16))
def f_X12_values (v0 v1 v2 : Int) (h : xa_H) : Option (Int) :=
  (xrc h 12 v0 (f_X12_isHolder v0 v1 h)).bind fun r1 =>
  if r1 = 0 then
    some ((-1))
  else
    (xrc h 12 v0 (f_X12_isHeldThere v0 v2 h)).bind fun r3 =>
    if r3 = 0 then
      some ((-1))
    else
      (xrc h 12 v0 (f_X12_valueOf v0 v1 v2 h)).bind fun r5 =>
      some r5
def f_X12_want (v0 v1 v2 : Int) (h : xa_H) : Option (Int × xa_H) :=
  (xrc h 12 v0 (f_X12_isHolder v0 v1 h)).bind fun r1 =>
  if r1 = 0 then
    (xgf h 12 9 v0).bind fun x3 =>
    (xal h 0 x3 2).bind fun x4 =>
    (xas h 0 x3 2 (w32 (x4 + 1))).bind fun h5 =>
    some ((0, h5))
  else
    (xrc h 12 v0 (f_X12_isHeldThere v0 v2 h)).bind fun r6 =>
    if r6 = 0 then
      (xgf h 12 9 v0).bind fun x8 =>
      (xal h 0 x8 2).bind fun x9 =>
      (xas h 0 x8 2 (w32 (x9 + 1))).bind fun h10 =>
      some ((0, h10))
    else
      (xrc h 12 v0 (f_X12_wantedBy v0 v1 h)).bind fun r11 =>
      if r11 = v2 then
        (xgf h 12 9 v0).bind fun x13 =>
        (xal h 0 x13 2).bind fun x14 =>
        (xas h 0 x13 2 (w32 (x14 + 1))).bind fun h15 =>
        some ((0, h15))
      else
        (xrc h 12 v0 (f_X12_keeps v0 h)).bind fun r16 =>
        (xgf r16 12 50 v0).bind fun x17 =>
        (xas r16 0 x17 (w32 ((w32 (1 + (w32 (9 * v1)))) + 1)) v2).bind fun h18 =>
        some ((1, h18))
def f_L_law_L18 (sL : Nat) (sc : Nat → Int) (c1 c2 : Int) (v3 : Int) (h : xa_H) : Option ((Int × xa_H) ⊕ ((Int × xa_H) ⊕ (xa_H))) :=
  if w32 (sL - 6) < v3 then
    some (Sum.inr (Sum.inr h))
  else
    (xsl sL sc v3).bind fun x6 =>
    if xand x6 63 = 0 then
      (xsl sL sc (w32 (v3 + 1))).bind fun x8 =>
      (xsl sL sc (w32 (v3 + 2))).bind fun x9 =>
      (xsl sL sc (w32 (v3 + 3))).bind fun x10 =>
      (xsl sL sc (w32 (v3 + 4))).bind fun x11 =>
      (xsl sL sc (w32 (v3 + 5))).bind fun x12 =>
      (xrc h 11 c1 (f_X11_feed c1 x8 x9 x10 x11 x12 h)).bind fun r13 =>
      (xsl sL sc (w32 (v3 + 1))).bind fun x14 =>
      (xsl sL sc (w32 (v3 + 2))).bind fun x15 =>
      (xsl sL sc (w32 (v3 + 3))).bind fun x16 =>
      (xsl sL sc (w32 (v3 + 4))).bind fun x17 =>
      (xsl sL sc (w32 (v3 + 5))).bind fun x18 =>
      (xrc r13.2 12 c2 (f_X12_feed c2 x14 x15 x16 x17 x18 r13.2)).bind fun r19 =>
      if r13.1 = r19.1 then
        some (Sum.inl ((w32 (v3 + 6), r19.2)))
      else
        some (Sum.inr (Sum.inl ((0, r19.2))))
    else
      if xand x6 63 = 1 then
        (xsl sL sc (w32 (v3 + 1))).bind fun x22 =>
        (xrc h 11 c1 (f_X11_end c1 x22 h)).bind fun r23 =>
        (xsl sL sc (w32 (v3 + 1))).bind fun x24 =>
        (xrc r23.2 12 c2 (f_X12_end c2 x24 r23.2)).bind fun r25 =>
        if r23.1 = r25.1 then
          some (Sum.inl ((w32 (v3 + 6), r25.2)))
        else
          some (Sum.inr (Sum.inl ((0, r25.2))))
      else
        if xand x6 63 = 2 then
          (xrc h 11 c1 (f_X11_open c1 h)).bind fun r28 =>
          (xrc r28.2 12 c2 (f_X12_open c2 r28.2)).bind fun r29 =>
          if r28.1 = r29.1 then
            some (Sum.inl ((w32 (v3 + 6), r29.2)))
          else
            some (Sum.inr (Sum.inl ((0, r29.2))))
        else
          if xand x6 63 = 3 then
            (xsl sL sc (w32 (v3 + 1))).bind fun x32 =>
            (xrc h 11 c1 (f_X11_fault c1 x32 h)).bind fun r33 =>
            (xsl sL sc (w32 (v3 + 1))).bind fun x34 =>
            (xrc h 12 c2 (f_X12_fault c2 x34 h)).bind fun r35 =>
            if r33 = r35 then
              some (Sum.inl ((w32 (v3 + 6), h)))
            else
              some (Sum.inr (Sum.inl ((0, h))))
          else
            if xand x6 63 = 4 then
              (xsl sL sc (w32 (v3 + 1))).bind fun x38 =>
              (xrc h 11 c1 (f_X11_has c1 x38 h)).bind fun r39 =>
              (xsl sL sc (w32 (v3 + 1))).bind fun x40 =>
              (xrc h 12 c2 (f_X12_has c2 x40 h)).bind fun r41 =>
              if r39 = r41 then
                some (Sum.inl ((w32 (v3 + 6), h)))
              else
                some (Sum.inr (Sum.inl ((0, h))))
            else
              if xand x6 63 = 5 then
                (xsl sL sc (w32 (v3 + 1))).bind fun x44 =>
                (xsl sL sc (w32 (v3 + 2))).bind fun x45 =>
                (xsl sL sc (w32 (v3 + 3))).bind fun x46 =>
                (xrc h 11 c1 (f_X11_letter c1 x44 x45 x46 h)).bind fun r47 =>
                (xsl sL sc (w32 (v3 + 1))).bind fun x48 =>
                (xsl sL sc (w32 (v3 + 2))).bind fun x49 =>
                (xsl sL sc (w32 (v3 + 3))).bind fun x50 =>
                (xrc h 12 c2 (f_X12_letter c2 x48 x49 x50 h)).bind fun r51 =>
                if r47 = r51 then
                  some (Sum.inl ((w32 (v3 + 6), h)))
                else
                  some (Sum.inr (Sum.inl ((0, h))))
              else
                if xand x6 63 = 6 then
                  (xsl sL sc (w32 (v3 + 1))).bind fun x54 =>
                  (xsl sL sc (w32 (v3 + 2))).bind fun x55 =>
                  (xrc h 11 c1 (f_X11_held c1 x54 x55 h)).bind fun r56 =>
                  (xsl sL sc (w32 (v3 + 1))).bind fun x57 =>
                  (xsl sL sc (w32 (v3 + 2))).bind fun x58 =>
                  (xrc h 12 c2 (f_X12_held c2 x57 x58 h)).bind fun r59 =>
                  if r56 = r59 then
                    some (Sum.inl ((w32 (v3 + 6), h)))
                  else
                    some (Sum.inr (Sum.inl ((0, h))))
                else
                  if xand x6 63 = 7 then
                    (xsl sL sc (w32 (v3 + 1))).bind fun x62 =>
                    (xsl sL sc (w32 (v3 + 2))).bind fun x63 =>
                    (xrc h 11 c1 (f_X11_holder c1 x62 x63 h)).bind fun r64 =>
                    (xsl sL sc (w32 (v3 + 1))).bind fun x65 =>
                    (xsl sL sc (w32 (v3 + 2))).bind fun x66 =>
                    (xrc h 12 c2 (f_X12_holder c2 x65 x66 h)).bind fun r67 =>
                    if r64 = r67 then
                      some (Sum.inl ((w32 (v3 + 6), h)))
                    else
                      some (Sum.inr (Sum.inl ((0, h))))
                  else
                    if xand x6 63 = 8 then
                      (xsl sL sc (w32 (v3 + 1))).bind fun x70 =>
                      (xsl sL sc (w32 (v3 + 2))).bind fun x71 =>
                      (xrc h 11 c1 (f_X11_values c1 x70 x71 h)).bind fun r72 =>
                      (xsl sL sc (w32 (v3 + 1))).bind fun x73 =>
                      (xsl sL sc (w32 (v3 + 2))).bind fun x74 =>
                      (xrc h 12 c2 (f_X12_values c2 x73 x74 h)).bind fun r75 =>
                      if r72 = r75 then
                        some (Sum.inl ((w32 (v3 + 6), h)))
                      else
                        some (Sum.inr (Sum.inl ((0, h))))
                    else
                      if xand x6 63 = 9 then
                        (xsl sL sc (w32 (v3 + 1))).bind fun x78 =>
                        (xsl sL sc (w32 (v3 + 2))).bind fun x79 =>
                        (xrc h 11 c1 (f_X11_met c1 x78 x79 h)).bind fun r80 =>
                        (xsl sL sc (w32 (v3 + 1))).bind fun x81 =>
                        (xsl sL sc (w32 (v3 + 2))).bind fun x82 =>
                        (xrc h 12 c2 (f_X12_met c2 x81 x82 h)).bind fun r83 =>
                        if r80 = r83 then
                          some (Sum.inl ((w32 (v3 + 6), h)))
                        else
                          some (Sum.inr (Sum.inl ((0, h))))
                      else
                        if xand x6 63 = 10 then
                          (xsl sL sc (w32 (v3 + 1))).bind fun x86 =>
                          (xsl sL sc (w32 (v3 + 2))).bind fun x87 =>
                          (xrc h 11 c1 (f_X11_kept c1 x86 x87 h)).bind fun r88 =>
                          (xsl sL sc (w32 (v3 + 1))).bind fun x89 =>
                          (xsl sL sc (w32 (v3 + 2))).bind fun x90 =>
                          (xrc h 12 c2 (f_X12_kept c2 x89 x90 h)).bind fun r91 =>
                          if r88 = r91 then
                            some (Sum.inl ((w32 (v3 + 6), h)))
                          else
                            some (Sum.inr (Sum.inl ((0, h))))
                        else
                          if xand x6 63 = 11 then
                            (xrc h 11 c1 (f_X11_judge c1 h)).bind fun r94 =>
                            (xrc r94.2 12 c2 (f_X12_judge c2 r94.2)).bind fun r95 =>
                            if r94.1 = r95.1 then
                              some (Sum.inl ((w32 (v3 + 6), r95.2)))
                            else
                              some (Sum.inr (Sum.inl ((0, r95.2))))
                          else
                            if xand x6 63 = 12 then
                              (xsl sL sc (w32 (v3 + 1))).bind fun x98 =>
                              (xrc h 11 c1 (f_X11_judged c1 x98 h)).bind fun r99 =>
                              (xsl sL sc (w32 (v3 + 1))).bind fun x100 =>
                              (xrc h 12 c2 (f_X12_judged c2 x100 h)).bind fun r101 =>
                              if r99 = r101 then
                                some (Sum.inl ((w32 (v3 + 6), h)))
                              else
                                some (Sum.inr (Sum.inl ((0, h))))
                            else
                              if xand x6 63 = 13 then
                                (xsl sL sc (w32 (v3 + 1))).bind fun x104 =>
                                (xrc h 11 c1 (f_X11_needed c1 x104 h)).bind fun r105 =>
                                (xsl sL sc (w32 (v3 + 1))).bind fun x106 =>
                                (xrc r105.2 12 c2 (f_X12_needed c2 x106 r105.2)).bind fun r107 =>
                                if r105.1 = r107 then
                                  some (Sum.inl ((w32 (v3 + 6), r105.2)))
                                else
                                  some (Sum.inr (Sum.inl ((0, r105.2))))
                              else
                                if xand x6 63 = 14 then
                                  (xsl sL sc (w32 (v3 + 1))).bind fun x110 =>
                                  (xrc h 11 c1 (f_X11_meetings c1 x110 h)).bind fun r111 =>
                                  (xsl sL sc (w32 (v3 + 1))).bind fun x112 =>
                                  (xrc r111.2 12 c2 (f_X12_meetings c2 x112 r111.2)).bind fun r113 =>
                                  if r111.1 = r113.1 then
                                    some (Sum.inl ((w32 (v3 + 6), r113.2)))
                                  else
                                    some (Sum.inr (Sum.inl ((0, r113.2))))
                                else
                                  if xand x6 63 = 15 then
                                    (xsl sL sc (w32 (v3 + 1))).bind fun x116 =>
                                    (xsl sL sc (w32 (v3 + 2))).bind fun x117 =>
                                    (xrc h 11 c1 (f_X11_gain c1 x116 x117 h)).bind fun r118 =>
                                    (xsl sL sc (w32 (v3 + 1))).bind fun x119 =>
                                    (xsl sL sc (w32 (v3 + 2))).bind fun x120 =>
                                    (xrc h 12 c2 (f_X12_gain c2 x119 x120 h)).bind fun r121 =>
                                    if r118 = r121 then
                                      some (Sum.inl ((w32 (v3 + 6), h)))
                                    else
                                      some (Sum.inr (Sum.inl ((0, h))))
                                  else
                                    if xand x6 63 = 16 then
                                      (xsl sL sc (w32 (v3 + 1))).bind fun x124 =>
                                      (xsl sL sc (w32 (v3 + 2))).bind fun x125 =>
                                      (xrc h 11 c1 (f_X11_trade c1 x124 x125 h)).bind fun r126 =>
                                      (xsl sL sc (w32 (v3 + 1))).bind fun x127 =>
                                      (xsl sL sc (w32 (v3 + 2))).bind fun x128 =>
                                      (xrc r126.2 12 c2 (f_X12_trade c2 x127 x128 r126.2)).bind fun r129 =>
                                      if r126.1 = r129.1 then
                                        some (Sum.inl ((w32 (v3 + 6), r129.2)))
                                      else
                                        some (Sum.inr (Sum.inl ((0, r129.2))))
                                    else
                                      if xand x6 63 = 17 then
                                        (xsl sL sc (w32 (v3 + 1))).bind fun x132 =>
                                        (xrc h 11 c1 (f_X11_together c1 x132 h)).bind fun r133 =>
                                        (xsl sL sc (w32 (v3 + 1))).bind fun x134 =>
                                        (xrc h 12 c2 (f_X12_together c2 x134 h)).bind fun r135 =>
                                        if r133 = r135 then
                                          some (Sum.inl ((w32 (v3 + 6), h)))
                                        else
                                          some (Sum.inr (Sum.inl ((0, h))))
                                      else
                                        if xand x6 63 = 18 then
                                          (xsl sL sc (w32 (v3 + 1))).bind fun x138 =>
                                          (xrc h 11 c1 (f_X11_clear c1 x138 h)).bind fun r139 =>
                                          (xsl sL sc (w32 (v3 + 1))).bind fun x140 =>
                                          (xrc h 12 c2 (f_X12_clear c2 x140 h)).bind fun r141 =>
                                          if r139 = r141 then
                                            some (Sum.inl ((w32 (v3 + 6), h)))
                                          else
                                            some (Sum.inr (Sum.inl ((0, h))))
                                        else
                                          if xand x6 63 = 19 then
                                            (xsl sL sc (w32 (v3 + 1))).bind fun x144 =>
                                            (xrc h 11 c1 (f_X11_on c1 x144 h)).bind fun r145 =>
                                            (xsl sL sc (w32 (v3 + 1))).bind fun x146 =>
                                            (xrc h 12 c2 (f_X12_on c2 x146 h)).bind fun r147 =>
                                            if r145 = r147 then
                                              some (Sum.inl ((w32 (v3 + 6), h)))
                                            else
                                              some (Sum.inr (Sum.inl ((0, h))))
                                          else
                                            if xand x6 63 = 20 then
                                              (xrc h 11 c1 (f_X11_note c1 h)).bind fun r150 =>
                                              (xrc r150.2 12 c2 (f_X12_note c2 r150.2)).bind fun r151 =>
                                              if r150.1 = r151.1 then
                                                some (Sum.inl ((w32 (v3 + 6), r151.2)))
                                              else
                                                some (Sum.inr (Sum.inl ((0, r151.2))))
                                            else
                                              if xand x6 63 = 21 then
                                                (xsl sL sc (w32 (v3 + 1))).bind fun x154 =>
                                                (xrc h 11 c1 (f_X11_can c1 x154 h)).bind fun r155 =>
                                                (xsl sL sc (w32 (v3 + 1))).bind fun x156 =>
                                                (xrc h 12 c2 (f_X12_can c2 x156 h)).bind fun r157 =>
                                                if r155 = r157.1 then
                                                  some (Sum.inl ((w32 (v3 + 6), r157.2)))
                                                else
                                                  some (Sum.inr (Sum.inl ((0, r157.2))))
                                              else
                                                if xand x6 63 = 22 then
                                                  (xsl sL sc (w32 (v3 + 1))).bind fun x160 =>
                                                  (xrc h 11 c1 (f_X11_next c1 x160 h)).bind fun r161 =>
                                                  (xsl sL sc (w32 (v3 + 1))).bind fun x162 =>
                                                  (xrc h 12 c2 (f_X12_next c2 x162 h)).bind fun r163 =>
                                                  if r161 = r163.1 then
                                                    some (Sum.inl ((w32 (v3 + 6), r163.2)))
                                                  else
                                                    some (Sum.inr (Sum.inl ((0, r163.2))))
                                                else
                                                  if xand x6 63 = 23 then
                                                    (xrc h 11 c1 (f_X11_ring c1 h)).bind fun r166 =>
                                                    (xrc r166.2 12 c2 (f_X12_ring c2 r166.2)).bind fun r167 =>
                                                    if r166.1 = r167.1 then
                                                      some (Sum.inl ((w32 (v3 + 6), r167.2)))
                                                    else
                                                      some (Sum.inr (Sum.inl ((0, r167.2))))
                                                  else
                                                    if xand x6 63 = 24 then
                                                      (xsl sL sc (w32 (v3 + 1))).bind fun x170 =>
                                                      (xsl sL sc (w32 (v3 + 2))).bind fun x171 =>
                                                      (xrc h 11 c1 (f_X11_want c1 x170 x171 h)).bind fun r172 =>
                                                      (xsl sL sc (w32 (v3 + 1))).bind fun x173 =>
                                                      (xsl sL sc (w32 (v3 + 2))).bind fun x174 =>
                                                      (xrc r172.2 12 c2 (f_X12_want c2 x173 x174 r172.2)).bind fun r175 =>
                                                      if r172.1 = r175.1 then
                                                        some (Sum.inl ((w32 (v3 + 6), r175.2)))
                                                      else
                                                        some (Sum.inr (Sum.inl ((0, r175.2))))
                                                    else
                                                      if xand x6 63 = 25 then
                                                        (xsl sL sc (w32 (v3 + 1))).bind fun x178 =>
                                                        (xrc h 11 c1 (f_X11_nights c1 x178 h)).bind fun r179 =>
                                                        (xsl sL sc (w32 (v3 + 1))).bind fun x180 =>
                                                        (xrc r179.2 12 c2 (f_X12_nights c2 x180 r179.2)).bind fun r181 =>
                                                        if r179.1 = r181.1 then
                                                          some (Sum.inl ((w32 (v3 + 6), r181.2)))
                                                        else
                                                          some (Sum.inr (Sum.inl ((0, r181.2))))
                                                      else
                                                        if xand x6 63 = 26 then
                                                          (xrc h 11 c1 (f_X11_undo c1 h)).bind fun r184 =>
                                                          (xrc r184.2 12 c2 (f_X12_undo c2 r184.2)).bind fun r185 =>
                                                          if r184.1 = r185.1 then
                                                            some (Sum.inl ((w32 (v3 + 6), r185.2)))
                                                          else
                                                            some (Sum.inr (Sum.inl ((0, r185.2))))
                                                        else
                                                          if xand x6 63 = 27 then
                                                            (xsl sL sc (w32 (v3 + 1))).bind fun x188 =>
                                                            (xrc h 11 c1 (f_X11_seed c1 x188 h)).bind fun r189 =>
                                                            (xsl sL sc (w32 (v3 + 1))).bind fun x190 =>
                                                            (xrc r189.2 12 c2 (f_X12_seed c2 x190 r189.2)).bind fun r191 =>
                                                            if r189.1 = r191.1 then
                                                              some (Sum.inl ((w32 (v3 + 6), r191.2)))
                                                            else
                                                              some (Sum.inr (Sum.inl ((0, r191.2))))
                                                          else
                                                            if xand x6 63 = 28 then
                                                              (xrc h 11 c1 (f_X11_ask c1 h)).bind fun r194 =>
                                                              (xrc r194.2 12 c2 (f_X12_ask c2 r194.2)).bind fun r195 =>
                                                              if xcmp r194.1 r195.1 = 0 then
                                                                some (Sum.inl ((w32 (v3 + 6), r195.2)))
                                                              else
                                                                some (Sum.inr (Sum.inl ((0, r195.2))))
                                                            else
                                                              if xand x6 63 = 29 then
                                                                (xrc h 11 c1 (f_X11_image c1 h)).bind fun r198 =>
                                                                (xrc r198.2 12 c2 (f_X12_image c2 r198.2)).bind fun r199 =>
                                                                if r198.1 = r199.1 then
                                                                  some (Sum.inl ((w32 (v3 + 6), r199.2)))
                                                                else
                                                                  some (Sum.inr (Sum.inl ((0, r199.2))))
                                                              else
                                                                if xand x6 63 = 30 then
                                                                  (xsl sL sc (w32 (v3 + 1))).bind fun x202 =>
                                                                  (xrc h 11 c1 (f_X11_octet c1 x202 h)).bind fun r203 =>
                                                                  (xsl sL sc (w32 (v3 + 1))).bind fun x204 =>
                                                                  (xrc h 12 c2 (f_X12_octet c2 x204 h)).bind fun r205 =>
                                                                  if r203 = r205 then
                                                                    some (Sum.inl ((w32 (v3 + 6), h)))
                                                                  else
                                                                    some (Sum.inr (Sum.inl ((0, h))))
                                                                else
                                                                  if xand x6 63 = 31 then
                                                                    (xrc h 11 c1 (f_X11_resume c1 h)).bind fun r208 =>
                                                                    (xrc r208.2 12 c2 (f_X12_resume c2 r208.2)).bind fun r209 =>
                                                                    if r208.1 = r209.1 then
                                                                      some (Sum.inl ((w32 (v3 + 6), r209.2)))
                                                                    else
                                                                      some (Sum.inr (Sum.inl ((0, r209.2))))
                                                                  else
                                                                    if xand x6 63 = 32 then
                                                                      (xsl sL sc (w32 (v3 + 1))).bind fun x212 =>
                                                                      (xrc h 11 c1 (f_X11_status c1 x212 h)).bind fun r213 =>
                                                                      (xsl sL sc (w32 (v3 + 1))).bind fun x214 =>
                                                                      (xrc h 12 c2 (f_X12_status c2 x214 h)).bind fun r215 =>
                                                                      if r213 = r215 then
                                                                        some (Sum.inl ((w32 (v3 + 6), h)))
                                                                      else
                                                                        some (Sum.inr (Sum.inl ((0, h))))
                                                                    else
                                                                      some (Sum.inl ((w32 (v3 + 6), h)))
def f_L_law (sL : Nat) (sc : Nat → Int) (h : xa_H) : Option (Int × xa_H) :=
  (xnO h 11 19).bind fun h1 =>
  (f_X11_init ((xn h : Int)) h1).bind fun r2 =>
  (xnO r2 12 109).bind fun h3 =>
  (f_X12_init ((xn r2 : Int)) h3).bind fun r4 =>
  (xit (fun s => f_L_law_L18 sL sc ((xn h : Int)) ((xn r2 : Int)) s.1 s.2) xFU ((0, r4))).bind fun e217 =>
  xel e217 (fun r => some r) (fun y218 =>
    some ((1, y218)))
