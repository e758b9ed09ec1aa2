/-! ===== the fixed layout ===== -/
def kl0 : List (Nat × Nat) := [(21, 19), (2, 1600), (16, 11), (0, 29), (13, 4), (0, 1600), (11, 3), (10, 14), (0, 6), (0, 6), (0, 6), (0, 6), (0, 36), (0, 6), (19, 7), (0, 6), (0, 6), (0, 6), (0, 36), (0, 30), (19, 7), (0, 6), (0, 6), (0, 6), (0, 36), (0, 30), (14, 3), (4, 20), (19, 7), (0, 6), (0, 6), (0, 6), (0, 36), (0, 30), (19, 7), (0, 6), (0, 6), (0, 6), (0, 36), (0, 30), (19, 7), (0, 6), (0, 6), (0, 6), (0, 36), (0, 30), (19, 7), (0, 6), (0, 6), (0, 6), (0, 36), (0, 30), (19, 7), (0, 6), (0, 6), (0, 6), (0, 36), (0, 30), (19, 7), (0, 6), (0, 6), (0, 6), (0, 36), (0, 30), (19, 7), (0, 6), (0, 6), (0, 6), (0, 36), (0, 30), (19, 7), (0, 6), (0, 6), (0, 6), (0, 36), (0, 30), (19, 7), (0, 6), (0, 6), (0, 6), (0, 36), (0, 30), (19, 7), (0, 6), (0, 6), (0, 6), (0, 36), (0, 30), (19, 7), (0, 6), (0, 6), (0, 6), (0, 36), (0, 30), (19, 7), (0, 6), (0, 6), (0, 6), (0, 36), (0, 30), (19, 7), (0, 6), (0, 6), (0, 6), (0, 36), (0, 30), (19, 7), (0, 6), (0, 6), (0, 6), (0, 36), (0, 30), (19, 7), (0, 6), (0, 6), (0, 6), (0, 36), (0, 30), (19, 7), (0, 6), (0, 6), (0, 6), (0, 36), (0, 30), (19, 7), (0, 6), (0, 6), (0, 6), (0, 36), (0, 30), (19, 7), (0, 6), (0, 6), (0, 6), (0, 36), (0, 30), (19, 7), (0, 6), (0, 6), (0, 6), (0, 36), (0, 30), (19, 7), (0, 6), (0, 6), (0, 6), (0, 36), (0, 30), (17, 7), (0, 6), (0, 6), (0, 6), (0, 14), (17, 7), (0, 6), (0, 6), (0, 6), (0, 14), (15, 8), (0, 6), (0, 64), (0, 64), (0, 36), (20, 4), (0, 6), (0, 6), (0, 6), (0, 6), (5, 2), (0, 6), (0, 14), (0, 63), (0, 6), (22, 109), (0, 1600), (0, 6), (3, 4), (3, 4), (3, 6), (3, 3), (3, 5), (3, 5), (3, 6), (3, 4), (3, 6), (3, 5), (3, 4), (3, 3), (3, 4), (3, 5), (3, 3), (3, 5), (3, 6), (3, 2), (3, 3), (3, 3), (3, 3), (3, 3), (3, 3), (0, 6), (1, 24), (0, 12), (0, 12), (0, 6), (0, 6), (0, 6), (0, 72), (0, 12), (0, 2), (0, 4), (0, 4), (0, 3200), (0, 176), (0, 6), (0, 6), (0, 6), (0, 46656), (0, 720), (0, 6), (0, 6), (0, 6), (0, 6), (0, 60), (0, 36), (0, 3520), (3, 5), (3, 4), (3, 5), (3, 5), (3, 4), (3, 5), (3, 3), (3, 3), (3, 2), (3, 3), (3, 3), (3, 3), (3, 4), (3, 5), (3, 5), (3, 4), (3, 3), (3, 5), (3, 5), (3, 6), (0, 1700), (0, 1700), (1, 1700), (0, 63)]
def kd0 (a : Nat) : Nat × Nat := kl0.getD a (99, 0)
def pl0 : List (Nat × Nat × Int) := [(0, 0, 1), (2, 0, 1), (2, 1, 3), (0, 2, 2), (4, 0, 2), (4, 1, 5), (0, 3, 4), (6, 0, 2), (6, 1, 4), (0, 4, 6), (7, 5, 8), (7, 6, 9), (7, 7, 10), (7, 8, 11), (7, 9, 12), (7, 10, 13), (14, 1, 15), (14, 2, 16), (14, 3, 17), (14, 4, 18), (14, 5, 19), (7, 13, 14), (20, 1, 21), (20, 2, 22), (20, 3, 23), (20, 4, 24), (20, 5, 25), (0, 6, 20), (26, 0, 27), (0, 7, 26), (28, 1, 29), (28, 2, 30), (28, 3, 31), (28, 4, 32), (28, 5, 33), (34, 1, 35), (34, 2, 36), (34, 3, 37), (34, 4, 38), (34, 5, 39), (40, 1, 41), (40, 2, 42), (40, 3, 43), (40, 4, 44), (40, 5, 45), (46, 1, 47), (46, 2, 48), (46, 3, 49), (46, 4, 50), (46, 5, 51), (52, 1, 53), (52, 2, 54), (52, 3, 55), (52, 4, 56), (52, 5, 57), (58, 1, 59), (58, 2, 60), (58, 3, 61), (58, 4, 62), (58, 5, 63), (64, 1, 65), (64, 2, 66), (64, 3, 67), (64, 4, 68), (64, 5, 69), (70, 1, 71), (70, 2, 72), (70, 3, 73), (70, 4, 74), (70, 5, 75), (76, 1, 77), (76, 2, 78), (76, 3, 79), (76, 4, 80), (76, 5, 81), (82, 1, 83), (82, 2, 84), (82, 3, 85), (82, 4, 86), (82, 5, 87), (88, 1, 89), (88, 2, 90), (88, 3, 91), (88, 4, 92), (88, 5, 93), (94, 1, 95), (94, 2, 96), (94, 3, 97), (94, 4, 98), (94, 5, 99), (100, 1, 101), (100, 2, 102), (100, 3, 103), (100, 4, 104), (100, 5, 105), (106, 1, 107), (106, 2, 108), (106, 3, 109), (106, 4, 110), (106, 5, 111), (112, 1, 113), (112, 2, 114), (112, 3, 115), (112, 4, 116), (112, 5, 117), (118, 1, 119), (118, 2, 120), (118, 3, 121), (118, 4, 122), (118, 5, 123), (124, 1, 125), (124, 2, 126), (124, 3, 127), (124, 4, 128), (124, 5, 129), (130, 1, 131), (130, 2, 132), (130, 3, 133), (130, 4, 134), (130, 5, 135), (136, 1, 137), (136, 2, 138), (136, 3, 139), (136, 4, 140), (136, 5, 141), (142, 1, 143), (142, 2, 144), (142, 3, 145), (142, 4, 146), (142, 5, 147), (148, 0, 149), (148, 4, 150), (148, 5, 151), (148, 6, 152), (0, 8, 148), (153, 0, 154), (153, 4, 155), (153, 5, 156), (153, 6, 157), (0, 9, 153), (158, 4, 159), (158, 5, 160), (158, 6, 161), (158, 7, 162), (0, 10, 158), (163, 0, 164), (163, 1, 165), (163, 2, 166), (163, 3, 167), (0, 11, 163), (0, 12, 168), (0, 13, 169), (0, 14, 170), (0, 15, 171), (0, 17, 172), (173, 0, 174), (173, 9, 175), (173, 10, 176), (173, 11, 177), (173, 12, 178), (173, 13, 179), (173, 14, 180), (173, 15, 181), (173, 16, 182), (173, 17, 183), (173, 18, 184), (173, 19, 185), (173, 20, 186), (173, 21, 187), (173, 22, 188), (173, 23, 189), (173, 24, 190), (173, 25, 191), (173, 26, 192), (173, 27, 193), (173, 28, 194), (173, 29, 195), (173, 30, 196), (173, 31, 197), (173, 32, 198), (173, 34, 199), (173, 35, 200), (173, 36, 201), (173, 37, 202), (173, 38, 203), (173, 39, 204), (173, 40, 205), (173, 41, 206), (173, 42, 207), (173, 43, 208), (173, 44, 209), (173, 45, 210), (173, 46, 211), (173, 50, 212), (173, 55, 213), (173, 58, 214), (173, 59, 215), (173, 63, 216), (173, 64, 217), (173, 66, 218), (173, 67, 219), (173, 68, 220), (173, 69, 221), (173, 71, 222), (173, 72, 223), (173, 73, 224), (173, 77, 225), (173, 78, 226), (173, 79, 227), (173, 80, 228), (173, 81, 229), (173, 82, 230), (173, 83, 231), (173, 84, 232), (173, 85, 233), (173, 86, 234), (173, 87, 235), (173, 88, 236), (173, 89, 237), (173, 90, 238), (173, 91, 239), (173, 92, 240), (173, 93, 241), (173, 94, 242), (173, 95, 243), (173, 96, 244), (173, 97, 245), (173, 99, 246), (173, 103, 247), (173, 107, 248), (27, 0, 28), (27, 1, 34), (27, 2, 40), (27, 3, 46), (27, 4, 52), (27, 5, 58), (27, 6, 64), (27, 7, 70), (27, 8, 76), (27, 9, 82), (27, 10, 88), (27, 11, 94), (27, 12, 100), (27, 13, 106), (27, 14, 112), (27, 15, 118), (27, 16, 124), (27, 17, 130), (27, 18, 136), (27, 19, 142), (176, 0, 104), (176, 1, 101), (176, 2, 108), (176, 3, 100), (177, 0, 115), (177, 1, 97), (177, 2, 108), (177, 3, 116), (178, 0, 104), (178, 1, 111), (178, 2, 108), (178, 3, 100), (178, 4, 101), (178, 5, 114), (179, 0, 104), (179, 1, 97), (179, 2, 115), (180, 0, 119), (180, 1, 97), (180, 2, 110), (180, 3, 116), (180, 4, 115), (181, 0, 112), (181, 1, 117), (181, 2, 114), (181, 3, 115), (181, 4, 101), (182, 0, 118), (182, 1, 97), (182, 2, 108), (182, 3, 117), (182, 4, 101), (182, 5, 115), (183, 0, 102), (183, 1, 101), (183, 2, 117), (183, 3, 100), (184, 0, 115), (184, 1, 105), (184, 2, 115), (184, 3, 116), (184, 4, 101), (184, 5, 114), (185, 0, 115), (185, 1, 119), (185, 2, 97), (185, 3, 112), (185, 4, 115), (186, 0, 112), (186, 1, 97), (186, 2, 121), (186, 3, 115), (187, 0, 102), (187, 1, 111), (187, 2, 103), (188, 0, 103), (188, 1, 101), (188, 2, 116), (188, 3, 115), (189, 0, 103), (189, 1, 105), (189, 2, 118), (189, 3, 101), (189, 4, 115), (190, 0, 109), (190, 1, 101), (190, 2, 116), (191, 0, 110), (191, 1, 105), (191, 2, 103), (191, 3, 104), (191, 4, 116), (192, 0, 110), (192, 1, 117), (192, 2, 109), (192, 3, 98), (192, 4, 101), (192, 5, 114), (193, 0, 111), (193, 1, 114), (194, 0, 97), (194, 1, 110), (194, 2, 100), (195, 0, 110), (195, 1, 111), (195, 2, 116), (196, 0, 97), (196, 1, 108), (196, 2, 108), (197, 0, 109), (197, 1, 105), (197, 2, 110), (198, 0, 109), (198, 1, 97), (198, 2, 120), (225, 0, 102), (225, 1, 105), (225, 2, 114), (225, 3, 115), (225, 4, 116), (226, 0, 108), (226, 1, 97), (226, 2, 115), (226, 3, 116), (227, 0, 111), (227, 1, 102), (227, 2, 116), (227, 3, 101), (227, 4, 110), (228, 0, 116), (228, 1, 111), (228, 2, 116), (228, 3, 97), (228, 4, 108), (229, 0, 109), (229, 1, 111), (229, 2, 115), (229, 3, 116), (230, 0, 108), (230, 1, 101), (230, 2, 97), (230, 3, 115), (230, 4, 116), (231, 0, 110), (231, 1, 111), (231, 2, 116), (232, 0, 97), (232, 1, 110), (232, 2, 100), (233, 0, 111), (233, 1, 114), (234, 0, 97), (234, 1, 108), (234, 2, 108), (235, 0, 109), (235, 1, 105), (235, 2, 110), (236, 0, 109), (236, 1, 97), (236, 2, 120), (237, 0, 103), (237, 1, 101), (237, 2, 116), (237, 3, 115), (238, 0, 103), (238, 1, 105), (238, 2, 118), (238, 3, 101), (238, 4, 115), (239, 0, 119), (239, 1, 97), (239, 2, 110), (239, 3, 116), (239, 4, 115), (240, 0, 115), (240, 1, 97), (240, 2, 108), (240, 3, 116), (241, 0, 109), (241, 1, 101), (241, 2, 116), (242, 0, 112), (242, 1, 117), (242, 2, 114), (242, 3, 115), (242, 4, 101), (243, 0, 110), (243, 1, 105), (243, 2, 103), (243, 3, 104), (243, 4, 116), (244, 0, 110), (244, 1, 117), (244, 2, 109), (244, 3, 98), (244, 4, 101), (244, 5, 114), (3, 0, 274075648), (3, 1, 638996480), (3, 2, 284561586), (3, 3, 270106624), (3, 4, 773280352), (3, 5, 559500448), (3, 6, 739660979), (3, 7, 207261696), (3, 8, 647614642), (3, 9, 661701216), (3, 10, 538758144), (3, 11, 217284608), (3, 12, 240798720), (3, 13, 245044832), (3, 14, 442105856), (3, 15, 479437440), (3, 16, 492210354), (3, 17, 522190848), (3, 18, 48365568), (3, 19, 486146048), (3, 20, 46530560), (3, 21, 446103552), (3, 22, 438042624), (3, 23, 211373696), (3, 24, 404344832), (3, 25, 510268864), (3, 26, 687474048), (3, 27, 452579328), (3, 28, 407948928)]
/-- the objects of the constructors stand, with their fixed cells -/
def SH (h : xa_H) : Prop := 249 ≤ xn h ∧ (∀ a, a < 249 → xk h a = kd0 a) ∧ ∀ t ∈ pl0, xm h t.1 t.2.1 = t.2.2
def fixd (a k : Nat) : Bool := pl0.any fun t => t.1 == a && t.2.1 == k
def fixa (a : Nat) : Bool := pl0.any fun t => t.1 == a
theorem SH.ok {h : xa_H} (S : SH h) (ci a : Nat) (ha : a < 249) (hk : (kd0 a).1 = 10 + ci) : xok h ci (a : Int) = true := by
  have h1 := S.1
  have h2 := S.2.1 a ha
  simp only [xok, Int.toNat_natCast, h2, hk]
  simp
  omega
theorem SH.ia {h : xa_H} (S : SH h) (kd a n : Nat) (ha : a < 249) (hk : kd0 a = (kd, n)) {i : Int} (h0 : 0 ≤ i) (h1 : i < (n : Int)) : xia h kd (a : Int) i = true := by
  have g1 := S.1
  have h2 := S.2.1 a ha
  simp only [xia, Int.toNat_natCast, h2, hk]
  simp
  omega
theorem SH.ln {h : xa_H} (S : SH h) (kd a n : Nat) (ha : a < 249) (hk : kd0 a = (kd, n)) (h6 : kd < 6) (hn : n < 2147483648) : xln h (a : Int) = some (n : Int) := by
  have g1 := S.1
  have h2 := S.2.1 a ha
  simp only [xln, Int.toNat_natCast, h2, hk]
  rw [if_pos]
  simp only [Bool.and_eq_true, decide_eq_true_eq]
  omega
theorem SH.set {h : xa_H} (S : SH h) {a k : Nat} {v : Int} (hp : fixd a k = false) : SH (xset h a k v) := by
  refine ⟨S.1, S.2.1, fun t ht => ?_⟩
  rw [xm_xset, if_neg, S.2.2 t ht]
  rintro ⟨e1, e2⟩
  have := List.any_eq_false.mp hp t ht
  simp [e1, e2] at this
theorem SH.arr {h : xa_H} (S : SH h) {a : Nat} {G : Nat → Int} (hp : fixa a = false) : SH (xarr h a G) := by
  refine ⟨S.1, S.2.1, fun t ht => ?_⟩
  rw [xm_xarr, if_neg, S.2.2 t ht]
  intro e1
  have := List.any_eq_false.mp hp t ht
  simp [e1] at this
theorem fixd_of {a k : Nat} (hp : fixa a = false) : fixd a k = false := by
  refine List.any_eq_false.mpr fun t ht => ?_
  have := List.any_eq_false.mp hp t ht
  simp at this
  simp [this]
theorem SH.fixed {h h' : xa_H} (S : SH h) (hn : 249 ≤ xn h') (hk : ∀ a, a < 249 → xk h' a = xk h a) (hm : ∀ a k, fixd a k = true → xm h' a k = xm h a k) : SH h' := by
  refine ⟨hn, fun a ha => (hk a ha).trans (S.2.1 a ha), fun t ht => ?_⟩
  rw [hm, S.2.2 t ht]
  refine List.any_eq_true.mpr ⟨t, ht, by simp⟩
theorem ok_0 {h : xa_H} (S : SH h) : xok h 11 0 = true := S.ok 11 0 (Nat.le_of_ble_eq_true rfl) (by decide +kernel)
theorem ok_2 {h : xa_H} (S : SH h) : xok h 6 2 = true := S.ok 6 2 (Nat.le_of_ble_eq_true rfl) (by decide +kernel)
theorem ok_4 {h : xa_H} (S : SH h) : xok h 3 4 = true := S.ok 3 4 (Nat.le_of_ble_eq_true rfl) (by decide +kernel)
theorem ok_6 {h : xa_H} (S : SH h) : xok h 1 6 = true := S.ok 1 6 (Nat.le_of_ble_eq_true rfl) (by decide +kernel)
theorem ok_7 {h : xa_H} (S : SH h) : xok h 0 7 = true := S.ok 0 7 (Nat.le_of_ble_eq_true rfl) (by decide +kernel)
theorem ok_14 {h : xa_H} (S : SH h) : xok h 9 14 = true := S.ok 9 14 (Nat.le_of_ble_eq_true rfl) (by decide +kernel)
theorem ok_20 {h : xa_H} (S : SH h) : xok h 9 20 = true := S.ok 9 20 (Nat.le_of_ble_eq_true rfl) (by decide +kernel)
theorem ok_26 {h : xa_H} (S : SH h) : xok h 4 26 = true := S.ok 4 26 (Nat.le_of_ble_eq_true rfl) (by decide +kernel)
theorem ok_148 {h : xa_H} (S : SH h) : xok h 7 148 = true := S.ok 7 148 (Nat.le_of_ble_eq_true rfl) (by decide +kernel)
theorem ok_153 {h : xa_H} (S : SH h) : xok h 7 153 = true := S.ok 7 153 (Nat.le_of_ble_eq_true rfl) (by decide +kernel)
theorem ok_158 {h : xa_H} (S : SH h) : xok h 5 158 = true := S.ok 5 158 (Nat.le_of_ble_eq_true rfl) (by decide +kernel)
theorem ok_163 {h : xa_H} (S : SH h) : xok h 10 163 = true := S.ok 10 163 (Nat.le_of_ble_eq_true rfl) (by decide +kernel)
theorem ok_173 {h : xa_H} (S : SH h) : xok h 12 173 = true := S.ok 12 173 (Nat.le_of_ble_eq_true rfl) (by decide +kernel)
theorem ia_1 {h : xa_H} (S : SH h) {i : Int} (h0 : 0 ≤ i) (h1 : i < 1600) : xia h 2 1 i = true := S.ia 2 1 1600 (Nat.le_of_ble_eq_true rfl) (by decide +kernel) h0 h1
theorem ia_3 {h : xa_H} (S : SH h) {i : Int} (h0 : 0 ≤ i) (h1 : i < 29) : xia h 0 3 i = true := S.ia 0 3 29 (Nat.le_of_ble_eq_true rfl) (by decide +kernel) h0 h1
theorem ia_5 {h : xa_H} (S : SH h) {i : Int} (h0 : 0 ≤ i) (h1 : i < 1600) : xia h 0 5 i = true := S.ia 0 5 1600 (Nat.le_of_ble_eq_true rfl) (by decide +kernel) h0 h1
theorem ia_8 {h : xa_H} (S : SH h) {i : Int} (h0 : 0 ≤ i) (h1 : i < 6) : xia h 0 8 i = true := S.ia 0 8 6 (Nat.le_of_ble_eq_true rfl) (by decide +kernel) h0 h1
theorem ia_9 {h : xa_H} (S : SH h) {i : Int} (h0 : 0 ≤ i) (h1 : i < 6) : xia h 0 9 i = true := S.ia 0 9 6 (Nat.le_of_ble_eq_true rfl) (by decide +kernel) h0 h1
theorem ia_10 {h : xa_H} (S : SH h) {i : Int} (h0 : 0 ≤ i) (h1 : i < 6) : xia h 0 10 i = true := S.ia 0 10 6 (Nat.le_of_ble_eq_true rfl) (by decide +kernel) h0 h1
theorem ia_11 {h : xa_H} (S : SH h) {i : Int} (h0 : 0 ≤ i) (h1 : i < 6) : xia h 0 11 i = true := S.ia 0 11 6 (Nat.le_of_ble_eq_true rfl) (by decide +kernel) h0 h1
theorem ia_12 {h : xa_H} (S : SH h) {i : Int} (h0 : 0 ≤ i) (h1 : i < 36) : xia h 0 12 i = true := S.ia 0 12 36 (Nat.le_of_ble_eq_true rfl) (by decide +kernel) h0 h1
theorem ia_13 {h : xa_H} (S : SH h) {i : Int} (h0 : 0 ≤ i) (h1 : i < 6) : xia h 0 13 i = true := S.ia 0 13 6 (Nat.le_of_ble_eq_true rfl) (by decide +kernel) h0 h1
theorem ia_15 {h : xa_H} (S : SH h) {i : Int} (h0 : 0 ≤ i) (h1 : i < 6) : xia h 0 15 i = true := S.ia 0 15 6 (Nat.le_of_ble_eq_true rfl) (by decide +kernel) h0 h1
theorem ia_16 {h : xa_H} (S : SH h) {i : Int} (h0 : 0 ≤ i) (h1 : i < 6) : xia h 0 16 i = true := S.ia 0 16 6 (Nat.le_of_ble_eq_true rfl) (by decide +kernel) h0 h1
theorem ia_17 {h : xa_H} (S : SH h) {i : Int} (h0 : 0 ≤ i) (h1 : i < 6) : xia h 0 17 i = true := S.ia 0 17 6 (Nat.le_of_ble_eq_true rfl) (by decide +kernel) h0 h1
theorem ia_18 {h : xa_H} (S : SH h) {i : Int} (h0 : 0 ≤ i) (h1 : i < 36) : xia h 0 18 i = true := S.ia 0 18 36 (Nat.le_of_ble_eq_true rfl) (by decide +kernel) h0 h1
theorem ia_19 {h : xa_H} (S : SH h) {i : Int} (h0 : 0 ≤ i) (h1 : i < 30) : xia h 0 19 i = true := S.ia 0 19 30 (Nat.le_of_ble_eq_true rfl) (by decide +kernel) h0 h1
theorem ia_21 {h : xa_H} (S : SH h) {i : Int} (h0 : 0 ≤ i) (h1 : i < 6) : xia h 0 21 i = true := S.ia 0 21 6 (Nat.le_of_ble_eq_true rfl) (by decide +kernel) h0 h1
theorem ia_22 {h : xa_H} (S : SH h) {i : Int} (h0 : 0 ≤ i) (h1 : i < 6) : xia h 0 22 i = true := S.ia 0 22 6 (Nat.le_of_ble_eq_true rfl) (by decide +kernel) h0 h1
theorem ia_23 {h : xa_H} (S : SH h) {i : Int} (h0 : 0 ≤ i) (h1 : i < 6) : xia h 0 23 i = true := S.ia 0 23 6 (Nat.le_of_ble_eq_true rfl) (by decide +kernel) h0 h1
theorem ia_24 {h : xa_H} (S : SH h) {i : Int} (h0 : 0 ≤ i) (h1 : i < 36) : xia h 0 24 i = true := S.ia 0 24 36 (Nat.le_of_ble_eq_true rfl) (by decide +kernel) h0 h1
theorem ia_25 {h : xa_H} (S : SH h) {i : Int} (h0 : 0 ≤ i) (h1 : i < 30) : xia h 0 25 i = true := S.ia 0 25 30 (Nat.le_of_ble_eq_true rfl) (by decide +kernel) h0 h1
theorem ia_27 {h : xa_H} (S : SH h) {i : Int} (h0 : 0 ≤ i) (h1 : i < 20) : xia h 4 27 i = true := S.ia 4 27 20 (Nat.le_of_ble_eq_true rfl) (by decide +kernel) h0 h1
theorem ia_149 {h : xa_H} (S : SH h) {i : Int} (h0 : 0 ≤ i) (h1 : i < 6) : xia h 0 149 i = true := S.ia 0 149 6 (Nat.le_of_ble_eq_true rfl) (by decide +kernel) h0 h1
theorem ia_150 {h : xa_H} (S : SH h) {i : Int} (h0 : 0 ≤ i) (h1 : i < 6) : xia h 0 150 i = true := S.ia 0 150 6 (Nat.le_of_ble_eq_true rfl) (by decide +kernel) h0 h1
theorem ia_151 {h : xa_H} (S : SH h) {i : Int} (h0 : 0 ≤ i) (h1 : i < 6) : xia h 0 151 i = true := S.ia 0 151 6 (Nat.le_of_ble_eq_true rfl) (by decide +kernel) h0 h1
theorem ia_152 {h : xa_H} (S : SH h) {i : Int} (h0 : 0 ≤ i) (h1 : i < 14) : xia h 0 152 i = true := S.ia 0 152 14 (Nat.le_of_ble_eq_true rfl) (by decide +kernel) h0 h1
theorem ia_154 {h : xa_H} (S : SH h) {i : Int} (h0 : 0 ≤ i) (h1 : i < 6) : xia h 0 154 i = true := S.ia 0 154 6 (Nat.le_of_ble_eq_true rfl) (by decide +kernel) h0 h1
theorem ia_155 {h : xa_H} (S : SH h) {i : Int} (h0 : 0 ≤ i) (h1 : i < 6) : xia h 0 155 i = true := S.ia 0 155 6 (Nat.le_of_ble_eq_true rfl) (by decide +kernel) h0 h1
theorem ia_156 {h : xa_H} (S : SH h) {i : Int} (h0 : 0 ≤ i) (h1 : i < 6) : xia h 0 156 i = true := S.ia 0 156 6 (Nat.le_of_ble_eq_true rfl) (by decide +kernel) h0 h1
theorem ia_157 {h : xa_H} (S : SH h) {i : Int} (h0 : 0 ≤ i) (h1 : i < 14) : xia h 0 157 i = true := S.ia 0 157 14 (Nat.le_of_ble_eq_true rfl) (by decide +kernel) h0 h1
theorem ia_159 {h : xa_H} (S : SH h) {i : Int} (h0 : 0 ≤ i) (h1 : i < 6) : xia h 0 159 i = true := S.ia 0 159 6 (Nat.le_of_ble_eq_true rfl) (by decide +kernel) h0 h1
theorem ia_160 {h : xa_H} (S : SH h) {i : Int} (h0 : 0 ≤ i) (h1 : i < 64) : xia h 0 160 i = true := S.ia 0 160 64 (Nat.le_of_ble_eq_true rfl) (by decide +kernel) h0 h1
theorem ia_161 {h : xa_H} (S : SH h) {i : Int} (h0 : 0 ≤ i) (h1 : i < 64) : xia h 0 161 i = true := S.ia 0 161 64 (Nat.le_of_ble_eq_true rfl) (by decide +kernel) h0 h1
theorem ia_162 {h : xa_H} (S : SH h) {i : Int} (h0 : 0 ≤ i) (h1 : i < 36) : xia h 0 162 i = true := S.ia 0 162 36 (Nat.le_of_ble_eq_true rfl) (by decide +kernel) h0 h1
theorem ia_164 {h : xa_H} (S : SH h) {i : Int} (h0 : 0 ≤ i) (h1 : i < 6) : xia h 0 164 i = true := S.ia 0 164 6 (Nat.le_of_ble_eq_true rfl) (by decide +kernel) h0 h1
theorem ia_165 {h : xa_H} (S : SH h) {i : Int} (h0 : 0 ≤ i) (h1 : i < 6) : xia h 0 165 i = true := S.ia 0 165 6 (Nat.le_of_ble_eq_true rfl) (by decide +kernel) h0 h1
theorem ia_166 {h : xa_H} (S : SH h) {i : Int} (h0 : 0 ≤ i) (h1 : i < 6) : xia h 0 166 i = true := S.ia 0 166 6 (Nat.le_of_ble_eq_true rfl) (by decide +kernel) h0 h1
theorem ia_167 {h : xa_H} (S : SH h) {i : Int} (h0 : 0 ≤ i) (h1 : i < 6) : xia h 0 167 i = true := S.ia 0 167 6 (Nat.le_of_ble_eq_true rfl) (by decide +kernel) h0 h1
theorem ia_168 {h : xa_H} (S : SH h) {i : Int} (h0 : 0 ≤ i) (h1 : i < 2) : xia h 5 168 i = true := S.ia 5 168 2 (Nat.le_of_ble_eq_true rfl) (by decide +kernel) h0 h1
theorem ia_169 {h : xa_H} (S : SH h) {i : Int} (h0 : 0 ≤ i) (h1 : i < 6) : xia h 0 169 i = true := S.ia 0 169 6 (Nat.le_of_ble_eq_true rfl) (by decide +kernel) h0 h1
theorem ia_170 {h : xa_H} (S : SH h) {i : Int} (h0 : 0 ≤ i) (h1 : i < 14) : xia h 0 170 i = true := S.ia 0 170 14 (Nat.le_of_ble_eq_true rfl) (by decide +kernel) h0 h1
theorem ia_171 {h : xa_H} (S : SH h) {i : Int} (h0 : 0 ≤ i) (h1 : i < 63) : xia h 0 171 i = true := S.ia 0 171 63 (Nat.le_of_ble_eq_true rfl) (by decide +kernel) h0 h1
theorem ia_172 {h : xa_H} (S : SH h) {i : Int} (h0 : 0 ≤ i) (h1 : i < 6) : xia h 0 172 i = true := S.ia 0 172 6 (Nat.le_of_ble_eq_true rfl) (by decide +kernel) h0 h1
theorem ia_174 {h : xa_H} (S : SH h) {i : Int} (h0 : 0 ≤ i) (h1 : i < 1600) : xia h 0 174 i = true := S.ia 0 174 1600 (Nat.le_of_ble_eq_true rfl) (by decide +kernel) h0 h1
theorem ia_175 {h : xa_H} (S : SH h) {i : Int} (h0 : 0 ≤ i) (h1 : i < 6) : xia h 0 175 i = true := S.ia 0 175 6 (Nat.le_of_ble_eq_true rfl) (by decide +kernel) h0 h1
theorem ia_176 {h : xa_H} (S : SH h) {i : Int} (h0 : 0 ≤ i) (h1 : i < 4) : xia h 3 176 i = true := S.ia 3 176 4 (Nat.le_of_ble_eq_true rfl) (by decide +kernel) h0 h1
theorem ia_177 {h : xa_H} (S : SH h) {i : Int} (h0 : 0 ≤ i) (h1 : i < 4) : xia h 3 177 i = true := S.ia 3 177 4 (Nat.le_of_ble_eq_true rfl) (by decide +kernel) h0 h1
theorem ia_178 {h : xa_H} (S : SH h) {i : Int} (h0 : 0 ≤ i) (h1 : i < 6) : xia h 3 178 i = true := S.ia 3 178 6 (Nat.le_of_ble_eq_true rfl) (by decide +kernel) h0 h1
theorem ia_179 {h : xa_H} (S : SH h) {i : Int} (h0 : 0 ≤ i) (h1 : i < 3) : xia h 3 179 i = true := S.ia 3 179 3 (Nat.le_of_ble_eq_true rfl) (by decide +kernel) h0 h1
theorem ia_180 {h : xa_H} (S : SH h) {i : Int} (h0 : 0 ≤ i) (h1 : i < 5) : xia h 3 180 i = true := S.ia 3 180 5 (Nat.le_of_ble_eq_true rfl) (by decide +kernel) h0 h1
theorem ia_181 {h : xa_H} (S : SH h) {i : Int} (h0 : 0 ≤ i) (h1 : i < 5) : xia h 3 181 i = true := S.ia 3 181 5 (Nat.le_of_ble_eq_true rfl) (by decide +kernel) h0 h1
theorem ia_182 {h : xa_H} (S : SH h) {i : Int} (h0 : 0 ≤ i) (h1 : i < 6) : xia h 3 182 i = true := S.ia 3 182 6 (Nat.le_of_ble_eq_true rfl) (by decide +kernel) h0 h1
theorem ia_183 {h : xa_H} (S : SH h) {i : Int} (h0 : 0 ≤ i) (h1 : i < 4) : xia h 3 183 i = true := S.ia 3 183 4 (Nat.le_of_ble_eq_true rfl) (by decide +kernel) h0 h1
theorem ia_184 {h : xa_H} (S : SH h) {i : Int} (h0 : 0 ≤ i) (h1 : i < 6) : xia h 3 184 i = true := S.ia 3 184 6 (Nat.le_of_ble_eq_true rfl) (by decide +kernel) h0 h1
theorem ia_185 {h : xa_H} (S : SH h) {i : Int} (h0 : 0 ≤ i) (h1 : i < 5) : xia h 3 185 i = true := S.ia 3 185 5 (Nat.le_of_ble_eq_true rfl) (by decide +kernel) h0 h1
theorem ia_186 {h : xa_H} (S : SH h) {i : Int} (h0 : 0 ≤ i) (h1 : i < 4) : xia h 3 186 i = true := S.ia 3 186 4 (Nat.le_of_ble_eq_true rfl) (by decide +kernel) h0 h1
theorem ia_187 {h : xa_H} (S : SH h) {i : Int} (h0 : 0 ≤ i) (h1 : i < 3) : xia h 3 187 i = true := S.ia 3 187 3 (Nat.le_of_ble_eq_true rfl) (by decide +kernel) h0 h1
theorem ia_188 {h : xa_H} (S : SH h) {i : Int} (h0 : 0 ≤ i) (h1 : i < 4) : xia h 3 188 i = true := S.ia 3 188 4 (Nat.le_of_ble_eq_true rfl) (by decide +kernel) h0 h1
theorem ia_189 {h : xa_H} (S : SH h) {i : Int} (h0 : 0 ≤ i) (h1 : i < 5) : xia h 3 189 i = true := S.ia 3 189 5 (Nat.le_of_ble_eq_true rfl) (by decide +kernel) h0 h1
theorem ia_190 {h : xa_H} (S : SH h) {i : Int} (h0 : 0 ≤ i) (h1 : i < 3) : xia h 3 190 i = true := S.ia 3 190 3 (Nat.le_of_ble_eq_true rfl) (by decide +kernel) h0 h1
theorem ia_191 {h : xa_H} (S : SH h) {i : Int} (h0 : 0 ≤ i) (h1 : i < 5) : xia h 3 191 i = true := S.ia 3 191 5 (Nat.le_of_ble_eq_true rfl) (by decide +kernel) h0 h1
theorem ia_192 {h : xa_H} (S : SH h) {i : Int} (h0 : 0 ≤ i) (h1 : i < 6) : xia h 3 192 i = true := S.ia 3 192 6 (Nat.le_of_ble_eq_true rfl) (by decide +kernel) h0 h1
theorem ia_193 {h : xa_H} (S : SH h) {i : Int} (h0 : 0 ≤ i) (h1 : i < 2) : xia h 3 193 i = true := S.ia 3 193 2 (Nat.le_of_ble_eq_true rfl) (by decide +kernel) h0 h1
theorem ia_194 {h : xa_H} (S : SH h) {i : Int} (h0 : 0 ≤ i) (h1 : i < 3) : xia h 3 194 i = true := S.ia 3 194 3 (Nat.le_of_ble_eq_true rfl) (by decide +kernel) h0 h1
theorem ia_195 {h : xa_H} (S : SH h) {i : Int} (h0 : 0 ≤ i) (h1 : i < 3) : xia h 3 195 i = true := S.ia 3 195 3 (Nat.le_of_ble_eq_true rfl) (by decide +kernel) h0 h1
theorem ia_196 {h : xa_H} (S : SH h) {i : Int} (h0 : 0 ≤ i) (h1 : i < 3) : xia h 3 196 i = true := S.ia 3 196 3 (Nat.le_of_ble_eq_true rfl) (by decide +kernel) h0 h1
theorem ia_197 {h : xa_H} (S : SH h) {i : Int} (h0 : 0 ≤ i) (h1 : i < 3) : xia h 3 197 i = true := S.ia 3 197 3 (Nat.le_of_ble_eq_true rfl) (by decide +kernel) h0 h1
theorem ia_198 {h : xa_H} (S : SH h) {i : Int} (h0 : 0 ≤ i) (h1 : i < 3) : xia h 3 198 i = true := S.ia 3 198 3 (Nat.le_of_ble_eq_true rfl) (by decide +kernel) h0 h1
theorem ia_199 {h : xa_H} (S : SH h) {i : Int} (h0 : 0 ≤ i) (h1 : i < 6) : xia h 0 199 i = true := S.ia 0 199 6 (Nat.le_of_ble_eq_true rfl) (by decide +kernel) h0 h1
theorem ia_200 {h : xa_H} (S : SH h) {i : Int} (h0 : 0 ≤ i) (h1 : i < 24) : xia h 1 200 i = true := S.ia 1 200 24 (Nat.le_of_ble_eq_true rfl) (by decide +kernel) h0 h1
theorem ia_201 {h : xa_H} (S : SH h) {i : Int} (h0 : 0 ≤ i) (h1 : i < 12) : xia h 0 201 i = true := S.ia 0 201 12 (Nat.le_of_ble_eq_true rfl) (by decide +kernel) h0 h1
theorem ia_202 {h : xa_H} (S : SH h) {i : Int} (h0 : 0 ≤ i) (h1 : i < 12) : xia h 0 202 i = true := S.ia 0 202 12 (Nat.le_of_ble_eq_true rfl) (by decide +kernel) h0 h1
theorem ia_203 {h : xa_H} (S : SH h) {i : Int} (h0 : 0 ≤ i) (h1 : i < 6) : xia h 0 203 i = true := S.ia 0 203 6 (Nat.le_of_ble_eq_true rfl) (by decide +kernel) h0 h1
theorem ia_204 {h : xa_H} (S : SH h) {i : Int} (h0 : 0 ≤ i) (h1 : i < 6) : xia h 0 204 i = true := S.ia 0 204 6 (Nat.le_of_ble_eq_true rfl) (by decide +kernel) h0 h1
theorem ia_205 {h : xa_H} (S : SH h) {i : Int} (h0 : 0 ≤ i) (h1 : i < 6) : xia h 0 205 i = true := S.ia 0 205 6 (Nat.le_of_ble_eq_true rfl) (by decide +kernel) h0 h1
theorem ia_206 {h : xa_H} (S : SH h) {i : Int} (h0 : 0 ≤ i) (h1 : i < 72) : xia h 0 206 i = true := S.ia 0 206 72 (Nat.le_of_ble_eq_true rfl) (by decide +kernel) h0 h1
theorem ia_207 {h : xa_H} (S : SH h) {i : Int} (h0 : 0 ≤ i) (h1 : i < 12) : xia h 0 207 i = true := S.ia 0 207 12 (Nat.le_of_ble_eq_true rfl) (by decide +kernel) h0 h1
theorem ia_208 {h : xa_H} (S : SH h) {i : Int} (h0 : 0 ≤ i) (h1 : i < 2) : xia h 0 208 i = true := S.ia 0 208 2 (Nat.le_of_ble_eq_true rfl) (by decide +kernel) h0 h1
theorem ia_209 {h : xa_H} (S : SH h) {i : Int} (h0 : 0 ≤ i) (h1 : i < 4) : xia h 0 209 i = true := S.ia 0 209 4 (Nat.le_of_ble_eq_true rfl) (by decide +kernel) h0 h1
theorem ia_210 {h : xa_H} (S : SH h) {i : Int} (h0 : 0 ≤ i) (h1 : i < 4) : xia h 0 210 i = true := S.ia 0 210 4 (Nat.le_of_ble_eq_true rfl) (by decide +kernel) h0 h1
theorem ia_211 {h : xa_H} (S : SH h) {i : Int} (h0 : 0 ≤ i) (h1 : i < 3200) : xia h 0 211 i = true := S.ia 0 211 3200 (Nat.le_of_ble_eq_true rfl) (by decide +kernel) h0 h1
theorem ia_212 {h : xa_H} (S : SH h) {i : Int} (h0 : 0 ≤ i) (h1 : i < 176) : xia h 0 212 i = true := S.ia 0 212 176 (Nat.le_of_ble_eq_true rfl) (by decide +kernel) h0 h1
theorem ia_213 {h : xa_H} (S : SH h) {i : Int} (h0 : 0 ≤ i) (h1 : i < 6) : xia h 0 213 i = true := S.ia 0 213 6 (Nat.le_of_ble_eq_true rfl) (by decide +kernel) h0 h1
theorem ia_214 {h : xa_H} (S : SH h) {i : Int} (h0 : 0 ≤ i) (h1 : i < 6) : xia h 0 214 i = true := S.ia 0 214 6 (Nat.le_of_ble_eq_true rfl) (by decide +kernel) h0 h1
theorem ia_215 {h : xa_H} (S : SH h) {i : Int} (h0 : 0 ≤ i) (h1 : i < 6) : xia h 0 215 i = true := S.ia 0 215 6 (Nat.le_of_ble_eq_true rfl) (by decide +kernel) h0 h1
theorem ia_216 {h : xa_H} (S : SH h) {i : Int} (h0 : 0 ≤ i) (h1 : i < 46656) : xia h 0 216 i = true := S.ia 0 216 46656 (Nat.le_of_ble_eq_true rfl) (by decide +kernel) h0 h1
theorem ia_217 {h : xa_H} (S : SH h) {i : Int} (h0 : 0 ≤ i) (h1 : i < 720) : xia h 0 217 i = true := S.ia 0 217 720 (Nat.le_of_ble_eq_true rfl) (by decide +kernel) h0 h1
theorem ia_218 {h : xa_H} (S : SH h) {i : Int} (h0 : 0 ≤ i) (h1 : i < 6) : xia h 0 218 i = true := S.ia 0 218 6 (Nat.le_of_ble_eq_true rfl) (by decide +kernel) h0 h1
theorem ia_219 {h : xa_H} (S : SH h) {i : Int} (h0 : 0 ≤ i) (h1 : i < 6) : xia h 0 219 i = true := S.ia 0 219 6 (Nat.le_of_ble_eq_true rfl) (by decide +kernel) h0 h1
theorem ia_220 {h : xa_H} (S : SH h) {i : Int} (h0 : 0 ≤ i) (h1 : i < 6) : xia h 0 220 i = true := S.ia 0 220 6 (Nat.le_of_ble_eq_true rfl) (by decide +kernel) h0 h1
theorem ia_221 {h : xa_H} (S : SH h) {i : Int} (h0 : 0 ≤ i) (h1 : i < 6) : xia h 0 221 i = true := S.ia 0 221 6 (Nat.le_of_ble_eq_true rfl) (by decide +kernel) h0 h1
theorem ia_222 {h : xa_H} (S : SH h) {i : Int} (h0 : 0 ≤ i) (h1 : i < 60) : xia h 0 222 i = true := S.ia 0 222 60 (Nat.le_of_ble_eq_true rfl) (by decide +kernel) h0 h1
theorem ia_223 {h : xa_H} (S : SH h) {i : Int} (h0 : 0 ≤ i) (h1 : i < 36) : xia h 0 223 i = true := S.ia 0 223 36 (Nat.le_of_ble_eq_true rfl) (by decide +kernel) h0 h1
theorem ia_224 {h : xa_H} (S : SH h) {i : Int} (h0 : 0 ≤ i) (h1 : i < 3520) : xia h 0 224 i = true := S.ia 0 224 3520 (Nat.le_of_ble_eq_true rfl) (by decide +kernel) h0 h1
theorem ia_225 {h : xa_H} (S : SH h) {i : Int} (h0 : 0 ≤ i) (h1 : i < 5) : xia h 3 225 i = true := S.ia 3 225 5 (Nat.le_of_ble_eq_true rfl) (by decide +kernel) h0 h1
theorem ia_226 {h : xa_H} (S : SH h) {i : Int} (h0 : 0 ≤ i) (h1 : i < 4) : xia h 3 226 i = true := S.ia 3 226 4 (Nat.le_of_ble_eq_true rfl) (by decide +kernel) h0 h1
theorem ia_227 {h : xa_H} (S : SH h) {i : Int} (h0 : 0 ≤ i) (h1 : i < 5) : xia h 3 227 i = true := S.ia 3 227 5 (Nat.le_of_ble_eq_true rfl) (by decide +kernel) h0 h1
theorem ia_228 {h : xa_H} (S : SH h) {i : Int} (h0 : 0 ≤ i) (h1 : i < 5) : xia h 3 228 i = true := S.ia 3 228 5 (Nat.le_of_ble_eq_true rfl) (by decide +kernel) h0 h1
theorem ia_229 {h : xa_H} (S : SH h) {i : Int} (h0 : 0 ≤ i) (h1 : i < 4) : xia h 3 229 i = true := S.ia 3 229 4 (Nat.le_of_ble_eq_true rfl) (by decide +kernel) h0 h1
theorem ia_230 {h : xa_H} (S : SH h) {i : Int} (h0 : 0 ≤ i) (h1 : i < 5) : xia h 3 230 i = true := S.ia 3 230 5 (Nat.le_of_ble_eq_true rfl) (by decide +kernel) h0 h1
theorem ia_231 {h : xa_H} (S : SH h) {i : Int} (h0 : 0 ≤ i) (h1 : i < 3) : xia h 3 231 i = true := S.ia 3 231 3 (Nat.le_of_ble_eq_true rfl) (by decide +kernel) h0 h1
theorem ia_232 {h : xa_H} (S : SH h) {i : Int} (h0 : 0 ≤ i) (h1 : i < 3) : xia h 3 232 i = true := S.ia 3 232 3 (Nat.le_of_ble_eq_true rfl) (by decide +kernel) h0 h1
theorem ia_233 {h : xa_H} (S : SH h) {i : Int} (h0 : 0 ≤ i) (h1 : i < 2) : xia h 3 233 i = true := S.ia 3 233 2 (Nat.le_of_ble_eq_true rfl) (by decide +kernel) h0 h1
theorem ia_234 {h : xa_H} (S : SH h) {i : Int} (h0 : 0 ≤ i) (h1 : i < 3) : xia h 3 234 i = true := S.ia 3 234 3 (Nat.le_of_ble_eq_true rfl) (by decide +kernel) h0 h1
theorem ia_235 {h : xa_H} (S : SH h) {i : Int} (h0 : 0 ≤ i) (h1 : i < 3) : xia h 3 235 i = true := S.ia 3 235 3 (Nat.le_of_ble_eq_true rfl) (by decide +kernel) h0 h1
theorem ia_236 {h : xa_H} (S : SH h) {i : Int} (h0 : 0 ≤ i) (h1 : i < 3) : xia h 3 236 i = true := S.ia 3 236 3 (Nat.le_of_ble_eq_true rfl) (by decide +kernel) h0 h1
theorem ia_237 {h : xa_H} (S : SH h) {i : Int} (h0 : 0 ≤ i) (h1 : i < 4) : xia h 3 237 i = true := S.ia 3 237 4 (Nat.le_of_ble_eq_true rfl) (by decide +kernel) h0 h1
theorem ia_238 {h : xa_H} (S : SH h) {i : Int} (h0 : 0 ≤ i) (h1 : i < 5) : xia h 3 238 i = true := S.ia 3 238 5 (Nat.le_of_ble_eq_true rfl) (by decide +kernel) h0 h1
theorem ia_239 {h : xa_H} (S : SH h) {i : Int} (h0 : 0 ≤ i) (h1 : i < 5) : xia h 3 239 i = true := S.ia 3 239 5 (Nat.le_of_ble_eq_true rfl) (by decide +kernel) h0 h1
theorem ia_240 {h : xa_H} (S : SH h) {i : Int} (h0 : 0 ≤ i) (h1 : i < 4) : xia h 3 240 i = true := S.ia 3 240 4 (Nat.le_of_ble_eq_true rfl) (by decide +kernel) h0 h1
theorem ia_241 {h : xa_H} (S : SH h) {i : Int} (h0 : 0 ≤ i) (h1 : i < 3) : xia h 3 241 i = true := S.ia 3 241 3 (Nat.le_of_ble_eq_true rfl) (by decide +kernel) h0 h1
theorem ia_242 {h : xa_H} (S : SH h) {i : Int} (h0 : 0 ≤ i) (h1 : i < 5) : xia h 3 242 i = true := S.ia 3 242 5 (Nat.le_of_ble_eq_true rfl) (by decide +kernel) h0 h1
theorem ia_243 {h : xa_H} (S : SH h) {i : Int} (h0 : 0 ≤ i) (h1 : i < 5) : xia h 3 243 i = true := S.ia 3 243 5 (Nat.le_of_ble_eq_true rfl) (by decide +kernel) h0 h1
theorem ia_244 {h : xa_H} (S : SH h) {i : Int} (h0 : 0 ≤ i) (h1 : i < 6) : xia h 3 244 i = true := S.ia 3 244 6 (Nat.le_of_ble_eq_true rfl) (by decide +kernel) h0 h1
theorem ia_245 {h : xa_H} (S : SH h) {i : Int} (h0 : 0 ≤ i) (h1 : i < 1700) : xia h 0 245 i = true := S.ia 0 245 1700 (Nat.le_of_ble_eq_true rfl) (by decide +kernel) h0 h1
theorem ia_246 {h : xa_H} (S : SH h) {i : Int} (h0 : 0 ≤ i) (h1 : i < 1700) : xia h 0 246 i = true := S.ia 0 246 1700 (Nat.le_of_ble_eq_true rfl) (by decide +kernel) h0 h1
theorem ia_247 {h : xa_H} (S : SH h) {i : Int} (h0 : 0 ≤ i) (h1 : i < 1700) : xia h 1 247 i = true := S.ia 1 247 1700 (Nat.le_of_ble_eq_true rfl) (by decide +kernel) h0 h1
theorem ia_248 {h : xa_H} (S : SH h) {i : Int} (h0 : 0 ≤ i) (h1 : i < 63) : xia h 0 248 i = true := S.ia 0 248 63 (Nat.le_of_ble_eq_true rfl) (by decide +kernel) h0 h1
theorem ln_17 {h : xa_H} (S : SH h) : xln h 17 = some 6 := S.ln 0 17 6 (Nat.le_of_ble_eq_true rfl) (by decide +kernel) (by decide) (by decide)
theorem ln_172 {h : xa_H} (S : SH h) : xln h 172 = some 6 := S.ln 0 172 6 (Nat.le_of_ble_eq_true rfl) (by decide +kernel) (by decide) (by decide)
theorem ln_176 {h : xa_H} (S : SH h) : xln h 176 = some 4 := S.ln 3 176 4 (Nat.le_of_ble_eq_true rfl) (by decide +kernel) (by decide) (by decide)
theorem ln_177 {h : xa_H} (S : SH h) : xln h 177 = some 4 := S.ln 3 177 4 (Nat.le_of_ble_eq_true rfl) (by decide +kernel) (by decide) (by decide)
theorem ln_178 {h : xa_H} (S : SH h) : xln h 178 = some 6 := S.ln 3 178 6 (Nat.le_of_ble_eq_true rfl) (by decide +kernel) (by decide) (by decide)
theorem ln_179 {h : xa_H} (S : SH h) : xln h 179 = some 3 := S.ln 3 179 3 (Nat.le_of_ble_eq_true rfl) (by decide +kernel) (by decide) (by decide)
theorem ln_180 {h : xa_H} (S : SH h) : xln h 180 = some 5 := S.ln 3 180 5 (Nat.le_of_ble_eq_true rfl) (by decide +kernel) (by decide) (by decide)
theorem ln_181 {h : xa_H} (S : SH h) : xln h 181 = some 5 := S.ln 3 181 5 (Nat.le_of_ble_eq_true rfl) (by decide +kernel) (by decide) (by decide)
theorem ln_182 {h : xa_H} (S : SH h) : xln h 182 = some 6 := S.ln 3 182 6 (Nat.le_of_ble_eq_true rfl) (by decide +kernel) (by decide) (by decide)
theorem ln_183 {h : xa_H} (S : SH h) : xln h 183 = some 4 := S.ln 3 183 4 (Nat.le_of_ble_eq_true rfl) (by decide +kernel) (by decide) (by decide)
theorem ln_184 {h : xa_H} (S : SH h) : xln h 184 = some 6 := S.ln 3 184 6 (Nat.le_of_ble_eq_true rfl) (by decide +kernel) (by decide) (by decide)
theorem ln_185 {h : xa_H} (S : SH h) : xln h 185 = some 5 := S.ln 3 185 5 (Nat.le_of_ble_eq_true rfl) (by decide +kernel) (by decide) (by decide)
theorem ln_186 {h : xa_H} (S : SH h) : xln h 186 = some 4 := S.ln 3 186 4 (Nat.le_of_ble_eq_true rfl) (by decide +kernel) (by decide) (by decide)
theorem ln_187 {h : xa_H} (S : SH h) : xln h 187 = some 3 := S.ln 3 187 3 (Nat.le_of_ble_eq_true rfl) (by decide +kernel) (by decide) (by decide)
theorem ln_188 {h : xa_H} (S : SH h) : xln h 188 = some 4 := S.ln 3 188 4 (Nat.le_of_ble_eq_true rfl) (by decide +kernel) (by decide) (by decide)
theorem ln_189 {h : xa_H} (S : SH h) : xln h 189 = some 5 := S.ln 3 189 5 (Nat.le_of_ble_eq_true rfl) (by decide +kernel) (by decide) (by decide)
theorem ln_190 {h : xa_H} (S : SH h) : xln h 190 = some 3 := S.ln 3 190 3 (Nat.le_of_ble_eq_true rfl) (by decide +kernel) (by decide) (by decide)
theorem ln_191 {h : xa_H} (S : SH h) : xln h 191 = some 5 := S.ln 3 191 5 (Nat.le_of_ble_eq_true rfl) (by decide +kernel) (by decide) (by decide)
theorem ln_192 {h : xa_H} (S : SH h) : xln h 192 = some 6 := S.ln 3 192 6 (Nat.le_of_ble_eq_true rfl) (by decide +kernel) (by decide) (by decide)
theorem ln_193 {h : xa_H} (S : SH h) : xln h 193 = some 2 := S.ln 3 193 2 (Nat.le_of_ble_eq_true rfl) (by decide +kernel) (by decide) (by decide)
theorem ln_194 {h : xa_H} (S : SH h) : xln h 194 = some 3 := S.ln 3 194 3 (Nat.le_of_ble_eq_true rfl) (by decide +kernel) (by decide) (by decide)
theorem ln_195 {h : xa_H} (S : SH h) : xln h 195 = some 3 := S.ln 3 195 3 (Nat.le_of_ble_eq_true rfl) (by decide +kernel) (by decide) (by decide)
theorem ln_196 {h : xa_H} (S : SH h) : xln h 196 = some 3 := S.ln 3 196 3 (Nat.le_of_ble_eq_true rfl) (by decide +kernel) (by decide) (by decide)
theorem ln_197 {h : xa_H} (S : SH h) : xln h 197 = some 3 := S.ln 3 197 3 (Nat.le_of_ble_eq_true rfl) (by decide +kernel) (by decide) (by decide)
theorem ln_198 {h : xa_H} (S : SH h) : xln h 198 = some 3 := S.ln 3 198 3 (Nat.le_of_ble_eq_true rfl) (by decide +kernel) (by decide) (by decide)
theorem ln_225 {h : xa_H} (S : SH h) : xln h 225 = some 5 := S.ln 3 225 5 (Nat.le_of_ble_eq_true rfl) (by decide +kernel) (by decide) (by decide)
theorem ln_226 {h : xa_H} (S : SH h) : xln h 226 = some 4 := S.ln 3 226 4 (Nat.le_of_ble_eq_true rfl) (by decide +kernel) (by decide) (by decide)
theorem ln_227 {h : xa_H} (S : SH h) : xln h 227 = some 5 := S.ln 3 227 5 (Nat.le_of_ble_eq_true rfl) (by decide +kernel) (by decide) (by decide)
theorem ln_228 {h : xa_H} (S : SH h) : xln h 228 = some 5 := S.ln 3 228 5 (Nat.le_of_ble_eq_true rfl) (by decide +kernel) (by decide) (by decide)
theorem ln_229 {h : xa_H} (S : SH h) : xln h 229 = some 4 := S.ln 3 229 4 (Nat.le_of_ble_eq_true rfl) (by decide +kernel) (by decide) (by decide)
theorem ln_230 {h : xa_H} (S : SH h) : xln h 230 = some 5 := S.ln 3 230 5 (Nat.le_of_ble_eq_true rfl) (by decide +kernel) (by decide) (by decide)
theorem ln_231 {h : xa_H} (S : SH h) : xln h 231 = some 3 := S.ln 3 231 3 (Nat.le_of_ble_eq_true rfl) (by decide +kernel) (by decide) (by decide)
theorem ln_232 {h : xa_H} (S : SH h) : xln h 232 = some 3 := S.ln 3 232 3 (Nat.le_of_ble_eq_true rfl) (by decide +kernel) (by decide) (by decide)
theorem ln_233 {h : xa_H} (S : SH h) : xln h 233 = some 2 := S.ln 3 233 2 (Nat.le_of_ble_eq_true rfl) (by decide +kernel) (by decide) (by decide)
theorem ln_234 {h : xa_H} (S : SH h) : xln h 234 = some 3 := S.ln 3 234 3 (Nat.le_of_ble_eq_true rfl) (by decide +kernel) (by decide) (by decide)
theorem ln_235 {h : xa_H} (S : SH h) : xln h 235 = some 3 := S.ln 3 235 3 (Nat.le_of_ble_eq_true rfl) (by decide +kernel) (by decide) (by decide)
theorem ln_236 {h : xa_H} (S : SH h) : xln h 236 = some 3 := S.ln 3 236 3 (Nat.le_of_ble_eq_true rfl) (by decide +kernel) (by decide) (by decide)
theorem ln_237 {h : xa_H} (S : SH h) : xln h 237 = some 4 := S.ln 3 237 4 (Nat.le_of_ble_eq_true rfl) (by decide +kernel) (by decide) (by decide)
theorem ln_238 {h : xa_H} (S : SH h) : xln h 238 = some 5 := S.ln 3 238 5 (Nat.le_of_ble_eq_true rfl) (by decide +kernel) (by decide) (by decide)
theorem ln_239 {h : xa_H} (S : SH h) : xln h 239 = some 5 := S.ln 3 239 5 (Nat.le_of_ble_eq_true rfl) (by decide +kernel) (by decide) (by decide)
theorem ln_240 {h : xa_H} (S : SH h) : xln h 240 = some 4 := S.ln 3 240 4 (Nat.le_of_ble_eq_true rfl) (by decide +kernel) (by decide) (by decide)
theorem ln_241 {h : xa_H} (S : SH h) : xln h 241 = some 3 := S.ln 3 241 3 (Nat.le_of_ble_eq_true rfl) (by decide +kernel) (by decide) (by decide)
theorem ln_242 {h : xa_H} (S : SH h) : xln h 242 = some 5 := S.ln 3 242 5 (Nat.le_of_ble_eq_true rfl) (by decide +kernel) (by decide) (by decide)
theorem ln_243 {h : xa_H} (S : SH h) : xln h 243 = some 5 := S.ln 3 243 5 (Nat.le_of_ble_eq_true rfl) (by decide +kernel) (by decide) (by decide)
theorem ln_244 {h : xa_H} (S : SH h) : xln h 244 = some 6 := S.ln 3 244 6 (Nat.le_of_ble_eq_true rfl) (by decide +kernel) (by decide) (by decide)
theorem pt_0_0 {h : xa_H} (S : SH h) : xm h 0 0 = 1 := S.2.2 (0, 0, 1) (List.mem_of_getElem? (i := 0) (by decide +kernel))
theorem pt_2_0 {h : xa_H} (S : SH h) : xm h 2 0 = 1 := S.2.2 (2, 0, 1) (List.mem_of_getElem? (i := 1) (by decide +kernel))
theorem pt_2_1 {h : xa_H} (S : SH h) : xm h 2 1 = 3 := S.2.2 (2, 1, 3) (List.mem_of_getElem? (i := 2) (by decide +kernel))
theorem pt_0_2 {h : xa_H} (S : SH h) : xm h 0 2 = 2 := S.2.2 (0, 2, 2) (List.mem_of_getElem? (i := 3) (by decide +kernel))
theorem pt_4_0 {h : xa_H} (S : SH h) : xm h 4 0 = 2 := S.2.2 (4, 0, 2) (List.mem_of_getElem? (i := 4) (by decide +kernel))
theorem pt_4_1 {h : xa_H} (S : SH h) : xm h 4 1 = 5 := S.2.2 (4, 1, 5) (List.mem_of_getElem? (i := 5) (by decide +kernel))
theorem pt_0_3 {h : xa_H} (S : SH h) : xm h 0 3 = 4 := S.2.2 (0, 3, 4) (List.mem_of_getElem? (i := 6) (by decide +kernel))
theorem pt_6_0 {h : xa_H} (S : SH h) : xm h 6 0 = 2 := S.2.2 (6, 0, 2) (List.mem_of_getElem? (i := 7) (by decide +kernel))
theorem pt_6_1 {h : xa_H} (S : SH h) : xm h 6 1 = 4 := S.2.2 (6, 1, 4) (List.mem_of_getElem? (i := 8) (by decide +kernel))
theorem pt_0_4 {h : xa_H} (S : SH h) : xm h 0 4 = 6 := S.2.2 (0, 4, 6) (List.mem_of_getElem? (i := 9) (by decide +kernel))
theorem pt_7_5 {h : xa_H} (S : SH h) : xm h 7 5 = 8 := S.2.2 (7, 5, 8) (List.mem_of_getElem? (i := 10) (by decide +kernel))
theorem pt_7_6 {h : xa_H} (S : SH h) : xm h 7 6 = 9 := S.2.2 (7, 6, 9) (List.mem_of_getElem? (i := 11) (by decide +kernel))
theorem pt_7_7 {h : xa_H} (S : SH h) : xm h 7 7 = 10 := S.2.2 (7, 7, 10) (List.mem_of_getElem? (i := 12) (by decide +kernel))
theorem pt_7_8 {h : xa_H} (S : SH h) : xm h 7 8 = 11 := S.2.2 (7, 8, 11) (List.mem_of_getElem? (i := 13) (by decide +kernel))
theorem pt_7_9 {h : xa_H} (S : SH h) : xm h 7 9 = 12 := S.2.2 (7, 9, 12) (List.mem_of_getElem? (i := 14) (by decide +kernel))
theorem pt_7_10 {h : xa_H} (S : SH h) : xm h 7 10 = 13 := S.2.2 (7, 10, 13) (List.mem_of_getElem? (i := 15) (by decide +kernel))
theorem pt_14_1 {h : xa_H} (S : SH h) : xm h 14 1 = 15 := S.2.2 (14, 1, 15) (List.mem_of_getElem? (i := 16) (by decide +kernel))
theorem pt_14_2 {h : xa_H} (S : SH h) : xm h 14 2 = 16 := S.2.2 (14, 2, 16) (List.mem_of_getElem? (i := 17) (by decide +kernel))
theorem pt_14_3 {h : xa_H} (S : SH h) : xm h 14 3 = 17 := S.2.2 (14, 3, 17) (List.mem_of_getElem? (i := 18) (by decide +kernel))
theorem pt_14_4 {h : xa_H} (S : SH h) : xm h 14 4 = 18 := S.2.2 (14, 4, 18) (List.mem_of_getElem? (i := 19) (by decide +kernel))
theorem pt_14_5 {h : xa_H} (S : SH h) : xm h 14 5 = 19 := S.2.2 (14, 5, 19) (List.mem_of_getElem? (i := 20) (by decide +kernel))
theorem pt_7_13 {h : xa_H} (S : SH h) : xm h 7 13 = 14 := S.2.2 (7, 13, 14) (List.mem_of_getElem? (i := 21) (by decide +kernel))
theorem pt_20_1 {h : xa_H} (S : SH h) : xm h 20 1 = 21 := S.2.2 (20, 1, 21) (List.mem_of_getElem? (i := 22) (by decide +kernel))
theorem pt_20_2 {h : xa_H} (S : SH h) : xm h 20 2 = 22 := S.2.2 (20, 2, 22) (List.mem_of_getElem? (i := 23) (by decide +kernel))
theorem pt_20_3 {h : xa_H} (S : SH h) : xm h 20 3 = 23 := S.2.2 (20, 3, 23) (List.mem_of_getElem? (i := 24) (by decide +kernel))
theorem pt_20_4 {h : xa_H} (S : SH h) : xm h 20 4 = 24 := S.2.2 (20, 4, 24) (List.mem_of_getElem? (i := 25) (by decide +kernel))
theorem pt_20_5 {h : xa_H} (S : SH h) : xm h 20 5 = 25 := S.2.2 (20, 5, 25) (List.mem_of_getElem? (i := 26) (by decide +kernel))
theorem pt_0_6 {h : xa_H} (S : SH h) : xm h 0 6 = 20 := S.2.2 (0, 6, 20) (List.mem_of_getElem? (i := 27) (by decide +kernel))
theorem pt_26_0 {h : xa_H} (S : SH h) : xm h 26 0 = 27 := S.2.2 (26, 0, 27) (List.mem_of_getElem? (i := 28) (by decide +kernel))
theorem pt_0_7 {h : xa_H} (S : SH h) : xm h 0 7 = 26 := S.2.2 (0, 7, 26) (List.mem_of_getElem? (i := 29) (by decide +kernel))
theorem pt_148_0 {h : xa_H} (S : SH h) : xm h 148 0 = 149 := S.2.2 (148, 0, 149) (List.mem_of_getElem? (i := 130) (by decide +kernel))
theorem pt_148_4 {h : xa_H} (S : SH h) : xm h 148 4 = 150 := S.2.2 (148, 4, 150) (List.mem_of_getElem? (i := 131) (by decide +kernel))
theorem pt_148_5 {h : xa_H} (S : SH h) : xm h 148 5 = 151 := S.2.2 (148, 5, 151) (List.mem_of_getElem? (i := 132) (by decide +kernel))
theorem pt_148_6 {h : xa_H} (S : SH h) : xm h 148 6 = 152 := S.2.2 (148, 6, 152) (List.mem_of_getElem? (i := 133) (by decide +kernel))
theorem pt_0_8 {h : xa_H} (S : SH h) : xm h 0 8 = 148 := S.2.2 (0, 8, 148) (List.mem_of_getElem? (i := 134) (by decide +kernel))
theorem pt_153_0 {h : xa_H} (S : SH h) : xm h 153 0 = 154 := S.2.2 (153, 0, 154) (List.mem_of_getElem? (i := 135) (by decide +kernel))
theorem pt_153_4 {h : xa_H} (S : SH h) : xm h 153 4 = 155 := S.2.2 (153, 4, 155) (List.mem_of_getElem? (i := 136) (by decide +kernel))
theorem pt_153_5 {h : xa_H} (S : SH h) : xm h 153 5 = 156 := S.2.2 (153, 5, 156) (List.mem_of_getElem? (i := 137) (by decide +kernel))
theorem pt_153_6 {h : xa_H} (S : SH h) : xm h 153 6 = 157 := S.2.2 (153, 6, 157) (List.mem_of_getElem? (i := 138) (by decide +kernel))
theorem pt_0_9 {h : xa_H} (S : SH h) : xm h 0 9 = 153 := S.2.2 (0, 9, 153) (List.mem_of_getElem? (i := 139) (by decide +kernel))
theorem pt_158_4 {h : xa_H} (S : SH h) : xm h 158 4 = 159 := S.2.2 (158, 4, 159) (List.mem_of_getElem? (i := 140) (by decide +kernel))
theorem pt_158_5 {h : xa_H} (S : SH h) : xm h 158 5 = 160 := S.2.2 (158, 5, 160) (List.mem_of_getElem? (i := 141) (by decide +kernel))
theorem pt_158_6 {h : xa_H} (S : SH h) : xm h 158 6 = 161 := S.2.2 (158, 6, 161) (List.mem_of_getElem? (i := 142) (by decide +kernel))
theorem pt_158_7 {h : xa_H} (S : SH h) : xm h 158 7 = 162 := S.2.2 (158, 7, 162) (List.mem_of_getElem? (i := 143) (by decide +kernel))
theorem pt_0_10 {h : xa_H} (S : SH h) : xm h 0 10 = 158 := S.2.2 (0, 10, 158) (List.mem_of_getElem? (i := 144) (by decide +kernel))
theorem pt_163_0 {h : xa_H} (S : SH h) : xm h 163 0 = 164 := S.2.2 (163, 0, 164) (List.mem_of_getElem? (i := 145) (by decide +kernel))
theorem pt_163_1 {h : xa_H} (S : SH h) : xm h 163 1 = 165 := S.2.2 (163, 1, 165) (List.mem_of_getElem? (i := 146) (by decide +kernel))
theorem pt_163_2 {h : xa_H} (S : SH h) : xm h 163 2 = 166 := S.2.2 (163, 2, 166) (List.mem_of_getElem? (i := 147) (by decide +kernel))
theorem pt_163_3 {h : xa_H} (S : SH h) : xm h 163 3 = 167 := S.2.2 (163, 3, 167) (List.mem_of_getElem? (i := 148) (by decide +kernel))
theorem pt_0_11 {h : xa_H} (S : SH h) : xm h 0 11 = 163 := S.2.2 (0, 11, 163) (List.mem_of_getElem? (i := 149) (by decide +kernel))
theorem pt_0_12 {h : xa_H} (S : SH h) : xm h 0 12 = 168 := S.2.2 (0, 12, 168) (List.mem_of_getElem? (i := 150) (by decide +kernel))
theorem pt_0_13 {h : xa_H} (S : SH h) : xm h 0 13 = 169 := S.2.2 (0, 13, 169) (List.mem_of_getElem? (i := 151) (by decide +kernel))
theorem pt_0_14 {h : xa_H} (S : SH h) : xm h 0 14 = 170 := S.2.2 (0, 14, 170) (List.mem_of_getElem? (i := 152) (by decide +kernel))
theorem pt_0_15 {h : xa_H} (S : SH h) : xm h 0 15 = 171 := S.2.2 (0, 15, 171) (List.mem_of_getElem? (i := 153) (by decide +kernel))
theorem pt_0_17 {h : xa_H} (S : SH h) : xm h 0 17 = 172 := S.2.2 (0, 17, 172) (List.mem_of_getElem? (i := 154) (by decide +kernel))
theorem pt_173_0 {h : xa_H} (S : SH h) : xm h 173 0 = 174 := S.2.2 (173, 0, 174) (List.mem_of_getElem? (i := 155) (by decide +kernel))
theorem pt_173_9 {h : xa_H} (S : SH h) : xm h 173 9 = 175 := S.2.2 (173, 9, 175) (List.mem_of_getElem? (i := 156) (by decide +kernel))
theorem pt_173_10 {h : xa_H} (S : SH h) : xm h 173 10 = 176 := S.2.2 (173, 10, 176) (List.mem_of_getElem? (i := 157) (by decide +kernel))
theorem pt_173_11 {h : xa_H} (S : SH h) : xm h 173 11 = 177 := S.2.2 (173, 11, 177) (List.mem_of_getElem? (i := 158) (by decide +kernel))
theorem pt_173_12 {h : xa_H} (S : SH h) : xm h 173 12 = 178 := S.2.2 (173, 12, 178) (List.mem_of_getElem? (i := 159) (by decide +kernel))
theorem pt_173_13 {h : xa_H} (S : SH h) : xm h 173 13 = 179 := S.2.2 (173, 13, 179) (List.mem_of_getElem? (i := 160) (by decide +kernel))
theorem pt_173_14 {h : xa_H} (S : SH h) : xm h 173 14 = 180 := S.2.2 (173, 14, 180) (List.mem_of_getElem? (i := 161) (by decide +kernel))
theorem pt_173_15 {h : xa_H} (S : SH h) : xm h 173 15 = 181 := S.2.2 (173, 15, 181) (List.mem_of_getElem? (i := 162) (by decide +kernel))
theorem pt_173_16 {h : xa_H} (S : SH h) : xm h 173 16 = 182 := S.2.2 (173, 16, 182) (List.mem_of_getElem? (i := 163) (by decide +kernel))
theorem pt_173_17 {h : xa_H} (S : SH h) : xm h 173 17 = 183 := S.2.2 (173, 17, 183) (List.mem_of_getElem? (i := 164) (by decide +kernel))
theorem pt_173_18 {h : xa_H} (S : SH h) : xm h 173 18 = 184 := S.2.2 (173, 18, 184) (List.mem_of_getElem? (i := 165) (by decide +kernel))
theorem pt_173_19 {h : xa_H} (S : SH h) : xm h 173 19 = 185 := S.2.2 (173, 19, 185) (List.mem_of_getElem? (i := 166) (by decide +kernel))
theorem pt_173_20 {h : xa_H} (S : SH h) : xm h 173 20 = 186 := S.2.2 (173, 20, 186) (List.mem_of_getElem? (i := 167) (by decide +kernel))
theorem pt_173_21 {h : xa_H} (S : SH h) : xm h 173 21 = 187 := S.2.2 (173, 21, 187) (List.mem_of_getElem? (i := 168) (by decide +kernel))
theorem pt_173_22 {h : xa_H} (S : SH h) : xm h 173 22 = 188 := S.2.2 (173, 22, 188) (List.mem_of_getElem? (i := 169) (by decide +kernel))
theorem pt_173_23 {h : xa_H} (S : SH h) : xm h 173 23 = 189 := S.2.2 (173, 23, 189) (List.mem_of_getElem? (i := 170) (by decide +kernel))
theorem pt_173_24 {h : xa_H} (S : SH h) : xm h 173 24 = 190 := S.2.2 (173, 24, 190) (List.mem_of_getElem? (i := 171) (by decide +kernel))
theorem pt_173_25 {h : xa_H} (S : SH h) : xm h 173 25 = 191 := S.2.2 (173, 25, 191) (List.mem_of_getElem? (i := 172) (by decide +kernel))
theorem pt_173_26 {h : xa_H} (S : SH h) : xm h 173 26 = 192 := S.2.2 (173, 26, 192) (List.mem_of_getElem? (i := 173) (by decide +kernel))
theorem pt_173_27 {h : xa_H} (S : SH h) : xm h 173 27 = 193 := S.2.2 (173, 27, 193) (List.mem_of_getElem? (i := 174) (by decide +kernel))
theorem pt_173_28 {h : xa_H} (S : SH h) : xm h 173 28 = 194 := S.2.2 (173, 28, 194) (List.mem_of_getElem? (i := 175) (by decide +kernel))
theorem pt_173_29 {h : xa_H} (S : SH h) : xm h 173 29 = 195 := S.2.2 (173, 29, 195) (List.mem_of_getElem? (i := 176) (by decide +kernel))
theorem pt_173_30 {h : xa_H} (S : SH h) : xm h 173 30 = 196 := S.2.2 (173, 30, 196) (List.mem_of_getElem? (i := 177) (by decide +kernel))
theorem pt_173_31 {h : xa_H} (S : SH h) : xm h 173 31 = 197 := S.2.2 (173, 31, 197) (List.mem_of_getElem? (i := 178) (by decide +kernel))
theorem pt_173_32 {h : xa_H} (S : SH h) : xm h 173 32 = 198 := S.2.2 (173, 32, 198) (List.mem_of_getElem? (i := 179) (by decide +kernel))
theorem pt_173_34 {h : xa_H} (S : SH h) : xm h 173 34 = 199 := S.2.2 (173, 34, 199) (List.mem_of_getElem? (i := 180) (by decide +kernel))
theorem pt_173_35 {h : xa_H} (S : SH h) : xm h 173 35 = 200 := S.2.2 (173, 35, 200) (List.mem_of_getElem? (i := 181) (by decide +kernel))
theorem pt_173_36 {h : xa_H} (S : SH h) : xm h 173 36 = 201 := S.2.2 (173, 36, 201) (List.mem_of_getElem? (i := 182) (by decide +kernel))
theorem pt_173_37 {h : xa_H} (S : SH h) : xm h 173 37 = 202 := S.2.2 (173, 37, 202) (List.mem_of_getElem? (i := 183) (by decide +kernel))
theorem pt_173_38 {h : xa_H} (S : SH h) : xm h 173 38 = 203 := S.2.2 (173, 38, 203) (List.mem_of_getElem? (i := 184) (by decide +kernel))
theorem pt_173_39 {h : xa_H} (S : SH h) : xm h 173 39 = 204 := S.2.2 (173, 39, 204) (List.mem_of_getElem? (i := 185) (by decide +kernel))
theorem pt_173_40 {h : xa_H} (S : SH h) : xm h 173 40 = 205 := S.2.2 (173, 40, 205) (List.mem_of_getElem? (i := 186) (by decide +kernel))
theorem pt_173_41 {h : xa_H} (S : SH h) : xm h 173 41 = 206 := S.2.2 (173, 41, 206) (List.mem_of_getElem? (i := 187) (by decide +kernel))
theorem pt_173_42 {h : xa_H} (S : SH h) : xm h 173 42 = 207 := S.2.2 (173, 42, 207) (List.mem_of_getElem? (i := 188) (by decide +kernel))
theorem pt_173_43 {h : xa_H} (S : SH h) : xm h 173 43 = 208 := S.2.2 (173, 43, 208) (List.mem_of_getElem? (i := 189) (by decide +kernel))
theorem pt_173_44 {h : xa_H} (S : SH h) : xm h 173 44 = 209 := S.2.2 (173, 44, 209) (List.mem_of_getElem? (i := 190) (by decide +kernel))
theorem pt_173_45 {h : xa_H} (S : SH h) : xm h 173 45 = 210 := S.2.2 (173, 45, 210) (List.mem_of_getElem? (i := 191) (by decide +kernel))
theorem pt_173_46 {h : xa_H} (S : SH h) : xm h 173 46 = 211 := S.2.2 (173, 46, 211) (List.mem_of_getElem? (i := 192) (by decide +kernel))
theorem pt_173_50 {h : xa_H} (S : SH h) : xm h 173 50 = 212 := S.2.2 (173, 50, 212) (List.mem_of_getElem? (i := 193) (by decide +kernel))
theorem pt_173_55 {h : xa_H} (S : SH h) : xm h 173 55 = 213 := S.2.2 (173, 55, 213) (List.mem_of_getElem? (i := 194) (by decide +kernel))
theorem pt_173_58 {h : xa_H} (S : SH h) : xm h 173 58 = 214 := S.2.2 (173, 58, 214) (List.mem_of_getElem? (i := 195) (by decide +kernel))
theorem pt_173_59 {h : xa_H} (S : SH h) : xm h 173 59 = 215 := S.2.2 (173, 59, 215) (List.mem_of_getElem? (i := 196) (by decide +kernel))
theorem pt_173_63 {h : xa_H} (S : SH h) : xm h 173 63 = 216 := S.2.2 (173, 63, 216) (List.mem_of_getElem? (i := 197) (by decide +kernel))
theorem pt_173_64 {h : xa_H} (S : SH h) : xm h 173 64 = 217 := S.2.2 (173, 64, 217) (List.mem_of_getElem? (i := 198) (by decide +kernel))
theorem pt_173_66 {h : xa_H} (S : SH h) : xm h 173 66 = 218 := S.2.2 (173, 66, 218) (List.mem_of_getElem? (i := 199) (by decide +kernel))
theorem pt_173_67 {h : xa_H} (S : SH h) : xm h 173 67 = 219 := S.2.2 (173, 67, 219) (List.mem_of_getElem? (i := 200) (by decide +kernel))
theorem pt_173_68 {h : xa_H} (S : SH h) : xm h 173 68 = 220 := S.2.2 (173, 68, 220) (List.mem_of_getElem? (i := 201) (by decide +kernel))
theorem pt_173_69 {h : xa_H} (S : SH h) : xm h 173 69 = 221 := S.2.2 (173, 69, 221) (List.mem_of_getElem? (i := 202) (by decide +kernel))
theorem pt_173_71 {h : xa_H} (S : SH h) : xm h 173 71 = 222 := S.2.2 (173, 71, 222) (List.mem_of_getElem? (i := 203) (by decide +kernel))
theorem pt_173_72 {h : xa_H} (S : SH h) : xm h 173 72 = 223 := S.2.2 (173, 72, 223) (List.mem_of_getElem? (i := 204) (by decide +kernel))
theorem pt_173_73 {h : xa_H} (S : SH h) : xm h 173 73 = 224 := S.2.2 (173, 73, 224) (List.mem_of_getElem? (i := 205) (by decide +kernel))
theorem pt_173_77 {h : xa_H} (S : SH h) : xm h 173 77 = 225 := S.2.2 (173, 77, 225) (List.mem_of_getElem? (i := 206) (by decide +kernel))
theorem pt_173_78 {h : xa_H} (S : SH h) : xm h 173 78 = 226 := S.2.2 (173, 78, 226) (List.mem_of_getElem? (i := 207) (by decide +kernel))
theorem pt_173_79 {h : xa_H} (S : SH h) : xm h 173 79 = 227 := S.2.2 (173, 79, 227) (List.mem_of_getElem? (i := 208) (by decide +kernel))
theorem pt_173_80 {h : xa_H} (S : SH h) : xm h 173 80 = 228 := S.2.2 (173, 80, 228) (List.mem_of_getElem? (i := 209) (by decide +kernel))
theorem pt_173_81 {h : xa_H} (S : SH h) : xm h 173 81 = 229 := S.2.2 (173, 81, 229) (List.mem_of_getElem? (i := 210) (by decide +kernel))
theorem pt_173_82 {h : xa_H} (S : SH h) : xm h 173 82 = 230 := S.2.2 (173, 82, 230) (List.mem_of_getElem? (i := 211) (by decide +kernel))
theorem pt_173_83 {h : xa_H} (S : SH h) : xm h 173 83 = 231 := S.2.2 (173, 83, 231) (List.mem_of_getElem? (i := 212) (by decide +kernel))
theorem pt_173_84 {h : xa_H} (S : SH h) : xm h 173 84 = 232 := S.2.2 (173, 84, 232) (List.mem_of_getElem? (i := 213) (by decide +kernel))
theorem pt_173_85 {h : xa_H} (S : SH h) : xm h 173 85 = 233 := S.2.2 (173, 85, 233) (List.mem_of_getElem? (i := 214) (by decide +kernel))
theorem pt_173_86 {h : xa_H} (S : SH h) : xm h 173 86 = 234 := S.2.2 (173, 86, 234) (List.mem_of_getElem? (i := 215) (by decide +kernel))
theorem pt_173_87 {h : xa_H} (S : SH h) : xm h 173 87 = 235 := S.2.2 (173, 87, 235) (List.mem_of_getElem? (i := 216) (by decide +kernel))
theorem pt_173_88 {h : xa_H} (S : SH h) : xm h 173 88 = 236 := S.2.2 (173, 88, 236) (List.mem_of_getElem? (i := 217) (by decide +kernel))
theorem pt_173_89 {h : xa_H} (S : SH h) : xm h 173 89 = 237 := S.2.2 (173, 89, 237) (List.mem_of_getElem? (i := 218) (by decide +kernel))
theorem pt_173_90 {h : xa_H} (S : SH h) : xm h 173 90 = 238 := S.2.2 (173, 90, 238) (List.mem_of_getElem? (i := 219) (by decide +kernel))
theorem pt_173_91 {h : xa_H} (S : SH h) : xm h 173 91 = 239 := S.2.2 (173, 91, 239) (List.mem_of_getElem? (i := 220) (by decide +kernel))
theorem pt_173_92 {h : xa_H} (S : SH h) : xm h 173 92 = 240 := S.2.2 (173, 92, 240) (List.mem_of_getElem? (i := 221) (by decide +kernel))
theorem pt_173_93 {h : xa_H} (S : SH h) : xm h 173 93 = 241 := S.2.2 (173, 93, 241) (List.mem_of_getElem? (i := 222) (by decide +kernel))
theorem pt_173_94 {h : xa_H} (S : SH h) : xm h 173 94 = 242 := S.2.2 (173, 94, 242) (List.mem_of_getElem? (i := 223) (by decide +kernel))
theorem pt_173_95 {h : xa_H} (S : SH h) : xm h 173 95 = 243 := S.2.2 (173, 95, 243) (List.mem_of_getElem? (i := 224) (by decide +kernel))
theorem pt_173_96 {h : xa_H} (S : SH h) : xm h 173 96 = 244 := S.2.2 (173, 96, 244) (List.mem_of_getElem? (i := 225) (by decide +kernel))
theorem pt_173_97 {h : xa_H} (S : SH h) : xm h 173 97 = 245 := S.2.2 (173, 97, 245) (List.mem_of_getElem? (i := 226) (by decide +kernel))
theorem pt_173_99 {h : xa_H} (S : SH h) : xm h 173 99 = 246 := S.2.2 (173, 99, 246) (List.mem_of_getElem? (i := 227) (by decide +kernel))
theorem pt_173_103 {h : xa_H} (S : SH h) : xm h 173 103 = 247 := S.2.2 (173, 103, 247) (List.mem_of_getElem? (i := 228) (by decide +kernel))
theorem pt_173_107 {h : xa_H} (S : SH h) : xm h 173 107 = 248 := S.2.2 (173, 107, 248) (List.mem_of_getElem? (i := 229) (by decide +kernel))
theorem pt_27_0 {h : xa_H} (S : SH h) : xm h 27 0 = 28 := S.2.2 (27, 0, 28) (List.mem_of_getElem? (i := 230) (by decide +kernel))
theorem pt_27_1 {h : xa_H} (S : SH h) : xm h 27 1 = 34 := S.2.2 (27, 1, 34) (List.mem_of_getElem? (i := 231) (by decide +kernel))
theorem pt_27_2 {h : xa_H} (S : SH h) : xm h 27 2 = 40 := S.2.2 (27, 2, 40) (List.mem_of_getElem? (i := 232) (by decide +kernel))
theorem pt_27_3 {h : xa_H} (S : SH h) : xm h 27 3 = 46 := S.2.2 (27, 3, 46) (List.mem_of_getElem? (i := 233) (by decide +kernel))
theorem pt_27_4 {h : xa_H} (S : SH h) : xm h 27 4 = 52 := S.2.2 (27, 4, 52) (List.mem_of_getElem? (i := 234) (by decide +kernel))
theorem pt_27_5 {h : xa_H} (S : SH h) : xm h 27 5 = 58 := S.2.2 (27, 5, 58) (List.mem_of_getElem? (i := 235) (by decide +kernel))
theorem pt_27_6 {h : xa_H} (S : SH h) : xm h 27 6 = 64 := S.2.2 (27, 6, 64) (List.mem_of_getElem? (i := 236) (by decide +kernel))
theorem pt_27_7 {h : xa_H} (S : SH h) : xm h 27 7 = 70 := S.2.2 (27, 7, 70) (List.mem_of_getElem? (i := 237) (by decide +kernel))
theorem pt_27_8 {h : xa_H} (S : SH h) : xm h 27 8 = 76 := S.2.2 (27, 8, 76) (List.mem_of_getElem? (i := 238) (by decide +kernel))
theorem pt_27_9 {h : xa_H} (S : SH h) : xm h 27 9 = 82 := S.2.2 (27, 9, 82) (List.mem_of_getElem? (i := 239) (by decide +kernel))
theorem pt_27_10 {h : xa_H} (S : SH h) : xm h 27 10 = 88 := S.2.2 (27, 10, 88) (List.mem_of_getElem? (i := 240) (by decide +kernel))
theorem pt_27_11 {h : xa_H} (S : SH h) : xm h 27 11 = 94 := S.2.2 (27, 11, 94) (List.mem_of_getElem? (i := 241) (by decide +kernel))
theorem pt_27_12 {h : xa_H} (S : SH h) : xm h 27 12 = 100 := S.2.2 (27, 12, 100) (List.mem_of_getElem? (i := 242) (by decide +kernel))
theorem pt_27_13 {h : xa_H} (S : SH h) : xm h 27 13 = 106 := S.2.2 (27, 13, 106) (List.mem_of_getElem? (i := 243) (by decide +kernel))
theorem pt_27_14 {h : xa_H} (S : SH h) : xm h 27 14 = 112 := S.2.2 (27, 14, 112) (List.mem_of_getElem? (i := 244) (by decide +kernel))
theorem pt_27_15 {h : xa_H} (S : SH h) : xm h 27 15 = 118 := S.2.2 (27, 15, 118) (List.mem_of_getElem? (i := 245) (by decide +kernel))
theorem pt_27_16 {h : xa_H} (S : SH h) : xm h 27 16 = 124 := S.2.2 (27, 16, 124) (List.mem_of_getElem? (i := 246) (by decide +kernel))
theorem pt_27_17 {h : xa_H} (S : SH h) : xm h 27 17 = 130 := S.2.2 (27, 17, 130) (List.mem_of_getElem? (i := 247) (by decide +kernel))
theorem pt_27_18 {h : xa_H} (S : SH h) : xm h 27 18 = 136 := S.2.2 (27, 18, 136) (List.mem_of_getElem? (i := 248) (by decide +kernel))
theorem pt_27_19 {h : xa_H} (S : SH h) : xm h 27 19 = 142 := S.2.2 (27, 19, 142) (List.mem_of_getElem? (i := 249) (by decide +kernel))
theorem pt_176_0 {h : xa_H} (S : SH h) : xm h 176 0 = 104 := S.2.2 (176, 0, 104) (List.mem_of_getElem? (i := 250) (by decide +kernel))
theorem pt_176_1 {h : xa_H} (S : SH h) : xm h 176 1 = 101 := S.2.2 (176, 1, 101) (List.mem_of_getElem? (i := 251) (by decide +kernel))
theorem pt_176_2 {h : xa_H} (S : SH h) : xm h 176 2 = 108 := S.2.2 (176, 2, 108) (List.mem_of_getElem? (i := 252) (by decide +kernel))
theorem pt_176_3 {h : xa_H} (S : SH h) : xm h 176 3 = 100 := S.2.2 (176, 3, 100) (List.mem_of_getElem? (i := 253) (by decide +kernel))
theorem pt_177_0 {h : xa_H} (S : SH h) : xm h 177 0 = 115 := S.2.2 (177, 0, 115) (List.mem_of_getElem? (i := 254) (by decide +kernel))
theorem pt_177_1 {h : xa_H} (S : SH h) : xm h 177 1 = 97 := S.2.2 (177, 1, 97) (List.mem_of_getElem? (i := 255) (by decide +kernel))
theorem pt_177_2 {h : xa_H} (S : SH h) : xm h 177 2 = 108 := S.2.2 (177, 2, 108) (List.mem_of_getElem? (i := 256) (by decide +kernel))
theorem pt_177_3 {h : xa_H} (S : SH h) : xm h 177 3 = 116 := S.2.2 (177, 3, 116) (List.mem_of_getElem? (i := 257) (by decide +kernel))
theorem pt_178_0 {h : xa_H} (S : SH h) : xm h 178 0 = 104 := S.2.2 (178, 0, 104) (List.mem_of_getElem? (i := 258) (by decide +kernel))
theorem pt_178_1 {h : xa_H} (S : SH h) : xm h 178 1 = 111 := S.2.2 (178, 1, 111) (List.mem_of_getElem? (i := 259) (by decide +kernel))
theorem pt_178_2 {h : xa_H} (S : SH h) : xm h 178 2 = 108 := S.2.2 (178, 2, 108) (List.mem_of_getElem? (i := 260) (by decide +kernel))
theorem pt_178_3 {h : xa_H} (S : SH h) : xm h 178 3 = 100 := S.2.2 (178, 3, 100) (List.mem_of_getElem? (i := 261) (by decide +kernel))
theorem pt_178_4 {h : xa_H} (S : SH h) : xm h 178 4 = 101 := S.2.2 (178, 4, 101) (List.mem_of_getElem? (i := 262) (by decide +kernel))
theorem pt_178_5 {h : xa_H} (S : SH h) : xm h 178 5 = 114 := S.2.2 (178, 5, 114) (List.mem_of_getElem? (i := 263) (by decide +kernel))
theorem pt_179_0 {h : xa_H} (S : SH h) : xm h 179 0 = 104 := S.2.2 (179, 0, 104) (List.mem_of_getElem? (i := 264) (by decide +kernel))
theorem pt_179_1 {h : xa_H} (S : SH h) : xm h 179 1 = 97 := S.2.2 (179, 1, 97) (List.mem_of_getElem? (i := 265) (by decide +kernel))
theorem pt_179_2 {h : xa_H} (S : SH h) : xm h 179 2 = 115 := S.2.2 (179, 2, 115) (List.mem_of_getElem? (i := 266) (by decide +kernel))
theorem pt_180_0 {h : xa_H} (S : SH h) : xm h 180 0 = 119 := S.2.2 (180, 0, 119) (List.mem_of_getElem? (i := 267) (by decide +kernel))
theorem pt_180_1 {h : xa_H} (S : SH h) : xm h 180 1 = 97 := S.2.2 (180, 1, 97) (List.mem_of_getElem? (i := 268) (by decide +kernel))
theorem pt_180_2 {h : xa_H} (S : SH h) : xm h 180 2 = 110 := S.2.2 (180, 2, 110) (List.mem_of_getElem? (i := 269) (by decide +kernel))
theorem pt_180_3 {h : xa_H} (S : SH h) : xm h 180 3 = 116 := S.2.2 (180, 3, 116) (List.mem_of_getElem? (i := 270) (by decide +kernel))
theorem pt_180_4 {h : xa_H} (S : SH h) : xm h 180 4 = 115 := S.2.2 (180, 4, 115) (List.mem_of_getElem? (i := 271) (by decide +kernel))
theorem pt_181_0 {h : xa_H} (S : SH h) : xm h 181 0 = 112 := S.2.2 (181, 0, 112) (List.mem_of_getElem? (i := 272) (by decide +kernel))
theorem pt_181_1 {h : xa_H} (S : SH h) : xm h 181 1 = 117 := S.2.2 (181, 1, 117) (List.mem_of_getElem? (i := 273) (by decide +kernel))
theorem pt_181_2 {h : xa_H} (S : SH h) : xm h 181 2 = 114 := S.2.2 (181, 2, 114) (List.mem_of_getElem? (i := 274) (by decide +kernel))
theorem pt_181_3 {h : xa_H} (S : SH h) : xm h 181 3 = 115 := S.2.2 (181, 3, 115) (List.mem_of_getElem? (i := 275) (by decide +kernel))
theorem pt_181_4 {h : xa_H} (S : SH h) : xm h 181 4 = 101 := S.2.2 (181, 4, 101) (List.mem_of_getElem? (i := 276) (by decide +kernel))
theorem pt_182_0 {h : xa_H} (S : SH h) : xm h 182 0 = 118 := S.2.2 (182, 0, 118) (List.mem_of_getElem? (i := 277) (by decide +kernel))
theorem pt_182_1 {h : xa_H} (S : SH h) : xm h 182 1 = 97 := S.2.2 (182, 1, 97) (List.mem_of_getElem? (i := 278) (by decide +kernel))
theorem pt_182_2 {h : xa_H} (S : SH h) : xm h 182 2 = 108 := S.2.2 (182, 2, 108) (List.mem_of_getElem? (i := 279) (by decide +kernel))
theorem pt_182_3 {h : xa_H} (S : SH h) : xm h 182 3 = 117 := S.2.2 (182, 3, 117) (List.mem_of_getElem? (i := 280) (by decide +kernel))
theorem pt_182_4 {h : xa_H} (S : SH h) : xm h 182 4 = 101 := S.2.2 (182, 4, 101) (List.mem_of_getElem? (i := 281) (by decide +kernel))
theorem pt_182_5 {h : xa_H} (S : SH h) : xm h 182 5 = 115 := S.2.2 (182, 5, 115) (List.mem_of_getElem? (i := 282) (by decide +kernel))
theorem pt_183_0 {h : xa_H} (S : SH h) : xm h 183 0 = 102 := S.2.2 (183, 0, 102) (List.mem_of_getElem? (i := 283) (by decide +kernel))
theorem pt_183_1 {h : xa_H} (S : SH h) : xm h 183 1 = 101 := S.2.2 (183, 1, 101) (List.mem_of_getElem? (i := 284) (by decide +kernel))
theorem pt_183_2 {h : xa_H} (S : SH h) : xm h 183 2 = 117 := S.2.2 (183, 2, 117) (List.mem_of_getElem? (i := 285) (by decide +kernel))
theorem pt_183_3 {h : xa_H} (S : SH h) : xm h 183 3 = 100 := S.2.2 (183, 3, 100) (List.mem_of_getElem? (i := 286) (by decide +kernel))
theorem pt_184_0 {h : xa_H} (S : SH h) : xm h 184 0 = 115 := S.2.2 (184, 0, 115) (List.mem_of_getElem? (i := 287) (by decide +kernel))
theorem pt_184_1 {h : xa_H} (S : SH h) : xm h 184 1 = 105 := S.2.2 (184, 1, 105) (List.mem_of_getElem? (i := 288) (by decide +kernel))
theorem pt_184_2 {h : xa_H} (S : SH h) : xm h 184 2 = 115 := S.2.2 (184, 2, 115) (List.mem_of_getElem? (i := 289) (by decide +kernel))
theorem pt_184_3 {h : xa_H} (S : SH h) : xm h 184 3 = 116 := S.2.2 (184, 3, 116) (List.mem_of_getElem? (i := 290) (by decide +kernel))
theorem pt_184_4 {h : xa_H} (S : SH h) : xm h 184 4 = 101 := S.2.2 (184, 4, 101) (List.mem_of_getElem? (i := 291) (by decide +kernel))
theorem pt_184_5 {h : xa_H} (S : SH h) : xm h 184 5 = 114 := S.2.2 (184, 5, 114) (List.mem_of_getElem? (i := 292) (by decide +kernel))
theorem pt_185_0 {h : xa_H} (S : SH h) : xm h 185 0 = 115 := S.2.2 (185, 0, 115) (List.mem_of_getElem? (i := 293) (by decide +kernel))
theorem pt_185_1 {h : xa_H} (S : SH h) : xm h 185 1 = 119 := S.2.2 (185, 1, 119) (List.mem_of_getElem? (i := 294) (by decide +kernel))
theorem pt_185_2 {h : xa_H} (S : SH h) : xm h 185 2 = 97 := S.2.2 (185, 2, 97) (List.mem_of_getElem? (i := 295) (by decide +kernel))
theorem pt_185_3 {h : xa_H} (S : SH h) : xm h 185 3 = 112 := S.2.2 (185, 3, 112) (List.mem_of_getElem? (i := 296) (by decide +kernel))
theorem pt_185_4 {h : xa_H} (S : SH h) : xm h 185 4 = 115 := S.2.2 (185, 4, 115) (List.mem_of_getElem? (i := 297) (by decide +kernel))
theorem pt_186_0 {h : xa_H} (S : SH h) : xm h 186 0 = 112 := S.2.2 (186, 0, 112) (List.mem_of_getElem? (i := 298) (by decide +kernel))
theorem pt_186_1 {h : xa_H} (S : SH h) : xm h 186 1 = 97 := S.2.2 (186, 1, 97) (List.mem_of_getElem? (i := 299) (by decide +kernel))
theorem pt_186_2 {h : xa_H} (S : SH h) : xm h 186 2 = 121 := S.2.2 (186, 2, 121) (List.mem_of_getElem? (i := 300) (by decide +kernel))
theorem pt_186_3 {h : xa_H} (S : SH h) : xm h 186 3 = 115 := S.2.2 (186, 3, 115) (List.mem_of_getElem? (i := 301) (by decide +kernel))
theorem pt_187_0 {h : xa_H} (S : SH h) : xm h 187 0 = 102 := S.2.2 (187, 0, 102) (List.mem_of_getElem? (i := 302) (by decide +kernel))
theorem pt_187_1 {h : xa_H} (S : SH h) : xm h 187 1 = 111 := S.2.2 (187, 1, 111) (List.mem_of_getElem? (i := 303) (by decide +kernel))
theorem pt_187_2 {h : xa_H} (S : SH h) : xm h 187 2 = 103 := S.2.2 (187, 2, 103) (List.mem_of_getElem? (i := 304) (by decide +kernel))
theorem pt_188_0 {h : xa_H} (S : SH h) : xm h 188 0 = 103 := S.2.2 (188, 0, 103) (List.mem_of_getElem? (i := 305) (by decide +kernel))
theorem pt_188_1 {h : xa_H} (S : SH h) : xm h 188 1 = 101 := S.2.2 (188, 1, 101) (List.mem_of_getElem? (i := 306) (by decide +kernel))
theorem pt_188_2 {h : xa_H} (S : SH h) : xm h 188 2 = 116 := S.2.2 (188, 2, 116) (List.mem_of_getElem? (i := 307) (by decide +kernel))
theorem pt_188_3 {h : xa_H} (S : SH h) : xm h 188 3 = 115 := S.2.2 (188, 3, 115) (List.mem_of_getElem? (i := 308) (by decide +kernel))
theorem pt_189_0 {h : xa_H} (S : SH h) : xm h 189 0 = 103 := S.2.2 (189, 0, 103) (List.mem_of_getElem? (i := 309) (by decide +kernel))
theorem pt_189_1 {h : xa_H} (S : SH h) : xm h 189 1 = 105 := S.2.2 (189, 1, 105) (List.mem_of_getElem? (i := 310) (by decide +kernel))
theorem pt_189_2 {h : xa_H} (S : SH h) : xm h 189 2 = 118 := S.2.2 (189, 2, 118) (List.mem_of_getElem? (i := 311) (by decide +kernel))
theorem pt_189_3 {h : xa_H} (S : SH h) : xm h 189 3 = 101 := S.2.2 (189, 3, 101) (List.mem_of_getElem? (i := 312) (by decide +kernel))
theorem pt_189_4 {h : xa_H} (S : SH h) : xm h 189 4 = 115 := S.2.2 (189, 4, 115) (List.mem_of_getElem? (i := 313) (by decide +kernel))
theorem pt_190_0 {h : xa_H} (S : SH h) : xm h 190 0 = 109 := S.2.2 (190, 0, 109) (List.mem_of_getElem? (i := 314) (by decide +kernel))
theorem pt_190_1 {h : xa_H} (S : SH h) : xm h 190 1 = 101 := S.2.2 (190, 1, 101) (List.mem_of_getElem? (i := 315) (by decide +kernel))
theorem pt_190_2 {h : xa_H} (S : SH h) : xm h 190 2 = 116 := S.2.2 (190, 2, 116) (List.mem_of_getElem? (i := 316) (by decide +kernel))
theorem pt_191_0 {h : xa_H} (S : SH h) : xm h 191 0 = 110 := S.2.2 (191, 0, 110) (List.mem_of_getElem? (i := 317) (by decide +kernel))
theorem pt_191_1 {h : xa_H} (S : SH h) : xm h 191 1 = 105 := S.2.2 (191, 1, 105) (List.mem_of_getElem? (i := 318) (by decide +kernel))
theorem pt_191_2 {h : xa_H} (S : SH h) : xm h 191 2 = 103 := S.2.2 (191, 2, 103) (List.mem_of_getElem? (i := 319) (by decide +kernel))
theorem pt_191_3 {h : xa_H} (S : SH h) : xm h 191 3 = 104 := S.2.2 (191, 3, 104) (List.mem_of_getElem? (i := 320) (by decide +kernel))
theorem pt_191_4 {h : xa_H} (S : SH h) : xm h 191 4 = 116 := S.2.2 (191, 4, 116) (List.mem_of_getElem? (i := 321) (by decide +kernel))
theorem pt_192_0 {h : xa_H} (S : SH h) : xm h 192 0 = 110 := S.2.2 (192, 0, 110) (List.mem_of_getElem? (i := 322) (by decide +kernel))
theorem pt_192_1 {h : xa_H} (S : SH h) : xm h 192 1 = 117 := S.2.2 (192, 1, 117) (List.mem_of_getElem? (i := 323) (by decide +kernel))
theorem pt_192_2 {h : xa_H} (S : SH h) : xm h 192 2 = 109 := S.2.2 (192, 2, 109) (List.mem_of_getElem? (i := 324) (by decide +kernel))
theorem pt_192_3 {h : xa_H} (S : SH h) : xm h 192 3 = 98 := S.2.2 (192, 3, 98) (List.mem_of_getElem? (i := 325) (by decide +kernel))
theorem pt_192_4 {h : xa_H} (S : SH h) : xm h 192 4 = 101 := S.2.2 (192, 4, 101) (List.mem_of_getElem? (i := 326) (by decide +kernel))
theorem pt_192_5 {h : xa_H} (S : SH h) : xm h 192 5 = 114 := S.2.2 (192, 5, 114) (List.mem_of_getElem? (i := 327) (by decide +kernel))
theorem pt_193_0 {h : xa_H} (S : SH h) : xm h 193 0 = 111 := S.2.2 (193, 0, 111) (List.mem_of_getElem? (i := 328) (by decide +kernel))
theorem pt_193_1 {h : xa_H} (S : SH h) : xm h 193 1 = 114 := S.2.2 (193, 1, 114) (List.mem_of_getElem? (i := 329) (by decide +kernel))
theorem pt_194_0 {h : xa_H} (S : SH h) : xm h 194 0 = 97 := S.2.2 (194, 0, 97) (List.mem_of_getElem? (i := 330) (by decide +kernel))
theorem pt_194_1 {h : xa_H} (S : SH h) : xm h 194 1 = 110 := S.2.2 (194, 1, 110) (List.mem_of_getElem? (i := 331) (by decide +kernel))
theorem pt_194_2 {h : xa_H} (S : SH h) : xm h 194 2 = 100 := S.2.2 (194, 2, 100) (List.mem_of_getElem? (i := 332) (by decide +kernel))
theorem pt_195_0 {h : xa_H} (S : SH h) : xm h 195 0 = 110 := S.2.2 (195, 0, 110) (List.mem_of_getElem? (i := 333) (by decide +kernel))
theorem pt_195_1 {h : xa_H} (S : SH h) : xm h 195 1 = 111 := S.2.2 (195, 1, 111) (List.mem_of_getElem? (i := 334) (by decide +kernel))
theorem pt_195_2 {h : xa_H} (S : SH h) : xm h 195 2 = 116 := S.2.2 (195, 2, 116) (List.mem_of_getElem? (i := 335) (by decide +kernel))
theorem pt_196_0 {h : xa_H} (S : SH h) : xm h 196 0 = 97 := S.2.2 (196, 0, 97) (List.mem_of_getElem? (i := 336) (by decide +kernel))
theorem pt_196_1 {h : xa_H} (S : SH h) : xm h 196 1 = 108 := S.2.2 (196, 1, 108) (List.mem_of_getElem? (i := 337) (by decide +kernel))
theorem pt_196_2 {h : xa_H} (S : SH h) : xm h 196 2 = 108 := S.2.2 (196, 2, 108) (List.mem_of_getElem? (i := 338) (by decide +kernel))
theorem pt_197_0 {h : xa_H} (S : SH h) : xm h 197 0 = 109 := S.2.2 (197, 0, 109) (List.mem_of_getElem? (i := 339) (by decide +kernel))
theorem pt_197_1 {h : xa_H} (S : SH h) : xm h 197 1 = 105 := S.2.2 (197, 1, 105) (List.mem_of_getElem? (i := 340) (by decide +kernel))
theorem pt_197_2 {h : xa_H} (S : SH h) : xm h 197 2 = 110 := S.2.2 (197, 2, 110) (List.mem_of_getElem? (i := 341) (by decide +kernel))
theorem pt_198_0 {h : xa_H} (S : SH h) : xm h 198 0 = 109 := S.2.2 (198, 0, 109) (List.mem_of_getElem? (i := 342) (by decide +kernel))
theorem pt_198_1 {h : xa_H} (S : SH h) : xm h 198 1 = 97 := S.2.2 (198, 1, 97) (List.mem_of_getElem? (i := 343) (by decide +kernel))
theorem pt_198_2 {h : xa_H} (S : SH h) : xm h 198 2 = 120 := S.2.2 (198, 2, 120) (List.mem_of_getElem? (i := 344) (by decide +kernel))
theorem pt_225_0 {h : xa_H} (S : SH h) : xm h 225 0 = 102 := S.2.2 (225, 0, 102) (List.mem_of_getElem? (i := 345) (by decide +kernel))
theorem pt_225_1 {h : xa_H} (S : SH h) : xm h 225 1 = 105 := S.2.2 (225, 1, 105) (List.mem_of_getElem? (i := 346) (by decide +kernel))
theorem pt_225_2 {h : xa_H} (S : SH h) : xm h 225 2 = 114 := S.2.2 (225, 2, 114) (List.mem_of_getElem? (i := 347) (by decide +kernel))
theorem pt_225_3 {h : xa_H} (S : SH h) : xm h 225 3 = 115 := S.2.2 (225, 3, 115) (List.mem_of_getElem? (i := 348) (by decide +kernel))
theorem pt_225_4 {h : xa_H} (S : SH h) : xm h 225 4 = 116 := S.2.2 (225, 4, 116) (List.mem_of_getElem? (i := 349) (by decide +kernel))
theorem pt_226_0 {h : xa_H} (S : SH h) : xm h 226 0 = 108 := S.2.2 (226, 0, 108) (List.mem_of_getElem? (i := 350) (by decide +kernel))
theorem pt_226_1 {h : xa_H} (S : SH h) : xm h 226 1 = 97 := S.2.2 (226, 1, 97) (List.mem_of_getElem? (i := 351) (by decide +kernel))
theorem pt_226_2 {h : xa_H} (S : SH h) : xm h 226 2 = 115 := S.2.2 (226, 2, 115) (List.mem_of_getElem? (i := 352) (by decide +kernel))
theorem pt_226_3 {h : xa_H} (S : SH h) : xm h 226 3 = 116 := S.2.2 (226, 3, 116) (List.mem_of_getElem? (i := 353) (by decide +kernel))
theorem pt_227_0 {h : xa_H} (S : SH h) : xm h 227 0 = 111 := S.2.2 (227, 0, 111) (List.mem_of_getElem? (i := 354) (by decide +kernel))
theorem pt_227_1 {h : xa_H} (S : SH h) : xm h 227 1 = 102 := S.2.2 (227, 1, 102) (List.mem_of_getElem? (i := 355) (by decide +kernel))
theorem pt_227_2 {h : xa_H} (S : SH h) : xm h 227 2 = 116 := S.2.2 (227, 2, 116) (List.mem_of_getElem? (i := 356) (by decide +kernel))
theorem pt_227_3 {h : xa_H} (S : SH h) : xm h 227 3 = 101 := S.2.2 (227, 3, 101) (List.mem_of_getElem? (i := 357) (by decide +kernel))
theorem pt_227_4 {h : xa_H} (S : SH h) : xm h 227 4 = 110 := S.2.2 (227, 4, 110) (List.mem_of_getElem? (i := 358) (by decide +kernel))
theorem pt_228_0 {h : xa_H} (S : SH h) : xm h 228 0 = 116 := S.2.2 (228, 0, 116) (List.mem_of_getElem? (i := 359) (by decide +kernel))
theorem pt_228_1 {h : xa_H} (S : SH h) : xm h 228 1 = 111 := S.2.2 (228, 1, 111) (List.mem_of_getElem? (i := 360) (by decide +kernel))
theorem pt_228_2 {h : xa_H} (S : SH h) : xm h 228 2 = 116 := S.2.2 (228, 2, 116) (List.mem_of_getElem? (i := 361) (by decide +kernel))
theorem pt_228_3 {h : xa_H} (S : SH h) : xm h 228 3 = 97 := S.2.2 (228, 3, 97) (List.mem_of_getElem? (i := 362) (by decide +kernel))
theorem pt_228_4 {h : xa_H} (S : SH h) : xm h 228 4 = 108 := S.2.2 (228, 4, 108) (List.mem_of_getElem? (i := 363) (by decide +kernel))
theorem pt_229_0 {h : xa_H} (S : SH h) : xm h 229 0 = 109 := S.2.2 (229, 0, 109) (List.mem_of_getElem? (i := 364) (by decide +kernel))
theorem pt_229_1 {h : xa_H} (S : SH h) : xm h 229 1 = 111 := S.2.2 (229, 1, 111) (List.mem_of_getElem? (i := 365) (by decide +kernel))
theorem pt_229_2 {h : xa_H} (S : SH h) : xm h 229 2 = 115 := S.2.2 (229, 2, 115) (List.mem_of_getElem? (i := 366) (by decide +kernel))
theorem pt_229_3 {h : xa_H} (S : SH h) : xm h 229 3 = 116 := S.2.2 (229, 3, 116) (List.mem_of_getElem? (i := 367) (by decide +kernel))
theorem pt_230_0 {h : xa_H} (S : SH h) : xm h 230 0 = 108 := S.2.2 (230, 0, 108) (List.mem_of_getElem? (i := 368) (by decide +kernel))
theorem pt_230_1 {h : xa_H} (S : SH h) : xm h 230 1 = 101 := S.2.2 (230, 1, 101) (List.mem_of_getElem? (i := 369) (by decide +kernel))
theorem pt_230_2 {h : xa_H} (S : SH h) : xm h 230 2 = 97 := S.2.2 (230, 2, 97) (List.mem_of_getElem? (i := 370) (by decide +kernel))
theorem pt_230_3 {h : xa_H} (S : SH h) : xm h 230 3 = 115 := S.2.2 (230, 3, 115) (List.mem_of_getElem? (i := 371) (by decide +kernel))
theorem pt_230_4 {h : xa_H} (S : SH h) : xm h 230 4 = 116 := S.2.2 (230, 4, 116) (List.mem_of_getElem? (i := 372) (by decide +kernel))
theorem pt_231_0 {h : xa_H} (S : SH h) : xm h 231 0 = 110 := S.2.2 (231, 0, 110) (List.mem_of_getElem? (i := 373) (by decide +kernel))
theorem pt_231_1 {h : xa_H} (S : SH h) : xm h 231 1 = 111 := S.2.2 (231, 1, 111) (List.mem_of_getElem? (i := 374) (by decide +kernel))
theorem pt_231_2 {h : xa_H} (S : SH h) : xm h 231 2 = 116 := S.2.2 (231, 2, 116) (List.mem_of_getElem? (i := 375) (by decide +kernel))
theorem pt_232_0 {h : xa_H} (S : SH h) : xm h 232 0 = 97 := S.2.2 (232, 0, 97) (List.mem_of_getElem? (i := 376) (by decide +kernel))
theorem pt_232_1 {h : xa_H} (S : SH h) : xm h 232 1 = 110 := S.2.2 (232, 1, 110) (List.mem_of_getElem? (i := 377) (by decide +kernel))
theorem pt_232_2 {h : xa_H} (S : SH h) : xm h 232 2 = 100 := S.2.2 (232, 2, 100) (List.mem_of_getElem? (i := 378) (by decide +kernel))
theorem pt_233_0 {h : xa_H} (S : SH h) : xm h 233 0 = 111 := S.2.2 (233, 0, 111) (List.mem_of_getElem? (i := 379) (by decide +kernel))
theorem pt_233_1 {h : xa_H} (S : SH h) : xm h 233 1 = 114 := S.2.2 (233, 1, 114) (List.mem_of_getElem? (i := 380) (by decide +kernel))
theorem pt_234_0 {h : xa_H} (S : SH h) : xm h 234 0 = 97 := S.2.2 (234, 0, 97) (List.mem_of_getElem? (i := 381) (by decide +kernel))
theorem pt_234_1 {h : xa_H} (S : SH h) : xm h 234 1 = 108 := S.2.2 (234, 1, 108) (List.mem_of_getElem? (i := 382) (by decide +kernel))
theorem pt_234_2 {h : xa_H} (S : SH h) : xm h 234 2 = 108 := S.2.2 (234, 2, 108) (List.mem_of_getElem? (i := 383) (by decide +kernel))
theorem pt_235_0 {h : xa_H} (S : SH h) : xm h 235 0 = 109 := S.2.2 (235, 0, 109) (List.mem_of_getElem? (i := 384) (by decide +kernel))
theorem pt_235_1 {h : xa_H} (S : SH h) : xm h 235 1 = 105 := S.2.2 (235, 1, 105) (List.mem_of_getElem? (i := 385) (by decide +kernel))
theorem pt_235_2 {h : xa_H} (S : SH h) : xm h 235 2 = 110 := S.2.2 (235, 2, 110) (List.mem_of_getElem? (i := 386) (by decide +kernel))
theorem pt_236_0 {h : xa_H} (S : SH h) : xm h 236 0 = 109 := S.2.2 (236, 0, 109) (List.mem_of_getElem? (i := 387) (by decide +kernel))
theorem pt_236_1 {h : xa_H} (S : SH h) : xm h 236 1 = 97 := S.2.2 (236, 1, 97) (List.mem_of_getElem? (i := 388) (by decide +kernel))
theorem pt_236_2 {h : xa_H} (S : SH h) : xm h 236 2 = 120 := S.2.2 (236, 2, 120) (List.mem_of_getElem? (i := 389) (by decide +kernel))
theorem pt_237_0 {h : xa_H} (S : SH h) : xm h 237 0 = 103 := S.2.2 (237, 0, 103) (List.mem_of_getElem? (i := 390) (by decide +kernel))
theorem pt_237_1 {h : xa_H} (S : SH h) : xm h 237 1 = 101 := S.2.2 (237, 1, 101) (List.mem_of_getElem? (i := 391) (by decide +kernel))
theorem pt_237_2 {h : xa_H} (S : SH h) : xm h 237 2 = 116 := S.2.2 (237, 2, 116) (List.mem_of_getElem? (i := 392) (by decide +kernel))
theorem pt_237_3 {h : xa_H} (S : SH h) : xm h 237 3 = 115 := S.2.2 (237, 3, 115) (List.mem_of_getElem? (i := 393) (by decide +kernel))
theorem pt_238_0 {h : xa_H} (S : SH h) : xm h 238 0 = 103 := S.2.2 (238, 0, 103) (List.mem_of_getElem? (i := 394) (by decide +kernel))
theorem pt_238_1 {h : xa_H} (S : SH h) : xm h 238 1 = 105 := S.2.2 (238, 1, 105) (List.mem_of_getElem? (i := 395) (by decide +kernel))
theorem pt_238_2 {h : xa_H} (S : SH h) : xm h 238 2 = 118 := S.2.2 (238, 2, 118) (List.mem_of_getElem? (i := 396) (by decide +kernel))
theorem pt_238_3 {h : xa_H} (S : SH h) : xm h 238 3 = 101 := S.2.2 (238, 3, 101) (List.mem_of_getElem? (i := 397) (by decide +kernel))
theorem pt_238_4 {h : xa_H} (S : SH h) : xm h 238 4 = 115 := S.2.2 (238, 4, 115) (List.mem_of_getElem? (i := 398) (by decide +kernel))
theorem pt_239_0 {h : xa_H} (S : SH h) : xm h 239 0 = 119 := S.2.2 (239, 0, 119) (List.mem_of_getElem? (i := 399) (by decide +kernel))
theorem pt_239_1 {h : xa_H} (S : SH h) : xm h 239 1 = 97 := S.2.2 (239, 1, 97) (List.mem_of_getElem? (i := 400) (by decide +kernel))
theorem pt_239_2 {h : xa_H} (S : SH h) : xm h 239 2 = 110 := S.2.2 (239, 2, 110) (List.mem_of_getElem? (i := 401) (by decide +kernel))
theorem pt_239_3 {h : xa_H} (S : SH h) : xm h 239 3 = 116 := S.2.2 (239, 3, 116) (List.mem_of_getElem? (i := 402) (by decide +kernel))
theorem pt_239_4 {h : xa_H} (S : SH h) : xm h 239 4 = 115 := S.2.2 (239, 4, 115) (List.mem_of_getElem? (i := 403) (by decide +kernel))
theorem pt_240_0 {h : xa_H} (S : SH h) : xm h 240 0 = 115 := S.2.2 (240, 0, 115) (List.mem_of_getElem? (i := 404) (by decide +kernel))
theorem pt_240_1 {h : xa_H} (S : SH h) : xm h 240 1 = 97 := S.2.2 (240, 1, 97) (List.mem_of_getElem? (i := 405) (by decide +kernel))
theorem pt_240_2 {h : xa_H} (S : SH h) : xm h 240 2 = 108 := S.2.2 (240, 2, 108) (List.mem_of_getElem? (i := 406) (by decide +kernel))
theorem pt_240_3 {h : xa_H} (S : SH h) : xm h 240 3 = 116 := S.2.2 (240, 3, 116) (List.mem_of_getElem? (i := 407) (by decide +kernel))
theorem pt_241_0 {h : xa_H} (S : SH h) : xm h 241 0 = 109 := S.2.2 (241, 0, 109) (List.mem_of_getElem? (i := 408) (by decide +kernel))
theorem pt_241_1 {h : xa_H} (S : SH h) : xm h 241 1 = 101 := S.2.2 (241, 1, 101) (List.mem_of_getElem? (i := 409) (by decide +kernel))
theorem pt_241_2 {h : xa_H} (S : SH h) : xm h 241 2 = 116 := S.2.2 (241, 2, 116) (List.mem_of_getElem? (i := 410) (by decide +kernel))
theorem pt_242_0 {h : xa_H} (S : SH h) : xm h 242 0 = 112 := S.2.2 (242, 0, 112) (List.mem_of_getElem? (i := 411) (by decide +kernel))
theorem pt_242_1 {h : xa_H} (S : SH h) : xm h 242 1 = 117 := S.2.2 (242, 1, 117) (List.mem_of_getElem? (i := 412) (by decide +kernel))
theorem pt_242_2 {h : xa_H} (S : SH h) : xm h 242 2 = 114 := S.2.2 (242, 2, 114) (List.mem_of_getElem? (i := 413) (by decide +kernel))
theorem pt_242_3 {h : xa_H} (S : SH h) : xm h 242 3 = 115 := S.2.2 (242, 3, 115) (List.mem_of_getElem? (i := 414) (by decide +kernel))
theorem pt_242_4 {h : xa_H} (S : SH h) : xm h 242 4 = 101 := S.2.2 (242, 4, 101) (List.mem_of_getElem? (i := 415) (by decide +kernel))
theorem pt_243_0 {h : xa_H} (S : SH h) : xm h 243 0 = 110 := S.2.2 (243, 0, 110) (List.mem_of_getElem? (i := 416) (by decide +kernel))
theorem pt_243_1 {h : xa_H} (S : SH h) : xm h 243 1 = 105 := S.2.2 (243, 1, 105) (List.mem_of_getElem? (i := 417) (by decide +kernel))
theorem pt_243_2 {h : xa_H} (S : SH h) : xm h 243 2 = 103 := S.2.2 (243, 2, 103) (List.mem_of_getElem? (i := 418) (by decide +kernel))
theorem pt_243_3 {h : xa_H} (S : SH h) : xm h 243 3 = 104 := S.2.2 (243, 3, 104) (List.mem_of_getElem? (i := 419) (by decide +kernel))
theorem pt_243_4 {h : xa_H} (S : SH h) : xm h 243 4 = 116 := S.2.2 (243, 4, 116) (List.mem_of_getElem? (i := 420) (by decide +kernel))
theorem pt_244_0 {h : xa_H} (S : SH h) : xm h 244 0 = 110 := S.2.2 (244, 0, 110) (List.mem_of_getElem? (i := 421) (by decide +kernel))
theorem pt_244_1 {h : xa_H} (S : SH h) : xm h 244 1 = 117 := S.2.2 (244, 1, 117) (List.mem_of_getElem? (i := 422) (by decide +kernel))
theorem pt_244_2 {h : xa_H} (S : SH h) : xm h 244 2 = 109 := S.2.2 (244, 2, 109) (List.mem_of_getElem? (i := 423) (by decide +kernel))
theorem pt_244_3 {h : xa_H} (S : SH h) : xm h 244 3 = 98 := S.2.2 (244, 3, 98) (List.mem_of_getElem? (i := 424) (by decide +kernel))
theorem pt_244_4 {h : xa_H} (S : SH h) : xm h 244 4 = 101 := S.2.2 (244, 4, 101) (List.mem_of_getElem? (i := 425) (by decide +kernel))
theorem pt_244_5 {h : xa_H} (S : SH h) : xm h 244 5 = 114 := S.2.2 (244, 5, 114) (List.mem_of_getElem? (i := 426) (by decide +kernel))
theorem pt_3_0 {h : xa_H} (S : SH h) : xm h 3 0 = 274075648 := S.2.2 (3, 0, 274075648) (List.mem_of_getElem? (i := 427) (by decide +kernel))
theorem pt_3_1 {h : xa_H} (S : SH h) : xm h 3 1 = 638996480 := S.2.2 (3, 1, 638996480) (List.mem_of_getElem? (i := 428) (by decide +kernel))
theorem pt_3_2 {h : xa_H} (S : SH h) : xm h 3 2 = 284561586 := S.2.2 (3, 2, 284561586) (List.mem_of_getElem? (i := 429) (by decide +kernel))
theorem pt_3_3 {h : xa_H} (S : SH h) : xm h 3 3 = 270106624 := S.2.2 (3, 3, 270106624) (List.mem_of_getElem? (i := 430) (by decide +kernel))
theorem pt_3_4 {h : xa_H} (S : SH h) : xm h 3 4 = 773280352 := S.2.2 (3, 4, 773280352) (List.mem_of_getElem? (i := 431) (by decide +kernel))
theorem pt_3_5 {h : xa_H} (S : SH h) : xm h 3 5 = 559500448 := S.2.2 (3, 5, 559500448) (List.mem_of_getElem? (i := 432) (by decide +kernel))
theorem pt_3_6 {h : xa_H} (S : SH h) : xm h 3 6 = 739660979 := S.2.2 (3, 6, 739660979) (List.mem_of_getElem? (i := 433) (by decide +kernel))
theorem pt_3_7 {h : xa_H} (S : SH h) : xm h 3 7 = 207261696 := S.2.2 (3, 7, 207261696) (List.mem_of_getElem? (i := 434) (by decide +kernel))
theorem pt_3_8 {h : xa_H} (S : SH h) : xm h 3 8 = 647614642 := S.2.2 (3, 8, 647614642) (List.mem_of_getElem? (i := 435) (by decide +kernel))
theorem pt_3_9 {h : xa_H} (S : SH h) : xm h 3 9 = 661701216 := S.2.2 (3, 9, 661701216) (List.mem_of_getElem? (i := 436) (by decide +kernel))
theorem pt_3_10 {h : xa_H} (S : SH h) : xm h 3 10 = 538758144 := S.2.2 (3, 10, 538758144) (List.mem_of_getElem? (i := 437) (by decide +kernel))
theorem pt_3_11 {h : xa_H} (S : SH h) : xm h 3 11 = 217284608 := S.2.2 (3, 11, 217284608) (List.mem_of_getElem? (i := 438) (by decide +kernel))
theorem pt_3_12 {h : xa_H} (S : SH h) : xm h 3 12 = 240798720 := S.2.2 (3, 12, 240798720) (List.mem_of_getElem? (i := 439) (by decide +kernel))
theorem pt_3_13 {h : xa_H} (S : SH h) : xm h 3 13 = 245044832 := S.2.2 (3, 13, 245044832) (List.mem_of_getElem? (i := 440) (by decide +kernel))
theorem pt_3_14 {h : xa_H} (S : SH h) : xm h 3 14 = 442105856 := S.2.2 (3, 14, 442105856) (List.mem_of_getElem? (i := 441) (by decide +kernel))
theorem pt_3_15 {h : xa_H} (S : SH h) : xm h 3 15 = 479437440 := S.2.2 (3, 15, 479437440) (List.mem_of_getElem? (i := 442) (by decide +kernel))
theorem pt_3_16 {h : xa_H} (S : SH h) : xm h 3 16 = 492210354 := S.2.2 (3, 16, 492210354) (List.mem_of_getElem? (i := 443) (by decide +kernel))
theorem pt_3_17 {h : xa_H} (S : SH h) : xm h 3 17 = 522190848 := S.2.2 (3, 17, 522190848) (List.mem_of_getElem? (i := 444) (by decide +kernel))
theorem pt_3_18 {h : xa_H} (S : SH h) : xm h 3 18 = 48365568 := S.2.2 (3, 18, 48365568) (List.mem_of_getElem? (i := 445) (by decide +kernel))
theorem pt_3_19 {h : xa_H} (S : SH h) : xm h 3 19 = 486146048 := S.2.2 (3, 19, 486146048) (List.mem_of_getElem? (i := 446) (by decide +kernel))
theorem pt_3_20 {h : xa_H} (S : SH h) : xm h 3 20 = 46530560 := S.2.2 (3, 20, 46530560) (List.mem_of_getElem? (i := 447) (by decide +kernel))
theorem pt_3_21 {h : xa_H} (S : SH h) : xm h 3 21 = 446103552 := S.2.2 (3, 21, 446103552) (List.mem_of_getElem? (i := 448) (by decide +kernel))
theorem pt_3_22 {h : xa_H} (S : SH h) : xm h 3 22 = 438042624 := S.2.2 (3, 22, 438042624) (List.mem_of_getElem? (i := 449) (by decide +kernel))
theorem pt_3_23 {h : xa_H} (S : SH h) : xm h 3 23 = 211373696 := S.2.2 (3, 23, 211373696) (List.mem_of_getElem? (i := 450) (by decide +kernel))
theorem pt_3_24 {h : xa_H} (S : SH h) : xm h 3 24 = 404344832 := S.2.2 (3, 24, 404344832) (List.mem_of_getElem? (i := 451) (by decide +kernel))
theorem pt_3_25 {h : xa_H} (S : SH h) : xm h 3 25 = 510268864 := S.2.2 (3, 25, 510268864) (List.mem_of_getElem? (i := 452) (by decide +kernel))
theorem pt_3_26 {h : xa_H} (S : SH h) : xm h 3 26 = 687474048 := S.2.2 (3, 26, 687474048) (List.mem_of_getElem? (i := 453) (by decide +kernel))
theorem pt_3_27 {h : xa_H} (S : SH h) : xm h 3 27 = 452579328 := S.2.2 (3, 27, 452579328) (List.mem_of_getElem? (i := 454) (by decide +kernel))
theorem pt_3_28 {h : xa_H} (S : SH h) : xm h 3 28 = 407948928 := S.2.2 (3, 28, 407948928) (List.mem_of_getElem? (i := 455) (by decide +kernel))
