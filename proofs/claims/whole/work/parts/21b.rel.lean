/-! ===== how the two objects' cells go together ===== -/
def sx8 (v : Int) : Int := if v < 128 then v else v - 256
/-- the tape -/
def Rt (h : xa_H) : Prop := (∀ k, k < 1600 → 0 ≤ xm h 174 k ∧ xm h 174 k < 256 ∧ xm h 1 k = sx8 (xm h 174 k)) ∧ xm h 0 1 = xm h 173 1 ∧ 0 ≤ xm h 173 1 ∧ xm h 173 1 ≤ 1600
/-- what was refused -/
def Rr (h : xa_H) : Prop := ∀ k, k < 6 → xm h 172 k = xm h 175 k
/-- the fault -/
def Rf (h : xa_H) : Prop := xm h 2 9 = xm h 173 7 ∧ xm h 2 10 = xm h 173 8
/-- the cells of a case -/
def CS (h : xa_H) (s : Nat) : Prop := (s = 7 ∨ 249 ≤ s) ∧ s + 13 ≤ xn h ∧ (∀ j, j < 13 → xk h (s + j) = kd0 (7 + j)) ∧ (∀ j, j < 6 → xm h s (5 + j) = ((s + (1 + j) : Nat) : Int)) ∧ xm h s 13 = ((s + 7 : Nat) : Int) ∧ ∀ j, j < 5 → xm h (s + 7) (1 + j) = ((s + (8 + j) : Nat) : Int)
/-- a name, by fives of bits and by 27: the letters of both -/
def nm5 (f : Nat → Int) : Nat → Int
  | 0 => 0
  | n + 1 => nm5 f n + f n * 2 ^ (25 - 5 * n)
def nm27 (f : Nat → Int) : Nat → Int
  | 0 => 0
  | n + 1 => 27 * nm27 f n + f n
def nmr (a b : Int) : Prop := ∃ (f : Nat → Int) (n : Nat), 1 ≤ n ∧ n ≤ 6 ∧ (∀ k, k < n → 1 ≤ f k ∧ f k ≤ 26) ∧ a = nm5 f n ∧ b = nm27 f n
/-- the case that stands -/
def Rc (h : xa_H) (s : Nat) : Prop := xm h 0 5 = (s : Int) ∧ CS h s ∧ (0 ≤ xm h 199 3 ∧ xm h 199 3 ≤ 6) ∧ (0 ≤ xm h 199 4 ∧ xm h 199 4 ≤ 6) ∧ (0 ≤ xm h 208 1 ∧ xm h 208 1 ≤ 100) ∧
  xm h s 1 = xm h 199 3 ∧ xm h s 2 = xm h 199 4 ∧ xm h s 3 = xm h 199 5 ∧ xm h s 4 = xm h 208 1 ∧
  (∀ i : Nat, (i : Int) < xm h 199 3 → xm h (s + 3) i = xm h 201 (6 + i) ∧ 0 ≤ xm h 201 (6 + i) ∧ xm h 201 (6 + i) ≤ 99) ∧
  (∀ i : Nat, (i : Int) < xm h 199 3 → xm h (s + 4) i = xm h 202 (6 + i) ∧ -1 ≤ xm h 202 (6 + i) ∧ xm h 202 (6 + i) < xm h 199 3 ∧ xm h 202 (6 + i) ≠ (i : Int)) ∧
  (∀ i : Nat, i < 36 → xm h (s + 5) i = xm h 206 (36 + i) ∧ 0 ≤ xm h 206 (36 + i) ∧ xm h 206 (36 + i) ≤ 99) ∧
  (∀ i : Nat, i < 6 → xm h (s + 6) i = xm h 207 (6 + i) ∧ 0 ≤ xm h 207 (6 + i) ∧ xm h 207 (6 + i) < 64) ∧
  (∀ i j : Nat, i < 6 → j < 6 → (xand (xshr (xm h 207 (6 + i)) (j : Int)) 1 = 1 ↔ xand (xshr (xm h 207 (6 + j)) (i : Int)) 1 = 1)) ∧
  (∀ i : Nat, (i : Int) < xm h 199 3 → nmr (xm h (s + 1) i) (xm h 200 (12 + i))) ∧
  (∀ i : Nat, (i : Int) < xm h 199 4 → nmr (xm h (s + 2) i) (xm h 200 (18 + i)))
/-- a state of the class at sa, of the reference in the array ra from ro on; the class's cells of h, the reference's of g -/
def RSt2 (h g : xa_H) (sa ra ro : Nat) : Prop := xm h sa 0 = xm g ra ro ∧ (∀ i, i < 6 → xm h (sa + 1) i = xm g ra (ro + (1 + 9 * i))) ∧ (∀ i, i < 6 → xm h (sa + 2) i = xm g ra (ro + (1 + 9 * i + 1))) ∧ (∀ i, i < 6 → xm h (sa + 3) i = xm g ra (ro + (1 + 9 * i + 2))) ∧
  (∀ i j, i < 6 → j < 6 → xm h (sa + 4) (i * 6 + j) = xm g ra (ro + (1 + 9 * i + 3 + j))) ∧ xm h sa 6 = xm g ra (ro + 55) ∧
  ∀ k : Nat, (k : Int) < xm g ra (ro + 55) → xm h (sa + 5) k = xm g ra (ro + (56 + 4 * k)) * 1000 + xm g ra (ro + (56 + 4 * k + 1)) * 100 + xm g ra (ro + (56 + 4 * k + 2)) * 10 + xm g ra (ro + (56 + 4 * k + 3))
def RSt (h : xa_H) (sa ra ro : Nat) : Prop := RSt2 h h sa ra ro
def VS (h : xa_H) (ra ro : Nat) (n m : Int) : Prop := (0 ≤ xm h ra ro ∧ xm h ra ro ≤ 9999) ∧ (∀ i : Nat, (i : Int) < n → 0 ≤ xm h ra (ro + (1 + 9 * i)) ∧ xm h ra (ro + (1 + 9 * i)) < m) ∧ (∀ i : Nat, (i : Int) < n → 0 ≤ xm h ra (ro + (1 + 9 * i + 1)) ∧ xm h ra (ro + (1 + 9 * i + 1)) < m) ∧
  (∀ i : Nat, (i : Int) < n → 0 ≤ xm h ra (ro + (1 + 9 * i + 2)) ∧ xm h ra (ro + (1 + 9 * i + 2)) ≤ 9999) ∧ (∀ i j : Nat, (i : Int) < n → (j : Int) < n → 0 ≤ xm h ra (ro + (1 + 9 * i + 3 + j)) ∧ xm h ra (ro + (1 + 9 * i + 3 + j)) ≤ 99) ∧
  (∀ i j : Nat, (i : Int) < n → (j : Int) < n → xm h ra (ro + (1 + 9 * i)) = xm h ra (ro + (1 + 9 * j)) → i = j) ∧ (0 ≤ xm h ra (ro + 55) ∧ xm h ra (ro + 55) ≤ 30) ∧
  ∀ k : Nat, (k : Int) < xm h ra (ro + 55) → (0 ≤ xm h ra (ro + (56 + 4 * k)) ∧ xm h ra (ro + (56 + 4 * k)) ≤ 9999) ∧ (0 ≤ xm h ra (ro + (56 + 4 * k + 1)) ∧ xm h ra (ro + (56 + 4 * k + 1)) ≤ 4) ∧ (0 ≤ xm h ra (ro + (56 + 4 * k + 2)) ∧ xm h ra (ro + (56 + 4 * k + 2)) ≤ 6) ∧ (0 ≤ xm h ra (ro + (56 + 4 * k + 3)) ∧ xm h ra (ro + (56 + 4 * k + 3)) ≤ 5)
def Rn (h : xa_H) : Prop := RSt h 20 212 0 ∧ VS h 212 0 (xm h 199 4) (xm h 199 3)
/-- what can be undone -/
def Rh (h : xa_H) : Prop := (0 ≤ xm h 26 1 ∧ xm h 26 1 < 20) ∧ (0 ≤ xm h 26 2 ∧ xm h 26 2 ≤ 20) ∧ xm h 26 1 = xm h 173 75 ∧ xm h 26 2 = xm h 173 74 ∧
  ∀ q : Nat, q < 20 → (xm h 26 1 + 19 - (q : Int)) % 20 < xm h 26 2 → RSt h (28 + 6 * q) 224 (176 * ((q + 1) % 20)) ∧ VS h 224 (176 * ((q + 1) % 20)) (xm h 199 4) (xm h 199 3)
/-- the latest judged ring -/
def Rj (h : xa_H) : Prop := (xm h 173 60 = 0 ∧ xm h 148 1 = 0) ∨ (xm h 173 60 = 1 ∧ 2 ≤ xm h 148 1 ∧ xm h 148 1 ≤ 6 ∧ xm h 148 3 = xm h 173 61 ∧ xsum (fun k => xm h 150 k) (xm h 148 1).toNat = xm h 173 62)
/-- the image -/
def Ri (h : xa_H) : Prop := xm h 0 16 = xm h 173 108 ∧ (0 ≤ xm h 0 16 ∧ xm h 0 16 ≤ 63) ∧ ∀ k : Nat, (k : Int) < xm h 0 16 → xm h 171 k = xm h 248 k
def Rs (h : xa_H) : Prop := xm h 0 18 = xm h 173 76 ∧ 0 ≤ xm h 173 76 ∧ xm h 173 76 < 2147483648
theorem CS.ok {h : xa_H} {s : Nat} (C : CS h s) : xok h 0 (s : Int) = true := by
  have h1 := C.2.1
  have h2 := C.2.2.1 0 (by omega)
  simp only [Nat.add_zero] at h2
  simp only [xok, Int.toNat_natCast, h2, show (kd0 7) = (10, 14) from by decide +kernel]
  simp
  omega
theorem CS.okS {h : xa_H} {s : Nat} (C : CS h s) : xok h 9 ((s + 7 : Nat) : Int) = true := by
  have h1 := C.2.1
  have h2 := C.2.2.1 7 (by omega)
  simp only [xok, Int.toNat_natCast, h2, show (kd0 (7 + 7)) = (19, 7) from by decide +kernel]
  simp
  omega
theorem CS.ia {h : xa_H} {s : Nat} (C : CS h s) (j n : Nat) (hj : j < 13) (hk : kd0 (7 + j) = (0, n)) {i : Int} (h0 : 0 ≤ i) (h1 : i < (n : Int)) : xia h 0 ((s + j : Nat) : Int) i = true := by
  have g1 := C.2.1
  have h2 := C.2.2.1 j hj
  simp only [xia, Int.toNat_natCast, h2, hk]
  simp
  omega
theorem cs_ia1 {h : xa_H} {s : Nat} (C : CS h s) {i : Int} (h0 : 0 ≤ i) (h1 : i < 6) : xia h 0 ((s + 1 : Nat) : Int) i = true := C.ia 1 6 (by decide) (by decide +kernel) h0 h1
theorem cs_ia2 {h : xa_H} {s : Nat} (C : CS h s) {i : Int} (h0 : 0 ≤ i) (h1 : i < 6) : xia h 0 ((s + 2 : Nat) : Int) i = true := C.ia 2 6 (by decide) (by decide +kernel) h0 h1
theorem cs_ia3 {h : xa_H} {s : Nat} (C : CS h s) {i : Int} (h0 : 0 ≤ i) (h1 : i < 6) : xia h 0 ((s + 3 : Nat) : Int) i = true := C.ia 3 6 (by decide) (by decide +kernel) h0 h1
theorem cs_ia4 {h : xa_H} {s : Nat} (C : CS h s) {i : Int} (h0 : 0 ≤ i) (h1 : i < 6) : xia h 0 ((s + 4 : Nat) : Int) i = true := C.ia 4 6 (by decide) (by decide +kernel) h0 h1
theorem cs_ia5 {h : xa_H} {s : Nat} (C : CS h s) {i : Int} (h0 : 0 ≤ i) (h1 : i < 36) : xia h 0 ((s + 5 : Nat) : Int) i = true := C.ia 5 36 (by decide) (by decide +kernel) h0 h1
theorem cs_ia6 {h : xa_H} {s : Nat} (C : CS h s) {i : Int} (h0 : 0 ≤ i) (h1 : i < 6) : xia h 0 ((s + 6 : Nat) : Int) i = true := C.ia 6 6 (by decide) (by decide +kernel) h0 h1
theorem cs_p5 {h : xa_H} {s : Nat} (C : CS h s) : xm h s 5 = ((s + 1 : Nat) : Int) := C.2.2.2.1 0 (by decide)
theorem cs_p6 {h : xa_H} {s : Nat} (C : CS h s) : xm h s 6 = ((s + 2 : Nat) : Int) := C.2.2.2.1 1 (by decide)
theorem cs_p7 {h : xa_H} {s : Nat} (C : CS h s) : xm h s 7 = ((s + 3 : Nat) : Int) := C.2.2.2.1 2 (by decide)
theorem cs_p8 {h : xa_H} {s : Nat} (C : CS h s) : xm h s 8 = ((s + 4 : Nat) : Int) := C.2.2.2.1 3 (by decide)
theorem cs_p9 {h : xa_H} {s : Nat} (C : CS h s) : xm h s 9 = ((s + 5 : Nat) : Int) := C.2.2.2.1 4 (by decide)
theorem cs_p10 {h : xa_H} {s : Nat} (C : CS h s) : xm h s 10 = ((s + 6 : Nat) : Int) := C.2.2.2.1 5 (by decide)
theorem cs_p13 {h : xa_H} {s : Nat} (C : CS h s) : xm h s 13 = ((s + 7 : Nat) : Int) := C.2.2.2.2.1
theorem rc_s {h : xa_H} {s : Nat} (R : Rc h s) : xm h 0 5 = (s : Int) := R.1
theorem rc_1 {h : xa_H} {s : Nat} (R : Rc h s) : xm h s 1 = xm h 199 3 := R.2.2.2.2.2.1
theorem rc_2 {h : xa_H} {s : Nat} (R : Rc h s) : xm h s 2 = xm h 199 4 := R.2.2.2.2.2.2.1
theorem rc_3 {h : xa_H} {s : Nat} (R : Rc h s) : xm h s 3 = xm h 199 5 := R.2.2.2.2.2.2.2.1
theorem rc_4 {h : xa_H} {s : Nat} (R : Rc h s) : xm h s 4 = xm h 208 1 := R.2.2.2.2.2.2.2.2.1
theorem rc_m {h : xa_H} {s : Nat} (R : Rc h s) : 0 ≤ xm h 199 3 ∧ xm h 199 3 ≤ 6 := R.2.2.1
theorem rc_n {h : xa_H} {s : Nat} (R : Rc h s) : 0 ≤ xm h 199 4 ∧ xm h 199 4 ≤ 6 := R.2.2.2.1
theorem rc_fog {h : xa_H} {s : Nat} (R : Rc h s) : 0 ≤ xm h 208 1 ∧ xm h 208 1 ≤ 100 := R.2.2.2.2.1
theorem rc_salt {h : xa_H} {s : Nat} (R : Rc h s) {i : Nat} (hi : (i : Int) < xm h 199 3) : xm h (s + 3) i = xm h 201 (6 + i) := (R.2.2.2.2.2.2.2.2.2.1 i hi).1
theorem rc_sister {h : xa_H} {s : Nat} (R : Rc h s) {i : Nat} (hi : (i : Int) < xm h 199 3) : xm h (s + 4) i = xm h 202 (6 + i) := (R.2.2.2.2.2.2.2.2.2.2.1 i hi).1
theorem rc_value {h : xa_H} {s : Nat} (R : Rc h s) {i : Nat} (hi : i < 36) : xm h (s + 5) i = xm h 206 (36 + i) := (R.2.2.2.2.2.2.2.2.2.2.2.1 i hi).1
theorem rc_feud {h : xa_H} {s : Nat} (R : Rc h s) {i : Nat} (hi : i < 6) : xm h (s + 6) i = xm h 207 (6 + i) := (R.2.2.2.2.2.2.2.2.2.2.2.2.1 i hi).1
theorem rn_night {h : xa_H} (R : Rn h) : xm h 20 0 = xm h 212 0 := R.1.1
theorem rn_has {h : xa_H} (R : Rn h) {i : Nat} (hi : i < 6) : xm h 21 i = xm h 212 (1 + 9 * i) := by simpa only [Nat.zero_add] using R.1.2.1 i hi
theorem rn_wants {h : xa_H} (R : Rn h) {i : Nat} (hi : i < 6) : xm h 22 i = xm h 212 (1 + 9 * i + 1) := by simpa only [Nat.zero_add] using R.1.2.2.1 i hi
theorem rn_purse {h : xa_H} (R : Rn h) {i : Nat} (hi : i < 6) : xm h 23 i = xm h 212 (1 + 9 * i + 2) := by simpa only [Nat.zero_add] using R.1.2.2.2.1 i hi
theorem rn_met {h : xa_H} (R : Rn h) {i j : Nat} (hi : i < 6) (hj : j < 6) : xm h 24 (i * 6 + j) = xm h 212 (1 + 9 * i + 3 + j) := by simpa only [Nat.zero_add] using R.1.2.2.2.2.1 i j hi hj
theorem rn_kc {h : xa_H} (R : Rn h) : xm h 20 6 = xm h 212 55 := R.1.2.2.2.2.2.1
theorem rn_kept {h : xa_H} (R : Rn h) {k : Nat} (hk : (k : Int) < xm h 212 55) : xm h 25 k = xm h 212 (56 + 4 * k) * 1000 + xm h 212 (56 + 4 * k + 1) * 100 + xm h 212 (56 + 4 * k + 2) * 10 + xm h 212 (56 + 4 * k + 3) := by simpa only [Nat.zero_add] using R.1.2.2.2.2.2.2 k hk
theorem rv_night {h : xa_H} (R : Rn h) : 0 ≤ xm h 212 0 ∧ xm h 212 0 ≤ 9999 := R.2.1
theorem rv_has {h : xa_H} (R : Rn h) {i : Nat} (hi : (i : Int) < xm h 199 4) : 0 ≤ xm h 212 (1 + 9 * i) ∧ xm h 212 (1 + 9 * i) < xm h 199 3 := by simpa only [Nat.zero_add] using R.2.2.1 i hi
theorem rv_wants {h : xa_H} (R : Rn h) {i : Nat} (hi : (i : Int) < xm h 199 4) : 0 ≤ xm h 212 (1 + 9 * i + 1) ∧ xm h 212 (1 + 9 * i + 1) < xm h 199 3 := by simpa only [Nat.zero_add] using R.2.2.2.1 i hi
theorem rv_purse {h : xa_H} (R : Rn h) {i : Nat} (hi : (i : Int) < xm h 199 4) : 0 ≤ xm h 212 (1 + 9 * i + 2) ∧ xm h 212 (1 + 9 * i + 2) ≤ 9999 := by simpa only [Nat.zero_add] using R.2.2.2.2.1 i hi
theorem rv_met {h : xa_H} (R : Rn h) {i j : Nat} (hi : (i : Int) < xm h 199 4) (hj : (j : Int) < xm h 199 4) : 0 ≤ xm h 212 (1 + 9 * i + 3 + j) ∧ xm h 212 (1 + 9 * i + 3 + j) ≤ 99 := by simpa only [Nat.zero_add] using R.2.2.2.2.2.1 i j hi hj
theorem rv_inj {h : xa_H} (R : Rn h) {i j : Nat} (hi : (i : Int) < xm h 199 4) (hj : (j : Int) < xm h 199 4) (e : xm h 212 (1 + 9 * i) = xm h 212 (1 + 9 * j)) : i = j := R.2.2.2.2.2.2.1 i j hi hj (by simpa only [Nat.zero_add] using e)
theorem rv_kc {h : xa_H} (R : Rn h) : 0 ≤ xm h 212 55 ∧ xm h 212 55 ≤ 30 := by simpa only [Nat.zero_add] using R.2.2.2.2.2.2.2.1
theorem rv_kept {h : xa_H} (R : Rn h) {k : Nat} (hk : (k : Int) < xm h 212 55) : (0 ≤ xm h 212 (56 + 4 * k) ∧ xm h 212 (56 + 4 * k) ≤ 9999) ∧ (0 ≤ xm h 212 (56 + 4 * k + 1) ∧ xm h 212 (56 + 4 * k + 1) ≤ 4) ∧ (0 ≤ xm h 212 (56 + 4 * k + 2) ∧ xm h 212 (56 + 4 * k + 2) ≤ 6) ∧ (0 ≤ xm h 212 (56 + 4 * k + 3) ∧ xm h 212 (56 + 4 * k + 3) ≤ 5) := by simpa only [Nat.zero_add] using R.2.2.2.2.2.2.2.2 k (by simpa only [Nat.zero_add] using hk)
