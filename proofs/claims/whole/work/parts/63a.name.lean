/-! ===== names, the reference ===== -/
/-- the number of an own word -/
abbrev own (w : Int) : Prop := 0 ≤ w ∧ w < 23
theorem hereW {T : Nat → Int} {L : Nat} {h : xa_H} {p : Nat} {b : Bool} (R : Rx T L h p b) (w : Nat) (hm : (176 + w, w) ∈ wtab) (hw : w < 29) {A z : Int} (hA : A = ((176 + w : Nat) : Int)) (hz : z = (w : Int)) : f_X12_isHere 173 A (xset h 173 2 (p : Int)) = some (if tk_w T L p b = z then 1 else 0, xset h 173 2 (p : Int)) := by
  subst hA hz
  exact hereH R hm hw
theorem ow_J223 {T : Nat → Int} {L : Nat} {h : xa_H} {p : Nat} {b : Bool} (R : Rx T L h p b) : f_X12_isOwnHere_J223 173 0 (xset h 173 2 (p : Int)) = some (if 18 ≤ tk_w T L p b ∧ tk_w T L p b < 23 then 1 else 0, xset h 173 2 (p : Int)) := by
  have S : SH (xset h 173 2 (p : Int)) := (rx_at R).1
  have i18 : f_X12_isHere 173 194 (xset h 173 2 (p : Int)) = some (if tk_w T L p b = 18 then 1 else 0, xset h 173 2 (p : Int)) := hereW R 18 (by decide +kernel) (by decide) rfl rfl
  have i19 : f_X12_isHere 173 195 (xset h 173 2 (p : Int)) = some (if tk_w T L p b = 19 then 1 else 0, xset h 173 2 (p : Int)) := hereW R 19 (by decide +kernel) (by decide) rfl rfl
  have i20 : f_X12_isHere 173 196 (xset h 173 2 (p : Int)) = some (if tk_w T L p b = 20 then 1 else 0, xset h 173 2 (p : Int)) := hereW R 20 (by decide +kernel) (by decide) rfl rfl
  have i21 : f_X12_isHere 173 197 (xset h 173 2 (p : Int)) = some (if tk_w T L p b = 21 then 1 else 0, xset h 173 2 (p : Int)) := hereW R 21 (by decide +kernel) (by decide) rfl rfl
  have i22 : f_X12_isHere 173 198 (xset h 173 2 (p : Int)) = some (if tk_w T L p b = 22 then 1 else 0, xset h 173 2 (p : Int)) := hereW R 22 (by decide +kernel) (by decide) rfl rfl
  obtain ⟨H, hH⟩ : ∃ H, H = xset h 173 2 (p : Int) := ⟨_, rfl⟩
  rw [← hH] at S i18 i19 i20 i21 i22 ⊢
  generalize tk_w T L p b = W at *
  unfold f_X12_isOwnHere_J223
  rw [if_pos rfl]
  rw [gM S, pt_173_28 S, xM S, i18, bbind, iff01]
  by_cases z18 : W = 18
  · rw [if_pos z18]
    show some ((1 : Int), H) = _
    rw [if_pos (by omega)]
  rw [if_neg z18]
  rw [gM S, pt_173_29 S, xM S, i19, bbind, iff01]
  by_cases z19 : W = 19
  · rw [if_pos z19]
    show some ((1 : Int), H) = _
    rw [if_pos (by omega)]
  rw [if_neg z19]
  rw [gM S, pt_173_30 S, xM S, i20, bbind, iff01]
  by_cases z20 : W = 20
  · rw [if_pos z20]
    show some ((1 : Int), H) = _
    rw [if_pos (by omega)]
  rw [if_neg z20]
  rw [gM S, pt_173_31 S, xM S, i21, bbind, iff01]
  by_cases z21 : W = 21
  · rw [if_pos z21]
    show some ((1 : Int), H) = _
    rw [if_pos (by omega)]
  rw [if_neg z21]
  rw [gM S, pt_173_32 S, xM S, i22, bbind, iff01]
  by_cases z22 : W = 22
  · rw [if_pos z22]
    show some ((1 : Int), H) = _
    rw [if_pos (by omega)]
  rw [if_neg z22]
  show some ((0 : Int), H) = _
  rw [if_neg (by omega)]
theorem ow_J147 {T : Nat → Int} {L : Nat} {h : xa_H} {p : Nat} {b : Bool} (R : Rx T L h p b) : f_X12_isOwnHere_J147 173 0 (xset h 173 2 (p : Int)) = some (if 12 ≤ tk_w T L p b ∧ tk_w T L p b < 23 then 1 else 0, xset h 173 2 (p : Int)) := by
  have S : SH (xset h 173 2 (p : Int)) := (rx_at R).1
  have i12 : f_X12_isHere 173 188 (xset h 173 2 (p : Int)) = some (if tk_w T L p b = 12 then 1 else 0, xset h 173 2 (p : Int)) := hereW R 12 (by decide +kernel) (by decide) rfl rfl
  have i13 : f_X12_isHere 173 189 (xset h 173 2 (p : Int)) = some (if tk_w T L p b = 13 then 1 else 0, xset h 173 2 (p : Int)) := hereW R 13 (by decide +kernel) (by decide) rfl rfl
  have i14 : f_X12_isHere 173 190 (xset h 173 2 (p : Int)) = some (if tk_w T L p b = 14 then 1 else 0, xset h 173 2 (p : Int)) := hereW R 14 (by decide +kernel) (by decide) rfl rfl
  have i15 : f_X12_isHere 173 191 (xset h 173 2 (p : Int)) = some (if tk_w T L p b = 15 then 1 else 0, xset h 173 2 (p : Int)) := hereW R 15 (by decide +kernel) (by decide) rfl rfl
  have i16 : f_X12_isHere 173 192 (xset h 173 2 (p : Int)) = some (if tk_w T L p b = 16 then 1 else 0, xset h 173 2 (p : Int)) := hereW R 16 (by decide +kernel) (by decide) rfl rfl
  have i17 : f_X12_isHere 173 193 (xset h 173 2 (p : Int)) = some (if tk_w T L p b = 17 then 1 else 0, xset h 173 2 (p : Int)) := hereW R 17 (by decide +kernel) (by decide) rfl rfl
  have nx := ow_J223 R
  obtain ⟨H, hH⟩ : ∃ H, H = xset h 173 2 (p : Int) := ⟨_, rfl⟩
  rw [← hH] at S i12 i13 i14 i15 i16 i17 nx ⊢
  have hit : f_X12_isOwnHere_J218 173 H = some (1, H) := by
    unfold f_X12_isOwnHere_J218
    unfold f_X12_isOwnHere_J223
    rw [if_neg one_ne]
  generalize tk_w T L p b = W at *
  unfold f_X12_isOwnHere_J147
  rw [if_pos rfl]
  rw [gM S, pt_173_22 S, xM S, i12, bbind, iff01]
  by_cases z12 : W = 12
  · rw [if_pos z12]
    refine hit.trans ?_
    rw [if_pos (by omega)]
  rw [if_neg z12]
  rw [gM S, pt_173_23 S, xM S, i13, bbind, iff01]
  by_cases z13 : W = 13
  · rw [if_pos z13]
    refine hit.trans ?_
    rw [if_pos (by omega)]
  rw [if_neg z13]
  rw [gM S, pt_173_24 S, xM S, i14, bbind, iff01]
  by_cases z14 : W = 14
  · rw [if_pos z14]
    refine hit.trans ?_
    rw [if_pos (by omega)]
  rw [if_neg z14]
  rw [gM S, pt_173_25 S, xM S, i15, bbind, iff01]
  by_cases z15 : W = 15
  · rw [if_pos z15]
    refine hit.trans ?_
    rw [if_pos (by omega)]
  rw [if_neg z15]
  rw [gM S, pt_173_26 S, xM S, i16, bbind, iff01]
  by_cases z16 : W = 16
  · rw [if_pos z16]
    refine hit.trans ?_
    rw [if_pos (by omega)]
  rw [if_neg z16]
  rw [gM S, pt_173_27 S, xM S, i17, bbind, iff01]
  by_cases z17 : W = 17
  · rw [if_pos z17]
    refine hit.trans ?_
    rw [if_pos (by omega)]
  rw [if_neg z17]
  refine nx.trans ?_
  rw [iteI (show (18 ≤ W ∧ W < 23) ↔ (12 ≤ W ∧ W < 23) by omega)]
theorem ow_J71 {T : Nat → Int} {L : Nat} {h : xa_H} {p : Nat} {b : Bool} (R : Rx T L h p b) : f_X12_isOwnHere_J71 173 0 (xset h 173 2 (p : Int)) = some (if 6 ≤ tk_w T L p b ∧ tk_w T L p b < 23 then 1 else 0, xset h 173 2 (p : Int)) := by
  have S : SH (xset h 173 2 (p : Int)) := (rx_at R).1
  have i6 : f_X12_isHere 173 182 (xset h 173 2 (p : Int)) = some (if tk_w T L p b = 6 then 1 else 0, xset h 173 2 (p : Int)) := hereW R 6 (by decide +kernel) (by decide) rfl rfl
  have i7 : f_X12_isHere 173 183 (xset h 173 2 (p : Int)) = some (if tk_w T L p b = 7 then 1 else 0, xset h 173 2 (p : Int)) := hereW R 7 (by decide +kernel) (by decide) rfl rfl
  have i8 : f_X12_isHere 173 184 (xset h 173 2 (p : Int)) = some (if tk_w T L p b = 8 then 1 else 0, xset h 173 2 (p : Int)) := hereW R 8 (by decide +kernel) (by decide) rfl rfl
  have i9 : f_X12_isHere 173 185 (xset h 173 2 (p : Int)) = some (if tk_w T L p b = 9 then 1 else 0, xset h 173 2 (p : Int)) := hereW R 9 (by decide +kernel) (by decide) rfl rfl
  have i10 : f_X12_isHere 173 186 (xset h 173 2 (p : Int)) = some (if tk_w T L p b = 10 then 1 else 0, xset h 173 2 (p : Int)) := hereW R 10 (by decide +kernel) (by decide) rfl rfl
  have i11 : f_X12_isHere 173 187 (xset h 173 2 (p : Int)) = some (if tk_w T L p b = 11 then 1 else 0, xset h 173 2 (p : Int)) := hereW R 11 (by decide +kernel) (by decide) rfl rfl
  have nx := ow_J147 R
  obtain ⟨H, hH⟩ : ∃ H, H = xset h 173 2 (p : Int) := ⟨_, rfl⟩
  rw [← hH] at S i6 i7 i8 i9 i10 i11 nx ⊢
  have hit : f_X12_isOwnHere_J142 173 H = some (1, H) := by
    unfold f_X12_isOwnHere_J142
    unfold f_X12_isOwnHere_J147
    rw [if_neg one_ne]
    unfold f_X12_isOwnHere_J218
    unfold f_X12_isOwnHere_J223
    rw [if_neg one_ne]
  generalize tk_w T L p b = W at *
  unfold f_X12_isOwnHere_J71
  rw [if_pos rfl]
  rw [gM S, pt_173_16 S, xM S, i6, bbind, iff01]
  by_cases z6 : W = 6
  · rw [if_pos z6]
    refine hit.trans ?_
    rw [if_pos (by omega)]
  rw [if_neg z6]
  rw [gM S, pt_173_17 S, xM S, i7, bbind, iff01]
  by_cases z7 : W = 7
  · rw [if_pos z7]
    refine hit.trans ?_
    rw [if_pos (by omega)]
  rw [if_neg z7]
  rw [gM S, pt_173_18 S, xM S, i8, bbind, iff01]
  by_cases z8 : W = 8
  · rw [if_pos z8]
    refine hit.trans ?_
    rw [if_pos (by omega)]
  rw [if_neg z8]
  rw [gM S, pt_173_19 S, xM S, i9, bbind, iff01]
  by_cases z9 : W = 9
  · rw [if_pos z9]
    refine hit.trans ?_
    rw [if_pos (by omega)]
  rw [if_neg z9]
  rw [gM S, pt_173_20 S, xM S, i10, bbind, iff01]
  by_cases z10 : W = 10
  · rw [if_pos z10]
    refine hit.trans ?_
    rw [if_pos (by omega)]
  rw [if_neg z10]
  rw [gM S, pt_173_21 S, xM S, i11, bbind, iff01]
  by_cases z11 : W = 11
  · rw [if_pos z11]
    refine hit.trans ?_
    rw [if_pos (by omega)]
  rw [if_neg z11]
  refine nx.trans ?_
  rw [iteI (show (12 ≤ W ∧ W < 23) ↔ (6 ≤ W ∧ W < 23) by omega)]
theorem ow_all {T : Nat → Int} {L : Nat} {h : xa_H} {p : Nat} {b : Bool} (R : Rx T L h p b) : f_X12_isOwnHere 173 (xset h 173 2 (p : Int)) = some (if 0 ≤ tk_w T L p b ∧ tk_w T L p b < 23 then 1 else 0, xset h 173 2 (p : Int)) := by
  have S : SH (xset h 173 2 (p : Int)) := (rx_at R).1
  have i0 : f_X12_isHere 173 176 (xset h 173 2 (p : Int)) = some (if tk_w T L p b = 0 then 1 else 0, xset h 173 2 (p : Int)) := hereW R 0 (by decide +kernel) (by decide) rfl rfl
  have i1 : f_X12_isHere 173 177 (xset h 173 2 (p : Int)) = some (if tk_w T L p b = 1 then 1 else 0, xset h 173 2 (p : Int)) := hereW R 1 (by decide +kernel) (by decide) rfl rfl
  have i2 : f_X12_isHere 173 178 (xset h 173 2 (p : Int)) = some (if tk_w T L p b = 2 then 1 else 0, xset h 173 2 (p : Int)) := hereW R 2 (by decide +kernel) (by decide) rfl rfl
  have i3 : f_X12_isHere 173 179 (xset h 173 2 (p : Int)) = some (if tk_w T L p b = 3 then 1 else 0, xset h 173 2 (p : Int)) := hereW R 3 (by decide +kernel) (by decide) rfl rfl
  have i4 : f_X12_isHere 173 180 (xset h 173 2 (p : Int)) = some (if tk_w T L p b = 4 then 1 else 0, xset h 173 2 (p : Int)) := hereW R 4 (by decide +kernel) (by decide) rfl rfl
  have i5 : f_X12_isHere 173 181 (xset h 173 2 (p : Int)) = some (if tk_w T L p b = 5 then 1 else 0, xset h 173 2 (p : Int)) := hereW R 5 (by decide +kernel) (by decide) rfl rfl
  have nx := ow_J71 R
  obtain ⟨H, hH⟩ : ∃ H, H = xset h 173 2 (p : Int) := ⟨_, rfl⟩
  rw [← hH] at S i0 i1 i2 i3 i4 i5 nx ⊢
  have hit : f_X12_isOwnHere_J66 173 H = some (1, H) := by
    unfold f_X12_isOwnHere_J66
    unfold f_X12_isOwnHere_J71
    rw [if_neg one_ne]
    unfold f_X12_isOwnHere_J142
    unfold f_X12_isOwnHere_J147
    rw [if_neg one_ne]
    unfold f_X12_isOwnHere_J218
    unfold f_X12_isOwnHere_J223
    rw [if_neg one_ne]
  generalize tk_w T L p b = W at *
  unfold f_X12_isOwnHere
  rw [gM S, pt_173_10 S, xM S, i0, bbind, iff01]
  by_cases z0 : W = 0
  · rw [if_pos z0]
    refine hit.trans ?_
    rw [if_pos (by omega)]
  rw [if_neg z0]
  rw [gM S, pt_173_11 S, xM S, i1, bbind, iff01]
  by_cases z1 : W = 1
  · rw [if_pos z1]
    refine hit.trans ?_
    rw [if_pos (by omega)]
  rw [if_neg z1]
  rw [gM S, pt_173_12 S, xM S, i2, bbind, iff01]
  by_cases z2 : W = 2
  · rw [if_pos z2]
    refine hit.trans ?_
    rw [if_pos (by omega)]
  rw [if_neg z2]
  rw [gM S, pt_173_13 S, xM S, i3, bbind, iff01]
  by_cases z3 : W = 3
  · rw [if_pos z3]
    refine hit.trans ?_
    rw [if_pos (by omega)]
  rw [if_neg z3]
  rw [gM S, pt_173_14 S, xM S, i4, bbind, iff01]
  by_cases z4 : W = 4
  · rw [if_pos z4]
    refine hit.trans ?_
    rw [if_pos (by omega)]
  rw [if_neg z4]
  rw [gM S, pt_173_15 S, xM S, i5, bbind, iff01]
  by_cases z5 : W = 5
  · rw [if_pos z5]
    refine hit.trans ?_
    rw [if_pos (by omega)]
  rw [if_neg z5]
  refine nx.trans ?_
  rw [iteI (show (6 ≤ W ∧ W < 23) ↔ (0 ≤ W ∧ W < 23) by omega)]
def nmF (T : Nat → Int) (L p : Nat) (b : Bool) : Option (Nat × Nat) := if tk_k T L p b = 1 ∧ ¬ own (tk_w T L p b) then (if 6 < tk_we T L p - p then some (1, p + 6) else none) else some (1, p)
def nmV (T : Nat → Int) (L p : Nat) : Int := nm27 (lw T p) (tk_we T L p - p)
def DN (a k : Nat) : Bool := DB a k || (a == 173 && k == 33)
theorem DN_nf : nofix DN := by unfold nofix; decide +kernel
theorem DB_DN {h h' : xa_H} (e : Fx DB h h') : Fx DN h h' := e.mono fun x k q => by
  unfold DN at q
  simp only [Bool.or_eq_false_iff] at q
  exact q.1
theorem s_namL {T : Nat → Int} {L : Nat} {h : xa_H} {p : Nat} (S : SH h) (hT : xm h 174 = T) (hL : xm h 173 3 = (L : Int)) (hL2 : L ≤ 1600) (hb : xm h 173 5 = 0) (h33 : xm h 173 33 = (p : Int)) (hd : tk_l T L p = true) :
    (tk_we T L p - p ≤ 6 ∧ xit (fun s => f_X12_name_L58 173 s.1 s.2) xFU ((0, xset h 173 2 (p : Int))) = some (.inr (nmV T L p, xset h 173 2 (tk_we T L p : Int)))) ∨
    (6 < tk_we T L p - p ∧ xit (fun s => f_X12_name_L58 173 s.1 s.2) xFU ((0, xset h 173 2 (p : Int))) = some (.inl (0, xset (xset (xset h 173 2 ((p + 6 : Nat) : Int)) 173 5 1) 173 6 ((p + 6 : Nat) : Int)))) := by
  have hp := tk_li.mp hd
  have hde : tk_we T L p ≤ L := rn_le tk_l0 _ _ (by omega)
  have hg := tk_we_gt hd
  have hall : ∀ j, p ≤ j → j < tk_we T L p → tk_l T L j = true := fun j h1 h2 => rn_all (tk_l T L) L p j h1 h2
  have hst : ¬ tk_l T L (tk_we T L p) = true := by rw [tk_we_stop]; decide
  have nvb := nm27_b (f := lw T p) (n := tk_we T L p - p) lw_b
  have step : ∀ i, i < 6 → i < tk_we T L p - p → (fun s : Int × xa_H => f_X12_name_L58 173 s.1 s.2) (nm27 (lw T p) i, xset h 173 2 ((p + i : Nat) : Int)) = some (.inl (nm27 (lw T p) (i + 1), xset h 173 2 ((p + (i + 1) : Nat) : Int))) := by
    intro i h4 hi
    have z := tk_li.mp (hall (p + i) (by omega) (by omega))
    have t : xm h 174 (p + i) = T (p + i) := by rw [hT]
    have i1 : xia h 0 174 ((p + i : Nat) : Int) = true := ia_174 S (by omega) (by omega)
    have b1 := (nvb i (by omega)).1
    have b2 : 27 ^ i ≤ 27 ^ 5 := Nat.pow_le_pow_right (by omega) (by omega)
    have b3 : 27 ^ 5 = 14348907 := by decide
    have e1 : 27 * nm27 (lw T p) i + T (p + i) - 97 + 1 = nm27 (lw T p) (i + 1) := by
      show _ = 27 * nm27 (lw T p) i + lw T p i
      unfold lw
      omega
    have e2 : ((p + i : Nat) : Int) + 1 = ((p + (i + 1) : Nat) : Int) := by omega
    show f_X12_name_L58 173 (nm27 (lw T p) i) (xset h 173 2 ((p + i : Nat) : Int)) = _
    unfold f_X12_name_L58
    simp (disch := omega) only [↓reduceIte, ↓bbind, ↓bxgf, ↓bxpf, ↓bxal, ↓bxas, ↓bxrc, ↓exrc, xbo, xok_xset, xia_xset, xln_xset, xm_xset, xok_xarr, xia_xarr, xln_xarr, xm_xarr, Option.bind_some, Int.reduceToNat, Nat.reduceEqDiff, Nat.reduceSub, Int.reduceLT, Int.reduceLE, Int.reduceEq, Int.reduceNeg, if_true, if_false, ite_true, ite_false, true_and, and_true, false_and, and_false, eq_self, reduceIte, Bool.false_eq_true, Nat.reduceBEq, reduceCtorEq, or_true, true_or, or_false, false_or, xel, Int.toNat_natCast, Int.toNat_add, Int.toNat_mul, ok_173 S, pt_173_0 S, hL, h33, i1, t, s_isLetter]
    rw [if_pos (by omega), if_pos (show 97 ≤ T (p + i) ∧ T (p + i) ≤ 122 by omega), if_neg (show ¬ (1 : Int) = 0 by decide), w32_id (z := ((p + i : Nat) : Int) - (p : Int)) (by omega) (by omega), if_neg (by omega), w64_id (z := 27 * nm27 (lw T p) i) (by omega) (by omega), w64_id (z := 27 * nm27 (lw T p) i + T (p + i)) (by omega) (by omega), w64_id (z := 27 * nm27 (lw T p) i + T (p + i) - 97) (by omega) (by omega), w64_id (z := 27 * nm27 (lw T p) i + T (p + i) - 97 + 1) (by omega) (by omega), xset_xset, w32_id (by omega) (by omega), e1, e2]
  have run : ∀ (N : Nat), N ≤ 6 → N ≤ tk_we T L p - p → ∀ e, (fun s : Int × xa_H => f_X12_name_L58 173 s.1 s.2) (nm27 (lw T p) N, xset h 173 2 ((p + N : Nat) : Int)) = some (.inr e) → xit (fun s => f_X12_name_L58 173 s.1 s.2) xFU ((0, xset h 173 2 (p : Int))) = some e := by
    intro N h4 hN e he
    exact xit_seq (f := fun s : Int × xa_H => f_X12_name_L58 173 s.1 s.2) (fun i => (nm27 (lw T p) i, xset h 173 2 ((p + i : Nat) : Int))) N e (fun i hi => step i (by omega) (by omega)) he (by omega)
  by_cases q : 6 < tk_we T L p - p
  · refine Or.inr ⟨q, run 6 (by omega) (by omega) _ ?_⟩
    have z := tk_li.mp (hall (p + 6) (by omega) (by omega))
    have t : xm h 174 (p + 6) = T (p + 6) := by rw [hT]
    have i1 : xia h 0 174 ((p + 6 : Nat) : Int) = true := ia_174 S (by omega) (by omega)
    have S' : SH (xset h 173 2 ((p + 6 : Nat) : Int)) := S.set (by decide +kernel)
    show f_X12_name_L58 173 (nm27 (lw T p) 6) (xset h 173 2 ((p + 6 : Nat) : Int)) = _
    unfold f_X12_name_L58
    simp (disch := omega) only [↓reduceIte, ↓bbind, ↓bxgf, ↓bxpf, ↓bxal, ↓bxas, ↓bxrc, ↓exrc, xbo, xok_xset, xia_xset, xln_xset, xm_xset, xok_xarr, xia_xarr, xln_xarr, xm_xarr, Option.bind_some, Int.reduceToNat, Nat.reduceEqDiff, Nat.reduceSub, Int.reduceLT, Int.reduceLE, Int.reduceEq, Int.reduceNeg, if_true, if_false, ite_true, ite_false, true_and, and_true, false_and, and_false, eq_self, reduceIte, Bool.false_eq_true, Nat.reduceBEq, reduceCtorEq, or_true, true_or, or_false, false_or, xel, Int.toNat_natCast, Int.toNat_add, Int.toNat_mul, ok_173 S, pt_173_0 S, hL, h33, i1, t, s_isLetter]
    rw [if_pos (by omega), if_pos (show 97 ≤ T (p + 6) ∧ T (p + 6) ≤ 122 by omega), if_neg (show ¬ (1 : Int) = 0 by decide), w32_id (z := ((p + 6 : Nat) : Int) - (p : Int)) (by omega) (by omega), if_pos (by omega), s_fail S' (show xm (xset h 173 2 ((p + 6 : Nat) : Int)) 173 5 = 0 from hb)]
    rfl
  · refine Or.inl ⟨by omega, ?_⟩
    refine run (tk_we T L p - p) (by omega) (by omega) _ ?_
    have e : p + (tk_we T L p - p) = tk_we T L p := by omega
    rw [e]
    show f_X12_name_L58 173 (nm27 (lw T p) (tk_we T L p - p)) _ = _
    unfold f_X12_name_L58
    simp (disch := omega) only [↓reduceIte, ↓bbind, ↓bxgf, ↓bxpf, ↓bxal, ↓bxas, ↓bxrc, ↓exrc, xbo, xok_xset, xia_xset, xln_xset, xm_xset, xok_xarr, xia_xarr, xln_xarr, xm_xarr, Option.bind_some, Int.reduceToNat, Nat.reduceEqDiff, Nat.reduceSub, Int.reduceLT, Int.reduceLE, Int.reduceEq, Int.reduceNeg, if_true, if_false, ite_true, ite_false, true_and, and_true, false_and, and_false, eq_self, reduceIte, Bool.false_eq_true, Nat.reduceBEq, reduceCtorEq, or_true, true_or, or_false, false_or, xel, Int.toNat_natCast, Int.toNat_add, Int.toNat_mul, ok_173 S, pt_173_0 S, hL]
    by_cases q2 : tk_we T L p < L
    · have t : xm h 174 (tk_we T L p) = T (tk_we T L p) := by rw [hT]
      have i1 : xia h 0 174 ((tk_we T L p : Nat) : Int) = true := ia_174 S (by omega) (by omega)
      rw [if_pos (by omega)]
      simp only [i1, if_true, t, s_isLetter, Option.bind_some]
      rw [tk_li] at hst
      rw [if_neg (show ¬(97 ≤ T (tk_we T L p) ∧ T (tk_we T L p) ≤ 122) by omega), if_pos rfl]
      rfl
    · rw [if_neg (by omega)]
      rfl
theorem s_name {T : Nat → Int} {L : Nat} {h : xa_H} {p : Nat} {b : Bool} (R : Rx T L h p b) :
    ∃ v h', f_X12_name 173 h = some (v, h') ∧ Fx DN h h' ∧ ((nmF T L p b = none ∧ tk_k T L p b = 1 ∧ tk_we T L p - p ≤ 6 ∧ v = nmV T L p ∧ xm h' 173 33 = (p : Int) ∧ Rx T L h' (tk_n T L p b).1 (tk_n T L p b).2) ∨ (∃ e, nmF T L p b = some e ∧ Bx h' e)) := by
  have R' := rx_at R
  have S := R.1
  have hb := R.2.2.2.1
  have at2 : xm (xset h 173 2 (p : Int)) 173 2 = (p : Int) := by rw [xm_xset, if_pos ⟨rfl, rfl⟩]
  have e4 : xm (xset h 173 2 (p : Int)) 173 4 = xm h 173 4 := by rw [xm_xset, if_neg (by omega)]
  have fl : f_X12_name_J37 173 (xset h 173 2 (p : Int)) = some (0, xset (xset (xset h 173 2 (p : Int)) 173 5 1) 173 6 (p : Int)) := by
    unfold f_X12_name_J37
    rw [gM R'.1, xM R'.1, xm_xset, if_pos ⟨rfl, rfl⟩, s_fail R'.1 (show xm (xset h 173 2 (p : Int)) 173 5 = 0 from hb)]
    rfl
  have bad : f_X12_name 173 h = some (0, xset (xset (xset h 173 2 (p : Int)) 173 5 1) 173 6 (p : Int)) → nmF T L p b = some (1, p) → ∃ v h', f_X12_name 173 h = some (v, h') ∧ Fx DN h h' ∧ ((nmF T L p b = none ∧ tk_k T L p b = 1 ∧ tk_we T L p - p ≤ 6 ∧ v = nmV T L p ∧ xm h' 173 33 = (p : Int) ∧ Rx T L h' (tk_n T L p b).1 (tk_n T L p b).2) ∨ (∃ e, nmF T L p b = some e ∧ Bx h' e)) := fun e1 e2 =>
    ⟨0, _, e1, DB_DN ((rx_fx.set rfl).set rfl), Or.inr ⟨(1, p), e2, bx_fail R'.1 1 p (by decide)⟩⟩
  by_cases ql : tk_l T L p = true
  · by_cases qb : b = true
    · refine bad ?_ ?_
      · have q3 : (p : Int) = xm h 173 4 := (R.2.2.2.2.2.2.2.1.mp qb).symm
        unfold f_X12_name
        rw [gM S, hb, if_pos rfl, xM S, s_look R, bbind, s_isLetter, bbind, iff01, if_pos (lkv_l.mpr ql), gM R'.1, gM R'.1, at2, e4, if_pos q3]
        exact fl
      · unfold nmF
        rw [if_neg]
        rw [tk_k_w]
        simp [qb]
    · have qb' : b = false := by simpa using qb
      have q3 : ¬ ((p : Int) = xm h 173 4) := fun e => qb (R.2.2.2.2.2.2.2.1.mpr e.symm)
      have kw : tk_k T L p b = 1 := tk_k_w.mpr ⟨qb', ql⟩
      have ow := ow_all R
      obtain ⟨H, hH⟩ : ∃ H, H = xset h 173 2 (p : Int) := ⟨_, rfl⟩
      have st : f_X12_name 173 h = (f_X12_isOwnHere 173 H).bind fun r11 => if r11.1 = 0 then (xgf r11.2 12 2 173).bind fun x13 => (xpf r11.2 12 33 173 x13).bind fun h14 => (xit (fun s => f_X12_name_L58 173 s.1 s.2) xFU ((0, h14))).bind fun e33 => xel e33 (fun r => some r) (fun y34 => (xgf y34.2 12 2 173).bind fun x35 => (xpf y34.2 12 4 173 x35).bind fun h36 => some ((y34.1, h36))) else f_X12_name_J37 173 r11.2 := by
        have S' := R'.1
        unfold f_X12_name
        rw [gM S, hb, if_pos rfl, xM S, s_look R, bbind, s_isLetter, bbind, iff01, if_pos (lkv_l.mpr ql), gM S', gM S', at2, e4, if_neg q3, xM S', ← hH]
      rw [← hH] at ow fl bad
      by_cases qo : own (tk_w T L p b)
      · refine bad ?_ ?_
        · rw [st, ow, bbind, iff01, if_pos qo]
          exact fl
        · unfold nmF
          rw [if_neg (fun z => z.2 qo)]
      · have S' : SH H := by rw [hH]; exact R'.1
        have at' : xm H 173 2 = (p : Int) := by rw [hH, xm_xset, if_pos ⟨rfl, rfl⟩]
        have S3 : SH (xset h 173 33 (p : Int)) := S.set (by decide +kernel)
        have sw : xset H 173 33 (p : Int) = xset (xset h 173 33 (p : Int)) 173 2 (p : Int) := by
          rw [hH]
          exact xset_comm h 173 2 _ 173 33 _ (by omega)
        have T3 : xm (xset h 173 33 (p : Int)) 174 = T := by
          rw [← R.2.1]
          rfl
        have nl := s_namL S3 T3 (L := L) (p := p) R.2.2.1 R.2.2.2.2.2.1 hb (by rw [xm_xset, if_pos ⟨rfl, rfl⟩]) ql
        have R3 : Rx T L (xset h 173 33 (p : Int)) p b := by
          obtain ⟨r1, r2, r3, r4, r5, r6, r7, r8, r9, y, r10, r11⟩ := R
          exact ⟨S3, T3, r3, r4, r5, r6, r7, r8, r9, y, r10, r11⟩
        have st2 : f_X12_name 173 h = (xit (fun s => f_X12_name_L58 173 s.1 s.2) xFU ((0, xset (xset h 173 33 (p : Int)) 173 2 (p : Int)))).bind fun e33 => xel e33 (fun r => some r) (fun y34 => (xgf y34.2 12 2 173).bind fun x35 => (xpf y34.2 12 4 173 x35).bind fun h36 => some ((y34.1, h36))) := by
          rw [st, ow, bbind, iff01, if_neg qo, gM S', at', pMf S', sw]
        rcases nl with ⟨l6, e⟩ | ⟨l6, e⟩
        · have S4 : SH (xset (xset h 173 33 (p : Int)) 173 2 (tk_we T L p : Int)) := S3.set (by decide +kernel)
          have w := rx_wn R3 (Or.inl kw)
          rw [tk_st_l ql] at w
          refine ⟨nmV T L p, _, ?_, ((((Fx.refl DN h).set rfl).set rfl).set rfl), Or.inl ⟨?_, kw, l6, rfl, ?_, w⟩⟩
          · rw [st2, e, bbind]
            show ((xgf (xset (xset h 173 33 (p : Int)) 173 2 (tk_we T L p : Int)) 12 2 173).bind fun x35 => (xpf (xset (xset h 173 33 (p : Int)) 173 2 (tk_we T L p : Int)) 12 4 173 x35).bind fun h36 => some ((nmV T L p, h36))) = _
            rw [gM S4, pMf S4, xm_xset, if_pos ⟨rfl, rfl⟩]
          · unfold nmF
            rw [if_pos ⟨kw, qo⟩, if_neg (by omega)]
          · rw [xm_xset, if_neg (by omega), xm_xset, if_neg (by omega), xm_xset, if_pos ⟨rfl, rfl⟩]
        · have S4 : SH (xset (xset h 173 33 (p : Int)) 173 2 ((p + 6 : Nat) : Int)) := S3.set (by decide +kernel)
          refine ⟨0, _, ?_, (((((Fx.refl DN h).set rfl).set rfl).set rfl).set rfl), Or.inr ⟨(1, p + 6), ?_, bx_fail S4 1 (p + 6) (by decide)⟩⟩
          · rw [st2, e, bbind]
            rfl
          · unfold nmF
            rw [if_pos ⟨kw, qo⟩, if_pos l6]
  · refine bad ?_ ?_
    · unfold f_X12_name
      rw [gM S, hb, if_pos rfl, xM S, s_look R, bbind, s_isLetter, bbind, iff01, if_neg (fun g => ql (lkv_l.mp g))]
      exact fl
    · unfold nmF
      rw [if_neg]
      rw [tk_k_w]
      simp [ql]
/-! ===== names, the class ===== -/
theorem q_needName {T : Nat → Int} {L : Nat} {h : xa_H} {p : Nat} {b : Bool} (C : Cx T L h p b) :
    ∃ v h', f_X6_needName 2 h = some (v, h') ∧ Fx DC h h' ∧ ((nmF T L p b = none ∧ v = nm5 (lw T p) (tk_we T L p - p) ∧ v ≠ -1 ∧ xm h' 2 8 = (p : Int) ∧ Cx T L h' (tk_n T L p b).1 (tk_n T L p b).2) ∨ (∃ e, nmF T L p b = some e ∧ v = -1 ∧ Ex h' e)) := by
  have S := C.1.1
  obtain ⟨c1, c2, c3, c4, c5, c6, c7, c8⟩ := C
  have C : Cx T L h p b := ⟨c1, c2, c3, c4, c5, c6, c7, c8⟩
  have hL := c1.2.2.2.1
  have bad : f_X6_needName 2 h = f_X6_needName_J30 2 h → nmF T L p b = some (1, p) → ∃ v h', f_X6_needName 2 h = some (v, h') ∧ Fx DC h h' ∧ ((nmF T L p b = none ∧ v = nm5 (lw T p) (tk_we T L p - p) ∧ v ≠ -1 ∧ xm h' 2 8 = (p : Int) ∧ Cx T L h' (tk_n T L p b).1 (tk_n T L p b).2) ∨ (∃ e, nmF T L p b = some e ∧ v = -1 ∧ Ex h' e)) := by
    intro e1 e2
    obtain ⟨h1, a1, a2, a3⟩ := q_stray C
    refine ⟨-1, h1, ?_, a3, Or.inr ⟨_, e2, rfl, a2⟩⟩
    rw [e1]
    unfold f_X6_needName_J30
    rw [x62 S, a1]
    rfl
  have st : f_X6_needName 2 h = if tk_k T L p b = 1 then (if tk_w T L p b = -1 then f_X6_needName_J37 2 (tk_v T L p) h else if tk_w T L p b < 23 then f_X6_needName_J30 2 h else f_X6_needName_J37 2 (tk_v T L p) h) else f_X6_needName_J30 2 h := by
    unfold f_X6_needName
    rw [g2k S, g2k S, c4, g2k S, c8, g2k S, c8, c7]
  by_cases k : tk_k T L p b = 1
  · obtain ⟨kb, kl⟩ := tk_k_w.mp k
    rw [if_pos k] at st
    by_cases qo : own (tk_w T L p b)
    · refine bad ?_ (by unfold nmF; rw [if_neg (fun z => z.2 qo)])
      unfold own at qo
      rw [st, if_neg (by omega), if_pos (by omega)]
    · have st2 : f_X6_needName 2 h = f_X6_needName_J37 2 (tk_v T L p) h := by
        rw [st]
        by_cases z : tk_w T L p b = -1
        · rw [if_pos z]
        · rcases tk_w_r (T := T) (L := L) (p := p) (b := b) with e | ⟨w, hw, e⟩
          · exact absurd e z
          · unfold own at qo
            rw [if_neg z, if_neg (by omega)]
      have gw := tk_we_gt kl
      have dl : tk_we T L p ≤ L := rn_le tk_l0 _ _ c2
      have hlt := (tk_li.mp kl).1
      have sw := tk_st_l kl
      by_cases l6 : 6 < tk_we T L p - p
      · obtain ⟨h1, e1, e2, e3⟩ := q_refuse c1 1 (p + 6) (z := w32 ((p : Int) + 6)) (by rw [w32_id (by omega) (by omega)]; omega)
        have e1' : f_X6_refuse 2 1 (w32 ((p : Int) + 6)) h = some (0, h1) := e1
        refine ⟨-1, h1, ?_, e3, Or.inr ⟨_, by unfold nmF; rw [if_pos ⟨k, qo⟩, if_pos l6], rfl, e2⟩⟩
        rw [st2]
        unfold f_X6_needName_J37
        rw [g2k S, g2k S, c6, c5, sw, w32_id (z := ((tk_we T L p : Nat) : Int) - (p : Int)) (by omega) (by omega), if_pos (by omega), g2k S, c5, x62 S, e1']
        rfl
      · have hf := tk_li.mp kl
        have C2 : Cx T L (xset h 2 8 (p : Int)) p b := by
          have m : ∀ j, j ≠ 8 → xm (xset h 2 8 (p : Int)) 2 j = xm h 2 j := fun j hj => by rw [xm_xset, if_neg (by omega)]
          exact ⟨cb_set c1 (by omega) (by omega), c2, c3, (m 3 (by omega)).trans c4, (m 4 (by omega)).trans c5, (m 5 (by omega)).trans c6, (m 6 (by omega)).trans c7, (m 7 (by omega)).trans c8⟩
        have S2 := C2.1.1
        obtain ⟨h1, e1, e2, e3'⟩ := s_stepS C2
        have e3 := DS_DC e3'
        have vv : tk_v T L p = nm5 (lw T p) (tk_we T L p - p) := by
          unfold tk_v
          rw [if_pos hlt, if_pos kl, show min (tk_we T L p - p) 6 = tk_we T L p - p by omega]
          rfl
        have vb := nm5_b (f := lw T p) (n := tk_we T L p - p) (by omega) lw_b
        have k8 : xm h1 2 8 = (p : Int) := by
          rw [e3'.2.2.2 2 8 rfl, xm_xset, if_pos ⟨rfl, rfl⟩]
        refine ⟨tk_v T L p, h1, ?_, ((Fx.refl DC h).set rfl).tr e3, Or.inl ⟨by unfold nmF; rw [if_pos ⟨k, qo⟩, if_neg l6], vv, by omega, k8, e2⟩⟩
        rw [st2]
        unfold f_X6_needName_J37
        rw [g2k S, g2k S, c6, c5, sw, w32_id (z := ((tk_we T L p : Nat) : Int) - (p : Int)) (by omega) (by omega), if_neg (by omega), g2k S, c5, bxpf, if_pos (ok_2 S)]
        show ((xrc (xset h 2 8 (p : Int)) 6 2 (f_X6_step 2 (xset h 2 8 (p : Int)))).bind fun r13 => some ((tk_v T L p, r13))) = _
        rw [x62 S2, e1]
        rfl
  · rw [if_neg k] at st
    exact bad st (by unfold nmF; rw [if_neg (fun z => k z.1)])
