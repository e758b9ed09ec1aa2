/-! ===== what codes come to, in the reference ===== -/
theorem s_qClip {v : Int} (h : xa_H) : f_X12_qClip v h = some (clp v) := by
  unfold f_X12_qClip clp xcmp
  by_cases a : 1000000 < v
  · rw [if_neg (show ¬ v < 1000000 by omega), if_neg (show ¬ v = 1000000 by omega), if_pos (by decide), if_pos a]
  · rw [if_neg a, if_neg (by split <;> (try split) <;> omega)]
    by_cases b : v < -1000000
    · rw [if_pos b, if_pos b, if_pos (by decide)]
    · rw [if_neg b, if_neg b, if_neg (by split <;> omega)]
theorem cmp_lt {a b : Int} : xcmp a b < 0 ↔ a < b := by
  unfold xcmp
  split
  · omega
  · split <;> omega
theorem cmp_gt {a b : Int} : 0 < xcmp a b ↔ b < a := by
  unfold xcmp
  split
  · omega
  · split <;> omega
theorem cmp_eq {a b : Int} : xcmp a b = 0 ↔ a = b := by
  unfold xcmp
  split
  · omega
  · split <;> omega
theorem s_qFloor {a b : Int} (h : xa_H) (ha : -1000000 ≤ a ∧ a ≤ 1000000) (hb : -1000000 ≤ b ∧ b ≤ 1000000) : f_X12_qFloor a b h = some (if b = 0 then 0 else Int.fdiv a b) := by
  unfold f_X12_qFloor
  by_cases z : b = 0
  · rw [if_pos (cmp_eq.mpr z), if_pos z]
  · have fo := fdiv_ok ha.1 ha.2 z
    rw [if_neg (fun y => z (cmp_eq.mp y)), if_neg z, exnz, if_neg z, exnz, if_neg z]
    have ft := Int.fdiv_eq_tdiv (a := a) (b := b)
    by_cases y : Int.tmod a b = 0
    · rw [if_pos (cmp_eq.mpr y)]
      rw [if_pos (Int.dvd_of_tmod_eq_zero y)] at ft
      rw [w64_id (by omega) (by omega)]
      congr 1
      omega
    · rw [if_neg (fun x => y (cmp_eq.mp x))]
      rw [if_neg (fun x => y (Int.tmod_eq_zero_of_dvd x))] at ft
      unfold f_X12_qFloor_J32 f_X12_qFloor_J43
      by_cases a0 : a < 0
      · rw [if_pos (cmp_lt.mpr a0)]
        rw [if_neg (by omega)] at ft
        by_cases b0 : b < 0
        · rw [if_neg (by omega), Int.sign_eq_neg_one_of_neg b0] at ft
          rw [if_pos (cmp_lt.mpr b0), if_pos rfl, w64_id (by omega) (by omega)]
          congr 1
          omega
        · rw [if_pos (by omega), Int.sign_eq_one_of_pos (by omega)] at ft
          rw [if_neg (fun x => b0 (cmp_lt.mp x)), if_neg (by decide), w64_id (z := Int.tdiv a b) (by omega) (by omega), w64_id (by omega) (by omega)]
          congr 1
          omega
      · rw [if_neg (fun x => a0 (cmp_lt.mp x))]
        rw [if_pos (by omega)] at ft
        by_cases b0 : b < 0
        · rw [if_neg (by omega)] at ft
          rw [if_pos (cmp_lt.mpr b0), if_neg (by decide), w64_id (z := Int.tdiv a b) (by omega) (by omega), w64_id (by omega) (by omega)]
          congr 1
          omega
        · rw [if_pos (by omega)] at ft
          rw [if_neg (fun x => b0 (cmp_lt.mp x)), if_pos rfl, w64_id (by omega) (by omega)]
          congr 1
          omega
theorem m_puts {H : xa_H} (S : SH H) {p : Nat} (hp : xm H 173 104 = (p : Int)) (h17 : p < 1700) (v : Int) : f_X12_qPuts 173 v H = some (xset (xset H 247 p v) 173 104 ((p + 1 : Nat) : Int)) := by
  obtain ⟨H1, e1⟩ : ∃ z, z = xset H 247 p v := ⟨_, rfl⟩
  have S1 : SH H1 := by rw [e1]; exact S.set (fixd_of (by decide +kernel))
  have h1 : xm H1 173 104 = (p : Int) := by rw [e1, xm_xset, if_neg (by omega)]; exact hp
  have i1 : xia H 1 247 (p : Int) = true := ia_247 S (by omega) (by omega)
  have w1 : w32 ((p : Int) + 1) = ((p + 1 : Nat) : Int) := by rw [w32_id (by omega) (by omega)]; omega
  unfold f_X12_qPuts
  rw [gM S, pt_173_103 S, gM S, hp]
  refine (bnd (xas_eq (a := 247) i1)).trans ?_
  rw [← e1, gM S1, h1, pMf S1, w1]
theorem m_joins {H : xa_H} (S : SH H) {n : Nat} (hp : xm H 173 104 = ((n + 2 : Nat) : Int)) (h17 : n < 1000) {r a b : Int} (eb : xm H 247 (n + 1) = b) (ea : xm H 247 n = a) (hr : ((r = 10 ∨ r = 11) ∧ (a = 0 ∨ a = 1) ∧ (b = 0 ∨ b = 1)) ∨ ((1 ≤ r ∧ r ≤ 9) ∧ (-1000000 ≤ a ∧ a ≤ 1000000) ∧ (-1000000 ≤ b ∧ b ≤ 1000000))) :
    f_X12_qJoins 173 r H = some (xset (xset H 247 n (vbin r a b)) 173 104 ((n + 1 : Nat) : Int)) := by
  have i1 : xia H 1 247 ((n + 1 : Nat) : Int) = true := ia_247 S (by omega) (by omega)
  have i2 : xia H 1 247 (n : Int) = true := ia_247 S (by omega) (by omega)
  obtain ⟨H8, e8⟩ : ∃ z, z = xset H 173 104 (n : Int) := ⟨_, rfl⟩
  have S8 : SH H8 := by rw [e8]; exact S.set (by decide +kernel)
  have h8 : xm H8 173 104 = (n : Int) := by rw [e8, xm_xset, if_pos ⟨rfl, rfl⟩]
  have fin : ∀ v, f_X12_qPuts 173 v H8 = some (xset (xset H 247 n v) 173 104 ((n + 1 : Nat) : Int)) := fun v => by
    rw [m_puts S8 h8 (by omega), e8, xset_comm H 173 104 _ 247 n v (by omega), xset_xset]
  have fx : ∀ v, ((xrc H8 12 173 (f_X12_qPuts 173 v H8)).bind fun r11 => some r11) = some (xset (xset H 247 n v) 173 104 ((n + 1 : Nat) : Int)) := fun v => by
    rw [xM S8, fin v, bbind]
  have w1 : w32 (((n + 2 : Nat) : Int) - 1) = ((n + 1 : Nat) : Int) := by rw [w32_id (by omega) (by omega)]; omega
  have w2 : w32 (((n + 2 : Nat) : Int) - 2) = (n : Int) := by rw [w32_id (by clear w1; omega) (by clear w1; omega)]; omega
  unfold f_X12_qJoins
  rw [gM S, pt_173_103 S, gM S, hp, w1]
  refine (bnd (xal_eq (a := 247) i1 eb)).trans ?_
  rw [gM S, pt_173_103 S, gM S, hp, w2]
  refine (bnd (xal_eq (a := 247) i2 ea)).trans ?_
  rw [gM S, hp, pMf S, w2, ← e8]
  clear w1 w2
  rcases hr with ⟨rfl | rfl, ha, hb⟩ | ⟨hr, ha, hb⟩
  · rw [if_neg (by omega), if_neg (by omega), if_neg (by omega), if_neg (by omega), if_neg (by omega), if_neg (by omega), if_neg (by omega), if_neg (by omega), if_neg (by omega), if_pos rfl, fx]
    rw [w64_id (by rcases ha with rfl | rfl <;> rcases hb with rfl | rfl <;> decide) (by rcases ha with rfl | rfl <;> rcases hb with rfl | rfl <;> decide), vb10]
  · rw [if_neg (by omega), if_neg (by omega), if_neg (by omega), if_neg (by omega), if_neg (by omega), if_neg (by omega), if_neg (by omega), if_neg (by omega), if_neg (by omega), if_neg (by omega), fx, fx, w64_id (by omega) (by omega), vb11]
    by_cases y : 0 < a + b
    · rw [if_pos (cmp_gt.mpr y), if_pos y]
    · rw [if_neg (fun x => y (cmp_gt.mp x)), if_neg y]
  · have : r = 1 ∨ r = 2 ∨ r = 3 ∨ r = 4 ∨ r = 5 ∨ r = 6 ∨ r = 7 ∨ r = 8 ∨ r = 9 := by omega
    have m := mul_ok ha hb
    rcases this with rfl | rfl | rfl | rfl | rfl | rfl | rfl | rfl | rfl
    · rw [if_pos rfl, s_qClip, bbind, fx, w64_id (by omega) (by omega), vb1]
    · rw [if_neg (by omega), if_pos rfl, s_qClip, bbind, fx, w64_id (by omega) (by omega), vb2]
    · rw [if_neg (by omega), if_neg (by omega), if_pos rfl, s_qClip, bbind, fx, w64_id (by omega) (by omega), vb3]
    · rw [if_neg (by omega), if_neg (by omega), if_neg (by omega), if_pos rfl, s_qFloor H8 ha hb, bbind, fx, vb4]
    · rw [if_neg (by omega), if_neg (by omega), if_neg (by omega), if_neg (by omega), if_pos rfl, fx, fx, vb5]
      by_cases y : a < b
      · rw [if_pos (cmp_lt.mpr y), show min a b = a by omega]
      · rw [if_neg (fun x => y (cmp_lt.mp x)), show min a b = b by omega]
    · rw [if_neg (by omega), if_neg (by omega), if_neg (by omega), if_neg (by omega), if_neg (by omega), if_pos rfl, fx, fx, vb6]
      by_cases y : b < a
      · rw [if_pos (cmp_gt.mpr y), show max a b = a by omega]
      · rw [if_neg (fun x => y (cmp_gt.mp x)), show max a b = b by omega]
    · rw [if_neg (by omega), if_neg (by omega), if_neg (by omega), if_neg (by omega), if_neg (by omega), if_neg (by omega), if_pos rfl, fx, fx, vb7]
      by_cases y : a < b
      · rw [if_pos (cmp_lt.mpr y), if_pos y]
      · rw [if_neg (fun x => y (cmp_lt.mp x)), if_neg y]
    · rw [if_neg (by omega), if_neg (by omega), if_neg (by omega), if_neg (by omega), if_neg (by omega), if_neg (by omega), if_neg (by omega), if_pos rfl, fx, fx, vb8]
      by_cases y : b < a
      · rw [if_pos (cmp_gt.mpr y), if_pos y]
      · rw [if_neg (fun x => y (cmp_gt.mp x)), if_neg y]
    · rw [if_neg (by omega), if_neg (by omega), if_neg (by omega), if_neg (by omega), if_neg (by omega), if_neg (by omega), if_neg (by omega), if_neg (by omega), if_pos rfl, fx, fx, vb9]
      by_cases y : a = b
      · rw [if_pos (cmp_eq.mpr y), if_pos y]
      · rw [if_neg (fun x => y (cmp_eq.mp x)), if_neg y]
/-- the reference's heap on the way -/
def rH (h : xa_H) (fa : Nat → Int) (c : Nat → Int) : Nat → xa_H
  | 0 => xset h 173 104 0
  | n + 1 => xset (xset (rH h fa c n) 247 (vtop fa (c n) (vrun fa c n)).2.length (vtop fa (c n) (vrun fa c n)).1) 173 104 (((vtop fa (c n) (vrun fa c n)).2.length + 1 : Nat) : Int)
def DW (a k : Nat) : Bool := a == 247 || (a == 173 && k == 104)
theorem DW_nf : nofix DW := by unfold nofix; decide +kernel
theorem rH_f (h : xa_H) (fa : Nat → Int) (c : Nat → Int) : ∀ n, Fx DW h (rH h fa c n)
  | 0 => (Fx.refl DW h).set rfl
  | n + 1 => ((rH_f h fa c n).set rfl).set rfl
theorem rH_p {h : xa_H} {fa : Nat → Int} {c : Nat → Int} : ∀ n, pil (rH h fa c n) 247 (vrun fa c n)
  | 0 => fun k hk => by simp [vrun] at hk
  | n + 1 => pil_mv (pil_put (vtop_pil (rH_p n))) (fun k => by rw [rH, xm_xset, if_neg (by omega)])
theorem rH_l {h : xa_H} {fa : Nat → Int} {c : Nat → Int} : ∀ n, xm (rH h fa c n) 173 104 = ((vrun fa c n).length : Int)
  | 0 => by rw [rH, xm_xset, if_pos ⟨rfl, rfl⟩]; rfl
  | n + 1 => by rw [rH, xm_xset, if_pos ⟨rfl, rfl⟩]; rfl
/-- a code on top of what stands there -/
theorem m_one {H : xa_H} (S : SH H) {p : Nat} (hp : xm H 173 104 = ((p + 1 : Nat) : Int)) (v : Int) : xset H 247 p v = xset (xset H 247 p v) 173 104 ((p + 1 : Nat) : Int) := by
  refine xheq rfl rfl rfl (fun a k => ?_)
  rw [xm_xset (xset H 247 p v) 173 104]
  by_cases y : a = 173 ∧ k = 104
  · rw [if_pos y, xm_xset, if_neg (by omega), y.1, y.2, hp]
  · rw [if_neg y]
