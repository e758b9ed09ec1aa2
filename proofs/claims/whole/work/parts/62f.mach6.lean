/-! ===== the words of a PART ===== -/
theorem hereH {T : Nat → Int} {L : Nat} {h : xa_H} {p : Nat} {b : Bool} (R : Rx T L h p b) {A w : Nat} (hm : (A, w) ∈ wtab) (hw : w < 29) : f_X12_isHere 173 (A : Int) (xset h 173 2 (p : Int)) = some (if tk_w T L p b = (w : Int) then 1 else 0, xset h 173 2 (p : Int)) := by
  have e := s_isHere (rx_at R) hm hw
  rw [xset_xset] at e
  exact e
def whr (q : Bool) (w : Int) : Int := if w = 12 then 0 else if w = 13 then 1 else if w = 4 then 2 else if w = 1 then 3 else if w = 14 then (if q = true then 8 else 4) else if w = 5 then 5 else if w = 15 then 6 else if w = 16 then 7 else -1
theorem s_wordHere {T : Nat → Int} {L : Nat} {q : Bool} {h : xa_H} {p : Nat} {b : Bool} (R : Rx T L h p b) (hr : xm h 173 49 = (if q = true then 0 else 1)) : f_X12_qWordHere 173 h = some (whr q (tk_w T L p b), xset h 173 2 (p : Int)) := by
  have S := R.1
  have S2 : SH (xset h 173 2 (p : Int)) := (rx_at R).1
  obtain ⟨H, hH⟩ : ∃ H, H = xset h 173 2 (p : Int) := ⟨_, rfl⟩
  have hr2 : xm H 173 49 = (if q = true then 0 else 1) := by rw [hH, xm_xset, if_neg (by omega)]; exact hr
  have i0 : f_X12_isHere 173 237 h = some (if tk_w T L p b = 12 then 1 else 0, xset h 173 2 (p : Int)) := s_isHere R (A := 237) (w := 12) (by decide +kernel) (by decide)
  have i1 : f_X12_isHere 173 238 (xset h 173 2 (p : Int)) = some (if tk_w T L p b = 13 then 1 else 0, xset h 173 2 (p : Int)) := hereH R (A := 238) (w := 13) (by decide +kernel) (by decide)
  have i2 : f_X12_isHere 173 239 (xset h 173 2 (p : Int)) = some (if tk_w T L p b = 4 then 1 else 0, xset h 173 2 (p : Int)) := hereH R (A := 239) (w := 4) (by decide +kernel) (by decide)
  have i3 : f_X12_isHere 173 240 (xset h 173 2 (p : Int)) = some (if tk_w T L p b = 1 then 1 else 0, xset h 173 2 (p : Int)) := hereH R (A := 240) (w := 1) (by decide +kernel) (by decide)
  have i4 : f_X12_isHere 173 241 (xset h 173 2 (p : Int)) = some (if tk_w T L p b = 14 then 1 else 0, xset h 173 2 (p : Int)) := hereH R (A := 241) (w := 14) (by decide +kernel) (by decide)
  have i5 : f_X12_isHere 173 242 (xset h 173 2 (p : Int)) = some (if tk_w T L p b = 5 then 1 else 0, xset h 173 2 (p : Int)) := hereH R (A := 242) (w := 5) (by decide +kernel) (by decide)
  have i6 : f_X12_isHere 173 243 (xset h 173 2 (p : Int)) = some (if tk_w T L p b = 15 then 1 else 0, xset h 173 2 (p : Int)) := hereH R (A := 243) (w := 15) (by decide +kernel) (by decide)
  have i7 : f_X12_isHere 173 244 (xset h 173 2 (p : Int)) = some (if tk_w T L p b = 16 then 1 else 0, xset h 173 2 (p : Int)) := hereH R (A := 244) (w := 16) (by decide +kernel) (by decide)
  rw [← hH] at S2 i0 i1 i2 i3 i4 i5 i6 i7 ⊢
  unfold f_X12_qWordHere whr
  rw [gM S, pt_173_89 S, xM S]
  rw [i0, bbind, iff01]
  by_cases z0 : tk_w T L p b = 12
  · simp only [if_pos z0]
  simp only [if_neg z0]
  rw [gM S2, pt_173_90 S2, xM S2]
  rw [i1, bbind, iff01]
  by_cases z1 : tk_w T L p b = 13
  · simp only [if_pos z1]
  simp only [if_neg z1]
  rw [gM S2, pt_173_91 S2, xM S2]
  rw [i2, bbind, iff01]
  by_cases z2 : tk_w T L p b = 4
  · simp only [if_pos z2]
  simp only [if_neg z2]
  rw [gM S2, pt_173_92 S2, xM S2]
  rw [i3, bbind, iff01]
  by_cases z3 : tk_w T L p b = 1
  · simp only [if_pos z3]
  simp only [if_neg z3]
  rw [gM S2, pt_173_93 S2, xM S2]
  rw [i4, bbind, iff01]
  by_cases z4 : tk_w T L p b = 14
  · simp only [if_pos z4]
    rw [gM S2, hr2]
    cases q <;> rfl
  simp only [if_neg z4]
  rw [gM S2, pt_173_94 S2, xM S2]
  rw [i5, bbind, iff01]
  by_cases z5 : tk_w T L p b = 5
  · simp only [if_pos z5]
  simp only [if_neg z5]
  rw [gM S2, pt_173_95 S2, xM S2]
  rw [i6, bbind, iff01]
  by_cases z6 : tk_w T L p b = 15
  · simp only [if_pos z6]
  simp only [if_neg z6]
  rw [gM S2, pt_173_96 S2, xM S2]
  rw [i7, bbind, iff01]
  by_cases z7 : tk_w T L p b = 16
  · simp only [if_pos z7]
  simp only [if_neg z7]
theorem s_allowed {q : Bool} {h : xa_H} (S : SH h) (hr : xm h 173 49 = (if q = true then 0 else 1)) (v : Int) : f_X12_isAllowed 173 v h = some (if q = true then (if v = 0 ∨ v = 4 then 0 else 1) else (if v < 7 then 1 else 0)) := by
  unfold f_X12_isAllowed
  rw [gM S, hr]
  cases q
  · simp only [Bool.false_eq_true, if_false]
    rw [if_neg one_ne]
    split <;> rfl
  · simp only [if_true]
    by_cases z : v = 0
    · rw [if_pos z, if_pos (Or.inl z)]
    · rw [if_neg z]
      by_cases z2 : v = 4
      · rw [if_pos z2, if_pos (Or.inr z2)]
      · rw [if_neg z2, if_neg (by omega)]
theorem s_word89 {T : Nat → Int} {L : Nat} {q : Bool} {h : xa_H} {p : Nat} {b : Bool} (R : Rx T L h p b) (hr : xm h 173 49 = (if q = true then 0 else 1)) : f_X12_qWordOf 173 8 9 h = some (if q = true ∧ tk_w T L p b = 14 then 8 else -1, xset h 173 2 (p : Int)) := by
  have S := R.1
  have S2 : SH (xset h 173 2 (p : Int)) := (rx_at R).1
  have hr2 : xm (xset h 173 2 (p : Int)) 173 49 = (if q = true then 0 else 1) := by rw [xm_xset, if_neg (by omega)]; exact hr
  unfold f_X12_qWordOf
  rw [xM S, s_wordHere R hr, bbind, xM S2, s_allowed S2 hr2, bbind]
  dsimp only
  generalize tk_w T L p b = w
  unfold whr
  cases q
  · simp only [Bool.false_eq_true, if_false, false_and]
    repeat' split
    all_goals (first | rfl | (exfalso; omega))
  · simp only [if_true, true_and]
    repeat' split
    all_goals (first | rfl | (exfalso; omega))
theorem s_word08 {T : Nat → Int} {L : Nat} {q : Bool} {h : xa_H} {p : Nat} {b : Bool} (R : Rx T L h p b) (hr : xm h 173 49 = (if q = true then 0 else 1)) : f_X12_qWordOf 173 0 8 h = some (match pF q (tk_w T L p b) with | none => -1 | some c => c - 40, xset h 173 2 (p : Int)) := by
  have S := R.1
  have S2 : SH (xset h 173 2 (p : Int)) := (rx_at R).1
  have hr2 : xm (xset h 173 2 (p : Int)) 173 49 = (if q = true then 0 else 1) := by rw [xm_xset, if_neg (by omega)]; exact hr
  unfold f_X12_qWordOf
  rw [xM S, s_wordHere R hr, bbind, xM S2, s_allowed S2 hr2, bbind]
  dsimp only
  generalize tk_w T L p b = w
  have key : (if whr q w < 0 then some ((-1 : Int), xset h 173 2 (p : Int)) else if whr q w < 8 then (if (if q = true then (if whr q w = 0 ∨ whr q w = 4 then (0 : Int) else 1) else (if whr q w < 7 then 1 else 0)) = 0 then some (-1, xset h 173 2 (p : Int)) else some (whr q w, xset h 173 2 (p : Int))) else some (-1, xset h 173 2 (p : Int))) = some (match pF q w with | none => -1 | some c => c - 40, xset h 173 2 (p : Int)) := by
    unfold whr pF
    by_cases z0 : w = 12
    · subst z0; cases q <;> rfl
    by_cases z1 : w = 13
    · subst z1; cases q <;> rfl
    by_cases z2 : w = 4
    · subst z2; cases q <;> rfl
    by_cases z3 : w = 1
    · subst z3; cases q <;> rfl
    by_cases z4 : w = 14
    · subst z4; cases q <;> rfl
    by_cases z5 : w = 5
    · subst z5; cases q <;> rfl
    by_cases z6 : w = 15
    · subst z6; cases q <;> rfl
    by_cases z7 : w = 16
    · subst z7; cases q <;> rfl
    simp only [if_neg z0, if_neg z1, if_neg z2, if_neg z3, if_neg z4, if_neg z5, if_neg z6, if_neg z7]
    rfl
  exact key
/-- the word that a code stands for -/
def wcd : List (Int × Nat) := [(0, 12), (1, 13), (2, 4), (3, 1), (4, 14), (5, 5), (6, 15), (7, 16), (8, 14)]
theorem s_asksW {T : Nat → Int} {L : Nat} {h : xa_H} {p : Nat} {b : Bool} (R : Rx T L h p b) {k : Int} {w : Nat} (hm : (k, w) ∈ wcd) (hw : tk_w T L p b = (w : Int)) : ∃ h', f_X12_qAsksWord 173 k h = some h' ∧ Fx DB h h' ∧ Rx T L h' (tk_n T L p b).1 (tk_n T L p b).2 := by
  have S := R.1
  have go : ∀ (A w : Nat), (A, w) ∈ wtab → w < 29 → tk_w T L p b = (w : Int) → ∃ h', f_X12_asks 173 (A : Int) h = some h' ∧ Fx DB h h' ∧ Rx T L h' (tk_n T L p b).1 (tk_n T L p b).2 := by
    intro A w h1 h2 h3
    obtain ⟨h', e1, e2, o⟩ := s_asks R h1 h2
    rcases o with ⟨o1, o2⟩ | ⟨o1, -⟩
    · exact ⟨h', e1, e2, o2⟩
    · exact absurd h3 o1
  have fin : ∀ (A w : Nat), (A, w) ∈ wtab → w < 29 → tk_w T L p b = (w : Int) → ∃ h', ((xrc h 12 173 (f_X12_asks 173 (A : Int) h)).bind fun r3 => some r3) = some h' ∧ Fx DB h h' ∧ Rx T L h' (tk_n T L p b).1 (tk_n T L p b).2 := by
    intro A w h1 h2 h3
    obtain ⟨h', e1, e2, e3⟩ := go A w h1 h2 h3
    exact ⟨h', by rw [xM S, e1]; rfl, e2, e3⟩
  unfold f_X12_qAsksWord
  simp only [wcd, List.mem_cons, Prod.mk.injEq, List.not_mem_nil, or_false] at hm
  rcases hm with ⟨rfl, rfl⟩ | ⟨rfl, rfl⟩ | ⟨rfl, rfl⟩ | ⟨rfl, rfl⟩ | ⟨rfl, rfl⟩ | ⟨rfl, rfl⟩ | ⟨rfl, rfl⟩ | ⟨rfl, rfl⟩ | ⟨rfl, rfl⟩
  · rw [if_pos (by decide), gM S, pt_173_89 S]
    exact fin 237 12 (by decide +kernel) (by decide) hw
  · rw [if_neg (by decide), if_pos (by decide), gM S, pt_173_90 S]
    exact fin 238 13 (by decide +kernel) (by decide) hw
  · rw [if_neg (by decide), if_neg (by decide), if_pos (by decide), gM S, pt_173_91 S]
    exact fin 239 4 (by decide +kernel) (by decide) hw
  · rw [if_neg (by decide), if_neg (by decide), if_neg (by decide), if_pos (by decide), gM S, pt_173_92 S]
    exact fin 240 1 (by decide +kernel) (by decide) hw
  · rw [if_neg (by decide), if_neg (by decide), if_neg (by decide), if_neg (by decide), if_pos (by decide), gM S, pt_173_93 S]
    exact fin 241 14 (by decide +kernel) (by decide) hw
  · rw [if_neg (by decide), if_neg (by decide), if_neg (by decide), if_neg (by decide), if_neg (by decide), if_pos (by decide), gM S, pt_173_94 S]
    exact fin 242 5 (by decide +kernel) (by decide) hw
  · rw [if_neg (by decide), if_neg (by decide), if_neg (by decide), if_neg (by decide), if_neg (by decide), if_neg (by decide), if_pos (by decide), gM S, pt_173_95 S]
    exact fin 243 15 (by decide +kernel) (by decide) hw
  · rw [if_neg (by decide), if_neg (by decide), if_neg (by decide), if_neg (by decide), if_neg (by decide), if_neg (by decide), if_neg (by decide), if_pos (by decide), gM S, pt_173_96 S]
    exact fin 244 16 (by decide +kernel) (by decide) hw
  · rw [if_neg (by decide), if_neg (by decide), if_neg (by decide), if_neg (by decide), if_neg (by decide), if_neg (by decide), if_neg (by decide), if_neg (by decide), gM S, pt_173_93 S]
    exact fin 241 14 (by decide +kernel) (by decide) hw
/-- one more is open -/
theorem s_opens {T : Nat → Int} {L : Nat} {q : Bool} {b : Nat} {h : xa_H} {σ : List Int} {d : Nat} {s : pS} (M : Mx T L q b h σ d s) (hs : s.2.2.length + b + σ.length ≤ s.1) (c : Int) (pl : Nat) : ∃ h', f_X12_qOpens 173 c (pl : Int) h = some h' ∧ ((0 < d ∧ Mx T L q b h' (c :: σ) (d - 1) s ∧ Fm b h h' ∧ xm h' 173 2 = xm h 173 2) ∨ (d = 0 ∧ Bq h' (4, pl) 1600 ∧ Fx DQ h h')) := by
  have S := mx_S M
  have lL := mx_L M
  have d6 := M.2.2.2.2.2.2.1
  by_cases g : 0 < d
  · obtain ⟨o1, o2⟩ := mx_op M (d' := d - 1) (by omega)
    obtain ⟨h', e1, e2, e3⟩ := s_pushOp o1 hs c
    obtain ⟨p1, p2, p3, p4⟩ := mx_push o1 hs c
    have So := mx_S o1
    have Sp : SH (xset (xset h 173 101 ((6 - (d - 1) : Nat) : Int)) 246 (b + σ.length) c) := So.set fx246
    have m4 : xm (xset (xset h 173 101 ((6 - (d - 1) : Nat) : Int)) 246 (b + σ.length) c) 173 100 = ((b + σ.length : Nat) : Int) := by rw [xm_xset, if_neg (by omega)]; exact o1.2.2.1
    refine ⟨_, ?_, Or.inl ⟨g, p1, o2.tr p2, ?_⟩⟩
    · have w1 : w32 (((6 - d : Nat) : Int) + 1) = ((6 - (d - 1) : Nat) : Int) := op_w g d6
      unfold f_X12_qOpens
      rw [gM S, mx_bad M, if_pos rfl, gM S, M.2.2.2.2.2.1, if_neg (by omega), gM S, M.2.2.2.2.2.1, w1, pMf S, gM So, gM So, o1.2.2.1, pt_173_99 So, bxas, if_pos p3]
      show ((xgf (xset (xset h 173 101 ((6 - (d - 1) : Nat) : Int)) 246 (b + σ.length) c) 12 100 173).bind fun x87 => (xpf (xset (xset h 173 101 ((6 - (d - 1) : Nat) : Int)) 246 (b + σ.length) c) 12 100 173 (w32 (x87 + 1))).bind fun h88 => some h88) = _
      rw [gM Sp, m4, p4, pMf Sp]
    · rw [xm_xset, if_neg (by omega), xm_xset, if_neg (by omega), xm_xset, if_neg (by omega)]
  · have c98 := M.2.1.1
    refine ⟨_, ?_, Or.inr ⟨by omega, ⟨bx_fail S 4 pl (by decide), ?_, ?_⟩, ((Fx.refl DQ h).set rfl).set rfl⟩⟩
    · have f := s_fail S (mx_bad M) 4 (pl : Int)
      unfold f_X12_qOpens
      rw [gM S, mx_bad M, if_pos rfl, gM S, M.2.2.2.2.2.1, if_pos (by omega), xM S, f]
      rfl
    · rw [xm_xset, if_neg (by omega), xm_xset, if_neg (by omega)]
      omega
    · rw [xm_xset, if_neg (by omega), xm_xset, if_neg (by omega)]
      omega
