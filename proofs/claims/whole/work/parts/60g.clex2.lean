/-! ===== the class's word, and its step ===== -/
def DS (a k : Nat) : Bool := a == 2 && (Nat.ble 3 k && Nat.ble k 7)
theorem DS_DC {h h' : xa_H} (e : Fx DS h h') : Fx DC h h' := e.mono fun x k q => by
  unfold DC at q
  unfold DS
  simp only [Bool.and_eq_false_iff] at q ⊢
  rcases q with z | z
  · exact Or.inl z
  · exact Or.inr (Or.inl z)
theorem nm5_inj {f g : Nat → Int} {n m : Nat} (hn : n ≤ 6) (hm : m ≤ 6) (hf : ∀ k, k < n → 1 ≤ f k ∧ f k ≤ 26) (hg : ∀ k, k < m → 1 ≤ g k ∧ g k ≤ 26) (e : nm5 f n = nm5 g m) : n = m ∧ ∀ k, k < n → f k = g k := by
  have hd : ∀ k, k < 6 → (if k < n then f k else 0) = if k < m then g k else 0 := fun k hk => by
    rw [← nm5_d hn hk hf, ← nm5_d hm hk hg, e]
  have nm : n = m := by
    rcases Nat.lt_trichotomy n m with h | h | h
    · have a := hd n (by omega)
      rw [if_neg (by omega), if_pos h] at a
      have := hg n h
      omega
    · exact h
    · have a := hd m (by omega)
      rw [if_pos h, if_neg (by omega)] at a
      have := hf m h
      omega
  refine ⟨nm, fun k hk => ?_⟩
  have a := hd k (by omega)
  rw [if_pos hk, if_pos (by omega)] at a
  exact a
/-- the letters of the word w -/
def lww (w : Nat) (k : Nat) : Int := (tk_ww w).getD k 0 - 96
theorem lww_b : ∀ w, w < 29 → ∀ k, k < (tk_ww w).length → 1 ≤ lww w k ∧ lww w k ≤ 26 := by decide +kernel
theorem sh_words {h : xa_H} (S : SH h) {w : Nat} (hw : w < 29) : xm h 3 w = nm5 (lww w) (tk_ww w).length := by
  have h1 : ∀ w, w < 29 → (3, w, nm5 (lww w) (tk_ww w).length) ∈ pl0 := by decide +kernel
  exact S.2.2 _ (h1 w hw)
theorem lw_b {T : Nat → Int} {L p : Nat} : ∀ k, k < tk_we T L p - p → 1 ≤ lw T p k ∧ lw T p k ≤ 26 := fun k hk => by
  have z := tk_li.mp (rn_all (tk_l T L) L p (p + k) (by omega) (by show p + k < tk_we T L p; omega))
  unfold lw
  omega
theorem word_eq {T : Nat → Int} {L p w : Nat} (hl : tk_l T L p = true) (h6 : tk_we T L p - p ≤ 6) (hw : w < 29) : nm5 (lww w) (tk_ww w).length = nm5 (lw T p) (tk_we T L p - p) ↔ tk_is T L p w = true := by
  have hb := tk_ww_b w hw
  have g := tk_we_gt hl
  rw [tk_is_i]
  constructor
  · intro e
    obtain ⟨e1, e2⟩ := nm5_inj hb.2 h6 (lww_b w hw) lw_b e
    refine ⟨hl, by omega, fun j hj => ?_⟩
    have := e2 j hj
    unfold lww lw at this
    omega
  · rintro ⟨-, e1, e2⟩
    have e3 : (tk_ww w).length = tk_we T L p - p := by omega
    rw [← e3]
    have : ∀ n, n ≤ (tk_ww w).length → nm5 (lww w) n = nm5 (lw T p) n := by
      intro n
      induction n with
      | zero => intro _; rfl
      | succ n ih =>
        intro hn
        simp only [nm5]
        have z := e2 n (by omega)
        rw [ih (by omega), show lww w n = lw T p n by unfold lww lw; omega]
    exact this _ (Nat.le_refl _)
theorem s_stepK {T : Nat → Int} {L : Nat} {h : xa_H} (S : SH h) {p : Nat} (hL2 : L ≤ 1600) (hpL : p ≤ L) (h4 : xm h 2 4 = (p : Int)) (h5 : xm h 2 5 = (tk_we T L p : Int)) (h6 : xm h 2 6 = nm5 (lw T p) (min (tk_we T L p - p) 6)) (h7 : xm h 2 7 = -1) (hl : tk_l T L p = true) :
    xit (fun s => f_X6_step_L263 2 0 s.1 s.2) xFU ((0, h)) = some (xset h 2 7 (tk_w T L p false)) := by
  have hqL : tk_we T L p ≤ L := rn_le tk_l0 _ _ hpL
  have g := tk_we_gt hl
  by_cases y : 6 < tk_we T L p - p
  · have e : tk_w T L p false = -1 := by
      rcases tk_w_r (T := T) (L := L) (p := p) (b := false) with e | ⟨w, hw, e⟩
      · exact e
      · have a := (tk_is_i.mp ((tk_w_i hw).mp e).2).2.1
        have := tk_ww_b w hw
        omega
    rw [e, ← h7, xset_self]
    refine xit_end ?_ (by unfold xFU; omega)
    show f_X6_step_L263 2 0 0 h = _
    unfold f_X6_step_L263
    simp (disch := omega) only [↓reduceIte, ↓bbind, ↓bxgf, ↓bxpf, ↓bxal, ↓bxas, ↓bxrc, ↓exrc, xbo, xok_xset, xia_xset, xln_xset, xm_xset, xok_xarr, xia_xarr, xln_xarr, xm_xarr, Option.bind_some, Int.reduceToNat, Nat.reduceEqDiff, Nat.reduceSub, Int.reduceLT, Int.reduceLE, Int.reduceEq, Int.reduceNeg, if_true, if_false, ite_true, ite_false, true_and, and_true, false_and, and_false, eq_self, reduceIte, Bool.false_eq_true, Nat.reduceBEq, reduceCtorEq, or_true, true_or, or_false, false_or, xel, Int.toNat_natCast, Int.toNat_add, Int.toNat_mul, ok_2 S, h4, h5]
    rw [w32_id (by omega) (by omega), if_pos (by omega)]
  · rw [show min (tk_we T L p - p) 6 = tk_we T L p - p by omega] at h6
    obtain ⟨W, hW⟩ : ∃ W, W = tk_w T L p false := ⟨_, rfl⟩
    have hr : W = -1 ∨ ∃ w : Nat, w < 29 ∧ W = (w : Int) := by rw [hW]; exact tk_w_r
    have hi : ∀ w : Nat, w < 29 → (W = (w : Int) ↔ tk_is T L p w = true) := fun w hw => by
      rw [hW, tk_w_i hw]
      simp
    rw [← hW]
    have r := xit_seq (f := fun s => f_X6_step_L263 2 0 s.1 s.2) (fun k => ((k : Int), xset h 2 7 (if W < (k : Int) then W else -1))) 29 (xset h 2 7 W) (fun k hk => by
      clear hr
      have i1 : xia h 0 3 (k : Int) = true := ia_3 S (by omega) (by omega)
      have hw := sh_words S hk
      have he := word_eq hl (by omega) hk
      have hik := hi k hk
      show f_X6_step_L263 2 0 (k : Int) (xset h 2 7 (if W < (k : Int) then W else -1)) = _
      unfold f_X6_step_L263
      simp (disch := omega) only [↓reduceIte, ↓bbind, ↓bxgf, ↓bxpf, ↓bxal, ↓bxas, ↓bxrc, ↓exrc, xbo, xok_xset, xia_xset, xln_xset, xm_xset, xok_xarr, xia_xarr, xln_xarr, xm_xarr, Option.bind_some, Int.reduceToNat, Nat.reduceEqDiff, Nat.reduceSub, Int.reduceLT, Int.reduceLE, Int.reduceEq, Int.reduceNeg, if_true, if_false, ite_true, ite_false, true_and, and_true, false_and, and_false, eq_self, reduceIte, Bool.false_eq_true, Nat.reduceBEq, reduceCtorEq, or_true, true_or, or_false, false_or, xel, Int.toNat_natCast, Int.toNat_add, Int.toNat_mul, ok_2 S, pt_2_1 S, h4, h5, h6, i1, hw, xset_xset]
      rw [w32_id (z := ((tk_we T L p : Nat) : Int) - (p : Int)) (by omega) (by omega), if_neg (by omega), if_pos (by omega), w32_id (by omega) (by omega)]
      by_cases q : tk_is T L p k = true
      · rw [if_pos (he.mpr q)]
        have := hik.mpr q
        rw [if_pos (show W < ((k + 1 : Nat) : Int) by omega), this]
        rfl
      · rw [if_neg (fun z => q (he.mp z))]
        have q2 : W ≠ (k : Int) := fun z => q (hik.mp z)
        by_cases q3 : W < (k : Int)
        · rw [if_pos q3, if_pos (by omega)]
          rfl
        · rw [if_neg q3, if_neg (by omega)]
          rfl) (by
      have e : W < ((29 : Nat) : Int) := by
        rcases hr with e | ⟨w, hw, e⟩ <;> omega
      show f_X6_step_L263 2 0 ((29 : Nat) : Int) (xset h 2 7 (if W < ((29 : Nat) : Int) then W else -1)) = _
      rw [if_pos e]
      unfold f_X6_step_L263
      simp (disch := omega) only [↓reduceIte, ↓bbind, ↓bxgf, ↓bxpf, ↓bxal, ↓bxas, ↓bxrc, ↓exrc, xbo, xok_xset, xia_xset, xln_xset, xm_xset, xok_xarr, xia_xarr, xln_xarr, xm_xarr, Option.bind_some, Int.reduceToNat, Nat.reduceEqDiff, Nat.reduceSub, Int.reduceLT, Int.reduceLE, Int.reduceEq, Int.reduceNeg, if_true, if_false, ite_true, ite_false, true_and, and_true, false_and, and_false, eq_self, reduceIte, Bool.false_eq_true, Nat.reduceBEq, reduceCtorEq, or_true, true_or, or_false, false_or, xel, Int.toNat_natCast, Int.toNat_add, Int.toNat_mul, ok_2 S, h4, h5]
      rw [w32_id (by omega) (by omega), if_neg (by omega), if_neg (by omega)]) (by omega)
    have e0 : xset h 2 7 (if W < ((0 : Nat) : Int) then W else -1) = h := by
      have : (if W < ((0 : Nat) : Int) then W else -1) = xm h 2 7 := by
        rw [h7]
        split
        · rcases hr with e | ⟨w, hw, e⟩ <;> omega
        · rfl
      rw [this]
      exact xset_self h 2 7
    try dsimp only at r
    rw [e0] at r
    exact r
theorem s_stepK4 {h : xa_H} (S : SH h) {c : Int} (hc : c ≠ 0) : xit (fun s => f_X6_step_L263 2 c s.1 s.2) xFU ((0, h)) = some h := by
  refine xit_end ?_ (by unfold xFU; omega)
  show f_X6_step_L263 2 c 0 h = _
  unfold f_X6_step_L263
  rw [if_neg hc]
theorem s_stepJ {T : Nat → Int} {L : Nat} {h : xa_H} (C : Cb T L h) {p : Nat} (h5 : xm h 2 5 = (p : Int)) (hpL : p ≤ L) (hb : tk_b T L p = false) (b : Bool) :
    ∃ h', f_X6_step_J96 2 (if b = true then 1 else 0) h = some h' ∧ Cx T L h' p b ∧ Fx DS h h' := by
  obtain ⟨H, hH⟩ : ∃ H, H = xset (xset (xset h 2 4 (p : Int)) 2 6 0) 2 7 (-1) := ⟨_, rfl⟩
  have CH : Cb T L H := by rw [hH]; exact cb_set (cb_set (cb_set C (by omega) (by omega)) (by omega) (by omega)) (by omega) (by omega)
  have FH : Fx DS h H := by rw [hH]; exact (((Fx.refl DS h).set rfl).set rfl).set rfl
  have H4 : xm H 2 4 = (p : Int) := by rw [hH, xm_xset, if_neg (by omega), xm_xset, if_neg (by omega), xm_xset, if_pos ⟨rfl, rfl⟩]
  have H5 : xm H 2 5 = (p : Int) := by rw [hH, xm_xset, if_neg (by omega), xm_xset, if_neg (by omega), xm_xset, if_neg (by omega), h5]
  have H6 : xm H 2 6 = 0 := by rw [hH, xm_xset, if_neg (by omega), xm_xset, if_pos ⟨rfl, rfl⟩]
  have H7 : xm H 2 7 = -1 := by rw [hH, xm_xset, if_pos ⟨rfl, rfl⟩]
  have S := CH.1
  have hL := CH.2.2.1
  have hL2 := CH.2.2.2.1
  have st : f_X6_step_J96 2 (if b = true then 1 else 0) h = if (p : Int) < (L : Int) then (xit (fun s => f_X6_step_L132 2 (if b = true then 1 else 0) s) xFU H).bind fun e53 => f_X6_step_J236 2 (if b = true then 1 else 0) e53 else (xpf H 6 3 2 0).bind fun h109 => some h109 := by
    unfold f_X6_step_J96
    rw [hH] at hL ⊢
    simp (disch := omega) only [↓reduceIte, ↓bbind, ↓bxgf, ↓bxpf, ↓bxal, ↓bxas, ↓bxrc, ↓exrc, xbo, xok_xset, xia_xset, xln_xset, xm_xset, xok_xarr, xia_xarr, xln_xarr, xm_xarr, Option.bind_some, Int.reduceToNat, Nat.reduceEqDiff, Nat.reduceSub, Int.reduceLT, Int.reduceLE, Int.reduceEq, Int.reduceNeg, if_true, if_false, ite_true, ite_false, true_and, and_true, false_and, and_false, eq_self, reduceIte, Bool.false_eq_true, Nat.reduceBEq, reduceCtorEq, or_true, true_or, or_false, false_or, xel, Int.toNat_natCast, Int.toNat_add, Int.toNat_mul, ok_2 C.1, h5]
    simp (disch := omega) only [↓reduceIte, ↓bbind, ↓bxgf, ↓bxpf, ↓bxal, ↓bxas, ↓bxrc, ↓exrc, xbo, xok_xset, xia_xset, xln_xset, xm_xset, xok_xarr, xia_xarr, xln_xarr, xm_xarr, Option.bind_some, Int.reduceToNat, Nat.reduceEqDiff, Nat.reduceSub, Int.reduceLT, Int.reduceLE, Int.reduceEq, Int.reduceNeg, if_true, if_false, ite_true, ite_false, true_and, and_true, false_and, and_false, eq_self, reduceIte, Bool.false_eq_true, Nat.reduceBEq, reduceCtorEq, or_true, true_or, or_false, false_or, xel, Int.toNat_natCast, Int.toNat_add, Int.toNat_mul] at hL
    rw [hL]
  rw [st]
  by_cases q : p < L
  · rw [if_pos (by omega), s_stepW CH H4 H5 H6 hpL]
    simp only [Option.bind_some]
    obtain ⟨G, hG⟩ : ∃ G, G = xset (xset H 2 6 (nm5 (lw T p) (min (tk_we T L p - p) 6))) 2 5 (tk_we T L p : Int) := ⟨_, rfl⟩
    have CG : Cb T L G := by rw [hG]; exact cb_set (cb_set CH (by omega) (by omega)) (by omega) (by omega)
    have FG : Fx DS h G := by rw [hG]; exact (FH.set rfl).set rfl
    have G4 : xm G 2 4 = (p : Int) := by rw [hG, xm_xset, if_neg (by omega), xm_xset, if_neg (by omega), H4]
    have G5 : xm G 2 5 = (tk_we T L p : Int) := by rw [hG, xm_xset, if_pos ⟨rfl, rfl⟩]
    have G6 : xm G 2 6 = nm5 (lw T p) (min (tk_we T L p - p) 6) := by rw [hG, xm_xset, if_neg (by omega), xm_xset, if_pos ⟨rfl, rfl⟩]
    have G7 : xm G 2 7 = -1 := by rw [hG, xm_xset, if_neg (by omega), xm_xset, if_neg (by omega), H7]
    have SG := CG.1
    rw [← hG]
    unfold f_X6_step_J236
    simp (disch := omega) only [↓reduceIte, ↓bbind, ↓bxgf, ↓bxpf, ↓bxal, ↓bxas, ↓bxrc, ↓exrc, xbo, xok_xset, xia_xset, xln_xset, xm_xset, xok_xarr, xia_xarr, xln_xarr, xm_xarr, Option.bind_some, Int.reduceToNat, Nat.reduceEqDiff, Nat.reduceSub, Int.reduceLT, Int.reduceLE, Int.reduceEq, Int.reduceNeg, if_true, if_false, ite_true, ite_false, true_and, and_true, false_and, and_false, eq_self, reduceIte, Bool.false_eq_true, Nat.reduceBEq, reduceCtorEq, or_true, true_or, or_false, false_or, xel, Int.toNat_natCast, Int.toNat_add, Int.toNat_mul, ok_2 SG, G4, G5]
    by_cases ql : tk_l T L p = true
    · have g := tk_we_gt ql
      rw [if_pos (by omega)]
      have vw : tk_v T L p = nm5 (lw T p) (min (tk_we T L p - p) 6) := by
        unfold tk_v
        rw [if_pos q, if_pos ql]
        rfl
      cases b with
      | false =>
        simp only [Bool.false_eq_true, if_false, if_true]
        unfold f_X6_step_J257
        simp (disch := omega) only [↓reduceIte, ↓bbind, ↓bxgf, ↓bxpf, ↓bxal, ↓bxas, ↓bxrc, ↓exrc, xbo, xok_xset, xia_xset, xln_xset, xm_xset, xok_xarr, xia_xarr, xln_xarr, xm_xarr, Option.bind_some, Int.reduceToNat, Nat.reduceEqDiff, Nat.reduceSub, Int.reduceLT, Int.reduceLE, Int.reduceEq, Int.reduceNeg, if_true, if_false, ite_true, ite_false, true_and, and_true, false_and, and_false, eq_self, reduceIte, Bool.false_eq_true, Nat.reduceBEq, reduceCtorEq, or_true, true_or, or_false, false_or, xel, Int.toNat_natCast, Int.toNat_add, Int.toNat_mul, ok_2 SG]
        have S3 : SH (xset G 2 3 1) := SG.set (by decide +kernel)
        rw [s_stepK S3 hL2 hpL (by rw [xm_xset, if_neg (by omega), G4]) (by rw [xm_xset, if_neg (by omega), G5]) (by rw [xm_xset, if_neg (by omega), G6]) (by rw [xm_xset, if_neg (by omega), G7]) ql]
        refine ⟨_, rfl, ⟨cb_set (cb_set CG (by omega) (by omega)) (by omega) (by omega), hpL, hb, ?_, ?_, ?_, ?_, ?_⟩, (FG.set rfl).set rfl⟩
        · rw [xm_xset, if_neg (by omega), xm_xset, if_pos ⟨rfl, rfl⟩, tk_k_w.mpr ⟨rfl, ql⟩]
        · rw [xm_xset, if_neg (by omega), xm_xset, if_neg (by omega), G4]
        · rw [xm_xset, if_neg (by omega), xm_xset, if_neg (by omega), G5, tk_st_l ql]
        · rw [xm_xset, if_neg (by omega), xm_xset, if_neg (by omega), G6, vw]
        · rw [xm_xset, if_pos ⟨rfl, rfl⟩]
      | true =>
        simp only [if_true]
        rw [if_neg (by decide)]
        unfold f_X6_step_J257
        simp (disch := omega) only [↓reduceIte, ↓bbind, ↓bxgf, ↓bxpf, ↓bxal, ↓bxas, ↓bxrc, ↓exrc, xbo, xok_xset, xia_xset, xln_xset, xm_xset, xok_xarr, xia_xarr, xln_xarr, xm_xarr, Option.bind_some, Int.reduceToNat, Nat.reduceEqDiff, Nat.reduceSub, Int.reduceLT, Int.reduceLE, Int.reduceEq, Int.reduceNeg, if_true, if_false, ite_true, ite_false, true_and, and_true, false_and, and_false, eq_self, reduceIte, Bool.false_eq_true, Nat.reduceBEq, reduceCtorEq, or_true, true_or, or_false, false_or, xel, Int.toNat_natCast, Int.toNat_add, Int.toNat_mul, ok_2 SG]
        have S3 : SH (xset G 2 3 4) := SG.set (by decide +kernel)
        rw [s_stepK4 S3 (by decide)]
        refine ⟨_, rfl, ⟨cb_set CG (by omega) (by omega), hpL, hb, ?_, ?_, ?_, ?_, ?_⟩, FG.set rfl⟩
        · rw [xm_xset, if_pos ⟨rfl, rfl⟩]
          unfold tk_k
          rw [if_pos q, if_pos ql, if_pos rfl]
        · rw [xm_xset, if_neg (by omega), G4]
        · rw [xm_xset, if_neg (by omega), G5, tk_st_l ql]
        · rw [xm_xset, if_neg (by omega), G6, vw]
        · rw [xm_xset, if_neg (by omega), G7]
          rfl
    · have g : tk_we T L p = p := by
        refine rn_uniq (Nat.le_refl _) (fun j h1 h2 => by omega) (by simpa using ql) tk_we_stop
      rw [if_neg (by omega)]
      have G5' : xm G 2 5 = (p : Int) := by rw [G5, g]
      have G6' : xm G 2 6 = 0 := by
        rw [G6, g, show min (p - p) 6 = 0 by omega]
        rfl
      rw [s_stepD CG G4 G5' G6' hpL]
      simp only [Option.bind_some]
      obtain ⟨M, hM⟩ : ∃ M, M = xset (xset G 2 6 (tk_nv T p (min (tk_de T L p - p) 4))) 2 5 (tk_de T L p : Int) := ⟨_, rfl⟩
      have CM : Cb T L M := by rw [hM]; exact cb_set (cb_set CG (by omega) (by omega)) (by omega) (by omega)
      have FM : Fx DS h M := by rw [hM]; exact (FG.set rfl).set rfl
      have M4 : xm M 2 4 = (p : Int) := by rw [hM, xm_xset, if_neg (by omega), xm_xset, if_neg (by omega), G4]
      have M5 : xm M 2 5 = (tk_de T L p : Int) := by rw [hM, xm_xset, if_pos ⟨rfl, rfl⟩]
      have M6 : xm M 2 6 = tk_nv T p (min (tk_de T L p - p) 4) := by rw [hM, xm_xset, if_neg (by omega), xm_xset, if_pos ⟨rfl, rfl⟩]
      have M7 : xm M 2 7 = -1 := by rw [hM, xm_xset, if_neg (by omega), xm_xset, if_neg (by omega), G7]
      have SM := CM.1
      have w7 : tk_w T L p b = -1 := by
        by_cases z : tk_w T L p b = -1
        · exact z
        · exact absurd (tk_w_l z).2 ql
      rw [← hM]
      unfold f_X6_step_J411
      simp (disch := omega) only [↓reduceIte, ↓bbind, ↓bxgf, ↓bxpf, ↓bxal, ↓bxas, ↓bxrc, ↓exrc, xbo, xok_xset, xia_xset, xln_xset, xm_xset, xok_xarr, xia_xarr, xln_xarr, xm_xarr, Option.bind_some, Int.reduceToNat, Nat.reduceEqDiff, Nat.reduceSub, Int.reduceLT, Int.reduceLE, Int.reduceEq, Int.reduceNeg, if_true, if_false, ite_true, ite_false, true_and, and_true, false_and, and_false, eq_self, reduceIte, Bool.false_eq_true, Nat.reduceBEq, reduceCtorEq, or_true, true_or, or_false, false_or, xel, Int.toNat_natCast, Int.toNat_add, Int.toNat_mul, ok_2 SM, M4, M5]
      by_cases qd : tk_d T L p = true
      · have gd := tk_de_gt qd
        rw [if_pos (by omega)]
        have vd : tk_v T L p = tk_nv T p (min (tk_de T L p - p) 4) := by
          unfold tk_v
          rw [if_pos q, if_neg ql, if_pos qd]
        have hk : (if (if b = true then (1 : Int) else 0) = 0 then some (xset M 2 3 2) else some (xset M 2 3 4)) = some (xset M 2 3 (tk_k T L p b)) := by
          unfold tk_k
          rw [if_pos q, if_neg ql, if_pos qd]
          cases b <;> rfl
        rw [hk]
        refine ⟨_, rfl, ⟨cb_set CM (by omega) (by omega), hpL, hb, ?_, ?_, ?_, ?_, ?_⟩, FM.set rfl⟩
        · rw [xm_xset, if_pos ⟨rfl, rfl⟩]
        · rw [xm_xset, if_neg (by omega), M4]
        · rw [xm_xset, if_neg (by omega), M5, tk_st_d qd]
        · rw [xm_xset, if_neg (by omega), M6, vd]
        · rw [xm_xset, if_neg (by omega), M7, w7]
      · have gd : tk_de T L p = p := by
          refine rn_uniq (Nat.le_refl _) (fun j h1 h2 => by omega) (by simpa using qd) tk_de_stop
        have i1 : xia M 2 1 (p : Int) = true := ia_1 SM (by omega) (by omega)
        have t := CM.2.1 p (by omega)
        have k3 : tk_k T L p b = 3 := tk_k_s.mpr ⟨q, ql, qd⟩
        have b255 : xand (sx8 (T p)) 255 = T p := by
          have := by_255 (T p).toNat (by omega)
          rw [show (((T p).toNat : Nat) : Int) = T p by omega] at this
          exact this
        have p1 : w32 (((tk_de T L p : Nat) : Int) + 1) = ((p + 1 : Nat) : Int) := by
          rw [gd, w32_id (by omega) (by omega)]
          omega
        rw [if_neg (by omega)]
        simp (disch := omega) only [↓reduceIte, ↓bbind, ↓bxgf, ↓bxpf, ↓bxal, ↓bxas, ↓bxrc, ↓exrc, xbo, xok_xset, xia_xset, xln_xset, xm_xset, xok_xarr, xia_xarr, xln_xarr, xm_xarr, Option.bind_some, Int.reduceToNat, Nat.reduceEqDiff, Nat.reduceSub, Int.reduceLT, Int.reduceLE, Int.reduceEq, Int.reduceNeg, if_true, if_false, ite_true, ite_false, true_and, and_true, false_and, and_false, eq_self, reduceIte, Bool.false_eq_true, Nat.reduceBEq, reduceCtorEq, or_true, true_or, or_false, false_or, xel, Int.toNat_natCast, Int.toNat_add, Int.toNat_mul, ok_2 SM, pt_2_0 SM, M4, M5, i1, t.1, b255, p1]
        refine ⟨_, rfl, ⟨cb_set (cb_set (cb_set CM (by omega) (by omega)) (by omega) (by omega)) (by omega) (by omega), hpL, hb, ?_, ?_, ?_, ?_, ?_⟩, ((FM.set rfl).set rfl).set rfl⟩
        · rw [xm_xset, if_neg (by omega), xm_xset, if_neg (by omega), xm_xset, if_pos ⟨rfl, rfl⟩, k3]
        · rw [xm_xset, if_neg (by omega), xm_xset, if_neg (by omega), xm_xset, if_neg (by omega), M4]
        · rw [xm_xset, if_pos ⟨rfl, rfl⟩, tk_st_s k3]
        · rw [xm_xset, if_neg (by omega), xm_xset, if_pos ⟨rfl, rfl⟩]
          unfold tk_v
          rw [if_pos q, if_neg ql, if_neg qd]
        · rw [xm_xset, if_neg (by omega), xm_xset, if_neg (by omega), xm_xset, if_neg (by omega), M7, w7]
  · rw [if_neg (by omega)]
    simp (disch := omega) only [↓reduceIte, ↓bbind, ↓bxgf, ↓bxpf, ↓bxal, ↓bxas, ↓bxrc, ↓exrc, xbo, xok_xset, xia_xset, xln_xset, xm_xset, xok_xarr, xia_xarr, xln_xarr, xm_xarr, Option.bind_some, Int.reduceToNat, Nat.reduceEqDiff, Nat.reduceSub, Int.reduceLT, Int.reduceLE, Int.reduceEq, Int.reduceNeg, if_true, if_false, ite_true, ite_false, true_and, and_true, false_and, and_false, eq_self, reduceIte, Bool.false_eq_true, Nat.reduceBEq, reduceCtorEq, or_true, true_or, or_false, false_or, xel, Int.toNat_natCast, Int.toNat_add, Int.toNat_mul, ok_2 S]
    refine ⟨_, rfl, ⟨cb_set CH (by omega) (by omega), hpL, hb, ?_, ?_, ?_, ?_, ?_⟩, FH.set rfl⟩
    · rw [xm_xset, if_pos ⟨rfl, rfl⟩, tk_k_e.mpr (by omega)]
    · rw [xm_xset, if_neg (by omega), H4]
    · rw [xm_xset, if_neg (by omega), H5]
      unfold tk_st
      rw [if_neg q]
    · rw [xm_xset, if_neg (by omega), H6]
      unfold tk_v
      rw [if_neg q]
    · rw [xm_xset, if_neg (by omega), H7]
      by_cases z : tk_w T L p b = -1
      · exact z.symm
      · have := (tk_li.mp (tk_w_l z).2).1
        omega
theorem s_step0 {T : Nat → Int} {L : Nat} {h : xa_H} (C : Cb T L h) {q : Nat} (hq : xm h 2 5 = (q : Int)) (hqL : q ≤ L) :
    ∃ h', f_X6_step 2 h = some h' ∧ Cx T L h' (tk_sk T L q) (decide (xm h 2 3 = 1 ∨ xm h 2 3 = 2) && decide (tk_sk T L q = q)) ∧ Fx DS h h' := by
  obtain ⟨p, hp⟩ : ∃ p, p = tk_sk T L q := ⟨_, rfl⟩
  have hpL : p ≤ L := by rw [hp]; exact rn_le tk_b0 _ _ hqL
  have hst : tk_b T L p = false := by rw [hp]; exact tk_sk_stop
  have sb := s_stepB C hq hqL
  rw [← hp]
  rw [← hp] at sb
  have C5 : Cb T L (xset h 2 5 (p : Int)) := cb_set C (by omega) (by omega)
  have h5 : xm (xset h 2 5 (p : Int)) 2 5 = (p : Int) := by rw [xm_xset, if_pos ⟨rfl, rfl⟩]
  have F5 : Fx DS h (xset h 2 5 (p : Int)) := (Fx.refl DS h).set rfl
  have J21 : ∀ s0 : Int, (s0 = 0 ∨ s0 = 1) → f_X6_step_J21 2 s0 h = f_X6_step_J96 2 (if (decide (s0 = 1) && decide (p = q)) = true then 1 else 0) (xset h 2 5 (p : Int)) := by
    intro s0 hs
    unfold f_X6_step_J21
    simp (disch := omega) only [↓reduceIte, ↓bbind, ↓bxgf, ↓bxpf, ↓bxal, ↓bxas, ↓bxrc, ↓exrc, xbo, xok_xset, xia_xset, xln_xset, xm_xset, xok_xarr, xia_xarr, xln_xarr, xm_xarr, Option.bind_some, Int.reduceToNat, Nat.reduceEqDiff, Nat.reduceSub, Int.reduceLT, Int.reduceLE, Int.reduceEq, Int.reduceNeg, if_true, if_false, ite_true, ite_false, true_and, and_true, false_and, and_false, eq_self, reduceIte, Bool.false_eq_true, Nat.reduceBEq, reduceCtorEq, or_true, true_or, or_false, false_or, xel, Int.toNat_natCast, Int.toNat_add, Int.toNat_mul, ok_2 C.1, hq, sb]
    unfold f_X6_step_J79 f_X6_step_J95
    rcases hs with rfl | rfl
    · simp
    · simp (disch := omega) only [↓reduceIte, ↓bbind, ↓bxgf, ↓bxpf, ↓bxal, ↓bxas, ↓bxrc, ↓exrc, xbo, xok_xset, xia_xset, xln_xset, xm_xset, xok_xarr, xia_xarr, xln_xarr, xm_xarr, Option.bind_some, Int.reduceToNat, Nat.reduceEqDiff, Nat.reduceSub, Int.reduceLT, Int.reduceLE, Int.reduceEq, Int.reduceNeg, if_true, if_false, ite_true, ite_false, true_and, and_true, false_and, and_false, eq_self, reduceIte, Bool.false_eq_true, Nat.reduceBEq, reduceCtorEq, or_true, true_or, or_false, false_or, xel, Int.toNat_natCast, Int.toNat_add, Int.toNat_mul, ok_2 C.1]
      by_cases y : p = q
      · have e : (decide (p = q)) = true := by simp [y]
        rw [if_pos (show (p : Int) = (q : Int) by omega)]
        simp only [decide_true, Bool.true_and, e, if_true]
      · have e : (decide (p = q)) = false := by simp [y]
        rw [if_neg (show ¬ (p : Int) = (q : Int) by omega)]
        simp only [decide_true, Bool.true_and, e, Bool.false_eq_true, if_false]
  have fin : ∀ b : Bool, ∃ h', f_X6_step_J96 2 (if b = true then 1 else 0) (xset h 2 5 (p : Int)) = some h' ∧ Cx T L h' p b ∧ Fx DS h h' := by
    intro b
    obtain ⟨h', e1, e2, e3⟩ := s_stepJ C5 h5 hpL hst b
    exact ⟨h', e1, e2, F5.tr e3⟩
  unfold f_X6_step f_X6_step_J16
  simp (disch := omega) only [↓reduceIte, ↓bbind, ↓bxgf, ↓bxpf, ↓bxal, ↓bxas, ↓bxrc, ↓exrc, xbo, xok_xset, xia_xset, xln_xset, xm_xset, xok_xarr, xia_xarr, xln_xarr, xm_xarr, Option.bind_some, Int.reduceToNat, Nat.reduceEqDiff, Nat.reduceSub, Int.reduceLT, Int.reduceLE, Int.reduceEq, Int.reduceNeg, if_true, if_false, ite_true, ite_false, true_and, and_true, false_and, and_false, eq_self, reduceIte, Bool.false_eq_true, Nat.reduceBEq, reduceCtorEq, or_true, true_or, or_false, false_or, xel, Int.toNat_natCast, Int.toNat_add, Int.toNat_mul, ok_2 C.1]
  by_cases y1 : xm h 2 3 = 1
  · rw [if_pos y1, J21 1 (Or.inr rfl)]
    have := fin (decide (xm h 2 3 = 1 ∨ xm h 2 3 = 2) && decide (p = q))
    simpa [y1] using this
  · rw [if_neg y1]
    by_cases y2 : xm h 2 3 = 2
    · rw [if_pos y2, J21 1 (Or.inr rfl)]
      have := fin (decide (xm h 2 3 = 1 ∨ xm h 2 3 = 2) && decide (p = q))
      simpa [y2] using this
    · rw [if_neg y2, J21 0 (Or.inl rfl)]
      have := fin (decide (xm h 2 3 = 1 ∨ xm h 2 3 = 2) && decide (p = q))
      simpa [y1, y2] using this
/-- the next token -/
theorem s_stepS {T : Nat → Int} {L : Nat} {h : xa_H} {p : Nat} {b : Bool} (C : Cx T L h p b) : ∃ h', f_X6_step 2 h = some h' ∧ Cx T L h' (tk_n T L p b).1 (tk_n T L p b).2 ∧ Fx DS h h' := by
  obtain ⟨c1, c2, c3, c4, c5, c6, c7, c8⟩ := C
  obtain ⟨h', e1, e2, e3⟩ := s_step0 c1 c6 (tk_st_le c2)
  rw [c4] at e2
  exact ⟨h', e1, e2, e3⟩
theorem s_step {T : Nat → Int} {L : Nat} {h : xa_H} {p : Nat} {b : Bool} (C : Cx T L h p b) : ∃ h', f_X6_step 2 h = some h' ∧ Cx T L h' (tk_n T L p b).1 (tk_n T L p b).2 ∧ Fx DC h h' := by
  obtain ⟨h', e1, e2, e3⟩ := s_stepS C
  exact ⟨h', e1, e2, DS_DC e3⟩
