/-! ===== what codes come to, in the reference: a step ===== -/
theorem clp_id {v : Int} (h : -1000000 ≤ v ∧ v ≤ 1000000) : clp v = v := by
  unfold clp
  rw [if_neg (by omega), if_neg (by omega)]
def rN (fa : Nat → Int) (r : Int) (vs : List Int) (H : xa_H) : xa_H := xset (xset H 247 (vtop fa r vs).2.length (vtop fa r vs).1) 173 104 (((vtop fa r vs).2.length + 1 : Nat) : Int)
theorem m_joinsN {fa : Nat → Int} {H : xa_H} (S : SH H) {st st' : List Bool} {vs : List Int} {r : Int} (hr : 1 ≤ r ∧ r ≤ 11) (ht : ((r = 10 ∨ r = 11) ∧ ∃ t, st = true :: true :: t ∧ st' = true :: t) ∨ ((7 ≤ r ∧ r ≤ 9) ∧ ∃ t, st = false :: false :: t ∧ st' = true :: t) ∨ ((1 ≤ r ∧ r ≤ 6) ∧ ∃ t, st = false :: false :: t ∧ st' = false :: t)) (ho : okv st vs) (h60 : st.length ≤ 60) (hp : pil H 247 vs) (hl : xm H 173 104 = (vs.length : Int)) :
    f_X12_qJoins 173 r H = some (rN fa r vs H) := by
  have ln := okv_len st vs ho
  unfold rN vtop
  rw [if_neg (by omega), if_neg (by omega)]
  rcases ht with ⟨a, t, rfl, rfl⟩ | ⟨a, t, rfl, rfl⟩ | ⟨a, t, rfl, rfl⟩
  all_goals
    match vs, ho, hp, hl, ln with
    | [_], ho, _, _, _ => exact ho.2.elim
    | b :: a' :: vs, ho, hp, hl, ln =>
      simp only [List.length_cons] at ln h60
      have ob := ho.1
      have oa := ho.2.1
      unfold okv1 at oa ob
      simp only [if_true, if_false, Bool.false_eq_true] at oa ob
      exact m_joins S hl (by omega) (pil_hd hp) (pil_hd (pil_tl hp)) (by omega)
theorem m_not {fa : Nat → Int} {H : xa_H} (S : SH H) {t : List Bool} {vs : List Int} (ho : okv (true :: t) vs) (h60 : (true :: t).length ≤ 60) (hp : pil H 247 vs) (hl : xm H 173 104 = (vs.length : Int)) {β : Type} (f : xa_H → Option β) :
    ((xgf H 12 103 173).bind fun x12 => (xgf H 12 104 173).bind fun x13 => (xgf H 12 103 173).bind fun x14 => (xgf H 12 104 173).bind fun x15 => (xal H 1 x14 (w32 (x15 - 1))).bind fun x16 => (xas H 1 x12 (w32 (x13 - 1)) (w64 (1 - x16))).bind f) = f (rN fa 12 vs H) := by
  have ln := okv_len _ vs ho
  match vs, ho, hp, hl, ln with
  | a :: vs, ho, hp, hl, ln =>
    simp only [List.length_cons] at ln h60
    have oa := ho.1
    unfold okv1 at oa
    rw [if_pos rfl] at oa
    have hl' : xm H 173 104 = ((vs.length + 1 : Nat) : Int) := hl
    have i1 : xia H 1 247 (vs.length : Int) = true := ia_247 S (by omega) (by omega)
    have w1 : w32 (((vs.length + 1 : Nat) : Int) - 1) = (vs.length : Int) := by rw [w32_id (by omega) (by omega)]; omega
    rw [gM S, pt_173_103 S, gM S, hl', gM S, pt_173_103 S, gM S, hl', w1]
    refine (bnd (xal_eq (a := 247) i1 (pil_hd hp))).trans ?_
    refine (bnd (xas_eq (a := 247) i1)).trans ?_
    rw [w64_id (by omega) (by omega), m_one S hl']
    rfl
theorem m_putN {fa : Nat → Int} {H : xa_H} (S : SH H) {vs : List Int} {r v : Int} (h : vs.length ≤ 60) (hl : xm H 173 104 = (vs.length : Int)) (hr : ¬ (r = 60 ∨ r = 12)) (h13 : 13 ≤ r) (hv : v = vput fa r) : f_X12_qPuts 173 v H = some (rN fa r vs H) := by
  rw [m_puts S hl (by omega), hv]
  unfold rN vtop
  rw [if_neg hr, if_pos h13]
/-- a question's code -/
theorem m_qstep {fa : Nat → Int} {H : xa_H} (S : SH H) (hf : fok fa) {w : Int} {i L : Nat} (h98 : xm H 173 98 = (L : Int)) (hi : i < L) (hL : L < 1700) {r : Int} (hc : xm H 245 i = r) (hv : vcode true r) {st st' : List Bool} (ht : tstep st r = some st') {vs : List Int} (ho : okv st vs) (h60 : st.length ≤ 60) (hp : pil H 247 vs) (hl : xm H 173 104 = (vs.length : Int))
    (hq : ∀ j : Nat, j < 8 → (j ≠ 0 ∧ j ≠ 4) → f_X12_qPartOf 173 (j : Int) w H = some (fa j)) (hm : ∀ a : Int, -1000000 ≤ a → a ≤ 1000000 → f_X12_qOf 173 0 a w H = some (if 0 ≤ a ∧ a < 6 then fa (8 + a.toNat) else 0)) :
    f_X12_qTold_L7 173 w (i : Int) H = some (.inl (((i + 1 : Nat) : Int), rN fa r vs H)) := by
  have ln := okv_len st vs ho
  have i1 : xia H 0 245 (i : Int) = true := ia_245 S (by omega) (by omega)
  have wi : w32 ((i : Int) + 1) = ((i + 1 : Nat) : Int) := by rw [w32_id (by omega) (by omega)]; omega
  have hr : r = 60 ∨ r ≤ 47 ∨ (1000 ≤ r ∧ r ≤ 10999) := by
    unfold vcode at hv
    rcases hv with y | ⟨y1, y2, -⟩ | y | ⟨-, y⟩ <;> omega
  have h4 : r ≠ 40 ∧ r ≠ 44 := by
    unfold vcode at hv
    rcases hv with y | ⟨y1, y2, y3⟩ | y | ⟨-, y⟩
    · omega
    · exact y3
    · omega
    · omega
  unfold f_X12_qTold_L7
  rw [gM S, h98, if_pos (by clear wi; omega), gM S, pt_173_97 S]
  refine (bnd (xal_eq (a := 245) i1 hc)).trans ?_
  rcases tstep_cases hv ht with ⟨a, b, rfl⟩ | ⟨rfl, b, rfl⟩ | ⟨rfl, -, t, rfl, rfl⟩ | ⟨rfl, t, rfl, rfl⟩ | a
  · rcases a with a | a
    · rw [if_neg (by omega), xM S, w32_id (z := r - 1000) (by omega) (by omega), m_putN (fa := fa) S (r := r) (by omega) hl (by omega) (by omega) (by unfold vput; rw [if_pos a]), bbind, wi]
    · obtain ⟨j, ej⟩ : ∃ j : Nat, r = ((40 + j : Nat) : Int) := ⟨(r - 40).toNat, by omega⟩
      have wj : w32 (r - 40) = (j : Int) := by rw [w32_id (by omega) (by omega)]; omega
      have hj := hf j (by omega)
      rw [if_pos (by clear wi wj; omega), if_pos (by clear wi wj; omega), if_neg (by clear wi wj; omega), wj, xM S, hq j (by clear wi wj; omega) (by clear wi wj; omega), bbind, s_qClip, bbind, clp_id hj, xM S, m_putN (fa := fa) S (r := r) (by clear wi wj; omega) hl (by clear wi wj; omega) (by clear wi wj; omega) (by
        unfold vput
        rw [if_neg (by clear wi wj; omega), if_pos (by clear wi wj; omega), show (r - 40).toNat = j by clear wi wj; omega]), bbind, wi]
  · rw [if_pos (by decide), if_pos (by decide), if_pos (by decide), if_pos rfl, xM S, m_putN (fa := fa) S (r := 13) (v := 1) (by omega) hl (by omega) (by omega) rfl, bbind, wi]
  · match vs, ho, hp, hl, ln with
    | a :: vs, ho, hp, hl, ln =>
      simp only [List.length_cons] at ln h60
      have oa := ho.1
      unfold okv1 at oa
      rw [if_neg (by decide)] at oa
      have hl' : xm H 173 104 = ((vs.length + 1 : Nat) : Int) := hl
      have i2 : xia H 1 247 (vs.length : Int) = true := ia_247 S (by clear wi; omega) (by clear wi; omega)
      have w1 : w32 (((vs.length + 1 : Nat) : Int) - 1) = (vs.length : Int) := by rw [w32_id (by clear wi; omega) (by clear wi; omega)]; omega
      have w0 : w32 (60 - 60) = 0 := by decide
      have bd0 : -1000000 ≤ vone fa 60 a ∧ vone fa 60 a ≤ 1000000 := by
        unfold vone
        rw [if_pos rfl]
        by_cases y : 0 ≤ a ∧ a < 6
        · rw [if_pos y]; exact hf _ (by clear wi w1; omega)
        · rw [if_neg y]; omega
      rw [if_pos (by decide), if_neg (by decide), gM S, pt_173_103 S, gM S, hl', gM S, pt_173_103 S, gM S, hl', w1]
      refine (bnd (xal_eq (a := 247) i2 (pil_hd hp))).trans ?_
      rw [w0, xM S, hm a oa.1 oa.2, bbind, s_qClip, bbind]
      refine (bnd (xas_eq (a := 247) i2)).trans ?_
      rw [m_one S hl', wi, show clp (if 0 ≤ a ∧ a < 6 then fa (8 + a.toNat) else 0) = vone fa 60 a from clp_id bd0]
      rfl
  · rw [if_pos (by decide), if_pos (by decide), if_pos (by decide), if_neg (by decide), if_pos rfl, m_not (fa := fa) S ho h60 hp hl, wi]
  · have r11 : 1 ≤ r ∧ r ≤ 11 := by
      rcases a with ⟨a, -⟩ | ⟨a, -⟩ | ⟨a, -⟩ <;> omega
    rw [if_pos (by omega), if_pos (by omega), if_pos (by omega), if_neg (by omega), if_neg (by omega), xM S, m_joinsN (fa := fa) S r11 a ho h60 hp hl, bbind, wi]
/-- a code of the case's formula -/
theorem m_cstep {fa : Nat → Int} {H : xa_H} (S : SH H) {w : Int} {wh i : Nat} {E : Int} (hw : wh < 2) (h210 : xm H 210 (2 + wh) = E) (hi : (i : Int) < E) (hE : E ≤ 1600) {r : Int} (hc : xm H 211 (1600 + i) = r) (hv : vcode false r) {st st' : List Bool} (ht : tstep st r = some st') {vs : List Int} (ho : okv st vs) (h60 : st.length ≤ 60) (hp : pil H 247 vs) (hl : xm H 173 104 = (vs.length : Int))
    (hq : ∀ j : Nat, j < 7 → f_X12_qPartOf 173 (j : Int) w H = some (fa j)) :
    f_X12_codesTell_L14 173 (wh : Int) w (i : Int) H = some (.inl (((i + 1 : Nat) : Int), rN fa r vs H)) := by
  have ln := okv_len st vs ho
  have i1 : xia H 0 211 ((1600 + i : Nat) : Int) = true := ia_211 S (by omega) (by omega)
  have i2 : xia H 0 210 ((2 + wh : Nat) : Int) = true := ia_210 S (by omega) (by omega)
  have wi : w32 ((i : Int) + 1) = ((i + 1 : Nat) : Int) := by rw [w32_id (by omega) (by omega)]; omega
  have w2 : w32 (2 + (wh : Int)) = ((2 + wh : Nat) : Int) := by rw [w32_id (by clear wi; omega) (by clear wi; omega)]; omega
  have w3 : w32 (1600 + (i : Int)) = ((1600 + i : Nat) : Int) := by rw [w32_id (by clear wi w2; omega) (by clear wi w2; omega)]; omega
  have hr : r ≤ 46 ∨ (1000 ≤ r ∧ r ≤ 10999) := by
    unfold vcode at hv
    rcases hv with y | ⟨y1, y2, y3⟩ | y | ⟨y, -⟩
    · clear wi w2 w3; omega
    · have y4 : r ≠ 47 := by simpa using y3
      clear wi w2 w3; omega
    · clear wi w2 w3; omega
    · cases y
  unfold f_X12_codesTell_L14
  rw [gM S, pt_173_45 S, w2]
  refine (bnd (xal_eq (a := 210) i2 h210)).trans ?_
  rw [if_pos hi, gM S, pt_173_46 S, w3]
  refine (bnd (xal_eq (a := 211) i1 hc)).trans ?_
  clear w2 w3
  rcases tstep_cases hv ht with ⟨a, b, rfl⟩ | ⟨rfl, b, rfl⟩ | ⟨rfl, y, t, rfl, rfl⟩ | ⟨rfl, t, rfl, rfl⟩ | a
  · rcases a with a | a
    · rw [if_neg (by omega), xM S, w32_id (z := r - 1000) (by omega) (by omega), m_putN (fa := fa) S (r := r) (by omega) hl (by omega) (by omega) (by unfold vput; rw [if_pos a]), bbind, wi]
    · obtain ⟨j, ej⟩ : ∃ j : Nat, r = ((40 + j : Nat) : Int) := ⟨(r - 40).toNat, by omega⟩
      have wj : w32 (r - 40) = (j : Int) := by rw [w32_id (by omega) (by omega)]; omega
      rw [if_pos (by clear wi wj; omega), if_neg (by clear wi wj; omega), wj, xM S, hq j (by clear wi wj; omega), bbind, xM S, m_putN (fa := fa) S (r := r) (by clear wi wj; omega) hl (by clear wi wj; omega) (by clear wi wj; omega) (by
        unfold vput
        rw [if_neg (by clear wi wj; omega), if_pos (by clear wi wj; omega), show (r - 40).toNat = j by clear wi wj; omega]), bbind, wi]
  · rw [if_pos (by decide), if_pos (by decide), if_pos rfl, xM S, m_putN (fa := fa) S (r := 13) (v := 1) (by omega) hl (by omega) (by omega) rfl, bbind, wi]
  · cases y
  · rw [if_pos (by decide), if_pos (by decide), if_neg (by decide), if_pos rfl, m_not (fa := fa) S ho h60 hp hl, wi]
  · have r11 : 1 ≤ r ∧ r ≤ 11 := by
      rcases a with ⟨a, -⟩ | ⟨a, -⟩ | ⟨a, -⟩ <;> omega
    rw [if_pos (by omega), if_pos (by omega), if_neg (by omega), if_neg (by omega), xM S, m_joinsN (fa := fa) S r11 a ho h60 hp hl, bbind, wi]
/-- a question, for a holder -/
theorem m_qTold {fa : Nat → Int} {h : xa_H} (S : SH h) (hf : fok fa) {w : Int} {L : Nat} (h98 : xm h 173 98 = (L : Int)) (hL : L < 1700) {c : Nat → Int} (hc : ∀ i, i < L → xm h 245 i = c i ∧ vcode true (c i)) {t : Bool} (ht : trun c L [] = some [t]) {v : Int} (ev : vrun fa c L = [v])
    (hq : ∀ H, Fx DW h H → ∀ j : Nat, j < 8 → (j ≠ 0 ∧ j ≠ 4) → f_X12_qPartOf 173 (j : Int) w H = some (fa j)) (hm : ∀ H, Fx DW h H → ∀ a : Int, -1000000 ≤ a → a ≤ 1000000 → f_X12_qOf 173 0 a w H = some (if 0 ≤ a ∧ a < 6 then fa (8 + a.toNat) else 0)) :
    f_X12_qTold 173 w h = some (v, rH h fa c L) := by
  have S' : ∀ n, SH (rH h fa c n) := fun n => (rH_f h fa c n).sh DW_nf S
  have lp := xit_seq (f := fun s : Int × xa_H => f_X12_qTold_L7 173 w s.1 s.2) (fun n => ((n : Int), rH h fa c n)) L (rH h fa c L) (fun i hi => by
    obtain ⟨s, es⟩ := trun_pre c i (L - i) (st := []) (st' := [t]) (by rw [show i + (L - i) = L by omega]; exact ht)
    obtain ⟨s', e1, e2⟩ := trun_next hi ht es
    have hv : ∀ j, j < i → vcode true (c j) := fun j hj => (hc j (by omega)).2
    have F := rH_f h fa c i
    exact m_qstep (S' i) hf ((F.2.2.2 173 98 rfl).trans h98) hi hL ((F.2.2.2 245 i rfl).trans (hc i hi).1) (hc i hi).2 e1 (vrun_ok hf i hv es) (trun_len i hv es) (rH_p i) (rH_l i) (hq _ F) (hm _ F)) (by
    have F := rH_f h fa c L
    show f_X12_qTold_L7 173 w (L : Int) (rH h fa c L) = _
    unfold f_X12_qTold_L7
    rw [gM (S' L), (F.2.2.2 173 98 rfl).trans h98, if_neg (by omega)]) (by omega)
  unfold f_X12_qTold
  rw [pMf S]
  refine (bnd lp).trans ?_
  have p := rH_p (h := h) (fa := fa) (c := c) L
  rw [ev] at p
  have i0 : xia (rH h fa c L) 1 247 ((0 : Nat) : Int) = true := ia_247 (S' L) (by omega) (by omega)
  rw [gM (S' L), pt_173_103 (S' L)]
  exact (bnd (xal_eq (a := 247) i0 (pil_hd p))).trans rfl
theorem m_codesTell {fa : Nat → Int} {h : xa_H} (S : SH h) (hf : fok fa) {w : Int} {wh a L : Nat} (hw : wh < 2) (h209 : xm h 209 (2 + wh) = (a : Int)) (h210 : xm h 210 (2 + wh) = ((a + L : Nat) : Int)) (hL : a + L ≤ 1600) {c : Nat → Int} (hc : ∀ i, i < L → xm h 211 (1600 + a + i) = c i ∧ vcode false (c i)) {t : Bool} (ht : trun c L [] = some [t]) {v : Int} (ev : vrun fa c L = [v])
    (hq : ∀ H, Fx DW h H → ∀ j : Nat, j < 7 → f_X12_qPartOf 173 (j : Int) w H = some (fa j)) :
    f_X12_codesTell 173 (wh : Int) w h = some (v, rH h fa c L) := by
  have S' : ∀ n, SH (rH h fa c n) := fun n => (rH_f h fa c n).sh DW_nf S
  have lp := xit_seq (f := fun s : Int × xa_H => f_X12_codesTell_L14 173 (wh : Int) w s.1 s.2) (fun n => (((a + n : Nat) : Int), rH h fa c n)) L (rH h fa c L) (fun i hi => by
    obtain ⟨s, es⟩ := trun_pre c i (L - i) (st := []) (st' := [t]) (by rw [show i + (L - i) = L by omega]; exact ht)
    obtain ⟨s', e1, e2⟩ := trun_next hi ht es
    have hv : ∀ j, j < i → vcode false (c j) := fun j hj => (hc j (by omega)).2
    have F := rH_f h fa c i
    exact m_cstep (S' i) hw ((F.2.2.2 210 (2 + wh) rfl).trans h210) (by omega) (by omega) ((F.2.2.2 211 _ rfl).trans (by rw [show 1600 + (a + i) = 1600 + a + i by omega]; exact (hc i hi).1)) (hc i hi).2 e1 (vrun_ok hf i hv es) (trun_len i hv es) (rH_p i) (rH_l i) (hq _ F)) (by
    have F := rH_f h fa c L
    have i2 : xia (rH h fa c L) 0 210 ((2 + wh : Nat) : Int) = true := ia_210 (S' L) (by omega) (by omega)
    have w2 : w32 (2 + (wh : Int)) = ((2 + wh : Nat) : Int) := by rw [w32_id (by omega) (by omega)]; omega
    show f_X12_codesTell_L14 173 (wh : Int) w ((a + L : Nat) : Int) (rH h fa c L) = _
    unfold f_X12_codesTell_L14
    rw [gM (S' L), pt_173_45 (S' L), w2]
    refine (bnd (xal_eq (a := 210) i2 ((F.2.2.2 210 (2 + wh) rfl).trans h210))).trans ?_
    rw [if_neg (by omega)]) (by omega)
  have S1 : SH (xset h 173 104 0) := S.set (by decide +kernel)
  have i9 : xia (xset h 173 104 0) 0 209 ((2 + wh : Nat) : Int) = true := ia_209 S1 (by omega) (by omega)
  have w9 : w32 (2 + (wh : Int)) = ((2 + wh : Nat) : Int) := by rw [w32_id (by omega) (by omega)]; omega
  unfold f_X12_codesTell
  rw [pMf S, gM S1, pt_173_44 S1, w9]
  refine (bnd (xal_eq (a := 209) (v := (a : Int)) i9 (by rw [xm_xset, if_neg (by omega)]; exact h209))).trans ?_
  refine (bnd lp).trans ?_
  have p := rH_p (h := h) (fa := fa) (c := c) L
  rw [ev] at p
  have i0 : xia (rH h fa c L) 1 247 ((0 : Nat) : Int) = true := ia_247 (S' L) (by omega) (by omega)
  rw [gM (S' L), pt_173_103 (S' L)]
  exact (bnd (xal_eq (a := 247) i0 (pil_hd p))).trans rfl
