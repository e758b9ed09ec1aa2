/-! ===== the reference's answer to a question ===== -/
theorem wN9 {i : Nat} (h : i < 100000000) : w32 (1 + w32 (9 * (i : Int))) = ((1 + 9 * i : Nat) : Int) := by rw [w32_id (z := 9 * (i : Int)) (by omega) (by omega), w32_id (by omega) (by omega)]; omega
theorem wAd {a b : Nat} (h : a + b < 2000000000) : w32 ((a : Int) + (b : Int)) = ((a + b : Nat) : Int) := by rw [w32_id (by omega) (by omega)]; omega
theorem wS2 {t : Nat} (h : t < 2000000000) : w32 ((t : Int) + 2) = ((t + 2 : Nat) : Int) := by rw [w32_id (by omega) (by omega)]; omega
theorem wS3 {t : Nat} (h : t < 2000000000) : w32 ((t : Int) + 3) = ((t + 3 : Nat) : Int) := by rw [w32_id (by omega) (by omega)]; omega
theorem wP36 {i : Nat} (h : i < 100000000) : w32 (36 + w32 (6 * (i : Int))) = ((36 + i * 6 : Nat) : Int) := by rw [w32_id (z := 6 * (i : Int)) (by omega) (by omega), w32_id (by omega) (by omega)]; omega
theorem wP6 {t : Nat} (h : t < 2000000000) : w32 (6 + (t : Int)) = ((6 + t : Nat) : Int) := by rw [w32_id (by omega) (by omega)]; omega
theorem wM1 {n : Nat} (h : n < 2000000000) : w32 ((n : Int) - 1) = (n : Int) - 1 := by rw [w32_id (by omega) (by omega)]
/-- the reference's cells that facts come from -/
def QM (h H : xa_H) : Prop := SH H ∧ xm H 173 49 = 0 ∧ ∀ a k, ((a = 199 ∧ 3 ≤ k) ∨ (a = 201 ∧ 6 ≤ k) ∨ (a = 206 ∧ 36 ≤ k) ∨ a = 212) → xm H a k = xm h a k
theorem m_had {h H : xa_H} (S : SH H) (e : ∀ k, xm H 212 k = xm h 212 k) {i a : Nat} (h6 : i < 6) (ea : xm h 212 (1 + 9 * i) = (a : Int)) : f_X12_hadBy 173 (i : Int) H = some (a : Int) := by
  have i1 : xia H 0 212 ((1 + 9 * i : Nat) : Int) = true := ia_212 S (by omega) (by omega)
  unfold f_X12_hadBy
  rw [gM S, pt_173_50 S, wN9 (by omega)]
  exact (bnd (xal_eq (a := 212) i1 ((e _).trans ea))).trans rfl
theorem m_want {h H : xa_H} (S : SH H) (e : ∀ k, xm H 212 k = xm h 212 k) {i : Nat} (h6 : i < 6) : f_X12_wantedBy 173 (i : Int) H = some (xm h 212 (1 + 9 * i + 1)) := by
  have i1 : xia H 0 212 ((1 + 9 * i + 1 : Nat) : Int) = true := ia_212 S (by omega) (by omega)
  unfold f_X12_wantedBy
  rw [gM S, pt_173_50 S, wN9 (by omega), wS (by omega)]
  exact (bnd (xal_eq (a := 212) i1 (e _))).trans rfl
theorem m_purse {h H : xa_H} (S : SH H) (e : ∀ k, xm H 212 k = xm h 212 k) {i : Nat} (h6 : i < 6) : f_X12_purseOf 173 (i : Int) H = some (xm h 212 (1 + 9 * i + 2)) := by
  have i1 : xia H 0 212 ((1 + 9 * i + 2 : Nat) : Int) = true := ia_212 S (by omega) (by omega)
  unfold f_X12_purseOf
  rw [gM S, pt_173_50 S, wN9 (by omega), wS2 (by omega)]
  exact (bnd (xal_eq (a := 212) i1 (e _))).trans rfl
theorem m_met {h H : xa_H} (S : SH H) (e : ∀ k, xm H 212 k = xm h 212 k) {i j : Nat} (h6 : i < 6) (j6 : j < 6) : f_X12_metBy 173 (i : Int) (j : Int) H = some (xm h 212 (1 + 9 * i + 3 + j)) := by
  have i1 : xia H 0 212 ((1 + 9 * i + 3 + j : Nat) : Int) = true := ia_212 S (by omega) (by omega)
  unfold f_X12_metBy
  rw [gM S, pt_173_50 S, wN9 (by omega), wS3 (by omega), wAd (by omega)]
  exact (bnd (xal_eq (a := 212) i1 (e _))).trans rfl
theorem m_value {h H : xa_H} (S : SH H) (e : ∀ k, 36 ≤ k → xm H 206 k = xm h 206 k) {i a : Nat} (h6 : i < 6) (a6 : a < 6) : f_X12_valueOf 173 (i : Int) (a : Int) H = some (xm h 206 (36 + (i * 6 + a))) := by
  have i1 : xia H 0 206 ((36 + i * 6 + a : Nat) : Int) = true := ia_206 S (by omega) (by omega)
  unfold f_X12_valueOf
  rw [gM S, pt_173_41 S, wP36 (by omega), wAd (by omega)]
  refine (bnd (xal_eq (a := 206) i1 (e _ (by omega)))).trans ?_
  rw [show 36 + i * 6 + a = 36 + (i * 6 + a) by omega]
theorem m_part {h H : xa_H} {s F1 F2 T2 T3 : Nat} (R : RR h s F1 F2 T2 T3) (Q : QM h H) {n i : Nat} (en : xm h 199 4 = (n : Int)) (hi : i < n) {j : Nat} (hj : j < 8) (h0 : j ≠ 0) (h4 : j ≠ 4) : f_X12_qPartOf 173 (j : Int) (i : Int) H = some (fq h n i j) := by
  have C := rr_c R
  have N := rr_n R
  have n6 := rc_n C
  have m6 := rc_m C
  obtain ⟨S, q49, qe⟩ := Q
  have e2 : ∀ k, xm H 212 k = xm h 212 k := fun k => qe 212 k (by omega)
  obtain ⟨a, ea⟩ : ∃ a : Nat, xm h 212 (1 + 9 * i) = (a : Int) := ⟨(xm h 212 (1 + 9 * i)).toNat, by have := rv_has N (i := i) (by omega); omega⟩
  have a6 : a < 6 := by have := rv_has N (i := i) (by omega); omega
  have hd := m_had S e2 (i := i) (by omega) ea
  have : j = 1 ∨ j = 2 ∨ j = 3 ∨ j = 5 ∨ j = 6 ∨ j = 7 := by omega
  unfold f_X12_qPartOf
  rcases this with rfl | rfl | rfl | rfl | rfl | rfl
  · rw [if_neg (by decide), if_pos (by decide), xM S, hd, bbind, xM S, m_value S (fun k hk => qe 206 k (by omega)) (by omega) a6, bbind, fq_1 ea]
  · rw [if_neg (by decide), if_neg (by decide), if_pos (by decide), gM S, q49, if_pos rfl, xM S, m_want S e2 (by omega), bbind, xM S, hd, bbind, fq_2 ea]
    split <;> rfl
  · have i1 : xia H 0 201 ((6 + a : Nat) : Int) = true := ia_201 S (by omega) (by omega)
    rw [if_neg (by decide), if_neg (by decide), if_neg (by decide), if_pos (by decide), gM S, q49, if_pos rfl, gM S, pt_173_36 S, xM S, hd, bbind, wP6 (by omega), fq_3 ea]
    exact (bnd (xal_eq (a := 201) i1 (qe 201 _ (by omega)))).trans rfl
  · rw [if_neg (by decide), if_neg (by decide), if_neg (by decide), if_neg (by decide), if_neg (by decide), if_pos (by decide), xM S, m_purse S e2 (by omega), bbind, fq_5]
  · have i1 : xia H 0 212 ((0 : Nat) : Int) = true := ia_212 S (by omega) (by omega)
    rw [if_neg (by decide), if_neg (by decide), if_neg (by decide), if_neg (by decide), if_neg (by decide), if_neg (by decide), if_pos (by decide), gM S, pt_173_50 S, fq_6]
    exact (bnd (xal_eq (a := 212) i1 (e2 0))).trans rfl
  · rw [if_neg (by decide), if_neg (by decide), if_neg (by decide), if_neg (by decide), if_neg (by decide), if_neg (by decide), if_neg (by decide), fq_7]
theorem m_many {h H : xa_H} (Q : QM h H) {n : Nat} (en : xm h 199 4 = (n : Int)) : f_X12_holderMany 173 H = some (n : Int) := by
  have i1 : xia H 0 199 ((4 : Nat) : Int) = true := ia_199 Q.1 (by omega) (by omega)
  unfold f_X12_holderMany
  rw [gM Q.1, pt_173_34 Q.1]
  exact (bnd (xal_eq (a := 199) i1 ((Q.2.2 199 4 (by omega)).trans en))).trans rfl
theorem m_of {h H : xa_H} {s F1 F2 T2 T3 : Nat} (R : RR h s F1 F2 T2 T3) (Q : QM h H) {n i : Nat} (en : xm h 199 4 = (n : Int)) (hi : i < n) {a : Int} : f_X12_qOf 173 0 a (i : Int) H = some (if 0 ≤ a ∧ a < 6 then fq h n i (8 + a.toNat) else 0) := by
  have C := rr_c R
  have n6 := rc_n C
  have S := Q.1
  unfold f_X12_qOf
  rw [xM S, m_many Q en, bbind]
  unfold f_X12_isIn
  by_cases a0 : a < 0
  · rw [if_pos (cmp_lt.mpr a0), bbind, if_pos rfl, if_neg (by omega)]
  · rw [if_neg (fun z => a0 (cmp_lt.mp z)), wM1 (by omega)]
    by_cases a1 : (n : Int) - 1 < a
    · rw [if_pos (cmp_gt.mpr a1), bbind, if_pos rfl]
      by_cases a2 : 0 ≤ a ∧ a < 6
      · rw [if_pos a2, fq_o (by omega)]
      · rw [if_neg a2]
    · rw [if_neg (fun z => a1 (cmp_gt.mp z)), bbind, if_neg one_ne, if_pos (by omega)]
      obtain ⟨j, rfl⟩ : ∃ j : Nat, a = (j : Int) := ⟨a.toNat, by omega⟩
      rw [w32_id (z := ((j : Nat) : Int)) (by omega) (by omega), xM S, m_met S (fun k => Q.2.2 212 k (by omega)) (by omega) (by omega), bbind, Int.toNat_natCast, fq_m (by omega)]
def DY2 (a k : Nat) : Bool := a == 247 || (a == 173 && (k == 104 || k == 105 || k == 106))
theorem DY2_nf : nofix DY2 := by unfold nofix; decide +kernel
theorem DW_DY2 {g g' : xa_H} (e : Fx DW g g') : Fx DY2 g g' := e.mono fun x k q => by
  unfold DY2 at q
  unfold DW
  simp at q ⊢
  omega
theorem QM.fx {h H H' : xa_H} (Q : QM h H) (e : Fx DY2 H H') : QM h H' := by
  obtain ⟨S, q49, qe⟩ := Q
  refine ⟨e.sh DY2_nf S, (e.2.2.2 173 49 rfl).trans q49, fun a k hd => ?_⟩
  rw [e.2.2.2 a k (by unfold DY2; simp; omega)]
  exact qe a k hd
theorem tk_J90 {H : xa_H} (S : SH H) {k : Nat} (hk : k ≤ 3) (v : Int) : f_X12_qTakes_J90 173 (k : Int) v H = some (xset H 173 106 0) := by
  unfold f_X12_qTakes_J90
  rw [if_neg (by omega), pMf S]
theorem tk_J75 {H : xa_H} (S : SH H) {k : Nat} (hk : k < 3) (v : Int) : f_X12_qTakes_J75 173 (k : Int) v H = some (xset H 173 106 0) := by
  unfold f_X12_qTakes_J75
  rw [if_neg (by omega), tk_J90 S (by omega)]
theorem tk_J55 {H : xa_H} (S : SH H) {k : Nat} (hk : k < 2) (v z : Int) : f_X12_qTakes_J55 173 (k : Int) v z H = some (xset H 173 106 0) := by
  unfold f_X12_qTakes_J55
  rw [if_neg (by omega), tk_J75 S (by omega)]
theorem tk_J48 {H : xa_H} (S : SH H) {k : Nat} (hk : k < 2) (v u z : Int) : f_X12_qTakes_J48 173 (k : Int) v u z H = some (xset (xset H 173 105 u) 173 106 0) := by
  have S1 : SH (xset H 173 105 u) := S.set (by decide +kernel)
  unfold f_X12_qTakes_J48
  rw [pMf S, tk_J55 S1 hk]
theorem m_takes {H : xa_H} (S : SH H) {w : Nat → Int} {k i : Nat} (hk : k < 6) (hi : i < 6) (e5 : xm H 173 105 = rf w k i) (e6 : xm H 173 106 = if i = 0 then 1 else 0) (hw : if k < 3 then w i = 0 ∨ w i = 1 else -1000000 ≤ w i ∧ w i ≤ 1000000) (hb : k = 3 → -1000000000 ≤ rf w 3 i ∧ rf w 3 i ≤ 1000000000) (hc : k = 2 → 0 ≤ rf w 2 i ∧ rf w 2 i ≤ 6) :
    ∃ H', f_X12_qTakes 173 (k : Int) (w i) (i : Int) H = some H' ∧ Fx DY2 H H' ∧ xm H' 173 105 = rf w k (i + 1) ∧ xm H' 173 106 = 0 := by
  have keep : ∀ v, rf w k (i + 1) = v → rf w k i = v → ∃ H', some (xset H 173 106 0) = some H' ∧ Fx DY2 H H' ∧ xm H' 173 105 = v ∧ xm H' 173 106 = 0 := fun v r1 r2 => ⟨_, rfl, (Fx.refl _ _).set rfl, by rw [xm_xset, if_neg (by omega), e5, r2], by rw [xm_xset, if_pos ⟨rfl, rfl⟩]⟩
  have put : ∀ v u, u = v → ∃ H', some (xset (xset H 173 105 u) 173 106 0) = some H' ∧ Fx DY2 H H' ∧ xm H' 173 105 = v ∧ xm H' 173 106 = 0 := fun v u r => ⟨_, rfl, ((Fx.refl _ _).set rfl).set rfl, by rw [xm_xset, if_neg (by omega), xm_xset, if_pos ⟨rfl, rfl⟩, r], by rw [xm_xset, if_pos ⟨rfl, rfl⟩]⟩
  have kk : k = 0 ∨ k = 1 ∨ k = 2 ∨ k = 3 ∨ k = 4 ∨ k = 5 := by omega
  unfold f_X12_qTakes f_X12_qTakes_J15
  rcases kk with rfl | rfl | rfl | rfl | rfl | rfl
  · have r : rf w 0 (i + 1) = if w i = 1 ∧ rf w 0 i = -1 then (i : Int) else rf w 0 i := rfl
    rw [if_pos (by decide)]
    unfold f_X12_qTakes_J16 f_X12_qTakes_J38
    by_cases y : w i = 1
    · rw [if_pos (cmp_eq.mpr y), if_pos (by decide), if_neg one_ne, gM S, e5]
      by_cases z : rf w 0 i = -1
      · rw [if_pos (cmp_eq.mpr z), tk_J48 S (by omega)]
        exact put _ _ (by rw [r, if_pos ⟨y, z⟩])
      · rw [if_neg (fun q => z (cmp_eq.mp q)), if_neg (by decide), tk_J55 S (by omega), r, if_neg (fun q => z q.2)]
        exact keep _ (by rw [r, if_neg (fun q => z q.2)]) rfl
    · rw [if_neg (fun q => y (cmp_eq.mp q)), if_pos (by decide), if_pos rfl, if_neg (by decide), tk_J55 S (by omega), r, if_neg (fun q => y q.1)]
      exact keep _ (by rw [r, if_neg (fun q => y q.1)]) rfl
  · have r : rf w 1 (i + 1) = if w i = 1 then (i : Int) else rf w 1 i := rfl
    rw [if_pos (by decide)]
    unfold f_X12_qTakes_J16 f_X12_qTakes_J38
    by_cases y : w i = 1
    · rw [if_pos (cmp_eq.mpr y), if_neg (by decide), if_pos (by decide), if_neg one_ne, tk_J48 S (by omega)]
      exact put _ _ (by rw [r, if_pos y])
    · rw [if_neg (fun q => y (cmp_eq.mp q)), if_neg (by decide), if_pos (by decide), if_pos rfl, tk_J55 S (by omega), r, if_neg y]
      exact keep _ (by rw [r, if_neg y]) rfl
  · have r : rf w 2 (i + 1) = if w i = 1 then rf w 2 i + 1 else rf w 2 i := rfl
    have hc2 := hc rfl
    rw [if_pos (by decide)]
    unfold f_X12_qTakes_J16 f_X12_qTakes_J38 f_X12_qTakes_J55
    by_cases y : w i = 1
    · have S1 : SH (xset H 173 105 (w64 (rf w 2 i + 1))) := S.set (by decide +kernel)
      rw [if_pos (cmp_eq.mpr y), if_neg (by decide), if_neg (by decide), if_pos (by decide), if_neg one_ne, gM S, e5, pMf S, tk_J75 S1 (by omega)]
      exact put _ _ (by rw [r, if_pos y, w64_id (by omega) (by omega)])
    · rw [if_neg (fun q => y (cmp_eq.mp q)), if_neg (by decide), if_neg (by decide), if_pos (by decide), if_pos rfl, tk_J75 S (by omega), r, if_neg y]
      exact keep _ (by rw [r, if_neg y]) rfl
  · have r : rf w 3 (i + 1) = rf w 3 i + w i := rfl
    have hb3 := hb rfl
    rw [if_neg (by omega)] at hw
    have S1 : SH (xset H 173 105 (w64 (rf w 3 i + w i))) := S.set (by decide +kernel)
    rw [if_neg (by decide)]
    unfold f_X12_qTakes_J16 f_X12_qTakes_J38 f_X12_qTakes_J55 f_X12_qTakes_J75
    rw [if_neg (by decide), if_neg (by decide), if_neg (by decide), if_pos (by decide), gM S, e5, pMf S, tk_J90 S1 (by omega)]
    exact put _ _ (by rw [r, w64_id (by omega) (by omega)])
  · have r : rf w 4 (i + 1) = if i = 0 then w i else max (rf w 4 i) (w i) := rfl
    rw [if_neg (by decide)]
    unfold f_X12_qTakes_J16 f_X12_qTakes_J38 f_X12_qTakes_J55 f_X12_qTakes_J75 f_X12_qTakes_J90
    rw [if_neg (by decide), if_neg (by decide), if_neg (by decide), if_neg (by decide), if_pos (by decide), gM S, e6]
    by_cases y : i = 0
    · rw [if_pos y, if_neg one_ne, pMf S, pMf (S.set (by decide +kernel))]
      exact put _ _ (by rw [r, if_pos y])
    · rw [if_neg y, if_pos rfl, if_pos (by decide), gM S, e5]
      by_cases z : rf w 4 i < w i
      · rw [if_pos (cmp_gt.mpr z), pMf S, pMf (S.set (by decide +kernel))]
        exact put _ _ (by rw [r, if_neg y]; omega)
      · rw [if_neg (fun q => z (cmp_gt.mp q)), pMf S]
        exact keep _ rfl (by rw [r, if_neg y]; omega)
  · have r : rf w 5 (i + 1) = if i = 0 then w i else min (rf w 5 i) (w i) := rfl
    rw [if_neg (by decide)]
    unfold f_X12_qTakes_J16 f_X12_qTakes_J38 f_X12_qTakes_J55 f_X12_qTakes_J75 f_X12_qTakes_J90
    rw [if_neg (by decide), if_neg (by decide), if_neg (by decide), if_neg (by decide), if_pos (by decide), gM S, e6]
    by_cases y : i = 0
    · rw [if_pos y, if_neg one_ne, pMf S, pMf (S.set (by decide +kernel))]
      exact put _ _ (by rw [r, if_pos y])
    · rw [if_neg y, if_pos rfl, if_neg (by decide), gM S, e5]
      by_cases z : w i < rf w 5 i
      · rw [if_pos (cmp_lt.mpr z), pMf S, pMf (S.set (by decide +kernel))]
        exact put _ _ (by rw [r, if_neg y]; omega)
      · rw [if_neg (fun q => z (cmp_lt.mp q)), pMf S]
        exact keep _ rfl (by rw [r, if_neg y]; omega)
