theorem c_resume {h : xa_H} {s F1 F2 T2 T3 : Nat} (R : RR h s F1 F2 T2 T3) : CallOK h (f_X11_resume 0 h) (f_X12_resume 173) := by
  have S := rr_S R
  have C := rr_c R
  have hn := rc_n C
  obtain ⟨T, k0, k1, k2⟩ := rr_t R
  obtain ⟨n, en⟩ : ∃ n : Nat, xm h 199 4 = (n : Int) := ⟨(xm h 199 4).toNat, by omega⟩
  have hn6 : n ≤ 6 := by omega
  obtain ⟨k, ek⟩ : ∃ k : Nat, xm h 173 1 = (k : Int) := ⟨(xm h 173 1).toNat, by omega⟩
  obtain ⟨H1, e1⟩ : ∃ H1, H1 = xset h 0 1 0 := ⟨_, rfl⟩
  have m1 : ∀ a j, ¬(a = 0 ∧ j = 1) → xm H1 a j = xm h a j := fun a j y => by rw [e1, xm_xset, if_neg y]
  have S1 : SH H1 := by rw [e1]; exact S.set (by decide +kernel)
  have C1 : Rc H1 s := by rw [e1]; exact C.mv (Nat.le_refl _) (fun _ _ => rfl) (fun a k hd => by have := C.2.1.1; unfold DRc at hd; rw [xm_xset, if_neg (by omega)])
  have bT : ∀ g : xa_H, (∀ j, xm g 174 j = xm h 174 j) → (∀ j, xm g 1 j = xm h 1 j) → RtB g := fun g y1 y2 j hj => by rw [y1, y2]; exact T j hj
  have T1 : RtB H1 := bT H1 (fun j => m1 174 j (by omega)) (fun j => m1 1 j (by omega))
  have en1 : xm H1 199 4 = (n : Int) := (m1 199 4 (by omega)).trans en
  have tk : xrc h 11 0 (f_X11_takeTape 0 h) = some ((k : Int), H1) := by
    unfold xrc
    rw [if_pos (ok_0 S), s_takeTape S, k0, ek, e1]
  obtain ⟨b10, _⟩ : (0 ≤ xm H1 174 0 ∧ xm H1 174 0 < 256) ∧ True := ⟨⟨(T1 0 (by omega)).1, (T1 0 (by omega)).2.1⟩, trivial⟩
  obtain ⟨b11, _⟩ : (0 ≤ xm H1 174 1 ∧ xm H1 174 1 < 256) ∧ True := ⟨⟨(T1 1 (by omega)).1, (T1 1 (by omega)).2.1⟩, trivial⟩
  unfold f_X11_resume
  rw [bnd tk]
  have i3 : xm H1 199 3 = xm h 199 3 := m1 199 3 (by omega)
  have eI : isIm H1 n (xm H1 199 3) k ↔ isIm h n (xm h 199 3) k := by rw [i3]; exact isIm_o (funext fun j => m1 174 j (by omega)) n _ k
  rcases s_isImageC S1 C1 T1 (k := k) en1 hn6 with ⟨e, im⟩ | ⟨e, im⟩
  · have im0 := eI.mp im
    -- the class
    obtain ⟨H2, e2⟩ : ∃ H2, H2 = xset (xset (xset H1 20 0 (256 * xm H1 174 0 + xm H1 174 1)) 20 6 0) 26 2 0 := ⟨_, rfl⟩
    have m2 : ∀ a j, ¬(a = 0 ∧ j = 1) → a ≠ 20 → a ≠ 26 → xm H2 a j = xm h a j := fun a j y1 y2 y3 => by
      rw [e2, xm_xset, if_neg (by omega), xm_xset, if_neg (by omega), xm_xset, if_neg (by omega), m1 a j y1]
    have Sa : SH (xset H1 20 0 (256 * xm H1 174 0 + xm H1 174 1)) := S1.set (by decide +kernel)
    have Sb : SH (xset (xset H1 20 0 (256 * xm H1 174 0 + xm H1 174 1)) 20 6 0) := Sa.set (by decide +kernel)
    have S2 : SH H2 := by rw [e2]; exact Sb.set (by decide +kernel)
    have T2' : RtB H2 := bT H2 (fun j => m2 174 j (by omega) (by omega) (by omega)) (fun j => m2 1 j (by omega) (by omega) (by omega))
    have h7 := C.2.1.1
    have CS2 : CS H2 s := by
      have c1 := C1.2.1
      rw [e2]
      unfold CS at c1 ⊢
      refine ⟨c1.1, c1.2.1, c1.2.2.1, fun j hj => ?_, ?_, fun j hj => ?_⟩
      · rw [xm_xset, if_neg (by omega), xm_xset, if_neg (by omega), xm_xset, if_neg (by omega)]; exact c1.2.2.2.1 j hj
      · rw [xm_xset, if_neg (by omega), xm_xset, if_neg (by omega), xm_xset, if_neg (by omega)]; exact c1.2.2.2.2.1
      · rw [xm_xset, if_neg (by omega), xm_xset, if_neg (by omega), xm_xset, if_neg (by omega)]; exact c1.2.2.2.2.2 j hj
    have lp := s_rsC S2 ((m2 0 5 (by omega) (by omega) (by omega)).trans (rc_s C)) CS2 T2' (n := n) ((m2 s 2 (by omega) (by omega) (by omega)).trans ((rc_2 C).trans en)) hn6
    obtain ⟨H3, e3⟩ : ∃ H3, H3 = rsC H2 n n n n n 0 := ⟨_, rfl⟩
    have S3 : SH H3 := by rw [e3]; exact rsC_S S2 _ _ _ _ _ _
    have m3 : ∀ a j, ¬(a = 0 ∧ j = 1) → a ≠ 20 → a ≠ 26 → ¬(21 ≤ a ∧ a ≤ 24) → xm H3 a j = xm h a j := fun a j y1 y2 y3 y4 => by
      rw [e3, rsC_o H2 n n n n n 0 j (by omega) (by omega) (by omega) (by omega), m2 a j y1 y2 y3]
    rw [← e3] at lp
    have cl : ((xrc H1 11 0 (f_X11_isImage 0 (k : Int) H1)).bind fun r2 => if r2 = 0 then (xrc H1 11 0 (f_X11_refuse 0 5 H1)).bind fun r4 => some ((0 : Int), r4.2) else (xgf H1 11 6 0).bind fun x6 => (xrc H1 11 0 (f_X11_tapePair 0 0 H1)).bind fun r7 => (xpf H1 9 0 x6 r7).bind fun h8 => (xgf h8 11 6 0).bind fun x9 => (xpf h8 9 6 x9 0).bind fun h10 => (xgf h10 11 7 0).bind fun x11 => (xrc h10 4 x11 (f_X4_forget x11 h10)).bind fun r12 => (xit (fun s => f_X11_resume_L48 0 s.1 s.2) xFU (0, r12)).bind fun e37 => some (1, e37)) = some (1, H3) := by
      rw [bnd e, if_neg (show ¬ (1 : Int) = 0 by decide)]
      refine (bnd (xgf_eq (a := 0) (ok_0 S1) (pt_0_6 S1))).trans ?_
      refine (bnd (tp_x S1 T1 (k := 0) (z := 0) (by omega) rfl)).trans ?_
      refine (bnd (xpf_eq (a := 20) (ok_20 S1))).trans ?_
      refine (bnd (xgf_eq (a := 0) (ok_0 Sa) (pt_0_6 Sa))).trans ?_
      refine (bnd (xpf_eq (a := 20) (ok_20 Sa))).trans ?_
      refine (bnd (xgf_eq (a := 0) (ok_0 Sb) (pt_0_7 Sb))).trans ?_
      refine (bnd (v := H2) ?_).trans ?_
      · unfold xrc
        refine (if_pos (ok_26 Sb)).trans ?_
        unfold f_X4_forget
        rw [e2]
        exact (bnd (xpf_eq (a := 26) (ok_26 Sb))).trans rfl
      · exact (bnd lp).trans rfl
    refine (?_ : CallOK h (some (1, H3)) (f_X12_resume 173)).elim (fun v w => ⟨v, by obtain ⟨q1, q2, q3, q4⟩ := w; exact ⟨q1, q2, (cl.trans q3 : _), q4⟩⟩)
    -- the reference
    obtain ⟨M1, f1⟩ : ∃ M1, M1 = xset H3 173 1 0 := ⟨_, rfl⟩
    have n1 : ∀ a j, ¬(a = 0 ∧ j = 1) → a ≠ 20 → a ≠ 26 → ¬(21 ≤ a ∧ a ≤ 24) → ¬(a = 173 ∧ j = 1) → xm M1 a j = xm h a j := fun a j y1 y2 y3 y4 y5 => by
      rw [f1, xm_xset, if_neg y5, m3 a j y1 y2 y3 y4]
    have SM1 : SH M1 := by rw [f1]; exact S3.set (by decide +kernel)
    have CM1 : Rc M1 s := C.mv (by rw [f1, e3, e2, e1]; exact Nat.le_refl _) (fun a _ => by rw [f1, e3, e2, e1]; rfl) (fun a k hd => by unfold DRc at hd; have := C.2.1.1; exact n1 a k (by omega) (by omega) (by omega) (by omega) (by omega))
    have TM1 : RtB M1 := bT M1 (fun j => n1 174 j (by omega) (by omega) (by omega) (by omega) (by omega)) (fun j => n1 1 j (by omega) (by omega) (by omega) (by omega) (by omega))
    have enM : xm M1 199 4 = (n : Int) := (n1 199 4 (by omega) (by omega) (by omega) (by omega) (by omega)).trans en
    have eM : xrc M1 12 173 (f_X12_isImage 173 (k : Int) M1) = some 1 := by
      rcases s_isImageM SM1 CM1 TM1 (k := k) enM hn6 with ⟨y, _⟩ | ⟨_, y⟩
      · exact y
      · refine (y ?_).elim
        rw [n1 199 3 (by omega) (by omega) (by omega) (by omega) (by omega)]
        exact (isIm_o (funext fun j => n1 174 j (by omega) (by omega) (by omega) (by omega) (by omega)) n _ k).mpr im0
    obtain ⟨M2, f2⟩ : ∃ M2, M2 = xset M1 212 0 (256 * xm M1 174 0 + xm M1 174 1) := ⟨_, rfl⟩
    have SM2 : SH M2 := by rw [f2]; exact SM1.set (by decide +kernel)
    have n2 : ∀ a j, a ≠ 212 → xm M2 a j = xm M1 a j := fun a j y => by rw [f2, xm_xset, if_neg (by omega)]
    have TM2 : RtB M2 := fun j hj => by rw [n2 174 j (by omega), n2 1 j (by omega)]; exact TM1 j hj
    have lm := s_rsR SM2 TM2 (n := n) ((n2 199 4 (by omega)).trans enM) hn6
    obtain ⟨M3, f3⟩ : ∃ M3, M3 = rsR M2 n n 0 := ⟨_, rfl⟩
    rw [← f3] at lm
    have SM3 : SH M3 := by rw [f3]; exact rsR_S SM2 _ _ _
    obtain ⟨c10, c11⟩ : 0 ≤ xm M1 174 0 ∧ xm M1 174 0 < 256 := ⟨(TM1 0 (by omega)).1, (TM1 0 (by omega)).2.1⟩
    obtain ⟨d10, d11⟩ : 0 ≤ xm M1 174 1 ∧ xm M1 174 1 < 256 := ⟨(TM1 1 (by omega)).1, (TM1 1 (by omega)).2.1⟩
    have SM4 : SH (xset M3 212 55 0) := SM3.set (by decide +kernel)
    have ref : f_X12_resume 173 H3 = some (1, xset (xset M3 212 55 0) 173 74 0) := by
      unfold f_X12_resume
      refine (bnd (xgf_eq (a := 173) (ok_173 S3) ((m3 173 1 (by omega) (by omega) (by omega) (by omega)).trans ek))).trans ?_
      refine (bnd (xpf_eq (a := 173) (ok_173 S3))).trans ?_
      rw [← f1]
      refine (bnd eM).trans ?_
      rw [if_neg (show ¬ (1 : Int) = 0 by decide)]
      refine (bnd (xgf_eq (a := 173) (ok_173 SM1) (pt_173_50 SM1))).trans ?_
      refine (bnd (xgf_eq (a := 173) (ok_173 SM1) (pt_173_0 SM1))).trans ?_
      refine (bnd (rb_x SM1 (k := 0) (z := 0) (by omega) rfl)).trans ?_
      refine (bnd (xgf_eq (a := 173) (ok_173 SM1) (pt_173_0 SM1))).trans ?_
      refine (bnd (rb_x SM1 (k := 1) (z := 1) (by omega) rfl)).trans ?_
      rw [w32_id (z := 256 * xm M1 174 0) (by omega) (by omega), w32_id (z := 256 * xm M1 174 0 + xm M1 174 1) (by omega) (by omega)]
      refine (bnd (v := M2) (by unfold xas; rw [if_pos (ia_212 SM1 (by omega) (by omega)), f2]; rfl)).trans ?_
      refine (bnd lm).trans ?_
      refine (bnd (xgf_eq (a := 173) (ok_173 SM3) (pt_173_50 SM3))).trans ?_
      refine (bnd (v := xset M3 212 55 0) (by unfold xas; rw [if_pos (ia_212 SM3 (by omega) (by omega))]; rfl)).trans ?_
      exact (bnd (xpf_eq (a := 173) (ok_173 SM4))).trans rfl
    have r174 : ∀ j, xm H2 174 j = xm h 174 j := fun j => m2 174 j (by omega) (by omega) (by omega)
    have s174 : xm M2 174 = xm h 174 := funext fun j => (n2 174 j (by omega)).trans (n1 174 j (by omega) (by omega) (by omega) (by omega) (by omega))
    have top : ∀ a j, ¬(a = 212 ∧ j = 55) → ¬(a = 173 ∧ j = 74) → xm (xset (xset M3 212 55 0) 173 74 0) a j = xm M3 a j := fun a j y1 y2 => by rw [xm_xset, if_neg y2, xm_xset, if_neg y1]
    have m3' : ∀ a j, a ≠ 212 → xm M3 a j = xm M1 a j := fun a j y => by rw [f3, rsR_o M2 n n 0 j y, n2 a j y]
    have m1' : ∀ a j, ¬(a = 173 ∧ j = 1) → xm M1 a j = xm H3 a j := fun a j y => by rw [f1, xm_xset, if_neg y]
    have xN : xn (xset (xset M3 212 55 0) 173 74 0) = xn h := by
      rw [xn_xset, xn_xset, f3]; unfold rsR; rw [xn_xarr, f2, xn_xset, f1, xn_xset, e3]; unfold rsC; rw [xn_xarr, xn_xarr, xn_xarr, xn_xarr, e2, xn_xset, xn_xset, xn_xset, e1, xn_xset]
    have xZ : xz (xset (xset M3 212 55 0) 173 74 0) = xz h := by
      rw [xz_xset, xz_xset, f3]; unfold rsR; rw [xz_xarr, f2, xz_xset, f1, xz_xset, e3]; unfold rsC; rw [xz_xarr, xz_xarr, xz_xarr, xz_xarr, e2, xz_xset, xz_xset, xz_xset, e1, xz_xset]
    have xK : xk (xset (xset M3 212 55 0) 173 74 0) = xk h := by
      rw [xk_xset, xk_xset, f3]; unfold rsR; rw [xk_xarr, f2, xk_xset, f1, xk_xset, e3]; unfold rsC; rw [xk_xarr, xk_xarr, xk_xarr, xk_xarr, e2, xk_xset, xk_xset, xk_xset, e1, xk_xset]
    have SM5 : SH (xset (xset M3 212 55 0) 173 74 0) := SM4.set (by decide +kernel)
    obtain ⟨M5, f5⟩ : ∃ M5, M5 = xset (xset M3 212 55 0) 173 74 0 := ⟨_, rfl⟩
    have x74 : xm M5 173 74 = 0 := by rw [f5, xm_xset, if_pos ⟨rfl, rfl⟩]
    have x55 : xm M5 212 55 = 0 := by rw [f5, xm_xset, if_neg (by omega), xm_xset, if_pos ⟨rfl, rfl⟩]
    rw [← f5] at xN xZ xK SM5 ref top
    refine CallOK.same (v := 1) rfl ref ⟨s, F1, F2, T2, T3, ?_⟩ xN xZ
    refine rr_resume R en hn6 im0 SM5 xN xK (fun a j => ?_) ?_ ?_ ?_ x74 ?_ x55 ?_ ?_ (fun i => ?_) (fun i => ?_) (fun i => ?_) (fun i => ?_) (fun i t hi ht => ?_)
    · by_cases y : (a = 0 ∧ j = 1) ∨ (a = 20 ∧ (j = 0 ∨ j = 6)) ∨ (a = 26 ∧ j = 2) ∨ (21 ≤ a ∧ a ≤ 24) ∨ (a = 173 ∧ (j = 1 ∨ j = 74)) ∨ a = 212
      · omega
      · refine Or.inr (Or.inr (Or.inr (Or.inr (Or.inr (Or.inr ?_)))))
        rw [top a j (by omega) (by omega), m3' a j (by omega), m1' a j (by omega), e3, rsC_o H2 n n n n n 0 j (by omega) (by omega) (by omega) (by omega), e2, xm_xset, if_neg (by omega), xm_xset, if_neg (by omega), xm_xset, if_neg (by omega), m1 a j (by omega)]
    · rw [top 0 1 (by omega) (by omega), m3' 0 1 (by omega), m1' 0 1 (by omega), e3, rsC_o H2 n n n n n 0 1 (by omega) (by omega) (by omega) (by omega), e2, xm_xset, if_neg (by omega), xm_xset, if_neg (by omega), xm_xset, if_neg (by omega), e1, xm_xset, if_pos ⟨rfl, rfl⟩]
    · rw [top 173 1 (by omega) (by omega), m3' 173 1 (by omega), f1, xm_xset, if_pos ⟨rfl, rfl⟩]
    · rw [top 26 2 (by omega) (by omega), m3' 26 2 (by omega), m1' 26 2 (by omega), e3, rsC_o H2 n n n n n 0 2 (by omega) (by omega) (by omega) (by omega), e2, xm_xset, if_pos ⟨rfl, rfl⟩]
    · rw [top 20 6 (by omega) (by omega), m3' 20 6 (by omega), m1' 20 6 (by omega), e3, rsC_o H2 n n n n n 0 6 (by omega) (by omega) (by omega) (by omega), e2, xm_xset, if_neg (by omega), xm_xset, if_pos ⟨rfl, rfl⟩]
    · rw [top 20 0 (by omega) (by omega), m3' 20 0 (by omega), m1' 20 0 (by omega), e3, rsC_o H2 n n n n n 0 0 (by omega) (by omega) (by omega) (by omega), e2, xm_xset, if_neg (by omega), xm_xset, if_neg (by omega), xm_xset, if_pos ⟨rfl, rfl⟩, m1 174 0 (by omega), m1 174 1 (by omega)]
    · rw [top 212 0 (by omega) (by omega), f3]
      unfold rsR rsF
      rw [xm_xarr, if_pos rfl, if_neg (by omega), f2, xm_xset, if_pos ⟨rfl, rfl⟩, n1 174 0 (by omega) (by omega) (by omega) (by omega) (by omega), n1 174 1 (by omega) (by omega) (by omega) (by omega) (by omega)]
    · rw [top 21 i (by omega) (by omega), m3' 21 i (by omega), m1' 21 i (by omega), e3]
      unfold rsC rsA
      rw [xm_xarr, if_neg (by omega), xm_xarr, if_neg (by omega), xm_xarr, if_neg (by omega), xm_xarr, if_pos rfl, r174, m2 21 i (by omega) (by omega) (by omega)]
    · rw [top 22 i (by omega) (by omega), m3' 22 i (by omega), m1' 22 i (by omega), e3]
      unfold rsC rsA
      rw [xm_xarr, if_neg (by omega), xm_xarr, if_neg (by omega), xm_xarr, if_pos rfl, r174, m2 22 i (by omega) (by omega) (by omega)]
    · rw [top 23 i (by omega) (by omega), m3' 23 i (by omega), m1' 23 i (by omega), e3]
      unfold rsC rsP
      rw [xm_xarr, if_neg (by omega), xm_xarr, if_pos rfl, r174, r174, m2 23 i (by omega) (by omega) (by omega)]
    · rw [top 24 i (by omega) (by omega), m3' 24 i (by omega), m1' 24 i (by omega), e3]
      unfold rsC rsM
      rw [xm_xarr, if_pos rfl, r174, m2 24 i (by omega) (by omega) (by omega)]
    · rw [top 212 _ (by omega) (by omega), f3]
      unfold rsR rsF
      rw [xm_xarr, if_pos rfl, show (1 + 9 * i + t - 1) / 9 = i by omega, show (1 + 9 * i + t - 1) % 9 = t by omega, rsv_o s174]
      by_cases y : i < n ∧ t < 3 + n
      · rw [if_pos y, if_pos (by omega)]
      · rw [if_neg y, if_neg (by omega), f2, xm_xset, if_neg (by omega), n1 212 _ (by omega) (by omega) (by omega) (by omega) (by omega)]
  · have im0 : ¬ isIm h n (xm h 199 3) k := fun w => im (eI.mpr w)
    obtain ⟨H2, e2⟩ : ∃ H2, H2 = xset H1 172 5 (w32 (xm H1 172 5 + 1)) := ⟨_, rfl⟩
    have S2 : SH H2 := by rw [e2]; exact S1.set (by decide +kernel)
    have m2 : ∀ a j, a ≠ 0 → a ≠ 172 → xm H2 a j = xm h a j := fun a j z1 z2 => by rw [e2, xm_xset, if_neg (by omega), m1 a j (by omega)]
    obtain ⟨M1, f1⟩ : ∃ M1, M1 = xset H2 173 1 0 := ⟨_, rfl⟩
    have SM1 : SH M1 := by rw [f1]; exact S2.set (by decide +kernel)
    have n1 : ∀ a j, ¬(a = 0 ∧ j = 1) → a ≠ 172 → ¬(a = 173 ∧ j = 1) → xm M1 a j = xm h a j := fun a j y1 y2 y3 => by
      rw [f1, xm_xset, if_neg y3, e2, xm_xset, if_neg (by omega), m1 a j y1]
    have CM1 : Rc M1 s := C.mv (by rw [f1, e2, e1]; exact Nat.le_refl _) (fun a _ => by rw [f1, e2, e1]; rfl) (fun a k hd => by unfold DRc at hd; have := C.2.1.1; exact n1 a k (by omega) (by omega) (by omega))
    have TM1 : RtB M1 := bT M1 (fun j => n1 174 j (by omega) (by omega) (by omega)) (fun j => n1 1 j (by omega) (by omega) (by omega))
    have enM : xm M1 199 4 = (n : Int) := (n1 199 4 (by omega) (by omega) (by omega)).trans en
    have eM : xrc M1 12 173 (f_X12_isImage 173 (k : Int) M1) = some 0 := by
      rcases s_isImageM SM1 CM1 TM1 (k := k) enM hn6 with ⟨_, y⟩ | ⟨y, _⟩
      · refine (im0 ?_).elim
        rw [n1 199 3 (by omega) (by omega) (by omega)] at y
        exact (isIm_o (funext fun j => n1 174 j (by omega) (by omega) (by omega)) n _ k).mp y
      · exact y
    have ref : f_X12_resume 173 H2 = some (0, xset M1 175 5 (w32 (xm M1 175 5 + 1))) := by
      unfold f_X12_resume
      refine (bnd (xgf_eq (a := 173) (ok_173 S2) ((m2 173 1 (by omega) (by omega)).trans ek))).trans ?_
      refine (bnd (xpf_eq (a := 173) (ok_173 S2))).trans ?_
      rw [← f1]
      refine (bnd eM).trans ?_
      rw [if_pos rfl]
      refine (bnd (xgf_eq (a := 173) (ok_173 SM1) (pt_173_9 SM1))).trans ?_
      refine (bnd (v := xm M1 175 5) (by unfold xal; rw [if_pos (ia_175 SM1 (by omega) (by omega))]; rfl)).trans ?_
      exact (bnd (v := xset M1 175 5 (w32 (xm M1 175 5 + 1))) (by unfold xas; rw [if_pos (ia_175 SM1 (by omega) (by omega))]; rfl)).trans rfl
    refine CallOK.same (v := 0) (h1 := H2) ?_ ref ⟨s, F1, F2, T2, T3, ?_⟩ (by rw [f1, e2, e1]; rfl) (by rw [f1, e2, e1]; rfl)
    · refine (bnd e).trans ?_
      rw [if_pos rfl]
      refine (bnd (v := ((-1 : Int), H2)) (by unfold xrc; rw [if_pos (ok_0 S1), s_X11_refuse S1 (by decide) (by decide), e2]; rfl)).trans ?_
      rfl
    · have := rr_takeRef R (w := 5) (by omega)
      rw [f1, e2, e1]
      simpa [xm_xset] using this
