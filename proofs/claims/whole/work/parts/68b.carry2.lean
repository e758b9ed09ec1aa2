/-! ===== a ring comes about: the loops ===== -/
/-- a ring that was weighed -/
def RQ (H : xa_H) (n q r : Nat) (ρ : Nat → Nat) (th py : Nat → Int) : Prop := SH H ∧ isQ q ∧ (2 ≤ r ∧ r ≤ 6) ∧ xm H q 1 = (r : Int) ∧ (∀ i, i < r → xm H (q + 1) i = (ρ i : Int) ∧ ρ i < n) ∧ (∀ i, i < r → xm H (q + 2) i = py i) ∧ ∀ i, i < r → xm H (q + 3) i = th i
theorem RQ.mv {H H' : xa_H} {n q r : Nat} {ρ : Nat → Nat} {th py : Nat → Int} (R : RQ H n q r ρ th py) (S : SH H') (e : ∀ a k, q ≤ a → a ≤ q + 3 → xm H' a k = xm H a k) : RQ H' n q r ρ th py := by
  obtain ⟨r1, r2, r3, r4, r5, r6, r7⟩ := R
  exact ⟨S, r2, r3, by rw [e _ _ (by omega) (by omega)]; exact r4, fun i hi => ⟨by rw [e _ _ (by omega) (by omega)]; exact (r5 i hi).1, (r5 i hi).2⟩, fun i hi => by rw [e _ _ (by omega) (by omega)]; exact r6 i hi, fun i hi => by rw [e _ _ (by omega) (by omega)]; exact r7 i hi⟩
theorem q_carry {H : xa_H} {n q r : Nat} {ρ : Nat → Nat} {th py : Nat → Int} (hn : n ≤ 6) (R : RQ H n q r ρ th py) : f_X7_carryOut (q : Int) 20 H = some (cH H r ρ th py r) := by
  have hq := R.2.1
  have hq' : q = 148 ∨ q = 153 := hq
  have r6 := R.2.2.1
  have lp := xit_seq (f := fun u : Int × xa_H => f_X7_carryOut_L2 (q : Int) 20 u.1 u.2) (fun i => ((i : Int), cH H r ρ th py i)) r (cH H r ρ th py r) (fun i hi => by
    obtain ⟨A0, e0⟩ : ∃ z, z = cH H r ρ th py i := ⟨_, rfl⟩
    have S0 : SH A0 := by rw [e0]; exact cH_S R.1 i
    have R0 : RQ A0 n q r ρ th py := R.mv S0 (fun a k y1 y2 => by rw [e0]; exact cH_o (by omega) i)
    have pl := prv_lt hi
    have nl := nxt_lt hi
    have hA := (R.2.2.2.2.1 i hi).2
    have hB := (R.2.2.2.2.1 _ pl).2
    obtain ⟨A1, e1⟩ : ∃ z, z = xset A0 21 (ρ i) (th i) := ⟨_, rfl⟩
    obtain ⟨A2, e2⟩ : ∃ z, z = xset A1 23 (ρ i) (npu (xm A0 23 (ρ i)) (py i) (py (nxt r i))) := ⟨_, rfl⟩
    have S1 : SH A1 := by rw [e1]; exact S0.set (fixd_of (by decide +kernel))
    have S2 : SH A2 := by rw [e2]; exact S1.set (fixd_of (by decide +kernel))
    have R1 : RQ A1 n q r ρ th py := R0.mv S1 (fun a k y1 y2 => by rw [e1, xm_xset, if_neg (by omega)])
    show f_X7_carryOut_L2 (q : Int) 20 (i : Int) (cH H r ρ th py i) = some (.inl (((i + 1 : Nat) : Int), cHs (cH H r ρ th py i) r ρ th py i))
    rw [← e0]
    unfold f_X7_carryOut_L2
    rw [gQ S0 hq, R0.2.2.2.1, if_pos (by omega), gQ S0 hq, q_0 S0 hq]
    refine (bnd (xal_eq (q_i1 S0 hq (by omega)) (R0.2.2.2.2.1 i hi).1)).trans ?_
    rw [gQ S0 hq, q_0 S0 hq, xQ S0 hq, s_ahead S0 hq R0.2.2.2.1 hi (by omega), bbind]
    refine (bnd (xal_eq (q_i1 S0 hq (by omega)) (R0.2.2.2.2.1 _ pl).1)).trans ?_
    refine (bnd (xgf_eq (a := 20) (ok_20 S0) (pt_20_1 S0))).trans ?_
    rw [gQ S0 hq, q_5 S0 hq]
    refine (bnd (xal_eq (q_i3 S0 hq (by omega)) (R0.2.2.2.2.2.2 i hi))).trans ?_
    refine (bnd (xas_eq (a := 21) (ia_21 S0 (by omega) (by omega)))).trans ?_
    rw [← e1]
    refine (bnd (xgf_eq (a := 20) (ok_20 S1) (pt_20_3 S1))).trans ?_
    refine (bnd (xgf_eq (a := 20) (ok_20 S1) (pt_20_3 S1))).trans ?_
    refine (bnd (xal_eq (a := 23) (v := xm A0 23 (ρ i)) (ia_23 S1 (by omega) (by omega)) (by rw [e1, xm_xset, if_neg (by omega)]))).trans ?_
    rw [gQ S1 hq, q_4 S1 hq]
    refine (bnd (xal_eq (q_i2 S1 hq (by omega)) (R1.2.2.2.2.2.1 i hi))).trans ?_
    rw [gQ S1 hq, q_4 S1 hq, xQ S1 hq, s_behind S1 hq R1.2.2.2.1 hi (by omega), bbind]
    refine (bnd (xal_eq (q_i2 S1 hq (by omega)) (R1.2.2.2.2.2.1 _ nl))).trans ?_
    refine (bnd (xas_eq (a := 23) (ia_23 S1 (by omega) (by omega)))).trans ?_
    rw [show min 9999 (w32 (w32 (xm A0 23 (ρ i) - py i) + py (nxt r i))) = npu (xm A0 23 (ρ i)) (py i) (py (nxt r i)) from rfl, ← e2]
    refine (bnd (xgf_eq (a := 20) (ok_20 S2) (pt_20_4 S2))).trans ?_
    refine (bnd (xgf_eq (a := 20) (ok_20 S2) (pt_20_4 S2))).trans ?_
    rw [wX6 (by omega) (by omega)]
    refine (bnd (xal_eq (a := 24) (v := xm A0 24 (ρ i * 6 + ρ (prv r i))) (ia_24 S2 (by omega) (by omega)) (by rw [e2, xm_xset, if_neg (by omega), e1, xm_xset, if_neg (by omega)]))).trans ?_
    refine (bnd (xas_eq (a := 24) (ia_24 S2 (by omega) (by omega)))).trans ?_
    rw [wS (by omega), e2, e1]
    rfl) (by
    have S0 : SH (cH H r ρ th py r) := cH_S R.1 r
    have R0 : RQ (cH H r ρ th py r) n q r ρ th py := R.mv S0 (fun a k y1 y2 => cH_o (by omega) r)
    show f_X7_carryOut_L2 (q : Int) 20 (r : Int) (cH H r ρ th py r) = _
    unfold f_X7_carryOut_L2
    rw [gQ S0 hq, R0.2.2.2.1, if_neg (by omega)]) (by omega)
  unfold f_X7_carryOut
  exact (bnd lp).trans rfl
def DM2 (a k : Nat) : Bool := DM a k || a == 214 || a == 215
theorem DM2_nf : nofix DM2 := by unfold nofix; decide +kernel
theorem DM_DM2 {g g' : xa_H} (e : Fx DM g g') : Fx DM2 g g' := e.mono fun x k q => by
  unfold DM2 at q
  simp only [Bool.or_eq_false_iff] at q
  exact q.1.1
theorem DM2_ne {a k : Nat} (h : a ≠ 173) (h2 : a ≠ 247) (h3 : a ≠ 214 ∧ a ≠ 215) : DM2 a k = false := by
  unfold DM2
  rw [DM_ne h h2]
  simp [h3.1, h3.2]
theorem y_ab1 {h H G0 : xa_H} {s F1 F2 n m r : Nat} {ρ : Nat → Nat} (K : KX h s F1 F2 n m) (Q : MV h G0) (R : ST H G0 n m) (M : RMd G0 n r ρ) : ∀ t i, i + t = r → ∀ G, Fx DM2 G0 G → (∀ j, j < i → xm G 214 j = xm G0 212 (1 + 9 * ρ (prv r j)) ∧ xm G 215 j = rPy h G0 r ρ j) → ∀ fu, t < fu →
    ∃ G', xit (fun s => f_X12_comesAbout_L2 173 s.1 s.2) fu ((i : Int), G) = some G' ∧ Fx DM2 G0 G' ∧ ∀ j, j < r → xm G' 214 j = xm G0 212 (1 + 9 * ρ (prv r j)) ∧ xm G' 215 j = rPy h G0 r ρ j := by
  have r6 := M.1
  have n6 := rc_n K.1
  have en := K.2.2.2.2.1
  intro t
  induction t with
  | zero =>
    intro i hit G Z I fu hf
    have S : SH G := Z.sh DM2_nf Q.1
    have MG := M.fx Z rfl (fun _ => rfl)
    have : i = r := by omega
    subst this
    refine ⟨G, xit_end ?_ hf, Z, I⟩
    show f_X12_comesAbout_L2 173 (i : Int) G = _
    unfold f_X12_comesAbout_L2
    rw [gM S, MG.2.1, if_neg (by omega)]
  | succ t ih =>
    intro i hit G Z I fu hf
    obtain ⟨fu, rfl⟩ : ∃ z, fu = z + 1 := ⟨fu - 1, by omega⟩
    have S : SH G := Z.sh DM2_nf Q.1
    have MG := M.fx Z rfl (fun _ => rfl)
    have ir : i < r := by omega
    have pl := prv_lt ir
    have hA := (M.2.2 i ir).2
    have hB := (M.2.2 _ pl).2
    have vB := sv_has R hB
    obtain ⟨b, eb⟩ : ∃ b : Nat, xm G0 212 (1 + 9 * ρ (prv r i)) = (b : Int) := ⟨(xm G0 212 (1 + 9 * ρ (prv r i))).toNat, by omega⟩
    obtain ⟨G1, e1⟩ : ∃ z, z = xset G 214 i (b : Int) := ⟨_, rfl⟩
    have Z1 : Fx DM2 G0 G1 := by rw [e1]; exact Z.set rfl
    have S1 : SH G1 := Z1.sh DM2_nf Q.1
    have M1 := M.fx Z1 rfl (fun _ => rfl)
    have Q1 : MV h G1 := Q.fx Z1 DM2_nf (fun a k _ _ => DM2_ne (by omega) (by omega) (by omega))
    have e12 : ∀ k, xm G1 212 k = xm G0 212 k := fun k => Z1.2.2.2 212 k rfl
    have R1 : ST H G1 n m := R.dm e12
    obtain ⟨G2, p1, p2⟩ := m_pays K Q1 R1 (Fx.refl _ _) hA hB
    have Z2 : Fx DM2 G0 G2 := Z1.tr (DM_DM2 p2)
    have S2 : SH G2 := Z2.sh DM2_nf Q.1
    have val : max 0 (min 999 (fv h 1 (fr h G1 (ρ i) (ρ (prv r i))))) = rPy h G0 r ρ i := by
      have := congrFun (rv_eq (h := h) (G := G0) (G' := G1) (r := r) (ρ := ρ) e12).2.2 i
      exact this
    rw [val] at p1
    obtain ⟨G3, e3⟩ : ∃ z, z = xset G2 215 i (rPy h G0 r ρ i) := ⟨_, rfl⟩
    have Z3 : Fx DM2 G0 G3 := by rw [e3]; exact Z2.set rfl
    have I3 : ∀ j, j < i + 1 → xm G3 214 j = xm G0 212 (1 + 9 * ρ (prv r j)) ∧ xm G3 215 j = rPy h G0 r ρ j := by
      intro j hj
      rw [e3, xm_xset, if_neg (by omega), xm_xset, p2.2.2.2 214 j (DM_ne (by omega) (by omega)), e1, xm_xset]
      by_cases y : j = i
      · rw [if_pos ⟨rfl, y⟩, if_pos ⟨rfl, y⟩, y, eb]
        exact ⟨rfl, rfl⟩
      · rw [if_neg (by omega), if_neg (by omega), p2.2.2.2 215 j (DM_ne (by omega) (by omega)), e1, xm_xset, if_neg (by omega)]
        exact I j (by omega)
    obtain ⟨G', x1, x2⟩ := ih (i + 1) (by omega) G3 Z3 I3 fu (by omega)
    refine ⟨G', ?_, x2⟩
    rw [← x1]
    refine xit_go ?_
    show f_X12_comesAbout_L2 173 (i : Int) G = _
    unfold f_X12_comesAbout_L2
    rw [gM S, MG.2.1, if_pos (by omega), gM S, pt_173_58 S, xM S, m_giver S MG ir, bbind, xM S, m_had S (fun k => Z.2.2.2 212 k rfl) (by omega) eb, bbind]
    refine (bnd (xas_eq (a := 214) (ia_214 S (by omega) (by omega)))).trans ?_
    rw [← e1, gM S1, pt_173_59 S1, gM S1, pt_173_55 S1, m_mem S1 M1 ir, bbind, xM S1, m_giver S1 M1 ir, bbind, xM S1, p1, bbind]
    refine (bnd (xas_eq (a := 215) (ia_215 S2 (by omega) (by omega)))).trans ?_
    rw [← e3, wS (by omega)]
theorem y_ab2 {h H G : xa_H} {s F1 F2 n m r : Nat} {ρ : Nat → Nat} {th py : Nat → Int} (K : KX h s F1 F2 n m) (S : SH G) (R : ST H G n m) (M : RMd G n r ρ) (inj : ∀ a b, a < r → b < r → ρ a = ρ b → a = b) (e4 : ∀ j, j < r → xm G 214 j = th j ∧ xm G 215 j = py j) : xit (fun s => f_X12_comesAbout_L54 173 s.1 s.2) xFU ((0 : Int), G) = some (gG G r ρ th py r) := by
  have r6 := M.1
  have n6 := rc_n K.1
  have en := K.2.2.2.2.1
  have hn : n ≤ 6 := by omega
  refine xit_seq (f := fun u : Int × xa_H => f_X12_comesAbout_L54 173 u.1 u.2) (fun i => ((i : Int), gG G r ρ th py i)) r (gG G r ρ th py r) (fun i hi => ?_) ?_ (by omega)
  · obtain ⟨A0, e0⟩ : ∃ z, z = gG G r ρ th py i := ⟨_, rfl⟩
    have S0 : SH A0 := by rw [e0]; exact gG_S S i
    have o0 : ∀ a k, a ≠ 212 → xm A0 a k = xm G a k := fun a k y => by rw [e0]; exact gG_o y i
    have M0 : RMd A0 n r ρ := ⟨M.1, (o0 _ _ (by omega)).trans M.2.1, fun j hj => ⟨(o0 _ _ (by omega)).trans (M.2.2 j hj).1, (M.2.2 j hj).2⟩⟩
    have pl := prv_lt hi
    have nl := nxt_lt hi
    have hA := (M.2.2 i hi).2
    have hB := (M.2.2 _ pl).2
    have bm := (gG_c hn (fun j hj => (M.2.2 j hj).2) inj (fun a j ha hj => sv_met R ha hj) (th := th) (py := py) i (by omega)).2.2.1 _ _ hA hB
    rw [← e0] at bm
    obtain ⟨A1, e1⟩ : ∃ z, z = xset A0 212 (1 + 9 * ρ i) (th i) := ⟨_, rfl⟩
    obtain ⟨A2, e2⟩ : ∃ z, z = xset A1 212 (1 + 9 * ρ i + 2) (npu (xm A0 212 (1 + 9 * ρ i + 2)) (py i) (py (nxt r i))) := ⟨_, rfl⟩
    have S1 : SH A1 := by rw [e1]; exact S0.set (fixd_of (by decide +kernel))
    have S2 : SH A2 := by rw [e2]; exact S1.set (fixd_of (by decide +kernel))
    have o1 : ∀ a k, a ≠ 212 → xm A1 a k = xm A0 a k := fun a k y => by rw [e1, xm_xset, if_neg (by omega)]
    have o2 : ∀ a k, a ≠ 212 → xm A2 a k = xm A0 a k := fun a k y => by rw [e2, xm_xset, if_neg (by omega), o1 a k y]
    have M1 : RMd A1 n r ρ := ⟨M.1, (o1 _ _ (by omega)).trans M0.2.1, fun j hj => ⟨(o1 _ _ (by omega)).trans (M0.2.2 j hj).1, (M.2.2 j hj).2⟩⟩
    have M2 : RMd A2 n r ρ := ⟨M.1, (o2 _ _ (by omega)).trans M0.2.1, fun j hj => ⟨(o2 _ _ (by omega)).trans (M0.2.2 j hj).1, (M.2.2 j hj).2⟩⟩
    have v5 : ∀ j, j < r → xal A1 0 215 (j : Int) = some (py j) := fun j hj => xal_eq (a := 215) (ia_215 S1 (by omega) (by omega)) (by rw [o1 _ _ (by omega), o0 _ _ (by omega)]; exact (e4 j hj).2)
    have J : ∀ z, z = npu (xm A0 212 (1 + 9 * ρ i + 2)) (py i) (py (nxt r i)) → f_X12_comesAbout_J137L54 173 (i : Int) ((1 + 9 * ρ i : Nat) : Int) 212 ((1 + 9 * ρ i + 2 : Nat) : Int) z A1 = some (.inl (((i + 1 : Nat) : Int), gGs A0 r ρ th py i)) := by
      intro z hz
      have i3 : xia A2 0 212 ((1 + 9 * ρ i + 3 + ρ (prv r i) : Nat) : Int) = true := ia_212 S2 (by omega) (by omega)
      have vm : xm A2 212 (1 + 9 * ρ i + 3 + ρ (prv r i)) = xm A0 212 (1 + 9 * ρ i + 3 + ρ (prv r i)) := by rw [e2, xm_xset, if_neg (by omega), e1, xm_xset, if_neg (by omega)]
      have fin : gGs A0 r ρ th py i = xset A2 212 (1 + 9 * ρ i + 3 + ρ (prv r i)) (nme (xm A0 212 (1 + 9 * ρ i + 3 + ρ (prv r i)))) := by rw [e2, e1]; rfl
      unfold f_X12_comesAbout_J137L54
      refine (bnd (xas_eq (a := 212) (ia_212 S1 (by omega) (by omega)))).trans ?_
      rw [hz, ← e2, xM S2, m_giver S2 M2 hi, bbind, gM S2, pt_173_50 S2, wS3 (by omega), wAd (by omega)]
      refine (bnd (xal_eq (a := 212) i3 vm)).trans ?_
      by_cases y : xm A0 212 (1 + 9 * ρ i + 3 + ρ (prv r i)) < 99
      · rw [if_pos y, gM S2, pt_173_50 S2]
        refine (bnd (xal_eq (a := 212) i3 vm)).trans ?_
        refine (bnd (xas_eq (a := 212) i3)).trans ?_
        have w1 : nme (xm A0 212 (1 + 9 * ρ i + 3 + ρ (prv r i))) = w32 (xm A0 212 (1 + 9 * ρ i + 3 + ρ (prv r i)) + 1) := by
          unfold nme
          rw [w32_id (by omega) (by omega)]
          omega
        rw [wS (by omega), fin, w1]
      · rw [if_neg y, wS (by omega), fin]
        have w1 : nme (xm A0 212 (1 + 9 * ρ i + 3 + ρ (prv r i))) = xm A2 212 (1 + 9 * ρ i + 3 + ρ (prv r i)) := by
          unfold nme
          rw [vm, w32_id (by omega) (by omega)]
          omega
        have same : xset A2 212 (1 + 9 * ρ i + 3 + ρ (prv r i)) (xm A2 212 (1 + 9 * ρ i + 3 + ρ (prv r i))) = A2 := by
          refine xheq rfl rfl rfl (fun a k => ?_)
          rw [xm_xset]
          by_cases y : a = 212 ∧ k = 1 + 9 * ρ i + 3 + ρ (prv r i)
          · rw [if_pos y, y.1, y.2]
          · rw [if_neg y]
        rw [w1, same]
    show f_X12_comesAbout_L54 173 (i : Int) (gG G r ρ th py i) = some (.inl (((i + 1 : Nat) : Int), gGs (gG G r ρ th py i) r ρ th py i))
    rw [← e0]
    unfold f_X12_comesAbout_L54
    rw [gM S0, M0.2.1, if_pos (by omega), gM S0, pt_173_55 S0, m_mem S0 M0 hi, bbind, gM S0, pt_173_50 S0, gM S0, pt_173_58 S0]
    refine (bnd (xal_eq (a := 214) (v := th i) (ia_214 S0 (by omega) (by omega)) (by rw [o0 _ _ (by omega)]; exact (e4 i hi).1))).trans ?_
    rw [wN9 (by omega)]
    refine (bnd (xas_eq (a := 212) (ia_212 S0 (by omega) (by omega)))).trans ?_
    rw [← e1, gM S1, pt_173_50 S1, wS2 (by omega)]
    refine (bnd (xal_eq (a := 212) (v := xm A0 212 (1 + 9 * ρ i + 2)) (ia_212 S1 (by omega) (by omega)) (by rw [e1, xm_xset, if_neg (by omega)]))).trans ?_
    rw [gM S1, pt_173_59 S1, v5 i hi, bbind, gM S1, pt_173_59 S1, gM S1, M1.2.1, exnz, if_neg (by omega), tm_nxt hi (by omega), v5 _ nl, bbind, gM S1, pt_173_50 S1]
    by_cases y : 9999 < w32 (w32 (xm A0 212 (1 + 9 * ρ i + 2) - py i) + py (nxt r i))
    · rw [if_pos y]
      exact J 9999 (by unfold npu; omega)
    · rw [if_neg y]
      exact J _ (by unfold npu; omega)
  · have S0 : SH (gG G r ρ th py r) := gG_S S r
    show f_X12_comesAbout_L54 173 (r : Int) (gG G r ρ th py r) = _
    unfold f_X12_comesAbout_L54
    rw [gM S0, gG_o (by omega), M.2.1, if_neg (by omega)]
theorem m_about {h H G : xa_H} {s F1 F2 n m r : Nat} {ρ : Nat → Nat} (K : KX h s F1 F2 n m) (Q : MV h G) (R : ST H G n m) (M : RMd G n r ρ) (inj : ∀ a b, a < r → b < r → ρ a = ρ b → a = b) :
    ∃ G1, Fx DM2 G G1 ∧ f_X12_comesAbout 173 G = some (gG G1 r ρ (fun i => xm G 212 (1 + 9 * ρ (prv r i))) (rPy h G r ρ) r) := by
  have r6 := M.1
  obtain ⟨G1, x1, x2, x3⟩ := y_ab1 K Q R M r 0 (by omega) G (Fx.refl _ _) (fun j hj => by omega) xFU (by unfold xFU; omega)
  have S1 : SH G1 := x2.sh DM2_nf Q.1
  refine ⟨G1, x2, ?_⟩
  have l2 := y_ab2 K S1 (R.dm (fun k => x2.2.2.2 212 k rfl)) (M.fx x2 rfl (fun _ => rfl)) inj (th := fun i => xm G 212 (1 + 9 * ρ (prv r i))) (py := rPy h G r ρ) x3
  unfold f_X12_comesAbout
  refine (bnd x1).trans ?_
  exact (bnd l2).trans rfl
