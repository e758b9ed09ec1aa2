/-! ===== a ring is closed ===== -/
theorem kpC_cg {H H' : xa_H} {v r f : Int} (e0 : xm H' 20 0 = xm H 20 0) (e6 : xm H' 20 6 = xm H 20 6) (e25 : ∀ k, xm H' 25 k = xm H 25 k) : (∀ k, xm (kpC H' v r f) 25 k = xm (kpC H v r f) 25 k) ∧ xm (kpC H' v r f) 20 6 = xm (kpC H v r f) 20 6 := by
  unfold kpC
  rw [e0, e6]
  by_cases y : xm H 20 6 < 30
  · rw [if_pos y, if_pos y]
    refine ⟨fun k => ?_, ?_⟩
    · rw [xm_xset, xm_xset, xm_xset, xm_xset, e25]
    · rw [xm_xset, if_pos ⟨rfl, rfl⟩, xm_xset, if_pos ⟨rfl, rfl⟩]
  · rw [if_neg y, if_neg y]
    refine ⟨fun k => ?_, ?_⟩
    · rw [xm_xset, xm_xset, xm_xset, xm_xset, xm_xset, xm_xset, xm_xcpy, xm_xcpy, e25, e25]
    · rw [xm_xset, if_pos ⟨rfl, rfl⟩, xm_xset, if_pos ⟨rfl, rfl⟩]
theorem cH_cg {H H' : xa_H} {r : Nat} {ρ : Nat → Nat} {th py : Nat → Int} (e : ∀ a k, a = 21 ∨ a = 23 ∨ a = 24 → xm H' a k = xm H a k) : ∀ i a k, a = 21 ∨ a = 23 ∨ a = 24 → xm (cH H' r ρ th py i) a k = xm (cH H r ρ th py i) a k
  | 0, a, k, h => e a k h
  | i + 1, a, k, h => by
    have ih := cH_cg e (r := r) (ρ := ρ) (th := th) (py := py) i
    show xm (cHs (cH H' r ρ th py i) r ρ th py i) a k = xm (cHs (cH H r ρ th py i) r ρ th py i) a k
    unfold cHs
    rw [xm_xset, xm_xset, xm_xset, xm_xset, xm_xset, xm_xset, ih 23 _ (by omega), ih 24 _ (by omega), ih a k h]
/-- the class's heap behind it -/
def clC (H : xa_H) (V : Int) (r : Nat) (ρ : Nat → Nat) (th py : Nat → Int) : xa_H := if V = 0 then cH (kpC H V (r : Int) (ρ 0 : Int)) r ρ th py r else kpC H V (r : Int) (ρ 0 : Int)
theorem clC_n (H : xa_H) (V : Int) (r : Nat) (ρ : Nat → Nat) (th py : Nat → Int) : xn (clC H V r ρ th py) = xn H ∧ xz (clC H V r ρ th py) = xz H ∧ xk (clC H V r ρ th py) = xk H := by
  unfold clC
  obtain ⟨a1, a2, a3⟩ := kpC_n H V (r : Int) (ρ 0 : Int)
  split
  · obtain ⟨b1, b2, b3⟩ := cH_n (H := kpC H V (r : Int) (ρ 0 : Int)) (r := r) (ρ := ρ) (th := th) (py := py) r
    exact ⟨b1.trans a1, b2.trans a2, b3.trans a3⟩
  · exact ⟨a1, a2, a3⟩
theorem clC_o {H : xa_H} {V : Int} {r : Nat} {ρ : Nat → Nat} {th py : Nat → Int} {a k : Nat} (h : a < 20 ∨ 25 < a) : xm (clC H V r ρ th py) a k = xm H a k := by
  unfold clC
  split
  · rw [cH_o (by omega), kpC_o (by omega) (by omega)]
  · rw [kpC_o (by omega) (by omega)]
theorem clC_S {H : xa_H} {V : Int} {r : Nat} {ρ : Nat → Nat} {th py : Nat → Int} (S : SH H) : SH (clC H V r ρ th py) := by
  have SK : SH (kpC H V (r : Int) (ρ 0 : Int)) := by
    refine S.fixed (by rw [(kpC_n H V (r : Int) (ρ 0 : Int)).1]; exact S.1) (fun a _ => by rw [(kpC_n H V (r : Int) (ρ 0 : Int)).2.2]) (fun a k hf => kpC_o ?_ ?_)
    · rintro rfl
      rw [show fixd 25 k = false from fixd_of (by decide +kernel)] at hf
      cases hf
    · rintro ⟨rfl, rfl⟩
      revert hf
      decide +kernel
  unfold clC
  split
  · exact cH_S SK r
  · exact SK
theorem c_close {H : xa_H} {n r : Nat} {ρ : Nat → Nat} {th py : Nat → Int} (hn : n ≤ 6) (R : RQ H n 153 r ρ th py) {V : Int} (eV : xm H 153 2 = V) (hV : 0 ≤ V ∧ V ≤ 4) (hc : 0 ≤ xm H 20 6 ∧ xm H 20 6 ≤ 30) (ha : 0 ≤ xm H 20 0 ∧ xm H 20 0 ≤ 9999) : f_X11_closeRing 0 H = some (clC H V r ρ th py) := by
  have S := R.1
  have r6 := R.2.2.1
  have h0 := R.2.2.2.2.1 0 (by omega)
  obtain ⟨K, eK⟩ : ∃ z, z = kpC H V (r : Int) (ρ 0 : Int) := ⟨_, rfl⟩
  have SK : SH K := by
    rw [eK]
    refine S.fixed (by rw [(kpC_n H V (r : Int) (ρ 0 : Int)).1]; exact S.1) (fun a _ => by rw [(kpC_n H V (r : Int) (ρ 0 : Int)).2.2]) (fun a k hf => kpC_o ?_ ?_)
    · rintro rfl
      rw [show fixd 25 k = false from fixd_of (by decide +kernel)] at hf
      cases hf
    · rintro ⟨rfl, rfl⟩
      revert hf
      decide +kernel
  have RK : RQ K n 153 r ρ th py := R.mv SK (fun a k y1 y2 => by rw [eK]; exact kpC_o (by omega) (by omega))
  have VK : xm K 153 2 = V := by rw [eK, kpC_o (by omega) (by omega)]; exact eV
  unfold f_X11_closeRing clC
  rw [g0k S, pt_0_6 S, g0k S, pt_0_9 S]
  refine (bnd (xgf_eq (a := 153) (ok_153 S) eV)).trans ?_
  rw [g0k S, pt_0_9 S]
  refine (bnd (xgf_eq (a := 153) (ok_153 S) R.2.2.2.1)).trans ?_
  rw [g0k S, pt_0_9 S]
  refine (bnd (xgf_eq (a := 153) (ok_153 S) (pt_153_0 S))).trans ?_
  refine (bnd (xal_eq (a := 154) (i := 0) (ia_154 S (by omega) (by omega)) h0.1)).trans ?_
  refine (bnd (v := K) (by rw [show xrc H 9 20 (f_X9_keep 20 V (r : Int) (ρ 0 : Int) H) = f_X9_keep 20 V (r : Int) (ρ 0 : Int) H from if_pos (ok_20 S), c_keep S hc ha hV (by omega) (by omega), eK])).trans ?_
  rw [← eK, g0k SK, pt_0_9 SK]
  refine (bnd (xgf_eq (a := 153) (ok_153 SK) VK)).trans ?_
  by_cases y : V = 0
  · rw [if_pos y, if_pos y, g0k SK, pt_0_9 SK, g0k SK, pt_0_6 SK]
    refine (bnd (v := cH K r ρ th py r) ?_).trans rfl
    rw [show xrc K 7 153 (f_X7_carryOut 153 20 K) = f_X7_carryOut ((153 : Nat) : Int) 20 K from if_pos (ok_153 SK), q_carry hn RK]
  · rw [if_neg y, if_neg y]
/-- the reference closes a ring -/
def clM (V : Int) (G : xa_H) : Option xa_H := if V = 0 then (xrc G 12 173 (f_X12_comesAbout 173 G)).bind fun r7 => xrc r7 12 173 (f_X12_isKept 173 V r7) else xrc G 12 173 (f_X12_isKept 173 V G)
def DC8 (a k : Nat) : Bool := DM2 a k || a == 212
theorem m_close {h H G : xa_H} {s F1 F2 n m r : Nat} {ρ : Nat → Nat} (K : KX h s F1 F2 n m) (Q : MV h G) (R : ST H G n m) (M : RMd G n r ρ) (inj : ∀ a b, a < r → b < r → ρ a = ρ b → a = b) {V : Int} (hV : 0 ≤ V ∧ V ≤ 4) (h0 : V = 0 → rV h G r ρ = 0) :
    ∃ G', clM V G = some G' ∧ Fx DC8 G G' ∧ ST (clC H V r ρ (fun i => xm G 212 (1 + 9 * ρ (prv r i))) (rPy h G r ρ)) G' n m := by
  have S := Q.1
  have r6 := M.1
  have n6 := rc_n K.1
  have en := K.2.2.2.2.1
  have hn : n ≤ 6 := by omega
  have f0 := (M.2.2 0 (by omega)).2
  unfold clM
  by_cases y : V = 0
  · subst y
    obtain ⟨G1, Z1, ab⟩ := m_about K Q R M inj
    have e12 : ∀ k, xm G1 212 k = xm G 212 k := fun k => Z1.2.2.2 212 k rfl
    have R1 : ST H G1 n m := R.dm e12
    obtain ⟨rv1, -, rv3⟩ := rv_eq (h := h) (G := G) (G' := G1) (r := r) (ρ := ρ) e12
    have cs := carry_ST K R1 (by omega) (fun i hi => (M.2.2 i hi).2) inj (by rw [rv1]; exact h0 rfl)
    rw [rv3, show (fun i => xm G1 212 (1 + 9 * ρ (prv r i))) = (fun i => xm G 212 (1 + 9 * ρ (prv r i))) from funext fun i => e12 _] at cs
    obtain ⟨th, eth⟩ : ∃ th, th = (fun i => xm G 212 (1 + 9 * ρ (prv r i))) := ⟨_, rfl⟩
    obtain ⟨py, epy⟩ : ∃ py, py = rPy h G r ρ := ⟨_, rfl⟩
    rw [← eth, ← epy] at cs ab
    rw [← eth, ← epy]
    have S1 : SH G1 := Z1.sh DM2_nf S
    have S2 : SH (gG G1 r ρ th py r) := gG_S S1 r
    have M1 := M.fx Z1 rfl (fun _ => rfl)
    have kp := m_keep S2 (v := 0) (r := (r : Int)) (f := (ρ 0 : Int)) (sv_kc cs) (by rw [gG_o (by omega)]; exact M1.2.1) (by rw [gG_o (by omega)]; exact (M1.2.2 0 (by omega)).1)
    have ks := keep_ST hn cs (v := 0) (r := (r : Int)) (f := (ρ 0 : Int)) (by omega) (by omega) (by omega)
    refine ⟨_, ?_, ?_, ks.cl (fun a k a1 a2 => ?_)⟩
    · rw [if_pos rfl, xM S, ab, bbind, show xrc (gG G1 r ρ th py r) 12 173 (f_X12_isKept 173 0 (gG G1 r ρ th py r)) = f_X12_isKept 173 0 (gG G1 r ρ th py r) from if_pos (ok_173 S2), kp]
    · obtain ⟨b1, b2, b3⟩ := kpG_n (gG G1 r ρ th py r) 0 (r : Int) (ρ 0 : Int)
      obtain ⟨d1, d2, d3⟩ := gG_n (H := G1) (r := r) (ρ := ρ) (th := th) (py := py) r
      refine ⟨by rw [b1, d1, Z1.1], by rw [b2, d2, Z1.2.1], by rw [b3, d3, Z1.2.2.1], fun a k hd => ?_⟩
      unfold DC8 at hd
      simp only [Bool.or_eq_false_iff] at hd
      have a2 : a ≠ 212 := by simpa using hd.2
      rw [kpG_o (Or.inl a2) (sv_kc cs).1, gG_o a2, Z1.2.2.2 a k hd.1]
    · unfold clC
      rw [if_pos rfl]
      have c1 := kpC_cg (H := H) (H' := cH H r ρ th py r) (v := 0) (r := (r : Int)) (f := (ρ 0 : Int)) (cH_o (by omega) r) (cH_o (by omega) r) (fun k => cH_o (by omega) r)
      by_cases z : a = 21 ∨ a = 23 ∨ a = 24
      · rw [kpC_o (by omega) (by omega)]
        exact cH_cg (fun a k hd => kpC_o (by omega) (by omega)) r a k z
      · rw [cH_o (by omega)]
        by_cases w : a = 25
        · rw [w, c1.1]
        · by_cases w2 : a = 20 ∧ k = 6
          · rw [w2.1, w2.2, c1.2]
          · rw [kpC_o w w2, kpC_o w w2, cH_o (by omega)]
  · have kp := m_keep S (v := V) (r := (r : Int)) (f := (ρ 0 : Int)) (sv_kc R) M.2.1 (M.2.2 0 (by omega)).1
    have ks := keep_ST hn R (v := V) (r := (r : Int)) (f := (ρ 0 : Int)) hV (by omega) (by omega)
    refine ⟨_, by rw [if_neg y, show xrc G 12 173 (f_X12_isKept 173 V G) = f_X12_isKept 173 V G from if_pos (ok_173 S), kp], ?_, ?_⟩
    · obtain ⟨b1, b2, b3⟩ := kpG_n G V (r : Int) (ρ 0 : Int)
      refine ⟨b1, b2, b3, fun a k hd => ?_⟩
      unfold DC8 at hd
      simp only [Bool.or_eq_false_iff] at hd
      have a2 : a ≠ 212 := by simpa using hd.2
      rw [kpG_o (Or.inl a2) (sv_kc R).1]
    · unfold clC
      rw [if_neg y]
      exact ks
