/-! ===== what is kept of a ring ===== -/
def pck (a v r f : Int) : Int := a * 1000 + v * 100 + r * 10 + f
theorem pck_w {a v r f : Int} (ha : 0 ≤ a ∧ a ≤ 9999) (hv : 0 ≤ v ∧ v ≤ 4) (hr : 0 ≤ r ∧ r ≤ 6) (hf : 0 ≤ f ∧ f ≤ 5) : w32 (w32 (w32 (w32 (a * 1000) + w32 (v * 100)) + w32 (r * 10)) + f) = pck a v r f := by
  unfold pck
  rw [w32_id (z := a * 1000) (by omega) (by omega), w32_id (z := v * 100) (by omega) (by omega), w32_id (z := r * 10) (by omega) (by omega), w32_id (z := a * 1000 + v * 100) (by omega) (by omega), w32_id (z := a * 1000 + v * 100 + r * 10) (by omega) (by omega), w32_id (by omega) (by omega)]
def kpC (H : xa_H) (v r f : Int) : xa_H := if xm H 20 6 < 30 then xset (xset H 25 (xm H 20 6).toNat (pck (xm H 20 0) v r f)) 20 6 (xm H 20 6 + 1) else xset (xset (xset (xcpy H 25 1 25 0 29) 20 6 29) 25 29 (pck (xm H 20 0) v r f)) 20 6 30
theorem c_keep {H : xa_H} (S : SH H) {v r f : Int} (hc : 0 ≤ xm H 20 6 ∧ xm H 20 6 ≤ 30) (ha : 0 ≤ xm H 20 0 ∧ xm H 20 0 ≤ 9999) (hv : 0 ≤ v ∧ v ≤ 4) (hr : 0 ≤ r ∧ r ≤ 6) (hf : 0 ≤ f ∧ f ≤ 5) : f_X9_keep 20 v r f H = some (kpC H v r f) := by
  have J : ∀ K : xa_H, SH K → ∀ c : Nat, c < 30 → xm K 20 6 = (c : Int) → xm K 20 0 = xm H 20 0 → f_X9_keep_J30 20 v r f K = some (xset (xset K 25 c (pck (xm H 20 0) v r f)) 20 6 ((c : Int) + 1)) := by
    intro K SK c c30 e6 e0
    obtain ⟨K1, k1⟩ : ∃ z, z = xset K 25 c (pck (xm H 20 0) v r f) := ⟨_, rfl⟩
    have S1 : SH K1 := by rw [k1]; exact SK.set (fixd_of (by decide +kernel))
    unfold f_X9_keep_J30
    refine (bnd (xgf_eq (a := 20) (ok_20 SK) (pt_20_5 SK))).trans ?_
    refine (bnd (xgf_eq (a := 20) (ok_20 SK) e6)).trans ?_
    refine (bnd (xgf_eq (a := 20) (ok_20 SK) e0)).trans ?_
    rw [pck_w ha hv hr hf]
    refine (bnd (xas_eq (a := 25) (ia_25 SK (by omega) (by omega)))).trans ?_
    rw [← k1]
    refine (bnd (xgf_eq (a := 20) (v := (c : Int)) (ok_20 S1) (by rw [k1, xm_xset, if_neg (by omega)]; exact e6))).trans ?_
    refine (bnd (xpf_eq (a := 20) (ok_20 S1))).trans ?_
    rw [w32_id (by omega) (by omega)]
  unfold f_X9_keep kpC
  refine (bnd (xgf_eq (a := 20) (ok_20 S) rfl)).trans ?_
  by_cases y : xm H 20 6 < 30
  · rw [if_pos y, if_pos y]
    have := J H S (xm H 20 6).toNat (by omega) (by omega) rfl
    rw [this, show (((xm H 20 6).toNat : Nat) : Int) = xm H 20 6 by omega]
  · rw [if_neg y, if_neg y]
    have ka : xk H 25 = (0, 30) := (kd_xk S (by omega)).trans (by decide +kernel)
    have n0 := S.1
    obtain ⟨K1, k1⟩ : ∃ z, z = xcpy H 25 1 25 0 29 := ⟨_, rfl⟩
    have S1 : SH K1 := by
      rw [k1]
      refine S.fixed (by exact S.1) (fun _ _ => rfl) (fun a k hf => ?_)
      rw [xm_xcpy, if_neg]
      rintro ⟨z, -⟩
      subst z
      rw [show fixd 25 k = false from fixd_of (by decide +kernel)] at hf
      cases hf
    obtain ⟨K2, k2⟩ : ∃ z, z = xset K1 20 6 29 := ⟨_, rfl⟩
    have S2 : SH K2 := by rw [k2]; exact S1.set (by decide +kernel)
    have o1 : xok K1 9 20 = true := ok_20 S1
    refine (bnd (xgf_eq (a := 20) (ok_20 S) (pt_20_5 S))).trans ?_
    refine (bnd (xgf_eq (a := 20) (ok_20 S) (pt_20_5 S))).trans ?_
    refine (bnd (v := K1) ((xcp_eq (s := 25) (d := 25) 29 ka ka (by omega) (by omega) 1 0 (by omega) (by omega)).trans (by rw [k1]))).trans ?_
    refine (bnd (xpf_eq (a := 20) o1)).trans ?_
    rw [← k2, ← k1, J K2 S2 29 (by omega) (by rw [k2, xm_xset, if_pos ⟨rfl, rfl⟩]; rfl) (by rw [k2, xm_xset, if_neg (by omega), k1, xm_xcpy, if_neg (by omega)])]
    rw [← k2]
    rfl
def sh4 (G : xa_H) : Nat → xa_H
  | 0 => G
  | i + 1 => xset (sh4 G i) 212 (56 + i) (xm G 212 (56 + i + 4))
theorem sh4_n (G : xa_H) : ∀ i, xn (sh4 G i) = xn G ∧ xz (sh4 G i) = xz G ∧ xk (sh4 G i) = xk G
  | 0 => ⟨rfl, rfl, rfl⟩
  | i + 1 => sh4_n G i
theorem sh4_m {G : xa_H} {a k : Nat} : ∀ i, xm (sh4 G i) a k = if a = 212 ∧ 56 ≤ k ∧ k < 56 + i then xm G 212 (k + 4) else xm G a k
  | 0 => by rw [if_neg (by omega)]; rfl
  | i + 1 => by
    show xm (xset (sh4 G i) 212 (56 + i) (xm G 212 (56 + i + 4))) a k = _
    rw [xm_xset]
    by_cases y : a = 212 ∧ k = 56 + i
    · rw [if_pos y, if_pos (by omega), y.2]
    · rw [if_neg y, sh4_m i]
      by_cases z : a = 212 ∧ 56 ≤ k ∧ k < 56 + i
      · rw [if_pos z, if_pos (by omega)]
      · rw [if_neg z, if_neg (by omega)]
theorem sh4_S {G : xa_H} (S : SH G) : ∀ i, SH (sh4 G i)
  | 0 => S
  | i + 1 => (sh4_S S i).set (fixd_of (by decide +kernel))
def kp4 (G : xa_H) (b : Nat) (a v r f : Int) : xa_H := xset (xset (xset (xset G 212 b a) 212 (b + 1) v) 212 (b + 2) r) 212 (b + 3) f
def kpG (G : xa_H) (v r f : Int) : xa_H := if xm G 212 55 = 30 then kp4 (sh4 G 116) 172 (xm G 212 0) v r f else kp4 (xset G 212 55 (xm G 212 55 + 1)) (56 + 4 * (xm G 212 55).toNat) (xm G 212 0) v r f
theorem m_keep {G : xa_H} (S : SH G) {v r f : Int} (hc : 0 ≤ xm G 212 55 ∧ xm G 212 55 ≤ 30) (e56 : xm G 173 56 = r) (e13 : xm G 213 0 = f) : f_X12_isKept 173 v G = some (kpG G v r f) := by
  have J : ∀ K : xa_H, SH K → ∀ c : Nat, c < 30 → xm K 212 55 = ((c + 1 : Nat) : Int) → xm K 173 56 = r → xm K 213 0 = f → xm K 212 0 = xm G 212 0 → f_X12_isKept_J56 173 v K = some (kp4 K (56 + 4 * c) (xm G 212 0) v r f) := by
    intro K SK c c30 e55 e6 e3 e0
    obtain ⟨K1, k1⟩ : ∃ z, z = xset K 212 (56 + 4 * c) (xm G 212 0) := ⟨_, rfl⟩
    obtain ⟨K2, k2⟩ : ∃ z, z = xset K1 212 (56 + 4 * c + 1) v := ⟨_, rfl⟩
    obtain ⟨K3, k3⟩ : ∃ z, z = xset K2 212 (56 + 4 * c + 2) r := ⟨_, rfl⟩
    have S1 : SH K1 := by rw [k1]; exact SK.set (fixd_of (by decide +kernel))
    have S2 : SH K2 := by rw [k2]; exact S1.set (fixd_of (by decide +kernel))
    have S3 : SH K3 := by rw [k3]; exact S2.set (fixd_of (by decide +kernel))
    have wb : w32 (w32 (56 + w32 (4 * ((c + 1 : Nat) : Int))) - 4) = ((56 + 4 * c : Nat) : Int) := by
      rw [w32_id (z := 4 * ((c + 1 : Nat) : Int)) (by omega) (by omega), w32_id (z := 56 + 4 * ((c + 1 : Nat) : Int)) (by omega) (by omega), w32_id (by omega) (by omega)]
      omega
    have i : ∀ {X}, SH X → ∀ k : Nat, k < 176 → xia X 0 212 (k : Int) = true := fun S k hk => ia_212 S (by clear wb; omega) (by clear wb; omega)
    unfold f_X12_isKept_J56
    rw [gM SK, pt_173_50 SK]
    refine (bnd (xal_eq (a := 212) (i := 55) (i SK 55 (by omega)) e55)).trans ?_
    rw [gM SK, pt_173_50 SK, gM SK, pt_173_50 SK]
    refine (bnd (xal_eq (a := 212) (i := 0) (i SK 0 (by omega)) e0)).trans ?_
    rw [wb]
    clear wb
    refine (bnd (xas_eq (a := 212) (i SK _ (by omega)))).trans ?_
    rw [← k1, gM S1, pt_173_50 S1, wS (by omega)]
    refine (bnd (xas_eq (a := 212) (i S1 _ (by omega)))).trans ?_
    rw [← k2, gM S2, pt_173_50 S2, gM S2, wS2 (by omega), k2, xm_xset, if_neg (by omega), k1, xm_xset, if_neg (by omega), e6, ← k1, ← k2]
    refine (bnd (xas_eq (a := 212) (i S2 _ (by omega)))).trans ?_
    rw [← k3, gM S3, pt_173_50 S3, gM S3, pt_173_55 S3]
    refine (bnd (xal_eq (a := 213) (i := 0) (v := f) (ia_213 S3 (by omega) (by omega)) (by rw [k3, xm_xset, if_neg (by omega), k2, xm_xset, if_neg (by omega), k1, xm_xset, if_neg (by omega)]; exact e3))).trans ?_
    rw [wS3 (by omega)]
    refine (bnd (xas_eq (a := 212) (i S3 _ (by omega)))).trans ?_
    rw [k3, k2, k1]
    rfl
  have i55 : xia G 0 212 ((55 : Nat) : Int) = true := ia_212 S (by omega) (by omega)
  unfold f_X12_isKept kpG
  rw [gM S, pt_173_50 S]
  refine (bnd (xal_eq (a := 212) (i := 55) i55 rfl)).trans ?_
  by_cases y : xm G 212 55 = 30
  · rw [if_pos y, if_pos y]
    have lp := xit_seq (f := fun u : Int × xa_H => f_X12_isKept_L15 173 v u.1 u.2) (fun t => (((56 + t : Nat) : Int), sh4 G t)) 116 (sh4 G 116) (fun t ht => by
      have St := sh4_S S t
      have j1 : xia (sh4 G t) 0 212 ((56 + t + 4 : Nat) : Int) = true := ia_212 St (by omega) (by omega)
      have j2 : xia (sh4 G t) 0 212 ((56 + t : Nat) : Int) = true := ia_212 St (by omega) (by omega)
      show f_X12_isKept_L15 173 v ((56 + t : Nat) : Int) (sh4 G t) = _
      unfold f_X12_isKept_L15
      rw [if_pos (by omega), gM St, pt_173_50 St, gM St, pt_173_50 St, show w32 (((56 + t : Nat) : Int) + 4) = ((56 + t + 4 : Nat) : Int) by rw [w32_id (by omega) (by omega)]; omega]
      refine (bnd (xal_eq (a := 212) (v := xm G 212 (56 + t + 4)) j1 (by rw [sh4_m, if_neg (by omega)]))).trans ?_
      refine (bnd (xas_eq (a := 212) j2)).trans ?_
      rw [wS (by omega)]
      rfl) (by
      show f_X12_isKept_L15 173 v ((56 + 116 : Nat) : Int) (sh4 G 116) = _
      unfold f_X12_isKept_L15
      rw [if_neg (by decide)]) (by omega)
    refine (bnd lp).trans ?_
    exact J (sh4 G 116) (sh4_S S 116) 29 (by omega) (by rw [sh4_m, if_neg (by omega), y]; rfl) (by rw [sh4_m, if_neg (by omega)]; exact e56) (by rw [sh4_m, if_neg (by omega)]; exact e13) (by rw [sh4_m, if_neg (by omega)])
  · obtain ⟨c, ec⟩ : ∃ c : Nat, xm G 212 55 = (c : Int) := ⟨(xm G 212 55).toNat, by omega⟩
    obtain ⟨K, k⟩ : ∃ z, z = xset G 212 55 ((c : Int) + 1) := ⟨_, rfl⟩
    have SK : SH K := by rw [k]; exact S.set (fixd_of (by decide +kernel))
    rw [if_neg y, if_neg y, gM S, pt_173_50 S]
    refine (bnd (xal_eq (a := 212) (i := 55) i55 ec)).trans ?_
    rw [w32_id (by omega) (by omega)]
    refine (bnd (xas_eq (a := 212) (i := 55) i55)).trans ?_
    rw [ec, Int.toNat_natCast, ← k]
    exact J K SK c (by omega) (by rw [k, xm_xset, if_pos ⟨rfl, rfl⟩]; rfl) (by rw [k, xm_xset, if_neg (by omega)]; exact e56) (by rw [k, xm_xset, if_neg (by omega)]; exact e13) (by rw [k, xm_xset, if_neg (by omega)])
theorem kpC_o {H : xa_H} {v r f : Int} {a k : Nat} (h1 : a ≠ 25) (h2 : ¬ (a = 20 ∧ k = 6)) : xm (kpC H v r f) a k = xm H a k := by
  unfold kpC
  split
  · rw [xm_xset, if_neg (by omega), xm_xset, if_neg (by omega)]
  · rw [xm_xset, if_neg (by omega), xm_xset, if_neg (by omega), xm_xset, if_neg (by omega), xm_xcpy, if_neg (by omega)]
theorem kpC_n (H : xa_H) (v r f : Int) : xn (kpC H v r f) = xn H ∧ xz (kpC H v r f) = xz H ∧ xk (kpC H v r f) = xk H := by
  unfold kpC
  split <;> exact ⟨rfl, rfl, rfl⟩
theorem kpG_o {G : xa_H} {v r f : Int} {a k : Nat} (h1 : a ≠ 212 ∨ k < 55) (hc : 0 ≤ xm G 212 55) : xm (kpG G v r f) a k = xm G a k := by
  unfold kpG kp4
  split
  · rw [xm_xset, if_neg (by omega), xm_xset, if_neg (by omega), xm_xset, if_neg (by omega), xm_xset, if_neg (by omega), sh4_m, if_neg (by omega)]
  · rw [xm_xset, if_neg (by omega), xm_xset, if_neg (by omega), xm_xset, if_neg (by omega), xm_xset, if_neg (by omega), xm_xset, if_neg (by omega)]
theorem kpG_n (G : xa_H) (v r f : Int) : xn (kpG G v r f) = xn G ∧ xz (kpG G v r f) = xz G ∧ xk (kpG G v r f) = xk G := by
  have e := sh4_n G 116
  obtain ⟨X, eX⟩ : ∃ X, X = sh4 G 116 := ⟨_, rfl⟩
  unfold kpG kp4
  rw [← eX] at e ⊢
  split
  · exact e
  · exact ⟨rfl, rfl, rfl⟩
theorem kp4_m {G : xa_H} {b k : Nat} {a v r f : Int} : xm (kp4 G b a v r f) 212 k = if k = b + 3 then f else if k = b + 2 then r else if k = b + 1 then v else if k = b then a else xm G 212 k := by
  unfold kp4
  simp only [xm_xset, true_and]
theorem keep_ST {H G : xa_H} {n m : Nat} (hn : n ≤ 6) (R : ST H G n m) {v r f : Int} (hv : 0 ≤ v ∧ v ≤ 4) (hr : 0 ≤ r ∧ r ≤ 6) (hf : 0 ≤ f ∧ f ≤ 5) : ST (kpC H v r f) (kpG G v r f) n m := by
  have kc := sv_kc R
  have e6 := st_kc R
  have e0 := st_night R
  have na := sv_night R
  have old := @st_kept H G n m R
  have lo := fun a k (h : a ≠ 212 ∨ k < 55) => kpG_o (G := G) (v := v) (r := r) (f := f) (a := a) (k := k) h kc.1
  have vk := R.2.2.2.2.2.2.2.2
  simp only [Nat.zero_add] at vk
  obtain ⟨⟨r1, r2, r3, r4, r5, r6, r7⟩, v1, v2, v3, v4, v5, v6, v7, v8⟩ := R
  simp only [Nat.zero_add] at r2 r3 r4 r5 v1 v2 v3 v4 v5 v6
  -- the new count, and the new rows
  have key : ∃ c : Nat, c < 30 ∧ xm (kpG G v r f) 212 55 = ((c + 1 : Nat) : Int) ∧ xm (kpC H v r f) 20 6 = ((c + 1 : Nat) : Int) ∧ (∀ k, k ≤ c → xm (kpC H v r f) 25 k = pck (xm (kpG G v r f) 212 (56 + 4 * k)) (xm (kpG G v r f) 212 (56 + 4 * k + 1)) (xm (kpG G v r f) 212 (56 + 4 * k + 2)) (xm (kpG G v r f) 212 (56 + 4 * k + 3))) ∧
      ∀ k, k ≤ c → (0 ≤ xm (kpG G v r f) 212 (56 + 4 * k) ∧ xm (kpG G v r f) 212 (56 + 4 * k) ≤ 9999) ∧ (0 ≤ xm (kpG G v r f) 212 (56 + 4 * k + 1) ∧ xm (kpG G v r f) 212 (56 + 4 * k + 1) ≤ 4) ∧ (0 ≤ xm (kpG G v r f) 212 (56 + 4 * k + 2) ∧ xm (kpG G v r f) 212 (56 + 4 * k + 2) ≤ 6) ∧ (0 ≤ xm (kpG G v r f) 212 (56 + 4 * k + 3) ∧ xm (kpG G v r f) 212 (56 + 4 * k + 3) ≤ 5) := by
    by_cases y : xm G 212 55 = 30
    · have g : ∀ k, xm (kpG G v r f) 212 k = if k = 175 then f else if k = 174 then r else if k = 173 then v else if k = 172 then xm G 212 0 else if 56 ≤ k ∧ k < 172 then xm G 212 (k + 4) else xm G 212 k := fun k => by
        unfold kpG
        rw [if_pos y, kp4_m, sh4_m]
        simp only [true_and]
      have c : ∀ k, xm (kpC H v r f) 25 k = if k = 29 then pck (xm H 20 0) v r f else if k < 29 then xm H 25 (k + 1) else xm H 25 k := fun k => by
        unfold kpC
        rw [if_neg (by omega), xm_xset, if_neg (by omega), xm_xset]
        by_cases z : k = 29
        · rw [if_pos ⟨rfl, z⟩, if_pos z]
        · rw [if_neg (by omega), if_neg z, xm_xset, if_neg (by omega), xm_xcpy]
          by_cases w : k < 29
          · rw [if_pos (by omega), if_pos w, show 1 + (k - 0) = k + 1 by omega]
          · rw [if_neg (by omega), if_neg w]
      refine ⟨29, by omega, ?_, ?_, fun k hk => ?_, fun k hk => ?_⟩
      · rw [g, if_neg (by omega), if_neg (by omega), if_neg (by omega), if_neg (by omega), if_neg (by omega), y]; rfl
      · unfold kpC
        rw [if_neg (by omega), xm_xset, if_pos ⟨rfl, rfl⟩]; rfl
      · rw [c]
        by_cases z : k = 29
        · rw [if_pos z, z, g, g, g, g, e0]; rfl
        · have o := old (k := k + 1) (by omega)
          rw [if_neg z, if_pos (by omega), o, g, g, g, g, if_neg (by omega), if_neg (by omega), if_neg (by omega), if_neg (by omega), if_pos (by omega), if_neg (by omega), if_neg (by omega), if_neg (by omega), if_neg (by omega), if_pos (by omega), if_neg (by omega), if_neg (by omega), if_neg (by omega), if_neg (by omega), if_pos (by omega), if_neg (by omega), if_neg (by omega), if_neg (by omega), if_neg (by omega), if_pos (by omega)]
          unfold pck
          rw [show 56 + 4 * (k + 1) = 56 + 4 * k + 4 by omega, show 56 + 4 * k + 1 + 4 = 56 + 4 * k + 4 + 1 by omega, show 56 + 4 * k + 2 + 4 = 56 + 4 * k + 4 + 2 by omega, show 56 + 4 * k + 3 + 4 = 56 + 4 * k + 4 + 3 by omega]
      · by_cases z : k = 29
        · subst z
          rw [g, g, g, g]
          exact ⟨na, hv, hr, hf⟩
        · have o := vk (k + 1) (by omega)
          rw [g, g, g, g, if_neg (by omega), if_neg (by omega), if_neg (by omega), if_neg (by omega), if_pos (by omega), if_neg (by omega), if_neg (by omega), if_neg (by omega), if_neg (by omega), if_pos (by omega), if_neg (by omega), if_neg (by omega), if_neg (by omega), if_neg (by omega), if_pos (by omega), if_neg (by omega), if_neg (by omega), if_neg (by omega), if_neg (by omega), if_pos (by omega)]
          rw [show 56 + 4 * (k + 1) = 56 + 4 * k + 4 by omega] at o
          rw [show 56 + 4 * k + 1 + 4 = 56 + 4 * k + 4 + 1 by omega, show 56 + 4 * k + 2 + 4 = 56 + 4 * k + 4 + 2 by omega, show 56 + 4 * k + 3 + 4 = 56 + 4 * k + 4 + 3 by omega]
          exact o
    · obtain ⟨c, ec⟩ : ∃ c : Nat, xm G 212 55 = (c : Int) := ⟨(xm G 212 55).toNat, by omega⟩
      have g : ∀ k, xm (kpG G v r f) 212 k = if k = 56 + 4 * c + 3 then f else if k = 56 + 4 * c + 2 then r else if k = 56 + 4 * c + 1 then v else if k = 56 + 4 * c then xm G 212 0 else if k = 55 then ((c + 1 : Nat) : Int) else xm G 212 k := fun k => by
        unfold kpG
        rw [if_neg y, ec, Int.toNat_natCast, kp4_m, xm_xset]
        simp only [true_and]
        rfl
      have cc : ∀ k, xm (kpC H v r f) 25 k = if k = c then pck (xm H 20 0) v r f else xm H 25 k := fun k => by
        unfold kpC
        rw [if_pos (by omega), xm_xset, if_neg (by omega), xm_xset, e6, ec, Int.toNat_natCast]
        simp only [true_and]
      refine ⟨c, by omega, ?_, ?_, fun k hk => ?_, fun k hk => ?_⟩
      · rw [g, if_neg (by omega), if_neg (by omega), if_neg (by omega), if_neg (by omega), if_pos rfl]
      · unfold kpC
        rw [if_pos (by omega), xm_xset, if_pos ⟨rfl, rfl⟩, e6, ec]; rfl
      · rw [cc]
        by_cases z : k = c
        · subst z
          rw [if_pos rfl, g, g, g, g, if_neg (by omega), if_neg (by omega), if_neg (by omega), if_pos rfl, if_neg (by omega), if_neg (by omega), if_pos rfl, if_neg (by omega), if_pos rfl, if_pos rfl, e0]
        · have o := old (k := k) (by omega)
          rw [if_neg z, o, g, g, g, g, if_neg (by omega), if_neg (by omega), if_neg (by omega), if_neg (by omega), if_neg (by omega), if_neg (by omega), if_neg (by omega), if_neg (by omega), if_neg (by omega), if_neg (by omega), if_neg (by omega), if_neg (by omega), if_neg (by omega), if_neg (by omega), if_neg (by omega), if_neg (by omega), if_neg (by omega), if_neg (by omega), if_neg (by omega), if_neg (by omega)]
          rfl
      · by_cases z : k = c
        · subst z
          rw [g, g, g, g, if_neg (by omega), if_neg (by omega), if_neg (by omega), if_pos rfl, if_neg (by omega), if_neg (by omega), if_pos rfl, if_neg (by omega), if_pos rfl, if_pos rfl]
          exact ⟨na, hv, hr, hf⟩
        · have o := vk k (by omega)
          rw [g, g, g, g, if_neg (by omega), if_neg (by omega), if_neg (by omega), if_neg (by omega), if_neg (by omega), if_neg (by omega), if_neg (by omega), if_neg (by omega), if_neg (by omega), if_neg (by omega), if_neg (by omega), if_neg (by omega), if_neg (by omega), if_neg (by omega), if_neg (by omega), if_neg (by omega), if_neg (by omega), if_neg (by omega), if_neg (by omega), if_neg (by omega)]
          exact o
  obtain ⟨c, c30, k1, k2, k3, k4⟩ := key
  refine ⟨⟨?_, fun i hi => ?_, fun i hi => ?_, fun i hi => ?_, fun i j hi hj => ?_, ?_, fun k hk => ?_⟩, ?_, fun i hi => ?_, fun i hi => ?_, fun i hi => ?_, fun i j hi hj => ?_, fun i j hi hj e => ?_, ?_, fun k hk => ?_⟩
  · rw [kpC_o (by omega) (by omega), lo _ _ (Or.inr (by omega))]; exact r1
  · rw [kpC_o (by omega) (by omega), Nat.zero_add, lo _ _ (Or.inr (by omega))]; exact r2 i hi
  · rw [kpC_o (by omega) (by omega), Nat.zero_add, lo _ _ (Or.inr (by omega))]; exact r3 i hi
  · rw [kpC_o (by omega) (by omega), Nat.zero_add, lo _ _ (Or.inr (by omega))]; exact r4 i hi
  · rw [kpC_o (by omega) (by omega), Nat.zero_add, lo _ _ (Or.inr (by omega))]; exact r5 i j hi hj
  · rw [k2, Nat.zero_add, k1]
  · simp only [Nat.zero_add] at hk ⊢
    exact k3 k (by omega)
  · rw [lo _ _ (Or.inr (by omega))]; exact v1
  · rw [Nat.zero_add, lo _ _ (Or.inr (by omega))]; exact v2 i hi
  · rw [Nat.zero_add, lo _ _ (Or.inr (by omega))]; exact v3 i hi
  · rw [Nat.zero_add, lo _ _ (Or.inr (by omega))]; exact v4 i hi
  · rw [Nat.zero_add, lo _ _ (Or.inr (by omega))]; exact v5 i j hi hj
  · rw [Nat.zero_add, Nat.zero_add, lo _ _ (Or.inr (by omega)), lo _ _ (Or.inr (by omega))] at e
    exact v6 i j hi hj e
  · rw [Nat.zero_add, k1]; omega
  · simp only [Nat.zero_add] at hk ⊢
    exact k4 k (by omega)
