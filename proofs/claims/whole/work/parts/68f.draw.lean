/-! ===== draws ===== -/
theorem and31 (y : Nat) : xand (w32 (y : Int)) 2147483647 = ((y % 2147483648 : Nat) : Int) := by
  have h0 : ∀ z : Int, xand z 2147483647 = ((Int32.ofInt z).toBitVec.toNat % 2147483648 : Nat) := by
    intro z
    unfold xand xb2
    have h2 : (Int32.ofInt 2147483647).toBitVec.toNat = 2147483647 := by decide +kernel
    rw [← Int32.toInt_toBitVec, Int32.toBitVec_and, BitVec.toInt_eq_toNat_of_lt, BitVec.toNat_and, h2]
    · rw [show (2147483647 : Nat) = 2 ^ 31 - 1 from rfl, Nat.and_two_pow_sub_one_eq_mod]
    · rw [BitVec.toNat_and, h2]
      have : (Int32.ofInt z).toBitVec.toNat &&& 2147483647 ≤ 2147483647 := Nat.and_le_right
      omega
  rw [h0]
  have h1 : (Int32.ofInt (w32 (y : Int))).toBitVec.toNat = y % 4294967296 := by
    show (BitVec.ofInt 32 (w32 (y : Int))).toNat = _
    rw [BitVec.toNat_ofInt]
    unfold w32
    rw [show ((2 ^ 32 : Nat) : Int) = ((4294967296 : Nat) : Int) from rfl, Int.bmod_emod]
    omega
  rw [h1]
  omega
def nxs (x : Nat) : Nat := (1103515245 * x + 12345) % 2147483648
theorem nxs_lt (x : Nat) : nxs x < 2147483648 := Nat.mod_lt _ (by decide)
def drv (x v : Nat) : Nat := nxs x / 64 % v
theorem c_draw {H : xa_H} (S : SH H) {x v : Nat} (hx : xm H 0 18 = (x : Int)) (hv : 0 < v) (hv2 : v < 1000) : f_X11_draw 0 (v : Int) H = some (((drv x v : Nat) : Int), xset H 0 18 ((nxs x : Nat) : Int)) := by
  have n2 := nxs_lt x
  have e : xand (w32 (w32 (1103515245 * (x : Int)) + 12345)) 2147483647 = ((nxs x : Nat) : Int) := by
    have w : w32 (w32 (1103515245 * (x : Int)) + 12345) = w32 ((1103515245 * x + 12345 : Nat) : Int) := by
      unfold w32
      rw [Int.bmod_add_bmod]
      rfl
    rw [w, and31]
    rfl
  obtain ⟨H1, e1⟩ : ∃ z, z = xset H 0 18 ((nxs x : Nat) : Int) := ⟨_, rfl⟩
  have S1 : SH H1 := by rw [e1]; exact S.set (by decide +kernel)
  have h1 : xm H1 0 18 = ((nxs x : Nat) : Int) := by rw [e1, xm_xset, if_pos ⟨rfl, rfl⟩]
  unfold f_X11_draw
  rw [g0k S, hx, e]
  refine (bnd (xpf_eq (a := 0) (ok_0 S))).trans ?_
  rw [← e1, if_pos (by omega), g0k S1, h1, exnz, if_neg (by omega)]
  have d : Int.tdiv ((nxs x : Nat) : Int) 64 = ((nxs x / 64 : Nat) : Int) := rfl
  rw [d, w32_id (by omega) (by omega), ← Int.ofNat_tmod]
  rfl
theorem m_draw {G : xa_H} (S : SH G) {x v : Nat} (hx : xm G 173 76 = (x : Int)) (h31 : x < 2147483648) (hv : 0 < v) (hv2 : v < 1000) : f_X12_drawOf 173 (v : Int) G = some (((drv x v : Nat) : Int), xset G 173 76 ((nxs x : Nat) : Int)) := by
  have n2 := nxs_lt x
  have e : Int.tmod (w64 (w64 (1103515245 * (x : Int)) + 12345)) 2147483648 = ((nxs x : Nat) : Int) := by
    rw [w64_id (z := 1103515245 * (x : Int)) (by omega) (by omega), w64_id (by omega) (by omega)]
    rfl
  obtain ⟨H1, e1⟩ : ∃ z, z = xset G 173 76 ((nxs x : Nat) : Int) := ⟨_, rfl⟩
  have S1 : SH H1 := by rw [e1]; exact S.set (by decide +kernel)
  have h1 : xm H1 173 76 = ((nxs x : Nat) : Int) := by rw [e1, xm_xset, if_pos ⟨rfl, rfl⟩]
  unfold f_X12_drawOf
  rw [gM S, hx, e, pMf S, ← e1, gM S1, h1, exnz, if_neg (by omega)]
  have d : Int.tdiv ((nxs x : Nat) : Int) 64 = ((nxs x / 64 : Nat) : Int) := rfl
  have m : nxs x / 64 % v < v := Nat.mod_lt _ hv
  rw [d, w64_id (by omega) (by omega), ← Int.ofNat_tmod, w32_id (by omega) (by omega)]
  rfl
