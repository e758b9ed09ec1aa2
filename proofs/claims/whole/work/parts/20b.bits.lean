/-! ===== bits ===== -/
theorem b_of (n : Nat) : Int32.ofInt (n : Int) = Int32.ofNat n := Int32.ofInt_eq_ofNat
theorem b_toInt {n : Nat} (h : n < 2147483648) : (Int32.ofNat n).toInt = (n : Int) := by
  rw [← b_of]
  exact Int32.toInt_ofInt_of_le (by omega) (by omega)
theorem b_ofInt_toInt {z : Int} (h1 : -2147483648 ≤ z) (h2 : z < 2147483648) : (Int32.ofInt z).toInt = z := Int32.toInt_ofInt_of_le (by omega) (by omega)
theorem b_and (a b : Nat) : Int32.ofNat a &&& Int32.ofNat b = Int32.ofNat (a &&& b) := by
  apply Int32.toBitVec_inj.1
  show BitVec.ofNat 32 a &&& BitVec.ofNat 32 b = BitVec.ofNat 32 (a &&& b)
  apply BitVec.eq_of_getLsbD_eq
  intro i hi
  simp [hi]
theorem b_or (a b : Nat) : Int32.ofNat a ||| Int32.ofNat b = Int32.ofNat (a ||| b) := by
  apply Int32.toBitVec_inj.1
  show BitVec.ofNat 32 a ||| BitVec.ofNat 32 b = BitVec.ofNat 32 (a ||| b)
  apply BitVec.eq_of_getLsbD_eq
  intro i hi
  simp [hi]
theorem x_and {a b : Nat} (ha : a < 2147483648) : xand (a : Int) (b : Int) = ((a &&& b : Nat) : Int) := by
  unfold xand xb2
  rw [b_of, b_of]
  show (Int32.ofNat a &&& Int32.ofNat b).toInt = _
  rw [b_and, b_toInt]
  exact Nat.lt_of_le_of_lt Nat.and_le_left ha
theorem x_or {a b : Nat} (ha : a < 2147483648) (hb : b < 2147483648) : xior (a : Int) (b : Int) = ((a ||| b : Nat) : Int) := by
  unfold xior xb2
  rw [b_of, b_of]
  show (Int32.ofNat a ||| Int32.ofNat b).toInt = _
  rw [b_or, b_toInt]
  exact Nat.or_lt_two_pow (n := 31) ha hb
theorem b_s : ∀ n, n < 32 → ((Int32.ofNat n &&& 31).toBitVec.smod 32).toNat = n := by decide +kernel
theorem x_shr {a k : Nat} (ha : a < 2147483648) (hk : k < 32) : xshr (a : Int) (k : Int) = ((a / 2 ^ k : Nat) : Int) := by
  unfold xshr xb2
  rw [b_of, b_of]
  have e : Int32.ofNat a >>> (Int32.ofNat k &&& 31) = Int32.ofNat (a / 2 ^ k) := by
    apply Int32.toBitVec_inj.1
    rw [Int32.toBitVec_shiftRight]
    show (BitVec.ofNat 32 a).sshiftRight ((Int32.ofNat k &&& 31).toBitVec.smod 32).toNat = BitVec.ofNat 32 (a / 2 ^ k)
    rw [b_s k hk, BitVec.sshiftRight_eq_of_msb_false]
    · apply BitVec.eq_of_toNat_eq
      rw [BitVec.toNat_ushiftRight, BitVec.toNat_ofNat, BitVec.toNat_ofNat, Nat.shiftRight_eq_div_pow, Nat.mod_eq_of_lt (by omega), Nat.mod_eq_of_lt]
      exact Nat.lt_of_le_of_lt (Nat.div_le_self _ _) (by omega)
    · rw [BitVec.msb_eq_decide]
      simp
      omega
  show (Int32.ofNat a >>> (Int32.ofNat k &&& 31)).toInt = _
  rw [e, b_toInt]
  exact Nat.lt_of_le_of_lt (Nat.div_le_self _ _) ha
theorem x_shl1 : ∀ k, k < 31 → xshl 1 ((k : Nat) : Int) = ((2 ^ k : Nat) : Int) := by decide +kernel
theorem x_shl {a k : Nat} (hk : k < 31) (ha : a * 2 ^ k < 2147483648) : xshl (a : Int) (k : Int) = ((a * 2 ^ k : Nat) : Int) := by
  unfold xshl xb2
  rw [b_of, b_of]
  have e : Int32.ofNat a <<< (Int32.ofNat k &&& 31) = Int32.ofNat (a * 2 ^ k) := by
    apply Int32.toBitVec_inj.1
    rw [Int32.toBitVec_shiftLeft]
    show (BitVec.ofNat 32 a) <<< ((Int32.ofNat k &&& 31).toBitVec.smod 32).toNat = BitVec.ofNat 32 (a * 2 ^ k)
    rw [b_s k (by omega)]
    apply BitVec.eq_of_toNat_eq
    rw [BitVec.toNat_shiftLeft, BitVec.toNat_ofNat, BitVec.toNat_ofNat, Nat.shiftLeft_eq, Nat.mod_mul_mod]
  show (Int32.ofNat a <<< (Int32.ofNat k &&& 31)).toInt = _
  rw [e, b_toInt ha]
theorem x_i2b (y : Int) : xi2b (xi2b y) = (let t := xand y 255; if t < 128 then t else t - 256) ∧ 0 ≤ xand y 255 ∧ xand y 255 < 256 := by
  have h0 : xand y 255 = ((Int32.ofInt y).toBitVec.toNat % 256 : Nat) := by
    unfold xand xb2
    rw [← Int32.toInt_toBitVec, Int32.toBitVec_and, BitVec.toInt_eq_toNat_of_lt, BitVec.toNat_and]
    · show (((Int32.ofInt y).toBitVec.toNat &&& 255 : Nat) : Int) = _
      rw [show (255 : Nat) = 2 ^ 8 - 1 from rfl, Nat.and_two_pow_sub_one_eq_mod]
    · rw [BitVec.toNat_and]
      have : (Int32.ofInt y).toBitVec.toNat &&& (Int32.ofInt 255).toBitVec.toNat ≤ (Int32.ofInt 255).toBitVec.toNat := Nat.and_le_right
      have h2 : (Int32.ofInt 255).toBitVec.toNat = 255 := by decide
      omega
  have h1 : xi2b y = ((Int32.ofInt y).toBitVec.toNat : Int).bmod 256 := by
    unfold xi2b
    rw [Int8.toInt_toInt32, Int32.toInt_toInt8, ← Int32.toInt_toBitVec, BitVec.toInt_eq_toNat_bmod]
    exact Int.bmod_bmod_of_dvd (by decide)
  have hr : xi2b y = xi2b (xi2b y) := by
    have hb : -2147483648 ≤ xi2b y ∧ xi2b y < 2147483648 := by
      rw [h1]
      have q1 := Int.le_bmod (x := ((Int32.ofInt y).toBitVec.toNat : Int)) (m := 256) (by decide)
      have q2 := Int.bmod_lt (x := ((Int32.ofInt y).toBitVec.toNat : Int)) (m := 256) (by decide)
      omega
    conv => rhs; unfold xi2b
    rw [Int8.toInt_toInt32, Int32.toInt_toInt8]
    show xi2b y = (Int32.ofInt (xi2b y)).toInt.bmod (2 ^ 8)
    rw [b_ofInt_toInt hb.1 hb.2]
    conv => rhs; rw [h1]
    rw [h1]
    exact (Int.bmod_bmod).symm
  rw [← hr, h1, h0]
  have hm : ((Int32.ofInt y).toBitVec.toNat : Int).bmod 256 = if ((Int32.ofInt y).toBitVec.toNat : Int) % 256 < 128 then ((Int32.ofInt y).toBitVec.toNat : Int) % 256 else ((Int32.ofInt y).toBitVec.toNat : Int) % 256 - 256 := by
    rw [Int.bmod_def]
    rfl
  refine ⟨?_, by omega, by omega⟩
  rw [hm]
  simp only [Int.natCast_emod]
  rfl
theorem b_bit : ∀ b, b < 64 → ∀ k, k < 6 → xand (xshr ((b : Nat) : Int) ((k : Nat) : Int)) 1 = if b.testBit k then 1 else 0 := by decide +kernel
theorem b_set : ∀ b, b < 64 → ∀ k, k < 6 → xior ((b : Nat) : Int) (xshl 1 ((k : Nat) : Int)) = ((b ||| 2 ^ k : Nat) : Int) ∧ b ||| 2 ^ k < 64 := by decide +kernel
