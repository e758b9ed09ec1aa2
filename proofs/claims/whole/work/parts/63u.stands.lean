/-! ===== what is told comes to stand: the reference's copies ===== -/
def cpO (A : xa_H) (a off : Nat) : Nat → xa_H
  | 0 => A
  | i + 1 => xset (cpO A a off i) a (off + i) (xm A a i)
theorem cpO_m {A : xa_H} {a off q k : Nat} : ∀ n, xm (cpO A a off n) q k = if q = a ∧ off ≤ k ∧ k < off + n then xm A a (k - off) else xm A q k
  | 0 => by rw [if_neg (by omega)]; rfl
  | n + 1 => by
    show xm (xset (cpO A a off n) a (off + n) (xm A a n)) q k = _
    rw [xm_xset]
    by_cases z : q = a ∧ k = off + n
    · rw [if_pos z, if_pos (by omega), show k - off = n by omega]
    · rw [if_neg z, cpO_m n]
      by_cases y : q = a ∧ off ≤ k ∧ k < off + n
      · rw [if_pos y, if_pos (by omega)]
      · rw [if_neg y, if_neg (by omega)]
theorem cpO_S {A : xa_H} {a off : Nat} (S : SH A) (hf : fixa a = false) : ∀ n, SH (cpO A a off n)
  | 0 => S
  | n + 1 => (cpO_S S hf n).set (fixd_of hf)
theorem cpO_F {D : Nat → Nat → Bool} {A : xa_H} {a off : Nat} : ∀ n, (∀ k, k < n → D a (off + k) = true) → Fx D A (cpO A a off n)
  | 0, _ => Fx.refl _ _
  | n + 1, h => (cpO_F n (fun k hk => h k (by omega))).set (h n (by omega))
theorem cpO_lo {A : xa_H} {a off i n : Nat} (hi : i < off) : xm (cpO A a off n) a i = xm A a i := by rw [cpO_m, if_neg (by omega)]
theorem r_L2 {g : xa_H} (S : SH g) : xit (fun s => f_X12_stands_L2 173 s.1 s.2) xFU (0, g) = some (cpO g 199 3 3) :=
  xit_seq (f := fun s : Int × xa_H => f_X12_stands_L2 173 s.1 s.2) (fun i => ((i : Int), cpO g 199 3 i)) 3 _ (fun i hi => by
    have Si := cpO_S (off := 3) S (a := 199) (by decide +kernel) i
    have ia : xia (cpO g 199 3 i) 0 199 (i : Int) = true := ia_199 Si (by omega) (by omega)
    have ib : xia (cpO g 199 3 i) 0 199 ((3 + i : Nat) : Int) = true := ia_199 Si (by omega) (by omega)
    have w1 : w32 (3 + (i : Int)) = ((3 + i : Nat) : Int) := by rw [w32_id (by omega) (by omega)]; omega
    show f_X12_stands_L2 173 (i : Int) (cpO g 199 3 i) = _
    unfold f_X12_stands_L2
    rw [if_pos (by clear w1; omega), gM Si, gM Si, pt_173_34 Si]
    refine (bnd (xal_eq (a := 199) ia (cpO_lo hi))).trans ?_
    rw [w1]
    refine (bnd (xas_eq (a := 199) ib)).trans ?_
    clear w1
    rw [w32_id (by omega) (by omega)]
    rfl) (by
    show f_X12_stands_L2 173 3 (cpO g 199 3 3) = _
    unfold f_X12_stands_L2
    rw [if_neg (by omega)]) (by decide)
theorem r_L29 {g : xa_H} (S : SH g) : xit (fun s => f_X12_stands_L29 173 s.1 s.2) xFU (0, g) = some (cpO g 200 12 12) :=
  xit_seq (f := fun s : Int × xa_H => f_X12_stands_L29 173 s.1 s.2) (fun i => ((i : Int), cpO g 200 12 i)) 12 _ (fun i hi => by
    have Si := cpO_S (off := 12) S (a := 200) (by decide +kernel) i
    have ia : xia (cpO g 200 12 i) 1 200 (i : Int) = true := ia_200 Si (by omega) (by omega)
    have ib : xia (cpO g 200 12 i) 1 200 ((12 + i : Nat) : Int) = true := ia_200 Si (by omega) (by omega)
    have w1 : w32 (12 + (i : Int)) = ((12 + i : Nat) : Int) := by rw [w32_id (by omega) (by omega)]; omega
    show f_X12_stands_L29 173 (i : Int) (cpO g 200 12 i) = _
    unfold f_X12_stands_L29
    rw [if_pos (by clear w1; omega), gM Si, gM Si, pt_173_35 Si]
    refine (bnd (xal_eq (a := 200) ia (cpO_lo hi))).trans ?_
    rw [w1]
    refine (bnd (xas_eq (a := 200) ib)).trans ?_
    clear w1
    rw [w32_id (by omega) (by omega)]
    rfl) (by
    show f_X12_stands_L29 173 12 (cpO g 200 12 12) = _
    unfold f_X12_stands_L29
    rw [if_neg (by omega)]) (by decide)
theorem r_L117 {g : xa_H} (S : SH g) : xit (fun s => f_X12_stands_L117 173 s.1 s.2) xFU (0, g) = some (cpO g 206 36 36) :=
  xit_seq (f := fun s : Int × xa_H => f_X12_stands_L117 173 s.1 s.2) (fun i => ((i : Int), cpO g 206 36 i)) 36 _ (fun i hi => by
    have Si := cpO_S (off := 36) S (a := 206) (by decide +kernel) i
    have ia : xia (cpO g 206 36 i) 0 206 (i : Int) = true := ia_206 Si (by omega) (by omega)
    have ib : xia (cpO g 206 36 i) 0 206 ((36 + i : Nat) : Int) = true := ia_206 Si (by omega) (by omega)
    have w1 : w32 (36 + (i : Int)) = ((36 + i : Nat) : Int) := by rw [w32_id (by omega) (by omega)]; omega
    show f_X12_stands_L117 173 (i : Int) (cpO g 206 36 i) = _
    unfold f_X12_stands_L117
    rw [if_pos (by clear w1; omega), gM Si, gM Si, pt_173_41 Si]
    refine (bnd (xal_eq (a := 206) ia (cpO_lo hi))).trans ?_
    rw [w1]
    refine (bnd (xas_eq (a := 206) ib)).trans ?_
    clear w1
    rw [w32_id (by omega) (by omega)]
    rfl) (by
    show f_X12_stands_L117 173 36 (cpO g 206 36 36) = _
    unfold f_X12_stands_L117
    rw [if_neg (by omega)]) (by decide)
theorem r_L199 {g : xa_H} (S : SH g) {n : Nat} (hn : xm g 173 47 = (n : Int)) (h16 : n ≤ 1600) : xit (fun s => f_X12_stands_L199 173 s.1 s.2) xFU (0, g) = some (cpO g 211 1600 n) :=
  xit_seq (f := fun s : Int × xa_H => f_X12_stands_L199 173 s.1 s.2) (fun i => ((i : Int), cpO g 211 1600 i)) n _ (fun i hi => by
    have Si := cpO_S (off := 1600) S (a := 211) (by decide +kernel) i
    have ia : xia (cpO g 211 1600 i) 0 211 (i : Int) = true := ia_211 Si (by omega) (by omega)
    have ib : xia (cpO g 211 1600 i) 0 211 ((1600 + i : Nat) : Int) = true := ia_211 Si (by omega) (by omega)
    have c : xm (cpO g 211 1600 i) 173 47 = (n : Int) := by rw [cpO_m, if_neg (by omega)]; exact hn
    have w1 : w32 (1600 + (i : Int)) = ((1600 + i : Nat) : Int) := by rw [w32_id (by omega) (by omega)]; omega
    show f_X12_stands_L199 173 (i : Int) (cpO g 211 1600 i) = _
    unfold f_X12_stands_L199
    rw [gM Si, c, if_pos (by clear w1; omega), gM Si, gM Si, pt_173_46 Si]
    refine (bnd (xal_eq (a := 211) ia (cpO_lo (by clear w1; omega)))).trans ?_
    rw [w1]
    refine (bnd (xas_eq (a := 211) ib)).trans ?_
    clear w1
    rw [w32_id (by omega) (by omega)]
    rfl) (by
    have Si := cpO_S (off := 1600) S (a := 211) (by decide +kernel) n
    have c : xm (cpO g 211 1600 n) 173 47 = (n : Int) := by rw [cpO_m, if_neg (by omega)]; exact hn
    show f_X12_stands_L199 173 (n : Int) (cpO g 211 1600 n) = _
    unfold f_X12_stands_L199
    rw [gM Si, c, if_neg (by omega)]) (by omega)
theorem r_L231 {g : xa_H} (S : SH g) : xit (fun s => f_X12_stands_L231 173 s.1 s.2) xFU (0, g) = some (flG g 212 0 176) :=
  xit_seq (f := fun s : Int × xa_H => f_X12_stands_L231 173 s.1 s.2) (fun i => ((i : Int), flG g 212 0 i)) 176 _ (fun i hi => by
    have Si := flG_S (v := 0) S (a := 212) (by decide +kernel) i
    have ia : xia (flG g 212 0 i) 0 212 (i : Int) = true := ia_212 Si (by omega) (by omega)
    show f_X12_stands_L231 173 (i : Int) (flG g 212 0 i) = _
    unfold f_X12_stands_L231
    rw [if_pos (by omega), gM Si, pt_173_50 Si]
    refine (bnd (xas_eq (a := 212) ia)).trans ?_
    rw [w32_id (by omega) (by omega)]
    rfl) (by
    show f_X12_stands_L231 173 176 (flG g 212 0 176) = _
    unfold f_X12_stands_L231
    rw [if_neg (by omega)]) (by decide)
