/-! ===== Math.floorDiv ===== -/
/-- what Math.floorDiv does -/
def fdJ (a b : Int) : Option Int := if b = 0 then none else if xxor a b < 0 then (if w32 (w32 (a.tdiv b) * b) = a then some (w32 (a.tdiv b)) else some (w32 (w32 (a.tdiv b) - 1))) else some (w32 (a.tdiv b))
theorem fd_w {z : Int} (h1 : -2147483648 ≤ z) (h2 : z < 2147483648) : w32 z = z := by
  unfold w32
  rw [Int.bmod_def]
  have : z % ((4294967296 : Nat) : Int) = if 0 ≤ z then z else z + 4294967296 := by
    split <;> omega
  rw [this]
  split <;> split <;> omega
theorem fd_sign {a b : Int} (a1 : -2147483648 ≤ a) (a2 : a < 2147483648) (b1 : -2147483648 ≤ b) (b2 : b < 2147483648) : xxor a b < 0 ↔ ¬ (a < 0 ↔ b < 0) := by
  have ea : (Int32.ofInt a).toInt = a := Int32.toInt_ofInt_of_le (by omega) (by omega)
  have eb : (Int32.ofInt b).toInt = b := Int32.toInt_ofInt_of_le (by omega) (by omega)
  unfold xxor xb2
  have m := @BitVec.msb_xor _ (Int32.ofInt a).toBitVec (Int32.ofInt b).toBitVec
  rw [← Int32.toBitVec_xor] at m
  simp only [BitVec.msb_eq_toInt, Int32.toInt_toBitVec] at m
  rw [ea, eb] at m
  by_cases p : (Int32.ofInt a ^^^ Int32.ofInt b).toInt < 0 <;> by_cases q : a < 0 <;> by_cases r : b < 0 <;> simp [p, q, r] at m ⊢
theorem fd_q {a b : Int} (a1 : -2147483648 ≤ a) (a2 : a < 2147483648) (hb : b ≠ 0) (s : ¬ (a < 0 ↔ b < 0)) : -2147483648 ≤ a.tdiv b ∧ a.tdiv b ≤ 0 := by
  have h := Int.natAbs_tdiv a b
  have l : a.natAbs.div b.natAbs ≤ a.natAbs := Nat.div_le_self _ _
  have neg : a.tdiv b ≤ 0 := by
    by_cases p : a < 0
    · have hb2 : 0 < b := by omega
      have e : a.tdiv b = -((-a).tdiv b) := by rw [Int.neg_tdiv, Int.neg_neg]
      have := Int.tdiv_nonneg (a := -a) (b := b) (by omega) (by omega)
      omega
    · have e : a.tdiv b = -(a.tdiv (-b)) := by rw [Int.tdiv_neg, Int.neg_neg]
      have := Int.tdiv_nonneg (a := a) (b := -b) (by omega) (by omega)
      omega
  omega
theorem fdJ_eq {a b : Int} (a1 : -2147483648 ≤ a) (a2 : a < 2147483648) (b1 : -2147483648 ≤ b) (b2 : b < 2147483648) : fdJ a b = xfd a b := by
  unfold fdJ xfd
  by_cases hb : b = 0
  · rw [if_pos hb, if_pos hb]
  rw [if_neg hb, if_neg hb]
  by_cases s : a < 0 ↔ b < 0
  · rw [if_neg (fun q => (fd_sign a1 a2 b1 b2).1 q s), Int.fdiv_eq_tdiv]
    split
    · rw [Int.sub_zero]
    · split
      · rw [if_pos (by omega), Int.sub_zero]
      · rw [if_neg (by omega)]
        have : b.sign = -1 := Int.sign_eq_neg_one_of_neg (by omega)
        rw [this, show (1 : Int) + -1 = 0 from rfl, Int.sub_zero]
  · rw [if_pos ((fd_sign a1 a2 b1 b2).2 s)]
    obtain ⟨q1, q2⟩ := fd_q a1 a2 hb s
    rw [fd_w (z := a.tdiv b) q1 (by omega)]
    have tm := Int.tmod_add_tdiv_mul a b
    have dv : b ∣ a ↔ a.tmod b = 0 := Int.dvd_iff_tmod_eq_zero
    have rg : -2147483648 ≤ a.tdiv b * b ∧ a.tdiv b * b < 2147483648 := by
      have h : (a.tdiv b * b).natAbs ≤ a.natAbs := by
        rw [Int.natAbs_mul, Int.natAbs_tdiv]
        exact Nat.div_mul_le_self _ _
      by_cases p : a < 0
      · have := Int.mul_le_mul_of_nonneg_right q2 (show 0 ≤ b by omega)
        rw [Int.zero_mul] at this
        omega
      · omega
    rw [fd_w rg.1 rg.2, Int.fdiv_eq_tdiv]
    by_cases d : b ∣ a
    · have := dv.1 d
      rw [if_pos d, Int.sub_zero, if_pos (by omega), fd_w q1 (by omega)]
    · have : a.tmod b ≠ 0 := fun h => d (dv.2 h)
      rw [if_neg d, if_neg (by omega)]
      by_cases p : 0 ≤ a
      · rw [if_pos p, if_neg (by omega)]
      · have : b.sign = 1 := Int.sign_eq_one_of_pos (by omega)
        rw [if_neg p, if_pos (by omega), this]
abbrev mJ9_floorDiv : xa_M := (cJ9_floorDiv_7cf53, 3, (some (.int)), RJ9, false)
theorem d_J9_0 : decode mJ9_floorDiv.1 0 = .ok (.iload_n 0, 1) ∧ 0 + 1 = 1 := ⟨by decide +kernel, rfl⟩
theorem d_J9_1 : decode mJ9_floorDiv.1 1 = .ok (.iload_n 1, 1) ∧ 1 + 1 = 2 := ⟨by decide +kernel, rfl⟩
theorem d_J9_2 : decode mJ9_floorDiv.1 2 = .ok (.idiv, 1) ∧ 2 + 1 = 3 := ⟨by decide +kernel, rfl⟩
theorem d_J9_3 : decode mJ9_floorDiv.1 3 = .ok (.istore_n 2, 1) ∧ 3 + 1 = 4 := ⟨by decide +kernel, rfl⟩
theorem d_J9_4 : decode mJ9_floorDiv.1 4 = .ok (.iload_n 0, 1) ∧ 4 + 1 = 5 := ⟨by decide +kernel, rfl⟩
theorem d_J9_5 : decode mJ9_floorDiv.1 5 = .ok (.iload_n 1, 1) ∧ 5 + 1 = 6 := ⟨by decide +kernel, rfl⟩
theorem d_J9_6 : decode mJ9_floorDiv.1 6 = .ok (.ixor, 1) ∧ 6 + 1 = 7 := ⟨by decide +kernel, rfl⟩
theorem d_J9_10 : decode mJ9_floorDiv.1 10 = .ok (.iload_n 2, 1) ∧ 10 + 1 = 11 := ⟨by decide +kernel, rfl⟩
theorem d_J9_11 : decode mJ9_floorDiv.1 11 = .ok (.iload_n 1, 1) ∧ 11 + 1 = 12 := ⟨by decide +kernel, rfl⟩
theorem d_J9_12 : decode mJ9_floorDiv.1 12 = .ok (.imul, 1) ∧ 12 + 1 = 13 := ⟨by decide +kernel, rfl⟩
theorem d_J9_13 : decode mJ9_floorDiv.1 13 = .ok (.iload_n 0, 1) ∧ 13 + 1 = 14 := ⟨by decide +kernel, rfl⟩
theorem d_J9_17 : decode mJ9_floorDiv.1 17 = .ok (.iload_n 2, 1) ∧ 17 + 1 = 18 := ⟨by decide +kernel, rfl⟩
theorem d_J9_18 : decode mJ9_floorDiv.1 18 = .ok (.iconst 1, 1) ∧ 18 + 1 = 19 := ⟨by decide +kernel, rfl⟩
theorem d_J9_19 : decode mJ9_floorDiv.1 19 = .ok (.isub, 1) ∧ 19 + 1 = 20 := ⟨by decide +kernel, rfl⟩
theorem d_J9_21 : decode mJ9_floorDiv.1 21 = .ok (.iload_n 2, 1) ∧ 21 + 1 = 22 := ⟨by decide +kernel, rfl⟩
theorem d_J9_7 : decode mJ9_floorDiv.1 7 = .ok (.ifCond .ge 14, 3) ∧ 7 + 3 = 10 ∧ ((7 : Nat) : Int) + 14 = ((21 : Nat) : Int) := ⟨by decide +kernel, rfl, rfl⟩
theorem d_J9_14 : decode mJ9_floorDiv.1 14 = .ok (.if_icmp .eq 7, 3) ∧ 14 + 3 = 17 ∧ ((14 : Nat) : Int) + 7 = ((21 : Nat) : Int) := ⟨by decide +kernel, rfl, rfl⟩
theorem d_J9_20 : decode mJ9_floorDiv.1 20 = .ok (.ireturn, 1) := by decide +kernel
theorem d_J9_22 : decode mJ9_floorDiv.1 22 = .ok (.ireturn, 1) := by decide +kernel
theorem g_J9_floorDiv (l : Launch) (G : xa_C) (a b : Int) (h : xa_H) : xa_G l G 2 mJ9_floorDiv (fdJ a b) (fun r => some (some (xI r), h) : Int → Option xa_O) 0 [some (xI a), some (xI b), none] [] h := by
  unfold fdJ
  refine xa_case (fun q0 => ?_) (fun q0 => ?_)
  · exact xa_none
  · refine xa_step (xa_iload_n d_J9_0 rfl) ?_
    refine xa_step (xa_iload_n d_J9_1 rfl) ?_
    refine xa_step (xa_idiv d_J9_2 q0) ?_
    refine xa_step (xa_istore_n (ls' := [some (xI a), some (xI b), some (xI (w32 (a.tdiv b)))]) d_J9_3 (by decide) rfl) ?_
    refine xa_step (xa_iload_n d_J9_4 rfl) ?_
    refine xa_step (xa_iload_n d_J9_5 rfl) ?_
    refine xa_step (xa_ixor d_J9_6) ?_
    refine xa_if (xa_ifge d_J9_7) (fun q1 => ?_) (fun q1 => ?_)
    · refine xa_step (xa_iload_n d_J9_10 rfl) ?_
      refine xa_step (xa_iload_n d_J9_11 rfl) ?_
      refine xa_step (xa_imul d_J9_12) ?_
      refine xa_step (xa_iload_n d_J9_13 rfl) ?_
      refine xa_if (xa_icmpeq d_J9_14) (fun q2 => ?_) (fun q2 => ?_)
      · refine xa_step (xa_iload_n d_J9_21 rfl) ?_
        exact xa_iret d_J9_22 rfl rfl
      · refine xa_step (xa_iload_n d_J9_17 rfl) ?_
        refine xa_step (xa_iconst d_J9_18 xq_i_1) ?_
        refine xa_step (xa_isub d_J9_19) ?_
        exact xa_iret d_J9_20 rfl rfl
    · refine xa_step (xa_iload_n d_J9_21 rfl) ?_
      exact xa_iret d_J9_22 rfl rfl
section XR8
variable {l : Launch} {G : xa_C} {d : Nat} {M : xa_M} {α : Type} {E : Option α} {F : α → Option xa_O} {ls : List (Option xa_V)} {h : xa_H}
/-- the contract of a method without a row of the machine's own, whatever its class -/
theorem xa_metF {y : MethodName} {as : List xa_V} (hy : plainFor y = true) (hown : y.cls = M.2.2.2.1) (hin : M.2.2.2.2 = true → y.name = "<init>") (hn : (xa_e0 as).length ≤ M.2.1) (hls : xa_en as M.2.1 = ls) (k : xa_G l G d M E F 0 ls [] h) {o : xa_O} (ho : E.bind F = some o) : xa_CT l G d M y as h o := by
  obtain ⟨h1, h2⟩ := k o ho
  refine ⟨h1, ?_⟩
  refine MetFree.of_bodySF (code := M.1) (maxLocals := M.2.1) (ret := M.2.2.1) hy ?_ ?_
  · intro args s m hb hn
    obtain ⟨meth, c, g1, g2, g3, g4, g5, g6, -, -⟩ := Cond.code_spec hn (atoms_spec (ws := Cond.code y M.1 M.2.1 M.2.2.1 :: xa_W) hb _ List.mem_cons_self)
    exact ⟨meth, c, g1, g2, g3, g4, g5, g6⟩
  · intro p e s m args below meth c s₁ B hml hP _
    obtain ⟨⟨cs, rfl, hv⟩, hrel, hK⟩ := hP
    have hh0 : s₁.heap = s.heap := by rw [B.state]; rfl
    have hts := atoms_spec (ws := Cond.code y M.1 M.2.1 M.2.2.1 :: xa_W) B.pre
    have hw := h2 (xn h) (xz h) (Nat.le_refl _) (Nat.le_refl _) p e s m cs.toArray below meth c s.heap [] ((lg_sl cs ++ List.replicate (M.2.1 - (lg_sl cs).length) Slot.unset).toArray) []
      ⟨B.exec, B.bytes, hml, by rw [← hown]; exact findClass_of_methodNamed B.named, fun w hw => hts w (List.mem_cons_of_mem _ hw), hK, B.returns, B.notSynchronized, fun hi => (name_of_methodNamed B.named B.method).1.trans (hin hi)⟩
      (by rw [← hls]; exact xa_en_l hv hn) rfl hrel (fun q hq => by simp at hq)
    rw [Nat.sub_self, Nat.sub_self] at hw
    rw [lg_entry_eq]
    obtain ⟨t, a1, o', b1, b2, b3⟩ := hw s₁ hh0 (Stand.of_body B)
    exact ⟨t, o', a1, b1, b2, ⟨b3.1, b3.2⟩⟩
end XR8
theorem ct_J9_floorDiv (l : Launch) (G : xa_C) (a b : Int) (h : xa_H) (r : Int) (hr : fdJ a b = some r) : xa_CT l G 2 mJ9_floorDiv yJ9_floorDiv_7cf53 [xI a, xI b] h (some (xI r), h) :=
  xa_metF (by decide +kernel) rfl (fun q => by first | rfl | cases q) (Nat.le_of_ble_eq_true rfl) rfl (g_J9_floorDiv l G a b h) (by rw [hr]; rfl)
theorem xh_J9_floorDiv : yJ9_floorDiv_7cf53.cls ≠ "java/lang/invoke/MethodHandle" ∧ yJ9_floorDiv_7cf53.cls ≠ "java/lang/invoke/VarHandle" ∧ (parseMethodDescriptor yJ9_floorDiv_7cf53.desc).map (fun d => d.parameters.length) = some 2 := ⟨by decide +kernel, by decide +kernel, by decide +kernel⟩
section XR9
variable {l : Launch} {G : xa_C} {d : Nat} {M : xa_M} {α β : Type} {F : α → Option xa_O} {pc pc' : Nat} {ls ls' : List (Option xa_V)} {st st' : List xa_V} {h : xa_H}
theorem xa_mfd {a b : Int} {E : Int → Option α} {idx : Nat} (wl : Cond.methodLink M.2.2.2.1 idx yJ9_floorDiv_7cf53 ∈ xa_W) (ws : Cond.static yJ9_floorDiv_7cf53 ∈ xa_W) (wz : Cond.initialized "java/lang/Math" ∈ xa_W) (wc : Cond.code yJ9_floorDiv_7cf53 cJ9_floorDiv_7cf53 3 (some .int) ∈ xa_W) (hd2 : 3 ≤ d) (hst : xa_cs st ≤ 8) (hd : decode M.1 pc = .ok (.invokestatic idx, 3) ∧ pc + 3 = pc') (kk : ∀ v, xfd a b = some v → xa_G l G d M (E v) F pc' ls (xI v :: st) h) : xa_G l G d M ((xfd a b).bind E) F pc ls (xI b :: xI a :: st) h := by
  intro o ho
  have ho' : ∃ v, xfd a b = some v ∧ (E v).bind F = some o := by
    cases hv : xfd a b with
    | none => rw [hv] at ho; cases ho
    | some v => rw [hv] at ho; exact ⟨v, rfl, ho⟩
  obtain ⟨v, hv, ho1⟩ := ho'
  obtain ⟨k1, k2⟩ := kk v hv o ho1
  refine ⟨k1, fun n0 z0 q1 q2 p e s m args below meth c H locs lc cs hf hl hvs hr hq => ?_⟩
  have hvs' := hvs
  obtain ⟨c1, cs1, -, ⟨x, -, ex⟩, c2, cs2, -, ⟨y, -, ey⟩, -⟩ := hvs'
  have x1 := x.le_toInt
  have x2 := x.toInt_lt
  have y1 := y.le_toInt
  have y2 := y.toInt_lt
  have eq := fdJ_eq (a := a) (b := b) (by omega) (by omega) (by omega) (by omega)
  have G2 : xa_G l G d M ((fdJ a b).bind E) F pc ls (xI b :: xI a :: st) h := xa_callSi (as := [xI a, xI b]) (st := st) (M' := mJ9_floorDiv) (d' := 2) wl ws wc wz xh_J9_floorDiv rfl ⟨by omega, by show 8 + (3 + 11) + 64 * 2 ≤ 64 * d; omega⟩ hst rfl hd (fun r hr => ct_J9_floorDiv l G a b h r hr) (fun r hr => kk r (by rw [← eq]; exact hr))
  exact (G2 o (by rw [eq]; exact ho)).2 n0 z0 q1 q2 p e s m args below meth c H locs lc cs hf hl hvs hr hq
end XR9
