abbrev mX12_areSettled : xa_M := (cX12_areSettled, 2, (some (.boolean)), RX12, false)
theorem d_X12_areSettled_0 : decode mX12_areSettled.1 0 = .ok (.iconst 0, 1) ∧ 0 + 1 = 1 := ⟨by decide +kernel, rfl⟩
theorem d_X12_areSettled_1 : decode mX12_areSettled.1 1 = .ok (.istore_n 1, 1) ∧ 1 + 1 = 2 := ⟨by decide +kernel, rfl⟩
theorem d_X12_areSettled_2 : decode mX12_areSettled.1 2 = .ok (.iload_n 1, 1) ∧ 2 + 1 = 3 := ⟨by decide +kernel, rfl⟩
theorem d_X12_areSettled_3 : decode mX12_areSettled.1 3 = .ok (.aload_n 0, 1) ∧ 3 + 1 = 4 := ⟨by decide +kernel, rfl⟩
theorem d_X12_areSettled_4 : decode mX12_areSettled.1 4 = .ok (.invokevirtual 402, 3) ∧ 4 + 3 = 7 := ⟨by decide +kernel, rfl⟩
theorem d_X12_areSettled_7 : decode mX12_areSettled.1 7 = .ok (.if_icmp .ge 29, 3) ∧ 7 + 3 = 10 ∧ ((7 : Nat) : Int) + 29 = ((36 : Nat) : Int) := ⟨by decide +kernel, rfl, rfl⟩
theorem d_X12_areSettled_10 : decode mX12_areSettled.1 10 = .ok (.aload_n 0, 1) ∧ 10 + 1 = 11 := ⟨by decide +kernel, rfl⟩
theorem d_X12_areSettled_11 : decode mX12_areSettled.1 11 = .ok (.aload_n 0, 1) ∧ 11 + 1 = 12 := ⟨by decide +kernel, rfl⟩
theorem d_X12_areSettled_12 : decode mX12_areSettled.1 12 = .ok (.getfield 149, 3) ∧ 12 + 3 = 15 := ⟨by decide +kernel, rfl⟩
theorem d_X12_areSettled_15 : decode mX12_areSettled.1 15 = .ok (.iload_n 1, 1) ∧ 15 + 1 = 16 := ⟨by decide +kernel, rfl⟩
theorem d_X12_areSettled_16 : decode mX12_areSettled.1 16 = .ok (.iaload, 1) ∧ 16 + 1 = 17 := ⟨by decide +kernel, rfl⟩
theorem d_X12_areSettled_17 : decode mX12_areSettled.1 17 = .ok (.invokevirtual 405, 3) ∧ 17 + 3 = 20 := ⟨by decide +kernel, rfl⟩
theorem d_X12_areSettled_20 : decode mX12_areSettled.1 20 = .ok (.aload_n 0, 1) ∧ 20 + 1 = 21 := ⟨by decide +kernel, rfl⟩
theorem d_X12_areSettled_21 : decode mX12_areSettled.1 21 = .ok (.iload_n 1, 1) ∧ 21 + 1 = 22 := ⟨by decide +kernel, rfl⟩
theorem d_X12_areSettled_22 : decode mX12_areSettled.1 22 = .ok (.invokevirtual 408, 3) ∧ 22 + 3 = 25 := ⟨by decide +kernel, rfl⟩
theorem d_X12_areSettled_25 : decode mX12_areSettled.1 25 = .ok (.if_icmp .eq 5, 3) ∧ 25 + 3 = 28 ∧ ((25 : Nat) : Int) + 5 = ((30 : Nat) : Int) := ⟨by decide +kernel, rfl, rfl⟩
theorem d_X12_areSettled_30 : decode mX12_areSettled.1 30 = .ok (.iinc 1 1, 3) ∧ 30 + 3 = 33 := ⟨by decide +kernel, rfl⟩
theorem d_X12_areSettled_33 : decode mX12_areSettled.1 33 = .ok (.goto (-31), 3) ∧ ((33 : Nat) : Int) + (-31) = ((2 : Nat) : Int) := ⟨by decide +kernel, rfl⟩
theorem d_X12_areSettled_28 : decode mX12_areSettled.1 28 = .ok (.iconst 0, 1) ∧ 28 + 1 = 29 := ⟨by decide +kernel, rfl⟩
theorem d_X12_areSettled_29 : decode mX12_areSettled.1 29 = .ok (.ireturn, 1) := by decide +kernel
set_option maxRecDepth 100000 in
set_option maxHeartbeats 4000000 in
theorem g_X12_areSettled_L2 (l : Launch) (G : xa_C) (c0 : Int) (h : xa_H) (K : (Int) ⊕ ((Int) ⊕ (Unit)) → Option xa_O) (hb : ∀ (v1 : Int), xa_G l G 3 mX12_areSettled (some (Sum.inl v1)) K 2 [some (xR c0), some (xI v1)] [] h) (hr : ∀ r : Int, K (Sum.inr (Sum.inl r)) = some (some (xI r), h)) (hx : xa_G l G 3 mX12_areSettled (some (Sum.inr (Sum.inr (())))) K 36 [none, none] [] h) : ∀ (v1 : Int), xa_G l G 3 mX12_areSettled (f_X12_areSettled_L2 c0 h v1) K 2 [some (xR c0), some (xI v1)] [] h := by
  intro v1
  unfold f_X12_areSettled_L2
  refine xa_step (xa_iload_n d_X12_areSettled_2 rfl) ?_
  refine xa_step (xa_aload_n d_X12_areSettled_3 rfl) ?_
  refine xa_callVi (as := []) (st := [xI v1]) (M' := mX12_holderMany) (d' := 2) rfl xw_1836 xw_1838 xw_108 xw_1839 xw_177 xh_X12_holderMany rfl ⟨Nat.le_of_ble_eq_true rfl, Nat.le_of_ble_eq_true rfl⟩ (Nat.le_of_ble_eq_true rfl) rfl d_X12_areSettled_4 (fun r hr => ct_X12_holderMany l G c0 h r hr) (fun r1 _ => ?_)
  refine xa_if (xa_icmpge d_X12_areSettled_7) (fun q2 => ?_) (fun q2 => ?_)
  · refine xa_step (xa_aload_n d_X12_areSettled_10 rfl) ?_
    refine xa_step (xa_aload_n d_X12_areSettled_11 rfl) ?_
    refine xa_getf xR xc_12 (by decide) (fun _ => rfl) xw_1370 rfl d_X12_areSettled_12 (fun x3 _ => ?_)
    refine xa_step (xa_iload_n d_X12_areSettled_15 rfl) ?_
    refine xa_iaload d_X12_areSettled_16 (fun x4 _ => ?_)
    refine xa_callVi (as := [xI x4]) (st := []) (M' := mX12_hadBy) (d' := 2) rfl xw_1844 xw_1846 xw_110 xw_1847 xw_177 xh_X12_hadBy rfl ⟨Nat.le_of_ble_eq_true rfl, Nat.le_of_ble_eq_true rfl⟩ (Nat.le_of_ble_eq_true rfl) rfl d_X12_areSettled_17 (fun r hr => ct_X12_hadBy l G c0 x4 h r hr) (fun r5 _ => ?_)
    refine xa_step (xa_aload_n d_X12_areSettled_20 rfl) ?_
    refine xa_step (xa_iload_n d_X12_areSettled_21 rfl) ?_
    refine xa_callVi (as := [xI v1]) (st := [xI r5]) (M' := mX12_wantedBy) (d' := 2) rfl xw_1848 xw_1850 xw_111 xw_1851 xw_177 xh_X12_wantedBy rfl ⟨Nat.le_of_ble_eq_true rfl, Nat.le_of_ble_eq_true rfl⟩ (Nat.le_of_ble_eq_true rfl) rfl d_X12_areSettled_22 (fun r hr => ct_X12_wantedBy l G c0 v1 h r hr) (fun r6 _ => ?_)
    refine xa_if (xa_icmpeq d_X12_areSettled_25) (fun q7 => ?_) (fun q7 => ?_)
    · refine xa_step (xa_iinc (ls' := [some (xR c0), some (xI (w32 (v1 + 1)))]) d_X12_areSettled_30 xq_i_1 rfl (by decide) rfl) ?_
      refine xa_step (xa_goto d_X12_areSettled_33) ?_
      exact xa_weak (ls' := [some (xR c0), some (xI (w32 (v1 + 1)))]) ⟨rfl, rfl, trivial⟩ (hb (w32 (v1 + 1)))
    · refine xa_step (xa_iconst d_X12_areSettled_28 xq_i_0) ?_
      exact xa_zret d_X12_areSettled_29 rfl (Or.inl rfl) (hr _)
  · exact xa_weak (ls' := [none, none]) trivial (hx )
theorem d_X12_areSettled_36 : decode mX12_areSettled.1 36 = .ok (.iconst 1, 1) ∧ 36 + 1 = 37 := ⟨by decide +kernel, rfl⟩
theorem d_X12_areSettled_37 : decode mX12_areSettled.1 37 = .ok (.ireturn, 1) := by decide +kernel
set_option maxRecDepth 100000 in
set_option maxHeartbeats 4000000 in
theorem g_X12_areSettled (l : Launch) (G : xa_C) (v0 : Int) (h : xa_H) : xa_G l G 3 mX12_areSettled (f_X12_areSettled v0 h) (fun r => some (some (xI r), h) : Int → Option xa_O) 0 [some (xR v0), none] [] h := by
  unfold f_X12_areSettled
  refine xa_step (xa_iconst d_X12_areSettled_0 xq_i_0) ?_
  refine xa_step (xa_istore_n (ls' := [some (xR v0), some (xI 0)]) d_X12_areSettled_1 (by decide) rfl) ?_
  refine xa_weak (ls' := [some (xR v0), some (xI 0)]) ⟨rfl, rfl, trivial⟩ ?_
  refine xa_loop (f := fun s => f_X12_areSettled_L2 v0 h s) (L := fun s => [some (xR v0), some (xI s)]) (P := fun s => h) (X := (fun e K => match e with | Sum.inl r => K (Sum.inr (Sum.inl r)) = some (some (xI r), h) | Sum.inr x => xa_G l G 3 mX12_areSettled (some (Sum.inr (Sum.inr x))) K 36 [none, none] [] h)) (fun K hb hX s => g_X12_areSettled_L2 l G v0 h K (fun w0 => hb w0) (fun r => hX (Sum.inl r)) (hX (Sum.inr ())) s) ?_ xFU 0
  rintro (r | y9) K hK
  · exact hK.trans rfl
  · refine xa_eqE hK ?_
    show xa_G l G 3 mX12_areSettled _ _ 36 [none, none] [] h
    refine xa_step (xa_iconst d_X12_areSettled_36 xq_i_1) ?_
    exact xa_zret d_X12_areSettled_37 rfl (Or.inr rfl) rfl
theorem ct_X12_areSettled (l : Launch) (G : xa_C) (v0 : Int) (h : xa_H) (r : Int) (hr : f_X12_areSettled v0 h = some r) : xa_CT l G 3 mX12_areSettled yX12_areSettled [xR v0] h (some (xI r), h) :=
  xa_met (by decide +kernel) rfl (fun q => by first | rfl | cases q) (Nat.le_of_ble_eq_true rfl) rfl (g_X12_areSettled l G v0 h) (by rw [hr]; rfl)
abbrev mX12_stateOf : xa_M := (cX12_stateOf, 3, (some (.int)), RX12, false)
theorem d_X12_stateOf_0 : decode mX12_stateOf.1 0 = .ok (.iconst 0, 1) ∧ 0 + 1 = 1 := ⟨by decide +kernel, rfl⟩
theorem d_X12_stateOf_1 : decode mX12_stateOf.1 1 = .ok (.istore_n 1, 1) ∧ 1 + 1 = 2 := ⟨by decide +kernel, rfl⟩
theorem d_X12_stateOf_2 : decode mX12_stateOf.1 2 = .ok (.aload_n 0, 1) ∧ 2 + 1 = 3 := ⟨by decide +kernel, rfl⟩
theorem d_X12_stateOf_3 : decode mX12_stateOf.1 3 = .ok (.invokevirtual 402, 3) ∧ 3 + 3 = 6 := ⟨by decide +kernel, rfl⟩
theorem d_X12_stateOf_6 : decode mX12_stateOf.1 6 = .ok (.iconst 1, 1) ∧ 6 + 1 = 7 := ⟨by decide +kernel, rfl⟩
theorem d_X12_stateOf_7 : decode mX12_stateOf.1 7 = .ok (.isub, 1) ∧ 7 + 1 = 8 := ⟨by decide +kernel, rfl⟩
theorem d_X12_stateOf_8 : decode mX12_stateOf.1 8 = .ok (.istore_n 2, 1) ∧ 8 + 1 = 9 := ⟨by decide +kernel, rfl⟩
theorem d_X12_stateOf_9 : decode mX12_stateOf.1 9 = .ok (.iload_n 2, 1) ∧ 9 + 1 = 10 := ⟨by decide +kernel, rfl⟩
theorem d_X12_stateOf_10 : decode mX12_stateOf.1 10 = .ok (.ifCond .lt 21, 3) ∧ 10 + 3 = 13 ∧ ((10 : Nat) : Int) + 21 = ((31 : Nat) : Int) := ⟨by decide +kernel, rfl, rfl⟩
theorem d_X12_stateOf_13 : decode mX12_stateOf.1 13 = .ok (.bipush 6, 2) ∧ 13 + 2 = 15 := ⟨by decide +kernel, rfl⟩
theorem d_X12_stateOf_15 : decode mX12_stateOf.1 15 = .ok (.iload_n 1, 1) ∧ 15 + 1 = 16 := ⟨by decide +kernel, rfl⟩
theorem d_X12_stateOf_16 : decode mX12_stateOf.1 16 = .ok (.imul, 1) ∧ 16 + 1 = 17 := ⟨by decide +kernel, rfl⟩
theorem d_X12_stateOf_17 : decode mX12_stateOf.1 17 = .ok (.aload_n 0, 1) ∧ 17 + 1 = 18 := ⟨by decide +kernel, rfl⟩
theorem d_X12_stateOf_18 : decode mX12_stateOf.1 18 = .ok (.getfield 149, 3) ∧ 18 + 3 = 21 := ⟨by decide +kernel, rfl⟩
theorem d_X12_stateOf_21 : decode mX12_stateOf.1 21 = .ok (.iload_n 2, 1) ∧ 21 + 1 = 22 := ⟨by decide +kernel, rfl⟩
theorem d_X12_stateOf_22 : decode mX12_stateOf.1 22 = .ok (.iaload, 1) ∧ 22 + 1 = 23 := ⟨by decide +kernel, rfl⟩
theorem d_X12_stateOf_23 : decode mX12_stateOf.1 23 = .ok (.iadd, 1) ∧ 23 + 1 = 24 := ⟨by decide +kernel, rfl⟩
theorem d_X12_stateOf_24 : decode mX12_stateOf.1 24 = .ok (.istore_n 1, 1) ∧ 24 + 1 = 25 := ⟨by decide +kernel, rfl⟩
theorem d_X12_stateOf_25 : decode mX12_stateOf.1 25 = .ok (.iinc 2 (-1), 3) ∧ 25 + 3 = 28 := ⟨by decide +kernel, rfl⟩
theorem d_X12_stateOf_28 : decode mX12_stateOf.1 28 = .ok (.goto (-19), 3) ∧ ((28 : Nat) : Int) + (-19) = ((9 : Nat) : Int) := ⟨by decide +kernel, rfl⟩
set_option maxRecDepth 100000 in
set_option maxHeartbeats 4000000 in
theorem g_X12_stateOf_L9 (l : Launch) (G : xa_C) (c0 : Int) (h : xa_H) (K : (Int × Int) ⊕ (Int) → Option xa_O) (hb : ∀ (v1 : Int) (v2 : Int), xa_G l G 3 mX12_stateOf (some (Sum.inl ((v1, v2)))) K 9 [some (xR c0), some (xI v1), some (xI v2)] [] h) (hx : ∀ (v1 : Int), xa_G l G 3 mX12_stateOf (some (Sum.inr v1)) K 31 [none, some (xI v1), none] [] h) : ∀ (v1 : Int) (v2 : Int), xa_G l G 3 mX12_stateOf (f_X12_stateOf_L9 c0 h v1 v2) K 9 [some (xR c0), some (xI v1), some (xI v2)] [] h := by
  intro v1 v2
  unfold f_X12_stateOf_L9
  refine xa_step (xa_iload_n d_X12_stateOf_9 rfl) ?_
  refine xa_if (xa_iflt d_X12_stateOf_10) (fun q2 => ?_) (fun q2 => ?_)
  · exact xa_weak (ls' := [none, some (xI v1), none]) ⟨rfl, trivial⟩ (hx v1)
  · refine xa_step (xa_bipush d_X12_stateOf_13 xq_b_6) ?_
    refine xa_step (xa_iload_n d_X12_stateOf_15 rfl) ?_
    refine xa_step (xa_imul d_X12_stateOf_16) ?_
    refine xa_step (xa_aload_n d_X12_stateOf_17 rfl) ?_
    refine xa_getf xR xc_12 (by decide) (fun _ => rfl) xw_1370 rfl d_X12_stateOf_18 (fun x3 _ => ?_)
    refine xa_step (xa_iload_n d_X12_stateOf_21 rfl) ?_
    refine xa_iaload d_X12_stateOf_22 (fun x4 _ => ?_)
    refine xa_step (xa_iadd d_X12_stateOf_23) ?_
    refine xa_step (xa_istore_n (ls' := [some (xR c0), some (xI (w32 ((w32 (6 * v1)) + x4))), some (xI v2)]) d_X12_stateOf_24 (by decide) rfl) ?_
    refine xa_step (xa_iinc (ls' := [some (xR c0), some (xI (w32 ((w32 (6 * v1)) + x4))), some (xI (w32 (v2 + (-1))))]) d_X12_stateOf_25 xq_i_m1 rfl (by decide) rfl) ?_
    refine xa_step (xa_goto d_X12_stateOf_28) ?_
    exact xa_weak (ls' := [some (xR c0), some (xI (w32 ((w32 (6 * v1)) + x4))), some (xI (w32 (v2 + (-1))))]) ⟨rfl, rfl, rfl, trivial⟩ (hb (w32 ((w32 (6 * v1)) + x4)) (w32 (v2 + (-1))))
theorem d_X12_stateOf_31 : decode mX12_stateOf.1 31 = .ok (.iload_n 1, 1) ∧ 31 + 1 = 32 := ⟨by decide +kernel, rfl⟩
theorem d_X12_stateOf_32 : decode mX12_stateOf.1 32 = .ok (.ireturn, 1) := by decide +kernel
set_option maxRecDepth 100000 in
set_option maxHeartbeats 4000000 in
theorem g_X12_stateOf (l : Launch) (G : xa_C) (v0 : Int) (h : xa_H) : xa_G l G 3 mX12_stateOf (f_X12_stateOf v0 h) (fun r => some (some (xI r), h) : Int → Option xa_O) 0 [some (xR v0), none, none] [] h := by
  unfold f_X12_stateOf
  refine xa_step (xa_iconst d_X12_stateOf_0 xq_i_0) ?_
  refine xa_step (xa_istore_n (ls' := [some (xR v0), some (xI 0), none]) d_X12_stateOf_1 (by decide) rfl) ?_
  refine xa_step (xa_aload_n d_X12_stateOf_2 rfl) ?_
  refine xa_callVi (as := []) (st := []) (M' := mX12_holderMany) (d' := 2) rfl xw_1836 xw_1838 xw_108 xw_1839 xw_177 xh_X12_holderMany rfl ⟨Nat.le_of_ble_eq_true rfl, Nat.le_of_ble_eq_true rfl⟩ (Nat.le_of_ble_eq_true rfl) rfl d_X12_stateOf_3 (fun r hr => ct_X12_holderMany l G v0 h r hr) (fun r1 _ => ?_)
  refine xa_step (xa_iconst d_X12_stateOf_6 xq_i_1) ?_
  refine xa_step (xa_isub d_X12_stateOf_7) ?_
  refine xa_step (xa_istore_n (ls' := [some (xR v0), some (xI 0), some (xI (w32 (r1 - 1)))]) d_X12_stateOf_8 (by decide) rfl) ?_
  refine xa_weak (ls' := [some (xR v0), some (xI 0), some (xI (w32 (r1 - 1)))]) ⟨rfl, rfl, rfl, trivial⟩ ?_
  refine xa_loop (f := fun s => f_X12_stateOf_L9 v0 h s.1 s.2) (L := fun s => [some (xR v0), some (xI s.1), some (xI s.2)]) (P := fun s => h) (X := (fun x K => xa_G l G 3 mX12_stateOf (some (Sum.inr x)) K 31 [none, some (xI x), none] [] h)) (fun K hb hX s => g_X12_stateOf_L9 l G v0 h K (fun w0 w1 => hb ((w0, w1))) (fun w0 => hX w0) s.1 s.2) ?_ xFU ((0, w32 (r1 - 1)))
  intro e5 K hK
  refine xa_eqE hK ?_
  show xa_G l G 3 mX12_stateOf _ _ 31 [none, some (xI e5), none] [] h
  refine xa_step (xa_iload_n d_X12_stateOf_31 rfl) ?_
  exact xa_iret d_X12_stateOf_32 rfl rfl
theorem ct_X12_stateOf (l : Launch) (G : xa_C) (v0 : Int) (h : xa_H) (r : Int) (hr : f_X12_stateOf v0 h = some r) : xa_CT l G 3 mX12_stateOf yX12_stateOf [xR v0] h (some (xI r), h) :=
  xa_met (by decide +kernel) rfl (fun q => by first | rfl | cases q) (Nat.le_of_ble_eq_true rfl) rfl (g_X12_stateOf l G v0 h) (by rw [hr]; rfl)
abbrev mX12_comesTo : xa_M := (cX12_comesTo, 3, none, RX12, false)
theorem d_X12_comesTo_0 : decode mX12_comesTo.1 0 = .ok (.aload_n 0, 1) ∧ 0 + 1 = 1 := ⟨by decide +kernel, rfl⟩
theorem d_X12_comesTo_1 : decode mX12_comesTo.1 1 = .ok (.invokevirtual 520, 3) ∧ 1 + 3 = 4 := ⟨by decide +kernel, rfl⟩
theorem d_X12_comesTo_4 : decode mX12_comesTo.1 4 = .ok (.istore_n 2, 1) ∧ 4 + 1 = 5 := ⟨by decide +kernel, rfl⟩
theorem d_X12_comesTo_5 : decode mX12_comesTo.1 5 = .ok (.aload_n 0, 1) ∧ 5 + 1 = 6 := ⟨by decide +kernel, rfl⟩
theorem d_X12_comesTo_6 : decode mX12_comesTo.1 6 = .ok (.getfield 143, 3) ∧ 6 + 3 = 9 := ⟨by decide +kernel, rfl⟩
theorem d_X12_comesTo_9 : decode mX12_comesTo.1 9 = .ok (.iload_n 2, 1) ∧ 9 + 1 = 10 := ⟨by decide +kernel, rfl⟩
theorem d_X12_comesTo_10 : decode mX12_comesTo.1 10 = .ok (.iaload, 1) ∧ 10 + 1 = 11 := ⟨by decide +kernel, rfl⟩
theorem d_X12_comesTo_11 : decode mX12_comesTo.1 11 = .ok (.iconst (-1), 1) ∧ 11 + 1 = 12 := ⟨by decide +kernel, rfl⟩
theorem d_X12_comesTo_12 : decode mX12_comesTo.1 12 = .ok (.if_icmp .eq 4, 3) ∧ 12 + 3 = 15 ∧ ((12 : Nat) : Int) + 4 = ((16 : Nat) : Int) := ⟨by decide +kernel, rfl, rfl⟩
theorem d_X12_comesTo_16 : decode mX12_comesTo.1 16 = .ok (.aload_n 0, 1) ∧ 16 + 1 = 17 := ⟨by decide +kernel, rfl⟩
theorem d_X12_comesTo_17 : decode mX12_comesTo.1 17 = .ok (.getfield 143, 3) ∧ 17 + 3 = 20 := ⟨by decide +kernel, rfl⟩
theorem d_X12_comesTo_20 : decode mX12_comesTo.1 20 = .ok (.iload_n 2, 1) ∧ 20 + 1 = 21 := ⟨by decide +kernel, rfl⟩
theorem d_X12_comesTo_21 : decode mX12_comesTo.1 21 = .ok (.iload_n 1, 1) ∧ 21 + 1 = 22 := ⟨by decide +kernel, rfl⟩
theorem d_X12_comesTo_22 : decode mX12_comesTo.1 22 = .ok (.iastore, 1) ∧ 22 + 1 = 23 := ⟨by decide +kernel, rfl⟩
theorem d_X12_comesTo_23 : decode mX12_comesTo.1 23 = .ok (.aload_n 0, 1) ∧ 23 + 1 = 24 := ⟨by decide +kernel, rfl⟩
theorem d_X12_comesTo_24 : decode mX12_comesTo.1 24 = .ok (.getfield 146, 3) ∧ 24 + 3 = 27 := ⟨by decide +kernel, rfl⟩
theorem d_X12_comesTo_27 : decode mX12_comesTo.1 27 = .ok (.aload_n 0, 1) ∧ 27 + 1 = 28 := ⟨by decide +kernel, rfl⟩
theorem d_X12_comesTo_28 : decode mX12_comesTo.1 28 = .ok (.getfield 523, 3) ∧ 28 + 3 = 31 := ⟨by decide +kernel, rfl⟩
theorem d_X12_comesTo_31 : decode mX12_comesTo.1 31 = .ok (.iload_n 2, 1) ∧ 31 + 1 = 32 := ⟨by decide +kernel, rfl⟩
theorem d_X12_comesTo_32 : decode mX12_comesTo.1 32 = .ok (.iastore, 1) ∧ 32 + 1 = 33 := ⟨by decide +kernel, rfl⟩
theorem d_X12_comesTo_33 : decode mX12_comesTo.1 33 = .ok (.aload_n 0, 1) ∧ 33 + 1 = 34 := ⟨by decide +kernel, rfl⟩
theorem d_X12_comesTo_34 : decode mX12_comesTo.1 34 = .ok (.dup, 1) ∧ 34 + 1 = 35 := ⟨by decide +kernel, rfl⟩
theorem d_X12_comesTo_35 : decode mX12_comesTo.1 35 = .ok (.getfield 523, 3) ∧ 35 + 3 = 38 := ⟨by decide +kernel, rfl⟩
theorem d_X12_comesTo_38 : decode mX12_comesTo.1 38 = .ok (.iconst 1, 1) ∧ 38 + 1 = 39 := ⟨by decide +kernel, rfl⟩
theorem d_X12_comesTo_39 : decode mX12_comesTo.1 39 = .ok (.iadd, 1) ∧ 39 + 1 = 40 := ⟨by decide +kernel, rfl⟩
theorem d_X12_comesTo_40 : decode mX12_comesTo.1 40 = .ok (.putfield 523, 3) ∧ 40 + 3 = 43 := ⟨by decide +kernel, rfl⟩
theorem d_X12_comesTo_43 : decode mX12_comesTo.1 43 = .ok (.return_, 1) := by decide +kernel
theorem d_X12_comesTo_15 : decode mX12_comesTo.1 15 = .ok (.return_, 1) := by decide +kernel
set_option maxRecDepth 100000 in
set_option maxHeartbeats 4000000 in
theorem g_X12_comesTo (l : Launch) (G : xa_C) (v0 v1 : Int) (h : xa_H) : xa_G l G 4 mX12_comesTo (f_X12_comesTo v0 v1 h) (fun r => some (none, r) : xa_H → Option xa_O) 0 [some (xR v0), some (xI v1), none] [] h := by
  unfold f_X12_comesTo
  refine xa_step (xa_aload_n d_X12_comesTo_0 rfl) ?_
  refine xa_callVi (as := []) (st := []) (M' := mX12_stateOf) (d' := 3) rfl xw_1997 xw_1999 xw_135 xw_2000 xw_177 xh_X12_stateOf rfl ⟨Nat.le_of_ble_eq_true rfl, Nat.le_of_ble_eq_true rfl⟩ (Nat.le_of_ble_eq_true rfl) rfl d_X12_comesTo_1 (fun r hr => ct_X12_stateOf l G v0 h r hr) (fun r1 _ => ?_)
  refine xa_step (xa_istore_n (ls' := [some (xR v0), some (xI v1), some (xI r1)]) d_X12_comesTo_4 (by decide) rfl) ?_
  refine xa_step (xa_aload_n d_X12_comesTo_5 rfl) ?_
  refine xa_getf xR xc_12 (by decide) (fun _ => rfl) xw_1367 rfl d_X12_comesTo_6 (fun x2 _ => ?_)
  refine xa_step (xa_iload_n d_X12_comesTo_9 rfl) ?_
  refine xa_iaload d_X12_comesTo_10 (fun x3 _ => ?_)
  refine xa_step (xa_iconst d_X12_comesTo_11 xq_i_m1) ?_
  refine xa_if (xa_icmpeq d_X12_comesTo_12) (fun q4 => ?_) (fun q4 => ?_)
  · refine xa_step (xa_aload_n d_X12_comesTo_16 rfl) ?_
    refine xa_getf xR xc_12 (by decide) (fun _ => rfl) xw_1367 rfl d_X12_comesTo_17 (fun x5 _ => ?_)
    refine xa_step (xa_iload_n d_X12_comesTo_20 rfl) ?_
    refine xa_step (xa_iload_n d_X12_comesTo_21 rfl) ?_
    refine xa_iastore2 d_X12_comesTo_22 (fun h6 _ => ?_)
    refine xa_step (xa_aload_n d_X12_comesTo_23 rfl) ?_
    refine xa_getf xR xc_12 (by decide) (fun _ => rfl) xw_1368 rfl d_X12_comesTo_24 (fun x7 _ => ?_)
    refine xa_step (xa_aload_n d_X12_comesTo_27 rfl) ?_
    refine xa_getf xI xc_12 (by decide) (fun _ => rfl) xw_1369 rfl d_X12_comesTo_28 (fun x8 _ => ?_)
    refine xa_step (xa_iload_n d_X12_comesTo_31 rfl) ?_
    refine xa_iastore2 d_X12_comesTo_32 (fun h9 _ => ?_)
    refine xa_step (xa_aload_n d_X12_comesTo_33 rfl) ?_
    refine xa_step (xa_dup d_X12_comesTo_34 (xa_tR _)) ?_
    refine xa_getf xI xc_12 (by decide) (fun _ => rfl) xw_1369 rfl d_X12_comesTo_35 (fun x10 _ => ?_)
    refine xa_step (xa_iconst d_X12_comesTo_38 xq_i_1) ?_
    refine xa_step (xa_iadd d_X12_comesTo_39) ?_
    refine xa_putf2 (tg := xI) xc_12 (by decide) (fun _ => rfl) rfl (fun c hc => xa_fitI c hc) xw_1369 rfl d_X12_comesTo_40 (fun h11 _ => ?_)
    exact xa_vret d_X12_comesTo_43 rfl rfl
  · exact xa_vret d_X12_comesTo_15 rfl rfl
theorem ct_X12_comesTo (l : Launch) (G : xa_C) (v0 v1 : Int) (h : xa_H) (r : xa_H) (hr : f_X12_comesTo v0 v1 h = some r) : xa_CT l G 4 mX12_comesTo yX12_comesTo [xR v0, xI v1] h (none, r) :=
  xa_met (by decide +kernel) rfl (fun q => by first | rfl | cases q) (Nat.le_of_ble_eq_true rfl) rfl (g_X12_comesTo l G v0 v1 h) (by rw [hr]; rfl)
abbrev mX12_isState : xa_M := (cX12_isState, 4, none, RX12, false)
theorem d_X12_isState_0 : decode mX12_isState.1 0 = .ok (.iload_n 1, 1) ∧ 0 + 1 = 1 := ⟨by decide +kernel, rfl⟩
theorem d_X12_isState_1 : decode mX12_isState.1 1 = .ok (.istore_n 2, 1) ∧ 1 + 1 = 2 := ⟨by decide +kernel, rfl⟩
theorem d_X12_isState_2 : decode mX12_isState.1 2 = .ok (.iconst 0, 1) ∧ 2 + 1 = 3 := ⟨by decide +kernel, rfl⟩
theorem d_X12_isState_3 : decode mX12_isState.1 3 = .ok (.istore_n 3, 1) ∧ 3 + 1 = 4 := ⟨by decide +kernel, rfl⟩
theorem d_X12_isState_4 : decode mX12_isState.1 4 = .ok (.iload_n 3, 1) ∧ 4 + 1 = 5 := ⟨by decide +kernel, rfl⟩
theorem d_X12_isState_5 : decode mX12_isState.1 5 = .ok (.aload_n 0, 1) ∧ 5 + 1 = 6 := ⟨by decide +kernel, rfl⟩
theorem d_X12_isState_6 : decode mX12_isState.1 6 = .ok (.invokevirtual 402, 3) ∧ 6 + 3 = 9 := ⟨by decide +kernel, rfl⟩
theorem d_X12_isState_9 : decode mX12_isState.1 9 = .ok (.if_icmp .ge 24, 3) ∧ 9 + 3 = 12 ∧ ((9 : Nat) : Int) + 24 = ((33 : Nat) : Int) := ⟨by decide +kernel, rfl, rfl⟩
theorem d_X12_isState_12 : decode mX12_isState.1 12 = .ok (.aload_n 0, 1) ∧ 12 + 1 = 13 := ⟨by decide +kernel, rfl⟩
theorem d_X12_isState_13 : decode mX12_isState.1 13 = .ok (.getfield 149, 3) ∧ 13 + 3 = 16 := ⟨by decide +kernel, rfl⟩
theorem d_X12_isState_16 : decode mX12_isState.1 16 = .ok (.iload_n 3, 1) ∧ 16 + 1 = 17 := ⟨by decide +kernel, rfl⟩
theorem d_X12_isState_17 : decode mX12_isState.1 17 = .ok (.iload_n 2, 1) ∧ 17 + 1 = 18 := ⟨by decide +kernel, rfl⟩
theorem d_X12_isState_18 : decode mX12_isState.1 18 = .ok (.bipush 6, 2) ∧ 18 + 2 = 20 := ⟨by decide +kernel, rfl⟩
theorem d_X12_isState_20 : decode mX12_isState.1 20 = .ok (.irem, 1) ∧ 20 + 1 = 21 := ⟨by decide +kernel, rfl⟩
theorem d_X12_isState_21 : decode mX12_isState.1 21 = .ok (.iastore, 1) ∧ 21 + 1 = 22 := ⟨by decide +kernel, rfl⟩
theorem d_X12_isState_22 : decode mX12_isState.1 22 = .ok (.iload_n 2, 1) ∧ 22 + 1 = 23 := ⟨by decide +kernel, rfl⟩
theorem d_X12_isState_23 : decode mX12_isState.1 23 = .ok (.bipush 6, 2) ∧ 23 + 2 = 25 := ⟨by decide +kernel, rfl⟩
theorem d_X12_isState_25 : decode mX12_isState.1 25 = .ok (.idiv, 1) ∧ 25 + 1 = 26 := ⟨by decide +kernel, rfl⟩
theorem d_X12_isState_26 : decode mX12_isState.1 26 = .ok (.istore_n 2, 1) ∧ 26 + 1 = 27 := ⟨by decide +kernel, rfl⟩
theorem d_X12_isState_27 : decode mX12_isState.1 27 = .ok (.iinc 3 1, 3) ∧ 27 + 3 = 30 := ⟨by decide +kernel, rfl⟩
theorem d_X12_isState_30 : decode mX12_isState.1 30 = .ok (.goto (-26), 3) ∧ ((30 : Nat) : Int) + (-26) = ((4 : Nat) : Int) := ⟨by decide +kernel, rfl⟩
set_option maxRecDepth 100000 in
set_option maxHeartbeats 4000000 in
theorem g_X12_isState_L4 (l : Launch) (G : xa_C) (c0 : Int) (K : (Int × Int × xa_H) ⊕ (xa_H) → Option xa_O) (hb : ∀ (v2 : Int) (v3 : Int) (h : xa_H), xa_G l G 3 mX12_isState (some (Sum.inl ((v2, v3, h)))) K 4 [some (xR c0), none, some (xI v2), some (xI v3)] [] h) (hx : ∀ (h : xa_H), xa_G l G 3 mX12_isState (some (Sum.inr h)) K 33 [none, none, none, none] [] h) : ∀ (v2 : Int) (v3 : Int) (h : xa_H), xa_G l G 3 mX12_isState (f_X12_isState_L4 c0 v2 v3 h) K 4 [some (xR c0), none, some (xI v2), some (xI v3)] [] h := by
  intro v2 v3 h
  unfold f_X12_isState_L4
  refine xa_step (xa_iload_n d_X12_isState_4 rfl) ?_
  refine xa_step (xa_aload_n d_X12_isState_5 rfl) ?_
  refine xa_callVi (as := []) (st := [xI v3]) (M' := mX12_holderMany) (d' := 2) rfl xw_1836 xw_1838 xw_108 xw_1839 xw_177 xh_X12_holderMany rfl ⟨Nat.le_of_ble_eq_true rfl, Nat.le_of_ble_eq_true rfl⟩ (Nat.le_of_ble_eq_true rfl) rfl d_X12_isState_6 (fun r hr => ct_X12_holderMany l G c0 h r hr) (fun r1 _ => ?_)
  refine xa_if (xa_icmpge d_X12_isState_9) (fun q2 => ?_) (fun q2 => ?_)
  · refine xa_step (xa_aload_n d_X12_isState_12 rfl) ?_
    refine xa_getf xR xc_12 (by decide) (fun _ => rfl) xw_1370 rfl d_X12_isState_13 (fun x3 _ => ?_)
    refine xa_step (xa_iload_n d_X12_isState_16 rfl) ?_
    refine xa_step (xa_iload_n d_X12_isState_17 rfl) ?_
    refine xa_step (xa_bipush d_X12_isState_18 xq_b_6) ?_
    refine xa_step (xa_irem d_X12_isState_20 (by decide)) ?_
    refine xa_iastore2 d_X12_isState_21 (fun h4 _ => ?_)
    refine xa_step (xa_iload_n d_X12_isState_22 rfl) ?_
    refine xa_step (xa_bipush d_X12_isState_23 xq_b_6) ?_
    refine xa_step (xa_idiv d_X12_isState_25 (by decide)) ?_
    refine xa_step (xa_istore_n (ls' := [some (xR c0), none, some (xI (w32 (Int.tdiv v2 6))), some (xI v3)]) d_X12_isState_26 (by decide) rfl) ?_
    refine xa_step (xa_iinc (ls' := [some (xR c0), none, some (xI (w32 (Int.tdiv v2 6))), some (xI (w32 (v3 + 1)))]) d_X12_isState_27 xq_i_1 rfl (by decide) rfl) ?_
    refine xa_step (xa_goto d_X12_isState_30) ?_
    exact xa_weak (ls' := [some (xR c0), none, some (xI (w32 (Int.tdiv v2 6))), some (xI (w32 (v3 + 1)))]) ⟨rfl, rfl, rfl, trivial⟩ (hb (w32 (Int.tdiv v2 6)) (w32 (v3 + 1)) h4)
  · exact xa_weak (ls' := [none, none, none, none]) trivial (hx h)
theorem d_X12_isState_33 : decode mX12_isState.1 33 = .ok (.return_, 1) := by decide +kernel
set_option maxRecDepth 100000 in
set_option maxHeartbeats 4000000 in
theorem g_X12_isState (l : Launch) (G : xa_C) (v0 v1 : Int) (h : xa_H) : xa_G l G 3 mX12_isState (f_X12_isState v0 v1 h) (fun r => some (none, r) : xa_H → Option xa_O) 0 [some (xR v0), some (xI v1), none, none] [] h := by
  unfold f_X12_isState
  refine xa_step (xa_iload_n d_X12_isState_0 rfl) ?_
  refine xa_step (xa_istore_n (ls' := [some (xR v0), some (xI v1), some (xI v1), none]) d_X12_isState_1 (by decide) rfl) ?_
  refine xa_step (xa_iconst d_X12_isState_2 xq_i_0) ?_
  refine xa_step (xa_istore_n (ls' := [some (xR v0), some (xI v1), some (xI v1), some (xI 0)]) d_X12_isState_3 (by decide) rfl) ?_
  refine xa_weak (ls' := [some (xR v0), none, some (xI v1), some (xI 0)]) ⟨rfl, rfl, rfl, trivial⟩ ?_
  refine xa_loop (f := fun s => f_X12_isState_L4 v0 s.1 s.2.1 s.2.2) (L := fun s => [some (xR v0), none, some (xI s.1), some (xI s.2.1)]) (P := fun s => s.2.2) (X := (fun x K => xa_G l G 3 mX12_isState (some (Sum.inr x)) K 33 [none, none, none, none] [] x)) (fun K hb hX s => g_X12_isState_L4 l G v0 K (fun w0 w1 hh => hb ((w0, w1, hh))) (fun hh => hX hh) s.1 s.2.1 s.2.2) ?_ xFU ((v1, 0, h))
  intro e5 K hK
  refine xa_eqE hK ?_
  show xa_G l G 3 mX12_isState _ _ 33 [none, none, none, none] [] e5
  exact xa_vret d_X12_isState_33 rfl rfl
theorem ct_X12_isState (l : Launch) (G : xa_C) (v0 v1 : Int) (h : xa_H) (r : xa_H) (hr : f_X12_isState v0 v1 h = some r) : xa_CT l G 3 mX12_isState yX12_isState [xR v0, xI v1] h (none, r) :=
  xa_met (by decide +kernel) rfl (fun q => by first | rfl | cases q) (Nat.le_of_ble_eq_true rfl) rfl (g_X12_isState l G v0 v1 h) (by rw [hr]; rfl)
abbrev mX12_tries : xa_M := (cX12_tries, 7, none, RX12, false)
theorem d_X12_tries_0 : decode mX12_tries.1 0 = .ok (.iload_n 3, 1) ∧ 0 + 1 = 1 := ⟨by decide +kernel, rfl⟩
theorem d_X12_tries_1 : decode mX12_tries.1 1 = .ok (.iconst (-1), 1) ∧ 1 + 1 = 2 := ⟨by decide +kernel, rfl⟩
theorem d_X12_tries_2 : decode mX12_tries.1 2 = .ok (.if_icmp .ne 7, 3) ∧ 2 + 3 = 5 ∧ ((2 : Nat) : Int) + 7 = ((9 : Nat) : Int) := ⟨by decide +kernel, rfl, rfl⟩
theorem d_X12_tries_5 : decode mX12_tries.1 5 = .ok (.iload_n 2, 1) ∧ 5 + 1 = 6 := ⟨by decide +kernel, rfl⟩
theorem d_X12_tries_6 : decode mX12_tries.1 6 = .ok (.goto 4, 3) ∧ ((6 : Nat) : Int) + 4 = ((10 : Nat) : Int) := ⟨by decide +kernel, rfl⟩
theorem d_X12_tries_10 : decode mX12_tries.1 10 = .ok (.istore 5, 2) ∧ 10 + 2 = 12 := ⟨by decide +kernel, rfl⟩
theorem d_X12_tries_12 : decode mX12_tries.1 12 = .ok (.aload_n 0, 1) ∧ 12 + 1 = 13 := ⟨by decide +kernel, rfl⟩
theorem d_X12_tries_13 : decode mX12_tries.1 13 = .ok (.getfield 149, 3) ∧ 13 + 3 = 16 := ⟨by decide +kernel, rfl⟩
theorem d_X12_tries_16 : decode mX12_tries.1 16 = .ok (.iload 5, 2) ∧ 16 + 2 = 18 := ⟨by decide +kernel, rfl⟩
theorem d_X12_tries_18 : decode mX12_tries.1 18 = .ok (.iaload, 1) ∧ 18 + 1 = 19 := ⟨by decide +kernel, rfl⟩
theorem d_X12_tries_19 : decode mX12_tries.1 19 = .ok (.istore 6, 2) ∧ 19 + 2 = 21 := ⟨by decide +kernel, rfl⟩
theorem d_X12_tries_21 : decode mX12_tries.1 21 = .ok (.iload_n 3, 1) ∧ 21 + 1 = 22 := ⟨by decide +kernel, rfl⟩
theorem d_X12_tries_22 : decode mX12_tries.1 22 = .ok (.iconst (-1), 1) ∧ 22 + 1 = 23 := ⟨by decide +kernel, rfl⟩
theorem d_X12_tries_23 : decode mX12_tries.1 23 = .ok (.if_icmp .eq 15, 3) ∧ 23 + 3 = 26 ∧ ((23 : Nat) : Int) + 15 = ((38 : Nat) : Int) := ⟨by decide +kernel, rfl, rfl⟩
theorem d_X12_tries_38 : decode mX12_tries.1 38 = .ok (.aload_n 0, 1) ∧ 38 + 1 = 39 := ⟨by decide +kernel, rfl⟩
theorem d_X12_tries_39 : decode mX12_tries.1 39 = .ok (.getfield 149, 3) ∧ 39 + 3 = 42 := ⟨by decide +kernel, rfl⟩
theorem d_X12_tries_42 : decode mX12_tries.1 42 = .ok (.iload_n 2, 1) ∧ 42 + 1 = 43 := ⟨by decide +kernel, rfl⟩
theorem d_X12_tries_43 : decode mX12_tries.1 43 = .ok (.aload_n 0, 1) ∧ 43 + 1 = 44 := ⟨by decide +kernel, rfl⟩
theorem d_X12_tries_44 : decode mX12_tries.1 44 = .ok (.getfield 149, 3) ∧ 44 + 3 = 47 := ⟨by decide +kernel, rfl⟩
theorem d_X12_tries_47 : decode mX12_tries.1 47 = .ok (.iload_n 1, 1) ∧ 47 + 1 = 48 := ⟨by decide +kernel, rfl⟩
theorem d_X12_tries_48 : decode mX12_tries.1 48 = .ok (.iaload, 1) ∧ 48 + 1 = 49 := ⟨by decide +kernel, rfl⟩
theorem d_X12_tries_49 : decode mX12_tries.1 49 = .ok (.iastore, 1) ∧ 49 + 1 = 50 := ⟨by decide +kernel, rfl⟩
theorem d_X12_tries_50 : decode mX12_tries.1 50 = .ok (.aload_n 0, 1) ∧ 50 + 1 = 51 := ⟨by decide +kernel, rfl⟩
theorem d_X12_tries_51 : decode mX12_tries.1 51 = .ok (.getfield 149, 3) ∧ 51 + 3 = 54 := ⟨by decide +kernel, rfl⟩
theorem d_X12_tries_54 : decode mX12_tries.1 54 = .ok (.iload_n 1, 1) ∧ 54 + 1 = 55 := ⟨by decide +kernel, rfl⟩
theorem d_X12_tries_55 : decode mX12_tries.1 55 = .ok (.iload 6, 2) ∧ 55 + 2 = 57 := ⟨by decide +kernel, rfl⟩
theorem d_X12_tries_57 : decode mX12_tries.1 57 = .ok (.iastore, 1) ∧ 57 + 1 = 58 := ⟨by decide +kernel, rfl⟩
theorem d_X12_tries_58 : decode mX12_tries.1 58 = .ok (.aload_n 0, 1) ∧ 58 + 1 = 59 := ⟨by decide +kernel, rfl⟩
theorem d_X12_tries_59 : decode mX12_tries.1 59 = .ok (.iload 4, 2) ∧ 59 + 2 = 61 := ⟨by decide +kernel, rfl⟩
theorem d_X12_tries_61 : decode mX12_tries.1 61 = .ok (.invokevirtual 526, 3) ∧ 61 + 3 = 64 := ⟨by decide +kernel, rfl⟩
theorem d_X12_tries_64 : decode mX12_tries.1 64 = .ok (.return_, 1) := by decide +kernel
set_option maxRecDepth 100000 in
set_option maxHeartbeats 4000000 in
theorem g_X12_tries_J38 (l : Launch) (G : xa_C) : ∀ (v0 v1 v2 v4 v6 : Int) (h : xa_H) , xa_G l G 5 mX12_tries (f_X12_tries_J38 v0 v1 v2 v4 v6 h) (fun r => some (none, r) : xa_H → Option xa_O) 38 [some (xR v0), some (xI v1), some (xI v2), none, some (xI v4), none, some (xI v6)] [] h := by
  intro v0 v1 v2 v4 v6 h
  unfold f_X12_tries_J38
  refine xa_step (xa_aload_n d_X12_tries_38 rfl) ?_
  refine xa_getf xR xc_12 (by decide) (fun _ => rfl) xw_1370 rfl d_X12_tries_39 (fun x5 _ => ?_)
  refine xa_step (xa_iload_n d_X12_tries_42 rfl) ?_
  refine xa_step (xa_aload_n d_X12_tries_43 rfl) ?_
  refine xa_getf xR xc_12 (by decide) (fun _ => rfl) xw_1370 rfl d_X12_tries_44 (fun x6 _ => ?_)
  refine xa_step (xa_iload_n d_X12_tries_47 rfl) ?_
  refine xa_iaload d_X12_tries_48 (fun x7 _ => ?_)
  refine xa_iastore2 d_X12_tries_49 (fun h8 _ => ?_)
  refine xa_step (xa_aload_n d_X12_tries_50 rfl) ?_
  refine xa_getf xR xc_12 (by decide) (fun _ => rfl) xw_1370 rfl d_X12_tries_51 (fun x9 _ => ?_)
  refine xa_step (xa_iload_n d_X12_tries_54 rfl) ?_
  refine xa_step (xa_iload d_X12_tries_55 rfl) ?_
  refine xa_iastore2 d_X12_tries_57 (fun h10 _ => ?_)
  refine xa_step (xa_aload_n d_X12_tries_58 rfl) ?_
  refine xa_step (xa_iload d_X12_tries_59 rfl) ?_
  refine xa_callVV (as := [xI v4]) (st := []) (M' := mX12_comesTo) (d' := 4) rfl xw_1993 xw_1995 xw_134 xw_1996 xw_177 xh_X12_comesTo rfl ⟨Nat.le_of_ble_eq_true rfl, Nat.le_of_ble_eq_true rfl⟩ (Nat.le_of_ble_eq_true rfl) rfl d_X12_tries_61 (fun r hr => ct_X12_comesTo l G v0 v4 h10 r hr) (fun r11 _ => ?_)
  exact xa_vret d_X12_tries_64 rfl rfl
theorem d_X12_tries_26 : decode mX12_tries.1 26 = .ok (.aload_n 0, 1) ∧ 26 + 1 = 27 := ⟨by decide +kernel, rfl⟩
theorem d_X12_tries_27 : decode mX12_tries.1 27 = .ok (.getfield 149, 3) ∧ 27 + 3 = 30 := ⟨by decide +kernel, rfl⟩
theorem d_X12_tries_30 : decode mX12_tries.1 30 = .ok (.iload_n 3, 1) ∧ 30 + 1 = 31 := ⟨by decide +kernel, rfl⟩
theorem d_X12_tries_31 : decode mX12_tries.1 31 = .ok (.aload_n 0, 1) ∧ 31 + 1 = 32 := ⟨by decide +kernel, rfl⟩
theorem d_X12_tries_32 : decode mX12_tries.1 32 = .ok (.getfield 149, 3) ∧ 32 + 3 = 35 := ⟨by decide +kernel, rfl⟩
theorem d_X12_tries_35 : decode mX12_tries.1 35 = .ok (.iload_n 2, 1) ∧ 35 + 1 = 36 := ⟨by decide +kernel, rfl⟩
theorem d_X12_tries_36 : decode mX12_tries.1 36 = .ok (.iaload, 1) ∧ 36 + 1 = 37 := ⟨by decide +kernel, rfl⟩
theorem d_X12_tries_37 : decode mX12_tries.1 37 = .ok (.iastore, 1) ∧ 37 + 1 = 38 := ⟨by decide +kernel, rfl⟩
set_option maxRecDepth 100000 in
set_option maxHeartbeats 4000000 in
theorem g_X12_tries_J10 (l : Launch) (G : xa_C) : ∀ (v0 v1 v2 v3 v4 s0 : Int) (h : xa_H) , xa_G l G 5 mX12_tries (f_X12_tries_J10 v0 v1 v2 v3 v4 s0 h) (fun r => some (none, r) : xa_H → Option xa_O) 10 [some (xR v0), some (xI v1), some (xI v2), some (xI v3), some (xI v4), none, none] [xI s0] h := by
  intro v0 v1 v2 v3 v4 s0 h
  unfold f_X12_tries_J10
  refine xa_step (xa_istore (ls' := [some (xR v0), some (xI v1), some (xI v2), some (xI v3), some (xI v4), some (xI s0), none]) d_X12_tries_10 (by decide) rfl) ?_
  refine xa_step (xa_aload_n d_X12_tries_12 rfl) ?_
  refine xa_getf xR xc_12 (by decide) (fun _ => rfl) xw_1370 rfl d_X12_tries_13 (fun x2 _ => ?_)
  refine xa_step (xa_iload d_X12_tries_16 rfl) ?_
  refine xa_iaload d_X12_tries_18 (fun x3 _ => ?_)
  refine xa_step (xa_istore (ls' := [some (xR v0), some (xI v1), some (xI v2), some (xI v3), some (xI v4), some (xI s0), some (xI x3)]) d_X12_tries_19 (by decide) rfl) ?_
  refine xa_step (xa_iload_n d_X12_tries_21 rfl) ?_
  refine xa_step (xa_iconst d_X12_tries_22 xq_i_m1) ?_
  refine xa_if (xa_icmpeq d_X12_tries_23) (fun q4 => ?_) (fun q4 => ?_)
  · exact xa_weak (ls' := [some (xR v0), some (xI v1), some (xI v2), none, some (xI v4), none, some (xI x3)]) ⟨rfl, rfl, rfl, rfl, rfl, trivial⟩ (g_X12_tries_J38 l G v0 v1 v2 v4 x3 h)
  · refine xa_step (xa_aload_n d_X12_tries_26 rfl) ?_
    refine xa_getf xR xc_12 (by decide) (fun _ => rfl) xw_1370 rfl d_X12_tries_27 (fun x12 _ => ?_)
    refine xa_step (xa_iload_n d_X12_tries_30 rfl) ?_
    refine xa_step (xa_aload_n d_X12_tries_31 rfl) ?_
    refine xa_getf xR xc_12 (by decide) (fun _ => rfl) xw_1370 rfl d_X12_tries_32 (fun x13 _ => ?_)
    refine xa_step (xa_iload_n d_X12_tries_35 rfl) ?_
    refine xa_iaload d_X12_tries_36 (fun x14 _ => ?_)
    refine xa_iastore2 d_X12_tries_37 (fun h15 _ => ?_)
    exact xa_weak (ls' := [some (xR v0), some (xI v1), some (xI v2), none, some (xI v4), none, some (xI x3)]) ⟨rfl, rfl, rfl, rfl, rfl, trivial⟩ (g_X12_tries_J38 l G v0 v1 v2 v4 x3 h15)
theorem d_X12_tries_9 : decode mX12_tries.1 9 = .ok (.iload_n 3, 1) ∧ 9 + 1 = 10 := ⟨by decide +kernel, rfl⟩
set_option maxRecDepth 100000 in
set_option maxHeartbeats 4000000 in
theorem g_X12_tries (l : Launch) (G : xa_C) (v0 v1 v2 v3 v4 : Int) (h : xa_H) : xa_G l G 5 mX12_tries (f_X12_tries v0 v1 v2 v3 v4 h) (fun r => some (none, r) : xa_H → Option xa_O) 0 [some (xR v0), some (xI v1), some (xI v2), some (xI v3), some (xI v4), none, none] [] h := by
  unfold f_X12_tries
  refine xa_step (xa_iload_n d_X12_tries_0 rfl) ?_
  refine xa_step (xa_iconst d_X12_tries_1 xq_i_m1) ?_
  refine xa_if (xa_icmpne d_X12_tries_2) (fun q1 => ?_) (fun q1 => ?_)
  · refine xa_step (xa_iload_n d_X12_tries_5 rfl) ?_
    refine xa_step (xa_goto d_X12_tries_6) ?_
    exact xa_weak (ls' := [some (xR v0), some (xI v1), some (xI v2), some (xI v3), some (xI v4), none, none]) ⟨rfl, rfl, rfl, rfl, rfl, trivial⟩ (g_X12_tries_J10 l G v0 v1 v2 v3 v4 v2 h)
  · refine xa_step (xa_iload_n d_X12_tries_9 rfl) ?_
    exact xa_weak (ls' := [some (xR v0), some (xI v1), some (xI v2), some (xI v3), some (xI v4), none, none]) ⟨rfl, rfl, rfl, rfl, rfl, trivial⟩ (g_X12_tries_J10 l G v0 v1 v2 v3 v4 v3 h)
theorem ct_X12_tries (l : Launch) (G : xa_C) (v0 v1 v2 v3 v4 : Int) (h : xa_H) (r : xa_H) (hr : f_X12_tries v0 v1 v2 v3 v4 h = some r) : xa_CT l G 5 mX12_tries yX12_tries [xR v0, xI v1, xI v2, xI v3, xI v4] h (none, r) :=
  xa_met (by decide +kernel) rfl (fun q => by first | rfl | cases q) (Nat.le_of_ble_eq_true rfl) rfl (g_X12_tries l G v0 v1 v2 v3 v4 h) (by rw [hr]; rfl)
abbrev mX12_triesAll : xa_M := (cX12_triesAll, 7, none, RX12, false)
theorem d_X12_triesAll_0 : decode mX12_triesAll.1 0 = .ok (.aload_n 0, 1) ∧ 0 + 1 = 1 := ⟨by decide +kernel, rfl⟩
theorem d_X12_triesAll_1 : decode mX12_triesAll.1 1 = .ok (.getfield 143, 3) ∧ 1 + 3 = 4 := ⟨by decide +kernel, rfl⟩
theorem d_X12_triesAll_4 : decode mX12_triesAll.1 4 = .ok (.iload_n 1, 1) ∧ 4 + 1 = 5 := ⟨by decide +kernel, rfl⟩
theorem d_X12_triesAll_5 : decode mX12_triesAll.1 5 = .ok (.iaload, 1) ∧ 5 + 1 = 6 := ⟨by decide +kernel, rfl⟩
theorem d_X12_triesAll_6 : decode mX12_triesAll.1 6 = .ok (.iconst 1, 1) ∧ 6 + 1 = 7 := ⟨by decide +kernel, rfl⟩
theorem d_X12_triesAll_7 : decode mX12_triesAll.1 7 = .ok (.iadd, 1) ∧ 7 + 1 = 8 := ⟨by decide +kernel, rfl⟩
theorem d_X12_triesAll_8 : decode mX12_triesAll.1 8 = .ok (.istore_n 3, 1) ∧ 8 + 1 = 9 := ⟨by decide +kernel, rfl⟩
theorem d_X12_triesAll_9 : decode mX12_triesAll.1 9 = .ok (.iconst 0, 1) ∧ 9 + 1 = 10 := ⟨by decide +kernel, rfl⟩
theorem d_X12_triesAll_10 : decode mX12_triesAll.1 10 = .ok (.istore 4, 2) ∧ 10 + 2 = 12 := ⟨by decide +kernel, rfl⟩
theorem d_X12_triesAll_12 : decode mX12_triesAll.1 12 = .ok (.iload 4, 2) ∧ 12 + 2 = 14 := ⟨by decide +kernel, rfl⟩
theorem d_X12_triesAll_14 : decode mX12_triesAll.1 14 = .ok (.aload_n 0, 1) ∧ 14 + 1 = 15 := ⟨by decide +kernel, rfl⟩
theorem d_X12_triesAll_15 : decode mX12_triesAll.1 15 = .ok (.invokevirtual 402, 3) ∧ 15 + 3 = 18 := ⟨by decide +kernel, rfl⟩
theorem d_X12_triesAll_18 : decode mX12_triesAll.1 18 = .ok (.if_icmp .ge 155, 3) ∧ 18 + 3 = 21 ∧ ((18 : Nat) : Int) + 155 = ((173 : Nat) : Int) := ⟨by decide +kernel, rfl, rfl⟩
theorem d_X12_triesAll_21 : decode mX12_triesAll.1 21 = .ok (.iconst 0, 1) ∧ 21 + 1 = 22 := ⟨by decide +kernel, rfl⟩
theorem d_X12_triesAll_22 : decode mX12_triesAll.1 22 = .ok (.istore 5, 2) ∧ 22 + 2 = 24 := ⟨by decide +kernel, rfl⟩
theorem d_X12_triesAll_24 : decode mX12_triesAll.1 24 = .ok (.iload 5, 2) ∧ 24 + 2 = 26 := ⟨by decide +kernel, rfl⟩
theorem d_X12_triesAll_26 : decode mX12_triesAll.1 26 = .ok (.aload_n 0, 1) ∧ 26 + 1 = 27 := ⟨by decide +kernel, rfl⟩
theorem d_X12_triesAll_27 : decode mX12_triesAll.1 27 = .ok (.invokevirtual 402, 3) ∧ 27 + 3 = 30 := ⟨by decide +kernel, rfl⟩
theorem d_X12_triesAll_30 : decode mX12_triesAll.1 30 = .ok (.if_icmp .ge 137, 3) ∧ 30 + 3 = 33 ∧ ((30 : Nat) : Int) + 137 = ((167 : Nat) : Int) := ⟨by decide +kernel, rfl, rfl⟩
theorem d_X12_triesAll_33 : decode mX12_triesAll.1 33 = .ok (.iload 4, 2) ∧ 33 + 2 = 35 := ⟨by decide +kernel, rfl⟩
theorem d_X12_triesAll_35 : decode mX12_triesAll.1 35 = .ok (.iload 5, 2) ∧ 35 + 2 = 37 := ⟨by decide +kernel, rfl⟩
theorem d_X12_triesAll_37 : decode mX12_triesAll.1 37 = .ok (.if_icmp .eq 124, 3) ∧ 37 + 3 = 40 ∧ ((37 : Nat) : Int) + 124 = ((161 : Nat) : Int) := ⟨by decide +kernel, rfl, rfl⟩
theorem d_X12_triesAll_161 : decode mX12_triesAll.1 161 = .ok (.iinc 5 1, 3) ∧ 161 + 3 = 164 := ⟨by decide +kernel, rfl⟩
theorem d_X12_triesAll_164 : decode mX12_triesAll.1 164 = .ok (.goto (-140), 3) ∧ ((164 : Nat) : Int) + (-140) = ((24 : Nat) : Int) := ⟨by decide +kernel, rfl⟩
theorem d_X12_triesAll_40 : decode mX12_triesAll.1 40 = .ok (.aload_n 0, 1) ∧ 40 + 1 = 41 := ⟨by decide +kernel, rfl⟩
theorem d_X12_triesAll_41 : decode mX12_triesAll.1 41 = .ok (.iload 4, 2) ∧ 41 + 2 = 43 := ⟨by decide +kernel, rfl⟩
theorem d_X12_triesAll_43 : decode mX12_triesAll.1 43 = .ok (.iload 5, 2) ∧ 43 + 2 = 45 := ⟨by decide +kernel, rfl⟩
theorem d_X12_triesAll_45 : decode mX12_triesAll.1 45 = .ok (.invokevirtual 464, 3) ∧ 45 + 3 = 48 := ⟨by decide +kernel, rfl⟩
theorem d_X12_triesAll_48 : decode mX12_triesAll.1 48 = .ok (.ifCond .eq 6, 3) ∧ 48 + 3 = 51 ∧ ((48 : Nat) : Int) + 6 = ((54 : Nat) : Int) := ⟨by decide +kernel, rfl, rfl⟩
theorem d_X12_triesAll_54 : decode mX12_triesAll.1 54 = .ok (.aload_n 0, 1) ∧ 54 + 1 = 55 := ⟨by decide +kernel, rfl⟩
theorem d_X12_triesAll_55 : decode mX12_triesAll.1 55 = .ok (.iload_n 1, 1) ∧ 55 + 1 = 56 := ⟨by decide +kernel, rfl⟩
theorem d_X12_triesAll_56 : decode mX12_triesAll.1 56 = .ok (.invokevirtual 529, 3) ∧ 56 + 3 = 59 := ⟨by decide +kernel, rfl⟩
theorem d_X12_triesAll_59 : decode mX12_triesAll.1 59 = .ok (.iload 4, 2) ∧ 59 + 2 = 61 := ⟨by decide +kernel, rfl⟩
theorem d_X12_triesAll_61 : decode mX12_triesAll.1 61 = .ok (.iload 5, 2) ∧ 61 + 2 = 63 := ⟨by decide +kernel, rfl⟩
theorem d_X12_triesAll_63 : decode mX12_triesAll.1 63 = .ok (.if_icmp .ge 13, 3) ∧ 63 + 3 = 66 ∧ ((63 : Nat) : Int) + 13 = ((76 : Nat) : Int) := ⟨by decide +kernel, rfl, rfl⟩
theorem d_X12_triesAll_66 : decode mX12_triesAll.1 66 = .ok (.aload_n 0, 1) ∧ 66 + 1 = 67 := ⟨by decide +kernel, rfl⟩
theorem d_X12_triesAll_67 : decode mX12_triesAll.1 67 = .ok (.iload 4, 2) ∧ 67 + 2 = 69 := ⟨by decide +kernel, rfl⟩
theorem d_X12_triesAll_69 : decode mX12_triesAll.1 69 = .ok (.iload 5, 2) ∧ 69 + 2 = 71 := ⟨by decide +kernel, rfl⟩
theorem d_X12_triesAll_71 : decode mX12_triesAll.1 71 = .ok (.iconst (-1), 1) ∧ 71 + 1 = 72 := ⟨by decide +kernel, rfl⟩
theorem d_X12_triesAll_72 : decode mX12_triesAll.1 72 = .ok (.iload_n 3, 1) ∧ 72 + 1 = 73 := ⟨by decide +kernel, rfl⟩
theorem d_X12_triesAll_73 : decode mX12_triesAll.1 73 = .ok (.invokevirtual 532, 3) ∧ 73 + 3 = 76 := ⟨by decide +kernel, rfl⟩
theorem d_X12_triesAll_76 : decode mX12_triesAll.1 76 = .ok (.iconst 0, 1) ∧ 76 + 1 = 77 := ⟨by decide +kernel, rfl⟩
theorem d_X12_triesAll_77 : decode mX12_triesAll.1 77 = .ok (.istore 6, 2) ∧ 77 + 2 = 79 := ⟨by decide +kernel, rfl⟩
theorem d_X12_triesAll_79 : decode mX12_triesAll.1 79 = .ok (.iload 6, 2) ∧ 79 + 2 = 81 := ⟨by decide +kernel, rfl⟩
theorem d_X12_triesAll_81 : decode mX12_triesAll.1 81 = .ok (.aload_n 0, 1) ∧ 81 + 1 = 82 := ⟨by decide +kernel, rfl⟩
theorem d_X12_triesAll_82 : decode mX12_triesAll.1 82 = .ok (.invokevirtual 402, 3) ∧ 82 + 3 = 85 := ⟨by decide +kernel, rfl⟩
theorem d_X12_triesAll_85 : decode mX12_triesAll.1 85 = .ok (.if_icmp .ge 76, 3) ∧ 85 + 3 = 88 ∧ ((85 : Nat) : Int) + 76 = ((161 : Nat) : Int) := ⟨by decide +kernel, rfl, rfl⟩
theorem d_X12_triesAll_88 : decode mX12_triesAll.1 88 = .ok (.iload_n 2, 1) ∧ 88 + 1 = 89 := ⟨by decide +kernel, rfl⟩
theorem d_X12_triesAll_89 : decode mX12_triesAll.1 89 = .ok (.iconst 3, 1) ∧ 89 + 1 = 90 := ⟨by decide +kernel, rfl⟩
theorem d_X12_triesAll_90 : decode mX12_triesAll.1 90 = .ok (.if_icmp .ne 71, 3) ∧ 90 + 3 = 93 ∧ ((90 : Nat) : Int) + 71 = ((161 : Nat) : Int) := ⟨by decide +kernel, rfl, rfl⟩
theorem d_X12_triesAll_93 : decode mX12_triesAll.1 93 = .ok (.iload 6, 2) ∧ 93 + 2 = 95 := ⟨by decide +kernel, rfl⟩
theorem d_X12_triesAll_95 : decode mX12_triesAll.1 95 = .ok (.iload 4, 2) ∧ 95 + 2 = 97 := ⟨by decide +kernel, rfl⟩
theorem d_X12_triesAll_97 : decode mX12_triesAll.1 97 = .ok (.if_icmp .le 58, 3) ∧ 97 + 3 = 100 ∧ ((97 : Nat) : Int) + 58 = ((155 : Nat) : Int) := ⟨by decide +kernel, rfl, rfl⟩
theorem d_X12_triesAll_100 : decode mX12_triesAll.1 100 = .ok (.iload 5, 2) ∧ 100 + 2 = 102 := ⟨by decide +kernel, rfl⟩
theorem d_X12_triesAll_102 : decode mX12_triesAll.1 102 = .ok (.iload 4, 2) ∧ 102 + 2 = 104 := ⟨by decide +kernel, rfl⟩
theorem d_X12_triesAll_104 : decode mX12_triesAll.1 104 = .ok (.if_icmp .le 51, 3) ∧ 104 + 3 = 107 ∧ ((104 : Nat) : Int) + 51 = ((155 : Nat) : Int) := ⟨by decide +kernel, rfl, rfl⟩
theorem d_X12_triesAll_107 : decode mX12_triesAll.1 107 = .ok (.iload 6, 2) ∧ 107 + 2 = 109 := ⟨by decide +kernel, rfl⟩
theorem d_X12_triesAll_109 : decode mX12_triesAll.1 109 = .ok (.iload 5, 2) ∧ 109 + 2 = 111 := ⟨by decide +kernel, rfl⟩
theorem d_X12_triesAll_111 : decode mX12_triesAll.1 111 = .ok (.if_icmp .eq 44, 3) ∧ 111 + 3 = 114 ∧ ((111 : Nat) : Int) + 44 = ((155 : Nat) : Int) := ⟨by decide +kernel, rfl, rfl⟩
theorem d_X12_triesAll_155 : decode mX12_triesAll.1 155 = .ok (.iinc 6 1, 3) ∧ 155 + 3 = 158 := ⟨by decide +kernel, rfl⟩
theorem d_X12_triesAll_158 : decode mX12_triesAll.1 158 = .ok (.goto (-79), 3) ∧ ((158 : Nat) : Int) + (-79) = ((79 : Nat) : Int) := ⟨by decide +kernel, rfl⟩
theorem d_X12_triesAll_114 : decode mX12_triesAll.1 114 = .ok (.aload_n 0, 1) ∧ 114 + 1 = 115 := ⟨by decide +kernel, rfl⟩
theorem d_X12_triesAll_115 : decode mX12_triesAll.1 115 = .ok (.iload 5, 2) ∧ 115 + 2 = 117 := ⟨by decide +kernel, rfl⟩
theorem d_X12_triesAll_117 : decode mX12_triesAll.1 117 = .ok (.iload 6, 2) ∧ 117 + 2 = 119 := ⟨by decide +kernel, rfl⟩
theorem d_X12_triesAll_119 : decode mX12_triesAll.1 119 = .ok (.invokevirtual 464, 3) ∧ 119 + 3 = 122 := ⟨by decide +kernel, rfl⟩
theorem d_X12_triesAll_122 : decode mX12_triesAll.1 122 = .ok (.ifCond .ne 33, 3) ∧ 122 + 3 = 125 ∧ ((122 : Nat) : Int) + 33 = ((155 : Nat) : Int) := ⟨by decide +kernel, rfl, rfl⟩
theorem d_X12_triesAll_125 : decode mX12_triesAll.1 125 = .ok (.aload_n 0, 1) ∧ 125 + 1 = 126 := ⟨by decide +kernel, rfl⟩
theorem d_X12_triesAll_126 : decode mX12_triesAll.1 126 = .ok (.iload 4, 2) ∧ 126 + 2 = 128 := ⟨by decide +kernel, rfl⟩
theorem d_X12_triesAll_128 : decode mX12_triesAll.1 128 = .ok (.iload 6, 2) ∧ 128 + 2 = 130 := ⟨by decide +kernel, rfl⟩
theorem d_X12_triesAll_130 : decode mX12_triesAll.1 130 = .ok (.invokevirtual 464, 3) ∧ 130 + 3 = 133 := ⟨by decide +kernel, rfl⟩
theorem d_X12_triesAll_133 : decode mX12_triesAll.1 133 = .ok (.ifCond .eq 6, 3) ∧ 133 + 3 = 136 ∧ ((133 : Nat) : Int) + 6 = ((139 : Nat) : Int) := ⟨by decide +kernel, rfl, rfl⟩
theorem d_X12_triesAll_139 : decode mX12_triesAll.1 139 = .ok (.aload_n 0, 1) ∧ 139 + 1 = 140 := ⟨by decide +kernel, rfl⟩
theorem d_X12_triesAll_140 : decode mX12_triesAll.1 140 = .ok (.iload_n 1, 1) ∧ 140 + 1 = 141 := ⟨by decide +kernel, rfl⟩
theorem d_X12_triesAll_141 : decode mX12_triesAll.1 141 = .ok (.invokevirtual 529, 3) ∧ 141 + 3 = 144 := ⟨by decide +kernel, rfl⟩
theorem d_X12_triesAll_144 : decode mX12_triesAll.1 144 = .ok (.aload_n 0, 1) ∧ 144 + 1 = 145 := ⟨by decide +kernel, rfl⟩
theorem d_X12_triesAll_145 : decode mX12_triesAll.1 145 = .ok (.iload 4, 2) ∧ 145 + 2 = 147 := ⟨by decide +kernel, rfl⟩
theorem d_X12_triesAll_147 : decode mX12_triesAll.1 147 = .ok (.iload 5, 2) ∧ 147 + 2 = 149 := ⟨by decide +kernel, rfl⟩
theorem d_X12_triesAll_149 : decode mX12_triesAll.1 149 = .ok (.iload 6, 2) ∧ 149 + 2 = 151 := ⟨by decide +kernel, rfl⟩
theorem d_X12_triesAll_151 : decode mX12_triesAll.1 151 = .ok (.iload_n 3, 1) ∧ 151 + 1 = 152 := ⟨by decide +kernel, rfl⟩
theorem d_X12_triesAll_152 : decode mX12_triesAll.1 152 = .ok (.invokevirtual 532, 3) ∧ 152 + 3 = 155 := ⟨by decide +kernel, rfl⟩
theorem d_X12_triesAll_136 : decode mX12_triesAll.1 136 = .ok (.goto 19, 3) ∧ ((136 : Nat) : Int) + 19 = ((155 : Nat) : Int) := ⟨by decide +kernel, rfl⟩
set_option maxRecDepth 100000 in
set_option maxHeartbeats 4000000 in
theorem g_X12_triesAll_L79 (l : Launch) (G : xa_C) (c0 c1 c2 c3 c4 c5 : Int) (K : (Int × xa_H) ⊕ (xa_H) → Option xa_O) (hb : ∀ (v6 : Int) (h : xa_H), xa_G l G 6 mX12_triesAll (some (Sum.inl ((v6, h)))) K 79 [some (xR c0), some (xI c1), some (xI c2), some (xI c3), some (xI c4), some (xI c5), some (xI v6)] [] h) (hx : ∀ (h : xa_H), xa_G l G 6 mX12_triesAll (some (Sum.inr h)) K 161 [some (xR c0), some (xI c1), some (xI c2), some (xI c3), some (xI c4), some (xI c5), none] [] h) : ∀ (v6 : Int) (h : xa_H), xa_G l G 6 mX12_triesAll (f_X12_triesAll_L79 c0 c1 c2 c3 c4 c5 v6 h) K 79 [some (xR c0), some (xI c1), some (xI c2), some (xI c3), some (xI c4), some (xI c5), some (xI v6)] [] h := by
  intro v6 h
  unfold f_X12_triesAll_L79
  refine xa_step (xa_iload d_X12_triesAll_79 rfl) ?_
  refine xa_step (xa_aload_n d_X12_triesAll_81 rfl) ?_
  refine xa_callVi (as := []) (st := [xI v6]) (M' := mX12_holderMany) (d' := 2) rfl xw_1836 xw_1838 xw_108 xw_1839 xw_177 xh_X12_holderMany rfl ⟨Nat.le_of_ble_eq_true rfl, Nat.le_of_ble_eq_true rfl⟩ (Nat.le_of_ble_eq_true rfl) rfl d_X12_triesAll_82 (fun r hr => ct_X12_holderMany l G c0 h r hr) (fun r13 _ => ?_)
  refine xa_if (xa_icmpge d_X12_triesAll_85) (fun q14 => ?_) (fun q14 => ?_)
  · refine xa_step (xa_iload_n d_X12_triesAll_88 rfl) ?_
    refine xa_step (xa_iconst d_X12_triesAll_89 xq_i_3) ?_
    refine xa_if (xa_icmpne d_X12_triesAll_90) (fun q15 => ?_) (fun q15 => ?_)
    · refine xa_step (xa_iload d_X12_triesAll_93 rfl) ?_
      refine xa_step (xa_iload d_X12_triesAll_95 rfl) ?_
      refine xa_if (xa_icmple d_X12_triesAll_97) (fun q16 => ?_) (fun q16 => ?_)
      · refine xa_step (xa_iload d_X12_triesAll_100 rfl) ?_
        refine xa_step (xa_iload d_X12_triesAll_102 rfl) ?_
        refine xa_if (xa_icmple d_X12_triesAll_104) (fun q17 => ?_) (fun q17 => ?_)
        · refine xa_step (xa_iload d_X12_triesAll_107 rfl) ?_
          refine xa_step (xa_iload d_X12_triesAll_109 rfl) ?_
          refine xa_if (xa_icmpeq d_X12_triesAll_111) (fun q18 => ?_) (fun q18 => ?_)
          · refine xa_step (xa_iinc (ls' := [some (xR c0), some (xI c1), some (xI c2), some (xI c3), some (xI c4), some (xI c5), some (xI (w32 (v6 + 1)))]) d_X12_triesAll_155 xq_i_1 rfl (by decide) rfl) ?_
            refine xa_step (xa_goto d_X12_triesAll_158) ?_
            exact xa_weak (ls' := [some (xR c0), some (xI c1), some (xI c2), some (xI c3), some (xI c4), some (xI c5), some (xI (w32 (v6 + 1)))]) ⟨rfl, rfl, rfl, rfl, rfl, rfl, rfl, trivial⟩ (hb (w32 (v6 + 1)) h)
          · refine xa_step (xa_aload_n d_X12_triesAll_114 rfl) ?_
            refine xa_step (xa_iload d_X12_triesAll_115 rfl) ?_
            refine xa_step (xa_iload d_X12_triesAll_117 rfl) ?_
            refine xa_callVi (as := [xI c5, xI v6]) (st := []) (M' := mX12_areFeud) (d' := 2) rfl xw_1928 xw_1930 xw_123 xw_1931 xw_177 xh_X12_areFeud rfl ⟨Nat.le_of_ble_eq_true rfl, Nat.le_of_ble_eq_true rfl⟩ (Nat.le_of_ble_eq_true rfl) rfl d_X12_triesAll_119 (fun r hr => ct_X12_areFeud l G c0 c5 v6 h r hr) (fun r19 _ => ?_)
            refine xa_if (xa_ifne d_X12_triesAll_122) (fun q20 => ?_) (fun q20 => ?_)
            · refine xa_step (xa_aload_n d_X12_triesAll_125 rfl) ?_
              refine xa_step (xa_iload d_X12_triesAll_126 rfl) ?_
              refine xa_step (xa_iload d_X12_triesAll_128 rfl) ?_
              refine xa_callVi (as := [xI c4, xI v6]) (st := []) (M' := mX12_areFeud) (d' := 2) rfl xw_1928 xw_1930 xw_123 xw_1931 xw_177 xh_X12_areFeud rfl ⟨Nat.le_of_ble_eq_true rfl, Nat.le_of_ble_eq_true rfl⟩ (Nat.le_of_ble_eq_true rfl) rfl d_X12_triesAll_130 (fun r hr => ct_X12_areFeud l G c0 c4 v6 h r hr) (fun r21 _ => ?_)
              refine xa_if (xa_ifeq d_X12_triesAll_133) (fun q22 => ?_) (fun q22 => ?_)
              · refine xa_step (xa_aload_n d_X12_triesAll_139 rfl) ?_
                refine xa_step (xa_iload_n d_X12_triesAll_140 rfl) ?_
                refine xa_callVV (as := [xI c1]) (st := []) (M' := mX12_isState) (d' := 3) rfl xw_2001 xw_2003 xw_136 xw_2004 xw_177 xh_X12_isState rfl ⟨Nat.le_of_ble_eq_true rfl, Nat.le_of_ble_eq_true rfl⟩ (Nat.le_of_ble_eq_true rfl) rfl d_X12_triesAll_141 (fun r hr => ct_X12_isState l G c0 c1 h r hr) (fun r23 _ => ?_)
                refine xa_step (xa_aload_n d_X12_triesAll_144 rfl) ?_
                refine xa_step (xa_iload d_X12_triesAll_145 rfl) ?_
                refine xa_step (xa_iload d_X12_triesAll_147 rfl) ?_
                refine xa_step (xa_iload d_X12_triesAll_149 rfl) ?_
                refine xa_step (xa_iload_n d_X12_triesAll_151 rfl) ?_
                refine xa_callVV (as := [xI c4, xI c5, xI v6, xI c3]) (st := []) (M' := mX12_tries) (d' := 5) rfl xw_2013 xw_2015 xw_139 xw_2016 xw_177 xh_X12_tries rfl ⟨Nat.le_of_ble_eq_true rfl, Nat.le_of_ble_eq_true rfl⟩ (Nat.le_of_ble_eq_true rfl) rfl d_X12_triesAll_152 (fun r hr => ct_X12_tries l G c0 c4 c5 v6 c3 r23 r hr) (fun r24 _ => ?_)
                refine xa_step (xa_iinc (ls' := [some (xR c0), some (xI c1), some (xI c2), some (xI c3), some (xI c4), some (xI c5), some (xI (w32 (v6 + 1)))]) d_X12_triesAll_155 xq_i_1 rfl (by decide) rfl) ?_
                refine xa_step (xa_goto d_X12_triesAll_158) ?_
                exact xa_weak (ls' := [some (xR c0), some (xI c1), some (xI c2), some (xI c3), some (xI c4), some (xI c5), some (xI (w32 (v6 + 1)))]) ⟨rfl, rfl, rfl, rfl, rfl, rfl, rfl, trivial⟩ (hb (w32 (v6 + 1)) r24)
              · refine xa_step (xa_goto d_X12_triesAll_136) ?_
                refine xa_step (xa_iinc (ls' := [some (xR c0), some (xI c1), some (xI c2), some (xI c3), some (xI c4), some (xI c5), some (xI (w32 (v6 + 1)))]) d_X12_triesAll_155 xq_i_1 rfl (by decide) rfl) ?_
                refine xa_step (xa_goto d_X12_triesAll_158) ?_
                exact xa_weak (ls' := [some (xR c0), some (xI c1), some (xI c2), some (xI c3), some (xI c4), some (xI c5), some (xI (w32 (v6 + 1)))]) ⟨rfl, rfl, rfl, rfl, rfl, rfl, rfl, trivial⟩ (hb (w32 (v6 + 1)) h)
            · refine xa_step (xa_iinc (ls' := [some (xR c0), some (xI c1), some (xI c2), some (xI c3), some (xI c4), some (xI c5), some (xI (w32 (v6 + 1)))]) d_X12_triesAll_155 xq_i_1 rfl (by decide) rfl) ?_
              refine xa_step (xa_goto d_X12_triesAll_158) ?_
              exact xa_weak (ls' := [some (xR c0), some (xI c1), some (xI c2), some (xI c3), some (xI c4), some (xI c5), some (xI (w32 (v6 + 1)))]) ⟨rfl, rfl, rfl, rfl, rfl, rfl, rfl, trivial⟩ (hb (w32 (v6 + 1)) h)
        · refine xa_step (xa_iinc (ls' := [some (xR c0), some (xI c1), some (xI c2), some (xI c3), some (xI c4), some (xI c5), some (xI (w32 (v6 + 1)))]) d_X12_triesAll_155 xq_i_1 rfl (by decide) rfl) ?_
          refine xa_step (xa_goto d_X12_triesAll_158) ?_
          exact xa_weak (ls' := [some (xR c0), some (xI c1), some (xI c2), some (xI c3), some (xI c4), some (xI c5), some (xI (w32 (v6 + 1)))]) ⟨rfl, rfl, rfl, rfl, rfl, rfl, rfl, trivial⟩ (hb (w32 (v6 + 1)) h)
      · refine xa_step (xa_iinc (ls' := [some (xR c0), some (xI c1), some (xI c2), some (xI c3), some (xI c4), some (xI c5), some (xI (w32 (v6 + 1)))]) d_X12_triesAll_155 xq_i_1 rfl (by decide) rfl) ?_
        refine xa_step (xa_goto d_X12_triesAll_158) ?_
        exact xa_weak (ls' := [some (xR c0), some (xI c1), some (xI c2), some (xI c3), some (xI c4), some (xI c5), some (xI (w32 (v6 + 1)))]) ⟨rfl, rfl, rfl, rfl, rfl, rfl, rfl, trivial⟩ (hb (w32 (v6 + 1)) h)
    · exact xa_weak (ls' := [some (xR c0), some (xI c1), some (xI c2), some (xI c3), some (xI c4), some (xI c5), none]) ⟨rfl, rfl, rfl, rfl, rfl, rfl, trivial⟩ (hx h)
  · exact xa_weak (ls' := [some (xR c0), some (xI c1), some (xI c2), some (xI c3), some (xI c4), some (xI c5), none]) ⟨rfl, rfl, rfl, rfl, rfl, rfl, trivial⟩ (hx h)
set_option maxRecDepth 100000 in
set_option maxHeartbeats 4000000 in
theorem g_X12_triesAll_J76L24 (l : Launch) (G : xa_C) (c0 c1 c2 c3 c4 : Int) (K : (Int × xa_H) ⊕ (xa_H) → Option xa_O) (hb : ∀ (v5 : Int) (h : xa_H), xa_G l G 6 mX12_triesAll (some (Sum.inl ((v5, h)))) K 24 [some (xR c0), some (xI c1), some (xI c2), some (xI c3), some (xI c4), some (xI v5), none] [] h) (hx : ∀ (h : xa_H), xa_G l G 6 mX12_triesAll (some (Sum.inr h)) K 167 [some (xR c0), some (xI c1), some (xI c2), some (xI c3), some (xI c4), none, none] [] h) : ∀ (v5 : Int) (h : xa_H) , xa_G l G 6 mX12_triesAll (f_X12_triesAll_J76L24 c0 c1 c2 c3 c4 v5 h) K 76 [some (xR c0), some (xI c1), some (xI c2), some (xI c3), some (xI c4), some (xI v5), none] [] h := by
  intro v5 h
  unfold f_X12_triesAll_J76L24
  refine xa_step (xa_iconst d_X12_triesAll_76 xq_i_0) ?_
  refine xa_step (xa_istore (ls' := [some (xR c0), some (xI c1), some (xI c2), some (xI c3), some (xI c4), some (xI v5), some (xI 0)]) d_X12_triesAll_77 (by decide) rfl) ?_
  refine xa_weak (ls' := [some (xR c0), some (xI c1), some (xI c2), some (xI c3), some (xI c4), some (xI v5), some (xI 0)]) ⟨rfl, rfl, rfl, rfl, rfl, rfl, rfl, trivial⟩ ?_
  refine xa_loop (f := fun s => f_X12_triesAll_L79 c0 c1 c2 c3 c4 v5 s.1 s.2) (L := fun s => [some (xR c0), some (xI c1), some (xI c2), some (xI c3), some (xI c4), some (xI v5), some (xI s.1)]) (P := fun s => s.2) (X := (fun x K => xa_G l G 6 mX12_triesAll (some (Sum.inr x)) K 161 [some (xR c0), some (xI c1), some (xI c2), some (xI c3), some (xI c4), some (xI v5), none] [] x)) (fun K hb hX s => g_X12_triesAll_L79 l G c0 c1 c2 c3 c4 v5 K (fun w0 hh => hb ((w0, hh))) (fun hh => hX hh) s.1 s.2) ?_ xFU ((0, h))
  intro e25 K hK
  refine xa_eqE hK ?_
  show xa_G l G 6 mX12_triesAll _ _ 161 [some (xR c0), some (xI c1), some (xI c2), some (xI c3), some (xI c4), some (xI v5), none] [] e25
  refine xa_step (xa_iinc (ls' := [some (xR c0), some (xI c1), some (xI c2), some (xI c3), some (xI c4), some (xI (w32 (v5 + 1))), none]) d_X12_triesAll_161 xq_i_1 rfl (by decide) rfl) ?_
  refine xa_step (xa_goto d_X12_triesAll_164) ?_
  exact xa_weak (ls' := [some (xR c0), some (xI c1), some (xI c2), some (xI c3), some (xI c4), some (xI (w32 (v5 + 1))), none]) ⟨rfl, rfl, rfl, rfl, rfl, rfl, trivial⟩ (hb (w32 (v5 + 1)) e25)
theorem d_X12_triesAll_51 : decode mX12_triesAll.1 51 = .ok (.goto 110, 3) ∧ ((51 : Nat) : Int) + 110 = ((161 : Nat) : Int) := ⟨by decide +kernel, rfl⟩
set_option maxRecDepth 100000 in
set_option maxHeartbeats 4000000 in
theorem g_X12_triesAll_L24 (l : Launch) (G : xa_C) (c0 c1 c2 c3 c4 : Int) (K : (Int × xa_H) ⊕ (xa_H) → Option xa_O) (hb : ∀ (v5 : Int) (h : xa_H), xa_G l G 6 mX12_triesAll (some (Sum.inl ((v5, h)))) K 24 [some (xR c0), some (xI c1), some (xI c2), some (xI c3), some (xI c4), some (xI v5), none] [] h) (hx : ∀ (h : xa_H), xa_G l G 6 mX12_triesAll (some (Sum.inr h)) K 167 [some (xR c0), some (xI c1), some (xI c2), some (xI c3), some (xI c4), none, none] [] h) : ∀ (v5 : Int) (h : xa_H), xa_G l G 6 mX12_triesAll (f_X12_triesAll_L24 c0 c1 c2 c3 c4 v5 h) K 24 [some (xR c0), some (xI c1), some (xI c2), some (xI c3), some (xI c4), some (xI v5), none] [] h := by
  intro v5 h
  unfold f_X12_triesAll_L24
  refine xa_step (xa_iload d_X12_triesAll_24 rfl) ?_
  refine xa_step (xa_aload_n d_X12_triesAll_26 rfl) ?_
  refine xa_callVi (as := []) (st := [xI v5]) (M' := mX12_holderMany) (d' := 2) rfl xw_1836 xw_1838 xw_108 xw_1839 xw_177 xh_X12_holderMany rfl ⟨Nat.le_of_ble_eq_true rfl, Nat.le_of_ble_eq_true rfl⟩ (Nat.le_of_ble_eq_true rfl) rfl d_X12_triesAll_27 (fun r hr => ct_X12_holderMany l G c0 h r hr) (fun r5 _ => ?_)
  refine xa_if (xa_icmpge d_X12_triesAll_30) (fun q6 => ?_) (fun q6 => ?_)
  · refine xa_step (xa_iload d_X12_triesAll_33 rfl) ?_
    refine xa_step (xa_iload d_X12_triesAll_35 rfl) ?_
    refine xa_if (xa_icmpeq d_X12_triesAll_37) (fun q7 => ?_) (fun q7 => ?_)
    · refine xa_step (xa_iinc (ls' := [some (xR c0), some (xI c1), some (xI c2), some (xI c3), some (xI c4), some (xI (w32 (v5 + 1))), none]) d_X12_triesAll_161 xq_i_1 rfl (by decide) rfl) ?_
      refine xa_step (xa_goto d_X12_triesAll_164) ?_
      exact xa_weak (ls' := [some (xR c0), some (xI c1), some (xI c2), some (xI c3), some (xI c4), some (xI (w32 (v5 + 1))), none]) ⟨rfl, rfl, rfl, rfl, rfl, rfl, trivial⟩ (hb (w32 (v5 + 1)) h)
    · refine xa_step (xa_aload_n d_X12_triesAll_40 rfl) ?_
      refine xa_step (xa_iload d_X12_triesAll_41 rfl) ?_
      refine xa_step (xa_iload d_X12_triesAll_43 rfl) ?_
      refine xa_callVi (as := [xI c4, xI v5]) (st := []) (M' := mX12_areFeud) (d' := 2) rfl xw_1928 xw_1930 xw_123 xw_1931 xw_177 xh_X12_areFeud rfl ⟨Nat.le_of_ble_eq_true rfl, Nat.le_of_ble_eq_true rfl⟩ (Nat.le_of_ble_eq_true rfl) rfl d_X12_triesAll_45 (fun r hr => ct_X12_areFeud l G c0 c4 v5 h r hr) (fun r8 _ => ?_)
      refine xa_if (xa_ifeq d_X12_triesAll_48) (fun q9 => ?_) (fun q9 => ?_)
      · refine xa_step (xa_aload_n d_X12_triesAll_54 rfl) ?_
        refine xa_step (xa_iload_n d_X12_triesAll_55 rfl) ?_
        refine xa_callVV (as := [xI c1]) (st := []) (M' := mX12_isState) (d' := 3) rfl xw_2001 xw_2003 xw_136 xw_2004 xw_177 xh_X12_isState rfl ⟨Nat.le_of_ble_eq_true rfl, Nat.le_of_ble_eq_true rfl⟩ (Nat.le_of_ble_eq_true rfl) rfl d_X12_triesAll_56 (fun r hr => ct_X12_isState l G c0 c1 h r hr) (fun r10 _ => ?_)
        refine xa_step (xa_iload d_X12_triesAll_59 rfl) ?_
        refine xa_step (xa_iload d_X12_triesAll_61 rfl) ?_
        refine xa_if (xa_icmpge d_X12_triesAll_63) (fun q11 => ?_) (fun q11 => ?_)
        · refine xa_step (xa_aload_n d_X12_triesAll_66 rfl) ?_
          refine xa_step (xa_iload d_X12_triesAll_67 rfl) ?_
          refine xa_step (xa_iload d_X12_triesAll_69 rfl) ?_
          refine xa_step (xa_iconst d_X12_triesAll_71 xq_i_m1) ?_
          refine xa_step (xa_iload_n d_X12_triesAll_72 rfl) ?_
          refine xa_callVV (as := [xI c4, xI v5, xI ((-1)), xI c3]) (st := []) (M' := mX12_tries) (d' := 5) rfl xw_2013 xw_2015 xw_139 xw_2016 xw_177 xh_X12_tries rfl ⟨Nat.le_of_ble_eq_true rfl, Nat.le_of_ble_eq_true rfl⟩ (Nat.le_of_ble_eq_true rfl) rfl d_X12_triesAll_73 (fun r hr => ct_X12_tries l G c0 c4 v5 ((-1)) c3 r10 r hr) (fun r12 _ => ?_)
          exact xa_weak (ls' := [some (xR c0), some (xI c1), some (xI c2), some (xI c3), some (xI c4), some (xI v5), none]) ⟨rfl, rfl, rfl, rfl, rfl, rfl, trivial⟩ (g_X12_triesAll_J76L24 l G c0 c1 c2 c3 c4 K hb hx v5 r12)
        · exact xa_weak (ls' := [some (xR c0), some (xI c1), some (xI c2), some (xI c3), some (xI c4), some (xI v5), none]) ⟨rfl, rfl, rfl, rfl, rfl, rfl, trivial⟩ (g_X12_triesAll_J76L24 l G c0 c1 c2 c3 c4 K hb hx v5 r10)
      · refine xa_step (xa_goto d_X12_triesAll_51) ?_
        refine xa_step (xa_iinc (ls' := [some (xR c0), some (xI c1), some (xI c2), some (xI c3), some (xI c4), some (xI (w32 (v5 + 1))), none]) d_X12_triesAll_161 xq_i_1 rfl (by decide) rfl) ?_
        refine xa_step (xa_goto d_X12_triesAll_164) ?_
        exact xa_weak (ls' := [some (xR c0), some (xI c1), some (xI c2), some (xI c3), some (xI c4), some (xI (w32 (v5 + 1))), none]) ⟨rfl, rfl, rfl, rfl, rfl, rfl, trivial⟩ (hb (w32 (v5 + 1)) h)
  · exact xa_weak (ls' := [some (xR c0), some (xI c1), some (xI c2), some (xI c3), some (xI c4), none, none]) ⟨rfl, rfl, rfl, rfl, rfl, trivial⟩ (hx h)
theorem d_X12_triesAll_167 : decode mX12_triesAll.1 167 = .ok (.iinc 4 1, 3) ∧ 167 + 3 = 170 := ⟨by decide +kernel, rfl⟩
theorem d_X12_triesAll_170 : decode mX12_triesAll.1 170 = .ok (.goto (-158), 3) ∧ ((170 : Nat) : Int) + (-158) = ((12 : Nat) : Int) := ⟨by decide +kernel, rfl⟩
set_option maxRecDepth 100000 in
set_option maxHeartbeats 4000000 in
theorem g_X12_triesAll_L12 (l : Launch) (G : xa_C) (c0 c1 c2 c3 : Int) (K : (Int × xa_H) ⊕ (xa_H) → Option xa_O) (hb : ∀ (v4 : Int) (h : xa_H), xa_G l G 6 mX12_triesAll (some (Sum.inl ((v4, h)))) K 12 [some (xR c0), some (xI c1), some (xI c2), some (xI c3), some (xI v4), none, none] [] h) (hx : ∀ (h : xa_H), xa_G l G 6 mX12_triesAll (some (Sum.inr h)) K 173 [none, none, none, none, none, none, none] [] h) : ∀ (v4 : Int) (h : xa_H), xa_G l G 6 mX12_triesAll (f_X12_triesAll_L12 c0 c1 c2 c3 v4 h) K 12 [some (xR c0), some (xI c1), some (xI c2), some (xI c3), some (xI v4), none, none] [] h := by
  intro v4 h
  unfold f_X12_triesAll_L12
  refine xa_step (xa_iload d_X12_triesAll_12 rfl) ?_
  refine xa_step (xa_aload_n d_X12_triesAll_14 rfl) ?_
  refine xa_callVi (as := []) (st := [xI v4]) (M' := mX12_holderMany) (d' := 2) rfl xw_1836 xw_1838 xw_108 xw_1839 xw_177 xh_X12_holderMany rfl ⟨Nat.le_of_ble_eq_true rfl, Nat.le_of_ble_eq_true rfl⟩ (Nat.le_of_ble_eq_true rfl) rfl d_X12_triesAll_15 (fun r hr => ct_X12_holderMany l G c0 h r hr) (fun r3 _ => ?_)
  refine xa_if (xa_icmpge d_X12_triesAll_18) (fun q4 => ?_) (fun q4 => ?_)
  · refine xa_step (xa_iconst d_X12_triesAll_21 xq_i_0) ?_
    refine xa_step (xa_istore (ls' := [some (xR c0), some (xI c1), some (xI c2), some (xI c3), some (xI v4), some (xI 0), none]) d_X12_triesAll_22 (by decide) rfl) ?_
    refine xa_weak (ls' := [some (xR c0), some (xI c1), some (xI c2), some (xI c3), some (xI v4), some (xI 0), none]) ⟨rfl, rfl, rfl, rfl, rfl, rfl, trivial⟩ ?_
    refine xa_loop (f := fun s => f_X12_triesAll_L24 c0 c1 c2 c3 v4 s.1 s.2) (L := fun s => [some (xR c0), some (xI c1), some (xI c2), some (xI c3), some (xI v4), some (xI s.1), none]) (P := fun s => s.2) (X := (fun x K => xa_G l G 6 mX12_triesAll (some (Sum.inr x)) K 167 [some (xR c0), some (xI c1), some (xI c2), some (xI c3), some (xI v4), none, none] [] x)) (fun K hb hX s => g_X12_triesAll_L24 l G c0 c1 c2 c3 v4 K (fun w0 hh => hb ((w0, hh))) (fun hh => hX hh) s.1 s.2) ?_ xFU ((0, h))
    intro e26 K hK
    refine xa_eqE hK ?_
    show xa_G l G 6 mX12_triesAll _ _ 167 [some (xR c0), some (xI c1), some (xI c2), some (xI c3), some (xI v4), none, none] [] e26
    refine xa_step (xa_iinc (ls' := [some (xR c0), some (xI c1), some (xI c2), some (xI c3), some (xI (w32 (v4 + 1))), none, none]) d_X12_triesAll_167 xq_i_1 rfl (by decide) rfl) ?_
    refine xa_step (xa_goto d_X12_triesAll_170) ?_
    exact xa_weak (ls' := [some (xR c0), some (xI c1), some (xI c2), some (xI c3), some (xI (w32 (v4 + 1))), none, none]) ⟨rfl, rfl, rfl, rfl, rfl, trivial⟩ (hb (w32 (v4 + 1)) e26)
  · exact xa_weak (ls' := [none, none, none, none, none, none, none]) trivial (hx h)
theorem d_X12_triesAll_173 : decode mX12_triesAll.1 173 = .ok (.return_, 1) := by decide +kernel
set_option maxRecDepth 100000 in
set_option maxHeartbeats 4000000 in
theorem g_X12_triesAll (l : Launch) (G : xa_C) (v0 v1 v2 : Int) (h : xa_H) : xa_G l G 6 mX12_triesAll (f_X12_triesAll v0 v1 v2 h) (fun r => some (none, r) : xa_H → Option xa_O) 0 [some (xR v0), some (xI v1), some (xI v2), none, none, none, none] [] h := by
  unfold f_X12_triesAll
  refine xa_step (xa_aload_n d_X12_triesAll_0 rfl) ?_
  refine xa_getf xR xc_12 (by decide) (fun _ => rfl) xw_1367 rfl d_X12_triesAll_1 (fun x1 _ => ?_)
  refine xa_step (xa_iload_n d_X12_triesAll_4 rfl) ?_
  refine xa_iaload d_X12_triesAll_5 (fun x2 _ => ?_)
  refine xa_step (xa_iconst d_X12_triesAll_6 xq_i_1) ?_
  refine xa_step (xa_iadd d_X12_triesAll_7) ?_
  refine xa_step (xa_istore_n (ls' := [some (xR v0), some (xI v1), some (xI v2), some (xI (w32 (x2 + 1))), none, none, none]) d_X12_triesAll_8 (by decide) rfl) ?_
  refine xa_step (xa_iconst d_X12_triesAll_9 xq_i_0) ?_
  refine xa_step (xa_istore (ls' := [some (xR v0), some (xI v1), some (xI v2), some (xI (w32 (x2 + 1))), some (xI 0), none, none]) d_X12_triesAll_10 (by decide) rfl) ?_
  refine xa_weak (ls' := [some (xR v0), some (xI v1), some (xI v2), some (xI (w32 (x2 + 1))), some (xI 0), none, none]) ⟨rfl, rfl, rfl, rfl, rfl, trivial⟩ ?_
  refine xa_loop (f := fun s => f_X12_triesAll_L12 v0 v1 v2 (w32 (x2 + 1)) s.1 s.2) (L := fun s => [some (xR v0), some (xI v1), some (xI v2), some (xI (w32 (x2 + 1))), some (xI s.1), none, none]) (P := fun s => s.2) (X := (fun x K => xa_G l G 6 mX12_triesAll (some (Sum.inr x)) K 173 [none, none, none, none, none, none, none] [] x)) (fun K hb hX s => g_X12_triesAll_L12 l G v0 v1 v2 (w32 (x2 + 1)) K (fun w0 hh => hb ((w0, hh))) (fun hh => hX hh) s.1 s.2) ?_ xFU ((0, h))
  intro e27 K hK
  refine xa_eqE hK ?_
  show xa_G l G 6 mX12_triesAll _ _ 173 [none, none, none, none, none, none, none] [] e27
  exact xa_vret d_X12_triesAll_173 rfl rfl
theorem ct_X12_triesAll (l : Launch) (G : xa_C) (v0 v1 v2 : Int) (h : xa_H) (r : xa_H) (hr : f_X12_triesAll v0 v1 v2 h = some r) : xa_CT l G 6 mX12_triesAll yX12_triesAll [xR v0, xI v1, xI v2] h (none, r) :=
  xa_met (by decide +kernel) rfl (fun q => by first | rfl | cases q) (Nat.le_of_ble_eq_true rfl) rfl (g_X12_triesAll l G v0 v1 v2 h) (by rw [hr]; rfl)
abbrev mX12_meetings : xa_M := (cX12_meetings, 3, (some (.int)), RX12, false)
theorem d_X12_meetings_0 : decode mX12_meetings.1 0 = .ok (.iload_n 1, 1) ∧ 0 + 1 = 1 := ⟨by decide +kernel, rfl⟩
theorem d_X12_meetings_1 : decode mX12_meetings.1 1 = .ok (.i2l, 1) ∧ 1 + 1 = 2 := ⟨by decide +kernel, rfl⟩
theorem d_X12_meetings_2 : decode mX12_meetings.1 2 = .ok (.ldc2_w 454, 3) ∧ 2 + 3 = 5 := ⟨by decide +kernel, rfl⟩
theorem d_X12_meetings_5 : decode mX12_meetings.1 5 = .ok (.ldc2_w 497, 3) ∧ 5 + 3 = 8 := ⟨by decide +kernel, rfl⟩
theorem d_X12_meetings_8 : decode mX12_meetings.1 8 = .ok (.invokestatic 289, 3) ∧ 8 + 3 = 11 := ⟨by decide +kernel, rfl⟩
theorem d_X12_meetings_11 : decode mX12_meetings.1 11 = .ok (.ifCond .ne 5, 3) ∧ 11 + 3 = 14 ∧ ((11 : Nat) : Int) + 5 = ((16 : Nat) : Int) := ⟨by decide +kernel, rfl, rfl⟩
theorem d_X12_meetings_14 : decode mX12_meetings.1 14 = .ok (.iconst (-1), 1) ∧ 14 + 1 = 15 := ⟨by decide +kernel, rfl⟩
theorem d_X12_meetings_15 : decode mX12_meetings.1 15 = .ok (.ireturn, 1) := by decide +kernel
theorem d_X12_meetings_16 : decode mX12_meetings.1 16 = .ok (.iconst 0, 1) ∧ 16 + 1 = 17 := ⟨by decide +kernel, rfl⟩
theorem d_X12_meetings_17 : decode mX12_meetings.1 17 = .ok (.istore_n 2, 1) ∧ 17 + 1 = 18 := ⟨by decide +kernel, rfl⟩
theorem d_X12_meetings_18 : decode mX12_meetings.1 18 = .ok (.iload_n 2, 1) ∧ 18 + 1 = 19 := ⟨by decide +kernel, rfl⟩
theorem d_X12_meetings_19 : decode mX12_meetings.1 19 = .ok (.ldc 142, 2) ∧ 19 + 2 = 21 := ⟨by decide +kernel, rfl⟩
theorem d_X12_meetings_21 : decode mX12_meetings.1 21 = .ok (.if_icmp .ge 16, 3) ∧ 21 + 3 = 24 ∧ ((21 : Nat) : Int) + 16 = ((37 : Nat) : Int) := ⟨by decide +kernel, rfl, rfl⟩
theorem d_X12_meetings_24 : decode mX12_meetings.1 24 = .ok (.aload_n 0, 1) ∧ 24 + 1 = 25 := ⟨by decide +kernel, rfl⟩
theorem d_X12_meetings_25 : decode mX12_meetings.1 25 = .ok (.getfield 143, 3) ∧ 25 + 3 = 28 := ⟨by decide +kernel, rfl⟩
theorem d_X12_meetings_28 : decode mX12_meetings.1 28 = .ok (.iload_n 2, 1) ∧ 28 + 1 = 29 := ⟨by decide +kernel, rfl⟩
theorem d_X12_meetings_29 : decode mX12_meetings.1 29 = .ok (.iconst (-1), 1) ∧ 29 + 1 = 30 := ⟨by decide +kernel, rfl⟩
theorem d_X12_meetings_30 : decode mX12_meetings.1 30 = .ok (.iastore, 1) ∧ 30 + 1 = 31 := ⟨by decide +kernel, rfl⟩
theorem d_X12_meetings_31 : decode mX12_meetings.1 31 = .ok (.iinc 2 1, 3) ∧ 31 + 3 = 34 := ⟨by decide +kernel, rfl⟩
theorem d_X12_meetings_34 : decode mX12_meetings.1 34 = .ok (.goto (-16), 3) ∧ ((34 : Nat) : Int) + (-16) = ((18 : Nat) : Int) := ⟨by decide +kernel, rfl⟩
set_option maxRecDepth 100000 in
set_option maxHeartbeats 4000000 in
theorem g_X12_meetings_L18 (l : Launch) (G : xa_C) (c0 c1 : Int) (K : (Int × xa_H) ⊕ (xa_H) → Option xa_O) (hb : ∀ (v2 : Int) (h : xa_H), xa_G l G 7 mX12_meetings (some (Sum.inl ((v2, h)))) K 18 [some (xR c0), some (xI c1), some (xI v2)] [] h) (hx : ∀ (h : xa_H), xa_G l G 7 mX12_meetings (some (Sum.inr h)) K 37 [some (xR c0), some (xI c1), none] [] h) : ∀ (v2 : Int) (h : xa_H), xa_G l G 7 mX12_meetings (f_X12_meetings_L18 c0 c1 v2 h) K 18 [some (xR c0), some (xI c1), some (xI v2)] [] h := by
  intro v2 h
  unfold f_X12_meetings_L18
  refine xa_step (xa_iload_n d_X12_meetings_18 rfl) ?_
  refine xa_step (xa_ldc (c32 := 46656) (v := 46656) (by decide +kernel) xw_1303 d_X12_meetings_19) ?_
  refine xa_if (xa_icmpge d_X12_meetings_21) (fun q3 => ?_) (fun q3 => ?_)
  · refine xa_step (xa_aload_n d_X12_meetings_24 rfl) ?_
    refine xa_getf xR xc_12 (by decide) (fun _ => rfl) xw_1367 rfl d_X12_meetings_25 (fun x4 _ => ?_)
    refine xa_step (xa_iload_n d_X12_meetings_28 rfl) ?_
    refine xa_step (xa_iconst d_X12_meetings_29 xq_i_m1) ?_
    refine xa_iastore2 d_X12_meetings_30 (fun h5 _ => ?_)
    refine xa_step (xa_iinc (ls' := [some (xR c0), some (xI c1), some (xI (w32 (v2 + 1)))]) d_X12_meetings_31 xq_i_1 rfl (by decide) rfl) ?_
    refine xa_step (xa_goto d_X12_meetings_34) ?_
    exact xa_weak (ls' := [some (xR c0), some (xI c1), some (xI (w32 (v2 + 1)))]) ⟨rfl, rfl, rfl, trivial⟩ (hb (w32 (v2 + 1)) h5)
  · exact xa_weak (ls' := [some (xR c0), some (xI c1), none]) ⟨rfl, rfl, trivial⟩ (hx h)
theorem d_X12_meetings_37 : decode mX12_meetings.1 37 = .ok (.iconst 0, 1) ∧ 37 + 1 = 38 := ⟨by decide +kernel, rfl⟩
theorem d_X12_meetings_38 : decode mX12_meetings.1 38 = .ok (.istore_n 2, 1) ∧ 38 + 1 = 39 := ⟨by decide +kernel, rfl⟩
theorem d_X12_meetings_39 : decode mX12_meetings.1 39 = .ok (.iload_n 2, 1) ∧ 39 + 1 = 40 := ⟨by decide +kernel, rfl⟩
theorem d_X12_meetings_40 : decode mX12_meetings.1 40 = .ok (.aload_n 0, 1) ∧ 40 + 1 = 41 := ⟨by decide +kernel, rfl⟩
theorem d_X12_meetings_41 : decode mX12_meetings.1 41 = .ok (.invokevirtual 402, 3) ∧ 41 + 3 = 44 := ⟨by decide +kernel, rfl⟩
theorem d_X12_meetings_44 : decode mX12_meetings.1 44 = .ok (.if_icmp .ge 16, 3) ∧ 44 + 3 = 47 ∧ ((44 : Nat) : Int) + 16 = ((60 : Nat) : Int) := ⟨by decide +kernel, rfl, rfl⟩
theorem d_X12_meetings_47 : decode mX12_meetings.1 47 = .ok (.aload_n 0, 1) ∧ 47 + 1 = 48 := ⟨by decide +kernel, rfl⟩
theorem d_X12_meetings_48 : decode mX12_meetings.1 48 = .ok (.getfield 149, 3) ∧ 48 + 3 = 51 := ⟨by decide +kernel, rfl⟩
theorem d_X12_meetings_51 : decode mX12_meetings.1 51 = .ok (.iload_n 2, 1) ∧ 51 + 1 = 52 := ⟨by decide +kernel, rfl⟩
theorem d_X12_meetings_52 : decode mX12_meetings.1 52 = .ok (.iload_n 2, 1) ∧ 52 + 1 = 53 := ⟨by decide +kernel, rfl⟩
theorem d_X12_meetings_53 : decode mX12_meetings.1 53 = .ok (.iastore, 1) ∧ 53 + 1 = 54 := ⟨by decide +kernel, rfl⟩
theorem d_X12_meetings_54 : decode mX12_meetings.1 54 = .ok (.iinc 2 1, 3) ∧ 54 + 3 = 57 := ⟨by decide +kernel, rfl⟩
theorem d_X12_meetings_57 : decode mX12_meetings.1 57 = .ok (.goto (-18), 3) ∧ ((57 : Nat) : Int) + (-18) = ((39 : Nat) : Int) := ⟨by decide +kernel, rfl⟩
set_option maxRecDepth 100000 in
set_option maxHeartbeats 4000000 in
theorem g_X12_meetings_L39 (l : Launch) (G : xa_C) (c0 c1 : Int) (K : (Int × xa_H) ⊕ (xa_H) → Option xa_O) (hb : ∀ (v2 : Int) (h : xa_H), xa_G l G 7 mX12_meetings (some (Sum.inl ((v2, h)))) K 39 [some (xR c0), some (xI c1), some (xI v2)] [] h) (hx : ∀ (h : xa_H), xa_G l G 7 mX12_meetings (some (Sum.inr h)) K 60 [some (xR c0), some (xI c1), none] [] h) : ∀ (v2 : Int) (h : xa_H), xa_G l G 7 mX12_meetings (f_X12_meetings_L39 c0 c1 v2 h) K 39 [some (xR c0), some (xI c1), some (xI v2)] [] h := by
  intro v2 h
  unfold f_X12_meetings_L39
  refine xa_step (xa_iload_n d_X12_meetings_39 rfl) ?_
  refine xa_step (xa_aload_n d_X12_meetings_40 rfl) ?_
  refine xa_callVi (as := []) (st := [xI v2]) (M' := mX12_holderMany) (d' := 2) rfl xw_1836 xw_1838 xw_108 xw_1839 xw_177 xh_X12_holderMany rfl ⟨Nat.le_of_ble_eq_true rfl, Nat.le_of_ble_eq_true rfl⟩ (Nat.le_of_ble_eq_true rfl) rfl d_X12_meetings_41 (fun r hr => ct_X12_holderMany l G c0 h r hr) (fun r7 _ => ?_)
  refine xa_if (xa_icmpge d_X12_meetings_44) (fun q8 => ?_) (fun q8 => ?_)
  · refine xa_step (xa_aload_n d_X12_meetings_47 rfl) ?_
    refine xa_getf xR xc_12 (by decide) (fun _ => rfl) xw_1370 rfl d_X12_meetings_48 (fun x9 _ => ?_)
    refine xa_step (xa_iload_n d_X12_meetings_51 rfl) ?_
    refine xa_step (xa_iload_n d_X12_meetings_52 rfl) ?_
    refine xa_iastore2 d_X12_meetings_53 (fun h10 _ => ?_)
    refine xa_step (xa_iinc (ls' := [some (xR c0), some (xI c1), some (xI (w32 (v2 + 1)))]) d_X12_meetings_54 xq_i_1 rfl (by decide) rfl) ?_
    refine xa_step (xa_goto d_X12_meetings_57) ?_
    exact xa_weak (ls' := [some (xR c0), some (xI c1), some (xI (w32 (v2 + 1)))]) ⟨rfl, rfl, rfl, trivial⟩ (hb (w32 (v2 + 1)) h10)
  · exact xa_weak (ls' := [some (xR c0), some (xI c1), none]) ⟨rfl, rfl, trivial⟩ (hx h)
theorem d_X12_meetings_60 : decode mX12_meetings.1 60 = .ok (.aload_n 0, 1) ∧ 60 + 1 = 61 := ⟨by decide +kernel, rfl⟩
theorem d_X12_meetings_61 : decode mX12_meetings.1 61 = .ok (.iconst 0, 1) ∧ 61 + 1 = 62 := ⟨by decide +kernel, rfl⟩
theorem d_X12_meetings_62 : decode mX12_meetings.1 62 = .ok (.putfield 523, 3) ∧ 62 + 3 = 65 := ⟨by decide +kernel, rfl⟩
theorem d_X12_meetings_65 : decode mX12_meetings.1 65 = .ok (.aload_n 0, 1) ∧ 65 + 1 = 66 := ⟨by decide +kernel, rfl⟩
theorem d_X12_meetings_66 : decode mX12_meetings.1 66 = .ok (.iconst 0, 1) ∧ 66 + 1 = 67 := ⟨by decide +kernel, rfl⟩
theorem d_X12_meetings_67 : decode mX12_meetings.1 67 = .ok (.invokevirtual 526, 3) ∧ 67 + 3 = 70 := ⟨by decide +kernel, rfl⟩
theorem d_X12_meetings_70 : decode mX12_meetings.1 70 = .ok (.iconst 0, 1) ∧ 70 + 1 = 71 := ⟨by decide +kernel, rfl⟩
theorem d_X12_meetings_71 : decode mX12_meetings.1 71 = .ok (.istore_n 2, 1) ∧ 71 + 1 = 72 := ⟨by decide +kernel, rfl⟩
theorem d_X12_meetings_72 : decode mX12_meetings.1 72 = .ok (.iload_n 2, 1) ∧ 72 + 1 = 73 := ⟨by decide +kernel, rfl⟩
theorem d_X12_meetings_73 : decode mX12_meetings.1 73 = .ok (.aload_n 0, 1) ∧ 73 + 1 = 74 := ⟨by decide +kernel, rfl⟩
theorem d_X12_meetings_74 : decode mX12_meetings.1 74 = .ok (.getfield 523, 3) ∧ 74 + 3 = 77 := ⟨by decide +kernel, rfl⟩
theorem d_X12_meetings_77 : decode mX12_meetings.1 77 = .ok (.if_icmp .ge 49, 3) ∧ 77 + 3 = 80 ∧ ((77 : Nat) : Int) + 49 = ((126 : Nat) : Int) := ⟨by decide +kernel, rfl, rfl⟩
theorem d_X12_meetings_80 : decode mX12_meetings.1 80 = .ok (.aload_n 0, 1) ∧ 80 + 1 = 81 := ⟨by decide +kernel, rfl⟩
theorem d_X12_meetings_81 : decode mX12_meetings.1 81 = .ok (.aload_n 0, 1) ∧ 81 + 1 = 82 := ⟨by decide +kernel, rfl⟩
theorem d_X12_meetings_82 : decode mX12_meetings.1 82 = .ok (.getfield 146, 3) ∧ 82 + 3 = 85 := ⟨by decide +kernel, rfl⟩
theorem d_X12_meetings_85 : decode mX12_meetings.1 85 = .ok (.iload_n 2, 1) ∧ 85 + 1 = 86 := ⟨by decide +kernel, rfl⟩
theorem d_X12_meetings_86 : decode mX12_meetings.1 86 = .ok (.iaload, 1) ∧ 86 + 1 = 87 := ⟨by decide +kernel, rfl⟩
theorem d_X12_meetings_87 : decode mX12_meetings.1 87 = .ok (.invokevirtual 529, 3) ∧ 87 + 3 = 90 := ⟨by decide +kernel, rfl⟩
theorem d_X12_meetings_90 : decode mX12_meetings.1 90 = .ok (.aload_n 0, 1) ∧ 90 + 1 = 91 := ⟨by decide +kernel, rfl⟩
theorem d_X12_meetings_91 : decode mX12_meetings.1 91 = .ok (.invokevirtual 536, 3) ∧ 91 + 3 = 94 := ⟨by decide +kernel, rfl⟩
theorem d_X12_meetings_94 : decode mX12_meetings.1 94 = .ok (.ifCond .eq 15, 3) ∧ 94 + 3 = 97 ∧ ((94 : Nat) : Int) + 15 = ((109 : Nat) : Int) := ⟨by decide +kernel, rfl, rfl⟩
theorem d_X12_meetings_109 : decode mX12_meetings.1 109 = .ok (.aload_n 0, 1) ∧ 109 + 1 = 110 := ⟨by decide +kernel, rfl⟩
theorem d_X12_meetings_110 : decode mX12_meetings.1 110 = .ok (.aload_n 0, 1) ∧ 110 + 1 = 111 := ⟨by decide +kernel, rfl⟩
theorem d_X12_meetings_111 : decode mX12_meetings.1 111 = .ok (.getfield 146, 3) ∧ 111 + 3 = 114 := ⟨by decide +kernel, rfl⟩
theorem d_X12_meetings_114 : decode mX12_meetings.1 114 = .ok (.iload_n 2, 1) ∧ 114 + 1 = 115 := ⟨by decide +kernel, rfl⟩
theorem d_X12_meetings_115 : decode mX12_meetings.1 115 = .ok (.iaload, 1) ∧ 115 + 1 = 116 := ⟨by decide +kernel, rfl⟩
theorem d_X12_meetings_116 : decode mX12_meetings.1 116 = .ok (.iload_n 1, 1) ∧ 116 + 1 = 117 := ⟨by decide +kernel, rfl⟩
theorem d_X12_meetings_117 : decode mX12_meetings.1 117 = .ok (.invokevirtual 539, 3) ∧ 117 + 3 = 120 := ⟨by decide +kernel, rfl⟩
theorem d_X12_meetings_120 : decode mX12_meetings.1 120 = .ok (.iinc 2 1, 3) ∧ 120 + 3 = 123 := ⟨by decide +kernel, rfl⟩
theorem d_X12_meetings_123 : decode mX12_meetings.1 123 = .ok (.goto (-51), 3) ∧ ((123 : Nat) : Int) + (-51) = ((72 : Nat) : Int) := ⟨by decide +kernel, rfl⟩
theorem d_X12_meetings_97 : decode mX12_meetings.1 97 = .ok (.aload_n 0, 1) ∧ 97 + 1 = 98 := ⟨by decide +kernel, rfl⟩
theorem d_X12_meetings_98 : decode mX12_meetings.1 98 = .ok (.getfield 143, 3) ∧ 98 + 3 = 101 := ⟨by decide +kernel, rfl⟩
theorem d_X12_meetings_101 : decode mX12_meetings.1 101 = .ok (.aload_n 0, 1) ∧ 101 + 1 = 102 := ⟨by decide +kernel, rfl⟩
theorem d_X12_meetings_102 : decode mX12_meetings.1 102 = .ok (.getfield 146, 3) ∧ 102 + 3 = 105 := ⟨by decide +kernel, rfl⟩
theorem d_X12_meetings_105 : decode mX12_meetings.1 105 = .ok (.iload_n 2, 1) ∧ 105 + 1 = 106 := ⟨by decide +kernel, rfl⟩
theorem d_X12_meetings_106 : decode mX12_meetings.1 106 = .ok (.iaload, 1) ∧ 106 + 1 = 107 := ⟨by decide +kernel, rfl⟩
theorem d_X12_meetings_107 : decode mX12_meetings.1 107 = .ok (.iaload, 1) ∧ 107 + 1 = 108 := ⟨by decide +kernel, rfl⟩
theorem d_X12_meetings_108 : decode mX12_meetings.1 108 = .ok (.ireturn, 1) := by decide +kernel
set_option maxRecDepth 100000 in
set_option maxHeartbeats 4000000 in
theorem g_X12_meetings_L72 (l : Launch) (G : xa_C) (c0 c1 : Int) (K : (Int × xa_H) ⊕ ((Int × xa_H) ⊕ (xa_H)) → Option xa_O) (hb : ∀ (v2 : Int) (h : xa_H), xa_G l G 7 mX12_meetings (some (Sum.inl ((v2, h)))) K 72 [some (xR c0), some (xI c1), some (xI v2)] [] h) (hr : ∀ r : Int × xa_H, K (Sum.inr (Sum.inl r)) = some (some (xI r.1), r.2)) (hx : ∀ (h : xa_H), xa_G l G 7 mX12_meetings (some (Sum.inr (Sum.inr h))) K 126 [none, none, none] [] h) : ∀ (v2 : Int) (h : xa_H), xa_G l G 7 mX12_meetings (f_X12_meetings_L72 c0 c1 v2 h) K 72 [some (xR c0), some (xI c1), some (xI v2)] [] h := by
  intro v2 h
  unfold f_X12_meetings_L72
  refine xa_step (xa_iload_n d_X12_meetings_72 rfl) ?_
  refine xa_step (xa_aload_n d_X12_meetings_73 rfl) ?_
  refine xa_getf xI xc_12 (by decide) (fun _ => rfl) xw_1369 rfl d_X12_meetings_74 (fun x14 _ => ?_)
  refine xa_if (xa_icmpge d_X12_meetings_77) (fun q15 => ?_) (fun q15 => ?_)
  · refine xa_step (xa_aload_n d_X12_meetings_80 rfl) ?_
    refine xa_step (xa_aload_n d_X12_meetings_81 rfl) ?_
    refine xa_getf xR xc_12 (by decide) (fun _ => rfl) xw_1368 rfl d_X12_meetings_82 (fun x16 _ => ?_)
    refine xa_step (xa_iload_n d_X12_meetings_85 rfl) ?_
    refine xa_iaload d_X12_meetings_86 (fun x17 _ => ?_)
    refine xa_callVV (as := [xI x17]) (st := []) (M' := mX12_isState) (d' := 3) rfl xw_2001 xw_2003 xw_136 xw_2004 xw_177 xh_X12_isState rfl ⟨Nat.le_of_ble_eq_true rfl, Nat.le_of_ble_eq_true rfl⟩ (Nat.le_of_ble_eq_true rfl) rfl d_X12_meetings_87 (fun r hr => ct_X12_isState l G c0 x17 h r hr) (fun r18 _ => ?_)
    refine xa_step (xa_aload_n d_X12_meetings_90 rfl) ?_
    refine xa_callVi (as := []) (st := []) (M' := mX12_areSettled) (d' := 3) rfl xw_2005 xw_2007 xw_137 xw_2008 xw_177 xh_X12_areSettled rfl ⟨Nat.le_of_ble_eq_true rfl, Nat.le_of_ble_eq_true rfl⟩ (Nat.le_of_ble_eq_true rfl) rfl d_X12_meetings_91 (fun r hr => ct_X12_areSettled l G c0 r18 r hr) (fun r19 _ => ?_)
    refine xa_if (xa_ifeq d_X12_meetings_94) (fun q20 => ?_) (fun q20 => ?_)
    · refine xa_step (xa_aload_n d_X12_meetings_109 rfl) ?_
      refine xa_step (xa_aload_n d_X12_meetings_110 rfl) ?_
      refine xa_getf xR xc_12 (by decide) (fun _ => rfl) xw_1368 rfl d_X12_meetings_111 (fun x21 _ => ?_)
      refine xa_step (xa_iload_n d_X12_meetings_114 rfl) ?_
      refine xa_iaload d_X12_meetings_115 (fun x22 _ => ?_)
      refine xa_step (xa_iload_n d_X12_meetings_116 rfl) ?_
      refine xa_callVV (as := [xI x22, xI c1]) (st := []) (M' := mX12_triesAll) (d' := 6) rfl xw_2009 xw_2011 xw_138 xw_2012 xw_177 xh_X12_triesAll rfl ⟨Nat.le_of_ble_eq_true rfl, Nat.le_of_ble_eq_true rfl⟩ (Nat.le_of_ble_eq_true rfl) rfl d_X12_meetings_117 (fun r hr => ct_X12_triesAll l G c0 x22 c1 r18 r hr) (fun r23 _ => ?_)
      refine xa_step (xa_iinc (ls' := [some (xR c0), some (xI c1), some (xI (w32 (v2 + 1)))]) d_X12_meetings_120 xq_i_1 rfl (by decide) rfl) ?_
      refine xa_step (xa_goto d_X12_meetings_123) ?_
      exact xa_weak (ls' := [some (xR c0), some (xI c1), some (xI (w32 (v2 + 1)))]) ⟨rfl, rfl, rfl, trivial⟩ (hb (w32 (v2 + 1)) r23)
    · refine xa_step (xa_aload_n d_X12_meetings_97 rfl) ?_
      refine xa_getf xR xc_12 (by decide) (fun _ => rfl) xw_1367 rfl d_X12_meetings_98 (fun x24 _ => ?_)
      refine xa_step (xa_aload_n d_X12_meetings_101 rfl) ?_
      refine xa_getf xR xc_12 (by decide) (fun _ => rfl) xw_1368 rfl d_X12_meetings_102 (fun x25 _ => ?_)
      refine xa_step (xa_iload_n d_X12_meetings_105 rfl) ?_
      refine xa_iaload d_X12_meetings_106 (fun x26 _ => ?_)
      refine xa_iaload d_X12_meetings_107 (fun x27 _ => ?_)
      exact xa_iret d_X12_meetings_108 rfl (hr _)
  · exact xa_weak (ls' := [none, none, none]) trivial (hx h)
theorem d_X12_meetings_126 : decode mX12_meetings.1 126 = .ok (.iconst (-1), 1) ∧ 126 + 1 = 127 := ⟨by decide +kernel, rfl⟩
theorem d_X12_meetings_127 : decode mX12_meetings.1 127 = .ok (.ireturn, 1) := by decide +kernel
set_option maxRecDepth 100000 in
set_option maxHeartbeats 4000000 in
theorem g_X12_meetings (l : Launch) (G : xa_C) (v0 v1 : Int) (h : xa_H) : xa_G l G 7 mX12_meetings (f_X12_meetings v0 v1 h) (fun r => some (some (xI r.1), r.2) : (Int × xa_H) → Option xa_O) 0 [some (xR v0), some (xI v1), none] [] h := by
  unfold f_X12_meetings
  refine xa_step (xa_iload_n d_X12_meetings_0 rfl) ?_
  refine xa_step (xa_i2l d_X12_meetings_1) ?_
  refine xa_step (xa_ldc2 (c64 := 2) (v := 2) (by decide +kernel) xw_1918 d_X12_meetings_2) ?_
  refine xa_step (xa_ldc2 (c64 := 3) (v := 3) (by decide +kernel) xw_1909 d_X12_meetings_5) ?_
  refine xa_callSi (as := [xL v1, xL 2, xL 3]) (st := []) (M' := mX12_isIn) (d' := 2) xw_1706 xw_1707 xw_1708 xw_177 xh_X12_isIn rfl ⟨Nat.le_of_ble_eq_true rfl, Nat.le_of_ble_eq_true rfl⟩ (Nat.le_of_ble_eq_true rfl) rfl d_X12_meetings_8 (fun r hr => ct_X12_isIn l G v1 2 3 h r hr) (fun r1 _ => ?_)
  refine xa_if (xa_ifne d_X12_meetings_11) (fun q2 => ?_) (fun q2 => ?_)
  · refine xa_step (xa_iconst d_X12_meetings_14 xq_i_m1) ?_
    exact xa_iret d_X12_meetings_15 rfl rfl
  · refine xa_step (xa_iconst d_X12_meetings_16 xq_i_0) ?_
    refine xa_step (xa_istore_n (ls' := [some (xR v0), some (xI v1), some (xI 0)]) d_X12_meetings_17 (by decide) rfl) ?_
    refine xa_weak (ls' := [some (xR v0), some (xI v1), some (xI 0)]) ⟨rfl, rfl, rfl, trivial⟩ ?_
    refine xa_loop (f := fun s => f_X12_meetings_L18 v0 v1 s.1 s.2) (L := fun s => [some (xR v0), some (xI v1), some (xI s.1)]) (P := fun s => s.2) (X := (fun x K => xa_G l G 7 mX12_meetings (some (Sum.inr x)) K 37 [some (xR v0), some (xI v1), none] [] x)) (fun K hb hX s => g_X12_meetings_L18 l G v0 v1 K (fun w0 hh => hb ((w0, hh))) (fun hh => hX hh) s.1 s.2) ?_ xFU ((0, h))
    intro e6 K hK
    refine xa_eqE hK ?_
    show xa_G l G 7 mX12_meetings _ _ 37 [some (xR v0), some (xI v1), none] [] e6
    refine xa_step (xa_iconst d_X12_meetings_37 xq_i_0) ?_
    refine xa_step (xa_istore_n (ls' := [some (xR v0), some (xI v1), some (xI 0)]) d_X12_meetings_38 (by decide) rfl) ?_
    refine xa_weak (ls' := [some (xR v0), some (xI v1), some (xI 0)]) ⟨rfl, rfl, rfl, trivial⟩ ?_
    refine xa_loop (f := fun s => f_X12_meetings_L39 v0 v1 s.1 s.2) (L := fun s => [some (xR v0), some (xI v1), some (xI s.1)]) (P := fun s => s.2) (X := (fun x K => xa_G l G 7 mX12_meetings (some (Sum.inr x)) K 60 [some (xR v0), some (xI v1), none] [] x)) (fun K hb hX s => g_X12_meetings_L39 l G v0 v1 K (fun w0 hh => hb ((w0, hh))) (fun hh => hX hh) s.1 s.2) ?_ xFU ((0, e6))
    intro e11 K hK
    refine xa_eqE hK ?_
    show xa_G l G 7 mX12_meetings _ _ 60 [some (xR v0), some (xI v1), none] [] e11
    refine xa_step (xa_aload_n d_X12_meetings_60 rfl) ?_
    refine xa_step (xa_iconst d_X12_meetings_61 xq_i_0) ?_
    refine xa_putf2 (tg := xI) xc_12 (by decide) (fun _ => rfl) rfl (fun c hc => xa_fitI c hc) xw_1369 rfl d_X12_meetings_62 (fun h12 _ => ?_)
    refine xa_step (xa_aload_n d_X12_meetings_65 rfl) ?_
    refine xa_step (xa_iconst d_X12_meetings_66 xq_i_0) ?_
    refine xa_callVV (as := [xI 0]) (st := []) (M' := mX12_comesTo) (d' := 4) rfl xw_1993 xw_1995 xw_134 xw_1996 xw_177 xh_X12_comesTo rfl ⟨Nat.le_of_ble_eq_true rfl, Nat.le_of_ble_eq_true rfl⟩ (Nat.le_of_ble_eq_true rfl) rfl d_X12_meetings_67 (fun r hr => ct_X12_comesTo l G v0 0 h12 r hr) (fun r13 _ => ?_)
    refine xa_step (xa_iconst d_X12_meetings_70 xq_i_0) ?_
    refine xa_step (xa_istore_n (ls' := [some (xR v0), some (xI v1), some (xI 0)]) d_X12_meetings_71 (by decide) rfl) ?_
    refine xa_weak (ls' := [some (xR v0), some (xI v1), some (xI 0)]) ⟨rfl, rfl, rfl, trivial⟩ ?_
    refine xa_loop (f := fun s => f_X12_meetings_L72 v0 v1 s.1 s.2) (L := fun s => [some (xR v0), some (xI v1), some (xI s.1)]) (P := fun s => s.2) (X := (fun e K => match e with | Sum.inl r => K (Sum.inr (Sum.inl r)) = some (some (xI r.1), r.2) | Sum.inr x => xa_G l G 7 mX12_meetings (some (Sum.inr (Sum.inr x))) K 126 [none, none, none] [] x)) (fun K hb hX s => g_X12_meetings_L72 l G v0 v1 K (fun w0 hh => hb ((w0, hh))) (fun r => hX (Sum.inl r)) (fun hh => hX (Sum.inr hh)) s.1 s.2) ?_ xFU ((0, r13))
    rintro (r | y29) K hK
    · exact hK.trans rfl
    · refine xa_eqE hK ?_
      show xa_G l G 7 mX12_meetings _ _ 126 [none, none, none] [] y29
      refine xa_step (xa_iconst d_X12_meetings_126 xq_i_m1) ?_
      exact xa_iret d_X12_meetings_127 rfl rfl
theorem ct_X12_meetings (l : Launch) (G : xa_C) (v0 v1 : Int) (h : xa_H) (r : Int × xa_H) (hr : f_X12_meetings v0 v1 h = some r) : xa_CT l G 7 mX12_meetings yX12_meetings [xR v0, xI v1] h (some (xI r.1), r.2) :=
  xa_met (by decide +kernel) rfl (fun q => by first | rfl | cases q) (Nat.le_of_ble_eq_true rfl) rfl (g_X12_meetings l G v0 v1 h) (by rw [hr]; rfl)
abbrev mX12_met : xa_M := (cX12_met, 3, (some (.int)), RX12, false)
theorem d_X12_met_0 : decode mX12_met.1 0 = .ok (.aload_n 0, 1) ∧ 0 + 1 = 1 := ⟨by decide +kernel, rfl⟩
theorem d_X12_met_1 : decode mX12_met.1 1 = .ok (.iload_n 1, 1) ∧ 1 + 1 = 2 := ⟨by decide +kernel, rfl⟩
theorem d_X12_met_2 : decode mX12_met.1 2 = .ok (.invokevirtual 458, 3) ∧ 2 + 3 = 5 := ⟨by decide +kernel, rfl⟩
theorem d_X12_met_5 : decode mX12_met.1 5 = .ok (.ifCond .eq 20, 3) ∧ 5 + 3 = 8 ∧ ((5 : Nat) : Int) + 20 = ((25 : Nat) : Int) := ⟨by decide +kernel, rfl, rfl⟩
theorem d_X12_met_25 : decode mX12_met.1 25 = .ok (.iconst (-1), 1) ∧ 25 + 1 = 26 := ⟨by decide +kernel, rfl⟩
theorem d_X12_met_26 : decode mX12_met.1 26 = .ok (.ireturn, 1) := by decide +kernel
theorem d_X12_met_8 : decode mX12_met.1 8 = .ok (.aload_n 0, 1) ∧ 8 + 1 = 9 := ⟨by decide +kernel, rfl⟩
theorem d_X12_met_9 : decode mX12_met.1 9 = .ok (.iload_n 2, 1) ∧ 9 + 1 = 10 := ⟨by decide +kernel, rfl⟩
theorem d_X12_met_10 : decode mX12_met.1 10 = .ok (.invokevirtual 458, 3) ∧ 10 + 3 = 13 := ⟨by decide +kernel, rfl⟩
theorem d_X12_met_13 : decode mX12_met.1 13 = .ok (.ifCond .eq 12, 3) ∧ 13 + 3 = 16 ∧ ((13 : Nat) : Int) + 12 = ((25 : Nat) : Int) := ⟨by decide +kernel, rfl, rfl⟩
theorem d_X12_met_16 : decode mX12_met.1 16 = .ok (.aload_n 0, 1) ∧ 16 + 1 = 17 := ⟨by decide +kernel, rfl⟩
theorem d_X12_met_17 : decode mX12_met.1 17 = .ok (.iload_n 1, 1) ∧ 17 + 1 = 18 := ⟨by decide +kernel, rfl⟩
theorem d_X12_met_18 : decode mX12_met.1 18 = .ok (.iload_n 2, 1) ∧ 18 + 1 = 19 := ⟨by decide +kernel, rfl⟩
theorem d_X12_met_19 : decode mX12_met.1 19 = .ok (.invokevirtual 423, 3) ∧ 19 + 3 = 22 := ⟨by decide +kernel, rfl⟩
theorem d_X12_met_22 : decode mX12_met.1 22 = .ok (.goto 4, 3) ∧ ((22 : Nat) : Int) + 4 = ((26 : Nat) : Int) := ⟨by decide +kernel, rfl⟩
set_option maxRecDepth 100000 in
set_option maxHeartbeats 4000000 in
theorem g_X12_met (l : Launch) (G : xa_C) (v0 v1 v2 : Int) (h : xa_H) : xa_G l G 4 mX12_met (f_X12_met v0 v1 v2 h) (fun r => some (some (xI r), h) : Int → Option xa_O) 0 [some (xR v0), some (xI v1), some (xI v2)] [] h := by
  unfold f_X12_met
  refine xa_step (xa_aload_n d_X12_met_0 rfl) ?_
  refine xa_step (xa_iload_n d_X12_met_1 rfl) ?_
  refine xa_callVi (as := [xI v1]) (st := []) (M' := mX12_isHolder) (d' := 3) rfl xw_1889 xw_1891 xw_118 xw_1892 xw_177 xh_X12_isHolder rfl ⟨Nat.le_of_ble_eq_true rfl, Nat.le_of_ble_eq_true rfl⟩ (Nat.le_of_ble_eq_true rfl) rfl d_X12_met_2 (fun r hr => ct_X12_isHolder l G v0 v1 h r hr) (fun r1 _ => ?_)
  refine xa_if (xa_ifeq d_X12_met_5) (fun q2 => ?_) (fun q2 => ?_)
  · refine xa_step (xa_iconst d_X12_met_25 xq_i_m1) ?_
    exact xa_iret d_X12_met_26 rfl rfl
  · refine xa_step (xa_aload_n d_X12_met_8 rfl) ?_
    refine xa_step (xa_iload_n d_X12_met_9 rfl) ?_
    refine xa_callVi (as := [xI v2]) (st := []) (M' := mX12_isHolder) (d' := 3) rfl xw_1889 xw_1891 xw_118 xw_1892 xw_177 xh_X12_isHolder rfl ⟨Nat.le_of_ble_eq_true rfl, Nat.le_of_ble_eq_true rfl⟩ (Nat.le_of_ble_eq_true rfl) rfl d_X12_met_10 (fun r hr => ct_X12_isHolder l G v0 v2 h r hr) (fun r3 _ => ?_)
    refine xa_if (xa_ifeq d_X12_met_13) (fun q4 => ?_) (fun q4 => ?_)
    · refine xa_step (xa_iconst d_X12_met_25 xq_i_m1) ?_
      exact xa_iret d_X12_met_26 rfl rfl
    · refine xa_step (xa_aload_n d_X12_met_16 rfl) ?_
      refine xa_step (xa_iload_n d_X12_met_17 rfl) ?_
      refine xa_step (xa_iload_n d_X12_met_18 rfl) ?_
      refine xa_callVi (as := [xI v1, xI v2]) (st := []) (M' := mX12_metBy) (d' := 2) rfl xw_1901 xw_1903 xw_119 xw_1904 xw_177 xh_X12_metBy rfl ⟨Nat.le_of_ble_eq_true rfl, Nat.le_of_ble_eq_true rfl⟩ (Nat.le_of_ble_eq_true rfl) rfl d_X12_met_19 (fun r hr => ct_X12_metBy l G v0 v1 v2 h r hr) (fun r5 _ => ?_)
      refine xa_step (xa_goto d_X12_met_22) ?_
      exact xa_iret d_X12_met_26 rfl rfl
theorem ct_X12_met (l : Launch) (G : xa_C) (v0 v1 v2 : Int) (h : xa_H) (r : Int) (hr : f_X12_met v0 v1 v2 h = some r) : xa_CT l G 4 mX12_met yX12_met [xR v0, xI v1, xI v2] h (some (xI r), h) :=
  xa_met (by decide +kernel) rfl (fun q => by first | rfl | cases q) (Nat.le_of_ble_eq_true rfl) rfl (g_X12_met l G v0 v1 v2 h) (by rw [hr]; rfl)
abbrev mX12_areWanted : xa_M := (cX12_areWanted, 2, (some (.boolean)), RX12, false)
theorem d_X12_areWanted_0 : decode mX12_areWanted.1 0 = .ok (.iconst 0, 1) ∧ 0 + 1 = 1 := ⟨by decide +kernel, rfl⟩
theorem d_X12_areWanted_1 : decode mX12_areWanted.1 1 = .ok (.istore_n 1, 1) ∧ 1 + 1 = 2 := ⟨by decide +kernel, rfl⟩
theorem d_X12_areWanted_2 : decode mX12_areWanted.1 2 = .ok (.iload_n 1, 1) ∧ 2 + 1 = 3 := ⟨by decide +kernel, rfl⟩
theorem d_X12_areWanted_3 : decode mX12_areWanted.1 3 = .ok (.aload_n 0, 1) ∧ 3 + 1 = 4 := ⟨by decide +kernel, rfl⟩
theorem d_X12_areWanted_4 : decode mX12_areWanted.1 4 = .ok (.invokevirtual 402, 3) ∧ 4 + 3 = 7 := ⟨by decide +kernel, rfl⟩
theorem d_X12_areWanted_7 : decode mX12_areWanted.1 7 = .ok (.if_icmp .ge 37, 3) ∧ 7 + 3 = 10 ∧ ((7 : Nat) : Int) + 37 = ((44 : Nat) : Int) := ⟨by decide +kernel, rfl, rfl⟩
theorem d_X12_areWanted_10 : decode mX12_areWanted.1 10 = .ok (.aload_n 0, 1) ∧ 10 + 1 = 11 := ⟨by decide +kernel, rfl⟩
theorem d_X12_areWanted_11 : decode mX12_areWanted.1 11 = .ok (.aload_n 0, 1) ∧ 11 + 1 = 12 := ⟨by decide +kernel, rfl⟩
theorem d_X12_areWanted_12 : decode mX12_areWanted.1 12 = .ok (.iload_n 1, 1) ∧ 12 + 1 = 13 := ⟨by decide +kernel, rfl⟩
theorem d_X12_areWanted_13 : decode mX12_areWanted.1 13 = .ok (.invokevirtual 408, 3) ∧ 13 + 3 = 16 := ⟨by decide +kernel, rfl⟩
theorem d_X12_areWanted_16 : decode mX12_areWanted.1 16 = .ok (.invokevirtual 494, 3) ∧ 16 + 3 = 19 := ⟨by decide +kernel, rfl⟩
theorem d_X12_areWanted_19 : decode mX12_areWanted.1 19 = .ok (.iconst 1, 1) ∧ 19 + 1 = 20 := ⟨by decide +kernel, rfl⟩
theorem d_X12_areWanted_20 : decode mX12_areWanted.1 20 = .ok (.if_icmp .ne 16, 3) ∧ 20 + 3 = 23 ∧ ((20 : Nat) : Int) + 16 = ((36 : Nat) : Int) := ⟨by decide +kernel, rfl, rfl⟩
theorem d_X12_areWanted_23 : decode mX12_areWanted.1 23 = .ok (.aload_n 0, 1) ∧ 23 + 1 = 24 := ⟨by decide +kernel, rfl⟩
theorem d_X12_areWanted_24 : decode mX12_areWanted.1 24 = .ok (.aload_n 0, 1) ∧ 24 + 1 = 25 := ⟨by decide +kernel, rfl⟩
theorem d_X12_areWanted_25 : decode mX12_areWanted.1 25 = .ok (.iload_n 1, 1) ∧ 25 + 1 = 26 := ⟨by decide +kernel, rfl⟩
theorem d_X12_areWanted_26 : decode mX12_areWanted.1 26 = .ok (.invokevirtual 408, 3) ∧ 26 + 3 = 29 := ⟨by decide +kernel, rfl⟩
theorem d_X12_areWanted_29 : decode mX12_areWanted.1 29 = .ok (.invokevirtual 491, 3) ∧ 29 + 3 = 32 := ⟨by decide +kernel, rfl⟩
theorem d_X12_areWanted_32 : decode mX12_areWanted.1 32 = .ok (.iconst (-1), 1) ∧ 32 + 1 = 33 := ⟨by decide +kernel, rfl⟩
theorem d_X12_areWanted_33 : decode mX12_areWanted.1 33 = .ok (.if_icmp .ne 5, 3) ∧ 33 + 3 = 36 ∧ ((33 : Nat) : Int) + 5 = ((38 : Nat) : Int) := ⟨by decide +kernel, rfl, rfl⟩
theorem d_X12_areWanted_36 : decode mX12_areWanted.1 36 = .ok (.iconst 0, 1) ∧ 36 + 1 = 37 := ⟨by decide +kernel, rfl⟩
theorem d_X12_areWanted_37 : decode mX12_areWanted.1 37 = .ok (.ireturn, 1) := by decide +kernel
theorem d_X12_areWanted_38 : decode mX12_areWanted.1 38 = .ok (.iinc 1 1, 3) ∧ 38 + 3 = 41 := ⟨by decide +kernel, rfl⟩
theorem d_X12_areWanted_41 : decode mX12_areWanted.1 41 = .ok (.goto (-39), 3) ∧ ((41 : Nat) : Int) + (-39) = ((2 : Nat) : Int) := ⟨by decide +kernel, rfl⟩
set_option maxRecDepth 100000 in
set_option maxHeartbeats 4000000 in
theorem g_X12_areWanted_L2 (l : Launch) (G : xa_C) (c0 : Int) (h : xa_H) (K : (Int) ⊕ ((Int) ⊕ (Unit)) → Option xa_O) (hb : ∀ (v1 : Int), xa_G l G 4 mX12_areWanted (some (Sum.inl v1)) K 2 [some (xR c0), some (xI v1)] [] h) (hr : ∀ r : Int, K (Sum.inr (Sum.inl r)) = some (some (xI r), h)) (hx : xa_G l G 4 mX12_areWanted (some (Sum.inr (Sum.inr (())))) K 44 [none, none] [] h) : ∀ (v1 : Int), xa_G l G 4 mX12_areWanted (f_X12_areWanted_L2 c0 h v1) K 2 [some (xR c0), some (xI v1)] [] h := by
  intro v1
  unfold f_X12_areWanted_L2
  refine xa_step (xa_iload_n d_X12_areWanted_2 rfl) ?_
  refine xa_step (xa_aload_n d_X12_areWanted_3 rfl) ?_
  refine xa_callVi (as := []) (st := [xI v1]) (M' := mX12_holderMany) (d' := 2) rfl xw_1836 xw_1838 xw_108 xw_1839 xw_177 xh_X12_holderMany rfl ⟨Nat.le_of_ble_eq_true rfl, Nat.le_of_ble_eq_true rfl⟩ (Nat.le_of_ble_eq_true rfl) rfl d_X12_areWanted_4 (fun r hr => ct_X12_holderMany l G c0 h r hr) (fun r1 _ => ?_)
  refine xa_if (xa_icmpge d_X12_areWanted_7) (fun q2 => ?_) (fun q2 => ?_)
  · refine xa_step (xa_aload_n d_X12_areWanted_10 rfl) ?_
    refine xa_step (xa_aload_n d_X12_areWanted_11 rfl) ?_
    refine xa_step (xa_iload_n d_X12_areWanted_12 rfl) ?_
    refine xa_callVi (as := [xI v1]) (st := [xR c0]) (M' := mX12_wantedBy) (d' := 2) rfl xw_1848 xw_1850 xw_111 xw_1851 xw_177 xh_X12_wantedBy rfl ⟨Nat.le_of_ble_eq_true rfl, Nat.le_of_ble_eq_true rfl⟩ (Nat.le_of_ble_eq_true rfl) rfl d_X12_areWanted_13 (fun r hr => ct_X12_wantedBy l G c0 v1 h r hr) (fun r3 _ => ?_)
    refine xa_callVi (as := [xI r3]) (st := []) (M' := mX12_wantMany) (d' := 3) rfl xw_1881 xw_1883 xw_117 xw_1884 xw_177 xh_X12_wantMany rfl ⟨Nat.le_of_ble_eq_true rfl, Nat.le_of_ble_eq_true rfl⟩ (Nat.le_of_ble_eq_true rfl) rfl d_X12_areWanted_16 (fun r hr => ct_X12_wantMany l G c0 r3 h r hr) (fun r4 _ => ?_)
    refine xa_step (xa_iconst d_X12_areWanted_19 xq_i_1) ?_
    refine xa_if (xa_icmpne d_X12_areWanted_20) (fun q5 => ?_) (fun q5 => ?_)
    · refine xa_step (xa_aload_n d_X12_areWanted_23 rfl) ?_
      refine xa_step (xa_aload_n d_X12_areWanted_24 rfl) ?_
      refine xa_step (xa_iload_n d_X12_areWanted_25 rfl) ?_
      refine xa_callVi (as := [xI v1]) (st := [xR c0]) (M' := mX12_wantedBy) (d' := 2) rfl xw_1848 xw_1850 xw_111 xw_1851 xw_177 xh_X12_wantedBy rfl ⟨Nat.le_of_ble_eq_true rfl, Nat.le_of_ble_eq_true rfl⟩ (Nat.le_of_ble_eq_true rfl) rfl d_X12_areWanted_26 (fun r hr => ct_X12_wantedBy l G c0 v1 h r hr) (fun r6 _ => ?_)
      refine xa_callVi (as := [xI r6]) (st := []) (M' := mX12_holderOf) (d' := 3) rfl xw_1877 xw_1879 xw_116 xw_1880 xw_177 xh_X12_holderOf rfl ⟨Nat.le_of_ble_eq_true rfl, Nat.le_of_ble_eq_true rfl⟩ (Nat.le_of_ble_eq_true rfl) rfl d_X12_areWanted_29 (fun r hr => ct_X12_holderOf l G c0 r6 h r hr) (fun r7 _ => ?_)
      refine xa_step (xa_iconst d_X12_areWanted_32 xq_i_m1) ?_
      refine xa_if (xa_icmpne d_X12_areWanted_33) (fun q8 => ?_) (fun q8 => ?_)
      · refine xa_step (xa_iconst d_X12_areWanted_36 xq_i_0) ?_
        exact xa_zret d_X12_areWanted_37 rfl (Or.inl rfl) (hr _)
      · refine xa_step (xa_iinc (ls' := [some (xR c0), some (xI (w32 (v1 + 1)))]) d_X12_areWanted_38 xq_i_1 rfl (by decide) rfl) ?_
        refine xa_step (xa_goto d_X12_areWanted_41) ?_
        exact xa_weak (ls' := [some (xR c0), some (xI (w32 (v1 + 1)))]) ⟨rfl, rfl, trivial⟩ (hb (w32 (v1 + 1)))
    · refine xa_step (xa_iconst d_X12_areWanted_36 xq_i_0) ?_
      exact xa_zret d_X12_areWanted_37 rfl (Or.inl rfl) (hr _)
  · exact xa_weak (ls' := [none, none]) trivial (hx )
theorem d_X12_areWanted_44 : decode mX12_areWanted.1 44 = .ok (.iconst 1, 1) ∧ 44 + 1 = 45 := ⟨by decide +kernel, rfl⟩
theorem d_X12_areWanted_45 : decode mX12_areWanted.1 45 = .ok (.ireturn, 1) := by decide +kernel
set_option maxRecDepth 100000 in
set_option maxHeartbeats 4000000 in
theorem g_X12_areWanted (l : Launch) (G : xa_C) (v0 : Int) (h : xa_H) : xa_G l G 4 mX12_areWanted (f_X12_areWanted v0 h) (fun r => some (some (xI r), h) : Int → Option xa_O) 0 [some (xR v0), none] [] h := by
  unfold f_X12_areWanted
  refine xa_step (xa_iconst d_X12_areWanted_0 xq_i_0) ?_
  refine xa_step (xa_istore_n (ls' := [some (xR v0), some (xI 0)]) d_X12_areWanted_1 (by decide) rfl) ?_
  refine xa_weak (ls' := [some (xR v0), some (xI 0)]) ⟨rfl, rfl, trivial⟩ ?_
  refine xa_loop (f := fun s => f_X12_areWanted_L2 v0 h s) (L := fun s => [some (xR v0), some (xI s)]) (P := fun s => h) (X := (fun e K => match e with | Sum.inl r => K (Sum.inr (Sum.inl r)) = some (some (xI r), h) | Sum.inr x => xa_G l G 4 mX12_areWanted (some (Sum.inr (Sum.inr x))) K 44 [none, none] [] h)) (fun K hb hX s => g_X12_areWanted_L2 l G v0 h K (fun w0 => hb w0) (fun r => hX (Sum.inl r)) (hX (Sum.inr ())) s) ?_ xFU 0
  rintro (r | y10) K hK
  · exact hK.trans rfl
  · refine xa_eqE hK ?_
    show xa_G l G 4 mX12_areWanted _ _ 44 [none, none] [] h
    refine xa_step (xa_iconst d_X12_areWanted_44 xq_i_1) ?_
    exact xa_zret d_X12_areWanted_45 rfl (Or.inr rfl) rfl
theorem ct_X12_areWanted (l : Launch) (G : xa_C) (v0 : Int) (h : xa_H) (r : Int) (hr : f_X12_areWanted v0 h = some r) : xa_CT l G 4 mX12_areWanted yX12_areWanted [xR v0] h (some (xI r), h) :=
  xa_met (by decide +kernel) rfl (fun q => by first | rfl | cases q) (Nat.le_of_ble_eq_true rfl) rfl (g_X12_areWanted l G v0 h) (by rw [hr]; rfl)
abbrev mX12_needed : xa_M := (cX12_needed, 4, (some (.int)), RX12, false)
theorem d_X12_needed_0 : decode mX12_needed.1 0 = .ok (.aload_n 0, 1) ∧ 0 + 1 = 1 := ⟨by decide +kernel, rfl⟩
theorem d_X12_needed_1 : decode mX12_needed.1 1 = .ok (.iload_n 1, 1) ∧ 1 + 1 = 2 := ⟨by decide +kernel, rfl⟩
theorem d_X12_needed_2 : decode mX12_needed.1 2 = .ok (.invokevirtual 458, 3) ∧ 2 + 3 = 5 := ⟨by decide +kernel, rfl⟩
theorem d_X12_needed_5 : decode mX12_needed.1 5 = .ok (.ifCond .eq 10, 3) ∧ 5 + 3 = 8 ∧ ((5 : Nat) : Int) + 10 = ((15 : Nat) : Int) := ⟨by decide +kernel, rfl, rfl⟩
theorem d_X12_needed_15 : decode mX12_needed.1 15 = .ok (.iconst (-1), 1) ∧ 15 + 1 = 16 := ⟨by decide +kernel, rfl⟩
theorem d_X12_needed_16 : decode mX12_needed.1 16 = .ok (.ireturn, 1) := by decide +kernel
theorem d_X12_needed_8 : decode mX12_needed.1 8 = .ok (.aload_n 0, 1) ∧ 8 + 1 = 9 := ⟨by decide +kernel, rfl⟩
theorem d_X12_needed_9 : decode mX12_needed.1 9 = .ok (.invokevirtual 517, 3) ∧ 9 + 3 = 12 := ⟨by decide +kernel, rfl⟩
theorem d_X12_needed_12 : decode mX12_needed.1 12 = .ok (.ifCond .ne 5, 3) ∧ 12 + 3 = 15 ∧ ((12 : Nat) : Int) + 5 = ((17 : Nat) : Int) := ⟨by decide +kernel, rfl, rfl⟩
theorem d_X12_needed_17 : decode mX12_needed.1 17 = .ok (.iconst 1, 1) ∧ 17 + 1 = 18 := ⟨by decide +kernel, rfl⟩
theorem d_X12_needed_18 : decode mX12_needed.1 18 = .ok (.istore_n 2, 1) ∧ 18 + 1 = 19 := ⟨by decide +kernel, rfl⟩
theorem d_X12_needed_19 : decode mX12_needed.1 19 = .ok (.aload_n 0, 1) ∧ 19 + 1 = 20 := ⟨by decide +kernel, rfl⟩
theorem d_X12_needed_20 : decode mX12_needed.1 20 = .ok (.aload_n 0, 1) ∧ 20 + 1 = 21 := ⟨by decide +kernel, rfl⟩
theorem d_X12_needed_21 : decode mX12_needed.1 21 = .ok (.iload_n 1, 1) ∧ 21 + 1 = 22 := ⟨by decide +kernel, rfl⟩
theorem d_X12_needed_22 : decode mX12_needed.1 22 = .ok (.invokevirtual 408, 3) ∧ 22 + 3 = 25 := ⟨by decide +kernel, rfl⟩
theorem d_X12_needed_25 : decode mX12_needed.1 25 = .ok (.invokevirtual 491, 3) ∧ 25 + 3 = 28 := ⟨by decide +kernel, rfl⟩
theorem d_X12_needed_28 : decode mX12_needed.1 28 = .ok (.istore_n 3, 1) ∧ 28 + 1 = 29 := ⟨by decide +kernel, rfl⟩
theorem d_X12_needed_29 : decode mX12_needed.1 29 = .ok (.iload_n 3, 1) ∧ 29 + 1 = 30 := ⟨by decide +kernel, rfl⟩
theorem d_X12_needed_30 : decode mX12_needed.1 30 = .ok (.iload_n 1, 1) ∧ 30 + 1 = 31 := ⟨by decide +kernel, rfl⟩
theorem d_X12_needed_31 : decode mX12_needed.1 31 = .ok (.if_icmp .eq 19, 3) ∧ 31 + 3 = 34 ∧ ((31 : Nat) : Int) + 19 = ((50 : Nat) : Int) := ⟨by decide +kernel, rfl, rfl⟩
theorem d_X12_needed_34 : decode mX12_needed.1 34 = .ok (.iinc 2 1, 3) ∧ 34 + 3 = 37 := ⟨by decide +kernel, rfl⟩
theorem d_X12_needed_37 : decode mX12_needed.1 37 = .ok (.aload_n 0, 1) ∧ 37 + 1 = 38 := ⟨by decide +kernel, rfl⟩
theorem d_X12_needed_38 : decode mX12_needed.1 38 = .ok (.aload_n 0, 1) ∧ 38 + 1 = 39 := ⟨by decide +kernel, rfl⟩
theorem d_X12_needed_39 : decode mX12_needed.1 39 = .ok (.iload_n 3, 1) ∧ 39 + 1 = 40 := ⟨by decide +kernel, rfl⟩
theorem d_X12_needed_40 : decode mX12_needed.1 40 = .ok (.invokevirtual 408, 3) ∧ 40 + 3 = 43 := ⟨by decide +kernel, rfl⟩
theorem d_X12_needed_43 : decode mX12_needed.1 43 = .ok (.invokevirtual 491, 3) ∧ 43 + 3 = 46 := ⟨by decide +kernel, rfl⟩
theorem d_X12_needed_46 : decode mX12_needed.1 46 = .ok (.istore_n 3, 1) ∧ 46 + 1 = 47 := ⟨by decide +kernel, rfl⟩
theorem d_X12_needed_47 : decode mX12_needed.1 47 = .ok (.goto (-18), 3) ∧ ((47 : Nat) : Int) + (-18) = ((29 : Nat) : Int) := ⟨by decide +kernel, rfl⟩
set_option maxRecDepth 100000 in
set_option maxHeartbeats 4000000 in
theorem g_X12_needed_L29 (l : Launch) (G : xa_C) (c0 c1 : Int) (h : xa_H) (K : (Int × Int) ⊕ (Int) → Option xa_O) (hb : ∀ (v2 : Int) (v3 : Int), xa_G l G 5 mX12_needed (some (Sum.inl ((v2, v3)))) K 29 [some (xR c0), some (xI c1), some (xI v2), some (xI v3)] [] h) (hx : ∀ (v2 : Int), xa_G l G 5 mX12_needed (some (Sum.inr v2)) K 50 [none, none, some (xI v2), none] [] h) : ∀ (v2 : Int) (v3 : Int), xa_G l G 5 mX12_needed (f_X12_needed_L29 c0 c1 h v2 v3) K 29 [some (xR c0), some (xI c1), some (xI v2), some (xI v3)] [] h := by
  intro v2 v3
  unfold f_X12_needed_L29
  refine xa_step (xa_iload_n d_X12_needed_29 rfl) ?_
  refine xa_step (xa_iload_n d_X12_needed_30 rfl) ?_
  refine xa_if (xa_icmpeq d_X12_needed_31) (fun q7 => ?_) (fun q7 => ?_)
  · exact xa_weak (ls' := [none, none, some (xI v2), none]) ⟨rfl, trivial⟩ (hx v2)
  · refine xa_step (xa_iinc (ls' := [some (xR c0), some (xI c1), some (xI (w32 (v2 + 1))), some (xI v3)]) d_X12_needed_34 xq_i_1 rfl (by decide) rfl) ?_
    refine xa_step (xa_aload_n d_X12_needed_37 rfl) ?_
    refine xa_step (xa_aload_n d_X12_needed_38 rfl) ?_
    refine xa_step (xa_iload_n d_X12_needed_39 rfl) ?_
    refine xa_callVi (as := [xI v3]) (st := [xR c0]) (M' := mX12_wantedBy) (d' := 2) rfl xw_1848 xw_1850 xw_111 xw_1851 xw_177 xh_X12_wantedBy rfl ⟨Nat.le_of_ble_eq_true rfl, Nat.le_of_ble_eq_true rfl⟩ (Nat.le_of_ble_eq_true rfl) rfl d_X12_needed_40 (fun r hr => ct_X12_wantedBy l G c0 v3 h r hr) (fun r8 _ => ?_)
    refine xa_callVi (as := [xI r8]) (st := []) (M' := mX12_holderOf) (d' := 3) rfl xw_1877 xw_1879 xw_116 xw_1880 xw_177 xh_X12_holderOf rfl ⟨Nat.le_of_ble_eq_true rfl, Nat.le_of_ble_eq_true rfl⟩ (Nat.le_of_ble_eq_true rfl) rfl d_X12_needed_43 (fun r hr => ct_X12_holderOf l G c0 r8 h r hr) (fun r9 _ => ?_)
    refine xa_step (xa_istore_n (ls' := [some (xR c0), some (xI c1), some (xI (w32 (v2 + 1))), some (xI r9)]) d_X12_needed_46 (by decide) rfl) ?_
    refine xa_step (xa_goto d_X12_needed_47) ?_
    exact xa_weak (ls' := [some (xR c0), some (xI c1), some (xI (w32 (v2 + 1))), some (xI r9)]) ⟨rfl, rfl, rfl, rfl, trivial⟩ (hb (w32 (v2 + 1)) r9)
theorem d_X12_needed_50 : decode mX12_needed.1 50 = .ok (.iload_n 2, 1) ∧ 50 + 1 = 51 := ⟨by decide +kernel, rfl⟩
theorem d_X12_needed_51 : decode mX12_needed.1 51 = .ok (.ireturn, 1) := by decide +kernel
set_option maxRecDepth 100000 in
set_option maxHeartbeats 4000000 in
theorem g_X12_needed (l : Launch) (G : xa_C) (v0 v1 : Int) (h : xa_H) : xa_G l G 5 mX12_needed (f_X12_needed v0 v1 h) (fun r => some (some (xI r), h) : Int → Option xa_O) 0 [some (xR v0), some (xI v1), none, none] [] h := by
  unfold f_X12_needed
  refine xa_step (xa_aload_n d_X12_needed_0 rfl) ?_
  refine xa_step (xa_iload_n d_X12_needed_1 rfl) ?_
  refine xa_callVi (as := [xI v1]) (st := []) (M' := mX12_isHolder) (d' := 3) rfl xw_1889 xw_1891 xw_118 xw_1892 xw_177 xh_X12_isHolder rfl ⟨Nat.le_of_ble_eq_true rfl, Nat.le_of_ble_eq_true rfl⟩ (Nat.le_of_ble_eq_true rfl) rfl d_X12_needed_2 (fun r hr => ct_X12_isHolder l G v0 v1 h r hr) (fun r1 _ => ?_)
  refine xa_if (xa_ifeq d_X12_needed_5) (fun q2 => ?_) (fun q2 => ?_)
  · refine xa_step (xa_iconst d_X12_needed_15 xq_i_m1) ?_
    exact xa_iret d_X12_needed_16 rfl rfl
  · refine xa_step (xa_aload_n d_X12_needed_8 rfl) ?_
    refine xa_callVi (as := []) (st := []) (M' := mX12_areWanted) (d' := 4) rfl xw_1985 xw_1987 xw_133 xw_1988 xw_177 xh_X12_areWanted rfl ⟨Nat.le_of_ble_eq_true rfl, Nat.le_of_ble_eq_true rfl⟩ (Nat.le_of_ble_eq_true rfl) rfl d_X12_needed_9 (fun r hr => ct_X12_areWanted l G v0 h r hr) (fun r3 _ => ?_)
    refine xa_if (xa_ifne d_X12_needed_12) (fun q4 => ?_) (fun q4 => ?_)
    · refine xa_step (xa_iconst d_X12_needed_15 xq_i_m1) ?_
      exact xa_iret d_X12_needed_16 rfl rfl
    · refine xa_step (xa_iconst d_X12_needed_17 xq_i_1) ?_
      refine xa_step (xa_istore_n (ls' := [some (xR v0), some (xI v1), some (xI 1), none]) d_X12_needed_18 (by decide) rfl) ?_
      refine xa_step (xa_aload_n d_X12_needed_19 rfl) ?_
      refine xa_step (xa_aload_n d_X12_needed_20 rfl) ?_
      refine xa_step (xa_iload_n d_X12_needed_21 rfl) ?_
      refine xa_callVi (as := [xI v1]) (st := [xR v0]) (M' := mX12_wantedBy) (d' := 2) rfl xw_1848 xw_1850 xw_111 xw_1851 xw_177 xh_X12_wantedBy rfl ⟨Nat.le_of_ble_eq_true rfl, Nat.le_of_ble_eq_true rfl⟩ (Nat.le_of_ble_eq_true rfl) rfl d_X12_needed_22 (fun r hr => ct_X12_wantedBy l G v0 v1 h r hr) (fun r5 _ => ?_)
      refine xa_callVi (as := [xI r5]) (st := []) (M' := mX12_holderOf) (d' := 3) rfl xw_1877 xw_1879 xw_116 xw_1880 xw_177 xh_X12_holderOf rfl ⟨Nat.le_of_ble_eq_true rfl, Nat.le_of_ble_eq_true rfl⟩ (Nat.le_of_ble_eq_true rfl) rfl d_X12_needed_25 (fun r hr => ct_X12_holderOf l G v0 r5 h r hr) (fun r6 _ => ?_)
      refine xa_step (xa_istore_n (ls' := [some (xR v0), some (xI v1), some (xI 1), some (xI r6)]) d_X12_needed_28 (by decide) rfl) ?_
      refine xa_weak (ls' := [some (xR v0), some (xI v1), some (xI 1), some (xI r6)]) ⟨rfl, rfl, rfl, rfl, trivial⟩ ?_
      refine xa_loop (f := fun s => f_X12_needed_L29 v0 v1 h s.1 s.2) (L := fun s => [some (xR v0), some (xI v1), some (xI s.1), some (xI s.2)]) (P := fun s => h) (X := (fun x K => xa_G l G 5 mX12_needed (some (Sum.inr x)) K 50 [none, none, some (xI x), none] [] h)) (fun K hb hX s => g_X12_needed_L29 l G v0 v1 h K (fun w0 w1 => hb ((w0, w1))) (fun w0 => hX w0) s.1 s.2) ?_ xFU ((1, r6))
      intro e10 K hK
      refine xa_eqE hK ?_
      show xa_G l G 5 mX12_needed _ _ 50 [none, none, some (xI e10), none] [] h
      refine xa_step (xa_iload_n d_X12_needed_50 rfl) ?_
      exact xa_iret d_X12_needed_51 rfl rfl
theorem ct_X12_needed (l : Launch) (G : xa_C) (v0 v1 : Int) (h : xa_H) (r : Int) (hr : f_X12_needed v0 v1 h = some r) : xa_CT l G 5 mX12_needed yX12_needed [xR v0, xI v1] h (some (xI r), h) :=
  xa_met (by decide +kernel) rfl (fun q => by first | rfl | cases q) (Nat.le_of_ble_eq_true rfl) rfl (g_X12_needed l G v0 v1 h) (by rw [hr]; rfl)
abbrev mX12_next : xa_M := (cX12_next, 8, (some (.int)), RX12, false)
theorem d_X12_next_0 : decode mX12_next.1 0 = .ok (.iload_n 1, 1) ∧ 0 + 1 = 1 := ⟨by decide +kernel, rfl⟩
theorem d_X12_next_1 : decode mX12_next.1 1 = .ok (.i2l, 1) ∧ 1 + 1 = 2 := ⟨by decide +kernel, rfl⟩
theorem d_X12_next_2 : decode mX12_next.1 2 = .ok (.lconst 0, 1) ∧ 2 + 1 = 3 := ⟨by decide +kernel, rfl⟩
theorem d_X12_next_3 : decode mX12_next.1 3 = .ok (.ldc2_w 454, 3) ∧ 3 + 3 = 6 := ⟨by decide +kernel, rfl⟩
theorem d_X12_next_6 : decode mX12_next.1 6 = .ok (.invokestatic 289, 3) ∧ 6 + 3 = 9 := ⟨by decide +kernel, rfl⟩
theorem d_X12_next_9 : decode mX12_next.1 9 = .ok (.ifCond .ne 5, 3) ∧ 9 + 3 = 12 ∧ ((9 : Nat) : Int) + 5 = ((14 : Nat) : Int) := ⟨by decide +kernel, rfl, rfl⟩
theorem d_X12_next_12 : decode mX12_next.1 12 = .ok (.iconst (-1), 1) ∧ 12 + 1 = 13 := ⟨by decide +kernel, rfl⟩
theorem d_X12_next_13 : decode mX12_next.1 13 = .ok (.ireturn, 1) := by decide +kernel
theorem d_X12_next_14 : decode mX12_next.1 14 = .ok (.aload_n 0, 1) ∧ 14 + 1 = 15 := ⟨by decide +kernel, rfl⟩
theorem d_X12_next_15 : decode mX12_next.1 15 = .ok (.invokevirtual 565, 3) ∧ 15 + 3 = 18 := ⟨by decide +kernel, rfl⟩
theorem d_X12_next_18 : decode mX12_next.1 18 = .ok (.istore_n 2, 1) ∧ 18 + 1 = 19 := ⟨by decide +kernel, rfl⟩
theorem d_X12_next_19 : decode mX12_next.1 19 = .ok (.iconst (-1), 1) ∧ 19 + 1 = 20 := ⟨by decide +kernel, rfl⟩
theorem d_X12_next_20 : decode mX12_next.1 20 = .ok (.istore_n 3, 1) ∧ 20 + 1 = 21 := ⟨by decide +kernel, rfl⟩
theorem d_X12_next_21 : decode mX12_next.1 21 = .ok (.iconst (-1), 1) ∧ 21 + 1 = 22 := ⟨by decide +kernel, rfl⟩
theorem d_X12_next_22 : decode mX12_next.1 22 = .ok (.istore 4, 2) ∧ 22 + 2 = 24 := ⟨by decide +kernel, rfl⟩
theorem d_X12_next_24 : decode mX12_next.1 24 = .ok (.iconst 0, 1) ∧ 24 + 1 = 25 := ⟨by decide +kernel, rfl⟩
theorem d_X12_next_25 : decode mX12_next.1 25 = .ok (.istore 5, 2) ∧ 25 + 2 = 27 := ⟨by decide +kernel, rfl⟩
theorem d_X12_next_27 : decode mX12_next.1 27 = .ok (.iload 5, 2) ∧ 27 + 2 = 29 := ⟨by decide +kernel, rfl⟩
theorem d_X12_next_29 : decode mX12_next.1 29 = .ok (.aload_n 0, 1) ∧ 29 + 1 = 30 := ⟨by decide +kernel, rfl⟩
theorem d_X12_next_30 : decode mX12_next.1 30 = .ok (.invokevirtual 402, 3) ∧ 30 + 3 = 33 := ⟨by decide +kernel, rfl⟩
theorem d_X12_next_33 : decode mX12_next.1 33 = .ok (.if_icmp .ge 88, 3) ∧ 33 + 3 = 36 ∧ ((33 : Nat) : Int) + 88 = ((121 : Nat) : Int) := ⟨by decide +kernel, rfl, rfl⟩
theorem d_X12_next_36 : decode mX12_next.1 36 = .ok (.iload_n 2, 1) ∧ 36 + 1 = 37 := ⟨by decide +kernel, rfl⟩
theorem d_X12_next_37 : decode mX12_next.1 37 = .ok (.ifCond .le 84, 3) ∧ 37 + 3 = 40 ∧ ((37 : Nat) : Int) + 84 = ((121 : Nat) : Int) := ⟨by decide +kernel, rfl, rfl⟩
theorem d_X12_next_40 : decode mX12_next.1 40 = .ok (.iconst 0, 1) ∧ 40 + 1 = 41 := ⟨by decide +kernel, rfl⟩
theorem d_X12_next_41 : decode mX12_next.1 41 = .ok (.istore 6, 2) ∧ 41 + 2 = 43 := ⟨by decide +kernel, rfl⟩
theorem d_X12_next_43 : decode mX12_next.1 43 = .ok (.iload 6, 2) ∧ 43 + 2 = 45 := ⟨by decide +kernel, rfl⟩
theorem d_X12_next_45 : decode mX12_next.1 45 = .ok (.aload_n 0, 1) ∧ 45 + 1 = 46 := ⟨by decide +kernel, rfl⟩
theorem d_X12_next_46 : decode mX12_next.1 46 = .ok (.invokevirtual 399, 3) ∧ 46 + 3 = 49 := ⟨by decide +kernel, rfl⟩
theorem d_X12_next_49 : decode mX12_next.1 49 = .ok (.if_icmp .ge 66, 3) ∧ 49 + 3 = 52 ∧ ((49 : Nat) : Int) + 66 = ((115 : Nat) : Int) := ⟨by decide +kernel, rfl, rfl⟩
theorem d_X12_next_52 : decode mX12_next.1 52 = .ok (.aload_n 0, 1) ∧ 52 + 1 = 53 := ⟨by decide +kernel, rfl⟩
theorem d_X12_next_53 : decode mX12_next.1 53 = .ok (.getfield 164, 3) ∧ 53 + 3 = 56 := ⟨by decide +kernel, rfl⟩
theorem d_X12_next_56 : decode mX12_next.1 56 = .ok (.bipush 6, 2) ∧ 56 + 2 = 58 := ⟨by decide +kernel, rfl⟩
theorem d_X12_next_58 : decode mX12_next.1 58 = .ok (.iload 5, 2) ∧ 58 + 2 = 60 := ⟨by decide +kernel, rfl⟩
theorem d_X12_next_60 : decode mX12_next.1 60 = .ok (.imul, 1) ∧ 60 + 1 = 61 := ⟨by decide +kernel, rfl⟩
theorem d_X12_next_61 : decode mX12_next.1 61 = .ok (.iload 6, 2) ∧ 61 + 2 = 63 := ⟨by decide +kernel, rfl⟩
theorem d_X12_next_63 : decode mX12_next.1 63 = .ok (.iadd, 1) ∧ 63 + 1 = 64 := ⟨by decide +kernel, rfl⟩
theorem d_X12_next_64 : decode mX12_next.1 64 = .ok (.iaload, 1) ∧ 64 + 1 = 65 := ⟨by decide +kernel, rfl⟩
theorem d_X12_next_65 : decode mX12_next.1 65 = .ok (.istore 7, 2) ∧ 65 + 2 = 67 := ⟨by decide +kernel, rfl⟩
theorem d_X12_next_67 : decode mX12_next.1 67 = .ok (.iload_n 2, 1) ∧ 67 + 1 = 68 := ⟨by decide +kernel, rfl⟩
theorem d_X12_next_68 : decode mX12_next.1 68 = .ok (.iload 7, 2) ∧ 68 + 2 = 70 := ⟨by decide +kernel, rfl⟩
theorem d_X12_next_70 : decode mX12_next.1 70 = .ok (.isub, 1) ∧ 70 + 1 = 71 := ⟨by decide +kernel, rfl⟩
theorem d_X12_next_71 : decode mX12_next.1 71 = .ok (.iload 7, 2) ∧ 71 + 2 = 73 := ⟨by decide +kernel, rfl⟩
theorem d_X12_next_73 : decode mX12_next.1 73 = .ok (.if_icmp .le 9, 3) ∧ 73 + 3 = 76 ∧ ((73 : Nat) : Int) + 9 = ((82 : Nat) : Int) := ⟨by decide +kernel, rfl, rfl⟩
theorem d_X12_next_76 : decode mX12_next.1 76 = .ok (.iload_n 2, 1) ∧ 76 + 1 = 77 := ⟨by decide +kernel, rfl⟩
theorem d_X12_next_77 : decode mX12_next.1 77 = .ok (.iload 7, 2) ∧ 77 + 2 = 79 := ⟨by decide +kernel, rfl⟩
theorem d_X12_next_79 : decode mX12_next.1 79 = .ok (.isub, 1) ∧ 79 + 1 = 80 := ⟨by decide +kernel, rfl⟩
theorem d_X12_next_80 : decode mX12_next.1 80 = .ok (.istore 7, 2) ∧ 80 + 2 = 82 := ⟨by decide +kernel, rfl⟩
theorem d_X12_next_82 : decode mX12_next.1 82 = .ok (.iload_n 3, 1) ∧ 82 + 1 = 83 := ⟨by decide +kernel, rfl⟩
theorem d_X12_next_83 : decode mX12_next.1 83 = .ok (.iconst (-1), 1) ∧ 83 + 1 = 84 := ⟨by decide +kernel, rfl⟩
theorem d_X12_next_84 : decode mX12_next.1 84 = .ok (.if_icmp .eq 12, 3) ∧ 84 + 3 = 87 ∧ ((84 : Nat) : Int) + 12 = ((96 : Nat) : Int) := ⟨by decide +kernel, rfl, rfl⟩
theorem d_X12_next_96 : decode mX12_next.1 96 = .ok (.iload 7, 2) ∧ 96 + 2 = 98 := ⟨by decide +kernel, rfl⟩
theorem d_X12_next_98 : decode mX12_next.1 98 = .ok (.istore_n 3, 1) ∧ 98 + 1 = 99 := ⟨by decide +kernel, rfl⟩
theorem d_X12_next_99 : decode mX12_next.1 99 = .ok (.bipush 6, 2) ∧ 99 + 2 = 101 := ⟨by decide +kernel, rfl⟩
theorem d_X12_next_101 : decode mX12_next.1 101 = .ok (.iload 5, 2) ∧ 101 + 2 = 103 := ⟨by decide +kernel, rfl⟩
theorem d_X12_next_103 : decode mX12_next.1 103 = .ok (.imul, 1) ∧ 103 + 1 = 104 := ⟨by decide +kernel, rfl⟩
theorem d_X12_next_104 : decode mX12_next.1 104 = .ok (.iload 6, 2) ∧ 104 + 2 = 106 := ⟨by decide +kernel, rfl⟩
theorem d_X12_next_106 : decode mX12_next.1 106 = .ok (.iadd, 1) ∧ 106 + 1 = 107 := ⟨by decide +kernel, rfl⟩
theorem d_X12_next_107 : decode mX12_next.1 107 = .ok (.istore 4, 2) ∧ 107 + 2 = 109 := ⟨by decide +kernel, rfl⟩
theorem d_X12_next_109 : decode mX12_next.1 109 = .ok (.iinc 6 1, 3) ∧ 109 + 3 = 112 := ⟨by decide +kernel, rfl⟩
theorem d_X12_next_112 : decode mX12_next.1 112 = .ok (.goto (-69), 3) ∧ ((112 : Nat) : Int) + (-69) = ((43 : Nat) : Int) := ⟨by decide +kernel, rfl⟩
set_option maxRecDepth 100000 in
set_option maxHeartbeats 4000000 in
theorem g_X12_next_J96L43 (l : Launch) (G : xa_C) (c0 c1 c2 c5 : Int) (h : xa_H) (K : (Int × Int × Int) ⊕ (Int × Int) → Option xa_O) (hb : ∀ (v3 : Int) (v4 : Int) (v6 : Int), xa_G l G 5 mX12_next (some (Sum.inl ((v3, v4, v6)))) K 43 [some (xR c0), some (xI c1), some (xI c2), some (xI v3), some (xI v4), some (xI c5), some (xI v6), none] [] h) (hx : ∀ (v3 : Int) (v4 : Int), xa_G l G 5 mX12_next (some (Sum.inr ((v3, v4)))) K 115 [some (xR c0), some (xI c1), some (xI c2), some (xI v3), some (xI v4), some (xI c5), none, none] [] h) : ∀ (v6 v7 : Int) , xa_G l G 5 mX12_next (f_X12_next_J96L43 c0 c1 c2 c5 v6 v7 h) K 96 [some (xR c0), some (xI c1), some (xI c2), none, none, some (xI c5), some (xI v6), some (xI v7)] [] h := by
  intro v6 v7
  unfold f_X12_next_J96L43
  refine xa_step (xa_iload d_X12_next_96 rfl) ?_
  refine xa_step (xa_istore_n (ls' := [some (xR c0), some (xI c1), some (xI c2), some (xI v7), none, some (xI c5), some (xI v6), some (xI v7)]) d_X12_next_98 (by decide) rfl) ?_
  refine xa_step (xa_bipush d_X12_next_99 xq_b_6) ?_
  refine xa_step (xa_iload d_X12_next_101 rfl) ?_
  refine xa_step (xa_imul d_X12_next_103) ?_
  refine xa_step (xa_iload d_X12_next_104 rfl) ?_
  refine xa_step (xa_iadd d_X12_next_106) ?_
  refine xa_step (xa_istore (ls' := [some (xR c0), some (xI c1), some (xI c2), some (xI v7), some (xI (w32 ((w32 (6 * c5)) + v6))), some (xI c5), some (xI v6), some (xI v7)]) d_X12_next_107 (by decide) rfl) ?_
  refine xa_step (xa_iinc (ls' := [some (xR c0), some (xI c1), some (xI c2), some (xI v7), some (xI (w32 ((w32 (6 * c5)) + v6))), some (xI c5), some (xI (w32 (v6 + 1))), some (xI v7)]) d_X12_next_109 xq_i_1 rfl (by decide) rfl) ?_
  refine xa_step (xa_goto d_X12_next_112) ?_
  exact xa_weak (ls' := [some (xR c0), some (xI c1), some (xI c2), some (xI v7), some (xI (w32 ((w32 (6 * c5)) + v6))), some (xI c5), some (xI (w32 (v6 + 1))), none]) ⟨rfl, rfl, rfl, rfl, rfl, rfl, rfl, trivial⟩ (hb v7 (w32 ((w32 (6 * c5)) + v6)) (w32 (v6 + 1)))
theorem d_X12_next_87 : decode mX12_next.1 87 = .ok (.iload 7, 2) ∧ 87 + 2 = 89 := ⟨by decide +kernel, rfl⟩
theorem d_X12_next_89 : decode mX12_next.1 89 = .ok (.iload_n 3, 1) ∧ 89 + 1 = 90 := ⟨by decide +kernel, rfl⟩
theorem d_X12_next_90 : decode mX12_next.1 90 = .ok (.if_icmp .lt 6, 3) ∧ 90 + 3 = 93 ∧ ((90 : Nat) : Int) + 6 = ((96 : Nat) : Int) := ⟨by decide +kernel, rfl, rfl⟩
theorem d_X12_next_93 : decode mX12_next.1 93 = .ok (.goto 16, 3) ∧ ((93 : Nat) : Int) + 16 = ((109 : Nat) : Int) := ⟨by decide +kernel, rfl⟩
set_option maxRecDepth 100000 in
set_option maxHeartbeats 4000000 in
theorem g_X12_next_J82L43 (l : Launch) (G : xa_C) (c0 c1 c2 c5 : Int) (h : xa_H) (K : (Int × Int × Int) ⊕ (Int × Int) → Option xa_O) (hb : ∀ (v3 : Int) (v4 : Int) (v6 : Int), xa_G l G 5 mX12_next (some (Sum.inl ((v3, v4, v6)))) K 43 [some (xR c0), some (xI c1), some (xI c2), some (xI v3), some (xI v4), some (xI c5), some (xI v6), none] [] h) (hx : ∀ (v3 : Int) (v4 : Int), xa_G l G 5 mX12_next (some (Sum.inr ((v3, v4)))) K 115 [some (xR c0), some (xI c1), some (xI c2), some (xI v3), some (xI v4), some (xI c5), none, none] [] h) : ∀ (v3 v4 v6 v7 : Int) , xa_G l G 5 mX12_next (f_X12_next_J82L43 c0 c1 c2 c5 v3 v4 v6 v7 h) K 82 [some (xR c0), some (xI c1), some (xI c2), some (xI v3), some (xI v4), some (xI c5), some (xI v6), some (xI v7)] [] h := by
  intro v3 v4 v6 v7
  unfold f_X12_next_J82L43
  refine xa_step (xa_iload_n d_X12_next_82 rfl) ?_
  refine xa_step (xa_iconst d_X12_next_83 xq_i_m1) ?_
  refine xa_if (xa_icmpeq d_X12_next_84) (fun q12 => ?_) (fun q12 => ?_)
  · exact xa_weak (ls' := [some (xR c0), some (xI c1), some (xI c2), none, none, some (xI c5), some (xI v6), some (xI v7)]) ⟨rfl, rfl, rfl, rfl, rfl, rfl, trivial⟩ (g_X12_next_J96L43 l G c0 c1 c2 c5 h K hb hx v6 v7)
  · refine xa_step (xa_iload d_X12_next_87 rfl) ?_
    refine xa_step (xa_iload_n d_X12_next_89 rfl) ?_
    refine xa_if (xa_icmplt d_X12_next_90) (fun q13 => ?_) (fun q13 => ?_)
    · exact xa_weak (ls' := [some (xR c0), some (xI c1), some (xI c2), none, none, some (xI c5), some (xI v6), some (xI v7)]) ⟨rfl, rfl, rfl, rfl, rfl, rfl, trivial⟩ (g_X12_next_J96L43 l G c0 c1 c2 c5 h K hb hx v6 v7)
    · refine xa_step (xa_goto d_X12_next_93) ?_
      refine xa_step (xa_iinc (ls' := [some (xR c0), some (xI c1), some (xI c2), some (xI v3), some (xI v4), some (xI c5), some (xI (w32 (v6 + 1))), some (xI v7)]) d_X12_next_109 xq_i_1 rfl (by decide) rfl) ?_
      refine xa_step (xa_goto d_X12_next_112) ?_
      exact xa_weak (ls' := [some (xR c0), some (xI c1), some (xI c2), some (xI v3), some (xI v4), some (xI c5), some (xI (w32 (v6 + 1))), none]) ⟨rfl, rfl, rfl, rfl, rfl, rfl, rfl, trivial⟩ (hb v3 v4 (w32 (v6 + 1)))
set_option maxRecDepth 100000 in
set_option maxHeartbeats 4000000 in
theorem g_X12_next_L43 (l : Launch) (G : xa_C) (c0 c1 c2 c5 : Int) (h : xa_H) (K : (Int × Int × Int) ⊕ (Int × Int) → Option xa_O) (hb : ∀ (v3 : Int) (v4 : Int) (v6 : Int), xa_G l G 5 mX12_next (some (Sum.inl ((v3, v4, v6)))) K 43 [some (xR c0), some (xI c1), some (xI c2), some (xI v3), some (xI v4), some (xI c5), some (xI v6), none] [] h) (hx : ∀ (v3 : Int) (v4 : Int), xa_G l G 5 mX12_next (some (Sum.inr ((v3, v4)))) K 115 [some (xR c0), some (xI c1), some (xI c2), some (xI v3), some (xI v4), some (xI c5), none, none] [] h) : ∀ (v3 : Int) (v4 : Int) (v6 : Int), xa_G l G 5 mX12_next (f_X12_next_L43 c0 c1 c2 c5 h v3 v4 v6) K 43 [some (xR c0), some (xI c1), some (xI c2), some (xI v3), some (xI v4), some (xI c5), some (xI v6), none] [] h := by
  intro v3 v4 v6
  unfold f_X12_next_L43
  refine xa_step (xa_iload d_X12_next_43 rfl) ?_
  refine xa_step (xa_aload_n d_X12_next_45 rfl) ?_
  refine xa_callVi (as := []) (st := [xI v6]) (M' := mX12_heldMany) (d' := 2) rfl xw_1873 xw_1875 xw_115 xw_1876 xw_177 xh_X12_heldMany rfl ⟨Nat.le_of_ble_eq_true rfl, Nat.le_of_ble_eq_true rfl⟩ (Nat.le_of_ble_eq_true rfl) rfl d_X12_next_46 (fun r hr => ct_X12_heldMany l G c0 h r hr) (fun r7 _ => ?_)
  refine xa_if (xa_icmpge d_X12_next_49) (fun q8 => ?_) (fun q8 => ?_)
  · refine xa_step (xa_aload_n d_X12_next_52 rfl) ?_
    refine xa_getf xR xc_12 (by decide) (fun _ => rfl) xw_1376 rfl d_X12_next_53 (fun x9 _ => ?_)
    refine xa_step (xa_bipush d_X12_next_56 xq_b_6) ?_
    refine xa_step (xa_iload d_X12_next_58 rfl) ?_
    refine xa_step (xa_imul d_X12_next_60) ?_
    refine xa_step (xa_iload d_X12_next_61 rfl) ?_
    refine xa_step (xa_iadd d_X12_next_63) ?_
    refine xa_iaload d_X12_next_64 (fun x10 _ => ?_)
    refine xa_step (xa_istore (ls' := [some (xR c0), some (xI c1), some (xI c2), some (xI v3), some (xI v4), some (xI c5), some (xI v6), some (xI x10)]) d_X12_next_65 (by decide) rfl) ?_
    refine xa_step (xa_iload_n d_X12_next_67 rfl) ?_
    refine xa_step (xa_iload d_X12_next_68 rfl) ?_
    refine xa_step (xa_isub d_X12_next_70) ?_
    refine xa_step (xa_iload d_X12_next_71 rfl) ?_
    refine xa_if (xa_icmple d_X12_next_73) (fun q11 => ?_) (fun q11 => ?_)
    · refine xa_step (xa_iload_n d_X12_next_76 rfl) ?_
      refine xa_step (xa_iload d_X12_next_77 rfl) ?_
      refine xa_step (xa_isub d_X12_next_79) ?_
      refine xa_step (xa_istore (ls' := [some (xR c0), some (xI c1), some (xI c2), some (xI v3), some (xI v4), some (xI c5), some (xI v6), some (xI (w32 (c2 - x10)))]) d_X12_next_80 (by decide) rfl) ?_
      exact xa_weak (ls' := [some (xR c0), some (xI c1), some (xI c2), some (xI v3), some (xI v4), some (xI c5), some (xI v6), some (xI (w32 (c2 - x10)))]) ⟨rfl, rfl, rfl, rfl, rfl, rfl, rfl, rfl, trivial⟩ (g_X12_next_J82L43 l G c0 c1 c2 c5 h K hb hx v3 v4 v6 (w32 (c2 - x10)))
    · exact xa_weak (ls' := [some (xR c0), some (xI c1), some (xI c2), some (xI v3), some (xI v4), some (xI c5), some (xI v6), some (xI x10)]) ⟨rfl, rfl, rfl, rfl, rfl, rfl, rfl, rfl, trivial⟩ (g_X12_next_J82L43 l G c0 c1 c2 c5 h K hb hx v3 v4 v6 x10)
  · exact xa_weak (ls' := [some (xR c0), some (xI c1), some (xI c2), some (xI v3), some (xI v4), some (xI c5), none, none]) ⟨rfl, rfl, rfl, rfl, rfl, rfl, trivial⟩ (hx v3 v4)
theorem d_X12_next_115 : decode mX12_next.1 115 = .ok (.iinc 5 1, 3) ∧ 115 + 3 = 118 := ⟨by decide +kernel, rfl⟩
theorem d_X12_next_118 : decode mX12_next.1 118 = .ok (.goto (-91), 3) ∧ ((118 : Nat) : Int) + (-91) = ((27 : Nat) : Int) := ⟨by decide +kernel, rfl⟩
set_option maxRecDepth 100000 in
set_option maxHeartbeats 4000000 in
theorem g_X12_next_L27 (l : Launch) (G : xa_C) (c0 c1 c2 : Int) (h : xa_H) (K : (Int × Int × Int) ⊕ (Int × Int) → Option xa_O) (hb : ∀ (v3 : Int) (v4 : Int) (v5 : Int), xa_G l G 5 mX12_next (some (Sum.inl ((v3, v4, v5)))) K 27 [some (xR c0), some (xI c1), some (xI c2), some (xI v3), some (xI v4), some (xI v5), none, none] [] h) (hx : ∀ (v3 : Int) (v4 : Int), xa_G l G 5 mX12_next (some (Sum.inr ((v3, v4)))) K 121 [none, some (xI c1), none, some (xI v3), some (xI v4), none, none, none] [] h) : ∀ (v3 : Int) (v4 : Int) (v5 : Int), xa_G l G 5 mX12_next (f_X12_next_L27 c0 c1 c2 h v3 v4 v5) K 27 [some (xR c0), some (xI c1), some (xI c2), some (xI v3), some (xI v4), some (xI v5), none, none] [] h := by
  intro v3 v4 v5
  unfold f_X12_next_L27
  refine xa_step (xa_iload d_X12_next_27 rfl) ?_
  refine xa_step (xa_aload_n d_X12_next_29 rfl) ?_
  refine xa_callVi (as := []) (st := [xI v5]) (M' := mX12_holderMany) (d' := 2) rfl xw_1836 xw_1838 xw_108 xw_1839 xw_177 xh_X12_holderMany rfl ⟨Nat.le_of_ble_eq_true rfl, Nat.le_of_ble_eq_true rfl⟩ (Nat.le_of_ble_eq_true rfl) rfl d_X12_next_30 (fun r hr => ct_X12_holderMany l G c0 h r hr) (fun r4 _ => ?_)
  refine xa_if (xa_icmpge d_X12_next_33) (fun q5 => ?_) (fun q5 => ?_)
  · refine xa_step (xa_iload_n d_X12_next_36 rfl) ?_
    refine xa_if (xa_ifle d_X12_next_37) (fun q6 => ?_) (fun q6 => ?_)
    · refine xa_step (xa_iconst d_X12_next_40 xq_i_0) ?_
      refine xa_step (xa_istore (ls' := [some (xR c0), some (xI c1), some (xI c2), some (xI v3), some (xI v4), some (xI v5), some (xI 0), none]) d_X12_next_41 (by decide) rfl) ?_
      refine xa_weak (ls' := [some (xR c0), some (xI c1), some (xI c2), some (xI v3), some (xI v4), some (xI v5), some (xI 0), none]) ⟨rfl, rfl, rfl, rfl, rfl, rfl, rfl, trivial⟩ ?_
      refine xa_loop (f := fun s => f_X12_next_L43 c0 c1 c2 v5 h s.1 s.2.1 s.2.2) (L := fun s => [some (xR c0), some (xI c1), some (xI c2), some (xI s.1), some (xI s.2.1), some (xI v5), some (xI s.2.2), none]) (P := fun s => h) (X := (fun x K => xa_G l G 5 mX12_next (some (Sum.inr x)) K 115 [some (xR c0), some (xI c1), some (xI c2), some (xI x.1), some (xI x.2), some (xI v5), none, none] [] h)) (fun K hb hX s => g_X12_next_L43 l G c0 c1 c2 v5 h K (fun w0 w1 w2 => hb ((w0, w1, w2))) (fun w0 w1 => hX ((w0, w1))) s.1 s.2.1 s.2.2) ?_ xFU ((v3, v4, 0))
      intro e14 K hK
      refine xa_eqE hK ?_
      show xa_G l G 5 mX12_next _ _ 115 [some (xR c0), some (xI c1), some (xI c2), some (xI e14.1), some (xI e14.2), some (xI v5), none, none] [] h
      refine xa_step (xa_iinc (ls' := [some (xR c0), some (xI c1), some (xI c2), some (xI e14.1), some (xI e14.2), some (xI (w32 (v5 + 1))), none, none]) d_X12_next_115 xq_i_1 rfl (by decide) rfl) ?_
      refine xa_step (xa_goto d_X12_next_118) ?_
      exact xa_weak (ls' := [some (xR c0), some (xI c1), some (xI c2), some (xI e14.1), some (xI e14.2), some (xI (w32 (v5 + 1))), none, none]) ⟨rfl, rfl, rfl, rfl, rfl, rfl, trivial⟩ (hb e14.1 e14.2 (w32 (v5 + 1)))
    · exact xa_weak (ls' := [none, some (xI c1), none, some (xI v3), some (xI v4), none, none, none]) ⟨rfl, rfl, rfl, trivial⟩ (hx v3 v4)
  · exact xa_weak (ls' := [none, some (xI c1), none, some (xI v3), some (xI v4), none, none, none]) ⟨rfl, rfl, rfl, trivial⟩ (hx v3 v4)
theorem d_X12_next_121 : decode mX12_next.1 121 = .ok (.iload 4, 2) ∧ 121 + 2 = 123 := ⟨by decide +kernel, rfl⟩
theorem d_X12_next_123 : decode mX12_next.1 123 = .ok (.iconst (-1), 1) ∧ 123 + 1 = 124 := ⟨by decide +kernel, rfl⟩
theorem d_X12_next_124 : decode mX12_next.1 124 = .ok (.if_icmp .ne 7, 3) ∧ 124 + 3 = 127 ∧ ((124 : Nat) : Int) + 7 = ((131 : Nat) : Int) := ⟨by decide +kernel, rfl, rfl⟩
theorem d_X12_next_127 : decode mX12_next.1 127 = .ok (.iconst (-1), 1) ∧ 127 + 1 = 128 := ⟨by decide +kernel, rfl⟩
theorem d_X12_next_128 : decode mX12_next.1 128 = .ok (.goto 29, 3) ∧ ((128 : Nat) : Int) + 29 = ((157 : Nat) : Int) := ⟨by decide +kernel, rfl⟩
theorem d_X12_next_157 : decode mX12_next.1 157 = .ok (.ireturn, 1) := by decide +kernel
theorem d_X12_next_131 : decode mX12_next.1 131 = .ok (.iload_n 1, 1) ∧ 131 + 1 = 132 := ⟨by decide +kernel, rfl⟩
theorem d_X12_next_132 : decode mX12_next.1 132 = .ok (.ifCond .ne 11, 3) ∧ 132 + 3 = 135 ∧ ((132 : Nat) : Int) + 11 = ((143 : Nat) : Int) := ⟨by decide +kernel, rfl, rfl⟩
theorem d_X12_next_135 : decode mX12_next.1 135 = .ok (.iload 4, 2) ∧ 135 + 2 = 137 := ⟨by decide +kernel, rfl⟩
theorem d_X12_next_137 : decode mX12_next.1 137 = .ok (.bipush 6, 2) ∧ 137 + 2 = 139 := ⟨by decide +kernel, rfl⟩
theorem d_X12_next_139 : decode mX12_next.1 139 = .ok (.idiv, 1) ∧ 139 + 1 = 140 := ⟨by decide +kernel, rfl⟩
theorem d_X12_next_140 : decode mX12_next.1 140 = .ok (.goto 17, 3) ∧ ((140 : Nat) : Int) + 17 = ((157 : Nat) : Int) := ⟨by decide +kernel, rfl⟩
theorem d_X12_next_143 : decode mX12_next.1 143 = .ok (.iload_n 1, 1) ∧ 143 + 1 = 144 := ⟨by decide +kernel, rfl⟩
theorem d_X12_next_144 : decode mX12_next.1 144 = .ok (.iconst 1, 1) ∧ 144 + 1 = 145 := ⟨by decide +kernel, rfl⟩
theorem d_X12_next_145 : decode mX12_next.1 145 = .ok (.if_icmp .ne 11, 3) ∧ 145 + 3 = 148 ∧ ((145 : Nat) : Int) + 11 = ((156 : Nat) : Int) := ⟨by decide +kernel, rfl, rfl⟩
theorem d_X12_next_148 : decode mX12_next.1 148 = .ok (.iload 4, 2) ∧ 148 + 2 = 150 := ⟨by decide +kernel, rfl⟩
theorem d_X12_next_150 : decode mX12_next.1 150 = .ok (.bipush 6, 2) ∧ 150 + 2 = 152 := ⟨by decide +kernel, rfl⟩
theorem d_X12_next_152 : decode mX12_next.1 152 = .ok (.irem, 1) ∧ 152 + 1 = 153 := ⟨by decide +kernel, rfl⟩
theorem d_X12_next_153 : decode mX12_next.1 153 = .ok (.goto 4, 3) ∧ ((153 : Nat) : Int) + 4 = ((157 : Nat) : Int) := ⟨by decide +kernel, rfl⟩
theorem d_X12_next_156 : decode mX12_next.1 156 = .ok (.iload_n 3, 1) ∧ 156 + 1 = 157 := ⟨by decide +kernel, rfl⟩
set_option maxRecDepth 100000 in
set_option maxHeartbeats 4000000 in
theorem g_X12_next_J121 (l : Launch) (G : xa_C) : ∀ (v1 v3 v4 : Int) (h : xa_H) , xa_G l G 5 mX12_next (f_X12_next_J121 v1 v3 v4 h) (fun r => some (some (xI r.1), r.2) : (Int × xa_H) → Option xa_O) 121 [none, some (xI v1), none, some (xI v3), some (xI v4), none, none, none] [] h := by
  intro v1 v3 v4 h
  unfold f_X12_next_J121
  refine xa_step (xa_iload d_X12_next_121 rfl) ?_
  refine xa_step (xa_iconst d_X12_next_123 xq_i_m1) ?_
  refine xa_if (xa_icmpne d_X12_next_124) (fun q16 => ?_) (fun q16 => ?_)
  · refine xa_step (xa_iconst d_X12_next_127 xq_i_m1) ?_
    refine xa_step (xa_goto d_X12_next_128) ?_
    exact xa_iret d_X12_next_157 rfl rfl
  · refine xa_step (xa_iload_n d_X12_next_131 rfl) ?_
    refine xa_if (xa_ifne d_X12_next_132) (fun q17 => ?_) (fun q17 => ?_)
    · refine xa_step (xa_iload d_X12_next_135 rfl) ?_
      refine xa_step (xa_bipush d_X12_next_137 xq_b_6) ?_
      refine xa_step (xa_idiv d_X12_next_139 (by decide)) ?_
      refine xa_step (xa_goto d_X12_next_140) ?_
      exact xa_iret d_X12_next_157 rfl rfl
    · refine xa_step (xa_iload_n d_X12_next_143 rfl) ?_
      refine xa_step (xa_iconst d_X12_next_144 xq_i_1) ?_
      refine xa_if (xa_icmpne d_X12_next_145) (fun q18 => ?_) (fun q18 => ?_)
      · refine xa_step (xa_iload d_X12_next_148 rfl) ?_
        refine xa_step (xa_bipush d_X12_next_150 xq_b_6) ?_
        refine xa_step (xa_irem d_X12_next_152 (by decide)) ?_
        refine xa_step (xa_goto d_X12_next_153) ?_
        exact xa_iret d_X12_next_157 rfl rfl
      · refine xa_step (xa_iload_n d_X12_next_156 rfl) ?_
        exact xa_iret d_X12_next_157 rfl rfl
set_option maxRecDepth 100000 in
set_option maxHeartbeats 4000000 in
theorem g_X12_next (l : Launch) (G : xa_C) (v0 v1 : Int) (h : xa_H) : xa_G l G 5 mX12_next (f_X12_next v0 v1 h) (fun r => some (some (xI r.1), r.2) : (Int × xa_H) → Option xa_O) 0 [some (xR v0), some (xI v1), none, none, none, none, none, none] [] h := by
  unfold f_X12_next
  refine xa_step (xa_iload_n d_X12_next_0 rfl) ?_
  refine xa_step (xa_i2l d_X12_next_1) ?_
  refine xa_step (xa_lconst d_X12_next_2 rfl) ?_
  refine xa_step (xa_ldc2 (c64 := 2) (v := 2) (by decide +kernel) xw_1918 d_X12_next_3) ?_
  refine xa_callSi (as := [xL v1, xL 0, xL 2]) (st := []) (M' := mX12_isIn) (d' := 2) xw_1706 xw_1707 xw_1708 xw_177 xh_X12_isIn rfl ⟨Nat.le_of_ble_eq_true rfl, Nat.le_of_ble_eq_true rfl⟩ (Nat.le_of_ble_eq_true rfl) rfl d_X12_next_6 (fun r hr => ct_X12_isIn l G v1 0 2 h r hr) (fun r1 _ => ?_)
  refine xa_if (xa_ifne d_X12_next_9) (fun q2 => ?_) (fun q2 => ?_)
  · refine xa_step (xa_iconst d_X12_next_12 xq_i_m1) ?_
    exact xa_iret d_X12_next_13 rfl rfl
  · refine xa_step (xa_aload_n d_X12_next_14 rfl) ?_
    refine xa_callVI (as := []) (st := []) (M' := mX12_laysWays) (d' := 4) rfl xw_2069 xw_2071 xw_145 xw_2072 xw_177 xh_X12_laysWays rfl ⟨Nat.le_of_ble_eq_true rfl, Nat.le_of_ble_eq_true rfl⟩ (Nat.le_of_ble_eq_true rfl) rfl d_X12_next_15 (fun r hr => ct_X12_laysWays l G v0 h r hr) (fun r3 _ => ?_)
    refine xa_step (xa_istore_n (ls' := [some (xR v0), some (xI v1), some (xI r3.1), none, none, none, none, none]) d_X12_next_18 (by decide) rfl) ?_
    refine xa_step (xa_iconst d_X12_next_19 xq_i_m1) ?_
    refine xa_step (xa_istore_n (ls' := [some (xR v0), some (xI v1), some (xI r3.1), some (xI ((-1))), none, none, none, none]) d_X12_next_20 (by decide) rfl) ?_
    refine xa_step (xa_iconst d_X12_next_21 xq_i_m1) ?_
    refine xa_step (xa_istore (ls' := [some (xR v0), some (xI v1), some (xI r3.1), some (xI ((-1))), some (xI ((-1))), none, none, none]) d_X12_next_22 (by decide) rfl) ?_
    refine xa_step (xa_iconst d_X12_next_24 xq_i_0) ?_
    refine xa_step (xa_istore (ls' := [some (xR v0), some (xI v1), some (xI r3.1), some (xI ((-1))), some (xI ((-1))), some (xI 0), none, none]) d_X12_next_25 (by decide) rfl) ?_
    refine xa_weak (ls' := [some (xR v0), some (xI v1), some (xI r3.1), some (xI ((-1))), some (xI ((-1))), some (xI 0), none, none]) ⟨rfl, rfl, rfl, rfl, rfl, rfl, trivial⟩ ?_
    refine xa_loop (f := fun s => f_X12_next_L27 v0 v1 r3.1 r3.2 s.1 s.2.1 s.2.2) (L := fun s => [some (xR v0), some (xI v1), some (xI r3.1), some (xI s.1), some (xI s.2.1), some (xI s.2.2), none, none]) (P := fun s => r3.2) (X := (fun x K => xa_G l G 5 mX12_next (some (Sum.inr x)) K 121 [none, some (xI v1), none, some (xI x.1), some (xI x.2), none, none, none] [] r3.2)) (fun K hb hX s => g_X12_next_L27 l G v0 v1 r3.1 r3.2 K (fun w0 w1 w2 => hb ((w0, w1, w2))) (fun w0 w1 => hX ((w0, w1))) s.1 s.2.1 s.2.2) ?_ xFU (((-1), (-1), 0))
    intro e15 K hK
    refine xa_eqE hK ?_
    show xa_G l G 5 mX12_next _ _ 121 [none, some (xI v1), none, some (xI e15.1), some (xI e15.2), none, none, none] [] r3.2
    exact xa_weak (ls' := [none, some (xI v1), none, some (xI e15.1), some (xI e15.2), none, none, none]) ⟨rfl, rfl, rfl, trivial⟩ (g_X12_next_J121 l G v1 e15.1 e15.2 r3.2)
theorem ct_X12_next (l : Launch) (G : xa_C) (v0 v1 : Int) (h : xa_H) (r : Int × xa_H) (hr : f_X12_next v0 v1 h = some r) : xa_CT l G 5 mX12_next yX12_next [xR v0, xI v1] h (some (xI r.1), r.2) :=
  xa_met (by decide +kernel) rfl (fun q => by first | rfl | cases q) (Nat.le_of_ble_eq_true rfl) rfl (g_X12_next l G v0 v1 h) (by rw [hr]; rfl)
abbrev mX12_keeps : xa_M := (cX12_keeps, 2, none, RX12, false)
theorem d_X12_keeps_0 : decode mX12_keeps.1 0 = .ok (.aload_n 0, 1) ∧ 0 + 1 = 1 := ⟨by decide +kernel, rfl⟩
theorem d_X12_keeps_1 : decode mX12_keeps.1 1 = .ok (.aload_n 0, 1) ∧ 1 + 1 = 2 := ⟨by decide +kernel, rfl⟩
theorem d_X12_keeps_2 : decode mX12_keeps.1 2 = .ok (.getfield 568, 3) ∧ 2 + 3 = 5 := ⟨by decide +kernel, rfl⟩
theorem d_X12_keeps_5 : decode mX12_keeps.1 5 = .ok (.iconst 1, 1) ∧ 5 + 1 = 6 := ⟨by decide +kernel, rfl⟩
theorem d_X12_keeps_6 : decode mX12_keeps.1 6 = .ok (.iadd, 1) ∧ 6 + 1 = 7 := ⟨by decide +kernel, rfl⟩
theorem d_X12_keeps_7 : decode mX12_keeps.1 7 = .ok (.bipush 20, 2) ∧ 7 + 2 = 9 := ⟨by decide +kernel, rfl⟩
theorem d_X12_keeps_9 : decode mX12_keeps.1 9 = .ok (.irem, 1) ∧ 9 + 1 = 10 := ⟨by decide +kernel, rfl⟩
theorem d_X12_keeps_10 : decode mX12_keeps.1 10 = .ok (.putfield 568, 3) ∧ 10 + 3 = 13 := ⟨by decide +kernel, rfl⟩
theorem d_X12_keeps_13 : decode mX12_keeps.1 13 = .ok (.iconst 0, 1) ∧ 13 + 1 = 14 := ⟨by decide +kernel, rfl⟩
theorem d_X12_keeps_14 : decode mX12_keeps.1 14 = .ok (.istore_n 1, 1) ∧ 14 + 1 = 15 := ⟨by decide +kernel, rfl⟩
theorem d_X12_keeps_15 : decode mX12_keeps.1 15 = .ok (.iload_n 1, 1) ∧ 15 + 1 = 16 := ⟨by decide +kernel, rfl⟩
theorem d_X12_keeps_16 : decode mX12_keeps.1 16 = .ok (.sipush 176, 3) ∧ 16 + 3 = 19 := ⟨by decide +kernel, rfl⟩
theorem d_X12_keeps_19 : decode mX12_keeps.1 19 = .ok (.if_icmp .ge 30, 3) ∧ 19 + 3 = 22 ∧ ((19 : Nat) : Int) + 30 = ((49 : Nat) : Int) := ⟨by decide +kernel, rfl, rfl⟩
theorem d_X12_keeps_22 : decode mX12_keeps.1 22 = .ok (.aload_n 0, 1) ∧ 22 + 1 = 23 := ⟨by decide +kernel, rfl⟩
theorem d_X12_keeps_23 : decode mX12_keeps.1 23 = .ok (.getfield 167, 3) ∧ 23 + 3 = 26 := ⟨by decide +kernel, rfl⟩
theorem d_X12_keeps_26 : decode mX12_keeps.1 26 = .ok (.sipush 176, 3) ∧ 26 + 3 = 29 := ⟨by decide +kernel, rfl⟩
theorem d_X12_keeps_29 : decode mX12_keeps.1 29 = .ok (.aload_n 0, 1) ∧ 29 + 1 = 30 := ⟨by decide +kernel, rfl⟩
theorem d_X12_keeps_30 : decode mX12_keeps.1 30 = .ok (.getfield 568, 3) ∧ 30 + 3 = 33 := ⟨by decide +kernel, rfl⟩
theorem d_X12_keeps_33 : decode mX12_keeps.1 33 = .ok (.imul, 1) ∧ 33 + 1 = 34 := ⟨by decide +kernel, rfl⟩
theorem d_X12_keeps_34 : decode mX12_keeps.1 34 = .ok (.iload_n 1, 1) ∧ 34 + 1 = 35 := ⟨by decide +kernel, rfl⟩
theorem d_X12_keeps_35 : decode mX12_keeps.1 35 = .ok (.iadd, 1) ∧ 35 + 1 = 36 := ⟨by decide +kernel, rfl⟩
theorem d_X12_keeps_36 : decode mX12_keeps.1 36 = .ok (.aload_n 0, 1) ∧ 36 + 1 = 37 := ⟨by decide +kernel, rfl⟩
theorem d_X12_keeps_37 : decode mX12_keeps.1 37 = .ok (.getfield 130, 3) ∧ 37 + 3 = 40 := ⟨by decide +kernel, rfl⟩
theorem d_X12_keeps_40 : decode mX12_keeps.1 40 = .ok (.iload_n 1, 1) ∧ 40 + 1 = 41 := ⟨by decide +kernel, rfl⟩
theorem d_X12_keeps_41 : decode mX12_keeps.1 41 = .ok (.iaload, 1) ∧ 41 + 1 = 42 := ⟨by decide +kernel, rfl⟩
theorem d_X12_keeps_42 : decode mX12_keeps.1 42 = .ok (.iastore, 1) ∧ 42 + 1 = 43 := ⟨by decide +kernel, rfl⟩
theorem d_X12_keeps_43 : decode mX12_keeps.1 43 = .ok (.iinc 1 1, 3) ∧ 43 + 3 = 46 := ⟨by decide +kernel, rfl⟩
theorem d_X12_keeps_46 : decode mX12_keeps.1 46 = .ok (.goto (-31), 3) ∧ ((46 : Nat) : Int) + (-31) = ((15 : Nat) : Int) := ⟨by decide +kernel, rfl⟩
set_option maxRecDepth 100000 in
set_option maxHeartbeats 4000000 in
theorem g_X12_keeps_L15 (l : Launch) (G : xa_C) (c0 : Int) (K : (Int × xa_H) ⊕ (xa_H) → Option xa_O) (hb : ∀ (v1 : Int) (h : xa_H), xa_G l G 2 mX12_keeps (some (Sum.inl ((v1, h)))) K 15 [some (xR c0), some (xI v1)] [] h) (hx : ∀ (h : xa_H), xa_G l G 2 mX12_keeps (some (Sum.inr h)) K 49 [some (xR c0), none] [] h) : ∀ (v1 : Int) (h : xa_H), xa_G l G 2 mX12_keeps (f_X12_keeps_L15 c0 v1 h) K 15 [some (xR c0), some (xI v1)] [] h := by
  intro v1 h
  unfold f_X12_keeps_L15
  refine xa_step (xa_iload_n d_X12_keeps_15 rfl) ?_
  refine xa_step (xa_sipush d_X12_keeps_16 xq_s_176) ?_
  refine xa_if (xa_icmpge d_X12_keeps_19) (fun q3 => ?_) (fun q3 => ?_)
  · refine xa_step (xa_aload_n d_X12_keeps_22 rfl) ?_
    refine xa_getf xR xc_12 (by decide) (fun _ => rfl) xw_1377 rfl d_X12_keeps_23 (fun x4 _ => ?_)
    refine xa_step (xa_sipush d_X12_keeps_26 xq_s_176) ?_
    refine xa_step (xa_aload_n d_X12_keeps_29 rfl) ?_
    refine xa_getf xI xc_12 (by decide) (fun _ => rfl) xw_1379 rfl d_X12_keeps_30 (fun x5 _ => ?_)
    refine xa_step (xa_imul d_X12_keeps_33) ?_
    refine xa_step (xa_iload_n d_X12_keeps_34 rfl) ?_
    refine xa_step (xa_iadd d_X12_keeps_35) ?_
    refine xa_step (xa_aload_n d_X12_keeps_36 rfl) ?_
    refine xa_getf xR xc_12 (by decide) (fun _ => rfl) xw_1354 rfl d_X12_keeps_37 (fun x6 _ => ?_)
    refine xa_step (xa_iload_n d_X12_keeps_40 rfl) ?_
    refine xa_iaload d_X12_keeps_41 (fun x7 _ => ?_)
    refine xa_iastore2 d_X12_keeps_42 (fun h8 _ => ?_)
    refine xa_step (xa_iinc (ls' := [some (xR c0), some (xI (w32 (v1 + 1)))]) d_X12_keeps_43 xq_i_1 rfl (by decide) rfl) ?_
    refine xa_step (xa_goto d_X12_keeps_46) ?_
    exact xa_weak (ls' := [some (xR c0), some (xI (w32 (v1 + 1)))]) ⟨rfl, rfl, trivial⟩ (hb (w32 (v1 + 1)) h8)
  · exact xa_weak (ls' := [some (xR c0), none]) ⟨rfl, trivial⟩ (hx h)
theorem d_X12_keeps_49 : decode mX12_keeps.1 49 = .ok (.aload_n 0, 1) ∧ 49 + 1 = 50 := ⟨by decide +kernel, rfl⟩
theorem d_X12_keeps_50 : decode mX12_keeps.1 50 = .ok (.getfield 390, 3) ∧ 50 + 3 = 53 := ⟨by decide +kernel, rfl⟩
theorem d_X12_keeps_53 : decode mX12_keeps.1 53 = .ok (.bipush 20, 2) ∧ 53 + 2 = 55 := ⟨by decide +kernel, rfl⟩
theorem d_X12_keeps_55 : decode mX12_keeps.1 55 = .ok (.if_icmp .ge 13, 3) ∧ 55 + 3 = 58 ∧ ((55 : Nat) : Int) + 13 = ((68 : Nat) : Int) := ⟨by decide +kernel, rfl, rfl⟩
theorem d_X12_keeps_58 : decode mX12_keeps.1 58 = .ok (.aload_n 0, 1) ∧ 58 + 1 = 59 := ⟨by decide +kernel, rfl⟩
theorem d_X12_keeps_59 : decode mX12_keeps.1 59 = .ok (.dup, 1) ∧ 59 + 1 = 60 := ⟨by decide +kernel, rfl⟩
theorem d_X12_keeps_60 : decode mX12_keeps.1 60 = .ok (.getfield 390, 3) ∧ 60 + 3 = 63 := ⟨by decide +kernel, rfl⟩
theorem d_X12_keeps_63 : decode mX12_keeps.1 63 = .ok (.iconst 1, 1) ∧ 63 + 1 = 64 := ⟨by decide +kernel, rfl⟩
theorem d_X12_keeps_64 : decode mX12_keeps.1 64 = .ok (.iadd, 1) ∧ 64 + 1 = 65 := ⟨by decide +kernel, rfl⟩
theorem d_X12_keeps_65 : decode mX12_keeps.1 65 = .ok (.putfield 390, 3) ∧ 65 + 3 = 68 := ⟨by decide +kernel, rfl⟩
theorem d_X12_keeps_68 : decode mX12_keeps.1 68 = .ok (.return_, 1) := by decide +kernel
set_option maxRecDepth 100000 in
set_option maxHeartbeats 4000000 in
theorem g_X12_keeps (l : Launch) (G : xa_C) (v0 : Int) (h : xa_H) : xa_G l G 2 mX12_keeps (f_X12_keeps v0 h) (fun r => some (none, r) : xa_H → Option xa_O) 0 [some (xR v0), none] [] h := by
  unfold f_X12_keeps
  refine xa_step (xa_aload_n d_X12_keeps_0 rfl) ?_
  refine xa_step (xa_aload_n d_X12_keeps_1 rfl) ?_
  refine xa_getf xI xc_12 (by decide) (fun _ => rfl) xw_1379 rfl d_X12_keeps_2 (fun x1 _ => ?_)
  refine xa_step (xa_iconst d_X12_keeps_5 xq_i_1) ?_
  refine xa_step (xa_iadd d_X12_keeps_6) ?_
  refine xa_step (xa_bipush d_X12_keeps_7 xq_b_20) ?_
  refine xa_step (xa_irem d_X12_keeps_9 (by decide)) ?_
  refine xa_putf2 (tg := xI) xc_12 (by decide) (fun _ => rfl) rfl (fun c hc => xa_fitI c hc) xw_1379 rfl d_X12_keeps_10 (fun h2 _ => ?_)
  refine xa_step (xa_iconst d_X12_keeps_13 xq_i_0) ?_
  refine xa_step (xa_istore_n (ls' := [some (xR v0), some (xI 0)]) d_X12_keeps_14 (by decide) rfl) ?_
  refine xa_weak (ls' := [some (xR v0), some (xI 0)]) ⟨rfl, rfl, trivial⟩ ?_
  refine xa_loop (f := fun s => f_X12_keeps_L15 v0 s.1 s.2) (L := fun s => [some (xR v0), some (xI s.1)]) (P := fun s => s.2) (X := (fun x K => xa_G l G 2 mX12_keeps (some (Sum.inr x)) K 49 [some (xR v0), none] [] x)) (fun K hb hX s => g_X12_keeps_L15 l G v0 K (fun w0 hh => hb ((w0, hh))) (fun hh => hX hh) s.1 s.2) ?_ xFU ((0, h2))
  intro e9 K hK
  refine xa_eqE hK ?_
  show xa_G l G 2 mX12_keeps _ _ 49 [some (xR v0), none] [] e9
  refine xa_step (xa_aload_n d_X12_keeps_49 rfl) ?_
  refine xa_getf xI xc_12 (by decide) (fun _ => rfl) xw_1378 rfl d_X12_keeps_50 (fun x10 _ => ?_)
  refine xa_step (xa_bipush d_X12_keeps_53 xq_b_20) ?_
  refine xa_if (xa_icmpge d_X12_keeps_55) (fun q11 => ?_) (fun q11 => ?_)
  · refine xa_step (xa_aload_n d_X12_keeps_58 rfl) ?_
    refine xa_step (xa_dup d_X12_keeps_59 (xa_tR _)) ?_
    refine xa_getf xI xc_12 (by decide) (fun _ => rfl) xw_1378 rfl d_X12_keeps_60 (fun x12 _ => ?_)
    refine xa_step (xa_iconst d_X12_keeps_63 xq_i_1) ?_
    refine xa_step (xa_iadd d_X12_keeps_64) ?_
    refine xa_putf2 (tg := xI) xc_12 (by decide) (fun _ => rfl) rfl (fun c hc => xa_fitI c hc) xw_1378 rfl d_X12_keeps_65 (fun h13 _ => ?_)
    exact xa_vret d_X12_keeps_68 rfl rfl
  · exact xa_vret d_X12_keeps_68 rfl rfl
theorem ct_X12_keeps (l : Launch) (G : xa_C) (v0 : Int) (h : xa_H) (r : xa_H) (hr : f_X12_keeps v0 h = some r) : xa_CT l G 2 mX12_keeps yX12_keeps [xR v0] h (none, r) :=
  xa_met (by decide +kernel) rfl (fun q => by first | rfl | cases q) (Nat.le_of_ble_eq_true rfl) rfl (g_X12_keeps l G v0 h) (by rw [hr]; rfl)
abbrev mX12_comesAbout : xa_M := (cX12_comesAbout, 5, none, RX12, false)
theorem d_X12_comesAbout_0 : decode mX12_comesAbout.1 0 = .ok (.iconst 0, 1) ∧ 0 + 1 = 1 := ⟨by decide +kernel, rfl⟩
theorem d_X12_comesAbout_1 : decode mX12_comesAbout.1 1 = .ok (.istore_n 1, 1) ∧ 1 + 1 = 2 := ⟨by decide +kernel, rfl⟩
theorem d_X12_comesAbout_2 : decode mX12_comesAbout.1 2 = .ok (.iload_n 1, 1) ∧ 2 + 1 = 3 := ⟨by decide +kernel, rfl⟩
theorem d_X12_comesAbout_3 : decode mX12_comesAbout.1 3 = .ok (.aload_n 0, 1) ∧ 3 + 1 = 4 := ⟨by decide +kernel, rfl⟩
theorem d_X12_comesAbout_4 : decode mX12_comesAbout.1 4 = .ok (.getfield 451, 3) ∧ 4 + 3 = 7 := ⟨by decide +kernel, rfl⟩
theorem d_X12_comesAbout_7 : decode mX12_comesAbout.1 7 = .ok (.if_icmp .ge 45, 3) ∧ 7 + 3 = 10 ∧ ((7 : Nat) : Int) + 45 = ((52 : Nat) : Int) := ⟨by decide +kernel, rfl, rfl⟩
theorem d_X12_comesAbout_10 : decode mX12_comesAbout.1 10 = .ok (.aload_n 0, 1) ∧ 10 + 1 = 11 := ⟨by decide +kernel, rfl⟩
theorem d_X12_comesAbout_11 : decode mX12_comesAbout.1 11 = .ok (.getfield 136, 3) ∧ 11 + 3 = 14 := ⟨by decide +kernel, rfl⟩
theorem d_X12_comesAbout_14 : decode mX12_comesAbout.1 14 = .ok (.iload_n 1, 1) ∧ 14 + 1 = 15 := ⟨by decide +kernel, rfl⟩
theorem d_X12_comesAbout_15 : decode mX12_comesAbout.1 15 = .ok (.aload_n 0, 1) ∧ 15 + 1 = 16 := ⟨by decide +kernel, rfl⟩
theorem d_X12_comesAbout_16 : decode mX12_comesAbout.1 16 = .ok (.aload_n 0, 1) ∧ 16 + 1 = 17 := ⟨by decide +kernel, rfl⟩
theorem d_X12_comesAbout_17 : decode mX12_comesAbout.1 17 = .ok (.iload_n 1, 1) ∧ 17 + 1 = 18 := ⟨by decide +kernel, rfl⟩
theorem d_X12_comesAbout_18 : decode mX12_comesAbout.1 18 = .ok (.invokevirtual 468, 3) ∧ 18 + 3 = 21 := ⟨by decide +kernel, rfl⟩
theorem d_X12_comesAbout_21 : decode mX12_comesAbout.1 21 = .ok (.invokevirtual 405, 3) ∧ 21 + 3 = 24 := ⟨by decide +kernel, rfl⟩
theorem d_X12_comesAbout_24 : decode mX12_comesAbout.1 24 = .ok (.iastore, 1) ∧ 24 + 1 = 25 := ⟨by decide +kernel, rfl⟩
theorem d_X12_comesAbout_25 : decode mX12_comesAbout.1 25 = .ok (.aload_n 0, 1) ∧ 25 + 1 = 26 := ⟨by decide +kernel, rfl⟩
theorem d_X12_comesAbout_26 : decode mX12_comesAbout.1 26 = .ok (.getfield 139, 3) ∧ 26 + 3 = 29 := ⟨by decide +kernel, rfl⟩
theorem d_X12_comesAbout_29 : decode mX12_comesAbout.1 29 = .ok (.iload_n 1, 1) ∧ 29 + 1 = 30 := ⟨by decide +kernel, rfl⟩
theorem d_X12_comesAbout_30 : decode mX12_comesAbout.1 30 = .ok (.aload_n 0, 1) ∧ 30 + 1 = 31 := ⟨by decide +kernel, rfl⟩
theorem d_X12_comesAbout_31 : decode mX12_comesAbout.1 31 = .ok (.aload_n 0, 1) ∧ 31 + 1 = 32 := ⟨by decide +kernel, rfl⟩
theorem d_X12_comesAbout_32 : decode mX12_comesAbout.1 32 = .ok (.getfield 133, 3) ∧ 32 + 3 = 35 := ⟨by decide +kernel, rfl⟩
theorem d_X12_comesAbout_35 : decode mX12_comesAbout.1 35 = .ok (.iload_n 1, 1) ∧ 35 + 1 = 36 := ⟨by decide +kernel, rfl⟩
theorem d_X12_comesAbout_36 : decode mX12_comesAbout.1 36 = .ok (.iaload, 1) ∧ 36 + 1 = 37 := ⟨by decide +kernel, rfl⟩
theorem d_X12_comesAbout_37 : decode mX12_comesAbout.1 37 = .ok (.aload_n 0, 1) ∧ 37 + 1 = 38 := ⟨by decide +kernel, rfl⟩
theorem d_X12_comesAbout_38 : decode mX12_comesAbout.1 38 = .ok (.iload_n 1, 1) ∧ 38 + 1 = 39 := ⟨by decide +kernel, rfl⟩
theorem d_X12_comesAbout_39 : decode mX12_comesAbout.1 39 = .ok (.invokevirtual 468, 3) ∧ 39 + 3 = 42 := ⟨by decide +kernel, rfl⟩
theorem d_X12_comesAbout_42 : decode mX12_comesAbout.1 42 = .ok (.invokevirtual 474, 3) ∧ 42 + 3 = 45 := ⟨by decide +kernel, rfl⟩
theorem d_X12_comesAbout_45 : decode mX12_comesAbout.1 45 = .ok (.iastore, 1) ∧ 45 + 1 = 46 := ⟨by decide +kernel, rfl⟩
theorem d_X12_comesAbout_46 : decode mX12_comesAbout.1 46 = .ok (.iinc 1 1, 3) ∧ 46 + 3 = 49 := ⟨by decide +kernel, rfl⟩
theorem d_X12_comesAbout_49 : decode mX12_comesAbout.1 49 = .ok (.goto (-47), 3) ∧ ((49 : Nat) : Int) + (-47) = ((2 : Nat) : Int) := ⟨by decide +kernel, rfl⟩
set_option maxRecDepth 100000 in
set_option maxHeartbeats 4000000 in
theorem g_X12_comesAbout_L2 (l : Launch) (G : xa_C) (c0 : Int) (K : (Int × xa_H) ⊕ (xa_H) → Option xa_O) (hb : ∀ (v1 : Int) (h : xa_H), xa_G l G 6 mX12_comesAbout (some (Sum.inl ((v1, h)))) K 2 [some (xR c0), some (xI v1), none, none, none] [] h) (hx : ∀ (h : xa_H), xa_G l G 6 mX12_comesAbout (some (Sum.inr h)) K 52 [some (xR c0), none, none, none, none] [] h) : ∀ (v1 : Int) (h : xa_H), xa_G l G 6 mX12_comesAbout (f_X12_comesAbout_L2 c0 v1 h) K 2 [some (xR c0), some (xI v1), none, none, none] [] h := by
  intro v1 h
  unfold f_X12_comesAbout_L2
  refine xa_step (xa_iload_n d_X12_comesAbout_2 rfl) ?_
  refine xa_step (xa_aload_n d_X12_comesAbout_3 rfl) ?_
  refine xa_getf xI xc_12 (by decide) (fun _ => rfl) xw_1360 rfl d_X12_comesAbout_4 (fun x1 _ => ?_)
  refine xa_if (xa_icmpge d_X12_comesAbout_7) (fun q2 => ?_) (fun q2 => ?_)
  · refine xa_step (xa_aload_n d_X12_comesAbout_10 rfl) ?_
    refine xa_getf xR xc_12 (by decide) (fun _ => rfl) xw_1362 rfl d_X12_comesAbout_11 (fun x3 _ => ?_)
    refine xa_step (xa_iload_n d_X12_comesAbout_14 rfl) ?_
    refine xa_step (xa_aload_n d_X12_comesAbout_15 rfl) ?_
    refine xa_step (xa_aload_n d_X12_comesAbout_16 rfl) ?_
    refine xa_step (xa_iload_n d_X12_comesAbout_17 rfl) ?_
    refine xa_callVi (as := [xI v1]) (st := [xR c0, xI v1, xR x3]) (M' := mX12_giverOf) (d' := 2) rfl xw_1932 xw_1934 xw_124 xw_1935 xw_177 xh_X12_giverOf rfl ⟨Nat.le_of_ble_eq_true rfl, Nat.le_of_ble_eq_true rfl⟩ (Nat.le_of_ble_eq_true rfl) rfl d_X12_comesAbout_18 (fun r hr => ct_X12_giverOf l G c0 v1 h r hr) (fun r4 _ => ?_)
    refine xa_callVi (as := [xI r4]) (st := [xI v1, xR x3]) (M' := mX12_hadBy) (d' := 2) rfl xw_1844 xw_1846 xw_110 xw_1847 xw_177 xh_X12_hadBy rfl ⟨Nat.le_of_ble_eq_true rfl, Nat.le_of_ble_eq_true rfl⟩ (Nat.le_of_ble_eq_true rfl) rfl d_X12_comesAbout_21 (fun r hr => ct_X12_hadBy l G c0 r4 h r hr) (fun r5 _ => ?_)
    refine xa_iastore2 d_X12_comesAbout_24 (fun h6 _ => ?_)
    refine xa_step (xa_aload_n d_X12_comesAbout_25 rfl) ?_
    refine xa_getf xR xc_12 (by decide) (fun _ => rfl) xw_1363 rfl d_X12_comesAbout_26 (fun x7 _ => ?_)
    refine xa_step (xa_iload_n d_X12_comesAbout_29 rfl) ?_
    refine xa_step (xa_aload_n d_X12_comesAbout_30 rfl) ?_
    refine xa_step (xa_aload_n d_X12_comesAbout_31 rfl) ?_
    refine xa_getf xR xc_12 (by decide) (fun _ => rfl) xw_1359 rfl d_X12_comesAbout_32 (fun x8 _ => ?_)
    refine xa_step (xa_iload_n d_X12_comesAbout_35 rfl) ?_
    refine xa_iaload d_X12_comesAbout_36 (fun x9 _ => ?_)
    refine xa_step (xa_aload_n d_X12_comesAbout_37 rfl) ?_
    refine xa_step (xa_iload_n d_X12_comesAbout_38 rfl) ?_
    refine xa_callVi (as := [xI v1]) (st := [xI x9, xR c0, xI v1, xR x7]) (M' := mX12_giverOf) (d' := 2) rfl xw_1932 xw_1934 xw_124 xw_1935 xw_177 xh_X12_giverOf rfl ⟨Nat.le_of_ble_eq_true rfl, Nat.le_of_ble_eq_true rfl⟩ (Nat.le_of_ble_eq_true rfl) rfl d_X12_comesAbout_39 (fun r hr => ct_X12_giverOf l G c0 v1 h6 r hr) (fun r10 _ => ?_)
    refine xa_callVI (as := [xI x9, xI r10]) (st := [xI v1, xR x7]) (M' := mX12_paysOf) (d' := 5) rfl xw_1968 xw_1970 xw_131 xw_1971 xw_177 xh_X12_paysOf rfl ⟨Nat.le_of_ble_eq_true rfl, Nat.le_of_ble_eq_true rfl⟩ (Nat.le_of_ble_eq_true rfl) rfl d_X12_comesAbout_42 (fun r hr => ct_X12_paysOf l G c0 x9 r10 h6 r hr) (fun r11 _ => ?_)
    refine xa_iastore2 d_X12_comesAbout_45 (fun h12 _ => ?_)
    refine xa_step (xa_iinc (ls' := [some (xR c0), some (xI (w32 (v1 + 1))), none, none, none]) d_X12_comesAbout_46 xq_i_1 rfl (by decide) rfl) ?_
    refine xa_step (xa_goto d_X12_comesAbout_49) ?_
    exact xa_weak (ls' := [some (xR c0), some (xI (w32 (v1 + 1))), none, none, none]) ⟨rfl, rfl, trivial⟩ (hb (w32 (v1 + 1)) h12)
  · exact xa_weak (ls' := [some (xR c0), none, none, none, none]) ⟨rfl, trivial⟩ (hx h)
theorem d_X12_comesAbout_52 : decode mX12_comesAbout.1 52 = .ok (.iconst 0, 1) ∧ 52 + 1 = 53 := ⟨by decide +kernel, rfl⟩
theorem d_X12_comesAbout_53 : decode mX12_comesAbout.1 53 = .ok (.istore_n 1, 1) ∧ 53 + 1 = 54 := ⟨by decide +kernel, rfl⟩
theorem d_X12_comesAbout_54 : decode mX12_comesAbout.1 54 = .ok (.iload_n 1, 1) ∧ 54 + 1 = 55 := ⟨by decide +kernel, rfl⟩
theorem d_X12_comesAbout_55 : decode mX12_comesAbout.1 55 = .ok (.aload_n 0, 1) ∧ 55 + 1 = 56 := ⟨by decide +kernel, rfl⟩
theorem d_X12_comesAbout_56 : decode mX12_comesAbout.1 56 = .ok (.getfield 451, 3) ∧ 56 + 3 = 59 := ⟨by decide +kernel, rfl⟩
theorem d_X12_comesAbout_59 : decode mX12_comesAbout.1 59 = .ok (.if_icmp .ge 119, 3) ∧ 59 + 3 = 62 ∧ ((59 : Nat) : Int) + 119 = ((178 : Nat) : Int) := ⟨by decide +kernel, rfl, rfl⟩
theorem d_X12_comesAbout_62 : decode mX12_comesAbout.1 62 = .ok (.iconst 1, 1) ∧ 62 + 1 = 63 := ⟨by decide +kernel, rfl⟩
theorem d_X12_comesAbout_63 : decode mX12_comesAbout.1 63 = .ok (.bipush 9, 2) ∧ 63 + 2 = 65 := ⟨by decide +kernel, rfl⟩
theorem d_X12_comesAbout_65 : decode mX12_comesAbout.1 65 = .ok (.aload_n 0, 1) ∧ 65 + 1 = 66 := ⟨by decide +kernel, rfl⟩
theorem d_X12_comesAbout_66 : decode mX12_comesAbout.1 66 = .ok (.getfield 133, 3) ∧ 66 + 3 = 69 := ⟨by decide +kernel, rfl⟩
theorem d_X12_comesAbout_69 : decode mX12_comesAbout.1 69 = .ok (.iload_n 1, 1) ∧ 69 + 1 = 70 := ⟨by decide +kernel, rfl⟩
theorem d_X12_comesAbout_70 : decode mX12_comesAbout.1 70 = .ok (.iaload, 1) ∧ 70 + 1 = 71 := ⟨by decide +kernel, rfl⟩
theorem d_X12_comesAbout_71 : decode mX12_comesAbout.1 71 = .ok (.imul, 1) ∧ 71 + 1 = 72 := ⟨by decide +kernel, rfl⟩
theorem d_X12_comesAbout_72 : decode mX12_comesAbout.1 72 = .ok (.iadd, 1) ∧ 72 + 1 = 73 := ⟨by decide +kernel, rfl⟩
theorem d_X12_comesAbout_73 : decode mX12_comesAbout.1 73 = .ok (.istore_n 2, 1) ∧ 73 + 1 = 74 := ⟨by decide +kernel, rfl⟩
theorem d_X12_comesAbout_74 : decode mX12_comesAbout.1 74 = .ok (.aload_n 0, 1) ∧ 74 + 1 = 75 := ⟨by decide +kernel, rfl⟩
theorem d_X12_comesAbout_75 : decode mX12_comesAbout.1 75 = .ok (.getfield 130, 3) ∧ 75 + 3 = 78 := ⟨by decide +kernel, rfl⟩
theorem d_X12_comesAbout_78 : decode mX12_comesAbout.1 78 = .ok (.iload_n 2, 1) ∧ 78 + 1 = 79 := ⟨by decide +kernel, rfl⟩
theorem d_X12_comesAbout_79 : decode mX12_comesAbout.1 79 = .ok (.aload_n 0, 1) ∧ 79 + 1 = 80 := ⟨by decide +kernel, rfl⟩
theorem d_X12_comesAbout_80 : decode mX12_comesAbout.1 80 = .ok (.getfield 136, 3) ∧ 80 + 3 = 83 := ⟨by decide +kernel, rfl⟩
theorem d_X12_comesAbout_83 : decode mX12_comesAbout.1 83 = .ok (.iload_n 1, 1) ∧ 83 + 1 = 84 := ⟨by decide +kernel, rfl⟩
theorem d_X12_comesAbout_84 : decode mX12_comesAbout.1 84 = .ok (.iaload, 1) ∧ 84 + 1 = 85 := ⟨by decide +kernel, rfl⟩
theorem d_X12_comesAbout_85 : decode mX12_comesAbout.1 85 = .ok (.iastore, 1) ∧ 85 + 1 = 86 := ⟨by decide +kernel, rfl⟩
theorem d_X12_comesAbout_86 : decode mX12_comesAbout.1 86 = .ok (.aload_n 0, 1) ∧ 86 + 1 = 87 := ⟨by decide +kernel, rfl⟩
theorem d_X12_comesAbout_87 : decode mX12_comesAbout.1 87 = .ok (.getfield 130, 3) ∧ 87 + 3 = 90 := ⟨by decide +kernel, rfl⟩
theorem d_X12_comesAbout_90 : decode mX12_comesAbout.1 90 = .ok (.iload_n 2, 1) ∧ 90 + 1 = 91 := ⟨by decide +kernel, rfl⟩
theorem d_X12_comesAbout_91 : decode mX12_comesAbout.1 91 = .ok (.iconst 2, 1) ∧ 91 + 1 = 92 := ⟨by decide +kernel, rfl⟩
theorem d_X12_comesAbout_92 : decode mX12_comesAbout.1 92 = .ok (.iadd, 1) ∧ 92 + 1 = 93 := ⟨by decide +kernel, rfl⟩
theorem d_X12_comesAbout_93 : decode mX12_comesAbout.1 93 = .ok (.iaload, 1) ∧ 93 + 1 = 94 := ⟨by decide +kernel, rfl⟩
theorem d_X12_comesAbout_94 : decode mX12_comesAbout.1 94 = .ok (.aload_n 0, 1) ∧ 94 + 1 = 95 := ⟨by decide +kernel, rfl⟩
theorem d_X12_comesAbout_95 : decode mX12_comesAbout.1 95 = .ok (.getfield 139, 3) ∧ 95 + 3 = 98 := ⟨by decide +kernel, rfl⟩
theorem d_X12_comesAbout_98 : decode mX12_comesAbout.1 98 = .ok (.iload_n 1, 1) ∧ 98 + 1 = 99 := ⟨by decide +kernel, rfl⟩
theorem d_X12_comesAbout_99 : decode mX12_comesAbout.1 99 = .ok (.iaload, 1) ∧ 99 + 1 = 100 := ⟨by decide +kernel, rfl⟩
theorem d_X12_comesAbout_100 : decode mX12_comesAbout.1 100 = .ok (.isub, 1) ∧ 100 + 1 = 101 := ⟨by decide +kernel, rfl⟩
theorem d_X12_comesAbout_101 : decode mX12_comesAbout.1 101 = .ok (.aload_n 0, 1) ∧ 101 + 1 = 102 := ⟨by decide +kernel, rfl⟩
theorem d_X12_comesAbout_102 : decode mX12_comesAbout.1 102 = .ok (.getfield 139, 3) ∧ 102 + 3 = 105 := ⟨by decide +kernel, rfl⟩
theorem d_X12_comesAbout_105 : decode mX12_comesAbout.1 105 = .ok (.iload_n 1, 1) ∧ 105 + 1 = 106 := ⟨by decide +kernel, rfl⟩
theorem d_X12_comesAbout_106 : decode mX12_comesAbout.1 106 = .ok (.iconst 1, 1) ∧ 106 + 1 = 107 := ⟨by decide +kernel, rfl⟩
theorem d_X12_comesAbout_107 : decode mX12_comesAbout.1 107 = .ok (.iadd, 1) ∧ 107 + 1 = 108 := ⟨by decide +kernel, rfl⟩
theorem d_X12_comesAbout_108 : decode mX12_comesAbout.1 108 = .ok (.aload_n 0, 1) ∧ 108 + 1 = 109 := ⟨by decide +kernel, rfl⟩
theorem d_X12_comesAbout_109 : decode mX12_comesAbout.1 109 = .ok (.getfield 451, 3) ∧ 109 + 3 = 112 := ⟨by decide +kernel, rfl⟩
theorem d_X12_comesAbout_112 : decode mX12_comesAbout.1 112 = .ok (.irem, 1) ∧ 112 + 1 = 113 := ⟨by decide +kernel, rfl⟩
theorem d_X12_comesAbout_113 : decode mX12_comesAbout.1 113 = .ok (.iaload, 1) ∧ 113 + 1 = 114 := ⟨by decide +kernel, rfl⟩
theorem d_X12_comesAbout_114 : decode mX12_comesAbout.1 114 = .ok (.iadd, 1) ∧ 114 + 1 = 115 := ⟨by decide +kernel, rfl⟩
theorem d_X12_comesAbout_115 : decode mX12_comesAbout.1 115 = .ok (.istore_n 3, 1) ∧ 115 + 1 = 116 := ⟨by decide +kernel, rfl⟩
theorem d_X12_comesAbout_116 : decode mX12_comesAbout.1 116 = .ok (.aload_n 0, 1) ∧ 116 + 1 = 117 := ⟨by decide +kernel, rfl⟩
theorem d_X12_comesAbout_117 : decode mX12_comesAbout.1 117 = .ok (.getfield 130, 3) ∧ 117 + 3 = 120 := ⟨by decide +kernel, rfl⟩
theorem d_X12_comesAbout_120 : decode mX12_comesAbout.1 120 = .ok (.iload_n 2, 1) ∧ 120 + 1 = 121 := ⟨by decide +kernel, rfl⟩
theorem d_X12_comesAbout_121 : decode mX12_comesAbout.1 121 = .ok (.iconst 2, 1) ∧ 121 + 1 = 122 := ⟨by decide +kernel, rfl⟩
theorem d_X12_comesAbout_122 : decode mX12_comesAbout.1 122 = .ok (.iadd, 1) ∧ 122 + 1 = 123 := ⟨by decide +kernel, rfl⟩
theorem d_X12_comesAbout_123 : decode mX12_comesAbout.1 123 = .ok (.iload_n 3, 1) ∧ 123 + 1 = 124 := ⟨by decide +kernel, rfl⟩
theorem d_X12_comesAbout_124 : decode mX12_comesAbout.1 124 = .ok (.sipush 9999, 3) ∧ 124 + 3 = 127 := ⟨by decide +kernel, rfl⟩
theorem d_X12_comesAbout_127 : decode mX12_comesAbout.1 127 = .ok (.if_icmp .le 9, 3) ∧ 127 + 3 = 130 ∧ ((127 : Nat) : Int) + 9 = ((136 : Nat) : Int) := ⟨by decide +kernel, rfl, rfl⟩
theorem d_X12_comesAbout_130 : decode mX12_comesAbout.1 130 = .ok (.sipush 9999, 3) ∧ 130 + 3 = 133 := ⟨by decide +kernel, rfl⟩
theorem d_X12_comesAbout_133 : decode mX12_comesAbout.1 133 = .ok (.goto 4, 3) ∧ ((133 : Nat) : Int) + 4 = ((137 : Nat) : Int) := ⟨by decide +kernel, rfl⟩
theorem d_X12_comesAbout_137 : decode mX12_comesAbout.1 137 = .ok (.iastore, 1) ∧ 137 + 1 = 138 := ⟨by decide +kernel, rfl⟩
theorem d_X12_comesAbout_138 : decode mX12_comesAbout.1 138 = .ok (.iload_n 2, 1) ∧ 138 + 1 = 139 := ⟨by decide +kernel, rfl⟩
theorem d_X12_comesAbout_139 : decode mX12_comesAbout.1 139 = .ok (.iconst 3, 1) ∧ 139 + 1 = 140 := ⟨by decide +kernel, rfl⟩
theorem d_X12_comesAbout_140 : decode mX12_comesAbout.1 140 = .ok (.iadd, 1) ∧ 140 + 1 = 141 := ⟨by decide +kernel, rfl⟩
theorem d_X12_comesAbout_141 : decode mX12_comesAbout.1 141 = .ok (.aload_n 0, 1) ∧ 141 + 1 = 142 := ⟨by decide +kernel, rfl⟩
theorem d_X12_comesAbout_142 : decode mX12_comesAbout.1 142 = .ok (.iload_n 1, 1) ∧ 142 + 1 = 143 := ⟨by decide +kernel, rfl⟩
theorem d_X12_comesAbout_143 : decode mX12_comesAbout.1 143 = .ok (.invokevirtual 468, 3) ∧ 143 + 3 = 146 := ⟨by decide +kernel, rfl⟩
theorem d_X12_comesAbout_146 : decode mX12_comesAbout.1 146 = .ok (.iadd, 1) ∧ 146 + 1 = 147 := ⟨by decide +kernel, rfl⟩
theorem d_X12_comesAbout_147 : decode mX12_comesAbout.1 147 = .ok (.istore 4, 2) ∧ 147 + 2 = 149 := ⟨by decide +kernel, rfl⟩
theorem d_X12_comesAbout_149 : decode mX12_comesAbout.1 149 = .ok (.aload_n 0, 1) ∧ 149 + 1 = 150 := ⟨by decide +kernel, rfl⟩
theorem d_X12_comesAbout_150 : decode mX12_comesAbout.1 150 = .ok (.getfield 130, 3) ∧ 150 + 3 = 153 := ⟨by decide +kernel, rfl⟩
theorem d_X12_comesAbout_153 : decode mX12_comesAbout.1 153 = .ok (.iload 4, 2) ∧ 153 + 2 = 155 := ⟨by decide +kernel, rfl⟩
theorem d_X12_comesAbout_155 : decode mX12_comesAbout.1 155 = .ok (.iaload, 1) ∧ 155 + 1 = 156 := ⟨by decide +kernel, rfl⟩
theorem d_X12_comesAbout_156 : decode mX12_comesAbout.1 156 = .ok (.bipush 99, 2) ∧ 156 + 2 = 158 := ⟨by decide +kernel, rfl⟩
theorem d_X12_comesAbout_158 : decode mX12_comesAbout.1 158 = .ok (.if_icmp .ge 14, 3) ∧ 158 + 3 = 161 ∧ ((158 : Nat) : Int) + 14 = ((172 : Nat) : Int) := ⟨by decide +kernel, rfl, rfl⟩
theorem d_X12_comesAbout_161 : decode mX12_comesAbout.1 161 = .ok (.aload_n 0, 1) ∧ 161 + 1 = 162 := ⟨by decide +kernel, rfl⟩
theorem d_X12_comesAbout_162 : decode mX12_comesAbout.1 162 = .ok (.getfield 130, 3) ∧ 162 + 3 = 165 := ⟨by decide +kernel, rfl⟩
theorem d_X12_comesAbout_165 : decode mX12_comesAbout.1 165 = .ok (.iload 4, 2) ∧ 165 + 2 = 167 := ⟨by decide +kernel, rfl⟩
theorem d_X12_comesAbout_167 : decode mX12_comesAbout.1 167 = .ok (.dup2, 1) ∧ 167 + 1 = 168 := ⟨by decide +kernel, rfl⟩
theorem d_X12_comesAbout_168 : decode mX12_comesAbout.1 168 = .ok (.iaload, 1) ∧ 168 + 1 = 169 := ⟨by decide +kernel, rfl⟩
theorem d_X12_comesAbout_169 : decode mX12_comesAbout.1 169 = .ok (.iconst 1, 1) ∧ 169 + 1 = 170 := ⟨by decide +kernel, rfl⟩
theorem d_X12_comesAbout_170 : decode mX12_comesAbout.1 170 = .ok (.iadd, 1) ∧ 170 + 1 = 171 := ⟨by decide +kernel, rfl⟩
theorem d_X12_comesAbout_171 : decode mX12_comesAbout.1 171 = .ok (.iastore, 1) ∧ 171 + 1 = 172 := ⟨by decide +kernel, rfl⟩
theorem d_X12_comesAbout_172 : decode mX12_comesAbout.1 172 = .ok (.iinc 1 1, 3) ∧ 172 + 3 = 175 := ⟨by decide +kernel, rfl⟩
theorem d_X12_comesAbout_175 : decode mX12_comesAbout.1 175 = .ok (.goto (-121), 3) ∧ ((175 : Nat) : Int) + (-121) = ((54 : Nat) : Int) := ⟨by decide +kernel, rfl⟩
set_option maxRecDepth 100000 in
set_option maxHeartbeats 4000000 in
theorem g_X12_comesAbout_J137L54 (l : Launch) (G : xa_C) (c0 : Int) (K : (Int × xa_H) ⊕ (xa_H) → Option xa_O) (hb : ∀ (v1 : Int) (h : xa_H), xa_G l G 6 mX12_comesAbout (some (Sum.inl ((v1, h)))) K 54 [some (xR c0), some (xI v1), none, none, none] [] h) (hx : ∀ (h : xa_H), xa_G l G 6 mX12_comesAbout (some (Sum.inr h)) K 178 [none, none, none, none, none] [] h) : ∀ (v1 v2 s0 s1 s2 : Int) (h : xa_H) , xa_G l G 6 mX12_comesAbout (f_X12_comesAbout_J137L54 c0 v1 v2 s0 s1 s2 h) K 137 [some (xR c0), some (xI v1), some (xI v2), none, none] [xI s2, xI s1, xR s0] h := by
  intro v1 v2 s0 s1 s2 h
  unfold f_X12_comesAbout_J137L54
  refine xa_iastore2 d_X12_comesAbout_137 (fun h32 _ => ?_)
  refine xa_step (xa_iload_n d_X12_comesAbout_138 rfl) ?_
  refine xa_step (xa_iconst d_X12_comesAbout_139 xq_i_3) ?_
  refine xa_step (xa_iadd d_X12_comesAbout_140) ?_
  refine xa_step (xa_aload_n d_X12_comesAbout_141 rfl) ?_
  refine xa_step (xa_iload_n d_X12_comesAbout_142 rfl) ?_
  refine xa_callVi (as := [xI v1]) (st := [xI (w32 (v2 + 3))]) (M' := mX12_giverOf) (d' := 2) rfl xw_1932 xw_1934 xw_124 xw_1935 xw_177 xh_X12_giverOf rfl ⟨Nat.le_of_ble_eq_true rfl, Nat.le_of_ble_eq_true rfl⟩ (Nat.le_of_ble_eq_true rfl) rfl d_X12_comesAbout_143 (fun r hr => ct_X12_giverOf l G c0 v1 h32 r hr) (fun r33 _ => ?_)
  refine xa_step (xa_iadd d_X12_comesAbout_146) ?_
  refine xa_step (xa_istore (ls' := [some (xR c0), some (xI v1), some (xI v2), none, some (xI (w32 ((w32 (v2 + 3)) + r33)))]) d_X12_comesAbout_147 (by decide) rfl) ?_
  refine xa_step (xa_aload_n d_X12_comesAbout_149 rfl) ?_
  refine xa_getf xR xc_12 (by decide) (fun _ => rfl) xw_1354 rfl d_X12_comesAbout_150 (fun x34 _ => ?_)
  refine xa_step (xa_iload d_X12_comesAbout_153 rfl) ?_
  refine xa_iaload d_X12_comesAbout_155 (fun x35 _ => ?_)
  refine xa_step (xa_bipush d_X12_comesAbout_156 xq_b_99) ?_
  refine xa_if (xa_icmpge d_X12_comesAbout_158) (fun q36 => ?_) (fun q36 => ?_)
  · refine xa_step (xa_aload_n d_X12_comesAbout_161 rfl) ?_
    refine xa_getf xR xc_12 (by decide) (fun _ => rfl) xw_1354 rfl d_X12_comesAbout_162 (fun x37 _ => ?_)
    refine xa_step (xa_iload d_X12_comesAbout_165 rfl) ?_
    refine xa_step (xa_dup2 d_X12_comesAbout_167 (xa_tI _) (xa_tR _)) ?_
    refine xa_iaload d_X12_comesAbout_168 (fun x38 _ => ?_)
    refine xa_step (xa_iconst d_X12_comesAbout_169 xq_i_1) ?_
    refine xa_step (xa_iadd d_X12_comesAbout_170) ?_
    refine xa_iastore2 d_X12_comesAbout_171 (fun h39 _ => ?_)
    refine xa_step (xa_iinc (ls' := [some (xR c0), some (xI (w32 (v1 + 1))), some (xI v2), none, some (xI (w32 ((w32 (v2 + 3)) + r33)))]) d_X12_comesAbout_172 xq_i_1 rfl (by decide) rfl) ?_
    refine xa_step (xa_goto d_X12_comesAbout_175) ?_
    exact xa_weak (ls' := [some (xR c0), some (xI (w32 (v1 + 1))), none, none, none]) ⟨rfl, rfl, trivial⟩ (hb (w32 (v1 + 1)) h39)
  · refine xa_step (xa_iinc (ls' := [some (xR c0), some (xI (w32 (v1 + 1))), some (xI v2), none, some (xI (w32 ((w32 (v2 + 3)) + r33)))]) d_X12_comesAbout_172 xq_i_1 rfl (by decide) rfl) ?_
    refine xa_step (xa_goto d_X12_comesAbout_175) ?_
    exact xa_weak (ls' := [some (xR c0), some (xI (w32 (v1 + 1))), none, none, none]) ⟨rfl, rfl, trivial⟩ (hb (w32 (v1 + 1)) h32)
theorem d_X12_comesAbout_136 : decode mX12_comesAbout.1 136 = .ok (.iload_n 3, 1) ∧ 136 + 1 = 137 := ⟨by decide +kernel, rfl⟩
set_option maxRecDepth 100000 in
set_option maxHeartbeats 4000000 in
theorem g_X12_comesAbout_L54 (l : Launch) (G : xa_C) (c0 : Int) (K : (Int × xa_H) ⊕ (xa_H) → Option xa_O) (hb : ∀ (v1 : Int) (h : xa_H), xa_G l G 6 mX12_comesAbout (some (Sum.inl ((v1, h)))) K 54 [some (xR c0), some (xI v1), none, none, none] [] h) (hx : ∀ (h : xa_H), xa_G l G 6 mX12_comesAbout (some (Sum.inr h)) K 178 [none, none, none, none, none] [] h) : ∀ (v1 : Int) (h : xa_H), xa_G l G 6 mX12_comesAbout (f_X12_comesAbout_L54 c0 v1 h) K 54 [some (xR c0), some (xI v1), none, none, none] [] h := by
  intro v1 h
  unfold f_X12_comesAbout_L54
  refine xa_step (xa_iload_n d_X12_comesAbout_54 rfl) ?_
  refine xa_step (xa_aload_n d_X12_comesAbout_55 rfl) ?_
  refine xa_getf xI xc_12 (by decide) (fun _ => rfl) xw_1360 rfl d_X12_comesAbout_56 (fun x14 _ => ?_)
  refine xa_if (xa_icmpge d_X12_comesAbout_59) (fun q15 => ?_) (fun q15 => ?_)
  · refine xa_step (xa_iconst d_X12_comesAbout_62 xq_i_1) ?_
    refine xa_step (xa_bipush d_X12_comesAbout_63 xq_b_9) ?_
    refine xa_step (xa_aload_n d_X12_comesAbout_65 rfl) ?_
    refine xa_getf xR xc_12 (by decide) (fun _ => rfl) xw_1359 rfl d_X12_comesAbout_66 (fun x16 _ => ?_)
    refine xa_step (xa_iload_n d_X12_comesAbout_69 rfl) ?_
    refine xa_iaload d_X12_comesAbout_70 (fun x17 _ => ?_)
    refine xa_step (xa_imul d_X12_comesAbout_71) ?_
    refine xa_step (xa_iadd d_X12_comesAbout_72) ?_
    refine xa_step (xa_istore_n (ls' := [some (xR c0), some (xI v1), some (xI (w32 (1 + (w32 (9 * x17))))), none, none]) d_X12_comesAbout_73 (by decide) rfl) ?_
    refine xa_step (xa_aload_n d_X12_comesAbout_74 rfl) ?_
    refine xa_getf xR xc_12 (by decide) (fun _ => rfl) xw_1354 rfl d_X12_comesAbout_75 (fun x18 _ => ?_)
    refine xa_step (xa_iload_n d_X12_comesAbout_78 rfl) ?_
    refine xa_step (xa_aload_n d_X12_comesAbout_79 rfl) ?_
    refine xa_getf xR xc_12 (by decide) (fun _ => rfl) xw_1362 rfl d_X12_comesAbout_80 (fun x19 _ => ?_)
    refine xa_step (xa_iload_n d_X12_comesAbout_83 rfl) ?_
    refine xa_iaload d_X12_comesAbout_84 (fun x20 _ => ?_)
    refine xa_iastore2 d_X12_comesAbout_85 (fun h21 _ => ?_)
    refine xa_step (xa_aload_n d_X12_comesAbout_86 rfl) ?_
    refine xa_getf xR xc_12 (by decide) (fun _ => rfl) xw_1354 rfl d_X12_comesAbout_87 (fun x22 _ => ?_)
    refine xa_step (xa_iload_n d_X12_comesAbout_90 rfl) ?_
    refine xa_step (xa_iconst d_X12_comesAbout_91 xq_i_2) ?_
    refine xa_step (xa_iadd d_X12_comesAbout_92) ?_
    refine xa_iaload d_X12_comesAbout_93 (fun x23 _ => ?_)
    refine xa_step (xa_aload_n d_X12_comesAbout_94 rfl) ?_
    refine xa_getf xR xc_12 (by decide) (fun _ => rfl) xw_1363 rfl d_X12_comesAbout_95 (fun x24 _ => ?_)
    refine xa_step (xa_iload_n d_X12_comesAbout_98 rfl) ?_
    refine xa_iaload d_X12_comesAbout_99 (fun x25 _ => ?_)
    refine xa_step (xa_isub d_X12_comesAbout_100) ?_
    refine xa_step (xa_aload_n d_X12_comesAbout_101 rfl) ?_
    refine xa_getf xR xc_12 (by decide) (fun _ => rfl) xw_1363 rfl d_X12_comesAbout_102 (fun x26 _ => ?_)
    refine xa_step (xa_iload_n d_X12_comesAbout_105 rfl) ?_
    refine xa_step (xa_iconst d_X12_comesAbout_106 xq_i_1) ?_
    refine xa_step (xa_iadd d_X12_comesAbout_107) ?_
    refine xa_step (xa_aload_n d_X12_comesAbout_108 rfl) ?_
    refine xa_getf xI xc_12 (by decide) (fun _ => rfl) xw_1360 rfl d_X12_comesAbout_109 (fun x27 _ => ?_)
    refine xa_nz (fun q28 => ?_)
    refine xa_step (xa_irem d_X12_comesAbout_112 q28) ?_
    refine xa_iaload d_X12_comesAbout_113 (fun x29 _ => ?_)
    refine xa_step (xa_iadd d_X12_comesAbout_114) ?_
    refine xa_step (xa_istore_n (ls' := [some (xR c0), some (xI v1), some (xI (w32 (1 + (w32 (9 * x17))))), some (xI (w32 ((w32 (x23 - x25)) + x29))), none]) d_X12_comesAbout_115 (by decide) rfl) ?_
    refine xa_step (xa_aload_n d_X12_comesAbout_116 rfl) ?_
    refine xa_getf xR xc_12 (by decide) (fun _ => rfl) xw_1354 rfl d_X12_comesAbout_117 (fun x30 _ => ?_)
    refine xa_step (xa_iload_n d_X12_comesAbout_120 rfl) ?_
    refine xa_step (xa_iconst d_X12_comesAbout_121 xq_i_2) ?_
    refine xa_step (xa_iadd d_X12_comesAbout_122) ?_
    refine xa_step (xa_iload_n d_X12_comesAbout_123 rfl) ?_
    refine xa_step (xa_sipush d_X12_comesAbout_124 xq_s_9999) ?_
    refine xa_if (xa_icmple d_X12_comesAbout_127) (fun q31 => ?_) (fun q31 => ?_)
    · refine xa_step (xa_sipush d_X12_comesAbout_130 xq_s_9999) ?_
      refine xa_step (xa_goto d_X12_comesAbout_133) ?_
      exact xa_weak (ls' := [some (xR c0), some (xI v1), some (xI (w32 (1 + (w32 (9 * x17))))), none, none]) ⟨rfl, rfl, rfl, trivial⟩ (g_X12_comesAbout_J137L54 l G c0 K hb hx v1 (w32 (1 + (w32 (9 * x17)))) x30 (w32 ((w32 (1 + (w32 (9 * x17)))) + 2)) 9999 h21)
    · refine xa_step (xa_iload_n d_X12_comesAbout_136 rfl) ?_
      exact xa_weak (ls' := [some (xR c0), some (xI v1), some (xI (w32 (1 + (w32 (9 * x17))))), none, none]) ⟨rfl, rfl, rfl, trivial⟩ (g_X12_comesAbout_J137L54 l G c0 K hb hx v1 (w32 (1 + (w32 (9 * x17)))) x30 (w32 ((w32 (1 + (w32 (9 * x17)))) + 2)) (w32 ((w32 (x23 - x25)) + x29)) h21)
  · exact xa_weak (ls' := [none, none, none, none, none]) trivial (hx h)
theorem d_X12_comesAbout_178 : decode mX12_comesAbout.1 178 = .ok (.return_, 1) := by decide +kernel
set_option maxRecDepth 100000 in
set_option maxHeartbeats 4000000 in
theorem g_X12_comesAbout (l : Launch) (G : xa_C) (v0 : Int) (h : xa_H) : xa_G l G 6 mX12_comesAbout (f_X12_comesAbout v0 h) (fun r => some (none, r) : xa_H → Option xa_O) 0 [some (xR v0), none, none, none, none] [] h := by
  unfold f_X12_comesAbout
  refine xa_step (xa_iconst d_X12_comesAbout_0 xq_i_0) ?_
  refine xa_step (xa_istore_n (ls' := [some (xR v0), some (xI 0), none, none, none]) d_X12_comesAbout_1 (by decide) rfl) ?_
  refine xa_weak (ls' := [some (xR v0), some (xI 0), none, none, none]) ⟨rfl, rfl, trivial⟩ ?_
  refine xa_loop (f := fun s => f_X12_comesAbout_L2 v0 s.1 s.2) (L := fun s => [some (xR v0), some (xI s.1), none, none, none]) (P := fun s => s.2) (X := (fun x K => xa_G l G 6 mX12_comesAbout (some (Sum.inr x)) K 52 [some (xR v0), none, none, none, none] [] x)) (fun K hb hX s => g_X12_comesAbout_L2 l G v0 K (fun w0 hh => hb ((w0, hh))) (fun hh => hX hh) s.1 s.2) ?_ xFU ((0, h))
  intro e13 K hK
  refine xa_eqE hK ?_
  show xa_G l G 6 mX12_comesAbout _ _ 52 [some (xR v0), none, none, none, none] [] e13
  refine xa_step (xa_iconst d_X12_comesAbout_52 xq_i_0) ?_
  refine xa_step (xa_istore_n (ls' := [some (xR v0), some (xI 0), none, none, none]) d_X12_comesAbout_53 (by decide) rfl) ?_
  refine xa_weak (ls' := [some (xR v0), some (xI 0), none, none, none]) ⟨rfl, rfl, trivial⟩ ?_
  refine xa_loop (f := fun s => f_X12_comesAbout_L54 v0 s.1 s.2) (L := fun s => [some (xR v0), some (xI s.1), none, none, none]) (P := fun s => s.2) (X := (fun x K => xa_G l G 6 mX12_comesAbout (some (Sum.inr x)) K 178 [none, none, none, none, none] [] x)) (fun K hb hX s => g_X12_comesAbout_L54 l G v0 K (fun w0 hh => hb ((w0, hh))) (fun hh => hX hh) s.1 s.2) ?_ xFU ((0, e13))
  intro e40 K hK
  refine xa_eqE hK ?_
  show xa_G l G 6 mX12_comesAbout _ _ 178 [none, none, none, none, none] [] e40
  exact xa_vret d_X12_comesAbout_178 rfl rfl
theorem ct_X12_comesAbout (l : Launch) (G : xa_C) (v0 : Int) (h : xa_H) (r : xa_H) (hr : f_X12_comesAbout v0 h = some r) : xa_CT l G 6 mX12_comesAbout yX12_comesAbout [xR v0] h (none, r) :=
  xa_met (by decide +kernel) rfl (fun q => by first | rfl | cases q) (Nat.le_of_ble_eq_true rfl) rfl (g_X12_comesAbout l G v0 h) (by rw [hr]; rfl)
abbrev mX12_drawOf : xa_M := (cX12_drawOf, 2, (some (.int)), RX12, false)
theorem d_X12_drawOf_0 : decode mX12_drawOf.1 0 = .ok (.aload_n 0, 1) ∧ 0 + 1 = 1 := ⟨by decide +kernel, rfl⟩
theorem d_X12_drawOf_1 : decode mX12_drawOf.1 1 = .ok (.ldc2_w 580, 3) ∧ 1 + 3 = 4 := ⟨by decide +kernel, rfl⟩
theorem d_X12_drawOf_4 : decode mX12_drawOf.1 4 = .ok (.aload_n 0, 1) ∧ 4 + 1 = 5 := ⟨by decide +kernel, rfl⟩
theorem d_X12_drawOf_5 : decode mX12_drawOf.1 5 = .ok (.getfield 170, 3) ∧ 5 + 3 = 8 := ⟨by decide +kernel, rfl⟩
theorem d_X12_drawOf_8 : decode mX12_drawOf.1 8 = .ok (.lmul, 1) ∧ 8 + 1 = 9 := ⟨by decide +kernel, rfl⟩
theorem d_X12_drawOf_9 : decode mX12_drawOf.1 9 = .ok (.ldc2_w 582, 3) ∧ 9 + 3 = 12 := ⟨by decide +kernel, rfl⟩
theorem d_X12_drawOf_12 : decode mX12_drawOf.1 12 = .ok (.ladd, 1) ∧ 12 + 1 = 13 := ⟨by decide +kernel, rfl⟩
theorem d_X12_drawOf_13 : decode mX12_drawOf.1 13 = .ok (.ldc2_w 584, 3) ∧ 13 + 3 = 16 := ⟨by decide +kernel, rfl⟩
theorem d_X12_drawOf_16 : decode mX12_drawOf.1 16 = .ok (.lrem, 1) ∧ 16 + 1 = 17 := ⟨by decide +kernel, rfl⟩
theorem d_X12_drawOf_17 : decode mX12_drawOf.1 17 = .ok (.putfield 170, 3) ∧ 17 + 3 = 20 := ⟨by decide +kernel, rfl⟩
theorem d_X12_drawOf_20 : decode mX12_drawOf.1 20 = .ok (.aload_n 0, 1) ∧ 20 + 1 = 21 := ⟨by decide +kernel, rfl⟩
theorem d_X12_drawOf_21 : decode mX12_drawOf.1 21 = .ok (.getfield 170, 3) ∧ 21 + 3 = 24 := ⟨by decide +kernel, rfl⟩
theorem d_X12_drawOf_24 : decode mX12_drawOf.1 24 = .ok (.ldc2_w 586, 3) ∧ 24 + 3 = 27 := ⟨by decide +kernel, rfl⟩
theorem d_X12_drawOf_27 : decode mX12_drawOf.1 27 = .ok (.ldiv, 1) ∧ 27 + 1 = 28 := ⟨by decide +kernel, rfl⟩
theorem d_X12_drawOf_28 : decode mX12_drawOf.1 28 = .ok (.iload_n 1, 1) ∧ 28 + 1 = 29 := ⟨by decide +kernel, rfl⟩
theorem d_X12_drawOf_29 : decode mX12_drawOf.1 29 = .ok (.i2l, 1) ∧ 29 + 1 = 30 := ⟨by decide +kernel, rfl⟩
theorem d_X12_drawOf_30 : decode mX12_drawOf.1 30 = .ok (.lrem, 1) ∧ 30 + 1 = 31 := ⟨by decide +kernel, rfl⟩
theorem d_X12_drawOf_31 : decode mX12_drawOf.1 31 = .ok (.l2i, 1) ∧ 31 + 1 = 32 := ⟨by decide +kernel, rfl⟩
theorem d_X12_drawOf_32 : decode mX12_drawOf.1 32 = .ok (.ireturn, 1) := by decide +kernel
set_option maxRecDepth 100000 in
set_option maxHeartbeats 4000000 in
theorem g_X12_drawOf (l : Launch) (G : xa_C) (v0 v1 : Int) (h : xa_H) : xa_G l G 2 mX12_drawOf (f_X12_drawOf v0 v1 h) (fun r => some (some (xI r.1), r.2) : (Int × xa_H) → Option xa_O) 0 [some (xR v0), some (xI v1)] [] h := by
  unfold f_X12_drawOf
  refine xa_step (xa_aload_n d_X12_drawOf_0 rfl) ?_
  refine xa_step (xa_ldc2 (c64 := 1103515245) (v := 1103515245) (by decide +kernel) xw_2121 d_X12_drawOf_1) ?_
  refine xa_step (xa_aload_n d_X12_drawOf_4 rfl) ?_
  refine xa_getf xL xc_12 (by decide) (fun _ => rfl) xw_1380 rfl d_X12_drawOf_5 (fun x1 _ => ?_)
  refine xa_step (xa_lmul d_X12_drawOf_8) ?_
  refine xa_step (xa_ldc2 (c64 := 12345) (v := 12345) (by decide +kernel) xw_2122 d_X12_drawOf_9) ?_
  refine xa_step (xa_ladd d_X12_drawOf_12) ?_
  refine xa_step (xa_ldc2 (c64 := 2147483648) (v := 2147483648) (by decide +kernel) xw_2123 d_X12_drawOf_13) ?_
  refine xa_step (xa_lrem d_X12_drawOf_16 (by decide)) ?_
  refine xa_putf2 (tg := xL) xc_12 (by decide) (fun _ => rfl) rfl (fun c hc => xa_fitL c hc) xw_1380 rfl d_X12_drawOf_17 (fun h2 _ => ?_)
  refine xa_step (xa_aload_n d_X12_drawOf_20 rfl) ?_
  refine xa_getf xL xc_12 (by decide) (fun _ => rfl) xw_1380 rfl d_X12_drawOf_21 (fun x3 _ => ?_)
  refine xa_step (xa_ldc2 (c64 := 64) (v := 64) (by decide +kernel) xw_2124 d_X12_drawOf_24) ?_
  refine xa_step (xa_ldiv d_X12_drawOf_27 (by decide)) ?_
  refine xa_step (xa_iload_n d_X12_drawOf_28 rfl) ?_
  refine xa_step (xa_i2l d_X12_drawOf_29) ?_
  refine xa_nz (fun q4 => ?_)
  refine xa_step (xa_lrem d_X12_drawOf_30 q4) ?_
  refine xa_step (xa_l2i d_X12_drawOf_31) ?_
  exact xa_iret d_X12_drawOf_32 rfl rfl
theorem ct_X12_drawOf (l : Launch) (G : xa_C) (v0 v1 : Int) (h : xa_H) (r : Int × xa_H) (hr : f_X12_drawOf v0 v1 h = some r) : xa_CT l G 2 mX12_drawOf yX12_drawOf [xR v0, xI v1] h (some (xI r.1), r.2) :=
  xa_met (by decide +kernel) rfl (fun q => by first | rfl | cases q) (Nat.le_of_ble_eq_true rfl) rfl (g_X12_drawOf l G v0 v1 h) (by rw [hr]; rfl)
abbrev mX12_isKept : xa_M := (cX12_isKept, 3, none, RX12, false)
theorem d_X12_isKept_0 : decode mX12_isKept.1 0 = .ok (.aload_n 0, 1) ∧ 0 + 1 = 1 := ⟨by decide +kernel, rfl⟩
theorem d_X12_isKept_1 : decode mX12_isKept.1 1 = .ok (.getfield 130, 3) ∧ 1 + 3 = 4 := ⟨by decide +kernel, rfl⟩
theorem d_X12_isKept_4 : decode mX12_isKept.1 4 = .ok (.bipush 55, 2) ∧ 4 + 2 = 6 := ⟨by decide +kernel, rfl⟩
theorem d_X12_isKept_6 : decode mX12_isKept.1 6 = .ok (.iaload, 1) ∧ 6 + 1 = 7 := ⟨by decide +kernel, rfl⟩
theorem d_X12_isKept_7 : decode mX12_isKept.1 7 = .ok (.bipush 30, 2) ∧ 7 + 2 = 9 := ⟨by decide +kernel, rfl⟩
theorem d_X12_isKept_9 : decode mX12_isKept.1 9 = .ok (.if_icmp .ne 36, 3) ∧ 9 + 3 = 12 ∧ ((9 : Nat) : Int) + 36 = ((45 : Nat) : Int) := ⟨by decide +kernel, rfl, rfl⟩
theorem d_X12_isKept_12 : decode mX12_isKept.1 12 = .ok (.bipush 56, 2) ∧ 12 + 2 = 14 := ⟨by decide +kernel, rfl⟩
theorem d_X12_isKept_14 : decode mX12_isKept.1 14 = .ok (.istore_n 2, 1) ∧ 14 + 1 = 15 := ⟨by decide +kernel, rfl⟩
theorem d_X12_isKept_15 : decode mX12_isKept.1 15 = .ok (.iload_n 2, 1) ∧ 15 + 1 = 16 := ⟨by decide +kernel, rfl⟩
theorem d_X12_isKept_16 : decode mX12_isKept.1 16 = .ok (.sipush 172, 3) ∧ 16 + 3 = 19 := ⟨by decide +kernel, rfl⟩
theorem d_X12_isKept_19 : decode mX12_isKept.1 19 = .ok (.if_icmp .ge 23, 3) ∧ 19 + 3 = 22 ∧ ((19 : Nat) : Int) + 23 = ((42 : Nat) : Int) := ⟨by decide +kernel, rfl, rfl⟩
theorem d_X12_isKept_22 : decode mX12_isKept.1 22 = .ok (.aload_n 0, 1) ∧ 22 + 1 = 23 := ⟨by decide +kernel, rfl⟩
theorem d_X12_isKept_23 : decode mX12_isKept.1 23 = .ok (.getfield 130, 3) ∧ 23 + 3 = 26 := ⟨by decide +kernel, rfl⟩
theorem d_X12_isKept_26 : decode mX12_isKept.1 26 = .ok (.iload_n 2, 1) ∧ 26 + 1 = 27 := ⟨by decide +kernel, rfl⟩
theorem d_X12_isKept_27 : decode mX12_isKept.1 27 = .ok (.aload_n 0, 1) ∧ 27 + 1 = 28 := ⟨by decide +kernel, rfl⟩
theorem d_X12_isKept_28 : decode mX12_isKept.1 28 = .ok (.getfield 130, 3) ∧ 28 + 3 = 31 := ⟨by decide +kernel, rfl⟩
theorem d_X12_isKept_31 : decode mX12_isKept.1 31 = .ok (.iload_n 2, 1) ∧ 31 + 1 = 32 := ⟨by decide +kernel, rfl⟩
theorem d_X12_isKept_32 : decode mX12_isKept.1 32 = .ok (.iconst 4, 1) ∧ 32 + 1 = 33 := ⟨by decide +kernel, rfl⟩
theorem d_X12_isKept_33 : decode mX12_isKept.1 33 = .ok (.iadd, 1) ∧ 33 + 1 = 34 := ⟨by decide +kernel, rfl⟩
theorem d_X12_isKept_34 : decode mX12_isKept.1 34 = .ok (.iaload, 1) ∧ 34 + 1 = 35 := ⟨by decide +kernel, rfl⟩
theorem d_X12_isKept_35 : decode mX12_isKept.1 35 = .ok (.iastore, 1) ∧ 35 + 1 = 36 := ⟨by decide +kernel, rfl⟩
theorem d_X12_isKept_36 : decode mX12_isKept.1 36 = .ok (.iinc 2 1, 3) ∧ 36 + 3 = 39 := ⟨by decide +kernel, rfl⟩
theorem d_X12_isKept_39 : decode mX12_isKept.1 39 = .ok (.goto (-24), 3) ∧ ((39 : Nat) : Int) + (-24) = ((15 : Nat) : Int) := ⟨by decide +kernel, rfl⟩
set_option maxRecDepth 100000 in
set_option maxHeartbeats 4000000 in
theorem g_X12_isKept_L15 (l : Launch) (G : xa_C) (c0 c1 : Int) (K : (Int × xa_H) ⊕ (xa_H) → Option xa_O) (hb : ∀ (v2 : Int) (h : xa_H), xa_G l G 2 mX12_isKept (some (Sum.inl ((v2, h)))) K 15 [some (xR c0), some (xI c1), some (xI v2)] [] h) (hx : ∀ (h : xa_H), xa_G l G 2 mX12_isKept (some (Sum.inr h)) K 42 [some (xR c0), some (xI c1), none] [] h) : ∀ (v2 : Int) (h : xa_H), xa_G l G 2 mX12_isKept (f_X12_isKept_L15 c0 c1 v2 h) K 15 [some (xR c0), some (xI c1), some (xI v2)] [] h := by
  intro v2 h
  unfold f_X12_isKept_L15
  refine xa_step (xa_iload_n d_X12_isKept_15 rfl) ?_
  refine xa_step (xa_sipush d_X12_isKept_16 xq_s_172) ?_
  refine xa_if (xa_icmpge d_X12_isKept_19) (fun q4 => ?_) (fun q4 => ?_)
  · refine xa_step (xa_aload_n d_X12_isKept_22 rfl) ?_
    refine xa_getf xR xc_12 (by decide) (fun _ => rfl) xw_1354 rfl d_X12_isKept_23 (fun x5 _ => ?_)
    refine xa_step (xa_iload_n d_X12_isKept_26 rfl) ?_
    refine xa_step (xa_aload_n d_X12_isKept_27 rfl) ?_
    refine xa_getf xR xc_12 (by decide) (fun _ => rfl) xw_1354 rfl d_X12_isKept_28 (fun x6 _ => ?_)
    refine xa_step (xa_iload_n d_X12_isKept_31 rfl) ?_
    refine xa_step (xa_iconst d_X12_isKept_32 xq_i_4) ?_
    refine xa_step (xa_iadd d_X12_isKept_33) ?_
    refine xa_iaload d_X12_isKept_34 (fun x7 _ => ?_)
    refine xa_iastore2 d_X12_isKept_35 (fun h8 _ => ?_)
    refine xa_step (xa_iinc (ls' := [some (xR c0), some (xI c1), some (xI (w32 (v2 + 1)))]) d_X12_isKept_36 xq_i_1 rfl (by decide) rfl) ?_
    refine xa_step (xa_goto d_X12_isKept_39) ?_
    exact xa_weak (ls' := [some (xR c0), some (xI c1), some (xI (w32 (v2 + 1)))]) ⟨rfl, rfl, rfl, trivial⟩ (hb (w32 (v2 + 1)) h8)
  · exact xa_weak (ls' := [some (xR c0), some (xI c1), none]) ⟨rfl, rfl, trivial⟩ (hx h)
theorem d_X12_isKept_42 : decode mX12_isKept.1 42 = .ok (.goto 14, 3) ∧ ((42 : Nat) : Int) + 14 = ((56 : Nat) : Int) := ⟨by decide +kernel, rfl⟩
theorem d_X12_isKept_56 : decode mX12_isKept.1 56 = .ok (.bipush 56, 2) ∧ 56 + 2 = 58 := ⟨by decide +kernel, rfl⟩
theorem d_X12_isKept_58 : decode mX12_isKept.1 58 = .ok (.iconst 4, 1) ∧ 58 + 1 = 59 := ⟨by decide +kernel, rfl⟩
theorem d_X12_isKept_59 : decode mX12_isKept.1 59 = .ok (.aload_n 0, 1) ∧ 59 + 1 = 60 := ⟨by decide +kernel, rfl⟩
theorem d_X12_isKept_60 : decode mX12_isKept.1 60 = .ok (.getfield 130, 3) ∧ 60 + 3 = 63 := ⟨by decide +kernel, rfl⟩
theorem d_X12_isKept_63 : decode mX12_isKept.1 63 = .ok (.bipush 55, 2) ∧ 63 + 2 = 65 := ⟨by decide +kernel, rfl⟩
theorem d_X12_isKept_65 : decode mX12_isKept.1 65 = .ok (.iaload, 1) ∧ 65 + 1 = 66 := ⟨by decide +kernel, rfl⟩
theorem d_X12_isKept_66 : decode mX12_isKept.1 66 = .ok (.imul, 1) ∧ 66 + 1 = 67 := ⟨by decide +kernel, rfl⟩
theorem d_X12_isKept_67 : decode mX12_isKept.1 67 = .ok (.iadd, 1) ∧ 67 + 1 = 68 := ⟨by decide +kernel, rfl⟩
theorem d_X12_isKept_68 : decode mX12_isKept.1 68 = .ok (.iconst 4, 1) ∧ 68 + 1 = 69 := ⟨by decide +kernel, rfl⟩
theorem d_X12_isKept_69 : decode mX12_isKept.1 69 = .ok (.isub, 1) ∧ 69 + 1 = 70 := ⟨by decide +kernel, rfl⟩
theorem d_X12_isKept_70 : decode mX12_isKept.1 70 = .ok (.istore_n 2, 1) ∧ 70 + 1 = 71 := ⟨by decide +kernel, rfl⟩
theorem d_X12_isKept_71 : decode mX12_isKept.1 71 = .ok (.aload_n 0, 1) ∧ 71 + 1 = 72 := ⟨by decide +kernel, rfl⟩
theorem d_X12_isKept_72 : decode mX12_isKept.1 72 = .ok (.getfield 130, 3) ∧ 72 + 3 = 75 := ⟨by decide +kernel, rfl⟩
theorem d_X12_isKept_75 : decode mX12_isKept.1 75 = .ok (.iload_n 2, 1) ∧ 75 + 1 = 76 := ⟨by decide +kernel, rfl⟩
theorem d_X12_isKept_76 : decode mX12_isKept.1 76 = .ok (.aload_n 0, 1) ∧ 76 + 1 = 77 := ⟨by decide +kernel, rfl⟩
theorem d_X12_isKept_77 : decode mX12_isKept.1 77 = .ok (.getfield 130, 3) ∧ 77 + 3 = 80 := ⟨by decide +kernel, rfl⟩
theorem d_X12_isKept_80 : decode mX12_isKept.1 80 = .ok (.iconst 0, 1) ∧ 80 + 1 = 81 := ⟨by decide +kernel, rfl⟩
theorem d_X12_isKept_81 : decode mX12_isKept.1 81 = .ok (.iaload, 1) ∧ 81 + 1 = 82 := ⟨by decide +kernel, rfl⟩
theorem d_X12_isKept_82 : decode mX12_isKept.1 82 = .ok (.iastore, 1) ∧ 82 + 1 = 83 := ⟨by decide +kernel, rfl⟩
theorem d_X12_isKept_83 : decode mX12_isKept.1 83 = .ok (.aload_n 0, 1) ∧ 83 + 1 = 84 := ⟨by decide +kernel, rfl⟩
theorem d_X12_isKept_84 : decode mX12_isKept.1 84 = .ok (.getfield 130, 3) ∧ 84 + 3 = 87 := ⟨by decide +kernel, rfl⟩
theorem d_X12_isKept_87 : decode mX12_isKept.1 87 = .ok (.iload_n 2, 1) ∧ 87 + 1 = 88 := ⟨by decide +kernel, rfl⟩
theorem d_X12_isKept_88 : decode mX12_isKept.1 88 = .ok (.iconst 1, 1) ∧ 88 + 1 = 89 := ⟨by decide +kernel, rfl⟩
theorem d_X12_isKept_89 : decode mX12_isKept.1 89 = .ok (.iadd, 1) ∧ 89 + 1 = 90 := ⟨by decide +kernel, rfl⟩
theorem d_X12_isKept_90 : decode mX12_isKept.1 90 = .ok (.iload_n 1, 1) ∧ 90 + 1 = 91 := ⟨by decide +kernel, rfl⟩
theorem d_X12_isKept_91 : decode mX12_isKept.1 91 = .ok (.iastore, 1) ∧ 91 + 1 = 92 := ⟨by decide +kernel, rfl⟩
theorem d_X12_isKept_92 : decode mX12_isKept.1 92 = .ok (.aload_n 0, 1) ∧ 92 + 1 = 93 := ⟨by decide +kernel, rfl⟩
theorem d_X12_isKept_93 : decode mX12_isKept.1 93 = .ok (.getfield 130, 3) ∧ 93 + 3 = 96 := ⟨by decide +kernel, rfl⟩
theorem d_X12_isKept_96 : decode mX12_isKept.1 96 = .ok (.iload_n 2, 1) ∧ 96 + 1 = 97 := ⟨by decide +kernel, rfl⟩
theorem d_X12_isKept_97 : decode mX12_isKept.1 97 = .ok (.iconst 2, 1) ∧ 97 + 1 = 98 := ⟨by decide +kernel, rfl⟩
theorem d_X12_isKept_98 : decode mX12_isKept.1 98 = .ok (.iadd, 1) ∧ 98 + 1 = 99 := ⟨by decide +kernel, rfl⟩
theorem d_X12_isKept_99 : decode mX12_isKept.1 99 = .ok (.aload_n 0, 1) ∧ 99 + 1 = 100 := ⟨by decide +kernel, rfl⟩
theorem d_X12_isKept_100 : decode mX12_isKept.1 100 = .ok (.getfield 451, 3) ∧ 100 + 3 = 103 := ⟨by decide +kernel, rfl⟩
theorem d_X12_isKept_103 : decode mX12_isKept.1 103 = .ok (.iastore, 1) ∧ 103 + 1 = 104 := ⟨by decide +kernel, rfl⟩
theorem d_X12_isKept_104 : decode mX12_isKept.1 104 = .ok (.aload_n 0, 1) ∧ 104 + 1 = 105 := ⟨by decide +kernel, rfl⟩
theorem d_X12_isKept_105 : decode mX12_isKept.1 105 = .ok (.getfield 130, 3) ∧ 105 + 3 = 108 := ⟨by decide +kernel, rfl⟩
theorem d_X12_isKept_108 : decode mX12_isKept.1 108 = .ok (.iload_n 2, 1) ∧ 108 + 1 = 109 := ⟨by decide +kernel, rfl⟩
theorem d_X12_isKept_109 : decode mX12_isKept.1 109 = .ok (.iconst 3, 1) ∧ 109 + 1 = 110 := ⟨by decide +kernel, rfl⟩
theorem d_X12_isKept_110 : decode mX12_isKept.1 110 = .ok (.iadd, 1) ∧ 110 + 1 = 111 := ⟨by decide +kernel, rfl⟩
theorem d_X12_isKept_111 : decode mX12_isKept.1 111 = .ok (.aload_n 0, 1) ∧ 111 + 1 = 112 := ⟨by decide +kernel, rfl⟩
theorem d_X12_isKept_112 : decode mX12_isKept.1 112 = .ok (.getfield 133, 3) ∧ 112 + 3 = 115 := ⟨by decide +kernel, rfl⟩
theorem d_X12_isKept_115 : decode mX12_isKept.1 115 = .ok (.iconst 0, 1) ∧ 115 + 1 = 116 := ⟨by decide +kernel, rfl⟩
theorem d_X12_isKept_116 : decode mX12_isKept.1 116 = .ok (.iaload, 1) ∧ 116 + 1 = 117 := ⟨by decide +kernel, rfl⟩
theorem d_X12_isKept_117 : decode mX12_isKept.1 117 = .ok (.iastore, 1) ∧ 117 + 1 = 118 := ⟨by decide +kernel, rfl⟩
theorem d_X12_isKept_118 : decode mX12_isKept.1 118 = .ok (.return_, 1) := by decide +kernel
set_option maxRecDepth 100000 in
set_option maxHeartbeats 4000000 in
theorem g_X12_isKept_J56 (l : Launch) (G : xa_C) : ∀ (v0 v1 : Int) (h : xa_H) , xa_G l G 2 mX12_isKept (f_X12_isKept_J56 v0 v1 h) (fun r => some (none, r) : xa_H → Option xa_O) 56 [some (xR v0), some (xI v1), none] [] h := by
  intro v0 v1 h
  unfold f_X12_isKept_J56
  refine xa_step (xa_bipush d_X12_isKept_56 xq_b_56) ?_
  refine xa_step (xa_iconst d_X12_isKept_58 xq_i_4) ?_
  refine xa_step (xa_aload_n d_X12_isKept_59 rfl) ?_
  refine xa_getf xR xc_12 (by decide) (fun _ => rfl) xw_1354 rfl d_X12_isKept_60 (fun x10 _ => ?_)
  refine xa_step (xa_bipush d_X12_isKept_63 xq_b_55) ?_
  refine xa_iaload d_X12_isKept_65 (fun x11 _ => ?_)
  refine xa_step (xa_imul d_X12_isKept_66) ?_
  refine xa_step (xa_iadd d_X12_isKept_67) ?_
  refine xa_step (xa_iconst d_X12_isKept_68 xq_i_4) ?_
  refine xa_step (xa_isub d_X12_isKept_69) ?_
  refine xa_step (xa_istore_n (ls' := [some (xR v0), some (xI v1), some (xI (w32 ((w32 (56 + (w32 (4 * x11)))) - 4)))]) d_X12_isKept_70 (by decide) rfl) ?_
  refine xa_step (xa_aload_n d_X12_isKept_71 rfl) ?_
  refine xa_getf xR xc_12 (by decide) (fun _ => rfl) xw_1354 rfl d_X12_isKept_72 (fun x12 _ => ?_)
  refine xa_step (xa_iload_n d_X12_isKept_75 rfl) ?_
  refine xa_step (xa_aload_n d_X12_isKept_76 rfl) ?_
  refine xa_getf xR xc_12 (by decide) (fun _ => rfl) xw_1354 rfl d_X12_isKept_77 (fun x13 _ => ?_)
  refine xa_step (xa_iconst d_X12_isKept_80 xq_i_0) ?_
  refine xa_iaload d_X12_isKept_81 (fun x14 _ => ?_)
  refine xa_iastore2 d_X12_isKept_82 (fun h15 _ => ?_)
  refine xa_step (xa_aload_n d_X12_isKept_83 rfl) ?_
  refine xa_getf xR xc_12 (by decide) (fun _ => rfl) xw_1354 rfl d_X12_isKept_84 (fun x16 _ => ?_)
  refine xa_step (xa_iload_n d_X12_isKept_87 rfl) ?_
  refine xa_step (xa_iconst d_X12_isKept_88 xq_i_1) ?_
  refine xa_step (xa_iadd d_X12_isKept_89) ?_
  refine xa_step (xa_iload_n d_X12_isKept_90 rfl) ?_
  refine xa_iastore2 d_X12_isKept_91 (fun h17 _ => ?_)
  refine xa_step (xa_aload_n d_X12_isKept_92 rfl) ?_
  refine xa_getf xR xc_12 (by decide) (fun _ => rfl) xw_1354 rfl d_X12_isKept_93 (fun x18 _ => ?_)
  refine xa_step (xa_iload_n d_X12_isKept_96 rfl) ?_
  refine xa_step (xa_iconst d_X12_isKept_97 xq_i_2) ?_
  refine xa_step (xa_iadd d_X12_isKept_98) ?_
  refine xa_step (xa_aload_n d_X12_isKept_99 rfl) ?_
  refine xa_getf xI xc_12 (by decide) (fun _ => rfl) xw_1360 rfl d_X12_isKept_100 (fun x19 _ => ?_)
  refine xa_iastore2 d_X12_isKept_103 (fun h20 _ => ?_)
  refine xa_step (xa_aload_n d_X12_isKept_104 rfl) ?_
  refine xa_getf xR xc_12 (by decide) (fun _ => rfl) xw_1354 rfl d_X12_isKept_105 (fun x21 _ => ?_)
  refine xa_step (xa_iload_n d_X12_isKept_108 rfl) ?_
  refine xa_step (xa_iconst d_X12_isKept_109 xq_i_3) ?_
  refine xa_step (xa_iadd d_X12_isKept_110) ?_
  refine xa_step (xa_aload_n d_X12_isKept_111 rfl) ?_
  refine xa_getf xR xc_12 (by decide) (fun _ => rfl) xw_1359 rfl d_X12_isKept_112 (fun x22 _ => ?_)
  refine xa_step (xa_iconst d_X12_isKept_115 xq_i_0) ?_
  refine xa_iaload d_X12_isKept_116 (fun x23 _ => ?_)
  refine xa_iastore2 d_X12_isKept_117 (fun h24 _ => ?_)
  exact xa_vret d_X12_isKept_118 rfl rfl
theorem d_X12_isKept_45 : decode mX12_isKept.1 45 = .ok (.aload_n 0, 1) ∧ 45 + 1 = 46 := ⟨by decide +kernel, rfl⟩
theorem d_X12_isKept_46 : decode mX12_isKept.1 46 = .ok (.getfield 130, 3) ∧ 46 + 3 = 49 := ⟨by decide +kernel, rfl⟩
theorem d_X12_isKept_49 : decode mX12_isKept.1 49 = .ok (.bipush 55, 2) ∧ 49 + 2 = 51 := ⟨by decide +kernel, rfl⟩
theorem d_X12_isKept_51 : decode mX12_isKept.1 51 = .ok (.dup2, 1) ∧ 51 + 1 = 52 := ⟨by decide +kernel, rfl⟩
theorem d_X12_isKept_52 : decode mX12_isKept.1 52 = .ok (.iaload, 1) ∧ 52 + 1 = 53 := ⟨by decide +kernel, rfl⟩
theorem d_X12_isKept_53 : decode mX12_isKept.1 53 = .ok (.iconst 1, 1) ∧ 53 + 1 = 54 := ⟨by decide +kernel, rfl⟩
theorem d_X12_isKept_54 : decode mX12_isKept.1 54 = .ok (.iadd, 1) ∧ 54 + 1 = 55 := ⟨by decide +kernel, rfl⟩
theorem d_X12_isKept_55 : decode mX12_isKept.1 55 = .ok (.iastore, 1) ∧ 55 + 1 = 56 := ⟨by decide +kernel, rfl⟩
set_option maxRecDepth 100000 in
set_option maxHeartbeats 4000000 in
theorem g_X12_isKept (l : Launch) (G : xa_C) (v0 v1 : Int) (h : xa_H) : xa_G l G 2 mX12_isKept (f_X12_isKept v0 v1 h) (fun r => some (none, r) : xa_H → Option xa_O) 0 [some (xR v0), some (xI v1), none] [] h := by
  unfold f_X12_isKept
  refine xa_step (xa_aload_n d_X12_isKept_0 rfl) ?_
  refine xa_getf xR xc_12 (by decide) (fun _ => rfl) xw_1354 rfl d_X12_isKept_1 (fun x1 _ => ?_)
  refine xa_step (xa_bipush d_X12_isKept_4 xq_b_55) ?_
  refine xa_iaload d_X12_isKept_6 (fun x2 _ => ?_)
  refine xa_step (xa_bipush d_X12_isKept_7 xq_b_30) ?_
  refine xa_if (xa_icmpne d_X12_isKept_9) (fun q3 => ?_) (fun q3 => ?_)
  · refine xa_step (xa_bipush d_X12_isKept_12 xq_b_56) ?_
    refine xa_step (xa_istore_n (ls' := [some (xR v0), some (xI v1), some (xI 56)]) d_X12_isKept_14 (by decide) rfl) ?_
    refine xa_weak (ls' := [some (xR v0), some (xI v1), some (xI 56)]) ⟨rfl, rfl, rfl, trivial⟩ ?_
    refine xa_loop (f := fun s => f_X12_isKept_L15 v0 v1 s.1 s.2) (L := fun s => [some (xR v0), some (xI v1), some (xI s.1)]) (P := fun s => s.2) (X := (fun x K => xa_G l G 2 mX12_isKept (some (Sum.inr x)) K 42 [some (xR v0), some (xI v1), none] [] x)) (fun K hb hX s => g_X12_isKept_L15 l G v0 v1 K (fun w0 hh => hb ((w0, hh))) (fun hh => hX hh) s.1 s.2) ?_ xFU ((56, h))
    intro e9 K hK
    refine xa_eqE hK ?_
    show xa_G l G 2 mX12_isKept _ _ 42 [some (xR v0), some (xI v1), none] [] e9
    refine xa_step (xa_goto d_X12_isKept_42) ?_
    exact xa_weak (ls' := [some (xR v0), some (xI v1), none]) ⟨rfl, rfl, trivial⟩ (g_X12_isKept_J56 l G v0 v1 e9)
  · refine xa_step (xa_aload_n d_X12_isKept_45 rfl) ?_
    refine xa_getf xR xc_12 (by decide) (fun _ => rfl) xw_1354 rfl d_X12_isKept_46 (fun x25 _ => ?_)
    refine xa_step (xa_bipush d_X12_isKept_49 xq_b_55) ?_
    refine xa_step (xa_dup2 d_X12_isKept_51 (xa_tI _) (xa_tR _)) ?_
    refine xa_iaload d_X12_isKept_52 (fun x26 _ => ?_)
    refine xa_step (xa_iconst d_X12_isKept_53 xq_i_1) ?_
    refine xa_step (xa_iadd d_X12_isKept_54) ?_
    refine xa_iastore2 d_X12_isKept_55 (fun h27 _ => ?_)
    exact xa_weak (ls' := [some (xR v0), some (xI v1), none]) ⟨rfl, rfl, trivial⟩ (g_X12_isKept_J56 l G v0 v1 h27)
theorem ct_X12_isKept (l : Launch) (G : xa_C) (v0 v1 : Int) (h : xa_H) (r : xa_H) (hr : f_X12_isKept v0 v1 h = some r) : xa_CT l G 2 mX12_isKept yX12_isKept [xR v0, xI v1] h (none, r) :=
  xa_met (by decide +kernel) rfl (fun q => by first | rfl | cases q) (Nat.le_of_ble_eq_true rfl) rfl (g_X12_isKept l G v0 v1 h) (by rw [hr]; rfl)
abbrev mX12_nightGoes : xa_M := (cX12_nightGoes, 3, (some (.boolean)), RX12, false)
theorem d_X12_nightGoes_0 : decode mX12_nightGoes.1 0 = .ok (.aload_n 0, 1) ∧ 0 + 1 = 1 := ⟨by decide +kernel, rfl⟩
theorem d_X12_nightGoes_1 : decode mX12_nightGoes.1 1 = .ok (.invokevirtual 402, 3) ∧ 1 + 3 = 4 := ⟨by decide +kernel, rfl⟩
theorem d_X12_nightGoes_4 : decode mX12_nightGoes.1 4 = .ok (.iconst 2, 1) ∧ 4 + 1 = 5 := ⟨by decide +kernel, rfl⟩
theorem d_X12_nightGoes_5 : decode mX12_nightGoes.1 5 = .ok (.if_icmp .ge 5, 3) ∧ 5 + 3 = 8 ∧ ((5 : Nat) : Int) + 5 = ((10 : Nat) : Int) := ⟨by decide +kernel, rfl, rfl⟩
theorem d_X12_nightGoes_8 : decode mX12_nightGoes.1 8 = .ok (.iconst 0, 1) ∧ 8 + 1 = 9 := ⟨by decide +kernel, rfl⟩
theorem d_X12_nightGoes_9 : decode mX12_nightGoes.1 9 = .ok (.ireturn, 1) := by decide +kernel
theorem d_X12_nightGoes_10 : decode mX12_nightGoes.1 10 = .ok (.aload_n 0, 1) ∧ 10 + 1 = 11 := ⟨by decide +kernel, rfl⟩
theorem d_X12_nightGoes_11 : decode mX12_nightGoes.1 11 = .ok (.iconst 2, 1) ∧ 11 + 1 = 12 := ⟨by decide +kernel, rfl⟩
theorem d_X12_nightGoes_12 : decode mX12_nightGoes.1 12 = .ok (.putfield 451, 3) ∧ 12 + 3 = 15 := ⟨by decide +kernel, rfl⟩
theorem d_X12_nightGoes_15 : decode mX12_nightGoes.1 15 = .ok (.aload_n 0, 1) ∧ 15 + 1 = 16 := ⟨by decide +kernel, rfl⟩
theorem d_X12_nightGoes_16 : decode mX12_nightGoes.1 16 = .ok (.getfield 133, 3) ∧ 16 + 3 = 19 := ⟨by decide +kernel, rfl⟩
theorem d_X12_nightGoes_19 : decode mX12_nightGoes.1 19 = .ok (.iconst 0, 1) ∧ 19 + 1 = 20 := ⟨by decide +kernel, rfl⟩
theorem d_X12_nightGoes_20 : decode mX12_nightGoes.1 20 = .ok (.aload_n 0, 1) ∧ 20 + 1 = 21 := ⟨by decide +kernel, rfl⟩
theorem d_X12_nightGoes_21 : decode mX12_nightGoes.1 21 = .ok (.aload_n 0, 1) ∧ 21 + 1 = 22 := ⟨by decide +kernel, rfl⟩
theorem d_X12_nightGoes_22 : decode mX12_nightGoes.1 22 = .ok (.invokevirtual 402, 3) ∧ 22 + 3 = 25 := ⟨by decide +kernel, rfl⟩
theorem d_X12_nightGoes_25 : decode mX12_nightGoes.1 25 = .ok (.invokevirtual 588, 3) ∧ 25 + 3 = 28 := ⟨by decide +kernel, rfl⟩
theorem d_X12_nightGoes_28 : decode mX12_nightGoes.1 28 = .ok (.iastore, 1) ∧ 28 + 1 = 29 := ⟨by decide +kernel, rfl⟩
theorem d_X12_nightGoes_29 : decode mX12_nightGoes.1 29 = .ok (.aload_n 0, 1) ∧ 29 + 1 = 30 := ⟨by decide +kernel, rfl⟩
theorem d_X12_nightGoes_30 : decode mX12_nightGoes.1 30 = .ok (.aload_n 0, 1) ∧ 30 + 1 = 31 := ⟨by decide +kernel, rfl⟩
theorem d_X12_nightGoes_31 : decode mX12_nightGoes.1 31 = .ok (.invokevirtual 402, 3) ∧ 31 + 3 = 34 := ⟨by decide +kernel, rfl⟩
theorem d_X12_nightGoes_34 : decode mX12_nightGoes.1 34 = .ok (.iconst 1, 1) ∧ 34 + 1 = 35 := ⟨by decide +kernel, rfl⟩
theorem d_X12_nightGoes_35 : decode mX12_nightGoes.1 35 = .ok (.isub, 1) ∧ 35 + 1 = 36 := ⟨by decide +kernel, rfl⟩
theorem d_X12_nightGoes_36 : decode mX12_nightGoes.1 36 = .ok (.invokevirtual 588, 3) ∧ 36 + 3 = 39 := ⟨by decide +kernel, rfl⟩
theorem d_X12_nightGoes_39 : decode mX12_nightGoes.1 39 = .ok (.istore_n 1, 1) ∧ 39 + 1 = 40 := ⟨by decide +kernel, rfl⟩
theorem d_X12_nightGoes_40 : decode mX12_nightGoes.1 40 = .ok (.aload_n 0, 1) ∧ 40 + 1 = 41 := ⟨by decide +kernel, rfl⟩
theorem d_X12_nightGoes_41 : decode mX12_nightGoes.1 41 = .ok (.getfield 133, 3) ∧ 41 + 3 = 44 := ⟨by decide +kernel, rfl⟩
theorem d_X12_nightGoes_44 : decode mX12_nightGoes.1 44 = .ok (.iconst 1, 1) ∧ 44 + 1 = 45 := ⟨by decide +kernel, rfl⟩
theorem d_X12_nightGoes_45 : decode mX12_nightGoes.1 45 = .ok (.iload_n 1, 1) ∧ 45 + 1 = 46 := ⟨by decide +kernel, rfl⟩
theorem d_X12_nightGoes_46 : decode mX12_nightGoes.1 46 = .ok (.aload_n 0, 1) ∧ 46 + 1 = 47 := ⟨by decide +kernel, rfl⟩
theorem d_X12_nightGoes_47 : decode mX12_nightGoes.1 47 = .ok (.getfield 133, 3) ∧ 47 + 3 = 50 := ⟨by decide +kernel, rfl⟩
theorem d_X12_nightGoes_50 : decode mX12_nightGoes.1 50 = .ok (.iconst 0, 1) ∧ 50 + 1 = 51 := ⟨by decide +kernel, rfl⟩
theorem d_X12_nightGoes_51 : decode mX12_nightGoes.1 51 = .ok (.iaload, 1) ∧ 51 + 1 = 52 := ⟨by decide +kernel, rfl⟩
theorem d_X12_nightGoes_52 : decode mX12_nightGoes.1 52 = .ok (.if_icmp .ge 7, 3) ∧ 52 + 3 = 55 ∧ ((52 : Nat) : Int) + 7 = ((59 : Nat) : Int) := ⟨by decide +kernel, rfl, rfl⟩
theorem d_X12_nightGoes_55 : decode mX12_nightGoes.1 55 = .ok (.iload_n 1, 1) ∧ 55 + 1 = 56 := ⟨by decide +kernel, rfl⟩
theorem d_X12_nightGoes_56 : decode mX12_nightGoes.1 56 = .ok (.goto 6, 3) ∧ ((56 : Nat) : Int) + 6 = ((62 : Nat) : Int) := ⟨by decide +kernel, rfl⟩
theorem d_X12_nightGoes_62 : decode mX12_nightGoes.1 62 = .ok (.iastore, 1) ∧ 62 + 1 = 63 := ⟨by decide +kernel, rfl⟩
theorem d_X12_nightGoes_63 : decode mX12_nightGoes.1 63 = .ok (.aload_n 0, 1) ∧ 63 + 1 = 64 := ⟨by decide +kernel, rfl⟩
theorem d_X12_nightGoes_64 : decode mX12_nightGoes.1 64 = .ok (.bipush 100, 2) ∧ 64 + 2 = 66 := ⟨by decide +kernel, rfl⟩
theorem d_X12_nightGoes_66 : decode mX12_nightGoes.1 66 = .ok (.invokevirtual 588, 3) ∧ 66 + 3 = 69 := ⟨by decide +kernel, rfl⟩
theorem d_X12_nightGoes_69 : decode mX12_nightGoes.1 69 = .ok (.aload_n 0, 1) ∧ 69 + 1 = 70 := ⟨by decide +kernel, rfl⟩
theorem d_X12_nightGoes_70 : decode mX12_nightGoes.1 70 = .ok (.getfield 118, 3) ∧ 70 + 3 = 73 := ⟨by decide +kernel, rfl⟩
theorem d_X12_nightGoes_73 : decode mX12_nightGoes.1 73 = .ok (.iconst 1, 1) ∧ 73 + 1 = 74 := ⟨by decide +kernel, rfl⟩
theorem d_X12_nightGoes_74 : decode mX12_nightGoes.1 74 = .ok (.iaload, 1) ∧ 74 + 1 = 75 := ⟨by decide +kernel, rfl⟩
theorem d_X12_nightGoes_75 : decode mX12_nightGoes.1 75 = .ok (.if_icmp .ge 7, 3) ∧ 75 + 3 = 78 ∧ ((75 : Nat) : Int) + 7 = ((82 : Nat) : Int) := ⟨by decide +kernel, rfl, rfl⟩
theorem d_X12_nightGoes_78 : decode mX12_nightGoes.1 78 = .ok (.iconst 4, 1) ∧ 78 + 1 = 79 := ⟨by decide +kernel, rfl⟩
theorem d_X12_nightGoes_79 : decode mX12_nightGoes.1 79 = .ok (.goto 7, 3) ∧ ((79 : Nat) : Int) + 7 = ((86 : Nat) : Int) := ⟨by decide +kernel, rfl⟩
theorem d_X12_nightGoes_86 : decode mX12_nightGoes.1 86 = .ok (.istore_n 2, 1) ∧ 86 + 1 = 87 := ⟨by decide +kernel, rfl⟩
theorem d_X12_nightGoes_87 : decode mX12_nightGoes.1 87 = .ok (.iload_n 2, 1) ∧ 87 + 1 = 88 := ⟨by decide +kernel, rfl⟩
theorem d_X12_nightGoes_88 : decode mX12_nightGoes.1 88 = .ok (.ifCond .ne 7, 3) ∧ 88 + 3 = 91 ∧ ((88 : Nat) : Int) + 7 = ((95 : Nat) : Int) := ⟨by decide +kernel, rfl, rfl⟩
theorem d_X12_nightGoes_91 : decode mX12_nightGoes.1 91 = .ok (.aload_n 0, 1) ∧ 91 + 1 = 92 := ⟨by decide +kernel, rfl⟩
theorem d_X12_nightGoes_92 : decode mX12_nightGoes.1 92 = .ok (.invokevirtual 574, 3) ∧ 92 + 3 = 95 := ⟨by decide +kernel, rfl⟩
theorem d_X12_nightGoes_95 : decode mX12_nightGoes.1 95 = .ok (.aload_n 0, 1) ∧ 95 + 1 = 96 := ⟨by decide +kernel, rfl⟩
theorem d_X12_nightGoes_96 : decode mX12_nightGoes.1 96 = .ok (.iload_n 2, 1) ∧ 96 + 1 = 97 := ⟨by decide +kernel, rfl⟩
theorem d_X12_nightGoes_97 : decode mX12_nightGoes.1 97 = .ok (.invokevirtual 577, 3) ∧ 97 + 3 = 100 := ⟨by decide +kernel, rfl⟩
theorem d_X12_nightGoes_100 : decode mX12_nightGoes.1 100 = .ok (.iload_n 2, 1) ∧ 100 + 1 = 101 := ⟨by decide +kernel, rfl⟩
theorem d_X12_nightGoes_101 : decode mX12_nightGoes.1 101 = .ok (.ifCond .ne 7, 3) ∧ 101 + 3 = 104 ∧ ((101 : Nat) : Int) + 7 = ((108 : Nat) : Int) := ⟨by decide +kernel, rfl, rfl⟩
theorem d_X12_nightGoes_104 : decode mX12_nightGoes.1 104 = .ok (.iconst 1, 1) ∧ 104 + 1 = 105 := ⟨by decide +kernel, rfl⟩
theorem d_X12_nightGoes_105 : decode mX12_nightGoes.1 105 = .ok (.goto 4, 3) ∧ ((105 : Nat) : Int) + 4 = ((109 : Nat) : Int) := ⟨by decide +kernel, rfl⟩
theorem d_X12_nightGoes_109 : decode mX12_nightGoes.1 109 = .ok (.ireturn, 1) := by decide +kernel
theorem d_X12_nightGoes_108 : decode mX12_nightGoes.1 108 = .ok (.iconst 0, 1) ∧ 108 + 1 = 109 := ⟨by decide +kernel, rfl⟩
set_option maxRecDepth 100000 in
set_option maxHeartbeats 4000000 in
theorem g_X12_nightGoes_J95 (l : Launch) (G : xa_C) : ∀ (v0 v2 : Int) (h : xa_H) , xa_G l G 7 mX12_nightGoes (f_X12_nightGoes_J95 v0 v2 h) (fun r => some (some (xI r.1), r.2) : (Int × xa_H) → Option xa_O) 95 [some (xR v0), none, some (xI v2)] [] h := by
  intro v0 v2 h
  unfold f_X12_nightGoes_J95
  refine xa_step (xa_aload_n d_X12_nightGoes_95 rfl) ?_
  refine xa_step (xa_iload_n d_X12_nightGoes_96 rfl) ?_
  refine xa_callVV (as := [xI v2]) (st := []) (M' := mX12_isKept) (d' := 2) rfl xw_2097 xw_2099 xw_149 xw_2100 xw_177 xh_X12_isKept rfl ⟨Nat.le_of_ble_eq_true rfl, Nat.le_of_ble_eq_true rfl⟩ (Nat.le_of_ble_eq_true rfl) rfl d_X12_nightGoes_97 (fun r hr => ct_X12_isKept l G v0 v2 h r hr) (fun r21 _ => ?_)
  refine xa_step (xa_iload_n d_X12_nightGoes_100 rfl) ?_
  refine xa_if (xa_ifne d_X12_nightGoes_101) (fun q22 => ?_) (fun q22 => ?_)
  · refine xa_step (xa_iconst d_X12_nightGoes_104 xq_i_1) ?_
    refine xa_step (xa_goto d_X12_nightGoes_105) ?_
    exact xa_zret d_X12_nightGoes_109 rfl (Or.inr rfl) rfl
  · refine xa_step (xa_iconst d_X12_nightGoes_108 xq_i_0) ?_
    exact xa_zret d_X12_nightGoes_109 rfl (Or.inl rfl) rfl
set_option maxRecDepth 100000 in
set_option maxHeartbeats 4000000 in
theorem g_X12_nightGoes_J86 (l : Launch) (G : xa_C) : ∀ (v0 s0 : Int) (h : xa_H) , xa_G l G 7 mX12_nightGoes (f_X12_nightGoes_J86 v0 s0 h) (fun r => some (some (xI r.1), r.2) : (Int × xa_H) → Option xa_O) 86 [some (xR v0), none, none] [xI s0] h := by
  intro v0 s0 h
  unfold f_X12_nightGoes_J86
  refine xa_step (xa_istore_n (ls' := [some (xR v0), none, some (xI s0)]) d_X12_nightGoes_86 (by decide) rfl) ?_
  refine xa_step (xa_iload_n d_X12_nightGoes_87 rfl) ?_
  refine xa_if (xa_ifne d_X12_nightGoes_88) (fun q19 => ?_) (fun q19 => ?_)
  · refine xa_step (xa_aload_n d_X12_nightGoes_91 rfl) ?_
    refine xa_callVV (as := []) (st := []) (M' := mX12_comesAbout) (d' := 6) rfl xw_2093 xw_2095 xw_148 xw_2096 xw_177 xh_X12_comesAbout rfl ⟨Nat.le_of_ble_eq_true rfl, Nat.le_of_ble_eq_true rfl⟩ (Nat.le_of_ble_eq_true rfl) rfl d_X12_nightGoes_92 (fun r hr => ct_X12_comesAbout l G v0 h r hr) (fun r20 _ => ?_)
    exact xa_weak (ls' := [some (xR v0), none, some (xI s0)]) ⟨rfl, rfl, trivial⟩ (g_X12_nightGoes_J95 l G v0 s0 r20)
  · exact xa_weak (ls' := [some (xR v0), none, some (xI s0)]) ⟨rfl, rfl, trivial⟩ (g_X12_nightGoes_J95 l G v0 s0 h)
theorem d_X12_nightGoes_82 : decode mX12_nightGoes.1 82 = .ok (.aload_n 0, 1) ∧ 82 + 1 = 83 := ⟨by decide +kernel, rfl⟩
theorem d_X12_nightGoes_83 : decode mX12_nightGoes.1 83 = .ok (.invokevirtual 505, 3) ∧ 83 + 3 = 86 := ⟨by decide +kernel, rfl⟩
set_option maxRecDepth 100000 in
set_option maxHeartbeats 4000000 in
theorem g_X12_nightGoes_J62 (l : Launch) (G : xa_C) : ∀ (v0 s0 s1 s2 : Int) (h : xa_H) , xa_G l G 7 mX12_nightGoes (f_X12_nightGoes_J62 v0 s0 s1 s2 h) (fun r => some (some (xI r.1), r.2) : (Int × xa_H) → Option xa_O) 62 [some (xR v0), none, none] [xI s2, xI s1, xR s0] h := by
  intro v0 s0 s1 s2 h
  unfold f_X12_nightGoes_J62
  refine xa_iastore2 d_X12_nightGoes_62 (fun h14 _ => ?_)
  refine xa_step (xa_aload_n d_X12_nightGoes_63 rfl) ?_
  refine xa_step (xa_bipush d_X12_nightGoes_64 xq_b_100) ?_
  refine xa_callVI (as := [xI 100]) (st := []) (M' := mX12_drawOf) (d' := 2) rfl xw_2117 xw_2119 xw_151 xw_2120 xw_177 xh_X12_drawOf rfl ⟨Nat.le_of_ble_eq_true rfl, Nat.le_of_ble_eq_true rfl⟩ (Nat.le_of_ble_eq_true rfl) rfl d_X12_nightGoes_66 (fun r hr => ct_X12_drawOf l G v0 100 h14 r hr) (fun r15 _ => ?_)
  refine xa_step (xa_aload_n d_X12_nightGoes_69 rfl) ?_
  refine xa_getf xR xc_12 (by decide) (fun _ => rfl) xw_1347 rfl d_X12_nightGoes_70 (fun x16 _ => ?_)
  refine xa_step (xa_iconst d_X12_nightGoes_73 xq_i_1) ?_
  refine xa_iaload d_X12_nightGoes_74 (fun x17 _ => ?_)
  refine xa_if (xa_icmpge d_X12_nightGoes_75) (fun q18 => ?_) (fun q18 => ?_)
  · refine xa_step (xa_iconst d_X12_nightGoes_78 xq_i_4) ?_
    refine xa_step (xa_goto d_X12_nightGoes_79) ?_
    exact xa_weak (ls' := [some (xR v0), none, none]) ⟨rfl, trivial⟩ (g_X12_nightGoes_J86 l G v0 4 r15.2)
  · refine xa_step (xa_aload_n d_X12_nightGoes_82 rfl) ?_
    refine xa_callVI (as := []) (st := []) (M' := mX12_whyNot) (d' := 6) rfl xw_1924 xw_1926 xw_122 xw_1927 xw_177 xh_X12_whyNot rfl ⟨Nat.le_of_ble_eq_true rfl, Nat.le_of_ble_eq_true rfl⟩ (Nat.le_of_ble_eq_true rfl) rfl d_X12_nightGoes_83 (fun r hr => ct_X12_whyNot l G v0 r15.2 r hr) (fun r23 _ => ?_)
    exact xa_weak (ls' := [some (xR v0), none, none]) ⟨rfl, trivial⟩ (g_X12_nightGoes_J86 l G v0 r23.1 r23.2)
theorem d_X12_nightGoes_59 : decode mX12_nightGoes.1 59 = .ok (.iload_n 1, 1) ∧ 59 + 1 = 60 := ⟨by decide +kernel, rfl⟩
theorem d_X12_nightGoes_60 : decode mX12_nightGoes.1 60 = .ok (.iconst 1, 1) ∧ 60 + 1 = 61 := ⟨by decide +kernel, rfl⟩
theorem d_X12_nightGoes_61 : decode mX12_nightGoes.1 61 = .ok (.iadd, 1) ∧ 61 + 1 = 62 := ⟨by decide +kernel, rfl⟩
set_option maxRecDepth 100000 in
set_option maxHeartbeats 4000000 in
theorem g_X12_nightGoes (l : Launch) (G : xa_C) (v0 : Int) (h : xa_H) : xa_G l G 7 mX12_nightGoes (f_X12_nightGoes v0 h) (fun r => some (some (xI r.1), r.2) : (Int × xa_H) → Option xa_O) 0 [some (xR v0), none, none] [] h := by
  unfold f_X12_nightGoes
  refine xa_step (xa_aload_n d_X12_nightGoes_0 rfl) ?_
  refine xa_callVi (as := []) (st := []) (M' := mX12_holderMany) (d' := 2) rfl xw_1836 xw_1838 xw_108 xw_1839 xw_177 xh_X12_holderMany rfl ⟨Nat.le_of_ble_eq_true rfl, Nat.le_of_ble_eq_true rfl⟩ (Nat.le_of_ble_eq_true rfl) rfl d_X12_nightGoes_1 (fun r hr => ct_X12_holderMany l G v0 h r hr) (fun r1 _ => ?_)
  refine xa_step (xa_iconst d_X12_nightGoes_4 xq_i_2) ?_
  refine xa_if (xa_icmpge d_X12_nightGoes_5) (fun q2 => ?_) (fun q2 => ?_)
  · refine xa_step (xa_iconst d_X12_nightGoes_8 xq_i_0) ?_
    exact xa_zret d_X12_nightGoes_9 rfl (Or.inl rfl) rfl
  · refine xa_step (xa_aload_n d_X12_nightGoes_10 rfl) ?_
    refine xa_step (xa_iconst d_X12_nightGoes_11 xq_i_2) ?_
    refine xa_putf2 (tg := xI) xc_12 (by decide) (fun _ => rfl) rfl (fun c hc => xa_fitI c hc) xw_1360 rfl d_X12_nightGoes_12 (fun h3 _ => ?_)
    refine xa_step (xa_aload_n d_X12_nightGoes_15 rfl) ?_
    refine xa_getf xR xc_12 (by decide) (fun _ => rfl) xw_1359 rfl d_X12_nightGoes_16 (fun x4 _ => ?_)
    refine xa_step (xa_iconst d_X12_nightGoes_19 xq_i_0) ?_
    refine xa_step (xa_aload_n d_X12_nightGoes_20 rfl) ?_
    refine xa_step (xa_aload_n d_X12_nightGoes_21 rfl) ?_
    refine xa_callVi (as := []) (st := [xR v0, xI 0, xR x4]) (M' := mX12_holderMany) (d' := 2) rfl xw_1836 xw_1838 xw_108 xw_1839 xw_177 xh_X12_holderMany rfl ⟨Nat.le_of_ble_eq_true rfl, Nat.le_of_ble_eq_true rfl⟩ (Nat.le_of_ble_eq_true rfl) rfl d_X12_nightGoes_22 (fun r hr => ct_X12_holderMany l G v0 h3 r hr) (fun r5 _ => ?_)
    refine xa_callVI (as := [xI r5]) (st := [xI 0, xR x4]) (M' := mX12_drawOf) (d' := 2) rfl xw_2117 xw_2119 xw_151 xw_2120 xw_177 xh_X12_drawOf rfl ⟨Nat.le_of_ble_eq_true rfl, Nat.le_of_ble_eq_true rfl⟩ (Nat.le_of_ble_eq_true rfl) rfl d_X12_nightGoes_25 (fun r hr => ct_X12_drawOf l G v0 r5 h3 r hr) (fun r6 _ => ?_)
    refine xa_iastore2 d_X12_nightGoes_28 (fun h7 _ => ?_)
    refine xa_step (xa_aload_n d_X12_nightGoes_29 rfl) ?_
    refine xa_step (xa_aload_n d_X12_nightGoes_30 rfl) ?_
    refine xa_callVi (as := []) (st := [xR v0]) (M' := mX12_holderMany) (d' := 2) rfl xw_1836 xw_1838 xw_108 xw_1839 xw_177 xh_X12_holderMany rfl ⟨Nat.le_of_ble_eq_true rfl, Nat.le_of_ble_eq_true rfl⟩ (Nat.le_of_ble_eq_true rfl) rfl d_X12_nightGoes_31 (fun r hr => ct_X12_holderMany l G v0 h7 r hr) (fun r8 _ => ?_)
    refine xa_step (xa_iconst d_X12_nightGoes_34 xq_i_1) ?_
    refine xa_step (xa_isub d_X12_nightGoes_35) ?_
    refine xa_callVI (as := [xI (w32 (r8 - 1))]) (st := []) (M' := mX12_drawOf) (d' := 2) rfl xw_2117 xw_2119 xw_151 xw_2120 xw_177 xh_X12_drawOf rfl ⟨Nat.le_of_ble_eq_true rfl, Nat.le_of_ble_eq_true rfl⟩ (Nat.le_of_ble_eq_true rfl) rfl d_X12_nightGoes_36 (fun r hr => ct_X12_drawOf l G v0 (w32 (r8 - 1)) h7 r hr) (fun r9 _ => ?_)
    refine xa_step (xa_istore_n (ls' := [some (xR v0), some (xI r9.1), none]) d_X12_nightGoes_39 (by decide) rfl) ?_
    refine xa_step (xa_aload_n d_X12_nightGoes_40 rfl) ?_
    refine xa_getf xR xc_12 (by decide) (fun _ => rfl) xw_1359 rfl d_X12_nightGoes_41 (fun x10 _ => ?_)
    refine xa_step (xa_iconst d_X12_nightGoes_44 xq_i_1) ?_
    refine xa_step (xa_iload_n d_X12_nightGoes_45 rfl) ?_
    refine xa_step (xa_aload_n d_X12_nightGoes_46 rfl) ?_
    refine xa_getf xR xc_12 (by decide) (fun _ => rfl) xw_1359 rfl d_X12_nightGoes_47 (fun x11 _ => ?_)
    refine xa_step (xa_iconst d_X12_nightGoes_50 xq_i_0) ?_
    refine xa_iaload d_X12_nightGoes_51 (fun x12 _ => ?_)
    refine xa_if (xa_icmpge d_X12_nightGoes_52) (fun q13 => ?_) (fun q13 => ?_)
    · refine xa_step (xa_iload_n d_X12_nightGoes_55 rfl) ?_
      refine xa_step (xa_goto d_X12_nightGoes_56) ?_
      exact xa_weak (ls' := [some (xR v0), none, none]) ⟨rfl, trivial⟩ (g_X12_nightGoes_J62 l G v0 x10 1 r9.1 r9.2)
    · refine xa_step (xa_iload_n d_X12_nightGoes_59 rfl) ?_
      refine xa_step (xa_iconst d_X12_nightGoes_60 xq_i_1) ?_
      refine xa_step (xa_iadd d_X12_nightGoes_61) ?_
      exact xa_weak (ls' := [some (xR v0), none, none]) ⟨rfl, trivial⟩ (g_X12_nightGoes_J62 l G v0 x10 1 (w32 (r9.1 + 1)) r9.2)
theorem ct_X12_nightGoes (l : Launch) (G : xa_C) (v0 : Int) (h : xa_H) (r : Int × xa_H) (hr : f_X12_nightGoes v0 h = some r) : xa_CT l G 7 mX12_nightGoes yX12_nightGoes [xR v0] h (some (xI r.1), r.2) :=
  xa_met (by decide +kernel) rfl (fun q => by first | rfl | cases q) (Nat.le_of_ble_eq_true rfl) rfl (g_X12_nightGoes l G v0 h) (by rw [hr]; rfl)
abbrev mX12_nights : xa_M := (cX12_nights, 4, (some (.int)), RX12, false)
theorem d_X12_nights_0 : decode mX12_nights.1 0 = .ok (.iload_n 1, 1) ∧ 0 + 1 = 1 := ⟨by decide +kernel, rfl⟩
theorem d_X12_nights_1 : decode mX12_nights.1 1 = .ok (.i2l, 1) ∧ 1 + 1 = 2 := ⟨by decide +kernel, rfl⟩
theorem d_X12_nights_2 : decode mX12_nights.1 2 = .ok (.lconst 1, 1) ∧ 2 + 1 = 3 := ⟨by decide +kernel, rfl⟩
theorem d_X12_nights_3 : decode mX12_nights.1 3 = .ok (.ldc2_w 560, 3) ∧ 3 + 3 = 6 := ⟨by decide +kernel, rfl⟩
theorem d_X12_nights_6 : decode mX12_nights.1 6 = .ok (.invokestatic 289, 3) ∧ 6 + 3 = 9 := ⟨by decide +kernel, rfl⟩
theorem d_X12_nights_9 : decode mX12_nights.1 9 = .ok (.ifCond .eq 17, 3) ∧ 9 + 3 = 12 ∧ ((9 : Nat) : Int) + 17 = ((26 : Nat) : Int) := ⟨by decide +kernel, rfl, rfl⟩
theorem d_X12_nights_26 : decode mX12_nights.1 26 = .ok (.aload_n 0, 1) ∧ 26 + 1 = 27 := ⟨by decide +kernel, rfl⟩
theorem d_X12_nights_27 : decode mX12_nights.1 27 = .ok (.iconst 3, 1) ∧ 27 + 1 = 28 := ⟨by decide +kernel, rfl⟩
theorem d_X12_nights_28 : decode mX12_nights.1 28 = .ok (.invokevirtual 502, 3) ∧ 28 + 3 = 31 := ⟨by decide +kernel, rfl⟩
theorem d_X12_nights_31 : decode mX12_nights.1 31 = .ok (.ireturn, 1) := by decide +kernel
set_option maxRecDepth 100000 in
set_option maxHeartbeats 4000000 in
theorem g_X12_nights_J26 (l : Launch) (G : xa_C) : ∀ (v0 : Int) (h : xa_H) , xa_G l G 8 mX12_nights (f_X12_nights_J26 v0 h) (fun r => some (some (xI r.1), r.2) : (Int × xa_H) → Option xa_O) 26 [some (xR v0), none, none, none] [] h := by
  intro v0 h
  unfold f_X12_nights_J26
  refine xa_step (xa_aload_n d_X12_nights_26 rfl) ?_
  refine xa_step (xa_iconst d_X12_nights_27 xq_i_3) ?_
  refine xa_callVI (as := [xI 3]) (st := []) (M' := mX12_refuses) (d' := 2) rfl xw_1920 xw_1922 xw_121 xw_1923 xw_177 xh_X12_refuses rfl ⟨Nat.le_of_ble_eq_true rfl, Nat.le_of_ble_eq_true rfl⟩ (Nat.le_of_ble_eq_true rfl) rfl d_X12_nights_28 (fun r hr => ct_X12_refuses l G v0 3 h r hr) (fun r3 _ => ?_)
  exact xa_iret d_X12_nights_31 rfl rfl
theorem d_X12_nights_12 : decode mX12_nights.1 12 = .ok (.aload_n 0, 1) ∧ 12 + 1 = 13 := ⟨by decide +kernel, rfl⟩
theorem d_X12_nights_13 : decode mX12_nights.1 13 = .ok (.getfield 130, 3) ∧ 13 + 3 = 16 := ⟨by decide +kernel, rfl⟩
theorem d_X12_nights_16 : decode mX12_nights.1 16 = .ok (.iconst 0, 1) ∧ 16 + 1 = 17 := ⟨by decide +kernel, rfl⟩
theorem d_X12_nights_17 : decode mX12_nights.1 17 = .ok (.iaload, 1) ∧ 17 + 1 = 18 := ⟨by decide +kernel, rfl⟩
theorem d_X12_nights_18 : decode mX12_nights.1 18 = .ok (.iload_n 1, 1) ∧ 18 + 1 = 19 := ⟨by decide +kernel, rfl⟩
theorem d_X12_nights_19 : decode mX12_nights.1 19 = .ok (.iadd, 1) ∧ 19 + 1 = 20 := ⟨by decide +kernel, rfl⟩
theorem d_X12_nights_20 : decode mX12_nights.1 20 = .ok (.sipush 9999, 3) ∧ 20 + 3 = 23 := ⟨by decide +kernel, rfl⟩
theorem d_X12_nights_23 : decode mX12_nights.1 23 = .ok (.if_icmp .le 9, 3) ∧ 23 + 3 = 26 ∧ ((23 : Nat) : Int) + 9 = ((32 : Nat) : Int) := ⟨by decide +kernel, rfl, rfl⟩
theorem d_X12_nights_32 : decode mX12_nights.1 32 = .ok (.aload_n 0, 1) ∧ 32 + 1 = 33 := ⟨by decide +kernel, rfl⟩
theorem d_X12_nights_33 : decode mX12_nights.1 33 = .ok (.invokevirtual 571, 3) ∧ 33 + 3 = 36 := ⟨by decide +kernel, rfl⟩
theorem d_X12_nights_36 : decode mX12_nights.1 36 = .ok (.iconst 0, 1) ∧ 36 + 1 = 37 := ⟨by decide +kernel, rfl⟩
theorem d_X12_nights_37 : decode mX12_nights.1 37 = .ok (.istore_n 2, 1) ∧ 37 + 1 = 38 := ⟨by decide +kernel, rfl⟩
theorem d_X12_nights_38 : decode mX12_nights.1 38 = .ok (.iconst 0, 1) ∧ 38 + 1 = 39 := ⟨by decide +kernel, rfl⟩
theorem d_X12_nights_39 : decode mX12_nights.1 39 = .ok (.istore_n 3, 1) ∧ 39 + 1 = 40 := ⟨by decide +kernel, rfl⟩
theorem d_X12_nights_40 : decode mX12_nights.1 40 = .ok (.iload_n 3, 1) ∧ 40 + 1 = 41 := ⟨by decide +kernel, rfl⟩
theorem d_X12_nights_41 : decode mX12_nights.1 41 = .ok (.iload_n 1, 1) ∧ 41 + 1 = 42 := ⟨by decide +kernel, rfl⟩
theorem d_X12_nights_42 : decode mX12_nights.1 42 = .ok (.if_icmp .ge 29, 3) ∧ 42 + 3 = 45 ∧ ((42 : Nat) : Int) + 29 = ((71 : Nat) : Int) := ⟨by decide +kernel, rfl, rfl⟩
theorem d_X12_nights_45 : decode mX12_nights.1 45 = .ok (.aload_n 0, 1) ∧ 45 + 1 = 46 := ⟨by decide +kernel, rfl⟩
theorem d_X12_nights_46 : decode mX12_nights.1 46 = .ok (.invokevirtual 591, 3) ∧ 46 + 3 = 49 := ⟨by decide +kernel, rfl⟩
theorem d_X12_nights_49 : decode mX12_nights.1 49 = .ok (.ifCond .eq 6, 3) ∧ 49 + 3 = 52 ∧ ((49 : Nat) : Int) + 6 = ((55 : Nat) : Int) := ⟨by decide +kernel, rfl, rfl⟩
theorem d_X12_nights_55 : decode mX12_nights.1 55 = .ok (.aload_n 0, 1) ∧ 55 + 1 = 56 := ⟨by decide +kernel, rfl⟩
theorem d_X12_nights_56 : decode mX12_nights.1 56 = .ok (.getfield 130, 3) ∧ 56 + 3 = 59 := ⟨by decide +kernel, rfl⟩
theorem d_X12_nights_59 : decode mX12_nights.1 59 = .ok (.iconst 0, 1) ∧ 59 + 1 = 60 := ⟨by decide +kernel, rfl⟩
theorem d_X12_nights_60 : decode mX12_nights.1 60 = .ok (.dup2, 1) ∧ 60 + 1 = 61 := ⟨by decide +kernel, rfl⟩
theorem d_X12_nights_61 : decode mX12_nights.1 61 = .ok (.iaload, 1) ∧ 61 + 1 = 62 := ⟨by decide +kernel, rfl⟩
theorem d_X12_nights_62 : decode mX12_nights.1 62 = .ok (.iconst 1, 1) ∧ 62 + 1 = 63 := ⟨by decide +kernel, rfl⟩
theorem d_X12_nights_63 : decode mX12_nights.1 63 = .ok (.iadd, 1) ∧ 63 + 1 = 64 := ⟨by decide +kernel, rfl⟩
theorem d_X12_nights_64 : decode mX12_nights.1 64 = .ok (.iastore, 1) ∧ 64 + 1 = 65 := ⟨by decide +kernel, rfl⟩
theorem d_X12_nights_65 : decode mX12_nights.1 65 = .ok (.iinc 3 1, 3) ∧ 65 + 3 = 68 := ⟨by decide +kernel, rfl⟩
theorem d_X12_nights_68 : decode mX12_nights.1 68 = .ok (.goto (-28), 3) ∧ ((68 : Nat) : Int) + (-28) = ((40 : Nat) : Int) := ⟨by decide +kernel, rfl⟩
set_option maxRecDepth 100000 in
set_option maxHeartbeats 4000000 in
theorem g_X12_nights_J55L40 (l : Launch) (G : xa_C) (c0 c1 : Int) (K : (Int × Int × xa_H) ⊕ (Int × xa_H) → Option xa_O) (hb : ∀ (v2 : Int) (v3 : Int) (h : xa_H), xa_G l G 8 mX12_nights (some (Sum.inl ((v2, v3, h)))) K 40 [some (xR c0), some (xI c1), some (xI v2), some (xI v3)] [] h) (hx : ∀ (v2 : Int) (h : xa_H), xa_G l G 8 mX12_nights (some (Sum.inr ((v2, h)))) K 71 [none, none, some (xI v2), none] [] h) : ∀ (v2 v3 : Int) (h : xa_H) , xa_G l G 8 mX12_nights (f_X12_nights_J55L40 c0 c1 v2 v3 h) K 55 [some (xR c0), some (xI c1), some (xI v2), some (xI v3)] [] h := by
  intro v2 v3 h
  unfold f_X12_nights_J55L40
  refine xa_step (xa_aload_n d_X12_nights_55 rfl) ?_
  refine xa_getf xR xc_12 (by decide) (fun _ => rfl) xw_1354 rfl d_X12_nights_56 (fun x11 _ => ?_)
  refine xa_step (xa_iconst d_X12_nights_59 xq_i_0) ?_
  refine xa_step (xa_dup2 d_X12_nights_60 (xa_tI _) (xa_tR _)) ?_
  refine xa_iaload d_X12_nights_61 (fun x12 _ => ?_)
  refine xa_step (xa_iconst d_X12_nights_62 xq_i_1) ?_
  refine xa_step (xa_iadd d_X12_nights_63) ?_
  refine xa_iastore2 d_X12_nights_64 (fun h13 _ => ?_)
  refine xa_step (xa_iinc (ls' := [some (xR c0), some (xI c1), some (xI v2), some (xI (w32 (v3 + 1)))]) d_X12_nights_65 xq_i_1 rfl (by decide) rfl) ?_
  refine xa_step (xa_goto d_X12_nights_68) ?_
  exact xa_weak (ls' := [some (xR c0), some (xI c1), some (xI v2), some (xI (w32 (v3 + 1)))]) ⟨rfl, rfl, rfl, rfl, trivial⟩ (hb v2 (w32 (v3 + 1)) h13)
theorem d_X12_nights_52 : decode mX12_nights.1 52 = .ok (.iinc 2 1, 3) ∧ 52 + 3 = 55 := ⟨by decide +kernel, rfl⟩
set_option maxRecDepth 100000 in
set_option maxHeartbeats 4000000 in
theorem g_X12_nights_L40 (l : Launch) (G : xa_C) (c0 c1 : Int) (K : (Int × Int × xa_H) ⊕ (Int × xa_H) → Option xa_O) (hb : ∀ (v2 : Int) (v3 : Int) (h : xa_H), xa_G l G 8 mX12_nights (some (Sum.inl ((v2, v3, h)))) K 40 [some (xR c0), some (xI c1), some (xI v2), some (xI v3)] [] h) (hx : ∀ (v2 : Int) (h : xa_H), xa_G l G 8 mX12_nights (some (Sum.inr ((v2, h)))) K 71 [none, none, some (xI v2), none] [] h) : ∀ (v2 : Int) (v3 : Int) (h : xa_H), xa_G l G 8 mX12_nights (f_X12_nights_L40 c0 c1 v2 v3 h) K 40 [some (xR c0), some (xI c1), some (xI v2), some (xI v3)] [] h := by
  intro v2 v3 h
  unfold f_X12_nights_L40
  refine xa_step (xa_iload_n d_X12_nights_40 rfl) ?_
  refine xa_step (xa_iload_n d_X12_nights_41 rfl) ?_
  refine xa_if (xa_icmpge d_X12_nights_42) (fun q8 => ?_) (fun q8 => ?_)
  · refine xa_step (xa_aload_n d_X12_nights_45 rfl) ?_
    refine xa_callVI (as := []) (st := []) (M' := mX12_nightGoes) (d' := 7) rfl xw_2113 xw_2115 xw_150 xw_2116 xw_177 xh_X12_nightGoes rfl ⟨Nat.le_of_ble_eq_true rfl, Nat.le_of_ble_eq_true rfl⟩ (Nat.le_of_ble_eq_true rfl) rfl d_X12_nights_46 (fun r hr => ct_X12_nightGoes l G c0 h r hr) (fun r9 _ => ?_)
    refine xa_if (xa_ifeq d_X12_nights_49) (fun q10 => ?_) (fun q10 => ?_)
    · exact xa_weak (ls' := [some (xR c0), some (xI c1), some (xI v2), some (xI v3)]) ⟨rfl, rfl, rfl, rfl, trivial⟩ (g_X12_nights_J55L40 l G c0 c1 K hb hx v2 v3 r9.2)
    · refine xa_step (xa_iinc (ls' := [some (xR c0), some (xI c1), some (xI (w32 (v2 + 1))), some (xI v3)]) d_X12_nights_52 xq_i_1 rfl (by decide) rfl) ?_
      exact xa_weak (ls' := [some (xR c0), some (xI c1), some (xI (w32 (v2 + 1))), some (xI v3)]) ⟨rfl, rfl, rfl, rfl, trivial⟩ (g_X12_nights_J55L40 l G c0 c1 K hb hx (w32 (v2 + 1)) v3 r9.2)
  · exact xa_weak (ls' := [none, none, some (xI v2), none]) ⟨rfl, trivial⟩ (hx v2 h)
theorem d_X12_nights_71 : decode mX12_nights.1 71 = .ok (.iload_n 2, 1) ∧ 71 + 1 = 72 := ⟨by decide +kernel, rfl⟩
theorem d_X12_nights_72 : decode mX12_nights.1 72 = .ok (.ireturn, 1) := by decide +kernel
set_option maxRecDepth 100000 in
set_option maxHeartbeats 4000000 in
theorem g_X12_nights (l : Launch) (G : xa_C) (v0 v1 : Int) (h : xa_H) : xa_G l G 8 mX12_nights (f_X12_nights v0 v1 h) (fun r => some (some (xI r.1), r.2) : (Int × xa_H) → Option xa_O) 0 [some (xR v0), some (xI v1), none, none] [] h := by
  unfold f_X12_nights
  refine xa_step (xa_iload_n d_X12_nights_0 rfl) ?_
  refine xa_step (xa_i2l d_X12_nights_1) ?_
  refine xa_step (xa_lconst d_X12_nights_2 rfl) ?_
  refine xa_step (xa_ldc2 (c64 := 100) (v := 100) (by decide +kernel) xw_2056 d_X12_nights_3) ?_
  refine xa_callSi (as := [xL v1, xL 1, xL 100]) (st := []) (M' := mX12_isIn) (d' := 2) xw_1706 xw_1707 xw_1708 xw_177 xh_X12_isIn rfl ⟨Nat.le_of_ble_eq_true rfl, Nat.le_of_ble_eq_true rfl⟩ (Nat.le_of_ble_eq_true rfl) rfl d_X12_nights_6 (fun r hr => ct_X12_isIn l G v1 1 100 h r hr) (fun r1 _ => ?_)
  refine xa_if (xa_ifeq d_X12_nights_9) (fun q2 => ?_) (fun q2 => ?_)
  · exact xa_weak (ls' := [some (xR v0), none, none, none]) ⟨rfl, trivial⟩ (g_X12_nights_J26 l G v0 h)
  · refine xa_step (xa_aload_n d_X12_nights_12 rfl) ?_
    refine xa_getf xR xc_12 (by decide) (fun _ => rfl) xw_1354 rfl d_X12_nights_13 (fun x4 _ => ?_)
    refine xa_step (xa_iconst d_X12_nights_16 xq_i_0) ?_
    refine xa_iaload d_X12_nights_17 (fun x5 _ => ?_)
    refine xa_step (xa_iload_n d_X12_nights_18 rfl) ?_
    refine xa_step (xa_iadd d_X12_nights_19) ?_
    refine xa_step (xa_sipush d_X12_nights_20 xq_s_9999) ?_
    refine xa_if (xa_icmple d_X12_nights_23) (fun q6 => ?_) (fun q6 => ?_)
    · exact xa_weak (ls' := [some (xR v0), none, none, none]) ⟨rfl, trivial⟩ (g_X12_nights_J26 l G v0 h)
    · refine xa_step (xa_aload_n d_X12_nights_32 rfl) ?_
      refine xa_callVV (as := []) (st := []) (M' := mX12_keeps) (d' := 2) rfl xw_2089 xw_2091 xw_147 xw_2092 xw_177 xh_X12_keeps rfl ⟨Nat.le_of_ble_eq_true rfl, Nat.le_of_ble_eq_true rfl⟩ (Nat.le_of_ble_eq_true rfl) rfl d_X12_nights_33 (fun r hr => ct_X12_keeps l G v0 h r hr) (fun r7 _ => ?_)
      refine xa_step (xa_iconst d_X12_nights_36 xq_i_0) ?_
      refine xa_step (xa_istore_n (ls' := [some (xR v0), some (xI v1), some (xI 0), none]) d_X12_nights_37 (by decide) rfl) ?_
      refine xa_step (xa_iconst d_X12_nights_38 xq_i_0) ?_
      refine xa_step (xa_istore_n (ls' := [some (xR v0), some (xI v1), some (xI 0), some (xI 0)]) d_X12_nights_39 (by decide) rfl) ?_
      refine xa_weak (ls' := [some (xR v0), some (xI v1), some (xI 0), some (xI 0)]) ⟨rfl, rfl, rfl, rfl, trivial⟩ ?_
      refine xa_loop (f := fun s => f_X12_nights_L40 v0 v1 s.1 s.2.1 s.2.2) (L := fun s => [some (xR v0), some (xI v1), some (xI s.1), some (xI s.2.1)]) (P := fun s => s.2.2) (X := (fun x K => xa_G l G 8 mX12_nights (some (Sum.inr x)) K 71 [none, none, some (xI x.1), none] [] x.2)) (fun K hb hX s => g_X12_nights_L40 l G v0 v1 K (fun w0 w1 hh => hb ((w0, w1, hh))) (fun w0 hh => hX ((w0, hh))) s.1 s.2.1 s.2.2) ?_ xFU ((0, 0, r7))
      intro e14 K hK
      refine xa_eqE hK ?_
      show xa_G l G 8 mX12_nights _ _ 71 [none, none, some (xI e14.1), none] [] e14.2
      refine xa_step (xa_iload_n d_X12_nights_71 rfl) ?_
      exact xa_iret d_X12_nights_72 rfl rfl
theorem ct_X12_nights (l : Launch) (G : xa_C) (v0 v1 : Int) (h : xa_H) (r : Int × xa_H) (hr : f_X12_nights v0 v1 h = some r) : xa_CT l G 8 mX12_nights yX12_nights [xR v0, xI v1] h (some (xI r.1), r.2) :=
  xa_met (by decide +kernel) rfl (fun q => by first | rfl | cases q) (Nat.le_of_ble_eq_true rfl) rfl (g_X12_nights l G v0 v1 h) (by rw [hr]; rfl)
abbrev mX12_note : xa_M := (cX12_note, 4, (some (.int)), RX12, false)
theorem d_X12_note_0 : decode mX12_note.1 0 = .ok (.aload_n 0, 1) ∧ 0 + 1 = 1 := ⟨by decide +kernel, rfl⟩
theorem d_X12_note_1 : decode mX12_note.1 1 = .ok (.getfield 246, 3) ∧ 1 + 3 = 4 := ⟨by decide +kernel, rfl⟩
theorem d_X12_note_4 : decode mX12_note.1 4 = .ok (.istore_n 1, 1) ∧ 4 + 1 = 5 := ⟨by decide +kernel, rfl⟩
theorem d_X12_note_5 : decode mX12_note.1 5 = .ok (.aload_n 0, 1) ∧ 5 + 1 = 6 := ⟨by decide +kernel, rfl⟩
theorem d_X12_note_6 : decode mX12_note.1 6 = .ok (.iconst 0, 1) ∧ 6 + 1 = 7 := ⟨by decide +kernel, rfl⟩
theorem d_X12_note_7 : decode mX12_note.1 7 = .ok (.putfield 246, 3) ∧ 7 + 3 = 10 := ⟨by decide +kernel, rfl⟩
theorem d_X12_note_10 : decode mX12_note.1 10 = .ok (.iload_n 1, 1) ∧ 10 + 1 = 11 := ⟨by decide +kernel, rfl⟩
theorem d_X12_note_11 : decode mX12_note.1 11 = .ok (.ifCond .le 21, 3) ∧ 11 + 3 = 14 ∧ ((11 : Nat) : Int) + 21 = ((32 : Nat) : Int) := ⟨by decide +kernel, rfl, rfl⟩
theorem d_X12_note_14 : decode mX12_note.1 14 = .ok (.iload_n 1, 1) ∧ 14 + 1 = 15 := ⟨by decide +kernel, rfl⟩
theorem d_X12_note_15 : decode mX12_note.1 15 = .ok (.iconst 3, 1) ∧ 15 + 1 = 16 := ⟨by decide +kernel, rfl⟩
theorem d_X12_note_16 : decode mX12_note.1 16 = .ok (.irem, 1) ∧ 16 + 1 = 17 := ⟨by decide +kernel, rfl⟩
theorem d_X12_note_17 : decode mX12_note.1 17 = .ok (.ifCond .ne 15, 3) ∧ 17 + 3 = 20 ∧ ((17 : Nat) : Int) + 15 = ((32 : Nat) : Int) := ⟨by decide +kernel, rfl, rfl⟩
theorem d_X12_note_20 : decode mX12_note.1 20 = .ok (.iload_n 1, 1) ∧ 20 + 1 = 21 := ⟨by decide +kernel, rfl⟩
theorem d_X12_note_21 : decode mX12_note.1 21 = .ok (.iconst 3, 1) ∧ 21 + 1 = 22 := ⟨by decide +kernel, rfl⟩
theorem d_X12_note_22 : decode mX12_note.1 22 = .ok (.idiv, 1) ∧ 22 + 1 = 23 := ⟨by decide +kernel, rfl⟩
theorem d_X12_note_23 : decode mX12_note.1 23 = .ok (.bipush 20, 2) ∧ 23 + 2 = 25 := ⟨by decide +kernel, rfl⟩
theorem d_X12_note_25 : decode mX12_note.1 25 = .ok (.if_icmp .gt 7, 3) ∧ 25 + 3 = 28 ∧ ((25 : Nat) : Int) + 7 = ((32 : Nat) : Int) := ⟨by decide +kernel, rfl, rfl⟩
theorem d_X12_note_32 : decode mX12_note.1 32 = .ok (.iconst 0, 1) ∧ 32 + 1 = 33 := ⟨by decide +kernel, rfl⟩
theorem d_X12_note_33 : decode mX12_note.1 33 = .ok (.istore_n 2, 1) ∧ 33 + 1 = 34 := ⟨by decide +kernel, rfl⟩
theorem d_X12_note_34 : decode mX12_note.1 34 = .ok (.iconst 0, 1) ∧ 34 + 1 = 35 := ⟨by decide +kernel, rfl⟩
theorem d_X12_note_35 : decode mX12_note.1 35 = .ok (.istore_n 3, 1) ∧ 35 + 1 = 36 := ⟨by decide +kernel, rfl⟩
theorem d_X12_note_36 : decode mX12_note.1 36 = .ok (.iload_n 3, 1) ∧ 36 + 1 = 37 := ⟨by decide +kernel, rfl⟩
theorem d_X12_note_37 : decode mX12_note.1 37 = .ok (.iload_n 1, 1) ∧ 37 + 1 = 38 := ⟨by decide +kernel, rfl⟩
theorem d_X12_note_38 : decode mX12_note.1 38 = .ok (.if_icmp .ge 59, 3) ∧ 38 + 3 = 41 ∧ ((38 : Nat) : Int) + 59 = ((97 : Nat) : Int) := ⟨by decide +kernel, rfl, rfl⟩
theorem d_X12_note_41 : decode mX12_note.1 41 = .ok (.iload_n 2, 1) ∧ 41 + 1 = 42 := ⟨by decide +kernel, rfl⟩
theorem d_X12_note_42 : decode mX12_note.1 42 = .ok (.ifCond .eq 55, 3) ∧ 42 + 3 = 45 ∧ ((42 : Nat) : Int) + 55 = ((97 : Nat) : Int) := ⟨by decide +kernel, rfl, rfl⟩
theorem d_X12_note_45 : decode mX12_note.1 45 = .ok (.aload_n 0, 1) ∧ 45 + 1 = 46 := ⟨by decide +kernel, rfl⟩
theorem d_X12_note_46 : decode mX12_note.1 46 = .ok (.aload_n 0, 1) ∧ 46 + 1 = 47 := ⟨by decide +kernel, rfl⟩
theorem d_X12_note_47 : decode mX12_note.1 47 = .ok (.getfield 7, 3) ∧ 47 + 3 = 50 := ⟨by decide +kernel, rfl⟩
theorem d_X12_note_50 : decode mX12_note.1 50 = .ok (.iload_n 3, 1) ∧ 50 + 1 = 51 := ⟨by decide +kernel, rfl⟩
theorem d_X12_note_51 : decode mX12_note.1 51 = .ok (.iaload, 1) ∧ 51 + 1 = 52 := ⟨by decide +kernel, rfl⟩
theorem d_X12_note_52 : decode mX12_note.1 52 = .ok (.invokevirtual 458, 3) ∧ 52 + 3 = 55 := ⟨by decide +kernel, rfl⟩
theorem d_X12_note_55 : decode mX12_note.1 55 = .ok (.ifCond .eq 34, 3) ∧ 55 + 3 = 58 ∧ ((55 : Nat) : Int) + 34 = ((89 : Nat) : Int) := ⟨by decide +kernel, rfl, rfl⟩
theorem d_X12_note_89 : decode mX12_note.1 89 = .ok (.iconst 0, 1) ∧ 89 + 1 = 90 := ⟨by decide +kernel, rfl⟩
theorem d_X12_note_90 : decode mX12_note.1 90 = .ok (.istore_n 2, 1) ∧ 90 + 1 = 91 := ⟨by decide +kernel, rfl⟩
theorem d_X12_note_91 : decode mX12_note.1 91 = .ok (.iinc 3 3, 3) ∧ 91 + 3 = 94 := ⟨by decide +kernel, rfl⟩
theorem d_X12_note_94 : decode mX12_note.1 94 = .ok (.goto (-58), 3) ∧ ((94 : Nat) : Int) + (-58) = ((36 : Nat) : Int) := ⟨by decide +kernel, rfl⟩
theorem d_X12_note_58 : decode mX12_note.1 58 = .ok (.aload_n 0, 1) ∧ 58 + 1 = 59 := ⟨by decide +kernel, rfl⟩
theorem d_X12_note_59 : decode mX12_note.1 59 = .ok (.aload_n 0, 1) ∧ 59 + 1 = 60 := ⟨by decide +kernel, rfl⟩
theorem d_X12_note_60 : decode mX12_note.1 60 = .ok (.getfield 7, 3) ∧ 60 + 3 = 63 := ⟨by decide +kernel, rfl⟩
theorem d_X12_note_63 : decode mX12_note.1 63 = .ok (.iload_n 3, 1) ∧ 63 + 1 = 64 := ⟨by decide +kernel, rfl⟩
theorem d_X12_note_64 : decode mX12_note.1 64 = .ok (.iconst 1, 1) ∧ 64 + 1 = 65 := ⟨by decide +kernel, rfl⟩
theorem d_X12_note_65 : decode mX12_note.1 65 = .ok (.iadd, 1) ∧ 65 + 1 = 66 := ⟨by decide +kernel, rfl⟩
theorem d_X12_note_66 : decode mX12_note.1 66 = .ok (.iaload, 1) ∧ 66 + 1 = 67 := ⟨by decide +kernel, rfl⟩
theorem d_X12_note_67 : decode mX12_note.1 67 = .ok (.invokevirtual 488, 3) ∧ 67 + 3 = 70 := ⟨by decide +kernel, rfl⟩
theorem d_X12_note_70 : decode mX12_note.1 70 = .ok (.ifCond .eq 19, 3) ∧ 70 + 3 = 73 ∧ ((70 : Nat) : Int) + 19 = ((89 : Nat) : Int) := ⟨by decide +kernel, rfl, rfl⟩
theorem d_X12_note_73 : decode mX12_note.1 73 = .ok (.aload_n 0, 1) ∧ 73 + 1 = 74 := ⟨by decide +kernel, rfl⟩
theorem d_X12_note_74 : decode mX12_note.1 74 = .ok (.getfield 7, 3) ∧ 74 + 3 = 77 := ⟨by decide +kernel, rfl⟩
theorem d_X12_note_77 : decode mX12_note.1 77 = .ok (.iload_n 3, 1) ∧ 77 + 1 = 78 := ⟨by decide +kernel, rfl⟩
theorem d_X12_note_78 : decode mX12_note.1 78 = .ok (.iconst 2, 1) ∧ 78 + 1 = 79 := ⟨by decide +kernel, rfl⟩
theorem d_X12_note_79 : decode mX12_note.1 79 = .ok (.iadd, 1) ∧ 79 + 1 = 80 := ⟨by decide +kernel, rfl⟩
theorem d_X12_note_80 : decode mX12_note.1 80 = .ok (.iaload, 1) ∧ 80 + 1 = 81 := ⟨by decide +kernel, rfl⟩
theorem d_X12_note_81 : decode mX12_note.1 81 = .ok (.iconst 2, 1) ∧ 81 + 1 = 82 := ⟨by decide +kernel, rfl⟩
theorem d_X12_note_82 : decode mX12_note.1 82 = .ok (.if_icmp .ge 7, 3) ∧ 82 + 3 = 85 ∧ ((82 : Nat) : Int) + 7 = ((89 : Nat) : Int) := ⟨by decide +kernel, rfl, rfl⟩
theorem d_X12_note_85 : decode mX12_note.1 85 = .ok (.iconst 1, 1) ∧ 85 + 1 = 86 := ⟨by decide +kernel, rfl⟩
theorem d_X12_note_86 : decode mX12_note.1 86 = .ok (.goto 4, 3) ∧ ((86 : Nat) : Int) + 4 = ((90 : Nat) : Int) := ⟨by decide +kernel, rfl⟩
set_option maxRecDepth 100000 in
set_option maxHeartbeats 4000000 in
theorem g_X12_note_L36 (l : Launch) (G : xa_C) (c0 c1 : Int) (h : xa_H) (K : (Int × Int) ⊕ (Int) → Option xa_O) (hb : ∀ (v2 : Int) (v3 : Int), xa_G l G 4 mX12_note (some (Sum.inl ((v2, v3)))) K 36 [some (xR c0), some (xI c1), some (xI v2), some (xI v3)] [] h) (hx : ∀ (v2 : Int), xa_G l G 4 mX12_note (some (Sum.inr v2)) K 97 [some (xR c0), some (xI c1), some (xI v2), none] [] h) : ∀ (v2 : Int) (v3 : Int), xa_G l G 4 mX12_note (f_X12_note_L36 c0 c1 h v2 v3) K 36 [some (xR c0), some (xI c1), some (xI v2), some (xI v3)] [] h := by
  intro v2 v3
  unfold f_X12_note_L36
  refine xa_step (xa_iload_n d_X12_note_36 rfl) ?_
  refine xa_step (xa_iload_n d_X12_note_37 rfl) ?_
  refine xa_if (xa_icmpge d_X12_note_38) (fun q6 => ?_) (fun q6 => ?_)
  · refine xa_step (xa_iload_n d_X12_note_41 rfl) ?_
    refine xa_if (xa_ifeq d_X12_note_42) (fun q7 => ?_) (fun q7 => ?_)
    · exact xa_weak (ls' := [some (xR c0), some (xI c1), some (xI v2), none]) ⟨rfl, rfl, rfl, trivial⟩ (hx v2)
    · refine xa_step (xa_aload_n d_X12_note_45 rfl) ?_
      refine xa_step (xa_aload_n d_X12_note_46 rfl) ?_
      refine xa_getf xR xc_12 (by decide) (fun _ => rfl) xw_1304 rfl d_X12_note_47 (fun x8 _ => ?_)
      refine xa_step (xa_iload_n d_X12_note_50 rfl) ?_
      refine xa_iaload d_X12_note_51 (fun x9 _ => ?_)
      refine xa_callVi (as := [xI x9]) (st := []) (M' := mX12_isHolder) (d' := 3) rfl xw_1889 xw_1891 xw_118 xw_1892 xw_177 xh_X12_isHolder rfl ⟨Nat.le_of_ble_eq_true rfl, Nat.le_of_ble_eq_true rfl⟩ (Nat.le_of_ble_eq_true rfl) rfl d_X12_note_52 (fun r hr => ct_X12_isHolder l G c0 x9 h r hr) (fun r10 _ => ?_)
      refine xa_if (xa_ifeq d_X12_note_55) (fun q11 => ?_) (fun q11 => ?_)
      · refine xa_step (xa_iconst d_X12_note_89 xq_i_0) ?_
        refine xa_step (xa_istore_n (ls' := [some (xR c0), some (xI c1), some (xI 0), some (xI v3)]) d_X12_note_90 (by decide) rfl) ?_
        refine xa_step (xa_iinc (ls' := [some (xR c0), some (xI c1), some (xI 0), some (xI (w32 (v3 + 3)))]) d_X12_note_91 xq_i_3 rfl (by decide) rfl) ?_
        refine xa_step (xa_goto d_X12_note_94) ?_
        exact xa_weak (ls' := [some (xR c0), some (xI c1), some (xI 0), some (xI (w32 (v3 + 3)))]) ⟨rfl, rfl, rfl, rfl, trivial⟩ (hb 0 (w32 (v3 + 3)))
      · refine xa_step (xa_aload_n d_X12_note_58 rfl) ?_
        refine xa_step (xa_aload_n d_X12_note_59 rfl) ?_
        refine xa_getf xR xc_12 (by decide) (fun _ => rfl) xw_1304 rfl d_X12_note_60 (fun x12 _ => ?_)
        refine xa_step (xa_iload_n d_X12_note_63 rfl) ?_
        refine xa_step (xa_iconst d_X12_note_64 xq_i_1) ?_
        refine xa_step (xa_iadd d_X12_note_65) ?_
        refine xa_iaload d_X12_note_66 (fun x13 _ => ?_)
        refine xa_callVi (as := [xI x13]) (st := []) (M' := mX12_isHeldThere) (d' := 3) rfl xw_1869 xw_1871 xw_114 xw_1872 xw_177 xh_X12_isHeldThere rfl ⟨Nat.le_of_ble_eq_true rfl, Nat.le_of_ble_eq_true rfl⟩ (Nat.le_of_ble_eq_true rfl) rfl d_X12_note_67 (fun r hr => ct_X12_isHeldThere l G c0 x13 h r hr) (fun r14 _ => ?_)
        refine xa_if (xa_ifeq d_X12_note_70) (fun q15 => ?_) (fun q15 => ?_)
        · refine xa_step (xa_iconst d_X12_note_89 xq_i_0) ?_
          refine xa_step (xa_istore_n (ls' := [some (xR c0), some (xI c1), some (xI 0), some (xI v3)]) d_X12_note_90 (by decide) rfl) ?_
          refine xa_step (xa_iinc (ls' := [some (xR c0), some (xI c1), some (xI 0), some (xI (w32 (v3 + 3)))]) d_X12_note_91 xq_i_3 rfl (by decide) rfl) ?_
          refine xa_step (xa_goto d_X12_note_94) ?_
          exact xa_weak (ls' := [some (xR c0), some (xI c1), some (xI 0), some (xI (w32 (v3 + 3)))]) ⟨rfl, rfl, rfl, rfl, trivial⟩ (hb 0 (w32 (v3 + 3)))
        · refine xa_step (xa_aload_n d_X12_note_73 rfl) ?_
          refine xa_getf xR xc_12 (by decide) (fun _ => rfl) xw_1304 rfl d_X12_note_74 (fun x16 _ => ?_)
          refine xa_step (xa_iload_n d_X12_note_77 rfl) ?_
          refine xa_step (xa_iconst d_X12_note_78 xq_i_2) ?_
          refine xa_step (xa_iadd d_X12_note_79) ?_
          refine xa_iaload d_X12_note_80 (fun x17 _ => ?_)
          refine xa_step (xa_iconst d_X12_note_81 xq_i_2) ?_
          refine xa_if (xa_icmpge d_X12_note_82) (fun q18 => ?_) (fun q18 => ?_)
          · refine xa_step (xa_iconst d_X12_note_85 xq_i_1) ?_
            refine xa_step (xa_goto d_X12_note_86) ?_
            refine xa_step (xa_istore_n (ls' := [some (xR c0), some (xI c1), some (xI 1), some (xI v3)]) d_X12_note_90 (by decide) rfl) ?_
            refine xa_step (xa_iinc (ls' := [some (xR c0), some (xI c1), some (xI 1), some (xI (w32 (v3 + 3)))]) d_X12_note_91 xq_i_3 rfl (by decide) rfl) ?_
            refine xa_step (xa_goto d_X12_note_94) ?_
            exact xa_weak (ls' := [some (xR c0), some (xI c1), some (xI 1), some (xI (w32 (v3 + 3)))]) ⟨rfl, rfl, rfl, rfl, trivial⟩ (hb 1 (w32 (v3 + 3)))
          · refine xa_step (xa_iconst d_X12_note_89 xq_i_0) ?_
            refine xa_step (xa_istore_n (ls' := [some (xR c0), some (xI c1), some (xI 0), some (xI v3)]) d_X12_note_90 (by decide) rfl) ?_
            refine xa_step (xa_iinc (ls' := [some (xR c0), some (xI c1), some (xI 0), some (xI (w32 (v3 + 3)))]) d_X12_note_91 xq_i_3 rfl (by decide) rfl) ?_
            refine xa_step (xa_goto d_X12_note_94) ?_
            exact xa_weak (ls' := [some (xR c0), some (xI c1), some (xI 0), some (xI (w32 (v3 + 3)))]) ⟨rfl, rfl, rfl, rfl, trivial⟩ (hb 0 (w32 (v3 + 3)))
  · exact xa_weak (ls' := [some (xR c0), some (xI c1), some (xI v2), none]) ⟨rfl, rfl, rfl, trivial⟩ (hx v2)
theorem d_X12_note_97 : decode mX12_note.1 97 = .ok (.iload_n 2, 1) ∧ 97 + 1 = 98 := ⟨by decide +kernel, rfl⟩
theorem d_X12_note_98 : decode mX12_note.1 98 = .ok (.ifCond .ne 9, 3) ∧ 98 + 3 = 101 ∧ ((98 : Nat) : Int) + 9 = ((107 : Nat) : Int) := ⟨by decide +kernel, rfl, rfl⟩
theorem d_X12_note_101 : decode mX12_note.1 101 = .ok (.aload_n 0, 1) ∧ 101 + 1 = 102 := ⟨by decide +kernel, rfl⟩
theorem d_X12_note_102 : decode mX12_note.1 102 = .ok (.iconst 1, 1) ∧ 102 + 1 = 103 := ⟨by decide +kernel, rfl⟩
theorem d_X12_note_103 : decode mX12_note.1 103 = .ok (.invokevirtual 502, 3) ∧ 103 + 3 = 106 := ⟨by decide +kernel, rfl⟩
theorem d_X12_note_106 : decode mX12_note.1 106 = .ok (.ireturn, 1) := by decide +kernel
theorem d_X12_note_107 : decode mX12_note.1 107 = .ok (.iconst 0, 1) ∧ 107 + 1 = 108 := ⟨by decide +kernel, rfl⟩
theorem d_X12_note_108 : decode mX12_note.1 108 = .ok (.istore_n 3, 1) ∧ 108 + 1 = 109 := ⟨by decide +kernel, rfl⟩
theorem d_X12_note_109 : decode mX12_note.1 109 = .ok (.iload_n 3, 1) ∧ 109 + 1 = 110 := ⟨by decide +kernel, rfl⟩
theorem d_X12_note_110 : decode mX12_note.1 110 = .ok (.iload_n 1, 1) ∧ 110 + 1 = 111 := ⟨by decide +kernel, rfl⟩
theorem d_X12_note_111 : decode mX12_note.1 111 = .ok (.if_icmp .ge 21, 3) ∧ 111 + 3 = 114 ∧ ((111 : Nat) : Int) + 21 = ((132 : Nat) : Int) := ⟨by decide +kernel, rfl, rfl⟩
theorem d_X12_note_114 : decode mX12_note.1 114 = .ok (.aload_n 0, 1) ∧ 114 + 1 = 115 := ⟨by decide +kernel, rfl⟩
theorem d_X12_note_115 : decode mX12_note.1 115 = .ok (.getfield 161, 3) ∧ 115 + 3 = 118 := ⟨by decide +kernel, rfl⟩
theorem d_X12_note_118 : decode mX12_note.1 118 = .ok (.iload_n 3, 1) ∧ 118 + 1 = 119 := ⟨by decide +kernel, rfl⟩
theorem d_X12_note_119 : decode mX12_note.1 119 = .ok (.aload_n 0, 1) ∧ 119 + 1 = 120 := ⟨by decide +kernel, rfl⟩
theorem d_X12_note_120 : decode mX12_note.1 120 = .ok (.getfield 7, 3) ∧ 120 + 3 = 123 := ⟨by decide +kernel, rfl⟩
theorem d_X12_note_123 : decode mX12_note.1 123 = .ok (.iload_n 3, 1) ∧ 123 + 1 = 124 := ⟨by decide +kernel, rfl⟩
theorem d_X12_note_124 : decode mX12_note.1 124 = .ok (.iaload, 1) ∧ 124 + 1 = 125 := ⟨by decide +kernel, rfl⟩
theorem d_X12_note_125 : decode mX12_note.1 125 = .ok (.iastore, 1) ∧ 125 + 1 = 126 := ⟨by decide +kernel, rfl⟩
theorem d_X12_note_126 : decode mX12_note.1 126 = .ok (.iinc 3 1, 3) ∧ 126 + 3 = 129 := ⟨by decide +kernel, rfl⟩
theorem d_X12_note_129 : decode mX12_note.1 129 = .ok (.goto (-20), 3) ∧ ((129 : Nat) : Int) + (-20) = ((109 : Nat) : Int) := ⟨by decide +kernel, rfl⟩
set_option maxRecDepth 100000 in
set_option maxHeartbeats 4000000 in
theorem g_X12_note_L109 (l : Launch) (G : xa_C) (c0 c1 : Int) (K : (Int × xa_H) ⊕ (xa_H) → Option xa_O) (hb : ∀ (v3 : Int) (h : xa_H), xa_G l G 4 mX12_note (some (Sum.inl ((v3, h)))) K 109 [some (xR c0), some (xI c1), none, some (xI v3)] [] h) (hx : ∀ (h : xa_H), xa_G l G 4 mX12_note (some (Sum.inr h)) K 132 [some (xR c0), some (xI c1), none, none] [] h) : ∀ (v3 : Int) (h : xa_H), xa_G l G 4 mX12_note (f_X12_note_L109 c0 c1 v3 h) K 109 [some (xR c0), some (xI c1), none, some (xI v3)] [] h := by
  intro v3 h
  unfold f_X12_note_L109
  refine xa_step (xa_iload_n d_X12_note_109 rfl) ?_
  refine xa_step (xa_iload_n d_X12_note_110 rfl) ?_
  refine xa_if (xa_icmpge d_X12_note_111) (fun q22 => ?_) (fun q22 => ?_)
  · refine xa_step (xa_aload_n d_X12_note_114 rfl) ?_
    refine xa_getf xR xc_12 (by decide) (fun _ => rfl) xw_1375 rfl d_X12_note_115 (fun x23 _ => ?_)
    refine xa_step (xa_iload_n d_X12_note_118 rfl) ?_
    refine xa_step (xa_aload_n d_X12_note_119 rfl) ?_
    refine xa_getf xR xc_12 (by decide) (fun _ => rfl) xw_1304 rfl d_X12_note_120 (fun x24 _ => ?_)
    refine xa_step (xa_iload_n d_X12_note_123 rfl) ?_
    refine xa_iaload d_X12_note_124 (fun x25 _ => ?_)
    refine xa_iastore2 d_X12_note_125 (fun h26 _ => ?_)
    refine xa_step (xa_iinc (ls' := [some (xR c0), some (xI c1), none, some (xI (w32 (v3 + 1)))]) d_X12_note_126 xq_i_1 rfl (by decide) rfl) ?_
    refine xa_step (xa_goto d_X12_note_129) ?_
    exact xa_weak (ls' := [some (xR c0), some (xI c1), none, some (xI (w32 (v3 + 1)))]) ⟨rfl, rfl, rfl, trivial⟩ (hb (w32 (v3 + 1)) h26)
  · exact xa_weak (ls' := [some (xR c0), some (xI c1), none, none]) ⟨rfl, rfl, trivial⟩ (hx h)
theorem d_X12_note_132 : decode mX12_note.1 132 = .ok (.aload_n 0, 1) ∧ 132 + 1 = 133 := ⟨by decide +kernel, rfl⟩
theorem d_X12_note_133 : decode mX12_note.1 133 = .ok (.iload_n 1, 1) ∧ 133 + 1 = 134 := ⟨by decide +kernel, rfl⟩
theorem d_X12_note_134 : decode mX12_note.1 134 = .ok (.iconst 3, 1) ∧ 134 + 1 = 135 := ⟨by decide +kernel, rfl⟩
theorem d_X12_note_135 : decode mX12_note.1 135 = .ok (.idiv, 1) ∧ 135 + 1 = 136 := ⟨by decide +kernel, rfl⟩
theorem d_X12_note_136 : decode mX12_note.1 136 = .ok (.putfield 393, 3) ∧ 136 + 3 = 139 := ⟨by decide +kernel, rfl⟩
theorem d_X12_note_139 : decode mX12_note.1 139 = .ok (.aload_n 0, 1) ∧ 139 + 1 = 140 := ⟨by decide +kernel, rfl⟩
theorem d_X12_note_140 : decode mX12_note.1 140 = .ok (.getfield 393, 3) ∧ 140 + 3 = 143 := ⟨by decide +kernel, rfl⟩
theorem d_X12_note_143 : decode mX12_note.1 143 = .ok (.ireturn, 1) := by decide +kernel
set_option maxRecDepth 100000 in
set_option maxHeartbeats 4000000 in
theorem g_X12_note_J97 (l : Launch) (G : xa_C) : ∀ (v0 v1 v2 : Int) (h : xa_H) , xa_G l G 4 mX12_note (f_X12_note_J97 v0 v1 v2 h) (fun r => some (some (xI r.1), r.2) : (Int × xa_H) → Option xa_O) 97 [some (xR v0), some (xI v1), some (xI v2), none] [] h := by
  intro v0 v1 v2 h
  unfold f_X12_note_J97
  refine xa_step (xa_iload_n d_X12_note_97 rfl) ?_
  refine xa_if (xa_ifne d_X12_note_98) (fun q20 => ?_) (fun q20 => ?_)
  · refine xa_step (xa_aload_n d_X12_note_101 rfl) ?_
    refine xa_step (xa_iconst d_X12_note_102 xq_i_1) ?_
    refine xa_callVI (as := [xI 1]) (st := []) (M' := mX12_refuses) (d' := 2) rfl xw_1920 xw_1922 xw_121 xw_1923 xw_177 xh_X12_refuses rfl ⟨Nat.le_of_ble_eq_true rfl, Nat.le_of_ble_eq_true rfl⟩ (Nat.le_of_ble_eq_true rfl) rfl d_X12_note_103 (fun r hr => ct_X12_refuses l G v0 1 h r hr) (fun r21 _ => ?_)
    exact xa_iret d_X12_note_106 rfl rfl
  · refine xa_step (xa_iconst d_X12_note_107 xq_i_0) ?_
    refine xa_step (xa_istore_n (ls' := [some (xR v0), some (xI v1), some (xI v2), some (xI 0)]) d_X12_note_108 (by decide) rfl) ?_
    refine xa_weak (ls' := [some (xR v0), some (xI v1), none, some (xI 0)]) ⟨rfl, rfl, rfl, trivial⟩ ?_
    refine xa_loop (f := fun s => f_X12_note_L109 v0 v1 s.1 s.2) (L := fun s => [some (xR v0), some (xI v1), none, some (xI s.1)]) (P := fun s => s.2) (X := (fun x K => xa_G l G 4 mX12_note (some (Sum.inr x)) K 132 [some (xR v0), some (xI v1), none, none] [] x)) (fun K hb hX s => g_X12_note_L109 l G v0 v1 K (fun w0 hh => hb ((w0, hh))) (fun hh => hX hh) s.1 s.2) ?_ xFU ((0, h))
    intro e27 K hK
    refine xa_eqE hK ?_
    show xa_G l G 4 mX12_note _ _ 132 [some (xR v0), some (xI v1), none, none] [] e27
    refine xa_step (xa_aload_n d_X12_note_132 rfl) ?_
    refine xa_step (xa_iload_n d_X12_note_133 rfl) ?_
    refine xa_step (xa_iconst d_X12_note_134 xq_i_3) ?_
    refine xa_step (xa_idiv d_X12_note_135 (by decide)) ?_
    refine xa_putf2 (tg := xI) xc_12 (by decide) (fun _ => rfl) rfl (fun c hc => xa_fitI c hc) xw_1374 rfl d_X12_note_136 (fun h28 _ => ?_)
    refine xa_step (xa_aload_n d_X12_note_139 rfl) ?_
    refine xa_getf xI xc_12 (by decide) (fun _ => rfl) xw_1374 rfl d_X12_note_140 (fun x29 _ => ?_)
    exact xa_iret d_X12_note_143 rfl rfl
set_option maxRecDepth 100000 in
set_option maxHeartbeats 4000000 in
theorem g_X12_note_J33 (l : Launch) (G : xa_C) : ∀ (v0 v1 s0 : Int) (h : xa_H) , xa_G l G 4 mX12_note (f_X12_note_J33 v0 v1 s0 h) (fun r => some (some (xI r.1), r.2) : (Int × xa_H) → Option xa_O) 33 [some (xR v0), some (xI v1), none, none] [xI s0] h := by
  intro v0 v1 s0 h
  unfold f_X12_note_J33
  refine xa_step (xa_istore_n (ls' := [some (xR v0), some (xI v1), some (xI s0), none]) d_X12_note_33 (by decide) rfl) ?_
  refine xa_step (xa_iconst d_X12_note_34 xq_i_0) ?_
  refine xa_step (xa_istore_n (ls' := [some (xR v0), some (xI v1), some (xI s0), some (xI 0)]) d_X12_note_35 (by decide) rfl) ?_
  refine xa_weak (ls' := [some (xR v0), some (xI v1), some (xI s0), some (xI 0)]) ⟨rfl, rfl, rfl, rfl, trivial⟩ ?_
  refine xa_loop (f := fun s => f_X12_note_L36 v0 v1 h s.1 s.2) (L := fun s => [some (xR v0), some (xI v1), some (xI s.1), some (xI s.2)]) (P := fun s => h) (X := (fun x K => xa_G l G 4 mX12_note (some (Sum.inr x)) K 97 [some (xR v0), some (xI v1), some (xI x), none] [] h)) (fun K hb hX s => g_X12_note_L36 l G v0 v1 h K (fun w0 w1 => hb ((w0, w1))) (fun w0 => hX w0) s.1 s.2) ?_ xFU ((s0, 0))
  intro e19 K hK
  refine xa_eqE hK ?_
  show xa_G l G 4 mX12_note _ _ 97 [some (xR v0), some (xI v1), some (xI e19), none] [] h
  exact xa_weak (ls' := [some (xR v0), some (xI v1), some (xI e19), none]) ⟨rfl, rfl, rfl, trivial⟩ (g_X12_note_J97 l G v0 v1 e19 h)
set_option maxRecDepth 100000 in
set_option maxHeartbeats 4000000 in
theorem g_X12_note_J32 (l : Launch) (G : xa_C) : ∀ (v0 v1 : Int) (h : xa_H) , xa_G l G 4 mX12_note (f_X12_note_J32 v0 v1 h) (fun r => some (some (xI r.1), r.2) : (Int × xa_H) → Option xa_O) 32 [some (xR v0), some (xI v1), none, none] [] h := by
  intro v0 v1 h
  unfold f_X12_note_J32
  refine xa_step (xa_iconst d_X12_note_32 xq_i_0) ?_
  exact xa_weak (ls' := [some (xR v0), some (xI v1), none, none]) ⟨rfl, rfl, trivial⟩ (g_X12_note_J33 l G v0 v1 0 h)
theorem d_X12_note_28 : decode mX12_note.1 28 = .ok (.iconst 1, 1) ∧ 28 + 1 = 29 := ⟨by decide +kernel, rfl⟩
theorem d_X12_note_29 : decode mX12_note.1 29 = .ok (.goto 4, 3) ∧ ((29 : Nat) : Int) + 4 = ((33 : Nat) : Int) := ⟨by decide +kernel, rfl⟩
set_option maxRecDepth 100000 in
set_option maxHeartbeats 4000000 in
theorem g_X12_note (l : Launch) (G : xa_C) (v0 : Int) (h : xa_H) : xa_G l G 4 mX12_note (f_X12_note v0 h) (fun r => some (some (xI r.1), r.2) : (Int × xa_H) → Option xa_O) 0 [some (xR v0), none, none, none] [] h := by
  unfold f_X12_note
  refine xa_step (xa_aload_n d_X12_note_0 rfl) ?_
  refine xa_getf xI xc_12 (by decide) (fun _ => rfl) xw_1305 rfl d_X12_note_1 (fun x1 _ => ?_)
  refine xa_step (xa_istore_n (ls' := [some (xR v0), some (xI x1), none, none]) d_X12_note_4 (by decide) rfl) ?_
  refine xa_step (xa_aload_n d_X12_note_5 rfl) ?_
  refine xa_step (xa_iconst d_X12_note_6 xq_i_0) ?_
  refine xa_putf2 (tg := xI) xc_12 (by decide) (fun _ => rfl) rfl (fun c hc => xa_fitI c hc) xw_1305 rfl d_X12_note_7 (fun h2 _ => ?_)
  refine xa_step (xa_iload_n d_X12_note_10 rfl) ?_
  refine xa_if (xa_ifle d_X12_note_11) (fun q3 => ?_) (fun q3 => ?_)
  · refine xa_step (xa_iload_n d_X12_note_14 rfl) ?_
    refine xa_step (xa_iconst d_X12_note_15 xq_i_3) ?_
    refine xa_step (xa_irem d_X12_note_16 (by decide)) ?_
    refine xa_if (xa_ifne d_X12_note_17) (fun q4 => ?_) (fun q4 => ?_)
    · refine xa_step (xa_iload_n d_X12_note_20 rfl) ?_
      refine xa_step (xa_iconst d_X12_note_21 xq_i_3) ?_
      refine xa_step (xa_idiv d_X12_note_22 (by decide)) ?_
      refine xa_step (xa_bipush d_X12_note_23 xq_b_20) ?_
      refine xa_if (xa_icmpgt d_X12_note_25) (fun q5 => ?_) (fun q5 => ?_)
      · exact xa_weak (ls' := [some (xR v0), some (xI x1), none, none]) ⟨rfl, rfl, trivial⟩ (g_X12_note_J32 l G v0 x1 h2)
      · refine xa_step (xa_iconst d_X12_note_28 xq_i_1) ?_
        refine xa_step (xa_goto d_X12_note_29) ?_
        exact xa_weak (ls' := [some (xR v0), some (xI x1), none, none]) ⟨rfl, rfl, trivial⟩ (g_X12_note_J33 l G v0 x1 1 h2)
    · exact xa_weak (ls' := [some (xR v0), some (xI x1), none, none]) ⟨rfl, rfl, trivial⟩ (g_X12_note_J32 l G v0 x1 h2)
  · exact xa_weak (ls' := [some (xR v0), some (xI x1), none, none]) ⟨rfl, rfl, trivial⟩ (g_X12_note_J32 l G v0 x1 h2)
theorem ct_X12_note (l : Launch) (G : xa_C) (v0 : Int) (h : xa_H) (r : Int × xa_H) (hr : f_X12_note v0 h = some r) : xa_CT l G 4 mX12_note yX12_note [xR v0] h (some (xI r.1), r.2) :=
  xa_met (by decide +kernel) rfl (fun q => by first | rfl | cases q) (Nat.le_of_ble_eq_true rfl) rfl (g_X12_note l G v0 h) (by rw [hr]; rfl)
abbrev mX12_octet : xa_M := (cX12_octet, 2, (some (.int)), RX12, false)
theorem d_X12_octet_0 : decode mX12_octet.1 0 = .ok (.iload_n 1, 1) ∧ 0 + 1 = 1 := ⟨by decide +kernel, rfl⟩
theorem d_X12_octet_1 : decode mX12_octet.1 1 = .ok (.ifCond .lt 20, 3) ∧ 1 + 3 = 4 ∧ ((1 : Nat) : Int) + 20 = ((21 : Nat) : Int) := ⟨by decide +kernel, rfl, rfl⟩
theorem d_X12_octet_21 : decode mX12_octet.1 21 = .ok (.iconst (-1), 1) ∧ 21 + 1 = 22 := ⟨by decide +kernel, rfl⟩
theorem d_X12_octet_22 : decode mX12_octet.1 22 = .ok (.ireturn, 1) := by decide +kernel
theorem d_X12_octet_4 : decode mX12_octet.1 4 = .ok (.iload_n 1, 1) ∧ 4 + 1 = 5 := ⟨by decide +kernel, rfl⟩
theorem d_X12_octet_5 : decode mX12_octet.1 5 = .ok (.aload_n 0, 1) ∧ 5 + 1 = 6 := ⟨by decide +kernel, rfl⟩
theorem d_X12_octet_6 : decode mX12_octet.1 6 = .ok (.getfield 685, 3) ∧ 6 + 3 = 9 := ⟨by decide +kernel, rfl⟩
theorem d_X12_octet_9 : decode mX12_octet.1 9 = .ok (.if_icmp .ge 12, 3) ∧ 9 + 3 = 12 ∧ ((9 : Nat) : Int) + 12 = ((21 : Nat) : Int) := ⟨by decide +kernel, rfl, rfl⟩
theorem d_X12_octet_12 : decode mX12_octet.1 12 = .ok (.aload_n 0, 1) ∧ 12 + 1 = 13 := ⟨by decide +kernel, rfl⟩
theorem d_X12_octet_13 : decode mX12_octet.1 13 = .ok (.getfield 243, 3) ∧ 13 + 3 = 16 := ⟨by decide +kernel, rfl⟩
theorem d_X12_octet_16 : decode mX12_octet.1 16 = .ok (.iload_n 1, 1) ∧ 16 + 1 = 17 := ⟨by decide +kernel, rfl⟩
theorem d_X12_octet_17 : decode mX12_octet.1 17 = .ok (.iaload, 1) ∧ 17 + 1 = 18 := ⟨by decide +kernel, rfl⟩
theorem d_X12_octet_18 : decode mX12_octet.1 18 = .ok (.goto 4, 3) ∧ ((18 : Nat) : Int) + 4 = ((22 : Nat) : Int) := ⟨by decide +kernel, rfl⟩
set_option maxRecDepth 100000 in
set_option maxHeartbeats 4000000 in
theorem g_X12_octet (l : Launch) (G : xa_C) (v0 v1 : Int) (h : xa_H) : xa_G l G 2 mX12_octet (f_X12_octet v0 v1 h) (fun r => some (some (xI r), h) : Int → Option xa_O) 0 [some (xR v0), some (xI v1)] [] h := by
  unfold f_X12_octet
  refine xa_step (xa_iload_n d_X12_octet_0 rfl) ?_
  refine xa_if (xa_iflt d_X12_octet_1) (fun q1 => ?_) (fun q1 => ?_)
  · refine xa_step (xa_iconst d_X12_octet_21 xq_i_m1) ?_
    exact xa_iret d_X12_octet_22 rfl rfl
  · refine xa_step (xa_iload_n d_X12_octet_4 rfl) ?_
    refine xa_step (xa_aload_n d_X12_octet_5 rfl) ?_
    refine xa_getf xI xc_12 (by decide) (fun _ => rfl) xw_1412 rfl d_X12_octet_6 (fun x2 _ => ?_)
    refine xa_if (xa_icmpge d_X12_octet_9) (fun q3 => ?_) (fun q3 => ?_)
    · refine xa_step (xa_aload_n d_X12_octet_12 rfl) ?_
      refine xa_getf xR xc_12 (by decide) (fun _ => rfl) xw_1411 rfl d_X12_octet_13 (fun x4 _ => ?_)
      refine xa_step (xa_iload_n d_X12_octet_16 rfl) ?_
      refine xa_iaload d_X12_octet_17 (fun x5 _ => ?_)
      refine xa_step (xa_goto d_X12_octet_18) ?_
      exact xa_iret d_X12_octet_22 rfl rfl
    · refine xa_step (xa_iconst d_X12_octet_21 xq_i_m1) ?_
      exact xa_iret d_X12_octet_22 rfl rfl
theorem ct_X12_octet (l : Launch) (G : xa_C) (v0 v1 : Int) (h : xa_H) (r : Int) (hr : f_X12_octet v0 v1 h = some r) : xa_CT l G 2 mX12_octet yX12_octet [xR v0, xI v1] h (some (xI r), h) :=
  xa_met (by decide +kernel) rfl (fun q => by first | rfl | cases q) (Nat.le_of_ble_eq_true rfl) rfl (g_X12_octet l G v0 v1 h) (by rw [hr]; rfl)
