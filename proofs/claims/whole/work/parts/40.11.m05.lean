abbrev mX11_met : xa_M := (cX11_met, 3, (some (.int)), RX11, false)
theorem d_X11_met_0 : decode mX11_met.1 0 = .ok (.aload_n 0, 1) ∧ 0 + 1 = 1 := ⟨by decide +kernel, rfl⟩
theorem d_X11_met_1 : decode mX11_met.1 1 = .ok (.iload_n 1, 1) ∧ 1 + 1 = 2 := ⟨by decide +kernel, rfl⟩
theorem d_X11_met_2 : decode mX11_met.1 2 = .ok (.invokevirtual 199, 3) ∧ 2 + 3 = 5 := ⟨by decide +kernel, rfl⟩
theorem d_X11_met_5 : decode mX11_met.1 5 = .ok (.ifCond .eq 28, 3) ∧ 5 + 3 = 8 ∧ ((5 : Nat) : Int) + 28 = ((33 : Nat) : Int) := ⟨by decide +kernel, rfl, rfl⟩
theorem d_X11_met_33 : decode mX11_met.1 33 = .ok (.iconst (-1), 1) ∧ 33 + 1 = 34 := ⟨by decide +kernel, rfl⟩
theorem d_X11_met_34 : decode mX11_met.1 34 = .ok (.ireturn, 1) := by decide +kernel
theorem d_X11_met_8 : decode mX11_met.1 8 = .ok (.aload_n 0, 1) ∧ 8 + 1 = 9 := ⟨by decide +kernel, rfl⟩
theorem d_X11_met_9 : decode mX11_met.1 9 = .ok (.iload_n 2, 1) ∧ 9 + 1 = 10 := ⟨by decide +kernel, rfl⟩
theorem d_X11_met_10 : decode mX11_met.1 10 = .ok (.invokevirtual 199, 3) ∧ 10 + 3 = 13 := ⟨by decide +kernel, rfl⟩
theorem d_X11_met_13 : decode mX11_met.1 13 = .ok (.ifCond .eq 20, 3) ∧ 13 + 3 = 16 ∧ ((13 : Nat) : Int) + 20 = ((33 : Nat) : Int) := ⟨by decide +kernel, rfl, rfl⟩
theorem d_X11_met_16 : decode mX11_met.1 16 = .ok (.aload_n 0, 1) ∧ 16 + 1 = 17 := ⟨by decide +kernel, rfl⟩
theorem d_X11_met_17 : decode mX11_met.1 17 = .ok (.getfield 54, 3) ∧ 17 + 3 = 20 := ⟨by decide +kernel, rfl⟩
theorem d_X11_met_20 : decode mX11_met.1 20 = .ok (.getfield 235, 3) ∧ 20 + 3 = 23 := ⟨by decide +kernel, rfl⟩
theorem d_X11_met_23 : decode mX11_met.1 23 = .ok (.iload_n 1, 1) ∧ 23 + 1 = 24 := ⟨by decide +kernel, rfl⟩
theorem d_X11_met_24 : decode mX11_met.1 24 = .ok (.bipush 6, 2) ∧ 24 + 2 = 26 := ⟨by decide +kernel, rfl⟩
theorem d_X11_met_26 : decode mX11_met.1 26 = .ok (.imul, 1) ∧ 26 + 1 = 27 := ⟨by decide +kernel, rfl⟩
theorem d_X11_met_27 : decode mX11_met.1 27 = .ok (.iload_n 2, 1) ∧ 27 + 1 = 28 := ⟨by decide +kernel, rfl⟩
theorem d_X11_met_28 : decode mX11_met.1 28 = .ok (.iadd, 1) ∧ 28 + 1 = 29 := ⟨by decide +kernel, rfl⟩
theorem d_X11_met_29 : decode mX11_met.1 29 = .ok (.iaload, 1) ∧ 29 + 1 = 30 := ⟨by decide +kernel, rfl⟩
theorem d_X11_met_30 : decode mX11_met.1 30 = .ok (.goto 4, 3) ∧ ((30 : Nat) : Int) + 4 = ((34 : Nat) : Int) := ⟨by decide +kernel, rfl⟩
set_option maxRecDepth 100000 in
set_option maxHeartbeats 4000000 in
theorem g_X11_met (l : Launch) (G : xa_C) (v0 v1 v2 : Int) (h : xa_H) : xa_G l G 3 mX11_met (f_X11_met v0 v1 v2 h) (fun r => some (some (xI r), h) : Int → Option xa_O) 0 [some (xR v0), some (xI v1), some (xI v2)] [] h := by
  unfold f_X11_met
  refine xa_step (xa_aload_n d_X11_met_0 rfl) ?_
  refine xa_step (xa_iload_n d_X11_met_1 rfl) ?_
  refine xa_callVi (as := [xI v1]) (st := []) (M' := mX11_isHolder) (d' := 2) rfl xw_921 xw_923 xw_33 xw_924 xw_161 xh_X11_isHolder rfl ⟨Nat.le_of_ble_eq_true rfl, Nat.le_of_ble_eq_true rfl⟩ (Nat.le_of_ble_eq_true rfl) rfl d_X11_met_2 (fun r hr => ct_X11_isHolder l G v0 v1 h r hr) (fun r1 _ => ?_)
  refine xa_if (xa_ifeq d_X11_met_5) (fun q2 => ?_) (fun q2 => ?_)
  · refine xa_step (xa_iconst d_X11_met_33 xq_i_m1) ?_
    exact xa_iret d_X11_met_34 rfl rfl
  · refine xa_step (xa_aload_n d_X11_met_8 rfl) ?_
    refine xa_step (xa_iload_n d_X11_met_9 rfl) ?_
    refine xa_callVi (as := [xI v2]) (st := []) (M' := mX11_isHolder) (d' := 2) rfl xw_921 xw_923 xw_33 xw_924 xw_161 xh_X11_isHolder rfl ⟨Nat.le_of_ble_eq_true rfl, Nat.le_of_ble_eq_true rfl⟩ (Nat.le_of_ble_eq_true rfl) rfl d_X11_met_10 (fun r hr => ct_X11_isHolder l G v0 v2 h r hr) (fun r3 _ => ?_)
    refine xa_if (xa_ifeq d_X11_met_13) (fun q4 => ?_) (fun q4 => ?_)
    · refine xa_step (xa_iconst d_X11_met_33 xq_i_m1) ?_
      exact xa_iret d_X11_met_34 rfl rfl
    · refine xa_step (xa_aload_n d_X11_met_16 rfl) ?_
      refine xa_getf xR xc_11 (by decide) (fun _ => rfl) xw_590 rfl d_X11_met_17 (fun x5 _ => ?_)
      refine xa_getf xR xc_9 (by decide) (fun _ => rfl) xw_357 rfl d_X11_met_20 (fun x6 _ => ?_)
      refine xa_step (xa_iload_n d_X11_met_23 rfl) ?_
      refine xa_step (xa_bipush d_X11_met_24 xq_b_6) ?_
      refine xa_step (xa_imul d_X11_met_26) ?_
      refine xa_step (xa_iload_n d_X11_met_27 rfl) ?_
      refine xa_step (xa_iadd d_X11_met_28) ?_
      refine xa_iaload d_X11_met_29 (fun x7 _ => ?_)
      refine xa_step (xa_goto d_X11_met_30) ?_
      exact xa_iret d_X11_met_34 rfl rfl
theorem ct_X11_met (l : Launch) (G : xa_C) (v0 v1 v2 : Int) (h : xa_H) (r : Int) (hr : f_X11_met v0 v1 v2 h = some r) : xa_CT l G 3 mX11_met yX11_met [xR v0, xI v1, xI v2] h (some (xI r), h) :=
  xa_met (by decide +kernel) rfl (fun q => by first | rfl | cases q) (Nat.le_of_ble_eq_true rfl) rfl (g_X11_met l G v0 v1 v2 h) (by rw [hr]; rfl)
abbrev mX11_moreBySwap : xa_M := (cX11_moreBySwap, 3, (some (.int)), RX11, false)
theorem d_X11_moreBySwap_0 : decode mX11_moreBySwap.1 0 = .ok (.aload_n 0, 1) ∧ 0 + 1 = 1 := ⟨by decide +kernel, rfl⟩
theorem d_X11_moreBySwap_1 : decode mX11_moreBySwap.1 1 = .ok (.getfield 47, 3) ∧ 1 + 3 = 4 := ⟨by decide +kernel, rfl⟩
theorem d_X11_moreBySwap_4 : decode mX11_moreBySwap.1 4 = .ok (.iload_n 1, 1) ∧ 4 + 1 = 5 := ⟨by decide +kernel, rfl⟩
theorem d_X11_moreBySwap_5 : decode mX11_moreBySwap.1 5 = .ok (.aload_n 0, 1) ∧ 5 + 1 = 6 := ⟨by decide +kernel, rfl⟩
theorem d_X11_moreBySwap_6 : decode mX11_moreBySwap.1 6 = .ok (.getfield 54, 3) ∧ 6 + 3 = 9 := ⟨by decide +kernel, rfl⟩
theorem d_X11_moreBySwap_9 : decode mX11_moreBySwap.1 9 = .ok (.getfield 217, 3) ∧ 9 + 3 = 12 := ⟨by decide +kernel, rfl⟩
theorem d_X11_moreBySwap_12 : decode mX11_moreBySwap.1 12 = .ok (.iload_n 2, 1) ∧ 12 + 1 = 13 := ⟨by decide +kernel, rfl⟩
theorem d_X11_moreBySwap_13 : decode mX11_moreBySwap.1 13 = .ok (.iaload, 1) ∧ 13 + 1 = 14 := ⟨by decide +kernel, rfl⟩
theorem d_X11_moreBySwap_14 : decode mX11_moreBySwap.1 14 = .ok (.invokevirtual 232, 3) ∧ 14 + 3 = 17 := ⟨by decide +kernel, rfl⟩
theorem d_X11_moreBySwap_17 : decode mX11_moreBySwap.1 17 = .ok (.aload_n 0, 1) ∧ 17 + 1 = 18 := ⟨by decide +kernel, rfl⟩
theorem d_X11_moreBySwap_18 : decode mX11_moreBySwap.1 18 = .ok (.getfield 47, 3) ∧ 18 + 3 = 21 := ⟨by decide +kernel, rfl⟩
theorem d_X11_moreBySwap_21 : decode mX11_moreBySwap.1 21 = .ok (.iload_n 1, 1) ∧ 21 + 1 = 22 := ⟨by decide +kernel, rfl⟩
theorem d_X11_moreBySwap_22 : decode mX11_moreBySwap.1 22 = .ok (.aload_n 0, 1) ∧ 22 + 1 = 23 := ⟨by decide +kernel, rfl⟩
theorem d_X11_moreBySwap_23 : decode mX11_moreBySwap.1 23 = .ok (.getfield 54, 3) ∧ 23 + 3 = 26 := ⟨by decide +kernel, rfl⟩
theorem d_X11_moreBySwap_26 : decode mX11_moreBySwap.1 26 = .ok (.getfield 217, 3) ∧ 26 + 3 = 29 := ⟨by decide +kernel, rfl⟩
theorem d_X11_moreBySwap_29 : decode mX11_moreBySwap.1 29 = .ok (.iload_n 1, 1) ∧ 29 + 1 = 30 := ⟨by decide +kernel, rfl⟩
theorem d_X11_moreBySwap_30 : decode mX11_moreBySwap.1 30 = .ok (.iaload, 1) ∧ 30 + 1 = 31 := ⟨by decide +kernel, rfl⟩
theorem d_X11_moreBySwap_31 : decode mX11_moreBySwap.1 31 = .ok (.invokevirtual 232, 3) ∧ 31 + 3 = 34 := ⟨by decide +kernel, rfl⟩
theorem d_X11_moreBySwap_34 : decode mX11_moreBySwap.1 34 = .ok (.isub, 1) ∧ 34 + 1 = 35 := ⟨by decide +kernel, rfl⟩
theorem d_X11_moreBySwap_35 : decode mX11_moreBySwap.1 35 = .ok (.aload_n 0, 1) ∧ 35 + 1 = 36 := ⟨by decide +kernel, rfl⟩
theorem d_X11_moreBySwap_36 : decode mX11_moreBySwap.1 36 = .ok (.getfield 47, 3) ∧ 36 + 3 = 39 := ⟨by decide +kernel, rfl⟩
theorem d_X11_moreBySwap_39 : decode mX11_moreBySwap.1 39 = .ok (.iload_n 2, 1) ∧ 39 + 1 = 40 := ⟨by decide +kernel, rfl⟩
theorem d_X11_moreBySwap_40 : decode mX11_moreBySwap.1 40 = .ok (.aload_n 0, 1) ∧ 40 + 1 = 41 := ⟨by decide +kernel, rfl⟩
theorem d_X11_moreBySwap_41 : decode mX11_moreBySwap.1 41 = .ok (.getfield 54, 3) ∧ 41 + 3 = 44 := ⟨by decide +kernel, rfl⟩
theorem d_X11_moreBySwap_44 : decode mX11_moreBySwap.1 44 = .ok (.getfield 217, 3) ∧ 44 + 3 = 47 := ⟨by decide +kernel, rfl⟩
theorem d_X11_moreBySwap_47 : decode mX11_moreBySwap.1 47 = .ok (.iload_n 1, 1) ∧ 47 + 1 = 48 := ⟨by decide +kernel, rfl⟩
theorem d_X11_moreBySwap_48 : decode mX11_moreBySwap.1 48 = .ok (.iaload, 1) ∧ 48 + 1 = 49 := ⟨by decide +kernel, rfl⟩
theorem d_X11_moreBySwap_49 : decode mX11_moreBySwap.1 49 = .ok (.invokevirtual 232, 3) ∧ 49 + 3 = 52 := ⟨by decide +kernel, rfl⟩
theorem d_X11_moreBySwap_52 : decode mX11_moreBySwap.1 52 = .ok (.iadd, 1) ∧ 52 + 1 = 53 := ⟨by decide +kernel, rfl⟩
theorem d_X11_moreBySwap_53 : decode mX11_moreBySwap.1 53 = .ok (.aload_n 0, 1) ∧ 53 + 1 = 54 := ⟨by decide +kernel, rfl⟩
theorem d_X11_moreBySwap_54 : decode mX11_moreBySwap.1 54 = .ok (.getfield 47, 3) ∧ 54 + 3 = 57 := ⟨by decide +kernel, rfl⟩
theorem d_X11_moreBySwap_57 : decode mX11_moreBySwap.1 57 = .ok (.iload_n 2, 1) ∧ 57 + 1 = 58 := ⟨by decide +kernel, rfl⟩
theorem d_X11_moreBySwap_58 : decode mX11_moreBySwap.1 58 = .ok (.aload_n 0, 1) ∧ 58 + 1 = 59 := ⟨by decide +kernel, rfl⟩
theorem d_X11_moreBySwap_59 : decode mX11_moreBySwap.1 59 = .ok (.getfield 54, 3) ∧ 59 + 3 = 62 := ⟨by decide +kernel, rfl⟩
theorem d_X11_moreBySwap_62 : decode mX11_moreBySwap.1 62 = .ok (.getfield 217, 3) ∧ 62 + 3 = 65 := ⟨by decide +kernel, rfl⟩
theorem d_X11_moreBySwap_65 : decode mX11_moreBySwap.1 65 = .ok (.iload_n 2, 1) ∧ 65 + 1 = 66 := ⟨by decide +kernel, rfl⟩
theorem d_X11_moreBySwap_66 : decode mX11_moreBySwap.1 66 = .ok (.iaload, 1) ∧ 66 + 1 = 67 := ⟨by decide +kernel, rfl⟩
theorem d_X11_moreBySwap_67 : decode mX11_moreBySwap.1 67 = .ok (.invokevirtual 232, 3) ∧ 67 + 3 = 70 := ⟨by decide +kernel, rfl⟩
theorem d_X11_moreBySwap_70 : decode mX11_moreBySwap.1 70 = .ok (.isub, 1) ∧ 70 + 1 = 71 := ⟨by decide +kernel, rfl⟩
theorem d_X11_moreBySwap_71 : decode mX11_moreBySwap.1 71 = .ok (.ireturn, 1) := by decide +kernel
set_option maxRecDepth 100000 in
set_option maxHeartbeats 4000000 in
theorem g_X11_moreBySwap (l : Launch) (G : xa_C) (v0 v1 v2 : Int) (h : xa_H) : xa_G l G 3 mX11_moreBySwap (f_X11_moreBySwap v0 v1 v2 h) (fun r => some (some (xI r), h) : Int → Option xa_O) 0 [some (xR v0), some (xI v1), some (xI v2)] [] h := by
  unfold f_X11_moreBySwap
  refine xa_step (xa_aload_n d_X11_moreBySwap_0 rfl) ?_
  refine xa_getf xR xc_11 (by decide) (fun _ => rfl) xw_589 rfl d_X11_moreBySwap_1 (fun x1 _ => ?_)
  refine xa_step (xa_iload_n d_X11_moreBySwap_4 rfl) ?_
  refine xa_step (xa_aload_n d_X11_moreBySwap_5 rfl) ?_
  refine xa_getf xR xc_11 (by decide) (fun _ => rfl) xw_590 rfl d_X11_moreBySwap_6 (fun x2 _ => ?_)
  refine xa_getf xR xc_9 (by decide) (fun _ => rfl) xw_346 rfl d_X11_moreBySwap_9 (fun x3 _ => ?_)
  refine xa_step (xa_iload_n d_X11_moreBySwap_12 rfl) ?_
  refine xa_iaload d_X11_moreBySwap_13 (fun x4 _ => ?_)
  refine xa_callVi (as := [xI v1, xI x4]) (st := []) (M' := mX0_valueOf) (d' := 2) rfl xw_906 xw_907 xw_908 xw_909 xw_169 xh_X0_valueOf rfl ⟨Nat.le_of_ble_eq_true rfl, Nat.le_of_ble_eq_true rfl⟩ (Nat.le_of_ble_eq_true rfl) rfl d_X11_moreBySwap_14 (fun r hr => ct_X0_valueOf l G x1 v1 x4 h r hr) (fun r5 _ => ?_)
  refine xa_step (xa_aload_n d_X11_moreBySwap_17 rfl) ?_
  refine xa_getf xR xc_11 (by decide) (fun _ => rfl) xw_589 rfl d_X11_moreBySwap_18 (fun x6 _ => ?_)
  refine xa_step (xa_iload_n d_X11_moreBySwap_21 rfl) ?_
  refine xa_step (xa_aload_n d_X11_moreBySwap_22 rfl) ?_
  refine xa_getf xR xc_11 (by decide) (fun _ => rfl) xw_590 rfl d_X11_moreBySwap_23 (fun x7 _ => ?_)
  refine xa_getf xR xc_9 (by decide) (fun _ => rfl) xw_346 rfl d_X11_moreBySwap_26 (fun x8 _ => ?_)
  refine xa_step (xa_iload_n d_X11_moreBySwap_29 rfl) ?_
  refine xa_iaload d_X11_moreBySwap_30 (fun x9 _ => ?_)
  refine xa_callVi (as := [xI v1, xI x9]) (st := [xI r5]) (M' := mX0_valueOf) (d' := 2) rfl xw_906 xw_907 xw_908 xw_909 xw_169 xh_X0_valueOf rfl ⟨Nat.le_of_ble_eq_true rfl, Nat.le_of_ble_eq_true rfl⟩ (Nat.le_of_ble_eq_true rfl) rfl d_X11_moreBySwap_31 (fun r hr => ct_X0_valueOf l G x6 v1 x9 h r hr) (fun r10 _ => ?_)
  refine xa_step (xa_isub d_X11_moreBySwap_34) ?_
  refine xa_step (xa_aload_n d_X11_moreBySwap_35 rfl) ?_
  refine xa_getf xR xc_11 (by decide) (fun _ => rfl) xw_589 rfl d_X11_moreBySwap_36 (fun x11 _ => ?_)
  refine xa_step (xa_iload_n d_X11_moreBySwap_39 rfl) ?_
  refine xa_step (xa_aload_n d_X11_moreBySwap_40 rfl) ?_
  refine xa_getf xR xc_11 (by decide) (fun _ => rfl) xw_590 rfl d_X11_moreBySwap_41 (fun x12 _ => ?_)
  refine xa_getf xR xc_9 (by decide) (fun _ => rfl) xw_346 rfl d_X11_moreBySwap_44 (fun x13 _ => ?_)
  refine xa_step (xa_iload_n d_X11_moreBySwap_47 rfl) ?_
  refine xa_iaload d_X11_moreBySwap_48 (fun x14 _ => ?_)
  refine xa_callVi (as := [xI v2, xI x14]) (st := [xI (w32 (r5 - r10))]) (M' := mX0_valueOf) (d' := 2) rfl xw_906 xw_907 xw_908 xw_909 xw_169 xh_X0_valueOf rfl ⟨Nat.le_of_ble_eq_true rfl, Nat.le_of_ble_eq_true rfl⟩ (Nat.le_of_ble_eq_true rfl) rfl d_X11_moreBySwap_49 (fun r hr => ct_X0_valueOf l G x11 v2 x14 h r hr) (fun r15 _ => ?_)
  refine xa_step (xa_iadd d_X11_moreBySwap_52) ?_
  refine xa_step (xa_aload_n d_X11_moreBySwap_53 rfl) ?_
  refine xa_getf xR xc_11 (by decide) (fun _ => rfl) xw_589 rfl d_X11_moreBySwap_54 (fun x16 _ => ?_)
  refine xa_step (xa_iload_n d_X11_moreBySwap_57 rfl) ?_
  refine xa_step (xa_aload_n d_X11_moreBySwap_58 rfl) ?_
  refine xa_getf xR xc_11 (by decide) (fun _ => rfl) xw_590 rfl d_X11_moreBySwap_59 (fun x17 _ => ?_)
  refine xa_getf xR xc_9 (by decide) (fun _ => rfl) xw_346 rfl d_X11_moreBySwap_62 (fun x18 _ => ?_)
  refine xa_step (xa_iload_n d_X11_moreBySwap_65 rfl) ?_
  refine xa_iaload d_X11_moreBySwap_66 (fun x19 _ => ?_)
  refine xa_callVi (as := [xI v2, xI x19]) (st := [xI (w32 ((w32 (r5 - r10)) + r15))]) (M' := mX0_valueOf) (d' := 2) rfl xw_906 xw_907 xw_908 xw_909 xw_169 xh_X0_valueOf rfl ⟨Nat.le_of_ble_eq_true rfl, Nat.le_of_ble_eq_true rfl⟩ (Nat.le_of_ble_eq_true rfl) rfl d_X11_moreBySwap_67 (fun r hr => ct_X0_valueOf l G x16 v2 x19 h r hr) (fun r20 _ => ?_)
  refine xa_step (xa_isub d_X11_moreBySwap_70) ?_
  exact xa_iret d_X11_moreBySwap_71 rfl rfl
theorem ct_X11_moreBySwap (l : Launch) (G : xa_C) (v0 v1 v2 : Int) (h : xa_H) (r : Int) (hr : f_X11_moreBySwap v0 v1 v2 h = some r) : xa_CT l G 3 mX11_moreBySwap yX11_moreBySwap [xR v0, xI v1, xI v2] h (some (xI r), h) :=
  xa_met (by decide +kernel) rfl (fun q => by first | rfl | cases q) (Nat.le_of_ble_eq_true rfl) rfl (g_X11_moreBySwap l G v0 v1 v2 h) (by rw [hr]; rfl)
abbrev mX11_needed : xa_M := (cX11_needed, 4, (some (.int)), RX11, false)
theorem d_X11_needed_0 : decode mX11_needed.1 0 = .ok (.aload_n 0, 1) ∧ 0 + 1 = 1 := ⟨by decide +kernel, rfl⟩
theorem d_X11_needed_1 : decode mX11_needed.1 1 = .ok (.iload_n 1, 1) ∧ 1 + 1 = 2 := ⟨by decide +kernel, rfl⟩
theorem d_X11_needed_2 : decode mX11_needed.1 2 = .ok (.invokevirtual 199, 3) ∧ 2 + 3 = 5 := ⟨by decide +kernel, rfl⟩
theorem d_X11_needed_5 : decode mX11_needed.1 5 = .ok (.ifCond .eq 10, 3) ∧ 5 + 3 = 8 ∧ ((5 : Nat) : Int) + 10 = ((15 : Nat) : Int) := ⟨by decide +kernel, rfl, rfl⟩
theorem d_X11_needed_15 : decode mX11_needed.1 15 = .ok (.iconst (-1), 1) ∧ 15 + 1 = 16 := ⟨by decide +kernel, rfl⟩
theorem d_X11_needed_16 : decode mX11_needed.1 16 = .ok (.ireturn, 1) := by decide +kernel
theorem d_X11_needed_8 : decode mX11_needed.1 8 = .ok (.aload_n 0, 1) ∧ 8 + 1 = 9 := ⟨by decide +kernel, rfl⟩
theorem d_X11_needed_9 : decode mX11_needed.1 9 = .ok (.invokevirtual 258, 3) ∧ 9 + 3 = 12 := ⟨by decide +kernel, rfl⟩
theorem d_X11_needed_12 : decode mX11_needed.1 12 = .ok (.ifCond .ne 5, 3) ∧ 12 + 3 = 15 ∧ ((12 : Nat) : Int) + 5 = ((17 : Nat) : Int) := ⟨by decide +kernel, rfl, rfl⟩
theorem d_X11_needed_17 : decode mX11_needed.1 17 = .ok (.iconst 1, 1) ∧ 17 + 1 = 18 := ⟨by decide +kernel, rfl⟩
theorem d_X11_needed_18 : decode mX11_needed.1 18 = .ok (.istore_n 2, 1) ∧ 18 + 1 = 19 := ⟨by decide +kernel, rfl⟩
theorem d_X11_needed_19 : decode mX11_needed.1 19 = .ok (.aload_n 0, 1) ∧ 19 + 1 = 20 := ⟨by decide +kernel, rfl⟩
theorem d_X11_needed_20 : decode mX11_needed.1 20 = .ok (.getfield 95, 3) ∧ 20 + 3 = 23 := ⟨by decide +kernel, rfl⟩
theorem d_X11_needed_23 : decode mX11_needed.1 23 = .ok (.iload_n 1, 1) ∧ 23 + 1 = 24 := ⟨by decide +kernel, rfl⟩
theorem d_X11_needed_24 : decode mX11_needed.1 24 = .ok (.iaload, 1) ∧ 24 + 1 = 25 := ⟨by decide +kernel, rfl⟩
theorem d_X11_needed_25 : decode mX11_needed.1 25 = .ok (.istore_n 3, 1) ∧ 25 + 1 = 26 := ⟨by decide +kernel, rfl⟩
theorem d_X11_needed_26 : decode mX11_needed.1 26 = .ok (.iload_n 3, 1) ∧ 26 + 1 = 27 := ⟨by decide +kernel, rfl⟩
theorem d_X11_needed_27 : decode mX11_needed.1 27 = .ok (.iload_n 1, 1) ∧ 27 + 1 = 28 := ⟨by decide +kernel, rfl⟩
theorem d_X11_needed_28 : decode mX11_needed.1 28 = .ok (.if_icmp .eq 22, 3) ∧ 28 + 3 = 31 ∧ ((28 : Nat) : Int) + 22 = ((50 : Nat) : Int) := ⟨by decide +kernel, rfl, rfl⟩
theorem d_X11_needed_31 : decode mX11_needed.1 31 = .ok (.iload_n 2, 1) ∧ 31 + 1 = 32 := ⟨by decide +kernel, rfl⟩
theorem d_X11_needed_32 : decode mX11_needed.1 32 = .ok (.bipush 6, 2) ∧ 32 + 2 = 34 := ⟨by decide +kernel, rfl⟩
theorem d_X11_needed_34 : decode mX11_needed.1 34 = .ok (.if_icmp .ge 16, 3) ∧ 34 + 3 = 37 ∧ ((34 : Nat) : Int) + 16 = ((50 : Nat) : Int) := ⟨by decide +kernel, rfl, rfl⟩
theorem d_X11_needed_37 : decode mX11_needed.1 37 = .ok (.iinc 2 1, 3) ∧ 37 + 3 = 40 := ⟨by decide +kernel, rfl⟩
theorem d_X11_needed_40 : decode mX11_needed.1 40 = .ok (.aload_n 0, 1) ∧ 40 + 1 = 41 := ⟨by decide +kernel, rfl⟩
theorem d_X11_needed_41 : decode mX11_needed.1 41 = .ok (.getfield 95, 3) ∧ 41 + 3 = 44 := ⟨by decide +kernel, rfl⟩
theorem d_X11_needed_44 : decode mX11_needed.1 44 = .ok (.iload_n 3, 1) ∧ 44 + 1 = 45 := ⟨by decide +kernel, rfl⟩
theorem d_X11_needed_45 : decode mX11_needed.1 45 = .ok (.iaload, 1) ∧ 45 + 1 = 46 := ⟨by decide +kernel, rfl⟩
theorem d_X11_needed_46 : decode mX11_needed.1 46 = .ok (.istore_n 3, 1) ∧ 46 + 1 = 47 := ⟨by decide +kernel, rfl⟩
theorem d_X11_needed_47 : decode mX11_needed.1 47 = .ok (.goto (-21), 3) ∧ ((47 : Nat) : Int) + (-21) = ((26 : Nat) : Int) := ⟨by decide +kernel, rfl⟩
set_option maxRecDepth 100000 in
set_option maxHeartbeats 4000000 in
theorem g_X11_needed_L26 (l : Launch) (G : xa_C) (c0 c1 : Int) (h : xa_H) (K : (Int × Int) ⊕ (Int) → Option xa_O) (hb : ∀ (v2 : Int) (v3 : Int), xa_G l G 4 mX11_needed (some (Sum.inl ((v2, v3)))) K 26 [some (xR c0), some (xI c1), some (xI v2), some (xI v3)] [] h) (hx : ∀ (v2 : Int), xa_G l G 4 mX11_needed (some (Sum.inr v2)) K 50 [none, none, some (xI v2), none] [] h) : ∀ (v2 : Int) (v3 : Int), xa_G l G 4 mX11_needed (f_X11_needed_L26 c0 c1 h v2 v3) K 26 [some (xR c0), some (xI c1), some (xI v2), some (xI v3)] [] h := by
  intro v2 v3
  unfold f_X11_needed_L26
  refine xa_step (xa_iload_n d_X11_needed_26 rfl) ?_
  refine xa_step (xa_iload_n d_X11_needed_27 rfl) ?_
  refine xa_if (xa_icmpeq d_X11_needed_28) (fun q7 => ?_) (fun q7 => ?_)
  · exact xa_weak (ls' := [none, none, some (xI v2), none]) ⟨rfl, trivial⟩ (hx v2)
  · refine xa_step (xa_iload_n d_X11_needed_31 rfl) ?_
    refine xa_step (xa_bipush d_X11_needed_32 xq_b_6) ?_
    refine xa_if (xa_icmpge d_X11_needed_34) (fun q8 => ?_) (fun q8 => ?_)
    · refine xa_step (xa_iinc (ls' := [some (xR c0), some (xI c1), some (xI (w32 (v2 + 1))), some (xI v3)]) d_X11_needed_37 xq_i_1 rfl (by decide) rfl) ?_
      refine xa_step (xa_aload_n d_X11_needed_40 rfl) ?_
      refine xa_getf xR xc_11 (by decide) (fun _ => rfl) xw_597 rfl d_X11_needed_41 (fun x9 _ => ?_)
      refine xa_step (xa_iload_n d_X11_needed_44 rfl) ?_
      refine xa_iaload d_X11_needed_45 (fun x10 _ => ?_)
      refine xa_step (xa_istore_n (ls' := [some (xR c0), some (xI c1), some (xI (w32 (v2 + 1))), some (xI x10)]) d_X11_needed_46 (by decide) rfl) ?_
      refine xa_step (xa_goto d_X11_needed_47) ?_
      exact xa_weak (ls' := [some (xR c0), some (xI c1), some (xI (w32 (v2 + 1))), some (xI x10)]) ⟨rfl, rfl, rfl, rfl, trivial⟩ (hb (w32 (v2 + 1)) x10)
    · exact xa_weak (ls' := [none, none, some (xI v2), none]) ⟨rfl, trivial⟩ (hx v2)
theorem d_X11_needed_50 : decode mX11_needed.1 50 = .ok (.iload_n 2, 1) ∧ 50 + 1 = 51 := ⟨by decide +kernel, rfl⟩
theorem d_X11_needed_51 : decode mX11_needed.1 51 = .ok (.ireturn, 1) := by decide +kernel
set_option maxRecDepth 100000 in
set_option maxHeartbeats 4000000 in
theorem g_X11_needed (l : Launch) (G : xa_C) (v0 v1 : Int) (h : xa_H) : xa_G l G 4 mX11_needed (f_X11_needed v0 v1 h) (fun r => some (some (xI r.1), r.2) : (Int × xa_H) → Option xa_O) 0 [some (xR v0), some (xI v1), none, none] [] h := by
  unfold f_X11_needed
  refine xa_step (xa_aload_n d_X11_needed_0 rfl) ?_
  refine xa_step (xa_iload_n d_X11_needed_1 rfl) ?_
  refine xa_callVi (as := [xI v1]) (st := []) (M' := mX11_isHolder) (d' := 2) rfl xw_921 xw_923 xw_33 xw_924 xw_161 xh_X11_isHolder rfl ⟨Nat.le_of_ble_eq_true rfl, Nat.le_of_ble_eq_true rfl⟩ (Nat.le_of_ble_eq_true rfl) rfl d_X11_needed_2 (fun r hr => ct_X11_isHolder l G v0 v1 h r hr) (fun r1 _ => ?_)
  refine xa_if (xa_ifeq d_X11_needed_5) (fun q2 => ?_) (fun q2 => ?_)
  · refine xa_step (xa_iconst d_X11_needed_15 xq_i_m1) ?_
    exact xa_iret d_X11_needed_16 rfl rfl
  · refine xa_step (xa_aload_n d_X11_needed_8 rfl) ?_
    refine xa_callVI (as := []) (st := []) (M' := mX11_findSources) (d' := 3) rfl xw_1026 xw_1028 xw_41 xw_1029 xw_161 xh_X11_findSources rfl ⟨Nat.le_of_ble_eq_true rfl, Nat.le_of_ble_eq_true rfl⟩ (Nat.le_of_ble_eq_true rfl) rfl d_X11_needed_9 (fun r hr => ct_X11_findSources l G v0 h r hr) (fun r3 _ => ?_)
    refine xa_if (xa_ifne d_X11_needed_12) (fun q4 => ?_) (fun q4 => ?_)
    · refine xa_step (xa_iconst d_X11_needed_15 xq_i_m1) ?_
      exact xa_iret d_X11_needed_16 rfl rfl
    · refine xa_step (xa_iconst d_X11_needed_17 xq_i_1) ?_
      refine xa_step (xa_istore_n (ls' := [some (xR v0), some (xI v1), some (xI 1), none]) d_X11_needed_18 (by decide) rfl) ?_
      refine xa_step (xa_aload_n d_X11_needed_19 rfl) ?_
      refine xa_getf xR xc_11 (by decide) (fun _ => rfl) xw_597 rfl d_X11_needed_20 (fun x5 _ => ?_)
      refine xa_step (xa_iload_n d_X11_needed_23 rfl) ?_
      refine xa_iaload d_X11_needed_24 (fun x6 _ => ?_)
      refine xa_step (xa_istore_n (ls' := [some (xR v0), some (xI v1), some (xI 1), some (xI x6)]) d_X11_needed_25 (by decide) rfl) ?_
      refine xa_weak (ls' := [some (xR v0), some (xI v1), some (xI 1), some (xI x6)]) ⟨rfl, rfl, rfl, rfl, trivial⟩ ?_
      refine xa_loop (f := fun s => f_X11_needed_L26 v0 v1 r3.2 s.1 s.2) (L := fun s => [some (xR v0), some (xI v1), some (xI s.1), some (xI s.2)]) (P := fun s => r3.2) (X := (fun x K => xa_G l G 4 mX11_needed (some (Sum.inr x)) K 50 [none, none, some (xI x), none] [] r3.2)) (fun K hb hX s => g_X11_needed_L26 l G v0 v1 r3.2 K (fun w0 w1 => hb ((w0, w1))) (fun w0 => hX w0) s.1 s.2) ?_ xFU ((1, x6))
      intro e11 K hK
      refine xa_eqE hK ?_
      show xa_G l G 4 mX11_needed _ _ 50 [none, none, some (xI e11), none] [] r3.2
      refine xa_step (xa_iload_n d_X11_needed_50 rfl) ?_
      exact xa_iret d_X11_needed_51 rfl rfl
theorem ct_X11_needed (l : Launch) (G : xa_C) (v0 v1 : Int) (h : xa_H) (r : Int × xa_H) (hr : f_X11_needed v0 v1 h = some r) : xa_CT l G 4 mX11_needed yX11_needed [xR v0, xI v1] h (some (xI r.1), r.2) :=
  xa_met (by decide +kernel) rfl (fun q => by first | rfl | cases q) (Nat.le_of_ble_eq_true rfl) rfl (g_X11_needed l G v0 v1 h) (by rw [hr]; rfl)
abbrev mX5_leftAtMost : xa_M := (cX5_leftAtMost, 2, (some (.int)), RX5, false)
theorem d_X5_leftAtMost_0 : decode mX5_leftAtMost.1 0 = .ok (.aload_n 0, 1) ∧ 0 + 1 = 1 := ⟨by decide +kernel, rfl⟩
theorem d_X5_leftAtMost_1 : decode mX5_leftAtMost.1 1 = .ok (.getfield 34, 3) ∧ 1 + 3 = 4 := ⟨by decide +kernel, rfl⟩
theorem d_X5_leftAtMost_4 : decode mX5_leftAtMost.1 4 = .ok (.iload_n 1, 1) ∧ 4 + 1 = 5 := ⟨by decide +kernel, rfl⟩
theorem d_X5_leftAtMost_5 : decode mX5_leftAtMost.1 5 = .ok (.iaload, 1) ∧ 5 + 1 = 6 := ⟨by decide +kernel, rfl⟩
theorem d_X5_leftAtMost_6 : decode mX5_leftAtMost.1 6 = .ok (.aload_n 0, 1) ∧ 6 + 1 = 7 := ⟨by decide +kernel, rfl⟩
theorem d_X5_leftAtMost_7 : decode mX5_leftAtMost.1 7 = .ok (.getfield 15, 3) ∧ 7 + 3 = 10 := ⟨by decide +kernel, rfl⟩
theorem d_X5_leftAtMost_10 : decode mX5_leftAtMost.1 10 = .ok (.aload_n 0, 1) ∧ 10 + 1 = 11 := ⟨by decide +kernel, rfl⟩
theorem d_X5_leftAtMost_11 : decode mX5_leftAtMost.1 11 = .ok (.getfield 34, 3) ∧ 11 + 3 = 14 := ⟨by decide +kernel, rfl⟩
theorem d_X5_leftAtMost_14 : decode mX5_leftAtMost.1 14 = .ok (.iload_n 1, 1) ∧ 14 + 1 = 15 := ⟨by decide +kernel, rfl⟩
theorem d_X5_leftAtMost_15 : decode mX5_leftAtMost.1 15 = .ok (.iaload, 1) ∧ 15 + 1 = 16 := ⟨by decide +kernel, rfl⟩
theorem d_X5_leftAtMost_16 : decode mX5_leftAtMost.1 16 = .ok (.isub, 1) ∧ 16 + 1 = 17 := ⟨by decide +kernel, rfl⟩
theorem d_X5_leftAtMost_17 : decode mX5_leftAtMost.1 17 = .ok (.invokestatic 62, 3) ∧ 17 + 3 = 20 := ⟨by decide +kernel, rfl⟩
theorem d_X5_leftAtMost_20 : decode mX5_leftAtMost.1 20 = .ok (.ireturn, 1) := by decide +kernel
set_option maxRecDepth 100000 in
set_option maxHeartbeats 4000000 in
theorem g_X5_leftAtMost (l : Launch) (G : xa_C) (v0 v1 : Int) (h : xa_H) : xa_G l G 2 mX5_leftAtMost (f_X5_leftAtMost v0 v1 h) (fun r => some (some (xI r), h) : Int → Option xa_O) 0 [some (xR v0), some (xI v1)] [] h := by
  unfold f_X5_leftAtMost
  refine xa_step (xa_aload_n d_X5_leftAtMost_0 rfl) ?_
  refine xa_getf xR xc_5 (by decide) (fun _ => rfl) xw_519 rfl d_X5_leftAtMost_1 (fun x1 _ => ?_)
  refine xa_step (xa_iload_n d_X5_leftAtMost_4 rfl) ?_
  refine xa_iaload d_X5_leftAtMost_5 (fun x2 _ => ?_)
  refine xa_step (xa_aload_n d_X5_leftAtMost_6 rfl) ?_
  refine xa_getf xI xc_5 (by decide) (fun _ => rfl) xw_512 rfl d_X5_leftAtMost_7 (fun x3 _ => ?_)
  refine xa_step (xa_aload_n d_X5_leftAtMost_10 rfl) ?_
  refine xa_getf xR xc_5 (by decide) (fun _ => rfl) xw_519 rfl d_X5_leftAtMost_11 (fun x4 _ => ?_)
  refine xa_step (xa_iload_n d_X5_leftAtMost_14 rfl) ?_
  refine xa_iaload d_X5_leftAtMost_15 (fun x5 _ => ?_)
  refine xa_step (xa_isub d_X5_leftAtMost_16) ?_
  refine xa_mmaxI xw_1183 xw_1006 xw_179 xw_1007 (by decide) (Nat.le_of_ble_eq_true rfl) d_X5_leftAtMost_17 ?_
  exact xa_iret d_X5_leftAtMost_20 rfl rfl
theorem ct_X5_leftAtMost (l : Launch) (G : xa_C) (v0 v1 : Int) (h : xa_H) (r : Int) (hr : f_X5_leftAtMost v0 v1 h = some r) : xa_CT l G 2 mX5_leftAtMost yX5_leftAtMost [xR v0, xI v1] h (some (xI r), h) :=
  xa_met (by decide +kernel) rfl (fun q => by first | rfl | cases q) (Nat.le_of_ble_eq_true rfl) rfl (g_X5_leftAtMost l G v0 v1 h) (by rw [hr]; rfl)
abbrev mX5_bestQuestion : xa_M := (cX5_bestQuestion, 5, (some (.int)), RX5, false)
theorem d_X5_bestQuestion_0 : decode mX5_bestQuestion.1 0 = .ok (.iconst 0, 1) ∧ 0 + 1 = 1 := ⟨by decide +kernel, rfl⟩
theorem d_X5_bestQuestion_1 : decode mX5_bestQuestion.1 1 = .ok (.istore_n 1, 1) ∧ 1 + 1 = 2 := ⟨by decide +kernel, rfl⟩
theorem d_X5_bestQuestion_2 : decode mX5_bestQuestion.1 2 = .ok (.iconst 0, 1) ∧ 2 + 1 = 3 := ⟨by decide +kernel, rfl⟩
theorem d_X5_bestQuestion_3 : decode mX5_bestQuestion.1 3 = .ok (.istore_n 2, 1) ∧ 3 + 1 = 4 := ⟨by decide +kernel, rfl⟩
theorem d_X5_bestQuestion_4 : decode mX5_bestQuestion.1 4 = .ok (.iload_n 2, 1) ∧ 4 + 1 = 5 := ⟨by decide +kernel, rfl⟩
theorem d_X5_bestQuestion_5 : decode mX5_bestQuestion.1 5 = .ok (.aload_n 0, 1) ∧ 5 + 1 = 6 := ⟨by decide +kernel, rfl⟩
theorem d_X5_bestQuestion_6 : decode mX5_bestQuestion.1 6 = .ok (.getfield 18, 3) ∧ 6 + 3 = 9 := ⟨by decide +kernel, rfl⟩
theorem d_X5_bestQuestion_9 : decode mX5_bestQuestion.1 9 = .ok (.if_icmp .ge 54, 3) ∧ 9 + 3 = 12 ∧ ((9 : Nat) : Int) + 54 = ((63 : Nat) : Int) := ⟨by decide +kernel, rfl, rfl⟩
theorem d_X5_bestQuestion_12 : decode mX5_bestQuestion.1 12 = .ok (.iconst 0, 1) ∧ 12 + 1 = 13 := ⟨by decide +kernel, rfl⟩
theorem d_X5_bestQuestion_13 : decode mX5_bestQuestion.1 13 = .ok (.istore_n 3, 1) ∧ 13 + 1 = 14 := ⟨by decide +kernel, rfl⟩
theorem d_X5_bestQuestion_14 : decode mX5_bestQuestion.1 14 = .ok (.iload_n 3, 1) ∧ 14 + 1 = 15 := ⟨by decide +kernel, rfl⟩
theorem d_X5_bestQuestion_15 : decode mX5_bestQuestion.1 15 = .ok (.aload_n 0, 1) ∧ 15 + 1 = 16 := ⟨by decide +kernel, rfl⟩
theorem d_X5_bestQuestion_16 : decode mX5_bestQuestion.1 16 = .ok (.getfield 21, 3) ∧ 16 + 3 = 19 := ⟨by decide +kernel, rfl⟩
theorem d_X5_bestQuestion_19 : decode mX5_bestQuestion.1 19 = .ok (.if_icmp .ge 38, 3) ∧ 19 + 3 = 22 ∧ ((19 : Nat) : Int) + 38 = ((57 : Nat) : Int) := ⟨by decide +kernel, rfl, rfl⟩
theorem d_X5_bestQuestion_22 : decode mX5_bestQuestion.1 22 = .ok (.iload_n 2, 1) ∧ 22 + 1 = 23 := ⟨by decide +kernel, rfl⟩
theorem d_X5_bestQuestion_23 : decode mX5_bestQuestion.1 23 = .ok (.bipush 6, 2) ∧ 23 + 2 = 25 := ⟨by decide +kernel, rfl⟩
theorem d_X5_bestQuestion_25 : decode mX5_bestQuestion.1 25 = .ok (.imul, 1) ∧ 25 + 1 = 26 := ⟨by decide +kernel, rfl⟩
theorem d_X5_bestQuestion_26 : decode mX5_bestQuestion.1 26 = .ok (.iload_n 3, 1) ∧ 26 + 1 = 27 := ⟨by decide +kernel, rfl⟩
theorem d_X5_bestQuestion_27 : decode mX5_bestQuestion.1 27 = .ok (.iadd, 1) ∧ 27 + 1 = 28 := ⟨by decide +kernel, rfl⟩
theorem d_X5_bestQuestion_28 : decode mX5_bestQuestion.1 28 = .ok (.istore 4, 2) ∧ 28 + 2 = 30 := ⟨by decide +kernel, rfl⟩
theorem d_X5_bestQuestion_30 : decode mX5_bestQuestion.1 30 = .ok (.aload_n 0, 1) ∧ 30 + 1 = 31 := ⟨by decide +kernel, rfl⟩
theorem d_X5_bestQuestion_31 : decode mX5_bestQuestion.1 31 = .ok (.iload 4, 2) ∧ 31 + 2 = 33 := ⟨by decide +kernel, rfl⟩
theorem d_X5_bestQuestion_33 : decode mX5_bestQuestion.1 33 = .ok (.invokevirtual 59, 3) ∧ 33 + 3 = 36 := ⟨by decide +kernel, rfl⟩
theorem d_X5_bestQuestion_36 : decode mX5_bestQuestion.1 36 = .ok (.aload_n 0, 1) ∧ 36 + 1 = 37 := ⟨by decide +kernel, rfl⟩
theorem d_X5_bestQuestion_37 : decode mX5_bestQuestion.1 37 = .ok (.iload_n 1, 1) ∧ 37 + 1 = 38 := ⟨by decide +kernel, rfl⟩
theorem d_X5_bestQuestion_38 : decode mX5_bestQuestion.1 38 = .ok (.invokevirtual 59, 3) ∧ 38 + 3 = 41 := ⟨by decide +kernel, rfl⟩
theorem d_X5_bestQuestion_41 : decode mX5_bestQuestion.1 41 = .ok (.if_icmp .ge 8, 3) ∧ 41 + 3 = 44 ∧ ((41 : Nat) : Int) + 8 = ((49 : Nat) : Int) := ⟨by decide +kernel, rfl, rfl⟩
theorem d_X5_bestQuestion_44 : decode mX5_bestQuestion.1 44 = .ok (.iload 4, 2) ∧ 44 + 2 = 46 := ⟨by decide +kernel, rfl⟩
theorem d_X5_bestQuestion_46 : decode mX5_bestQuestion.1 46 = .ok (.goto 4, 3) ∧ ((46 : Nat) : Int) + 4 = ((50 : Nat) : Int) := ⟨by decide +kernel, rfl⟩
theorem d_X5_bestQuestion_50 : decode mX5_bestQuestion.1 50 = .ok (.istore_n 1, 1) ∧ 50 + 1 = 51 := ⟨by decide +kernel, rfl⟩
theorem d_X5_bestQuestion_51 : decode mX5_bestQuestion.1 51 = .ok (.iinc 3 1, 3) ∧ 51 + 3 = 54 := ⟨by decide +kernel, rfl⟩
theorem d_X5_bestQuestion_54 : decode mX5_bestQuestion.1 54 = .ok (.goto (-40), 3) ∧ ((54 : Nat) : Int) + (-40) = ((14 : Nat) : Int) := ⟨by decide +kernel, rfl⟩
theorem d_X5_bestQuestion_49 : decode mX5_bestQuestion.1 49 = .ok (.iload_n 1, 1) ∧ 49 + 1 = 50 := ⟨by decide +kernel, rfl⟩
set_option maxRecDepth 100000 in
set_option maxHeartbeats 4000000 in
theorem g_X5_bestQuestion_L14 (l : Launch) (G : xa_C) (c0 c2 : Int) (h : xa_H) (K : (Int × Int) ⊕ (Int) → Option xa_O) (hb : ∀ (v1 : Int) (v3 : Int), xa_G l G 3 mX5_bestQuestion (some (Sum.inl ((v1, v3)))) K 14 [some (xR c0), some (xI v1), some (xI c2), some (xI v3), none] [] h) (hx : ∀ (v1 : Int), xa_G l G 3 mX5_bestQuestion (some (Sum.inr v1)) K 57 [some (xR c0), some (xI v1), some (xI c2), none, none] [] h) : ∀ (v1 : Int) (v3 : Int), xa_G l G 3 mX5_bestQuestion (f_X5_bestQuestion_L14 c0 c2 h v1 v3) K 14 [some (xR c0), some (xI v1), some (xI c2), some (xI v3), none] [] h := by
  intro v1 v3
  unfold f_X5_bestQuestion_L14
  refine xa_step (xa_iload_n d_X5_bestQuestion_14 rfl) ?_
  refine xa_step (xa_aload_n d_X5_bestQuestion_15 rfl) ?_
  refine xa_getf xI xc_5 (by decide) (fun _ => rfl) xw_515 rfl d_X5_bestQuestion_16 (fun x3 _ => ?_)
  refine xa_if (xa_icmpge d_X5_bestQuestion_19) (fun q4 => ?_) (fun q4 => ?_)
  · refine xa_step (xa_iload_n d_X5_bestQuestion_22 rfl) ?_
    refine xa_step (xa_bipush d_X5_bestQuestion_23 xq_b_6) ?_
    refine xa_step (xa_imul d_X5_bestQuestion_25) ?_
    refine xa_step (xa_iload_n d_X5_bestQuestion_26 rfl) ?_
    refine xa_step (xa_iadd d_X5_bestQuestion_27) ?_
    refine xa_step (xa_istore (ls' := [some (xR c0), some (xI v1), some (xI c2), some (xI v3), some (xI (w32 ((w32 (c2 * 6)) + v3)))]) d_X5_bestQuestion_28 (by decide) rfl) ?_
    refine xa_step (xa_aload_n d_X5_bestQuestion_30 rfl) ?_
    refine xa_step (xa_iload d_X5_bestQuestion_31 rfl) ?_
    refine xa_callVi (as := [xI (w32 ((w32 (c2 * 6)) + v3))]) (st := []) (M' := mX5_leftAtMost) (d' := 2) rfl xw_1179 xw_1180 xw_1181 xw_1182 xw_174 xh_X5_leftAtMost rfl ⟨Nat.le_of_ble_eq_true rfl, Nat.le_of_ble_eq_true rfl⟩ (Nat.le_of_ble_eq_true rfl) rfl d_X5_bestQuestion_33 (fun r hr => ct_X5_leftAtMost l G c0 (w32 ((w32 (c2 * 6)) + v3)) h r hr) (fun r5 _ => ?_)
    refine xa_step (xa_aload_n d_X5_bestQuestion_36 rfl) ?_
    refine xa_step (xa_iload_n d_X5_bestQuestion_37 rfl) ?_
    refine xa_callVi (as := [xI v1]) (st := [xI r5]) (M' := mX5_leftAtMost) (d' := 2) rfl xw_1179 xw_1180 xw_1181 xw_1182 xw_174 xh_X5_leftAtMost rfl ⟨Nat.le_of_ble_eq_true rfl, Nat.le_of_ble_eq_true rfl⟩ (Nat.le_of_ble_eq_true rfl) rfl d_X5_bestQuestion_38 (fun r hr => ct_X5_leftAtMost l G c0 v1 h r hr) (fun r6 _ => ?_)
    refine xa_if (xa_icmpge d_X5_bestQuestion_41) (fun q7 => ?_) (fun q7 => ?_)
    · refine xa_step (xa_iload d_X5_bestQuestion_44 rfl) ?_
      refine xa_step (xa_goto d_X5_bestQuestion_46) ?_
      refine xa_step (xa_istore_n (ls' := [some (xR c0), some (xI (w32 ((w32 (c2 * 6)) + v3))), some (xI c2), some (xI v3), some (xI (w32 ((w32 (c2 * 6)) + v3)))]) d_X5_bestQuestion_50 (by decide) rfl) ?_
      refine xa_step (xa_iinc (ls' := [some (xR c0), some (xI (w32 ((w32 (c2 * 6)) + v3))), some (xI c2), some (xI (w32 (v3 + 1))), some (xI (w32 ((w32 (c2 * 6)) + v3)))]) d_X5_bestQuestion_51 xq_i_1 rfl (by decide) rfl) ?_
      refine xa_step (xa_goto d_X5_bestQuestion_54) ?_
      exact xa_weak (ls' := [some (xR c0), some (xI (w32 ((w32 (c2 * 6)) + v3))), some (xI c2), some (xI (w32 (v3 + 1))), none]) ⟨rfl, rfl, rfl, rfl, trivial⟩ (hb (w32 ((w32 (c2 * 6)) + v3)) (w32 (v3 + 1)))
    · refine xa_step (xa_iload_n d_X5_bestQuestion_49 rfl) ?_
      refine xa_step (xa_istore_n (ls' := [some (xR c0), some (xI v1), some (xI c2), some (xI v3), some (xI (w32 ((w32 (c2 * 6)) + v3)))]) d_X5_bestQuestion_50 (by decide) rfl) ?_
      refine xa_step (xa_iinc (ls' := [some (xR c0), some (xI v1), some (xI c2), some (xI (w32 (v3 + 1))), some (xI (w32 ((w32 (c2 * 6)) + v3)))]) d_X5_bestQuestion_51 xq_i_1 rfl (by decide) rfl) ?_
      refine xa_step (xa_goto d_X5_bestQuestion_54) ?_
      exact xa_weak (ls' := [some (xR c0), some (xI v1), some (xI c2), some (xI (w32 (v3 + 1))), none]) ⟨rfl, rfl, rfl, rfl, trivial⟩ (hb v1 (w32 (v3 + 1)))
  · exact xa_weak (ls' := [some (xR c0), some (xI v1), some (xI c2), none, none]) ⟨rfl, rfl, rfl, trivial⟩ (hx v1)
theorem d_X5_bestQuestion_57 : decode mX5_bestQuestion.1 57 = .ok (.iinc 2 1, 3) ∧ 57 + 3 = 60 := ⟨by decide +kernel, rfl⟩
theorem d_X5_bestQuestion_60 : decode mX5_bestQuestion.1 60 = .ok (.goto (-56), 3) ∧ ((60 : Nat) : Int) + (-56) = ((4 : Nat) : Int) := ⟨by decide +kernel, rfl⟩
set_option maxRecDepth 100000 in
set_option maxHeartbeats 4000000 in
theorem g_X5_bestQuestion_L4 (l : Launch) (G : xa_C) (c0 : Int) (h : xa_H) (K : (Int × Int) ⊕ (Int) → Option xa_O) (hb : ∀ (v1 : Int) (v2 : Int), xa_G l G 3 mX5_bestQuestion (some (Sum.inl ((v1, v2)))) K 4 [some (xR c0), some (xI v1), some (xI v2), none, none] [] h) (hx : ∀ (v1 : Int), xa_G l G 3 mX5_bestQuestion (some (Sum.inr v1)) K 63 [none, some (xI v1), none, none, none] [] h) : ∀ (v1 : Int) (v2 : Int), xa_G l G 3 mX5_bestQuestion (f_X5_bestQuestion_L4 c0 h v1 v2) K 4 [some (xR c0), some (xI v1), some (xI v2), none, none] [] h := by
  intro v1 v2
  unfold f_X5_bestQuestion_L4
  refine xa_step (xa_iload_n d_X5_bestQuestion_4 rfl) ?_
  refine xa_step (xa_aload_n d_X5_bestQuestion_5 rfl) ?_
  refine xa_getf xI xc_5 (by decide) (fun _ => rfl) xw_514 rfl d_X5_bestQuestion_6 (fun x1 _ => ?_)
  refine xa_if (xa_icmpge d_X5_bestQuestion_9) (fun q2 => ?_) (fun q2 => ?_)
  · refine xa_step (xa_iconst d_X5_bestQuestion_12 xq_i_0) ?_
    refine xa_step (xa_istore_n (ls' := [some (xR c0), some (xI v1), some (xI v2), some (xI 0), none]) d_X5_bestQuestion_13 (by decide) rfl) ?_
    refine xa_weak (ls' := [some (xR c0), some (xI v1), some (xI v2), some (xI 0), none]) ⟨rfl, rfl, rfl, rfl, trivial⟩ ?_
    refine xa_loop (f := fun s => f_X5_bestQuestion_L14 c0 v2 h s.1 s.2) (L := fun s => [some (xR c0), some (xI s.1), some (xI v2), some (xI s.2), none]) (P := fun s => h) (X := (fun x K => xa_G l G 3 mX5_bestQuestion (some (Sum.inr x)) K 57 [some (xR c0), some (xI x), some (xI v2), none, none] [] h)) (fun K hb hX s => g_X5_bestQuestion_L14 l G c0 v2 h K (fun w0 w1 => hb ((w0, w1))) (fun w0 => hX w0) s.1 s.2) ?_ xFU ((v1, 0))
    intro e8 K hK
    refine xa_eqE hK ?_
    show xa_G l G 3 mX5_bestQuestion _ _ 57 [some (xR c0), some (xI e8), some (xI v2), none, none] [] h
    refine xa_step (xa_iinc (ls' := [some (xR c0), some (xI e8), some (xI (w32 (v2 + 1))), none, none]) d_X5_bestQuestion_57 xq_i_1 rfl (by decide) rfl) ?_
    refine xa_step (xa_goto d_X5_bestQuestion_60) ?_
    exact xa_weak (ls' := [some (xR c0), some (xI e8), some (xI (w32 (v2 + 1))), none, none]) ⟨rfl, rfl, rfl, trivial⟩ (hb e8 (w32 (v2 + 1)))
  · exact xa_weak (ls' := [none, some (xI v1), none, none, none]) ⟨rfl, trivial⟩ (hx v1)
theorem d_X5_bestQuestion_63 : decode mX5_bestQuestion.1 63 = .ok (.iload_n 1, 1) ∧ 63 + 1 = 64 := ⟨by decide +kernel, rfl⟩
theorem d_X5_bestQuestion_64 : decode mX5_bestQuestion.1 64 = .ok (.ireturn, 1) := by decide +kernel
set_option maxRecDepth 100000 in
set_option maxHeartbeats 4000000 in
theorem g_X5_bestQuestion (l : Launch) (G : xa_C) (v0 : Int) (h : xa_H) : xa_G l G 3 mX5_bestQuestion (f_X5_bestQuestion v0 h) (fun r => some (some (xI r), h) : Int → Option xa_O) 0 [some (xR v0), none, none, none, none] [] h := by
  unfold f_X5_bestQuestion
  refine xa_step (xa_iconst d_X5_bestQuestion_0 xq_i_0) ?_
  refine xa_step (xa_istore_n (ls' := [some (xR v0), some (xI 0), none, none, none]) d_X5_bestQuestion_1 (by decide) rfl) ?_
  refine xa_step (xa_iconst d_X5_bestQuestion_2 xq_i_0) ?_
  refine xa_step (xa_istore_n (ls' := [some (xR v0), some (xI 0), some (xI 0), none, none]) d_X5_bestQuestion_3 (by decide) rfl) ?_
  refine xa_weak (ls' := [some (xR v0), some (xI 0), some (xI 0), none, none]) ⟨rfl, rfl, rfl, trivial⟩ ?_
  refine xa_loop (f := fun s => f_X5_bestQuestion_L4 v0 h s.1 s.2) (L := fun s => [some (xR v0), some (xI s.1), some (xI s.2), none, none]) (P := fun s => h) (X := (fun x K => xa_G l G 3 mX5_bestQuestion (some (Sum.inr x)) K 63 [none, some (xI x), none, none, none] [] h)) (fun K hb hX s => g_X5_bestQuestion_L4 l G v0 h K (fun w0 w1 => hb ((w0, w1))) (fun w0 => hX w0) s.1 s.2) ?_ xFU ((0, 0))
  intro e9 K hK
  refine xa_eqE hK ?_
  show xa_G l G 3 mX5_bestQuestion _ _ 63 [none, some (xI e9), none, none, none] [] h
  refine xa_step (xa_iload_n d_X5_bestQuestion_63 rfl) ?_
  exact xa_iret d_X5_bestQuestion_64 rfl rfl
theorem ct_X5_bestQuestion (l : Launch) (G : xa_C) (v0 : Int) (h : xa_H) (r : Int) (hr : f_X5_bestQuestion v0 h = some r) : xa_CT l G 3 mX5_bestQuestion yX5_bestQuestion [xR v0] h (some (xI r), h) :=
  xa_met (by decide +kernel) rfl (fun q => by first | rfl | cases q) (Nat.le_of_ble_eq_true rfl) rfl (g_X5_bestQuestion l G v0 h) (by rw [hr]; rfl)
abbrev mX11_next : xa_M := (cX11_next, 3, (some (.int)), RX11, false)
theorem d_X11_next_0 : decode mX11_next.1 0 = .ok (.aload_n 0, 1) ∧ 0 + 1 = 1 := ⟨by decide +kernel, rfl⟩
theorem d_X11_next_1 : decode mX11_next.1 1 = .ok (.getfield 47, 3) ∧ 1 + 3 = 4 := ⟨by decide +kernel, rfl⟩
theorem d_X11_next_4 : decode mX11_next.1 4 = .ok (.getfield 146, 3) ∧ 4 + 3 = 7 := ⟨by decide +kernel, rfl⟩
theorem d_X11_next_7 : decode mX11_next.1 7 = .ok (.ifCond .eq 13, 3) ∧ 7 + 3 = 10 ∧ ((7 : Nat) : Int) + 13 = ((20 : Nat) : Int) := ⟨by decide +kernel, rfl, rfl⟩
theorem d_X11_next_20 : decode mX11_next.1 20 = .ok (.iconst (-1), 1) ∧ 20 + 1 = 21 := ⟨by decide +kernel, rfl⟩
theorem d_X11_next_21 : decode mX11_next.1 21 = .ok (.ireturn, 1) := by decide +kernel
theorem d_X11_next_10 : decode mX11_next.1 10 = .ok (.aload_n 0, 1) ∧ 10 + 1 = 11 := ⟨by decide +kernel, rfl⟩
theorem d_X11_next_11 : decode mX11_next.1 11 = .ok (.getfield 78, 3) ∧ 11 + 3 = 14 := ⟨by decide +kernel, rfl⟩
theorem d_X11_next_14 : decode mX11_next.1 14 = .ok (.getfield 313, 3) ∧ 14 + 3 = 17 := ⟨by decide +kernel, rfl⟩
theorem d_X11_next_17 : decode mX11_next.1 17 = .ok (.ifCond .ne 5, 3) ∧ 17 + 3 = 20 ∧ ((17 : Nat) : Int) + 5 = ((22 : Nat) : Int) := ⟨by decide +kernel, rfl, rfl⟩
theorem d_X11_next_22 : decode mX11_next.1 22 = .ok (.aload_n 0, 1) ∧ 22 + 1 = 23 := ⟨by decide +kernel, rfl⟩
theorem d_X11_next_23 : decode mX11_next.1 23 = .ok (.getfield 78, 3) ∧ 23 + 3 = 26 := ⟨by decide +kernel, rfl⟩
theorem d_X11_next_26 : decode mX11_next.1 26 = .ok (.invokevirtual 319, 3) ∧ 26 + 3 = 29 := ⟨by decide +kernel, rfl⟩
theorem d_X11_next_29 : decode mX11_next.1 29 = .ok (.istore_n 2, 1) ∧ 29 + 1 = 30 := ⟨by decide +kernel, rfl⟩
theorem d_X11_next_30 : decode mX11_next.1 30 = .ok (.iload_n 1, 1) ∧ 30 + 1 = 31 := ⟨by decide +kernel, rfl⟩
theorem d_X11_next_31 : decode mX11_next.1 31 = .ok (.tableswitch 44 0 2 #[25, 30, 35], 25) := by decide +kernel
theorem d_X11_next_56 : decode mX11_next.1 56 = .ok (.iload_n 2, 1) ∧ 56 + 1 = 57 := ⟨by decide +kernel, rfl⟩
theorem d_X11_next_57 : decode mX11_next.1 57 = .ok (.bipush 6, 2) ∧ 57 + 2 = 59 := ⟨by decide +kernel, rfl⟩
theorem d_X11_next_59 : decode mX11_next.1 59 = .ok (.idiv, 1) ∧ 59 + 1 = 60 := ⟨by decide +kernel, rfl⟩
theorem d_X11_next_60 : decode mX11_next.1 60 = .ok (.ireturn, 1) := by decide +kernel
theorem d_X11_next_61 : decode mX11_next.1 61 = .ok (.iload_n 2, 1) ∧ 61 + 1 = 62 := ⟨by decide +kernel, rfl⟩
theorem d_X11_next_62 : decode mX11_next.1 62 = .ok (.bipush 6, 2) ∧ 62 + 2 = 64 := ⟨by decide +kernel, rfl⟩
theorem d_X11_next_64 : decode mX11_next.1 64 = .ok (.irem, 1) ∧ 64 + 1 = 65 := ⟨by decide +kernel, rfl⟩
theorem d_X11_next_65 : decode mX11_next.1 65 = .ok (.ireturn, 1) := by decide +kernel
theorem d_X11_next_66 : decode mX11_next.1 66 = .ok (.aload_n 0, 1) ∧ 66 + 1 = 67 := ⟨by decide +kernel, rfl⟩
theorem d_X11_next_67 : decode mX11_next.1 67 = .ok (.getfield 78, 3) ∧ 67 + 3 = 70 := ⟨by decide +kernel, rfl⟩
theorem d_X11_next_70 : decode mX11_next.1 70 = .ok (.iload_n 2, 1) ∧ 70 + 1 = 71 := ⟨by decide +kernel, rfl⟩
theorem d_X11_next_71 : decode mX11_next.1 71 = .ok (.invokevirtual 322, 3) ∧ 71 + 3 = 74 := ⟨by decide +kernel, rfl⟩
theorem d_X11_next_74 : decode mX11_next.1 74 = .ok (.ireturn, 1) := by decide +kernel
theorem d_X11_next_75 : decode mX11_next.1 75 = .ok (.iconst (-1), 1) ∧ 75 + 1 = 76 := ⟨by decide +kernel, rfl⟩
theorem d_X11_next_76 : decode mX11_next.1 76 = .ok (.ireturn, 1) := by decide +kernel
set_option maxRecDepth 100000 in
set_option maxHeartbeats 4000000 in
theorem g_X11_next (l : Launch) (G : xa_C) (v0 v1 : Int) (h : xa_H) : xa_G l G 4 mX11_next (f_X11_next v0 v1 h) (fun r => some (some (xI r), h) : Int → Option xa_O) 0 [some (xR v0), some (xI v1), none] [] h := by
  unfold f_X11_next
  refine xa_step (xa_aload_n d_X11_next_0 rfl) ?_
  refine xa_getf xR xc_11 (by decide) (fun _ => rfl) xw_589 rfl d_X11_next_1 (fun x1 _ => ?_)
  refine xa_getf xI xc_0 (by decide) (fun _ => rfl) xw_391 rfl d_X11_next_4 (fun x2 _ => ?_)
  refine xa_if (xa_ifeq d_X11_next_7) (fun q3 => ?_) (fun q3 => ?_)
  · refine xa_step (xa_iconst d_X11_next_20 xq_i_m1) ?_
    exact xa_iret d_X11_next_21 rfl rfl
  · refine xa_step (xa_aload_n d_X11_next_10 rfl) ?_
    refine xa_getf xR xc_11 (by decide) (fun _ => rfl) xw_594 rfl d_X11_next_11 (fun x4 _ => ?_)
    refine xa_getf xI xc_5 (by decide) (fun _ => rfl) xw_513 rfl d_X11_next_14 (fun x5 _ => ?_)
    refine xa_if (xa_ifne d_X11_next_17) (fun q6 => ?_) (fun q6 => ?_)
    · refine xa_step (xa_iconst d_X11_next_20 xq_i_m1) ?_
      exact xa_iret d_X11_next_21 rfl rfl
    · refine xa_step (xa_aload_n d_X11_next_22 rfl) ?_
      refine xa_getf xR xc_11 (by decide) (fun _ => rfl) xw_594 rfl d_X11_next_23 (fun x7 _ => ?_)
      refine xa_callVi (as := []) (st := []) (M' := mX5_bestQuestion) (d' := 3) rfl xw_1175 xw_1176 xw_1177 xw_1178 xw_174 xh_X5_bestQuestion rfl ⟨Nat.le_of_ble_eq_true rfl, Nat.le_of_ble_eq_true rfl⟩ (Nat.le_of_ble_eq_true rfl) rfl d_X11_next_26 (fun r hr => ct_X5_bestQuestion l G x7 h r hr) (fun r8 _ => ?_)
      refine xa_step (xa_istore_n (ls' := [some (xR v0), some (xI v1), some (xI r8)]) d_X11_next_29 (by decide) rfl) ?_
      refine xa_step (xa_iload_n d_X11_next_30 rfl) ?_
      refine xa_case (fun q9 => ?_) (fun q9 => ?_)
      · refine xa_step (xa_tabIn (k := 0) d_X11_next_31 q9 (by decide) (by decide) rfl rfl) ?_
        refine xa_step (xa_iload_n d_X11_next_56 rfl) ?_
        refine xa_step (xa_bipush d_X11_next_57 xq_b_6) ?_
        refine xa_step (xa_idiv d_X11_next_59 (by decide)) ?_
        exact xa_iret d_X11_next_60 rfl rfl
      · refine xa_case (fun q10 => ?_) (fun q10 => ?_)
        · refine xa_step (xa_tabIn (k := 1) d_X11_next_31 q10 (by decide) (by decide) rfl rfl) ?_
          refine xa_step (xa_iload_n d_X11_next_61 rfl) ?_
          refine xa_step (xa_bipush d_X11_next_62 xq_b_6) ?_
          refine xa_step (xa_irem d_X11_next_64 (by decide)) ?_
          exact xa_iret d_X11_next_65 rfl rfl
        · refine xa_case (fun q11 => ?_) (fun q11 => ?_)
          · refine xa_step (xa_tabIn (k := 2) d_X11_next_31 q11 (by decide) (by decide) rfl rfl) ?_
            refine xa_step (xa_aload_n d_X11_next_66 rfl) ?_
            refine xa_getf xR xc_11 (by decide) (fun _ => rfl) xw_594 rfl d_X11_next_67 (fun x12 _ => ?_)
            refine xa_step (xa_iload_n d_X11_next_70 rfl) ?_
            refine xa_callVi (as := [xI r8]) (st := []) (M' := mX5_leftAtMost) (d' := 2) rfl xw_1184 xw_1180 xw_1181 xw_1182 xw_174 xh_X5_leftAtMost rfl ⟨Nat.le_of_ble_eq_true rfl, Nat.le_of_ble_eq_true rfl⟩ (Nat.le_of_ble_eq_true rfl) rfl d_X11_next_71 (fun r hr => ct_X5_leftAtMost l G x12 r8 h r hr) (fun r13 _ => ?_)
            exact xa_iret d_X11_next_74 rfl rfl
          · refine xa_step (xa_tabOut d_X11_next_31 (by omega) rfl) ?_
            refine xa_step (xa_iconst d_X11_next_75 xq_i_m1) ?_
            exact xa_iret d_X11_next_76 rfl rfl
theorem ct_X11_next (l : Launch) (G : xa_C) (v0 v1 : Int) (h : xa_H) (r : Int) (hr : f_X11_next v0 v1 h = some r) : xa_CT l G 4 mX11_next yX11_next [xR v0, xI v1] h (some (xI r), h) :=
  xa_met (by decide +kernel) rfl (fun q => by first | rfl | cases q) (Nat.le_of_ble_eq_true rfl) rfl (g_X11_next l G v0 v1 h) (by rw [hr]; rfl)
abbrev mX9_copyFrom : xa_M := (cX9_copyFrom, 2, none, RX9, false)
theorem d_X9_copyFrom_0 : decode mX9_copyFrom.1 0 = .ok (.aload_n 0, 1) ∧ 0 + 1 = 1 := ⟨by decide +kernel, rfl⟩
theorem d_X9_copyFrom_1 : decode mX9_copyFrom.1 1 = .ok (.aload_n 1, 1) ∧ 1 + 1 = 2 := ⟨by decide +kernel, rfl⟩
theorem d_X9_copyFrom_2 : decode mX9_copyFrom.1 2 = .ok (.getfield 9, 3) ∧ 2 + 3 = 5 := ⟨by decide +kernel, rfl⟩
theorem d_X9_copyFrom_5 : decode mX9_copyFrom.1 5 = .ok (.putfield 9, 3) ∧ 5 + 3 = 8 := ⟨by decide +kernel, rfl⟩
theorem d_X9_copyFrom_8 : decode mX9_copyFrom.1 8 = .ok (.aload_n 1, 1) ∧ 8 + 1 = 9 := ⟨by decide +kernel, rfl⟩
theorem d_X9_copyFrom_9 : decode mX9_copyFrom.1 9 = .ok (.getfield 15, 3) ∧ 9 + 3 = 12 := ⟨by decide +kernel, rfl⟩
theorem d_X9_copyFrom_12 : decode mX9_copyFrom.1 12 = .ok (.iconst 0, 1) ∧ 12 + 1 = 13 := ⟨by decide +kernel, rfl⟩
theorem d_X9_copyFrom_13 : decode mX9_copyFrom.1 13 = .ok (.aload_n 0, 1) ∧ 13 + 1 = 14 := ⟨by decide +kernel, rfl⟩
theorem d_X9_copyFrom_14 : decode mX9_copyFrom.1 14 = .ok (.getfield 15, 3) ∧ 14 + 3 = 17 := ⟨by decide +kernel, rfl⟩
theorem d_X9_copyFrom_17 : decode mX9_copyFrom.1 17 = .ok (.iconst 0, 1) ∧ 17 + 1 = 18 := ⟨by decide +kernel, rfl⟩
theorem d_X9_copyFrom_18 : decode mX9_copyFrom.1 18 = .ok (.bipush 6, 2) ∧ 18 + 2 = 20 := ⟨by decide +kernel, rfl⟩
theorem d_X9_copyFrom_20 : decode mX9_copyFrom.1 20 = .ok (.invokestatic 34, 3) ∧ 20 + 3 = 23 := ⟨by decide +kernel, rfl⟩
theorem d_X9_copyFrom_23 : decode mX9_copyFrom.1 23 = .ok (.aload_n 1, 1) ∧ 23 + 1 = 24 := ⟨by decide +kernel, rfl⟩
theorem d_X9_copyFrom_24 : decode mX9_copyFrom.1 24 = .ok (.getfield 19, 3) ∧ 24 + 3 = 27 := ⟨by decide +kernel, rfl⟩
theorem d_X9_copyFrom_27 : decode mX9_copyFrom.1 27 = .ok (.iconst 0, 1) ∧ 27 + 1 = 28 := ⟨by decide +kernel, rfl⟩
theorem d_X9_copyFrom_28 : decode mX9_copyFrom.1 28 = .ok (.aload_n 0, 1) ∧ 28 + 1 = 29 := ⟨by decide +kernel, rfl⟩
theorem d_X9_copyFrom_29 : decode mX9_copyFrom.1 29 = .ok (.getfield 19, 3) ∧ 29 + 3 = 32 := ⟨by decide +kernel, rfl⟩
theorem d_X9_copyFrom_32 : decode mX9_copyFrom.1 32 = .ok (.iconst 0, 1) ∧ 32 + 1 = 33 := ⟨by decide +kernel, rfl⟩
theorem d_X9_copyFrom_33 : decode mX9_copyFrom.1 33 = .ok (.bipush 6, 2) ∧ 33 + 2 = 35 := ⟨by decide +kernel, rfl⟩
theorem d_X9_copyFrom_35 : decode mX9_copyFrom.1 35 = .ok (.invokestatic 34, 3) ∧ 35 + 3 = 38 := ⟨by decide +kernel, rfl⟩
theorem d_X9_copyFrom_38 : decode mX9_copyFrom.1 38 = .ok (.aload_n 1, 1) ∧ 38 + 1 = 39 := ⟨by decide +kernel, rfl⟩
theorem d_X9_copyFrom_39 : decode mX9_copyFrom.1 39 = .ok (.getfield 22, 3) ∧ 39 + 3 = 42 := ⟨by decide +kernel, rfl⟩
theorem d_X9_copyFrom_42 : decode mX9_copyFrom.1 42 = .ok (.iconst 0, 1) ∧ 42 + 1 = 43 := ⟨by decide +kernel, rfl⟩
theorem d_X9_copyFrom_43 : decode mX9_copyFrom.1 43 = .ok (.aload_n 0, 1) ∧ 43 + 1 = 44 := ⟨by decide +kernel, rfl⟩
theorem d_X9_copyFrom_44 : decode mX9_copyFrom.1 44 = .ok (.getfield 22, 3) ∧ 44 + 3 = 47 := ⟨by decide +kernel, rfl⟩
theorem d_X9_copyFrom_47 : decode mX9_copyFrom.1 47 = .ok (.iconst 0, 1) ∧ 47 + 1 = 48 := ⟨by decide +kernel, rfl⟩
theorem d_X9_copyFrom_48 : decode mX9_copyFrom.1 48 = .ok (.bipush 6, 2) ∧ 48 + 2 = 50 := ⟨by decide +kernel, rfl⟩
theorem d_X9_copyFrom_50 : decode mX9_copyFrom.1 50 = .ok (.invokestatic 34, 3) ∧ 50 + 3 = 53 := ⟨by decide +kernel, rfl⟩
theorem d_X9_copyFrom_53 : decode mX9_copyFrom.1 53 = .ok (.aload_n 1, 1) ∧ 53 + 1 = 54 := ⟨by decide +kernel, rfl⟩
theorem d_X9_copyFrom_54 : decode mX9_copyFrom.1 54 = .ok (.getfield 25, 3) ∧ 54 + 3 = 57 := ⟨by decide +kernel, rfl⟩
theorem d_X9_copyFrom_57 : decode mX9_copyFrom.1 57 = .ok (.iconst 0, 1) ∧ 57 + 1 = 58 := ⟨by decide +kernel, rfl⟩
theorem d_X9_copyFrom_58 : decode mX9_copyFrom.1 58 = .ok (.aload_n 0, 1) ∧ 58 + 1 = 59 := ⟨by decide +kernel, rfl⟩
theorem d_X9_copyFrom_59 : decode mX9_copyFrom.1 59 = .ok (.getfield 25, 3) ∧ 59 + 3 = 62 := ⟨by decide +kernel, rfl⟩
theorem d_X9_copyFrom_62 : decode mX9_copyFrom.1 62 = .ok (.iconst 0, 1) ∧ 62 + 1 = 63 := ⟨by decide +kernel, rfl⟩
theorem d_X9_copyFrom_63 : decode mX9_copyFrom.1 63 = .ok (.bipush 36, 2) ∧ 63 + 2 = 65 := ⟨by decide +kernel, rfl⟩
theorem d_X9_copyFrom_65 : decode mX9_copyFrom.1 65 = .ok (.invokestatic 34, 3) ∧ 65 + 3 = 68 := ⟨by decide +kernel, rfl⟩
theorem d_X9_copyFrom_68 : decode mX9_copyFrom.1 68 = .ok (.aload_n 1, 1) ∧ 68 + 1 = 69 := ⟨by decide +kernel, rfl⟩
theorem d_X9_copyFrom_69 : decode mX9_copyFrom.1 69 = .ok (.getfield 28, 3) ∧ 69 + 3 = 72 := ⟨by decide +kernel, rfl⟩
theorem d_X9_copyFrom_72 : decode mX9_copyFrom.1 72 = .ok (.iconst 0, 1) ∧ 72 + 1 = 73 := ⟨by decide +kernel, rfl⟩
theorem d_X9_copyFrom_73 : decode mX9_copyFrom.1 73 = .ok (.aload_n 0, 1) ∧ 73 + 1 = 74 := ⟨by decide +kernel, rfl⟩
theorem d_X9_copyFrom_74 : decode mX9_copyFrom.1 74 = .ok (.getfield 28, 3) ∧ 74 + 3 = 77 := ⟨by decide +kernel, rfl⟩
theorem d_X9_copyFrom_77 : decode mX9_copyFrom.1 77 = .ok (.iconst 0, 1) ∧ 77 + 1 = 78 := ⟨by decide +kernel, rfl⟩
theorem d_X9_copyFrom_78 : decode mX9_copyFrom.1 78 = .ok (.bipush 30, 2) ∧ 78 + 2 = 80 := ⟨by decide +kernel, rfl⟩
theorem d_X9_copyFrom_80 : decode mX9_copyFrom.1 80 = .ok (.invokestatic 34, 3) ∧ 80 + 3 = 83 := ⟨by decide +kernel, rfl⟩
theorem d_X9_copyFrom_83 : decode mX9_copyFrom.1 83 = .ok (.aload_n 0, 1) ∧ 83 + 1 = 84 := ⟨by decide +kernel, rfl⟩
theorem d_X9_copyFrom_84 : decode mX9_copyFrom.1 84 = .ok (.aload_n 1, 1) ∧ 84 + 1 = 85 := ⟨by decide +kernel, rfl⟩
theorem d_X9_copyFrom_85 : decode mX9_copyFrom.1 85 = .ok (.getfield 31, 3) ∧ 85 + 3 = 88 := ⟨by decide +kernel, rfl⟩
theorem d_X9_copyFrom_88 : decode mX9_copyFrom.1 88 = .ok (.putfield 31, 3) ∧ 88 + 3 = 91 := ⟨by decide +kernel, rfl⟩
theorem d_X9_copyFrom_91 : decode mX9_copyFrom.1 91 = .ok (.return_, 1) := by decide +kernel
set_option maxRecDepth 100000 in
set_option maxHeartbeats 4000000 in
theorem g_X9_copyFrom (l : Launch) (G : xa_C) (v0 v1 : Int) (h : xa_H) : xa_G l G 2 mX9_copyFrom (f_X9_copyFrom v0 v1 h) (fun r => some (none, r) : xa_H → Option xa_O) 0 [some (xR v0), some (xR v1)] [] h := by
  unfold f_X9_copyFrom
  refine xa_step (xa_aload_n d_X9_copyFrom_0 rfl) ?_
  refine xa_step (xa_aload_n d_X9_copyFrom_1 rfl) ?_
  refine xa_getf xI xc_9 (by decide) (fun _ => rfl) xw_339 rfl d_X9_copyFrom_2 (fun x1 _ => ?_)
  refine xa_putf2 (tg := xI) xc_9 (by decide) (fun _ => rfl) rfl (fun c hc => xa_fitI c hc) xw_339 rfl d_X9_copyFrom_5 (fun h2 _ => ?_)
  refine xa_step (xa_aload_n d_X9_copyFrom_8 rfl) ?_
  refine xa_getf xR xc_9 (by decide) (fun _ => rfl) xw_342 rfl d_X9_copyFrom_9 (fun x3 _ => ?_)
  refine xa_step (xa_iconst d_X9_copyFrom_12 xq_i_0) ?_
  refine xa_step (xa_aload_n d_X9_copyFrom_13 rfl) ?_
  refine xa_getf xR xc_9 (by decide) (fun _ => rfl) xw_342 rfl d_X9_copyFrom_14 (fun x4 _ => ?_)
  refine xa_step (xa_iconst d_X9_copyFrom_17 xq_i_0) ?_
  refine xa_step (xa_bipush d_X9_copyFrom_18 xq_b_6) ?_
  refine xa_acopy xw_877 xw_851 xw_850 xw_180 (by decide) (Nat.le_of_ble_eq_true rfl) d_X9_copyFrom_20 (fun h5 _ => ?_)
  refine xa_step (xa_aload_n d_X9_copyFrom_23 rfl) ?_
  refine xa_getf xR xc_9 (by decide) (fun _ => rfl) xw_347 rfl d_X9_copyFrom_24 (fun x6 _ => ?_)
  refine xa_step (xa_iconst d_X9_copyFrom_27 xq_i_0) ?_
  refine xa_step (xa_aload_n d_X9_copyFrom_28 rfl) ?_
  refine xa_getf xR xc_9 (by decide) (fun _ => rfl) xw_347 rfl d_X9_copyFrom_29 (fun x7 _ => ?_)
  refine xa_step (xa_iconst d_X9_copyFrom_32 xq_i_0) ?_
  refine xa_step (xa_bipush d_X9_copyFrom_33 xq_b_6) ?_
  refine xa_acopy xw_877 xw_851 xw_850 xw_180 (by decide) (Nat.le_of_ble_eq_true rfl) d_X9_copyFrom_35 (fun h8 _ => ?_)
  refine xa_step (xa_aload_n d_X9_copyFrom_38 rfl) ?_
  refine xa_getf xR xc_9 (by decide) (fun _ => rfl) xw_351 rfl d_X9_copyFrom_39 (fun x9 _ => ?_)
  refine xa_step (xa_iconst d_X9_copyFrom_42 xq_i_0) ?_
  refine xa_step (xa_aload_n d_X9_copyFrom_43 rfl) ?_
  refine xa_getf xR xc_9 (by decide) (fun _ => rfl) xw_351 rfl d_X9_copyFrom_44 (fun x10 _ => ?_)
  refine xa_step (xa_iconst d_X9_copyFrom_47 xq_i_0) ?_
  refine xa_step (xa_bipush d_X9_copyFrom_48 xq_b_6) ?_
  refine xa_acopy xw_877 xw_851 xw_850 xw_180 (by decide) (Nat.le_of_ble_eq_true rfl) d_X9_copyFrom_50 (fun h11 _ => ?_)
  refine xa_step (xa_aload_n d_X9_copyFrom_53 rfl) ?_
  refine xa_getf xR xc_9 (by decide) (fun _ => rfl) xw_355 rfl d_X9_copyFrom_54 (fun x12 _ => ?_)
  refine xa_step (xa_iconst d_X9_copyFrom_57 xq_i_0) ?_
  refine xa_step (xa_aload_n d_X9_copyFrom_58 rfl) ?_
  refine xa_getf xR xc_9 (by decide) (fun _ => rfl) xw_355 rfl d_X9_copyFrom_59 (fun x13 _ => ?_)
  refine xa_step (xa_iconst d_X9_copyFrom_62 xq_i_0) ?_
  refine xa_step (xa_bipush d_X9_copyFrom_63 xq_b_36) ?_
  refine xa_acopy xw_877 xw_851 xw_850 xw_180 (by decide) (Nat.le_of_ble_eq_true rfl) d_X9_copyFrom_65 (fun h14 _ => ?_)
  refine xa_step (xa_aload_n d_X9_copyFrom_68 rfl) ?_
  refine xa_getf xR xc_9 (by decide) (fun _ => rfl) xw_358 rfl d_X9_copyFrom_69 (fun x15 _ => ?_)
  refine xa_step (xa_iconst d_X9_copyFrom_72 xq_i_0) ?_
  refine xa_step (xa_aload_n d_X9_copyFrom_73 rfl) ?_
  refine xa_getf xR xc_9 (by decide) (fun _ => rfl) xw_358 rfl d_X9_copyFrom_74 (fun x16 _ => ?_)
  refine xa_step (xa_iconst d_X9_copyFrom_77 xq_i_0) ?_
  refine xa_step (xa_bipush d_X9_copyFrom_78 xq_b_30) ?_
  refine xa_acopy xw_877 xw_851 xw_850 xw_180 (by decide) (Nat.le_of_ble_eq_true rfl) d_X9_copyFrom_80 (fun h17 _ => ?_)
  refine xa_step (xa_aload_n d_X9_copyFrom_83 rfl) ?_
  refine xa_step (xa_aload_n d_X9_copyFrom_84 rfl) ?_
  refine xa_getf xI xc_9 (by decide) (fun _ => rfl) xw_360 rfl d_X9_copyFrom_85 (fun x18 _ => ?_)
  refine xa_putf2 (tg := xI) xc_9 (by decide) (fun _ => rfl) rfl (fun c hc => xa_fitI c hc) xw_360 rfl d_X9_copyFrom_88 (fun h19 _ => ?_)
  exact xa_vret d_X9_copyFrom_91 rfl rfl
theorem ct_X9_copyFrom (l : Launch) (G : xa_C) (v0 v1 : Int) (h : xa_H) (r : xa_H) (hr : f_X9_copyFrom v0 v1 h = some r) : xa_CT l G 2 mX9_copyFrom yX9_copyFrom [xR v0, xR v1] h (none, r) :=
  xa_met (by decide +kernel) rfl (fun q => by first | rfl | cases q) (Nat.le_of_ble_eq_true rfl) rfl (g_X9_copyFrom l G v0 v1 h) (by rw [hr]; rfl)
abbrev mX4_remember : xa_M := (cX4_remember, 2, none, RX4, false)
theorem d_X4_remember_0 : decode mX4_remember.1 0 = .ok (.aload_n 0, 1) ∧ 0 + 1 = 1 := ⟨by decide +kernel, rfl⟩
theorem d_X4_remember_1 : decode mX4_remember.1 1 = .ok (.getfield 11, 3) ∧ 1 + 3 = 4 := ⟨by decide +kernel, rfl⟩
theorem d_X4_remember_4 : decode mX4_remember.1 4 = .ok (.aload_n 0, 1) ∧ 4 + 1 = 5 := ⟨by decide +kernel, rfl⟩
theorem d_X4_remember_5 : decode mX4_remember.1 5 = .ok (.getfield 17, 3) ∧ 5 + 3 = 8 := ⟨by decide +kernel, rfl⟩
theorem d_X4_remember_8 : decode mX4_remember.1 8 = .ok (.aaload, 1) ∧ 8 + 1 = 9 := ⟨by decide +kernel, rfl⟩
theorem d_X4_remember_9 : decode mX4_remember.1 9 = .ok (.aload_n 1, 1) ∧ 9 + 1 = 10 := ⟨by decide +kernel, rfl⟩
theorem d_X4_remember_10 : decode mX4_remember.1 10 = .ok (.invokevirtual 25, 3) ∧ 10 + 3 = 13 := ⟨by decide +kernel, rfl⟩
theorem d_X4_remember_13 : decode mX4_remember.1 13 = .ok (.aload_n 0, 1) ∧ 13 + 1 = 14 := ⟨by decide +kernel, rfl⟩
theorem d_X4_remember_14 : decode mX4_remember.1 14 = .ok (.aload_n 0, 1) ∧ 14 + 1 = 15 := ⟨by decide +kernel, rfl⟩
theorem d_X4_remember_15 : decode mX4_remember.1 15 = .ok (.getfield 17, 3) ∧ 15 + 3 = 18 := ⟨by decide +kernel, rfl⟩
theorem d_X4_remember_18 : decode mX4_remember.1 18 = .ok (.iconst 1, 1) ∧ 18 + 1 = 19 := ⟨by decide +kernel, rfl⟩
theorem d_X4_remember_19 : decode mX4_remember.1 19 = .ok (.iadd, 1) ∧ 19 + 1 = 20 := ⟨by decide +kernel, rfl⟩
theorem d_X4_remember_20 : decode mX4_remember.1 20 = .ok (.bipush 20, 2) ∧ 20 + 2 = 22 := ⟨by decide +kernel, rfl⟩
theorem d_X4_remember_22 : decode mX4_remember.1 22 = .ok (.irem, 1) ∧ 22 + 1 = 23 := ⟨by decide +kernel, rfl⟩
theorem d_X4_remember_23 : decode mX4_remember.1 23 = .ok (.putfield 17, 3) ∧ 23 + 3 = 26 := ⟨by decide +kernel, rfl⟩
theorem d_X4_remember_26 : decode mX4_remember.1 26 = .ok (.aload_n 0, 1) ∧ 26 + 1 = 27 := ⟨by decide +kernel, rfl⟩
theorem d_X4_remember_27 : decode mX4_remember.1 27 = .ok (.aload_n 0, 1) ∧ 27 + 1 = 28 := ⟨by decide +kernel, rfl⟩
theorem d_X4_remember_28 : decode mX4_remember.1 28 = .ok (.getfield 21, 3) ∧ 28 + 3 = 31 := ⟨by decide +kernel, rfl⟩
theorem d_X4_remember_31 : decode mX4_remember.1 31 = .ok (.iconst 1, 1) ∧ 31 + 1 = 32 := ⟨by decide +kernel, rfl⟩
theorem d_X4_remember_32 : decode mX4_remember.1 32 = .ok (.iadd, 1) ∧ 32 + 1 = 33 := ⟨by decide +kernel, rfl⟩
theorem d_X4_remember_33 : decode mX4_remember.1 33 = .ok (.bipush 20, 2) ∧ 33 + 2 = 35 := ⟨by decide +kernel, rfl⟩
theorem d_X4_remember_35 : decode mX4_remember.1 35 = .ok (.invokestatic 29, 3) ∧ 35 + 3 = 38 := ⟨by decide +kernel, rfl⟩
theorem d_X4_remember_38 : decode mX4_remember.1 38 = .ok (.putfield 21, 3) ∧ 38 + 3 = 41 := ⟨by decide +kernel, rfl⟩
theorem d_X4_remember_41 : decode mX4_remember.1 41 = .ok (.return_, 1) := by decide +kernel
set_option maxRecDepth 100000 in
set_option maxHeartbeats 4000000 in
theorem g_X4_remember (l : Launch) (G : xa_C) (v0 v1 : Int) (h : xa_H) : xa_G l G 3 mX4_remember (f_X4_remember v0 v1 h) (fun r => some (none, r) : xa_H → Option xa_O) 0 [some (xR v0), some (xR v1)] [] h := by
  unfold f_X4_remember
  refine xa_step (xa_aload_n d_X4_remember_0 rfl) ?_
  refine xa_getf xR xc_4 (by decide) (fun _ => rfl) xw_461 rfl d_X4_remember_1 (fun x1 _ => ?_)
  refine xa_step (xa_aload_n d_X4_remember_4 rfl) ?_
  refine xa_getf xI xc_4 (by decide) (fun _ => rfl) xw_462 rfl d_X4_remember_5 (fun x2 _ => ?_)
  refine xa_aaload_4 d_X4_remember_8 (fun x3 _ => ?_)
  refine xa_step (xa_aload_n d_X4_remember_9 rfl) ?_
  refine xa_callVV (as := [xR v1]) (st := []) (M' := mX9_copyFrom) (d' := 2) rfl xw_1193 xw_874 xw_875 xw_876 xw_170 xh_X9_copyFrom rfl ⟨Nat.le_of_ble_eq_true rfl, Nat.le_of_ble_eq_true rfl⟩ (Nat.le_of_ble_eq_true rfl) rfl d_X4_remember_10 (fun r hr => ct_X9_copyFrom l G x3 v1 h r hr) (fun r4 _ => ?_)
  refine xa_step (xa_aload_n d_X4_remember_13 rfl) ?_
  refine xa_step (xa_aload_n d_X4_remember_14 rfl) ?_
  refine xa_getf xI xc_4 (by decide) (fun _ => rfl) xw_462 rfl d_X4_remember_15 (fun x5 _ => ?_)
  refine xa_step (xa_iconst d_X4_remember_18 xq_i_1) ?_
  refine xa_step (xa_iadd d_X4_remember_19) ?_
  refine xa_step (xa_bipush d_X4_remember_20 xq_b_20) ?_
  refine xa_step (xa_irem d_X4_remember_22 (by decide)) ?_
  refine xa_putf2 (tg := xI) xc_4 (by decide) (fun _ => rfl) rfl (fun c hc => xa_fitI c hc) xw_462 rfl d_X4_remember_23 (fun h6 _ => ?_)
  refine xa_step (xa_aload_n d_X4_remember_26 rfl) ?_
  refine xa_step (xa_aload_n d_X4_remember_27 rfl) ?_
  refine xa_getf xI xc_4 (by decide) (fun _ => rfl) xw_463 rfl d_X4_remember_28 (fun x7 _ => ?_)
  refine xa_step (xa_iconst d_X4_remember_31 xq_i_1) ?_
  refine xa_step (xa_iadd d_X4_remember_32) ?_
  refine xa_step (xa_bipush d_X4_remember_33 xq_b_20) ?_
  refine xa_mminI xw_1194 xw_847 xw_179 xw_848 (by decide) (Nat.le_of_ble_eq_true rfl) d_X4_remember_35 ?_
  refine xa_putf2 (tg := xI) xc_4 (by decide) (fun _ => rfl) rfl (fun c hc => xa_fitI c hc) xw_463 rfl d_X4_remember_38 (fun h8 _ => ?_)
  exact xa_vret d_X4_remember_41 rfl rfl
theorem ct_X4_remember (l : Launch) (G : xa_C) (v0 v1 : Int) (h : xa_H) (r : xa_H) (hr : f_X4_remember v0 v1 h = some r) : xa_CT l G 3 mX4_remember yX4_remember [xR v0, xR v1] h (none, r) :=
  xa_met (by decide +kernel) rfl (fun q => by first | rfl | cases q) (Nat.le_of_ble_eq_true rfl) rfl (g_X4_remember l G v0 v1 h) (by rw [hr]; rfl)
abbrev mX11_nights : xa_M := (cX11_nights, 4, (some (.int)), RX11, false)
theorem d_X11_nights_0 : decode mX11_nights.1 0 = .ok (.iload_n 1, 1) ∧ 0 + 1 = 1 := ⟨by decide +kernel, rfl⟩
theorem d_X11_nights_1 : decode mX11_nights.1 1 = .ok (.iconst 1, 1) ∧ 1 + 1 = 2 := ⟨by decide +kernel, rfl⟩
theorem d_X11_nights_2 : decode mX11_nights.1 2 = .ok (.if_icmp .lt 24, 3) ∧ 2 + 3 = 5 ∧ ((2 : Nat) : Int) + 24 = ((26 : Nat) : Int) := ⟨by decide +kernel, rfl, rfl⟩
theorem d_X11_nights_26 : decode mX11_nights.1 26 = .ok (.aload_n 0, 1) ∧ 26 + 1 = 27 := ⟨by decide +kernel, rfl⟩
theorem d_X11_nights_27 : decode mX11_nights.1 27 = .ok (.iconst 3, 1) ∧ 27 + 1 = 28 := ⟨by decide +kernel, rfl⟩
theorem d_X11_nights_28 : decode mX11_nights.1 28 = .ok (.invokevirtual 118, 3) ∧ 28 + 3 = 31 := ⟨by decide +kernel, rfl⟩
theorem d_X11_nights_31 : decode mX11_nights.1 31 = .ok (.ireturn, 1) := by decide +kernel
set_option maxRecDepth 100000 in
set_option maxHeartbeats 4000000 in
theorem g_X11_nights_J26 (l : Launch) (G : xa_C) : ∀ (v0 : Int) (h : xa_H) , xa_G l G 7 mX11_nights (f_X11_nights_J26 v0 h) (fun r => some (some (xI r.1), r.2) : (Int × xa_H) → Option xa_O) 26 [some (xR v0), none, none, none] [] h := by
  intro v0 h
  unfold f_X11_nights_J26
  refine xa_step (xa_aload_n d_X11_nights_26 rfl) ?_
  refine xa_step (xa_iconst d_X11_nights_27 xq_i_3) ?_
  refine xa_callVI (as := [xI 3]) (st := []) (M' := mX11_refuse) (d' := 2) rfl xw_646 xw_648 xw_2 xw_649 xw_161 xh_X11_refuse rfl ⟨Nat.le_of_ble_eq_true rfl, Nat.le_of_ble_eq_true rfl⟩ (Nat.le_of_ble_eq_true rfl) rfl d_X11_nights_28 (fun r hr => ct_X11_refuse l G v0 3 h r hr) (fun r2 _ => ?_)
  exact xa_iret d_X11_nights_31 rfl rfl
theorem d_X11_nights_5 : decode mX11_nights.1 5 = .ok (.iload_n 1, 1) ∧ 5 + 1 = 6 := ⟨by decide +kernel, rfl⟩
theorem d_X11_nights_6 : decode mX11_nights.1 6 = .ok (.bipush 100, 2) ∧ 6 + 2 = 8 := ⟨by decide +kernel, rfl⟩
theorem d_X11_nights_8 : decode mX11_nights.1 8 = .ok (.if_icmp .gt 18, 3) ∧ 8 + 3 = 11 ∧ ((8 : Nat) : Int) + 18 = ((26 : Nat) : Int) := ⟨by decide +kernel, rfl, rfl⟩
theorem d_X11_nights_11 : decode mX11_nights.1 11 = .ok (.aload_n 0, 1) ∧ 11 + 1 = 12 := ⟨by decide +kernel, rfl⟩
theorem d_X11_nights_12 : decode mX11_nights.1 12 = .ok (.getfield 54, 3) ∧ 12 + 3 = 15 := ⟨by decide +kernel, rfl⟩
theorem d_X11_nights_15 : decode mX11_nights.1 15 = .ok (.getfield 167, 3) ∧ 15 + 3 = 18 := ⟨by decide +kernel, rfl⟩
theorem d_X11_nights_18 : decode mX11_nights.1 18 = .ok (.iload_n 1, 1) ∧ 18 + 1 = 19 := ⟨by decide +kernel, rfl⟩
theorem d_X11_nights_19 : decode mX11_nights.1 19 = .ok (.iadd, 1) ∧ 19 + 1 = 20 := ⟨by decide +kernel, rfl⟩
theorem d_X11_nights_20 : decode mX11_nights.1 20 = .ok (.sipush 9999, 3) ∧ 20 + 3 = 23 := ⟨by decide +kernel, rfl⟩
theorem d_X11_nights_23 : decode mX11_nights.1 23 = .ok (.if_icmp .le 9, 3) ∧ 23 + 3 = 26 ∧ ((23 : Nat) : Int) + 9 = ((32 : Nat) : Int) := ⟨by decide +kernel, rfl, rfl⟩
theorem d_X11_nights_32 : decode mX11_nights.1 32 = .ok (.aload_n 0, 1) ∧ 32 + 1 = 33 := ⟨by decide +kernel, rfl⟩
theorem d_X11_nights_33 : decode mX11_nights.1 33 = .ok (.getfield 61, 3) ∧ 33 + 3 = 36 := ⟨by decide +kernel, rfl⟩
theorem d_X11_nights_36 : decode mX11_nights.1 36 = .ok (.aload_n 0, 1) ∧ 36 + 1 = 37 := ⟨by decide +kernel, rfl⟩
theorem d_X11_nights_37 : decode mX11_nights.1 37 = .ok (.getfield 54, 3) ∧ 37 + 3 = 40 := ⟨by decide +kernel, rfl⟩
theorem d_X11_nights_40 : decode mX11_nights.1 40 = .ok (.invokevirtual 325, 3) ∧ 40 + 3 = 43 := ⟨by decide +kernel, rfl⟩
theorem d_X11_nights_43 : decode mX11_nights.1 43 = .ok (.iconst 0, 1) ∧ 43 + 1 = 44 := ⟨by decide +kernel, rfl⟩
theorem d_X11_nights_44 : decode mX11_nights.1 44 = .ok (.istore_n 2, 1) ∧ 44 + 1 = 45 := ⟨by decide +kernel, rfl⟩
theorem d_X11_nights_45 : decode mX11_nights.1 45 = .ok (.iconst 0, 1) ∧ 45 + 1 = 46 := ⟨by decide +kernel, rfl⟩
theorem d_X11_nights_46 : decode mX11_nights.1 46 = .ok (.istore_n 3, 1) ∧ 46 + 1 = 47 := ⟨by decide +kernel, rfl⟩
theorem d_X11_nights_47 : decode mX11_nights.1 47 = .ok (.iload_n 3, 1) ∧ 47 + 1 = 48 := ⟨by decide +kernel, rfl⟩
theorem d_X11_nights_48 : decode mX11_nights.1 48 = .ok (.iload_n 1, 1) ∧ 48 + 1 = 49 := ⟨by decide +kernel, rfl⟩
theorem d_X11_nights_49 : decode mX11_nights.1 49 = .ok (.if_icmp .ge 55, 3) ∧ 49 + 3 = 52 ∧ ((49 : Nat) : Int) + 55 = ((104 : Nat) : Int) := ⟨by decide +kernel, rfl, rfl⟩
theorem d_X11_nights_52 : decode mX11_nights.1 52 = .ok (.aload_n 0, 1) ∧ 52 + 1 = 53 := ⟨by decide +kernel, rfl⟩
theorem d_X11_nights_53 : decode mX11_nights.1 53 = .ok (.getfield 47, 3) ∧ 53 + 3 = 56 := ⟨by decide +kernel, rfl⟩
theorem d_X11_nights_56 : decode mX11_nights.1 56 = .ok (.getfield 146, 3) ∧ 56 + 3 = 59 := ⟨by decide +kernel, rfl⟩
theorem d_X11_nights_59 : decode mX11_nights.1 59 = .ok (.iconst 2, 1) ∧ 59 + 1 = 60 := ⟨by decide +kernel, rfl⟩
theorem d_X11_nights_60 : decode mX11_nights.1 60 = .ok (.if_icmp .lt 25, 3) ∧ 60 + 3 = 63 ∧ ((60 : Nat) : Int) + 25 = ((85 : Nat) : Int) := ⟨by decide +kernel, rfl, rfl⟩
theorem d_X11_nights_85 : decode mX11_nights.1 85 = .ok (.aload_n 0, 1) ∧ 85 + 1 = 86 := ⟨by decide +kernel, rfl⟩
theorem d_X11_nights_86 : decode mX11_nights.1 86 = .ok (.getfield 54, 3) ∧ 86 + 3 = 89 := ⟨by decide +kernel, rfl⟩
theorem d_X11_nights_89 : decode mX11_nights.1 89 = .ok (.dup, 1) ∧ 89 + 1 = 90 := ⟨by decide +kernel, rfl⟩
theorem d_X11_nights_90 : decode mX11_nights.1 90 = .ok (.getfield 167, 3) ∧ 90 + 3 = 93 := ⟨by decide +kernel, rfl⟩
theorem d_X11_nights_93 : decode mX11_nights.1 93 = .ok (.iconst 1, 1) ∧ 93 + 1 = 94 := ⟨by decide +kernel, rfl⟩
theorem d_X11_nights_94 : decode mX11_nights.1 94 = .ok (.iadd, 1) ∧ 94 + 1 = 95 := ⟨by decide +kernel, rfl⟩
theorem d_X11_nights_95 : decode mX11_nights.1 95 = .ok (.putfield 167, 3) ∧ 95 + 3 = 98 := ⟨by decide +kernel, rfl⟩
theorem d_X11_nights_98 : decode mX11_nights.1 98 = .ok (.iinc 3 1, 3) ∧ 98 + 3 = 101 := ⟨by decide +kernel, rfl⟩
theorem d_X11_nights_101 : decode mX11_nights.1 101 = .ok (.goto (-54), 3) ∧ ((101 : Nat) : Int) + (-54) = ((47 : Nat) : Int) := ⟨by decide +kernel, rfl⟩
theorem d_X11_nights_63 : decode mX11_nights.1 63 = .ok (.aload_n 0, 1) ∧ 63 + 1 = 64 := ⟨by decide +kernel, rfl⟩
theorem d_X11_nights_64 : decode mX11_nights.1 64 = .ok (.invokevirtual 331, 3) ∧ 64 + 3 = 67 := ⟨by decide +kernel, rfl⟩
theorem d_X11_nights_67 : decode mX11_nights.1 67 = .ok (.iload_n 2, 1) ∧ 67 + 1 = 68 := ⟨by decide +kernel, rfl⟩
theorem d_X11_nights_68 : decode mX11_nights.1 68 = .ok (.aload_n 0, 1) ∧ 68 + 1 = 69 := ⟨by decide +kernel, rfl⟩
theorem d_X11_nights_69 : decode mX11_nights.1 69 = .ok (.getfield 72, 3) ∧ 69 + 3 = 72 := ⟨by decide +kernel, rfl⟩
theorem d_X11_nights_72 : decode mX11_nights.1 72 = .ok (.getfield 249, 3) ∧ 72 + 3 = 75 := ⟨by decide +kernel, rfl⟩
theorem d_X11_nights_75 : decode mX11_nights.1 75 = .ok (.ifCond .ne 7, 3) ∧ 75 + 3 = 78 ∧ ((75 : Nat) : Int) + 7 = ((82 : Nat) : Int) := ⟨by decide +kernel, rfl, rfl⟩
theorem d_X11_nights_78 : decode mX11_nights.1 78 = .ok (.iconst 1, 1) ∧ 78 + 1 = 79 := ⟨by decide +kernel, rfl⟩
theorem d_X11_nights_79 : decode mX11_nights.1 79 = .ok (.goto 4, 3) ∧ ((79 : Nat) : Int) + 4 = ((83 : Nat) : Int) := ⟨by decide +kernel, rfl⟩
theorem d_X11_nights_83 : decode mX11_nights.1 83 = .ok (.iadd, 1) ∧ 83 + 1 = 84 := ⟨by decide +kernel, rfl⟩
theorem d_X11_nights_84 : decode mX11_nights.1 84 = .ok (.istore_n 2, 1) ∧ 84 + 1 = 85 := ⟨by decide +kernel, rfl⟩
set_option maxRecDepth 100000 in
set_option maxHeartbeats 4000000 in
theorem g_X11_nights_J83L47 (l : Launch) (G : xa_C) (c0 c1 : Int) (K : (Int × Int × xa_H) ⊕ (Int × xa_H) → Option xa_O) (hb : ∀ (v2 : Int) (v3 : Int) (h : xa_H), xa_G l G 7 mX11_nights (some (Sum.inl ((v2, v3, h)))) K 47 [some (xR c0), some (xI c1), some (xI v2), some (xI v3)] [] h) (hx : ∀ (v2 : Int) (h : xa_H), xa_G l G 7 mX11_nights (some (Sum.inr ((v2, h)))) K 104 [none, none, some (xI v2), none] [] h) : ∀ (v3 s0 s1 : Int) (h : xa_H) , xa_G l G 7 mX11_nights (f_X11_nights_J83L47 c0 c1 v3 s0 s1 h) K 83 [some (xR c0), some (xI c1), none, some (xI v3)] [xI s1, xI s0] h := by
  intro v3 s0 s1 h
  unfold f_X11_nights_J83L47
  refine xa_step (xa_iadd d_X11_nights_83) ?_
  refine xa_step (xa_istore_n (ls' := [some (xR c0), some (xI c1), some (xI (w32 (s0 + s1))), some (xI v3)]) d_X11_nights_84 (by decide) rfl) ?_
  refine xa_step (xa_aload_n d_X11_nights_85 rfl) ?_
  refine xa_getf xR xc_11 (by decide) (fun _ => rfl) xw_590 rfl d_X11_nights_86 (fun x21 _ => ?_)
  refine xa_step (xa_dup d_X11_nights_89 (xa_tR _)) ?_
  refine xa_getf xI xc_9 (by decide) (fun _ => rfl) xw_341 rfl d_X11_nights_90 (fun x22 _ => ?_)
  refine xa_step (xa_iconst d_X11_nights_93 xq_i_1) ?_
  refine xa_step (xa_iadd d_X11_nights_94) ?_
  refine xa_putf2 (tg := xI) xc_9 (by decide) (fun _ => rfl) rfl (fun c hc => xa_fitI c hc) xw_341 rfl d_X11_nights_95 (fun h23 _ => ?_)
  refine xa_step (xa_iinc (ls' := [some (xR c0), some (xI c1), some (xI (w32 (s0 + s1))), some (xI (w32 (v3 + 1)))]) d_X11_nights_98 xq_i_1 rfl (by decide) rfl) ?_
  refine xa_step (xa_goto d_X11_nights_101) ?_
  exact xa_weak (ls' := [some (xR c0), some (xI c1), some (xI (w32 (s0 + s1))), some (xI (w32 (v3 + 1)))]) ⟨rfl, rfl, rfl, rfl, trivial⟩ (hb (w32 (s0 + s1)) (w32 (v3 + 1)) h23)
theorem d_X11_nights_82 : decode mX11_nights.1 82 = .ok (.iconst 0, 1) ∧ 82 + 1 = 83 := ⟨by decide +kernel, rfl⟩
set_option maxRecDepth 100000 in
set_option maxHeartbeats 4000000 in
theorem g_X11_nights_L47 (l : Launch) (G : xa_C) (c0 c1 : Int) (K : (Int × Int × xa_H) ⊕ (Int × xa_H) → Option xa_O) (hb : ∀ (v2 : Int) (v3 : Int) (h : xa_H), xa_G l G 7 mX11_nights (some (Sum.inl ((v2, v3, h)))) K 47 [some (xR c0), some (xI c1), some (xI v2), some (xI v3)] [] h) (hx : ∀ (v2 : Int) (h : xa_H), xa_G l G 7 mX11_nights (some (Sum.inr ((v2, h)))) K 104 [none, none, some (xI v2), none] [] h) : ∀ (v2 : Int) (v3 : Int) (h : xa_H), xa_G l G 7 mX11_nights (f_X11_nights_L47 c0 c1 v2 v3 h) K 47 [some (xR c0), some (xI c1), some (xI v2), some (xI v3)] [] h := by
  intro v2 v3 h
  unfold f_X11_nights_L47
  refine xa_step (xa_iload_n d_X11_nights_47 rfl) ?_
  refine xa_step (xa_iload_n d_X11_nights_48 rfl) ?_
  refine xa_if (xa_icmpge d_X11_nights_49) (fun q10 => ?_) (fun q10 => ?_)
  · refine xa_step (xa_aload_n d_X11_nights_52 rfl) ?_
    refine xa_getf xR xc_11 (by decide) (fun _ => rfl) xw_589 rfl d_X11_nights_53 (fun x11 _ => ?_)
    refine xa_getf xI xc_0 (by decide) (fun _ => rfl) xw_391 rfl d_X11_nights_56 (fun x12 _ => ?_)
    refine xa_step (xa_iconst d_X11_nights_59 xq_i_2) ?_
    refine xa_if (xa_icmplt d_X11_nights_60) (fun q13 => ?_) (fun q13 => ?_)
    · refine xa_step (xa_aload_n d_X11_nights_85 rfl) ?_
      refine xa_getf xR xc_11 (by decide) (fun _ => rfl) xw_590 rfl d_X11_nights_86 (fun x14 _ => ?_)
      refine xa_step (xa_dup d_X11_nights_89 (xa_tR _)) ?_
      refine xa_getf xI xc_9 (by decide) (fun _ => rfl) xw_341 rfl d_X11_nights_90 (fun x15 _ => ?_)
      refine xa_step (xa_iconst d_X11_nights_93 xq_i_1) ?_
      refine xa_step (xa_iadd d_X11_nights_94) ?_
      refine xa_putf2 (tg := xI) xc_9 (by decide) (fun _ => rfl) rfl (fun c hc => xa_fitI c hc) xw_341 rfl d_X11_nights_95 (fun h16 _ => ?_)
      refine xa_step (xa_iinc (ls' := [some (xR c0), some (xI c1), some (xI v2), some (xI (w32 (v3 + 1)))]) d_X11_nights_98 xq_i_1 rfl (by decide) rfl) ?_
      refine xa_step (xa_goto d_X11_nights_101) ?_
      exact xa_weak (ls' := [some (xR c0), some (xI c1), some (xI v2), some (xI (w32 (v3 + 1)))]) ⟨rfl, rfl, rfl, rfl, trivial⟩ (hb v2 (w32 (v3 + 1)) h16)
    · refine xa_step (xa_aload_n d_X11_nights_63 rfl) ?_
      refine xa_callVV (as := []) (st := []) (M' := mX11_drawRing) (d' := 6) rfl xw_1215 xw_1217 xw_56 xw_1218 xw_161 xh_X11_drawRing rfl ⟨Nat.le_of_ble_eq_true rfl, Nat.le_of_ble_eq_true rfl⟩ (Nat.le_of_ble_eq_true rfl) rfl d_X11_nights_64 (fun r hr => ct_X11_drawRing l G c0 h r hr) (fun r17 _ => ?_)
      refine xa_step (xa_iload_n d_X11_nights_67 rfl) ?_
      refine xa_step (xa_aload_n d_X11_nights_68 rfl) ?_
      refine xa_getf xR xc_11 (by decide) (fun _ => rfl) xw_593 rfl d_X11_nights_69 (fun x18 _ => ?_)
      refine xa_getf xI xc_7 (by decide) (fun _ => rfl) xw_483 rfl d_X11_nights_72 (fun x19 _ => ?_)
      refine xa_if (xa_ifne d_X11_nights_75) (fun q20 => ?_) (fun q20 => ?_)
      · refine xa_step (xa_iconst d_X11_nights_78 xq_i_1) ?_
        refine xa_step (xa_goto d_X11_nights_79) ?_
        exact xa_weak (ls' := [some (xR c0), some (xI c1), none, some (xI v3)]) ⟨rfl, rfl, rfl, trivial⟩ (g_X11_nights_J83L47 l G c0 c1 K hb hx v3 v2 1 r17)
      · refine xa_step (xa_iconst d_X11_nights_82 xq_i_0) ?_
        exact xa_weak (ls' := [some (xR c0), some (xI c1), none, some (xI v3)]) ⟨rfl, rfl, rfl, trivial⟩ (g_X11_nights_J83L47 l G c0 c1 K hb hx v3 v2 0 r17)
  · exact xa_weak (ls' := [none, none, some (xI v2), none]) ⟨rfl, trivial⟩ (hx v2 h)
theorem d_X11_nights_104 : decode mX11_nights.1 104 = .ok (.iload_n 2, 1) ∧ 104 + 1 = 105 := ⟨by decide +kernel, rfl⟩
theorem d_X11_nights_105 : decode mX11_nights.1 105 = .ok (.ireturn, 1) := by decide +kernel
set_option maxRecDepth 100000 in
set_option maxHeartbeats 4000000 in
theorem g_X11_nights (l : Launch) (G : xa_C) (v0 v1 : Int) (h : xa_H) : xa_G l G 7 mX11_nights (f_X11_nights v0 v1 h) (fun r => some (some (xI r.1), r.2) : (Int × xa_H) → Option xa_O) 0 [some (xR v0), some (xI v1), none, none] [] h := by
  unfold f_X11_nights
  refine xa_step (xa_iload_n d_X11_nights_0 rfl) ?_
  refine xa_step (xa_iconst d_X11_nights_1 xq_i_1) ?_
  refine xa_if (xa_icmplt d_X11_nights_2) (fun q1 => ?_) (fun q1 => ?_)
  · exact xa_weak (ls' := [some (xR v0), none, none, none]) ⟨rfl, trivial⟩ (g_X11_nights_J26 l G v0 h)
  · refine xa_step (xa_iload_n d_X11_nights_5 rfl) ?_
    refine xa_step (xa_bipush d_X11_nights_6 xq_b_100) ?_
    refine xa_if (xa_icmpgt d_X11_nights_8) (fun q3 => ?_) (fun q3 => ?_)
    · exact xa_weak (ls' := [some (xR v0), none, none, none]) ⟨rfl, trivial⟩ (g_X11_nights_J26 l G v0 h)
    · refine xa_step (xa_aload_n d_X11_nights_11 rfl) ?_
      refine xa_getf xR xc_11 (by decide) (fun _ => rfl) xw_590 rfl d_X11_nights_12 (fun x4 _ => ?_)
      refine xa_getf xI xc_9 (by decide) (fun _ => rfl) xw_341 rfl d_X11_nights_15 (fun x5 _ => ?_)
      refine xa_step (xa_iload_n d_X11_nights_18 rfl) ?_
      refine xa_step (xa_iadd d_X11_nights_19) ?_
      refine xa_step (xa_sipush d_X11_nights_20 xq_s_9999) ?_
      refine xa_if (xa_icmple d_X11_nights_23) (fun q6 => ?_) (fun q6 => ?_)
      · exact xa_weak (ls' := [some (xR v0), none, none, none]) ⟨rfl, trivial⟩ (g_X11_nights_J26 l G v0 h)
      · refine xa_step (xa_aload_n d_X11_nights_32 rfl) ?_
        refine xa_getf xR xc_11 (by decide) (fun _ => rfl) xw_591 rfl d_X11_nights_33 (fun x7 _ => ?_)
        refine xa_step (xa_aload_n d_X11_nights_36 rfl) ?_
        refine xa_getf xR xc_11 (by decide) (fun _ => rfl) xw_590 rfl d_X11_nights_37 (fun x8 _ => ?_)
        refine xa_callVV (as := [xR x8]) (st := []) (M' := mX4_remember) (d' := 3) rfl xw_1189 xw_1190 xw_1191 xw_1192 xw_172 xh_X4_remember rfl ⟨Nat.le_of_ble_eq_true rfl, Nat.le_of_ble_eq_true rfl⟩ (Nat.le_of_ble_eq_true rfl) rfl d_X11_nights_40 (fun r hr => ct_X4_remember l G x7 x8 h r hr) (fun r9 _ => ?_)
        refine xa_step (xa_iconst d_X11_nights_43 xq_i_0) ?_
        refine xa_step (xa_istore_n (ls' := [some (xR v0), some (xI v1), some (xI 0), none]) d_X11_nights_44 (by decide) rfl) ?_
        refine xa_step (xa_iconst d_X11_nights_45 xq_i_0) ?_
        refine xa_step (xa_istore_n (ls' := [some (xR v0), some (xI v1), some (xI 0), some (xI 0)]) d_X11_nights_46 (by decide) rfl) ?_
        refine xa_weak (ls' := [some (xR v0), some (xI v1), some (xI 0), some (xI 0)]) ⟨rfl, rfl, rfl, rfl, trivial⟩ ?_
        refine xa_loop (f := fun s => f_X11_nights_L47 v0 v1 s.1 s.2.1 s.2.2) (L := fun s => [some (xR v0), some (xI v1), some (xI s.1), some (xI s.2.1)]) (P := fun s => s.2.2) (X := (fun x K => xa_G l G 7 mX11_nights (some (Sum.inr x)) K 104 [none, none, some (xI x.1), none] [] x.2)) (fun K hb hX s => g_X11_nights_L47 l G v0 v1 K (fun w0 w1 hh => hb ((w0, w1, hh))) (fun w0 hh => hX ((w0, hh))) s.1 s.2.1 s.2.2) ?_ xFU ((0, 0, r9))
        intro e24 K hK
        refine xa_eqE hK ?_
        show xa_G l G 7 mX11_nights _ _ 104 [none, none, some (xI e24.1), none] [] e24.2
        refine xa_step (xa_iload_n d_X11_nights_104 rfl) ?_
        exact xa_iret d_X11_nights_105 rfl rfl
theorem ct_X11_nights (l : Launch) (G : xa_C) (v0 v1 : Int) (h : xa_H) (r : Int × xa_H) (hr : f_X11_nights v0 v1 h = some r) : xa_CT l G 7 mX11_nights yX11_nights [xR v0, xI v1] h (some (xI r.1), r.2) :=
  xa_met (by decide +kernel) rfl (fun q => by first | rfl | cases q) (Nat.le_of_ble_eq_true rfl) rfl (g_X11_nights l G v0 v1 h) (by rw [hr]; rfl)
abbrev mX5_addRow : xa_M := (cX5_addRow, 4, none, RX5, false)
theorem d_X5_addRow_0 : decode mX5_addRow.1 0 = .ok (.aload_n 0, 1) ∧ 0 + 1 = 1 := ⟨by decide +kernel, rfl⟩
theorem d_X5_addRow_1 : decode mX5_addRow.1 1 = .ok (.getfield 24, 3) ∧ 1 + 3 = 4 := ⟨by decide +kernel, rfl⟩
theorem d_X5_addRow_4 : decode mX5_addRow.1 4 = .ok (.iload_n 1, 1) ∧ 4 + 1 = 5 := ⟨by decide +kernel, rfl⟩
theorem d_X5_addRow_5 : decode mX5_addRow.1 5 = .ok (.dup2, 1) ∧ 5 + 1 = 6 := ⟨by decide +kernel, rfl⟩
theorem d_X5_addRow_6 : decode mX5_addRow.1 6 = .ok (.iaload, 1) ∧ 6 + 1 = 7 := ⟨by decide +kernel, rfl⟩
theorem d_X5_addRow_7 : decode mX5_addRow.1 7 = .ok (.iload_n 3, 1) ∧ 7 + 1 = 8 := ⟨by decide +kernel, rfl⟩
theorem d_X5_addRow_8 : decode mX5_addRow.1 8 = .ok (.ifCond .eq 9, 3) ∧ 8 + 3 = 11 ∧ ((8 : Nat) : Int) + 9 = ((17 : Nat) : Int) := ⟨by decide +kernel, rfl, rfl⟩
theorem d_X5_addRow_17 : decode mX5_addRow.1 17 = .ok (.iconst 1, 1) ∧ 17 + 1 = 18 := ⟨by decide +kernel, rfl⟩
theorem d_X5_addRow_18 : decode mX5_addRow.1 18 = .ok (.iload_n 2, 1) ∧ 18 + 1 = 19 := ⟨by decide +kernel, rfl⟩
theorem d_X5_addRow_19 : decode mX5_addRow.1 19 = .ok (.ishl, 1) ∧ 19 + 1 = 20 := ⟨by decide +kernel, rfl⟩
theorem d_X5_addRow_20 : decode mX5_addRow.1 20 = .ok (.iconst (-1), 1) ∧ 20 + 1 = 21 := ⟨by decide +kernel, rfl⟩
theorem d_X5_addRow_21 : decode mX5_addRow.1 21 = .ok (.ixor, 1) ∧ 21 + 1 = 22 := ⟨by decide +kernel, rfl⟩
theorem d_X5_addRow_22 : decode mX5_addRow.1 22 = .ok (.iand, 1) ∧ 22 + 1 = 23 := ⟨by decide +kernel, rfl⟩
theorem d_X5_addRow_23 : decode mX5_addRow.1 23 = .ok (.iastore, 1) ∧ 23 + 1 = 24 := ⟨by decide +kernel, rfl⟩
theorem d_X5_addRow_24 : decode mX5_addRow.1 24 = .ok (.aload_n 0, 1) ∧ 24 + 1 = 25 := ⟨by decide +kernel, rfl⟩
theorem d_X5_addRow_25 : decode mX5_addRow.1 25 = .ok (.dup, 1) ∧ 25 + 1 = 26 := ⟨by decide +kernel, rfl⟩
theorem d_X5_addRow_26 : decode mX5_addRow.1 26 = .ok (.getfield 9, 3) ∧ 26 + 3 = 29 := ⟨by decide +kernel, rfl⟩
theorem d_X5_addRow_29 : decode mX5_addRow.1 29 = .ok (.iconst 1, 1) ∧ 29 + 1 = 30 := ⟨by decide +kernel, rfl⟩
theorem d_X5_addRow_30 : decode mX5_addRow.1 30 = .ok (.iadd, 1) ∧ 30 + 1 = 31 := ⟨by decide +kernel, rfl⟩
theorem d_X5_addRow_31 : decode mX5_addRow.1 31 = .ok (.putfield 9, 3) ∧ 31 + 3 = 34 := ⟨by decide +kernel, rfl⟩
theorem d_X5_addRow_34 : decode mX5_addRow.1 34 = .ok (.return_, 1) := by decide +kernel
theorem d_X5_addRow_11 : decode mX5_addRow.1 11 = .ok (.iconst 1, 1) ∧ 11 + 1 = 12 := ⟨by decide +kernel, rfl⟩
theorem d_X5_addRow_12 : decode mX5_addRow.1 12 = .ok (.iload_n 2, 1) ∧ 12 + 1 = 13 := ⟨by decide +kernel, rfl⟩
theorem d_X5_addRow_13 : decode mX5_addRow.1 13 = .ok (.ishl, 1) ∧ 13 + 1 = 14 := ⟨by decide +kernel, rfl⟩
theorem d_X5_addRow_14 : decode mX5_addRow.1 14 = .ok (.goto 8, 3) ∧ ((14 : Nat) : Int) + 8 = ((22 : Nat) : Int) := ⟨by decide +kernel, rfl⟩
set_option maxRecDepth 100000 in
set_option maxHeartbeats 4000000 in
theorem g_X5_addRow (l : Launch) (G : xa_C) (v0 v1 v2 v3 : Int) (h : xa_H) : xa_G l G 2 mX5_addRow (f_X5_addRow v0 v1 v2 v3 h) (fun r => some (none, r) : xa_H → Option xa_O) 0 [some (xR v0), some (xI v1), some (xI v2), some (xI v3)] [] h := by
  unfold f_X5_addRow
  refine xa_step (xa_aload_n d_X5_addRow_0 rfl) ?_
  refine xa_getf xR xc_5 (by decide) (fun _ => rfl) xw_516 rfl d_X5_addRow_1 (fun x1 _ => ?_)
  refine xa_step (xa_iload_n d_X5_addRow_4 rfl) ?_
  refine xa_step (xa_dup2 d_X5_addRow_5 (xa_tI _) (xa_tR _)) ?_
  refine xa_iaload d_X5_addRow_6 (fun x2 _ => ?_)
  refine xa_step (xa_iload_n d_X5_addRow_7 rfl) ?_
  refine xa_if (xa_ifeq d_X5_addRow_8) (fun q3 => ?_) (fun q3 => ?_)
  · refine xa_step (xa_iconst d_X5_addRow_17 xq_i_1) ?_
    refine xa_step (xa_iload_n d_X5_addRow_18 rfl) ?_
    refine xa_step (xa_ishl d_X5_addRow_19) ?_
    refine xa_step (xa_iconst d_X5_addRow_20 xq_i_m1) ?_
    refine xa_step (xa_ixor d_X5_addRow_21) ?_
    refine xa_step (xa_iand d_X5_addRow_22) ?_
    refine xa_iastore2 d_X5_addRow_23 (fun h4 _ => ?_)
    refine xa_step (xa_aload_n d_X5_addRow_24 rfl) ?_
    refine xa_step (xa_dup d_X5_addRow_25 (xa_tR _)) ?_
    refine xa_getf xI xc_5 (by decide) (fun _ => rfl) xw_510 rfl d_X5_addRow_26 (fun x5 _ => ?_)
    refine xa_step (xa_iconst d_X5_addRow_29 xq_i_1) ?_
    refine xa_step (xa_iadd d_X5_addRow_30) ?_
    refine xa_putf2 (tg := xI) xc_5 (by decide) (fun _ => rfl) rfl (fun c hc => xa_fitI c hc) xw_510 rfl d_X5_addRow_31 (fun h6 _ => ?_)
    exact xa_vret d_X5_addRow_34 rfl rfl
  · refine xa_step (xa_iconst d_X5_addRow_11 xq_i_1) ?_
    refine xa_step (xa_iload_n d_X5_addRow_12 rfl) ?_
    refine xa_step (xa_ishl d_X5_addRow_13) ?_
    refine xa_step (xa_goto d_X5_addRow_14) ?_
    refine xa_step (xa_iand d_X5_addRow_22) ?_
    refine xa_iastore2 d_X5_addRow_23 (fun h7 _ => ?_)
    refine xa_step (xa_aload_n d_X5_addRow_24 rfl) ?_
    refine xa_step (xa_dup d_X5_addRow_25 (xa_tR _)) ?_
    refine xa_getf xI xc_5 (by decide) (fun _ => rfl) xw_510 rfl d_X5_addRow_26 (fun x8 _ => ?_)
    refine xa_step (xa_iconst d_X5_addRow_29 xq_i_1) ?_
    refine xa_step (xa_iadd d_X5_addRow_30) ?_
    refine xa_putf2 (tg := xI) xc_5 (by decide) (fun _ => rfl) rfl (fun c hc => xa_fitI c hc) xw_510 rfl d_X5_addRow_31 (fun h9 _ => ?_)
    exact xa_vret d_X5_addRow_34 rfl rfl
theorem ct_X5_addRow (l : Launch) (G : xa_C) (v0 v1 v2 v3 : Int) (h : xa_H) (r : xa_H) (hr : f_X5_addRow v0 v1 v2 v3 h = some r) : xa_CT l G 2 mX5_addRow yX5_addRow [xR v0, xI v1, xI v2, xI v3] h (none, r) :=
  xa_met (by decide +kernel) rfl (fun q => by first | rfl | cases q) (Nat.le_of_ble_eq_true rfl) rfl (g_X5_addRow l G v0 v1 v2 v3 h) (by rw [hr]; rfl)
abbrev mX11_note : xa_M := (cX11_note, 3, (some (.int)), RX11, false)
theorem d_X11_note_0 : decode mX11_note.1 0 = .ok (.aload_n 0, 1) ∧ 0 + 1 = 1 := ⟨by decide +kernel, rfl⟩
theorem d_X11_note_1 : decode mX11_note.1 1 = .ok (.invokevirtual 126, 3) ∧ 1 + 3 = 4 := ⟨by decide +kernel, rfl⟩
theorem d_X11_note_4 : decode mX11_note.1 4 = .ok (.istore_n 1, 1) ∧ 4 + 1 = 5 := ⟨by decide +kernel, rfl⟩
theorem d_X11_note_5 : decode mX11_note.1 5 = .ok (.aload_n 0, 1) ∧ 5 + 1 = 6 := ⟨by decide +kernel, rfl⟩
theorem d_X11_note_6 : decode mX11_note.1 6 = .ok (.iload_n 1, 1) ∧ 6 + 1 = 7 := ⟨by decide +kernel, rfl⟩
theorem d_X11_note_7 : decode mX11_note.1 7 = .ok (.invokevirtual 300, 3) ∧ 7 + 3 = 10 := ⟨by decide +kernel, rfl⟩
theorem d_X11_note_10 : decode mX11_note.1 10 = .ok (.ifCond .ne 9, 3) ∧ 10 + 3 = 13 ∧ ((10 : Nat) : Int) + 9 = ((19 : Nat) : Int) := ⟨by decide +kernel, rfl, rfl⟩
theorem d_X11_note_13 : decode mX11_note.1 13 = .ok (.aload_n 0, 1) ∧ 13 + 1 = 14 := ⟨by decide +kernel, rfl⟩
theorem d_X11_note_14 : decode mX11_note.1 14 = .ok (.iconst 1, 1) ∧ 14 + 1 = 15 := ⟨by decide +kernel, rfl⟩
theorem d_X11_note_15 : decode mX11_note.1 15 = .ok (.invokevirtual 118, 3) ∧ 15 + 3 = 18 := ⟨by decide +kernel, rfl⟩
theorem d_X11_note_18 : decode mX11_note.1 18 = .ok (.ireturn, 1) := by decide +kernel
theorem d_X11_note_19 : decode mX11_note.1 19 = .ok (.aload_n 0, 1) ∧ 19 + 1 = 20 := ⟨by decide +kernel, rfl⟩
theorem d_X11_note_20 : decode mX11_note.1 20 = .ok (.getfield 78, 3) ∧ 20 + 3 = 23 := ⟨by decide +kernel, rfl⟩
theorem d_X11_note_23 : decode mX11_note.1 23 = .ok (.aload_n 0, 1) ∧ 23 + 1 = 24 := ⟨by decide +kernel, rfl⟩
theorem d_X11_note_24 : decode mX11_note.1 24 = .ok (.getfield 47, 3) ∧ 24 + 3 = 27 := ⟨by decide +kernel, rfl⟩
theorem d_X11_note_27 : decode mX11_note.1 27 = .ok (.getfield 146, 3) ∧ 27 + 3 = 30 := ⟨by decide +kernel, rfl⟩
theorem d_X11_note_30 : decode mX11_note.1 30 = .ok (.aload_n 0, 1) ∧ 30 + 1 = 31 := ⟨by decide +kernel, rfl⟩
theorem d_X11_note_31 : decode mX11_note.1 31 = .ok (.getfield 47, 3) ∧ 31 + 3 = 34 := ⟨by decide +kernel, rfl⟩
theorem d_X11_note_34 : decode mX11_note.1 34 = .ok (.getfield 149, 3) ∧ 34 + 3 = 37 := ⟨by decide +kernel, rfl⟩
theorem d_X11_note_37 : decode mX11_note.1 37 = .ok (.invokevirtual 114, 3) ∧ 37 + 3 = 40 := ⟨by decide +kernel, rfl⟩
theorem d_X11_note_40 : decode mX11_note.1 40 = .ok (.iconst 0, 1) ∧ 40 + 1 = 41 := ⟨by decide +kernel, rfl⟩
theorem d_X11_note_41 : decode mX11_note.1 41 = .ok (.istore_n 2, 1) ∧ 41 + 1 = 42 := ⟨by decide +kernel, rfl⟩
theorem d_X11_note_42 : decode mX11_note.1 42 = .ok (.iload_n 2, 1) ∧ 42 + 1 = 43 := ⟨by decide +kernel, rfl⟩
theorem d_X11_note_43 : decode mX11_note.1 43 = .ok (.iload_n 1, 1) ∧ 43 + 1 = 44 := ⟨by decide +kernel, rfl⟩
theorem d_X11_note_44 : decode mX11_note.1 44 = .ok (.if_icmp .ge 44, 3) ∧ 44 + 3 = 47 ∧ ((44 : Nat) : Int) + 44 = ((88 : Nat) : Int) := ⟨by decide +kernel, rfl, rfl⟩
theorem d_X11_note_47 : decode mX11_note.1 47 = .ok (.aload_n 0, 1) ∧ 47 + 1 = 48 := ⟨by decide +kernel, rfl⟩
theorem d_X11_note_48 : decode mX11_note.1 48 = .ok (.getfield 78, 3) ∧ 48 + 3 = 51 := ⟨by decide +kernel, rfl⟩
theorem d_X11_note_51 : decode mX11_note.1 51 = .ok (.aload_n 0, 1) ∧ 51 + 1 = 52 := ⟨by decide +kernel, rfl⟩
theorem d_X11_note_52 : decode mX11_note.1 52 = .ok (.iload_n 2, 1) ∧ 52 + 1 = 53 := ⟨by decide +kernel, rfl⟩
theorem d_X11_note_53 : decode mX11_note.1 53 = .ok (.invokevirtual 303, 3) ∧ 53 + 3 = 56 := ⟨by decide +kernel, rfl⟩
theorem d_X11_note_56 : decode mX11_note.1 56 = .ok (.aload_n 0, 1) ∧ 56 + 1 = 57 := ⟨by decide +kernel, rfl⟩
theorem d_X11_note_57 : decode mX11_note.1 57 = .ok (.iload_n 2, 1) ∧ 57 + 1 = 58 := ⟨by decide +kernel, rfl⟩
theorem d_X11_note_58 : decode mX11_note.1 58 = .ok (.iconst 1, 1) ∧ 58 + 1 = 59 := ⟨by decide +kernel, rfl⟩
theorem d_X11_note_59 : decode mX11_note.1 59 = .ok (.iadd, 1) ∧ 59 + 1 = 60 := ⟨by decide +kernel, rfl⟩
theorem d_X11_note_60 : decode mX11_note.1 60 = .ok (.invokevirtual 303, 3) ∧ 60 + 3 = 63 := ⟨by decide +kernel, rfl⟩
theorem d_X11_note_63 : decode mX11_note.1 63 = .ok (.aload_n 0, 1) ∧ 63 + 1 = 64 := ⟨by decide +kernel, rfl⟩
theorem d_X11_note_64 : decode mX11_note.1 64 = .ok (.iload_n 2, 1) ∧ 64 + 1 = 65 := ⟨by decide +kernel, rfl⟩
theorem d_X11_note_65 : decode mX11_note.1 65 = .ok (.iconst 2, 1) ∧ 65 + 1 = 66 := ⟨by decide +kernel, rfl⟩
theorem d_X11_note_66 : decode mX11_note.1 66 = .ok (.iadd, 1) ∧ 66 + 1 = 67 := ⟨by decide +kernel, rfl⟩
theorem d_X11_note_67 : decode mX11_note.1 67 = .ok (.invokevirtual 303, 3) ∧ 67 + 3 = 70 := ⟨by decide +kernel, rfl⟩
theorem d_X11_note_70 : decode mX11_note.1 70 = .ok (.iconst 1, 1) ∧ 70 + 1 = 71 := ⟨by decide +kernel, rfl⟩
theorem d_X11_note_71 : decode mX11_note.1 71 = .ok (.if_icmp .ne 7, 3) ∧ 71 + 3 = 74 ∧ ((71 : Nat) : Int) + 7 = ((78 : Nat) : Int) := ⟨by decide +kernel, rfl, rfl⟩
theorem d_X11_note_74 : decode mX11_note.1 74 = .ok (.iconst 1, 1) ∧ 74 + 1 = 75 := ⟨by decide +kernel, rfl⟩
theorem d_X11_note_75 : decode mX11_note.1 75 = .ok (.goto 4, 3) ∧ ((75 : Nat) : Int) + 4 = ((79 : Nat) : Int) := ⟨by decide +kernel, rfl⟩
theorem d_X11_note_79 : decode mX11_note.1 79 = .ok (.invokevirtual 306, 3) ∧ 79 + 3 = 82 := ⟨by decide +kernel, rfl⟩
theorem d_X11_note_82 : decode mX11_note.1 82 = .ok (.iinc 2 3, 3) ∧ 82 + 3 = 85 := ⟨by decide +kernel, rfl⟩
theorem d_X11_note_85 : decode mX11_note.1 85 = .ok (.goto (-43), 3) ∧ ((85 : Nat) : Int) + (-43) = ((42 : Nat) : Int) := ⟨by decide +kernel, rfl⟩
theorem d_X11_note_78 : decode mX11_note.1 78 = .ok (.iconst 0, 1) ∧ 78 + 1 = 79 := ⟨by decide +kernel, rfl⟩
set_option maxRecDepth 100000 in
set_option maxHeartbeats 4000000 in
theorem g_X11_note_L42 (l : Launch) (G : xa_C) (c0 c1 : Int) (K : (Int × xa_H) ⊕ (xa_H) → Option xa_O) (hb : ∀ (v2 : Int) (h : xa_H), xa_G l G 6 mX11_note (some (Sum.inl ((v2, h)))) K 42 [some (xR c0), some (xI c1), some (xI v2)] [] h) (hx : ∀ (h : xa_H), xa_G l G 6 mX11_note (some (Sum.inr h)) K 88 [some (xR c0), none, none] [] h) : ∀ (v2 : Int) (h : xa_H), xa_G l G 6 mX11_note (f_X11_note_L42 c0 c1 v2 h) K 42 [some (xR c0), some (xI c1), some (xI v2)] [] h := by
  intro v2 h
  unfold f_X11_note_L42
  refine xa_step (xa_iload_n d_X11_note_42 rfl) ?_
  refine xa_step (xa_iload_n d_X11_note_43 rfl) ?_
  refine xa_if (xa_icmpge d_X11_note_44) (fun q11 => ?_) (fun q11 => ?_)
  · refine xa_step (xa_aload_n d_X11_note_47 rfl) ?_
    refine xa_getf xR xc_11 (by decide) (fun _ => rfl) xw_594 rfl d_X11_note_48 (fun x12 _ => ?_)
    refine xa_step (xa_aload_n d_X11_note_51 rfl) ?_
    refine xa_step (xa_iload_n d_X11_note_52 rfl) ?_
    refine xa_callVi (as := [xI v2]) (st := [xR x12]) (M' := mX11_tapeByte) (d' := 2) rfl xw_958 xw_960 xw_36 xw_961 xw_161 xh_X11_tapeByte rfl ⟨Nat.le_of_ble_eq_true rfl, Nat.le_of_ble_eq_true rfl⟩ (Nat.le_of_ble_eq_true rfl) rfl d_X11_note_53 (fun r hr => ct_X11_tapeByte l G c0 v2 h r hr) (fun r13 _ => ?_)
    refine xa_step (xa_aload_n d_X11_note_56 rfl) ?_
    refine xa_step (xa_iload_n d_X11_note_57 rfl) ?_
    refine xa_step (xa_iconst d_X11_note_58 xq_i_1) ?_
    refine xa_step (xa_iadd d_X11_note_59) ?_
    refine xa_callVi (as := [xI (w32 (v2 + 1))]) (st := [xI r13, xR x12]) (M' := mX11_tapeByte) (d' := 2) rfl xw_958 xw_960 xw_36 xw_961 xw_161 xh_X11_tapeByte rfl ⟨Nat.le_of_ble_eq_true rfl, Nat.le_of_ble_eq_true rfl⟩ (Nat.le_of_ble_eq_true rfl) rfl d_X11_note_60 (fun r hr => ct_X11_tapeByte l G c0 (w32 (v2 + 1)) h r hr) (fun r14 _ => ?_)
    refine xa_step (xa_aload_n d_X11_note_63 rfl) ?_
    refine xa_step (xa_iload_n d_X11_note_64 rfl) ?_
    refine xa_step (xa_iconst d_X11_note_65 xq_i_2) ?_
    refine xa_step (xa_iadd d_X11_note_66) ?_
    refine xa_callVi (as := [xI (w32 (v2 + 2))]) (st := [xI r14, xI r13, xR x12]) (M' := mX11_tapeByte) (d' := 2) rfl xw_958 xw_960 xw_36 xw_961 xw_161 xh_X11_tapeByte rfl ⟨Nat.le_of_ble_eq_true rfl, Nat.le_of_ble_eq_true rfl⟩ (Nat.le_of_ble_eq_true rfl) rfl d_X11_note_67 (fun r hr => ct_X11_tapeByte l G c0 (w32 (v2 + 2)) h r hr) (fun r15 _ => ?_)
    refine xa_step (xa_iconst d_X11_note_70 xq_i_1) ?_
    refine xa_if (xa_icmpne d_X11_note_71) (fun q16 => ?_) (fun q16 => ?_)
    · refine xa_step (xa_iconst d_X11_note_74 xq_i_1) ?_
      refine xa_step (xa_goto d_X11_note_75) ?_
      refine xa_callVV (as := [xI r13, xI r14, xI 1]) (st := []) (M' := mX5_addRow) (d' := 2) rfl xw_1158 xw_1159 xw_1160 xw_1161 xw_174 xh_X5_addRow rfl ⟨Nat.le_of_ble_eq_true rfl, Nat.le_of_ble_eq_true rfl⟩ (Nat.le_of_ble_eq_true rfl) rfl d_X11_note_79 (fun r hr => ct_X5_addRow l G x12 r13 r14 1 h r hr) (fun r17 _ => ?_)
      refine xa_step (xa_iinc (ls' := [some (xR c0), some (xI c1), some (xI (w32 (v2 + 3)))]) d_X11_note_82 xq_i_3 rfl (by decide) rfl) ?_
      refine xa_step (xa_goto d_X11_note_85) ?_
      exact xa_weak (ls' := [some (xR c0), some (xI c1), some (xI (w32 (v2 + 3)))]) ⟨rfl, rfl, rfl, trivial⟩ (hb (w32 (v2 + 3)) r17)
    · refine xa_step (xa_iconst d_X11_note_78 xq_i_0) ?_
      refine xa_callVV (as := [xI r13, xI r14, xI 0]) (st := []) (M' := mX5_addRow) (d' := 2) rfl xw_1158 xw_1159 xw_1160 xw_1161 xw_174 xh_X5_addRow rfl ⟨Nat.le_of_ble_eq_true rfl, Nat.le_of_ble_eq_true rfl⟩ (Nat.le_of_ble_eq_true rfl) rfl d_X11_note_79 (fun r hr => ct_X5_addRow l G x12 r13 r14 0 h r hr) (fun r18 _ => ?_)
      refine xa_step (xa_iinc (ls' := [some (xR c0), some (xI c1), some (xI (w32 (v2 + 3)))]) d_X11_note_82 xq_i_3 rfl (by decide) rfl) ?_
      refine xa_step (xa_goto d_X11_note_85) ?_
      exact xa_weak (ls' := [some (xR c0), some (xI c1), some (xI (w32 (v2 + 3)))]) ⟨rfl, rfl, rfl, trivial⟩ (hb (w32 (v2 + 3)) r18)
  · exact xa_weak (ls' := [some (xR c0), none, none]) ⟨rfl, trivial⟩ (hx h)
theorem d_X11_note_88 : decode mX11_note.1 88 = .ok (.aload_n 0, 1) ∧ 88 + 1 = 89 := ⟨by decide +kernel, rfl⟩
theorem d_X11_note_89 : decode mX11_note.1 89 = .ok (.getfield 78, 3) ∧ 89 + 3 = 92 := ⟨by decide +kernel, rfl⟩
theorem d_X11_note_92 : decode mX11_note.1 92 = .ok (.invokevirtual 310, 3) ∧ 92 + 3 = 95 := ⟨by decide +kernel, rfl⟩
theorem d_X11_note_95 : decode mX11_note.1 95 = .ok (.aload_n 0, 1) ∧ 95 + 1 = 96 := ⟨by decide +kernel, rfl⟩
theorem d_X11_note_96 : decode mX11_note.1 96 = .ok (.getfield 78, 3) ∧ 96 + 3 = 99 := ⟨by decide +kernel, rfl⟩
theorem d_X11_note_99 : decode mX11_note.1 99 = .ok (.getfield 182, 3) ∧ 99 + 3 = 102 := ⟨by decide +kernel, rfl⟩
theorem d_X11_note_102 : decode mX11_note.1 102 = .ok (.ireturn, 1) := by decide +kernel
set_option maxRecDepth 100000 in
set_option maxHeartbeats 4000000 in
theorem g_X11_note (l : Launch) (G : xa_C) (v0 : Int) (h : xa_H) : xa_G l G 6 mX11_note (f_X11_note v0 h) (fun r => some (some (xI r.1), r.2) : (Int × xa_H) → Option xa_O) 0 [some (xR v0), none, none] [] h := by
  unfold f_X11_note
  refine xa_step (xa_aload_n d_X11_note_0 rfl) ?_
  refine xa_callVI (as := []) (st := []) (M' := mX11_takeTape) (d' := 2) rfl xw_662 xw_664 xw_4 xw_665 xw_161 xh_X11_takeTape rfl ⟨Nat.le_of_ble_eq_true rfl, Nat.le_of_ble_eq_true rfl⟩ (Nat.le_of_ble_eq_true rfl) rfl d_X11_note_1 (fun r hr => ct_X11_takeTape l G v0 h r hr) (fun r1 _ => ?_)
  refine xa_step (xa_istore_n (ls' := [some (xR v0), some (xI r1.1), none]) d_X11_note_4 (by decide) rfl) ?_
  refine xa_step (xa_aload_n d_X11_note_5 rfl) ?_
  refine xa_step (xa_iload_n d_X11_note_6 rfl) ?_
  refine xa_callVi (as := [xI r1.1]) (st := []) (M' := mX11_areNotes) (d' := 3) rfl xw_1154 xw_1156 xw_54 xw_1157 xw_161 xh_X11_areNotes rfl ⟨Nat.le_of_ble_eq_true rfl, Nat.le_of_ble_eq_true rfl⟩ (Nat.le_of_ble_eq_true rfl) rfl d_X11_note_7 (fun r hr => ct_X11_areNotes l G v0 r1.1 r1.2 r hr) (fun r2 _ => ?_)
  refine xa_if (xa_ifne d_X11_note_10) (fun q3 => ?_) (fun q3 => ?_)
  · refine xa_step (xa_aload_n d_X11_note_13 rfl) ?_
    refine xa_step (xa_iconst d_X11_note_14 xq_i_1) ?_
    refine xa_callVI (as := [xI 1]) (st := []) (M' := mX11_refuse) (d' := 2) rfl xw_646 xw_648 xw_2 xw_649 xw_161 xh_X11_refuse rfl ⟨Nat.le_of_ble_eq_true rfl, Nat.le_of_ble_eq_true rfl⟩ (Nat.le_of_ble_eq_true rfl) rfl d_X11_note_15 (fun r hr => ct_X11_refuse l G v0 1 r1.2 r hr) (fun r4 _ => ?_)
    exact xa_iret d_X11_note_18 rfl rfl
  · refine xa_step (xa_aload_n d_X11_note_19 rfl) ?_
    refine xa_getf xR xc_11 (by decide) (fun _ => rfl) xw_594 rfl d_X11_note_20 (fun x5 _ => ?_)
    refine xa_step (xa_aload_n d_X11_note_23 rfl) ?_
    refine xa_getf xR xc_11 (by decide) (fun _ => rfl) xw_589 rfl d_X11_note_24 (fun x6 _ => ?_)
    refine xa_getf xI xc_0 (by decide) (fun _ => rfl) xw_391 rfl d_X11_note_27 (fun x7 _ => ?_)
    refine xa_step (xa_aload_n d_X11_note_30 rfl) ?_
    refine xa_getf xR xc_11 (by decide) (fun _ => rfl) xw_589 rfl d_X11_note_31 (fun x8 _ => ?_)
    refine xa_getf xI xc_0 (by decide) (fun _ => rfl) xw_386 rfl d_X11_note_34 (fun x9 _ => ?_)
    refine xa_callVV (as := [xI x7, xI x9]) (st := []) (M' := mX5_forget) (d' := 5) rfl xw_561 xw_562 xw_563 xw_564 xw_174 xh_X5_forget rfl ⟨Nat.le_of_ble_eq_true rfl, Nat.le_of_ble_eq_true rfl⟩ (Nat.le_of_ble_eq_true rfl) rfl d_X11_note_37 (fun r hr => ct_X5_forget l G x5 x7 x9 r1.2 r hr) (fun r10 _ => ?_)
    refine xa_step (xa_iconst d_X11_note_40 xq_i_0) ?_
    refine xa_step (xa_istore_n (ls' := [some (xR v0), some (xI r1.1), some (xI 0)]) d_X11_note_41 (by decide) rfl) ?_
    refine xa_weak (ls' := [some (xR v0), some (xI r1.1), some (xI 0)]) ⟨rfl, rfl, rfl, trivial⟩ ?_
    refine xa_loop (f := fun s => f_X11_note_L42 v0 r1.1 s.1 s.2) (L := fun s => [some (xR v0), some (xI r1.1), some (xI s.1)]) (P := fun s => s.2) (X := (fun x K => xa_G l G 6 mX11_note (some (Sum.inr x)) K 88 [some (xR v0), none, none] [] x)) (fun K hb hX s => g_X11_note_L42 l G v0 r1.1 K (fun w0 hh => hb ((w0, hh))) (fun hh => hX hh) s.1 s.2) ?_ xFU ((0, r10))
    intro e19 K hK
    refine xa_eqE hK ?_
    show xa_G l G 6 mX11_note _ _ 88 [some (xR v0), none, none] [] e19
    refine xa_step (xa_aload_n d_X11_note_88 rfl) ?_
    refine xa_getf xR xc_11 (by decide) (fun _ => rfl) xw_594 rfl d_X11_note_89 (fun x20 _ => ?_)
    refine xa_callVV (as := []) (st := []) (M' := mX5_reckon) (d' := 4) rfl xw_1162 xw_567 xw_568 xw_569 xw_174 xh_X5_reckon rfl ⟨Nat.le_of_ble_eq_true rfl, Nat.le_of_ble_eq_true rfl⟩ (Nat.le_of_ble_eq_true rfl) rfl d_X11_note_92 (fun r hr => ct_X5_reckon l G x20 e19 r hr) (fun r21 _ => ?_)
    refine xa_step (xa_aload_n d_X11_note_95 rfl) ?_
    refine xa_getf xR xc_11 (by decide) (fun _ => rfl) xw_594 rfl d_X11_note_96 (fun x22 _ => ?_)
    refine xa_getf xI xc_5 (by decide) (fun _ => rfl) xw_511 rfl d_X11_note_99 (fun x23 _ => ?_)
    exact xa_iret d_X11_note_102 rfl rfl
theorem ct_X11_note (l : Launch) (G : xa_C) (v0 : Int) (h : xa_H) (r : Int × xa_H) (hr : f_X11_note v0 h = some r) : xa_CT l G 6 mX11_note yX11_note [xR v0] h (some (xI r.1), r.2) :=
  xa_met (by decide +kernel) rfl (fun q => by first | rfl | cases q) (Nat.le_of_ble_eq_true rfl) rfl (g_X11_note l G v0 h) (by rw [hr]; rfl)
abbrev mX11_octet : xa_M := (cX11_octet, 2, (some (.int)), RX11, false)
theorem d_X11_octet_0 : decode mX11_octet.1 0 = .ok (.iload_n 1, 1) ∧ 0 + 1 = 1 := ⟨by decide +kernel, rfl⟩
theorem d_X11_octet_1 : decode mX11_octet.1 1 = .ok (.ifCond .lt 20, 3) ∧ 1 + 3 = 4 ∧ ((1 : Nat) : Int) + 20 = ((21 : Nat) : Int) := ⟨by decide +kernel, rfl, rfl⟩
theorem d_X11_octet_21 : decode mX11_octet.1 21 = .ok (.iconst (-1), 1) ∧ 21 + 1 = 22 := ⟨by decide +kernel, rfl⟩
theorem d_X11_octet_22 : decode mX11_octet.1 22 = .ok (.ireturn, 1) := by decide +kernel
theorem d_X11_octet_4 : decode mX11_octet.1 4 = .ok (.iload_n 1, 1) ∧ 4 + 1 = 5 := ⟨by decide +kernel, rfl⟩
theorem d_X11_octet_5 : decode mX11_octet.1 5 = .ok (.aload_n 0, 1) ∧ 5 + 1 = 6 := ⟨by decide +kernel, rfl⟩
theorem d_X11_octet_6 : decode mX11_octet.1 6 = .ok (.getfield 105, 3) ∧ 6 + 3 = 9 := ⟨by decide +kernel, rfl⟩
theorem d_X11_octet_9 : decode mX11_octet.1 9 = .ok (.if_icmp .ge 12, 3) ∧ 9 + 3 = 12 ∧ ((9 : Nat) : Int) + 12 = ((21 : Nat) : Int) := ⟨by decide +kernel, rfl, rfl⟩
theorem d_X11_octet_12 : decode mX11_octet.1 12 = .ok (.aload_n 0, 1) ∧ 12 + 1 = 13 := ⟨by decide +kernel, rfl⟩
theorem d_X11_octet_13 : decode mX11_octet.1 13 = .ok (.getfield 102, 3) ∧ 13 + 3 = 16 := ⟨by decide +kernel, rfl⟩
theorem d_X11_octet_16 : decode mX11_octet.1 16 = .ok (.iload_n 1, 1) ∧ 16 + 1 = 17 := ⟨by decide +kernel, rfl⟩
theorem d_X11_octet_17 : decode mX11_octet.1 17 = .ok (.iaload, 1) ∧ 17 + 1 = 18 := ⟨by decide +kernel, rfl⟩
theorem d_X11_octet_18 : decode mX11_octet.1 18 = .ok (.goto 4, 3) ∧ ((18 : Nat) : Int) + 4 = ((22 : Nat) : Int) := ⟨by decide +kernel, rfl⟩
set_option maxRecDepth 100000 in
set_option maxHeartbeats 4000000 in
theorem g_X11_octet (l : Launch) (G : xa_C) (v0 v1 : Int) (h : xa_H) : xa_G l G 2 mX11_octet (f_X11_octet v0 v1 h) (fun r => some (some (xI r), h) : Int → Option xa_O) 0 [some (xR v0), some (xI v1)] [] h := by
  unfold f_X11_octet
  refine xa_step (xa_iload_n d_X11_octet_0 rfl) ?_
  refine xa_if (xa_iflt d_X11_octet_1) (fun q1 => ?_) (fun q1 => ?_)
  · refine xa_step (xa_iconst d_X11_octet_21 xq_i_m1) ?_
    exact xa_iret d_X11_octet_22 rfl rfl
  · refine xa_step (xa_iload_n d_X11_octet_4 rfl) ?_
    refine xa_step (xa_aload_n d_X11_octet_5 rfl) ?_
    refine xa_getf xI xc_11 (by decide) (fun _ => rfl) xw_600 rfl d_X11_octet_6 (fun x2 _ => ?_)
    refine xa_if (xa_icmpge d_X11_octet_9) (fun q3 => ?_) (fun q3 => ?_)
    · refine xa_step (xa_aload_n d_X11_octet_12 rfl) ?_
      refine xa_getf xR xc_11 (by decide) (fun _ => rfl) xw_599 rfl d_X11_octet_13 (fun x4 _ => ?_)
      refine xa_step (xa_iload_n d_X11_octet_16 rfl) ?_
      refine xa_iaload d_X11_octet_17 (fun x5 _ => ?_)
      refine xa_step (xa_goto d_X11_octet_18) ?_
      exact xa_iret d_X11_octet_22 rfl rfl
    · refine xa_step (xa_iconst d_X11_octet_21 xq_i_m1) ?_
      exact xa_iret d_X11_octet_22 rfl rfl
theorem ct_X11_octet (l : Launch) (G : xa_C) (v0 v1 : Int) (h : xa_H) (r : Int) (hr : f_X11_octet v0 v1 h = some r) : xa_CT l G 2 mX11_octet yX11_octet [xR v0, xI v1] h (some (xI r), h) :=
  xa_met (by decide +kernel) rfl (fun q => by first | rfl | cases q) (Nat.le_of_ble_eq_true rfl) rfl (g_X11_octet l G v0 v1 h) (by rw [hr]; rfl)
abbrev mX11_withNeighbours : xa_M := (cX11_withNeighbours, 5, (some (.int)), RX11, false)
theorem d_X11_withNeighbours_0 : decode mX11_withNeighbours.1 0 = .ok (.iload_n 1, 1) ∧ 0 + 1 = 1 := ⟨by decide +kernel, rfl⟩
theorem d_X11_withNeighbours_1 : decode mX11_withNeighbours.1 1 = .ok (.istore_n 2, 1) ∧ 1 + 1 = 2 := ⟨by decide +kernel, rfl⟩
theorem d_X11_withNeighbours_2 : decode mX11_withNeighbours.1 2 = .ok (.iconst 0, 1) ∧ 2 + 1 = 3 := ⟨by decide +kernel, rfl⟩
theorem d_X11_withNeighbours_3 : decode mX11_withNeighbours.1 3 = .ok (.istore_n 3, 1) ∧ 3 + 1 = 4 := ⟨by decide +kernel, rfl⟩
theorem d_X11_withNeighbours_4 : decode mX11_withNeighbours.1 4 = .ok (.iload_n 3, 1) ∧ 4 + 1 = 5 := ⟨by decide +kernel, rfl⟩
theorem d_X11_withNeighbours_5 : decode mX11_withNeighbours.1 5 = .ok (.aload_n 0, 1) ∧ 5 + 1 = 6 := ⟨by decide +kernel, rfl⟩
theorem d_X11_withNeighbours_6 : decode mX11_withNeighbours.1 6 = .ok (.getfield 47, 3) ∧ 6 + 3 = 9 := ⟨by decide +kernel, rfl⟩
theorem d_X11_withNeighbours_9 : decode mX11_withNeighbours.1 9 = .ok (.getfield 146, 3) ∧ 9 + 3 = 12 := ⟨by decide +kernel, rfl⟩
theorem d_X11_withNeighbours_12 : decode mX11_withNeighbours.1 12 = .ok (.if_icmp .ge 56, 3) ∧ 12 + 3 = 15 ∧ ((12 : Nat) : Int) + 56 = ((68 : Nat) : Int) := ⟨by decide +kernel, rfl, rfl⟩
theorem d_X11_withNeighbours_15 : decode mX11_withNeighbours.1 15 = .ok (.iconst 0, 1) ∧ 15 + 1 = 16 := ⟨by decide +kernel, rfl⟩
theorem d_X11_withNeighbours_16 : decode mX11_withNeighbours.1 16 = .ok (.istore 4, 2) ∧ 16 + 2 = 18 := ⟨by decide +kernel, rfl⟩
theorem d_X11_withNeighbours_18 : decode mX11_withNeighbours.1 18 = .ok (.iload 4, 2) ∧ 18 + 2 = 20 := ⟨by decide +kernel, rfl⟩
theorem d_X11_withNeighbours_20 : decode mX11_withNeighbours.1 20 = .ok (.aload_n 0, 1) ∧ 20 + 1 = 21 := ⟨by decide +kernel, rfl⟩
theorem d_X11_withNeighbours_21 : decode mX11_withNeighbours.1 21 = .ok (.getfield 47, 3) ∧ 21 + 3 = 24 := ⟨by decide +kernel, rfl⟩
theorem d_X11_withNeighbours_24 : decode mX11_withNeighbours.1 24 = .ok (.getfield 146, 3) ∧ 24 + 3 = 27 := ⟨by decide +kernel, rfl⟩
theorem d_X11_withNeighbours_27 : decode mX11_withNeighbours.1 27 = .ok (.if_icmp .ge 35, 3) ∧ 27 + 3 = 30 ∧ ((27 : Nat) : Int) + 35 = ((62 : Nat) : Int) := ⟨by decide +kernel, rfl, rfl⟩
theorem d_X11_withNeighbours_30 : decode mX11_withNeighbours.1 30 = .ok (.iload_n 1, 1) ∧ 30 + 1 = 31 := ⟨by decide +kernel, rfl⟩
theorem d_X11_withNeighbours_31 : decode mX11_withNeighbours.1 31 = .ok (.iload_n 3, 1) ∧ 31 + 1 = 32 := ⟨by decide +kernel, rfl⟩
theorem d_X11_withNeighbours_32 : decode mX11_withNeighbours.1 32 = .ok (.ishr, 1) ∧ 32 + 1 = 33 := ⟨by decide +kernel, rfl⟩
theorem d_X11_withNeighbours_33 : decode mX11_withNeighbours.1 33 = .ok (.iconst 1, 1) ∧ 33 + 1 = 34 := ⟨by decide +kernel, rfl⟩
theorem d_X11_withNeighbours_34 : decode mX11_withNeighbours.1 34 = .ok (.iand, 1) ∧ 34 + 1 = 35 := ⟨by decide +kernel, rfl⟩
theorem d_X11_withNeighbours_35 : decode mX11_withNeighbours.1 35 = .ok (.iconst 1, 1) ∧ 35 + 1 = 36 := ⟨by decide +kernel, rfl⟩
theorem d_X11_withNeighbours_36 : decode mX11_withNeighbours.1 36 = .ok (.if_icmp .ne 20, 3) ∧ 36 + 3 = 39 ∧ ((36 : Nat) : Int) + 20 = ((56 : Nat) : Int) := ⟨by decide +kernel, rfl, rfl⟩
theorem d_X11_withNeighbours_39 : decode mX11_withNeighbours.1 39 = .ok (.aload_n 0, 1) ∧ 39 + 1 = 40 := ⟨by decide +kernel, rfl⟩
theorem d_X11_withNeighbours_40 : decode mX11_withNeighbours.1 40 = .ok (.iload_n 3, 1) ∧ 40 + 1 = 41 := ⟨by decide +kernel, rfl⟩
theorem d_X11_withNeighbours_41 : decode mX11_withNeighbours.1 41 = .ok (.iload 4, 2) ∧ 41 + 2 = 43 := ⟨by decide +kernel, rfl⟩
theorem d_X11_withNeighbours_43 : decode mX11_withNeighbours.1 43 = .ok (.invokevirtual 396, 3) ∧ 43 + 3 = 46 := ⟨by decide +kernel, rfl⟩
theorem d_X11_withNeighbours_46 : decode mX11_withNeighbours.1 46 = .ok (.ifCond .eq 10, 3) ∧ 46 + 3 = 49 ∧ ((46 : Nat) : Int) + 10 = ((56 : Nat) : Int) := ⟨by decide +kernel, rfl, rfl⟩
theorem d_X11_withNeighbours_56 : decode mX11_withNeighbours.1 56 = .ok (.iinc 4 1, 3) ∧ 56 + 3 = 59 := ⟨by decide +kernel, rfl⟩
theorem d_X11_withNeighbours_59 : decode mX11_withNeighbours.1 59 = .ok (.goto (-41), 3) ∧ ((59 : Nat) : Int) + (-41) = ((18 : Nat) : Int) := ⟨by decide +kernel, rfl⟩
theorem d_X11_withNeighbours_49 : decode mX11_withNeighbours.1 49 = .ok (.iload_n 2, 1) ∧ 49 + 1 = 50 := ⟨by decide +kernel, rfl⟩
theorem d_X11_withNeighbours_50 : decode mX11_withNeighbours.1 50 = .ok (.iconst 1, 1) ∧ 50 + 1 = 51 := ⟨by decide +kernel, rfl⟩
theorem d_X11_withNeighbours_51 : decode mX11_withNeighbours.1 51 = .ok (.iload 4, 2) ∧ 51 + 2 = 53 := ⟨by decide +kernel, rfl⟩
theorem d_X11_withNeighbours_53 : decode mX11_withNeighbours.1 53 = .ok (.ishl, 1) ∧ 53 + 1 = 54 := ⟨by decide +kernel, rfl⟩
theorem d_X11_withNeighbours_54 : decode mX11_withNeighbours.1 54 = .ok (.ior, 1) ∧ 54 + 1 = 55 := ⟨by decide +kernel, rfl⟩
theorem d_X11_withNeighbours_55 : decode mX11_withNeighbours.1 55 = .ok (.istore_n 2, 1) ∧ 55 + 1 = 56 := ⟨by decide +kernel, rfl⟩
set_option maxRecDepth 100000 in
set_option maxHeartbeats 4000000 in
theorem g_X11_withNeighbours_L18 (l : Launch) (G : xa_C) (c0 c1 c3 : Int) (h : xa_H) (K : (Int × Int) ⊕ (Int) → Option xa_O) (hb : ∀ (v2 : Int) (v4 : Int), xa_G l G 3 mX11_withNeighbours (some (Sum.inl ((v2, v4)))) K 18 [some (xR c0), some (xI c1), some (xI v2), some (xI c3), some (xI v4)] [] h) (hx : ∀ (v2 : Int), xa_G l G 3 mX11_withNeighbours (some (Sum.inr v2)) K 62 [some (xR c0), some (xI c1), some (xI v2), some (xI c3), none] [] h) : ∀ (v2 : Int) (v4 : Int), xa_G l G 3 mX11_withNeighbours (f_X11_withNeighbours_L18 c0 c1 c3 h v2 v4) K 18 [some (xR c0), some (xI c1), some (xI v2), some (xI c3), some (xI v4)] [] h := by
  intro v2 v4
  unfold f_X11_withNeighbours_L18
  refine xa_step (xa_iload d_X11_withNeighbours_18 rfl) ?_
  refine xa_step (xa_aload_n d_X11_withNeighbours_20 rfl) ?_
  refine xa_getf xR xc_11 (by decide) (fun _ => rfl) xw_589 rfl d_X11_withNeighbours_21 (fun x4 _ => ?_)
  refine xa_getf xI xc_0 (by decide) (fun _ => rfl) xw_391 rfl d_X11_withNeighbours_24 (fun x5 _ => ?_)
  refine xa_if (xa_icmpge d_X11_withNeighbours_27) (fun q6 => ?_) (fun q6 => ?_)
  · refine xa_step (xa_iload_n d_X11_withNeighbours_30 rfl) ?_
    refine xa_step (xa_iload_n d_X11_withNeighbours_31 rfl) ?_
    refine xa_step (xa_ishr d_X11_withNeighbours_32) ?_
    refine xa_step (xa_iconst d_X11_withNeighbours_33 xq_i_1) ?_
    refine xa_step (xa_iand d_X11_withNeighbours_34) ?_
    refine xa_step (xa_iconst d_X11_withNeighbours_35 xq_i_1) ?_
    refine xa_if (xa_icmpne d_X11_withNeighbours_36) (fun q7 => ?_) (fun q7 => ?_)
    · refine xa_step (xa_aload_n d_X11_withNeighbours_39 rfl) ?_
      refine xa_step (xa_iload_n d_X11_withNeighbours_40 rfl) ?_
      refine xa_step (xa_iload d_X11_withNeighbours_41 rfl) ?_
      refine xa_callVi (as := [xI c3, xI v4]) (st := []) (M' := mX11_haveMet) (d' := 2) rfl xw_1146 xw_1148 xw_53 xw_1149 xw_161 xh_X11_haveMet rfl ⟨Nat.le_of_ble_eq_true rfl, Nat.le_of_ble_eq_true rfl⟩ (Nat.le_of_ble_eq_true rfl) rfl d_X11_withNeighbours_43 (fun r hr => ct_X11_haveMet l G c0 c3 v4 h r hr) (fun r8 _ => ?_)
      refine xa_if (xa_ifeq d_X11_withNeighbours_46) (fun q9 => ?_) (fun q9 => ?_)
      · refine xa_step (xa_iinc (ls' := [some (xR c0), some (xI c1), some (xI v2), some (xI c3), some (xI (w32 (v4 + 1)))]) d_X11_withNeighbours_56 xq_i_1 rfl (by decide) rfl) ?_
        refine xa_step (xa_goto d_X11_withNeighbours_59) ?_
        exact xa_weak (ls' := [some (xR c0), some (xI c1), some (xI v2), some (xI c3), some (xI (w32 (v4 + 1)))]) ⟨rfl, rfl, rfl, rfl, rfl, trivial⟩ (hb v2 (w32 (v4 + 1)))
      · refine xa_step (xa_iload_n d_X11_withNeighbours_49 rfl) ?_
        refine xa_step (xa_iconst d_X11_withNeighbours_50 xq_i_1) ?_
        refine xa_step (xa_iload d_X11_withNeighbours_51 rfl) ?_
        refine xa_step (xa_ishl d_X11_withNeighbours_53) ?_
        refine xa_step (xa_ior d_X11_withNeighbours_54) ?_
        refine xa_step (xa_istore_n (ls' := [some (xR c0), some (xI c1), some (xI (xior v2 (xshl 1 v4))), some (xI c3), some (xI v4)]) d_X11_withNeighbours_55 (by decide) rfl) ?_
        refine xa_step (xa_iinc (ls' := [some (xR c0), some (xI c1), some (xI (xior v2 (xshl 1 v4))), some (xI c3), some (xI (w32 (v4 + 1)))]) d_X11_withNeighbours_56 xq_i_1 rfl (by decide) rfl) ?_
        refine xa_step (xa_goto d_X11_withNeighbours_59) ?_
        exact xa_weak (ls' := [some (xR c0), some (xI c1), some (xI (xior v2 (xshl 1 v4))), some (xI c3), some (xI (w32 (v4 + 1)))]) ⟨rfl, rfl, rfl, rfl, rfl, trivial⟩ (hb (xior v2 (xshl 1 v4)) (w32 (v4 + 1)))
    · refine xa_step (xa_iinc (ls' := [some (xR c0), some (xI c1), some (xI v2), some (xI c3), some (xI (w32 (v4 + 1)))]) d_X11_withNeighbours_56 xq_i_1 rfl (by decide) rfl) ?_
      refine xa_step (xa_goto d_X11_withNeighbours_59) ?_
      exact xa_weak (ls' := [some (xR c0), some (xI c1), some (xI v2), some (xI c3), some (xI (w32 (v4 + 1)))]) ⟨rfl, rfl, rfl, rfl, rfl, trivial⟩ (hb v2 (w32 (v4 + 1)))
  · exact xa_weak (ls' := [some (xR c0), some (xI c1), some (xI v2), some (xI c3), none]) ⟨rfl, rfl, rfl, rfl, trivial⟩ (hx v2)
theorem d_X11_withNeighbours_62 : decode mX11_withNeighbours.1 62 = .ok (.iinc 3 1, 3) ∧ 62 + 3 = 65 := ⟨by decide +kernel, rfl⟩
theorem d_X11_withNeighbours_65 : decode mX11_withNeighbours.1 65 = .ok (.goto (-61), 3) ∧ ((65 : Nat) : Int) + (-61) = ((4 : Nat) : Int) := ⟨by decide +kernel, rfl⟩
set_option maxRecDepth 100000 in
set_option maxHeartbeats 4000000 in
theorem g_X11_withNeighbours_L4 (l : Launch) (G : xa_C) (c0 c1 : Int) (h : xa_H) (K : (Int × Int) ⊕ (Int) → Option xa_O) (hb : ∀ (v2 : Int) (v3 : Int), xa_G l G 3 mX11_withNeighbours (some (Sum.inl ((v2, v3)))) K 4 [some (xR c0), some (xI c1), some (xI v2), some (xI v3), none] [] h) (hx : ∀ (v2 : Int), xa_G l G 3 mX11_withNeighbours (some (Sum.inr v2)) K 68 [none, none, some (xI v2), none, none] [] h) : ∀ (v2 : Int) (v3 : Int), xa_G l G 3 mX11_withNeighbours (f_X11_withNeighbours_L4 c0 c1 h v2 v3) K 4 [some (xR c0), some (xI c1), some (xI v2), some (xI v3), none] [] h := by
  intro v2 v3
  unfold f_X11_withNeighbours_L4
  refine xa_step (xa_iload_n d_X11_withNeighbours_4 rfl) ?_
  refine xa_step (xa_aload_n d_X11_withNeighbours_5 rfl) ?_
  refine xa_getf xR xc_11 (by decide) (fun _ => rfl) xw_589 rfl d_X11_withNeighbours_6 (fun x1 _ => ?_)
  refine xa_getf xI xc_0 (by decide) (fun _ => rfl) xw_391 rfl d_X11_withNeighbours_9 (fun x2 _ => ?_)
  refine xa_if (xa_icmpge d_X11_withNeighbours_12) (fun q3 => ?_) (fun q3 => ?_)
  · refine xa_step (xa_iconst d_X11_withNeighbours_15 xq_i_0) ?_
    refine xa_step (xa_istore (ls' := [some (xR c0), some (xI c1), some (xI v2), some (xI v3), some (xI 0)]) d_X11_withNeighbours_16 (by decide) rfl) ?_
    refine xa_weak (ls' := [some (xR c0), some (xI c1), some (xI v2), some (xI v3), some (xI 0)]) ⟨rfl, rfl, rfl, rfl, rfl, trivial⟩ ?_
    refine xa_loop (f := fun s => f_X11_withNeighbours_L18 c0 c1 v3 h s.1 s.2) (L := fun s => [some (xR c0), some (xI c1), some (xI s.1), some (xI v3), some (xI s.2)]) (P := fun s => h) (X := (fun x K => xa_G l G 3 mX11_withNeighbours (some (Sum.inr x)) K 62 [some (xR c0), some (xI c1), some (xI x), some (xI v3), none] [] h)) (fun K hb hX s => g_X11_withNeighbours_L18 l G c0 c1 v3 h K (fun w0 w1 => hb ((w0, w1))) (fun w0 => hX w0) s.1 s.2) ?_ xFU ((v2, 0))
    intro e10 K hK
    refine xa_eqE hK ?_
    show xa_G l G 3 mX11_withNeighbours _ _ 62 [some (xR c0), some (xI c1), some (xI e10), some (xI v3), none] [] h
    refine xa_step (xa_iinc (ls' := [some (xR c0), some (xI c1), some (xI e10), some (xI (w32 (v3 + 1))), none]) d_X11_withNeighbours_62 xq_i_1 rfl (by decide) rfl) ?_
    refine xa_step (xa_goto d_X11_withNeighbours_65) ?_
    exact xa_weak (ls' := [some (xR c0), some (xI c1), some (xI e10), some (xI (w32 (v3 + 1))), none]) ⟨rfl, rfl, rfl, rfl, trivial⟩ (hb e10 (w32 (v3 + 1)))
  · exact xa_weak (ls' := [none, none, some (xI v2), none, none]) ⟨rfl, trivial⟩ (hx v2)
theorem d_X11_withNeighbours_68 : decode mX11_withNeighbours.1 68 = .ok (.iload_n 2, 1) ∧ 68 + 1 = 69 := ⟨by decide +kernel, rfl⟩
theorem d_X11_withNeighbours_69 : decode mX11_withNeighbours.1 69 = .ok (.ireturn, 1) := by decide +kernel
set_option maxRecDepth 100000 in
set_option maxHeartbeats 4000000 in
theorem g_X11_withNeighbours (l : Launch) (G : xa_C) (v0 v1 : Int) (h : xa_H) : xa_G l G 3 mX11_withNeighbours (f_X11_withNeighbours v0 v1 h) (fun r => some (some (xI r), h) : Int → Option xa_O) 0 [some (xR v0), some (xI v1), none, none, none] [] h := by
  unfold f_X11_withNeighbours
  refine xa_step (xa_iload_n d_X11_withNeighbours_0 rfl) ?_
  refine xa_step (xa_istore_n (ls' := [some (xR v0), some (xI v1), some (xI v1), none, none]) d_X11_withNeighbours_1 (by decide) rfl) ?_
  refine xa_step (xa_iconst d_X11_withNeighbours_2 xq_i_0) ?_
  refine xa_step (xa_istore_n (ls' := [some (xR v0), some (xI v1), some (xI v1), some (xI 0), none]) d_X11_withNeighbours_3 (by decide) rfl) ?_
  refine xa_weak (ls' := [some (xR v0), some (xI v1), some (xI v1), some (xI 0), none]) ⟨rfl, rfl, rfl, rfl, trivial⟩ ?_
  refine xa_loop (f := fun s => f_X11_withNeighbours_L4 v0 v1 h s.1 s.2) (L := fun s => [some (xR v0), some (xI v1), some (xI s.1), some (xI s.2), none]) (P := fun s => h) (X := (fun x K => xa_G l G 3 mX11_withNeighbours (some (Sum.inr x)) K 68 [none, none, some (xI x), none, none] [] h)) (fun K hb hX s => g_X11_withNeighbours_L4 l G v0 v1 h K (fun w0 w1 => hb ((w0, w1))) (fun w0 => hX w0) s.1 s.2) ?_ xFU ((v1, 0))
  intro e11 K hK
  refine xa_eqE hK ?_
  show xa_G l G 3 mX11_withNeighbours _ _ 68 [none, none, some (xI e11), none, none] [] h
  refine xa_step (xa_iload_n d_X11_withNeighbours_68 rfl) ?_
  exact xa_iret d_X11_withNeighbours_69 rfl rfl
theorem ct_X11_withNeighbours (l : Launch) (G : xa_C) (v0 v1 : Int) (h : xa_H) (r : Int) (hr : f_X11_withNeighbours v0 v1 h = some r) : xa_CT l G 3 mX11_withNeighbours yX11_withNeighbours [xR v0, xI v1] h (some (xI r), h) :=
  xa_met (by decide +kernel) rfl (fun q => by first | rfl | cases q) (Nat.le_of_ble_eq_true rfl) rfl (g_X11_withNeighbours l G v0 v1 h) (by rw [hr]; rfl)
abbrev mX11_on : xa_M := (cX11_on, 6, (some (.int)), RX11, false)
theorem d_X11_on_0 : decode mX11_on.1 0 = .ok (.aload_n 0, 1) ∧ 0 + 1 = 1 := ⟨by decide +kernel, rfl⟩
theorem d_X11_on_1 : decode mX11_on.1 1 = .ok (.iload_n 1, 1) ∧ 1 + 1 = 2 := ⟨by decide +kernel, rfl⟩
theorem d_X11_on_2 : decode mX11_on.1 2 = .ok (.invokevirtual 188, 3) ∧ 2 + 3 = 5 := ⟨by decide +kernel, rfl⟩
theorem d_X11_on_5 : decode mX11_on.1 5 = .ok (.ifCond .eq 16, 3) ∧ 5 + 3 = 8 ∧ ((5 : Nat) : Int) + 16 = ((21 : Nat) : Int) := ⟨by decide +kernel, rfl, rfl⟩
theorem d_X11_on_21 : decode mX11_on.1 21 = .ok (.iconst (-1), 1) ∧ 21 + 1 = 22 := ⟨by decide +kernel, rfl⟩
theorem d_X11_on_22 : decode mX11_on.1 22 = .ok (.ireturn, 1) := by decide +kernel
theorem d_X11_on_8 : decode mX11_on.1 8 = .ok (.aload_n 0, 1) ∧ 8 + 1 = 9 := ⟨by decide +kernel, rfl⟩
theorem d_X11_on_9 : decode mX11_on.1 9 = .ok (.getfield 47, 3) ∧ 9 + 3 = 12 := ⟨by decide +kernel, rfl⟩
theorem d_X11_on_12 : decode mX11_on.1 12 = .ok (.getfield 211, 3) ∧ 12 + 3 = 15 := ⟨by decide +kernel, rfl⟩
theorem d_X11_on_15 : decode mX11_on.1 15 = .ok (.iload_n 1, 1) ∧ 15 + 1 = 16 := ⟨by decide +kernel, rfl⟩
theorem d_X11_on_16 : decode mX11_on.1 16 = .ok (.iaload, 1) ∧ 16 + 1 = 17 := ⟨by decide +kernel, rfl⟩
theorem d_X11_on_17 : decode mX11_on.1 17 = .ok (.iconst (-1), 1) ∧ 17 + 1 = 18 := ⟨by decide +kernel, rfl⟩
theorem d_X11_on_18 : decode mX11_on.1 18 = .ok (.if_icmp .ne 5, 3) ∧ 18 + 3 = 21 ∧ ((18 : Nat) : Int) + 5 = ((23 : Nat) : Int) := ⟨by decide +kernel, rfl, rfl⟩
theorem d_X11_on_23 : decode mX11_on.1 23 = .ok (.aload_n 0, 1) ∧ 23 + 1 = 24 := ⟨by decide +kernel, rfl⟩
theorem d_X11_on_24 : decode mX11_on.1 24 = .ok (.getfield 54, 3) ∧ 24 + 3 = 27 := ⟨by decide +kernel, rfl⟩
theorem d_X11_on_27 : decode mX11_on.1 27 = .ok (.iload_n 1, 1) ∧ 27 + 1 = 28 := ⟨by decide +kernel, rfl⟩
theorem d_X11_on_28 : decode mX11_on.1 28 = .ok (.aload_n 0, 1) ∧ 28 + 1 = 29 := ⟨by decide +kernel, rfl⟩
theorem d_X11_on_29 : decode mX11_on.1 29 = .ok (.getfield 47, 3) ∧ 29 + 3 = 32 := ⟨by decide +kernel, rfl⟩
theorem d_X11_on_32 : decode mX11_on.1 32 = .ok (.getfield 146, 3) ∧ 32 + 3 = 35 := ⟨by decide +kernel, rfl⟩
theorem d_X11_on_35 : decode mX11_on.1 35 = .ok (.invokevirtual 208, 3) ∧ 35 + 3 = 38 := ⟨by decide +kernel, rfl⟩
theorem d_X11_on_38 : decode mX11_on.1 38 = .ok (.istore_n 2, 1) ∧ 38 + 1 = 39 := ⟨by decide +kernel, rfl⟩
theorem d_X11_on_39 : decode mX11_on.1 39 = .ok (.aload_n 0, 1) ∧ 39 + 1 = 40 := ⟨by decide +kernel, rfl⟩
theorem d_X11_on_40 : decode mX11_on.1 40 = .ok (.getfield 54, 3) ∧ 40 + 3 = 43 := ⟨by decide +kernel, rfl⟩
theorem d_X11_on_43 : decode mX11_on.1 43 = .ok (.aload_n 0, 1) ∧ 43 + 1 = 44 := ⟨by decide +kernel, rfl⟩
theorem d_X11_on_44 : decode mX11_on.1 44 = .ok (.getfield 47, 3) ∧ 44 + 3 = 47 := ⟨by decide +kernel, rfl⟩
theorem d_X11_on_47 : decode mX11_on.1 47 = .ok (.getfield 211, 3) ∧ 47 + 3 = 50 := ⟨by decide +kernel, rfl⟩
theorem d_X11_on_50 : decode mX11_on.1 50 = .ok (.iload_n 1, 1) ∧ 50 + 1 = 51 := ⟨by decide +kernel, rfl⟩
theorem d_X11_on_51 : decode mX11_on.1 51 = .ok (.iaload, 1) ∧ 51 + 1 = 52 := ⟨by decide +kernel, rfl⟩
theorem d_X11_on_52 : decode mX11_on.1 52 = .ok (.aload_n 0, 1) ∧ 52 + 1 = 53 := ⟨by decide +kernel, rfl⟩
theorem d_X11_on_53 : decode mX11_on.1 53 = .ok (.getfield 47, 3) ∧ 53 + 3 = 56 := ⟨by decide +kernel, rfl⟩
theorem d_X11_on_56 : decode mX11_on.1 56 = .ok (.getfield 146, 3) ∧ 56 + 3 = 59 := ⟨by decide +kernel, rfl⟩
theorem d_X11_on_59 : decode mX11_on.1 59 = .ok (.invokevirtual 208, 3) ∧ 59 + 3 = 62 := ⟨by decide +kernel, rfl⟩
theorem d_X11_on_62 : decode mX11_on.1 62 = .ok (.istore_n 3, 1) ∧ 62 + 1 = 63 := ⟨by decide +kernel, rfl⟩
theorem d_X11_on_63 : decode mX11_on.1 63 = .ok (.iload_n 2, 1) ∧ 63 + 1 = 64 := ⟨by decide +kernel, rfl⟩
theorem d_X11_on_64 : decode mX11_on.1 64 = .ok (.iconst (-1), 1) ∧ 64 + 1 = 65 := ⟨by decide +kernel, rfl⟩
theorem d_X11_on_65 : decode mX11_on.1 65 = .ok (.if_icmp .eq 8, 3) ∧ 65 + 3 = 68 ∧ ((65 : Nat) : Int) + 8 = ((73 : Nat) : Int) := ⟨by decide +kernel, rfl, rfl⟩
theorem d_X11_on_73 : decode mX11_on.1 73 = .ok (.iconst (-1), 1) ∧ 73 + 1 = 74 := ⟨by decide +kernel, rfl⟩
theorem d_X11_on_74 : decode mX11_on.1 74 = .ok (.ireturn, 1) := by decide +kernel
theorem d_X11_on_68 : decode mX11_on.1 68 = .ok (.iload_n 3, 1) ∧ 68 + 1 = 69 := ⟨by decide +kernel, rfl⟩
theorem d_X11_on_69 : decode mX11_on.1 69 = .ok (.iconst (-1), 1) ∧ 69 + 1 = 70 := ⟨by decide +kernel, rfl⟩
theorem d_X11_on_70 : decode mX11_on.1 70 = .ok (.if_icmp .ne 5, 3) ∧ 70 + 3 = 73 ∧ ((70 : Nat) : Int) + 5 = ((75 : Nat) : Int) := ⟨by decide +kernel, rfl, rfl⟩
theorem d_X11_on_75 : decode mX11_on.1 75 = .ok (.iconst 1, 1) ∧ 75 + 1 = 76 := ⟨by decide +kernel, rfl⟩
theorem d_X11_on_76 : decode mX11_on.1 76 = .ok (.iload_n 2, 1) ∧ 76 + 1 = 77 := ⟨by decide +kernel, rfl⟩
theorem d_X11_on_77 : decode mX11_on.1 77 = .ok (.ishl, 1) ∧ 77 + 1 = 78 := ⟨by decide +kernel, rfl⟩
theorem d_X11_on_78 : decode mX11_on.1 78 = .ok (.istore 4, 2) ∧ 78 + 2 = 80 := ⟨by decide +kernel, rfl⟩
theorem d_X11_on_80 : decode mX11_on.1 80 = .ok (.iconst 1, 1) ∧ 80 + 1 = 81 := ⟨by decide +kernel, rfl⟩
theorem d_X11_on_81 : decode mX11_on.1 81 = .ok (.istore 5, 2) ∧ 81 + 2 = 83 := ⟨by decide +kernel, rfl⟩
theorem d_X11_on_83 : decode mX11_on.1 83 = .ok (.iload 5, 2) ∧ 83 + 2 = 85 := ⟨by decide +kernel, rfl⟩
theorem d_X11_on_85 : decode mX11_on.1 85 = .ok (.aload_n 0, 1) ∧ 85 + 1 = 86 := ⟨by decide +kernel, rfl⟩
theorem d_X11_on_86 : decode mX11_on.1 86 = .ok (.getfield 47, 3) ∧ 86 + 3 = 89 := ⟨by decide +kernel, rfl⟩
theorem d_X11_on_89 : decode mX11_on.1 89 = .ok (.getfield 146, 3) ∧ 89 + 3 = 92 := ⟨by decide +kernel, rfl⟩
theorem d_X11_on_92 : decode mX11_on.1 92 = .ok (.if_icmp .ge 30, 3) ∧ 92 + 3 = 95 ∧ ((92 : Nat) : Int) + 30 = ((122 : Nat) : Int) := ⟨by decide +kernel, rfl, rfl⟩
theorem d_X11_on_95 : decode mX11_on.1 95 = .ok (.aload_n 0, 1) ∧ 95 + 1 = 96 := ⟨by decide +kernel, rfl⟩
theorem d_X11_on_96 : decode mX11_on.1 96 = .ok (.iload 4, 2) ∧ 96 + 2 = 98 := ⟨by decide +kernel, rfl⟩
theorem d_X11_on_98 : decode mX11_on.1 98 = .ok (.invokevirtual 297, 3) ∧ 98 + 3 = 101 := ⟨by decide +kernel, rfl⟩
theorem d_X11_on_101 : decode mX11_on.1 101 = .ok (.istore 4, 2) ∧ 101 + 2 = 103 := ⟨by decide +kernel, rfl⟩
theorem d_X11_on_103 : decode mX11_on.1 103 = .ok (.iload 4, 2) ∧ 103 + 2 = 105 := ⟨by decide +kernel, rfl⟩
theorem d_X11_on_105 : decode mX11_on.1 105 = .ok (.iload_n 3, 1) ∧ 105 + 1 = 106 := ⟨by decide +kernel, rfl⟩
theorem d_X11_on_106 : decode mX11_on.1 106 = .ok (.ishr, 1) ∧ 106 + 1 = 107 := ⟨by decide +kernel, rfl⟩
theorem d_X11_on_107 : decode mX11_on.1 107 = .ok (.iconst 1, 1) ∧ 107 + 1 = 108 := ⟨by decide +kernel, rfl⟩
theorem d_X11_on_108 : decode mX11_on.1 108 = .ok (.iand, 1) ∧ 108 + 1 = 109 := ⟨by decide +kernel, rfl⟩
theorem d_X11_on_109 : decode mX11_on.1 109 = .ok (.iconst 1, 1) ∧ 109 + 1 = 110 := ⟨by decide +kernel, rfl⟩
theorem d_X11_on_110 : decode mX11_on.1 110 = .ok (.if_icmp .ne 6, 3) ∧ 110 + 3 = 113 ∧ ((110 : Nat) : Int) + 6 = ((116 : Nat) : Int) := ⟨by decide +kernel, rfl, rfl⟩
theorem d_X11_on_113 : decode mX11_on.1 113 = .ok (.iload 5, 2) ∧ 113 + 2 = 115 := ⟨by decide +kernel, rfl⟩
theorem d_X11_on_115 : decode mX11_on.1 115 = .ok (.ireturn, 1) := by decide +kernel
theorem d_X11_on_116 : decode mX11_on.1 116 = .ok (.iinc 5 1, 3) ∧ 116 + 3 = 119 := ⟨by decide +kernel, rfl⟩
theorem d_X11_on_119 : decode mX11_on.1 119 = .ok (.goto (-36), 3) ∧ ((119 : Nat) : Int) + (-36) = ((83 : Nat) : Int) := ⟨by decide +kernel, rfl⟩
set_option maxRecDepth 100000 in
set_option maxHeartbeats 4000000 in
theorem g_X11_on_L83 (l : Launch) (G : xa_C) (c0 c3 : Int) (h : xa_H) (K : (Int × Int) ⊕ ((Int) ⊕ (Unit)) → Option xa_O) (hb : ∀ (v4 : Int) (v5 : Int), xa_G l G 4 mX11_on (some (Sum.inl ((v4, v5)))) K 83 [some (xR c0), none, none, some (xI c3), some (xI v4), some (xI v5)] [] h) (hr : ∀ r : Int, K (Sum.inr (Sum.inl r)) = some (some (xI r), h)) (hx : xa_G l G 4 mX11_on (some (Sum.inr (Sum.inr (())))) K 122 [none, none, none, none, none, none] [] h) : ∀ (v4 : Int) (v5 : Int), xa_G l G 4 mX11_on (f_X11_on_L83 c0 c3 h v4 v5) K 83 [some (xR c0), none, none, some (xI c3), some (xI v4), some (xI v5)] [] h := by
  intro v4 v5
  unfold f_X11_on_L83
  refine xa_step (xa_iload d_X11_on_83 rfl) ?_
  refine xa_step (xa_aload_n d_X11_on_85 rfl) ?_
  refine xa_getf xR xc_11 (by decide) (fun _ => rfl) xw_589 rfl d_X11_on_86 (fun x20 _ => ?_)
  refine xa_getf xI xc_0 (by decide) (fun _ => rfl) xw_391 rfl d_X11_on_89 (fun x21 _ => ?_)
  refine xa_if (xa_icmpge d_X11_on_92) (fun q22 => ?_) (fun q22 => ?_)
  · refine xa_step (xa_aload_n d_X11_on_95 rfl) ?_
    refine xa_step (xa_iload d_X11_on_96 rfl) ?_
    refine xa_callVi (as := [xI v4]) (st := []) (M' := mX11_withNeighbours) (d' := 3) rfl xw_1142 xw_1144 xw_52 xw_1145 xw_161 xh_X11_withNeighbours rfl ⟨Nat.le_of_ble_eq_true rfl, Nat.le_of_ble_eq_true rfl⟩ (Nat.le_of_ble_eq_true rfl) rfl d_X11_on_98 (fun r hr => ct_X11_withNeighbours l G c0 v4 h r hr) (fun r23 _ => ?_)
    refine xa_step (xa_istore (ls' := [some (xR c0), none, none, some (xI c3), some (xI r23), some (xI v5)]) d_X11_on_101 (by decide) rfl) ?_
    refine xa_step (xa_iload d_X11_on_103 rfl) ?_
    refine xa_step (xa_iload_n d_X11_on_105 rfl) ?_
    refine xa_step (xa_ishr d_X11_on_106) ?_
    refine xa_step (xa_iconst d_X11_on_107 xq_i_1) ?_
    refine xa_step (xa_iand d_X11_on_108) ?_
    refine xa_step (xa_iconst d_X11_on_109 xq_i_1) ?_
    refine xa_if (xa_icmpne d_X11_on_110) (fun q24 => ?_) (fun q24 => ?_)
    · refine xa_step (xa_iload d_X11_on_113 rfl) ?_
      exact xa_iret d_X11_on_115 rfl (hr _)
    · refine xa_step (xa_iinc (ls' := [some (xR c0), none, none, some (xI c3), some (xI r23), some (xI (w32 (v5 + 1)))]) d_X11_on_116 xq_i_1 rfl (by decide) rfl) ?_
      refine xa_step (xa_goto d_X11_on_119) ?_
      exact xa_weak (ls' := [some (xR c0), none, none, some (xI c3), some (xI r23), some (xI (w32 (v5 + 1)))]) ⟨rfl, rfl, rfl, rfl, trivial⟩ (hb r23 (w32 (v5 + 1)))
  · exact xa_weak (ls' := [none, none, none, none, none, none]) trivial (hx )
theorem d_X11_on_122 : decode mX11_on.1 122 = .ok (.iconst (-1), 1) ∧ 122 + 1 = 123 := ⟨by decide +kernel, rfl⟩
theorem d_X11_on_123 : decode mX11_on.1 123 = .ok (.ireturn, 1) := by decide +kernel
set_option maxRecDepth 100000 in
set_option maxHeartbeats 4000000 in
theorem g_X11_on (l : Launch) (G : xa_C) (v0 v1 : Int) (h : xa_H) : xa_G l G 4 mX11_on (f_X11_on v0 v1 h) (fun r => some (some (xI r), h) : Int → Option xa_O) 0 [some (xR v0), some (xI v1), none, none, none, none] [] h := by
  unfold f_X11_on
  refine xa_step (xa_aload_n d_X11_on_0 rfl) ?_
  refine xa_step (xa_iload_n d_X11_on_1 rfl) ?_
  refine xa_callVi (as := [xI v1]) (st := []) (M' := mX11_isHeld) (d' := 2) rfl xw_914 xw_916 xw_32 xw_917 xw_161 xh_X11_isHeld rfl ⟨Nat.le_of_ble_eq_true rfl, Nat.le_of_ble_eq_true rfl⟩ (Nat.le_of_ble_eq_true rfl) rfl d_X11_on_2 (fun r hr => ct_X11_isHeld l G v0 v1 h r hr) (fun r1 _ => ?_)
  refine xa_if (xa_ifeq d_X11_on_5) (fun q2 => ?_) (fun q2 => ?_)
  · refine xa_step (xa_iconst d_X11_on_21 xq_i_m1) ?_
    exact xa_iret d_X11_on_22 rfl rfl
  · refine xa_step (xa_aload_n d_X11_on_8 rfl) ?_
    refine xa_getf xR xc_11 (by decide) (fun _ => rfl) xw_589 rfl d_X11_on_9 (fun x3 _ => ?_)
    refine xa_getf xR xc_0 (by decide) (fun _ => rfl) xw_406 rfl d_X11_on_12 (fun x4 _ => ?_)
    refine xa_step (xa_iload_n d_X11_on_15 rfl) ?_
    refine xa_iaload d_X11_on_16 (fun x5 _ => ?_)
    refine xa_step (xa_iconst d_X11_on_17 xq_i_m1) ?_
    refine xa_if (xa_icmpne d_X11_on_18) (fun q6 => ?_) (fun q6 => ?_)
    · refine xa_step (xa_iconst d_X11_on_21 xq_i_m1) ?_
      exact xa_iret d_X11_on_22 rfl rfl
    · refine xa_step (xa_aload_n d_X11_on_23 rfl) ?_
      refine xa_getf xR xc_11 (by decide) (fun _ => rfl) xw_590 rfl d_X11_on_24 (fun x7 _ => ?_)
      refine xa_step (xa_iload_n d_X11_on_27 rfl) ?_
      refine xa_step (xa_aload_n d_X11_on_28 rfl) ?_
      refine xa_getf xR xc_11 (by decide) (fun _ => rfl) xw_589 rfl d_X11_on_29 (fun x8 _ => ?_)
      refine xa_getf xI xc_0 (by decide) (fun _ => rfl) xw_391 rfl d_X11_on_32 (fun x9 _ => ?_)
      refine xa_callVi (as := [xI v1, xI x9]) (st := []) (M' := mX9_holderOf) (d' := 2) rfl xw_929 xw_743 xw_744 xw_745 xw_170 xh_X9_holderOf rfl ⟨Nat.le_of_ble_eq_true rfl, Nat.le_of_ble_eq_true rfl⟩ (Nat.le_of_ble_eq_true rfl) rfl d_X11_on_35 (fun r hr => ct_X9_holderOf l G x7 v1 x9 h r hr) (fun r10 _ => ?_)
      refine xa_step (xa_istore_n (ls' := [some (xR v0), some (xI v1), some (xI r10), none, none, none]) d_X11_on_38 (by decide) rfl) ?_
      refine xa_step (xa_aload_n d_X11_on_39 rfl) ?_
      refine xa_getf xR xc_11 (by decide) (fun _ => rfl) xw_590 rfl d_X11_on_40 (fun x11 _ => ?_)
      refine xa_step (xa_aload_n d_X11_on_43 rfl) ?_
      refine xa_getf xR xc_11 (by decide) (fun _ => rfl) xw_589 rfl d_X11_on_44 (fun x12 _ => ?_)
      refine xa_getf xR xc_0 (by decide) (fun _ => rfl) xw_406 rfl d_X11_on_47 (fun x13 _ => ?_)
      refine xa_step (xa_iload_n d_X11_on_50 rfl) ?_
      refine xa_iaload d_X11_on_51 (fun x14 _ => ?_)
      refine xa_step (xa_aload_n d_X11_on_52 rfl) ?_
      refine xa_getf xR xc_11 (by decide) (fun _ => rfl) xw_589 rfl d_X11_on_53 (fun x15 _ => ?_)
      refine xa_getf xI xc_0 (by decide) (fun _ => rfl) xw_391 rfl d_X11_on_56 (fun x16 _ => ?_)
      refine xa_callVi (as := [xI x14, xI x16]) (st := []) (M' := mX9_holderOf) (d' := 2) rfl xw_929 xw_743 xw_744 xw_745 xw_170 xh_X9_holderOf rfl ⟨Nat.le_of_ble_eq_true rfl, Nat.le_of_ble_eq_true rfl⟩ (Nat.le_of_ble_eq_true rfl) rfl d_X11_on_59 (fun r hr => ct_X9_holderOf l G x11 x14 x16 h r hr) (fun r17 _ => ?_)
      refine xa_step (xa_istore_n (ls' := [some (xR v0), some (xI v1), some (xI r10), some (xI r17), none, none]) d_X11_on_62 (by decide) rfl) ?_
      refine xa_step (xa_iload_n d_X11_on_63 rfl) ?_
      refine xa_step (xa_iconst d_X11_on_64 xq_i_m1) ?_
      refine xa_if (xa_icmpeq d_X11_on_65) (fun q18 => ?_) (fun q18 => ?_)
      · refine xa_step (xa_iconst d_X11_on_73 xq_i_m1) ?_
        exact xa_iret d_X11_on_74 rfl rfl
      · refine xa_step (xa_iload_n d_X11_on_68 rfl) ?_
        refine xa_step (xa_iconst d_X11_on_69 xq_i_m1) ?_
        refine xa_if (xa_icmpne d_X11_on_70) (fun q19 => ?_) (fun q19 => ?_)
        · refine xa_step (xa_iconst d_X11_on_73 xq_i_m1) ?_
          exact xa_iret d_X11_on_74 rfl rfl
        · refine xa_step (xa_iconst d_X11_on_75 xq_i_1) ?_
          refine xa_step (xa_iload_n d_X11_on_76 rfl) ?_
          refine xa_step (xa_ishl d_X11_on_77) ?_
          refine xa_step (xa_istore (ls' := [some (xR v0), some (xI v1), some (xI r10), some (xI r17), some (xI (xshl 1 r10)), none]) d_X11_on_78 (by decide) rfl) ?_
          refine xa_step (xa_iconst d_X11_on_80 xq_i_1) ?_
          refine xa_step (xa_istore (ls' := [some (xR v0), some (xI v1), some (xI r10), some (xI r17), some (xI (xshl 1 r10)), some (xI 1)]) d_X11_on_81 (by decide) rfl) ?_
          refine xa_weak (ls' := [some (xR v0), none, none, some (xI r17), some (xI (xshl 1 r10)), some (xI 1)]) ⟨rfl, rfl, rfl, rfl, trivial⟩ ?_
          refine xa_loop (f := fun s => f_X11_on_L83 v0 r17 h s.1 s.2) (L := fun s => [some (xR v0), none, none, some (xI r17), some (xI s.1), some (xI s.2)]) (P := fun s => h) (X := (fun e K => match e with | Sum.inl r => K (Sum.inr (Sum.inl r)) = some (some (xI r), h) | Sum.inr x => xa_G l G 4 mX11_on (some (Sum.inr (Sum.inr x))) K 122 [none, none, none, none, none, none] [] h)) (fun K hb hX s => g_X11_on_L83 l G v0 r17 h K (fun w0 w1 => hb ((w0, w1))) (fun r => hX (Sum.inl r)) (hX (Sum.inr ())) s.1 s.2) ?_ xFU ((xshl 1 r10, 1))
          rintro (r | y26) K hK
          · exact hK.trans rfl
          · refine xa_eqE hK ?_
            show xa_G l G 4 mX11_on _ _ 122 [none, none, none, none, none, none] [] h
            refine xa_step (xa_iconst d_X11_on_122 xq_i_m1) ?_
            exact xa_iret d_X11_on_123 rfl rfl
theorem ct_X11_on (l : Launch) (G : xa_C) (v0 v1 : Int) (h : xa_H) (r : Int) (hr : f_X11_on v0 v1 h = some r) : xa_CT l G 4 mX11_on yX11_on [xR v0, xI v1] h (some (xI r), h) :=
  xa_met (by decide +kernel) rfl (fun q => by first | rfl | cases q) (Nat.le_of_ble_eq_true rfl) rfl (g_X11_on l G v0 v1 h) (by rw [hr]; rfl)
abbrev mX0_addFeud : xa_M := (cX0_addFeud, 3, none, RX0, false)
theorem d_X0_addFeud_0 : decode mX0_addFeud.1 0 = .ok (.aload_n 0, 1) ∧ 0 + 1 = 1 := ⟨by decide +kernel, rfl⟩
theorem d_X0_addFeud_1 : decode mX0_addFeud.1 1 = .ok (.getfield 43, 3) ∧ 1 + 3 = 4 := ⟨by decide +kernel, rfl⟩
theorem d_X0_addFeud_4 : decode mX0_addFeud.1 4 = .ok (.iload_n 1, 1) ∧ 4 + 1 = 5 := ⟨by decide +kernel, rfl⟩
theorem d_X0_addFeud_5 : decode mX0_addFeud.1 5 = .ok (.dup2, 1) ∧ 5 + 1 = 6 := ⟨by decide +kernel, rfl⟩
theorem d_X0_addFeud_6 : decode mX0_addFeud.1 6 = .ok (.iaload, 1) ∧ 6 + 1 = 7 := ⟨by decide +kernel, rfl⟩
theorem d_X0_addFeud_7 : decode mX0_addFeud.1 7 = .ok (.iconst 1, 1) ∧ 7 + 1 = 8 := ⟨by decide +kernel, rfl⟩
theorem d_X0_addFeud_8 : decode mX0_addFeud.1 8 = .ok (.iload_n 2, 1) ∧ 8 + 1 = 9 := ⟨by decide +kernel, rfl⟩
theorem d_X0_addFeud_9 : decode mX0_addFeud.1 9 = .ok (.ishl, 1) ∧ 9 + 1 = 10 := ⟨by decide +kernel, rfl⟩
theorem d_X0_addFeud_10 : decode mX0_addFeud.1 10 = .ok (.ior, 1) ∧ 10 + 1 = 11 := ⟨by decide +kernel, rfl⟩
theorem d_X0_addFeud_11 : decode mX0_addFeud.1 11 = .ok (.iastore, 1) ∧ 11 + 1 = 12 := ⟨by decide +kernel, rfl⟩
theorem d_X0_addFeud_12 : decode mX0_addFeud.1 12 = .ok (.aload_n 0, 1) ∧ 12 + 1 = 13 := ⟨by decide +kernel, rfl⟩
theorem d_X0_addFeud_13 : decode mX0_addFeud.1 13 = .ok (.getfield 43, 3) ∧ 13 + 3 = 16 := ⟨by decide +kernel, rfl⟩
theorem d_X0_addFeud_16 : decode mX0_addFeud.1 16 = .ok (.iload_n 2, 1) ∧ 16 + 1 = 17 := ⟨by decide +kernel, rfl⟩
theorem d_X0_addFeud_17 : decode mX0_addFeud.1 17 = .ok (.dup2, 1) ∧ 17 + 1 = 18 := ⟨by decide +kernel, rfl⟩
theorem d_X0_addFeud_18 : decode mX0_addFeud.1 18 = .ok (.iaload, 1) ∧ 18 + 1 = 19 := ⟨by decide +kernel, rfl⟩
theorem d_X0_addFeud_19 : decode mX0_addFeud.1 19 = .ok (.iconst 1, 1) ∧ 19 + 1 = 20 := ⟨by decide +kernel, rfl⟩
theorem d_X0_addFeud_20 : decode mX0_addFeud.1 20 = .ok (.iload_n 1, 1) ∧ 20 + 1 = 21 := ⟨by decide +kernel, rfl⟩
theorem d_X0_addFeud_21 : decode mX0_addFeud.1 21 = .ok (.ishl, 1) ∧ 21 + 1 = 22 := ⟨by decide +kernel, rfl⟩
theorem d_X0_addFeud_22 : decode mX0_addFeud.1 22 = .ok (.ior, 1) ∧ 22 + 1 = 23 := ⟨by decide +kernel, rfl⟩
theorem d_X0_addFeud_23 : decode mX0_addFeud.1 23 = .ok (.iastore, 1) ∧ 23 + 1 = 24 := ⟨by decide +kernel, rfl⟩
theorem d_X0_addFeud_24 : decode mX0_addFeud.1 24 = .ok (.aload_n 0, 1) ∧ 24 + 1 = 25 := ⟨by decide +kernel, rfl⟩
theorem d_X0_addFeud_25 : decode mX0_addFeud.1 25 = .ok (.dup, 1) ∧ 25 + 1 = 26 := ⟨by decide +kernel, rfl⟩
theorem d_X0_addFeud_26 : decode mX0_addFeud.1 26 = .ok (.getfield 21, 3) ∧ 26 + 3 = 29 := ⟨by decide +kernel, rfl⟩
theorem d_X0_addFeud_29 : decode mX0_addFeud.1 29 = .ok (.iconst 1, 1) ∧ 29 + 1 = 30 := ⟨by decide +kernel, rfl⟩
theorem d_X0_addFeud_30 : decode mX0_addFeud.1 30 = .ok (.iadd, 1) ∧ 30 + 1 = 31 := ⟨by decide +kernel, rfl⟩
theorem d_X0_addFeud_31 : decode mX0_addFeud.1 31 = .ok (.putfield 21, 3) ∧ 31 + 3 = 34 := ⟨by decide +kernel, rfl⟩
theorem d_X0_addFeud_34 : decode mX0_addFeud.1 34 = .ok (.return_, 1) := by decide +kernel
set_option maxRecDepth 100000 in
set_option maxHeartbeats 4000000 in
theorem g_X0_addFeud (l : Launch) (G : xa_C) (v0 v1 v2 : Int) (h : xa_H) : xa_G l G 2 mX0_addFeud (f_X0_addFeud v0 v1 v2 h) (fun r => some (none, r) : xa_H → Option xa_O) 0 [some (xR v0), some (xI v1), some (xI v2)] [] h := by
  unfold f_X0_addFeud
  refine xa_step (xa_aload_n d_X0_addFeud_0 rfl) ?_
  refine xa_getf xR xc_0 (by decide) (fun _ => rfl) xw_410 rfl d_X0_addFeud_1 (fun x1 _ => ?_)
  refine xa_step (xa_iload_n d_X0_addFeud_4 rfl) ?_
  refine xa_step (xa_dup2 d_X0_addFeud_5 (xa_tI _) (xa_tR _)) ?_
  refine xa_iaload d_X0_addFeud_6 (fun x2 _ => ?_)
  refine xa_step (xa_iconst d_X0_addFeud_7 xq_i_1) ?_
  refine xa_step (xa_iload_n d_X0_addFeud_8 rfl) ?_
  refine xa_step (xa_ishl d_X0_addFeud_9) ?_
  refine xa_step (xa_ior d_X0_addFeud_10) ?_
  refine xa_iastore2 d_X0_addFeud_11 (fun h3 _ => ?_)
  refine xa_step (xa_aload_n d_X0_addFeud_12 rfl) ?_
  refine xa_getf xR xc_0 (by decide) (fun _ => rfl) xw_410 rfl d_X0_addFeud_13 (fun x4 _ => ?_)
  refine xa_step (xa_iload_n d_X0_addFeud_16 rfl) ?_
  refine xa_step (xa_dup2 d_X0_addFeud_17 (xa_tI _) (xa_tR _)) ?_
  refine xa_iaload d_X0_addFeud_18 (fun x5 _ => ?_)
  refine xa_step (xa_iconst d_X0_addFeud_19 xq_i_1) ?_
  refine xa_step (xa_iload_n d_X0_addFeud_20 rfl) ?_
  refine xa_step (xa_ishl d_X0_addFeud_21) ?_
  refine xa_step (xa_ior d_X0_addFeud_22) ?_
  refine xa_iastore2 d_X0_addFeud_23 (fun h6 _ => ?_)
  refine xa_step (xa_aload_n d_X0_addFeud_24 rfl) ?_
  refine xa_step (xa_dup d_X0_addFeud_25 (xa_tR _)) ?_
  refine xa_getf xI xc_0 (by decide) (fun _ => rfl) xw_392 rfl d_X0_addFeud_26 (fun x7 _ => ?_)
  refine xa_step (xa_iconst d_X0_addFeud_29 xq_i_1) ?_
  refine xa_step (xa_iadd d_X0_addFeud_30) ?_
  refine xa_putf2 (tg := xI) xc_0 (by decide) (fun _ => rfl) rfl (fun c hc => xa_fitI c hc) xw_392 rfl d_X0_addFeud_31 (fun h8 _ => ?_)
  exact xa_vret d_X0_addFeud_34 rfl rfl
theorem ct_X0_addFeud (l : Launch) (G : xa_C) (v0 v1 v2 : Int) (h : xa_H) (r : xa_H) (hr : f_X0_addFeud v0 v1 v2 h = some r) : xa_CT l G 2 mX0_addFeud yX0_addFeud [xR v0, xI v1, xI v2] h (none, r) :=
  xa_met (by decide +kernel) rfl (fun q => by first | rfl | cases q) (Nat.le_of_ble_eq_true rfl) rfl (g_X0_addFeud l G v0 v1 v2 h) (by rw [hr]; rfl)
abbrev mX1_badName : xa_M := (cX1_badName, 1, (some (.boolean)), RX1, false)
theorem d_X1_badName_0 : decode mX1_badName.1 0 = .ok (.aload_n 0, 1) ∧ 0 + 1 = 1 := ⟨by decide +kernel, rfl⟩
theorem d_X1_badName_1 : decode mX1_badName.1 1 = .ok (.getfield 15, 3) ∧ 1 + 3 = 4 := ⟨by decide +kernel, rfl⟩
theorem d_X1_badName_4 : decode mX1_badName.1 4 = .ok (.iconst 3, 1) ∧ 4 + 1 = 5 := ⟨by decide +kernel, rfl⟩
theorem d_X1_badName_5 : decode mX1_badName.1 5 = .ok (.aload_n 0, 1) ∧ 5 + 1 = 6 := ⟨by decide +kernel, rfl⟩
theorem d_X1_badName_6 : decode mX1_badName.1 6 = .ok (.getfield 15, 3) ∧ 6 + 3 = 9 := ⟨by decide +kernel, rfl⟩
theorem d_X1_badName_9 : decode mX1_badName.1 9 = .ok (.getfield 163, 3) ∧ 9 + 3 = 12 := ⟨by decide +kernel, rfl⟩
theorem d_X1_badName_12 : decode mX1_badName.1 12 = .ok (.invokevirtual 102, 3) ∧ 12 + 3 = 15 := ⟨by decide +kernel, rfl⟩
theorem d_X1_badName_15 : decode mX1_badName.1 15 = .ok (.ireturn, 1) := by decide +kernel
set_option maxRecDepth 100000 in
set_option maxHeartbeats 4000000 in
theorem g_X1_badName (l : Launch) (G : xa_C) (v0 : Int) (h : xa_H) : xa_G l G 3 mX1_badName (f_X1_badName v0 h) (fun r => some (some (xI r.1), r.2) : (Int × xa_H) → Option xa_O) 0 [some (xR v0)] [] h := by
  unfold f_X1_badName
  refine xa_step (xa_aload_n d_X1_badName_0 rfl) ?_
  refine xa_getf xR xc_1 (by decide) (fun _ => rfl) xw_317 rfl d_X1_badName_1 (fun x1 _ => ?_)
  refine xa_step (xa_iconst d_X1_badName_4 xq_i_3) ?_
  refine xa_step (xa_aload_n d_X1_badName_5 rfl) ?_
  refine xa_getf xR xc_1 (by decide) (fun _ => rfl) xw_317 rfl d_X1_badName_6 (fun x2 _ => ?_)
  refine xa_getf xI xc_6 (by decide) (fun _ => rfl) xw_262 rfl d_X1_badName_9 (fun x3 _ => ?_)
  refine xa_callVI (as := [xI 3, xI x3]) (st := []) (M' := mX6_refuse) (d' := 2) rfl xw_684 xw_685 xw_686 xw_687 xw_162 xh_X6_refuse rfl ⟨Nat.le_of_ble_eq_true rfl, Nat.le_of_ble_eq_true rfl⟩ (Nat.le_of_ble_eq_true rfl) rfl d_X1_badName_12 (fun r hr => ct_X6_refuse l G x1 3 x3 h r hr) (fun r4 _ => ?_)
  refine xa_bo (fun q5 => ?_)
  exact xa_zret d_X1_badName_15 rfl q5 rfl
theorem ct_X1_badName (l : Launch) (G : xa_C) (v0 : Int) (h : xa_H) (r : Int × xa_H) (hr : f_X1_badName v0 h = some r) : xa_CT l G 3 mX1_badName yX1_badName [xR v0] h (some (xI r.1), r.2) :=
  xa_met (by decide +kernel) rfl (fun q => by first | rfl | cases q) (Nat.le_of_ble_eq_true rfl) rfl (g_X1_badName l G v0 h) (by rw [hr]; rfl)
abbrev mX0_holderNamed : xa_M := (cX0_holderNamed, 3, (some (.int)), RX0, false)
theorem d_X0_holderNamed_0 : decode mX0_holderNamed.1 0 = .ok (.iconst 0, 1) ∧ 0 + 1 = 1 := ⟨by decide +kernel, rfl⟩
theorem d_X0_holderNamed_1 : decode mX0_holderNamed.1 1 = .ok (.istore_n 2, 1) ∧ 1 + 1 = 2 := ⟨by decide +kernel, rfl⟩
theorem d_X0_holderNamed_2 : decode mX0_holderNamed.1 2 = .ok (.iload_n 2, 1) ∧ 2 + 1 = 3 := ⟨by decide +kernel, rfl⟩
theorem d_X0_holderNamed_3 : decode mX0_holderNamed.1 3 = .ok (.aload_n 0, 1) ∧ 3 + 1 = 4 := ⟨by decide +kernel, rfl⟩
theorem d_X0_holderNamed_4 : decode mX0_holderNamed.1 4 = .ok (.getfield 18, 3) ∧ 4 + 3 = 7 := ⟨by decide +kernel, rfl⟩
theorem d_X0_holderNamed_7 : decode mX0_holderNamed.1 7 = .ok (.if_icmp .ge 21, 3) ∧ 7 + 3 = 10 ∧ ((7 : Nat) : Int) + 21 = ((28 : Nat) : Int) := ⟨by decide +kernel, rfl, rfl⟩
theorem d_X0_holderNamed_10 : decode mX0_holderNamed.1 10 = .ok (.aload_n 0, 1) ∧ 10 + 1 = 11 := ⟨by decide +kernel, rfl⟩
theorem d_X0_holderNamed_11 : decode mX0_holderNamed.1 11 = .ok (.getfield 31, 3) ∧ 11 + 3 = 14 := ⟨by decide +kernel, rfl⟩
theorem d_X0_holderNamed_14 : decode mX0_holderNamed.1 14 = .ok (.iload_n 2, 1) ∧ 14 + 1 = 15 := ⟨by decide +kernel, rfl⟩
theorem d_X0_holderNamed_15 : decode mX0_holderNamed.1 15 = .ok (.iaload, 1) ∧ 15 + 1 = 16 := ⟨by decide +kernel, rfl⟩
theorem d_X0_holderNamed_16 : decode mX0_holderNamed.1 16 = .ok (.iload_n 1, 1) ∧ 16 + 1 = 17 := ⟨by decide +kernel, rfl⟩
theorem d_X0_holderNamed_17 : decode mX0_holderNamed.1 17 = .ok (.if_icmp .ne 5, 3) ∧ 17 + 3 = 20 ∧ ((17 : Nat) : Int) + 5 = ((22 : Nat) : Int) := ⟨by decide +kernel, rfl, rfl⟩
theorem d_X0_holderNamed_20 : decode mX0_holderNamed.1 20 = .ok (.iload_n 2, 1) ∧ 20 + 1 = 21 := ⟨by decide +kernel, rfl⟩
theorem d_X0_holderNamed_21 : decode mX0_holderNamed.1 21 = .ok (.ireturn, 1) := by decide +kernel
theorem d_X0_holderNamed_22 : decode mX0_holderNamed.1 22 = .ok (.iinc 2 1, 3) ∧ 22 + 3 = 25 := ⟨by decide +kernel, rfl⟩
theorem d_X0_holderNamed_25 : decode mX0_holderNamed.1 25 = .ok (.goto (-23), 3) ∧ ((25 : Nat) : Int) + (-23) = ((2 : Nat) : Int) := ⟨by decide +kernel, rfl⟩
set_option maxRecDepth 100000 in
set_option maxHeartbeats 4000000 in
theorem g_X0_holderNamed_L2 (l : Launch) (G : xa_C) (c0 c1 : Int) (h : xa_H) (K : (Int) ⊕ ((Int) ⊕ (Unit)) → Option xa_O) (hb : ∀ (v2 : Int), xa_G l G 2 mX0_holderNamed (some (Sum.inl v2)) K 2 [some (xR c0), some (xI c1), some (xI v2)] [] h) (hr : ∀ r : Int, K (Sum.inr (Sum.inl r)) = some (some (xI r), h)) (hx : xa_G l G 2 mX0_holderNamed (some (Sum.inr (Sum.inr (())))) K 28 [none, none, none] [] h) : ∀ (v2 : Int), xa_G l G 2 mX0_holderNamed (f_X0_holderNamed_L2 c0 c1 h v2) K 2 [some (xR c0), some (xI c1), some (xI v2)] [] h := by
  intro v2
  unfold f_X0_holderNamed_L2
  refine xa_step (xa_iload_n d_X0_holderNamed_2 rfl) ?_
  refine xa_step (xa_aload_n d_X0_holderNamed_3 rfl) ?_
  refine xa_getf xI xc_0 (by decide) (fun _ => rfl) xw_387 rfl d_X0_holderNamed_4 (fun x1 _ => ?_)
  refine xa_if (xa_icmpge d_X0_holderNamed_7) (fun q2 => ?_) (fun q2 => ?_)
  · refine xa_step (xa_aload_n d_X0_holderNamed_10 rfl) ?_
    refine xa_getf xR xc_0 (by decide) (fun _ => rfl) xw_400 rfl d_X0_holderNamed_11 (fun x3 _ => ?_)
    refine xa_step (xa_iload_n d_X0_holderNamed_14 rfl) ?_
    refine xa_iaload d_X0_holderNamed_15 (fun x4 _ => ?_)
    refine xa_step (xa_iload_n d_X0_holderNamed_16 rfl) ?_
    refine xa_if (xa_icmpne d_X0_holderNamed_17) (fun q5 => ?_) (fun q5 => ?_)
    · refine xa_step (xa_iload_n d_X0_holderNamed_20 rfl) ?_
      exact xa_iret d_X0_holderNamed_21 rfl (hr _)
    · refine xa_step (xa_iinc (ls' := [some (xR c0), some (xI c1), some (xI (w32 (v2 + 1)))]) d_X0_holderNamed_22 xq_i_1 rfl (by decide) rfl) ?_
      refine xa_step (xa_goto d_X0_holderNamed_25) ?_
      exact xa_weak (ls' := [some (xR c0), some (xI c1), some (xI (w32 (v2 + 1)))]) ⟨rfl, rfl, rfl, trivial⟩ (hb (w32 (v2 + 1)))
  · exact xa_weak (ls' := [none, none, none]) trivial (hx )
theorem d_X0_holderNamed_28 : decode mX0_holderNamed.1 28 = .ok (.iconst (-1), 1) ∧ 28 + 1 = 29 := ⟨by decide +kernel, rfl⟩
theorem d_X0_holderNamed_29 : decode mX0_holderNamed.1 29 = .ok (.ireturn, 1) := by decide +kernel
set_option maxRecDepth 100000 in
set_option maxHeartbeats 4000000 in
theorem g_X0_holderNamed (l : Launch) (G : xa_C) (v0 v1 : Int) (h : xa_H) : xa_G l G 2 mX0_holderNamed (f_X0_holderNamed v0 v1 h) (fun r => some (some (xI r), h) : Int → Option xa_O) 0 [some (xR v0), some (xI v1), none] [] h := by
  unfold f_X0_holderNamed
  refine xa_step (xa_iconst d_X0_holderNamed_0 xq_i_0) ?_
  refine xa_step (xa_istore_n (ls' := [some (xR v0), some (xI v1), some (xI 0)]) d_X0_holderNamed_1 (by decide) rfl) ?_
  refine xa_weak (ls' := [some (xR v0), some (xI v1), some (xI 0)]) ⟨rfl, rfl, rfl, trivial⟩ ?_
  refine xa_loop (f := fun s => f_X0_holderNamed_L2 v0 v1 h s) (L := fun s => [some (xR v0), some (xI v1), some (xI s)]) (P := fun s => h) (X := (fun e K => match e with | Sum.inl r => K (Sum.inr (Sum.inl r)) = some (some (xI r), h) | Sum.inr x => xa_G l G 2 mX0_holderNamed (some (Sum.inr (Sum.inr x))) K 28 [none, none, none] [] h)) (fun K hb hX s => g_X0_holderNamed_L2 l G v0 v1 h K (fun w0 => hb w0) (fun r => hX (Sum.inl r)) (hX (Sum.inr ())) s) ?_ xFU 0
  rintro (r | y7) K hK
  · exact hK.trans rfl
  · refine xa_eqE hK ?_
    show xa_G l G 2 mX0_holderNamed _ _ 28 [none, none, none] [] h
    refine xa_step (xa_iconst d_X0_holderNamed_28 xq_i_m1) ?_
    exact xa_iret d_X0_holderNamed_29 rfl rfl
theorem ct_X0_holderNamed (l : Launch) (G : xa_C) (v0 v1 : Int) (h : xa_H) (r : Int) (hr : f_X0_holderNamed v0 v1 h = some r) : xa_CT l G 2 mX0_holderNamed yX0_holderNamed [xR v0, xI v1] h (some (xI r), h) :=
  xa_met (by decide +kernel) rfl (fun q => by first | rfl | cases q) (Nat.le_of_ble_eq_true rfl) rfl (g_X0_holderNamed l G v0 v1 h) (by rw [hr]; rfl)
abbrev mX6_needName : xa_M := (cX6_needName, 2, (some (.int)), RX6, false)
theorem d_X6_needName_0 : decode mX6_needName.1 0 = .ok (.aload_n 0, 1) ∧ 0 + 1 = 1 := ⟨by decide +kernel, rfl⟩
theorem d_X6_needName_1 : decode mX6_needName.1 1 = .ok (.getfield 53, 3) ∧ 1 + 3 = 4 := ⟨by decide +kernel, rfl⟩
theorem d_X6_needName_4 : decode mX6_needName.1 4 = .ok (.istore_n 1, 1) ∧ 4 + 1 = 5 := ⟨by decide +kernel, rfl⟩
theorem d_X6_needName_5 : decode mX6_needName.1 5 = .ok (.aload_n 0, 1) ∧ 5 + 1 = 6 := ⟨by decide +kernel, rfl⟩
theorem d_X6_needName_6 : decode mX6_needName.1 6 = .ok (.getfield 41, 3) ∧ 6 + 3 = 9 := ⟨by decide +kernel, rfl⟩
theorem d_X6_needName_9 : decode mX6_needName.1 9 = .ok (.iconst 1, 1) ∧ 9 + 1 = 10 := ⟨by decide +kernel, rfl⟩
theorem d_X6_needName_10 : decode mX6_needName.1 10 = .ok (.if_icmp .ne 20, 3) ∧ 10 + 3 = 13 ∧ ((10 : Nat) : Int) + 20 = ((30 : Nat) : Int) := ⟨by decide +kernel, rfl, rfl⟩
theorem d_X6_needName_13 : decode mX6_needName.1 13 = .ok (.aload_n 0, 1) ∧ 13 + 1 = 14 := ⟨by decide +kernel, rfl⟩
theorem d_X6_needName_14 : decode mX6_needName.1 14 = .ok (.getfield 56, 3) ∧ 14 + 3 = 17 := ⟨by decide +kernel, rfl⟩
theorem d_X6_needName_17 : decode mX6_needName.1 17 = .ok (.iconst (-1), 1) ∧ 17 + 1 = 18 := ⟨by decide +kernel, rfl⟩
theorem d_X6_needName_18 : decode mX6_needName.1 18 = .ok (.if_icmp .eq 19, 3) ∧ 18 + 3 = 21 ∧ ((18 : Nat) : Int) + 19 = ((37 : Nat) : Int) := ⟨by decide +kernel, rfl, rfl⟩
theorem d_X6_needName_37 : decode mX6_needName.1 37 = .ok (.aload_n 0, 1) ∧ 37 + 1 = 38 := ⟨by decide +kernel, rfl⟩
theorem d_X6_needName_38 : decode mX6_needName.1 38 = .ok (.getfield 44, 3) ∧ 38 + 3 = 41 := ⟨by decide +kernel, rfl⟩
theorem d_X6_needName_41 : decode mX6_needName.1 41 = .ok (.aload_n 0, 1) ∧ 41 + 1 = 42 := ⟨by decide +kernel, rfl⟩
theorem d_X6_needName_42 : decode mX6_needName.1 42 = .ok (.getfield 50, 3) ∧ 42 + 3 = 45 := ⟨by decide +kernel, rfl⟩
theorem d_X6_needName_45 : decode mX6_needName.1 45 = .ok (.isub, 1) ∧ 45 + 1 = 46 := ⟨by decide +kernel, rfl⟩
theorem d_X6_needName_46 : decode mX6_needName.1 46 = .ok (.bipush 6, 2) ∧ 46 + 2 = 48 := ⟨by decide +kernel, rfl⟩
theorem d_X6_needName_48 : decode mX6_needName.1 48 = .ok (.if_icmp .le 18, 3) ∧ 48 + 3 = 51 ∧ ((48 : Nat) : Int) + 18 = ((66 : Nat) : Int) := ⟨by decide +kernel, rfl, rfl⟩
theorem d_X6_needName_51 : decode mX6_needName.1 51 = .ok (.aload_n 0, 1) ∧ 51 + 1 = 52 := ⟨by decide +kernel, rfl⟩
theorem d_X6_needName_52 : decode mX6_needName.1 52 = .ok (.iconst 1, 1) ∧ 52 + 1 = 53 := ⟨by decide +kernel, rfl⟩
theorem d_X6_needName_53 : decode mX6_needName.1 53 = .ok (.aload_n 0, 1) ∧ 53 + 1 = 54 := ⟨by decide +kernel, rfl⟩
theorem d_X6_needName_54 : decode mX6_needName.1 54 = .ok (.getfield 50, 3) ∧ 54 + 3 = 57 := ⟨by decide +kernel, rfl⟩
theorem d_X6_needName_57 : decode mX6_needName.1 57 = .ok (.bipush 6, 2) ∧ 57 + 2 = 59 := ⟨by decide +kernel, rfl⟩
theorem d_X6_needName_59 : decode mX6_needName.1 59 = .ok (.iadd, 1) ∧ 59 + 1 = 60 := ⟨by decide +kernel, rfl⟩
theorem d_X6_needName_60 : decode mX6_needName.1 60 = .ok (.invokevirtual 63, 3) ∧ 60 + 3 = 63 := ⟨by decide +kernel, rfl⟩
theorem d_X6_needName_63 : decode mX6_needName.1 63 = .ok (.pop, 1) ∧ 63 + 1 = 64 := ⟨by decide +kernel, rfl⟩
theorem d_X6_needName_64 : decode mX6_needName.1 64 = .ok (.iconst (-1), 1) ∧ 64 + 1 = 65 := ⟨by decide +kernel, rfl⟩
theorem d_X6_needName_65 : decode mX6_needName.1 65 = .ok (.ireturn, 1) := by decide +kernel
theorem d_X6_needName_66 : decode mX6_needName.1 66 = .ok (.aload_n 0, 1) ∧ 66 + 1 = 67 := ⟨by decide +kernel, rfl⟩
theorem d_X6_needName_67 : decode mX6_needName.1 67 = .ok (.aload_n 0, 1) ∧ 67 + 1 = 68 := ⟨by decide +kernel, rfl⟩
theorem d_X6_needName_68 : decode mX6_needName.1 68 = .ok (.getfield 50, 3) ∧ 68 + 3 = 71 := ⟨by decide +kernel, rfl⟩
theorem d_X6_needName_71 : decode mX6_needName.1 71 = .ok (.putfield 67, 3) ∧ 71 + 3 = 74 := ⟨by decide +kernel, rfl⟩
theorem d_X6_needName_74 : decode mX6_needName.1 74 = .ok (.aload_n 0, 1) ∧ 74 + 1 = 75 := ⟨by decide +kernel, rfl⟩
theorem d_X6_needName_75 : decode mX6_needName.1 75 = .ok (.invokevirtual 47, 3) ∧ 75 + 3 = 78 := ⟨by decide +kernel, rfl⟩
theorem d_X6_needName_78 : decode mX6_needName.1 78 = .ok (.iload_n 1, 1) ∧ 78 + 1 = 79 := ⟨by decide +kernel, rfl⟩
theorem d_X6_needName_79 : decode mX6_needName.1 79 = .ok (.ireturn, 1) := by decide +kernel
set_option maxRecDepth 100000 in
set_option maxHeartbeats 4000000 in
theorem g_X6_needName_J37 (l : Launch) (G : xa_C) : ∀ (v0 v1 : Int) (h : xa_H) , xa_G l G 3 mX6_needName (f_X6_needName_J37 v0 v1 h) (fun r => some (some (xI r.1), r.2) : (Int × xa_H) → Option xa_O) 37 [some (xR v0), some (xI v1)] [] h := by
  intro v0 v1 h
  unfold f_X6_needName_J37
  refine xa_step (xa_aload_n d_X6_needName_37 rfl) ?_
  refine xa_getf xI xc_6 (by decide) (fun _ => rfl) xw_255 rfl d_X6_needName_38 (fun x6 _ => ?_)
  refine xa_step (xa_aload_n d_X6_needName_41 rfl) ?_
  refine xa_getf xI xc_6 (by decide) (fun _ => rfl) xw_252 rfl d_X6_needName_42 (fun x7 _ => ?_)
  refine xa_step (xa_isub d_X6_needName_45) ?_
  refine xa_step (xa_bipush d_X6_needName_46 xq_b_6) ?_
  refine xa_if (xa_icmple d_X6_needName_48) (fun q8 => ?_) (fun q8 => ?_)
  · refine xa_step (xa_aload_n d_X6_needName_51 rfl) ?_
    refine xa_step (xa_iconst d_X6_needName_52 xq_i_1) ?_
    refine xa_step (xa_aload_n d_X6_needName_53 rfl) ?_
    refine xa_getf xI xc_6 (by decide) (fun _ => rfl) xw_252 rfl d_X6_needName_54 (fun x9 _ => ?_)
    refine xa_step (xa_bipush d_X6_needName_57 xq_b_6) ?_
    refine xa_step (xa_iadd d_X6_needName_59) ?_
    refine xa_callVI (as := [xI 1, xI (w32 (x9 + 6))]) (st := []) (M' := mX6_refuse) (d' := 2) rfl xw_709 xw_685 xw_686 xw_687 xw_162 xh_X6_refuse rfl ⟨Nat.le_of_ble_eq_true rfl, Nat.le_of_ble_eq_true rfl⟩ (Nat.le_of_ble_eq_true rfl) rfl d_X6_needName_60 (fun r hr => ct_X6_refuse l G v0 1 (w32 (x9 + 6)) h r hr) (fun r10 _ => ?_)
    refine xa_step (xa_pop d_X6_needName_63) ?_
    refine xa_step (xa_iconst d_X6_needName_64 xq_i_m1) ?_
    exact xa_iret d_X6_needName_65 rfl rfl
  · refine xa_step (xa_aload_n d_X6_needName_66 rfl) ?_
    refine xa_step (xa_aload_n d_X6_needName_67 rfl) ?_
    refine xa_getf xI xc_6 (by decide) (fun _ => rfl) xw_252 rfl d_X6_needName_68 (fun x11 _ => ?_)
    refine xa_putf2 (tg := xI) xc_6 (by decide) (fun _ => rfl) rfl (fun c hc => xa_fitI c hc) xw_261 rfl d_X6_needName_71 (fun h12 _ => ?_)
    refine xa_step (xa_aload_n d_X6_needName_74 rfl) ?_
    refine xa_callVV (as := []) (st := []) (M' := mX6_step) (d' := 2) rfl xw_676 xw_677 xw_678 xw_679 xw_162 xh_X6_step rfl ⟨Nat.le_of_ble_eq_true rfl, Nat.le_of_ble_eq_true rfl⟩ (Nat.le_of_ble_eq_true rfl) rfl d_X6_needName_75 (fun r hr => ct_X6_step l G v0 h12 r hr) (fun r13 _ => ?_)
    refine xa_step (xa_iload_n d_X6_needName_78 rfl) ?_
    exact xa_iret d_X6_needName_79 rfl rfl
theorem d_X6_needName_21 : decode mX6_needName.1 21 = .ok (.aload_n 0, 1) ∧ 21 + 1 = 22 := ⟨by decide +kernel, rfl⟩
theorem d_X6_needName_22 : decode mX6_needName.1 22 = .ok (.getfield 56, 3) ∧ 22 + 3 = 25 := ⟨by decide +kernel, rfl⟩
theorem d_X6_needName_25 : decode mX6_needName.1 25 = .ok (.bipush 23, 2) ∧ 25 + 2 = 27 := ⟨by decide +kernel, rfl⟩
theorem d_X6_needName_27 : decode mX6_needName.1 27 = .ok (.if_icmp .ge 10, 3) ∧ 27 + 3 = 30 ∧ ((27 : Nat) : Int) + 10 = ((37 : Nat) : Int) := ⟨by decide +kernel, rfl, rfl⟩
theorem d_X6_needName_30 : decode mX6_needName.1 30 = .ok (.aload_n 0, 1) ∧ 30 + 1 = 31 := ⟨by decide +kernel, rfl⟩
theorem d_X6_needName_31 : decode mX6_needName.1 31 = .ok (.invokevirtual 59, 3) ∧ 31 + 3 = 34 := ⟨by decide +kernel, rfl⟩
theorem d_X6_needName_34 : decode mX6_needName.1 34 = .ok (.pop, 1) ∧ 34 + 1 = 35 := ⟨by decide +kernel, rfl⟩
theorem d_X6_needName_35 : decode mX6_needName.1 35 = .ok (.iconst (-1), 1) ∧ 35 + 1 = 36 := ⟨by decide +kernel, rfl⟩
theorem d_X6_needName_36 : decode mX6_needName.1 36 = .ok (.ireturn, 1) := by decide +kernel
set_option maxRecDepth 100000 in
set_option maxHeartbeats 4000000 in
theorem g_X6_needName_J30 (l : Launch) (G : xa_C) : ∀ (v0 : Int) (h : xa_H) , xa_G l G 3 mX6_needName (f_X6_needName_J30 v0 h) (fun r => some (some (xI r.1), r.2) : (Int × xa_H) → Option xa_O) 30 [some (xR v0), none] [] h := by
  intro v0 h
  unfold f_X6_needName_J30
  refine xa_step (xa_aload_n d_X6_needName_30 rfl) ?_
  refine xa_callVI (as := []) (st := []) (M' := mX6_stray) (d' := 2) rfl xw_705 xw_706 xw_707 xw_708 xw_162 xh_X6_stray rfl ⟨Nat.le_of_ble_eq_true rfl, Nat.le_of_ble_eq_true rfl⟩ (Nat.le_of_ble_eq_true rfl) rfl d_X6_needName_31 (fun r hr => ct_X6_stray l G v0 h r hr) (fun r16 _ => ?_)
  refine xa_step (xa_pop d_X6_needName_34) ?_
  refine xa_step (xa_iconst d_X6_needName_35 xq_i_m1) ?_
  exact xa_iret d_X6_needName_36 rfl rfl
set_option maxRecDepth 100000 in
set_option maxHeartbeats 4000000 in
theorem g_X6_needName (l : Launch) (G : xa_C) (v0 : Int) (h : xa_H) : xa_G l G 3 mX6_needName (f_X6_needName v0 h) (fun r => some (some (xI r.1), r.2) : (Int × xa_H) → Option xa_O) 0 [some (xR v0), none] [] h := by
  unfold f_X6_needName
  refine xa_step (xa_aload_n d_X6_needName_0 rfl) ?_
  refine xa_getf xI xc_6 (by decide) (fun _ => rfl) xw_256 rfl d_X6_needName_1 (fun x1 _ => ?_)
  refine xa_step (xa_istore_n (ls' := [some (xR v0), some (xI x1)]) d_X6_needName_4 (by decide) rfl) ?_
  refine xa_step (xa_aload_n d_X6_needName_5 rfl) ?_
  refine xa_getf xI xc_6 (by decide) (fun _ => rfl) xw_248 rfl d_X6_needName_6 (fun x2 _ => ?_)
  refine xa_step (xa_iconst d_X6_needName_9 xq_i_1) ?_
  refine xa_if (xa_icmpne d_X6_needName_10) (fun q3 => ?_) (fun q3 => ?_)
  · refine xa_step (xa_aload_n d_X6_needName_13 rfl) ?_
    refine xa_getf xI xc_6 (by decide) (fun _ => rfl) xw_258 rfl d_X6_needName_14 (fun x4 _ => ?_)
    refine xa_step (xa_iconst d_X6_needName_17 xq_i_m1) ?_
    refine xa_if (xa_icmpeq d_X6_needName_18) (fun q5 => ?_) (fun q5 => ?_)
    · exact xa_weak (ls' := [some (xR v0), some (xI x1)]) ⟨rfl, rfl, trivial⟩ (g_X6_needName_J37 l G v0 x1 h)
    · refine xa_step (xa_aload_n d_X6_needName_21 rfl) ?_
      refine xa_getf xI xc_6 (by decide) (fun _ => rfl) xw_258 rfl d_X6_needName_22 (fun x14 _ => ?_)
      refine xa_step (xa_bipush d_X6_needName_25 xq_b_23) ?_
      refine xa_if (xa_icmpge d_X6_needName_27) (fun q15 => ?_) (fun q15 => ?_)
      · exact xa_weak (ls' := [some (xR v0), none]) ⟨rfl, trivial⟩ (g_X6_needName_J30 l G v0 h)
      · exact xa_weak (ls' := [some (xR v0), some (xI x1)]) ⟨rfl, rfl, trivial⟩ (g_X6_needName_J37 l G v0 x1 h)
  · exact xa_weak (ls' := [some (xR v0), none]) ⟨rfl, trivial⟩ (g_X6_needName_J30 l G v0 h)
theorem ct_X6_needName (l : Launch) (G : xa_C) (v0 : Int) (h : xa_H) (r : Int × xa_H) (hr : f_X6_needName v0 h = some r) : xa_CT l G 3 mX6_needName yX6_needName [xR v0] h (some (xI r.1), r.2) :=
  xa_met (by decide +kernel) rfl (fun q => by first | rfl | cases q) (Nat.le_of_ble_eq_true rfl) rfl (g_X6_needName l G v0 h) (by rw [hr]; rfl)
abbrev mX1_knownHolder : xa_M := (cX1_knownHolder, 3, (some (.int)), RX1, false)
theorem d_X1_knownHolder_0 : decode mX1_knownHolder.1 0 = .ok (.aload_n 0, 1) ∧ 0 + 1 = 1 := ⟨by decide +kernel, rfl⟩
theorem d_X1_knownHolder_1 : decode mX1_knownHolder.1 1 = .ok (.getfield 15, 3) ∧ 1 + 3 = 4 := ⟨by decide +kernel, rfl⟩
theorem d_X1_knownHolder_4 : decode mX1_knownHolder.1 4 = .ok (.invokevirtual 166, 3) ∧ 4 + 3 = 7 := ⟨by decide +kernel, rfl⟩
theorem d_X1_knownHolder_7 : decode mX1_knownHolder.1 7 = .ok (.istore_n 1, 1) ∧ 7 + 1 = 8 := ⟨by decide +kernel, rfl⟩
theorem d_X1_knownHolder_8 : decode mX1_knownHolder.1 8 = .ok (.iload_n 1, 1) ∧ 8 + 1 = 9 := ⟨by decide +kernel, rfl⟩
theorem d_X1_knownHolder_9 : decode mX1_knownHolder.1 9 = .ok (.iconst (-1), 1) ∧ 9 + 1 = 10 := ⟨by decide +kernel, rfl⟩
theorem d_X1_knownHolder_10 : decode mX1_knownHolder.1 10 = .ok (.if_icmp .ne 5, 3) ∧ 10 + 3 = 13 ∧ ((10 : Nat) : Int) + 5 = ((15 : Nat) : Int) := ⟨by decide +kernel, rfl, rfl⟩
theorem d_X1_knownHolder_13 : decode mX1_knownHolder.1 13 = .ok (.iconst (-1), 1) ∧ 13 + 1 = 14 := ⟨by decide +kernel, rfl⟩
theorem d_X1_knownHolder_14 : decode mX1_knownHolder.1 14 = .ok (.ireturn, 1) := by decide +kernel
theorem d_X1_knownHolder_15 : decode mX1_knownHolder.1 15 = .ok (.aload_n 0, 1) ∧ 15 + 1 = 16 := ⟨by decide +kernel, rfl⟩
theorem d_X1_knownHolder_16 : decode mX1_knownHolder.1 16 = .ok (.getfield 9, 3) ∧ 16 + 3 = 19 := ⟨by decide +kernel, rfl⟩
theorem d_X1_knownHolder_19 : decode mX1_knownHolder.1 19 = .ok (.iload_n 1, 1) ∧ 19 + 1 = 20 := ⟨by decide +kernel, rfl⟩
theorem d_X1_knownHolder_20 : decode mX1_knownHolder.1 20 = .ok (.invokevirtual 172, 3) ∧ 20 + 3 = 23 := ⟨by decide +kernel, rfl⟩
theorem d_X1_knownHolder_23 : decode mX1_knownHolder.1 23 = .ok (.istore_n 2, 1) ∧ 23 + 1 = 24 := ⟨by decide +kernel, rfl⟩
theorem d_X1_knownHolder_24 : decode mX1_knownHolder.1 24 = .ok (.iload_n 2, 1) ∧ 24 + 1 = 25 := ⟨by decide +kernel, rfl⟩
theorem d_X1_knownHolder_25 : decode mX1_knownHolder.1 25 = .ok (.iconst (-1), 1) ∧ 25 + 1 = 26 := ⟨by decide +kernel, rfl⟩
theorem d_X1_knownHolder_26 : decode mX1_knownHolder.1 26 = .ok (.if_icmp .ne 8, 3) ∧ 26 + 3 = 29 ∧ ((26 : Nat) : Int) + 8 = ((34 : Nat) : Int) := ⟨by decide +kernel, rfl, rfl⟩
theorem d_X1_knownHolder_29 : decode mX1_knownHolder.1 29 = .ok (.aload_n 0, 1) ∧ 29 + 1 = 30 := ⟨by decide +kernel, rfl⟩
theorem d_X1_knownHolder_30 : decode mX1_knownHolder.1 30 = .ok (.invokevirtual 137, 3) ∧ 30 + 3 = 33 := ⟨by decide +kernel, rfl⟩
theorem d_X1_knownHolder_33 : decode mX1_knownHolder.1 33 = .ok (.pop, 1) ∧ 33 + 1 = 34 := ⟨by decide +kernel, rfl⟩
theorem d_X1_knownHolder_34 : decode mX1_knownHolder.1 34 = .ok (.iload_n 2, 1) ∧ 34 + 1 = 35 := ⟨by decide +kernel, rfl⟩
theorem d_X1_knownHolder_35 : decode mX1_knownHolder.1 35 = .ok (.ireturn, 1) := by decide +kernel
set_option maxRecDepth 100000 in
set_option maxHeartbeats 4000000 in
theorem g_X1_knownHolder (l : Launch) (G : xa_C) (v0 : Int) (h : xa_H) : xa_G l G 4 mX1_knownHolder (f_X1_knownHolder v0 h) (fun r => some (some (xI r.1), r.2) : (Int × xa_H) → Option xa_O) 0 [some (xR v0), none, none] [] h := by
  unfold f_X1_knownHolder
  refine xa_step (xa_aload_n d_X1_knownHolder_0 rfl) ?_
  refine xa_getf xR xc_1 (by decide) (fun _ => rfl) xw_317 rfl d_X1_knownHolder_1 (fun x1 _ => ?_)
  refine xa_callVI (as := []) (st := []) (M' := mX6_needName) (d' := 3) rfl xw_701 xw_702 xw_703 xw_704 xw_162 xh_X6_needName rfl ⟨Nat.le_of_ble_eq_true rfl, Nat.le_of_ble_eq_true rfl⟩ (Nat.le_of_ble_eq_true rfl) rfl d_X1_knownHolder_4 (fun r hr => ct_X6_needName l G x1 h r hr) (fun r2 _ => ?_)
  refine xa_step (xa_istore_n (ls' := [some (xR v0), some (xI r2.1), none]) d_X1_knownHolder_7 (by decide) rfl) ?_
  refine xa_step (xa_iload_n d_X1_knownHolder_8 rfl) ?_
  refine xa_step (xa_iconst d_X1_knownHolder_9 xq_i_m1) ?_
  refine xa_if (xa_icmpne d_X1_knownHolder_10) (fun q3 => ?_) (fun q3 => ?_)
  · refine xa_step (xa_iconst d_X1_knownHolder_13 xq_i_m1) ?_
    exact xa_iret d_X1_knownHolder_14 rfl rfl
  · refine xa_step (xa_aload_n d_X1_knownHolder_15 rfl) ?_
    refine xa_getf xR xc_1 (by decide) (fun _ => rfl) xw_319 rfl d_X1_knownHolder_16 (fun x4 _ => ?_)
    refine xa_step (xa_iload_n d_X1_knownHolder_19 rfl) ?_
    refine xa_callVi (as := [xI r2.1]) (st := []) (M' := mX0_holderNamed) (d' := 2) rfl xw_714 xw_715 xw_716 xw_717 xw_169 xh_X0_holderNamed rfl ⟨Nat.le_of_ble_eq_true rfl, Nat.le_of_ble_eq_true rfl⟩ (Nat.le_of_ble_eq_true rfl) rfl d_X1_knownHolder_20 (fun r hr => ct_X0_holderNamed l G x4 r2.1 r2.2 r hr) (fun r5 _ => ?_)
    refine xa_step (xa_istore_n (ls' := [some (xR v0), some (xI r2.1), some (xI r5)]) d_X1_knownHolder_23 (by decide) rfl) ?_
    refine xa_step (xa_iload_n d_X1_knownHolder_24 rfl) ?_
    refine xa_step (xa_iconst d_X1_knownHolder_25 xq_i_m1) ?_
    refine xa_if (xa_icmpne d_X1_knownHolder_26) (fun q6 => ?_) (fun q6 => ?_)
    · refine xa_step (xa_aload_n d_X1_knownHolder_29 rfl) ?_
      refine xa_callVI (as := []) (st := []) (M' := mX1_badName) (d' := 3) rfl xw_718 xw_720 xw_9 xw_721 xw_168 xh_X1_badName rfl ⟨Nat.le_of_ble_eq_true rfl, Nat.le_of_ble_eq_true rfl⟩ (Nat.le_of_ble_eq_true rfl) rfl d_X1_knownHolder_30 (fun r hr => ct_X1_badName l G v0 r2.2 r hr) (fun r7 _ => ?_)
      refine xa_step (xa_pop d_X1_knownHolder_33) ?_
      refine xa_step (xa_iload_n d_X1_knownHolder_34 rfl) ?_
      exact xa_iret d_X1_knownHolder_35 rfl rfl
    · refine xa_step (xa_iload_n d_X1_knownHolder_34 rfl) ?_
      exact xa_iret d_X1_knownHolder_35 rfl rfl
theorem ct_X1_knownHolder (l : Launch) (G : xa_C) (v0 : Int) (h : xa_H) (r : Int × xa_H) (hr : f_X1_knownHolder v0 h = some r) : xa_CT l G 4 mX1_knownHolder yX1_knownHolder [xR v0] h (some (xI r.1), r.2) :=
  xa_met (by decide +kernel) rfl (fun q => by first | rfl | cases q) (Nat.le_of_ble_eq_true rfl) rfl (g_X1_knownHolder l G v0 h) (by rw [hr]; rfl)
abbrev mX1_readFeud : xa_M := (cX1_readFeud, 3, (some (.boolean)), RX1, false)
theorem d_X1_readFeud_0 : decode mX1_readFeud.1 0 = .ok (.aload_n 0, 1) ∧ 0 + 1 = 1 := ⟨by decide +kernel, rfl⟩
theorem d_X1_readFeud_1 : decode mX1_readFeud.1 1 = .ok (.getfield 15, 3) ∧ 1 + 3 = 4 := ⟨by decide +kernel, rfl⟩
theorem d_X1_readFeud_4 : decode mX1_readFeud.1 4 = .ok (.invokevirtual 106, 3) ∧ 4 + 3 = 7 := ⟨by decide +kernel, rfl⟩
theorem d_X1_readFeud_7 : decode mX1_readFeud.1 7 = .ok (.aload_n 0, 1) ∧ 7 + 1 = 8 := ⟨by decide +kernel, rfl⟩
theorem d_X1_readFeud_8 : decode mX1_readFeud.1 8 = .ok (.invokevirtual 144, 3) ∧ 8 + 3 = 11 := ⟨by decide +kernel, rfl⟩
theorem d_X1_readFeud_11 : decode mX1_readFeud.1 11 = .ok (.istore_n 1, 1) ∧ 11 + 1 = 12 := ⟨by decide +kernel, rfl⟩
theorem d_X1_readFeud_12 : decode mX1_readFeud.1 12 = .ok (.iload_n 1, 1) ∧ 12 + 1 = 13 := ⟨by decide +kernel, rfl⟩
theorem d_X1_readFeud_13 : decode mX1_readFeud.1 13 = .ok (.iconst (-1), 1) ∧ 13 + 1 = 14 := ⟨by decide +kernel, rfl⟩
theorem d_X1_readFeud_14 : decode mX1_readFeud.1 14 = .ok (.if_icmp .ne 5, 3) ∧ 14 + 3 = 17 ∧ ((14 : Nat) : Int) + 5 = ((19 : Nat) : Int) := ⟨by decide +kernel, rfl, rfl⟩
theorem d_X1_readFeud_17 : decode mX1_readFeud.1 17 = .ok (.iconst 0, 1) ∧ 17 + 1 = 18 := ⟨by decide +kernel, rfl⟩
theorem d_X1_readFeud_18 : decode mX1_readFeud.1 18 = .ok (.ireturn, 1) := by decide +kernel
theorem d_X1_readFeud_19 : decode mX1_readFeud.1 19 = .ok (.aload_n 0, 1) ∧ 19 + 1 = 20 := ⟨by decide +kernel, rfl⟩
theorem d_X1_readFeud_20 : decode mX1_readFeud.1 20 = .ok (.invokevirtual 144, 3) ∧ 20 + 3 = 23 := ⟨by decide +kernel, rfl⟩
theorem d_X1_readFeud_23 : decode mX1_readFeud.1 23 = .ok (.istore_n 2, 1) ∧ 23 + 1 = 24 := ⟨by decide +kernel, rfl⟩
theorem d_X1_readFeud_24 : decode mX1_readFeud.1 24 = .ok (.iload_n 2, 1) ∧ 24 + 1 = 25 := ⟨by decide +kernel, rfl⟩
theorem d_X1_readFeud_25 : decode mX1_readFeud.1 25 = .ok (.iconst (-1), 1) ∧ 25 + 1 = 26 := ⟨by decide +kernel, rfl⟩
theorem d_X1_readFeud_26 : decode mX1_readFeud.1 26 = .ok (.if_icmp .ne 5, 3) ∧ 26 + 3 = 29 ∧ ((26 : Nat) : Int) + 5 = ((31 : Nat) : Int) := ⟨by decide +kernel, rfl, rfl⟩
theorem d_X1_readFeud_29 : decode mX1_readFeud.1 29 = .ok (.iconst 0, 1) ∧ 29 + 1 = 30 := ⟨by decide +kernel, rfl⟩
theorem d_X1_readFeud_30 : decode mX1_readFeud.1 30 = .ok (.ireturn, 1) := by decide +kernel
theorem d_X1_readFeud_31 : decode mX1_readFeud.1 31 = .ok (.iload_n 1, 1) ∧ 31 + 1 = 32 := ⟨by decide +kernel, rfl⟩
theorem d_X1_readFeud_32 : decode mX1_readFeud.1 32 = .ok (.iload_n 2, 1) ∧ 32 + 1 = 33 := ⟨by decide +kernel, rfl⟩
theorem d_X1_readFeud_33 : decode mX1_readFeud.1 33 = .ok (.if_icmp .eq 15, 3) ∧ 33 + 3 = 36 ∧ ((33 : Nat) : Int) + 15 = ((48 : Nat) : Int) := ⟨by decide +kernel, rfl, rfl⟩
theorem d_X1_readFeud_48 : decode mX1_readFeud.1 48 = .ok (.aload_n 0, 1) ∧ 48 + 1 = 49 := ⟨by decide +kernel, rfl⟩
theorem d_X1_readFeud_49 : decode mX1_readFeud.1 49 = .ok (.invokevirtual 137, 3) ∧ 49 + 3 = 52 := ⟨by decide +kernel, rfl⟩
theorem d_X1_readFeud_52 : decode mX1_readFeud.1 52 = .ok (.ireturn, 1) := by decide +kernel
set_option maxRecDepth 100000 in
set_option maxHeartbeats 4000000 in
theorem g_X1_readFeud_J48 (l : Launch) (G : xa_C) : ∀ (v0 : Int) (h : xa_H) , xa_G l G 5 mX1_readFeud (f_X1_readFeud_J48 v0 h) (fun r => some (some (xI r.1), r.2) : (Int × xa_H) → Option xa_O) 48 [some (xR v0), none, none] [] h := by
  intro v0 h
  unfold f_X1_readFeud_J48
  refine xa_step (xa_aload_n d_X1_readFeud_48 rfl) ?_
  refine xa_callVI (as := []) (st := []) (M' := mX1_badName) (d' := 3) rfl xw_718 xw_720 xw_9 xw_721 xw_168 xh_X1_badName rfl ⟨Nat.le_of_ble_eq_true rfl, Nat.le_of_ble_eq_true rfl⟩ (Nat.le_of_ble_eq_true rfl) rfl d_X1_readFeud_49 (fun r hr => ct_X1_badName l G v0 h r hr) (fun r8 _ => ?_)
  refine xa_bo (fun q9 => ?_)
  exact xa_zret d_X1_readFeud_52 rfl q9 rfl
theorem d_X1_readFeud_36 : decode mX1_readFeud.1 36 = .ok (.aload_n 0, 1) ∧ 36 + 1 = 37 := ⟨by decide +kernel, rfl⟩
theorem d_X1_readFeud_37 : decode mX1_readFeud.1 37 = .ok (.getfield 9, 3) ∧ 37 + 3 = 40 := ⟨by decide +kernel, rfl⟩
theorem d_X1_readFeud_40 : decode mX1_readFeud.1 40 = .ok (.iload_n 1, 1) ∧ 40 + 1 = 41 := ⟨by decide +kernel, rfl⟩
theorem d_X1_readFeud_41 : decode mX1_readFeud.1 41 = .ok (.iload_n 2, 1) ∧ 41 + 1 = 42 := ⟨by decide +kernel, rfl⟩
theorem d_X1_readFeud_42 : decode mX1_readFeud.1 42 = .ok (.invokevirtual 151, 3) ∧ 42 + 3 = 45 := ⟨by decide +kernel, rfl⟩
theorem d_X1_readFeud_45 : decode mX1_readFeud.1 45 = .ok (.ifCond .eq 8, 3) ∧ 45 + 3 = 48 ∧ ((45 : Nat) : Int) + 8 = ((53 : Nat) : Int) := ⟨by decide +kernel, rfl, rfl⟩
theorem d_X1_readFeud_53 : decode mX1_readFeud.1 53 = .ok (.aload_n 0, 1) ∧ 53 + 1 = 54 := ⟨by decide +kernel, rfl⟩
theorem d_X1_readFeud_54 : decode mX1_readFeud.1 54 = .ok (.getfield 9, 3) ∧ 54 + 3 = 57 := ⟨by decide +kernel, rfl⟩
theorem d_X1_readFeud_57 : decode mX1_readFeud.1 57 = .ok (.iload_n 1, 1) ∧ 57 + 1 = 58 := ⟨by decide +kernel, rfl⟩
theorem d_X1_readFeud_58 : decode mX1_readFeud.1 58 = .ok (.iload_n 2, 1) ∧ 58 + 1 = 59 := ⟨by decide +kernel, rfl⟩
theorem d_X1_readFeud_59 : decode mX1_readFeud.1 59 = .ok (.invokevirtual 154, 3) ∧ 59 + 3 = 62 := ⟨by decide +kernel, rfl⟩
theorem d_X1_readFeud_62 : decode mX1_readFeud.1 62 = .ok (.iconst 1, 1) ∧ 62 + 1 = 63 := ⟨by decide +kernel, rfl⟩
theorem d_X1_readFeud_63 : decode mX1_readFeud.1 63 = .ok (.ireturn, 1) := by decide +kernel
set_option maxRecDepth 100000 in
set_option maxHeartbeats 4000000 in
theorem g_X1_readFeud (l : Launch) (G : xa_C) (v0 : Int) (h : xa_H) : xa_G l G 5 mX1_readFeud (f_X1_readFeud v0 h) (fun r => some (some (xI r.1), r.2) : (Int × xa_H) → Option xa_O) 0 [some (xR v0), none, none] [] h := by
  unfold f_X1_readFeud
  refine xa_step (xa_aload_n d_X1_readFeud_0 rfl) ?_
  refine xa_getf xR xc_1 (by decide) (fun _ => rfl) xw_317 rfl d_X1_readFeud_1 (fun x1 _ => ?_)
  refine xa_callVV (as := []) (st := []) (M' := mX6_step) (d' := 2) rfl xw_696 xw_677 xw_678 xw_679 xw_162 xh_X6_step rfl ⟨Nat.le_of_ble_eq_true rfl, Nat.le_of_ble_eq_true rfl⟩ (Nat.le_of_ble_eq_true rfl) rfl d_X1_readFeud_4 (fun r hr => ct_X6_step l G x1 h r hr) (fun r2 _ => ?_)
  refine xa_step (xa_aload_n d_X1_readFeud_7 rfl) ?_
  refine xa_callVI (as := []) (st := []) (M' := mX1_knownHolder) (d' := 4) rfl xw_754 xw_756 xw_13 xw_757 xw_168 xh_X1_knownHolder rfl ⟨Nat.le_of_ble_eq_true rfl, Nat.le_of_ble_eq_true rfl⟩ (Nat.le_of_ble_eq_true rfl) rfl d_X1_readFeud_8 (fun r hr => ct_X1_knownHolder l G v0 r2 r hr) (fun r3 _ => ?_)
  refine xa_step (xa_istore_n (ls' := [some (xR v0), some (xI r3.1), none]) d_X1_readFeud_11 (by decide) rfl) ?_
  refine xa_step (xa_iload_n d_X1_readFeud_12 rfl) ?_
  refine xa_step (xa_iconst d_X1_readFeud_13 xq_i_m1) ?_
  refine xa_if (xa_icmpne d_X1_readFeud_14) (fun q4 => ?_) (fun q4 => ?_)
  · refine xa_step (xa_iconst d_X1_readFeud_17 xq_i_0) ?_
    exact xa_zret d_X1_readFeud_18 rfl (Or.inl rfl) rfl
  · refine xa_step (xa_aload_n d_X1_readFeud_19 rfl) ?_
    refine xa_callVI (as := []) (st := []) (M' := mX1_knownHolder) (d' := 4) rfl xw_754 xw_756 xw_13 xw_757 xw_168 xh_X1_knownHolder rfl ⟨Nat.le_of_ble_eq_true rfl, Nat.le_of_ble_eq_true rfl⟩ (Nat.le_of_ble_eq_true rfl) rfl d_X1_readFeud_20 (fun r hr => ct_X1_knownHolder l G v0 r3.2 r hr) (fun r5 _ => ?_)
    refine xa_step (xa_istore_n (ls' := [some (xR v0), some (xI r3.1), some (xI r5.1)]) d_X1_readFeud_23 (by decide) rfl) ?_
    refine xa_step (xa_iload_n d_X1_readFeud_24 rfl) ?_
    refine xa_step (xa_iconst d_X1_readFeud_25 xq_i_m1) ?_
    refine xa_if (xa_icmpne d_X1_readFeud_26) (fun q6 => ?_) (fun q6 => ?_)
    · refine xa_step (xa_iconst d_X1_readFeud_29 xq_i_0) ?_
      exact xa_zret d_X1_readFeud_30 rfl (Or.inl rfl) rfl
    · refine xa_step (xa_iload_n d_X1_readFeud_31 rfl) ?_
      refine xa_step (xa_iload_n d_X1_readFeud_32 rfl) ?_
      refine xa_if (xa_icmpeq d_X1_readFeud_33) (fun q7 => ?_) (fun q7 => ?_)
      · exact xa_weak (ls' := [some (xR v0), none, none]) ⟨rfl, trivial⟩ (g_X1_readFeud_J48 l G v0 r5.2)
      · refine xa_step (xa_aload_n d_X1_readFeud_36 rfl) ?_
        refine xa_getf xR xc_1 (by decide) (fun _ => rfl) xw_319 rfl d_X1_readFeud_37 (fun x10 _ => ?_)
        refine xa_step (xa_iload_n d_X1_readFeud_40 rfl) ?_
        refine xa_step (xa_iload_n d_X1_readFeud_41 rfl) ?_
        refine xa_callVi (as := [xI r3.1, xI r5.1]) (st := []) (M' := mX0_areFeuding) (d' := 2) rfl xw_762 xw_763 xw_764 xw_765 xw_169 xh_X0_areFeuding rfl ⟨Nat.le_of_ble_eq_true rfl, Nat.le_of_ble_eq_true rfl⟩ (Nat.le_of_ble_eq_true rfl) rfl d_X1_readFeud_42 (fun r hr => ct_X0_areFeuding l G x10 r3.1 r5.1 r5.2 r hr) (fun r11 _ => ?_)
        refine xa_if (xa_ifeq d_X1_readFeud_45) (fun q12 => ?_) (fun q12 => ?_)
        · refine xa_step (xa_aload_n d_X1_readFeud_53 rfl) ?_
          refine xa_getf xR xc_1 (by decide) (fun _ => rfl) xw_319 rfl d_X1_readFeud_54 (fun x13 _ => ?_)
          refine xa_step (xa_iload_n d_X1_readFeud_57 rfl) ?_
          refine xa_step (xa_iload_n d_X1_readFeud_58 rfl) ?_
          refine xa_callVV (as := [xI r3.1, xI r5.1]) (st := []) (M' := mX0_addFeud) (d' := 2) rfl xw_766 xw_767 xw_768 xw_769 xw_169 xh_X0_addFeud rfl ⟨Nat.le_of_ble_eq_true rfl, Nat.le_of_ble_eq_true rfl⟩ (Nat.le_of_ble_eq_true rfl) rfl d_X1_readFeud_59 (fun r hr => ct_X0_addFeud l G x13 r3.1 r5.1 r5.2 r hr) (fun r14 _ => ?_)
          refine xa_step (xa_iconst d_X1_readFeud_62 xq_i_1) ?_
          exact xa_zret d_X1_readFeud_63 rfl (Or.inr rfl) rfl
        · exact xa_weak (ls' := [some (xR v0), none, none]) ⟨rfl, trivial⟩ (g_X1_readFeud_J48 l G v0 r5.2)
theorem ct_X1_readFeud (l : Launch) (G : xa_C) (v0 : Int) (h : xa_H) (r : Int × xa_H) (hr : f_X1_readFeud v0 h = some r) : xa_CT l G 5 mX1_readFeud yX1_readFeud [xR v0] h (some (xI r.1), r.2) :=
  xa_met (by decide +kernel) rfl (fun q => by first | rfl | cases q) (Nat.le_of_ble_eq_true rfl) rfl (g_X1_readFeud l G v0 h) (by rw [hr]; rfl)
abbrev mX1_readFog : xa_M := (cX1_readFog, 2, (some (.boolean)), RX1, false)
theorem d_X1_readFog_0 : decode mX1_readFog.1 0 = .ok (.aload_n 0, 1) ∧ 0 + 1 = 1 := ⟨by decide +kernel, rfl⟩
theorem d_X1_readFog_1 : decode mX1_readFog.1 1 = .ok (.getfield 15, 3) ∧ 1 + 3 = 4 := ⟨by decide +kernel, rfl⟩
theorem d_X1_readFog_4 : decode mX1_readFog.1 4 = .ok (.invokevirtual 106, 3) ∧ 4 + 3 = 7 := ⟨by decide +kernel, rfl⟩
theorem d_X1_readFog_7 : decode mX1_readFog.1 7 = .ok (.aload_n 0, 1) ∧ 7 + 1 = 8 := ⟨by decide +kernel, rfl⟩
theorem d_X1_readFog_8 : decode mX1_readFog.1 8 = .ok (.getfield 15, 3) ∧ 8 + 3 = 11 := ⟨by decide +kernel, rfl⟩
theorem d_X1_readFog_11 : decode mX1_readFog.1 11 = .ok (.bipush 100, 2) ∧ 11 + 2 = 13 := ⟨by decide +kernel, rfl⟩
theorem d_X1_readFog_13 : decode mX1_readFog.1 13 = .ok (.invokevirtual 117, 3) ∧ 13 + 3 = 16 := ⟨by decide +kernel, rfl⟩
theorem d_X1_readFog_16 : decode mX1_readFog.1 16 = .ok (.istore_n 1, 1) ∧ 16 + 1 = 17 := ⟨by decide +kernel, rfl⟩
theorem d_X1_readFog_17 : decode mX1_readFog.1 17 = .ok (.iload_n 1, 1) ∧ 17 + 1 = 18 := ⟨by decide +kernel, rfl⟩
theorem d_X1_readFog_18 : decode mX1_readFog.1 18 = .ok (.iconst (-1), 1) ∧ 18 + 1 = 19 := ⟨by decide +kernel, rfl⟩
theorem d_X1_readFog_19 : decode mX1_readFog.1 19 = .ok (.if_icmp .ne 5, 3) ∧ 19 + 3 = 22 ∧ ((19 : Nat) : Int) + 5 = ((24 : Nat) : Int) := ⟨by decide +kernel, rfl, rfl⟩
theorem d_X1_readFog_22 : decode mX1_readFog.1 22 = .ok (.iconst 0, 1) ∧ 22 + 1 = 23 := ⟨by decide +kernel, rfl⟩
theorem d_X1_readFog_23 : decode mX1_readFog.1 23 = .ok (.ireturn, 1) := by decide +kernel
theorem d_X1_readFog_24 : decode mX1_readFog.1 24 = .ok (.aload_n 0, 1) ∧ 24 + 1 = 25 := ⟨by decide +kernel, rfl⟩
theorem d_X1_readFog_25 : decode mX1_readFog.1 25 = .ok (.getfield 9, 3) ∧ 25 + 3 = 28 := ⟨by decide +kernel, rfl⟩
theorem d_X1_readFog_28 : decode mX1_readFog.1 28 = .ok (.iload_n 1, 1) ∧ 28 + 1 = 29 := ⟨by decide +kernel, rfl⟩
theorem d_X1_readFog_29 : decode mX1_readFog.1 29 = .ok (.putfield 160, 3) ∧ 29 + 3 = 32 := ⟨by decide +kernel, rfl⟩
theorem d_X1_readFog_32 : decode mX1_readFog.1 32 = .ok (.iconst 1, 1) ∧ 32 + 1 = 33 := ⟨by decide +kernel, rfl⟩
theorem d_X1_readFog_33 : decode mX1_readFog.1 33 = .ok (.ireturn, 1) := by decide +kernel
set_option maxRecDepth 100000 in
set_option maxHeartbeats 4000000 in
theorem g_X1_readFog (l : Launch) (G : xa_C) (v0 : Int) (h : xa_H) : xa_G l G 4 mX1_readFog (f_X1_readFog v0 h) (fun r => some (some (xI r.1), r.2) : (Int × xa_H) → Option xa_O) 0 [some (xR v0), none] [] h := by
  unfold f_X1_readFog
  refine xa_step (xa_aload_n d_X1_readFog_0 rfl) ?_
  refine xa_getf xR xc_1 (by decide) (fun _ => rfl) xw_317 rfl d_X1_readFog_1 (fun x1 _ => ?_)
  refine xa_callVV (as := []) (st := []) (M' := mX6_step) (d' := 2) rfl xw_696 xw_677 xw_678 xw_679 xw_162 xh_X6_step rfl ⟨Nat.le_of_ble_eq_true rfl, Nat.le_of_ble_eq_true rfl⟩ (Nat.le_of_ble_eq_true rfl) rfl d_X1_readFog_4 (fun r hr => ct_X6_step l G x1 h r hr) (fun r2 _ => ?_)
  refine xa_step (xa_aload_n d_X1_readFog_7 rfl) ?_
  refine xa_getf xR xc_1 (by decide) (fun _ => rfl) xw_317 rfl d_X1_readFog_8 (fun x3 _ => ?_)
  refine xa_step (xa_bipush d_X1_readFog_11 xq_b_100) ?_
  refine xa_callVI (as := [xI 100]) (st := []) (M' := mX6_needNumber) (d' := 3) rfl xw_726 xw_727 xw_728 xw_729 xw_162 xh_X6_needNumber rfl ⟨Nat.le_of_ble_eq_true rfl, Nat.le_of_ble_eq_true rfl⟩ (Nat.le_of_ble_eq_true rfl) rfl d_X1_readFog_13 (fun r hr => ct_X6_needNumber l G x3 100 r2 r hr) (fun r4 _ => ?_)
  refine xa_step (xa_istore_n (ls' := [some (xR v0), some (xI r4.1)]) d_X1_readFog_16 (by decide) rfl) ?_
  refine xa_step (xa_iload_n d_X1_readFog_17 rfl) ?_
  refine xa_step (xa_iconst d_X1_readFog_18 xq_i_m1) ?_
  refine xa_if (xa_icmpne d_X1_readFog_19) (fun q5 => ?_) (fun q5 => ?_)
  · refine xa_step (xa_iconst d_X1_readFog_22 xq_i_0) ?_
    exact xa_zret d_X1_readFog_23 rfl (Or.inl rfl) rfl
  · refine xa_step (xa_aload_n d_X1_readFog_24 rfl) ?_
    refine xa_getf xR xc_1 (by decide) (fun _ => rfl) xw_319 rfl d_X1_readFog_25 (fun x6 _ => ?_)
    refine xa_step (xa_iload_n d_X1_readFog_28 rfl) ?_
    refine xa_putf2 (tg := xI) xc_0 (by decide) (fun _ => rfl) rfl (fun c hc => xa_fitI c hc) xw_397 rfl d_X1_readFog_29 (fun h7 _ => ?_)
    refine xa_step (xa_iconst d_X1_readFog_32 xq_i_1) ?_
    exact xa_zret d_X1_readFog_33 rfl (Or.inr rfl) rfl
theorem ct_X1_readFog (l : Launch) (G : xa_C) (v0 : Int) (h : xa_H) (r : Int × xa_H) (hr : f_X1_readFog v0 h = some r) : xa_CT l G 4 mX1_readFog yX1_readFog [xR v0] h (some (xI r.1), r.2) :=
  xa_met (by decide +kernel) rfl (fun q => by first | rfl | cases q) (Nat.le_of_ble_eq_true rfl) rfl (g_X1_readFog l G v0 h) (by rw [hr]; rfl)
abbrev mX0_addHeld : xa_M := (cX0_addHeld, 3, none, RX0, false)
theorem d_X0_addHeld_0 : decode mX0_addHeld.1 0 = .ok (.aload_n 0, 1) ∧ 0 + 1 = 1 := ⟨by decide +kernel, rfl⟩
theorem d_X0_addHeld_1 : decode mX0_addHeld.1 1 = .ok (.getfield 15, 3) ∧ 1 + 3 = 4 := ⟨by decide +kernel, rfl⟩
theorem d_X0_addHeld_4 : decode mX0_addHeld.1 4 = .ok (.bipush 6, 2) ∧ 4 + 2 = 6 := ⟨by decide +kernel, rfl⟩
theorem d_X0_addHeld_6 : decode mX0_addHeld.1 6 = .ok (.if_icmp .ge 33, 3) ∧ 6 + 3 = 9 ∧ ((6 : Nat) : Int) + 33 = ((39 : Nat) : Int) := ⟨by decide +kernel, rfl, rfl⟩
theorem d_X0_addHeld_9 : decode mX0_addHeld.1 9 = .ok (.aload_n 0, 1) ∧ 9 + 1 = 10 := ⟨by decide +kernel, rfl⟩
theorem d_X0_addHeld_10 : decode mX0_addHeld.1 10 = .ok (.getfield 27, 3) ∧ 10 + 3 = 13 := ⟨by decide +kernel, rfl⟩
theorem d_X0_addHeld_13 : decode mX0_addHeld.1 13 = .ok (.aload_n 0, 1) ∧ 13 + 1 = 14 := ⟨by decide +kernel, rfl⟩
theorem d_X0_addHeld_14 : decode mX0_addHeld.1 14 = .ok (.getfield 15, 3) ∧ 14 + 3 = 17 := ⟨by decide +kernel, rfl⟩
theorem d_X0_addHeld_17 : decode mX0_addHeld.1 17 = .ok (.iload_n 1, 1) ∧ 17 + 1 = 18 := ⟨by decide +kernel, rfl⟩
theorem d_X0_addHeld_18 : decode mX0_addHeld.1 18 = .ok (.iastore, 1) ∧ 18 + 1 = 19 := ⟨by decide +kernel, rfl⟩
theorem d_X0_addHeld_19 : decode mX0_addHeld.1 19 = .ok (.aload_n 0, 1) ∧ 19 + 1 = 20 := ⟨by decide +kernel, rfl⟩
theorem d_X0_addHeld_20 : decode mX0_addHeld.1 20 = .ok (.getfield 34, 3) ∧ 20 + 3 = 23 := ⟨by decide +kernel, rfl⟩
theorem d_X0_addHeld_23 : decode mX0_addHeld.1 23 = .ok (.aload_n 0, 1) ∧ 23 + 1 = 24 := ⟨by decide +kernel, rfl⟩
theorem d_X0_addHeld_24 : decode mX0_addHeld.1 24 = .ok (.getfield 15, 3) ∧ 24 + 3 = 27 := ⟨by decide +kernel, rfl⟩
theorem d_X0_addHeld_27 : decode mX0_addHeld.1 27 = .ok (.iload_n 2, 1) ∧ 27 + 1 = 28 := ⟨by decide +kernel, rfl⟩
theorem d_X0_addHeld_28 : decode mX0_addHeld.1 28 = .ok (.iastore, 1) ∧ 28 + 1 = 29 := ⟨by decide +kernel, rfl⟩
theorem d_X0_addHeld_29 : decode mX0_addHeld.1 29 = .ok (.aload_n 0, 1) ∧ 29 + 1 = 30 := ⟨by decide +kernel, rfl⟩
theorem d_X0_addHeld_30 : decode mX0_addHeld.1 30 = .ok (.dup, 1) ∧ 30 + 1 = 31 := ⟨by decide +kernel, rfl⟩
theorem d_X0_addHeld_31 : decode mX0_addHeld.1 31 = .ok (.getfield 15, 3) ∧ 31 + 3 = 34 := ⟨by decide +kernel, rfl⟩
theorem d_X0_addHeld_34 : decode mX0_addHeld.1 34 = .ok (.iconst 1, 1) ∧ 34 + 1 = 35 := ⟨by decide +kernel, rfl⟩
theorem d_X0_addHeld_35 : decode mX0_addHeld.1 35 = .ok (.iadd, 1) ∧ 35 + 1 = 36 := ⟨by decide +kernel, rfl⟩
theorem d_X0_addHeld_36 : decode mX0_addHeld.1 36 = .ok (.putfield 15, 3) ∧ 36 + 3 = 39 := ⟨by decide +kernel, rfl⟩
theorem d_X0_addHeld_39 : decode mX0_addHeld.1 39 = .ok (.return_, 1) := by decide +kernel
set_option maxRecDepth 100000 in
set_option maxHeartbeats 4000000 in
theorem g_X0_addHeld (l : Launch) (G : xa_C) (v0 v1 v2 : Int) (h : xa_H) : xa_G l G 2 mX0_addHeld (f_X0_addHeld v0 v1 v2 h) (fun r => some (none, r) : xa_H → Option xa_O) 0 [some (xR v0), some (xI v1), some (xI v2)] [] h := by
  unfold f_X0_addHeld
  refine xa_step (xa_aload_n d_X0_addHeld_0 rfl) ?_
  refine xa_getf xI xc_0 (by decide) (fun _ => rfl) xw_383 rfl d_X0_addHeld_1 (fun x1 _ => ?_)
  refine xa_step (xa_bipush d_X0_addHeld_4 xq_b_6) ?_
  refine xa_if (xa_icmpge d_X0_addHeld_6) (fun q2 => ?_) (fun q2 => ?_)
  · refine xa_step (xa_aload_n d_X0_addHeld_9 rfl) ?_
    refine xa_getf xR xc_0 (by decide) (fun _ => rfl) xw_398 rfl d_X0_addHeld_10 (fun x3 _ => ?_)
    refine xa_step (xa_aload_n d_X0_addHeld_13 rfl) ?_
    refine xa_getf xI xc_0 (by decide) (fun _ => rfl) xw_383 rfl d_X0_addHeld_14 (fun x4 _ => ?_)
    refine xa_step (xa_iload_n d_X0_addHeld_17 rfl) ?_
    refine xa_iastore2 d_X0_addHeld_18 (fun h5 _ => ?_)
    refine xa_step (xa_aload_n d_X0_addHeld_19 rfl) ?_
    refine xa_getf xR xc_0 (by decide) (fun _ => rfl) xw_402 rfl d_X0_addHeld_20 (fun x6 _ => ?_)
    refine xa_step (xa_aload_n d_X0_addHeld_23 rfl) ?_
    refine xa_getf xI xc_0 (by decide) (fun _ => rfl) xw_383 rfl d_X0_addHeld_24 (fun x7 _ => ?_)
    refine xa_step (xa_iload_n d_X0_addHeld_27 rfl) ?_
    refine xa_iastore2 d_X0_addHeld_28 (fun h8 _ => ?_)
    refine xa_step (xa_aload_n d_X0_addHeld_29 rfl) ?_
    refine xa_step (xa_dup d_X0_addHeld_30 (xa_tR _)) ?_
    refine xa_getf xI xc_0 (by decide) (fun _ => rfl) xw_383 rfl d_X0_addHeld_31 (fun x9 _ => ?_)
    refine xa_step (xa_iconst d_X0_addHeld_34 xq_i_1) ?_
    refine xa_step (xa_iadd d_X0_addHeld_35) ?_
    refine xa_putf2 (tg := xI) xc_0 (by decide) (fun _ => rfl) rfl (fun c hc => xa_fitI c hc) xw_383 rfl d_X0_addHeld_36 (fun h10 _ => ?_)
    exact xa_vret d_X0_addHeld_39 rfl rfl
  · exact xa_vret d_X0_addHeld_39 rfl rfl
theorem ct_X0_addHeld (l : Launch) (G : xa_C) (v0 v1 v2 : Int) (h : xa_H) (r : xa_H) (hr : f_X0_addHeld v0 v1 v2 h = some r) : xa_CT l G 2 mX0_addHeld yX0_addHeld [xR v0, xI v1, xI v2] h (none, r) :=
  xa_met (by decide +kernel) rfl (fun q => by first | rfl | cases q) (Nat.le_of_ble_eq_true rfl) rfl (g_X0_addHeld l G v0 v1 v2 h) (by rw [hr]; rfl)
abbrev mX0_heldNamed : xa_M := (cX0_heldNamed, 3, (some (.int)), RX0, false)
theorem d_X0_heldNamed_0 : decode mX0_heldNamed.1 0 = .ok (.iconst 0, 1) ∧ 0 + 1 = 1 := ⟨by decide +kernel, rfl⟩
theorem d_X0_heldNamed_1 : decode mX0_heldNamed.1 1 = .ok (.istore_n 2, 1) ∧ 1 + 1 = 2 := ⟨by decide +kernel, rfl⟩
theorem d_X0_heldNamed_2 : decode mX0_heldNamed.1 2 = .ok (.iload_n 2, 1) ∧ 2 + 1 = 3 := ⟨by decide +kernel, rfl⟩
theorem d_X0_heldNamed_3 : decode mX0_heldNamed.1 3 = .ok (.aload_n 0, 1) ∧ 3 + 1 = 4 := ⟨by decide +kernel, rfl⟩
theorem d_X0_heldNamed_4 : decode mX0_heldNamed.1 4 = .ok (.getfield 15, 3) ∧ 4 + 3 = 7 := ⟨by decide +kernel, rfl⟩
theorem d_X0_heldNamed_7 : decode mX0_heldNamed.1 7 = .ok (.if_icmp .ge 21, 3) ∧ 7 + 3 = 10 ∧ ((7 : Nat) : Int) + 21 = ((28 : Nat) : Int) := ⟨by decide +kernel, rfl, rfl⟩
theorem d_X0_heldNamed_10 : decode mX0_heldNamed.1 10 = .ok (.aload_n 0, 1) ∧ 10 + 1 = 11 := ⟨by decide +kernel, rfl⟩
theorem d_X0_heldNamed_11 : decode mX0_heldNamed.1 11 = .ok (.getfield 27, 3) ∧ 11 + 3 = 14 := ⟨by decide +kernel, rfl⟩
theorem d_X0_heldNamed_14 : decode mX0_heldNamed.1 14 = .ok (.iload_n 2, 1) ∧ 14 + 1 = 15 := ⟨by decide +kernel, rfl⟩
theorem d_X0_heldNamed_15 : decode mX0_heldNamed.1 15 = .ok (.iaload, 1) ∧ 15 + 1 = 16 := ⟨by decide +kernel, rfl⟩
theorem d_X0_heldNamed_16 : decode mX0_heldNamed.1 16 = .ok (.iload_n 1, 1) ∧ 16 + 1 = 17 := ⟨by decide +kernel, rfl⟩
theorem d_X0_heldNamed_17 : decode mX0_heldNamed.1 17 = .ok (.if_icmp .ne 5, 3) ∧ 17 + 3 = 20 ∧ ((17 : Nat) : Int) + 5 = ((22 : Nat) : Int) := ⟨by decide +kernel, rfl, rfl⟩
theorem d_X0_heldNamed_20 : decode mX0_heldNamed.1 20 = .ok (.iload_n 2, 1) ∧ 20 + 1 = 21 := ⟨by decide +kernel, rfl⟩
theorem d_X0_heldNamed_21 : decode mX0_heldNamed.1 21 = .ok (.ireturn, 1) := by decide +kernel
theorem d_X0_heldNamed_22 : decode mX0_heldNamed.1 22 = .ok (.iinc 2 1, 3) ∧ 22 + 3 = 25 := ⟨by decide +kernel, rfl⟩
theorem d_X0_heldNamed_25 : decode mX0_heldNamed.1 25 = .ok (.goto (-23), 3) ∧ ((25 : Nat) : Int) + (-23) = ((2 : Nat) : Int) := ⟨by decide +kernel, rfl⟩
set_option maxRecDepth 100000 in
set_option maxHeartbeats 4000000 in
theorem g_X0_heldNamed_L2 (l : Launch) (G : xa_C) (c0 c1 : Int) (h : xa_H) (K : (Int) ⊕ ((Int) ⊕ (Unit)) → Option xa_O) (hb : ∀ (v2 : Int), xa_G l G 2 mX0_heldNamed (some (Sum.inl v2)) K 2 [some (xR c0), some (xI c1), some (xI v2)] [] h) (hr : ∀ r : Int, K (Sum.inr (Sum.inl r)) = some (some (xI r), h)) (hx : xa_G l G 2 mX0_heldNamed (some (Sum.inr (Sum.inr (())))) K 28 [none, none, none] [] h) : ∀ (v2 : Int), xa_G l G 2 mX0_heldNamed (f_X0_heldNamed_L2 c0 c1 h v2) K 2 [some (xR c0), some (xI c1), some (xI v2)] [] h := by
  intro v2
  unfold f_X0_heldNamed_L2
  refine xa_step (xa_iload_n d_X0_heldNamed_2 rfl) ?_
  refine xa_step (xa_aload_n d_X0_heldNamed_3 rfl) ?_
  refine xa_getf xI xc_0 (by decide) (fun _ => rfl) xw_383 rfl d_X0_heldNamed_4 (fun x1 _ => ?_)
  refine xa_if (xa_icmpge d_X0_heldNamed_7) (fun q2 => ?_) (fun q2 => ?_)
  · refine xa_step (xa_aload_n d_X0_heldNamed_10 rfl) ?_
    refine xa_getf xR xc_0 (by decide) (fun _ => rfl) xw_398 rfl d_X0_heldNamed_11 (fun x3 _ => ?_)
    refine xa_step (xa_iload_n d_X0_heldNamed_14 rfl) ?_
    refine xa_iaload d_X0_heldNamed_15 (fun x4 _ => ?_)
    refine xa_step (xa_iload_n d_X0_heldNamed_16 rfl) ?_
    refine xa_if (xa_icmpne d_X0_heldNamed_17) (fun q5 => ?_) (fun q5 => ?_)
    · refine xa_step (xa_iload_n d_X0_heldNamed_20 rfl) ?_
      exact xa_iret d_X0_heldNamed_21 rfl (hr _)
    · refine xa_step (xa_iinc (ls' := [some (xR c0), some (xI c1), some (xI (w32 (v2 + 1)))]) d_X0_heldNamed_22 xq_i_1 rfl (by decide) rfl) ?_
      refine xa_step (xa_goto d_X0_heldNamed_25) ?_
      exact xa_weak (ls' := [some (xR c0), some (xI c1), some (xI (w32 (v2 + 1)))]) ⟨rfl, rfl, rfl, trivial⟩ (hb (w32 (v2 + 1)))
  · exact xa_weak (ls' := [none, none, none]) trivial (hx )
theorem d_X0_heldNamed_28 : decode mX0_heldNamed.1 28 = .ok (.iconst (-1), 1) ∧ 28 + 1 = 29 := ⟨by decide +kernel, rfl⟩
theorem d_X0_heldNamed_29 : decode mX0_heldNamed.1 29 = .ok (.ireturn, 1) := by decide +kernel
set_option maxRecDepth 100000 in
set_option maxHeartbeats 4000000 in
theorem g_X0_heldNamed (l : Launch) (G : xa_C) (v0 v1 : Int) (h : xa_H) : xa_G l G 2 mX0_heldNamed (f_X0_heldNamed v0 v1 h) (fun r => some (some (xI r), h) : Int → Option xa_O) 0 [some (xR v0), some (xI v1), none] [] h := by
  unfold f_X0_heldNamed
  refine xa_step (xa_iconst d_X0_heldNamed_0 xq_i_0) ?_
  refine xa_step (xa_istore_n (ls' := [some (xR v0), some (xI v1), some (xI 0)]) d_X0_heldNamed_1 (by decide) rfl) ?_
  refine xa_weak (ls' := [some (xR v0), some (xI v1), some (xI 0)]) ⟨rfl, rfl, rfl, trivial⟩ ?_
  refine xa_loop (f := fun s => f_X0_heldNamed_L2 v0 v1 h s) (L := fun s => [some (xR v0), some (xI v1), some (xI s)]) (P := fun s => h) (X := (fun e K => match e with | Sum.inl r => K (Sum.inr (Sum.inl r)) = some (some (xI r), h) | Sum.inr x => xa_G l G 2 mX0_heldNamed (some (Sum.inr (Sum.inr x))) K 28 [none, none, none] [] h)) (fun K hb hX s => g_X0_heldNamed_L2 l G v0 v1 h K (fun w0 => hb w0) (fun r => hX (Sum.inl r)) (hX (Sum.inr ())) s) ?_ xFU 0
  rintro (r | y7) K hK
  · exact hK.trans rfl
  · refine xa_eqE hK ?_
    show xa_G l G 2 mX0_heldNamed _ _ 28 [none, none, none] [] h
    refine xa_step (xa_iconst d_X0_heldNamed_28 xq_i_m1) ?_
    exact xa_iret d_X0_heldNamed_29 rfl rfl
theorem ct_X0_heldNamed (l : Launch) (G : xa_C) (v0 v1 : Int) (h : xa_H) (r : Int) (hr : f_X0_heldNamed v0 v1 h = some r) : xa_CT l G 2 mX0_heldNamed yX0_heldNamed [xR v0, xI v1] h (some (xI r), h) :=
  xa_met (by decide +kernel) rfl (fun q => by first | rfl | cases q) (Nat.le_of_ble_eq_true rfl) rfl (g_X0_heldNamed l G v0 v1 h) (by rw [hr]; rfl)
abbrev mX1_newName : xa_M := (cX1_newName, 2, (some (.int)), RX1, false)
theorem d_X1_newName_0 : decode mX1_newName.1 0 = .ok (.aload_n 0, 1) ∧ 0 + 1 = 1 := ⟨by decide +kernel, rfl⟩
theorem d_X1_newName_1 : decode mX1_newName.1 1 = .ok (.getfield 15, 3) ∧ 1 + 3 = 4 := ⟨by decide +kernel, rfl⟩
theorem d_X1_newName_4 : decode mX1_newName.1 4 = .ok (.invokevirtual 166, 3) ∧ 4 + 3 = 7 := ⟨by decide +kernel, rfl⟩
theorem d_X1_newName_7 : decode mX1_newName.1 7 = .ok (.istore_n 1, 1) ∧ 7 + 1 = 8 := ⟨by decide +kernel, rfl⟩
theorem d_X1_newName_8 : decode mX1_newName.1 8 = .ok (.iload_n 1, 1) ∧ 8 + 1 = 9 := ⟨by decide +kernel, rfl⟩
theorem d_X1_newName_9 : decode mX1_newName.1 9 = .ok (.iconst (-1), 1) ∧ 9 + 1 = 10 := ⟨by decide +kernel, rfl⟩
theorem d_X1_newName_10 : decode mX1_newName.1 10 = .ok (.if_icmp .ne 5, 3) ∧ 10 + 3 = 13 ∧ ((10 : Nat) : Int) + 5 = ((15 : Nat) : Int) := ⟨by decide +kernel, rfl, rfl⟩
theorem d_X1_newName_13 : decode mX1_newName.1 13 = .ok (.iconst (-1), 1) ∧ 13 + 1 = 14 := ⟨by decide +kernel, rfl⟩
theorem d_X1_newName_14 : decode mX1_newName.1 14 = .ok (.ireturn, 1) := by decide +kernel
theorem d_X1_newName_15 : decode mX1_newName.1 15 = .ok (.aload_n 0, 1) ∧ 15 + 1 = 16 := ⟨by decide +kernel, rfl⟩
theorem d_X1_newName_16 : decode mX1_newName.1 16 = .ok (.getfield 9, 3) ∧ 16 + 3 = 19 := ⟨by decide +kernel, rfl⟩
theorem d_X1_newName_19 : decode mX1_newName.1 19 = .ok (.iload_n 1, 1) ∧ 19 + 1 = 20 := ⟨by decide +kernel, rfl⟩
theorem d_X1_newName_20 : decode mX1_newName.1 20 = .ok (.invokevirtual 169, 3) ∧ 20 + 3 = 23 := ⟨by decide +kernel, rfl⟩
theorem d_X1_newName_23 : decode mX1_newName.1 23 = .ok (.iconst (-1), 1) ∧ 23 + 1 = 24 := ⟨by decide +kernel, rfl⟩
theorem d_X1_newName_24 : decode mX1_newName.1 24 = .ok (.if_icmp .ne 15, 3) ∧ 24 + 3 = 27 ∧ ((24 : Nat) : Int) + 15 = ((39 : Nat) : Int) := ⟨by decide +kernel, rfl, rfl⟩
theorem d_X1_newName_27 : decode mX1_newName.1 27 = .ok (.aload_n 0, 1) ∧ 27 + 1 = 28 := ⟨by decide +kernel, rfl⟩
theorem d_X1_newName_28 : decode mX1_newName.1 28 = .ok (.getfield 9, 3) ∧ 28 + 3 = 31 := ⟨by decide +kernel, rfl⟩
theorem d_X1_newName_31 : decode mX1_newName.1 31 = .ok (.iload_n 1, 1) ∧ 31 + 1 = 32 := ⟨by decide +kernel, rfl⟩
theorem d_X1_newName_32 : decode mX1_newName.1 32 = .ok (.invokevirtual 172, 3) ∧ 32 + 3 = 35 := ⟨by decide +kernel, rfl⟩
theorem d_X1_newName_35 : decode mX1_newName.1 35 = .ok (.iconst (-1), 1) ∧ 35 + 1 = 36 := ⟨by decide +kernel, rfl⟩
theorem d_X1_newName_36 : decode mX1_newName.1 36 = .ok (.if_icmp .eq 10, 3) ∧ 36 + 3 = 39 ∧ ((36 : Nat) : Int) + 10 = ((46 : Nat) : Int) := ⟨by decide +kernel, rfl, rfl⟩
theorem d_X1_newName_46 : decode mX1_newName.1 46 = .ok (.iload_n 1, 1) ∧ 46 + 1 = 47 := ⟨by decide +kernel, rfl⟩
theorem d_X1_newName_47 : decode mX1_newName.1 47 = .ok (.ireturn, 1) := by decide +kernel
theorem d_X1_newName_39 : decode mX1_newName.1 39 = .ok (.aload_n 0, 1) ∧ 39 + 1 = 40 := ⟨by decide +kernel, rfl⟩
theorem d_X1_newName_40 : decode mX1_newName.1 40 = .ok (.invokevirtual 137, 3) ∧ 40 + 3 = 43 := ⟨by decide +kernel, rfl⟩
theorem d_X1_newName_43 : decode mX1_newName.1 43 = .ok (.pop, 1) ∧ 43 + 1 = 44 := ⟨by decide +kernel, rfl⟩
theorem d_X1_newName_44 : decode mX1_newName.1 44 = .ok (.iconst (-1), 1) ∧ 44 + 1 = 45 := ⟨by decide +kernel, rfl⟩
theorem d_X1_newName_45 : decode mX1_newName.1 45 = .ok (.ireturn, 1) := by decide +kernel
set_option maxRecDepth 100000 in
set_option maxHeartbeats 4000000 in
theorem g_X1_newName_J39 (l : Launch) (G : xa_C) : ∀ (v0 : Int) (h : xa_H) , xa_G l G 4 mX1_newName (f_X1_newName_J39 v0 h) (fun r => some (some (xI r.1), r.2) : (Int × xa_H) → Option xa_O) 39 [some (xR v0), none] [] h := by
  intro v0 h
  unfold f_X1_newName_J39
  refine xa_step (xa_aload_n d_X1_newName_39 rfl) ?_
  refine xa_callVI (as := []) (st := []) (M' := mX1_badName) (d' := 3) rfl xw_718 xw_720 xw_9 xw_721 xw_168 xh_X1_badName rfl ⟨Nat.le_of_ble_eq_true rfl, Nat.le_of_ble_eq_true rfl⟩ (Nat.le_of_ble_eq_true rfl) rfl d_X1_newName_40 (fun r hr => ct_X1_badName l G v0 h r hr) (fun r10 _ => ?_)
  refine xa_step (xa_pop d_X1_newName_43) ?_
  refine xa_step (xa_iconst d_X1_newName_44 xq_i_m1) ?_
  exact xa_iret d_X1_newName_45 rfl rfl
set_option maxRecDepth 100000 in
set_option maxHeartbeats 4000000 in
theorem g_X1_newName (l : Launch) (G : xa_C) (v0 : Int) (h : xa_H) : xa_G l G 4 mX1_newName (f_X1_newName v0 h) (fun r => some (some (xI r.1), r.2) : (Int × xa_H) → Option xa_O) 0 [some (xR v0), none] [] h := by
  unfold f_X1_newName
  refine xa_step (xa_aload_n d_X1_newName_0 rfl) ?_
  refine xa_getf xR xc_1 (by decide) (fun _ => rfl) xw_317 rfl d_X1_newName_1 (fun x1 _ => ?_)
  refine xa_callVI (as := []) (st := []) (M' := mX6_needName) (d' := 3) rfl xw_701 xw_702 xw_703 xw_704 xw_162 xh_X6_needName rfl ⟨Nat.le_of_ble_eq_true rfl, Nat.le_of_ble_eq_true rfl⟩ (Nat.le_of_ble_eq_true rfl) rfl d_X1_newName_4 (fun r hr => ct_X6_needName l G x1 h r hr) (fun r2 _ => ?_)
  refine xa_step (xa_istore_n (ls' := [some (xR v0), some (xI r2.1)]) d_X1_newName_7 (by decide) rfl) ?_
  refine xa_step (xa_iload_n d_X1_newName_8 rfl) ?_
  refine xa_step (xa_iconst d_X1_newName_9 xq_i_m1) ?_
  refine xa_if (xa_icmpne d_X1_newName_10) (fun q3 => ?_) (fun q3 => ?_)
  · refine xa_step (xa_iconst d_X1_newName_13 xq_i_m1) ?_
    exact xa_iret d_X1_newName_14 rfl rfl
  · refine xa_step (xa_aload_n d_X1_newName_15 rfl) ?_
    refine xa_getf xR xc_1 (by decide) (fun _ => rfl) xw_319 rfl d_X1_newName_16 (fun x4 _ => ?_)
    refine xa_step (xa_iload_n d_X1_newName_19 rfl) ?_
    refine xa_callVi (as := [xI r2.1]) (st := []) (M' := mX0_heldNamed) (d' := 2) rfl xw_710 xw_711 xw_712 xw_713 xw_169 xh_X0_heldNamed rfl ⟨Nat.le_of_ble_eq_true rfl, Nat.le_of_ble_eq_true rfl⟩ (Nat.le_of_ble_eq_true rfl) rfl d_X1_newName_20 (fun r hr => ct_X0_heldNamed l G x4 r2.1 r2.2 r hr) (fun r5 _ => ?_)
    refine xa_step (xa_iconst d_X1_newName_23 xq_i_m1) ?_
    refine xa_if (xa_icmpne d_X1_newName_24) (fun q6 => ?_) (fun q6 => ?_)
    · refine xa_step (xa_aload_n d_X1_newName_27 rfl) ?_
      refine xa_getf xR xc_1 (by decide) (fun _ => rfl) xw_319 rfl d_X1_newName_28 (fun x7 _ => ?_)
      refine xa_step (xa_iload_n d_X1_newName_31 rfl) ?_
      refine xa_callVi (as := [xI r2.1]) (st := []) (M' := mX0_holderNamed) (d' := 2) rfl xw_714 xw_715 xw_716 xw_717 xw_169 xh_X0_holderNamed rfl ⟨Nat.le_of_ble_eq_true rfl, Nat.le_of_ble_eq_true rfl⟩ (Nat.le_of_ble_eq_true rfl) rfl d_X1_newName_32 (fun r hr => ct_X0_holderNamed l G x7 r2.1 r2.2 r hr) (fun r8 _ => ?_)
      refine xa_step (xa_iconst d_X1_newName_35 xq_i_m1) ?_
      refine xa_if (xa_icmpeq d_X1_newName_36) (fun q9 => ?_) (fun q9 => ?_)
      · refine xa_step (xa_iload_n d_X1_newName_46 rfl) ?_
        exact xa_iret d_X1_newName_47 rfl rfl
      · exact xa_weak (ls' := [some (xR v0), none]) ⟨rfl, trivial⟩ (g_X1_newName_J39 l G v0 r2.2)
    · exact xa_weak (ls' := [some (xR v0), none]) ⟨rfl, trivial⟩ (g_X1_newName_J39 l G v0 r2.2)
theorem ct_X1_newName (l : Launch) (G : xa_C) (v0 : Int) (h : xa_H) (r : Int × xa_H) (hr : f_X1_newName v0 h = some r) : xa_CT l G 4 mX1_newName yX1_newName [xR v0] h (some (xI r.1), r.2) :=
  xa_met (by decide +kernel) rfl (fun q => by first | rfl | cases q) (Nat.le_of_ble_eq_true rfl) rfl (g_X1_newName l G v0 h) (by rw [hr]; rfl)
abbrev mX6_needWord : xa_M := (cX6_needWord, 2, (some (.boolean)), RX6, false)
theorem d_X6_needWord_0 : decode mX6_needWord.1 0 = .ok (.aload_n 0, 1) ∧ 0 + 1 = 1 := ⟨by decide +kernel, rfl⟩
theorem d_X6_needWord_1 : decode mX6_needWord.1 1 = .ok (.getfield 56, 3) ∧ 1 + 3 = 4 := ⟨by decide +kernel, rfl⟩
theorem d_X6_needWord_4 : decode mX6_needWord.1 4 = .ok (.iload_n 1, 1) ∧ 4 + 1 = 5 := ⟨by decide +kernel, rfl⟩
theorem d_X6_needWord_5 : decode mX6_needWord.1 5 = .ok (.if_icmp .eq 8, 3) ∧ 5 + 3 = 8 ∧ ((5 : Nat) : Int) + 8 = ((13 : Nat) : Int) := ⟨by decide +kernel, rfl, rfl⟩
theorem d_X6_needWord_13 : decode mX6_needWord.1 13 = .ok (.aload_n 0, 1) ∧ 13 + 1 = 14 := ⟨by decide +kernel, rfl⟩
theorem d_X6_needWord_14 : decode mX6_needWord.1 14 = .ok (.invokevirtual 47, 3) ∧ 14 + 3 = 17 := ⟨by decide +kernel, rfl⟩
theorem d_X6_needWord_17 : decode mX6_needWord.1 17 = .ok (.iconst 1, 1) ∧ 17 + 1 = 18 := ⟨by decide +kernel, rfl⟩
theorem d_X6_needWord_18 : decode mX6_needWord.1 18 = .ok (.ireturn, 1) := by decide +kernel
theorem d_X6_needWord_8 : decode mX6_needWord.1 8 = .ok (.aload_n 0, 1) ∧ 8 + 1 = 9 := ⟨by decide +kernel, rfl⟩
theorem d_X6_needWord_9 : decode mX6_needWord.1 9 = .ok (.invokevirtual 59, 3) ∧ 9 + 3 = 12 := ⟨by decide +kernel, rfl⟩
theorem d_X6_needWord_12 : decode mX6_needWord.1 12 = .ok (.ireturn, 1) := by decide +kernel
set_option maxRecDepth 100000 in
set_option maxHeartbeats 4000000 in
theorem g_X6_needWord (l : Launch) (G : xa_C) (v0 v1 : Int) (h : xa_H) : xa_G l G 3 mX6_needWord (f_X6_needWord v0 v1 h) (fun r => some (some (xI r.1), r.2) : (Int × xa_H) → Option xa_O) 0 [some (xR v0), some (xI v1)] [] h := by
  unfold f_X6_needWord
  refine xa_step (xa_aload_n d_X6_needWord_0 rfl) ?_
  refine xa_getf xI xc_6 (by decide) (fun _ => rfl) xw_258 rfl d_X6_needWord_1 (fun x1 _ => ?_)
  refine xa_step (xa_iload_n d_X6_needWord_4 rfl) ?_
  refine xa_if (xa_icmpeq d_X6_needWord_5) (fun q2 => ?_) (fun q2 => ?_)
  · refine xa_step (xa_aload_n d_X6_needWord_13 rfl) ?_
    refine xa_callVV (as := []) (st := []) (M' := mX6_step) (d' := 2) rfl xw_676 xw_677 xw_678 xw_679 xw_162 xh_X6_step rfl ⟨Nat.le_of_ble_eq_true rfl, Nat.le_of_ble_eq_true rfl⟩ (Nat.le_of_ble_eq_true rfl) rfl d_X6_needWord_14 (fun r hr => ct_X6_step l G v0 h r hr) (fun r3 _ => ?_)
    refine xa_step (xa_iconst d_X6_needWord_17 xq_i_1) ?_
    exact xa_zret d_X6_needWord_18 rfl (Or.inr rfl) rfl
  · refine xa_step (xa_aload_n d_X6_needWord_8 rfl) ?_
    refine xa_callVI (as := []) (st := []) (M' := mX6_stray) (d' := 2) rfl xw_705 xw_706 xw_707 xw_708 xw_162 xh_X6_stray rfl ⟨Nat.le_of_ble_eq_true rfl, Nat.le_of_ble_eq_true rfl⟩ (Nat.le_of_ble_eq_true rfl) rfl d_X6_needWord_9 (fun r hr => ct_X6_stray l G v0 h r hr) (fun r4 _ => ?_)
    refine xa_bo (fun q5 => ?_)
    exact xa_zret d_X6_needWord_12 rfl q5 rfl
theorem ct_X6_needWord (l : Launch) (G : xa_C) (v0 v1 : Int) (h : xa_H) (r : Int × xa_H) (hr : f_X6_needWord v0 v1 h = some r) : xa_CT l G 3 mX6_needWord yX6_needWord [xR v0, xI v1] h (some (xI r.1), r.2) :=
  xa_met (by decide +kernel) rfl (fun q => by first | rfl | cases q) (Nat.le_of_ble_eq_true rfl) rfl (g_X6_needWord l G v0 v1 h) (by rw [hr]; rfl)
abbrev mX1_readHeld : xa_M := (cX1_readHeld, 3, (some (.boolean)), RX1, false)
theorem d_X1_readHeld_0 : decode mX1_readHeld.1 0 = .ok (.aload_n 0, 1) ∧ 0 + 1 = 1 := ⟨by decide +kernel, rfl⟩
theorem d_X1_readHeld_1 : decode mX1_readHeld.1 1 = .ok (.getfield 15, 3) ∧ 1 + 3 = 4 := ⟨by decide +kernel, rfl⟩
theorem d_X1_readHeld_4 : decode mX1_readHeld.1 4 = .ok (.invokevirtual 106, 3) ∧ 4 + 3 = 7 := ⟨by decide +kernel, rfl⟩
theorem d_X1_readHeld_7 : decode mX1_readHeld.1 7 = .ok (.aload_n 0, 1) ∧ 7 + 1 = 8 := ⟨by decide +kernel, rfl⟩
theorem d_X1_readHeld_8 : decode mX1_readHeld.1 8 = .ok (.invokevirtual 109, 3) ∧ 8 + 3 = 11 := ⟨by decide +kernel, rfl⟩
theorem d_X1_readHeld_11 : decode mX1_readHeld.1 11 = .ok (.istore_n 1, 1) ∧ 11 + 1 = 12 := ⟨by decide +kernel, rfl⟩
theorem d_X1_readHeld_12 : decode mX1_readHeld.1 12 = .ok (.iload_n 1, 1) ∧ 12 + 1 = 13 := ⟨by decide +kernel, rfl⟩
theorem d_X1_readHeld_13 : decode mX1_readHeld.1 13 = .ok (.iconst (-1), 1) ∧ 13 + 1 = 14 := ⟨by decide +kernel, rfl⟩
theorem d_X1_readHeld_14 : decode mX1_readHeld.1 14 = .ok (.if_icmp .eq 14, 3) ∧ 14 + 3 = 17 ∧ ((14 : Nat) : Int) + 14 = ((28 : Nat) : Int) := ⟨by decide +kernel, rfl, rfl⟩
theorem d_X1_readHeld_28 : decode mX1_readHeld.1 28 = .ok (.iconst 0, 1) ∧ 28 + 1 = 29 := ⟨by decide +kernel, rfl⟩
theorem d_X1_readHeld_29 : decode mX1_readHeld.1 29 = .ok (.ireturn, 1) := by decide +kernel
theorem d_X1_readHeld_17 : decode mX1_readHeld.1 17 = .ok (.aload_n 0, 1) ∧ 17 + 1 = 18 := ⟨by decide +kernel, rfl⟩
theorem d_X1_readHeld_18 : decode mX1_readHeld.1 18 = .ok (.getfield 15, 3) ∧ 18 + 3 = 21 := ⟨by decide +kernel, rfl⟩
theorem d_X1_readHeld_21 : decode mX1_readHeld.1 21 = .ok (.iconst 1, 1) ∧ 21 + 1 = 22 := ⟨by decide +kernel, rfl⟩
theorem d_X1_readHeld_22 : decode mX1_readHeld.1 22 = .ok (.invokevirtual 113, 3) ∧ 22 + 3 = 25 := ⟨by decide +kernel, rfl⟩
theorem d_X1_readHeld_25 : decode mX1_readHeld.1 25 = .ok (.ifCond .ne 5, 3) ∧ 25 + 3 = 28 ∧ ((25 : Nat) : Int) + 5 = ((30 : Nat) : Int) := ⟨by decide +kernel, rfl, rfl⟩
theorem d_X1_readHeld_30 : decode mX1_readHeld.1 30 = .ok (.aload_n 0, 1) ∧ 30 + 1 = 31 := ⟨by decide +kernel, rfl⟩
theorem d_X1_readHeld_31 : decode mX1_readHeld.1 31 = .ok (.getfield 15, 3) ∧ 31 + 3 = 34 := ⟨by decide +kernel, rfl⟩
theorem d_X1_readHeld_34 : decode mX1_readHeld.1 34 = .ok (.bipush 99, 2) ∧ 34 + 2 = 36 := ⟨by decide +kernel, rfl⟩
theorem d_X1_readHeld_36 : decode mX1_readHeld.1 36 = .ok (.invokevirtual 117, 3) ∧ 36 + 3 = 39 := ⟨by decide +kernel, rfl⟩
theorem d_X1_readHeld_39 : decode mX1_readHeld.1 39 = .ok (.istore_n 2, 1) ∧ 39 + 1 = 40 := ⟨by decide +kernel, rfl⟩
theorem d_X1_readHeld_40 : decode mX1_readHeld.1 40 = .ok (.iload_n 2, 1) ∧ 40 + 1 = 41 := ⟨by decide +kernel, rfl⟩
theorem d_X1_readHeld_41 : decode mX1_readHeld.1 41 = .ok (.iconst (-1), 1) ∧ 41 + 1 = 42 := ⟨by decide +kernel, rfl⟩
theorem d_X1_readHeld_42 : decode mX1_readHeld.1 42 = .ok (.if_icmp .ne 5, 3) ∧ 42 + 3 = 45 ∧ ((42 : Nat) : Int) + 5 = ((47 : Nat) : Int) := ⟨by decide +kernel, rfl, rfl⟩
theorem d_X1_readHeld_45 : decode mX1_readHeld.1 45 = .ok (.iconst 0, 1) ∧ 45 + 1 = 46 := ⟨by decide +kernel, rfl⟩
theorem d_X1_readHeld_46 : decode mX1_readHeld.1 46 = .ok (.ireturn, 1) := by decide +kernel
theorem d_X1_readHeld_47 : decode mX1_readHeld.1 47 = .ok (.aload_n 0, 1) ∧ 47 + 1 = 48 := ⟨by decide +kernel, rfl⟩
theorem d_X1_readHeld_48 : decode mX1_readHeld.1 48 = .ok (.getfield 9, 3) ∧ 48 + 3 = 51 := ⟨by decide +kernel, rfl⟩
theorem d_X1_readHeld_51 : decode mX1_readHeld.1 51 = .ok (.iload_n 1, 1) ∧ 51 + 1 = 52 := ⟨by decide +kernel, rfl⟩
theorem d_X1_readHeld_52 : decode mX1_readHeld.1 52 = .ok (.iload_n 2, 1) ∧ 52 + 1 = 53 := ⟨by decide +kernel, rfl⟩
theorem d_X1_readHeld_53 : decode mX1_readHeld.1 53 = .ok (.invokevirtual 121, 3) ∧ 53 + 3 = 56 := ⟨by decide +kernel, rfl⟩
theorem d_X1_readHeld_56 : decode mX1_readHeld.1 56 = .ok (.iconst 1, 1) ∧ 56 + 1 = 57 := ⟨by decide +kernel, rfl⟩
theorem d_X1_readHeld_57 : decode mX1_readHeld.1 57 = .ok (.ireturn, 1) := by decide +kernel
set_option maxRecDepth 100000 in
set_option maxHeartbeats 4000000 in
theorem g_X1_readHeld (l : Launch) (G : xa_C) (v0 : Int) (h : xa_H) : xa_G l G 5 mX1_readHeld (f_X1_readHeld v0 h) (fun r => some (some (xI r.1), r.2) : (Int × xa_H) → Option xa_O) 0 [some (xR v0), none, none] [] h := by
  unfold f_X1_readHeld
  refine xa_step (xa_aload_n d_X1_readHeld_0 rfl) ?_
  refine xa_getf xR xc_1 (by decide) (fun _ => rfl) xw_317 rfl d_X1_readHeld_1 (fun x1 _ => ?_)
  refine xa_callVV (as := []) (st := []) (M' := mX6_step) (d' := 2) rfl xw_696 xw_677 xw_678 xw_679 xw_162 xh_X6_step rfl ⟨Nat.le_of_ble_eq_true rfl, Nat.le_of_ble_eq_true rfl⟩ (Nat.le_of_ble_eq_true rfl) rfl d_X1_readHeld_4 (fun r hr => ct_X6_step l G x1 h r hr) (fun r2 _ => ?_)
  refine xa_step (xa_aload_n d_X1_readHeld_7 rfl) ?_
  refine xa_callVI (as := []) (st := []) (M' := mX1_newName) (d' := 4) rfl xw_697 xw_699 xw_8 xw_700 xw_168 xh_X1_newName rfl ⟨Nat.le_of_ble_eq_true rfl, Nat.le_of_ble_eq_true rfl⟩ (Nat.le_of_ble_eq_true rfl) rfl d_X1_readHeld_8 (fun r hr => ct_X1_newName l G v0 r2 r hr) (fun r3 _ => ?_)
  refine xa_step (xa_istore_n (ls' := [some (xR v0), some (xI r3.1), none]) d_X1_readHeld_11 (by decide) rfl) ?_
  refine xa_step (xa_iload_n d_X1_readHeld_12 rfl) ?_
  refine xa_step (xa_iconst d_X1_readHeld_13 xq_i_m1) ?_
  refine xa_if (xa_icmpeq d_X1_readHeld_14) (fun q4 => ?_) (fun q4 => ?_)
  · refine xa_step (xa_iconst d_X1_readHeld_28 xq_i_0) ?_
    exact xa_zret d_X1_readHeld_29 rfl (Or.inl rfl) rfl
  · refine xa_step (xa_aload_n d_X1_readHeld_17 rfl) ?_
    refine xa_getf xR xc_1 (by decide) (fun _ => rfl) xw_317 rfl d_X1_readHeld_18 (fun x5 _ => ?_)
    refine xa_step (xa_iconst d_X1_readHeld_21 xq_i_1) ?_
    refine xa_callVI (as := [xI 1]) (st := []) (M' := mX6_needWord) (d' := 3) rfl xw_722 xw_723 xw_724 xw_725 xw_162 xh_X6_needWord rfl ⟨Nat.le_of_ble_eq_true rfl, Nat.le_of_ble_eq_true rfl⟩ (Nat.le_of_ble_eq_true rfl) rfl d_X1_readHeld_22 (fun r hr => ct_X6_needWord l G x5 1 r3.2 r hr) (fun r6 _ => ?_)
    refine xa_if (xa_ifne d_X1_readHeld_25) (fun q7 => ?_) (fun q7 => ?_)
    · refine xa_step (xa_iconst d_X1_readHeld_28 xq_i_0) ?_
      exact xa_zret d_X1_readHeld_29 rfl (Or.inl rfl) rfl
    · refine xa_step (xa_aload_n d_X1_readHeld_30 rfl) ?_
      refine xa_getf xR xc_1 (by decide) (fun _ => rfl) xw_317 rfl d_X1_readHeld_31 (fun x8 _ => ?_)
      refine xa_step (xa_bipush d_X1_readHeld_34 xq_b_99) ?_
      refine xa_callVI (as := [xI 99]) (st := []) (M' := mX6_needNumber) (d' := 3) rfl xw_726 xw_727 xw_728 xw_729 xw_162 xh_X6_needNumber rfl ⟨Nat.le_of_ble_eq_true rfl, Nat.le_of_ble_eq_true rfl⟩ (Nat.le_of_ble_eq_true rfl) rfl d_X1_readHeld_36 (fun r hr => ct_X6_needNumber l G x8 99 r6.2 r hr) (fun r9 _ => ?_)
      refine xa_step (xa_istore_n (ls' := [some (xR v0), some (xI r3.1), some (xI r9.1)]) d_X1_readHeld_39 (by decide) rfl) ?_
      refine xa_step (xa_iload_n d_X1_readHeld_40 rfl) ?_
      refine xa_step (xa_iconst d_X1_readHeld_41 xq_i_m1) ?_
      refine xa_if (xa_icmpne d_X1_readHeld_42) (fun q10 => ?_) (fun q10 => ?_)
      · refine xa_step (xa_iconst d_X1_readHeld_45 xq_i_0) ?_
        exact xa_zret d_X1_readHeld_46 rfl (Or.inl rfl) rfl
      · refine xa_step (xa_aload_n d_X1_readHeld_47 rfl) ?_
        refine xa_getf xR xc_1 (by decide) (fun _ => rfl) xw_319 rfl d_X1_readHeld_48 (fun x11 _ => ?_)
        refine xa_step (xa_iload_n d_X1_readHeld_51 rfl) ?_
        refine xa_step (xa_iload_n d_X1_readHeld_52 rfl) ?_
        refine xa_callVV (as := [xI r3.1, xI r9.1]) (st := []) (M' := mX0_addHeld) (d' := 2) rfl xw_730 xw_731 xw_732 xw_733 xw_169 xh_X0_addHeld rfl ⟨Nat.le_of_ble_eq_true rfl, Nat.le_of_ble_eq_true rfl⟩ (Nat.le_of_ble_eq_true rfl) rfl d_X1_readHeld_53 (fun r hr => ct_X0_addHeld l G x11 r3.1 r9.1 r9.2 r hr) (fun r12 _ => ?_)
        refine xa_step (xa_iconst d_X1_readHeld_56 xq_i_1) ?_
        exact xa_zret d_X1_readHeld_57 rfl (Or.inr rfl) rfl
theorem ct_X1_readHeld (l : Launch) (G : xa_C) (v0 : Int) (h : xa_H) (r : Int × xa_H) (hr : f_X1_readHeld v0 h = some r) : xa_CT l G 5 mX1_readHeld yX1_readHeld [xR v0] h (some (xI r.1), r.2) :=
  xa_met (by decide +kernel) rfl (fun q => by first | rfl | cases q) (Nat.le_of_ble_eq_true rfl) rfl (g_X1_readHeld l G v0 h) (by rw [hr]; rfl)
abbrev mX0_addHolder : xa_M := (cX0_addHolder, 5, none, RX0, false)
theorem d_X0_addHolder_0 : decode mX0_addHolder.1 0 = .ok (.aload_n 0, 1) ∧ 0 + 1 = 1 := ⟨by decide +kernel, rfl⟩
theorem d_X0_addHolder_1 : decode mX0_addHolder.1 1 = .ok (.getfield 18, 3) ∧ 1 + 3 = 4 := ⟨by decide +kernel, rfl⟩
theorem d_X0_addHolder_4 : decode mX0_addHolder.1 4 = .ok (.bipush 6, 2) ∧ 4 + 2 = 6 := ⟨by decide +kernel, rfl⟩
theorem d_X0_addHolder_6 : decode mX0_addHolder.1 6 = .ok (.if_icmp .ge 63, 3) ∧ 6 + 3 = 9 ∧ ((6 : Nat) : Int) + 63 = ((69 : Nat) : Int) := ⟨by decide +kernel, rfl, rfl⟩
theorem d_X0_addHolder_9 : decode mX0_addHolder.1 9 = .ok (.aload_n 0, 1) ∧ 9 + 1 = 10 := ⟨by decide +kernel, rfl⟩
theorem d_X0_addHolder_10 : decode mX0_addHolder.1 10 = .ok (.getfield 31, 3) ∧ 10 + 3 = 13 := ⟨by decide +kernel, rfl⟩
theorem d_X0_addHolder_13 : decode mX0_addHolder.1 13 = .ok (.aload_n 0, 1) ∧ 13 + 1 = 14 := ⟨by decide +kernel, rfl⟩
theorem d_X0_addHolder_14 : decode mX0_addHolder.1 14 = .ok (.getfield 18, 3) ∧ 14 + 3 = 17 := ⟨by decide +kernel, rfl⟩
theorem d_X0_addHolder_17 : decode mX0_addHolder.1 17 = .ok (.iload_n 1, 1) ∧ 17 + 1 = 18 := ⟨by decide +kernel, rfl⟩
theorem d_X0_addHolder_18 : decode mX0_addHolder.1 18 = .ok (.iastore, 1) ∧ 18 + 1 = 19 := ⟨by decide +kernel, rfl⟩
theorem d_X0_addHolder_19 : decode mX0_addHolder.1 19 = .ok (.aload_n 0, 1) ∧ 19 + 1 = 20 := ⟨by decide +kernel, rfl⟩
theorem d_X0_addHolder_20 : decode mX0_addHolder.1 20 = .ok (.getfield 56, 3) ∧ 20 + 3 = 23 := ⟨by decide +kernel, rfl⟩
theorem d_X0_addHolder_23 : decode mX0_addHolder.1 23 = .ok (.getfield 66, 3) ∧ 23 + 3 = 26 := ⟨by decide +kernel, rfl⟩
theorem d_X0_addHolder_26 : decode mX0_addHolder.1 26 = .ok (.aload_n 0, 1) ∧ 26 + 1 = 27 := ⟨by decide +kernel, rfl⟩
theorem d_X0_addHolder_27 : decode mX0_addHolder.1 27 = .ok (.getfield 18, 3) ∧ 27 + 3 = 30 := ⟨by decide +kernel, rfl⟩
theorem d_X0_addHolder_30 : decode mX0_addHolder.1 30 = .ok (.iload_n 2, 1) ∧ 30 + 1 = 31 := ⟨by decide +kernel, rfl⟩
theorem d_X0_addHolder_31 : decode mX0_addHolder.1 31 = .ok (.iastore, 1) ∧ 31 + 1 = 32 := ⟨by decide +kernel, rfl⟩
theorem d_X0_addHolder_32 : decode mX0_addHolder.1 32 = .ok (.aload_n 0, 1) ∧ 32 + 1 = 33 := ⟨by decide +kernel, rfl⟩
theorem d_X0_addHolder_33 : decode mX0_addHolder.1 33 = .ok (.getfield 56, 3) ∧ 33 + 3 = 36 := ⟨by decide +kernel, rfl⟩
theorem d_X0_addHolder_36 : decode mX0_addHolder.1 36 = .ok (.getfield 69, 3) ∧ 36 + 3 = 39 := ⟨by decide +kernel, rfl⟩
theorem d_X0_addHolder_39 : decode mX0_addHolder.1 39 = .ok (.aload_n 0, 1) ∧ 39 + 1 = 40 := ⟨by decide +kernel, rfl⟩
theorem d_X0_addHolder_40 : decode mX0_addHolder.1 40 = .ok (.getfield 18, 3) ∧ 40 + 3 = 43 := ⟨by decide +kernel, rfl⟩
theorem d_X0_addHolder_43 : decode mX0_addHolder.1 43 = .ok (.iload_n 3, 1) ∧ 43 + 1 = 44 := ⟨by decide +kernel, rfl⟩
theorem d_X0_addHolder_44 : decode mX0_addHolder.1 44 = .ok (.iastore, 1) ∧ 44 + 1 = 45 := ⟨by decide +kernel, rfl⟩
theorem d_X0_addHolder_45 : decode mX0_addHolder.1 45 = .ok (.aload_n 0, 1) ∧ 45 + 1 = 46 := ⟨by decide +kernel, rfl⟩
theorem d_X0_addHolder_46 : decode mX0_addHolder.1 46 = .ok (.getfield 56, 3) ∧ 46 + 3 = 49 := ⟨by decide +kernel, rfl⟩
theorem d_X0_addHolder_49 : decode mX0_addHolder.1 49 = .ok (.getfield 72, 3) ∧ 49 + 3 = 52 := ⟨by decide +kernel, rfl⟩
theorem d_X0_addHolder_52 : decode mX0_addHolder.1 52 = .ok (.aload_n 0, 1) ∧ 52 + 1 = 53 := ⟨by decide +kernel, rfl⟩
theorem d_X0_addHolder_53 : decode mX0_addHolder.1 53 = .ok (.getfield 18, 3) ∧ 53 + 3 = 56 := ⟨by decide +kernel, rfl⟩
theorem d_X0_addHolder_56 : decode mX0_addHolder.1 56 = .ok (.iload 4, 2) ∧ 56 + 2 = 58 := ⟨by decide +kernel, rfl⟩
theorem d_X0_addHolder_58 : decode mX0_addHolder.1 58 = .ok (.iastore, 1) ∧ 58 + 1 = 59 := ⟨by decide +kernel, rfl⟩
theorem d_X0_addHolder_59 : decode mX0_addHolder.1 59 = .ok (.aload_n 0, 1) ∧ 59 + 1 = 60 := ⟨by decide +kernel, rfl⟩
theorem d_X0_addHolder_60 : decode mX0_addHolder.1 60 = .ok (.dup, 1) ∧ 60 + 1 = 61 := ⟨by decide +kernel, rfl⟩
theorem d_X0_addHolder_61 : decode mX0_addHolder.1 61 = .ok (.getfield 18, 3) ∧ 61 + 3 = 64 := ⟨by decide +kernel, rfl⟩
theorem d_X0_addHolder_64 : decode mX0_addHolder.1 64 = .ok (.iconst 1, 1) ∧ 64 + 1 = 65 := ⟨by decide +kernel, rfl⟩
theorem d_X0_addHolder_65 : decode mX0_addHolder.1 65 = .ok (.iadd, 1) ∧ 65 + 1 = 66 := ⟨by decide +kernel, rfl⟩
theorem d_X0_addHolder_66 : decode mX0_addHolder.1 66 = .ok (.putfield 18, 3) ∧ 66 + 3 = 69 := ⟨by decide +kernel, rfl⟩
theorem d_X0_addHolder_69 : decode mX0_addHolder.1 69 = .ok (.return_, 1) := by decide +kernel
set_option maxRecDepth 100000 in
set_option maxHeartbeats 4000000 in
theorem g_X0_addHolder (l : Launch) (G : xa_C) (v0 v1 v2 v3 v4 : Int) (h : xa_H) : xa_G l G 2 mX0_addHolder (f_X0_addHolder v0 v1 v2 v3 v4 h) (fun r => some (none, r) : xa_H → Option xa_O) 0 [some (xR v0), some (xI v1), some (xI v2), some (xI v3), some (xI v4)] [] h := by
  unfold f_X0_addHolder
  refine xa_step (xa_aload_n d_X0_addHolder_0 rfl) ?_
  refine xa_getf xI xc_0 (by decide) (fun _ => rfl) xw_387 rfl d_X0_addHolder_1 (fun x1 _ => ?_)
  refine xa_step (xa_bipush d_X0_addHolder_4 xq_b_6) ?_
  refine xa_if (xa_icmpge d_X0_addHolder_6) (fun q2 => ?_) (fun q2 => ?_)
  · refine xa_step (xa_aload_n d_X0_addHolder_9 rfl) ?_
    refine xa_getf xR xc_0 (by decide) (fun _ => rfl) xw_400 rfl d_X0_addHolder_10 (fun x3 _ => ?_)
    refine xa_step (xa_aload_n d_X0_addHolder_13 rfl) ?_
    refine xa_getf xI xc_0 (by decide) (fun _ => rfl) xw_387 rfl d_X0_addHolder_14 (fun x4 _ => ?_)
    refine xa_step (xa_iload_n d_X0_addHolder_17 rfl) ?_
    refine xa_iastore2 d_X0_addHolder_18 (fun h5 _ => ?_)
    refine xa_step (xa_aload_n d_X0_addHolder_19 rfl) ?_
    refine xa_getf xR xc_0 (by decide) (fun _ => rfl) xw_418 rfl d_X0_addHolder_20 (fun x6 _ => ?_)
    refine xa_getf xR xc_9 (by decide) (fun _ => rfl) xw_344 rfl d_X0_addHolder_23 (fun x7 _ => ?_)
    refine xa_step (xa_aload_n d_X0_addHolder_26 rfl) ?_
    refine xa_getf xI xc_0 (by decide) (fun _ => rfl) xw_387 rfl d_X0_addHolder_27 (fun x8 _ => ?_)
    refine xa_step (xa_iload_n d_X0_addHolder_30 rfl) ?_
    refine xa_iastore2 d_X0_addHolder_31 (fun h9 _ => ?_)
    refine xa_step (xa_aload_n d_X0_addHolder_32 rfl) ?_
    refine xa_getf xR xc_0 (by decide) (fun _ => rfl) xw_418 rfl d_X0_addHolder_33 (fun x10 _ => ?_)
    refine xa_getf xR xc_9 (by decide) (fun _ => rfl) xw_348 rfl d_X0_addHolder_36 (fun x11 _ => ?_)
    refine xa_step (xa_aload_n d_X0_addHolder_39 rfl) ?_
    refine xa_getf xI xc_0 (by decide) (fun _ => rfl) xw_387 rfl d_X0_addHolder_40 (fun x12 _ => ?_)
    refine xa_step (xa_iload_n d_X0_addHolder_43 rfl) ?_
    refine xa_iastore2 d_X0_addHolder_44 (fun h13 _ => ?_)
    refine xa_step (xa_aload_n d_X0_addHolder_45 rfl) ?_
    refine xa_getf xR xc_0 (by decide) (fun _ => rfl) xw_418 rfl d_X0_addHolder_46 (fun x14 _ => ?_)
    refine xa_getf xR xc_9 (by decide) (fun _ => rfl) xw_353 rfl d_X0_addHolder_49 (fun x15 _ => ?_)
    refine xa_step (xa_aload_n d_X0_addHolder_52 rfl) ?_
    refine xa_getf xI xc_0 (by decide) (fun _ => rfl) xw_387 rfl d_X0_addHolder_53 (fun x16 _ => ?_)
    refine xa_step (xa_iload d_X0_addHolder_56 rfl) ?_
    refine xa_iastore2 d_X0_addHolder_58 (fun h17 _ => ?_)
    refine xa_step (xa_aload_n d_X0_addHolder_59 rfl) ?_
    refine xa_step (xa_dup d_X0_addHolder_60 (xa_tR _)) ?_
    refine xa_getf xI xc_0 (by decide) (fun _ => rfl) xw_387 rfl d_X0_addHolder_61 (fun x18 _ => ?_)
    refine xa_step (xa_iconst d_X0_addHolder_64 xq_i_1) ?_
    refine xa_step (xa_iadd d_X0_addHolder_65) ?_
    refine xa_putf2 (tg := xI) xc_0 (by decide) (fun _ => rfl) rfl (fun c hc => xa_fitI c hc) xw_387 rfl d_X0_addHolder_66 (fun h19 _ => ?_)
    exact xa_vret d_X0_addHolder_69 rfl rfl
  · exact xa_vret d_X0_addHolder_69 rfl rfl
theorem ct_X0_addHolder (l : Launch) (G : xa_C) (v0 v1 v2 v3 v4 : Int) (h : xa_H) (r : xa_H) (hr : f_X0_addHolder v0 v1 v2 v3 v4 h = some r) : xa_CT l G 2 mX0_addHolder yX0_addHolder [xR v0, xI v1, xI v2, xI v3, xI v4] h (none, r) :=
  xa_met (by decide +kernel) rfl (fun q => by first | rfl | cases q) (Nat.le_of_ble_eq_true rfl) rfl (g_X0_addHolder l G v0 v1 v2 v3 v4 h) (by rw [hr]; rfl)
abbrev mX1_knownHeld : xa_M := (cX1_knownHeld, 3, (some (.int)), RX1, false)
theorem d_X1_knownHeld_0 : decode mX1_knownHeld.1 0 = .ok (.aload_n 0, 1) ∧ 0 + 1 = 1 := ⟨by decide +kernel, rfl⟩
theorem d_X1_knownHeld_1 : decode mX1_knownHeld.1 1 = .ok (.getfield 15, 3) ∧ 1 + 3 = 4 := ⟨by decide +kernel, rfl⟩
theorem d_X1_knownHeld_4 : decode mX1_knownHeld.1 4 = .ok (.invokevirtual 166, 3) ∧ 4 + 3 = 7 := ⟨by decide +kernel, rfl⟩
theorem d_X1_knownHeld_7 : decode mX1_knownHeld.1 7 = .ok (.istore_n 1, 1) ∧ 7 + 1 = 8 := ⟨by decide +kernel, rfl⟩
theorem d_X1_knownHeld_8 : decode mX1_knownHeld.1 8 = .ok (.iload_n 1, 1) ∧ 8 + 1 = 9 := ⟨by decide +kernel, rfl⟩
theorem d_X1_knownHeld_9 : decode mX1_knownHeld.1 9 = .ok (.iconst (-1), 1) ∧ 9 + 1 = 10 := ⟨by decide +kernel, rfl⟩
theorem d_X1_knownHeld_10 : decode mX1_knownHeld.1 10 = .ok (.if_icmp .ne 5, 3) ∧ 10 + 3 = 13 ∧ ((10 : Nat) : Int) + 5 = ((15 : Nat) : Int) := ⟨by decide +kernel, rfl, rfl⟩
theorem d_X1_knownHeld_13 : decode mX1_knownHeld.1 13 = .ok (.iconst (-1), 1) ∧ 13 + 1 = 14 := ⟨by decide +kernel, rfl⟩
theorem d_X1_knownHeld_14 : decode mX1_knownHeld.1 14 = .ok (.ireturn, 1) := by decide +kernel
theorem d_X1_knownHeld_15 : decode mX1_knownHeld.1 15 = .ok (.aload_n 0, 1) ∧ 15 + 1 = 16 := ⟨by decide +kernel, rfl⟩
theorem d_X1_knownHeld_16 : decode mX1_knownHeld.1 16 = .ok (.getfield 9, 3) ∧ 16 + 3 = 19 := ⟨by decide +kernel, rfl⟩
theorem d_X1_knownHeld_19 : decode mX1_knownHeld.1 19 = .ok (.iload_n 1, 1) ∧ 19 + 1 = 20 := ⟨by decide +kernel, rfl⟩
theorem d_X1_knownHeld_20 : decode mX1_knownHeld.1 20 = .ok (.invokevirtual 169, 3) ∧ 20 + 3 = 23 := ⟨by decide +kernel, rfl⟩
theorem d_X1_knownHeld_23 : decode mX1_knownHeld.1 23 = .ok (.istore_n 2, 1) ∧ 23 + 1 = 24 := ⟨by decide +kernel, rfl⟩
theorem d_X1_knownHeld_24 : decode mX1_knownHeld.1 24 = .ok (.iload_n 2, 1) ∧ 24 + 1 = 25 := ⟨by decide +kernel, rfl⟩
theorem d_X1_knownHeld_25 : decode mX1_knownHeld.1 25 = .ok (.iconst (-1), 1) ∧ 25 + 1 = 26 := ⟨by decide +kernel, rfl⟩
theorem d_X1_knownHeld_26 : decode mX1_knownHeld.1 26 = .ok (.if_icmp .ne 8, 3) ∧ 26 + 3 = 29 ∧ ((26 : Nat) : Int) + 8 = ((34 : Nat) : Int) := ⟨by decide +kernel, rfl, rfl⟩
theorem d_X1_knownHeld_29 : decode mX1_knownHeld.1 29 = .ok (.aload_n 0, 1) ∧ 29 + 1 = 30 := ⟨by decide +kernel, rfl⟩
theorem d_X1_knownHeld_30 : decode mX1_knownHeld.1 30 = .ok (.invokevirtual 137, 3) ∧ 30 + 3 = 33 := ⟨by decide +kernel, rfl⟩
theorem d_X1_knownHeld_33 : decode mX1_knownHeld.1 33 = .ok (.pop, 1) ∧ 33 + 1 = 34 := ⟨by decide +kernel, rfl⟩
theorem d_X1_knownHeld_34 : decode mX1_knownHeld.1 34 = .ok (.iload_n 2, 1) ∧ 34 + 1 = 35 := ⟨by decide +kernel, rfl⟩
theorem d_X1_knownHeld_35 : decode mX1_knownHeld.1 35 = .ok (.ireturn, 1) := by decide +kernel
set_option maxRecDepth 100000 in
set_option maxHeartbeats 4000000 in
theorem g_X1_knownHeld (l : Launch) (G : xa_C) (v0 : Int) (h : xa_H) : xa_G l G 4 mX1_knownHeld (f_X1_knownHeld v0 h) (fun r => some (some (xI r.1), r.2) : (Int × xa_H) → Option xa_O) 0 [some (xR v0), none, none] [] h := by
  unfold f_X1_knownHeld
  refine xa_step (xa_aload_n d_X1_knownHeld_0 rfl) ?_
  refine xa_getf xR xc_1 (by decide) (fun _ => rfl) xw_317 rfl d_X1_knownHeld_1 (fun x1 _ => ?_)
  refine xa_callVI (as := []) (st := []) (M' := mX6_needName) (d' := 3) rfl xw_701 xw_702 xw_703 xw_704 xw_162 xh_X6_needName rfl ⟨Nat.le_of_ble_eq_true rfl, Nat.le_of_ble_eq_true rfl⟩ (Nat.le_of_ble_eq_true rfl) rfl d_X1_knownHeld_4 (fun r hr => ct_X6_needName l G x1 h r hr) (fun r2 _ => ?_)
  refine xa_step (xa_istore_n (ls' := [some (xR v0), some (xI r2.1), none]) d_X1_knownHeld_7 (by decide) rfl) ?_
  refine xa_step (xa_iload_n d_X1_knownHeld_8 rfl) ?_
  refine xa_step (xa_iconst d_X1_knownHeld_9 xq_i_m1) ?_
  refine xa_if (xa_icmpne d_X1_knownHeld_10) (fun q3 => ?_) (fun q3 => ?_)
  · refine xa_step (xa_iconst d_X1_knownHeld_13 xq_i_m1) ?_
    exact xa_iret d_X1_knownHeld_14 rfl rfl
  · refine xa_step (xa_aload_n d_X1_knownHeld_15 rfl) ?_
    refine xa_getf xR xc_1 (by decide) (fun _ => rfl) xw_319 rfl d_X1_knownHeld_16 (fun x4 _ => ?_)
    refine xa_step (xa_iload_n d_X1_knownHeld_19 rfl) ?_
    refine xa_callVi (as := [xI r2.1]) (st := []) (M' := mX0_heldNamed) (d' := 2) rfl xw_710 xw_711 xw_712 xw_713 xw_169 xh_X0_heldNamed rfl ⟨Nat.le_of_ble_eq_true rfl, Nat.le_of_ble_eq_true rfl⟩ (Nat.le_of_ble_eq_true rfl) rfl d_X1_knownHeld_20 (fun r hr => ct_X0_heldNamed l G x4 r2.1 r2.2 r hr) (fun r5 _ => ?_)
    refine xa_step (xa_istore_n (ls' := [some (xR v0), some (xI r2.1), some (xI r5)]) d_X1_knownHeld_23 (by decide) rfl) ?_
    refine xa_step (xa_iload_n d_X1_knownHeld_24 rfl) ?_
    refine xa_step (xa_iconst d_X1_knownHeld_25 xq_i_m1) ?_
    refine xa_if (xa_icmpne d_X1_knownHeld_26) (fun q6 => ?_) (fun q6 => ?_)
    · refine xa_step (xa_aload_n d_X1_knownHeld_29 rfl) ?_
      refine xa_callVI (as := []) (st := []) (M' := mX1_badName) (d' := 3) rfl xw_718 xw_720 xw_9 xw_721 xw_168 xh_X1_badName rfl ⟨Nat.le_of_ble_eq_true rfl, Nat.le_of_ble_eq_true rfl⟩ (Nat.le_of_ble_eq_true rfl) rfl d_X1_knownHeld_30 (fun r hr => ct_X1_badName l G v0 r2.2 r hr) (fun r7 _ => ?_)
      refine xa_step (xa_pop d_X1_knownHeld_33) ?_
      refine xa_step (xa_iload_n d_X1_knownHeld_34 rfl) ?_
      exact xa_iret d_X1_knownHeld_35 rfl rfl
    · refine xa_step (xa_iload_n d_X1_knownHeld_34 rfl) ?_
      exact xa_iret d_X1_knownHeld_35 rfl rfl
theorem ct_X1_knownHeld (l : Launch) (G : xa_C) (v0 : Int) (h : xa_H) (r : Int × xa_H) (hr : f_X1_knownHeld v0 h = some r) : xa_CT l G 4 mX1_knownHeld yX1_knownHeld [xR v0] h (some (xI r.1), r.2) :=
  xa_met (by decide +kernel) rfl (fun q => by first | rfl | cases q) (Nat.le_of_ble_eq_true rfl) rfl (g_X1_knownHeld l G v0 h) (by rw [hr]; rfl)
abbrev mX1_readHolder : xa_M := (cX1_readHolder, 5, (some (.boolean)), RX1, false)
theorem d_X1_readHolder_0 : decode mX1_readHolder.1 0 = .ok (.aload_n 0, 1) ∧ 0 + 1 = 1 := ⟨by decide +kernel, rfl⟩
theorem d_X1_readHolder_1 : decode mX1_readHolder.1 1 = .ok (.getfield 15, 3) ∧ 1 + 3 = 4 := ⟨by decide +kernel, rfl⟩
theorem d_X1_readHolder_4 : decode mX1_readHolder.1 4 = .ok (.invokevirtual 106, 3) ∧ 4 + 3 = 7 := ⟨by decide +kernel, rfl⟩
theorem d_X1_readHolder_7 : decode mX1_readHolder.1 7 = .ok (.aload_n 0, 1) ∧ 7 + 1 = 8 := ⟨by decide +kernel, rfl⟩
theorem d_X1_readHolder_8 : decode mX1_readHolder.1 8 = .ok (.invokevirtual 109, 3) ∧ 8 + 3 = 11 := ⟨by decide +kernel, rfl⟩
theorem d_X1_readHolder_11 : decode mX1_readHolder.1 11 = .ok (.istore_n 1, 1) ∧ 11 + 1 = 12 := ⟨by decide +kernel, rfl⟩
theorem d_X1_readHolder_12 : decode mX1_readHolder.1 12 = .ok (.iload_n 1, 1) ∧ 12 + 1 = 13 := ⟨by decide +kernel, rfl⟩
theorem d_X1_readHolder_13 : decode mX1_readHolder.1 13 = .ok (.iconst (-1), 1) ∧ 13 + 1 = 14 := ⟨by decide +kernel, rfl⟩
theorem d_X1_readHolder_14 : decode mX1_readHolder.1 14 = .ok (.if_icmp .eq 14, 3) ∧ 14 + 3 = 17 ∧ ((14 : Nat) : Int) + 14 = ((28 : Nat) : Int) := ⟨by decide +kernel, rfl, rfl⟩
theorem d_X1_readHolder_28 : decode mX1_readHolder.1 28 = .ok (.iconst 0, 1) ∧ 28 + 1 = 29 := ⟨by decide +kernel, rfl⟩
theorem d_X1_readHolder_29 : decode mX1_readHolder.1 29 = .ok (.ireturn, 1) := by decide +kernel
theorem d_X1_readHolder_17 : decode mX1_readHolder.1 17 = .ok (.aload_n 0, 1) ∧ 17 + 1 = 18 := ⟨by decide +kernel, rfl⟩
theorem d_X1_readHolder_18 : decode mX1_readHolder.1 18 = .ok (.getfield 15, 3) ∧ 18 + 3 = 21 := ⟨by decide +kernel, rfl⟩
theorem d_X1_readHolder_21 : decode mX1_readHolder.1 21 = .ok (.iconst 3, 1) ∧ 21 + 1 = 22 := ⟨by decide +kernel, rfl⟩
theorem d_X1_readHolder_22 : decode mX1_readHolder.1 22 = .ok (.invokevirtual 113, 3) ∧ 22 + 3 = 25 := ⟨by decide +kernel, rfl⟩
theorem d_X1_readHolder_25 : decode mX1_readHolder.1 25 = .ok (.ifCond .ne 5, 3) ∧ 25 + 3 = 28 ∧ ((25 : Nat) : Int) + 5 = ((30 : Nat) : Int) := ⟨by decide +kernel, rfl, rfl⟩
theorem d_X1_readHolder_30 : decode mX1_readHolder.1 30 = .ok (.aload_n 0, 1) ∧ 30 + 1 = 31 := ⟨by decide +kernel, rfl⟩
theorem d_X1_readHolder_31 : decode mX1_readHolder.1 31 = .ok (.invokevirtual 125, 3) ∧ 31 + 3 = 34 := ⟨by decide +kernel, rfl⟩
theorem d_X1_readHolder_34 : decode mX1_readHolder.1 34 = .ok (.istore_n 2, 1) ∧ 34 + 1 = 35 := ⟨by decide +kernel, rfl⟩
theorem d_X1_readHolder_35 : decode mX1_readHolder.1 35 = .ok (.iload_n 2, 1) ∧ 35 + 1 = 36 := ⟨by decide +kernel, rfl⟩
theorem d_X1_readHolder_36 : decode mX1_readHolder.1 36 = .ok (.iconst (-1), 1) ∧ 36 + 1 = 37 := ⟨by decide +kernel, rfl⟩
theorem d_X1_readHolder_37 : decode mX1_readHolder.1 37 = .ok (.if_icmp .ne 5, 3) ∧ 37 + 3 = 40 ∧ ((37 : Nat) : Int) + 5 = ((42 : Nat) : Int) := ⟨by decide +kernel, rfl, rfl⟩
theorem d_X1_readHolder_40 : decode mX1_readHolder.1 40 = .ok (.iconst 0, 1) ∧ 40 + 1 = 41 := ⟨by decide +kernel, rfl⟩
theorem d_X1_readHolder_41 : decode mX1_readHolder.1 41 = .ok (.ireturn, 1) := by decide +kernel
theorem d_X1_readHolder_42 : decode mX1_readHolder.1 42 = .ok (.aload_n 0, 1) ∧ 42 + 1 = 43 := ⟨by decide +kernel, rfl⟩
theorem d_X1_readHolder_43 : decode mX1_readHolder.1 43 = .ok (.getfield 9, 3) ∧ 43 + 3 = 46 := ⟨by decide +kernel, rfl⟩
theorem d_X1_readHolder_46 : decode mX1_readHolder.1 46 = .ok (.getfield 128, 3) ∧ 46 + 3 = 49 := ⟨by decide +kernel, rfl⟩
theorem d_X1_readHolder_49 : decode mX1_readHolder.1 49 = .ok (.iload_n 2, 1) ∧ 49 + 1 = 50 := ⟨by decide +kernel, rfl⟩
theorem d_X1_readHolder_50 : decode mX1_readHolder.1 50 = .ok (.aload_n 0, 1) ∧ 50 + 1 = 51 := ⟨by decide +kernel, rfl⟩
theorem d_X1_readHolder_51 : decode mX1_readHolder.1 51 = .ok (.getfield 9, 3) ∧ 51 + 3 = 54 := ⟨by decide +kernel, rfl⟩
theorem d_X1_readHolder_54 : decode mX1_readHolder.1 54 = .ok (.getfield 59, 3) ∧ 54 + 3 = 57 := ⟨by decide +kernel, rfl⟩
theorem d_X1_readHolder_57 : decode mX1_readHolder.1 57 = .ok (.invokevirtual 131, 3) ∧ 57 + 3 = 60 := ⟨by decide +kernel, rfl⟩
theorem d_X1_readHolder_60 : decode mX1_readHolder.1 60 = .ok (.iconst (-1), 1) ∧ 60 + 1 = 61 := ⟨by decide +kernel, rfl⟩
theorem d_X1_readHolder_61 : decode mX1_readHolder.1 61 = .ok (.if_icmp .eq 8, 3) ∧ 61 + 3 = 64 ∧ ((61 : Nat) : Int) + 8 = ((69 : Nat) : Int) := ⟨by decide +kernel, rfl, rfl⟩
theorem d_X1_readHolder_69 : decode mX1_readHolder.1 69 = .ok (.aload_n 0, 1) ∧ 69 + 1 = 70 := ⟨by decide +kernel, rfl⟩
theorem d_X1_readHolder_70 : decode mX1_readHolder.1 70 = .ok (.getfield 15, 3) ∧ 70 + 3 = 73 := ⟨by decide +kernel, rfl⟩
theorem d_X1_readHolder_73 : decode mX1_readHolder.1 73 = .ok (.iconst 4, 1) ∧ 73 + 1 = 74 := ⟨by decide +kernel, rfl⟩
theorem d_X1_readHolder_74 : decode mX1_readHolder.1 74 = .ok (.invokevirtual 113, 3) ∧ 74 + 3 = 77 := ⟨by decide +kernel, rfl⟩
theorem d_X1_readHolder_77 : decode mX1_readHolder.1 77 = .ok (.ifCond .ne 5, 3) ∧ 77 + 3 = 80 ∧ ((77 : Nat) : Int) + 5 = ((82 : Nat) : Int) := ⟨by decide +kernel, rfl, rfl⟩
theorem d_X1_readHolder_80 : decode mX1_readHolder.1 80 = .ok (.iconst 0, 1) ∧ 80 + 1 = 81 := ⟨by decide +kernel, rfl⟩
theorem d_X1_readHolder_81 : decode mX1_readHolder.1 81 = .ok (.ireturn, 1) := by decide +kernel
theorem d_X1_readHolder_82 : decode mX1_readHolder.1 82 = .ok (.aload_n 0, 1) ∧ 82 + 1 = 83 := ⟨by decide +kernel, rfl⟩
theorem d_X1_readHolder_83 : decode mX1_readHolder.1 83 = .ok (.invokevirtual 125, 3) ∧ 83 + 3 = 86 := ⟨by decide +kernel, rfl⟩
theorem d_X1_readHolder_86 : decode mX1_readHolder.1 86 = .ok (.istore_n 3, 1) ∧ 86 + 1 = 87 := ⟨by decide +kernel, rfl⟩
theorem d_X1_readHolder_87 : decode mX1_readHolder.1 87 = .ok (.iload_n 3, 1) ∧ 87 + 1 = 88 := ⟨by decide +kernel, rfl⟩
theorem d_X1_readHolder_88 : decode mX1_readHolder.1 88 = .ok (.iconst (-1), 1) ∧ 88 + 1 = 89 := ⟨by decide +kernel, rfl⟩
theorem d_X1_readHolder_89 : decode mX1_readHolder.1 89 = .ok (.if_icmp .eq 14, 3) ∧ 89 + 3 = 92 ∧ ((89 : Nat) : Int) + 14 = ((103 : Nat) : Int) := ⟨by decide +kernel, rfl, rfl⟩
theorem d_X1_readHolder_103 : decode mX1_readHolder.1 103 = .ok (.iconst 0, 1) ∧ 103 + 1 = 104 := ⟨by decide +kernel, rfl⟩
theorem d_X1_readHolder_104 : decode mX1_readHolder.1 104 = .ok (.ireturn, 1) := by decide +kernel
theorem d_X1_readHolder_92 : decode mX1_readHolder.1 92 = .ok (.aload_n 0, 1) ∧ 92 + 1 = 93 := ⟨by decide +kernel, rfl⟩
theorem d_X1_readHolder_93 : decode mX1_readHolder.1 93 = .ok (.getfield 15, 3) ∧ 93 + 3 = 96 := ⟨by decide +kernel, rfl⟩
theorem d_X1_readHolder_96 : decode mX1_readHolder.1 96 = .ok (.iconst 5, 1) ∧ 96 + 1 = 97 := ⟨by decide +kernel, rfl⟩
theorem d_X1_readHolder_97 : decode mX1_readHolder.1 97 = .ok (.invokevirtual 113, 3) ∧ 97 + 3 = 100 := ⟨by decide +kernel, rfl⟩
theorem d_X1_readHolder_100 : decode mX1_readHolder.1 100 = .ok (.ifCond .ne 5, 3) ∧ 100 + 3 = 103 ∧ ((100 : Nat) : Int) + 5 = ((105 : Nat) : Int) := ⟨by decide +kernel, rfl, rfl⟩
theorem d_X1_readHolder_105 : decode mX1_readHolder.1 105 = .ok (.aload_n 0, 1) ∧ 105 + 1 = 106 := ⟨by decide +kernel, rfl⟩
theorem d_X1_readHolder_106 : decode mX1_readHolder.1 106 = .ok (.getfield 15, 3) ∧ 106 + 3 = 109 := ⟨by decide +kernel, rfl⟩
theorem d_X1_readHolder_109 : decode mX1_readHolder.1 109 = .ok (.sipush 999, 3) ∧ 109 + 3 = 112 := ⟨by decide +kernel, rfl⟩
theorem d_X1_readHolder_112 : decode mX1_readHolder.1 112 = .ok (.invokevirtual 117, 3) ∧ 112 + 3 = 115 := ⟨by decide +kernel, rfl⟩
theorem d_X1_readHolder_115 : decode mX1_readHolder.1 115 = .ok (.istore 4, 2) ∧ 115 + 2 = 117 := ⟨by decide +kernel, rfl⟩
theorem d_X1_readHolder_117 : decode mX1_readHolder.1 117 = .ok (.iload 4, 2) ∧ 117 + 2 = 119 := ⟨by decide +kernel, rfl⟩
theorem d_X1_readHolder_119 : decode mX1_readHolder.1 119 = .ok (.iconst (-1), 1) ∧ 119 + 1 = 120 := ⟨by decide +kernel, rfl⟩
theorem d_X1_readHolder_120 : decode mX1_readHolder.1 120 = .ok (.if_icmp .ne 5, 3) ∧ 120 + 3 = 123 ∧ ((120 : Nat) : Int) + 5 = ((125 : Nat) : Int) := ⟨by decide +kernel, rfl, rfl⟩
theorem d_X1_readHolder_123 : decode mX1_readHolder.1 123 = .ok (.iconst 0, 1) ∧ 123 + 1 = 124 := ⟨by decide +kernel, rfl⟩
theorem d_X1_readHolder_124 : decode mX1_readHolder.1 124 = .ok (.ireturn, 1) := by decide +kernel
theorem d_X1_readHolder_125 : decode mX1_readHolder.1 125 = .ok (.aload_n 0, 1) ∧ 125 + 1 = 126 := ⟨by decide +kernel, rfl⟩
theorem d_X1_readHolder_126 : decode mX1_readHolder.1 126 = .ok (.getfield 9, 3) ∧ 126 + 3 = 129 := ⟨by decide +kernel, rfl⟩
theorem d_X1_readHolder_129 : decode mX1_readHolder.1 129 = .ok (.iload_n 1, 1) ∧ 129 + 1 = 130 := ⟨by decide +kernel, rfl⟩
theorem d_X1_readHolder_130 : decode mX1_readHolder.1 130 = .ok (.iload_n 2, 1) ∧ 130 + 1 = 131 := ⟨by decide +kernel, rfl⟩
theorem d_X1_readHolder_131 : decode mX1_readHolder.1 131 = .ok (.iload_n 3, 1) ∧ 131 + 1 = 132 := ⟨by decide +kernel, rfl⟩
theorem d_X1_readHolder_132 : decode mX1_readHolder.1 132 = .ok (.iload 4, 2) ∧ 132 + 2 = 134 := ⟨by decide +kernel, rfl⟩
theorem d_X1_readHolder_134 : decode mX1_readHolder.1 134 = .ok (.invokevirtual 140, 3) ∧ 134 + 3 = 137 := ⟨by decide +kernel, rfl⟩
theorem d_X1_readHolder_137 : decode mX1_readHolder.1 137 = .ok (.iconst 1, 1) ∧ 137 + 1 = 138 := ⟨by decide +kernel, rfl⟩
theorem d_X1_readHolder_138 : decode mX1_readHolder.1 138 = .ok (.ireturn, 1) := by decide +kernel
theorem d_X1_readHolder_64 : decode mX1_readHolder.1 64 = .ok (.aload_n 0, 1) ∧ 64 + 1 = 65 := ⟨by decide +kernel, rfl⟩
theorem d_X1_readHolder_65 : decode mX1_readHolder.1 65 = .ok (.invokevirtual 137, 3) ∧ 65 + 3 = 68 := ⟨by decide +kernel, rfl⟩
theorem d_X1_readHolder_68 : decode mX1_readHolder.1 68 = .ok (.ireturn, 1) := by decide +kernel
set_option maxRecDepth 100000 in
set_option maxHeartbeats 4000000 in
theorem g_X1_readHolder (l : Launch) (G : xa_C) (v0 : Int) (h : xa_H) : xa_G l G 5 mX1_readHolder (f_X1_readHolder v0 h) (fun r => some (some (xI r.1), r.2) : (Int × xa_H) → Option xa_O) 0 [some (xR v0), none, none, none, none] [] h := by
  unfold f_X1_readHolder
  refine xa_step (xa_aload_n d_X1_readHolder_0 rfl) ?_
  refine xa_getf xR xc_1 (by decide) (fun _ => rfl) xw_317 rfl d_X1_readHolder_1 (fun x1 _ => ?_)
  refine xa_callVV (as := []) (st := []) (M' := mX6_step) (d' := 2) rfl xw_696 xw_677 xw_678 xw_679 xw_162 xh_X6_step rfl ⟨Nat.le_of_ble_eq_true rfl, Nat.le_of_ble_eq_true rfl⟩ (Nat.le_of_ble_eq_true rfl) rfl d_X1_readHolder_4 (fun r hr => ct_X6_step l G x1 h r hr) (fun r2 _ => ?_)
  refine xa_step (xa_aload_n d_X1_readHolder_7 rfl) ?_
  refine xa_callVI (as := []) (st := []) (M' := mX1_newName) (d' := 4) rfl xw_697 xw_699 xw_8 xw_700 xw_168 xh_X1_newName rfl ⟨Nat.le_of_ble_eq_true rfl, Nat.le_of_ble_eq_true rfl⟩ (Nat.le_of_ble_eq_true rfl) rfl d_X1_readHolder_8 (fun r hr => ct_X1_newName l G v0 r2 r hr) (fun r3 _ => ?_)
  refine xa_step (xa_istore_n (ls' := [some (xR v0), some (xI r3.1), none, none, none]) d_X1_readHolder_11 (by decide) rfl) ?_
  refine xa_step (xa_iload_n d_X1_readHolder_12 rfl) ?_
  refine xa_step (xa_iconst d_X1_readHolder_13 xq_i_m1) ?_
  refine xa_if (xa_icmpeq d_X1_readHolder_14) (fun q4 => ?_) (fun q4 => ?_)
  · refine xa_step (xa_iconst d_X1_readHolder_28 xq_i_0) ?_
    exact xa_zret d_X1_readHolder_29 rfl (Or.inl rfl) rfl
  · refine xa_step (xa_aload_n d_X1_readHolder_17 rfl) ?_
    refine xa_getf xR xc_1 (by decide) (fun _ => rfl) xw_317 rfl d_X1_readHolder_18 (fun x5 _ => ?_)
    refine xa_step (xa_iconst d_X1_readHolder_21 xq_i_3) ?_
    refine xa_callVI (as := [xI 3]) (st := []) (M' := mX6_needWord) (d' := 3) rfl xw_722 xw_723 xw_724 xw_725 xw_162 xh_X6_needWord rfl ⟨Nat.le_of_ble_eq_true rfl, Nat.le_of_ble_eq_true rfl⟩ (Nat.le_of_ble_eq_true rfl) rfl d_X1_readHolder_22 (fun r hr => ct_X6_needWord l G x5 3 r3.2 r hr) (fun r6 _ => ?_)
    refine xa_if (xa_ifne d_X1_readHolder_25) (fun q7 => ?_) (fun q7 => ?_)
    · refine xa_step (xa_iconst d_X1_readHolder_28 xq_i_0) ?_
      exact xa_zret d_X1_readHolder_29 rfl (Or.inl rfl) rfl
    · refine xa_step (xa_aload_n d_X1_readHolder_30 rfl) ?_
      refine xa_callVI (as := []) (st := []) (M' := mX1_knownHeld) (d' := 4) rfl xw_738 xw_740 xw_11 xw_741 xw_168 xh_X1_knownHeld rfl ⟨Nat.le_of_ble_eq_true rfl, Nat.le_of_ble_eq_true rfl⟩ (Nat.le_of_ble_eq_true rfl) rfl d_X1_readHolder_31 (fun r hr => ct_X1_knownHeld l G v0 r6.2 r hr) (fun r8 _ => ?_)
      refine xa_step (xa_istore_n (ls' := [some (xR v0), some (xI r3.1), some (xI r8.1), none, none]) d_X1_readHolder_34 (by decide) rfl) ?_
      refine xa_step (xa_iload_n d_X1_readHolder_35 rfl) ?_
      refine xa_step (xa_iconst d_X1_readHolder_36 xq_i_m1) ?_
      refine xa_if (xa_icmpne d_X1_readHolder_37) (fun q9 => ?_) (fun q9 => ?_)
      · refine xa_step (xa_iconst d_X1_readHolder_40 xq_i_0) ?_
        exact xa_zret d_X1_readHolder_41 rfl (Or.inl rfl) rfl
      · refine xa_step (xa_aload_n d_X1_readHolder_42 rfl) ?_
        refine xa_getf xR xc_1 (by decide) (fun _ => rfl) xw_319 rfl d_X1_readHolder_43 (fun x10 _ => ?_)
        refine xa_getf xR xc_0 (by decide) (fun _ => rfl) xw_420 rfl d_X1_readHolder_46 (fun x11 _ => ?_)
        refine xa_step (xa_iload_n d_X1_readHolder_49 rfl) ?_
        refine xa_step (xa_aload_n d_X1_readHolder_50 rfl) ?_
        refine xa_getf xR xc_1 (by decide) (fun _ => rfl) xw_319 rfl d_X1_readHolder_51 (fun x12 _ => ?_)
        refine xa_getf xI xc_0 (by decide) (fun _ => rfl) xw_390 rfl d_X1_readHolder_54 (fun x13 _ => ?_)
        refine xa_callVi (as := [xI r8.1, xI x13]) (st := []) (M' := mX9_holderOf) (d' := 2) rfl xw_742 xw_743 xw_744 xw_745 xw_170 xh_X9_holderOf rfl ⟨Nat.le_of_ble_eq_true rfl, Nat.le_of_ble_eq_true rfl⟩ (Nat.le_of_ble_eq_true rfl) rfl d_X1_readHolder_57 (fun r hr => ct_X9_holderOf l G x11 r8.1 x13 r8.2 r hr) (fun r14 _ => ?_)
        refine xa_step (xa_iconst d_X1_readHolder_60 xq_i_m1) ?_
        refine xa_if (xa_icmpeq d_X1_readHolder_61) (fun q15 => ?_) (fun q15 => ?_)
        · refine xa_step (xa_aload_n d_X1_readHolder_69 rfl) ?_
          refine xa_getf xR xc_1 (by decide) (fun _ => rfl) xw_317 rfl d_X1_readHolder_70 (fun x16 _ => ?_)
          refine xa_step (xa_iconst d_X1_readHolder_73 xq_i_4) ?_
          refine xa_callVI (as := [xI 4]) (st := []) (M' := mX6_needWord) (d' := 3) rfl xw_722 xw_723 xw_724 xw_725 xw_162 xh_X6_needWord rfl ⟨Nat.le_of_ble_eq_true rfl, Nat.le_of_ble_eq_true rfl⟩ (Nat.le_of_ble_eq_true rfl) rfl d_X1_readHolder_74 (fun r hr => ct_X6_needWord l G x16 4 r8.2 r hr) (fun r17 _ => ?_)
          refine xa_if (xa_ifne d_X1_readHolder_77) (fun q18 => ?_) (fun q18 => ?_)
          · refine xa_step (xa_iconst d_X1_readHolder_80 xq_i_0) ?_
            exact xa_zret d_X1_readHolder_81 rfl (Or.inl rfl) rfl
          · refine xa_step (xa_aload_n d_X1_readHolder_82 rfl) ?_
            refine xa_callVI (as := []) (st := []) (M' := mX1_knownHeld) (d' := 4) rfl xw_738 xw_740 xw_11 xw_741 xw_168 xh_X1_knownHeld rfl ⟨Nat.le_of_ble_eq_true rfl, Nat.le_of_ble_eq_true rfl⟩ (Nat.le_of_ble_eq_true rfl) rfl d_X1_readHolder_83 (fun r hr => ct_X1_knownHeld l G v0 r17.2 r hr) (fun r19 _ => ?_)
            refine xa_step (xa_istore_n (ls' := [some (xR v0), some (xI r3.1), some (xI r8.1), some (xI r19.1), none]) d_X1_readHolder_86 (by decide) rfl) ?_
            refine xa_step (xa_iload_n d_X1_readHolder_87 rfl) ?_
            refine xa_step (xa_iconst d_X1_readHolder_88 xq_i_m1) ?_
            refine xa_if (xa_icmpeq d_X1_readHolder_89) (fun q20 => ?_) (fun q20 => ?_)
            · refine xa_step (xa_iconst d_X1_readHolder_103 xq_i_0) ?_
              exact xa_zret d_X1_readHolder_104 rfl (Or.inl rfl) rfl
            · refine xa_step (xa_aload_n d_X1_readHolder_92 rfl) ?_
              refine xa_getf xR xc_1 (by decide) (fun _ => rfl) xw_317 rfl d_X1_readHolder_93 (fun x21 _ => ?_)
              refine xa_step (xa_iconst d_X1_readHolder_96 xq_i_5) ?_
              refine xa_callVI (as := [xI 5]) (st := []) (M' := mX6_needWord) (d' := 3) rfl xw_722 xw_723 xw_724 xw_725 xw_162 xh_X6_needWord rfl ⟨Nat.le_of_ble_eq_true rfl, Nat.le_of_ble_eq_true rfl⟩ (Nat.le_of_ble_eq_true rfl) rfl d_X1_readHolder_97 (fun r hr => ct_X6_needWord l G x21 5 r19.2 r hr) (fun r22 _ => ?_)
              refine xa_if (xa_ifne d_X1_readHolder_100) (fun q23 => ?_) (fun q23 => ?_)
              · refine xa_step (xa_iconst d_X1_readHolder_103 xq_i_0) ?_
                exact xa_zret d_X1_readHolder_104 rfl (Or.inl rfl) rfl
              · refine xa_step (xa_aload_n d_X1_readHolder_105 rfl) ?_
                refine xa_getf xR xc_1 (by decide) (fun _ => rfl) xw_317 rfl d_X1_readHolder_106 (fun x24 _ => ?_)
                refine xa_step (xa_sipush d_X1_readHolder_109 xq_s_999) ?_
                refine xa_callVI (as := [xI 999]) (st := []) (M' := mX6_needNumber) (d' := 3) rfl xw_726 xw_727 xw_728 xw_729 xw_162 xh_X6_needNumber rfl ⟨Nat.le_of_ble_eq_true rfl, Nat.le_of_ble_eq_true rfl⟩ (Nat.le_of_ble_eq_true rfl) rfl d_X1_readHolder_112 (fun r hr => ct_X6_needNumber l G x24 999 r22.2 r hr) (fun r25 _ => ?_)
                refine xa_step (xa_istore (ls' := [some (xR v0), some (xI r3.1), some (xI r8.1), some (xI r19.1), some (xI r25.1)]) d_X1_readHolder_115 (by decide) rfl) ?_
                refine xa_step (xa_iload d_X1_readHolder_117 rfl) ?_
                refine xa_step (xa_iconst d_X1_readHolder_119 xq_i_m1) ?_
                refine xa_if (xa_icmpne d_X1_readHolder_120) (fun q26 => ?_) (fun q26 => ?_)
                · refine xa_step (xa_iconst d_X1_readHolder_123 xq_i_0) ?_
                  exact xa_zret d_X1_readHolder_124 rfl (Or.inl rfl) rfl
                · refine xa_step (xa_aload_n d_X1_readHolder_125 rfl) ?_
                  refine xa_getf xR xc_1 (by decide) (fun _ => rfl) xw_319 rfl d_X1_readHolder_126 (fun x27 _ => ?_)
                  refine xa_step (xa_iload_n d_X1_readHolder_129 rfl) ?_
                  refine xa_step (xa_iload_n d_X1_readHolder_130 rfl) ?_
                  refine xa_step (xa_iload_n d_X1_readHolder_131 rfl) ?_
                  refine xa_step (xa_iload d_X1_readHolder_132 rfl) ?_
                  refine xa_callVV (as := [xI r3.1, xI r8.1, xI r19.1, xI r25.1]) (st := []) (M' := mX0_addHolder) (d' := 2) rfl xw_746 xw_747 xw_748 xw_749 xw_169 xh_X0_addHolder rfl ⟨Nat.le_of_ble_eq_true rfl, Nat.le_of_ble_eq_true rfl⟩ (Nat.le_of_ble_eq_true rfl) rfl d_X1_readHolder_134 (fun r hr => ct_X0_addHolder l G x27 r3.1 r8.1 r19.1 r25.1 r25.2 r hr) (fun r28 _ => ?_)
                  refine xa_step (xa_iconst d_X1_readHolder_137 xq_i_1) ?_
                  exact xa_zret d_X1_readHolder_138 rfl (Or.inr rfl) rfl
        · refine xa_step (xa_aload_n d_X1_readHolder_64 rfl) ?_
          refine xa_callVI (as := []) (st := []) (M' := mX1_badName) (d' := 3) rfl xw_718 xw_720 xw_9 xw_721 xw_168 xh_X1_badName rfl ⟨Nat.le_of_ble_eq_true rfl, Nat.le_of_ble_eq_true rfl⟩ (Nat.le_of_ble_eq_true rfl) rfl d_X1_readHolder_65 (fun r hr => ct_X1_badName l G v0 r8.2 r hr) (fun r29 _ => ?_)
          refine xa_bo (fun q30 => ?_)
          exact xa_zret d_X1_readHolder_68 rfl q30 rfl
theorem ct_X1_readHolder (l : Launch) (G : xa_C) (v0 : Int) (h : xa_H) (r : Int × xa_H) (hr : f_X1_readHolder v0 h = some r) : xa_CT l G 5 mX1_readHolder yX1_readHolder [xR v0] h (some (xI r.1), r.2) :=
  xa_met (by decide +kernel) rfl (fun q => by first | rfl | cases q) (Nat.le_of_ble_eq_true rfl) rfl (g_X1_readHolder l G v0 h) (by rw [hr]; rfl)
abbrev mX1_readSister : xa_M := (cX1_readSister, 3, (some (.boolean)), RX1, false)
theorem d_X1_readSister_0 : decode mX1_readSister.1 0 = .ok (.aload_n 0, 1) ∧ 0 + 1 = 1 := ⟨by decide +kernel, rfl⟩
theorem d_X1_readSister_1 : decode mX1_readSister.1 1 = .ok (.getfield 15, 3) ∧ 1 + 3 = 4 := ⟨by decide +kernel, rfl⟩
theorem d_X1_readSister_4 : decode mX1_readSister.1 4 = .ok (.invokevirtual 106, 3) ∧ 4 + 3 = 7 := ⟨by decide +kernel, rfl⟩
theorem d_X1_readSister_7 : decode mX1_readSister.1 7 = .ok (.aload_n 0, 1) ∧ 7 + 1 = 8 := ⟨by decide +kernel, rfl⟩
theorem d_X1_readSister_8 : decode mX1_readSister.1 8 = .ok (.invokevirtual 125, 3) ∧ 8 + 3 = 11 := ⟨by decide +kernel, rfl⟩
theorem d_X1_readSister_11 : decode mX1_readSister.1 11 = .ok (.istore_n 1, 1) ∧ 11 + 1 = 12 := ⟨by decide +kernel, rfl⟩
theorem d_X1_readSister_12 : decode mX1_readSister.1 12 = .ok (.iload_n 1, 1) ∧ 12 + 1 = 13 := ⟨by decide +kernel, rfl⟩
theorem d_X1_readSister_13 : decode mX1_readSister.1 13 = .ok (.iconst (-1), 1) ∧ 13 + 1 = 14 := ⟨by decide +kernel, rfl⟩
theorem d_X1_readSister_14 : decode mX1_readSister.1 14 = .ok (.if_icmp .ne 5, 3) ∧ 14 + 3 = 17 ∧ ((14 : Nat) : Int) + 5 = ((19 : Nat) : Int) := ⟨by decide +kernel, rfl, rfl⟩
theorem d_X1_readSister_17 : decode mX1_readSister.1 17 = .ok (.iconst 0, 1) ∧ 17 + 1 = 18 := ⟨by decide +kernel, rfl⟩
theorem d_X1_readSister_18 : decode mX1_readSister.1 18 = .ok (.ireturn, 1) := by decide +kernel
theorem d_X1_readSister_19 : decode mX1_readSister.1 19 = .ok (.aload_n 0, 1) ∧ 19 + 1 = 20 := ⟨by decide +kernel, rfl⟩
theorem d_X1_readSister_20 : decode mX1_readSister.1 20 = .ok (.getfield 9, 3) ∧ 20 + 3 = 23 := ⟨by decide +kernel, rfl⟩
theorem d_X1_readSister_23 : decode mX1_readSister.1 23 = .ok (.getfield 157, 3) ∧ 23 + 3 = 26 := ⟨by decide +kernel, rfl⟩
theorem d_X1_readSister_26 : decode mX1_readSister.1 26 = .ok (.iload_n 1, 1) ∧ 26 + 1 = 27 := ⟨by decide +kernel, rfl⟩
theorem d_X1_readSister_27 : decode mX1_readSister.1 27 = .ok (.iaload, 1) ∧ 27 + 1 = 28 := ⟨by decide +kernel, rfl⟩
theorem d_X1_readSister_28 : decode mX1_readSister.1 28 = .ok (.iconst (-1), 1) ∧ 28 + 1 = 29 := ⟨by decide +kernel, rfl⟩
theorem d_X1_readSister_29 : decode mX1_readSister.1 29 = .ok (.if_icmp .eq 8, 3) ∧ 29 + 3 = 32 ∧ ((29 : Nat) : Int) + 8 = ((37 : Nat) : Int) := ⟨by decide +kernel, rfl, rfl⟩
theorem d_X1_readSister_37 : decode mX1_readSister.1 37 = .ok (.aload_n 0, 1) ∧ 37 + 1 = 38 := ⟨by decide +kernel, rfl⟩
theorem d_X1_readSister_38 : decode mX1_readSister.1 38 = .ok (.invokevirtual 125, 3) ∧ 38 + 3 = 41 := ⟨by decide +kernel, rfl⟩
theorem d_X1_readSister_41 : decode mX1_readSister.1 41 = .ok (.istore_n 2, 1) ∧ 41 + 1 = 42 := ⟨by decide +kernel, rfl⟩
theorem d_X1_readSister_42 : decode mX1_readSister.1 42 = .ok (.iload_n 2, 1) ∧ 42 + 1 = 43 := ⟨by decide +kernel, rfl⟩
theorem d_X1_readSister_43 : decode mX1_readSister.1 43 = .ok (.iconst (-1), 1) ∧ 43 + 1 = 44 := ⟨by decide +kernel, rfl⟩
theorem d_X1_readSister_44 : decode mX1_readSister.1 44 = .ok (.if_icmp .ne 5, 3) ∧ 44 + 3 = 47 ∧ ((44 : Nat) : Int) + 5 = ((49 : Nat) : Int) := ⟨by decide +kernel, rfl, rfl⟩
theorem d_X1_readSister_47 : decode mX1_readSister.1 47 = .ok (.iconst 0, 1) ∧ 47 + 1 = 48 := ⟨by decide +kernel, rfl⟩
theorem d_X1_readSister_48 : decode mX1_readSister.1 48 = .ok (.ireturn, 1) := by decide +kernel
theorem d_X1_readSister_49 : decode mX1_readSister.1 49 = .ok (.iload_n 2, 1) ∧ 49 + 1 = 50 := ⟨by decide +kernel, rfl⟩
theorem d_X1_readSister_50 : decode mX1_readSister.1 50 = .ok (.iload_n 1, 1) ∧ 50 + 1 = 51 := ⟨by decide +kernel, rfl⟩
theorem d_X1_readSister_51 : decode mX1_readSister.1 51 = .ok (.if_icmp .ne 8, 3) ∧ 51 + 3 = 54 ∧ ((51 : Nat) : Int) + 8 = ((59 : Nat) : Int) := ⟨by decide +kernel, rfl, rfl⟩
theorem d_X1_readSister_54 : decode mX1_readSister.1 54 = .ok (.aload_n 0, 1) ∧ 54 + 1 = 55 := ⟨by decide +kernel, rfl⟩
theorem d_X1_readSister_55 : decode mX1_readSister.1 55 = .ok (.invokevirtual 137, 3) ∧ 55 + 3 = 58 := ⟨by decide +kernel, rfl⟩
theorem d_X1_readSister_58 : decode mX1_readSister.1 58 = .ok (.ireturn, 1) := by decide +kernel
theorem d_X1_readSister_59 : decode mX1_readSister.1 59 = .ok (.aload_n 0, 1) ∧ 59 + 1 = 60 := ⟨by decide +kernel, rfl⟩
theorem d_X1_readSister_60 : decode mX1_readSister.1 60 = .ok (.getfield 9, 3) ∧ 60 + 3 = 63 := ⟨by decide +kernel, rfl⟩
theorem d_X1_readSister_63 : decode mX1_readSister.1 63 = .ok (.getfield 157, 3) ∧ 63 + 3 = 66 := ⟨by decide +kernel, rfl⟩
theorem d_X1_readSister_66 : decode mX1_readSister.1 66 = .ok (.iload_n 1, 1) ∧ 66 + 1 = 67 := ⟨by decide +kernel, rfl⟩
theorem d_X1_readSister_67 : decode mX1_readSister.1 67 = .ok (.iload_n 2, 1) ∧ 67 + 1 = 68 := ⟨by decide +kernel, rfl⟩
theorem d_X1_readSister_68 : decode mX1_readSister.1 68 = .ok (.iastore, 1) ∧ 68 + 1 = 69 := ⟨by decide +kernel, rfl⟩
theorem d_X1_readSister_69 : decode mX1_readSister.1 69 = .ok (.iconst 1, 1) ∧ 69 + 1 = 70 := ⟨by decide +kernel, rfl⟩
theorem d_X1_readSister_70 : decode mX1_readSister.1 70 = .ok (.ireturn, 1) := by decide +kernel
theorem d_X1_readSister_32 : decode mX1_readSister.1 32 = .ok (.aload_n 0, 1) ∧ 32 + 1 = 33 := ⟨by decide +kernel, rfl⟩
theorem d_X1_readSister_33 : decode mX1_readSister.1 33 = .ok (.invokevirtual 137, 3) ∧ 33 + 3 = 36 := ⟨by decide +kernel, rfl⟩
theorem d_X1_readSister_36 : decode mX1_readSister.1 36 = .ok (.ireturn, 1) := by decide +kernel
set_option maxRecDepth 100000 in
set_option maxHeartbeats 4000000 in
theorem g_X1_readSister (l : Launch) (G : xa_C) (v0 : Int) (h : xa_H) : xa_G l G 5 mX1_readSister (f_X1_readSister v0 h) (fun r => some (some (xI r.1), r.2) : (Int × xa_H) → Option xa_O) 0 [some (xR v0), none, none] [] h := by
  unfold f_X1_readSister
  refine xa_step (xa_aload_n d_X1_readSister_0 rfl) ?_
  refine xa_getf xR xc_1 (by decide) (fun _ => rfl) xw_317 rfl d_X1_readSister_1 (fun x1 _ => ?_)
  refine xa_callVV (as := []) (st := []) (M' := mX6_step) (d' := 2) rfl xw_696 xw_677 xw_678 xw_679 xw_162 xh_X6_step rfl ⟨Nat.le_of_ble_eq_true rfl, Nat.le_of_ble_eq_true rfl⟩ (Nat.le_of_ble_eq_true rfl) rfl d_X1_readSister_4 (fun r hr => ct_X6_step l G x1 h r hr) (fun r2 _ => ?_)
  refine xa_step (xa_aload_n d_X1_readSister_7 rfl) ?_
  refine xa_callVI (as := []) (st := []) (M' := mX1_knownHeld) (d' := 4) rfl xw_738 xw_740 xw_11 xw_741 xw_168 xh_X1_knownHeld rfl ⟨Nat.le_of_ble_eq_true rfl, Nat.le_of_ble_eq_true rfl⟩ (Nat.le_of_ble_eq_true rfl) rfl d_X1_readSister_8 (fun r hr => ct_X1_knownHeld l G v0 r2 r hr) (fun r3 _ => ?_)
  refine xa_step (xa_istore_n (ls' := [some (xR v0), some (xI r3.1), none]) d_X1_readSister_11 (by decide) rfl) ?_
  refine xa_step (xa_iload_n d_X1_readSister_12 rfl) ?_
  refine xa_step (xa_iconst d_X1_readSister_13 xq_i_m1) ?_
  refine xa_if (xa_icmpne d_X1_readSister_14) (fun q4 => ?_) (fun q4 => ?_)
  · refine xa_step (xa_iconst d_X1_readSister_17 xq_i_0) ?_
    exact xa_zret d_X1_readSister_18 rfl (Or.inl rfl) rfl
  · refine xa_step (xa_aload_n d_X1_readSister_19 rfl) ?_
    refine xa_getf xR xc_1 (by decide) (fun _ => rfl) xw_319 rfl d_X1_readSister_20 (fun x5 _ => ?_)
    refine xa_getf xR xc_0 (by decide) (fun _ => rfl) xw_407 rfl d_X1_readSister_23 (fun x6 _ => ?_)
    refine xa_step (xa_iload_n d_X1_readSister_26 rfl) ?_
    refine xa_iaload d_X1_readSister_27 (fun x7 _ => ?_)
    refine xa_step (xa_iconst d_X1_readSister_28 xq_i_m1) ?_
    refine xa_if (xa_icmpeq d_X1_readSister_29) (fun q8 => ?_) (fun q8 => ?_)
    · refine xa_step (xa_aload_n d_X1_readSister_37 rfl) ?_
      refine xa_callVI (as := []) (st := []) (M' := mX1_knownHeld) (d' := 4) rfl xw_738 xw_740 xw_11 xw_741 xw_168 xh_X1_knownHeld rfl ⟨Nat.le_of_ble_eq_true rfl, Nat.le_of_ble_eq_true rfl⟩ (Nat.le_of_ble_eq_true rfl) rfl d_X1_readSister_38 (fun r hr => ct_X1_knownHeld l G v0 r3.2 r hr) (fun r9 _ => ?_)
      refine xa_step (xa_istore_n (ls' := [some (xR v0), some (xI r3.1), some (xI r9.1)]) d_X1_readSister_41 (by decide) rfl) ?_
      refine xa_step (xa_iload_n d_X1_readSister_42 rfl) ?_
      refine xa_step (xa_iconst d_X1_readSister_43 xq_i_m1) ?_
      refine xa_if (xa_icmpne d_X1_readSister_44) (fun q10 => ?_) (fun q10 => ?_)
      · refine xa_step (xa_iconst d_X1_readSister_47 xq_i_0) ?_
        exact xa_zret d_X1_readSister_48 rfl (Or.inl rfl) rfl
      · refine xa_step (xa_iload_n d_X1_readSister_49 rfl) ?_
        refine xa_step (xa_iload_n d_X1_readSister_50 rfl) ?_
        refine xa_if (xa_icmpne d_X1_readSister_51) (fun q11 => ?_) (fun q11 => ?_)
        · refine xa_step (xa_aload_n d_X1_readSister_54 rfl) ?_
          refine xa_callVI (as := []) (st := []) (M' := mX1_badName) (d' := 3) rfl xw_718 xw_720 xw_9 xw_721 xw_168 xh_X1_badName rfl ⟨Nat.le_of_ble_eq_true rfl, Nat.le_of_ble_eq_true rfl⟩ (Nat.le_of_ble_eq_true rfl) rfl d_X1_readSister_55 (fun r hr => ct_X1_badName l G v0 r9.2 r hr) (fun r12 _ => ?_)
          refine xa_bo (fun q13 => ?_)
          exact xa_zret d_X1_readSister_58 rfl q13 rfl
        · refine xa_step (xa_aload_n d_X1_readSister_59 rfl) ?_
          refine xa_getf xR xc_1 (by decide) (fun _ => rfl) xw_319 rfl d_X1_readSister_60 (fun x14 _ => ?_)
          refine xa_getf xR xc_0 (by decide) (fun _ => rfl) xw_407 rfl d_X1_readSister_63 (fun x15 _ => ?_)
          refine xa_step (xa_iload_n d_X1_readSister_66 rfl) ?_
          refine xa_step (xa_iload_n d_X1_readSister_67 rfl) ?_
          refine xa_iastore2 d_X1_readSister_68 (fun h16 _ => ?_)
          refine xa_step (xa_iconst d_X1_readSister_69 xq_i_1) ?_
          exact xa_zret d_X1_readSister_70 rfl (Or.inr rfl) rfl
    · refine xa_step (xa_aload_n d_X1_readSister_32 rfl) ?_
      refine xa_callVI (as := []) (st := []) (M' := mX1_badName) (d' := 3) rfl xw_718 xw_720 xw_9 xw_721 xw_168 xh_X1_badName rfl ⟨Nat.le_of_ble_eq_true rfl, Nat.le_of_ble_eq_true rfl⟩ (Nat.le_of_ble_eq_true rfl) rfl d_X1_readSister_33 (fun r hr => ct_X1_badName l G v0 r3.2 r hr) (fun r17 _ => ?_)
      refine xa_bo (fun q18 => ?_)
      exact xa_zret d_X1_readSister_36 rfl q18 rfl
theorem ct_X1_readSister (l : Launch) (G : xa_C) (v0 : Int) (h : xa_H) (r : Int × xa_H) (hr : f_X1_readSister v0 h = some r) : xa_CT l G 5 mX1_readSister yX1_readSister [xR v0] h (some (xI r.1), r.2) :=
  xa_met (by decide +kernel) rfl (fun q => by first | rfl | cases q) (Nat.le_of_ble_eq_true rfl) rfl (g_X1_readSister l G v0 h) (by rw [hr]; rfl)
abbrev mX1_readValue : xa_M := (cX1_readValue, 4, (some (.boolean)), RX1, false)
theorem d_X1_readValue_0 : decode mX1_readValue.1 0 = .ok (.aload_n 0, 1) ∧ 0 + 1 = 1 := ⟨by decide +kernel, rfl⟩
theorem d_X1_readValue_1 : decode mX1_readValue.1 1 = .ok (.getfield 15, 3) ∧ 1 + 3 = 4 := ⟨by decide +kernel, rfl⟩
theorem d_X1_readValue_4 : decode mX1_readValue.1 4 = .ok (.invokevirtual 106, 3) ∧ 4 + 3 = 7 := ⟨by decide +kernel, rfl⟩
theorem d_X1_readValue_7 : decode mX1_readValue.1 7 = .ok (.aload_n 0, 1) ∧ 7 + 1 = 8 := ⟨by decide +kernel, rfl⟩
theorem d_X1_readValue_8 : decode mX1_readValue.1 8 = .ok (.invokevirtual 144, 3) ∧ 8 + 3 = 11 := ⟨by decide +kernel, rfl⟩
theorem d_X1_readValue_11 : decode mX1_readValue.1 11 = .ok (.istore_n 1, 1) ∧ 11 + 1 = 12 := ⟨by decide +kernel, rfl⟩
theorem d_X1_readValue_12 : decode mX1_readValue.1 12 = .ok (.iload_n 1, 1) ∧ 12 + 1 = 13 := ⟨by decide +kernel, rfl⟩
theorem d_X1_readValue_13 : decode mX1_readValue.1 13 = .ok (.iconst (-1), 1) ∧ 13 + 1 = 14 := ⟨by decide +kernel, rfl⟩
theorem d_X1_readValue_14 : decode mX1_readValue.1 14 = .ok (.if_icmp .ne 5, 3) ∧ 14 + 3 = 17 ∧ ((14 : Nat) : Int) + 5 = ((19 : Nat) : Int) := ⟨by decide +kernel, rfl, rfl⟩
theorem d_X1_readValue_17 : decode mX1_readValue.1 17 = .ok (.iconst 0, 1) ∧ 17 + 1 = 18 := ⟨by decide +kernel, rfl⟩
theorem d_X1_readValue_18 : decode mX1_readValue.1 18 = .ok (.ireturn, 1) := by decide +kernel
theorem d_X1_readValue_19 : decode mX1_readValue.1 19 = .ok (.aload_n 0, 1) ∧ 19 + 1 = 20 := ⟨by decide +kernel, rfl⟩
theorem d_X1_readValue_20 : decode mX1_readValue.1 20 = .ok (.invokevirtual 125, 3) ∧ 20 + 3 = 23 := ⟨by decide +kernel, rfl⟩
theorem d_X1_readValue_23 : decode mX1_readValue.1 23 = .ok (.istore_n 2, 1) ∧ 23 + 1 = 24 := ⟨by decide +kernel, rfl⟩
theorem d_X1_readValue_24 : decode mX1_readValue.1 24 = .ok (.iload_n 2, 1) ∧ 24 + 1 = 25 := ⟨by decide +kernel, rfl⟩
theorem d_X1_readValue_25 : decode mX1_readValue.1 25 = .ok (.iconst (-1), 1) ∧ 25 + 1 = 26 := ⟨by decide +kernel, rfl⟩
theorem d_X1_readValue_26 : decode mX1_readValue.1 26 = .ok (.if_icmp .ne 5, 3) ∧ 26 + 3 = 29 ∧ ((26 : Nat) : Int) + 5 = ((31 : Nat) : Int) := ⟨by decide +kernel, rfl, rfl⟩
theorem d_X1_readValue_29 : decode mX1_readValue.1 29 = .ok (.iconst 0, 1) ∧ 29 + 1 = 30 := ⟨by decide +kernel, rfl⟩
theorem d_X1_readValue_30 : decode mX1_readValue.1 30 = .ok (.ireturn, 1) := by decide +kernel
theorem d_X1_readValue_31 : decode mX1_readValue.1 31 = .ok (.aload_n 0, 1) ∧ 31 + 1 = 32 := ⟨by decide +kernel, rfl⟩
theorem d_X1_readValue_32 : decode mX1_readValue.1 32 = .ok (.getfield 15, 3) ∧ 32 + 3 = 35 := ⟨by decide +kernel, rfl⟩
theorem d_X1_readValue_35 : decode mX1_readValue.1 35 = .ok (.bipush 99, 2) ∧ 35 + 2 = 37 := ⟨by decide +kernel, rfl⟩
theorem d_X1_readValue_37 : decode mX1_readValue.1 37 = .ok (.invokevirtual 117, 3) ∧ 37 + 3 = 40 := ⟨by decide +kernel, rfl⟩
theorem d_X1_readValue_40 : decode mX1_readValue.1 40 = .ok (.istore_n 3, 1) ∧ 40 + 1 = 41 := ⟨by decide +kernel, rfl⟩
theorem d_X1_readValue_41 : decode mX1_readValue.1 41 = .ok (.iload_n 3, 1) ∧ 41 + 1 = 42 := ⟨by decide +kernel, rfl⟩
theorem d_X1_readValue_42 : decode mX1_readValue.1 42 = .ok (.iconst (-1), 1) ∧ 42 + 1 = 43 := ⟨by decide +kernel, rfl⟩
theorem d_X1_readValue_43 : decode mX1_readValue.1 43 = .ok (.if_icmp .ne 5, 3) ∧ 43 + 3 = 46 ∧ ((43 : Nat) : Int) + 5 = ((48 : Nat) : Int) := ⟨by decide +kernel, rfl, rfl⟩
theorem d_X1_readValue_46 : decode mX1_readValue.1 46 = .ok (.iconst 0, 1) ∧ 46 + 1 = 47 := ⟨by decide +kernel, rfl⟩
theorem d_X1_readValue_47 : decode mX1_readValue.1 47 = .ok (.ireturn, 1) := by decide +kernel
theorem d_X1_readValue_48 : decode mX1_readValue.1 48 = .ok (.aload_n 0, 1) ∧ 48 + 1 = 49 := ⟨by decide +kernel, rfl⟩
theorem d_X1_readValue_49 : decode mX1_readValue.1 49 = .ok (.getfield 9, 3) ∧ 49 + 3 = 52 := ⟨by decide +kernel, rfl⟩
theorem d_X1_readValue_52 : decode mX1_readValue.1 52 = .ok (.getfield 147, 3) ∧ 52 + 3 = 55 := ⟨by decide +kernel, rfl⟩
theorem d_X1_readValue_55 : decode mX1_readValue.1 55 = .ok (.iload_n 1, 1) ∧ 55 + 1 = 56 := ⟨by decide +kernel, rfl⟩
theorem d_X1_readValue_56 : decode mX1_readValue.1 56 = .ok (.bipush 6, 2) ∧ 56 + 2 = 58 := ⟨by decide +kernel, rfl⟩
theorem d_X1_readValue_58 : decode mX1_readValue.1 58 = .ok (.imul, 1) ∧ 58 + 1 = 59 := ⟨by decide +kernel, rfl⟩
theorem d_X1_readValue_59 : decode mX1_readValue.1 59 = .ok (.iload_n 2, 1) ∧ 59 + 1 = 60 := ⟨by decide +kernel, rfl⟩
theorem d_X1_readValue_60 : decode mX1_readValue.1 60 = .ok (.iadd, 1) ∧ 60 + 1 = 61 := ⟨by decide +kernel, rfl⟩
theorem d_X1_readValue_61 : decode mX1_readValue.1 61 = .ok (.iload_n 3, 1) ∧ 61 + 1 = 62 := ⟨by decide +kernel, rfl⟩
theorem d_X1_readValue_62 : decode mX1_readValue.1 62 = .ok (.iastore, 1) ∧ 62 + 1 = 63 := ⟨by decide +kernel, rfl⟩
theorem d_X1_readValue_63 : decode mX1_readValue.1 63 = .ok (.iconst 1, 1) ∧ 63 + 1 = 64 := ⟨by decide +kernel, rfl⟩
theorem d_X1_readValue_64 : decode mX1_readValue.1 64 = .ok (.ireturn, 1) := by decide +kernel
set_option maxRecDepth 100000 in
set_option maxHeartbeats 4000000 in
theorem g_X1_readValue (l : Launch) (G : xa_C) (v0 : Int) (h : xa_H) : xa_G l G 5 mX1_readValue (f_X1_readValue v0 h) (fun r => some (some (xI r.1), r.2) : (Int × xa_H) → Option xa_O) 0 [some (xR v0), none, none, none] [] h := by
  unfold f_X1_readValue
  refine xa_step (xa_aload_n d_X1_readValue_0 rfl) ?_
  refine xa_getf xR xc_1 (by decide) (fun _ => rfl) xw_317 rfl d_X1_readValue_1 (fun x1 _ => ?_)
  refine xa_callVV (as := []) (st := []) (M' := mX6_step) (d' := 2) rfl xw_696 xw_677 xw_678 xw_679 xw_162 xh_X6_step rfl ⟨Nat.le_of_ble_eq_true rfl, Nat.le_of_ble_eq_true rfl⟩ (Nat.le_of_ble_eq_true rfl) rfl d_X1_readValue_4 (fun r hr => ct_X6_step l G x1 h r hr) (fun r2 _ => ?_)
  refine xa_step (xa_aload_n d_X1_readValue_7 rfl) ?_
  refine xa_callVI (as := []) (st := []) (M' := mX1_knownHolder) (d' := 4) rfl xw_754 xw_756 xw_13 xw_757 xw_168 xh_X1_knownHolder rfl ⟨Nat.le_of_ble_eq_true rfl, Nat.le_of_ble_eq_true rfl⟩ (Nat.le_of_ble_eq_true rfl) rfl d_X1_readValue_8 (fun r hr => ct_X1_knownHolder l G v0 r2 r hr) (fun r3 _ => ?_)
  refine xa_step (xa_istore_n (ls' := [some (xR v0), some (xI r3.1), none, none]) d_X1_readValue_11 (by decide) rfl) ?_
  refine xa_step (xa_iload_n d_X1_readValue_12 rfl) ?_
  refine xa_step (xa_iconst d_X1_readValue_13 xq_i_m1) ?_
  refine xa_if (xa_icmpne d_X1_readValue_14) (fun q4 => ?_) (fun q4 => ?_)
  · refine xa_step (xa_iconst d_X1_readValue_17 xq_i_0) ?_
    exact xa_zret d_X1_readValue_18 rfl (Or.inl rfl) rfl
  · refine xa_step (xa_aload_n d_X1_readValue_19 rfl) ?_
    refine xa_callVI (as := []) (st := []) (M' := mX1_knownHeld) (d' := 4) rfl xw_738 xw_740 xw_11 xw_741 xw_168 xh_X1_knownHeld rfl ⟨Nat.le_of_ble_eq_true rfl, Nat.le_of_ble_eq_true rfl⟩ (Nat.le_of_ble_eq_true rfl) rfl d_X1_readValue_20 (fun r hr => ct_X1_knownHeld l G v0 r3.2 r hr) (fun r5 _ => ?_)
    refine xa_step (xa_istore_n (ls' := [some (xR v0), some (xI r3.1), some (xI r5.1), none]) d_X1_readValue_23 (by decide) rfl) ?_
    refine xa_step (xa_iload_n d_X1_readValue_24 rfl) ?_
    refine xa_step (xa_iconst d_X1_readValue_25 xq_i_m1) ?_
    refine xa_if (xa_icmpne d_X1_readValue_26) (fun q6 => ?_) (fun q6 => ?_)
    · refine xa_step (xa_iconst d_X1_readValue_29 xq_i_0) ?_
      exact xa_zret d_X1_readValue_30 rfl (Or.inl rfl) rfl
    · refine xa_step (xa_aload_n d_X1_readValue_31 rfl) ?_
      refine xa_getf xR xc_1 (by decide) (fun _ => rfl) xw_317 rfl d_X1_readValue_32 (fun x7 _ => ?_)
      refine xa_step (xa_bipush d_X1_readValue_35 xq_b_99) ?_
      refine xa_callVI (as := [xI 99]) (st := []) (M' := mX6_needNumber) (d' := 3) rfl xw_726 xw_727 xw_728 xw_729 xw_162 xh_X6_needNumber rfl ⟨Nat.le_of_ble_eq_true rfl, Nat.le_of_ble_eq_true rfl⟩ (Nat.le_of_ble_eq_true rfl) rfl d_X1_readValue_37 (fun r hr => ct_X6_needNumber l G x7 99 r5.2 r hr) (fun r8 _ => ?_)
      refine xa_step (xa_istore_n (ls' := [some (xR v0), some (xI r3.1), some (xI r5.1), some (xI r8.1)]) d_X1_readValue_40 (by decide) rfl) ?_
      refine xa_step (xa_iload_n d_X1_readValue_41 rfl) ?_
      refine xa_step (xa_iconst d_X1_readValue_42 xq_i_m1) ?_
      refine xa_if (xa_icmpne d_X1_readValue_43) (fun q9 => ?_) (fun q9 => ?_)
      · refine xa_step (xa_iconst d_X1_readValue_46 xq_i_0) ?_
        exact xa_zret d_X1_readValue_47 rfl (Or.inl rfl) rfl
      · refine xa_step (xa_aload_n d_X1_readValue_48 rfl) ?_
        refine xa_getf xR xc_1 (by decide) (fun _ => rfl) xw_319 rfl d_X1_readValue_49 (fun x10 _ => ?_)
        refine xa_getf xR xc_0 (by decide) (fun _ => rfl) xw_409 rfl d_X1_readValue_52 (fun x11 _ => ?_)
        refine xa_step (xa_iload_n d_X1_readValue_55 rfl) ?_
        refine xa_step (xa_bipush d_X1_readValue_56 xq_b_6) ?_
        refine xa_step (xa_imul d_X1_readValue_58) ?_
        refine xa_step (xa_iload_n d_X1_readValue_59 rfl) ?_
        refine xa_step (xa_iadd d_X1_readValue_60) ?_
        refine xa_step (xa_iload_n d_X1_readValue_61 rfl) ?_
        refine xa_iastore2 d_X1_readValue_62 (fun h12 _ => ?_)
        refine xa_step (xa_iconst d_X1_readValue_63 xq_i_1) ?_
        exact xa_zret d_X1_readValue_64 rfl (Or.inr rfl) rfl
theorem ct_X1_readValue (l : Launch) (G : xa_C) (v0 : Int) (h : xa_H) (r : Int × xa_H) (hr : f_X1_readValue v0 h = some r) : xa_CT l G 5 mX1_readValue yX1_readValue [xR v0] h (some (xI r.1), r.2) :=
  xa_met (by decide +kernel) rfl (fun q => by first | rfl | cases q) (Nat.le_of_ble_eq_true rfl) rfl (g_X1_readValue l G v0 h) (by rw [hr]; rfl)
abbrev mX1_tooMany : xa_M := (cX1_tooMany, 1, (some (.boolean)), RX1, false)
theorem d_X1_tooMany_0 : decode mX1_tooMany.1 0 = .ok (.aload_n 0, 1) ∧ 0 + 1 = 1 := ⟨by decide +kernel, rfl⟩
theorem d_X1_tooMany_1 : decode mX1_tooMany.1 1 = .ok (.getfield 15, 3) ∧ 1 + 3 = 4 := ⟨by decide +kernel, rfl⟩
theorem d_X1_tooMany_4 : decode mX1_tooMany.1 4 = .ok (.iconst 5, 1) ∧ 4 + 1 = 5 := ⟨by decide +kernel, rfl⟩
theorem d_X1_tooMany_5 : decode mX1_tooMany.1 5 = .ok (.aload_n 0, 1) ∧ 5 + 1 = 6 := ⟨by decide +kernel, rfl⟩
theorem d_X1_tooMany_6 : decode mX1_tooMany.1 6 = .ok (.getfield 15, 3) ∧ 6 + 3 = 9 := ⟨by decide +kernel, rfl⟩
theorem d_X1_tooMany_9 : decode mX1_tooMany.1 9 = .ok (.getfield 99, 3) ∧ 9 + 3 = 12 := ⟨by decide +kernel, rfl⟩
theorem d_X1_tooMany_12 : decode mX1_tooMany.1 12 = .ok (.invokevirtual 102, 3) ∧ 12 + 3 = 15 := ⟨by decide +kernel, rfl⟩
theorem d_X1_tooMany_15 : decode mX1_tooMany.1 15 = .ok (.ireturn, 1) := by decide +kernel
set_option maxRecDepth 100000 in
set_option maxHeartbeats 4000000 in
theorem g_X1_tooMany (l : Launch) (G : xa_C) (v0 : Int) (h : xa_H) : xa_G l G 3 mX1_tooMany (f_X1_tooMany v0 h) (fun r => some (some (xI r.1), r.2) : (Int × xa_H) → Option xa_O) 0 [some (xR v0)] [] h := by
  unfold f_X1_tooMany
  refine xa_step (xa_aload_n d_X1_tooMany_0 rfl) ?_
  refine xa_getf xR xc_1 (by decide) (fun _ => rfl) xw_317 rfl d_X1_tooMany_1 (fun x1 _ => ?_)
  refine xa_step (xa_iconst d_X1_tooMany_4 xq_i_5) ?_
  refine xa_step (xa_aload_n d_X1_tooMany_5 rfl) ?_
  refine xa_getf xR xc_1 (by decide) (fun _ => rfl) xw_317 rfl d_X1_tooMany_6 (fun x2 _ => ?_)
  refine xa_getf xI xc_6 (by decide) (fun _ => rfl) xw_253 rfl d_X1_tooMany_9 (fun x3 _ => ?_)
  refine xa_callVI (as := [xI 5, xI x3]) (st := []) (M' := mX6_refuse) (d' := 2) rfl xw_684 xw_685 xw_686 xw_687 xw_162 xh_X6_refuse rfl ⟨Nat.le_of_ble_eq_true rfl, Nat.le_of_ble_eq_true rfl⟩ (Nat.le_of_ble_eq_true rfl) rfl d_X1_tooMany_12 (fun r hr => ct_X6_refuse l G x1 5 x3 h r hr) (fun r4 _ => ?_)
  refine xa_bo (fun q5 => ?_)
  exact xa_zret d_X1_tooMany_15 rfl q5 rfl
theorem ct_X1_tooMany (l : Launch) (G : xa_C) (v0 : Int) (h : xa_H) (r : Int × xa_H) (hr : f_X1_tooMany v0 h = some r) : xa_CT l G 3 mX1_tooMany yX1_tooMany [xR v0] h (some (xI r.1), r.2) :=
  xa_met (by decide +kernel) rfl (fun q => by first | rfl | cases q) (Nat.le_of_ble_eq_true rfl) rfl (g_X1_tooMany l G v0 h) (by rw [hr]; rfl)
