abbrev mX3_readTest : xa_M := (cX3_readTest, 2, (some (.object "WrongCook$Formula")), RX3, false)
theorem d_X3_readTest_0 : decode mX3_readTest.1 0 = .ok (.aload_n 0, 1) ∧ 0 + 1 = 1 := ⟨by decide +kernel, rfl⟩
theorem d_X3_readTest_1 : decode mX3_readTest.1 1 = .ok (.iload_n 1, 1) ∧ 1 + 1 = 2 := ⟨by decide +kernel, rfl⟩
theorem d_X3_readTest_2 : decode mX3_readTest.1 2 = .ok (.putfield 19, 3) ∧ 2 + 3 = 5 := ⟨by decide +kernel, rfl⟩
theorem d_X3_readTest_5 : decode mX3_readTest.1 5 = .ok (.aload_n 0, 1) ∧ 5 + 1 = 6 := ⟨by decide +kernel, rfl⟩
theorem d_X3_readTest_6 : decode mX3_readTest.1 6 = .ok (.iconst 0, 1) ∧ 6 + 1 = 7 := ⟨by decide +kernel, rfl⟩
theorem d_X3_readTest_7 : decode mX3_readTest.1 7 = .ok (.putfield 23, 3) ∧ 7 + 3 = 10 := ⟨by decide +kernel, rfl⟩
theorem d_X3_readTest_10 : decode mX3_readTest.1 10 = .ok (.aload_n 0, 1) ∧ 10 + 1 = 11 := ⟨by decide +kernel, rfl⟩
theorem d_X3_readTest_11 : decode mX3_readTest.1 11 = .ok (.getfield 15, 3) ∧ 11 + 3 = 14 := ⟨by decide +kernel, rfl⟩
theorem d_X3_readTest_14 : decode mX3_readTest.1 14 = .ok (.invokevirtual 27, 3) ∧ 14 + 3 = 17 := ⟨by decide +kernel, rfl⟩
theorem d_X3_readTest_17 : decode mX3_readTest.1 17 = .ok (.aload_n 0, 1) ∧ 17 + 1 = 18 := ⟨by decide +kernel, rfl⟩
theorem d_X3_readTest_18 : decode mX3_readTest.1 18 = .ok (.iconst 0, 1) ∧ 18 + 1 = 19 := ⟨by decide +kernel, rfl⟩
theorem d_X3_readTest_19 : decode mX3_readTest.1 19 = .ok (.invokevirtual 32, 3) ∧ 19 + 3 = 22 := ⟨by decide +kernel, rfl⟩
theorem d_X3_readTest_22 : decode mX3_readTest.1 22 = .ok (.ifCond .eq 24, 3) ∧ 22 + 3 = 25 ∧ ((22 : Nat) : Int) + 24 = ((46 : Nat) : Int) := ⟨by decide +kernel, rfl, rfl⟩
theorem d_X3_readTest_46 : decode mX3_readTest.1 46 = .ok (.aconst_null, 1) ∧ 46 + 1 = 47 := ⟨by decide +kernel, rfl⟩
theorem d_X3_readTest_47 : decode mX3_readTest.1 47 = .ok (.areturn, 1) := by decide +kernel
theorem d_X3_readTest_25 : decode mX3_readTest.1 25 = .ok (.new 36, 3) ∧ 25 + 3 = 28 := ⟨by decide +kernel, rfl⟩
theorem d_X3_readTest_28 : decode mX3_readTest.1 28 = .ok (.dup, 1) ∧ 28 + 1 = 29 := ⟨by decide +kernel, rfl⟩
theorem d_X3_readTest_29 : decode mX3_readTest.1 29 = .ok (.aload_n 0, 1) ∧ 29 + 1 = 30 := ⟨by decide +kernel, rfl⟩
theorem d_X3_readTest_30 : decode mX3_readTest.1 30 = .ok (.getfield 9, 3) ∧ 30 + 3 = 33 := ⟨by decide +kernel, rfl⟩
theorem d_X3_readTest_33 : decode mX3_readTest.1 33 = .ok (.aload_n 0, 1) ∧ 33 + 1 = 34 := ⟨by decide +kernel, rfl⟩
theorem d_X3_readTest_34 : decode mX3_readTest.1 34 = .ok (.getfield 23, 3) ∧ 34 + 3 = 37 := ⟨by decide +kernel, rfl⟩
theorem d_X3_readTest_37 : decode mX3_readTest.1 37 = .ok (.invokestatic 38, 3) ∧ 37 + 3 = 40 := ⟨by decide +kernel, rfl⟩
theorem d_X3_readTest_40 : decode mX3_readTest.1 40 = .ok (.invokespecial 44, 3) ∧ 40 + 3 = 43 := ⟨by decide +kernel, rfl⟩
theorem d_X3_readTest_43 : decode mX3_readTest.1 43 = .ok (.goto 4, 3) ∧ ((43 : Nat) : Int) + 4 = ((47 : Nat) : Int) := ⟨by decide +kernel, rfl⟩
set_option maxRecDepth 100000 in
set_option maxHeartbeats 4000000 in
theorem g_X3_readTest (l : Launch) (G : xa_C) (v0 v1 : Int) (h : xa_H) : xa_G l G 65 mX3_readTest (f_X3_readTest v0 v1 h) (fun r => some (some (xR r.1), r.2) : (Int × xa_H) → Option xa_O) 0 [some (xR v0), some (xI v1)] [] h := by
  unfold f_X3_readTest
  refine xa_step (xa_aload_n d_X3_readTest_0 rfl) ?_
  refine xa_step (xa_iload_n d_X3_readTest_1 rfl) ?_
  refine xa_bo (fun q2 => ?_)
  refine xa_putf2 (tg := xI) xc_3 (by decide) (fun _ => rfl) rfl (fun c hc => (xa_fitZ q2) c hc) xw_301 rfl d_X3_readTest_2 (fun h1 _ => ?_)
  refine xa_step (xa_aload_n d_X3_readTest_5 rfl) ?_
  refine xa_step (xa_iconst d_X3_readTest_6 xq_i_0) ?_
  refine xa_putf2 (tg := xI) xc_3 (by decide) (fun _ => rfl) rfl (fun c hc => xa_fitI c hc) xw_300 rfl d_X3_readTest_7 (fun h3 _ => ?_)
  refine xa_step (xa_aload_n d_X3_readTest_10 rfl) ?_
  refine xa_getf xR xc_3 (by decide) (fun _ => rfl) xw_298 rfl d_X3_readTest_11 (fun x4 _ => ?_)
  refine xa_callVV (as := []) (st := []) (M' := mX6_step) (d' := 2) rfl xw_778 xw_677 xw_678 xw_679 xw_162 xh_X6_step rfl ⟨Nat.le_of_ble_eq_true rfl, Nat.le_of_ble_eq_true rfl⟩ (Nat.le_of_ble_eq_true rfl) rfl d_X3_readTest_14 (fun r hr => ct_X6_step l G x4 h3 r hr) (fun r5 _ => ?_)
  refine xa_step (xa_aload_n d_X3_readTest_17 rfl) ?_
  refine xa_step (xa_iconst d_X3_readTest_18 xq_i_0) ?_
  refine xa_callVI (as := [xI 0]) (st := []) (M' := mX3_test) (d' := 64) rfl xw_779 xw_781 xw_16 xw_782 xw_167 xh_X3_test rfl ⟨Nat.le_of_ble_eq_true rfl, Nat.le_of_ble_eq_true rfl⟩ (Nat.le_of_ble_eq_true rfl) rfl d_X3_readTest_19 (fun r hr => ct_rec l G 60 0 v0 0 r5 r hr) (fun r6 _ => ?_)
  refine xa_if (xa_ifeq d_X3_readTest_22) (fun q7 => ?_) (fun q7 => ?_)
  · refine xa_step (xa_null d_X3_readTest_46) ?_
    exact xa_aret d_X3_readTest_47 rfl (Or.inl ⟨_, rfl⟩) rfl
  · refine xa_newO xc_2 xt_2 xw_834 xw_835 xw_178 d_X3_readTest_25 (fun h8 _ => ?_)
    refine xa_step (xa_dup d_X3_readTest_28 (xa_tR _)) ?_
    refine xa_step (xa_aload_n d_X3_readTest_29 rfl) ?_
    refine xa_getf xR xc_3 (by decide) (fun _ => rfl) xw_299 rfl d_X3_readTest_30 (fun x9 _ => ?_)
    refine xa_step (xa_aload_n d_X3_readTest_33 rfl) ?_
    refine xa_getf xI xc_3 (by decide) (fun _ => rfl) xw_300 rfl d_X3_readTest_34 (fun x10 _ => ?_)
    refine xa_callSR (as := [xR x9, xI x10]) (st := [xR ((xn r6.2 : Int)), xR ((xn r6.2 : Int))]) (M' := mJ7_copyOf_59c91) (d' := 2) xw_836 xw_837 xw_838 xw_171 xh_J7_copyOf_59c91 rfl ⟨Nat.le_of_ble_eq_true rfl, Nat.le_of_ble_eq_true rfl⟩ (Nat.le_of_ble_eq_true rfl) rfl d_X3_readTest_37 (fun r hr => ct_J7_copyOf_59c91 l G x9 x10 h8 r hr) (fun r11 _ => ?_)
    refine xa_callIV (nn := xn r6.2) (as := [xR r11.1]) (st := [xR ((xn r6.2 : Int))]) (M' := mX2_init) (d' := 2) rfl rfl xw_852 xw_853 xw_854 xw_178 xh_X2_init rfl ⟨Nat.le_of_ble_eq_true rfl, Nat.le_of_ble_eq_true rfl⟩ (Nat.le_of_ble_eq_true rfl) rfl d_X3_readTest_40 (fun r hr => ct_X2_init l G ((xn r6.2 : Int)) r11.1 r11.2 r hr) (fun r12 _ => ?_)
    refine xa_step (xa_goto d_X3_readTest_43) ?_
    exact xa_aret d_X3_readTest_47 rfl (Or.inl ⟨_, rfl⟩) rfl
theorem ct_X3_readTest (l : Launch) (G : xa_C) (v0 v1 : Int) (h : xa_H) (r : Int × xa_H) (hr : f_X3_readTest v0 v1 h = some r) : xa_CT l G 65 mX3_readTest yX3_readTest [xR v0, xI v1] h (some (xR r.1), r.2) :=
  xa_met (by decide +kernel) rfl (fun q => by first | rfl | cases q) (Nat.le_of_ble_eq_true rfl) rfl (g_X3_readTest l G v0 v1 h) (by rw [hr]; rfl)
abbrev mX6_begin : xa_M := (cX6_begin, 2, none, RX6, false)
theorem d_X6_begin_0 : decode mX6_begin.1 0 = .ok (.aload_n 0, 1) ∧ 0 + 1 = 1 := ⟨by decide +kernel, rfl⟩
theorem d_X6_begin_1 : decode mX6_begin.1 1 = .ok (.iload_n 1, 1) ∧ 1 + 1 = 2 := ⟨by decide +kernel, rfl⟩
theorem d_X6_begin_2 : decode mX6_begin.1 2 = .ok (.putfield 38, 3) ∧ 2 + 3 = 5 := ⟨by decide +kernel, rfl⟩
theorem d_X6_begin_5 : decode mX6_begin.1 5 = .ok (.aload_n 0, 1) ∧ 5 + 1 = 6 := ⟨by decide +kernel, rfl⟩
theorem d_X6_begin_6 : decode mX6_begin.1 6 = .ok (.iconst 0, 1) ∧ 6 + 1 = 7 := ⟨by decide +kernel, rfl⟩
theorem d_X6_begin_7 : decode mX6_begin.1 7 = .ok (.putfield 19, 3) ∧ 7 + 3 = 10 := ⟨by decide +kernel, rfl⟩
theorem d_X6_begin_10 : decode mX6_begin.1 10 = .ok (.aload_n 0, 1) ∧ 10 + 1 = 11 := ⟨by decide +kernel, rfl⟩
theorem d_X6_begin_11 : decode mX6_begin.1 11 = .ok (.iconst (-1), 1) ∧ 11 + 1 = 12 := ⟨by decide +kernel, rfl⟩
theorem d_X6_begin_12 : decode mX6_begin.1 12 = .ok (.putfield 23, 3) ∧ 12 + 3 = 15 := ⟨by decide +kernel, rfl⟩
theorem d_X6_begin_15 : decode mX6_begin.1 15 = .ok (.aload_n 0, 1) ∧ 15 + 1 = 16 := ⟨by decide +kernel, rfl⟩
theorem d_X6_begin_16 : decode mX6_begin.1 16 = .ok (.iconst 3, 1) ∧ 16 + 1 = 17 := ⟨by decide +kernel, rfl⟩
theorem d_X6_begin_17 : decode mX6_begin.1 17 = .ok (.putfield 41, 3) ∧ 17 + 3 = 20 := ⟨by decide +kernel, rfl⟩
theorem d_X6_begin_20 : decode mX6_begin.1 20 = .ok (.aload_n 0, 1) ∧ 20 + 1 = 21 := ⟨by decide +kernel, rfl⟩
theorem d_X6_begin_21 : decode mX6_begin.1 21 = .ok (.iconst 0, 1) ∧ 21 + 1 = 22 := ⟨by decide +kernel, rfl⟩
theorem d_X6_begin_22 : decode mX6_begin.1 22 = .ok (.putfield 44, 3) ∧ 22 + 3 = 25 := ⟨by decide +kernel, rfl⟩
theorem d_X6_begin_25 : decode mX6_begin.1 25 = .ok (.aload_n 0, 1) ∧ 25 + 1 = 26 := ⟨by decide +kernel, rfl⟩
theorem d_X6_begin_26 : decode mX6_begin.1 26 = .ok (.invokevirtual 47, 3) ∧ 26 + 3 = 29 := ⟨by decide +kernel, rfl⟩
theorem d_X6_begin_29 : decode mX6_begin.1 29 = .ok (.return_, 1) := by decide +kernel
set_option maxRecDepth 100000 in
set_option maxHeartbeats 4000000 in
theorem g_X6_begin (l : Launch) (G : xa_C) (v0 v1 : Int) (h : xa_H) : xa_G l G 3 mX6_begin (f_X6_begin v0 v1 h) (fun r => some (none, r) : xa_H → Option xa_O) 0 [some (xR v0), some (xI v1)] [] h := by
  unfold f_X6_begin
  refine xa_step (xa_aload_n d_X6_begin_0 rfl) ?_
  refine xa_step (xa_iload_n d_X6_begin_1 rfl) ?_
  refine xa_putf2 (tg := xI) xc_6 (by decide) (fun _ => rfl) rfl (fun c hc => xa_fitI c hc) xw_247 rfl d_X6_begin_2 (fun h1 _ => ?_)
  refine xa_step (xa_aload_n d_X6_begin_5 rfl) ?_
  refine xa_step (xa_iconst d_X6_begin_6 xq_i_0) ?_
  refine xa_putf2 (tg := xI) xc_6 (by decide) (fun _ => rfl) rfl (fun c hc => xa_fitI c hc) xw_263 rfl d_X6_begin_7 (fun h2 _ => ?_)
  refine xa_step (xa_aload_n d_X6_begin_10 rfl) ?_
  refine xa_step (xa_iconst d_X6_begin_11 xq_i_m1) ?_
  refine xa_putf2 (tg := xI) xc_6 (by decide) (fun _ => rfl) rfl (fun c hc => xa_fitI c hc) xw_265 rfl d_X6_begin_12 (fun h3 _ => ?_)
  refine xa_step (xa_aload_n d_X6_begin_15 rfl) ?_
  refine xa_step (xa_iconst d_X6_begin_16 xq_i_3) ?_
  refine xa_putf2 (tg := xI) xc_6 (by decide) (fun _ => rfl) rfl (fun c hc => xa_fitI c hc) xw_248 rfl d_X6_begin_17 (fun h4 _ => ?_)
  refine xa_step (xa_aload_n d_X6_begin_20 rfl) ?_
  refine xa_step (xa_iconst d_X6_begin_21 xq_i_0) ?_
  refine xa_putf2 (tg := xI) xc_6 (by decide) (fun _ => rfl) rfl (fun c hc => xa_fitI c hc) xw_255 rfl d_X6_begin_22 (fun h5 _ => ?_)
  refine xa_step (xa_aload_n d_X6_begin_25 rfl) ?_
  refine xa_callVV (as := []) (st := []) (M' := mX6_step) (d' := 2) rfl xw_676 xw_677 xw_678 xw_679 xw_162 xh_X6_step rfl ⟨Nat.le_of_ble_eq_true rfl, Nat.le_of_ble_eq_true rfl⟩ (Nat.le_of_ble_eq_true rfl) rfl d_X6_begin_26 (fun r hr => ct_X6_step l G v0 h5 r hr) (fun r6 _ => ?_)
  exact xa_vret d_X6_begin_29 rfl rfl
theorem ct_X6_begin (l : Launch) (G : xa_C) (v0 v1 : Int) (h : xa_H) (r : xa_H) (hr : f_X6_begin v0 v1 h = some r) : xa_CT l G 3 mX6_begin yX6_begin [xR v0, xI v1] h (none, r) :=
  xa_met (by decide +kernel) rfl (fun q => by first | rfl | cases q) (Nat.le_of_ble_eq_true rfl) rfl (g_X6_begin l G v0 v1 h) (by rw [hr]; rfl)
abbrev mX11_ask : xa_M := (cX11_ask, 5, (some (.long)), RX11, false)
theorem d_X11_ask_0 : decode mX11_ask.1 0 = .ok (.aload_n 0, 1) ∧ 0 + 1 = 1 := ⟨by decide +kernel, rfl⟩
theorem d_X11_ask_1 : decode mX11_ask.1 1 = .ok (.getfield 22, 3) ∧ 1 + 3 = 4 := ⟨by decide +kernel, rfl⟩
theorem d_X11_ask_4 : decode mX11_ask.1 4 = .ok (.aload_n 0, 1) ∧ 4 + 1 = 5 := ⟨by decide +kernel, rfl⟩
theorem d_X11_ask_5 : decode mX11_ask.1 5 = .ok (.invokevirtual 126, 3) ∧ 5 + 3 = 8 := ⟨by decide +kernel, rfl⟩
theorem d_X11_ask_8 : decode mX11_ask.1 8 = .ok (.invokevirtual 338, 3) ∧ 8 + 3 = 11 := ⟨by decide +kernel, rfl⟩
theorem d_X11_ask_11 : decode mX11_ask.1 11 = .ok (.aload_n 0, 1) ∧ 11 + 1 = 12 := ⟨by decide +kernel, rfl⟩
theorem d_X11_ask_12 : decode mX11_ask.1 12 = .ok (.getfield 22, 3) ∧ 12 + 3 = 15 := ⟨by decide +kernel, rfl⟩
theorem d_X11_ask_15 : decode mX11_ask.1 15 = .ok (.getfield 341, 3) ∧ 15 + 3 = 18 := ⟨by decide +kernel, rfl⟩
theorem d_X11_ask_18 : decode mX11_ask.1 18 = .ok (.istore_n 1, 1) ∧ 18 + 1 = 19 := ⟨by decide +kernel, rfl⟩
theorem d_X11_ask_19 : decode mX11_ask.1 19 = .ok (.iload_n 1, 1) ∧ 19 + 1 = 20 := ⟨by decide +kernel, rfl⟩
theorem d_X11_ask_20 : decode mX11_ask.1 20 = .ok (.bipush 23, 2) ∧ 20 + 2 = 22 := ⟨by decide +kernel, rfl⟩
theorem d_X11_ask_22 : decode mX11_ask.1 22 = .ok (.if_icmp .eq 15, 3) ∧ 22 + 3 = 25 ∧ ((22 : Nat) : Int) + 15 = ((37 : Nat) : Int) := ⟨by decide +kernel, rfl, rfl⟩
theorem d_X11_ask_37 : decode mX11_ask.1 37 = .ok (.iconst 1, 1) ∧ 37 + 1 = 38 := ⟨by decide +kernel, rfl⟩
theorem d_X11_ask_38 : decode mX11_ask.1 38 = .ok (.goto 4, 3) ∧ ((38 : Nat) : Int) + 4 = ((42 : Nat) : Int) := ⟨by decide +kernel, rfl⟩
theorem d_X11_ask_42 : decode mX11_ask.1 42 = .ok (.istore_n 2, 1) ∧ 42 + 1 = 43 := ⟨by decide +kernel, rfl⟩
theorem d_X11_ask_43 : decode mX11_ask.1 43 = .ok (.iload_n 1, 1) ∧ 43 + 1 = 44 := ⟨by decide +kernel, rfl⟩
theorem d_X11_ask_44 : decode mX11_ask.1 44 = .ok (.bipush 26, 2) ∧ 44 + 2 = 46 := ⟨by decide +kernel, rfl⟩
theorem d_X11_ask_46 : decode mX11_ask.1 46 = .ok (.if_icmp .eq 15, 3) ∧ 46 + 3 = 49 ∧ ((46 : Nat) : Int) + 15 = ((61 : Nat) : Int) := ⟨by decide +kernel, rfl, rfl⟩
theorem d_X11_ask_61 : decode mX11_ask.1 61 = .ok (.iconst 1, 1) ∧ 61 + 1 = 62 := ⟨by decide +kernel, rfl⟩
theorem d_X11_ask_62 : decode mX11_ask.1 62 = .ok (.goto 4, 3) ∧ ((62 : Nat) : Int) + 4 = ((66 : Nat) : Int) := ⟨by decide +kernel, rfl⟩
theorem d_X11_ask_66 : decode mX11_ask.1 66 = .ok (.istore_n 3, 1) ∧ 66 + 1 = 67 := ⟨by decide +kernel, rfl⟩
theorem d_X11_ask_67 : decode mX11_ask.1 67 = .ok (.iload_n 2, 1) ∧ 67 + 1 = 68 := ⟨by decide +kernel, rfl⟩
theorem d_X11_ask_68 : decode mX11_ask.1 68 = .ok (.ifCond .ne 19, 3) ∧ 68 + 3 = 71 ∧ ((68 : Nat) : Int) + 19 = ((87 : Nat) : Int) := ⟨by decide +kernel, rfl, rfl⟩
theorem d_X11_ask_71 : decode mX11_ask.1 71 = .ok (.iload_n 3, 1) ∧ 71 + 1 = 72 := ⟨by decide +kernel, rfl⟩
theorem d_X11_ask_72 : decode mX11_ask.1 72 = .ok (.ifCond .ne 15, 3) ∧ 72 + 3 = 75 ∧ ((72 : Nat) : Int) + 15 = ((87 : Nat) : Int) := ⟨by decide +kernel, rfl, rfl⟩
theorem d_X11_ask_75 : decode mX11_ask.1 75 = .ok (.aload_n 0, 1) ∧ 75 + 1 = 76 := ⟨by decide +kernel, rfl⟩
theorem d_X11_ask_76 : decode mX11_ask.1 76 = .ok (.getfield 22, 3) ∧ 76 + 3 = 79 := ⟨by decide +kernel, rfl⟩
theorem d_X11_ask_79 : decode mX11_ask.1 79 = .ok (.invokevirtual 344, 3) ∧ 79 + 3 = 82 := ⟨by decide +kernel, rfl⟩
theorem d_X11_ask_82 : decode mX11_ask.1 82 = .ok (.pop, 1) ∧ 82 + 1 = 83 := ⟨by decide +kernel, rfl⟩
theorem d_X11_ask_83 : decode mX11_ask.1 83 = .ok (.ldc2_w 347, 3) ∧ 83 + 3 = 86 := ⟨by decide +kernel, rfl⟩
theorem d_X11_ask_86 : decode mX11_ask.1 86 = .ok (.lreturn, 1) := by decide +kernel
theorem d_X11_ask_87 : decode mX11_ask.1 87 = .ok (.iload_n 2, 1) ∧ 87 + 1 = 88 := ⟨by decide +kernel, rfl⟩
theorem d_X11_ask_88 : decode mX11_ask.1 88 = .ok (.ifCond .eq 14, 3) ∧ 88 + 3 = 91 ∧ ((88 : Nat) : Int) + 14 = ((102 : Nat) : Int) := ⟨by decide +kernel, rfl, rfl⟩
theorem d_X11_ask_102 : decode mX11_ask.1 102 = .ok (.aload_n 0, 1) ∧ 102 + 1 = 103 := ⟨by decide +kernel, rfl⟩
theorem d_X11_ask_103 : decode mX11_ask.1 103 = .ok (.getfield 31, 3) ∧ 103 + 3 = 106 := ⟨by decide +kernel, rfl⟩
theorem d_X11_ask_106 : decode mX11_ask.1 106 = .ok (.iconst 1, 1) ∧ 106 + 1 = 107 := ⟨by decide +kernel, rfl⟩
theorem d_X11_ask_107 : decode mX11_ask.1 107 = .ok (.invokevirtual 353, 3) ∧ 107 + 3 = 110 := ⟨by decide +kernel, rfl⟩
theorem d_X11_ask_110 : decode mX11_ask.1 110 = .ok (.astore 4, 2) ∧ 110 + 2 = 112 := ⟨by decide +kernel, rfl⟩
theorem d_X11_ask_112 : decode mX11_ask.1 112 = .ok (.aload 4, 2) ∧ 112 + 2 = 114 := ⟨by decide +kernel, rfl⟩
theorem d_X11_ask_114 : decode mX11_ask.1 114 = .ok (.ifnonnull 7, 3) ∧ 114 + 3 = 117 ∧ ((114 : Nat) : Int) + 7 = ((121 : Nat) : Int) := ⟨by decide +kernel, rfl, rfl⟩
theorem d_X11_ask_117 : decode mX11_ask.1 117 = .ok (.ldc2_w 347, 3) ∧ 117 + 3 = 120 := ⟨by decide +kernel, rfl⟩
theorem d_X11_ask_120 : decode mX11_ask.1 120 = .ok (.lreturn, 1) := by decide +kernel
theorem d_X11_ask_121 : decode mX11_ask.1 121 = .ok (.aload_n 0, 1) ∧ 121 + 1 = 122 := ⟨by decide +kernel, rfl⟩
theorem d_X11_ask_122 : decode mX11_ask.1 122 = .ok (.getfield 22, 3) ∧ 122 + 3 = 125 := ⟨by decide +kernel, rfl⟩
theorem d_X11_ask_125 : decode mX11_ask.1 125 = .ok (.getfield 356, 3) ∧ 125 + 3 = 128 := ⟨by decide +kernel, rfl⟩
theorem d_X11_ask_128 : decode mX11_ask.1 128 = .ok (.ifCond .eq 15, 3) ∧ 128 + 3 = 131 ∧ ((128 : Nat) : Int) + 15 = ((143 : Nat) : Int) := ⟨by decide +kernel, rfl, rfl⟩
theorem d_X11_ask_143 : decode mX11_ask.1 143 = .ok (.iload_n 2, 1) ∧ 143 + 1 = 144 := ⟨by decide +kernel, rfl⟩
theorem d_X11_ask_144 : decode mX11_ask.1 144 = .ok (.ifCond .eq 13, 3) ∧ 144 + 3 = 147 ∧ ((144 : Nat) : Int) + 13 = ((157 : Nat) : Int) := ⟨by decide +kernel, rfl, rfl⟩
theorem d_X11_ask_157 : decode mX11_ask.1 157 = .ok (.aload_n 0, 1) ∧ 157 + 1 = 158 := ⟨by decide +kernel, rfl⟩
theorem d_X11_ask_158 : decode mX11_ask.1 158 = .ok (.iload_n 1, 1) ∧ 158 + 1 = 159 := ⟨by decide +kernel, rfl⟩
theorem d_X11_ask_159 : decode mX11_ask.1 159 = .ok (.aload 4, 2) ∧ 159 + 2 = 161 := ⟨by decide +kernel, rfl⟩
theorem d_X11_ask_161 : decode mX11_ask.1 161 = .ok (.invokevirtual 363, 3) ∧ 161 + 3 = 164 := ⟨by decide +kernel, rfl⟩
theorem d_X11_ask_164 : decode mX11_ask.1 164 = .ok (.lreturn, 1) := by decide +kernel
theorem d_X11_ask_147 : decode mX11_ask.1 147 = .ok (.aload_n 0, 1) ∧ 147 + 1 = 148 := ⟨by decide +kernel, rfl⟩
theorem d_X11_ask_148 : decode mX11_ask.1 148 = .ok (.iload_n 1, 1) ∧ 148 + 1 = 149 := ⟨by decide +kernel, rfl⟩
theorem d_X11_ask_149 : decode mX11_ask.1 149 = .ok (.aload 4, 2) ∧ 149 + 2 = 151 := ⟨by decide +kernel, rfl⟩
theorem d_X11_ask_151 : decode mX11_ask.1 151 = .ok (.invokevirtual 359, 3) ∧ 151 + 3 = 154 := ⟨by decide +kernel, rfl⟩
theorem d_X11_ask_154 : decode mX11_ask.1 154 = .ok (.goto 10, 3) ∧ ((154 : Nat) : Int) + 10 = ((164 : Nat) : Int) := ⟨by decide +kernel, rfl⟩
theorem d_X11_ask_131 : decode mX11_ask.1 131 = .ok (.aload_n 0, 1) ∧ 131 + 1 = 132 := ⟨by decide +kernel, rfl⟩
theorem d_X11_ask_132 : decode mX11_ask.1 132 = .ok (.getfield 22, 3) ∧ 132 + 3 = 135 := ⟨by decide +kernel, rfl⟩
theorem d_X11_ask_135 : decode mX11_ask.1 135 = .ok (.invokevirtual 344, 3) ∧ 135 + 3 = 138 := ⟨by decide +kernel, rfl⟩
theorem d_X11_ask_138 : decode mX11_ask.1 138 = .ok (.pop, 1) ∧ 138 + 1 = 139 := ⟨by decide +kernel, rfl⟩
theorem d_X11_ask_139 : decode mX11_ask.1 139 = .ok (.ldc2_w 347, 3) ∧ 139 + 3 = 142 := ⟨by decide +kernel, rfl⟩
theorem d_X11_ask_142 : decode mX11_ask.1 142 = .ok (.lreturn, 1) := by decide +kernel
set_option maxRecDepth 100000 in
set_option maxHeartbeats 4000000 in
theorem g_X11_ask_J110 (l : Launch) (G : xa_C) : ∀ (v0 v1 v2 s0 : Int) (h : xa_H) , xa_G l G 66 mX11_ask (f_X11_ask_J110 v0 v1 v2 s0 h) (fun r => some (some (xL r.1), r.2) : (Int × xa_H) → Option xa_O) 110 [some (xR v0), some (xI v1), some (xI v2), none, none] [xR s0] h := by
  intro v0 v1 v2 s0 h
  unfold f_X11_ask_J110
  refine xa_step (xa_astore (ls' := [some (xR v0), some (xI v1), some (xI v2), none, some (xR s0)]) d_X11_ask_110 (by decide) rfl) ?_
  refine xa_step (xa_aload d_X11_ask_112 rfl) ?_
  refine xa_n5 (fun q24 => ?_)
  refine xa_if (xa_ifnonnull q24 d_X11_ask_114) (fun q15 => ?_) (fun q15 => ?_)
  · refine xa_step (xa_ldc2 (c64 := (-1000000000000000)) (v := (-1000000000000000)) (by decide +kernel) xw_1243 d_X11_ask_117) ?_
    exact xa_lret d_X11_ask_120 rfl rfl
  · refine xa_step (xa_aload_n d_X11_ask_121 rfl) ?_
    refine xa_getf xR xc_11 (by decide) (fun _ => rfl) xw_586 rfl d_X11_ask_122 (fun x16 _ => ?_)
    refine xa_getf xI xc_6 (by decide) (fun _ => rfl) xw_251 rfl d_X11_ask_125 (fun x17 _ => ?_)
    refine xa_if (xa_ifeq d_X11_ask_128) (fun q18 => ?_) (fun q18 => ?_)
    · refine xa_step (xa_iload_n d_X11_ask_143 rfl) ?_
      refine xa_if (xa_ifeq d_X11_ask_144) (fun q19 => ?_) (fun q19 => ?_)
      · refine xa_step (xa_aload_n d_X11_ask_157 rfl) ?_
        refine xa_step (xa_iload_n d_X11_ask_158 rfl) ?_
        refine xa_step (xa_aload d_X11_ask_159 rfl) ?_
        refine xa_callVL (as := [xI v1, xR s0]) (st := []) (M' := mX11_answerSum) (d' := 5) rfl xw_1255 xw_1257 xw_60 xw_1258 xw_161 xh_X11_answerSum rfl ⟨Nat.le_of_ble_eq_true rfl, Nat.le_of_ble_eq_true rfl⟩ (Nat.le_of_ble_eq_true rfl) rfl d_X11_ask_161 (fun r hr => ct_X11_answerSum l G v0 v1 s0 h r hr) (fun r20 _ => ?_)
        exact xa_lret d_X11_ask_164 rfl rfl
      · refine xa_step (xa_aload_n d_X11_ask_147 rfl) ?_
        refine xa_step (xa_iload_n d_X11_ask_148 rfl) ?_
        refine xa_step (xa_aload d_X11_ask_149 rfl) ?_
        refine xa_callVL (as := [xI v1, xR s0]) (st := []) (M' := mX11_answerTest) (d' := 5) rfl xw_1246 xw_1248 xw_58 xw_1249 xw_161 xh_X11_answerTest rfl ⟨Nat.le_of_ble_eq_true rfl, Nat.le_of_ble_eq_true rfl⟩ (Nat.le_of_ble_eq_true rfl) rfl d_X11_ask_151 (fun r hr => ct_X11_answerTest l G v0 v1 s0 h r hr) (fun r21 _ => ?_)
        refine xa_step (xa_goto d_X11_ask_154) ?_
        exact xa_lret d_X11_ask_164 rfl rfl
    · refine xa_step (xa_aload_n d_X11_ask_131 rfl) ?_
      refine xa_getf xR xc_11 (by decide) (fun _ => rfl) xw_586 rfl d_X11_ask_132 (fun x22 _ => ?_)
      refine xa_callVI (as := []) (st := []) (M' := mX6_stray) (d' := 2) rfl xw_1242 xw_706 xw_707 xw_708 xw_162 xh_X6_stray rfl ⟨Nat.le_of_ble_eq_true rfl, Nat.le_of_ble_eq_true rfl⟩ (Nat.le_of_ble_eq_true rfl) rfl d_X11_ask_135 (fun r hr => ct_X6_stray l G x22 h r hr) (fun r23 _ => ?_)
      refine xa_step (xa_pop d_X11_ask_138) ?_
      refine xa_step (xa_ldc2 (c64 := (-1000000000000000)) (v := (-1000000000000000)) (by decide +kernel) xw_1243 d_X11_ask_139) ?_
      exact xa_lret d_X11_ask_142 rfl rfl
theorem d_X11_ask_91 : decode mX11_ask.1 91 = .ok (.aload_n 0, 1) ∧ 91 + 1 = 92 := ⟨by decide +kernel, rfl⟩
theorem d_X11_ask_92 : decode mX11_ask.1 92 = .ok (.getfield 31, 3) ∧ 92 + 3 = 95 := ⟨by decide +kernel, rfl⟩
theorem d_X11_ask_95 : decode mX11_ask.1 95 = .ok (.iconst 1, 1) ∧ 95 + 1 = 96 := ⟨by decide +kernel, rfl⟩
theorem d_X11_ask_96 : decode mX11_ask.1 96 = .ok (.invokevirtual 349, 3) ∧ 96 + 3 = 99 := ⟨by decide +kernel, rfl⟩
theorem d_X11_ask_99 : decode mX11_ask.1 99 = .ok (.goto 11, 3) ∧ ((99 : Nat) : Int) + 11 = ((110 : Nat) : Int) := ⟨by decide +kernel, rfl⟩
set_option maxRecDepth 100000 in
set_option maxHeartbeats 4000000 in
theorem g_X11_ask_J87 (l : Launch) (G : xa_C) : ∀ (v0 v1 v2 : Int) (h : xa_H) , xa_G l G 66 mX11_ask (f_X11_ask_J87 v0 v1 v2 h) (fun r => some (some (xL r.1), r.2) : (Int × xa_H) → Option xa_O) 87 [some (xR v0), some (xI v1), some (xI v2), none, none] [] h := by
  intro v0 v1 v2 h
  unfold f_X11_ask_J87
  refine xa_step (xa_iload_n d_X11_ask_87 rfl) ?_
  refine xa_if (xa_ifeq d_X11_ask_88) (fun q12 => ?_) (fun q12 => ?_)
  · refine xa_step (xa_aload_n d_X11_ask_102 rfl) ?_
    refine xa_getf xR xc_11 (by decide) (fun _ => rfl) xw_587 rfl d_X11_ask_103 (fun x13 _ => ?_)
    refine xa_step (xa_iconst d_X11_ask_106 xq_i_1) ?_
    refine xa_callVR (as := [xI 1]) (st := []) (M' := mX3_readSum) (d' := 65) rfl xw_1245 xw_864 xw_865 xw_866 xw_167 xh_X3_readSum rfl ⟨Nat.le_of_ble_eq_true rfl, Nat.le_of_ble_eq_true rfl⟩ (Nat.le_of_ble_eq_true rfl) rfl d_X11_ask_107 (fun r hr => ct_X3_readSum l G x13 1 h r hr) (fun r14 _ => ?_)
    exact xa_weak (ls' := [some (xR v0), some (xI v1), some (xI v2), none, none]) ⟨rfl, rfl, rfl, trivial⟩ (g_X11_ask_J110 l G v0 v1 v2 r14.1 r14.2)
  · refine xa_step (xa_aload_n d_X11_ask_91 rfl) ?_
    refine xa_getf xR xc_11 (by decide) (fun _ => rfl) xw_587 rfl d_X11_ask_92 (fun x25 _ => ?_)
    refine xa_step (xa_iconst d_X11_ask_95 xq_i_1) ?_
    refine xa_callVR (as := [xI 1]) (st := []) (M' := mX3_readTest) (d' := 65) rfl xw_1244 xw_775 xw_776 xw_777 xw_167 xh_X3_readTest rfl ⟨Nat.le_of_ble_eq_true rfl, Nat.le_of_ble_eq_true rfl⟩ (Nat.le_of_ble_eq_true rfl) rfl d_X11_ask_96 (fun r hr => ct_X3_readTest l G x25 1 h r hr) (fun r26 _ => ?_)
    refine xa_step (xa_goto d_X11_ask_99) ?_
    exact xa_weak (ls' := [some (xR v0), some (xI v1), some (xI v2), none, none]) ⟨rfl, rfl, rfl, trivial⟩ (g_X11_ask_J110 l G v0 v1 v2 r26.1 r26.2)
set_option maxRecDepth 100000 in
set_option maxHeartbeats 4000000 in
theorem g_X11_ask_J66 (l : Launch) (G : xa_C) : ∀ (v0 v1 v2 s0 : Int) (h : xa_H) , xa_G l G 66 mX11_ask (f_X11_ask_J66 v0 v1 v2 s0 h) (fun r => some (some (xL r.1), r.2) : (Int × xa_H) → Option xa_O) 66 [some (xR v0), some (xI v1), some (xI v2), none, none] [xI s0] h := by
  intro v0 v1 v2 s0 h
  unfold f_X11_ask_J66
  refine xa_step (xa_istore_n (ls' := [some (xR v0), some (xI v1), some (xI v2), some (xI s0), none]) d_X11_ask_66 (by decide) rfl) ?_
  refine xa_step (xa_iload_n d_X11_ask_67 rfl) ?_
  refine xa_if (xa_ifne d_X11_ask_68) (fun q8 => ?_) (fun q8 => ?_)
  · refine xa_step (xa_iload_n d_X11_ask_71 rfl) ?_
    refine xa_if (xa_ifne d_X11_ask_72) (fun q9 => ?_) (fun q9 => ?_)
    · refine xa_step (xa_aload_n d_X11_ask_75 rfl) ?_
      refine xa_getf xR xc_11 (by decide) (fun _ => rfl) xw_586 rfl d_X11_ask_76 (fun x10 _ => ?_)
      refine xa_callVI (as := []) (st := []) (M' := mX6_stray) (d' := 2) rfl xw_1242 xw_706 xw_707 xw_708 xw_162 xh_X6_stray rfl ⟨Nat.le_of_ble_eq_true rfl, Nat.le_of_ble_eq_true rfl⟩ (Nat.le_of_ble_eq_true rfl) rfl d_X11_ask_79 (fun r hr => ct_X6_stray l G x10 h r hr) (fun r11 _ => ?_)
      refine xa_step (xa_pop d_X11_ask_82) ?_
      refine xa_step (xa_ldc2 (c64 := (-1000000000000000)) (v := (-1000000000000000)) (by decide +kernel) xw_1243 d_X11_ask_83) ?_
      exact xa_lret d_X11_ask_86 rfl rfl
    · exact xa_weak (ls' := [some (xR v0), some (xI v1), some (xI v2), none, none]) ⟨rfl, rfl, rfl, trivial⟩ (g_X11_ask_J87 l G v0 v1 v2 h)
  · exact xa_weak (ls' := [some (xR v0), some (xI v1), some (xI v2), none, none]) ⟨rfl, rfl, rfl, trivial⟩ (g_X11_ask_J87 l G v0 v1 v2 h)
set_option maxRecDepth 100000 in
set_option maxHeartbeats 4000000 in
theorem g_X11_ask_J61 (l : Launch) (G : xa_C) : ∀ (v0 v1 v2 : Int) (h : xa_H) , xa_G l G 66 mX11_ask (f_X11_ask_J61 v0 v1 v2 h) (fun r => some (some (xL r.1), r.2) : (Int × xa_H) → Option xa_O) 61 [some (xR v0), some (xI v1), some (xI v2), none, none] [] h := by
  intro v0 v1 v2 h
  unfold f_X11_ask_J61
  refine xa_step (xa_iconst d_X11_ask_61 xq_i_1) ?_
  refine xa_step (xa_goto d_X11_ask_62) ?_
  exact xa_weak (ls' := [some (xR v0), some (xI v1), some (xI v2), none, none]) ⟨rfl, rfl, rfl, trivial⟩ (g_X11_ask_J66 l G v0 v1 v2 1 h)
theorem d_X11_ask_49 : decode mX11_ask.1 49 = .ok (.iload_n 1, 1) ∧ 49 + 1 = 50 := ⟨by decide +kernel, rfl⟩
theorem d_X11_ask_50 : decode mX11_ask.1 50 = .ok (.bipush 27, 2) ∧ 50 + 2 = 52 := ⟨by decide +kernel, rfl⟩
theorem d_X11_ask_52 : decode mX11_ask.1 52 = .ok (.if_icmp .eq 9, 3) ∧ 52 + 3 = 55 ∧ ((52 : Nat) : Int) + 9 = ((61 : Nat) : Int) := ⟨by decide +kernel, rfl, rfl⟩
theorem d_X11_ask_55 : decode mX11_ask.1 55 = .ok (.iload_n 1, 1) ∧ 55 + 1 = 56 := ⟨by decide +kernel, rfl⟩
theorem d_X11_ask_56 : decode mX11_ask.1 56 = .ok (.bipush 28, 2) ∧ 56 + 2 = 58 := ⟨by decide +kernel, rfl⟩
theorem d_X11_ask_58 : decode mX11_ask.1 58 = .ok (.if_icmp .ne 7, 3) ∧ 58 + 3 = 61 ∧ ((58 : Nat) : Int) + 7 = ((65 : Nat) : Int) := ⟨by decide +kernel, rfl, rfl⟩
theorem d_X11_ask_65 : decode mX11_ask.1 65 = .ok (.iconst 0, 1) ∧ 65 + 1 = 66 := ⟨by decide +kernel, rfl⟩
set_option maxRecDepth 100000 in
set_option maxHeartbeats 4000000 in
theorem g_X11_ask_J42 (l : Launch) (G : xa_C) : ∀ (v0 v1 s0 : Int) (h : xa_H) , xa_G l G 66 mX11_ask (f_X11_ask_J42 v0 v1 s0 h) (fun r => some (some (xL r.1), r.2) : (Int × xa_H) → Option xa_O) 42 [some (xR v0), some (xI v1), none, none, none] [xI s0] h := by
  intro v0 v1 s0 h
  unfold f_X11_ask_J42
  refine xa_step (xa_istore_n (ls' := [some (xR v0), some (xI v1), some (xI s0), none, none]) d_X11_ask_42 (by decide) rfl) ?_
  refine xa_step (xa_iload_n d_X11_ask_43 rfl) ?_
  refine xa_step (xa_bipush d_X11_ask_44 xq_b_26) ?_
  refine xa_if (xa_icmpeq d_X11_ask_46) (fun q7 => ?_) (fun q7 => ?_)
  · exact xa_weak (ls' := [some (xR v0), some (xI v1), some (xI s0), none, none]) ⟨rfl, rfl, rfl, trivial⟩ (g_X11_ask_J61 l G v0 v1 s0 h)
  · refine xa_step (xa_iload_n d_X11_ask_49 rfl) ?_
    refine xa_step (xa_bipush d_X11_ask_50 xq_b_27) ?_
    refine xa_if (xa_icmpeq d_X11_ask_52) (fun q27 => ?_) (fun q27 => ?_)
    · exact xa_weak (ls' := [some (xR v0), some (xI v1), some (xI s0), none, none]) ⟨rfl, rfl, rfl, trivial⟩ (g_X11_ask_J61 l G v0 v1 s0 h)
    · refine xa_step (xa_iload_n d_X11_ask_55 rfl) ?_
      refine xa_step (xa_bipush d_X11_ask_56 xq_b_28) ?_
      refine xa_if (xa_icmpne d_X11_ask_58) (fun q28 => ?_) (fun q28 => ?_)
      · exact xa_weak (ls' := [some (xR v0), some (xI v1), some (xI s0), none, none]) ⟨rfl, rfl, rfl, trivial⟩ (g_X11_ask_J61 l G v0 v1 s0 h)
      · refine xa_step (xa_iconst d_X11_ask_65 xq_i_0) ?_
        exact xa_weak (ls' := [some (xR v0), some (xI v1), some (xI s0), none, none]) ⟨rfl, rfl, rfl, trivial⟩ (g_X11_ask_J66 l G v0 v1 s0 0 h)
set_option maxRecDepth 100000 in
set_option maxHeartbeats 4000000 in
theorem g_X11_ask_J37 (l : Launch) (G : xa_C) : ∀ (v0 v1 : Int) (h : xa_H) , xa_G l G 66 mX11_ask (f_X11_ask_J37 v0 v1 h) (fun r => some (some (xL r.1), r.2) : (Int × xa_H) → Option xa_O) 37 [some (xR v0), some (xI v1), none, none, none] [] h := by
  intro v0 v1 h
  unfold f_X11_ask_J37
  refine xa_step (xa_iconst d_X11_ask_37 xq_i_1) ?_
  refine xa_step (xa_goto d_X11_ask_38) ?_
  exact xa_weak (ls' := [some (xR v0), some (xI v1), none, none, none]) ⟨rfl, rfl, trivial⟩ (g_X11_ask_J42 l G v0 v1 1 h)
theorem d_X11_ask_25 : decode mX11_ask.1 25 = .ok (.iload_n 1, 1) ∧ 25 + 1 = 26 := ⟨by decide +kernel, rfl⟩
theorem d_X11_ask_26 : decode mX11_ask.1 26 = .ok (.bipush 24, 2) ∧ 26 + 2 = 28 := ⟨by decide +kernel, rfl⟩
theorem d_X11_ask_28 : decode mX11_ask.1 28 = .ok (.if_icmp .eq 9, 3) ∧ 28 + 3 = 31 ∧ ((28 : Nat) : Int) + 9 = ((37 : Nat) : Int) := ⟨by decide +kernel, rfl, rfl⟩
theorem d_X11_ask_31 : decode mX11_ask.1 31 = .ok (.iload_n 1, 1) ∧ 31 + 1 = 32 := ⟨by decide +kernel, rfl⟩
theorem d_X11_ask_32 : decode mX11_ask.1 32 = .ok (.bipush 25, 2) ∧ 32 + 2 = 34 := ⟨by decide +kernel, rfl⟩
theorem d_X11_ask_34 : decode mX11_ask.1 34 = .ok (.if_icmp .ne 7, 3) ∧ 34 + 3 = 37 ∧ ((34 : Nat) : Int) + 7 = ((41 : Nat) : Int) := ⟨by decide +kernel, rfl, rfl⟩
theorem d_X11_ask_41 : decode mX11_ask.1 41 = .ok (.iconst 0, 1) ∧ 41 + 1 = 42 := ⟨by decide +kernel, rfl⟩
set_option maxRecDepth 100000 in
set_option maxHeartbeats 4000000 in
theorem g_X11_ask (l : Launch) (G : xa_C) (v0 : Int) (h : xa_H) : xa_G l G 66 mX11_ask (f_X11_ask v0 h) (fun r => some (some (xL r.1), r.2) : (Int × xa_H) → Option xa_O) 0 [some (xR v0), none, none, none, none] [] h := by
  unfold f_X11_ask
  refine xa_step (xa_aload_n d_X11_ask_0 rfl) ?_
  refine xa_getf xR xc_11 (by decide) (fun _ => rfl) xw_586 rfl d_X11_ask_1 (fun x1 _ => ?_)
  refine xa_step (xa_aload_n d_X11_ask_4 rfl) ?_
  refine xa_callVI (as := []) (st := [xR x1]) (M' := mX11_takeTape) (d' := 2) rfl xw_662 xw_664 xw_4 xw_665 xw_161 xh_X11_takeTape rfl ⟨Nat.le_of_ble_eq_true rfl, Nat.le_of_ble_eq_true rfl⟩ (Nat.le_of_ble_eq_true rfl) rfl d_X11_ask_5 (fun r hr => ct_X11_takeTape l G v0 h r hr) (fun r2 _ => ?_)
  refine xa_callVV (as := [xI r2.1]) (st := []) (M' := mX6_begin) (d' := 3) rfl xw_1241 xw_673 xw_674 xw_675 xw_162 xh_X6_begin rfl ⟨Nat.le_of_ble_eq_true rfl, Nat.le_of_ble_eq_true rfl⟩ (Nat.le_of_ble_eq_true rfl) rfl d_X11_ask_8 (fun r hr => ct_X6_begin l G x1 r2.1 r2.2 r hr) (fun r3 _ => ?_)
  refine xa_step (xa_aload_n d_X11_ask_11 rfl) ?_
  refine xa_getf xR xc_11 (by decide) (fun _ => rfl) xw_586 rfl d_X11_ask_12 (fun x4 _ => ?_)
  refine xa_getf xI xc_6 (by decide) (fun _ => rfl) xw_260 rfl d_X11_ask_15 (fun x5 _ => ?_)
  refine xa_step (xa_istore_n (ls' := [some (xR v0), some (xI x5), none, none, none]) d_X11_ask_18 (by decide) rfl) ?_
  refine xa_step (xa_iload_n d_X11_ask_19 rfl) ?_
  refine xa_step (xa_bipush d_X11_ask_20 xq_b_23) ?_
  refine xa_if (xa_icmpeq d_X11_ask_22) (fun q6 => ?_) (fun q6 => ?_)
  · exact xa_weak (ls' := [some (xR v0), some (xI x5), none, none, none]) ⟨rfl, rfl, trivial⟩ (g_X11_ask_J37 l G v0 x5 r3)
  · refine xa_step (xa_iload_n d_X11_ask_25 rfl) ?_
    refine xa_step (xa_bipush d_X11_ask_26 xq_b_24) ?_
    refine xa_if (xa_icmpeq d_X11_ask_28) (fun q29 => ?_) (fun q29 => ?_)
    · exact xa_weak (ls' := [some (xR v0), some (xI x5), none, none, none]) ⟨rfl, rfl, trivial⟩ (g_X11_ask_J37 l G v0 x5 r3)
    · refine xa_step (xa_iload_n d_X11_ask_31 rfl) ?_
      refine xa_step (xa_bipush d_X11_ask_32 xq_b_25) ?_
      refine xa_if (xa_icmpne d_X11_ask_34) (fun q30 => ?_) (fun q30 => ?_)
      · exact xa_weak (ls' := [some (xR v0), some (xI x5), none, none, none]) ⟨rfl, rfl, trivial⟩ (g_X11_ask_J37 l G v0 x5 r3)
      · refine xa_step (xa_iconst d_X11_ask_41 xq_i_0) ?_
        exact xa_weak (ls' := [some (xR v0), some (xI x5), none, none, none]) ⟨rfl, rfl, trivial⟩ (g_X11_ask_J42 l G v0 x5 0 r3)
theorem ct_X11_ask (l : Launch) (G : xa_C) (v0 : Int) (h : xa_H) (r : Int × xa_H) (hr : f_X11_ask v0 h = some r) : xa_CT l G 66 mX11_ask yX11_ask [xR v0] h (some (xL r.1), r.2) :=
  xa_met (by decide +kernel) rfl (fun q => by first | rfl | cases q) (Nat.le_of_ble_eq_true rfl) rfl (g_X11_ask l G v0 h) (by rw [hr]; rfl)
abbrev mX0_areFeuding : xa_M := (cX0_areFeuding, 3, (some (.boolean)), RX0, false)
theorem d_X0_areFeuding_0 : decode mX0_areFeuding.1 0 = .ok (.aload_n 0, 1) ∧ 0 + 1 = 1 := ⟨by decide +kernel, rfl⟩
theorem d_X0_areFeuding_1 : decode mX0_areFeuding.1 1 = .ok (.getfield 43, 3) ∧ 1 + 3 = 4 := ⟨by decide +kernel, rfl⟩
theorem d_X0_areFeuding_4 : decode mX0_areFeuding.1 4 = .ok (.iload_n 1, 1) ∧ 4 + 1 = 5 := ⟨by decide +kernel, rfl⟩
theorem d_X0_areFeuding_5 : decode mX0_areFeuding.1 5 = .ok (.iaload, 1) ∧ 5 + 1 = 6 := ⟨by decide +kernel, rfl⟩
theorem d_X0_areFeuding_6 : decode mX0_areFeuding.1 6 = .ok (.iload_n 2, 1) ∧ 6 + 1 = 7 := ⟨by decide +kernel, rfl⟩
theorem d_X0_areFeuding_7 : decode mX0_areFeuding.1 7 = .ok (.ishr, 1) ∧ 7 + 1 = 8 := ⟨by decide +kernel, rfl⟩
theorem d_X0_areFeuding_8 : decode mX0_areFeuding.1 8 = .ok (.iconst 1, 1) ∧ 8 + 1 = 9 := ⟨by decide +kernel, rfl⟩
theorem d_X0_areFeuding_9 : decode mX0_areFeuding.1 9 = .ok (.iand, 1) ∧ 9 + 1 = 10 := ⟨by decide +kernel, rfl⟩
theorem d_X0_areFeuding_10 : decode mX0_areFeuding.1 10 = .ok (.iconst 1, 1) ∧ 10 + 1 = 11 := ⟨by decide +kernel, rfl⟩
theorem d_X0_areFeuding_11 : decode mX0_areFeuding.1 11 = .ok (.if_icmp .ne 7, 3) ∧ 11 + 3 = 14 ∧ ((11 : Nat) : Int) + 7 = ((18 : Nat) : Int) := ⟨by decide +kernel, rfl, rfl⟩
theorem d_X0_areFeuding_14 : decode mX0_areFeuding.1 14 = .ok (.iconst 1, 1) ∧ 14 + 1 = 15 := ⟨by decide +kernel, rfl⟩
theorem d_X0_areFeuding_15 : decode mX0_areFeuding.1 15 = .ok (.goto 4, 3) ∧ ((15 : Nat) : Int) + 4 = ((19 : Nat) : Int) := ⟨by decide +kernel, rfl⟩
theorem d_X0_areFeuding_19 : decode mX0_areFeuding.1 19 = .ok (.ireturn, 1) := by decide +kernel
theorem d_X0_areFeuding_18 : decode mX0_areFeuding.1 18 = .ok (.iconst 0, 1) ∧ 18 + 1 = 19 := ⟨by decide +kernel, rfl⟩
set_option maxRecDepth 100000 in
set_option maxHeartbeats 4000000 in
theorem g_X0_areFeuding (l : Launch) (G : xa_C) (v0 v1 v2 : Int) (h : xa_H) : xa_G l G 2 mX0_areFeuding (f_X0_areFeuding v0 v1 v2 h) (fun r => some (some (xI r), h) : Int → Option xa_O) 0 [some (xR v0), some (xI v1), some (xI v2)] [] h := by
  unfold f_X0_areFeuding
  refine xa_step (xa_aload_n d_X0_areFeuding_0 rfl) ?_
  refine xa_getf xR xc_0 (by decide) (fun _ => rfl) xw_410 rfl d_X0_areFeuding_1 (fun x1 _ => ?_)
  refine xa_step (xa_iload_n d_X0_areFeuding_4 rfl) ?_
  refine xa_iaload d_X0_areFeuding_5 (fun x2 _ => ?_)
  refine xa_step (xa_iload_n d_X0_areFeuding_6 rfl) ?_
  refine xa_step (xa_ishr d_X0_areFeuding_7) ?_
  refine xa_step (xa_iconst d_X0_areFeuding_8 xq_i_1) ?_
  refine xa_step (xa_iand d_X0_areFeuding_9) ?_
  refine xa_step (xa_iconst d_X0_areFeuding_10 xq_i_1) ?_
  refine xa_if (xa_icmpne d_X0_areFeuding_11) (fun q3 => ?_) (fun q3 => ?_)
  · refine xa_step (xa_iconst d_X0_areFeuding_14 xq_i_1) ?_
    refine xa_step (xa_goto d_X0_areFeuding_15) ?_
    exact xa_zret d_X0_areFeuding_19 rfl (Or.inr rfl) rfl
  · refine xa_step (xa_iconst d_X0_areFeuding_18 xq_i_0) ?_
    exact xa_zret d_X0_areFeuding_19 rfl (Or.inl rfl) rfl
theorem ct_X0_areFeuding (l : Launch) (G : xa_C) (v0 v1 v2 : Int) (h : xa_H) (r : Int) (hr : f_X0_areFeuding v0 v1 v2 h = some r) : xa_CT l G 2 mX0_areFeuding yX0_areFeuding [xR v0, xI v1, xI v2] h (some (xI r), h) :=
  xa_met (by decide +kernel) rfl (fun q => by first | rfl | cases q) (Nat.le_of_ble_eq_true rfl) rfl (g_X0_areFeuding l G v0 v1 v2 h) (by rw [hr]; rfl)
abbrev mX11_bothGain : xa_M := (cX11_bothGain, 3, (some (.boolean)), RX11, false)
theorem d_X11_bothGain_0 : decode mX11_bothGain.1 0 = .ok (.aload_n 0, 1) ∧ 0 + 1 = 1 := ⟨by decide +kernel, rfl⟩
theorem d_X11_bothGain_1 : decode mX11_bothGain.1 1 = .ok (.getfield 47, 3) ∧ 1 + 3 = 4 := ⟨by decide +kernel, rfl⟩
theorem d_X11_bothGain_4 : decode mX11_bothGain.1 4 = .ok (.iload_n 1, 1) ∧ 4 + 1 = 5 := ⟨by decide +kernel, rfl⟩
theorem d_X11_bothGain_5 : decode mX11_bothGain.1 5 = .ok (.iload_n 2, 1) ∧ 5 + 1 = 6 := ⟨by decide +kernel, rfl⟩
theorem d_X11_bothGain_6 : decode mX11_bothGain.1 6 = .ok (.invokevirtual 393, 3) ∧ 6 + 3 = 9 := ⟨by decide +kernel, rfl⟩
theorem d_X11_bothGain_9 : decode mX11_bothGain.1 9 = .ok (.ifCond .ne 81, 3) ∧ 9 + 3 = 12 ∧ ((9 : Nat) : Int) + 81 = ((90 : Nat) : Int) := ⟨by decide +kernel, rfl, rfl⟩
theorem d_X11_bothGain_12 : decode mX11_bothGain.1 12 = .ok (.aload_n 0, 1) ∧ 12 + 1 = 13 := ⟨by decide +kernel, rfl⟩
theorem d_X11_bothGain_13 : decode mX11_bothGain.1 13 = .ok (.getfield 47, 3) ∧ 13 + 3 = 16 := ⟨by decide +kernel, rfl⟩
theorem d_X11_bothGain_16 : decode mX11_bothGain.1 16 = .ok (.iload_n 1, 1) ∧ 16 + 1 = 17 := ⟨by decide +kernel, rfl⟩
theorem d_X11_bothGain_17 : decode mX11_bothGain.1 17 = .ok (.aload_n 0, 1) ∧ 17 + 1 = 18 := ⟨by decide +kernel, rfl⟩
theorem d_X11_bothGain_18 : decode mX11_bothGain.1 18 = .ok (.getfield 54, 3) ∧ 18 + 3 = 21 := ⟨by decide +kernel, rfl⟩
theorem d_X11_bothGain_21 : decode mX11_bothGain.1 21 = .ok (.getfield 217, 3) ∧ 21 + 3 = 24 := ⟨by decide +kernel, rfl⟩
theorem d_X11_bothGain_24 : decode mX11_bothGain.1 24 = .ok (.iload_n 2, 1) ∧ 24 + 1 = 25 := ⟨by decide +kernel, rfl⟩
theorem d_X11_bothGain_25 : decode mX11_bothGain.1 25 = .ok (.iaload, 1) ∧ 25 + 1 = 26 := ⟨by decide +kernel, rfl⟩
theorem d_X11_bothGain_26 : decode mX11_bothGain.1 26 = .ok (.invokevirtual 232, 3) ∧ 26 + 3 = 29 := ⟨by decide +kernel, rfl⟩
theorem d_X11_bothGain_29 : decode mX11_bothGain.1 29 = .ok (.aload_n 0, 1) ∧ 29 + 1 = 30 := ⟨by decide +kernel, rfl⟩
theorem d_X11_bothGain_30 : decode mX11_bothGain.1 30 = .ok (.getfield 47, 3) ∧ 30 + 3 = 33 := ⟨by decide +kernel, rfl⟩
theorem d_X11_bothGain_33 : decode mX11_bothGain.1 33 = .ok (.iload_n 1, 1) ∧ 33 + 1 = 34 := ⟨by decide +kernel, rfl⟩
theorem d_X11_bothGain_34 : decode mX11_bothGain.1 34 = .ok (.aload_n 0, 1) ∧ 34 + 1 = 35 := ⟨by decide +kernel, rfl⟩
theorem d_X11_bothGain_35 : decode mX11_bothGain.1 35 = .ok (.getfield 54, 3) ∧ 35 + 3 = 38 := ⟨by decide +kernel, rfl⟩
theorem d_X11_bothGain_38 : decode mX11_bothGain.1 38 = .ok (.getfield 217, 3) ∧ 38 + 3 = 41 := ⟨by decide +kernel, rfl⟩
theorem d_X11_bothGain_41 : decode mX11_bothGain.1 41 = .ok (.iload_n 1, 1) ∧ 41 + 1 = 42 := ⟨by decide +kernel, rfl⟩
theorem d_X11_bothGain_42 : decode mX11_bothGain.1 42 = .ok (.iaload, 1) ∧ 42 + 1 = 43 := ⟨by decide +kernel, rfl⟩
theorem d_X11_bothGain_43 : decode mX11_bothGain.1 43 = .ok (.invokevirtual 232, 3) ∧ 43 + 3 = 46 := ⟨by decide +kernel, rfl⟩
theorem d_X11_bothGain_46 : decode mX11_bothGain.1 46 = .ok (.if_icmp .le 44, 3) ∧ 46 + 3 = 49 ∧ ((46 : Nat) : Int) + 44 = ((90 : Nat) : Int) := ⟨by decide +kernel, rfl, rfl⟩
theorem d_X11_bothGain_49 : decode mX11_bothGain.1 49 = .ok (.aload_n 0, 1) ∧ 49 + 1 = 50 := ⟨by decide +kernel, rfl⟩
theorem d_X11_bothGain_50 : decode mX11_bothGain.1 50 = .ok (.getfield 47, 3) ∧ 50 + 3 = 53 := ⟨by decide +kernel, rfl⟩
theorem d_X11_bothGain_53 : decode mX11_bothGain.1 53 = .ok (.iload_n 2, 1) ∧ 53 + 1 = 54 := ⟨by decide +kernel, rfl⟩
theorem d_X11_bothGain_54 : decode mX11_bothGain.1 54 = .ok (.aload_n 0, 1) ∧ 54 + 1 = 55 := ⟨by decide +kernel, rfl⟩
theorem d_X11_bothGain_55 : decode mX11_bothGain.1 55 = .ok (.getfield 54, 3) ∧ 55 + 3 = 58 := ⟨by decide +kernel, rfl⟩
theorem d_X11_bothGain_58 : decode mX11_bothGain.1 58 = .ok (.getfield 217, 3) ∧ 58 + 3 = 61 := ⟨by decide +kernel, rfl⟩
theorem d_X11_bothGain_61 : decode mX11_bothGain.1 61 = .ok (.iload_n 1, 1) ∧ 61 + 1 = 62 := ⟨by decide +kernel, rfl⟩
theorem d_X11_bothGain_62 : decode mX11_bothGain.1 62 = .ok (.iaload, 1) ∧ 62 + 1 = 63 := ⟨by decide +kernel, rfl⟩
theorem d_X11_bothGain_63 : decode mX11_bothGain.1 63 = .ok (.invokevirtual 232, 3) ∧ 63 + 3 = 66 := ⟨by decide +kernel, rfl⟩
theorem d_X11_bothGain_66 : decode mX11_bothGain.1 66 = .ok (.aload_n 0, 1) ∧ 66 + 1 = 67 := ⟨by decide +kernel, rfl⟩
theorem d_X11_bothGain_67 : decode mX11_bothGain.1 67 = .ok (.getfield 47, 3) ∧ 67 + 3 = 70 := ⟨by decide +kernel, rfl⟩
theorem d_X11_bothGain_70 : decode mX11_bothGain.1 70 = .ok (.iload_n 2, 1) ∧ 70 + 1 = 71 := ⟨by decide +kernel, rfl⟩
theorem d_X11_bothGain_71 : decode mX11_bothGain.1 71 = .ok (.aload_n 0, 1) ∧ 71 + 1 = 72 := ⟨by decide +kernel, rfl⟩
theorem d_X11_bothGain_72 : decode mX11_bothGain.1 72 = .ok (.getfield 54, 3) ∧ 72 + 3 = 75 := ⟨by decide +kernel, rfl⟩
theorem d_X11_bothGain_75 : decode mX11_bothGain.1 75 = .ok (.getfield 217, 3) ∧ 75 + 3 = 78 := ⟨by decide +kernel, rfl⟩
theorem d_X11_bothGain_78 : decode mX11_bothGain.1 78 = .ok (.iload_n 2, 1) ∧ 78 + 1 = 79 := ⟨by decide +kernel, rfl⟩
theorem d_X11_bothGain_79 : decode mX11_bothGain.1 79 = .ok (.iaload, 1) ∧ 79 + 1 = 80 := ⟨by decide +kernel, rfl⟩
theorem d_X11_bothGain_80 : decode mX11_bothGain.1 80 = .ok (.invokevirtual 232, 3) ∧ 80 + 3 = 83 := ⟨by decide +kernel, rfl⟩
theorem d_X11_bothGain_83 : decode mX11_bothGain.1 83 = .ok (.if_icmp .le 7, 3) ∧ 83 + 3 = 86 ∧ ((83 : Nat) : Int) + 7 = ((90 : Nat) : Int) := ⟨by decide +kernel, rfl, rfl⟩
theorem d_X11_bothGain_86 : decode mX11_bothGain.1 86 = .ok (.iconst 1, 1) ∧ 86 + 1 = 87 := ⟨by decide +kernel, rfl⟩
theorem d_X11_bothGain_87 : decode mX11_bothGain.1 87 = .ok (.goto 4, 3) ∧ ((87 : Nat) : Int) + 4 = ((91 : Nat) : Int) := ⟨by decide +kernel, rfl⟩
theorem d_X11_bothGain_91 : decode mX11_bothGain.1 91 = .ok (.ireturn, 1) := by decide +kernel
theorem d_X11_bothGain_90 : decode mX11_bothGain.1 90 = .ok (.iconst 0, 1) ∧ 90 + 1 = 91 := ⟨by decide +kernel, rfl⟩
set_option maxRecDepth 100000 in
set_option maxHeartbeats 4000000 in
theorem g_X11_bothGain (l : Launch) (G : xa_C) (v0 v1 v2 : Int) (h : xa_H) : xa_G l G 3 mX11_bothGain (f_X11_bothGain v0 v1 v2 h) (fun r => some (some (xI r), h) : Int → Option xa_O) 0 [some (xR v0), some (xI v1), some (xI v2)] [] h := by
  unfold f_X11_bothGain
  refine xa_step (xa_aload_n d_X11_bothGain_0 rfl) ?_
  refine xa_getf xR xc_11 (by decide) (fun _ => rfl) xw_589 rfl d_X11_bothGain_1 (fun x1 _ => ?_)
  refine xa_step (xa_iload_n d_X11_bothGain_4 rfl) ?_
  refine xa_step (xa_iload_n d_X11_bothGain_5 rfl) ?_
  refine xa_callVi (as := [xI v1, xI v2]) (st := []) (M' := mX0_areFeuding) (d' := 2) rfl xw_1104 xw_763 xw_764 xw_765 xw_169 xh_X0_areFeuding rfl ⟨Nat.le_of_ble_eq_true rfl, Nat.le_of_ble_eq_true rfl⟩ (Nat.le_of_ble_eq_true rfl) rfl d_X11_bothGain_6 (fun r hr => ct_X0_areFeuding l G x1 v1 v2 h r hr) (fun r2 _ => ?_)
  refine xa_if (xa_ifne d_X11_bothGain_9) (fun q3 => ?_) (fun q3 => ?_)
  · refine xa_step (xa_aload_n d_X11_bothGain_12 rfl) ?_
    refine xa_getf xR xc_11 (by decide) (fun _ => rfl) xw_589 rfl d_X11_bothGain_13 (fun x4 _ => ?_)
    refine xa_step (xa_iload_n d_X11_bothGain_16 rfl) ?_
    refine xa_step (xa_aload_n d_X11_bothGain_17 rfl) ?_
    refine xa_getf xR xc_11 (by decide) (fun _ => rfl) xw_590 rfl d_X11_bothGain_18 (fun x5 _ => ?_)
    refine xa_getf xR xc_9 (by decide) (fun _ => rfl) xw_346 rfl d_X11_bothGain_21 (fun x6 _ => ?_)
    refine xa_step (xa_iload_n d_X11_bothGain_24 rfl) ?_
    refine xa_iaload d_X11_bothGain_25 (fun x7 _ => ?_)
    refine xa_callVi (as := [xI v1, xI x7]) (st := []) (M' := mX0_valueOf) (d' := 2) rfl xw_906 xw_907 xw_908 xw_909 xw_169 xh_X0_valueOf rfl ⟨Nat.le_of_ble_eq_true rfl, Nat.le_of_ble_eq_true rfl⟩ (Nat.le_of_ble_eq_true rfl) rfl d_X11_bothGain_26 (fun r hr => ct_X0_valueOf l G x4 v1 x7 h r hr) (fun r8 _ => ?_)
    refine xa_step (xa_aload_n d_X11_bothGain_29 rfl) ?_
    refine xa_getf xR xc_11 (by decide) (fun _ => rfl) xw_589 rfl d_X11_bothGain_30 (fun x9 _ => ?_)
    refine xa_step (xa_iload_n d_X11_bothGain_33 rfl) ?_
    refine xa_step (xa_aload_n d_X11_bothGain_34 rfl) ?_
    refine xa_getf xR xc_11 (by decide) (fun _ => rfl) xw_590 rfl d_X11_bothGain_35 (fun x10 _ => ?_)
    refine xa_getf xR xc_9 (by decide) (fun _ => rfl) xw_346 rfl d_X11_bothGain_38 (fun x11 _ => ?_)
    refine xa_step (xa_iload_n d_X11_bothGain_41 rfl) ?_
    refine xa_iaload d_X11_bothGain_42 (fun x12 _ => ?_)
    refine xa_callVi (as := [xI v1, xI x12]) (st := [xI r8]) (M' := mX0_valueOf) (d' := 2) rfl xw_906 xw_907 xw_908 xw_909 xw_169 xh_X0_valueOf rfl ⟨Nat.le_of_ble_eq_true rfl, Nat.le_of_ble_eq_true rfl⟩ (Nat.le_of_ble_eq_true rfl) rfl d_X11_bothGain_43 (fun r hr => ct_X0_valueOf l G x9 v1 x12 h r hr) (fun r13 _ => ?_)
    refine xa_if (xa_icmple d_X11_bothGain_46) (fun q14 => ?_) (fun q14 => ?_)
    · refine xa_step (xa_aload_n d_X11_bothGain_49 rfl) ?_
      refine xa_getf xR xc_11 (by decide) (fun _ => rfl) xw_589 rfl d_X11_bothGain_50 (fun x15 _ => ?_)
      refine xa_step (xa_iload_n d_X11_bothGain_53 rfl) ?_
      refine xa_step (xa_aload_n d_X11_bothGain_54 rfl) ?_
      refine xa_getf xR xc_11 (by decide) (fun _ => rfl) xw_590 rfl d_X11_bothGain_55 (fun x16 _ => ?_)
      refine xa_getf xR xc_9 (by decide) (fun _ => rfl) xw_346 rfl d_X11_bothGain_58 (fun x17 _ => ?_)
      refine xa_step (xa_iload_n d_X11_bothGain_61 rfl) ?_
      refine xa_iaload d_X11_bothGain_62 (fun x18 _ => ?_)
      refine xa_callVi (as := [xI v2, xI x18]) (st := []) (M' := mX0_valueOf) (d' := 2) rfl xw_906 xw_907 xw_908 xw_909 xw_169 xh_X0_valueOf rfl ⟨Nat.le_of_ble_eq_true rfl, Nat.le_of_ble_eq_true rfl⟩ (Nat.le_of_ble_eq_true rfl) rfl d_X11_bothGain_63 (fun r hr => ct_X0_valueOf l G x15 v2 x18 h r hr) (fun r19 _ => ?_)
      refine xa_step (xa_aload_n d_X11_bothGain_66 rfl) ?_
      refine xa_getf xR xc_11 (by decide) (fun _ => rfl) xw_589 rfl d_X11_bothGain_67 (fun x20 _ => ?_)
      refine xa_step (xa_iload_n d_X11_bothGain_70 rfl) ?_
      refine xa_step (xa_aload_n d_X11_bothGain_71 rfl) ?_
      refine xa_getf xR xc_11 (by decide) (fun _ => rfl) xw_590 rfl d_X11_bothGain_72 (fun x21 _ => ?_)
      refine xa_getf xR xc_9 (by decide) (fun _ => rfl) xw_346 rfl d_X11_bothGain_75 (fun x22 _ => ?_)
      refine xa_step (xa_iload_n d_X11_bothGain_78 rfl) ?_
      refine xa_iaload d_X11_bothGain_79 (fun x23 _ => ?_)
      refine xa_callVi (as := [xI v2, xI x23]) (st := [xI r19]) (M' := mX0_valueOf) (d' := 2) rfl xw_906 xw_907 xw_908 xw_909 xw_169 xh_X0_valueOf rfl ⟨Nat.le_of_ble_eq_true rfl, Nat.le_of_ble_eq_true rfl⟩ (Nat.le_of_ble_eq_true rfl) rfl d_X11_bothGain_80 (fun r hr => ct_X0_valueOf l G x20 v2 x23 h r hr) (fun r24 _ => ?_)
      refine xa_if (xa_icmple d_X11_bothGain_83) (fun q25 => ?_) (fun q25 => ?_)
      · refine xa_step (xa_iconst d_X11_bothGain_86 xq_i_1) ?_
        refine xa_step (xa_goto d_X11_bothGain_87) ?_
        exact xa_zret d_X11_bothGain_91 rfl (Or.inr rfl) rfl
      · refine xa_step (xa_iconst d_X11_bothGain_90 xq_i_0) ?_
        exact xa_zret d_X11_bothGain_91 rfl (Or.inl rfl) rfl
    · refine xa_step (xa_iconst d_X11_bothGain_90 xq_i_0) ?_
      exact xa_zret d_X11_bothGain_91 rfl (Or.inl rfl) rfl
  · refine xa_step (xa_iconst d_X11_bothGain_90 xq_i_0) ?_
    exact xa_zret d_X11_bothGain_91 rfl (Or.inl rfl) rfl
theorem ct_X11_bothGain (l : Launch) (G : xa_C) (v0 v1 v2 : Int) (h : xa_H) (r : Int) (hr : f_X11_bothGain v0 v1 v2 h = some r) : xa_CT l G 3 mX11_bothGain yX11_bothGain [xR v0, xI v1, xI v2] h (some (xI r), h) :=
  xa_met (by decide +kernel) rfl (fun q => by first | rfl | cases q) (Nat.le_of_ble_eq_true rfl) rfl (g_X11_bothGain l G v0 v1 v2 h) (by rw [hr]; rfl)
abbrev mX5_possible : xa_M := (cX5_possible, 4, (some (.int)), RX5, false)
theorem d_X5_possible_0 : decode mX5_possible.1 0 = .ok (.iconst 0, 1) ∧ 0 + 1 = 1 := ⟨by decide +kernel, rfl⟩
theorem d_X5_possible_1 : decode mX5_possible.1 1 = .ok (.istore_n 2, 1) ∧ 1 + 1 = 2 := ⟨by decide +kernel, rfl⟩
theorem d_X5_possible_2 : decode mX5_possible.1 2 = .ok (.iconst 0, 1) ∧ 2 + 1 = 3 := ⟨by decide +kernel, rfl⟩
theorem d_X5_possible_3 : decode mX5_possible.1 3 = .ok (.istore_n 3, 1) ∧ 3 + 1 = 4 := ⟨by decide +kernel, rfl⟩
theorem d_X5_possible_4 : decode mX5_possible.1 4 = .ok (.iload_n 3, 1) ∧ 4 + 1 = 5 := ⟨by decide +kernel, rfl⟩
theorem d_X5_possible_5 : decode mX5_possible.1 5 = .ok (.aload_n 0, 1) ∧ 5 + 1 = 6 := ⟨by decide +kernel, rfl⟩
theorem d_X5_possible_6 : decode mX5_possible.1 6 = .ok (.getfield 21, 3) ∧ 6 + 3 = 9 := ⟨by decide +kernel, rfl⟩
theorem d_X5_possible_9 : decode mX5_possible.1 9 = .ok (.if_icmp .ge 33, 3) ∧ 9 + 3 = 12 ∧ ((9 : Nat) : Int) + 33 = ((42 : Nat) : Int) := ⟨by decide +kernel, rfl, rfl⟩
theorem d_X5_possible_12 : decode mX5_possible.1 12 = .ok (.iload_n 2, 1) ∧ 12 + 1 = 13 := ⟨by decide +kernel, rfl⟩
theorem d_X5_possible_13 : decode mX5_possible.1 13 = .ok (.aload_n 0, 1) ∧ 13 + 1 = 14 := ⟨by decide +kernel, rfl⟩
theorem d_X5_possible_14 : decode mX5_possible.1 14 = .ok (.getfield 34, 3) ∧ 14 + 3 = 17 := ⟨by decide +kernel, rfl⟩
theorem d_X5_possible_17 : decode mX5_possible.1 17 = .ok (.iload_n 1, 1) ∧ 17 + 1 = 18 := ⟨by decide +kernel, rfl⟩
theorem d_X5_possible_18 : decode mX5_possible.1 18 = .ok (.bipush 6, 2) ∧ 18 + 2 = 20 := ⟨by decide +kernel, rfl⟩
theorem d_X5_possible_20 : decode mX5_possible.1 20 = .ok (.imul, 1) ∧ 20 + 1 = 21 := ⟨by decide +kernel, rfl⟩
theorem d_X5_possible_21 : decode mX5_possible.1 21 = .ok (.iload_n 3, 1) ∧ 21 + 1 = 22 := ⟨by decide +kernel, rfl⟩
theorem d_X5_possible_22 : decode mX5_possible.1 22 = .ok (.iadd, 1) ∧ 22 + 1 = 23 := ⟨by decide +kernel, rfl⟩
theorem d_X5_possible_23 : decode mX5_possible.1 23 = .ok (.iaload, 1) ∧ 23 + 1 = 24 := ⟨by decide +kernel, rfl⟩
theorem d_X5_possible_24 : decode mX5_possible.1 24 = .ok (.ifCond .le 9, 3) ∧ 24 + 3 = 27 ∧ ((24 : Nat) : Int) + 9 = ((33 : Nat) : Int) := ⟨by decide +kernel, rfl, rfl⟩
theorem d_X5_possible_27 : decode mX5_possible.1 27 = .ok (.iconst 1, 1) ∧ 27 + 1 = 28 := ⟨by decide +kernel, rfl⟩
theorem d_X5_possible_28 : decode mX5_possible.1 28 = .ok (.iload_n 3, 1) ∧ 28 + 1 = 29 := ⟨by decide +kernel, rfl⟩
theorem d_X5_possible_29 : decode mX5_possible.1 29 = .ok (.ishl, 1) ∧ 29 + 1 = 30 := ⟨by decide +kernel, rfl⟩
theorem d_X5_possible_30 : decode mX5_possible.1 30 = .ok (.goto 4, 3) ∧ ((30 : Nat) : Int) + 4 = ((34 : Nat) : Int) := ⟨by decide +kernel, rfl⟩
theorem d_X5_possible_34 : decode mX5_possible.1 34 = .ok (.ior, 1) ∧ 34 + 1 = 35 := ⟨by decide +kernel, rfl⟩
theorem d_X5_possible_35 : decode mX5_possible.1 35 = .ok (.istore_n 2, 1) ∧ 35 + 1 = 36 := ⟨by decide +kernel, rfl⟩
theorem d_X5_possible_36 : decode mX5_possible.1 36 = .ok (.iinc 3 1, 3) ∧ 36 + 3 = 39 := ⟨by decide +kernel, rfl⟩
theorem d_X5_possible_39 : decode mX5_possible.1 39 = .ok (.goto (-35), 3) ∧ ((39 : Nat) : Int) + (-35) = ((4 : Nat) : Int) := ⟨by decide +kernel, rfl⟩
theorem d_X5_possible_33 : decode mX5_possible.1 33 = .ok (.iconst 0, 1) ∧ 33 + 1 = 34 := ⟨by decide +kernel, rfl⟩
set_option maxRecDepth 100000 in
set_option maxHeartbeats 4000000 in
theorem g_X5_possible_L4 (l : Launch) (G : xa_C) (c0 c1 : Int) (h : xa_H) (K : (Int × Int) ⊕ (Int) → Option xa_O) (hb : ∀ (v2 : Int) (v3 : Int), xa_G l G 2 mX5_possible (some (Sum.inl ((v2, v3)))) K 4 [some (xR c0), some (xI c1), some (xI v2), some (xI v3)] [] h) (hx : ∀ (v2 : Int), xa_G l G 2 mX5_possible (some (Sum.inr v2)) K 42 [none, none, some (xI v2), none] [] h) : ∀ (v2 : Int) (v3 : Int), xa_G l G 2 mX5_possible (f_X5_possible_L4 c0 c1 h v2 v3) K 4 [some (xR c0), some (xI c1), some (xI v2), some (xI v3)] [] h := by
  intro v2 v3
  unfold f_X5_possible_L4
  refine xa_step (xa_iload_n d_X5_possible_4 rfl) ?_
  refine xa_step (xa_aload_n d_X5_possible_5 rfl) ?_
  refine xa_getf xI xc_5 (by decide) (fun _ => rfl) xw_515 rfl d_X5_possible_6 (fun x1 _ => ?_)
  refine xa_if (xa_icmpge d_X5_possible_9) (fun q2 => ?_) (fun q2 => ?_)
  · refine xa_step (xa_iload_n d_X5_possible_12 rfl) ?_
    refine xa_step (xa_aload_n d_X5_possible_13 rfl) ?_
    refine xa_getf xR xc_5 (by decide) (fun _ => rfl) xw_519 rfl d_X5_possible_14 (fun x3 _ => ?_)
    refine xa_step (xa_iload_n d_X5_possible_17 rfl) ?_
    refine xa_step (xa_bipush d_X5_possible_18 xq_b_6) ?_
    refine xa_step (xa_imul d_X5_possible_20) ?_
    refine xa_step (xa_iload_n d_X5_possible_21 rfl) ?_
    refine xa_step (xa_iadd d_X5_possible_22) ?_
    refine xa_iaload d_X5_possible_23 (fun x4 _ => ?_)
    refine xa_if (xa_ifle d_X5_possible_24) (fun q5 => ?_) (fun q5 => ?_)
    · refine xa_step (xa_iconst d_X5_possible_27 xq_i_1) ?_
      refine xa_step (xa_iload_n d_X5_possible_28 rfl) ?_
      refine xa_step (xa_ishl d_X5_possible_29) ?_
      refine xa_step (xa_goto d_X5_possible_30) ?_
      refine xa_step (xa_ior d_X5_possible_34) ?_
      refine xa_step (xa_istore_n (ls' := [some (xR c0), some (xI c1), some (xI (xior v2 (xshl 1 v3))), some (xI v3)]) d_X5_possible_35 (by decide) rfl) ?_
      refine xa_step (xa_iinc (ls' := [some (xR c0), some (xI c1), some (xI (xior v2 (xshl 1 v3))), some (xI (w32 (v3 + 1)))]) d_X5_possible_36 xq_i_1 rfl (by decide) rfl) ?_
      refine xa_step (xa_goto d_X5_possible_39) ?_
      exact xa_weak (ls' := [some (xR c0), some (xI c1), some (xI (xior v2 (xshl 1 v3))), some (xI (w32 (v3 + 1)))]) ⟨rfl, rfl, rfl, rfl, trivial⟩ (hb (xior v2 (xshl 1 v3)) (w32 (v3 + 1)))
    · refine xa_step (xa_iconst d_X5_possible_33 xq_i_0) ?_
      refine xa_step (xa_ior d_X5_possible_34) ?_
      refine xa_step (xa_istore_n (ls' := [some (xR c0), some (xI c1), some (xI (xior v2 0)), some (xI v3)]) d_X5_possible_35 (by decide) rfl) ?_
      refine xa_step (xa_iinc (ls' := [some (xR c0), some (xI c1), some (xI (xior v2 0)), some (xI (w32 (v3 + 1)))]) d_X5_possible_36 xq_i_1 rfl (by decide) rfl) ?_
      refine xa_step (xa_goto d_X5_possible_39) ?_
      exact xa_weak (ls' := [some (xR c0), some (xI c1), some (xI (xior v2 0)), some (xI (w32 (v3 + 1)))]) ⟨rfl, rfl, rfl, rfl, trivial⟩ (hb (xior v2 0) (w32 (v3 + 1)))
  · exact xa_weak (ls' := [none, none, some (xI v2), none]) ⟨rfl, trivial⟩ (hx v2)
theorem d_X5_possible_42 : decode mX5_possible.1 42 = .ok (.iload_n 2, 1) ∧ 42 + 1 = 43 := ⟨by decide +kernel, rfl⟩
theorem d_X5_possible_43 : decode mX5_possible.1 43 = .ok (.ireturn, 1) := by decide +kernel
set_option maxRecDepth 100000 in
set_option maxHeartbeats 4000000 in
theorem g_X5_possible (l : Launch) (G : xa_C) (v0 v1 : Int) (h : xa_H) : xa_G l G 2 mX5_possible (f_X5_possible v0 v1 h) (fun r => some (some (xI r), h) : Int → Option xa_O) 0 [some (xR v0), some (xI v1), none, none] [] h := by
  unfold f_X5_possible
  refine xa_step (xa_iconst d_X5_possible_0 xq_i_0) ?_
  refine xa_step (xa_istore_n (ls' := [some (xR v0), some (xI v1), some (xI 0), none]) d_X5_possible_1 (by decide) rfl) ?_
  refine xa_step (xa_iconst d_X5_possible_2 xq_i_0) ?_
  refine xa_step (xa_istore_n (ls' := [some (xR v0), some (xI v1), some (xI 0), some (xI 0)]) d_X5_possible_3 (by decide) rfl) ?_
  refine xa_weak (ls' := [some (xR v0), some (xI v1), some (xI 0), some (xI 0)]) ⟨rfl, rfl, rfl, rfl, trivial⟩ ?_
  refine xa_loop (f := fun s => f_X5_possible_L4 v0 v1 h s.1 s.2) (L := fun s => [some (xR v0), some (xI v1), some (xI s.1), some (xI s.2)]) (P := fun s => h) (X := (fun x K => xa_G l G 2 mX5_possible (some (Sum.inr x)) K 42 [none, none, some (xI x), none] [] h)) (fun K hb hX s => g_X5_possible_L4 l G v0 v1 h K (fun w0 w1 => hb ((w0, w1))) (fun w0 => hX w0) s.1 s.2) ?_ xFU ((0, 0))
  intro e6 K hK
  refine xa_eqE hK ?_
  show xa_G l G 2 mX5_possible _ _ 42 [none, none, some (xI e6), none] [] h
  refine xa_step (xa_iload_n d_X5_possible_42 rfl) ?_
  exact xa_iret d_X5_possible_43 rfl rfl
theorem ct_X5_possible (l : Launch) (G : xa_C) (v0 v1 : Int) (h : xa_H) (r : Int) (hr : f_X5_possible v0 v1 h = some r) : xa_CT l G 2 mX5_possible yX5_possible [xR v0, xI v1] h (some (xI r), h) :=
  xa_met (by decide +kernel) rfl (fun q => by first | rfl | cases q) (Nat.le_of_ble_eq_true rfl) rfl (g_X5_possible l G v0 v1 h) (by rw [hr]; rfl)
abbrev mX11_can : xa_M := (cX11_can, 2, (some (.int)), RX11, false)
theorem d_X11_can_0 : decode mX11_can.1 0 = .ok (.iload_n 1, 1) ∧ 0 + 1 = 1 := ⟨by decide +kernel, rfl⟩
theorem d_X11_can_1 : decode mX11_can.1 1 = .ok (.iconst (-1), 1) ∧ 1 + 1 = 2 := ⟨by decide +kernel, rfl⟩
theorem d_X11_can_2 : decode mX11_can.1 2 = .ok (.if_icmp .ne 11, 3) ∧ 2 + 3 = 5 ∧ ((2 : Nat) : Int) + 11 = ((13 : Nat) : Int) := ⟨by decide +kernel, rfl, rfl⟩
theorem d_X11_can_5 : decode mX11_can.1 5 = .ok (.aload_n 0, 1) ∧ 5 + 1 = 6 := ⟨by decide +kernel, rfl⟩
theorem d_X11_can_6 : decode mX11_can.1 6 = .ok (.getfield 78, 3) ∧ 6 + 3 = 9 := ⟨by decide +kernel, rfl⟩
theorem d_X11_can_9 : decode mX11_can.1 9 = .ok (.getfield 313, 3) ∧ 9 + 3 = 12 := ⟨by decide +kernel, rfl⟩
theorem d_X11_can_12 : decode mX11_can.1 12 = .ok (.ireturn, 1) := by decide +kernel
theorem d_X11_can_13 : decode mX11_can.1 13 = .ok (.aload_n 0, 1) ∧ 13 + 1 = 14 := ⟨by decide +kernel, rfl⟩
theorem d_X11_can_14 : decode mX11_can.1 14 = .ok (.iload_n 1, 1) ∧ 14 + 1 = 15 := ⟨by decide +kernel, rfl⟩
theorem d_X11_can_15 : decode mX11_can.1 15 = .ok (.invokevirtual 199, 3) ∧ 15 + 3 = 18 := ⟨by decide +kernel, rfl⟩
theorem d_X11_can_18 : decode mX11_can.1 18 = .ok (.ifCond .eq 14, 3) ∧ 18 + 3 = 21 ∧ ((18 : Nat) : Int) + 14 = ((32 : Nat) : Int) := ⟨by decide +kernel, rfl, rfl⟩
theorem d_X11_can_32 : decode mX11_can.1 32 = .ok (.iconst (-1), 1) ∧ 32 + 1 = 33 := ⟨by decide +kernel, rfl⟩
theorem d_X11_can_33 : decode mX11_can.1 33 = .ok (.ireturn, 1) := by decide +kernel
theorem d_X11_can_21 : decode mX11_can.1 21 = .ok (.aload_n 0, 1) ∧ 21 + 1 = 22 := ⟨by decide +kernel, rfl⟩
theorem d_X11_can_22 : decode mX11_can.1 22 = .ok (.getfield 78, 3) ∧ 22 + 3 = 25 := ⟨by decide +kernel, rfl⟩
theorem d_X11_can_25 : decode mX11_can.1 25 = .ok (.iload_n 1, 1) ∧ 25 + 1 = 26 := ⟨by decide +kernel, rfl⟩
theorem d_X11_can_26 : decode mX11_can.1 26 = .ok (.invokevirtual 316, 3) ∧ 26 + 3 = 29 := ⟨by decide +kernel, rfl⟩
theorem d_X11_can_29 : decode mX11_can.1 29 = .ok (.goto 4, 3) ∧ ((29 : Nat) : Int) + 4 = ((33 : Nat) : Int) := ⟨by decide +kernel, rfl⟩
set_option maxRecDepth 100000 in
set_option maxHeartbeats 4000000 in
theorem g_X11_can (l : Launch) (G : xa_C) (v0 v1 : Int) (h : xa_H) : xa_G l G 3 mX11_can (f_X11_can v0 v1 h) (fun r => some (some (xI r), h) : Int → Option xa_O) 0 [some (xR v0), some (xI v1)] [] h := by
  unfold f_X11_can
  refine xa_step (xa_iload_n d_X11_can_0 rfl) ?_
  refine xa_step (xa_iconst d_X11_can_1 xq_i_m1) ?_
  refine xa_if (xa_icmpne d_X11_can_2) (fun q1 => ?_) (fun q1 => ?_)
  · refine xa_step (xa_aload_n d_X11_can_5 rfl) ?_
    refine xa_getf xR xc_11 (by decide) (fun _ => rfl) xw_594 rfl d_X11_can_6 (fun x2 _ => ?_)
    refine xa_getf xI xc_5 (by decide) (fun _ => rfl) xw_513 rfl d_X11_can_9 (fun x3 _ => ?_)
    exact xa_iret d_X11_can_12 rfl rfl
  · refine xa_step (xa_aload_n d_X11_can_13 rfl) ?_
    refine xa_step (xa_iload_n d_X11_can_14 rfl) ?_
    refine xa_callVi (as := [xI v1]) (st := []) (M' := mX11_isHolder) (d' := 2) rfl xw_921 xw_923 xw_33 xw_924 xw_161 xh_X11_isHolder rfl ⟨Nat.le_of_ble_eq_true rfl, Nat.le_of_ble_eq_true rfl⟩ (Nat.le_of_ble_eq_true rfl) rfl d_X11_can_15 (fun r hr => ct_X11_isHolder l G v0 v1 h r hr) (fun r4 _ => ?_)
    refine xa_if (xa_ifeq d_X11_can_18) (fun q5 => ?_) (fun q5 => ?_)
    · refine xa_step (xa_iconst d_X11_can_32 xq_i_m1) ?_
      exact xa_iret d_X11_can_33 rfl rfl
    · refine xa_step (xa_aload_n d_X11_can_21 rfl) ?_
      refine xa_getf xR xc_11 (by decide) (fun _ => rfl) xw_594 rfl d_X11_can_22 (fun x6 _ => ?_)
      refine xa_step (xa_iload_n d_X11_can_25 rfl) ?_
      refine xa_callVi (as := [xI v1]) (st := []) (M' := mX5_possible) (d' := 2) rfl xw_1167 xw_1168 xw_1169 xw_1170 xw_174 xh_X5_possible rfl ⟨Nat.le_of_ble_eq_true rfl, Nat.le_of_ble_eq_true rfl⟩ (Nat.le_of_ble_eq_true rfl) rfl d_X11_can_26 (fun r hr => ct_X5_possible l G x6 v1 h r hr) (fun r7 _ => ?_)
      refine xa_step (xa_goto d_X11_can_29) ?_
      exact xa_iret d_X11_can_33 rfl rfl
theorem ct_X11_can (l : Launch) (G : xa_C) (v0 v1 : Int) (h : xa_H) (r : Int) (hr : f_X11_can v0 v1 h = some r) : xa_CT l G 3 mX11_can yX11_can [xR v0, xI v1] h (some (xI r), h) :=
  xa_met (by decide +kernel) rfl (fun q => by first | rfl | cases q) (Nat.le_of_ble_eq_true rfl) rfl (g_X11_can l G v0 v1 h) (by rw [hr]; rfl)
abbrev mX11_clear : xa_M := (cX11_clear, 7, (some (.int)), RX11, false)
theorem d_X11_clear_0 : decode mX11_clear.1 0 = .ok (.iload_n 1, 1) ∧ 0 + 1 = 1 := ⟨by decide +kernel, rfl⟩
theorem d_X11_clear_1 : decode mX11_clear.1 1 = .ok (.ifCond .lt 8, 3) ∧ 1 + 3 = 4 ∧ ((1 : Nat) : Int) + 8 = ((9 : Nat) : Int) := ⟨by decide +kernel, rfl, rfl⟩
theorem d_X11_clear_9 : decode mX11_clear.1 9 = .ok (.iconst (-1), 1) ∧ 9 + 1 = 10 := ⟨by decide +kernel, rfl⟩
theorem d_X11_clear_10 : decode mX11_clear.1 10 = .ok (.ireturn, 1) := by decide +kernel
theorem d_X11_clear_4 : decode mX11_clear.1 4 = .ok (.iload_n 1, 1) ∧ 4 + 1 = 5 := ⟨by decide +kernel, rfl⟩
theorem d_X11_clear_5 : decode mX11_clear.1 5 = .ok (.iconst 5, 1) ∧ 5 + 1 = 6 := ⟨by decide +kernel, rfl⟩
theorem d_X11_clear_6 : decode mX11_clear.1 6 = .ok (.if_icmp .le 5, 3) ∧ 6 + 3 = 9 ∧ ((6 : Nat) : Int) + 5 = ((11 : Nat) : Int) := ⟨by decide +kernel, rfl, rfl⟩
theorem d_X11_clear_11 : decode mX11_clear.1 11 = .ok (.ldc2_w 293, 3) ∧ 11 + 3 = 14 := ⟨by decide +kernel, rfl⟩
theorem d_X11_clear_14 : decode mX11_clear.1 14 = .ok (.lstore_n 2, 1) ∧ 14 + 1 = 15 := ⟨by decide +kernel, rfl⟩
theorem d_X11_clear_15 : decode mX11_clear.1 15 = .ok (.lconst 1, 1) ∧ 15 + 1 = 16 := ⟨by decide +kernel, rfl⟩
theorem d_X11_clear_16 : decode mX11_clear.1 16 = .ok (.lstore 4, 2) ∧ 16 + 2 = 18 := ⟨by decide +kernel, rfl⟩
theorem d_X11_clear_18 : decode mX11_clear.1 18 = .ok (.iconst 0, 1) ∧ 18 + 1 = 19 := ⟨by decide +kernel, rfl⟩
theorem d_X11_clear_19 : decode mX11_clear.1 19 = .ok (.istore 6, 2) ∧ 19 + 2 = 21 := ⟨by decide +kernel, rfl⟩
theorem d_X11_clear_21 : decode mX11_clear.1 21 = .ok (.iload 6, 2) ∧ 21 + 2 = 23 := ⟨by decide +kernel, rfl⟩
theorem d_X11_clear_23 : decode mX11_clear.1 23 = .ok (.iload_n 1, 1) ∧ 23 + 1 = 24 := ⟨by decide +kernel, rfl⟩
theorem d_X11_clear_24 : decode mX11_clear.1 24 = .ok (.if_icmp .ge 31, 3) ∧ 24 + 3 = 27 ∧ ((24 : Nat) : Int) + 31 = ((55 : Nat) : Int) := ⟨by decide +kernel, rfl, rfl⟩
theorem d_X11_clear_27 : decode mX11_clear.1 27 = .ok (.lload_n 2, 1) ∧ 27 + 1 = 28 := ⟨by decide +kernel, rfl⟩
theorem d_X11_clear_28 : decode mX11_clear.1 28 = .ok (.bipush 100, 2) ∧ 28 + 2 = 30 := ⟨by decide +kernel, rfl⟩
theorem d_X11_clear_30 : decode mX11_clear.1 30 = .ok (.aload_n 0, 1) ∧ 30 + 1 = 31 := ⟨by decide +kernel, rfl⟩
theorem d_X11_clear_31 : decode mX11_clear.1 31 = .ok (.getfield 47, 3) ∧ 31 + 3 = 34 := ⟨by decide +kernel, rfl⟩
theorem d_X11_clear_34 : decode mX11_clear.1 34 = .ok (.getfield 164, 3) ∧ 34 + 3 = 37 := ⟨by decide +kernel, rfl⟩
theorem d_X11_clear_37 : decode mX11_clear.1 37 = .ok (.isub, 1) ∧ 37 + 1 = 38 := ⟨by decide +kernel, rfl⟩
theorem d_X11_clear_38 : decode mX11_clear.1 38 = .ok (.i2l, 1) ∧ 38 + 1 = 39 := ⟨by decide +kernel, rfl⟩
theorem d_X11_clear_39 : decode mX11_clear.1 39 = .ok (.lmul, 1) ∧ 39 + 1 = 40 := ⟨by decide +kernel, rfl⟩
theorem d_X11_clear_40 : decode mX11_clear.1 40 = .ok (.lstore_n 2, 1) ∧ 40 + 1 = 41 := ⟨by decide +kernel, rfl⟩
theorem d_X11_clear_41 : decode mX11_clear.1 41 = .ok (.lload 4, 2) ∧ 41 + 2 = 43 := ⟨by decide +kernel, rfl⟩
theorem d_X11_clear_43 : decode mX11_clear.1 43 = .ok (.ldc2_w 295, 3) ∧ 43 + 3 = 46 := ⟨by decide +kernel, rfl⟩
theorem d_X11_clear_46 : decode mX11_clear.1 46 = .ok (.lmul, 1) ∧ 46 + 1 = 47 := ⟨by decide +kernel, rfl⟩
theorem d_X11_clear_47 : decode mX11_clear.1 47 = .ok (.lstore 4, 2) ∧ 47 + 2 = 49 := ⟨by decide +kernel, rfl⟩
theorem d_X11_clear_49 : decode mX11_clear.1 49 = .ok (.iinc 6 1, 3) ∧ 49 + 3 = 52 := ⟨by decide +kernel, rfl⟩
theorem d_X11_clear_52 : decode mX11_clear.1 52 = .ok (.goto (-31), 3) ∧ ((52 : Nat) : Int) + (-31) = ((21 : Nat) : Int) := ⟨by decide +kernel, rfl⟩
set_option maxRecDepth 100000 in
set_option maxHeartbeats 4000000 in
theorem g_X11_clear_L21 (l : Launch) (G : xa_C) (c0 c1 : Int) (h : xa_H) (K : (Int × Int × Int) ⊕ (Int × Int) → Option xa_O) (hb : ∀ (v2 : Int) (v4 : Int) (v6 : Int), xa_G l G 2 mX11_clear (some (Sum.inl ((v2, v4, v6)))) K 21 [some (xR c0), some (xI c1), some (xL v2), none, some (xL v4), none, some (xI v6)] [] h) (hx : ∀ (v2 : Int) (v4 : Int), xa_G l G 2 mX11_clear (some (Sum.inr ((v2, v4)))) K 55 [none, none, some (xL v2), none, some (xL v4), none, none] [] h) : ∀ (v2 : Int) (v4 : Int) (v6 : Int), xa_G l G 2 mX11_clear (f_X11_clear_L21 c0 c1 h v2 v4 v6) K 21 [some (xR c0), some (xI c1), some (xL v2), none, some (xL v4), none, some (xI v6)] [] h := by
  intro v2 v4 v6
  unfold f_X11_clear_L21
  refine xa_step (xa_iload d_X11_clear_21 rfl) ?_
  refine xa_step (xa_iload_n d_X11_clear_23 rfl) ?_
  refine xa_if (xa_icmpge d_X11_clear_24) (fun q3 => ?_) (fun q3 => ?_)
  · refine xa_step (xa_lload_n d_X11_clear_27 rfl) ?_
    refine xa_step (xa_bipush d_X11_clear_28 xq_b_100) ?_
    refine xa_step (xa_aload_n d_X11_clear_30 rfl) ?_
    refine xa_getf xR xc_11 (by decide) (fun _ => rfl) xw_589 rfl d_X11_clear_31 (fun x4 _ => ?_)
    refine xa_getf xI xc_0 (by decide) (fun _ => rfl) xw_396 rfl d_X11_clear_34 (fun x5 _ => ?_)
    refine xa_step (xa_isub d_X11_clear_37) ?_
    refine xa_step (xa_i2l d_X11_clear_38) ?_
    refine xa_step (xa_lmul d_X11_clear_39) ?_
    refine xa_step (xa_lstore_n (ls' := [some (xR c0), some (xI c1), some (xL (w64 (v2 * (w32 (100 - x5))))), none, some (xL v4), none, some (xI v6)]) d_X11_clear_40 (by decide) rfl) ?_
    refine xa_step (xa_lload d_X11_clear_41 rfl) ?_
    refine xa_step (xa_ldc2 (c64 := 100) (v := 100) (by decide +kernel) xw_1137 d_X11_clear_43) ?_
    refine xa_step (xa_lmul d_X11_clear_46) ?_
    refine xa_step (xa_lstore (ls' := [some (xR c0), some (xI c1), some (xL (w64 (v2 * (w32 (100 - x5))))), none, some (xL (w64 (v4 * 100))), none, some (xI v6)]) d_X11_clear_47 (by decide) rfl) ?_
    refine xa_step (xa_iinc (ls' := [some (xR c0), some (xI c1), some (xL (w64 (v2 * (w32 (100 - x5))))), none, some (xL (w64 (v4 * 100))), none, some (xI (w32 (v6 + 1)))]) d_X11_clear_49 xq_i_1 rfl (by decide) rfl) ?_
    refine xa_step (xa_goto d_X11_clear_52) ?_
    exact xa_weak (ls' := [some (xR c0), some (xI c1), some (xL (w64 (v2 * (w32 (100 - x5))))), none, some (xL (w64 (v4 * 100))), none, some (xI (w32 (v6 + 1)))]) ⟨rfl, rfl, rfl, rfl, rfl, trivial⟩ (hb (w64 (v2 * (w32 (100 - x5)))) (w64 (v4 * 100)) (w32 (v6 + 1)))
  · exact xa_weak (ls' := [none, none, some (xL v2), none, some (xL v4), none, none]) ⟨rfl, rfl, trivial⟩ (hx v2 v4)
theorem d_X11_clear_55 : decode mX11_clear.1 55 = .ok (.lload_n 2, 1) ∧ 55 + 1 = 56 := ⟨by decide +kernel, rfl⟩
theorem d_X11_clear_56 : decode mX11_clear.1 56 = .ok (.lload 4, 2) ∧ 56 + 2 = 58 := ⟨by decide +kernel, rfl⟩
theorem d_X11_clear_58 : decode mX11_clear.1 58 = .ok (.ldiv, 1) ∧ 58 + 1 = 59 := ⟨by decide +kernel, rfl⟩
theorem d_X11_clear_59 : decode mX11_clear.1 59 = .ok (.l2i, 1) ∧ 59 + 1 = 60 := ⟨by decide +kernel, rfl⟩
theorem d_X11_clear_60 : decode mX11_clear.1 60 = .ok (.ireturn, 1) := by decide +kernel
set_option maxRecDepth 100000 in
set_option maxHeartbeats 4000000 in
theorem g_X11_clear (l : Launch) (G : xa_C) (v0 v1 : Int) (h : xa_H) : xa_G l G 2 mX11_clear (f_X11_clear v0 v1 h) (fun r => some (some (xI r), h) : Int → Option xa_O) 0 [some (xR v0), some (xI v1), none, none, none, none, none] [] h := by
  unfold f_X11_clear
  refine xa_step (xa_iload_n d_X11_clear_0 rfl) ?_
  refine xa_if (xa_iflt d_X11_clear_1) (fun q1 => ?_) (fun q1 => ?_)
  · refine xa_step (xa_iconst d_X11_clear_9 xq_i_m1) ?_
    exact xa_iret d_X11_clear_10 rfl rfl
  · refine xa_step (xa_iload_n d_X11_clear_4 rfl) ?_
    refine xa_step (xa_iconst d_X11_clear_5 xq_i_5) ?_
    refine xa_if (xa_icmple d_X11_clear_6) (fun q2 => ?_) (fun q2 => ?_)
    · refine xa_step (xa_iconst d_X11_clear_9 xq_i_m1) ?_
      exact xa_iret d_X11_clear_10 rfl rfl
    · refine xa_step (xa_ldc2 (c64 := 1000000) (v := 1000000) (by decide +kernel) xw_1136 d_X11_clear_11) ?_
      refine xa_step (xa_lstore_n (ls' := [some (xR v0), some (xI v1), some (xL 1000000), none, none, none, none]) d_X11_clear_14 (by decide) rfl) ?_
      refine xa_step (xa_lconst d_X11_clear_15 rfl) ?_
      refine xa_step (xa_lstore (ls' := [some (xR v0), some (xI v1), some (xL 1000000), none, some (xL 1), none, none]) d_X11_clear_16 (by decide) rfl) ?_
      refine xa_step (xa_iconst d_X11_clear_18 xq_i_0) ?_
      refine xa_step (xa_istore (ls' := [some (xR v0), some (xI v1), some (xL 1000000), none, some (xL 1), none, some (xI 0)]) d_X11_clear_19 (by decide) rfl) ?_
      refine xa_weak (ls' := [some (xR v0), some (xI v1), some (xL 1000000), none, some (xL 1), none, some (xI 0)]) ⟨rfl, rfl, rfl, rfl, rfl, trivial⟩ ?_
      refine xa_loop (f := fun s => f_X11_clear_L21 v0 v1 h s.1 s.2.1 s.2.2) (L := fun s => [some (xR v0), some (xI v1), some (xL s.1), none, some (xL s.2.1), none, some (xI s.2.2)]) (P := fun s => h) (X := (fun x K => xa_G l G 2 mX11_clear (some (Sum.inr x)) K 55 [none, none, some (xL x.1), none, some (xL x.2), none, none] [] h)) (fun K hb hX s => g_X11_clear_L21 l G v0 v1 h K (fun w0 w1 w2 => hb ((w0, w1, w2))) (fun w0 w1 => hX ((w0, w1))) s.1 s.2.1 s.2.2) ?_ xFU ((1000000, 1, 0))
      intro e6 K hK
      refine xa_eqE hK ?_
      show xa_G l G 2 mX11_clear _ _ 55 [none, none, some (xL e6.1), none, some (xL e6.2), none, none] [] h
      refine xa_step (xa_lload_n d_X11_clear_55 rfl) ?_
      refine xa_step (xa_lload d_X11_clear_56 rfl) ?_
      refine xa_nz (fun q7 => ?_)
      refine xa_step (xa_ldiv d_X11_clear_58 q7) ?_
      refine xa_step (xa_l2i d_X11_clear_59) ?_
      exact xa_iret d_X11_clear_60 rfl rfl
theorem ct_X11_clear (l : Launch) (G : xa_C) (v0 v1 : Int) (h : xa_H) (r : Int) (hr : f_X11_clear v0 v1 h = some r) : xa_CT l G 2 mX11_clear yX11_clear [xR v0, xI v1] h (some (xI r), h) :=
  xa_met (by decide +kernel) rfl (fun q => by first | rfl | cases q) (Nat.le_of_ble_eq_true rfl) rfl (g_X11_clear l G v0 v1 h) (by rw [hr]; rfl)
abbrev mX7_ahead : xa_M := (cX7_ahead, 2, (some (.int)), RX7, false)
theorem d_X7_ahead_0 : decode mX7_ahead.1 0 = .ok (.iload_n 1, 1) ∧ 0 + 1 = 1 := ⟨by decide +kernel, rfl⟩
theorem d_X7_ahead_1 : decode mX7_ahead.1 1 = .ok (.ifCond .le 9, 3) ∧ 1 + 3 = 4 ∧ ((1 : Nat) : Int) + 9 = ((10 : Nat) : Int) := ⟨by decide +kernel, rfl, rfl⟩
theorem d_X7_ahead_4 : decode mX7_ahead.1 4 = .ok (.iload_n 1, 1) ∧ 4 + 1 = 5 := ⟨by decide +kernel, rfl⟩
theorem d_X7_ahead_5 : decode mX7_ahead.1 5 = .ok (.iconst 1, 1) ∧ 5 + 1 = 6 := ⟨by decide +kernel, rfl⟩
theorem d_X7_ahead_6 : decode mX7_ahead.1 6 = .ok (.isub, 1) ∧ 6 + 1 = 7 := ⟨by decide +kernel, rfl⟩
theorem d_X7_ahead_7 : decode mX7_ahead.1 7 = .ok (.goto 9, 3) ∧ ((7 : Nat) : Int) + 9 = ((16 : Nat) : Int) := ⟨by decide +kernel, rfl⟩
theorem d_X7_ahead_16 : decode mX7_ahead.1 16 = .ok (.ireturn, 1) := by decide +kernel
theorem d_X7_ahead_10 : decode mX7_ahead.1 10 = .ok (.aload_n 0, 1) ∧ 10 + 1 = 11 := ⟨by decide +kernel, rfl⟩
theorem d_X7_ahead_11 : decode mX7_ahead.1 11 = .ok (.getfield 15, 3) ∧ 11 + 3 = 14 := ⟨by decide +kernel, rfl⟩
theorem d_X7_ahead_14 : decode mX7_ahead.1 14 = .ok (.iconst 1, 1) ∧ 14 + 1 = 15 := ⟨by decide +kernel, rfl⟩
theorem d_X7_ahead_15 : decode mX7_ahead.1 15 = .ok (.isub, 1) ∧ 15 + 1 = 16 := ⟨by decide +kernel, rfl⟩
set_option maxRecDepth 100000 in
set_option maxHeartbeats 4000000 in
theorem g_X7_ahead (l : Launch) (G : xa_C) (v0 v1 : Int) (h : xa_H) : xa_G l G 2 mX7_ahead (f_X7_ahead v0 v1 h) (fun r => some (some (xI r), h) : Int → Option xa_O) 0 [some (xR v0), some (xI v1)] [] h := by
  unfold f_X7_ahead
  refine xa_step (xa_iload_n d_X7_ahead_0 rfl) ?_
  refine xa_if (xa_ifle d_X7_ahead_1) (fun q1 => ?_) (fun q1 => ?_)
  · refine xa_step (xa_iload_n d_X7_ahead_4 rfl) ?_
    refine xa_step (xa_iconst d_X7_ahead_5 xq_i_1) ?_
    refine xa_step (xa_isub d_X7_ahead_6) ?_
    refine xa_step (xa_goto d_X7_ahead_7) ?_
    exact xa_iret d_X7_ahead_16 rfl rfl
  · refine xa_step (xa_aload_n d_X7_ahead_10 rfl) ?_
    refine xa_getf xI xc_7 (by decide) (fun _ => rfl) xw_480 rfl d_X7_ahead_11 (fun x2 _ => ?_)
    refine xa_step (xa_iconst d_X7_ahead_14 xq_i_1) ?_
    refine xa_step (xa_isub d_X7_ahead_15) ?_
    exact xa_iret d_X7_ahead_16 rfl rfl
theorem ct_X7_ahead (l : Launch) (G : xa_C) (v0 v1 : Int) (h : xa_H) (r : Int) (hr : f_X7_ahead v0 v1 h = some r) : xa_CT l G 2 mX7_ahead yX7_ahead [xR v0, xI v1] h (some (xI r), h) :=
  xa_met (by decide +kernel) rfl (fun q => by first | rfl | cases q) (Nat.le_of_ble_eq_true rfl) rfl (g_X7_ahead l G v0 v1 h) (by rw [hr]; rfl)
abbrev mX7_behind : xa_M := (cX7_behind, 2, (some (.int)), RX7, false)
theorem d_X7_behind_0 : decode mX7_behind.1 0 = .ok (.iload_n 1, 1) ∧ 0 + 1 = 1 := ⟨by decide +kernel, rfl⟩
theorem d_X7_behind_1 : decode mX7_behind.1 1 = .ok (.iconst 1, 1) ∧ 1 + 1 = 2 := ⟨by decide +kernel, rfl⟩
theorem d_X7_behind_2 : decode mX7_behind.1 2 = .ok (.iadd, 1) ∧ 2 + 1 = 3 := ⟨by decide +kernel, rfl⟩
theorem d_X7_behind_3 : decode mX7_behind.1 3 = .ok (.aload_n 0, 1) ∧ 3 + 1 = 4 := ⟨by decide +kernel, rfl⟩
theorem d_X7_behind_4 : decode mX7_behind.1 4 = .ok (.getfield 15, 3) ∧ 4 + 3 = 7 := ⟨by decide +kernel, rfl⟩
theorem d_X7_behind_7 : decode mX7_behind.1 7 = .ok (.if_icmp .ge 9, 3) ∧ 7 + 3 = 10 ∧ ((7 : Nat) : Int) + 9 = ((16 : Nat) : Int) := ⟨by decide +kernel, rfl, rfl⟩
theorem d_X7_behind_10 : decode mX7_behind.1 10 = .ok (.iload_n 1, 1) ∧ 10 + 1 = 11 := ⟨by decide +kernel, rfl⟩
theorem d_X7_behind_11 : decode mX7_behind.1 11 = .ok (.iconst 1, 1) ∧ 11 + 1 = 12 := ⟨by decide +kernel, rfl⟩
theorem d_X7_behind_12 : decode mX7_behind.1 12 = .ok (.iadd, 1) ∧ 12 + 1 = 13 := ⟨by decide +kernel, rfl⟩
theorem d_X7_behind_13 : decode mX7_behind.1 13 = .ok (.goto 4, 3) ∧ ((13 : Nat) : Int) + 4 = ((17 : Nat) : Int) := ⟨by decide +kernel, rfl⟩
theorem d_X7_behind_17 : decode mX7_behind.1 17 = .ok (.ireturn, 1) := by decide +kernel
theorem d_X7_behind_16 : decode mX7_behind.1 16 = .ok (.iconst 0, 1) ∧ 16 + 1 = 17 := ⟨by decide +kernel, rfl⟩
set_option maxRecDepth 100000 in
set_option maxHeartbeats 4000000 in
theorem g_X7_behind (l : Launch) (G : xa_C) (v0 v1 : Int) (h : xa_H) : xa_G l G 2 mX7_behind (f_X7_behind v0 v1 h) (fun r => some (some (xI r), h) : Int → Option xa_O) 0 [some (xR v0), some (xI v1)] [] h := by
  unfold f_X7_behind
  refine xa_step (xa_iload_n d_X7_behind_0 rfl) ?_
  refine xa_step (xa_iconst d_X7_behind_1 xq_i_1) ?_
  refine xa_step (xa_iadd d_X7_behind_2) ?_
  refine xa_step (xa_aload_n d_X7_behind_3 rfl) ?_
  refine xa_getf xI xc_7 (by decide) (fun _ => rfl) xw_480 rfl d_X7_behind_4 (fun x1 _ => ?_)
  refine xa_if (xa_icmpge d_X7_behind_7) (fun q2 => ?_) (fun q2 => ?_)
  · refine xa_step (xa_iload_n d_X7_behind_10 rfl) ?_
    refine xa_step (xa_iconst d_X7_behind_11 xq_i_1) ?_
    refine xa_step (xa_iadd d_X7_behind_12) ?_
    refine xa_step (xa_goto d_X7_behind_13) ?_
    exact xa_iret d_X7_behind_17 rfl rfl
  · refine xa_step (xa_iconst d_X7_behind_16 xq_i_0) ?_
    exact xa_iret d_X7_behind_17 rfl rfl
theorem ct_X7_behind (l : Launch) (G : xa_C) (v0 v1 : Int) (h : xa_H) (r : Int) (hr : f_X7_behind v0 v1 h = some r) : xa_CT l G 2 mX7_behind yX7_behind [xR v0, xI v1] h (some (xI r), h) :=
  xa_met (by decide +kernel) rfl (fun q => by first | rfl | cases q) (Nat.le_of_ble_eq_true rfl) rfl (g_X7_behind l G v0 v1 h) (by rw [hr]; rfl)
abbrev mX7_carryOut : xa_M := (cX7_carryOut, 5, none, RX7, false)
theorem d_X7_carryOut_0 : decode mX7_carryOut.1 0 = .ok (.iconst 0, 1) ∧ 0 + 1 = 1 := ⟨by decide +kernel, rfl⟩
theorem d_X7_carryOut_1 : decode mX7_carryOut.1 1 = .ok (.istore_n 2, 1) ∧ 1 + 1 = 2 := ⟨by decide +kernel, rfl⟩
theorem d_X7_carryOut_2 : decode mX7_carryOut.1 2 = .ok (.iload_n 2, 1) ∧ 2 + 1 = 3 := ⟨by decide +kernel, rfl⟩
theorem d_X7_carryOut_3 : decode mX7_carryOut.1 3 = .ok (.aload_n 0, 1) ∧ 3 + 1 = 4 := ⟨by decide +kernel, rfl⟩
theorem d_X7_carryOut_4 : decode mX7_carryOut.1 4 = .ok (.getfield 15, 3) ∧ 4 + 3 = 7 := ⟨by decide +kernel, rfl⟩
theorem d_X7_carryOut_7 : decode mX7_carryOut.1 7 = .ok (.if_icmp .ge 102, 3) ∧ 7 + 3 = 10 ∧ ((7 : Nat) : Int) + 102 = ((109 : Nat) : Int) := ⟨by decide +kernel, rfl, rfl⟩
theorem d_X7_carryOut_10 : decode mX7_carryOut.1 10 = .ok (.aload_n 0, 1) ∧ 10 + 1 = 11 := ⟨by decide +kernel, rfl⟩
theorem d_X7_carryOut_11 : decode mX7_carryOut.1 11 = .ok (.getfield 9, 3) ∧ 11 + 3 = 14 := ⟨by decide +kernel, rfl⟩
theorem d_X7_carryOut_14 : decode mX7_carryOut.1 14 = .ok (.iload_n 2, 1) ∧ 14 + 1 = 15 := ⟨by decide +kernel, rfl⟩
theorem d_X7_carryOut_15 : decode mX7_carryOut.1 15 = .ok (.iaload, 1) ∧ 15 + 1 = 16 := ⟨by decide +kernel, rfl⟩
theorem d_X7_carryOut_16 : decode mX7_carryOut.1 16 = .ok (.istore_n 3, 1) ∧ 16 + 1 = 17 := ⟨by decide +kernel, rfl⟩
theorem d_X7_carryOut_17 : decode mX7_carryOut.1 17 = .ok (.iload_n 3, 1) ∧ 17 + 1 = 18 := ⟨by decide +kernel, rfl⟩
theorem d_X7_carryOut_18 : decode mX7_carryOut.1 18 = .ok (.bipush 6, 2) ∧ 18 + 2 = 20 := ⟨by decide +kernel, rfl⟩
theorem d_X7_carryOut_20 : decode mX7_carryOut.1 20 = .ok (.imul, 1) ∧ 20 + 1 = 21 := ⟨by decide +kernel, rfl⟩
theorem d_X7_carryOut_21 : decode mX7_carryOut.1 21 = .ok (.aload_n 0, 1) ∧ 21 + 1 = 22 := ⟨by decide +kernel, rfl⟩
theorem d_X7_carryOut_22 : decode mX7_carryOut.1 22 = .ok (.getfield 9, 3) ∧ 22 + 3 = 25 := ⟨by decide +kernel, rfl⟩
theorem d_X7_carryOut_25 : decode mX7_carryOut.1 25 = .ok (.aload_n 0, 1) ∧ 25 + 1 = 26 := ⟨by decide +kernel, rfl⟩
theorem d_X7_carryOut_26 : decode mX7_carryOut.1 26 = .ok (.iload_n 2, 1) ∧ 26 + 1 = 27 := ⟨by decide +kernel, rfl⟩
theorem d_X7_carryOut_27 : decode mX7_carryOut.1 27 = .ok (.invokevirtual 78, 3) ∧ 27 + 3 = 30 := ⟨by decide +kernel, rfl⟩
theorem d_X7_carryOut_30 : decode mX7_carryOut.1 30 = .ok (.iaload, 1) ∧ 30 + 1 = 31 := ⟨by decide +kernel, rfl⟩
theorem d_X7_carryOut_31 : decode mX7_carryOut.1 31 = .ok (.iadd, 1) ∧ 31 + 1 = 32 := ⟨by decide +kernel, rfl⟩
theorem d_X7_carryOut_32 : decode mX7_carryOut.1 32 = .ok (.istore 4, 2) ∧ 32 + 2 = 34 := ⟨by decide +kernel, rfl⟩
theorem d_X7_carryOut_34 : decode mX7_carryOut.1 34 = .ok (.aload_n 1, 1) ∧ 34 + 1 = 35 := ⟨by decide +kernel, rfl⟩
theorem d_X7_carryOut_35 : decode mX7_carryOut.1 35 = .ok (.getfield 81, 3) ∧ 35 + 3 = 38 := ⟨by decide +kernel, rfl⟩
theorem d_X7_carryOut_38 : decode mX7_carryOut.1 38 = .ok (.iload_n 3, 1) ∧ 38 + 1 = 39 := ⟨by decide +kernel, rfl⟩
theorem d_X7_carryOut_39 : decode mX7_carryOut.1 39 = .ok (.aload_n 0, 1) ∧ 39 + 1 = 40 := ⟨by decide +kernel, rfl⟩
theorem d_X7_carryOut_40 : decode mX7_carryOut.1 40 = .ok (.getfield 28, 3) ∧ 40 + 3 = 43 := ⟨by decide +kernel, rfl⟩
theorem d_X7_carryOut_43 : decode mX7_carryOut.1 43 = .ok (.iload_n 2, 1) ∧ 43 + 1 = 44 := ⟨by decide +kernel, rfl⟩
theorem d_X7_carryOut_44 : decode mX7_carryOut.1 44 = .ok (.iaload, 1) ∧ 44 + 1 = 45 := ⟨by decide +kernel, rfl⟩
theorem d_X7_carryOut_45 : decode mX7_carryOut.1 45 = .ok (.iastore, 1) ∧ 45 + 1 = 46 := ⟨by decide +kernel, rfl⟩
theorem d_X7_carryOut_46 : decode mX7_carryOut.1 46 = .ok (.aload_n 1, 1) ∧ 46 + 1 = 47 := ⟨by decide +kernel, rfl⟩
theorem d_X7_carryOut_47 : decode mX7_carryOut.1 47 = .ok (.getfield 69, 3) ∧ 47 + 3 = 50 := ⟨by decide +kernel, rfl⟩
theorem d_X7_carryOut_50 : decode mX7_carryOut.1 50 = .ok (.iload_n 3, 1) ∧ 50 + 1 = 51 := ⟨by decide +kernel, rfl⟩
theorem d_X7_carryOut_51 : decode mX7_carryOut.1 51 = .ok (.sipush 9999, 3) ∧ 51 + 3 = 54 := ⟨by decide +kernel, rfl⟩
theorem d_X7_carryOut_54 : decode mX7_carryOut.1 54 = .ok (.aload_n 1, 1) ∧ 54 + 1 = 55 := ⟨by decide +kernel, rfl⟩
theorem d_X7_carryOut_55 : decode mX7_carryOut.1 55 = .ok (.getfield 69, 3) ∧ 55 + 3 = 58 := ⟨by decide +kernel, rfl⟩
theorem d_X7_carryOut_58 : decode mX7_carryOut.1 58 = .ok (.iload_n 3, 1) ∧ 58 + 1 = 59 := ⟨by decide +kernel, rfl⟩
theorem d_X7_carryOut_59 : decode mX7_carryOut.1 59 = .ok (.iaload, 1) ∧ 59 + 1 = 60 := ⟨by decide +kernel, rfl⟩
theorem d_X7_carryOut_60 : decode mX7_carryOut.1 60 = .ok (.aload_n 0, 1) ∧ 60 + 1 = 61 := ⟨by decide +kernel, rfl⟩
theorem d_X7_carryOut_61 : decode mX7_carryOut.1 61 = .ok (.getfield 25, 3) ∧ 61 + 3 = 64 := ⟨by decide +kernel, rfl⟩
theorem d_X7_carryOut_64 : decode mX7_carryOut.1 64 = .ok (.iload_n 2, 1) ∧ 64 + 1 = 65 := ⟨by decide +kernel, rfl⟩
theorem d_X7_carryOut_65 : decode mX7_carryOut.1 65 = .ok (.iaload, 1) ∧ 65 + 1 = 66 := ⟨by decide +kernel, rfl⟩
theorem d_X7_carryOut_66 : decode mX7_carryOut.1 66 = .ok (.isub, 1) ∧ 66 + 1 = 67 := ⟨by decide +kernel, rfl⟩
theorem d_X7_carryOut_67 : decode mX7_carryOut.1 67 = .ok (.aload_n 0, 1) ∧ 67 + 1 = 68 := ⟨by decide +kernel, rfl⟩
theorem d_X7_carryOut_68 : decode mX7_carryOut.1 68 = .ok (.getfield 25, 3) ∧ 68 + 3 = 71 := ⟨by decide +kernel, rfl⟩
theorem d_X7_carryOut_71 : decode mX7_carryOut.1 71 = .ok (.aload_n 0, 1) ∧ 71 + 1 = 72 := ⟨by decide +kernel, rfl⟩
theorem d_X7_carryOut_72 : decode mX7_carryOut.1 72 = .ok (.iload_n 2, 1) ∧ 72 + 1 = 73 := ⟨by decide +kernel, rfl⟩
theorem d_X7_carryOut_73 : decode mX7_carryOut.1 73 = .ok (.invokevirtual 38, 3) ∧ 73 + 3 = 76 := ⟨by decide +kernel, rfl⟩
theorem d_X7_carryOut_76 : decode mX7_carryOut.1 76 = .ok (.iaload, 1) ∧ 76 + 1 = 77 := ⟨by decide +kernel, rfl⟩
theorem d_X7_carryOut_77 : decode mX7_carryOut.1 77 = .ok (.iadd, 1) ∧ 77 + 1 = 78 := ⟨by decide +kernel, rfl⟩
theorem d_X7_carryOut_78 : decode mX7_carryOut.1 78 = .ok (.invokestatic 60, 3) ∧ 78 + 3 = 81 := ⟨by decide +kernel, rfl⟩
theorem d_X7_carryOut_81 : decode mX7_carryOut.1 81 = .ok (.iastore, 1) ∧ 81 + 1 = 82 := ⟨by decide +kernel, rfl⟩
theorem d_X7_carryOut_82 : decode mX7_carryOut.1 82 = .ok (.aload_n 1, 1) ∧ 82 + 1 = 83 := ⟨by decide +kernel, rfl⟩
theorem d_X7_carryOut_83 : decode mX7_carryOut.1 83 = .ok (.getfield 93, 3) ∧ 83 + 3 = 86 := ⟨by decide +kernel, rfl⟩
theorem d_X7_carryOut_86 : decode mX7_carryOut.1 86 = .ok (.iload 4, 2) ∧ 86 + 2 = 88 := ⟨by decide +kernel, rfl⟩
theorem d_X7_carryOut_88 : decode mX7_carryOut.1 88 = .ok (.bipush 99, 2) ∧ 88 + 2 = 90 := ⟨by decide +kernel, rfl⟩
theorem d_X7_carryOut_90 : decode mX7_carryOut.1 90 = .ok (.aload_n 1, 1) ∧ 90 + 1 = 91 := ⟨by decide +kernel, rfl⟩
theorem d_X7_carryOut_91 : decode mX7_carryOut.1 91 = .ok (.getfield 93, 3) ∧ 91 + 3 = 94 := ⟨by decide +kernel, rfl⟩
theorem d_X7_carryOut_94 : decode mX7_carryOut.1 94 = .ok (.iload 4, 2) ∧ 94 + 2 = 96 := ⟨by decide +kernel, rfl⟩
theorem d_X7_carryOut_96 : decode mX7_carryOut.1 96 = .ok (.iaload, 1) ∧ 96 + 1 = 97 := ⟨by decide +kernel, rfl⟩
theorem d_X7_carryOut_97 : decode mX7_carryOut.1 97 = .ok (.iconst 1, 1) ∧ 97 + 1 = 98 := ⟨by decide +kernel, rfl⟩
theorem d_X7_carryOut_98 : decode mX7_carryOut.1 98 = .ok (.iadd, 1) ∧ 98 + 1 = 99 := ⟨by decide +kernel, rfl⟩
theorem d_X7_carryOut_99 : decode mX7_carryOut.1 99 = .ok (.invokestatic 60, 3) ∧ 99 + 3 = 102 := ⟨by decide +kernel, rfl⟩
theorem d_X7_carryOut_102 : decode mX7_carryOut.1 102 = .ok (.iastore, 1) ∧ 102 + 1 = 103 := ⟨by decide +kernel, rfl⟩
theorem d_X7_carryOut_103 : decode mX7_carryOut.1 103 = .ok (.iinc 2 1, 3) ∧ 103 + 3 = 106 := ⟨by decide +kernel, rfl⟩
theorem d_X7_carryOut_106 : decode mX7_carryOut.1 106 = .ok (.goto (-104), 3) ∧ ((106 : Nat) : Int) + (-104) = ((2 : Nat) : Int) := ⟨by decide +kernel, rfl⟩
set_option maxRecDepth 100000 in
set_option maxHeartbeats 4000000 in
theorem g_X7_carryOut_L2 (l : Launch) (G : xa_C) (c0 c1 : Int) (K : (Int × xa_H) ⊕ (xa_H) → Option xa_O) (hb : ∀ (v2 : Int) (h : xa_H), xa_G l G 3 mX7_carryOut (some (Sum.inl ((v2, h)))) K 2 [some (xR c0), some (xR c1), some (xI v2), none, none] [] h) (hx : ∀ (h : xa_H), xa_G l G 3 mX7_carryOut (some (Sum.inr h)) K 109 [none, none, none, none, none] [] h) : ∀ (v2 : Int) (h : xa_H), xa_G l G 3 mX7_carryOut (f_X7_carryOut_L2 c0 c1 v2 h) K 2 [some (xR c0), some (xR c1), some (xI v2), none, none] [] h := by
  intro v2 h
  unfold f_X7_carryOut_L2
  refine xa_step (xa_iload_n d_X7_carryOut_2 rfl) ?_
  refine xa_step (xa_aload_n d_X7_carryOut_3 rfl) ?_
  refine xa_getf xI xc_7 (by decide) (fun _ => rfl) xw_480 rfl d_X7_carryOut_4 (fun x1 _ => ?_)
  refine xa_if (xa_icmpge d_X7_carryOut_7) (fun q2 => ?_) (fun q2 => ?_)
  · refine xa_step (xa_aload_n d_X7_carryOut_10 rfl) ?_
    refine xa_getf xR xc_7 (by decide) (fun _ => rfl) xw_478 rfl d_X7_carryOut_11 (fun x3 _ => ?_)
    refine xa_step (xa_iload_n d_X7_carryOut_14 rfl) ?_
    refine xa_iaload d_X7_carryOut_15 (fun x4 _ => ?_)
    refine xa_step (xa_istore_n (ls' := [some (xR c0), some (xR c1), some (xI v2), some (xI x4), none]) d_X7_carryOut_16 (by decide) rfl) ?_
    refine xa_step (xa_iload_n d_X7_carryOut_17 rfl) ?_
    refine xa_step (xa_bipush d_X7_carryOut_18 xq_b_6) ?_
    refine xa_step (xa_imul d_X7_carryOut_20) ?_
    refine xa_step (xa_aload_n d_X7_carryOut_21 rfl) ?_
    refine xa_getf xR xc_7 (by decide) (fun _ => rfl) xw_478 rfl d_X7_carryOut_22 (fun x5 _ => ?_)
    refine xa_step (xa_aload_n d_X7_carryOut_25 rfl) ?_
    refine xa_step (xa_iload_n d_X7_carryOut_26 rfl) ?_
    refine xa_callVi (as := [xI v2]) (st := [xR x5, xI (w32 (x4 * 6))]) (M' := mX7_ahead) (d' := 2) rfl xw_970 xw_972 xw_38 xw_973 xw_173 xh_X7_ahead rfl ⟨Nat.le_of_ble_eq_true rfl, Nat.le_of_ble_eq_true rfl⟩ (Nat.le_of_ble_eq_true rfl) rfl d_X7_carryOut_27 (fun r hr => ct_X7_ahead l G c0 v2 h r hr) (fun r6 _ => ?_)
    refine xa_iaload d_X7_carryOut_30 (fun x7 _ => ?_)
    refine xa_step (xa_iadd d_X7_carryOut_31) ?_
    refine xa_step (xa_istore (ls' := [some (xR c0), some (xR c1), some (xI v2), some (xI x4), some (xI (w32 ((w32 (x4 * 6)) + x7)))]) d_X7_carryOut_32 (by decide) rfl) ?_
    refine xa_step (xa_aload_n d_X7_carryOut_34 rfl) ?_
    refine xa_getf xR xc_9 (by decide) (fun _ => rfl) xw_345 rfl d_X7_carryOut_35 (fun x8 _ => ?_)
    refine xa_step (xa_iload_n d_X7_carryOut_38 rfl) ?_
    refine xa_step (xa_aload_n d_X7_carryOut_39 rfl) ?_
    refine xa_getf xR xc_7 (by decide) (fun _ => rfl) xw_487 rfl d_X7_carryOut_40 (fun x9 _ => ?_)
    refine xa_step (xa_iload_n d_X7_carryOut_43 rfl) ?_
    refine xa_iaload d_X7_carryOut_44 (fun x10 _ => ?_)
    refine xa_iastore2 d_X7_carryOut_45 (fun h11 _ => ?_)
    refine xa_step (xa_aload_n d_X7_carryOut_46 rfl) ?_
    refine xa_getf xR xc_9 (by decide) (fun _ => rfl) xw_352 rfl d_X7_carryOut_47 (fun x12 _ => ?_)
    refine xa_step (xa_iload_n d_X7_carryOut_50 rfl) ?_
    refine xa_step (xa_sipush d_X7_carryOut_51 xq_s_9999) ?_
    refine xa_step (xa_aload_n d_X7_carryOut_54 rfl) ?_
    refine xa_getf xR xc_9 (by decide) (fun _ => rfl) xw_352 rfl d_X7_carryOut_55 (fun x13 _ => ?_)
    refine xa_step (xa_iload_n d_X7_carryOut_58 rfl) ?_
    refine xa_iaload d_X7_carryOut_59 (fun x14 _ => ?_)
    refine xa_step (xa_aload_n d_X7_carryOut_60 rfl) ?_
    refine xa_getf xR xc_7 (by decide) (fun _ => rfl) xw_486 rfl d_X7_carryOut_61 (fun x15 _ => ?_)
    refine xa_step (xa_iload_n d_X7_carryOut_64 rfl) ?_
    refine xa_iaload d_X7_carryOut_65 (fun x16 _ => ?_)
    refine xa_step (xa_isub d_X7_carryOut_66) ?_
    refine xa_step (xa_aload_n d_X7_carryOut_67 rfl) ?_
    refine xa_getf xR xc_7 (by decide) (fun _ => rfl) xw_486 rfl d_X7_carryOut_68 (fun x17 _ => ?_)
    refine xa_step (xa_aload_n d_X7_carryOut_71 rfl) ?_
    refine xa_step (xa_iload_n d_X7_carryOut_72 rfl) ?_
    refine xa_callVi (as := [xI v2]) (st := [xR x17, xI (w32 (x14 - x16)), xI 9999, xI x4, xR x12]) (M' := mX7_behind) (d' := 2) rfl xw_975 xw_977 xw_39 xw_978 xw_173 xh_X7_behind rfl ⟨Nat.le_of_ble_eq_true rfl, Nat.le_of_ble_eq_true rfl⟩ (Nat.le_of_ble_eq_true rfl) rfl d_X7_carryOut_73 (fun r hr => ct_X7_behind l G c0 v2 h11 r hr) (fun r18 _ => ?_)
    refine xa_iaload d_X7_carryOut_76 (fun x19 _ => ?_)
    refine xa_step (xa_iadd d_X7_carryOut_77) ?_
    refine xa_mminI xw_1008 xw_847 xw_179 xw_848 (by decide) (Nat.le_of_ble_eq_true rfl) d_X7_carryOut_78 ?_
    refine xa_iastore2 d_X7_carryOut_81 (fun h20 _ => ?_)
    refine xa_step (xa_aload_n d_X7_carryOut_82 rfl) ?_
    refine xa_getf xR xc_9 (by decide) (fun _ => rfl) xw_356 rfl d_X7_carryOut_83 (fun x21 _ => ?_)
    refine xa_step (xa_iload d_X7_carryOut_86 rfl) ?_
    refine xa_step (xa_bipush d_X7_carryOut_88 xq_b_99) ?_
    refine xa_step (xa_aload_n d_X7_carryOut_90 rfl) ?_
    refine xa_getf xR xc_9 (by decide) (fun _ => rfl) xw_356 rfl d_X7_carryOut_91 (fun x22 _ => ?_)
    refine xa_step (xa_iload d_X7_carryOut_94 rfl) ?_
    refine xa_iaload d_X7_carryOut_96 (fun x23 _ => ?_)
    refine xa_step (xa_iconst d_X7_carryOut_97 xq_i_1) ?_
    refine xa_step (xa_iadd d_X7_carryOut_98) ?_
    refine xa_mminI xw_1008 xw_847 xw_179 xw_848 (by decide) (Nat.le_of_ble_eq_true rfl) d_X7_carryOut_99 ?_
    refine xa_iastore2 d_X7_carryOut_102 (fun h24 _ => ?_)
    refine xa_step (xa_iinc (ls' := [some (xR c0), some (xR c1), some (xI (w32 (v2 + 1))), some (xI x4), some (xI (w32 ((w32 (x4 * 6)) + x7)))]) d_X7_carryOut_103 xq_i_1 rfl (by decide) rfl) ?_
    refine xa_step (xa_goto d_X7_carryOut_106) ?_
    exact xa_weak (ls' := [some (xR c0), some (xR c1), some (xI (w32 (v2 + 1))), none, none]) ⟨rfl, rfl, rfl, trivial⟩ (hb (w32 (v2 + 1)) h24)
  · exact xa_weak (ls' := [none, none, none, none, none]) trivial (hx h)
theorem d_X7_carryOut_109 : decode mX7_carryOut.1 109 = .ok (.return_, 1) := by decide +kernel
set_option maxRecDepth 100000 in
set_option maxHeartbeats 4000000 in
theorem g_X7_carryOut (l : Launch) (G : xa_C) (v0 v1 : Int) (h : xa_H) : xa_G l G 3 mX7_carryOut (f_X7_carryOut v0 v1 h) (fun r => some (none, r) : xa_H → Option xa_O) 0 [some (xR v0), some (xR v1), none, none, none] [] h := by
  unfold f_X7_carryOut
  refine xa_step (xa_iconst d_X7_carryOut_0 xq_i_0) ?_
  refine xa_step (xa_istore_n (ls' := [some (xR v0), some (xR v1), some (xI 0), none, none]) d_X7_carryOut_1 (by decide) rfl) ?_
  refine xa_weak (ls' := [some (xR v0), some (xR v1), some (xI 0), none, none]) ⟨rfl, rfl, rfl, trivial⟩ ?_
  refine xa_loop (f := fun s => f_X7_carryOut_L2 v0 v1 s.1 s.2) (L := fun s => [some (xR v0), some (xR v1), some (xI s.1), none, none]) (P := fun s => s.2) (X := (fun x K => xa_G l G 3 mX7_carryOut (some (Sum.inr x)) K 109 [none, none, none, none, none] [] x)) (fun K hb hX s => g_X7_carryOut_L2 l G v0 v1 K (fun w0 hh => hb ((w0, hh))) (fun hh => hX hh) s.1 s.2) ?_ xFU ((0, h))
  intro e25 K hK
  refine xa_eqE hK ?_
  show xa_G l G 3 mX7_carryOut _ _ 109 [none, none, none, none, none] [] e25
  exact xa_vret d_X7_carryOut_109 rfl rfl
theorem ct_X7_carryOut (l : Launch) (G : xa_C) (v0 v1 : Int) (h : xa_H) (r : xa_H) (hr : f_X7_carryOut v0 v1 h = some r) : xa_CT l G 3 mX7_carryOut yX7_carryOut [xR v0, xR v1] h (none, r) :=
  xa_met (by decide +kernel) rfl (fun q => by first | rfl | cases q) (Nat.le_of_ble_eq_true rfl) rfl (g_X7_carryOut l G v0 v1 h) (by rw [hr]; rfl)
abbrev mX9_keep : xa_M := (cX9_keep, 4, none, RX9, false)
theorem d_X9_keep_0 : decode mX9_keep.1 0 = .ok (.aload_n 0, 1) ∧ 0 + 1 = 1 := ⟨by decide +kernel, rfl⟩
theorem d_X9_keep_1 : decode mX9_keep.1 1 = .ok (.getfield 31, 3) ∧ 1 + 3 = 4 := ⟨by decide +kernel, rfl⟩
theorem d_X9_keep_4 : decode mX9_keep.1 4 = .ok (.bipush 30, 2) ∧ 4 + 2 = 6 := ⟨by decide +kernel, rfl⟩
theorem d_X9_keep_6 : decode mX9_keep.1 6 = .ok (.if_icmp .lt 24, 3) ∧ 6 + 3 = 9 ∧ ((6 : Nat) : Int) + 24 = ((30 : Nat) : Int) := ⟨by decide +kernel, rfl, rfl⟩
theorem d_X9_keep_30 : decode mX9_keep.1 30 = .ok (.aload_n 0, 1) ∧ 30 + 1 = 31 := ⟨by decide +kernel, rfl⟩
theorem d_X9_keep_31 : decode mX9_keep.1 31 = .ok (.getfield 28, 3) ∧ 31 + 3 = 34 := ⟨by decide +kernel, rfl⟩
theorem d_X9_keep_34 : decode mX9_keep.1 34 = .ok (.aload_n 0, 1) ∧ 34 + 1 = 35 := ⟨by decide +kernel, rfl⟩
theorem d_X9_keep_35 : decode mX9_keep.1 35 = .ok (.getfield 31, 3) ∧ 35 + 3 = 38 := ⟨by decide +kernel, rfl⟩
theorem d_X9_keep_38 : decode mX9_keep.1 38 = .ok (.aload_n 0, 1) ∧ 38 + 1 = 39 := ⟨by decide +kernel, rfl⟩
theorem d_X9_keep_39 : decode mX9_keep.1 39 = .ok (.getfield 9, 3) ∧ 39 + 3 = 42 := ⟨by decide +kernel, rfl⟩
theorem d_X9_keep_42 : decode mX9_keep.1 42 = .ok (.sipush 1000, 3) ∧ 42 + 3 = 45 := ⟨by decide +kernel, rfl⟩
theorem d_X9_keep_45 : decode mX9_keep.1 45 = .ok (.imul, 1) ∧ 45 + 1 = 46 := ⟨by decide +kernel, rfl⟩
theorem d_X9_keep_46 : decode mX9_keep.1 46 = .ok (.iload_n 1, 1) ∧ 46 + 1 = 47 := ⟨by decide +kernel, rfl⟩
theorem d_X9_keep_47 : decode mX9_keep.1 47 = .ok (.bipush 100, 2) ∧ 47 + 2 = 49 := ⟨by decide +kernel, rfl⟩
theorem d_X9_keep_49 : decode mX9_keep.1 49 = .ok (.imul, 1) ∧ 49 + 1 = 50 := ⟨by decide +kernel, rfl⟩
theorem d_X9_keep_50 : decode mX9_keep.1 50 = .ok (.iadd, 1) ∧ 50 + 1 = 51 := ⟨by decide +kernel, rfl⟩
theorem d_X9_keep_51 : decode mX9_keep.1 51 = .ok (.iload_n 2, 1) ∧ 51 + 1 = 52 := ⟨by decide +kernel, rfl⟩
theorem d_X9_keep_52 : decode mX9_keep.1 52 = .ok (.bipush 10, 2) ∧ 52 + 2 = 54 := ⟨by decide +kernel, rfl⟩
theorem d_X9_keep_54 : decode mX9_keep.1 54 = .ok (.imul, 1) ∧ 54 + 1 = 55 := ⟨by decide +kernel, rfl⟩
theorem d_X9_keep_55 : decode mX9_keep.1 55 = .ok (.iadd, 1) ∧ 55 + 1 = 56 := ⟨by decide +kernel, rfl⟩
theorem d_X9_keep_56 : decode mX9_keep.1 56 = .ok (.iload_n 3, 1) ∧ 56 + 1 = 57 := ⟨by decide +kernel, rfl⟩
theorem d_X9_keep_57 : decode mX9_keep.1 57 = .ok (.iadd, 1) ∧ 57 + 1 = 58 := ⟨by decide +kernel, rfl⟩
theorem d_X9_keep_58 : decode mX9_keep.1 58 = .ok (.iastore, 1) ∧ 58 + 1 = 59 := ⟨by decide +kernel, rfl⟩
theorem d_X9_keep_59 : decode mX9_keep.1 59 = .ok (.aload_n 0, 1) ∧ 59 + 1 = 60 := ⟨by decide +kernel, rfl⟩
theorem d_X9_keep_60 : decode mX9_keep.1 60 = .ok (.dup, 1) ∧ 60 + 1 = 61 := ⟨by decide +kernel, rfl⟩
theorem d_X9_keep_61 : decode mX9_keep.1 61 = .ok (.getfield 31, 3) ∧ 61 + 3 = 64 := ⟨by decide +kernel, rfl⟩
theorem d_X9_keep_64 : decode mX9_keep.1 64 = .ok (.iconst 1, 1) ∧ 64 + 1 = 65 := ⟨by decide +kernel, rfl⟩
theorem d_X9_keep_65 : decode mX9_keep.1 65 = .ok (.iadd, 1) ∧ 65 + 1 = 66 := ⟨by decide +kernel, rfl⟩
theorem d_X9_keep_66 : decode mX9_keep.1 66 = .ok (.putfield 31, 3) ∧ 66 + 3 = 69 := ⟨by decide +kernel, rfl⟩
theorem d_X9_keep_69 : decode mX9_keep.1 69 = .ok (.return_, 1) := by decide +kernel
set_option maxRecDepth 100000 in
set_option maxHeartbeats 4000000 in
theorem g_X9_keep_J30 (l : Launch) (G : xa_C) : ∀ (v0 v1 v2 v3 : Int) (h : xa_H) , xa_G l G 2 mX9_keep (f_X9_keep_J30 v0 v1 v2 v3 h) (fun r => some (none, r) : xa_H → Option xa_O) 30 [some (xR v0), some (xI v1), some (xI v2), some (xI v3)] [] h := by
  intro v0 v1 v2 v3 h
  unfold f_X9_keep_J30
  refine xa_step (xa_aload_n d_X9_keep_30 rfl) ?_
  refine xa_getf xR xc_9 (by decide) (fun _ => rfl) xw_358 rfl d_X9_keep_31 (fun x3 _ => ?_)
  refine xa_step (xa_aload_n d_X9_keep_34 rfl) ?_
  refine xa_getf xI xc_9 (by decide) (fun _ => rfl) xw_360 rfl d_X9_keep_35 (fun x4 _ => ?_)
  refine xa_step (xa_aload_n d_X9_keep_38 rfl) ?_
  refine xa_getf xI xc_9 (by decide) (fun _ => rfl) xw_339 rfl d_X9_keep_39 (fun x5 _ => ?_)
  refine xa_step (xa_sipush d_X9_keep_42 xq_s_1000) ?_
  refine xa_step (xa_imul d_X9_keep_45) ?_
  refine xa_step (xa_iload_n d_X9_keep_46 rfl) ?_
  refine xa_step (xa_bipush d_X9_keep_47 xq_b_100) ?_
  refine xa_step (xa_imul d_X9_keep_49) ?_
  refine xa_step (xa_iadd d_X9_keep_50) ?_
  refine xa_step (xa_iload_n d_X9_keep_51 rfl) ?_
  refine xa_step (xa_bipush d_X9_keep_52 xq_b_10) ?_
  refine xa_step (xa_imul d_X9_keep_54) ?_
  refine xa_step (xa_iadd d_X9_keep_55) ?_
  refine xa_step (xa_iload_n d_X9_keep_56 rfl) ?_
  refine xa_step (xa_iadd d_X9_keep_57) ?_
  refine xa_iastore2 d_X9_keep_58 (fun h6 _ => ?_)
  refine xa_step (xa_aload_n d_X9_keep_59 rfl) ?_
  refine xa_step (xa_dup d_X9_keep_60 (xa_tR _)) ?_
  refine xa_getf xI xc_9 (by decide) (fun _ => rfl) xw_360 rfl d_X9_keep_61 (fun x7 _ => ?_)
  refine xa_step (xa_iconst d_X9_keep_64 xq_i_1) ?_
  refine xa_step (xa_iadd d_X9_keep_65) ?_
  refine xa_putf2 (tg := xI) xc_9 (by decide) (fun _ => rfl) rfl (fun c hc => xa_fitI c hc) xw_360 rfl d_X9_keep_66 (fun h8 _ => ?_)
  exact xa_vret d_X9_keep_69 rfl rfl
theorem d_X9_keep_9 : decode mX9_keep.1 9 = .ok (.aload_n 0, 1) ∧ 9 + 1 = 10 := ⟨by decide +kernel, rfl⟩
theorem d_X9_keep_10 : decode mX9_keep.1 10 = .ok (.getfield 28, 3) ∧ 10 + 3 = 13 := ⟨by decide +kernel, rfl⟩
theorem d_X9_keep_13 : decode mX9_keep.1 13 = .ok (.iconst 1, 1) ∧ 13 + 1 = 14 := ⟨by decide +kernel, rfl⟩
theorem d_X9_keep_14 : decode mX9_keep.1 14 = .ok (.aload_n 0, 1) ∧ 14 + 1 = 15 := ⟨by decide +kernel, rfl⟩
theorem d_X9_keep_15 : decode mX9_keep.1 15 = .ok (.getfield 28, 3) ∧ 15 + 3 = 18 := ⟨by decide +kernel, rfl⟩
theorem d_X9_keep_18 : decode mX9_keep.1 18 = .ok (.iconst 0, 1) ∧ 18 + 1 = 19 := ⟨by decide +kernel, rfl⟩
theorem d_X9_keep_19 : decode mX9_keep.1 19 = .ok (.bipush 29, 2) ∧ 19 + 2 = 21 := ⟨by decide +kernel, rfl⟩
theorem d_X9_keep_21 : decode mX9_keep.1 21 = .ok (.invokestatic 34, 3) ∧ 21 + 3 = 24 := ⟨by decide +kernel, rfl⟩
theorem d_X9_keep_24 : decode mX9_keep.1 24 = .ok (.aload_n 0, 1) ∧ 24 + 1 = 25 := ⟨by decide +kernel, rfl⟩
theorem d_X9_keep_25 : decode mX9_keep.1 25 = .ok (.bipush 29, 2) ∧ 25 + 2 = 27 := ⟨by decide +kernel, rfl⟩
theorem d_X9_keep_27 : decode mX9_keep.1 27 = .ok (.putfield 31, 3) ∧ 27 + 3 = 30 := ⟨by decide +kernel, rfl⟩
set_option maxRecDepth 100000 in
set_option maxHeartbeats 4000000 in
theorem g_X9_keep (l : Launch) (G : xa_C) (v0 v1 v2 v3 : Int) (h : xa_H) : xa_G l G 2 mX9_keep (f_X9_keep v0 v1 v2 v3 h) (fun r => some (none, r) : xa_H → Option xa_O) 0 [some (xR v0), some (xI v1), some (xI v2), some (xI v3)] [] h := by
  unfold f_X9_keep
  refine xa_step (xa_aload_n d_X9_keep_0 rfl) ?_
  refine xa_getf xI xc_9 (by decide) (fun _ => rfl) xw_360 rfl d_X9_keep_1 (fun x1 _ => ?_)
  refine xa_step (xa_bipush d_X9_keep_4 xq_b_30) ?_
  refine xa_if (xa_icmplt d_X9_keep_6) (fun q2 => ?_) (fun q2 => ?_)
  · exact xa_weak (ls' := [some (xR v0), some (xI v1), some (xI v2), some (xI v3)]) ⟨rfl, rfl, rfl, rfl, trivial⟩ (g_X9_keep_J30 l G v0 v1 v2 v3 h)
  · refine xa_step (xa_aload_n d_X9_keep_9 rfl) ?_
    refine xa_getf xR xc_9 (by decide) (fun _ => rfl) xw_358 rfl d_X9_keep_10 (fun x9 _ => ?_)
    refine xa_step (xa_iconst d_X9_keep_13 xq_i_1) ?_
    refine xa_step (xa_aload_n d_X9_keep_14 rfl) ?_
    refine xa_getf xR xc_9 (by decide) (fun _ => rfl) xw_358 rfl d_X9_keep_15 (fun x10 _ => ?_)
    refine xa_step (xa_iconst d_X9_keep_18 xq_i_0) ?_
    refine xa_step (xa_bipush d_X9_keep_19 xq_b_29) ?_
    refine xa_acopy xw_877 xw_851 xw_850 xw_180 (by decide) (Nat.le_of_ble_eq_true rfl) d_X9_keep_21 (fun h11 _ => ?_)
    refine xa_step (xa_aload_n d_X9_keep_24 rfl) ?_
    refine xa_step (xa_bipush d_X9_keep_25 xq_b_29) ?_
    refine xa_putf2 (tg := xI) xc_9 (by decide) (fun _ => rfl) rfl (fun c hc => xa_fitI c hc) xw_360 rfl d_X9_keep_27 (fun h12 _ => ?_)
    exact xa_weak (ls' := [some (xR v0), some (xI v1), some (xI v2), some (xI v3)]) ⟨rfl, rfl, rfl, rfl, trivial⟩ (g_X9_keep_J30 l G v0 v1 v2 v3 h12)
theorem ct_X9_keep (l : Launch) (G : xa_C) (v0 v1 v2 v3 : Int) (h : xa_H) (r : xa_H) (hr : f_X9_keep v0 v1 v2 v3 h = some r) : xa_CT l G 2 mX9_keep yX9_keep [xR v0, xI v1, xI v2, xI v3] h (none, r) :=
  xa_met (by decide +kernel) rfl (fun q => by first | rfl | cases q) (Nat.le_of_ble_eq_true rfl) rfl (g_X9_keep l G v0 v1 v2 v3 h) (by rw [hr]; rfl)
abbrev mX11_closeRing : xa_M := (cX11_closeRing, 1, none, RX11, false)
theorem d_X11_closeRing_0 : decode mX11_closeRing.1 0 = .ok (.aload_n 0, 1) ∧ 0 + 1 = 1 := ⟨by decide +kernel, rfl⟩
theorem d_X11_closeRing_1 : decode mX11_closeRing.1 1 = .ok (.getfield 54, 3) ∧ 1 + 3 = 4 := ⟨by decide +kernel, rfl⟩
theorem d_X11_closeRing_4 : decode mX11_closeRing.1 4 = .ok (.aload_n 0, 1) ∧ 4 + 1 = 5 := ⟨by decide +kernel, rfl⟩
theorem d_X11_closeRing_5 : decode mX11_closeRing.1 5 = .ok (.getfield 72, 3) ∧ 5 + 3 = 8 := ⟨by decide +kernel, rfl⟩
theorem d_X11_closeRing_8 : decode mX11_closeRing.1 8 = .ok (.getfield 249, 3) ∧ 8 + 3 = 11 := ⟨by decide +kernel, rfl⟩
theorem d_X11_closeRing_11 : decode mX11_closeRing.1 11 = .ok (.aload_n 0, 1) ∧ 11 + 1 = 12 := ⟨by decide +kernel, rfl⟩
theorem d_X11_closeRing_12 : decode mX11_closeRing.1 12 = .ok (.getfield 72, 3) ∧ 12 + 3 = 15 := ⟨by decide +kernel, rfl⟩
theorem d_X11_closeRing_15 : decode mX11_closeRing.1 15 = .ok (.getfield 143, 3) ∧ 15 + 3 = 18 := ⟨by decide +kernel, rfl⟩
theorem d_X11_closeRing_18 : decode mX11_closeRing.1 18 = .ok (.aload_n 0, 1) ∧ 18 + 1 = 19 := ⟨by decide +kernel, rfl⟩
theorem d_X11_closeRing_19 : decode mX11_closeRing.1 19 = .ok (.getfield 72, 3) ∧ 19 + 3 = 22 := ⟨by decide +kernel, rfl⟩
theorem d_X11_closeRing_22 : decode mX11_closeRing.1 22 = .ok (.getfield 378, 3) ∧ 22 + 3 = 25 := ⟨by decide +kernel, rfl⟩
theorem d_X11_closeRing_25 : decode mX11_closeRing.1 25 = .ok (.iconst 0, 1) ∧ 25 + 1 = 26 := ⟨by decide +kernel, rfl⟩
theorem d_X11_closeRing_26 : decode mX11_closeRing.1 26 = .ok (.iaload, 1) ∧ 26 + 1 = 27 := ⟨by decide +kernel, rfl⟩
theorem d_X11_closeRing_27 : decode mX11_closeRing.1 27 = .ok (.invokevirtual 381, 3) ∧ 27 + 3 = 30 := ⟨by decide +kernel, rfl⟩
theorem d_X11_closeRing_30 : decode mX11_closeRing.1 30 = .ok (.aload_n 0, 1) ∧ 30 + 1 = 31 := ⟨by decide +kernel, rfl⟩
theorem d_X11_closeRing_31 : decode mX11_closeRing.1 31 = .ok (.getfield 72, 3) ∧ 31 + 3 = 34 := ⟨by decide +kernel, rfl⟩
theorem d_X11_closeRing_34 : decode mX11_closeRing.1 34 = .ok (.getfield 249, 3) ∧ 34 + 3 = 37 := ⟨by decide +kernel, rfl⟩
theorem d_X11_closeRing_37 : decode mX11_closeRing.1 37 = .ok (.ifCond .ne 14, 3) ∧ 37 + 3 = 40 ∧ ((37 : Nat) : Int) + 14 = ((51 : Nat) : Int) := ⟨by decide +kernel, rfl, rfl⟩
theorem d_X11_closeRing_40 : decode mX11_closeRing.1 40 = .ok (.aload_n 0, 1) ∧ 40 + 1 = 41 := ⟨by decide +kernel, rfl⟩
theorem d_X11_closeRing_41 : decode mX11_closeRing.1 41 = .ok (.getfield 72, 3) ∧ 41 + 3 = 44 := ⟨by decide +kernel, rfl⟩
theorem d_X11_closeRing_44 : decode mX11_closeRing.1 44 = .ok (.aload_n 0, 1) ∧ 44 + 1 = 45 := ⟨by decide +kernel, rfl⟩
theorem d_X11_closeRing_45 : decode mX11_closeRing.1 45 = .ok (.getfield 54, 3) ∧ 45 + 3 = 48 := ⟨by decide +kernel, rfl⟩
theorem d_X11_closeRing_48 : decode mX11_closeRing.1 48 = .ok (.invokevirtual 385, 3) ∧ 48 + 3 = 51 := ⟨by decide +kernel, rfl⟩
theorem d_X11_closeRing_51 : decode mX11_closeRing.1 51 = .ok (.return_, 1) := by decide +kernel
set_option maxRecDepth 100000 in
set_option maxHeartbeats 4000000 in
theorem g_X11_closeRing (l : Launch) (G : xa_C) (v0 : Int) (h : xa_H) : xa_G l G 4 mX11_closeRing (f_X11_closeRing v0 h) (fun r => some (none, r) : xa_H → Option xa_O) 0 [some (xR v0)] [] h := by
  unfold f_X11_closeRing
  refine xa_step (xa_aload_n d_X11_closeRing_0 rfl) ?_
  refine xa_getf xR xc_11 (by decide) (fun _ => rfl) xw_590 rfl d_X11_closeRing_1 (fun x1 _ => ?_)
  refine xa_step (xa_aload_n d_X11_closeRing_4 rfl) ?_
  refine xa_getf xR xc_11 (by decide) (fun _ => rfl) xw_593 rfl d_X11_closeRing_5 (fun x2 _ => ?_)
  refine xa_getf xI xc_7 (by decide) (fun _ => rfl) xw_483 rfl d_X11_closeRing_8 (fun x3 _ => ?_)
  refine xa_step (xa_aload_n d_X11_closeRing_11 rfl) ?_
  refine xa_getf xR xc_11 (by decide) (fun _ => rfl) xw_593 rfl d_X11_closeRing_12 (fun x4 _ => ?_)
  refine xa_getf xI xc_7 (by decide) (fun _ => rfl) xw_481 rfl d_X11_closeRing_15 (fun x5 _ => ?_)
  refine xa_step (xa_aload_n d_X11_closeRing_18 rfl) ?_
  refine xa_getf xR xc_11 (by decide) (fun _ => rfl) xw_593 rfl d_X11_closeRing_19 (fun x6 _ => ?_)
  refine xa_getf xR xc_7 (by decide) (fun _ => rfl) xw_479 rfl d_X11_closeRing_22 (fun x7 _ => ?_)
  refine xa_step (xa_iconst d_X11_closeRing_25 xq_i_0) ?_
  refine xa_iaload d_X11_closeRing_26 (fun x8 _ => ?_)
  refine xa_callVV (as := [xI x3, xI x5, xI x8]) (st := []) (M' := mX9_keep) (d' := 2) rfl xw_1199 xw_1200 xw_1201 xw_1202 xw_170 xh_X9_keep rfl ⟨Nat.le_of_ble_eq_true rfl, Nat.le_of_ble_eq_true rfl⟩ (Nat.le_of_ble_eq_true rfl) rfl d_X11_closeRing_27 (fun r hr => ct_X9_keep l G x1 x3 x5 x8 h r hr) (fun r9 _ => ?_)
  refine xa_step (xa_aload_n d_X11_closeRing_30 rfl) ?_
  refine xa_getf xR xc_11 (by decide) (fun _ => rfl) xw_593 rfl d_X11_closeRing_31 (fun x10 _ => ?_)
  refine xa_getf xI xc_7 (by decide) (fun _ => rfl) xw_483 rfl d_X11_closeRing_34 (fun x11 _ => ?_)
  refine xa_if (xa_ifne d_X11_closeRing_37) (fun q12 => ?_) (fun q12 => ?_)
  · refine xa_step (xa_aload_n d_X11_closeRing_40 rfl) ?_
    refine xa_getf xR xc_11 (by decide) (fun _ => rfl) xw_593 rfl d_X11_closeRing_41 (fun x13 _ => ?_)
    refine xa_step (xa_aload_n d_X11_closeRing_44 rfl) ?_
    refine xa_getf xR xc_11 (by decide) (fun _ => rfl) xw_590 rfl d_X11_closeRing_45 (fun x14 _ => ?_)
    refine xa_callVV (as := [xR x14]) (st := []) (M' := mX7_carryOut) (d' := 3) rfl xw_1203 xw_1204 xw_1205 xw_1206 xw_173 xh_X7_carryOut rfl ⟨Nat.le_of_ble_eq_true rfl, Nat.le_of_ble_eq_true rfl⟩ (Nat.le_of_ble_eq_true rfl) rfl d_X11_closeRing_48 (fun r hr => ct_X7_carryOut l G x13 x14 r9 r hr) (fun r15 _ => ?_)
    exact xa_vret d_X11_closeRing_51 rfl rfl
  · exact xa_vret d_X11_closeRing_51 rfl rfl
theorem ct_X11_closeRing (l : Launch) (G : xa_C) (v0 : Int) (h : xa_H) (r : xa_H) (hr : f_X11_closeRing v0 h = some r) : xa_CT l G 4 mX11_closeRing yX11_closeRing [xR v0] h (none, r) :=
  xa_met (by decide +kernel) rfl (fun q => by first | rfl | cases q) (Nat.le_of_ble_eq_true rfl) rfl (g_X11_closeRing l G v0 h) (by rw [hr]; rfl)
abbrev mX11_coinsOfAll : xa_M := (cX11_coinsOfAll, 3, (some (.int)), RX11, false)
theorem d_X11_coinsOfAll_0 : decode mX11_coinsOfAll.1 0 = .ok (.iconst 0, 1) ∧ 0 + 1 = 1 := ⟨by decide +kernel, rfl⟩
theorem d_X11_coinsOfAll_1 : decode mX11_coinsOfAll.1 1 = .ok (.istore_n 1, 1) ∧ 1 + 1 = 2 := ⟨by decide +kernel, rfl⟩
theorem d_X11_coinsOfAll_2 : decode mX11_coinsOfAll.1 2 = .ok (.iconst 0, 1) ∧ 2 + 1 = 3 := ⟨by decide +kernel, rfl⟩
theorem d_X11_coinsOfAll_3 : decode mX11_coinsOfAll.1 3 = .ok (.istore_n 2, 1) ∧ 3 + 1 = 4 := ⟨by decide +kernel, rfl⟩
theorem d_X11_coinsOfAll_4 : decode mX11_coinsOfAll.1 4 = .ok (.iload_n 2, 1) ∧ 4 + 1 = 5 := ⟨by decide +kernel, rfl⟩
theorem d_X11_coinsOfAll_5 : decode mX11_coinsOfAll.1 5 = .ok (.aload_n 0, 1) ∧ 5 + 1 = 6 := ⟨by decide +kernel, rfl⟩
theorem d_X11_coinsOfAll_6 : decode mX11_coinsOfAll.1 6 = .ok (.getfield 47, 3) ∧ 6 + 3 = 9 := ⟨by decide +kernel, rfl⟩
theorem d_X11_coinsOfAll_9 : decode mX11_coinsOfAll.1 9 = .ok (.getfield 146, 3) ∧ 9 + 3 = 12 := ⟨by decide +kernel, rfl⟩
theorem d_X11_coinsOfAll_12 : decode mX11_coinsOfAll.1 12 = .ok (.if_icmp .ge 21, 3) ∧ 12 + 3 = 15 ∧ ((12 : Nat) : Int) + 21 = ((33 : Nat) : Int) := ⟨by decide +kernel, rfl, rfl⟩
theorem d_X11_coinsOfAll_15 : decode mX11_coinsOfAll.1 15 = .ok (.iload_n 1, 1) ∧ 15 + 1 = 16 := ⟨by decide +kernel, rfl⟩
theorem d_X11_coinsOfAll_16 : decode mX11_coinsOfAll.1 16 = .ok (.aload_n 0, 1) ∧ 16 + 1 = 17 := ⟨by decide +kernel, rfl⟩
theorem d_X11_coinsOfAll_17 : decode mX11_coinsOfAll.1 17 = .ok (.getfield 54, 3) ∧ 17 + 3 = 20 := ⟨by decide +kernel, rfl⟩
theorem d_X11_coinsOfAll_20 : decode mX11_coinsOfAll.1 20 = .ok (.getfield 223, 3) ∧ 20 + 3 = 23 := ⟨by decide +kernel, rfl⟩
theorem d_X11_coinsOfAll_23 : decode mX11_coinsOfAll.1 23 = .ok (.iload_n 2, 1) ∧ 23 + 1 = 24 := ⟨by decide +kernel, rfl⟩
theorem d_X11_coinsOfAll_24 : decode mX11_coinsOfAll.1 24 = .ok (.iaload, 1) ∧ 24 + 1 = 25 := ⟨by decide +kernel, rfl⟩
theorem d_X11_coinsOfAll_25 : decode mX11_coinsOfAll.1 25 = .ok (.iadd, 1) ∧ 25 + 1 = 26 := ⟨by decide +kernel, rfl⟩
theorem d_X11_coinsOfAll_26 : decode mX11_coinsOfAll.1 26 = .ok (.istore_n 1, 1) ∧ 26 + 1 = 27 := ⟨by decide +kernel, rfl⟩
theorem d_X11_coinsOfAll_27 : decode mX11_coinsOfAll.1 27 = .ok (.iinc 2 1, 3) ∧ 27 + 3 = 30 := ⟨by decide +kernel, rfl⟩
theorem d_X11_coinsOfAll_30 : decode mX11_coinsOfAll.1 30 = .ok (.goto (-26), 3) ∧ ((30 : Nat) : Int) + (-26) = ((4 : Nat) : Int) := ⟨by decide +kernel, rfl⟩
set_option maxRecDepth 100000 in
set_option maxHeartbeats 4000000 in
theorem g_X11_coinsOfAll_L4 (l : Launch) (G : xa_C) (c0 : Int) (h : xa_H) (K : (Int × Int) ⊕ (Int) → Option xa_O) (hb : ∀ (v1 : Int) (v2 : Int), xa_G l G 2 mX11_coinsOfAll (some (Sum.inl ((v1, v2)))) K 4 [some (xR c0), some (xI v1), some (xI v2)] [] h) (hx : ∀ (v1 : Int), xa_G l G 2 mX11_coinsOfAll (some (Sum.inr v1)) K 33 [none, some (xI v1), none] [] h) : ∀ (v1 : Int) (v2 : Int), xa_G l G 2 mX11_coinsOfAll (f_X11_coinsOfAll_L4 c0 h v1 v2) K 4 [some (xR c0), some (xI v1), some (xI v2)] [] h := by
  intro v1 v2
  unfold f_X11_coinsOfAll_L4
  refine xa_step (xa_iload_n d_X11_coinsOfAll_4 rfl) ?_
  refine xa_step (xa_aload_n d_X11_coinsOfAll_5 rfl) ?_
  refine xa_getf xR xc_11 (by decide) (fun _ => rfl) xw_589 rfl d_X11_coinsOfAll_6 (fun x1 _ => ?_)
  refine xa_getf xI xc_0 (by decide) (fun _ => rfl) xw_391 rfl d_X11_coinsOfAll_9 (fun x2 _ => ?_)
  refine xa_if (xa_icmpge d_X11_coinsOfAll_12) (fun q3 => ?_) (fun q3 => ?_)
  · refine xa_step (xa_iload_n d_X11_coinsOfAll_15 rfl) ?_
    refine xa_step (xa_aload_n d_X11_coinsOfAll_16 rfl) ?_
    refine xa_getf xR xc_11 (by decide) (fun _ => rfl) xw_590 rfl d_X11_coinsOfAll_17 (fun x4 _ => ?_)
    refine xa_getf xR xc_9 (by decide) (fun _ => rfl) xw_354 rfl d_X11_coinsOfAll_20 (fun x5 _ => ?_)
    refine xa_step (xa_iload_n d_X11_coinsOfAll_23 rfl) ?_
    refine xa_iaload d_X11_coinsOfAll_24 (fun x6 _ => ?_)
    refine xa_step (xa_iadd d_X11_coinsOfAll_25) ?_
    refine xa_step (xa_istore_n (ls' := [some (xR c0), some (xI (w32 (v1 + x6))), some (xI v2)]) d_X11_coinsOfAll_26 (by decide) rfl) ?_
    refine xa_step (xa_iinc (ls' := [some (xR c0), some (xI (w32 (v1 + x6))), some (xI (w32 (v2 + 1)))]) d_X11_coinsOfAll_27 xq_i_1 rfl (by decide) rfl) ?_
    refine xa_step (xa_goto d_X11_coinsOfAll_30) ?_
    exact xa_weak (ls' := [some (xR c0), some (xI (w32 (v1 + x6))), some (xI (w32 (v2 + 1)))]) ⟨rfl, rfl, rfl, trivial⟩ (hb (w32 (v1 + x6)) (w32 (v2 + 1)))
  · exact xa_weak (ls' := [none, some (xI v1), none]) ⟨rfl, trivial⟩ (hx v1)
theorem d_X11_coinsOfAll_33 : decode mX11_coinsOfAll.1 33 = .ok (.iload_n 1, 1) ∧ 33 + 1 = 34 := ⟨by decide +kernel, rfl⟩
theorem d_X11_coinsOfAll_34 : decode mX11_coinsOfAll.1 34 = .ok (.ireturn, 1) := by decide +kernel
set_option maxRecDepth 100000 in
set_option maxHeartbeats 4000000 in
theorem g_X11_coinsOfAll (l : Launch) (G : xa_C) (v0 : Int) (h : xa_H) : xa_G l G 2 mX11_coinsOfAll (f_X11_coinsOfAll v0 h) (fun r => some (some (xI r), h) : Int → Option xa_O) 0 [some (xR v0), none, none] [] h := by
  unfold f_X11_coinsOfAll
  refine xa_step (xa_iconst d_X11_coinsOfAll_0 xq_i_0) ?_
  refine xa_step (xa_istore_n (ls' := [some (xR v0), some (xI 0), none]) d_X11_coinsOfAll_1 (by decide) rfl) ?_
  refine xa_step (xa_iconst d_X11_coinsOfAll_2 xq_i_0) ?_
  refine xa_step (xa_istore_n (ls' := [some (xR v0), some (xI 0), some (xI 0)]) d_X11_coinsOfAll_3 (by decide) rfl) ?_
  refine xa_weak (ls' := [some (xR v0), some (xI 0), some (xI 0)]) ⟨rfl, rfl, rfl, trivial⟩ ?_
  refine xa_loop (f := fun s => f_X11_coinsOfAll_L4 v0 h s.1 s.2) (L := fun s => [some (xR v0), some (xI s.1), some (xI s.2)]) (P := fun s => h) (X := (fun x K => xa_G l G 2 mX11_coinsOfAll (some (Sum.inr x)) K 33 [none, some (xI x), none] [] h)) (fun K hb hX s => g_X11_coinsOfAll_L4 l G v0 h K (fun w0 w1 => hb ((w0, w1))) (fun w0 => hX w0) s.1 s.2) ?_ xFU ((0, 0))
  intro e7 K hK
  refine xa_eqE hK ?_
  show xa_G l G 2 mX11_coinsOfAll _ _ 33 [none, some (xI e7), none] [] h
  refine xa_step (xa_iload_n d_X11_coinsOfAll_33 rfl) ?_
  exact xa_iret d_X11_coinsOfAll_34 rfl rfl
theorem ct_X11_coinsOfAll (l : Launch) (G : xa_C) (v0 : Int) (h : xa_H) (r : Int) (hr : f_X11_coinsOfAll v0 h = some r) : xa_CT l G 2 mX11_coinsOfAll yX11_coinsOfAll [xR v0] h (some (xI r), h) :=
  xa_met (by decide +kernel) rfl (fun q => by first | rfl | cases q) (Nat.le_of_ble_eq_true rfl) rfl (g_X11_coinsOfAll l G v0 h) (by rw [hr]; rfl)
abbrev mX11_draw : xa_M := (cX11_draw, 2, (some (.int)), RX11, false)
theorem d_X11_draw_0 : decode mX11_draw.1 0 = .ok (.aload_n 0, 1) ∧ 0 + 1 = 1 := ⟨by decide +kernel, rfl⟩
theorem d_X11_draw_1 : decode mX11_draw.1 1 = .ok (.ldc_w 391, 3) ∧ 1 + 3 = 4 := ⟨by decide +kernel, rfl⟩
theorem d_X11_draw_4 : decode mX11_draw.1 4 = .ok (.aload_n 0, 1) ∧ 4 + 1 = 5 := ⟨by decide +kernel, rfl⟩
theorem d_X11_draw_5 : decode mX11_draw.1 5 = .ok (.getfield 111, 3) ∧ 5 + 3 = 8 := ⟨by decide +kernel, rfl⟩
theorem d_X11_draw_8 : decode mX11_draw.1 8 = .ok (.imul, 1) ∧ 8 + 1 = 9 := ⟨by decide +kernel, rfl⟩
theorem d_X11_draw_9 : decode mX11_draw.1 9 = .ok (.sipush 12345, 3) ∧ 9 + 3 = 12 := ⟨by decide +kernel, rfl⟩
theorem d_X11_draw_12 : decode mX11_draw.1 12 = .ok (.iadd, 1) ∧ 12 + 1 = 13 := ⟨by decide +kernel, rfl⟩
theorem d_X11_draw_13 : decode mX11_draw.1 13 = .ok (.ldc_w 392, 3) ∧ 13 + 3 = 16 := ⟨by decide +kernel, rfl⟩
theorem d_X11_draw_16 : decode mX11_draw.1 16 = .ok (.iand, 1) ∧ 16 + 1 = 17 := ⟨by decide +kernel, rfl⟩
theorem d_X11_draw_17 : decode mX11_draw.1 17 = .ok (.putfield 111, 3) ∧ 17 + 3 = 20 := ⟨by decide +kernel, rfl⟩
theorem d_X11_draw_20 : decode mX11_draw.1 20 = .ok (.iload_n 1, 1) ∧ 20 + 1 = 21 := ⟨by decide +kernel, rfl⟩
theorem d_X11_draw_21 : decode mX11_draw.1 21 = .ok (.ifCond .le 15, 3) ∧ 21 + 3 = 24 ∧ ((21 : Nat) : Int) + 15 = ((36 : Nat) : Int) := ⟨by decide +kernel, rfl, rfl⟩
theorem d_X11_draw_24 : decode mX11_draw.1 24 = .ok (.aload_n 0, 1) ∧ 24 + 1 = 25 := ⟨by decide +kernel, rfl⟩
theorem d_X11_draw_25 : decode mX11_draw.1 25 = .ok (.getfield 111, 3) ∧ 25 + 3 = 28 := ⟨by decide +kernel, rfl⟩
theorem d_X11_draw_28 : decode mX11_draw.1 28 = .ok (.bipush 64, 2) ∧ 28 + 2 = 30 := ⟨by decide +kernel, rfl⟩
theorem d_X11_draw_30 : decode mX11_draw.1 30 = .ok (.idiv, 1) ∧ 30 + 1 = 31 := ⟨by decide +kernel, rfl⟩
theorem d_X11_draw_31 : decode mX11_draw.1 31 = .ok (.iload_n 1, 1) ∧ 31 + 1 = 32 := ⟨by decide +kernel, rfl⟩
theorem d_X11_draw_32 : decode mX11_draw.1 32 = .ok (.irem, 1) ∧ 32 + 1 = 33 := ⟨by decide +kernel, rfl⟩
theorem d_X11_draw_33 : decode mX11_draw.1 33 = .ok (.goto 4, 3) ∧ ((33 : Nat) : Int) + 4 = ((37 : Nat) : Int) := ⟨by decide +kernel, rfl⟩
theorem d_X11_draw_37 : decode mX11_draw.1 37 = .ok (.ireturn, 1) := by decide +kernel
theorem d_X11_draw_36 : decode mX11_draw.1 36 = .ok (.iconst 0, 1) ∧ 36 + 1 = 37 := ⟨by decide +kernel, rfl⟩
set_option maxRecDepth 100000 in
set_option maxHeartbeats 4000000 in
theorem g_X11_draw (l : Launch) (G : xa_C) (v0 v1 : Int) (h : xa_H) : xa_G l G 2 mX11_draw (f_X11_draw v0 v1 h) (fun r => some (some (xI r.1), r.2) : (Int × xa_H) → Option xa_O) 0 [some (xR v0), some (xI v1)] [] h := by
  unfold f_X11_draw
  refine xa_step (xa_aload_n d_X11_draw_0 rfl) ?_
  refine xa_step (xa_ldcw (c32 := 1103515245) (v := 1103515245) (by decide +kernel) xw_1223 d_X11_draw_1) ?_
  refine xa_step (xa_aload_n d_X11_draw_4 rfl) ?_
  refine xa_getf xI xc_11 (by decide) (fun _ => rfl) xw_602 rfl d_X11_draw_5 (fun x1 _ => ?_)
  refine xa_step (xa_imul d_X11_draw_8) ?_
  refine xa_step (xa_sipush d_X11_draw_9 xq_s_12345) ?_
  refine xa_step (xa_iadd d_X11_draw_12) ?_
  refine xa_step (xa_ldcw (c32 := 2147483647) (v := 2147483647) (by decide +kernel) xw_1224 d_X11_draw_13) ?_
  refine xa_step (xa_iand d_X11_draw_16) ?_
  refine xa_putf2 (tg := xI) xc_11 (by decide) (fun _ => rfl) rfl (fun c hc => xa_fitI c hc) xw_602 rfl d_X11_draw_17 (fun h2 _ => ?_)
  refine xa_step (xa_iload_n d_X11_draw_20 rfl) ?_
  refine xa_if (xa_ifle d_X11_draw_21) (fun q3 => ?_) (fun q3 => ?_)
  · refine xa_step (xa_aload_n d_X11_draw_24 rfl) ?_
    refine xa_getf xI xc_11 (by decide) (fun _ => rfl) xw_602 rfl d_X11_draw_25 (fun x4 _ => ?_)
    refine xa_step (xa_bipush d_X11_draw_28 xq_b_64) ?_
    refine xa_step (xa_idiv d_X11_draw_30 (by decide)) ?_
    refine xa_step (xa_iload_n d_X11_draw_31 rfl) ?_
    refine xa_nz (fun q5 => ?_)
    refine xa_step (xa_irem d_X11_draw_32 q5) ?_
    refine xa_step (xa_goto d_X11_draw_33) ?_
    exact xa_iret d_X11_draw_37 rfl rfl
  · refine xa_step (xa_iconst d_X11_draw_36 xq_i_0) ?_
    exact xa_iret d_X11_draw_37 rfl rfl
theorem ct_X11_draw (l : Launch) (G : xa_C) (v0 v1 : Int) (h : xa_H) (r : Int × xa_H) (hr : f_X11_draw v0 v1 h = some r) : xa_CT l G 2 mX11_draw yX11_draw [xR v0, xI v1] h (some (xI r.1), r.2) :=
  xa_met (by decide +kernel) rfl (fun q => by first | rfl | cases q) (Nat.le_of_ble_eq_true rfl) rfl (g_X11_draw l G v0 v1 h) (by rw [hr]; rfl)
abbrev mX7_decide : xa_M := (cX7_decide, 4, none, RX7, false)
theorem d_X7_decide_0 : decode mX7_decide.1 0 = .ok (.iload_n 1, 1) ∧ 0 + 1 = 1 := ⟨by decide +kernel, rfl⟩
theorem d_X7_decide_1 : decode mX7_decide.1 1 = .ok (.iconst (-1), 1) ∧ 1 + 1 = 2 := ⟨by decide +kernel, rfl⟩
theorem d_X7_decide_2 : decode mX7_decide.1 2 = .ok (.if_icmp .eq 16, 3) ∧ 2 + 3 = 5 ∧ ((2 : Nat) : Int) + 16 = ((18 : Nat) : Int) := ⟨by decide +kernel, rfl, rfl⟩
theorem d_X7_decide_18 : decode mX7_decide.1 18 = .ok (.iload_n 2, 1) ∧ 18 + 1 = 19 := ⟨by decide +kernel, rfl⟩
theorem d_X7_decide_19 : decode mX7_decide.1 19 = .ok (.iconst (-1), 1) ∧ 19 + 1 = 20 := ⟨by decide +kernel, rfl⟩
theorem d_X7_decide_20 : decode mX7_decide.1 20 = .ok (.if_icmp .eq 16, 3) ∧ 20 + 3 = 23 ∧ ((20 : Nat) : Int) + 16 = ((36 : Nat) : Int) := ⟨by decide +kernel, rfl, rfl⟩
theorem d_X7_decide_36 : decode mX7_decide.1 36 = .ok (.aload_n 0, 1) ∧ 36 + 1 = 37 := ⟨by decide +kernel, rfl⟩
theorem d_X7_decide_37 : decode mX7_decide.1 37 = .ok (.iload_n 3, 1) ∧ 37 + 1 = 38 := ⟨by decide +kernel, rfl⟩
theorem d_X7_decide_38 : decode mX7_decide.1 38 = .ok (.iconst (-1), 1) ∧ 38 + 1 = 39 := ⟨by decide +kernel, rfl⟩
theorem d_X7_decide_39 : decode mX7_decide.1 39 = .ok (.if_icmp .eq 7, 3) ∧ 39 + 3 = 42 ∧ ((39 : Nat) : Int) + 7 = ((46 : Nat) : Int) := ⟨by decide +kernel, rfl, rfl⟩
theorem d_X7_decide_46 : decode mX7_decide.1 46 = .ok (.iconst 0, 1) ∧ 46 + 1 = 47 := ⟨by decide +kernel, rfl⟩
theorem d_X7_decide_47 : decode mX7_decide.1 47 = .ok (.putfield 19, 3) ∧ 47 + 3 = 50 := ⟨by decide +kernel, rfl⟩
theorem d_X7_decide_50 : decode mX7_decide.1 50 = .ok (.aload_n 0, 1) ∧ 50 + 1 = 51 := ⟨by decide +kernel, rfl⟩
theorem d_X7_decide_51 : decode mX7_decide.1 51 = .ok (.iload_n 3, 1) ∧ 51 + 1 = 52 := ⟨by decide +kernel, rfl⟩
theorem d_X7_decide_52 : decode mX7_decide.1 52 = .ok (.putfield 22, 3) ∧ 52 + 3 = 55 := ⟨by decide +kernel, rfl⟩
theorem d_X7_decide_55 : decode mX7_decide.1 55 = .ok (.return_, 1) := by decide +kernel
theorem d_X7_decide_42 : decode mX7_decide.1 42 = .ok (.iconst 3, 1) ∧ 42 + 1 = 43 := ⟨by decide +kernel, rfl⟩
theorem d_X7_decide_43 : decode mX7_decide.1 43 = .ok (.goto 4, 3) ∧ ((43 : Nat) : Int) + 4 = ((47 : Nat) : Int) := ⟨by decide +kernel, rfl⟩
theorem d_X7_decide_23 : decode mX7_decide.1 23 = .ok (.aload_n 0, 1) ∧ 23 + 1 = 24 := ⟨by decide +kernel, rfl⟩
theorem d_X7_decide_24 : decode mX7_decide.1 24 = .ok (.iconst 2, 1) ∧ 24 + 1 = 25 := ⟨by decide +kernel, rfl⟩
theorem d_X7_decide_25 : decode mX7_decide.1 25 = .ok (.putfield 19, 3) ∧ 25 + 3 = 28 := ⟨by decide +kernel, rfl⟩
theorem d_X7_decide_28 : decode mX7_decide.1 28 = .ok (.aload_n 0, 1) ∧ 28 + 1 = 29 := ⟨by decide +kernel, rfl⟩
theorem d_X7_decide_29 : decode mX7_decide.1 29 = .ok (.iload_n 2, 1) ∧ 29 + 1 = 30 := ⟨by decide +kernel, rfl⟩
theorem d_X7_decide_30 : decode mX7_decide.1 30 = .ok (.putfield 22, 3) ∧ 30 + 3 = 33 := ⟨by decide +kernel, rfl⟩
theorem d_X7_decide_33 : decode mX7_decide.1 33 = .ok (.goto 22, 3) ∧ ((33 : Nat) : Int) + 22 = ((55 : Nat) : Int) := ⟨by decide +kernel, rfl⟩
theorem d_X7_decide_5 : decode mX7_decide.1 5 = .ok (.aload_n 0, 1) ∧ 5 + 1 = 6 := ⟨by decide +kernel, rfl⟩
theorem d_X7_decide_6 : decode mX7_decide.1 6 = .ok (.iconst 1, 1) ∧ 6 + 1 = 7 := ⟨by decide +kernel, rfl⟩
theorem d_X7_decide_7 : decode mX7_decide.1 7 = .ok (.putfield 19, 3) ∧ 7 + 3 = 10 := ⟨by decide +kernel, rfl⟩
theorem d_X7_decide_10 : decode mX7_decide.1 10 = .ok (.aload_n 0, 1) ∧ 10 + 1 = 11 := ⟨by decide +kernel, rfl⟩
theorem d_X7_decide_11 : decode mX7_decide.1 11 = .ok (.iload_n 1, 1) ∧ 11 + 1 = 12 := ⟨by decide +kernel, rfl⟩
theorem d_X7_decide_12 : decode mX7_decide.1 12 = .ok (.putfield 22, 3) ∧ 12 + 3 = 15 := ⟨by decide +kernel, rfl⟩
theorem d_X7_decide_15 : decode mX7_decide.1 15 = .ok (.goto 40, 3) ∧ ((15 : Nat) : Int) + 40 = ((55 : Nat) : Int) := ⟨by decide +kernel, rfl⟩
set_option maxRecDepth 100000 in
set_option maxHeartbeats 4000000 in
theorem g_X7_decide (l : Launch) (G : xa_C) (v0 v1 v2 v3 : Int) (h : xa_H) : xa_G l G 2 mX7_decide (f_X7_decide v0 v1 v2 v3 h) (fun r => some (none, r) : xa_H → Option xa_O) 0 [some (xR v0), some (xI v1), some (xI v2), some (xI v3)] [] h := by
  unfold f_X7_decide
  refine xa_step (xa_iload_n d_X7_decide_0 rfl) ?_
  refine xa_step (xa_iconst d_X7_decide_1 xq_i_m1) ?_
  refine xa_if (xa_icmpeq d_X7_decide_2) (fun q1 => ?_) (fun q1 => ?_)
  · refine xa_step (xa_iload_n d_X7_decide_18 rfl) ?_
    refine xa_step (xa_iconst d_X7_decide_19 xq_i_m1) ?_
    refine xa_if (xa_icmpeq d_X7_decide_20) (fun q2 => ?_) (fun q2 => ?_)
    · refine xa_step (xa_aload_n d_X7_decide_36 rfl) ?_
      refine xa_step (xa_iload_n d_X7_decide_37 rfl) ?_
      refine xa_step (xa_iconst d_X7_decide_38 xq_i_m1) ?_
      refine xa_if (xa_icmpeq d_X7_decide_39) (fun q3 => ?_) (fun q3 => ?_)
      · refine xa_step (xa_iconst d_X7_decide_46 xq_i_0) ?_
        refine xa_putf2 (tg := xI) xc_7 (by decide) (fun _ => rfl) rfl (fun c hc => xa_fitI c hc) xw_482 rfl d_X7_decide_47 (fun h4 _ => ?_)
        refine xa_step (xa_aload_n d_X7_decide_50 rfl) ?_
        refine xa_step (xa_iload_n d_X7_decide_51 rfl) ?_
        refine xa_putf2 (tg := xI) xc_7 (by decide) (fun _ => rfl) rfl (fun c hc => xa_fitI c hc) xw_484 rfl d_X7_decide_52 (fun h5 _ => ?_)
        exact xa_vret d_X7_decide_55 rfl rfl
      · refine xa_step (xa_iconst d_X7_decide_42 xq_i_3) ?_
        refine xa_step (xa_goto d_X7_decide_43) ?_
        refine xa_putf2 (tg := xI) xc_7 (by decide) (fun _ => rfl) rfl (fun c hc => xa_fitI c hc) xw_482 rfl d_X7_decide_47 (fun h6 _ => ?_)
        refine xa_step (xa_aload_n d_X7_decide_50 rfl) ?_
        refine xa_step (xa_iload_n d_X7_decide_51 rfl) ?_
        refine xa_putf2 (tg := xI) xc_7 (by decide) (fun _ => rfl) rfl (fun c hc => xa_fitI c hc) xw_484 rfl d_X7_decide_52 (fun h7 _ => ?_)
        exact xa_vret d_X7_decide_55 rfl rfl
    · refine xa_step (xa_aload_n d_X7_decide_23 rfl) ?_
      refine xa_step (xa_iconst d_X7_decide_24 xq_i_2) ?_
      refine xa_putf2 (tg := xI) xc_7 (by decide) (fun _ => rfl) rfl (fun c hc => xa_fitI c hc) xw_482 rfl d_X7_decide_25 (fun h8 _ => ?_)
      refine xa_step (xa_aload_n d_X7_decide_28 rfl) ?_
      refine xa_step (xa_iload_n d_X7_decide_29 rfl) ?_
      refine xa_putf2 (tg := xI) xc_7 (by decide) (fun _ => rfl) rfl (fun c hc => xa_fitI c hc) xw_484 rfl d_X7_decide_30 (fun h9 _ => ?_)
      refine xa_step (xa_goto d_X7_decide_33) ?_
      exact xa_vret d_X7_decide_55 rfl rfl
  · refine xa_step (xa_aload_n d_X7_decide_5 rfl) ?_
    refine xa_step (xa_iconst d_X7_decide_6 xq_i_1) ?_
    refine xa_putf2 (tg := xI) xc_7 (by decide) (fun _ => rfl) rfl (fun c hc => xa_fitI c hc) xw_482 rfl d_X7_decide_7 (fun h10 _ => ?_)
    refine xa_step (xa_aload_n d_X7_decide_10 rfl) ?_
    refine xa_step (xa_iload_n d_X7_decide_11 rfl) ?_
    refine xa_putf2 (tg := xI) xc_7 (by decide) (fun _ => rfl) rfl (fun c hc => xa_fitI c hc) xw_484 rfl d_X7_decide_12 (fun h11 _ => ?_)
    refine xa_step (xa_goto d_X7_decide_15) ?_
    exact xa_vret d_X7_decide_55 rfl rfl
theorem ct_X7_decide (l : Launch) (G : xa_C) (v0 v1 v2 v3 : Int) (h : xa_H) (r : xa_H) (hr : f_X7_decide v0 v1 v2 v3 h = some r) : xa_CT l G 2 mX7_decide yX7_decide [xR v0, xI v1, xI v2, xI v3] h (none, r) :=
  xa_met (by decide +kernel) rfl (fun q => by first | rfl | cases q) (Nat.le_of_ble_eq_true rfl) rfl (g_X7_decide l G v0 v1 v2 v3 h) (by rw [hr]; rfl)
abbrev mX7_findFacts : xa_M := (cX7_findFacts, 6, none, RX7, false)
theorem d_X7_findFacts_0 : decode mX7_findFacts.1 0 = .ok (.aload_n 0, 1) ∧ 0 + 1 = 1 := ⟨by decide +kernel, rfl⟩
theorem d_X7_findFacts_1 : decode mX7_findFacts.1 1 = .ok (.getfield 9, 3) ∧ 1 + 3 = 4 := ⟨by decide +kernel, rfl⟩
theorem d_X7_findFacts_4 : decode mX7_findFacts.1 4 = .ok (.iload_n 1, 1) ∧ 4 + 1 = 5 := ⟨by decide +kernel, rfl⟩
theorem d_X7_findFacts_5 : decode mX7_findFacts.1 5 = .ok (.iaload, 1) ∧ 5 + 1 = 6 := ⟨by decide +kernel, rfl⟩
theorem d_X7_findFacts_6 : decode mX7_findFacts.1 6 = .ok (.istore 4, 2) ∧ 6 + 2 = 8 := ⟨by decide +kernel, rfl⟩
theorem d_X7_findFacts_8 : decode mX7_findFacts.1 8 = .ok (.aload_n 0, 1) ∧ 8 + 1 = 9 := ⟨by decide +kernel, rfl⟩
theorem d_X7_findFacts_9 : decode mX7_findFacts.1 9 = .ok (.getfield 9, 3) ∧ 9 + 3 = 12 := ⟨by decide +kernel, rfl⟩
theorem d_X7_findFacts_12 : decode mX7_findFacts.1 12 = .ok (.aload_n 0, 1) ∧ 12 + 1 = 13 := ⟨by decide +kernel, rfl⟩
theorem d_X7_findFacts_13 : decode mX7_findFacts.1 13 = .ok (.iload_n 1, 1) ∧ 13 + 1 = 14 := ⟨by decide +kernel, rfl⟩
theorem d_X7_findFacts_14 : decode mX7_findFacts.1 14 = .ok (.invokevirtual 78, 3) ∧ 14 + 3 = 17 := ⟨by decide +kernel, rfl⟩
theorem d_X7_findFacts_17 : decode mX7_findFacts.1 17 = .ok (.iaload, 1) ∧ 17 + 1 = 18 := ⟨by decide +kernel, rfl⟩
theorem d_X7_findFacts_18 : decode mX7_findFacts.1 18 = .ok (.istore 5, 2) ∧ 18 + 2 = 20 := ⟨by decide +kernel, rfl⟩
theorem d_X7_findFacts_20 : decode mX7_findFacts.1 20 = .ok (.aload_n 0, 1) ∧ 20 + 1 = 21 := ⟨by decide +kernel, rfl⟩
theorem d_X7_findFacts_21 : decode mX7_findFacts.1 21 = .ok (.getfield 28, 3) ∧ 21 + 3 = 24 := ⟨by decide +kernel, rfl⟩
theorem d_X7_findFacts_24 : decode mX7_findFacts.1 24 = .ok (.iload_n 1, 1) ∧ 24 + 1 = 25 := ⟨by decide +kernel, rfl⟩
theorem d_X7_findFacts_25 : decode mX7_findFacts.1 25 = .ok (.aload_n 3, 1) ∧ 25 + 1 = 26 := ⟨by decide +kernel, rfl⟩
theorem d_X7_findFacts_26 : decode mX7_findFacts.1 26 = .ok (.getfield 81, 3) ∧ 26 + 3 = 29 := ⟨by decide +kernel, rfl⟩
theorem d_X7_findFacts_29 : decode mX7_findFacts.1 29 = .ok (.iload 5, 2) ∧ 29 + 2 = 31 := ⟨by decide +kernel, rfl⟩
theorem d_X7_findFacts_31 : decode mX7_findFacts.1 31 = .ok (.iaload, 1) ∧ 31 + 1 = 32 := ⟨by decide +kernel, rfl⟩
theorem d_X7_findFacts_32 : decode mX7_findFacts.1 32 = .ok (.iastore, 1) ∧ 32 + 1 = 33 := ⟨by decide +kernel, rfl⟩
theorem d_X7_findFacts_33 : decode mX7_findFacts.1 33 = .ok (.aload_n 0, 1) ∧ 33 + 1 = 34 := ⟨by decide +kernel, rfl⟩
theorem d_X7_findFacts_34 : decode mX7_findFacts.1 34 = .ok (.getfield 31, 3) ∧ 34 + 3 = 37 := ⟨by decide +kernel, rfl⟩
theorem d_X7_findFacts_37 : decode mX7_findFacts.1 37 = .ok (.iconst 0, 1) ∧ 37 + 1 = 38 := ⟨by decide +kernel, rfl⟩
theorem d_X7_findFacts_38 : decode mX7_findFacts.1 38 = .ok (.aload_n 2, 1) ∧ 38 + 1 = 39 := ⟨by decide +kernel, rfl⟩
theorem d_X7_findFacts_39 : decode mX7_findFacts.1 39 = .ok (.iload 4, 2) ∧ 39 + 2 = 41 := ⟨by decide +kernel, rfl⟩
theorem d_X7_findFacts_41 : decode mX7_findFacts.1 41 = .ok (.aload_n 0, 1) ∧ 41 + 1 = 42 := ⟨by decide +kernel, rfl⟩
theorem d_X7_findFacts_42 : decode mX7_findFacts.1 42 = .ok (.getfield 28, 3) ∧ 42 + 3 = 45 := ⟨by decide +kernel, rfl⟩
theorem d_X7_findFacts_45 : decode mX7_findFacts.1 45 = .ok (.iload_n 1, 1) ∧ 45 + 1 = 46 := ⟨by decide +kernel, rfl⟩
theorem d_X7_findFacts_46 : decode mX7_findFacts.1 46 = .ok (.iaload, 1) ∧ 46 + 1 = 47 := ⟨by decide +kernel, rfl⟩
theorem d_X7_findFacts_47 : decode mX7_findFacts.1 47 = .ok (.invokevirtual 84, 3) ∧ 47 + 3 = 50 := ⟨by decide +kernel, rfl⟩
theorem d_X7_findFacts_50 : decode mX7_findFacts.1 50 = .ok (.iastore, 1) ∧ 50 + 1 = 51 := ⟨by decide +kernel, rfl⟩
theorem d_X7_findFacts_51 : decode mX7_findFacts.1 51 = .ok (.aload_n 0, 1) ∧ 51 + 1 = 52 := ⟨by decide +kernel, rfl⟩
theorem d_X7_findFacts_52 : decode mX7_findFacts.1 52 = .ok (.getfield 31, 3) ∧ 52 + 3 = 55 := ⟨by decide +kernel, rfl⟩
theorem d_X7_findFacts_55 : decode mX7_findFacts.1 55 = .ok (.iconst 1, 1) ∧ 55 + 1 = 56 := ⟨by decide +kernel, rfl⟩
theorem d_X7_findFacts_56 : decode mX7_findFacts.1 56 = .ok (.aload_n 2, 1) ∧ 56 + 1 = 57 := ⟨by decide +kernel, rfl⟩
theorem d_X7_findFacts_57 : decode mX7_findFacts.1 57 = .ok (.iload 4, 2) ∧ 57 + 2 = 59 := ⟨by decide +kernel, rfl⟩
theorem d_X7_findFacts_59 : decode mX7_findFacts.1 59 = .ok (.aload_n 3, 1) ∧ 59 + 1 = 60 := ⟨by decide +kernel, rfl⟩
theorem d_X7_findFacts_60 : decode mX7_findFacts.1 60 = .ok (.getfield 81, 3) ∧ 60 + 3 = 63 := ⟨by decide +kernel, rfl⟩
theorem d_X7_findFacts_63 : decode mX7_findFacts.1 63 = .ok (.iload 4, 2) ∧ 63 + 2 = 65 := ⟨by decide +kernel, rfl⟩
theorem d_X7_findFacts_65 : decode mX7_findFacts.1 65 = .ok (.iaload, 1) ∧ 65 + 1 = 66 := ⟨by decide +kernel, rfl⟩
theorem d_X7_findFacts_66 : decode mX7_findFacts.1 66 = .ok (.invokevirtual 84, 3) ∧ 66 + 3 = 69 := ⟨by decide +kernel, rfl⟩
theorem d_X7_findFacts_69 : decode mX7_findFacts.1 69 = .ok (.iastore, 1) ∧ 69 + 1 = 70 := ⟨by decide +kernel, rfl⟩
theorem d_X7_findFacts_70 : decode mX7_findFacts.1 70 = .ok (.aload_n 0, 1) ∧ 70 + 1 = 71 := ⟨by decide +kernel, rfl⟩
theorem d_X7_findFacts_71 : decode mX7_findFacts.1 71 = .ok (.getfield 31, 3) ∧ 71 + 3 = 74 := ⟨by decide +kernel, rfl⟩
theorem d_X7_findFacts_74 : decode mX7_findFacts.1 74 = .ok (.iconst 2, 1) ∧ 74 + 1 = 75 := ⟨by decide +kernel, rfl⟩
theorem d_X7_findFacts_75 : decode mX7_findFacts.1 75 = .ok (.aload_n 3, 1) ∧ 75 + 1 = 76 := ⟨by decide +kernel, rfl⟩
theorem d_X7_findFacts_76 : decode mX7_findFacts.1 76 = .ok (.getfield 87, 3) ∧ 76 + 3 = 79 := ⟨by decide +kernel, rfl⟩
theorem d_X7_findFacts_79 : decode mX7_findFacts.1 79 = .ok (.iload 4, 2) ∧ 79 + 2 = 81 := ⟨by decide +kernel, rfl⟩
theorem d_X7_findFacts_81 : decode mX7_findFacts.1 81 = .ok (.iaload, 1) ∧ 81 + 1 = 82 := ⟨by decide +kernel, rfl⟩
theorem d_X7_findFacts_82 : decode mX7_findFacts.1 82 = .ok (.aload_n 0, 1) ∧ 82 + 1 = 83 := ⟨by decide +kernel, rfl⟩
theorem d_X7_findFacts_83 : decode mX7_findFacts.1 83 = .ok (.getfield 28, 3) ∧ 83 + 3 = 86 := ⟨by decide +kernel, rfl⟩
theorem d_X7_findFacts_86 : decode mX7_findFacts.1 86 = .ok (.iload_n 1, 1) ∧ 86 + 1 = 87 := ⟨by decide +kernel, rfl⟩
theorem d_X7_findFacts_87 : decode mX7_findFacts.1 87 = .ok (.iaload, 1) ∧ 87 + 1 = 88 := ⟨by decide +kernel, rfl⟩
theorem d_X7_findFacts_88 : decode mX7_findFacts.1 88 = .ok (.if_icmp .ne 7, 3) ∧ 88 + 3 = 91 ∧ ((88 : Nat) : Int) + 7 = ((95 : Nat) : Int) := ⟨by decide +kernel, rfl, rfl⟩
theorem d_X7_findFacts_91 : decode mX7_findFacts.1 91 = .ok (.iconst 1, 1) ∧ 91 + 1 = 92 := ⟨by decide +kernel, rfl⟩
theorem d_X7_findFacts_92 : decode mX7_findFacts.1 92 = .ok (.goto 4, 3) ∧ ((92 : Nat) : Int) + 4 = ((96 : Nat) : Int) := ⟨by decide +kernel, rfl⟩
theorem d_X7_findFacts_96 : decode mX7_findFacts.1 96 = .ok (.iastore, 1) ∧ 96 + 1 = 97 := ⟨by decide +kernel, rfl⟩
theorem d_X7_findFacts_97 : decode mX7_findFacts.1 97 = .ok (.aload_n 0, 1) ∧ 97 + 1 = 98 := ⟨by decide +kernel, rfl⟩
theorem d_X7_findFacts_98 : decode mX7_findFacts.1 98 = .ok (.getfield 31, 3) ∧ 98 + 3 = 101 := ⟨by decide +kernel, rfl⟩
theorem d_X7_findFacts_101 : decode mX7_findFacts.1 101 = .ok (.iconst 3, 1) ∧ 101 + 1 = 102 := ⟨by decide +kernel, rfl⟩
theorem d_X7_findFacts_102 : decode mX7_findFacts.1 102 = .ok (.aload_n 2, 1) ∧ 102 + 1 = 103 := ⟨by decide +kernel, rfl⟩
theorem d_X7_findFacts_103 : decode mX7_findFacts.1 103 = .ok (.getfield 90, 3) ∧ 103 + 3 = 106 := ⟨by decide +kernel, rfl⟩
theorem d_X7_findFacts_106 : decode mX7_findFacts.1 106 = .ok (.aload_n 0, 1) ∧ 106 + 1 = 107 := ⟨by decide +kernel, rfl⟩
theorem d_X7_findFacts_107 : decode mX7_findFacts.1 107 = .ok (.getfield 28, 3) ∧ 107 + 3 = 110 := ⟨by decide +kernel, rfl⟩
theorem d_X7_findFacts_110 : decode mX7_findFacts.1 110 = .ok (.iload_n 1, 1) ∧ 110 + 1 = 111 := ⟨by decide +kernel, rfl⟩
theorem d_X7_findFacts_111 : decode mX7_findFacts.1 111 = .ok (.iaload, 1) ∧ 111 + 1 = 112 := ⟨by decide +kernel, rfl⟩
theorem d_X7_findFacts_112 : decode mX7_findFacts.1 112 = .ok (.iaload, 1) ∧ 112 + 1 = 113 := ⟨by decide +kernel, rfl⟩
theorem d_X7_findFacts_113 : decode mX7_findFacts.1 113 = .ok (.iastore, 1) ∧ 113 + 1 = 114 := ⟨by decide +kernel, rfl⟩
theorem d_X7_findFacts_114 : decode mX7_findFacts.1 114 = .ok (.aload_n 0, 1) ∧ 114 + 1 = 115 := ⟨by decide +kernel, rfl⟩
theorem d_X7_findFacts_115 : decode mX7_findFacts.1 115 = .ok (.getfield 31, 3) ∧ 115 + 3 = 118 := ⟨by decide +kernel, rfl⟩
theorem d_X7_findFacts_118 : decode mX7_findFacts.1 118 = .ok (.iconst 4, 1) ∧ 118 + 1 = 119 := ⟨by decide +kernel, rfl⟩
theorem d_X7_findFacts_119 : decode mX7_findFacts.1 119 = .ok (.aload_n 3, 1) ∧ 119 + 1 = 120 := ⟨by decide +kernel, rfl⟩
theorem d_X7_findFacts_120 : decode mX7_findFacts.1 120 = .ok (.getfield 93, 3) ∧ 120 + 3 = 123 := ⟨by decide +kernel, rfl⟩
theorem d_X7_findFacts_123 : decode mX7_findFacts.1 123 = .ok (.iload 4, 2) ∧ 123 + 2 = 125 := ⟨by decide +kernel, rfl⟩
theorem d_X7_findFacts_125 : decode mX7_findFacts.1 125 = .ok (.bipush 6, 2) ∧ 125 + 2 = 127 := ⟨by decide +kernel, rfl⟩
theorem d_X7_findFacts_127 : decode mX7_findFacts.1 127 = .ok (.imul, 1) ∧ 127 + 1 = 128 := ⟨by decide +kernel, rfl⟩
theorem d_X7_findFacts_128 : decode mX7_findFacts.1 128 = .ok (.iload 5, 2) ∧ 128 + 2 = 130 := ⟨by decide +kernel, rfl⟩
theorem d_X7_findFacts_130 : decode mX7_findFacts.1 130 = .ok (.iadd, 1) ∧ 130 + 1 = 131 := ⟨by decide +kernel, rfl⟩
theorem d_X7_findFacts_131 : decode mX7_findFacts.1 131 = .ok (.iaload, 1) ∧ 131 + 1 = 132 := ⟨by decide +kernel, rfl⟩
theorem d_X7_findFacts_132 : decode mX7_findFacts.1 132 = .ok (.iastore, 1) ∧ 132 + 1 = 133 := ⟨by decide +kernel, rfl⟩
theorem d_X7_findFacts_133 : decode mX7_findFacts.1 133 = .ok (.aload_n 0, 1) ∧ 133 + 1 = 134 := ⟨by decide +kernel, rfl⟩
theorem d_X7_findFacts_134 : decode mX7_findFacts.1 134 = .ok (.getfield 31, 3) ∧ 134 + 3 = 137 := ⟨by decide +kernel, rfl⟩
theorem d_X7_findFacts_137 : decode mX7_findFacts.1 137 = .ok (.iconst 5, 1) ∧ 137 + 1 = 138 := ⟨by decide +kernel, rfl⟩
theorem d_X7_findFacts_138 : decode mX7_findFacts.1 138 = .ok (.aload_n 3, 1) ∧ 138 + 1 = 139 := ⟨by decide +kernel, rfl⟩
theorem d_X7_findFacts_139 : decode mX7_findFacts.1 139 = .ok (.getfield 69, 3) ∧ 139 + 3 = 142 := ⟨by decide +kernel, rfl⟩
theorem d_X7_findFacts_142 : decode mX7_findFacts.1 142 = .ok (.iload 4, 2) ∧ 142 + 2 = 144 := ⟨by decide +kernel, rfl⟩
theorem d_X7_findFacts_144 : decode mX7_findFacts.1 144 = .ok (.iaload, 1) ∧ 144 + 1 = 145 := ⟨by decide +kernel, rfl⟩
theorem d_X7_findFacts_145 : decode mX7_findFacts.1 145 = .ok (.iastore, 1) ∧ 145 + 1 = 146 := ⟨by decide +kernel, rfl⟩
theorem d_X7_findFacts_146 : decode mX7_findFacts.1 146 = .ok (.aload_n 0, 1) ∧ 146 + 1 = 147 := ⟨by decide +kernel, rfl⟩
theorem d_X7_findFacts_147 : decode mX7_findFacts.1 147 = .ok (.getfield 31, 3) ∧ 147 + 3 = 150 := ⟨by decide +kernel, rfl⟩
theorem d_X7_findFacts_150 : decode mX7_findFacts.1 150 = .ok (.bipush 6, 2) ∧ 150 + 2 = 152 := ⟨by decide +kernel, rfl⟩
theorem d_X7_findFacts_152 : decode mX7_findFacts.1 152 = .ok (.aload_n 3, 1) ∧ 152 + 1 = 153 := ⟨by decide +kernel, rfl⟩
theorem d_X7_findFacts_153 : decode mX7_findFacts.1 153 = .ok (.getfield 96, 3) ∧ 153 + 3 = 156 := ⟨by decide +kernel, rfl⟩
theorem d_X7_findFacts_156 : decode mX7_findFacts.1 156 = .ok (.iastore, 1) ∧ 156 + 1 = 157 := ⟨by decide +kernel, rfl⟩
theorem d_X7_findFacts_157 : decode mX7_findFacts.1 157 = .ok (.return_, 1) := by decide +kernel
set_option maxRecDepth 100000 in
set_option maxHeartbeats 4000000 in
theorem g_X7_findFacts_J96 (l : Launch) (G : xa_C) : ∀ (v0 v1 v2 v3 v4 v5 s0 s1 s2 : Int) (h : xa_H) , xa_G l G 3 mX7_findFacts (f_X7_findFacts_J96 v0 v1 v2 v3 v4 v5 s0 s1 s2 h) (fun r => some (none, r) : xa_H → Option xa_O) 96 [some (xR v0), some (xI v1), some (xR v2), some (xR v3), some (xI v4), some (xI v5)] [xI s2, xI s1, xR s0] h := by
  intro v0 v1 v2 v3 v4 v5 s0 s1 s2 h
  unfold f_X7_findFacts_J96
  refine xa_iastore2 d_X7_findFacts_96 (fun h26 _ => ?_)
  refine xa_step (xa_aload_n d_X7_findFacts_97 rfl) ?_
  refine xa_getf xR xc_7 (by decide) (fun _ => rfl) xw_488 rfl d_X7_findFacts_98 (fun x27 _ => ?_)
  refine xa_step (xa_iconst d_X7_findFacts_101 xq_i_3) ?_
  refine xa_step (xa_aload_n d_X7_findFacts_102 rfl) ?_
  refine xa_getf xR xc_0 (by decide) (fun _ => rfl) xw_403 rfl d_X7_findFacts_103 (fun x28 _ => ?_)
  refine xa_step (xa_aload_n d_X7_findFacts_106 rfl) ?_
  refine xa_getf xR xc_7 (by decide) (fun _ => rfl) xw_487 rfl d_X7_findFacts_107 (fun x29 _ => ?_)
  refine xa_step (xa_iload_n d_X7_findFacts_110 rfl) ?_
  refine xa_iaload d_X7_findFacts_111 (fun x30 _ => ?_)
  refine xa_iaload d_X7_findFacts_112 (fun x31 _ => ?_)
  refine xa_iastore2 d_X7_findFacts_113 (fun h32 _ => ?_)
  refine xa_step (xa_aload_n d_X7_findFacts_114 rfl) ?_
  refine xa_getf xR xc_7 (by decide) (fun _ => rfl) xw_488 rfl d_X7_findFacts_115 (fun x33 _ => ?_)
  refine xa_step (xa_iconst d_X7_findFacts_118 xq_i_4) ?_
  refine xa_step (xa_aload_n d_X7_findFacts_119 rfl) ?_
  refine xa_getf xR xc_9 (by decide) (fun _ => rfl) xw_356 rfl d_X7_findFacts_120 (fun x34 _ => ?_)
  refine xa_step (xa_iload d_X7_findFacts_123 rfl) ?_
  refine xa_step (xa_bipush d_X7_findFacts_125 xq_b_6) ?_
  refine xa_step (xa_imul d_X7_findFacts_127) ?_
  refine xa_step (xa_iload d_X7_findFacts_128 rfl) ?_
  refine xa_step (xa_iadd d_X7_findFacts_130) ?_
  refine xa_iaload d_X7_findFacts_131 (fun x35 _ => ?_)
  refine xa_iastore2 d_X7_findFacts_132 (fun h36 _ => ?_)
  refine xa_step (xa_aload_n d_X7_findFacts_133 rfl) ?_
  refine xa_getf xR xc_7 (by decide) (fun _ => rfl) xw_488 rfl d_X7_findFacts_134 (fun x37 _ => ?_)
  refine xa_step (xa_iconst d_X7_findFacts_137 xq_i_5) ?_
  refine xa_step (xa_aload_n d_X7_findFacts_138 rfl) ?_
  refine xa_getf xR xc_9 (by decide) (fun _ => rfl) xw_352 rfl d_X7_findFacts_139 (fun x38 _ => ?_)
  refine xa_step (xa_iload d_X7_findFacts_142 rfl) ?_
  refine xa_iaload d_X7_findFacts_144 (fun x39 _ => ?_)
  refine xa_iastore2 d_X7_findFacts_145 (fun h40 _ => ?_)
  refine xa_step (xa_aload_n d_X7_findFacts_146 rfl) ?_
  refine xa_getf xR xc_7 (by decide) (fun _ => rfl) xw_488 rfl d_X7_findFacts_147 (fun x41 _ => ?_)
  refine xa_step (xa_bipush d_X7_findFacts_150 xq_b_6) ?_
  refine xa_step (xa_aload_n d_X7_findFacts_152 rfl) ?_
  refine xa_getf xI xc_9 (by decide) (fun _ => rfl) xw_340 rfl d_X7_findFacts_153 (fun x42 _ => ?_)
  refine xa_iastore2 d_X7_findFacts_156 (fun h43 _ => ?_)
  exact xa_vret d_X7_findFacts_157 rfl rfl
theorem d_X7_findFacts_95 : decode mX7_findFacts.1 95 = .ok (.iconst 0, 1) ∧ 95 + 1 = 96 := ⟨by decide +kernel, rfl⟩
set_option maxRecDepth 100000 in
set_option maxHeartbeats 4000000 in
theorem g_X7_findFacts (l : Launch) (G : xa_C) (v0 v1 v2 v3 : Int) (h : xa_H) : xa_G l G 3 mX7_findFacts (f_X7_findFacts v0 v1 v2 v3 h) (fun r => some (none, r) : xa_H → Option xa_O) 0 [some (xR v0), some (xI v1), some (xR v2), some (xR v3), none, none] [] h := by
  unfold f_X7_findFacts
  refine xa_step (xa_aload_n d_X7_findFacts_0 rfl) ?_
  refine xa_getf xR xc_7 (by decide) (fun _ => rfl) xw_478 rfl d_X7_findFacts_1 (fun x1 _ => ?_)
  refine xa_step (xa_iload_n d_X7_findFacts_4 rfl) ?_
  refine xa_iaload d_X7_findFacts_5 (fun x2 _ => ?_)
  refine xa_step (xa_istore (ls' := [some (xR v0), some (xI v1), some (xR v2), some (xR v3), some (xI x2), none]) d_X7_findFacts_6 (by decide) rfl) ?_
  refine xa_step (xa_aload_n d_X7_findFacts_8 rfl) ?_
  refine xa_getf xR xc_7 (by decide) (fun _ => rfl) xw_478 rfl d_X7_findFacts_9 (fun x3 _ => ?_)
  refine xa_step (xa_aload_n d_X7_findFacts_12 rfl) ?_
  refine xa_step (xa_iload_n d_X7_findFacts_13 rfl) ?_
  refine xa_callVi (as := [xI v1]) (st := [xR x3]) (M' := mX7_ahead) (d' := 2) rfl xw_970 xw_972 xw_38 xw_973 xw_173 xh_X7_ahead rfl ⟨Nat.le_of_ble_eq_true rfl, Nat.le_of_ble_eq_true rfl⟩ (Nat.le_of_ble_eq_true rfl) rfl d_X7_findFacts_14 (fun r hr => ct_X7_ahead l G v0 v1 h r hr) (fun r4 _ => ?_)
  refine xa_iaload d_X7_findFacts_17 (fun x5 _ => ?_)
  refine xa_step (xa_istore (ls' := [some (xR v0), some (xI v1), some (xR v2), some (xR v3), some (xI x2), some (xI x5)]) d_X7_findFacts_18 (by decide) rfl) ?_
  refine xa_step (xa_aload_n d_X7_findFacts_20 rfl) ?_
  refine xa_getf xR xc_7 (by decide) (fun _ => rfl) xw_487 rfl d_X7_findFacts_21 (fun x6 _ => ?_)
  refine xa_step (xa_iload_n d_X7_findFacts_24 rfl) ?_
  refine xa_step (xa_aload_n d_X7_findFacts_25 rfl) ?_
  refine xa_getf xR xc_9 (by decide) (fun _ => rfl) xw_345 rfl d_X7_findFacts_26 (fun x7 _ => ?_)
  refine xa_step (xa_iload d_X7_findFacts_29 rfl) ?_
  refine xa_iaload d_X7_findFacts_31 (fun x8 _ => ?_)
  refine xa_iastore2 d_X7_findFacts_32 (fun h9 _ => ?_)
  refine xa_step (xa_aload_n d_X7_findFacts_33 rfl) ?_
  refine xa_getf xR xc_7 (by decide) (fun _ => rfl) xw_488 rfl d_X7_findFacts_34 (fun x10 _ => ?_)
  refine xa_step (xa_iconst d_X7_findFacts_37 xq_i_0) ?_
  refine xa_step (xa_aload_n d_X7_findFacts_38 rfl) ?_
  refine xa_step (xa_iload d_X7_findFacts_39 rfl) ?_
  refine xa_step (xa_aload_n d_X7_findFacts_41 rfl) ?_
  refine xa_getf xR xc_7 (by decide) (fun _ => rfl) xw_487 rfl d_X7_findFacts_42 (fun x11 _ => ?_)
  refine xa_step (xa_iload_n d_X7_findFacts_45 rfl) ?_
  refine xa_iaload d_X7_findFacts_46 (fun x12 _ => ?_)
  refine xa_callVi (as := [xI x2, xI x12]) (st := [xI 0, xR x10]) (M' := mX0_valueOf) (d' := 2) rfl xw_974 xw_907 xw_908 xw_909 xw_169 xh_X0_valueOf rfl ⟨Nat.le_of_ble_eq_true rfl, Nat.le_of_ble_eq_true rfl⟩ (Nat.le_of_ble_eq_true rfl) rfl d_X7_findFacts_47 (fun r hr => ct_X0_valueOf l G v2 x2 x12 h9 r hr) (fun r13 _ => ?_)
  refine xa_iastore2 d_X7_findFacts_50 (fun h14 _ => ?_)
  refine xa_step (xa_aload_n d_X7_findFacts_51 rfl) ?_
  refine xa_getf xR xc_7 (by decide) (fun _ => rfl) xw_488 rfl d_X7_findFacts_52 (fun x15 _ => ?_)
  refine xa_step (xa_iconst d_X7_findFacts_55 xq_i_1) ?_
  refine xa_step (xa_aload_n d_X7_findFacts_56 rfl) ?_
  refine xa_step (xa_iload d_X7_findFacts_57 rfl) ?_
  refine xa_step (xa_aload_n d_X7_findFacts_59 rfl) ?_
  refine xa_getf xR xc_9 (by decide) (fun _ => rfl) xw_345 rfl d_X7_findFacts_60 (fun x16 _ => ?_)
  refine xa_step (xa_iload d_X7_findFacts_63 rfl) ?_
  refine xa_iaload d_X7_findFacts_65 (fun x17 _ => ?_)
  refine xa_callVi (as := [xI x2, xI x17]) (st := [xI 1, xR x15]) (M' := mX0_valueOf) (d' := 2) rfl xw_974 xw_907 xw_908 xw_909 xw_169 xh_X0_valueOf rfl ⟨Nat.le_of_ble_eq_true rfl, Nat.le_of_ble_eq_true rfl⟩ (Nat.le_of_ble_eq_true rfl) rfl d_X7_findFacts_66 (fun r hr => ct_X0_valueOf l G v2 x2 x17 h14 r hr) (fun r18 _ => ?_)
  refine xa_iastore2 d_X7_findFacts_69 (fun h19 _ => ?_)
  refine xa_step (xa_aload_n d_X7_findFacts_70 rfl) ?_
  refine xa_getf xR xc_7 (by decide) (fun _ => rfl) xw_488 rfl d_X7_findFacts_71 (fun x20 _ => ?_)
  refine xa_step (xa_iconst d_X7_findFacts_74 xq_i_2) ?_
  refine xa_step (xa_aload_n d_X7_findFacts_75 rfl) ?_
  refine xa_getf xR xc_9 (by decide) (fun _ => rfl) xw_349 rfl d_X7_findFacts_76 (fun x21 _ => ?_)
  refine xa_step (xa_iload d_X7_findFacts_79 rfl) ?_
  refine xa_iaload d_X7_findFacts_81 (fun x22 _ => ?_)
  refine xa_step (xa_aload_n d_X7_findFacts_82 rfl) ?_
  refine xa_getf xR xc_7 (by decide) (fun _ => rfl) xw_487 rfl d_X7_findFacts_83 (fun x23 _ => ?_)
  refine xa_step (xa_iload_n d_X7_findFacts_86 rfl) ?_
  refine xa_iaload d_X7_findFacts_87 (fun x24 _ => ?_)
  refine xa_if (xa_icmpne d_X7_findFacts_88) (fun q25 => ?_) (fun q25 => ?_)
  · refine xa_step (xa_iconst d_X7_findFacts_91 xq_i_1) ?_
    refine xa_step (xa_goto d_X7_findFacts_92) ?_
    exact xa_weak (ls' := [some (xR v0), some (xI v1), some (xR v2), some (xR v3), some (xI x2), some (xI x5)]) ⟨rfl, rfl, rfl, rfl, rfl, rfl, trivial⟩ (g_X7_findFacts_J96 l G v0 v1 v2 v3 x2 x5 x20 2 1 h19)
  · refine xa_step (xa_iconst d_X7_findFacts_95 xq_i_0) ?_
    exact xa_weak (ls' := [some (xR v0), some (xI v1), some (xR v2), some (xR v3), some (xI x2), some (xI x5)]) ⟨rfl, rfl, rfl, rfl, rfl, rfl, trivial⟩ (g_X7_findFacts_J96 l G v0 v1 v2 v3 x2 x5 x20 2 0 h19)
theorem ct_X7_findFacts (l : Launch) (G : xa_C) (v0 v1 v2 v3 : Int) (h : xa_H) (r : xa_H) (hr : f_X7_findFacts v0 v1 v2 v3 h = some r) : xa_CT l G 3 mX7_findFacts yX7_findFacts [xR v0, xI v1, xR v2, xR v3] h (none, r) :=
  xa_met (by decide +kernel) rfl (fun q => by first | rfl | cases q) (Nat.le_of_ble_eq_true rfl) rfl (g_X7_findFacts l G v0 v1 v2 v3 h) (by rw [hr]; rfl)
abbrev mX7_weigh : xa_M := (cX7_weigh, 9, none, RX7, false)
theorem d_X7_weigh_0 : decode mX7_weigh.1 0 = .ok (.iconst (-1), 1) ∧ 0 + 1 = 1 := ⟨by decide +kernel, rfl⟩
theorem d_X7_weigh_1 : decode mX7_weigh.1 1 = .ok (.istore_n 3, 1) ∧ 1 + 1 = 2 := ⟨by decide +kernel, rfl⟩
theorem d_X7_weigh_2 : decode mX7_weigh.1 2 = .ok (.iconst (-1), 1) ∧ 2 + 1 = 3 := ⟨by decide +kernel, rfl⟩
theorem d_X7_weigh_3 : decode mX7_weigh.1 3 = .ok (.istore 4, 2) ∧ 3 + 2 = 5 := ⟨by decide +kernel, rfl⟩
theorem d_X7_weigh_5 : decode mX7_weigh.1 5 = .ok (.iconst (-1), 1) ∧ 5 + 1 = 6 := ⟨by decide +kernel, rfl⟩
theorem d_X7_weigh_6 : decode mX7_weigh.1 6 = .ok (.istore 5, 2) ∧ 6 + 2 = 8 := ⟨by decide +kernel, rfl⟩
theorem d_X7_weigh_8 : decode mX7_weigh.1 8 = .ok (.iconst 0, 1) ∧ 8 + 1 = 9 := ⟨by decide +kernel, rfl⟩
theorem d_X7_weigh_9 : decode mX7_weigh.1 9 = .ok (.istore 6, 2) ∧ 9 + 2 = 11 := ⟨by decide +kernel, rfl⟩
theorem d_X7_weigh_11 : decode mX7_weigh.1 11 = .ok (.iload 6, 2) ∧ 11 + 2 = 13 := ⟨by decide +kernel, rfl⟩
theorem d_X7_weigh_13 : decode mX7_weigh.1 13 = .ok (.aload_n 0, 1) ∧ 13 + 1 = 14 := ⟨by decide +kernel, rfl⟩
theorem d_X7_weigh_14 : decode mX7_weigh.1 14 = .ok (.getfield 15, 3) ∧ 14 + 3 = 17 := ⟨by decide +kernel, rfl⟩
theorem d_X7_weigh_17 : decode mX7_weigh.1 17 = .ok (.if_icmp .ge 155, 3) ∧ 17 + 3 = 20 ∧ ((17 : Nat) : Int) + 155 = ((172 : Nat) : Int) := ⟨by decide +kernel, rfl, rfl⟩
theorem d_X7_weigh_20 : decode mX7_weigh.1 20 = .ok (.aload_n 0, 1) ∧ 20 + 1 = 21 := ⟨by decide +kernel, rfl⟩
theorem d_X7_weigh_21 : decode mX7_weigh.1 21 = .ok (.getfield 9, 3) ∧ 21 + 3 = 24 := ⟨by decide +kernel, rfl⟩
theorem d_X7_weigh_24 : decode mX7_weigh.1 24 = .ok (.iload 6, 2) ∧ 24 + 2 = 26 := ⟨by decide +kernel, rfl⟩
theorem d_X7_weigh_26 : decode mX7_weigh.1 26 = .ok (.iaload, 1) ∧ 26 + 1 = 27 := ⟨by decide +kernel, rfl⟩
theorem d_X7_weigh_27 : decode mX7_weigh.1 27 = .ok (.istore 7, 2) ∧ 27 + 2 = 29 := ⟨by decide +kernel, rfl⟩
theorem d_X7_weigh_29 : decode mX7_weigh.1 29 = .ok (.aload_n 0, 1) ∧ 29 + 1 = 30 := ⟨by decide +kernel, rfl⟩
theorem d_X7_weigh_30 : decode mX7_weigh.1 30 = .ok (.iload 6, 2) ∧ 30 + 2 = 32 := ⟨by decide +kernel, rfl⟩
theorem d_X7_weigh_32 : decode mX7_weigh.1 32 = .ok (.aload_n 1, 1) ∧ 32 + 1 = 33 := ⟨by decide +kernel, rfl⟩
theorem d_X7_weigh_33 : decode mX7_weigh.1 33 = .ok (.aload_n 2, 1) ∧ 33 + 1 = 34 := ⟨by decide +kernel, rfl⟩
theorem d_X7_weigh_34 : decode mX7_weigh.1 34 = .ok (.invokevirtual 34, 3) ∧ 34 + 3 = 37 := ⟨by decide +kernel, rfl⟩
theorem d_X7_weigh_37 : decode mX7_weigh.1 37 = .ok (.iload_n 3, 1) ∧ 37 + 1 = 38 := ⟨by decide +kernel, rfl⟩
theorem d_X7_weigh_38 : decode mX7_weigh.1 38 = .ok (.iconst (-1), 1) ∧ 38 + 1 = 39 := ⟨by decide +kernel, rfl⟩
theorem d_X7_weigh_39 : decode mX7_weigh.1 39 = .ok (.if_icmp .ne 26, 3) ∧ 39 + 3 = 42 ∧ ((39 : Nat) : Int) + 26 = ((65 : Nat) : Int) := ⟨by decide +kernel, rfl, rfl⟩
theorem d_X7_weigh_42 : decode mX7_weigh.1 42 = .ok (.aload_n 1, 1) ∧ 42 + 1 = 43 := ⟨by decide +kernel, rfl⟩
theorem d_X7_weigh_43 : decode mX7_weigh.1 43 = .ok (.iload 7, 2) ∧ 43 + 2 = 45 := ⟨by decide +kernel, rfl⟩
theorem d_X7_weigh_45 : decode mX7_weigh.1 45 = .ok (.aload_n 0, 1) ∧ 45 + 1 = 46 := ⟨by decide +kernel, rfl⟩
theorem d_X7_weigh_46 : decode mX7_weigh.1 46 = .ok (.getfield 9, 3) ∧ 46 + 3 = 49 := ⟨by decide +kernel, rfl⟩
theorem d_X7_weigh_49 : decode mX7_weigh.1 49 = .ok (.aload_n 0, 1) ∧ 49 + 1 = 50 := ⟨by decide +kernel, rfl⟩
theorem d_X7_weigh_50 : decode mX7_weigh.1 50 = .ok (.iload 6, 2) ∧ 50 + 2 = 52 := ⟨by decide +kernel, rfl⟩
theorem d_X7_weigh_52 : decode mX7_weigh.1 52 = .ok (.invokevirtual 38, 3) ∧ 52 + 3 = 55 := ⟨by decide +kernel, rfl⟩
theorem d_X7_weigh_55 : decode mX7_weigh.1 55 = .ok (.iaload, 1) ∧ 55 + 1 = 56 := ⟨by decide +kernel, rfl⟩
theorem d_X7_weigh_56 : decode mX7_weigh.1 56 = .ok (.invokevirtual 42, 3) ∧ 56 + 3 = 59 := ⟨by decide +kernel, rfl⟩
theorem d_X7_weigh_59 : decode mX7_weigh.1 59 = .ok (.ifCond .eq 6, 3) ∧ 59 + 3 = 62 ∧ ((59 : Nat) : Int) + 6 = ((65 : Nat) : Int) := ⟨by decide +kernel, rfl, rfl⟩
theorem d_X7_weigh_65 : decode mX7_weigh.1 65 = .ok (.iload 4, 2) ∧ 65 + 2 = 67 := ⟨by decide +kernel, rfl⟩
theorem d_X7_weigh_67 : decode mX7_weigh.1 67 = .ok (.iconst (-1), 1) ∧ 67 + 1 = 68 := ⟨by decide +kernel, rfl⟩
theorem d_X7_weigh_68 : decode mX7_weigh.1 68 = .ok (.if_icmp .ne 28, 3) ∧ 68 + 3 = 71 ∧ ((68 : Nat) : Int) + 28 = ((96 : Nat) : Int) := ⟨by decide +kernel, rfl, rfl⟩
theorem d_X7_weigh_71 : decode mX7_weigh.1 71 = .ok (.aload_n 1, 1) ∧ 71 + 1 = 72 := ⟨by decide +kernel, rfl⟩
theorem d_X7_weigh_72 : decode mX7_weigh.1 72 = .ok (.getfield 48, 3) ∧ 72 + 3 = 75 := ⟨by decide +kernel, rfl⟩
theorem d_X7_weigh_75 : decode mX7_weigh.1 75 = .ok (.ifnull 21, 3) ∧ 75 + 3 = 78 ∧ ((75 : Nat) : Int) + 21 = ((96 : Nat) : Int) := ⟨by decide +kernel, rfl, rfl⟩
theorem d_X7_weigh_96 : decode mX7_weigh.1 96 = .ok (.aload_n 1, 1) ∧ 96 + 1 = 97 := ⟨by decide +kernel, rfl⟩
theorem d_X7_weigh_97 : decode mX7_weigh.1 97 = .ok (.getfield 58, 3) ∧ 97 + 3 = 100 := ⟨by decide +kernel, rfl⟩
theorem d_X7_weigh_100 : decode mX7_weigh.1 100 = .ok (.ifnonnull 7, 3) ∧ 100 + 3 = 103 ∧ ((100 : Nat) : Int) + 7 = ((107 : Nat) : Int) := ⟨by decide +kernel, rfl, rfl⟩
theorem d_X7_weigh_103 : decode mX7_weigh.1 103 = .ok (.iconst 0, 1) ∧ 103 + 1 = 104 := ⟨by decide +kernel, rfl⟩
theorem d_X7_weigh_104 : decode mX7_weigh.1 104 = .ok (.goto 14, 3) ∧ ((104 : Nat) : Int) + 14 = ((118 : Nat) : Int) := ⟨by decide +kernel, rfl⟩
theorem d_X7_weigh_118 : decode mX7_weigh.1 118 = .ok (.istore 8, 2) ∧ 118 + 2 = 120 := ⟨by decide +kernel, rfl⟩
theorem d_X7_weigh_120 : decode mX7_weigh.1 120 = .ok (.aload_n 0, 1) ∧ 120 + 1 = 121 := ⟨by decide +kernel, rfl⟩
theorem d_X7_weigh_121 : decode mX7_weigh.1 121 = .ok (.getfield 25, 3) ∧ 121 + 3 = 124 := ⟨by decide +kernel, rfl⟩
theorem d_X7_weigh_124 : decode mX7_weigh.1 124 = .ok (.iload 6, 2) ∧ 124 + 2 = 126 := ⟨by decide +kernel, rfl⟩
theorem d_X7_weigh_126 : decode mX7_weigh.1 126 = .ok (.iconst 0, 1) ∧ 126 + 1 = 127 := ⟨by decide +kernel, rfl⟩
theorem d_X7_weigh_127 : decode mX7_weigh.1 127 = .ok (.sipush 999, 3) ∧ 127 + 3 = 130 := ⟨by decide +kernel, rfl⟩
theorem d_X7_weigh_130 : decode mX7_weigh.1 130 = .ok (.iload 8, 2) ∧ 130 + 2 = 132 := ⟨by decide +kernel, rfl⟩
theorem d_X7_weigh_132 : decode mX7_weigh.1 132 = .ok (.invokestatic 60, 3) ∧ 132 + 3 = 135 := ⟨by decide +kernel, rfl⟩
theorem d_X7_weigh_135 : decode mX7_weigh.1 135 = .ok (.invokestatic 66, 3) ∧ 135 + 3 = 138 := ⟨by decide +kernel, rfl⟩
theorem d_X7_weigh_138 : decode mX7_weigh.1 138 = .ok (.iastore, 1) ∧ 138 + 1 = 139 := ⟨by decide +kernel, rfl⟩
theorem d_X7_weigh_139 : decode mX7_weigh.1 139 = .ok (.iload 5, 2) ∧ 139 + 2 = 141 := ⟨by decide +kernel, rfl⟩
theorem d_X7_weigh_141 : decode mX7_weigh.1 141 = .ok (.iconst (-1), 1) ∧ 141 + 1 = 142 := ⟨by decide +kernel, rfl⟩
theorem d_X7_weigh_142 : decode mX7_weigh.1 142 = .ok (.if_icmp .ne 24, 3) ∧ 142 + 3 = 145 ∧ ((142 : Nat) : Int) + 24 = ((166 : Nat) : Int) := ⟨by decide +kernel, rfl, rfl⟩
theorem d_X7_weigh_145 : decode mX7_weigh.1 145 = .ok (.aload_n 0, 1) ∧ 145 + 1 = 146 := ⟨by decide +kernel, rfl⟩
theorem d_X7_weigh_146 : decode mX7_weigh.1 146 = .ok (.getfield 25, 3) ∧ 146 + 3 = 149 := ⟨by decide +kernel, rfl⟩
theorem d_X7_weigh_149 : decode mX7_weigh.1 149 = .ok (.iload 6, 2) ∧ 149 + 2 = 151 := ⟨by decide +kernel, rfl⟩
theorem d_X7_weigh_151 : decode mX7_weigh.1 151 = .ok (.iaload, 1) ∧ 151 + 1 = 152 := ⟨by decide +kernel, rfl⟩
theorem d_X7_weigh_152 : decode mX7_weigh.1 152 = .ok (.aload_n 2, 1) ∧ 152 + 1 = 153 := ⟨by decide +kernel, rfl⟩
theorem d_X7_weigh_153 : decode mX7_weigh.1 153 = .ok (.getfield 69, 3) ∧ 153 + 3 = 156 := ⟨by decide +kernel, rfl⟩
theorem d_X7_weigh_156 : decode mX7_weigh.1 156 = .ok (.iload 7, 2) ∧ 156 + 2 = 158 := ⟨by decide +kernel, rfl⟩
theorem d_X7_weigh_158 : decode mX7_weigh.1 158 = .ok (.iaload, 1) ∧ 158 + 1 = 159 := ⟨by decide +kernel, rfl⟩
theorem d_X7_weigh_159 : decode mX7_weigh.1 159 = .ok (.if_icmp .le 7, 3) ∧ 159 + 3 = 162 ∧ ((159 : Nat) : Int) + 7 = ((166 : Nat) : Int) := ⟨by decide +kernel, rfl, rfl⟩
theorem d_X7_weigh_162 : decode mX7_weigh.1 162 = .ok (.iload 7, 2) ∧ 162 + 2 = 164 := ⟨by decide +kernel, rfl⟩
theorem d_X7_weigh_164 : decode mX7_weigh.1 164 = .ok (.istore 5, 2) ∧ 164 + 2 = 166 := ⟨by decide +kernel, rfl⟩
theorem d_X7_weigh_166 : decode mX7_weigh.1 166 = .ok (.iinc 6 1, 3) ∧ 166 + 3 = 169 := ⟨by decide +kernel, rfl⟩
theorem d_X7_weigh_169 : decode mX7_weigh.1 169 = .ok (.goto (-158), 3) ∧ ((169 : Nat) : Int) + (-158) = ((11 : Nat) : Int) := ⟨by decide +kernel, rfl⟩
set_option maxRecDepth 100000 in
set_option maxHeartbeats 4000000 in
theorem g_X7_weigh_J118L11 (l : Launch) (G : xa_C) (c0 c1 c2 : Int) (K : (Int × Int × Int × Int × xa_H) ⊕ (Int × Int × Int × xa_H) → Option xa_O) (hb : ∀ (v3 : Int) (v4 : Int) (v5 : Int) (v6 : Int) (h : xa_H), xa_G l G 5 mX7_weigh (some (Sum.inl ((v3, v4, v5, v6, h)))) K 11 [some (xR c0), some (xR c1), some (xR c2), some (xI v3), some (xI v4), some (xI v5), some (xI v6), none, none] [] h) (hx : ∀ (v3 : Int) (v4 : Int) (v5 : Int) (h : xa_H), xa_G l G 5 mX7_weigh (some (Sum.inr ((v3, v4, v5, h)))) K 172 [some (xR c0), none, none, some (xI v3), some (xI v4), some (xI v5), none, none, none] [] h) : ∀ (v3 v4 v5 v6 v7 s0 : Int) (h : xa_H) , xa_G l G 5 mX7_weigh (f_X7_weigh_J118L11 c0 c1 c2 v3 v4 v5 v6 v7 s0 h) K 118 [some (xR c0), some (xR c1), some (xR c2), some (xI v3), some (xI v4), some (xI v5), some (xI v6), some (xI v7), none] [xI s0] h := by
  intro v3 v4 v5 v6 v7 s0 h
  unfold f_X7_weigh_J118L11
  refine xa_step (xa_istore (ls' := [some (xR c0), some (xR c1), some (xR c2), some (xI v3), some (xI v4), some (xI v5), some (xI v6), some (xI v7), some (xI s0)]) d_X7_weigh_118 (by decide) rfl) ?_
  refine xa_step (xa_aload_n d_X7_weigh_120 rfl) ?_
  refine xa_getf xR xc_7 (by decide) (fun _ => rfl) xw_486 rfl d_X7_weigh_121 (fun x17 _ => ?_)
  refine xa_step (xa_iload d_X7_weigh_124 rfl) ?_
  refine xa_step (xa_iconst d_X7_weigh_126 xq_i_0) ?_
  refine xa_step (xa_sipush d_X7_weigh_127 xq_s_999) ?_
  refine xa_step (xa_iload d_X7_weigh_130 rfl) ?_
  refine xa_mminI xw_1008 xw_847 xw_179 xw_848 (by decide) (Nat.le_of_ble_eq_true rfl) d_X7_weigh_132 ?_
  refine xa_mmaxI xw_1009 xw_1006 xw_179 xw_1007 (by decide) (Nat.le_of_ble_eq_true rfl) d_X7_weigh_135 ?_
  refine xa_iastore2 d_X7_weigh_138 (fun h18 _ => ?_)
  refine xa_step (xa_iload d_X7_weigh_139 rfl) ?_
  refine xa_step (xa_iconst d_X7_weigh_141 xq_i_m1) ?_
  refine xa_if (xa_icmpne d_X7_weigh_142) (fun q19 => ?_) (fun q19 => ?_)
  · refine xa_step (xa_aload_n d_X7_weigh_145 rfl) ?_
    refine xa_getf xR xc_7 (by decide) (fun _ => rfl) xw_486 rfl d_X7_weigh_146 (fun x20 _ => ?_)
    refine xa_step (xa_iload d_X7_weigh_149 rfl) ?_
    refine xa_iaload d_X7_weigh_151 (fun x21 _ => ?_)
    refine xa_step (xa_aload_n d_X7_weigh_152 rfl) ?_
    refine xa_getf xR xc_9 (by decide) (fun _ => rfl) xw_352 rfl d_X7_weigh_153 (fun x22 _ => ?_)
    refine xa_step (xa_iload d_X7_weigh_156 rfl) ?_
    refine xa_iaload d_X7_weigh_158 (fun x23 _ => ?_)
    refine xa_if (xa_icmple d_X7_weigh_159) (fun q24 => ?_) (fun q24 => ?_)
    · refine xa_step (xa_iload d_X7_weigh_162 rfl) ?_
      refine xa_step (xa_istore (ls' := [some (xR c0), some (xR c1), some (xR c2), some (xI v3), some (xI v4), some (xI v7), some (xI v6), some (xI v7), some (xI s0)]) d_X7_weigh_164 (by decide) rfl) ?_
      refine xa_step (xa_iinc (ls' := [some (xR c0), some (xR c1), some (xR c2), some (xI v3), some (xI v4), some (xI v7), some (xI (w32 (v6 + 1))), some (xI v7), some (xI s0)]) d_X7_weigh_166 xq_i_1 rfl (by decide) rfl) ?_
      refine xa_step (xa_goto d_X7_weigh_169) ?_
      exact xa_weak (ls' := [some (xR c0), some (xR c1), some (xR c2), some (xI v3), some (xI v4), some (xI v7), some (xI (w32 (v6 + 1))), none, none]) ⟨rfl, rfl, rfl, rfl, rfl, rfl, rfl, trivial⟩ (hb v3 v4 v7 (w32 (v6 + 1)) h18)
    · refine xa_step (xa_iinc (ls' := [some (xR c0), some (xR c1), some (xR c2), some (xI v3), some (xI v4), some (xI v5), some (xI (w32 (v6 + 1))), some (xI v7), some (xI s0)]) d_X7_weigh_166 xq_i_1 rfl (by decide) rfl) ?_
      refine xa_step (xa_goto d_X7_weigh_169) ?_
      exact xa_weak (ls' := [some (xR c0), some (xR c1), some (xR c2), some (xI v3), some (xI v4), some (xI v5), some (xI (w32 (v6 + 1))), none, none]) ⟨rfl, rfl, rfl, rfl, rfl, rfl, rfl, trivial⟩ (hb v3 v4 v5 (w32 (v6 + 1)) h18)
  · refine xa_step (xa_iinc (ls' := [some (xR c0), some (xR c1), some (xR c2), some (xI v3), some (xI v4), some (xI v5), some (xI (w32 (v6 + 1))), some (xI v7), some (xI s0)]) d_X7_weigh_166 xq_i_1 rfl (by decide) rfl) ?_
    refine xa_step (xa_goto d_X7_weigh_169) ?_
    exact xa_weak (ls' := [some (xR c0), some (xR c1), some (xR c2), some (xI v3), some (xI v4), some (xI v5), some (xI (w32 (v6 + 1))), none, none]) ⟨rfl, rfl, rfl, rfl, rfl, rfl, rfl, trivial⟩ (hb v3 v4 v5 (w32 (v6 + 1)) h18)
theorem d_X7_weigh_107 : decode mX7_weigh.1 107 = .ok (.aload_n 1, 1) ∧ 107 + 1 = 108 := ⟨by decide +kernel, rfl⟩
theorem d_X7_weigh_108 : decode mX7_weigh.1 108 = .ok (.getfield 58, 3) ∧ 108 + 3 = 111 := ⟨by decide +kernel, rfl⟩
theorem d_X7_weigh_111 : decode mX7_weigh.1 111 = .ok (.aload_n 0, 1) ∧ 111 + 1 = 112 := ⟨by decide +kernel, rfl⟩
theorem d_X7_weigh_112 : decode mX7_weigh.1 112 = .ok (.getfield 31, 3) ∧ 112 + 3 = 115 := ⟨by decide +kernel, rfl⟩
theorem d_X7_weigh_115 : decode mX7_weigh.1 115 = .ok (.invokevirtual 52, 3) ∧ 115 + 3 = 118 := ⟨by decide +kernel, rfl⟩
set_option maxRecDepth 100000 in
set_option maxHeartbeats 4000000 in
theorem g_X7_weigh_J96L11 (l : Launch) (G : xa_C) (c0 c1 c2 : Int) (K : (Int × Int × Int × Int × xa_H) ⊕ (Int × Int × Int × xa_H) → Option xa_O) (hb : ∀ (v3 : Int) (v4 : Int) (v5 : Int) (v6 : Int) (h : xa_H), xa_G l G 5 mX7_weigh (some (Sum.inl ((v3, v4, v5, v6, h)))) K 11 [some (xR c0), some (xR c1), some (xR c2), some (xI v3), some (xI v4), some (xI v5), some (xI v6), none, none] [] h) (hx : ∀ (v3 : Int) (v4 : Int) (v5 : Int) (h : xa_H), xa_G l G 5 mX7_weigh (some (Sum.inr ((v3, v4, v5, h)))) K 172 [some (xR c0), none, none, some (xI v3), some (xI v4), some (xI v5), none, none, none] [] h) : ∀ (v3 v4 v5 v6 v7 : Int) (h : xa_H) , xa_G l G 5 mX7_weigh (f_X7_weigh_J96L11 c0 c1 c2 v3 v4 v5 v6 v7 h) K 96 [some (xR c0), some (xR c1), some (xR c2), some (xI v3), some (xI v4), some (xI v5), some (xI v6), some (xI v7), none] [] h := by
  intro v3 v4 v5 v6 v7 h
  unfold f_X7_weigh_J96L11
  refine xa_step (xa_aload_n d_X7_weigh_96 rfl) ?_
  refine xa_getf xR xc_0 (by decide) (fun _ => rfl) xw_416 rfl d_X7_weigh_97 (fun x15 _ => ?_)
  refine xa_n5 (fun q28 => ?_)
  refine xa_if (xa_ifnonnull q28 d_X7_weigh_100) (fun q16 => ?_) (fun q16 => ?_)
  · refine xa_step (xa_iconst d_X7_weigh_103 xq_i_0) ?_
    refine xa_step (xa_goto d_X7_weigh_104) ?_
    exact xa_weak (ls' := [some (xR c0), some (xR c1), some (xR c2), some (xI v3), some (xI v4), some (xI v5), some (xI v6), some (xI v7), none]) ⟨rfl, rfl, rfl, rfl, rfl, rfl, rfl, rfl, trivial⟩ (g_X7_weigh_J118L11 l G c0 c1 c2 K hb hx v3 v4 v5 v6 v7 0 h)
  · refine xa_step (xa_aload_n d_X7_weigh_107 rfl) ?_
    refine xa_getf xR xc_0 (by decide) (fun _ => rfl) xw_416 rfl d_X7_weigh_108 (fun x25 _ => ?_)
    refine xa_step (xa_aload_n d_X7_weigh_111 rfl) ?_
    refine xa_getf xR xc_7 (by decide) (fun _ => rfl) xw_488 rfl d_X7_weigh_112 (fun x26 _ => ?_)
    refine xa_callVI (as := [xR x26]) (st := []) (M' := mX2_worth) (d' := 4) rfl xw_980 xw_981 xw_982 xw_983 xw_178 xh_X2_worth rfl ⟨Nat.le_of_ble_eq_true rfl, Nat.le_of_ble_eq_true rfl⟩ (Nat.le_of_ble_eq_true rfl) rfl d_X7_weigh_115 (fun r hr => ct_X2_worth l G x25 x26 h r hr) (fun r27 _ => ?_)
    exact xa_weak (ls' := [some (xR c0), some (xR c1), some (xR c2), some (xI v3), some (xI v4), some (xI v5), some (xI v6), some (xI v7), none]) ⟨rfl, rfl, rfl, rfl, rfl, rfl, rfl, rfl, trivial⟩ (g_X7_weigh_J118L11 l G c0 c1 c2 K hb hx v3 v4 v5 v6 v7 r27.1 r27.2)
theorem d_X7_weigh_78 : decode mX7_weigh.1 78 = .ok (.aload_n 1, 1) ∧ 78 + 1 = 79 := ⟨by decide +kernel, rfl⟩
theorem d_X7_weigh_79 : decode mX7_weigh.1 79 = .ok (.getfield 48, 3) ∧ 79 + 3 = 82 := ⟨by decide +kernel, rfl⟩
theorem d_X7_weigh_82 : decode mX7_weigh.1 82 = .ok (.aload_n 0, 1) ∧ 82 + 1 = 83 := ⟨by decide +kernel, rfl⟩
theorem d_X7_weigh_83 : decode mX7_weigh.1 83 = .ok (.getfield 31, 3) ∧ 83 + 3 = 86 := ⟨by decide +kernel, rfl⟩
theorem d_X7_weigh_86 : decode mX7_weigh.1 86 = .ok (.invokevirtual 52, 3) ∧ 86 + 3 = 89 := ⟨by decide +kernel, rfl⟩
theorem d_X7_weigh_89 : decode mX7_weigh.1 89 = .ok (.ifCond .ne 7, 3) ∧ 89 + 3 = 92 ∧ ((89 : Nat) : Int) + 7 = ((96 : Nat) : Int) := ⟨by decide +kernel, rfl, rfl⟩
theorem d_X7_weigh_92 : decode mX7_weigh.1 92 = .ok (.iload 7, 2) ∧ 92 + 2 = 94 := ⟨by decide +kernel, rfl⟩
theorem d_X7_weigh_94 : decode mX7_weigh.1 94 = .ok (.istore 4, 2) ∧ 94 + 2 = 96 := ⟨by decide +kernel, rfl⟩
set_option maxRecDepth 100000 in
set_option maxHeartbeats 4000000 in
theorem g_X7_weigh_J65L11 (l : Launch) (G : xa_C) (c0 c1 c2 : Int) (K : (Int × Int × Int × Int × xa_H) ⊕ (Int × Int × Int × xa_H) → Option xa_O) (hb : ∀ (v3 : Int) (v4 : Int) (v5 : Int) (v6 : Int) (h : xa_H), xa_G l G 5 mX7_weigh (some (Sum.inl ((v3, v4, v5, v6, h)))) K 11 [some (xR c0), some (xR c1), some (xR c2), some (xI v3), some (xI v4), some (xI v5), some (xI v6), none, none] [] h) (hx : ∀ (v3 : Int) (v4 : Int) (v5 : Int) (h : xa_H), xa_G l G 5 mX7_weigh (some (Sum.inr ((v3, v4, v5, h)))) K 172 [some (xR c0), none, none, some (xI v3), some (xI v4), some (xI v5), none, none, none] [] h) : ∀ (v3 v4 v5 v6 v7 : Int) (h : xa_H) , xa_G l G 5 mX7_weigh (f_X7_weigh_J65L11 c0 c1 c2 v3 v4 v5 v6 v7 h) K 65 [some (xR c0), some (xR c1), some (xR c2), some (xI v3), some (xI v4), some (xI v5), some (xI v6), some (xI v7), none] [] h := by
  intro v3 v4 v5 v6 v7 h
  unfold f_X7_weigh_J65L11
  refine xa_step (xa_iload d_X7_weigh_65 rfl) ?_
  refine xa_step (xa_iconst d_X7_weigh_67 xq_i_m1) ?_
  refine xa_if (xa_icmpne d_X7_weigh_68) (fun q12 => ?_) (fun q12 => ?_)
  · refine xa_step (xa_aload_n d_X7_weigh_71 rfl) ?_
    refine xa_getf xR xc_0 (by decide) (fun _ => rfl) xw_413 rfl d_X7_weigh_72 (fun x13 _ => ?_)
    refine xa_n5 (fun q33 => ?_)
    refine xa_if (xa_ifnull q33 d_X7_weigh_75) (fun q14 => ?_) (fun q14 => ?_)
    · exact xa_weak (ls' := [some (xR c0), some (xR c1), some (xR c2), some (xI v3), some (xI v4), some (xI v5), some (xI v6), some (xI v7), none]) ⟨rfl, rfl, rfl, rfl, rfl, rfl, rfl, rfl, trivial⟩ (g_X7_weigh_J96L11 l G c0 c1 c2 K hb hx v3 v4 v5 v6 v7 h)
    · refine xa_step (xa_aload_n d_X7_weigh_78 rfl) ?_
      refine xa_getf xR xc_0 (by decide) (fun _ => rfl) xw_413 rfl d_X7_weigh_79 (fun x29 _ => ?_)
      refine xa_step (xa_aload_n d_X7_weigh_82 rfl) ?_
      refine xa_getf xR xc_7 (by decide) (fun _ => rfl) xw_488 rfl d_X7_weigh_83 (fun x30 _ => ?_)
      refine xa_callVI (as := [xR x30]) (st := []) (M' := mX2_worth) (d' := 4) rfl xw_980 xw_981 xw_982 xw_983 xw_178 xh_X2_worth rfl ⟨Nat.le_of_ble_eq_true rfl, Nat.le_of_ble_eq_true rfl⟩ (Nat.le_of_ble_eq_true rfl) rfl d_X7_weigh_86 (fun r hr => ct_X2_worth l G x29 x30 h r hr) (fun r31 _ => ?_)
      refine xa_if (xa_ifne d_X7_weigh_89) (fun q32 => ?_) (fun q32 => ?_)
      · refine xa_step (xa_iload d_X7_weigh_92 rfl) ?_
        refine xa_step (xa_istore (ls' := [some (xR c0), some (xR c1), some (xR c2), some (xI v3), some (xI v7), some (xI v5), some (xI v6), some (xI v7), none]) d_X7_weigh_94 (by decide) rfl) ?_
        exact xa_weak (ls' := [some (xR c0), some (xR c1), some (xR c2), some (xI v3), some (xI v7), some (xI v5), some (xI v6), some (xI v7), none]) ⟨rfl, rfl, rfl, rfl, rfl, rfl, rfl, rfl, trivial⟩ (g_X7_weigh_J96L11 l G c0 c1 c2 K hb hx v3 v7 v5 v6 v7 r31.2)
      · exact xa_weak (ls' := [some (xR c0), some (xR c1), some (xR c2), some (xI v3), some (xI v4), some (xI v5), some (xI v6), some (xI v7), none]) ⟨rfl, rfl, rfl, rfl, rfl, rfl, rfl, rfl, trivial⟩ (g_X7_weigh_J96L11 l G c0 c1 c2 K hb hx v3 v4 v5 v6 v7 r31.2)
  · exact xa_weak (ls' := [some (xR c0), some (xR c1), some (xR c2), some (xI v3), some (xI v4), some (xI v5), some (xI v6), some (xI v7), none]) ⟨rfl, rfl, rfl, rfl, rfl, rfl, rfl, rfl, trivial⟩ (g_X7_weigh_J96L11 l G c0 c1 c2 K hb hx v3 v4 v5 v6 v7 h)
theorem d_X7_weigh_62 : decode mX7_weigh.1 62 = .ok (.iload 7, 2) ∧ 62 + 2 = 64 := ⟨by decide +kernel, rfl⟩
theorem d_X7_weigh_64 : decode mX7_weigh.1 64 = .ok (.istore_n 3, 1) ∧ 64 + 1 = 65 := ⟨by decide +kernel, rfl⟩
set_option maxRecDepth 100000 in
set_option maxHeartbeats 4000000 in
theorem g_X7_weigh_L11 (l : Launch) (G : xa_C) (c0 c1 c2 : Int) (K : (Int × Int × Int × Int × xa_H) ⊕ (Int × Int × Int × xa_H) → Option xa_O) (hb : ∀ (v3 : Int) (v4 : Int) (v5 : Int) (v6 : Int) (h : xa_H), xa_G l G 5 mX7_weigh (some (Sum.inl ((v3, v4, v5, v6, h)))) K 11 [some (xR c0), some (xR c1), some (xR c2), some (xI v3), some (xI v4), some (xI v5), some (xI v6), none, none] [] h) (hx : ∀ (v3 : Int) (v4 : Int) (v5 : Int) (h : xa_H), xa_G l G 5 mX7_weigh (some (Sum.inr ((v3, v4, v5, h)))) K 172 [some (xR c0), none, none, some (xI v3), some (xI v4), some (xI v5), none, none, none] [] h) : ∀ (v3 : Int) (v4 : Int) (v5 : Int) (v6 : Int) (h : xa_H), xa_G l G 5 mX7_weigh (f_X7_weigh_L11 c0 c1 c2 v3 v4 v5 v6 h) K 11 [some (xR c0), some (xR c1), some (xR c2), some (xI v3), some (xI v4), some (xI v5), some (xI v6), none, none] [] h := by
  intro v3 v4 v5 v6 h
  unfold f_X7_weigh_L11
  refine xa_step (xa_iload d_X7_weigh_11 rfl) ?_
  refine xa_step (xa_aload_n d_X7_weigh_13 rfl) ?_
  refine xa_getf xI xc_7 (by decide) (fun _ => rfl) xw_480 rfl d_X7_weigh_14 (fun x1 _ => ?_)
  refine xa_if (xa_icmpge d_X7_weigh_17) (fun q2 => ?_) (fun q2 => ?_)
  · refine xa_step (xa_aload_n d_X7_weigh_20 rfl) ?_
    refine xa_getf xR xc_7 (by decide) (fun _ => rfl) xw_478 rfl d_X7_weigh_21 (fun x3 _ => ?_)
    refine xa_step (xa_iload d_X7_weigh_24 rfl) ?_
    refine xa_iaload d_X7_weigh_26 (fun x4 _ => ?_)
    refine xa_step (xa_istore (ls' := [some (xR c0), some (xR c1), some (xR c2), some (xI v3), some (xI v4), some (xI v5), some (xI v6), some (xI x4), none]) d_X7_weigh_27 (by decide) rfl) ?_
    refine xa_step (xa_aload_n d_X7_weigh_29 rfl) ?_
    refine xa_step (xa_iload d_X7_weigh_30 rfl) ?_
    refine xa_step (xa_aload_n d_X7_weigh_32 rfl) ?_
    refine xa_step (xa_aload_n d_X7_weigh_33 rfl) ?_
    refine xa_callVV (as := [xI v6, xR c1, xR c2]) (st := []) (M' := mX7_findFacts) (d' := 3) rfl xw_966 xw_968 xw_37 xw_969 xw_173 xh_X7_findFacts rfl ⟨Nat.le_of_ble_eq_true rfl, Nat.le_of_ble_eq_true rfl⟩ (Nat.le_of_ble_eq_true rfl) rfl d_X7_weigh_34 (fun r hr => ct_X7_findFacts l G c0 v6 c1 c2 h r hr) (fun r5 _ => ?_)
    refine xa_step (xa_iload_n d_X7_weigh_37 rfl) ?_
    refine xa_step (xa_iconst d_X7_weigh_38 xq_i_m1) ?_
    refine xa_if (xa_icmpne d_X7_weigh_39) (fun q6 => ?_) (fun q6 => ?_)
    · refine xa_step (xa_aload_n d_X7_weigh_42 rfl) ?_
      refine xa_step (xa_iload d_X7_weigh_43 rfl) ?_
      refine xa_step (xa_aload_n d_X7_weigh_45 rfl) ?_
      refine xa_getf xR xc_7 (by decide) (fun _ => rfl) xw_478 rfl d_X7_weigh_46 (fun x7 _ => ?_)
      refine xa_step (xa_aload_n d_X7_weigh_49 rfl) ?_
      refine xa_step (xa_iload d_X7_weigh_50 rfl) ?_
      refine xa_callVi (as := [xI v6]) (st := [xR x7, xI x4, xR c1]) (M' := mX7_behind) (d' := 2) rfl xw_975 xw_977 xw_39 xw_978 xw_173 xh_X7_behind rfl ⟨Nat.le_of_ble_eq_true rfl, Nat.le_of_ble_eq_true rfl⟩ (Nat.le_of_ble_eq_true rfl) rfl d_X7_weigh_52 (fun r hr => ct_X7_behind l G c0 v6 r5 r hr) (fun r8 _ => ?_)
      refine xa_iaload d_X7_weigh_55 (fun x9 _ => ?_)
      refine xa_callVi (as := [xI x4, xI x9]) (st := []) (M' := mX0_areFeuding) (d' := 2) rfl xw_979 xw_763 xw_764 xw_765 xw_169 xh_X0_areFeuding rfl ⟨Nat.le_of_ble_eq_true rfl, Nat.le_of_ble_eq_true rfl⟩ (Nat.le_of_ble_eq_true rfl) rfl d_X7_weigh_56 (fun r hr => ct_X0_areFeuding l G c1 x4 x9 r5 r hr) (fun r10 _ => ?_)
      refine xa_if (xa_ifeq d_X7_weigh_59) (fun q11 => ?_) (fun q11 => ?_)
      · exact xa_weak (ls' := [some (xR c0), some (xR c1), some (xR c2), some (xI v3), some (xI v4), some (xI v5), some (xI v6), some (xI x4), none]) ⟨rfl, rfl, rfl, rfl, rfl, rfl, rfl, rfl, trivial⟩ (g_X7_weigh_J65L11 l G c0 c1 c2 K hb hx v3 v4 v5 v6 x4 r5)
      · refine xa_step (xa_iload d_X7_weigh_62 rfl) ?_
        refine xa_step (xa_istore_n (ls' := [some (xR c0), some (xR c1), some (xR c2), some (xI x4), some (xI v4), some (xI v5), some (xI v6), some (xI x4), none]) d_X7_weigh_64 (by decide) rfl) ?_
        exact xa_weak (ls' := [some (xR c0), some (xR c1), some (xR c2), some (xI x4), some (xI v4), some (xI v5), some (xI v6), some (xI x4), none]) ⟨rfl, rfl, rfl, rfl, rfl, rfl, rfl, rfl, trivial⟩ (g_X7_weigh_J65L11 l G c0 c1 c2 K hb hx x4 v4 v5 v6 x4 r5)
    · exact xa_weak (ls' := [some (xR c0), some (xR c1), some (xR c2), some (xI v3), some (xI v4), some (xI v5), some (xI v6), some (xI x4), none]) ⟨rfl, rfl, rfl, rfl, rfl, rfl, rfl, rfl, trivial⟩ (g_X7_weigh_J65L11 l G c0 c1 c2 K hb hx v3 v4 v5 v6 x4 r5)
  · exact xa_weak (ls' := [some (xR c0), none, none, some (xI v3), some (xI v4), some (xI v5), none, none, none]) ⟨rfl, rfl, rfl, rfl, trivial⟩ (hx v3 v4 v5 h)
theorem d_X7_weigh_172 : decode mX7_weigh.1 172 = .ok (.aload_n 0, 1) ∧ 172 + 1 = 173 := ⟨by decide +kernel, rfl⟩
theorem d_X7_weigh_173 : decode mX7_weigh.1 173 = .ok (.iload_n 3, 1) ∧ 173 + 1 = 174 := ⟨by decide +kernel, rfl⟩
theorem d_X7_weigh_174 : decode mX7_weigh.1 174 = .ok (.iload 4, 2) ∧ 174 + 2 = 176 := ⟨by decide +kernel, rfl⟩
theorem d_X7_weigh_176 : decode mX7_weigh.1 176 = .ok (.iload 5, 2) ∧ 176 + 2 = 178 := ⟨by decide +kernel, rfl⟩
theorem d_X7_weigh_178 : decode mX7_weigh.1 178 = .ok (.invokevirtual 74, 3) ∧ 178 + 3 = 181 := ⟨by decide +kernel, rfl⟩
theorem d_X7_weigh_181 : decode mX7_weigh.1 181 = .ok (.return_, 1) := by decide +kernel
set_option maxRecDepth 100000 in
set_option maxHeartbeats 4000000 in
theorem g_X7_weigh (l : Launch) (G : xa_C) (v0 v1 v2 : Int) (h : xa_H) : xa_G l G 5 mX7_weigh (f_X7_weigh v0 v1 v2 h) (fun r => some (none, r) : xa_H → Option xa_O) 0 [some (xR v0), some (xR v1), some (xR v2), none, none, none, none, none, none] [] h := by
  unfold f_X7_weigh
  refine xa_step (xa_iconst d_X7_weigh_0 xq_i_m1) ?_
  refine xa_step (xa_istore_n (ls' := [some (xR v0), some (xR v1), some (xR v2), some (xI ((-1))), none, none, none, none, none]) d_X7_weigh_1 (by decide) rfl) ?_
  refine xa_step (xa_iconst d_X7_weigh_2 xq_i_m1) ?_
  refine xa_step (xa_istore (ls' := [some (xR v0), some (xR v1), some (xR v2), some (xI ((-1))), some (xI ((-1))), none, none, none, none]) d_X7_weigh_3 (by decide) rfl) ?_
  refine xa_step (xa_iconst d_X7_weigh_5 xq_i_m1) ?_
  refine xa_step (xa_istore (ls' := [some (xR v0), some (xR v1), some (xR v2), some (xI ((-1))), some (xI ((-1))), some (xI ((-1))), none, none, none]) d_X7_weigh_6 (by decide) rfl) ?_
  refine xa_step (xa_iconst d_X7_weigh_8 xq_i_0) ?_
  refine xa_step (xa_istore (ls' := [some (xR v0), some (xR v1), some (xR v2), some (xI ((-1))), some (xI ((-1))), some (xI ((-1))), some (xI 0), none, none]) d_X7_weigh_9 (by decide) rfl) ?_
  refine xa_weak (ls' := [some (xR v0), some (xR v1), some (xR v2), some (xI ((-1))), some (xI ((-1))), some (xI ((-1))), some (xI 0), none, none]) ⟨rfl, rfl, rfl, rfl, rfl, rfl, rfl, trivial⟩ ?_
  refine xa_loop (f := fun s => f_X7_weigh_L11 v0 v1 v2 s.1 s.2.1 s.2.2.1 s.2.2.2.1 s.2.2.2.2) (L := fun s => [some (xR v0), some (xR v1), some (xR v2), some (xI s.1), some (xI s.2.1), some (xI s.2.2.1), some (xI s.2.2.2.1), none, none]) (P := fun s => s.2.2.2.2) (X := (fun x K => xa_G l G 5 mX7_weigh (some (Sum.inr x)) K 172 [some (xR v0), none, none, some (xI x.1), some (xI x.2.1), some (xI x.2.2.1), none, none, none] [] x.2.2.2)) (fun K hb hX s => g_X7_weigh_L11 l G v0 v1 v2 K (fun w0 w1 w2 w3 hh => hb ((w0, w1, w2, w3, hh))) (fun w0 w1 w2 hh => hX ((w0, w1, w2, hh))) s.1 s.2.1 s.2.2.1 s.2.2.2.1 s.2.2.2.2) ?_ xFU (((-1), (-1), (-1), 0, h))
  intro e34 K hK
  refine xa_eqE hK ?_
  show xa_G l G 5 mX7_weigh _ _ 172 [some (xR v0), none, none, some (xI e34.1), some (xI e34.2.1), some (xI e34.2.2.1), none, none, none] [] e34.2.2.2
  refine xa_step (xa_aload_n d_X7_weigh_172 rfl) ?_
  refine xa_step (xa_iload_n d_X7_weigh_173 rfl) ?_
  refine xa_step (xa_iload d_X7_weigh_174 rfl) ?_
  refine xa_step (xa_iload d_X7_weigh_176 rfl) ?_
  refine xa_callVV (as := [xI e34.1, xI e34.2.1, xI e34.2.2.1]) (st := []) (M' := mX7_decide) (d' := 2) rfl xw_1010 xw_1012 xw_40 xw_1013 xw_173 xh_X7_decide rfl ⟨Nat.le_of_ble_eq_true rfl, Nat.le_of_ble_eq_true rfl⟩ (Nat.le_of_ble_eq_true rfl) rfl d_X7_weigh_178 (fun r hr => ct_X7_decide l G v0 e34.1 e34.2.1 e34.2.2.1 e34.2.2.2 r hr) (fun r35 _ => ?_)
  exact xa_vret d_X7_weigh_181 rfl rfl
theorem ct_X7_weigh (l : Launch) (G : xa_C) (v0 v1 v2 : Int) (h : xa_H) (r : xa_H) (hr : f_X7_weigh v0 v1 v2 h = some r) : xa_CT l G 5 mX7_weigh yX7_weigh [xR v0, xR v1, xR v2] h (none, r) :=
  xa_met (by decide +kernel) rfl (fun q => by first | rfl | cases q) (Nat.le_of_ble_eq_true rfl) rfl (g_X7_weigh l G v0 v1 v2 h) (by rw [hr]; rfl)
abbrev mX11_drawRing : xa_M := (cX11_drawRing, 3, none, RX11, false)
theorem d_X11_drawRing_0 : decode mX11_drawRing.1 0 = .ok (.aload_n 0, 1) ∧ 0 + 1 = 1 := ⟨by decide +kernel, rfl⟩
theorem d_X11_drawRing_1 : decode mX11_drawRing.1 1 = .ok (.aload_n 0, 1) ∧ 1 + 1 = 2 := ⟨by decide +kernel, rfl⟩
theorem d_X11_drawRing_2 : decode mX11_drawRing.1 2 = .ok (.getfield 47, 3) ∧ 2 + 3 = 5 := ⟨by decide +kernel, rfl⟩
theorem d_X11_drawRing_5 : decode mX11_drawRing.1 5 = .ok (.getfield 146, 3) ∧ 5 + 3 = 8 := ⟨by decide +kernel, rfl⟩
theorem d_X11_drawRing_8 : decode mX11_drawRing.1 8 = .ok (.invokevirtual 388, 3) ∧ 8 + 3 = 11 := ⟨by decide +kernel, rfl⟩
theorem d_X11_drawRing_11 : decode mX11_drawRing.1 11 = .ok (.istore_n 1, 1) ∧ 11 + 1 = 12 := ⟨by decide +kernel, rfl⟩
theorem d_X11_drawRing_12 : decode mX11_drawRing.1 12 = .ok (.aload_n 0, 1) ∧ 12 + 1 = 13 := ⟨by decide +kernel, rfl⟩
theorem d_X11_drawRing_13 : decode mX11_drawRing.1 13 = .ok (.aload_n 0, 1) ∧ 13 + 1 = 14 := ⟨by decide +kernel, rfl⟩
theorem d_X11_drawRing_14 : decode mX11_drawRing.1 14 = .ok (.getfield 47, 3) ∧ 14 + 3 = 17 := ⟨by decide +kernel, rfl⟩
theorem d_X11_drawRing_17 : decode mX11_drawRing.1 17 = .ok (.getfield 146, 3) ∧ 17 + 3 = 20 := ⟨by decide +kernel, rfl⟩
theorem d_X11_drawRing_20 : decode mX11_drawRing.1 20 = .ok (.iconst 1, 1) ∧ 20 + 1 = 21 := ⟨by decide +kernel, rfl⟩
theorem d_X11_drawRing_21 : decode mX11_drawRing.1 21 = .ok (.isub, 1) ∧ 21 + 1 = 22 := ⟨by decide +kernel, rfl⟩
theorem d_X11_drawRing_22 : decode mX11_drawRing.1 22 = .ok (.invokevirtual 388, 3) ∧ 22 + 3 = 25 := ⟨by decide +kernel, rfl⟩
theorem d_X11_drawRing_25 : decode mX11_drawRing.1 25 = .ok (.istore_n 2, 1) ∧ 25 + 1 = 26 := ⟨by decide +kernel, rfl⟩
theorem d_X11_drawRing_26 : decode mX11_drawRing.1 26 = .ok (.aload_n 0, 1) ∧ 26 + 1 = 27 := ⟨by decide +kernel, rfl⟩
theorem d_X11_drawRing_27 : decode mX11_drawRing.1 27 = .ok (.getfield 72, 3) ∧ 27 + 3 = 30 := ⟨by decide +kernel, rfl⟩
theorem d_X11_drawRing_30 : decode mX11_drawRing.1 30 = .ok (.iconst 2, 1) ∧ 30 + 1 = 31 := ⟨by decide +kernel, rfl⟩
theorem d_X11_drawRing_31 : decode mX11_drawRing.1 31 = .ok (.putfield 143, 3) ∧ 31 + 3 = 34 := ⟨by decide +kernel, rfl⟩
theorem d_X11_drawRing_34 : decode mX11_drawRing.1 34 = .ok (.aload_n 0, 1) ∧ 34 + 1 = 35 := ⟨by decide +kernel, rfl⟩
theorem d_X11_drawRing_35 : decode mX11_drawRing.1 35 = .ok (.getfield 72, 3) ∧ 35 + 3 = 38 := ⟨by decide +kernel, rfl⟩
theorem d_X11_drawRing_38 : decode mX11_drawRing.1 38 = .ok (.getfield 378, 3) ∧ 38 + 3 = 41 := ⟨by decide +kernel, rfl⟩
theorem d_X11_drawRing_41 : decode mX11_drawRing.1 41 = .ok (.iconst 0, 1) ∧ 41 + 1 = 42 := ⟨by decide +kernel, rfl⟩
theorem d_X11_drawRing_42 : decode mX11_drawRing.1 42 = .ok (.iload_n 1, 1) ∧ 42 + 1 = 43 := ⟨by decide +kernel, rfl⟩
theorem d_X11_drawRing_43 : decode mX11_drawRing.1 43 = .ok (.iastore, 1) ∧ 43 + 1 = 44 := ⟨by decide +kernel, rfl⟩
theorem d_X11_drawRing_44 : decode mX11_drawRing.1 44 = .ok (.aload_n 0, 1) ∧ 44 + 1 = 45 := ⟨by decide +kernel, rfl⟩
theorem d_X11_drawRing_45 : decode mX11_drawRing.1 45 = .ok (.getfield 72, 3) ∧ 45 + 3 = 48 := ⟨by decide +kernel, rfl⟩
theorem d_X11_drawRing_48 : decode mX11_drawRing.1 48 = .ok (.getfield 378, 3) ∧ 48 + 3 = 51 := ⟨by decide +kernel, rfl⟩
theorem d_X11_drawRing_51 : decode mX11_drawRing.1 51 = .ok (.iconst 1, 1) ∧ 51 + 1 = 52 := ⟨by decide +kernel, rfl⟩
theorem d_X11_drawRing_52 : decode mX11_drawRing.1 52 = .ok (.iload_n 2, 1) ∧ 52 + 1 = 53 := ⟨by decide +kernel, rfl⟩
theorem d_X11_drawRing_53 : decode mX11_drawRing.1 53 = .ok (.iload_n 1, 1) ∧ 53 + 1 = 54 := ⟨by decide +kernel, rfl⟩
theorem d_X11_drawRing_54 : decode mX11_drawRing.1 54 = .ok (.if_icmp .ge 7, 3) ∧ 54 + 3 = 57 ∧ ((54 : Nat) : Int) + 7 = ((61 : Nat) : Int) := ⟨by decide +kernel, rfl, rfl⟩
theorem d_X11_drawRing_57 : decode mX11_drawRing.1 57 = .ok (.iload_n 2, 1) ∧ 57 + 1 = 58 := ⟨by decide +kernel, rfl⟩
theorem d_X11_drawRing_58 : decode mX11_drawRing.1 58 = .ok (.goto 6, 3) ∧ ((58 : Nat) : Int) + 6 = ((64 : Nat) : Int) := ⟨by decide +kernel, rfl⟩
theorem d_X11_drawRing_64 : decode mX11_drawRing.1 64 = .ok (.iastore, 1) ∧ 64 + 1 = 65 := ⟨by decide +kernel, rfl⟩
theorem d_X11_drawRing_65 : decode mX11_drawRing.1 65 = .ok (.aload_n 0, 1) ∧ 65 + 1 = 66 := ⟨by decide +kernel, rfl⟩
theorem d_X11_drawRing_66 : decode mX11_drawRing.1 66 = .ok (.bipush 100, 2) ∧ 66 + 2 = 68 := ⟨by decide +kernel, rfl⟩
theorem d_X11_drawRing_68 : decode mX11_drawRing.1 68 = .ok (.invokevirtual 388, 3) ∧ 68 + 3 = 71 := ⟨by decide +kernel, rfl⟩
theorem d_X11_drawRing_71 : decode mX11_drawRing.1 71 = .ok (.aload_n 0, 1) ∧ 71 + 1 = 72 := ⟨by decide +kernel, rfl⟩
theorem d_X11_drawRing_72 : decode mX11_drawRing.1 72 = .ok (.getfield 47, 3) ∧ 72 + 3 = 75 := ⟨by decide +kernel, rfl⟩
theorem d_X11_drawRing_75 : decode mX11_drawRing.1 75 = .ok (.getfield 164, 3) ∧ 75 + 3 = 78 := ⟨by decide +kernel, rfl⟩
theorem d_X11_drawRing_78 : decode mX11_drawRing.1 78 = .ok (.if_icmp .ge 14, 3) ∧ 78 + 3 = 81 ∧ ((78 : Nat) : Int) + 14 = ((92 : Nat) : Int) := ⟨by decide +kernel, rfl, rfl⟩
theorem d_X11_drawRing_81 : decode mX11_drawRing.1 81 = .ok (.aload_n 0, 1) ∧ 81 + 1 = 82 := ⟨by decide +kernel, rfl⟩
theorem d_X11_drawRing_82 : decode mX11_drawRing.1 82 = .ok (.getfield 72, 3) ∧ 82 + 3 = 85 := ⟨by decide +kernel, rfl⟩
theorem d_X11_drawRing_85 : decode mX11_drawRing.1 85 = .ok (.iconst 4, 1) ∧ 85 + 1 = 86 := ⟨by decide +kernel, rfl⟩
theorem d_X11_drawRing_86 : decode mX11_drawRing.1 86 = .ok (.putfield 249, 3) ∧ 86 + 3 = 89 := ⟨by decide +kernel, rfl⟩
theorem d_X11_drawRing_89 : decode mX11_drawRing.1 89 = .ok (.goto 18, 3) ∧ ((89 : Nat) : Int) + 18 = ((107 : Nat) : Int) := ⟨by decide +kernel, rfl⟩
theorem d_X11_drawRing_107 : decode mX11_drawRing.1 107 = .ok (.aload_n 0, 1) ∧ 107 + 1 = 108 := ⟨by decide +kernel, rfl⟩
theorem d_X11_drawRing_108 : decode mX11_drawRing.1 108 = .ok (.invokevirtual 328, 3) ∧ 108 + 3 = 111 := ⟨by decide +kernel, rfl⟩
theorem d_X11_drawRing_111 : decode mX11_drawRing.1 111 = .ok (.return_, 1) := by decide +kernel
set_option maxRecDepth 100000 in
set_option maxHeartbeats 4000000 in
theorem g_X11_drawRing_J107 (l : Launch) (G : xa_C) : ∀ (v0 : Int) (h : xa_H) , xa_G l G 6 mX11_drawRing (f_X11_drawRing_J107 v0 h) (fun r => some (none, r) : xa_H → Option xa_O) 107 [some (xR v0), none, none] [] h := by
  intro v0 h
  unfold f_X11_drawRing_J107
  refine xa_step (xa_aload_n d_X11_drawRing_107 rfl) ?_
  refine xa_callVV (as := []) (st := []) (M' := mX11_closeRing) (d' := 4) rfl xw_1195 xw_1197 xw_55 xw_1198 xw_161 xh_X11_closeRing rfl ⟨Nat.le_of_ble_eq_true rfl, Nat.le_of_ble_eq_true rfl⟩ (Nat.le_of_ble_eq_true rfl) rfl d_X11_drawRing_108 (fun r hr => ct_X11_closeRing l G v0 h r hr) (fun r22 _ => ?_)
  exact xa_vret d_X11_drawRing_111 rfl rfl
theorem d_X11_drawRing_92 : decode mX11_drawRing.1 92 = .ok (.aload_n 0, 1) ∧ 92 + 1 = 93 := ⟨by decide +kernel, rfl⟩
theorem d_X11_drawRing_93 : decode mX11_drawRing.1 93 = .ok (.getfield 72, 3) ∧ 93 + 3 = 96 := ⟨by decide +kernel, rfl⟩
theorem d_X11_drawRing_96 : decode mX11_drawRing.1 96 = .ok (.aload_n 0, 1) ∧ 96 + 1 = 97 := ⟨by decide +kernel, rfl⟩
theorem d_X11_drawRing_97 : decode mX11_drawRing.1 97 = .ok (.getfield 47, 3) ∧ 97 + 3 = 100 := ⟨by decide +kernel, rfl⟩
theorem d_X11_drawRing_100 : decode mX11_drawRing.1 100 = .ok (.aload_n 0, 1) ∧ 100 + 1 = 101 := ⟨by decide +kernel, rfl⟩
theorem d_X11_drawRing_101 : decode mX11_drawRing.1 101 = .ok (.getfield 54, 3) ∧ 101 + 3 = 104 := ⟨by decide +kernel, rfl⟩
theorem d_X11_drawRing_104 : decode mX11_drawRing.1 104 = .ok (.invokevirtual 245, 3) ∧ 104 + 3 = 107 := ⟨by decide +kernel, rfl⟩
set_option maxRecDepth 100000 in
set_option maxHeartbeats 4000000 in
theorem g_X11_drawRing_J64 (l : Launch) (G : xa_C) : ∀ (v0 s0 s1 s2 : Int) (h : xa_H) , xa_G l G 6 mX11_drawRing (f_X11_drawRing_J64 v0 s0 s1 s2 h) (fun r => some (none, r) : xa_H → Option xa_O) 64 [some (xR v0), none, none] [xI s2, xI s1, xR s0] h := by
  intro v0 s0 s1 s2 h
  unfold f_X11_drawRing_J64
  refine xa_iastore2 d_X11_drawRing_64 (fun h15 _ => ?_)
  refine xa_step (xa_aload_n d_X11_drawRing_65 rfl) ?_
  refine xa_step (xa_bipush d_X11_drawRing_66 xq_b_100) ?_
  refine xa_callVI (as := [xI 100]) (st := []) (M' := mX11_draw) (d' := 2) rfl xw_1219 xw_1221 xw_57 xw_1222 xw_161 xh_X11_draw rfl ⟨Nat.le_of_ble_eq_true rfl, Nat.le_of_ble_eq_true rfl⟩ (Nat.le_of_ble_eq_true rfl) rfl d_X11_drawRing_68 (fun r hr => ct_X11_draw l G v0 100 h15 r hr) (fun r16 _ => ?_)
  refine xa_step (xa_aload_n d_X11_drawRing_71 rfl) ?_
  refine xa_getf xR xc_11 (by decide) (fun _ => rfl) xw_589 rfl d_X11_drawRing_72 (fun x17 _ => ?_)
  refine xa_getf xI xc_0 (by decide) (fun _ => rfl) xw_396 rfl d_X11_drawRing_75 (fun x18 _ => ?_)
  refine xa_if (xa_icmpge d_X11_drawRing_78) (fun q19 => ?_) (fun q19 => ?_)
  · refine xa_step (xa_aload_n d_X11_drawRing_81 rfl) ?_
    refine xa_getf xR xc_11 (by decide) (fun _ => rfl) xw_593 rfl d_X11_drawRing_82 (fun x20 _ => ?_)
    refine xa_step (xa_iconst d_X11_drawRing_85 xq_i_4) ?_
    refine xa_putf2 (tg := xI) xc_7 (by decide) (fun _ => rfl) rfl (fun c hc => xa_fitI c hc) xw_483 rfl d_X11_drawRing_86 (fun h21 _ => ?_)
    refine xa_step (xa_goto d_X11_drawRing_89) ?_
    exact xa_weak (ls' := [some (xR v0), none, none]) ⟨rfl, trivial⟩ (g_X11_drawRing_J107 l G v0 h21)
  · refine xa_step (xa_aload_n d_X11_drawRing_92 rfl) ?_
    refine xa_getf xR xc_11 (by decide) (fun _ => rfl) xw_593 rfl d_X11_drawRing_93 (fun x23 _ => ?_)
    refine xa_step (xa_aload_n d_X11_drawRing_96 rfl) ?_
    refine xa_getf xR xc_11 (by decide) (fun _ => rfl) xw_589 rfl d_X11_drawRing_97 (fun x24 _ => ?_)
    refine xa_step (xa_aload_n d_X11_drawRing_100 rfl) ?_
    refine xa_getf xR xc_11 (by decide) (fun _ => rfl) xw_590 rfl d_X11_drawRing_101 (fun x25 _ => ?_)
    refine xa_callVV (as := [xR x24, xR x25]) (st := []) (M' := mX7_weigh) (d' := 5) rfl xw_962 xw_963 xw_964 xw_965 xw_173 xh_X7_weigh rfl ⟨Nat.le_of_ble_eq_true rfl, Nat.le_of_ble_eq_true rfl⟩ (Nat.le_of_ble_eq_true rfl) rfl d_X11_drawRing_104 (fun r hr => ct_X7_weigh l G x23 x24 x25 r16.2 r hr) (fun r26 _ => ?_)
    exact xa_weak (ls' := [some (xR v0), none, none]) ⟨rfl, trivial⟩ (g_X11_drawRing_J107 l G v0 r26)
theorem d_X11_drawRing_61 : decode mX11_drawRing.1 61 = .ok (.iload_n 2, 1) ∧ 61 + 1 = 62 := ⟨by decide +kernel, rfl⟩
theorem d_X11_drawRing_62 : decode mX11_drawRing.1 62 = .ok (.iconst 1, 1) ∧ 62 + 1 = 63 := ⟨by decide +kernel, rfl⟩
theorem d_X11_drawRing_63 : decode mX11_drawRing.1 63 = .ok (.iadd, 1) ∧ 63 + 1 = 64 := ⟨by decide +kernel, rfl⟩
set_option maxRecDepth 100000 in
set_option maxHeartbeats 4000000 in
theorem g_X11_drawRing (l : Launch) (G : xa_C) (v0 : Int) (h : xa_H) : xa_G l G 6 mX11_drawRing (f_X11_drawRing v0 h) (fun r => some (none, r) : xa_H → Option xa_O) 0 [some (xR v0), none, none] [] h := by
  unfold f_X11_drawRing
  refine xa_step (xa_aload_n d_X11_drawRing_0 rfl) ?_
  refine xa_step (xa_aload_n d_X11_drawRing_1 rfl) ?_
  refine xa_getf xR xc_11 (by decide) (fun _ => rfl) xw_589 rfl d_X11_drawRing_2 (fun x1 _ => ?_)
  refine xa_getf xI xc_0 (by decide) (fun _ => rfl) xw_391 rfl d_X11_drawRing_5 (fun x2 _ => ?_)
  refine xa_callVI (as := [xI x2]) (st := []) (M' := mX11_draw) (d' := 2) rfl xw_1219 xw_1221 xw_57 xw_1222 xw_161 xh_X11_draw rfl ⟨Nat.le_of_ble_eq_true rfl, Nat.le_of_ble_eq_true rfl⟩ (Nat.le_of_ble_eq_true rfl) rfl d_X11_drawRing_8 (fun r hr => ct_X11_draw l G v0 x2 h r hr) (fun r3 _ => ?_)
  refine xa_step (xa_istore_n (ls' := [some (xR v0), some (xI r3.1), none]) d_X11_drawRing_11 (by decide) rfl) ?_
  refine xa_step (xa_aload_n d_X11_drawRing_12 rfl) ?_
  refine xa_step (xa_aload_n d_X11_drawRing_13 rfl) ?_
  refine xa_getf xR xc_11 (by decide) (fun _ => rfl) xw_589 rfl d_X11_drawRing_14 (fun x4 _ => ?_)
  refine xa_getf xI xc_0 (by decide) (fun _ => rfl) xw_391 rfl d_X11_drawRing_17 (fun x5 _ => ?_)
  refine xa_step (xa_iconst d_X11_drawRing_20 xq_i_1) ?_
  refine xa_step (xa_isub d_X11_drawRing_21) ?_
  refine xa_callVI (as := [xI (w32 (x5 - 1))]) (st := []) (M' := mX11_draw) (d' := 2) rfl xw_1219 xw_1221 xw_57 xw_1222 xw_161 xh_X11_draw rfl ⟨Nat.le_of_ble_eq_true rfl, Nat.le_of_ble_eq_true rfl⟩ (Nat.le_of_ble_eq_true rfl) rfl d_X11_drawRing_22 (fun r hr => ct_X11_draw l G v0 (w32 (x5 - 1)) r3.2 r hr) (fun r6 _ => ?_)
  refine xa_step (xa_istore_n (ls' := [some (xR v0), some (xI r3.1), some (xI r6.1)]) d_X11_drawRing_25 (by decide) rfl) ?_
  refine xa_step (xa_aload_n d_X11_drawRing_26 rfl) ?_
  refine xa_getf xR xc_11 (by decide) (fun _ => rfl) xw_593 rfl d_X11_drawRing_27 (fun x7 _ => ?_)
  refine xa_step (xa_iconst d_X11_drawRing_30 xq_i_2) ?_
  refine xa_putf2 (tg := xI) xc_7 (by decide) (fun _ => rfl) rfl (fun c hc => xa_fitI c hc) xw_481 rfl d_X11_drawRing_31 (fun h8 _ => ?_)
  refine xa_step (xa_aload_n d_X11_drawRing_34 rfl) ?_
  refine xa_getf xR xc_11 (by decide) (fun _ => rfl) xw_593 rfl d_X11_drawRing_35 (fun x9 _ => ?_)
  refine xa_getf xR xc_7 (by decide) (fun _ => rfl) xw_479 rfl d_X11_drawRing_38 (fun x10 _ => ?_)
  refine xa_step (xa_iconst d_X11_drawRing_41 xq_i_0) ?_
  refine xa_step (xa_iload_n d_X11_drawRing_42 rfl) ?_
  refine xa_iastore2 d_X11_drawRing_43 (fun h11 _ => ?_)
  refine xa_step (xa_aload_n d_X11_drawRing_44 rfl) ?_
  refine xa_getf xR xc_11 (by decide) (fun _ => rfl) xw_593 rfl d_X11_drawRing_45 (fun x12 _ => ?_)
  refine xa_getf xR xc_7 (by decide) (fun _ => rfl) xw_479 rfl d_X11_drawRing_48 (fun x13 _ => ?_)
  refine xa_step (xa_iconst d_X11_drawRing_51 xq_i_1) ?_
  refine xa_step (xa_iload_n d_X11_drawRing_52 rfl) ?_
  refine xa_step (xa_iload_n d_X11_drawRing_53 rfl) ?_
  refine xa_if (xa_icmpge d_X11_drawRing_54) (fun q14 => ?_) (fun q14 => ?_)
  · refine xa_step (xa_iload_n d_X11_drawRing_57 rfl) ?_
    refine xa_step (xa_goto d_X11_drawRing_58) ?_
    exact xa_weak (ls' := [some (xR v0), none, none]) ⟨rfl, trivial⟩ (g_X11_drawRing_J64 l G v0 x13 1 r6.1 h11)
  · refine xa_step (xa_iload_n d_X11_drawRing_61 rfl) ?_
    refine xa_step (xa_iconst d_X11_drawRing_62 xq_i_1) ?_
    refine xa_step (xa_iadd d_X11_drawRing_63) ?_
    exact xa_weak (ls' := [some (xR v0), none, none]) ⟨rfl, trivial⟩ (g_X11_drawRing_J64 l G v0 x13 1 (w32 (r6.1 + 1)) h11)
theorem ct_X11_drawRing (l : Launch) (G : xa_C) (v0 : Int) (h : xa_H) (r : xa_H) (hr : f_X11_drawRing v0 h = some r) : xa_CT l G 6 mX11_drawRing yX11_drawRing [xR v0] h (none, r) :=
  xa_met (by decide +kernel) rfl (fun q => by first | rfl | cases q) (Nat.le_of_ble_eq_true rfl) rfl (g_X11_drawRing l G v0 h) (by rw [hr]; rfl)
abbrev mX11_refuse : xa_M := (cX11_refuse, 2, (some (.int)), RX11, false)
theorem d_X11_refuse_0 : decode mX11_refuse.1 0 = .ok (.aload_n 0, 1) ∧ 0 + 1 = 1 := ⟨by decide +kernel, rfl⟩
theorem d_X11_refuse_1 : decode mX11_refuse.1 1 = .ok (.getfield 108, 3) ∧ 1 + 3 = 4 := ⟨by decide +kernel, rfl⟩
theorem d_X11_refuse_4 : decode mX11_refuse.1 4 = .ok (.iload_n 1, 1) ∧ 4 + 1 = 5 := ⟨by decide +kernel, rfl⟩
theorem d_X11_refuse_5 : decode mX11_refuse.1 5 = .ok (.dup2, 1) ∧ 5 + 1 = 6 := ⟨by decide +kernel, rfl⟩
theorem d_X11_refuse_6 : decode mX11_refuse.1 6 = .ok (.iaload, 1) ∧ 6 + 1 = 7 := ⟨by decide +kernel, rfl⟩
theorem d_X11_refuse_7 : decode mX11_refuse.1 7 = .ok (.iconst 1, 1) ∧ 7 + 1 = 8 := ⟨by decide +kernel, rfl⟩
theorem d_X11_refuse_8 : decode mX11_refuse.1 8 = .ok (.iadd, 1) ∧ 8 + 1 = 9 := ⟨by decide +kernel, rfl⟩
theorem d_X11_refuse_9 : decode mX11_refuse.1 9 = .ok (.iastore, 1) ∧ 9 + 1 = 10 := ⟨by decide +kernel, rfl⟩
theorem d_X11_refuse_10 : decode mX11_refuse.1 10 = .ok (.iconst (-1), 1) ∧ 10 + 1 = 11 := ⟨by decide +kernel, rfl⟩
theorem d_X11_refuse_11 : decode mX11_refuse.1 11 = .ok (.ireturn, 1) := by decide +kernel
set_option maxRecDepth 100000 in
set_option maxHeartbeats 4000000 in
theorem g_X11_refuse (l : Launch) (G : xa_C) (v0 v1 : Int) (h : xa_H) : xa_G l G 2 mX11_refuse (f_X11_refuse v0 v1 h) (fun r => some (some (xI r.1), r.2) : (Int × xa_H) → Option xa_O) 0 [some (xR v0), some (xI v1)] [] h := by
  unfold f_X11_refuse
  refine xa_step (xa_aload_n d_X11_refuse_0 rfl) ?_
  refine xa_getf xR xc_11 (by decide) (fun _ => rfl) xw_601 rfl d_X11_refuse_1 (fun x1 _ => ?_)
  refine xa_step (xa_iload_n d_X11_refuse_4 rfl) ?_
  refine xa_step (xa_dup2 d_X11_refuse_5 (xa_tI _) (xa_tR _)) ?_
  refine xa_iaload d_X11_refuse_6 (fun x2 _ => ?_)
  refine xa_step (xa_iconst d_X11_refuse_7 xq_i_1) ?_
  refine xa_step (xa_iadd d_X11_refuse_8) ?_
  refine xa_iastore2 d_X11_refuse_9 (fun h3 _ => ?_)
  refine xa_step (xa_iconst d_X11_refuse_10 xq_i_m1) ?_
  exact xa_iret d_X11_refuse_11 rfl rfl
theorem ct_X11_refuse (l : Launch) (G : xa_C) (v0 v1 : Int) (h : xa_H) (r : Int × xa_H) (hr : f_X11_refuse v0 v1 h = some r) : xa_CT l G 2 mX11_refuse yX11_refuse [xR v0, xI v1] h (some (xI r.1), r.2) :=
  xa_met (by decide +kernel) rfl (fun q => by first | rfl | cases q) (Nat.le_of_ble_eq_true rfl) rfl (g_X11_refuse l G v0 v1 h) (by rw [hr]; rfl)
abbrev mX11_end : xa_M := (cX11_end, 2, (some (.boolean)), RX11, false)
theorem d_X11_end_0 : decode mX11_end.1 0 = .ok (.iload_n 1, 1) ∧ 0 + 1 = 1 := ⟨by decide +kernel, rfl⟩
theorem d_X11_end_1 : decode mX11_end.1 1 = .ok (.ifCond .lt 11, 3) ∧ 1 + 3 = 4 ∧ ((1 : Nat) : Int) + 11 = ((12 : Nat) : Int) := ⟨by decide +kernel, rfl, rfl⟩
theorem d_X11_end_12 : decode mX11_end.1 12 = .ok (.aload_n 0, 1) ∧ 12 + 1 = 13 := ⟨by decide +kernel, rfl⟩
theorem d_X11_end_13 : decode mX11_end.1 13 = .ok (.iconst 0, 1) ∧ 13 + 1 = 14 := ⟨by decide +kernel, rfl⟩
theorem d_X11_end_14 : decode mX11_end.1 14 = .ok (.invokevirtual 118, 3) ∧ 14 + 3 = 17 := ⟨by decide +kernel, rfl⟩
theorem d_X11_end_17 : decode mX11_end.1 17 = .ok (.pop, 1) ∧ 17 + 1 = 18 := ⟨by decide +kernel, rfl⟩
theorem d_X11_end_18 : decode mX11_end.1 18 = .ok (.iconst 0, 1) ∧ 18 + 1 = 19 := ⟨by decide +kernel, rfl⟩
theorem d_X11_end_19 : decode mX11_end.1 19 = .ok (.ireturn, 1) := by decide +kernel
set_option maxRecDepth 100000 in
set_option maxHeartbeats 4000000 in
theorem g_X11_end_J12 (l : Launch) (G : xa_C) : ∀ (v0 : Int) (h : xa_H) , xa_G l G 3 mX11_end (f_X11_end_J12 v0 h) (fun r => some (some (xI r.1), r.2) : (Int × xa_H) → Option xa_O) 12 [some (xR v0), none] [] h := by
  intro v0 h
  unfold f_X11_end_J12
  refine xa_step (xa_aload_n d_X11_end_12 rfl) ?_
  refine xa_step (xa_iconst d_X11_end_13 xq_i_0) ?_
  refine xa_callVI (as := [xI 0]) (st := []) (M' := mX11_refuse) (d' := 2) rfl xw_646 xw_648 xw_2 xw_649 xw_161 xh_X11_refuse rfl ⟨Nat.le_of_ble_eq_true rfl, Nat.le_of_ble_eq_true rfl⟩ (Nat.le_of_ble_eq_true rfl) rfl d_X11_end_14 (fun r hr => ct_X11_refuse l G v0 0 h r hr) (fun r2 _ => ?_)
  refine xa_step (xa_pop d_X11_end_17) ?_
  refine xa_step (xa_iconst d_X11_end_18 xq_i_0) ?_
  exact xa_zret d_X11_end_19 rfl (Or.inl rfl) rfl
theorem d_X11_end_4 : decode mX11_end.1 4 = .ok (.iload_n 1, 1) ∧ 4 + 1 = 5 := ⟨by decide +kernel, rfl⟩
theorem d_X11_end_5 : decode mX11_end.1 5 = .ok (.aload_n 0, 1) ∧ 5 + 1 = 6 := ⟨by decide +kernel, rfl⟩
theorem d_X11_end_6 : decode mX11_end.1 6 = .ok (.getfield 13, 3) ∧ 6 + 3 = 9 := ⟨by decide +kernel, rfl⟩
theorem d_X11_end_9 : decode mX11_end.1 9 = .ok (.if_icmp .le 11, 3) ∧ 9 + 3 = 12 ∧ ((9 : Nat) : Int) + 11 = ((20 : Nat) : Int) := ⟨by decide +kernel, rfl, rfl⟩
theorem d_X11_end_20 : decode mX11_end.1 20 = .ok (.aload_n 0, 1) ∧ 20 + 1 = 21 := ⟨by decide +kernel, rfl⟩
theorem d_X11_end_21 : decode mX11_end.1 21 = .ok (.iload_n 1, 1) ∧ 21 + 1 = 22 := ⟨by decide +kernel, rfl⟩
theorem d_X11_end_22 : decode mX11_end.1 22 = .ok (.putfield 13, 3) ∧ 22 + 3 = 25 := ⟨by decide +kernel, rfl⟩
theorem d_X11_end_25 : decode mX11_end.1 25 = .ok (.iconst 1, 1) ∧ 25 + 1 = 26 := ⟨by decide +kernel, rfl⟩
theorem d_X11_end_26 : decode mX11_end.1 26 = .ok (.ireturn, 1) := by decide +kernel
set_option maxRecDepth 100000 in
set_option maxHeartbeats 4000000 in
theorem g_X11_end (l : Launch) (G : xa_C) (v0 v1 : Int) (h : xa_H) : xa_G l G 3 mX11_end (f_X11_end v0 v1 h) (fun r => some (some (xI r.1), r.2) : (Int × xa_H) → Option xa_O) 0 [some (xR v0), some (xI v1)] [] h := by
  unfold f_X11_end
  refine xa_step (xa_iload_n d_X11_end_0 rfl) ?_
  refine xa_if (xa_iflt d_X11_end_1) (fun q1 => ?_) (fun q1 => ?_)
  · exact xa_weak (ls' := [some (xR v0), none]) ⟨rfl, trivial⟩ (g_X11_end_J12 l G v0 h)
  · refine xa_step (xa_iload_n d_X11_end_4 rfl) ?_
    refine xa_step (xa_aload_n d_X11_end_5 rfl) ?_
    refine xa_getf xI xc_11 (by decide) (fun _ => rfl) xw_585 rfl d_X11_end_6 (fun x3 _ => ?_)
    refine xa_if (xa_icmple d_X11_end_9) (fun q4 => ?_) (fun q4 => ?_)
    · exact xa_weak (ls' := [some (xR v0), none]) ⟨rfl, trivial⟩ (g_X11_end_J12 l G v0 h)
    · refine xa_step (xa_aload_n d_X11_end_20 rfl) ?_
      refine xa_step (xa_iload_n d_X11_end_21 rfl) ?_
      refine xa_putf2 (tg := xI) xc_11 (by decide) (fun _ => rfl) rfl (fun c hc => xa_fitI c hc) xw_585 rfl d_X11_end_22 (fun h5 _ => ?_)
      refine xa_step (xa_iconst d_X11_end_25 xq_i_1) ?_
      exact xa_zret d_X11_end_26 rfl (Or.inr rfl) rfl
theorem ct_X11_end (l : Launch) (G : xa_C) (v0 v1 : Int) (h : xa_H) (r : Int × xa_H) (hr : f_X11_end v0 v1 h = some r) : xa_CT l G 3 mX11_end yX11_end [xR v0, xI v1] h (some (xI r.1), r.2) :=
  xa_met (by decide +kernel) rfl (fun q => by first | rfl | cases q) (Nat.le_of_ble_eq_true rfl) rfl (g_X11_end l G v0 v1 h) (by rw [hr]; rfl)
abbrev mX11_fault : xa_M := (cX11_fault, 2, (some (.int)), RX11, false)
theorem d_X11_fault_0 : decode mX11_fault.1 0 = .ok (.iload_n 1, 1) ∧ 0 + 1 = 1 := ⟨by decide +kernel, rfl⟩
theorem d_X11_fault_1 : decode mX11_fault.1 1 = .ok (.lookupswitch 43 #[(0, 27), (1, 35)], 27) := by decide +kernel
theorem d_X11_fault_28 : decode mX11_fault.1 28 = .ok (.aload_n 0, 1) ∧ 28 + 1 = 29 := ⟨by decide +kernel, rfl⟩
theorem d_X11_fault_29 : decode mX11_fault.1 29 = .ok (.getfield 22, 3) ∧ 29 + 3 = 32 := ⟨by decide +kernel, rfl⟩
theorem d_X11_fault_32 : decode mX11_fault.1 32 = .ok (.getfield 155, 3) ∧ 32 + 3 = 35 := ⟨by decide +kernel, rfl⟩
theorem d_X11_fault_35 : decode mX11_fault.1 35 = .ok (.ireturn, 1) := by decide +kernel
theorem d_X11_fault_36 : decode mX11_fault.1 36 = .ok (.aload_n 0, 1) ∧ 36 + 1 = 37 := ⟨by decide +kernel, rfl⟩
theorem d_X11_fault_37 : decode mX11_fault.1 37 = .ok (.getfield 22, 3) ∧ 37 + 3 = 40 := ⟨by decide +kernel, rfl⟩
theorem d_X11_fault_40 : decode mX11_fault.1 40 = .ok (.getfield 158, 3) ∧ 40 + 3 = 43 := ⟨by decide +kernel, rfl⟩
theorem d_X11_fault_43 : decode mX11_fault.1 43 = .ok (.ireturn, 1) := by decide +kernel
theorem d_X11_fault_44 : decode mX11_fault.1 44 = .ok (.iconst (-1), 1) ∧ 44 + 1 = 45 := ⟨by decide +kernel, rfl⟩
theorem d_X11_fault_45 : decode mX11_fault.1 45 = .ok (.ireturn, 1) := by decide +kernel
set_option maxRecDepth 100000 in
set_option maxHeartbeats 4000000 in
theorem g_X11_fault (l : Launch) (G : xa_C) (v0 v1 : Int) (h : xa_H) : xa_G l G 2 mX11_fault (f_X11_fault v0 v1 h) (fun r => some (some (xI r), h) : Int → Option xa_O) 0 [some (xR v0), some (xI v1)] [] h := by
  unfold f_X11_fault
  refine xa_step (xa_iload_n d_X11_fault_0 rfl) ?_
  refine xa_case (fun q1 => ?_) (fun q1 => ?_)
  · refine xa_step (xa_lookup (off := 27) d_X11_fault_1 (by decide) (by rw [q1]; decide) rfl) ?_
    refine xa_step (xa_aload_n d_X11_fault_28 rfl) ?_
    refine xa_getf xR xc_11 (by decide) (fun _ => rfl) xw_586 rfl d_X11_fault_29 (fun x2 _ => ?_)
    refine xa_getf xI xc_6 (by decide) (fun _ => rfl) xw_264 rfl d_X11_fault_32 (fun x3 _ => ?_)
    exact xa_iret d_X11_fault_35 rfl rfl
  · refine xa_case (fun q4 => ?_) (fun q4 => ?_)
    · refine xa_step (xa_lookup (off := 35) d_X11_fault_1 (by decide) (by rw [q4]; decide) rfl) ?_
      refine xa_step (xa_aload_n d_X11_fault_36 rfl) ?_
      refine xa_getf xR xc_11 (by decide) (fun _ => rfl) xw_586 rfl d_X11_fault_37 (fun x5 _ => ?_)
      refine xa_getf xI xc_6 (by decide) (fun _ => rfl) xw_266 rfl d_X11_fault_40 (fun x6 _ => ?_)
      exact xa_iret d_X11_fault_43 rfl rfl
    · refine xa_step (xa_lookup (off := 43) d_X11_fault_1 (by decide) (by simp [Op.lookupswitch.offset, Ne.symm q1, Ne.symm q4]) rfl) ?_
      refine xa_step (xa_iconst d_X11_fault_44 xq_i_m1) ?_
      exact xa_iret d_X11_fault_45 rfl rfl
theorem ct_X11_fault (l : Launch) (G : xa_C) (v0 v1 : Int) (h : xa_H) (r : Int) (hr : f_X11_fault v0 v1 h = some r) : xa_CT l G 2 mX11_fault yX11_fault [xR v0, xI v1] h (some (xI r), h) :=
  xa_met (by decide +kernel) rfl (fun q => by first | rfl | cases q) (Nat.le_of_ble_eq_true rfl) rfl (g_X11_fault l G v0 v1 h) (by rw [hr]; rfl)
abbrev mX11_putNumber : xa_M := (cX11_putNumber, 3, none, RX11, false)
theorem d_X11_putNumber_0 : decode mX11_putNumber.1 0 = .ok (.bipush 24, 2) ∧ 0 + 2 = 2 := ⟨by decide +kernel, rfl⟩
theorem d_X11_putNumber_2 : decode mX11_putNumber.1 2 = .ok (.istore_n 2, 1) ∧ 2 + 1 = 3 := ⟨by decide +kernel, rfl⟩
theorem d_X11_putNumber_3 : decode mX11_putNumber.1 3 = .ok (.iload_n 2, 1) ∧ 3 + 1 = 4 := ⟨by decide +kernel, rfl⟩
theorem d_X11_putNumber_4 : decode mX11_putNumber.1 4 = .ok (.ifCond .lt 42, 3) ∧ 4 + 3 = 7 ∧ ((4 : Nat) : Int) + 42 = ((46 : Nat) : Int) := ⟨by decide +kernel, rfl, rfl⟩
theorem d_X11_putNumber_7 : decode mX11_putNumber.1 7 = .ok (.aload_n 0, 1) ∧ 7 + 1 = 8 := ⟨by decide +kernel, rfl⟩
theorem d_X11_putNumber_8 : decode mX11_putNumber.1 8 = .ok (.getfield 13, 3) ∧ 8 + 3 = 11 := ⟨by decide +kernel, rfl⟩
theorem d_X11_putNumber_11 : decode mX11_putNumber.1 11 = .ok (.sipush 1600, 3) ∧ 11 + 3 = 14 := ⟨by decide +kernel, rfl⟩
theorem d_X11_putNumber_14 : decode mX11_putNumber.1 14 = .ok (.if_icmp .ge 32, 3) ∧ 14 + 3 = 17 ∧ ((14 : Nat) : Int) + 32 = ((46 : Nat) : Int) := ⟨by decide +kernel, rfl, rfl⟩
theorem d_X11_putNumber_17 : decode mX11_putNumber.1 17 = .ok (.aload_n 0, 1) ∧ 17 + 1 = 18 := ⟨by decide +kernel, rfl⟩
theorem d_X11_putNumber_18 : decode mX11_putNumber.1 18 = .ok (.getfield 9, 3) ∧ 18 + 3 = 21 := ⟨by decide +kernel, rfl⟩
theorem d_X11_putNumber_21 : decode mX11_putNumber.1 21 = .ok (.aload_n 0, 1) ∧ 21 + 1 = 22 := ⟨by decide +kernel, rfl⟩
theorem d_X11_putNumber_22 : decode mX11_putNumber.1 22 = .ok (.getfield 13, 3) ∧ 22 + 3 = 25 := ⟨by decide +kernel, rfl⟩
theorem d_X11_putNumber_25 : decode mX11_putNumber.1 25 = .ok (.iload_n 1, 1) ∧ 25 + 1 = 26 := ⟨by decide +kernel, rfl⟩
theorem d_X11_putNumber_26 : decode mX11_putNumber.1 26 = .ok (.iload_n 2, 1) ∧ 26 + 1 = 27 := ⟨by decide +kernel, rfl⟩
theorem d_X11_putNumber_27 : decode mX11_putNumber.1 27 = .ok (.ishr, 1) ∧ 27 + 1 = 28 := ⟨by decide +kernel, rfl⟩
theorem d_X11_putNumber_28 : decode mX11_putNumber.1 28 = .ok (.i2b, 1) ∧ 28 + 1 = 29 := ⟨by decide +kernel, rfl⟩
theorem d_X11_putNumber_29 : decode mX11_putNumber.1 29 = .ok (.bastore, 1) ∧ 29 + 1 = 30 := ⟨by decide +kernel, rfl⟩
theorem d_X11_putNumber_30 : decode mX11_putNumber.1 30 = .ok (.aload_n 0, 1) ∧ 30 + 1 = 31 := ⟨by decide +kernel, rfl⟩
theorem d_X11_putNumber_31 : decode mX11_putNumber.1 31 = .ok (.dup, 1) ∧ 31 + 1 = 32 := ⟨by decide +kernel, rfl⟩
theorem d_X11_putNumber_32 : decode mX11_putNumber.1 32 = .ok (.getfield 13, 3) ∧ 32 + 3 = 35 := ⟨by decide +kernel, rfl⟩
theorem d_X11_putNumber_35 : decode mX11_putNumber.1 35 = .ok (.iconst 1, 1) ∧ 35 + 1 = 36 := ⟨by decide +kernel, rfl⟩
theorem d_X11_putNumber_36 : decode mX11_putNumber.1 36 = .ok (.iadd, 1) ∧ 36 + 1 = 37 := ⟨by decide +kernel, rfl⟩
theorem d_X11_putNumber_37 : decode mX11_putNumber.1 37 = .ok (.putfield 13, 3) ∧ 37 + 3 = 40 := ⟨by decide +kernel, rfl⟩
theorem d_X11_putNumber_40 : decode mX11_putNumber.1 40 = .ok (.iinc 2 (-8), 3) ∧ 40 + 3 = 43 := ⟨by decide +kernel, rfl⟩
theorem d_X11_putNumber_43 : decode mX11_putNumber.1 43 = .ok (.goto (-40), 3) ∧ ((43 : Nat) : Int) + (-40) = ((3 : Nat) : Int) := ⟨by decide +kernel, rfl⟩
set_option maxRecDepth 100000 in
set_option maxHeartbeats 4000000 in
theorem g_X11_putNumber_L3 (l : Launch) (G : xa_C) (c0 c1 : Int) (K : (Int × xa_H) ⊕ (xa_H) → Option xa_O) (hb : ∀ (v2 : Int) (h : xa_H), xa_G l G 2 mX11_putNumber (some (Sum.inl ((v2, h)))) K 3 [some (xR c0), some (xI c1), some (xI v2)] [] h) (hx : ∀ (h : xa_H), xa_G l G 2 mX11_putNumber (some (Sum.inr h)) K 46 [none, none, none] [] h) : ∀ (v2 : Int) (h : xa_H), xa_G l G 2 mX11_putNumber (f_X11_putNumber_L3 c0 c1 v2 h) K 3 [some (xR c0), some (xI c1), some (xI v2)] [] h := by
  intro v2 h
  unfold f_X11_putNumber_L3
  refine xa_step (xa_iload_n d_X11_putNumber_3 rfl) ?_
  refine xa_if (xa_iflt d_X11_putNumber_4) (fun q1 => ?_) (fun q1 => ?_)
  · exact xa_weak (ls' := [none, none, none]) trivial (hx h)
  · refine xa_step (xa_aload_n d_X11_putNumber_7 rfl) ?_
    refine xa_getf xI xc_11 (by decide) (fun _ => rfl) xw_585 rfl d_X11_putNumber_8 (fun x2 _ => ?_)
    refine xa_step (xa_sipush d_X11_putNumber_11 xq_s_1600) ?_
    refine xa_if (xa_icmpge d_X11_putNumber_14) (fun q3 => ?_) (fun q3 => ?_)
    · refine xa_step (xa_aload_n d_X11_putNumber_17 rfl) ?_
      refine xa_getf xR xc_11 (by decide) (fun _ => rfl) xw_584 rfl d_X11_putNumber_18 (fun x4 _ => ?_)
      refine xa_step (xa_aload_n d_X11_putNumber_21 rfl) ?_
      refine xa_getf xI xc_11 (by decide) (fun _ => rfl) xw_585 rfl d_X11_putNumber_22 (fun x5 _ => ?_)
      refine xa_step (xa_iload_n d_X11_putNumber_25 rfl) ?_
      refine xa_step (xa_iload_n d_X11_putNumber_26 rfl) ?_
      refine xa_step (xa_ishr d_X11_putNumber_27) ?_
      refine xa_step (xa_i2b d_X11_putNumber_28) ?_
      refine xa_bastore2 d_X11_putNumber_29 (fun h6 _ => ?_)
      refine xa_step (xa_aload_n d_X11_putNumber_30 rfl) ?_
      refine xa_step (xa_dup d_X11_putNumber_31 (xa_tR _)) ?_
      refine xa_getf xI xc_11 (by decide) (fun _ => rfl) xw_585 rfl d_X11_putNumber_32 (fun x7 _ => ?_)
      refine xa_step (xa_iconst d_X11_putNumber_35 xq_i_1) ?_
      refine xa_step (xa_iadd d_X11_putNumber_36) ?_
      refine xa_putf2 (tg := xI) xc_11 (by decide) (fun _ => rfl) rfl (fun c hc => xa_fitI c hc) xw_585 rfl d_X11_putNumber_37 (fun h8 _ => ?_)
      refine xa_step (xa_iinc (ls' := [some (xR c0), some (xI c1), some (xI (w32 (v2 + (-8))))]) d_X11_putNumber_40 xq_i_m8 rfl (by decide) rfl) ?_
      refine xa_step (xa_goto d_X11_putNumber_43) ?_
      exact xa_weak (ls' := [some (xR c0), some (xI c1), some (xI (w32 (v2 + (-8))))]) ⟨rfl, rfl, rfl, trivial⟩ (hb (w32 (v2 + (-8))) h8)
    · exact xa_weak (ls' := [none, none, none]) trivial (hx h)
theorem d_X11_putNumber_46 : decode mX11_putNumber.1 46 = .ok (.return_, 1) := by decide +kernel
set_option maxRecDepth 100000 in
set_option maxHeartbeats 4000000 in
theorem g_X11_putNumber (l : Launch) (G : xa_C) (v0 v1 : Int) (h : xa_H) : xa_G l G 2 mX11_putNumber (f_X11_putNumber v0 v1 h) (fun r => some (none, r) : xa_H → Option xa_O) 0 [some (xR v0), some (xI v1), none] [] h := by
  unfold f_X11_putNumber
  refine xa_step (xa_bipush d_X11_putNumber_0 xq_b_24) ?_
  refine xa_step (xa_istore_n (ls' := [some (xR v0), some (xI v1), some (xI 24)]) d_X11_putNumber_2 (by decide) rfl) ?_
  refine xa_weak (ls' := [some (xR v0), some (xI v1), some (xI 24)]) ⟨rfl, rfl, rfl, trivial⟩ ?_
  refine xa_loop (f := fun s => f_X11_putNumber_L3 v0 v1 s.1 s.2) (L := fun s => [some (xR v0), some (xI v1), some (xI s.1)]) (P := fun s => s.2) (X := (fun x K => xa_G l G 2 mX11_putNumber (some (Sum.inr x)) K 46 [none, none, none] [] x)) (fun K hb hX s => g_X11_putNumber_L3 l G v0 v1 K (fun w0 hh => hb ((w0, hh))) (fun hh => hX hh) s.1 s.2) ?_ xFU ((24, h))
  intro e9 K hK
  refine xa_eqE hK ?_
  show xa_G l G 2 mX11_putNumber _ _ 46 [none, none, none] [] e9
  exact xa_vret d_X11_putNumber_46 rfl rfl
theorem ct_X11_putNumber (l : Launch) (G : xa_C) (v0 v1 : Int) (h : xa_H) (r : xa_H) (hr : f_X11_putNumber v0 v1 h = some r) : xa_CT l G 2 mX11_putNumber yX11_putNumber [xR v0, xI v1] h (none, r) :=
  xa_met (by decide +kernel) rfl (fun q => by first | rfl | cases q) (Nat.le_of_ble_eq_true rfl) rfl (g_X11_putNumber l G v0 v1 h) (by rw [hr]; rfl)
abbrev mX11_feed : xa_M := (cX11_feed, 6, (some (.int)), RX11, false)
theorem d_X11_feed_0 : decode mX11_feed.1 0 = .ok (.aload_n 0, 1) ∧ 0 + 1 = 1 := ⟨by decide +kernel, rfl⟩
theorem d_X11_feed_1 : decode mX11_feed.1 1 = .ok (.getfield 13, 3) ∧ 1 + 3 = 4 := ⟨by decide +kernel, rfl⟩
theorem d_X11_feed_4 : decode mX11_feed.1 4 = .ok (.bipush 20, 2) ∧ 4 + 2 = 6 := ⟨by decide +kernel, rfl⟩
theorem d_X11_feed_6 : decode mX11_feed.1 6 = .ok (.iadd, 1) ∧ 6 + 1 = 7 := ⟨by decide +kernel, rfl⟩
theorem d_X11_feed_7 : decode mX11_feed.1 7 = .ok (.sipush 1600, 3) ∧ 7 + 3 = 10 := ⟨by decide +kernel, rfl⟩
theorem d_X11_feed_10 : decode mX11_feed.1 10 = .ok (.if_icmp .le 9, 3) ∧ 10 + 3 = 13 ∧ ((10 : Nat) : Int) + 9 = ((19 : Nat) : Int) := ⟨by decide +kernel, rfl, rfl⟩
theorem d_X11_feed_13 : decode mX11_feed.1 13 = .ok (.aload_n 0, 1) ∧ 13 + 1 = 14 := ⟨by decide +kernel, rfl⟩
theorem d_X11_feed_14 : decode mX11_feed.1 14 = .ok (.iconst 0, 1) ∧ 14 + 1 = 15 := ⟨by decide +kernel, rfl⟩
theorem d_X11_feed_15 : decode mX11_feed.1 15 = .ok (.invokevirtual 118, 3) ∧ 15 + 3 = 18 := ⟨by decide +kernel, rfl⟩
theorem d_X11_feed_18 : decode mX11_feed.1 18 = .ok (.ireturn, 1) := by decide +kernel
theorem d_X11_feed_19 : decode mX11_feed.1 19 = .ok (.aload_n 0, 1) ∧ 19 + 1 = 20 := ⟨by decide +kernel, rfl⟩
theorem d_X11_feed_20 : decode mX11_feed.1 20 = .ok (.iload_n 1, 1) ∧ 20 + 1 = 21 := ⟨by decide +kernel, rfl⟩
theorem d_X11_feed_21 : decode mX11_feed.1 21 = .ok (.invokevirtual 122, 3) ∧ 21 + 3 = 24 := ⟨by decide +kernel, rfl⟩
theorem d_X11_feed_24 : decode mX11_feed.1 24 = .ok (.aload_n 0, 1) ∧ 24 + 1 = 25 := ⟨by decide +kernel, rfl⟩
theorem d_X11_feed_25 : decode mX11_feed.1 25 = .ok (.iload_n 2, 1) ∧ 25 + 1 = 26 := ⟨by decide +kernel, rfl⟩
theorem d_X11_feed_26 : decode mX11_feed.1 26 = .ok (.invokevirtual 122, 3) ∧ 26 + 3 = 29 := ⟨by decide +kernel, rfl⟩
theorem d_X11_feed_29 : decode mX11_feed.1 29 = .ok (.aload_n 0, 1) ∧ 29 + 1 = 30 := ⟨by decide +kernel, rfl⟩
theorem d_X11_feed_30 : decode mX11_feed.1 30 = .ok (.iload_n 3, 1) ∧ 30 + 1 = 31 := ⟨by decide +kernel, rfl⟩
theorem d_X11_feed_31 : decode mX11_feed.1 31 = .ok (.invokevirtual 122, 3) ∧ 31 + 3 = 34 := ⟨by decide +kernel, rfl⟩
theorem d_X11_feed_34 : decode mX11_feed.1 34 = .ok (.aload_n 0, 1) ∧ 34 + 1 = 35 := ⟨by decide +kernel, rfl⟩
theorem d_X11_feed_35 : decode mX11_feed.1 35 = .ok (.iload 4, 2) ∧ 35 + 2 = 37 := ⟨by decide +kernel, rfl⟩
theorem d_X11_feed_37 : decode mX11_feed.1 37 = .ok (.invokevirtual 122, 3) ∧ 37 + 3 = 40 := ⟨by decide +kernel, rfl⟩
theorem d_X11_feed_40 : decode mX11_feed.1 40 = .ok (.aload_n 0, 1) ∧ 40 + 1 = 41 := ⟨by decide +kernel, rfl⟩
theorem d_X11_feed_41 : decode mX11_feed.1 41 = .ok (.iload 5, 2) ∧ 41 + 2 = 43 := ⟨by decide +kernel, rfl⟩
theorem d_X11_feed_43 : decode mX11_feed.1 43 = .ok (.invokevirtual 122, 3) ∧ 43 + 3 = 46 := ⟨by decide +kernel, rfl⟩
theorem d_X11_feed_46 : decode mX11_feed.1 46 = .ok (.aload_n 0, 1) ∧ 46 + 1 = 47 := ⟨by decide +kernel, rfl⟩
theorem d_X11_feed_47 : decode mX11_feed.1 47 = .ok (.getfield 13, 3) ∧ 47 + 3 = 50 := ⟨by decide +kernel, rfl⟩
theorem d_X11_feed_50 : decode mX11_feed.1 50 = .ok (.ireturn, 1) := by decide +kernel
set_option maxRecDepth 100000 in
set_option maxHeartbeats 4000000 in
theorem g_X11_feed (l : Launch) (G : xa_C) (v0 v1 v2 v3 v4 v5 : Int) (h : xa_H) : xa_G l G 3 mX11_feed (f_X11_feed v0 v1 v2 v3 v4 v5 h) (fun r => some (some (xI r.1), r.2) : (Int × xa_H) → Option xa_O) 0 [some (xR v0), some (xI v1), some (xI v2), some (xI v3), some (xI v4), some (xI v5)] [] h := by
  unfold f_X11_feed
  refine xa_step (xa_aload_n d_X11_feed_0 rfl) ?_
  refine xa_getf xI xc_11 (by decide) (fun _ => rfl) xw_585 rfl d_X11_feed_1 (fun x1 _ => ?_)
  refine xa_step (xa_bipush d_X11_feed_4 xq_b_20) ?_
  refine xa_step (xa_iadd d_X11_feed_6) ?_
  refine xa_step (xa_sipush d_X11_feed_7 xq_s_1600) ?_
  refine xa_if (xa_icmple d_X11_feed_10) (fun q2 => ?_) (fun q2 => ?_)
  · refine xa_step (xa_aload_n d_X11_feed_13 rfl) ?_
    refine xa_step (xa_iconst d_X11_feed_14 xq_i_0) ?_
    refine xa_callVI (as := [xI 0]) (st := []) (M' := mX11_refuse) (d' := 2) rfl xw_646 xw_648 xw_2 xw_649 xw_161 xh_X11_refuse rfl ⟨Nat.le_of_ble_eq_true rfl, Nat.le_of_ble_eq_true rfl⟩ (Nat.le_of_ble_eq_true rfl) rfl d_X11_feed_15 (fun r hr => ct_X11_refuse l G v0 0 h r hr) (fun r3 _ => ?_)
    exact xa_iret d_X11_feed_18 rfl rfl
  · refine xa_step (xa_aload_n d_X11_feed_19 rfl) ?_
    refine xa_step (xa_iload_n d_X11_feed_20 rfl) ?_
    refine xa_callVV (as := [xI v1]) (st := []) (M' := mX11_putNumber) (d' := 2) rfl xw_650 xw_652 xw_3 xw_653 xw_161 xh_X11_putNumber rfl ⟨Nat.le_of_ble_eq_true rfl, Nat.le_of_ble_eq_true rfl⟩ (Nat.le_of_ble_eq_true rfl) rfl d_X11_feed_21 (fun r hr => ct_X11_putNumber l G v0 v1 h r hr) (fun r4 _ => ?_)
    refine xa_step (xa_aload_n d_X11_feed_24 rfl) ?_
    refine xa_step (xa_iload_n d_X11_feed_25 rfl) ?_
    refine xa_callVV (as := [xI v2]) (st := []) (M' := mX11_putNumber) (d' := 2) rfl xw_650 xw_652 xw_3 xw_653 xw_161 xh_X11_putNumber rfl ⟨Nat.le_of_ble_eq_true rfl, Nat.le_of_ble_eq_true rfl⟩ (Nat.le_of_ble_eq_true rfl) rfl d_X11_feed_26 (fun r hr => ct_X11_putNumber l G v0 v2 r4 r hr) (fun r5 _ => ?_)
    refine xa_step (xa_aload_n d_X11_feed_29 rfl) ?_
    refine xa_step (xa_iload_n d_X11_feed_30 rfl) ?_
    refine xa_callVV (as := [xI v3]) (st := []) (M' := mX11_putNumber) (d' := 2) rfl xw_650 xw_652 xw_3 xw_653 xw_161 xh_X11_putNumber rfl ⟨Nat.le_of_ble_eq_true rfl, Nat.le_of_ble_eq_true rfl⟩ (Nat.le_of_ble_eq_true rfl) rfl d_X11_feed_31 (fun r hr => ct_X11_putNumber l G v0 v3 r5 r hr) (fun r6 _ => ?_)
    refine xa_step (xa_aload_n d_X11_feed_34 rfl) ?_
    refine xa_step (xa_iload d_X11_feed_35 rfl) ?_
    refine xa_callVV (as := [xI v4]) (st := []) (M' := mX11_putNumber) (d' := 2) rfl xw_650 xw_652 xw_3 xw_653 xw_161 xh_X11_putNumber rfl ⟨Nat.le_of_ble_eq_true rfl, Nat.le_of_ble_eq_true rfl⟩ (Nat.le_of_ble_eq_true rfl) rfl d_X11_feed_37 (fun r hr => ct_X11_putNumber l G v0 v4 r6 r hr) (fun r7 _ => ?_)
    refine xa_step (xa_aload_n d_X11_feed_40 rfl) ?_
    refine xa_step (xa_iload d_X11_feed_41 rfl) ?_
    refine xa_callVV (as := [xI v5]) (st := []) (M' := mX11_putNumber) (d' := 2) rfl xw_650 xw_652 xw_3 xw_653 xw_161 xh_X11_putNumber rfl ⟨Nat.le_of_ble_eq_true rfl, Nat.le_of_ble_eq_true rfl⟩ (Nat.le_of_ble_eq_true rfl) rfl d_X11_feed_43 (fun r hr => ct_X11_putNumber l G v0 v5 r7 r hr) (fun r8 _ => ?_)
    refine xa_step (xa_aload_n d_X11_feed_46 rfl) ?_
    refine xa_getf xI xc_11 (by decide) (fun _ => rfl) xw_585 rfl d_X11_feed_47 (fun x9 _ => ?_)
    exact xa_iret d_X11_feed_50 rfl rfl
theorem ct_X11_feed (l : Launch) (G : xa_C) (v0 v1 v2 v3 v4 v5 : Int) (h : xa_H) (r : Int × xa_H) (hr : f_X11_feed v0 v1 v2 v3 v4 v5 h = some r) : xa_CT l G 3 mX11_feed yX11_feed [xR v0, xI v1, xI v2, xI v3, xI v4, xI v5] h (some (xI r.1), r.2) :=
  xa_met (by decide +kernel) rfl (fun q => by first | rfl | cases q) (Nat.le_of_ble_eq_true rfl) rfl (g_X11_feed l G v0 v1 v2 v3 v4 v5 h) (by rw [hr]; rfl)
abbrev mX9_holderOf : xa_M := (cX9_holderOf, 4, (some (.int)), RX9, false)
theorem d_X9_holderOf_0 : decode mX9_holderOf.1 0 = .ok (.iconst 0, 1) ∧ 0 + 1 = 1 := ⟨by decide +kernel, rfl⟩
theorem d_X9_holderOf_1 : decode mX9_holderOf.1 1 = .ok (.istore_n 3, 1) ∧ 1 + 1 = 2 := ⟨by decide +kernel, rfl⟩
theorem d_X9_holderOf_2 : decode mX9_holderOf.1 2 = .ok (.iload_n 3, 1) ∧ 2 + 1 = 3 := ⟨by decide +kernel, rfl⟩
theorem d_X9_holderOf_3 : decode mX9_holderOf.1 3 = .ok (.iload_n 2, 1) ∧ 3 + 1 = 4 := ⟨by decide +kernel, rfl⟩
theorem d_X9_holderOf_4 : decode mX9_holderOf.1 4 = .ok (.if_icmp .ge 21, 3) ∧ 4 + 3 = 7 ∧ ((4 : Nat) : Int) + 21 = ((25 : Nat) : Int) := ⟨by decide +kernel, rfl, rfl⟩
theorem d_X9_holderOf_7 : decode mX9_holderOf.1 7 = .ok (.aload_n 0, 1) ∧ 7 + 1 = 8 := ⟨by decide +kernel, rfl⟩
theorem d_X9_holderOf_8 : decode mX9_holderOf.1 8 = .ok (.getfield 15, 3) ∧ 8 + 3 = 11 := ⟨by decide +kernel, rfl⟩
theorem d_X9_holderOf_11 : decode mX9_holderOf.1 11 = .ok (.iload_n 3, 1) ∧ 11 + 1 = 12 := ⟨by decide +kernel, rfl⟩
theorem d_X9_holderOf_12 : decode mX9_holderOf.1 12 = .ok (.iaload, 1) ∧ 12 + 1 = 13 := ⟨by decide +kernel, rfl⟩
theorem d_X9_holderOf_13 : decode mX9_holderOf.1 13 = .ok (.iload_n 1, 1) ∧ 13 + 1 = 14 := ⟨by decide +kernel, rfl⟩
theorem d_X9_holderOf_14 : decode mX9_holderOf.1 14 = .ok (.if_icmp .ne 5, 3) ∧ 14 + 3 = 17 ∧ ((14 : Nat) : Int) + 5 = ((19 : Nat) : Int) := ⟨by decide +kernel, rfl, rfl⟩
theorem d_X9_holderOf_17 : decode mX9_holderOf.1 17 = .ok (.iload_n 3, 1) ∧ 17 + 1 = 18 := ⟨by decide +kernel, rfl⟩
theorem d_X9_holderOf_18 : decode mX9_holderOf.1 18 = .ok (.ireturn, 1) := by decide +kernel
theorem d_X9_holderOf_19 : decode mX9_holderOf.1 19 = .ok (.iinc 3 1, 3) ∧ 19 + 3 = 22 := ⟨by decide +kernel, rfl⟩
theorem d_X9_holderOf_22 : decode mX9_holderOf.1 22 = .ok (.goto (-20), 3) ∧ ((22 : Nat) : Int) + (-20) = ((2 : Nat) : Int) := ⟨by decide +kernel, rfl⟩
set_option maxRecDepth 100000 in
set_option maxHeartbeats 4000000 in
theorem g_X9_holderOf_L2 (l : Launch) (G : xa_C) (c0 c1 c2 : Int) (h : xa_H) (K : (Int) ⊕ ((Int) ⊕ (Unit)) → Option xa_O) (hb : ∀ (v3 : Int), xa_G l G 2 mX9_holderOf (some (Sum.inl v3)) K 2 [some (xR c0), some (xI c1), some (xI c2), some (xI v3)] [] h) (hr : ∀ r : Int, K (Sum.inr (Sum.inl r)) = some (some (xI r), h)) (hx : xa_G l G 2 mX9_holderOf (some (Sum.inr (Sum.inr (())))) K 25 [none, none, none, none] [] h) : ∀ (v3 : Int), xa_G l G 2 mX9_holderOf (f_X9_holderOf_L2 c0 c1 c2 h v3) K 2 [some (xR c0), some (xI c1), some (xI c2), some (xI v3)] [] h := by
  intro v3
  unfold f_X9_holderOf_L2
  refine xa_step (xa_iload_n d_X9_holderOf_2 rfl) ?_
  refine xa_step (xa_iload_n d_X9_holderOf_3 rfl) ?_
  refine xa_if (xa_icmpge d_X9_holderOf_4) (fun q1 => ?_) (fun q1 => ?_)
  · refine xa_step (xa_aload_n d_X9_holderOf_7 rfl) ?_
    refine xa_getf xR xc_9 (by decide) (fun _ => rfl) xw_342 rfl d_X9_holderOf_8 (fun x2 _ => ?_)
    refine xa_step (xa_iload_n d_X9_holderOf_11 rfl) ?_
    refine xa_iaload d_X9_holderOf_12 (fun x3 _ => ?_)
    refine xa_step (xa_iload_n d_X9_holderOf_13 rfl) ?_
    refine xa_if (xa_icmpne d_X9_holderOf_14) (fun q4 => ?_) (fun q4 => ?_)
    · refine xa_step (xa_iload_n d_X9_holderOf_17 rfl) ?_
      exact xa_iret d_X9_holderOf_18 rfl (hr _)
    · refine xa_step (xa_iinc (ls' := [some (xR c0), some (xI c1), some (xI c2), some (xI (w32 (v3 + 1)))]) d_X9_holderOf_19 xq_i_1 rfl (by decide) rfl) ?_
      refine xa_step (xa_goto d_X9_holderOf_22) ?_
      exact xa_weak (ls' := [some (xR c0), some (xI c1), some (xI c2), some (xI (w32 (v3 + 1)))]) ⟨rfl, rfl, rfl, rfl, trivial⟩ (hb (w32 (v3 + 1)))
  · exact xa_weak (ls' := [none, none, none, none]) trivial (hx )
theorem d_X9_holderOf_25 : decode mX9_holderOf.1 25 = .ok (.iconst (-1), 1) ∧ 25 + 1 = 26 := ⟨by decide +kernel, rfl⟩
theorem d_X9_holderOf_26 : decode mX9_holderOf.1 26 = .ok (.ireturn, 1) := by decide +kernel
set_option maxRecDepth 100000 in
set_option maxHeartbeats 4000000 in
theorem g_X9_holderOf (l : Launch) (G : xa_C) (v0 v1 v2 : Int) (h : xa_H) : xa_G l G 2 mX9_holderOf (f_X9_holderOf v0 v1 v2 h) (fun r => some (some (xI r), h) : Int → Option xa_O) 0 [some (xR v0), some (xI v1), some (xI v2), none] [] h := by
  unfold f_X9_holderOf
  refine xa_step (xa_iconst d_X9_holderOf_0 xq_i_0) ?_
  refine xa_step (xa_istore_n (ls' := [some (xR v0), some (xI v1), some (xI v2), some (xI 0)]) d_X9_holderOf_1 (by decide) rfl) ?_
  refine xa_weak (ls' := [some (xR v0), some (xI v1), some (xI v2), some (xI 0)]) ⟨rfl, rfl, rfl, rfl, trivial⟩ ?_
  refine xa_loop (f := fun s => f_X9_holderOf_L2 v0 v1 v2 h s) (L := fun s => [some (xR v0), some (xI v1), some (xI v2), some (xI s)]) (P := fun s => h) (X := (fun e K => match e with | Sum.inl r => K (Sum.inr (Sum.inl r)) = some (some (xI r), h) | Sum.inr x => xa_G l G 2 mX9_holderOf (some (Sum.inr (Sum.inr x))) K 25 [none, none, none, none] [] h)) (fun K hb hX s => g_X9_holderOf_L2 l G v0 v1 v2 h K (fun w0 => hb w0) (fun r => hX (Sum.inl r)) (hX (Sum.inr ())) s) ?_ xFU 0
  rintro (r | y6) K hK
  · exact hK.trans rfl
  · refine xa_eqE hK ?_
    show xa_G l G 2 mX9_holderOf _ _ 25 [none, none, none, none] [] h
    refine xa_step (xa_iconst d_X9_holderOf_25 xq_i_m1) ?_
    exact xa_iret d_X9_holderOf_26 rfl rfl
theorem ct_X9_holderOf (l : Launch) (G : xa_C) (v0 v1 v2 : Int) (h : xa_H) (r : Int) (hr : f_X9_holderOf v0 v1 v2 h = some r) : xa_CT l G 2 mX9_holderOf yX9_holderOf [xR v0, xI v1, xI v2] h (some (xI r), h) :=
  xa_met (by decide +kernel) rfl (fun q => by first | rfl | cases q) (Nat.le_of_ble_eq_true rfl) rfl (g_X9_holderOf l G v0 v1 v2 h) (by rw [hr]; rfl)
abbrev mX11_findSources : xa_M := (cX11_findSources, 4, (some (.boolean)), RX11, false)
theorem d_X11_findSources_0 : decode mX11_findSources.1 0 = .ok (.iconst 0, 1) ∧ 0 + 1 = 1 := ⟨by decide +kernel, rfl⟩
theorem d_X11_findSources_1 : decode mX11_findSources.1 1 = .ok (.istore_n 1, 1) ∧ 1 + 1 = 2 := ⟨by decide +kernel, rfl⟩
theorem d_X11_findSources_2 : decode mX11_findSources.1 2 = .ok (.iconst 0, 1) ∧ 2 + 1 = 3 := ⟨by decide +kernel, rfl⟩
theorem d_X11_findSources_3 : decode mX11_findSources.1 3 = .ok (.istore_n 2, 1) ∧ 3 + 1 = 4 := ⟨by decide +kernel, rfl⟩
theorem d_X11_findSources_4 : decode mX11_findSources.1 4 = .ok (.iload_n 2, 1) ∧ 4 + 1 = 5 := ⟨by decide +kernel, rfl⟩
theorem d_X11_findSources_5 : decode mX11_findSources.1 5 = .ok (.aload_n 0, 1) ∧ 5 + 1 = 6 := ⟨by decide +kernel, rfl⟩
theorem d_X11_findSources_6 : decode mX11_findSources.1 6 = .ok (.getfield 47, 3) ∧ 6 + 3 = 9 := ⟨by decide +kernel, rfl⟩
theorem d_X11_findSources_9 : decode mX11_findSources.1 9 = .ok (.getfield 146, 3) ∧ 9 + 3 = 12 := ⟨by decide +kernel, rfl⟩
theorem d_X11_findSources_12 : decode mX11_findSources.1 12 = .ok (.if_icmp .ge 62, 3) ∧ 12 + 3 = 15 ∧ ((12 : Nat) : Int) + 62 = ((74 : Nat) : Int) := ⟨by decide +kernel, rfl, rfl⟩
theorem d_X11_findSources_15 : decode mX11_findSources.1 15 = .ok (.aload_n 0, 1) ∧ 15 + 1 = 16 := ⟨by decide +kernel, rfl⟩
theorem d_X11_findSources_16 : decode mX11_findSources.1 16 = .ok (.getfield 54, 3) ∧ 16 + 3 = 19 := ⟨by decide +kernel, rfl⟩
theorem d_X11_findSources_19 : decode mX11_findSources.1 19 = .ok (.aload_n 0, 1) ∧ 19 + 1 = 20 := ⟨by decide +kernel, rfl⟩
theorem d_X11_findSources_20 : decode mX11_findSources.1 20 = .ok (.getfield 54, 3) ∧ 20 + 3 = 23 := ⟨by decide +kernel, rfl⟩
theorem d_X11_findSources_23 : decode mX11_findSources.1 23 = .ok (.getfield 220, 3) ∧ 23 + 3 = 26 := ⟨by decide +kernel, rfl⟩
theorem d_X11_findSources_26 : decode mX11_findSources.1 26 = .ok (.iload_n 2, 1) ∧ 26 + 1 = 27 := ⟨by decide +kernel, rfl⟩
theorem d_X11_findSources_27 : decode mX11_findSources.1 27 = .ok (.iaload, 1) ∧ 27 + 1 = 28 := ⟨by decide +kernel, rfl⟩
theorem d_X11_findSources_28 : decode mX11_findSources.1 28 = .ok (.aload_n 0, 1) ∧ 28 + 1 = 29 := ⟨by decide +kernel, rfl⟩
theorem d_X11_findSources_29 : decode mX11_findSources.1 29 = .ok (.getfield 47, 3) ∧ 29 + 3 = 32 := ⟨by decide +kernel, rfl⟩
theorem d_X11_findSources_32 : decode mX11_findSources.1 32 = .ok (.getfield 146, 3) ∧ 32 + 3 = 35 := ⟨by decide +kernel, rfl⟩
theorem d_X11_findSources_35 : decode mX11_findSources.1 35 = .ok (.invokevirtual 208, 3) ∧ 35 + 3 = 38 := ⟨by decide +kernel, rfl⟩
theorem d_X11_findSources_38 : decode mX11_findSources.1 38 = .ok (.istore_n 3, 1) ∧ 38 + 1 = 39 := ⟨by decide +kernel, rfl⟩
theorem d_X11_findSources_39 : decode mX11_findSources.1 39 = .ok (.iload_n 3, 1) ∧ 39 + 1 = 40 := ⟨by decide +kernel, rfl⟩
theorem d_X11_findSources_40 : decode mX11_findSources.1 40 = .ok (.iconst (-1), 1) ∧ 40 + 1 = 41 := ⟨by decide +kernel, rfl⟩
theorem d_X11_findSources_41 : decode mX11_findSources.1 41 = .ok (.if_icmp .eq 12, 3) ∧ 41 + 3 = 44 ∧ ((41 : Nat) : Int) + 12 = ((53 : Nat) : Int) := ⟨by decide +kernel, rfl, rfl⟩
theorem d_X11_findSources_53 : decode mX11_findSources.1 53 = .ok (.iconst 0, 1) ∧ 53 + 1 = 54 := ⟨by decide +kernel, rfl⟩
theorem d_X11_findSources_54 : decode mX11_findSources.1 54 = .ok (.ireturn, 1) := by decide +kernel
theorem d_X11_findSources_44 : decode mX11_findSources.1 44 = .ok (.iload_n 1, 1) ∧ 44 + 1 = 45 := ⟨by decide +kernel, rfl⟩
theorem d_X11_findSources_45 : decode mX11_findSources.1 45 = .ok (.iload_n 3, 1) ∧ 45 + 1 = 46 := ⟨by decide +kernel, rfl⟩
theorem d_X11_findSources_46 : decode mX11_findSources.1 46 = .ok (.ishr, 1) ∧ 46 + 1 = 47 := ⟨by decide +kernel, rfl⟩
theorem d_X11_findSources_47 : decode mX11_findSources.1 47 = .ok (.iconst 1, 1) ∧ 47 + 1 = 48 := ⟨by decide +kernel, rfl⟩
theorem d_X11_findSources_48 : decode mX11_findSources.1 48 = .ok (.iand, 1) ∧ 48 + 1 = 49 := ⟨by decide +kernel, rfl⟩
theorem d_X11_findSources_49 : decode mX11_findSources.1 49 = .ok (.iconst 1, 1) ∧ 49 + 1 = 50 := ⟨by decide +kernel, rfl⟩
theorem d_X11_findSources_50 : decode mX11_findSources.1 50 = .ok (.if_icmp .ne 5, 3) ∧ 50 + 3 = 53 ∧ ((50 : Nat) : Int) + 5 = ((55 : Nat) : Int) := ⟨by decide +kernel, rfl, rfl⟩
theorem d_X11_findSources_55 : decode mX11_findSources.1 55 = .ok (.iload_n 1, 1) ∧ 55 + 1 = 56 := ⟨by decide +kernel, rfl⟩
theorem d_X11_findSources_56 : decode mX11_findSources.1 56 = .ok (.iconst 1, 1) ∧ 56 + 1 = 57 := ⟨by decide +kernel, rfl⟩
theorem d_X11_findSources_57 : decode mX11_findSources.1 57 = .ok (.iload_n 3, 1) ∧ 57 + 1 = 58 := ⟨by decide +kernel, rfl⟩
theorem d_X11_findSources_58 : decode mX11_findSources.1 58 = .ok (.ishl, 1) ∧ 58 + 1 = 59 := ⟨by decide +kernel, rfl⟩
theorem d_X11_findSources_59 : decode mX11_findSources.1 59 = .ok (.ior, 1) ∧ 59 + 1 = 60 := ⟨by decide +kernel, rfl⟩
theorem d_X11_findSources_60 : decode mX11_findSources.1 60 = .ok (.istore_n 1, 1) ∧ 60 + 1 = 61 := ⟨by decide +kernel, rfl⟩
theorem d_X11_findSources_61 : decode mX11_findSources.1 61 = .ok (.aload_n 0, 1) ∧ 61 + 1 = 62 := ⟨by decide +kernel, rfl⟩
theorem d_X11_findSources_62 : decode mX11_findSources.1 62 = .ok (.getfield 95, 3) ∧ 62 + 3 = 65 := ⟨by decide +kernel, rfl⟩
theorem d_X11_findSources_65 : decode mX11_findSources.1 65 = .ok (.iload_n 2, 1) ∧ 65 + 1 = 66 := ⟨by decide +kernel, rfl⟩
theorem d_X11_findSources_66 : decode mX11_findSources.1 66 = .ok (.iload_n 3, 1) ∧ 66 + 1 = 67 := ⟨by decide +kernel, rfl⟩
theorem d_X11_findSources_67 : decode mX11_findSources.1 67 = .ok (.iastore, 1) ∧ 67 + 1 = 68 := ⟨by decide +kernel, rfl⟩
theorem d_X11_findSources_68 : decode mX11_findSources.1 68 = .ok (.iinc 2 1, 3) ∧ 68 + 3 = 71 := ⟨by decide +kernel, rfl⟩
theorem d_X11_findSources_71 : decode mX11_findSources.1 71 = .ok (.goto (-67), 3) ∧ ((71 : Nat) : Int) + (-67) = ((4 : Nat) : Int) := ⟨by decide +kernel, rfl⟩
set_option maxRecDepth 100000 in
set_option maxHeartbeats 4000000 in
theorem g_X11_findSources_L4 (l : Launch) (G : xa_C) (c0 : Int) (K : (Int × Int × xa_H) ⊕ ((Int × xa_H) ⊕ (xa_H)) → Option xa_O) (hb : ∀ (v1 : Int) (v2 : Int) (h : xa_H), xa_G l G 3 mX11_findSources (some (Sum.inl ((v1, v2, h)))) K 4 [some (xR c0), some (xI v1), some (xI v2), none] [] h) (hr : ∀ r : Int × xa_H, K (Sum.inr (Sum.inl r)) = some (some (xI r.1), r.2)) (hx : ∀ (h : xa_H), xa_G l G 3 mX11_findSources (some (Sum.inr (Sum.inr h))) K 74 [none, none, none, none] [] h) : ∀ (v1 : Int) (v2 : Int) (h : xa_H), xa_G l G 3 mX11_findSources (f_X11_findSources_L4 c0 v1 v2 h) K 4 [some (xR c0), some (xI v1), some (xI v2), none] [] h := by
  intro v1 v2 h
  unfold f_X11_findSources_L4
  refine xa_step (xa_iload_n d_X11_findSources_4 rfl) ?_
  refine xa_step (xa_aload_n d_X11_findSources_5 rfl) ?_
  refine xa_getf xR xc_11 (by decide) (fun _ => rfl) xw_589 rfl d_X11_findSources_6 (fun x1 _ => ?_)
  refine xa_getf xI xc_0 (by decide) (fun _ => rfl) xw_391 rfl d_X11_findSources_9 (fun x2 _ => ?_)
  refine xa_if (xa_icmpge d_X11_findSources_12) (fun q3 => ?_) (fun q3 => ?_)
  · refine xa_step (xa_aload_n d_X11_findSources_15 rfl) ?_
    refine xa_getf xR xc_11 (by decide) (fun _ => rfl) xw_590 rfl d_X11_findSources_16 (fun x4 _ => ?_)
    refine xa_step (xa_aload_n d_X11_findSources_19 rfl) ?_
    refine xa_getf xR xc_11 (by decide) (fun _ => rfl) xw_590 rfl d_X11_findSources_20 (fun x5 _ => ?_)
    refine xa_getf xR xc_9 (by decide) (fun _ => rfl) xw_350 rfl d_X11_findSources_23 (fun x6 _ => ?_)
    refine xa_step (xa_iload_n d_X11_findSources_26 rfl) ?_
    refine xa_iaload d_X11_findSources_27 (fun x7 _ => ?_)
    refine xa_step (xa_aload_n d_X11_findSources_28 rfl) ?_
    refine xa_getf xR xc_11 (by decide) (fun _ => rfl) xw_589 rfl d_X11_findSources_29 (fun x8 _ => ?_)
    refine xa_getf xI xc_0 (by decide) (fun _ => rfl) xw_391 rfl d_X11_findSources_32 (fun x9 _ => ?_)
    refine xa_callVi (as := [xI x7, xI x9]) (st := []) (M' := mX9_holderOf) (d' := 2) rfl xw_929 xw_743 xw_744 xw_745 xw_170 xh_X9_holderOf rfl ⟨Nat.le_of_ble_eq_true rfl, Nat.le_of_ble_eq_true rfl⟩ (Nat.le_of_ble_eq_true rfl) rfl d_X11_findSources_35 (fun r hr => ct_X9_holderOf l G x4 x7 x9 h r hr) (fun r10 _ => ?_)
    refine xa_step (xa_istore_n (ls' := [some (xR c0), some (xI v1), some (xI v2), some (xI r10)]) d_X11_findSources_38 (by decide) rfl) ?_
    refine xa_step (xa_iload_n d_X11_findSources_39 rfl) ?_
    refine xa_step (xa_iconst d_X11_findSources_40 xq_i_m1) ?_
    refine xa_if (xa_icmpeq d_X11_findSources_41) (fun q11 => ?_) (fun q11 => ?_)
    · refine xa_step (xa_iconst d_X11_findSources_53 xq_i_0) ?_
      exact xa_zret d_X11_findSources_54 rfl (Or.inl rfl) (hr _)
    · refine xa_step (xa_iload_n d_X11_findSources_44 rfl) ?_
      refine xa_step (xa_iload_n d_X11_findSources_45 rfl) ?_
      refine xa_step (xa_ishr d_X11_findSources_46) ?_
      refine xa_step (xa_iconst d_X11_findSources_47 xq_i_1) ?_
      refine xa_step (xa_iand d_X11_findSources_48) ?_
      refine xa_step (xa_iconst d_X11_findSources_49 xq_i_1) ?_
      refine xa_if (xa_icmpne d_X11_findSources_50) (fun q12 => ?_) (fun q12 => ?_)
      · refine xa_step (xa_iconst d_X11_findSources_53 xq_i_0) ?_
        exact xa_zret d_X11_findSources_54 rfl (Or.inl rfl) (hr _)
      · refine xa_step (xa_iload_n d_X11_findSources_55 rfl) ?_
        refine xa_step (xa_iconst d_X11_findSources_56 xq_i_1) ?_
        refine xa_step (xa_iload_n d_X11_findSources_57 rfl) ?_
        refine xa_step (xa_ishl d_X11_findSources_58) ?_
        refine xa_step (xa_ior d_X11_findSources_59) ?_
        refine xa_step (xa_istore_n (ls' := [some (xR c0), some (xI (xior v1 (xshl 1 r10))), some (xI v2), some (xI r10)]) d_X11_findSources_60 (by decide) rfl) ?_
        refine xa_step (xa_aload_n d_X11_findSources_61 rfl) ?_
        refine xa_getf xR xc_11 (by decide) (fun _ => rfl) xw_597 rfl d_X11_findSources_62 (fun x13 _ => ?_)
        refine xa_step (xa_iload_n d_X11_findSources_65 rfl) ?_
        refine xa_step (xa_iload_n d_X11_findSources_66 rfl) ?_
        refine xa_iastore2 d_X11_findSources_67 (fun h14 _ => ?_)
        refine xa_step (xa_iinc (ls' := [some (xR c0), some (xI (xior v1 (xshl 1 r10))), some (xI (w32 (v2 + 1))), some (xI r10)]) d_X11_findSources_68 xq_i_1 rfl (by decide) rfl) ?_
        refine xa_step (xa_goto d_X11_findSources_71) ?_
        exact xa_weak (ls' := [some (xR c0), some (xI (xior v1 (xshl 1 r10))), some (xI (w32 (v2 + 1))), none]) ⟨rfl, rfl, rfl, trivial⟩ (hb (xior v1 (xshl 1 r10)) (w32 (v2 + 1)) h14)
  · exact xa_weak (ls' := [none, none, none, none]) trivial (hx h)
theorem d_X11_findSources_74 : decode mX11_findSources.1 74 = .ok (.iconst 1, 1) ∧ 74 + 1 = 75 := ⟨by decide +kernel, rfl⟩
theorem d_X11_findSources_75 : decode mX11_findSources.1 75 = .ok (.ireturn, 1) := by decide +kernel
set_option maxRecDepth 100000 in
set_option maxHeartbeats 4000000 in
theorem g_X11_findSources (l : Launch) (G : xa_C) (v0 : Int) (h : xa_H) : xa_G l G 3 mX11_findSources (f_X11_findSources v0 h) (fun r => some (some (xI r.1), r.2) : (Int × xa_H) → Option xa_O) 0 [some (xR v0), none, none, none] [] h := by
  unfold f_X11_findSources
  refine xa_step (xa_iconst d_X11_findSources_0 xq_i_0) ?_
  refine xa_step (xa_istore_n (ls' := [some (xR v0), some (xI 0), none, none]) d_X11_findSources_1 (by decide) rfl) ?_
  refine xa_step (xa_iconst d_X11_findSources_2 xq_i_0) ?_
  refine xa_step (xa_istore_n (ls' := [some (xR v0), some (xI 0), some (xI 0), none]) d_X11_findSources_3 (by decide) rfl) ?_
  refine xa_weak (ls' := [some (xR v0), some (xI 0), some (xI 0), none]) ⟨rfl, rfl, rfl, trivial⟩ ?_
  refine xa_loop (f := fun s => f_X11_findSources_L4 v0 s.1 s.2.1 s.2.2) (L := fun s => [some (xR v0), some (xI s.1), some (xI s.2.1), none]) (P := fun s => s.2.2) (X := (fun e K => match e with | Sum.inl r => K (Sum.inr (Sum.inl r)) = some (some (xI r.1), r.2) | Sum.inr x => xa_G l G 3 mX11_findSources (some (Sum.inr (Sum.inr x))) K 74 [none, none, none, none] [] x)) (fun K hb hX s => g_X11_findSources_L4 l G v0 K (fun w0 w1 hh => hb ((w0, w1, hh))) (fun r => hX (Sum.inl r)) (fun hh => hX (Sum.inr hh)) s.1 s.2.1 s.2.2) ?_ xFU ((0, 0, h))
  rintro (r | y16) K hK
  · exact hK.trans rfl
  · refine xa_eqE hK ?_
    show xa_G l G 3 mX11_findSources _ _ 74 [none, none, none, none] [] y16
    refine xa_step (xa_iconst d_X11_findSources_74 xq_i_1) ?_
    exact xa_zret d_X11_findSources_75 rfl (Or.inr rfl) rfl
theorem ct_X11_findSources (l : Launch) (G : xa_C) (v0 : Int) (h : xa_H) (r : Int × xa_H) (hr : f_X11_findSources v0 h = some r) : xa_CT l G 3 mX11_findSources yX11_findSources [xR v0] h (some (xI r.1), r.2) :=
  xa_met (by decide +kernel) rfl (fun q => by first | rfl | cases q) (Nat.le_of_ble_eq_true rfl) rfl (g_X11_findSources l G v0 h) (by rw [hr]; rfl)
abbrev mX11_gain : xa_M := (cX11_gain, 5, (some (.int)), RX11, false)
theorem d_X11_gain_0 : decode mX11_gain.1 0 = .ok (.aload_n 0, 1) ∧ 0 + 1 = 1 := ⟨by decide +kernel, rfl⟩
theorem d_X11_gain_1 : decode mX11_gain.1 1 = .ok (.iload_n 1, 1) ∧ 1 + 1 = 2 := ⟨by decide +kernel, rfl⟩
theorem d_X11_gain_2 : decode mX11_gain.1 2 = .ok (.invokevirtual 199, 3) ∧ 2 + 3 = 5 := ⟨by decide +kernel, rfl⟩
theorem d_X11_gain_5 : decode mX11_gain.1 5 = .ok (.ifCond .ne 5, 3) ∧ 5 + 3 = 8 ∧ ((5 : Nat) : Int) + 5 = ((10 : Nat) : Int) := ⟨by decide +kernel, rfl, rfl⟩
theorem d_X11_gain_8 : decode mX11_gain.1 8 = .ok (.iconst (-1), 1) ∧ 8 + 1 = 9 := ⟨by decide +kernel, rfl⟩
theorem d_X11_gain_9 : decode mX11_gain.1 9 = .ok (.ireturn, 1) := by decide +kernel
theorem d_X11_gain_10 : decode mX11_gain.1 10 = .ok (.iconst 0, 1) ∧ 10 + 1 = 11 := ⟨by decide +kernel, rfl⟩
theorem d_X11_gain_11 : decode mX11_gain.1 11 = .ok (.istore_n 3, 1) ∧ 11 + 1 = 12 := ⟨by decide +kernel, rfl⟩
theorem d_X11_gain_12 : decode mX11_gain.1 12 = .ok (.iconst 0, 1) ∧ 12 + 1 = 13 := ⟨by decide +kernel, rfl⟩
theorem d_X11_gain_13 : decode mX11_gain.1 13 = .ok (.istore 4, 2) ∧ 13 + 2 = 15 := ⟨by decide +kernel, rfl⟩
theorem d_X11_gain_15 : decode mX11_gain.1 15 = .ok (.iload 4, 2) ∧ 15 + 2 = 17 := ⟨by decide +kernel, rfl⟩
theorem d_X11_gain_17 : decode mX11_gain.1 17 = .ok (.aload_n 0, 1) ∧ 17 + 1 = 18 := ⟨by decide +kernel, rfl⟩
theorem d_X11_gain_18 : decode mX11_gain.1 18 = .ok (.getfield 47, 3) ∧ 18 + 3 = 21 := ⟨by decide +kernel, rfl⟩
theorem d_X11_gain_21 : decode mX11_gain.1 21 = .ok (.getfield 146, 3) ∧ 21 + 3 = 24 := ⟨by decide +kernel, rfl⟩
theorem d_X11_gain_24 : decode mX11_gain.1 24 = .ok (.if_icmp .ge 32, 3) ∧ 24 + 3 = 27 ∧ ((24 : Nat) : Int) + 32 = ((56 : Nat) : Int) := ⟨by decide +kernel, rfl, rfl⟩
theorem d_X11_gain_27 : decode mX11_gain.1 27 = .ok (.iload 4, 2) ∧ 27 + 2 = 29 := ⟨by decide +kernel, rfl⟩
theorem d_X11_gain_29 : decode mX11_gain.1 29 = .ok (.iload_n 1, 1) ∧ 29 + 1 = 30 := ⟨by decide +kernel, rfl⟩
theorem d_X11_gain_30 : decode mX11_gain.1 30 = .ok (.if_icmp .eq 20, 3) ∧ 30 + 3 = 33 ∧ ((30 : Nat) : Int) + 20 = ((50 : Nat) : Int) := ⟨by decide +kernel, rfl, rfl⟩
theorem d_X11_gain_50 : decode mX11_gain.1 50 = .ok (.iinc 4 1, 3) ∧ 50 + 3 = 53 := ⟨by decide +kernel, rfl⟩
theorem d_X11_gain_53 : decode mX11_gain.1 53 = .ok (.goto (-38), 3) ∧ ((53 : Nat) : Int) + (-38) = ((15 : Nat) : Int) := ⟨by decide +kernel, rfl⟩
theorem d_X11_gain_33 : decode mX11_gain.1 33 = .ok (.aload_n 0, 1) ∧ 33 + 1 = 34 := ⟨by decide +kernel, rfl⟩
theorem d_X11_gain_34 : decode mX11_gain.1 34 = .ok (.iload_n 1, 1) ∧ 34 + 1 = 35 := ⟨by decide +kernel, rfl⟩
theorem d_X11_gain_35 : decode mX11_gain.1 35 = .ok (.iload 4, 2) ∧ 35 + 2 = 37 := ⟨by decide +kernel, rfl⟩
theorem d_X11_gain_37 : decode mX11_gain.1 37 = .ok (.invokevirtual 269, 3) ∧ 37 + 3 = 40 := ⟨by decide +kernel, rfl⟩
theorem d_X11_gain_40 : decode mX11_gain.1 40 = .ok (.ifCond .eq 10, 3) ∧ 40 + 3 = 43 ∧ ((40 : Nat) : Int) + 10 = ((50 : Nat) : Int) := ⟨by decide +kernel, rfl, rfl⟩
theorem d_X11_gain_43 : decode mX11_gain.1 43 = .ok (.iload_n 3, 1) ∧ 43 + 1 = 44 := ⟨by decide +kernel, rfl⟩
theorem d_X11_gain_44 : decode mX11_gain.1 44 = .ok (.iconst 1, 1) ∧ 44 + 1 = 45 := ⟨by decide +kernel, rfl⟩
theorem d_X11_gain_45 : decode mX11_gain.1 45 = .ok (.iload 4, 2) ∧ 45 + 2 = 47 := ⟨by decide +kernel, rfl⟩
theorem d_X11_gain_47 : decode mX11_gain.1 47 = .ok (.ishl, 1) ∧ 47 + 1 = 48 := ⟨by decide +kernel, rfl⟩
theorem d_X11_gain_48 : decode mX11_gain.1 48 = .ok (.ior, 1) ∧ 48 + 1 = 49 := ⟨by decide +kernel, rfl⟩
theorem d_X11_gain_49 : decode mX11_gain.1 49 = .ok (.istore_n 3, 1) ∧ 49 + 1 = 50 := ⟨by decide +kernel, rfl⟩
set_option maxRecDepth 100000 in
set_option maxHeartbeats 4000000 in
theorem g_X11_gain_L15 (l : Launch) (G : xa_C) (c0 c1 c2 : Int) (h : xa_H) (K : (Int × Int) ⊕ (Int) → Option xa_O) (hb : ∀ (v3 : Int) (v4 : Int), xa_G l G 4 mX11_gain (some (Sum.inl ((v3, v4)))) K 15 [some (xR c0), some (xI c1), some (xI c2), some (xI v3), some (xI v4)] [] h) (hx : ∀ (v3 : Int), xa_G l G 4 mX11_gain (some (Sum.inr v3)) K 56 [none, none, some (xI c2), some (xI v3), none] [] h) : ∀ (v3 : Int) (v4 : Int), xa_G l G 4 mX11_gain (f_X11_gain_L15 c0 c1 c2 h v3 v4) K 15 [some (xR c0), some (xI c1), some (xI c2), some (xI v3), some (xI v4)] [] h := by
  intro v3 v4
  unfold f_X11_gain_L15
  refine xa_step (xa_iload d_X11_gain_15 rfl) ?_
  refine xa_step (xa_aload_n d_X11_gain_17 rfl) ?_
  refine xa_getf xR xc_11 (by decide) (fun _ => rfl) xw_589 rfl d_X11_gain_18 (fun x3 _ => ?_)
  refine xa_getf xI xc_0 (by decide) (fun _ => rfl) xw_391 rfl d_X11_gain_21 (fun x4 _ => ?_)
  refine xa_if (xa_icmpge d_X11_gain_24) (fun q5 => ?_) (fun q5 => ?_)
  · refine xa_step (xa_iload d_X11_gain_27 rfl) ?_
    refine xa_step (xa_iload_n d_X11_gain_29 rfl) ?_
    refine xa_if (xa_icmpeq d_X11_gain_30) (fun q6 => ?_) (fun q6 => ?_)
    · refine xa_step (xa_iinc (ls' := [some (xR c0), some (xI c1), some (xI c2), some (xI v3), some (xI (w32 (v4 + 1)))]) d_X11_gain_50 xq_i_1 rfl (by decide) rfl) ?_
      refine xa_step (xa_goto d_X11_gain_53) ?_
      exact xa_weak (ls' := [some (xR c0), some (xI c1), some (xI c2), some (xI v3), some (xI (w32 (v4 + 1)))]) ⟨rfl, rfl, rfl, rfl, rfl, trivial⟩ (hb v3 (w32 (v4 + 1)))
    · refine xa_step (xa_aload_n d_X11_gain_33 rfl) ?_
      refine xa_step (xa_iload_n d_X11_gain_34 rfl) ?_
      refine xa_step (xa_iload d_X11_gain_35 rfl) ?_
      refine xa_callVi (as := [xI c1, xI v4]) (st := []) (M' := mX11_bothGain) (d' := 3) rfl xw_1100 xw_1102 xw_48 xw_1103 xw_161 xh_X11_bothGain rfl ⟨Nat.le_of_ble_eq_true rfl, Nat.le_of_ble_eq_true rfl⟩ (Nat.le_of_ble_eq_true rfl) rfl d_X11_gain_37 (fun r hr => ct_X11_bothGain l G c0 c1 v4 h r hr) (fun r7 _ => ?_)
      refine xa_if (xa_ifeq d_X11_gain_40) (fun q8 => ?_) (fun q8 => ?_)
      · refine xa_step (xa_iinc (ls' := [some (xR c0), some (xI c1), some (xI c2), some (xI v3), some (xI (w32 (v4 + 1)))]) d_X11_gain_50 xq_i_1 rfl (by decide) rfl) ?_
        refine xa_step (xa_goto d_X11_gain_53) ?_
        exact xa_weak (ls' := [some (xR c0), some (xI c1), some (xI c2), some (xI v3), some (xI (w32 (v4 + 1)))]) ⟨rfl, rfl, rfl, rfl, rfl, trivial⟩ (hb v3 (w32 (v4 + 1)))
      · refine xa_step (xa_iload_n d_X11_gain_43 rfl) ?_
        refine xa_step (xa_iconst d_X11_gain_44 xq_i_1) ?_
        refine xa_step (xa_iload d_X11_gain_45 rfl) ?_
        refine xa_step (xa_ishl d_X11_gain_47) ?_
        refine xa_step (xa_ior d_X11_gain_48) ?_
        refine xa_step (xa_istore_n (ls' := [some (xR c0), some (xI c1), some (xI c2), some (xI (xior v3 (xshl 1 v4))), some (xI v4)]) d_X11_gain_49 (by decide) rfl) ?_
        refine xa_step (xa_iinc (ls' := [some (xR c0), some (xI c1), some (xI c2), some (xI (xior v3 (xshl 1 v4))), some (xI (w32 (v4 + 1)))]) d_X11_gain_50 xq_i_1 rfl (by decide) rfl) ?_
        refine xa_step (xa_goto d_X11_gain_53) ?_
        exact xa_weak (ls' := [some (xR c0), some (xI c1), some (xI c2), some (xI (xior v3 (xshl 1 v4))), some (xI (w32 (v4 + 1)))]) ⟨rfl, rfl, rfl, rfl, rfl, trivial⟩ (hb (xior v3 (xshl 1 v4)) (w32 (v4 + 1)))
  · exact xa_weak (ls' := [none, none, some (xI c2), some (xI v3), none]) ⟨rfl, rfl, trivial⟩ (hx v3)
theorem d_X11_gain_56 : decode mX11_gain.1 56 = .ok (.iload_n 2, 1) ∧ 56 + 1 = 57 := ⟨by decide +kernel, rfl⟩
theorem d_X11_gain_57 : decode mX11_gain.1 57 = .ok (.lookupswitch 34 #[(0, 27), (1, 32)], 27) := by decide +kernel
theorem d_X11_gain_84 : decode mX11_gain.1 84 = .ok (.iload_n 3, 1) ∧ 84 + 1 = 85 := ⟨by decide +kernel, rfl⟩
theorem d_X11_gain_85 : decode mX11_gain.1 85 = .ok (.invokestatic 273, 3) ∧ 85 + 3 = 88 := ⟨by decide +kernel, rfl⟩
theorem d_X11_gain_88 : decode mX11_gain.1 88 = .ok (.ireturn, 1) := by decide +kernel
theorem d_X11_gain_89 : decode mX11_gain.1 89 = .ok (.iload_n 3, 1) ∧ 89 + 1 = 90 := ⟨by decide +kernel, rfl⟩
theorem d_X11_gain_90 : decode mX11_gain.1 90 = .ok (.ireturn, 1) := by decide +kernel
theorem d_X11_gain_91 : decode mX11_gain.1 91 = .ok (.iconst (-1), 1) ∧ 91 + 1 = 92 := ⟨by decide +kernel, rfl⟩
theorem d_X11_gain_92 : decode mX11_gain.1 92 = .ok (.ireturn, 1) := by decide +kernel
set_option maxRecDepth 100000 in
set_option maxHeartbeats 4000000 in
theorem g_X11_gain (l : Launch) (G : xa_C) (v0 v1 v2 : Int) (h : xa_H) : xa_G l G 4 mX11_gain (f_X11_gain v0 v1 v2 h) (fun r => some (some (xI r), h) : Int → Option xa_O) 0 [some (xR v0), some (xI v1), some (xI v2), none, none] [] h := by
  unfold f_X11_gain
  refine xa_step (xa_aload_n d_X11_gain_0 rfl) ?_
  refine xa_step (xa_iload_n d_X11_gain_1 rfl) ?_
  refine xa_callVi (as := [xI v1]) (st := []) (M' := mX11_isHolder) (d' := 2) rfl xw_921 xw_923 xw_33 xw_924 xw_161 xh_X11_isHolder rfl ⟨Nat.le_of_ble_eq_true rfl, Nat.le_of_ble_eq_true rfl⟩ (Nat.le_of_ble_eq_true rfl) rfl d_X11_gain_2 (fun r hr => ct_X11_isHolder l G v0 v1 h r hr) (fun r1 _ => ?_)
  refine xa_if (xa_ifne d_X11_gain_5) (fun q2 => ?_) (fun q2 => ?_)
  · refine xa_step (xa_iconst d_X11_gain_8 xq_i_m1) ?_
    exact xa_iret d_X11_gain_9 rfl rfl
  · refine xa_step (xa_iconst d_X11_gain_10 xq_i_0) ?_
    refine xa_step (xa_istore_n (ls' := [some (xR v0), some (xI v1), some (xI v2), some (xI 0), none]) d_X11_gain_11 (by decide) rfl) ?_
    refine xa_step (xa_iconst d_X11_gain_12 xq_i_0) ?_
    refine xa_step (xa_istore (ls' := [some (xR v0), some (xI v1), some (xI v2), some (xI 0), some (xI 0)]) d_X11_gain_13 (by decide) rfl) ?_
    refine xa_weak (ls' := [some (xR v0), some (xI v1), some (xI v2), some (xI 0), some (xI 0)]) ⟨rfl, rfl, rfl, rfl, rfl, trivial⟩ ?_
    refine xa_loop (f := fun s => f_X11_gain_L15 v0 v1 v2 h s.1 s.2) (L := fun s => [some (xR v0), some (xI v1), some (xI v2), some (xI s.1), some (xI s.2)]) (P := fun s => h) (X := (fun x K => xa_G l G 4 mX11_gain (some (Sum.inr x)) K 56 [none, none, some (xI v2), some (xI x), none] [] h)) (fun K hb hX s => g_X11_gain_L15 l G v0 v1 v2 h K (fun w0 w1 => hb ((w0, w1))) (fun w0 => hX w0) s.1 s.2) ?_ xFU ((0, 0))
    intro e9 K hK
    refine xa_eqE hK ?_
    show xa_G l G 4 mX11_gain _ _ 56 [none, none, some (xI v2), some (xI e9), none] [] h
    refine xa_step (xa_iload_n d_X11_gain_56 rfl) ?_
    refine xa_case (fun q10 => ?_) (fun q10 => ?_)
    · refine xa_step (xa_lookup (off := 27) d_X11_gain_57 (by decide) (by rw [q10]; decide) rfl) ?_
      refine xa_step (xa_iload_n d_X11_gain_84 rfl) ?_
      refine xa_callSi (as := [xI e9]) (st := []) (M' := mJ6_bitCount_0f7a4) (d' := 2) xw_1105 xw_575 xw_576 xw_176 xh_J6_bitCount_0f7a4 rfl ⟨Nat.le_of_ble_eq_true rfl, Nat.le_of_ble_eq_true rfl⟩ (Nat.le_of_ble_eq_true rfl) rfl d_X11_gain_85 (fun r hr => ct_J6_bitCount_0f7a4 l G e9 h r hr) (fun r11 _ => ?_)
      exact xa_iret d_X11_gain_88 rfl rfl
    · refine xa_case (fun q12 => ?_) (fun q12 => ?_)
      · refine xa_step (xa_lookup (off := 32) d_X11_gain_57 (by decide) (by rw [q12]; decide) rfl) ?_
        refine xa_step (xa_iload_n d_X11_gain_89 rfl) ?_
        exact xa_iret d_X11_gain_90 rfl rfl
      · refine xa_step (xa_lookup (off := 34) d_X11_gain_57 (by decide) (by simp [Op.lookupswitch.offset, Ne.symm q10, Ne.symm q12]) rfl) ?_
        refine xa_step (xa_iconst d_X11_gain_91 xq_i_m1) ?_
        exact xa_iret d_X11_gain_92 rfl rfl
theorem ct_X11_gain (l : Launch) (G : xa_C) (v0 v1 v2 : Int) (h : xa_H) (r : Int) (hr : f_X11_gain v0 v1 v2 h = some r) : xa_CT l G 4 mX11_gain yX11_gain [xR v0, xI v1, xI v2] h (some (xI r), h) :=
  xa_met (by decide +kernel) rfl (fun q => by first | rfl | cases q) (Nat.le_of_ble_eq_true rfl) rfl (g_X11_gain l G v0 v1 v2 h) (by rw [hr]; rfl)
abbrev mX11_settledHolders : xa_M := (cX11_settledHolders, 3, (some (.int)), RX11, false)
theorem d_X11_settledHolders_0 : decode mX11_settledHolders.1 0 = .ok (.iconst 0, 1) ∧ 0 + 1 = 1 := ⟨by decide +kernel, rfl⟩
theorem d_X11_settledHolders_1 : decode mX11_settledHolders.1 1 = .ok (.istore_n 1, 1) ∧ 1 + 1 = 2 := ⟨by decide +kernel, rfl⟩
theorem d_X11_settledHolders_2 : decode mX11_settledHolders.1 2 = .ok (.iconst 0, 1) ∧ 2 + 1 = 3 := ⟨by decide +kernel, rfl⟩
theorem d_X11_settledHolders_3 : decode mX11_settledHolders.1 3 = .ok (.istore_n 2, 1) ∧ 3 + 1 = 4 := ⟨by decide +kernel, rfl⟩
theorem d_X11_settledHolders_4 : decode mX11_settledHolders.1 4 = .ok (.iload_n 2, 1) ∧ 4 + 1 = 5 := ⟨by decide +kernel, rfl⟩
theorem d_X11_settledHolders_5 : decode mX11_settledHolders.1 5 = .ok (.aload_n 0, 1) ∧ 5 + 1 = 6 := ⟨by decide +kernel, rfl⟩
theorem d_X11_settledHolders_6 : decode mX11_settledHolders.1 6 = .ok (.getfield 47, 3) ∧ 6 + 3 = 9 := ⟨by decide +kernel, rfl⟩
theorem d_X11_settledHolders_9 : decode mX11_settledHolders.1 9 = .ok (.getfield 146, 3) ∧ 9 + 3 = 12 := ⟨by decide +kernel, rfl⟩
theorem d_X11_settledHolders_12 : decode mX11_settledHolders.1 12 = .ok (.if_icmp .ge 25, 3) ∧ 12 + 3 = 15 ∧ ((12 : Nat) : Int) + 25 = ((37 : Nat) : Int) := ⟨by decide +kernel, rfl, rfl⟩
theorem d_X11_settledHolders_15 : decode mX11_settledHolders.1 15 = .ok (.iload_n 1, 1) ∧ 15 + 1 = 16 := ⟨by decide +kernel, rfl⟩
theorem d_X11_settledHolders_16 : decode mX11_settledHolders.1 16 = .ok (.aload_n 0, 1) ∧ 16 + 1 = 17 := ⟨by decide +kernel, rfl⟩
theorem d_X11_settledHolders_17 : decode mX11_settledHolders.1 17 = .ok (.iload_n 2, 1) ∧ 17 + 1 = 18 := ⟨by decide +kernel, rfl⟩
theorem d_X11_settledHolders_18 : decode mX11_settledHolders.1 18 = .ok (.invokevirtual 226, 3) ∧ 18 + 3 = 21 := ⟨by decide +kernel, rfl⟩
theorem d_X11_settledHolders_21 : decode mX11_settledHolders.1 21 = .ok (.ifCond .eq 7, 3) ∧ 21 + 3 = 24 ∧ ((21 : Nat) : Int) + 7 = ((28 : Nat) : Int) := ⟨by decide +kernel, rfl, rfl⟩
theorem d_X11_settledHolders_28 : decode mX11_settledHolders.1 28 = .ok (.iconst 0, 1) ∧ 28 + 1 = 29 := ⟨by decide +kernel, rfl⟩
theorem d_X11_settledHolders_29 : decode mX11_settledHolders.1 29 = .ok (.iadd, 1) ∧ 29 + 1 = 30 := ⟨by decide +kernel, rfl⟩
theorem d_X11_settledHolders_30 : decode mX11_settledHolders.1 30 = .ok (.istore_n 1, 1) ∧ 30 + 1 = 31 := ⟨by decide +kernel, rfl⟩
theorem d_X11_settledHolders_31 : decode mX11_settledHolders.1 31 = .ok (.iinc 2 1, 3) ∧ 31 + 3 = 34 := ⟨by decide +kernel, rfl⟩
theorem d_X11_settledHolders_34 : decode mX11_settledHolders.1 34 = .ok (.goto (-30), 3) ∧ ((34 : Nat) : Int) + (-30) = ((4 : Nat) : Int) := ⟨by decide +kernel, rfl⟩
theorem d_X11_settledHolders_24 : decode mX11_settledHolders.1 24 = .ok (.iconst 1, 1) ∧ 24 + 1 = 25 := ⟨by decide +kernel, rfl⟩
theorem d_X11_settledHolders_25 : decode mX11_settledHolders.1 25 = .ok (.goto 4, 3) ∧ ((25 : Nat) : Int) + 4 = ((29 : Nat) : Int) := ⟨by decide +kernel, rfl⟩
set_option maxRecDepth 100000 in
set_option maxHeartbeats 4000000 in
theorem g_X11_settledHolders_L4 (l : Launch) (G : xa_C) (c0 : Int) (h : xa_H) (K : (Int × Int) ⊕ (Int) → Option xa_O) (hb : ∀ (v1 : Int) (v2 : Int), xa_G l G 3 mX11_settledHolders (some (Sum.inl ((v1, v2)))) K 4 [some (xR c0), some (xI v1), some (xI v2)] [] h) (hx : ∀ (v1 : Int), xa_G l G 3 mX11_settledHolders (some (Sum.inr v1)) K 37 [none, some (xI v1), none] [] h) : ∀ (v1 : Int) (v2 : Int), xa_G l G 3 mX11_settledHolders (f_X11_settledHolders_L4 c0 h v1 v2) K 4 [some (xR c0), some (xI v1), some (xI v2)] [] h := by
  intro v1 v2
  unfold f_X11_settledHolders_L4
  refine xa_step (xa_iload_n d_X11_settledHolders_4 rfl) ?_
  refine xa_step (xa_aload_n d_X11_settledHolders_5 rfl) ?_
  refine xa_getf xR xc_11 (by decide) (fun _ => rfl) xw_589 rfl d_X11_settledHolders_6 (fun x1 _ => ?_)
  refine xa_getf xI xc_0 (by decide) (fun _ => rfl) xw_391 rfl d_X11_settledHolders_9 (fun x2 _ => ?_)
  refine xa_if (xa_icmpge d_X11_settledHolders_12) (fun q3 => ?_) (fun q3 => ?_)
  · refine xa_step (xa_iload_n d_X11_settledHolders_15 rfl) ?_
    refine xa_step (xa_aload_n d_X11_settledHolders_16 rfl) ?_
    refine xa_step (xa_iload_n d_X11_settledHolders_17 rfl) ?_
    refine xa_callVi (as := [xI v2]) (st := [xI v1]) (M' := mX11_isSettled) (d' := 2) rfl xw_894 xw_896 xw_29 xw_897 xw_161 xh_X11_isSettled rfl ⟨Nat.le_of_ble_eq_true rfl, Nat.le_of_ble_eq_true rfl⟩ (Nat.le_of_ble_eq_true rfl) rfl d_X11_settledHolders_18 (fun r hr => ct_X11_isSettled l G c0 v2 h r hr) (fun r4 _ => ?_)
    refine xa_if (xa_ifeq d_X11_settledHolders_21) (fun q5 => ?_) (fun q5 => ?_)
    · refine xa_step (xa_iconst d_X11_settledHolders_28 xq_i_0) ?_
      refine xa_step (xa_iadd d_X11_settledHolders_29) ?_
      refine xa_step (xa_istore_n (ls' := [some (xR c0), some (xI (w32 (v1 + 0))), some (xI v2)]) d_X11_settledHolders_30 (by decide) rfl) ?_
      refine xa_step (xa_iinc (ls' := [some (xR c0), some (xI (w32 (v1 + 0))), some (xI (w32 (v2 + 1)))]) d_X11_settledHolders_31 xq_i_1 rfl (by decide) rfl) ?_
      refine xa_step (xa_goto d_X11_settledHolders_34) ?_
      exact xa_weak (ls' := [some (xR c0), some (xI (w32 (v1 + 0))), some (xI (w32 (v2 + 1)))]) ⟨rfl, rfl, rfl, trivial⟩ (hb (w32 (v1 + 0)) (w32 (v2 + 1)))
    · refine xa_step (xa_iconst d_X11_settledHolders_24 xq_i_1) ?_
      refine xa_step (xa_goto d_X11_settledHolders_25) ?_
      refine xa_step (xa_iadd d_X11_settledHolders_29) ?_
      refine xa_step (xa_istore_n (ls' := [some (xR c0), some (xI (w32 (v1 + 1))), some (xI v2)]) d_X11_settledHolders_30 (by decide) rfl) ?_
      refine xa_step (xa_iinc (ls' := [some (xR c0), some (xI (w32 (v1 + 1))), some (xI (w32 (v2 + 1)))]) d_X11_settledHolders_31 xq_i_1 rfl (by decide) rfl) ?_
      refine xa_step (xa_goto d_X11_settledHolders_34) ?_
      exact xa_weak (ls' := [some (xR c0), some (xI (w32 (v1 + 1))), some (xI (w32 (v2 + 1)))]) ⟨rfl, rfl, rfl, trivial⟩ (hb (w32 (v1 + 1)) (w32 (v2 + 1)))
  · exact xa_weak (ls' := [none, some (xI v1), none]) ⟨rfl, trivial⟩ (hx v1)
theorem d_X11_settledHolders_37 : decode mX11_settledHolders.1 37 = .ok (.iload_n 1, 1) ∧ 37 + 1 = 38 := ⟨by decide +kernel, rfl⟩
theorem d_X11_settledHolders_38 : decode mX11_settledHolders.1 38 = .ok (.ireturn, 1) := by decide +kernel
set_option maxRecDepth 100000 in
set_option maxHeartbeats 4000000 in
theorem g_X11_settledHolders (l : Launch) (G : xa_C) (v0 : Int) (h : xa_H) : xa_G l G 3 mX11_settledHolders (f_X11_settledHolders v0 h) (fun r => some (some (xI r), h) : Int → Option xa_O) 0 [some (xR v0), none, none] [] h := by
  unfold f_X11_settledHolders
  refine xa_step (xa_iconst d_X11_settledHolders_0 xq_i_0) ?_
  refine xa_step (xa_istore_n (ls' := [some (xR v0), some (xI 0), none]) d_X11_settledHolders_1 (by decide) rfl) ?_
  refine xa_step (xa_iconst d_X11_settledHolders_2 xq_i_0) ?_
  refine xa_step (xa_istore_n (ls' := [some (xR v0), some (xI 0), some (xI 0)]) d_X11_settledHolders_3 (by decide) rfl) ?_
  refine xa_weak (ls' := [some (xR v0), some (xI 0), some (xI 0)]) ⟨rfl, rfl, rfl, trivial⟩ ?_
  refine xa_loop (f := fun s => f_X11_settledHolders_L4 v0 h s.1 s.2) (L := fun s => [some (xR v0), some (xI s.1), some (xI s.2)]) (P := fun s => h) (X := (fun x K => xa_G l G 3 mX11_settledHolders (some (Sum.inr x)) K 37 [none, some (xI x), none] [] h)) (fun K hb hX s => g_X11_settledHolders_L4 l G v0 h K (fun w0 w1 => hb ((w0, w1))) (fun w0 => hX w0) s.1 s.2) ?_ xFU ((0, 0))
  intro e6 K hK
  refine xa_eqE hK ?_
  show xa_G l G 3 mX11_settledHolders _ _ 37 [none, some (xI e6), none] [] h
  refine xa_step (xa_iload_n d_X11_settledHolders_37 rfl) ?_
  exact xa_iret d_X11_settledHolders_38 rfl rfl
theorem ct_X11_settledHolders (l : Launch) (G : xa_C) (v0 : Int) (h : xa_H) (r : Int) (hr : f_X11_settledHolders v0 h = some r) : xa_CT l G 3 mX11_settledHolders yX11_settledHolders [xR v0] h (some (xI r), h) :=
  xa_met (by decide +kernel) rfl (fun q => by first | rfl | cases q) (Nat.le_of_ble_eq_true rfl) rfl (g_X11_settledHolders l G v0 h) (by rw [hr]; rfl)
abbrev mX11_valueOfAll : xa_M := (cX11_valueOfAll, 3, (some (.int)), RX11, false)
theorem d_X11_valueOfAll_0 : decode mX11_valueOfAll.1 0 = .ok (.iconst 0, 1) ∧ 0 + 1 = 1 := ⟨by decide +kernel, rfl⟩
theorem d_X11_valueOfAll_1 : decode mX11_valueOfAll.1 1 = .ok (.istore_n 1, 1) ∧ 1 + 1 = 2 := ⟨by decide +kernel, rfl⟩
theorem d_X11_valueOfAll_2 : decode mX11_valueOfAll.1 2 = .ok (.iconst 0, 1) ∧ 2 + 1 = 3 := ⟨by decide +kernel, rfl⟩
theorem d_X11_valueOfAll_3 : decode mX11_valueOfAll.1 3 = .ok (.istore_n 2, 1) ∧ 3 + 1 = 4 := ⟨by decide +kernel, rfl⟩
theorem d_X11_valueOfAll_4 : decode mX11_valueOfAll.1 4 = .ok (.iload_n 2, 1) ∧ 4 + 1 = 5 := ⟨by decide +kernel, rfl⟩
theorem d_X11_valueOfAll_5 : decode mX11_valueOfAll.1 5 = .ok (.aload_n 0, 1) ∧ 5 + 1 = 6 := ⟨by decide +kernel, rfl⟩
theorem d_X11_valueOfAll_6 : decode mX11_valueOfAll.1 6 = .ok (.getfield 47, 3) ∧ 6 + 3 = 9 := ⟨by decide +kernel, rfl⟩
theorem d_X11_valueOfAll_9 : decode mX11_valueOfAll.1 9 = .ok (.getfield 146, 3) ∧ 9 + 3 = 12 := ⟨by decide +kernel, rfl⟩
theorem d_X11_valueOfAll_12 : decode mX11_valueOfAll.1 12 = .ok (.if_icmp .ge 29, 3) ∧ 12 + 3 = 15 ∧ ((12 : Nat) : Int) + 29 = ((41 : Nat) : Int) := ⟨by decide +kernel, rfl, rfl⟩
theorem d_X11_valueOfAll_15 : decode mX11_valueOfAll.1 15 = .ok (.iload_n 1, 1) ∧ 15 + 1 = 16 := ⟨by decide +kernel, rfl⟩
theorem d_X11_valueOfAll_16 : decode mX11_valueOfAll.1 16 = .ok (.aload_n 0, 1) ∧ 16 + 1 = 17 := ⟨by decide +kernel, rfl⟩
theorem d_X11_valueOfAll_17 : decode mX11_valueOfAll.1 17 = .ok (.getfield 47, 3) ∧ 17 + 3 = 20 := ⟨by decide +kernel, rfl⟩
theorem d_X11_valueOfAll_20 : decode mX11_valueOfAll.1 20 = .ok (.iload_n 2, 1) ∧ 20 + 1 = 21 := ⟨by decide +kernel, rfl⟩
theorem d_X11_valueOfAll_21 : decode mX11_valueOfAll.1 21 = .ok (.aload_n 0, 1) ∧ 21 + 1 = 22 := ⟨by decide +kernel, rfl⟩
theorem d_X11_valueOfAll_22 : decode mX11_valueOfAll.1 22 = .ok (.getfield 54, 3) ∧ 22 + 3 = 25 := ⟨by decide +kernel, rfl⟩
theorem d_X11_valueOfAll_25 : decode mX11_valueOfAll.1 25 = .ok (.getfield 217, 3) ∧ 25 + 3 = 28 := ⟨by decide +kernel, rfl⟩
theorem d_X11_valueOfAll_28 : decode mX11_valueOfAll.1 28 = .ok (.iload_n 2, 1) ∧ 28 + 1 = 29 := ⟨by decide +kernel, rfl⟩
theorem d_X11_valueOfAll_29 : decode mX11_valueOfAll.1 29 = .ok (.iaload, 1) ∧ 29 + 1 = 30 := ⟨by decide +kernel, rfl⟩
theorem d_X11_valueOfAll_30 : decode mX11_valueOfAll.1 30 = .ok (.invokevirtual 232, 3) ∧ 30 + 3 = 33 := ⟨by decide +kernel, rfl⟩
theorem d_X11_valueOfAll_33 : decode mX11_valueOfAll.1 33 = .ok (.iadd, 1) ∧ 33 + 1 = 34 := ⟨by decide +kernel, rfl⟩
theorem d_X11_valueOfAll_34 : decode mX11_valueOfAll.1 34 = .ok (.istore_n 1, 1) ∧ 34 + 1 = 35 := ⟨by decide +kernel, rfl⟩
theorem d_X11_valueOfAll_35 : decode mX11_valueOfAll.1 35 = .ok (.iinc 2 1, 3) ∧ 35 + 3 = 38 := ⟨by decide +kernel, rfl⟩
theorem d_X11_valueOfAll_38 : decode mX11_valueOfAll.1 38 = .ok (.goto (-34), 3) ∧ ((38 : Nat) : Int) + (-34) = ((4 : Nat) : Int) := ⟨by decide +kernel, rfl⟩
set_option maxRecDepth 100000 in
set_option maxHeartbeats 4000000 in
theorem g_X11_valueOfAll_L4 (l : Launch) (G : xa_C) (c0 : Int) (h : xa_H) (K : (Int × Int) ⊕ (Int) → Option xa_O) (hb : ∀ (v1 : Int) (v2 : Int), xa_G l G 3 mX11_valueOfAll (some (Sum.inl ((v1, v2)))) K 4 [some (xR c0), some (xI v1), some (xI v2)] [] h) (hx : ∀ (v1 : Int), xa_G l G 3 mX11_valueOfAll (some (Sum.inr v1)) K 41 [none, some (xI v1), none] [] h) : ∀ (v1 : Int) (v2 : Int), xa_G l G 3 mX11_valueOfAll (f_X11_valueOfAll_L4 c0 h v1 v2) K 4 [some (xR c0), some (xI v1), some (xI v2)] [] h := by
  intro v1 v2
  unfold f_X11_valueOfAll_L4
  refine xa_step (xa_iload_n d_X11_valueOfAll_4 rfl) ?_
  refine xa_step (xa_aload_n d_X11_valueOfAll_5 rfl) ?_
  refine xa_getf xR xc_11 (by decide) (fun _ => rfl) xw_589 rfl d_X11_valueOfAll_6 (fun x1 _ => ?_)
  refine xa_getf xI xc_0 (by decide) (fun _ => rfl) xw_391 rfl d_X11_valueOfAll_9 (fun x2 _ => ?_)
  refine xa_if (xa_icmpge d_X11_valueOfAll_12) (fun q3 => ?_) (fun q3 => ?_)
  · refine xa_step (xa_iload_n d_X11_valueOfAll_15 rfl) ?_
    refine xa_step (xa_aload_n d_X11_valueOfAll_16 rfl) ?_
    refine xa_getf xR xc_11 (by decide) (fun _ => rfl) xw_589 rfl d_X11_valueOfAll_17 (fun x4 _ => ?_)
    refine xa_step (xa_iload_n d_X11_valueOfAll_20 rfl) ?_
    refine xa_step (xa_aload_n d_X11_valueOfAll_21 rfl) ?_
    refine xa_getf xR xc_11 (by decide) (fun _ => rfl) xw_590 rfl d_X11_valueOfAll_22 (fun x5 _ => ?_)
    refine xa_getf xR xc_9 (by decide) (fun _ => rfl) xw_346 rfl d_X11_valueOfAll_25 (fun x6 _ => ?_)
    refine xa_step (xa_iload_n d_X11_valueOfAll_28 rfl) ?_
    refine xa_iaload d_X11_valueOfAll_29 (fun x7 _ => ?_)
    refine xa_callVi (as := [xI v2, xI x7]) (st := [xI v1]) (M' := mX0_valueOf) (d' := 2) rfl xw_906 xw_907 xw_908 xw_909 xw_169 xh_X0_valueOf rfl ⟨Nat.le_of_ble_eq_true rfl, Nat.le_of_ble_eq_true rfl⟩ (Nat.le_of_ble_eq_true rfl) rfl d_X11_valueOfAll_30 (fun r hr => ct_X0_valueOf l G x4 v2 x7 h r hr) (fun r8 _ => ?_)
    refine xa_step (xa_iadd d_X11_valueOfAll_33) ?_
    refine xa_step (xa_istore_n (ls' := [some (xR c0), some (xI (w32 (v1 + r8))), some (xI v2)]) d_X11_valueOfAll_34 (by decide) rfl) ?_
    refine xa_step (xa_iinc (ls' := [some (xR c0), some (xI (w32 (v1 + r8))), some (xI (w32 (v2 + 1)))]) d_X11_valueOfAll_35 xq_i_1 rfl (by decide) rfl) ?_
    refine xa_step (xa_goto d_X11_valueOfAll_38) ?_
    exact xa_weak (ls' := [some (xR c0), some (xI (w32 (v1 + r8))), some (xI (w32 (v2 + 1)))]) ⟨rfl, rfl, rfl, trivial⟩ (hb (w32 (v1 + r8)) (w32 (v2 + 1)))
  · exact xa_weak (ls' := [none, some (xI v1), none]) ⟨rfl, trivial⟩ (hx v1)
theorem d_X11_valueOfAll_41 : decode mX11_valueOfAll.1 41 = .ok (.iload_n 1, 1) ∧ 41 + 1 = 42 := ⟨by decide +kernel, rfl⟩
theorem d_X11_valueOfAll_42 : decode mX11_valueOfAll.1 42 = .ok (.ireturn, 1) := by decide +kernel
set_option maxRecDepth 100000 in
set_option maxHeartbeats 4000000 in
theorem g_X11_valueOfAll (l : Launch) (G : xa_C) (v0 : Int) (h : xa_H) : xa_G l G 3 mX11_valueOfAll (f_X11_valueOfAll v0 h) (fun r => some (some (xI r), h) : Int → Option xa_O) 0 [some (xR v0), none, none] [] h := by
  unfold f_X11_valueOfAll
  refine xa_step (xa_iconst d_X11_valueOfAll_0 xq_i_0) ?_
  refine xa_step (xa_istore_n (ls' := [some (xR v0), some (xI 0), none]) d_X11_valueOfAll_1 (by decide) rfl) ?_
  refine xa_step (xa_iconst d_X11_valueOfAll_2 xq_i_0) ?_
  refine xa_step (xa_istore_n (ls' := [some (xR v0), some (xI 0), some (xI 0)]) d_X11_valueOfAll_3 (by decide) rfl) ?_
  refine xa_weak (ls' := [some (xR v0), some (xI 0), some (xI 0)]) ⟨rfl, rfl, rfl, trivial⟩ ?_
  refine xa_loop (f := fun s => f_X11_valueOfAll_L4 v0 h s.1 s.2) (L := fun s => [some (xR v0), some (xI s.1), some (xI s.2)]) (P := fun s => h) (X := (fun x K => xa_G l G 3 mX11_valueOfAll (some (Sum.inr x)) K 41 [none, some (xI x), none] [] h)) (fun K hb hX s => g_X11_valueOfAll_L4 l G v0 h K (fun w0 w1 => hb ((w0, w1))) (fun w0 => hX w0) s.1 s.2) ?_ xFU ((0, 0))
  intro e9 K hK
  refine xa_eqE hK ?_
  show xa_G l G 3 mX11_valueOfAll _ _ 41 [none, some (xI e9), none] [] h
  refine xa_step (xa_iload_n d_X11_valueOfAll_41 rfl) ?_
  exact xa_iret d_X11_valueOfAll_42 rfl rfl
theorem ct_X11_valueOfAll (l : Launch) (G : xa_C) (v0 : Int) (h : xa_H) (r : Int) (hr : f_X11_valueOfAll v0 h = some r) : xa_CT l G 3 mX11_valueOfAll yX11_valueOfAll [xR v0] h (some (xI r), h) :=
  xa_met (by decide +kernel) rfl (fun q => by first | rfl | cases q) (Nat.le_of_ble_eq_true rfl) rfl (g_X11_valueOfAll l G v0 h) (by rw [hr]; rfl)
abbrev mX11_has : xa_M := (cX11_has, 2, (some (.int)), RX11, false)
theorem d_X11_has_0 : decode mX11_has.1 0 = .ok (.iload_n 1, 1) ∧ 0 + 1 = 1 := ⟨by decide +kernel, rfl⟩
theorem d_X11_has_1 : decode mX11_has.1 1 = .ok (.tableswitch 138 0 10 #[59, 67, 75, 83, 91, 99, 104, 109, 114, 122, 130], 59) := by decide +kernel
theorem d_X11_has_60 : decode mX11_has.1 60 = .ok (.aload_n 0, 1) ∧ 60 + 1 = 61 := ⟨by decide +kernel, rfl⟩
theorem d_X11_has_61 : decode mX11_has.1 61 = .ok (.getfield 47, 3) ∧ 61 + 3 = 64 := ⟨by decide +kernel, rfl⟩
theorem d_X11_has_64 : decode mX11_has.1 64 = .ok (.getfield 149, 3) ∧ 64 + 3 = 67 := ⟨by decide +kernel, rfl⟩
theorem d_X11_has_67 : decode mX11_has.1 67 = .ok (.ireturn, 1) := by decide +kernel
theorem d_X11_has_68 : decode mX11_has.1 68 = .ok (.aload_n 0, 1) ∧ 68 + 1 = 69 := ⟨by decide +kernel, rfl⟩
theorem d_X11_has_69 : decode mX11_has.1 69 = .ok (.getfield 47, 3) ∧ 69 + 3 = 72 := ⟨by decide +kernel, rfl⟩
theorem d_X11_has_72 : decode mX11_has.1 72 = .ok (.getfield 146, 3) ∧ 72 + 3 = 75 := ⟨by decide +kernel, rfl⟩
theorem d_X11_has_75 : decode mX11_has.1 75 = .ok (.ireturn, 1) := by decide +kernel
theorem d_X11_has_76 : decode mX11_has.1 76 = .ok (.aload_n 0, 1) ∧ 76 + 1 = 77 := ⟨by decide +kernel, rfl⟩
theorem d_X11_has_77 : decode mX11_has.1 77 = .ok (.getfield 47, 3) ∧ 77 + 3 = 80 := ⟨by decide +kernel, rfl⟩
theorem d_X11_has_80 : decode mX11_has.1 80 = .ok (.getfield 161, 3) ∧ 80 + 3 = 83 := ⟨by decide +kernel, rfl⟩
theorem d_X11_has_83 : decode mX11_has.1 83 = .ok (.ireturn, 1) := by decide +kernel
theorem d_X11_has_84 : decode mX11_has.1 84 = .ok (.aload_n 0, 1) ∧ 84 + 1 = 85 := ⟨by decide +kernel, rfl⟩
theorem d_X11_has_85 : decode mX11_has.1 85 = .ok (.getfield 47, 3) ∧ 85 + 3 = 88 := ⟨by decide +kernel, rfl⟩
theorem d_X11_has_88 : decode mX11_has.1 88 = .ok (.getfield 164, 3) ∧ 88 + 3 = 91 := ⟨by decide +kernel, rfl⟩
theorem d_X11_has_91 : decode mX11_has.1 91 = .ok (.ireturn, 1) := by decide +kernel
theorem d_X11_has_92 : decode mX11_has.1 92 = .ok (.aload_n 0, 1) ∧ 92 + 1 = 93 := ⟨by decide +kernel, rfl⟩
theorem d_X11_has_93 : decode mX11_has.1 93 = .ok (.getfield 54, 3) ∧ 93 + 3 = 96 := ⟨by decide +kernel, rfl⟩
theorem d_X11_has_96 : decode mX11_has.1 96 = .ok (.getfield 167, 3) ∧ 96 + 3 = 99 := ⟨by decide +kernel, rfl⟩
theorem d_X11_has_99 : decode mX11_has.1 99 = .ok (.ireturn, 1) := by decide +kernel
theorem d_X11_has_100 : decode mX11_has.1 100 = .ok (.aload_n 0, 1) ∧ 100 + 1 = 101 := ⟨by decide +kernel, rfl⟩
theorem d_X11_has_101 : decode mX11_has.1 101 = .ok (.invokevirtual 170, 3) ∧ 101 + 3 = 104 := ⟨by decide +kernel, rfl⟩
theorem d_X11_has_104 : decode mX11_has.1 104 = .ok (.ireturn, 1) := by decide +kernel
theorem d_X11_has_105 : decode mX11_has.1 105 = .ok (.aload_n 0, 1) ∧ 105 + 1 = 106 := ⟨by decide +kernel, rfl⟩
theorem d_X11_has_106 : decode mX11_has.1 106 = .ok (.invokevirtual 173, 3) ∧ 106 + 3 = 109 := ⟨by decide +kernel, rfl⟩
theorem d_X11_has_109 : decode mX11_has.1 109 = .ok (.ireturn, 1) := by decide +kernel
theorem d_X11_has_110 : decode mX11_has.1 110 = .ok (.aload_n 0, 1) ∧ 110 + 1 = 111 := ⟨by decide +kernel, rfl⟩
theorem d_X11_has_111 : decode mX11_has.1 111 = .ok (.invokevirtual 176, 3) ∧ 111 + 3 = 114 := ⟨by decide +kernel, rfl⟩
theorem d_X11_has_114 : decode mX11_has.1 114 = .ok (.ireturn, 1) := by decide +kernel
theorem d_X11_has_115 : decode mX11_has.1 115 = .ok (.aload_n 0, 1) ∧ 115 + 1 = 116 := ⟨by decide +kernel, rfl⟩
theorem d_X11_has_116 : decode mX11_has.1 116 = .ok (.getfield 54, 3) ∧ 116 + 3 = 119 := ⟨by decide +kernel, rfl⟩
theorem d_X11_has_119 : decode mX11_has.1 119 = .ok (.getfield 179, 3) ∧ 119 + 3 = 122 := ⟨by decide +kernel, rfl⟩
theorem d_X11_has_122 : decode mX11_has.1 122 = .ok (.ireturn, 1) := by decide +kernel
theorem d_X11_has_123 : decode mX11_has.1 123 = .ok (.aload_n 0, 1) ∧ 123 + 1 = 124 := ⟨by decide +kernel, rfl⟩
theorem d_X11_has_124 : decode mX11_has.1 124 = .ok (.getfield 78, 3) ∧ 124 + 3 = 127 := ⟨by decide +kernel, rfl⟩
theorem d_X11_has_127 : decode mX11_has.1 127 = .ok (.getfield 182, 3) ∧ 127 + 3 = 130 := ⟨by decide +kernel, rfl⟩
theorem d_X11_has_130 : decode mX11_has.1 130 = .ok (.ireturn, 1) := by decide +kernel
theorem d_X11_has_131 : decode mX11_has.1 131 = .ok (.aload_n 0, 1) ∧ 131 + 1 = 132 := ⟨by decide +kernel, rfl⟩
theorem d_X11_has_132 : decode mX11_has.1 132 = .ok (.getfield 61, 3) ∧ 132 + 3 = 135 := ⟨by decide +kernel, rfl⟩
theorem d_X11_has_135 : decode mX11_has.1 135 = .ok (.getfield 185, 3) ∧ 135 + 3 = 138 := ⟨by decide +kernel, rfl⟩
theorem d_X11_has_138 : decode mX11_has.1 138 = .ok (.ireturn, 1) := by decide +kernel
theorem d_X11_has_139 : decode mX11_has.1 139 = .ok (.iconst (-1), 1) ∧ 139 + 1 = 140 := ⟨by decide +kernel, rfl⟩
theorem d_X11_has_140 : decode mX11_has.1 140 = .ok (.ireturn, 1) := by decide +kernel
set_option maxRecDepth 100000 in
set_option maxHeartbeats 4000000 in
theorem g_X11_has (l : Launch) (G : xa_C) (v0 v1 : Int) (h : xa_H) : xa_G l G 4 mX11_has (f_X11_has v0 v1 h) (fun r => some (some (xI r), h) : Int → Option xa_O) 0 [some (xR v0), some (xI v1)] [] h := by
  unfold f_X11_has
  refine xa_step (xa_iload_n d_X11_has_0 rfl) ?_
  refine xa_case (fun q1 => ?_) (fun q1 => ?_)
  · refine xa_step (xa_tabIn (k := 0) d_X11_has_1 q1 (by decide) (by decide) rfl rfl) ?_
    refine xa_step (xa_aload_n d_X11_has_60 rfl) ?_
    refine xa_getf xR xc_11 (by decide) (fun _ => rfl) xw_589 rfl d_X11_has_61 (fun x2 _ => ?_)
    refine xa_getf xI xc_0 (by decide) (fun _ => rfl) xw_386 rfl d_X11_has_64 (fun x3 _ => ?_)
    exact xa_iret d_X11_has_67 rfl rfl
  · refine xa_case (fun q4 => ?_) (fun q4 => ?_)
    · refine xa_step (xa_tabIn (k := 1) d_X11_has_1 q4 (by decide) (by decide) rfl rfl) ?_
      refine xa_step (xa_aload_n d_X11_has_68 rfl) ?_
      refine xa_getf xR xc_11 (by decide) (fun _ => rfl) xw_589 rfl d_X11_has_69 (fun x5 _ => ?_)
      refine xa_getf xI xc_0 (by decide) (fun _ => rfl) xw_391 rfl d_X11_has_72 (fun x6 _ => ?_)
      exact xa_iret d_X11_has_75 rfl rfl
    · refine xa_case (fun q7 => ?_) (fun q7 => ?_)
      · refine xa_step (xa_tabIn (k := 2) d_X11_has_1 q7 (by decide) (by decide) rfl rfl) ?_
        refine xa_step (xa_aload_n d_X11_has_76 rfl) ?_
        refine xa_getf xR xc_11 (by decide) (fun _ => rfl) xw_589 rfl d_X11_has_77 (fun x8 _ => ?_)
        refine xa_getf xI xc_0 (by decide) (fun _ => rfl) xw_394 rfl d_X11_has_80 (fun x9 _ => ?_)
        exact xa_iret d_X11_has_83 rfl rfl
      · refine xa_case (fun q10 => ?_) (fun q10 => ?_)
        · refine xa_step (xa_tabIn (k := 3) d_X11_has_1 q10 (by decide) (by decide) rfl rfl) ?_
          refine xa_step (xa_aload_n d_X11_has_84 rfl) ?_
          refine xa_getf xR xc_11 (by decide) (fun _ => rfl) xw_589 rfl d_X11_has_85 (fun x11 _ => ?_)
          refine xa_getf xI xc_0 (by decide) (fun _ => rfl) xw_396 rfl d_X11_has_88 (fun x12 _ => ?_)
          exact xa_iret d_X11_has_91 rfl rfl
        · refine xa_case (fun q13 => ?_) (fun q13 => ?_)
          · refine xa_step (xa_tabIn (k := 4) d_X11_has_1 q13 (by decide) (by decide) rfl rfl) ?_
            refine xa_step (xa_aload_n d_X11_has_92 rfl) ?_
            refine xa_getf xR xc_11 (by decide) (fun _ => rfl) xw_590 rfl d_X11_has_93 (fun x14 _ => ?_)
            refine xa_getf xI xc_9 (by decide) (fun _ => rfl) xw_341 rfl d_X11_has_96 (fun x15 _ => ?_)
            exact xa_iret d_X11_has_99 rfl rfl
          · refine xa_case (fun q16 => ?_) (fun q16 => ?_)
            · refine xa_step (xa_tabIn (k := 5) d_X11_has_1 q16 (by decide) (by decide) rfl rfl) ?_
              refine xa_step (xa_aload_n d_X11_has_100 rfl) ?_
              refine xa_callVi (as := []) (st := []) (M' := mX11_settledHolders) (d' := 3) rfl xw_890 xw_892 xw_28 xw_893 xw_161 xh_X11_settledHolders rfl ⟨Nat.le_of_ble_eq_true rfl, Nat.le_of_ble_eq_true rfl⟩ (Nat.le_of_ble_eq_true rfl) rfl d_X11_has_101 (fun r hr => ct_X11_settledHolders l G v0 h r hr) (fun r17 _ => ?_)
              exact xa_iret d_X11_has_104 rfl rfl
            · refine xa_case (fun q18 => ?_) (fun q18 => ?_)
              · refine xa_step (xa_tabIn (k := 6) d_X11_has_1 q18 (by decide) (by decide) rfl rfl) ?_
                refine xa_step (xa_aload_n d_X11_has_105 rfl) ?_
                refine xa_callVi (as := []) (st := []) (M' := mX11_coinsOfAll) (d' := 2) rfl xw_898 xw_900 xw_30 xw_901 xw_161 xh_X11_coinsOfAll rfl ⟨Nat.le_of_ble_eq_true rfl, Nat.le_of_ble_eq_true rfl⟩ (Nat.le_of_ble_eq_true rfl) rfl d_X11_has_106 (fun r hr => ct_X11_coinsOfAll l G v0 h r hr) (fun r19 _ => ?_)
                exact xa_iret d_X11_has_109 rfl rfl
              · refine xa_case (fun q20 => ?_) (fun q20 => ?_)
                · refine xa_step (xa_tabIn (k := 7) d_X11_has_1 q20 (by decide) (by decide) rfl rfl) ?_
                  refine xa_step (xa_aload_n d_X11_has_110 rfl) ?_
                  refine xa_callVi (as := []) (st := []) (M' := mX11_valueOfAll) (d' := 3) rfl xw_902 xw_904 xw_31 xw_905 xw_161 xh_X11_valueOfAll rfl ⟨Nat.le_of_ble_eq_true rfl, Nat.le_of_ble_eq_true rfl⟩ (Nat.le_of_ble_eq_true rfl) rfl d_X11_has_111 (fun r hr => ct_X11_valueOfAll l G v0 h r hr) (fun r21 _ => ?_)
                  exact xa_iret d_X11_has_114 rfl rfl
                · refine xa_case (fun q22 => ?_) (fun q22 => ?_)
                  · refine xa_step (xa_tabIn (k := 8) d_X11_has_1 q22 (by decide) (by decide) rfl rfl) ?_
                    refine xa_step (xa_aload_n d_X11_has_115 rfl) ?_
                    refine xa_getf xR xc_11 (by decide) (fun _ => rfl) xw_590 rfl d_X11_has_116 (fun x23 _ => ?_)
                    refine xa_getf xI xc_9 (by decide) (fun _ => rfl) xw_361 rfl d_X11_has_119 (fun x24 _ => ?_)
                    exact xa_iret d_X11_has_122 rfl rfl
                  · refine xa_case (fun q25 => ?_) (fun q25 => ?_)
                    · refine xa_step (xa_tabIn (k := 9) d_X11_has_1 q25 (by decide) (by decide) rfl rfl) ?_
                      refine xa_step (xa_aload_n d_X11_has_123 rfl) ?_
                      refine xa_getf xR xc_11 (by decide) (fun _ => rfl) xw_594 rfl d_X11_has_124 (fun x26 _ => ?_)
                      refine xa_getf xI xc_5 (by decide) (fun _ => rfl) xw_511 rfl d_X11_has_127 (fun x27 _ => ?_)
                      exact xa_iret d_X11_has_130 rfl rfl
                    · refine xa_case (fun q28 => ?_) (fun q28 => ?_)
                      · refine xa_step (xa_tabIn (k := 10) d_X11_has_1 q28 (by decide) (by decide) rfl rfl) ?_
                        refine xa_step (xa_aload_n d_X11_has_131 rfl) ?_
                        refine xa_getf xR xc_11 (by decide) (fun _ => rfl) xw_591 rfl d_X11_has_132 (fun x29 _ => ?_)
                        refine xa_getf xI xc_4 (by decide) (fun _ => rfl) xw_464 rfl d_X11_has_135 (fun x30 _ => ?_)
                        exact xa_iret d_X11_has_138 rfl rfl
                      · refine xa_step (xa_tabOut d_X11_has_1 (by omega) rfl) ?_
                        refine xa_step (xa_iconst d_X11_has_139 xq_i_m1) ?_
                        exact xa_iret d_X11_has_140 rfl rfl
theorem ct_X11_has (l : Launch) (G : xa_C) (v0 v1 : Int) (h : xa_H) (r : Int) (hr : f_X11_has v0 v1 h = some r) : xa_CT l G 4 mX11_has yX11_has [xR v0, xI v1] h (some (xI r), h) :=
  xa_met (by decide +kernel) rfl (fun q => by first | rfl | cases q) (Nat.le_of_ble_eq_true rfl) rfl (g_X11_has l G v0 v1 h) (by rw [hr]; rfl)
abbrev mX11_haveMet : xa_M := (cX11_haveMet, 3, (some (.boolean)), RX11, false)
theorem d_X11_haveMet_0 : decode mX11_haveMet.1 0 = .ok (.aload_n 0, 1) ∧ 0 + 1 = 1 := ⟨by decide +kernel, rfl⟩
theorem d_X11_haveMet_1 : decode mX11_haveMet.1 1 = .ok (.getfield 54, 3) ∧ 1 + 3 = 4 := ⟨by decide +kernel, rfl⟩
theorem d_X11_haveMet_4 : decode mX11_haveMet.1 4 = .ok (.getfield 235, 3) ∧ 4 + 3 = 7 := ⟨by decide +kernel, rfl⟩
theorem d_X11_haveMet_7 : decode mX11_haveMet.1 7 = .ok (.iload_n 1, 1) ∧ 7 + 1 = 8 := ⟨by decide +kernel, rfl⟩
theorem d_X11_haveMet_8 : decode mX11_haveMet.1 8 = .ok (.bipush 6, 2) ∧ 8 + 2 = 10 := ⟨by decide +kernel, rfl⟩
theorem d_X11_haveMet_10 : decode mX11_haveMet.1 10 = .ok (.imul, 1) ∧ 10 + 1 = 11 := ⟨by decide +kernel, rfl⟩
theorem d_X11_haveMet_11 : decode mX11_haveMet.1 11 = .ok (.iload_n 2, 1) ∧ 11 + 1 = 12 := ⟨by decide +kernel, rfl⟩
theorem d_X11_haveMet_12 : decode mX11_haveMet.1 12 = .ok (.iadd, 1) ∧ 12 + 1 = 13 := ⟨by decide +kernel, rfl⟩
theorem d_X11_haveMet_13 : decode mX11_haveMet.1 13 = .ok (.iaload, 1) ∧ 13 + 1 = 14 := ⟨by decide +kernel, rfl⟩
theorem d_X11_haveMet_14 : decode mX11_haveMet.1 14 = .ok (.ifCond .gt 20, 3) ∧ 14 + 3 = 17 ∧ ((14 : Nat) : Int) + 20 = ((34 : Nat) : Int) := ⟨by decide +kernel, rfl, rfl⟩
theorem d_X11_haveMet_34 : decode mX11_haveMet.1 34 = .ok (.iconst 1, 1) ∧ 34 + 1 = 35 := ⟨by decide +kernel, rfl⟩
theorem d_X11_haveMet_35 : decode mX11_haveMet.1 35 = .ok (.goto 4, 3) ∧ ((35 : Nat) : Int) + 4 = ((39 : Nat) : Int) := ⟨by decide +kernel, rfl⟩
theorem d_X11_haveMet_39 : decode mX11_haveMet.1 39 = .ok (.ireturn, 1) := by decide +kernel
theorem d_X11_haveMet_17 : decode mX11_haveMet.1 17 = .ok (.aload_n 0, 1) ∧ 17 + 1 = 18 := ⟨by decide +kernel, rfl⟩
theorem d_X11_haveMet_18 : decode mX11_haveMet.1 18 = .ok (.getfield 54, 3) ∧ 18 + 3 = 21 := ⟨by decide +kernel, rfl⟩
theorem d_X11_haveMet_21 : decode mX11_haveMet.1 21 = .ok (.getfield 235, 3) ∧ 21 + 3 = 24 := ⟨by decide +kernel, rfl⟩
theorem d_X11_haveMet_24 : decode mX11_haveMet.1 24 = .ok (.iload_n 2, 1) ∧ 24 + 1 = 25 := ⟨by decide +kernel, rfl⟩
theorem d_X11_haveMet_25 : decode mX11_haveMet.1 25 = .ok (.bipush 6, 2) ∧ 25 + 2 = 27 := ⟨by decide +kernel, rfl⟩
theorem d_X11_haveMet_27 : decode mX11_haveMet.1 27 = .ok (.imul, 1) ∧ 27 + 1 = 28 := ⟨by decide +kernel, rfl⟩
theorem d_X11_haveMet_28 : decode mX11_haveMet.1 28 = .ok (.iload_n 1, 1) ∧ 28 + 1 = 29 := ⟨by decide +kernel, rfl⟩
theorem d_X11_haveMet_29 : decode mX11_haveMet.1 29 = .ok (.iadd, 1) ∧ 29 + 1 = 30 := ⟨by decide +kernel, rfl⟩
theorem d_X11_haveMet_30 : decode mX11_haveMet.1 30 = .ok (.iaload, 1) ∧ 30 + 1 = 31 := ⟨by decide +kernel, rfl⟩
theorem d_X11_haveMet_31 : decode mX11_haveMet.1 31 = .ok (.ifCond .le 7, 3) ∧ 31 + 3 = 34 ∧ ((31 : Nat) : Int) + 7 = ((38 : Nat) : Int) := ⟨by decide +kernel, rfl, rfl⟩
theorem d_X11_haveMet_38 : decode mX11_haveMet.1 38 = .ok (.iconst 0, 1) ∧ 38 + 1 = 39 := ⟨by decide +kernel, rfl⟩
set_option maxRecDepth 100000 in
set_option maxHeartbeats 4000000 in
theorem g_X11_haveMet (l : Launch) (G : xa_C) (v0 v1 v2 : Int) (h : xa_H) : xa_G l G 2 mX11_haveMet (f_X11_haveMet v0 v1 v2 h) (fun r => some (some (xI r), h) : Int → Option xa_O) 0 [some (xR v0), some (xI v1), some (xI v2)] [] h := by
  unfold f_X11_haveMet
  refine xa_step (xa_aload_n d_X11_haveMet_0 rfl) ?_
  refine xa_getf xR xc_11 (by decide) (fun _ => rfl) xw_590 rfl d_X11_haveMet_1 (fun x1 _ => ?_)
  refine xa_getf xR xc_9 (by decide) (fun _ => rfl) xw_357 rfl d_X11_haveMet_4 (fun x2 _ => ?_)
  refine xa_step (xa_iload_n d_X11_haveMet_7 rfl) ?_
  refine xa_step (xa_bipush d_X11_haveMet_8 xq_b_6) ?_
  refine xa_step (xa_imul d_X11_haveMet_10) ?_
  refine xa_step (xa_iload_n d_X11_haveMet_11 rfl) ?_
  refine xa_step (xa_iadd d_X11_haveMet_12) ?_
  refine xa_iaload d_X11_haveMet_13 (fun x3 _ => ?_)
  refine xa_if (xa_ifgt d_X11_haveMet_14) (fun q4 => ?_) (fun q4 => ?_)
  · refine xa_step (xa_iconst d_X11_haveMet_34 xq_i_1) ?_
    refine xa_step (xa_goto d_X11_haveMet_35) ?_
    exact xa_zret d_X11_haveMet_39 rfl (Or.inr rfl) rfl
  · refine xa_step (xa_aload_n d_X11_haveMet_17 rfl) ?_
    refine xa_getf xR xc_11 (by decide) (fun _ => rfl) xw_590 rfl d_X11_haveMet_18 (fun x5 _ => ?_)
    refine xa_getf xR xc_9 (by decide) (fun _ => rfl) xw_357 rfl d_X11_haveMet_21 (fun x6 _ => ?_)
    refine xa_step (xa_iload_n d_X11_haveMet_24 rfl) ?_
    refine xa_step (xa_bipush d_X11_haveMet_25 xq_b_6) ?_
    refine xa_step (xa_imul d_X11_haveMet_27) ?_
    refine xa_step (xa_iload_n d_X11_haveMet_28 rfl) ?_
    refine xa_step (xa_iadd d_X11_haveMet_29) ?_
    refine xa_iaload d_X11_haveMet_30 (fun x7 _ => ?_)
    refine xa_if (xa_ifle d_X11_haveMet_31) (fun q8 => ?_) (fun q8 => ?_)
    · refine xa_step (xa_iconst d_X11_haveMet_34 xq_i_1) ?_
      refine xa_step (xa_goto d_X11_haveMet_35) ?_
      exact xa_zret d_X11_haveMet_39 rfl (Or.inr rfl) rfl
    · refine xa_step (xa_iconst d_X11_haveMet_38 xq_i_0) ?_
      exact xa_zret d_X11_haveMet_39 rfl (Or.inl rfl) rfl
theorem ct_X11_haveMet (l : Launch) (G : xa_C) (v0 v1 v2 : Int) (h : xa_H) (r : Int) (hr : f_X11_haveMet v0 v1 v2 h = some r) : xa_CT l G 2 mX11_haveMet yX11_haveMet [xR v0, xI v1, xI v2] h (some (xI r), h) :=
  xa_met (by decide +kernel) rfl (fun q => by first | rfl | cases q) (Nat.le_of_ble_eq_true rfl) rfl (g_X11_haveMet l G v0 v1 v2 h) (by rw [hr]; rfl)
