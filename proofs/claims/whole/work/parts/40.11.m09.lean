abbrev mX12_qGoesOnTest : xa_M := (cX12_qGoesOnTest, 1, (some (.boolean)), RX12, false)
theorem d_X12_qGoesOnTest_0 : decode mX12_qGoesOnTest.1 0 = .ok (.aload_n 0, 1) ∧ 0 + 1 = 1 := ⟨by decide +kernel, rfl⟩
theorem d_X12_qGoesOnTest_1 : decode mX12_qGoesOnTest.1 1 = .ok (.getfield 249, 3) ∧ 1 + 3 = 4 := ⟨by decide +kernel, rfl⟩
theorem d_X12_qGoesOnTest_4 : decode mX12_qGoesOnTest.1 4 = .ok (.ifCond .ne 72, 3) ∧ 4 + 3 = 7 ∧ ((4 : Nat) : Int) + 72 = ((76 : Nat) : Int) := ⟨by decide +kernel, rfl, rfl⟩
theorem d_X12_qGoesOnTest_7 : decode mX12_qGoesOnTest.1 7 = .ok (.aload_n 0, 1) ∧ 7 + 1 = 8 := ⟨by decide +kernel, rfl⟩
theorem d_X12_qGoesOnTest_8 : decode mX12_qGoesOnTest.1 8 = .ok (.invokevirtual 261, 3) ∧ 8 + 3 = 11 := ⟨by decide +kernel, rfl⟩
theorem d_X12_qGoesOnTest_11 : decode mX12_qGoesOnTest.1 11 = .ok (.bipush 93, 2) ∧ 11 + 2 = 13 := ⟨by decide +kernel, rfl⟩
theorem d_X12_qGoesOnTest_13 : decode mX12_qGoesOnTest.1 13 = .ok (.if_icmp .ne 63, 3) ∧ 13 + 3 = 16 ∧ ((13 : Nat) : Int) + 63 = ((76 : Nat) : Int) := ⟨by decide +kernel, rfl, rfl⟩
theorem d_X12_qGoesOnTest_16 : decode mX12_qGoesOnTest.1 16 = .ok (.aload_n 0, 1) ∧ 16 + 1 = 17 := ⟨by decide +kernel, rfl⟩
theorem d_X12_qGoesOnTest_17 : decode mX12_qGoesOnTest.1 17 = .ok (.invokevirtual 645, 3) ∧ 17 + 3 = 20 := ⟨by decide +kernel, rfl⟩
theorem d_X12_qGoesOnTest_20 : decode mX12_qGoesOnTest.1 20 = .ok (.ifCond .eq 56, 3) ∧ 20 + 3 = 23 ∧ ((20 : Nat) : Int) + 56 = ((76 : Nat) : Int) := ⟨by decide +kernel, rfl, rfl⟩
theorem d_X12_qGoesOnTest_23 : decode mX12_qGoesOnTest.1 23 = .ok (.aload_n 0, 1) ∧ 23 + 1 = 24 := ⟨by decide +kernel, rfl⟩
theorem d_X12_qGoesOnTest_24 : decode mX12_qGoesOnTest.1 24 = .ok (.dup, 1) ∧ 24 + 1 = 25 := ⟨by decide +kernel, rfl⟩
theorem d_X12_qGoesOnTest_25 : decode mX12_qGoesOnTest.1 25 = .ok (.getfield 255, 3) ∧ 25 + 3 = 28 := ⟨by decide +kernel, rfl⟩
theorem d_X12_qGoesOnTest_28 : decode mX12_qGoesOnTest.1 28 = .ok (.iconst 1, 1) ∧ 28 + 1 = 29 := ⟨by decide +kernel, rfl⟩
theorem d_X12_qGoesOnTest_29 : decode mX12_qGoesOnTest.1 29 = .ok (.iadd, 1) ∧ 29 + 1 = 30 := ⟨by decide +kernel, rfl⟩
theorem d_X12_qGoesOnTest_30 : decode mX12_qGoesOnTest.1 30 = .ok (.putfield 255, 3) ∧ 30 + 3 = 33 := ⟨by decide +kernel, rfl⟩
theorem d_X12_qGoesOnTest_33 : decode mX12_qGoesOnTest.1 33 = .ok (.aload_n 0, 1) ∧ 33 + 1 = 34 := ⟨by decide +kernel, rfl⟩
theorem d_X12_qGoesOnTest_34 : decode mX12_qGoesOnTest.1 34 = .ok (.bipush 25, 2) ∧ 34 + 2 = 36 := ⟨by decide +kernel, rfl⟩
theorem d_X12_qGoesOnTest_36 : decode mX12_qGoesOnTest.1 36 = .ok (.invokevirtual 627, 3) ∧ 36 + 3 = 39 := ⟨by decide +kernel, rfl⟩
theorem d_X12_qGoesOnTest_39 : decode mX12_qGoesOnTest.1 39 = .ok (.ifCond .ne 10, 3) ∧ 39 + 3 = 42 ∧ ((39 : Nat) : Int) + 10 = ((49 : Nat) : Int) := ⟨by decide +kernel, rfl, rfl⟩
theorem d_X12_qGoesOnTest_42 : decode mX12_qGoesOnTest.1 42 = .ok (.aload_n 0, 1) ∧ 42 + 1 = 43 := ⟨by decide +kernel, rfl⟩
theorem d_X12_qGoesOnTest_43 : decode mX12_qGoesOnTest.1 43 = .ok (.invokevirtual 600, 3) ∧ 43 + 3 = 46 := ⟨by decide +kernel, rfl⟩
theorem d_X12_qGoesOnTest_46 : decode mX12_qGoesOnTest.1 46 = .ok (.goto (-13), 3) ∧ ((46 : Nat) : Int) + (-13) = ((33 : Nat) : Int) := ⟨by decide +kernel, rfl⟩
set_option maxRecDepth 100000 in
set_option maxHeartbeats 4000000 in
theorem g_X12_qGoesOnTest_L33 (l : Launch) (G : xa_C) (c0 : Int) (K : (xa_H) ⊕ (xa_H) → Option xa_O) (hb : ∀ (h : xa_H), xa_G l G 5 mX12_qGoesOnTest (some (Sum.inl h)) K 33 [some (xR c0)] [] h) (hx : ∀ (h : xa_H), xa_G l G 5 mX12_qGoesOnTest (some (Sum.inr h)) K 49 [some (xR c0)] [] h) : ∀ (h : xa_H), xa_G l G 5 mX12_qGoesOnTest (f_X12_qGoesOnTest_L33 c0 h) K 33 [some (xR c0)] [] h := by
  intro h
  unfold f_X12_qGoesOnTest_L33
  refine xa_step (xa_aload_n d_X12_qGoesOnTest_33 rfl) ?_
  refine xa_step (xa_bipush d_X12_qGoesOnTest_34 xq_b_25) ?_
  refine xa_callVi (as := [xI 25]) (st := []) (M' := mX12_qIsOn) (d' := 2) rfl xw_1804 xw_1806 xw_102 xw_1807 xw_177 xh_X12_qIsOn rfl ⟨Nat.le_of_ble_eq_true rfl, Nat.le_of_ble_eq_true rfl⟩ (Nat.le_of_ble_eq_true rfl) rfl d_X12_qGoesOnTest_36 (fun r hr => ct_X12_qIsOn l G c0 25 h r hr) (fun r9 _ => ?_)
  refine xa_if (xa_ifne d_X12_qGoesOnTest_39) (fun q10 => ?_) (fun q10 => ?_)
  · refine xa_step (xa_aload_n d_X12_qGoesOnTest_42 rfl) ?_
    refine xa_callVV (as := []) (st := []) (M' := mX12_qDrops) (d' := 3) rfl xw_1785 xw_1787 xw_98 xw_1788 xw_177 xh_X12_qDrops rfl ⟨Nat.le_of_ble_eq_true rfl, Nat.le_of_ble_eq_true rfl⟩ (Nat.le_of_ble_eq_true rfl) rfl d_X12_qGoesOnTest_43 (fun r hr => ct_X12_qDrops l G c0 h r hr) (fun r11 _ => ?_)
    refine xa_step (xa_goto d_X12_qGoesOnTest_46) ?_
    exact xa_weak (ls' := [some (xR c0)]) ⟨rfl, trivial⟩ (hb r11)
  · exact xa_weak (ls' := [some (xR c0)]) ⟨rfl, trivial⟩ (hx h)
theorem d_X12_qGoesOnTest_49 : decode mX12_qGoesOnTest.1 49 = .ok (.aload_n 0, 1) ∧ 49 + 1 = 50 := ⟨by decide +kernel, rfl⟩
theorem d_X12_qGoesOnTest_50 : decode mX12_qGoesOnTest.1 50 = .ok (.dup, 1) ∧ 50 + 1 = 51 := ⟨by decide +kernel, rfl⟩
theorem d_X12_qGoesOnTest_51 : decode mX12_qGoesOnTest.1 51 = .ok (.getfield 338, 3) ∧ 51 + 3 = 54 := ⟨by decide +kernel, rfl⟩
theorem d_X12_qGoesOnTest_54 : decode mX12_qGoesOnTest.1 54 = .ok (.iconst 1, 1) ∧ 54 + 1 = 55 := ⟨by decide +kernel, rfl⟩
theorem d_X12_qGoesOnTest_55 : decode mX12_qGoesOnTest.1 55 = .ok (.isub, 1) ∧ 55 + 1 = 56 := ⟨by decide +kernel, rfl⟩
theorem d_X12_qGoesOnTest_56 : decode mX12_qGoesOnTest.1 56 = .ok (.putfield 338, 3) ∧ 56 + 3 = 59 := ⟨by decide +kernel, rfl⟩
theorem d_X12_qGoesOnTest_59 : decode mX12_qGoesOnTest.1 59 = .ok (.aload_n 0, 1) ∧ 59 + 1 = 60 := ⟨by decide +kernel, rfl⟩
theorem d_X12_qGoesOnTest_60 : decode mX12_qGoesOnTest.1 60 = .ok (.dup, 1) ∧ 60 + 1 = 61 := ⟨by decide +kernel, rfl⟩
theorem d_X12_qGoesOnTest_61 : decode mX12_qGoesOnTest.1 61 = .ok (.getfield 341, 3) ∧ 61 + 3 = 64 := ⟨by decide +kernel, rfl⟩
theorem d_X12_qGoesOnTest_64 : decode mX12_qGoesOnTest.1 64 = .ok (.iconst 1, 1) ∧ 64 + 1 = 65 := ⟨by decide +kernel, rfl⟩
theorem d_X12_qGoesOnTest_65 : decode mX12_qGoesOnTest.1 65 = .ok (.isub, 1) ∧ 65 + 1 = 66 := ⟨by decide +kernel, rfl⟩
theorem d_X12_qGoesOnTest_66 : decode mX12_qGoesOnTest.1 66 = .ok (.putfield 341, 3) ∧ 66 + 3 = 69 := ⟨by decide +kernel, rfl⟩
theorem d_X12_qGoesOnTest_69 : decode mX12_qGoesOnTest.1 69 = .ok (.aload_n 0, 1) ∧ 69 + 1 = 70 := ⟨by decide +kernel, rfl⟩
theorem d_X12_qGoesOnTest_70 : decode mX12_qGoesOnTest.1 70 = .ok (.invokevirtual 639, 3) ∧ 70 + 3 = 73 := ⟨by decide +kernel, rfl⟩
theorem d_X12_qGoesOnTest_73 : decode mX12_qGoesOnTest.1 73 = .ok (.goto (-73), 3) ∧ ((73 : Nat) : Int) + (-73) = ((0 : Nat) : Int) := ⟨by decide +kernel, rfl⟩
set_option maxRecDepth 100000 in
set_option maxHeartbeats 4000000 in
theorem g_X12_qGoesOnTest_L0 (l : Launch) (G : xa_C) (c0 : Int) (K : (xa_H) ⊕ (xa_H) → Option xa_O) (hb : ∀ (h : xa_H), xa_G l G 5 mX12_qGoesOnTest (some (Sum.inl h)) K 0 [some (xR c0)] [] h) (hx : ∀ (h : xa_H), xa_G l G 5 mX12_qGoesOnTest (some (Sum.inr h)) K 76 [some (xR c0)] [] h) : ∀ (h : xa_H), xa_G l G 5 mX12_qGoesOnTest (f_X12_qGoesOnTest_L0 c0 h) K 0 [some (xR c0)] [] h := by
  intro h
  unfold f_X12_qGoesOnTest_L0
  refine xa_step (xa_aload_n d_X12_qGoesOnTest_0 rfl) ?_
  refine xa_getf xI xc_12 (by decide) (fun _ => rfl) xw_1309 rfl d_X12_qGoesOnTest_1 (fun x1 _ => ?_)
  refine xa_if (xa_ifne d_X12_qGoesOnTest_4) (fun q2 => ?_) (fun q2 => ?_)
  · refine xa_step (xa_aload_n d_X12_qGoesOnTest_7 rfl) ?_
    refine xa_callVI (as := []) (st := []) (M' := mX12_look) (d' := 2) rfl xw_1646 xw_1648 xw_66 xw_1649 xw_177 xh_X12_look rfl ⟨Nat.le_of_ble_eq_true rfl, Nat.le_of_ble_eq_true rfl⟩ (Nat.le_of_ble_eq_true rfl) rfl d_X12_qGoesOnTest_8 (fun r hr => ct_X12_look l G c0 h r hr) (fun r3 _ => ?_)
    refine xa_step (xa_bipush d_X12_qGoesOnTest_11 xq_b_93) ?_
    refine xa_if (xa_icmpne d_X12_qGoesOnTest_13) (fun q4 => ?_) (fun q4 => ?_)
    · refine xa_step (xa_aload_n d_X12_qGoesOnTest_16 rfl) ?_
      refine xa_callVi (as := []) (st := []) (M' := mX12_qHasSquare) (d' := 2) rfl xw_1816 xw_1818 xw_105 xw_1819 xw_177 xh_X12_qHasSquare rfl ⟨Nat.le_of_ble_eq_true rfl, Nat.le_of_ble_eq_true rfl⟩ (Nat.le_of_ble_eq_true rfl) rfl d_X12_qGoesOnTest_17 (fun r hr => ct_X12_qHasSquare l G c0 r3.2 r hr) (fun r5 _ => ?_)
      refine xa_if (xa_ifeq d_X12_qGoesOnTest_20) (fun q6 => ?_) (fun q6 => ?_)
      · exact xa_weak (ls' := [some (xR c0)]) ⟨rfl, trivial⟩ (hx r3.2)
      · refine xa_step (xa_aload_n d_X12_qGoesOnTest_23 rfl) ?_
        refine xa_step (xa_dup d_X12_qGoesOnTest_24 (xa_tR _)) ?_
        refine xa_getf xI xc_12 (by decide) (fun _ => rfl) xw_1306 rfl d_X12_qGoesOnTest_25 (fun x7 _ => ?_)
        refine xa_step (xa_iconst d_X12_qGoesOnTest_28 xq_i_1) ?_
        refine xa_step (xa_iadd d_X12_qGoesOnTest_29) ?_
        refine xa_putf2 (tg := xI) xc_12 (by decide) (fun _ => rfl) rfl (fun c hc => xa_fitI c hc) xw_1306 rfl d_X12_qGoesOnTest_30 (fun h8 _ => ?_)
        refine xa_weak (ls' := [some (xR c0)]) ⟨rfl, trivial⟩ ?_
        refine xa_loop (f := fun s => f_X12_qGoesOnTest_L33 c0 s) (L := fun s => [some (xR c0)]) (P := fun s => s) (X := (fun x K => xa_G l G 5 mX12_qGoesOnTest (some (Sum.inr x)) K 49 [some (xR c0)] [] x)) (fun K hb hX s => g_X12_qGoesOnTest_L33 l G c0 K (fun hh => hb hh) (fun hh => hX hh) s) ?_ xFU h8
        intro e12 K hK
        refine xa_eqE hK ?_
        show xa_G l G 5 mX12_qGoesOnTest _ _ 49 [some (xR c0)] [] e12
        refine xa_step (xa_aload_n d_X12_qGoesOnTest_49 rfl) ?_
        refine xa_step (xa_dup d_X12_qGoesOnTest_50 (xa_tR _)) ?_
        refine xa_getf xI xc_12 (by decide) (fun _ => rfl) xw_1404 rfl d_X12_qGoesOnTest_51 (fun x13 _ => ?_)
        refine xa_step (xa_iconst d_X12_qGoesOnTest_54 xq_i_1) ?_
        refine xa_step (xa_isub d_X12_qGoesOnTest_55) ?_
        refine xa_putf2 (tg := xI) xc_12 (by decide) (fun _ => rfl) rfl (fun c hc => xa_fitI c hc) xw_1404 rfl d_X12_qGoesOnTest_56 (fun h14 _ => ?_)
        refine xa_step (xa_aload_n d_X12_qGoesOnTest_59 rfl) ?_
        refine xa_step (xa_dup d_X12_qGoesOnTest_60 (xa_tR _)) ?_
        refine xa_getf xI xc_12 (by decide) (fun _ => rfl) xw_1405 rfl d_X12_qGoesOnTest_61 (fun x15 _ => ?_)
        refine xa_step (xa_iconst d_X12_qGoesOnTest_64 xq_i_1) ?_
        refine xa_step (xa_isub d_X12_qGoesOnTest_65) ?_
        refine xa_putf2 (tg := xI) xc_12 (by decide) (fun _ => rfl) rfl (fun c hc => xa_fitI c hc) xw_1405 rfl d_X12_qGoesOnTest_66 (fun h16 _ => ?_)
        refine xa_step (xa_aload_n d_X12_qGoesOnTest_69 rfl) ?_
        refine xa_callVV (as := []) (st := []) (M' := mX12_qDropsNots) (d' := 4) rfl xw_1808 xw_1810 xw_103 xw_1811 xw_177 xh_X12_qDropsNots rfl ⟨Nat.le_of_ble_eq_true rfl, Nat.le_of_ble_eq_true rfl⟩ (Nat.le_of_ble_eq_true rfl) rfl d_X12_qGoesOnTest_70 (fun r hr => ct_X12_qDropsNots l G c0 h16 r hr) (fun r17 _ => ?_)
        refine xa_step (xa_goto d_X12_qGoesOnTest_73) ?_
        exact xa_weak (ls' := [some (xR c0)]) ⟨rfl, trivial⟩ (hb r17)
    · exact xa_weak (ls' := [some (xR c0)]) ⟨rfl, trivial⟩ (hx r3.2)
  · exact xa_weak (ls' := [some (xR c0)]) ⟨rfl, trivial⟩ (hx h)
theorem d_X12_qGoesOnTest_76 : decode mX12_qGoesOnTest.1 76 = .ok (.aload_n 0, 1) ∧ 76 + 1 = 77 := ⟨by decide +kernel, rfl⟩
theorem d_X12_qGoesOnTest_77 : decode mX12_qGoesOnTest.1 77 = .ok (.aload_n 0, 1) ∧ 77 + 1 = 78 := ⟨by decide +kernel, rfl⟩
theorem d_X12_qGoesOnTest_78 : decode mX12_qGoesOnTest.1 78 = .ok (.getfield 195, 3) ∧ 78 + 3 = 81 := ⟨by decide +kernel, rfl⟩
theorem d_X12_qGoesOnTest_81 : decode mX12_qGoesOnTest.1 81 = .ok (.invokevirtual 276, 3) ∧ 81 + 3 = 84 := ⟨by decide +kernel, rfl⟩
theorem d_X12_qGoesOnTest_84 : decode mX12_qGoesOnTest.1 84 = .ok (.ifCond .eq 42, 3) ∧ 84 + 3 = 87 ∧ ((84 : Nat) : Int) + 42 = ((126 : Nat) : Int) := ⟨by decide +kernel, rfl, rfl⟩
theorem d_X12_qGoesOnTest_126 : decode mX12_qGoesOnTest.1 126 = .ok (.aload_n 0, 1) ∧ 126 + 1 = 127 := ⟨by decide +kernel, rfl⟩
theorem d_X12_qGoesOnTest_127 : decode mX12_qGoesOnTest.1 127 = .ok (.aload_n 0, 1) ∧ 127 + 1 = 128 := ⟨by decide +kernel, rfl⟩
theorem d_X12_qGoesOnTest_128 : decode mX12_qGoesOnTest.1 128 = .ok (.getfield 198, 3) ∧ 128 + 3 = 131 := ⟨by decide +kernel, rfl⟩
theorem d_X12_qGoesOnTest_131 : decode mX12_qGoesOnTest.1 131 = .ok (.invokevirtual 276, 3) ∧ 131 + 3 = 134 := ⟨by decide +kernel, rfl⟩
theorem d_X12_qGoesOnTest_134 : decode mX12_qGoesOnTest.1 134 = .ok (.ifCond .eq 51, 3) ∧ 134 + 3 = 137 ∧ ((134 : Nat) : Int) + 51 = ((185 : Nat) : Int) := ⟨by decide +kernel, rfl, rfl⟩
theorem d_X12_qGoesOnTest_185 : decode mX12_qGoesOnTest.1 185 = .ok (.aload_n 0, 1) ∧ 185 + 1 = 186 := ⟨by decide +kernel, rfl⟩
theorem d_X12_qGoesOnTest_186 : decode mX12_qGoesOnTest.1 186 = .ok (.getfield 249, 3) ∧ 186 + 3 = 189 := ⟨by decide +kernel, rfl⟩
theorem d_X12_qGoesOnTest_189 : decode mX12_qGoesOnTest.1 189 = .ok (.ifCond .ne 19, 3) ∧ 189 + 3 = 192 ∧ ((189 : Nat) : Int) + 19 = ((208 : Nat) : Int) := ⟨by decide +kernel, rfl, rfl⟩
theorem d_X12_qGoesOnTest_192 : decode mX12_qGoesOnTest.1 192 = .ok (.aload_n 0, 1) ∧ 192 + 1 = 193 := ⟨by decide +kernel, rfl⟩
theorem d_X12_qGoesOnTest_193 : decode mX12_qGoesOnTest.1 193 = .ok (.invokevirtual 645, 3) ∧ 193 + 3 = 196 := ⟨by decide +kernel, rfl⟩
theorem d_X12_qGoesOnTest_196 : decode mX12_qGoesOnTest.1 196 = .ok (.ifCond .eq 12, 3) ∧ 196 + 3 = 199 ∧ ((196 : Nat) : Int) + 12 = ((208 : Nat) : Int) := ⟨by decide +kernel, rfl, rfl⟩
theorem d_X12_qGoesOnTest_208 : decode mX12_qGoesOnTest.1 208 = .ok (.iconst 0, 1) ∧ 208 + 1 = 209 := ⟨by decide +kernel, rfl⟩
theorem d_X12_qGoesOnTest_209 : decode mX12_qGoesOnTest.1 209 = .ok (.ireturn, 1) := by decide +kernel
theorem d_X12_qGoesOnTest_199 : decode mX12_qGoesOnTest.1 199 = .ok (.aload_n 0, 1) ∧ 199 + 1 = 200 := ⟨by decide +kernel, rfl⟩
theorem d_X12_qGoesOnTest_200 : decode mX12_qGoesOnTest.1 200 = .ok (.iconst 1, 1) ∧ 200 + 1 = 201 := ⟨by decide +kernel, rfl⟩
theorem d_X12_qGoesOnTest_201 : decode mX12_qGoesOnTest.1 201 = .ok (.aload_n 0, 1) ∧ 201 + 1 = 202 := ⟨by decide +kernel, rfl⟩
theorem d_X12_qGoesOnTest_202 : decode mX12_qGoesOnTest.1 202 = .ok (.getfield 255, 3) ∧ 202 + 3 = 205 := ⟨by decide +kernel, rfl⟩
theorem d_X12_qGoesOnTest_205 : decode mX12_qGoesOnTest.1 205 = .ok (.invokevirtual 279, 3) ∧ 205 + 3 = 208 := ⟨by decide +kernel, rfl⟩
theorem d_X12_qGoesOnTest_137 : decode mX12_qGoesOnTest.1 137 = .ok (.aload_n 0, 1) ∧ 137 + 1 = 138 := ⟨by decide +kernel, rfl⟩
theorem d_X12_qGoesOnTest_138 : decode mX12_qGoesOnTest.1 138 = .ok (.bipush 10, 2) ∧ 138 + 2 = 140 := ⟨by decide +kernel, rfl⟩
theorem d_X12_qGoesOnTest_140 : decode mX12_qGoesOnTest.1 140 = .ok (.invokevirtual 627, 3) ∧ 140 + 3 = 143 := ⟨by decide +kernel, rfl⟩
theorem d_X12_qGoesOnTest_143 : decode mX12_qGoesOnTest.1 143 = .ok (.ifCond .ne 12, 3) ∧ 143 + 3 = 146 ∧ ((143 : Nat) : Int) + 12 = ((155 : Nat) : Int) := ⟨by decide +kernel, rfl, rfl⟩
theorem d_X12_qGoesOnTest_146 : decode mX12_qGoesOnTest.1 146 = .ok (.aload_n 0, 1) ∧ 146 + 1 = 147 := ⟨by decide +kernel, rfl⟩
theorem d_X12_qGoesOnTest_147 : decode mX12_qGoesOnTest.1 147 = .ok (.bipush 11, 2) ∧ 147 + 2 = 149 := ⟨by decide +kernel, rfl⟩
theorem d_X12_qGoesOnTest_149 : decode mX12_qGoesOnTest.1 149 = .ok (.invokevirtual 627, 3) ∧ 149 + 3 = 152 := ⟨by decide +kernel, rfl⟩
theorem d_X12_qGoesOnTest_152 : decode mX12_qGoesOnTest.1 152 = .ok (.ifCond .eq 10, 3) ∧ 152 + 3 = 155 ∧ ((152 : Nat) : Int) + 10 = ((162 : Nat) : Int) := ⟨by decide +kernel, rfl, rfl⟩
theorem d_X12_qGoesOnTest_155 : decode mX12_qGoesOnTest.1 155 = .ok (.aload_n 0, 1) ∧ 155 + 1 = 156 := ⟨by decide +kernel, rfl⟩
theorem d_X12_qGoesOnTest_156 : decode mX12_qGoesOnTest.1 156 = .ok (.invokevirtual 600, 3) ∧ 156 + 3 = 159 := ⟨by decide +kernel, rfl⟩
theorem d_X12_qGoesOnTest_159 : decode mX12_qGoesOnTest.1 159 = .ok (.goto (-22), 3) ∧ ((159 : Nat) : Int) + (-22) = ((137 : Nat) : Int) := ⟨by decide +kernel, rfl⟩
set_option maxRecDepth 100000 in
set_option maxHeartbeats 4000000 in
theorem g_X12_qGoesOnTest_J155L137 (l : Launch) (G : xa_C) (c0 : Int) (K : (xa_H) ⊕ (xa_H) → Option xa_O) (hb : ∀ (h : xa_H), xa_G l G 5 mX12_qGoesOnTest (some (Sum.inl h)) K 137 [some (xR c0)] [] h) (hx : ∀ (h : xa_H), xa_G l G 5 mX12_qGoesOnTest (some (Sum.inr h)) K 162 [some (xR c0)] [] h) : ∀ (h : xa_H) , xa_G l G 5 mX12_qGoesOnTest (f_X12_qGoesOnTest_J155L137 c0 h) K 155 [some (xR c0)] [] h := by
  intro h
  unfold f_X12_qGoesOnTest_J155L137
  refine xa_step (xa_aload_n d_X12_qGoesOnTest_155 rfl) ?_
  refine xa_callVV (as := []) (st := []) (M' := mX12_qDrops) (d' := 3) rfl xw_1785 xw_1787 xw_98 xw_1788 xw_177 xh_X12_qDrops rfl ⟨Nat.le_of_ble_eq_true rfl, Nat.le_of_ble_eq_true rfl⟩ (Nat.le_of_ble_eq_true rfl) rfl d_X12_qGoesOnTest_156 (fun r hr => ct_X12_qDrops l G c0 h r hr) (fun r35 _ => ?_)
  refine xa_step (xa_goto d_X12_qGoesOnTest_159) ?_
  exact xa_weak (ls' := [some (xR c0)]) ⟨rfl, trivial⟩ (hb r35)
set_option maxRecDepth 100000 in
set_option maxHeartbeats 4000000 in
theorem g_X12_qGoesOnTest_L137 (l : Launch) (G : xa_C) (c0 : Int) (K : (xa_H) ⊕ (xa_H) → Option xa_O) (hb : ∀ (h : xa_H), xa_G l G 5 mX12_qGoesOnTest (some (Sum.inl h)) K 137 [some (xR c0)] [] h) (hx : ∀ (h : xa_H), xa_G l G 5 mX12_qGoesOnTest (some (Sum.inr h)) K 162 [some (xR c0)] [] h) : ∀ (h : xa_H), xa_G l G 5 mX12_qGoesOnTest (f_X12_qGoesOnTest_L137 c0 h) K 137 [some (xR c0)] [] h := by
  intro h
  unfold f_X12_qGoesOnTest_L137
  refine xa_step (xa_aload_n d_X12_qGoesOnTest_137 rfl) ?_
  refine xa_step (xa_bipush d_X12_qGoesOnTest_138 xq_b_10) ?_
  refine xa_callVi (as := [xI 10]) (st := []) (M' := mX12_qIsOn) (d' := 2) rfl xw_1804 xw_1806 xw_102 xw_1807 xw_177 xh_X12_qIsOn rfl ⟨Nat.le_of_ble_eq_true rfl, Nat.le_of_ble_eq_true rfl⟩ (Nat.le_of_ble_eq_true rfl) rfl d_X12_qGoesOnTest_140 (fun r hr => ct_X12_qIsOn l G c0 10 h r hr) (fun r31 _ => ?_)
  refine xa_if (xa_ifne d_X12_qGoesOnTest_143) (fun q32 => ?_) (fun q32 => ?_)
  · refine xa_step (xa_aload_n d_X12_qGoesOnTest_146 rfl) ?_
    refine xa_step (xa_bipush d_X12_qGoesOnTest_147 xq_b_11) ?_
    refine xa_callVi (as := [xI 11]) (st := []) (M' := mX12_qIsOn) (d' := 2) rfl xw_1804 xw_1806 xw_102 xw_1807 xw_177 xh_X12_qIsOn rfl ⟨Nat.le_of_ble_eq_true rfl, Nat.le_of_ble_eq_true rfl⟩ (Nat.le_of_ble_eq_true rfl) rfl d_X12_qGoesOnTest_149 (fun r hr => ct_X12_qIsOn l G c0 11 h r hr) (fun r33 _ => ?_)
    refine xa_if (xa_ifeq d_X12_qGoesOnTest_152) (fun q34 => ?_) (fun q34 => ?_)
    · exact xa_weak (ls' := [some (xR c0)]) ⟨rfl, trivial⟩ (hx h)
    · exact xa_weak (ls' := [some (xR c0)]) ⟨rfl, trivial⟩ (g_X12_qGoesOnTest_J155L137 l G c0 K hb hx h)
  · exact xa_weak (ls' := [some (xR c0)]) ⟨rfl, trivial⟩ (g_X12_qGoesOnTest_J155L137 l G c0 K hb hx h)
theorem d_X12_qGoesOnTest_162 : decode mX12_qGoesOnTest.1 162 = .ok (.aload_n 0, 1) ∧ 162 + 1 = 163 := ⟨by decide +kernel, rfl⟩
theorem d_X12_qGoesOnTest_163 : decode mX12_qGoesOnTest.1 163 = .ok (.getfield 237, 3) ∧ 163 + 3 = 166 := ⟨by decide +kernel, rfl⟩
theorem d_X12_qGoesOnTest_166 : decode mX12_qGoesOnTest.1 166 = .ok (.aload_n 0, 1) ∧ 166 + 1 = 167 := ⟨by decide +kernel, rfl⟩
theorem d_X12_qGoesOnTest_167 : decode mX12_qGoesOnTest.1 167 = .ok (.getfield 338, 3) ∧ 167 + 3 = 170 := ⟨by decide +kernel, rfl⟩
theorem d_X12_qGoesOnTest_170 : decode mX12_qGoesOnTest.1 170 = .ok (.bipush 11, 2) ∧ 170 + 2 = 172 := ⟨by decide +kernel, rfl⟩
theorem d_X12_qGoesOnTest_172 : decode mX12_qGoesOnTest.1 172 = .ok (.iastore, 1) ∧ 172 + 1 = 173 := ⟨by decide +kernel, rfl⟩
theorem d_X12_qGoesOnTest_173 : decode mX12_qGoesOnTest.1 173 = .ok (.aload_n 0, 1) ∧ 173 + 1 = 174 := ⟨by decide +kernel, rfl⟩
theorem d_X12_qGoesOnTest_174 : decode mX12_qGoesOnTest.1 174 = .ok (.dup, 1) ∧ 174 + 1 = 175 := ⟨by decide +kernel, rfl⟩
theorem d_X12_qGoesOnTest_175 : decode mX12_qGoesOnTest.1 175 = .ok (.getfield 338, 3) ∧ 175 + 3 = 178 := ⟨by decide +kernel, rfl⟩
theorem d_X12_qGoesOnTest_178 : decode mX12_qGoesOnTest.1 178 = .ok (.iconst 1, 1) ∧ 178 + 1 = 179 := ⟨by decide +kernel, rfl⟩
theorem d_X12_qGoesOnTest_179 : decode mX12_qGoesOnTest.1 179 = .ok (.iadd, 1) ∧ 179 + 1 = 180 := ⟨by decide +kernel, rfl⟩
theorem d_X12_qGoesOnTest_180 : decode mX12_qGoesOnTest.1 180 = .ok (.putfield 338, 3) ∧ 180 + 3 = 183 := ⟨by decide +kernel, rfl⟩
theorem d_X12_qGoesOnTest_183 : decode mX12_qGoesOnTest.1 183 = .ok (.iconst 1, 1) ∧ 183 + 1 = 184 := ⟨by decide +kernel, rfl⟩
theorem d_X12_qGoesOnTest_184 : decode mX12_qGoesOnTest.1 184 = .ok (.ireturn, 1) := by decide +kernel
theorem d_X12_qGoesOnTest_87 : decode mX12_qGoesOnTest.1 87 = .ok (.aload_n 0, 1) ∧ 87 + 1 = 88 := ⟨by decide +kernel, rfl⟩
theorem d_X12_qGoesOnTest_88 : decode mX12_qGoesOnTest.1 88 = .ok (.bipush 10, 2) ∧ 88 + 2 = 90 := ⟨by decide +kernel, rfl⟩
theorem d_X12_qGoesOnTest_90 : decode mX12_qGoesOnTest.1 90 = .ok (.invokevirtual 627, 3) ∧ 90 + 3 = 93 := ⟨by decide +kernel, rfl⟩
theorem d_X12_qGoesOnTest_93 : decode mX12_qGoesOnTest.1 93 = .ok (.ifCond .eq 10, 3) ∧ 93 + 3 = 96 ∧ ((93 : Nat) : Int) + 10 = ((103 : Nat) : Int) := ⟨by decide +kernel, rfl, rfl⟩
theorem d_X12_qGoesOnTest_96 : decode mX12_qGoesOnTest.1 96 = .ok (.aload_n 0, 1) ∧ 96 + 1 = 97 := ⟨by decide +kernel, rfl⟩
theorem d_X12_qGoesOnTest_97 : decode mX12_qGoesOnTest.1 97 = .ok (.invokevirtual 600, 3) ∧ 97 + 3 = 100 := ⟨by decide +kernel, rfl⟩
theorem d_X12_qGoesOnTest_100 : decode mX12_qGoesOnTest.1 100 = .ok (.goto (-13), 3) ∧ ((100 : Nat) : Int) + (-13) = ((87 : Nat) : Int) := ⟨by decide +kernel, rfl⟩
set_option maxRecDepth 100000 in
set_option maxHeartbeats 4000000 in
theorem g_X12_qGoesOnTest_L87 (l : Launch) (G : xa_C) (c0 : Int) (K : (xa_H) ⊕ (xa_H) → Option xa_O) (hb : ∀ (h : xa_H), xa_G l G 5 mX12_qGoesOnTest (some (Sum.inl h)) K 87 [some (xR c0)] [] h) (hx : ∀ (h : xa_H), xa_G l G 5 mX12_qGoesOnTest (some (Sum.inr h)) K 103 [some (xR c0)] [] h) : ∀ (h : xa_H), xa_G l G 5 mX12_qGoesOnTest (f_X12_qGoesOnTest_L87 c0 h) K 87 [some (xR c0)] [] h := by
  intro h
  unfold f_X12_qGoesOnTest_L87
  refine xa_step (xa_aload_n d_X12_qGoesOnTest_87 rfl) ?_
  refine xa_step (xa_bipush d_X12_qGoesOnTest_88 xq_b_10) ?_
  refine xa_callVi (as := [xI 10]) (st := []) (M' := mX12_qIsOn) (d' := 2) rfl xw_1804 xw_1806 xw_102 xw_1807 xw_177 xh_X12_qIsOn rfl ⟨Nat.le_of_ble_eq_true rfl, Nat.le_of_ble_eq_true rfl⟩ (Nat.le_of_ble_eq_true rfl) rfl d_X12_qGoesOnTest_90 (fun r hr => ct_X12_qIsOn l G c0 10 h r hr) (fun r42 _ => ?_)
  refine xa_if (xa_ifeq d_X12_qGoesOnTest_93) (fun q43 => ?_) (fun q43 => ?_)
  · exact xa_weak (ls' := [some (xR c0)]) ⟨rfl, trivial⟩ (hx h)
  · refine xa_step (xa_aload_n d_X12_qGoesOnTest_96 rfl) ?_
    refine xa_callVV (as := []) (st := []) (M' := mX12_qDrops) (d' := 3) rfl xw_1785 xw_1787 xw_98 xw_1788 xw_177 xh_X12_qDrops rfl ⟨Nat.le_of_ble_eq_true rfl, Nat.le_of_ble_eq_true rfl⟩ (Nat.le_of_ble_eq_true rfl) rfl d_X12_qGoesOnTest_97 (fun r hr => ct_X12_qDrops l G c0 h r hr) (fun r44 _ => ?_)
    refine xa_step (xa_goto d_X12_qGoesOnTest_100) ?_
    exact xa_weak (ls' := [some (xR c0)]) ⟨rfl, trivial⟩ (hb r44)
theorem d_X12_qGoesOnTest_103 : decode mX12_qGoesOnTest.1 103 = .ok (.aload_n 0, 1) ∧ 103 + 1 = 104 := ⟨by decide +kernel, rfl⟩
theorem d_X12_qGoesOnTest_104 : decode mX12_qGoesOnTest.1 104 = .ok (.getfield 237, 3) ∧ 104 + 3 = 107 := ⟨by decide +kernel, rfl⟩
theorem d_X12_qGoesOnTest_107 : decode mX12_qGoesOnTest.1 107 = .ok (.aload_n 0, 1) ∧ 107 + 1 = 108 := ⟨by decide +kernel, rfl⟩
theorem d_X12_qGoesOnTest_108 : decode mX12_qGoesOnTest.1 108 = .ok (.getfield 338, 3) ∧ 108 + 3 = 111 := ⟨by decide +kernel, rfl⟩
theorem d_X12_qGoesOnTest_111 : decode mX12_qGoesOnTest.1 111 = .ok (.bipush 10, 2) ∧ 111 + 2 = 113 := ⟨by decide +kernel, rfl⟩
theorem d_X12_qGoesOnTest_113 : decode mX12_qGoesOnTest.1 113 = .ok (.iastore, 1) ∧ 113 + 1 = 114 := ⟨by decide +kernel, rfl⟩
theorem d_X12_qGoesOnTest_114 : decode mX12_qGoesOnTest.1 114 = .ok (.aload_n 0, 1) ∧ 114 + 1 = 115 := ⟨by decide +kernel, rfl⟩
theorem d_X12_qGoesOnTest_115 : decode mX12_qGoesOnTest.1 115 = .ok (.dup, 1) ∧ 115 + 1 = 116 := ⟨by decide +kernel, rfl⟩
theorem d_X12_qGoesOnTest_116 : decode mX12_qGoesOnTest.1 116 = .ok (.getfield 338, 3) ∧ 116 + 3 = 119 := ⟨by decide +kernel, rfl⟩
theorem d_X12_qGoesOnTest_119 : decode mX12_qGoesOnTest.1 119 = .ok (.iconst 1, 1) ∧ 119 + 1 = 120 := ⟨by decide +kernel, rfl⟩
theorem d_X12_qGoesOnTest_120 : decode mX12_qGoesOnTest.1 120 = .ok (.iadd, 1) ∧ 120 + 1 = 121 := ⟨by decide +kernel, rfl⟩
theorem d_X12_qGoesOnTest_121 : decode mX12_qGoesOnTest.1 121 = .ok (.putfield 338, 3) ∧ 121 + 3 = 124 := ⟨by decide +kernel, rfl⟩
theorem d_X12_qGoesOnTest_124 : decode mX12_qGoesOnTest.1 124 = .ok (.iconst 1, 1) ∧ 124 + 1 = 125 := ⟨by decide +kernel, rfl⟩
theorem d_X12_qGoesOnTest_125 : decode mX12_qGoesOnTest.1 125 = .ok (.ireturn, 1) := by decide +kernel
set_option maxRecDepth 100000 in
set_option maxHeartbeats 4000000 in
theorem g_X12_qGoesOnTest_J76 (l : Launch) (G : xa_C) : ∀ (v0 : Int) (h : xa_H) , xa_G l G 5 mX12_qGoesOnTest (f_X12_qGoesOnTest_J76 v0 h) (fun r => some (some (xI r.1), r.2) : (Int × xa_H) → Option xa_O) 76 [some (xR v0)] [] h := by
  intro v0 h
  unfold f_X12_qGoesOnTest_J76
  refine xa_step (xa_aload_n d_X12_qGoesOnTest_76 rfl) ?_
  refine xa_step (xa_aload_n d_X12_qGoesOnTest_77 rfl) ?_
  refine xa_getf xR xc_12 (by decide) (fun _ => rfl) xw_1388 rfl d_X12_qGoesOnTest_78 (fun x19 _ => ?_)
  refine xa_callVI (as := [xR x19]) (st := []) (M' := mX12_takes) (d' := 4) rfl xw_1658 xw_1660 xw_69 xw_1661 xw_177 xh_X12_takes rfl ⟨Nat.le_of_ble_eq_true rfl, Nat.le_of_ble_eq_true rfl⟩ (Nat.le_of_ble_eq_true rfl) rfl d_X12_qGoesOnTest_81 (fun r hr => ct_X12_takes l G v0 x19 h r hr) (fun r20 _ => ?_)
  refine xa_if (xa_ifeq d_X12_qGoesOnTest_84) (fun q21 => ?_) (fun q21 => ?_)
  · refine xa_step (xa_aload_n d_X12_qGoesOnTest_126 rfl) ?_
    refine xa_step (xa_aload_n d_X12_qGoesOnTest_127 rfl) ?_
    refine xa_getf xR xc_12 (by decide) (fun _ => rfl) xw_1389 rfl d_X12_qGoesOnTest_128 (fun x22 _ => ?_)
    refine xa_callVI (as := [xR x22]) (st := []) (M' := mX12_takes) (d' := 4) rfl xw_1658 xw_1660 xw_69 xw_1661 xw_177 xh_X12_takes rfl ⟨Nat.le_of_ble_eq_true rfl, Nat.le_of_ble_eq_true rfl⟩ (Nat.le_of_ble_eq_true rfl) rfl d_X12_qGoesOnTest_131 (fun r hr => ct_X12_takes l G v0 x22 r20.2 r hr) (fun r23 _ => ?_)
    refine xa_if (xa_ifeq d_X12_qGoesOnTest_134) (fun q24 => ?_) (fun q24 => ?_)
    · refine xa_step (xa_aload_n d_X12_qGoesOnTest_185 rfl) ?_
      refine xa_getf xI xc_12 (by decide) (fun _ => rfl) xw_1309 rfl d_X12_qGoesOnTest_186 (fun x25 _ => ?_)
      refine xa_if (xa_ifne d_X12_qGoesOnTest_189) (fun q26 => ?_) (fun q26 => ?_)
      · refine xa_step (xa_aload_n d_X12_qGoesOnTest_192 rfl) ?_
        refine xa_callVi (as := []) (st := []) (M' := mX12_qHasSquare) (d' := 2) rfl xw_1816 xw_1818 xw_105 xw_1819 xw_177 xh_X12_qHasSquare rfl ⟨Nat.le_of_ble_eq_true rfl, Nat.le_of_ble_eq_true rfl⟩ (Nat.le_of_ble_eq_true rfl) rfl d_X12_qGoesOnTest_193 (fun r hr => ct_X12_qHasSquare l G v0 r23.2 r hr) (fun r27 _ => ?_)
        refine xa_if (xa_ifeq d_X12_qGoesOnTest_196) (fun q28 => ?_) (fun q28 => ?_)
        · refine xa_step (xa_iconst d_X12_qGoesOnTest_208 xq_i_0) ?_
          exact xa_zret d_X12_qGoesOnTest_209 rfl (Or.inl rfl) rfl
        · refine xa_step (xa_aload_n d_X12_qGoesOnTest_199 rfl) ?_
          refine xa_step (xa_iconst d_X12_qGoesOnTest_200 xq_i_1) ?_
          refine xa_step (xa_aload_n d_X12_qGoesOnTest_201 rfl) ?_
          refine xa_getf xI xc_12 (by decide) (fun _ => rfl) xw_1306 rfl d_X12_qGoesOnTest_202 (fun x29 _ => ?_)
          refine xa_callVV (as := [xI 1, xI x29]) (st := []) (M' := mX12_fail) (d' := 2) rfl xw_1654 xw_1656 xw_68 xw_1657 xw_177 xh_X12_fail rfl ⟨Nat.le_of_ble_eq_true rfl, Nat.le_of_ble_eq_true rfl⟩ (Nat.le_of_ble_eq_true rfl) rfl d_X12_qGoesOnTest_205 (fun r hr => ct_X12_fail l G v0 1 x29 r23.2 r hr) (fun r30 _ => ?_)
          refine xa_step (xa_iconst d_X12_qGoesOnTest_208 xq_i_0) ?_
          exact xa_zret d_X12_qGoesOnTest_209 rfl (Or.inl rfl) rfl
      · refine xa_step (xa_iconst d_X12_qGoesOnTest_208 xq_i_0) ?_
        exact xa_zret d_X12_qGoesOnTest_209 rfl (Or.inl rfl) rfl
    · refine xa_weak (ls' := [some (xR v0)]) ⟨rfl, trivial⟩ ?_
      refine xa_loop (f := fun s => f_X12_qGoesOnTest_L137 v0 s) (L := fun s => [some (xR v0)]) (P := fun s => s) (X := (fun x K => xa_G l G 5 mX12_qGoesOnTest (some (Sum.inr x)) K 162 [some (xR v0)] [] x)) (fun K hb hX s => g_X12_qGoesOnTest_L137 l G v0 K (fun hh => hb hh) (fun hh => hX hh) s) ?_ xFU r23.2
      intro e36 K hK
      refine xa_eqE hK ?_
      show xa_G l G 5 mX12_qGoesOnTest _ _ 162 [some (xR v0)] [] e36
      refine xa_step (xa_aload_n d_X12_qGoesOnTest_162 rfl) ?_
      refine xa_getf xR xc_12 (by decide) (fun _ => rfl) xw_1403 rfl d_X12_qGoesOnTest_163 (fun x37 _ => ?_)
      refine xa_step (xa_aload_n d_X12_qGoesOnTest_166 rfl) ?_
      refine xa_getf xI xc_12 (by decide) (fun _ => rfl) xw_1404 rfl d_X12_qGoesOnTest_167 (fun x38 _ => ?_)
      refine xa_step (xa_bipush d_X12_qGoesOnTest_170 xq_b_11) ?_
      refine xa_iastore2 d_X12_qGoesOnTest_172 (fun h39 _ => ?_)
      refine xa_step (xa_aload_n d_X12_qGoesOnTest_173 rfl) ?_
      refine xa_step (xa_dup d_X12_qGoesOnTest_174 (xa_tR _)) ?_
      refine xa_getf xI xc_12 (by decide) (fun _ => rfl) xw_1404 rfl d_X12_qGoesOnTest_175 (fun x40 _ => ?_)
      refine xa_step (xa_iconst d_X12_qGoesOnTest_178 xq_i_1) ?_
      refine xa_step (xa_iadd d_X12_qGoesOnTest_179) ?_
      refine xa_putf2 (tg := xI) xc_12 (by decide) (fun _ => rfl) rfl (fun c hc => xa_fitI c hc) xw_1404 rfl d_X12_qGoesOnTest_180 (fun h41 _ => ?_)
      refine xa_step (xa_iconst d_X12_qGoesOnTest_183 xq_i_1) ?_
      exact xa_zret d_X12_qGoesOnTest_184 rfl (Or.inr rfl) rfl
  · refine xa_weak (ls' := [some (xR v0)]) ⟨rfl, trivial⟩ ?_
    refine xa_loop (f := fun s => f_X12_qGoesOnTest_L87 v0 s) (L := fun s => [some (xR v0)]) (P := fun s => s) (X := (fun x K => xa_G l G 5 mX12_qGoesOnTest (some (Sum.inr x)) K 103 [some (xR v0)] [] x)) (fun K hb hX s => g_X12_qGoesOnTest_L87 l G v0 K (fun hh => hb hh) (fun hh => hX hh) s) ?_ xFU r20.2
    intro e45 K hK
    refine xa_eqE hK ?_
    show xa_G l G 5 mX12_qGoesOnTest _ _ 103 [some (xR v0)] [] e45
    refine xa_step (xa_aload_n d_X12_qGoesOnTest_103 rfl) ?_
    refine xa_getf xR xc_12 (by decide) (fun _ => rfl) xw_1403 rfl d_X12_qGoesOnTest_104 (fun x46 _ => ?_)
    refine xa_step (xa_aload_n d_X12_qGoesOnTest_107 rfl) ?_
    refine xa_getf xI xc_12 (by decide) (fun _ => rfl) xw_1404 rfl d_X12_qGoesOnTest_108 (fun x47 _ => ?_)
    refine xa_step (xa_bipush d_X12_qGoesOnTest_111 xq_b_10) ?_
    refine xa_iastore2 d_X12_qGoesOnTest_113 (fun h48 _ => ?_)
    refine xa_step (xa_aload_n d_X12_qGoesOnTest_114 rfl) ?_
    refine xa_step (xa_dup d_X12_qGoesOnTest_115 (xa_tR _)) ?_
    refine xa_getf xI xc_12 (by decide) (fun _ => rfl) xw_1404 rfl d_X12_qGoesOnTest_116 (fun x49 _ => ?_)
    refine xa_step (xa_iconst d_X12_qGoesOnTest_119 xq_i_1) ?_
    refine xa_step (xa_iadd d_X12_qGoesOnTest_120) ?_
    refine xa_putf2 (tg := xI) xc_12 (by decide) (fun _ => rfl) rfl (fun c hc => xa_fitI c hc) xw_1404 rfl d_X12_qGoesOnTest_121 (fun h50 _ => ?_)
    refine xa_step (xa_iconst d_X12_qGoesOnTest_124 xq_i_1) ?_
    exact xa_zret d_X12_qGoesOnTest_125 rfl (Or.inr rfl) rfl
set_option maxRecDepth 100000 in
set_option maxHeartbeats 4000000 in
theorem g_X12_qGoesOnTest (l : Launch) (G : xa_C) (v0 : Int) (h : xa_H) : xa_G l G 5 mX12_qGoesOnTest (f_X12_qGoesOnTest v0 h) (fun r => some (some (xI r.1), r.2) : (Int × xa_H) → Option xa_O) 0 [some (xR v0)] [] h := by
  unfold f_X12_qGoesOnTest
  refine xa_weak (ls' := [some (xR v0)]) ⟨rfl, trivial⟩ ?_
  refine xa_loop (f := fun s => f_X12_qGoesOnTest_L0 v0 s) (L := fun s => [some (xR v0)]) (P := fun s => s) (X := (fun x K => xa_G l G 5 mX12_qGoesOnTest (some (Sum.inr x)) K 76 [some (xR v0)] [] x)) (fun K hb hX s => g_X12_qGoesOnTest_L0 l G v0 K (fun hh => hb hh) (fun hh => hX hh) s) ?_ xFU h
  intro e18 K hK
  refine xa_eqE hK ?_
  show xa_G l G 5 mX12_qGoesOnTest _ _ 76 [some (xR v0)] [] e18
  exact xa_weak (ls' := [some (xR v0)]) ⟨rfl, trivial⟩ (g_X12_qGoesOnTest_J76 l G v0 e18)
theorem ct_X12_qGoesOnTest (l : Launch) (G : xa_C) (v0 : Int) (h : xa_H) (r : Int × xa_H) (hr : f_X12_qGoesOnTest v0 h = some r) : xa_CT l G 5 mX12_qGoesOnTest yX12_qGoesOnTest [xR v0] h (some (xI r.1), r.2) :=
  xa_met (by decide +kernel) rfl (fun q => by first | rfl | cases q) (Nat.le_of_ble_eq_true rfl) rfl (g_X12_qGoesOnTest l G v0 h) (by rw [hr]; rfl)
abbrev mX12_qTest : xa_M := (cX12_qTest, 3, none, RX12, false)
theorem d_X12_qTest_0 : decode mX12_qTest.1 0 = .ok (.iconst 1, 1) ∧ 0 + 1 = 1 := ⟨by decide +kernel, rfl⟩
theorem d_X12_qTest_1 : decode mX12_qTest.1 1 = .ok (.istore_n 1, 1) ∧ 1 + 1 = 2 := ⟨by decide +kernel, rfl⟩
theorem d_X12_qTest_2 : decode mX12_qTest.1 2 = .ok (.iload_n 1, 1) ∧ 2 + 1 = 3 := ⟨by decide +kernel, rfl⟩
theorem d_X12_qTest_3 : decode mX12_qTest.1 3 = .ok (.ifCond .eq 107, 3) ∧ 3 + 3 = 6 ∧ ((3 : Nat) : Int) + 107 = ((110 : Nat) : Int) := ⟨by decide +kernel, rfl, rfl⟩
theorem d_X12_qTest_6 : decode mX12_qTest.1 6 = .ok (.aload_n 0, 1) ∧ 6 + 1 = 7 := ⟨by decide +kernel, rfl⟩
theorem d_X12_qTest_7 : decode mX12_qTest.1 7 = .ok (.getfield 249, 3) ∧ 7 + 3 = 10 := ⟨by decide +kernel, rfl⟩
theorem d_X12_qTest_10 : decode mX12_qTest.1 10 = .ok (.ifCond .ne 100, 3) ∧ 10 + 3 = 13 ∧ ((10 : Nat) : Int) + 100 = ((110 : Nat) : Int) := ⟨by decide +kernel, rfl, rfl⟩
theorem d_X12_qTest_13 : decode mX12_qTest.1 13 = .ok (.aload_n 0, 1) ∧ 13 + 1 = 14 := ⟨by decide +kernel, rfl⟩
theorem d_X12_qTest_14 : decode mX12_qTest.1 14 = .ok (.invokevirtual 261, 3) ∧ 14 + 3 = 17 := ⟨by decide +kernel, rfl⟩
theorem d_X12_qTest_17 : decode mX12_qTest.1 17 = .ok (.istore_n 2, 1) ∧ 17 + 1 = 18 := ⟨by decide +kernel, rfl⟩
theorem d_X12_qTest_18 : decode mX12_qTest.1 18 = .ok (.iload_n 2, 1) ∧ 18 + 1 = 19 := ⟨by decide +kernel, rfl⟩
theorem d_X12_qTest_19 : decode mX12_qTest.1 19 = .ok (.bipush 91, 2) ∧ 19 + 2 = 21 := ⟨by decide +kernel, rfl⟩
theorem d_X12_qTest_21 : decode mX12_qTest.1 21 = .ok (.if_icmp .ne 26, 3) ∧ 21 + 3 = 24 ∧ ((21 : Nat) : Int) + 26 = ((47 : Nat) : Int) := ⟨by decide +kernel, rfl, rfl⟩
theorem d_X12_qTest_24 : decode mX12_qTest.1 24 = .ok (.aload_n 0, 1) ∧ 24 + 1 = 25 := ⟨by decide +kernel, rfl⟩
theorem d_X12_qTest_25 : decode mX12_qTest.1 25 = .ok (.bipush 25, 2) ∧ 25 + 2 = 27 := ⟨by decide +kernel, rfl⟩
theorem d_X12_qTest_27 : decode mX12_qTest.1 27 = .ok (.aload_n 0, 1) ∧ 27 + 1 = 28 := ⟨by decide +kernel, rfl⟩
theorem d_X12_qTest_28 : decode mX12_qTest.1 28 = .ok (.getfield 255, 3) ∧ 28 + 3 = 31 := ⟨by decide +kernel, rfl⟩
theorem d_X12_qTest_31 : decode mX12_qTest.1 31 = .ok (.invokevirtual 612, 3) ∧ 31 + 3 = 34 := ⟨by decide +kernel, rfl⟩
theorem d_X12_qTest_34 : decode mX12_qTest.1 34 = .ok (.aload_n 0, 1) ∧ 34 + 1 = 35 := ⟨by decide +kernel, rfl⟩
theorem d_X12_qTest_35 : decode mX12_qTest.1 35 = .ok (.dup, 1) ∧ 35 + 1 = 36 := ⟨by decide +kernel, rfl⟩
theorem d_X12_qTest_36 : decode mX12_qTest.1 36 = .ok (.getfield 255, 3) ∧ 36 + 3 = 39 := ⟨by decide +kernel, rfl⟩
theorem d_X12_qTest_39 : decode mX12_qTest.1 39 = .ok (.iconst 1, 1) ∧ 39 + 1 = 40 := ⟨by decide +kernel, rfl⟩
theorem d_X12_qTest_40 : decode mX12_qTest.1 40 = .ok (.iadd, 1) ∧ 40 + 1 = 41 := ⟨by decide +kernel, rfl⟩
theorem d_X12_qTest_41 : decode mX12_qTest.1 41 = .ok (.putfield 255, 3) ∧ 41 + 3 = 44 := ⟨by decide +kernel, rfl⟩
theorem d_X12_qTest_44 : decode mX12_qTest.1 44 = .ok (.goto (-42), 3) ∧ ((44 : Nat) : Int) + (-42) = ((2 : Nat) : Int) := ⟨by decide +kernel, rfl⟩
theorem d_X12_qTest_47 : decode mX12_qTest.1 47 = .ok (.aload_n 0, 1) ∧ 47 + 1 = 48 := ⟨by decide +kernel, rfl⟩
theorem d_X12_qTest_48 : decode mX12_qTest.1 48 = .ok (.aload_n 0, 1) ∧ 48 + 1 = 49 := ⟨by decide +kernel, rfl⟩
theorem d_X12_qTest_49 : decode mX12_qTest.1 49 = .ok (.getfield 192, 3) ∧ 49 + 3 = 52 := ⟨by decide +kernel, rfl⟩
theorem d_X12_qTest_52 : decode mX12_qTest.1 52 = .ok (.invokevirtual 272, 3) ∧ 52 + 3 = 55 := ⟨by decide +kernel, rfl⟩
theorem d_X12_qTest_55 : decode mX12_qTest.1 55 = .ok (.ifCond .eq 24, 3) ∧ 55 + 3 = 58 ∧ ((55 : Nat) : Int) + 24 = ((79 : Nat) : Int) := ⟨by decide +kernel, rfl, rfl⟩
theorem d_X12_qTest_79 : decode mX12_qTest.1 79 = .ok (.aload_n 0, 1) ∧ 79 + 1 = 80 := ⟨by decide +kernel, rfl⟩
theorem d_X12_qTest_80 : decode mX12_qTest.1 80 = .ok (.invokevirtual 636, 3) ∧ 80 + 3 = 83 := ⟨by decide +kernel, rfl⟩
theorem d_X12_qTest_83 : decode mX12_qTest.1 83 = .ok (.aload_n 0, 1) ∧ 83 + 1 = 84 := ⟨by decide +kernel, rfl⟩
theorem d_X12_qTest_84 : decode mX12_qTest.1 84 = .ok (.invokevirtual 639, 3) ∧ 84 + 3 = 87 := ⟨by decide +kernel, rfl⟩
theorem d_X12_qTest_87 : decode mX12_qTest.1 87 = .ok (.aload_n 0, 1) ∧ 87 + 1 = 88 := ⟨by decide +kernel, rfl⟩
theorem d_X12_qTest_88 : decode mX12_qTest.1 88 = .ok (.getfield 249, 3) ∧ 88 + 3 = 91 := ⟨by decide +kernel, rfl⟩
theorem d_X12_qTest_91 : decode mX12_qTest.1 91 = .ok (.ifCond .ne 14, 3) ∧ 91 + 3 = 94 ∧ ((91 : Nat) : Int) + 14 = ((105 : Nat) : Int) := ⟨by decide +kernel, rfl, rfl⟩
theorem d_X12_qTest_94 : decode mX12_qTest.1 94 = .ok (.aload_n 0, 1) ∧ 94 + 1 = 95 := ⟨by decide +kernel, rfl⟩
theorem d_X12_qTest_95 : decode mX12_qTest.1 95 = .ok (.invokevirtual 642, 3) ∧ 95 + 3 = 98 := ⟨by decide +kernel, rfl⟩
theorem d_X12_qTest_98 : decode mX12_qTest.1 98 = .ok (.ifCond .eq 7, 3) ∧ 98 + 3 = 101 ∧ ((98 : Nat) : Int) + 7 = ((105 : Nat) : Int) := ⟨by decide +kernel, rfl, rfl⟩
theorem d_X12_qTest_105 : decode mX12_qTest.1 105 = .ok (.iconst 0, 1) ∧ 105 + 1 = 106 := ⟨by decide +kernel, rfl⟩
theorem d_X12_qTest_106 : decode mX12_qTest.1 106 = .ok (.istore_n 1, 1) ∧ 106 + 1 = 107 := ⟨by decide +kernel, rfl⟩
theorem d_X12_qTest_107 : decode mX12_qTest.1 107 = .ok (.goto (-105), 3) ∧ ((107 : Nat) : Int) + (-105) = ((2 : Nat) : Int) := ⟨by decide +kernel, rfl⟩
theorem d_X12_qTest_101 : decode mX12_qTest.1 101 = .ok (.iconst 1, 1) ∧ 101 + 1 = 102 := ⟨by decide +kernel, rfl⟩
theorem d_X12_qTest_102 : decode mX12_qTest.1 102 = .ok (.goto 4, 3) ∧ ((102 : Nat) : Int) + 4 = ((106 : Nat) : Int) := ⟨by decide +kernel, rfl⟩
theorem d_X12_qTest_58 : decode mX12_qTest.1 58 = .ok (.aload_n 0, 1) ∧ 58 + 1 = 59 := ⟨by decide +kernel, rfl⟩
theorem d_X12_qTest_59 : decode mX12_qTest.1 59 = .ok (.bipush 12, 2) ∧ 59 + 2 = 61 := ⟨by decide +kernel, rfl⟩
theorem d_X12_qTest_61 : decode mX12_qTest.1 61 = .ok (.aload_n 0, 1) ∧ 61 + 1 = 62 := ⟨by decide +kernel, rfl⟩
theorem d_X12_qTest_62 : decode mX12_qTest.1 62 = .ok (.getfield 255, 3) ∧ 62 + 3 = 65 := ⟨by decide +kernel, rfl⟩
theorem d_X12_qTest_65 : decode mX12_qTest.1 65 = .ok (.invokevirtual 612, 3) ∧ 65 + 3 = 68 := ⟨by decide +kernel, rfl⟩
theorem d_X12_qTest_68 : decode mX12_qTest.1 68 = .ok (.aload_n 0, 1) ∧ 68 + 1 = 69 := ⟨by decide +kernel, rfl⟩
theorem d_X12_qTest_69 : decode mX12_qTest.1 69 = .ok (.aload_n 0, 1) ∧ 69 + 1 = 70 := ⟨by decide +kernel, rfl⟩
theorem d_X12_qTest_70 : decode mX12_qTest.1 70 = .ok (.getfield 192, 3) ∧ 70 + 3 = 73 := ⟨by decide +kernel, rfl⟩
theorem d_X12_qTest_73 : decode mX12_qTest.1 73 = .ok (.invokevirtual 323, 3) ∧ 73 + 3 = 76 := ⟨by decide +kernel, rfl⟩
theorem d_X12_qTest_76 : decode mX12_qTest.1 76 = .ok (.goto (-74), 3) ∧ ((76 : Nat) : Int) + (-74) = ((2 : Nat) : Int) := ⟨by decide +kernel, rfl⟩
set_option maxRecDepth 100000 in
set_option maxHeartbeats 4000000 in
theorem g_X12_qTest_L2 (l : Launch) (G : xa_C) (c0 : Int) (K : (Int × xa_H) ⊕ (xa_H) → Option xa_O) (hb : ∀ (v1 : Int) (h : xa_H), xa_G l G 10 mX12_qTest (some (Sum.inl ((v1, h)))) K 2 [some (xR c0), some (xI v1), none] [] h) (hx : ∀ (h : xa_H), xa_G l G 10 mX12_qTest (some (Sum.inr h)) K 110 [some (xR c0), none, none] [] h) : ∀ (v1 : Int) (h : xa_H), xa_G l G 10 mX12_qTest (f_X12_qTest_L2 c0 v1 h) K 2 [some (xR c0), some (xI v1), none] [] h := by
  intro v1 h
  unfold f_X12_qTest_L2
  refine xa_step (xa_iload_n d_X12_qTest_2 rfl) ?_
  refine xa_if (xa_ifeq d_X12_qTest_3) (fun q1 => ?_) (fun q1 => ?_)
  · exact xa_weak (ls' := [some (xR c0), none, none]) ⟨rfl, trivial⟩ (hx h)
  · refine xa_step (xa_aload_n d_X12_qTest_6 rfl) ?_
    refine xa_getf xI xc_12 (by decide) (fun _ => rfl) xw_1309 rfl d_X12_qTest_7 (fun x2 _ => ?_)
    refine xa_if (xa_ifne d_X12_qTest_10) (fun q3 => ?_) (fun q3 => ?_)
    · refine xa_step (xa_aload_n d_X12_qTest_13 rfl) ?_
      refine xa_callVI (as := []) (st := []) (M' := mX12_look) (d' := 2) rfl xw_1646 xw_1648 xw_66 xw_1649 xw_177 xh_X12_look rfl ⟨Nat.le_of_ble_eq_true rfl, Nat.le_of_ble_eq_true rfl⟩ (Nat.le_of_ble_eq_true rfl) rfl d_X12_qTest_14 (fun r hr => ct_X12_look l G c0 h r hr) (fun r4 _ => ?_)
      refine xa_step (xa_istore_n (ls' := [some (xR c0), some (xI v1), some (xI r4.1)]) d_X12_qTest_17 (by decide) rfl) ?_
      refine xa_step (xa_iload_n d_X12_qTest_18 rfl) ?_
      refine xa_step (xa_bipush d_X12_qTest_19 xq_b_91) ?_
      refine xa_if (xa_icmpne d_X12_qTest_21) (fun q5 => ?_) (fun q5 => ?_)
      · refine xa_step (xa_aload_n d_X12_qTest_24 rfl) ?_
        refine xa_step (xa_bipush d_X12_qTest_25 xq_b_25) ?_
        refine xa_step (xa_aload_n d_X12_qTest_27 rfl) ?_
        refine xa_getf xI xc_12 (by decide) (fun _ => rfl) xw_1306 rfl d_X12_qTest_28 (fun x6 _ => ?_)
        refine xa_callVV (as := [xI 25, xI x6]) (st := []) (M' := mX12_qOpens) (d' := 3) rfl xw_1737 xw_1739 xw_86 xw_1740 xw_177 xh_X12_qOpens rfl ⟨Nat.le_of_ble_eq_true rfl, Nat.le_of_ble_eq_true rfl⟩ (Nat.le_of_ble_eq_true rfl) rfl d_X12_qTest_31 (fun r hr => ct_X12_qOpens l G c0 25 x6 r4.2 r hr) (fun r7 _ => ?_)
        refine xa_step (xa_aload_n d_X12_qTest_34 rfl) ?_
        refine xa_step (xa_dup d_X12_qTest_35 (xa_tR _)) ?_
        refine xa_getf xI xc_12 (by decide) (fun _ => rfl) xw_1306 rfl d_X12_qTest_36 (fun x8 _ => ?_)
        refine xa_step (xa_iconst d_X12_qTest_39 xq_i_1) ?_
        refine xa_step (xa_iadd d_X12_qTest_40) ?_
        refine xa_putf2 (tg := xI) xc_12 (by decide) (fun _ => rfl) rfl (fun c hc => xa_fitI c hc) xw_1306 rfl d_X12_qTest_41 (fun h9 _ => ?_)
        refine xa_step (xa_goto d_X12_qTest_44) ?_
        exact xa_weak (ls' := [some (xR c0), some (xI v1), none]) ⟨rfl, rfl, trivial⟩ (hb v1 h9)
      · refine xa_step (xa_aload_n d_X12_qTest_47 rfl) ?_
        refine xa_step (xa_aload_n d_X12_qTest_48 rfl) ?_
        refine xa_getf xR xc_12 (by decide) (fun _ => rfl) xw_1387 rfl d_X12_qTest_49 (fun x10 _ => ?_)
        refine xa_callVI (as := [xR x10]) (st := []) (M' := mX12_isHere) (d' := 3) rfl xw_1662 xw_1664 xw_70 xw_1665 xw_177 xh_X12_isHere rfl ⟨Nat.le_of_ble_eq_true rfl, Nat.le_of_ble_eq_true rfl⟩ (Nat.le_of_ble_eq_true rfl) rfl d_X12_qTest_52 (fun r hr => ct_X12_isHere l G c0 x10 r4.2 r hr) (fun r11 _ => ?_)
        refine xa_if (xa_ifeq d_X12_qTest_55) (fun q12 => ?_) (fun q12 => ?_)
        · refine xa_step (xa_aload_n d_X12_qTest_79 rfl) ?_
          refine xa_callVV (as := []) (st := []) (M' := mX12_qFact) (d' := 9) rfl xw_1741 xw_1743 xw_87 xw_1744 xw_177 xh_X12_qFact rfl ⟨Nat.le_of_ble_eq_true rfl, Nat.le_of_ble_eq_true rfl⟩ (Nat.le_of_ble_eq_true rfl) rfl d_X12_qTest_80 (fun r hr => ct_X12_qFact l G c0 r11.2 r hr) (fun r13 _ => ?_)
          refine xa_step (xa_aload_n d_X12_qTest_83 rfl) ?_
          refine xa_callVV (as := []) (st := []) (M' := mX12_qDropsNots) (d' := 4) rfl xw_1808 xw_1810 xw_103 xw_1811 xw_177 xh_X12_qDropsNots rfl ⟨Nat.le_of_ble_eq_true rfl, Nat.le_of_ble_eq_true rfl⟩ (Nat.le_of_ble_eq_true rfl) rfl d_X12_qTest_84 (fun r hr => ct_X12_qDropsNots l G c0 r13 r hr) (fun r14 _ => ?_)
          refine xa_step (xa_aload_n d_X12_qTest_87 rfl) ?_
          refine xa_getf xI xc_12 (by decide) (fun _ => rfl) xw_1309 rfl d_X12_qTest_88 (fun x15 _ => ?_)
          refine xa_if (xa_ifne d_X12_qTest_91) (fun q16 => ?_) (fun q16 => ?_)
          · refine xa_step (xa_aload_n d_X12_qTest_94 rfl) ?_
            refine xa_callVI (as := []) (st := []) (M' := mX12_qGoesOnTest) (d' := 5) rfl xw_1812 xw_1814 xw_104 xw_1815 xw_177 xh_X12_qGoesOnTest rfl ⟨Nat.le_of_ble_eq_true rfl, Nat.le_of_ble_eq_true rfl⟩ (Nat.le_of_ble_eq_true rfl) rfl d_X12_qTest_95 (fun r hr => ct_X12_qGoesOnTest l G c0 r14 r hr) (fun r17 _ => ?_)
            refine xa_if (xa_ifeq d_X12_qTest_98) (fun q18 => ?_) (fun q18 => ?_)
            · refine xa_step (xa_iconst d_X12_qTest_105 xq_i_0) ?_
              refine xa_step (xa_istore_n (ls' := [some (xR c0), some (xI 0), some (xI r4.1)]) d_X12_qTest_106 (by decide) rfl) ?_
              refine xa_step (xa_goto d_X12_qTest_107) ?_
              exact xa_weak (ls' := [some (xR c0), some (xI 0), none]) ⟨rfl, rfl, trivial⟩ (hb 0 r17.2)
            · refine xa_step (xa_iconst d_X12_qTest_101 xq_i_1) ?_
              refine xa_step (xa_goto d_X12_qTest_102) ?_
              refine xa_step (xa_istore_n (ls' := [some (xR c0), some (xI 1), some (xI r4.1)]) d_X12_qTest_106 (by decide) rfl) ?_
              refine xa_step (xa_goto d_X12_qTest_107) ?_
              exact xa_weak (ls' := [some (xR c0), some (xI 1), none]) ⟨rfl, rfl, trivial⟩ (hb 1 r17.2)
          · refine xa_step (xa_iconst d_X12_qTest_105 xq_i_0) ?_
            refine xa_step (xa_istore_n (ls' := [some (xR c0), some (xI 0), some (xI r4.1)]) d_X12_qTest_106 (by decide) rfl) ?_
            refine xa_step (xa_goto d_X12_qTest_107) ?_
            exact xa_weak (ls' := [some (xR c0), some (xI 0), none]) ⟨rfl, rfl, trivial⟩ (hb 0 r14)
        · refine xa_step (xa_aload_n d_X12_qTest_58 rfl) ?_
          refine xa_step (xa_bipush d_X12_qTest_59 xq_b_12) ?_
          refine xa_step (xa_aload_n d_X12_qTest_61 rfl) ?_
          refine xa_getf xI xc_12 (by decide) (fun _ => rfl) xw_1306 rfl d_X12_qTest_62 (fun x19 _ => ?_)
          refine xa_callVV (as := [xI 12, xI x19]) (st := []) (M' := mX12_qOpens) (d' := 3) rfl xw_1737 xw_1739 xw_86 xw_1740 xw_177 xh_X12_qOpens rfl ⟨Nat.le_of_ble_eq_true rfl, Nat.le_of_ble_eq_true rfl⟩ (Nat.le_of_ble_eq_true rfl) rfl d_X12_qTest_65 (fun r hr => ct_X12_qOpens l G c0 12 x19 r11.2 r hr) (fun r20 _ => ?_)
          refine xa_step (xa_aload_n d_X12_qTest_68 rfl) ?_
          refine xa_step (xa_aload_n d_X12_qTest_69 rfl) ?_
          refine xa_getf xR xc_12 (by decide) (fun _ => rfl) xw_1387 rfl d_X12_qTest_70 (fun x21 _ => ?_)
          refine xa_callVV (as := [xR x21]) (st := []) (M' := mX12_asks) (d' := 5) rfl xw_1695 xw_1697 xw_77 xw_1698 xw_177 xh_X12_asks rfl ⟨Nat.le_of_ble_eq_true rfl, Nat.le_of_ble_eq_true rfl⟩ (Nat.le_of_ble_eq_true rfl) rfl d_X12_qTest_73 (fun r hr => ct_X12_asks l G c0 x21 r20 r hr) (fun r22 _ => ?_)
          refine xa_step (xa_goto d_X12_qTest_76) ?_
          exact xa_weak (ls' := [some (xR c0), some (xI v1), none]) ⟨rfl, rfl, trivial⟩ (hb v1 r22)
    · exact xa_weak (ls' := [some (xR c0), none, none]) ⟨rfl, trivial⟩ (hx h)
theorem d_X12_qTest_110 : decode mX12_qTest.1 110 = .ok (.aload_n 0, 1) ∧ 110 + 1 = 111 := ⟨by decide +kernel, rfl⟩
theorem d_X12_qTest_111 : decode mX12_qTest.1 111 = .ok (.getfield 249, 3) ∧ 111 + 3 = 114 := ⟨by decide +kernel, rfl⟩
theorem d_X12_qTest_114 : decode mX12_qTest.1 114 = .ok (.ifCond .ne 17, 3) ∧ 114 + 3 = 117 ∧ ((114 : Nat) : Int) + 17 = ((131 : Nat) : Int) := ⟨by decide +kernel, rfl, rfl⟩
theorem d_X12_qTest_117 : decode mX12_qTest.1 117 = .ok (.aload_n 0, 1) ∧ 117 + 1 = 118 := ⟨by decide +kernel, rfl⟩
theorem d_X12_qTest_118 : decode mX12_qTest.1 118 = .ok (.getfield 338, 3) ∧ 118 + 3 = 121 := ⟨by decide +kernel, rfl⟩
theorem d_X12_qTest_121 : decode mX12_qTest.1 121 = .ok (.ifCond .le 10, 3) ∧ 121 + 3 = 124 ∧ ((121 : Nat) : Int) + 10 = ((131 : Nat) : Int) := ⟨by decide +kernel, rfl, rfl⟩
theorem d_X12_qTest_124 : decode mX12_qTest.1 124 = .ok (.aload_n 0, 1) ∧ 124 + 1 = 125 := ⟨by decide +kernel, rfl⟩
theorem d_X12_qTest_125 : decode mX12_qTest.1 125 = .ok (.invokevirtual 600, 3) ∧ 125 + 3 = 128 := ⟨by decide +kernel, rfl⟩
theorem d_X12_qTest_128 : decode mX12_qTest.1 128 = .ok (.goto (-18), 3) ∧ ((128 : Nat) : Int) + (-18) = ((110 : Nat) : Int) := ⟨by decide +kernel, rfl⟩
set_option maxRecDepth 100000 in
set_option maxHeartbeats 4000000 in
theorem g_X12_qTest_L110 (l : Launch) (G : xa_C) (c0 : Int) (K : (xa_H) ⊕ (xa_H) → Option xa_O) (hb : ∀ (h : xa_H), xa_G l G 10 mX12_qTest (some (Sum.inl h)) K 110 [some (xR c0), none, none] [] h) (hx : ∀ (h : xa_H), xa_G l G 10 mX12_qTest (some (Sum.inr h)) K 131 [none, none, none] [] h) : ∀ (h : xa_H), xa_G l G 10 mX12_qTest (f_X12_qTest_L110 c0 h) K 110 [some (xR c0), none, none] [] h := by
  intro h
  unfold f_X12_qTest_L110
  refine xa_step (xa_aload_n d_X12_qTest_110 rfl) ?_
  refine xa_getf xI xc_12 (by decide) (fun _ => rfl) xw_1309 rfl d_X12_qTest_111 (fun x24 _ => ?_)
  refine xa_if (xa_ifne d_X12_qTest_114) (fun q25 => ?_) (fun q25 => ?_)
  · refine xa_step (xa_aload_n d_X12_qTest_117 rfl) ?_
    refine xa_getf xI xc_12 (by decide) (fun _ => rfl) xw_1404 rfl d_X12_qTest_118 (fun x26 _ => ?_)
    refine xa_if (xa_ifle d_X12_qTest_121) (fun q27 => ?_) (fun q27 => ?_)
    · refine xa_step (xa_aload_n d_X12_qTest_124 rfl) ?_
      refine xa_callVV (as := []) (st := []) (M' := mX12_qDrops) (d' := 3) rfl xw_1785 xw_1787 xw_98 xw_1788 xw_177 xh_X12_qDrops rfl ⟨Nat.le_of_ble_eq_true rfl, Nat.le_of_ble_eq_true rfl⟩ (Nat.le_of_ble_eq_true rfl) rfl d_X12_qTest_125 (fun r hr => ct_X12_qDrops l G c0 h r hr) (fun r28 _ => ?_)
      refine xa_step (xa_goto d_X12_qTest_128) ?_
      exact xa_weak (ls' := [some (xR c0), none, none]) ⟨rfl, trivial⟩ (hb r28)
    · exact xa_weak (ls' := [none, none, none]) trivial (hx h)
  · exact xa_weak (ls' := [none, none, none]) trivial (hx h)
theorem d_X12_qTest_131 : decode mX12_qTest.1 131 = .ok (.return_, 1) := by decide +kernel
set_option maxRecDepth 100000 in
set_option maxHeartbeats 4000000 in
theorem g_X12_qTest (l : Launch) (G : xa_C) (v0 : Int) (h : xa_H) : xa_G l G 10 mX12_qTest (f_X12_qTest v0 h) (fun r => some (none, r) : xa_H → Option xa_O) 0 [some (xR v0), none, none] [] h := by
  unfold f_X12_qTest
  refine xa_step (xa_iconst d_X12_qTest_0 xq_i_1) ?_
  refine xa_step (xa_istore_n (ls' := [some (xR v0), some (xI 1), none]) d_X12_qTest_1 (by decide) rfl) ?_
  refine xa_weak (ls' := [some (xR v0), some (xI 1), none]) ⟨rfl, rfl, trivial⟩ ?_
  refine xa_loop (f := fun s => f_X12_qTest_L2 v0 s.1 s.2) (L := fun s => [some (xR v0), some (xI s.1), none]) (P := fun s => s.2) (X := (fun x K => xa_G l G 10 mX12_qTest (some (Sum.inr x)) K 110 [some (xR v0), none, none] [] x)) (fun K hb hX s => g_X12_qTest_L2 l G v0 K (fun w0 hh => hb ((w0, hh))) (fun hh => hX hh) s.1 s.2) ?_ xFU ((1, h))
  intro e23 K hK
  refine xa_eqE hK ?_
  show xa_G l G 10 mX12_qTest _ _ 110 [some (xR v0), none, none] [] e23
  refine xa_weak (ls' := [some (xR v0), none, none]) ⟨rfl, trivial⟩ ?_
  refine xa_loop (f := fun s => f_X12_qTest_L110 v0 s) (L := fun s => [some (xR v0), none, none]) (P := fun s => s) (X := (fun x K => xa_G l G 10 mX12_qTest (some (Sum.inr x)) K 131 [none, none, none] [] x)) (fun K hb hX s => g_X12_qTest_L110 l G v0 K (fun hh => hb hh) (fun hh => hX hh) s) ?_ xFU e23
  intro e29 K hK
  refine xa_eqE hK ?_
  show xa_G l G 10 mX12_qTest _ _ 131 [none, none, none] [] e29
  exact xa_vret d_X12_qTest_131 rfl rfl
theorem ct_X12_qTest (l : Launch) (G : xa_C) (v0 : Int) (h : xa_H) (r : xa_H) (hr : f_X12_qTest v0 h = some r) : xa_CT l G 10 mX12_qTest yX12_qTest [xR v0] h (none, r) :=
  xa_met (by decide +kernel) rfl (fun q => by first | rfl | cases q) (Nat.le_of_ble_eq_true rfl) rfl (g_X12_qTest l G v0 h) (by rw [hr]; rfl)
abbrev mX12_qClip : xa_M := (cX12_qClip, 2, (some (.long)), RX12, false)
theorem d_X12_qClip_0 : decode mX12_qClip.1 0 = .ok (.lload_n 0, 1) ∧ 0 + 1 = 1 := ⟨by decide +kernel, rfl⟩
theorem d_X12_qClip_1 : decode mX12_qClip.1 1 = .ok (.ldc2_w 648, 3) ∧ 1 + 3 = 4 := ⟨by decide +kernel, rfl⟩
theorem d_X12_qClip_4 : decode mX12_qClip.1 4 = .ok (.lcmp, 1) ∧ 4 + 1 = 5 := ⟨by decide +kernel, rfl⟩
theorem d_X12_qClip_5 : decode mX12_qClip.1 5 = .ok (.ifCond .le 9, 3) ∧ 5 + 3 = 8 ∧ ((5 : Nat) : Int) + 9 = ((14 : Nat) : Int) := ⟨by decide +kernel, rfl, rfl⟩
theorem d_X12_qClip_8 : decode mX12_qClip.1 8 = .ok (.ldc2_w 648, 3) ∧ 8 + 3 = 11 := ⟨by decide +kernel, rfl⟩
theorem d_X12_qClip_11 : decode mX12_qClip.1 11 = .ok (.goto 18, 3) ∧ ((11 : Nat) : Int) + 18 = ((29 : Nat) : Int) := ⟨by decide +kernel, rfl⟩
theorem d_X12_qClip_29 : decode mX12_qClip.1 29 = .ok (.lreturn, 1) := by decide +kernel
theorem d_X12_qClip_14 : decode mX12_qClip.1 14 = .ok (.lload_n 0, 1) ∧ 14 + 1 = 15 := ⟨by decide +kernel, rfl⟩
theorem d_X12_qClip_15 : decode mX12_qClip.1 15 = .ok (.ldc2_w 650, 3) ∧ 15 + 3 = 18 := ⟨by decide +kernel, rfl⟩
theorem d_X12_qClip_18 : decode mX12_qClip.1 18 = .ok (.lcmp, 1) ∧ 18 + 1 = 19 := ⟨by decide +kernel, rfl⟩
theorem d_X12_qClip_19 : decode mX12_qClip.1 19 = .ok (.ifCond .ge 9, 3) ∧ 19 + 3 = 22 ∧ ((19 : Nat) : Int) + 9 = ((28 : Nat) : Int) := ⟨by decide +kernel, rfl, rfl⟩
theorem d_X12_qClip_22 : decode mX12_qClip.1 22 = .ok (.ldc2_w 650, 3) ∧ 22 + 3 = 25 := ⟨by decide +kernel, rfl⟩
theorem d_X12_qClip_25 : decode mX12_qClip.1 25 = .ok (.goto 4, 3) ∧ ((25 : Nat) : Int) + 4 = ((29 : Nat) : Int) := ⟨by decide +kernel, rfl⟩
theorem d_X12_qClip_28 : decode mX12_qClip.1 28 = .ok (.lload_n 0, 1) ∧ 28 + 1 = 29 := ⟨by decide +kernel, rfl⟩
set_option maxRecDepth 100000 in
set_option maxHeartbeats 4000000 in
theorem g_X12_qClip (l : Launch) (G : xa_C) (v0 : Int) (h : xa_H) : xa_G l G 2 mX12_qClip (f_X12_qClip v0 h) (fun r => some (some (xL r), h) : Int → Option xa_O) 0 [some (xL v0), none] [] h := by
  unfold f_X12_qClip
  refine xa_step (xa_lload_n d_X12_qClip_0 rfl) ?_
  refine xa_step (xa_ldc2 (c64 := 1000000) (v := 1000000) (by decide +kernel) xw_1963 d_X12_qClip_1) ?_
  refine xa_step (xa_lcmp d_X12_qClip_4) ?_
  refine xa_if (xa_ifle d_X12_qClip_5) (fun q1 => ?_) (fun q1 => ?_)
  · refine xa_step (xa_ldc2 (c64 := 1000000) (v := 1000000) (by decide +kernel) xw_1963 d_X12_qClip_8) ?_
    refine xa_step (xa_goto d_X12_qClip_11) ?_
    exact xa_lret d_X12_qClip_29 rfl rfl
  · refine xa_step (xa_lload_n d_X12_qClip_14 rfl) ?_
    refine xa_step (xa_ldc2 (c64 := (-1000000)) (v := (-1000000)) (by decide +kernel) xw_1964 d_X12_qClip_15) ?_
    refine xa_step (xa_lcmp d_X12_qClip_18) ?_
    refine xa_if (xa_ifge d_X12_qClip_19) (fun q2 => ?_) (fun q2 => ?_)
    · refine xa_step (xa_ldc2 (c64 := (-1000000)) (v := (-1000000)) (by decide +kernel) xw_1964 d_X12_qClip_22) ?_
      refine xa_step (xa_goto d_X12_qClip_25) ?_
      exact xa_lret d_X12_qClip_29 rfl rfl
    · refine xa_step (xa_lload_n d_X12_qClip_28 rfl) ?_
      exact xa_lret d_X12_qClip_29 rfl rfl
theorem ct_X12_qClip (l : Launch) (G : xa_C) (v0 : Int) (h : xa_H) (r : Int) (hr : f_X12_qClip v0 h = some r) : xa_CT l G 2 mX12_qClip yX12_qClip [xL v0] h (some (xL r), h) :=
  xa_met (by decide +kernel) rfl (fun q => by first | rfl | cases q) (Nat.le_of_ble_eq_true rfl) rfl (g_X12_qClip l G v0 h) (by rw [hr]; rfl)
abbrev mX12_qFloor : xa_M := (cX12_qFloor, 6, (some (.long)), RX12, false)
theorem d_X12_qFloor_0 : decode mX12_qFloor.1 0 = .ok (.lload_n 2, 1) ∧ 0 + 1 = 1 := ⟨by decide +kernel, rfl⟩
theorem d_X12_qFloor_1 : decode mX12_qFloor.1 1 = .ok (.lconst 0, 1) ∧ 1 + 1 = 2 := ⟨by decide +kernel, rfl⟩
theorem d_X12_qFloor_2 : decode mX12_qFloor.1 2 = .ok (.lcmp, 1) ∧ 2 + 1 = 3 := ⟨by decide +kernel, rfl⟩
theorem d_X12_qFloor_3 : decode mX12_qFloor.1 3 = .ok (.ifCond .ne 5, 3) ∧ 3 + 3 = 6 ∧ ((3 : Nat) : Int) + 5 = ((8 : Nat) : Int) := ⟨by decide +kernel, rfl, rfl⟩
theorem d_X12_qFloor_6 : decode mX12_qFloor.1 6 = .ok (.lconst 0, 1) ∧ 6 + 1 = 7 := ⟨by decide +kernel, rfl⟩
theorem d_X12_qFloor_7 : decode mX12_qFloor.1 7 = .ok (.lreturn, 1) := by decide +kernel
theorem d_X12_qFloor_8 : decode mX12_qFloor.1 8 = .ok (.lload_n 0, 1) ∧ 8 + 1 = 9 := ⟨by decide +kernel, rfl⟩
theorem d_X12_qFloor_9 : decode mX12_qFloor.1 9 = .ok (.lload_n 2, 1) ∧ 9 + 1 = 10 := ⟨by decide +kernel, rfl⟩
theorem d_X12_qFloor_10 : decode mX12_qFloor.1 10 = .ok (.ldiv, 1) ∧ 10 + 1 = 11 := ⟨by decide +kernel, rfl⟩
theorem d_X12_qFloor_11 : decode mX12_qFloor.1 11 = .ok (.lstore 4, 2) ∧ 11 + 2 = 13 := ⟨by decide +kernel, rfl⟩
theorem d_X12_qFloor_13 : decode mX12_qFloor.1 13 = .ok (.lload_n 0, 1) ∧ 13 + 1 = 14 := ⟨by decide +kernel, rfl⟩
theorem d_X12_qFloor_14 : decode mX12_qFloor.1 14 = .ok (.lload_n 2, 1) ∧ 14 + 1 = 15 := ⟨by decide +kernel, rfl⟩
theorem d_X12_qFloor_15 : decode mX12_qFloor.1 15 = .ok (.lrem, 1) ∧ 15 + 1 = 16 := ⟨by decide +kernel, rfl⟩
theorem d_X12_qFloor_16 : decode mX12_qFloor.1 16 = .ok (.lconst 0, 1) ∧ 16 + 1 = 17 := ⟨by decide +kernel, rfl⟩
theorem d_X12_qFloor_17 : decode mX12_qFloor.1 17 = .ok (.lcmp, 1) ∧ 17 + 1 = 18 := ⟨by decide +kernel, rfl⟩
theorem d_X12_qFloor_18 : decode mX12_qFloor.1 18 = .ok (.ifCond .eq 35, 3) ∧ 18 + 3 = 21 ∧ ((18 : Nat) : Int) + 35 = ((53 : Nat) : Int) := ⟨by decide +kernel, rfl, rfl⟩
theorem d_X12_qFloor_53 : decode mX12_qFloor.1 53 = .ok (.lload 4, 2) ∧ 53 + 2 = 55 := ⟨by decide +kernel, rfl⟩
theorem d_X12_qFloor_55 : decode mX12_qFloor.1 55 = .ok (.lreturn, 1) := by decide +kernel
theorem d_X12_qFloor_21 : decode mX12_qFloor.1 21 = .ok (.lload_n 0, 1) ∧ 21 + 1 = 22 := ⟨by decide +kernel, rfl⟩
theorem d_X12_qFloor_22 : decode mX12_qFloor.1 22 = .ok (.lconst 0, 1) ∧ 22 + 1 = 23 := ⟨by decide +kernel, rfl⟩
theorem d_X12_qFloor_23 : decode mX12_qFloor.1 23 = .ok (.lcmp, 1) ∧ 23 + 1 = 24 := ⟨by decide +kernel, rfl⟩
theorem d_X12_qFloor_24 : decode mX12_qFloor.1 24 = .ok (.ifCond .ge 7, 3) ∧ 24 + 3 = 27 ∧ ((24 : Nat) : Int) + 7 = ((31 : Nat) : Int) := ⟨by decide +kernel, rfl, rfl⟩
theorem d_X12_qFloor_27 : decode mX12_qFloor.1 27 = .ok (.iconst 1, 1) ∧ 27 + 1 = 28 := ⟨by decide +kernel, rfl⟩
theorem d_X12_qFloor_28 : decode mX12_qFloor.1 28 = .ok (.goto 4, 3) ∧ ((28 : Nat) : Int) + 4 = ((32 : Nat) : Int) := ⟨by decide +kernel, rfl⟩
theorem d_X12_qFloor_32 : decode mX12_qFloor.1 32 = .ok (.lload_n 2, 1) ∧ 32 + 1 = 33 := ⟨by decide +kernel, rfl⟩
theorem d_X12_qFloor_33 : decode mX12_qFloor.1 33 = .ok (.lconst 0, 1) ∧ 33 + 1 = 34 := ⟨by decide +kernel, rfl⟩
theorem d_X12_qFloor_34 : decode mX12_qFloor.1 34 = .ok (.lcmp, 1) ∧ 34 + 1 = 35 := ⟨by decide +kernel, rfl⟩
theorem d_X12_qFloor_35 : decode mX12_qFloor.1 35 = .ok (.ifCond .ge 7, 3) ∧ 35 + 3 = 38 ∧ ((35 : Nat) : Int) + 7 = ((42 : Nat) : Int) := ⟨by decide +kernel, rfl, rfl⟩
theorem d_X12_qFloor_38 : decode mX12_qFloor.1 38 = .ok (.iconst 1, 1) ∧ 38 + 1 = 39 := ⟨by decide +kernel, rfl⟩
theorem d_X12_qFloor_39 : decode mX12_qFloor.1 39 = .ok (.goto 4, 3) ∧ ((39 : Nat) : Int) + 4 = ((43 : Nat) : Int) := ⟨by decide +kernel, rfl⟩
theorem d_X12_qFloor_43 : decode mX12_qFloor.1 43 = .ok (.if_icmp .eq 10, 3) ∧ 43 + 3 = 46 ∧ ((43 : Nat) : Int) + 10 = ((53 : Nat) : Int) := ⟨by decide +kernel, rfl, rfl⟩
theorem d_X12_qFloor_46 : decode mX12_qFloor.1 46 = .ok (.lload 4, 2) ∧ 46 + 2 = 48 := ⟨by decide +kernel, rfl⟩
theorem d_X12_qFloor_48 : decode mX12_qFloor.1 48 = .ok (.lconst 1, 1) ∧ 48 + 1 = 49 := ⟨by decide +kernel, rfl⟩
theorem d_X12_qFloor_49 : decode mX12_qFloor.1 49 = .ok (.lsub, 1) ∧ 49 + 1 = 50 := ⟨by decide +kernel, rfl⟩
theorem d_X12_qFloor_50 : decode mX12_qFloor.1 50 = .ok (.goto 5, 3) ∧ ((50 : Nat) : Int) + 5 = ((55 : Nat) : Int) := ⟨by decide +kernel, rfl⟩
set_option maxRecDepth 100000 in
set_option maxHeartbeats 4000000 in
theorem g_X12_qFloor_J43 (l : Launch) (G : xa_C) (h : xa_H) : ∀ (v4 s0 s1 : Int) , xa_G l G 2 mX12_qFloor (f_X12_qFloor_J43 v4 s0 s1 h) (fun r => some (some (xL r), h) : Int → Option xa_O) 43 [none, none, none, none, some (xL v4), none] [xI s1, xI s0] h := by
  intro v4 s0 s1
  unfold f_X12_qFloor_J43
  refine xa_if (xa_icmpeq d_X12_qFloor_43) (fun q7 => ?_) (fun q7 => ?_)
  · refine xa_step (xa_lload d_X12_qFloor_53 rfl) ?_
    exact xa_lret d_X12_qFloor_55 rfl rfl
  · refine xa_step (xa_lload d_X12_qFloor_46 rfl) ?_
    refine xa_step (xa_lconst d_X12_qFloor_48 rfl) ?_
    refine xa_step (xa_lsub d_X12_qFloor_49) ?_
    refine xa_step (xa_goto d_X12_qFloor_50) ?_
    exact xa_lret d_X12_qFloor_55 rfl rfl
theorem d_X12_qFloor_42 : decode mX12_qFloor.1 42 = .ok (.iconst 0, 1) ∧ 42 + 1 = 43 := ⟨by decide +kernel, rfl⟩
set_option maxRecDepth 100000 in
set_option maxHeartbeats 4000000 in
theorem g_X12_qFloor_J32 (l : Launch) (G : xa_C) (h : xa_H) : ∀ (v2 v4 s0 : Int) , xa_G l G 2 mX12_qFloor (f_X12_qFloor_J32 v2 v4 s0 h) (fun r => some (some (xL r), h) : Int → Option xa_O) 32 [none, none, some (xL v2), none, some (xL v4), none] [xI s0] h := by
  intro v2 v4 s0
  unfold f_X12_qFloor_J32
  refine xa_step (xa_lload_n d_X12_qFloor_32 rfl) ?_
  refine xa_step (xa_lconst d_X12_qFloor_33 rfl) ?_
  refine xa_step (xa_lcmp d_X12_qFloor_34) ?_
  refine xa_if (xa_ifge d_X12_qFloor_35) (fun q6 => ?_) (fun q6 => ?_)
  · refine xa_step (xa_iconst d_X12_qFloor_38 xq_i_1) ?_
    refine xa_step (xa_goto d_X12_qFloor_39) ?_
    exact xa_weak (ls' := [none, none, none, none, some (xL v4), none]) ⟨rfl, trivial⟩ (g_X12_qFloor_J43 l G h v4 s0 1)
  · refine xa_step (xa_iconst d_X12_qFloor_42 xq_i_0) ?_
    exact xa_weak (ls' := [none, none, none, none, some (xL v4), none]) ⟨rfl, trivial⟩ (g_X12_qFloor_J43 l G h v4 s0 0)
theorem d_X12_qFloor_31 : decode mX12_qFloor.1 31 = .ok (.iconst 0, 1) ∧ 31 + 1 = 32 := ⟨by decide +kernel, rfl⟩
set_option maxRecDepth 100000 in
set_option maxHeartbeats 4000000 in
theorem g_X12_qFloor (l : Launch) (G : xa_C) (v0 v2 : Int) (h : xa_H) : xa_G l G 2 mX12_qFloor (f_X12_qFloor v0 v2 h) (fun r => some (some (xL r), h) : Int → Option xa_O) 0 [some (xL v0), none, some (xL v2), none, none, none] [] h := by
  unfold f_X12_qFloor
  refine xa_step (xa_lload_n d_X12_qFloor_0 rfl) ?_
  refine xa_step (xa_lconst d_X12_qFloor_1 rfl) ?_
  refine xa_step (xa_lcmp d_X12_qFloor_2) ?_
  refine xa_if (xa_ifne d_X12_qFloor_3) (fun q1 => ?_) (fun q1 => ?_)
  · refine xa_step (xa_lconst d_X12_qFloor_6 rfl) ?_
    exact xa_lret d_X12_qFloor_7 rfl rfl
  · refine xa_step (xa_lload_n d_X12_qFloor_8 rfl) ?_
    refine xa_step (xa_lload_n d_X12_qFloor_9 rfl) ?_
    refine xa_nz (fun q2 => ?_)
    refine xa_step (xa_ldiv d_X12_qFloor_10 q2) ?_
    refine xa_step (xa_lstore (ls' := [some (xL v0), none, some (xL v2), none, some (xL (w64 (Int.tdiv v0 v2))), none]) d_X12_qFloor_11 (by decide) rfl) ?_
    refine xa_step (xa_lload_n d_X12_qFloor_13 rfl) ?_
    refine xa_step (xa_lload_n d_X12_qFloor_14 rfl) ?_
    refine xa_nz (fun q3 => ?_)
    refine xa_step (xa_lrem d_X12_qFloor_15 q3) ?_
    refine xa_step (xa_lconst d_X12_qFloor_16 rfl) ?_
    refine xa_step (xa_lcmp d_X12_qFloor_17) ?_
    refine xa_if (xa_ifeq d_X12_qFloor_18) (fun q4 => ?_) (fun q4 => ?_)
    · refine xa_step (xa_lload d_X12_qFloor_53 rfl) ?_
      exact xa_lret d_X12_qFloor_55 rfl rfl
    · refine xa_step (xa_lload_n d_X12_qFloor_21 rfl) ?_
      refine xa_step (xa_lconst d_X12_qFloor_22 rfl) ?_
      refine xa_step (xa_lcmp d_X12_qFloor_23) ?_
      refine xa_if (xa_ifge d_X12_qFloor_24) (fun q5 => ?_) (fun q5 => ?_)
      · refine xa_step (xa_iconst d_X12_qFloor_27 xq_i_1) ?_
        refine xa_step (xa_goto d_X12_qFloor_28) ?_
        exact xa_weak (ls' := [none, none, some (xL v2), none, some (xL (w64 (Int.tdiv v0 v2))), none]) ⟨rfl, rfl, trivial⟩ (g_X12_qFloor_J32 l G h v2 (w64 (Int.tdiv v0 v2)) 1)
      · refine xa_step (xa_iconst d_X12_qFloor_31 xq_i_0) ?_
        exact xa_weak (ls' := [none, none, some (xL v2), none, some (xL (w64 (Int.tdiv v0 v2))), none]) ⟨rfl, rfl, trivial⟩ (g_X12_qFloor_J32 l G h v2 (w64 (Int.tdiv v0 v2)) 0)
theorem ct_X12_qFloor (l : Launch) (G : xa_C) (v0 v2 : Int) (h : xa_H) (r : Int) (hr : f_X12_qFloor v0 v2 h = some r) : xa_CT l G 2 mX12_qFloor yX12_qFloor [xL v0, xL v2] h (some (xL r), h) :=
  xa_met (by decide +kernel) rfl (fun q => by first | rfl | cases q) (Nat.le_of_ble_eq_true rfl) rfl (g_X12_qFloor l G v0 v2 h) (by rw [hr]; rfl)
abbrev mX12_qPuts : xa_M := (cX12_qPuts, 3, none, RX12, false)
theorem d_X12_qPuts_0 : decode mX12_qPuts.1 0 = .ok (.aload_n 0, 1) ∧ 0 + 1 = 1 := ⟨by decide +kernel, rfl⟩
theorem d_X12_qPuts_1 : decode mX12_qPuts.1 1 = .ok (.getfield 240, 3) ∧ 1 + 3 = 4 := ⟨by decide +kernel, rfl⟩
theorem d_X12_qPuts_4 : decode mX12_qPuts.1 4 = .ok (.aload_n 0, 1) ∧ 4 + 1 = 5 := ⟨by decide +kernel, rfl⟩
theorem d_X12_qPuts_5 : decode mX12_qPuts.1 5 = .ok (.getfield 429, 3) ∧ 5 + 3 = 8 := ⟨by decide +kernel, rfl⟩
theorem d_X12_qPuts_8 : decode mX12_qPuts.1 8 = .ok (.lload_n 1, 1) ∧ 8 + 1 = 9 := ⟨by decide +kernel, rfl⟩
theorem d_X12_qPuts_9 : decode mX12_qPuts.1 9 = .ok (.lastore, 1) ∧ 9 + 1 = 10 := ⟨by decide +kernel, rfl⟩
theorem d_X12_qPuts_10 : decode mX12_qPuts.1 10 = .ok (.aload_n 0, 1) ∧ 10 + 1 = 11 := ⟨by decide +kernel, rfl⟩
theorem d_X12_qPuts_11 : decode mX12_qPuts.1 11 = .ok (.dup, 1) ∧ 11 + 1 = 12 := ⟨by decide +kernel, rfl⟩
theorem d_X12_qPuts_12 : decode mX12_qPuts.1 12 = .ok (.getfield 429, 3) ∧ 12 + 3 = 15 := ⟨by decide +kernel, rfl⟩
theorem d_X12_qPuts_15 : decode mX12_qPuts.1 15 = .ok (.iconst 1, 1) ∧ 15 + 1 = 16 := ⟨by decide +kernel, rfl⟩
theorem d_X12_qPuts_16 : decode mX12_qPuts.1 16 = .ok (.iadd, 1) ∧ 16 + 1 = 17 := ⟨by decide +kernel, rfl⟩
theorem d_X12_qPuts_17 : decode mX12_qPuts.1 17 = .ok (.putfield 429, 3) ∧ 17 + 3 = 20 := ⟨by decide +kernel, rfl⟩
theorem d_X12_qPuts_20 : decode mX12_qPuts.1 20 = .ok (.return_, 1) := by decide +kernel
set_option maxRecDepth 100000 in
set_option maxHeartbeats 4000000 in
theorem g_X12_qPuts (l : Launch) (G : xa_C) (v0 v1 : Int) (h : xa_H) : xa_G l G 2 mX12_qPuts (f_X12_qPuts v0 v1 h) (fun r => some (none, r) : xa_H → Option xa_O) 0 [some (xR v0), some (xL v1), none] [] h := by
  unfold f_X12_qPuts
  refine xa_step (xa_aload_n d_X12_qPuts_0 rfl) ?_
  refine xa_getf xR xc_12 (by decide) (fun _ => rfl) xw_1407 rfl d_X12_qPuts_1 (fun x1 _ => ?_)
  refine xa_step (xa_aload_n d_X12_qPuts_4 rfl) ?_
  refine xa_getf xI xc_12 (by decide) (fun _ => rfl) xw_1408 rfl d_X12_qPuts_5 (fun x2 _ => ?_)
  refine xa_step (xa_lload_n d_X12_qPuts_8 rfl) ?_
  refine xa_lastore2 d_X12_qPuts_9 (fun h3 _ => ?_)
  refine xa_step (xa_aload_n d_X12_qPuts_10 rfl) ?_
  refine xa_step (xa_dup d_X12_qPuts_11 (xa_tR _)) ?_
  refine xa_getf xI xc_12 (by decide) (fun _ => rfl) xw_1408 rfl d_X12_qPuts_12 (fun x4 _ => ?_)
  refine xa_step (xa_iconst d_X12_qPuts_15 xq_i_1) ?_
  refine xa_step (xa_iadd d_X12_qPuts_16) ?_
  refine xa_putf2 (tg := xI) xc_12 (by decide) (fun _ => rfl) rfl (fun c hc => xa_fitI c hc) xw_1408 rfl d_X12_qPuts_17 (fun h5 _ => ?_)
  exact xa_vret d_X12_qPuts_20 rfl rfl
theorem ct_X12_qPuts (l : Launch) (G : xa_C) (v0 v1 : Int) (h : xa_H) (r : xa_H) (hr : f_X12_qPuts v0 v1 h = some r) : xa_CT l G 2 mX12_qPuts yX12_qPuts [xR v0, xL v1] h (none, r) :=
  xa_met (by decide +kernel) rfl (fun q => by first | rfl | cases q) (Nat.le_of_ble_eq_true rfl) rfl (g_X12_qPuts l G v0 v1 h) (by rw [hr]; rfl)
abbrev mX12_qJoins : xa_M := (cX12_qJoins, 6, none, RX12, false)
theorem d_X12_qJoins_0 : decode mX12_qJoins.1 0 = .ok (.aload_n 0, 1) ∧ 0 + 1 = 1 := ⟨by decide +kernel, rfl⟩
theorem d_X12_qJoins_1 : decode mX12_qJoins.1 1 = .ok (.getfield 240, 3) ∧ 1 + 3 = 4 := ⟨by decide +kernel, rfl⟩
theorem d_X12_qJoins_4 : decode mX12_qJoins.1 4 = .ok (.aload_n 0, 1) ∧ 4 + 1 = 5 := ⟨by decide +kernel, rfl⟩
theorem d_X12_qJoins_5 : decode mX12_qJoins.1 5 = .ok (.getfield 429, 3) ∧ 5 + 3 = 8 := ⟨by decide +kernel, rfl⟩
theorem d_X12_qJoins_8 : decode mX12_qJoins.1 8 = .ok (.iconst 1, 1) ∧ 8 + 1 = 9 := ⟨by decide +kernel, rfl⟩
theorem d_X12_qJoins_9 : decode mX12_qJoins.1 9 = .ok (.isub, 1) ∧ 9 + 1 = 10 := ⟨by decide +kernel, rfl⟩
theorem d_X12_qJoins_10 : decode mX12_qJoins.1 10 = .ok (.laload, 1) ∧ 10 + 1 = 11 := ⟨by decide +kernel, rfl⟩
theorem d_X12_qJoins_11 : decode mX12_qJoins.1 11 = .ok (.lstore_n 2, 1) ∧ 11 + 1 = 12 := ⟨by decide +kernel, rfl⟩
theorem d_X12_qJoins_12 : decode mX12_qJoins.1 12 = .ok (.aload_n 0, 1) ∧ 12 + 1 = 13 := ⟨by decide +kernel, rfl⟩
theorem d_X12_qJoins_13 : decode mX12_qJoins.1 13 = .ok (.getfield 240, 3) ∧ 13 + 3 = 16 := ⟨by decide +kernel, rfl⟩
theorem d_X12_qJoins_16 : decode mX12_qJoins.1 16 = .ok (.aload_n 0, 1) ∧ 16 + 1 = 17 := ⟨by decide +kernel, rfl⟩
theorem d_X12_qJoins_17 : decode mX12_qJoins.1 17 = .ok (.getfield 429, 3) ∧ 17 + 3 = 20 := ⟨by decide +kernel, rfl⟩
theorem d_X12_qJoins_20 : decode mX12_qJoins.1 20 = .ok (.iconst 2, 1) ∧ 20 + 1 = 21 := ⟨by decide +kernel, rfl⟩
theorem d_X12_qJoins_21 : decode mX12_qJoins.1 21 = .ok (.isub, 1) ∧ 21 + 1 = 22 := ⟨by decide +kernel, rfl⟩
theorem d_X12_qJoins_22 : decode mX12_qJoins.1 22 = .ok (.laload, 1) ∧ 22 + 1 = 23 := ⟨by decide +kernel, rfl⟩
theorem d_X12_qJoins_23 : decode mX12_qJoins.1 23 = .ok (.lstore 4, 2) ∧ 23 + 2 = 25 := ⟨by decide +kernel, rfl⟩
theorem d_X12_qJoins_25 : decode mX12_qJoins.1 25 = .ok (.aload_n 0, 1) ∧ 25 + 1 = 26 := ⟨by decide +kernel, rfl⟩
theorem d_X12_qJoins_26 : decode mX12_qJoins.1 26 = .ok (.dup, 1) ∧ 26 + 1 = 27 := ⟨by decide +kernel, rfl⟩
theorem d_X12_qJoins_27 : decode mX12_qJoins.1 27 = .ok (.getfield 429, 3) ∧ 27 + 3 = 30 := ⟨by decide +kernel, rfl⟩
theorem d_X12_qJoins_30 : decode mX12_qJoins.1 30 = .ok (.iconst 2, 1) ∧ 30 + 1 = 31 := ⟨by decide +kernel, rfl⟩
theorem d_X12_qJoins_31 : decode mX12_qJoins.1 31 = .ok (.isub, 1) ∧ 31 + 1 = 32 := ⟨by decide +kernel, rfl⟩
theorem d_X12_qJoins_32 : decode mX12_qJoins.1 32 = .ok (.putfield 429, 3) ∧ 32 + 3 = 35 := ⟨by decide +kernel, rfl⟩
theorem d_X12_qJoins_35 : decode mX12_qJoins.1 35 = .ok (.iload_n 1, 1) ∧ 35 + 1 = 36 := ⟨by decide +kernel, rfl⟩
theorem d_X12_qJoins_36 : decode mX12_qJoins.1 36 = .ok (.tableswitch 219 1 10 #[56, 70, 84, 98, 111, 131, 151, 170, 189, 208], 56) := by decide +kernel
theorem d_X12_qJoins_92 : decode mX12_qJoins.1 92 = .ok (.aload_n 0, 1) ∧ 92 + 1 = 93 := ⟨by decide +kernel, rfl⟩
theorem d_X12_qJoins_93 : decode mX12_qJoins.1 93 = .ok (.lload 4, 2) ∧ 93 + 2 = 95 := ⟨by decide +kernel, rfl⟩
theorem d_X12_qJoins_95 : decode mX12_qJoins.1 95 = .ok (.lload_n 2, 1) ∧ 95 + 1 = 96 := ⟨by decide +kernel, rfl⟩
theorem d_X12_qJoins_96 : decode mX12_qJoins.1 96 = .ok (.ladd, 1) ∧ 96 + 1 = 97 := ⟨by decide +kernel, rfl⟩
theorem d_X12_qJoins_97 : decode mX12_qJoins.1 97 = .ok (.invokestatic 652, 3) ∧ 97 + 3 = 100 := ⟨by decide +kernel, rfl⟩
theorem d_X12_qJoins_100 : decode mX12_qJoins.1 100 = .ok (.invokevirtual 432, 3) ∧ 100 + 3 = 103 := ⟨by decide +kernel, rfl⟩
theorem d_X12_qJoins_103 : decode mX12_qJoins.1 103 = .ok (.goto 170, 3) ∧ ((103 : Nat) : Int) + 170 = ((273 : Nat) : Int) := ⟨by decide +kernel, rfl⟩
theorem d_X12_qJoins_273 : decode mX12_qJoins.1 273 = .ok (.return_, 1) := by decide +kernel
theorem d_X12_qJoins_106 : decode mX12_qJoins.1 106 = .ok (.aload_n 0, 1) ∧ 106 + 1 = 107 := ⟨by decide +kernel, rfl⟩
theorem d_X12_qJoins_107 : decode mX12_qJoins.1 107 = .ok (.lload 4, 2) ∧ 107 + 2 = 109 := ⟨by decide +kernel, rfl⟩
theorem d_X12_qJoins_109 : decode mX12_qJoins.1 109 = .ok (.lload_n 2, 1) ∧ 109 + 1 = 110 := ⟨by decide +kernel, rfl⟩
theorem d_X12_qJoins_110 : decode mX12_qJoins.1 110 = .ok (.lsub, 1) ∧ 110 + 1 = 111 := ⟨by decide +kernel, rfl⟩
theorem d_X12_qJoins_111 : decode mX12_qJoins.1 111 = .ok (.invokestatic 652, 3) ∧ 111 + 3 = 114 := ⟨by decide +kernel, rfl⟩
theorem d_X12_qJoins_114 : decode mX12_qJoins.1 114 = .ok (.invokevirtual 432, 3) ∧ 114 + 3 = 117 := ⟨by decide +kernel, rfl⟩
theorem d_X12_qJoins_117 : decode mX12_qJoins.1 117 = .ok (.goto 156, 3) ∧ ((117 : Nat) : Int) + 156 = ((273 : Nat) : Int) := ⟨by decide +kernel, rfl⟩
theorem d_X12_qJoins_120 : decode mX12_qJoins.1 120 = .ok (.aload_n 0, 1) ∧ 120 + 1 = 121 := ⟨by decide +kernel, rfl⟩
theorem d_X12_qJoins_121 : decode mX12_qJoins.1 121 = .ok (.lload 4, 2) ∧ 121 + 2 = 123 := ⟨by decide +kernel, rfl⟩
theorem d_X12_qJoins_123 : decode mX12_qJoins.1 123 = .ok (.lload_n 2, 1) ∧ 123 + 1 = 124 := ⟨by decide +kernel, rfl⟩
theorem d_X12_qJoins_124 : decode mX12_qJoins.1 124 = .ok (.lmul, 1) ∧ 124 + 1 = 125 := ⟨by decide +kernel, rfl⟩
theorem d_X12_qJoins_125 : decode mX12_qJoins.1 125 = .ok (.invokestatic 652, 3) ∧ 125 + 3 = 128 := ⟨by decide +kernel, rfl⟩
theorem d_X12_qJoins_128 : decode mX12_qJoins.1 128 = .ok (.invokevirtual 432, 3) ∧ 128 + 3 = 131 := ⟨by decide +kernel, rfl⟩
theorem d_X12_qJoins_131 : decode mX12_qJoins.1 131 = .ok (.goto 142, 3) ∧ ((131 : Nat) : Int) + 142 = ((273 : Nat) : Int) := ⟨by decide +kernel, rfl⟩
theorem d_X12_qJoins_134 : decode mX12_qJoins.1 134 = .ok (.aload_n 0, 1) ∧ 134 + 1 = 135 := ⟨by decide +kernel, rfl⟩
theorem d_X12_qJoins_135 : decode mX12_qJoins.1 135 = .ok (.lload 4, 2) ∧ 135 + 2 = 137 := ⟨by decide +kernel, rfl⟩
theorem d_X12_qJoins_137 : decode mX12_qJoins.1 137 = .ok (.lload_n 2, 1) ∧ 137 + 1 = 138 := ⟨by decide +kernel, rfl⟩
theorem d_X12_qJoins_138 : decode mX12_qJoins.1 138 = .ok (.invokestatic 656, 3) ∧ 138 + 3 = 141 := ⟨by decide +kernel, rfl⟩
theorem d_X12_qJoins_141 : decode mX12_qJoins.1 141 = .ok (.invokevirtual 432, 3) ∧ 141 + 3 = 144 := ⟨by decide +kernel, rfl⟩
theorem d_X12_qJoins_144 : decode mX12_qJoins.1 144 = .ok (.goto 129, 3) ∧ ((144 : Nat) : Int) + 129 = ((273 : Nat) : Int) := ⟨by decide +kernel, rfl⟩
theorem d_X12_qJoins_147 : decode mX12_qJoins.1 147 = .ok (.aload_n 0, 1) ∧ 147 + 1 = 148 := ⟨by decide +kernel, rfl⟩
theorem d_X12_qJoins_148 : decode mX12_qJoins.1 148 = .ok (.lload 4, 2) ∧ 148 + 2 = 150 := ⟨by decide +kernel, rfl⟩
theorem d_X12_qJoins_150 : decode mX12_qJoins.1 150 = .ok (.lload_n 2, 1) ∧ 150 + 1 = 151 := ⟨by decide +kernel, rfl⟩
theorem d_X12_qJoins_151 : decode mX12_qJoins.1 151 = .ok (.lcmp, 1) ∧ 151 + 1 = 152 := ⟨by decide +kernel, rfl⟩
theorem d_X12_qJoins_152 : decode mX12_qJoins.1 152 = .ok (.ifCond .ge 8, 3) ∧ 152 + 3 = 155 ∧ ((152 : Nat) : Int) + 8 = ((160 : Nat) : Int) := ⟨by decide +kernel, rfl, rfl⟩
theorem d_X12_qJoins_155 : decode mX12_qJoins.1 155 = .ok (.lload 4, 2) ∧ 155 + 2 = 157 := ⟨by decide +kernel, rfl⟩
theorem d_X12_qJoins_157 : decode mX12_qJoins.1 157 = .ok (.goto 4, 3) ∧ ((157 : Nat) : Int) + 4 = ((161 : Nat) : Int) := ⟨by decide +kernel, rfl⟩
theorem d_X12_qJoins_161 : decode mX12_qJoins.1 161 = .ok (.invokevirtual 432, 3) ∧ 161 + 3 = 164 := ⟨by decide +kernel, rfl⟩
theorem d_X12_qJoins_164 : decode mX12_qJoins.1 164 = .ok (.goto 109, 3) ∧ ((164 : Nat) : Int) + 109 = ((273 : Nat) : Int) := ⟨by decide +kernel, rfl⟩
theorem d_X12_qJoins_160 : decode mX12_qJoins.1 160 = .ok (.lload_n 2, 1) ∧ 160 + 1 = 161 := ⟨by decide +kernel, rfl⟩
theorem d_X12_qJoins_167 : decode mX12_qJoins.1 167 = .ok (.aload_n 0, 1) ∧ 167 + 1 = 168 := ⟨by decide +kernel, rfl⟩
theorem d_X12_qJoins_168 : decode mX12_qJoins.1 168 = .ok (.lload 4, 2) ∧ 168 + 2 = 170 := ⟨by decide +kernel, rfl⟩
theorem d_X12_qJoins_170 : decode mX12_qJoins.1 170 = .ok (.lload_n 2, 1) ∧ 170 + 1 = 171 := ⟨by decide +kernel, rfl⟩
theorem d_X12_qJoins_171 : decode mX12_qJoins.1 171 = .ok (.lcmp, 1) ∧ 171 + 1 = 172 := ⟨by decide +kernel, rfl⟩
theorem d_X12_qJoins_172 : decode mX12_qJoins.1 172 = .ok (.ifCond .le 8, 3) ∧ 172 + 3 = 175 ∧ ((172 : Nat) : Int) + 8 = ((180 : Nat) : Int) := ⟨by decide +kernel, rfl, rfl⟩
theorem d_X12_qJoins_175 : decode mX12_qJoins.1 175 = .ok (.lload 4, 2) ∧ 175 + 2 = 177 := ⟨by decide +kernel, rfl⟩
theorem d_X12_qJoins_177 : decode mX12_qJoins.1 177 = .ok (.goto 4, 3) ∧ ((177 : Nat) : Int) + 4 = ((181 : Nat) : Int) := ⟨by decide +kernel, rfl⟩
theorem d_X12_qJoins_181 : decode mX12_qJoins.1 181 = .ok (.invokevirtual 432, 3) ∧ 181 + 3 = 184 := ⟨by decide +kernel, rfl⟩
theorem d_X12_qJoins_184 : decode mX12_qJoins.1 184 = .ok (.goto 89, 3) ∧ ((184 : Nat) : Int) + 89 = ((273 : Nat) : Int) := ⟨by decide +kernel, rfl⟩
theorem d_X12_qJoins_180 : decode mX12_qJoins.1 180 = .ok (.lload_n 2, 1) ∧ 180 + 1 = 181 := ⟨by decide +kernel, rfl⟩
theorem d_X12_qJoins_187 : decode mX12_qJoins.1 187 = .ok (.aload_n 0, 1) ∧ 187 + 1 = 188 := ⟨by decide +kernel, rfl⟩
theorem d_X12_qJoins_188 : decode mX12_qJoins.1 188 = .ok (.lload 4, 2) ∧ 188 + 2 = 190 := ⟨by decide +kernel, rfl⟩
theorem d_X12_qJoins_190 : decode mX12_qJoins.1 190 = .ok (.lload_n 2, 1) ∧ 190 + 1 = 191 := ⟨by decide +kernel, rfl⟩
theorem d_X12_qJoins_191 : decode mX12_qJoins.1 191 = .ok (.lcmp, 1) ∧ 191 + 1 = 192 := ⟨by decide +kernel, rfl⟩
theorem d_X12_qJoins_192 : decode mX12_qJoins.1 192 = .ok (.ifCond .ge 7, 3) ∧ 192 + 3 = 195 ∧ ((192 : Nat) : Int) + 7 = ((199 : Nat) : Int) := ⟨by decide +kernel, rfl, rfl⟩
theorem d_X12_qJoins_195 : decode mX12_qJoins.1 195 = .ok (.lconst 1, 1) ∧ 195 + 1 = 196 := ⟨by decide +kernel, rfl⟩
theorem d_X12_qJoins_196 : decode mX12_qJoins.1 196 = .ok (.goto 4, 3) ∧ ((196 : Nat) : Int) + 4 = ((200 : Nat) : Int) := ⟨by decide +kernel, rfl⟩
theorem d_X12_qJoins_200 : decode mX12_qJoins.1 200 = .ok (.invokevirtual 432, 3) ∧ 200 + 3 = 203 := ⟨by decide +kernel, rfl⟩
theorem d_X12_qJoins_203 : decode mX12_qJoins.1 203 = .ok (.goto 70, 3) ∧ ((203 : Nat) : Int) + 70 = ((273 : Nat) : Int) := ⟨by decide +kernel, rfl⟩
theorem d_X12_qJoins_199 : decode mX12_qJoins.1 199 = .ok (.lconst 0, 1) ∧ 199 + 1 = 200 := ⟨by decide +kernel, rfl⟩
theorem d_X12_qJoins_206 : decode mX12_qJoins.1 206 = .ok (.aload_n 0, 1) ∧ 206 + 1 = 207 := ⟨by decide +kernel, rfl⟩
theorem d_X12_qJoins_207 : decode mX12_qJoins.1 207 = .ok (.lload 4, 2) ∧ 207 + 2 = 209 := ⟨by decide +kernel, rfl⟩
theorem d_X12_qJoins_209 : decode mX12_qJoins.1 209 = .ok (.lload_n 2, 1) ∧ 209 + 1 = 210 := ⟨by decide +kernel, rfl⟩
theorem d_X12_qJoins_210 : decode mX12_qJoins.1 210 = .ok (.lcmp, 1) ∧ 210 + 1 = 211 := ⟨by decide +kernel, rfl⟩
theorem d_X12_qJoins_211 : decode mX12_qJoins.1 211 = .ok (.ifCond .le 7, 3) ∧ 211 + 3 = 214 ∧ ((211 : Nat) : Int) + 7 = ((218 : Nat) : Int) := ⟨by decide +kernel, rfl, rfl⟩
theorem d_X12_qJoins_214 : decode mX12_qJoins.1 214 = .ok (.lconst 1, 1) ∧ 214 + 1 = 215 := ⟨by decide +kernel, rfl⟩
theorem d_X12_qJoins_215 : decode mX12_qJoins.1 215 = .ok (.goto 4, 3) ∧ ((215 : Nat) : Int) + 4 = ((219 : Nat) : Int) := ⟨by decide +kernel, rfl⟩
theorem d_X12_qJoins_219 : decode mX12_qJoins.1 219 = .ok (.invokevirtual 432, 3) ∧ 219 + 3 = 222 := ⟨by decide +kernel, rfl⟩
theorem d_X12_qJoins_222 : decode mX12_qJoins.1 222 = .ok (.goto 51, 3) ∧ ((222 : Nat) : Int) + 51 = ((273 : Nat) : Int) := ⟨by decide +kernel, rfl⟩
theorem d_X12_qJoins_218 : decode mX12_qJoins.1 218 = .ok (.lconst 0, 1) ∧ 218 + 1 = 219 := ⟨by decide +kernel, rfl⟩
theorem d_X12_qJoins_225 : decode mX12_qJoins.1 225 = .ok (.aload_n 0, 1) ∧ 225 + 1 = 226 := ⟨by decide +kernel, rfl⟩
theorem d_X12_qJoins_226 : decode mX12_qJoins.1 226 = .ok (.lload 4, 2) ∧ 226 + 2 = 228 := ⟨by decide +kernel, rfl⟩
theorem d_X12_qJoins_228 : decode mX12_qJoins.1 228 = .ok (.lload_n 2, 1) ∧ 228 + 1 = 229 := ⟨by decide +kernel, rfl⟩
theorem d_X12_qJoins_229 : decode mX12_qJoins.1 229 = .ok (.lcmp, 1) ∧ 229 + 1 = 230 := ⟨by decide +kernel, rfl⟩
theorem d_X12_qJoins_230 : decode mX12_qJoins.1 230 = .ok (.ifCond .ne 7, 3) ∧ 230 + 3 = 233 ∧ ((230 : Nat) : Int) + 7 = ((237 : Nat) : Int) := ⟨by decide +kernel, rfl, rfl⟩
theorem d_X12_qJoins_233 : decode mX12_qJoins.1 233 = .ok (.lconst 1, 1) ∧ 233 + 1 = 234 := ⟨by decide +kernel, rfl⟩
theorem d_X12_qJoins_234 : decode mX12_qJoins.1 234 = .ok (.goto 4, 3) ∧ ((234 : Nat) : Int) + 4 = ((238 : Nat) : Int) := ⟨by decide +kernel, rfl⟩
theorem d_X12_qJoins_238 : decode mX12_qJoins.1 238 = .ok (.invokevirtual 432, 3) ∧ 238 + 3 = 241 := ⟨by decide +kernel, rfl⟩
theorem d_X12_qJoins_241 : decode mX12_qJoins.1 241 = .ok (.goto 32, 3) ∧ ((241 : Nat) : Int) + 32 = ((273 : Nat) : Int) := ⟨by decide +kernel, rfl⟩
theorem d_X12_qJoins_237 : decode mX12_qJoins.1 237 = .ok (.lconst 0, 1) ∧ 237 + 1 = 238 := ⟨by decide +kernel, rfl⟩
theorem d_X12_qJoins_244 : decode mX12_qJoins.1 244 = .ok (.aload_n 0, 1) ∧ 244 + 1 = 245 := ⟨by decide +kernel, rfl⟩
theorem d_X12_qJoins_245 : decode mX12_qJoins.1 245 = .ok (.lload 4, 2) ∧ 245 + 2 = 247 := ⟨by decide +kernel, rfl⟩
theorem d_X12_qJoins_247 : decode mX12_qJoins.1 247 = .ok (.lload_n 2, 1) ∧ 247 + 1 = 248 := ⟨by decide +kernel, rfl⟩
theorem d_X12_qJoins_248 : decode mX12_qJoins.1 248 = .ok (.lmul, 1) ∧ 248 + 1 = 249 := ⟨by decide +kernel, rfl⟩
theorem d_X12_qJoins_249 : decode mX12_qJoins.1 249 = .ok (.invokevirtual 432, 3) ∧ 249 + 3 = 252 := ⟨by decide +kernel, rfl⟩
theorem d_X12_qJoins_252 : decode mX12_qJoins.1 252 = .ok (.goto 21, 3) ∧ ((252 : Nat) : Int) + 21 = ((273 : Nat) : Int) := ⟨by decide +kernel, rfl⟩
theorem d_X12_qJoins_255 : decode mX12_qJoins.1 255 = .ok (.aload_n 0, 1) ∧ 255 + 1 = 256 := ⟨by decide +kernel, rfl⟩
theorem d_X12_qJoins_256 : decode mX12_qJoins.1 256 = .ok (.lload 4, 2) ∧ 256 + 2 = 258 := ⟨by decide +kernel, rfl⟩
theorem d_X12_qJoins_258 : decode mX12_qJoins.1 258 = .ok (.lload_n 2, 1) ∧ 258 + 1 = 259 := ⟨by decide +kernel, rfl⟩
theorem d_X12_qJoins_259 : decode mX12_qJoins.1 259 = .ok (.ladd, 1) ∧ 259 + 1 = 260 := ⟨by decide +kernel, rfl⟩
theorem d_X12_qJoins_260 : decode mX12_qJoins.1 260 = .ok (.lconst 0, 1) ∧ 260 + 1 = 261 := ⟨by decide +kernel, rfl⟩
theorem d_X12_qJoins_261 : decode mX12_qJoins.1 261 = .ok (.lcmp, 1) ∧ 261 + 1 = 262 := ⟨by decide +kernel, rfl⟩
theorem d_X12_qJoins_262 : decode mX12_qJoins.1 262 = .ok (.ifCond .le 7, 3) ∧ 262 + 3 = 265 ∧ ((262 : Nat) : Int) + 7 = ((269 : Nat) : Int) := ⟨by decide +kernel, rfl, rfl⟩
theorem d_X12_qJoins_265 : decode mX12_qJoins.1 265 = .ok (.lconst 1, 1) ∧ 265 + 1 = 266 := ⟨by decide +kernel, rfl⟩
theorem d_X12_qJoins_266 : decode mX12_qJoins.1 266 = .ok (.goto 4, 3) ∧ ((266 : Nat) : Int) + 4 = ((270 : Nat) : Int) := ⟨by decide +kernel, rfl⟩
theorem d_X12_qJoins_270 : decode mX12_qJoins.1 270 = .ok (.invokevirtual 432, 3) ∧ 270 + 3 = 273 := ⟨by decide +kernel, rfl⟩
theorem d_X12_qJoins_269 : decode mX12_qJoins.1 269 = .ok (.lconst 0, 1) ∧ 269 + 1 = 270 := ⟨by decide +kernel, rfl⟩
set_option maxRecDepth 100000 in
set_option maxHeartbeats 4000000 in
theorem g_X12_qJoins (l : Launch) (G : xa_C) (v0 v1 : Int) (h : xa_H) : xa_G l G 3 mX12_qJoins (f_X12_qJoins v0 v1 h) (fun r => some (none, r) : xa_H → Option xa_O) 0 [some (xR v0), some (xI v1), none, none, none, none] [] h := by
  unfold f_X12_qJoins
  refine xa_step (xa_aload_n d_X12_qJoins_0 rfl) ?_
  refine xa_getf xR xc_12 (by decide) (fun _ => rfl) xw_1407 rfl d_X12_qJoins_1 (fun x1 _ => ?_)
  refine xa_step (xa_aload_n d_X12_qJoins_4 rfl) ?_
  refine xa_getf xI xc_12 (by decide) (fun _ => rfl) xw_1408 rfl d_X12_qJoins_5 (fun x2 _ => ?_)
  refine xa_step (xa_iconst d_X12_qJoins_8 xq_i_1) ?_
  refine xa_step (xa_isub d_X12_qJoins_9) ?_
  refine xa_laload d_X12_qJoins_10 (fun x3 _ => ?_)
  refine xa_step (xa_lstore_n (ls' := [some (xR v0), some (xI v1), some (xL x3), none, none, none]) d_X12_qJoins_11 (by decide) rfl) ?_
  refine xa_step (xa_aload_n d_X12_qJoins_12 rfl) ?_
  refine xa_getf xR xc_12 (by decide) (fun _ => rfl) xw_1407 rfl d_X12_qJoins_13 (fun x4 _ => ?_)
  refine xa_step (xa_aload_n d_X12_qJoins_16 rfl) ?_
  refine xa_getf xI xc_12 (by decide) (fun _ => rfl) xw_1408 rfl d_X12_qJoins_17 (fun x5 _ => ?_)
  refine xa_step (xa_iconst d_X12_qJoins_20 xq_i_2) ?_
  refine xa_step (xa_isub d_X12_qJoins_21) ?_
  refine xa_laload d_X12_qJoins_22 (fun x6 _ => ?_)
  refine xa_step (xa_lstore (ls' := [some (xR v0), some (xI v1), some (xL x3), none, some (xL x6), none]) d_X12_qJoins_23 (by decide) rfl) ?_
  refine xa_step (xa_aload_n d_X12_qJoins_25 rfl) ?_
  refine xa_step (xa_dup d_X12_qJoins_26 (xa_tR _)) ?_
  refine xa_getf xI xc_12 (by decide) (fun _ => rfl) xw_1408 rfl d_X12_qJoins_27 (fun x7 _ => ?_)
  refine xa_step (xa_iconst d_X12_qJoins_30 xq_i_2) ?_
  refine xa_step (xa_isub d_X12_qJoins_31) ?_
  refine xa_putf2 (tg := xI) xc_12 (by decide) (fun _ => rfl) rfl (fun c hc => xa_fitI c hc) xw_1408 rfl d_X12_qJoins_32 (fun h8 _ => ?_)
  refine xa_step (xa_iload_n d_X12_qJoins_35 rfl) ?_
  refine xa_case (fun q9 => ?_) (fun q9 => ?_)
  · refine xa_step (xa_tabIn (k := 1) d_X12_qJoins_36 q9 (by decide) (by decide) rfl rfl) ?_
    refine xa_step (xa_aload_n d_X12_qJoins_92 rfl) ?_
    refine xa_step (xa_lload d_X12_qJoins_93 rfl) ?_
    refine xa_step (xa_lload_n d_X12_qJoins_95 rfl) ?_
    refine xa_step (xa_ladd d_X12_qJoins_96) ?_
    refine xa_callSl (as := [xL (w64 (x6 + x3))]) (st := [xR v0]) (M' := mX12_qClip) (d' := 2) xw_1960 xw_1961 xw_1962 xw_177 xh_X12_qClip rfl ⟨Nat.le_of_ble_eq_true rfl, Nat.le_of_ble_eq_true rfl⟩ (Nat.le_of_ble_eq_true rfl) rfl d_X12_qJoins_97 (fun r hr => ct_X12_qClip l G (w64 (x6 + x3)) h8 r hr) (fun r10 _ => ?_)
    refine xa_callVV (as := [xL r10]) (st := []) (M' := mX12_qPuts) (d' := 2) rfl xw_1948 xw_1950 xw_128 xw_1951 xw_177 xh_X12_qPuts rfl ⟨Nat.le_of_ble_eq_true rfl, Nat.le_of_ble_eq_true rfl⟩ (Nat.le_of_ble_eq_true rfl) rfl d_X12_qJoins_100 (fun r hr => ct_X12_qPuts l G v0 r10 h8 r hr) (fun r11 _ => ?_)
    refine xa_step (xa_goto d_X12_qJoins_103) ?_
    exact xa_vret d_X12_qJoins_273 rfl rfl
  · refine xa_case (fun q12 => ?_) (fun q12 => ?_)
    · refine xa_step (xa_tabIn (k := 2) d_X12_qJoins_36 q12 (by decide) (by decide) rfl rfl) ?_
      refine xa_step (xa_aload_n d_X12_qJoins_106 rfl) ?_
      refine xa_step (xa_lload d_X12_qJoins_107 rfl) ?_
      refine xa_step (xa_lload_n d_X12_qJoins_109 rfl) ?_
      refine xa_step (xa_lsub d_X12_qJoins_110) ?_
      refine xa_callSl (as := [xL (w64 (x6 - x3))]) (st := [xR v0]) (M' := mX12_qClip) (d' := 2) xw_1960 xw_1961 xw_1962 xw_177 xh_X12_qClip rfl ⟨Nat.le_of_ble_eq_true rfl, Nat.le_of_ble_eq_true rfl⟩ (Nat.le_of_ble_eq_true rfl) rfl d_X12_qJoins_111 (fun r hr => ct_X12_qClip l G (w64 (x6 - x3)) h8 r hr) (fun r13 _ => ?_)
      refine xa_callVV (as := [xL r13]) (st := []) (M' := mX12_qPuts) (d' := 2) rfl xw_1948 xw_1950 xw_128 xw_1951 xw_177 xh_X12_qPuts rfl ⟨Nat.le_of_ble_eq_true rfl, Nat.le_of_ble_eq_true rfl⟩ (Nat.le_of_ble_eq_true rfl) rfl d_X12_qJoins_114 (fun r hr => ct_X12_qPuts l G v0 r13 h8 r hr) (fun r14 _ => ?_)
      refine xa_step (xa_goto d_X12_qJoins_117) ?_
      exact xa_vret d_X12_qJoins_273 rfl rfl
    · refine xa_case (fun q15 => ?_) (fun q15 => ?_)
      · refine xa_step (xa_tabIn (k := 3) d_X12_qJoins_36 q15 (by decide) (by decide) rfl rfl) ?_
        refine xa_step (xa_aload_n d_X12_qJoins_120 rfl) ?_
        refine xa_step (xa_lload d_X12_qJoins_121 rfl) ?_
        refine xa_step (xa_lload_n d_X12_qJoins_123 rfl) ?_
        refine xa_step (xa_lmul d_X12_qJoins_124) ?_
        refine xa_callSl (as := [xL (w64 (x6 * x3))]) (st := [xR v0]) (M' := mX12_qClip) (d' := 2) xw_1960 xw_1961 xw_1962 xw_177 xh_X12_qClip rfl ⟨Nat.le_of_ble_eq_true rfl, Nat.le_of_ble_eq_true rfl⟩ (Nat.le_of_ble_eq_true rfl) rfl d_X12_qJoins_125 (fun r hr => ct_X12_qClip l G (w64 (x6 * x3)) h8 r hr) (fun r16 _ => ?_)
        refine xa_callVV (as := [xL r16]) (st := []) (M' := mX12_qPuts) (d' := 2) rfl xw_1948 xw_1950 xw_128 xw_1951 xw_177 xh_X12_qPuts rfl ⟨Nat.le_of_ble_eq_true rfl, Nat.le_of_ble_eq_true rfl⟩ (Nat.le_of_ble_eq_true rfl) rfl d_X12_qJoins_128 (fun r hr => ct_X12_qPuts l G v0 r16 h8 r hr) (fun r17 _ => ?_)
        refine xa_step (xa_goto d_X12_qJoins_131) ?_
        exact xa_vret d_X12_qJoins_273 rfl rfl
      · refine xa_case (fun q18 => ?_) (fun q18 => ?_)
        · refine xa_step (xa_tabIn (k := 4) d_X12_qJoins_36 q18 (by decide) (by decide) rfl rfl) ?_
          refine xa_step (xa_aload_n d_X12_qJoins_134 rfl) ?_
          refine xa_step (xa_lload d_X12_qJoins_135 rfl) ?_
          refine xa_step (xa_lload_n d_X12_qJoins_137 rfl) ?_
          refine xa_callSl (as := [xL x6, xL x3]) (st := [xR v0]) (M' := mX12_qFloor) (d' := 2) xw_1965 xw_1966 xw_1967 xw_177 xh_X12_qFloor rfl ⟨Nat.le_of_ble_eq_true rfl, Nat.le_of_ble_eq_true rfl⟩ (Nat.le_of_ble_eq_true rfl) rfl d_X12_qJoins_138 (fun r hr => ct_X12_qFloor l G x6 x3 h8 r hr) (fun r19 _ => ?_)
          refine xa_callVV (as := [xL r19]) (st := []) (M' := mX12_qPuts) (d' := 2) rfl xw_1948 xw_1950 xw_128 xw_1951 xw_177 xh_X12_qPuts rfl ⟨Nat.le_of_ble_eq_true rfl, Nat.le_of_ble_eq_true rfl⟩ (Nat.le_of_ble_eq_true rfl) rfl d_X12_qJoins_141 (fun r hr => ct_X12_qPuts l G v0 r19 h8 r hr) (fun r20 _ => ?_)
          refine xa_step (xa_goto d_X12_qJoins_144) ?_
          exact xa_vret d_X12_qJoins_273 rfl rfl
        · refine xa_case (fun q21 => ?_) (fun q21 => ?_)
          · refine xa_step (xa_tabIn (k := 5) d_X12_qJoins_36 q21 (by decide) (by decide) rfl rfl) ?_
            refine xa_step (xa_aload_n d_X12_qJoins_147 rfl) ?_
            refine xa_step (xa_lload d_X12_qJoins_148 rfl) ?_
            refine xa_step (xa_lload_n d_X12_qJoins_150 rfl) ?_
            refine xa_step (xa_lcmp d_X12_qJoins_151) ?_
            refine xa_if (xa_ifge d_X12_qJoins_152) (fun q22 => ?_) (fun q22 => ?_)
            · refine xa_step (xa_lload d_X12_qJoins_155 rfl) ?_
              refine xa_step (xa_goto d_X12_qJoins_157) ?_
              refine xa_callVV (as := [xL x6]) (st := []) (M' := mX12_qPuts) (d' := 2) rfl xw_1948 xw_1950 xw_128 xw_1951 xw_177 xh_X12_qPuts rfl ⟨Nat.le_of_ble_eq_true rfl, Nat.le_of_ble_eq_true rfl⟩ (Nat.le_of_ble_eq_true rfl) rfl d_X12_qJoins_161 (fun r hr => ct_X12_qPuts l G v0 x6 h8 r hr) (fun r23 _ => ?_)
              refine xa_step (xa_goto d_X12_qJoins_164) ?_
              exact xa_vret d_X12_qJoins_273 rfl rfl
            · refine xa_step (xa_lload_n d_X12_qJoins_160 rfl) ?_
              refine xa_callVV (as := [xL x3]) (st := []) (M' := mX12_qPuts) (d' := 2) rfl xw_1948 xw_1950 xw_128 xw_1951 xw_177 xh_X12_qPuts rfl ⟨Nat.le_of_ble_eq_true rfl, Nat.le_of_ble_eq_true rfl⟩ (Nat.le_of_ble_eq_true rfl) rfl d_X12_qJoins_161 (fun r hr => ct_X12_qPuts l G v0 x3 h8 r hr) (fun r24 _ => ?_)
              refine xa_step (xa_goto d_X12_qJoins_164) ?_
              exact xa_vret d_X12_qJoins_273 rfl rfl
          · refine xa_case (fun q25 => ?_) (fun q25 => ?_)
            · refine xa_step (xa_tabIn (k := 6) d_X12_qJoins_36 q25 (by decide) (by decide) rfl rfl) ?_
              refine xa_step (xa_aload_n d_X12_qJoins_167 rfl) ?_
              refine xa_step (xa_lload d_X12_qJoins_168 rfl) ?_
              refine xa_step (xa_lload_n d_X12_qJoins_170 rfl) ?_
              refine xa_step (xa_lcmp d_X12_qJoins_171) ?_
              refine xa_if (xa_ifle d_X12_qJoins_172) (fun q26 => ?_) (fun q26 => ?_)
              · refine xa_step (xa_lload d_X12_qJoins_175 rfl) ?_
                refine xa_step (xa_goto d_X12_qJoins_177) ?_
                refine xa_callVV (as := [xL x6]) (st := []) (M' := mX12_qPuts) (d' := 2) rfl xw_1948 xw_1950 xw_128 xw_1951 xw_177 xh_X12_qPuts rfl ⟨Nat.le_of_ble_eq_true rfl, Nat.le_of_ble_eq_true rfl⟩ (Nat.le_of_ble_eq_true rfl) rfl d_X12_qJoins_181 (fun r hr => ct_X12_qPuts l G v0 x6 h8 r hr) (fun r27 _ => ?_)
                refine xa_step (xa_goto d_X12_qJoins_184) ?_
                exact xa_vret d_X12_qJoins_273 rfl rfl
              · refine xa_step (xa_lload_n d_X12_qJoins_180 rfl) ?_
                refine xa_callVV (as := [xL x3]) (st := []) (M' := mX12_qPuts) (d' := 2) rfl xw_1948 xw_1950 xw_128 xw_1951 xw_177 xh_X12_qPuts rfl ⟨Nat.le_of_ble_eq_true rfl, Nat.le_of_ble_eq_true rfl⟩ (Nat.le_of_ble_eq_true rfl) rfl d_X12_qJoins_181 (fun r hr => ct_X12_qPuts l G v0 x3 h8 r hr) (fun r28 _ => ?_)
                refine xa_step (xa_goto d_X12_qJoins_184) ?_
                exact xa_vret d_X12_qJoins_273 rfl rfl
            · refine xa_case (fun q29 => ?_) (fun q29 => ?_)
              · refine xa_step (xa_tabIn (k := 7) d_X12_qJoins_36 q29 (by decide) (by decide) rfl rfl) ?_
                refine xa_step (xa_aload_n d_X12_qJoins_187 rfl) ?_
                refine xa_step (xa_lload d_X12_qJoins_188 rfl) ?_
                refine xa_step (xa_lload_n d_X12_qJoins_190 rfl) ?_
                refine xa_step (xa_lcmp d_X12_qJoins_191) ?_
                refine xa_if (xa_ifge d_X12_qJoins_192) (fun q30 => ?_) (fun q30 => ?_)
                · refine xa_step (xa_lconst d_X12_qJoins_195 rfl) ?_
                  refine xa_step (xa_goto d_X12_qJoins_196) ?_
                  refine xa_callVV (as := [xL 1]) (st := []) (M' := mX12_qPuts) (d' := 2) rfl xw_1948 xw_1950 xw_128 xw_1951 xw_177 xh_X12_qPuts rfl ⟨Nat.le_of_ble_eq_true rfl, Nat.le_of_ble_eq_true rfl⟩ (Nat.le_of_ble_eq_true rfl) rfl d_X12_qJoins_200 (fun r hr => ct_X12_qPuts l G v0 1 h8 r hr) (fun r31 _ => ?_)
                  refine xa_step (xa_goto d_X12_qJoins_203) ?_
                  exact xa_vret d_X12_qJoins_273 rfl rfl
                · refine xa_step (xa_lconst d_X12_qJoins_199 rfl) ?_
                  refine xa_callVV (as := [xL 0]) (st := []) (M' := mX12_qPuts) (d' := 2) rfl xw_1948 xw_1950 xw_128 xw_1951 xw_177 xh_X12_qPuts rfl ⟨Nat.le_of_ble_eq_true rfl, Nat.le_of_ble_eq_true rfl⟩ (Nat.le_of_ble_eq_true rfl) rfl d_X12_qJoins_200 (fun r hr => ct_X12_qPuts l G v0 0 h8 r hr) (fun r32 _ => ?_)
                  refine xa_step (xa_goto d_X12_qJoins_203) ?_
                  exact xa_vret d_X12_qJoins_273 rfl rfl
              · refine xa_case (fun q33 => ?_) (fun q33 => ?_)
                · refine xa_step (xa_tabIn (k := 8) d_X12_qJoins_36 q33 (by decide) (by decide) rfl rfl) ?_
                  refine xa_step (xa_aload_n d_X12_qJoins_206 rfl) ?_
                  refine xa_step (xa_lload d_X12_qJoins_207 rfl) ?_
                  refine xa_step (xa_lload_n d_X12_qJoins_209 rfl) ?_
                  refine xa_step (xa_lcmp d_X12_qJoins_210) ?_
                  refine xa_if (xa_ifle d_X12_qJoins_211) (fun q34 => ?_) (fun q34 => ?_)
                  · refine xa_step (xa_lconst d_X12_qJoins_214 rfl) ?_
                    refine xa_step (xa_goto d_X12_qJoins_215) ?_
                    refine xa_callVV (as := [xL 1]) (st := []) (M' := mX12_qPuts) (d' := 2) rfl xw_1948 xw_1950 xw_128 xw_1951 xw_177 xh_X12_qPuts rfl ⟨Nat.le_of_ble_eq_true rfl, Nat.le_of_ble_eq_true rfl⟩ (Nat.le_of_ble_eq_true rfl) rfl d_X12_qJoins_219 (fun r hr => ct_X12_qPuts l G v0 1 h8 r hr) (fun r35 _ => ?_)
                    refine xa_step (xa_goto d_X12_qJoins_222) ?_
                    exact xa_vret d_X12_qJoins_273 rfl rfl
                  · refine xa_step (xa_lconst d_X12_qJoins_218 rfl) ?_
                    refine xa_callVV (as := [xL 0]) (st := []) (M' := mX12_qPuts) (d' := 2) rfl xw_1948 xw_1950 xw_128 xw_1951 xw_177 xh_X12_qPuts rfl ⟨Nat.le_of_ble_eq_true rfl, Nat.le_of_ble_eq_true rfl⟩ (Nat.le_of_ble_eq_true rfl) rfl d_X12_qJoins_219 (fun r hr => ct_X12_qPuts l G v0 0 h8 r hr) (fun r36 _ => ?_)
                    refine xa_step (xa_goto d_X12_qJoins_222) ?_
                    exact xa_vret d_X12_qJoins_273 rfl rfl
                · refine xa_case (fun q37 => ?_) (fun q37 => ?_)
                  · refine xa_step (xa_tabIn (k := 9) d_X12_qJoins_36 q37 (by decide) (by decide) rfl rfl) ?_
                    refine xa_step (xa_aload_n d_X12_qJoins_225 rfl) ?_
                    refine xa_step (xa_lload d_X12_qJoins_226 rfl) ?_
                    refine xa_step (xa_lload_n d_X12_qJoins_228 rfl) ?_
                    refine xa_step (xa_lcmp d_X12_qJoins_229) ?_
                    refine xa_if (xa_ifne d_X12_qJoins_230) (fun q38 => ?_) (fun q38 => ?_)
                    · refine xa_step (xa_lconst d_X12_qJoins_233 rfl) ?_
                      refine xa_step (xa_goto d_X12_qJoins_234) ?_
                      refine xa_callVV (as := [xL 1]) (st := []) (M' := mX12_qPuts) (d' := 2) rfl xw_1948 xw_1950 xw_128 xw_1951 xw_177 xh_X12_qPuts rfl ⟨Nat.le_of_ble_eq_true rfl, Nat.le_of_ble_eq_true rfl⟩ (Nat.le_of_ble_eq_true rfl) rfl d_X12_qJoins_238 (fun r hr => ct_X12_qPuts l G v0 1 h8 r hr) (fun r39 _ => ?_)
                      refine xa_step (xa_goto d_X12_qJoins_241) ?_
                      exact xa_vret d_X12_qJoins_273 rfl rfl
                    · refine xa_step (xa_lconst d_X12_qJoins_237 rfl) ?_
                      refine xa_callVV (as := [xL 0]) (st := []) (M' := mX12_qPuts) (d' := 2) rfl xw_1948 xw_1950 xw_128 xw_1951 xw_177 xh_X12_qPuts rfl ⟨Nat.le_of_ble_eq_true rfl, Nat.le_of_ble_eq_true rfl⟩ (Nat.le_of_ble_eq_true rfl) rfl d_X12_qJoins_238 (fun r hr => ct_X12_qPuts l G v0 0 h8 r hr) (fun r40 _ => ?_)
                      refine xa_step (xa_goto d_X12_qJoins_241) ?_
                      exact xa_vret d_X12_qJoins_273 rfl rfl
                  · refine xa_case (fun q41 => ?_) (fun q41 => ?_)
                    · refine xa_step (xa_tabIn (k := 10) d_X12_qJoins_36 q41 (by decide) (by decide) rfl rfl) ?_
                      refine xa_step (xa_aload_n d_X12_qJoins_244 rfl) ?_
                      refine xa_step (xa_lload d_X12_qJoins_245 rfl) ?_
                      refine xa_step (xa_lload_n d_X12_qJoins_247 rfl) ?_
                      refine xa_step (xa_lmul d_X12_qJoins_248) ?_
                      refine xa_callVV (as := [xL (w64 (x6 * x3))]) (st := []) (M' := mX12_qPuts) (d' := 2) rfl xw_1948 xw_1950 xw_128 xw_1951 xw_177 xh_X12_qPuts rfl ⟨Nat.le_of_ble_eq_true rfl, Nat.le_of_ble_eq_true rfl⟩ (Nat.le_of_ble_eq_true rfl) rfl d_X12_qJoins_249 (fun r hr => ct_X12_qPuts l G v0 (w64 (x6 * x3)) h8 r hr) (fun r42 _ => ?_)
                      refine xa_step (xa_goto d_X12_qJoins_252) ?_
                      exact xa_vret d_X12_qJoins_273 rfl rfl
                    · refine xa_step (xa_tabOut d_X12_qJoins_36 (by omega) rfl) ?_
                      refine xa_step (xa_aload_n d_X12_qJoins_255 rfl) ?_
                      refine xa_step (xa_lload d_X12_qJoins_256 rfl) ?_
                      refine xa_step (xa_lload_n d_X12_qJoins_258 rfl) ?_
                      refine xa_step (xa_ladd d_X12_qJoins_259) ?_
                      refine xa_step (xa_lconst d_X12_qJoins_260 rfl) ?_
                      refine xa_step (xa_lcmp d_X12_qJoins_261) ?_
                      refine xa_if (xa_ifle d_X12_qJoins_262) (fun q43 => ?_) (fun q43 => ?_)
                      · refine xa_step (xa_lconst d_X12_qJoins_265 rfl) ?_
                        refine xa_step (xa_goto d_X12_qJoins_266) ?_
                        refine xa_callVV (as := [xL 1]) (st := []) (M' := mX12_qPuts) (d' := 2) rfl xw_1948 xw_1950 xw_128 xw_1951 xw_177 xh_X12_qPuts rfl ⟨Nat.le_of_ble_eq_true rfl, Nat.le_of_ble_eq_true rfl⟩ (Nat.le_of_ble_eq_true rfl) rfl d_X12_qJoins_270 (fun r hr => ct_X12_qPuts l G v0 1 h8 r hr) (fun r44 _ => ?_)
                        exact xa_vret d_X12_qJoins_273 rfl rfl
                      · refine xa_step (xa_lconst d_X12_qJoins_269 rfl) ?_
                        refine xa_callVV (as := [xL 0]) (st := []) (M' := mX12_qPuts) (d' := 2) rfl xw_1948 xw_1950 xw_128 xw_1951 xw_177 xh_X12_qPuts rfl ⟨Nat.le_of_ble_eq_true rfl, Nat.le_of_ble_eq_true rfl⟩ (Nat.le_of_ble_eq_true rfl) rfl d_X12_qJoins_270 (fun r hr => ct_X12_qPuts l G v0 0 h8 r hr) (fun r45 _ => ?_)
                        exact xa_vret d_X12_qJoins_273 rfl rfl
theorem ct_X12_qJoins (l : Launch) (G : xa_C) (v0 v1 : Int) (h : xa_H) (r : xa_H) (hr : f_X12_qJoins v0 v1 h = some r) : xa_CT l G 3 mX12_qJoins yX12_qJoins [xR v0, xI v1] h (none, r) :=
  xa_met (by decide +kernel) rfl (fun q => by first | rfl | cases q) (Nat.le_of_ble_eq_true rfl) rfl (g_X12_qJoins l G v0 v1 h) (by rw [hr]; rfl)
abbrev mX12_metBy : xa_M := (cX12_metBy, 3, (some (.int)), RX12, false)
theorem d_X12_metBy_0 : decode mX12_metBy.1 0 = .ok (.aload_n 0, 1) ∧ 0 + 1 = 1 := ⟨by decide +kernel, rfl⟩
theorem d_X12_metBy_1 : decode mX12_metBy.1 1 = .ok (.getfield 130, 3) ∧ 1 + 3 = 4 := ⟨by decide +kernel, rfl⟩
theorem d_X12_metBy_4 : decode mX12_metBy.1 4 = .ok (.iconst 1, 1) ∧ 4 + 1 = 5 := ⟨by decide +kernel, rfl⟩
theorem d_X12_metBy_5 : decode mX12_metBy.1 5 = .ok (.bipush 9, 2) ∧ 5 + 2 = 7 := ⟨by decide +kernel, rfl⟩
theorem d_X12_metBy_7 : decode mX12_metBy.1 7 = .ok (.iload_n 1, 1) ∧ 7 + 1 = 8 := ⟨by decide +kernel, rfl⟩
theorem d_X12_metBy_8 : decode mX12_metBy.1 8 = .ok (.imul, 1) ∧ 8 + 1 = 9 := ⟨by decide +kernel, rfl⟩
theorem d_X12_metBy_9 : decode mX12_metBy.1 9 = .ok (.iadd, 1) ∧ 9 + 1 = 10 := ⟨by decide +kernel, rfl⟩
theorem d_X12_metBy_10 : decode mX12_metBy.1 10 = .ok (.iconst 3, 1) ∧ 10 + 1 = 11 := ⟨by decide +kernel, rfl⟩
theorem d_X12_metBy_11 : decode mX12_metBy.1 11 = .ok (.iadd, 1) ∧ 11 + 1 = 12 := ⟨by decide +kernel, rfl⟩
theorem d_X12_metBy_12 : decode mX12_metBy.1 12 = .ok (.iload_n 2, 1) ∧ 12 + 1 = 13 := ⟨by decide +kernel, rfl⟩
theorem d_X12_metBy_13 : decode mX12_metBy.1 13 = .ok (.iadd, 1) ∧ 13 + 1 = 14 := ⟨by decide +kernel, rfl⟩
theorem d_X12_metBy_14 : decode mX12_metBy.1 14 = .ok (.iaload, 1) ∧ 14 + 1 = 15 := ⟨by decide +kernel, rfl⟩
theorem d_X12_metBy_15 : decode mX12_metBy.1 15 = .ok (.ireturn, 1) := by decide +kernel
set_option maxRecDepth 100000 in
set_option maxHeartbeats 4000000 in
theorem g_X12_metBy (l : Launch) (G : xa_C) (v0 v1 v2 : Int) (h : xa_H) : xa_G l G 2 mX12_metBy (f_X12_metBy v0 v1 v2 h) (fun r => some (some (xI r), h) : Int → Option xa_O) 0 [some (xR v0), some (xI v1), some (xI v2)] [] h := by
  unfold f_X12_metBy
  refine xa_step (xa_aload_n d_X12_metBy_0 rfl) ?_
  refine xa_getf xR xc_12 (by decide) (fun _ => rfl) xw_1354 rfl d_X12_metBy_1 (fun x1 _ => ?_)
  refine xa_step (xa_iconst d_X12_metBy_4 xq_i_1) ?_
  refine xa_step (xa_bipush d_X12_metBy_5 xq_b_9) ?_
  refine xa_step (xa_iload_n d_X12_metBy_7 rfl) ?_
  refine xa_step (xa_imul d_X12_metBy_8) ?_
  refine xa_step (xa_iadd d_X12_metBy_9) ?_
  refine xa_step (xa_iconst d_X12_metBy_10 xq_i_3) ?_
  refine xa_step (xa_iadd d_X12_metBy_11) ?_
  refine xa_step (xa_iload_n d_X12_metBy_12 rfl) ?_
  refine xa_step (xa_iadd d_X12_metBy_13) ?_
  refine xa_iaload d_X12_metBy_14 (fun x2 _ => ?_)
  exact xa_iret d_X12_metBy_15 rfl rfl
theorem ct_X12_metBy (l : Launch) (G : xa_C) (v0 v1 v2 : Int) (h : xa_H) (r : Int) (hr : f_X12_metBy v0 v1 v2 h = some r) : xa_CT l G 2 mX12_metBy yX12_metBy [xR v0, xI v1, xI v2] h (some (xI r), h) :=
  xa_met (by decide +kernel) rfl (fun q => by first | rfl | cases q) (Nat.le_of_ble_eq_true rfl) rfl (g_X12_metBy l G v0 v1 v2 h) (by rw [hr]; rfl)
abbrev mX12_qOf : xa_M := (cX12_qOf, 5, (some (.long)), RX12, false)
theorem d_X12_qOf_0 : decode mX12_qOf.1 0 = .ok (.iload_n 1, 1) ∧ 0 + 1 = 1 := ⟨by decide +kernel, rfl⟩
theorem d_X12_qOf_1 : decode mX12_qOf.1 1 = .ok (.lookupswitch 11 #[], 11) := by decide +kernel
theorem d_X12_qOf_12 : decode mX12_qOf.1 12 = .ok (.lload_n 2, 1) ∧ 12 + 1 = 13 := ⟨by decide +kernel, rfl⟩
theorem d_X12_qOf_13 : decode mX12_qOf.1 13 = .ok (.lconst 0, 1) ∧ 13 + 1 = 14 := ⟨by decide +kernel, rfl⟩
theorem d_X12_qOf_14 : decode mX12_qOf.1 14 = .ok (.aload_n 0, 1) ∧ 14 + 1 = 15 := ⟨by decide +kernel, rfl⟩
theorem d_X12_qOf_15 : decode mX12_qOf.1 15 = .ok (.invokevirtual 402, 3) ∧ 15 + 3 = 18 := ⟨by decide +kernel, rfl⟩
theorem d_X12_qOf_18 : decode mX12_qOf.1 18 = .ok (.iconst 1, 1) ∧ 18 + 1 = 19 := ⟨by decide +kernel, rfl⟩
theorem d_X12_qOf_19 : decode mX12_qOf.1 19 = .ok (.isub, 1) ∧ 19 + 1 = 20 := ⟨by decide +kernel, rfl⟩
theorem d_X12_qOf_20 : decode mX12_qOf.1 20 = .ok (.i2l, 1) ∧ 20 + 1 = 21 := ⟨by decide +kernel, rfl⟩
theorem d_X12_qOf_21 : decode mX12_qOf.1 21 = .ok (.invokestatic 289, 3) ∧ 21 + 3 = 24 := ⟨by decide +kernel, rfl⟩
theorem d_X12_qOf_24 : decode mX12_qOf.1 24 = .ok (.ifCond .eq 15, 3) ∧ 24 + 3 = 27 ∧ ((24 : Nat) : Int) + 15 = ((39 : Nat) : Int) := ⟨by decide +kernel, rfl, rfl⟩
theorem d_X12_qOf_39 : decode mX12_qOf.1 39 = .ok (.lconst 0, 1) ∧ 39 + 1 = 40 := ⟨by decide +kernel, rfl⟩
theorem d_X12_qOf_40 : decode mX12_qOf.1 40 = .ok (.lreturn, 1) := by decide +kernel
theorem d_X12_qOf_27 : decode mX12_qOf.1 27 = .ok (.aload_n 0, 1) ∧ 27 + 1 = 28 := ⟨by decide +kernel, rfl⟩
theorem d_X12_qOf_28 : decode mX12_qOf.1 28 = .ok (.iload 4, 2) ∧ 28 + 2 = 30 := ⟨by decide +kernel, rfl⟩
theorem d_X12_qOf_30 : decode mX12_qOf.1 30 = .ok (.lload_n 2, 1) ∧ 30 + 1 = 31 := ⟨by decide +kernel, rfl⟩
theorem d_X12_qOf_31 : decode mX12_qOf.1 31 = .ok (.l2i, 1) ∧ 31 + 1 = 32 := ⟨by decide +kernel, rfl⟩
theorem d_X12_qOf_32 : decode mX12_qOf.1 32 = .ok (.invokevirtual 423, 3) ∧ 32 + 3 = 35 := ⟨by decide +kernel, rfl⟩
theorem d_X12_qOf_35 : decode mX12_qOf.1 35 = .ok (.i2l, 1) ∧ 35 + 1 = 36 := ⟨by decide +kernel, rfl⟩
theorem d_X12_qOf_36 : decode mX12_qOf.1 36 = .ok (.goto 4, 3) ∧ ((36 : Nat) : Int) + 4 = ((40 : Nat) : Int) := ⟨by decide +kernel, rfl⟩
set_option maxRecDepth 100000 in
set_option maxHeartbeats 4000000 in
theorem g_X12_qOf (l : Launch) (G : xa_C) (v0 v1 v2 v4 : Int) (h : xa_H) : xa_G l G 3 mX12_qOf (f_X12_qOf v0 v1 v2 v4 h) (fun r => some (some (xL r), h) : Int → Option xa_O) 0 [some (xR v0), some (xI v1), some (xL v2), none, some (xI v4)] [] h := by
  unfold f_X12_qOf
  refine xa_step (xa_iload_n d_X12_qOf_0 rfl) ?_
  refine xa_step (xa_lookup (off := 11) d_X12_qOf_1 (by decide) (by simp [Op.lookupswitch.offset, ]) rfl) ?_
  refine xa_step (xa_lload_n d_X12_qOf_12 rfl) ?_
  refine xa_step (xa_lconst d_X12_qOf_13 rfl) ?_
  refine xa_step (xa_aload_n d_X12_qOf_14 rfl) ?_
  refine xa_callVi (as := []) (st := [xL 0, xL v2]) (M' := mX12_holderMany) (d' := 2) rfl xw_1836 xw_1838 xw_108 xw_1839 xw_177 xh_X12_holderMany rfl ⟨Nat.le_of_ble_eq_true rfl, Nat.le_of_ble_eq_true rfl⟩ (Nat.le_of_ble_eq_true rfl) rfl d_X12_qOf_15 (fun r hr => ct_X12_holderMany l G v0 h r hr) (fun r1 _ => ?_)
  refine xa_step (xa_iconst d_X12_qOf_18 xq_i_1) ?_
  refine xa_step (xa_isub d_X12_qOf_19) ?_
  refine xa_step (xa_i2l d_X12_qOf_20) ?_
  refine xa_callSi (as := [xL v2, xL 0, xL (w32 (r1 - 1))]) (st := []) (M' := mX12_isIn) (d' := 2) xw_1706 xw_1707 xw_1708 xw_177 xh_X12_isIn rfl ⟨Nat.le_of_ble_eq_true rfl, Nat.le_of_ble_eq_true rfl⟩ (Nat.le_of_ble_eq_true rfl) rfl d_X12_qOf_21 (fun r hr => ct_X12_isIn l G v2 0 (w32 (r1 - 1)) h r hr) (fun r2 _ => ?_)
  refine xa_if (xa_ifeq d_X12_qOf_24) (fun q3 => ?_) (fun q3 => ?_)
  · refine xa_step (xa_lconst d_X12_qOf_39 rfl) ?_
    exact xa_lret d_X12_qOf_40 rfl rfl
  · refine xa_step (xa_aload_n d_X12_qOf_27 rfl) ?_
    refine xa_step (xa_iload d_X12_qOf_28 rfl) ?_
    refine xa_step (xa_lload_n d_X12_qOf_30 rfl) ?_
    refine xa_step (xa_l2i d_X12_qOf_31) ?_
    refine xa_callVi (as := [xI v4, xI (w32 v2)]) (st := []) (M' := mX12_metBy) (d' := 2) rfl xw_1901 xw_1903 xw_119 xw_1904 xw_177 xh_X12_metBy rfl ⟨Nat.le_of_ble_eq_true rfl, Nat.le_of_ble_eq_true rfl⟩ (Nat.le_of_ble_eq_true rfl) rfl d_X12_qOf_32 (fun r hr => ct_X12_metBy l G v0 v4 (w32 v2) h r hr) (fun r4 _ => ?_)
    refine xa_step (xa_i2l d_X12_qOf_35) ?_
    refine xa_step (xa_goto d_X12_qOf_36) ?_
    exact xa_lret d_X12_qOf_40 rfl rfl
theorem ct_X12_qOf (l : Launch) (G : xa_C) (v0 v1 v2 v4 : Int) (h : xa_H) (r : Int) (hr : f_X12_qOf v0 v1 v2 v4 h = some r) : xa_CT l G 3 mX12_qOf yX12_qOf [xR v0, xI v1, xL v2, xI v4] h (some (xL r), h) :=
  xa_met (by decide +kernel) rfl (fun q => by first | rfl | cases q) (Nat.le_of_ble_eq_true rfl) rfl (g_X12_qOf l G v0 v1 v2 v4 h) (by rw [hr]; rfl)
abbrev mX12_hadBy : xa_M := (cX12_hadBy, 2, (some (.int)), RX12, false)
theorem d_X12_hadBy_0 : decode mX12_hadBy.1 0 = .ok (.aload_n 0, 1) ∧ 0 + 1 = 1 := ⟨by decide +kernel, rfl⟩
theorem d_X12_hadBy_1 : decode mX12_hadBy.1 1 = .ok (.getfield 130, 3) ∧ 1 + 3 = 4 := ⟨by decide +kernel, rfl⟩
theorem d_X12_hadBy_4 : decode mX12_hadBy.1 4 = .ok (.iconst 1, 1) ∧ 4 + 1 = 5 := ⟨by decide +kernel, rfl⟩
theorem d_X12_hadBy_5 : decode mX12_hadBy.1 5 = .ok (.bipush 9, 2) ∧ 5 + 2 = 7 := ⟨by decide +kernel, rfl⟩
theorem d_X12_hadBy_7 : decode mX12_hadBy.1 7 = .ok (.iload_n 1, 1) ∧ 7 + 1 = 8 := ⟨by decide +kernel, rfl⟩
theorem d_X12_hadBy_8 : decode mX12_hadBy.1 8 = .ok (.imul, 1) ∧ 8 + 1 = 9 := ⟨by decide +kernel, rfl⟩
theorem d_X12_hadBy_9 : decode mX12_hadBy.1 9 = .ok (.iadd, 1) ∧ 9 + 1 = 10 := ⟨by decide +kernel, rfl⟩
theorem d_X12_hadBy_10 : decode mX12_hadBy.1 10 = .ok (.iaload, 1) ∧ 10 + 1 = 11 := ⟨by decide +kernel, rfl⟩
theorem d_X12_hadBy_11 : decode mX12_hadBy.1 11 = .ok (.ireturn, 1) := by decide +kernel
set_option maxRecDepth 100000 in
set_option maxHeartbeats 4000000 in
theorem g_X12_hadBy (l : Launch) (G : xa_C) (v0 v1 : Int) (h : xa_H) : xa_G l G 2 mX12_hadBy (f_X12_hadBy v0 v1 h) (fun r => some (some (xI r), h) : Int → Option xa_O) 0 [some (xR v0), some (xI v1)] [] h := by
  unfold f_X12_hadBy
  refine xa_step (xa_aload_n d_X12_hadBy_0 rfl) ?_
  refine xa_getf xR xc_12 (by decide) (fun _ => rfl) xw_1354 rfl d_X12_hadBy_1 (fun x1 _ => ?_)
  refine xa_step (xa_iconst d_X12_hadBy_4 xq_i_1) ?_
  refine xa_step (xa_bipush d_X12_hadBy_5 xq_b_9) ?_
  refine xa_step (xa_iload_n d_X12_hadBy_7 rfl) ?_
  refine xa_step (xa_imul d_X12_hadBy_8) ?_
  refine xa_step (xa_iadd d_X12_hadBy_9) ?_
  refine xa_iaload d_X12_hadBy_10 (fun x2 _ => ?_)
  exact xa_iret d_X12_hadBy_11 rfl rfl
theorem ct_X12_hadBy (l : Launch) (G : xa_C) (v0 v1 : Int) (h : xa_H) (r : Int) (hr : f_X12_hadBy v0 v1 h = some r) : xa_CT l G 2 mX12_hadBy yX12_hadBy [xR v0, xI v1] h (some (xI r), h) :=
  xa_met (by decide +kernel) rfl (fun q => by first | rfl | cases q) (Nat.le_of_ble_eq_true rfl) rfl (g_X12_hadBy l G v0 v1 h) (by rw [hr]; rfl)
abbrev mX12_purseOf : xa_M := (cX12_purseOf, 2, (some (.int)), RX12, false)
theorem d_X12_purseOf_0 : decode mX12_purseOf.1 0 = .ok (.aload_n 0, 1) ∧ 0 + 1 = 1 := ⟨by decide +kernel, rfl⟩
theorem d_X12_purseOf_1 : decode mX12_purseOf.1 1 = .ok (.getfield 130, 3) ∧ 1 + 3 = 4 := ⟨by decide +kernel, rfl⟩
theorem d_X12_purseOf_4 : decode mX12_purseOf.1 4 = .ok (.iconst 1, 1) ∧ 4 + 1 = 5 := ⟨by decide +kernel, rfl⟩
theorem d_X12_purseOf_5 : decode mX12_purseOf.1 5 = .ok (.bipush 9, 2) ∧ 5 + 2 = 7 := ⟨by decide +kernel, rfl⟩
theorem d_X12_purseOf_7 : decode mX12_purseOf.1 7 = .ok (.iload_n 1, 1) ∧ 7 + 1 = 8 := ⟨by decide +kernel, rfl⟩
theorem d_X12_purseOf_8 : decode mX12_purseOf.1 8 = .ok (.imul, 1) ∧ 8 + 1 = 9 := ⟨by decide +kernel, rfl⟩
theorem d_X12_purseOf_9 : decode mX12_purseOf.1 9 = .ok (.iadd, 1) ∧ 9 + 1 = 10 := ⟨by decide +kernel, rfl⟩
theorem d_X12_purseOf_10 : decode mX12_purseOf.1 10 = .ok (.iconst 2, 1) ∧ 10 + 1 = 11 := ⟨by decide +kernel, rfl⟩
theorem d_X12_purseOf_11 : decode mX12_purseOf.1 11 = .ok (.iadd, 1) ∧ 11 + 1 = 12 := ⟨by decide +kernel, rfl⟩
theorem d_X12_purseOf_12 : decode mX12_purseOf.1 12 = .ok (.iaload, 1) ∧ 12 + 1 = 13 := ⟨by decide +kernel, rfl⟩
theorem d_X12_purseOf_13 : decode mX12_purseOf.1 13 = .ok (.ireturn, 1) := by decide +kernel
set_option maxRecDepth 100000 in
set_option maxHeartbeats 4000000 in
theorem g_X12_purseOf (l : Launch) (G : xa_C) (v0 v1 : Int) (h : xa_H) : xa_G l G 2 mX12_purseOf (f_X12_purseOf v0 v1 h) (fun r => some (some (xI r), h) : Int → Option xa_O) 0 [some (xR v0), some (xI v1)] [] h := by
  unfold f_X12_purseOf
  refine xa_step (xa_aload_n d_X12_purseOf_0 rfl) ?_
  refine xa_getf xR xc_12 (by decide) (fun _ => rfl) xw_1354 rfl d_X12_purseOf_1 (fun x1 _ => ?_)
  refine xa_step (xa_iconst d_X12_purseOf_4 xq_i_1) ?_
  refine xa_step (xa_bipush d_X12_purseOf_5 xq_b_9) ?_
  refine xa_step (xa_iload_n d_X12_purseOf_7 rfl) ?_
  refine xa_step (xa_imul d_X12_purseOf_8) ?_
  refine xa_step (xa_iadd d_X12_purseOf_9) ?_
  refine xa_step (xa_iconst d_X12_purseOf_10 xq_i_2) ?_
  refine xa_step (xa_iadd d_X12_purseOf_11) ?_
  refine xa_iaload d_X12_purseOf_12 (fun x2 _ => ?_)
  exact xa_iret d_X12_purseOf_13 rfl rfl
theorem ct_X12_purseOf (l : Launch) (G : xa_C) (v0 v1 : Int) (h : xa_H) (r : Int) (hr : f_X12_purseOf v0 v1 h = some r) : xa_CT l G 2 mX12_purseOf yX12_purseOf [xR v0, xI v1] h (some (xI r), h) :=
  xa_met (by decide +kernel) rfl (fun q => by first | rfl | cases q) (Nat.le_of_ble_eq_true rfl) rfl (g_X12_purseOf l G v0 v1 h) (by rw [hr]; rfl)
abbrev mX12_valueOf : xa_M := (cX12_valueOf, 3, (some (.int)), RX12, false)
theorem d_X12_valueOf_0 : decode mX12_valueOf.1 0 = .ok (.aload_n 0, 1) ∧ 0 + 1 = 1 := ⟨by decide +kernel, rfl⟩
theorem d_X12_valueOf_1 : decode mX12_valueOf.1 1 = .ok (.getfield 112, 3) ∧ 1 + 3 = 4 := ⟨by decide +kernel, rfl⟩
theorem d_X12_valueOf_4 : decode mX12_valueOf.1 4 = .ok (.bipush 36, 2) ∧ 4 + 2 = 6 := ⟨by decide +kernel, rfl⟩
theorem d_X12_valueOf_6 : decode mX12_valueOf.1 6 = .ok (.bipush 6, 2) ∧ 6 + 2 = 8 := ⟨by decide +kernel, rfl⟩
theorem d_X12_valueOf_8 : decode mX12_valueOf.1 8 = .ok (.iload_n 1, 1) ∧ 8 + 1 = 9 := ⟨by decide +kernel, rfl⟩
theorem d_X12_valueOf_9 : decode mX12_valueOf.1 9 = .ok (.imul, 1) ∧ 9 + 1 = 10 := ⟨by decide +kernel, rfl⟩
theorem d_X12_valueOf_10 : decode mX12_valueOf.1 10 = .ok (.iadd, 1) ∧ 10 + 1 = 11 := ⟨by decide +kernel, rfl⟩
theorem d_X12_valueOf_11 : decode mX12_valueOf.1 11 = .ok (.iload_n 2, 1) ∧ 11 + 1 = 12 := ⟨by decide +kernel, rfl⟩
theorem d_X12_valueOf_12 : decode mX12_valueOf.1 12 = .ok (.iadd, 1) ∧ 12 + 1 = 13 := ⟨by decide +kernel, rfl⟩
theorem d_X12_valueOf_13 : decode mX12_valueOf.1 13 = .ok (.iaload, 1) ∧ 13 + 1 = 14 := ⟨by decide +kernel, rfl⟩
theorem d_X12_valueOf_14 : decode mX12_valueOf.1 14 = .ok (.ireturn, 1) := by decide +kernel
set_option maxRecDepth 100000 in
set_option maxHeartbeats 4000000 in
theorem g_X12_valueOf (l : Launch) (G : xa_C) (v0 v1 v2 : Int) (h : xa_H) : xa_G l G 2 mX12_valueOf (f_X12_valueOf v0 v1 v2 h) (fun r => some (some (xI r), h) : Int → Option xa_O) 0 [some (xR v0), some (xI v1), some (xI v2)] [] h := by
  unfold f_X12_valueOf
  refine xa_step (xa_aload_n d_X12_valueOf_0 rfl) ?_
  refine xa_getf xR xc_12 (by decide) (fun _ => rfl) xw_1345 rfl d_X12_valueOf_1 (fun x1 _ => ?_)
  refine xa_step (xa_bipush d_X12_valueOf_4 xq_b_36) ?_
  refine xa_step (xa_bipush d_X12_valueOf_6 xq_b_6) ?_
  refine xa_step (xa_iload_n d_X12_valueOf_8 rfl) ?_
  refine xa_step (xa_imul d_X12_valueOf_9) ?_
  refine xa_step (xa_iadd d_X12_valueOf_10) ?_
  refine xa_step (xa_iload_n d_X12_valueOf_11 rfl) ?_
  refine xa_step (xa_iadd d_X12_valueOf_12) ?_
  refine xa_iaload d_X12_valueOf_13 (fun x2 _ => ?_)
  exact xa_iret d_X12_valueOf_14 rfl rfl
theorem ct_X12_valueOf (l : Launch) (G : xa_C) (v0 v1 v2 : Int) (h : xa_H) (r : Int) (hr : f_X12_valueOf v0 v1 v2 h = some r) : xa_CT l G 2 mX12_valueOf yX12_valueOf [xR v0, xI v1, xI v2] h (some (xI r), h) :=
  xa_met (by decide +kernel) rfl (fun q => by first | rfl | cases q) (Nat.le_of_ble_eq_true rfl) rfl (g_X12_valueOf l G v0 v1 v2 h) (by rw [hr]; rfl)
abbrev mX12_wantedBy : xa_M := (cX12_wantedBy, 2, (some (.int)), RX12, false)
theorem d_X12_wantedBy_0 : decode mX12_wantedBy.1 0 = .ok (.aload_n 0, 1) ∧ 0 + 1 = 1 := ⟨by decide +kernel, rfl⟩
theorem d_X12_wantedBy_1 : decode mX12_wantedBy.1 1 = .ok (.getfield 130, 3) ∧ 1 + 3 = 4 := ⟨by decide +kernel, rfl⟩
theorem d_X12_wantedBy_4 : decode mX12_wantedBy.1 4 = .ok (.iconst 1, 1) ∧ 4 + 1 = 5 := ⟨by decide +kernel, rfl⟩
theorem d_X12_wantedBy_5 : decode mX12_wantedBy.1 5 = .ok (.bipush 9, 2) ∧ 5 + 2 = 7 := ⟨by decide +kernel, rfl⟩
theorem d_X12_wantedBy_7 : decode mX12_wantedBy.1 7 = .ok (.iload_n 1, 1) ∧ 7 + 1 = 8 := ⟨by decide +kernel, rfl⟩
theorem d_X12_wantedBy_8 : decode mX12_wantedBy.1 8 = .ok (.imul, 1) ∧ 8 + 1 = 9 := ⟨by decide +kernel, rfl⟩
theorem d_X12_wantedBy_9 : decode mX12_wantedBy.1 9 = .ok (.iadd, 1) ∧ 9 + 1 = 10 := ⟨by decide +kernel, rfl⟩
theorem d_X12_wantedBy_10 : decode mX12_wantedBy.1 10 = .ok (.iconst 1, 1) ∧ 10 + 1 = 11 := ⟨by decide +kernel, rfl⟩
theorem d_X12_wantedBy_11 : decode mX12_wantedBy.1 11 = .ok (.iadd, 1) ∧ 11 + 1 = 12 := ⟨by decide +kernel, rfl⟩
theorem d_X12_wantedBy_12 : decode mX12_wantedBy.1 12 = .ok (.iaload, 1) ∧ 12 + 1 = 13 := ⟨by decide +kernel, rfl⟩
theorem d_X12_wantedBy_13 : decode mX12_wantedBy.1 13 = .ok (.ireturn, 1) := by decide +kernel
set_option maxRecDepth 100000 in
set_option maxHeartbeats 4000000 in
theorem g_X12_wantedBy (l : Launch) (G : xa_C) (v0 v1 : Int) (h : xa_H) : xa_G l G 2 mX12_wantedBy (f_X12_wantedBy v0 v1 h) (fun r => some (some (xI r), h) : Int → Option xa_O) 0 [some (xR v0), some (xI v1)] [] h := by
  unfold f_X12_wantedBy
  refine xa_step (xa_aload_n d_X12_wantedBy_0 rfl) ?_
  refine xa_getf xR xc_12 (by decide) (fun _ => rfl) xw_1354 rfl d_X12_wantedBy_1 (fun x1 _ => ?_)
  refine xa_step (xa_iconst d_X12_wantedBy_4 xq_i_1) ?_
  refine xa_step (xa_bipush d_X12_wantedBy_5 xq_b_9) ?_
  refine xa_step (xa_iload_n d_X12_wantedBy_7 rfl) ?_
  refine xa_step (xa_imul d_X12_wantedBy_8) ?_
  refine xa_step (xa_iadd d_X12_wantedBy_9) ?_
  refine xa_step (xa_iconst d_X12_wantedBy_10 xq_i_1) ?_
  refine xa_step (xa_iadd d_X12_wantedBy_11) ?_
  refine xa_iaload d_X12_wantedBy_12 (fun x2 _ => ?_)
  exact xa_iret d_X12_wantedBy_13 rfl rfl
theorem ct_X12_wantedBy (l : Launch) (G : xa_C) (v0 v1 : Int) (h : xa_H) (r : Int) (hr : f_X12_wantedBy v0 v1 h = some r) : xa_CT l G 2 mX12_wantedBy yX12_wantedBy [xR v0, xI v1] h (some (xI r), h) :=
  xa_met (by decide +kernel) rfl (fun q => by first | rfl | cases q) (Nat.le_of_ble_eq_true rfl) rfl (g_X12_wantedBy l G v0 v1 h) (by rw [hr]; rfl)
abbrev mX12_qPartOf : xa_M := (cX12_qPartOf, 3, (some (.long)), RX12, false)
theorem d_X12_qPartOf_0 : decode mX12_qPartOf.1 0 = .ok (.iload_n 1, 1) ∧ 0 + 1 = 1 := ⟨by decide +kernel, rfl⟩
theorem d_X12_qPartOf_1 : decode mX12_qPartOf.1 1 = .ok (.tableswitch 142 0 6 #[43, 48, 60, 93, 122, 127, 134], 43) := by decide +kernel
theorem d_X12_qPartOf_44 : decode mX12_qPartOf.1 44 = .ok (.aload_n 0, 1) ∧ 44 + 1 = 45 := ⟨by decide +kernel, rfl⟩
theorem d_X12_qPartOf_45 : decode mX12_qPartOf.1 45 = .ok (.getfield 414, 3) ∧ 45 + 3 = 48 := ⟨by decide +kernel, rfl⟩
theorem d_X12_qPartOf_48 : decode mX12_qPartOf.1 48 = .ok (.lreturn, 1) := by decide +kernel
theorem d_X12_qPartOf_49 : decode mX12_qPartOf.1 49 = .ok (.aload_n 0, 1) ∧ 49 + 1 = 50 := ⟨by decide +kernel, rfl⟩
theorem d_X12_qPartOf_50 : decode mX12_qPartOf.1 50 = .ok (.iload_n 2, 1) ∧ 50 + 1 = 51 := ⟨by decide +kernel, rfl⟩
theorem d_X12_qPartOf_51 : decode mX12_qPartOf.1 51 = .ok (.aload_n 0, 1) ∧ 51 + 1 = 52 := ⟨by decide +kernel, rfl⟩
theorem d_X12_qPartOf_52 : decode mX12_qPartOf.1 52 = .ok (.iload_n 2, 1) ∧ 52 + 1 = 53 := ⟨by decide +kernel, rfl⟩
theorem d_X12_qPartOf_53 : decode mX12_qPartOf.1 53 = .ok (.invokevirtual 405, 3) ∧ 53 + 3 = 56 := ⟨by decide +kernel, rfl⟩
theorem d_X12_qPartOf_56 : decode mX12_qPartOf.1 56 = .ok (.invokevirtual 411, 3) ∧ 56 + 3 = 59 := ⟨by decide +kernel, rfl⟩
theorem d_X12_qPartOf_59 : decode mX12_qPartOf.1 59 = .ok (.i2l, 1) ∧ 59 + 1 = 60 := ⟨by decide +kernel, rfl⟩
theorem d_X12_qPartOf_60 : decode mX12_qPartOf.1 60 = .ok (.lreturn, 1) := by decide +kernel
theorem d_X12_qPartOf_61 : decode mX12_qPartOf.1 61 = .ok (.aload_n 0, 1) ∧ 61 + 1 = 62 := ⟨by decide +kernel, rfl⟩
theorem d_X12_qPartOf_62 : decode mX12_qPartOf.1 62 = .ok (.getfield 304, 3) ∧ 62 + 3 = 65 := ⟨by decide +kernel, rfl⟩
theorem d_X12_qPartOf_65 : decode mX12_qPartOf.1 65 = .ok (.ifCond .eq 10, 3) ∧ 65 + 3 = 68 ∧ ((65 : Nat) : Int) + 10 = ((75 : Nat) : Int) := ⟨by decide +kernel, rfl, rfl⟩
theorem d_X12_qPartOf_75 : decode mX12_qPartOf.1 75 = .ok (.aload_n 0, 1) ∧ 75 + 1 = 76 := ⟨by decide +kernel, rfl⟩
theorem d_X12_qPartOf_76 : decode mX12_qPartOf.1 76 = .ok (.iload_n 2, 1) ∧ 76 + 1 = 77 := ⟨by decide +kernel, rfl⟩
theorem d_X12_qPartOf_77 : decode mX12_qPartOf.1 77 = .ok (.invokevirtual 408, 3) ∧ 77 + 3 = 80 := ⟨by decide +kernel, rfl⟩
theorem d_X12_qPartOf_80 : decode mX12_qPartOf.1 80 = .ok (.aload_n 0, 1) ∧ 80 + 1 = 81 := ⟨by decide +kernel, rfl⟩
theorem d_X12_qPartOf_81 : decode mX12_qPartOf.1 81 = .ok (.iload_n 2, 1) ∧ 81 + 1 = 82 := ⟨by decide +kernel, rfl⟩
theorem d_X12_qPartOf_82 : decode mX12_qPartOf.1 82 = .ok (.invokevirtual 405, 3) ∧ 82 + 3 = 85 := ⟨by decide +kernel, rfl⟩
theorem d_X12_qPartOf_85 : decode mX12_qPartOf.1 85 = .ok (.if_icmp .ne 7, 3) ∧ 85 + 3 = 88 ∧ ((85 : Nat) : Int) + 7 = ((92 : Nat) : Int) := ⟨by decide +kernel, rfl, rfl⟩
theorem d_X12_qPartOf_88 : decode mX12_qPartOf.1 88 = .ok (.lconst 1, 1) ∧ 88 + 1 = 89 := ⟨by decide +kernel, rfl⟩
theorem d_X12_qPartOf_89 : decode mX12_qPartOf.1 89 = .ok (.goto 4, 3) ∧ ((89 : Nat) : Int) + 4 = ((93 : Nat) : Int) := ⟨by decide +kernel, rfl⟩
theorem d_X12_qPartOf_93 : decode mX12_qPartOf.1 93 = .ok (.lreturn, 1) := by decide +kernel
theorem d_X12_qPartOf_92 : decode mX12_qPartOf.1 92 = .ok (.lconst 0, 1) ∧ 92 + 1 = 93 := ⟨by decide +kernel, rfl⟩
theorem d_X12_qPartOf_68 : decode mX12_qPartOf.1 68 = .ok (.aload_n 0, 1) ∧ 68 + 1 = 69 := ⟨by decide +kernel, rfl⟩
theorem d_X12_qPartOf_69 : decode mX12_qPartOf.1 69 = .ok (.getfield 417, 3) ∧ 69 + 3 = 72 := ⟨by decide +kernel, rfl⟩
theorem d_X12_qPartOf_72 : decode mX12_qPartOf.1 72 = .ok (.goto 21, 3) ∧ ((72 : Nat) : Int) + 21 = ((93 : Nat) : Int) := ⟨by decide +kernel, rfl⟩
theorem d_X12_qPartOf_94 : decode mX12_qPartOf.1 94 = .ok (.aload_n 0, 1) ∧ 94 + 1 = 95 := ⟨by decide +kernel, rfl⟩
theorem d_X12_qPartOf_95 : decode mX12_qPartOf.1 95 = .ok (.getfield 304, 3) ∧ 95 + 3 = 98 := ⟨by decide +kernel, rfl⟩
theorem d_X12_qPartOf_98 : decode mX12_qPartOf.1 98 = .ok (.ifCond .eq 10, 3) ∧ 98 + 3 = 101 ∧ ((98 : Nat) : Int) + 10 = ((108 : Nat) : Int) := ⟨by decide +kernel, rfl, rfl⟩
theorem d_X12_qPartOf_108 : decode mX12_qPartOf.1 108 = .ok (.aload_n 0, 1) ∧ 108 + 1 = 109 := ⟨by decide +kernel, rfl⟩
theorem d_X12_qPartOf_109 : decode mX12_qPartOf.1 109 = .ok (.getfield 97, 3) ∧ 109 + 3 = 112 := ⟨by decide +kernel, rfl⟩
theorem d_X12_qPartOf_112 : decode mX12_qPartOf.1 112 = .ok (.bipush 6, 2) ∧ 112 + 2 = 114 := ⟨by decide +kernel, rfl⟩
theorem d_X12_qPartOf_114 : decode mX12_qPartOf.1 114 = .ok (.aload_n 0, 1) ∧ 114 + 1 = 115 := ⟨by decide +kernel, rfl⟩
theorem d_X12_qPartOf_115 : decode mX12_qPartOf.1 115 = .ok (.iload_n 2, 1) ∧ 115 + 1 = 116 := ⟨by decide +kernel, rfl⟩
theorem d_X12_qPartOf_116 : decode mX12_qPartOf.1 116 = .ok (.invokevirtual 405, 3) ∧ 116 + 3 = 119 := ⟨by decide +kernel, rfl⟩
theorem d_X12_qPartOf_119 : decode mX12_qPartOf.1 119 = .ok (.iadd, 1) ∧ 119 + 1 = 120 := ⟨by decide +kernel, rfl⟩
theorem d_X12_qPartOf_120 : decode mX12_qPartOf.1 120 = .ok (.iaload, 1) ∧ 120 + 1 = 121 := ⟨by decide +kernel, rfl⟩
theorem d_X12_qPartOf_121 : decode mX12_qPartOf.1 121 = .ok (.i2l, 1) ∧ 121 + 1 = 122 := ⟨by decide +kernel, rfl⟩
theorem d_X12_qPartOf_122 : decode mX12_qPartOf.1 122 = .ok (.lreturn, 1) := by decide +kernel
theorem d_X12_qPartOf_101 : decode mX12_qPartOf.1 101 = .ok (.aload_n 0, 1) ∧ 101 + 1 = 102 := ⟨by decide +kernel, rfl⟩
theorem d_X12_qPartOf_102 : decode mX12_qPartOf.1 102 = .ok (.getfield 420, 3) ∧ 102 + 3 = 105 := ⟨by decide +kernel, rfl⟩
theorem d_X12_qPartOf_105 : decode mX12_qPartOf.1 105 = .ok (.goto 17, 3) ∧ ((105 : Nat) : Int) + 17 = ((122 : Nat) : Int) := ⟨by decide +kernel, rfl⟩
theorem d_X12_qPartOf_123 : decode mX12_qPartOf.1 123 = .ok (.aload_n 0, 1) ∧ 123 + 1 = 124 := ⟨by decide +kernel, rfl⟩
theorem d_X12_qPartOf_124 : decode mX12_qPartOf.1 124 = .ok (.getfield 426, 3) ∧ 124 + 3 = 127 := ⟨by decide +kernel, rfl⟩
theorem d_X12_qPartOf_127 : decode mX12_qPartOf.1 127 = .ok (.lreturn, 1) := by decide +kernel
theorem d_X12_qPartOf_128 : decode mX12_qPartOf.1 128 = .ok (.aload_n 0, 1) ∧ 128 + 1 = 129 := ⟨by decide +kernel, rfl⟩
theorem d_X12_qPartOf_129 : decode mX12_qPartOf.1 129 = .ok (.iload_n 2, 1) ∧ 129 + 1 = 130 := ⟨by decide +kernel, rfl⟩
theorem d_X12_qPartOf_130 : decode mX12_qPartOf.1 130 = .ok (.invokevirtual 477, 3) ∧ 130 + 3 = 133 := ⟨by decide +kernel, rfl⟩
theorem d_X12_qPartOf_133 : decode mX12_qPartOf.1 133 = .ok (.i2l, 1) ∧ 133 + 1 = 134 := ⟨by decide +kernel, rfl⟩
theorem d_X12_qPartOf_134 : decode mX12_qPartOf.1 134 = .ok (.lreturn, 1) := by decide +kernel
theorem d_X12_qPartOf_135 : decode mX12_qPartOf.1 135 = .ok (.aload_n 0, 1) ∧ 135 + 1 = 136 := ⟨by decide +kernel, rfl⟩
theorem d_X12_qPartOf_136 : decode mX12_qPartOf.1 136 = .ok (.getfield 130, 3) ∧ 136 + 3 = 139 := ⟨by decide +kernel, rfl⟩
theorem d_X12_qPartOf_139 : decode mX12_qPartOf.1 139 = .ok (.iconst 0, 1) ∧ 139 + 1 = 140 := ⟨by decide +kernel, rfl⟩
theorem d_X12_qPartOf_140 : decode mX12_qPartOf.1 140 = .ok (.iaload, 1) ∧ 140 + 1 = 141 := ⟨by decide +kernel, rfl⟩
theorem d_X12_qPartOf_141 : decode mX12_qPartOf.1 141 = .ok (.i2l, 1) ∧ 141 + 1 = 142 := ⟨by decide +kernel, rfl⟩
theorem d_X12_qPartOf_142 : decode mX12_qPartOf.1 142 = .ok (.lreturn, 1) := by decide +kernel
theorem d_X12_qPartOf_143 : decode mX12_qPartOf.1 143 = .ok (.iload_n 2, 1) ∧ 143 + 1 = 144 := ⟨by decide +kernel, rfl⟩
theorem d_X12_qPartOf_144 : decode mX12_qPartOf.1 144 = .ok (.i2l, 1) ∧ 144 + 1 = 145 := ⟨by decide +kernel, rfl⟩
theorem d_X12_qPartOf_145 : decode mX12_qPartOf.1 145 = .ok (.lreturn, 1) := by decide +kernel
set_option maxRecDepth 100000 in
set_option maxHeartbeats 4000000 in
theorem g_X12_qPartOf (l : Launch) (G : xa_C) (v0 v1 v2 : Int) (h : xa_H) : xa_G l G 3 mX12_qPartOf (f_X12_qPartOf v0 v1 v2 h) (fun r => some (some (xL r), h) : Int → Option xa_O) 0 [some (xR v0), some (xI v1), some (xI v2)] [] h := by
  unfold f_X12_qPartOf
  refine xa_step (xa_iload_n d_X12_qPartOf_0 rfl) ?_
  refine xa_case (fun q1 => ?_) (fun q1 => ?_)
  · refine xa_step (xa_tabIn (k := 0) d_X12_qPartOf_1 q1 (by decide) (by decide) rfl rfl) ?_
    refine xa_step (xa_aload_n d_X12_qPartOf_44 rfl) ?_
    refine xa_getf xL xc_12 (by decide) (fun _ => rfl) xw_1355 rfl d_X12_qPartOf_45 (fun x2 _ => ?_)
    exact xa_lret d_X12_qPartOf_48 rfl rfl
  · refine xa_case (fun q3 => ?_) (fun q3 => ?_)
    · refine xa_step (xa_tabIn (k := 1) d_X12_qPartOf_1 q3 (by decide) (by decide) rfl rfl) ?_
      refine xa_step (xa_aload_n d_X12_qPartOf_49 rfl) ?_
      refine xa_step (xa_iload_n d_X12_qPartOf_50 rfl) ?_
      refine xa_step (xa_aload_n d_X12_qPartOf_51 rfl) ?_
      refine xa_step (xa_iload_n d_X12_qPartOf_52 rfl) ?_
      refine xa_callVi (as := [xI v2]) (st := [xI v2, xR v0]) (M' := mX12_hadBy) (d' := 2) rfl xw_1844 xw_1846 xw_110 xw_1847 xw_177 xh_X12_hadBy rfl ⟨Nat.le_of_ble_eq_true rfl, Nat.le_of_ble_eq_true rfl⟩ (Nat.le_of_ble_eq_true rfl) rfl d_X12_qPartOf_53 (fun r hr => ct_X12_hadBy l G v0 v2 h r hr) (fun r4 _ => ?_)
      refine xa_callVi (as := [xI v2, xI r4]) (st := []) (M' := mX12_valueOf) (d' := 2) rfl xw_1856 xw_1858 xw_113 xw_1859 xw_177 xh_X12_valueOf rfl ⟨Nat.le_of_ble_eq_true rfl, Nat.le_of_ble_eq_true rfl⟩ (Nat.le_of_ble_eq_true rfl) rfl d_X12_qPartOf_56 (fun r hr => ct_X12_valueOf l G v0 v2 r4 h r hr) (fun r5 _ => ?_)
      refine xa_step (xa_i2l d_X12_qPartOf_59) ?_
      exact xa_lret d_X12_qPartOf_60 rfl rfl
    · refine xa_case (fun q6 => ?_) (fun q6 => ?_)
      · refine xa_step (xa_tabIn (k := 2) d_X12_qPartOf_1 q6 (by decide) (by decide) rfl rfl) ?_
        refine xa_step (xa_aload_n d_X12_qPartOf_61 rfl) ?_
        refine xa_getf xI xc_12 (by decide) (fun _ => rfl) xw_1353 rfl d_X12_qPartOf_62 (fun x7 _ => ?_)
        refine xa_if (xa_ifeq d_X12_qPartOf_65) (fun q8 => ?_) (fun q8 => ?_)
        · refine xa_step (xa_aload_n d_X12_qPartOf_75 rfl) ?_
          refine xa_step (xa_iload_n d_X12_qPartOf_76 rfl) ?_
          refine xa_callVi (as := [xI v2]) (st := []) (M' := mX12_wantedBy) (d' := 2) rfl xw_1848 xw_1850 xw_111 xw_1851 xw_177 xh_X12_wantedBy rfl ⟨Nat.le_of_ble_eq_true rfl, Nat.le_of_ble_eq_true rfl⟩ (Nat.le_of_ble_eq_true rfl) rfl d_X12_qPartOf_77 (fun r hr => ct_X12_wantedBy l G v0 v2 h r hr) (fun r9 _ => ?_)
          refine xa_step (xa_aload_n d_X12_qPartOf_80 rfl) ?_
          refine xa_step (xa_iload_n d_X12_qPartOf_81 rfl) ?_
          refine xa_callVi (as := [xI v2]) (st := [xI r9]) (M' := mX12_hadBy) (d' := 2) rfl xw_1844 xw_1846 xw_110 xw_1847 xw_177 xh_X12_hadBy rfl ⟨Nat.le_of_ble_eq_true rfl, Nat.le_of_ble_eq_true rfl⟩ (Nat.le_of_ble_eq_true rfl) rfl d_X12_qPartOf_82 (fun r hr => ct_X12_hadBy l G v0 v2 h r hr) (fun r10 _ => ?_)
          refine xa_if (xa_icmpne d_X12_qPartOf_85) (fun q11 => ?_) (fun q11 => ?_)
          · refine xa_step (xa_lconst d_X12_qPartOf_88 rfl) ?_
            refine xa_step (xa_goto d_X12_qPartOf_89) ?_
            exact xa_lret d_X12_qPartOf_93 rfl rfl
          · refine xa_step (xa_lconst d_X12_qPartOf_92 rfl) ?_
            exact xa_lret d_X12_qPartOf_93 rfl rfl
        · refine xa_step (xa_aload_n d_X12_qPartOf_68 rfl) ?_
          refine xa_getf xL xc_12 (by decide) (fun _ => rfl) xw_1356 rfl d_X12_qPartOf_69 (fun x12 _ => ?_)
          refine xa_step (xa_goto d_X12_qPartOf_72) ?_
          exact xa_lret d_X12_qPartOf_93 rfl rfl
      · refine xa_case (fun q13 => ?_) (fun q13 => ?_)
        · refine xa_step (xa_tabIn (k := 3) d_X12_qPartOf_1 q13 (by decide) (by decide) rfl rfl) ?_
          refine xa_step (xa_aload_n d_X12_qPartOf_94 rfl) ?_
          refine xa_getf xI xc_12 (by decide) (fun _ => rfl) xw_1353 rfl d_X12_qPartOf_95 (fun x14 _ => ?_)
          refine xa_if (xa_ifeq d_X12_qPartOf_98) (fun q15 => ?_) (fun q15 => ?_)
          · refine xa_step (xa_aload_n d_X12_qPartOf_108 rfl) ?_
            refine xa_getf xR xc_12 (by decide) (fun _ => rfl) xw_1340 rfl d_X12_qPartOf_109 (fun x16 _ => ?_)
            refine xa_step (xa_bipush d_X12_qPartOf_112 xq_b_6) ?_
            refine xa_step (xa_aload_n d_X12_qPartOf_114 rfl) ?_
            refine xa_step (xa_iload_n d_X12_qPartOf_115 rfl) ?_
            refine xa_callVi (as := [xI v2]) (st := [xI 6, xR x16]) (M' := mX12_hadBy) (d' := 2) rfl xw_1844 xw_1846 xw_110 xw_1847 xw_177 xh_X12_hadBy rfl ⟨Nat.le_of_ble_eq_true rfl, Nat.le_of_ble_eq_true rfl⟩ (Nat.le_of_ble_eq_true rfl) rfl d_X12_qPartOf_116 (fun r hr => ct_X12_hadBy l G v0 v2 h r hr) (fun r17 _ => ?_)
            refine xa_step (xa_iadd d_X12_qPartOf_119) ?_
            refine xa_iaload d_X12_qPartOf_120 (fun x18 _ => ?_)
            refine xa_step (xa_i2l d_X12_qPartOf_121) ?_
            exact xa_lret d_X12_qPartOf_122 rfl rfl
          · refine xa_step (xa_aload_n d_X12_qPartOf_101 rfl) ?_
            refine xa_getf xL xc_12 (by decide) (fun _ => rfl) xw_1357 rfl d_X12_qPartOf_102 (fun x19 _ => ?_)
            refine xa_step (xa_goto d_X12_qPartOf_105) ?_
            exact xa_lret d_X12_qPartOf_122 rfl rfl
        · refine xa_case (fun q20 => ?_) (fun q20 => ?_)
          · refine xa_step (xa_tabIn (k := 4) d_X12_qPartOf_1 q20 (by decide) (by decide) rfl rfl) ?_
            refine xa_step (xa_aload_n d_X12_qPartOf_123 rfl) ?_
            refine xa_getf xL xc_12 (by decide) (fun _ => rfl) xw_1358 rfl d_X12_qPartOf_124 (fun x21 _ => ?_)
            exact xa_lret d_X12_qPartOf_127 rfl rfl
          · refine xa_case (fun q22 => ?_) (fun q22 => ?_)
            · refine xa_step (xa_tabIn (k := 5) d_X12_qPartOf_1 q22 (by decide) (by decide) rfl rfl) ?_
              refine xa_step (xa_aload_n d_X12_qPartOf_128 rfl) ?_
              refine xa_step (xa_iload_n d_X12_qPartOf_129 rfl) ?_
              refine xa_callVi (as := [xI v2]) (st := []) (M' := mX12_purseOf) (d' := 2) rfl xw_1852 xw_1854 xw_112 xw_1855 xw_177 xh_X12_purseOf rfl ⟨Nat.le_of_ble_eq_true rfl, Nat.le_of_ble_eq_true rfl⟩ (Nat.le_of_ble_eq_true rfl) rfl d_X12_qPartOf_130 (fun r hr => ct_X12_purseOf l G v0 v2 h r hr) (fun r23 _ => ?_)
              refine xa_step (xa_i2l d_X12_qPartOf_133) ?_
              exact xa_lret d_X12_qPartOf_134 rfl rfl
            · refine xa_case (fun q24 => ?_) (fun q24 => ?_)
              · refine xa_step (xa_tabIn (k := 6) d_X12_qPartOf_1 q24 (by decide) (by decide) rfl rfl) ?_
                refine xa_step (xa_aload_n d_X12_qPartOf_135 rfl) ?_
                refine xa_getf xR xc_12 (by decide) (fun _ => rfl) xw_1354 rfl d_X12_qPartOf_136 (fun x25 _ => ?_)
                refine xa_step (xa_iconst d_X12_qPartOf_139 xq_i_0) ?_
                refine xa_iaload d_X12_qPartOf_140 (fun x26 _ => ?_)
                refine xa_step (xa_i2l d_X12_qPartOf_141) ?_
                exact xa_lret d_X12_qPartOf_142 rfl rfl
              · refine xa_step (xa_tabOut d_X12_qPartOf_1 (by omega) rfl) ?_
                refine xa_step (xa_iload_n d_X12_qPartOf_143 rfl) ?_
                refine xa_step (xa_i2l d_X12_qPartOf_144) ?_
                exact xa_lret d_X12_qPartOf_145 rfl rfl
theorem ct_X12_qPartOf (l : Launch) (G : xa_C) (v0 v1 v2 : Int) (h : xa_H) (r : Int) (hr : f_X12_qPartOf v0 v1 v2 h = some r) : xa_CT l G 3 mX12_qPartOf yX12_qPartOf [xR v0, xI v1, xI v2] h (some (xL r), h) :=
  xa_met (by decide +kernel) rfl (fun q => by first | rfl | cases q) (Nat.le_of_ble_eq_true rfl) rfl (g_X12_qPartOf l G v0 v1 v2 h) (by rw [hr]; rfl)
abbrev mX12_qTold : xa_M := (cX12_qTold, 4, (some (.long)), RX12, false)
theorem d_X12_qTold_0 : decode mX12_qTold.1 0 = .ok (.aload_n 0, 1) ∧ 0 + 1 = 1 := ⟨by decide +kernel, rfl⟩
theorem d_X12_qTold_1 : decode mX12_qTold.1 1 = .ok (.iconst 0, 1) ∧ 1 + 1 = 2 := ⟨by decide +kernel, rfl⟩
theorem d_X12_qTold_2 : decode mX12_qTold.1 2 = .ok (.putfield 429, 3) ∧ 2 + 3 = 5 := ⟨by decide +kernel, rfl⟩
theorem d_X12_qTold_5 : decode mX12_qTold.1 5 = .ok (.iconst 0, 1) ∧ 5 + 1 = 6 := ⟨by decide +kernel, rfl⟩
theorem d_X12_qTold_6 : decode mX12_qTold.1 6 = .ok (.istore_n 2, 1) ∧ 6 + 1 = 7 := ⟨by decide +kernel, rfl⟩
theorem d_X12_qTold_7 : decode mX12_qTold.1 7 = .ok (.iload_n 2, 1) ∧ 7 + 1 = 8 := ⟨by decide +kernel, rfl⟩
theorem d_X12_qTold_8 : decode mX12_qTold.1 8 = .ok (.aload_n 0, 1) ∧ 8 + 1 = 9 := ⟨by decide +kernel, rfl⟩
theorem d_X12_qTold_9 : decode mX12_qTold.1 9 = .ok (.getfield 335, 3) ∧ 9 + 3 = 12 := ⟨by decide +kernel, rfl⟩
theorem d_X12_qTold_12 : decode mX12_qTold.1 12 = .ok (.if_icmp .ge 156, 3) ∧ 12 + 3 = 15 ∧ ((12 : Nat) : Int) + 156 = ((168 : Nat) : Int) := ⟨by decide +kernel, rfl, rfl⟩
theorem d_X12_qTold_15 : decode mX12_qTold.1 15 = .ok (.aload_n 0, 1) ∧ 15 + 1 = 16 := ⟨by decide +kernel, rfl⟩
theorem d_X12_qTold_16 : decode mX12_qTold.1 16 = .ok (.getfield 234, 3) ∧ 16 + 3 = 19 := ⟨by decide +kernel, rfl⟩
theorem d_X12_qTold_19 : decode mX12_qTold.1 19 = .ok (.iload_n 2, 1) ∧ 19 + 1 = 20 := ⟨by decide +kernel, rfl⟩
theorem d_X12_qTold_20 : decode mX12_qTold.1 20 = .ok (.iaload, 1) ∧ 20 + 1 = 21 := ⟨by decide +kernel, rfl⟩
theorem d_X12_qTold_21 : decode mX12_qTold.1 21 = .ok (.istore_n 3, 1) ∧ 21 + 1 = 22 := ⟨by decide +kernel, rfl⟩
theorem d_X12_qTold_22 : decode mX12_qTold.1 22 = .ok (.iload_n 3, 1) ∧ 22 + 1 = 23 := ⟨by decide +kernel, rfl⟩
theorem d_X12_qTold_23 : decode mX12_qTold.1 23 = .ok (.sipush 1000, 3) ∧ 23 + 3 = 26 := ⟨by decide +kernel, rfl⟩
theorem d_X12_qTold_26 : decode mX12_qTold.1 26 = .ok (.if_icmp .lt 16, 3) ∧ 26 + 3 = 29 ∧ ((26 : Nat) : Int) + 16 = ((42 : Nat) : Int) := ⟨by decide +kernel, rfl, rfl⟩
theorem d_X12_qTold_42 : decode mX12_qTold.1 42 = .ok (.iload_n 3, 1) ∧ 42 + 1 = 43 := ⟨by decide +kernel, rfl⟩
theorem d_X12_qTold_43 : decode mX12_qTold.1 43 = .ok (.bipush 60, 2) ∧ 43 + 2 = 45 := ⟨by decide +kernel, rfl⟩
theorem d_X12_qTold_45 : decode mX12_qTold.1 45 = .ok (.if_icmp .lt 40, 3) ∧ 45 + 3 = 48 ∧ ((45 : Nat) : Int) + 40 = ((85 : Nat) : Int) := ⟨by decide +kernel, rfl, rfl⟩
theorem d_X12_qTold_85 : decode mX12_qTold.1 85 = .ok (.iload_n 3, 1) ∧ 85 + 1 = 86 := ⟨by decide +kernel, rfl⟩
theorem d_X12_qTold_86 : decode mX12_qTold.1 86 = .ok (.bipush 40, 2) ∧ 86 + 2 = 88 := ⟨by decide +kernel, rfl⟩
theorem d_X12_qTold_88 : decode mX12_qTold.1 88 = .ok (.if_icmp .lt 22, 3) ∧ 88 + 3 = 91 ∧ ((88 : Nat) : Int) + 22 = ((110 : Nat) : Int) := ⟨by decide +kernel, rfl, rfl⟩
theorem d_X12_qTold_110 : decode mX12_qTold.1 110 = .ok (.iload_n 3, 1) ∧ 110 + 1 = 111 := ⟨by decide +kernel, rfl⟩
theorem d_X12_qTold_111 : decode mX12_qTold.1 111 = .ok (.bipush 13, 2) ∧ 111 + 2 = 113 := ⟨by decide +kernel, rfl⟩
theorem d_X12_qTold_113 : decode mX12_qTold.1 113 = .ok (.if_icmp .ne 11, 3) ∧ 113 + 3 = 116 ∧ ((113 : Nat) : Int) + 11 = ((124 : Nat) : Int) := ⟨by decide +kernel, rfl, rfl⟩
theorem d_X12_qTold_116 : decode mX12_qTold.1 116 = .ok (.aload_n 0, 1) ∧ 116 + 1 = 117 := ⟨by decide +kernel, rfl⟩
theorem d_X12_qTold_117 : decode mX12_qTold.1 117 = .ok (.lconst 1, 1) ∧ 117 + 1 = 118 := ⟨by decide +kernel, rfl⟩
theorem d_X12_qTold_118 : decode mX12_qTold.1 118 = .ok (.invokevirtual 432, 3) ∧ 118 + 3 = 121 := ⟨by decide +kernel, rfl⟩
theorem d_X12_qTold_121 : decode mX12_qTold.1 121 = .ok (.goto 41, 3) ∧ ((121 : Nat) : Int) + 41 = ((162 : Nat) : Int) := ⟨by decide +kernel, rfl⟩
theorem d_X12_qTold_162 : decode mX12_qTold.1 162 = .ok (.iinc 2 1, 3) ∧ 162 + 3 = 165 := ⟨by decide +kernel, rfl⟩
theorem d_X12_qTold_165 : decode mX12_qTold.1 165 = .ok (.goto (-158), 3) ∧ ((165 : Nat) : Int) + (-158) = ((7 : Nat) : Int) := ⟨by decide +kernel, rfl⟩
theorem d_X12_qTold_124 : decode mX12_qTold.1 124 = .ok (.iload_n 3, 1) ∧ 124 + 1 = 125 := ⟨by decide +kernel, rfl⟩
theorem d_X12_qTold_125 : decode mX12_qTold.1 125 = .ok (.bipush 12, 2) ∧ 125 + 2 = 127 := ⟨by decide +kernel, rfl⟩
theorem d_X12_qTold_127 : decode mX12_qTold.1 127 = .ok (.if_icmp .ne 30, 3) ∧ 127 + 3 = 130 ∧ ((127 : Nat) : Int) + 30 = ((157 : Nat) : Int) := ⟨by decide +kernel, rfl, rfl⟩
theorem d_X12_qTold_130 : decode mX12_qTold.1 130 = .ok (.aload_n 0, 1) ∧ 130 + 1 = 131 := ⟨by decide +kernel, rfl⟩
theorem d_X12_qTold_131 : decode mX12_qTold.1 131 = .ok (.getfield 240, 3) ∧ 131 + 3 = 134 := ⟨by decide +kernel, rfl⟩
theorem d_X12_qTold_134 : decode mX12_qTold.1 134 = .ok (.aload_n 0, 1) ∧ 134 + 1 = 135 := ⟨by decide +kernel, rfl⟩
theorem d_X12_qTold_135 : decode mX12_qTold.1 135 = .ok (.getfield 429, 3) ∧ 135 + 3 = 138 := ⟨by decide +kernel, rfl⟩
theorem d_X12_qTold_138 : decode mX12_qTold.1 138 = .ok (.iconst 1, 1) ∧ 138 + 1 = 139 := ⟨by decide +kernel, rfl⟩
theorem d_X12_qTold_139 : decode mX12_qTold.1 139 = .ok (.isub, 1) ∧ 139 + 1 = 140 := ⟨by decide +kernel, rfl⟩
theorem d_X12_qTold_140 : decode mX12_qTold.1 140 = .ok (.lconst 1, 1) ∧ 140 + 1 = 141 := ⟨by decide +kernel, rfl⟩
theorem d_X12_qTold_141 : decode mX12_qTold.1 141 = .ok (.aload_n 0, 1) ∧ 141 + 1 = 142 := ⟨by decide +kernel, rfl⟩
theorem d_X12_qTold_142 : decode mX12_qTold.1 142 = .ok (.getfield 240, 3) ∧ 142 + 3 = 145 := ⟨by decide +kernel, rfl⟩
theorem d_X12_qTold_145 : decode mX12_qTold.1 145 = .ok (.aload_n 0, 1) ∧ 145 + 1 = 146 := ⟨by decide +kernel, rfl⟩
theorem d_X12_qTold_146 : decode mX12_qTold.1 146 = .ok (.getfield 429, 3) ∧ 146 + 3 = 149 := ⟨by decide +kernel, rfl⟩
theorem d_X12_qTold_149 : decode mX12_qTold.1 149 = .ok (.iconst 1, 1) ∧ 149 + 1 = 150 := ⟨by decide +kernel, rfl⟩
theorem d_X12_qTold_150 : decode mX12_qTold.1 150 = .ok (.isub, 1) ∧ 150 + 1 = 151 := ⟨by decide +kernel, rfl⟩
theorem d_X12_qTold_151 : decode mX12_qTold.1 151 = .ok (.laload, 1) ∧ 151 + 1 = 152 := ⟨by decide +kernel, rfl⟩
theorem d_X12_qTold_152 : decode mX12_qTold.1 152 = .ok (.lsub, 1) ∧ 152 + 1 = 153 := ⟨by decide +kernel, rfl⟩
theorem d_X12_qTold_153 : decode mX12_qTold.1 153 = .ok (.lastore, 1) ∧ 153 + 1 = 154 := ⟨by decide +kernel, rfl⟩
theorem d_X12_qTold_154 : decode mX12_qTold.1 154 = .ok (.goto 8, 3) ∧ ((154 : Nat) : Int) + 8 = ((162 : Nat) : Int) := ⟨by decide +kernel, rfl⟩
theorem d_X12_qTold_157 : decode mX12_qTold.1 157 = .ok (.aload_n 0, 1) ∧ 157 + 1 = 158 := ⟨by decide +kernel, rfl⟩
theorem d_X12_qTold_158 : decode mX12_qTold.1 158 = .ok (.iload_n 3, 1) ∧ 158 + 1 = 159 := ⟨by decide +kernel, rfl⟩
theorem d_X12_qTold_159 : decode mX12_qTold.1 159 = .ok (.invokevirtual 440, 3) ∧ 159 + 3 = 162 := ⟨by decide +kernel, rfl⟩
theorem d_X12_qTold_91 : decode mX12_qTold.1 91 = .ok (.aload_n 0, 1) ∧ 91 + 1 = 92 := ⟨by decide +kernel, rfl⟩
theorem d_X12_qTold_92 : decode mX12_qTold.1 92 = .ok (.aload_n 0, 1) ∧ 92 + 1 = 93 := ⟨by decide +kernel, rfl⟩
theorem d_X12_qTold_93 : decode mX12_qTold.1 93 = .ok (.iload_n 3, 1) ∧ 93 + 1 = 94 := ⟨by decide +kernel, rfl⟩
theorem d_X12_qTold_94 : decode mX12_qTold.1 94 = .ok (.bipush 40, 2) ∧ 94 + 2 = 96 := ⟨by decide +kernel, rfl⟩
theorem d_X12_qTold_96 : decode mX12_qTold.1 96 = .ok (.isub, 1) ∧ 96 + 1 = 97 := ⟨by decide +kernel, rfl⟩
theorem d_X12_qTold_97 : decode mX12_qTold.1 97 = .ok (.iload_n 1, 1) ∧ 97 + 1 = 98 := ⟨by decide +kernel, rfl⟩
theorem d_X12_qTold_98 : decode mX12_qTold.1 98 = .ok (.invokevirtual 436, 3) ∧ 98 + 3 = 101 := ⟨by decide +kernel, rfl⟩
theorem d_X12_qTold_101 : decode mX12_qTold.1 101 = .ok (.invokestatic 652, 3) ∧ 101 + 3 = 104 := ⟨by decide +kernel, rfl⟩
theorem d_X12_qTold_104 : decode mX12_qTold.1 104 = .ok (.invokevirtual 432, 3) ∧ 104 + 3 = 107 := ⟨by decide +kernel, rfl⟩
theorem d_X12_qTold_107 : decode mX12_qTold.1 107 = .ok (.goto 55, 3) ∧ ((107 : Nat) : Int) + 55 = ((162 : Nat) : Int) := ⟨by decide +kernel, rfl⟩
theorem d_X12_qTold_48 : decode mX12_qTold.1 48 = .ok (.aload_n 0, 1) ∧ 48 + 1 = 49 := ⟨by decide +kernel, rfl⟩
theorem d_X12_qTold_49 : decode mX12_qTold.1 49 = .ok (.getfield 240, 3) ∧ 49 + 3 = 52 := ⟨by decide +kernel, rfl⟩
theorem d_X12_qTold_52 : decode mX12_qTold.1 52 = .ok (.aload_n 0, 1) ∧ 52 + 1 = 53 := ⟨by decide +kernel, rfl⟩
theorem d_X12_qTold_53 : decode mX12_qTold.1 53 = .ok (.getfield 429, 3) ∧ 53 + 3 = 56 := ⟨by decide +kernel, rfl⟩
theorem d_X12_qTold_56 : decode mX12_qTold.1 56 = .ok (.iconst 1, 1) ∧ 56 + 1 = 57 := ⟨by decide +kernel, rfl⟩
theorem d_X12_qTold_57 : decode mX12_qTold.1 57 = .ok (.isub, 1) ∧ 57 + 1 = 58 := ⟨by decide +kernel, rfl⟩
theorem d_X12_qTold_58 : decode mX12_qTold.1 58 = .ok (.aload_n 0, 1) ∧ 58 + 1 = 59 := ⟨by decide +kernel, rfl⟩
theorem d_X12_qTold_59 : decode mX12_qTold.1 59 = .ok (.iload_n 3, 1) ∧ 59 + 1 = 60 := ⟨by decide +kernel, rfl⟩
theorem d_X12_qTold_60 : decode mX12_qTold.1 60 = .ok (.bipush 60, 2) ∧ 60 + 2 = 62 := ⟨by decide +kernel, rfl⟩
theorem d_X12_qTold_62 : decode mX12_qTold.1 62 = .ok (.isub, 1) ∧ 62 + 1 = 63 := ⟨by decide +kernel, rfl⟩
theorem d_X12_qTold_63 : decode mX12_qTold.1 63 = .ok (.aload_n 0, 1) ∧ 63 + 1 = 64 := ⟨by decide +kernel, rfl⟩
theorem d_X12_qTold_64 : decode mX12_qTold.1 64 = .ok (.getfield 240, 3) ∧ 64 + 3 = 67 := ⟨by decide +kernel, rfl⟩
theorem d_X12_qTold_67 : decode mX12_qTold.1 67 = .ok (.aload_n 0, 1) ∧ 67 + 1 = 68 := ⟨by decide +kernel, rfl⟩
theorem d_X12_qTold_68 : decode mX12_qTold.1 68 = .ok (.getfield 429, 3) ∧ 68 + 3 = 71 := ⟨by decide +kernel, rfl⟩
theorem d_X12_qTold_71 : decode mX12_qTold.1 71 = .ok (.iconst 1, 1) ∧ 71 + 1 = 72 := ⟨by decide +kernel, rfl⟩
theorem d_X12_qTold_72 : decode mX12_qTold.1 72 = .ok (.isub, 1) ∧ 72 + 1 = 73 := ⟨by decide +kernel, rfl⟩
theorem d_X12_qTold_73 : decode mX12_qTold.1 73 = .ok (.laload, 1) ∧ 73 + 1 = 74 := ⟨by decide +kernel, rfl⟩
theorem d_X12_qTold_74 : decode mX12_qTold.1 74 = .ok (.iload_n 1, 1) ∧ 74 + 1 = 75 := ⟨by decide +kernel, rfl⟩
theorem d_X12_qTold_75 : decode mX12_qTold.1 75 = .ok (.invokevirtual 660, 3) ∧ 75 + 3 = 78 := ⟨by decide +kernel, rfl⟩
theorem d_X12_qTold_78 : decode mX12_qTold.1 78 = .ok (.invokestatic 652, 3) ∧ 78 + 3 = 81 := ⟨by decide +kernel, rfl⟩
theorem d_X12_qTold_81 : decode mX12_qTold.1 81 = .ok (.lastore, 1) ∧ 81 + 1 = 82 := ⟨by decide +kernel, rfl⟩
theorem d_X12_qTold_82 : decode mX12_qTold.1 82 = .ok (.goto 80, 3) ∧ ((82 : Nat) : Int) + 80 = ((162 : Nat) : Int) := ⟨by decide +kernel, rfl⟩
theorem d_X12_qTold_29 : decode mX12_qTold.1 29 = .ok (.aload_n 0, 1) ∧ 29 + 1 = 30 := ⟨by decide +kernel, rfl⟩
theorem d_X12_qTold_30 : decode mX12_qTold.1 30 = .ok (.iload_n 3, 1) ∧ 30 + 1 = 31 := ⟨by decide +kernel, rfl⟩
theorem d_X12_qTold_31 : decode mX12_qTold.1 31 = .ok (.sipush 1000, 3) ∧ 31 + 3 = 34 := ⟨by decide +kernel, rfl⟩
theorem d_X12_qTold_34 : decode mX12_qTold.1 34 = .ok (.isub, 1) ∧ 34 + 1 = 35 := ⟨by decide +kernel, rfl⟩
theorem d_X12_qTold_35 : decode mX12_qTold.1 35 = .ok (.i2l, 1) ∧ 35 + 1 = 36 := ⟨by decide +kernel, rfl⟩
theorem d_X12_qTold_36 : decode mX12_qTold.1 36 = .ok (.invokevirtual 432, 3) ∧ 36 + 3 = 39 := ⟨by decide +kernel, rfl⟩
theorem d_X12_qTold_39 : decode mX12_qTold.1 39 = .ok (.goto 123, 3) ∧ ((39 : Nat) : Int) + 123 = ((162 : Nat) : Int) := ⟨by decide +kernel, rfl⟩
set_option maxRecDepth 100000 in
set_option maxHeartbeats 4000000 in
theorem g_X12_qTold_L7 (l : Launch) (G : xa_C) (c0 c1 : Int) (K : (Int × xa_H) ⊕ (xa_H) → Option xa_O) (hb : ∀ (v2 : Int) (h : xa_H), xa_G l G 4 mX12_qTold (some (Sum.inl ((v2, h)))) K 7 [some (xR c0), some (xI c1), some (xI v2), none] [] h) (hx : ∀ (h : xa_H), xa_G l G 4 mX12_qTold (some (Sum.inr h)) K 168 [some (xR c0), none, none, none] [] h) : ∀ (v2 : Int) (h : xa_H), xa_G l G 4 mX12_qTold (f_X12_qTold_L7 c0 c1 v2 h) K 7 [some (xR c0), some (xI c1), some (xI v2), none] [] h := by
  intro v2 h
  unfold f_X12_qTold_L7
  refine xa_step (xa_iload_n d_X12_qTold_7 rfl) ?_
  refine xa_step (xa_aload_n d_X12_qTold_8 rfl) ?_
  refine xa_getf xI xc_12 (by decide) (fun _ => rfl) xw_1402 rfl d_X12_qTold_9 (fun x2 _ => ?_)
  refine xa_if (xa_icmpge d_X12_qTold_12) (fun q3 => ?_) (fun q3 => ?_)
  · refine xa_step (xa_aload_n d_X12_qTold_15 rfl) ?_
    refine xa_getf xR xc_12 (by decide) (fun _ => rfl) xw_1401 rfl d_X12_qTold_16 (fun x4 _ => ?_)
    refine xa_step (xa_iload_n d_X12_qTold_19 rfl) ?_
    refine xa_iaload d_X12_qTold_20 (fun x5 _ => ?_)
    refine xa_step (xa_istore_n (ls' := [some (xR c0), some (xI c1), some (xI v2), some (xI x5)]) d_X12_qTold_21 (by decide) rfl) ?_
    refine xa_step (xa_iload_n d_X12_qTold_22 rfl) ?_
    refine xa_step (xa_sipush d_X12_qTold_23 xq_s_1000) ?_
    refine xa_if (xa_icmplt d_X12_qTold_26) (fun q6 => ?_) (fun q6 => ?_)
    · refine xa_step (xa_iload_n d_X12_qTold_42 rfl) ?_
      refine xa_step (xa_bipush d_X12_qTold_43 xq_b_60) ?_
      refine xa_if (xa_icmplt d_X12_qTold_45) (fun q7 => ?_) (fun q7 => ?_)
      · refine xa_step (xa_iload_n d_X12_qTold_85 rfl) ?_
        refine xa_step (xa_bipush d_X12_qTold_86 xq_b_40) ?_
        refine xa_if (xa_icmplt d_X12_qTold_88) (fun q8 => ?_) (fun q8 => ?_)
        · refine xa_step (xa_iload_n d_X12_qTold_110 rfl) ?_
          refine xa_step (xa_bipush d_X12_qTold_111 xq_b_13) ?_
          refine xa_if (xa_icmpne d_X12_qTold_113) (fun q9 => ?_) (fun q9 => ?_)
          · refine xa_step (xa_aload_n d_X12_qTold_116 rfl) ?_
            refine xa_step (xa_lconst d_X12_qTold_117 rfl) ?_
            refine xa_callVV (as := [xL 1]) (st := []) (M' := mX12_qPuts) (d' := 2) rfl xw_1948 xw_1950 xw_128 xw_1951 xw_177 xh_X12_qPuts rfl ⟨Nat.le_of_ble_eq_true rfl, Nat.le_of_ble_eq_true rfl⟩ (Nat.le_of_ble_eq_true rfl) rfl d_X12_qTold_118 (fun r hr => ct_X12_qPuts l G c0 1 h r hr) (fun r10 _ => ?_)
            refine xa_step (xa_goto d_X12_qTold_121) ?_
            refine xa_step (xa_iinc (ls' := [some (xR c0), some (xI c1), some (xI (w32 (v2 + 1))), some (xI x5)]) d_X12_qTold_162 xq_i_1 rfl (by decide) rfl) ?_
            refine xa_step (xa_goto d_X12_qTold_165) ?_
            exact xa_weak (ls' := [some (xR c0), some (xI c1), some (xI (w32 (v2 + 1))), none]) ⟨rfl, rfl, rfl, trivial⟩ (hb (w32 (v2 + 1)) r10)
          · refine xa_step (xa_iload_n d_X12_qTold_124 rfl) ?_
            refine xa_step (xa_bipush d_X12_qTold_125 xq_b_12) ?_
            refine xa_if (xa_icmpne d_X12_qTold_127) (fun q11 => ?_) (fun q11 => ?_)
            · refine xa_step (xa_aload_n d_X12_qTold_130 rfl) ?_
              refine xa_getf xR xc_12 (by decide) (fun _ => rfl) xw_1407 rfl d_X12_qTold_131 (fun x12 _ => ?_)
              refine xa_step (xa_aload_n d_X12_qTold_134 rfl) ?_
              refine xa_getf xI xc_12 (by decide) (fun _ => rfl) xw_1408 rfl d_X12_qTold_135 (fun x13 _ => ?_)
              refine xa_step (xa_iconst d_X12_qTold_138 xq_i_1) ?_
              refine xa_step (xa_isub d_X12_qTold_139) ?_
              refine xa_step (xa_lconst d_X12_qTold_140 rfl) ?_
              refine xa_step (xa_aload_n d_X12_qTold_141 rfl) ?_
              refine xa_getf xR xc_12 (by decide) (fun _ => rfl) xw_1407 rfl d_X12_qTold_142 (fun x14 _ => ?_)
              refine xa_step (xa_aload_n d_X12_qTold_145 rfl) ?_
              refine xa_getf xI xc_12 (by decide) (fun _ => rfl) xw_1408 rfl d_X12_qTold_146 (fun x15 _ => ?_)
              refine xa_step (xa_iconst d_X12_qTold_149 xq_i_1) ?_
              refine xa_step (xa_isub d_X12_qTold_150) ?_
              refine xa_laload d_X12_qTold_151 (fun x16 _ => ?_)
              refine xa_step (xa_lsub d_X12_qTold_152) ?_
              refine xa_lastore2 d_X12_qTold_153 (fun h17 _ => ?_)
              refine xa_step (xa_goto d_X12_qTold_154) ?_
              refine xa_step (xa_iinc (ls' := [some (xR c0), some (xI c1), some (xI (w32 (v2 + 1))), some (xI x5)]) d_X12_qTold_162 xq_i_1 rfl (by decide) rfl) ?_
              refine xa_step (xa_goto d_X12_qTold_165) ?_
              exact xa_weak (ls' := [some (xR c0), some (xI c1), some (xI (w32 (v2 + 1))), none]) ⟨rfl, rfl, rfl, trivial⟩ (hb (w32 (v2 + 1)) h17)
            · refine xa_step (xa_aload_n d_X12_qTold_157 rfl) ?_
              refine xa_step (xa_iload_n d_X12_qTold_158 rfl) ?_
              refine xa_callVV (as := [xI x5]) (st := []) (M' := mX12_qJoins) (d' := 3) rfl xw_1956 xw_1958 xw_130 xw_1959 xw_177 xh_X12_qJoins rfl ⟨Nat.le_of_ble_eq_true rfl, Nat.le_of_ble_eq_true rfl⟩ (Nat.le_of_ble_eq_true rfl) rfl d_X12_qTold_159 (fun r hr => ct_X12_qJoins l G c0 x5 h r hr) (fun r18 _ => ?_)
              refine xa_step (xa_iinc (ls' := [some (xR c0), some (xI c1), some (xI (w32 (v2 + 1))), some (xI x5)]) d_X12_qTold_162 xq_i_1 rfl (by decide) rfl) ?_
              refine xa_step (xa_goto d_X12_qTold_165) ?_
              exact xa_weak (ls' := [some (xR c0), some (xI c1), some (xI (w32 (v2 + 1))), none]) ⟨rfl, rfl, rfl, trivial⟩ (hb (w32 (v2 + 1)) r18)
        · refine xa_step (xa_aload_n d_X12_qTold_91 rfl) ?_
          refine xa_step (xa_aload_n d_X12_qTold_92 rfl) ?_
          refine xa_step (xa_iload_n d_X12_qTold_93 rfl) ?_
          refine xa_step (xa_bipush d_X12_qTold_94 xq_b_40) ?_
          refine xa_step (xa_isub d_X12_qTold_96) ?_
          refine xa_step (xa_iload_n d_X12_qTold_97 rfl) ?_
          refine xa_callVl (as := [xI (w32 (x5 - 40)), xI c1]) (st := [xR c0]) (M' := mX12_qPartOf) (d' := 3) rfl xw_1952 xw_1954 xw_129 xw_1955 xw_177 xh_X12_qPartOf rfl ⟨Nat.le_of_ble_eq_true rfl, Nat.le_of_ble_eq_true rfl⟩ (Nat.le_of_ble_eq_true rfl) rfl d_X12_qTold_98 (fun r hr => ct_X12_qPartOf l G c0 (w32 (x5 - 40)) c1 h r hr) (fun r19 _ => ?_)
          refine xa_callSl (as := [xL r19]) (st := [xR c0]) (M' := mX12_qClip) (d' := 2) xw_1960 xw_1961 xw_1962 xw_177 xh_X12_qClip rfl ⟨Nat.le_of_ble_eq_true rfl, Nat.le_of_ble_eq_true rfl⟩ (Nat.le_of_ble_eq_true rfl) rfl d_X12_qTold_101 (fun r hr => ct_X12_qClip l G r19 h r hr) (fun r20 _ => ?_)
          refine xa_callVV (as := [xL r20]) (st := []) (M' := mX12_qPuts) (d' := 2) rfl xw_1948 xw_1950 xw_128 xw_1951 xw_177 xh_X12_qPuts rfl ⟨Nat.le_of_ble_eq_true rfl, Nat.le_of_ble_eq_true rfl⟩ (Nat.le_of_ble_eq_true rfl) rfl d_X12_qTold_104 (fun r hr => ct_X12_qPuts l G c0 r20 h r hr) (fun r21 _ => ?_)
          refine xa_step (xa_goto d_X12_qTold_107) ?_
          refine xa_step (xa_iinc (ls' := [some (xR c0), some (xI c1), some (xI (w32 (v2 + 1))), some (xI x5)]) d_X12_qTold_162 xq_i_1 rfl (by decide) rfl) ?_
          refine xa_step (xa_goto d_X12_qTold_165) ?_
          exact xa_weak (ls' := [some (xR c0), some (xI c1), some (xI (w32 (v2 + 1))), none]) ⟨rfl, rfl, rfl, trivial⟩ (hb (w32 (v2 + 1)) r21)
      · refine xa_step (xa_aload_n d_X12_qTold_48 rfl) ?_
        refine xa_getf xR xc_12 (by decide) (fun _ => rfl) xw_1407 rfl d_X12_qTold_49 (fun x22 _ => ?_)
        refine xa_step (xa_aload_n d_X12_qTold_52 rfl) ?_
        refine xa_getf xI xc_12 (by decide) (fun _ => rfl) xw_1408 rfl d_X12_qTold_53 (fun x23 _ => ?_)
        refine xa_step (xa_iconst d_X12_qTold_56 xq_i_1) ?_
        refine xa_step (xa_isub d_X12_qTold_57) ?_
        refine xa_step (xa_aload_n d_X12_qTold_58 rfl) ?_
        refine xa_step (xa_iload_n d_X12_qTold_59 rfl) ?_
        refine xa_step (xa_bipush d_X12_qTold_60 xq_b_60) ?_
        refine xa_step (xa_isub d_X12_qTold_62) ?_
        refine xa_step (xa_aload_n d_X12_qTold_63 rfl) ?_
        refine xa_getf xR xc_12 (by decide) (fun _ => rfl) xw_1407 rfl d_X12_qTold_64 (fun x24 _ => ?_)
        refine xa_step (xa_aload_n d_X12_qTold_67 rfl) ?_
        refine xa_getf xI xc_12 (by decide) (fun _ => rfl) xw_1408 rfl d_X12_qTold_68 (fun x25 _ => ?_)
        refine xa_step (xa_iconst d_X12_qTold_71 xq_i_1) ?_
        refine xa_step (xa_isub d_X12_qTold_72) ?_
        refine xa_laload d_X12_qTold_73 (fun x26 _ => ?_)
        refine xa_step (xa_iload_n d_X12_qTold_74 rfl) ?_
        refine xa_callVl (as := [xI (w32 (x5 - 60)), xL x26, xI c1]) (st := [xI (w32 (x23 - 1)), xR x22]) (M' := mX12_qOf) (d' := 3) rfl xw_2139 xw_2141 xw_154 xw_2142 xw_177 xh_X12_qOf rfl ⟨Nat.le_of_ble_eq_true rfl, Nat.le_of_ble_eq_true rfl⟩ (Nat.le_of_ble_eq_true rfl) rfl d_X12_qTold_75 (fun r hr => ct_X12_qOf l G c0 (w32 (x5 - 60)) x26 c1 h r hr) (fun r27 _ => ?_)
        refine xa_callSl (as := [xL r27]) (st := [xI (w32 (x23 - 1)), xR x22]) (M' := mX12_qClip) (d' := 2) xw_1960 xw_1961 xw_1962 xw_177 xh_X12_qClip rfl ⟨Nat.le_of_ble_eq_true rfl, Nat.le_of_ble_eq_true rfl⟩ (Nat.le_of_ble_eq_true rfl) rfl d_X12_qTold_78 (fun r hr => ct_X12_qClip l G r27 h r hr) (fun r28 _ => ?_)
        refine xa_lastore2 d_X12_qTold_81 (fun h29 _ => ?_)
        refine xa_step (xa_goto d_X12_qTold_82) ?_
        refine xa_step (xa_iinc (ls' := [some (xR c0), some (xI c1), some (xI (w32 (v2 + 1))), some (xI x5)]) d_X12_qTold_162 xq_i_1 rfl (by decide) rfl) ?_
        refine xa_step (xa_goto d_X12_qTold_165) ?_
        exact xa_weak (ls' := [some (xR c0), some (xI c1), some (xI (w32 (v2 + 1))), none]) ⟨rfl, rfl, rfl, trivial⟩ (hb (w32 (v2 + 1)) h29)
    · refine xa_step (xa_aload_n d_X12_qTold_29 rfl) ?_
      refine xa_step (xa_iload_n d_X12_qTold_30 rfl) ?_
      refine xa_step (xa_sipush d_X12_qTold_31 xq_s_1000) ?_
      refine xa_step (xa_isub d_X12_qTold_34) ?_
      refine xa_step (xa_i2l d_X12_qTold_35) ?_
      refine xa_callVV (as := [xL (w32 (x5 - 1000))]) (st := []) (M' := mX12_qPuts) (d' := 2) rfl xw_1948 xw_1950 xw_128 xw_1951 xw_177 xh_X12_qPuts rfl ⟨Nat.le_of_ble_eq_true rfl, Nat.le_of_ble_eq_true rfl⟩ (Nat.le_of_ble_eq_true rfl) rfl d_X12_qTold_36 (fun r hr => ct_X12_qPuts l G c0 (w32 (x5 - 1000)) h r hr) (fun r30 _ => ?_)
      refine xa_step (xa_goto d_X12_qTold_39) ?_
      refine xa_step (xa_iinc (ls' := [some (xR c0), some (xI c1), some (xI (w32 (v2 + 1))), some (xI x5)]) d_X12_qTold_162 xq_i_1 rfl (by decide) rfl) ?_
      refine xa_step (xa_goto d_X12_qTold_165) ?_
      exact xa_weak (ls' := [some (xR c0), some (xI c1), some (xI (w32 (v2 + 1))), none]) ⟨rfl, rfl, rfl, trivial⟩ (hb (w32 (v2 + 1)) r30)
  · exact xa_weak (ls' := [some (xR c0), none, none, none]) ⟨rfl, trivial⟩ (hx h)
theorem d_X12_qTold_168 : decode mX12_qTold.1 168 = .ok (.aload_n 0, 1) ∧ 168 + 1 = 169 := ⟨by decide +kernel, rfl⟩
theorem d_X12_qTold_169 : decode mX12_qTold.1 169 = .ok (.getfield 240, 3) ∧ 169 + 3 = 172 := ⟨by decide +kernel, rfl⟩
theorem d_X12_qTold_172 : decode mX12_qTold.1 172 = .ok (.iconst 0, 1) ∧ 172 + 1 = 173 := ⟨by decide +kernel, rfl⟩
theorem d_X12_qTold_173 : decode mX12_qTold.1 173 = .ok (.laload, 1) ∧ 173 + 1 = 174 := ⟨by decide +kernel, rfl⟩
theorem d_X12_qTold_174 : decode mX12_qTold.1 174 = .ok (.lreturn, 1) := by decide +kernel
set_option maxRecDepth 100000 in
set_option maxHeartbeats 4000000 in
theorem g_X12_qTold (l : Launch) (G : xa_C) (v0 v1 : Int) (h : xa_H) : xa_G l G 4 mX12_qTold (f_X12_qTold v0 v1 h) (fun r => some (some (xL r.1), r.2) : (Int × xa_H) → Option xa_O) 0 [some (xR v0), some (xI v1), none, none] [] h := by
  unfold f_X12_qTold
  refine xa_step (xa_aload_n d_X12_qTold_0 rfl) ?_
  refine xa_step (xa_iconst d_X12_qTold_1 xq_i_0) ?_
  refine xa_putf2 (tg := xI) xc_12 (by decide) (fun _ => rfl) rfl (fun c hc => xa_fitI c hc) xw_1408 rfl d_X12_qTold_2 (fun h1 _ => ?_)
  refine xa_step (xa_iconst d_X12_qTold_5 xq_i_0) ?_
  refine xa_step (xa_istore_n (ls' := [some (xR v0), some (xI v1), some (xI 0), none]) d_X12_qTold_6 (by decide) rfl) ?_
  refine xa_weak (ls' := [some (xR v0), some (xI v1), some (xI 0), none]) ⟨rfl, rfl, rfl, trivial⟩ ?_
  refine xa_loop (f := fun s => f_X12_qTold_L7 v0 v1 s.1 s.2) (L := fun s => [some (xR v0), some (xI v1), some (xI s.1), none]) (P := fun s => s.2) (X := (fun x K => xa_G l G 4 mX12_qTold (some (Sum.inr x)) K 168 [some (xR v0), none, none, none] [] x)) (fun K hb hX s => g_X12_qTold_L7 l G v0 v1 K (fun w0 hh => hb ((w0, hh))) (fun hh => hX hh) s.1 s.2) ?_ xFU ((0, h1))
  intro e31 K hK
  refine xa_eqE hK ?_
  show xa_G l G 4 mX12_qTold _ _ 168 [some (xR v0), none, none, none] [] e31
  refine xa_step (xa_aload_n d_X12_qTold_168 rfl) ?_
  refine xa_getf xR xc_12 (by decide) (fun _ => rfl) xw_1407 rfl d_X12_qTold_169 (fun x32 _ => ?_)
  refine xa_step (xa_iconst d_X12_qTold_172 xq_i_0) ?_
  refine xa_laload d_X12_qTold_173 (fun x33 _ => ?_)
  exact xa_lret d_X12_qTold_174 rfl rfl
theorem ct_X12_qTold (l : Launch) (G : xa_C) (v0 v1 : Int) (h : xa_H) (r : Int × xa_H) (hr : f_X12_qTold v0 v1 h = some r) : xa_CT l G 4 mX12_qTold yX12_qTold [xR v0, xI v1] h (some (xL r.1), r.2) :=
  xa_met (by decide +kernel) rfl (fun q => by first | rfl | cases q) (Nat.le_of_ble_eq_true rfl) rfl (g_X12_qTold l G v0 v1 h) (by rw [hr]; rfl)
abbrev mX12_ask : xa_M := (cX12_ask, 3, (some (.long)), RX12, false)
theorem d_X12_ask_0 : decode mX12_ask.1 0 = .ok (.aload_n 0, 1) ∧ 0 + 1 = 1 := ⟨by decide +kernel, rfl⟩
theorem d_X12_ask_1 : decode mX12_ask.1 1 = .ok (.aload_n 0, 1) ∧ 1 + 1 = 2 := ⟨by decide +kernel, rfl⟩
theorem d_X12_ask_2 : decode mX12_ask.1 2 = .ok (.getfield 246, 3) ∧ 2 + 3 = 5 := ⟨by decide +kernel, rfl⟩
theorem d_X12_ask_5 : decode mX12_ask.1 5 = .ok (.putfield 258, 3) ∧ 5 + 3 = 8 := ⟨by decide +kernel, rfl⟩
theorem d_X12_ask_8 : decode mX12_ask.1 8 = .ok (.aload_n 0, 1) ∧ 8 + 1 = 9 := ⟨by decide +kernel, rfl⟩
theorem d_X12_ask_9 : decode mX12_ask.1 9 = .ok (.iconst 0, 1) ∧ 9 + 1 = 10 := ⟨by decide +kernel, rfl⟩
theorem d_X12_ask_10 : decode mX12_ask.1 10 = .ok (.putfield 246, 3) ∧ 10 + 3 = 13 := ⟨by decide +kernel, rfl⟩
theorem d_X12_ask_13 : decode mX12_ask.1 13 = .ok (.aload_n 0, 1) ∧ 13 + 1 = 14 := ⟨by decide +kernel, rfl⟩
theorem d_X12_ask_14 : decode mX12_ask.1 14 = .ok (.iconst 0, 1) ∧ 14 + 1 = 15 := ⟨by decide +kernel, rfl⟩
theorem d_X12_ask_15 : decode mX12_ask.1 15 = .ok (.putfield 255, 3) ∧ 15 + 3 = 18 := ⟨by decide +kernel, rfl⟩
theorem d_X12_ask_18 : decode mX12_ask.1 18 = .ok (.aload_n 0, 1) ∧ 18 + 1 = 19 := ⟨by decide +kernel, rfl⟩
theorem d_X12_ask_19 : decode mX12_ask.1 19 = .ok (.iconst (-1), 1) ∧ 19 + 1 = 20 := ⟨by decide +kernel, rfl⟩
theorem d_X12_ask_20 : decode mX12_ask.1 20 = .ok (.putfield 269, 3) ∧ 20 + 3 = 23 := ⟨by decide +kernel, rfl⟩
theorem d_X12_ask_23 : decode mX12_ask.1 23 = .ok (.aload_n 0, 1) ∧ 23 + 1 = 24 := ⟨by decide +kernel, rfl⟩
theorem d_X12_ask_24 : decode mX12_ask.1 24 = .ok (.iconst 0, 1) ∧ 24 + 1 = 25 := ⟨by decide +kernel, rfl⟩
theorem d_X12_ask_25 : decode mX12_ask.1 25 = .ok (.putfield 249, 3) ∧ 25 + 3 = 28 := ⟨by decide +kernel, rfl⟩
theorem d_X12_ask_28 : decode mX12_ask.1 28 = .ok (.aload_n 0, 1) ∧ 28 + 1 = 29 := ⟨by decide +kernel, rfl⟩
theorem d_X12_ask_29 : decode mX12_ask.1 29 = .ok (.iconst (-1), 1) ∧ 29 + 1 = 30 := ⟨by decide +kernel, rfl⟩
theorem d_X12_ask_30 : decode mX12_ask.1 30 = .ok (.putfield 252, 3) ∧ 30 + 3 = 33 := ⟨by decide +kernel, rfl⟩
theorem d_X12_ask_33 : decode mX12_ask.1 33 = .ok (.aload_n 0, 1) ∧ 33 + 1 = 34 := ⟨by decide +kernel, rfl⟩
theorem d_X12_ask_34 : decode mX12_ask.1 34 = .ok (.iconst 0, 1) ∧ 34 + 1 = 35 := ⟨by decide +kernel, rfl⟩
theorem d_X12_ask_35 : decode mX12_ask.1 35 = .ok (.putfield 304, 3) ∧ 35 + 3 = 38 := ⟨by decide +kernel, rfl⟩
theorem d_X12_ask_38 : decode mX12_ask.1 38 = .ok (.aload_n 0, 1) ∧ 38 + 1 = 39 := ⟨by decide +kernel, rfl⟩
theorem d_X12_ask_39 : decode mX12_ask.1 39 = .ok (.iconst 0, 1) ∧ 39 + 1 = 40 := ⟨by decide +kernel, rfl⟩
theorem d_X12_ask_40 : decode mX12_ask.1 40 = .ok (.putfield 335, 3) ∧ 40 + 3 = 43 := ⟨by decide +kernel, rfl⟩
theorem d_X12_ask_43 : decode mX12_ask.1 43 = .ok (.aload_n 0, 1) ∧ 43 + 1 = 44 := ⟨by decide +kernel, rfl⟩
theorem d_X12_ask_44 : decode mX12_ask.1 44 = .ok (.iconst 0, 1) ∧ 44 + 1 = 45 := ⟨by decide +kernel, rfl⟩
theorem d_X12_ask_45 : decode mX12_ask.1 45 = .ok (.putfield 338, 3) ∧ 45 + 3 = 48 := ⟨by decide +kernel, rfl⟩
theorem d_X12_ask_48 : decode mX12_ask.1 48 = .ok (.aload_n 0, 1) ∧ 48 + 1 = 49 := ⟨by decide +kernel, rfl⟩
theorem d_X12_ask_49 : decode mX12_ask.1 49 = .ok (.iconst 0, 1) ∧ 49 + 1 = 50 := ⟨by decide +kernel, rfl⟩
theorem d_X12_ask_50 : decode mX12_ask.1 50 = .ok (.putfield 341, 3) ∧ 50 + 3 = 53 := ⟨by decide +kernel, rfl⟩
theorem d_X12_ask_53 : decode mX12_ask.1 53 = .ok (.aload_n 0, 1) ∧ 53 + 1 = 54 := ⟨by decide +kernel, rfl⟩
theorem d_X12_ask_54 : decode mX12_ask.1 54 = .ok (.iconst 0, 1) ∧ 54 + 1 = 55 := ⟨by decide +kernel, rfl⟩
theorem d_X12_ask_55 : decode mX12_ask.1 55 = .ok (.putfield 344, 3) ∧ 55 + 3 = 58 := ⟨by decide +kernel, rfl⟩
theorem d_X12_ask_58 : decode mX12_ask.1 58 = .ok (.aload_n 0, 1) ∧ 58 + 1 = 59 := ⟨by decide +kernel, rfl⟩
theorem d_X12_ask_59 : decode mX12_ask.1 59 = .ok (.invokevirtual 672, 3) ∧ 59 + 3 = 62 := ⟨by decide +kernel, rfl⟩
theorem d_X12_ask_62 : decode mX12_ask.1 62 = .ok (.istore_n 1, 1) ∧ 62 + 1 = 63 := ⟨by decide +kernel, rfl⟩
theorem d_X12_ask_63 : decode mX12_ask.1 63 = .ok (.aload_n 0, 1) ∧ 63 + 1 = 64 := ⟨by decide +kernel, rfl⟩
theorem d_X12_ask_64 : decode mX12_ask.1 64 = .ok (.getfield 249, 3) ∧ 64 + 3 = 67 := ⟨by decide +kernel, rfl⟩
theorem d_X12_ask_67 : decode mX12_ask.1 67 = .ok (.ifCond .ne 15, 3) ∧ 67 + 3 = 70 ∧ ((67 : Nat) : Int) + 15 = ((82 : Nat) : Int) := ⟨by decide +kernel, rfl, rfl⟩
theorem d_X12_ask_70 : decode mX12_ask.1 70 = .ok (.iload_n 1, 1) ∧ 70 + 1 = 71 := ⟨by decide +kernel, rfl⟩
theorem d_X12_ask_71 : decode mX12_ask.1 71 = .ok (.iconst 3, 1) ∧ 71 + 1 = 72 := ⟨by decide +kernel, rfl⟩
theorem d_X12_ask_72 : decode mX12_ask.1 72 = .ok (.if_icmp .ge 10, 3) ∧ 72 + 3 = 75 ∧ ((72 : Nat) : Int) + 10 = ((82 : Nat) : Int) := ⟨by decide +kernel, rfl, rfl⟩
theorem d_X12_ask_75 : decode mX12_ask.1 75 = .ok (.aload_n 0, 1) ∧ 75 + 1 = 76 := ⟨by decide +kernel, rfl⟩
theorem d_X12_ask_76 : decode mX12_ask.1 76 = .ok (.invokevirtual 347, 3) ∧ 76 + 3 = 79 := ⟨by decide +kernel, rfl⟩
theorem d_X12_ask_79 : decode mX12_ask.1 79 = .ok (.goto 14, 3) ∧ ((79 : Nat) : Int) + 14 = ((93 : Nat) : Int) := ⟨by decide +kernel, rfl⟩
theorem d_X12_ask_93 : decode mX12_ask.1 93 = .ok (.aload_n 0, 1) ∧ 93 + 1 = 94 := ⟨by decide +kernel, rfl⟩
theorem d_X12_ask_94 : decode mX12_ask.1 94 = .ok (.getfield 249, 3) ∧ 94 + 3 = 97 := ⟨by decide +kernel, rfl⟩
theorem d_X12_ask_97 : decode mX12_ask.1 97 = .ok (.ifCond .ne 20, 3) ∧ 97 + 3 = 100 ∧ ((97 : Nat) : Int) + 20 = ((117 : Nat) : Int) := ⟨by decide +kernel, rfl, rfl⟩
theorem d_X12_ask_100 : decode mX12_ask.1 100 = .ok (.aload_n 0, 1) ∧ 100 + 1 = 101 := ⟨by decide +kernel, rfl⟩
theorem d_X12_ask_101 : decode mX12_ask.1 101 = .ok (.invokevirtual 261, 3) ∧ 101 + 3 = 104 := ⟨by decide +kernel, rfl⟩
theorem d_X12_ask_104 : decode mX12_ask.1 104 = .ok (.iconst (-1), 1) ∧ 104 + 1 = 105 := ⟨by decide +kernel, rfl⟩
theorem d_X12_ask_105 : decode mX12_ask.1 105 = .ok (.if_icmp .eq 12, 3) ∧ 105 + 3 = 108 ∧ ((105 : Nat) : Int) + 12 = ((117 : Nat) : Int) := ⟨by decide +kernel, rfl, rfl⟩
theorem d_X12_ask_117 : decode mX12_ask.1 117 = .ok (.aload_n 0, 1) ∧ 117 + 1 = 118 := ⟨by decide +kernel, rfl⟩
theorem d_X12_ask_118 : decode mX12_ask.1 118 = .ok (.aload_n 0, 1) ∧ 118 + 1 = 119 := ⟨by decide +kernel, rfl⟩
theorem d_X12_ask_119 : decode mX12_ask.1 119 = .ok (.getfield 249, 3) ∧ 119 + 3 = 122 := ⟨by decide +kernel, rfl⟩
theorem d_X12_ask_122 : decode mX12_ask.1 122 = .ok (.putfield 384, 3) ∧ 122 + 3 = 125 := ⟨by decide +kernel, rfl⟩
theorem d_X12_ask_125 : decode mX12_ask.1 125 = .ok (.aload_n 0, 1) ∧ 125 + 1 = 126 := ⟨by decide +kernel, rfl⟩
theorem d_X12_ask_126 : decode mX12_ask.1 126 = .ok (.aload_n 0, 1) ∧ 126 + 1 = 127 := ⟨by decide +kernel, rfl⟩
theorem d_X12_ask_127 : decode mX12_ask.1 127 = .ok (.getfield 252, 3) ∧ 127 + 3 = 130 := ⟨by decide +kernel, rfl⟩
theorem d_X12_ask_130 : decode mX12_ask.1 130 = .ok (.putfield 13, 3) ∧ 130 + 3 = 133 := ⟨by decide +kernel, rfl⟩
theorem d_X12_ask_133 : decode mX12_ask.1 133 = .ok (.aload_n 0, 1) ∧ 133 + 1 = 134 := ⟨by decide +kernel, rfl⟩
theorem d_X12_ask_134 : decode mX12_ask.1 134 = .ok (.getfield 249, 3) ∧ 134 + 3 = 137 := ⟨by decide +kernel, rfl⟩
theorem d_X12_ask_137 : decode mX12_ask.1 137 = .ok (.ifCond .eq 7, 3) ∧ 137 + 3 = 140 ∧ ((137 : Nat) : Int) + 7 = ((144 : Nat) : Int) := ⟨by decide +kernel, rfl, rfl⟩
theorem d_X12_ask_144 : decode mX12_ask.1 144 = .ok (.aload_n 0, 1) ∧ 144 + 1 = 145 := ⟨by decide +kernel, rfl⟩
theorem d_X12_ask_145 : decode mX12_ask.1 145 = .ok (.iload_n 1, 1) ∧ 145 + 1 = 146 := ⟨by decide +kernel, rfl⟩
theorem d_X12_ask_146 : decode mX12_ask.1 146 = .ok (.iconst 2, 1) ∧ 146 + 1 = 147 := ⟨by decide +kernel, rfl⟩
theorem d_X12_ask_147 : decode mX12_ask.1 147 = .ok (.if_icmp .ge 9, 3) ∧ 147 + 3 = 150 ∧ ((147 : Nat) : Int) + 9 = ((156 : Nat) : Int) := ⟨by decide +kernel, rfl, rfl⟩
theorem d_X12_ask_150 : decode mX12_ask.1 150 = .ok (.ldc2_w 667, 3) ∧ 150 + 3 = 153 := ⟨by decide +kernel, rfl⟩
theorem d_X12_ask_153 : decode mX12_ask.1 153 = .ok (.goto 4, 3) ∧ ((153 : Nat) : Int) + 4 = ((157 : Nat) : Int) := ⟨by decide +kernel, rfl⟩
theorem d_X12_ask_157 : decode mX12_ask.1 157 = .ok (.putfield 664, 3) ∧ 157 + 3 = 160 := ⟨by decide +kernel, rfl⟩
theorem d_X12_ask_160 : decode mX12_ask.1 160 = .ok (.aload_n 0, 1) ∧ 160 + 1 = 161 := ⟨by decide +kernel, rfl⟩
theorem d_X12_ask_161 : decode mX12_ask.1 161 = .ok (.iconst 1, 1) ∧ 161 + 1 = 162 := ⟨by decide +kernel, rfl⟩
theorem d_X12_ask_162 : decode mX12_ask.1 162 = .ok (.putfield 669, 3) ∧ 162 + 3 = 165 := ⟨by decide +kernel, rfl⟩
theorem d_X12_ask_165 : decode mX12_ask.1 165 = .ok (.iconst 0, 1) ∧ 165 + 1 = 166 := ⟨by decide +kernel, rfl⟩
theorem d_X12_ask_166 : decode mX12_ask.1 166 = .ok (.istore_n 2, 1) ∧ 166 + 1 = 167 := ⟨by decide +kernel, rfl⟩
theorem d_X12_ask_167 : decode mX12_ask.1 167 = .ok (.iload_n 2, 1) ∧ 167 + 1 = 168 := ⟨by decide +kernel, rfl⟩
theorem d_X12_ask_168 : decode mX12_ask.1 168 = .ok (.aload_n 0, 1) ∧ 168 + 1 = 169 := ⟨by decide +kernel, rfl⟩
theorem d_X12_ask_169 : decode mX12_ask.1 169 = .ok (.invokevirtual 402, 3) ∧ 169 + 3 = 172 := ⟨by decide +kernel, rfl⟩
theorem d_X12_ask_172 : decode mX12_ask.1 172 = .ok (.if_icmp .ge 20, 3) ∧ 172 + 3 = 175 ∧ ((172 : Nat) : Int) + 20 = ((192 : Nat) : Int) := ⟨by decide +kernel, rfl, rfl⟩
theorem d_X12_ask_175 : decode mX12_ask.1 175 = .ok (.aload_n 0, 1) ∧ 175 + 1 = 176 := ⟨by decide +kernel, rfl⟩
theorem d_X12_ask_176 : decode mX12_ask.1 176 = .ok (.iload_n 1, 1) ∧ 176 + 1 = 177 := ⟨by decide +kernel, rfl⟩
theorem d_X12_ask_177 : decode mX12_ask.1 177 = .ok (.aload_n 0, 1) ∧ 177 + 1 = 178 := ⟨by decide +kernel, rfl⟩
theorem d_X12_ask_178 : decode mX12_ask.1 178 = .ok (.iload_n 2, 1) ∧ 178 + 1 = 179 := ⟨by decide +kernel, rfl⟩
theorem d_X12_ask_179 : decode mX12_ask.1 179 = .ok (.invokevirtual 677, 3) ∧ 179 + 3 = 182 := ⟨by decide +kernel, rfl⟩
theorem d_X12_ask_182 : decode mX12_ask.1 182 = .ok (.iload_n 2, 1) ∧ 182 + 1 = 183 := ⟨by decide +kernel, rfl⟩
theorem d_X12_ask_183 : decode mX12_ask.1 183 = .ok (.invokevirtual 681, 3) ∧ 183 + 3 = 186 := ⟨by decide +kernel, rfl⟩
theorem d_X12_ask_186 : decode mX12_ask.1 186 = .ok (.iinc 2 1, 3) ∧ 186 + 3 = 189 := ⟨by decide +kernel, rfl⟩
theorem d_X12_ask_189 : decode mX12_ask.1 189 = .ok (.goto (-22), 3) ∧ ((189 : Nat) : Int) + (-22) = ((167 : Nat) : Int) := ⟨by decide +kernel, rfl⟩
set_option maxRecDepth 100000 in
set_option maxHeartbeats 4000000 in
theorem g_X12_ask_L167 (l : Launch) (G : xa_C) (c0 c1 : Int) (K : (Int × xa_H) ⊕ (xa_H) → Option xa_O) (hb : ∀ (v2 : Int) (h : xa_H), xa_G l G 11 mX12_ask (some (Sum.inl ((v2, h)))) K 167 [some (xR c0), some (xI c1), some (xI v2)] [] h) (hx : ∀ (h : xa_H), xa_G l G 11 mX12_ask (some (Sum.inr h)) K 192 [some (xR c0), none, none] [] h) : ∀ (v2 : Int) (h : xa_H), xa_G l G 11 mX12_ask (f_X12_ask_L167 c0 c1 v2 h) K 167 [some (xR c0), some (xI c1), some (xI v2)] [] h := by
  intro v2 h
  unfold f_X12_ask_L167
  refine xa_step (xa_iload_n d_X12_ask_167 rfl) ?_
  refine xa_step (xa_aload_n d_X12_ask_168 rfl) ?_
  refine xa_callVi (as := []) (st := [xI v2]) (M' := mX12_holderMany) (d' := 2) rfl xw_1836 xw_1838 xw_108 xw_1839 xw_177 xh_X12_holderMany rfl ⟨Nat.le_of_ble_eq_true rfl, Nat.le_of_ble_eq_true rfl⟩ (Nat.le_of_ble_eq_true rfl) rfl d_X12_ask_169 (fun r hr => ct_X12_holderMany l G c0 h r hr) (fun r31 _ => ?_)
  refine xa_if (xa_icmpge d_X12_ask_172) (fun q32 => ?_) (fun q32 => ?_)
  · refine xa_step (xa_aload_n d_X12_ask_175 rfl) ?_
    refine xa_step (xa_iload_n d_X12_ask_176 rfl) ?_
    refine xa_step (xa_aload_n d_X12_ask_177 rfl) ?_
    refine xa_step (xa_iload_n d_X12_ask_178 rfl) ?_
    refine xa_callVL (as := [xI v2]) (st := [xI c1, xR c0]) (M' := mX12_qTold) (d' := 4) rfl xw_2135 xw_2137 xw_153 xw_2138 xw_177 xh_X12_qTold rfl ⟨Nat.le_of_ble_eq_true rfl, Nat.le_of_ble_eq_true rfl⟩ (Nat.le_of_ble_eq_true rfl) rfl d_X12_ask_179 (fun r hr => ct_X12_qTold l G c0 v2 h r hr) (fun r33 _ => ?_)
    refine xa_step (xa_iload_n d_X12_ask_182 rfl) ?_
    refine xa_callVV (as := [xI c1, xL r33.1, xI v2]) (st := []) (M' := mX12_qTakes) (d' := 2) rfl xw_2143 xw_2145 xw_155 xw_2146 xw_177 xh_X12_qTakes rfl ⟨Nat.le_of_ble_eq_true rfl, Nat.le_of_ble_eq_true rfl⟩ (Nat.le_of_ble_eq_true rfl) rfl d_X12_ask_183 (fun r hr => ct_X12_qTakes l G c0 c1 r33.1 v2 r33.2 r hr) (fun r34 _ => ?_)
    refine xa_step (xa_iinc (ls' := [some (xR c0), some (xI c1), some (xI (w32 (v2 + 1)))]) d_X12_ask_186 xq_i_1 rfl (by decide) rfl) ?_
    refine xa_step (xa_goto d_X12_ask_189) ?_
    exact xa_weak (ls' := [some (xR c0), some (xI c1), some (xI (w32 (v2 + 1)))]) ⟨rfl, rfl, rfl, trivial⟩ (hb (w32 (v2 + 1)) r34)
  · exact xa_weak (ls' := [some (xR c0), none, none]) ⟨rfl, trivial⟩ (hx h)
theorem d_X12_ask_192 : decode mX12_ask.1 192 = .ok (.aload_n 0, 1) ∧ 192 + 1 = 193 := ⟨by decide +kernel, rfl⟩
theorem d_X12_ask_193 : decode mX12_ask.1 193 = .ok (.getfield 664, 3) ∧ 193 + 3 = 196 := ⟨by decide +kernel, rfl⟩
theorem d_X12_ask_196 : decode mX12_ask.1 196 = .ok (.lreturn, 1) := by decide +kernel
set_option maxRecDepth 100000 in
set_option maxHeartbeats 4000000 in
theorem g_X12_ask_J157 (l : Launch) (G : xa_C) : ∀ (v0 v1 s0 s1 : Int) (h : xa_H) , xa_G l G 11 mX12_ask (f_X12_ask_J157 v0 v1 s0 s1 h) (fun r => some (some (xL r.1), r.2) : (Int × xa_H) → Option xa_O) 157 [some (xR v0), some (xI v1), none] [xL s1, xR s0] h := by
  intro v0 v1 s0 s1 h
  unfold f_X12_ask_J157
  refine xa_putf2 (tg := xL) xc_12 (by decide) (fun _ => rfl) rfl (fun c hc => xa_fitL c hc) xw_1409 rfl d_X12_ask_157 (fun h29 _ => ?_)
  refine xa_step (xa_aload_n d_X12_ask_160 rfl) ?_
  refine xa_step (xa_iconst d_X12_ask_161 xq_i_1) ?_
  refine xa_putf2 (tg := xI) xc_12 (by decide) (fun _ => rfl) rfl (fun c hc => (xa_fitZ (Or.inr rfl)) c hc) xw_1410 rfl d_X12_ask_162 (fun h30 _ => ?_)
  refine xa_step (xa_iconst d_X12_ask_165 xq_i_0) ?_
  refine xa_step (xa_istore_n (ls' := [some (xR v0), some (xI v1), some (xI 0)]) d_X12_ask_166 (by decide) rfl) ?_
  refine xa_weak (ls' := [some (xR v0), some (xI v1), some (xI 0)]) ⟨rfl, rfl, rfl, trivial⟩ ?_
  refine xa_loop (f := fun s => f_X12_ask_L167 v0 v1 s.1 s.2) (L := fun s => [some (xR v0), some (xI v1), some (xI s.1)]) (P := fun s => s.2) (X := (fun x K => xa_G l G 11 mX12_ask (some (Sum.inr x)) K 192 [some (xR v0), none, none] [] x)) (fun K hb hX s => g_X12_ask_L167 l G v0 v1 K (fun w0 hh => hb ((w0, hh))) (fun hh => hX hh) s.1 s.2) ?_ xFU ((0, h30))
  intro e35 K hK
  refine xa_eqE hK ?_
  show xa_G l G 11 mX12_ask _ _ 192 [some (xR v0), none, none] [] e35
  refine xa_step (xa_aload_n d_X12_ask_192 rfl) ?_
  refine xa_getf xL xc_12 (by decide) (fun _ => rfl) xw_1409 rfl d_X12_ask_193 (fun x36 _ => ?_)
  exact xa_lret d_X12_ask_196 rfl rfl
theorem d_X12_ask_156 : decode mX12_ask.1 156 = .ok (.lconst 0, 1) ∧ 156 + 1 = 157 := ⟨by decide +kernel, rfl⟩
theorem d_X12_ask_140 : decode mX12_ask.1 140 = .ok (.ldc2_w 675, 3) ∧ 140 + 3 = 143 := ⟨by decide +kernel, rfl⟩
theorem d_X12_ask_143 : decode mX12_ask.1 143 = .ok (.lreturn, 1) := by decide +kernel
set_option maxRecDepth 100000 in
set_option maxHeartbeats 4000000 in
theorem g_X12_ask_J117 (l : Launch) (G : xa_C) : ∀ (v0 v1 : Int) (h : xa_H) , xa_G l G 11 mX12_ask (f_X12_ask_J117 v0 v1 h) (fun r => some (some (xL r.1), r.2) : (Int × xa_H) → Option xa_O) 117 [some (xR v0), some (xI v1), none] [] h := by
  intro v0 v1 h
  unfold f_X12_ask_J117
  refine xa_step (xa_aload_n d_X12_ask_117 rfl) ?_
  refine xa_step (xa_aload_n d_X12_ask_118 rfl) ?_
  refine xa_getf xI xc_12 (by decide) (fun _ => rfl) xw_1309 rfl d_X12_ask_119 (fun x22 _ => ?_)
  refine xa_putf2 (tg := xI) xc_12 (by decide) (fun _ => rfl) rfl (fun c hc => xa_fitI c hc) xw_1311 rfl d_X12_ask_122 (fun h23 _ => ?_)
  refine xa_step (xa_aload_n d_X12_ask_125 rfl) ?_
  refine xa_step (xa_aload_n d_X12_ask_126 rfl) ?_
  refine xa_getf xI xc_12 (by decide) (fun _ => rfl) xw_1310 rfl d_X12_ask_127 (fun x24 _ => ?_)
  refine xa_putf2 (tg := xI) xc_12 (by decide) (fun _ => rfl) rfl (fun c hc => xa_fitI c hc) xw_1312 rfl d_X12_ask_130 (fun h25 _ => ?_)
  refine xa_step (xa_aload_n d_X12_ask_133 rfl) ?_
  refine xa_getf xI xc_12 (by decide) (fun _ => rfl) xw_1309 rfl d_X12_ask_134 (fun x26 _ => ?_)
  refine xa_if (xa_ifeq d_X12_ask_137) (fun q27 => ?_) (fun q27 => ?_)
  · refine xa_step (xa_aload_n d_X12_ask_144 rfl) ?_
    refine xa_step (xa_iload_n d_X12_ask_145 rfl) ?_
    refine xa_step (xa_iconst d_X12_ask_146 xq_i_2) ?_
    refine xa_if (xa_icmpge d_X12_ask_147) (fun q28 => ?_) (fun q28 => ?_)
    · refine xa_step (xa_ldc2 (c64 := (-1)) (v := (-1)) (by decide +kernel) xw_2134 d_X12_ask_150) ?_
      refine xa_step (xa_goto d_X12_ask_153) ?_
      exact xa_weak (ls' := [some (xR v0), some (xI v1), none]) ⟨rfl, rfl, trivial⟩ (g_X12_ask_J157 l G v0 v1 v0 ((-1)) h25)
    · refine xa_step (xa_lconst d_X12_ask_156 rfl) ?_
      exact xa_weak (ls' := [some (xR v0), some (xI v1), none]) ⟨rfl, rfl, trivial⟩ (g_X12_ask_J157 l G v0 v1 v0 0 h25)
  · refine xa_step (xa_ldc2 (c64 := (-1000000000000000)) (v := (-1000000000000000)) (by decide +kernel) xw_2133 d_X12_ask_140) ?_
    exact xa_lret d_X12_ask_143 rfl rfl
theorem d_X12_ask_108 : decode mX12_ask.1 108 = .ok (.aload_n 0, 1) ∧ 108 + 1 = 109 := ⟨by decide +kernel, rfl⟩
theorem d_X12_ask_109 : decode mX12_ask.1 109 = .ok (.iconst 1, 1) ∧ 109 + 1 = 110 := ⟨by decide +kernel, rfl⟩
theorem d_X12_ask_110 : decode mX12_ask.1 110 = .ok (.aload_n 0, 1) ∧ 110 + 1 = 111 := ⟨by decide +kernel, rfl⟩
theorem d_X12_ask_111 : decode mX12_ask.1 111 = .ok (.getfield 255, 3) ∧ 111 + 3 = 114 := ⟨by decide +kernel, rfl⟩
theorem d_X12_ask_114 : decode mX12_ask.1 114 = .ok (.invokevirtual 279, 3) ∧ 114 + 3 = 117 := ⟨by decide +kernel, rfl⟩
set_option maxRecDepth 100000 in
set_option maxHeartbeats 4000000 in
theorem g_X12_ask_J93 (l : Launch) (G : xa_C) : ∀ (v0 v1 : Int) (h : xa_H) , xa_G l G 11 mX12_ask (f_X12_ask_J93 v0 v1 h) (fun r => some (some (xL r.1), r.2) : (Int × xa_H) → Option xa_O) 93 [some (xR v0), some (xI v1), none] [] h := by
  intro v0 v1 h
  unfold f_X12_ask_J93
  refine xa_step (xa_aload_n d_X12_ask_93 rfl) ?_
  refine xa_getf xI xc_12 (by decide) (fun _ => rfl) xw_1309 rfl d_X12_ask_94 (fun x18 _ => ?_)
  refine xa_if (xa_ifne d_X12_ask_97) (fun q19 => ?_) (fun q19 => ?_)
  · refine xa_step (xa_aload_n d_X12_ask_100 rfl) ?_
    refine xa_callVI (as := []) (st := []) (M' := mX12_look) (d' := 2) rfl xw_1646 xw_1648 xw_66 xw_1649 xw_177 xh_X12_look rfl ⟨Nat.le_of_ble_eq_true rfl, Nat.le_of_ble_eq_true rfl⟩ (Nat.le_of_ble_eq_true rfl) rfl d_X12_ask_101 (fun r hr => ct_X12_look l G v0 h r hr) (fun r20 _ => ?_)
    refine xa_step (xa_iconst d_X12_ask_104 xq_i_m1) ?_
    refine xa_if (xa_icmpeq d_X12_ask_105) (fun q21 => ?_) (fun q21 => ?_)
    · exact xa_weak (ls' := [some (xR v0), some (xI v1), none]) ⟨rfl, rfl, trivial⟩ (g_X12_ask_J117 l G v0 v1 r20.2)
    · refine xa_step (xa_aload_n d_X12_ask_108 rfl) ?_
      refine xa_step (xa_iconst d_X12_ask_109 xq_i_1) ?_
      refine xa_step (xa_aload_n d_X12_ask_110 rfl) ?_
      refine xa_getf xI xc_12 (by decide) (fun _ => rfl) xw_1306 rfl d_X12_ask_111 (fun x37 _ => ?_)
      refine xa_callVV (as := [xI 1, xI x37]) (st := []) (M' := mX12_fail) (d' := 2) rfl xw_1654 xw_1656 xw_68 xw_1657 xw_177 xh_X12_fail rfl ⟨Nat.le_of_ble_eq_true rfl, Nat.le_of_ble_eq_true rfl⟩ (Nat.le_of_ble_eq_true rfl) rfl d_X12_ask_114 (fun r hr => ct_X12_fail l G v0 1 x37 r20.2 r hr) (fun r38 _ => ?_)
      exact xa_weak (ls' := [some (xR v0), some (xI v1), none]) ⟨rfl, rfl, trivial⟩ (g_X12_ask_J117 l G v0 v1 r38)
  · exact xa_weak (ls' := [some (xR v0), some (xI v1), none]) ⟨rfl, rfl, trivial⟩ (g_X12_ask_J117 l G v0 v1 h)
theorem d_X12_ask_82 : decode mX12_ask.1 82 = .ok (.aload_n 0, 1) ∧ 82 + 1 = 83 := ⟨by decide +kernel, rfl⟩
theorem d_X12_ask_83 : decode mX12_ask.1 83 = .ok (.getfield 249, 3) ∧ 83 + 3 = 86 := ⟨by decide +kernel, rfl⟩
theorem d_X12_ask_86 : decode mX12_ask.1 86 = .ok (.ifCond .ne 7, 3) ∧ 86 + 3 = 89 ∧ ((86 : Nat) : Int) + 7 = ((93 : Nat) : Int) := ⟨by decide +kernel, rfl, rfl⟩
theorem d_X12_ask_89 : decode mX12_ask.1 89 = .ok (.aload_n 0, 1) ∧ 89 + 1 = 90 := ⟨by decide +kernel, rfl⟩
theorem d_X12_ask_90 : decode mX12_ask.1 90 = .ok (.invokevirtual 350, 3) ∧ 90 + 3 = 93 := ⟨by decide +kernel, rfl⟩
set_option maxRecDepth 100000 in
set_option maxHeartbeats 4000000 in
theorem g_X12_ask_J82 (l : Launch) (G : xa_C) : ∀ (v0 v1 : Int) (h : xa_H) , xa_G l G 11 mX12_ask (f_X12_ask_J82 v0 v1 h) (fun r => some (some (xL r.1), r.2) : (Int × xa_H) → Option xa_O) 82 [some (xR v0), some (xI v1), none] [] h := by
  intro v0 v1 h
  unfold f_X12_ask_J82
  refine xa_step (xa_aload_n d_X12_ask_82 rfl) ?_
  refine xa_getf xI xc_12 (by decide) (fun _ => rfl) xw_1309 rfl d_X12_ask_83 (fun x39 _ => ?_)
  refine xa_if (xa_ifne d_X12_ask_86) (fun q40 => ?_) (fun q40 => ?_)
  · refine xa_step (xa_aload_n d_X12_ask_89 rfl) ?_
    refine xa_callVV (as := []) (st := []) (M' := mX12_qSums) (d' := 8) rfl xw_1749 xw_1751 xw_89 xw_1752 xw_177 xh_X12_qSums rfl ⟨Nat.le_of_ble_eq_true rfl, Nat.le_of_ble_eq_true rfl⟩ (Nat.le_of_ble_eq_true rfl) rfl d_X12_ask_90 (fun r hr => ct_X12_qSums l G v0 h r hr) (fun r41 _ => ?_)
    exact xa_weak (ls' := [some (xR v0), some (xI v1), none]) ⟨rfl, rfl, trivial⟩ (g_X12_ask_J93 l G v0 v1 r41)
  · exact xa_weak (ls' := [some (xR v0), some (xI v1), none]) ⟨rfl, rfl, trivial⟩ (g_X12_ask_J93 l G v0 v1 h)
set_option maxRecDepth 100000 in
set_option maxHeartbeats 4000000 in
theorem g_X12_ask (l : Launch) (G : xa_C) (v0 : Int) (h : xa_H) : xa_G l G 11 mX12_ask (f_X12_ask v0 h) (fun r => some (some (xL r.1), r.2) : (Int × xa_H) → Option xa_O) 0 [some (xR v0), none, none] [] h := by
  unfold f_X12_ask
  refine xa_step (xa_aload_n d_X12_ask_0 rfl) ?_
  refine xa_step (xa_aload_n d_X12_ask_1 rfl) ?_
  refine xa_getf xI xc_12 (by decide) (fun _ => rfl) xw_1305 rfl d_X12_ask_2 (fun x1 _ => ?_)
  refine xa_putf2 (tg := xI) xc_12 (by decide) (fun _ => rfl) rfl (fun c hc => xa_fitI c hc) xw_1307 rfl d_X12_ask_5 (fun h2 _ => ?_)
  refine xa_step (xa_aload_n d_X12_ask_8 rfl) ?_
  refine xa_step (xa_iconst d_X12_ask_9 xq_i_0) ?_
  refine xa_putf2 (tg := xI) xc_12 (by decide) (fun _ => rfl) rfl (fun c hc => xa_fitI c hc) xw_1305 rfl d_X12_ask_10 (fun h3 _ => ?_)
  refine xa_step (xa_aload_n d_X12_ask_13 rfl) ?_
  refine xa_step (xa_iconst d_X12_ask_14 xq_i_0) ?_
  refine xa_putf2 (tg := xI) xc_12 (by decide) (fun _ => rfl) rfl (fun c hc => xa_fitI c hc) xw_1306 rfl d_X12_ask_15 (fun h4 _ => ?_)
  refine xa_step (xa_aload_n d_X12_ask_18 rfl) ?_
  refine xa_step (xa_iconst d_X12_ask_19 xq_i_m1) ?_
  refine xa_putf2 (tg := xI) xc_12 (by decide) (fun _ => rfl) rfl (fun c hc => xa_fitI c hc) xw_1308 rfl d_X12_ask_20 (fun h5 _ => ?_)
  refine xa_step (xa_aload_n d_X12_ask_23 rfl) ?_
  refine xa_step (xa_iconst d_X12_ask_24 xq_i_0) ?_
  refine xa_putf2 (tg := xI) xc_12 (by decide) (fun _ => rfl) rfl (fun c hc => xa_fitI c hc) xw_1309 rfl d_X12_ask_25 (fun h6 _ => ?_)
  refine xa_step (xa_aload_n d_X12_ask_28 rfl) ?_
  refine xa_step (xa_iconst d_X12_ask_29 xq_i_m1) ?_
  refine xa_putf2 (tg := xI) xc_12 (by decide) (fun _ => rfl) rfl (fun c hc => xa_fitI c hc) xw_1310 rfl d_X12_ask_30 (fun h7 _ => ?_)
  refine xa_step (xa_aload_n d_X12_ask_33 rfl) ?_
  refine xa_step (xa_iconst d_X12_ask_34 xq_i_0) ?_
  refine xa_putf2 (tg := xI) xc_12 (by decide) (fun _ => rfl) rfl (fun c hc => (xa_fitZ (Or.inl rfl)) c hc) xw_1353 rfl d_X12_ask_35 (fun h8 _ => ?_)
  refine xa_step (xa_aload_n d_X12_ask_38 rfl) ?_
  refine xa_step (xa_iconst d_X12_ask_39 xq_i_0) ?_
  refine xa_putf2 (tg := xI) xc_12 (by decide) (fun _ => rfl) rfl (fun c hc => xa_fitI c hc) xw_1402 rfl d_X12_ask_40 (fun h9 _ => ?_)
  refine xa_step (xa_aload_n d_X12_ask_43 rfl) ?_
  refine xa_step (xa_iconst d_X12_ask_44 xq_i_0) ?_
  refine xa_putf2 (tg := xI) xc_12 (by decide) (fun _ => rfl) rfl (fun c hc => xa_fitI c hc) xw_1404 rfl d_X12_ask_45 (fun h10 _ => ?_)
  refine xa_step (xa_aload_n d_X12_ask_48 rfl) ?_
  refine xa_step (xa_iconst d_X12_ask_49 xq_i_0) ?_
  refine xa_putf2 (tg := xI) xc_12 (by decide) (fun _ => rfl) rfl (fun c hc => xa_fitI c hc) xw_1405 rfl d_X12_ask_50 (fun h11 _ => ?_)
  refine xa_step (xa_aload_n d_X12_ask_53 rfl) ?_
  refine xa_step (xa_iconst d_X12_ask_54 xq_i_0) ?_
  refine xa_putf2 (tg := xI) xc_12 (by decide) (fun _ => rfl) rfl (fun c hc => xa_fitI c hc) xw_1406 rfl d_X12_ask_55 (fun h12 _ => ?_)
  refine xa_step (xa_aload_n d_X12_ask_58 rfl) ?_
  refine xa_callVI (as := []) (st := []) (M' := mX12_qKind) (d' := 6) rfl xw_2129 xw_2131 xw_152 xw_2132 xw_177 xh_X12_qKind rfl ⟨Nat.le_of_ble_eq_true rfl, Nat.le_of_ble_eq_true rfl⟩ (Nat.le_of_ble_eq_true rfl) rfl d_X12_ask_59 (fun r hr => ct_X12_qKind l G v0 h12 r hr) (fun r13 _ => ?_)
  refine xa_step (xa_istore_n (ls' := [some (xR v0), some (xI r13.1), none]) d_X12_ask_62 (by decide) rfl) ?_
  refine xa_step (xa_aload_n d_X12_ask_63 rfl) ?_
  refine xa_getf xI xc_12 (by decide) (fun _ => rfl) xw_1309 rfl d_X12_ask_64 (fun x14 _ => ?_)
  refine xa_if (xa_ifne d_X12_ask_67) (fun q15 => ?_) (fun q15 => ?_)
  · refine xa_step (xa_iload_n d_X12_ask_70 rfl) ?_
    refine xa_step (xa_iconst d_X12_ask_71 xq_i_3) ?_
    refine xa_if (xa_icmpge d_X12_ask_72) (fun q16 => ?_) (fun q16 => ?_)
    · refine xa_step (xa_aload_n d_X12_ask_75 rfl) ?_
      refine xa_callVV (as := []) (st := []) (M' := mX12_qTest) (d' := 10) rfl xw_1733 xw_1735 xw_85 xw_1736 xw_177 xh_X12_qTest rfl ⟨Nat.le_of_ble_eq_true rfl, Nat.le_of_ble_eq_true rfl⟩ (Nat.le_of_ble_eq_true rfl) rfl d_X12_ask_76 (fun r hr => ct_X12_qTest l G v0 r13.2 r hr) (fun r17 _ => ?_)
      refine xa_step (xa_goto d_X12_ask_79) ?_
      exact xa_weak (ls' := [some (xR v0), some (xI r13.1), none]) ⟨rfl, rfl, trivial⟩ (g_X12_ask_J93 l G v0 r13.1 r17)
    · exact xa_weak (ls' := [some (xR v0), some (xI r13.1), none]) ⟨rfl, rfl, trivial⟩ (g_X12_ask_J82 l G v0 r13.1 r13.2)
  · exact xa_weak (ls' := [some (xR v0), some (xI r13.1), none]) ⟨rfl, rfl, trivial⟩ (g_X12_ask_J82 l G v0 r13.1 r13.2)
theorem ct_X12_ask (l : Launch) (G : xa_C) (v0 : Int) (h : xa_H) (r : Int × xa_H) (hr : f_X12_ask v0 h = some r) : xa_CT l G 11 mX12_ask yX12_ask [xR v0] h (some (xL r.1), r.2) :=
  xa_met (by decide +kernel) rfl (fun q => by first | rfl | cases q) (Nat.le_of_ble_eq_true rfl) rfl (g_X12_ask l G v0 h) (by rw [hr]; rfl)
abbrev mX12_heldMany : xa_M := (cX12_heldMany, 1, (some (.int)), RX12, false)
theorem d_X12_heldMany_0 : decode mX12_heldMany.1 0 = .ok (.aload_n 0, 1) ∧ 0 + 1 = 1 := ⟨by decide +kernel, rfl⟩
theorem d_X12_heldMany_1 : decode mX12_heldMany.1 1 = .ok (.getfield 90, 3) ∧ 1 + 3 = 4 := ⟨by decide +kernel, rfl⟩
theorem d_X12_heldMany_4 : decode mX12_heldMany.1 4 = .ok (.iconst 3, 1) ∧ 4 + 1 = 5 := ⟨by decide +kernel, rfl⟩
theorem d_X12_heldMany_5 : decode mX12_heldMany.1 5 = .ok (.iaload, 1) ∧ 5 + 1 = 6 := ⟨by decide +kernel, rfl⟩
theorem d_X12_heldMany_6 : decode mX12_heldMany.1 6 = .ok (.ireturn, 1) := by decide +kernel
set_option maxRecDepth 100000 in
set_option maxHeartbeats 4000000 in
theorem g_X12_heldMany (l : Launch) (G : xa_C) (v0 : Int) (h : xa_H) : xa_G l G 2 mX12_heldMany (f_X12_heldMany v0 h) (fun r => some (some (xI r), h) : Int → Option xa_O) 0 [some (xR v0)] [] h := by
  unfold f_X12_heldMany
  refine xa_step (xa_aload_n d_X12_heldMany_0 rfl) ?_
  refine xa_getf xR xc_12 (by decide) (fun _ => rfl) xw_1338 rfl d_X12_heldMany_1 (fun x1 _ => ?_)
  refine xa_step (xa_iconst d_X12_heldMany_4 xq_i_3) ?_
  refine xa_iaload d_X12_heldMany_5 (fun x2 _ => ?_)
  exact xa_iret d_X12_heldMany_6 rfl rfl
theorem ct_X12_heldMany (l : Launch) (G : xa_C) (v0 : Int) (h : xa_H) (r : Int) (hr : f_X12_heldMany v0 h = some r) : xa_CT l G 2 mX12_heldMany yX12_heldMany [xR v0] h (some (xI r), h) :=
  xa_met (by decide +kernel) rfl (fun q => by first | rfl | cases q) (Nat.le_of_ble_eq_true rfl) rfl (g_X12_heldMany l G v0 h) (by rw [hr]; rfl)
abbrev mX12_isHolder : xa_M := (cX12_isHolder, 2, (some (.boolean)), RX12, false)
theorem d_X12_isHolder_0 : decode mX12_isHolder.1 0 = .ok (.iload_n 1, 1) ∧ 0 + 1 = 1 := ⟨by decide +kernel, rfl⟩
theorem d_X12_isHolder_1 : decode mX12_isHolder.1 1 = .ok (.i2l, 1) ∧ 1 + 1 = 2 := ⟨by decide +kernel, rfl⟩
theorem d_X12_isHolder_2 : decode mX12_isHolder.1 2 = .ok (.lconst 0, 1) ∧ 2 + 1 = 3 := ⟨by decide +kernel, rfl⟩
theorem d_X12_isHolder_3 : decode mX12_isHolder.1 3 = .ok (.aload_n 0, 1) ∧ 3 + 1 = 4 := ⟨by decide +kernel, rfl⟩
theorem d_X12_isHolder_4 : decode mX12_isHolder.1 4 = .ok (.invokevirtual 402, 3) ∧ 4 + 3 = 7 := ⟨by decide +kernel, rfl⟩
theorem d_X12_isHolder_7 : decode mX12_isHolder.1 7 = .ok (.iconst 1, 1) ∧ 7 + 1 = 8 := ⟨by decide +kernel, rfl⟩
theorem d_X12_isHolder_8 : decode mX12_isHolder.1 8 = .ok (.isub, 1) ∧ 8 + 1 = 9 := ⟨by decide +kernel, rfl⟩
theorem d_X12_isHolder_9 : decode mX12_isHolder.1 9 = .ok (.i2l, 1) ∧ 9 + 1 = 10 := ⟨by decide +kernel, rfl⟩
theorem d_X12_isHolder_10 : decode mX12_isHolder.1 10 = .ok (.invokestatic 289, 3) ∧ 10 + 3 = 13 := ⟨by decide +kernel, rfl⟩
theorem d_X12_isHolder_13 : decode mX12_isHolder.1 13 = .ok (.ireturn, 1) := by decide +kernel
set_option maxRecDepth 100000 in
set_option maxHeartbeats 4000000 in
theorem g_X12_isHolder (l : Launch) (G : xa_C) (v0 v1 : Int) (h : xa_H) : xa_G l G 3 mX12_isHolder (f_X12_isHolder v0 v1 h) (fun r => some (some (xI r), h) : Int → Option xa_O) 0 [some (xR v0), some (xI v1)] [] h := by
  unfold f_X12_isHolder
  refine xa_step (xa_iload_n d_X12_isHolder_0 rfl) ?_
  refine xa_step (xa_i2l d_X12_isHolder_1) ?_
  refine xa_step (xa_lconst d_X12_isHolder_2 rfl) ?_
  refine xa_step (xa_aload_n d_X12_isHolder_3 rfl) ?_
  refine xa_callVi (as := []) (st := [xL 0, xL v1]) (M' := mX12_holderMany) (d' := 2) rfl xw_1836 xw_1838 xw_108 xw_1839 xw_177 xh_X12_holderMany rfl ⟨Nat.le_of_ble_eq_true rfl, Nat.le_of_ble_eq_true rfl⟩ (Nat.le_of_ble_eq_true rfl) rfl d_X12_isHolder_4 (fun r hr => ct_X12_holderMany l G v0 h r hr) (fun r1 _ => ?_)
  refine xa_step (xa_iconst d_X12_isHolder_7 xq_i_1) ?_
  refine xa_step (xa_isub d_X12_isHolder_8) ?_
  refine xa_step (xa_i2l d_X12_isHolder_9) ?_
  refine xa_callSi (as := [xL v1, xL 0, xL (w32 (r1 - 1))]) (st := []) (M' := mX12_isIn) (d' := 2) xw_1706 xw_1707 xw_1708 xw_177 xh_X12_isIn rfl ⟨Nat.le_of_ble_eq_true rfl, Nat.le_of_ble_eq_true rfl⟩ (Nat.le_of_ble_eq_true rfl) rfl d_X12_isHolder_10 (fun r hr => ct_X12_isIn l G v1 0 (w32 (r1 - 1)) h r hr) (fun r2 _ => ?_)
  refine xa_bo (fun q3 => ?_)
  exact xa_zret d_X12_isHolder_13 rfl q3 rfl
theorem ct_X12_isHolder (l : Launch) (G : xa_C) (v0 v1 : Int) (h : xa_H) (r : Int) (hr : f_X12_isHolder v0 v1 h = some r) : xa_CT l G 3 mX12_isHolder yX12_isHolder [xR v0, xI v1] h (some (xI r), h) :=
  xa_met (by decide +kernel) rfl (fun q => by first | rfl | cases q) (Nat.le_of_ble_eq_true rfl) rfl (g_X12_isHolder l G v0 v1 h) (by rw [hr]; rfl)
abbrev mX12_isWay : xa_M := (cX12_isWay, 5, (some (.boolean)), RX12, false)
theorem d_X12_isWay_0 : decode mX12_isWay.1 0 = .ok (.iload_n 1, 1) ∧ 0 + 1 = 1 := ⟨by decide +kernel, rfl⟩
theorem d_X12_isWay_1 : decode mX12_isWay.1 1 = .ok (.istore_n 2, 1) ∧ 1 + 1 = 2 := ⟨by decide +kernel, rfl⟩
theorem d_X12_isWay_2 : decode mX12_isWay.1 2 = .ok (.iconst 0, 1) ∧ 2 + 1 = 3 := ⟨by decide +kernel, rfl⟩
theorem d_X12_isWay_3 : decode mX12_isWay.1 3 = .ok (.istore_n 3, 1) ∧ 3 + 1 = 4 := ⟨by decide +kernel, rfl⟩
theorem d_X12_isWay_4 : decode mX12_isWay.1 4 = .ok (.iconst 0, 1) ∧ 4 + 1 = 5 := ⟨by decide +kernel, rfl⟩
theorem d_X12_isWay_5 : decode mX12_isWay.1 5 = .ok (.istore 4, 2) ∧ 5 + 2 = 7 := ⟨by decide +kernel, rfl⟩
theorem d_X12_isWay_7 : decode mX12_isWay.1 7 = .ok (.iload 4, 2) ∧ 7 + 2 = 9 := ⟨by decide +kernel, rfl⟩
theorem d_X12_isWay_9 : decode mX12_isWay.1 9 = .ok (.aload_n 0, 1) ∧ 9 + 1 = 10 := ⟨by decide +kernel, rfl⟩
theorem d_X12_isWay_10 : decode mX12_isWay.1 10 = .ok (.invokevirtual 402, 3) ∧ 10 + 3 = 13 := ⟨by decide +kernel, rfl⟩
theorem d_X12_isWay_13 : decode mX12_isWay.1 13 = .ok (.if_icmp .ge 58, 3) ∧ 13 + 3 = 16 ∧ ((13 : Nat) : Int) + 58 = ((71 : Nat) : Int) := ⟨by decide +kernel, rfl, rfl⟩
theorem d_X12_isWay_16 : decode mX12_isWay.1 16 = .ok (.aload_n 0, 1) ∧ 16 + 1 = 17 := ⟨by decide +kernel, rfl⟩
theorem d_X12_isWay_17 : decode mX12_isWay.1 17 = .ok (.getfield 149, 3) ∧ 17 + 3 = 20 := ⟨by decide +kernel, rfl⟩
theorem d_X12_isWay_20 : decode mX12_isWay.1 20 = .ok (.iload 4, 2) ∧ 20 + 2 = 22 := ⟨by decide +kernel, rfl⟩
theorem d_X12_isWay_22 : decode mX12_isWay.1 22 = .ok (.iload_n 2, 1) ∧ 22 + 1 = 23 := ⟨by decide +kernel, rfl⟩
theorem d_X12_isWay_23 : decode mX12_isWay.1 23 = .ok (.aload_n 0, 1) ∧ 23 + 1 = 24 := ⟨by decide +kernel, rfl⟩
theorem d_X12_isWay_24 : decode mX12_isWay.1 24 = .ok (.invokevirtual 399, 3) ∧ 24 + 3 = 27 := ⟨by decide +kernel, rfl⟩
theorem d_X12_isWay_27 : decode mX12_isWay.1 27 = .ok (.irem, 1) ∧ 27 + 1 = 28 := ⟨by decide +kernel, rfl⟩
theorem d_X12_isWay_28 : decode mX12_isWay.1 28 = .ok (.iastore, 1) ∧ 28 + 1 = 29 := ⟨by decide +kernel, rfl⟩
theorem d_X12_isWay_29 : decode mX12_isWay.1 29 = .ok (.iload_n 2, 1) ∧ 29 + 1 = 30 := ⟨by decide +kernel, rfl⟩
theorem d_X12_isWay_30 : decode mX12_isWay.1 30 = .ok (.aload_n 0, 1) ∧ 30 + 1 = 31 := ⟨by decide +kernel, rfl⟩
theorem d_X12_isWay_31 : decode mX12_isWay.1 31 = .ok (.invokevirtual 399, 3) ∧ 31 + 3 = 34 := ⟨by decide +kernel, rfl⟩
theorem d_X12_isWay_34 : decode mX12_isWay.1 34 = .ok (.idiv, 1) ∧ 34 + 1 = 35 := ⟨by decide +kernel, rfl⟩
theorem d_X12_isWay_35 : decode mX12_isWay.1 35 = .ok (.istore_n 2, 1) ∧ 35 + 1 = 36 := ⟨by decide +kernel, rfl⟩
theorem d_X12_isWay_36 : decode mX12_isWay.1 36 = .ok (.iload_n 3, 1) ∧ 36 + 1 = 37 := ⟨by decide +kernel, rfl⟩
theorem d_X12_isWay_37 : decode mX12_isWay.1 37 = .ok (.aload_n 0, 1) ∧ 37 + 1 = 38 := ⟨by decide +kernel, rfl⟩
theorem d_X12_isWay_38 : decode mX12_isWay.1 38 = .ok (.getfield 149, 3) ∧ 38 + 3 = 41 := ⟨by decide +kernel, rfl⟩
theorem d_X12_isWay_41 : decode mX12_isWay.1 41 = .ok (.iload 4, 2) ∧ 41 + 2 = 43 := ⟨by decide +kernel, rfl⟩
theorem d_X12_isWay_43 : decode mX12_isWay.1 43 = .ok (.iaload, 1) ∧ 43 + 1 = 44 := ⟨by decide +kernel, rfl⟩
theorem d_X12_isWay_44 : decode mX12_isWay.1 44 = .ok (.ishr, 1) ∧ 44 + 1 = 45 := ⟨by decide +kernel, rfl⟩
theorem d_X12_isWay_45 : decode mX12_isWay.1 45 = .ok (.iconst 1, 1) ∧ 45 + 1 = 46 := ⟨by decide +kernel, rfl⟩
theorem d_X12_isWay_46 : decode mX12_isWay.1 46 = .ok (.iand, 1) ∧ 46 + 1 = 47 := ⟨by decide +kernel, rfl⟩
theorem d_X12_isWay_47 : decode mX12_isWay.1 47 = .ok (.iconst 1, 1) ∧ 47 + 1 = 48 := ⟨by decide +kernel, rfl⟩
theorem d_X12_isWay_48 : decode mX12_isWay.1 48 = .ok (.if_icmp .ne 5, 3) ∧ 48 + 3 = 51 ∧ ((48 : Nat) : Int) + 5 = ((53 : Nat) : Int) := ⟨by decide +kernel, rfl, rfl⟩
theorem d_X12_isWay_51 : decode mX12_isWay.1 51 = .ok (.iconst 0, 1) ∧ 51 + 1 = 52 := ⟨by decide +kernel, rfl⟩
theorem d_X12_isWay_52 : decode mX12_isWay.1 52 = .ok (.ireturn, 1) := by decide +kernel
theorem d_X12_isWay_53 : decode mX12_isWay.1 53 = .ok (.iload_n 3, 1) ∧ 53 + 1 = 54 := ⟨by decide +kernel, rfl⟩
theorem d_X12_isWay_54 : decode mX12_isWay.1 54 = .ok (.iconst 1, 1) ∧ 54 + 1 = 55 := ⟨by decide +kernel, rfl⟩
theorem d_X12_isWay_55 : decode mX12_isWay.1 55 = .ok (.aload_n 0, 1) ∧ 55 + 1 = 56 := ⟨by decide +kernel, rfl⟩
theorem d_X12_isWay_56 : decode mX12_isWay.1 56 = .ok (.getfield 149, 3) ∧ 56 + 3 = 59 := ⟨by decide +kernel, rfl⟩
theorem d_X12_isWay_59 : decode mX12_isWay.1 59 = .ok (.iload 4, 2) ∧ 59 + 2 = 61 := ⟨by decide +kernel, rfl⟩
theorem d_X12_isWay_61 : decode mX12_isWay.1 61 = .ok (.iaload, 1) ∧ 61 + 1 = 62 := ⟨by decide +kernel, rfl⟩
theorem d_X12_isWay_62 : decode mX12_isWay.1 62 = .ok (.ishl, 1) ∧ 62 + 1 = 63 := ⟨by decide +kernel, rfl⟩
theorem d_X12_isWay_63 : decode mX12_isWay.1 63 = .ok (.ior, 1) ∧ 63 + 1 = 64 := ⟨by decide +kernel, rfl⟩
theorem d_X12_isWay_64 : decode mX12_isWay.1 64 = .ok (.istore_n 3, 1) ∧ 64 + 1 = 65 := ⟨by decide +kernel, rfl⟩
theorem d_X12_isWay_65 : decode mX12_isWay.1 65 = .ok (.iinc 4 1, 3) ∧ 65 + 3 = 68 := ⟨by decide +kernel, rfl⟩
theorem d_X12_isWay_68 : decode mX12_isWay.1 68 = .ok (.goto (-61), 3) ∧ ((68 : Nat) : Int) + (-61) = ((7 : Nat) : Int) := ⟨by decide +kernel, rfl⟩
set_option maxRecDepth 100000 in
set_option maxHeartbeats 4000000 in
theorem g_X12_isWay_L7 (l : Launch) (G : xa_C) (c0 : Int) (K : (Int × Int × Int × xa_H) ⊕ ((Int × xa_H) ⊕ (xa_H)) → Option xa_O) (hb : ∀ (v2 : Int) (v3 : Int) (v4 : Int) (h : xa_H), xa_G l G 3 mX12_isWay (some (Sum.inl ((v2, v3, v4, h)))) K 7 [some (xR c0), none, some (xI v2), some (xI v3), some (xI v4)] [] h) (hr : ∀ r : Int × xa_H, K (Sum.inr (Sum.inl r)) = some (some (xI r.1), r.2)) (hx : ∀ (h : xa_H), xa_G l G 3 mX12_isWay (some (Sum.inr (Sum.inr h))) K 71 [some (xR c0), none, none, none, none] [] h) : ∀ (v2 : Int) (v3 : Int) (v4 : Int) (h : xa_H), xa_G l G 3 mX12_isWay (f_X12_isWay_L7 c0 v2 v3 v4 h) K 7 [some (xR c0), none, some (xI v2), some (xI v3), some (xI v4)] [] h := by
  intro v2 v3 v4 h
  unfold f_X12_isWay_L7
  refine xa_step (xa_iload d_X12_isWay_7 rfl) ?_
  refine xa_step (xa_aload_n d_X12_isWay_9 rfl) ?_
  refine xa_callVi (as := []) (st := [xI v4]) (M' := mX12_holderMany) (d' := 2) rfl xw_1836 xw_1838 xw_108 xw_1839 xw_177 xh_X12_holderMany rfl ⟨Nat.le_of_ble_eq_true rfl, Nat.le_of_ble_eq_true rfl⟩ (Nat.le_of_ble_eq_true rfl) rfl d_X12_isWay_10 (fun r hr => ct_X12_holderMany l G c0 h r hr) (fun r1 _ => ?_)
  refine xa_if (xa_icmpge d_X12_isWay_13) (fun q2 => ?_) (fun q2 => ?_)
  · refine xa_step (xa_aload_n d_X12_isWay_16 rfl) ?_
    refine xa_getf xR xc_12 (by decide) (fun _ => rfl) xw_1370 rfl d_X12_isWay_17 (fun x3 _ => ?_)
    refine xa_step (xa_iload d_X12_isWay_20 rfl) ?_
    refine xa_step (xa_iload_n d_X12_isWay_22 rfl) ?_
    refine xa_step (xa_aload_n d_X12_isWay_23 rfl) ?_
    refine xa_callVi (as := []) (st := [xI v2, xI v4, xR x3]) (M' := mX12_heldMany) (d' := 2) rfl xw_1873 xw_1875 xw_115 xw_1876 xw_177 xh_X12_heldMany rfl ⟨Nat.le_of_ble_eq_true rfl, Nat.le_of_ble_eq_true rfl⟩ (Nat.le_of_ble_eq_true rfl) rfl d_X12_isWay_24 (fun r hr => ct_X12_heldMany l G c0 h r hr) (fun r4 _ => ?_)
    refine xa_nz (fun q5 => ?_)
    refine xa_step (xa_irem d_X12_isWay_27 q5) ?_
    refine xa_iastore2 d_X12_isWay_28 (fun h6 _ => ?_)
    refine xa_step (xa_iload_n d_X12_isWay_29 rfl) ?_
    refine xa_step (xa_aload_n d_X12_isWay_30 rfl) ?_
    refine xa_callVi (as := []) (st := [xI v2]) (M' := mX12_heldMany) (d' := 2) rfl xw_1873 xw_1875 xw_115 xw_1876 xw_177 xh_X12_heldMany rfl ⟨Nat.le_of_ble_eq_true rfl, Nat.le_of_ble_eq_true rfl⟩ (Nat.le_of_ble_eq_true rfl) rfl d_X12_isWay_31 (fun r hr => ct_X12_heldMany l G c0 h6 r hr) (fun r7 _ => ?_)
    refine xa_nz (fun q8 => ?_)
    refine xa_step (xa_idiv d_X12_isWay_34 q8) ?_
    refine xa_step (xa_istore_n (ls' := [some (xR c0), none, some (xI (w32 (Int.tdiv v2 r7))), some (xI v3), some (xI v4)]) d_X12_isWay_35 (by decide) rfl) ?_
    refine xa_step (xa_iload_n d_X12_isWay_36 rfl) ?_
    refine xa_step (xa_aload_n d_X12_isWay_37 rfl) ?_
    refine xa_getf xR xc_12 (by decide) (fun _ => rfl) xw_1370 rfl d_X12_isWay_38 (fun x9 _ => ?_)
    refine xa_step (xa_iload d_X12_isWay_41 rfl) ?_
    refine xa_iaload d_X12_isWay_43 (fun x10 _ => ?_)
    refine xa_step (xa_ishr d_X12_isWay_44) ?_
    refine xa_step (xa_iconst d_X12_isWay_45 xq_i_1) ?_
    refine xa_step (xa_iand d_X12_isWay_46) ?_
    refine xa_step (xa_iconst d_X12_isWay_47 xq_i_1) ?_
    refine xa_if (xa_icmpne d_X12_isWay_48) (fun q11 => ?_) (fun q11 => ?_)
    · refine xa_step (xa_iconst d_X12_isWay_51 xq_i_0) ?_
      exact xa_zret d_X12_isWay_52 rfl (Or.inl rfl) (hr _)
    · refine xa_step (xa_iload_n d_X12_isWay_53 rfl) ?_
      refine xa_step (xa_iconst d_X12_isWay_54 xq_i_1) ?_
      refine xa_step (xa_aload_n d_X12_isWay_55 rfl) ?_
      refine xa_getf xR xc_12 (by decide) (fun _ => rfl) xw_1370 rfl d_X12_isWay_56 (fun x12 _ => ?_)
      refine xa_step (xa_iload d_X12_isWay_59 rfl) ?_
      refine xa_iaload d_X12_isWay_61 (fun x13 _ => ?_)
      refine xa_step (xa_ishl d_X12_isWay_62) ?_
      refine xa_step (xa_ior d_X12_isWay_63) ?_
      refine xa_step (xa_istore_n (ls' := [some (xR c0), none, some (xI (w32 (Int.tdiv v2 r7))), some (xI (xior v3 (xshl 1 x13))), some (xI v4)]) d_X12_isWay_64 (by decide) rfl) ?_
      refine xa_step (xa_iinc (ls' := [some (xR c0), none, some (xI (w32 (Int.tdiv v2 r7))), some (xI (xior v3 (xshl 1 x13))), some (xI (w32 (v4 + 1)))]) d_X12_isWay_65 xq_i_1 rfl (by decide) rfl) ?_
      refine xa_step (xa_goto d_X12_isWay_68) ?_
      exact xa_weak (ls' := [some (xR c0), none, some (xI (w32 (Int.tdiv v2 r7))), some (xI (xior v3 (xshl 1 x13))), some (xI (w32 (v4 + 1)))]) ⟨rfl, rfl, rfl, rfl, trivial⟩ (hb (w32 (Int.tdiv v2 r7)) (xior v3 (xshl 1 x13)) (w32 (v4 + 1)) h6)
  · exact xa_weak (ls' := [some (xR c0), none, none, none, none]) ⟨rfl, trivial⟩ (hx h)
theorem d_X12_isWay_71 : decode mX12_isWay.1 71 = .ok (.iconst 0, 1) ∧ 71 + 1 = 72 := ⟨by decide +kernel, rfl⟩
theorem d_X12_isWay_72 : decode mX12_isWay.1 72 = .ok (.istore 4, 2) ∧ 72 + 2 = 74 := ⟨by decide +kernel, rfl⟩
theorem d_X12_isWay_74 : decode mX12_isWay.1 74 = .ok (.iload 4, 2) ∧ 74 + 2 = 76 := ⟨by decide +kernel, rfl⟩
theorem d_X12_isWay_76 : decode mX12_isWay.1 76 = .ok (.aload_n 0, 1) ∧ 76 + 1 = 77 := ⟨by decide +kernel, rfl⟩
theorem d_X12_isWay_77 : decode mX12_isWay.1 77 = .ok (.getfield 393, 3) ∧ 77 + 3 = 80 := ⟨by decide +kernel, rfl⟩
theorem d_X12_isWay_80 : decode mX12_isWay.1 80 = .ok (.if_icmp .ge 58, 3) ∧ 80 + 3 = 83 ∧ ((80 : Nat) : Int) + 58 = ((138 : Nat) : Int) := ⟨by decide +kernel, rfl, rfl⟩
theorem d_X12_isWay_83 : decode mX12_isWay.1 83 = .ok (.aload_n 0, 1) ∧ 83 + 1 = 84 := ⟨by decide +kernel, rfl⟩
theorem d_X12_isWay_84 : decode mX12_isWay.1 84 = .ok (.getfield 149, 3) ∧ 84 + 3 = 87 := ⟨by decide +kernel, rfl⟩
theorem d_X12_isWay_87 : decode mX12_isWay.1 87 = .ok (.aload_n 0, 1) ∧ 87 + 1 = 88 := ⟨by decide +kernel, rfl⟩
theorem d_X12_isWay_88 : decode mX12_isWay.1 88 = .ok (.getfield 161, 3) ∧ 88 + 3 = 91 := ⟨by decide +kernel, rfl⟩
theorem d_X12_isWay_91 : decode mX12_isWay.1 91 = .ok (.iconst 3, 1) ∧ 91 + 1 = 92 := ⟨by decide +kernel, rfl⟩
theorem d_X12_isWay_92 : decode mX12_isWay.1 92 = .ok (.iload 4, 2) ∧ 92 + 2 = 94 := ⟨by decide +kernel, rfl⟩
theorem d_X12_isWay_94 : decode mX12_isWay.1 94 = .ok (.imul, 1) ∧ 94 + 1 = 95 := ⟨by decide +kernel, rfl⟩
theorem d_X12_isWay_95 : decode mX12_isWay.1 95 = .ok (.iaload, 1) ∧ 95 + 1 = 96 := ⟨by decide +kernel, rfl⟩
theorem d_X12_isWay_96 : decode mX12_isWay.1 96 = .ok (.iaload, 1) ∧ 96 + 1 = 97 := ⟨by decide +kernel, rfl⟩
theorem d_X12_isWay_97 : decode mX12_isWay.1 97 = .ok (.aload_n 0, 1) ∧ 97 + 1 = 98 := ⟨by decide +kernel, rfl⟩
theorem d_X12_isWay_98 : decode mX12_isWay.1 98 = .ok (.getfield 161, 3) ∧ 98 + 3 = 101 := ⟨by decide +kernel, rfl⟩
theorem d_X12_isWay_101 : decode mX12_isWay.1 101 = .ok (.iconst 3, 1) ∧ 101 + 1 = 102 := ⟨by decide +kernel, rfl⟩
theorem d_X12_isWay_102 : decode mX12_isWay.1 102 = .ok (.iload 4, 2) ∧ 102 + 2 = 104 := ⟨by decide +kernel, rfl⟩
theorem d_X12_isWay_104 : decode mX12_isWay.1 104 = .ok (.imul, 1) ∧ 104 + 1 = 105 := ⟨by decide +kernel, rfl⟩
theorem d_X12_isWay_105 : decode mX12_isWay.1 105 = .ok (.iconst 1, 1) ∧ 105 + 1 = 106 := ⟨by decide +kernel, rfl⟩
theorem d_X12_isWay_106 : decode mX12_isWay.1 106 = .ok (.iadd, 1) ∧ 106 + 1 = 107 := ⟨by decide +kernel, rfl⟩
theorem d_X12_isWay_107 : decode mX12_isWay.1 107 = .ok (.iaload, 1) ∧ 107 + 1 = 108 := ⟨by decide +kernel, rfl⟩
theorem d_X12_isWay_108 : decode mX12_isWay.1 108 = .ok (.if_icmp .ne 7, 3) ∧ 108 + 3 = 111 ∧ ((108 : Nat) : Int) + 7 = ((115 : Nat) : Int) := ⟨by decide +kernel, rfl, rfl⟩
theorem d_X12_isWay_111 : decode mX12_isWay.1 111 = .ok (.iconst 1, 1) ∧ 111 + 1 = 112 := ⟨by decide +kernel, rfl⟩
theorem d_X12_isWay_112 : decode mX12_isWay.1 112 = .ok (.goto 4, 3) ∧ ((112 : Nat) : Int) + 4 = ((116 : Nat) : Int) := ⟨by decide +kernel, rfl⟩
theorem d_X12_isWay_116 : decode mX12_isWay.1 116 = .ok (.aload_n 0, 1) ∧ 116 + 1 = 117 := ⟨by decide +kernel, rfl⟩
theorem d_X12_isWay_117 : decode mX12_isWay.1 117 = .ok (.getfield 161, 3) ∧ 117 + 3 = 120 := ⟨by decide +kernel, rfl⟩
theorem d_X12_isWay_120 : decode mX12_isWay.1 120 = .ok (.iconst 3, 1) ∧ 120 + 1 = 121 := ⟨by decide +kernel, rfl⟩
theorem d_X12_isWay_121 : decode mX12_isWay.1 121 = .ok (.iload 4, 2) ∧ 121 + 2 = 123 := ⟨by decide +kernel, rfl⟩
theorem d_X12_isWay_123 : decode mX12_isWay.1 123 = .ok (.imul, 1) ∧ 123 + 1 = 124 := ⟨by decide +kernel, rfl⟩
theorem d_X12_isWay_124 : decode mX12_isWay.1 124 = .ok (.iconst 2, 1) ∧ 124 + 1 = 125 := ⟨by decide +kernel, rfl⟩
theorem d_X12_isWay_125 : decode mX12_isWay.1 125 = .ok (.iadd, 1) ∧ 125 + 1 = 126 := ⟨by decide +kernel, rfl⟩
theorem d_X12_isWay_126 : decode mX12_isWay.1 126 = .ok (.iaload, 1) ∧ 126 + 1 = 127 := ⟨by decide +kernel, rfl⟩
theorem d_X12_isWay_127 : decode mX12_isWay.1 127 = .ok (.if_icmp .eq 5, 3) ∧ 127 + 3 = 130 ∧ ((127 : Nat) : Int) + 5 = ((132 : Nat) : Int) := ⟨by decide +kernel, rfl, rfl⟩
theorem d_X12_isWay_132 : decode mX12_isWay.1 132 = .ok (.iinc 4 1, 3) ∧ 132 + 3 = 135 := ⟨by decide +kernel, rfl⟩
theorem d_X12_isWay_135 : decode mX12_isWay.1 135 = .ok (.goto (-61), 3) ∧ ((135 : Nat) : Int) + (-61) = ((74 : Nat) : Int) := ⟨by decide +kernel, rfl⟩
theorem d_X12_isWay_130 : decode mX12_isWay.1 130 = .ok (.iconst 0, 1) ∧ 130 + 1 = 131 := ⟨by decide +kernel, rfl⟩
theorem d_X12_isWay_131 : decode mX12_isWay.1 131 = .ok (.ireturn, 1) := by decide +kernel
set_option maxRecDepth 100000 in
set_option maxHeartbeats 4000000 in
theorem g_X12_isWay_J116L74 (l : Launch) (G : xa_C) (c0 : Int) (h : xa_H) (K : (Int) ⊕ ((Int × xa_H) ⊕ (Unit)) → Option xa_O) (hb : ∀ (v4 : Int), xa_G l G 3 mX12_isWay (some (Sum.inl v4)) K 74 [some (xR c0), none, none, none, some (xI v4)] [] h) (hr : ∀ r : Int × xa_H, K (Sum.inr (Sum.inl r)) = some (some (xI r.1), r.2)) (hx : xa_G l G 3 mX12_isWay (some (Sum.inr (Sum.inr (())))) K 138 [none, none, none, none, none] [] h) : ∀ (v4 s0 : Int) , xa_G l G 3 mX12_isWay (f_X12_isWay_J116L74 c0 v4 s0 h) K 116 [some (xR c0), none, none, none, some (xI v4)] [xI s0] h := by
  intro v4 s0
  unfold f_X12_isWay_J116L74
  refine xa_step (xa_aload_n d_X12_isWay_116 rfl) ?_
  refine xa_getf xR xc_12 (by decide) (fun _ => rfl) xw_1375 rfl d_X12_isWay_117 (fun x25 _ => ?_)
  refine xa_step (xa_iconst d_X12_isWay_120 xq_i_3) ?_
  refine xa_step (xa_iload d_X12_isWay_121 rfl) ?_
  refine xa_step (xa_imul d_X12_isWay_123) ?_
  refine xa_step (xa_iconst d_X12_isWay_124 xq_i_2) ?_
  refine xa_step (xa_iadd d_X12_isWay_125) ?_
  refine xa_iaload d_X12_isWay_126 (fun x26 _ => ?_)
  refine xa_if (xa_icmpeq d_X12_isWay_127) (fun q27 => ?_) (fun q27 => ?_)
  · refine xa_step (xa_iinc (ls' := [some (xR c0), none, none, none, some (xI (w32 (v4 + 1)))]) d_X12_isWay_132 xq_i_1 rfl (by decide) rfl) ?_
    refine xa_step (xa_goto d_X12_isWay_135) ?_
    exact xa_weak (ls' := [some (xR c0), none, none, none, some (xI (w32 (v4 + 1)))]) ⟨rfl, rfl, trivial⟩ (hb (w32 (v4 + 1)))
  · refine xa_step (xa_iconst d_X12_isWay_130 xq_i_0) ?_
    exact xa_zret d_X12_isWay_131 rfl (Or.inl rfl) (hr _)
theorem d_X12_isWay_115 : decode mX12_isWay.1 115 = .ok (.iconst 0, 1) ∧ 115 + 1 = 116 := ⟨by decide +kernel, rfl⟩
set_option maxRecDepth 100000 in
set_option maxHeartbeats 4000000 in
theorem g_X12_isWay_L74 (l : Launch) (G : xa_C) (c0 : Int) (h : xa_H) (K : (Int) ⊕ ((Int × xa_H) ⊕ (Unit)) → Option xa_O) (hb : ∀ (v4 : Int), xa_G l G 3 mX12_isWay (some (Sum.inl v4)) K 74 [some (xR c0), none, none, none, some (xI v4)] [] h) (hr : ∀ r : Int × xa_H, K (Sum.inr (Sum.inl r)) = some (some (xI r.1), r.2)) (hx : xa_G l G 3 mX12_isWay (some (Sum.inr (Sum.inr (())))) K 138 [none, none, none, none, none] [] h) : ∀ (v4 : Int), xa_G l G 3 mX12_isWay (f_X12_isWay_L74 c0 h v4) K 74 [some (xR c0), none, none, none, some (xI v4)] [] h := by
  intro v4
  unfold f_X12_isWay_L74
  refine xa_step (xa_iload d_X12_isWay_74 rfl) ?_
  refine xa_step (xa_aload_n d_X12_isWay_76 rfl) ?_
  refine xa_getf xI xc_12 (by decide) (fun _ => rfl) xw_1374 rfl d_X12_isWay_77 (fun x16 _ => ?_)
  refine xa_if (xa_icmpge d_X12_isWay_80) (fun q17 => ?_) (fun q17 => ?_)
  · refine xa_step (xa_aload_n d_X12_isWay_83 rfl) ?_
    refine xa_getf xR xc_12 (by decide) (fun _ => rfl) xw_1370 rfl d_X12_isWay_84 (fun x18 _ => ?_)
    refine xa_step (xa_aload_n d_X12_isWay_87 rfl) ?_
    refine xa_getf xR xc_12 (by decide) (fun _ => rfl) xw_1375 rfl d_X12_isWay_88 (fun x19 _ => ?_)
    refine xa_step (xa_iconst d_X12_isWay_91 xq_i_3) ?_
    refine xa_step (xa_iload d_X12_isWay_92 rfl) ?_
    refine xa_step (xa_imul d_X12_isWay_94) ?_
    refine xa_iaload d_X12_isWay_95 (fun x20 _ => ?_)
    refine xa_iaload d_X12_isWay_96 (fun x21 _ => ?_)
    refine xa_step (xa_aload_n d_X12_isWay_97 rfl) ?_
    refine xa_getf xR xc_12 (by decide) (fun _ => rfl) xw_1375 rfl d_X12_isWay_98 (fun x22 _ => ?_)
    refine xa_step (xa_iconst d_X12_isWay_101 xq_i_3) ?_
    refine xa_step (xa_iload d_X12_isWay_102 rfl) ?_
    refine xa_step (xa_imul d_X12_isWay_104) ?_
    refine xa_step (xa_iconst d_X12_isWay_105 xq_i_1) ?_
    refine xa_step (xa_iadd d_X12_isWay_106) ?_
    refine xa_iaload d_X12_isWay_107 (fun x23 _ => ?_)
    refine xa_if (xa_icmpne d_X12_isWay_108) (fun q24 => ?_) (fun q24 => ?_)
    · refine xa_step (xa_iconst d_X12_isWay_111 xq_i_1) ?_
      refine xa_step (xa_goto d_X12_isWay_112) ?_
      exact xa_weak (ls' := [some (xR c0), none, none, none, some (xI v4)]) ⟨rfl, rfl, trivial⟩ (g_X12_isWay_J116L74 l G c0 h K hb hr hx v4 1)
    · refine xa_step (xa_iconst d_X12_isWay_115 xq_i_0) ?_
      exact xa_weak (ls' := [some (xR c0), none, none, none, some (xI v4)]) ⟨rfl, rfl, trivial⟩ (g_X12_isWay_J116L74 l G c0 h K hb hr hx v4 0)
  · exact xa_weak (ls' := [none, none, none, none, none]) trivial (hx )
theorem d_X12_isWay_138 : decode mX12_isWay.1 138 = .ok (.iconst 1, 1) ∧ 138 + 1 = 139 := ⟨by decide +kernel, rfl⟩
theorem d_X12_isWay_139 : decode mX12_isWay.1 139 = .ok (.ireturn, 1) := by decide +kernel
set_option maxRecDepth 100000 in
set_option maxHeartbeats 4000000 in
theorem g_X12_isWay (l : Launch) (G : xa_C) (v0 v1 : Int) (h : xa_H) : xa_G l G 3 mX12_isWay (f_X12_isWay v0 v1 h) (fun r => some (some (xI r.1), r.2) : (Int × xa_H) → Option xa_O) 0 [some (xR v0), some (xI v1), none, none, none] [] h := by
  unfold f_X12_isWay
  refine xa_step (xa_iload_n d_X12_isWay_0 rfl) ?_
  refine xa_step (xa_istore_n (ls' := [some (xR v0), some (xI v1), some (xI v1), none, none]) d_X12_isWay_1 (by decide) rfl) ?_
  refine xa_step (xa_iconst d_X12_isWay_2 xq_i_0) ?_
  refine xa_step (xa_istore_n (ls' := [some (xR v0), some (xI v1), some (xI v1), some (xI 0), none]) d_X12_isWay_3 (by decide) rfl) ?_
  refine xa_step (xa_iconst d_X12_isWay_4 xq_i_0) ?_
  refine xa_step (xa_istore (ls' := [some (xR v0), some (xI v1), some (xI v1), some (xI 0), some (xI 0)]) d_X12_isWay_5 (by decide) rfl) ?_
  refine xa_weak (ls' := [some (xR v0), none, some (xI v1), some (xI 0), some (xI 0)]) ⟨rfl, rfl, rfl, rfl, trivial⟩ ?_
  refine xa_loop (f := fun s => f_X12_isWay_L7 v0 s.1 s.2.1 s.2.2.1 s.2.2.2) (L := fun s => [some (xR v0), none, some (xI s.1), some (xI s.2.1), some (xI s.2.2.1)]) (P := fun s => s.2.2.2) (X := (fun e K => match e with | Sum.inl r => K (Sum.inr (Sum.inl r)) = some (some (xI r.1), r.2) | Sum.inr x => xa_G l G 3 mX12_isWay (some (Sum.inr (Sum.inr x))) K 71 [some (xR v0), none, none, none, none] [] x)) (fun K hb hX s => g_X12_isWay_L7 l G v0 K (fun w0 w1 w2 hh => hb ((w0, w1, w2, hh))) (fun r => hX (Sum.inl r)) (fun hh => hX (Sum.inr hh)) s.1 s.2.1 s.2.2.1 s.2.2.2) ?_ xFU ((v1, 0, 0, h))
  rintro (r | y15) K hK
  · exact hK.trans rfl
  · refine xa_eqE hK ?_
    show xa_G l G 3 mX12_isWay _ _ 71 [some (xR v0), none, none, none, none] [] y15
    refine xa_step (xa_iconst d_X12_isWay_71 xq_i_0) ?_
    refine xa_step (xa_istore (ls' := [some (xR v0), none, none, none, some (xI 0)]) d_X12_isWay_72 (by decide) rfl) ?_
    refine xa_weak (ls' := [some (xR v0), none, none, none, some (xI 0)]) ⟨rfl, rfl, trivial⟩ ?_
    refine xa_loop (f := fun s => f_X12_isWay_L74 v0 y15 s) (L := fun s => [some (xR v0), none, none, none, some (xI s)]) (P := fun s => y15) (X := (fun e K => match e with | Sum.inl r => K (Sum.inr (Sum.inl r)) = some (some (xI r.1), r.2) | Sum.inr x => xa_G l G 3 mX12_isWay (some (Sum.inr (Sum.inr x))) K 138 [none, none, none, none, none] [] y15)) (fun K hb hX s => g_X12_isWay_L74 l G v0 y15 K (fun w0 => hb w0) (fun r => hX (Sum.inl r)) (hX (Sum.inr ())) s) ?_ xFU 0
    rintro (r | y29) K hK
    · exact hK.trans rfl
    · refine xa_eqE hK ?_
      show xa_G l G 3 mX12_isWay _ _ 138 [none, none, none, none, none] [] y15
      refine xa_step (xa_iconst d_X12_isWay_138 xq_i_1) ?_
      exact xa_zret d_X12_isWay_139 rfl (Or.inr rfl) rfl
theorem ct_X12_isWay (l : Launch) (G : xa_C) (v0 v1 : Int) (h : xa_H) (r : Int × xa_H) (hr : f_X12_isWay v0 v1 h = some r) : xa_CT l G 3 mX12_isWay yX12_isWay [xR v0, xI v1] h (some (xI r.1), r.2) :=
  xa_met (by decide +kernel) rfl (fun q => by first | rfl | cases q) (Nat.le_of_ble_eq_true rfl) rfl (g_X12_isWay l G v0 v1 h) (by rw [hr]; rfl)
abbrev mX12_laysWays : xa_M := (cX12_laysWays, 5, (some (.int)), RX12, false)
theorem d_X12_laysWays_0 : decode mX12_laysWays.1 0 = .ok (.iconst 0, 1) ∧ 0 + 1 = 1 := ⟨by decide +kernel, rfl⟩
theorem d_X12_laysWays_1 : decode mX12_laysWays.1 1 = .ok (.istore_n 1, 1) ∧ 1 + 1 = 2 := ⟨by decide +kernel, rfl⟩
theorem d_X12_laysWays_2 : decode mX12_laysWays.1 2 = .ok (.iload_n 1, 1) ∧ 2 + 1 = 3 := ⟨by decide +kernel, rfl⟩
theorem d_X12_laysWays_3 : decode mX12_laysWays.1 3 = .ok (.bipush 36, 2) ∧ 3 + 2 = 5 := ⟨by decide +kernel, rfl⟩
theorem d_X12_laysWays_5 : decode mX12_laysWays.1 5 = .ok (.if_icmp .ge 16, 3) ∧ 5 + 3 = 8 ∧ ((5 : Nat) : Int) + 16 = ((21 : Nat) : Int) := ⟨by decide +kernel, rfl, rfl⟩
theorem d_X12_laysWays_8 : decode mX12_laysWays.1 8 = .ok (.aload_n 0, 1) ∧ 8 + 1 = 9 := ⟨by decide +kernel, rfl⟩
theorem d_X12_laysWays_9 : decode mX12_laysWays.1 9 = .ok (.getfield 164, 3) ∧ 9 + 3 = 12 := ⟨by decide +kernel, rfl⟩
theorem d_X12_laysWays_12 : decode mX12_laysWays.1 12 = .ok (.iload_n 1, 1) ∧ 12 + 1 = 13 := ⟨by decide +kernel, rfl⟩
theorem d_X12_laysWays_13 : decode mX12_laysWays.1 13 = .ok (.iconst 0, 1) ∧ 13 + 1 = 14 := ⟨by decide +kernel, rfl⟩
theorem d_X12_laysWays_14 : decode mX12_laysWays.1 14 = .ok (.iastore, 1) ∧ 14 + 1 = 15 := ⟨by decide +kernel, rfl⟩
theorem d_X12_laysWays_15 : decode mX12_laysWays.1 15 = .ok (.iinc 1 1, 3) ∧ 15 + 3 = 18 := ⟨by decide +kernel, rfl⟩
theorem d_X12_laysWays_18 : decode mX12_laysWays.1 18 = .ok (.goto (-16), 3) ∧ ((18 : Nat) : Int) + (-16) = ((2 : Nat) : Int) := ⟨by decide +kernel, rfl⟩
set_option maxRecDepth 100000 in
set_option maxHeartbeats 4000000 in
theorem g_X12_laysWays_L2 (l : Launch) (G : xa_C) (c0 : Int) (K : (Int × xa_H) ⊕ (xa_H) → Option xa_O) (hb : ∀ (v1 : Int) (h : xa_H), xa_G l G 4 mX12_laysWays (some (Sum.inl ((v1, h)))) K 2 [some (xR c0), some (xI v1), none, none, none] [] h) (hx : ∀ (h : xa_H), xa_G l G 4 mX12_laysWays (some (Sum.inr h)) K 21 [some (xR c0), none, none, none, none] [] h) : ∀ (v1 : Int) (h : xa_H), xa_G l G 4 mX12_laysWays (f_X12_laysWays_L2 c0 v1 h) K 2 [some (xR c0), some (xI v1), none, none, none] [] h := by
  intro v1 h
  unfold f_X12_laysWays_L2
  refine xa_step (xa_iload_n d_X12_laysWays_2 rfl) ?_
  refine xa_step (xa_bipush d_X12_laysWays_3 xq_b_36) ?_
  refine xa_if (xa_icmpge d_X12_laysWays_5) (fun q1 => ?_) (fun q1 => ?_)
  · refine xa_step (xa_aload_n d_X12_laysWays_8 rfl) ?_
    refine xa_getf xR xc_12 (by decide) (fun _ => rfl) xw_1376 rfl d_X12_laysWays_9 (fun x2 _ => ?_)
    refine xa_step (xa_iload_n d_X12_laysWays_12 rfl) ?_
    refine xa_step (xa_iconst d_X12_laysWays_13 xq_i_0) ?_
    refine xa_iastore2 d_X12_laysWays_14 (fun h3 _ => ?_)
    refine xa_step (xa_iinc (ls' := [some (xR c0), some (xI (w32 (v1 + 1))), none, none, none]) d_X12_laysWays_15 xq_i_1 rfl (by decide) rfl) ?_
    refine xa_step (xa_goto d_X12_laysWays_18) ?_
    exact xa_weak (ls' := [some (xR c0), some (xI (w32 (v1 + 1))), none, none, none]) ⟨rfl, rfl, trivial⟩ (hb (w32 (v1 + 1)) h3)
  · exact xa_weak (ls' := [some (xR c0), none, none, none, none]) ⟨rfl, trivial⟩ (hx h)
theorem d_X12_laysWays_21 : decode mX12_laysWays.1 21 = .ok (.iconst 1, 1) ∧ 21 + 1 = 22 := ⟨by decide +kernel, rfl⟩
theorem d_X12_laysWays_22 : decode mX12_laysWays.1 22 = .ok (.istore_n 1, 1) ∧ 22 + 1 = 23 := ⟨by decide +kernel, rfl⟩
theorem d_X12_laysWays_23 : decode mX12_laysWays.1 23 = .ok (.iconst 0, 1) ∧ 23 + 1 = 24 := ⟨by decide +kernel, rfl⟩
theorem d_X12_laysWays_24 : decode mX12_laysWays.1 24 = .ok (.istore_n 2, 1) ∧ 24 + 1 = 25 := ⟨by decide +kernel, rfl⟩
theorem d_X12_laysWays_25 : decode mX12_laysWays.1 25 = .ok (.iload_n 2, 1) ∧ 25 + 1 = 26 := ⟨by decide +kernel, rfl⟩
theorem d_X12_laysWays_26 : decode mX12_laysWays.1 26 = .ok (.aload_n 0, 1) ∧ 26 + 1 = 27 := ⟨by decide +kernel, rfl⟩
theorem d_X12_laysWays_27 : decode mX12_laysWays.1 27 = .ok (.invokevirtual 402, 3) ∧ 27 + 3 = 30 := ⟨by decide +kernel, rfl⟩
theorem d_X12_laysWays_30 : decode mX12_laysWays.1 30 = .ok (.if_icmp .ge 16, 3) ∧ 30 + 3 = 33 ∧ ((30 : Nat) : Int) + 16 = ((46 : Nat) : Int) := ⟨by decide +kernel, rfl, rfl⟩
theorem d_X12_laysWays_33 : decode mX12_laysWays.1 33 = .ok (.iload_n 1, 1) ∧ 33 + 1 = 34 := ⟨by decide +kernel, rfl⟩
theorem d_X12_laysWays_34 : decode mX12_laysWays.1 34 = .ok (.aload_n 0, 1) ∧ 34 + 1 = 35 := ⟨by decide +kernel, rfl⟩
theorem d_X12_laysWays_35 : decode mX12_laysWays.1 35 = .ok (.invokevirtual 399, 3) ∧ 35 + 3 = 38 := ⟨by decide +kernel, rfl⟩
theorem d_X12_laysWays_38 : decode mX12_laysWays.1 38 = .ok (.imul, 1) ∧ 38 + 1 = 39 := ⟨by decide +kernel, rfl⟩
theorem d_X12_laysWays_39 : decode mX12_laysWays.1 39 = .ok (.istore_n 1, 1) ∧ 39 + 1 = 40 := ⟨by decide +kernel, rfl⟩
theorem d_X12_laysWays_40 : decode mX12_laysWays.1 40 = .ok (.iinc 2 1, 3) ∧ 40 + 3 = 43 := ⟨by decide +kernel, rfl⟩
theorem d_X12_laysWays_43 : decode mX12_laysWays.1 43 = .ok (.goto (-18), 3) ∧ ((43 : Nat) : Int) + (-18) = ((25 : Nat) : Int) := ⟨by decide +kernel, rfl⟩
set_option maxRecDepth 100000 in
set_option maxHeartbeats 4000000 in
theorem g_X12_laysWays_L25 (l : Launch) (G : xa_C) (c0 : Int) (h : xa_H) (K : (Int × Int) ⊕ (Int) → Option xa_O) (hb : ∀ (v1 : Int) (v2 : Int), xa_G l G 4 mX12_laysWays (some (Sum.inl ((v1, v2)))) K 25 [some (xR c0), some (xI v1), some (xI v2), none, none] [] h) (hx : ∀ (v1 : Int), xa_G l G 4 mX12_laysWays (some (Sum.inr v1)) K 46 [some (xR c0), some (xI v1), none, none, none] [] h) : ∀ (v1 : Int) (v2 : Int), xa_G l G 4 mX12_laysWays (f_X12_laysWays_L25 c0 h v1 v2) K 25 [some (xR c0), some (xI v1), some (xI v2), none, none] [] h := by
  intro v1 v2
  unfold f_X12_laysWays_L25
  refine xa_step (xa_iload_n d_X12_laysWays_25 rfl) ?_
  refine xa_step (xa_aload_n d_X12_laysWays_26 rfl) ?_
  refine xa_callVi (as := []) (st := [xI v2]) (M' := mX12_holderMany) (d' := 2) rfl xw_1836 xw_1838 xw_108 xw_1839 xw_177 xh_X12_holderMany rfl ⟨Nat.le_of_ble_eq_true rfl, Nat.le_of_ble_eq_true rfl⟩ (Nat.le_of_ble_eq_true rfl) rfl d_X12_laysWays_27 (fun r hr => ct_X12_holderMany l G c0 h r hr) (fun r5 _ => ?_)
  refine xa_if (xa_icmpge d_X12_laysWays_30) (fun q6 => ?_) (fun q6 => ?_)
  · refine xa_step (xa_iload_n d_X12_laysWays_33 rfl) ?_
    refine xa_step (xa_aload_n d_X12_laysWays_34 rfl) ?_
    refine xa_callVi (as := []) (st := [xI v1]) (M' := mX12_heldMany) (d' := 2) rfl xw_1873 xw_1875 xw_115 xw_1876 xw_177 xh_X12_heldMany rfl ⟨Nat.le_of_ble_eq_true rfl, Nat.le_of_ble_eq_true rfl⟩ (Nat.le_of_ble_eq_true rfl) rfl d_X12_laysWays_35 (fun r hr => ct_X12_heldMany l G c0 h r hr) (fun r7 _ => ?_)
    refine xa_step (xa_imul d_X12_laysWays_38) ?_
    refine xa_step (xa_istore_n (ls' := [some (xR c0), some (xI (w32 (v1 * r7))), some (xI v2), none, none]) d_X12_laysWays_39 (by decide) rfl) ?_
    refine xa_step (xa_iinc (ls' := [some (xR c0), some (xI (w32 (v1 * r7))), some (xI (w32 (v2 + 1))), none, none]) d_X12_laysWays_40 xq_i_1 rfl (by decide) rfl) ?_
    refine xa_step (xa_goto d_X12_laysWays_43) ?_
    exact xa_weak (ls' := [some (xR c0), some (xI (w32 (v1 * r7))), some (xI (w32 (v2 + 1))), none, none]) ⟨rfl, rfl, rfl, trivial⟩ (hb (w32 (v1 * r7)) (w32 (v2 + 1)))
  · exact xa_weak (ls' := [some (xR c0), some (xI v1), none, none, none]) ⟨rfl, rfl, trivial⟩ (hx v1)
theorem d_X12_laysWays_46 : decode mX12_laysWays.1 46 = .ok (.iconst 0, 1) ∧ 46 + 1 = 47 := ⟨by decide +kernel, rfl⟩
theorem d_X12_laysWays_47 : decode mX12_laysWays.1 47 = .ok (.istore_n 2, 1) ∧ 47 + 1 = 48 := ⟨by decide +kernel, rfl⟩
theorem d_X12_laysWays_48 : decode mX12_laysWays.1 48 = .ok (.iconst 0, 1) ∧ 48 + 1 = 49 := ⟨by decide +kernel, rfl⟩
theorem d_X12_laysWays_49 : decode mX12_laysWays.1 49 = .ok (.istore_n 3, 1) ∧ 49 + 1 = 50 := ⟨by decide +kernel, rfl⟩
theorem d_X12_laysWays_50 : decode mX12_laysWays.1 50 = .ok (.iload_n 3, 1) ∧ 50 + 1 = 51 := ⟨by decide +kernel, rfl⟩
theorem d_X12_laysWays_51 : decode mX12_laysWays.1 51 = .ok (.iload_n 1, 1) ∧ 51 + 1 = 52 := ⟨by decide +kernel, rfl⟩
theorem d_X12_laysWays_52 : decode mX12_laysWays.1 52 = .ok (.if_icmp .ge 63, 3) ∧ 52 + 3 = 55 ∧ ((52 : Nat) : Int) + 63 = ((115 : Nat) : Int) := ⟨by decide +kernel, rfl, rfl⟩
theorem d_X12_laysWays_55 : decode mX12_laysWays.1 55 = .ok (.aload_n 0, 1) ∧ 55 + 1 = 56 := ⟨by decide +kernel, rfl⟩
theorem d_X12_laysWays_56 : decode mX12_laysWays.1 56 = .ok (.iload_n 3, 1) ∧ 56 + 1 = 57 := ⟨by decide +kernel, rfl⟩
theorem d_X12_laysWays_57 : decode mX12_laysWays.1 57 = .ok (.invokevirtual 562, 3) ∧ 57 + 3 = 60 := ⟨by decide +kernel, rfl⟩
theorem d_X12_laysWays_60 : decode mX12_laysWays.1 60 = .ok (.ifCond .ne 6, 3) ∧ 60 + 3 = 63 ∧ ((60 : Nat) : Int) + 6 = ((66 : Nat) : Int) := ⟨by decide +kernel, rfl, rfl⟩
theorem d_X12_laysWays_63 : decode mX12_laysWays.1 63 = .ok (.goto 46, 3) ∧ ((63 : Nat) : Int) + 46 = ((109 : Nat) : Int) := ⟨by decide +kernel, rfl⟩
theorem d_X12_laysWays_109 : decode mX12_laysWays.1 109 = .ok (.iinc 3 1, 3) ∧ 109 + 3 = 112 := ⟨by decide +kernel, rfl⟩
theorem d_X12_laysWays_112 : decode mX12_laysWays.1 112 = .ok (.goto (-62), 3) ∧ ((112 : Nat) : Int) + (-62) = ((50 : Nat) : Int) := ⟨by decide +kernel, rfl⟩
theorem d_X12_laysWays_66 : decode mX12_laysWays.1 66 = .ok (.iinc 2 1, 3) ∧ 66 + 3 = 69 := ⟨by decide +kernel, rfl⟩
theorem d_X12_laysWays_69 : decode mX12_laysWays.1 69 = .ok (.iconst 0, 1) ∧ 69 + 1 = 70 := ⟨by decide +kernel, rfl⟩
theorem d_X12_laysWays_70 : decode mX12_laysWays.1 70 = .ok (.istore 4, 2) ∧ 70 + 2 = 72 := ⟨by decide +kernel, rfl⟩
theorem d_X12_laysWays_72 : decode mX12_laysWays.1 72 = .ok (.iload 4, 2) ∧ 72 + 2 = 74 := ⟨by decide +kernel, rfl⟩
theorem d_X12_laysWays_74 : decode mX12_laysWays.1 74 = .ok (.aload_n 0, 1) ∧ 74 + 1 = 75 := ⟨by decide +kernel, rfl⟩
theorem d_X12_laysWays_75 : decode mX12_laysWays.1 75 = .ok (.invokevirtual 402, 3) ∧ 75 + 3 = 78 := ⟨by decide +kernel, rfl⟩
theorem d_X12_laysWays_78 : decode mX12_laysWays.1 78 = .ok (.if_icmp .ge 31, 3) ∧ 78 + 3 = 81 ∧ ((78 : Nat) : Int) + 31 = ((109 : Nat) : Int) := ⟨by decide +kernel, rfl, rfl⟩
theorem d_X12_laysWays_81 : decode mX12_laysWays.1 81 = .ok (.aload_n 0, 1) ∧ 81 + 1 = 82 := ⟨by decide +kernel, rfl⟩
theorem d_X12_laysWays_82 : decode mX12_laysWays.1 82 = .ok (.getfield 164, 3) ∧ 82 + 3 = 85 := ⟨by decide +kernel, rfl⟩
theorem d_X12_laysWays_85 : decode mX12_laysWays.1 85 = .ok (.bipush 6, 2) ∧ 85 + 2 = 87 := ⟨by decide +kernel, rfl⟩
theorem d_X12_laysWays_87 : decode mX12_laysWays.1 87 = .ok (.iload 4, 2) ∧ 87 + 2 = 89 := ⟨by decide +kernel, rfl⟩
theorem d_X12_laysWays_89 : decode mX12_laysWays.1 89 = .ok (.imul, 1) ∧ 89 + 1 = 90 := ⟨by decide +kernel, rfl⟩
theorem d_X12_laysWays_90 : decode mX12_laysWays.1 90 = .ok (.aload_n 0, 1) ∧ 90 + 1 = 91 := ⟨by decide +kernel, rfl⟩
theorem d_X12_laysWays_91 : decode mX12_laysWays.1 91 = .ok (.getfield 149, 3) ∧ 91 + 3 = 94 := ⟨by decide +kernel, rfl⟩
theorem d_X12_laysWays_94 : decode mX12_laysWays.1 94 = .ok (.iload 4, 2) ∧ 94 + 2 = 96 := ⟨by decide +kernel, rfl⟩
theorem d_X12_laysWays_96 : decode mX12_laysWays.1 96 = .ok (.iaload, 1) ∧ 96 + 1 = 97 := ⟨by decide +kernel, rfl⟩
theorem d_X12_laysWays_97 : decode mX12_laysWays.1 97 = .ok (.iadd, 1) ∧ 97 + 1 = 98 := ⟨by decide +kernel, rfl⟩
theorem d_X12_laysWays_98 : decode mX12_laysWays.1 98 = .ok (.dup2, 1) ∧ 98 + 1 = 99 := ⟨by decide +kernel, rfl⟩
theorem d_X12_laysWays_99 : decode mX12_laysWays.1 99 = .ok (.iaload, 1) ∧ 99 + 1 = 100 := ⟨by decide +kernel, rfl⟩
theorem d_X12_laysWays_100 : decode mX12_laysWays.1 100 = .ok (.iconst 1, 1) ∧ 100 + 1 = 101 := ⟨by decide +kernel, rfl⟩
theorem d_X12_laysWays_101 : decode mX12_laysWays.1 101 = .ok (.iadd, 1) ∧ 101 + 1 = 102 := ⟨by decide +kernel, rfl⟩
theorem d_X12_laysWays_102 : decode mX12_laysWays.1 102 = .ok (.iastore, 1) ∧ 102 + 1 = 103 := ⟨by decide +kernel, rfl⟩
theorem d_X12_laysWays_103 : decode mX12_laysWays.1 103 = .ok (.iinc 4 1, 3) ∧ 103 + 3 = 106 := ⟨by decide +kernel, rfl⟩
theorem d_X12_laysWays_106 : decode mX12_laysWays.1 106 = .ok (.goto (-34), 3) ∧ ((106 : Nat) : Int) + (-34) = ((72 : Nat) : Int) := ⟨by decide +kernel, rfl⟩
set_option maxRecDepth 100000 in
set_option maxHeartbeats 4000000 in
theorem g_X12_laysWays_L72 (l : Launch) (G : xa_C) (c0 c1 c2 c3 : Int) (K : (Int × xa_H) ⊕ (xa_H) → Option xa_O) (hb : ∀ (v4 : Int) (h : xa_H), xa_G l G 4 mX12_laysWays (some (Sum.inl ((v4, h)))) K 72 [some (xR c0), some (xI c1), some (xI c2), some (xI c3), some (xI v4)] [] h) (hx : ∀ (h : xa_H), xa_G l G 4 mX12_laysWays (some (Sum.inr h)) K 109 [some (xR c0), some (xI c1), some (xI c2), some (xI c3), none] [] h) : ∀ (v4 : Int) (h : xa_H), xa_G l G 4 mX12_laysWays (f_X12_laysWays_L72 c0 c1 c2 c3 v4 h) K 72 [some (xR c0), some (xI c1), some (xI c2), some (xI c3), some (xI v4)] [] h := by
  intro v4 h
  unfold f_X12_laysWays_L72
  refine xa_step (xa_iload d_X12_laysWays_72 rfl) ?_
  refine xa_step (xa_aload_n d_X12_laysWays_74 rfl) ?_
  refine xa_callVi (as := []) (st := [xI v4]) (M' := mX12_holderMany) (d' := 2) rfl xw_1836 xw_1838 xw_108 xw_1839 xw_177 xh_X12_holderMany rfl ⟨Nat.le_of_ble_eq_true rfl, Nat.le_of_ble_eq_true rfl⟩ (Nat.le_of_ble_eq_true rfl) rfl d_X12_laysWays_75 (fun r hr => ct_X12_holderMany l G c0 h r hr) (fun r12 _ => ?_)
  refine xa_if (xa_icmpge d_X12_laysWays_78) (fun q13 => ?_) (fun q13 => ?_)
  · refine xa_step (xa_aload_n d_X12_laysWays_81 rfl) ?_
    refine xa_getf xR xc_12 (by decide) (fun _ => rfl) xw_1376 rfl d_X12_laysWays_82 (fun x14 _ => ?_)
    refine xa_step (xa_bipush d_X12_laysWays_85 xq_b_6) ?_
    refine xa_step (xa_iload d_X12_laysWays_87 rfl) ?_
    refine xa_step (xa_imul d_X12_laysWays_89) ?_
    refine xa_step (xa_aload_n d_X12_laysWays_90 rfl) ?_
    refine xa_getf xR xc_12 (by decide) (fun _ => rfl) xw_1370 rfl d_X12_laysWays_91 (fun x15 _ => ?_)
    refine xa_step (xa_iload d_X12_laysWays_94 rfl) ?_
    refine xa_iaload d_X12_laysWays_96 (fun x16 _ => ?_)
    refine xa_step (xa_iadd d_X12_laysWays_97) ?_
    refine xa_step (xa_dup2 d_X12_laysWays_98 (xa_tI _) (xa_tR _)) ?_
    refine xa_iaload d_X12_laysWays_99 (fun x17 _ => ?_)
    refine xa_step (xa_iconst d_X12_laysWays_100 xq_i_1) ?_
    refine xa_step (xa_iadd d_X12_laysWays_101) ?_
    refine xa_iastore2 d_X12_laysWays_102 (fun h18 _ => ?_)
    refine xa_step (xa_iinc (ls' := [some (xR c0), some (xI c1), some (xI c2), some (xI c3), some (xI (w32 (v4 + 1)))]) d_X12_laysWays_103 xq_i_1 rfl (by decide) rfl) ?_
    refine xa_step (xa_goto d_X12_laysWays_106) ?_
    exact xa_weak (ls' := [some (xR c0), some (xI c1), some (xI c2), some (xI c3), some (xI (w32 (v4 + 1)))]) ⟨rfl, rfl, rfl, rfl, rfl, trivial⟩ (hb (w32 (v4 + 1)) h18)
  · exact xa_weak (ls' := [some (xR c0), some (xI c1), some (xI c2), some (xI c3), none]) ⟨rfl, rfl, rfl, rfl, trivial⟩ (hx h)
set_option maxRecDepth 100000 in
set_option maxHeartbeats 4000000 in
theorem g_X12_laysWays_L50 (l : Launch) (G : xa_C) (c0 c1 : Int) (K : (Int × Int × xa_H) ⊕ (Int × xa_H) → Option xa_O) (hb : ∀ (v2 : Int) (v3 : Int) (h : xa_H), xa_G l G 4 mX12_laysWays (some (Sum.inl ((v2, v3, h)))) K 50 [some (xR c0), some (xI c1), some (xI v2), some (xI v3), none] [] h) (hx : ∀ (v2 : Int) (h : xa_H), xa_G l G 4 mX12_laysWays (some (Sum.inr ((v2, h)))) K 115 [none, none, some (xI v2), none, none] [] h) : ∀ (v2 : Int) (v3 : Int) (h : xa_H), xa_G l G 4 mX12_laysWays (f_X12_laysWays_L50 c0 c1 v2 v3 h) K 50 [some (xR c0), some (xI c1), some (xI v2), some (xI v3), none] [] h := by
  intro v2 v3 h
  unfold f_X12_laysWays_L50
  refine xa_step (xa_iload_n d_X12_laysWays_50 rfl) ?_
  refine xa_step (xa_iload_n d_X12_laysWays_51 rfl) ?_
  refine xa_if (xa_icmpge d_X12_laysWays_52) (fun q9 => ?_) (fun q9 => ?_)
  · refine xa_step (xa_aload_n d_X12_laysWays_55 rfl) ?_
    refine xa_step (xa_iload_n d_X12_laysWays_56 rfl) ?_
    refine xa_callVI (as := [xI v3]) (st := []) (M' := mX12_isWay) (d' := 3) rfl xw_2073 xw_2075 xw_146 xw_2076 xw_177 xh_X12_isWay rfl ⟨Nat.le_of_ble_eq_true rfl, Nat.le_of_ble_eq_true rfl⟩ (Nat.le_of_ble_eq_true rfl) rfl d_X12_laysWays_57 (fun r hr => ct_X12_isWay l G c0 v3 h r hr) (fun r10 _ => ?_)
    refine xa_if (xa_ifne d_X12_laysWays_60) (fun q11 => ?_) (fun q11 => ?_)
    · refine xa_step (xa_goto d_X12_laysWays_63) ?_
      refine xa_step (xa_iinc (ls' := [some (xR c0), some (xI c1), some (xI v2), some (xI (w32 (v3 + 1))), none]) d_X12_laysWays_109 xq_i_1 rfl (by decide) rfl) ?_
      refine xa_step (xa_goto d_X12_laysWays_112) ?_
      exact xa_weak (ls' := [some (xR c0), some (xI c1), some (xI v2), some (xI (w32 (v3 + 1))), none]) ⟨rfl, rfl, rfl, rfl, trivial⟩ (hb v2 (w32 (v3 + 1)) r10.2)
    · refine xa_step (xa_iinc (ls' := [some (xR c0), some (xI c1), some (xI (w32 (v2 + 1))), some (xI v3), none]) d_X12_laysWays_66 xq_i_1 rfl (by decide) rfl) ?_
      refine xa_step (xa_iconst d_X12_laysWays_69 xq_i_0) ?_
      refine xa_step (xa_istore (ls' := [some (xR c0), some (xI c1), some (xI (w32 (v2 + 1))), some (xI v3), some (xI 0)]) d_X12_laysWays_70 (by decide) rfl) ?_
      refine xa_weak (ls' := [some (xR c0), some (xI c1), some (xI (w32 (v2 + 1))), some (xI v3), some (xI 0)]) ⟨rfl, rfl, rfl, rfl, rfl, trivial⟩ ?_
      refine xa_loop (f := fun s => f_X12_laysWays_L72 c0 c1 (w32 (v2 + 1)) v3 s.1 s.2) (L := fun s => [some (xR c0), some (xI c1), some (xI (w32 (v2 + 1))), some (xI v3), some (xI s.1)]) (P := fun s => s.2) (X := (fun x K => xa_G l G 4 mX12_laysWays (some (Sum.inr x)) K 109 [some (xR c0), some (xI c1), some (xI (w32 (v2 + 1))), some (xI v3), none] [] x)) (fun K hb hX s => g_X12_laysWays_L72 l G c0 c1 (w32 (v2 + 1)) v3 K (fun w0 hh => hb ((w0, hh))) (fun hh => hX hh) s.1 s.2) ?_ xFU ((0, r10.2))
      intro e19 K hK
      refine xa_eqE hK ?_
      show xa_G l G 4 mX12_laysWays _ _ 109 [some (xR c0), some (xI c1), some (xI (w32 (v2 + 1))), some (xI v3), none] [] e19
      refine xa_step (xa_iinc (ls' := [some (xR c0), some (xI c1), some (xI (w32 (v2 + 1))), some (xI (w32 (v3 + 1))), none]) d_X12_laysWays_109 xq_i_1 rfl (by decide) rfl) ?_
      refine xa_step (xa_goto d_X12_laysWays_112) ?_
      exact xa_weak (ls' := [some (xR c0), some (xI c1), some (xI (w32 (v2 + 1))), some (xI (w32 (v3 + 1))), none]) ⟨rfl, rfl, rfl, rfl, trivial⟩ (hb (w32 (v2 + 1)) (w32 (v3 + 1)) e19)
  · exact xa_weak (ls' := [none, none, some (xI v2), none, none]) ⟨rfl, trivial⟩ (hx v2 h)
theorem d_X12_laysWays_115 : decode mX12_laysWays.1 115 = .ok (.iload_n 2, 1) ∧ 115 + 1 = 116 := ⟨by decide +kernel, rfl⟩
theorem d_X12_laysWays_116 : decode mX12_laysWays.1 116 = .ok (.ireturn, 1) := by decide +kernel
set_option maxRecDepth 100000 in
set_option maxHeartbeats 4000000 in
theorem g_X12_laysWays (l : Launch) (G : xa_C) (v0 : Int) (h : xa_H) : xa_G l G 4 mX12_laysWays (f_X12_laysWays v0 h) (fun r => some (some (xI r.1), r.2) : (Int × xa_H) → Option xa_O) 0 [some (xR v0), none, none, none, none] [] h := by
  unfold f_X12_laysWays
  refine xa_step (xa_iconst d_X12_laysWays_0 xq_i_0) ?_
  refine xa_step (xa_istore_n (ls' := [some (xR v0), some (xI 0), none, none, none]) d_X12_laysWays_1 (by decide) rfl) ?_
  refine xa_weak (ls' := [some (xR v0), some (xI 0), none, none, none]) ⟨rfl, rfl, trivial⟩ ?_
  refine xa_loop (f := fun s => f_X12_laysWays_L2 v0 s.1 s.2) (L := fun s => [some (xR v0), some (xI s.1), none, none, none]) (P := fun s => s.2) (X := (fun x K => xa_G l G 4 mX12_laysWays (some (Sum.inr x)) K 21 [some (xR v0), none, none, none, none] [] x)) (fun K hb hX s => g_X12_laysWays_L2 l G v0 K (fun w0 hh => hb ((w0, hh))) (fun hh => hX hh) s.1 s.2) ?_ xFU ((0, h))
  intro e4 K hK
  refine xa_eqE hK ?_
  show xa_G l G 4 mX12_laysWays _ _ 21 [some (xR v0), none, none, none, none] [] e4
  refine xa_step (xa_iconst d_X12_laysWays_21 xq_i_1) ?_
  refine xa_step (xa_istore_n (ls' := [some (xR v0), some (xI 1), none, none, none]) d_X12_laysWays_22 (by decide) rfl) ?_
  refine xa_step (xa_iconst d_X12_laysWays_23 xq_i_0) ?_
  refine xa_step (xa_istore_n (ls' := [some (xR v0), some (xI 1), some (xI 0), none, none]) d_X12_laysWays_24 (by decide) rfl) ?_
  refine xa_weak (ls' := [some (xR v0), some (xI 1), some (xI 0), none, none]) ⟨rfl, rfl, rfl, trivial⟩ ?_
  refine xa_loop (f := fun s => f_X12_laysWays_L25 v0 e4 s.1 s.2) (L := fun s => [some (xR v0), some (xI s.1), some (xI s.2), none, none]) (P := fun s => e4) (X := (fun x K => xa_G l G 4 mX12_laysWays (some (Sum.inr x)) K 46 [some (xR v0), some (xI x), none, none, none] [] e4)) (fun K hb hX s => g_X12_laysWays_L25 l G v0 e4 K (fun w0 w1 => hb ((w0, w1))) (fun w0 => hX w0) s.1 s.2) ?_ xFU ((1, 0))
  intro e8 K hK
  refine xa_eqE hK ?_
  show xa_G l G 4 mX12_laysWays _ _ 46 [some (xR v0), some (xI e8), none, none, none] [] e4
  refine xa_step (xa_iconst d_X12_laysWays_46 xq_i_0) ?_
  refine xa_step (xa_istore_n (ls' := [some (xR v0), some (xI e8), some (xI 0), none, none]) d_X12_laysWays_47 (by decide) rfl) ?_
  refine xa_step (xa_iconst d_X12_laysWays_48 xq_i_0) ?_
  refine xa_step (xa_istore_n (ls' := [some (xR v0), some (xI e8), some (xI 0), some (xI 0), none]) d_X12_laysWays_49 (by decide) rfl) ?_
  refine xa_weak (ls' := [some (xR v0), some (xI e8), some (xI 0), some (xI 0), none]) ⟨rfl, rfl, rfl, rfl, trivial⟩ ?_
  refine xa_loop (f := fun s => f_X12_laysWays_L50 v0 e8 s.1 s.2.1 s.2.2) (L := fun s => [some (xR v0), some (xI e8), some (xI s.1), some (xI s.2.1), none]) (P := fun s => s.2.2) (X := (fun x K => xa_G l G 4 mX12_laysWays (some (Sum.inr x)) K 115 [none, none, some (xI x.1), none, none] [] x.2)) (fun K hb hX s => g_X12_laysWays_L50 l G v0 e8 K (fun w0 w1 hh => hb ((w0, w1, hh))) (fun w0 hh => hX ((w0, hh))) s.1 s.2.1 s.2.2) ?_ xFU ((0, 0, e4))
  intro e20 K hK
  refine xa_eqE hK ?_
  show xa_G l G 4 mX12_laysWays _ _ 115 [none, none, some (xI e20.1), none, none] [] e20.2
  refine xa_step (xa_iload_n d_X12_laysWays_115 rfl) ?_
  exact xa_iret d_X12_laysWays_116 rfl rfl
theorem ct_X12_laysWays (l : Launch) (G : xa_C) (v0 : Int) (h : xa_H) (r : Int × xa_H) (hr : f_X12_laysWays v0 h = some r) : xa_CT l G 4 mX12_laysWays yX12_laysWays [xR v0] h (some (xI r.1), r.2) :=
  xa_met (by decide +kernel) rfl (fun q => by first | rfl | cases q) (Nat.le_of_ble_eq_true rfl) rfl (g_X12_laysWays l G v0 h) (by rw [hr]; rfl)
abbrev mX12_can : xa_M := (cX12_can, 5, (some (.int)), RX12, false)
theorem d_X12_can_0 : decode mX12_can.1 0 = .ok (.iload_n 1, 1) ∧ 0 + 1 = 1 := ⟨by decide +kernel, rfl⟩
theorem d_X12_can_1 : decode mX12_can.1 1 = .ok (.iconst (-1), 1) ∧ 1 + 1 = 2 := ⟨by decide +kernel, rfl⟩
theorem d_X12_can_2 : decode mX12_can.1 2 = .ok (.if_icmp .eq 13, 3) ∧ 2 + 3 = 5 ∧ ((2 : Nat) : Int) + 13 = ((15 : Nat) : Int) := ⟨by decide +kernel, rfl, rfl⟩
theorem d_X12_can_15 : decode mX12_can.1 15 = .ok (.aload_n 0, 1) ∧ 15 + 1 = 16 := ⟨by decide +kernel, rfl⟩
theorem d_X12_can_16 : decode mX12_can.1 16 = .ok (.invokevirtual 565, 3) ∧ 16 + 3 = 19 := ⟨by decide +kernel, rfl⟩
theorem d_X12_can_19 : decode mX12_can.1 19 = .ok (.istore_n 2, 1) ∧ 19 + 1 = 20 := ⟨by decide +kernel, rfl⟩
theorem d_X12_can_20 : decode mX12_can.1 20 = .ok (.iload_n 1, 1) ∧ 20 + 1 = 21 := ⟨by decide +kernel, rfl⟩
theorem d_X12_can_21 : decode mX12_can.1 21 = .ok (.iconst (-1), 1) ∧ 21 + 1 = 22 := ⟨by decide +kernel, rfl⟩
theorem d_X12_can_22 : decode mX12_can.1 22 = .ok (.if_icmp .ne 5, 3) ∧ 22 + 3 = 25 ∧ ((22 : Nat) : Int) + 5 = ((27 : Nat) : Int) := ⟨by decide +kernel, rfl, rfl⟩
theorem d_X12_can_25 : decode mX12_can.1 25 = .ok (.iload_n 2, 1) ∧ 25 + 1 = 26 := ⟨by decide +kernel, rfl⟩
theorem d_X12_can_26 : decode mX12_can.1 26 = .ok (.ireturn, 1) := by decide +kernel
theorem d_X12_can_27 : decode mX12_can.1 27 = .ok (.iconst 0, 1) ∧ 27 + 1 = 28 := ⟨by decide +kernel, rfl⟩
theorem d_X12_can_28 : decode mX12_can.1 28 = .ok (.istore_n 3, 1) ∧ 28 + 1 = 29 := ⟨by decide +kernel, rfl⟩
theorem d_X12_can_29 : decode mX12_can.1 29 = .ok (.iconst 0, 1) ∧ 29 + 1 = 30 := ⟨by decide +kernel, rfl⟩
theorem d_X12_can_30 : decode mX12_can.1 30 = .ok (.istore 4, 2) ∧ 30 + 2 = 32 := ⟨by decide +kernel, rfl⟩
theorem d_X12_can_32 : decode mX12_can.1 32 = .ok (.iload 4, 2) ∧ 32 + 2 = 34 := ⟨by decide +kernel, rfl⟩
theorem d_X12_can_34 : decode mX12_can.1 34 = .ok (.aload_n 0, 1) ∧ 34 + 1 = 35 := ⟨by decide +kernel, rfl⟩
theorem d_X12_can_35 : decode mX12_can.1 35 = .ok (.invokevirtual 399, 3) ∧ 35 + 3 = 38 := ⟨by decide +kernel, rfl⟩
theorem d_X12_can_38 : decode mX12_can.1 38 = .ok (.if_icmp .ge 31, 3) ∧ 38 + 3 = 41 ∧ ((38 : Nat) : Int) + 31 = ((69 : Nat) : Int) := ⟨by decide +kernel, rfl, rfl⟩
theorem d_X12_can_41 : decode mX12_can.1 41 = .ok (.aload_n 0, 1) ∧ 41 + 1 = 42 := ⟨by decide +kernel, rfl⟩
theorem d_X12_can_42 : decode mX12_can.1 42 = .ok (.getfield 164, 3) ∧ 42 + 3 = 45 := ⟨by decide +kernel, rfl⟩
theorem d_X12_can_45 : decode mX12_can.1 45 = .ok (.bipush 6, 2) ∧ 45 + 2 = 47 := ⟨by decide +kernel, rfl⟩
theorem d_X12_can_47 : decode mX12_can.1 47 = .ok (.iload_n 1, 1) ∧ 47 + 1 = 48 := ⟨by decide +kernel, rfl⟩
theorem d_X12_can_48 : decode mX12_can.1 48 = .ok (.imul, 1) ∧ 48 + 1 = 49 := ⟨by decide +kernel, rfl⟩
theorem d_X12_can_49 : decode mX12_can.1 49 = .ok (.iload 4, 2) ∧ 49 + 2 = 51 := ⟨by decide +kernel, rfl⟩
theorem d_X12_can_51 : decode mX12_can.1 51 = .ok (.iadd, 1) ∧ 51 + 1 = 52 := ⟨by decide +kernel, rfl⟩
theorem d_X12_can_52 : decode mX12_can.1 52 = .ok (.iaload, 1) ∧ 52 + 1 = 53 := ⟨by decide +kernel, rfl⟩
theorem d_X12_can_53 : decode mX12_can.1 53 = .ok (.ifCond .le 10, 3) ∧ 53 + 3 = 56 ∧ ((53 : Nat) : Int) + 10 = ((63 : Nat) : Int) := ⟨by decide +kernel, rfl, rfl⟩
theorem d_X12_can_56 : decode mX12_can.1 56 = .ok (.iload_n 3, 1) ∧ 56 + 1 = 57 := ⟨by decide +kernel, rfl⟩
theorem d_X12_can_57 : decode mX12_can.1 57 = .ok (.iconst 1, 1) ∧ 57 + 1 = 58 := ⟨by decide +kernel, rfl⟩
theorem d_X12_can_58 : decode mX12_can.1 58 = .ok (.iload 4, 2) ∧ 58 + 2 = 60 := ⟨by decide +kernel, rfl⟩
theorem d_X12_can_60 : decode mX12_can.1 60 = .ok (.ishl, 1) ∧ 60 + 1 = 61 := ⟨by decide +kernel, rfl⟩
theorem d_X12_can_61 : decode mX12_can.1 61 = .ok (.ior, 1) ∧ 61 + 1 = 62 := ⟨by decide +kernel, rfl⟩
theorem d_X12_can_62 : decode mX12_can.1 62 = .ok (.istore_n 3, 1) ∧ 62 + 1 = 63 := ⟨by decide +kernel, rfl⟩
theorem d_X12_can_63 : decode mX12_can.1 63 = .ok (.iinc 4 1, 3) ∧ 63 + 3 = 66 := ⟨by decide +kernel, rfl⟩
theorem d_X12_can_66 : decode mX12_can.1 66 = .ok (.goto (-34), 3) ∧ ((66 : Nat) : Int) + (-34) = ((32 : Nat) : Int) := ⟨by decide +kernel, rfl⟩
set_option maxRecDepth 100000 in
set_option maxHeartbeats 4000000 in
theorem g_X12_can_L32 (l : Launch) (G : xa_C) (c0 c1 : Int) (h : xa_H) (K : (Int × Int) ⊕ (Int) → Option xa_O) (hb : ∀ (v3 : Int) (v4 : Int), xa_G l G 5 mX12_can (some (Sum.inl ((v3, v4)))) K 32 [some (xR c0), some (xI c1), none, some (xI v3), some (xI v4)] [] h) (hx : ∀ (v3 : Int), xa_G l G 5 mX12_can (some (Sum.inr v3)) K 69 [none, none, none, some (xI v3), none] [] h) : ∀ (v3 : Int) (v4 : Int), xa_G l G 5 mX12_can (f_X12_can_L32 c0 c1 h v3 v4) K 32 [some (xR c0), some (xI c1), none, some (xI v3), some (xI v4)] [] h := by
  intro v3 v4
  unfold f_X12_can_L32
  refine xa_step (xa_iload d_X12_can_32 rfl) ?_
  refine xa_step (xa_aload_n d_X12_can_34 rfl) ?_
  refine xa_callVi (as := []) (st := [xI v4]) (M' := mX12_heldMany) (d' := 2) rfl xw_1873 xw_1875 xw_115 xw_1876 xw_177 xh_X12_heldMany rfl ⟨Nat.le_of_ble_eq_true rfl, Nat.le_of_ble_eq_true rfl⟩ (Nat.le_of_ble_eq_true rfl) rfl d_X12_can_35 (fun r hr => ct_X12_heldMany l G c0 h r hr) (fun r4 _ => ?_)
  refine xa_if (xa_icmpge d_X12_can_38) (fun q5 => ?_) (fun q5 => ?_)
  · refine xa_step (xa_aload_n d_X12_can_41 rfl) ?_
    refine xa_getf xR xc_12 (by decide) (fun _ => rfl) xw_1376 rfl d_X12_can_42 (fun x6 _ => ?_)
    refine xa_step (xa_bipush d_X12_can_45 xq_b_6) ?_
    refine xa_step (xa_iload_n d_X12_can_47 rfl) ?_
    refine xa_step (xa_imul d_X12_can_48) ?_
    refine xa_step (xa_iload d_X12_can_49 rfl) ?_
    refine xa_step (xa_iadd d_X12_can_51) ?_
    refine xa_iaload d_X12_can_52 (fun x7 _ => ?_)
    refine xa_if (xa_ifle d_X12_can_53) (fun q8 => ?_) (fun q8 => ?_)
    · refine xa_step (xa_iload_n d_X12_can_56 rfl) ?_
      refine xa_step (xa_iconst d_X12_can_57 xq_i_1) ?_
      refine xa_step (xa_iload d_X12_can_58 rfl) ?_
      refine xa_step (xa_ishl d_X12_can_60) ?_
      refine xa_step (xa_ior d_X12_can_61) ?_
      refine xa_step (xa_istore_n (ls' := [some (xR c0), some (xI c1), none, some (xI (xior v3 (xshl 1 v4))), some (xI v4)]) d_X12_can_62 (by decide) rfl) ?_
      refine xa_step (xa_iinc (ls' := [some (xR c0), some (xI c1), none, some (xI (xior v3 (xshl 1 v4))), some (xI (w32 (v4 + 1)))]) d_X12_can_63 xq_i_1 rfl (by decide) rfl) ?_
      refine xa_step (xa_goto d_X12_can_66) ?_
      exact xa_weak (ls' := [some (xR c0), some (xI c1), none, some (xI (xior v3 (xshl 1 v4))), some (xI (w32 (v4 + 1)))]) ⟨rfl, rfl, rfl, rfl, trivial⟩ (hb (xior v3 (xshl 1 v4)) (w32 (v4 + 1)))
    · refine xa_step (xa_iinc (ls' := [some (xR c0), some (xI c1), none, some (xI v3), some (xI (w32 (v4 + 1)))]) d_X12_can_63 xq_i_1 rfl (by decide) rfl) ?_
      refine xa_step (xa_goto d_X12_can_66) ?_
      exact xa_weak (ls' := [some (xR c0), some (xI c1), none, some (xI v3), some (xI (w32 (v4 + 1)))]) ⟨rfl, rfl, rfl, rfl, trivial⟩ (hb v3 (w32 (v4 + 1)))
  · exact xa_weak (ls' := [none, none, none, some (xI v3), none]) ⟨rfl, trivial⟩ (hx v3)
theorem d_X12_can_69 : decode mX12_can.1 69 = .ok (.iload_n 3, 1) ∧ 69 + 1 = 70 := ⟨by decide +kernel, rfl⟩
theorem d_X12_can_70 : decode mX12_can.1 70 = .ok (.ireturn, 1) := by decide +kernel
set_option maxRecDepth 100000 in
set_option maxHeartbeats 4000000 in
theorem g_X12_can_J15 (l : Launch) (G : xa_C) : ∀ (v0 v1 : Int) (h : xa_H) , xa_G l G 5 mX12_can (f_X12_can_J15 v0 v1 h) (fun r => some (some (xI r.1), r.2) : (Int × xa_H) → Option xa_O) 15 [some (xR v0), some (xI v1), none, none, none] [] h := by
  intro v0 v1 h
  unfold f_X12_can_J15
  refine xa_step (xa_aload_n d_X12_can_15 rfl) ?_
  refine xa_callVI (as := []) (st := []) (M' := mX12_laysWays) (d' := 4) rfl xw_2069 xw_2071 xw_145 xw_2072 xw_177 xh_X12_laysWays rfl ⟨Nat.le_of_ble_eq_true rfl, Nat.le_of_ble_eq_true rfl⟩ (Nat.le_of_ble_eq_true rfl) rfl d_X12_can_16 (fun r hr => ct_X12_laysWays l G v0 h r hr) (fun r2 _ => ?_)
  refine xa_step (xa_istore_n (ls' := [some (xR v0), some (xI v1), some (xI r2.1), none, none]) d_X12_can_19 (by decide) rfl) ?_
  refine xa_step (xa_iload_n d_X12_can_20 rfl) ?_
  refine xa_step (xa_iconst d_X12_can_21 xq_i_m1) ?_
  refine xa_if (xa_icmpne d_X12_can_22) (fun q3 => ?_) (fun q3 => ?_)
  · refine xa_step (xa_iload_n d_X12_can_25 rfl) ?_
    exact xa_iret d_X12_can_26 rfl rfl
  · refine xa_step (xa_iconst d_X12_can_27 xq_i_0) ?_
    refine xa_step (xa_istore_n (ls' := [some (xR v0), some (xI v1), some (xI r2.1), some (xI 0), none]) d_X12_can_28 (by decide) rfl) ?_
    refine xa_step (xa_iconst d_X12_can_29 xq_i_0) ?_
    refine xa_step (xa_istore (ls' := [some (xR v0), some (xI v1), some (xI r2.1), some (xI 0), some (xI 0)]) d_X12_can_30 (by decide) rfl) ?_
    refine xa_weak (ls' := [some (xR v0), some (xI v1), none, some (xI 0), some (xI 0)]) ⟨rfl, rfl, rfl, rfl, trivial⟩ ?_
    refine xa_loop (f := fun s => f_X12_can_L32 v0 v1 r2.2 s.1 s.2) (L := fun s => [some (xR v0), some (xI v1), none, some (xI s.1), some (xI s.2)]) (P := fun s => r2.2) (X := (fun x K => xa_G l G 5 mX12_can (some (Sum.inr x)) K 69 [none, none, none, some (xI x), none] [] r2.2)) (fun K hb hX s => g_X12_can_L32 l G v0 v1 r2.2 K (fun w0 w1 => hb ((w0, w1))) (fun w0 => hX w0) s.1 s.2) ?_ xFU ((0, 0))
    intro e9 K hK
    refine xa_eqE hK ?_
    show xa_G l G 5 mX12_can _ _ 69 [none, none, none, some (xI e9), none] [] r2.2
    refine xa_step (xa_iload_n d_X12_can_69 rfl) ?_
    exact xa_iret d_X12_can_70 rfl rfl
theorem d_X12_can_5 : decode mX12_can.1 5 = .ok (.aload_n 0, 1) ∧ 5 + 1 = 6 := ⟨by decide +kernel, rfl⟩
theorem d_X12_can_6 : decode mX12_can.1 6 = .ok (.iload_n 1, 1) ∧ 6 + 1 = 7 := ⟨by decide +kernel, rfl⟩
theorem d_X12_can_7 : decode mX12_can.1 7 = .ok (.invokevirtual 458, 3) ∧ 7 + 3 = 10 := ⟨by decide +kernel, rfl⟩
theorem d_X12_can_10 : decode mX12_can.1 10 = .ok (.ifCond .ne 5, 3) ∧ 10 + 3 = 13 ∧ ((10 : Nat) : Int) + 5 = ((15 : Nat) : Int) := ⟨by decide +kernel, rfl, rfl⟩
theorem d_X12_can_13 : decode mX12_can.1 13 = .ok (.iconst (-1), 1) ∧ 13 + 1 = 14 := ⟨by decide +kernel, rfl⟩
theorem d_X12_can_14 : decode mX12_can.1 14 = .ok (.ireturn, 1) := by decide +kernel
set_option maxRecDepth 100000 in
set_option maxHeartbeats 4000000 in
theorem g_X12_can (l : Launch) (G : xa_C) (v0 v1 : Int) (h : xa_H) : xa_G l G 5 mX12_can (f_X12_can v0 v1 h) (fun r => some (some (xI r.1), r.2) : (Int × xa_H) → Option xa_O) 0 [some (xR v0), some (xI v1), none, none, none] [] h := by
  unfold f_X12_can
  refine xa_step (xa_iload_n d_X12_can_0 rfl) ?_
  refine xa_step (xa_iconst d_X12_can_1 xq_i_m1) ?_
  refine xa_if (xa_icmpeq d_X12_can_2) (fun q1 => ?_) (fun q1 => ?_)
  · exact xa_weak (ls' := [some (xR v0), some (xI v1), none, none, none]) ⟨rfl, rfl, trivial⟩ (g_X12_can_J15 l G v0 v1 h)
  · refine xa_step (xa_aload_n d_X12_can_5 rfl) ?_
    refine xa_step (xa_iload_n d_X12_can_6 rfl) ?_
    refine xa_callVi (as := [xI v1]) (st := []) (M' := mX12_isHolder) (d' := 3) rfl xw_1889 xw_1891 xw_118 xw_1892 xw_177 xh_X12_isHolder rfl ⟨Nat.le_of_ble_eq_true rfl, Nat.le_of_ble_eq_true rfl⟩ (Nat.le_of_ble_eq_true rfl) rfl d_X12_can_7 (fun r hr => ct_X12_isHolder l G v0 v1 h r hr) (fun r10 _ => ?_)
    refine xa_if (xa_ifne d_X12_can_10) (fun q11 => ?_) (fun q11 => ?_)
    · refine xa_step (xa_iconst d_X12_can_13 xq_i_m1) ?_
      exact xa_iret d_X12_can_14 rfl rfl
    · exact xa_weak (ls' := [some (xR v0), some (xI v1), none, none, none]) ⟨rfl, rfl, trivial⟩ (g_X12_can_J15 l G v0 v1 h)
theorem ct_X12_can (l : Launch) (G : xa_C) (v0 v1 : Int) (h : xa_H) (r : Int × xa_H) (hr : f_X12_can v0 v1 h = some r) : xa_CT l G 5 mX12_can yX12_can [xR v0, xI v1] h (some (xI r.1), r.2) :=
  xa_met (by decide +kernel) rfl (fun q => by first | rfl | cases q) (Nat.le_of_ble_eq_true rfl) rfl (g_X12_can l G v0 v1 h) (by rw [hr]; rfl)
abbrev mX12_clear : xa_M := (cX12_clear, 5, (some (.int)), RX12, false)
theorem d_X12_clear_0 : decode mX12_clear.1 0 = .ok (.iload_n 1, 1) ∧ 0 + 1 = 1 := ⟨by decide +kernel, rfl⟩
theorem d_X12_clear_1 : decode mX12_clear.1 1 = .ok (.i2l, 1) ∧ 1 + 1 = 2 := ⟨by decide +kernel, rfl⟩
theorem d_X12_clear_2 : decode mX12_clear.1 2 = .ok (.lconst 0, 1) ∧ 2 + 1 = 3 := ⟨by decide +kernel, rfl⟩
theorem d_X12_clear_3 : decode mX12_clear.1 3 = .ok (.ldc2_w 486, 3) ∧ 3 + 3 = 6 := ⟨by decide +kernel, rfl⟩
theorem d_X12_clear_6 : decode mX12_clear.1 6 = .ok (.invokestatic 289, 3) ∧ 6 + 3 = 9 := ⟨by decide +kernel, rfl⟩
theorem d_X12_clear_9 : decode mX12_clear.1 9 = .ok (.ifCond .ne 5, 3) ∧ 9 + 3 = 12 ∧ ((9 : Nat) : Int) + 5 = ((14 : Nat) : Int) := ⟨by decide +kernel, rfl, rfl⟩
theorem d_X12_clear_12 : decode mX12_clear.1 12 = .ok (.iconst (-1), 1) ∧ 12 + 1 = 13 := ⟨by decide +kernel, rfl⟩
theorem d_X12_clear_13 : decode mX12_clear.1 13 = .ok (.ireturn, 1) := by decide +kernel
theorem d_X12_clear_14 : decode mX12_clear.1 14 = .ok (.lconst 1, 1) ∧ 14 + 1 = 15 := ⟨by decide +kernel, rfl⟩
theorem d_X12_clear_15 : decode mX12_clear.1 15 = .ok (.lstore_n 2, 1) ∧ 15 + 1 = 16 := ⟨by decide +kernel, rfl⟩
theorem d_X12_clear_16 : decode mX12_clear.1 16 = .ok (.iconst 0, 1) ∧ 16 + 1 = 17 := ⟨by decide +kernel, rfl⟩
theorem d_X12_clear_17 : decode mX12_clear.1 17 = .ok (.istore 4, 2) ∧ 17 + 2 = 19 := ⟨by decide +kernel, rfl⟩
theorem d_X12_clear_19 : decode mX12_clear.1 19 = .ok (.iload 4, 2) ∧ 19 + 2 = 21 := ⟨by decide +kernel, rfl⟩
theorem d_X12_clear_21 : decode mX12_clear.1 21 = .ok (.iload_n 1, 1) ∧ 21 + 1 = 22 := ⟨by decide +kernel, rfl⟩
theorem d_X12_clear_22 : decode mX12_clear.1 22 = .ok (.if_icmp .ge 22, 3) ∧ 22 + 3 = 25 ∧ ((22 : Nat) : Int) + 22 = ((44 : Nat) : Int) := ⟨by decide +kernel, rfl, rfl⟩
theorem d_X12_clear_25 : decode mX12_clear.1 25 = .ok (.lload_n 2, 1) ∧ 25 + 1 = 26 := ⟨by decide +kernel, rfl⟩
theorem d_X12_clear_26 : decode mX12_clear.1 26 = .ok (.bipush 100, 2) ∧ 26 + 2 = 28 := ⟨by decide +kernel, rfl⟩
theorem d_X12_clear_28 : decode mX12_clear.1 28 = .ok (.aload_n 0, 1) ∧ 28 + 1 = 29 := ⟨by decide +kernel, rfl⟩
theorem d_X12_clear_29 : decode mX12_clear.1 29 = .ok (.getfield 118, 3) ∧ 29 + 3 = 32 := ⟨by decide +kernel, rfl⟩
theorem d_X12_clear_32 : decode mX12_clear.1 32 = .ok (.iconst 1, 1) ∧ 32 + 1 = 33 := ⟨by decide +kernel, rfl⟩
theorem d_X12_clear_33 : decode mX12_clear.1 33 = .ok (.iaload, 1) ∧ 33 + 1 = 34 := ⟨by decide +kernel, rfl⟩
theorem d_X12_clear_34 : decode mX12_clear.1 34 = .ok (.isub, 1) ∧ 34 + 1 = 35 := ⟨by decide +kernel, rfl⟩
theorem d_X12_clear_35 : decode mX12_clear.1 35 = .ok (.i2l, 1) ∧ 35 + 1 = 36 := ⟨by decide +kernel, rfl⟩
theorem d_X12_clear_36 : decode mX12_clear.1 36 = .ok (.lmul, 1) ∧ 36 + 1 = 37 := ⟨by decide +kernel, rfl⟩
theorem d_X12_clear_37 : decode mX12_clear.1 37 = .ok (.lstore_n 2, 1) ∧ 37 + 1 = 38 := ⟨by decide +kernel, rfl⟩
theorem d_X12_clear_38 : decode mX12_clear.1 38 = .ok (.iinc 4 1, 3) ∧ 38 + 3 = 41 := ⟨by decide +kernel, rfl⟩
theorem d_X12_clear_41 : decode mX12_clear.1 41 = .ok (.goto (-22), 3) ∧ ((41 : Nat) : Int) + (-22) = ((19 : Nat) : Int) := ⟨by decide +kernel, rfl⟩
set_option maxRecDepth 100000 in
set_option maxHeartbeats 4000000 in
theorem g_X12_clear_L19 (l : Launch) (G : xa_C) (c0 c1 : Int) (h : xa_H) (K : (Int × Int) ⊕ (Int) → Option xa_O) (hb : ∀ (v2 : Int) (v4 : Int), xa_G l G 3 mX12_clear (some (Sum.inl ((v2, v4)))) K 19 [some (xR c0), some (xI c1), some (xL v2), none, some (xI v4)] [] h) (hx : ∀ (v2 : Int), xa_G l G 3 mX12_clear (some (Sum.inr v2)) K 44 [none, some (xI c1), some (xL v2), none, none] [] h) : ∀ (v2 : Int) (v4 : Int), xa_G l G 3 mX12_clear (f_X12_clear_L19 c0 c1 h v2 v4) K 19 [some (xR c0), some (xI c1), some (xL v2), none, some (xI v4)] [] h := by
  intro v2 v4
  unfold f_X12_clear_L19
  refine xa_step (xa_iload d_X12_clear_19 rfl) ?_
  refine xa_step (xa_iload_n d_X12_clear_21 rfl) ?_
  refine xa_if (xa_icmpge d_X12_clear_22) (fun q3 => ?_) (fun q3 => ?_)
  · refine xa_step (xa_lload_n d_X12_clear_25 rfl) ?_
    refine xa_step (xa_bipush d_X12_clear_26 xq_b_100) ?_
    refine xa_step (xa_aload_n d_X12_clear_28 rfl) ?_
    refine xa_getf xR xc_12 (by decide) (fun _ => rfl) xw_1347 rfl d_X12_clear_29 (fun x4 _ => ?_)
    refine xa_step (xa_iconst d_X12_clear_32 xq_i_1) ?_
    refine xa_iaload d_X12_clear_33 (fun x5 _ => ?_)
    refine xa_step (xa_isub d_X12_clear_34) ?_
    refine xa_step (xa_i2l d_X12_clear_35) ?_
    refine xa_step (xa_lmul d_X12_clear_36) ?_
    refine xa_step (xa_lstore_n (ls' := [some (xR c0), some (xI c1), some (xL (w64 (v2 * (w32 (100 - x5))))), none, some (xI v4)]) d_X12_clear_37 (by decide) rfl) ?_
    refine xa_step (xa_iinc (ls' := [some (xR c0), some (xI c1), some (xL (w64 (v2 * (w32 (100 - x5))))), none, some (xI (w32 (v4 + 1)))]) d_X12_clear_38 xq_i_1 rfl (by decide) rfl) ?_
    refine xa_step (xa_goto d_X12_clear_41) ?_
    exact xa_weak (ls' := [some (xR c0), some (xI c1), some (xL (w64 (v2 * (w32 (100 - x5))))), none, some (xI (w32 (v4 + 1)))]) ⟨rfl, rfl, rfl, rfl, trivial⟩ (hb (w64 (v2 * (w32 (100 - x5)))) (w32 (v4 + 1)))
  · exact xa_weak (ls' := [none, some (xI c1), some (xL v2), none, none]) ⟨rfl, rfl, trivial⟩ (hx v2)
theorem d_X12_clear_44 : decode mX12_clear.1 44 = .ok (.iload_n 1, 1) ∧ 44 + 1 = 45 := ⟨by decide +kernel, rfl⟩
theorem d_X12_clear_45 : decode mX12_clear.1 45 = .ok (.istore 4, 2) ∧ 45 + 2 = 47 := ⟨by decide +kernel, rfl⟩
theorem d_X12_clear_47 : decode mX12_clear.1 47 = .ok (.iload 4, 2) ∧ 47 + 2 = 49 := ⟨by decide +kernel, rfl⟩
theorem d_X12_clear_49 : decode mX12_clear.1 49 = .ok (.iconst 3, 1) ∧ 49 + 1 = 50 := ⟨by decide +kernel, rfl⟩
theorem d_X12_clear_50 : decode mX12_clear.1 50 = .ok (.if_icmp .ge 15, 3) ∧ 50 + 3 = 53 ∧ ((50 : Nat) : Int) + 15 = ((65 : Nat) : Int) := ⟨by decide +kernel, rfl, rfl⟩
theorem d_X12_clear_53 : decode mX12_clear.1 53 = .ok (.lload_n 2, 1) ∧ 53 + 1 = 54 := ⟨by decide +kernel, rfl⟩
theorem d_X12_clear_54 : decode mX12_clear.1 54 = .ok (.ldc2_w 560, 3) ∧ 54 + 3 = 57 := ⟨by decide +kernel, rfl⟩
theorem d_X12_clear_57 : decode mX12_clear.1 57 = .ok (.lmul, 1) ∧ 57 + 1 = 58 := ⟨by decide +kernel, rfl⟩
theorem d_X12_clear_58 : decode mX12_clear.1 58 = .ok (.lstore_n 2, 1) ∧ 58 + 1 = 59 := ⟨by decide +kernel, rfl⟩
theorem d_X12_clear_59 : decode mX12_clear.1 59 = .ok (.iinc 4 1, 3) ∧ 59 + 3 = 62 := ⟨by decide +kernel, rfl⟩
theorem d_X12_clear_62 : decode mX12_clear.1 62 = .ok (.goto (-15), 3) ∧ ((62 : Nat) : Int) + (-15) = ((47 : Nat) : Int) := ⟨by decide +kernel, rfl⟩
set_option maxRecDepth 100000 in
set_option maxHeartbeats 4000000 in
theorem g_X12_clear_L47 (l : Launch) (G : xa_C) (c1 : Int) (h : xa_H) (K : (Int × Int) ⊕ (Int) → Option xa_O) (hb : ∀ (v2 : Int) (v4 : Int), xa_G l G 3 mX12_clear (some (Sum.inl ((v2, v4)))) K 47 [none, some (xI c1), some (xL v2), none, some (xI v4)] [] h) (hx : ∀ (v2 : Int), xa_G l G 3 mX12_clear (some (Sum.inr v2)) K 65 [none, some (xI c1), some (xL v2), none, none] [] h) : ∀ (v2 : Int) (v4 : Int), xa_G l G 3 mX12_clear (f_X12_clear_L47 c1 h v2 v4) K 47 [none, some (xI c1), some (xL v2), none, some (xI v4)] [] h := by
  intro v2 v4
  unfold f_X12_clear_L47
  refine xa_step (xa_iload d_X12_clear_47 rfl) ?_
  refine xa_step (xa_iconst d_X12_clear_49 xq_i_3) ?_
  refine xa_if (xa_icmpge d_X12_clear_50) (fun q7 => ?_) (fun q7 => ?_)
  · refine xa_step (xa_lload_n d_X12_clear_53 rfl) ?_
    refine xa_step (xa_ldc2 (c64 := 100) (v := 100) (by decide +kernel) xw_2056 d_X12_clear_54) ?_
    refine xa_step (xa_lmul d_X12_clear_57) ?_
    refine xa_step (xa_lstore_n (ls' := [none, some (xI c1), some (xL (w64 (v2 * 100))), none, some (xI v4)]) d_X12_clear_58 (by decide) rfl) ?_
    refine xa_step (xa_iinc (ls' := [none, some (xI c1), some (xL (w64 (v2 * 100))), none, some (xI (w32 (v4 + 1)))]) d_X12_clear_59 xq_i_1 rfl (by decide) rfl) ?_
    refine xa_step (xa_goto d_X12_clear_62) ?_
    exact xa_weak (ls' := [none, some (xI c1), some (xL (w64 (v2 * 100))), none, some (xI (w32 (v4 + 1)))]) ⟨rfl, rfl, rfl, trivial⟩ (hb (w64 (v2 * 100)) (w32 (v4 + 1)))
  · exact xa_weak (ls' := [none, some (xI c1), some (xL v2), none, none]) ⟨rfl, rfl, trivial⟩ (hx v2)
theorem d_X12_clear_65 : decode mX12_clear.1 65 = .ok (.iconst 3, 1) ∧ 65 + 1 = 66 := ⟨by decide +kernel, rfl⟩
theorem d_X12_clear_66 : decode mX12_clear.1 66 = .ok (.istore 4, 2) ∧ 66 + 2 = 68 := ⟨by decide +kernel, rfl⟩
theorem d_X12_clear_68 : decode mX12_clear.1 68 = .ok (.iload 4, 2) ∧ 68 + 2 = 70 := ⟨by decide +kernel, rfl⟩
theorem d_X12_clear_70 : decode mX12_clear.1 70 = .ok (.iload_n 1, 1) ∧ 70 + 1 = 71 := ⟨by decide +kernel, rfl⟩
theorem d_X12_clear_71 : decode mX12_clear.1 71 = .ok (.if_icmp .ge 15, 3) ∧ 71 + 3 = 74 ∧ ((71 : Nat) : Int) + 15 = ((86 : Nat) : Int) := ⟨by decide +kernel, rfl, rfl⟩
theorem d_X12_clear_74 : decode mX12_clear.1 74 = .ok (.lload_n 2, 1) ∧ 74 + 1 = 75 := ⟨by decide +kernel, rfl⟩
theorem d_X12_clear_75 : decode mX12_clear.1 75 = .ok (.ldc2_w 560, 3) ∧ 75 + 3 = 78 := ⟨by decide +kernel, rfl⟩
theorem d_X12_clear_78 : decode mX12_clear.1 78 = .ok (.ldiv, 1) ∧ 78 + 1 = 79 := ⟨by decide +kernel, rfl⟩
theorem d_X12_clear_79 : decode mX12_clear.1 79 = .ok (.lstore_n 2, 1) ∧ 79 + 1 = 80 := ⟨by decide +kernel, rfl⟩
theorem d_X12_clear_80 : decode mX12_clear.1 80 = .ok (.iinc 4 1, 3) ∧ 80 + 3 = 83 := ⟨by decide +kernel, rfl⟩
theorem d_X12_clear_83 : decode mX12_clear.1 83 = .ok (.goto (-15), 3) ∧ ((83 : Nat) : Int) + (-15) = ((68 : Nat) : Int) := ⟨by decide +kernel, rfl⟩
set_option maxRecDepth 100000 in
set_option maxHeartbeats 4000000 in
theorem g_X12_clear_L68 (l : Launch) (G : xa_C) (c1 : Int) (h : xa_H) (K : (Int × Int) ⊕ (Int) → Option xa_O) (hb : ∀ (v2 : Int) (v4 : Int), xa_G l G 3 mX12_clear (some (Sum.inl ((v2, v4)))) K 68 [none, some (xI c1), some (xL v2), none, some (xI v4)] [] h) (hx : ∀ (v2 : Int), xa_G l G 3 mX12_clear (some (Sum.inr v2)) K 86 [none, none, some (xL v2), none, none] [] h) : ∀ (v2 : Int) (v4 : Int), xa_G l G 3 mX12_clear (f_X12_clear_L68 c1 h v2 v4) K 68 [none, some (xI c1), some (xL v2), none, some (xI v4)] [] h := by
  intro v2 v4
  unfold f_X12_clear_L68
  refine xa_step (xa_iload d_X12_clear_68 rfl) ?_
  refine xa_step (xa_iload_n d_X12_clear_70 rfl) ?_
  refine xa_if (xa_icmpge d_X12_clear_71) (fun q9 => ?_) (fun q9 => ?_)
  · refine xa_step (xa_lload_n d_X12_clear_74 rfl) ?_
    refine xa_step (xa_ldc2 (c64 := 100) (v := 100) (by decide +kernel) xw_2056 d_X12_clear_75) ?_
    refine xa_step (xa_ldiv d_X12_clear_78 (by decide)) ?_
    refine xa_step (xa_lstore_n (ls' := [none, some (xI c1), some (xL (w64 (Int.tdiv v2 100))), none, some (xI v4)]) d_X12_clear_79 (by decide) rfl) ?_
    refine xa_step (xa_iinc (ls' := [none, some (xI c1), some (xL (w64 (Int.tdiv v2 100))), none, some (xI (w32 (v4 + 1)))]) d_X12_clear_80 xq_i_1 rfl (by decide) rfl) ?_
    refine xa_step (xa_goto d_X12_clear_83) ?_
    exact xa_weak (ls' := [none, some (xI c1), some (xL (w64 (Int.tdiv v2 100))), none, some (xI (w32 (v4 + 1)))]) ⟨rfl, rfl, rfl, trivial⟩ (hb (w64 (Int.tdiv v2 100)) (w32 (v4 + 1)))
  · exact xa_weak (ls' := [none, none, some (xL v2), none, none]) ⟨rfl, trivial⟩ (hx v2)
theorem d_X12_clear_86 : decode mX12_clear.1 86 = .ok (.lload_n 2, 1) ∧ 86 + 1 = 87 := ⟨by decide +kernel, rfl⟩
theorem d_X12_clear_87 : decode mX12_clear.1 87 = .ok (.l2i, 1) ∧ 87 + 1 = 88 := ⟨by decide +kernel, rfl⟩
theorem d_X12_clear_88 : decode mX12_clear.1 88 = .ok (.ireturn, 1) := by decide +kernel
set_option maxRecDepth 100000 in
set_option maxHeartbeats 4000000 in
theorem g_X12_clear (l : Launch) (G : xa_C) (v0 v1 : Int) (h : xa_H) : xa_G l G 3 mX12_clear (f_X12_clear v0 v1 h) (fun r => some (some (xI r), h) : Int → Option xa_O) 0 [some (xR v0), some (xI v1), none, none, none] [] h := by
  unfold f_X12_clear
  refine xa_step (xa_iload_n d_X12_clear_0 rfl) ?_
  refine xa_step (xa_i2l d_X12_clear_1) ?_
  refine xa_step (xa_lconst d_X12_clear_2 rfl) ?_
  refine xa_step (xa_ldc2 (c64 := 5) (v := 5) (by decide +kernel) xw_1864 d_X12_clear_3) ?_
  refine xa_callSi (as := [xL v1, xL 0, xL 5]) (st := []) (M' := mX12_isIn) (d' := 2) xw_1706 xw_1707 xw_1708 xw_177 xh_X12_isIn rfl ⟨Nat.le_of_ble_eq_true rfl, Nat.le_of_ble_eq_true rfl⟩ (Nat.le_of_ble_eq_true rfl) rfl d_X12_clear_6 (fun r hr => ct_X12_isIn l G v1 0 5 h r hr) (fun r1 _ => ?_)
  refine xa_if (xa_ifne d_X12_clear_9) (fun q2 => ?_) (fun q2 => ?_)
  · refine xa_step (xa_iconst d_X12_clear_12 xq_i_m1) ?_
    exact xa_iret d_X12_clear_13 rfl rfl
  · refine xa_step (xa_lconst d_X12_clear_14 rfl) ?_
    refine xa_step (xa_lstore_n (ls' := [some (xR v0), some (xI v1), some (xL 1), none, none]) d_X12_clear_15 (by decide) rfl) ?_
    refine xa_step (xa_iconst d_X12_clear_16 xq_i_0) ?_
    refine xa_step (xa_istore (ls' := [some (xR v0), some (xI v1), some (xL 1), none, some (xI 0)]) d_X12_clear_17 (by decide) rfl) ?_
    refine xa_weak (ls' := [some (xR v0), some (xI v1), some (xL 1), none, some (xI 0)]) ⟨rfl, rfl, rfl, rfl, trivial⟩ ?_
    refine xa_loop (f := fun s => f_X12_clear_L19 v0 v1 h s.1 s.2) (L := fun s => [some (xR v0), some (xI v1), some (xL s.1), none, some (xI s.2)]) (P := fun s => h) (X := (fun x K => xa_G l G 3 mX12_clear (some (Sum.inr x)) K 44 [none, some (xI v1), some (xL x), none, none] [] h)) (fun K hb hX s => g_X12_clear_L19 l G v0 v1 h K (fun w0 w1 => hb ((w0, w1))) (fun w0 => hX w0) s.1 s.2) ?_ xFU ((1, 0))
    intro e6 K hK
    refine xa_eqE hK ?_
    show xa_G l G 3 mX12_clear _ _ 44 [none, some (xI v1), some (xL e6), none, none] [] h
    refine xa_step (xa_iload_n d_X12_clear_44 rfl) ?_
    refine xa_step (xa_istore (ls' := [none, some (xI v1), some (xL e6), none, some (xI v1)]) d_X12_clear_45 (by decide) rfl) ?_
    refine xa_weak (ls' := [none, some (xI v1), some (xL e6), none, some (xI v1)]) ⟨rfl, rfl, rfl, trivial⟩ ?_
    refine xa_loop (f := fun s => f_X12_clear_L47 v1 h s.1 s.2) (L := fun s => [none, some (xI v1), some (xL s.1), none, some (xI s.2)]) (P := fun s => h) (X := (fun x K => xa_G l G 3 mX12_clear (some (Sum.inr x)) K 65 [none, some (xI v1), some (xL x), none, none] [] h)) (fun K hb hX s => g_X12_clear_L47 l G v1 h K (fun w0 w1 => hb ((w0, w1))) (fun w0 => hX w0) s.1 s.2) ?_ xFU ((e6, v1))
    intro e8 K hK
    refine xa_eqE hK ?_
    show xa_G l G 3 mX12_clear _ _ 65 [none, some (xI v1), some (xL e8), none, none] [] h
    refine xa_step (xa_iconst d_X12_clear_65 xq_i_3) ?_
    refine xa_step (xa_istore (ls' := [none, some (xI v1), some (xL e8), none, some (xI 3)]) d_X12_clear_66 (by decide) rfl) ?_
    refine xa_weak (ls' := [none, some (xI v1), some (xL e8), none, some (xI 3)]) ⟨rfl, rfl, rfl, trivial⟩ ?_
    refine xa_loop (f := fun s => f_X12_clear_L68 v1 h s.1 s.2) (L := fun s => [none, some (xI v1), some (xL s.1), none, some (xI s.2)]) (P := fun s => h) (X := (fun x K => xa_G l G 3 mX12_clear (some (Sum.inr x)) K 86 [none, none, some (xL x), none, none] [] h)) (fun K hb hX s => g_X12_clear_L68 l G v1 h K (fun w0 w1 => hb ((w0, w1))) (fun w0 => hX w0) s.1 s.2) ?_ xFU ((e8, 3))
    intro e10 K hK
    refine xa_eqE hK ?_
    show xa_G l G 3 mX12_clear _ _ 86 [none, none, some (xL e10), none, none] [] h
    refine xa_step (xa_lload_n d_X12_clear_86 rfl) ?_
    refine xa_step (xa_l2i d_X12_clear_87) ?_
    exact xa_iret d_X12_clear_88 rfl rfl
theorem ct_X12_clear (l : Launch) (G : xa_C) (v0 v1 : Int) (h : xa_H) (r : Int) (hr : f_X12_clear v0 v1 h = some r) : xa_CT l G 3 mX12_clear yX12_clear [xR v0, xI v1] h (some (xI r), h) :=
  xa_met (by decide +kernel) rfl (fun q => by first | rfl | cases q) (Nat.le_of_ble_eq_true rfl) rfl (g_X12_clear l G v0 v1 h) (by rw [hr]; rfl)
abbrev mX12_end : xa_M := (cX12_end, 2, (some (.boolean)), RX12, false)
theorem d_X12_end_0 : decode mX12_end.1 0 = .ok (.iload_n 1, 1) ∧ 0 + 1 = 1 := ⟨by decide +kernel, rfl⟩
theorem d_X12_end_1 : decode mX12_end.1 1 = .ok (.ifCond .lt 11, 3) ∧ 1 + 3 = 4 ∧ ((1 : Nat) : Int) + 11 = ((12 : Nat) : Int) := ⟨by decide +kernel, rfl, rfl⟩
theorem d_X12_end_12 : decode mX12_end.1 12 = .ok (.aload_n 0, 1) ∧ 12 + 1 = 13 := ⟨by decide +kernel, rfl⟩
theorem d_X12_end_13 : decode mX12_end.1 13 = .ok (.getfield 17, 3) ∧ 13 + 3 = 16 := ⟨by decide +kernel, rfl⟩
theorem d_X12_end_16 : decode mX12_end.1 16 = .ok (.iconst 0, 1) ∧ 16 + 1 = 17 := ⟨by decide +kernel, rfl⟩
theorem d_X12_end_17 : decode mX12_end.1 17 = .ok (.dup2, 1) ∧ 17 + 1 = 18 := ⟨by decide +kernel, rfl⟩
theorem d_X12_end_18 : decode mX12_end.1 18 = .ok (.iaload, 1) ∧ 18 + 1 = 19 := ⟨by decide +kernel, rfl⟩
theorem d_X12_end_19 : decode mX12_end.1 19 = .ok (.iconst 1, 1) ∧ 19 + 1 = 20 := ⟨by decide +kernel, rfl⟩
theorem d_X12_end_20 : decode mX12_end.1 20 = .ok (.iadd, 1) ∧ 20 + 1 = 21 := ⟨by decide +kernel, rfl⟩
theorem d_X12_end_21 : decode mX12_end.1 21 = .ok (.iastore, 1) ∧ 21 + 1 = 22 := ⟨by decide +kernel, rfl⟩
theorem d_X12_end_22 : decode mX12_end.1 22 = .ok (.iconst 0, 1) ∧ 22 + 1 = 23 := ⟨by decide +kernel, rfl⟩
theorem d_X12_end_23 : decode mX12_end.1 23 = .ok (.ireturn, 1) := by decide +kernel
theorem d_X12_end_4 : decode mX12_end.1 4 = .ok (.iload_n 1, 1) ∧ 4 + 1 = 5 := ⟨by decide +kernel, rfl⟩
theorem d_X12_end_5 : decode mX12_end.1 5 = .ok (.aload_n 0, 1) ∧ 5 + 1 = 6 := ⟨by decide +kernel, rfl⟩
theorem d_X12_end_6 : decode mX12_end.1 6 = .ok (.getfield 246, 3) ∧ 6 + 3 = 9 := ⟨by decide +kernel, rfl⟩
theorem d_X12_end_9 : decode mX12_end.1 9 = .ok (.if_icmp .le 15, 3) ∧ 9 + 3 = 12 ∧ ((9 : Nat) : Int) + 15 = ((24 : Nat) : Int) := ⟨by decide +kernel, rfl, rfl⟩
theorem d_X12_end_24 : decode mX12_end.1 24 = .ok (.aload_n 0, 1) ∧ 24 + 1 = 25 := ⟨by decide +kernel, rfl⟩
theorem d_X12_end_25 : decode mX12_end.1 25 = .ok (.iload_n 1, 1) ∧ 25 + 1 = 26 := ⟨by decide +kernel, rfl⟩
theorem d_X12_end_26 : decode mX12_end.1 26 = .ok (.putfield 246, 3) ∧ 26 + 3 = 29 := ⟨by decide +kernel, rfl⟩
theorem d_X12_end_29 : decode mX12_end.1 29 = .ok (.iconst 1, 1) ∧ 29 + 1 = 30 := ⟨by decide +kernel, rfl⟩
theorem d_X12_end_30 : decode mX12_end.1 30 = .ok (.ireturn, 1) := by decide +kernel
set_option maxRecDepth 100000 in
set_option maxHeartbeats 4000000 in
theorem g_X12_end (l : Launch) (G : xa_C) (v0 v1 : Int) (h : xa_H) : xa_G l G 2 mX12_end (f_X12_end v0 v1 h) (fun r => some (some (xI r.1), r.2) : (Int × xa_H) → Option xa_O) 0 [some (xR v0), some (xI v1)] [] h := by
  unfold f_X12_end
  refine xa_step (xa_iload_n d_X12_end_0 rfl) ?_
  refine xa_if (xa_iflt d_X12_end_1) (fun q1 => ?_) (fun q1 => ?_)
  · refine xa_step (xa_aload_n d_X12_end_12 rfl) ?_
    refine xa_getf xR xc_12 (by decide) (fun _ => rfl) xw_1313 rfl d_X12_end_13 (fun x2 _ => ?_)
    refine xa_step (xa_iconst d_X12_end_16 xq_i_0) ?_
    refine xa_step (xa_dup2 d_X12_end_17 (xa_tI _) (xa_tR _)) ?_
    refine xa_iaload d_X12_end_18 (fun x3 _ => ?_)
    refine xa_step (xa_iconst d_X12_end_19 xq_i_1) ?_
    refine xa_step (xa_iadd d_X12_end_20) ?_
    refine xa_iastore2 d_X12_end_21 (fun h4 _ => ?_)
    refine xa_step (xa_iconst d_X12_end_22 xq_i_0) ?_
    exact xa_zret d_X12_end_23 rfl (Or.inl rfl) rfl
  · refine xa_step (xa_iload_n d_X12_end_4 rfl) ?_
    refine xa_step (xa_aload_n d_X12_end_5 rfl) ?_
    refine xa_getf xI xc_12 (by decide) (fun _ => rfl) xw_1305 rfl d_X12_end_6 (fun x5 _ => ?_)
    refine xa_if (xa_icmple d_X12_end_9) (fun q6 => ?_) (fun q6 => ?_)
    · refine xa_step (xa_aload_n d_X12_end_12 rfl) ?_
      refine xa_getf xR xc_12 (by decide) (fun _ => rfl) xw_1313 rfl d_X12_end_13 (fun x7 _ => ?_)
      refine xa_step (xa_iconst d_X12_end_16 xq_i_0) ?_
      refine xa_step (xa_dup2 d_X12_end_17 (xa_tI _) (xa_tR _)) ?_
      refine xa_iaload d_X12_end_18 (fun x8 _ => ?_)
      refine xa_step (xa_iconst d_X12_end_19 xq_i_1) ?_
      refine xa_step (xa_iadd d_X12_end_20) ?_
      refine xa_iastore2 d_X12_end_21 (fun h9 _ => ?_)
      refine xa_step (xa_iconst d_X12_end_22 xq_i_0) ?_
      exact xa_zret d_X12_end_23 rfl (Or.inl rfl) rfl
    · refine xa_step (xa_aload_n d_X12_end_24 rfl) ?_
      refine xa_step (xa_iload_n d_X12_end_25 rfl) ?_
      refine xa_putf2 (tg := xI) xc_12 (by decide) (fun _ => rfl) rfl (fun c hc => xa_fitI c hc) xw_1305 rfl d_X12_end_26 (fun h10 _ => ?_)
      refine xa_step (xa_iconst d_X12_end_29 xq_i_1) ?_
      exact xa_zret d_X12_end_30 rfl (Or.inr rfl) rfl
theorem ct_X12_end (l : Launch) (G : xa_C) (v0 v1 : Int) (h : xa_H) (r : Int × xa_H) (hr : f_X12_end v0 v1 h = some r) : xa_CT l G 2 mX12_end yX12_end [xR v0, xI v1] h (some (xI r.1), r.2) :=
  xa_met (by decide +kernel) rfl (fun q => by first | rfl | cases q) (Nat.le_of_ble_eq_true rfl) rfl (g_X12_end l G v0 v1 h) (by rw [hr]; rfl)
abbrev mX12_fault : xa_M := (cX12_fault, 2, (some (.int)), RX12, false)
theorem d_X12_fault_0 : decode mX12_fault.1 0 = .ok (.iload_n 1, 1) ∧ 0 + 1 = 1 := ⟨by decide +kernel, rfl⟩
theorem d_X12_fault_1 : decode mX12_fault.1 1 = .ok (.ifCond .ne 10, 3) ∧ 1 + 3 = 4 ∧ ((1 : Nat) : Int) + 10 = ((11 : Nat) : Int) := ⟨by decide +kernel, rfl, rfl⟩
theorem d_X12_fault_4 : decode mX12_fault.1 4 = .ok (.aload_n 0, 1) ∧ 4 + 1 = 5 := ⟨by decide +kernel, rfl⟩
theorem d_X12_fault_5 : decode mX12_fault.1 5 = .ok (.getfield 384, 3) ∧ 5 + 3 = 8 := ⟨by decide +kernel, rfl⟩
theorem d_X12_fault_8 : decode mX12_fault.1 8 = .ok (.goto 16, 3) ∧ ((8 : Nat) : Int) + 16 = ((24 : Nat) : Int) := ⟨by decide +kernel, rfl⟩
theorem d_X12_fault_24 : decode mX12_fault.1 24 = .ok (.ireturn, 1) := by decide +kernel
theorem d_X12_fault_11 : decode mX12_fault.1 11 = .ok (.iload_n 1, 1) ∧ 11 + 1 = 12 := ⟨by decide +kernel, rfl⟩
theorem d_X12_fault_12 : decode mX12_fault.1 12 = .ok (.iconst 1, 1) ∧ 12 + 1 = 13 := ⟨by decide +kernel, rfl⟩
theorem d_X12_fault_13 : decode mX12_fault.1 13 = .ok (.if_icmp .ne 10, 3) ∧ 13 + 3 = 16 ∧ ((13 : Nat) : Int) + 10 = ((23 : Nat) : Int) := ⟨by decide +kernel, rfl, rfl⟩
theorem d_X12_fault_16 : decode mX12_fault.1 16 = .ok (.aload_n 0, 1) ∧ 16 + 1 = 17 := ⟨by decide +kernel, rfl⟩
theorem d_X12_fault_17 : decode mX12_fault.1 17 = .ok (.getfield 13, 3) ∧ 17 + 3 = 20 := ⟨by decide +kernel, rfl⟩
theorem d_X12_fault_20 : decode mX12_fault.1 20 = .ok (.goto 4, 3) ∧ ((20 : Nat) : Int) + 4 = ((24 : Nat) : Int) := ⟨by decide +kernel, rfl⟩
theorem d_X12_fault_23 : decode mX12_fault.1 23 = .ok (.iconst (-1), 1) ∧ 23 + 1 = 24 := ⟨by decide +kernel, rfl⟩
set_option maxRecDepth 100000 in
set_option maxHeartbeats 4000000 in
theorem g_X12_fault (l : Launch) (G : xa_C) (v0 v1 : Int) (h : xa_H) : xa_G l G 2 mX12_fault (f_X12_fault v0 v1 h) (fun r => some (some (xI r), h) : Int → Option xa_O) 0 [some (xR v0), some (xI v1)] [] h := by
  unfold f_X12_fault
  refine xa_step (xa_iload_n d_X12_fault_0 rfl) ?_
  refine xa_if (xa_ifne d_X12_fault_1) (fun q1 => ?_) (fun q1 => ?_)
  · refine xa_step (xa_aload_n d_X12_fault_4 rfl) ?_
    refine xa_getf xI xc_12 (by decide) (fun _ => rfl) xw_1311 rfl d_X12_fault_5 (fun x2 _ => ?_)
    refine xa_step (xa_goto d_X12_fault_8) ?_
    exact xa_iret d_X12_fault_24 rfl rfl
  · refine xa_step (xa_iload_n d_X12_fault_11 rfl) ?_
    refine xa_step (xa_iconst d_X12_fault_12 xq_i_1) ?_
    refine xa_if (xa_icmpne d_X12_fault_13) (fun q3 => ?_) (fun q3 => ?_)
    · refine xa_step (xa_aload_n d_X12_fault_16 rfl) ?_
      refine xa_getf xI xc_12 (by decide) (fun _ => rfl) xw_1312 rfl d_X12_fault_17 (fun x4 _ => ?_)
      refine xa_step (xa_goto d_X12_fault_20) ?_
      exact xa_iret d_X12_fault_24 rfl rfl
    · refine xa_step (xa_iconst d_X12_fault_23 xq_i_m1) ?_
      exact xa_iret d_X12_fault_24 rfl rfl
theorem ct_X12_fault (l : Launch) (G : xa_C) (v0 v1 : Int) (h : xa_H) (r : Int) (hr : f_X12_fault v0 v1 h = some r) : xa_CT l G 2 mX12_fault yX12_fault [xR v0, xI v1] h (some (xI r), h) :=
  xa_met (by decide +kernel) rfl (fun q => by first | rfl | cases q) (Nat.le_of_ble_eq_true rfl) rfl (g_X12_fault l G v0 v1 h) (by rw [hr]; rfl)
