abbrev mX12_qEndsPart : xa_M := (cX12_qEndsPart, 1, none, RX12, false)
theorem d_X12_qEndsPart_0 : decode mX12_qEndsPart.1 0 = .ok (.aload_n 0, 1) ∧ 0 + 1 = 1 := ⟨by decide +kernel, rfl⟩
theorem d_X12_qEndsPart_1 : decode mX12_qEndsPart.1 1 = .ok (.getfield 249, 3) ∧ 1 + 3 = 4 := ⟨by decide +kernel, rfl⟩
theorem d_X12_qEndsPart_4 : decode mX12_qEndsPart.1 4 = .ok (.ifCond .ne 47, 3) ∧ 4 + 3 = 7 ∧ ((4 : Nat) : Int) + 47 = ((51 : Nat) : Int) := ⟨by decide +kernel, rfl, rfl⟩
theorem d_X12_qEndsPart_7 : decode mX12_qEndsPart.1 7 = .ok (.aload_n 0, 1) ∧ 7 + 1 = 8 := ⟨by decide +kernel, rfl⟩
theorem d_X12_qEndsPart_8 : decode mX12_qEndsPart.1 8 = .ok (.getfield 338, 3) ∧ 8 + 3 = 11 := ⟨by decide +kernel, rfl⟩
theorem d_X12_qEndsPart_11 : decode mX12_qEndsPart.1 11 = .ok (.aload_n 0, 1) ∧ 11 + 1 = 12 := ⟨by decide +kernel, rfl⟩
theorem d_X12_qEndsPart_12 : decode mX12_qEndsPart.1 12 = .ok (.getfield 344, 3) ∧ 12 + 3 = 15 := ⟨by decide +kernel, rfl⟩
theorem d_X12_qEndsPart_15 : decode mX12_qEndsPart.1 15 = .ok (.if_icmp .le 36, 3) ∧ 15 + 3 = 18 ∧ ((15 : Nat) : Int) + 36 = ((51 : Nat) : Int) := ⟨by decide +kernel, rfl, rfl⟩
theorem d_X12_qEndsPart_18 : decode mX12_qEndsPart.1 18 = .ok (.aload_n 0, 1) ∧ 18 + 1 = 19 := ⟨by decide +kernel, rfl⟩
theorem d_X12_qEndsPart_19 : decode mX12_qEndsPart.1 19 = .ok (.getfield 237, 3) ∧ 19 + 3 = 22 := ⟨by decide +kernel, rfl⟩
theorem d_X12_qEndsPart_22 : decode mX12_qEndsPart.1 22 = .ok (.aload_n 0, 1) ∧ 22 + 1 = 23 := ⟨by decide +kernel, rfl⟩
theorem d_X12_qEndsPart_23 : decode mX12_qEndsPart.1 23 = .ok (.getfield 338, 3) ∧ 23 + 3 = 26 := ⟨by decide +kernel, rfl⟩
theorem d_X12_qEndsPart_26 : decode mX12_qEndsPart.1 26 = .ok (.iconst 1, 1) ∧ 26 + 1 = 27 := ⟨by decide +kernel, rfl⟩
theorem d_X12_qEndsPart_27 : decode mX12_qEndsPart.1 27 = .ok (.isub, 1) ∧ 27 + 1 = 28 := ⟨by decide +kernel, rfl⟩
theorem d_X12_qEndsPart_28 : decode mX12_qEndsPart.1 28 = .ok (.iaload, 1) ∧ 28 + 1 = 29 := ⟨by decide +kernel, rfl⟩
theorem d_X12_qEndsPart_29 : decode mX12_qEndsPart.1 29 = .ok (.bipush 60, 2) ∧ 29 + 2 = 31 := ⟨by decide +kernel, rfl⟩
theorem d_X12_qEndsPart_31 : decode mX12_qEndsPart.1 31 = .ok (.if_icmp .lt 20, 3) ∧ 31 + 3 = 34 ∧ ((31 : Nat) : Int) + 20 = ((51 : Nat) : Int) := ⟨by decide +kernel, rfl, rfl⟩
theorem d_X12_qEndsPart_34 : decode mX12_qEndsPart.1 34 = .ok (.aload_n 0, 1) ∧ 34 + 1 = 35 := ⟨by decide +kernel, rfl⟩
theorem d_X12_qEndsPart_35 : decode mX12_qEndsPart.1 35 = .ok (.dup, 1) ∧ 35 + 1 = 36 := ⟨by decide +kernel, rfl⟩
theorem d_X12_qEndsPart_36 : decode mX12_qEndsPart.1 36 = .ok (.getfield 341, 3) ∧ 36 + 3 = 39 := ⟨by decide +kernel, rfl⟩
theorem d_X12_qEndsPart_39 : decode mX12_qEndsPart.1 39 = .ok (.iconst 1, 1) ∧ 39 + 1 = 40 := ⟨by decide +kernel, rfl⟩
theorem d_X12_qEndsPart_40 : decode mX12_qEndsPart.1 40 = .ok (.isub, 1) ∧ 40 + 1 = 41 := ⟨by decide +kernel, rfl⟩
theorem d_X12_qEndsPart_41 : decode mX12_qEndsPart.1 41 = .ok (.putfield 341, 3) ∧ 41 + 3 = 44 := ⟨by decide +kernel, rfl⟩
theorem d_X12_qEndsPart_44 : decode mX12_qEndsPart.1 44 = .ok (.aload_n 0, 1) ∧ 44 + 1 = 45 := ⟨by decide +kernel, rfl⟩
theorem d_X12_qEndsPart_45 : decode mX12_qEndsPart.1 45 = .ok (.invokevirtual 600, 3) ∧ 45 + 3 = 48 := ⟨by decide +kernel, rfl⟩
theorem d_X12_qEndsPart_48 : decode mX12_qEndsPart.1 48 = .ok (.goto (-48), 3) ∧ ((48 : Nat) : Int) + (-48) = ((0 : Nat) : Int) := ⟨by decide +kernel, rfl⟩
set_option maxRecDepth 100000 in
set_option maxHeartbeats 4000000 in
theorem g_X12_qEndsPart_L0 (l : Launch) (G : xa_C) (c0 : Int) (K : (xa_H) ⊕ (xa_H) → Option xa_O) (hb : ∀ (h : xa_H), xa_G l G 4 mX12_qEndsPart (some (Sum.inl h)) K 0 [some (xR c0)] [] h) (hx : ∀ (h : xa_H), xa_G l G 4 mX12_qEndsPart (some (Sum.inr h)) K 51 [none] [] h) : ∀ (h : xa_H), xa_G l G 4 mX12_qEndsPart (f_X12_qEndsPart_L0 c0 h) K 0 [some (xR c0)] [] h := by
  intro h
  unfold f_X12_qEndsPart_L0
  refine xa_step (xa_aload_n d_X12_qEndsPart_0 rfl) ?_
  refine xa_getf xI xc_12 (by decide) (fun _ => rfl) xw_1309 rfl d_X12_qEndsPart_1 (fun x1 _ => ?_)
  refine xa_if (xa_ifne d_X12_qEndsPart_4) (fun q2 => ?_) (fun q2 => ?_)
  · refine xa_step (xa_aload_n d_X12_qEndsPart_7 rfl) ?_
    refine xa_getf xI xc_12 (by decide) (fun _ => rfl) xw_1404 rfl d_X12_qEndsPart_8 (fun x3 _ => ?_)
    refine xa_step (xa_aload_n d_X12_qEndsPart_11 rfl) ?_
    refine xa_getf xI xc_12 (by decide) (fun _ => rfl) xw_1406 rfl d_X12_qEndsPart_12 (fun x4 _ => ?_)
    refine xa_if (xa_icmple d_X12_qEndsPart_15) (fun q5 => ?_) (fun q5 => ?_)
    · refine xa_step (xa_aload_n d_X12_qEndsPart_18 rfl) ?_
      refine xa_getf xR xc_12 (by decide) (fun _ => rfl) xw_1403 rfl d_X12_qEndsPart_19 (fun x6 _ => ?_)
      refine xa_step (xa_aload_n d_X12_qEndsPart_22 rfl) ?_
      refine xa_getf xI xc_12 (by decide) (fun _ => rfl) xw_1404 rfl d_X12_qEndsPart_23 (fun x7 _ => ?_)
      refine xa_step (xa_iconst d_X12_qEndsPart_26 xq_i_1) ?_
      refine xa_step (xa_isub d_X12_qEndsPart_27) ?_
      refine xa_iaload d_X12_qEndsPart_28 (fun x8 _ => ?_)
      refine xa_step (xa_bipush d_X12_qEndsPart_29 xq_b_60) ?_
      refine xa_if (xa_icmplt d_X12_qEndsPart_31) (fun q9 => ?_) (fun q9 => ?_)
      · exact xa_weak (ls' := [none]) trivial (hx h)
      · refine xa_step (xa_aload_n d_X12_qEndsPart_34 rfl) ?_
        refine xa_step (xa_dup d_X12_qEndsPart_35 (xa_tR _)) ?_
        refine xa_getf xI xc_12 (by decide) (fun _ => rfl) xw_1405 rfl d_X12_qEndsPart_36 (fun x10 _ => ?_)
        refine xa_step (xa_iconst d_X12_qEndsPart_39 xq_i_1) ?_
        refine xa_step (xa_isub d_X12_qEndsPart_40) ?_
        refine xa_putf2 (tg := xI) xc_12 (by decide) (fun _ => rfl) rfl (fun c hc => xa_fitI c hc) xw_1405 rfl d_X12_qEndsPart_41 (fun h11 _ => ?_)
        refine xa_step (xa_aload_n d_X12_qEndsPart_44 rfl) ?_
        refine xa_callVV (as := []) (st := []) (M' := mX12_qDrops) (d' := 3) rfl xw_1785 xw_1787 xw_98 xw_1788 xw_177 xh_X12_qDrops rfl ⟨Nat.le_of_ble_eq_true rfl, Nat.le_of_ble_eq_true rfl⟩ (Nat.le_of_ble_eq_true rfl) rfl d_X12_qEndsPart_45 (fun r hr => ct_X12_qDrops l G c0 h11 r hr) (fun r12 _ => ?_)
        refine xa_step (xa_goto d_X12_qEndsPart_48) ?_
        exact xa_weak (ls' := [some (xR c0)]) ⟨rfl, trivial⟩ (hb r12)
    · exact xa_weak (ls' := [none]) trivial (hx h)
  · exact xa_weak (ls' := [none]) trivial (hx h)
theorem d_X12_qEndsPart_51 : decode mX12_qEndsPart.1 51 = .ok (.return_, 1) := by decide +kernel
set_option maxRecDepth 100000 in
set_option maxHeartbeats 4000000 in
theorem g_X12_qEndsPart (l : Launch) (G : xa_C) (v0 : Int) (h : xa_H) : xa_G l G 4 mX12_qEndsPart (f_X12_qEndsPart v0 h) (fun r => some (none, r) : xa_H → Option xa_O) 0 [some (xR v0)] [] h := by
  unfold f_X12_qEndsPart
  refine xa_weak (ls' := [some (xR v0)]) ⟨rfl, trivial⟩ ?_
  refine xa_loop (f := fun s => f_X12_qEndsPart_L0 v0 s) (L := fun s => [some (xR v0)]) (P := fun s => s) (X := (fun x K => xa_G l G 4 mX12_qEndsPart (some (Sum.inr x)) K 51 [none] [] x)) (fun K hb hX s => g_X12_qEndsPart_L0 l G v0 K (fun hh => hb hh) (fun hh => hX hh) s) ?_ xFU h
  intro e13 K hK
  refine xa_eqE hK ?_
  show xa_G l G 4 mX12_qEndsPart _ _ 51 [none] [] e13
  exact xa_vret d_X12_qEndsPart_51 rfl rfl
theorem ct_X12_qEndsPart (l : Launch) (G : xa_C) (v0 : Int) (h : xa_H) (r : xa_H) (hr : f_X12_qEndsPart v0 h = some r) : xa_CT l G 4 mX12_qEndsPart yX12_qEndsPart [xR v0] h (none, r) :=
  xa_met (by decide +kernel) rfl (fun q => by first | rfl | cases q) (Nat.le_of_ble_eq_true rfl) rfl (g_X12_qEndsPart l G v0 h) (by rw [hr]; rfl)
abbrev mX12_qIsOn : xa_M := (cX12_qIsOn, 2, (some (.boolean)), RX12, false)
theorem d_X12_qIsOn_0 : decode mX12_qIsOn.1 0 = .ok (.aload_n 0, 1) ∧ 0 + 1 = 1 := ⟨by decide +kernel, rfl⟩
theorem d_X12_qIsOn_1 : decode mX12_qIsOn.1 1 = .ok (.getfield 338, 3) ∧ 1 + 3 = 4 := ⟨by decide +kernel, rfl⟩
theorem d_X12_qIsOn_4 : decode mX12_qIsOn.1 4 = .ok (.ifCond .le 22, 3) ∧ 4 + 3 = 7 ∧ ((4 : Nat) : Int) + 22 = ((26 : Nat) : Int) := ⟨by decide +kernel, rfl, rfl⟩
theorem d_X12_qIsOn_7 : decode mX12_qIsOn.1 7 = .ok (.aload_n 0, 1) ∧ 7 + 1 = 8 := ⟨by decide +kernel, rfl⟩
theorem d_X12_qIsOn_8 : decode mX12_qIsOn.1 8 = .ok (.getfield 237, 3) ∧ 8 + 3 = 11 := ⟨by decide +kernel, rfl⟩
theorem d_X12_qIsOn_11 : decode mX12_qIsOn.1 11 = .ok (.aload_n 0, 1) ∧ 11 + 1 = 12 := ⟨by decide +kernel, rfl⟩
theorem d_X12_qIsOn_12 : decode mX12_qIsOn.1 12 = .ok (.getfield 338, 3) ∧ 12 + 3 = 15 := ⟨by decide +kernel, rfl⟩
theorem d_X12_qIsOn_15 : decode mX12_qIsOn.1 15 = .ok (.iconst 1, 1) ∧ 15 + 1 = 16 := ⟨by decide +kernel, rfl⟩
theorem d_X12_qIsOn_16 : decode mX12_qIsOn.1 16 = .ok (.isub, 1) ∧ 16 + 1 = 17 := ⟨by decide +kernel, rfl⟩
theorem d_X12_qIsOn_17 : decode mX12_qIsOn.1 17 = .ok (.iaload, 1) ∧ 17 + 1 = 18 := ⟨by decide +kernel, rfl⟩
theorem d_X12_qIsOn_18 : decode mX12_qIsOn.1 18 = .ok (.iload_n 1, 1) ∧ 18 + 1 = 19 := ⟨by decide +kernel, rfl⟩
theorem d_X12_qIsOn_19 : decode mX12_qIsOn.1 19 = .ok (.if_icmp .ne 7, 3) ∧ 19 + 3 = 22 ∧ ((19 : Nat) : Int) + 7 = ((26 : Nat) : Int) := ⟨by decide +kernel, rfl, rfl⟩
theorem d_X12_qIsOn_22 : decode mX12_qIsOn.1 22 = .ok (.iconst 1, 1) ∧ 22 + 1 = 23 := ⟨by decide +kernel, rfl⟩
theorem d_X12_qIsOn_23 : decode mX12_qIsOn.1 23 = .ok (.goto 4, 3) ∧ ((23 : Nat) : Int) + 4 = ((27 : Nat) : Int) := ⟨by decide +kernel, rfl⟩
theorem d_X12_qIsOn_27 : decode mX12_qIsOn.1 27 = .ok (.ireturn, 1) := by decide +kernel
theorem d_X12_qIsOn_26 : decode mX12_qIsOn.1 26 = .ok (.iconst 0, 1) ∧ 26 + 1 = 27 := ⟨by decide +kernel, rfl⟩
set_option maxRecDepth 100000 in
set_option maxHeartbeats 4000000 in
theorem g_X12_qIsOn (l : Launch) (G : xa_C) (v0 v1 : Int) (h : xa_H) : xa_G l G 2 mX12_qIsOn (f_X12_qIsOn v0 v1 h) (fun r => some (some (xI r), h) : Int → Option xa_O) 0 [some (xR v0), some (xI v1)] [] h := by
  unfold f_X12_qIsOn
  refine xa_step (xa_aload_n d_X12_qIsOn_0 rfl) ?_
  refine xa_getf xI xc_12 (by decide) (fun _ => rfl) xw_1404 rfl d_X12_qIsOn_1 (fun x1 _ => ?_)
  refine xa_if (xa_ifle d_X12_qIsOn_4) (fun q2 => ?_) (fun q2 => ?_)
  · refine xa_step (xa_aload_n d_X12_qIsOn_7 rfl) ?_
    refine xa_getf xR xc_12 (by decide) (fun _ => rfl) xw_1403 rfl d_X12_qIsOn_8 (fun x3 _ => ?_)
    refine xa_step (xa_aload_n d_X12_qIsOn_11 rfl) ?_
    refine xa_getf xI xc_12 (by decide) (fun _ => rfl) xw_1404 rfl d_X12_qIsOn_12 (fun x4 _ => ?_)
    refine xa_step (xa_iconst d_X12_qIsOn_15 xq_i_1) ?_
    refine xa_step (xa_isub d_X12_qIsOn_16) ?_
    refine xa_iaload d_X12_qIsOn_17 (fun x5 _ => ?_)
    refine xa_step (xa_iload_n d_X12_qIsOn_18 rfl) ?_
    refine xa_if (xa_icmpne d_X12_qIsOn_19) (fun q6 => ?_) (fun q6 => ?_)
    · refine xa_step (xa_iconst d_X12_qIsOn_22 xq_i_1) ?_
      refine xa_step (xa_goto d_X12_qIsOn_23) ?_
      exact xa_zret d_X12_qIsOn_27 rfl (Or.inr rfl) rfl
    · refine xa_step (xa_iconst d_X12_qIsOn_26 xq_i_0) ?_
      exact xa_zret d_X12_qIsOn_27 rfl (Or.inl rfl) rfl
  · refine xa_step (xa_iconst d_X12_qIsOn_26 xq_i_0) ?_
    exact xa_zret d_X12_qIsOn_27 rfl (Or.inl rfl) rfl
theorem ct_X12_qIsOn (l : Launch) (G : xa_C) (v0 v1 : Int) (h : xa_H) (r : Int) (hr : f_X12_qIsOn v0 v1 h = some r) : xa_CT l G 2 mX12_qIsOn yX12_qIsOn [xR v0, xI v1] h (some (xI r), h) :=
  xa_met (by decide +kernel) rfl (fun q => by first | rfl | cases q) (Nat.le_of_ble_eq_true rfl) rfl (g_X12_qIsOn l G v0 v1 h) (by rw [hr]; rfl)
abbrev mX12_qGoesOn : xa_M := (cX12_qGoesOn, 2, (some (.boolean)), RX12, false)
theorem d_X12_qGoesOn_0 : decode mX12_qGoesOn.1 0 = .ok (.aload_n 0, 1) ∧ 0 + 1 = 1 := ⟨by decide +kernel, rfl⟩
theorem d_X12_qGoesOn_1 : decode mX12_qGoesOn.1 1 = .ok (.getfield 249, 3) ∧ 1 + 3 = 4 := ⟨by decide +kernel, rfl⟩
theorem d_X12_qGoesOn_4 : decode mX12_qGoesOn.1 4 = .ok (.ifCond .ne 118, 3) ∧ 4 + 3 = 7 ∧ ((4 : Nat) : Int) + 118 = ((122 : Nat) : Int) := ⟨by decide +kernel, rfl, rfl⟩
theorem d_X12_qGoesOn_7 : decode mX12_qGoesOn.1 7 = .ok (.aload_n 0, 1) ∧ 7 + 1 = 8 := ⟨by decide +kernel, rfl⟩
theorem d_X12_qGoesOn_8 : decode mX12_qGoesOn.1 8 = .ok (.invokevirtual 261, 3) ∧ 8 + 3 = 11 := ⟨by decide +kernel, rfl⟩
theorem d_X12_qGoesOn_11 : decode mX12_qGoesOn.1 11 = .ok (.bipush 41, 2) ∧ 11 + 2 = 13 := ⟨by decide +kernel, rfl⟩
theorem d_X12_qGoesOn_13 : decode mX12_qGoesOn.1 13 = .ok (.if_icmp .ne 109, 3) ∧ 13 + 3 = 16 ∧ ((13 : Nat) : Int) + 109 = ((122 : Nat) : Int) := ⟨by decide +kernel, rfl, rfl⟩
theorem d_X12_qGoesOn_16 : decode mX12_qGoesOn.1 16 = .ok (.aload_n 0, 1) ∧ 16 + 1 = 17 := ⟨by decide +kernel, rfl⟩
theorem d_X12_qGoesOn_17 : decode mX12_qGoesOn.1 17 = .ok (.invokevirtual 621, 3) ∧ 17 + 3 = 20 := ⟨by decide +kernel, rfl⟩
theorem d_X12_qGoesOn_20 : decode mX12_qGoesOn.1 20 = .ok (.bipush 20, 2) ∧ 20 + 2 = 22 := ⟨by decide +kernel, rfl⟩
theorem d_X12_qGoesOn_22 : decode mX12_qGoesOn.1 22 = .ok (.if_icmp .eq 21, 3) ∧ 22 + 3 = 25 ∧ ((22 : Nat) : Int) + 21 = ((43 : Nat) : Int) := ⟨by decide +kernel, rfl, rfl⟩
theorem d_X12_qGoesOn_43 : decode mX12_qGoesOn.1 43 = .ok (.aload_n 0, 1) ∧ 43 + 1 = 44 := ⟨by decide +kernel, rfl⟩
theorem d_X12_qGoesOn_44 : decode mX12_qGoesOn.1 44 = .ok (.dup, 1) ∧ 44 + 1 = 45 := ⟨by decide +kernel, rfl⟩
theorem d_X12_qGoesOn_45 : decode mX12_qGoesOn.1 45 = .ok (.getfield 255, 3) ∧ 45 + 3 = 48 := ⟨by decide +kernel, rfl⟩
theorem d_X12_qGoesOn_48 : decode mX12_qGoesOn.1 48 = .ok (.iconst 1, 1) ∧ 48 + 1 = 49 := ⟨by decide +kernel, rfl⟩
theorem d_X12_qGoesOn_49 : decode mX12_qGoesOn.1 49 = .ok (.iadd, 1) ∧ 49 + 1 = 50 := ⟨by decide +kernel, rfl⟩
theorem d_X12_qGoesOn_50 : decode mX12_qGoesOn.1 50 = .ok (.putfield 255, 3) ∧ 50 + 3 = 53 := ⟨by decide +kernel, rfl⟩
theorem d_X12_qGoesOn_53 : decode mX12_qGoesOn.1 53 = .ok (.aload_n 0, 1) ∧ 53 + 1 = 54 := ⟨by decide +kernel, rfl⟩
theorem d_X12_qGoesOn_54 : decode mX12_qGoesOn.1 54 = .ok (.invokevirtual 624, 3) ∧ 54 + 3 = 57 := ⟨by decide +kernel, rfl⟩
theorem d_X12_qGoesOn_57 : decode mX12_qGoesOn.1 57 = .ok (.aload_n 0, 1) ∧ 57 + 1 = 58 := ⟨by decide +kernel, rfl⟩
theorem d_X12_qGoesOn_58 : decode mX12_qGoesOn.1 58 = .ok (.dup, 1) ∧ 58 + 1 = 59 := ⟨by decide +kernel, rfl⟩
theorem d_X12_qGoesOn_59 : decode mX12_qGoesOn.1 59 = .ok (.getfield 338, 3) ∧ 59 + 3 = 62 := ⟨by decide +kernel, rfl⟩
theorem d_X12_qGoesOn_62 : decode mX12_qGoesOn.1 62 = .ok (.iconst 1, 1) ∧ 62 + 1 = 63 := ⟨by decide +kernel, rfl⟩
theorem d_X12_qGoesOn_63 : decode mX12_qGoesOn.1 63 = .ok (.isub, 1) ∧ 63 + 1 = 64 := ⟨by decide +kernel, rfl⟩
theorem d_X12_qGoesOn_64 : decode mX12_qGoesOn.1 64 = .ok (.putfield 338, 3) ∧ 64 + 3 = 67 := ⟨by decide +kernel, rfl⟩
theorem d_X12_qGoesOn_67 : decode mX12_qGoesOn.1 67 = .ok (.aload_n 0, 1) ∧ 67 + 1 = 68 := ⟨by decide +kernel, rfl⟩
theorem d_X12_qGoesOn_68 : decode mX12_qGoesOn.1 68 = .ok (.dup, 1) ∧ 68 + 1 = 69 := ⟨by decide +kernel, rfl⟩
theorem d_X12_qGoesOn_69 : decode mX12_qGoesOn.1 69 = .ok (.getfield 341, 3) ∧ 69 + 3 = 72 := ⟨by decide +kernel, rfl⟩
theorem d_X12_qGoesOn_72 : decode mX12_qGoesOn.1 72 = .ok (.iconst 1, 1) ∧ 72 + 1 = 73 := ⟨by decide +kernel, rfl⟩
theorem d_X12_qGoesOn_73 : decode mX12_qGoesOn.1 73 = .ok (.isub, 1) ∧ 73 + 1 = 74 := ⟨by decide +kernel, rfl⟩
theorem d_X12_qGoesOn_74 : decode mX12_qGoesOn.1 74 = .ok (.putfield 341, 3) ∧ 74 + 3 = 77 := ⟨by decide +kernel, rfl⟩
theorem d_X12_qGoesOn_77 : decode mX12_qGoesOn.1 77 = .ok (.aload_n 0, 1) ∧ 77 + 1 = 78 := ⟨by decide +kernel, rfl⟩
theorem d_X12_qGoesOn_78 : decode mX12_qGoesOn.1 78 = .ok (.getfield 237, 3) ∧ 78 + 3 = 81 := ⟨by decide +kernel, rfl⟩
theorem d_X12_qGoesOn_81 : decode mX12_qGoesOn.1 81 = .ok (.aload_n 0, 1) ∧ 81 + 1 = 82 := ⟨by decide +kernel, rfl⟩
theorem d_X12_qGoesOn_82 : decode mX12_qGoesOn.1 82 = .ok (.getfield 338, 3) ∧ 82 + 3 = 85 := ⟨by decide +kernel, rfl⟩
theorem d_X12_qGoesOn_85 : decode mX12_qGoesOn.1 85 = .ok (.iaload, 1) ∧ 85 + 1 = 86 := ⟨by decide +kernel, rfl⟩
theorem d_X12_qGoesOn_86 : decode mX12_qGoesOn.1 86 = .ok (.bipush 20, 2) ∧ 86 + 2 = 88 := ⟨by decide +kernel, rfl⟩
theorem d_X12_qGoesOn_88 : decode mX12_qGoesOn.1 88 = .ok (.if_icmp .eq 27, 3) ∧ 88 + 3 = 91 ∧ ((88 : Nat) : Int) + 27 = ((115 : Nat) : Int) := ⟨by decide +kernel, rfl, rfl⟩
theorem d_X12_qGoesOn_115 : decode mX12_qGoesOn.1 115 = .ok (.aload_n 0, 1) ∧ 115 + 1 = 116 := ⟨by decide +kernel, rfl⟩
theorem d_X12_qGoesOn_116 : decode mX12_qGoesOn.1 116 = .ok (.invokevirtual 618, 3) ∧ 116 + 3 = 119 := ⟨by decide +kernel, rfl⟩
theorem d_X12_qGoesOn_119 : decode mX12_qGoesOn.1 119 = .ok (.goto (-119), 3) ∧ ((119 : Nat) : Int) + (-119) = ((0 : Nat) : Int) := ⟨by decide +kernel, rfl⟩
set_option maxRecDepth 100000 in
set_option maxHeartbeats 4000000 in
theorem g_X12_qGoesOn_J115L0 (l : Launch) (G : xa_C) (c0 : Int) (K : (xa_H) ⊕ (xa_H) → Option xa_O) (hb : ∀ (h : xa_H), xa_G l G 5 mX12_qGoesOn (some (Sum.inl h)) K 0 [some (xR c0), none] [] h) (hx : ∀ (h : xa_H), xa_G l G 5 mX12_qGoesOn (some (Sum.inr h)) K 122 [some (xR c0), none] [] h) : ∀ (h : xa_H) , xa_G l G 5 mX12_qGoesOn (f_X12_qGoesOn_J115L0 c0 h) K 115 [some (xR c0), none] [] h := by
  intro h
  unfold f_X12_qGoesOn_J115L0
  refine xa_step (xa_aload_n d_X12_qGoesOn_115 rfl) ?_
  refine xa_callVV (as := []) (st := []) (M' := mX12_qEndsPart) (d' := 4) rfl xw_1781 xw_1783 xw_97 xw_1784 xw_177 xh_X12_qEndsPart rfl ⟨Nat.le_of_ble_eq_true rfl, Nat.le_of_ble_eq_true rfl⟩ (Nat.le_of_ble_eq_true rfl) rfl d_X12_qGoesOn_116 (fun r hr => ct_X12_qEndsPart l G c0 h r hr) (fun r18 _ => ?_)
  refine xa_step (xa_goto d_X12_qGoesOn_119) ?_
  exact xa_weak (ls' := [some (xR c0), none]) ⟨rfl, trivial⟩ (hb r18)
theorem d_X12_qGoesOn_91 : decode mX12_qGoesOn.1 91 = .ok (.aload_n 0, 1) ∧ 91 + 1 = 92 := ⟨by decide +kernel, rfl⟩
theorem d_X12_qGoesOn_92 : decode mX12_qGoesOn.1 92 = .ok (.aload_n 0, 1) ∧ 92 + 1 = 93 := ⟨by decide +kernel, rfl⟩
theorem d_X12_qGoesOn_93 : decode mX12_qGoesOn.1 93 = .ok (.getfield 237, 3) ∧ 93 + 3 = 96 := ⟨by decide +kernel, rfl⟩
theorem d_X12_qGoesOn_96 : decode mX12_qGoesOn.1 96 = .ok (.aload_n 0, 1) ∧ 96 + 1 = 97 := ⟨by decide +kernel, rfl⟩
theorem d_X12_qGoesOn_97 : decode mX12_qGoesOn.1 97 = .ok (.getfield 338, 3) ∧ 97 + 3 = 100 := ⟨by decide +kernel, rfl⟩
theorem d_X12_qGoesOn_100 : decode mX12_qGoesOn.1 100 = .ok (.iaload, 1) ∧ 100 + 1 = 101 := ⟨by decide +kernel, rfl⟩
theorem d_X12_qGoesOn_101 : decode mX12_qGoesOn.1 101 = .ok (.bipush 23, 2) ∧ 101 + 2 = 103 := ⟨by decide +kernel, rfl⟩
theorem d_X12_qGoesOn_103 : decode mX12_qGoesOn.1 103 = .ok (.if_icmp .ne 7, 3) ∧ 103 + 3 = 106 ∧ ((103 : Nat) : Int) + 7 = ((110 : Nat) : Int) := ⟨by decide +kernel, rfl, rfl⟩
theorem d_X12_qGoesOn_106 : decode mX12_qGoesOn.1 106 = .ok (.iconst 5, 1) ∧ 106 + 1 = 107 := ⟨by decide +kernel, rfl⟩
theorem d_X12_qGoesOn_107 : decode mX12_qGoesOn.1 107 = .ok (.goto 5, 3) ∧ ((107 : Nat) : Int) + 5 = ((112 : Nat) : Int) := ⟨by decide +kernel, rfl⟩
theorem d_X12_qGoesOn_112 : decode mX12_qGoesOn.1 112 = .ok (.invokevirtual 594, 3) ∧ 112 + 3 = 115 := ⟨by decide +kernel, rfl⟩
set_option maxRecDepth 100000 in
set_option maxHeartbeats 4000000 in
theorem g_X12_qGoesOn_J112L0 (l : Launch) (G : xa_C) (c0 : Int) (K : (xa_H) ⊕ (xa_H) → Option xa_O) (hb : ∀ (h : xa_H), xa_G l G 5 mX12_qGoesOn (some (Sum.inl h)) K 0 [some (xR c0), none] [] h) (hx : ∀ (h : xa_H), xa_G l G 5 mX12_qGoesOn (some (Sum.inr h)) K 122 [some (xR c0), none] [] h) : ∀ (s0 s1 : Int) (h : xa_H) , xa_G l G 5 mX12_qGoesOn (f_X12_qGoesOn_J112L0 c0 s0 s1 h) K 112 [some (xR c0), none] [xI s1, xR s0] h := by
  intro s0 s1 h
  unfold f_X12_qGoesOn_J112L0
  refine xa_callVV (as := [xI s1]) (st := []) (M' := mX12_qCode) (d' := 2) rfl xw_1745 xw_1747 xw_88 xw_1748 xw_177 xh_X12_qCode rfl ⟨Nat.le_of_ble_eq_true rfl, Nat.le_of_ble_eq_true rfl⟩ (Nat.le_of_ble_eq_true rfl) rfl d_X12_qGoesOn_112 (fun r hr => ct_X12_qCode l G s0 s1 h r hr) (fun r23 _ => ?_)
  exact xa_weak (ls' := [some (xR c0), none]) ⟨rfl, trivial⟩ (g_X12_qGoesOn_J115L0 l G c0 K hb hx r23)
theorem d_X12_qGoesOn_110 : decode mX12_qGoesOn.1 110 = .ok (.bipush 6, 2) ∧ 110 + 2 = 112 := ⟨by decide +kernel, rfl⟩
set_option maxRecDepth 100000 in
set_option maxHeartbeats 4000000 in
theorem g_X12_qGoesOn_J43L0 (l : Launch) (G : xa_C) (c0 : Int) (K : (xa_H) ⊕ (xa_H) → Option xa_O) (hb : ∀ (h : xa_H), xa_G l G 5 mX12_qGoesOn (some (Sum.inl h)) K 0 [some (xR c0), none] [] h) (hx : ∀ (h : xa_H), xa_G l G 5 mX12_qGoesOn (some (Sum.inr h)) K 122 [some (xR c0), none] [] h) : ∀ (h : xa_H) , xa_G l G 5 mX12_qGoesOn (f_X12_qGoesOn_J43L0 c0 h) K 43 [some (xR c0), none] [] h := by
  intro h
  unfold f_X12_qGoesOn_J43L0
  refine xa_step (xa_aload_n d_X12_qGoesOn_43 rfl) ?_
  refine xa_step (xa_dup d_X12_qGoesOn_44 (xa_tR _)) ?_
  refine xa_getf xI xc_12 (by decide) (fun _ => rfl) xw_1306 rfl d_X12_qGoesOn_45 (fun x7 _ => ?_)
  refine xa_step (xa_iconst d_X12_qGoesOn_48 xq_i_1) ?_
  refine xa_step (xa_iadd d_X12_qGoesOn_49) ?_
  refine xa_putf2 (tg := xI) xc_12 (by decide) (fun _ => rfl) rfl (fun c hc => xa_fitI c hc) xw_1306 rfl d_X12_qGoesOn_50 (fun h8 _ => ?_)
  refine xa_step (xa_aload_n d_X12_qGoesOn_53 rfl) ?_
  refine xa_callVV (as := []) (st := []) (M' := mX12_qDropsToBracket) (d' := 4) rfl xw_1800 xw_1802 xw_101 xw_1803 xw_177 xh_X12_qDropsToBracket rfl ⟨Nat.le_of_ble_eq_true rfl, Nat.le_of_ble_eq_true rfl⟩ (Nat.le_of_ble_eq_true rfl) rfl d_X12_qGoesOn_54 (fun r hr => ct_X12_qDropsToBracket l G c0 h8 r hr) (fun r9 _ => ?_)
  refine xa_step (xa_aload_n d_X12_qGoesOn_57 rfl) ?_
  refine xa_step (xa_dup d_X12_qGoesOn_58 (xa_tR _)) ?_
  refine xa_getf xI xc_12 (by decide) (fun _ => rfl) xw_1404 rfl d_X12_qGoesOn_59 (fun x10 _ => ?_)
  refine xa_step (xa_iconst d_X12_qGoesOn_62 xq_i_1) ?_
  refine xa_step (xa_isub d_X12_qGoesOn_63) ?_
  refine xa_putf2 (tg := xI) xc_12 (by decide) (fun _ => rfl) rfl (fun c hc => xa_fitI c hc) xw_1404 rfl d_X12_qGoesOn_64 (fun h11 _ => ?_)
  refine xa_step (xa_aload_n d_X12_qGoesOn_67 rfl) ?_
  refine xa_step (xa_dup d_X12_qGoesOn_68 (xa_tR _)) ?_
  refine xa_getf xI xc_12 (by decide) (fun _ => rfl) xw_1405 rfl d_X12_qGoesOn_69 (fun x12 _ => ?_)
  refine xa_step (xa_iconst d_X12_qGoesOn_72 xq_i_1) ?_
  refine xa_step (xa_isub d_X12_qGoesOn_73) ?_
  refine xa_putf2 (tg := xI) xc_12 (by decide) (fun _ => rfl) rfl (fun c hc => xa_fitI c hc) xw_1405 rfl d_X12_qGoesOn_74 (fun h13 _ => ?_)
  refine xa_step (xa_aload_n d_X12_qGoesOn_77 rfl) ?_
  refine xa_getf xR xc_12 (by decide) (fun _ => rfl) xw_1403 rfl d_X12_qGoesOn_78 (fun x14 _ => ?_)
  refine xa_step (xa_aload_n d_X12_qGoesOn_81 rfl) ?_
  refine xa_getf xI xc_12 (by decide) (fun _ => rfl) xw_1404 rfl d_X12_qGoesOn_82 (fun x15 _ => ?_)
  refine xa_iaload d_X12_qGoesOn_85 (fun x16 _ => ?_)
  refine xa_step (xa_bipush d_X12_qGoesOn_86 xq_b_20) ?_
  refine xa_if (xa_icmpeq d_X12_qGoesOn_88) (fun q17 => ?_) (fun q17 => ?_)
  · exact xa_weak (ls' := [some (xR c0), none]) ⟨rfl, trivial⟩ (g_X12_qGoesOn_J115L0 l G c0 K hb hx h13)
  · refine xa_step (xa_aload_n d_X12_qGoesOn_91 rfl) ?_
    refine xa_step (xa_aload_n d_X12_qGoesOn_92 rfl) ?_
    refine xa_getf xR xc_12 (by decide) (fun _ => rfl) xw_1403 rfl d_X12_qGoesOn_93 (fun x19 _ => ?_)
    refine xa_step (xa_aload_n d_X12_qGoesOn_96 rfl) ?_
    refine xa_getf xI xc_12 (by decide) (fun _ => rfl) xw_1404 rfl d_X12_qGoesOn_97 (fun x20 _ => ?_)
    refine xa_iaload d_X12_qGoesOn_100 (fun x21 _ => ?_)
    refine xa_step (xa_bipush d_X12_qGoesOn_101 xq_b_23) ?_
    refine xa_if (xa_icmpne d_X12_qGoesOn_103) (fun q22 => ?_) (fun q22 => ?_)
    · refine xa_step (xa_iconst d_X12_qGoesOn_106 xq_i_5) ?_
      refine xa_step (xa_goto d_X12_qGoesOn_107) ?_
      exact xa_weak (ls' := [some (xR c0), none]) ⟨rfl, trivial⟩ (g_X12_qGoesOn_J112L0 l G c0 K hb hx c0 5 h13)
    · refine xa_step (xa_bipush d_X12_qGoesOn_110 xq_b_6) ?_
      exact xa_weak (ls' := [some (xR c0), none]) ⟨rfl, trivial⟩ (g_X12_qGoesOn_J112L0 l G c0 K hb hx c0 6 h13)
theorem d_X12_qGoesOn_25 : decode mX12_qGoesOn.1 25 = .ok (.aload_n 0, 1) ∧ 25 + 1 = 26 := ⟨by decide +kernel, rfl⟩
theorem d_X12_qGoesOn_26 : decode mX12_qGoesOn.1 26 = .ok (.invokevirtual 621, 3) ∧ 26 + 3 = 29 := ⟨by decide +kernel, rfl⟩
theorem d_X12_qGoesOn_29 : decode mX12_qGoesOn.1 29 = .ok (.bipush 23, 2) ∧ 29 + 2 = 31 := ⟨by decide +kernel, rfl⟩
theorem d_X12_qGoesOn_31 : decode mX12_qGoesOn.1 31 = .ok (.if_icmp .eq 12, 3) ∧ 31 + 3 = 34 ∧ ((31 : Nat) : Int) + 12 = ((43 : Nat) : Int) := ⟨by decide +kernel, rfl, rfl⟩
theorem d_X12_qGoesOn_34 : decode mX12_qGoesOn.1 34 = .ok (.aload_n 0, 1) ∧ 34 + 1 = 35 := ⟨by decide +kernel, rfl⟩
theorem d_X12_qGoesOn_35 : decode mX12_qGoesOn.1 35 = .ok (.invokevirtual 621, 3) ∧ 35 + 3 = 38 := ⟨by decide +kernel, rfl⟩
theorem d_X12_qGoesOn_38 : decode mX12_qGoesOn.1 38 = .ok (.bipush 24, 2) ∧ 38 + 2 = 40 := ⟨by decide +kernel, rfl⟩
theorem d_X12_qGoesOn_40 : decode mX12_qGoesOn.1 40 = .ok (.if_icmp .ne 82, 3) ∧ 40 + 3 = 43 ∧ ((40 : Nat) : Int) + 82 = ((122 : Nat) : Int) := ⟨by decide +kernel, rfl, rfl⟩
set_option maxRecDepth 100000 in
set_option maxHeartbeats 4000000 in
theorem g_X12_qGoesOn_L0 (l : Launch) (G : xa_C) (c0 : Int) (K : (xa_H) ⊕ (xa_H) → Option xa_O) (hb : ∀ (h : xa_H), xa_G l G 5 mX12_qGoesOn (some (Sum.inl h)) K 0 [some (xR c0), none] [] h) (hx : ∀ (h : xa_H), xa_G l G 5 mX12_qGoesOn (some (Sum.inr h)) K 122 [some (xR c0), none] [] h) : ∀ (h : xa_H), xa_G l G 5 mX12_qGoesOn (f_X12_qGoesOn_L0 c0 h) K 0 [some (xR c0), none] [] h := by
  intro h
  unfold f_X12_qGoesOn_L0
  refine xa_step (xa_aload_n d_X12_qGoesOn_0 rfl) ?_
  refine xa_getf xI xc_12 (by decide) (fun _ => rfl) xw_1309 rfl d_X12_qGoesOn_1 (fun x1 _ => ?_)
  refine xa_if (xa_ifne d_X12_qGoesOn_4) (fun q2 => ?_) (fun q2 => ?_)
  · refine xa_step (xa_aload_n d_X12_qGoesOn_7 rfl) ?_
    refine xa_callVI (as := []) (st := []) (M' := mX12_look) (d' := 2) rfl xw_1646 xw_1648 xw_66 xw_1649 xw_177 xh_X12_look rfl ⟨Nat.le_of_ble_eq_true rfl, Nat.le_of_ble_eq_true rfl⟩ (Nat.le_of_ble_eq_true rfl) rfl d_X12_qGoesOn_8 (fun r hr => ct_X12_look l G c0 h r hr) (fun r3 _ => ?_)
    refine xa_step (xa_bipush d_X12_qGoesOn_11 xq_b_41) ?_
    refine xa_if (xa_icmpne d_X12_qGoesOn_13) (fun q4 => ?_) (fun q4 => ?_)
    · refine xa_step (xa_aload_n d_X12_qGoesOn_16 rfl) ?_
      refine xa_callVi (as := []) (st := []) (M' := mX12_qBracket) (d' := 3) rfl xw_1793 xw_1795 xw_100 xw_1796 xw_177 xh_X12_qBracket rfl ⟨Nat.le_of_ble_eq_true rfl, Nat.le_of_ble_eq_true rfl⟩ (Nat.le_of_ble_eq_true rfl) rfl d_X12_qGoesOn_17 (fun r hr => ct_X12_qBracket l G c0 r3.2 r hr) (fun r5 _ => ?_)
      refine xa_step (xa_bipush d_X12_qGoesOn_20 xq_b_20) ?_
      refine xa_if (xa_icmpeq d_X12_qGoesOn_22) (fun q6 => ?_) (fun q6 => ?_)
      · exact xa_weak (ls' := [some (xR c0), none]) ⟨rfl, trivial⟩ (g_X12_qGoesOn_J43L0 l G c0 K hb hx r3.2)
      · refine xa_step (xa_aload_n d_X12_qGoesOn_25 rfl) ?_
        refine xa_callVi (as := []) (st := []) (M' := mX12_qBracket) (d' := 3) rfl xw_1793 xw_1795 xw_100 xw_1796 xw_177 xh_X12_qBracket rfl ⟨Nat.le_of_ble_eq_true rfl, Nat.le_of_ble_eq_true rfl⟩ (Nat.le_of_ble_eq_true rfl) rfl d_X12_qGoesOn_26 (fun r hr => ct_X12_qBracket l G c0 r3.2 r hr) (fun r24 _ => ?_)
        refine xa_step (xa_bipush d_X12_qGoesOn_29 xq_b_23) ?_
        refine xa_if (xa_icmpeq d_X12_qGoesOn_31) (fun q25 => ?_) (fun q25 => ?_)
        · exact xa_weak (ls' := [some (xR c0), none]) ⟨rfl, trivial⟩ (g_X12_qGoesOn_J43L0 l G c0 K hb hx r3.2)
        · refine xa_step (xa_aload_n d_X12_qGoesOn_34 rfl) ?_
          refine xa_callVi (as := []) (st := []) (M' := mX12_qBracket) (d' := 3) rfl xw_1793 xw_1795 xw_100 xw_1796 xw_177 xh_X12_qBracket rfl ⟨Nat.le_of_ble_eq_true rfl, Nat.le_of_ble_eq_true rfl⟩ (Nat.le_of_ble_eq_true rfl) rfl d_X12_qGoesOn_35 (fun r hr => ct_X12_qBracket l G c0 r3.2 r hr) (fun r26 _ => ?_)
          refine xa_step (xa_bipush d_X12_qGoesOn_38 xq_b_24) ?_
          refine xa_if (xa_icmpne d_X12_qGoesOn_40) (fun q27 => ?_) (fun q27 => ?_)
          · exact xa_weak (ls' := [some (xR c0), none]) ⟨rfl, trivial⟩ (g_X12_qGoesOn_J43L0 l G c0 K hb hx r3.2)
          · exact xa_weak (ls' := [some (xR c0), none]) ⟨rfl, trivial⟩ (hx r3.2)
    · exact xa_weak (ls' := [some (xR c0), none]) ⟨rfl, trivial⟩ (hx r3.2)
  · exact xa_weak (ls' := [some (xR c0), none]) ⟨rfl, trivial⟩ (hx h)
theorem d_X12_qGoesOn_122 : decode mX12_qGoesOn.1 122 = .ok (.aload_n 0, 1) ∧ 122 + 1 = 123 := ⟨by decide +kernel, rfl⟩
theorem d_X12_qGoesOn_123 : decode mX12_qGoesOn.1 123 = .ok (.bipush 42, 2) ∧ 123 + 2 = 125 := ⟨by decide +kernel, rfl⟩
theorem d_X12_qGoesOn_125 : decode mX12_qGoesOn.1 125 = .ok (.invokevirtual 283, 3) ∧ 125 + 3 = 128 := ⟨by decide +kernel, rfl⟩
theorem d_X12_qGoesOn_128 : decode mX12_qGoesOn.1 128 = .ok (.ifCond .ne 12, 3) ∧ 128 + 3 = 131 ∧ ((128 : Nat) : Int) + 12 = ((140 : Nat) : Int) := ⟨by decide +kernel, rfl, rfl⟩
theorem d_X12_qGoesOn_131 : decode mX12_qGoesOn.1 131 = .ok (.aload_n 0, 1) ∧ 131 + 1 = 132 := ⟨by decide +kernel, rfl⟩
theorem d_X12_qGoesOn_132 : decode mX12_qGoesOn.1 132 = .ok (.bipush 47, 2) ∧ 132 + 2 = 134 := ⟨by decide +kernel, rfl⟩
theorem d_X12_qGoesOn_134 : decode mX12_qGoesOn.1 134 = .ok (.invokevirtual 283, 3) ∧ 134 + 3 = 137 := ⟨by decide +kernel, rfl⟩
theorem d_X12_qGoesOn_137 : decode mX12_qGoesOn.1 137 = .ok (.ifCond .eq 70, 3) ∧ 137 + 3 = 140 ∧ ((137 : Nat) : Int) + 70 = ((207 : Nat) : Int) := ⟨by decide +kernel, rfl, rfl⟩
theorem d_X12_qGoesOn_207 : decode mX12_qGoesOn.1 207 = .ok (.aload_n 0, 1) ∧ 207 + 1 = 208 := ⟨by decide +kernel, rfl⟩
theorem d_X12_qGoesOn_208 : decode mX12_qGoesOn.1 208 = .ok (.bipush 43, 2) ∧ 208 + 2 = 210 := ⟨by decide +kernel, rfl⟩
theorem d_X12_qGoesOn_210 : decode mX12_qGoesOn.1 210 = .ok (.invokevirtual 283, 3) ∧ 210 + 3 = 213 := ⟨by decide +kernel, rfl⟩
theorem d_X12_qGoesOn_213 : decode mX12_qGoesOn.1 213 = .ok (.ifCond .ne 12, 3) ∧ 213 + 3 = 216 ∧ ((213 : Nat) : Int) + 12 = ((225 : Nat) : Int) := ⟨by decide +kernel, rfl, rfl⟩
theorem d_X12_qGoesOn_216 : decode mX12_qGoesOn.1 216 = .ok (.aload_n 0, 1) ∧ 216 + 1 = 217 := ⟨by decide +kernel, rfl⟩
theorem d_X12_qGoesOn_217 : decode mX12_qGoesOn.1 217 = .ok (.bipush 45, 2) ∧ 217 + 2 = 219 := ⟨by decide +kernel, rfl⟩
theorem d_X12_qGoesOn_219 : decode mX12_qGoesOn.1 219 = .ok (.invokevirtual 283, 3) ∧ 219 + 3 = 222 := ⟨by decide +kernel, rfl⟩
theorem d_X12_qGoesOn_222 : decode mX12_qGoesOn.1 222 = .ok (.ifCond .eq 86, 3) ∧ 222 + 3 = 225 ∧ ((222 : Nat) : Int) + 86 = ((308 : Nat) : Int) := ⟨by decide +kernel, rfl, rfl⟩
theorem d_X12_qGoesOn_308 : decode mX12_qGoesOn.1 308 = .ok (.aload_n 0, 1) ∧ 308 + 1 = 309 := ⟨by decide +kernel, rfl⟩
theorem d_X12_qGoesOn_309 : decode mX12_qGoesOn.1 309 = .ok (.invokevirtual 621, 3) ∧ 309 + 3 = 312 := ⟨by decide +kernel, rfl⟩
theorem d_X12_qGoesOn_312 : decode mX12_qGoesOn.1 312 = .ok (.bipush 21, 2) ∧ 312 + 2 = 314 := ⟨by decide +kernel, rfl⟩
theorem d_X12_qGoesOn_314 : decode mX12_qGoesOn.1 314 = .ok (.if_icmp .eq 12, 3) ∧ 314 + 3 = 317 ∧ ((314 : Nat) : Int) + 12 = ((326 : Nat) : Int) := ⟨by decide +kernel, rfl, rfl⟩
theorem d_X12_qGoesOn_326 : decode mX12_qGoesOn.1 326 = .ok (.aload_n 0, 1) ∧ 326 + 1 = 327 := ⟨by decide +kernel, rfl⟩
theorem d_X12_qGoesOn_327 : decode mX12_qGoesOn.1 327 = .ok (.bipush 44, 2) ∧ 327 + 2 = 329 := ⟨by decide +kernel, rfl⟩
theorem d_X12_qGoesOn_329 : decode mX12_qGoesOn.1 329 = .ok (.invokevirtual 378, 3) ∧ 329 + 3 = 332 := ⟨by decide +kernel, rfl⟩
theorem d_X12_qGoesOn_332 : decode mX12_qGoesOn.1 332 = .ok (.aload_n 0, 1) ∧ 332 + 1 = 333 := ⟨by decide +kernel, rfl⟩
theorem d_X12_qGoesOn_333 : decode mX12_qGoesOn.1 333 = .ok (.getfield 249, 3) ∧ 333 + 3 = 336 := ⟨by decide +kernel, rfl⟩
theorem d_X12_qGoesOn_336 : decode mX12_qGoesOn.1 336 = .ok (.ifCond .eq 5, 3) ∧ 336 + 3 = 339 ∧ ((336 : Nat) : Int) + 5 = ((341 : Nat) : Int) := ⟨by decide +kernel, rfl, rfl⟩
theorem d_X12_qGoesOn_341 : decode mX12_qGoesOn.1 341 = .ok (.aload_n 0, 1) ∧ 341 + 1 = 342 := ⟨by decide +kernel, rfl⟩
theorem d_X12_qGoesOn_342 : decode mX12_qGoesOn.1 342 = .ok (.invokevirtual 624, 3) ∧ 342 + 3 = 345 := ⟨by decide +kernel, rfl⟩
theorem d_X12_qGoesOn_345 : decode mX12_qGoesOn.1 345 = .ok (.aload_n 0, 1) ∧ 345 + 1 = 346 := ⟨by decide +kernel, rfl⟩
theorem d_X12_qGoesOn_346 : decode mX12_qGoesOn.1 346 = .ok (.getfield 237, 3) ∧ 346 + 3 = 349 := ⟨by decide +kernel, rfl⟩
theorem d_X12_qGoesOn_349 : decode mX12_qGoesOn.1 349 = .ok (.aload_n 0, 1) ∧ 349 + 1 = 350 := ⟨by decide +kernel, rfl⟩
theorem d_X12_qGoesOn_350 : decode mX12_qGoesOn.1 350 = .ok (.getfield 338, 3) ∧ 350 + 3 = 353 := ⟨by decide +kernel, rfl⟩
theorem d_X12_qGoesOn_353 : decode mX12_qGoesOn.1 353 = .ok (.iconst 1, 1) ∧ 353 + 1 = 354 := ⟨by decide +kernel, rfl⟩
theorem d_X12_qGoesOn_354 : decode mX12_qGoesOn.1 354 = .ok (.isub, 1) ∧ 354 + 1 = 355 := ⟨by decide +kernel, rfl⟩
theorem d_X12_qGoesOn_355 : decode mX12_qGoesOn.1 355 = .ok (.dup2, 1) ∧ 355 + 1 = 356 := ⟨by decide +kernel, rfl⟩
theorem d_X12_qGoesOn_356 : decode mX12_qGoesOn.1 356 = .ok (.iaload, 1) ∧ 356 + 1 = 357 := ⟨by decide +kernel, rfl⟩
theorem d_X12_qGoesOn_357 : decode mX12_qGoesOn.1 357 = .ok (.iconst 2, 1) ∧ 357 + 1 = 358 := ⟨by decide +kernel, rfl⟩
theorem d_X12_qGoesOn_358 : decode mX12_qGoesOn.1 358 = .ok (.iadd, 1) ∧ 358 + 1 = 359 := ⟨by decide +kernel, rfl⟩
theorem d_X12_qGoesOn_359 : decode mX12_qGoesOn.1 359 = .ok (.iastore, 1) ∧ 359 + 1 = 360 := ⟨by decide +kernel, rfl⟩
theorem d_X12_qGoesOn_360 : decode mX12_qGoesOn.1 360 = .ok (.iconst 1, 1) ∧ 360 + 1 = 361 := ⟨by decide +kernel, rfl⟩
theorem d_X12_qGoesOn_361 : decode mX12_qGoesOn.1 361 = .ok (.ireturn, 1) := by decide +kernel
theorem d_X12_qGoesOn_339 : decode mX12_qGoesOn.1 339 = .ok (.iconst 0, 1) ∧ 339 + 1 = 340 := ⟨by decide +kernel, rfl⟩
theorem d_X12_qGoesOn_340 : decode mX12_qGoesOn.1 340 = .ok (.ireturn, 1) := by decide +kernel
set_option maxRecDepth 100000 in
set_option maxHeartbeats 4000000 in
theorem g_X12_qGoesOn_J326 (l : Launch) (G : xa_C) : ∀ (v0 : Int) (h : xa_H) , xa_G l G 5 mX12_qGoesOn (f_X12_qGoesOn_J326 v0 h) (fun r => some (some (xI r.1), r.2) : (Int × xa_H) → Option xa_O) 326 [some (xR v0), none] [] h := by
  intro v0 h
  unfold f_X12_qGoesOn_J326
  refine xa_step (xa_aload_n d_X12_qGoesOn_326 rfl) ?_
  refine xa_step (xa_bipush d_X12_qGoesOn_327 xq_b_44) ?_
  refine xa_callVV (as := [xI 44]) (st := []) (M' := mX12_asksSign) (d' := 4) rfl xw_1769 xw_1771 xw_94 xw_1772 xw_177 xh_X12_asksSign rfl ⟨Nat.le_of_ble_eq_true rfl, Nat.le_of_ble_eq_true rfl⟩ (Nat.le_of_ble_eq_true rfl) rfl d_X12_qGoesOn_329 (fun r hr => ct_X12_asksSign l G v0 44 h r hr) (fun r39 _ => ?_)
  refine xa_step (xa_aload_n d_X12_qGoesOn_332 rfl) ?_
  refine xa_getf xI xc_12 (by decide) (fun _ => rfl) xw_1309 rfl d_X12_qGoesOn_333 (fun x40 _ => ?_)
  refine xa_if (xa_ifeq d_X12_qGoesOn_336) (fun q41 => ?_) (fun q41 => ?_)
  · refine xa_step (xa_aload_n d_X12_qGoesOn_341 rfl) ?_
    refine xa_callVV (as := []) (st := []) (M' := mX12_qDropsToBracket) (d' := 4) rfl xw_1800 xw_1802 xw_101 xw_1803 xw_177 xh_X12_qDropsToBracket rfl ⟨Nat.le_of_ble_eq_true rfl, Nat.le_of_ble_eq_true rfl⟩ (Nat.le_of_ble_eq_true rfl) rfl d_X12_qGoesOn_342 (fun r hr => ct_X12_qDropsToBracket l G v0 r39 r hr) (fun r42 _ => ?_)
    refine xa_step (xa_aload_n d_X12_qGoesOn_345 rfl) ?_
    refine xa_getf xR xc_12 (by decide) (fun _ => rfl) xw_1403 rfl d_X12_qGoesOn_346 (fun x43 _ => ?_)
    refine xa_step (xa_aload_n d_X12_qGoesOn_349 rfl) ?_
    refine xa_getf xI xc_12 (by decide) (fun _ => rfl) xw_1404 rfl d_X12_qGoesOn_350 (fun x44 _ => ?_)
    refine xa_step (xa_iconst d_X12_qGoesOn_353 xq_i_1) ?_
    refine xa_step (xa_isub d_X12_qGoesOn_354) ?_
    refine xa_step (xa_dup2 d_X12_qGoesOn_355 (xa_tI _) (xa_tR _)) ?_
    refine xa_iaload d_X12_qGoesOn_356 (fun x45 _ => ?_)
    refine xa_step (xa_iconst d_X12_qGoesOn_357 xq_i_2) ?_
    refine xa_step (xa_iadd d_X12_qGoesOn_358) ?_
    refine xa_iastore2 d_X12_qGoesOn_359 (fun h46 _ => ?_)
    refine xa_step (xa_iconst d_X12_qGoesOn_360 xq_i_1) ?_
    exact xa_zret d_X12_qGoesOn_361 rfl (Or.inr rfl) rfl
  · refine xa_step (xa_iconst d_X12_qGoesOn_339 xq_i_0) ?_
    exact xa_zret d_X12_qGoesOn_340 rfl (Or.inl rfl) rfl
theorem d_X12_qGoesOn_317 : decode mX12_qGoesOn.1 317 = .ok (.aload_n 0, 1) ∧ 317 + 1 = 318 := ⟨by decide +kernel, rfl⟩
theorem d_X12_qGoesOn_318 : decode mX12_qGoesOn.1 318 = .ok (.invokevirtual 621, 3) ∧ 318 + 3 = 321 := ⟨by decide +kernel, rfl⟩
theorem d_X12_qGoesOn_321 : decode mX12_qGoesOn.1 321 = .ok (.bipush 22, 2) ∧ 321 + 2 = 323 := ⟨by decide +kernel, rfl⟩
theorem d_X12_qGoesOn_323 : decode mX12_qGoesOn.1 323 = .ok (.if_icmp .ne 39, 3) ∧ 323 + 3 = 326 ∧ ((323 : Nat) : Int) + 39 = ((362 : Nat) : Int) := ⟨by decide +kernel, rfl, rfl⟩
theorem d_X12_qGoesOn_362 : decode mX12_qGoesOn.1 362 = .ok (.aload_n 0, 1) ∧ 362 + 1 = 363 := ⟨by decide +kernel, rfl⟩
theorem d_X12_qGoesOn_363 : decode mX12_qGoesOn.1 363 = .ok (.invokevirtual 621, 3) ∧ 363 + 3 = 366 := ⟨by decide +kernel, rfl⟩
theorem d_X12_qGoesOn_366 : decode mX12_qGoesOn.1 366 = .ok (.iconst (-1), 1) ∧ 366 + 1 = 367 := ⟨by decide +kernel, rfl⟩
theorem d_X12_qGoesOn_367 : decode mX12_qGoesOn.1 367 = .ok (.if_icmp .eq 19, 3) ∧ 367 + 3 = 370 ∧ ((367 : Nat) : Int) + 19 = ((386 : Nat) : Int) := ⟨by decide +kernel, rfl, rfl⟩
theorem d_X12_qGoesOn_386 : decode mX12_qGoesOn.1 386 = .ok (.iconst 0, 1) ∧ 386 + 1 = 387 := ⟨by decide +kernel, rfl⟩
theorem d_X12_qGoesOn_387 : decode mX12_qGoesOn.1 387 = .ok (.ireturn, 1) := by decide +kernel
theorem d_X12_qGoesOn_370 : decode mX12_qGoesOn.1 370 = .ok (.aload_n 0, 1) ∧ 370 + 1 = 371 := ⟨by decide +kernel, rfl⟩
theorem d_X12_qGoesOn_371 : decode mX12_qGoesOn.1 371 = .ok (.getfield 249, 3) ∧ 371 + 3 = 374 := ⟨by decide +kernel, rfl⟩
theorem d_X12_qGoesOn_374 : decode mX12_qGoesOn.1 374 = .ok (.ifCond .ne 12, 3) ∧ 374 + 3 = 377 ∧ ((374 : Nat) : Int) + 12 = ((386 : Nat) : Int) := ⟨by decide +kernel, rfl, rfl⟩
theorem d_X12_qGoesOn_377 : decode mX12_qGoesOn.1 377 = .ok (.aload_n 0, 1) ∧ 377 + 1 = 378 := ⟨by decide +kernel, rfl⟩
theorem d_X12_qGoesOn_378 : decode mX12_qGoesOn.1 378 = .ok (.iconst 1, 1) ∧ 378 + 1 = 379 := ⟨by decide +kernel, rfl⟩
theorem d_X12_qGoesOn_379 : decode mX12_qGoesOn.1 379 = .ok (.aload_n 0, 1) ∧ 379 + 1 = 380 := ⟨by decide +kernel, rfl⟩
theorem d_X12_qGoesOn_380 : decode mX12_qGoesOn.1 380 = .ok (.getfield 255, 3) ∧ 380 + 3 = 383 := ⟨by decide +kernel, rfl⟩
theorem d_X12_qGoesOn_383 : decode mX12_qGoesOn.1 383 = .ok (.invokevirtual 279, 3) ∧ 383 + 3 = 386 := ⟨by decide +kernel, rfl⟩
theorem d_X12_qGoesOn_225 : decode mX12_qGoesOn.1 225 = .ok (.aload_n 0, 1) ∧ 225 + 1 = 226 := ⟨by decide +kernel, rfl⟩
theorem d_X12_qGoesOn_226 : decode mX12_qGoesOn.1 226 = .ok (.getfield 7, 3) ∧ 226 + 3 = 229 := ⟨by decide +kernel, rfl⟩
theorem d_X12_qGoesOn_229 : decode mX12_qGoesOn.1 229 = .ok (.aload_n 0, 1) ∧ 229 + 1 = 230 := ⟨by decide +kernel, rfl⟩
theorem d_X12_qGoesOn_230 : decode mX12_qGoesOn.1 230 = .ok (.getfield 255, 3) ∧ 230 + 3 = 233 := ⟨by decide +kernel, rfl⟩
theorem d_X12_qGoesOn_233 : decode mX12_qGoesOn.1 233 = .ok (.iconst 1, 1) ∧ 233 + 1 = 234 := ⟨by decide +kernel, rfl⟩
theorem d_X12_qGoesOn_234 : decode mX12_qGoesOn.1 234 = .ok (.isub, 1) ∧ 234 + 1 = 235 := ⟨by decide +kernel, rfl⟩
theorem d_X12_qGoesOn_235 : decode mX12_qGoesOn.1 235 = .ok (.iaload, 1) ∧ 235 + 1 = 236 := ⟨by decide +kernel, rfl⟩
theorem d_X12_qGoesOn_236 : decode mX12_qGoesOn.1 236 = .ok (.bipush 43, 2) ∧ 236 + 2 = 238 := ⟨by decide +kernel, rfl⟩
theorem d_X12_qGoesOn_238 : decode mX12_qGoesOn.1 238 = .ok (.if_icmp .ne 7, 3) ∧ 238 + 3 = 241 ∧ ((238 : Nat) : Int) + 7 = ((245 : Nat) : Int) := ⟨by decide +kernel, rfl, rfl⟩
theorem d_X12_qGoesOn_241 : decode mX12_qGoesOn.1 241 = .ok (.iconst 1, 1) ∧ 241 + 1 = 242 := ⟨by decide +kernel, rfl⟩
theorem d_X12_qGoesOn_242 : decode mX12_qGoesOn.1 242 = .ok (.goto 4, 3) ∧ ((242 : Nat) : Int) + 4 = ((246 : Nat) : Int) := ⟨by decide +kernel, rfl⟩
theorem d_X12_qGoesOn_246 : decode mX12_qGoesOn.1 246 = .ok (.istore_n 1, 1) ∧ 246 + 1 = 247 := ⟨by decide +kernel, rfl⟩
theorem d_X12_qGoesOn_247 : decode mX12_qGoesOn.1 247 = .ok (.aload_n 0, 1) ∧ 247 + 1 = 248 := ⟨by decide +kernel, rfl⟩
theorem d_X12_qGoesOn_248 : decode mX12_qGoesOn.1 248 = .ok (.iconst 3, 1) ∧ 248 + 1 = 249 := ⟨by decide +kernel, rfl⟩
theorem d_X12_qGoesOn_249 : decode mX12_qGoesOn.1 249 = .ok (.invokevirtual 627, 3) ∧ 249 + 3 = 252 := ⟨by decide +kernel, rfl⟩
theorem d_X12_qGoesOn_252 : decode mX12_qGoesOn.1 252 = .ok (.ifCond .ne 27, 3) ∧ 252 + 3 = 255 ∧ ((252 : Nat) : Int) + 27 = ((279 : Nat) : Int) := ⟨by decide +kernel, rfl, rfl⟩
theorem d_X12_qGoesOn_255 : decode mX12_qGoesOn.1 255 = .ok (.aload_n 0, 1) ∧ 255 + 1 = 256 := ⟨by decide +kernel, rfl⟩
theorem d_X12_qGoesOn_256 : decode mX12_qGoesOn.1 256 = .ok (.iconst 4, 1) ∧ 256 + 1 = 257 := ⟨by decide +kernel, rfl⟩
theorem d_X12_qGoesOn_257 : decode mX12_qGoesOn.1 257 = .ok (.invokevirtual 627, 3) ∧ 257 + 3 = 260 := ⟨by decide +kernel, rfl⟩
theorem d_X12_qGoesOn_260 : decode mX12_qGoesOn.1 260 = .ok (.ifCond .ne 19, 3) ∧ 260 + 3 = 263 ∧ ((260 : Nat) : Int) + 19 = ((279 : Nat) : Int) := ⟨by decide +kernel, rfl, rfl⟩
theorem d_X12_qGoesOn_263 : decode mX12_qGoesOn.1 263 = .ok (.aload_n 0, 1) ∧ 263 + 1 = 264 := ⟨by decide +kernel, rfl⟩
theorem d_X12_qGoesOn_264 : decode mX12_qGoesOn.1 264 = .ok (.iconst 1, 1) ∧ 264 + 1 = 265 := ⟨by decide +kernel, rfl⟩
theorem d_X12_qGoesOn_265 : decode mX12_qGoesOn.1 265 = .ok (.invokevirtual 627, 3) ∧ 265 + 3 = 268 := ⟨by decide +kernel, rfl⟩
theorem d_X12_qGoesOn_268 : decode mX12_qGoesOn.1 268 = .ok (.ifCond .ne 11, 3) ∧ 268 + 3 = 271 ∧ ((268 : Nat) : Int) + 11 = ((279 : Nat) : Int) := ⟨by decide +kernel, rfl, rfl⟩
theorem d_X12_qGoesOn_271 : decode mX12_qGoesOn.1 271 = .ok (.aload_n 0, 1) ∧ 271 + 1 = 272 := ⟨by decide +kernel, rfl⟩
theorem d_X12_qGoesOn_272 : decode mX12_qGoesOn.1 272 = .ok (.iconst 2, 1) ∧ 272 + 1 = 273 := ⟨by decide +kernel, rfl⟩
theorem d_X12_qGoesOn_273 : decode mX12_qGoesOn.1 273 = .ok (.invokevirtual 627, 3) ∧ 273 + 3 = 276 := ⟨by decide +kernel, rfl⟩
theorem d_X12_qGoesOn_276 : decode mX12_qGoesOn.1 276 = .ok (.ifCond .eq 10, 3) ∧ 276 + 3 = 279 ∧ ((276 : Nat) : Int) + 10 = ((286 : Nat) : Int) := ⟨by decide +kernel, rfl, rfl⟩
theorem d_X12_qGoesOn_279 : decode mX12_qGoesOn.1 279 = .ok (.aload_n 0, 1) ∧ 279 + 1 = 280 := ⟨by decide +kernel, rfl⟩
theorem d_X12_qGoesOn_280 : decode mX12_qGoesOn.1 280 = .ok (.invokevirtual 600, 3) ∧ 280 + 3 = 283 := ⟨by decide +kernel, rfl⟩
theorem d_X12_qGoesOn_283 : decode mX12_qGoesOn.1 283 = .ok (.goto (-36), 3) ∧ ((283 : Nat) : Int) + (-36) = ((247 : Nat) : Int) := ⟨by decide +kernel, rfl⟩
set_option maxRecDepth 100000 in
set_option maxHeartbeats 4000000 in
theorem g_X12_qGoesOn_J279L247 (l : Launch) (G : xa_C) (c0 c1 : Int) (K : (xa_H) ⊕ (xa_H) → Option xa_O) (hb : ∀ (h : xa_H), xa_G l G 5 mX12_qGoesOn (some (Sum.inl h)) K 247 [some (xR c0), some (xI c1)] [] h) (hx : ∀ (h : xa_H), xa_G l G 5 mX12_qGoesOn (some (Sum.inr h)) K 286 [some (xR c0), some (xI c1)] [] h) : ∀ (h : xa_H) , xa_G l G 5 mX12_qGoesOn (f_X12_qGoesOn_J279L247 c0 c1 h) K 279 [some (xR c0), some (xI c1)] [] h := by
  intro h
  unfold f_X12_qGoesOn_J279L247
  refine xa_step (xa_aload_n d_X12_qGoesOn_279 rfl) ?_
  refine xa_callVV (as := []) (st := []) (M' := mX12_qDrops) (d' := 3) rfl xw_1785 xw_1787 xw_98 xw_1788 xw_177 xh_X12_qDrops rfl ⟨Nat.le_of_ble_eq_true rfl, Nat.le_of_ble_eq_true rfl⟩ (Nat.le_of_ble_eq_true rfl) rfl d_X12_qGoesOn_280 (fun r hr => ct_X12_qDrops l G c0 h r hr) (fun r67 _ => ?_)
  refine xa_step (xa_goto d_X12_qGoesOn_283) ?_
  exact xa_weak (ls' := [some (xR c0), some (xI c1)]) ⟨rfl, rfl, trivial⟩ (hb r67)
set_option maxRecDepth 100000 in
set_option maxHeartbeats 4000000 in
theorem g_X12_qGoesOn_L247 (l : Launch) (G : xa_C) (c0 c1 : Int) (K : (xa_H) ⊕ (xa_H) → Option xa_O) (hb : ∀ (h : xa_H), xa_G l G 5 mX12_qGoesOn (some (Sum.inl h)) K 247 [some (xR c0), some (xI c1)] [] h) (hx : ∀ (h : xa_H), xa_G l G 5 mX12_qGoesOn (some (Sum.inr h)) K 286 [some (xR c0), some (xI c1)] [] h) : ∀ (h : xa_H), xa_G l G 5 mX12_qGoesOn (f_X12_qGoesOn_L247 c0 c1 h) K 247 [some (xR c0), some (xI c1)] [] h := by
  intro h
  unfold f_X12_qGoesOn_L247
  refine xa_step (xa_aload_n d_X12_qGoesOn_247 rfl) ?_
  refine xa_step (xa_iconst d_X12_qGoesOn_248 xq_i_3) ?_
  refine xa_callVi (as := [xI 3]) (st := []) (M' := mX12_qIsOn) (d' := 2) rfl xw_1804 xw_1806 xw_102 xw_1807 xw_177 xh_X12_qIsOn rfl ⟨Nat.le_of_ble_eq_true rfl, Nat.le_of_ble_eq_true rfl⟩ (Nat.le_of_ble_eq_true rfl) rfl d_X12_qGoesOn_249 (fun r hr => ct_X12_qIsOn l G c0 3 h r hr) (fun r59 _ => ?_)
  refine xa_if (xa_ifne d_X12_qGoesOn_252) (fun q60 => ?_) (fun q60 => ?_)
  · refine xa_step (xa_aload_n d_X12_qGoesOn_255 rfl) ?_
    refine xa_step (xa_iconst d_X12_qGoesOn_256 xq_i_4) ?_
    refine xa_callVi (as := [xI 4]) (st := []) (M' := mX12_qIsOn) (d' := 2) rfl xw_1804 xw_1806 xw_102 xw_1807 xw_177 xh_X12_qIsOn rfl ⟨Nat.le_of_ble_eq_true rfl, Nat.le_of_ble_eq_true rfl⟩ (Nat.le_of_ble_eq_true rfl) rfl d_X12_qGoesOn_257 (fun r hr => ct_X12_qIsOn l G c0 4 h r hr) (fun r61 _ => ?_)
    refine xa_if (xa_ifne d_X12_qGoesOn_260) (fun q62 => ?_) (fun q62 => ?_)
    · refine xa_step (xa_aload_n d_X12_qGoesOn_263 rfl) ?_
      refine xa_step (xa_iconst d_X12_qGoesOn_264 xq_i_1) ?_
      refine xa_callVi (as := [xI 1]) (st := []) (M' := mX12_qIsOn) (d' := 2) rfl xw_1804 xw_1806 xw_102 xw_1807 xw_177 xh_X12_qIsOn rfl ⟨Nat.le_of_ble_eq_true rfl, Nat.le_of_ble_eq_true rfl⟩ (Nat.le_of_ble_eq_true rfl) rfl d_X12_qGoesOn_265 (fun r hr => ct_X12_qIsOn l G c0 1 h r hr) (fun r63 _ => ?_)
      refine xa_if (xa_ifne d_X12_qGoesOn_268) (fun q64 => ?_) (fun q64 => ?_)
      · refine xa_step (xa_aload_n d_X12_qGoesOn_271 rfl) ?_
        refine xa_step (xa_iconst d_X12_qGoesOn_272 xq_i_2) ?_
        refine xa_callVi (as := [xI 2]) (st := []) (M' := mX12_qIsOn) (d' := 2) rfl xw_1804 xw_1806 xw_102 xw_1807 xw_177 xh_X12_qIsOn rfl ⟨Nat.le_of_ble_eq_true rfl, Nat.le_of_ble_eq_true rfl⟩ (Nat.le_of_ble_eq_true rfl) rfl d_X12_qGoesOn_273 (fun r hr => ct_X12_qIsOn l G c0 2 h r hr) (fun r65 _ => ?_)
        refine xa_if (xa_ifeq d_X12_qGoesOn_276) (fun q66 => ?_) (fun q66 => ?_)
        · exact xa_weak (ls' := [some (xR c0), some (xI c1)]) ⟨rfl, rfl, trivial⟩ (hx h)
        · exact xa_weak (ls' := [some (xR c0), some (xI c1)]) ⟨rfl, rfl, trivial⟩ (g_X12_qGoesOn_J279L247 l G c0 c1 K hb hx h)
      · exact xa_weak (ls' := [some (xR c0), some (xI c1)]) ⟨rfl, rfl, trivial⟩ (g_X12_qGoesOn_J279L247 l G c0 c1 K hb hx h)
    · exact xa_weak (ls' := [some (xR c0), some (xI c1)]) ⟨rfl, rfl, trivial⟩ (g_X12_qGoesOn_J279L247 l G c0 c1 K hb hx h)
  · exact xa_weak (ls' := [some (xR c0), some (xI c1)]) ⟨rfl, rfl, trivial⟩ (g_X12_qGoesOn_J279L247 l G c0 c1 K hb hx h)
theorem d_X12_qGoesOn_286 : decode mX12_qGoesOn.1 286 = .ok (.aload_n 0, 1) ∧ 286 + 1 = 287 := ⟨by decide +kernel, rfl⟩
theorem d_X12_qGoesOn_287 : decode mX12_qGoesOn.1 287 = .ok (.getfield 237, 3) ∧ 287 + 3 = 290 := ⟨by decide +kernel, rfl⟩
theorem d_X12_qGoesOn_290 : decode mX12_qGoesOn.1 290 = .ok (.aload_n 0, 1) ∧ 290 + 1 = 291 := ⟨by decide +kernel, rfl⟩
theorem d_X12_qGoesOn_291 : decode mX12_qGoesOn.1 291 = .ok (.getfield 338, 3) ∧ 291 + 3 = 294 := ⟨by decide +kernel, rfl⟩
theorem d_X12_qGoesOn_294 : decode mX12_qGoesOn.1 294 = .ok (.iload_n 1, 1) ∧ 294 + 1 = 295 := ⟨by decide +kernel, rfl⟩
theorem d_X12_qGoesOn_295 : decode mX12_qGoesOn.1 295 = .ok (.iastore, 1) ∧ 295 + 1 = 296 := ⟨by decide +kernel, rfl⟩
theorem d_X12_qGoesOn_296 : decode mX12_qGoesOn.1 296 = .ok (.aload_n 0, 1) ∧ 296 + 1 = 297 := ⟨by decide +kernel, rfl⟩
theorem d_X12_qGoesOn_297 : decode mX12_qGoesOn.1 297 = .ok (.dup, 1) ∧ 297 + 1 = 298 := ⟨by decide +kernel, rfl⟩
theorem d_X12_qGoesOn_298 : decode mX12_qGoesOn.1 298 = .ok (.getfield 338, 3) ∧ 298 + 3 = 301 := ⟨by decide +kernel, rfl⟩
theorem d_X12_qGoesOn_301 : decode mX12_qGoesOn.1 301 = .ok (.iconst 1, 1) ∧ 301 + 1 = 302 := ⟨by decide +kernel, rfl⟩
theorem d_X12_qGoesOn_302 : decode mX12_qGoesOn.1 302 = .ok (.iadd, 1) ∧ 302 + 1 = 303 := ⟨by decide +kernel, rfl⟩
theorem d_X12_qGoesOn_303 : decode mX12_qGoesOn.1 303 = .ok (.putfield 338, 3) ∧ 303 + 3 = 306 := ⟨by decide +kernel, rfl⟩
theorem d_X12_qGoesOn_306 : decode mX12_qGoesOn.1 306 = .ok (.iconst 1, 1) ∧ 306 + 1 = 307 := ⟨by decide +kernel, rfl⟩
theorem d_X12_qGoesOn_307 : decode mX12_qGoesOn.1 307 = .ok (.ireturn, 1) := by decide +kernel
set_option maxRecDepth 100000 in
set_option maxHeartbeats 4000000 in
theorem g_X12_qGoesOn_J246 (l : Launch) (G : xa_C) : ∀ (v0 s0 : Int) (h : xa_H) , xa_G l G 5 mX12_qGoesOn (f_X12_qGoesOn_J246 v0 s0 h) (fun r => some (some (xI r.1), r.2) : (Int × xa_H) → Option xa_O) 246 [some (xR v0), none] [xI s0] h := by
  intro v0 s0 h
  unfold f_X12_qGoesOn_J246
  refine xa_step (xa_istore_n (ls' := [some (xR v0), some (xI s0)]) d_X12_qGoesOn_246 (by decide) rfl) ?_
  refine xa_weak (ls' := [some (xR v0), some (xI s0)]) ⟨rfl, rfl, trivial⟩ ?_
  refine xa_loop (f := fun s => f_X12_qGoesOn_L247 v0 s0 s) (L := fun s => [some (xR v0), some (xI s0)]) (P := fun s => s) (X := (fun x K => xa_G l G 5 mX12_qGoesOn (some (Sum.inr x)) K 286 [some (xR v0), some (xI s0)] [] x)) (fun K hb hX s => g_X12_qGoesOn_L247 l G v0 s0 K (fun hh => hb hh) (fun hh => hX hh) s) ?_ xFU h
  intro e68 K hK
  refine xa_eqE hK ?_
  show xa_G l G 5 mX12_qGoesOn _ _ 286 [some (xR v0), some (xI s0)] [] e68
  refine xa_step (xa_aload_n d_X12_qGoesOn_286 rfl) ?_
  refine xa_getf xR xc_12 (by decide) (fun _ => rfl) xw_1403 rfl d_X12_qGoesOn_287 (fun x69 _ => ?_)
  refine xa_step (xa_aload_n d_X12_qGoesOn_290 rfl) ?_
  refine xa_getf xI xc_12 (by decide) (fun _ => rfl) xw_1404 rfl d_X12_qGoesOn_291 (fun x70 _ => ?_)
  refine xa_step (xa_iload_n d_X12_qGoesOn_294 rfl) ?_
  refine xa_iastore2 d_X12_qGoesOn_295 (fun h71 _ => ?_)
  refine xa_step (xa_aload_n d_X12_qGoesOn_296 rfl) ?_
  refine xa_step (xa_dup d_X12_qGoesOn_297 (xa_tR _)) ?_
  refine xa_getf xI xc_12 (by decide) (fun _ => rfl) xw_1404 rfl d_X12_qGoesOn_298 (fun x72 _ => ?_)
  refine xa_step (xa_iconst d_X12_qGoesOn_301 xq_i_1) ?_
  refine xa_step (xa_iadd d_X12_qGoesOn_302) ?_
  refine xa_putf2 (tg := xI) xc_12 (by decide) (fun _ => rfl) rfl (fun c hc => xa_fitI c hc) xw_1404 rfl d_X12_qGoesOn_303 (fun h73 _ => ?_)
  refine xa_step (xa_iconst d_X12_qGoesOn_306 xq_i_1) ?_
  exact xa_zret d_X12_qGoesOn_307 rfl (Or.inr rfl) rfl
theorem d_X12_qGoesOn_245 : decode mX12_qGoesOn.1 245 = .ok (.iconst 2, 1) ∧ 245 + 1 = 246 := ⟨by decide +kernel, rfl⟩
set_option maxRecDepth 100000 in
set_option maxHeartbeats 4000000 in
theorem g_X12_qGoesOn_J225 (l : Launch) (G : xa_C) : ∀ (v0 : Int) (h : xa_H) , xa_G l G 5 mX12_qGoesOn (f_X12_qGoesOn_J225 v0 h) (fun r => some (some (xI r.1), r.2) : (Int × xa_H) → Option xa_O) 225 [some (xR v0), none] [] h := by
  intro v0 h
  unfold f_X12_qGoesOn_J225
  refine xa_step (xa_aload_n d_X12_qGoesOn_225 rfl) ?_
  refine xa_getf xR xc_12 (by decide) (fun _ => rfl) xw_1304 rfl d_X12_qGoesOn_226 (fun x55 _ => ?_)
  refine xa_step (xa_aload_n d_X12_qGoesOn_229 rfl) ?_
  refine xa_getf xI xc_12 (by decide) (fun _ => rfl) xw_1306 rfl d_X12_qGoesOn_230 (fun x56 _ => ?_)
  refine xa_step (xa_iconst d_X12_qGoesOn_233 xq_i_1) ?_
  refine xa_step (xa_isub d_X12_qGoesOn_234) ?_
  refine xa_iaload d_X12_qGoesOn_235 (fun x57 _ => ?_)
  refine xa_step (xa_bipush d_X12_qGoesOn_236 xq_b_43) ?_
  refine xa_if (xa_icmpne d_X12_qGoesOn_238) (fun q58 => ?_) (fun q58 => ?_)
  · refine xa_step (xa_iconst d_X12_qGoesOn_241 xq_i_1) ?_
    refine xa_step (xa_goto d_X12_qGoesOn_242) ?_
    exact xa_weak (ls' := [some (xR v0), none]) ⟨rfl, trivial⟩ (g_X12_qGoesOn_J246 l G v0 1 h)
  · refine xa_step (xa_iconst d_X12_qGoesOn_245 xq_i_2) ?_
    exact xa_weak (ls' := [some (xR v0), none]) ⟨rfl, trivial⟩ (g_X12_qGoesOn_J246 l G v0 2 h)
theorem d_X12_qGoesOn_140 : decode mX12_qGoesOn.1 140 = .ok (.aload_n 0, 1) ∧ 140 + 1 = 141 := ⟨by decide +kernel, rfl⟩
theorem d_X12_qGoesOn_141 : decode mX12_qGoesOn.1 141 = .ok (.getfield 7, 3) ∧ 141 + 3 = 144 := ⟨by decide +kernel, rfl⟩
theorem d_X12_qGoesOn_144 : decode mX12_qGoesOn.1 144 = .ok (.aload_n 0, 1) ∧ 144 + 1 = 145 := ⟨by decide +kernel, rfl⟩
theorem d_X12_qGoesOn_145 : decode mX12_qGoesOn.1 145 = .ok (.getfield 255, 3) ∧ 145 + 3 = 148 := ⟨by decide +kernel, rfl⟩
theorem d_X12_qGoesOn_148 : decode mX12_qGoesOn.1 148 = .ok (.iconst 1, 1) ∧ 148 + 1 = 149 := ⟨by decide +kernel, rfl⟩
theorem d_X12_qGoesOn_149 : decode mX12_qGoesOn.1 149 = .ok (.isub, 1) ∧ 149 + 1 = 150 := ⟨by decide +kernel, rfl⟩
theorem d_X12_qGoesOn_150 : decode mX12_qGoesOn.1 150 = .ok (.iaload, 1) ∧ 150 + 1 = 151 := ⟨by decide +kernel, rfl⟩
theorem d_X12_qGoesOn_151 : decode mX12_qGoesOn.1 151 = .ok (.bipush 42, 2) ∧ 151 + 2 = 153 := ⟨by decide +kernel, rfl⟩
theorem d_X12_qGoesOn_153 : decode mX12_qGoesOn.1 153 = .ok (.if_icmp .ne 7, 3) ∧ 153 + 3 = 156 ∧ ((153 : Nat) : Int) + 7 = ((160 : Nat) : Int) := ⟨by decide +kernel, rfl, rfl⟩
theorem d_X12_qGoesOn_156 : decode mX12_qGoesOn.1 156 = .ok (.iconst 3, 1) ∧ 156 + 1 = 157 := ⟨by decide +kernel, rfl⟩
theorem d_X12_qGoesOn_157 : decode mX12_qGoesOn.1 157 = .ok (.goto 4, 3) ∧ ((157 : Nat) : Int) + 4 = ((161 : Nat) : Int) := ⟨by decide +kernel, rfl⟩
theorem d_X12_qGoesOn_161 : decode mX12_qGoesOn.1 161 = .ok (.istore_n 1, 1) ∧ 161 + 1 = 162 := ⟨by decide +kernel, rfl⟩
theorem d_X12_qGoesOn_162 : decode mX12_qGoesOn.1 162 = .ok (.aload_n 0, 1) ∧ 162 + 1 = 163 := ⟨by decide +kernel, rfl⟩
theorem d_X12_qGoesOn_163 : decode mX12_qGoesOn.1 163 = .ok (.iconst 3, 1) ∧ 163 + 1 = 164 := ⟨by decide +kernel, rfl⟩
theorem d_X12_qGoesOn_164 : decode mX12_qGoesOn.1 164 = .ok (.invokevirtual 627, 3) ∧ 164 + 3 = 167 := ⟨by decide +kernel, rfl⟩
theorem d_X12_qGoesOn_167 : decode mX12_qGoesOn.1 167 = .ok (.ifCond .ne 11, 3) ∧ 167 + 3 = 170 ∧ ((167 : Nat) : Int) + 11 = ((178 : Nat) : Int) := ⟨by decide +kernel, rfl, rfl⟩
theorem d_X12_qGoesOn_170 : decode mX12_qGoesOn.1 170 = .ok (.aload_n 0, 1) ∧ 170 + 1 = 171 := ⟨by decide +kernel, rfl⟩
theorem d_X12_qGoesOn_171 : decode mX12_qGoesOn.1 171 = .ok (.iconst 4, 1) ∧ 171 + 1 = 172 := ⟨by decide +kernel, rfl⟩
theorem d_X12_qGoesOn_172 : decode mX12_qGoesOn.1 172 = .ok (.invokevirtual 627, 3) ∧ 172 + 3 = 175 := ⟨by decide +kernel, rfl⟩
theorem d_X12_qGoesOn_175 : decode mX12_qGoesOn.1 175 = .ok (.ifCond .eq 10, 3) ∧ 175 + 3 = 178 ∧ ((175 : Nat) : Int) + 10 = ((185 : Nat) : Int) := ⟨by decide +kernel, rfl, rfl⟩
theorem d_X12_qGoesOn_178 : decode mX12_qGoesOn.1 178 = .ok (.aload_n 0, 1) ∧ 178 + 1 = 179 := ⟨by decide +kernel, rfl⟩
theorem d_X12_qGoesOn_179 : decode mX12_qGoesOn.1 179 = .ok (.invokevirtual 600, 3) ∧ 179 + 3 = 182 := ⟨by decide +kernel, rfl⟩
theorem d_X12_qGoesOn_182 : decode mX12_qGoesOn.1 182 = .ok (.goto (-20), 3) ∧ ((182 : Nat) : Int) + (-20) = ((162 : Nat) : Int) := ⟨by decide +kernel, rfl⟩
set_option maxRecDepth 100000 in
set_option maxHeartbeats 4000000 in
theorem g_X12_qGoesOn_J178L162 (l : Launch) (G : xa_C) (c0 c1 : Int) (K : (xa_H) ⊕ (xa_H) → Option xa_O) (hb : ∀ (h : xa_H), xa_G l G 5 mX12_qGoesOn (some (Sum.inl h)) K 162 [some (xR c0), some (xI c1)] [] h) (hx : ∀ (h : xa_H), xa_G l G 5 mX12_qGoesOn (some (Sum.inr h)) K 185 [some (xR c0), some (xI c1)] [] h) : ∀ (h : xa_H) , xa_G l G 5 mX12_qGoesOn (f_X12_qGoesOn_J178L162 c0 c1 h) K 178 [some (xR c0), some (xI c1)] [] h := by
  intro h
  unfold f_X12_qGoesOn_J178L162
  refine xa_step (xa_aload_n d_X12_qGoesOn_178 rfl) ?_
  refine xa_callVV (as := []) (st := []) (M' := mX12_qDrops) (d' := 3) rfl xw_1785 xw_1787 xw_98 xw_1788 xw_177 xh_X12_qDrops rfl ⟨Nat.le_of_ble_eq_true rfl, Nat.le_of_ble_eq_true rfl⟩ (Nat.le_of_ble_eq_true rfl) rfl d_X12_qGoesOn_179 (fun r hr => ct_X12_qDrops l G c0 h r hr) (fun r82 _ => ?_)
  refine xa_step (xa_goto d_X12_qGoesOn_182) ?_
  exact xa_weak (ls' := [some (xR c0), some (xI c1)]) ⟨rfl, rfl, trivial⟩ (hb r82)
set_option maxRecDepth 100000 in
set_option maxHeartbeats 4000000 in
theorem g_X12_qGoesOn_L162 (l : Launch) (G : xa_C) (c0 c1 : Int) (K : (xa_H) ⊕ (xa_H) → Option xa_O) (hb : ∀ (h : xa_H), xa_G l G 5 mX12_qGoesOn (some (Sum.inl h)) K 162 [some (xR c0), some (xI c1)] [] h) (hx : ∀ (h : xa_H), xa_G l G 5 mX12_qGoesOn (some (Sum.inr h)) K 185 [some (xR c0), some (xI c1)] [] h) : ∀ (h : xa_H), xa_G l G 5 mX12_qGoesOn (f_X12_qGoesOn_L162 c0 c1 h) K 162 [some (xR c0), some (xI c1)] [] h := by
  intro h
  unfold f_X12_qGoesOn_L162
  refine xa_step (xa_aload_n d_X12_qGoesOn_162 rfl) ?_
  refine xa_step (xa_iconst d_X12_qGoesOn_163 xq_i_3) ?_
  refine xa_callVi (as := [xI 3]) (st := []) (M' := mX12_qIsOn) (d' := 2) rfl xw_1804 xw_1806 xw_102 xw_1807 xw_177 xh_X12_qIsOn rfl ⟨Nat.le_of_ble_eq_true rfl, Nat.le_of_ble_eq_true rfl⟩ (Nat.le_of_ble_eq_true rfl) rfl d_X12_qGoesOn_164 (fun r hr => ct_X12_qIsOn l G c0 3 h r hr) (fun r78 _ => ?_)
  refine xa_if (xa_ifne d_X12_qGoesOn_167) (fun q79 => ?_) (fun q79 => ?_)
  · refine xa_step (xa_aload_n d_X12_qGoesOn_170 rfl) ?_
    refine xa_step (xa_iconst d_X12_qGoesOn_171 xq_i_4) ?_
    refine xa_callVi (as := [xI 4]) (st := []) (M' := mX12_qIsOn) (d' := 2) rfl xw_1804 xw_1806 xw_102 xw_1807 xw_177 xh_X12_qIsOn rfl ⟨Nat.le_of_ble_eq_true rfl, Nat.le_of_ble_eq_true rfl⟩ (Nat.le_of_ble_eq_true rfl) rfl d_X12_qGoesOn_172 (fun r hr => ct_X12_qIsOn l G c0 4 h r hr) (fun r80 _ => ?_)
    refine xa_if (xa_ifeq d_X12_qGoesOn_175) (fun q81 => ?_) (fun q81 => ?_)
    · exact xa_weak (ls' := [some (xR c0), some (xI c1)]) ⟨rfl, rfl, trivial⟩ (hx h)
    · exact xa_weak (ls' := [some (xR c0), some (xI c1)]) ⟨rfl, rfl, trivial⟩ (g_X12_qGoesOn_J178L162 l G c0 c1 K hb hx h)
  · exact xa_weak (ls' := [some (xR c0), some (xI c1)]) ⟨rfl, rfl, trivial⟩ (g_X12_qGoesOn_J178L162 l G c0 c1 K hb hx h)
theorem d_X12_qGoesOn_185 : decode mX12_qGoesOn.1 185 = .ok (.aload_n 0, 1) ∧ 185 + 1 = 186 := ⟨by decide +kernel, rfl⟩
theorem d_X12_qGoesOn_186 : decode mX12_qGoesOn.1 186 = .ok (.getfield 237, 3) ∧ 186 + 3 = 189 := ⟨by decide +kernel, rfl⟩
theorem d_X12_qGoesOn_189 : decode mX12_qGoesOn.1 189 = .ok (.aload_n 0, 1) ∧ 189 + 1 = 190 := ⟨by decide +kernel, rfl⟩
theorem d_X12_qGoesOn_190 : decode mX12_qGoesOn.1 190 = .ok (.getfield 338, 3) ∧ 190 + 3 = 193 := ⟨by decide +kernel, rfl⟩
theorem d_X12_qGoesOn_193 : decode mX12_qGoesOn.1 193 = .ok (.iload_n 1, 1) ∧ 193 + 1 = 194 := ⟨by decide +kernel, rfl⟩
theorem d_X12_qGoesOn_194 : decode mX12_qGoesOn.1 194 = .ok (.iastore, 1) ∧ 194 + 1 = 195 := ⟨by decide +kernel, rfl⟩
theorem d_X12_qGoesOn_195 : decode mX12_qGoesOn.1 195 = .ok (.aload_n 0, 1) ∧ 195 + 1 = 196 := ⟨by decide +kernel, rfl⟩
theorem d_X12_qGoesOn_196 : decode mX12_qGoesOn.1 196 = .ok (.dup, 1) ∧ 196 + 1 = 197 := ⟨by decide +kernel, rfl⟩
theorem d_X12_qGoesOn_197 : decode mX12_qGoesOn.1 197 = .ok (.getfield 338, 3) ∧ 197 + 3 = 200 := ⟨by decide +kernel, rfl⟩
theorem d_X12_qGoesOn_200 : decode mX12_qGoesOn.1 200 = .ok (.iconst 1, 1) ∧ 200 + 1 = 201 := ⟨by decide +kernel, rfl⟩
theorem d_X12_qGoesOn_201 : decode mX12_qGoesOn.1 201 = .ok (.iadd, 1) ∧ 201 + 1 = 202 := ⟨by decide +kernel, rfl⟩
theorem d_X12_qGoesOn_202 : decode mX12_qGoesOn.1 202 = .ok (.putfield 338, 3) ∧ 202 + 3 = 205 := ⟨by decide +kernel, rfl⟩
theorem d_X12_qGoesOn_205 : decode mX12_qGoesOn.1 205 = .ok (.iconst 1, 1) ∧ 205 + 1 = 206 := ⟨by decide +kernel, rfl⟩
theorem d_X12_qGoesOn_206 : decode mX12_qGoesOn.1 206 = .ok (.ireturn, 1) := by decide +kernel
set_option maxRecDepth 100000 in
set_option maxHeartbeats 4000000 in
theorem g_X12_qGoesOn_J161 (l : Launch) (G : xa_C) : ∀ (v0 s0 : Int) (h : xa_H) , xa_G l G 5 mX12_qGoesOn (f_X12_qGoesOn_J161 v0 s0 h) (fun r => some (some (xI r.1), r.2) : (Int × xa_H) → Option xa_O) 161 [some (xR v0), none] [xI s0] h := by
  intro v0 s0 h
  unfold f_X12_qGoesOn_J161
  refine xa_step (xa_istore_n (ls' := [some (xR v0), some (xI s0)]) d_X12_qGoesOn_161 (by decide) rfl) ?_
  refine xa_weak (ls' := [some (xR v0), some (xI s0)]) ⟨rfl, rfl, trivial⟩ ?_
  refine xa_loop (f := fun s => f_X12_qGoesOn_L162 v0 s0 s) (L := fun s => [some (xR v0), some (xI s0)]) (P := fun s => s) (X := (fun x K => xa_G l G 5 mX12_qGoesOn (some (Sum.inr x)) K 185 [some (xR v0), some (xI s0)] [] x)) (fun K hb hX s => g_X12_qGoesOn_L162 l G v0 s0 K (fun hh => hb hh) (fun hh => hX hh) s) ?_ xFU h
  intro e83 K hK
  refine xa_eqE hK ?_
  show xa_G l G 5 mX12_qGoesOn _ _ 185 [some (xR v0), some (xI s0)] [] e83
  refine xa_step (xa_aload_n d_X12_qGoesOn_185 rfl) ?_
  refine xa_getf xR xc_12 (by decide) (fun _ => rfl) xw_1403 rfl d_X12_qGoesOn_186 (fun x84 _ => ?_)
  refine xa_step (xa_aload_n d_X12_qGoesOn_189 rfl) ?_
  refine xa_getf xI xc_12 (by decide) (fun _ => rfl) xw_1404 rfl d_X12_qGoesOn_190 (fun x85 _ => ?_)
  refine xa_step (xa_iload_n d_X12_qGoesOn_193 rfl) ?_
  refine xa_iastore2 d_X12_qGoesOn_194 (fun h86 _ => ?_)
  refine xa_step (xa_aload_n d_X12_qGoesOn_195 rfl) ?_
  refine xa_step (xa_dup d_X12_qGoesOn_196 (xa_tR _)) ?_
  refine xa_getf xI xc_12 (by decide) (fun _ => rfl) xw_1404 rfl d_X12_qGoesOn_197 (fun x87 _ => ?_)
  refine xa_step (xa_iconst d_X12_qGoesOn_200 xq_i_1) ?_
  refine xa_step (xa_iadd d_X12_qGoesOn_201) ?_
  refine xa_putf2 (tg := xI) xc_12 (by decide) (fun _ => rfl) rfl (fun c hc => xa_fitI c hc) xw_1404 rfl d_X12_qGoesOn_202 (fun h88 _ => ?_)
  refine xa_step (xa_iconst d_X12_qGoesOn_205 xq_i_1) ?_
  exact xa_zret d_X12_qGoesOn_206 rfl (Or.inr rfl) rfl
theorem d_X12_qGoesOn_160 : decode mX12_qGoesOn.1 160 = .ok (.iconst 4, 1) ∧ 160 + 1 = 161 := ⟨by decide +kernel, rfl⟩
set_option maxRecDepth 100000 in
set_option maxHeartbeats 4000000 in
theorem g_X12_qGoesOn_J140 (l : Launch) (G : xa_C) : ∀ (v0 : Int) (h : xa_H) , xa_G l G 5 mX12_qGoesOn (f_X12_qGoesOn_J140 v0 h) (fun r => some (some (xI r.1), r.2) : (Int × xa_H) → Option xa_O) 140 [some (xR v0), none] [] h := by
  intro v0 h
  unfold f_X12_qGoesOn_J140
  refine xa_step (xa_aload_n d_X12_qGoesOn_140 rfl) ?_
  refine xa_getf xR xc_12 (by decide) (fun _ => rfl) xw_1304 rfl d_X12_qGoesOn_141 (fun x74 _ => ?_)
  refine xa_step (xa_aload_n d_X12_qGoesOn_144 rfl) ?_
  refine xa_getf xI xc_12 (by decide) (fun _ => rfl) xw_1306 rfl d_X12_qGoesOn_145 (fun x75 _ => ?_)
  refine xa_step (xa_iconst d_X12_qGoesOn_148 xq_i_1) ?_
  refine xa_step (xa_isub d_X12_qGoesOn_149) ?_
  refine xa_iaload d_X12_qGoesOn_150 (fun x76 _ => ?_)
  refine xa_step (xa_bipush d_X12_qGoesOn_151 xq_b_42) ?_
  refine xa_if (xa_icmpne d_X12_qGoesOn_153) (fun q77 => ?_) (fun q77 => ?_)
  · refine xa_step (xa_iconst d_X12_qGoesOn_156 xq_i_3) ?_
    refine xa_step (xa_goto d_X12_qGoesOn_157) ?_
    exact xa_weak (ls' := [some (xR v0), none]) ⟨rfl, trivial⟩ (g_X12_qGoesOn_J161 l G v0 3 h)
  · refine xa_step (xa_iconst d_X12_qGoesOn_160 xq_i_4) ?_
    exact xa_weak (ls' := [some (xR v0), none]) ⟨rfl, trivial⟩ (g_X12_qGoesOn_J161 l G v0 4 h)
set_option maxRecDepth 100000 in
set_option maxHeartbeats 4000000 in
theorem g_X12_qGoesOn_J122 (l : Launch) (G : xa_C) : ∀ (v0 : Int) (h : xa_H) , xa_G l G 5 mX12_qGoesOn (f_X12_qGoesOn_J122 v0 h) (fun r => some (some (xI r.1), r.2) : (Int × xa_H) → Option xa_O) 122 [some (xR v0), none] [] h := by
  intro v0 h
  unfold f_X12_qGoesOn_J122
  refine xa_step (xa_aload_n d_X12_qGoesOn_122 rfl) ?_
  refine xa_step (xa_bipush d_X12_qGoesOn_123 xq_b_42) ?_
  refine xa_callVI (as := [xI 42]) (st := []) (M' := mX12_takesSign) (d' := 3) rfl xw_1773 xw_1775 xw_95 xw_1776 xw_177 xh_X12_takesSign rfl ⟨Nat.le_of_ble_eq_true rfl, Nat.le_of_ble_eq_true rfl⟩ (Nat.le_of_ble_eq_true rfl) rfl d_X12_qGoesOn_125 (fun r hr => ct_X12_takesSign l G v0 42 h r hr) (fun r29 _ => ?_)
  refine xa_if (xa_ifne d_X12_qGoesOn_128) (fun q30 => ?_) (fun q30 => ?_)
  · refine xa_step (xa_aload_n d_X12_qGoesOn_131 rfl) ?_
    refine xa_step (xa_bipush d_X12_qGoesOn_132 xq_b_47) ?_
    refine xa_callVI (as := [xI 47]) (st := []) (M' := mX12_takesSign) (d' := 3) rfl xw_1773 xw_1775 xw_95 xw_1776 xw_177 xh_X12_takesSign rfl ⟨Nat.le_of_ble_eq_true rfl, Nat.le_of_ble_eq_true rfl⟩ (Nat.le_of_ble_eq_true rfl) rfl d_X12_qGoesOn_134 (fun r hr => ct_X12_takesSign l G v0 47 r29.2 r hr) (fun r31 _ => ?_)
    refine xa_if (xa_ifeq d_X12_qGoesOn_137) (fun q32 => ?_) (fun q32 => ?_)
    · refine xa_step (xa_aload_n d_X12_qGoesOn_207 rfl) ?_
      refine xa_step (xa_bipush d_X12_qGoesOn_208 xq_b_43) ?_
      refine xa_callVI (as := [xI 43]) (st := []) (M' := mX12_takesSign) (d' := 3) rfl xw_1773 xw_1775 xw_95 xw_1776 xw_177 xh_X12_takesSign rfl ⟨Nat.le_of_ble_eq_true rfl, Nat.le_of_ble_eq_true rfl⟩ (Nat.le_of_ble_eq_true rfl) rfl d_X12_qGoesOn_210 (fun r hr => ct_X12_takesSign l G v0 43 r31.2 r hr) (fun r33 _ => ?_)
      refine xa_if (xa_ifne d_X12_qGoesOn_213) (fun q34 => ?_) (fun q34 => ?_)
      · refine xa_step (xa_aload_n d_X12_qGoesOn_216 rfl) ?_
        refine xa_step (xa_bipush d_X12_qGoesOn_217 xq_b_45) ?_
        refine xa_callVI (as := [xI 45]) (st := []) (M' := mX12_takesSign) (d' := 3) rfl xw_1773 xw_1775 xw_95 xw_1776 xw_177 xh_X12_takesSign rfl ⟨Nat.le_of_ble_eq_true rfl, Nat.le_of_ble_eq_true rfl⟩ (Nat.le_of_ble_eq_true rfl) rfl d_X12_qGoesOn_219 (fun r hr => ct_X12_takesSign l G v0 45 r33.2 r hr) (fun r35 _ => ?_)
        refine xa_if (xa_ifeq d_X12_qGoesOn_222) (fun q36 => ?_) (fun q36 => ?_)
        · refine xa_step (xa_aload_n d_X12_qGoesOn_308 rfl) ?_
          refine xa_callVi (as := []) (st := []) (M' := mX12_qBracket) (d' := 3) rfl xw_1793 xw_1795 xw_100 xw_1796 xw_177 xh_X12_qBracket rfl ⟨Nat.le_of_ble_eq_true rfl, Nat.le_of_ble_eq_true rfl⟩ (Nat.le_of_ble_eq_true rfl) rfl d_X12_qGoesOn_309 (fun r hr => ct_X12_qBracket l G v0 r35.2 r hr) (fun r37 _ => ?_)
          refine xa_step (xa_bipush d_X12_qGoesOn_312 xq_b_21) ?_
          refine xa_if (xa_icmpeq d_X12_qGoesOn_314) (fun q38 => ?_) (fun q38 => ?_)
          · exact xa_weak (ls' := [some (xR v0), none]) ⟨rfl, trivial⟩ (g_X12_qGoesOn_J326 l G v0 r35.2)
          · refine xa_step (xa_aload_n d_X12_qGoesOn_317 rfl) ?_
            refine xa_callVi (as := []) (st := []) (M' := mX12_qBracket) (d' := 3) rfl xw_1793 xw_1795 xw_100 xw_1796 xw_177 xh_X12_qBracket rfl ⟨Nat.le_of_ble_eq_true rfl, Nat.le_of_ble_eq_true rfl⟩ (Nat.le_of_ble_eq_true rfl) rfl d_X12_qGoesOn_318 (fun r hr => ct_X12_qBracket l G v0 r35.2 r hr) (fun r47 _ => ?_)
            refine xa_step (xa_bipush d_X12_qGoesOn_321 xq_b_22) ?_
            refine xa_if (xa_icmpne d_X12_qGoesOn_323) (fun q48 => ?_) (fun q48 => ?_)
            · exact xa_weak (ls' := [some (xR v0), none]) ⟨rfl, trivial⟩ (g_X12_qGoesOn_J326 l G v0 r35.2)
            · refine xa_step (xa_aload_n d_X12_qGoesOn_362 rfl) ?_
              refine xa_callVi (as := []) (st := []) (M' := mX12_qBracket) (d' := 3) rfl xw_1793 xw_1795 xw_100 xw_1796 xw_177 xh_X12_qBracket rfl ⟨Nat.le_of_ble_eq_true rfl, Nat.le_of_ble_eq_true rfl⟩ (Nat.le_of_ble_eq_true rfl) rfl d_X12_qGoesOn_363 (fun r hr => ct_X12_qBracket l G v0 r35.2 r hr) (fun r49 _ => ?_)
              refine xa_step (xa_iconst d_X12_qGoesOn_366 xq_i_m1) ?_
              refine xa_if (xa_icmpeq d_X12_qGoesOn_367) (fun q50 => ?_) (fun q50 => ?_)
              · refine xa_step (xa_iconst d_X12_qGoesOn_386 xq_i_0) ?_
                exact xa_zret d_X12_qGoesOn_387 rfl (Or.inl rfl) rfl
              · refine xa_step (xa_aload_n d_X12_qGoesOn_370 rfl) ?_
                refine xa_getf xI xc_12 (by decide) (fun _ => rfl) xw_1309 rfl d_X12_qGoesOn_371 (fun x51 _ => ?_)
                refine xa_if (xa_ifne d_X12_qGoesOn_374) (fun q52 => ?_) (fun q52 => ?_)
                · refine xa_step (xa_aload_n d_X12_qGoesOn_377 rfl) ?_
                  refine xa_step (xa_iconst d_X12_qGoesOn_378 xq_i_1) ?_
                  refine xa_step (xa_aload_n d_X12_qGoesOn_379 rfl) ?_
                  refine xa_getf xI xc_12 (by decide) (fun _ => rfl) xw_1306 rfl d_X12_qGoesOn_380 (fun x53 _ => ?_)
                  refine xa_callVV (as := [xI 1, xI x53]) (st := []) (M' := mX12_fail) (d' := 2) rfl xw_1654 xw_1656 xw_68 xw_1657 xw_177 xh_X12_fail rfl ⟨Nat.le_of_ble_eq_true rfl, Nat.le_of_ble_eq_true rfl⟩ (Nat.le_of_ble_eq_true rfl) rfl d_X12_qGoesOn_383 (fun r hr => ct_X12_fail l G v0 1 x53 r35.2 r hr) (fun r54 _ => ?_)
                  refine xa_step (xa_iconst d_X12_qGoesOn_386 xq_i_0) ?_
                  exact xa_zret d_X12_qGoesOn_387 rfl (Or.inl rfl) rfl
                · refine xa_step (xa_iconst d_X12_qGoesOn_386 xq_i_0) ?_
                  exact xa_zret d_X12_qGoesOn_387 rfl (Or.inl rfl) rfl
        · exact xa_weak (ls' := [some (xR v0), none]) ⟨rfl, trivial⟩ (g_X12_qGoesOn_J225 l G v0 r35.2)
      · exact xa_weak (ls' := [some (xR v0), none]) ⟨rfl, trivial⟩ (g_X12_qGoesOn_J225 l G v0 r33.2)
    · exact xa_weak (ls' := [some (xR v0), none]) ⟨rfl, trivial⟩ (g_X12_qGoesOn_J140 l G v0 r31.2)
  · exact xa_weak (ls' := [some (xR v0), none]) ⟨rfl, trivial⟩ (g_X12_qGoesOn_J140 l G v0 r29.2)
set_option maxRecDepth 100000 in
set_option maxHeartbeats 4000000 in
theorem g_X12_qGoesOn (l : Launch) (G : xa_C) (v0 : Int) (h : xa_H) : xa_G l G 5 mX12_qGoesOn (f_X12_qGoesOn v0 h) (fun r => some (some (xI r.1), r.2) : (Int × xa_H) → Option xa_O) 0 [some (xR v0), none] [] h := by
  unfold f_X12_qGoesOn
  refine xa_weak (ls' := [some (xR v0), none]) ⟨rfl, trivial⟩ ?_
  refine xa_loop (f := fun s => f_X12_qGoesOn_L0 v0 s) (L := fun s => [some (xR v0), none]) (P := fun s => s) (X := (fun x K => xa_G l G 5 mX12_qGoesOn (some (Sum.inr x)) K 122 [some (xR v0), none] [] x)) (fun K hb hX s => g_X12_qGoesOn_L0 l G v0 K (fun hh => hb hh) (fun hh => hX hh) s) ?_ xFU h
  intro e28 K hK
  refine xa_eqE hK ?_
  show xa_G l G 5 mX12_qGoesOn _ _ 122 [some (xR v0), none] [] e28
  exact xa_weak (ls' := [some (xR v0), none]) ⟨rfl, trivial⟩ (g_X12_qGoesOn_J122 l G v0 e28)
theorem ct_X12_qGoesOn (l : Launch) (G : xa_C) (v0 : Int) (h : xa_H) (r : Int × xa_H) (hr : f_X12_qGoesOn v0 h = some r) : xa_CT l G 5 mX12_qGoesOn yX12_qGoesOn [xR v0] h (some (xI r.1), r.2) :=
  xa_met (by decide +kernel) rfl (fun q => by first | rfl | cases q) (Nat.le_of_ble_eq_true rfl) rfl (g_X12_qGoesOn l G v0 h) (by rw [hr]; rfl)
abbrev mX12_isDigit : xa_M := (cX12_isDigit, 1, (some (.boolean)), RX12, false)
theorem d_X12_isDigit_0 : decode mX12_isDigit.1 0 = .ok (.iload_n 0, 1) ∧ 0 + 1 = 1 := ⟨by decide +kernel, rfl⟩
theorem d_X12_isDigit_1 : decode mX12_isDigit.1 1 = .ok (.bipush 48, 2) ∧ 1 + 2 = 3 := ⟨by decide +kernel, rfl⟩
theorem d_X12_isDigit_3 : decode mX12_isDigit.1 3 = .ok (.if_icmp .lt 13, 3) ∧ 3 + 3 = 6 ∧ ((3 : Nat) : Int) + 13 = ((16 : Nat) : Int) := ⟨by decide +kernel, rfl, rfl⟩
theorem d_X12_isDigit_16 : decode mX12_isDigit.1 16 = .ok (.iconst 0, 1) ∧ 16 + 1 = 17 := ⟨by decide +kernel, rfl⟩
theorem d_X12_isDigit_17 : decode mX12_isDigit.1 17 = .ok (.ireturn, 1) := by decide +kernel
theorem d_X12_isDigit_6 : decode mX12_isDigit.1 6 = .ok (.iload_n 0, 1) ∧ 6 + 1 = 7 := ⟨by decide +kernel, rfl⟩
theorem d_X12_isDigit_7 : decode mX12_isDigit.1 7 = .ok (.bipush 57, 2) ∧ 7 + 2 = 9 := ⟨by decide +kernel, rfl⟩
theorem d_X12_isDigit_9 : decode mX12_isDigit.1 9 = .ok (.if_icmp .gt 7, 3) ∧ 9 + 3 = 12 ∧ ((9 : Nat) : Int) + 7 = ((16 : Nat) : Int) := ⟨by decide +kernel, rfl, rfl⟩
theorem d_X12_isDigit_12 : decode mX12_isDigit.1 12 = .ok (.iconst 1, 1) ∧ 12 + 1 = 13 := ⟨by decide +kernel, rfl⟩
theorem d_X12_isDigit_13 : decode mX12_isDigit.1 13 = .ok (.goto 4, 3) ∧ ((13 : Nat) : Int) + 4 = ((17 : Nat) : Int) := ⟨by decide +kernel, rfl⟩
set_option maxRecDepth 100000 in
set_option maxHeartbeats 4000000 in
theorem g_X12_isDigit (l : Launch) (G : xa_C) (v0 : Int) (h : xa_H) : xa_G l G 2 mX12_isDigit (f_X12_isDigit v0 h) (fun r => some (some (xI r), h) : Int → Option xa_O) 0 [some (xI v0)] [] h := by
  unfold f_X12_isDigit
  refine xa_step (xa_iload_n d_X12_isDigit_0 rfl) ?_
  refine xa_step (xa_bipush d_X12_isDigit_1 xq_b_48) ?_
  refine xa_if (xa_icmplt d_X12_isDigit_3) (fun q1 => ?_) (fun q1 => ?_)
  · refine xa_step (xa_iconst d_X12_isDigit_16 xq_i_0) ?_
    exact xa_zret d_X12_isDigit_17 rfl (Or.inl rfl) rfl
  · refine xa_step (xa_iload_n d_X12_isDigit_6 rfl) ?_
    refine xa_step (xa_bipush d_X12_isDigit_7 xq_b_57) ?_
    refine xa_if (xa_icmpgt d_X12_isDigit_9) (fun q2 => ?_) (fun q2 => ?_)
    · refine xa_step (xa_iconst d_X12_isDigit_16 xq_i_0) ?_
      exact xa_zret d_X12_isDigit_17 rfl (Or.inl rfl) rfl
    · refine xa_step (xa_iconst d_X12_isDigit_12 xq_i_1) ?_
      refine xa_step (xa_goto d_X12_isDigit_13) ?_
      exact xa_zret d_X12_isDigit_17 rfl (Or.inr rfl) rfl
theorem ct_X12_isDigit (l : Launch) (G : xa_C) (v0 : Int) (h : xa_H) (r : Int) (hr : f_X12_isDigit v0 h = some r) : xa_CT l G 2 mX12_isDigit yX12_isDigit [xI v0] h (some (xI r), h) :=
  xa_met (by decide +kernel) rfl (fun q => by first | rfl | cases q) (Nat.le_of_ble_eq_true rfl) rfl (g_X12_isDigit l G v0 h) (by rw [hr]; rfl)
abbrev mX12_isIn : xa_M := (cX12_isIn, 6, (some (.boolean)), RX12, false)
theorem d_X12_isIn_0 : decode mX12_isIn.1 0 = .ok (.lload_n 0, 1) ∧ 0 + 1 = 1 := ⟨by decide +kernel, rfl⟩
theorem d_X12_isIn_1 : decode mX12_isIn.1 1 = .ok (.lload_n 2, 1) ∧ 1 + 1 = 2 := ⟨by decide +kernel, rfl⟩
theorem d_X12_isIn_2 : decode mX12_isIn.1 2 = .ok (.lcmp, 1) ∧ 2 + 1 = 3 := ⟨by decide +kernel, rfl⟩
theorem d_X12_isIn_3 : decode mX12_isIn.1 3 = .ok (.ifCond .lt 14, 3) ∧ 3 + 3 = 6 ∧ ((3 : Nat) : Int) + 14 = ((17 : Nat) : Int) := ⟨by decide +kernel, rfl, rfl⟩
theorem d_X12_isIn_17 : decode mX12_isIn.1 17 = .ok (.iconst 0, 1) ∧ 17 + 1 = 18 := ⟨by decide +kernel, rfl⟩
theorem d_X12_isIn_18 : decode mX12_isIn.1 18 = .ok (.ireturn, 1) := by decide +kernel
theorem d_X12_isIn_6 : decode mX12_isIn.1 6 = .ok (.lload_n 0, 1) ∧ 6 + 1 = 7 := ⟨by decide +kernel, rfl⟩
theorem d_X12_isIn_7 : decode mX12_isIn.1 7 = .ok (.lload 4, 2) ∧ 7 + 2 = 9 := ⟨by decide +kernel, rfl⟩
theorem d_X12_isIn_9 : decode mX12_isIn.1 9 = .ok (.lcmp, 1) ∧ 9 + 1 = 10 := ⟨by decide +kernel, rfl⟩
theorem d_X12_isIn_10 : decode mX12_isIn.1 10 = .ok (.ifCond .gt 7, 3) ∧ 10 + 3 = 13 ∧ ((10 : Nat) : Int) + 7 = ((17 : Nat) : Int) := ⟨by decide +kernel, rfl, rfl⟩
theorem d_X12_isIn_13 : decode mX12_isIn.1 13 = .ok (.iconst 1, 1) ∧ 13 + 1 = 14 := ⟨by decide +kernel, rfl⟩
theorem d_X12_isIn_14 : decode mX12_isIn.1 14 = .ok (.goto 4, 3) ∧ ((14 : Nat) : Int) + 4 = ((18 : Nat) : Int) := ⟨by decide +kernel, rfl⟩
set_option maxRecDepth 100000 in
set_option maxHeartbeats 4000000 in
theorem g_X12_isIn (l : Launch) (G : xa_C) (v0 v2 v4 : Int) (h : xa_H) : xa_G l G 2 mX12_isIn (f_X12_isIn v0 v2 v4 h) (fun r => some (some (xI r), h) : Int → Option xa_O) 0 [some (xL v0), none, some (xL v2), none, some (xL v4), none] [] h := by
  unfold f_X12_isIn
  refine xa_step (xa_lload_n d_X12_isIn_0 rfl) ?_
  refine xa_step (xa_lload_n d_X12_isIn_1 rfl) ?_
  refine xa_step (xa_lcmp d_X12_isIn_2) ?_
  refine xa_if (xa_iflt d_X12_isIn_3) (fun q1 => ?_) (fun q1 => ?_)
  · refine xa_step (xa_iconst d_X12_isIn_17 xq_i_0) ?_
    exact xa_zret d_X12_isIn_18 rfl (Or.inl rfl) rfl
  · refine xa_step (xa_lload_n d_X12_isIn_6 rfl) ?_
    refine xa_step (xa_lload d_X12_isIn_7 rfl) ?_
    refine xa_step (xa_lcmp d_X12_isIn_9) ?_
    refine xa_if (xa_ifgt d_X12_isIn_10) (fun q2 => ?_) (fun q2 => ?_)
    · refine xa_step (xa_iconst d_X12_isIn_17 xq_i_0) ?_
      exact xa_zret d_X12_isIn_18 rfl (Or.inl rfl) rfl
    · refine xa_step (xa_iconst d_X12_isIn_13 xq_i_1) ?_
      refine xa_step (xa_goto d_X12_isIn_14) ?_
      exact xa_zret d_X12_isIn_18 rfl (Or.inr rfl) rfl
theorem ct_X12_isIn (l : Launch) (G : xa_C) (v0 v2 v4 : Int) (h : xa_H) (r : Int) (hr : f_X12_isIn v0 v2 v4 h = some r) : xa_CT l G 2 mX12_isIn yX12_isIn [xL v0, xL v2, xL v4] h (some (xI r), h) :=
  xa_met (by decide +kernel) rfl (fun q => by first | rfl | cases q) (Nat.le_of_ble_eq_true rfl) rfl (g_X12_isIn l G v0 v2 v4 h) (by rw [hr]; rfl)
abbrev mX12_number : xa_M := (cX12_number, 5, (some (.int)), RX12, false)
theorem d_X12_number_0 : decode mX12_number.1 0 = .ok (.aload_n 0, 1) ∧ 0 + 1 = 1 := ⟨by decide +kernel, rfl⟩
theorem d_X12_number_1 : decode mX12_number.1 1 = .ok (.getfield 249, 3) ∧ 1 + 3 = 4 := ⟨by decide +kernel, rfl⟩
theorem d_X12_number_4 : decode mX12_number.1 4 = .ok (.ifCond .eq 5, 3) ∧ 4 + 3 = 7 ∧ ((4 : Nat) : Int) + 5 = ((9 : Nat) : Int) := ⟨by decide +kernel, rfl, rfl⟩
theorem d_X12_number_9 : decode mX12_number.1 9 = .ok (.aload_n 0, 1) ∧ 9 + 1 = 10 := ⟨by decide +kernel, rfl⟩
theorem d_X12_number_10 : decode mX12_number.1 10 = .ok (.invokevirtual 261, 3) ∧ 10 + 3 = 13 := ⟨by decide +kernel, rfl⟩
theorem d_X12_number_13 : decode mX12_number.1 13 = .ok (.invokestatic 286, 3) ∧ 13 + 3 = 16 := ⟨by decide +kernel, rfl⟩
theorem d_X12_number_16 : decode mX12_number.1 16 = .ok (.ifCond .eq 14, 3) ∧ 16 + 3 = 19 ∧ ((16 : Nat) : Int) + 14 = ((30 : Nat) : Int) := ⟨by decide +kernel, rfl, rfl⟩
theorem d_X12_number_30 : decode mX12_number.1 30 = .ok (.aload_n 0, 1) ∧ 30 + 1 = 31 := ⟨by decide +kernel, rfl⟩
theorem d_X12_number_31 : decode mX12_number.1 31 = .ok (.iconst 1, 1) ∧ 31 + 1 = 32 := ⟨by decide +kernel, rfl⟩
theorem d_X12_number_32 : decode mX12_number.1 32 = .ok (.aload_n 0, 1) ∧ 32 + 1 = 33 := ⟨by decide +kernel, rfl⟩
theorem d_X12_number_33 : decode mX12_number.1 33 = .ok (.getfield 255, 3) ∧ 33 + 3 = 36 := ⟨by decide +kernel, rfl⟩
theorem d_X12_number_36 : decode mX12_number.1 36 = .ok (.invokevirtual 279, 3) ∧ 36 + 3 = 39 := ⟨by decide +kernel, rfl⟩
theorem d_X12_number_39 : decode mX12_number.1 39 = .ok (.iconst 0, 1) ∧ 39 + 1 = 40 := ⟨by decide +kernel, rfl⟩
theorem d_X12_number_40 : decode mX12_number.1 40 = .ok (.ireturn, 1) := by decide +kernel
set_option maxRecDepth 100000 in
set_option maxHeartbeats 4000000 in
theorem g_X12_number_J30 (l : Launch) (G : xa_C) : ∀ (v0 : Int) (h : xa_H) , xa_G l G 3 mX12_number (f_X12_number_J30 v0 h) (fun r => some (some (xI r.1), r.2) : (Int × xa_H) → Option xa_O) 30 [some (xR v0), none, none, none, none] [] h := by
  intro v0 h
  unfold f_X12_number_J30
  refine xa_step (xa_aload_n d_X12_number_30 rfl) ?_
  refine xa_step (xa_iconst d_X12_number_31 xq_i_1) ?_
  refine xa_step (xa_aload_n d_X12_number_32 rfl) ?_
  refine xa_getf xI xc_12 (by decide) (fun _ => rfl) xw_1306 rfl d_X12_number_33 (fun x6 _ => ?_)
  refine xa_callVV (as := [xI 1, xI x6]) (st := []) (M' := mX12_fail) (d' := 2) rfl xw_1654 xw_1656 xw_68 xw_1657 xw_177 xh_X12_fail rfl ⟨Nat.le_of_ble_eq_true rfl, Nat.le_of_ble_eq_true rfl⟩ (Nat.le_of_ble_eq_true rfl) rfl d_X12_number_36 (fun r hr => ct_X12_fail l G v0 1 x6 h r hr) (fun r7 _ => ?_)
  refine xa_step (xa_iconst d_X12_number_39 xq_i_0) ?_
  exact xa_iret d_X12_number_40 rfl rfl
theorem d_X12_number_19 : decode mX12_number.1 19 = .ok (.aload_n 0, 1) ∧ 19 + 1 = 20 := ⟨by decide +kernel, rfl⟩
theorem d_X12_number_20 : decode mX12_number.1 20 = .ok (.getfield 255, 3) ∧ 20 + 3 = 23 := ⟨by decide +kernel, rfl⟩
theorem d_X12_number_23 : decode mX12_number.1 23 = .ok (.aload_n 0, 1) ∧ 23 + 1 = 24 := ⟨by decide +kernel, rfl⟩
theorem d_X12_number_24 : decode mX12_number.1 24 = .ok (.getfield 269, 3) ∧ 24 + 3 = 27 := ⟨by decide +kernel, rfl⟩
theorem d_X12_number_27 : decode mX12_number.1 27 = .ok (.if_icmp .ne 14, 3) ∧ 27 + 3 = 30 ∧ ((27 : Nat) : Int) + 14 = ((41 : Nat) : Int) := ⟨by decide +kernel, rfl, rfl⟩
theorem d_X12_number_41 : decode mX12_number.1 41 = .ok (.aload_n 0, 1) ∧ 41 + 1 = 42 := ⟨by decide +kernel, rfl⟩
theorem d_X12_number_42 : decode mX12_number.1 42 = .ok (.getfield 255, 3) ∧ 42 + 3 = 45 := ⟨by decide +kernel, rfl⟩
theorem d_X12_number_45 : decode mX12_number.1 45 = .ok (.istore_n 3, 1) ∧ 45 + 1 = 46 := ⟨by decide +kernel, rfl⟩
theorem d_X12_number_46 : decode mX12_number.1 46 = .ok (.iconst 0, 1) ∧ 46 + 1 = 47 := ⟨by decide +kernel, rfl⟩
theorem d_X12_number_47 : decode mX12_number.1 47 = .ok (.istore 4, 2) ∧ 47 + 2 = 49 := ⟨by decide +kernel, rfl⟩
theorem d_X12_number_49 : decode mX12_number.1 49 = .ok (.aload_n 0, 1) ∧ 49 + 1 = 50 := ⟨by decide +kernel, rfl⟩
theorem d_X12_number_50 : decode mX12_number.1 50 = .ok (.getfield 255, 3) ∧ 50 + 3 = 53 := ⟨by decide +kernel, rfl⟩
theorem d_X12_number_53 : decode mX12_number.1 53 = .ok (.aload_n 0, 1) ∧ 53 + 1 = 54 := ⟨by decide +kernel, rfl⟩
theorem d_X12_number_54 : decode mX12_number.1 54 = .ok (.getfield 258, 3) ∧ 54 + 3 = 57 := ⟨by decide +kernel, rfl⟩
theorem d_X12_number_57 : decode mX12_number.1 57 = .ok (.if_icmp .ge 72, 3) ∧ 57 + 3 = 60 ∧ ((57 : Nat) : Int) + 72 = ((129 : Nat) : Int) := ⟨by decide +kernel, rfl, rfl⟩
theorem d_X12_number_60 : decode mX12_number.1 60 = .ok (.aload_n 0, 1) ∧ 60 + 1 = 61 := ⟨by decide +kernel, rfl⟩
theorem d_X12_number_61 : decode mX12_number.1 61 = .ok (.getfield 7, 3) ∧ 61 + 3 = 64 := ⟨by decide +kernel, rfl⟩
theorem d_X12_number_64 : decode mX12_number.1 64 = .ok (.aload_n 0, 1) ∧ 64 + 1 = 65 := ⟨by decide +kernel, rfl⟩
theorem d_X12_number_65 : decode mX12_number.1 65 = .ok (.getfield 255, 3) ∧ 65 + 3 = 68 := ⟨by decide +kernel, rfl⟩
theorem d_X12_number_68 : decode mX12_number.1 68 = .ok (.iaload, 1) ∧ 68 + 1 = 69 := ⟨by decide +kernel, rfl⟩
theorem d_X12_number_69 : decode mX12_number.1 69 = .ok (.invokestatic 286, 3) ∧ 69 + 3 = 72 := ⟨by decide +kernel, rfl⟩
theorem d_X12_number_72 : decode mX12_number.1 72 = .ok (.ifCond .eq 57, 3) ∧ 72 + 3 = 75 ∧ ((72 : Nat) : Int) + 57 = ((129 : Nat) : Int) := ⟨by decide +kernel, rfl, rfl⟩
theorem d_X12_number_75 : decode mX12_number.1 75 = .ok (.aload_n 0, 1) ∧ 75 + 1 = 76 := ⟨by decide +kernel, rfl⟩
theorem d_X12_number_76 : decode mX12_number.1 76 = .ok (.getfield 255, 3) ∧ 76 + 3 = 79 := ⟨by decide +kernel, rfl⟩
theorem d_X12_number_79 : decode mX12_number.1 79 = .ok (.iload_n 3, 1) ∧ 79 + 1 = 80 := ⟨by decide +kernel, rfl⟩
theorem d_X12_number_80 : decode mX12_number.1 80 = .ok (.isub, 1) ∧ 80 + 1 = 81 := ⟨by decide +kernel, rfl⟩
theorem d_X12_number_81 : decode mX12_number.1 81 = .ok (.iconst 4, 1) ∧ 81 + 1 = 82 := ⟨by decide +kernel, rfl⟩
theorem d_X12_number_82 : decode mX12_number.1 82 = .ok (.if_icmp .ne 14, 3) ∧ 82 + 3 = 85 ∧ ((82 : Nat) : Int) + 14 = ((96 : Nat) : Int) := ⟨by decide +kernel, rfl, rfl⟩
theorem d_X12_number_85 : decode mX12_number.1 85 = .ok (.aload_n 0, 1) ∧ 85 + 1 = 86 := ⟨by decide +kernel, rfl⟩
theorem d_X12_number_86 : decode mX12_number.1 86 = .ok (.iconst 1, 1) ∧ 86 + 1 = 87 := ⟨by decide +kernel, rfl⟩
theorem d_X12_number_87 : decode mX12_number.1 87 = .ok (.aload_n 0, 1) ∧ 87 + 1 = 88 := ⟨by decide +kernel, rfl⟩
theorem d_X12_number_88 : decode mX12_number.1 88 = .ok (.getfield 255, 3) ∧ 88 + 3 = 91 := ⟨by decide +kernel, rfl⟩
theorem d_X12_number_91 : decode mX12_number.1 91 = .ok (.invokevirtual 279, 3) ∧ 91 + 3 = 94 := ⟨by decide +kernel, rfl⟩
theorem d_X12_number_94 : decode mX12_number.1 94 = .ok (.iconst 0, 1) ∧ 94 + 1 = 95 := ⟨by decide +kernel, rfl⟩
theorem d_X12_number_95 : decode mX12_number.1 95 = .ok (.ireturn, 1) := by decide +kernel
theorem d_X12_number_96 : decode mX12_number.1 96 = .ok (.bipush 10, 2) ∧ 96 + 2 = 98 := ⟨by decide +kernel, rfl⟩
theorem d_X12_number_98 : decode mX12_number.1 98 = .ok (.iload 4, 2) ∧ 98 + 2 = 100 := ⟨by decide +kernel, rfl⟩
theorem d_X12_number_100 : decode mX12_number.1 100 = .ok (.imul, 1) ∧ 100 + 1 = 101 := ⟨by decide +kernel, rfl⟩
theorem d_X12_number_101 : decode mX12_number.1 101 = .ok (.aload_n 0, 1) ∧ 101 + 1 = 102 := ⟨by decide +kernel, rfl⟩
theorem d_X12_number_102 : decode mX12_number.1 102 = .ok (.getfield 7, 3) ∧ 102 + 3 = 105 := ⟨by decide +kernel, rfl⟩
theorem d_X12_number_105 : decode mX12_number.1 105 = .ok (.aload_n 0, 1) ∧ 105 + 1 = 106 := ⟨by decide +kernel, rfl⟩
theorem d_X12_number_106 : decode mX12_number.1 106 = .ok (.getfield 255, 3) ∧ 106 + 3 = 109 := ⟨by decide +kernel, rfl⟩
theorem d_X12_number_109 : decode mX12_number.1 109 = .ok (.iaload, 1) ∧ 109 + 1 = 110 := ⟨by decide +kernel, rfl⟩
theorem d_X12_number_110 : decode mX12_number.1 110 = .ok (.iadd, 1) ∧ 110 + 1 = 111 := ⟨by decide +kernel, rfl⟩
theorem d_X12_number_111 : decode mX12_number.1 111 = .ok (.bipush 48, 2) ∧ 111 + 2 = 113 := ⟨by decide +kernel, rfl⟩
theorem d_X12_number_113 : decode mX12_number.1 113 = .ok (.isub, 1) ∧ 113 + 1 = 114 := ⟨by decide +kernel, rfl⟩
theorem d_X12_number_114 : decode mX12_number.1 114 = .ok (.istore 4, 2) ∧ 114 + 2 = 116 := ⟨by decide +kernel, rfl⟩
theorem d_X12_number_116 : decode mX12_number.1 116 = .ok (.aload_n 0, 1) ∧ 116 + 1 = 117 := ⟨by decide +kernel, rfl⟩
theorem d_X12_number_117 : decode mX12_number.1 117 = .ok (.dup, 1) ∧ 117 + 1 = 118 := ⟨by decide +kernel, rfl⟩
theorem d_X12_number_118 : decode mX12_number.1 118 = .ok (.getfield 255, 3) ∧ 118 + 3 = 121 := ⟨by decide +kernel, rfl⟩
theorem d_X12_number_121 : decode mX12_number.1 121 = .ok (.iconst 1, 1) ∧ 121 + 1 = 122 := ⟨by decide +kernel, rfl⟩
theorem d_X12_number_122 : decode mX12_number.1 122 = .ok (.iadd, 1) ∧ 122 + 1 = 123 := ⟨by decide +kernel, rfl⟩
theorem d_X12_number_123 : decode mX12_number.1 123 = .ok (.putfield 255, 3) ∧ 123 + 3 = 126 := ⟨by decide +kernel, rfl⟩
theorem d_X12_number_126 : decode mX12_number.1 126 = .ok (.goto (-77), 3) ∧ ((126 : Nat) : Int) + (-77) = ((49 : Nat) : Int) := ⟨by decide +kernel, rfl⟩
set_option maxRecDepth 100000 in
set_option maxHeartbeats 4000000 in
theorem g_X12_number_L49 (l : Launch) (G : xa_C) (c0 c1 c2 c3 : Int) (K : (Int × xa_H) ⊕ ((Int × xa_H) ⊕ (Int × xa_H)) → Option xa_O) (hb : ∀ (v4 : Int) (h : xa_H), xa_G l G 3 mX12_number (some (Sum.inl ((v4, h)))) K 49 [some (xR c0), some (xI c1), some (xI c2), some (xI c3), some (xI v4)] [] h) (hr : ∀ r : Int × xa_H, K (Sum.inr (Sum.inl r)) = some (some (xI r.1), r.2)) (hx : ∀ (v4 : Int) (h : xa_H), xa_G l G 3 mX12_number (some (Sum.inr (Sum.inr ((v4, h))))) K 129 [some (xR c0), some (xI c1), some (xI c2), some (xI c3), some (xI v4)] [] h) : ∀ (v4 : Int) (h : xa_H), xa_G l G 3 mX12_number (f_X12_number_L49 c0 c1 c2 c3 v4 h) K 49 [some (xR c0), some (xI c1), some (xI c2), some (xI c3), some (xI v4)] [] h := by
  intro v4 h
  unfold f_X12_number_L49
  refine xa_step (xa_aload_n d_X12_number_49 rfl) ?_
  refine xa_getf xI xc_12 (by decide) (fun _ => rfl) xw_1306 rfl d_X12_number_50 (fun x12 _ => ?_)
  refine xa_step (xa_aload_n d_X12_number_53 rfl) ?_
  refine xa_getf xI xc_12 (by decide) (fun _ => rfl) xw_1307 rfl d_X12_number_54 (fun x13 _ => ?_)
  refine xa_if (xa_icmpge d_X12_number_57) (fun q14 => ?_) (fun q14 => ?_)
  · refine xa_step (xa_aload_n d_X12_number_60 rfl) ?_
    refine xa_getf xR xc_12 (by decide) (fun _ => rfl) xw_1304 rfl d_X12_number_61 (fun x15 _ => ?_)
    refine xa_step (xa_aload_n d_X12_number_64 rfl) ?_
    refine xa_getf xI xc_12 (by decide) (fun _ => rfl) xw_1306 rfl d_X12_number_65 (fun x16 _ => ?_)
    refine xa_iaload d_X12_number_68 (fun x17 _ => ?_)
    refine xa_callSi (as := [xI x17]) (st := []) (M' := mX12_isDigit) (d' := 2) xw_1703 xw_1704 xw_1705 xw_177 xh_X12_isDigit rfl ⟨Nat.le_of_ble_eq_true rfl, Nat.le_of_ble_eq_true rfl⟩ (Nat.le_of_ble_eq_true rfl) rfl d_X12_number_69 (fun r hr => ct_X12_isDigit l G x17 h r hr) (fun r18 _ => ?_)
    refine xa_if (xa_ifeq d_X12_number_72) (fun q19 => ?_) (fun q19 => ?_)
    · exact xa_weak (ls' := [some (xR c0), some (xI c1), some (xI c2), some (xI c3), some (xI v4)]) ⟨rfl, rfl, rfl, rfl, rfl, trivial⟩ (hx v4 h)
    · refine xa_step (xa_aload_n d_X12_number_75 rfl) ?_
      refine xa_getf xI xc_12 (by decide) (fun _ => rfl) xw_1306 rfl d_X12_number_76 (fun x20 _ => ?_)
      refine xa_step (xa_iload_n d_X12_number_79 rfl) ?_
      refine xa_step (xa_isub d_X12_number_80) ?_
      refine xa_step (xa_iconst d_X12_number_81 xq_i_4) ?_
      refine xa_if (xa_icmpne d_X12_number_82) (fun q21 => ?_) (fun q21 => ?_)
      · refine xa_step (xa_aload_n d_X12_number_85 rfl) ?_
        refine xa_step (xa_iconst d_X12_number_86 xq_i_1) ?_
        refine xa_step (xa_aload_n d_X12_number_87 rfl) ?_
        refine xa_getf xI xc_12 (by decide) (fun _ => rfl) xw_1306 rfl d_X12_number_88 (fun x22 _ => ?_)
        refine xa_callVV (as := [xI 1, xI x22]) (st := []) (M' := mX12_fail) (d' := 2) rfl xw_1654 xw_1656 xw_68 xw_1657 xw_177 xh_X12_fail rfl ⟨Nat.le_of_ble_eq_true rfl, Nat.le_of_ble_eq_true rfl⟩ (Nat.le_of_ble_eq_true rfl) rfl d_X12_number_91 (fun r hr => ct_X12_fail l G c0 1 x22 h r hr) (fun r23 _ => ?_)
        refine xa_step (xa_iconst d_X12_number_94 xq_i_0) ?_
        exact xa_iret d_X12_number_95 rfl (hr _)
      · refine xa_step (xa_bipush d_X12_number_96 xq_b_10) ?_
        refine xa_step (xa_iload d_X12_number_98 rfl) ?_
        refine xa_step (xa_imul d_X12_number_100) ?_
        refine xa_step (xa_aload_n d_X12_number_101 rfl) ?_
        refine xa_getf xR xc_12 (by decide) (fun _ => rfl) xw_1304 rfl d_X12_number_102 (fun x24 _ => ?_)
        refine xa_step (xa_aload_n d_X12_number_105 rfl) ?_
        refine xa_getf xI xc_12 (by decide) (fun _ => rfl) xw_1306 rfl d_X12_number_106 (fun x25 _ => ?_)
        refine xa_iaload d_X12_number_109 (fun x26 _ => ?_)
        refine xa_step (xa_iadd d_X12_number_110) ?_
        refine xa_step (xa_bipush d_X12_number_111 xq_b_48) ?_
        refine xa_step (xa_isub d_X12_number_113) ?_
        refine xa_step (xa_istore (ls' := [some (xR c0), some (xI c1), some (xI c2), some (xI c3), some (xI (w32 ((w32 ((w32 (10 * v4)) + x26)) - 48)))]) d_X12_number_114 (by decide) rfl) ?_
        refine xa_step (xa_aload_n d_X12_number_116 rfl) ?_
        refine xa_step (xa_dup d_X12_number_117 (xa_tR _)) ?_
        refine xa_getf xI xc_12 (by decide) (fun _ => rfl) xw_1306 rfl d_X12_number_118 (fun x27 _ => ?_)
        refine xa_step (xa_iconst d_X12_number_121 xq_i_1) ?_
        refine xa_step (xa_iadd d_X12_number_122) ?_
        refine xa_putf2 (tg := xI) xc_12 (by decide) (fun _ => rfl) rfl (fun c hc => xa_fitI c hc) xw_1306 rfl d_X12_number_123 (fun h28 _ => ?_)
        refine xa_step (xa_goto d_X12_number_126) ?_
        exact xa_weak (ls' := [some (xR c0), some (xI c1), some (xI c2), some (xI c3), some (xI (w32 ((w32 ((w32 (10 * v4)) + x26)) - 48)))]) ⟨rfl, rfl, rfl, rfl, rfl, trivial⟩ (hb (w32 ((w32 ((w32 (10 * v4)) + x26)) - 48)) h28)
  · exact xa_weak (ls' := [some (xR c0), some (xI c1), some (xI c2), some (xI c3), some (xI v4)]) ⟨rfl, rfl, rfl, rfl, rfl, trivial⟩ (hx v4 h)
theorem d_X12_number_129 : decode mX12_number.1 129 = .ok (.aload_n 0, 1) ∧ 129 + 1 = 130 := ⟨by decide +kernel, rfl⟩
theorem d_X12_number_130 : decode mX12_number.1 130 = .ok (.aload_n 0, 1) ∧ 130 + 1 = 131 := ⟨by decide +kernel, rfl⟩
theorem d_X12_number_131 : decode mX12_number.1 131 = .ok (.getfield 255, 3) ∧ 131 + 3 = 134 := ⟨by decide +kernel, rfl⟩
theorem d_X12_number_134 : decode mX12_number.1 134 = .ok (.putfield 269, 3) ∧ 134 + 3 = 137 := ⟨by decide +kernel, rfl⟩
theorem d_X12_number_137 : decode mX12_number.1 137 = .ok (.iload 4, 2) ∧ 137 + 2 = 139 := ⟨by decide +kernel, rfl⟩
theorem d_X12_number_139 : decode mX12_number.1 139 = .ok (.i2l, 1) ∧ 139 + 1 = 140 := ⟨by decide +kernel, rfl⟩
theorem d_X12_number_140 : decode mX12_number.1 140 = .ok (.iload_n 1, 1) ∧ 140 + 1 = 141 := ⟨by decide +kernel, rfl⟩
theorem d_X12_number_141 : decode mX12_number.1 141 = .ok (.i2l, 1) ∧ 141 + 1 = 142 := ⟨by decide +kernel, rfl⟩
theorem d_X12_number_142 : decode mX12_number.1 142 = .ok (.iload_n 2, 1) ∧ 142 + 1 = 143 := ⟨by decide +kernel, rfl⟩
theorem d_X12_number_143 : decode mX12_number.1 143 = .ok (.i2l, 1) ∧ 143 + 1 = 144 := ⟨by decide +kernel, rfl⟩
theorem d_X12_number_144 : decode mX12_number.1 144 = .ok (.invokestatic 289, 3) ∧ 144 + 3 = 147 := ⟨by decide +kernel, rfl⟩
theorem d_X12_number_147 : decode mX12_number.1 147 = .ok (.ifCond .ne 9, 3) ∧ 147 + 3 = 150 ∧ ((147 : Nat) : Int) + 9 = ((156 : Nat) : Int) := ⟨by decide +kernel, rfl, rfl⟩
theorem d_X12_number_150 : decode mX12_number.1 150 = .ok (.aload_n 0, 1) ∧ 150 + 1 = 151 := ⟨by decide +kernel, rfl⟩
theorem d_X12_number_151 : decode mX12_number.1 151 = .ok (.iconst 2, 1) ∧ 151 + 1 = 152 := ⟨by decide +kernel, rfl⟩
theorem d_X12_number_152 : decode mX12_number.1 152 = .ok (.iload_n 3, 1) ∧ 152 + 1 = 153 := ⟨by decide +kernel, rfl⟩
theorem d_X12_number_153 : decode mX12_number.1 153 = .ok (.invokevirtual 279, 3) ∧ 153 + 3 = 156 := ⟨by decide +kernel, rfl⟩
theorem d_X12_number_156 : decode mX12_number.1 156 = .ok (.iload 4, 2) ∧ 156 + 2 = 158 := ⟨by decide +kernel, rfl⟩
theorem d_X12_number_158 : decode mX12_number.1 158 = .ok (.ireturn, 1) := by decide +kernel
set_option maxRecDepth 100000 in
set_option maxHeartbeats 4000000 in
theorem g_X12_number_J129 (l : Launch) (G : xa_C) : ∀ (v0 v1 v2 v3 v4 : Int) (h : xa_H) , xa_G l G 3 mX12_number (f_X12_number_J129 v0 v1 v2 v3 v4 h) (fun r => some (some (xI r.1), r.2) : (Int × xa_H) → Option xa_O) 129 [some (xR v0), some (xI v1), some (xI v2), some (xI v3), some (xI v4)] [] h := by
  intro v0 v1 v2 v3 v4 h
  unfold f_X12_number_J129
  refine xa_step (xa_aload_n d_X12_number_129 rfl) ?_
  refine xa_step (xa_aload_n d_X12_number_130 rfl) ?_
  refine xa_getf xI xc_12 (by decide) (fun _ => rfl) xw_1306 rfl d_X12_number_131 (fun x31 _ => ?_)
  refine xa_putf2 (tg := xI) xc_12 (by decide) (fun _ => rfl) rfl (fun c hc => xa_fitI c hc) xw_1308 rfl d_X12_number_134 (fun h32 _ => ?_)
  refine xa_step (xa_iload d_X12_number_137 rfl) ?_
  refine xa_step (xa_i2l d_X12_number_139) ?_
  refine xa_step (xa_iload_n d_X12_number_140 rfl) ?_
  refine xa_step (xa_i2l d_X12_number_141) ?_
  refine xa_step (xa_iload_n d_X12_number_142 rfl) ?_
  refine xa_step (xa_i2l d_X12_number_143) ?_
  refine xa_callSi (as := [xL v4, xL v1, xL v2]) (st := []) (M' := mX12_isIn) (d' := 2) xw_1706 xw_1707 xw_1708 xw_177 xh_X12_isIn rfl ⟨Nat.le_of_ble_eq_true rfl, Nat.le_of_ble_eq_true rfl⟩ (Nat.le_of_ble_eq_true rfl) rfl d_X12_number_144 (fun r hr => ct_X12_isIn l G v4 v1 v2 h32 r hr) (fun r33 _ => ?_)
  refine xa_if (xa_ifne d_X12_number_147) (fun q34 => ?_) (fun q34 => ?_)
  · refine xa_step (xa_aload_n d_X12_number_150 rfl) ?_
    refine xa_step (xa_iconst d_X12_number_151 xq_i_2) ?_
    refine xa_step (xa_iload_n d_X12_number_152 rfl) ?_
    refine xa_callVV (as := [xI 2, xI v3]) (st := []) (M' := mX12_fail) (d' := 2) rfl xw_1654 xw_1656 xw_68 xw_1657 xw_177 xh_X12_fail rfl ⟨Nat.le_of_ble_eq_true rfl, Nat.le_of_ble_eq_true rfl⟩ (Nat.le_of_ble_eq_true rfl) rfl d_X12_number_153 (fun r hr => ct_X12_fail l G v0 2 v3 h32 r hr) (fun r35 _ => ?_)
    refine xa_step (xa_iload d_X12_number_156 rfl) ?_
    exact xa_iret d_X12_number_158 rfl rfl
  · refine xa_step (xa_iload d_X12_number_156 rfl) ?_
    exact xa_iret d_X12_number_158 rfl rfl
theorem d_X12_number_7 : decode mX12_number.1 7 = .ok (.iconst 0, 1) ∧ 7 + 1 = 8 := ⟨by decide +kernel, rfl⟩
theorem d_X12_number_8 : decode mX12_number.1 8 = .ok (.ireturn, 1) := by decide +kernel
set_option maxRecDepth 100000 in
set_option maxHeartbeats 4000000 in
theorem g_X12_number (l : Launch) (G : xa_C) (v0 v1 v2 : Int) (h : xa_H) : xa_G l G 3 mX12_number (f_X12_number v0 v1 v2 h) (fun r => some (some (xI r.1), r.2) : (Int × xa_H) → Option xa_O) 0 [some (xR v0), some (xI v1), some (xI v2), none, none] [] h := by
  unfold f_X12_number
  refine xa_step (xa_aload_n d_X12_number_0 rfl) ?_
  refine xa_getf xI xc_12 (by decide) (fun _ => rfl) xw_1309 rfl d_X12_number_1 (fun x1 _ => ?_)
  refine xa_if (xa_ifeq d_X12_number_4) (fun q2 => ?_) (fun q2 => ?_)
  · refine xa_step (xa_aload_n d_X12_number_9 rfl) ?_
    refine xa_callVI (as := []) (st := []) (M' := mX12_look) (d' := 2) rfl xw_1646 xw_1648 xw_66 xw_1649 xw_177 xh_X12_look rfl ⟨Nat.le_of_ble_eq_true rfl, Nat.le_of_ble_eq_true rfl⟩ (Nat.le_of_ble_eq_true rfl) rfl d_X12_number_10 (fun r hr => ct_X12_look l G v0 h r hr) (fun r3 _ => ?_)
    refine xa_callSi (as := [xI r3.1]) (st := []) (M' := mX12_isDigit) (d' := 2) xw_1703 xw_1704 xw_1705 xw_177 xh_X12_isDigit rfl ⟨Nat.le_of_ble_eq_true rfl, Nat.le_of_ble_eq_true rfl⟩ (Nat.le_of_ble_eq_true rfl) rfl d_X12_number_13 (fun r hr => ct_X12_isDigit l G r3.1 r3.2 r hr) (fun r4 _ => ?_)
    refine xa_if (xa_ifeq d_X12_number_16) (fun q5 => ?_) (fun q5 => ?_)
    · exact xa_weak (ls' := [some (xR v0), none, none, none, none]) ⟨rfl, trivial⟩ (g_X12_number_J30 l G v0 r3.2)
    · refine xa_step (xa_aload_n d_X12_number_19 rfl) ?_
      refine xa_getf xI xc_12 (by decide) (fun _ => rfl) xw_1306 rfl d_X12_number_20 (fun x8 _ => ?_)
      refine xa_step (xa_aload_n d_X12_number_23 rfl) ?_
      refine xa_getf xI xc_12 (by decide) (fun _ => rfl) xw_1308 rfl d_X12_number_24 (fun x9 _ => ?_)
      refine xa_if (xa_icmpne d_X12_number_27) (fun q10 => ?_) (fun q10 => ?_)
      · exact xa_weak (ls' := [some (xR v0), none, none, none, none]) ⟨rfl, trivial⟩ (g_X12_number_J30 l G v0 r3.2)
      · refine xa_step (xa_aload_n d_X12_number_41 rfl) ?_
        refine xa_getf xI xc_12 (by decide) (fun _ => rfl) xw_1306 rfl d_X12_number_42 (fun x11 _ => ?_)
        refine xa_step (xa_istore_n (ls' := [some (xR v0), some (xI v1), some (xI v2), some (xI x11), none]) d_X12_number_45 (by decide) rfl) ?_
        refine xa_step (xa_iconst d_X12_number_46 xq_i_0) ?_
        refine xa_step (xa_istore (ls' := [some (xR v0), some (xI v1), some (xI v2), some (xI x11), some (xI 0)]) d_X12_number_47 (by decide) rfl) ?_
        refine xa_weak (ls' := [some (xR v0), some (xI v1), some (xI v2), some (xI x11), some (xI 0)]) ⟨rfl, rfl, rfl, rfl, rfl, trivial⟩ ?_
        refine xa_loop (f := fun s => f_X12_number_L49 v0 v1 v2 x11 s.1 s.2) (L := fun s => [some (xR v0), some (xI v1), some (xI v2), some (xI x11), some (xI s.1)]) (P := fun s => s.2) (X := (fun e K => match e with | Sum.inl r => K (Sum.inr (Sum.inl r)) = some (some (xI r.1), r.2) | Sum.inr x => xa_G l G 3 mX12_number (some (Sum.inr (Sum.inr x))) K 129 [some (xR v0), some (xI v1), some (xI v2), some (xI x11), some (xI x.1)] [] x.2)) (fun K hb hX s => g_X12_number_L49 l G v0 v1 v2 x11 K (fun w0 hh => hb ((w0, hh))) (fun r => hX (Sum.inl r)) (fun w0 hh => hX (Sum.inr ((w0, hh)))) s.1 s.2) ?_ xFU ((0, r3.2))
        rintro (r | y30) K hK
        · exact hK.trans rfl
        · refine xa_eqE hK ?_
          show xa_G l G 3 mX12_number _ _ 129 [some (xR v0), some (xI v1), some (xI v2), some (xI x11), some (xI y30.1)] [] y30.2
          exact xa_weak (ls' := [some (xR v0), some (xI v1), some (xI v2), some (xI x11), some (xI y30.1)]) ⟨rfl, rfl, rfl, rfl, rfl, trivial⟩ (g_X12_number_J129 l G v0 v1 v2 x11 y30.1 y30.2)
  · refine xa_step (xa_iconst d_X12_number_7 xq_i_0) ?_
    exact xa_iret d_X12_number_8 rfl rfl
theorem ct_X12_number (l : Launch) (G : xa_C) (v0 v1 v2 : Int) (h : xa_H) (r : Int × xa_H) (hr : f_X12_number v0 v1 v2 h = some r) : xa_CT l G 3 mX12_number yX12_number [xR v0, xI v1, xI v2] h (some (xI r.1), r.2) :=
  xa_met (by decide +kernel) rfl (fun q => by first | rfl | cases q) (Nat.le_of_ble_eq_true rfl) rfl (g_X12_number l G v0 v1 v2 h) (by rw [hr]; rfl)
abbrev mX12_qAsksWord : xa_M := (cX12_qAsksWord, 2, none, RX12, false)
theorem d_X12_qAsksWord_0 : decode mX12_qAsksWord.1 0 = .ok (.iload_n 1, 1) ∧ 0 + 1 = 1 := ⟨by decide +kernel, rfl⟩
theorem d_X12_qAsksWord_1 : decode mX12_qAsksWord.1 1 = .ok (.tableswitch 135 0 7 #[47, 58, 69, 80, 91, 102, 113, 124], 47) := by decide +kernel
theorem d_X12_qAsksWord_48 : decode mX12_qAsksWord.1 48 = .ok (.aload_n 0, 1) ∧ 48 + 1 = 49 := ⟨by decide +kernel, rfl⟩
theorem d_X12_qAsksWord_49 : decode mX12_qAsksWord.1 49 = .ok (.aload_n 0, 1) ∧ 49 + 1 = 50 := ⟨by decide +kernel, rfl⟩
theorem d_X12_qAsksWord_50 : decode mX12_qAsksWord.1 50 = .ok (.getfield 210, 3) ∧ 50 + 3 = 53 := ⟨by decide +kernel, rfl⟩
theorem d_X12_qAsksWord_53 : decode mX12_qAsksWord.1 53 = .ok (.invokevirtual 323, 3) ∧ 53 + 3 = 56 := ⟨by decide +kernel, rfl⟩
theorem d_X12_qAsksWord_56 : decode mX12_qAsksWord.1 56 = .ok (.goto 88, 3) ∧ ((56 : Nat) : Int) + 88 = ((144 : Nat) : Int) := ⟨by decide +kernel, rfl⟩
theorem d_X12_qAsksWord_144 : decode mX12_qAsksWord.1 144 = .ok (.return_, 1) := by decide +kernel
theorem d_X12_qAsksWord_59 : decode mX12_qAsksWord.1 59 = .ok (.aload_n 0, 1) ∧ 59 + 1 = 60 := ⟨by decide +kernel, rfl⟩
theorem d_X12_qAsksWord_60 : decode mX12_qAsksWord.1 60 = .ok (.aload_n 0, 1) ∧ 60 + 1 = 61 := ⟨by decide +kernel, rfl⟩
theorem d_X12_qAsksWord_61 : decode mX12_qAsksWord.1 61 = .ok (.getfield 213, 3) ∧ 61 + 3 = 64 := ⟨by decide +kernel, rfl⟩
theorem d_X12_qAsksWord_64 : decode mX12_qAsksWord.1 64 = .ok (.invokevirtual 323, 3) ∧ 64 + 3 = 67 := ⟨by decide +kernel, rfl⟩
theorem d_X12_qAsksWord_67 : decode mX12_qAsksWord.1 67 = .ok (.goto 77, 3) ∧ ((67 : Nat) : Int) + 77 = ((144 : Nat) : Int) := ⟨by decide +kernel, rfl⟩
theorem d_X12_qAsksWord_70 : decode mX12_qAsksWord.1 70 = .ok (.aload_n 0, 1) ∧ 70 + 1 = 71 := ⟨by decide +kernel, rfl⟩
theorem d_X12_qAsksWord_71 : decode mX12_qAsksWord.1 71 = .ok (.aload_n 0, 1) ∧ 71 + 1 = 72 := ⟨by decide +kernel, rfl⟩
theorem d_X12_qAsksWord_72 : decode mX12_qAsksWord.1 72 = .ok (.getfield 216, 3) ∧ 72 + 3 = 75 := ⟨by decide +kernel, rfl⟩
theorem d_X12_qAsksWord_75 : decode mX12_qAsksWord.1 75 = .ok (.invokevirtual 323, 3) ∧ 75 + 3 = 78 := ⟨by decide +kernel, rfl⟩
theorem d_X12_qAsksWord_78 : decode mX12_qAsksWord.1 78 = .ok (.goto 66, 3) ∧ ((78 : Nat) : Int) + 66 = ((144 : Nat) : Int) := ⟨by decide +kernel, rfl⟩
theorem d_X12_qAsksWord_81 : decode mX12_qAsksWord.1 81 = .ok (.aload_n 0, 1) ∧ 81 + 1 = 82 := ⟨by decide +kernel, rfl⟩
theorem d_X12_qAsksWord_82 : decode mX12_qAsksWord.1 82 = .ok (.aload_n 0, 1) ∧ 82 + 1 = 83 := ⟨by decide +kernel, rfl⟩
theorem d_X12_qAsksWord_83 : decode mX12_qAsksWord.1 83 = .ok (.getfield 219, 3) ∧ 83 + 3 = 86 := ⟨by decide +kernel, rfl⟩
theorem d_X12_qAsksWord_86 : decode mX12_qAsksWord.1 86 = .ok (.invokevirtual 323, 3) ∧ 86 + 3 = 89 := ⟨by decide +kernel, rfl⟩
theorem d_X12_qAsksWord_89 : decode mX12_qAsksWord.1 89 = .ok (.goto 55, 3) ∧ ((89 : Nat) : Int) + 55 = ((144 : Nat) : Int) := ⟨by decide +kernel, rfl⟩
theorem d_X12_qAsksWord_92 : decode mX12_qAsksWord.1 92 = .ok (.aload_n 0, 1) ∧ 92 + 1 = 93 := ⟨by decide +kernel, rfl⟩
theorem d_X12_qAsksWord_93 : decode mX12_qAsksWord.1 93 = .ok (.aload_n 0, 1) ∧ 93 + 1 = 94 := ⟨by decide +kernel, rfl⟩
theorem d_X12_qAsksWord_94 : decode mX12_qAsksWord.1 94 = .ok (.getfield 222, 3) ∧ 94 + 3 = 97 := ⟨by decide +kernel, rfl⟩
theorem d_X12_qAsksWord_97 : decode mX12_qAsksWord.1 97 = .ok (.invokevirtual 323, 3) ∧ 97 + 3 = 100 := ⟨by decide +kernel, rfl⟩
theorem d_X12_qAsksWord_100 : decode mX12_qAsksWord.1 100 = .ok (.goto 44, 3) ∧ ((100 : Nat) : Int) + 44 = ((144 : Nat) : Int) := ⟨by decide +kernel, rfl⟩
theorem d_X12_qAsksWord_103 : decode mX12_qAsksWord.1 103 = .ok (.aload_n 0, 1) ∧ 103 + 1 = 104 := ⟨by decide +kernel, rfl⟩
theorem d_X12_qAsksWord_104 : decode mX12_qAsksWord.1 104 = .ok (.aload_n 0, 1) ∧ 104 + 1 = 105 := ⟨by decide +kernel, rfl⟩
theorem d_X12_qAsksWord_105 : decode mX12_qAsksWord.1 105 = .ok (.getfield 225, 3) ∧ 105 + 3 = 108 := ⟨by decide +kernel, rfl⟩
theorem d_X12_qAsksWord_108 : decode mX12_qAsksWord.1 108 = .ok (.invokevirtual 323, 3) ∧ 108 + 3 = 111 := ⟨by decide +kernel, rfl⟩
theorem d_X12_qAsksWord_111 : decode mX12_qAsksWord.1 111 = .ok (.goto 33, 3) ∧ ((111 : Nat) : Int) + 33 = ((144 : Nat) : Int) := ⟨by decide +kernel, rfl⟩
theorem d_X12_qAsksWord_114 : decode mX12_qAsksWord.1 114 = .ok (.aload_n 0, 1) ∧ 114 + 1 = 115 := ⟨by decide +kernel, rfl⟩
theorem d_X12_qAsksWord_115 : decode mX12_qAsksWord.1 115 = .ok (.aload_n 0, 1) ∧ 115 + 1 = 116 := ⟨by decide +kernel, rfl⟩
theorem d_X12_qAsksWord_116 : decode mX12_qAsksWord.1 116 = .ok (.getfield 228, 3) ∧ 116 + 3 = 119 := ⟨by decide +kernel, rfl⟩
theorem d_X12_qAsksWord_119 : decode mX12_qAsksWord.1 119 = .ok (.invokevirtual 323, 3) ∧ 119 + 3 = 122 := ⟨by decide +kernel, rfl⟩
theorem d_X12_qAsksWord_122 : decode mX12_qAsksWord.1 122 = .ok (.goto 22, 3) ∧ ((122 : Nat) : Int) + 22 = ((144 : Nat) : Int) := ⟨by decide +kernel, rfl⟩
theorem d_X12_qAsksWord_125 : decode mX12_qAsksWord.1 125 = .ok (.aload_n 0, 1) ∧ 125 + 1 = 126 := ⟨by decide +kernel, rfl⟩
theorem d_X12_qAsksWord_126 : decode mX12_qAsksWord.1 126 = .ok (.aload_n 0, 1) ∧ 126 + 1 = 127 := ⟨by decide +kernel, rfl⟩
theorem d_X12_qAsksWord_127 : decode mX12_qAsksWord.1 127 = .ok (.getfield 231, 3) ∧ 127 + 3 = 130 := ⟨by decide +kernel, rfl⟩
theorem d_X12_qAsksWord_130 : decode mX12_qAsksWord.1 130 = .ok (.invokevirtual 323, 3) ∧ 130 + 3 = 133 := ⟨by decide +kernel, rfl⟩
theorem d_X12_qAsksWord_133 : decode mX12_qAsksWord.1 133 = .ok (.goto 11, 3) ∧ ((133 : Nat) : Int) + 11 = ((144 : Nat) : Int) := ⟨by decide +kernel, rfl⟩
theorem d_X12_qAsksWord_136 : decode mX12_qAsksWord.1 136 = .ok (.aload_n 0, 1) ∧ 136 + 1 = 137 := ⟨by decide +kernel, rfl⟩
theorem d_X12_qAsksWord_137 : decode mX12_qAsksWord.1 137 = .ok (.aload_n 0, 1) ∧ 137 + 1 = 138 := ⟨by decide +kernel, rfl⟩
theorem d_X12_qAsksWord_138 : decode mX12_qAsksWord.1 138 = .ok (.getfield 222, 3) ∧ 138 + 3 = 141 := ⟨by decide +kernel, rfl⟩
theorem d_X12_qAsksWord_141 : decode mX12_qAsksWord.1 141 = .ok (.invokevirtual 323, 3) ∧ 141 + 3 = 144 := ⟨by decide +kernel, rfl⟩
set_option maxRecDepth 100000 in
set_option maxHeartbeats 4000000 in
theorem g_X12_qAsksWord (l : Launch) (G : xa_C) (v0 v1 : Int) (h : xa_H) : xa_G l G 6 mX12_qAsksWord (f_X12_qAsksWord v0 v1 h) (fun r => some (none, r) : xa_H → Option xa_O) 0 [some (xR v0), some (xI v1)] [] h := by
  unfold f_X12_qAsksWord
  refine xa_step (xa_iload_n d_X12_qAsksWord_0 rfl) ?_
  refine xa_case (fun q1 => ?_) (fun q1 => ?_)
  · refine xa_step (xa_tabIn (k := 0) d_X12_qAsksWord_1 q1 (by decide) (by decide) rfl rfl) ?_
    refine xa_step (xa_aload_n d_X12_qAsksWord_48 rfl) ?_
    refine xa_step (xa_aload_n d_X12_qAsksWord_49 rfl) ?_
    refine xa_getf xR xc_12 (by decide) (fun _ => rfl) xw_1393 rfl d_X12_qAsksWord_50 (fun x2 _ => ?_)
    refine xa_callVV (as := [xR x2]) (st := []) (M' := mX12_asks) (d' := 5) rfl xw_1695 xw_1697 xw_77 xw_1698 xw_177 xh_X12_asks rfl ⟨Nat.le_of_ble_eq_true rfl, Nat.le_of_ble_eq_true rfl⟩ (Nat.le_of_ble_eq_true rfl) rfl d_X12_qAsksWord_53 (fun r hr => ct_X12_asks l G v0 x2 h r hr) (fun r3 _ => ?_)
    refine xa_step (xa_goto d_X12_qAsksWord_56) ?_
    exact xa_vret d_X12_qAsksWord_144 rfl rfl
  · refine xa_case (fun q4 => ?_) (fun q4 => ?_)
    · refine xa_step (xa_tabIn (k := 1) d_X12_qAsksWord_1 q4 (by decide) (by decide) rfl rfl) ?_
      refine xa_step (xa_aload_n d_X12_qAsksWord_59 rfl) ?_
      refine xa_step (xa_aload_n d_X12_qAsksWord_60 rfl) ?_
      refine xa_getf xR xc_12 (by decide) (fun _ => rfl) xw_1394 rfl d_X12_qAsksWord_61 (fun x5 _ => ?_)
      refine xa_callVV (as := [xR x5]) (st := []) (M' := mX12_asks) (d' := 5) rfl xw_1695 xw_1697 xw_77 xw_1698 xw_177 xh_X12_asks rfl ⟨Nat.le_of_ble_eq_true rfl, Nat.le_of_ble_eq_true rfl⟩ (Nat.le_of_ble_eq_true rfl) rfl d_X12_qAsksWord_64 (fun r hr => ct_X12_asks l G v0 x5 h r hr) (fun r6 _ => ?_)
      refine xa_step (xa_goto d_X12_qAsksWord_67) ?_
      exact xa_vret d_X12_qAsksWord_144 rfl rfl
    · refine xa_case (fun q7 => ?_) (fun q7 => ?_)
      · refine xa_step (xa_tabIn (k := 2) d_X12_qAsksWord_1 q7 (by decide) (by decide) rfl rfl) ?_
        refine xa_step (xa_aload_n d_X12_qAsksWord_70 rfl) ?_
        refine xa_step (xa_aload_n d_X12_qAsksWord_71 rfl) ?_
        refine xa_getf xR xc_12 (by decide) (fun _ => rfl) xw_1395 rfl d_X12_qAsksWord_72 (fun x8 _ => ?_)
        refine xa_callVV (as := [xR x8]) (st := []) (M' := mX12_asks) (d' := 5) rfl xw_1695 xw_1697 xw_77 xw_1698 xw_177 xh_X12_asks rfl ⟨Nat.le_of_ble_eq_true rfl, Nat.le_of_ble_eq_true rfl⟩ (Nat.le_of_ble_eq_true rfl) rfl d_X12_qAsksWord_75 (fun r hr => ct_X12_asks l G v0 x8 h r hr) (fun r9 _ => ?_)
        refine xa_step (xa_goto d_X12_qAsksWord_78) ?_
        exact xa_vret d_X12_qAsksWord_144 rfl rfl
      · refine xa_case (fun q10 => ?_) (fun q10 => ?_)
        · refine xa_step (xa_tabIn (k := 3) d_X12_qAsksWord_1 q10 (by decide) (by decide) rfl rfl) ?_
          refine xa_step (xa_aload_n d_X12_qAsksWord_81 rfl) ?_
          refine xa_step (xa_aload_n d_X12_qAsksWord_82 rfl) ?_
          refine xa_getf xR xc_12 (by decide) (fun _ => rfl) xw_1396 rfl d_X12_qAsksWord_83 (fun x11 _ => ?_)
          refine xa_callVV (as := [xR x11]) (st := []) (M' := mX12_asks) (d' := 5) rfl xw_1695 xw_1697 xw_77 xw_1698 xw_177 xh_X12_asks rfl ⟨Nat.le_of_ble_eq_true rfl, Nat.le_of_ble_eq_true rfl⟩ (Nat.le_of_ble_eq_true rfl) rfl d_X12_qAsksWord_86 (fun r hr => ct_X12_asks l G v0 x11 h r hr) (fun r12 _ => ?_)
          refine xa_step (xa_goto d_X12_qAsksWord_89) ?_
          exact xa_vret d_X12_qAsksWord_144 rfl rfl
        · refine xa_case (fun q13 => ?_) (fun q13 => ?_)
          · refine xa_step (xa_tabIn (k := 4) d_X12_qAsksWord_1 q13 (by decide) (by decide) rfl rfl) ?_
            refine xa_step (xa_aload_n d_X12_qAsksWord_92 rfl) ?_
            refine xa_step (xa_aload_n d_X12_qAsksWord_93 rfl) ?_
            refine xa_getf xR xc_12 (by decide) (fun _ => rfl) xw_1397 rfl d_X12_qAsksWord_94 (fun x14 _ => ?_)
            refine xa_callVV (as := [xR x14]) (st := []) (M' := mX12_asks) (d' := 5) rfl xw_1695 xw_1697 xw_77 xw_1698 xw_177 xh_X12_asks rfl ⟨Nat.le_of_ble_eq_true rfl, Nat.le_of_ble_eq_true rfl⟩ (Nat.le_of_ble_eq_true rfl) rfl d_X12_qAsksWord_97 (fun r hr => ct_X12_asks l G v0 x14 h r hr) (fun r15 _ => ?_)
            refine xa_step (xa_goto d_X12_qAsksWord_100) ?_
            exact xa_vret d_X12_qAsksWord_144 rfl rfl
          · refine xa_case (fun q16 => ?_) (fun q16 => ?_)
            · refine xa_step (xa_tabIn (k := 5) d_X12_qAsksWord_1 q16 (by decide) (by decide) rfl rfl) ?_
              refine xa_step (xa_aload_n d_X12_qAsksWord_103 rfl) ?_
              refine xa_step (xa_aload_n d_X12_qAsksWord_104 rfl) ?_
              refine xa_getf xR xc_12 (by decide) (fun _ => rfl) xw_1398 rfl d_X12_qAsksWord_105 (fun x17 _ => ?_)
              refine xa_callVV (as := [xR x17]) (st := []) (M' := mX12_asks) (d' := 5) rfl xw_1695 xw_1697 xw_77 xw_1698 xw_177 xh_X12_asks rfl ⟨Nat.le_of_ble_eq_true rfl, Nat.le_of_ble_eq_true rfl⟩ (Nat.le_of_ble_eq_true rfl) rfl d_X12_qAsksWord_108 (fun r hr => ct_X12_asks l G v0 x17 h r hr) (fun r18 _ => ?_)
              refine xa_step (xa_goto d_X12_qAsksWord_111) ?_
              exact xa_vret d_X12_qAsksWord_144 rfl rfl
            · refine xa_case (fun q19 => ?_) (fun q19 => ?_)
              · refine xa_step (xa_tabIn (k := 6) d_X12_qAsksWord_1 q19 (by decide) (by decide) rfl rfl) ?_
                refine xa_step (xa_aload_n d_X12_qAsksWord_114 rfl) ?_
                refine xa_step (xa_aload_n d_X12_qAsksWord_115 rfl) ?_
                refine xa_getf xR xc_12 (by decide) (fun _ => rfl) xw_1399 rfl d_X12_qAsksWord_116 (fun x20 _ => ?_)
                refine xa_callVV (as := [xR x20]) (st := []) (M' := mX12_asks) (d' := 5) rfl xw_1695 xw_1697 xw_77 xw_1698 xw_177 xh_X12_asks rfl ⟨Nat.le_of_ble_eq_true rfl, Nat.le_of_ble_eq_true rfl⟩ (Nat.le_of_ble_eq_true rfl) rfl d_X12_qAsksWord_119 (fun r hr => ct_X12_asks l G v0 x20 h r hr) (fun r21 _ => ?_)
                refine xa_step (xa_goto d_X12_qAsksWord_122) ?_
                exact xa_vret d_X12_qAsksWord_144 rfl rfl
              · refine xa_case (fun q22 => ?_) (fun q22 => ?_)
                · refine xa_step (xa_tabIn (k := 7) d_X12_qAsksWord_1 q22 (by decide) (by decide) rfl rfl) ?_
                  refine xa_step (xa_aload_n d_X12_qAsksWord_125 rfl) ?_
                  refine xa_step (xa_aload_n d_X12_qAsksWord_126 rfl) ?_
                  refine xa_getf xR xc_12 (by decide) (fun _ => rfl) xw_1400 rfl d_X12_qAsksWord_127 (fun x23 _ => ?_)
                  refine xa_callVV (as := [xR x23]) (st := []) (M' := mX12_asks) (d' := 5) rfl xw_1695 xw_1697 xw_77 xw_1698 xw_177 xh_X12_asks rfl ⟨Nat.le_of_ble_eq_true rfl, Nat.le_of_ble_eq_true rfl⟩ (Nat.le_of_ble_eq_true rfl) rfl d_X12_qAsksWord_130 (fun r hr => ct_X12_asks l G v0 x23 h r hr) (fun r24 _ => ?_)
                  refine xa_step (xa_goto d_X12_qAsksWord_133) ?_
                  exact xa_vret d_X12_qAsksWord_144 rfl rfl
                · refine xa_step (xa_tabOut d_X12_qAsksWord_1 (by omega) rfl) ?_
                  refine xa_step (xa_aload_n d_X12_qAsksWord_136 rfl) ?_
                  refine xa_step (xa_aload_n d_X12_qAsksWord_137 rfl) ?_
                  refine xa_getf xR xc_12 (by decide) (fun _ => rfl) xw_1397 rfl d_X12_qAsksWord_138 (fun x25 _ => ?_)
                  refine xa_callVV (as := [xR x25]) (st := []) (M' := mX12_asks) (d' := 5) rfl xw_1695 xw_1697 xw_77 xw_1698 xw_177 xh_X12_asks rfl ⟨Nat.le_of_ble_eq_true rfl, Nat.le_of_ble_eq_true rfl⟩ (Nat.le_of_ble_eq_true rfl) rfl d_X12_qAsksWord_141 (fun r hr => ct_X12_asks l G v0 x25 h r hr) (fun r26 _ => ?_)
                  exact xa_vret d_X12_qAsksWord_144 rfl rfl
theorem ct_X12_qAsksWord (l : Launch) (G : xa_C) (v0 v1 : Int) (h : xa_H) (r : xa_H) (hr : f_X12_qAsksWord v0 v1 h = some r) : xa_CT l G 6 mX12_qAsksWord yX12_qAsksWord [xR v0, xI v1] h (none, r) :=
  xa_met (by decide +kernel) rfl (fun q => by first | rfl | cases q) (Nat.le_of_ble_eq_true rfl) rfl (g_X12_qAsksWord l G v0 v1 h) (by rw [hr]; rfl)
abbrev mX12_qOpens : xa_M := (cX12_qOpens, 3, none, RX12, false)
theorem d_X12_qOpens_0 : decode mX12_qOpens.1 0 = .ok (.aload_n 0, 1) ∧ 0 + 1 = 1 := ⟨by decide +kernel, rfl⟩
theorem d_X12_qOpens_1 : decode mX12_qOpens.1 1 = .ok (.getfield 249, 3) ∧ 1 + 3 = 4 := ⟨by decide +kernel, rfl⟩
theorem d_X12_qOpens_4 : decode mX12_qOpens.1 4 = .ok (.ifCond .eq 4, 3) ∧ 4 + 3 = 7 ∧ ((4 : Nat) : Int) + 4 = ((8 : Nat) : Int) := ⟨by decide +kernel, rfl, rfl⟩
theorem d_X12_qOpens_8 : decode mX12_qOpens.1 8 = .ok (.aload_n 0, 1) ∧ 8 + 1 = 9 := ⟨by decide +kernel, rfl⟩
theorem d_X12_qOpens_9 : decode mX12_qOpens.1 9 = .ok (.getfield 341, 3) ∧ 9 + 3 = 12 := ⟨by decide +kernel, rfl⟩
theorem d_X12_qOpens_12 : decode mX12_qOpens.1 12 = .ok (.bipush 6, 2) ∧ 12 + 2 = 14 := ⟨by decide +kernel, rfl⟩
theorem d_X12_qOpens_14 : decode mX12_qOpens.1 14 = .ok (.if_icmp .ne 10, 3) ∧ 14 + 3 = 17 ∧ ((14 : Nat) : Int) + 10 = ((24 : Nat) : Int) := ⟨by decide +kernel, rfl, rfl⟩
theorem d_X12_qOpens_17 : decode mX12_qOpens.1 17 = .ok (.aload_n 0, 1) ∧ 17 + 1 = 18 := ⟨by decide +kernel, rfl⟩
theorem d_X12_qOpens_18 : decode mX12_qOpens.1 18 = .ok (.iconst 4, 1) ∧ 18 + 1 = 19 := ⟨by decide +kernel, rfl⟩
theorem d_X12_qOpens_19 : decode mX12_qOpens.1 19 = .ok (.iload_n 2, 1) ∧ 19 + 1 = 20 := ⟨by decide +kernel, rfl⟩
theorem d_X12_qOpens_20 : decode mX12_qOpens.1 20 = .ok (.invokevirtual 279, 3) ∧ 20 + 3 = 23 := ⟨by decide +kernel, rfl⟩
theorem d_X12_qOpens_23 : decode mX12_qOpens.1 23 = .ok (.return_, 1) := by decide +kernel
theorem d_X12_qOpens_24 : decode mX12_qOpens.1 24 = .ok (.aload_n 0, 1) ∧ 24 + 1 = 25 := ⟨by decide +kernel, rfl⟩
theorem d_X12_qOpens_25 : decode mX12_qOpens.1 25 = .ok (.dup, 1) ∧ 25 + 1 = 26 := ⟨by decide +kernel, rfl⟩
theorem d_X12_qOpens_26 : decode mX12_qOpens.1 26 = .ok (.getfield 341, 3) ∧ 26 + 3 = 29 := ⟨by decide +kernel, rfl⟩
theorem d_X12_qOpens_29 : decode mX12_qOpens.1 29 = .ok (.iconst 1, 1) ∧ 29 + 1 = 30 := ⟨by decide +kernel, rfl⟩
theorem d_X12_qOpens_30 : decode mX12_qOpens.1 30 = .ok (.iadd, 1) ∧ 30 + 1 = 31 := ⟨by decide +kernel, rfl⟩
theorem d_X12_qOpens_31 : decode mX12_qOpens.1 31 = .ok (.putfield 341, 3) ∧ 31 + 3 = 34 := ⟨by decide +kernel, rfl⟩
theorem d_X12_qOpens_34 : decode mX12_qOpens.1 34 = .ok (.aload_n 0, 1) ∧ 34 + 1 = 35 := ⟨by decide +kernel, rfl⟩
theorem d_X12_qOpens_35 : decode mX12_qOpens.1 35 = .ok (.getfield 237, 3) ∧ 35 + 3 = 38 := ⟨by decide +kernel, rfl⟩
theorem d_X12_qOpens_38 : decode mX12_qOpens.1 38 = .ok (.aload_n 0, 1) ∧ 38 + 1 = 39 := ⟨by decide +kernel, rfl⟩
theorem d_X12_qOpens_39 : decode mX12_qOpens.1 39 = .ok (.getfield 338, 3) ∧ 39 + 3 = 42 := ⟨by decide +kernel, rfl⟩
theorem d_X12_qOpens_42 : decode mX12_qOpens.1 42 = .ok (.iload_n 1, 1) ∧ 42 + 1 = 43 := ⟨by decide +kernel, rfl⟩
theorem d_X12_qOpens_43 : decode mX12_qOpens.1 43 = .ok (.iastore, 1) ∧ 43 + 1 = 44 := ⟨by decide +kernel, rfl⟩
theorem d_X12_qOpens_44 : decode mX12_qOpens.1 44 = .ok (.aload_n 0, 1) ∧ 44 + 1 = 45 := ⟨by decide +kernel, rfl⟩
theorem d_X12_qOpens_45 : decode mX12_qOpens.1 45 = .ok (.dup, 1) ∧ 45 + 1 = 46 := ⟨by decide +kernel, rfl⟩
theorem d_X12_qOpens_46 : decode mX12_qOpens.1 46 = .ok (.getfield 338, 3) ∧ 46 + 3 = 49 := ⟨by decide +kernel, rfl⟩
theorem d_X12_qOpens_49 : decode mX12_qOpens.1 49 = .ok (.iconst 1, 1) ∧ 49 + 1 = 50 := ⟨by decide +kernel, rfl⟩
theorem d_X12_qOpens_50 : decode mX12_qOpens.1 50 = .ok (.iadd, 1) ∧ 50 + 1 = 51 := ⟨by decide +kernel, rfl⟩
theorem d_X12_qOpens_51 : decode mX12_qOpens.1 51 = .ok (.putfield 338, 3) ∧ 51 + 3 = 54 := ⟨by decide +kernel, rfl⟩
theorem d_X12_qOpens_54 : decode mX12_qOpens.1 54 = .ok (.return_, 1) := by decide +kernel
theorem d_X12_qOpens_7 : decode mX12_qOpens.1 7 = .ok (.return_, 1) := by decide +kernel
set_option maxRecDepth 100000 in
set_option maxHeartbeats 4000000 in
theorem g_X12_qOpens (l : Launch) (G : xa_C) (v0 v1 v2 : Int) (h : xa_H) : xa_G l G 3 mX12_qOpens (f_X12_qOpens v0 v1 v2 h) (fun r => some (none, r) : xa_H → Option xa_O) 0 [some (xR v0), some (xI v1), some (xI v2)] [] h := by
  unfold f_X12_qOpens
  refine xa_step (xa_aload_n d_X12_qOpens_0 rfl) ?_
  refine xa_getf xI xc_12 (by decide) (fun _ => rfl) xw_1309 rfl d_X12_qOpens_1 (fun x1 _ => ?_)
  refine xa_if (xa_ifeq d_X12_qOpens_4) (fun q2 => ?_) (fun q2 => ?_)
  · refine xa_step (xa_aload_n d_X12_qOpens_8 rfl) ?_
    refine xa_getf xI xc_12 (by decide) (fun _ => rfl) xw_1405 rfl d_X12_qOpens_9 (fun x3 _ => ?_)
    refine xa_step (xa_bipush d_X12_qOpens_12 xq_b_6) ?_
    refine xa_if (xa_icmpne d_X12_qOpens_14) (fun q4 => ?_) (fun q4 => ?_)
    · refine xa_step (xa_aload_n d_X12_qOpens_17 rfl) ?_
      refine xa_step (xa_iconst d_X12_qOpens_18 xq_i_4) ?_
      refine xa_step (xa_iload_n d_X12_qOpens_19 rfl) ?_
      refine xa_callVV (as := [xI 4, xI v2]) (st := []) (M' := mX12_fail) (d' := 2) rfl xw_1654 xw_1656 xw_68 xw_1657 xw_177 xh_X12_fail rfl ⟨Nat.le_of_ble_eq_true rfl, Nat.le_of_ble_eq_true rfl⟩ (Nat.le_of_ble_eq_true rfl) rfl d_X12_qOpens_20 (fun r hr => ct_X12_fail l G v0 4 v2 h r hr) (fun r5 _ => ?_)
      exact xa_vret d_X12_qOpens_23 rfl rfl
    · refine xa_step (xa_aload_n d_X12_qOpens_24 rfl) ?_
      refine xa_step (xa_dup d_X12_qOpens_25 (xa_tR _)) ?_
      refine xa_getf xI xc_12 (by decide) (fun _ => rfl) xw_1405 rfl d_X12_qOpens_26 (fun x6 _ => ?_)
      refine xa_step (xa_iconst d_X12_qOpens_29 xq_i_1) ?_
      refine xa_step (xa_iadd d_X12_qOpens_30) ?_
      refine xa_putf2 (tg := xI) xc_12 (by decide) (fun _ => rfl) rfl (fun c hc => xa_fitI c hc) xw_1405 rfl d_X12_qOpens_31 (fun h7 _ => ?_)
      refine xa_step (xa_aload_n d_X12_qOpens_34 rfl) ?_
      refine xa_getf xR xc_12 (by decide) (fun _ => rfl) xw_1403 rfl d_X12_qOpens_35 (fun x8 _ => ?_)
      refine xa_step (xa_aload_n d_X12_qOpens_38 rfl) ?_
      refine xa_getf xI xc_12 (by decide) (fun _ => rfl) xw_1404 rfl d_X12_qOpens_39 (fun x9 _ => ?_)
      refine xa_step (xa_iload_n d_X12_qOpens_42 rfl) ?_
      refine xa_iastore2 d_X12_qOpens_43 (fun h10 _ => ?_)
      refine xa_step (xa_aload_n d_X12_qOpens_44 rfl) ?_
      refine xa_step (xa_dup d_X12_qOpens_45 (xa_tR _)) ?_
      refine xa_getf xI xc_12 (by decide) (fun _ => rfl) xw_1404 rfl d_X12_qOpens_46 (fun x11 _ => ?_)
      refine xa_step (xa_iconst d_X12_qOpens_49 xq_i_1) ?_
      refine xa_step (xa_iadd d_X12_qOpens_50) ?_
      refine xa_putf2 (tg := xI) xc_12 (by decide) (fun _ => rfl) rfl (fun c hc => xa_fitI c hc) xw_1404 rfl d_X12_qOpens_51 (fun h12 _ => ?_)
      exact xa_vret d_X12_qOpens_54 rfl rfl
  · exact xa_vret d_X12_qOpens_7 rfl rfl
theorem ct_X12_qOpens (l : Launch) (G : xa_C) (v0 v1 v2 : Int) (h : xa_H) (r : xa_H) (hr : f_X12_qOpens v0 v1 v2 h = some r) : xa_CT l G 3 mX12_qOpens yX12_qOpens [xR v0, xI v1, xI v2] h (none, r) :=
  xa_met (by decide +kernel) rfl (fun q => by first | rfl | cases q) (Nat.le_of_ble_eq_true rfl) rfl (g_X12_qOpens l G v0 v1 v2 h) (by rw [hr]; rfl)
abbrev mX12_isAllowed : xa_M := (cX12_isAllowed, 2, (some (.boolean)), RX12, false)
theorem d_X12_isAllowed_0 : decode mX12_isAllowed.1 0 = .ok (.aload_n 0, 1) ∧ 0 + 1 = 1 := ⟨by decide +kernel, rfl⟩
theorem d_X12_isAllowed_1 : decode mX12_isAllowed.1 1 = .ok (.getfield 304, 3) ∧ 1 + 3 = 4 := ⟨by decide +kernel, rfl⟩
theorem d_X12_isAllowed_4 : decode mX12_isAllowed.1 4 = .ok (.ifCond .eq 17, 3) ∧ 4 + 3 = 7 ∧ ((4 : Nat) : Int) + 17 = ((21 : Nat) : Int) := ⟨by decide +kernel, rfl, rfl⟩
theorem d_X12_isAllowed_21 : decode mX12_isAllowed.1 21 = .ok (.iload_n 1, 1) ∧ 21 + 1 = 22 := ⟨by decide +kernel, rfl⟩
theorem d_X12_isAllowed_22 : decode mX12_isAllowed.1 22 = .ok (.ifCond .eq 12, 3) ∧ 22 + 3 = 25 ∧ ((22 : Nat) : Int) + 12 = ((34 : Nat) : Int) := ⟨by decide +kernel, rfl, rfl⟩
theorem d_X12_isAllowed_34 : decode mX12_isAllowed.1 34 = .ok (.iconst 0, 1) ∧ 34 + 1 = 35 := ⟨by decide +kernel, rfl⟩
theorem d_X12_isAllowed_35 : decode mX12_isAllowed.1 35 = .ok (.ireturn, 1) := by decide +kernel
theorem d_X12_isAllowed_25 : decode mX12_isAllowed.1 25 = .ok (.iload_n 1, 1) ∧ 25 + 1 = 26 := ⟨by decide +kernel, rfl⟩
theorem d_X12_isAllowed_26 : decode mX12_isAllowed.1 26 = .ok (.iconst 4, 1) ∧ 26 + 1 = 27 := ⟨by decide +kernel, rfl⟩
theorem d_X12_isAllowed_27 : decode mX12_isAllowed.1 27 = .ok (.if_icmp .eq 7, 3) ∧ 27 + 3 = 30 ∧ ((27 : Nat) : Int) + 7 = ((34 : Nat) : Int) := ⟨by decide +kernel, rfl, rfl⟩
theorem d_X12_isAllowed_30 : decode mX12_isAllowed.1 30 = .ok (.iconst 1, 1) ∧ 30 + 1 = 31 := ⟨by decide +kernel, rfl⟩
theorem d_X12_isAllowed_31 : decode mX12_isAllowed.1 31 = .ok (.goto 4, 3) ∧ ((31 : Nat) : Int) + 4 = ((35 : Nat) : Int) := ⟨by decide +kernel, rfl⟩
theorem d_X12_isAllowed_7 : decode mX12_isAllowed.1 7 = .ok (.iload_n 1, 1) ∧ 7 + 1 = 8 := ⟨by decide +kernel, rfl⟩
theorem d_X12_isAllowed_8 : decode mX12_isAllowed.1 8 = .ok (.bipush 7, 2) ∧ 8 + 2 = 10 := ⟨by decide +kernel, rfl⟩
theorem d_X12_isAllowed_10 : decode mX12_isAllowed.1 10 = .ok (.if_icmp .ge 7, 3) ∧ 10 + 3 = 13 ∧ ((10 : Nat) : Int) + 7 = ((17 : Nat) : Int) := ⟨by decide +kernel, rfl, rfl⟩
theorem d_X12_isAllowed_13 : decode mX12_isAllowed.1 13 = .ok (.iconst 1, 1) ∧ 13 + 1 = 14 := ⟨by decide +kernel, rfl⟩
theorem d_X12_isAllowed_14 : decode mX12_isAllowed.1 14 = .ok (.goto 21, 3) ∧ ((14 : Nat) : Int) + 21 = ((35 : Nat) : Int) := ⟨by decide +kernel, rfl⟩
theorem d_X12_isAllowed_17 : decode mX12_isAllowed.1 17 = .ok (.iconst 0, 1) ∧ 17 + 1 = 18 := ⟨by decide +kernel, rfl⟩
theorem d_X12_isAllowed_18 : decode mX12_isAllowed.1 18 = .ok (.goto 17, 3) ∧ ((18 : Nat) : Int) + 17 = ((35 : Nat) : Int) := ⟨by decide +kernel, rfl⟩
set_option maxRecDepth 100000 in
set_option maxHeartbeats 4000000 in
theorem g_X12_isAllowed (l : Launch) (G : xa_C) (v0 v1 : Int) (h : xa_H) : xa_G l G 2 mX12_isAllowed (f_X12_isAllowed v0 v1 h) (fun r => some (some (xI r), h) : Int → Option xa_O) 0 [some (xR v0), some (xI v1)] [] h := by
  unfold f_X12_isAllowed
  refine xa_step (xa_aload_n d_X12_isAllowed_0 rfl) ?_
  refine xa_getf xI xc_12 (by decide) (fun _ => rfl) xw_1353 rfl d_X12_isAllowed_1 (fun x1 _ => ?_)
  refine xa_if (xa_ifeq d_X12_isAllowed_4) (fun q2 => ?_) (fun q2 => ?_)
  · refine xa_step (xa_iload_n d_X12_isAllowed_21 rfl) ?_
    refine xa_if (xa_ifeq d_X12_isAllowed_22) (fun q3 => ?_) (fun q3 => ?_)
    · refine xa_step (xa_iconst d_X12_isAllowed_34 xq_i_0) ?_
      exact xa_zret d_X12_isAllowed_35 rfl (Or.inl rfl) rfl
    · refine xa_step (xa_iload_n d_X12_isAllowed_25 rfl) ?_
      refine xa_step (xa_iconst d_X12_isAllowed_26 xq_i_4) ?_
      refine xa_if (xa_icmpeq d_X12_isAllowed_27) (fun q4 => ?_) (fun q4 => ?_)
      · refine xa_step (xa_iconst d_X12_isAllowed_34 xq_i_0) ?_
        exact xa_zret d_X12_isAllowed_35 rfl (Or.inl rfl) rfl
      · refine xa_step (xa_iconst d_X12_isAllowed_30 xq_i_1) ?_
        refine xa_step (xa_goto d_X12_isAllowed_31) ?_
        exact xa_zret d_X12_isAllowed_35 rfl (Or.inr rfl) rfl
  · refine xa_step (xa_iload_n d_X12_isAllowed_7 rfl) ?_
    refine xa_step (xa_bipush d_X12_isAllowed_8 xq_b_7) ?_
    refine xa_if (xa_icmpge d_X12_isAllowed_10) (fun q5 => ?_) (fun q5 => ?_)
    · refine xa_step (xa_iconst d_X12_isAllowed_13 xq_i_1) ?_
      refine xa_step (xa_goto d_X12_isAllowed_14) ?_
      exact xa_zret d_X12_isAllowed_35 rfl (Or.inr rfl) rfl
    · refine xa_step (xa_iconst d_X12_isAllowed_17 xq_i_0) ?_
      refine xa_step (xa_goto d_X12_isAllowed_18) ?_
      exact xa_zret d_X12_isAllowed_35 rfl (Or.inl rfl) rfl
theorem ct_X12_isAllowed (l : Launch) (G : xa_C) (v0 v1 : Int) (h : xa_H) (r : Int) (hr : f_X12_isAllowed v0 v1 h = some r) : xa_CT l G 2 mX12_isAllowed yX12_isAllowed [xR v0, xI v1] h (some (xI r), h) :=
  xa_met (by decide +kernel) rfl (fun q => by first | rfl | cases q) (Nat.le_of_ble_eq_true rfl) rfl (g_X12_isAllowed l G v0 v1 h) (by rw [hr]; rfl)
abbrev mX12_qWordHere : xa_M := (cX12_qWordHere, 1, (some (.int)), RX12, false)
theorem d_X12_qWordHere_0 : decode mX12_qWordHere.1 0 = .ok (.aload_n 0, 1) ∧ 0 + 1 = 1 := ⟨by decide +kernel, rfl⟩
theorem d_X12_qWordHere_1 : decode mX12_qWordHere.1 1 = .ok (.aload_n 0, 1) ∧ 1 + 1 = 2 := ⟨by decide +kernel, rfl⟩
theorem d_X12_qWordHere_2 : decode mX12_qWordHere.1 2 = .ok (.getfield 210, 3) ∧ 2 + 3 = 5 := ⟨by decide +kernel, rfl⟩
theorem d_X12_qWordHere_5 : decode mX12_qWordHere.1 5 = .ok (.invokevirtual 272, 3) ∧ 5 + 3 = 8 := ⟨by decide +kernel, rfl⟩
theorem d_X12_qWordHere_8 : decode mX12_qWordHere.1 8 = .ok (.ifCond .eq 5, 3) ∧ 8 + 3 = 11 ∧ ((8 : Nat) : Int) + 5 = ((13 : Nat) : Int) := ⟨by decide +kernel, rfl, rfl⟩
theorem d_X12_qWordHere_13 : decode mX12_qWordHere.1 13 = .ok (.aload_n 0, 1) ∧ 13 + 1 = 14 := ⟨by decide +kernel, rfl⟩
theorem d_X12_qWordHere_14 : decode mX12_qWordHere.1 14 = .ok (.aload_n 0, 1) ∧ 14 + 1 = 15 := ⟨by decide +kernel, rfl⟩
theorem d_X12_qWordHere_15 : decode mX12_qWordHere.1 15 = .ok (.getfield 213, 3) ∧ 15 + 3 = 18 := ⟨by decide +kernel, rfl⟩
theorem d_X12_qWordHere_18 : decode mX12_qWordHere.1 18 = .ok (.invokevirtual 272, 3) ∧ 18 + 3 = 21 := ⟨by decide +kernel, rfl⟩
theorem d_X12_qWordHere_21 : decode mX12_qWordHere.1 21 = .ok (.ifCond .eq 5, 3) ∧ 21 + 3 = 24 ∧ ((21 : Nat) : Int) + 5 = ((26 : Nat) : Int) := ⟨by decide +kernel, rfl, rfl⟩
theorem d_X12_qWordHere_26 : decode mX12_qWordHere.1 26 = .ok (.aload_n 0, 1) ∧ 26 + 1 = 27 := ⟨by decide +kernel, rfl⟩
theorem d_X12_qWordHere_27 : decode mX12_qWordHere.1 27 = .ok (.aload_n 0, 1) ∧ 27 + 1 = 28 := ⟨by decide +kernel, rfl⟩
theorem d_X12_qWordHere_28 : decode mX12_qWordHere.1 28 = .ok (.getfield 216, 3) ∧ 28 + 3 = 31 := ⟨by decide +kernel, rfl⟩
theorem d_X12_qWordHere_31 : decode mX12_qWordHere.1 31 = .ok (.invokevirtual 272, 3) ∧ 31 + 3 = 34 := ⟨by decide +kernel, rfl⟩
theorem d_X12_qWordHere_34 : decode mX12_qWordHere.1 34 = .ok (.ifCond .eq 5, 3) ∧ 34 + 3 = 37 ∧ ((34 : Nat) : Int) + 5 = ((39 : Nat) : Int) := ⟨by decide +kernel, rfl, rfl⟩
theorem d_X12_qWordHere_39 : decode mX12_qWordHere.1 39 = .ok (.aload_n 0, 1) ∧ 39 + 1 = 40 := ⟨by decide +kernel, rfl⟩
theorem d_X12_qWordHere_40 : decode mX12_qWordHere.1 40 = .ok (.aload_n 0, 1) ∧ 40 + 1 = 41 := ⟨by decide +kernel, rfl⟩
theorem d_X12_qWordHere_41 : decode mX12_qWordHere.1 41 = .ok (.getfield 219, 3) ∧ 41 + 3 = 44 := ⟨by decide +kernel, rfl⟩
theorem d_X12_qWordHere_44 : decode mX12_qWordHere.1 44 = .ok (.invokevirtual 272, 3) ∧ 44 + 3 = 47 := ⟨by decide +kernel, rfl⟩
theorem d_X12_qWordHere_47 : decode mX12_qWordHere.1 47 = .ok (.ifCond .eq 5, 3) ∧ 47 + 3 = 50 ∧ ((47 : Nat) : Int) + 5 = ((52 : Nat) : Int) := ⟨by decide +kernel, rfl, rfl⟩
theorem d_X12_qWordHere_52 : decode mX12_qWordHere.1 52 = .ok (.aload_n 0, 1) ∧ 52 + 1 = 53 := ⟨by decide +kernel, rfl⟩
theorem d_X12_qWordHere_53 : decode mX12_qWordHere.1 53 = .ok (.aload_n 0, 1) ∧ 53 + 1 = 54 := ⟨by decide +kernel, rfl⟩
theorem d_X12_qWordHere_54 : decode mX12_qWordHere.1 54 = .ok (.getfield 222, 3) ∧ 54 + 3 = 57 := ⟨by decide +kernel, rfl⟩
theorem d_X12_qWordHere_57 : decode mX12_qWordHere.1 57 = .ok (.invokevirtual 272, 3) ∧ 57 + 3 = 60 := ⟨by decide +kernel, rfl⟩
theorem d_X12_qWordHere_60 : decode mX12_qWordHere.1 60 = .ok (.ifCond .eq 17, 3) ∧ 60 + 3 = 63 ∧ ((60 : Nat) : Int) + 17 = ((77 : Nat) : Int) := ⟨by decide +kernel, rfl, rfl⟩
theorem d_X12_qWordHere_77 : decode mX12_qWordHere.1 77 = .ok (.aload_n 0, 1) ∧ 77 + 1 = 78 := ⟨by decide +kernel, rfl⟩
theorem d_X12_qWordHere_78 : decode mX12_qWordHere.1 78 = .ok (.aload_n 0, 1) ∧ 78 + 1 = 79 := ⟨by decide +kernel, rfl⟩
theorem d_X12_qWordHere_79 : decode mX12_qWordHere.1 79 = .ok (.getfield 225, 3) ∧ 79 + 3 = 82 := ⟨by decide +kernel, rfl⟩
theorem d_X12_qWordHere_82 : decode mX12_qWordHere.1 82 = .ok (.invokevirtual 272, 3) ∧ 82 + 3 = 85 := ⟨by decide +kernel, rfl⟩
theorem d_X12_qWordHere_85 : decode mX12_qWordHere.1 85 = .ok (.ifCond .eq 5, 3) ∧ 85 + 3 = 88 ∧ ((85 : Nat) : Int) + 5 = ((90 : Nat) : Int) := ⟨by decide +kernel, rfl, rfl⟩
theorem d_X12_qWordHere_90 : decode mX12_qWordHere.1 90 = .ok (.aload_n 0, 1) ∧ 90 + 1 = 91 := ⟨by decide +kernel, rfl⟩
theorem d_X12_qWordHere_91 : decode mX12_qWordHere.1 91 = .ok (.aload_n 0, 1) ∧ 91 + 1 = 92 := ⟨by decide +kernel, rfl⟩
theorem d_X12_qWordHere_92 : decode mX12_qWordHere.1 92 = .ok (.getfield 228, 3) ∧ 92 + 3 = 95 := ⟨by decide +kernel, rfl⟩
theorem d_X12_qWordHere_95 : decode mX12_qWordHere.1 95 = .ok (.invokevirtual 272, 3) ∧ 95 + 3 = 98 := ⟨by decide +kernel, rfl⟩
theorem d_X12_qWordHere_98 : decode mX12_qWordHere.1 98 = .ok (.ifCond .eq 6, 3) ∧ 98 + 3 = 101 ∧ ((98 : Nat) : Int) + 6 = ((104 : Nat) : Int) := ⟨by decide +kernel, rfl, rfl⟩
theorem d_X12_qWordHere_104 : decode mX12_qWordHere.1 104 = .ok (.aload_n 0, 1) ∧ 104 + 1 = 105 := ⟨by decide +kernel, rfl⟩
theorem d_X12_qWordHere_105 : decode mX12_qWordHere.1 105 = .ok (.aload_n 0, 1) ∧ 105 + 1 = 106 := ⟨by decide +kernel, rfl⟩
theorem d_X12_qWordHere_106 : decode mX12_qWordHere.1 106 = .ok (.getfield 231, 3) ∧ 106 + 3 = 109 := ⟨by decide +kernel, rfl⟩
theorem d_X12_qWordHere_109 : decode mX12_qWordHere.1 109 = .ok (.invokevirtual 272, 3) ∧ 109 + 3 = 112 := ⟨by decide +kernel, rfl⟩
theorem d_X12_qWordHere_112 : decode mX12_qWordHere.1 112 = .ok (.ifCond .eq 6, 3) ∧ 112 + 3 = 115 ∧ ((112 : Nat) : Int) + 6 = ((118 : Nat) : Int) := ⟨by decide +kernel, rfl, rfl⟩
theorem d_X12_qWordHere_118 : decode mX12_qWordHere.1 118 = .ok (.iconst (-1), 1) ∧ 118 + 1 = 119 := ⟨by decide +kernel, rfl⟩
theorem d_X12_qWordHere_119 : decode mX12_qWordHere.1 119 = .ok (.ireturn, 1) := by decide +kernel
theorem d_X12_qWordHere_115 : decode mX12_qWordHere.1 115 = .ok (.bipush 7, 2) ∧ 115 + 2 = 117 := ⟨by decide +kernel, rfl⟩
theorem d_X12_qWordHere_117 : decode mX12_qWordHere.1 117 = .ok (.ireturn, 1) := by decide +kernel
theorem d_X12_qWordHere_101 : decode mX12_qWordHere.1 101 = .ok (.bipush 6, 2) ∧ 101 + 2 = 103 := ⟨by decide +kernel, rfl⟩
theorem d_X12_qWordHere_103 : decode mX12_qWordHere.1 103 = .ok (.ireturn, 1) := by decide +kernel
theorem d_X12_qWordHere_88 : decode mX12_qWordHere.1 88 = .ok (.iconst 5, 1) ∧ 88 + 1 = 89 := ⟨by decide +kernel, rfl⟩
theorem d_X12_qWordHere_89 : decode mX12_qWordHere.1 89 = .ok (.ireturn, 1) := by decide +kernel
theorem d_X12_qWordHere_63 : decode mX12_qWordHere.1 63 = .ok (.aload_n 0, 1) ∧ 63 + 1 = 64 := ⟨by decide +kernel, rfl⟩
theorem d_X12_qWordHere_64 : decode mX12_qWordHere.1 64 = .ok (.getfield 304, 3) ∧ 64 + 3 = 67 := ⟨by decide +kernel, rfl⟩
theorem d_X12_qWordHere_67 : decode mX12_qWordHere.1 67 = .ok (.ifCond .eq 7, 3) ∧ 67 + 3 = 70 ∧ ((67 : Nat) : Int) + 7 = ((74 : Nat) : Int) := ⟨by decide +kernel, rfl, rfl⟩
theorem d_X12_qWordHere_74 : decode mX12_qWordHere.1 74 = .ok (.bipush 8, 2) ∧ 74 + 2 = 76 := ⟨by decide +kernel, rfl⟩
theorem d_X12_qWordHere_76 : decode mX12_qWordHere.1 76 = .ok (.ireturn, 1) := by decide +kernel
theorem d_X12_qWordHere_70 : decode mX12_qWordHere.1 70 = .ok (.iconst 4, 1) ∧ 70 + 1 = 71 := ⟨by decide +kernel, rfl⟩
theorem d_X12_qWordHere_71 : decode mX12_qWordHere.1 71 = .ok (.goto 5, 3) ∧ ((71 : Nat) : Int) + 5 = ((76 : Nat) : Int) := ⟨by decide +kernel, rfl⟩
theorem d_X12_qWordHere_50 : decode mX12_qWordHere.1 50 = .ok (.iconst 3, 1) ∧ 50 + 1 = 51 := ⟨by decide +kernel, rfl⟩
theorem d_X12_qWordHere_51 : decode mX12_qWordHere.1 51 = .ok (.ireturn, 1) := by decide +kernel
theorem d_X12_qWordHere_37 : decode mX12_qWordHere.1 37 = .ok (.iconst 2, 1) ∧ 37 + 1 = 38 := ⟨by decide +kernel, rfl⟩
theorem d_X12_qWordHere_38 : decode mX12_qWordHere.1 38 = .ok (.ireturn, 1) := by decide +kernel
theorem d_X12_qWordHere_24 : decode mX12_qWordHere.1 24 = .ok (.iconst 1, 1) ∧ 24 + 1 = 25 := ⟨by decide +kernel, rfl⟩
theorem d_X12_qWordHere_25 : decode mX12_qWordHere.1 25 = .ok (.ireturn, 1) := by decide +kernel
theorem d_X12_qWordHere_11 : decode mX12_qWordHere.1 11 = .ok (.iconst 0, 1) ∧ 11 + 1 = 12 := ⟨by decide +kernel, rfl⟩
theorem d_X12_qWordHere_12 : decode mX12_qWordHere.1 12 = .ok (.ireturn, 1) := by decide +kernel
set_option maxRecDepth 100000 in
set_option maxHeartbeats 4000000 in
theorem g_X12_qWordHere (l : Launch) (G : xa_C) (v0 : Int) (h : xa_H) : xa_G l G 4 mX12_qWordHere (f_X12_qWordHere v0 h) (fun r => some (some (xI r.1), r.2) : (Int × xa_H) → Option xa_O) 0 [some (xR v0)] [] h := by
  unfold f_X12_qWordHere
  refine xa_step (xa_aload_n d_X12_qWordHere_0 rfl) ?_
  refine xa_step (xa_aload_n d_X12_qWordHere_1 rfl) ?_
  refine xa_getf xR xc_12 (by decide) (fun _ => rfl) xw_1393 rfl d_X12_qWordHere_2 (fun x1 _ => ?_)
  refine xa_callVI (as := [xR x1]) (st := []) (M' := mX12_isHere) (d' := 3) rfl xw_1662 xw_1664 xw_70 xw_1665 xw_177 xh_X12_isHere rfl ⟨Nat.le_of_ble_eq_true rfl, Nat.le_of_ble_eq_true rfl⟩ (Nat.le_of_ble_eq_true rfl) rfl d_X12_qWordHere_5 (fun r hr => ct_X12_isHere l G v0 x1 h r hr) (fun r2 _ => ?_)
  refine xa_if (xa_ifeq d_X12_qWordHere_8) (fun q3 => ?_) (fun q3 => ?_)
  · refine xa_step (xa_aload_n d_X12_qWordHere_13 rfl) ?_
    refine xa_step (xa_aload_n d_X12_qWordHere_14 rfl) ?_
    refine xa_getf xR xc_12 (by decide) (fun _ => rfl) xw_1394 rfl d_X12_qWordHere_15 (fun x4 _ => ?_)
    refine xa_callVI (as := [xR x4]) (st := []) (M' := mX12_isHere) (d' := 3) rfl xw_1662 xw_1664 xw_70 xw_1665 xw_177 xh_X12_isHere rfl ⟨Nat.le_of_ble_eq_true rfl, Nat.le_of_ble_eq_true rfl⟩ (Nat.le_of_ble_eq_true rfl) rfl d_X12_qWordHere_18 (fun r hr => ct_X12_isHere l G v0 x4 r2.2 r hr) (fun r5 _ => ?_)
    refine xa_if (xa_ifeq d_X12_qWordHere_21) (fun q6 => ?_) (fun q6 => ?_)
    · refine xa_step (xa_aload_n d_X12_qWordHere_26 rfl) ?_
      refine xa_step (xa_aload_n d_X12_qWordHere_27 rfl) ?_
      refine xa_getf xR xc_12 (by decide) (fun _ => rfl) xw_1395 rfl d_X12_qWordHere_28 (fun x7 _ => ?_)
      refine xa_callVI (as := [xR x7]) (st := []) (M' := mX12_isHere) (d' := 3) rfl xw_1662 xw_1664 xw_70 xw_1665 xw_177 xh_X12_isHere rfl ⟨Nat.le_of_ble_eq_true rfl, Nat.le_of_ble_eq_true rfl⟩ (Nat.le_of_ble_eq_true rfl) rfl d_X12_qWordHere_31 (fun r hr => ct_X12_isHere l G v0 x7 r5.2 r hr) (fun r8 _ => ?_)
      refine xa_if (xa_ifeq d_X12_qWordHere_34) (fun q9 => ?_) (fun q9 => ?_)
      · refine xa_step (xa_aload_n d_X12_qWordHere_39 rfl) ?_
        refine xa_step (xa_aload_n d_X12_qWordHere_40 rfl) ?_
        refine xa_getf xR xc_12 (by decide) (fun _ => rfl) xw_1396 rfl d_X12_qWordHere_41 (fun x10 _ => ?_)
        refine xa_callVI (as := [xR x10]) (st := []) (M' := mX12_isHere) (d' := 3) rfl xw_1662 xw_1664 xw_70 xw_1665 xw_177 xh_X12_isHere rfl ⟨Nat.le_of_ble_eq_true rfl, Nat.le_of_ble_eq_true rfl⟩ (Nat.le_of_ble_eq_true rfl) rfl d_X12_qWordHere_44 (fun r hr => ct_X12_isHere l G v0 x10 r8.2 r hr) (fun r11 _ => ?_)
        refine xa_if (xa_ifeq d_X12_qWordHere_47) (fun q12 => ?_) (fun q12 => ?_)
        · refine xa_step (xa_aload_n d_X12_qWordHere_52 rfl) ?_
          refine xa_step (xa_aload_n d_X12_qWordHere_53 rfl) ?_
          refine xa_getf xR xc_12 (by decide) (fun _ => rfl) xw_1397 rfl d_X12_qWordHere_54 (fun x13 _ => ?_)
          refine xa_callVI (as := [xR x13]) (st := []) (M' := mX12_isHere) (d' := 3) rfl xw_1662 xw_1664 xw_70 xw_1665 xw_177 xh_X12_isHere rfl ⟨Nat.le_of_ble_eq_true rfl, Nat.le_of_ble_eq_true rfl⟩ (Nat.le_of_ble_eq_true rfl) rfl d_X12_qWordHere_57 (fun r hr => ct_X12_isHere l G v0 x13 r11.2 r hr) (fun r14 _ => ?_)
          refine xa_if (xa_ifeq d_X12_qWordHere_60) (fun q15 => ?_) (fun q15 => ?_)
          · refine xa_step (xa_aload_n d_X12_qWordHere_77 rfl) ?_
            refine xa_step (xa_aload_n d_X12_qWordHere_78 rfl) ?_
            refine xa_getf xR xc_12 (by decide) (fun _ => rfl) xw_1398 rfl d_X12_qWordHere_79 (fun x16 _ => ?_)
            refine xa_callVI (as := [xR x16]) (st := []) (M' := mX12_isHere) (d' := 3) rfl xw_1662 xw_1664 xw_70 xw_1665 xw_177 xh_X12_isHere rfl ⟨Nat.le_of_ble_eq_true rfl, Nat.le_of_ble_eq_true rfl⟩ (Nat.le_of_ble_eq_true rfl) rfl d_X12_qWordHere_82 (fun r hr => ct_X12_isHere l G v0 x16 r14.2 r hr) (fun r17 _ => ?_)
            refine xa_if (xa_ifeq d_X12_qWordHere_85) (fun q18 => ?_) (fun q18 => ?_)
            · refine xa_step (xa_aload_n d_X12_qWordHere_90 rfl) ?_
              refine xa_step (xa_aload_n d_X12_qWordHere_91 rfl) ?_
              refine xa_getf xR xc_12 (by decide) (fun _ => rfl) xw_1399 rfl d_X12_qWordHere_92 (fun x19 _ => ?_)
              refine xa_callVI (as := [xR x19]) (st := []) (M' := mX12_isHere) (d' := 3) rfl xw_1662 xw_1664 xw_70 xw_1665 xw_177 xh_X12_isHere rfl ⟨Nat.le_of_ble_eq_true rfl, Nat.le_of_ble_eq_true rfl⟩ (Nat.le_of_ble_eq_true rfl) rfl d_X12_qWordHere_95 (fun r hr => ct_X12_isHere l G v0 x19 r17.2 r hr) (fun r20 _ => ?_)
              refine xa_if (xa_ifeq d_X12_qWordHere_98) (fun q21 => ?_) (fun q21 => ?_)
              · refine xa_step (xa_aload_n d_X12_qWordHere_104 rfl) ?_
                refine xa_step (xa_aload_n d_X12_qWordHere_105 rfl) ?_
                refine xa_getf xR xc_12 (by decide) (fun _ => rfl) xw_1400 rfl d_X12_qWordHere_106 (fun x22 _ => ?_)
                refine xa_callVI (as := [xR x22]) (st := []) (M' := mX12_isHere) (d' := 3) rfl xw_1662 xw_1664 xw_70 xw_1665 xw_177 xh_X12_isHere rfl ⟨Nat.le_of_ble_eq_true rfl, Nat.le_of_ble_eq_true rfl⟩ (Nat.le_of_ble_eq_true rfl) rfl d_X12_qWordHere_109 (fun r hr => ct_X12_isHere l G v0 x22 r20.2 r hr) (fun r23 _ => ?_)
                refine xa_if (xa_ifeq d_X12_qWordHere_112) (fun q24 => ?_) (fun q24 => ?_)
                · refine xa_step (xa_iconst d_X12_qWordHere_118 xq_i_m1) ?_
                  exact xa_iret d_X12_qWordHere_119 rfl rfl
                · refine xa_step (xa_bipush d_X12_qWordHere_115 xq_b_7) ?_
                  exact xa_iret d_X12_qWordHere_117 rfl rfl
              · refine xa_step (xa_bipush d_X12_qWordHere_101 xq_b_6) ?_
                exact xa_iret d_X12_qWordHere_103 rfl rfl
            · refine xa_step (xa_iconst d_X12_qWordHere_88 xq_i_5) ?_
              exact xa_iret d_X12_qWordHere_89 rfl rfl
          · refine xa_step (xa_aload_n d_X12_qWordHere_63 rfl) ?_
            refine xa_getf xI xc_12 (by decide) (fun _ => rfl) xw_1353 rfl d_X12_qWordHere_64 (fun x25 _ => ?_)
            refine xa_if (xa_ifeq d_X12_qWordHere_67) (fun q26 => ?_) (fun q26 => ?_)
            · refine xa_step (xa_bipush d_X12_qWordHere_74 xq_b_8) ?_
              exact xa_iret d_X12_qWordHere_76 rfl rfl
            · refine xa_step (xa_iconst d_X12_qWordHere_70 xq_i_4) ?_
              refine xa_step (xa_goto d_X12_qWordHere_71) ?_
              exact xa_iret d_X12_qWordHere_76 rfl rfl
        · refine xa_step (xa_iconst d_X12_qWordHere_50 xq_i_3) ?_
          exact xa_iret d_X12_qWordHere_51 rfl rfl
      · refine xa_step (xa_iconst d_X12_qWordHere_37 xq_i_2) ?_
        exact xa_iret d_X12_qWordHere_38 rfl rfl
    · refine xa_step (xa_iconst d_X12_qWordHere_24 xq_i_1) ?_
      exact xa_iret d_X12_qWordHere_25 rfl rfl
  · refine xa_step (xa_iconst d_X12_qWordHere_11 xq_i_0) ?_
    exact xa_iret d_X12_qWordHere_12 rfl rfl
theorem ct_X12_qWordHere (l : Launch) (G : xa_C) (v0 : Int) (h : xa_H) (r : Int × xa_H) (hr : f_X12_qWordHere v0 h = some r) : xa_CT l G 4 mX12_qWordHere yX12_qWordHere [xR v0] h (some (xI r.1), r.2) :=
  xa_met (by decide +kernel) rfl (fun q => by first | rfl | cases q) (Nat.le_of_ble_eq_true rfl) rfl (g_X12_qWordHere l G v0 h) (by rw [hr]; rfl)
abbrev mX12_qWordOf : xa_M := (cX12_qWordOf, 4, (some (.int)), RX12, false)
theorem d_X12_qWordOf_0 : decode mX12_qWordOf.1 0 = .ok (.aload_n 0, 1) ∧ 0 + 1 = 1 := ⟨by decide +kernel, rfl⟩
theorem d_X12_qWordOf_1 : decode mX12_qWordOf.1 1 = .ok (.invokevirtual 603, 3) ∧ 1 + 3 = 4 := ⟨by decide +kernel, rfl⟩
theorem d_X12_qWordOf_4 : decode mX12_qWordOf.1 4 = .ok (.istore_n 3, 1) ∧ 4 + 1 = 5 := ⟨by decide +kernel, rfl⟩
theorem d_X12_qWordOf_5 : decode mX12_qWordOf.1 5 = .ok (.iload_n 3, 1) ∧ 5 + 1 = 6 := ⟨by decide +kernel, rfl⟩
theorem d_X12_qWordOf_6 : decode mX12_qWordOf.1 6 = .ok (.iload_n 1, 1) ∧ 6 + 1 = 7 := ⟨by decide +kernel, rfl⟩
theorem d_X12_qWordOf_7 : decode mX12_qWordOf.1 7 = .ok (.if_icmp .lt 20, 3) ∧ 7 + 3 = 10 ∧ ((7 : Nat) : Int) + 20 = ((27 : Nat) : Int) := ⟨by decide +kernel, rfl, rfl⟩
theorem d_X12_qWordOf_27 : decode mX12_qWordOf.1 27 = .ok (.iconst (-1), 1) ∧ 27 + 1 = 28 := ⟨by decide +kernel, rfl⟩
theorem d_X12_qWordOf_28 : decode mX12_qWordOf.1 28 = .ok (.ireturn, 1) := by decide +kernel
theorem d_X12_qWordOf_10 : decode mX12_qWordOf.1 10 = .ok (.iload_n 3, 1) ∧ 10 + 1 = 11 := ⟨by decide +kernel, rfl⟩
theorem d_X12_qWordOf_11 : decode mX12_qWordOf.1 11 = .ok (.iload_n 2, 1) ∧ 11 + 1 = 12 := ⟨by decide +kernel, rfl⟩
theorem d_X12_qWordOf_12 : decode mX12_qWordOf.1 12 = .ok (.if_icmp .ge 15, 3) ∧ 12 + 3 = 15 ∧ ((12 : Nat) : Int) + 15 = ((27 : Nat) : Int) := ⟨by decide +kernel, rfl, rfl⟩
theorem d_X12_qWordOf_15 : decode mX12_qWordOf.1 15 = .ok (.aload_n 0, 1) ∧ 15 + 1 = 16 := ⟨by decide +kernel, rfl⟩
theorem d_X12_qWordOf_16 : decode mX12_qWordOf.1 16 = .ok (.iload_n 3, 1) ∧ 16 + 1 = 17 := ⟨by decide +kernel, rfl⟩
theorem d_X12_qWordOf_17 : decode mX12_qWordOf.1 17 = .ok (.invokevirtual 606, 3) ∧ 17 + 3 = 20 := ⟨by decide +kernel, rfl⟩
theorem d_X12_qWordOf_20 : decode mX12_qWordOf.1 20 = .ok (.ifCond .eq 7, 3) ∧ 20 + 3 = 23 ∧ ((20 : Nat) : Int) + 7 = ((27 : Nat) : Int) := ⟨by decide +kernel, rfl, rfl⟩
theorem d_X12_qWordOf_23 : decode mX12_qWordOf.1 23 = .ok (.iload_n 3, 1) ∧ 23 + 1 = 24 := ⟨by decide +kernel, rfl⟩
theorem d_X12_qWordOf_24 : decode mX12_qWordOf.1 24 = .ok (.goto 4, 3) ∧ ((24 : Nat) : Int) + 4 = ((28 : Nat) : Int) := ⟨by decide +kernel, rfl⟩
set_option maxRecDepth 100000 in
set_option maxHeartbeats 4000000 in
theorem g_X12_qWordOf (l : Launch) (G : xa_C) (v0 v1 v2 : Int) (h : xa_H) : xa_G l G 5 mX12_qWordOf (f_X12_qWordOf v0 v1 v2 h) (fun r => some (some (xI r.1), r.2) : (Int × xa_H) → Option xa_O) 0 [some (xR v0), some (xI v1), some (xI v2), none] [] h := by
  unfold f_X12_qWordOf
  refine xa_step (xa_aload_n d_X12_qWordOf_0 rfl) ?_
  refine xa_callVI (as := []) (st := []) (M' := mX12_qWordHere) (d' := 4) rfl xw_1761 xw_1763 xw_92 xw_1764 xw_177 xh_X12_qWordHere rfl ⟨Nat.le_of_ble_eq_true rfl, Nat.le_of_ble_eq_true rfl⟩ (Nat.le_of_ble_eq_true rfl) rfl d_X12_qWordOf_1 (fun r hr => ct_X12_qWordHere l G v0 h r hr) (fun r1 _ => ?_)
  refine xa_step (xa_istore_n (ls' := [some (xR v0), some (xI v1), some (xI v2), some (xI r1.1)]) d_X12_qWordOf_4 (by decide) rfl) ?_
  refine xa_step (xa_iload_n d_X12_qWordOf_5 rfl) ?_
  refine xa_step (xa_iload_n d_X12_qWordOf_6 rfl) ?_
  refine xa_if (xa_icmplt d_X12_qWordOf_7) (fun q2 => ?_) (fun q2 => ?_)
  · refine xa_step (xa_iconst d_X12_qWordOf_27 xq_i_m1) ?_
    exact xa_iret d_X12_qWordOf_28 rfl rfl
  · refine xa_step (xa_iload_n d_X12_qWordOf_10 rfl) ?_
    refine xa_step (xa_iload_n d_X12_qWordOf_11 rfl) ?_
    refine xa_if (xa_icmpge d_X12_qWordOf_12) (fun q3 => ?_) (fun q3 => ?_)
    · refine xa_step (xa_aload_n d_X12_qWordOf_15 rfl) ?_
      refine xa_step (xa_iload_n d_X12_qWordOf_16 rfl) ?_
      refine xa_callVi (as := [xI r1.1]) (st := []) (M' := mX12_isAllowed) (d' := 2) rfl xw_1765 xw_1767 xw_93 xw_1768 xw_177 xh_X12_isAllowed rfl ⟨Nat.le_of_ble_eq_true rfl, Nat.le_of_ble_eq_true rfl⟩ (Nat.le_of_ble_eq_true rfl) rfl d_X12_qWordOf_17 (fun r hr => ct_X12_isAllowed l G v0 r1.1 r1.2 r hr) (fun r4 _ => ?_)
      refine xa_if (xa_ifeq d_X12_qWordOf_20) (fun q5 => ?_) (fun q5 => ?_)
      · refine xa_step (xa_iconst d_X12_qWordOf_27 xq_i_m1) ?_
        exact xa_iret d_X12_qWordOf_28 rfl rfl
      · refine xa_step (xa_iload_n d_X12_qWordOf_23 rfl) ?_
        refine xa_step (xa_goto d_X12_qWordOf_24) ?_
        exact xa_iret d_X12_qWordOf_28 rfl rfl
    · refine xa_step (xa_iconst d_X12_qWordOf_27 xq_i_m1) ?_
      exact xa_iret d_X12_qWordOf_28 rfl rfl
theorem ct_X12_qWordOf (l : Launch) (G : xa_C) (v0 v1 v2 : Int) (h : xa_H) (r : Int × xa_H) (hr : f_X12_qWordOf v0 v1 v2 h = some r) : xa_CT l G 5 mX12_qWordOf yX12_qWordOf [xR v0, xI v1, xI v2] h (some (xI r.1), r.2) :=
  xa_met (by decide +kernel) rfl (fun q => by first | rfl | cases q) (Nat.le_of_ble_eq_true rfl) rfl (g_X12_qWordOf l G v0 v1 v2 h) (by rw [hr]; rfl)
abbrev mX12_qPartTold : xa_M := (cX12_qPartTold, 6, none, RX12, false)
theorem d_X12_qPartTold_0 : decode mX12_qPartTold.1 0 = .ok (.iconst 1, 1) ∧ 0 + 1 = 1 := ⟨by decide +kernel, rfl⟩
theorem d_X12_qPartTold_1 : decode mX12_qPartTold.1 1 = .ok (.istore_n 1, 1) ∧ 1 + 1 = 2 := ⟨by decide +kernel, rfl⟩
theorem d_X12_qPartTold_2 : decode mX12_qPartTold.1 2 = .ok (.iload_n 1, 1) ∧ 2 + 1 = 3 := ⟨by decide +kernel, rfl⟩
theorem d_X12_qPartTold_3 : decode mX12_qPartTold.1 3 = .ok (.ifCond .eq 183, 3) ∧ 3 + 3 = 6 ∧ ((3 : Nat) : Int) + 183 = ((186 : Nat) : Int) := ⟨by decide +kernel, rfl, rfl⟩
theorem d_X12_qPartTold_6 : decode mX12_qPartTold.1 6 = .ok (.aload_n 0, 1) ∧ 6 + 1 = 7 := ⟨by decide +kernel, rfl⟩
theorem d_X12_qPartTold_7 : decode mX12_qPartTold.1 7 = .ok (.getfield 249, 3) ∧ 7 + 3 = 10 := ⟨by decide +kernel, rfl⟩
theorem d_X12_qPartTold_10 : decode mX12_qPartTold.1 10 = .ok (.ifCond .ne 176, 3) ∧ 10 + 3 = 13 ∧ ((10 : Nat) : Int) + 176 = ((186 : Nat) : Int) := ⟨by decide +kernel, rfl, rfl⟩
theorem d_X12_qPartTold_13 : decode mX12_qPartTold.1 13 = .ok (.aload_n 0, 1) ∧ 13 + 1 = 14 := ⟨by decide +kernel, rfl⟩
theorem d_X12_qPartTold_14 : decode mX12_qPartTold.1 14 = .ok (.invokevirtual 261, 3) ∧ 14 + 3 = 17 := ⟨by decide +kernel, rfl⟩
theorem d_X12_qPartTold_17 : decode mX12_qPartTold.1 17 = .ok (.istore_n 2, 1) ∧ 17 + 1 = 18 := ⟨by decide +kernel, rfl⟩
theorem d_X12_qPartTold_18 : decode mX12_qPartTold.1 18 = .ok (.aload_n 0, 1) ∧ 18 + 1 = 19 := ⟨by decide +kernel, rfl⟩
theorem d_X12_qPartTold_19 : decode mX12_qPartTold.1 19 = .ok (.bipush 8, 2) ∧ 19 + 2 = 21 := ⟨by decide +kernel, rfl⟩
theorem d_X12_qPartTold_21 : decode mX12_qPartTold.1 21 = .ok (.bipush 9, 2) ∧ 21 + 2 = 23 := ⟨by decide +kernel, rfl⟩
theorem d_X12_qPartTold_23 : decode mX12_qPartTold.1 23 = .ok (.invokevirtual 609, 3) ∧ 23 + 3 = 26 := ⟨by decide +kernel, rfl⟩
theorem d_X12_qPartTold_26 : decode mX12_qPartTold.1 26 = .ok (.istore_n 3, 1) ∧ 26 + 1 = 27 := ⟨by decide +kernel, rfl⟩
theorem d_X12_qPartTold_27 : decode mX12_qPartTold.1 27 = .ok (.iload_n 2, 1) ∧ 27 + 1 = 28 := ⟨by decide +kernel, rfl⟩
theorem d_X12_qPartTold_28 : decode mX12_qPartTold.1 28 = .ok (.bipush 40, 2) ∧ 28 + 2 = 30 := ⟨by decide +kernel, rfl⟩
theorem d_X12_qPartTold_30 : decode mX12_qPartTold.1 30 = .ok (.if_icmp .ne 26, 3) ∧ 30 + 3 = 33 ∧ ((30 : Nat) : Int) + 26 = ((56 : Nat) : Int) := ⟨by decide +kernel, rfl, rfl⟩
theorem d_X12_qPartTold_33 : decode mX12_qPartTold.1 33 = .ok (.aload_n 0, 1) ∧ 33 + 1 = 34 := ⟨by decide +kernel, rfl⟩
theorem d_X12_qPartTold_34 : decode mX12_qPartTold.1 34 = .ok (.bipush 20, 2) ∧ 34 + 2 = 36 := ⟨by decide +kernel, rfl⟩
theorem d_X12_qPartTold_36 : decode mX12_qPartTold.1 36 = .ok (.aload_n 0, 1) ∧ 36 + 1 = 37 := ⟨by decide +kernel, rfl⟩
theorem d_X12_qPartTold_37 : decode mX12_qPartTold.1 37 = .ok (.getfield 255, 3) ∧ 37 + 3 = 40 := ⟨by decide +kernel, rfl⟩
theorem d_X12_qPartTold_40 : decode mX12_qPartTold.1 40 = .ok (.invokevirtual 612, 3) ∧ 40 + 3 = 43 := ⟨by decide +kernel, rfl⟩
theorem d_X12_qPartTold_43 : decode mX12_qPartTold.1 43 = .ok (.aload_n 0, 1) ∧ 43 + 1 = 44 := ⟨by decide +kernel, rfl⟩
theorem d_X12_qPartTold_44 : decode mX12_qPartTold.1 44 = .ok (.dup, 1) ∧ 44 + 1 = 45 := ⟨by decide +kernel, rfl⟩
theorem d_X12_qPartTold_45 : decode mX12_qPartTold.1 45 = .ok (.getfield 255, 3) ∧ 45 + 3 = 48 := ⟨by decide +kernel, rfl⟩
theorem d_X12_qPartTold_48 : decode mX12_qPartTold.1 48 = .ok (.iconst 1, 1) ∧ 48 + 1 = 49 := ⟨by decide +kernel, rfl⟩
theorem d_X12_qPartTold_49 : decode mX12_qPartTold.1 49 = .ok (.iadd, 1) ∧ 49 + 1 = 50 := ⟨by decide +kernel, rfl⟩
theorem d_X12_qPartTold_50 : decode mX12_qPartTold.1 50 = .ok (.putfield 255, 3) ∧ 50 + 3 = 53 := ⟨by decide +kernel, rfl⟩
theorem d_X12_qPartTold_53 : decode mX12_qPartTold.1 53 = .ok (.goto 130, 3) ∧ ((53 : Nat) : Int) + 130 = ((183 : Nat) : Int) := ⟨by decide +kernel, rfl⟩
theorem d_X12_qPartTold_183 : decode mX12_qPartTold.1 183 = .ok (.goto (-181), 3) ∧ ((183 : Nat) : Int) + (-181) = ((2 : Nat) : Int) := ⟨by decide +kernel, rfl⟩
theorem d_X12_qPartTold_56 : decode mX12_qPartTold.1 56 = .ok (.aload_n 0, 1) ∧ 56 + 1 = 57 := ⟨by decide +kernel, rfl⟩
theorem d_X12_qPartTold_57 : decode mX12_qPartTold.1 57 = .ok (.aload_n 0, 1) ∧ 57 + 1 = 58 := ⟨by decide +kernel, rfl⟩
theorem d_X12_qPartTold_58 : decode mX12_qPartTold.1 58 = .ok (.getfield 204, 3) ∧ 58 + 3 = 61 := ⟨by decide +kernel, rfl⟩
theorem d_X12_qPartTold_61 : decode mX12_qPartTold.1 61 = .ok (.invokevirtual 272, 3) ∧ 61 + 3 = 64 := ⟨by decide +kernel, rfl⟩
theorem d_X12_qPartTold_64 : decode mX12_qPartTold.1 64 = .ok (.ifCond .ne 14, 3) ∧ 64 + 3 = 67 ∧ ((64 : Nat) : Int) + 14 = ((78 : Nat) : Int) := ⟨by decide +kernel, rfl, rfl⟩
theorem d_X12_qPartTold_67 : decode mX12_qPartTold.1 67 = .ok (.aload_n 0, 1) ∧ 67 + 1 = 68 := ⟨by decide +kernel, rfl⟩
theorem d_X12_qPartTold_68 : decode mX12_qPartTold.1 68 = .ok (.aload_n 0, 1) ∧ 68 + 1 = 69 := ⟨by decide +kernel, rfl⟩
theorem d_X12_qPartTold_69 : decode mX12_qPartTold.1 69 = .ok (.getfield 207, 3) ∧ 69 + 3 = 72 := ⟨by decide +kernel, rfl⟩
theorem d_X12_qPartTold_72 : decode mX12_qPartTold.1 72 = .ok (.invokevirtual 272, 3) ∧ 72 + 3 = 75 := ⟨by decide +kernel, rfl⟩
theorem d_X12_qPartTold_75 : decode mX12_qPartTold.1 75 = .ok (.ifCond .eq 78, 3) ∧ 75 + 3 = 78 ∧ ((75 : Nat) : Int) + 78 = ((153 : Nat) : Int) := ⟨by decide +kernel, rfl, rfl⟩
theorem d_X12_qPartTold_153 : decode mX12_qPartTold.1 153 = .ok (.iload_n 3, 1) ∧ 153 + 1 = 154 := ⟨by decide +kernel, rfl⟩
theorem d_X12_qPartTold_154 : decode mX12_qPartTold.1 154 = .ok (.iconst (-1), 1) ∧ 154 + 1 = 155 := ⟨by decide +kernel, rfl⟩
theorem d_X12_qPartTold_155 : decode mX12_qPartTold.1 155 = .ok (.if_icmp .eq 26, 3) ∧ 155 + 3 = 158 ∧ ((155 : Nat) : Int) + 26 = ((181 : Nat) : Int) := ⟨by decide +kernel, rfl, rfl⟩
theorem d_X12_qPartTold_181 : decode mX12_qPartTold.1 181 = .ok (.iconst 0, 1) ∧ 181 + 1 = 182 := ⟨by decide +kernel, rfl⟩
theorem d_X12_qPartTold_182 : decode mX12_qPartTold.1 182 = .ok (.istore_n 1, 1) ∧ 182 + 1 = 183 := ⟨by decide +kernel, rfl⟩
theorem d_X12_qPartTold_158 : decode mX12_qPartTold.1 158 = .ok (.aload_n 0, 1) ∧ 158 + 1 = 159 := ⟨by decide +kernel, rfl⟩
theorem d_X12_qPartTold_159 : decode mX12_qPartTold.1 159 = .ok (.bipush 60, 2) ∧ 159 + 2 = 161 := ⟨by decide +kernel, rfl⟩
theorem d_X12_qPartTold_161 : decode mX12_qPartTold.1 161 = .ok (.iload_n 3, 1) ∧ 161 + 1 = 162 := ⟨by decide +kernel, rfl⟩
theorem d_X12_qPartTold_162 : decode mX12_qPartTold.1 162 = .ok (.iadd, 1) ∧ 162 + 1 = 163 := ⟨by decide +kernel, rfl⟩
theorem d_X12_qPartTold_163 : decode mX12_qPartTold.1 163 = .ok (.bipush 8, 2) ∧ 163 + 2 = 165 := ⟨by decide +kernel, rfl⟩
theorem d_X12_qPartTold_165 : decode mX12_qPartTold.1 165 = .ok (.isub, 1) ∧ 165 + 1 = 166 := ⟨by decide +kernel, rfl⟩
theorem d_X12_qPartTold_166 : decode mX12_qPartTold.1 166 = .ok (.aload_n 0, 1) ∧ 166 + 1 = 167 := ⟨by decide +kernel, rfl⟩
theorem d_X12_qPartTold_167 : decode mX12_qPartTold.1 167 = .ok (.getfield 255, 3) ∧ 167 + 3 = 170 := ⟨by decide +kernel, rfl⟩
theorem d_X12_qPartTold_170 : decode mX12_qPartTold.1 170 = .ok (.invokevirtual 612, 3) ∧ 170 + 3 = 173 := ⟨by decide +kernel, rfl⟩
theorem d_X12_qPartTold_173 : decode mX12_qPartTold.1 173 = .ok (.aload_n 0, 1) ∧ 173 + 1 = 174 := ⟨by decide +kernel, rfl⟩
theorem d_X12_qPartTold_174 : decode mX12_qPartTold.1 174 = .ok (.iload_n 3, 1) ∧ 174 + 1 = 175 := ⟨by decide +kernel, rfl⟩
theorem d_X12_qPartTold_175 : decode mX12_qPartTold.1 175 = .ok (.invokevirtual 615, 3) ∧ 175 + 3 = 178 := ⟨by decide +kernel, rfl⟩
theorem d_X12_qPartTold_178 : decode mX12_qPartTold.1 178 = .ok (.goto 5, 3) ∧ ((178 : Nat) : Int) + 5 = ((183 : Nat) : Int) := ⟨by decide +kernel, rfl⟩
theorem d_X12_qPartTold_78 : decode mX12_qPartTold.1 78 = .ok (.aload_n 0, 1) ∧ 78 + 1 = 79 := ⟨by decide +kernel, rfl⟩
theorem d_X12_qPartTold_79 : decode mX12_qPartTold.1 79 = .ok (.aload_n 0, 1) ∧ 79 + 1 = 80 := ⟨by decide +kernel, rfl⟩
theorem d_X12_qPartTold_80 : decode mX12_qPartTold.1 80 = .ok (.getfield 204, 3) ∧ 80 + 3 = 83 := ⟨by decide +kernel, rfl⟩
theorem d_X12_qPartTold_83 : decode mX12_qPartTold.1 83 = .ok (.invokevirtual 276, 3) ∧ 83 + 3 = 86 := ⟨by decide +kernel, rfl⟩
theorem d_X12_qPartTold_86 : decode mX12_qPartTold.1 86 = .ok (.istore 4, 2) ∧ 86 + 2 = 88 := ⟨by decide +kernel, rfl⟩
theorem d_X12_qPartTold_88 : decode mX12_qPartTold.1 88 = .ok (.iload 4, 2) ∧ 88 + 2 = 90 := ⟨by decide +kernel, rfl⟩
theorem d_X12_qPartTold_90 : decode mX12_qPartTold.1 90 = .ok (.ifCond .ne 11, 3) ∧ 90 + 3 = 93 ∧ ((90 : Nat) : Int) + 11 = ((101 : Nat) : Int) := ⟨by decide +kernel, rfl, rfl⟩
theorem d_X12_qPartTold_93 : decode mX12_qPartTold.1 93 = .ok (.aload_n 0, 1) ∧ 93 + 1 = 94 := ⟨by decide +kernel, rfl⟩
theorem d_X12_qPartTold_94 : decode mX12_qPartTold.1 94 = .ok (.aload_n 0, 1) ∧ 94 + 1 = 95 := ⟨by decide +kernel, rfl⟩
theorem d_X12_qPartTold_95 : decode mX12_qPartTold.1 95 = .ok (.getfield 207, 3) ∧ 95 + 3 = 98 := ⟨by decide +kernel, rfl⟩
theorem d_X12_qPartTold_98 : decode mX12_qPartTold.1 98 = .ok (.invokevirtual 323, 3) ∧ 98 + 3 = 101 := ⟨by decide +kernel, rfl⟩
theorem d_X12_qPartTold_101 : decode mX12_qPartTold.1 101 = .ok (.aload_n 0, 1) ∧ 101 + 1 = 102 := ⟨by decide +kernel, rfl⟩
theorem d_X12_qPartTold_102 : decode mX12_qPartTold.1 102 = .ok (.invokevirtual 261, 3) ∧ 102 + 3 = 105 := ⟨by decide +kernel, rfl⟩
theorem d_X12_qPartTold_105 : decode mX12_qPartTold.1 105 = .ok (.bipush 40, 2) ∧ 105 + 2 = 107 := ⟨by decide +kernel, rfl⟩
theorem d_X12_qPartTold_107 : decode mX12_qPartTold.1 107 = .ok (.if_icmp .ne 10, 3) ∧ 107 + 3 = 110 ∧ ((107 : Nat) : Int) + 10 = ((117 : Nat) : Int) := ⟨by decide +kernel, rfl, rfl⟩
theorem d_X12_qPartTold_110 : decode mX12_qPartTold.1 110 = .ok (.aload_n 0, 1) ∧ 110 + 1 = 111 := ⟨by decide +kernel, rfl⟩
theorem d_X12_qPartTold_111 : decode mX12_qPartTold.1 111 = .ok (.getfield 255, 3) ∧ 111 + 3 = 114 := ⟨by decide +kernel, rfl⟩
theorem d_X12_qPartTold_114 : decode mX12_qPartTold.1 114 = .ok (.goto 4, 3) ∧ ((114 : Nat) : Int) + 4 = ((118 : Nat) : Int) := ⟨by decide +kernel, rfl⟩
theorem d_X12_qPartTold_118 : decode mX12_qPartTold.1 118 = .ok (.istore 5, 2) ∧ 118 + 2 = 120 := ⟨by decide +kernel, rfl⟩
theorem d_X12_qPartTold_120 : decode mX12_qPartTold.1 120 = .ok (.iload 5, 2) ∧ 120 + 2 = 122 := ⟨by decide +kernel, rfl⟩
theorem d_X12_qPartTold_122 : decode mX12_qPartTold.1 122 = .ok (.iconst (-1), 1) ∧ 122 + 1 = 123 := ⟨by decide +kernel, rfl⟩
theorem d_X12_qPartTold_123 : decode mX12_qPartTold.1 123 = .ok (.if_icmp .eq 21, 3) ∧ 123 + 3 = 126 ∧ ((123 : Nat) : Int) + 21 = ((144 : Nat) : Int) := ⟨by decide +kernel, rfl, rfl⟩
theorem d_X12_qPartTold_144 : decode mX12_qPartTold.1 144 = .ok (.aload_n 0, 1) ∧ 144 + 1 = 145 := ⟨by decide +kernel, rfl⟩
theorem d_X12_qPartTold_145 : decode mX12_qPartTold.1 145 = .ok (.bipush 40, 2) ∧ 145 + 2 = 147 := ⟨by decide +kernel, rfl⟩
theorem d_X12_qPartTold_147 : decode mX12_qPartTold.1 147 = .ok (.invokevirtual 378, 3) ∧ 147 + 3 = 150 := ⟨by decide +kernel, rfl⟩
theorem d_X12_qPartTold_150 : decode mX12_qPartTold.1 150 = .ok (.goto 33, 3) ∧ ((150 : Nat) : Int) + 33 = ((183 : Nat) : Int) := ⟨by decide +kernel, rfl⟩
set_option maxRecDepth 100000 in
set_option maxHeartbeats 4000000 in
theorem g_X12_qPartTold_J144L2 (l : Launch) (G : xa_C) (c0 : Int) (K : (Int × xa_H) ⊕ (xa_H) → Option xa_O) (hb : ∀ (v1 : Int) (h : xa_H), xa_G l G 7 mX12_qPartTold (some (Sum.inl ((v1, h)))) K 2 [some (xR c0), some (xI v1), none, none, none, none] [] h) (hx : ∀ (h : xa_H), xa_G l G 7 mX12_qPartTold (some (Sum.inr h)) K 186 [some (xR c0), none, none, none, none, none] [] h) : ∀ (v1 : Int) (h : xa_H) , xa_G l G 7 mX12_qPartTold (f_X12_qPartTold_J144L2 c0 v1 h) K 144 [some (xR c0), some (xI v1), none, none, none, none] [] h := by
  intro v1 h
  unfold f_X12_qPartTold_J144L2
  refine xa_step (xa_aload_n d_X12_qPartTold_144 rfl) ?_
  refine xa_step (xa_bipush d_X12_qPartTold_145 xq_b_40) ?_
  refine xa_callVV (as := [xI 40]) (st := []) (M' := mX12_asksSign) (d' := 4) rfl xw_1769 xw_1771 xw_94 xw_1772 xw_177 xh_X12_asksSign rfl ⟨Nat.le_of_ble_eq_true rfl, Nat.le_of_ble_eq_true rfl⟩ (Nat.le_of_ble_eq_true rfl) rfl d_X12_qPartTold_147 (fun r hr => ct_X12_asksSign l G c0 40 h r hr) (fun r30 _ => ?_)
  refine xa_step (xa_goto d_X12_qPartTold_150) ?_
  refine xa_step (xa_goto d_X12_qPartTold_183) ?_
  exact xa_weak (ls' := [some (xR c0), some (xI v1), none, none, none, none]) ⟨rfl, rfl, trivial⟩ (hb v1 r30)
theorem d_X12_qPartTold_126 : decode mX12_qPartTold.1 126 = .ok (.aload_n 0, 1) ∧ 126 + 1 = 127 := ⟨by decide +kernel, rfl⟩
theorem d_X12_qPartTold_127 : decode mX12_qPartTold.1 127 = .ok (.iload 4, 2) ∧ 127 + 2 = 129 := ⟨by decide +kernel, rfl⟩
theorem d_X12_qPartTold_129 : decode mX12_qPartTold.1 129 = .ok (.ifCond .eq 8, 3) ∧ 129 + 3 = 132 ∧ ((129 : Nat) : Int) + 8 = ((137 : Nat) : Int) := ⟨by decide +kernel, rfl, rfl⟩
theorem d_X12_qPartTold_137 : decode mX12_qPartTold.1 137 = .ok (.bipush 22, 2) ∧ 137 + 2 = 139 := ⟨by decide +kernel, rfl⟩
theorem d_X12_qPartTold_139 : decode mX12_qPartTold.1 139 = .ok (.iload 5, 2) ∧ 139 + 2 = 141 := ⟨by decide +kernel, rfl⟩
theorem d_X12_qPartTold_141 : decode mX12_qPartTold.1 141 = .ok (.invokevirtual 612, 3) ∧ 141 + 3 = 144 := ⟨by decide +kernel, rfl⟩
set_option maxRecDepth 100000 in
set_option maxHeartbeats 4000000 in
theorem g_X12_qPartTold_J139L2 (l : Launch) (G : xa_C) (c0 : Int) (K : (Int × xa_H) ⊕ (xa_H) → Option xa_O) (hb : ∀ (v1 : Int) (h : xa_H), xa_G l G 7 mX12_qPartTold (some (Sum.inl ((v1, h)))) K 2 [some (xR c0), some (xI v1), none, none, none, none] [] h) (hx : ∀ (h : xa_H), xa_G l G 7 mX12_qPartTold (some (Sum.inr h)) K 186 [some (xR c0), none, none, none, none, none] [] h) : ∀ (v1 v5 s0 s1 : Int) (h : xa_H) , xa_G l G 7 mX12_qPartTold (f_X12_qPartTold_J139L2 c0 v1 v5 s0 s1 h) K 139 [some (xR c0), some (xI v1), none, none, none, some (xI v5)] [xI s1, xR s0] h := by
  intro v1 v5 s0 s1 h
  unfold f_X12_qPartTold_J139L2
  refine xa_step (xa_iload d_X12_qPartTold_139 rfl) ?_
  refine xa_callVV (as := [xI s1, xI v5]) (st := []) (M' := mX12_qOpens) (d' := 3) rfl xw_1737 xw_1739 xw_86 xw_1740 xw_177 xh_X12_qOpens rfl ⟨Nat.le_of_ble_eq_true rfl, Nat.le_of_ble_eq_true rfl⟩ (Nat.le_of_ble_eq_true rfl) rfl d_X12_qPartTold_141 (fun r hr => ct_X12_qOpens l G s0 s1 v5 h r hr) (fun r32 _ => ?_)
  exact xa_weak (ls' := [some (xR c0), some (xI v1), none, none, none, none]) ⟨rfl, rfl, trivial⟩ (g_X12_qPartTold_J144L2 l G c0 K hb hx v1 r32)
theorem d_X12_qPartTold_132 : decode mX12_qPartTold.1 132 = .ok (.bipush 21, 2) ∧ 132 + 2 = 134 := ⟨by decide +kernel, rfl⟩
theorem d_X12_qPartTold_134 : decode mX12_qPartTold.1 134 = .ok (.goto 5, 3) ∧ ((134 : Nat) : Int) + 5 = ((139 : Nat) : Int) := ⟨by decide +kernel, rfl⟩
set_option maxRecDepth 100000 in
set_option maxHeartbeats 4000000 in
theorem g_X12_qPartTold_J118L2 (l : Launch) (G : xa_C) (c0 : Int) (K : (Int × xa_H) ⊕ (xa_H) → Option xa_O) (hb : ∀ (v1 : Int) (h : xa_H), xa_G l G 7 mX12_qPartTold (some (Sum.inl ((v1, h)))) K 2 [some (xR c0), some (xI v1), none, none, none, none] [] h) (hx : ∀ (h : xa_H), xa_G l G 7 mX12_qPartTold (some (Sum.inr h)) K 186 [some (xR c0), none, none, none, none, none] [] h) : ∀ (v1 v4 s0 : Int) (h : xa_H) , xa_G l G 7 mX12_qPartTold (f_X12_qPartTold_J118L2 c0 v1 v4 s0 h) K 118 [some (xR c0), some (xI v1), none, none, some (xI v4), none] [xI s0] h := by
  intro v1 v4 s0 h
  unfold f_X12_qPartTold_J118L2
  refine xa_step (xa_istore (ls' := [some (xR c0), some (xI v1), none, none, some (xI v4), some (xI s0)]) d_X12_qPartTold_118 (by decide) rfl) ?_
  refine xa_step (xa_iload d_X12_qPartTold_120 rfl) ?_
  refine xa_step (xa_iconst d_X12_qPartTold_122 xq_i_m1) ?_
  refine xa_if (xa_icmpeq d_X12_qPartTold_123) (fun q29 => ?_) (fun q29 => ?_)
  · exact xa_weak (ls' := [some (xR c0), some (xI v1), none, none, none, none]) ⟨rfl, rfl, trivial⟩ (g_X12_qPartTold_J144L2 l G c0 K hb hx v1 h)
  · refine xa_step (xa_aload_n d_X12_qPartTold_126 rfl) ?_
    refine xa_step (xa_iload d_X12_qPartTold_127 rfl) ?_
    refine xa_if (xa_ifeq d_X12_qPartTold_129) (fun q31 => ?_) (fun q31 => ?_)
    · refine xa_step (xa_bipush d_X12_qPartTold_137 xq_b_22) ?_
      exact xa_weak (ls' := [some (xR c0), some (xI v1), none, none, none, some (xI s0)]) ⟨rfl, rfl, rfl, trivial⟩ (g_X12_qPartTold_J139L2 l G c0 K hb hx v1 s0 c0 22 h)
    · refine xa_step (xa_bipush d_X12_qPartTold_132 xq_b_21) ?_
      refine xa_step (xa_goto d_X12_qPartTold_134) ?_
      exact xa_weak (ls' := [some (xR c0), some (xI v1), none, none, none, some (xI s0)]) ⟨rfl, rfl, rfl, trivial⟩ (g_X12_qPartTold_J139L2 l G c0 K hb hx v1 s0 c0 21 h)
theorem d_X12_qPartTold_117 : decode mX12_qPartTold.1 117 = .ok (.iconst (-1), 1) ∧ 117 + 1 = 118 := ⟨by decide +kernel, rfl⟩
set_option maxRecDepth 100000 in
set_option maxHeartbeats 4000000 in
theorem g_X12_qPartTold_J101L2 (l : Launch) (G : xa_C) (c0 : Int) (K : (Int × xa_H) ⊕ (xa_H) → Option xa_O) (hb : ∀ (v1 : Int) (h : xa_H), xa_G l G 7 mX12_qPartTold (some (Sum.inl ((v1, h)))) K 2 [some (xR c0), some (xI v1), none, none, none, none] [] h) (hx : ∀ (h : xa_H), xa_G l G 7 mX12_qPartTold (some (Sum.inr h)) K 186 [some (xR c0), none, none, none, none, none] [] h) : ∀ (v1 v4 : Int) (h : xa_H) , xa_G l G 7 mX12_qPartTold (f_X12_qPartTold_J101L2 c0 v1 v4 h) K 101 [some (xR c0), some (xI v1), none, none, some (xI v4), none] [] h := by
  intro v1 v4 h
  unfold f_X12_qPartTold_J101L2
  refine xa_step (xa_aload_n d_X12_qPartTold_101 rfl) ?_
  refine xa_callVI (as := []) (st := []) (M' := mX12_look) (d' := 2) rfl xw_1646 xw_1648 xw_66 xw_1649 xw_177 xh_X12_look rfl ⟨Nat.le_of_ble_eq_true rfl, Nat.le_of_ble_eq_true rfl⟩ (Nat.le_of_ble_eq_true rfl) rfl d_X12_qPartTold_102 (fun r hr => ct_X12_look l G c0 h r hr) (fun r26 _ => ?_)
  refine xa_step (xa_bipush d_X12_qPartTold_105 xq_b_40) ?_
  refine xa_if (xa_icmpne d_X12_qPartTold_107) (fun q27 => ?_) (fun q27 => ?_)
  · refine xa_step (xa_aload_n d_X12_qPartTold_110 rfl) ?_
    refine xa_getf xI xc_12 (by decide) (fun _ => rfl) xw_1306 rfl d_X12_qPartTold_111 (fun x28 _ => ?_)
    refine xa_step (xa_goto d_X12_qPartTold_114) ?_
    exact xa_weak (ls' := [some (xR c0), some (xI v1), none, none, some (xI v4), none]) ⟨rfl, rfl, rfl, trivial⟩ (g_X12_qPartTold_J118L2 l G c0 K hb hx v1 v4 x28 r26.2)
  · refine xa_step (xa_iconst d_X12_qPartTold_117 xq_i_m1) ?_
    exact xa_weak (ls' := [some (xR c0), some (xI v1), none, none, some (xI v4), none]) ⟨rfl, rfl, rfl, trivial⟩ (g_X12_qPartTold_J118L2 l G c0 K hb hx v1 v4 ((-1)) r26.2)
set_option maxRecDepth 100000 in
set_option maxHeartbeats 4000000 in
theorem g_X12_qPartTold_J78L2 (l : Launch) (G : xa_C) (c0 : Int) (K : (Int × xa_H) ⊕ (xa_H) → Option xa_O) (hb : ∀ (v1 : Int) (h : xa_H), xa_G l G 7 mX12_qPartTold (some (Sum.inl ((v1, h)))) K 2 [some (xR c0), some (xI v1), none, none, none, none] [] h) (hx : ∀ (h : xa_H), xa_G l G 7 mX12_qPartTold (some (Sum.inr h)) K 186 [some (xR c0), none, none, none, none, none] [] h) : ∀ (v1 : Int) (h : xa_H) , xa_G l G 7 mX12_qPartTold (f_X12_qPartTold_J78L2 c0 v1 h) K 78 [some (xR c0), some (xI v1), none, none, none, none] [] h := by
  intro v1 h
  unfold f_X12_qPartTold_J78L2
  refine xa_step (xa_aload_n d_X12_qPartTold_78 rfl) ?_
  refine xa_step (xa_aload_n d_X12_qPartTold_79 rfl) ?_
  refine xa_getf xR xc_12 (by decide) (fun _ => rfl) xw_1391 rfl d_X12_qPartTold_80 (fun x21 _ => ?_)
  refine xa_callVI (as := [xR x21]) (st := []) (M' := mX12_takes) (d' := 4) rfl xw_1658 xw_1660 xw_69 xw_1661 xw_177 xh_X12_takes rfl ⟨Nat.le_of_ble_eq_true rfl, Nat.le_of_ble_eq_true rfl⟩ (Nat.le_of_ble_eq_true rfl) rfl d_X12_qPartTold_83 (fun r hr => ct_X12_takes l G c0 x21 h r hr) (fun r22 _ => ?_)
  refine xa_step (xa_istore (ls' := [some (xR c0), some (xI v1), none, none, some (xI r22.1), none]) d_X12_qPartTold_86 (by decide) rfl) ?_
  refine xa_step (xa_iload d_X12_qPartTold_88 rfl) ?_
  refine xa_if (xa_ifne d_X12_qPartTold_90) (fun q23 => ?_) (fun q23 => ?_)
  · refine xa_step (xa_aload_n d_X12_qPartTold_93 rfl) ?_
    refine xa_step (xa_aload_n d_X12_qPartTold_94 rfl) ?_
    refine xa_getf xR xc_12 (by decide) (fun _ => rfl) xw_1392 rfl d_X12_qPartTold_95 (fun x24 _ => ?_)
    refine xa_callVV (as := [xR x24]) (st := []) (M' := mX12_asks) (d' := 5) rfl xw_1695 xw_1697 xw_77 xw_1698 xw_177 xh_X12_asks rfl ⟨Nat.le_of_ble_eq_true rfl, Nat.le_of_ble_eq_true rfl⟩ (Nat.le_of_ble_eq_true rfl) rfl d_X12_qPartTold_98 (fun r hr => ct_X12_asks l G c0 x24 r22.2 r hr) (fun r25 _ => ?_)
    exact xa_weak (ls' := [some (xR c0), some (xI v1), none, none, some (xI r22.1), none]) ⟨rfl, rfl, rfl, trivial⟩ (g_X12_qPartTold_J101L2 l G c0 K hb hx v1 r22.1 r25)
  · exact xa_weak (ls' := [some (xR c0), some (xI v1), none, none, some (xI r22.1), none]) ⟨rfl, rfl, rfl, trivial⟩ (g_X12_qPartTold_J101L2 l G c0 K hb hx v1 r22.1 r22.2)
set_option maxRecDepth 100000 in
set_option maxHeartbeats 4000000 in
theorem g_X12_qPartTold_L2 (l : Launch) (G : xa_C) (c0 : Int) (K : (Int × xa_H) ⊕ (xa_H) → Option xa_O) (hb : ∀ (v1 : Int) (h : xa_H), xa_G l G 7 mX12_qPartTold (some (Sum.inl ((v1, h)))) K 2 [some (xR c0), some (xI v1), none, none, none, none] [] h) (hx : ∀ (h : xa_H), xa_G l G 7 mX12_qPartTold (some (Sum.inr h)) K 186 [some (xR c0), none, none, none, none, none] [] h) : ∀ (v1 : Int) (h : xa_H), xa_G l G 7 mX12_qPartTold (f_X12_qPartTold_L2 c0 v1 h) K 2 [some (xR c0), some (xI v1), none, none, none, none] [] h := by
  intro v1 h
  unfold f_X12_qPartTold_L2
  refine xa_step (xa_iload_n d_X12_qPartTold_2 rfl) ?_
  refine xa_if (xa_ifeq d_X12_qPartTold_3) (fun q1 => ?_) (fun q1 => ?_)
  · exact xa_weak (ls' := [some (xR c0), none, none, none, none, none]) ⟨rfl, trivial⟩ (hx h)
  · refine xa_step (xa_aload_n d_X12_qPartTold_6 rfl) ?_
    refine xa_getf xI xc_12 (by decide) (fun _ => rfl) xw_1309 rfl d_X12_qPartTold_7 (fun x2 _ => ?_)
    refine xa_if (xa_ifne d_X12_qPartTold_10) (fun q3 => ?_) (fun q3 => ?_)
    · refine xa_step (xa_aload_n d_X12_qPartTold_13 rfl) ?_
      refine xa_callVI (as := []) (st := []) (M' := mX12_look) (d' := 2) rfl xw_1646 xw_1648 xw_66 xw_1649 xw_177 xh_X12_look rfl ⟨Nat.le_of_ble_eq_true rfl, Nat.le_of_ble_eq_true rfl⟩ (Nat.le_of_ble_eq_true rfl) rfl d_X12_qPartTold_14 (fun r hr => ct_X12_look l G c0 h r hr) (fun r4 _ => ?_)
      refine xa_step (xa_istore_n (ls' := [some (xR c0), some (xI v1), some (xI r4.1), none, none, none]) d_X12_qPartTold_17 (by decide) rfl) ?_
      refine xa_step (xa_aload_n d_X12_qPartTold_18 rfl) ?_
      refine xa_step (xa_bipush d_X12_qPartTold_19 xq_b_8) ?_
      refine xa_step (xa_bipush d_X12_qPartTold_21 xq_b_9) ?_
      refine xa_callVI (as := [xI 8, xI 9]) (st := []) (M' := mX12_qWordOf) (d' := 5) rfl xw_1757 xw_1759 xw_91 xw_1760 xw_177 xh_X12_qWordOf rfl ⟨Nat.le_of_ble_eq_true rfl, Nat.le_of_ble_eq_true rfl⟩ (Nat.le_of_ble_eq_true rfl) rfl d_X12_qPartTold_23 (fun r hr => ct_X12_qWordOf l G c0 8 9 r4.2 r hr) (fun r5 _ => ?_)
      refine xa_step (xa_istore_n (ls' := [some (xR c0), some (xI v1), some (xI r4.1), some (xI r5.1), none, none]) d_X12_qPartTold_26 (by decide) rfl) ?_
      refine xa_step (xa_iload_n d_X12_qPartTold_27 rfl) ?_
      refine xa_step (xa_bipush d_X12_qPartTold_28 xq_b_40) ?_
      refine xa_if (xa_icmpne d_X12_qPartTold_30) (fun q6 => ?_) (fun q6 => ?_)
      · refine xa_step (xa_aload_n d_X12_qPartTold_33 rfl) ?_
        refine xa_step (xa_bipush d_X12_qPartTold_34 xq_b_20) ?_
        refine xa_step (xa_aload_n d_X12_qPartTold_36 rfl) ?_
        refine xa_getf xI xc_12 (by decide) (fun _ => rfl) xw_1306 rfl d_X12_qPartTold_37 (fun x7 _ => ?_)
        refine xa_callVV (as := [xI 20, xI x7]) (st := []) (M' := mX12_qOpens) (d' := 3) rfl xw_1737 xw_1739 xw_86 xw_1740 xw_177 xh_X12_qOpens rfl ⟨Nat.le_of_ble_eq_true rfl, Nat.le_of_ble_eq_true rfl⟩ (Nat.le_of_ble_eq_true rfl) rfl d_X12_qPartTold_40 (fun r hr => ct_X12_qOpens l G c0 20 x7 r5.2 r hr) (fun r8 _ => ?_)
        refine xa_step (xa_aload_n d_X12_qPartTold_43 rfl) ?_
        refine xa_step (xa_dup d_X12_qPartTold_44 (xa_tR _)) ?_
        refine xa_getf xI xc_12 (by decide) (fun _ => rfl) xw_1306 rfl d_X12_qPartTold_45 (fun x9 _ => ?_)
        refine xa_step (xa_iconst d_X12_qPartTold_48 xq_i_1) ?_
        refine xa_step (xa_iadd d_X12_qPartTold_49) ?_
        refine xa_putf2 (tg := xI) xc_12 (by decide) (fun _ => rfl) rfl (fun c hc => xa_fitI c hc) xw_1306 rfl d_X12_qPartTold_50 (fun h10 _ => ?_)
        refine xa_step (xa_goto d_X12_qPartTold_53) ?_
        refine xa_step (xa_goto d_X12_qPartTold_183) ?_
        exact xa_weak (ls' := [some (xR c0), some (xI v1), none, none, none, none]) ⟨rfl, rfl, trivial⟩ (hb v1 h10)
      · refine xa_step (xa_aload_n d_X12_qPartTold_56 rfl) ?_
        refine xa_step (xa_aload_n d_X12_qPartTold_57 rfl) ?_
        refine xa_getf xR xc_12 (by decide) (fun _ => rfl) xw_1391 rfl d_X12_qPartTold_58 (fun x11 _ => ?_)
        refine xa_callVI (as := [xR x11]) (st := []) (M' := mX12_isHere) (d' := 3) rfl xw_1662 xw_1664 xw_70 xw_1665 xw_177 xh_X12_isHere rfl ⟨Nat.le_of_ble_eq_true rfl, Nat.le_of_ble_eq_true rfl⟩ (Nat.le_of_ble_eq_true rfl) rfl d_X12_qPartTold_61 (fun r hr => ct_X12_isHere l G c0 x11 r5.2 r hr) (fun r12 _ => ?_)
        refine xa_if (xa_ifne d_X12_qPartTold_64) (fun q13 => ?_) (fun q13 => ?_)
        · refine xa_step (xa_aload_n d_X12_qPartTold_67 rfl) ?_
          refine xa_step (xa_aload_n d_X12_qPartTold_68 rfl) ?_
          refine xa_getf xR xc_12 (by decide) (fun _ => rfl) xw_1392 rfl d_X12_qPartTold_69 (fun x14 _ => ?_)
          refine xa_callVI (as := [xR x14]) (st := []) (M' := mX12_isHere) (d' := 3) rfl xw_1662 xw_1664 xw_70 xw_1665 xw_177 xh_X12_isHere rfl ⟨Nat.le_of_ble_eq_true rfl, Nat.le_of_ble_eq_true rfl⟩ (Nat.le_of_ble_eq_true rfl) rfl d_X12_qPartTold_72 (fun r hr => ct_X12_isHere l G c0 x14 r12.2 r hr) (fun r15 _ => ?_)
          refine xa_if (xa_ifeq d_X12_qPartTold_75) (fun q16 => ?_) (fun q16 => ?_)
          · refine xa_step (xa_iload_n d_X12_qPartTold_153 rfl) ?_
            refine xa_step (xa_iconst d_X12_qPartTold_154 xq_i_m1) ?_
            refine xa_if (xa_icmpeq d_X12_qPartTold_155) (fun q17 => ?_) (fun q17 => ?_)
            · refine xa_step (xa_iconst d_X12_qPartTold_181 xq_i_0) ?_
              refine xa_step (xa_istore_n (ls' := [some (xR c0), some (xI 0), some (xI r4.1), some (xI r5.1), none, none]) d_X12_qPartTold_182 (by decide) rfl) ?_
              refine xa_step (xa_goto d_X12_qPartTold_183) ?_
              exact xa_weak (ls' := [some (xR c0), some (xI 0), none, none, none, none]) ⟨rfl, rfl, trivial⟩ (hb 0 r15.2)
            · refine xa_step (xa_aload_n d_X12_qPartTold_158 rfl) ?_
              refine xa_step (xa_bipush d_X12_qPartTold_159 xq_b_60) ?_
              refine xa_step (xa_iload_n d_X12_qPartTold_161 rfl) ?_
              refine xa_step (xa_iadd d_X12_qPartTold_162) ?_
              refine xa_step (xa_bipush d_X12_qPartTold_163 xq_b_8) ?_
              refine xa_step (xa_isub d_X12_qPartTold_165) ?_
              refine xa_step (xa_aload_n d_X12_qPartTold_166 rfl) ?_
              refine xa_getf xI xc_12 (by decide) (fun _ => rfl) xw_1306 rfl d_X12_qPartTold_167 (fun x18 _ => ?_)
              refine xa_callVV (as := [xI (w32 ((w32 (60 + r5.1)) - 8)), xI x18]) (st := []) (M' := mX12_qOpens) (d' := 3) rfl xw_1737 xw_1739 xw_86 xw_1740 xw_177 xh_X12_qOpens rfl ⟨Nat.le_of_ble_eq_true rfl, Nat.le_of_ble_eq_true rfl⟩ (Nat.le_of_ble_eq_true rfl) rfl d_X12_qPartTold_170 (fun r hr => ct_X12_qOpens l G c0 (w32 ((w32 (60 + r5.1)) - 8)) x18 r15.2 r hr) (fun r19 _ => ?_)
              refine xa_step (xa_aload_n d_X12_qPartTold_173 rfl) ?_
              refine xa_step (xa_iload_n d_X12_qPartTold_174 rfl) ?_
              refine xa_callVV (as := [xI r5.1]) (st := []) (M' := mX12_qAsksWord) (d' := 6) rfl xw_1777 xw_1779 xw_96 xw_1780 xw_177 xh_X12_qAsksWord rfl ⟨Nat.le_of_ble_eq_true rfl, Nat.le_of_ble_eq_true rfl⟩ (Nat.le_of_ble_eq_true rfl) rfl d_X12_qPartTold_175 (fun r hr => ct_X12_qAsksWord l G c0 r5.1 r19 r hr) (fun r20 _ => ?_)
              refine xa_step (xa_goto d_X12_qPartTold_178) ?_
              refine xa_step (xa_goto d_X12_qPartTold_183) ?_
              exact xa_weak (ls' := [some (xR c0), some (xI v1), none, none, none, none]) ⟨rfl, rfl, trivial⟩ (hb v1 r20)
          · exact xa_weak (ls' := [some (xR c0), some (xI v1), none, none, none, none]) ⟨rfl, rfl, trivial⟩ (g_X12_qPartTold_J78L2 l G c0 K hb hx v1 r15.2)
        · exact xa_weak (ls' := [some (xR c0), some (xI v1), none, none, none, none]) ⟨rfl, rfl, trivial⟩ (g_X12_qPartTold_J78L2 l G c0 K hb hx v1 r12.2)
    · exact xa_weak (ls' := [some (xR c0), none, none, none, none, none]) ⟨rfl, trivial⟩ (hx h)
theorem d_X12_qPartTold_186 : decode mX12_qPartTold.1 186 = .ok (.aload_n 0, 1) ∧ 186 + 1 = 187 := ⟨by decide +kernel, rfl⟩
theorem d_X12_qPartTold_187 : decode mX12_qPartTold.1 187 = .ok (.getfield 249, 3) ∧ 187 + 3 = 190 := ⟨by decide +kernel, rfl⟩
theorem d_X12_qPartTold_190 : decode mX12_qPartTold.1 190 = .ok (.ifCond .eq 4, 3) ∧ 190 + 3 = 193 ∧ ((190 : Nat) : Int) + 4 = ((194 : Nat) : Int) := ⟨by decide +kernel, rfl, rfl⟩
theorem d_X12_qPartTold_194 : decode mX12_qPartTold.1 194 = .ok (.aload_n 0, 1) ∧ 194 + 1 = 195 := ⟨by decide +kernel, rfl⟩
theorem d_X12_qPartTold_195 : decode mX12_qPartTold.1 195 = .ok (.iconst 0, 1) ∧ 195 + 1 = 196 := ⟨by decide +kernel, rfl⟩
theorem d_X12_qPartTold_196 : decode mX12_qPartTold.1 196 = .ok (.bipush 8, 2) ∧ 196 + 2 = 198 := ⟨by decide +kernel, rfl⟩
theorem d_X12_qPartTold_198 : decode mX12_qPartTold.1 198 = .ok (.invokevirtual 609, 3) ∧ 198 + 3 = 201 := ⟨by decide +kernel, rfl⟩
theorem d_X12_qPartTold_201 : decode mX12_qPartTold.1 201 = .ok (.istore_n 2, 1) ∧ 201 + 1 = 202 := ⟨by decide +kernel, rfl⟩
theorem d_X12_qPartTold_202 : decode mX12_qPartTold.1 202 = .ok (.iload_n 2, 1) ∧ 202 + 1 = 203 := ⟨by decide +kernel, rfl⟩
theorem d_X12_qPartTold_203 : decode mX12_qPartTold.1 203 = .ok (.iconst (-1), 1) ∧ 203 + 1 = 204 := ⟨by decide +kernel, rfl⟩
theorem d_X12_qPartTold_204 : decode mX12_qPartTold.1 204 = .ok (.if_icmp .eq 8, 3) ∧ 204 + 3 = 207 ∧ ((204 : Nat) : Int) + 8 = ((212 : Nat) : Int) := ⟨by decide +kernel, rfl, rfl⟩
theorem d_X12_qPartTold_212 : decode mX12_qPartTold.1 212 = .ok (.aload_n 0, 1) ∧ 212 + 1 = 213 := ⟨by decide +kernel, rfl⟩
theorem d_X12_qPartTold_213 : decode mX12_qPartTold.1 213 = .ok (.iload_n 2, 1) ∧ 213 + 1 = 214 := ⟨by decide +kernel, rfl⟩
theorem d_X12_qPartTold_214 : decode mX12_qPartTold.1 214 = .ok (.iconst (-1), 1) ∧ 214 + 1 = 215 := ⟨by decide +kernel, rfl⟩
theorem d_X12_qPartTold_215 : decode mX12_qPartTold.1 215 = .ok (.if_icmp .eq 10, 3) ∧ 215 + 3 = 218 ∧ ((215 : Nat) : Int) + 10 = ((225 : Nat) : Int) := ⟨by decide +kernel, rfl, rfl⟩
theorem d_X12_qPartTold_225 : decode mX12_qPartTold.1 225 = .ok (.sipush 1000, 3) ∧ 225 + 3 = 228 := ⟨by decide +kernel, rfl⟩
theorem d_X12_qPartTold_228 : decode mX12_qPartTold.1 228 = .ok (.aload_n 0, 1) ∧ 228 + 1 = 229 := ⟨by decide +kernel, rfl⟩
theorem d_X12_qPartTold_229 : decode mX12_qPartTold.1 229 = .ok (.iconst 0, 1) ∧ 229 + 1 = 230 := ⟨by decide +kernel, rfl⟩
theorem d_X12_qPartTold_230 : decode mX12_qPartTold.1 230 = .ok (.sipush 9999, 3) ∧ 230 + 3 = 233 := ⟨by decide +kernel, rfl⟩
theorem d_X12_qPartTold_233 : decode mX12_qPartTold.1 233 = .ok (.invokevirtual 327, 3) ∧ 233 + 3 = 236 := ⟨by decide +kernel, rfl⟩
theorem d_X12_qPartTold_236 : decode mX12_qPartTold.1 236 = .ok (.iadd, 1) ∧ 236 + 1 = 237 := ⟨by decide +kernel, rfl⟩
theorem d_X12_qPartTold_237 : decode mX12_qPartTold.1 237 = .ok (.invokevirtual 594, 3) ∧ 237 + 3 = 240 := ⟨by decide +kernel, rfl⟩
theorem d_X12_qPartTold_240 : decode mX12_qPartTold.1 240 = .ok (.aload_n 0, 1) ∧ 240 + 1 = 241 := ⟨by decide +kernel, rfl⟩
theorem d_X12_qPartTold_241 : decode mX12_qPartTold.1 241 = .ok (.invokevirtual 618, 3) ∧ 241 + 3 = 244 := ⟨by decide +kernel, rfl⟩
theorem d_X12_qPartTold_244 : decode mX12_qPartTold.1 244 = .ok (.return_, 1) := by decide +kernel
set_option maxRecDepth 100000 in
set_option maxHeartbeats 4000000 in
theorem g_X12_qPartTold_J237 (l : Launch) (G : xa_C) : ∀ (v0 s0 s1 : Int) (h : xa_H) , xa_G l G 7 mX12_qPartTold (f_X12_qPartTold_J237 v0 s0 s1 h) (fun r => some (none, r) : xa_H → Option xa_O) 237 [some (xR v0), none, none, none, none, none] [xI s1, xR s0] h := by
  intro v0 s0 s1 h
  unfold f_X12_qPartTold_J237
  refine xa_callVV (as := [xI s1]) (st := []) (M' := mX12_qCode) (d' := 2) rfl xw_1745 xw_1747 xw_88 xw_1748 xw_177 xh_X12_qCode rfl ⟨Nat.le_of_ble_eq_true rfl, Nat.le_of_ble_eq_true rfl⟩ (Nat.le_of_ble_eq_true rfl) rfl d_X12_qPartTold_237 (fun r hr => ct_X12_qCode l G s0 s1 h r hr) (fun r40 _ => ?_)
  refine xa_step (xa_aload_n d_X12_qPartTold_240 rfl) ?_
  refine xa_callVV (as := []) (st := []) (M' := mX12_qEndsPart) (d' := 4) rfl xw_1781 xw_1783 xw_97 xw_1784 xw_177 xh_X12_qEndsPart rfl ⟨Nat.le_of_ble_eq_true rfl, Nat.le_of_ble_eq_true rfl⟩ (Nat.le_of_ble_eq_true rfl) rfl d_X12_qPartTold_241 (fun r hr => ct_X12_qEndsPart l G v0 r40 r hr) (fun r41 _ => ?_)
  exact xa_vret d_X12_qPartTold_244 rfl rfl
theorem d_X12_qPartTold_218 : decode mX12_qPartTold.1 218 = .ok (.bipush 40, 2) ∧ 218 + 2 = 220 := ⟨by decide +kernel, rfl⟩
theorem d_X12_qPartTold_220 : decode mX12_qPartTold.1 220 = .ok (.iload_n 2, 1) ∧ 220 + 1 = 221 := ⟨by decide +kernel, rfl⟩
theorem d_X12_qPartTold_221 : decode mX12_qPartTold.1 221 = .ok (.iadd, 1) ∧ 221 + 1 = 222 := ⟨by decide +kernel, rfl⟩
theorem d_X12_qPartTold_222 : decode mX12_qPartTold.1 222 = .ok (.goto 15, 3) ∧ ((222 : Nat) : Int) + 15 = ((237 : Nat) : Int) := ⟨by decide +kernel, rfl⟩
set_option maxRecDepth 100000 in
set_option maxHeartbeats 4000000 in
theorem g_X12_qPartTold_J212 (l : Launch) (G : xa_C) : ∀ (v0 v2 : Int) (h : xa_H) , xa_G l G 7 mX12_qPartTold (f_X12_qPartTold_J212 v0 v2 h) (fun r => some (none, r) : xa_H → Option xa_O) 212 [some (xR v0), none, some (xI v2), none, none, none] [] h := by
  intro v0 v2 h
  unfold f_X12_qPartTold_J212
  refine xa_step (xa_aload_n d_X12_qPartTold_212 rfl) ?_
  refine xa_step (xa_iload_n d_X12_qPartTold_213 rfl) ?_
  refine xa_step (xa_iconst d_X12_qPartTold_214 xq_i_m1) ?_
  refine xa_if (xa_icmpeq d_X12_qPartTold_215) (fun q38 => ?_) (fun q38 => ?_)
  · refine xa_step (xa_sipush d_X12_qPartTold_225 xq_s_1000) ?_
    refine xa_step (xa_aload_n d_X12_qPartTold_228 rfl) ?_
    refine xa_step (xa_iconst d_X12_qPartTold_229 xq_i_0) ?_
    refine xa_step (xa_sipush d_X12_qPartTold_230 xq_s_9999) ?_
    refine xa_callVI (as := [xI 0, xI 9999]) (st := [xI 1000, xR v0]) (M' := mX12_number) (d' := 3) rfl xw_1699 xw_1701 xw_78 xw_1702 xw_177 xh_X12_number rfl ⟨Nat.le_of_ble_eq_true rfl, Nat.le_of_ble_eq_true rfl⟩ (Nat.le_of_ble_eq_true rfl) rfl d_X12_qPartTold_233 (fun r hr => ct_X12_number l G v0 0 9999 h r hr) (fun r39 _ => ?_)
    refine xa_step (xa_iadd d_X12_qPartTold_236) ?_
    exact xa_weak (ls' := [some (xR v0), none, none, none, none, none]) ⟨rfl, trivial⟩ (g_X12_qPartTold_J237 l G v0 v0 (w32 (1000 + r39.1)) r39.2)
  · refine xa_step (xa_bipush d_X12_qPartTold_218 xq_b_40) ?_
    refine xa_step (xa_iload_n d_X12_qPartTold_220 rfl) ?_
    refine xa_step (xa_iadd d_X12_qPartTold_221) ?_
    refine xa_step (xa_goto d_X12_qPartTold_222) ?_
    exact xa_weak (ls' := [some (xR v0), none, none, none, none, none]) ⟨rfl, trivial⟩ (g_X12_qPartTold_J237 l G v0 v0 (w32 (40 + v2)) h)
theorem d_X12_qPartTold_207 : decode mX12_qPartTold.1 207 = .ok (.aload_n 0, 1) ∧ 207 + 1 = 208 := ⟨by decide +kernel, rfl⟩
theorem d_X12_qPartTold_208 : decode mX12_qPartTold.1 208 = .ok (.iload_n 2, 1) ∧ 208 + 1 = 209 := ⟨by decide +kernel, rfl⟩
theorem d_X12_qPartTold_209 : decode mX12_qPartTold.1 209 = .ok (.invokevirtual 615, 3) ∧ 209 + 3 = 212 := ⟨by decide +kernel, rfl⟩
theorem d_X12_qPartTold_193 : decode mX12_qPartTold.1 193 = .ok (.return_, 1) := by decide +kernel
set_option maxRecDepth 100000 in
set_option maxHeartbeats 4000000 in
theorem g_X12_qPartTold_J186 (l : Launch) (G : xa_C) : ∀ (v0 : Int) (h : xa_H) , xa_G l G 7 mX12_qPartTold (f_X12_qPartTold_J186 v0 h) (fun r => some (none, r) : xa_H → Option xa_O) 186 [some (xR v0), none, none, none, none, none] [] h := by
  intro v0 h
  unfold f_X12_qPartTold_J186
  refine xa_step (xa_aload_n d_X12_qPartTold_186 rfl) ?_
  refine xa_getf xI xc_12 (by decide) (fun _ => rfl) xw_1309 rfl d_X12_qPartTold_187 (fun x34 _ => ?_)
  refine xa_if (xa_ifeq d_X12_qPartTold_190) (fun q35 => ?_) (fun q35 => ?_)
  · refine xa_step (xa_aload_n d_X12_qPartTold_194 rfl) ?_
    refine xa_step (xa_iconst d_X12_qPartTold_195 xq_i_0) ?_
    refine xa_step (xa_bipush d_X12_qPartTold_196 xq_b_8) ?_
    refine xa_callVI (as := [xI 0, xI 8]) (st := []) (M' := mX12_qWordOf) (d' := 5) rfl xw_1757 xw_1759 xw_91 xw_1760 xw_177 xh_X12_qWordOf rfl ⟨Nat.le_of_ble_eq_true rfl, Nat.le_of_ble_eq_true rfl⟩ (Nat.le_of_ble_eq_true rfl) rfl d_X12_qPartTold_198 (fun r hr => ct_X12_qWordOf l G v0 0 8 h r hr) (fun r36 _ => ?_)
    refine xa_step (xa_istore_n (ls' := [some (xR v0), none, some (xI r36.1), none, none, none]) d_X12_qPartTold_201 (by decide) rfl) ?_
    refine xa_step (xa_iload_n d_X12_qPartTold_202 rfl) ?_
    refine xa_step (xa_iconst d_X12_qPartTold_203 xq_i_m1) ?_
    refine xa_if (xa_icmpeq d_X12_qPartTold_204) (fun q37 => ?_) (fun q37 => ?_)
    · exact xa_weak (ls' := [some (xR v0), none, some (xI r36.1), none, none, none]) ⟨rfl, rfl, trivial⟩ (g_X12_qPartTold_J212 l G v0 r36.1 r36.2)
    · refine xa_step (xa_aload_n d_X12_qPartTold_207 rfl) ?_
      refine xa_step (xa_iload_n d_X12_qPartTold_208 rfl) ?_
      refine xa_callVV (as := [xI r36.1]) (st := []) (M' := mX12_qAsksWord) (d' := 6) rfl xw_1777 xw_1779 xw_96 xw_1780 xw_177 xh_X12_qAsksWord rfl ⟨Nat.le_of_ble_eq_true rfl, Nat.le_of_ble_eq_true rfl⟩ (Nat.le_of_ble_eq_true rfl) rfl d_X12_qPartTold_209 (fun r hr => ct_X12_qAsksWord l G v0 r36.1 r36.2 r hr) (fun r42 _ => ?_)
      exact xa_weak (ls' := [some (xR v0), none, some (xI r36.1), none, none, none]) ⟨rfl, rfl, trivial⟩ (g_X12_qPartTold_J212 l G v0 r36.1 r42)
  · exact xa_vret d_X12_qPartTold_193 rfl rfl
set_option maxRecDepth 100000 in
set_option maxHeartbeats 4000000 in
theorem g_X12_qPartTold (l : Launch) (G : xa_C) (v0 : Int) (h : xa_H) : xa_G l G 7 mX12_qPartTold (f_X12_qPartTold v0 h) (fun r => some (none, r) : xa_H → Option xa_O) 0 [some (xR v0), none, none, none, none, none] [] h := by
  unfold f_X12_qPartTold
  refine xa_step (xa_iconst d_X12_qPartTold_0 xq_i_1) ?_
  refine xa_step (xa_istore_n (ls' := [some (xR v0), some (xI 1), none, none, none, none]) d_X12_qPartTold_1 (by decide) rfl) ?_
  refine xa_weak (ls' := [some (xR v0), some (xI 1), none, none, none, none]) ⟨rfl, rfl, trivial⟩ ?_
  refine xa_loop (f := fun s => f_X12_qPartTold_L2 v0 s.1 s.2) (L := fun s => [some (xR v0), some (xI s.1), none, none, none, none]) (P := fun s => s.2) (X := (fun x K => xa_G l G 7 mX12_qPartTold (some (Sum.inr x)) K 186 [some (xR v0), none, none, none, none, none] [] x)) (fun K hb hX s => g_X12_qPartTold_L2 l G v0 K (fun w0 hh => hb ((w0, hh))) (fun hh => hX hh) s.1 s.2) ?_ xFU ((1, h))
  intro e33 K hK
  refine xa_eqE hK ?_
  show xa_G l G 7 mX12_qPartTold _ _ 186 [some (xR v0), none, none, none, none, none] [] e33
  exact xa_weak (ls' := [some (xR v0), none, none, none, none, none]) ⟨rfl, trivial⟩ (g_X12_qPartTold_J186 l G v0 e33)
theorem ct_X12_qPartTold (l : Launch) (G : xa_C) (v0 : Int) (h : xa_H) (r : xa_H) (hr : f_X12_qPartTold v0 h = some r) : xa_CT l G 7 mX12_qPartTold yX12_qPartTold [xR v0] h (none, r) :=
  xa_met (by decide +kernel) rfl (fun q => by first | rfl | cases q) (Nat.le_of_ble_eq_true rfl) rfl (g_X12_qPartTold l G v0 h) (by rw [hr]; rfl)
abbrev mX12_qSums : xa_M := (cX12_qSums, 3, none, RX12, false)
theorem d_X12_qSums_0 : decode mX12_qSums.1 0 = .ok (.aload_n 0, 1) ∧ 0 + 1 = 1 := ⟨by decide +kernel, rfl⟩
theorem d_X12_qSums_1 : decode mX12_qSums.1 1 = .ok (.getfield 344, 3) ∧ 1 + 3 = 4 := ⟨by decide +kernel, rfl⟩
theorem d_X12_qSums_4 : decode mX12_qSums.1 4 = .ok (.istore_n 1, 1) ∧ 4 + 1 = 5 := ⟨by decide +kernel, rfl⟩
theorem d_X12_qSums_5 : decode mX12_qSums.1 5 = .ok (.aload_n 0, 1) ∧ 5 + 1 = 6 := ⟨by decide +kernel, rfl⟩
theorem d_X12_qSums_6 : decode mX12_qSums.1 6 = .ok (.aload_n 0, 1) ∧ 6 + 1 = 7 := ⟨by decide +kernel, rfl⟩
theorem d_X12_qSums_7 : decode mX12_qSums.1 7 = .ok (.getfield 338, 3) ∧ 7 + 3 = 10 := ⟨by decide +kernel, rfl⟩
theorem d_X12_qSums_10 : decode mX12_qSums.1 10 = .ok (.putfield 344, 3) ∧ 10 + 3 = 13 := ⟨by decide +kernel, rfl⟩
theorem d_X12_qSums_13 : decode mX12_qSums.1 13 = .ok (.iconst 1, 1) ∧ 13 + 1 = 14 := ⟨by decide +kernel, rfl⟩
theorem d_X12_qSums_14 : decode mX12_qSums.1 14 = .ok (.istore_n 2, 1) ∧ 14 + 1 = 15 := ⟨by decide +kernel, rfl⟩
theorem d_X12_qSums_15 : decode mX12_qSums.1 15 = .ok (.iload_n 2, 1) ∧ 15 + 1 = 16 := ⟨by decide +kernel, rfl⟩
theorem d_X12_qSums_16 : decode mX12_qSums.1 16 = .ok (.ifCond .eq 37, 3) ∧ 16 + 3 = 19 ∧ ((16 : Nat) : Int) + 37 = ((53 : Nat) : Int) := ⟨by decide +kernel, rfl, rfl⟩
theorem d_X12_qSums_19 : decode mX12_qSums.1 19 = .ok (.aload_n 0, 1) ∧ 19 + 1 = 20 := ⟨by decide +kernel, rfl⟩
theorem d_X12_qSums_20 : decode mX12_qSums.1 20 = .ok (.getfield 249, 3) ∧ 20 + 3 = 23 := ⟨by decide +kernel, rfl⟩
theorem d_X12_qSums_23 : decode mX12_qSums.1 23 = .ok (.ifCond .ne 30, 3) ∧ 23 + 3 = 26 ∧ ((23 : Nat) : Int) + 30 = ((53 : Nat) : Int) := ⟨by decide +kernel, rfl, rfl⟩
theorem d_X12_qSums_26 : decode mX12_qSums.1 26 = .ok (.aload_n 0, 1) ∧ 26 + 1 = 27 := ⟨by decide +kernel, rfl⟩
theorem d_X12_qSums_27 : decode mX12_qSums.1 27 = .ok (.invokevirtual 630, 3) ∧ 27 + 3 = 30 := ⟨by decide +kernel, rfl⟩
theorem d_X12_qSums_30 : decode mX12_qSums.1 30 = .ok (.aload_n 0, 1) ∧ 30 + 1 = 31 := ⟨by decide +kernel, rfl⟩
theorem d_X12_qSums_31 : decode mX12_qSums.1 31 = .ok (.getfield 249, 3) ∧ 31 + 3 = 34 := ⟨by decide +kernel, rfl⟩
theorem d_X12_qSums_34 : decode mX12_qSums.1 34 = .ok (.ifCond .ne 14, 3) ∧ 34 + 3 = 37 ∧ ((34 : Nat) : Int) + 14 = ((48 : Nat) : Int) := ⟨by decide +kernel, rfl, rfl⟩
theorem d_X12_qSums_37 : decode mX12_qSums.1 37 = .ok (.aload_n 0, 1) ∧ 37 + 1 = 38 := ⟨by decide +kernel, rfl⟩
theorem d_X12_qSums_38 : decode mX12_qSums.1 38 = .ok (.invokevirtual 633, 3) ∧ 38 + 3 = 41 := ⟨by decide +kernel, rfl⟩
theorem d_X12_qSums_41 : decode mX12_qSums.1 41 = .ok (.ifCond .eq 7, 3) ∧ 41 + 3 = 44 ∧ ((41 : Nat) : Int) + 7 = ((48 : Nat) : Int) := ⟨by decide +kernel, rfl, rfl⟩
theorem d_X12_qSums_48 : decode mX12_qSums.1 48 = .ok (.iconst 0, 1) ∧ 48 + 1 = 49 := ⟨by decide +kernel, rfl⟩
theorem d_X12_qSums_49 : decode mX12_qSums.1 49 = .ok (.istore_n 2, 1) ∧ 49 + 1 = 50 := ⟨by decide +kernel, rfl⟩
theorem d_X12_qSums_50 : decode mX12_qSums.1 50 = .ok (.goto (-35), 3) ∧ ((50 : Nat) : Int) + (-35) = ((15 : Nat) : Int) := ⟨by decide +kernel, rfl⟩
theorem d_X12_qSums_44 : decode mX12_qSums.1 44 = .ok (.iconst 1, 1) ∧ 44 + 1 = 45 := ⟨by decide +kernel, rfl⟩
theorem d_X12_qSums_45 : decode mX12_qSums.1 45 = .ok (.goto 4, 3) ∧ ((45 : Nat) : Int) + 4 = ((49 : Nat) : Int) := ⟨by decide +kernel, rfl⟩
set_option maxRecDepth 100000 in
set_option maxHeartbeats 4000000 in
theorem g_X12_qSums_L15 (l : Launch) (G : xa_C) (c0 c1 : Int) (K : (Int × xa_H) ⊕ (xa_H) → Option xa_O) (hb : ∀ (v2 : Int) (h : xa_H), xa_G l G 8 mX12_qSums (some (Sum.inl ((v2, h)))) K 15 [some (xR c0), some (xI c1), some (xI v2)] [] h) (hx : ∀ (h : xa_H), xa_G l G 8 mX12_qSums (some (Sum.inr h)) K 53 [some (xR c0), some (xI c1), none] [] h) : ∀ (v2 : Int) (h : xa_H), xa_G l G 8 mX12_qSums (f_X12_qSums_L15 c0 c1 v2 h) K 15 [some (xR c0), some (xI c1), some (xI v2)] [] h := by
  intro v2 h
  unfold f_X12_qSums_L15
  refine xa_step (xa_iload_n d_X12_qSums_15 rfl) ?_
  refine xa_if (xa_ifeq d_X12_qSums_16) (fun q4 => ?_) (fun q4 => ?_)
  · exact xa_weak (ls' := [some (xR c0), some (xI c1), none]) ⟨rfl, rfl, trivial⟩ (hx h)
  · refine xa_step (xa_aload_n d_X12_qSums_19 rfl) ?_
    refine xa_getf xI xc_12 (by decide) (fun _ => rfl) xw_1309 rfl d_X12_qSums_20 (fun x5 _ => ?_)
    refine xa_if (xa_ifne d_X12_qSums_23) (fun q6 => ?_) (fun q6 => ?_)
    · refine xa_step (xa_aload_n d_X12_qSums_26 rfl) ?_
      refine xa_callVV (as := []) (st := []) (M' := mX12_qPartTold) (d' := 7) rfl xw_1753 xw_1755 xw_90 xw_1756 xw_177 xh_X12_qPartTold rfl ⟨Nat.le_of_ble_eq_true rfl, Nat.le_of_ble_eq_true rfl⟩ (Nat.le_of_ble_eq_true rfl) rfl d_X12_qSums_27 (fun r hr => ct_X12_qPartTold l G c0 h r hr) (fun r7 _ => ?_)
      refine xa_step (xa_aload_n d_X12_qSums_30 rfl) ?_
      refine xa_getf xI xc_12 (by decide) (fun _ => rfl) xw_1309 rfl d_X12_qSums_31 (fun x8 _ => ?_)
      refine xa_if (xa_ifne d_X12_qSums_34) (fun q9 => ?_) (fun q9 => ?_)
      · refine xa_step (xa_aload_n d_X12_qSums_37 rfl) ?_
        refine xa_callVI (as := []) (st := []) (M' := mX12_qGoesOn) (d' := 5) rfl xw_1789 xw_1791 xw_99 xw_1792 xw_177 xh_X12_qGoesOn rfl ⟨Nat.le_of_ble_eq_true rfl, Nat.le_of_ble_eq_true rfl⟩ (Nat.le_of_ble_eq_true rfl) rfl d_X12_qSums_38 (fun r hr => ct_X12_qGoesOn l G c0 r7 r hr) (fun r10 _ => ?_)
        refine xa_if (xa_ifeq d_X12_qSums_41) (fun q11 => ?_) (fun q11 => ?_)
        · refine xa_step (xa_iconst d_X12_qSums_48 xq_i_0) ?_
          refine xa_step (xa_istore_n (ls' := [some (xR c0), some (xI c1), some (xI 0)]) d_X12_qSums_49 (by decide) rfl) ?_
          refine xa_step (xa_goto d_X12_qSums_50) ?_
          exact xa_weak (ls' := [some (xR c0), some (xI c1), some (xI 0)]) ⟨rfl, rfl, rfl, trivial⟩ (hb 0 r10.2)
        · refine xa_step (xa_iconst d_X12_qSums_44 xq_i_1) ?_
          refine xa_step (xa_goto d_X12_qSums_45) ?_
          refine xa_step (xa_istore_n (ls' := [some (xR c0), some (xI c1), some (xI 1)]) d_X12_qSums_49 (by decide) rfl) ?_
          refine xa_step (xa_goto d_X12_qSums_50) ?_
          exact xa_weak (ls' := [some (xR c0), some (xI c1), some (xI 1)]) ⟨rfl, rfl, rfl, trivial⟩ (hb 1 r10.2)
      · refine xa_step (xa_iconst d_X12_qSums_48 xq_i_0) ?_
        refine xa_step (xa_istore_n (ls' := [some (xR c0), some (xI c1), some (xI 0)]) d_X12_qSums_49 (by decide) rfl) ?_
        refine xa_step (xa_goto d_X12_qSums_50) ?_
        exact xa_weak (ls' := [some (xR c0), some (xI c1), some (xI 0)]) ⟨rfl, rfl, rfl, trivial⟩ (hb 0 r7)
    · exact xa_weak (ls' := [some (xR c0), some (xI c1), none]) ⟨rfl, rfl, trivial⟩ (hx h)
theorem d_X12_qSums_53 : decode mX12_qSums.1 53 = .ok (.aload_n 0, 1) ∧ 53 + 1 = 54 := ⟨by decide +kernel, rfl⟩
theorem d_X12_qSums_54 : decode mX12_qSums.1 54 = .ok (.getfield 249, 3) ∧ 54 + 3 = 57 := ⟨by decide +kernel, rfl⟩
theorem d_X12_qSums_57 : decode mX12_qSums.1 57 = .ok (.ifCond .ne 21, 3) ∧ 57 + 3 = 60 ∧ ((57 : Nat) : Int) + 21 = ((78 : Nat) : Int) := ⟨by decide +kernel, rfl, rfl⟩
theorem d_X12_qSums_60 : decode mX12_qSums.1 60 = .ok (.aload_n 0, 1) ∧ 60 + 1 = 61 := ⟨by decide +kernel, rfl⟩
theorem d_X12_qSums_61 : decode mX12_qSums.1 61 = .ok (.getfield 338, 3) ∧ 61 + 3 = 64 := ⟨by decide +kernel, rfl⟩
theorem d_X12_qSums_64 : decode mX12_qSums.1 64 = .ok (.aload_n 0, 1) ∧ 64 + 1 = 65 := ⟨by decide +kernel, rfl⟩
theorem d_X12_qSums_65 : decode mX12_qSums.1 65 = .ok (.getfield 344, 3) ∧ 65 + 3 = 68 := ⟨by decide +kernel, rfl⟩
theorem d_X12_qSums_68 : decode mX12_qSums.1 68 = .ok (.if_icmp .le 10, 3) ∧ 68 + 3 = 71 ∧ ((68 : Nat) : Int) + 10 = ((78 : Nat) : Int) := ⟨by decide +kernel, rfl, rfl⟩
theorem d_X12_qSums_71 : decode mX12_qSums.1 71 = .ok (.aload_n 0, 1) ∧ 71 + 1 = 72 := ⟨by decide +kernel, rfl⟩
theorem d_X12_qSums_72 : decode mX12_qSums.1 72 = .ok (.invokevirtual 600, 3) ∧ 72 + 3 = 75 := ⟨by decide +kernel, rfl⟩
theorem d_X12_qSums_75 : decode mX12_qSums.1 75 = .ok (.goto (-22), 3) ∧ ((75 : Nat) : Int) + (-22) = ((53 : Nat) : Int) := ⟨by decide +kernel, rfl⟩
set_option maxRecDepth 100000 in
set_option maxHeartbeats 4000000 in
theorem g_X12_qSums_L53 (l : Launch) (G : xa_C) (c0 c1 : Int) (K : (xa_H) ⊕ (xa_H) → Option xa_O) (hb : ∀ (h : xa_H), xa_G l G 8 mX12_qSums (some (Sum.inl h)) K 53 [some (xR c0), some (xI c1), none] [] h) (hx : ∀ (h : xa_H), xa_G l G 8 mX12_qSums (some (Sum.inr h)) K 78 [some (xR c0), some (xI c1), none] [] h) : ∀ (h : xa_H), xa_G l G 8 mX12_qSums (f_X12_qSums_L53 c0 c1 h) K 53 [some (xR c0), some (xI c1), none] [] h := by
  intro h
  unfold f_X12_qSums_L53
  refine xa_step (xa_aload_n d_X12_qSums_53 rfl) ?_
  refine xa_getf xI xc_12 (by decide) (fun _ => rfl) xw_1309 rfl d_X12_qSums_54 (fun x13 _ => ?_)
  refine xa_if (xa_ifne d_X12_qSums_57) (fun q14 => ?_) (fun q14 => ?_)
  · refine xa_step (xa_aload_n d_X12_qSums_60 rfl) ?_
    refine xa_getf xI xc_12 (by decide) (fun _ => rfl) xw_1404 rfl d_X12_qSums_61 (fun x15 _ => ?_)
    refine xa_step (xa_aload_n d_X12_qSums_64 rfl) ?_
    refine xa_getf xI xc_12 (by decide) (fun _ => rfl) xw_1406 rfl d_X12_qSums_65 (fun x16 _ => ?_)
    refine xa_if (xa_icmple d_X12_qSums_68) (fun q17 => ?_) (fun q17 => ?_)
    · refine xa_step (xa_aload_n d_X12_qSums_71 rfl) ?_
      refine xa_callVV (as := []) (st := []) (M' := mX12_qDrops) (d' := 3) rfl xw_1785 xw_1787 xw_98 xw_1788 xw_177 xh_X12_qDrops rfl ⟨Nat.le_of_ble_eq_true rfl, Nat.le_of_ble_eq_true rfl⟩ (Nat.le_of_ble_eq_true rfl) rfl d_X12_qSums_72 (fun r hr => ct_X12_qDrops l G c0 h r hr) (fun r18 _ => ?_)
      refine xa_step (xa_goto d_X12_qSums_75) ?_
      exact xa_weak (ls' := [some (xR c0), some (xI c1), none]) ⟨rfl, rfl, trivial⟩ (hb r18)
    · exact xa_weak (ls' := [some (xR c0), some (xI c1), none]) ⟨rfl, rfl, trivial⟩ (hx h)
  · exact xa_weak (ls' := [some (xR c0), some (xI c1), none]) ⟨rfl, rfl, trivial⟩ (hx h)
theorem d_X12_qSums_78 : decode mX12_qSums.1 78 = .ok (.aload_n 0, 1) ∧ 78 + 1 = 79 := ⟨by decide +kernel, rfl⟩
theorem d_X12_qSums_79 : decode mX12_qSums.1 79 = .ok (.iload_n 1, 1) ∧ 79 + 1 = 80 := ⟨by decide +kernel, rfl⟩
theorem d_X12_qSums_80 : decode mX12_qSums.1 80 = .ok (.putfield 344, 3) ∧ 80 + 3 = 83 := ⟨by decide +kernel, rfl⟩
theorem d_X12_qSums_83 : decode mX12_qSums.1 83 = .ok (.return_, 1) := by decide +kernel
set_option maxRecDepth 100000 in
set_option maxHeartbeats 4000000 in
theorem g_X12_qSums (l : Launch) (G : xa_C) (v0 : Int) (h : xa_H) : xa_G l G 8 mX12_qSums (f_X12_qSums v0 h) (fun r => some (none, r) : xa_H → Option xa_O) 0 [some (xR v0), none, none] [] h := by
  unfold f_X12_qSums
  refine xa_step (xa_aload_n d_X12_qSums_0 rfl) ?_
  refine xa_getf xI xc_12 (by decide) (fun _ => rfl) xw_1406 rfl d_X12_qSums_1 (fun x1 _ => ?_)
  refine xa_step (xa_istore_n (ls' := [some (xR v0), some (xI x1), none]) d_X12_qSums_4 (by decide) rfl) ?_
  refine xa_step (xa_aload_n d_X12_qSums_5 rfl) ?_
  refine xa_step (xa_aload_n d_X12_qSums_6 rfl) ?_
  refine xa_getf xI xc_12 (by decide) (fun _ => rfl) xw_1404 rfl d_X12_qSums_7 (fun x2 _ => ?_)
  refine xa_putf2 (tg := xI) xc_12 (by decide) (fun _ => rfl) rfl (fun c hc => xa_fitI c hc) xw_1406 rfl d_X12_qSums_10 (fun h3 _ => ?_)
  refine xa_step (xa_iconst d_X12_qSums_13 xq_i_1) ?_
  refine xa_step (xa_istore_n (ls' := [some (xR v0), some (xI x1), some (xI 1)]) d_X12_qSums_14 (by decide) rfl) ?_
  refine xa_weak (ls' := [some (xR v0), some (xI x1), some (xI 1)]) ⟨rfl, rfl, rfl, trivial⟩ ?_
  refine xa_loop (f := fun s => f_X12_qSums_L15 v0 x1 s.1 s.2) (L := fun s => [some (xR v0), some (xI x1), some (xI s.1)]) (P := fun s => s.2) (X := (fun x K => xa_G l G 8 mX12_qSums (some (Sum.inr x)) K 53 [some (xR v0), some (xI x1), none] [] x)) (fun K hb hX s => g_X12_qSums_L15 l G v0 x1 K (fun w0 hh => hb ((w0, hh))) (fun hh => hX hh) s.1 s.2) ?_ xFU ((1, h3))
  intro e12 K hK
  refine xa_eqE hK ?_
  show xa_G l G 8 mX12_qSums _ _ 53 [some (xR v0), some (xI x1), none] [] e12
  refine xa_weak (ls' := [some (xR v0), some (xI x1), none]) ⟨rfl, rfl, trivial⟩ ?_
  refine xa_loop (f := fun s => f_X12_qSums_L53 v0 x1 s) (L := fun s => [some (xR v0), some (xI x1), none]) (P := fun s => s) (X := (fun x K => xa_G l G 8 mX12_qSums (some (Sum.inr x)) K 78 [some (xR v0), some (xI x1), none] [] x)) (fun K hb hX s => g_X12_qSums_L53 l G v0 x1 K (fun hh => hb hh) (fun hh => hX hh) s) ?_ xFU e12
  intro e19 K hK
  refine xa_eqE hK ?_
  show xa_G l G 8 mX12_qSums _ _ 78 [some (xR v0), some (xI x1), none] [] e19
  refine xa_step (xa_aload_n d_X12_qSums_78 rfl) ?_
  refine xa_step (xa_iload_n d_X12_qSums_79 rfl) ?_
  refine xa_putf2 (tg := xI) xc_12 (by decide) (fun _ => rfl) rfl (fun c hc => xa_fitI c hc) xw_1406 rfl d_X12_qSums_80 (fun h20 _ => ?_)
  exact xa_vret d_X12_qSums_83 rfl rfl
theorem ct_X12_qSums (l : Launch) (G : xa_C) (v0 : Int) (h : xa_H) (r : xa_H) (hr : f_X12_qSums v0 h = some r) : xa_CT l G 8 mX12_qSums yX12_qSums [xR v0] h (none, r) :=
  xa_met (by decide +kernel) rfl (fun q => by first | rfl | cases q) (Nat.le_of_ble_eq_true rfl) rfl (g_X12_qSums l G v0 h) (by rw [hr]; rfl)
abbrev mX12_qTakes : xa_M := (cX12_qTakes, 6, none, RX12, false)
theorem d_X12_qTakes_0 : decode mX12_qTakes.1 0 = .ok (.iload_n 1, 1) ∧ 0 + 1 = 1 := ⟨by decide +kernel, rfl⟩
theorem d_X12_qTakes_1 : decode mX12_qTakes.1 1 = .ok (.iconst 3, 1) ∧ 1 + 1 = 2 := ⟨by decide +kernel, rfl⟩
theorem d_X12_qTakes_2 : decode mX12_qTakes.1 2 = .ok (.if_icmp .ge 13, 3) ∧ 2 + 3 = 5 ∧ ((2 : Nat) : Int) + 13 = ((15 : Nat) : Int) := ⟨by decide +kernel, rfl, rfl⟩
theorem d_X12_qTakes_5 : decode mX12_qTakes.1 5 = .ok (.lload_n 2, 1) ∧ 5 + 1 = 6 := ⟨by decide +kernel, rfl⟩
theorem d_X12_qTakes_6 : decode mX12_qTakes.1 6 = .ok (.lconst 1, 1) ∧ 6 + 1 = 7 := ⟨by decide +kernel, rfl⟩
theorem d_X12_qTakes_7 : decode mX12_qTakes.1 7 = .ok (.lcmp, 1) ∧ 7 + 1 = 8 := ⟨by decide +kernel, rfl⟩
theorem d_X12_qTakes_8 : decode mX12_qTakes.1 8 = .ok (.ifCond .ne 7, 3) ∧ 8 + 3 = 11 ∧ ((8 : Nat) : Int) + 7 = ((15 : Nat) : Int) := ⟨by decide +kernel, rfl, rfl⟩
theorem d_X12_qTakes_11 : decode mX12_qTakes.1 11 = .ok (.iconst 1, 1) ∧ 11 + 1 = 12 := ⟨by decide +kernel, rfl⟩
theorem d_X12_qTakes_12 : decode mX12_qTakes.1 12 = .ok (.goto 4, 3) ∧ ((12 : Nat) : Int) + 4 = ((16 : Nat) : Int) := ⟨by decide +kernel, rfl⟩
theorem d_X12_qTakes_16 : decode mX12_qTakes.1 16 = .ok (.istore 5, 2) ∧ 16 + 2 = 18 := ⟨by decide +kernel, rfl⟩
theorem d_X12_qTakes_18 : decode mX12_qTakes.1 18 = .ok (.iload_n 1, 1) ∧ 18 + 1 = 19 := ⟨by decide +kernel, rfl⟩
theorem d_X12_qTakes_19 : decode mX12_qTakes.1 19 = .ok (.ifCond .ne 19, 3) ∧ 19 + 3 = 22 ∧ ((19 : Nat) : Int) + 19 = ((38 : Nat) : Int) := ⟨by decide +kernel, rfl, rfl⟩
theorem d_X12_qTakes_22 : decode mX12_qTakes.1 22 = .ok (.iload 5, 2) ∧ 22 + 2 = 24 := ⟨by decide +kernel, rfl⟩
theorem d_X12_qTakes_24 : decode mX12_qTakes.1 24 = .ok (.ifCond .eq 14, 3) ∧ 24 + 3 = 27 ∧ ((24 : Nat) : Int) + 14 = ((38 : Nat) : Int) := ⟨by decide +kernel, rfl, rfl⟩
theorem d_X12_qTakes_38 : decode mX12_qTakes.1 38 = .ok (.iload_n 1, 1) ∧ 38 + 1 = 39 := ⟨by decide +kernel, rfl⟩
theorem d_X12_qTakes_39 : decode mX12_qTakes.1 39 = .ok (.iconst 1, 1) ∧ 39 + 1 = 40 := ⟨by decide +kernel, rfl⟩
theorem d_X12_qTakes_40 : decode mX12_qTakes.1 40 = .ok (.if_icmp .ne 15, 3) ∧ 40 + 3 = 43 ∧ ((40 : Nat) : Int) + 15 = ((55 : Nat) : Int) := ⟨by decide +kernel, rfl, rfl⟩
theorem d_X12_qTakes_43 : decode mX12_qTakes.1 43 = .ok (.iload 5, 2) ∧ 43 + 2 = 45 := ⟨by decide +kernel, rfl⟩
theorem d_X12_qTakes_45 : decode mX12_qTakes.1 45 = .ok (.ifCond .eq 10, 3) ∧ 45 + 3 = 48 ∧ ((45 : Nat) : Int) + 10 = ((55 : Nat) : Int) := ⟨by decide +kernel, rfl, rfl⟩
theorem d_X12_qTakes_55 : decode mX12_qTakes.1 55 = .ok (.iload_n 1, 1) ∧ 55 + 1 = 56 := ⟨by decide +kernel, rfl⟩
theorem d_X12_qTakes_56 : decode mX12_qTakes.1 56 = .ok (.iconst 2, 1) ∧ 56 + 1 = 57 := ⟨by decide +kernel, rfl⟩
theorem d_X12_qTakes_57 : decode mX12_qTakes.1 57 = .ok (.if_icmp .ne 18, 3) ∧ 57 + 3 = 60 ∧ ((57 : Nat) : Int) + 18 = ((75 : Nat) : Int) := ⟨by decide +kernel, rfl, rfl⟩
theorem d_X12_qTakes_60 : decode mX12_qTakes.1 60 = .ok (.iload 5, 2) ∧ 60 + 2 = 62 := ⟨by decide +kernel, rfl⟩
theorem d_X12_qTakes_62 : decode mX12_qTakes.1 62 = .ok (.ifCond .eq 13, 3) ∧ 62 + 3 = 65 ∧ ((62 : Nat) : Int) + 13 = ((75 : Nat) : Int) := ⟨by decide +kernel, rfl, rfl⟩
theorem d_X12_qTakes_75 : decode mX12_qTakes.1 75 = .ok (.iload_n 1, 1) ∧ 75 + 1 = 76 := ⟨by decide +kernel, rfl⟩
theorem d_X12_qTakes_76 : decode mX12_qTakes.1 76 = .ok (.iconst 3, 1) ∧ 76 + 1 = 77 := ⟨by decide +kernel, rfl⟩
theorem d_X12_qTakes_77 : decode mX12_qTakes.1 77 = .ok (.if_icmp .ne 13, 3) ∧ 77 + 3 = 80 ∧ ((77 : Nat) : Int) + 13 = ((90 : Nat) : Int) := ⟨by decide +kernel, rfl, rfl⟩
theorem d_X12_qTakes_80 : decode mX12_qTakes.1 80 = .ok (.aload_n 0, 1) ∧ 80 + 1 = 81 := ⟨by decide +kernel, rfl⟩
theorem d_X12_qTakes_81 : decode mX12_qTakes.1 81 = .ok (.dup, 1) ∧ 81 + 1 = 82 := ⟨by decide +kernel, rfl⟩
theorem d_X12_qTakes_82 : decode mX12_qTakes.1 82 = .ok (.getfield 664, 3) ∧ 82 + 3 = 85 := ⟨by decide +kernel, rfl⟩
theorem d_X12_qTakes_85 : decode mX12_qTakes.1 85 = .ok (.lload_n 2, 1) ∧ 85 + 1 = 86 := ⟨by decide +kernel, rfl⟩
theorem d_X12_qTakes_86 : decode mX12_qTakes.1 86 = .ok (.ladd, 1) ∧ 86 + 1 = 87 := ⟨by decide +kernel, rfl⟩
theorem d_X12_qTakes_87 : decode mX12_qTakes.1 87 = .ok (.putfield 664, 3) ∧ 87 + 3 = 90 := ⟨by decide +kernel, rfl⟩
theorem d_X12_qTakes_90 : decode mX12_qTakes.1 90 = .ok (.iload_n 1, 1) ∧ 90 + 1 = 91 := ⟨by decide +kernel, rfl⟩
theorem d_X12_qTakes_91 : decode mX12_qTakes.1 91 = .ok (.iconst 3, 1) ∧ 91 + 1 = 92 := ⟨by decide +kernel, rfl⟩
theorem d_X12_qTakes_92 : decode mX12_qTakes.1 92 = .ok (.if_icmp .le 41, 3) ∧ 92 + 3 = 95 ∧ ((92 : Nat) : Int) + 41 = ((133 : Nat) : Int) := ⟨by decide +kernel, rfl, rfl⟩
theorem d_X12_qTakes_95 : decode mX12_qTakes.1 95 = .ok (.aload_n 0, 1) ∧ 95 + 1 = 96 := ⟨by decide +kernel, rfl⟩
theorem d_X12_qTakes_96 : decode mX12_qTakes.1 96 = .ok (.getfield 669, 3) ∧ 96 + 3 = 99 := ⟨by decide +kernel, rfl⟩
theorem d_X12_qTakes_99 : decode mX12_qTakes.1 99 = .ok (.ifCond .ne 29, 3) ∧ 99 + 3 = 102 ∧ ((99 : Nat) : Int) + 29 = ((128 : Nat) : Int) := ⟨by decide +kernel, rfl, rfl⟩
theorem d_X12_qTakes_102 : decode mX12_qTakes.1 102 = .ok (.iload_n 1, 1) ∧ 102 + 1 = 103 := ⟨by decide +kernel, rfl⟩
theorem d_X12_qTakes_103 : decode mX12_qTakes.1 103 = .ok (.iconst 4, 1) ∧ 103 + 1 = 104 := ⟨by decide +kernel, rfl⟩
theorem d_X12_qTakes_104 : decode mX12_qTakes.1 104 = .ok (.if_icmp .ne 15, 3) ∧ 104 + 3 = 107 ∧ ((104 : Nat) : Int) + 15 = ((119 : Nat) : Int) := ⟨by decide +kernel, rfl, rfl⟩
theorem d_X12_qTakes_107 : decode mX12_qTakes.1 107 = .ok (.lload_n 2, 1) ∧ 107 + 1 = 108 := ⟨by decide +kernel, rfl⟩
theorem d_X12_qTakes_108 : decode mX12_qTakes.1 108 = .ok (.aload_n 0, 1) ∧ 108 + 1 = 109 := ⟨by decide +kernel, rfl⟩
theorem d_X12_qTakes_109 : decode mX12_qTakes.1 109 = .ok (.getfield 664, 3) ∧ 109 + 3 = 112 := ⟨by decide +kernel, rfl⟩
theorem d_X12_qTakes_112 : decode mX12_qTakes.1 112 = .ok (.lcmp, 1) ∧ 112 + 1 = 113 := ⟨by decide +kernel, rfl⟩
theorem d_X12_qTakes_113 : decode mX12_qTakes.1 113 = .ok (.ifCond .le 20, 3) ∧ 113 + 3 = 116 ∧ ((113 : Nat) : Int) + 20 = ((133 : Nat) : Int) := ⟨by decide +kernel, rfl, rfl⟩
theorem d_X12_qTakes_116 : decode mX12_qTakes.1 116 = .ok (.goto 12, 3) ∧ ((116 : Nat) : Int) + 12 = ((128 : Nat) : Int) := ⟨by decide +kernel, rfl⟩
theorem d_X12_qTakes_128 : decode mX12_qTakes.1 128 = .ok (.aload_n 0, 1) ∧ 128 + 1 = 129 := ⟨by decide +kernel, rfl⟩
theorem d_X12_qTakes_129 : decode mX12_qTakes.1 129 = .ok (.lload_n 2, 1) ∧ 129 + 1 = 130 := ⟨by decide +kernel, rfl⟩
theorem d_X12_qTakes_130 : decode mX12_qTakes.1 130 = .ok (.putfield 664, 3) ∧ 130 + 3 = 133 := ⟨by decide +kernel, rfl⟩
theorem d_X12_qTakes_133 : decode mX12_qTakes.1 133 = .ok (.aload_n 0, 1) ∧ 133 + 1 = 134 := ⟨by decide +kernel, rfl⟩
theorem d_X12_qTakes_134 : decode mX12_qTakes.1 134 = .ok (.iconst 0, 1) ∧ 134 + 1 = 135 := ⟨by decide +kernel, rfl⟩
theorem d_X12_qTakes_135 : decode mX12_qTakes.1 135 = .ok (.putfield 669, 3) ∧ 135 + 3 = 138 := ⟨by decide +kernel, rfl⟩
theorem d_X12_qTakes_138 : decode mX12_qTakes.1 138 = .ok (.return_, 1) := by decide +kernel
theorem d_X12_qTakes_119 : decode mX12_qTakes.1 119 = .ok (.lload_n 2, 1) ∧ 119 + 1 = 120 := ⟨by decide +kernel, rfl⟩
theorem d_X12_qTakes_120 : decode mX12_qTakes.1 120 = .ok (.aload_n 0, 1) ∧ 120 + 1 = 121 := ⟨by decide +kernel, rfl⟩
theorem d_X12_qTakes_121 : decode mX12_qTakes.1 121 = .ok (.getfield 664, 3) ∧ 121 + 3 = 124 := ⟨by decide +kernel, rfl⟩
theorem d_X12_qTakes_124 : decode mX12_qTakes.1 124 = .ok (.lcmp, 1) ∧ 124 + 1 = 125 := ⟨by decide +kernel, rfl⟩
theorem d_X12_qTakes_125 : decode mX12_qTakes.1 125 = .ok (.ifCond .ge 8, 3) ∧ 125 + 3 = 128 ∧ ((125 : Nat) : Int) + 8 = ((133 : Nat) : Int) := ⟨by decide +kernel, rfl, rfl⟩
set_option maxRecDepth 100000 in
set_option maxHeartbeats 4000000 in
theorem g_X12_qTakes_J90 (l : Launch) (G : xa_C) : ∀ (v0 v1 v2 : Int) (h : xa_H) , xa_G l G 2 mX12_qTakes (f_X12_qTakes_J90 v0 v1 v2 h) (fun r => some (none, r) : xa_H → Option xa_O) 90 [some (xR v0), some (xI v1), some (xL v2), none, none, none] [] h := by
  intro v0 v1 v2 h
  unfold f_X12_qTakes_J90
  refine xa_step (xa_iload_n d_X12_qTakes_90 rfl) ?_
  refine xa_step (xa_iconst d_X12_qTakes_91 xq_i_3) ?_
  refine xa_if (xa_icmple d_X12_qTakes_92) (fun q12 => ?_) (fun q12 => ?_)
  · refine xa_step (xa_aload_n d_X12_qTakes_95 rfl) ?_
    refine xa_getf xI xc_12 (by decide) (fun _ => rfl) xw_1410 rfl d_X12_qTakes_96 (fun x13 _ => ?_)
    refine xa_if (xa_ifne d_X12_qTakes_99) (fun q14 => ?_) (fun q14 => ?_)
    · refine xa_step (xa_iload_n d_X12_qTakes_102 rfl) ?_
      refine xa_step (xa_iconst d_X12_qTakes_103 xq_i_4) ?_
      refine xa_if (xa_icmpne d_X12_qTakes_104) (fun q15 => ?_) (fun q15 => ?_)
      · refine xa_step (xa_lload_n d_X12_qTakes_107 rfl) ?_
        refine xa_step (xa_aload_n d_X12_qTakes_108 rfl) ?_
        refine xa_getf xL xc_12 (by decide) (fun _ => rfl) xw_1409 rfl d_X12_qTakes_109 (fun x16 _ => ?_)
        refine xa_step (xa_lcmp d_X12_qTakes_112) ?_
        refine xa_if (xa_ifle d_X12_qTakes_113) (fun q17 => ?_) (fun q17 => ?_)
        · refine xa_step (xa_goto d_X12_qTakes_116) ?_
          refine xa_step (xa_aload_n d_X12_qTakes_128 rfl) ?_
          refine xa_step (xa_lload_n d_X12_qTakes_129 rfl) ?_
          refine xa_putf2 (tg := xL) xc_12 (by decide) (fun _ => rfl) rfl (fun c hc => xa_fitL c hc) xw_1409 rfl d_X12_qTakes_130 (fun h18 _ => ?_)
          refine xa_step (xa_aload_n d_X12_qTakes_133 rfl) ?_
          refine xa_step (xa_iconst d_X12_qTakes_134 xq_i_0) ?_
          refine xa_putf2 (tg := xI) xc_12 (by decide) (fun _ => rfl) rfl (fun c hc => (xa_fitZ (Or.inl rfl)) c hc) xw_1410 rfl d_X12_qTakes_135 (fun h19 _ => ?_)
          exact xa_vret d_X12_qTakes_138 rfl rfl
        · refine xa_step (xa_aload_n d_X12_qTakes_133 rfl) ?_
          refine xa_step (xa_iconst d_X12_qTakes_134 xq_i_0) ?_
          refine xa_putf2 (tg := xI) xc_12 (by decide) (fun _ => rfl) rfl (fun c hc => (xa_fitZ (Or.inl rfl)) c hc) xw_1410 rfl d_X12_qTakes_135 (fun h20 _ => ?_)
          exact xa_vret d_X12_qTakes_138 rfl rfl
      · refine xa_step (xa_lload_n d_X12_qTakes_119 rfl) ?_
        refine xa_step (xa_aload_n d_X12_qTakes_120 rfl) ?_
        refine xa_getf xL xc_12 (by decide) (fun _ => rfl) xw_1409 rfl d_X12_qTakes_121 (fun x21 _ => ?_)
        refine xa_step (xa_lcmp d_X12_qTakes_124) ?_
        refine xa_if (xa_ifge d_X12_qTakes_125) (fun q22 => ?_) (fun q22 => ?_)
        · refine xa_step (xa_aload_n d_X12_qTakes_128 rfl) ?_
          refine xa_step (xa_lload_n d_X12_qTakes_129 rfl) ?_
          refine xa_putf2 (tg := xL) xc_12 (by decide) (fun _ => rfl) rfl (fun c hc => xa_fitL c hc) xw_1409 rfl d_X12_qTakes_130 (fun h23 _ => ?_)
          refine xa_step (xa_aload_n d_X12_qTakes_133 rfl) ?_
          refine xa_step (xa_iconst d_X12_qTakes_134 xq_i_0) ?_
          refine xa_putf2 (tg := xI) xc_12 (by decide) (fun _ => rfl) rfl (fun c hc => (xa_fitZ (Or.inl rfl)) c hc) xw_1410 rfl d_X12_qTakes_135 (fun h24 _ => ?_)
          exact xa_vret d_X12_qTakes_138 rfl rfl
        · refine xa_step (xa_aload_n d_X12_qTakes_133 rfl) ?_
          refine xa_step (xa_iconst d_X12_qTakes_134 xq_i_0) ?_
          refine xa_putf2 (tg := xI) xc_12 (by decide) (fun _ => rfl) rfl (fun c hc => (xa_fitZ (Or.inl rfl)) c hc) xw_1410 rfl d_X12_qTakes_135 (fun h25 _ => ?_)
          exact xa_vret d_X12_qTakes_138 rfl rfl
    · refine xa_step (xa_aload_n d_X12_qTakes_128 rfl) ?_
      refine xa_step (xa_lload_n d_X12_qTakes_129 rfl) ?_
      refine xa_putf2 (tg := xL) xc_12 (by decide) (fun _ => rfl) rfl (fun c hc => xa_fitL c hc) xw_1409 rfl d_X12_qTakes_130 (fun h26 _ => ?_)
      refine xa_step (xa_aload_n d_X12_qTakes_133 rfl) ?_
      refine xa_step (xa_iconst d_X12_qTakes_134 xq_i_0) ?_
      refine xa_putf2 (tg := xI) xc_12 (by decide) (fun _ => rfl) rfl (fun c hc => (xa_fitZ (Or.inl rfl)) c hc) xw_1410 rfl d_X12_qTakes_135 (fun h27 _ => ?_)
      exact xa_vret d_X12_qTakes_138 rfl rfl
  · refine xa_step (xa_aload_n d_X12_qTakes_133 rfl) ?_
    refine xa_step (xa_iconst d_X12_qTakes_134 xq_i_0) ?_
    refine xa_putf2 (tg := xI) xc_12 (by decide) (fun _ => rfl) rfl (fun c hc => (xa_fitZ (Or.inl rfl)) c hc) xw_1410 rfl d_X12_qTakes_135 (fun h28 _ => ?_)
    exact xa_vret d_X12_qTakes_138 rfl rfl
set_option maxRecDepth 100000 in
set_option maxHeartbeats 4000000 in
theorem g_X12_qTakes_J75 (l : Launch) (G : xa_C) : ∀ (v0 v1 v2 : Int) (h : xa_H) , xa_G l G 2 mX12_qTakes (f_X12_qTakes_J75 v0 v1 v2 h) (fun r => some (none, r) : xa_H → Option xa_O) 75 [some (xR v0), some (xI v1), some (xL v2), none, none, none] [] h := by
  intro v0 v1 v2 h
  unfold f_X12_qTakes_J75
  refine xa_step (xa_iload_n d_X12_qTakes_75 rfl) ?_
  refine xa_step (xa_iconst d_X12_qTakes_76 xq_i_3) ?_
  refine xa_if (xa_icmpne d_X12_qTakes_77) (fun q9 => ?_) (fun q9 => ?_)
  · refine xa_step (xa_aload_n d_X12_qTakes_80 rfl) ?_
    refine xa_step (xa_dup d_X12_qTakes_81 (xa_tR _)) ?_
    refine xa_getf xL xc_12 (by decide) (fun _ => rfl) xw_1409 rfl d_X12_qTakes_82 (fun x10 _ => ?_)
    refine xa_step (xa_lload_n d_X12_qTakes_85 rfl) ?_
    refine xa_step (xa_ladd d_X12_qTakes_86) ?_
    refine xa_putf2 (tg := xL) xc_12 (by decide) (fun _ => rfl) rfl (fun c hc => xa_fitL c hc) xw_1409 rfl d_X12_qTakes_87 (fun h11 _ => ?_)
    exact xa_weak (ls' := [some (xR v0), some (xI v1), some (xL v2), none, none, none]) ⟨rfl, rfl, rfl, trivial⟩ (g_X12_qTakes_J90 l G v0 v1 v2 h11)
  · exact xa_weak (ls' := [some (xR v0), some (xI v1), some (xL v2), none, none, none]) ⟨rfl, rfl, rfl, trivial⟩ (g_X12_qTakes_J90 l G v0 v1 v2 h)
theorem d_X12_qTakes_65 : decode mX12_qTakes.1 65 = .ok (.aload_n 0, 1) ∧ 65 + 1 = 66 := ⟨by decide +kernel, rfl⟩
theorem d_X12_qTakes_66 : decode mX12_qTakes.1 66 = .ok (.dup, 1) ∧ 66 + 1 = 67 := ⟨by decide +kernel, rfl⟩
theorem d_X12_qTakes_67 : decode mX12_qTakes.1 67 = .ok (.getfield 664, 3) ∧ 67 + 3 = 70 := ⟨by decide +kernel, rfl⟩
theorem d_X12_qTakes_70 : decode mX12_qTakes.1 70 = .ok (.lconst 1, 1) ∧ 70 + 1 = 71 := ⟨by decide +kernel, rfl⟩
theorem d_X12_qTakes_71 : decode mX12_qTakes.1 71 = .ok (.ladd, 1) ∧ 71 + 1 = 72 := ⟨by decide +kernel, rfl⟩
theorem d_X12_qTakes_72 : decode mX12_qTakes.1 72 = .ok (.putfield 664, 3) ∧ 72 + 3 = 75 := ⟨by decide +kernel, rfl⟩
set_option maxRecDepth 100000 in
set_option maxHeartbeats 4000000 in
theorem g_X12_qTakes_J55 (l : Launch) (G : xa_C) : ∀ (v0 v1 v2 v5 : Int) (h : xa_H) , xa_G l G 2 mX12_qTakes (f_X12_qTakes_J55 v0 v1 v2 v5 h) (fun r => some (none, r) : xa_H → Option xa_O) 55 [some (xR v0), some (xI v1), some (xL v2), none, none, some (xI v5)] [] h := by
  intro v0 v1 v2 v5 h
  unfold f_X12_qTakes_J55
  refine xa_step (xa_iload_n d_X12_qTakes_55 rfl) ?_
  refine xa_step (xa_iconst d_X12_qTakes_56 xq_i_2) ?_
  refine xa_if (xa_icmpne d_X12_qTakes_57) (fun q7 => ?_) (fun q7 => ?_)
  · refine xa_step (xa_iload d_X12_qTakes_60 rfl) ?_
    refine xa_if (xa_ifeq d_X12_qTakes_62) (fun q8 => ?_) (fun q8 => ?_)
    · exact xa_weak (ls' := [some (xR v0), some (xI v1), some (xL v2), none, none, none]) ⟨rfl, rfl, rfl, trivial⟩ (g_X12_qTakes_J75 l G v0 v1 v2 h)
    · refine xa_step (xa_aload_n d_X12_qTakes_65 rfl) ?_
      refine xa_step (xa_dup d_X12_qTakes_66 (xa_tR _)) ?_
      refine xa_getf xL xc_12 (by decide) (fun _ => rfl) xw_1409 rfl d_X12_qTakes_67 (fun x29 _ => ?_)
      refine xa_step (xa_lconst d_X12_qTakes_70 rfl) ?_
      refine xa_step (xa_ladd d_X12_qTakes_71) ?_
      refine xa_putf2 (tg := xL) xc_12 (by decide) (fun _ => rfl) rfl (fun c hc => xa_fitL c hc) xw_1409 rfl d_X12_qTakes_72 (fun h30 _ => ?_)
      exact xa_weak (ls' := [some (xR v0), some (xI v1), some (xL v2), none, none, none]) ⟨rfl, rfl, rfl, trivial⟩ (g_X12_qTakes_J75 l G v0 v1 v2 h30)
  · exact xa_weak (ls' := [some (xR v0), some (xI v1), some (xL v2), none, none, none]) ⟨rfl, rfl, rfl, trivial⟩ (g_X12_qTakes_J75 l G v0 v1 v2 h)
theorem d_X12_qTakes_48 : decode mX12_qTakes.1 48 = .ok (.aload_n 0, 1) ∧ 48 + 1 = 49 := ⟨by decide +kernel, rfl⟩
theorem d_X12_qTakes_49 : decode mX12_qTakes.1 49 = .ok (.iload 4, 2) ∧ 49 + 2 = 51 := ⟨by decide +kernel, rfl⟩
theorem d_X12_qTakes_51 : decode mX12_qTakes.1 51 = .ok (.i2l, 1) ∧ 51 + 1 = 52 := ⟨by decide +kernel, rfl⟩
theorem d_X12_qTakes_52 : decode mX12_qTakes.1 52 = .ok (.putfield 664, 3) ∧ 52 + 3 = 55 := ⟨by decide +kernel, rfl⟩
set_option maxRecDepth 100000 in
set_option maxHeartbeats 4000000 in
theorem g_X12_qTakes_J48 (l : Launch) (G : xa_C) : ∀ (v0 v1 v2 v4 v5 : Int) (h : xa_H) , xa_G l G 2 mX12_qTakes (f_X12_qTakes_J48 v0 v1 v2 v4 v5 h) (fun r => some (none, r) : xa_H → Option xa_O) 48 [some (xR v0), some (xI v1), some (xL v2), none, some (xI v4), some (xI v5)] [] h := by
  intro v0 v1 v2 v4 v5 h
  unfold f_X12_qTakes_J48
  refine xa_step (xa_aload_n d_X12_qTakes_48 rfl) ?_
  refine xa_step (xa_iload d_X12_qTakes_49 rfl) ?_
  refine xa_step (xa_i2l d_X12_qTakes_51) ?_
  refine xa_putf2 (tg := xL) xc_12 (by decide) (fun _ => rfl) rfl (fun c hc => xa_fitL c hc) xw_1409 rfl d_X12_qTakes_52 (fun h31 _ => ?_)
  exact xa_weak (ls' := [some (xR v0), some (xI v1), some (xL v2), none, none, some (xI v5)]) ⟨rfl, rfl, rfl, rfl, trivial⟩ (g_X12_qTakes_J55 l G v0 v1 v2 v5 h31)
set_option maxRecDepth 100000 in
set_option maxHeartbeats 4000000 in
theorem g_X12_qTakes_J38 (l : Launch) (G : xa_C) : ∀ (v0 v1 v2 v4 v5 : Int) (h : xa_H) , xa_G l G 2 mX12_qTakes (f_X12_qTakes_J38 v0 v1 v2 v4 v5 h) (fun r => some (none, r) : xa_H → Option xa_O) 38 [some (xR v0), some (xI v1), some (xL v2), none, some (xI v4), some (xI v5)] [] h := by
  intro v0 v1 v2 v4 v5 h
  unfold f_X12_qTakes_J38
  refine xa_step (xa_iload_n d_X12_qTakes_38 rfl) ?_
  refine xa_step (xa_iconst d_X12_qTakes_39 xq_i_1) ?_
  refine xa_if (xa_icmpne d_X12_qTakes_40) (fun q5 => ?_) (fun q5 => ?_)
  · refine xa_step (xa_iload d_X12_qTakes_43 rfl) ?_
    refine xa_if (xa_ifeq d_X12_qTakes_45) (fun q6 => ?_) (fun q6 => ?_)
    · exact xa_weak (ls' := [some (xR v0), some (xI v1), some (xL v2), none, none, some (xI v5)]) ⟨rfl, rfl, rfl, rfl, trivial⟩ (g_X12_qTakes_J55 l G v0 v1 v2 v5 h)
    · exact xa_weak (ls' := [some (xR v0), some (xI v1), some (xL v2), none, some (xI v4), some (xI v5)]) ⟨rfl, rfl, rfl, rfl, rfl, trivial⟩ (g_X12_qTakes_J48 l G v0 v1 v2 v4 v5 h)
  · exact xa_weak (ls' := [some (xR v0), some (xI v1), some (xL v2), none, none, some (xI v5)]) ⟨rfl, rfl, rfl, rfl, trivial⟩ (g_X12_qTakes_J55 l G v0 v1 v2 v5 h)
theorem d_X12_qTakes_27 : decode mX12_qTakes.1 27 = .ok (.aload_n 0, 1) ∧ 27 + 1 = 28 := ⟨by decide +kernel, rfl⟩
theorem d_X12_qTakes_28 : decode mX12_qTakes.1 28 = .ok (.getfield 664, 3) ∧ 28 + 3 = 31 := ⟨by decide +kernel, rfl⟩
theorem d_X12_qTakes_31 : decode mX12_qTakes.1 31 = .ok (.ldc2_w 667, 3) ∧ 31 + 3 = 34 := ⟨by decide +kernel, rfl⟩
theorem d_X12_qTakes_34 : decode mX12_qTakes.1 34 = .ok (.lcmp, 1) ∧ 34 + 1 = 35 := ⟨by decide +kernel, rfl⟩
theorem d_X12_qTakes_35 : decode mX12_qTakes.1 35 = .ok (.ifCond .eq 13, 3) ∧ 35 + 3 = 38 ∧ ((35 : Nat) : Int) + 13 = ((48 : Nat) : Int) := ⟨by decide +kernel, rfl, rfl⟩
set_option maxRecDepth 100000 in
set_option maxHeartbeats 4000000 in
theorem g_X12_qTakes_J16 (l : Launch) (G : xa_C) : ∀ (v0 v1 v2 v4 s0 : Int) (h : xa_H) , xa_G l G 2 mX12_qTakes (f_X12_qTakes_J16 v0 v1 v2 v4 s0 h) (fun r => some (none, r) : xa_H → Option xa_O) 16 [some (xR v0), some (xI v1), some (xL v2), none, some (xI v4), none] [xI s0] h := by
  intro v0 v1 v2 v4 s0 h
  unfold f_X12_qTakes_J16
  refine xa_step (xa_istore (ls' := [some (xR v0), some (xI v1), some (xL v2), none, some (xI v4), some (xI s0)]) d_X12_qTakes_16 (by decide) rfl) ?_
  refine xa_step (xa_iload_n d_X12_qTakes_18 rfl) ?_
  refine xa_if (xa_ifne d_X12_qTakes_19) (fun q3 => ?_) (fun q3 => ?_)
  · refine xa_step (xa_iload d_X12_qTakes_22 rfl) ?_
    refine xa_if (xa_ifeq d_X12_qTakes_24) (fun q4 => ?_) (fun q4 => ?_)
    · exact xa_weak (ls' := [some (xR v0), some (xI v1), some (xL v2), none, some (xI v4), some (xI s0)]) ⟨rfl, rfl, rfl, rfl, rfl, trivial⟩ (g_X12_qTakes_J38 l G v0 v1 v2 v4 s0 h)
    · refine xa_step (xa_aload_n d_X12_qTakes_27 rfl) ?_
      refine xa_getf xL xc_12 (by decide) (fun _ => rfl) xw_1409 rfl d_X12_qTakes_28 (fun x32 _ => ?_)
      refine xa_step (xa_ldc2 (c64 := (-1)) (v := (-1)) (by decide +kernel) xw_2134 d_X12_qTakes_31) ?_
      refine xa_step (xa_lcmp d_X12_qTakes_34) ?_
      refine xa_if (xa_ifeq d_X12_qTakes_35) (fun q33 => ?_) (fun q33 => ?_)
      · exact xa_weak (ls' := [some (xR v0), some (xI v1), some (xL v2), none, some (xI v4), some (xI s0)]) ⟨rfl, rfl, rfl, rfl, rfl, trivial⟩ (g_X12_qTakes_J48 l G v0 v1 v2 v4 s0 h)
      · exact xa_weak (ls' := [some (xR v0), some (xI v1), some (xL v2), none, some (xI v4), some (xI s0)]) ⟨rfl, rfl, rfl, rfl, rfl, trivial⟩ (g_X12_qTakes_J38 l G v0 v1 v2 v4 s0 h)
  · exact xa_weak (ls' := [some (xR v0), some (xI v1), some (xL v2), none, some (xI v4), some (xI s0)]) ⟨rfl, rfl, rfl, rfl, rfl, trivial⟩ (g_X12_qTakes_J38 l G v0 v1 v2 v4 s0 h)
theorem d_X12_qTakes_15 : decode mX12_qTakes.1 15 = .ok (.iconst 0, 1) ∧ 15 + 1 = 16 := ⟨by decide +kernel, rfl⟩
set_option maxRecDepth 100000 in
set_option maxHeartbeats 4000000 in
theorem g_X12_qTakes_J15 (l : Launch) (G : xa_C) : ∀ (v0 v1 v2 v4 : Int) (h : xa_H) , xa_G l G 2 mX12_qTakes (f_X12_qTakes_J15 v0 v1 v2 v4 h) (fun r => some (none, r) : xa_H → Option xa_O) 15 [some (xR v0), some (xI v1), some (xL v2), none, some (xI v4), none] [] h := by
  intro v0 v1 v2 v4 h
  unfold f_X12_qTakes_J15
  refine xa_step (xa_iconst d_X12_qTakes_15 xq_i_0) ?_
  exact xa_weak (ls' := [some (xR v0), some (xI v1), some (xL v2), none, some (xI v4), none]) ⟨rfl, rfl, rfl, rfl, trivial⟩ (g_X12_qTakes_J16 l G v0 v1 v2 v4 0 h)
set_option maxRecDepth 100000 in
set_option maxHeartbeats 4000000 in
theorem g_X12_qTakes (l : Launch) (G : xa_C) (v0 v1 v2 v4 : Int) (h : xa_H) : xa_G l G 2 mX12_qTakes (f_X12_qTakes v0 v1 v2 v4 h) (fun r => some (none, r) : xa_H → Option xa_O) 0 [some (xR v0), some (xI v1), some (xL v2), none, some (xI v4), none] [] h := by
  unfold f_X12_qTakes
  refine xa_step (xa_iload_n d_X12_qTakes_0 rfl) ?_
  refine xa_step (xa_iconst d_X12_qTakes_1 xq_i_3) ?_
  refine xa_if (xa_icmpge d_X12_qTakes_2) (fun q1 => ?_) (fun q1 => ?_)
  · refine xa_step (xa_lload_n d_X12_qTakes_5 rfl) ?_
    refine xa_step (xa_lconst d_X12_qTakes_6 rfl) ?_
    refine xa_step (xa_lcmp d_X12_qTakes_7) ?_
    refine xa_if (xa_ifne d_X12_qTakes_8) (fun q2 => ?_) (fun q2 => ?_)
    · refine xa_step (xa_iconst d_X12_qTakes_11 xq_i_1) ?_
      refine xa_step (xa_goto d_X12_qTakes_12) ?_
      exact xa_weak (ls' := [some (xR v0), some (xI v1), some (xL v2), none, some (xI v4), none]) ⟨rfl, rfl, rfl, rfl, trivial⟩ (g_X12_qTakes_J16 l G v0 v1 v2 v4 1 h)
    · exact xa_weak (ls' := [some (xR v0), some (xI v1), some (xL v2), none, some (xI v4), none]) ⟨rfl, rfl, rfl, rfl, trivial⟩ (g_X12_qTakes_J15 l G v0 v1 v2 v4 h)
  · exact xa_weak (ls' := [some (xR v0), some (xI v1), some (xL v2), none, some (xI v4), none]) ⟨rfl, rfl, rfl, rfl, trivial⟩ (g_X12_qTakes_J15 l G v0 v1 v2 v4 h)
theorem ct_X12_qTakes (l : Launch) (G : xa_C) (v0 v1 v2 v4 : Int) (h : xa_H) (r : xa_H) (hr : f_X12_qTakes v0 v1 v2 v4 h = some r) : xa_CT l G 2 mX12_qTakes yX12_qTakes [xR v0, xI v1, xL v2, xI v4] h (none, r) :=
  xa_met (by decide +kernel) rfl (fun q => by first | rfl | cases q) (Nat.le_of_ble_eq_true rfl) rfl (g_X12_qTakes l G v0 v1 v2 v4 h) (by rw [hr]; rfl)
abbrev mX12_qDropsNots : xa_M := (cX12_qDropsNots, 1, none, RX12, false)
theorem d_X12_qDropsNots_0 : decode mX12_qDropsNots.1 0 = .ok (.aload_n 0, 1) ∧ 0 + 1 = 1 := ⟨by decide +kernel, rfl⟩
theorem d_X12_qDropsNots_1 : decode mX12_qDropsNots.1 1 = .ok (.getfield 249, 3) ∧ 1 + 3 = 4 := ⟨by decide +kernel, rfl⟩
theorem d_X12_qDropsNots_4 : decode mX12_qDropsNots.1 4 = .ok (.ifCond .ne 29, 3) ∧ 4 + 3 = 7 ∧ ((4 : Nat) : Int) + 29 = ((33 : Nat) : Int) := ⟨by decide +kernel, rfl, rfl⟩
theorem d_X12_qDropsNots_7 : decode mX12_qDropsNots.1 7 = .ok (.aload_n 0, 1) ∧ 7 + 1 = 8 := ⟨by decide +kernel, rfl⟩
theorem d_X12_qDropsNots_8 : decode mX12_qDropsNots.1 8 = .ok (.bipush 12, 2) ∧ 8 + 2 = 10 := ⟨by decide +kernel, rfl⟩
theorem d_X12_qDropsNots_10 : decode mX12_qDropsNots.1 10 = .ok (.invokevirtual 627, 3) ∧ 10 + 3 = 13 := ⟨by decide +kernel, rfl⟩
theorem d_X12_qDropsNots_13 : decode mX12_qDropsNots.1 13 = .ok (.ifCond .eq 20, 3) ∧ 13 + 3 = 16 ∧ ((13 : Nat) : Int) + 20 = ((33 : Nat) : Int) := ⟨by decide +kernel, rfl, rfl⟩
theorem d_X12_qDropsNots_16 : decode mX12_qDropsNots.1 16 = .ok (.aload_n 0, 1) ∧ 16 + 1 = 17 := ⟨by decide +kernel, rfl⟩
theorem d_X12_qDropsNots_17 : decode mX12_qDropsNots.1 17 = .ok (.dup, 1) ∧ 17 + 1 = 18 := ⟨by decide +kernel, rfl⟩
theorem d_X12_qDropsNots_18 : decode mX12_qDropsNots.1 18 = .ok (.getfield 341, 3) ∧ 18 + 3 = 21 := ⟨by decide +kernel, rfl⟩
theorem d_X12_qDropsNots_21 : decode mX12_qDropsNots.1 21 = .ok (.iconst 1, 1) ∧ 21 + 1 = 22 := ⟨by decide +kernel, rfl⟩
theorem d_X12_qDropsNots_22 : decode mX12_qDropsNots.1 22 = .ok (.isub, 1) ∧ 22 + 1 = 23 := ⟨by decide +kernel, rfl⟩
theorem d_X12_qDropsNots_23 : decode mX12_qDropsNots.1 23 = .ok (.putfield 341, 3) ∧ 23 + 3 = 26 := ⟨by decide +kernel, rfl⟩
theorem d_X12_qDropsNots_26 : decode mX12_qDropsNots.1 26 = .ok (.aload_n 0, 1) ∧ 26 + 1 = 27 := ⟨by decide +kernel, rfl⟩
theorem d_X12_qDropsNots_27 : decode mX12_qDropsNots.1 27 = .ok (.invokevirtual 600, 3) ∧ 27 + 3 = 30 := ⟨by decide +kernel, rfl⟩
theorem d_X12_qDropsNots_30 : decode mX12_qDropsNots.1 30 = .ok (.goto (-30), 3) ∧ ((30 : Nat) : Int) + (-30) = ((0 : Nat) : Int) := ⟨by decide +kernel, rfl⟩
set_option maxRecDepth 100000 in
set_option maxHeartbeats 4000000 in
theorem g_X12_qDropsNots_L0 (l : Launch) (G : xa_C) (c0 : Int) (K : (xa_H) ⊕ (xa_H) → Option xa_O) (hb : ∀ (h : xa_H), xa_G l G 4 mX12_qDropsNots (some (Sum.inl h)) K 0 [some (xR c0)] [] h) (hx : ∀ (h : xa_H), xa_G l G 4 mX12_qDropsNots (some (Sum.inr h)) K 33 [none] [] h) : ∀ (h : xa_H), xa_G l G 4 mX12_qDropsNots (f_X12_qDropsNots_L0 c0 h) K 0 [some (xR c0)] [] h := by
  intro h
  unfold f_X12_qDropsNots_L0
  refine xa_step (xa_aload_n d_X12_qDropsNots_0 rfl) ?_
  refine xa_getf xI xc_12 (by decide) (fun _ => rfl) xw_1309 rfl d_X12_qDropsNots_1 (fun x1 _ => ?_)
  refine xa_if (xa_ifne d_X12_qDropsNots_4) (fun q2 => ?_) (fun q2 => ?_)
  · refine xa_step (xa_aload_n d_X12_qDropsNots_7 rfl) ?_
    refine xa_step (xa_bipush d_X12_qDropsNots_8 xq_b_12) ?_
    refine xa_callVi (as := [xI 12]) (st := []) (M' := mX12_qIsOn) (d' := 2) rfl xw_1804 xw_1806 xw_102 xw_1807 xw_177 xh_X12_qIsOn rfl ⟨Nat.le_of_ble_eq_true rfl, Nat.le_of_ble_eq_true rfl⟩ (Nat.le_of_ble_eq_true rfl) rfl d_X12_qDropsNots_10 (fun r hr => ct_X12_qIsOn l G c0 12 h r hr) (fun r3 _ => ?_)
    refine xa_if (xa_ifeq d_X12_qDropsNots_13) (fun q4 => ?_) (fun q4 => ?_)
    · exact xa_weak (ls' := [none]) trivial (hx h)
    · refine xa_step (xa_aload_n d_X12_qDropsNots_16 rfl) ?_
      refine xa_step (xa_dup d_X12_qDropsNots_17 (xa_tR _)) ?_
      refine xa_getf xI xc_12 (by decide) (fun _ => rfl) xw_1405 rfl d_X12_qDropsNots_18 (fun x5 _ => ?_)
      refine xa_step (xa_iconst d_X12_qDropsNots_21 xq_i_1) ?_
      refine xa_step (xa_isub d_X12_qDropsNots_22) ?_
      refine xa_putf2 (tg := xI) xc_12 (by decide) (fun _ => rfl) rfl (fun c hc => xa_fitI c hc) xw_1405 rfl d_X12_qDropsNots_23 (fun h6 _ => ?_)
      refine xa_step (xa_aload_n d_X12_qDropsNots_26 rfl) ?_
      refine xa_callVV (as := []) (st := []) (M' := mX12_qDrops) (d' := 3) rfl xw_1785 xw_1787 xw_98 xw_1788 xw_177 xh_X12_qDrops rfl ⟨Nat.le_of_ble_eq_true rfl, Nat.le_of_ble_eq_true rfl⟩ (Nat.le_of_ble_eq_true rfl) rfl d_X12_qDropsNots_27 (fun r hr => ct_X12_qDrops l G c0 h6 r hr) (fun r7 _ => ?_)
      refine xa_step (xa_goto d_X12_qDropsNots_30) ?_
      exact xa_weak (ls' := [some (xR c0)]) ⟨rfl, trivial⟩ (hb r7)
  · exact xa_weak (ls' := [none]) trivial (hx h)
theorem d_X12_qDropsNots_33 : decode mX12_qDropsNots.1 33 = .ok (.return_, 1) := by decide +kernel
set_option maxRecDepth 100000 in
set_option maxHeartbeats 4000000 in
theorem g_X12_qDropsNots (l : Launch) (G : xa_C) (v0 : Int) (h : xa_H) : xa_G l G 4 mX12_qDropsNots (f_X12_qDropsNots v0 h) (fun r => some (none, r) : xa_H → Option xa_O) 0 [some (xR v0)] [] h := by
  unfold f_X12_qDropsNots
  refine xa_weak (ls' := [some (xR v0)]) ⟨rfl, trivial⟩ ?_
  refine xa_loop (f := fun s => f_X12_qDropsNots_L0 v0 s) (L := fun s => [some (xR v0)]) (P := fun s => s) (X := (fun x K => xa_G l G 4 mX12_qDropsNots (some (Sum.inr x)) K 33 [none] [] x)) (fun K hb hX s => g_X12_qDropsNots_L0 l G v0 K (fun hh => hb hh) (fun hh => hX hh) s) ?_ xFU h
  intro e8 K hK
  refine xa_eqE hK ?_
  show xa_G l G 4 mX12_qDropsNots _ _ 33 [none] [] e8
  exact xa_vret d_X12_qDropsNots_33 rfl rfl
theorem ct_X12_qDropsNots (l : Launch) (G : xa_C) (v0 : Int) (h : xa_H) (r : xa_H) (hr : f_X12_qDropsNots v0 h = some r) : xa_CT l G 4 mX12_qDropsNots yX12_qDropsNots [xR v0] h (none, r) :=
  xa_met (by decide +kernel) rfl (fun q => by first | rfl | cases q) (Nat.le_of_ble_eq_true rfl) rfl (g_X12_qDropsNots l G v0 h) (by rw [hr]; rfl)
abbrev mX12_qFact : xa_M := (cX12_qFact, 2, none, RX12, false)
theorem d_X12_qFact_0 : decode mX12_qFact.1 0 = .ok (.aload_n 0, 1) ∧ 0 + 1 = 1 := ⟨by decide +kernel, rfl⟩
theorem d_X12_qFact_1 : decode mX12_qFact.1 1 = .ok (.aload_n 0, 1) ∧ 1 + 1 = 2 := ⟨by decide +kernel, rfl⟩
theorem d_X12_qFact_2 : decode mX12_qFact.1 2 = .ok (.getfield 201, 3) ∧ 2 + 3 = 5 := ⟨by decide +kernel, rfl⟩
theorem d_X12_qFact_5 : decode mX12_qFact.1 5 = .ok (.invokevirtual 276, 3) ∧ 5 + 3 = 8 := ⟨by decide +kernel, rfl⟩
theorem d_X12_qFact_8 : decode mX12_qFact.1 8 = .ok (.ifCond .eq 10, 3) ∧ 8 + 3 = 11 ∧ ((8 : Nat) : Int) + 10 = ((18 : Nat) : Int) := ⟨by decide +kernel, rfl, rfl⟩
theorem d_X12_qFact_18 : decode mX12_qFact.1 18 = .ok (.aload_n 0, 1) ∧ 18 + 1 = 19 := ⟨by decide +kernel, rfl⟩
theorem d_X12_qFact_19 : decode mX12_qFact.1 19 = .ok (.invokevirtual 350, 3) ∧ 19 + 3 = 22 := ⟨by decide +kernel, rfl⟩
theorem d_X12_qFact_22 : decode mX12_qFact.1 22 = .ok (.aload_n 0, 1) ∧ 22 + 1 = 23 := ⟨by decide +kernel, rfl⟩
theorem d_X12_qFact_23 : decode mX12_qFact.1 23 = .ok (.getfield 249, 3) ∧ 23 + 3 = 26 := ⟨by decide +kernel, rfl⟩
theorem d_X12_qFact_26 : decode mX12_qFact.1 26 = .ok (.ifCond .eq 4, 3) ∧ 26 + 3 = 29 ∧ ((26 : Nat) : Int) + 4 = ((30 : Nat) : Int) := ⟨by decide +kernel, rfl, rfl⟩
theorem d_X12_qFact_30 : decode mX12_qFact.1 30 = .ok (.aload_n 0, 1) ∧ 30 + 1 = 31 := ⟨by decide +kernel, rfl⟩
theorem d_X12_qFact_31 : decode mX12_qFact.1 31 = .ok (.invokevirtual 261, 3) ∧ 31 + 3 = 34 := ⟨by decide +kernel, rfl⟩
theorem d_X12_qFact_34 : decode mX12_qFact.1 34 = .ok (.istore_n 1, 1) ∧ 34 + 1 = 35 := ⟨by decide +kernel, rfl⟩
theorem d_X12_qFact_35 : decode mX12_qFact.1 35 = .ok (.iload_n 1, 1) ∧ 35 + 1 = 36 := ⟨by decide +kernel, rfl⟩
theorem d_X12_qFact_36 : decode mX12_qFact.1 36 = .ok (.bipush 60, 2) ∧ 36 + 2 = 38 := ⟨by decide +kernel, rfl⟩
theorem d_X12_qFact_38 : decode mX12_qFact.1 38 = .ok (.if_icmp .eq 25, 3) ∧ 38 + 3 = 41 ∧ ((38 : Nat) : Int) + 25 = ((63 : Nat) : Int) := ⟨by decide +kernel, rfl, rfl⟩
theorem d_X12_qFact_63 : decode mX12_qFact.1 63 = .ok (.aload_n 0, 1) ∧ 63 + 1 = 64 := ⟨by decide +kernel, rfl⟩
theorem d_X12_qFact_64 : decode mX12_qFact.1 64 = .ok (.dup, 1) ∧ 64 + 1 = 65 := ⟨by decide +kernel, rfl⟩
theorem d_X12_qFact_65 : decode mX12_qFact.1 65 = .ok (.getfield 255, 3) ∧ 65 + 3 = 68 := ⟨by decide +kernel, rfl⟩
theorem d_X12_qFact_68 : decode mX12_qFact.1 68 = .ok (.iconst 1, 1) ∧ 68 + 1 = 69 := ⟨by decide +kernel, rfl⟩
theorem d_X12_qFact_69 : decode mX12_qFact.1 69 = .ok (.iadd, 1) ∧ 69 + 1 = 70 := ⟨by decide +kernel, rfl⟩
theorem d_X12_qFact_70 : decode mX12_qFact.1 70 = .ok (.putfield 255, 3) ∧ 70 + 3 = 73 := ⟨by decide +kernel, rfl⟩
theorem d_X12_qFact_73 : decode mX12_qFact.1 73 = .ok (.aload_n 0, 1) ∧ 73 + 1 = 74 := ⟨by decide +kernel, rfl⟩
theorem d_X12_qFact_74 : decode mX12_qFact.1 74 = .ok (.invokevirtual 350, 3) ∧ 74 + 3 = 77 := ⟨by decide +kernel, rfl⟩
theorem d_X12_qFact_77 : decode mX12_qFact.1 77 = .ok (.aload_n 0, 1) ∧ 77 + 1 = 78 := ⟨by decide +kernel, rfl⟩
theorem d_X12_qFact_78 : decode mX12_qFact.1 78 = .ok (.iload_n 1, 1) ∧ 78 + 1 = 79 := ⟨by decide +kernel, rfl⟩
theorem d_X12_qFact_79 : decode mX12_qFact.1 79 = .ok (.bipush 60, 2) ∧ 79 + 2 = 81 := ⟨by decide +kernel, rfl⟩
theorem d_X12_qFact_81 : decode mX12_qFact.1 81 = .ok (.if_icmp .ne 8, 3) ∧ 81 + 3 = 84 ∧ ((81 : Nat) : Int) + 8 = ((89 : Nat) : Int) := ⟨by decide +kernel, rfl, rfl⟩
theorem d_X12_qFact_84 : decode mX12_qFact.1 84 = .ok (.bipush 7, 2) ∧ 84 + 2 = 86 := ⟨by decide +kernel, rfl⟩
theorem d_X12_qFact_86 : decode mX12_qFact.1 86 = .ok (.goto 16, 3) ∧ ((86 : Nat) : Int) + 16 = ((102 : Nat) : Int) := ⟨by decide +kernel, rfl⟩
theorem d_X12_qFact_102 : decode mX12_qFact.1 102 = .ok (.invokevirtual 594, 3) ∧ 102 + 3 = 105 := ⟨by decide +kernel, rfl⟩
theorem d_X12_qFact_105 : decode mX12_qFact.1 105 = .ok (.return_, 1) := by decide +kernel
theorem d_X12_qFact_89 : decode mX12_qFact.1 89 = .ok (.iload_n 1, 1) ∧ 89 + 1 = 90 := ⟨by decide +kernel, rfl⟩
theorem d_X12_qFact_90 : decode mX12_qFact.1 90 = .ok (.bipush 62, 2) ∧ 90 + 2 = 92 := ⟨by decide +kernel, rfl⟩
theorem d_X12_qFact_92 : decode mX12_qFact.1 92 = .ok (.if_icmp .ne 8, 3) ∧ 92 + 3 = 95 ∧ ((92 : Nat) : Int) + 8 = ((100 : Nat) : Int) := ⟨by decide +kernel, rfl, rfl⟩
theorem d_X12_qFact_95 : decode mX12_qFact.1 95 = .ok (.bipush 8, 2) ∧ 95 + 2 = 97 := ⟨by decide +kernel, rfl⟩
theorem d_X12_qFact_97 : decode mX12_qFact.1 97 = .ok (.goto 5, 3) ∧ ((97 : Nat) : Int) + 5 = ((102 : Nat) : Int) := ⟨by decide +kernel, rfl⟩
theorem d_X12_qFact_100 : decode mX12_qFact.1 100 = .ok (.bipush 9, 2) ∧ 100 + 2 = 102 := ⟨by decide +kernel, rfl⟩
set_option maxRecDepth 100000 in
set_option maxHeartbeats 4000000 in
theorem g_X12_qFact_J63 (l : Launch) (G : xa_C) : ∀ (v0 v1 : Int) (h : xa_H) , xa_G l G 9 mX12_qFact (f_X12_qFact_J63 v0 v1 h) (fun r => some (none, r) : xa_H → Option xa_O) 63 [some (xR v0), some (xI v1)] [] h := by
  intro v0 v1 h
  unfold f_X12_qFact_J63
  refine xa_step (xa_aload_n d_X12_qFact_63 rfl) ?_
  refine xa_step (xa_dup d_X12_qFact_64 (xa_tR _)) ?_
  refine xa_getf xI xc_12 (by decide) (fun _ => rfl) xw_1306 rfl d_X12_qFact_65 (fun x9 _ => ?_)
  refine xa_step (xa_iconst d_X12_qFact_68 xq_i_1) ?_
  refine xa_step (xa_iadd d_X12_qFact_69) ?_
  refine xa_putf2 (tg := xI) xc_12 (by decide) (fun _ => rfl) rfl (fun c hc => xa_fitI c hc) xw_1306 rfl d_X12_qFact_70 (fun h10 _ => ?_)
  refine xa_step (xa_aload_n d_X12_qFact_73 rfl) ?_
  refine xa_callVV (as := []) (st := []) (M' := mX12_qSums) (d' := 8) rfl xw_1749 xw_1751 xw_89 xw_1752 xw_177 xh_X12_qSums rfl ⟨Nat.le_of_ble_eq_true rfl, Nat.le_of_ble_eq_true rfl⟩ (Nat.le_of_ble_eq_true rfl) rfl d_X12_qFact_74 (fun r hr => ct_X12_qSums l G v0 h10 r hr) (fun r11 _ => ?_)
  refine xa_step (xa_aload_n d_X12_qFact_77 rfl) ?_
  refine xa_step (xa_iload_n d_X12_qFact_78 rfl) ?_
  refine xa_step (xa_bipush d_X12_qFact_79 xq_b_60) ?_
  refine xa_if (xa_icmpne d_X12_qFact_81) (fun q12 => ?_) (fun q12 => ?_)
  · refine xa_step (xa_bipush d_X12_qFact_84 xq_b_7) ?_
    refine xa_step (xa_goto d_X12_qFact_86) ?_
    refine xa_callVV (as := [xI 7]) (st := []) (M' := mX12_qCode) (d' := 2) rfl xw_1745 xw_1747 xw_88 xw_1748 xw_177 xh_X12_qCode rfl ⟨Nat.le_of_ble_eq_true rfl, Nat.le_of_ble_eq_true rfl⟩ (Nat.le_of_ble_eq_true rfl) rfl d_X12_qFact_102 (fun r hr => ct_X12_qCode l G v0 7 r11 r hr) (fun r13 _ => ?_)
    exact xa_vret d_X12_qFact_105 rfl rfl
  · refine xa_step (xa_iload_n d_X12_qFact_89 rfl) ?_
    refine xa_step (xa_bipush d_X12_qFact_90 xq_b_62) ?_
    refine xa_if (xa_icmpne d_X12_qFact_92) (fun q14 => ?_) (fun q14 => ?_)
    · refine xa_step (xa_bipush d_X12_qFact_95 xq_b_8) ?_
      refine xa_step (xa_goto d_X12_qFact_97) ?_
      refine xa_callVV (as := [xI 8]) (st := []) (M' := mX12_qCode) (d' := 2) rfl xw_1745 xw_1747 xw_88 xw_1748 xw_177 xh_X12_qCode rfl ⟨Nat.le_of_ble_eq_true rfl, Nat.le_of_ble_eq_true rfl⟩ (Nat.le_of_ble_eq_true rfl) rfl d_X12_qFact_102 (fun r hr => ct_X12_qCode l G v0 8 r11 r hr) (fun r15 _ => ?_)
      exact xa_vret d_X12_qFact_105 rfl rfl
    · refine xa_step (xa_bipush d_X12_qFact_100 xq_b_9) ?_
      refine xa_callVV (as := [xI 9]) (st := []) (M' := mX12_qCode) (d' := 2) rfl xw_1745 xw_1747 xw_88 xw_1748 xw_177 xh_X12_qCode rfl ⟨Nat.le_of_ble_eq_true rfl, Nat.le_of_ble_eq_true rfl⟩ (Nat.le_of_ble_eq_true rfl) rfl d_X12_qFact_102 (fun r hr => ct_X12_qCode l G v0 9 r11 r hr) (fun r16 _ => ?_)
      exact xa_vret d_X12_qFact_105 rfl rfl
theorem d_X12_qFact_41 : decode mX12_qFact.1 41 = .ok (.iload_n 1, 1) ∧ 41 + 1 = 42 := ⟨by decide +kernel, rfl⟩
theorem d_X12_qFact_42 : decode mX12_qFact.1 42 = .ok (.bipush 62, 2) ∧ 42 + 2 = 44 := ⟨by decide +kernel, rfl⟩
theorem d_X12_qFact_44 : decode mX12_qFact.1 44 = .ok (.if_icmp .eq 19, 3) ∧ 44 + 3 = 47 ∧ ((44 : Nat) : Int) + 19 = ((63 : Nat) : Int) := ⟨by decide +kernel, rfl, rfl⟩
theorem d_X12_qFact_47 : decode mX12_qFact.1 47 = .ok (.iload_n 1, 1) ∧ 47 + 1 = 48 := ⟨by decide +kernel, rfl⟩
theorem d_X12_qFact_48 : decode mX12_qFact.1 48 = .ok (.bipush 61, 2) ∧ 48 + 2 = 50 := ⟨by decide +kernel, rfl⟩
theorem d_X12_qFact_50 : decode mX12_qFact.1 50 = .ok (.if_icmp .eq 13, 3) ∧ 50 + 3 = 53 ∧ ((50 : Nat) : Int) + 13 = ((63 : Nat) : Int) := ⟨by decide +kernel, rfl, rfl⟩
theorem d_X12_qFact_53 : decode mX12_qFact.1 53 = .ok (.aload_n 0, 1) ∧ 53 + 1 = 54 := ⟨by decide +kernel, rfl⟩
theorem d_X12_qFact_54 : decode mX12_qFact.1 54 = .ok (.iconst 1, 1) ∧ 54 + 1 = 55 := ⟨by decide +kernel, rfl⟩
theorem d_X12_qFact_55 : decode mX12_qFact.1 55 = .ok (.aload_n 0, 1) ∧ 55 + 1 = 56 := ⟨by decide +kernel, rfl⟩
theorem d_X12_qFact_56 : decode mX12_qFact.1 56 = .ok (.getfield 255, 3) ∧ 56 + 3 = 59 := ⟨by decide +kernel, rfl⟩
theorem d_X12_qFact_59 : decode mX12_qFact.1 59 = .ok (.invokevirtual 279, 3) ∧ 59 + 3 = 62 := ⟨by decide +kernel, rfl⟩
theorem d_X12_qFact_62 : decode mX12_qFact.1 62 = .ok (.return_, 1) := by decide +kernel
theorem d_X12_qFact_29 : decode mX12_qFact.1 29 = .ok (.return_, 1) := by decide +kernel
theorem d_X12_qFact_11 : decode mX12_qFact.1 11 = .ok (.aload_n 0, 1) ∧ 11 + 1 = 12 := ⟨by decide +kernel, rfl⟩
theorem d_X12_qFact_12 : decode mX12_qFact.1 12 = .ok (.bipush 13, 2) ∧ 12 + 2 = 14 := ⟨by decide +kernel, rfl⟩
theorem d_X12_qFact_14 : decode mX12_qFact.1 14 = .ok (.invokevirtual 594, 3) ∧ 14 + 3 = 17 := ⟨by decide +kernel, rfl⟩
theorem d_X12_qFact_17 : decode mX12_qFact.1 17 = .ok (.return_, 1) := by decide +kernel
set_option maxRecDepth 100000 in
set_option maxHeartbeats 4000000 in
theorem g_X12_qFact (l : Launch) (G : xa_C) (v0 : Int) (h : xa_H) : xa_G l G 9 mX12_qFact (f_X12_qFact v0 h) (fun r => some (none, r) : xa_H → Option xa_O) 0 [some (xR v0), none] [] h := by
  unfold f_X12_qFact
  refine xa_step (xa_aload_n d_X12_qFact_0 rfl) ?_
  refine xa_step (xa_aload_n d_X12_qFact_1 rfl) ?_
  refine xa_getf xR xc_12 (by decide) (fun _ => rfl) xw_1390 rfl d_X12_qFact_2 (fun x1 _ => ?_)
  refine xa_callVI (as := [xR x1]) (st := []) (M' := mX12_takes) (d' := 4) rfl xw_1658 xw_1660 xw_69 xw_1661 xw_177 xh_X12_takes rfl ⟨Nat.le_of_ble_eq_true rfl, Nat.le_of_ble_eq_true rfl⟩ (Nat.le_of_ble_eq_true rfl) rfl d_X12_qFact_5 (fun r hr => ct_X12_takes l G v0 x1 h r hr) (fun r2 _ => ?_)
  refine xa_if (xa_ifeq d_X12_qFact_8) (fun q3 => ?_) (fun q3 => ?_)
  · refine xa_step (xa_aload_n d_X12_qFact_18 rfl) ?_
    refine xa_callVV (as := []) (st := []) (M' := mX12_qSums) (d' := 8) rfl xw_1749 xw_1751 xw_89 xw_1752 xw_177 xh_X12_qSums rfl ⟨Nat.le_of_ble_eq_true rfl, Nat.le_of_ble_eq_true rfl⟩ (Nat.le_of_ble_eq_true rfl) rfl d_X12_qFact_19 (fun r hr => ct_X12_qSums l G v0 r2.2 r hr) (fun r4 _ => ?_)
    refine xa_step (xa_aload_n d_X12_qFact_22 rfl) ?_
    refine xa_getf xI xc_12 (by decide) (fun _ => rfl) xw_1309 rfl d_X12_qFact_23 (fun x5 _ => ?_)
    refine xa_if (xa_ifeq d_X12_qFact_26) (fun q6 => ?_) (fun q6 => ?_)
    · refine xa_step (xa_aload_n d_X12_qFact_30 rfl) ?_
      refine xa_callVI (as := []) (st := []) (M' := mX12_look) (d' := 2) rfl xw_1646 xw_1648 xw_66 xw_1649 xw_177 xh_X12_look rfl ⟨Nat.le_of_ble_eq_true rfl, Nat.le_of_ble_eq_true rfl⟩ (Nat.le_of_ble_eq_true rfl) rfl d_X12_qFact_31 (fun r hr => ct_X12_look l G v0 r4 r hr) (fun r7 _ => ?_)
      refine xa_step (xa_istore_n (ls' := [some (xR v0), some (xI r7.1)]) d_X12_qFact_34 (by decide) rfl) ?_
      refine xa_step (xa_iload_n d_X12_qFact_35 rfl) ?_
      refine xa_step (xa_bipush d_X12_qFact_36 xq_b_60) ?_
      refine xa_if (xa_icmpeq d_X12_qFact_38) (fun q8 => ?_) (fun q8 => ?_)
      · exact xa_weak (ls' := [some (xR v0), some (xI r7.1)]) ⟨rfl, rfl, trivial⟩ (g_X12_qFact_J63 l G v0 r7.1 r7.2)
      · refine xa_step (xa_iload_n d_X12_qFact_41 rfl) ?_
        refine xa_step (xa_bipush d_X12_qFact_42 xq_b_62) ?_
        refine xa_if (xa_icmpeq d_X12_qFact_44) (fun q17 => ?_) (fun q17 => ?_)
        · exact xa_weak (ls' := [some (xR v0), some (xI r7.1)]) ⟨rfl, rfl, trivial⟩ (g_X12_qFact_J63 l G v0 r7.1 r7.2)
        · refine xa_step (xa_iload_n d_X12_qFact_47 rfl) ?_
          refine xa_step (xa_bipush d_X12_qFact_48 xq_b_61) ?_
          refine xa_if (xa_icmpeq d_X12_qFact_50) (fun q18 => ?_) (fun q18 => ?_)
          · exact xa_weak (ls' := [some (xR v0), some (xI r7.1)]) ⟨rfl, rfl, trivial⟩ (g_X12_qFact_J63 l G v0 r7.1 r7.2)
          · refine xa_step (xa_aload_n d_X12_qFact_53 rfl) ?_
            refine xa_step (xa_iconst d_X12_qFact_54 xq_i_1) ?_
            refine xa_step (xa_aload_n d_X12_qFact_55 rfl) ?_
            refine xa_getf xI xc_12 (by decide) (fun _ => rfl) xw_1306 rfl d_X12_qFact_56 (fun x19 _ => ?_)
            refine xa_callVV (as := [xI 1, xI x19]) (st := []) (M' := mX12_fail) (d' := 2) rfl xw_1654 xw_1656 xw_68 xw_1657 xw_177 xh_X12_fail rfl ⟨Nat.le_of_ble_eq_true rfl, Nat.le_of_ble_eq_true rfl⟩ (Nat.le_of_ble_eq_true rfl) rfl d_X12_qFact_59 (fun r hr => ct_X12_fail l G v0 1 x19 r7.2 r hr) (fun r20 _ => ?_)
            exact xa_vret d_X12_qFact_62 rfl rfl
    · exact xa_vret d_X12_qFact_29 rfl rfl
  · refine xa_step (xa_aload_n d_X12_qFact_11 rfl) ?_
    refine xa_step (xa_bipush d_X12_qFact_12 xq_b_13) ?_
    refine xa_callVV (as := [xI 13]) (st := []) (M' := mX12_qCode) (d' := 2) rfl xw_1745 xw_1747 xw_88 xw_1748 xw_177 xh_X12_qCode rfl ⟨Nat.le_of_ble_eq_true rfl, Nat.le_of_ble_eq_true rfl⟩ (Nat.le_of_ble_eq_true rfl) rfl d_X12_qFact_14 (fun r hr => ct_X12_qCode l G v0 13 r2.2 r hr) (fun r21 _ => ?_)
    exact xa_vret d_X12_qFact_17 rfl rfl
theorem ct_X12_qFact (l : Launch) (G : xa_C) (v0 : Int) (h : xa_H) (r : xa_H) (hr : f_X12_qFact v0 h = some r) : xa_CT l G 9 mX12_qFact yX12_qFact [xR v0] h (none, r) :=
  xa_met (by decide +kernel) rfl (fun q => by first | rfl | cases q) (Nat.le_of_ble_eq_true rfl) rfl (g_X12_qFact l G v0 h) (by rw [hr]; rfl)
abbrev mX12_qHasSquare : xa_M := (cX12_qHasSquare, 2, (some (.boolean)), RX12, false)
theorem d_X12_qHasSquare_0 : decode mX12_qHasSquare.1 0 = .ok (.iconst 0, 1) ∧ 0 + 1 = 1 := ⟨by decide +kernel, rfl⟩
theorem d_X12_qHasSquare_1 : decode mX12_qHasSquare.1 1 = .ok (.istore_n 1, 1) ∧ 1 + 1 = 2 := ⟨by decide +kernel, rfl⟩
theorem d_X12_qHasSquare_2 : decode mX12_qHasSquare.1 2 = .ok (.iload_n 1, 1) ∧ 2 + 1 = 3 := ⟨by decide +kernel, rfl⟩
theorem d_X12_qHasSquare_3 : decode mX12_qHasSquare.1 3 = .ok (.aload_n 0, 1) ∧ 3 + 1 = 4 := ⟨by decide +kernel, rfl⟩
theorem d_X12_qHasSquare_4 : decode mX12_qHasSquare.1 4 = .ok (.getfield 338, 3) ∧ 4 + 3 = 7 := ⟨by decide +kernel, rfl⟩
theorem d_X12_qHasSquare_7 : decode mX12_qHasSquare.1 7 = .ok (.if_icmp .ge 22, 3) ∧ 7 + 3 = 10 ∧ ((7 : Nat) : Int) + 22 = ((29 : Nat) : Int) := ⟨by decide +kernel, rfl, rfl⟩
theorem d_X12_qHasSquare_10 : decode mX12_qHasSquare.1 10 = .ok (.aload_n 0, 1) ∧ 10 + 1 = 11 := ⟨by decide +kernel, rfl⟩
theorem d_X12_qHasSquare_11 : decode mX12_qHasSquare.1 11 = .ok (.getfield 237, 3) ∧ 11 + 3 = 14 := ⟨by decide +kernel, rfl⟩
theorem d_X12_qHasSquare_14 : decode mX12_qHasSquare.1 14 = .ok (.iload_n 1, 1) ∧ 14 + 1 = 15 := ⟨by decide +kernel, rfl⟩
theorem d_X12_qHasSquare_15 : decode mX12_qHasSquare.1 15 = .ok (.iaload, 1) ∧ 15 + 1 = 16 := ⟨by decide +kernel, rfl⟩
theorem d_X12_qHasSquare_16 : decode mX12_qHasSquare.1 16 = .ok (.bipush 25, 2) ∧ 16 + 2 = 18 := ⟨by decide +kernel, rfl⟩
theorem d_X12_qHasSquare_18 : decode mX12_qHasSquare.1 18 = .ok (.if_icmp .ne 5, 3) ∧ 18 + 3 = 21 ∧ ((18 : Nat) : Int) + 5 = ((23 : Nat) : Int) := ⟨by decide +kernel, rfl, rfl⟩
theorem d_X12_qHasSquare_21 : decode mX12_qHasSquare.1 21 = .ok (.iconst 1, 1) ∧ 21 + 1 = 22 := ⟨by decide +kernel, rfl⟩
theorem d_X12_qHasSquare_22 : decode mX12_qHasSquare.1 22 = .ok (.ireturn, 1) := by decide +kernel
theorem d_X12_qHasSquare_23 : decode mX12_qHasSquare.1 23 = .ok (.iinc 1 1, 3) ∧ 23 + 3 = 26 := ⟨by decide +kernel, rfl⟩
theorem d_X12_qHasSquare_26 : decode mX12_qHasSquare.1 26 = .ok (.goto (-24), 3) ∧ ((26 : Nat) : Int) + (-24) = ((2 : Nat) : Int) := ⟨by decide +kernel, rfl⟩
set_option maxRecDepth 100000 in
set_option maxHeartbeats 4000000 in
theorem g_X12_qHasSquare_L2 (l : Launch) (G : xa_C) (c0 : Int) (h : xa_H) (K : (Int) ⊕ ((Int) ⊕ (Unit)) → Option xa_O) (hb : ∀ (v1 : Int), xa_G l G 2 mX12_qHasSquare (some (Sum.inl v1)) K 2 [some (xR c0), some (xI v1)] [] h) (hr : ∀ r : Int, K (Sum.inr (Sum.inl r)) = some (some (xI r), h)) (hx : xa_G l G 2 mX12_qHasSquare (some (Sum.inr (Sum.inr (())))) K 29 [none, none] [] h) : ∀ (v1 : Int), xa_G l G 2 mX12_qHasSquare (f_X12_qHasSquare_L2 c0 h v1) K 2 [some (xR c0), some (xI v1)] [] h := by
  intro v1
  unfold f_X12_qHasSquare_L2
  refine xa_step (xa_iload_n d_X12_qHasSquare_2 rfl) ?_
  refine xa_step (xa_aload_n d_X12_qHasSquare_3 rfl) ?_
  refine xa_getf xI xc_12 (by decide) (fun _ => rfl) xw_1404 rfl d_X12_qHasSquare_4 (fun x1 _ => ?_)
  refine xa_if (xa_icmpge d_X12_qHasSquare_7) (fun q2 => ?_) (fun q2 => ?_)
  · refine xa_step (xa_aload_n d_X12_qHasSquare_10 rfl) ?_
    refine xa_getf xR xc_12 (by decide) (fun _ => rfl) xw_1403 rfl d_X12_qHasSquare_11 (fun x3 _ => ?_)
    refine xa_step (xa_iload_n d_X12_qHasSquare_14 rfl) ?_
    refine xa_iaload d_X12_qHasSquare_15 (fun x4 _ => ?_)
    refine xa_step (xa_bipush d_X12_qHasSquare_16 xq_b_25) ?_
    refine xa_if (xa_icmpne d_X12_qHasSquare_18) (fun q5 => ?_) (fun q5 => ?_)
    · refine xa_step (xa_iconst d_X12_qHasSquare_21 xq_i_1) ?_
      exact xa_zret d_X12_qHasSquare_22 rfl (Or.inr rfl) (hr _)
    · refine xa_step (xa_iinc (ls' := [some (xR c0), some (xI (w32 (v1 + 1)))]) d_X12_qHasSquare_23 xq_i_1 rfl (by decide) rfl) ?_
      refine xa_step (xa_goto d_X12_qHasSquare_26) ?_
      exact xa_weak (ls' := [some (xR c0), some (xI (w32 (v1 + 1)))]) ⟨rfl, rfl, trivial⟩ (hb (w32 (v1 + 1)))
  · exact xa_weak (ls' := [none, none]) trivial (hx )
theorem d_X12_qHasSquare_29 : decode mX12_qHasSquare.1 29 = .ok (.iconst 0, 1) ∧ 29 + 1 = 30 := ⟨by decide +kernel, rfl⟩
theorem d_X12_qHasSquare_30 : decode mX12_qHasSquare.1 30 = .ok (.ireturn, 1) := by decide +kernel
set_option maxRecDepth 100000 in
set_option maxHeartbeats 4000000 in
theorem g_X12_qHasSquare (l : Launch) (G : xa_C) (v0 : Int) (h : xa_H) : xa_G l G 2 mX12_qHasSquare (f_X12_qHasSquare v0 h) (fun r => some (some (xI r), h) : Int → Option xa_O) 0 [some (xR v0), none] [] h := by
  unfold f_X12_qHasSquare
  refine xa_step (xa_iconst d_X12_qHasSquare_0 xq_i_0) ?_
  refine xa_step (xa_istore_n (ls' := [some (xR v0), some (xI 0)]) d_X12_qHasSquare_1 (by decide) rfl) ?_
  refine xa_weak (ls' := [some (xR v0), some (xI 0)]) ⟨rfl, rfl, trivial⟩ ?_
  refine xa_loop (f := fun s => f_X12_qHasSquare_L2 v0 h s) (L := fun s => [some (xR v0), some (xI s)]) (P := fun s => h) (X := (fun e K => match e with | Sum.inl r => K (Sum.inr (Sum.inl r)) = some (some (xI r), h) | Sum.inr x => xa_G l G 2 mX12_qHasSquare (some (Sum.inr (Sum.inr x))) K 29 [none, none] [] h)) (fun K hb hX s => g_X12_qHasSquare_L2 l G v0 h K (fun w0 => hb w0) (fun r => hX (Sum.inl r)) (hX (Sum.inr ())) s) ?_ xFU 0
  rintro (r | y7) K hK
  · exact hK.trans rfl
  · refine xa_eqE hK ?_
    show xa_G l G 2 mX12_qHasSquare _ _ 29 [none, none] [] h
    refine xa_step (xa_iconst d_X12_qHasSquare_29 xq_i_0) ?_
    exact xa_zret d_X12_qHasSquare_30 rfl (Or.inl rfl) rfl
theorem ct_X12_qHasSquare (l : Launch) (G : xa_C) (v0 : Int) (h : xa_H) (r : Int) (hr : f_X12_qHasSquare v0 h = some r) : xa_CT l G 2 mX12_qHasSquare yX12_qHasSquare [xR v0] h (some (xI r), h) :=
  xa_met (by decide +kernel) rfl (fun q => by first | rfl | cases q) (Nat.le_of_ble_eq_true rfl) rfl (g_X12_qHasSquare l G v0 h) (by rw [hr]; rfl)
