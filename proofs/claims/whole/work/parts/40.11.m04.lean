abbrev mX11_howManyWant : xa_M := (cX11_howManyWant, 4, (some (.int)), RX11, false)
theorem d_X11_howManyWant_0 : decode mX11_howManyWant.1 0 = .ok (.iconst 0, 1) ∧ 0 + 1 = 1 := ⟨by decide +kernel, rfl⟩
theorem d_X11_howManyWant_1 : decode mX11_howManyWant.1 1 = .ok (.istore_n 2, 1) ∧ 1 + 1 = 2 := ⟨by decide +kernel, rfl⟩
theorem d_X11_howManyWant_2 : decode mX11_howManyWant.1 2 = .ok (.iconst 0, 1) ∧ 2 + 1 = 3 := ⟨by decide +kernel, rfl⟩
theorem d_X11_howManyWant_3 : decode mX11_howManyWant.1 3 = .ok (.istore_n 3, 1) ∧ 3 + 1 = 4 := ⟨by decide +kernel, rfl⟩
theorem d_X11_howManyWant_4 : decode mX11_howManyWant.1 4 = .ok (.iload_n 3, 1) ∧ 4 + 1 = 5 := ⟨by decide +kernel, rfl⟩
theorem d_X11_howManyWant_5 : decode mX11_howManyWant.1 5 = .ok (.aload_n 0, 1) ∧ 5 + 1 = 6 := ⟨by decide +kernel, rfl⟩
theorem d_X11_howManyWant_6 : decode mX11_howManyWant.1 6 = .ok (.getfield 47, 3) ∧ 6 + 3 = 9 := ⟨by decide +kernel, rfl⟩
theorem d_X11_howManyWant_9 : decode mX11_howManyWant.1 9 = .ok (.getfield 146, 3) ∧ 9 + 3 = 12 := ⟨by decide +kernel, rfl⟩
theorem d_X11_howManyWant_12 : decode mX11_howManyWant.1 12 = .ok (.if_icmp .ge 30, 3) ∧ 12 + 3 = 15 ∧ ((12 : Nat) : Int) + 30 = ((42 : Nat) : Int) := ⟨by decide +kernel, rfl, rfl⟩
theorem d_X11_howManyWant_15 : decode mX11_howManyWant.1 15 = .ok (.iload_n 2, 1) ∧ 15 + 1 = 16 := ⟨by decide +kernel, rfl⟩
theorem d_X11_howManyWant_16 : decode mX11_howManyWant.1 16 = .ok (.aload_n 0, 1) ∧ 16 + 1 = 17 := ⟨by decide +kernel, rfl⟩
theorem d_X11_howManyWant_17 : decode mX11_howManyWant.1 17 = .ok (.getfield 54, 3) ∧ 17 + 3 = 20 := ⟨by decide +kernel, rfl⟩
theorem d_X11_howManyWant_20 : decode mX11_howManyWant.1 20 = .ok (.getfield 220, 3) ∧ 20 + 3 = 23 := ⟨by decide +kernel, rfl⟩
theorem d_X11_howManyWant_23 : decode mX11_howManyWant.1 23 = .ok (.iload_n 3, 1) ∧ 23 + 1 = 24 := ⟨by decide +kernel, rfl⟩
theorem d_X11_howManyWant_24 : decode mX11_howManyWant.1 24 = .ok (.iaload, 1) ∧ 24 + 1 = 25 := ⟨by decide +kernel, rfl⟩
theorem d_X11_howManyWant_25 : decode mX11_howManyWant.1 25 = .ok (.iload_n 1, 1) ∧ 25 + 1 = 26 := ⟨by decide +kernel, rfl⟩
theorem d_X11_howManyWant_26 : decode mX11_howManyWant.1 26 = .ok (.if_icmp .ne 7, 3) ∧ 26 + 3 = 29 ∧ ((26 : Nat) : Int) + 7 = ((33 : Nat) : Int) := ⟨by decide +kernel, rfl, rfl⟩
theorem d_X11_howManyWant_29 : decode mX11_howManyWant.1 29 = .ok (.iconst 1, 1) ∧ 29 + 1 = 30 := ⟨by decide +kernel, rfl⟩
theorem d_X11_howManyWant_30 : decode mX11_howManyWant.1 30 = .ok (.goto 4, 3) ∧ ((30 : Nat) : Int) + 4 = ((34 : Nat) : Int) := ⟨by decide +kernel, rfl⟩
theorem d_X11_howManyWant_34 : decode mX11_howManyWant.1 34 = .ok (.iadd, 1) ∧ 34 + 1 = 35 := ⟨by decide +kernel, rfl⟩
theorem d_X11_howManyWant_35 : decode mX11_howManyWant.1 35 = .ok (.istore_n 2, 1) ∧ 35 + 1 = 36 := ⟨by decide +kernel, rfl⟩
theorem d_X11_howManyWant_36 : decode mX11_howManyWant.1 36 = .ok (.iinc 3 1, 3) ∧ 36 + 3 = 39 := ⟨by decide +kernel, rfl⟩
theorem d_X11_howManyWant_39 : decode mX11_howManyWant.1 39 = .ok (.goto (-35), 3) ∧ ((39 : Nat) : Int) + (-35) = ((4 : Nat) : Int) := ⟨by decide +kernel, rfl⟩
theorem d_X11_howManyWant_33 : decode mX11_howManyWant.1 33 = .ok (.iconst 0, 1) ∧ 33 + 1 = 34 := ⟨by decide +kernel, rfl⟩
set_option maxRecDepth 100000 in
set_option maxHeartbeats 4000000 in
theorem g_X11_howManyWant_L4 (l : Launch) (G : xa_C) (c0 c1 : Int) (h : xa_H) (K : (Int × Int) ⊕ (Int) → Option xa_O) (hb : ∀ (v2 : Int) (v3 : Int), xa_G l G 2 mX11_howManyWant (some (Sum.inl ((v2, v3)))) K 4 [some (xR c0), some (xI c1), some (xI v2), some (xI v3)] [] h) (hx : ∀ (v2 : Int), xa_G l G 2 mX11_howManyWant (some (Sum.inr v2)) K 42 [none, none, some (xI v2), none] [] h) : ∀ (v2 : Int) (v3 : Int), xa_G l G 2 mX11_howManyWant (f_X11_howManyWant_L4 c0 c1 h v2 v3) K 4 [some (xR c0), some (xI c1), some (xI v2), some (xI v3)] [] h := by
  intro v2 v3
  unfold f_X11_howManyWant_L4
  refine xa_step (xa_iload_n d_X11_howManyWant_4 rfl) ?_
  refine xa_step (xa_aload_n d_X11_howManyWant_5 rfl) ?_
  refine xa_getf xR xc_11 (by decide) (fun _ => rfl) xw_589 rfl d_X11_howManyWant_6 (fun x1 _ => ?_)
  refine xa_getf xI xc_0 (by decide) (fun _ => rfl) xw_391 rfl d_X11_howManyWant_9 (fun x2 _ => ?_)
  refine xa_if (xa_icmpge d_X11_howManyWant_12) (fun q3 => ?_) (fun q3 => ?_)
  · refine xa_step (xa_iload_n d_X11_howManyWant_15 rfl) ?_
    refine xa_step (xa_aload_n d_X11_howManyWant_16 rfl) ?_
    refine xa_getf xR xc_11 (by decide) (fun _ => rfl) xw_590 rfl d_X11_howManyWant_17 (fun x4 _ => ?_)
    refine xa_getf xR xc_9 (by decide) (fun _ => rfl) xw_350 rfl d_X11_howManyWant_20 (fun x5 _ => ?_)
    refine xa_step (xa_iload_n d_X11_howManyWant_23 rfl) ?_
    refine xa_iaload d_X11_howManyWant_24 (fun x6 _ => ?_)
    refine xa_step (xa_iload_n d_X11_howManyWant_25 rfl) ?_
    refine xa_if (xa_icmpne d_X11_howManyWant_26) (fun q7 => ?_) (fun q7 => ?_)
    · refine xa_step (xa_iconst d_X11_howManyWant_29 xq_i_1) ?_
      refine xa_step (xa_goto d_X11_howManyWant_30) ?_
      refine xa_step (xa_iadd d_X11_howManyWant_34) ?_
      refine xa_step (xa_istore_n (ls' := [some (xR c0), some (xI c1), some (xI (w32 (v2 + 1))), some (xI v3)]) d_X11_howManyWant_35 (by decide) rfl) ?_
      refine xa_step (xa_iinc (ls' := [some (xR c0), some (xI c1), some (xI (w32 (v2 + 1))), some (xI (w32 (v3 + 1)))]) d_X11_howManyWant_36 xq_i_1 rfl (by decide) rfl) ?_
      refine xa_step (xa_goto d_X11_howManyWant_39) ?_
      exact xa_weak (ls' := [some (xR c0), some (xI c1), some (xI (w32 (v2 + 1))), some (xI (w32 (v3 + 1)))]) ⟨rfl, rfl, rfl, rfl, trivial⟩ (hb (w32 (v2 + 1)) (w32 (v3 + 1)))
    · refine xa_step (xa_iconst d_X11_howManyWant_33 xq_i_0) ?_
      refine xa_step (xa_iadd d_X11_howManyWant_34) ?_
      refine xa_step (xa_istore_n (ls' := [some (xR c0), some (xI c1), some (xI (w32 (v2 + 0))), some (xI v3)]) d_X11_howManyWant_35 (by decide) rfl) ?_
      refine xa_step (xa_iinc (ls' := [some (xR c0), some (xI c1), some (xI (w32 (v2 + 0))), some (xI (w32 (v3 + 1)))]) d_X11_howManyWant_36 xq_i_1 rfl (by decide) rfl) ?_
      refine xa_step (xa_goto d_X11_howManyWant_39) ?_
      exact xa_weak (ls' := [some (xR c0), some (xI c1), some (xI (w32 (v2 + 0))), some (xI (w32 (v3 + 1)))]) ⟨rfl, rfl, rfl, rfl, trivial⟩ (hb (w32 (v2 + 0)) (w32 (v3 + 1)))
  · exact xa_weak (ls' := [none, none, some (xI v2), none]) ⟨rfl, trivial⟩ (hx v2)
theorem d_X11_howManyWant_42 : decode mX11_howManyWant.1 42 = .ok (.iload_n 2, 1) ∧ 42 + 1 = 43 := ⟨by decide +kernel, rfl⟩
theorem d_X11_howManyWant_43 : decode mX11_howManyWant.1 43 = .ok (.ireturn, 1) := by decide +kernel
set_option maxRecDepth 100000 in
set_option maxHeartbeats 4000000 in
theorem g_X11_howManyWant (l : Launch) (G : xa_C) (v0 v1 : Int) (h : xa_H) : xa_G l G 2 mX11_howManyWant (f_X11_howManyWant v0 v1 h) (fun r => some (some (xI r), h) : Int → Option xa_O) 0 [some (xR v0), some (xI v1), none, none] [] h := by
  unfold f_X11_howManyWant
  refine xa_step (xa_iconst d_X11_howManyWant_0 xq_i_0) ?_
  refine xa_step (xa_istore_n (ls' := [some (xR v0), some (xI v1), some (xI 0), none]) d_X11_howManyWant_1 (by decide) rfl) ?_
  refine xa_step (xa_iconst d_X11_howManyWant_2 xq_i_0) ?_
  refine xa_step (xa_istore_n (ls' := [some (xR v0), some (xI v1), some (xI 0), some (xI 0)]) d_X11_howManyWant_3 (by decide) rfl) ?_
  refine xa_weak (ls' := [some (xR v0), some (xI v1), some (xI 0), some (xI 0)]) ⟨rfl, rfl, rfl, rfl, trivial⟩ ?_
  refine xa_loop (f := fun s => f_X11_howManyWant_L4 v0 v1 h s.1 s.2) (L := fun s => [some (xR v0), some (xI v1), some (xI s.1), some (xI s.2)]) (P := fun s => h) (X := (fun x K => xa_G l G 2 mX11_howManyWant (some (Sum.inr x)) K 42 [none, none, some (xI x), none] [] h)) (fun K hb hX s => g_X11_howManyWant_L4 l G v0 v1 h K (fun w0 w1 => hb ((w0, w1))) (fun w0 => hX w0) s.1 s.2) ?_ xFU ((0, 0))
  intro e8 K hK
  refine xa_eqE hK ?_
  show xa_G l G 2 mX11_howManyWant _ _ 42 [none, none, some (xI e8), none] [] h
  refine xa_step (xa_iload_n d_X11_howManyWant_42 rfl) ?_
  exact xa_iret d_X11_howManyWant_43 rfl rfl
theorem ct_X11_howManyWant (l : Launch) (G : xa_C) (v0 v1 : Int) (h : xa_H) (r : Int) (hr : f_X11_howManyWant v0 v1 h = some r) : xa_CT l G 2 mX11_howManyWant yX11_howManyWant [xR v0, xI v1] h (some (xI r), h) :=
  xa_met (by decide +kernel) rfl (fun q => by first | rfl | cases q) (Nat.le_of_ble_eq_true rfl) rfl (g_X11_howManyWant l G v0 v1 h) (by rw [hr]; rfl)
abbrev mX11_held : xa_M := (cX11_held, 3, (some (.int)), RX11, false)
theorem d_X11_held_0 : decode mX11_held.1 0 = .ok (.aload_n 0, 1) ∧ 0 + 1 = 1 := ⟨by decide +kernel, rfl⟩
theorem d_X11_held_1 : decode mX11_held.1 1 = .ok (.iload_n 1, 1) ∧ 1 + 1 = 2 := ⟨by decide +kernel, rfl⟩
theorem d_X11_held_2 : decode mX11_held.1 2 = .ok (.invokevirtual 188, 3) ∧ 2 + 3 = 5 := ⟨by decide +kernel, rfl⟩
theorem d_X11_held_5 : decode mX11_held.1 5 = .ok (.ifCond .ne 5, 3) ∧ 5 + 3 = 8 ∧ ((5 : Nat) : Int) + 5 = ((10 : Nat) : Int) := ⟨by decide +kernel, rfl, rfl⟩
theorem d_X11_held_8 : decode mX11_held.1 8 = .ok (.iconst (-1), 1) ∧ 8 + 1 = 9 := ⟨by decide +kernel, rfl⟩
theorem d_X11_held_9 : decode mX11_held.1 9 = .ok (.ireturn, 1) := by decide +kernel
theorem d_X11_held_10 : decode mX11_held.1 10 = .ok (.iload_n 2, 1) ∧ 10 + 1 = 11 := ⟨by decide +kernel, rfl⟩
theorem d_X11_held_11 : decode mX11_held.1 11 = .ok (.tableswitch 71 0 3 #[29, 39, 55, 65], 29) := by decide +kernel
theorem d_X11_held_40 : decode mX11_held.1 40 = .ok (.aload_n 0, 1) ∧ 40 + 1 = 41 := ⟨by decide +kernel, rfl⟩
theorem d_X11_held_41 : decode mX11_held.1 41 = .ok (.getfield 47, 3) ∧ 41 + 3 = 44 := ⟨by decide +kernel, rfl⟩
theorem d_X11_held_44 : decode mX11_held.1 44 = .ok (.getfield 205, 3) ∧ 44 + 3 = 47 := ⟨by decide +kernel, rfl⟩
theorem d_X11_held_47 : decode mX11_held.1 47 = .ok (.iload_n 1, 1) ∧ 47 + 1 = 48 := ⟨by decide +kernel, rfl⟩
theorem d_X11_held_48 : decode mX11_held.1 48 = .ok (.iaload, 1) ∧ 48 + 1 = 49 := ⟨by decide +kernel, rfl⟩
theorem d_X11_held_49 : decode mX11_held.1 49 = .ok (.ireturn, 1) := by decide +kernel
theorem d_X11_held_50 : decode mX11_held.1 50 = .ok (.aload_n 0, 1) ∧ 50 + 1 = 51 := ⟨by decide +kernel, rfl⟩
theorem d_X11_held_51 : decode mX11_held.1 51 = .ok (.getfield 54, 3) ∧ 51 + 3 = 54 := ⟨by decide +kernel, rfl⟩
theorem d_X11_held_54 : decode mX11_held.1 54 = .ok (.iload_n 1, 1) ∧ 54 + 1 = 55 := ⟨by decide +kernel, rfl⟩
theorem d_X11_held_55 : decode mX11_held.1 55 = .ok (.aload_n 0, 1) ∧ 55 + 1 = 56 := ⟨by decide +kernel, rfl⟩
theorem d_X11_held_56 : decode mX11_held.1 56 = .ok (.getfield 47, 3) ∧ 56 + 3 = 59 := ⟨by decide +kernel, rfl⟩
theorem d_X11_held_59 : decode mX11_held.1 59 = .ok (.getfield 146, 3) ∧ 59 + 3 = 62 := ⟨by decide +kernel, rfl⟩
theorem d_X11_held_62 : decode mX11_held.1 62 = .ok (.invokevirtual 208, 3) ∧ 62 + 3 = 65 := ⟨by decide +kernel, rfl⟩
theorem d_X11_held_65 : decode mX11_held.1 65 = .ok (.ireturn, 1) := by decide +kernel
theorem d_X11_held_66 : decode mX11_held.1 66 = .ok (.aload_n 0, 1) ∧ 66 + 1 = 67 := ⟨by decide +kernel, rfl⟩
theorem d_X11_held_67 : decode mX11_held.1 67 = .ok (.getfield 47, 3) ∧ 67 + 3 = 70 := ⟨by decide +kernel, rfl⟩
theorem d_X11_held_70 : decode mX11_held.1 70 = .ok (.getfield 211, 3) ∧ 70 + 3 = 73 := ⟨by decide +kernel, rfl⟩
theorem d_X11_held_73 : decode mX11_held.1 73 = .ok (.iload_n 1, 1) ∧ 73 + 1 = 74 := ⟨by decide +kernel, rfl⟩
theorem d_X11_held_74 : decode mX11_held.1 74 = .ok (.iaload, 1) ∧ 74 + 1 = 75 := ⟨by decide +kernel, rfl⟩
theorem d_X11_held_75 : decode mX11_held.1 75 = .ok (.ireturn, 1) := by decide +kernel
theorem d_X11_held_76 : decode mX11_held.1 76 = .ok (.aload_n 0, 1) ∧ 76 + 1 = 77 := ⟨by decide +kernel, rfl⟩
theorem d_X11_held_77 : decode mX11_held.1 77 = .ok (.iload_n 1, 1) ∧ 77 + 1 = 78 := ⟨by decide +kernel, rfl⟩
theorem d_X11_held_78 : decode mX11_held.1 78 = .ok (.invokevirtual 214, 3) ∧ 78 + 3 = 81 := ⟨by decide +kernel, rfl⟩
theorem d_X11_held_81 : decode mX11_held.1 81 = .ok (.ireturn, 1) := by decide +kernel
theorem d_X11_held_82 : decode mX11_held.1 82 = .ok (.iconst (-1), 1) ∧ 82 + 1 = 83 := ⟨by decide +kernel, rfl⟩
theorem d_X11_held_83 : decode mX11_held.1 83 = .ok (.ireturn, 1) := by decide +kernel
set_option maxRecDepth 100000 in
set_option maxHeartbeats 4000000 in
theorem g_X11_held (l : Launch) (G : xa_C) (v0 v1 v2 : Int) (h : xa_H) : xa_G l G 3 mX11_held (f_X11_held v0 v1 v2 h) (fun r => some (some (xI r), h) : Int → Option xa_O) 0 [some (xR v0), some (xI v1), some (xI v2)] [] h := by
  unfold f_X11_held
  refine xa_step (xa_aload_n d_X11_held_0 rfl) ?_
  refine xa_step (xa_iload_n d_X11_held_1 rfl) ?_
  refine xa_callVi (as := [xI v1]) (st := []) (M' := mX11_isHeld) (d' := 2) rfl xw_914 xw_916 xw_32 xw_917 xw_161 xh_X11_isHeld rfl ⟨Nat.le_of_ble_eq_true rfl, Nat.le_of_ble_eq_true rfl⟩ (Nat.le_of_ble_eq_true rfl) rfl d_X11_held_2 (fun r hr => ct_X11_isHeld l G v0 v1 h r hr) (fun r1 _ => ?_)
  refine xa_if (xa_ifne d_X11_held_5) (fun q2 => ?_) (fun q2 => ?_)
  · refine xa_step (xa_iconst d_X11_held_8 xq_i_m1) ?_
    exact xa_iret d_X11_held_9 rfl rfl
  · refine xa_step (xa_iload_n d_X11_held_10 rfl) ?_
    refine xa_case (fun q3 => ?_) (fun q3 => ?_)
    · refine xa_step (xa_tabIn (k := 0) d_X11_held_11 q3 (by decide) (by decide) rfl rfl) ?_
      refine xa_step (xa_aload_n d_X11_held_40 rfl) ?_
      refine xa_getf xR xc_11 (by decide) (fun _ => rfl) xw_589 rfl d_X11_held_41 (fun x4 _ => ?_)
      refine xa_getf xR xc_0 (by decide) (fun _ => rfl) xw_404 rfl d_X11_held_44 (fun x5 _ => ?_)
      refine xa_step (xa_iload_n d_X11_held_47 rfl) ?_
      refine xa_iaload d_X11_held_48 (fun x6 _ => ?_)
      exact xa_iret d_X11_held_49 rfl rfl
    · refine xa_case (fun q7 => ?_) (fun q7 => ?_)
      · refine xa_step (xa_tabIn (k := 1) d_X11_held_11 q7 (by decide) (by decide) rfl rfl) ?_
        refine xa_step (xa_aload_n d_X11_held_50 rfl) ?_
        refine xa_getf xR xc_11 (by decide) (fun _ => rfl) xw_590 rfl d_X11_held_51 (fun x8 _ => ?_)
        refine xa_step (xa_iload_n d_X11_held_54 rfl) ?_
        refine xa_step (xa_aload_n d_X11_held_55 rfl) ?_
        refine xa_getf xR xc_11 (by decide) (fun _ => rfl) xw_589 rfl d_X11_held_56 (fun x9 _ => ?_)
        refine xa_getf xI xc_0 (by decide) (fun _ => rfl) xw_391 rfl d_X11_held_59 (fun x10 _ => ?_)
        refine xa_callVi (as := [xI v1, xI x10]) (st := []) (M' := mX9_holderOf) (d' := 2) rfl xw_929 xw_743 xw_744 xw_745 xw_170 xh_X9_holderOf rfl ⟨Nat.le_of_ble_eq_true rfl, Nat.le_of_ble_eq_true rfl⟩ (Nat.le_of_ble_eq_true rfl) rfl d_X11_held_62 (fun r hr => ct_X9_holderOf l G x8 v1 x10 h r hr) (fun r11 _ => ?_)
        exact xa_iret d_X11_held_65 rfl rfl
      · refine xa_case (fun q12 => ?_) (fun q12 => ?_)
        · refine xa_step (xa_tabIn (k := 2) d_X11_held_11 q12 (by decide) (by decide) rfl rfl) ?_
          refine xa_step (xa_aload_n d_X11_held_66 rfl) ?_
          refine xa_getf xR xc_11 (by decide) (fun _ => rfl) xw_589 rfl d_X11_held_67 (fun x13 _ => ?_)
          refine xa_getf xR xc_0 (by decide) (fun _ => rfl) xw_406 rfl d_X11_held_70 (fun x14 _ => ?_)
          refine xa_step (xa_iload_n d_X11_held_73 rfl) ?_
          refine xa_iaload d_X11_held_74 (fun x15 _ => ?_)
          exact xa_iret d_X11_held_75 rfl rfl
        · refine xa_case (fun q16 => ?_) (fun q16 => ?_)
          · refine xa_step (xa_tabIn (k := 3) d_X11_held_11 q16 (by decide) (by decide) rfl rfl) ?_
            refine xa_step (xa_aload_n d_X11_held_76 rfl) ?_
            refine xa_step (xa_iload_n d_X11_held_77 rfl) ?_
            refine xa_callVi (as := [xI v1]) (st := []) (M' := mX11_howManyWant) (d' := 2) rfl xw_930 xw_932 xw_34 xw_933 xw_161 xh_X11_howManyWant rfl ⟨Nat.le_of_ble_eq_true rfl, Nat.le_of_ble_eq_true rfl⟩ (Nat.le_of_ble_eq_true rfl) rfl d_X11_held_78 (fun r hr => ct_X11_howManyWant l G v0 v1 h r hr) (fun r17 _ => ?_)
            exact xa_iret d_X11_held_81 rfl rfl
          · refine xa_step (xa_tabOut d_X11_held_11 (by omega) rfl) ?_
            refine xa_step (xa_iconst d_X11_held_82 xq_i_m1) ?_
            exact xa_iret d_X11_held_83 rfl rfl
theorem ct_X11_held (l : Launch) (G : xa_C) (v0 v1 v2 : Int) (h : xa_H) (r : Int) (hr : f_X11_held v0 v1 v2 h = some r) : xa_CT l G 3 mX11_held yX11_held [xR v0, xI v1, xI v2] h (some (xI r), h) :=
  xa_met (by decide +kernel) rfl (fun q => by first | rfl | cases q) (Nat.le_of_ble_eq_true rfl) rfl (g_X11_held l G v0 v1 v2 h) (by rw [hr]; rfl)
abbrev mX11_holder : xa_M := (cX11_holder, 3, (some (.int)), RX11, false)
theorem d_X11_holder_0 : decode mX11_holder.1 0 = .ok (.aload_n 0, 1) ∧ 0 + 1 = 1 := ⟨by decide +kernel, rfl⟩
theorem d_X11_holder_1 : decode mX11_holder.1 1 = .ok (.iload_n 1, 1) ∧ 1 + 1 = 2 := ⟨by decide +kernel, rfl⟩
theorem d_X11_holder_2 : decode mX11_holder.1 2 = .ok (.invokevirtual 199, 3) ∧ 2 + 3 = 5 := ⟨by decide +kernel, rfl⟩
theorem d_X11_holder_5 : decode mX11_holder.1 5 = .ok (.ifCond .ne 5, 3) ∧ 5 + 3 = 8 ∧ ((5 : Nat) : Int) + 5 = ((10 : Nat) : Int) := ⟨by decide +kernel, rfl, rfl⟩
theorem d_X11_holder_8 : decode mX11_holder.1 8 = .ok (.iconst (-1), 1) ∧ 8 + 1 = 9 := ⟨by decide +kernel, rfl⟩
theorem d_X11_holder_9 : decode mX11_holder.1 9 = .ok (.ireturn, 1) := by decide +kernel
theorem d_X11_holder_10 : decode mX11_holder.1 10 = .ok (.iload_n 2, 1) ∧ 10 + 1 = 11 := ⟨by decide +kernel, rfl⟩
theorem d_X11_holder_11 : decode mX11_holder.1 11 = .ok (.tableswitch 87 0 4 #[33, 43, 53, 63, 77], 33) := by decide +kernel
theorem d_X11_holder_44 : decode mX11_holder.1 44 = .ok (.aload_n 0, 1) ∧ 44 + 1 = 45 := ⟨by decide +kernel, rfl⟩
theorem d_X11_holder_45 : decode mX11_holder.1 45 = .ok (.getfield 54, 3) ∧ 45 + 3 = 48 := ⟨by decide +kernel, rfl⟩
theorem d_X11_holder_48 : decode mX11_holder.1 48 = .ok (.getfield 217, 3) ∧ 48 + 3 = 51 := ⟨by decide +kernel, rfl⟩
theorem d_X11_holder_51 : decode mX11_holder.1 51 = .ok (.iload_n 1, 1) ∧ 51 + 1 = 52 := ⟨by decide +kernel, rfl⟩
theorem d_X11_holder_52 : decode mX11_holder.1 52 = .ok (.iaload, 1) ∧ 52 + 1 = 53 := ⟨by decide +kernel, rfl⟩
theorem d_X11_holder_53 : decode mX11_holder.1 53 = .ok (.ireturn, 1) := by decide +kernel
theorem d_X11_holder_54 : decode mX11_holder.1 54 = .ok (.aload_n 0, 1) ∧ 54 + 1 = 55 := ⟨by decide +kernel, rfl⟩
theorem d_X11_holder_55 : decode mX11_holder.1 55 = .ok (.getfield 54, 3) ∧ 55 + 3 = 58 := ⟨by decide +kernel, rfl⟩
theorem d_X11_holder_58 : decode mX11_holder.1 58 = .ok (.getfield 220, 3) ∧ 58 + 3 = 61 := ⟨by decide +kernel, rfl⟩
theorem d_X11_holder_61 : decode mX11_holder.1 61 = .ok (.iload_n 1, 1) ∧ 61 + 1 = 62 := ⟨by decide +kernel, rfl⟩
theorem d_X11_holder_62 : decode mX11_holder.1 62 = .ok (.iaload, 1) ∧ 62 + 1 = 63 := ⟨by decide +kernel, rfl⟩
theorem d_X11_holder_63 : decode mX11_holder.1 63 = .ok (.ireturn, 1) := by decide +kernel
theorem d_X11_holder_64 : decode mX11_holder.1 64 = .ok (.aload_n 0, 1) ∧ 64 + 1 = 65 := ⟨by decide +kernel, rfl⟩
theorem d_X11_holder_65 : decode mX11_holder.1 65 = .ok (.getfield 54, 3) ∧ 65 + 3 = 68 := ⟨by decide +kernel, rfl⟩
theorem d_X11_holder_68 : decode mX11_holder.1 68 = .ok (.getfield 223, 3) ∧ 68 + 3 = 71 := ⟨by decide +kernel, rfl⟩
theorem d_X11_holder_71 : decode mX11_holder.1 71 = .ok (.iload_n 1, 1) ∧ 71 + 1 = 72 := ⟨by decide +kernel, rfl⟩
theorem d_X11_holder_72 : decode mX11_holder.1 72 = .ok (.iaload, 1) ∧ 72 + 1 = 73 := ⟨by decide +kernel, rfl⟩
theorem d_X11_holder_73 : decode mX11_holder.1 73 = .ok (.ireturn, 1) := by decide +kernel
theorem d_X11_holder_74 : decode mX11_holder.1 74 = .ok (.aload_n 0, 1) ∧ 74 + 1 = 75 := ⟨by decide +kernel, rfl⟩
theorem d_X11_holder_75 : decode mX11_holder.1 75 = .ok (.iload_n 1, 1) ∧ 75 + 1 = 76 := ⟨by decide +kernel, rfl⟩
theorem d_X11_holder_76 : decode mX11_holder.1 76 = .ok (.invokevirtual 226, 3) ∧ 76 + 3 = 79 := ⟨by decide +kernel, rfl⟩
theorem d_X11_holder_79 : decode mX11_holder.1 79 = .ok (.ifCond .eq 7, 3) ∧ 79 + 3 = 82 ∧ ((79 : Nat) : Int) + 7 = ((86 : Nat) : Int) := ⟨by decide +kernel, rfl, rfl⟩
theorem d_X11_holder_86 : decode mX11_holder.1 86 = .ok (.iconst 0, 1) ∧ 86 + 1 = 87 := ⟨by decide +kernel, rfl⟩
theorem d_X11_holder_87 : decode mX11_holder.1 87 = .ok (.ireturn, 1) := by decide +kernel
theorem d_X11_holder_82 : decode mX11_holder.1 82 = .ok (.iconst 1, 1) ∧ 82 + 1 = 83 := ⟨by decide +kernel, rfl⟩
theorem d_X11_holder_83 : decode mX11_holder.1 83 = .ok (.goto 4, 3) ∧ ((83 : Nat) : Int) + 4 = ((87 : Nat) : Int) := ⟨by decide +kernel, rfl⟩
theorem d_X11_holder_88 : decode mX11_holder.1 88 = .ok (.aload_n 0, 1) ∧ 88 + 1 = 89 := ⟨by decide +kernel, rfl⟩
theorem d_X11_holder_89 : decode mX11_holder.1 89 = .ok (.getfield 47, 3) ∧ 89 + 3 = 92 := ⟨by decide +kernel, rfl⟩
theorem d_X11_holder_92 : decode mX11_holder.1 92 = .ok (.getfield 229, 3) ∧ 92 + 3 = 95 := ⟨by decide +kernel, rfl⟩
theorem d_X11_holder_95 : decode mX11_holder.1 95 = .ok (.iload_n 1, 1) ∧ 95 + 1 = 96 := ⟨by decide +kernel, rfl⟩
theorem d_X11_holder_96 : decode mX11_holder.1 96 = .ok (.iaload, 1) ∧ 96 + 1 = 97 := ⟨by decide +kernel, rfl⟩
theorem d_X11_holder_97 : decode mX11_holder.1 97 = .ok (.ireturn, 1) := by decide +kernel
theorem d_X11_holder_98 : decode mX11_holder.1 98 = .ok (.iconst (-1), 1) ∧ 98 + 1 = 99 := ⟨by decide +kernel, rfl⟩
theorem d_X11_holder_99 : decode mX11_holder.1 99 = .ok (.ireturn, 1) := by decide +kernel
set_option maxRecDepth 100000 in
set_option maxHeartbeats 4000000 in
theorem g_X11_holder (l : Launch) (G : xa_C) (v0 v1 v2 : Int) (h : xa_H) : xa_G l G 3 mX11_holder (f_X11_holder v0 v1 v2 h) (fun r => some (some (xI r), h) : Int → Option xa_O) 0 [some (xR v0), some (xI v1), some (xI v2)] [] h := by
  unfold f_X11_holder
  refine xa_step (xa_aload_n d_X11_holder_0 rfl) ?_
  refine xa_step (xa_iload_n d_X11_holder_1 rfl) ?_
  refine xa_callVi (as := [xI v1]) (st := []) (M' := mX11_isHolder) (d' := 2) rfl xw_921 xw_923 xw_33 xw_924 xw_161 xh_X11_isHolder rfl ⟨Nat.le_of_ble_eq_true rfl, Nat.le_of_ble_eq_true rfl⟩ (Nat.le_of_ble_eq_true rfl) rfl d_X11_holder_2 (fun r hr => ct_X11_isHolder l G v0 v1 h r hr) (fun r1 _ => ?_)
  refine xa_if (xa_ifne d_X11_holder_5) (fun q2 => ?_) (fun q2 => ?_)
  · refine xa_step (xa_iconst d_X11_holder_8 xq_i_m1) ?_
    exact xa_iret d_X11_holder_9 rfl rfl
  · refine xa_step (xa_iload_n d_X11_holder_10 rfl) ?_
    refine xa_case (fun q3 => ?_) (fun q3 => ?_)
    · refine xa_step (xa_tabIn (k := 0) d_X11_holder_11 q3 (by decide) (by decide) rfl rfl) ?_
      refine xa_step (xa_aload_n d_X11_holder_44 rfl) ?_
      refine xa_getf xR xc_11 (by decide) (fun _ => rfl) xw_590 rfl d_X11_holder_45 (fun x4 _ => ?_)
      refine xa_getf xR xc_9 (by decide) (fun _ => rfl) xw_346 rfl d_X11_holder_48 (fun x5 _ => ?_)
      refine xa_step (xa_iload_n d_X11_holder_51 rfl) ?_
      refine xa_iaload d_X11_holder_52 (fun x6 _ => ?_)
      exact xa_iret d_X11_holder_53 rfl rfl
    · refine xa_case (fun q7 => ?_) (fun q7 => ?_)
      · refine xa_step (xa_tabIn (k := 1) d_X11_holder_11 q7 (by decide) (by decide) rfl rfl) ?_
        refine xa_step (xa_aload_n d_X11_holder_54 rfl) ?_
        refine xa_getf xR xc_11 (by decide) (fun _ => rfl) xw_590 rfl d_X11_holder_55 (fun x8 _ => ?_)
        refine xa_getf xR xc_9 (by decide) (fun _ => rfl) xw_350 rfl d_X11_holder_58 (fun x9 _ => ?_)
        refine xa_step (xa_iload_n d_X11_holder_61 rfl) ?_
        refine xa_iaload d_X11_holder_62 (fun x10 _ => ?_)
        exact xa_iret d_X11_holder_63 rfl rfl
      · refine xa_case (fun q11 => ?_) (fun q11 => ?_)
        · refine xa_step (xa_tabIn (k := 2) d_X11_holder_11 q11 (by decide) (by decide) rfl rfl) ?_
          refine xa_step (xa_aload_n d_X11_holder_64 rfl) ?_
          refine xa_getf xR xc_11 (by decide) (fun _ => rfl) xw_590 rfl d_X11_holder_65 (fun x12 _ => ?_)
          refine xa_getf xR xc_9 (by decide) (fun _ => rfl) xw_354 rfl d_X11_holder_68 (fun x13 _ => ?_)
          refine xa_step (xa_iload_n d_X11_holder_71 rfl) ?_
          refine xa_iaload d_X11_holder_72 (fun x14 _ => ?_)
          exact xa_iret d_X11_holder_73 rfl rfl
        · refine xa_case (fun q15 => ?_) (fun q15 => ?_)
          · refine xa_step (xa_tabIn (k := 3) d_X11_holder_11 q15 (by decide) (by decide) rfl rfl) ?_
            refine xa_step (xa_aload_n d_X11_holder_74 rfl) ?_
            refine xa_step (xa_iload_n d_X11_holder_75 rfl) ?_
            refine xa_callVi (as := [xI v1]) (st := []) (M' := mX11_isSettled) (d' := 2) rfl xw_894 xw_896 xw_29 xw_897 xw_161 xh_X11_isSettled rfl ⟨Nat.le_of_ble_eq_true rfl, Nat.le_of_ble_eq_true rfl⟩ (Nat.le_of_ble_eq_true rfl) rfl d_X11_holder_76 (fun r hr => ct_X11_isSettled l G v0 v1 h r hr) (fun r16 _ => ?_)
            refine xa_if (xa_ifeq d_X11_holder_79) (fun q17 => ?_) (fun q17 => ?_)
            · refine xa_step (xa_iconst d_X11_holder_86 xq_i_0) ?_
              exact xa_iret d_X11_holder_87 rfl rfl
            · refine xa_step (xa_iconst d_X11_holder_82 xq_i_1) ?_
              refine xa_step (xa_goto d_X11_holder_83) ?_
              exact xa_iret d_X11_holder_87 rfl rfl
          · refine xa_case (fun q18 => ?_) (fun q18 => ?_)
            · refine xa_step (xa_tabIn (k := 4) d_X11_holder_11 q18 (by decide) (by decide) rfl rfl) ?_
              refine xa_step (xa_aload_n d_X11_holder_88 rfl) ?_
              refine xa_getf xR xc_11 (by decide) (fun _ => rfl) xw_589 rfl d_X11_holder_89 (fun x19 _ => ?_)
              refine xa_getf xR xc_0 (by decide) (fun _ => rfl) xw_411 rfl d_X11_holder_92 (fun x20 _ => ?_)
              refine xa_step (xa_iload_n d_X11_holder_95 rfl) ?_
              refine xa_iaload d_X11_holder_96 (fun x21 _ => ?_)
              exact xa_iret d_X11_holder_97 rfl rfl
            · refine xa_step (xa_tabOut d_X11_holder_11 (by omega) rfl) ?_
              refine xa_step (xa_iconst d_X11_holder_98 xq_i_m1) ?_
              exact xa_iret d_X11_holder_99 rfl rfl
theorem ct_X11_holder (l : Launch) (G : xa_C) (v0 v1 v2 : Int) (h : xa_H) (r : Int) (hr : f_X11_holder v0 v1 v2 h = some r) : xa_CT l G 3 mX11_holder yX11_holder [xR v0, xI v1, xI v2] h (some (xI r), h) :=
  xa_met (by decide +kernel) rfl (fun q => by first | rfl | cases q) (Nat.le_of_ble_eq_true rfl) rfl (g_X11_holder l G v0 v1 v2 h) (by rw [hr]; rfl)
abbrev mX11_putImage : xa_M := (cX11_putImage, 2, none, RX11, false)
theorem d_X11_putImage_0 : decode mX11_putImage.1 0 = .ok (.aload_n 0, 1) ∧ 0 + 1 = 1 := ⟨by decide +kernel, rfl⟩
theorem d_X11_putImage_1 : decode mX11_putImage.1 1 = .ok (.getfield 105, 3) ∧ 1 + 3 = 4 := ⟨by decide +kernel, rfl⟩
theorem d_X11_putImage_4 : decode mX11_putImage.1 4 = .ok (.bipush 63, 2) ∧ 4 + 2 = 6 := ⟨by decide +kernel, rfl⟩
theorem d_X11_putImage_6 : decode mX11_putImage.1 6 = .ok (.if_icmp .ge 23, 3) ∧ 6 + 3 = 9 ∧ ((6 : Nat) : Int) + 23 = ((29 : Nat) : Int) := ⟨by decide +kernel, rfl, rfl⟩
theorem d_X11_putImage_9 : decode mX11_putImage.1 9 = .ok (.aload_n 0, 1) ∧ 9 + 1 = 10 := ⟨by decide +kernel, rfl⟩
theorem d_X11_putImage_10 : decode mX11_putImage.1 10 = .ok (.getfield 102, 3) ∧ 10 + 3 = 13 := ⟨by decide +kernel, rfl⟩
theorem d_X11_putImage_13 : decode mX11_putImage.1 13 = .ok (.aload_n 0, 1) ∧ 13 + 1 = 14 := ⟨by decide +kernel, rfl⟩
theorem d_X11_putImage_14 : decode mX11_putImage.1 14 = .ok (.getfield 105, 3) ∧ 14 + 3 = 17 := ⟨by decide +kernel, rfl⟩
theorem d_X11_putImage_17 : decode mX11_putImage.1 17 = .ok (.iload_n 1, 1) ∧ 17 + 1 = 18 := ⟨by decide +kernel, rfl⟩
theorem d_X11_putImage_18 : decode mX11_putImage.1 18 = .ok (.iastore, 1) ∧ 18 + 1 = 19 := ⟨by decide +kernel, rfl⟩
theorem d_X11_putImage_19 : decode mX11_putImage.1 19 = .ok (.aload_n 0, 1) ∧ 19 + 1 = 20 := ⟨by decide +kernel, rfl⟩
theorem d_X11_putImage_20 : decode mX11_putImage.1 20 = .ok (.dup, 1) ∧ 20 + 1 = 21 := ⟨by decide +kernel, rfl⟩
theorem d_X11_putImage_21 : decode mX11_putImage.1 21 = .ok (.getfield 105, 3) ∧ 21 + 3 = 24 := ⟨by decide +kernel, rfl⟩
theorem d_X11_putImage_24 : decode mX11_putImage.1 24 = .ok (.iconst 1, 1) ∧ 24 + 1 = 25 := ⟨by decide +kernel, rfl⟩
theorem d_X11_putImage_25 : decode mX11_putImage.1 25 = .ok (.iadd, 1) ∧ 25 + 1 = 26 := ⟨by decide +kernel, rfl⟩
theorem d_X11_putImage_26 : decode mX11_putImage.1 26 = .ok (.putfield 105, 3) ∧ 26 + 3 = 29 := ⟨by decide +kernel, rfl⟩
theorem d_X11_putImage_29 : decode mX11_putImage.1 29 = .ok (.return_, 1) := by decide +kernel
set_option maxRecDepth 100000 in
set_option maxHeartbeats 4000000 in
theorem g_X11_putImage (l : Launch) (G : xa_C) (v0 v1 : Int) (h : xa_H) : xa_G l G 2 mX11_putImage (f_X11_putImage v0 v1 h) (fun r => some (none, r) : xa_H → Option xa_O) 0 [some (xR v0), some (xI v1)] [] h := by
  unfold f_X11_putImage
  refine xa_step (xa_aload_n d_X11_putImage_0 rfl) ?_
  refine xa_getf xI xc_11 (by decide) (fun _ => rfl) xw_600 rfl d_X11_putImage_1 (fun x1 _ => ?_)
  refine xa_step (xa_bipush d_X11_putImage_4 xq_b_63) ?_
  refine xa_if (xa_icmpge d_X11_putImage_6) (fun q2 => ?_) (fun q2 => ?_)
  · refine xa_step (xa_aload_n d_X11_putImage_9 rfl) ?_
    refine xa_getf xR xc_11 (by decide) (fun _ => rfl) xw_599 rfl d_X11_putImage_10 (fun x3 _ => ?_)
    refine xa_step (xa_aload_n d_X11_putImage_13 rfl) ?_
    refine xa_getf xI xc_11 (by decide) (fun _ => rfl) xw_600 rfl d_X11_putImage_14 (fun x4 _ => ?_)
    refine xa_step (xa_iload_n d_X11_putImage_17 rfl) ?_
    refine xa_iastore2 d_X11_putImage_18 (fun h5 _ => ?_)
    refine xa_step (xa_aload_n d_X11_putImage_19 rfl) ?_
    refine xa_step (xa_dup d_X11_putImage_20 (xa_tR _)) ?_
    refine xa_getf xI xc_11 (by decide) (fun _ => rfl) xw_600 rfl d_X11_putImage_21 (fun x6 _ => ?_)
    refine xa_step (xa_iconst d_X11_putImage_24 xq_i_1) ?_
    refine xa_step (xa_iadd d_X11_putImage_25) ?_
    refine xa_putf2 (tg := xI) xc_11 (by decide) (fun _ => rfl) rfl (fun c hc => xa_fitI c hc) xw_600 rfl d_X11_putImage_26 (fun h7 _ => ?_)
    exact xa_vret d_X11_putImage_29 rfl rfl
  · exact xa_vret d_X11_putImage_29 rfl rfl
theorem ct_X11_putImage (l : Launch) (G : xa_C) (v0 v1 : Int) (h : xa_H) (r : xa_H) (hr : f_X11_putImage v0 v1 h = some r) : xa_CT l G 2 mX11_putImage yX11_putImage [xR v0, xI v1] h (none, r) :=
  xa_met (by decide +kernel) rfl (fun q => by first | rfl | cases q) (Nat.le_of_ble_eq_true rfl) rfl (g_X11_putImage l G v0 v1 h) (by rw [hr]; rfl)
abbrev mX11_image : xa_M := (cX11_image, 3, (some (.int)), RX11, false)
theorem d_X11_image_0 : decode mX11_image.1 0 = .ok (.aload_n 0, 1) ∧ 0 + 1 = 1 := ⟨by decide +kernel, rfl⟩
theorem d_X11_image_1 : decode mX11_image.1 1 = .ok (.iconst 0, 1) ∧ 1 + 1 = 2 := ⟨by decide +kernel, rfl⟩
theorem d_X11_image_2 : decode mX11_image.1 2 = .ok (.putfield 105, 3) ∧ 2 + 3 = 5 := ⟨by decide +kernel, rfl⟩
theorem d_X11_image_5 : decode mX11_image.1 5 = .ok (.aload_n 0, 1) ∧ 5 + 1 = 6 := ⟨by decide +kernel, rfl⟩
theorem d_X11_image_6 : decode mX11_image.1 6 = .ok (.aload_n 0, 1) ∧ 6 + 1 = 7 := ⟨by decide +kernel, rfl⟩
theorem d_X11_image_7 : decode mX11_image.1 7 = .ok (.getfield 54, 3) ∧ 7 + 3 = 10 := ⟨by decide +kernel, rfl⟩
theorem d_X11_image_10 : decode mX11_image.1 10 = .ok (.getfield 167, 3) ∧ 10 + 3 = 13 := ⟨by decide +kernel, rfl⟩
theorem d_X11_image_13 : decode mX11_image.1 13 = .ok (.sipush 256, 3) ∧ 13 + 3 = 16 := ⟨by decide +kernel, rfl⟩
theorem d_X11_image_16 : decode mX11_image.1 16 = .ok (.idiv, 1) ∧ 16 + 1 = 17 := ⟨by decide +kernel, rfl⟩
theorem d_X11_image_17 : decode mX11_image.1 17 = .ok (.invokevirtual 366, 3) ∧ 17 + 3 = 20 := ⟨by decide +kernel, rfl⟩
theorem d_X11_image_20 : decode mX11_image.1 20 = .ok (.aload_n 0, 1) ∧ 20 + 1 = 21 := ⟨by decide +kernel, rfl⟩
theorem d_X11_image_21 : decode mX11_image.1 21 = .ok (.aload_n 0, 1) ∧ 21 + 1 = 22 := ⟨by decide +kernel, rfl⟩
theorem d_X11_image_22 : decode mX11_image.1 22 = .ok (.getfield 54, 3) ∧ 22 + 3 = 25 := ⟨by decide +kernel, rfl⟩
theorem d_X11_image_25 : decode mX11_image.1 25 = .ok (.getfield 167, 3) ∧ 25 + 3 = 28 := ⟨by decide +kernel, rfl⟩
theorem d_X11_image_28 : decode mX11_image.1 28 = .ok (.sipush 256, 3) ∧ 28 + 3 = 31 := ⟨by decide +kernel, rfl⟩
theorem d_X11_image_31 : decode mX11_image.1 31 = .ok (.irem, 1) ∧ 31 + 1 = 32 := ⟨by decide +kernel, rfl⟩
theorem d_X11_image_32 : decode mX11_image.1 32 = .ok (.invokevirtual 366, 3) ∧ 32 + 3 = 35 := ⟨by decide +kernel, rfl⟩
theorem d_X11_image_35 : decode mX11_image.1 35 = .ok (.iconst 0, 1) ∧ 35 + 1 = 36 := ⟨by decide +kernel, rfl⟩
theorem d_X11_image_36 : decode mX11_image.1 36 = .ok (.istore_n 1, 1) ∧ 36 + 1 = 37 := ⟨by decide +kernel, rfl⟩
theorem d_X11_image_37 : decode mX11_image.1 37 = .ok (.iload_n 1, 1) ∧ 37 + 1 = 38 := ⟨by decide +kernel, rfl⟩
theorem d_X11_image_38 : decode mX11_image.1 38 = .ok (.aload_n 0, 1) ∧ 38 + 1 = 39 := ⟨by decide +kernel, rfl⟩
theorem d_X11_image_39 : decode mX11_image.1 39 = .ok (.getfield 47, 3) ∧ 39 + 3 = 42 := ⟨by decide +kernel, rfl⟩
theorem d_X11_image_42 : decode mX11_image.1 42 = .ok (.getfield 146, 3) ∧ 42 + 3 = 45 := ⟨by decide +kernel, rfl⟩
theorem d_X11_image_45 : decode mX11_image.1 45 = .ok (.if_icmp .ge 106, 3) ∧ 45 + 3 = 48 ∧ ((45 : Nat) : Int) + 106 = ((151 : Nat) : Int) := ⟨by decide +kernel, rfl, rfl⟩
theorem d_X11_image_48 : decode mX11_image.1 48 = .ok (.aload_n 0, 1) ∧ 48 + 1 = 49 := ⟨by decide +kernel, rfl⟩
theorem d_X11_image_49 : decode mX11_image.1 49 = .ok (.aload_n 0, 1) ∧ 49 + 1 = 50 := ⟨by decide +kernel, rfl⟩
theorem d_X11_image_50 : decode mX11_image.1 50 = .ok (.getfield 54, 3) ∧ 50 + 3 = 53 := ⟨by decide +kernel, rfl⟩
theorem d_X11_image_53 : decode mX11_image.1 53 = .ok (.getfield 217, 3) ∧ 53 + 3 = 56 := ⟨by decide +kernel, rfl⟩
theorem d_X11_image_56 : decode mX11_image.1 56 = .ok (.iload_n 1, 1) ∧ 56 + 1 = 57 := ⟨by decide +kernel, rfl⟩
theorem d_X11_image_57 : decode mX11_image.1 57 = .ok (.iaload, 1) ∧ 57 + 1 = 58 := ⟨by decide +kernel, rfl⟩
theorem d_X11_image_58 : decode mX11_image.1 58 = .ok (.invokevirtual 366, 3) ∧ 58 + 3 = 61 := ⟨by decide +kernel, rfl⟩
theorem d_X11_image_61 : decode mX11_image.1 61 = .ok (.aload_n 0, 1) ∧ 61 + 1 = 62 := ⟨by decide +kernel, rfl⟩
theorem d_X11_image_62 : decode mX11_image.1 62 = .ok (.aload_n 0, 1) ∧ 62 + 1 = 63 := ⟨by decide +kernel, rfl⟩
theorem d_X11_image_63 : decode mX11_image.1 63 = .ok (.getfield 54, 3) ∧ 63 + 3 = 66 := ⟨by decide +kernel, rfl⟩
theorem d_X11_image_66 : decode mX11_image.1 66 = .ok (.getfield 220, 3) ∧ 66 + 3 = 69 := ⟨by decide +kernel, rfl⟩
theorem d_X11_image_69 : decode mX11_image.1 69 = .ok (.iload_n 1, 1) ∧ 69 + 1 = 70 := ⟨by decide +kernel, rfl⟩
theorem d_X11_image_70 : decode mX11_image.1 70 = .ok (.iaload, 1) ∧ 70 + 1 = 71 := ⟨by decide +kernel, rfl⟩
theorem d_X11_image_71 : decode mX11_image.1 71 = .ok (.invokevirtual 366, 3) ∧ 71 + 3 = 74 := ⟨by decide +kernel, rfl⟩
theorem d_X11_image_74 : decode mX11_image.1 74 = .ok (.aload_n 0, 1) ∧ 74 + 1 = 75 := ⟨by decide +kernel, rfl⟩
theorem d_X11_image_75 : decode mX11_image.1 75 = .ok (.aload_n 0, 1) ∧ 75 + 1 = 76 := ⟨by decide +kernel, rfl⟩
theorem d_X11_image_76 : decode mX11_image.1 76 = .ok (.getfield 54, 3) ∧ 76 + 3 = 79 := ⟨by decide +kernel, rfl⟩
theorem d_X11_image_79 : decode mX11_image.1 79 = .ok (.getfield 223, 3) ∧ 79 + 3 = 82 := ⟨by decide +kernel, rfl⟩
theorem d_X11_image_82 : decode mX11_image.1 82 = .ok (.iload_n 1, 1) ∧ 82 + 1 = 83 := ⟨by decide +kernel, rfl⟩
theorem d_X11_image_83 : decode mX11_image.1 83 = .ok (.iaload, 1) ∧ 83 + 1 = 84 := ⟨by decide +kernel, rfl⟩
theorem d_X11_image_84 : decode mX11_image.1 84 = .ok (.sipush 256, 3) ∧ 84 + 3 = 87 := ⟨by decide +kernel, rfl⟩
theorem d_X11_image_87 : decode mX11_image.1 87 = .ok (.idiv, 1) ∧ 87 + 1 = 88 := ⟨by decide +kernel, rfl⟩
theorem d_X11_image_88 : decode mX11_image.1 88 = .ok (.invokevirtual 366, 3) ∧ 88 + 3 = 91 := ⟨by decide +kernel, rfl⟩
theorem d_X11_image_91 : decode mX11_image.1 91 = .ok (.aload_n 0, 1) ∧ 91 + 1 = 92 := ⟨by decide +kernel, rfl⟩
theorem d_X11_image_92 : decode mX11_image.1 92 = .ok (.aload_n 0, 1) ∧ 92 + 1 = 93 := ⟨by decide +kernel, rfl⟩
theorem d_X11_image_93 : decode mX11_image.1 93 = .ok (.getfield 54, 3) ∧ 93 + 3 = 96 := ⟨by decide +kernel, rfl⟩
theorem d_X11_image_96 : decode mX11_image.1 96 = .ok (.getfield 223, 3) ∧ 96 + 3 = 99 := ⟨by decide +kernel, rfl⟩
theorem d_X11_image_99 : decode mX11_image.1 99 = .ok (.iload_n 1, 1) ∧ 99 + 1 = 100 := ⟨by decide +kernel, rfl⟩
theorem d_X11_image_100 : decode mX11_image.1 100 = .ok (.iaload, 1) ∧ 100 + 1 = 101 := ⟨by decide +kernel, rfl⟩
theorem d_X11_image_101 : decode mX11_image.1 101 = .ok (.sipush 256, 3) ∧ 101 + 3 = 104 := ⟨by decide +kernel, rfl⟩
theorem d_X11_image_104 : decode mX11_image.1 104 = .ok (.irem, 1) ∧ 104 + 1 = 105 := ⟨by decide +kernel, rfl⟩
theorem d_X11_image_105 : decode mX11_image.1 105 = .ok (.invokevirtual 366, 3) ∧ 105 + 3 = 108 := ⟨by decide +kernel, rfl⟩
theorem d_X11_image_108 : decode mX11_image.1 108 = .ok (.iconst 0, 1) ∧ 108 + 1 = 109 := ⟨by decide +kernel, rfl⟩
theorem d_X11_image_109 : decode mX11_image.1 109 = .ok (.istore_n 2, 1) ∧ 109 + 1 = 110 := ⟨by decide +kernel, rfl⟩
theorem d_X11_image_110 : decode mX11_image.1 110 = .ok (.iload_n 2, 1) ∧ 110 + 1 = 111 := ⟨by decide +kernel, rfl⟩
theorem d_X11_image_111 : decode mX11_image.1 111 = .ok (.aload_n 0, 1) ∧ 111 + 1 = 112 := ⟨by decide +kernel, rfl⟩
theorem d_X11_image_112 : decode mX11_image.1 112 = .ok (.getfield 47, 3) ∧ 112 + 3 = 115 := ⟨by decide +kernel, rfl⟩
theorem d_X11_image_115 : decode mX11_image.1 115 = .ok (.getfield 146, 3) ∧ 115 + 3 = 118 := ⟨by decide +kernel, rfl⟩
theorem d_X11_image_118 : decode mX11_image.1 118 = .ok (.if_icmp .ge 27, 3) ∧ 118 + 3 = 121 ∧ ((118 : Nat) : Int) + 27 = ((145 : Nat) : Int) := ⟨by decide +kernel, rfl, rfl⟩
theorem d_X11_image_121 : decode mX11_image.1 121 = .ok (.aload_n 0, 1) ∧ 121 + 1 = 122 := ⟨by decide +kernel, rfl⟩
theorem d_X11_image_122 : decode mX11_image.1 122 = .ok (.aload_n 0, 1) ∧ 122 + 1 = 123 := ⟨by decide +kernel, rfl⟩
theorem d_X11_image_123 : decode mX11_image.1 123 = .ok (.getfield 54, 3) ∧ 123 + 3 = 126 := ⟨by decide +kernel, rfl⟩
theorem d_X11_image_126 : decode mX11_image.1 126 = .ok (.getfield 235, 3) ∧ 126 + 3 = 129 := ⟨by decide +kernel, rfl⟩
theorem d_X11_image_129 : decode mX11_image.1 129 = .ok (.iload_n 1, 1) ∧ 129 + 1 = 130 := ⟨by decide +kernel, rfl⟩
theorem d_X11_image_130 : decode mX11_image.1 130 = .ok (.bipush 6, 2) ∧ 130 + 2 = 132 := ⟨by decide +kernel, rfl⟩
theorem d_X11_image_132 : decode mX11_image.1 132 = .ok (.imul, 1) ∧ 132 + 1 = 133 := ⟨by decide +kernel, rfl⟩
theorem d_X11_image_133 : decode mX11_image.1 133 = .ok (.iload_n 2, 1) ∧ 133 + 1 = 134 := ⟨by decide +kernel, rfl⟩
theorem d_X11_image_134 : decode mX11_image.1 134 = .ok (.iadd, 1) ∧ 134 + 1 = 135 := ⟨by decide +kernel, rfl⟩
theorem d_X11_image_135 : decode mX11_image.1 135 = .ok (.iaload, 1) ∧ 135 + 1 = 136 := ⟨by decide +kernel, rfl⟩
theorem d_X11_image_136 : decode mX11_image.1 136 = .ok (.invokevirtual 366, 3) ∧ 136 + 3 = 139 := ⟨by decide +kernel, rfl⟩
theorem d_X11_image_139 : decode mX11_image.1 139 = .ok (.iinc 2 1, 3) ∧ 139 + 3 = 142 := ⟨by decide +kernel, rfl⟩
theorem d_X11_image_142 : decode mX11_image.1 142 = .ok (.goto (-32), 3) ∧ ((142 : Nat) : Int) + (-32) = ((110 : Nat) : Int) := ⟨by decide +kernel, rfl⟩
set_option maxRecDepth 100000 in
set_option maxHeartbeats 4000000 in
theorem g_X11_image_L110 (l : Launch) (G : xa_C) (c0 c1 : Int) (K : (Int × xa_H) ⊕ (xa_H) → Option xa_O) (hb : ∀ (v2 : Int) (h : xa_H), xa_G l G 3 mX11_image (some (Sum.inl ((v2, h)))) K 110 [some (xR c0), some (xI c1), some (xI v2)] [] h) (hx : ∀ (h : xa_H), xa_G l G 3 mX11_image (some (Sum.inr h)) K 145 [some (xR c0), some (xI c1), none] [] h) : ∀ (v2 : Int) (h : xa_H), xa_G l G 3 mX11_image (f_X11_image_L110 c0 c1 v2 h) K 110 [some (xR c0), some (xI c1), some (xI v2)] [] h := by
  intro v2 h
  unfold f_X11_image_L110
  refine xa_step (xa_iload_n d_X11_image_110 rfl) ?_
  refine xa_step (xa_aload_n d_X11_image_111 rfl) ?_
  refine xa_getf xR xc_11 (by decide) (fun _ => rfl) xw_589 rfl d_X11_image_112 (fun x27 _ => ?_)
  refine xa_getf xI xc_0 (by decide) (fun _ => rfl) xw_391 rfl d_X11_image_115 (fun x28 _ => ?_)
  refine xa_if (xa_icmpge d_X11_image_118) (fun q29 => ?_) (fun q29 => ?_)
  · refine xa_step (xa_aload_n d_X11_image_121 rfl) ?_
    refine xa_step (xa_aload_n d_X11_image_122 rfl) ?_
    refine xa_getf xR xc_11 (by decide) (fun _ => rfl) xw_590 rfl d_X11_image_123 (fun x30 _ => ?_)
    refine xa_getf xR xc_9 (by decide) (fun _ => rfl) xw_357 rfl d_X11_image_126 (fun x31 _ => ?_)
    refine xa_step (xa_iload_n d_X11_image_129 rfl) ?_
    refine xa_step (xa_bipush d_X11_image_130 xq_b_6) ?_
    refine xa_step (xa_imul d_X11_image_132) ?_
    refine xa_step (xa_iload_n d_X11_image_133 rfl) ?_
    refine xa_step (xa_iadd d_X11_image_134) ?_
    refine xa_iaload d_X11_image_135 (fun x32 _ => ?_)
    refine xa_callVV (as := [xI x32]) (st := []) (M' := mX11_putImage) (d' := 2) rfl xw_1265 xw_1267 xw_61 xw_1268 xw_161 xh_X11_putImage rfl ⟨Nat.le_of_ble_eq_true rfl, Nat.le_of_ble_eq_true rfl⟩ (Nat.le_of_ble_eq_true rfl) rfl d_X11_image_136 (fun r hr => ct_X11_putImage l G c0 x32 h r hr) (fun r33 _ => ?_)
    refine xa_step (xa_iinc (ls' := [some (xR c0), some (xI c1), some (xI (w32 (v2 + 1)))]) d_X11_image_139 xq_i_1 rfl (by decide) rfl) ?_
    refine xa_step (xa_goto d_X11_image_142) ?_
    exact xa_weak (ls' := [some (xR c0), some (xI c1), some (xI (w32 (v2 + 1)))]) ⟨rfl, rfl, rfl, trivial⟩ (hb (w32 (v2 + 1)) r33)
  · exact xa_weak (ls' := [some (xR c0), some (xI c1), none]) ⟨rfl, rfl, trivial⟩ (hx h)
theorem d_X11_image_145 : decode mX11_image.1 145 = .ok (.iinc 1 1, 3) ∧ 145 + 3 = 148 := ⟨by decide +kernel, rfl⟩
theorem d_X11_image_148 : decode mX11_image.1 148 = .ok (.goto (-111), 3) ∧ ((148 : Nat) : Int) + (-111) = ((37 : Nat) : Int) := ⟨by decide +kernel, rfl⟩
set_option maxRecDepth 100000 in
set_option maxHeartbeats 4000000 in
theorem g_X11_image_L37 (l : Launch) (G : xa_C) (c0 : Int) (K : (Int × xa_H) ⊕ (xa_H) → Option xa_O) (hb : ∀ (v1 : Int) (h : xa_H), xa_G l G 3 mX11_image (some (Sum.inl ((v1, h)))) K 37 [some (xR c0), some (xI v1), none] [] h) (hx : ∀ (h : xa_H), xa_G l G 3 mX11_image (some (Sum.inr h)) K 151 [some (xR c0), none, none] [] h) : ∀ (v1 : Int) (h : xa_H), xa_G l G 3 mX11_image (f_X11_image_L37 c0 v1 h) K 37 [some (xR c0), some (xI v1), none] [] h := by
  intro v1 h
  unfold f_X11_image_L37
  refine xa_step (xa_iload_n d_X11_image_37 rfl) ?_
  refine xa_step (xa_aload_n d_X11_image_38 rfl) ?_
  refine xa_getf xR xc_11 (by decide) (fun _ => rfl) xw_589 rfl d_X11_image_39 (fun x8 _ => ?_)
  refine xa_getf xI xc_0 (by decide) (fun _ => rfl) xw_391 rfl d_X11_image_42 (fun x9 _ => ?_)
  refine xa_if (xa_icmpge d_X11_image_45) (fun q10 => ?_) (fun q10 => ?_)
  · refine xa_step (xa_aload_n d_X11_image_48 rfl) ?_
    refine xa_step (xa_aload_n d_X11_image_49 rfl) ?_
    refine xa_getf xR xc_11 (by decide) (fun _ => rfl) xw_590 rfl d_X11_image_50 (fun x11 _ => ?_)
    refine xa_getf xR xc_9 (by decide) (fun _ => rfl) xw_346 rfl d_X11_image_53 (fun x12 _ => ?_)
    refine xa_step (xa_iload_n d_X11_image_56 rfl) ?_
    refine xa_iaload d_X11_image_57 (fun x13 _ => ?_)
    refine xa_callVV (as := [xI x13]) (st := []) (M' := mX11_putImage) (d' := 2) rfl xw_1265 xw_1267 xw_61 xw_1268 xw_161 xh_X11_putImage rfl ⟨Nat.le_of_ble_eq_true rfl, Nat.le_of_ble_eq_true rfl⟩ (Nat.le_of_ble_eq_true rfl) rfl d_X11_image_58 (fun r hr => ct_X11_putImage l G c0 x13 h r hr) (fun r14 _ => ?_)
    refine xa_step (xa_aload_n d_X11_image_61 rfl) ?_
    refine xa_step (xa_aload_n d_X11_image_62 rfl) ?_
    refine xa_getf xR xc_11 (by decide) (fun _ => rfl) xw_590 rfl d_X11_image_63 (fun x15 _ => ?_)
    refine xa_getf xR xc_9 (by decide) (fun _ => rfl) xw_350 rfl d_X11_image_66 (fun x16 _ => ?_)
    refine xa_step (xa_iload_n d_X11_image_69 rfl) ?_
    refine xa_iaload d_X11_image_70 (fun x17 _ => ?_)
    refine xa_callVV (as := [xI x17]) (st := []) (M' := mX11_putImage) (d' := 2) rfl xw_1265 xw_1267 xw_61 xw_1268 xw_161 xh_X11_putImage rfl ⟨Nat.le_of_ble_eq_true rfl, Nat.le_of_ble_eq_true rfl⟩ (Nat.le_of_ble_eq_true rfl) rfl d_X11_image_71 (fun r hr => ct_X11_putImage l G c0 x17 r14 r hr) (fun r18 _ => ?_)
    refine xa_step (xa_aload_n d_X11_image_74 rfl) ?_
    refine xa_step (xa_aload_n d_X11_image_75 rfl) ?_
    refine xa_getf xR xc_11 (by decide) (fun _ => rfl) xw_590 rfl d_X11_image_76 (fun x19 _ => ?_)
    refine xa_getf xR xc_9 (by decide) (fun _ => rfl) xw_354 rfl d_X11_image_79 (fun x20 _ => ?_)
    refine xa_step (xa_iload_n d_X11_image_82 rfl) ?_
    refine xa_iaload d_X11_image_83 (fun x21 _ => ?_)
    refine xa_step (xa_sipush d_X11_image_84 xq_s_256) ?_
    refine xa_step (xa_idiv d_X11_image_87 (by decide)) ?_
    refine xa_callVV (as := [xI (w32 (Int.tdiv x21 256))]) (st := []) (M' := mX11_putImage) (d' := 2) rfl xw_1265 xw_1267 xw_61 xw_1268 xw_161 xh_X11_putImage rfl ⟨Nat.le_of_ble_eq_true rfl, Nat.le_of_ble_eq_true rfl⟩ (Nat.le_of_ble_eq_true rfl) rfl d_X11_image_88 (fun r hr => ct_X11_putImage l G c0 (w32 (Int.tdiv x21 256)) r18 r hr) (fun r22 _ => ?_)
    refine xa_step (xa_aload_n d_X11_image_91 rfl) ?_
    refine xa_step (xa_aload_n d_X11_image_92 rfl) ?_
    refine xa_getf xR xc_11 (by decide) (fun _ => rfl) xw_590 rfl d_X11_image_93 (fun x23 _ => ?_)
    refine xa_getf xR xc_9 (by decide) (fun _ => rfl) xw_354 rfl d_X11_image_96 (fun x24 _ => ?_)
    refine xa_step (xa_iload_n d_X11_image_99 rfl) ?_
    refine xa_iaload d_X11_image_100 (fun x25 _ => ?_)
    refine xa_step (xa_sipush d_X11_image_101 xq_s_256) ?_
    refine xa_step (xa_irem d_X11_image_104 (by decide)) ?_
    refine xa_callVV (as := [xI (Int.tmod x25 256)]) (st := []) (M' := mX11_putImage) (d' := 2) rfl xw_1265 xw_1267 xw_61 xw_1268 xw_161 xh_X11_putImage rfl ⟨Nat.le_of_ble_eq_true rfl, Nat.le_of_ble_eq_true rfl⟩ (Nat.le_of_ble_eq_true rfl) rfl d_X11_image_105 (fun r hr => ct_X11_putImage l G c0 (Int.tmod x25 256) r22 r hr) (fun r26 _ => ?_)
    refine xa_step (xa_iconst d_X11_image_108 xq_i_0) ?_
    refine xa_step (xa_istore_n (ls' := [some (xR c0), some (xI v1), some (xI 0)]) d_X11_image_109 (by decide) rfl) ?_
    refine xa_weak (ls' := [some (xR c0), some (xI v1), some (xI 0)]) ⟨rfl, rfl, rfl, trivial⟩ ?_
    refine xa_loop (f := fun s => f_X11_image_L110 c0 v1 s.1 s.2) (L := fun s => [some (xR c0), some (xI v1), some (xI s.1)]) (P := fun s => s.2) (X := (fun x K => xa_G l G 3 mX11_image (some (Sum.inr x)) K 145 [some (xR c0), some (xI v1), none] [] x)) (fun K hb hX s => g_X11_image_L110 l G c0 v1 K (fun w0 hh => hb ((w0, hh))) (fun hh => hX hh) s.1 s.2) ?_ xFU ((0, r26))
    intro e34 K hK
    refine xa_eqE hK ?_
    show xa_G l G 3 mX11_image _ _ 145 [some (xR c0), some (xI v1), none] [] e34
    refine xa_step (xa_iinc (ls' := [some (xR c0), some (xI (w32 (v1 + 1))), none]) d_X11_image_145 xq_i_1 rfl (by decide) rfl) ?_
    refine xa_step (xa_goto d_X11_image_148) ?_
    exact xa_weak (ls' := [some (xR c0), some (xI (w32 (v1 + 1))), none]) ⟨rfl, rfl, trivial⟩ (hb (w32 (v1 + 1)) e34)
  · exact xa_weak (ls' := [some (xR c0), none, none]) ⟨rfl, trivial⟩ (hx h)
theorem d_X11_image_151 : decode mX11_image.1 151 = .ok (.bipush 17, 2) ∧ 151 + 2 = 153 := ⟨by decide +kernel, rfl⟩
theorem d_X11_image_153 : decode mX11_image.1 153 = .ok (.istore_n 1, 1) ∧ 153 + 1 = 154 := ⟨by decide +kernel, rfl⟩
theorem d_X11_image_154 : decode mX11_image.1 154 = .ok (.iconst 0, 1) ∧ 154 + 1 = 155 := ⟨by decide +kernel, rfl⟩
theorem d_X11_image_155 : decode mX11_image.1 155 = .ok (.istore_n 2, 1) ∧ 155 + 1 = 156 := ⟨by decide +kernel, rfl⟩
theorem d_X11_image_156 : decode mX11_image.1 156 = .ok (.iload_n 2, 1) ∧ 156 + 1 = 157 := ⟨by decide +kernel, rfl⟩
theorem d_X11_image_157 : decode mX11_image.1 157 = .ok (.aload_n 0, 1) ∧ 157 + 1 = 158 := ⟨by decide +kernel, rfl⟩
theorem d_X11_image_158 : decode mX11_image.1 158 = .ok (.getfield 105, 3) ∧ 158 + 3 = 161 := ⟨by decide +kernel, rfl⟩
theorem d_X11_image_161 : decode mX11_image.1 161 = .ok (.if_icmp .ge 24, 3) ∧ 161 + 3 = 164 ∧ ((161 : Nat) : Int) + 24 = ((185 : Nat) : Int) := ⟨by decide +kernel, rfl, rfl⟩
theorem d_X11_image_164 : decode mX11_image.1 164 = .ok (.iconst 3, 1) ∧ 164 + 1 = 165 := ⟨by decide +kernel, rfl⟩
theorem d_X11_image_165 : decode mX11_image.1 165 = .ok (.iload_n 1, 1) ∧ 165 + 1 = 166 := ⟨by decide +kernel, rfl⟩
theorem d_X11_image_166 : decode mX11_image.1 166 = .ok (.imul, 1) ∧ 166 + 1 = 167 := ⟨by decide +kernel, rfl⟩
theorem d_X11_image_167 : decode mX11_image.1 167 = .ok (.aload_n 0, 1) ∧ 167 + 1 = 168 := ⟨by decide +kernel, rfl⟩
theorem d_X11_image_168 : decode mX11_image.1 168 = .ok (.getfield 102, 3) ∧ 168 + 3 = 171 := ⟨by decide +kernel, rfl⟩
theorem d_X11_image_171 : decode mX11_image.1 171 = .ok (.iload_n 2, 1) ∧ 171 + 1 = 172 := ⟨by decide +kernel, rfl⟩
theorem d_X11_image_172 : decode mX11_image.1 172 = .ok (.iaload, 1) ∧ 172 + 1 = 173 := ⟨by decide +kernel, rfl⟩
theorem d_X11_image_173 : decode mX11_image.1 173 = .ok (.iadd, 1) ∧ 173 + 1 = 174 := ⟨by decide +kernel, rfl⟩
theorem d_X11_image_174 : decode mX11_image.1 174 = .ok (.sipush 251, 3) ∧ 174 + 3 = 177 := ⟨by decide +kernel, rfl⟩
theorem d_X11_image_177 : decode mX11_image.1 177 = .ok (.irem, 1) ∧ 177 + 1 = 178 := ⟨by decide +kernel, rfl⟩
theorem d_X11_image_178 : decode mX11_image.1 178 = .ok (.istore_n 1, 1) ∧ 178 + 1 = 179 := ⟨by decide +kernel, rfl⟩
theorem d_X11_image_179 : decode mX11_image.1 179 = .ok (.iinc 2 1, 3) ∧ 179 + 3 = 182 := ⟨by decide +kernel, rfl⟩
theorem d_X11_image_182 : decode mX11_image.1 182 = .ok (.goto (-26), 3) ∧ ((182 : Nat) : Int) + (-26) = ((156 : Nat) : Int) := ⟨by decide +kernel, rfl⟩
set_option maxRecDepth 100000 in
set_option maxHeartbeats 4000000 in
theorem g_X11_image_L156 (l : Launch) (G : xa_C) (c0 : Int) (h : xa_H) (K : (Int × Int) ⊕ (Int) → Option xa_O) (hb : ∀ (v1 : Int) (v2 : Int), xa_G l G 3 mX11_image (some (Sum.inl ((v1, v2)))) K 156 [some (xR c0), some (xI v1), some (xI v2)] [] h) (hx : ∀ (v1 : Int), xa_G l G 3 mX11_image (some (Sum.inr v1)) K 185 [some (xR c0), some (xI v1), none] [] h) : ∀ (v1 : Int) (v2 : Int), xa_G l G 3 mX11_image (f_X11_image_L156 c0 h v1 v2) K 156 [some (xR c0), some (xI v1), some (xI v2)] [] h := by
  intro v1 v2
  unfold f_X11_image_L156
  refine xa_step (xa_iload_n d_X11_image_156 rfl) ?_
  refine xa_step (xa_aload_n d_X11_image_157 rfl) ?_
  refine xa_getf xI xc_11 (by decide) (fun _ => rfl) xw_600 rfl d_X11_image_158 (fun x36 _ => ?_)
  refine xa_if (xa_icmpge d_X11_image_161) (fun q37 => ?_) (fun q37 => ?_)
  · refine xa_step (xa_iconst d_X11_image_164 xq_i_3) ?_
    refine xa_step (xa_iload_n d_X11_image_165 rfl) ?_
    refine xa_step (xa_imul d_X11_image_166) ?_
    refine xa_step (xa_aload_n d_X11_image_167 rfl) ?_
    refine xa_getf xR xc_11 (by decide) (fun _ => rfl) xw_599 rfl d_X11_image_168 (fun x38 _ => ?_)
    refine xa_step (xa_iload_n d_X11_image_171 rfl) ?_
    refine xa_iaload d_X11_image_172 (fun x39 _ => ?_)
    refine xa_step (xa_iadd d_X11_image_173) ?_
    refine xa_step (xa_sipush d_X11_image_174 xq_s_251) ?_
    refine xa_step (xa_irem d_X11_image_177 (by decide)) ?_
    refine xa_step (xa_istore_n (ls' := [some (xR c0), some (xI (Int.tmod (w32 ((w32 (3 * v1)) + x39)) 251)), some (xI v2)]) d_X11_image_178 (by decide) rfl) ?_
    refine xa_step (xa_iinc (ls' := [some (xR c0), some (xI (Int.tmod (w32 ((w32 (3 * v1)) + x39)) 251)), some (xI (w32 (v2 + 1)))]) d_X11_image_179 xq_i_1 rfl (by decide) rfl) ?_
    refine xa_step (xa_goto d_X11_image_182) ?_
    exact xa_weak (ls' := [some (xR c0), some (xI (Int.tmod (w32 ((w32 (3 * v1)) + x39)) 251)), some (xI (w32 (v2 + 1)))]) ⟨rfl, rfl, rfl, trivial⟩ (hb (Int.tmod (w32 ((w32 (3 * v1)) + x39)) 251) (w32 (v2 + 1)))
  · exact xa_weak (ls' := [some (xR c0), some (xI v1), none]) ⟨rfl, rfl, trivial⟩ (hx v1)
theorem d_X11_image_185 : decode mX11_image.1 185 = .ok (.aload_n 0, 1) ∧ 185 + 1 = 186 := ⟨by decide +kernel, rfl⟩
theorem d_X11_image_186 : decode mX11_image.1 186 = .ok (.iload_n 1, 1) ∧ 186 + 1 = 187 := ⟨by decide +kernel, rfl⟩
theorem d_X11_image_187 : decode mX11_image.1 187 = .ok (.invokevirtual 366, 3) ∧ 187 + 3 = 190 := ⟨by decide +kernel, rfl⟩
theorem d_X11_image_190 : decode mX11_image.1 190 = .ok (.aload_n 0, 1) ∧ 190 + 1 = 191 := ⟨by decide +kernel, rfl⟩
theorem d_X11_image_191 : decode mX11_image.1 191 = .ok (.getfield 105, 3) ∧ 191 + 3 = 194 := ⟨by decide +kernel, rfl⟩
theorem d_X11_image_194 : decode mX11_image.1 194 = .ok (.ireturn, 1) := by decide +kernel
set_option maxRecDepth 100000 in
set_option maxHeartbeats 4000000 in
theorem g_X11_image (l : Launch) (G : xa_C) (v0 : Int) (h : xa_H) : xa_G l G 3 mX11_image (f_X11_image v0 h) (fun r => some (some (xI r.1), r.2) : (Int × xa_H) → Option xa_O) 0 [some (xR v0), none, none] [] h := by
  unfold f_X11_image
  refine xa_step (xa_aload_n d_X11_image_0 rfl) ?_
  refine xa_step (xa_iconst d_X11_image_1 xq_i_0) ?_
  refine xa_putf2 (tg := xI) xc_11 (by decide) (fun _ => rfl) rfl (fun c hc => xa_fitI c hc) xw_600 rfl d_X11_image_2 (fun h1 _ => ?_)
  refine xa_step (xa_aload_n d_X11_image_5 rfl) ?_
  refine xa_step (xa_aload_n d_X11_image_6 rfl) ?_
  refine xa_getf xR xc_11 (by decide) (fun _ => rfl) xw_590 rfl d_X11_image_7 (fun x2 _ => ?_)
  refine xa_getf xI xc_9 (by decide) (fun _ => rfl) xw_341 rfl d_X11_image_10 (fun x3 _ => ?_)
  refine xa_step (xa_sipush d_X11_image_13 xq_s_256) ?_
  refine xa_step (xa_idiv d_X11_image_16 (by decide)) ?_
  refine xa_callVV (as := [xI (w32 (Int.tdiv x3 256))]) (st := []) (M' := mX11_putImage) (d' := 2) rfl xw_1265 xw_1267 xw_61 xw_1268 xw_161 xh_X11_putImage rfl ⟨Nat.le_of_ble_eq_true rfl, Nat.le_of_ble_eq_true rfl⟩ (Nat.le_of_ble_eq_true rfl) rfl d_X11_image_17 (fun r hr => ct_X11_putImage l G v0 (w32 (Int.tdiv x3 256)) h1 r hr) (fun r4 _ => ?_)
  refine xa_step (xa_aload_n d_X11_image_20 rfl) ?_
  refine xa_step (xa_aload_n d_X11_image_21 rfl) ?_
  refine xa_getf xR xc_11 (by decide) (fun _ => rfl) xw_590 rfl d_X11_image_22 (fun x5 _ => ?_)
  refine xa_getf xI xc_9 (by decide) (fun _ => rfl) xw_341 rfl d_X11_image_25 (fun x6 _ => ?_)
  refine xa_step (xa_sipush d_X11_image_28 xq_s_256) ?_
  refine xa_step (xa_irem d_X11_image_31 (by decide)) ?_
  refine xa_callVV (as := [xI (Int.tmod x6 256)]) (st := []) (M' := mX11_putImage) (d' := 2) rfl xw_1265 xw_1267 xw_61 xw_1268 xw_161 xh_X11_putImage rfl ⟨Nat.le_of_ble_eq_true rfl, Nat.le_of_ble_eq_true rfl⟩ (Nat.le_of_ble_eq_true rfl) rfl d_X11_image_32 (fun r hr => ct_X11_putImage l G v0 (Int.tmod x6 256) r4 r hr) (fun r7 _ => ?_)
  refine xa_step (xa_iconst d_X11_image_35 xq_i_0) ?_
  refine xa_step (xa_istore_n (ls' := [some (xR v0), some (xI 0), none]) d_X11_image_36 (by decide) rfl) ?_
  refine xa_weak (ls' := [some (xR v0), some (xI 0), none]) ⟨rfl, rfl, trivial⟩ ?_
  refine xa_loop (f := fun s => f_X11_image_L37 v0 s.1 s.2) (L := fun s => [some (xR v0), some (xI s.1), none]) (P := fun s => s.2) (X := (fun x K => xa_G l G 3 mX11_image (some (Sum.inr x)) K 151 [some (xR v0), none, none] [] x)) (fun K hb hX s => g_X11_image_L37 l G v0 K (fun w0 hh => hb ((w0, hh))) (fun hh => hX hh) s.1 s.2) ?_ xFU ((0, r7))
  intro e35 K hK
  refine xa_eqE hK ?_
  show xa_G l G 3 mX11_image _ _ 151 [some (xR v0), none, none] [] e35
  refine xa_step (xa_bipush d_X11_image_151 xq_b_17) ?_
  refine xa_step (xa_istore_n (ls' := [some (xR v0), some (xI 17), none]) d_X11_image_153 (by decide) rfl) ?_
  refine xa_step (xa_iconst d_X11_image_154 xq_i_0) ?_
  refine xa_step (xa_istore_n (ls' := [some (xR v0), some (xI 17), some (xI 0)]) d_X11_image_155 (by decide) rfl) ?_
  refine xa_weak (ls' := [some (xR v0), some (xI 17), some (xI 0)]) ⟨rfl, rfl, rfl, trivial⟩ ?_
  refine xa_loop (f := fun s => f_X11_image_L156 v0 e35 s.1 s.2) (L := fun s => [some (xR v0), some (xI s.1), some (xI s.2)]) (P := fun s => e35) (X := (fun x K => xa_G l G 3 mX11_image (some (Sum.inr x)) K 185 [some (xR v0), some (xI x), none] [] e35)) (fun K hb hX s => g_X11_image_L156 l G v0 e35 K (fun w0 w1 => hb ((w0, w1))) (fun w0 => hX w0) s.1 s.2) ?_ xFU ((17, 0))
  intro e40 K hK
  refine xa_eqE hK ?_
  show xa_G l G 3 mX11_image _ _ 185 [some (xR v0), some (xI e40), none] [] e35
  refine xa_step (xa_aload_n d_X11_image_185 rfl) ?_
  refine xa_step (xa_iload_n d_X11_image_186 rfl) ?_
  refine xa_callVV (as := [xI e40]) (st := []) (M' := mX11_putImage) (d' := 2) rfl xw_1265 xw_1267 xw_61 xw_1268 xw_161 xh_X11_putImage rfl ⟨Nat.le_of_ble_eq_true rfl, Nat.le_of_ble_eq_true rfl⟩ (Nat.le_of_ble_eq_true rfl) rfl d_X11_image_187 (fun r hr => ct_X11_putImage l G v0 e40 e35 r hr) (fun r41 _ => ?_)
  refine xa_step (xa_aload_n d_X11_image_190 rfl) ?_
  refine xa_getf xI xc_11 (by decide) (fun _ => rfl) xw_600 rfl d_X11_image_191 (fun x42 _ => ?_)
  exact xa_iret d_X11_image_194 rfl rfl
theorem ct_X11_image (l : Launch) (G : xa_C) (v0 : Int) (h : xa_H) (r : Int × xa_H) (hr : f_X11_image v0 h = some r) : xa_CT l G 3 mX11_image yX11_image [xR v0] h (some (xI r.1), r.2) :=
  xa_met (by decide +kernel) rfl (fun q => by first | rfl | cases q) (Nat.le_of_ble_eq_true rfl) rfl (g_X11_image l G v0 h) (by rw [hr]; rfl)
abbrev mX11_imagePlace : xa_M := (cX11_imagePlace, 2, (some (.int)), RX11, false)
theorem d_X11_imagePlace_0 : decode mX11_imagePlace.1 0 = .ok (.iconst 2, 1) ∧ 0 + 1 = 1 := ⟨by decide +kernel, rfl⟩
theorem d_X11_imagePlace_1 : decode mX11_imagePlace.1 1 = .ok (.iload_n 1, 1) ∧ 1 + 1 = 2 := ⟨by decide +kernel, rfl⟩
theorem d_X11_imagePlace_2 : decode mX11_imagePlace.1 2 = .ok (.iconst 4, 1) ∧ 2 + 1 = 3 := ⟨by decide +kernel, rfl⟩
theorem d_X11_imagePlace_3 : decode mX11_imagePlace.1 3 = .ok (.aload_n 0, 1) ∧ 3 + 1 = 4 := ⟨by decide +kernel, rfl⟩
theorem d_X11_imagePlace_4 : decode mX11_imagePlace.1 4 = .ok (.getfield 47, 3) ∧ 4 + 3 = 7 := ⟨by decide +kernel, rfl⟩
theorem d_X11_imagePlace_7 : decode mX11_imagePlace.1 7 = .ok (.getfield 146, 3) ∧ 7 + 3 = 10 := ⟨by decide +kernel, rfl⟩
theorem d_X11_imagePlace_10 : decode mX11_imagePlace.1 10 = .ok (.iadd, 1) ∧ 10 + 1 = 11 := ⟨by decide +kernel, rfl⟩
theorem d_X11_imagePlace_11 : decode mX11_imagePlace.1 11 = .ok (.imul, 1) ∧ 11 + 1 = 12 := ⟨by decide +kernel, rfl⟩
theorem d_X11_imagePlace_12 : decode mX11_imagePlace.1 12 = .ok (.iadd, 1) ∧ 12 + 1 = 13 := ⟨by decide +kernel, rfl⟩
theorem d_X11_imagePlace_13 : decode mX11_imagePlace.1 13 = .ok (.ireturn, 1) := by decide +kernel
set_option maxRecDepth 100000 in
set_option maxHeartbeats 4000000 in
theorem g_X11_imagePlace (l : Launch) (G : xa_C) (v0 v1 : Int) (h : xa_H) : xa_G l G 2 mX11_imagePlace (f_X11_imagePlace v0 v1 h) (fun r => some (some (xI r), h) : Int → Option xa_O) 0 [some (xR v0), some (xI v1)] [] h := by
  unfold f_X11_imagePlace
  refine xa_step (xa_iconst d_X11_imagePlace_0 xq_i_2) ?_
  refine xa_step (xa_iload_n d_X11_imagePlace_1 rfl) ?_
  refine xa_step (xa_iconst d_X11_imagePlace_2 xq_i_4) ?_
  refine xa_step (xa_aload_n d_X11_imagePlace_3 rfl) ?_
  refine xa_getf xR xc_11 (by decide) (fun _ => rfl) xw_589 rfl d_X11_imagePlace_4 (fun x1 _ => ?_)
  refine xa_getf xI xc_0 (by decide) (fun _ => rfl) xw_391 rfl d_X11_imagePlace_7 (fun x2 _ => ?_)
  refine xa_step (xa_iadd d_X11_imagePlace_10) ?_
  refine xa_step (xa_imul d_X11_imagePlace_11) ?_
  refine xa_step (xa_iadd d_X11_imagePlace_12) ?_
  exact xa_iret d_X11_imagePlace_13 rfl rfl
theorem ct_X11_imagePlace (l : Launch) (G : xa_C) (v0 v1 : Int) (h : xa_H) (r : Int) (hr : f_X11_imagePlace v0 v1 h = some r) : xa_CT l G 2 mX11_imagePlace yX11_imagePlace [xR v0, xI v1] h (some (xI r), h) :=
  xa_met (by decide +kernel) rfl (fun q => by first | rfl | cases q) (Nat.le_of_ble_eq_true rfl) rfl (g_X11_imagePlace l G v0 v1 h) (by rw [hr]; rfl)
abbrev mX11_tapePair : xa_M := (cX11_tapePair, 2, (some (.int)), RX11, false)
theorem d_X11_tapePair_0 : decode mX11_tapePair.1 0 = .ok (.aload_n 0, 1) ∧ 0 + 1 = 1 := ⟨by decide +kernel, rfl⟩
theorem d_X11_tapePair_1 : decode mX11_tapePair.1 1 = .ok (.iload_n 1, 1) ∧ 1 + 1 = 2 := ⟨by decide +kernel, rfl⟩
theorem d_X11_tapePair_2 : decode mX11_tapePair.1 2 = .ok (.invokevirtual 303, 3) ∧ 2 + 3 = 5 := ⟨by decide +kernel, rfl⟩
theorem d_X11_tapePair_5 : decode mX11_tapePair.1 5 = .ok (.sipush 256, 3) ∧ 5 + 3 = 8 := ⟨by decide +kernel, rfl⟩
theorem d_X11_tapePair_8 : decode mX11_tapePair.1 8 = .ok (.imul, 1) ∧ 8 + 1 = 9 := ⟨by decide +kernel, rfl⟩
theorem d_X11_tapePair_9 : decode mX11_tapePair.1 9 = .ok (.aload_n 0, 1) ∧ 9 + 1 = 10 := ⟨by decide +kernel, rfl⟩
theorem d_X11_tapePair_10 : decode mX11_tapePair.1 10 = .ok (.iload_n 1, 1) ∧ 10 + 1 = 11 := ⟨by decide +kernel, rfl⟩
theorem d_X11_tapePair_11 : decode mX11_tapePair.1 11 = .ok (.iconst 1, 1) ∧ 11 + 1 = 12 := ⟨by decide +kernel, rfl⟩
theorem d_X11_tapePair_12 : decode mX11_tapePair.1 12 = .ok (.iadd, 1) ∧ 12 + 1 = 13 := ⟨by decide +kernel, rfl⟩
theorem d_X11_tapePair_13 : decode mX11_tapePair.1 13 = .ok (.invokevirtual 303, 3) ∧ 13 + 3 = 16 := ⟨by decide +kernel, rfl⟩
theorem d_X11_tapePair_16 : decode mX11_tapePair.1 16 = .ok (.iadd, 1) ∧ 16 + 1 = 17 := ⟨by decide +kernel, rfl⟩
theorem d_X11_tapePair_17 : decode mX11_tapePair.1 17 = .ok (.ireturn, 1) := by decide +kernel
set_option maxRecDepth 100000 in
set_option maxHeartbeats 4000000 in
theorem g_X11_tapePair (l : Launch) (G : xa_C) (v0 v1 : Int) (h : xa_H) : xa_G l G 3 mX11_tapePair (f_X11_tapePair v0 v1 h) (fun r => some (some (xI r), h) : Int → Option xa_O) 0 [some (xR v0), some (xI v1)] [] h := by
  unfold f_X11_tapePair
  refine xa_step (xa_aload_n d_X11_tapePair_0 rfl) ?_
  refine xa_step (xa_iload_n d_X11_tapePair_1 rfl) ?_
  refine xa_callVi (as := [xI v1]) (st := []) (M' := mX11_tapeByte) (d' := 2) rfl xw_958 xw_960 xw_36 xw_961 xw_161 xh_X11_tapeByte rfl ⟨Nat.le_of_ble_eq_true rfl, Nat.le_of_ble_eq_true rfl⟩ (Nat.le_of_ble_eq_true rfl) rfl d_X11_tapePair_2 (fun r hr => ct_X11_tapeByte l G v0 v1 h r hr) (fun r1 _ => ?_)
  refine xa_step (xa_sipush d_X11_tapePair_5 xq_s_256) ?_
  refine xa_step (xa_imul d_X11_tapePair_8) ?_
  refine xa_step (xa_aload_n d_X11_tapePair_9 rfl) ?_
  refine xa_step (xa_iload_n d_X11_tapePair_10 rfl) ?_
  refine xa_step (xa_iconst d_X11_tapePair_11 xq_i_1) ?_
  refine xa_step (xa_iadd d_X11_tapePair_12) ?_
  refine xa_callVi (as := [xI (w32 (v1 + 1))]) (st := [xI (w32 (r1 * 256))]) (M' := mX11_tapeByte) (d' := 2) rfl xw_958 xw_960 xw_36 xw_961 xw_161 xh_X11_tapeByte rfl ⟨Nat.le_of_ble_eq_true rfl, Nat.le_of_ble_eq_true rfl⟩ (Nat.le_of_ble_eq_true rfl) rfl d_X11_tapePair_13 (fun r hr => ct_X11_tapeByte l G v0 (w32 (v1 + 1)) h r hr) (fun r2 _ => ?_)
  refine xa_step (xa_iadd d_X11_tapePair_16) ?_
  exact xa_iret d_X11_tapePair_17 rfl rfl
theorem ct_X11_tapePair (l : Launch) (G : xa_C) (v0 v1 : Int) (h : xa_H) (r : Int) (hr : f_X11_tapePair v0 v1 h = some r) : xa_CT l G 3 mX11_tapePair yX11_tapePair [xR v0, xI v1] h (some (xI r), h) :=
  xa_met (by decide +kernel) rfl (fun q => by first | rfl | cases q) (Nat.le_of_ble_eq_true rfl) rfl (g_X11_tapePair l G v0 v1 h) (by rw [hr]; rfl)
abbrev mX11_isHolderImage : xa_M := (cX11_isHolderImage, 4, (some (.boolean)), RX11, false)
theorem d_X11_isHolderImage_0 : decode mX11_isHolderImage.1 0 = .ok (.aload_n 0, 1) ∧ 0 + 1 = 1 := ⟨by decide +kernel, rfl⟩
theorem d_X11_isHolderImage_1 : decode mX11_isHolderImage.1 1 = .ok (.iload_n 1, 1) ∧ 1 + 1 = 2 := ⟨by decide +kernel, rfl⟩
theorem d_X11_isHolderImage_2 : decode mX11_isHolderImage.1 2 = .ok (.invokevirtual 375, 3) ∧ 2 + 3 = 5 := ⟨by decide +kernel, rfl⟩
theorem d_X11_isHolderImage_5 : decode mX11_isHolderImage.1 5 = .ok (.istore_n 2, 1) ∧ 5 + 1 = 6 := ⟨by decide +kernel, rfl⟩
theorem d_X11_isHolderImage_6 : decode mX11_isHolderImage.1 6 = .ok (.aload_n 0, 1) ∧ 6 + 1 = 7 := ⟨by decide +kernel, rfl⟩
theorem d_X11_isHolderImage_7 : decode mX11_isHolderImage.1 7 = .ok (.aload_n 0, 1) ∧ 7 + 1 = 8 := ⟨by decide +kernel, rfl⟩
theorem d_X11_isHolderImage_8 : decode mX11_isHolderImage.1 8 = .ok (.iload_n 2, 1) ∧ 8 + 1 = 9 := ⟨by decide +kernel, rfl⟩
theorem d_X11_isHolderImage_9 : decode mX11_isHolderImage.1 9 = .ok (.invokevirtual 303, 3) ∧ 9 + 3 = 12 := ⟨by decide +kernel, rfl⟩
theorem d_X11_isHolderImage_12 : decode mX11_isHolderImage.1 12 = .ok (.invokevirtual 188, 3) ∧ 12 + 3 = 15 := ⟨by decide +kernel, rfl⟩
theorem d_X11_isHolderImage_15 : decode mX11_isHolderImage.1 15 = .ok (.ifCond .eq 30, 3) ∧ 15 + 3 = 18 ∧ ((15 : Nat) : Int) + 30 = ((45 : Nat) : Int) := ⟨by decide +kernel, rfl, rfl⟩
theorem d_X11_isHolderImage_45 : decode mX11_isHolderImage.1 45 = .ok (.iconst 0, 1) ∧ 45 + 1 = 46 := ⟨by decide +kernel, rfl⟩
theorem d_X11_isHolderImage_46 : decode mX11_isHolderImage.1 46 = .ok (.ireturn, 1) := by decide +kernel
theorem d_X11_isHolderImage_18 : decode mX11_isHolderImage.1 18 = .ok (.aload_n 0, 1) ∧ 18 + 1 = 19 := ⟨by decide +kernel, rfl⟩
theorem d_X11_isHolderImage_19 : decode mX11_isHolderImage.1 19 = .ok (.aload_n 0, 1) ∧ 19 + 1 = 20 := ⟨by decide +kernel, rfl⟩
theorem d_X11_isHolderImage_20 : decode mX11_isHolderImage.1 20 = .ok (.iload_n 2, 1) ∧ 20 + 1 = 21 := ⟨by decide +kernel, rfl⟩
theorem d_X11_isHolderImage_21 : decode mX11_isHolderImage.1 21 = .ok (.iconst 1, 1) ∧ 21 + 1 = 22 := ⟨by decide +kernel, rfl⟩
theorem d_X11_isHolderImage_22 : decode mX11_isHolderImage.1 22 = .ok (.iadd, 1) ∧ 22 + 1 = 23 := ⟨by decide +kernel, rfl⟩
theorem d_X11_isHolderImage_23 : decode mX11_isHolderImage.1 23 = .ok (.invokevirtual 303, 3) ∧ 23 + 3 = 26 := ⟨by decide +kernel, rfl⟩
theorem d_X11_isHolderImage_26 : decode mX11_isHolderImage.1 26 = .ok (.invokevirtual 188, 3) ∧ 26 + 3 = 29 := ⟨by decide +kernel, rfl⟩
theorem d_X11_isHolderImage_29 : decode mX11_isHolderImage.1 29 = .ok (.ifCond .eq 16, 3) ∧ 29 + 3 = 32 ∧ ((29 : Nat) : Int) + 16 = ((45 : Nat) : Int) := ⟨by decide +kernel, rfl, rfl⟩
theorem d_X11_isHolderImage_32 : decode mX11_isHolderImage.1 32 = .ok (.aload_n 0, 1) ∧ 32 + 1 = 33 := ⟨by decide +kernel, rfl⟩
theorem d_X11_isHolderImage_33 : decode mX11_isHolderImage.1 33 = .ok (.iload_n 2, 1) ∧ 33 + 1 = 34 := ⟨by decide +kernel, rfl⟩
theorem d_X11_isHolderImage_34 : decode mX11_isHolderImage.1 34 = .ok (.iconst 2, 1) ∧ 34 + 1 = 35 := ⟨by decide +kernel, rfl⟩
theorem d_X11_isHolderImage_35 : decode mX11_isHolderImage.1 35 = .ok (.iadd, 1) ∧ 35 + 1 = 36 := ⟨by decide +kernel, rfl⟩
theorem d_X11_isHolderImage_36 : decode mX11_isHolderImage.1 36 = .ok (.invokevirtual 372, 3) ∧ 36 + 3 = 39 := ⟨by decide +kernel, rfl⟩
theorem d_X11_isHolderImage_39 : decode mX11_isHolderImage.1 39 = .ok (.sipush 9999, 3) ∧ 39 + 3 = 42 := ⟨by decide +kernel, rfl⟩
theorem d_X11_isHolderImage_42 : decode mX11_isHolderImage.1 42 = .ok (.if_icmp .le 5, 3) ∧ 42 + 3 = 45 ∧ ((42 : Nat) : Int) + 5 = ((47 : Nat) : Int) := ⟨by decide +kernel, rfl, rfl⟩
theorem d_X11_isHolderImage_47 : decode mX11_isHolderImage.1 47 = .ok (.iconst 0, 1) ∧ 47 + 1 = 48 := ⟨by decide +kernel, rfl⟩
theorem d_X11_isHolderImage_48 : decode mX11_isHolderImage.1 48 = .ok (.istore_n 3, 1) ∧ 48 + 1 = 49 := ⟨by decide +kernel, rfl⟩
theorem d_X11_isHolderImage_49 : decode mX11_isHolderImage.1 49 = .ok (.iload_n 3, 1) ∧ 49 + 1 = 50 := ⟨by decide +kernel, rfl⟩
theorem d_X11_isHolderImage_50 : decode mX11_isHolderImage.1 50 = .ok (.aload_n 0, 1) ∧ 50 + 1 = 51 := ⟨by decide +kernel, rfl⟩
theorem d_X11_isHolderImage_51 : decode mX11_isHolderImage.1 51 = .ok (.getfield 47, 3) ∧ 51 + 3 = 54 := ⟨by decide +kernel, rfl⟩
theorem d_X11_isHolderImage_54 : decode mX11_isHolderImage.1 54 = .ok (.getfield 146, 3) ∧ 54 + 3 = 57 := ⟨by decide +kernel, rfl⟩
theorem d_X11_isHolderImage_57 : decode mX11_isHolderImage.1 57 = .ok (.if_icmp .ge 34, 3) ∧ 57 + 3 = 60 ∧ ((57 : Nat) : Int) + 34 = ((91 : Nat) : Int) := ⟨by decide +kernel, rfl, rfl⟩
theorem d_X11_isHolderImage_60 : decode mX11_isHolderImage.1 60 = .ok (.aload_n 0, 1) ∧ 60 + 1 = 61 := ⟨by decide +kernel, rfl⟩
theorem d_X11_isHolderImage_61 : decode mX11_isHolderImage.1 61 = .ok (.iload_n 2, 1) ∧ 61 + 1 = 62 := ⟨by decide +kernel, rfl⟩
theorem d_X11_isHolderImage_62 : decode mX11_isHolderImage.1 62 = .ok (.iconst 4, 1) ∧ 62 + 1 = 63 := ⟨by decide +kernel, rfl⟩
theorem d_X11_isHolderImage_63 : decode mX11_isHolderImage.1 63 = .ok (.iadd, 1) ∧ 63 + 1 = 64 := ⟨by decide +kernel, rfl⟩
theorem d_X11_isHolderImage_64 : decode mX11_isHolderImage.1 64 = .ok (.iload_n 3, 1) ∧ 64 + 1 = 65 := ⟨by decide +kernel, rfl⟩
theorem d_X11_isHolderImage_65 : decode mX11_isHolderImage.1 65 = .ok (.iadd, 1) ∧ 65 + 1 = 66 := ⟨by decide +kernel, rfl⟩
theorem d_X11_isHolderImage_66 : decode mX11_isHolderImage.1 66 = .ok (.invokevirtual 303, 3) ∧ 66 + 3 = 69 := ⟨by decide +kernel, rfl⟩
theorem d_X11_isHolderImage_69 : decode mX11_isHolderImage.1 69 = .ok (.iload_n 3, 1) ∧ 69 + 1 = 70 := ⟨by decide +kernel, rfl⟩
theorem d_X11_isHolderImage_70 : decode mX11_isHolderImage.1 70 = .ok (.iload_n 1, 1) ∧ 70 + 1 = 71 := ⟨by decide +kernel, rfl⟩
theorem d_X11_isHolderImage_71 : decode mX11_isHolderImage.1 71 = .ok (.if_icmp .ne 7, 3) ∧ 71 + 3 = 74 ∧ ((71 : Nat) : Int) + 7 = ((78 : Nat) : Int) := ⟨by decide +kernel, rfl, rfl⟩
theorem d_X11_isHolderImage_74 : decode mX11_isHolderImage.1 74 = .ok (.iconst 0, 1) ∧ 74 + 1 = 75 := ⟨by decide +kernel, rfl⟩
theorem d_X11_isHolderImage_75 : decode mX11_isHolderImage.1 75 = .ok (.goto 5, 3) ∧ ((75 : Nat) : Int) + 5 = ((80 : Nat) : Int) := ⟨by decide +kernel, rfl⟩
theorem d_X11_isHolderImage_80 : decode mX11_isHolderImage.1 80 = .ok (.if_icmp .le 5, 3) ∧ 80 + 3 = 83 ∧ ((80 : Nat) : Int) + 5 = ((85 : Nat) : Int) := ⟨by decide +kernel, rfl, rfl⟩
theorem d_X11_isHolderImage_83 : decode mX11_isHolderImage.1 83 = .ok (.iconst 0, 1) ∧ 83 + 1 = 84 := ⟨by decide +kernel, rfl⟩
theorem d_X11_isHolderImage_84 : decode mX11_isHolderImage.1 84 = .ok (.ireturn, 1) := by decide +kernel
theorem d_X11_isHolderImage_85 : decode mX11_isHolderImage.1 85 = .ok (.iinc 3 1, 3) ∧ 85 + 3 = 88 := ⟨by decide +kernel, rfl⟩
theorem d_X11_isHolderImage_88 : decode mX11_isHolderImage.1 88 = .ok (.goto (-39), 3) ∧ ((88 : Nat) : Int) + (-39) = ((49 : Nat) : Int) := ⟨by decide +kernel, rfl⟩
set_option maxRecDepth 100000 in
set_option maxHeartbeats 4000000 in
theorem g_X11_isHolderImage_J80L49 (l : Launch) (G : xa_C) (c0 c1 c2 : Int) (h : xa_H) (K : (Int) ⊕ ((Int) ⊕ (Unit)) → Option xa_O) (hb : ∀ (v3 : Int), xa_G l G 4 mX11_isHolderImage (some (Sum.inl v3)) K 49 [some (xR c0), some (xI c1), some (xI c2), some (xI v3)] [] h) (hr : ∀ r : Int, K (Sum.inr (Sum.inl r)) = some (some (xI r), h)) (hx : xa_G l G 4 mX11_isHolderImage (some (Sum.inr (Sum.inr (())))) K 91 [none, none, none, none] [] h) : ∀ (v3 s0 s1 : Int) , xa_G l G 4 mX11_isHolderImage (f_X11_isHolderImage_J80L49 c0 c1 c2 v3 s0 s1 h) K 80 [some (xR c0), some (xI c1), some (xI c2), some (xI v3)] [xI s1, xI s0] h := by
  intro v3 s0 s1
  unfold f_X11_isHolderImage_J80L49
  refine xa_if (xa_icmple d_X11_isHolderImage_80) (fun q15 => ?_) (fun q15 => ?_)
  · refine xa_step (xa_iconst d_X11_isHolderImage_83 xq_i_0) ?_
    exact xa_zret d_X11_isHolderImage_84 rfl (Or.inl rfl) (hr _)
  · refine xa_step (xa_iinc (ls' := [some (xR c0), some (xI c1), some (xI c2), some (xI (w32 (v3 + 1)))]) d_X11_isHolderImage_85 xq_i_1 rfl (by decide) rfl) ?_
    refine xa_step (xa_goto d_X11_isHolderImage_88) ?_
    exact xa_weak (ls' := [some (xR c0), some (xI c1), some (xI c2), some (xI (w32 (v3 + 1)))]) ⟨rfl, rfl, rfl, rfl, trivial⟩ (hb (w32 (v3 + 1)))
theorem d_X11_isHolderImage_78 : decode mX11_isHolderImage.1 78 = .ok (.bipush 99, 2) ∧ 78 + 2 = 80 := ⟨by decide +kernel, rfl⟩
set_option maxRecDepth 100000 in
set_option maxHeartbeats 4000000 in
theorem g_X11_isHolderImage_L49 (l : Launch) (G : xa_C) (c0 c1 c2 : Int) (h : xa_H) (K : (Int) ⊕ ((Int) ⊕ (Unit)) → Option xa_O) (hb : ∀ (v3 : Int), xa_G l G 4 mX11_isHolderImage (some (Sum.inl v3)) K 49 [some (xR c0), some (xI c1), some (xI c2), some (xI v3)] [] h) (hr : ∀ r : Int, K (Sum.inr (Sum.inl r)) = some (some (xI r), h)) (hx : xa_G l G 4 mX11_isHolderImage (some (Sum.inr (Sum.inr (())))) K 91 [none, none, none, none] [] h) : ∀ (v3 : Int), xa_G l G 4 mX11_isHolderImage (f_X11_isHolderImage_L49 c0 c1 c2 h v3) K 49 [some (xR c0), some (xI c1), some (xI c2), some (xI v3)] [] h := by
  intro v3
  unfold f_X11_isHolderImage_L49
  refine xa_step (xa_iload_n d_X11_isHolderImage_49 rfl) ?_
  refine xa_step (xa_aload_n d_X11_isHolderImage_50 rfl) ?_
  refine xa_getf xR xc_11 (by decide) (fun _ => rfl) xw_589 rfl d_X11_isHolderImage_51 (fun x10 _ => ?_)
  refine xa_getf xI xc_0 (by decide) (fun _ => rfl) xw_391 rfl d_X11_isHolderImage_54 (fun x11 _ => ?_)
  refine xa_if (xa_icmpge d_X11_isHolderImage_57) (fun q12 => ?_) (fun q12 => ?_)
  · refine xa_step (xa_aload_n d_X11_isHolderImage_60 rfl) ?_
    refine xa_step (xa_iload_n d_X11_isHolderImage_61 rfl) ?_
    refine xa_step (xa_iconst d_X11_isHolderImage_62 xq_i_4) ?_
    refine xa_step (xa_iadd d_X11_isHolderImage_63) ?_
    refine xa_step (xa_iload_n d_X11_isHolderImage_64 rfl) ?_
    refine xa_step (xa_iadd d_X11_isHolderImage_65) ?_
    refine xa_callVi (as := [xI (w32 ((w32 (c2 + 4)) + v3))]) (st := []) (M' := mX11_tapeByte) (d' := 2) rfl xw_958 xw_960 xw_36 xw_961 xw_161 xh_X11_tapeByte rfl ⟨Nat.le_of_ble_eq_true rfl, Nat.le_of_ble_eq_true rfl⟩ (Nat.le_of_ble_eq_true rfl) rfl d_X11_isHolderImage_66 (fun r hr => ct_X11_tapeByte l G c0 (w32 ((w32 (c2 + 4)) + v3)) h r hr) (fun r13 _ => ?_)
    refine xa_step (xa_iload_n d_X11_isHolderImage_69 rfl) ?_
    refine xa_step (xa_iload_n d_X11_isHolderImage_70 rfl) ?_
    refine xa_if (xa_icmpne d_X11_isHolderImage_71) (fun q14 => ?_) (fun q14 => ?_)
    · refine xa_step (xa_iconst d_X11_isHolderImage_74 xq_i_0) ?_
      refine xa_step (xa_goto d_X11_isHolderImage_75) ?_
      exact xa_weak (ls' := [some (xR c0), some (xI c1), some (xI c2), some (xI v3)]) ⟨rfl, rfl, rfl, rfl, trivial⟩ (g_X11_isHolderImage_J80L49 l G c0 c1 c2 h K hb hr hx v3 r13 0)
    · refine xa_step (xa_bipush d_X11_isHolderImage_78 xq_b_99) ?_
      exact xa_weak (ls' := [some (xR c0), some (xI c1), some (xI c2), some (xI v3)]) ⟨rfl, rfl, rfl, rfl, trivial⟩ (g_X11_isHolderImage_J80L49 l G c0 c1 c2 h K hb hr hx v3 r13 99)
  · exact xa_weak (ls' := [none, none, none, none]) trivial (hx )
theorem d_X11_isHolderImage_91 : decode mX11_isHolderImage.1 91 = .ok (.iconst 1, 1) ∧ 91 + 1 = 92 := ⟨by decide +kernel, rfl⟩
theorem d_X11_isHolderImage_92 : decode mX11_isHolderImage.1 92 = .ok (.ireturn, 1) := by decide +kernel
set_option maxRecDepth 100000 in
set_option maxHeartbeats 4000000 in
theorem g_X11_isHolderImage (l : Launch) (G : xa_C) (v0 v1 : Int) (h : xa_H) : xa_G l G 4 mX11_isHolderImage (f_X11_isHolderImage v0 v1 h) (fun r => some (some (xI r), h) : Int → Option xa_O) 0 [some (xR v0), some (xI v1), none, none] [] h := by
  unfold f_X11_isHolderImage
  refine xa_step (xa_aload_n d_X11_isHolderImage_0 rfl) ?_
  refine xa_step (xa_iload_n d_X11_isHolderImage_1 rfl) ?_
  refine xa_callVi (as := [xI v1]) (st := []) (M' := mX11_imagePlace) (d' := 2) rfl xw_1281 xw_1283 xw_63 xw_1284 xw_161 xh_X11_imagePlace rfl ⟨Nat.le_of_ble_eq_true rfl, Nat.le_of_ble_eq_true rfl⟩ (Nat.le_of_ble_eq_true rfl) rfl d_X11_isHolderImage_2 (fun r hr => ct_X11_imagePlace l G v0 v1 h r hr) (fun r1 _ => ?_)
  refine xa_step (xa_istore_n (ls' := [some (xR v0), some (xI v1), some (xI r1), none]) d_X11_isHolderImage_5 (by decide) rfl) ?_
  refine xa_step (xa_aload_n d_X11_isHolderImage_6 rfl) ?_
  refine xa_step (xa_aload_n d_X11_isHolderImage_7 rfl) ?_
  refine xa_step (xa_iload_n d_X11_isHolderImage_8 rfl) ?_
  refine xa_callVi (as := [xI r1]) (st := [xR v0]) (M' := mX11_tapeByte) (d' := 2) rfl xw_958 xw_960 xw_36 xw_961 xw_161 xh_X11_tapeByte rfl ⟨Nat.le_of_ble_eq_true rfl, Nat.le_of_ble_eq_true rfl⟩ (Nat.le_of_ble_eq_true rfl) rfl d_X11_isHolderImage_9 (fun r hr => ct_X11_tapeByte l G v0 r1 h r hr) (fun r2 _ => ?_)
  refine xa_callVi (as := [xI r2]) (st := []) (M' := mX11_isHeld) (d' := 2) rfl xw_914 xw_916 xw_32 xw_917 xw_161 xh_X11_isHeld rfl ⟨Nat.le_of_ble_eq_true rfl, Nat.le_of_ble_eq_true rfl⟩ (Nat.le_of_ble_eq_true rfl) rfl d_X11_isHolderImage_12 (fun r hr => ct_X11_isHeld l G v0 r2 h r hr) (fun r3 _ => ?_)
  refine xa_if (xa_ifeq d_X11_isHolderImage_15) (fun q4 => ?_) (fun q4 => ?_)
  · refine xa_step (xa_iconst d_X11_isHolderImage_45 xq_i_0) ?_
    exact xa_zret d_X11_isHolderImage_46 rfl (Or.inl rfl) rfl
  · refine xa_step (xa_aload_n d_X11_isHolderImage_18 rfl) ?_
    refine xa_step (xa_aload_n d_X11_isHolderImage_19 rfl) ?_
    refine xa_step (xa_iload_n d_X11_isHolderImage_20 rfl) ?_
    refine xa_step (xa_iconst d_X11_isHolderImage_21 xq_i_1) ?_
    refine xa_step (xa_iadd d_X11_isHolderImage_22) ?_
    refine xa_callVi (as := [xI (w32 (r1 + 1))]) (st := [xR v0]) (M' := mX11_tapeByte) (d' := 2) rfl xw_958 xw_960 xw_36 xw_961 xw_161 xh_X11_tapeByte rfl ⟨Nat.le_of_ble_eq_true rfl, Nat.le_of_ble_eq_true rfl⟩ (Nat.le_of_ble_eq_true rfl) rfl d_X11_isHolderImage_23 (fun r hr => ct_X11_tapeByte l G v0 (w32 (r1 + 1)) h r hr) (fun r5 _ => ?_)
    refine xa_callVi (as := [xI r5]) (st := []) (M' := mX11_isHeld) (d' := 2) rfl xw_914 xw_916 xw_32 xw_917 xw_161 xh_X11_isHeld rfl ⟨Nat.le_of_ble_eq_true rfl, Nat.le_of_ble_eq_true rfl⟩ (Nat.le_of_ble_eq_true rfl) rfl d_X11_isHolderImage_26 (fun r hr => ct_X11_isHeld l G v0 r5 h r hr) (fun r6 _ => ?_)
    refine xa_if (xa_ifeq d_X11_isHolderImage_29) (fun q7 => ?_) (fun q7 => ?_)
    · refine xa_step (xa_iconst d_X11_isHolderImage_45 xq_i_0) ?_
      exact xa_zret d_X11_isHolderImage_46 rfl (Or.inl rfl) rfl
    · refine xa_step (xa_aload_n d_X11_isHolderImage_32 rfl) ?_
      refine xa_step (xa_iload_n d_X11_isHolderImage_33 rfl) ?_
      refine xa_step (xa_iconst d_X11_isHolderImage_34 xq_i_2) ?_
      refine xa_step (xa_iadd d_X11_isHolderImage_35) ?_
      refine xa_callVi (as := [xI (w32 (r1 + 2))]) (st := []) (M' := mX11_tapePair) (d' := 3) rfl xw_1285 xw_1287 xw_64 xw_1288 xw_161 xh_X11_tapePair rfl ⟨Nat.le_of_ble_eq_true rfl, Nat.le_of_ble_eq_true rfl⟩ (Nat.le_of_ble_eq_true rfl) rfl d_X11_isHolderImage_36 (fun r hr => ct_X11_tapePair l G v0 (w32 (r1 + 2)) h r hr) (fun r8 _ => ?_)
      refine xa_step (xa_sipush d_X11_isHolderImage_39 xq_s_9999) ?_
      refine xa_if (xa_icmple d_X11_isHolderImage_42) (fun q9 => ?_) (fun q9 => ?_)
      · refine xa_step (xa_iconst d_X11_isHolderImage_45 xq_i_0) ?_
        exact xa_zret d_X11_isHolderImage_46 rfl (Or.inl rfl) rfl
      · refine xa_step (xa_iconst d_X11_isHolderImage_47 xq_i_0) ?_
        refine xa_step (xa_istore_n (ls' := [some (xR v0), some (xI v1), some (xI r1), some (xI 0)]) d_X11_isHolderImage_48 (by decide) rfl) ?_
        refine xa_weak (ls' := [some (xR v0), some (xI v1), some (xI r1), some (xI 0)]) ⟨rfl, rfl, rfl, rfl, trivial⟩ ?_
        refine xa_loop (f := fun s => f_X11_isHolderImage_L49 v0 v1 r1 h s) (L := fun s => [some (xR v0), some (xI v1), some (xI r1), some (xI s)]) (P := fun s => h) (X := (fun e K => match e with | Sum.inl r => K (Sum.inr (Sum.inl r)) = some (some (xI r), h) | Sum.inr x => xa_G l G 4 mX11_isHolderImage (some (Sum.inr (Sum.inr x))) K 91 [none, none, none, none] [] h)) (fun K hb hX s => g_X11_isHolderImage_L49 l G v0 v1 r1 h K (fun w0 => hb w0) (fun r => hX (Sum.inl r)) (hX (Sum.inr ())) s) ?_ xFU 0
        rintro (r | y17) K hK
        · exact hK.trans rfl
        · refine xa_eqE hK ?_
          show xa_G l G 4 mX11_isHolderImage _ _ 91 [none, none, none, none] [] h
          refine xa_step (xa_iconst d_X11_isHolderImage_91 xq_i_1) ?_
          exact xa_zret d_X11_isHolderImage_92 rfl (Or.inr rfl) rfl
theorem ct_X11_isHolderImage (l : Launch) (G : xa_C) (v0 v1 : Int) (h : xa_H) (r : Int) (hr : f_X11_isHolderImage v0 v1 h = some r) : xa_CT l G 4 mX11_isHolderImage yX11_isHolderImage [xR v0, xI v1] h (some (xI r), h) :=
  xa_met (by decide +kernel) rfl (fun q => by first | rfl | cases q) (Nat.le_of_ble_eq_true rfl) rfl (g_X11_isHolderImage l G v0 v1 h) (by rw [hr]; rfl)
abbrev mX11_isImage : xa_M := (cX11_isImage, 6, (some (.boolean)), RX11, false)
theorem d_X11_isImage_0 : decode mX11_isImage.1 0 = .ok (.iload_n 1, 1) ∧ 0 + 1 = 1 := ⟨by decide +kernel, rfl⟩
theorem d_X11_isImage_1 : decode mX11_isImage.1 1 = .ok (.aload_n 0, 1) ∧ 1 + 1 = 2 := ⟨by decide +kernel, rfl⟩
theorem d_X11_isImage_2 : decode mX11_isImage.1 2 = .ok (.aload_n 0, 1) ∧ 2 + 1 = 3 := ⟨by decide +kernel, rfl⟩
theorem d_X11_isImage_3 : decode mX11_isImage.1 3 = .ok (.getfield 47, 3) ∧ 3 + 3 = 6 := ⟨by decide +kernel, rfl⟩
theorem d_X11_isImage_6 : decode mX11_isImage.1 6 = .ok (.getfield 146, 3) ∧ 6 + 3 = 9 := ⟨by decide +kernel, rfl⟩
theorem d_X11_isImage_9 : decode mX11_isImage.1 9 = .ok (.invokevirtual 375, 3) ∧ 9 + 3 = 12 := ⟨by decide +kernel, rfl⟩
theorem d_X11_isImage_12 : decode mX11_isImage.1 12 = .ok (.iconst 1, 1) ∧ 12 + 1 = 13 := ⟨by decide +kernel, rfl⟩
theorem d_X11_isImage_13 : decode mX11_isImage.1 13 = .ok (.iadd, 1) ∧ 13 + 1 = 14 := ⟨by decide +kernel, rfl⟩
theorem d_X11_isImage_14 : decode mX11_isImage.1 14 = .ok (.if_icmp .ne 14, 3) ∧ 14 + 3 = 17 ∧ ((14 : Nat) : Int) + 14 = ((28 : Nat) : Int) := ⟨by decide +kernel, rfl, rfl⟩
theorem d_X11_isImage_17 : decode mX11_isImage.1 17 = .ok (.aload_n 0, 1) ∧ 17 + 1 = 18 := ⟨by decide +kernel, rfl⟩
theorem d_X11_isImage_18 : decode mX11_isImage.1 18 = .ok (.iconst 0, 1) ∧ 18 + 1 = 19 := ⟨by decide +kernel, rfl⟩
theorem d_X11_isImage_19 : decode mX11_isImage.1 19 = .ok (.invokevirtual 372, 3) ∧ 19 + 3 = 22 := ⟨by decide +kernel, rfl⟩
theorem d_X11_isImage_22 : decode mX11_isImage.1 22 = .ok (.sipush 9999, 3) ∧ 22 + 3 = 25 := ⟨by decide +kernel, rfl⟩
theorem d_X11_isImage_25 : decode mX11_isImage.1 25 = .ok (.if_icmp .le 5, 3) ∧ 25 + 3 = 28 ∧ ((25 : Nat) : Int) + 5 = ((30 : Nat) : Int) := ⟨by decide +kernel, rfl, rfl⟩
theorem d_X11_isImage_28 : decode mX11_isImage.1 28 = .ok (.iconst 0, 1) ∧ 28 + 1 = 29 := ⟨by decide +kernel, rfl⟩
theorem d_X11_isImage_29 : decode mX11_isImage.1 29 = .ok (.ireturn, 1) := by decide +kernel
theorem d_X11_isImage_30 : decode mX11_isImage.1 30 = .ok (.bipush 17, 2) ∧ 30 + 2 = 32 := ⟨by decide +kernel, rfl⟩
theorem d_X11_isImage_32 : decode mX11_isImage.1 32 = .ok (.istore_n 2, 1) ∧ 32 + 1 = 33 := ⟨by decide +kernel, rfl⟩
theorem d_X11_isImage_33 : decode mX11_isImage.1 33 = .ok (.iconst 0, 1) ∧ 33 + 1 = 34 := ⟨by decide +kernel, rfl⟩
theorem d_X11_isImage_34 : decode mX11_isImage.1 34 = .ok (.istore_n 3, 1) ∧ 34 + 1 = 35 := ⟨by decide +kernel, rfl⟩
theorem d_X11_isImage_35 : decode mX11_isImage.1 35 = .ok (.iload_n 3, 1) ∧ 35 + 1 = 36 := ⟨by decide +kernel, rfl⟩
theorem d_X11_isImage_36 : decode mX11_isImage.1 36 = .ok (.iload_n 1, 1) ∧ 36 + 1 = 37 := ⟨by decide +kernel, rfl⟩
theorem d_X11_isImage_37 : decode mX11_isImage.1 37 = .ok (.iconst 1, 1) ∧ 37 + 1 = 38 := ⟨by decide +kernel, rfl⟩
theorem d_X11_isImage_38 : decode mX11_isImage.1 38 = .ok (.isub, 1) ∧ 38 + 1 = 39 := ⟨by decide +kernel, rfl⟩
theorem d_X11_isImage_39 : decode mX11_isImage.1 39 = .ok (.if_icmp .ge 23, 3) ∧ 39 + 3 = 42 ∧ ((39 : Nat) : Int) + 23 = ((62 : Nat) : Int) := ⟨by decide +kernel, rfl, rfl⟩
theorem d_X11_isImage_42 : decode mX11_isImage.1 42 = .ok (.iconst 3, 1) ∧ 42 + 1 = 43 := ⟨by decide +kernel, rfl⟩
theorem d_X11_isImage_43 : decode mX11_isImage.1 43 = .ok (.iload_n 2, 1) ∧ 43 + 1 = 44 := ⟨by decide +kernel, rfl⟩
theorem d_X11_isImage_44 : decode mX11_isImage.1 44 = .ok (.imul, 1) ∧ 44 + 1 = 45 := ⟨by decide +kernel, rfl⟩
theorem d_X11_isImage_45 : decode mX11_isImage.1 45 = .ok (.aload_n 0, 1) ∧ 45 + 1 = 46 := ⟨by decide +kernel, rfl⟩
theorem d_X11_isImage_46 : decode mX11_isImage.1 46 = .ok (.iload_n 3, 1) ∧ 46 + 1 = 47 := ⟨by decide +kernel, rfl⟩
theorem d_X11_isImage_47 : decode mX11_isImage.1 47 = .ok (.invokevirtual 303, 3) ∧ 47 + 3 = 50 := ⟨by decide +kernel, rfl⟩
theorem d_X11_isImage_50 : decode mX11_isImage.1 50 = .ok (.iadd, 1) ∧ 50 + 1 = 51 := ⟨by decide +kernel, rfl⟩
theorem d_X11_isImage_51 : decode mX11_isImage.1 51 = .ok (.sipush 251, 3) ∧ 51 + 3 = 54 := ⟨by decide +kernel, rfl⟩
theorem d_X11_isImage_54 : decode mX11_isImage.1 54 = .ok (.irem, 1) ∧ 54 + 1 = 55 := ⟨by decide +kernel, rfl⟩
theorem d_X11_isImage_55 : decode mX11_isImage.1 55 = .ok (.istore_n 2, 1) ∧ 55 + 1 = 56 := ⟨by decide +kernel, rfl⟩
theorem d_X11_isImage_56 : decode mX11_isImage.1 56 = .ok (.iinc 3 1, 3) ∧ 56 + 3 = 59 := ⟨by decide +kernel, rfl⟩
theorem d_X11_isImage_59 : decode mX11_isImage.1 59 = .ok (.goto (-24), 3) ∧ ((59 : Nat) : Int) + (-24) = ((35 : Nat) : Int) := ⟨by decide +kernel, rfl⟩
set_option maxRecDepth 100000 in
set_option maxHeartbeats 4000000 in
theorem g_X11_isImage_L35 (l : Launch) (G : xa_C) (c0 c1 : Int) (h : xa_H) (K : (Int × Int) ⊕ (Int) → Option xa_O) (hb : ∀ (v2 : Int) (v3 : Int), xa_G l G 5 mX11_isImage (some (Sum.inl ((v2, v3)))) K 35 [some (xR c0), some (xI c1), some (xI v2), some (xI v3), none, none] [] h) (hx : ∀ (v2 : Int), xa_G l G 5 mX11_isImage (some (Sum.inr v2)) K 62 [some (xR c0), some (xI c1), some (xI v2), none, none, none] [] h) : ∀ (v2 : Int) (v3 : Int), xa_G l G 5 mX11_isImage (f_X11_isImage_L35 c0 c1 h v2 v3) K 35 [some (xR c0), some (xI c1), some (xI v2), some (xI v3), none, none] [] h := by
  intro v2 v3
  unfold f_X11_isImage_L35
  refine xa_step (xa_iload_n d_X11_isImage_35 rfl) ?_
  refine xa_step (xa_iload_n d_X11_isImage_36 rfl) ?_
  refine xa_step (xa_iconst d_X11_isImage_37 xq_i_1) ?_
  refine xa_step (xa_isub d_X11_isImage_38) ?_
  refine xa_if (xa_icmpge d_X11_isImage_39) (fun q7 => ?_) (fun q7 => ?_)
  · refine xa_step (xa_iconst d_X11_isImage_42 xq_i_3) ?_
    refine xa_step (xa_iload_n d_X11_isImage_43 rfl) ?_
    refine xa_step (xa_imul d_X11_isImage_44) ?_
    refine xa_step (xa_aload_n d_X11_isImage_45 rfl) ?_
    refine xa_step (xa_iload_n d_X11_isImage_46 rfl) ?_
    refine xa_callVi (as := [xI v3]) (st := [xI (w32 (3 * v2))]) (M' := mX11_tapeByte) (d' := 2) rfl xw_958 xw_960 xw_36 xw_961 xw_161 xh_X11_tapeByte rfl ⟨Nat.le_of_ble_eq_true rfl, Nat.le_of_ble_eq_true rfl⟩ (Nat.le_of_ble_eq_true rfl) rfl d_X11_isImage_47 (fun r hr => ct_X11_tapeByte l G c0 v3 h r hr) (fun r8 _ => ?_)
    refine xa_step (xa_iadd d_X11_isImage_50) ?_
    refine xa_step (xa_sipush d_X11_isImage_51 xq_s_251) ?_
    refine xa_step (xa_irem d_X11_isImage_54 (by decide)) ?_
    refine xa_step (xa_istore_n (ls' := [some (xR c0), some (xI c1), some (xI (Int.tmod (w32 ((w32 (3 * v2)) + r8)) 251)), some (xI v3), none, none]) d_X11_isImage_55 (by decide) rfl) ?_
    refine xa_step (xa_iinc (ls' := [some (xR c0), some (xI c1), some (xI (Int.tmod (w32 ((w32 (3 * v2)) + r8)) 251)), some (xI (w32 (v3 + 1))), none, none]) d_X11_isImage_56 xq_i_1 rfl (by decide) rfl) ?_
    refine xa_step (xa_goto d_X11_isImage_59) ?_
    exact xa_weak (ls' := [some (xR c0), some (xI c1), some (xI (Int.tmod (w32 ((w32 (3 * v2)) + r8)) 251)), some (xI (w32 (v3 + 1))), none, none]) ⟨rfl, rfl, rfl, rfl, trivial⟩ (hb (Int.tmod (w32 ((w32 (3 * v2)) + r8)) 251) (w32 (v3 + 1)))
  · exact xa_weak (ls' := [some (xR c0), some (xI c1), some (xI v2), none, none, none]) ⟨rfl, rfl, rfl, trivial⟩ (hx v2)
theorem d_X11_isImage_62 : decode mX11_isImage.1 62 = .ok (.aload_n 0, 1) ∧ 62 + 1 = 63 := ⟨by decide +kernel, rfl⟩
theorem d_X11_isImage_63 : decode mX11_isImage.1 63 = .ok (.iload_n 1, 1) ∧ 63 + 1 = 64 := ⟨by decide +kernel, rfl⟩
theorem d_X11_isImage_64 : decode mX11_isImage.1 64 = .ok (.iconst 1, 1) ∧ 64 + 1 = 65 := ⟨by decide +kernel, rfl⟩
theorem d_X11_isImage_65 : decode mX11_isImage.1 65 = .ok (.isub, 1) ∧ 65 + 1 = 66 := ⟨by decide +kernel, rfl⟩
theorem d_X11_isImage_66 : decode mX11_isImage.1 66 = .ok (.invokevirtual 303, 3) ∧ 66 + 3 = 69 := ⟨by decide +kernel, rfl⟩
theorem d_X11_isImage_69 : decode mX11_isImage.1 69 = .ok (.iload_n 2, 1) ∧ 69 + 1 = 70 := ⟨by decide +kernel, rfl⟩
theorem d_X11_isImage_70 : decode mX11_isImage.1 70 = .ok (.if_icmp .eq 5, 3) ∧ 70 + 3 = 73 ∧ ((70 : Nat) : Int) + 5 = ((75 : Nat) : Int) := ⟨by decide +kernel, rfl, rfl⟩
theorem d_X11_isImage_75 : decode mX11_isImage.1 75 = .ok (.iconst 0, 1) ∧ 75 + 1 = 76 := ⟨by decide +kernel, rfl⟩
theorem d_X11_isImage_76 : decode mX11_isImage.1 76 = .ok (.istore_n 3, 1) ∧ 76 + 1 = 77 := ⟨by decide +kernel, rfl⟩
theorem d_X11_isImage_77 : decode mX11_isImage.1 77 = .ok (.iconst 0, 1) ∧ 77 + 1 = 78 := ⟨by decide +kernel, rfl⟩
theorem d_X11_isImage_78 : decode mX11_isImage.1 78 = .ok (.istore 4, 2) ∧ 78 + 2 = 80 := ⟨by decide +kernel, rfl⟩
theorem d_X11_isImage_80 : decode mX11_isImage.1 80 = .ok (.iload 4, 2) ∧ 80 + 2 = 82 := ⟨by decide +kernel, rfl⟩
theorem d_X11_isImage_82 : decode mX11_isImage.1 82 = .ok (.aload_n 0, 1) ∧ 82 + 1 = 83 := ⟨by decide +kernel, rfl⟩
theorem d_X11_isImage_83 : decode mX11_isImage.1 83 = .ok (.getfield 47, 3) ∧ 83 + 3 = 86 := ⟨by decide +kernel, rfl⟩
theorem d_X11_isImage_86 : decode mX11_isImage.1 86 = .ok (.getfield 146, 3) ∧ 86 + 3 = 89 := ⟨by decide +kernel, rfl⟩
theorem d_X11_isImage_89 : decode mX11_isImage.1 89 = .ok (.if_icmp .ge 49, 3) ∧ 89 + 3 = 92 ∧ ((89 : Nat) : Int) + 49 = ((138 : Nat) : Int) := ⟨by decide +kernel, rfl, rfl⟩
theorem d_X11_isImage_92 : decode mX11_isImage.1 92 = .ok (.aload_n 0, 1) ∧ 92 + 1 = 93 := ⟨by decide +kernel, rfl⟩
theorem d_X11_isImage_93 : decode mX11_isImage.1 93 = .ok (.aload_n 0, 1) ∧ 93 + 1 = 94 := ⟨by decide +kernel, rfl⟩
theorem d_X11_isImage_94 : decode mX11_isImage.1 94 = .ok (.iload 4, 2) ∧ 94 + 2 = 96 := ⟨by decide +kernel, rfl⟩
theorem d_X11_isImage_96 : decode mX11_isImage.1 96 = .ok (.invokevirtual 375, 3) ∧ 96 + 3 = 99 := ⟨by decide +kernel, rfl⟩
theorem d_X11_isImage_99 : decode mX11_isImage.1 99 = .ok (.invokevirtual 303, 3) ∧ 99 + 3 = 102 := ⟨by decide +kernel, rfl⟩
theorem d_X11_isImage_102 : decode mX11_isImage.1 102 = .ok (.istore 5, 2) ∧ 102 + 2 = 104 := ⟨by decide +kernel, rfl⟩
theorem d_X11_isImage_104 : decode mX11_isImage.1 104 = .ok (.aload_n 0, 1) ∧ 104 + 1 = 105 := ⟨by decide +kernel, rfl⟩
theorem d_X11_isImage_105 : decode mX11_isImage.1 105 = .ok (.iload 4, 2) ∧ 105 + 2 = 107 := ⟨by decide +kernel, rfl⟩
theorem d_X11_isImage_107 : decode mX11_isImage.1 107 = .ok (.invokevirtual 416, 3) ∧ 107 + 3 = 110 := ⟨by decide +kernel, rfl⟩
theorem d_X11_isImage_110 : decode mX11_isImage.1 110 = .ok (.ifCond .eq 13, 3) ∧ 110 + 3 = 113 ∧ ((110 : Nat) : Int) + 13 = ((123 : Nat) : Int) := ⟨by decide +kernel, rfl, rfl⟩
theorem d_X11_isImage_123 : decode mX11_isImage.1 123 = .ok (.iconst 0, 1) ∧ 123 + 1 = 124 := ⟨by decide +kernel, rfl⟩
theorem d_X11_isImage_124 : decode mX11_isImage.1 124 = .ok (.ireturn, 1) := by decide +kernel
theorem d_X11_isImage_113 : decode mX11_isImage.1 113 = .ok (.iload_n 3, 1) ∧ 113 + 1 = 114 := ⟨by decide +kernel, rfl⟩
theorem d_X11_isImage_114 : decode mX11_isImage.1 114 = .ok (.iload 5, 2) ∧ 114 + 2 = 116 := ⟨by decide +kernel, rfl⟩
theorem d_X11_isImage_116 : decode mX11_isImage.1 116 = .ok (.ishr, 1) ∧ 116 + 1 = 117 := ⟨by decide +kernel, rfl⟩
theorem d_X11_isImage_117 : decode mX11_isImage.1 117 = .ok (.iconst 1, 1) ∧ 117 + 1 = 118 := ⟨by decide +kernel, rfl⟩
theorem d_X11_isImage_118 : decode mX11_isImage.1 118 = .ok (.iand, 1) ∧ 118 + 1 = 119 := ⟨by decide +kernel, rfl⟩
theorem d_X11_isImage_119 : decode mX11_isImage.1 119 = .ok (.iconst 1, 1) ∧ 119 + 1 = 120 := ⟨by decide +kernel, rfl⟩
theorem d_X11_isImage_120 : decode mX11_isImage.1 120 = .ok (.if_icmp .ne 5, 3) ∧ 120 + 3 = 123 ∧ ((120 : Nat) : Int) + 5 = ((125 : Nat) : Int) := ⟨by decide +kernel, rfl, rfl⟩
theorem d_X11_isImage_125 : decode mX11_isImage.1 125 = .ok (.iload_n 3, 1) ∧ 125 + 1 = 126 := ⟨by decide +kernel, rfl⟩
theorem d_X11_isImage_126 : decode mX11_isImage.1 126 = .ok (.iconst 1, 1) ∧ 126 + 1 = 127 := ⟨by decide +kernel, rfl⟩
theorem d_X11_isImage_127 : decode mX11_isImage.1 127 = .ok (.iload 5, 2) ∧ 127 + 2 = 129 := ⟨by decide +kernel, rfl⟩
theorem d_X11_isImage_129 : decode mX11_isImage.1 129 = .ok (.ishl, 1) ∧ 129 + 1 = 130 := ⟨by decide +kernel, rfl⟩
theorem d_X11_isImage_130 : decode mX11_isImage.1 130 = .ok (.ior, 1) ∧ 130 + 1 = 131 := ⟨by decide +kernel, rfl⟩
theorem d_X11_isImage_131 : decode mX11_isImage.1 131 = .ok (.istore_n 3, 1) ∧ 131 + 1 = 132 := ⟨by decide +kernel, rfl⟩
theorem d_X11_isImage_132 : decode mX11_isImage.1 132 = .ok (.iinc 4 1, 3) ∧ 132 + 3 = 135 := ⟨by decide +kernel, rfl⟩
theorem d_X11_isImage_135 : decode mX11_isImage.1 135 = .ok (.goto (-55), 3) ∧ ((135 : Nat) : Int) + (-55) = ((80 : Nat) : Int) := ⟨by decide +kernel, rfl⟩
set_option maxRecDepth 100000 in
set_option maxHeartbeats 4000000 in
theorem g_X11_isImage_L80 (l : Launch) (G : xa_C) (c0 : Int) (h : xa_H) (K : (Int × Int) ⊕ ((Int) ⊕ (Unit)) → Option xa_O) (hb : ∀ (v3 : Int) (v4 : Int), xa_G l G 5 mX11_isImage (some (Sum.inl ((v3, v4)))) K 80 [some (xR c0), none, none, some (xI v3), some (xI v4), none] [] h) (hr : ∀ r : Int, K (Sum.inr (Sum.inl r)) = some (some (xI r), h)) (hx : xa_G l G 5 mX11_isImage (some (Sum.inr (Sum.inr (())))) K 138 [none, none, none, none, none, none] [] h) : ∀ (v3 : Int) (v4 : Int), xa_G l G 5 mX11_isImage (f_X11_isImage_L80 c0 h v3 v4) K 80 [some (xR c0), none, none, some (xI v3), some (xI v4), none] [] h := by
  intro v3 v4
  unfold f_X11_isImage_L80
  refine xa_step (xa_iload d_X11_isImage_80 rfl) ?_
  refine xa_step (xa_aload_n d_X11_isImage_82 rfl) ?_
  refine xa_getf xR xc_11 (by decide) (fun _ => rfl) xw_589 rfl d_X11_isImage_83 (fun x12 _ => ?_)
  refine xa_getf xI xc_0 (by decide) (fun _ => rfl) xw_391 rfl d_X11_isImage_86 (fun x13 _ => ?_)
  refine xa_if (xa_icmpge d_X11_isImage_89) (fun q14 => ?_) (fun q14 => ?_)
  · refine xa_step (xa_aload_n d_X11_isImage_92 rfl) ?_
    refine xa_step (xa_aload_n d_X11_isImage_93 rfl) ?_
    refine xa_step (xa_iload d_X11_isImage_94 rfl) ?_
    refine xa_callVi (as := [xI v4]) (st := [xR c0]) (M' := mX11_imagePlace) (d' := 2) rfl xw_1281 xw_1283 xw_63 xw_1284 xw_161 xh_X11_imagePlace rfl ⟨Nat.le_of_ble_eq_true rfl, Nat.le_of_ble_eq_true rfl⟩ (Nat.le_of_ble_eq_true rfl) rfl d_X11_isImage_96 (fun r hr => ct_X11_imagePlace l G c0 v4 h r hr) (fun r15 _ => ?_)
    refine xa_callVi (as := [xI r15]) (st := []) (M' := mX11_tapeByte) (d' := 2) rfl xw_958 xw_960 xw_36 xw_961 xw_161 xh_X11_tapeByte rfl ⟨Nat.le_of_ble_eq_true rfl, Nat.le_of_ble_eq_true rfl⟩ (Nat.le_of_ble_eq_true rfl) rfl d_X11_isImage_99 (fun r hr => ct_X11_tapeByte l G c0 r15 h r hr) (fun r16 _ => ?_)
    refine xa_step (xa_istore (ls' := [some (xR c0), none, none, some (xI v3), some (xI v4), some (xI r16)]) d_X11_isImage_102 (by decide) rfl) ?_
    refine xa_step (xa_aload_n d_X11_isImage_104 rfl) ?_
    refine xa_step (xa_iload d_X11_isImage_105 rfl) ?_
    refine xa_callVi (as := [xI v4]) (st := []) (M' := mX11_isHolderImage) (d' := 4) rfl xw_1289 xw_1291 xw_65 xw_1292 xw_161 xh_X11_isHolderImage rfl ⟨Nat.le_of_ble_eq_true rfl, Nat.le_of_ble_eq_true rfl⟩ (Nat.le_of_ble_eq_true rfl) rfl d_X11_isImage_107 (fun r hr => ct_X11_isHolderImage l G c0 v4 h r hr) (fun r17 _ => ?_)
    refine xa_if (xa_ifeq d_X11_isImage_110) (fun q18 => ?_) (fun q18 => ?_)
    · refine xa_step (xa_iconst d_X11_isImage_123 xq_i_0) ?_
      exact xa_zret d_X11_isImage_124 rfl (Or.inl rfl) (hr _)
    · refine xa_step (xa_iload_n d_X11_isImage_113 rfl) ?_
      refine xa_step (xa_iload d_X11_isImage_114 rfl) ?_
      refine xa_step (xa_ishr d_X11_isImage_116) ?_
      refine xa_step (xa_iconst d_X11_isImage_117 xq_i_1) ?_
      refine xa_step (xa_iand d_X11_isImage_118) ?_
      refine xa_step (xa_iconst d_X11_isImage_119 xq_i_1) ?_
      refine xa_if (xa_icmpne d_X11_isImage_120) (fun q19 => ?_) (fun q19 => ?_)
      · refine xa_step (xa_iconst d_X11_isImage_123 xq_i_0) ?_
        exact xa_zret d_X11_isImage_124 rfl (Or.inl rfl) (hr _)
      · refine xa_step (xa_iload_n d_X11_isImage_125 rfl) ?_
        refine xa_step (xa_iconst d_X11_isImage_126 xq_i_1) ?_
        refine xa_step (xa_iload d_X11_isImage_127 rfl) ?_
        refine xa_step (xa_ishl d_X11_isImage_129) ?_
        refine xa_step (xa_ior d_X11_isImage_130) ?_
        refine xa_step (xa_istore_n (ls' := [some (xR c0), none, none, some (xI (xior v3 (xshl 1 r16))), some (xI v4), some (xI r16)]) d_X11_isImage_131 (by decide) rfl) ?_
        refine xa_step (xa_iinc (ls' := [some (xR c0), none, none, some (xI (xior v3 (xshl 1 r16))), some (xI (w32 (v4 + 1))), some (xI r16)]) d_X11_isImage_132 xq_i_1 rfl (by decide) rfl) ?_
        refine xa_step (xa_goto d_X11_isImage_135) ?_
        exact xa_weak (ls' := [some (xR c0), none, none, some (xI (xior v3 (xshl 1 r16))), some (xI (w32 (v4 + 1))), none]) ⟨rfl, rfl, rfl, trivial⟩ (hb (xior v3 (xshl 1 r16)) (w32 (v4 + 1)))
  · exact xa_weak (ls' := [none, none, none, none, none, none]) trivial (hx )
theorem d_X11_isImage_138 : decode mX11_isImage.1 138 = .ok (.iconst 1, 1) ∧ 138 + 1 = 139 := ⟨by decide +kernel, rfl⟩
theorem d_X11_isImage_139 : decode mX11_isImage.1 139 = .ok (.ireturn, 1) := by decide +kernel
theorem d_X11_isImage_73 : decode mX11_isImage.1 73 = .ok (.iconst 0, 1) ∧ 73 + 1 = 74 := ⟨by decide +kernel, rfl⟩
theorem d_X11_isImage_74 : decode mX11_isImage.1 74 = .ok (.ireturn, 1) := by decide +kernel
set_option maxRecDepth 100000 in
set_option maxHeartbeats 4000000 in
theorem g_X11_isImage (l : Launch) (G : xa_C) (v0 v1 : Int) (h : xa_H) : xa_G l G 5 mX11_isImage (f_X11_isImage v0 v1 h) (fun r => some (some (xI r), h) : Int → Option xa_O) 0 [some (xR v0), some (xI v1), none, none, none, none] [] h := by
  unfold f_X11_isImage
  refine xa_step (xa_iload_n d_X11_isImage_0 rfl) ?_
  refine xa_step (xa_aload_n d_X11_isImage_1 rfl) ?_
  refine xa_step (xa_aload_n d_X11_isImage_2 rfl) ?_
  refine xa_getf xR xc_11 (by decide) (fun _ => rfl) xw_589 rfl d_X11_isImage_3 (fun x1 _ => ?_)
  refine xa_getf xI xc_0 (by decide) (fun _ => rfl) xw_391 rfl d_X11_isImage_6 (fun x2 _ => ?_)
  refine xa_callVi (as := [xI x2]) (st := [xI v1]) (M' := mX11_imagePlace) (d' := 2) rfl xw_1281 xw_1283 xw_63 xw_1284 xw_161 xh_X11_imagePlace rfl ⟨Nat.le_of_ble_eq_true rfl, Nat.le_of_ble_eq_true rfl⟩ (Nat.le_of_ble_eq_true rfl) rfl d_X11_isImage_9 (fun r hr => ct_X11_imagePlace l G v0 x2 h r hr) (fun r3 _ => ?_)
  refine xa_step (xa_iconst d_X11_isImage_12 xq_i_1) ?_
  refine xa_step (xa_iadd d_X11_isImage_13) ?_
  refine xa_if (xa_icmpne d_X11_isImage_14) (fun q4 => ?_) (fun q4 => ?_)
  · refine xa_step (xa_aload_n d_X11_isImage_17 rfl) ?_
    refine xa_step (xa_iconst d_X11_isImage_18 xq_i_0) ?_
    refine xa_callVi (as := [xI 0]) (st := []) (M' := mX11_tapePair) (d' := 3) rfl xw_1285 xw_1287 xw_64 xw_1288 xw_161 xh_X11_tapePair rfl ⟨Nat.le_of_ble_eq_true rfl, Nat.le_of_ble_eq_true rfl⟩ (Nat.le_of_ble_eq_true rfl) rfl d_X11_isImage_19 (fun r hr => ct_X11_tapePair l G v0 0 h r hr) (fun r5 _ => ?_)
    refine xa_step (xa_sipush d_X11_isImage_22 xq_s_9999) ?_
    refine xa_if (xa_icmple d_X11_isImage_25) (fun q6 => ?_) (fun q6 => ?_)
    · refine xa_step (xa_iconst d_X11_isImage_28 xq_i_0) ?_
      exact xa_zret d_X11_isImage_29 rfl (Or.inl rfl) rfl
    · refine xa_step (xa_bipush d_X11_isImage_30 xq_b_17) ?_
      refine xa_step (xa_istore_n (ls' := [some (xR v0), some (xI v1), some (xI 17), none, none, none]) d_X11_isImage_32 (by decide) rfl) ?_
      refine xa_step (xa_iconst d_X11_isImage_33 xq_i_0) ?_
      refine xa_step (xa_istore_n (ls' := [some (xR v0), some (xI v1), some (xI 17), some (xI 0), none, none]) d_X11_isImage_34 (by decide) rfl) ?_
      refine xa_weak (ls' := [some (xR v0), some (xI v1), some (xI 17), some (xI 0), none, none]) ⟨rfl, rfl, rfl, rfl, trivial⟩ ?_
      refine xa_loop (f := fun s => f_X11_isImage_L35 v0 v1 h s.1 s.2) (L := fun s => [some (xR v0), some (xI v1), some (xI s.1), some (xI s.2), none, none]) (P := fun s => h) (X := (fun x K => xa_G l G 5 mX11_isImage (some (Sum.inr x)) K 62 [some (xR v0), some (xI v1), some (xI x), none, none, none] [] h)) (fun K hb hX s => g_X11_isImage_L35 l G v0 v1 h K (fun w0 w1 => hb ((w0, w1))) (fun w0 => hX w0) s.1 s.2) ?_ xFU ((17, 0))
      intro e9 K hK
      refine xa_eqE hK ?_
      show xa_G l G 5 mX11_isImage _ _ 62 [some (xR v0), some (xI v1), some (xI e9), none, none, none] [] h
      refine xa_step (xa_aload_n d_X11_isImage_62 rfl) ?_
      refine xa_step (xa_iload_n d_X11_isImage_63 rfl) ?_
      refine xa_step (xa_iconst d_X11_isImage_64 xq_i_1) ?_
      refine xa_step (xa_isub d_X11_isImage_65) ?_
      refine xa_callVi (as := [xI (w32 (v1 - 1))]) (st := []) (M' := mX11_tapeByte) (d' := 2) rfl xw_958 xw_960 xw_36 xw_961 xw_161 xh_X11_tapeByte rfl ⟨Nat.le_of_ble_eq_true rfl, Nat.le_of_ble_eq_true rfl⟩ (Nat.le_of_ble_eq_true rfl) rfl d_X11_isImage_66 (fun r hr => ct_X11_tapeByte l G v0 (w32 (v1 - 1)) h r hr) (fun r10 _ => ?_)
      refine xa_step (xa_iload_n d_X11_isImage_69 rfl) ?_
      refine xa_if (xa_icmpeq d_X11_isImage_70) (fun q11 => ?_) (fun q11 => ?_)
      · refine xa_step (xa_iconst d_X11_isImage_75 xq_i_0) ?_
        refine xa_step (xa_istore_n (ls' := [some (xR v0), some (xI v1), some (xI e9), some (xI 0), none, none]) d_X11_isImage_76 (by decide) rfl) ?_
        refine xa_step (xa_iconst d_X11_isImage_77 xq_i_0) ?_
        refine xa_step (xa_istore (ls' := [some (xR v0), some (xI v1), some (xI e9), some (xI 0), some (xI 0), none]) d_X11_isImage_78 (by decide) rfl) ?_
        refine xa_weak (ls' := [some (xR v0), none, none, some (xI 0), some (xI 0), none]) ⟨rfl, rfl, rfl, trivial⟩ ?_
        refine xa_loop (f := fun s => f_X11_isImage_L80 v0 h s.1 s.2) (L := fun s => [some (xR v0), none, none, some (xI s.1), some (xI s.2), none]) (P := fun s => h) (X := (fun e K => match e with | Sum.inl r => K (Sum.inr (Sum.inl r)) = some (some (xI r), h) | Sum.inr x => xa_G l G 5 mX11_isImage (some (Sum.inr (Sum.inr x))) K 138 [none, none, none, none, none, none] [] h)) (fun K hb hX s => g_X11_isImage_L80 l G v0 h K (fun w0 w1 => hb ((w0, w1))) (fun r => hX (Sum.inl r)) (hX (Sum.inr ())) s.1 s.2) ?_ xFU ((0, 0))
        rintro (r | y21) K hK
        · exact hK.trans rfl
        · refine xa_eqE hK ?_
          show xa_G l G 5 mX11_isImage _ _ 138 [none, none, none, none, none, none] [] h
          refine xa_step (xa_iconst d_X11_isImage_138 xq_i_1) ?_
          exact xa_zret d_X11_isImage_139 rfl (Or.inr rfl) rfl
      · refine xa_step (xa_iconst d_X11_isImage_73 xq_i_0) ?_
        exact xa_zret d_X11_isImage_74 rfl (Or.inl rfl) rfl
  · refine xa_step (xa_iconst d_X11_isImage_28 xq_i_0) ?_
    exact xa_zret d_X11_isImage_29 rfl (Or.inl rfl) rfl
theorem ct_X11_isImage (l : Launch) (G : xa_C) (v0 v1 : Int) (h : xa_H) (r : Int) (hr : f_X11_isImage v0 v1 h = some r) : xa_CT l G 5 mX11_isImage yX11_isImage [xR v0, xI v1] h (some (xI r), h) :=
  xa_met (by decide +kernel) rfl (fun q => by first | rfl | cases q) (Nat.le_of_ble_eq_true rfl) rfl (g_X11_isImage l G v0 v1 h) (by rw [hr]; rfl)
abbrev mX11_readRing : xa_M := (cX11_readRing, 6, (some (.boolean)), RX11, false)
theorem d_X11_readRing_0 : decode mX11_readRing.1 0 = .ok (.iload_n 2, 1) ∧ 0 + 1 = 1 := ⟨by decide +kernel, rfl⟩
theorem d_X11_readRing_1 : decode mX11_readRing.1 1 = .ok (.iconst 2, 1) ∧ 1 + 1 = 2 := ⟨by decide +kernel, rfl⟩
theorem d_X11_readRing_2 : decode mX11_readRing.1 2 = .ok (.if_icmp .lt 9, 3) ∧ 2 + 3 = 5 ∧ ((2 : Nat) : Int) + 9 = ((11 : Nat) : Int) := ⟨by decide +kernel, rfl, rfl⟩
theorem d_X11_readRing_11 : decode mX11_readRing.1 11 = .ok (.iconst 0, 1) ∧ 11 + 1 = 12 := ⟨by decide +kernel, rfl⟩
theorem d_X11_readRing_12 : decode mX11_readRing.1 12 = .ok (.ireturn, 1) := by decide +kernel
theorem d_X11_readRing_5 : decode mX11_readRing.1 5 = .ok (.iload_n 2, 1) ∧ 5 + 1 = 6 := ⟨by decide +kernel, rfl⟩
theorem d_X11_readRing_6 : decode mX11_readRing.1 6 = .ok (.bipush 6, 2) ∧ 6 + 2 = 8 := ⟨by decide +kernel, rfl⟩
theorem d_X11_readRing_8 : decode mX11_readRing.1 8 = .ok (.if_icmp .le 5, 3) ∧ 8 + 3 = 11 ∧ ((8 : Nat) : Int) + 5 = ((13 : Nat) : Int) := ⟨by decide +kernel, rfl, rfl⟩
theorem d_X11_readRing_13 : decode mX11_readRing.1 13 = .ok (.iconst 0, 1) ∧ 13 + 1 = 14 := ⟨by decide +kernel, rfl⟩
theorem d_X11_readRing_14 : decode mX11_readRing.1 14 = .ok (.istore_n 3, 1) ∧ 14 + 1 = 15 := ⟨by decide +kernel, rfl⟩
theorem d_X11_readRing_15 : decode mX11_readRing.1 15 = .ok (.iconst 0, 1) ∧ 15 + 1 = 16 := ⟨by decide +kernel, rfl⟩
theorem d_X11_readRing_16 : decode mX11_readRing.1 16 = .ok (.istore 4, 2) ∧ 16 + 2 = 18 := ⟨by decide +kernel, rfl⟩
theorem d_X11_readRing_18 : decode mX11_readRing.1 18 = .ok (.iload 4, 2) ∧ 18 + 2 = 20 := ⟨by decide +kernel, rfl⟩
theorem d_X11_readRing_20 : decode mX11_readRing.1 20 = .ok (.iload_n 2, 1) ∧ 20 + 1 = 21 := ⟨by decide +kernel, rfl⟩
theorem d_X11_readRing_21 : decode mX11_readRing.1 21 = .ok (.if_icmp .ge 45, 3) ∧ 21 + 3 = 24 ∧ ((21 : Nat) : Int) + 45 = ((66 : Nat) : Int) := ⟨by decide +kernel, rfl, rfl⟩
theorem d_X11_readRing_24 : decode mX11_readRing.1 24 = .ok (.aload_n 0, 1) ∧ 24 + 1 = 25 := ⟨by decide +kernel, rfl⟩
theorem d_X11_readRing_25 : decode mX11_readRing.1 25 = .ok (.iload 4, 2) ∧ 25 + 2 = 27 := ⟨by decide +kernel, rfl⟩
theorem d_X11_readRing_27 : decode mX11_readRing.1 27 = .ok (.invokevirtual 303, 3) ∧ 27 + 3 = 30 := ⟨by decide +kernel, rfl⟩
theorem d_X11_readRing_30 : decode mX11_readRing.1 30 = .ok (.istore 5, 2) ∧ 30 + 2 = 32 := ⟨by decide +kernel, rfl⟩
theorem d_X11_readRing_32 : decode mX11_readRing.1 32 = .ok (.aload_n 0, 1) ∧ 32 + 1 = 33 := ⟨by decide +kernel, rfl⟩
theorem d_X11_readRing_33 : decode mX11_readRing.1 33 = .ok (.iload 5, 2) ∧ 33 + 2 = 35 := ⟨by decide +kernel, rfl⟩
theorem d_X11_readRing_35 : decode mX11_readRing.1 35 = .ok (.invokevirtual 199, 3) ∧ 35 + 3 = 38 := ⟨by decide +kernel, rfl⟩
theorem d_X11_readRing_38 : decode mX11_readRing.1 38 = .ok (.ifCond .eq 13, 3) ∧ 38 + 3 = 41 ∧ ((38 : Nat) : Int) + 13 = ((51 : Nat) : Int) := ⟨by decide +kernel, rfl, rfl⟩
theorem d_X11_readRing_51 : decode mX11_readRing.1 51 = .ok (.iconst 0, 1) ∧ 51 + 1 = 52 := ⟨by decide +kernel, rfl⟩
theorem d_X11_readRing_52 : decode mX11_readRing.1 52 = .ok (.ireturn, 1) := by decide +kernel
theorem d_X11_readRing_41 : decode mX11_readRing.1 41 = .ok (.iload_n 3, 1) ∧ 41 + 1 = 42 := ⟨by decide +kernel, rfl⟩
theorem d_X11_readRing_42 : decode mX11_readRing.1 42 = .ok (.iload 5, 2) ∧ 42 + 2 = 44 := ⟨by decide +kernel, rfl⟩
theorem d_X11_readRing_44 : decode mX11_readRing.1 44 = .ok (.ishr, 1) ∧ 44 + 1 = 45 := ⟨by decide +kernel, rfl⟩
theorem d_X11_readRing_45 : decode mX11_readRing.1 45 = .ok (.iconst 1, 1) ∧ 45 + 1 = 46 := ⟨by decide +kernel, rfl⟩
theorem d_X11_readRing_46 : decode mX11_readRing.1 46 = .ok (.iand, 1) ∧ 46 + 1 = 47 := ⟨by decide +kernel, rfl⟩
theorem d_X11_readRing_47 : decode mX11_readRing.1 47 = .ok (.iconst 1, 1) ∧ 47 + 1 = 48 := ⟨by decide +kernel, rfl⟩
theorem d_X11_readRing_48 : decode mX11_readRing.1 48 = .ok (.if_icmp .ne 5, 3) ∧ 48 + 3 = 51 ∧ ((48 : Nat) : Int) + 5 = ((53 : Nat) : Int) := ⟨by decide +kernel, rfl, rfl⟩
theorem d_X11_readRing_53 : decode mX11_readRing.1 53 = .ok (.iload_n 3, 1) ∧ 53 + 1 = 54 := ⟨by decide +kernel, rfl⟩
theorem d_X11_readRing_54 : decode mX11_readRing.1 54 = .ok (.iconst 1, 1) ∧ 54 + 1 = 55 := ⟨by decide +kernel, rfl⟩
theorem d_X11_readRing_55 : decode mX11_readRing.1 55 = .ok (.iload 5, 2) ∧ 55 + 2 = 57 := ⟨by decide +kernel, rfl⟩
theorem d_X11_readRing_57 : decode mX11_readRing.1 57 = .ok (.ishl, 1) ∧ 57 + 1 = 58 := ⟨by decide +kernel, rfl⟩
theorem d_X11_readRing_58 : decode mX11_readRing.1 58 = .ok (.ior, 1) ∧ 58 + 1 = 59 := ⟨by decide +kernel, rfl⟩
theorem d_X11_readRing_59 : decode mX11_readRing.1 59 = .ok (.istore_n 3, 1) ∧ 59 + 1 = 60 := ⟨by decide +kernel, rfl⟩
theorem d_X11_readRing_60 : decode mX11_readRing.1 60 = .ok (.iinc 4 1, 3) ∧ 60 + 3 = 63 := ⟨by decide +kernel, rfl⟩
theorem d_X11_readRing_63 : decode mX11_readRing.1 63 = .ok (.goto (-45), 3) ∧ ((63 : Nat) : Int) + (-45) = ((18 : Nat) : Int) := ⟨by decide +kernel, rfl⟩
set_option maxRecDepth 100000 in
set_option maxHeartbeats 4000000 in
theorem g_X11_readRing_L18 (l : Launch) (G : xa_C) (c0 c1 c2 : Int) (h : xa_H) (K : (Int × Int) ⊕ ((Int × xa_H) ⊕ (Unit)) → Option xa_O) (hb : ∀ (v3 : Int) (v4 : Int), xa_G l G 3 mX11_readRing (some (Sum.inl ((v3, v4)))) K 18 [some (xR c0), some (xR c1), some (xI c2), some (xI v3), some (xI v4), none] [] h) (hr : ∀ r : Int × xa_H, K (Sum.inr (Sum.inl r)) = some (some (xI r.1), r.2)) (hx : xa_G l G 3 mX11_readRing (some (Sum.inr (Sum.inr (())))) K 66 [some (xR c0), some (xR c1), some (xI c2), none, none, none] [] h) : ∀ (v3 : Int) (v4 : Int), xa_G l G 3 mX11_readRing (f_X11_readRing_L18 c0 c1 c2 h v3 v4) K 18 [some (xR c0), some (xR c1), some (xI c2), some (xI v3), some (xI v4), none] [] h := by
  intro v3 v4
  unfold f_X11_readRing_L18
  refine xa_step (xa_iload d_X11_readRing_18 rfl) ?_
  refine xa_step (xa_iload_n d_X11_readRing_20 rfl) ?_
  refine xa_if (xa_icmpge d_X11_readRing_21) (fun q3 => ?_) (fun q3 => ?_)
  · refine xa_step (xa_aload_n d_X11_readRing_24 rfl) ?_
    refine xa_step (xa_iload d_X11_readRing_25 rfl) ?_
    refine xa_callVi (as := [xI v4]) (st := []) (M' := mX11_tapeByte) (d' := 2) rfl xw_958 xw_960 xw_36 xw_961 xw_161 xh_X11_tapeByte rfl ⟨Nat.le_of_ble_eq_true rfl, Nat.le_of_ble_eq_true rfl⟩ (Nat.le_of_ble_eq_true rfl) rfl d_X11_readRing_27 (fun r hr => ct_X11_tapeByte l G c0 v4 h r hr) (fun r4 _ => ?_)
    refine xa_step (xa_istore (ls' := [some (xR c0), some (xR c1), some (xI c2), some (xI v3), some (xI v4), some (xI r4)]) d_X11_readRing_30 (by decide) rfl) ?_
    refine xa_step (xa_aload_n d_X11_readRing_32 rfl) ?_
    refine xa_step (xa_iload d_X11_readRing_33 rfl) ?_
    refine xa_callVi (as := [xI r4]) (st := []) (M' := mX11_isHolder) (d' := 2) rfl xw_921 xw_923 xw_33 xw_924 xw_161 xh_X11_isHolder rfl ⟨Nat.le_of_ble_eq_true rfl, Nat.le_of_ble_eq_true rfl⟩ (Nat.le_of_ble_eq_true rfl) rfl d_X11_readRing_35 (fun r hr => ct_X11_isHolder l G c0 r4 h r hr) (fun r5 _ => ?_)
    refine xa_if (xa_ifeq d_X11_readRing_38) (fun q6 => ?_) (fun q6 => ?_)
    · refine xa_step (xa_iconst d_X11_readRing_51 xq_i_0) ?_
      exact xa_zret d_X11_readRing_52 rfl (Or.inl rfl) (hr _)
    · refine xa_step (xa_iload_n d_X11_readRing_41 rfl) ?_
      refine xa_step (xa_iload d_X11_readRing_42 rfl) ?_
      refine xa_step (xa_ishr d_X11_readRing_44) ?_
      refine xa_step (xa_iconst d_X11_readRing_45 xq_i_1) ?_
      refine xa_step (xa_iand d_X11_readRing_46) ?_
      refine xa_step (xa_iconst d_X11_readRing_47 xq_i_1) ?_
      refine xa_if (xa_icmpne d_X11_readRing_48) (fun q7 => ?_) (fun q7 => ?_)
      · refine xa_step (xa_iconst d_X11_readRing_51 xq_i_0) ?_
        exact xa_zret d_X11_readRing_52 rfl (Or.inl rfl) (hr _)
      · refine xa_step (xa_iload_n d_X11_readRing_53 rfl) ?_
        refine xa_step (xa_iconst d_X11_readRing_54 xq_i_1) ?_
        refine xa_step (xa_iload d_X11_readRing_55 rfl) ?_
        refine xa_step (xa_ishl d_X11_readRing_57) ?_
        refine xa_step (xa_ior d_X11_readRing_58) ?_
        refine xa_step (xa_istore_n (ls' := [some (xR c0), some (xR c1), some (xI c2), some (xI (xior v3 (xshl 1 r4))), some (xI v4), some (xI r4)]) d_X11_readRing_59 (by decide) rfl) ?_
        refine xa_step (xa_iinc (ls' := [some (xR c0), some (xR c1), some (xI c2), some (xI (xior v3 (xshl 1 r4))), some (xI (w32 (v4 + 1))), some (xI r4)]) d_X11_readRing_60 xq_i_1 rfl (by decide) rfl) ?_
        refine xa_step (xa_goto d_X11_readRing_63) ?_
        exact xa_weak (ls' := [some (xR c0), some (xR c1), some (xI c2), some (xI (xior v3 (xshl 1 r4))), some (xI (w32 (v4 + 1))), none]) ⟨rfl, rfl, rfl, rfl, rfl, trivial⟩ (hb (xior v3 (xshl 1 r4)) (w32 (v4 + 1)))
  · exact xa_weak (ls' := [some (xR c0), some (xR c1), some (xI c2), none, none, none]) ⟨rfl, rfl, rfl, trivial⟩ (hx )
theorem d_X11_readRing_66 : decode mX11_readRing.1 66 = .ok (.iconst 0, 1) ∧ 66 + 1 = 67 := ⟨by decide +kernel, rfl⟩
theorem d_X11_readRing_67 : decode mX11_readRing.1 67 = .ok (.istore 4, 2) ∧ 67 + 2 = 69 := ⟨by decide +kernel, rfl⟩
theorem d_X11_readRing_69 : decode mX11_readRing.1 69 = .ok (.iload 4, 2) ∧ 69 + 2 = 71 := ⟨by decide +kernel, rfl⟩
theorem d_X11_readRing_71 : decode mX11_readRing.1 71 = .ok (.iload_n 2, 1) ∧ 71 + 1 = 72 := ⟨by decide +kernel, rfl⟩
theorem d_X11_readRing_72 : decode mX11_readRing.1 72 = .ok (.if_icmp .ge 22, 3) ∧ 72 + 3 = 75 ∧ ((72 : Nat) : Int) + 22 = ((94 : Nat) : Int) := ⟨by decide +kernel, rfl, rfl⟩
theorem d_X11_readRing_75 : decode mX11_readRing.1 75 = .ok (.aload_n 1, 1) ∧ 75 + 1 = 76 := ⟨by decide +kernel, rfl⟩
theorem d_X11_readRing_76 : decode mX11_readRing.1 76 = .ok (.getfield 378, 3) ∧ 76 + 3 = 79 := ⟨by decide +kernel, rfl⟩
theorem d_X11_readRing_79 : decode mX11_readRing.1 79 = .ok (.iload 4, 2) ∧ 79 + 2 = 81 := ⟨by decide +kernel, rfl⟩
theorem d_X11_readRing_81 : decode mX11_readRing.1 81 = .ok (.aload_n 0, 1) ∧ 81 + 1 = 82 := ⟨by decide +kernel, rfl⟩
theorem d_X11_readRing_82 : decode mX11_readRing.1 82 = .ok (.iload 4, 2) ∧ 82 + 2 = 84 := ⟨by decide +kernel, rfl⟩
theorem d_X11_readRing_84 : decode mX11_readRing.1 84 = .ok (.invokevirtual 303, 3) ∧ 84 + 3 = 87 := ⟨by decide +kernel, rfl⟩
theorem d_X11_readRing_87 : decode mX11_readRing.1 87 = .ok (.iastore, 1) ∧ 87 + 1 = 88 := ⟨by decide +kernel, rfl⟩
theorem d_X11_readRing_88 : decode mX11_readRing.1 88 = .ok (.iinc 4 1, 3) ∧ 88 + 3 = 91 := ⟨by decide +kernel, rfl⟩
theorem d_X11_readRing_91 : decode mX11_readRing.1 91 = .ok (.goto (-22), 3) ∧ ((91 : Nat) : Int) + (-22) = ((69 : Nat) : Int) := ⟨by decide +kernel, rfl⟩
set_option maxRecDepth 100000 in
set_option maxHeartbeats 4000000 in
theorem g_X11_readRing_L69 (l : Launch) (G : xa_C) (c0 c1 c2 : Int) (K : (Int × xa_H) ⊕ (xa_H) → Option xa_O) (hb : ∀ (v4 : Int) (h : xa_H), xa_G l G 3 mX11_readRing (some (Sum.inl ((v4, h)))) K 69 [some (xR c0), some (xR c1), some (xI c2), none, some (xI v4), none] [] h) (hx : ∀ (h : xa_H), xa_G l G 3 mX11_readRing (some (Sum.inr h)) K 94 [none, some (xR c1), some (xI c2), none, none, none] [] h) : ∀ (v4 : Int) (h : xa_H), xa_G l G 3 mX11_readRing (f_X11_readRing_L69 c0 c1 c2 v4 h) K 69 [some (xR c0), some (xR c1), some (xI c2), none, some (xI v4), none] [] h := by
  intro v4 h
  unfold f_X11_readRing_L69
  refine xa_step (xa_iload d_X11_readRing_69 rfl) ?_
  refine xa_step (xa_iload_n d_X11_readRing_71 rfl) ?_
  refine xa_if (xa_icmpge d_X11_readRing_72) (fun q10 => ?_) (fun q10 => ?_)
  · refine xa_step (xa_aload_n d_X11_readRing_75 rfl) ?_
    refine xa_getf xR xc_7 (by decide) (fun _ => rfl) xw_479 rfl d_X11_readRing_76 (fun x11 _ => ?_)
    refine xa_step (xa_iload d_X11_readRing_79 rfl) ?_
    refine xa_step (xa_aload_n d_X11_readRing_81 rfl) ?_
    refine xa_step (xa_iload d_X11_readRing_82 rfl) ?_
    refine xa_callVi (as := [xI v4]) (st := [xI v4, xR x11]) (M' := mX11_tapeByte) (d' := 2) rfl xw_958 xw_960 xw_36 xw_961 xw_161 xh_X11_tapeByte rfl ⟨Nat.le_of_ble_eq_true rfl, Nat.le_of_ble_eq_true rfl⟩ (Nat.le_of_ble_eq_true rfl) rfl d_X11_readRing_84 (fun r hr => ct_X11_tapeByte l G c0 v4 h r hr) (fun r12 _ => ?_)
    refine xa_iastore2 d_X11_readRing_87 (fun h13 _ => ?_)
    refine xa_step (xa_iinc (ls' := [some (xR c0), some (xR c1), some (xI c2), none, some (xI (w32 (v4 + 1))), none]) d_X11_readRing_88 xq_i_1 rfl (by decide) rfl) ?_
    refine xa_step (xa_goto d_X11_readRing_91) ?_
    exact xa_weak (ls' := [some (xR c0), some (xR c1), some (xI c2), none, some (xI (w32 (v4 + 1))), none]) ⟨rfl, rfl, rfl, rfl, trivial⟩ (hb (w32 (v4 + 1)) h13)
  · exact xa_weak (ls' := [none, some (xR c1), some (xI c2), none, none, none]) ⟨rfl, rfl, trivial⟩ (hx h)
theorem d_X11_readRing_94 : decode mX11_readRing.1 94 = .ok (.aload_n 1, 1) ∧ 94 + 1 = 95 := ⟨by decide +kernel, rfl⟩
theorem d_X11_readRing_95 : decode mX11_readRing.1 95 = .ok (.iload_n 2, 1) ∧ 95 + 1 = 96 := ⟨by decide +kernel, rfl⟩
theorem d_X11_readRing_96 : decode mX11_readRing.1 96 = .ok (.putfield 143, 3) ∧ 96 + 3 = 99 := ⟨by decide +kernel, rfl⟩
theorem d_X11_readRing_99 : decode mX11_readRing.1 99 = .ok (.iconst 1, 1) ∧ 99 + 1 = 100 := ⟨by decide +kernel, rfl⟩
theorem d_X11_readRing_100 : decode mX11_readRing.1 100 = .ok (.ireturn, 1) := by decide +kernel
set_option maxRecDepth 100000 in
set_option maxHeartbeats 4000000 in
theorem g_X11_readRing (l : Launch) (G : xa_C) (v0 v1 v2 : Int) (h : xa_H) : xa_G l G 3 mX11_readRing (f_X11_readRing v0 v1 v2 h) (fun r => some (some (xI r.1), r.2) : (Int × xa_H) → Option xa_O) 0 [some (xR v0), some (xR v1), some (xI v2), none, none, none] [] h := by
  unfold f_X11_readRing
  refine xa_step (xa_iload_n d_X11_readRing_0 rfl) ?_
  refine xa_step (xa_iconst d_X11_readRing_1 xq_i_2) ?_
  refine xa_if (xa_icmplt d_X11_readRing_2) (fun q1 => ?_) (fun q1 => ?_)
  · refine xa_step (xa_iconst d_X11_readRing_11 xq_i_0) ?_
    exact xa_zret d_X11_readRing_12 rfl (Or.inl rfl) rfl
  · refine xa_step (xa_iload_n d_X11_readRing_5 rfl) ?_
    refine xa_step (xa_bipush d_X11_readRing_6 xq_b_6) ?_
    refine xa_if (xa_icmple d_X11_readRing_8) (fun q2 => ?_) (fun q2 => ?_)
    · refine xa_step (xa_iconst d_X11_readRing_11 xq_i_0) ?_
      exact xa_zret d_X11_readRing_12 rfl (Or.inl rfl) rfl
    · refine xa_step (xa_iconst d_X11_readRing_13 xq_i_0) ?_
      refine xa_step (xa_istore_n (ls' := [some (xR v0), some (xR v1), some (xI v2), some (xI 0), none, none]) d_X11_readRing_14 (by decide) rfl) ?_
      refine xa_step (xa_iconst d_X11_readRing_15 xq_i_0) ?_
      refine xa_step (xa_istore (ls' := [some (xR v0), some (xR v1), some (xI v2), some (xI 0), some (xI 0), none]) d_X11_readRing_16 (by decide) rfl) ?_
      refine xa_weak (ls' := [some (xR v0), some (xR v1), some (xI v2), some (xI 0), some (xI 0), none]) ⟨rfl, rfl, rfl, rfl, rfl, trivial⟩ ?_
      refine xa_loop (f := fun s => f_X11_readRing_L18 v0 v1 v2 h s.1 s.2) (L := fun s => [some (xR v0), some (xR v1), some (xI v2), some (xI s.1), some (xI s.2), none]) (P := fun s => h) (X := (fun e K => match e with | Sum.inl r => K (Sum.inr (Sum.inl r)) = some (some (xI r.1), r.2) | Sum.inr x => xa_G l G 3 mX11_readRing (some (Sum.inr (Sum.inr x))) K 66 [some (xR v0), some (xR v1), some (xI v2), none, none, none] [] h)) (fun K hb hX s => g_X11_readRing_L18 l G v0 v1 v2 h K (fun w0 w1 => hb ((w0, w1))) (fun r => hX (Sum.inl r)) (hX (Sum.inr ())) s.1 s.2) ?_ xFU ((0, 0))
      rintro (r | y9) K hK
      · exact hK.trans rfl
      · refine xa_eqE hK ?_
        show xa_G l G 3 mX11_readRing _ _ 66 [some (xR v0), some (xR v1), some (xI v2), none, none, none] [] h
        refine xa_step (xa_iconst d_X11_readRing_66 xq_i_0) ?_
        refine xa_step (xa_istore (ls' := [some (xR v0), some (xR v1), some (xI v2), none, some (xI 0), none]) d_X11_readRing_67 (by decide) rfl) ?_
        refine xa_weak (ls' := [some (xR v0), some (xR v1), some (xI v2), none, some (xI 0), none]) ⟨rfl, rfl, rfl, rfl, trivial⟩ ?_
        refine xa_loop (f := fun s => f_X11_readRing_L69 v0 v1 v2 s.1 s.2) (L := fun s => [some (xR v0), some (xR v1), some (xI v2), none, some (xI s.1), none]) (P := fun s => s.2) (X := (fun x K => xa_G l G 3 mX11_readRing (some (Sum.inr x)) K 94 [none, some (xR v1), some (xI v2), none, none, none] [] x)) (fun K hb hX s => g_X11_readRing_L69 l G v0 v1 v2 K (fun w0 hh => hb ((w0, hh))) (fun hh => hX hh) s.1 s.2) ?_ xFU ((0, h))
        intro e14 K hK
        refine xa_eqE hK ?_
        show xa_G l G 3 mX11_readRing _ _ 94 [none, some (xR v1), some (xI v2), none, none, none] [] e14
        refine xa_step (xa_aload_n d_X11_readRing_94 rfl) ?_
        refine xa_step (xa_iload_n d_X11_readRing_95 rfl) ?_
        refine xa_putf2 (tg := xI) xc_7 (by decide) (fun _ => rfl) rfl (fun c hc => xa_fitI c hc) xw_481 rfl d_X11_readRing_96 (fun h15 _ => ?_)
        refine xa_step (xa_iconst d_X11_readRing_99 xq_i_1) ?_
        exact xa_zret d_X11_readRing_100 rfl (Or.inr rfl) rfl
theorem ct_X11_readRing (l : Launch) (G : xa_C) (v0 v1 v2 : Int) (h : xa_H) (r : Int × xa_H) (hr : f_X11_readRing v0 v1 v2 h = some r) : xa_CT l G 3 mX11_readRing yX11_readRing [xR v0, xR v1, xI v2] h (some (xI r.1), r.2) :=
  xa_met (by decide +kernel) rfl (fun q => by first | rfl | cases q) (Nat.le_of_ble_eq_true rfl) rfl (g_X11_readRing l G v0 v1 v2 h) (by rw [hr]; rfl)
abbrev mX11_judge : xa_M := (cX11_judge, 1, (some (.int)), RX11, false)
theorem d_X11_judge_0 : decode mX11_judge.1 0 = .ok (.aload_n 0, 1) ∧ 0 + 1 = 1 := ⟨by decide +kernel, rfl⟩
theorem d_X11_judge_1 : decode mX11_judge.1 1 = .ok (.aload_n 0, 1) ∧ 1 + 1 = 2 := ⟨by decide +kernel, rfl⟩
theorem d_X11_judge_2 : decode mX11_judge.1 2 = .ok (.getfield 68, 3) ∧ 2 + 3 = 5 := ⟨by decide +kernel, rfl⟩
theorem d_X11_judge_5 : decode mX11_judge.1 5 = .ok (.aload_n 0, 1) ∧ 5 + 1 = 6 := ⟨by decide +kernel, rfl⟩
theorem d_X11_judge_6 : decode mX11_judge.1 6 = .ok (.invokevirtual 126, 3) ∧ 6 + 3 = 9 := ⟨by decide +kernel, rfl⟩
theorem d_X11_judge_9 : decode mX11_judge.1 9 = .ok (.invokevirtual 241, 3) ∧ 9 + 3 = 12 := ⟨by decide +kernel, rfl⟩
theorem d_X11_judge_12 : decode mX11_judge.1 12 = .ok (.ifCond .ne 9, 3) ∧ 12 + 3 = 15 ∧ ((12 : Nat) : Int) + 9 = ((21 : Nat) : Int) := ⟨by decide +kernel, rfl, rfl⟩
theorem d_X11_judge_15 : decode mX11_judge.1 15 = .ok (.aload_n 0, 1) ∧ 15 + 1 = 16 := ⟨by decide +kernel, rfl⟩
theorem d_X11_judge_16 : decode mX11_judge.1 16 = .ok (.iconst 1, 1) ∧ 16 + 1 = 17 := ⟨by decide +kernel, rfl⟩
theorem d_X11_judge_17 : decode mX11_judge.1 17 = .ok (.invokevirtual 118, 3) ∧ 17 + 3 = 20 := ⟨by decide +kernel, rfl⟩
theorem d_X11_judge_20 : decode mX11_judge.1 20 = .ok (.ireturn, 1) := by decide +kernel
theorem d_X11_judge_21 : decode mX11_judge.1 21 = .ok (.aload_n 0, 1) ∧ 21 + 1 = 22 := ⟨by decide +kernel, rfl⟩
theorem d_X11_judge_22 : decode mX11_judge.1 22 = .ok (.getfield 68, 3) ∧ 22 + 3 = 25 := ⟨by decide +kernel, rfl⟩
theorem d_X11_judge_25 : decode mX11_judge.1 25 = .ok (.aload_n 0, 1) ∧ 25 + 1 = 26 := ⟨by decide +kernel, rfl⟩
theorem d_X11_judge_26 : decode mX11_judge.1 26 = .ok (.getfield 47, 3) ∧ 26 + 3 = 29 := ⟨by decide +kernel, rfl⟩
theorem d_X11_judge_29 : decode mX11_judge.1 29 = .ok (.aload_n 0, 1) ∧ 29 + 1 = 30 := ⟨by decide +kernel, rfl⟩
theorem d_X11_judge_30 : decode mX11_judge.1 30 = .ok (.getfield 54, 3) ∧ 30 + 3 = 33 := ⟨by decide +kernel, rfl⟩
theorem d_X11_judge_33 : decode mX11_judge.1 33 = .ok (.invokevirtual 245, 3) ∧ 33 + 3 = 36 := ⟨by decide +kernel, rfl⟩
theorem d_X11_judge_36 : decode mX11_judge.1 36 = .ok (.aload_n 0, 1) ∧ 36 + 1 = 37 := ⟨by decide +kernel, rfl⟩
theorem d_X11_judge_37 : decode mX11_judge.1 37 = .ok (.getfield 68, 3) ∧ 37 + 3 = 40 := ⟨by decide +kernel, rfl⟩
theorem d_X11_judge_40 : decode mX11_judge.1 40 = .ok (.getfield 249, 3) ∧ 40 + 3 = 43 := ⟨by decide +kernel, rfl⟩
theorem d_X11_judge_43 : decode mX11_judge.1 43 = .ok (.ireturn, 1) := by decide +kernel
set_option maxRecDepth 100000 in
set_option maxHeartbeats 4000000 in
theorem g_X11_judge (l : Launch) (G : xa_C) (v0 : Int) (h : xa_H) : xa_G l G 6 mX11_judge (f_X11_judge v0 h) (fun r => some (some (xI r.1), r.2) : (Int × xa_H) → Option xa_O) 0 [some (xR v0)] [] h := by
  unfold f_X11_judge
  refine xa_step (xa_aload_n d_X11_judge_0 rfl) ?_
  refine xa_step (xa_aload_n d_X11_judge_1 rfl) ?_
  refine xa_getf xR xc_11 (by decide) (fun _ => rfl) xw_592 rfl d_X11_judge_2 (fun x1 _ => ?_)
  refine xa_step (xa_aload_n d_X11_judge_5 rfl) ?_
  refine xa_callVI (as := []) (st := [xR x1, xR v0]) (M' := mX11_takeTape) (d' := 2) rfl xw_662 xw_664 xw_4 xw_665 xw_161 xh_X11_takeTape rfl ⟨Nat.le_of_ble_eq_true rfl, Nat.le_of_ble_eq_true rfl⟩ (Nat.le_of_ble_eq_true rfl) rfl d_X11_judge_6 (fun r hr => ct_X11_takeTape l G v0 h r hr) (fun r2 _ => ?_)
  refine xa_callVI (as := [xR x1, xI r2.1]) (st := []) (M' := mX11_readRing) (d' := 3) rfl xw_954 xw_956 xw_35 xw_957 xw_161 xh_X11_readRing rfl ⟨Nat.le_of_ble_eq_true rfl, Nat.le_of_ble_eq_true rfl⟩ (Nat.le_of_ble_eq_true rfl) rfl d_X11_judge_9 (fun r hr => ct_X11_readRing l G v0 x1 r2.1 r2.2 r hr) (fun r3 _ => ?_)
  refine xa_if (xa_ifne d_X11_judge_12) (fun q4 => ?_) (fun q4 => ?_)
  · refine xa_step (xa_aload_n d_X11_judge_15 rfl) ?_
    refine xa_step (xa_iconst d_X11_judge_16 xq_i_1) ?_
    refine xa_callVI (as := [xI 1]) (st := []) (M' := mX11_refuse) (d' := 2) rfl xw_646 xw_648 xw_2 xw_649 xw_161 xh_X11_refuse rfl ⟨Nat.le_of_ble_eq_true rfl, Nat.le_of_ble_eq_true rfl⟩ (Nat.le_of_ble_eq_true rfl) rfl d_X11_judge_17 (fun r hr => ct_X11_refuse l G v0 1 r3.2 r hr) (fun r5 _ => ?_)
    exact xa_iret d_X11_judge_20 rfl rfl
  · refine xa_step (xa_aload_n d_X11_judge_21 rfl) ?_
    refine xa_getf xR xc_11 (by decide) (fun _ => rfl) xw_592 rfl d_X11_judge_22 (fun x6 _ => ?_)
    refine xa_step (xa_aload_n d_X11_judge_25 rfl) ?_
    refine xa_getf xR xc_11 (by decide) (fun _ => rfl) xw_589 rfl d_X11_judge_26 (fun x7 _ => ?_)
    refine xa_step (xa_aload_n d_X11_judge_29 rfl) ?_
    refine xa_getf xR xc_11 (by decide) (fun _ => rfl) xw_590 rfl d_X11_judge_30 (fun x8 _ => ?_)
    refine xa_callVV (as := [xR x7, xR x8]) (st := []) (M' := mX7_weigh) (d' := 5) rfl xw_962 xw_963 xw_964 xw_965 xw_173 xh_X7_weigh rfl ⟨Nat.le_of_ble_eq_true rfl, Nat.le_of_ble_eq_true rfl⟩ (Nat.le_of_ble_eq_true rfl) rfl d_X11_judge_33 (fun r hr => ct_X7_weigh l G x6 x7 x8 r3.2 r hr) (fun r9 _ => ?_)
    refine xa_step (xa_aload_n d_X11_judge_36 rfl) ?_
    refine xa_getf xR xc_11 (by decide) (fun _ => rfl) xw_592 rfl d_X11_judge_37 (fun x10 _ => ?_)
    refine xa_getf xI xc_7 (by decide) (fun _ => rfl) xw_483 rfl d_X11_judge_40 (fun x11 _ => ?_)
    exact xa_iret d_X11_judge_43 rfl rfl
theorem ct_X11_judge (l : Launch) (G : xa_C) (v0 : Int) (h : xa_H) (r : Int × xa_H) (hr : f_X11_judge v0 h = some r) : xa_CT l G 6 mX11_judge yX11_judge [xR v0] h (some (xI r.1), r.2) :=
  xa_met (by decide +kernel) rfl (fun q => by first | rfl | cases q) (Nat.le_of_ble_eq_true rfl) rfl (g_X11_judge l G v0 h) (by rw [hr]; rfl)
abbrev mX7_paysOfAll : xa_M := (cX7_paysOfAll, 3, (some (.int)), RX7, false)
theorem d_X7_paysOfAll_0 : decode mX7_paysOfAll.1 0 = .ok (.iconst 0, 1) ∧ 0 + 1 = 1 := ⟨by decide +kernel, rfl⟩
theorem d_X7_paysOfAll_1 : decode mX7_paysOfAll.1 1 = .ok (.istore_n 1, 1) ∧ 1 + 1 = 2 := ⟨by decide +kernel, rfl⟩
theorem d_X7_paysOfAll_2 : decode mX7_paysOfAll.1 2 = .ok (.iconst 0, 1) ∧ 2 + 1 = 3 := ⟨by decide +kernel, rfl⟩
theorem d_X7_paysOfAll_3 : decode mX7_paysOfAll.1 3 = .ok (.istore_n 2, 1) ∧ 3 + 1 = 4 := ⟨by decide +kernel, rfl⟩
theorem d_X7_paysOfAll_4 : decode mX7_paysOfAll.1 4 = .ok (.iload_n 2, 1) ∧ 4 + 1 = 5 := ⟨by decide +kernel, rfl⟩
theorem d_X7_paysOfAll_5 : decode mX7_paysOfAll.1 5 = .ok (.aload_n 0, 1) ∧ 5 + 1 = 6 := ⟨by decide +kernel, rfl⟩
theorem d_X7_paysOfAll_6 : decode mX7_paysOfAll.1 6 = .ok (.getfield 15, 3) ∧ 6 + 3 = 9 := ⟨by decide +kernel, rfl⟩
theorem d_X7_paysOfAll_9 : decode mX7_paysOfAll.1 9 = .ok (.if_icmp .ge 18, 3) ∧ 9 + 3 = 12 ∧ ((9 : Nat) : Int) + 18 = ((27 : Nat) : Int) := ⟨by decide +kernel, rfl, rfl⟩
theorem d_X7_paysOfAll_12 : decode mX7_paysOfAll.1 12 = .ok (.iload_n 1, 1) ∧ 12 + 1 = 13 := ⟨by decide +kernel, rfl⟩
theorem d_X7_paysOfAll_13 : decode mX7_paysOfAll.1 13 = .ok (.aload_n 0, 1) ∧ 13 + 1 = 14 := ⟨by decide +kernel, rfl⟩
theorem d_X7_paysOfAll_14 : decode mX7_paysOfAll.1 14 = .ok (.getfield 25, 3) ∧ 14 + 3 = 17 := ⟨by decide +kernel, rfl⟩
theorem d_X7_paysOfAll_17 : decode mX7_paysOfAll.1 17 = .ok (.iload_n 2, 1) ∧ 17 + 1 = 18 := ⟨by decide +kernel, rfl⟩
theorem d_X7_paysOfAll_18 : decode mX7_paysOfAll.1 18 = .ok (.iaload, 1) ∧ 18 + 1 = 19 := ⟨by decide +kernel, rfl⟩
theorem d_X7_paysOfAll_19 : decode mX7_paysOfAll.1 19 = .ok (.iadd, 1) ∧ 19 + 1 = 20 := ⟨by decide +kernel, rfl⟩
theorem d_X7_paysOfAll_20 : decode mX7_paysOfAll.1 20 = .ok (.istore_n 1, 1) ∧ 20 + 1 = 21 := ⟨by decide +kernel, rfl⟩
theorem d_X7_paysOfAll_21 : decode mX7_paysOfAll.1 21 = .ok (.iinc 2 1, 3) ∧ 21 + 3 = 24 := ⟨by decide +kernel, rfl⟩
theorem d_X7_paysOfAll_24 : decode mX7_paysOfAll.1 24 = .ok (.goto (-20), 3) ∧ ((24 : Nat) : Int) + (-20) = ((4 : Nat) : Int) := ⟨by decide +kernel, rfl⟩
set_option maxRecDepth 100000 in
set_option maxHeartbeats 4000000 in
theorem g_X7_paysOfAll_L4 (l : Launch) (G : xa_C) (c0 : Int) (h : xa_H) (K : (Int × Int) ⊕ (Int) → Option xa_O) (hb : ∀ (v1 : Int) (v2 : Int), xa_G l G 2 mX7_paysOfAll (some (Sum.inl ((v1, v2)))) K 4 [some (xR c0), some (xI v1), some (xI v2)] [] h) (hx : ∀ (v1 : Int), xa_G l G 2 mX7_paysOfAll (some (Sum.inr v1)) K 27 [none, some (xI v1), none] [] h) : ∀ (v1 : Int) (v2 : Int), xa_G l G 2 mX7_paysOfAll (f_X7_paysOfAll_L4 c0 h v1 v2) K 4 [some (xR c0), some (xI v1), some (xI v2)] [] h := by
  intro v1 v2
  unfold f_X7_paysOfAll_L4
  refine xa_step (xa_iload_n d_X7_paysOfAll_4 rfl) ?_
  refine xa_step (xa_aload_n d_X7_paysOfAll_5 rfl) ?_
  refine xa_getf xI xc_7 (by decide) (fun _ => rfl) xw_480 rfl d_X7_paysOfAll_6 (fun x1 _ => ?_)
  refine xa_if (xa_icmpge d_X7_paysOfAll_9) (fun q2 => ?_) (fun q2 => ?_)
  · refine xa_step (xa_iload_n d_X7_paysOfAll_12 rfl) ?_
    refine xa_step (xa_aload_n d_X7_paysOfAll_13 rfl) ?_
    refine xa_getf xR xc_7 (by decide) (fun _ => rfl) xw_486 rfl d_X7_paysOfAll_14 (fun x3 _ => ?_)
    refine xa_step (xa_iload_n d_X7_paysOfAll_17 rfl) ?_
    refine xa_iaload d_X7_paysOfAll_18 (fun x4 _ => ?_)
    refine xa_step (xa_iadd d_X7_paysOfAll_19) ?_
    refine xa_step (xa_istore_n (ls' := [some (xR c0), some (xI (w32 (v1 + x4))), some (xI v2)]) d_X7_paysOfAll_20 (by decide) rfl) ?_
    refine xa_step (xa_iinc (ls' := [some (xR c0), some (xI (w32 (v1 + x4))), some (xI (w32 (v2 + 1)))]) d_X7_paysOfAll_21 xq_i_1 rfl (by decide) rfl) ?_
    refine xa_step (xa_goto d_X7_paysOfAll_24) ?_
    exact xa_weak (ls' := [some (xR c0), some (xI (w32 (v1 + x4))), some (xI (w32 (v2 + 1)))]) ⟨rfl, rfl, rfl, trivial⟩ (hb (w32 (v1 + x4)) (w32 (v2 + 1)))
  · exact xa_weak (ls' := [none, some (xI v1), none]) ⟨rfl, trivial⟩ (hx v1)
theorem d_X7_paysOfAll_27 : decode mX7_paysOfAll.1 27 = .ok (.iload_n 1, 1) ∧ 27 + 1 = 28 := ⟨by decide +kernel, rfl⟩
theorem d_X7_paysOfAll_28 : decode mX7_paysOfAll.1 28 = .ok (.ireturn, 1) := by decide +kernel
set_option maxRecDepth 100000 in
set_option maxHeartbeats 4000000 in
theorem g_X7_paysOfAll (l : Launch) (G : xa_C) (v0 : Int) (h : xa_H) : xa_G l G 2 mX7_paysOfAll (f_X7_paysOfAll v0 h) (fun r => some (some (xI r), h) : Int → Option xa_O) 0 [some (xR v0), none, none] [] h := by
  unfold f_X7_paysOfAll
  refine xa_step (xa_iconst d_X7_paysOfAll_0 xq_i_0) ?_
  refine xa_step (xa_istore_n (ls' := [some (xR v0), some (xI 0), none]) d_X7_paysOfAll_1 (by decide) rfl) ?_
  refine xa_step (xa_iconst d_X7_paysOfAll_2 xq_i_0) ?_
  refine xa_step (xa_istore_n (ls' := [some (xR v0), some (xI 0), some (xI 0)]) d_X7_paysOfAll_3 (by decide) rfl) ?_
  refine xa_weak (ls' := [some (xR v0), some (xI 0), some (xI 0)]) ⟨rfl, rfl, rfl, trivial⟩ ?_
  refine xa_loop (f := fun s => f_X7_paysOfAll_L4 v0 h s.1 s.2) (L := fun s => [some (xR v0), some (xI s.1), some (xI s.2)]) (P := fun s => h) (X := (fun x K => xa_G l G 2 mX7_paysOfAll (some (Sum.inr x)) K 27 [none, some (xI x), none] [] h)) (fun K hb hX s => g_X7_paysOfAll_L4 l G v0 h K (fun w0 w1 => hb ((w0, w1))) (fun w0 => hX w0) s.1 s.2) ?_ xFU ((0, 0))
  intro e5 K hK
  refine xa_eqE hK ?_
  show xa_G l G 2 mX7_paysOfAll _ _ 27 [none, some (xI e5), none] [] h
  refine xa_step (xa_iload_n d_X7_paysOfAll_27 rfl) ?_
  exact xa_iret d_X7_paysOfAll_28 rfl rfl
theorem ct_X7_paysOfAll (l : Launch) (G : xa_C) (v0 : Int) (h : xa_H) (r : Int) (hr : f_X7_paysOfAll v0 h = some r) : xa_CT l G 2 mX7_paysOfAll yX7_paysOfAll [xR v0] h (some (xI r), h) :=
  xa_met (by decide +kernel) rfl (fun q => by first | rfl | cases q) (Nat.le_of_ble_eq_true rfl) rfl (g_X7_paysOfAll l G v0 h) (by rw [hr]; rfl)
abbrev mX11_judged : xa_M := (cX11_judged, 2, (some (.int)), RX11, false)
theorem d_X11_judged_0 : decode mX11_judged.1 0 = .ok (.aload_n 0, 1) ∧ 0 + 1 = 1 := ⟨by decide +kernel, rfl⟩
theorem d_X11_judged_1 : decode mX11_judged.1 1 = .ok (.getfield 68, 3) ∧ 1 + 3 = 4 := ⟨by decide +kernel, rfl⟩
theorem d_X11_judged_4 : decode mX11_judged.1 4 = .ok (.getfield 143, 3) ∧ 4 + 3 = 7 := ⟨by decide +kernel, rfl⟩
theorem d_X11_judged_7 : decode mX11_judged.1 7 = .ok (.ifCond .ne 5, 3) ∧ 7 + 3 = 10 ∧ ((7 : Nat) : Int) + 5 = ((12 : Nat) : Int) := ⟨by decide +kernel, rfl, rfl⟩
theorem d_X11_judged_10 : decode mX11_judged.1 10 = .ok (.iconst (-1), 1) ∧ 10 + 1 = 11 := ⟨by decide +kernel, rfl⟩
theorem d_X11_judged_11 : decode mX11_judged.1 11 = .ok (.ireturn, 1) := by decide +kernel
theorem d_X11_judged_12 : decode mX11_judged.1 12 = .ok (.iload_n 1, 1) ∧ 12 + 1 = 13 := ⟨by decide +kernel, rfl⟩
theorem d_X11_judged_13 : decode mX11_judged.1 13 = .ok (.lookupswitch 43 #[(0, 27), (1, 35)], 27) := by decide +kernel
theorem d_X11_judged_40 : decode mX11_judged.1 40 = .ok (.aload_n 0, 1) ∧ 40 + 1 = 41 := ⟨by decide +kernel, rfl⟩
theorem d_X11_judged_41 : decode mX11_judged.1 41 = .ok (.getfield 68, 3) ∧ 41 + 3 = 44 := ⟨by decide +kernel, rfl⟩
theorem d_X11_judged_44 : decode mX11_judged.1 44 = .ok (.getfield 252, 3) ∧ 44 + 3 = 47 := ⟨by decide +kernel, rfl⟩
theorem d_X11_judged_47 : decode mX11_judged.1 47 = .ok (.ireturn, 1) := by decide +kernel
theorem d_X11_judged_48 : decode mX11_judged.1 48 = .ok (.aload_n 0, 1) ∧ 48 + 1 = 49 := ⟨by decide +kernel, rfl⟩
theorem d_X11_judged_49 : decode mX11_judged.1 49 = .ok (.getfield 68, 3) ∧ 49 + 3 = 52 := ⟨by decide +kernel, rfl⟩
theorem d_X11_judged_52 : decode mX11_judged.1 52 = .ok (.invokevirtual 255, 3) ∧ 52 + 3 = 55 := ⟨by decide +kernel, rfl⟩
theorem d_X11_judged_55 : decode mX11_judged.1 55 = .ok (.ireturn, 1) := by decide +kernel
theorem d_X11_judged_56 : decode mX11_judged.1 56 = .ok (.iconst (-1), 1) ∧ 56 + 1 = 57 := ⟨by decide +kernel, rfl⟩
theorem d_X11_judged_57 : decode mX11_judged.1 57 = .ok (.ireturn, 1) := by decide +kernel
set_option maxRecDepth 100000 in
set_option maxHeartbeats 4000000 in
theorem g_X11_judged (l : Launch) (G : xa_C) (v0 v1 : Int) (h : xa_H) : xa_G l G 3 mX11_judged (f_X11_judged v0 v1 h) (fun r => some (some (xI r), h) : Int → Option xa_O) 0 [some (xR v0), some (xI v1)] [] h := by
  unfold f_X11_judged
  refine xa_step (xa_aload_n d_X11_judged_0 rfl) ?_
  refine xa_getf xR xc_11 (by decide) (fun _ => rfl) xw_592 rfl d_X11_judged_1 (fun x1 _ => ?_)
  refine xa_getf xI xc_7 (by decide) (fun _ => rfl) xw_481 rfl d_X11_judged_4 (fun x2 _ => ?_)
  refine xa_if (xa_ifne d_X11_judged_7) (fun q3 => ?_) (fun q3 => ?_)
  · refine xa_step (xa_iconst d_X11_judged_10 xq_i_m1) ?_
    exact xa_iret d_X11_judged_11 rfl rfl
  · refine xa_step (xa_iload_n d_X11_judged_12 rfl) ?_
    refine xa_case (fun q4 => ?_) (fun q4 => ?_)
    · refine xa_step (xa_lookup (off := 27) d_X11_judged_13 (by decide) (by rw [q4]; decide) rfl) ?_
      refine xa_step (xa_aload_n d_X11_judged_40 rfl) ?_
      refine xa_getf xR xc_11 (by decide) (fun _ => rfl) xw_592 rfl d_X11_judged_41 (fun x5 _ => ?_)
      refine xa_getf xI xc_7 (by decide) (fun _ => rfl) xw_485 rfl d_X11_judged_44 (fun x6 _ => ?_)
      exact xa_iret d_X11_judged_47 rfl rfl
    · refine xa_case (fun q7 => ?_) (fun q7 => ?_)
      · refine xa_step (xa_lookup (off := 35) d_X11_judged_13 (by decide) (by rw [q7]; decide) rfl) ?_
        refine xa_step (xa_aload_n d_X11_judged_48 rfl) ?_
        refine xa_getf xR xc_11 (by decide) (fun _ => rfl) xw_592 rfl d_X11_judged_49 (fun x8 _ => ?_)
        refine xa_callVi (as := []) (st := []) (M' := mX7_paysOfAll) (d' := 2) rfl xw_1018 xw_1019 xw_1020 xw_1021 xw_173 xh_X7_paysOfAll rfl ⟨Nat.le_of_ble_eq_true rfl, Nat.le_of_ble_eq_true rfl⟩ (Nat.le_of_ble_eq_true rfl) rfl d_X11_judged_52 (fun r hr => ct_X7_paysOfAll l G x8 h r hr) (fun r9 _ => ?_)
        exact xa_iret d_X11_judged_55 rfl rfl
      · refine xa_step (xa_lookup (off := 43) d_X11_judged_13 (by decide) (by simp [Op.lookupswitch.offset, Ne.symm q4, Ne.symm q7]) rfl) ?_
        refine xa_step (xa_iconst d_X11_judged_56 xq_i_m1) ?_
        exact xa_iret d_X11_judged_57 rfl rfl
theorem ct_X11_judged (l : Launch) (G : xa_C) (v0 v1 : Int) (h : xa_H) (r : Int) (hr : f_X11_judged v0 v1 h = some r) : xa_CT l G 3 mX11_judged yX11_judged [xR v0, xI v1] h (some (xI r), h) :=
  xa_met (by decide +kernel) rfl (fun q => by first | rfl | cases q) (Nat.le_of_ble_eq_true rfl) rfl (g_X11_judged l G v0 v1 h) (by rw [hr]; rfl)
abbrev mX11_kept : xa_M := (cX11_kept, 4, (some (.int)), RX11, false)
theorem d_X11_kept_0 : decode mX11_kept.1 0 = .ok (.iload_n 1, 1) ∧ 0 + 1 = 1 := ⟨by decide +kernel, rfl⟩
theorem d_X11_kept_1 : decode mX11_kept.1 1 = .ok (.ifCond .lt 14, 3) ∧ 1 + 3 = 4 ∧ ((1 : Nat) : Int) + 14 = ((15 : Nat) : Int) := ⟨by decide +kernel, rfl, rfl⟩
theorem d_X11_kept_15 : decode mX11_kept.1 15 = .ok (.iconst (-1), 1) ∧ 15 + 1 = 16 := ⟨by decide +kernel, rfl⟩
theorem d_X11_kept_16 : decode mX11_kept.1 16 = .ok (.ireturn, 1) := by decide +kernel
theorem d_X11_kept_4 : decode mX11_kept.1 4 = .ok (.iload_n 1, 1) ∧ 4 + 1 = 5 := ⟨by decide +kernel, rfl⟩
theorem d_X11_kept_5 : decode mX11_kept.1 5 = .ok (.aload_n 0, 1) ∧ 5 + 1 = 6 := ⟨by decide +kernel, rfl⟩
theorem d_X11_kept_6 : decode mX11_kept.1 6 = .ok (.getfield 54, 3) ∧ 6 + 3 = 9 := ⟨by decide +kernel, rfl⟩
theorem d_X11_kept_9 : decode mX11_kept.1 9 = .ok (.getfield 179, 3) ∧ 9 + 3 = 12 := ⟨by decide +kernel, rfl⟩
theorem d_X11_kept_12 : decode mX11_kept.1 12 = .ok (.if_icmp .lt 5, 3) ∧ 12 + 3 = 15 ∧ ((12 : Nat) : Int) + 5 = ((17 : Nat) : Int) := ⟨by decide +kernel, rfl, rfl⟩
theorem d_X11_kept_17 : decode mX11_kept.1 17 = .ok (.aload_n 0, 1) ∧ 17 + 1 = 18 := ⟨by decide +kernel, rfl⟩
theorem d_X11_kept_18 : decode mX11_kept.1 18 = .ok (.getfield 54, 3) ∧ 18 + 3 = 21 := ⟨by decide +kernel, rfl⟩
theorem d_X11_kept_21 : decode mX11_kept.1 21 = .ok (.getfield 238, 3) ∧ 21 + 3 = 24 := ⟨by decide +kernel, rfl⟩
theorem d_X11_kept_24 : decode mX11_kept.1 24 = .ok (.iload_n 1, 1) ∧ 24 + 1 = 25 := ⟨by decide +kernel, rfl⟩
theorem d_X11_kept_25 : decode mX11_kept.1 25 = .ok (.iaload, 1) ∧ 25 + 1 = 26 := ⟨by decide +kernel, rfl⟩
theorem d_X11_kept_26 : decode mX11_kept.1 26 = .ok (.istore_n 3, 1) ∧ 26 + 1 = 27 := ⟨by decide +kernel, rfl⟩
theorem d_X11_kept_27 : decode mX11_kept.1 27 = .ok (.iload_n 2, 1) ∧ 27 + 1 = 28 := ⟨by decide +kernel, rfl⟩
theorem d_X11_kept_28 : decode mX11_kept.1 28 = .ok (.tableswitch 59 0 3 #[32, 38, 46, 54], 32) := by decide +kernel
theorem d_X11_kept_60 : decode mX11_kept.1 60 = .ok (.iload_n 3, 1) ∧ 60 + 1 = 61 := ⟨by decide +kernel, rfl⟩
theorem d_X11_kept_61 : decode mX11_kept.1 61 = .ok (.sipush 1000, 3) ∧ 61 + 3 = 64 := ⟨by decide +kernel, rfl⟩
theorem d_X11_kept_64 : decode mX11_kept.1 64 = .ok (.idiv, 1) ∧ 64 + 1 = 65 := ⟨by decide +kernel, rfl⟩
theorem d_X11_kept_65 : decode mX11_kept.1 65 = .ok (.ireturn, 1) := by decide +kernel
theorem d_X11_kept_66 : decode mX11_kept.1 66 = .ok (.iload_n 3, 1) ∧ 66 + 1 = 67 := ⟨by decide +kernel, rfl⟩
theorem d_X11_kept_67 : decode mX11_kept.1 67 = .ok (.bipush 100, 2) ∧ 67 + 2 = 69 := ⟨by decide +kernel, rfl⟩
theorem d_X11_kept_69 : decode mX11_kept.1 69 = .ok (.idiv, 1) ∧ 69 + 1 = 70 := ⟨by decide +kernel, rfl⟩
theorem d_X11_kept_70 : decode mX11_kept.1 70 = .ok (.bipush 10, 2) ∧ 70 + 2 = 72 := ⟨by decide +kernel, rfl⟩
theorem d_X11_kept_72 : decode mX11_kept.1 72 = .ok (.irem, 1) ∧ 72 + 1 = 73 := ⟨by decide +kernel, rfl⟩
theorem d_X11_kept_73 : decode mX11_kept.1 73 = .ok (.ireturn, 1) := by decide +kernel
theorem d_X11_kept_74 : decode mX11_kept.1 74 = .ok (.iload_n 3, 1) ∧ 74 + 1 = 75 := ⟨by decide +kernel, rfl⟩
theorem d_X11_kept_75 : decode mX11_kept.1 75 = .ok (.bipush 10, 2) ∧ 75 + 2 = 77 := ⟨by decide +kernel, rfl⟩
theorem d_X11_kept_77 : decode mX11_kept.1 77 = .ok (.idiv, 1) ∧ 77 + 1 = 78 := ⟨by decide +kernel, rfl⟩
theorem d_X11_kept_78 : decode mX11_kept.1 78 = .ok (.bipush 10, 2) ∧ 78 + 2 = 80 := ⟨by decide +kernel, rfl⟩
theorem d_X11_kept_80 : decode mX11_kept.1 80 = .ok (.irem, 1) ∧ 80 + 1 = 81 := ⟨by decide +kernel, rfl⟩
theorem d_X11_kept_81 : decode mX11_kept.1 81 = .ok (.ireturn, 1) := by decide +kernel
theorem d_X11_kept_82 : decode mX11_kept.1 82 = .ok (.iload_n 3, 1) ∧ 82 + 1 = 83 := ⟨by decide +kernel, rfl⟩
theorem d_X11_kept_83 : decode mX11_kept.1 83 = .ok (.bipush 10, 2) ∧ 83 + 2 = 85 := ⟨by decide +kernel, rfl⟩
theorem d_X11_kept_85 : decode mX11_kept.1 85 = .ok (.irem, 1) ∧ 85 + 1 = 86 := ⟨by decide +kernel, rfl⟩
theorem d_X11_kept_86 : decode mX11_kept.1 86 = .ok (.ireturn, 1) := by decide +kernel
theorem d_X11_kept_87 : decode mX11_kept.1 87 = .ok (.iconst (-1), 1) ∧ 87 + 1 = 88 := ⟨by decide +kernel, rfl⟩
theorem d_X11_kept_88 : decode mX11_kept.1 88 = .ok (.ireturn, 1) := by decide +kernel
set_option maxRecDepth 100000 in
set_option maxHeartbeats 4000000 in
theorem g_X11_kept (l : Launch) (G : xa_C) (v0 v1 v2 : Int) (h : xa_H) : xa_G l G 2 mX11_kept (f_X11_kept v0 v1 v2 h) (fun r => some (some (xI r), h) : Int → Option xa_O) 0 [some (xR v0), some (xI v1), some (xI v2), none] [] h := by
  unfold f_X11_kept
  refine xa_step (xa_iload_n d_X11_kept_0 rfl) ?_
  refine xa_if (xa_iflt d_X11_kept_1) (fun q1 => ?_) (fun q1 => ?_)
  · refine xa_step (xa_iconst d_X11_kept_15 xq_i_m1) ?_
    exact xa_iret d_X11_kept_16 rfl rfl
  · refine xa_step (xa_iload_n d_X11_kept_4 rfl) ?_
    refine xa_step (xa_aload_n d_X11_kept_5 rfl) ?_
    refine xa_getf xR xc_11 (by decide) (fun _ => rfl) xw_590 rfl d_X11_kept_6 (fun x2 _ => ?_)
    refine xa_getf xI xc_9 (by decide) (fun _ => rfl) xw_361 rfl d_X11_kept_9 (fun x3 _ => ?_)
    refine xa_if (xa_icmplt d_X11_kept_12) (fun q4 => ?_) (fun q4 => ?_)
    · refine xa_step (xa_aload_n d_X11_kept_17 rfl) ?_
      refine xa_getf xR xc_11 (by decide) (fun _ => rfl) xw_590 rfl d_X11_kept_18 (fun x5 _ => ?_)
      refine xa_getf xR xc_9 (by decide) (fun _ => rfl) xw_359 rfl d_X11_kept_21 (fun x6 _ => ?_)
      refine xa_step (xa_iload_n d_X11_kept_24 rfl) ?_
      refine xa_iaload d_X11_kept_25 (fun x7 _ => ?_)
      refine xa_step (xa_istore_n (ls' := [some (xR v0), some (xI v1), some (xI v2), some (xI x7)]) d_X11_kept_26 (by decide) rfl) ?_
      refine xa_step (xa_iload_n d_X11_kept_27 rfl) ?_
      refine xa_case (fun q8 => ?_) (fun q8 => ?_)
      · refine xa_step (xa_tabIn (k := 0) d_X11_kept_28 q8 (by decide) (by decide) rfl rfl) ?_
        refine xa_step (xa_iload_n d_X11_kept_60 rfl) ?_
        refine xa_step (xa_sipush d_X11_kept_61 xq_s_1000) ?_
        refine xa_step (xa_idiv d_X11_kept_64 (by decide)) ?_
        exact xa_iret d_X11_kept_65 rfl rfl
      · refine xa_case (fun q9 => ?_) (fun q9 => ?_)
        · refine xa_step (xa_tabIn (k := 1) d_X11_kept_28 q9 (by decide) (by decide) rfl rfl) ?_
          refine xa_step (xa_iload_n d_X11_kept_66 rfl) ?_
          refine xa_step (xa_bipush d_X11_kept_67 xq_b_100) ?_
          refine xa_step (xa_idiv d_X11_kept_69 (by decide)) ?_
          refine xa_step (xa_bipush d_X11_kept_70 xq_b_10) ?_
          refine xa_step (xa_irem d_X11_kept_72 (by decide)) ?_
          exact xa_iret d_X11_kept_73 rfl rfl
        · refine xa_case (fun q10 => ?_) (fun q10 => ?_)
          · refine xa_step (xa_tabIn (k := 2) d_X11_kept_28 q10 (by decide) (by decide) rfl rfl) ?_
            refine xa_step (xa_iload_n d_X11_kept_74 rfl) ?_
            refine xa_step (xa_bipush d_X11_kept_75 xq_b_10) ?_
            refine xa_step (xa_idiv d_X11_kept_77 (by decide)) ?_
            refine xa_step (xa_bipush d_X11_kept_78 xq_b_10) ?_
            refine xa_step (xa_irem d_X11_kept_80 (by decide)) ?_
            exact xa_iret d_X11_kept_81 rfl rfl
          · refine xa_case (fun q11 => ?_) (fun q11 => ?_)
            · refine xa_step (xa_tabIn (k := 3) d_X11_kept_28 q11 (by decide) (by decide) rfl rfl) ?_
              refine xa_step (xa_iload_n d_X11_kept_82 rfl) ?_
              refine xa_step (xa_bipush d_X11_kept_83 xq_b_10) ?_
              refine xa_step (xa_irem d_X11_kept_85 (by decide)) ?_
              exact xa_iret d_X11_kept_86 rfl rfl
            · refine xa_step (xa_tabOut d_X11_kept_28 (by omega) rfl) ?_
              refine xa_step (xa_iconst d_X11_kept_87 xq_i_m1) ?_
              exact xa_iret d_X11_kept_88 rfl rfl
    · refine xa_step (xa_iconst d_X11_kept_15 xq_i_m1) ?_
      exact xa_iret d_X11_kept_16 rfl rfl
theorem ct_X11_kept (l : Launch) (G : xa_C) (v0 v1 v2 : Int) (h : xa_H) (r : Int) (hr : f_X11_kept v0 v1 v2 h = some r) : xa_CT l G 2 mX11_kept yX11_kept [xR v0, xI v1, xI v2] h (some (xI r), h) :=
  xa_met (by decide +kernel) rfl (fun q => by first | rfl | cases q) (Nat.le_of_ble_eq_true rfl) rfl (g_X11_kept l G v0 v1 v2 h) (by rw [hr]; rfl)
abbrev mX11_letterOf : xa_M := (cX11_letterOf, 2, (some (.int)), RX11, false)
theorem d_X11_letterOf_0 : decode mX11_letterOf.1 0 = .ok (.iload_n 0, 1) ∧ 0 + 1 = 1 := ⟨by decide +kernel, rfl⟩
theorem d_X11_letterOf_1 : decode mX11_letterOf.1 1 = .ok (.bipush 25, 2) ∧ 1 + 2 = 3 := ⟨by decide +kernel, rfl⟩
theorem d_X11_letterOf_3 : decode mX11_letterOf.1 3 = .ok (.iconst 5, 1) ∧ 3 + 1 = 4 := ⟨by decide +kernel, rfl⟩
theorem d_X11_letterOf_4 : decode mX11_letterOf.1 4 = .ok (.iload_n 1, 1) ∧ 4 + 1 = 5 := ⟨by decide +kernel, rfl⟩
theorem d_X11_letterOf_5 : decode mX11_letterOf.1 5 = .ok (.imul, 1) ∧ 5 + 1 = 6 := ⟨by decide +kernel, rfl⟩
theorem d_X11_letterOf_6 : decode mX11_letterOf.1 6 = .ok (.isub, 1) ∧ 6 + 1 = 7 := ⟨by decide +kernel, rfl⟩
theorem d_X11_letterOf_7 : decode mX11_letterOf.1 7 = .ok (.ishr, 1) ∧ 7 + 1 = 8 := ⟨by decide +kernel, rfl⟩
theorem d_X11_letterOf_8 : decode mX11_letterOf.1 8 = .ok (.bipush 31, 2) ∧ 8 + 2 = 10 := ⟨by decide +kernel, rfl⟩
theorem d_X11_letterOf_10 : decode mX11_letterOf.1 10 = .ok (.iand, 1) ∧ 10 + 1 = 11 := ⟨by decide +kernel, rfl⟩
theorem d_X11_letterOf_11 : decode mX11_letterOf.1 11 = .ok (.ireturn, 1) := by decide +kernel
set_option maxRecDepth 100000 in
set_option maxHeartbeats 4000000 in
theorem g_X11_letterOf (l : Launch) (G : xa_C) (v0 v1 : Int) (h : xa_H) : xa_G l G 2 mX11_letterOf (f_X11_letterOf v0 v1 h) (fun r => some (some (xI r), h) : Int → Option xa_O) 0 [some (xI v0), some (xI v1)] [] h := by
  unfold f_X11_letterOf
  refine xa_step (xa_iload_n d_X11_letterOf_0 rfl) ?_
  refine xa_step (xa_bipush d_X11_letterOf_1 xq_b_25) ?_
  refine xa_step (xa_iconst d_X11_letterOf_3 xq_i_5) ?_
  refine xa_step (xa_iload_n d_X11_letterOf_4 rfl) ?_
  refine xa_step (xa_imul d_X11_letterOf_5) ?_
  refine xa_step (xa_isub d_X11_letterOf_6) ?_
  refine xa_step (xa_ishr d_X11_letterOf_7) ?_
  refine xa_step (xa_bipush d_X11_letterOf_8 xq_b_31) ?_
  refine xa_step (xa_iand d_X11_letterOf_10) ?_
  exact xa_iret d_X11_letterOf_11 rfl rfl
theorem ct_X11_letterOf (l : Launch) (G : xa_C) (v0 v1 : Int) (h : xa_H) (r : Int) (hr : f_X11_letterOf v0 v1 h = some r) : xa_CT l G 2 mX11_letterOf yX11_letterOf [xI v0, xI v1] h (some (xI r), h) :=
  xa_met (by decide +kernel) rfl (fun q => by first | rfl | cases q) (Nat.le_of_ble_eq_true rfl) rfl (g_X11_letterOf l G v0 v1 h) (by rw [hr]; rfl)
abbrev mX11_letter : xa_M := (cX11_letter, 4, (some (.int)), RX11, false)
theorem d_X11_letter_0 : decode mX11_letter.1 0 = .ok (.iload_n 3, 1) ∧ 0 + 1 = 1 := ⟨by decide +kernel, rfl⟩
theorem d_X11_letter_1 : decode mX11_letter.1 1 = .ok (.ifCond .lt 9, 3) ∧ 1 + 3 = 4 ∧ ((1 : Nat) : Int) + 9 = ((10 : Nat) : Int) := ⟨by decide +kernel, rfl, rfl⟩
theorem d_X11_letter_10 : decode mX11_letter.1 10 = .ok (.iconst (-1), 1) ∧ 10 + 1 = 11 := ⟨by decide +kernel, rfl⟩
theorem d_X11_letter_11 : decode mX11_letter.1 11 = .ok (.ireturn, 1) := by decide +kernel
theorem d_X11_letter_4 : decode mX11_letter.1 4 = .ok (.iload_n 3, 1) ∧ 4 + 1 = 5 := ⟨by decide +kernel, rfl⟩
theorem d_X11_letter_5 : decode mX11_letter.1 5 = .ok (.bipush 6, 2) ∧ 5 + 2 = 7 := ⟨by decide +kernel, rfl⟩
theorem d_X11_letter_7 : decode mX11_letter.1 7 = .ok (.if_icmp .lt 5, 3) ∧ 7 + 3 = 10 ∧ ((7 : Nat) : Int) + 5 = ((12 : Nat) : Int) := ⟨by decide +kernel, rfl, rfl⟩
theorem d_X11_letter_12 : decode mX11_letter.1 12 = .ok (.iload_n 1, 1) ∧ 12 + 1 = 13 := ⟨by decide +kernel, rfl⟩
theorem d_X11_letter_13 : decode mX11_letter.1 13 = .ok (.ifCond .ne 25, 3) ∧ 13 + 3 = 16 ∧ ((13 : Nat) : Int) + 25 = ((38 : Nat) : Int) := ⟨by decide +kernel, rfl, rfl⟩
theorem d_X11_letter_16 : decode mX11_letter.1 16 = .ok (.aload_n 0, 1) ∧ 16 + 1 = 17 := ⟨by decide +kernel, rfl⟩
theorem d_X11_letter_17 : decode mX11_letter.1 17 = .ok (.iload_n 2, 1) ∧ 17 + 1 = 18 := ⟨by decide +kernel, rfl⟩
theorem d_X11_letter_18 : decode mX11_letter.1 18 = .ok (.invokevirtual 188, 3) ∧ 18 + 3 = 21 := ⟨by decide +kernel, rfl⟩
theorem d_X11_letter_21 : decode mX11_letter.1 21 = .ok (.ifCond .eq 17, 3) ∧ 21 + 3 = 24 ∧ ((21 : Nat) : Int) + 17 = ((38 : Nat) : Int) := ⟨by decide +kernel, rfl, rfl⟩
theorem d_X11_letter_38 : decode mX11_letter.1 38 = .ok (.iload_n 1, 1) ∧ 38 + 1 = 39 := ⟨by decide +kernel, rfl⟩
theorem d_X11_letter_39 : decode mX11_letter.1 39 = .ok (.iconst 1, 1) ∧ 39 + 1 = 40 := ⟨by decide +kernel, rfl⟩
theorem d_X11_letter_40 : decode mX11_letter.1 40 = .ok (.if_icmp .ne 25, 3) ∧ 40 + 3 = 43 ∧ ((40 : Nat) : Int) + 25 = ((65 : Nat) : Int) := ⟨by decide +kernel, rfl, rfl⟩
theorem d_X11_letter_43 : decode mX11_letter.1 43 = .ok (.aload_n 0, 1) ∧ 43 + 1 = 44 := ⟨by decide +kernel, rfl⟩
theorem d_X11_letter_44 : decode mX11_letter.1 44 = .ok (.iload_n 2, 1) ∧ 44 + 1 = 45 := ⟨by decide +kernel, rfl⟩
theorem d_X11_letter_45 : decode mX11_letter.1 45 = .ok (.invokevirtual 199, 3) ∧ 45 + 3 = 48 := ⟨by decide +kernel, rfl⟩
theorem d_X11_letter_48 : decode mX11_letter.1 48 = .ok (.ifCond .eq 17, 3) ∧ 48 + 3 = 51 ∧ ((48 : Nat) : Int) + 17 = ((65 : Nat) : Int) := ⟨by decide +kernel, rfl, rfl⟩
theorem d_X11_letter_65 : decode mX11_letter.1 65 = .ok (.iconst (-1), 1) ∧ 65 + 1 = 66 := ⟨by decide +kernel, rfl⟩
theorem d_X11_letter_66 : decode mX11_letter.1 66 = .ok (.ireturn, 1) := by decide +kernel
theorem d_X11_letter_51 : decode mX11_letter.1 51 = .ok (.aload_n 0, 1) ∧ 51 + 1 = 52 := ⟨by decide +kernel, rfl⟩
theorem d_X11_letter_52 : decode mX11_letter.1 52 = .ok (.getfield 47, 3) ∧ 52 + 3 = 55 := ⟨by decide +kernel, rfl⟩
theorem d_X11_letter_55 : decode mX11_letter.1 55 = .ok (.getfield 202, 3) ∧ 55 + 3 = 58 := ⟨by decide +kernel, rfl⟩
theorem d_X11_letter_58 : decode mX11_letter.1 58 = .ok (.iload_n 2, 1) ∧ 58 + 1 = 59 := ⟨by decide +kernel, rfl⟩
theorem d_X11_letter_59 : decode mX11_letter.1 59 = .ok (.iaload, 1) ∧ 59 + 1 = 60 := ⟨by decide +kernel, rfl⟩
theorem d_X11_letter_60 : decode mX11_letter.1 60 = .ok (.iload_n 3, 1) ∧ 60 + 1 = 61 := ⟨by decide +kernel, rfl⟩
theorem d_X11_letter_61 : decode mX11_letter.1 61 = .ok (.invokestatic 195, 3) ∧ 61 + 3 = 64 := ⟨by decide +kernel, rfl⟩
theorem d_X11_letter_64 : decode mX11_letter.1 64 = .ok (.ireturn, 1) := by decide +kernel
set_option maxRecDepth 100000 in
set_option maxHeartbeats 4000000 in
theorem g_X11_letter_J38 (l : Launch) (G : xa_C) (h : xa_H) : ∀ (v0 v1 v2 v3 : Int) , xa_G l G 3 mX11_letter (f_X11_letter_J38 v0 v1 v2 v3 h) (fun r => some (some (xI r), h) : Int → Option xa_O) 38 [some (xR v0), some (xI v1), some (xI v2), some (xI v3)] [] h := by
  intro v0 v1 v2 v3
  unfold f_X11_letter_J38
  refine xa_step (xa_iload_n d_X11_letter_38 rfl) ?_
  refine xa_step (xa_iconst d_X11_letter_39 xq_i_1) ?_
  refine xa_if (xa_icmpne d_X11_letter_40) (fun q6 => ?_) (fun q6 => ?_)
  · refine xa_step (xa_aload_n d_X11_letter_43 rfl) ?_
    refine xa_step (xa_iload_n d_X11_letter_44 rfl) ?_
    refine xa_callVi (as := [xI v2]) (st := []) (M' := mX11_isHolder) (d' := 2) rfl xw_921 xw_923 xw_33 xw_924 xw_161 xh_X11_isHolder rfl ⟨Nat.le_of_ble_eq_true rfl, Nat.le_of_ble_eq_true rfl⟩ (Nat.le_of_ble_eq_true rfl) rfl d_X11_letter_45 (fun r hr => ct_X11_isHolder l G v0 v2 h r hr) (fun r7 _ => ?_)
    refine xa_if (xa_ifeq d_X11_letter_48) (fun q8 => ?_) (fun q8 => ?_)
    · refine xa_step (xa_iconst d_X11_letter_65 xq_i_m1) ?_
      exact xa_iret d_X11_letter_66 rfl rfl
    · refine xa_step (xa_aload_n d_X11_letter_51 rfl) ?_
      refine xa_getf xR xc_11 (by decide) (fun _ => rfl) xw_589 rfl d_X11_letter_52 (fun x9 _ => ?_)
      refine xa_getf xR xc_0 (by decide) (fun _ => rfl) xw_401 rfl d_X11_letter_55 (fun x10 _ => ?_)
      refine xa_step (xa_iload_n d_X11_letter_58 rfl) ?_
      refine xa_iaload d_X11_letter_59 (fun x11 _ => ?_)
      refine xa_step (xa_iload_n d_X11_letter_60 rfl) ?_
      refine xa_callSi (as := [xI x11, xI v3]) (st := []) (M' := mX11_letterOf) (d' := 2) xw_918 xw_919 xw_920 xw_161 xh_X11_letterOf rfl ⟨Nat.le_of_ble_eq_true rfl, Nat.le_of_ble_eq_true rfl⟩ (Nat.le_of_ble_eq_true rfl) rfl d_X11_letter_61 (fun r hr => ct_X11_letterOf l G x11 v3 h r hr) (fun r12 _ => ?_)
      exact xa_iret d_X11_letter_64 rfl rfl
  · refine xa_step (xa_iconst d_X11_letter_65 xq_i_m1) ?_
    exact xa_iret d_X11_letter_66 rfl rfl
theorem d_X11_letter_24 : decode mX11_letter.1 24 = .ok (.aload_n 0, 1) ∧ 24 + 1 = 25 := ⟨by decide +kernel, rfl⟩
theorem d_X11_letter_25 : decode mX11_letter.1 25 = .ok (.getfield 47, 3) ∧ 25 + 3 = 28 := ⟨by decide +kernel, rfl⟩
theorem d_X11_letter_28 : decode mX11_letter.1 28 = .ok (.getfield 192, 3) ∧ 28 + 3 = 31 := ⟨by decide +kernel, rfl⟩
theorem d_X11_letter_31 : decode mX11_letter.1 31 = .ok (.iload_n 2, 1) ∧ 31 + 1 = 32 := ⟨by decide +kernel, rfl⟩
theorem d_X11_letter_32 : decode mX11_letter.1 32 = .ok (.iaload, 1) ∧ 32 + 1 = 33 := ⟨by decide +kernel, rfl⟩
theorem d_X11_letter_33 : decode mX11_letter.1 33 = .ok (.iload_n 3, 1) ∧ 33 + 1 = 34 := ⟨by decide +kernel, rfl⟩
theorem d_X11_letter_34 : decode mX11_letter.1 34 = .ok (.invokestatic 195, 3) ∧ 34 + 3 = 37 := ⟨by decide +kernel, rfl⟩
theorem d_X11_letter_37 : decode mX11_letter.1 37 = .ok (.ireturn, 1) := by decide +kernel
set_option maxRecDepth 100000 in
set_option maxHeartbeats 4000000 in
theorem g_X11_letter (l : Launch) (G : xa_C) (v0 v1 v2 v3 : Int) (h : xa_H) : xa_G l G 3 mX11_letter (f_X11_letter v0 v1 v2 v3 h) (fun r => some (some (xI r), h) : Int → Option xa_O) 0 [some (xR v0), some (xI v1), some (xI v2), some (xI v3)] [] h := by
  unfold f_X11_letter
  refine xa_step (xa_iload_n d_X11_letter_0 rfl) ?_
  refine xa_if (xa_iflt d_X11_letter_1) (fun q1 => ?_) (fun q1 => ?_)
  · refine xa_step (xa_iconst d_X11_letter_10 xq_i_m1) ?_
    exact xa_iret d_X11_letter_11 rfl rfl
  · refine xa_step (xa_iload_n d_X11_letter_4 rfl) ?_
    refine xa_step (xa_bipush d_X11_letter_5 xq_b_6) ?_
    refine xa_if (xa_icmplt d_X11_letter_7) (fun q2 => ?_) (fun q2 => ?_)
    · refine xa_step (xa_iload_n d_X11_letter_12 rfl) ?_
      refine xa_if (xa_ifne d_X11_letter_13) (fun q3 => ?_) (fun q3 => ?_)
      · refine xa_step (xa_aload_n d_X11_letter_16 rfl) ?_
        refine xa_step (xa_iload_n d_X11_letter_17 rfl) ?_
        refine xa_callVi (as := [xI v2]) (st := []) (M' := mX11_isHeld) (d' := 2) rfl xw_914 xw_916 xw_32 xw_917 xw_161 xh_X11_isHeld rfl ⟨Nat.le_of_ble_eq_true rfl, Nat.le_of_ble_eq_true rfl⟩ (Nat.le_of_ble_eq_true rfl) rfl d_X11_letter_18 (fun r hr => ct_X11_isHeld l G v0 v2 h r hr) (fun r4 _ => ?_)
        refine xa_if (xa_ifeq d_X11_letter_21) (fun q5 => ?_) (fun q5 => ?_)
        · exact xa_weak (ls' := [some (xR v0), some (xI v1), some (xI v2), some (xI v3)]) ⟨rfl, rfl, rfl, rfl, trivial⟩ (g_X11_letter_J38 l G h v0 v1 v2 v3)
        · refine xa_step (xa_aload_n d_X11_letter_24 rfl) ?_
          refine xa_getf xR xc_11 (by decide) (fun _ => rfl) xw_589 rfl d_X11_letter_25 (fun x13 _ => ?_)
          refine xa_getf xR xc_0 (by decide) (fun _ => rfl) xw_399 rfl d_X11_letter_28 (fun x14 _ => ?_)
          refine xa_step (xa_iload_n d_X11_letter_31 rfl) ?_
          refine xa_iaload d_X11_letter_32 (fun x15 _ => ?_)
          refine xa_step (xa_iload_n d_X11_letter_33 rfl) ?_
          refine xa_callSi (as := [xI x15, xI v3]) (st := []) (M' := mX11_letterOf) (d' := 2) xw_918 xw_919 xw_920 xw_161 xh_X11_letterOf rfl ⟨Nat.le_of_ble_eq_true rfl, Nat.le_of_ble_eq_true rfl⟩ (Nat.le_of_ble_eq_true rfl) rfl d_X11_letter_34 (fun r hr => ct_X11_letterOf l G x15 v3 h r hr) (fun r16 _ => ?_)
          exact xa_iret d_X11_letter_37 rfl rfl
      · exact xa_weak (ls' := [some (xR v0), some (xI v1), some (xI v2), some (xI v3)]) ⟨rfl, rfl, rfl, rfl, trivial⟩ (g_X11_letter_J38 l G h v0 v1 v2 v3)
    · refine xa_step (xa_iconst d_X11_letter_10 xq_i_m1) ?_
      exact xa_iret d_X11_letter_11 rfl rfl
theorem ct_X11_letter (l : Launch) (G : xa_C) (v0 v1 v2 v3 : Int) (h : xa_H) (r : Int) (hr : f_X11_letter v0 v1 v2 v3 h = some r) : xa_CT l G 3 mX11_letter yX11_letter [xR v0, xI v1, xI v2, xI v3] h (some (xI r), h) :=
  xa_met (by decide +kernel) rfl (fun q => by first | rfl | cases q) (Nat.le_of_ble_eq_true rfl) rfl (g_X11_letter l G v0 v1 v2 v3 h) (by rw [hr]; rfl)
abbrev mX8_addMove : xa_M := (cX8_addMove, 4, none, RX8, false)
theorem d_X8_addMove_0 : decode mX8_addMove.1 0 = .ok (.aload_n 0, 1) ∧ 0 + 1 = 1 := ⟨by decide +kernel, rfl⟩
theorem d_X8_addMove_1 : decode mX8_addMove.1 1 = .ok (.getfield 15, 3) ∧ 1 + 3 = 4 := ⟨by decide +kernel, rfl⟩
theorem d_X8_addMove_4 : decode mX8_addMove.1 4 = .ok (.iconst 3, 1) ∧ 4 + 1 = 5 := ⟨by decide +kernel, rfl⟩
theorem d_X8_addMove_5 : decode mX8_addMove.1 5 = .ok (.iadd, 1) ∧ 5 + 1 = 6 := ⟨by decide +kernel, rfl⟩
theorem d_X8_addMove_6 : decode mX8_addMove.1 6 = .ok (.aload_n 0, 1) ∧ 6 + 1 = 7 := ⟨by decide +kernel, rfl⟩
theorem d_X8_addMove_7 : decode mX8_addMove.1 7 = .ok (.getfield 9, 3) ∧ 7 + 3 = 10 := ⟨by decide +kernel, rfl⟩
theorem d_X8_addMove_10 : decode mX8_addMove.1 10 = .ok (.arraylength, 1) ∧ 10 + 1 = 11 := ⟨by decide +kernel, rfl⟩
theorem d_X8_addMove_11 : decode mX8_addMove.1 11 = .ok (.if_icmp .gt 47, 3) ∧ 11 + 3 = 14 ∧ ((11 : Nat) : Int) + 47 = ((58 : Nat) : Int) := ⟨by decide +kernel, rfl, rfl⟩
theorem d_X8_addMove_58 : decode mX8_addMove.1 58 = .ok (.return_, 1) := by decide +kernel
theorem d_X8_addMove_14 : decode mX8_addMove.1 14 = .ok (.aload_n 0, 1) ∧ 14 + 1 = 15 := ⟨by decide +kernel, rfl⟩
theorem d_X8_addMove_15 : decode mX8_addMove.1 15 = .ok (.getfield 9, 3) ∧ 15 + 3 = 18 := ⟨by decide +kernel, rfl⟩
theorem d_X8_addMove_18 : decode mX8_addMove.1 18 = .ok (.aload_n 0, 1) ∧ 18 + 1 = 19 := ⟨by decide +kernel, rfl⟩
theorem d_X8_addMove_19 : decode mX8_addMove.1 19 = .ok (.getfield 15, 3) ∧ 19 + 3 = 22 := ⟨by decide +kernel, rfl⟩
theorem d_X8_addMove_22 : decode mX8_addMove.1 22 = .ok (.iload_n 1, 1) ∧ 22 + 1 = 23 := ⟨by decide +kernel, rfl⟩
theorem d_X8_addMove_23 : decode mX8_addMove.1 23 = .ok (.iastore, 1) ∧ 23 + 1 = 24 := ⟨by decide +kernel, rfl⟩
theorem d_X8_addMove_24 : decode mX8_addMove.1 24 = .ok (.aload_n 0, 1) ∧ 24 + 1 = 25 := ⟨by decide +kernel, rfl⟩
theorem d_X8_addMove_25 : decode mX8_addMove.1 25 = .ok (.getfield 9, 3) ∧ 25 + 3 = 28 := ⟨by decide +kernel, rfl⟩
theorem d_X8_addMove_28 : decode mX8_addMove.1 28 = .ok (.aload_n 0, 1) ∧ 28 + 1 = 29 := ⟨by decide +kernel, rfl⟩
theorem d_X8_addMove_29 : decode mX8_addMove.1 29 = .ok (.getfield 15, 3) ∧ 29 + 3 = 32 := ⟨by decide +kernel, rfl⟩
theorem d_X8_addMove_32 : decode mX8_addMove.1 32 = .ok (.iconst 1, 1) ∧ 32 + 1 = 33 := ⟨by decide +kernel, rfl⟩
theorem d_X8_addMove_33 : decode mX8_addMove.1 33 = .ok (.iadd, 1) ∧ 33 + 1 = 34 := ⟨by decide +kernel, rfl⟩
theorem d_X8_addMove_34 : decode mX8_addMove.1 34 = .ok (.iload_n 2, 1) ∧ 34 + 1 = 35 := ⟨by decide +kernel, rfl⟩
theorem d_X8_addMove_35 : decode mX8_addMove.1 35 = .ok (.iastore, 1) ∧ 35 + 1 = 36 := ⟨by decide +kernel, rfl⟩
theorem d_X8_addMove_36 : decode mX8_addMove.1 36 = .ok (.aload_n 0, 1) ∧ 36 + 1 = 37 := ⟨by decide +kernel, rfl⟩
theorem d_X8_addMove_37 : decode mX8_addMove.1 37 = .ok (.getfield 9, 3) ∧ 37 + 3 = 40 := ⟨by decide +kernel, rfl⟩
theorem d_X8_addMove_40 : decode mX8_addMove.1 40 = .ok (.aload_n 0, 1) ∧ 40 + 1 = 41 := ⟨by decide +kernel, rfl⟩
theorem d_X8_addMove_41 : decode mX8_addMove.1 41 = .ok (.getfield 15, 3) ∧ 41 + 3 = 44 := ⟨by decide +kernel, rfl⟩
theorem d_X8_addMove_44 : decode mX8_addMove.1 44 = .ok (.iconst 2, 1) ∧ 44 + 1 = 45 := ⟨by decide +kernel, rfl⟩
theorem d_X8_addMove_45 : decode mX8_addMove.1 45 = .ok (.iadd, 1) ∧ 45 + 1 = 46 := ⟨by decide +kernel, rfl⟩
theorem d_X8_addMove_46 : decode mX8_addMove.1 46 = .ok (.iload_n 3, 1) ∧ 46 + 1 = 47 := ⟨by decide +kernel, rfl⟩
theorem d_X8_addMove_47 : decode mX8_addMove.1 47 = .ok (.iastore, 1) ∧ 47 + 1 = 48 := ⟨by decide +kernel, rfl⟩
theorem d_X8_addMove_48 : decode mX8_addMove.1 48 = .ok (.aload_n 0, 1) ∧ 48 + 1 = 49 := ⟨by decide +kernel, rfl⟩
theorem d_X8_addMove_49 : decode mX8_addMove.1 49 = .ok (.dup, 1) ∧ 49 + 1 = 50 := ⟨by decide +kernel, rfl⟩
theorem d_X8_addMove_50 : decode mX8_addMove.1 50 = .ok (.getfield 15, 3) ∧ 50 + 3 = 53 := ⟨by decide +kernel, rfl⟩
theorem d_X8_addMove_53 : decode mX8_addMove.1 53 = .ok (.iconst 3, 1) ∧ 53 + 1 = 54 := ⟨by decide +kernel, rfl⟩
theorem d_X8_addMove_54 : decode mX8_addMove.1 54 = .ok (.iadd, 1) ∧ 54 + 1 = 55 := ⟨by decide +kernel, rfl⟩
theorem d_X8_addMove_55 : decode mX8_addMove.1 55 = .ok (.putfield 15, 3) ∧ 55 + 3 = 58 := ⟨by decide +kernel, rfl⟩
set_option maxRecDepth 100000 in
set_option maxHeartbeats 4000000 in
theorem g_X8_addMove (l : Launch) (G : xa_C) (v0 v1 v2 v3 : Int) (h : xa_H) : xa_G l G 2 mX8_addMove (f_X8_addMove v0 v1 v2 v3 h) (fun r => some (none, r) : xa_H → Option xa_O) 0 [some (xR v0), some (xI v1), some (xI v2), some (xI v3)] [] h := by
  unfold f_X8_addMove
  refine xa_step (xa_aload_n d_X8_addMove_0 rfl) ?_
  refine xa_getf xI xc_8 (by decide) (fun _ => rfl) xw_1060 rfl d_X8_addMove_1 (fun x1 _ => ?_)
  refine xa_step (xa_iconst d_X8_addMove_4 xq_i_3) ?_
  refine xa_step (xa_iadd d_X8_addMove_5) ?_
  refine xa_step (xa_aload_n d_X8_addMove_6 rfl) ?_
  refine xa_getf xR xc_8 (by decide) (fun _ => rfl) xw_1059 rfl d_X8_addMove_7 (fun x2 _ => ?_)
  refine xa_alen d_X8_addMove_10 (fun x3 _ => ?_)
  refine xa_if (xa_icmpgt d_X8_addMove_11) (fun q4 => ?_) (fun q4 => ?_)
  · exact xa_vret d_X8_addMove_58 rfl rfl
  · refine xa_step (xa_aload_n d_X8_addMove_14 rfl) ?_
    refine xa_getf xR xc_8 (by decide) (fun _ => rfl) xw_1059 rfl d_X8_addMove_15 (fun x5 _ => ?_)
    refine xa_step (xa_aload_n d_X8_addMove_18 rfl) ?_
    refine xa_getf xI xc_8 (by decide) (fun _ => rfl) xw_1060 rfl d_X8_addMove_19 (fun x6 _ => ?_)
    refine xa_step (xa_iload_n d_X8_addMove_22 rfl) ?_
    refine xa_iastore2 d_X8_addMove_23 (fun h7 _ => ?_)
    refine xa_step (xa_aload_n d_X8_addMove_24 rfl) ?_
    refine xa_getf xR xc_8 (by decide) (fun _ => rfl) xw_1059 rfl d_X8_addMove_25 (fun x8 _ => ?_)
    refine xa_step (xa_aload_n d_X8_addMove_28 rfl) ?_
    refine xa_getf xI xc_8 (by decide) (fun _ => rfl) xw_1060 rfl d_X8_addMove_29 (fun x9 _ => ?_)
    refine xa_step (xa_iconst d_X8_addMove_32 xq_i_1) ?_
    refine xa_step (xa_iadd d_X8_addMove_33) ?_
    refine xa_step (xa_iload_n d_X8_addMove_34 rfl) ?_
    refine xa_iastore2 d_X8_addMove_35 (fun h10 _ => ?_)
    refine xa_step (xa_aload_n d_X8_addMove_36 rfl) ?_
    refine xa_getf xR xc_8 (by decide) (fun _ => rfl) xw_1059 rfl d_X8_addMove_37 (fun x11 _ => ?_)
    refine xa_step (xa_aload_n d_X8_addMove_40 rfl) ?_
    refine xa_getf xI xc_8 (by decide) (fun _ => rfl) xw_1060 rfl d_X8_addMove_41 (fun x12 _ => ?_)
    refine xa_step (xa_iconst d_X8_addMove_44 xq_i_2) ?_
    refine xa_step (xa_iadd d_X8_addMove_45) ?_
    refine xa_step (xa_iload_n d_X8_addMove_46 rfl) ?_
    refine xa_iastore2 d_X8_addMove_47 (fun h13 _ => ?_)
    refine xa_step (xa_aload_n d_X8_addMove_48 rfl) ?_
    refine xa_step (xa_dup d_X8_addMove_49 (xa_tR _)) ?_
    refine xa_getf xI xc_8 (by decide) (fun _ => rfl) xw_1060 rfl d_X8_addMove_50 (fun x14 _ => ?_)
    refine xa_step (xa_iconst d_X8_addMove_53 xq_i_3) ?_
    refine xa_step (xa_iadd d_X8_addMove_54) ?_
    refine xa_putf2 (tg := xI) xc_8 (by decide) (fun _ => rfl) rfl (fun c hc => xa_fitI c hc) xw_1060 rfl d_X8_addMove_55 (fun h15 _ => ?_)
    exact xa_vret d_X8_addMove_58 rfl rfl
theorem ct_X8_addMove (l : Launch) (G : xa_C) (v0 v1 v2 v3 : Int) (h : xa_H) (r : xa_H) (hr : f_X8_addMove v0 v1 v2 v3 h = some r) : xa_CT l G 2 mX8_addMove yX8_addMove [xR v0, xI v1, xI v2, xI v3] h (none, r) :=
  xa_met (by decide +kernel) rfl (fun q => by first | rfl | cases q) (Nat.le_of_ble_eq_true rfl) rfl (g_X8_addMove l G v0 v1 v2 v3 h) (by rw [hr]; rfl)
abbrev mX8_addMoves : xa_M := (cX8_addMoves, 6, none, RX8, false)
theorem d_X8_addMoves_0 : decode mX8_addMoves.1 0 = .ok (.iconst 0, 1) ∧ 0 + 1 = 1 := ⟨by decide +kernel, rfl⟩
theorem d_X8_addMoves_1 : decode mX8_addMoves.1 1 = .ok (.istore_n 3, 1) ∧ 1 + 1 = 2 := ⟨by decide +kernel, rfl⟩
theorem d_X8_addMoves_2 : decode mX8_addMoves.1 2 = .ok (.iload_n 3, 1) ∧ 2 + 1 = 3 := ⟨by decide +kernel, rfl⟩
theorem d_X8_addMoves_3 : decode mX8_addMoves.1 3 = .ok (.aload_n 0, 1) ∧ 3 + 1 = 4 := ⟨by decide +kernel, rfl⟩
theorem d_X8_addMoves_4 : decode mX8_addMoves.1 4 = .ok (.getfield 33, 3) ∧ 4 + 3 = 7 := ⟨by decide +kernel, rfl⟩
theorem d_X8_addMoves_7 : decode mX8_addMoves.1 7 = .ok (.if_icmp .ge 115, 3) ∧ 7 + 3 = 10 ∧ ((7 : Nat) : Int) + 115 = ((122 : Nat) : Int) := ⟨by decide +kernel, rfl, rfl⟩
theorem d_X8_addMoves_10 : decode mX8_addMoves.1 10 = .ok (.iload_n 3, 1) ∧ 10 + 1 = 11 := ⟨by decide +kernel, rfl⟩
theorem d_X8_addMoves_11 : decode mX8_addMoves.1 11 = .ok (.iconst 1, 1) ∧ 11 + 1 = 12 := ⟨by decide +kernel, rfl⟩
theorem d_X8_addMoves_12 : decode mX8_addMoves.1 12 = .ok (.iadd, 1) ∧ 12 + 1 = 13 := ⟨by decide +kernel, rfl⟩
theorem d_X8_addMoves_13 : decode mX8_addMoves.1 13 = .ok (.istore 4, 2) ∧ 13 + 2 = 15 := ⟨by decide +kernel, rfl⟩
theorem d_X8_addMoves_15 : decode mX8_addMoves.1 15 = .ok (.iload 4, 2) ∧ 15 + 2 = 17 := ⟨by decide +kernel, rfl⟩
theorem d_X8_addMoves_17 : decode mX8_addMoves.1 17 = .ok (.aload_n 0, 1) ∧ 17 + 1 = 18 := ⟨by decide +kernel, rfl⟩
theorem d_X8_addMoves_18 : decode mX8_addMoves.1 18 = .ok (.getfield 33, 3) ∧ 18 + 3 = 21 := ⟨by decide +kernel, rfl⟩
theorem d_X8_addMoves_21 : decode mX8_addMoves.1 21 = .ok (.if_icmp .ge 95, 3) ∧ 21 + 3 = 24 ∧ ((21 : Nat) : Int) + 95 = ((116 : Nat) : Int) := ⟨by decide +kernel, rfl, rfl⟩
theorem d_X8_addMoves_24 : decode mX8_addMoves.1 24 = .ok (.aload_n 1, 1) ∧ 24 + 1 = 25 := ⟨by decide +kernel, rfl⟩
theorem d_X8_addMoves_25 : decode mX8_addMoves.1 25 = .ok (.iload_n 3, 1) ∧ 25 + 1 = 26 := ⟨by decide +kernel, rfl⟩
theorem d_X8_addMoves_26 : decode mX8_addMoves.1 26 = .ok (.iload 4, 2) ∧ 26 + 2 = 28 := ⟨by decide +kernel, rfl⟩
theorem d_X8_addMoves_28 : decode mX8_addMoves.1 28 = .ok (.invokevirtual 54, 3) ∧ 28 + 3 = 31 := ⟨by decide +kernel, rfl⟩
theorem d_X8_addMoves_31 : decode mX8_addMoves.1 31 = .ok (.ifCond .eq 6, 3) ∧ 31 + 3 = 34 ∧ ((31 : Nat) : Int) + 6 = ((37 : Nat) : Int) := ⟨by decide +kernel, rfl, rfl⟩
theorem d_X8_addMoves_37 : decode mX8_addMoves.1 37 = .ok (.aload_n 0, 1) ∧ 37 + 1 = 38 := ⟨by decide +kernel, rfl⟩
theorem d_X8_addMoves_38 : decode mX8_addMoves.1 38 = .ok (.iload_n 3, 1) ∧ 38 + 1 = 39 := ⟨by decide +kernel, rfl⟩
theorem d_X8_addMoves_39 : decode mX8_addMoves.1 39 = .ok (.iload 4, 2) ∧ 39 + 2 = 41 := ⟨by decide +kernel, rfl⟩
theorem d_X8_addMoves_41 : decode mX8_addMoves.1 41 = .ok (.iconst (-1), 1) ∧ 41 + 1 = 42 := ⟨by decide +kernel, rfl⟩
theorem d_X8_addMoves_42 : decode mX8_addMoves.1 42 = .ok (.invokevirtual 58, 3) ∧ 42 + 3 = 45 := ⟨by decide +kernel, rfl⟩
theorem d_X8_addMoves_45 : decode mX8_addMoves.1 45 = .ok (.iload 4, 2) ∧ 45 + 2 = 47 := ⟨by decide +kernel, rfl⟩
theorem d_X8_addMoves_47 : decode mX8_addMoves.1 47 = .ok (.iconst 1, 1) ∧ 47 + 1 = 48 := ⟨by decide +kernel, rfl⟩
theorem d_X8_addMoves_48 : decode mX8_addMoves.1 48 = .ok (.iadd, 1) ∧ 48 + 1 = 49 := ⟨by decide +kernel, rfl⟩
theorem d_X8_addMoves_49 : decode mX8_addMoves.1 49 = .ok (.istore 5, 2) ∧ 49 + 2 = 51 := ⟨by decide +kernel, rfl⟩
theorem d_X8_addMoves_51 : decode mX8_addMoves.1 51 = .ok (.iload_n 2, 1) ∧ 51 + 1 = 52 := ⟨by decide +kernel, rfl⟩
theorem d_X8_addMoves_52 : decode mX8_addMoves.1 52 = .ok (.iconst 3, 1) ∧ 52 + 1 = 53 := ⟨by decide +kernel, rfl⟩
theorem d_X8_addMoves_53 : decode mX8_addMoves.1 53 = .ok (.if_icmp .ne 57, 3) ∧ 53 + 3 = 56 ∧ ((53 : Nat) : Int) + 57 = ((110 : Nat) : Int) := ⟨by decide +kernel, rfl, rfl⟩
theorem d_X8_addMoves_56 : decode mX8_addMoves.1 56 = .ok (.iload 5, 2) ∧ 56 + 2 = 58 := ⟨by decide +kernel, rfl⟩
theorem d_X8_addMoves_58 : decode mX8_addMoves.1 58 = .ok (.aload_n 0, 1) ∧ 58 + 1 = 59 := ⟨by decide +kernel, rfl⟩
theorem d_X8_addMoves_59 : decode mX8_addMoves.1 59 = .ok (.getfield 33, 3) ∧ 59 + 3 = 62 := ⟨by decide +kernel, rfl⟩
theorem d_X8_addMoves_62 : decode mX8_addMoves.1 62 = .ok (.if_icmp .ge 48, 3) ∧ 62 + 3 = 65 ∧ ((62 : Nat) : Int) + 48 = ((110 : Nat) : Int) := ⟨by decide +kernel, rfl, rfl⟩
theorem d_X8_addMoves_65 : decode mX8_addMoves.1 65 = .ok (.aload_n 1, 1) ∧ 65 + 1 = 66 := ⟨by decide +kernel, rfl⟩
theorem d_X8_addMoves_66 : decode mX8_addMoves.1 66 = .ok (.iload_n 3, 1) ∧ 66 + 1 = 67 := ⟨by decide +kernel, rfl⟩
theorem d_X8_addMoves_67 : decode mX8_addMoves.1 67 = .ok (.iload 5, 2) ∧ 67 + 2 = 69 := ⟨by decide +kernel, rfl⟩
theorem d_X8_addMoves_69 : decode mX8_addMoves.1 69 = .ok (.invokevirtual 54, 3) ∧ 69 + 3 = 72 := ⟨by decide +kernel, rfl⟩
theorem d_X8_addMoves_72 : decode mX8_addMoves.1 72 = .ok (.ifCond .ne 32, 3) ∧ 72 + 3 = 75 ∧ ((72 : Nat) : Int) + 32 = ((104 : Nat) : Int) := ⟨by decide +kernel, rfl, rfl⟩
theorem d_X8_addMoves_75 : decode mX8_addMoves.1 75 = .ok (.aload_n 1, 1) ∧ 75 + 1 = 76 := ⟨by decide +kernel, rfl⟩
theorem d_X8_addMoves_76 : decode mX8_addMoves.1 76 = .ok (.iload 4, 2) ∧ 76 + 2 = 78 := ⟨by decide +kernel, rfl⟩
theorem d_X8_addMoves_78 : decode mX8_addMoves.1 78 = .ok (.iload 5, 2) ∧ 78 + 2 = 80 := ⟨by decide +kernel, rfl⟩
theorem d_X8_addMoves_80 : decode mX8_addMoves.1 80 = .ok (.invokevirtual 54, 3) ∧ 80 + 3 = 83 := ⟨by decide +kernel, rfl⟩
theorem d_X8_addMoves_83 : decode mX8_addMoves.1 83 = .ok (.ifCond .ne 21, 3) ∧ 83 + 3 = 86 ∧ ((83 : Nat) : Int) + 21 = ((104 : Nat) : Int) := ⟨by decide +kernel, rfl, rfl⟩
theorem d_X8_addMoves_86 : decode mX8_addMoves.1 86 = .ok (.aload_n 0, 1) ∧ 86 + 1 = 87 := ⟨by decide +kernel, rfl⟩
theorem d_X8_addMoves_87 : decode mX8_addMoves.1 87 = .ok (.iload_n 3, 1) ∧ 87 + 1 = 88 := ⟨by decide +kernel, rfl⟩
theorem d_X8_addMoves_88 : decode mX8_addMoves.1 88 = .ok (.iload 4, 2) ∧ 88 + 2 = 90 := ⟨by decide +kernel, rfl⟩
theorem d_X8_addMoves_90 : decode mX8_addMoves.1 90 = .ok (.iload 5, 2) ∧ 90 + 2 = 92 := ⟨by decide +kernel, rfl⟩
theorem d_X8_addMoves_92 : decode mX8_addMoves.1 92 = .ok (.invokevirtual 58, 3) ∧ 92 + 3 = 95 := ⟨by decide +kernel, rfl⟩
theorem d_X8_addMoves_95 : decode mX8_addMoves.1 95 = .ok (.aload_n 0, 1) ∧ 95 + 1 = 96 := ⟨by decide +kernel, rfl⟩
theorem d_X8_addMoves_96 : decode mX8_addMoves.1 96 = .ok (.iload_n 3, 1) ∧ 96 + 1 = 97 := ⟨by decide +kernel, rfl⟩
theorem d_X8_addMoves_97 : decode mX8_addMoves.1 97 = .ok (.iload 5, 2) ∧ 97 + 2 = 99 := ⟨by decide +kernel, rfl⟩
theorem d_X8_addMoves_99 : decode mX8_addMoves.1 99 = .ok (.iload 4, 2) ∧ 99 + 2 = 101 := ⟨by decide +kernel, rfl⟩
theorem d_X8_addMoves_101 : decode mX8_addMoves.1 101 = .ok (.invokevirtual 58, 3) ∧ 101 + 3 = 104 := ⟨by decide +kernel, rfl⟩
theorem d_X8_addMoves_104 : decode mX8_addMoves.1 104 = .ok (.iinc 5 1, 3) ∧ 104 + 3 = 107 := ⟨by decide +kernel, rfl⟩
theorem d_X8_addMoves_107 : decode mX8_addMoves.1 107 = .ok (.goto (-56), 3) ∧ ((107 : Nat) : Int) + (-56) = ((51 : Nat) : Int) := ⟨by decide +kernel, rfl⟩
set_option maxRecDepth 100000 in
set_option maxHeartbeats 4000000 in
theorem g_X8_addMoves_L51 (l : Launch) (G : xa_C) (c0 c1 c2 c3 c4 : Int) (K : (Int × xa_H) ⊕ (xa_H) → Option xa_O) (hb : ∀ (v5 : Int) (h : xa_H), xa_G l G 3 mX8_addMoves (some (Sum.inl ((v5, h)))) K 51 [some (xR c0), some (xR c1), some (xI c2), some (xI c3), some (xI c4), some (xI v5)] [] h) (hx : ∀ (h : xa_H), xa_G l G 3 mX8_addMoves (some (Sum.inr h)) K 110 [some (xR c0), some (xR c1), some (xI c2), some (xI c3), some (xI c4), none] [] h) : ∀ (v5 : Int) (h : xa_H), xa_G l G 3 mX8_addMoves (f_X8_addMoves_L51 c0 c1 c2 c3 c4 v5 h) K 51 [some (xR c0), some (xR c1), some (xI c2), some (xI c3), some (xI c4), some (xI v5)] [] h := by
  intro v5 h
  unfold f_X8_addMoves_L51
  refine xa_step (xa_iload_n d_X8_addMoves_51 rfl) ?_
  refine xa_step (xa_iconst d_X8_addMoves_52 xq_i_3) ?_
  refine xa_if (xa_icmpne d_X8_addMoves_53) (fun q8 => ?_) (fun q8 => ?_)
  · refine xa_step (xa_iload d_X8_addMoves_56 rfl) ?_
    refine xa_step (xa_aload_n d_X8_addMoves_58 rfl) ?_
    refine xa_getf xI xc_8 (by decide) (fun _ => rfl) xw_1058 rfl d_X8_addMoves_59 (fun x9 _ => ?_)
    refine xa_if (xa_icmpge d_X8_addMoves_62) (fun q10 => ?_) (fun q10 => ?_)
    · refine xa_step (xa_aload_n d_X8_addMoves_65 rfl) ?_
      refine xa_step (xa_iload_n d_X8_addMoves_66 rfl) ?_
      refine xa_step (xa_iload d_X8_addMoves_67 rfl) ?_
      refine xa_callVi (as := [xI c3, xI v5]) (st := []) (M' := mX0_areFeuding) (d' := 2) rfl xw_1044 xw_763 xw_764 xw_765 xw_169 xh_X0_areFeuding rfl ⟨Nat.le_of_ble_eq_true rfl, Nat.le_of_ble_eq_true rfl⟩ (Nat.le_of_ble_eq_true rfl) rfl d_X8_addMoves_69 (fun r hr => ct_X0_areFeuding l G c1 c3 v5 h r hr) (fun r11 _ => ?_)
      refine xa_if (xa_ifne d_X8_addMoves_72) (fun q12 => ?_) (fun q12 => ?_)
      · refine xa_step (xa_aload_n d_X8_addMoves_75 rfl) ?_
        refine xa_step (xa_iload d_X8_addMoves_76 rfl) ?_
        refine xa_step (xa_iload d_X8_addMoves_78 rfl) ?_
        refine xa_callVi (as := [xI c4, xI v5]) (st := []) (M' := mX0_areFeuding) (d' := 2) rfl xw_1044 xw_763 xw_764 xw_765 xw_169 xh_X0_areFeuding rfl ⟨Nat.le_of_ble_eq_true rfl, Nat.le_of_ble_eq_true rfl⟩ (Nat.le_of_ble_eq_true rfl) rfl d_X8_addMoves_80 (fun r hr => ct_X0_areFeuding l G c1 c4 v5 h r hr) (fun r13 _ => ?_)
        refine xa_if (xa_ifne d_X8_addMoves_83) (fun q14 => ?_) (fun q14 => ?_)
        · refine xa_step (xa_aload_n d_X8_addMoves_86 rfl) ?_
          refine xa_step (xa_iload_n d_X8_addMoves_87 rfl) ?_
          refine xa_step (xa_iload d_X8_addMoves_88 rfl) ?_
          refine xa_step (xa_iload d_X8_addMoves_90 rfl) ?_
          refine xa_callVV (as := [xI c3, xI c4, xI v5]) (st := []) (M' := mX8_addMove) (d' := 2) rfl xw_1045 xw_1047 xw_43 xw_1048 xw_181 xh_X8_addMove rfl ⟨Nat.le_of_ble_eq_true rfl, Nat.le_of_ble_eq_true rfl⟩ (Nat.le_of_ble_eq_true rfl) rfl d_X8_addMoves_92 (fun r hr => ct_X8_addMove l G c0 c3 c4 v5 h r hr) (fun r15 _ => ?_)
          refine xa_step (xa_aload_n d_X8_addMoves_95 rfl) ?_
          refine xa_step (xa_iload_n d_X8_addMoves_96 rfl) ?_
          refine xa_step (xa_iload d_X8_addMoves_97 rfl) ?_
          refine xa_step (xa_iload d_X8_addMoves_99 rfl) ?_
          refine xa_callVV (as := [xI c3, xI v5, xI c4]) (st := []) (M' := mX8_addMove) (d' := 2) rfl xw_1045 xw_1047 xw_43 xw_1048 xw_181 xh_X8_addMove rfl ⟨Nat.le_of_ble_eq_true rfl, Nat.le_of_ble_eq_true rfl⟩ (Nat.le_of_ble_eq_true rfl) rfl d_X8_addMoves_101 (fun r hr => ct_X8_addMove l G c0 c3 v5 c4 r15 r hr) (fun r16 _ => ?_)
          refine xa_step (xa_iinc (ls' := [some (xR c0), some (xR c1), some (xI c2), some (xI c3), some (xI c4), some (xI (w32 (v5 + 1)))]) d_X8_addMoves_104 xq_i_1 rfl (by decide) rfl) ?_
          refine xa_step (xa_goto d_X8_addMoves_107) ?_
          exact xa_weak (ls' := [some (xR c0), some (xR c1), some (xI c2), some (xI c3), some (xI c4), some (xI (w32 (v5 + 1)))]) ⟨rfl, rfl, rfl, rfl, rfl, rfl, trivial⟩ (hb (w32 (v5 + 1)) r16)
        · refine xa_step (xa_iinc (ls' := [some (xR c0), some (xR c1), some (xI c2), some (xI c3), some (xI c4), some (xI (w32 (v5 + 1)))]) d_X8_addMoves_104 xq_i_1 rfl (by decide) rfl) ?_
          refine xa_step (xa_goto d_X8_addMoves_107) ?_
          exact xa_weak (ls' := [some (xR c0), some (xR c1), some (xI c2), some (xI c3), some (xI c4), some (xI (w32 (v5 + 1)))]) ⟨rfl, rfl, rfl, rfl, rfl, rfl, trivial⟩ (hb (w32 (v5 + 1)) h)
      · refine xa_step (xa_iinc (ls' := [some (xR c0), some (xR c1), some (xI c2), some (xI c3), some (xI c4), some (xI (w32 (v5 + 1)))]) d_X8_addMoves_104 xq_i_1 rfl (by decide) rfl) ?_
        refine xa_step (xa_goto d_X8_addMoves_107) ?_
        exact xa_weak (ls' := [some (xR c0), some (xR c1), some (xI c2), some (xI c3), some (xI c4), some (xI (w32 (v5 + 1)))]) ⟨rfl, rfl, rfl, rfl, rfl, rfl, trivial⟩ (hb (w32 (v5 + 1)) h)
    · exact xa_weak (ls' := [some (xR c0), some (xR c1), some (xI c2), some (xI c3), some (xI c4), none]) ⟨rfl, rfl, rfl, rfl, rfl, trivial⟩ (hx h)
  · exact xa_weak (ls' := [some (xR c0), some (xR c1), some (xI c2), some (xI c3), some (xI c4), none]) ⟨rfl, rfl, rfl, rfl, rfl, trivial⟩ (hx h)
theorem d_X8_addMoves_110 : decode mX8_addMoves.1 110 = .ok (.iinc 4 1, 3) ∧ 110 + 3 = 113 := ⟨by decide +kernel, rfl⟩
theorem d_X8_addMoves_113 : decode mX8_addMoves.1 113 = .ok (.goto (-98), 3) ∧ ((113 : Nat) : Int) + (-98) = ((15 : Nat) : Int) := ⟨by decide +kernel, rfl⟩
theorem d_X8_addMoves_34 : decode mX8_addMoves.1 34 = .ok (.goto 76, 3) ∧ ((34 : Nat) : Int) + 76 = ((110 : Nat) : Int) := ⟨by decide +kernel, rfl⟩
set_option maxRecDepth 100000 in
set_option maxHeartbeats 4000000 in
theorem g_X8_addMoves_L15 (l : Launch) (G : xa_C) (c0 c1 c2 c3 : Int) (K : (Int × xa_H) ⊕ (xa_H) → Option xa_O) (hb : ∀ (v4 : Int) (h : xa_H), xa_G l G 3 mX8_addMoves (some (Sum.inl ((v4, h)))) K 15 [some (xR c0), some (xR c1), some (xI c2), some (xI c3), some (xI v4), none] [] h) (hx : ∀ (h : xa_H), xa_G l G 3 mX8_addMoves (some (Sum.inr h)) K 116 [some (xR c0), some (xR c1), some (xI c2), some (xI c3), none, none] [] h) : ∀ (v4 : Int) (h : xa_H), xa_G l G 3 mX8_addMoves (f_X8_addMoves_L15 c0 c1 c2 c3 v4 h) K 15 [some (xR c0), some (xR c1), some (xI c2), some (xI c3), some (xI v4), none] [] h := by
  intro v4 h
  unfold f_X8_addMoves_L15
  refine xa_step (xa_iload d_X8_addMoves_15 rfl) ?_
  refine xa_step (xa_aload_n d_X8_addMoves_17 rfl) ?_
  refine xa_getf xI xc_8 (by decide) (fun _ => rfl) xw_1058 rfl d_X8_addMoves_18 (fun x3 _ => ?_)
  refine xa_if (xa_icmpge d_X8_addMoves_21) (fun q4 => ?_) (fun q4 => ?_)
  · refine xa_step (xa_aload_n d_X8_addMoves_24 rfl) ?_
    refine xa_step (xa_iload_n d_X8_addMoves_25 rfl) ?_
    refine xa_step (xa_iload d_X8_addMoves_26 rfl) ?_
    refine xa_callVi (as := [xI c3, xI v4]) (st := []) (M' := mX0_areFeuding) (d' := 2) rfl xw_1044 xw_763 xw_764 xw_765 xw_169 xh_X0_areFeuding rfl ⟨Nat.le_of_ble_eq_true rfl, Nat.le_of_ble_eq_true rfl⟩ (Nat.le_of_ble_eq_true rfl) rfl d_X8_addMoves_28 (fun r hr => ct_X0_areFeuding l G c1 c3 v4 h r hr) (fun r5 _ => ?_)
    refine xa_if (xa_ifeq d_X8_addMoves_31) (fun q6 => ?_) (fun q6 => ?_)
    · refine xa_step (xa_aload_n d_X8_addMoves_37 rfl) ?_
      refine xa_step (xa_iload_n d_X8_addMoves_38 rfl) ?_
      refine xa_step (xa_iload d_X8_addMoves_39 rfl) ?_
      refine xa_step (xa_iconst d_X8_addMoves_41 xq_i_m1) ?_
      refine xa_callVV (as := [xI c3, xI v4, xI ((-1))]) (st := []) (M' := mX8_addMove) (d' := 2) rfl xw_1045 xw_1047 xw_43 xw_1048 xw_181 xh_X8_addMove rfl ⟨Nat.le_of_ble_eq_true rfl, Nat.le_of_ble_eq_true rfl⟩ (Nat.le_of_ble_eq_true rfl) rfl d_X8_addMoves_42 (fun r hr => ct_X8_addMove l G c0 c3 v4 ((-1)) h r hr) (fun r7 _ => ?_)
      refine xa_step (xa_iload d_X8_addMoves_45 rfl) ?_
      refine xa_step (xa_iconst d_X8_addMoves_47 xq_i_1) ?_
      refine xa_step (xa_iadd d_X8_addMoves_48) ?_
      refine xa_step (xa_istore (ls' := [some (xR c0), some (xR c1), some (xI c2), some (xI c3), some (xI v4), some (xI (w32 (v4 + 1)))]) d_X8_addMoves_49 (by decide) rfl) ?_
      refine xa_weak (ls' := [some (xR c0), some (xR c1), some (xI c2), some (xI c3), some (xI v4), some (xI (w32 (v4 + 1)))]) ⟨rfl, rfl, rfl, rfl, rfl, rfl, trivial⟩ ?_
      refine xa_loop (f := fun s => f_X8_addMoves_L51 c0 c1 c2 c3 v4 s.1 s.2) (L := fun s => [some (xR c0), some (xR c1), some (xI c2), some (xI c3), some (xI v4), some (xI s.1)]) (P := fun s => s.2) (X := (fun x K => xa_G l G 3 mX8_addMoves (some (Sum.inr x)) K 110 [some (xR c0), some (xR c1), some (xI c2), some (xI c3), some (xI v4), none] [] x)) (fun K hb hX s => g_X8_addMoves_L51 l G c0 c1 c2 c3 v4 K (fun w0 hh => hb ((w0, hh))) (fun hh => hX hh) s.1 s.2) ?_ xFU ((w32 (v4 + 1), r7))
      intro e17 K hK
      refine xa_eqE hK ?_
      show xa_G l G 3 mX8_addMoves _ _ 110 [some (xR c0), some (xR c1), some (xI c2), some (xI c3), some (xI v4), none] [] e17
      refine xa_step (xa_iinc (ls' := [some (xR c0), some (xR c1), some (xI c2), some (xI c3), some (xI (w32 (v4 + 1))), none]) d_X8_addMoves_110 xq_i_1 rfl (by decide) rfl) ?_
      refine xa_step (xa_goto d_X8_addMoves_113) ?_
      exact xa_weak (ls' := [some (xR c0), some (xR c1), some (xI c2), some (xI c3), some (xI (w32 (v4 + 1))), none]) ⟨rfl, rfl, rfl, rfl, rfl, trivial⟩ (hb (w32 (v4 + 1)) e17)
    · refine xa_step (xa_goto d_X8_addMoves_34) ?_
      refine xa_step (xa_iinc (ls' := [some (xR c0), some (xR c1), some (xI c2), some (xI c3), some (xI (w32 (v4 + 1))), none]) d_X8_addMoves_110 xq_i_1 rfl (by decide) rfl) ?_
      refine xa_step (xa_goto d_X8_addMoves_113) ?_
      exact xa_weak (ls' := [some (xR c0), some (xR c1), some (xI c2), some (xI c3), some (xI (w32 (v4 + 1))), none]) ⟨rfl, rfl, rfl, rfl, rfl, trivial⟩ (hb (w32 (v4 + 1)) h)
  · exact xa_weak (ls' := [some (xR c0), some (xR c1), some (xI c2), some (xI c3), none, none]) ⟨rfl, rfl, rfl, rfl, trivial⟩ (hx h)
theorem d_X8_addMoves_116 : decode mX8_addMoves.1 116 = .ok (.iinc 3 1, 3) ∧ 116 + 3 = 119 := ⟨by decide +kernel, rfl⟩
theorem d_X8_addMoves_119 : decode mX8_addMoves.1 119 = .ok (.goto (-117), 3) ∧ ((119 : Nat) : Int) + (-117) = ((2 : Nat) : Int) := ⟨by decide +kernel, rfl⟩
set_option maxRecDepth 100000 in
set_option maxHeartbeats 4000000 in
theorem g_X8_addMoves_L2 (l : Launch) (G : xa_C) (c0 c1 c2 : Int) (K : (Int × xa_H) ⊕ (xa_H) → Option xa_O) (hb : ∀ (v3 : Int) (h : xa_H), xa_G l G 3 mX8_addMoves (some (Sum.inl ((v3, h)))) K 2 [some (xR c0), some (xR c1), some (xI c2), some (xI v3), none, none] [] h) (hx : ∀ (h : xa_H), xa_G l G 3 mX8_addMoves (some (Sum.inr h)) K 122 [none, none, none, none, none, none] [] h) : ∀ (v3 : Int) (h : xa_H), xa_G l G 3 mX8_addMoves (f_X8_addMoves_L2 c0 c1 c2 v3 h) K 2 [some (xR c0), some (xR c1), some (xI c2), some (xI v3), none, none] [] h := by
  intro v3 h
  unfold f_X8_addMoves_L2
  refine xa_step (xa_iload_n d_X8_addMoves_2 rfl) ?_
  refine xa_step (xa_aload_n d_X8_addMoves_3 rfl) ?_
  refine xa_getf xI xc_8 (by decide) (fun _ => rfl) xw_1058 rfl d_X8_addMoves_4 (fun x1 _ => ?_)
  refine xa_if (xa_icmpge d_X8_addMoves_7) (fun q2 => ?_) (fun q2 => ?_)
  · refine xa_step (xa_iload_n d_X8_addMoves_10 rfl) ?_
    refine xa_step (xa_iconst d_X8_addMoves_11 xq_i_1) ?_
    refine xa_step (xa_iadd d_X8_addMoves_12) ?_
    refine xa_step (xa_istore (ls' := [some (xR c0), some (xR c1), some (xI c2), some (xI v3), some (xI (w32 (v3 + 1))), none]) d_X8_addMoves_13 (by decide) rfl) ?_
    refine xa_weak (ls' := [some (xR c0), some (xR c1), some (xI c2), some (xI v3), some (xI (w32 (v3 + 1))), none]) ⟨rfl, rfl, rfl, rfl, rfl, trivial⟩ ?_
    refine xa_loop (f := fun s => f_X8_addMoves_L15 c0 c1 c2 v3 s.1 s.2) (L := fun s => [some (xR c0), some (xR c1), some (xI c2), some (xI v3), some (xI s.1), none]) (P := fun s => s.2) (X := (fun x K => xa_G l G 3 mX8_addMoves (some (Sum.inr x)) K 116 [some (xR c0), some (xR c1), some (xI c2), some (xI v3), none, none] [] x)) (fun K hb hX s => g_X8_addMoves_L15 l G c0 c1 c2 v3 K (fun w0 hh => hb ((w0, hh))) (fun hh => hX hh) s.1 s.2) ?_ xFU ((w32 (v3 + 1), h))
    intro e18 K hK
    refine xa_eqE hK ?_
    show xa_G l G 3 mX8_addMoves _ _ 116 [some (xR c0), some (xR c1), some (xI c2), some (xI v3), none, none] [] e18
    refine xa_step (xa_iinc (ls' := [some (xR c0), some (xR c1), some (xI c2), some (xI (w32 (v3 + 1))), none, none]) d_X8_addMoves_116 xq_i_1 rfl (by decide) rfl) ?_
    refine xa_step (xa_goto d_X8_addMoves_119) ?_
    exact xa_weak (ls' := [some (xR c0), some (xR c1), some (xI c2), some (xI (w32 (v3 + 1))), none, none]) ⟨rfl, rfl, rfl, rfl, trivial⟩ (hb (w32 (v3 + 1)) e18)
  · exact xa_weak (ls' := [none, none, none, none, none, none]) trivial (hx h)
theorem d_X8_addMoves_122 : decode mX8_addMoves.1 122 = .ok (.return_, 1) := by decide +kernel
set_option maxRecDepth 100000 in
set_option maxHeartbeats 4000000 in
theorem g_X8_addMoves (l : Launch) (G : xa_C) (v0 v1 v2 : Int) (h : xa_H) : xa_G l G 3 mX8_addMoves (f_X8_addMoves v0 v1 v2 h) (fun r => some (none, r) : xa_H → Option xa_O) 0 [some (xR v0), some (xR v1), some (xI v2), none, none, none] [] h := by
  unfold f_X8_addMoves
  refine xa_step (xa_iconst d_X8_addMoves_0 xq_i_0) ?_
  refine xa_step (xa_istore_n (ls' := [some (xR v0), some (xR v1), some (xI v2), some (xI 0), none, none]) d_X8_addMoves_1 (by decide) rfl) ?_
  refine xa_weak (ls' := [some (xR v0), some (xR v1), some (xI v2), some (xI 0), none, none]) ⟨rfl, rfl, rfl, rfl, trivial⟩ ?_
  refine xa_loop (f := fun s => f_X8_addMoves_L2 v0 v1 v2 s.1 s.2) (L := fun s => [some (xR v0), some (xR v1), some (xI v2), some (xI s.1), none, none]) (P := fun s => s.2) (X := (fun x K => xa_G l G 3 mX8_addMoves (some (Sum.inr x)) K 122 [none, none, none, none, none, none] [] x)) (fun K hb hX s => g_X8_addMoves_L2 l G v0 v1 v2 K (fun w0 hh => hb ((w0, hh))) (fun hh => hX hh) s.1 s.2) ?_ xFU ((0, h))
  intro e19 K hK
  refine xa_eqE hK ?_
  show xa_G l G 3 mX8_addMoves _ _ 122 [none, none, none, none, none, none] [] e19
  exact xa_vret d_X8_addMoves_122 rfl rfl
theorem ct_X8_addMoves (l : Launch) (G : xa_C) (v0 v1 v2 : Int) (h : xa_H) (r : xa_H) (hr : f_X8_addMoves v0 v1 v2 h = some r) : xa_CT l G 3 mX8_addMoves yX8_addMoves [xR v0, xR v1, xI v2] h (none, r) :=
  xa_met (by decide +kernel) rfl (fun q => by first | rfl | cases q) (Nat.le_of_ble_eq_true rfl) rfl (g_X8_addMoves l G v0 v1 v2 h) (by rw [hr]; rfl)
abbrev mX8_rankOfOrder : xa_M := (cX8_rankOfOrder, 5, (some (.int)), RX8, false)
theorem d_X8_rankOfOrder_0 : decode mX8_rankOfOrder.1 0 = .ok (.iconst 0, 1) ∧ 0 + 1 = 1 := ⟨by decide +kernel, rfl⟩
theorem d_X8_rankOfOrder_1 : decode mX8_rankOfOrder.1 1 = .ok (.istore_n 1, 1) ∧ 1 + 1 = 2 := ⟨by decide +kernel, rfl⟩
theorem d_X8_rankOfOrder_2 : decode mX8_rankOfOrder.1 2 = .ok (.iconst 0, 1) ∧ 2 + 1 = 3 := ⟨by decide +kernel, rfl⟩
theorem d_X8_rankOfOrder_3 : decode mX8_rankOfOrder.1 3 = .ok (.istore_n 2, 1) ∧ 3 + 1 = 4 := ⟨by decide +kernel, rfl⟩
theorem d_X8_rankOfOrder_4 : decode mX8_rankOfOrder.1 4 = .ok (.iconst 0, 1) ∧ 4 + 1 = 5 := ⟨by decide +kernel, rfl⟩
theorem d_X8_rankOfOrder_5 : decode mX8_rankOfOrder.1 5 = .ok (.istore_n 3, 1) ∧ 5 + 1 = 6 := ⟨by decide +kernel, rfl⟩
theorem d_X8_rankOfOrder_6 : decode mX8_rankOfOrder.1 6 = .ok (.iload_n 3, 1) ∧ 6 + 1 = 7 := ⟨by decide +kernel, rfl⟩
theorem d_X8_rankOfOrder_7 : decode mX8_rankOfOrder.1 7 = .ok (.aload_n 0, 1) ∧ 7 + 1 = 8 := ⟨by decide +kernel, rfl⟩
theorem d_X8_rankOfOrder_8 : decode mX8_rankOfOrder.1 8 = .ok (.getfield 33, 3) ∧ 8 + 3 = 11 := ⟨by decide +kernel, rfl⟩
theorem d_X8_rankOfOrder_11 : decode mX8_rankOfOrder.1 11 = .ok (.if_icmp .ge 50, 3) ∧ 11 + 3 = 14 ∧ ((11 : Nat) : Int) + 50 = ((61 : Nat) : Int) := ⟨by decide +kernel, rfl, rfl⟩
theorem d_X8_rankOfOrder_14 : decode mX8_rankOfOrder.1 14 = .ok (.iconst 1, 1) ∧ 14 + 1 = 15 := ⟨by decide +kernel, rfl⟩
theorem d_X8_rankOfOrder_15 : decode mX8_rankOfOrder.1 15 = .ok (.aload_n 0, 1) ∧ 15 + 1 = 16 := ⟨by decide +kernel, rfl⟩
theorem d_X8_rankOfOrder_16 : decode mX8_rankOfOrder.1 16 = .ok (.getfield 25, 3) ∧ 16 + 3 = 19 := ⟨by decide +kernel, rfl⟩
theorem d_X8_rankOfOrder_19 : decode mX8_rankOfOrder.1 19 = .ok (.iload_n 3, 1) ∧ 19 + 1 = 20 := ⟨by decide +kernel, rfl⟩
theorem d_X8_rankOfOrder_20 : decode mX8_rankOfOrder.1 20 = .ok (.iaload, 1) ∧ 20 + 1 = 21 := ⟨by decide +kernel, rfl⟩
theorem d_X8_rankOfOrder_21 : decode mX8_rankOfOrder.1 21 = .ok (.ishl, 1) ∧ 21 + 1 = 22 := ⟨by decide +kernel, rfl⟩
theorem d_X8_rankOfOrder_22 : decode mX8_rankOfOrder.1 22 = .ok (.istore 4, 2) ∧ 22 + 2 = 24 := ⟨by decide +kernel, rfl⟩
theorem d_X8_rankOfOrder_24 : decode mX8_rankOfOrder.1 24 = .ok (.iload_n 1, 1) ∧ 24 + 1 = 25 := ⟨by decide +kernel, rfl⟩
theorem d_X8_rankOfOrder_25 : decode mX8_rankOfOrder.1 25 = .ok (.aload_n 0, 1) ∧ 25 + 1 = 26 := ⟨by decide +kernel, rfl⟩
theorem d_X8_rankOfOrder_26 : decode mX8_rankOfOrder.1 26 = .ok (.getfield 33, 3) ∧ 26 + 3 = 29 := ⟨by decide +kernel, rfl⟩
theorem d_X8_rankOfOrder_29 : decode mX8_rankOfOrder.1 29 = .ok (.iload_n 3, 1) ∧ 29 + 1 = 30 := ⟨by decide +kernel, rfl⟩
theorem d_X8_rankOfOrder_30 : decode mX8_rankOfOrder.1 30 = .ok (.isub, 1) ∧ 30 + 1 = 31 := ⟨by decide +kernel, rfl⟩
theorem d_X8_rankOfOrder_31 : decode mX8_rankOfOrder.1 31 = .ok (.imul, 1) ∧ 31 + 1 = 32 := ⟨by decide +kernel, rfl⟩
theorem d_X8_rankOfOrder_32 : decode mX8_rankOfOrder.1 32 = .ok (.aload_n 0, 1) ∧ 32 + 1 = 33 := ⟨by decide +kernel, rfl⟩
theorem d_X8_rankOfOrder_33 : decode mX8_rankOfOrder.1 33 = .ok (.getfield 25, 3) ∧ 33 + 3 = 36 := ⟨by decide +kernel, rfl⟩
theorem d_X8_rankOfOrder_36 : decode mX8_rankOfOrder.1 36 = .ok (.iload_n 3, 1) ∧ 36 + 1 = 37 := ⟨by decide +kernel, rfl⟩
theorem d_X8_rankOfOrder_37 : decode mX8_rankOfOrder.1 37 = .ok (.iaload, 1) ∧ 37 + 1 = 38 := ⟨by decide +kernel, rfl⟩
theorem d_X8_rankOfOrder_38 : decode mX8_rankOfOrder.1 38 = .ok (.iadd, 1) ∧ 38 + 1 = 39 := ⟨by decide +kernel, rfl⟩
theorem d_X8_rankOfOrder_39 : decode mX8_rankOfOrder.1 39 = .ok (.iload_n 2, 1) ∧ 39 + 1 = 40 := ⟨by decide +kernel, rfl⟩
theorem d_X8_rankOfOrder_40 : decode mX8_rankOfOrder.1 40 = .ok (.iload 4, 2) ∧ 40 + 2 = 42 := ⟨by decide +kernel, rfl⟩
theorem d_X8_rankOfOrder_42 : decode mX8_rankOfOrder.1 42 = .ok (.iconst 1, 1) ∧ 42 + 1 = 43 := ⟨by decide +kernel, rfl⟩
theorem d_X8_rankOfOrder_43 : decode mX8_rankOfOrder.1 43 = .ok (.isub, 1) ∧ 43 + 1 = 44 := ⟨by decide +kernel, rfl⟩
theorem d_X8_rankOfOrder_44 : decode mX8_rankOfOrder.1 44 = .ok (.iand, 1) ∧ 44 + 1 = 45 := ⟨by decide +kernel, rfl⟩
theorem d_X8_rankOfOrder_45 : decode mX8_rankOfOrder.1 45 = .ok (.invokestatic 79, 3) ∧ 45 + 3 = 48 := ⟨by decide +kernel, rfl⟩
theorem d_X8_rankOfOrder_48 : decode mX8_rankOfOrder.1 48 = .ok (.isub, 1) ∧ 48 + 1 = 49 := ⟨by decide +kernel, rfl⟩
theorem d_X8_rankOfOrder_49 : decode mX8_rankOfOrder.1 49 = .ok (.istore_n 1, 1) ∧ 49 + 1 = 50 := ⟨by decide +kernel, rfl⟩
theorem d_X8_rankOfOrder_50 : decode mX8_rankOfOrder.1 50 = .ok (.iload_n 2, 1) ∧ 50 + 1 = 51 := ⟨by decide +kernel, rfl⟩
theorem d_X8_rankOfOrder_51 : decode mX8_rankOfOrder.1 51 = .ok (.iload 4, 2) ∧ 51 + 2 = 53 := ⟨by decide +kernel, rfl⟩
theorem d_X8_rankOfOrder_53 : decode mX8_rankOfOrder.1 53 = .ok (.ior, 1) ∧ 53 + 1 = 54 := ⟨by decide +kernel, rfl⟩
theorem d_X8_rankOfOrder_54 : decode mX8_rankOfOrder.1 54 = .ok (.istore_n 2, 1) ∧ 54 + 1 = 55 := ⟨by decide +kernel, rfl⟩
theorem d_X8_rankOfOrder_55 : decode mX8_rankOfOrder.1 55 = .ok (.iinc 3 1, 3) ∧ 55 + 3 = 58 := ⟨by decide +kernel, rfl⟩
theorem d_X8_rankOfOrder_58 : decode mX8_rankOfOrder.1 58 = .ok (.goto (-52), 3) ∧ ((58 : Nat) : Int) + (-52) = ((6 : Nat) : Int) := ⟨by decide +kernel, rfl⟩
set_option maxRecDepth 100000 in
set_option maxHeartbeats 4000000 in
theorem g_X8_rankOfOrder_L6 (l : Launch) (G : xa_C) (c0 : Int) (h : xa_H) (K : (Int × Int × Int) ⊕ (Int) → Option xa_O) (hb : ∀ (v1 : Int) (v2 : Int) (v3 : Int), xa_G l G 3 mX8_rankOfOrder (some (Sum.inl ((v1, v2, v3)))) K 6 [some (xR c0), some (xI v1), some (xI v2), some (xI v3), none] [] h) (hx : ∀ (v1 : Int), xa_G l G 3 mX8_rankOfOrder (some (Sum.inr v1)) K 61 [none, some (xI v1), none, none, none] [] h) : ∀ (v1 : Int) (v2 : Int) (v3 : Int), xa_G l G 3 mX8_rankOfOrder (f_X8_rankOfOrder_L6 c0 h v1 v2 v3) K 6 [some (xR c0), some (xI v1), some (xI v2), some (xI v3), none] [] h := by
  intro v1 v2 v3
  unfold f_X8_rankOfOrder_L6
  refine xa_step (xa_iload_n d_X8_rankOfOrder_6 rfl) ?_
  refine xa_step (xa_aload_n d_X8_rankOfOrder_7 rfl) ?_
  refine xa_getf xI xc_8 (by decide) (fun _ => rfl) xw_1058 rfl d_X8_rankOfOrder_8 (fun x1 _ => ?_)
  refine xa_if (xa_icmpge d_X8_rankOfOrder_11) (fun q2 => ?_) (fun q2 => ?_)
  · refine xa_step (xa_iconst d_X8_rankOfOrder_14 xq_i_1) ?_
    refine xa_step (xa_aload_n d_X8_rankOfOrder_15 rfl) ?_
    refine xa_getf xR xc_8 (by decide) (fun _ => rfl) xw_1065 rfl d_X8_rankOfOrder_16 (fun x3 _ => ?_)
    refine xa_step (xa_iload_n d_X8_rankOfOrder_19 rfl) ?_
    refine xa_iaload d_X8_rankOfOrder_20 (fun x4 _ => ?_)
    refine xa_step (xa_ishl d_X8_rankOfOrder_21) ?_
    refine xa_step (xa_istore (ls' := [some (xR c0), some (xI v1), some (xI v2), some (xI v3), some (xI (xshl 1 x4))]) d_X8_rankOfOrder_22 (by decide) rfl) ?_
    refine xa_step (xa_iload_n d_X8_rankOfOrder_24 rfl) ?_
    refine xa_step (xa_aload_n d_X8_rankOfOrder_25 rfl) ?_
    refine xa_getf xI xc_8 (by decide) (fun _ => rfl) xw_1058 rfl d_X8_rankOfOrder_26 (fun x5 _ => ?_)
    refine xa_step (xa_iload_n d_X8_rankOfOrder_29 rfl) ?_
    refine xa_step (xa_isub d_X8_rankOfOrder_30) ?_
    refine xa_step (xa_imul d_X8_rankOfOrder_31) ?_
    refine xa_step (xa_aload_n d_X8_rankOfOrder_32 rfl) ?_
    refine xa_getf xR xc_8 (by decide) (fun _ => rfl) xw_1065 rfl d_X8_rankOfOrder_33 (fun x6 _ => ?_)
    refine xa_step (xa_iload_n d_X8_rankOfOrder_36 rfl) ?_
    refine xa_iaload d_X8_rankOfOrder_37 (fun x7 _ => ?_)
    refine xa_step (xa_iadd d_X8_rankOfOrder_38) ?_
    refine xa_step (xa_iload_n d_X8_rankOfOrder_39 rfl) ?_
    refine xa_step (xa_iload d_X8_rankOfOrder_40 rfl) ?_
    refine xa_step (xa_iconst d_X8_rankOfOrder_42 xq_i_1) ?_
    refine xa_step (xa_isub d_X8_rankOfOrder_43) ?_
    refine xa_step (xa_iand d_X8_rankOfOrder_44) ?_
    refine xa_callSi (as := [xI (xand v2 (w32 ((xshl 1 x4) - 1)))]) (st := [xI (w32 ((w32 (v1 * (w32 (x5 - v3)))) + x7))]) (M' := mJ6_bitCount_0f7a4) (d' := 2) xw_1057 xw_575 xw_576 xw_176 xh_J6_bitCount_0f7a4 rfl ⟨Nat.le_of_ble_eq_true rfl, Nat.le_of_ble_eq_true rfl⟩ (Nat.le_of_ble_eq_true rfl) rfl d_X8_rankOfOrder_45 (fun r hr => ct_J6_bitCount_0f7a4 l G (xand v2 (w32 ((xshl 1 x4) - 1))) h r hr) (fun r8 _ => ?_)
    refine xa_step (xa_isub d_X8_rankOfOrder_48) ?_
    refine xa_step (xa_istore_n (ls' := [some (xR c0), some (xI (w32 ((w32 ((w32 (v1 * (w32 (x5 - v3)))) + x7)) - r8))), some (xI v2), some (xI v3), some (xI (xshl 1 x4))]) d_X8_rankOfOrder_49 (by decide) rfl) ?_
    refine xa_step (xa_iload_n d_X8_rankOfOrder_50 rfl) ?_
    refine xa_step (xa_iload d_X8_rankOfOrder_51 rfl) ?_
    refine xa_step (xa_ior d_X8_rankOfOrder_53) ?_
    refine xa_step (xa_istore_n (ls' := [some (xR c0), some (xI (w32 ((w32 ((w32 (v1 * (w32 (x5 - v3)))) + x7)) - r8))), some (xI (xior v2 (xshl 1 x4))), some (xI v3), some (xI (xshl 1 x4))]) d_X8_rankOfOrder_54 (by decide) rfl) ?_
    refine xa_step (xa_iinc (ls' := [some (xR c0), some (xI (w32 ((w32 ((w32 (v1 * (w32 (x5 - v3)))) + x7)) - r8))), some (xI (xior v2 (xshl 1 x4))), some (xI (w32 (v3 + 1))), some (xI (xshl 1 x4))]) d_X8_rankOfOrder_55 xq_i_1 rfl (by decide) rfl) ?_
    refine xa_step (xa_goto d_X8_rankOfOrder_58) ?_
    exact xa_weak (ls' := [some (xR c0), some (xI (w32 ((w32 ((w32 (v1 * (w32 (x5 - v3)))) + x7)) - r8))), some (xI (xior v2 (xshl 1 x4))), some (xI (w32 (v3 + 1))), none]) ⟨rfl, rfl, rfl, rfl, trivial⟩ (hb (w32 ((w32 ((w32 (v1 * (w32 (x5 - v3)))) + x7)) - r8)) (xior v2 (xshl 1 x4)) (w32 (v3 + 1)))
  · exact xa_weak (ls' := [none, some (xI v1), none, none, none]) ⟨rfl, trivial⟩ (hx v1)
theorem d_X8_rankOfOrder_61 : decode mX8_rankOfOrder.1 61 = .ok (.iload_n 1, 1) ∧ 61 + 1 = 62 := ⟨by decide +kernel, rfl⟩
theorem d_X8_rankOfOrder_62 : decode mX8_rankOfOrder.1 62 = .ok (.ireturn, 1) := by decide +kernel
set_option maxRecDepth 100000 in
set_option maxHeartbeats 4000000 in
theorem g_X8_rankOfOrder (l : Launch) (G : xa_C) (v0 : Int) (h : xa_H) : xa_G l G 3 mX8_rankOfOrder (f_X8_rankOfOrder v0 h) (fun r => some (some (xI r), h) : Int → Option xa_O) 0 [some (xR v0), none, none, none, none] [] h := by
  unfold f_X8_rankOfOrder
  refine xa_step (xa_iconst d_X8_rankOfOrder_0 xq_i_0) ?_
  refine xa_step (xa_istore_n (ls' := [some (xR v0), some (xI 0), none, none, none]) d_X8_rankOfOrder_1 (by decide) rfl) ?_
  refine xa_step (xa_iconst d_X8_rankOfOrder_2 xq_i_0) ?_
  refine xa_step (xa_istore_n (ls' := [some (xR v0), some (xI 0), some (xI 0), none, none]) d_X8_rankOfOrder_3 (by decide) rfl) ?_
  refine xa_step (xa_iconst d_X8_rankOfOrder_4 xq_i_0) ?_
  refine xa_step (xa_istore_n (ls' := [some (xR v0), some (xI 0), some (xI 0), some (xI 0), none]) d_X8_rankOfOrder_5 (by decide) rfl) ?_
  refine xa_weak (ls' := [some (xR v0), some (xI 0), some (xI 0), some (xI 0), none]) ⟨rfl, rfl, rfl, rfl, trivial⟩ ?_
  refine xa_loop (f := fun s => f_X8_rankOfOrder_L6 v0 h s.1 s.2.1 s.2.2) (L := fun s => [some (xR v0), some (xI s.1), some (xI s.2.1), some (xI s.2.2), none]) (P := fun s => h) (X := (fun x K => xa_G l G 3 mX8_rankOfOrder (some (Sum.inr x)) K 61 [none, some (xI x), none, none, none] [] h)) (fun K hb hX s => g_X8_rankOfOrder_L6 l G v0 h K (fun w0 w1 w2 => hb ((w0, w1, w2))) (fun w0 => hX w0) s.1 s.2.1 s.2.2) ?_ xFU ((0, 0, 0))
  intro e9 K hK
  refine xa_eqE hK ?_
  show xa_G l G 3 mX8_rankOfOrder _ _ 61 [none, some (xI e9), none, none, none] [] h
  refine xa_step (xa_iload_n d_X8_rankOfOrder_61 rfl) ?_
  exact xa_iret d_X8_rankOfOrder_62 rfl rfl
theorem ct_X8_rankOfOrder (l : Launch) (G : xa_C) (v0 : Int) (h : xa_H) (r : Int) (hr : f_X8_rankOfOrder v0 h = some r) : xa_CT l G 3 mX8_rankOfOrder yX8_rankOfOrder [xR v0] h (some (xI r), h) :=
  xa_met (by decide +kernel) rfl (fun q => by first | rfl | cases q) (Nat.le_of_ble_eq_true rfl) rfl (g_X8_rankOfOrder l G v0 h) (by rw [hr]; rfl)
abbrev mX8_reach : xa_M := (cX8_reach, 4, none, RX8, false)
theorem d_X8_reach_0 : decode mX8_reach.1 0 = .ok (.aload_n 0, 1) ∧ 0 + 1 = 1 := ⟨by decide +kernel, rfl⟩
theorem d_X8_reach_1 : decode mX8_reach.1 1 = .ok (.invokevirtual 68, 3) ∧ 1 + 3 = 4 := ⟨by decide +kernel, rfl⟩
theorem d_X8_reach_4 : decode mX8_reach.1 4 = .ok (.istore_n 2, 1) ∧ 4 + 1 = 5 := ⟨by decide +kernel, rfl⟩
theorem d_X8_reach_5 : decode mX8_reach.1 5 = .ok (.aload_n 0, 1) ∧ 5 + 1 = 6 := ⟨by decide +kernel, rfl⟩
theorem d_X8_reach_6 : decode mX8_reach.1 6 = .ok (.getfield 34, 3) ∧ 6 + 3 = 9 := ⟨by decide +kernel, rfl⟩
theorem d_X8_reach_9 : decode mX8_reach.1 9 = .ok (.iload_n 2, 1) ∧ 9 + 1 = 10 := ⟨by decide +kernel, rfl⟩
theorem d_X8_reach_10 : decode mX8_reach.1 10 = .ok (.iaload, 1) ∧ 10 + 1 = 11 := ⟨by decide +kernel, rfl⟩
theorem d_X8_reach_11 : decode mX8_reach.1 11 = .ok (.iconst (-1), 1) ∧ 11 + 1 = 12 := ⟨by decide +kernel, rfl⟩
theorem d_X8_reach_12 : decode mX8_reach.1 12 = .ok (.if_icmp .ne 15, 3) ∧ 12 + 3 = 15 ∧ ((12 : Nat) : Int) + 15 = ((27 : Nat) : Int) := ⟨by decide +kernel, rfl, rfl⟩
theorem d_X8_reach_15 : decode mX8_reach.1 15 = .ok (.aload_n 0, 1) ∧ 15 + 1 = 16 := ⟨by decide +kernel, rfl⟩
theorem d_X8_reach_16 : decode mX8_reach.1 16 = .ok (.getfield 22, 3) ∧ 16 + 3 = 19 := ⟨by decide +kernel, rfl⟩
theorem d_X8_reach_19 : decode mX8_reach.1 19 = .ok (.aload_n 0, 1) ∧ 19 + 1 = 20 := ⟨by decide +kernel, rfl⟩
theorem d_X8_reach_20 : decode mX8_reach.1 20 = .ok (.getfield 37, 3) ∧ 20 + 3 = 23 := ⟨by decide +kernel, rfl⟩
theorem d_X8_reach_23 : decode mX8_reach.1 23 = .ok (.arraylength, 1) ∧ 23 + 1 = 24 := ⟨by decide +kernel, rfl⟩
theorem d_X8_reach_24 : decode mX8_reach.1 24 = .ok (.if_icmp .lt 4, 3) ∧ 24 + 3 = 27 ∧ ((24 : Nat) : Int) + 4 = ((28 : Nat) : Int) := ⟨by decide +kernel, rfl, rfl⟩
theorem d_X8_reach_28 : decode mX8_reach.1 28 = .ok (.aload_n 0, 1) ∧ 28 + 1 = 29 := ⟨by decide +kernel, rfl⟩
theorem d_X8_reach_29 : decode mX8_reach.1 29 = .ok (.getfield 34, 3) ∧ 29 + 3 = 32 := ⟨by decide +kernel, rfl⟩
theorem d_X8_reach_32 : decode mX8_reach.1 32 = .ok (.iload_n 2, 1) ∧ 32 + 1 = 33 := ⟨by decide +kernel, rfl⟩
theorem d_X8_reach_33 : decode mX8_reach.1 33 = .ok (.iload_n 1, 1) ∧ 33 + 1 = 34 := ⟨by decide +kernel, rfl⟩
theorem d_X8_reach_34 : decode mX8_reach.1 34 = .ok (.iastore, 1) ∧ 34 + 1 = 35 := ⟨by decide +kernel, rfl⟩
theorem d_X8_reach_35 : decode mX8_reach.1 35 = .ok (.iconst 0, 1) ∧ 35 + 1 = 36 := ⟨by decide +kernel, rfl⟩
theorem d_X8_reach_36 : decode mX8_reach.1 36 = .ok (.istore_n 3, 1) ∧ 36 + 1 = 37 := ⟨by decide +kernel, rfl⟩
theorem d_X8_reach_37 : decode mX8_reach.1 37 = .ok (.iload_n 3, 1) ∧ 37 + 1 = 38 := ⟨by decide +kernel, rfl⟩
theorem d_X8_reach_38 : decode mX8_reach.1 38 = .ok (.aload_n 0, 1) ∧ 38 + 1 = 39 := ⟨by decide +kernel, rfl⟩
theorem d_X8_reach_39 : decode mX8_reach.1 39 = .ok (.getfield 33, 3) ∧ 39 + 3 = 42 := ⟨by decide +kernel, rfl⟩
theorem d_X8_reach_42 : decode mX8_reach.1 42 = .ok (.if_icmp .ge 31, 3) ∧ 42 + 3 = 45 ∧ ((42 : Nat) : Int) + 31 = ((73 : Nat) : Int) := ⟨by decide +kernel, rfl, rfl⟩
theorem d_X8_reach_45 : decode mX8_reach.1 45 = .ok (.aload_n 0, 1) ∧ 45 + 1 = 46 := ⟨by decide +kernel, rfl⟩
theorem d_X8_reach_46 : decode mX8_reach.1 46 = .ok (.getfield 37, 3) ∧ 46 + 3 = 49 := ⟨by decide +kernel, rfl⟩
theorem d_X8_reach_49 : decode mX8_reach.1 49 = .ok (.aload_n 0, 1) ∧ 49 + 1 = 50 := ⟨by decide +kernel, rfl⟩
theorem d_X8_reach_50 : decode mX8_reach.1 50 = .ok (.getfield 22, 3) ∧ 50 + 3 = 53 := ⟨by decide +kernel, rfl⟩
theorem d_X8_reach_53 : decode mX8_reach.1 53 = .ok (.dup2, 1) ∧ 53 + 1 = 54 := ⟨by decide +kernel, rfl⟩
theorem d_X8_reach_54 : decode mX8_reach.1 54 = .ok (.iaload, 1) ∧ 54 + 1 = 55 := ⟨by decide +kernel, rfl⟩
theorem d_X8_reach_55 : decode mX8_reach.1 55 = .ok (.aload_n 0, 1) ∧ 55 + 1 = 56 := ⟨by decide +kernel, rfl⟩
theorem d_X8_reach_56 : decode mX8_reach.1 56 = .ok (.getfield 25, 3) ∧ 56 + 3 = 59 := ⟨by decide +kernel, rfl⟩
theorem d_X8_reach_59 : decode mX8_reach.1 59 = .ok (.iload_n 3, 1) ∧ 59 + 1 = 60 := ⟨by decide +kernel, rfl⟩
theorem d_X8_reach_60 : decode mX8_reach.1 60 = .ok (.iaload, 1) ∧ 60 + 1 = 61 := ⟨by decide +kernel, rfl⟩
theorem d_X8_reach_61 : decode mX8_reach.1 61 = .ok (.iconst 3, 1) ∧ 61 + 1 = 62 := ⟨by decide +kernel, rfl⟩
theorem d_X8_reach_62 : decode mX8_reach.1 62 = .ok (.iload_n 3, 1) ∧ 62 + 1 = 63 := ⟨by decide +kernel, rfl⟩
theorem d_X8_reach_63 : decode mX8_reach.1 63 = .ok (.imul, 1) ∧ 63 + 1 = 64 := ⟨by decide +kernel, rfl⟩
theorem d_X8_reach_64 : decode mX8_reach.1 64 = .ok (.ishl, 1) ∧ 64 + 1 = 65 := ⟨by decide +kernel, rfl⟩
theorem d_X8_reach_65 : decode mX8_reach.1 65 = .ok (.ior, 1) ∧ 65 + 1 = 66 := ⟨by decide +kernel, rfl⟩
theorem d_X8_reach_66 : decode mX8_reach.1 66 = .ok (.iastore, 1) ∧ 66 + 1 = 67 := ⟨by decide +kernel, rfl⟩
theorem d_X8_reach_67 : decode mX8_reach.1 67 = .ok (.iinc 3 1, 3) ∧ 67 + 3 = 70 := ⟨by decide +kernel, rfl⟩
theorem d_X8_reach_70 : decode mX8_reach.1 70 = .ok (.goto (-33), 3) ∧ ((70 : Nat) : Int) + (-33) = ((37 : Nat) : Int) := ⟨by decide +kernel, rfl⟩
set_option maxRecDepth 100000 in
set_option maxHeartbeats 4000000 in
theorem g_X8_reach_L37 (l : Launch) (G : xa_C) (c0 : Int) (K : (Int × xa_H) ⊕ (xa_H) → Option xa_O) (hb : ∀ (v3 : Int) (h : xa_H), xa_G l G 4 mX8_reach (some (Sum.inl ((v3, h)))) K 37 [some (xR c0), none, none, some (xI v3)] [] h) (hx : ∀ (h : xa_H), xa_G l G 4 mX8_reach (some (Sum.inr h)) K 73 [some (xR c0), none, none, none] [] h) : ∀ (v3 : Int) (h : xa_H), xa_G l G 4 mX8_reach (f_X8_reach_L37 c0 v3 h) K 37 [some (xR c0), none, none, some (xI v3)] [] h := by
  intro v3 h
  unfold f_X8_reach_L37
  refine xa_step (xa_iload_n d_X8_reach_37 rfl) ?_
  refine xa_step (xa_aload_n d_X8_reach_38 rfl) ?_
  refine xa_getf xI xc_8 (by decide) (fun _ => rfl) xw_1058 rfl d_X8_reach_39 (fun x11 _ => ?_)
  refine xa_if (xa_icmpge d_X8_reach_42) (fun q12 => ?_) (fun q12 => ?_)
  · refine xa_step (xa_aload_n d_X8_reach_45 rfl) ?_
    refine xa_getf xR xc_8 (by decide) (fun _ => rfl) xw_1062 rfl d_X8_reach_46 (fun x13 _ => ?_)
    refine xa_step (xa_aload_n d_X8_reach_49 rfl) ?_
    refine xa_getf xI xc_8 (by decide) (fun _ => rfl) xw_1064 rfl d_X8_reach_50 (fun x14 _ => ?_)
    refine xa_step (xa_dup2 d_X8_reach_53 (xa_tI _) (xa_tR _)) ?_
    refine xa_iaload d_X8_reach_54 (fun x15 _ => ?_)
    refine xa_step (xa_aload_n d_X8_reach_55 rfl) ?_
    refine xa_getf xR xc_8 (by decide) (fun _ => rfl) xw_1065 rfl d_X8_reach_56 (fun x16 _ => ?_)
    refine xa_step (xa_iload_n d_X8_reach_59 rfl) ?_
    refine xa_iaload d_X8_reach_60 (fun x17 _ => ?_)
    refine xa_step (xa_iconst d_X8_reach_61 xq_i_3) ?_
    refine xa_step (xa_iload_n d_X8_reach_62 rfl) ?_
    refine xa_step (xa_imul d_X8_reach_63) ?_
    refine xa_step (xa_ishl d_X8_reach_64) ?_
    refine xa_step (xa_ior d_X8_reach_65) ?_
    refine xa_iastore2 d_X8_reach_66 (fun h18 _ => ?_)
    refine xa_step (xa_iinc (ls' := [some (xR c0), none, none, some (xI (w32 (v3 + 1)))]) d_X8_reach_67 xq_i_1 rfl (by decide) rfl) ?_
    refine xa_step (xa_goto d_X8_reach_70) ?_
    exact xa_weak (ls' := [some (xR c0), none, none, some (xI (w32 (v3 + 1)))]) ⟨rfl, rfl, trivial⟩ (hb (w32 (v3 + 1)) h18)
  · exact xa_weak (ls' := [some (xR c0), none, none, none]) ⟨rfl, trivial⟩ (hx h)
theorem d_X8_reach_73 : decode mX8_reach.1 73 = .ok (.aload_n 0, 1) ∧ 73 + 1 = 74 := ⟨by decide +kernel, rfl⟩
theorem d_X8_reach_74 : decode mX8_reach.1 74 = .ok (.dup, 1) ∧ 74 + 1 = 75 := ⟨by decide +kernel, rfl⟩
theorem d_X8_reach_75 : decode mX8_reach.1 75 = .ok (.getfield 22, 3) ∧ 75 + 3 = 78 := ⟨by decide +kernel, rfl⟩
theorem d_X8_reach_78 : decode mX8_reach.1 78 = .ok (.iconst 1, 1) ∧ 78 + 1 = 79 := ⟨by decide +kernel, rfl⟩
theorem d_X8_reach_79 : decode mX8_reach.1 79 = .ok (.iadd, 1) ∧ 79 + 1 = 80 := ⟨by decide +kernel, rfl⟩
theorem d_X8_reach_80 : decode mX8_reach.1 80 = .ok (.putfield 22, 3) ∧ 80 + 3 = 83 := ⟨by decide +kernel, rfl⟩
theorem d_X8_reach_83 : decode mX8_reach.1 83 = .ok (.return_, 1) := by decide +kernel
theorem d_X8_reach_27 : decode mX8_reach.1 27 = .ok (.return_, 1) := by decide +kernel
set_option maxRecDepth 100000 in
set_option maxHeartbeats 4000000 in
theorem g_X8_reach (l : Launch) (G : xa_C) (v0 v1 : Int) (h : xa_H) : xa_G l G 4 mX8_reach (f_X8_reach v0 v1 h) (fun r => some (none, r) : xa_H → Option xa_O) 0 [some (xR v0), some (xI v1), none, none] [] h := by
  unfold f_X8_reach
  refine xa_step (xa_aload_n d_X8_reach_0 rfl) ?_
  refine xa_callVi (as := []) (st := []) (M' := mX8_rankOfOrder) (d' := 3) rfl xw_1053 xw_1055 xw_45 xw_1056 xw_181 xh_X8_rankOfOrder rfl ⟨Nat.le_of_ble_eq_true rfl, Nat.le_of_ble_eq_true rfl⟩ (Nat.le_of_ble_eq_true rfl) rfl d_X8_reach_1 (fun r hr => ct_X8_rankOfOrder l G v0 h r hr) (fun r1 _ => ?_)
  refine xa_step (xa_istore_n (ls' := [some (xR v0), some (xI v1), some (xI r1), none]) d_X8_reach_4 (by decide) rfl) ?_
  refine xa_step (xa_aload_n d_X8_reach_5 rfl) ?_
  refine xa_getf xR xc_8 (by decide) (fun _ => rfl) xw_1061 rfl d_X8_reach_6 (fun x2 _ => ?_)
  refine xa_step (xa_iload_n d_X8_reach_9 rfl) ?_
  refine xa_iaload d_X8_reach_10 (fun x3 _ => ?_)
  refine xa_step (xa_iconst d_X8_reach_11 xq_i_m1) ?_
  refine xa_if (xa_icmpne d_X8_reach_12) (fun q4 => ?_) (fun q4 => ?_)
  · refine xa_step (xa_aload_n d_X8_reach_15 rfl) ?_
    refine xa_getf xI xc_8 (by decide) (fun _ => rfl) xw_1064 rfl d_X8_reach_16 (fun x5 _ => ?_)
    refine xa_step (xa_aload_n d_X8_reach_19 rfl) ?_
    refine xa_getf xR xc_8 (by decide) (fun _ => rfl) xw_1062 rfl d_X8_reach_20 (fun x6 _ => ?_)
    refine xa_alen d_X8_reach_23 (fun x7 _ => ?_)
    refine xa_if (xa_icmplt d_X8_reach_24) (fun q8 => ?_) (fun q8 => ?_)
    · refine xa_step (xa_aload_n d_X8_reach_28 rfl) ?_
      refine xa_getf xR xc_8 (by decide) (fun _ => rfl) xw_1061 rfl d_X8_reach_29 (fun x9 _ => ?_)
      refine xa_step (xa_iload_n d_X8_reach_32 rfl) ?_
      refine xa_step (xa_iload_n d_X8_reach_33 rfl) ?_
      refine xa_iastore2 d_X8_reach_34 (fun h10 _ => ?_)
      refine xa_step (xa_iconst d_X8_reach_35 xq_i_0) ?_
      refine xa_step (xa_istore_n (ls' := [some (xR v0), some (xI v1), some (xI r1), some (xI 0)]) d_X8_reach_36 (by decide) rfl) ?_
      refine xa_weak (ls' := [some (xR v0), none, none, some (xI 0)]) ⟨rfl, rfl, trivial⟩ ?_
      refine xa_loop (f := fun s => f_X8_reach_L37 v0 s.1 s.2) (L := fun s => [some (xR v0), none, none, some (xI s.1)]) (P := fun s => s.2) (X := (fun x K => xa_G l G 4 mX8_reach (some (Sum.inr x)) K 73 [some (xR v0), none, none, none] [] x)) (fun K hb hX s => g_X8_reach_L37 l G v0 K (fun w0 hh => hb ((w0, hh))) (fun hh => hX hh) s.1 s.2) ?_ xFU ((0, h10))
      intro e19 K hK
      refine xa_eqE hK ?_
      show xa_G l G 4 mX8_reach _ _ 73 [some (xR v0), none, none, none] [] e19
      refine xa_step (xa_aload_n d_X8_reach_73 rfl) ?_
      refine xa_step (xa_dup d_X8_reach_74 (xa_tR _)) ?_
      refine xa_getf xI xc_8 (by decide) (fun _ => rfl) xw_1064 rfl d_X8_reach_75 (fun x20 _ => ?_)
      refine xa_step (xa_iconst d_X8_reach_78 xq_i_1) ?_
      refine xa_step (xa_iadd d_X8_reach_79) ?_
      refine xa_putf2 (tg := xI) xc_8 (by decide) (fun _ => rfl) rfl (fun c hc => xa_fitI c hc) xw_1064 rfl d_X8_reach_80 (fun h21 _ => ?_)
      exact xa_vret d_X8_reach_83 rfl rfl
    · exact xa_vret d_X8_reach_27 rfl rfl
  · exact xa_vret d_X8_reach_27 rfl rfl
theorem ct_X8_reach (l : Launch) (G : xa_C) (v0 v1 : Int) (h : xa_H) (r : xa_H) (hr : f_X8_reach v0 v1 h = some r) : xa_CT l G 4 mX8_reach yX8_reach [xR v0, xI v1] h (none, r) :=
  xa_met (by decide +kernel) rfl (fun q => by first | rfl | cases q) (Nat.le_of_ble_eq_true rfl) rfl (g_X8_reach l G v0 v1 h) (by rw [hr]; rfl)
abbrev mX8_init : xa_M := (cX8_init, 5, none, RX8, true)
theorem d_X8_init_0 : decode mX8_init.1 0 = .ok (.aload_n 0, 1) ∧ 0 + 1 = 1 := ⟨by decide +kernel, rfl⟩
theorem d_X8_init_1 : decode mX8_init.1 1 = .ok (.invokespecial 3, 3) ∧ 1 + 3 = 4 := ⟨by decide +kernel, rfl⟩
theorem d_X8_init_4 : decode mX8_init.1 4 = .ok (.aload_n 0, 1) ∧ 4 + 1 = 5 := ⟨by decide +kernel, rfl⟩
theorem d_X8_init_5 : decode mX8_init.1 5 = .ok (.sipush 165, 3) ∧ 5 + 3 = 8 := ⟨by decide +kernel, rfl⟩
theorem d_X8_init_8 : decode mX8_init.1 8 = .ok (.newarray .int, 2) ∧ 8 + 2 = 10 := ⟨by decide +kernel, rfl⟩
theorem d_X8_init_10 : decode mX8_init.1 10 = .ok (.putfield 9, 3) ∧ 10 + 3 = 13 := ⟨by decide +kernel, rfl⟩
theorem d_X8_init_13 : decode mX8_init.1 13 = .ok (.aload_n 0, 1) ∧ 13 + 1 = 14 := ⟨by decide +kernel, rfl⟩
theorem d_X8_init_14 : decode mX8_init.1 14 = .ok (.iconst 0, 1) ∧ 14 + 1 = 15 := ⟨by decide +kernel, rfl⟩
theorem d_X8_init_15 : decode mX8_init.1 15 = .ok (.putfield 15, 3) ∧ 15 + 3 = 18 := ⟨by decide +kernel, rfl⟩
theorem d_X8_init_18 : decode mX8_init.1 18 = .ok (.aload_n 0, 1) ∧ 18 + 1 = 19 := ⟨by decide +kernel, rfl⟩
theorem d_X8_init_19 : decode mX8_init.1 19 = .ok (.iconst 0, 1) ∧ 19 + 1 = 20 := ⟨by decide +kernel, rfl⟩
theorem d_X8_init_20 : decode mX8_init.1 20 = .ok (.putfield 19, 3) ∧ 20 + 3 = 23 := ⟨by decide +kernel, rfl⟩
theorem d_X8_init_23 : decode mX8_init.1 23 = .ok (.aload_n 0, 1) ∧ 23 + 1 = 24 := ⟨by decide +kernel, rfl⟩
theorem d_X8_init_24 : decode mX8_init.1 24 = .ok (.iconst 0, 1) ∧ 24 + 1 = 25 := ⟨by decide +kernel, rfl⟩
theorem d_X8_init_25 : decode mX8_init.1 25 = .ok (.putfield 22, 3) ∧ 25 + 3 = 28 := ⟨by decide +kernel, rfl⟩
theorem d_X8_init_28 : decode mX8_init.1 28 = .ok (.aload_n 0, 1) ∧ 28 + 1 = 29 := ⟨by decide +kernel, rfl⟩
theorem d_X8_init_29 : decode mX8_init.1 29 = .ok (.bipush 6, 2) ∧ 29 + 2 = 31 := ⟨by decide +kernel, rfl⟩
theorem d_X8_init_31 : decode mX8_init.1 31 = .ok (.newarray .int, 2) ∧ 31 + 2 = 33 := ⟨by decide +kernel, rfl⟩
theorem d_X8_init_33 : decode mX8_init.1 33 = .ok (.putfield 25, 3) ∧ 33 + 3 = 36 := ⟨by decide +kernel, rfl⟩
theorem d_X8_init_36 : decode mX8_init.1 36 = .ok (.aload_n 0, 1) ∧ 36 + 1 = 37 := ⟨by decide +kernel, rfl⟩
theorem d_X8_init_37 : decode mX8_init.1 37 = .ok (.aload_n 1, 1) ∧ 37 + 1 = 38 := ⟨by decide +kernel, rfl⟩
theorem d_X8_init_38 : decode mX8_init.1 38 = .ok (.getfield 28, 3) ∧ 38 + 3 = 41 := ⟨by decide +kernel, rfl⟩
theorem d_X8_init_41 : decode mX8_init.1 41 = .ok (.putfield 33, 3) ∧ 41 + 3 = 44 := ⟨by decide +kernel, rfl⟩
theorem d_X8_init_44 : decode mX8_init.1 44 = .ok (.iconst 1, 1) ∧ 44 + 1 = 45 := ⟨by decide +kernel, rfl⟩
theorem d_X8_init_45 : decode mX8_init.1 45 = .ok (.istore_n 3, 1) ∧ 45 + 1 = 46 := ⟨by decide +kernel, rfl⟩
theorem d_X8_init_46 : decode mX8_init.1 46 = .ok (.iconst 2, 1) ∧ 46 + 1 = 47 := ⟨by decide +kernel, rfl⟩
theorem d_X8_init_47 : decode mX8_init.1 47 = .ok (.istore 4, 2) ∧ 47 + 2 = 49 := ⟨by decide +kernel, rfl⟩
theorem d_X8_init_49 : decode mX8_init.1 49 = .ok (.iload 4, 2) ∧ 49 + 2 = 51 := ⟨by decide +kernel, rfl⟩
theorem d_X8_init_51 : decode mX8_init.1 51 = .ok (.aload_n 0, 1) ∧ 51 + 1 = 52 := ⟨by decide +kernel, rfl⟩
theorem d_X8_init_52 : decode mX8_init.1 52 = .ok (.getfield 33, 3) ∧ 52 + 3 = 55 := ⟨by decide +kernel, rfl⟩
theorem d_X8_init_55 : decode mX8_init.1 55 = .ok (.if_icmp .gt 14, 3) ∧ 55 + 3 = 58 ∧ ((55 : Nat) : Int) + 14 = ((69 : Nat) : Int) := ⟨by decide +kernel, rfl, rfl⟩
theorem d_X8_init_58 : decode mX8_init.1 58 = .ok (.iload_n 3, 1) ∧ 58 + 1 = 59 := ⟨by decide +kernel, rfl⟩
theorem d_X8_init_59 : decode mX8_init.1 59 = .ok (.iload 4, 2) ∧ 59 + 2 = 61 := ⟨by decide +kernel, rfl⟩
theorem d_X8_init_61 : decode mX8_init.1 61 = .ok (.imul, 1) ∧ 61 + 1 = 62 := ⟨by decide +kernel, rfl⟩
theorem d_X8_init_62 : decode mX8_init.1 62 = .ok (.istore_n 3, 1) ∧ 62 + 1 = 63 := ⟨by decide +kernel, rfl⟩
theorem d_X8_init_63 : decode mX8_init.1 63 = .ok (.iinc 4 1, 3) ∧ 63 + 3 = 66 := ⟨by decide +kernel, rfl⟩
theorem d_X8_init_66 : decode mX8_init.1 66 = .ok (.goto (-17), 3) ∧ ((66 : Nat) : Int) + (-17) = ((49 : Nat) : Int) := ⟨by decide +kernel, rfl⟩
set_option maxRecDepth 100000 in
set_option maxHeartbeats 4000000 in
theorem g_X8_init_L49 (l : Launch) (G : xa_C) (c0 c1 c2 : Int) (h : xa_H) (K : (Int × Int) ⊕ (Int) → Option xa_O) (hb : ∀ (v3 : Int) (v4 : Int), xa_G l G 5 mX8_init (some (Sum.inl ((v3, v4)))) K 49 [some (xR c0), some (xR c1), some (xI c2), some (xI v3), some (xI v4)] [] h) (hx : ∀ (v3 : Int), xa_G l G 5 mX8_init (some (Sum.inr v3)) K 69 [some (xR c0), some (xR c1), some (xI c2), some (xI v3), none] [] h) : ∀ (v3 : Int) (v4 : Int), xa_G l G 5 mX8_init (f_X8_init_L49 c0 c1 c2 h v3 v4) K 49 [some (xR c0), some (xR c1), some (xI c2), some (xI v3), some (xI v4)] [] h := by
  intro v3 v4
  unfold f_X8_init_L49
  refine xa_step (xa_iload d_X8_init_49 rfl) ?_
  refine xa_step (xa_aload_n d_X8_init_51 rfl) ?_
  refine xa_getf xI xc_8 (by decide) (fun _ => rfl) xw_1058 rfl d_X8_init_52 (fun x10 _ => ?_)
  refine xa_if (xa_icmpgt d_X8_init_55) (fun q11 => ?_) (fun q11 => ?_)
  · exact xa_weak (ls' := [some (xR c0), some (xR c1), some (xI c2), some (xI v3), none]) ⟨rfl, rfl, rfl, rfl, trivial⟩ (hx v3)
  · refine xa_step (xa_iload_n d_X8_init_58 rfl) ?_
    refine xa_step (xa_iload d_X8_init_59 rfl) ?_
    refine xa_step (xa_imul d_X8_init_61) ?_
    refine xa_step (xa_istore_n (ls' := [some (xR c0), some (xR c1), some (xI c2), some (xI (w32 (v3 * v4))), some (xI v4)]) d_X8_init_62 (by decide) rfl) ?_
    refine xa_step (xa_iinc (ls' := [some (xR c0), some (xR c1), some (xI c2), some (xI (w32 (v3 * v4))), some (xI (w32 (v4 + 1)))]) d_X8_init_63 xq_i_1 rfl (by decide) rfl) ?_
    refine xa_step (xa_goto d_X8_init_66) ?_
    exact xa_weak (ls' := [some (xR c0), some (xR c1), some (xI c2), some (xI (w32 (v3 * v4))), some (xI (w32 (v4 + 1)))]) ⟨rfl, rfl, rfl, rfl, rfl, trivial⟩ (hb (w32 (v3 * v4)) (w32 (v4 + 1)))
theorem d_X8_init_69 : decode mX8_init.1 69 = .ok (.aload_n 0, 1) ∧ 69 + 1 = 70 := ⟨by decide +kernel, rfl⟩
theorem d_X8_init_70 : decode mX8_init.1 70 = .ok (.iload_n 3, 1) ∧ 70 + 1 = 71 := ⟨by decide +kernel, rfl⟩
theorem d_X8_init_71 : decode mX8_init.1 71 = .ok (.newarray .int, 2) ∧ 71 + 2 = 73 := ⟨by decide +kernel, rfl⟩
theorem d_X8_init_73 : decode mX8_init.1 73 = .ok (.putfield 34, 3) ∧ 73 + 3 = 76 := ⟨by decide +kernel, rfl⟩
theorem d_X8_init_76 : decode mX8_init.1 76 = .ok (.aload_n 0, 1) ∧ 76 + 1 = 77 := ⟨by decide +kernel, rfl⟩
theorem d_X8_init_77 : decode mX8_init.1 77 = .ok (.iload_n 3, 1) ∧ 77 + 1 = 78 := ⟨by decide +kernel, rfl⟩
theorem d_X8_init_78 : decode mX8_init.1 78 = .ok (.newarray .int, 2) ∧ 78 + 2 = 80 := ⟨by decide +kernel, rfl⟩
theorem d_X8_init_80 : decode mX8_init.1 80 = .ok (.putfield 37, 3) ∧ 80 + 3 = 83 := ⟨by decide +kernel, rfl⟩
theorem d_X8_init_83 : decode mX8_init.1 83 = .ok (.aload_n 0, 1) ∧ 83 + 1 = 84 := ⟨by decide +kernel, rfl⟩
theorem d_X8_init_84 : decode mX8_init.1 84 = .ok (.getfield 34, 3) ∧ 84 + 3 = 87 := ⟨by decide +kernel, rfl⟩
theorem d_X8_init_87 : decode mX8_init.1 87 = .ok (.iconst (-1), 1) ∧ 87 + 1 = 88 := ⟨by decide +kernel, rfl⟩
theorem d_X8_init_88 : decode mX8_init.1 88 = .ok (.invokestatic 40, 3) ∧ 88 + 3 = 91 := ⟨by decide +kernel, rfl⟩
theorem d_X8_init_91 : decode mX8_init.1 91 = .ok (.aload_n 0, 1) ∧ 91 + 1 = 92 := ⟨by decide +kernel, rfl⟩
theorem d_X8_init_92 : decode mX8_init.1 92 = .ok (.aload_n 1, 1) ∧ 92 + 1 = 93 := ⟨by decide +kernel, rfl⟩
theorem d_X8_init_93 : decode mX8_init.1 93 = .ok (.iload_n 2, 1) ∧ 93 + 1 = 94 := ⟨by decide +kernel, rfl⟩
theorem d_X8_init_94 : decode mX8_init.1 94 = .ok (.invokevirtual 46, 3) ∧ 94 + 3 = 97 := ⟨by decide +kernel, rfl⟩
theorem d_X8_init_97 : decode mX8_init.1 97 = .ok (.iconst 0, 1) ∧ 97 + 1 = 98 := ⟨by decide +kernel, rfl⟩
theorem d_X8_init_98 : decode mX8_init.1 98 = .ok (.istore 4, 2) ∧ 98 + 2 = 100 := ⟨by decide +kernel, rfl⟩
theorem d_X8_init_100 : decode mX8_init.1 100 = .ok (.iload 4, 2) ∧ 100 + 2 = 102 := ⟨by decide +kernel, rfl⟩
theorem d_X8_init_102 : decode mX8_init.1 102 = .ok (.aload_n 0, 1) ∧ 102 + 1 = 103 := ⟨by decide +kernel, rfl⟩
theorem d_X8_init_103 : decode mX8_init.1 103 = .ok (.getfield 33, 3) ∧ 103 + 3 = 106 := ⟨by decide +kernel, rfl⟩
theorem d_X8_init_106 : decode mX8_init.1 106 = .ok (.if_icmp .ge 18, 3) ∧ 106 + 3 = 109 ∧ ((106 : Nat) : Int) + 18 = ((124 : Nat) : Int) := ⟨by decide +kernel, rfl, rfl⟩
theorem d_X8_init_109 : decode mX8_init.1 109 = .ok (.aload_n 0, 1) ∧ 109 + 1 = 110 := ⟨by decide +kernel, rfl⟩
theorem d_X8_init_110 : decode mX8_init.1 110 = .ok (.getfield 25, 3) ∧ 110 + 3 = 113 := ⟨by decide +kernel, rfl⟩
theorem d_X8_init_113 : decode mX8_init.1 113 = .ok (.iload 4, 2) ∧ 113 + 2 = 115 := ⟨by decide +kernel, rfl⟩
theorem d_X8_init_115 : decode mX8_init.1 115 = .ok (.iload 4, 2) ∧ 115 + 2 = 117 := ⟨by decide +kernel, rfl⟩
theorem d_X8_init_117 : decode mX8_init.1 117 = .ok (.iastore, 1) ∧ 117 + 1 = 118 := ⟨by decide +kernel, rfl⟩
theorem d_X8_init_118 : decode mX8_init.1 118 = .ok (.iinc 4 1, 3) ∧ 118 + 3 = 121 := ⟨by decide +kernel, rfl⟩
theorem d_X8_init_121 : decode mX8_init.1 121 = .ok (.goto (-21), 3) ∧ ((121 : Nat) : Int) + (-21) = ((100 : Nat) : Int) := ⟨by decide +kernel, rfl⟩
set_option maxRecDepth 100000 in
set_option maxHeartbeats 4000000 in
theorem g_X8_init_L100 (l : Launch) (G : xa_C) (c0 : Int) (K : (Int × xa_H) ⊕ (xa_H) → Option xa_O) (hb : ∀ (v4 : Int) (h : xa_H), xa_G l G 5 mX8_init (some (Sum.inl ((v4, h)))) K 100 [some (xR c0), none, none, none, some (xI v4)] [] h) (hx : ∀ (h : xa_H), xa_G l G 5 mX8_init (some (Sum.inr h)) K 124 [some (xR c0), none, none, none, none] [] h) : ∀ (v4 : Int) (h : xa_H), xa_G l G 5 mX8_init (f_X8_init_L100 c0 v4 h) K 100 [some (xR c0), none, none, none, some (xI v4)] [] h := by
  intro v4 h
  unfold f_X8_init_L100
  refine xa_step (xa_iload d_X8_init_100 rfl) ?_
  refine xa_step (xa_aload_n d_X8_init_102 rfl) ?_
  refine xa_getf xI xc_8 (by decide) (fun _ => rfl) xw_1058 rfl d_X8_init_103 (fun x20 _ => ?_)
  refine xa_if (xa_icmpge d_X8_init_106) (fun q21 => ?_) (fun q21 => ?_)
  · refine xa_step (xa_aload_n d_X8_init_109 rfl) ?_
    refine xa_getf xR xc_8 (by decide) (fun _ => rfl) xw_1065 rfl d_X8_init_110 (fun x22 _ => ?_)
    refine xa_step (xa_iload d_X8_init_113 rfl) ?_
    refine xa_step (xa_iload d_X8_init_115 rfl) ?_
    refine xa_iastore2 d_X8_init_117 (fun h23 _ => ?_)
    refine xa_step (xa_iinc (ls' := [some (xR c0), none, none, none, some (xI (w32 (v4 + 1)))]) d_X8_init_118 xq_i_1 rfl (by decide) rfl) ?_
    refine xa_step (xa_goto d_X8_init_121) ?_
    exact xa_weak (ls' := [some (xR c0), none, none, none, some (xI (w32 (v4 + 1)))]) ⟨rfl, rfl, trivial⟩ (hb (w32 (v4 + 1)) h23)
  · exact xa_weak (ls' := [some (xR c0), none, none, none, none]) ⟨rfl, trivial⟩ (hx h)
theorem d_X8_init_124 : decode mX8_init.1 124 = .ok (.aload_n 0, 1) ∧ 124 + 1 = 125 := ⟨by decide +kernel, rfl⟩
theorem d_X8_init_125 : decode mX8_init.1 125 = .ok (.iconst 0, 1) ∧ 125 + 1 = 126 := ⟨by decide +kernel, rfl⟩
theorem d_X8_init_126 : decode mX8_init.1 126 = .ok (.invokevirtual 50, 3) ∧ 126 + 3 = 129 := ⟨by decide +kernel, rfl⟩
theorem d_X8_init_129 : decode mX8_init.1 129 = .ok (.return_, 1) := by decide +kernel
set_option maxRecDepth 100000 in
set_option maxHeartbeats 4000000 in
theorem g_X8_init (l : Launch) (G : xa_C) (v0 v1 v2 : Int) (h : xa_H) : xa_G l G 5 mX8_init (f_X8_init v0 v1 v2 h) (fun r => some (none, r) : xa_H → Option xa_O) 0 [some (xR v0), some (xR v1), some (xI v2), none, none] [] h := by
  unfold f_X8_init
  refine xa_step (xa_aload_n d_X8_init_0 rfl) ?_
  refine xa_objInit (ci := 8) xw_1038 xw_188 xw_189 (by decide) (Nat.le_of_ble_eq_true rfl) d_X8_init_1 (fun _ => ?_)
  refine xa_step (xa_aload_n d_X8_init_4 rfl) ?_
  refine xa_step (xa_sipush d_X8_init_5 xq_s_165) ?_
  refine xa_newarr 0 .int (by decide) rfl xw_291 d_X8_init_8 (fun h1 _ => ?_)
  refine xa_putF2 (tg := xR) xc_8 (by decide) (fun _ => rfl) rfl rfl rfl (fun c hc => xa_fitA c hc) xw_1059 rfl d_X8_init_10 (fun h2 _ => ?_)
  refine xa_step (xa_aload_n d_X8_init_13 rfl) ?_
  refine xa_step (xa_iconst d_X8_init_14 xq_i_0) ?_
  refine xa_putf2 (tg := xI) xc_8 (by decide) (fun _ => rfl) rfl (fun c hc => xa_fitI c hc) xw_1060 rfl d_X8_init_15 (fun h3 _ => ?_)
  refine xa_step (xa_aload_n d_X8_init_18 rfl) ?_
  refine xa_step (xa_iconst d_X8_init_19 xq_i_0) ?_
  refine xa_putf2 (tg := xI) xc_8 (by decide) (fun _ => rfl) rfl (fun c hc => xa_fitI c hc) xw_1063 rfl d_X8_init_20 (fun h4 _ => ?_)
  refine xa_step (xa_aload_n d_X8_init_23 rfl) ?_
  refine xa_step (xa_iconst d_X8_init_24 xq_i_0) ?_
  refine xa_putf2 (tg := xI) xc_8 (by decide) (fun _ => rfl) rfl (fun c hc => xa_fitI c hc) xw_1064 rfl d_X8_init_25 (fun h5 _ => ?_)
  refine xa_step (xa_aload_n d_X8_init_28 rfl) ?_
  refine xa_step (xa_bipush d_X8_init_29 xq_b_6) ?_
  refine xa_newarr 0 .int (by decide) rfl xw_291 d_X8_init_31 (fun h6 _ => ?_)
  refine xa_putF2 (tg := xR) xc_8 (by decide) (fun _ => rfl) rfl rfl rfl (fun c hc => xa_fitA c hc) xw_1065 rfl d_X8_init_33 (fun h7 _ => ?_)
  refine xa_step (xa_aload_n d_X8_init_36 rfl) ?_
  refine xa_step (xa_aload_n d_X8_init_37 rfl) ?_
  refine xa_getf xI xc_0 (by decide) (fun _ => rfl) xw_388 rfl d_X8_init_38 (fun x8 _ => ?_)
  refine xa_putF2 (tg := xI) xc_8 (by decide) (fun _ => rfl) rfl rfl rfl (fun c hc => xa_fitI c hc) xw_1058 rfl d_X8_init_41 (fun h9 _ => ?_)
  refine xa_step (xa_iconst d_X8_init_44 xq_i_1) ?_
  refine xa_step (xa_istore_n (ls' := [some (xR v0), some (xR v1), some (xI v2), some (xI 1), none]) d_X8_init_45 (by decide) rfl) ?_
  refine xa_step (xa_iconst d_X8_init_46 xq_i_2) ?_
  refine xa_step (xa_istore (ls' := [some (xR v0), some (xR v1), some (xI v2), some (xI 1), some (xI 2)]) d_X8_init_47 (by decide) rfl) ?_
  refine xa_weak (ls' := [some (xR v0), some (xR v1), some (xI v2), some (xI 1), some (xI 2)]) ⟨rfl, rfl, rfl, rfl, rfl, trivial⟩ ?_
  refine xa_loop (f := fun s => f_X8_init_L49 v0 v1 v2 h9 s.1 s.2) (L := fun s => [some (xR v0), some (xR v1), some (xI v2), some (xI s.1), some (xI s.2)]) (P := fun s => h9) (X := (fun x K => xa_G l G 5 mX8_init (some (Sum.inr x)) K 69 [some (xR v0), some (xR v1), some (xI v2), some (xI x), none] [] h9)) (fun K hb hX s => g_X8_init_L49 l G v0 v1 v2 h9 K (fun w0 w1 => hb ((w0, w1))) (fun w0 => hX w0) s.1 s.2) ?_ xFU ((1, 2))
  intro e12 K hK
  refine xa_eqE hK ?_
  show xa_G l G 5 mX8_init _ _ 69 [some (xR v0), some (xR v1), some (xI v2), some (xI e12), none] [] h9
  refine xa_step (xa_aload_n d_X8_init_69 rfl) ?_
  refine xa_step (xa_iload_n d_X8_init_70 rfl) ?_
  refine xa_newarr 0 .int (by decide) rfl xw_291 d_X8_init_71 (fun h13 _ => ?_)
  refine xa_putF2 (tg := xR) xc_8 (by decide) (fun _ => rfl) rfl rfl rfl (fun c hc => xa_fitA c hc) xw_1061 rfl d_X8_init_73 (fun h14 _ => ?_)
  refine xa_step (xa_aload_n d_X8_init_76 rfl) ?_
  refine xa_step (xa_iload_n d_X8_init_77 rfl) ?_
  refine xa_newarr 0 .int (by decide) rfl xw_291 d_X8_init_78 (fun h15 _ => ?_)
  refine xa_putF2 (tg := xR) xc_8 (by decide) (fun _ => rfl) rfl rfl rfl (fun c hc => xa_fitA c hc) xw_1062 rfl d_X8_init_80 (fun h16 _ => ?_)
  refine xa_step (xa_aload_n d_X8_init_83 rfl) ?_
  refine xa_getf xR xc_8 (by decide) (fun _ => rfl) xw_1061 rfl d_X8_init_84 (fun x17 _ => ?_)
  refine xa_step (xa_iconst d_X8_init_87 xq_i_m1) ?_
  refine xa_callSV (as := [xR x17, xI ((-1))]) (st := []) (M' := mJ7_fill_53178) (d' := 2) xw_1039 xw_378 xw_379 xw_171 xh_J7_fill_53178 rfl ⟨Nat.le_of_ble_eq_true rfl, Nat.le_of_ble_eq_true rfl⟩ (Nat.le_of_ble_eq_true rfl) rfl d_X8_init_88 (fun r hr => ct_J7_fill_53178 l G x17 ((-1)) h16 r hr) (fun r18 _ => ?_)
  refine xa_step (xa_aload_n d_X8_init_91 rfl) ?_
  refine xa_step (xa_aload_n d_X8_init_92 rfl) ?_
  refine xa_step (xa_iload_n d_X8_init_93 rfl) ?_
  refine xa_callVV (as := [xR v1, xI v2]) (st := []) (M' := mX8_addMoves) (d' := 3) rfl xw_1040 xw_1042 xw_42 xw_1043 xw_181 xh_X8_addMoves rfl ⟨Nat.le_of_ble_eq_true rfl, Nat.le_of_ble_eq_true rfl⟩ (Nat.le_of_ble_eq_true rfl) rfl d_X8_init_94 (fun r hr => ct_X8_addMoves l G v0 v1 v2 r18 r hr) (fun r19 _ => ?_)
  refine xa_step (xa_iconst d_X8_init_97 xq_i_0) ?_
  refine xa_step (xa_istore (ls' := [some (xR v0), some (xR v1), some (xI v2), some (xI e12), some (xI 0)]) d_X8_init_98 (by decide) rfl) ?_
  refine xa_weak (ls' := [some (xR v0), none, none, none, some (xI 0)]) ⟨rfl, rfl, trivial⟩ ?_
  refine xa_loop (f := fun s => f_X8_init_L100 v0 s.1 s.2) (L := fun s => [some (xR v0), none, none, none, some (xI s.1)]) (P := fun s => s.2) (X := (fun x K => xa_G l G 5 mX8_init (some (Sum.inr x)) K 124 [some (xR v0), none, none, none, none] [] x)) (fun K hb hX s => g_X8_init_L100 l G v0 K (fun w0 hh => hb ((w0, hh))) (fun hh => hX hh) s.1 s.2) ?_ xFU ((0, r19))
  intro e24 K hK
  refine xa_eqE hK ?_
  show xa_G l G 5 mX8_init _ _ 124 [some (xR v0), none, none, none, none] [] e24
  refine xa_step (xa_aload_n d_X8_init_124 rfl) ?_
  refine xa_step (xa_iconst d_X8_init_125 xq_i_0) ?_
  refine xa_callVV (as := [xI 0]) (st := []) (M' := mX8_reach) (d' := 4) rfl xw_1049 xw_1051 xw_44 xw_1052 xw_181 xh_X8_reach rfl ⟨Nat.le_of_ble_eq_true rfl, Nat.le_of_ble_eq_true rfl⟩ (Nat.le_of_ble_eq_true rfl) rfl d_X8_init_126 (fun r hr => ct_X8_reach l G v0 0 e24 r hr) (fun r25 _ => ?_)
  exact xa_vret d_X8_init_129 rfl rfl
theorem ct_X8_init (l : Launch) (G : xa_C) (v0 v1 v2 : Int) (h : xa_H) (r : xa_H) (hr : f_X8_init v0 v1 v2 h = some r) : xa_CT l G 5 mX8_init yX8_init [xR v0, xR v1, xI v2] h (none, r) :=
  xa_met (by decide +kernel) rfl (fun q => by first | rfl | cases q) (Nat.le_of_ble_eq_true rfl) rfl (g_X8_init l G v0 v1 v2 h) (by rw [hr]; rfl)
abbrev mX8_swap : xa_M := (cX8_swap, 4, none, RX8, false)
theorem d_X8_swap_0 : decode mX8_swap.1 0 = .ok (.aload_n 0, 1) ∧ 0 + 1 = 1 := ⟨by decide +kernel, rfl⟩
theorem d_X8_swap_1 : decode mX8_swap.1 1 = .ok (.getfield 25, 3) ∧ 1 + 3 = 4 := ⟨by decide +kernel, rfl⟩
theorem d_X8_swap_4 : decode mX8_swap.1 4 = .ok (.iload_n 1, 1) ∧ 4 + 1 = 5 := ⟨by decide +kernel, rfl⟩
theorem d_X8_swap_5 : decode mX8_swap.1 5 = .ok (.iaload, 1) ∧ 5 + 1 = 6 := ⟨by decide +kernel, rfl⟩
theorem d_X8_swap_6 : decode mX8_swap.1 6 = .ok (.istore_n 3, 1) ∧ 6 + 1 = 7 := ⟨by decide +kernel, rfl⟩
theorem d_X8_swap_7 : decode mX8_swap.1 7 = .ok (.aload_n 0, 1) ∧ 7 + 1 = 8 := ⟨by decide +kernel, rfl⟩
theorem d_X8_swap_8 : decode mX8_swap.1 8 = .ok (.getfield 25, 3) ∧ 8 + 3 = 11 := ⟨by decide +kernel, rfl⟩
theorem d_X8_swap_11 : decode mX8_swap.1 11 = .ok (.iload_n 1, 1) ∧ 11 + 1 = 12 := ⟨by decide +kernel, rfl⟩
theorem d_X8_swap_12 : decode mX8_swap.1 12 = .ok (.aload_n 0, 1) ∧ 12 + 1 = 13 := ⟨by decide +kernel, rfl⟩
theorem d_X8_swap_13 : decode mX8_swap.1 13 = .ok (.getfield 25, 3) ∧ 13 + 3 = 16 := ⟨by decide +kernel, rfl⟩
theorem d_X8_swap_16 : decode mX8_swap.1 16 = .ok (.iload_n 2, 1) ∧ 16 + 1 = 17 := ⟨by decide +kernel, rfl⟩
theorem d_X8_swap_17 : decode mX8_swap.1 17 = .ok (.iaload, 1) ∧ 17 + 1 = 18 := ⟨by decide +kernel, rfl⟩
theorem d_X8_swap_18 : decode mX8_swap.1 18 = .ok (.iastore, 1) ∧ 18 + 1 = 19 := ⟨by decide +kernel, rfl⟩
theorem d_X8_swap_19 : decode mX8_swap.1 19 = .ok (.aload_n 0, 1) ∧ 19 + 1 = 20 := ⟨by decide +kernel, rfl⟩
theorem d_X8_swap_20 : decode mX8_swap.1 20 = .ok (.getfield 25, 3) ∧ 20 + 3 = 23 := ⟨by decide +kernel, rfl⟩
theorem d_X8_swap_23 : decode mX8_swap.1 23 = .ok (.iload_n 2, 1) ∧ 23 + 1 = 24 := ⟨by decide +kernel, rfl⟩
theorem d_X8_swap_24 : decode mX8_swap.1 24 = .ok (.iload_n 3, 1) ∧ 24 + 1 = 25 := ⟨by decide +kernel, rfl⟩
theorem d_X8_swap_25 : decode mX8_swap.1 25 = .ok (.iastore, 1) ∧ 25 + 1 = 26 := ⟨by decide +kernel, rfl⟩
theorem d_X8_swap_26 : decode mX8_swap.1 26 = .ok (.return_, 1) := by decide +kernel
set_option maxRecDepth 100000 in
set_option maxHeartbeats 4000000 in
theorem g_X8_swap (l : Launch) (G : xa_C) (v0 v1 v2 : Int) (h : xa_H) : xa_G l G 2 mX8_swap (f_X8_swap v0 v1 v2 h) (fun r => some (none, r) : xa_H → Option xa_O) 0 [some (xR v0), some (xI v1), some (xI v2), none] [] h := by
  unfold f_X8_swap
  refine xa_step (xa_aload_n d_X8_swap_0 rfl) ?_
  refine xa_getf xR xc_8 (by decide) (fun _ => rfl) xw_1065 rfl d_X8_swap_1 (fun x1 _ => ?_)
  refine xa_step (xa_iload_n d_X8_swap_4 rfl) ?_
  refine xa_iaload d_X8_swap_5 (fun x2 _ => ?_)
  refine xa_step (xa_istore_n (ls' := [some (xR v0), some (xI v1), some (xI v2), some (xI x2)]) d_X8_swap_6 (by decide) rfl) ?_
  refine xa_step (xa_aload_n d_X8_swap_7 rfl) ?_
  refine xa_getf xR xc_8 (by decide) (fun _ => rfl) xw_1065 rfl d_X8_swap_8 (fun x3 _ => ?_)
  refine xa_step (xa_iload_n d_X8_swap_11 rfl) ?_
  refine xa_step (xa_aload_n d_X8_swap_12 rfl) ?_
  refine xa_getf xR xc_8 (by decide) (fun _ => rfl) xw_1065 rfl d_X8_swap_13 (fun x4 _ => ?_)
  refine xa_step (xa_iload_n d_X8_swap_16 rfl) ?_
  refine xa_iaload d_X8_swap_17 (fun x5 _ => ?_)
  refine xa_iastore2 d_X8_swap_18 (fun h6 _ => ?_)
  refine xa_step (xa_aload_n d_X8_swap_19 rfl) ?_
  refine xa_getf xR xc_8 (by decide) (fun _ => rfl) xw_1065 rfl d_X8_swap_20 (fun x7 _ => ?_)
  refine xa_step (xa_iload_n d_X8_swap_23 rfl) ?_
  refine xa_step (xa_iload_n d_X8_swap_24 rfl) ?_
  refine xa_iastore2 d_X8_swap_25 (fun h8 _ => ?_)
  exact xa_vret d_X8_swap_26 rfl rfl
theorem ct_X8_swap (l : Launch) (G : xa_C) (v0 v1 v2 : Int) (h : xa_H) (r : xa_H) (hr : f_X8_swap v0 v1 v2 h = some r) : xa_CT l G 2 mX8_swap yX8_swap [xR v0, xI v1, xI v2] h (none, r) :=
  xa_met (by decide +kernel) rfl (fun q => by first | rfl | cases q) (Nat.le_of_ble_eq_true rfl) rfl (g_X8_swap l G v0 v1 v2 h) (by rw [hr]; rfl)
abbrev mX8_reachFrom : xa_M := (cX8_reachFrom, 5, none, RX8, false)
theorem d_X8_reachFrom_0 : decode mX8_reachFrom.1 0 = .ok (.iconst 0, 1) ∧ 0 + 1 = 1 := ⟨by decide +kernel, rfl⟩
theorem d_X8_reachFrom_1 : decode mX8_reachFrom.1 1 = .ok (.istore_n 2, 1) ∧ 1 + 1 = 2 := ⟨by decide +kernel, rfl⟩
theorem d_X8_reachFrom_2 : decode mX8_reachFrom.1 2 = .ok (.iload_n 2, 1) ∧ 2 + 1 = 3 := ⟨by decide +kernel, rfl⟩
theorem d_X8_reachFrom_3 : decode mX8_reachFrom.1 3 = .ok (.aload_n 0, 1) ∧ 3 + 1 = 4 := ⟨by decide +kernel, rfl⟩
theorem d_X8_reachFrom_4 : decode mX8_reachFrom.1 4 = .ok (.getfield 33, 3) ∧ 4 + 3 = 7 := ⟨by decide +kernel, rfl⟩
theorem d_X8_reachFrom_7 : decode mX8_reachFrom.1 7 = .ok (.if_icmp .ge 23, 3) ∧ 7 + 3 = 10 ∧ ((7 : Nat) : Int) + 23 = ((30 : Nat) : Int) := ⟨by decide +kernel, rfl, rfl⟩
theorem d_X8_reachFrom_10 : decode mX8_reachFrom.1 10 = .ok (.aload_n 0, 1) ∧ 10 + 1 = 11 := ⟨by decide +kernel, rfl⟩
theorem d_X8_reachFrom_11 : decode mX8_reachFrom.1 11 = .ok (.getfield 25, 3) ∧ 11 + 3 = 14 := ⟨by decide +kernel, rfl⟩
theorem d_X8_reachFrom_14 : decode mX8_reachFrom.1 14 = .ok (.iload_n 2, 1) ∧ 14 + 1 = 15 := ⟨by decide +kernel, rfl⟩
theorem d_X8_reachFrom_15 : decode mX8_reachFrom.1 15 = .ok (.iload_n 1, 1) ∧ 15 + 1 = 16 := ⟨by decide +kernel, rfl⟩
theorem d_X8_reachFrom_16 : decode mX8_reachFrom.1 16 = .ok (.iconst 3, 1) ∧ 16 + 1 = 17 := ⟨by decide +kernel, rfl⟩
theorem d_X8_reachFrom_17 : decode mX8_reachFrom.1 17 = .ok (.iload_n 2, 1) ∧ 17 + 1 = 18 := ⟨by decide +kernel, rfl⟩
theorem d_X8_reachFrom_18 : decode mX8_reachFrom.1 18 = .ok (.imul, 1) ∧ 18 + 1 = 19 := ⟨by decide +kernel, rfl⟩
theorem d_X8_reachFrom_19 : decode mX8_reachFrom.1 19 = .ok (.ishr, 1) ∧ 19 + 1 = 20 := ⟨by decide +kernel, rfl⟩
theorem d_X8_reachFrom_20 : decode mX8_reachFrom.1 20 = .ok (.bipush 7, 2) ∧ 20 + 2 = 22 := ⟨by decide +kernel, rfl⟩
theorem d_X8_reachFrom_22 : decode mX8_reachFrom.1 22 = .ok (.iand, 1) ∧ 22 + 1 = 23 := ⟨by decide +kernel, rfl⟩
theorem d_X8_reachFrom_23 : decode mX8_reachFrom.1 23 = .ok (.iastore, 1) ∧ 23 + 1 = 24 := ⟨by decide +kernel, rfl⟩
theorem d_X8_reachFrom_24 : decode mX8_reachFrom.1 24 = .ok (.iinc 2 1, 3) ∧ 24 + 3 = 27 := ⟨by decide +kernel, rfl⟩
theorem d_X8_reachFrom_27 : decode mX8_reachFrom.1 27 = .ok (.goto (-25), 3) ∧ ((27 : Nat) : Int) + (-25) = ((2 : Nat) : Int) := ⟨by decide +kernel, rfl⟩
set_option maxRecDepth 100000 in
set_option maxHeartbeats 4000000 in
theorem g_X8_reachFrom_L2 (l : Launch) (G : xa_C) (c0 c1 : Int) (K : (Int × xa_H) ⊕ (xa_H) → Option xa_O) (hb : ∀ (v2 : Int) (h : xa_H), xa_G l G 5 mX8_reachFrom (some (Sum.inl ((v2, h)))) K 2 [some (xR c0), some (xI c1), some (xI v2), none, none] [] h) (hx : ∀ (h : xa_H), xa_G l G 5 mX8_reachFrom (some (Sum.inr h)) K 30 [some (xR c0), none, none, none, none] [] h) : ∀ (v2 : Int) (h : xa_H), xa_G l G 5 mX8_reachFrom (f_X8_reachFrom_L2 c0 c1 v2 h) K 2 [some (xR c0), some (xI c1), some (xI v2), none, none] [] h := by
  intro v2 h
  unfold f_X8_reachFrom_L2
  refine xa_step (xa_iload_n d_X8_reachFrom_2 rfl) ?_
  refine xa_step (xa_aload_n d_X8_reachFrom_3 rfl) ?_
  refine xa_getf xI xc_8 (by decide) (fun _ => rfl) xw_1058 rfl d_X8_reachFrom_4 (fun x1 _ => ?_)
  refine xa_if (xa_icmpge d_X8_reachFrom_7) (fun q2 => ?_) (fun q2 => ?_)
  · refine xa_step (xa_aload_n d_X8_reachFrom_10 rfl) ?_
    refine xa_getf xR xc_8 (by decide) (fun _ => rfl) xw_1065 rfl d_X8_reachFrom_11 (fun x3 _ => ?_)
    refine xa_step (xa_iload_n d_X8_reachFrom_14 rfl) ?_
    refine xa_step (xa_iload_n d_X8_reachFrom_15 rfl) ?_
    refine xa_step (xa_iconst d_X8_reachFrom_16 xq_i_3) ?_
    refine xa_step (xa_iload_n d_X8_reachFrom_17 rfl) ?_
    refine xa_step (xa_imul d_X8_reachFrom_18) ?_
    refine xa_step (xa_ishr d_X8_reachFrom_19) ?_
    refine xa_step (xa_bipush d_X8_reachFrom_20 xq_b_7) ?_
    refine xa_step (xa_iand d_X8_reachFrom_22) ?_
    refine xa_iastore2 d_X8_reachFrom_23 (fun h4 _ => ?_)
    refine xa_step (xa_iinc (ls' := [some (xR c0), some (xI c1), some (xI (w32 (v2 + 1))), none, none]) d_X8_reachFrom_24 xq_i_1 rfl (by decide) rfl) ?_
    refine xa_step (xa_goto d_X8_reachFrom_27) ?_
    exact xa_weak (ls' := [some (xR c0), some (xI c1), some (xI (w32 (v2 + 1))), none, none]) ⟨rfl, rfl, rfl, trivial⟩ (hb (w32 (v2 + 1)) h4)
  · exact xa_weak (ls' := [some (xR c0), none, none, none, none]) ⟨rfl, trivial⟩ (hx h)
theorem d_X8_reachFrom_30 : decode mX8_reachFrom.1 30 = .ok (.aload_n 0, 1) ∧ 30 + 1 = 31 := ⟨by decide +kernel, rfl⟩
theorem d_X8_reachFrom_31 : decode mX8_reachFrom.1 31 = .ok (.getfield 34, 3) ∧ 31 + 3 = 34 := ⟨by decide +kernel, rfl⟩
theorem d_X8_reachFrom_34 : decode mX8_reachFrom.1 34 = .ok (.aload_n 0, 1) ∧ 34 + 1 = 35 := ⟨by decide +kernel, rfl⟩
theorem d_X8_reachFrom_35 : decode mX8_reachFrom.1 35 = .ok (.invokevirtual 68, 3) ∧ 35 + 3 = 38 := ⟨by decide +kernel, rfl⟩
theorem d_X8_reachFrom_38 : decode mX8_reachFrom.1 38 = .ok (.iaload, 1) ∧ 38 + 1 = 39 := ⟨by decide +kernel, rfl⟩
theorem d_X8_reachFrom_39 : decode mX8_reachFrom.1 39 = .ok (.iconst 1, 1) ∧ 39 + 1 = 40 := ⟨by decide +kernel, rfl⟩
theorem d_X8_reachFrom_40 : decode mX8_reachFrom.1 40 = .ok (.iadd, 1) ∧ 40 + 1 = 41 := ⟨by decide +kernel, rfl⟩
theorem d_X8_reachFrom_41 : decode mX8_reachFrom.1 41 = .ok (.istore_n 2, 1) ∧ 41 + 1 = 42 := ⟨by decide +kernel, rfl⟩
theorem d_X8_reachFrom_42 : decode mX8_reachFrom.1 42 = .ok (.iconst 0, 1) ∧ 42 + 1 = 43 := ⟨by decide +kernel, rfl⟩
theorem d_X8_reachFrom_43 : decode mX8_reachFrom.1 43 = .ok (.istore_n 3, 1) ∧ 43 + 1 = 44 := ⟨by decide +kernel, rfl⟩
theorem d_X8_reachFrom_44 : decode mX8_reachFrom.1 44 = .ok (.iload_n 3, 1) ∧ 44 + 1 = 45 := ⟨by decide +kernel, rfl⟩
theorem d_X8_reachFrom_45 : decode mX8_reachFrom.1 45 = .ok (.aload_n 0, 1) ∧ 45 + 1 = 46 := ⟨by decide +kernel, rfl⟩
theorem d_X8_reachFrom_46 : decode mX8_reachFrom.1 46 = .ok (.getfield 15, 3) ∧ 46 + 3 = 49 := ⟨by decide +kernel, rfl⟩
theorem d_X8_reachFrom_49 : decode mX8_reachFrom.1 49 = .ok (.if_icmp .ge 100, 3) ∧ 49 + 3 = 52 ∧ ((49 : Nat) : Int) + 100 = ((149 : Nat) : Int) := ⟨by decide +kernel, rfl, rfl⟩
theorem d_X8_reachFrom_52 : decode mX8_reachFrom.1 52 = .ok (.aload_n 0, 1) ∧ 52 + 1 = 53 := ⟨by decide +kernel, rfl⟩
theorem d_X8_reachFrom_53 : decode mX8_reachFrom.1 53 = .ok (.getfield 9, 3) ∧ 53 + 3 = 56 := ⟨by decide +kernel, rfl⟩
theorem d_X8_reachFrom_56 : decode mX8_reachFrom.1 56 = .ok (.iload_n 3, 1) ∧ 56 + 1 = 57 := ⟨by decide +kernel, rfl⟩
theorem d_X8_reachFrom_57 : decode mX8_reachFrom.1 57 = .ok (.iconst 2, 1) ∧ 57 + 1 = 58 := ⟨by decide +kernel, rfl⟩
theorem d_X8_reachFrom_58 : decode mX8_reachFrom.1 58 = .ok (.iadd, 1) ∧ 58 + 1 = 59 := ⟨by decide +kernel, rfl⟩
theorem d_X8_reachFrom_59 : decode mX8_reachFrom.1 59 = .ok (.iaload, 1) ∧ 59 + 1 = 60 := ⟨by decide +kernel, rfl⟩
theorem d_X8_reachFrom_60 : decode mX8_reachFrom.1 60 = .ok (.istore 4, 2) ∧ 60 + 2 = 62 := ⟨by decide +kernel, rfl⟩
theorem d_X8_reachFrom_62 : decode mX8_reachFrom.1 62 = .ok (.aload_n 0, 1) ∧ 62 + 1 = 63 := ⟨by decide +kernel, rfl⟩
theorem d_X8_reachFrom_63 : decode mX8_reachFrom.1 63 = .ok (.aload_n 0, 1) ∧ 63 + 1 = 64 := ⟨by decide +kernel, rfl⟩
theorem d_X8_reachFrom_64 : decode mX8_reachFrom.1 64 = .ok (.getfield 9, 3) ∧ 64 + 3 = 67 := ⟨by decide +kernel, rfl⟩
theorem d_X8_reachFrom_67 : decode mX8_reachFrom.1 67 = .ok (.iload_n 3, 1) ∧ 67 + 1 = 68 := ⟨by decide +kernel, rfl⟩
theorem d_X8_reachFrom_68 : decode mX8_reachFrom.1 68 = .ok (.iaload, 1) ∧ 68 + 1 = 69 := ⟨by decide +kernel, rfl⟩
theorem d_X8_reachFrom_69 : decode mX8_reachFrom.1 69 = .ok (.aload_n 0, 1) ∧ 69 + 1 = 70 := ⟨by decide +kernel, rfl⟩
theorem d_X8_reachFrom_70 : decode mX8_reachFrom.1 70 = .ok (.getfield 9, 3) ∧ 70 + 3 = 73 := ⟨by decide +kernel, rfl⟩
theorem d_X8_reachFrom_73 : decode mX8_reachFrom.1 73 = .ok (.iload_n 3, 1) ∧ 73 + 1 = 74 := ⟨by decide +kernel, rfl⟩
theorem d_X8_reachFrom_74 : decode mX8_reachFrom.1 74 = .ok (.iconst 1, 1) ∧ 74 + 1 = 75 := ⟨by decide +kernel, rfl⟩
theorem d_X8_reachFrom_75 : decode mX8_reachFrom.1 75 = .ok (.iadd, 1) ∧ 75 + 1 = 76 := ⟨by decide +kernel, rfl⟩
theorem d_X8_reachFrom_76 : decode mX8_reachFrom.1 76 = .ok (.iaload, 1) ∧ 76 + 1 = 77 := ⟨by decide +kernel, rfl⟩
theorem d_X8_reachFrom_77 : decode mX8_reachFrom.1 77 = .ok (.invokevirtual 75, 3) ∧ 77 + 3 = 80 := ⟨by decide +kernel, rfl⟩
theorem d_X8_reachFrom_80 : decode mX8_reachFrom.1 80 = .ok (.iload 4, 2) ∧ 80 + 2 = 82 := ⟨by decide +kernel, rfl⟩
theorem d_X8_reachFrom_82 : decode mX8_reachFrom.1 82 = .ok (.iconst (-1), 1) ∧ 82 + 1 = 83 := ⟨by decide +kernel, rfl⟩
theorem d_X8_reachFrom_83 : decode mX8_reachFrom.1 83 = .ok (.if_icmp .eq 17, 3) ∧ 83 + 3 = 86 ∧ ((83 : Nat) : Int) + 17 = ((100 : Nat) : Int) := ⟨by decide +kernel, rfl, rfl⟩
theorem d_X8_reachFrom_100 : decode mX8_reachFrom.1 100 = .ok (.aload_n 0, 1) ∧ 100 + 1 = 101 := ⟨by decide +kernel, rfl⟩
theorem d_X8_reachFrom_101 : decode mX8_reachFrom.1 101 = .ok (.iload_n 2, 1) ∧ 101 + 1 = 102 := ⟨by decide +kernel, rfl⟩
theorem d_X8_reachFrom_102 : decode mX8_reachFrom.1 102 = .ok (.invokevirtual 50, 3) ∧ 102 + 3 = 105 := ⟨by decide +kernel, rfl⟩
theorem d_X8_reachFrom_105 : decode mX8_reachFrom.1 105 = .ok (.iload 4, 2) ∧ 105 + 2 = 107 := ⟨by decide +kernel, rfl⟩
theorem d_X8_reachFrom_107 : decode mX8_reachFrom.1 107 = .ok (.iconst (-1), 1) ∧ 107 + 1 = 108 := ⟨by decide +kernel, rfl⟩
theorem d_X8_reachFrom_108 : decode mX8_reachFrom.1 108 = .ok (.if_icmp .eq 17, 3) ∧ 108 + 3 = 111 ∧ ((108 : Nat) : Int) + 17 = ((125 : Nat) : Int) := ⟨by decide +kernel, rfl, rfl⟩
theorem d_X8_reachFrom_125 : decode mX8_reachFrom.1 125 = .ok (.aload_n 0, 1) ∧ 125 + 1 = 126 := ⟨by decide +kernel, rfl⟩
theorem d_X8_reachFrom_126 : decode mX8_reachFrom.1 126 = .ok (.aload_n 0, 1) ∧ 126 + 1 = 127 := ⟨by decide +kernel, rfl⟩
theorem d_X8_reachFrom_127 : decode mX8_reachFrom.1 127 = .ok (.getfield 9, 3) ∧ 127 + 3 = 130 := ⟨by decide +kernel, rfl⟩
theorem d_X8_reachFrom_130 : decode mX8_reachFrom.1 130 = .ok (.iload_n 3, 1) ∧ 130 + 1 = 131 := ⟨by decide +kernel, rfl⟩
theorem d_X8_reachFrom_131 : decode mX8_reachFrom.1 131 = .ok (.iaload, 1) ∧ 131 + 1 = 132 := ⟨by decide +kernel, rfl⟩
theorem d_X8_reachFrom_132 : decode mX8_reachFrom.1 132 = .ok (.aload_n 0, 1) ∧ 132 + 1 = 133 := ⟨by decide +kernel, rfl⟩
theorem d_X8_reachFrom_133 : decode mX8_reachFrom.1 133 = .ok (.getfield 9, 3) ∧ 133 + 3 = 136 := ⟨by decide +kernel, rfl⟩
theorem d_X8_reachFrom_136 : decode mX8_reachFrom.1 136 = .ok (.iload_n 3, 1) ∧ 136 + 1 = 137 := ⟨by decide +kernel, rfl⟩
theorem d_X8_reachFrom_137 : decode mX8_reachFrom.1 137 = .ok (.iconst 1, 1) ∧ 137 + 1 = 138 := ⟨by decide +kernel, rfl⟩
theorem d_X8_reachFrom_138 : decode mX8_reachFrom.1 138 = .ok (.iadd, 1) ∧ 138 + 1 = 139 := ⟨by decide +kernel, rfl⟩
theorem d_X8_reachFrom_139 : decode mX8_reachFrom.1 139 = .ok (.iaload, 1) ∧ 139 + 1 = 140 := ⟨by decide +kernel, rfl⟩
theorem d_X8_reachFrom_140 : decode mX8_reachFrom.1 140 = .ok (.invokevirtual 75, 3) ∧ 140 + 3 = 143 := ⟨by decide +kernel, rfl⟩
theorem d_X8_reachFrom_143 : decode mX8_reachFrom.1 143 = .ok (.iinc 3 3, 3) ∧ 143 + 3 = 146 := ⟨by decide +kernel, rfl⟩
theorem d_X8_reachFrom_146 : decode mX8_reachFrom.1 146 = .ok (.goto (-102), 3) ∧ ((146 : Nat) : Int) + (-102) = ((44 : Nat) : Int) := ⟨by decide +kernel, rfl⟩
set_option maxRecDepth 100000 in
set_option maxHeartbeats 4000000 in
theorem g_X8_reachFrom_J125L44 (l : Launch) (G : xa_C) (c0 c2 : Int) (K : (Int × xa_H) ⊕ (xa_H) → Option xa_O) (hb : ∀ (v3 : Int) (h : xa_H), xa_G l G 5 mX8_reachFrom (some (Sum.inl ((v3, h)))) K 44 [some (xR c0), none, some (xI c2), some (xI v3), none] [] h) (hx : ∀ (h : xa_H), xa_G l G 5 mX8_reachFrom (some (Sum.inr h)) K 149 [none, none, none, none, none] [] h) : ∀ (v3 : Int) (h : xa_H) , xa_G l G 5 mX8_reachFrom (f_X8_reachFrom_J125L44 c0 c2 v3 h) K 125 [some (xR c0), none, some (xI c2), some (xI v3), none] [] h := by
  intro v3 h
  unfold f_X8_reachFrom_J125L44
  refine xa_step (xa_aload_n d_X8_reachFrom_125 rfl) ?_
  refine xa_step (xa_aload_n d_X8_reachFrom_126 rfl) ?_
  refine xa_getf xR xc_8 (by decide) (fun _ => rfl) xw_1059 rfl d_X8_reachFrom_127 (fun x21 _ => ?_)
  refine xa_step (xa_iload_n d_X8_reachFrom_130 rfl) ?_
  refine xa_iaload d_X8_reachFrom_131 (fun x22 _ => ?_)
  refine xa_step (xa_aload_n d_X8_reachFrom_132 rfl) ?_
  refine xa_getf xR xc_8 (by decide) (fun _ => rfl) xw_1059 rfl d_X8_reachFrom_133 (fun x23 _ => ?_)
  refine xa_step (xa_iload_n d_X8_reachFrom_136 rfl) ?_
  refine xa_step (xa_iconst d_X8_reachFrom_137 xq_i_1) ?_
  refine xa_step (xa_iadd d_X8_reachFrom_138) ?_
  refine xa_iaload d_X8_reachFrom_139 (fun x24 _ => ?_)
  refine xa_callVV (as := [xI x22, xI x24]) (st := []) (M' := mX8_swap) (d' := 2) rfl xw_1092 xw_1094 xw_47 xw_1095 xw_181 xh_X8_swap rfl ⟨Nat.le_of_ble_eq_true rfl, Nat.le_of_ble_eq_true rfl⟩ (Nat.le_of_ble_eq_true rfl) rfl d_X8_reachFrom_140 (fun r hr => ct_X8_swap l G c0 x22 x24 h r hr) (fun r25 _ => ?_)
  refine xa_step (xa_iinc (ls' := [some (xR c0), none, some (xI c2), some (xI (w32 (v3 + 3))), none]) d_X8_reachFrom_143 xq_i_3 rfl (by decide) rfl) ?_
  refine xa_step (xa_goto d_X8_reachFrom_146) ?_
  exact xa_weak (ls' := [some (xR c0), none, some (xI c2), some (xI (w32 (v3 + 3))), none]) ⟨rfl, rfl, rfl, trivial⟩ (hb (w32 (v3 + 3)) r25)
theorem d_X8_reachFrom_111 : decode mX8_reachFrom.1 111 = .ok (.aload_n 0, 1) ∧ 111 + 1 = 112 := ⟨by decide +kernel, rfl⟩
theorem d_X8_reachFrom_112 : decode mX8_reachFrom.1 112 = .ok (.aload_n 0, 1) ∧ 112 + 1 = 113 := ⟨by decide +kernel, rfl⟩
theorem d_X8_reachFrom_113 : decode mX8_reachFrom.1 113 = .ok (.getfield 9, 3) ∧ 113 + 3 = 116 := ⟨by decide +kernel, rfl⟩
theorem d_X8_reachFrom_116 : decode mX8_reachFrom.1 116 = .ok (.iload_n 3, 1) ∧ 116 + 1 = 117 := ⟨by decide +kernel, rfl⟩
theorem d_X8_reachFrom_117 : decode mX8_reachFrom.1 117 = .ok (.iconst 1, 1) ∧ 117 + 1 = 118 := ⟨by decide +kernel, rfl⟩
theorem d_X8_reachFrom_118 : decode mX8_reachFrom.1 118 = .ok (.iadd, 1) ∧ 118 + 1 = 119 := ⟨by decide +kernel, rfl⟩
theorem d_X8_reachFrom_119 : decode mX8_reachFrom.1 119 = .ok (.iaload, 1) ∧ 119 + 1 = 120 := ⟨by decide +kernel, rfl⟩
theorem d_X8_reachFrom_120 : decode mX8_reachFrom.1 120 = .ok (.iload 4, 2) ∧ 120 + 2 = 122 := ⟨by decide +kernel, rfl⟩
theorem d_X8_reachFrom_122 : decode mX8_reachFrom.1 122 = .ok (.invokevirtual 75, 3) ∧ 122 + 3 = 125 := ⟨by decide +kernel, rfl⟩
set_option maxRecDepth 100000 in
set_option maxHeartbeats 4000000 in
theorem g_X8_reachFrom_J100L44 (l : Launch) (G : xa_C) (c0 c2 : Int) (K : (Int × xa_H) ⊕ (xa_H) → Option xa_O) (hb : ∀ (v3 : Int) (h : xa_H), xa_G l G 5 mX8_reachFrom (some (Sum.inl ((v3, h)))) K 44 [some (xR c0), none, some (xI c2), some (xI v3), none] [] h) (hx : ∀ (h : xa_H), xa_G l G 5 mX8_reachFrom (some (Sum.inr h)) K 149 [none, none, none, none, none] [] h) : ∀ (v3 v4 : Int) (h : xa_H) , xa_G l G 5 mX8_reachFrom (f_X8_reachFrom_J100L44 c0 c2 v3 v4 h) K 100 [some (xR c0), none, some (xI c2), some (xI v3), some (xI v4)] [] h := by
  intro v3 v4 h
  unfold f_X8_reachFrom_J100L44
  refine xa_step (xa_aload_n d_X8_reachFrom_100 rfl) ?_
  refine xa_step (xa_iload_n d_X8_reachFrom_101 rfl) ?_
  refine xa_callVV (as := [xI c2]) (st := []) (M' := mX8_reach) (d' := 4) rfl xw_1049 xw_1051 xw_44 xw_1052 xw_181 xh_X8_reach rfl ⟨Nat.le_of_ble_eq_true rfl, Nat.le_of_ble_eq_true rfl⟩ (Nat.le_of_ble_eq_true rfl) rfl d_X8_reachFrom_102 (fun r hr => ct_X8_reach l G c0 c2 h r hr) (fun r19 _ => ?_)
  refine xa_step (xa_iload d_X8_reachFrom_105 rfl) ?_
  refine xa_step (xa_iconst d_X8_reachFrom_107 xq_i_m1) ?_
  refine xa_if (xa_icmpeq d_X8_reachFrom_108) (fun q20 => ?_) (fun q20 => ?_)
  · exact xa_weak (ls' := [some (xR c0), none, some (xI c2), some (xI v3), none]) ⟨rfl, rfl, rfl, trivial⟩ (g_X8_reachFrom_J125L44 l G c0 c2 K hb hx v3 r19)
  · refine xa_step (xa_aload_n d_X8_reachFrom_111 rfl) ?_
    refine xa_step (xa_aload_n d_X8_reachFrom_112 rfl) ?_
    refine xa_getf xR xc_8 (by decide) (fun _ => rfl) xw_1059 rfl d_X8_reachFrom_113 (fun x26 _ => ?_)
    refine xa_step (xa_iload_n d_X8_reachFrom_116 rfl) ?_
    refine xa_step (xa_iconst d_X8_reachFrom_117 xq_i_1) ?_
    refine xa_step (xa_iadd d_X8_reachFrom_118) ?_
    refine xa_iaload d_X8_reachFrom_119 (fun x27 _ => ?_)
    refine xa_step (xa_iload d_X8_reachFrom_120 rfl) ?_
    refine xa_callVV (as := [xI x27, xI v4]) (st := []) (M' := mX8_swap) (d' := 2) rfl xw_1092 xw_1094 xw_47 xw_1095 xw_181 xh_X8_swap rfl ⟨Nat.le_of_ble_eq_true rfl, Nat.le_of_ble_eq_true rfl⟩ (Nat.le_of_ble_eq_true rfl) rfl d_X8_reachFrom_122 (fun r hr => ct_X8_swap l G c0 x27 v4 r19 r hr) (fun r28 _ => ?_)
    exact xa_weak (ls' := [some (xR c0), none, some (xI c2), some (xI v3), none]) ⟨rfl, rfl, rfl, trivial⟩ (g_X8_reachFrom_J125L44 l G c0 c2 K hb hx v3 r28)
theorem d_X8_reachFrom_86 : decode mX8_reachFrom.1 86 = .ok (.aload_n 0, 1) ∧ 86 + 1 = 87 := ⟨by decide +kernel, rfl⟩
theorem d_X8_reachFrom_87 : decode mX8_reachFrom.1 87 = .ok (.aload_n 0, 1) ∧ 87 + 1 = 88 := ⟨by decide +kernel, rfl⟩
theorem d_X8_reachFrom_88 : decode mX8_reachFrom.1 88 = .ok (.getfield 9, 3) ∧ 88 + 3 = 91 := ⟨by decide +kernel, rfl⟩
theorem d_X8_reachFrom_91 : decode mX8_reachFrom.1 91 = .ok (.iload_n 3, 1) ∧ 91 + 1 = 92 := ⟨by decide +kernel, rfl⟩
theorem d_X8_reachFrom_92 : decode mX8_reachFrom.1 92 = .ok (.iconst 1, 1) ∧ 92 + 1 = 93 := ⟨by decide +kernel, rfl⟩
theorem d_X8_reachFrom_93 : decode mX8_reachFrom.1 93 = .ok (.iadd, 1) ∧ 93 + 1 = 94 := ⟨by decide +kernel, rfl⟩
theorem d_X8_reachFrom_94 : decode mX8_reachFrom.1 94 = .ok (.iaload, 1) ∧ 94 + 1 = 95 := ⟨by decide +kernel, rfl⟩
theorem d_X8_reachFrom_95 : decode mX8_reachFrom.1 95 = .ok (.iload 4, 2) ∧ 95 + 2 = 97 := ⟨by decide +kernel, rfl⟩
theorem d_X8_reachFrom_97 : decode mX8_reachFrom.1 97 = .ok (.invokevirtual 75, 3) ∧ 97 + 3 = 100 := ⟨by decide +kernel, rfl⟩
set_option maxRecDepth 100000 in
set_option maxHeartbeats 4000000 in
theorem g_X8_reachFrom_L44 (l : Launch) (G : xa_C) (c0 c2 : Int) (K : (Int × xa_H) ⊕ (xa_H) → Option xa_O) (hb : ∀ (v3 : Int) (h : xa_H), xa_G l G 5 mX8_reachFrom (some (Sum.inl ((v3, h)))) K 44 [some (xR c0), none, some (xI c2), some (xI v3), none] [] h) (hx : ∀ (h : xa_H), xa_G l G 5 mX8_reachFrom (some (Sum.inr h)) K 149 [none, none, none, none, none] [] h) : ∀ (v3 : Int) (h : xa_H), xa_G l G 5 mX8_reachFrom (f_X8_reachFrom_L44 c0 c2 v3 h) K 44 [some (xR c0), none, some (xI c2), some (xI v3), none] [] h := by
  intro v3 h
  unfold f_X8_reachFrom_L44
  refine xa_step (xa_iload_n d_X8_reachFrom_44 rfl) ?_
  refine xa_step (xa_aload_n d_X8_reachFrom_45 rfl) ?_
  refine xa_getf xI xc_8 (by decide) (fun _ => rfl) xw_1060 rfl d_X8_reachFrom_46 (fun x9 _ => ?_)
  refine xa_if (xa_icmpge d_X8_reachFrom_49) (fun q10 => ?_) (fun q10 => ?_)
  · refine xa_step (xa_aload_n d_X8_reachFrom_52 rfl) ?_
    refine xa_getf xR xc_8 (by decide) (fun _ => rfl) xw_1059 rfl d_X8_reachFrom_53 (fun x11 _ => ?_)
    refine xa_step (xa_iload_n d_X8_reachFrom_56 rfl) ?_
    refine xa_step (xa_iconst d_X8_reachFrom_57 xq_i_2) ?_
    refine xa_step (xa_iadd d_X8_reachFrom_58) ?_
    refine xa_iaload d_X8_reachFrom_59 (fun x12 _ => ?_)
    refine xa_step (xa_istore (ls' := [some (xR c0), none, some (xI c2), some (xI v3), some (xI x12)]) d_X8_reachFrom_60 (by decide) rfl) ?_
    refine xa_step (xa_aload_n d_X8_reachFrom_62 rfl) ?_
    refine xa_step (xa_aload_n d_X8_reachFrom_63 rfl) ?_
    refine xa_getf xR xc_8 (by decide) (fun _ => rfl) xw_1059 rfl d_X8_reachFrom_64 (fun x13 _ => ?_)
    refine xa_step (xa_iload_n d_X8_reachFrom_67 rfl) ?_
    refine xa_iaload d_X8_reachFrom_68 (fun x14 _ => ?_)
    refine xa_step (xa_aload_n d_X8_reachFrom_69 rfl) ?_
    refine xa_getf xR xc_8 (by decide) (fun _ => rfl) xw_1059 rfl d_X8_reachFrom_70 (fun x15 _ => ?_)
    refine xa_step (xa_iload_n d_X8_reachFrom_73 rfl) ?_
    refine xa_step (xa_iconst d_X8_reachFrom_74 xq_i_1) ?_
    refine xa_step (xa_iadd d_X8_reachFrom_75) ?_
    refine xa_iaload d_X8_reachFrom_76 (fun x16 _ => ?_)
    refine xa_callVV (as := [xI x14, xI x16]) (st := []) (M' := mX8_swap) (d' := 2) rfl xw_1092 xw_1094 xw_47 xw_1095 xw_181 xh_X8_swap rfl ⟨Nat.le_of_ble_eq_true rfl, Nat.le_of_ble_eq_true rfl⟩ (Nat.le_of_ble_eq_true rfl) rfl d_X8_reachFrom_77 (fun r hr => ct_X8_swap l G c0 x14 x16 h r hr) (fun r17 _ => ?_)
    refine xa_step (xa_iload d_X8_reachFrom_80 rfl) ?_
    refine xa_step (xa_iconst d_X8_reachFrom_82 xq_i_m1) ?_
    refine xa_if (xa_icmpeq d_X8_reachFrom_83) (fun q18 => ?_) (fun q18 => ?_)
    · exact xa_weak (ls' := [some (xR c0), none, some (xI c2), some (xI v3), some (xI x12)]) ⟨rfl, rfl, rfl, rfl, trivial⟩ (g_X8_reachFrom_J100L44 l G c0 c2 K hb hx v3 x12 r17)
    · refine xa_step (xa_aload_n d_X8_reachFrom_86 rfl) ?_
      refine xa_step (xa_aload_n d_X8_reachFrom_87 rfl) ?_
      refine xa_getf xR xc_8 (by decide) (fun _ => rfl) xw_1059 rfl d_X8_reachFrom_88 (fun x29 _ => ?_)
      refine xa_step (xa_iload_n d_X8_reachFrom_91 rfl) ?_
      refine xa_step (xa_iconst d_X8_reachFrom_92 xq_i_1) ?_
      refine xa_step (xa_iadd d_X8_reachFrom_93) ?_
      refine xa_iaload d_X8_reachFrom_94 (fun x30 _ => ?_)
      refine xa_step (xa_iload d_X8_reachFrom_95 rfl) ?_
      refine xa_callVV (as := [xI x30, xI x12]) (st := []) (M' := mX8_swap) (d' := 2) rfl xw_1092 xw_1094 xw_47 xw_1095 xw_181 xh_X8_swap rfl ⟨Nat.le_of_ble_eq_true rfl, Nat.le_of_ble_eq_true rfl⟩ (Nat.le_of_ble_eq_true rfl) rfl d_X8_reachFrom_97 (fun r hr => ct_X8_swap l G c0 x30 x12 r17 r hr) (fun r31 _ => ?_)
      exact xa_weak (ls' := [some (xR c0), none, some (xI c2), some (xI v3), some (xI x12)]) ⟨rfl, rfl, rfl, rfl, trivial⟩ (g_X8_reachFrom_J100L44 l G c0 c2 K hb hx v3 x12 r31)
  · exact xa_weak (ls' := [none, none, none, none, none]) trivial (hx h)
theorem d_X8_reachFrom_149 : decode mX8_reachFrom.1 149 = .ok (.return_, 1) := by decide +kernel
set_option maxRecDepth 100000 in
set_option maxHeartbeats 4000000 in
theorem g_X8_reachFrom (l : Launch) (G : xa_C) (v0 v1 : Int) (h : xa_H) : xa_G l G 5 mX8_reachFrom (f_X8_reachFrom v0 v1 h) (fun r => some (none, r) : xa_H → Option xa_O) 0 [some (xR v0), some (xI v1), none, none, none] [] h := by
  unfold f_X8_reachFrom
  refine xa_step (xa_iconst d_X8_reachFrom_0 xq_i_0) ?_
  refine xa_step (xa_istore_n (ls' := [some (xR v0), some (xI v1), some (xI 0), none, none]) d_X8_reachFrom_1 (by decide) rfl) ?_
  refine xa_weak (ls' := [some (xR v0), some (xI v1), some (xI 0), none, none]) ⟨rfl, rfl, rfl, trivial⟩ ?_
  refine xa_loop (f := fun s => f_X8_reachFrom_L2 v0 v1 s.1 s.2) (L := fun s => [some (xR v0), some (xI v1), some (xI s.1), none, none]) (P := fun s => s.2) (X := (fun x K => xa_G l G 5 mX8_reachFrom (some (Sum.inr x)) K 30 [some (xR v0), none, none, none, none] [] x)) (fun K hb hX s => g_X8_reachFrom_L2 l G v0 v1 K (fun w0 hh => hb ((w0, hh))) (fun hh => hX hh) s.1 s.2) ?_ xFU ((0, h))
  intro e5 K hK
  refine xa_eqE hK ?_
  show xa_G l G 5 mX8_reachFrom _ _ 30 [some (xR v0), none, none, none, none] [] e5
  refine xa_step (xa_aload_n d_X8_reachFrom_30 rfl) ?_
  refine xa_getf xR xc_8 (by decide) (fun _ => rfl) xw_1061 rfl d_X8_reachFrom_31 (fun x6 _ => ?_)
  refine xa_step (xa_aload_n d_X8_reachFrom_34 rfl) ?_
  refine xa_callVi (as := []) (st := [xR x6]) (M' := mX8_rankOfOrder) (d' := 3) rfl xw_1053 xw_1055 xw_45 xw_1056 xw_181 xh_X8_rankOfOrder rfl ⟨Nat.le_of_ble_eq_true rfl, Nat.le_of_ble_eq_true rfl⟩ (Nat.le_of_ble_eq_true rfl) rfl d_X8_reachFrom_35 (fun r hr => ct_X8_rankOfOrder l G v0 e5 r hr) (fun r7 _ => ?_)
  refine xa_iaload d_X8_reachFrom_38 (fun x8 _ => ?_)
  refine xa_step (xa_iconst d_X8_reachFrom_39 xq_i_1) ?_
  refine xa_step (xa_iadd d_X8_reachFrom_40) ?_
  refine xa_step (xa_istore_n (ls' := [some (xR v0), none, some (xI (w32 (x8 + 1))), none, none]) d_X8_reachFrom_41 (by decide) rfl) ?_
  refine xa_step (xa_iconst d_X8_reachFrom_42 xq_i_0) ?_
  refine xa_step (xa_istore_n (ls' := [some (xR v0), none, some (xI (w32 (x8 + 1))), some (xI 0), none]) d_X8_reachFrom_43 (by decide) rfl) ?_
  refine xa_weak (ls' := [some (xR v0), none, some (xI (w32 (x8 + 1))), some (xI 0), none]) ⟨rfl, rfl, rfl, trivial⟩ ?_
  refine xa_loop (f := fun s => f_X8_reachFrom_L44 v0 (w32 (x8 + 1)) s.1 s.2) (L := fun s => [some (xR v0), none, some (xI (w32 (x8 + 1))), some (xI s.1), none]) (P := fun s => s.2) (X := (fun x K => xa_G l G 5 mX8_reachFrom (some (Sum.inr x)) K 149 [none, none, none, none, none] [] x)) (fun K hb hX s => g_X8_reachFrom_L44 l G v0 (w32 (x8 + 1)) K (fun w0 hh => hb ((w0, hh))) (fun hh => hX hh) s.1 s.2) ?_ xFU ((0, e5))
  intro e32 K hK
  refine xa_eqE hK ?_
  show xa_G l G 5 mX8_reachFrom _ _ 149 [none, none, none, none, none] [] e32
  exact xa_vret d_X8_reachFrom_149 rfl rfl
theorem ct_X8_reachFrom (l : Launch) (G : xa_C) (v0 v1 : Int) (h : xa_H) (r : xa_H) (hr : f_X8_reachFrom v0 v1 h = some r) : xa_CT l G 5 mX8_reachFrom yX8_reachFrom [xR v0, xI v1] h (none, r) :=
  xa_met (by decide +kernel) rfl (fun q => by first | rfl | cases q) (Nat.le_of_ble_eq_true rfl) rfl (g_X8_reachFrom l G v0 v1 h) (by rw [hr]; rfl)
abbrev mX8_fewest : xa_M := (cX8_fewest, 3, (some (.int)), RX8, false)
theorem d_X8_fewest_0 : decode mX8_fewest.1 0 = .ok (.aload_n 1, 1) ∧ 0 + 1 = 1 := ⟨by decide +kernel, rfl⟩
theorem d_X8_fewest_1 : decode mX8_fewest.1 1 = .ok (.iconst 0, 1) ∧ 1 + 1 = 2 := ⟨by decide +kernel, rfl⟩
theorem d_X8_fewest_2 : decode mX8_fewest.1 2 = .ok (.aload_n 0, 1) ∧ 2 + 1 = 3 := ⟨by decide +kernel, rfl⟩
theorem d_X8_fewest_3 : decode mX8_fewest.1 3 = .ok (.getfield 25, 3) ∧ 3 + 3 = 6 := ⟨by decide +kernel, rfl⟩
theorem d_X8_fewest_6 : decode mX8_fewest.1 6 = .ok (.iconst 0, 1) ∧ 6 + 1 = 7 := ⟨by decide +kernel, rfl⟩
theorem d_X8_fewest_7 : decode mX8_fewest.1 7 = .ok (.bipush 6, 2) ∧ 7 + 2 = 9 := ⟨by decide +kernel, rfl⟩
theorem d_X8_fewest_9 : decode mX8_fewest.1 9 = .ok (.invokestatic 62, 3) ∧ 9 + 3 = 12 := ⟨by decide +kernel, rfl⟩
theorem d_X8_fewest_12 : decode mX8_fewest.1 12 = .ok (.aload_n 0, 1) ∧ 12 + 1 = 13 := ⟨by decide +kernel, rfl⟩
theorem d_X8_fewest_13 : decode mX8_fewest.1 13 = .ok (.invokevirtual 68, 3) ∧ 13 + 3 = 16 := ⟨by decide +kernel, rfl⟩
theorem d_X8_fewest_16 : decode mX8_fewest.1 16 = .ok (.istore_n 2, 1) ∧ 16 + 1 = 17 := ⟨by decide +kernel, rfl⟩
theorem d_X8_fewest_17 : decode mX8_fewest.1 17 = .ok (.aload_n 0, 1) ∧ 17 + 1 = 18 := ⟨by decide +kernel, rfl⟩
theorem d_X8_fewest_18 : decode mX8_fewest.1 18 = .ok (.getfield 34, 3) ∧ 18 + 3 = 21 := ⟨by decide +kernel, rfl⟩
theorem d_X8_fewest_21 : decode mX8_fewest.1 21 = .ok (.iload_n 2, 1) ∧ 21 + 1 = 22 := ⟨by decide +kernel, rfl⟩
theorem d_X8_fewest_22 : decode mX8_fewest.1 22 = .ok (.iaload, 1) ∧ 22 + 1 = 23 := ⟨by decide +kernel, rfl⟩
theorem d_X8_fewest_23 : decode mX8_fewest.1 23 = .ok (.iconst (-1), 1) ∧ 23 + 1 = 24 := ⟨by decide +kernel, rfl⟩
theorem d_X8_fewest_24 : decode mX8_fewest.1 24 = .ok (.if_icmp .ne 52, 3) ∧ 24 + 3 = 27 ∧ ((24 : Nat) : Int) + 52 = ((76 : Nat) : Int) := ⟨by decide +kernel, rfl, rfl⟩
theorem d_X8_fewest_27 : decode mX8_fewest.1 27 = .ok (.aload_n 0, 1) ∧ 27 + 1 = 28 := ⟨by decide +kernel, rfl⟩
theorem d_X8_fewest_28 : decode mX8_fewest.1 28 = .ok (.getfield 19, 3) ∧ 28 + 3 = 31 := ⟨by decide +kernel, rfl⟩
theorem d_X8_fewest_31 : decode mX8_fewest.1 31 = .ok (.aload_n 0, 1) ∧ 31 + 1 = 32 := ⟨by decide +kernel, rfl⟩
theorem d_X8_fewest_32 : decode mX8_fewest.1 32 = .ok (.getfield 22, 3) ∧ 32 + 3 = 35 := ⟨by decide +kernel, rfl⟩
theorem d_X8_fewest_35 : decode mX8_fewest.1 35 = .ok (.if_icmp .ge 41, 3) ∧ 35 + 3 = 38 ∧ ((35 : Nat) : Int) + 41 = ((76 : Nat) : Int) := ⟨by decide +kernel, rfl, rfl⟩
theorem d_X8_fewest_38 : decode mX8_fewest.1 38 = .ok (.aload_n 0, 1) ∧ 38 + 1 = 39 := ⟨by decide +kernel, rfl⟩
theorem d_X8_fewest_39 : decode mX8_fewest.1 39 = .ok (.getfield 19, 3) ∧ 39 + 3 = 42 := ⟨by decide +kernel, rfl⟩
theorem d_X8_fewest_42 : decode mX8_fewest.1 42 = .ok (.aload_n 0, 1) ∧ 42 + 1 = 43 := ⟨by decide +kernel, rfl⟩
theorem d_X8_fewest_43 : decode mX8_fewest.1 43 = .ok (.getfield 37, 3) ∧ 43 + 3 = 46 := ⟨by decide +kernel, rfl⟩
theorem d_X8_fewest_46 : decode mX8_fewest.1 46 = .ok (.arraylength, 1) ∧ 46 + 1 = 47 := ⟨by decide +kernel, rfl⟩
theorem d_X8_fewest_47 : decode mX8_fewest.1 47 = .ok (.if_icmp .ge 29, 3) ∧ 47 + 3 = 50 ∧ ((47 : Nat) : Int) + 29 = ((76 : Nat) : Int) := ⟨by decide +kernel, rfl, rfl⟩
theorem d_X8_fewest_50 : decode mX8_fewest.1 50 = .ok (.aload_n 0, 1) ∧ 50 + 1 = 51 := ⟨by decide +kernel, rfl⟩
theorem d_X8_fewest_51 : decode mX8_fewest.1 51 = .ok (.aload_n 0, 1) ∧ 51 + 1 = 52 := ⟨by decide +kernel, rfl⟩
theorem d_X8_fewest_52 : decode mX8_fewest.1 52 = .ok (.getfield 37, 3) ∧ 52 + 3 = 55 := ⟨by decide +kernel, rfl⟩
theorem d_X8_fewest_55 : decode mX8_fewest.1 55 = .ok (.aload_n 0, 1) ∧ 55 + 1 = 56 := ⟨by decide +kernel, rfl⟩
theorem d_X8_fewest_56 : decode mX8_fewest.1 56 = .ok (.getfield 19, 3) ∧ 56 + 3 = 59 := ⟨by decide +kernel, rfl⟩
theorem d_X8_fewest_59 : decode mX8_fewest.1 59 = .ok (.iaload, 1) ∧ 59 + 1 = 60 := ⟨by decide +kernel, rfl⟩
theorem d_X8_fewest_60 : decode mX8_fewest.1 60 = .ok (.invokevirtual 72, 3) ∧ 60 + 3 = 63 := ⟨by decide +kernel, rfl⟩
theorem d_X8_fewest_63 : decode mX8_fewest.1 63 = .ok (.aload_n 0, 1) ∧ 63 + 1 = 64 := ⟨by decide +kernel, rfl⟩
theorem d_X8_fewest_64 : decode mX8_fewest.1 64 = .ok (.dup, 1) ∧ 64 + 1 = 65 := ⟨by decide +kernel, rfl⟩
theorem d_X8_fewest_65 : decode mX8_fewest.1 65 = .ok (.getfield 19, 3) ∧ 65 + 3 = 68 := ⟨by decide +kernel, rfl⟩
theorem d_X8_fewest_68 : decode mX8_fewest.1 68 = .ok (.iconst 1, 1) ∧ 68 + 1 = 69 := ⟨by decide +kernel, rfl⟩
theorem d_X8_fewest_69 : decode mX8_fewest.1 69 = .ok (.iadd, 1) ∧ 69 + 1 = 70 := ⟨by decide +kernel, rfl⟩
theorem d_X8_fewest_70 : decode mX8_fewest.1 70 = .ok (.putfield 19, 3) ∧ 70 + 3 = 73 := ⟨by decide +kernel, rfl⟩
theorem d_X8_fewest_73 : decode mX8_fewest.1 73 = .ok (.goto (-56), 3) ∧ ((73 : Nat) : Int) + (-56) = ((17 : Nat) : Int) := ⟨by decide +kernel, rfl⟩
set_option maxRecDepth 100000 in
set_option maxHeartbeats 4000000 in
theorem g_X8_fewest_L17 (l : Launch) (G : xa_C) (c0 c2 : Int) (K : (xa_H) ⊕ (xa_H) → Option xa_O) (hb : ∀ (h : xa_H), xa_G l G 6 mX8_fewest (some (Sum.inl h)) K 17 [some (xR c0), none, some (xI c2)] [] h) (hx : ∀ (h : xa_H), xa_G l G 6 mX8_fewest (some (Sum.inr h)) K 76 [some (xR c0), none, some (xI c2)] [] h) : ∀ (h : xa_H), xa_G l G 6 mX8_fewest (f_X8_fewest_L17 c0 c2 h) K 17 [some (xR c0), none, some (xI c2)] [] h := by
  intro h
  unfold f_X8_fewest_L17
  refine xa_step (xa_aload_n d_X8_fewest_17 rfl) ?_
  refine xa_getf xR xc_8 (by decide) (fun _ => rfl) xw_1061 rfl d_X8_fewest_18 (fun x4 _ => ?_)
  refine xa_step (xa_iload_n d_X8_fewest_21 rfl) ?_
  refine xa_iaload d_X8_fewest_22 (fun x5 _ => ?_)
  refine xa_step (xa_iconst d_X8_fewest_23 xq_i_m1) ?_
  refine xa_if (xa_icmpne d_X8_fewest_24) (fun q6 => ?_) (fun q6 => ?_)
  · refine xa_step (xa_aload_n d_X8_fewest_27 rfl) ?_
    refine xa_getf xI xc_8 (by decide) (fun _ => rfl) xw_1063 rfl d_X8_fewest_28 (fun x7 _ => ?_)
    refine xa_step (xa_aload_n d_X8_fewest_31 rfl) ?_
    refine xa_getf xI xc_8 (by decide) (fun _ => rfl) xw_1064 rfl d_X8_fewest_32 (fun x8 _ => ?_)
    refine xa_if (xa_icmpge d_X8_fewest_35) (fun q9 => ?_) (fun q9 => ?_)
    · refine xa_step (xa_aload_n d_X8_fewest_38 rfl) ?_
      refine xa_getf xI xc_8 (by decide) (fun _ => rfl) xw_1063 rfl d_X8_fewest_39 (fun x10 _ => ?_)
      refine xa_step (xa_aload_n d_X8_fewest_42 rfl) ?_
      refine xa_getf xR xc_8 (by decide) (fun _ => rfl) xw_1062 rfl d_X8_fewest_43 (fun x11 _ => ?_)
      refine xa_alen d_X8_fewest_46 (fun x12 _ => ?_)
      refine xa_if (xa_icmpge d_X8_fewest_47) (fun q13 => ?_) (fun q13 => ?_)
      · refine xa_step (xa_aload_n d_X8_fewest_50 rfl) ?_
        refine xa_step (xa_aload_n d_X8_fewest_51 rfl) ?_
        refine xa_getf xR xc_8 (by decide) (fun _ => rfl) xw_1062 rfl d_X8_fewest_52 (fun x14 _ => ?_)
        refine xa_step (xa_aload_n d_X8_fewest_55 rfl) ?_
        refine xa_getf xI xc_8 (by decide) (fun _ => rfl) xw_1063 rfl d_X8_fewest_56 (fun x15 _ => ?_)
        refine xa_iaload d_X8_fewest_59 (fun x16 _ => ?_)
        refine xa_callVV (as := [xI x16]) (st := []) (M' := mX8_reachFrom) (d' := 5) rfl xw_1088 xw_1090 xw_46 xw_1091 xw_181 xh_X8_reachFrom rfl ⟨Nat.le_of_ble_eq_true rfl, Nat.le_of_ble_eq_true rfl⟩ (Nat.le_of_ble_eq_true rfl) rfl d_X8_fewest_60 (fun r hr => ct_X8_reachFrom l G c0 x16 h r hr) (fun r17 _ => ?_)
        refine xa_step (xa_aload_n d_X8_fewest_63 rfl) ?_
        refine xa_step (xa_dup d_X8_fewest_64 (xa_tR _)) ?_
        refine xa_getf xI xc_8 (by decide) (fun _ => rfl) xw_1063 rfl d_X8_fewest_65 (fun x18 _ => ?_)
        refine xa_step (xa_iconst d_X8_fewest_68 xq_i_1) ?_
        refine xa_step (xa_iadd d_X8_fewest_69) ?_
        refine xa_putf2 (tg := xI) xc_8 (by decide) (fun _ => rfl) rfl (fun c hc => xa_fitI c hc) xw_1063 rfl d_X8_fewest_70 (fun h19 _ => ?_)
        refine xa_step (xa_goto d_X8_fewest_73) ?_
        exact xa_weak (ls' := [some (xR c0), none, some (xI c2)]) ⟨rfl, rfl, trivial⟩ (hb h19)
      · exact xa_weak (ls' := [some (xR c0), none, some (xI c2)]) ⟨rfl, rfl, trivial⟩ (hx h)
    · exact xa_weak (ls' := [some (xR c0), none, some (xI c2)]) ⟨rfl, rfl, trivial⟩ (hx h)
  · exact xa_weak (ls' := [some (xR c0), none, some (xI c2)]) ⟨rfl, rfl, trivial⟩ (hx h)
theorem d_X8_fewest_76 : decode mX8_fewest.1 76 = .ok (.aload_n 0, 1) ∧ 76 + 1 = 77 := ⟨by decide +kernel, rfl⟩
theorem d_X8_fewest_77 : decode mX8_fewest.1 77 = .ok (.getfield 34, 3) ∧ 77 + 3 = 80 := ⟨by decide +kernel, rfl⟩
theorem d_X8_fewest_80 : decode mX8_fewest.1 80 = .ok (.iload_n 2, 1) ∧ 80 + 1 = 81 := ⟨by decide +kernel, rfl⟩
theorem d_X8_fewest_81 : decode mX8_fewest.1 81 = .ok (.iaload, 1) ∧ 81 + 1 = 82 := ⟨by decide +kernel, rfl⟩
theorem d_X8_fewest_82 : decode mX8_fewest.1 82 = .ok (.ireturn, 1) := by decide +kernel
set_option maxRecDepth 100000 in
set_option maxHeartbeats 4000000 in
theorem g_X8_fewest (l : Launch) (G : xa_C) (v0 v1 : Int) (h : xa_H) : xa_G l G 6 mX8_fewest (f_X8_fewest v0 v1 h) (fun r => some (some (xI r.1), r.2) : (Int × xa_H) → Option xa_O) 0 [some (xR v0), some (xR v1), none] [] h := by
  unfold f_X8_fewest
  refine xa_step (xa_aload_n d_X8_fewest_0 rfl) ?_
  refine xa_step (xa_iconst d_X8_fewest_1 xq_i_0) ?_
  refine xa_step (xa_aload_n d_X8_fewest_2 rfl) ?_
  refine xa_getf xR xc_8 (by decide) (fun _ => rfl) xw_1065 rfl d_X8_fewest_3 (fun x1 _ => ?_)
  refine xa_step (xa_iconst d_X8_fewest_6 xq_i_0) ?_
  refine xa_step (xa_bipush d_X8_fewest_7 xq_b_6) ?_
  refine xa_acopy xw_1087 xw_851 xw_850 xw_180 (by decide) (Nat.le_of_ble_eq_true rfl) d_X8_fewest_9 (fun h2 _ => ?_)
  refine xa_step (xa_aload_n d_X8_fewest_12 rfl) ?_
  refine xa_callVi (as := []) (st := []) (M' := mX8_rankOfOrder) (d' := 3) rfl xw_1053 xw_1055 xw_45 xw_1056 xw_181 xh_X8_rankOfOrder rfl ⟨Nat.le_of_ble_eq_true rfl, Nat.le_of_ble_eq_true rfl⟩ (Nat.le_of_ble_eq_true rfl) rfl d_X8_fewest_13 (fun r hr => ct_X8_rankOfOrder l G v0 h2 r hr) (fun r3 _ => ?_)
  refine xa_step (xa_istore_n (ls' := [some (xR v0), some (xR v1), some (xI r3)]) d_X8_fewest_16 (by decide) rfl) ?_
  refine xa_weak (ls' := [some (xR v0), none, some (xI r3)]) ⟨rfl, rfl, trivial⟩ ?_
  refine xa_loop (f := fun s => f_X8_fewest_L17 v0 r3 s) (L := fun s => [some (xR v0), none, some (xI r3)]) (P := fun s => s) (X := (fun x K => xa_G l G 6 mX8_fewest (some (Sum.inr x)) K 76 [some (xR v0), none, some (xI r3)] [] x)) (fun K hb hX s => g_X8_fewest_L17 l G v0 r3 K (fun hh => hb hh) (fun hh => hX hh) s) ?_ xFU h2
  intro e20 K hK
  refine xa_eqE hK ?_
  show xa_G l G 6 mX8_fewest _ _ 76 [some (xR v0), none, some (xI r3)] [] e20
  refine xa_step (xa_aload_n d_X8_fewest_76 rfl) ?_
  refine xa_getf xR xc_8 (by decide) (fun _ => rfl) xw_1061 rfl d_X8_fewest_77 (fun x21 _ => ?_)
  refine xa_step (xa_iload_n d_X8_fewest_80 rfl) ?_
  refine xa_iaload d_X8_fewest_81 (fun x22 _ => ?_)
  exact xa_iret d_X8_fewest_82 rfl rfl
theorem ct_X8_fewest (l : Launch) (G : xa_C) (v0 v1 : Int) (h : xa_H) (r : Int × xa_H) (hr : f_X8_fewest v0 v1 h = some r) : xa_CT l G 6 mX8_fewest yX8_fewest [xR v0, xR v1] h (some (xI r.1), r.2) :=
  xa_met (by decide +kernel) rfl (fun q => by first | rfl | cases q) (Nat.le_of_ble_eq_true rfl) rfl (g_X8_fewest l G v0 v1 h) (by rw [hr]; rfl)
abbrev mX11_meetings : xa_M := (cX11_meetings, 3, (some (.int)), RX11, false)
theorem d_X11_meetings_0 : decode mX11_meetings.1 0 = .ok (.iload_n 1, 1) ∧ 0 + 1 = 1 := ⟨by decide +kernel, rfl⟩
theorem d_X11_meetings_1 : decode mX11_meetings.1 1 = .ok (.iconst 2, 1) ∧ 1 + 1 = 2 := ⟨by decide +kernel, rfl⟩
theorem d_X11_meetings_2 : decode mX11_meetings.1 2 = .ok (.if_icmp .lt 15, 3) ∧ 2 + 3 = 5 ∧ ((2 : Nat) : Int) + 15 = ((17 : Nat) : Int) := ⟨by decide +kernel, rfl, rfl⟩
theorem d_X11_meetings_17 : decode mX11_meetings.1 17 = .ok (.iconst (-1), 1) ∧ 17 + 1 = 18 := ⟨by decide +kernel, rfl⟩
theorem d_X11_meetings_18 : decode mX11_meetings.1 18 = .ok (.ireturn, 1) := by decide +kernel
theorem d_X11_meetings_5 : decode mX11_meetings.1 5 = .ok (.iload_n 1, 1) ∧ 5 + 1 = 6 := ⟨by decide +kernel, rfl⟩
theorem d_X11_meetings_6 : decode mX11_meetings.1 6 = .ok (.iconst 3, 1) ∧ 6 + 1 = 7 := ⟨by decide +kernel, rfl⟩
theorem d_X11_meetings_7 : decode mX11_meetings.1 7 = .ok (.if_icmp .gt 10, 3) ∧ 7 + 3 = 10 ∧ ((7 : Nat) : Int) + 10 = ((17 : Nat) : Int) := ⟨by decide +kernel, rfl, rfl⟩
theorem d_X11_meetings_10 : decode mX11_meetings.1 10 = .ok (.aload_n 0, 1) ∧ 10 + 1 = 11 := ⟨by decide +kernel, rfl⟩
theorem d_X11_meetings_11 : decode mX11_meetings.1 11 = .ok (.invokevirtual 258, 3) ∧ 11 + 3 = 14 := ⟨by decide +kernel, rfl⟩
theorem d_X11_meetings_14 : decode mX11_meetings.1 14 = .ok (.ifCond .ne 5, 3) ∧ 14 + 3 = 17 ∧ ((14 : Nat) : Int) + 5 = ((19 : Nat) : Int) := ⟨by decide +kernel, rfl, rfl⟩
theorem d_X11_meetings_19 : decode mX11_meetings.1 19 = .ok (.aload_n 0, 1) ∧ 19 + 1 = 20 := ⟨by decide +kernel, rfl⟩
theorem d_X11_meetings_20 : decode mX11_meetings.1 20 = .ok (.getfield 91, 3) ∧ 20 + 3 = 23 := ⟨by decide +kernel, rfl⟩
theorem d_X11_meetings_23 : decode mX11_meetings.1 23 = .ok (.iload_n 1, 1) ∧ 23 + 1 = 24 := ⟨by decide +kernel, rfl⟩
theorem d_X11_meetings_24 : decode mX11_meetings.1 24 = .ok (.iconst 2, 1) ∧ 24 + 1 = 25 := ⟨by decide +kernel, rfl⟩
theorem d_X11_meetings_25 : decode mX11_meetings.1 25 = .ok (.isub, 1) ∧ 25 + 1 = 26 := ⟨by decide +kernel, rfl⟩
theorem d_X11_meetings_26 : decode mX11_meetings.1 26 = .ok (.aaload, 1) ∧ 26 + 1 = 27 := ⟨by decide +kernel, rfl⟩
theorem d_X11_meetings_27 : decode mX11_meetings.1 27 = .ok (.astore_n 2, 1) ∧ 27 + 1 = 28 := ⟨by decide +kernel, rfl⟩
theorem d_X11_meetings_28 : decode mX11_meetings.1 28 = .ok (.aload_n 2, 1) ∧ 28 + 1 = 29 := ⟨by decide +kernel, rfl⟩
theorem d_X11_meetings_29 : decode mX11_meetings.1 29 = .ok (.ifnonnull 25, 3) ∧ 29 + 3 = 32 ∧ ((29 : Nat) : Int) + 25 = ((54 : Nat) : Int) := ⟨by decide +kernel, rfl, rfl⟩
theorem d_X11_meetings_32 : decode mX11_meetings.1 32 = .ok (.new 89, 3) ∧ 32 + 3 = 35 := ⟨by decide +kernel, rfl⟩
theorem d_X11_meetings_35 : decode mX11_meetings.1 35 = .ok (.dup, 1) ∧ 35 + 1 = 36 := ⟨by decide +kernel, rfl⟩
theorem d_X11_meetings_36 : decode mX11_meetings.1 36 = .ok (.aload_n 0, 1) ∧ 36 + 1 = 37 := ⟨by decide +kernel, rfl⟩
theorem d_X11_meetings_37 : decode mX11_meetings.1 37 = .ok (.getfield 47, 3) ∧ 37 + 3 = 40 := ⟨by decide +kernel, rfl⟩
theorem d_X11_meetings_40 : decode mX11_meetings.1 40 = .ok (.iload_n 1, 1) ∧ 40 + 1 = 41 := ⟨by decide +kernel, rfl⟩
theorem d_X11_meetings_41 : decode mX11_meetings.1 41 = .ok (.invokespecial 262, 3) ∧ 41 + 3 = 44 := ⟨by decide +kernel, rfl⟩
theorem d_X11_meetings_44 : decode mX11_meetings.1 44 = .ok (.astore_n 2, 1) ∧ 44 + 1 = 45 := ⟨by decide +kernel, rfl⟩
theorem d_X11_meetings_45 : decode mX11_meetings.1 45 = .ok (.aload_n 0, 1) ∧ 45 + 1 = 46 := ⟨by decide +kernel, rfl⟩
theorem d_X11_meetings_46 : decode mX11_meetings.1 46 = .ok (.getfield 91, 3) ∧ 46 + 3 = 49 := ⟨by decide +kernel, rfl⟩
theorem d_X11_meetings_49 : decode mX11_meetings.1 49 = .ok (.iload_n 1, 1) ∧ 49 + 1 = 50 := ⟨by decide +kernel, rfl⟩
theorem d_X11_meetings_50 : decode mX11_meetings.1 50 = .ok (.iconst 2, 1) ∧ 50 + 1 = 51 := ⟨by decide +kernel, rfl⟩
theorem d_X11_meetings_51 : decode mX11_meetings.1 51 = .ok (.isub, 1) ∧ 51 + 1 = 52 := ⟨by decide +kernel, rfl⟩
theorem d_X11_meetings_52 : decode mX11_meetings.1 52 = .ok (.aload_n 2, 1) ∧ 52 + 1 = 53 := ⟨by decide +kernel, rfl⟩
theorem d_X11_meetings_53 : decode mX11_meetings.1 53 = .ok (.aastore, 1) ∧ 53 + 1 = 54 := ⟨by decide +kernel, rfl⟩
theorem d_X11_meetings_54 : decode mX11_meetings.1 54 = .ok (.aload_n 2, 1) ∧ 54 + 1 = 55 := ⟨by decide +kernel, rfl⟩
theorem d_X11_meetings_55 : decode mX11_meetings.1 55 = .ok (.aload_n 0, 1) ∧ 55 + 1 = 56 := ⟨by decide +kernel, rfl⟩
theorem d_X11_meetings_56 : decode mX11_meetings.1 56 = .ok (.getfield 95, 3) ∧ 56 + 3 = 59 := ⟨by decide +kernel, rfl⟩
theorem d_X11_meetings_59 : decode mX11_meetings.1 59 = .ok (.invokevirtual 265, 3) ∧ 59 + 3 = 62 := ⟨by decide +kernel, rfl⟩
theorem d_X11_meetings_62 : decode mX11_meetings.1 62 = .ok (.ireturn, 1) := by decide +kernel
set_option maxRecDepth 100000 in
set_option maxHeartbeats 4000000 in
theorem g_X11_meetings_J54 (l : Launch) (G : xa_C) : ∀ (v0 v2 : Int) (h : xa_H) , xa_G l G 7 mX11_meetings (f_X11_meetings_J54 v0 v2 h) (fun r => some (some (xI r.1), r.2) : (Int × xa_H) → Option xa_O) 54 [some (xR v0), none, some (xR v2)] [] h := by
  intro v0 v2 h
  unfold f_X11_meetings_J54
  refine xa_step (xa_aload_n d_X11_meetings_54 rfl) ?_
  refine xa_step (xa_aload_n d_X11_meetings_55 rfl) ?_
  refine xa_getf xR xc_11 (by decide) (fun _ => rfl) xw_597 rfl d_X11_meetings_56 (fun x13 _ => ?_)
  refine xa_callVI (as := [xR x13]) (st := []) (M' := mX8_fewest) (d' := 6) rfl xw_1083 xw_1084 xw_1085 xw_1086 xw_181 xh_X8_fewest rfl ⟨Nat.le_of_ble_eq_true rfl, Nat.le_of_ble_eq_true rfl⟩ (Nat.le_of_ble_eq_true rfl) rfl d_X11_meetings_59 (fun r hr => ct_X8_fewest l G v2 x13 h r hr) (fun r14 _ => ?_)
  exact xa_iret d_X11_meetings_62 rfl rfl
set_option maxRecDepth 100000 in
set_option maxHeartbeats 4000000 in
theorem g_X11_meetings (l : Launch) (G : xa_C) (v0 v1 : Int) (h : xa_H) : xa_G l G 7 mX11_meetings (f_X11_meetings v0 v1 h) (fun r => some (some (xI r.1), r.2) : (Int × xa_H) → Option xa_O) 0 [some (xR v0), some (xI v1), none] [] h := by
  unfold f_X11_meetings
  refine xa_step (xa_iload_n d_X11_meetings_0 rfl) ?_
  refine xa_step (xa_iconst d_X11_meetings_1 xq_i_2) ?_
  refine xa_if (xa_icmplt d_X11_meetings_2) (fun q1 => ?_) (fun q1 => ?_)
  · refine xa_step (xa_iconst d_X11_meetings_17 xq_i_m1) ?_
    exact xa_iret d_X11_meetings_18 rfl rfl
  · refine xa_step (xa_iload_n d_X11_meetings_5 rfl) ?_
    refine xa_step (xa_iconst d_X11_meetings_6 xq_i_3) ?_
    refine xa_if (xa_icmpgt d_X11_meetings_7) (fun q2 => ?_) (fun q2 => ?_)
    · refine xa_step (xa_iconst d_X11_meetings_17 xq_i_m1) ?_
      exact xa_iret d_X11_meetings_18 rfl rfl
    · refine xa_step (xa_aload_n d_X11_meetings_10 rfl) ?_
      refine xa_callVI (as := []) (st := []) (M' := mX11_findSources) (d' := 3) rfl xw_1026 xw_1028 xw_41 xw_1029 xw_161 xh_X11_findSources rfl ⟨Nat.le_of_ble_eq_true rfl, Nat.le_of_ble_eq_true rfl⟩ (Nat.le_of_ble_eq_true rfl) rfl d_X11_meetings_11 (fun r hr => ct_X11_findSources l G v0 h r hr) (fun r3 _ => ?_)
      refine xa_if (xa_ifne d_X11_meetings_14) (fun q4 => ?_) (fun q4 => ?_)
      · refine xa_step (xa_iconst d_X11_meetings_17 xq_i_m1) ?_
        exact xa_iret d_X11_meetings_18 rfl rfl
      · refine xa_step (xa_aload_n d_X11_meetings_19 rfl) ?_
        refine xa_getf xR xc_11 (by decide) (fun _ => rfl) xw_596 rfl d_X11_meetings_20 (fun x5 _ => ?_)
        refine xa_step (xa_iload_n d_X11_meetings_23 rfl) ?_
        refine xa_step (xa_iconst d_X11_meetings_24 xq_i_2) ?_
        refine xa_step (xa_isub d_X11_meetings_25) ?_
        refine xa_aaload_5 d_X11_meetings_26 (fun x6 _ => ?_)
        refine xa_step (xa_astore_n (ls' := [some (xR v0), some (xI v1), some (xR x6)]) d_X11_meetings_27 (by decide) rfl) ?_
        refine xa_step (xa_aload_n d_X11_meetings_28 rfl) ?_
        refine xa_n5 (fun q15 => ?_)
        refine xa_if (xa_ifnonnull q15 d_X11_meetings_29) (fun q7 => ?_) (fun q7 => ?_)
        · refine xa_newO xc_8 xt_8 xw_559 xw_1034 xw_181 d_X11_meetings_32 (fun h8 _ => ?_)
          refine xa_step (xa_dup d_X11_meetings_35 (xa_tR _)) ?_
          refine xa_step (xa_aload_n d_X11_meetings_36 rfl) ?_
          refine xa_getf xR xc_11 (by decide) (fun _ => rfl) xw_589 rfl d_X11_meetings_37 (fun x9 _ => ?_)
          refine xa_step (xa_iload_n d_X11_meetings_40 rfl) ?_
          refine xa_callIV (nn := xn r3.2) (as := [xR x9, xI v1]) (st := [xR ((xn r3.2 : Int))]) (M' := mX8_init) (d' := 5) rfl rfl xw_1035 xw_1036 xw_1037 xw_181 xh_X8_init rfl ⟨Nat.le_of_ble_eq_true rfl, Nat.le_of_ble_eq_true rfl⟩ (Nat.le_of_ble_eq_true rfl) rfl d_X11_meetings_41 (fun r hr => ct_X8_init l G ((xn r3.2 : Int)) x9 v1 h8 r hr) (fun r10 _ => ?_)
          refine xa_step (xa_astore_n (ls' := [some (xR v0), some (xI v1), some (xR ((xn r3.2 : Int)))]) d_X11_meetings_44 (by decide) rfl) ?_
          refine xa_step (xa_aload_n d_X11_meetings_45 rfl) ?_
          refine xa_getf xR xc_11 (by decide) (fun _ => rfl) xw_596 rfl d_X11_meetings_46 (fun x11 _ => ?_)
          refine xa_step (xa_iload_n d_X11_meetings_49 rfl) ?_
          refine xa_step (xa_iconst d_X11_meetings_50 xq_i_2) ?_
          refine xa_step (xa_isub d_X11_meetings_51) ?_
          refine xa_step (xa_aload_n d_X11_meetings_52 rfl) ?_
          refine xa_aastore_52 d_X11_meetings_53 (fun h12 _ => ?_)
          exact xa_weak (ls' := [some (xR v0), none, some (xR ((xn r3.2 : Int)))]) ⟨rfl, rfl, trivial⟩ (g_X11_meetings_J54 l G v0 ((xn r3.2 : Int)) h12)
        · exact xa_weak (ls' := [some (xR v0), none, some (xR x6)]) ⟨rfl, rfl, trivial⟩ (g_X11_meetings_J54 l G v0 x6 r3.2)
theorem ct_X11_meetings (l : Launch) (G : xa_C) (v0 v1 : Int) (h : xa_H) (r : Int × xa_H) (hr : f_X11_meetings v0 v1 h = some r) : xa_CT l G 7 mX11_meetings yX11_meetings [xR v0, xI v1] h (some (xI r.1), r.2) :=
  xa_met (by decide +kernel) rfl (fun q => by first | rfl | cases q) (Nat.le_of_ble_eq_true rfl) rfl (g_X11_meetings l G v0 v1 h) (by rw [hr]; rfl)
