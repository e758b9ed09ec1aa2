abbrev mX9_init : xa_M := (cX9_init, 1, none, RX9, true)
theorem d_X9_init_0 : decode mX9_init.1 0 = .ok (.aload_n 0, 1) ∧ 0 + 1 = 1 := ⟨by decide +kernel, rfl⟩
theorem d_X9_init_1 : decode mX9_init.1 1 = .ok (.invokespecial 3, 3) ∧ 1 + 3 = 4 := ⟨by decide +kernel, rfl⟩
theorem d_X9_init_4 : decode mX9_init.1 4 = .ok (.aload_n 0, 1) ∧ 4 + 1 = 5 := ⟨by decide +kernel, rfl⟩
theorem d_X9_init_5 : decode mX9_init.1 5 = .ok (.iconst 0, 1) ∧ 5 + 1 = 6 := ⟨by decide +kernel, rfl⟩
theorem d_X9_init_6 : decode mX9_init.1 6 = .ok (.putfield 9, 3) ∧ 6 + 3 = 9 := ⟨by decide +kernel, rfl⟩
theorem d_X9_init_9 : decode mX9_init.1 9 = .ok (.aload_n 0, 1) ∧ 9 + 1 = 10 := ⟨by decide +kernel, rfl⟩
theorem d_X9_init_10 : decode mX9_init.1 10 = .ok (.bipush 6, 2) ∧ 10 + 2 = 12 := ⟨by decide +kernel, rfl⟩
theorem d_X9_init_12 : decode mX9_init.1 12 = .ok (.newarray .int, 2) ∧ 12 + 2 = 14 := ⟨by decide +kernel, rfl⟩
theorem d_X9_init_14 : decode mX9_init.1 14 = .ok (.putfield 15, 3) ∧ 14 + 3 = 17 := ⟨by decide +kernel, rfl⟩
theorem d_X9_init_17 : decode mX9_init.1 17 = .ok (.aload_n 0, 1) ∧ 17 + 1 = 18 := ⟨by decide +kernel, rfl⟩
theorem d_X9_init_18 : decode mX9_init.1 18 = .ok (.bipush 6, 2) ∧ 18 + 2 = 20 := ⟨by decide +kernel, rfl⟩
theorem d_X9_init_20 : decode mX9_init.1 20 = .ok (.newarray .int, 2) ∧ 20 + 2 = 22 := ⟨by decide +kernel, rfl⟩
theorem d_X9_init_22 : decode mX9_init.1 22 = .ok (.putfield 19, 3) ∧ 22 + 3 = 25 := ⟨by decide +kernel, rfl⟩
theorem d_X9_init_25 : decode mX9_init.1 25 = .ok (.aload_n 0, 1) ∧ 25 + 1 = 26 := ⟨by decide +kernel, rfl⟩
theorem d_X9_init_26 : decode mX9_init.1 26 = .ok (.bipush 6, 2) ∧ 26 + 2 = 28 := ⟨by decide +kernel, rfl⟩
theorem d_X9_init_28 : decode mX9_init.1 28 = .ok (.newarray .int, 2) ∧ 28 + 2 = 30 := ⟨by decide +kernel, rfl⟩
theorem d_X9_init_30 : decode mX9_init.1 30 = .ok (.putfield 22, 3) ∧ 30 + 3 = 33 := ⟨by decide +kernel, rfl⟩
theorem d_X9_init_33 : decode mX9_init.1 33 = .ok (.aload_n 0, 1) ∧ 33 + 1 = 34 := ⟨by decide +kernel, rfl⟩
theorem d_X9_init_34 : decode mX9_init.1 34 = .ok (.bipush 36, 2) ∧ 34 + 2 = 36 := ⟨by decide +kernel, rfl⟩
theorem d_X9_init_36 : decode mX9_init.1 36 = .ok (.newarray .int, 2) ∧ 36 + 2 = 38 := ⟨by decide +kernel, rfl⟩
theorem d_X9_init_38 : decode mX9_init.1 38 = .ok (.putfield 25, 3) ∧ 38 + 3 = 41 := ⟨by decide +kernel, rfl⟩
theorem d_X9_init_41 : decode mX9_init.1 41 = .ok (.aload_n 0, 1) ∧ 41 + 1 = 42 := ⟨by decide +kernel, rfl⟩
theorem d_X9_init_42 : decode mX9_init.1 42 = .ok (.bipush 30, 2) ∧ 42 + 2 = 44 := ⟨by decide +kernel, rfl⟩
theorem d_X9_init_44 : decode mX9_init.1 44 = .ok (.newarray .int, 2) ∧ 44 + 2 = 46 := ⟨by decide +kernel, rfl⟩
theorem d_X9_init_46 : decode mX9_init.1 46 = .ok (.putfield 28, 3) ∧ 46 + 3 = 49 := ⟨by decide +kernel, rfl⟩
theorem d_X9_init_49 : decode mX9_init.1 49 = .ok (.aload_n 0, 1) ∧ 49 + 1 = 50 := ⟨by decide +kernel, rfl⟩
theorem d_X9_init_50 : decode mX9_init.1 50 = .ok (.iconst 0, 1) ∧ 50 + 1 = 51 := ⟨by decide +kernel, rfl⟩
theorem d_X9_init_51 : decode mX9_init.1 51 = .ok (.putfield 31, 3) ∧ 51 + 3 = 54 := ⟨by decide +kernel, rfl⟩
theorem d_X9_init_54 : decode mX9_init.1 54 = .ok (.return_, 1) := by decide +kernel
set_option maxRecDepth 100000 in
set_option maxHeartbeats 4000000 in
theorem g_X9_init (l : Launch) (G : xa_C) (v0 : Int) (h : xa_H) : xa_G l G 2 mX9_init (f_X9_init v0 h) (fun r => some (none, r) : xa_H → Option xa_O) 0 [some (xR v0)] [] h := by
  unfold f_X9_init
  refine xa_step (xa_aload_n d_X9_init_0 rfl) ?_
  refine xa_objInit (ci := 9) xw_338 xw_188 xw_189 (by decide) (Nat.le_of_ble_eq_true rfl) d_X9_init_1 (fun _ => ?_)
  refine xa_step (xa_aload_n d_X9_init_4 rfl) ?_
  refine xa_step (xa_iconst d_X9_init_5 xq_i_0) ?_
  refine xa_putf2 (tg := xI) xc_9 (by decide) (fun _ => rfl) rfl (fun c hc => xa_fitI c hc) xw_339 rfl d_X9_init_6 (fun h1 _ => ?_)
  refine xa_step (xa_aload_n d_X9_init_9 rfl) ?_
  refine xa_step (xa_bipush d_X9_init_10 xq_b_6) ?_
  refine xa_newarr 0 .int (by decide) rfl xw_291 d_X9_init_12 (fun h2 _ => ?_)
  refine xa_putF2 (tg := xR) xc_9 (by decide) (fun _ => rfl) rfl rfl rfl (fun c hc => xa_fitA c hc) xw_342 rfl d_X9_init_14 (fun h3 _ => ?_)
  refine xa_step (xa_aload_n d_X9_init_17 rfl) ?_
  refine xa_step (xa_bipush d_X9_init_18 xq_b_6) ?_
  refine xa_newarr 0 .int (by decide) rfl xw_291 d_X9_init_20 (fun h4 _ => ?_)
  refine xa_putF2 (tg := xR) xc_9 (by decide) (fun _ => rfl) rfl rfl rfl (fun c hc => xa_fitA c hc) xw_347 rfl d_X9_init_22 (fun h5 _ => ?_)
  refine xa_step (xa_aload_n d_X9_init_25 rfl) ?_
  refine xa_step (xa_bipush d_X9_init_26 xq_b_6) ?_
  refine xa_newarr 0 .int (by decide) rfl xw_291 d_X9_init_28 (fun h6 _ => ?_)
  refine xa_putF2 (tg := xR) xc_9 (by decide) (fun _ => rfl) rfl rfl rfl (fun c hc => xa_fitA c hc) xw_351 rfl d_X9_init_30 (fun h7 _ => ?_)
  refine xa_step (xa_aload_n d_X9_init_33 rfl) ?_
  refine xa_step (xa_bipush d_X9_init_34 xq_b_36) ?_
  refine xa_newarr 0 .int (by decide) rfl xw_291 d_X9_init_36 (fun h8 _ => ?_)
  refine xa_putF2 (tg := xR) xc_9 (by decide) (fun _ => rfl) rfl rfl rfl (fun c hc => xa_fitA c hc) xw_355 rfl d_X9_init_38 (fun h9 _ => ?_)
  refine xa_step (xa_aload_n d_X9_init_41 rfl) ?_
  refine xa_step (xa_bipush d_X9_init_42 xq_b_30) ?_
  refine xa_newarr 0 .int (by decide) rfl xw_291 d_X9_init_44 (fun h10 _ => ?_)
  refine xa_putF2 (tg := xR) xc_9 (by decide) (fun _ => rfl) rfl rfl rfl (fun c hc => xa_fitA c hc) xw_358 rfl d_X9_init_46 (fun h11 _ => ?_)
  refine xa_step (xa_aload_n d_X9_init_49 rfl) ?_
  refine xa_step (xa_iconst d_X9_init_50 xq_i_0) ?_
  refine xa_putf2 (tg := xI) xc_9 (by decide) (fun _ => rfl) rfl (fun c hc => xa_fitI c hc) xw_360 rfl d_X9_init_51 (fun h12 _ => ?_)
  exact xa_vret d_X9_init_54 rfl rfl
theorem ct_X9_init (l : Launch) (G : xa_C) (v0 : Int) (h : xa_H) (r : xa_H) (hr : f_X9_init v0 h = some r) : xa_CT l G 2 mX9_init yX9_init [xR v0] h (none, r) :=
  xa_met (by decide +kernel) rfl (fun q => by first | rfl | cases q) (Nat.le_of_ble_eq_true rfl) rfl (g_X9_init l G v0 h) (by rw [hr]; rfl)
abbrev mJ7_fill_53178 : xa_M := (cJ7_fill_53178, 4, none, RJ7, false)
theorem d_J7_fill_53178_0 : decode mJ7_fill_53178.1 0 = .ok (.iconst 0, 1) ∧ 0 + 1 = 1 := ⟨by decide +kernel, rfl⟩
theorem d_J7_fill_53178_1 : decode mJ7_fill_53178.1 1 = .ok (.istore_n 2, 1) ∧ 1 + 1 = 2 := ⟨by decide +kernel, rfl⟩
theorem d_J7_fill_53178_2 : decode mJ7_fill_53178.1 2 = .ok (.aload_n 0, 1) ∧ 2 + 1 = 3 := ⟨by decide +kernel, rfl⟩
theorem d_J7_fill_53178_3 : decode mJ7_fill_53178.1 3 = .ok (.arraylength, 1) ∧ 3 + 1 = 4 := ⟨by decide +kernel, rfl⟩
theorem d_J7_fill_53178_4 : decode mJ7_fill_53178.1 4 = .ok (.istore_n 3, 1) ∧ 4 + 1 = 5 := ⟨by decide +kernel, rfl⟩
theorem d_J7_fill_53178_5 : decode mJ7_fill_53178.1 5 = .ok (.iload_n 2, 1) ∧ 5 + 1 = 6 := ⟨by decide +kernel, rfl⟩
theorem d_J7_fill_53178_6 : decode mJ7_fill_53178.1 6 = .ok (.iload_n 3, 1) ∧ 6 + 1 = 7 := ⟨by decide +kernel, rfl⟩
theorem d_J7_fill_53178_7 : decode mJ7_fill_53178.1 7 = .ok (.if_icmp .ge 13, 3) ∧ 7 + 3 = 10 ∧ ((7 : Nat) : Int) + 13 = ((20 : Nat) : Int) := ⟨by decide +kernel, rfl, rfl⟩
theorem d_J7_fill_53178_10 : decode mJ7_fill_53178.1 10 = .ok (.aload_n 0, 1) ∧ 10 + 1 = 11 := ⟨by decide +kernel, rfl⟩
theorem d_J7_fill_53178_11 : decode mJ7_fill_53178.1 11 = .ok (.iload_n 2, 1) ∧ 11 + 1 = 12 := ⟨by decide +kernel, rfl⟩
theorem d_J7_fill_53178_12 : decode mJ7_fill_53178.1 12 = .ok (.iload_n 1, 1) ∧ 12 + 1 = 13 := ⟨by decide +kernel, rfl⟩
theorem d_J7_fill_53178_13 : decode mJ7_fill_53178.1 13 = .ok (.iastore, 1) ∧ 13 + 1 = 14 := ⟨by decide +kernel, rfl⟩
theorem d_J7_fill_53178_14 : decode mJ7_fill_53178.1 14 = .ok (.iinc 2 1, 3) ∧ 14 + 3 = 17 := ⟨by decide +kernel, rfl⟩
theorem d_J7_fill_53178_17 : decode mJ7_fill_53178.1 17 = .ok (.goto (-12), 3) ∧ ((17 : Nat) : Int) + (-12) = ((5 : Nat) : Int) := ⟨by decide +kernel, rfl⟩
set_option maxRecDepth 100000 in
set_option maxHeartbeats 4000000 in
theorem g_J7_fill_53178_L5 (l : Launch) (G : xa_C) (c0 c1 c3 : Int) (K : (Int × xa_H) ⊕ (xa_H) → Option xa_O) (hb : ∀ (v2 : Int) (h : xa_H), xa_G l G 2 mJ7_fill_53178 (some (Sum.inl ((v2, h)))) K 5 [some (xR c0), some (xI c1), some (xI v2), some (xI c3)] [] h) (hx : ∀ (h : xa_H), xa_G l G 2 mJ7_fill_53178 (some (Sum.inr h)) K 20 [none, none, none, none] [] h) : ∀ (v2 : Int) (h : xa_H), xa_G l G 2 mJ7_fill_53178 (f_J7_fill_53178_L5 c0 c1 c3 v2 h) K 5 [some (xR c0), some (xI c1), some (xI v2), some (xI c3)] [] h := by
  intro v2 h
  unfold f_J7_fill_53178_L5
  refine xa_step (xa_iload_n d_J7_fill_53178_5 rfl) ?_
  refine xa_step (xa_iload_n d_J7_fill_53178_6 rfl) ?_
  refine xa_if (xa_icmpge d_J7_fill_53178_7) (fun q2 => ?_) (fun q2 => ?_)
  · refine xa_step (xa_aload_n d_J7_fill_53178_10 rfl) ?_
    refine xa_step (xa_iload_n d_J7_fill_53178_11 rfl) ?_
    refine xa_step (xa_iload_n d_J7_fill_53178_12 rfl) ?_
    refine xa_iastore2 d_J7_fill_53178_13 (fun h3 _ => ?_)
    refine xa_step (xa_iinc (ls' := [some (xR c0), some (xI c1), some (xI (w32 (v2 + 1))), some (xI c3)]) d_J7_fill_53178_14 xq_i_1 rfl (by decide) rfl) ?_
    refine xa_step (xa_goto d_J7_fill_53178_17) ?_
    exact xa_weak (ls' := [some (xR c0), some (xI c1), some (xI (w32 (v2 + 1))), some (xI c3)]) ⟨rfl, rfl, rfl, rfl, trivial⟩ (hb (w32 (v2 + 1)) h3)
  · exact xa_weak (ls' := [none, none, none, none]) trivial (hx h)
theorem d_J7_fill_53178_20 : decode mJ7_fill_53178.1 20 = .ok (.return_, 1) := by decide +kernel
set_option maxRecDepth 100000 in
set_option maxHeartbeats 4000000 in
theorem g_J7_fill_53178 (l : Launch) (G : xa_C) (v0 v1 : Int) (h : xa_H) : xa_G l G 2 mJ7_fill_53178 (f_J7_fill_53178 v0 v1 h) (fun r => some (none, r) : xa_H → Option xa_O) 0 [some (xR v0), some (xI v1), none, none] [] h := by
  unfold f_J7_fill_53178
  refine xa_step (xa_iconst d_J7_fill_53178_0 xq_i_0) ?_
  refine xa_step (xa_istore_n (ls' := [some (xR v0), some (xI v1), some (xI 0), none]) d_J7_fill_53178_1 (by decide) rfl) ?_
  refine xa_step (xa_aload_n d_J7_fill_53178_2 rfl) ?_
  refine xa_alen d_J7_fill_53178_3 (fun x1 _ => ?_)
  refine xa_step (xa_istore_n (ls' := [some (xR v0), some (xI v1), some (xI 0), some (xI x1)]) d_J7_fill_53178_4 (by decide) rfl) ?_
  refine xa_weak (ls' := [some (xR v0), some (xI v1), some (xI 0), some (xI x1)]) ⟨rfl, rfl, rfl, rfl, trivial⟩ ?_
  refine xa_loop (f := fun s => f_J7_fill_53178_L5 v0 v1 x1 s.1 s.2) (L := fun s => [some (xR v0), some (xI v1), some (xI s.1), some (xI x1)]) (P := fun s => s.2) (X := (fun x K => xa_G l G 2 mJ7_fill_53178 (some (Sum.inr x)) K 20 [none, none, none, none] [] x)) (fun K hb hX s => g_J7_fill_53178_L5 l G v0 v1 x1 K (fun w0 hh => hb ((w0, hh))) (fun hh => hX hh) s.1 s.2) ?_ xFU ((0, h))
  intro e4 K hK
  refine xa_eqE hK ?_
  show xa_G l G 2 mJ7_fill_53178 _ _ 20 [none, none, none, none] [] e4
  exact xa_vret d_J7_fill_53178_20 rfl rfl
theorem ct_J7_fill_53178 (l : Launch) (G : xa_C) (v0 v1 : Int) (h : xa_H) (r : xa_H) (hr : f_J7_fill_53178 v0 v1 h = some r) : xa_CT l G 2 mJ7_fill_53178 yJ7_fill_53178 [xR v0, xI v1] h (none, r) :=
  xa_met (by decide +kernel) rfl (fun q => by first | rfl | cases q) (Nat.le_of_ble_eq_true rfl) rfl (g_J7_fill_53178 l G v0 v1 h) (by rw [hr]; rfl)
abbrev mX0_init : xa_M := (cX0_init, 1, none, RX0, true)
theorem d_X0_init_0 : decode mX0_init.1 0 = .ok (.aload_n 0, 1) ∧ 0 + 1 = 1 := ⟨by decide +kernel, rfl⟩
theorem d_X0_init_1 : decode mX0_init.1 1 = .ok (.invokespecial 3, 3) ∧ 1 + 3 = 4 := ⟨by decide +kernel, rfl⟩
theorem d_X0_init_4 : decode mX0_init.1 4 = .ok (.aload_n 0, 1) ∧ 4 + 1 = 5 := ⟨by decide +kernel, rfl⟩
theorem d_X0_init_5 : decode mX0_init.1 5 = .ok (.iconst 0, 1) ∧ 5 + 1 = 6 := ⟨by decide +kernel, rfl⟩
theorem d_X0_init_6 : decode mX0_init.1 6 = .ok (.putfield 9, 3) ∧ 6 + 3 = 9 := ⟨by decide +kernel, rfl⟩
theorem d_X0_init_9 : decode mX0_init.1 9 = .ok (.aload_n 0, 1) ∧ 9 + 1 = 10 := ⟨by decide +kernel, rfl⟩
theorem d_X0_init_10 : decode mX0_init.1 10 = .ok (.iconst 0, 1) ∧ 10 + 1 = 11 := ⟨by decide +kernel, rfl⟩
theorem d_X0_init_11 : decode mX0_init.1 11 = .ok (.putfield 15, 3) ∧ 11 + 3 = 14 := ⟨by decide +kernel, rfl⟩
theorem d_X0_init_14 : decode mX0_init.1 14 = .ok (.aload_n 0, 1) ∧ 14 + 1 = 15 := ⟨by decide +kernel, rfl⟩
theorem d_X0_init_15 : decode mX0_init.1 15 = .ok (.iconst 0, 1) ∧ 15 + 1 = 16 := ⟨by decide +kernel, rfl⟩
theorem d_X0_init_16 : decode mX0_init.1 16 = .ok (.putfield 18, 3) ∧ 16 + 3 = 19 := ⟨by decide +kernel, rfl⟩
theorem d_X0_init_19 : decode mX0_init.1 19 = .ok (.aload_n 0, 1) ∧ 19 + 1 = 20 := ⟨by decide +kernel, rfl⟩
theorem d_X0_init_20 : decode mX0_init.1 20 = .ok (.iconst 0, 1) ∧ 20 + 1 = 21 := ⟨by decide +kernel, rfl⟩
theorem d_X0_init_21 : decode mX0_init.1 21 = .ok (.putfield 21, 3) ∧ 21 + 3 = 24 := ⟨by decide +kernel, rfl⟩
theorem d_X0_init_24 : decode mX0_init.1 24 = .ok (.aload_n 0, 1) ∧ 24 + 1 = 25 := ⟨by decide +kernel, rfl⟩
theorem d_X0_init_25 : decode mX0_init.1 25 = .ok (.iconst 0, 1) ∧ 25 + 1 = 26 := ⟨by decide +kernel, rfl⟩
theorem d_X0_init_26 : decode mX0_init.1 26 = .ok (.putfield 24, 3) ∧ 26 + 3 = 29 := ⟨by decide +kernel, rfl⟩
theorem d_X0_init_29 : decode mX0_init.1 29 = .ok (.aload_n 0, 1) ∧ 29 + 1 = 30 := ⟨by decide +kernel, rfl⟩
theorem d_X0_init_30 : decode mX0_init.1 30 = .ok (.bipush 6, 2) ∧ 30 + 2 = 32 := ⟨by decide +kernel, rfl⟩
theorem d_X0_init_32 : decode mX0_init.1 32 = .ok (.newarray .int, 2) ∧ 32 + 2 = 34 := ⟨by decide +kernel, rfl⟩
theorem d_X0_init_34 : decode mX0_init.1 34 = .ok (.putfield 27, 3) ∧ 34 + 3 = 37 := ⟨by decide +kernel, rfl⟩
theorem d_X0_init_37 : decode mX0_init.1 37 = .ok (.aload_n 0, 1) ∧ 37 + 1 = 38 := ⟨by decide +kernel, rfl⟩
theorem d_X0_init_38 : decode mX0_init.1 38 = .ok (.bipush 6, 2) ∧ 38 + 2 = 40 := ⟨by decide +kernel, rfl⟩
theorem d_X0_init_40 : decode mX0_init.1 40 = .ok (.newarray .int, 2) ∧ 40 + 2 = 42 := ⟨by decide +kernel, rfl⟩
theorem d_X0_init_42 : decode mX0_init.1 42 = .ok (.putfield 31, 3) ∧ 42 + 3 = 45 := ⟨by decide +kernel, rfl⟩
theorem d_X0_init_45 : decode mX0_init.1 45 = .ok (.aload_n 0, 1) ∧ 45 + 1 = 46 := ⟨by decide +kernel, rfl⟩
theorem d_X0_init_46 : decode mX0_init.1 46 = .ok (.bipush 6, 2) ∧ 46 + 2 = 48 := ⟨by decide +kernel, rfl⟩
theorem d_X0_init_48 : decode mX0_init.1 48 = .ok (.newarray .int, 2) ∧ 48 + 2 = 50 := ⟨by decide +kernel, rfl⟩
theorem d_X0_init_50 : decode mX0_init.1 50 = .ok (.putfield 34, 3) ∧ 50 + 3 = 53 := ⟨by decide +kernel, rfl⟩
theorem d_X0_init_53 : decode mX0_init.1 53 = .ok (.aload_n 0, 1) ∧ 53 + 1 = 54 := ⟨by decide +kernel, rfl⟩
theorem d_X0_init_54 : decode mX0_init.1 54 = .ok (.bipush 6, 2) ∧ 54 + 2 = 56 := ⟨by decide +kernel, rfl⟩
theorem d_X0_init_56 : decode mX0_init.1 56 = .ok (.newarray .int, 2) ∧ 56 + 2 = 58 := ⟨by decide +kernel, rfl⟩
theorem d_X0_init_58 : decode mX0_init.1 58 = .ok (.putfield 37, 3) ∧ 58 + 3 = 61 := ⟨by decide +kernel, rfl⟩
theorem d_X0_init_61 : decode mX0_init.1 61 = .ok (.aload_n 0, 1) ∧ 61 + 1 = 62 := ⟨by decide +kernel, rfl⟩
theorem d_X0_init_62 : decode mX0_init.1 62 = .ok (.bipush 36, 2) ∧ 62 + 2 = 64 := ⟨by decide +kernel, rfl⟩
theorem d_X0_init_64 : decode mX0_init.1 64 = .ok (.newarray .int, 2) ∧ 64 + 2 = 66 := ⟨by decide +kernel, rfl⟩
theorem d_X0_init_66 : decode mX0_init.1 66 = .ok (.putfield 40, 3) ∧ 66 + 3 = 69 := ⟨by decide +kernel, rfl⟩
theorem d_X0_init_69 : decode mX0_init.1 69 = .ok (.aload_n 0, 1) ∧ 69 + 1 = 70 := ⟨by decide +kernel, rfl⟩
theorem d_X0_init_70 : decode mX0_init.1 70 = .ok (.bipush 6, 2) ∧ 70 + 2 = 72 := ⟨by decide +kernel, rfl⟩
theorem d_X0_init_72 : decode mX0_init.1 72 = .ok (.newarray .int, 2) ∧ 72 + 2 = 74 := ⟨by decide +kernel, rfl⟩
theorem d_X0_init_74 : decode mX0_init.1 74 = .ok (.putfield 43, 3) ∧ 74 + 3 = 77 := ⟨by decide +kernel, rfl⟩
theorem d_X0_init_77 : decode mX0_init.1 77 = .ok (.aload_n 0, 1) ∧ 77 + 1 = 78 := ⟨by decide +kernel, rfl⟩
theorem d_X0_init_78 : decode mX0_init.1 78 = .ok (.aconst_null, 1) ∧ 78 + 1 = 79 := ⟨by decide +kernel, rfl⟩
theorem d_X0_init_79 : decode mX0_init.1 79 = .ok (.putfield 46, 3) ∧ 79 + 3 = 82 := ⟨by decide +kernel, rfl⟩
theorem d_X0_init_82 : decode mX0_init.1 82 = .ok (.aload_n 0, 1) ∧ 82 + 1 = 83 := ⟨by decide +kernel, rfl⟩
theorem d_X0_init_83 : decode mX0_init.1 83 = .ok (.aconst_null, 1) ∧ 83 + 1 = 84 := ⟨by decide +kernel, rfl⟩
theorem d_X0_init_84 : decode mX0_init.1 84 = .ok (.putfield 50, 3) ∧ 84 + 3 = 87 := ⟨by decide +kernel, rfl⟩
theorem d_X0_init_87 : decode mX0_init.1 87 = .ok (.aload_n 0, 1) ∧ 87 + 1 = 88 := ⟨by decide +kernel, rfl⟩
theorem d_X0_init_88 : decode mX0_init.1 88 = .ok (.new 53, 3) ∧ 88 + 3 = 91 := ⟨by decide +kernel, rfl⟩
theorem d_X0_init_91 : decode mX0_init.1 91 = .ok (.dup, 1) ∧ 91 + 1 = 92 := ⟨by decide +kernel, rfl⟩
theorem d_X0_init_92 : decode mX0_init.1 92 = .ok (.invokespecial 55, 3) ∧ 92 + 3 = 95 := ⟨by decide +kernel, rfl⟩
theorem d_X0_init_95 : decode mX0_init.1 95 = .ok (.putfield 56, 3) ∧ 95 + 3 = 98 := ⟨by decide +kernel, rfl⟩
theorem d_X0_init_98 : decode mX0_init.1 98 = .ok (.aload_n 0, 1) ∧ 98 + 1 = 99 := ⟨by decide +kernel, rfl⟩
theorem d_X0_init_99 : decode mX0_init.1 99 = .ok (.getfield 37, 3) ∧ 99 + 3 = 102 := ⟨by decide +kernel, rfl⟩
theorem d_X0_init_102 : decode mX0_init.1 102 = .ok (.iconst (-1), 1) ∧ 102 + 1 = 103 := ⟨by decide +kernel, rfl⟩
theorem d_X0_init_103 : decode mX0_init.1 103 = .ok (.invokestatic 60, 3) ∧ 103 + 3 = 106 := ⟨by decide +kernel, rfl⟩
theorem d_X0_init_106 : decode mX0_init.1 106 = .ok (.return_, 1) := by decide +kernel
set_option maxRecDepth 100000 in
set_option maxHeartbeats 4000000 in
theorem g_X0_init (l : Launch) (G : xa_C) (v0 : Int) (h : xa_H) : xa_G l G 3 mX0_init (f_X0_init v0 h) (fun r => some (none, r) : xa_H → Option xa_O) 0 [some (xR v0)] [] h := by
  unfold f_X0_init
  refine xa_step (xa_aload_n d_X0_init_0 rfl) ?_
  refine xa_objInit (ci := 0) xw_332 xw_188 xw_189 (by decide) (Nat.le_of_ble_eq_true rfl) d_X0_init_1 (fun _ => ?_)
  refine xa_step (xa_aload_n d_X0_init_4 rfl) ?_
  refine xa_step (xa_iconst d_X0_init_5 xq_i_0) ?_
  refine xa_putf2 (tg := xI) xc_0 (by decide) (fun _ => rfl) rfl (fun c hc => xa_fitI c hc) xw_380 rfl d_X0_init_6 (fun h1 _ => ?_)
  refine xa_step (xa_aload_n d_X0_init_9 rfl) ?_
  refine xa_step (xa_iconst d_X0_init_10 xq_i_0) ?_
  refine xa_putf2 (tg := xI) xc_0 (by decide) (fun _ => rfl) rfl (fun c hc => xa_fitI c hc) xw_383 rfl d_X0_init_11 (fun h2 _ => ?_)
  refine xa_step (xa_aload_n d_X0_init_14 rfl) ?_
  refine xa_step (xa_iconst d_X0_init_15 xq_i_0) ?_
  refine xa_putf2 (tg := xI) xc_0 (by decide) (fun _ => rfl) rfl (fun c hc => xa_fitI c hc) xw_387 rfl d_X0_init_16 (fun h3 _ => ?_)
  refine xa_step (xa_aload_n d_X0_init_19 rfl) ?_
  refine xa_step (xa_iconst d_X0_init_20 xq_i_0) ?_
  refine xa_putf2 (tg := xI) xc_0 (by decide) (fun _ => rfl) rfl (fun c hc => xa_fitI c hc) xw_392 rfl d_X0_init_21 (fun h4 _ => ?_)
  refine xa_step (xa_aload_n d_X0_init_24 rfl) ?_
  refine xa_step (xa_iconst d_X0_init_25 xq_i_0) ?_
  refine xa_putf2 (tg := xI) xc_0 (by decide) (fun _ => rfl) rfl (fun c hc => xa_fitI c hc) xw_395 rfl d_X0_init_26 (fun h5 _ => ?_)
  refine xa_step (xa_aload_n d_X0_init_29 rfl) ?_
  refine xa_step (xa_bipush d_X0_init_30 xq_b_6) ?_
  refine xa_newarr 0 .int (by decide) rfl xw_291 d_X0_init_32 (fun h6 _ => ?_)
  refine xa_putF2 (tg := xR) xc_0 (by decide) (fun _ => rfl) rfl rfl rfl (fun c hc => xa_fitA c hc) xw_398 rfl d_X0_init_34 (fun h7 _ => ?_)
  refine xa_step (xa_aload_n d_X0_init_37 rfl) ?_
  refine xa_step (xa_bipush d_X0_init_38 xq_b_6) ?_
  refine xa_newarr 0 .int (by decide) rfl xw_291 d_X0_init_40 (fun h8 _ => ?_)
  refine xa_putF2 (tg := xR) xc_0 (by decide) (fun _ => rfl) rfl rfl rfl (fun c hc => xa_fitA c hc) xw_400 rfl d_X0_init_42 (fun h9 _ => ?_)
  refine xa_step (xa_aload_n d_X0_init_45 rfl) ?_
  refine xa_step (xa_bipush d_X0_init_46 xq_b_6) ?_
  refine xa_newarr 0 .int (by decide) rfl xw_291 d_X0_init_48 (fun h10 _ => ?_)
  refine xa_putF2 (tg := xR) xc_0 (by decide) (fun _ => rfl) rfl rfl rfl (fun c hc => xa_fitA c hc) xw_402 rfl d_X0_init_50 (fun h11 _ => ?_)
  refine xa_step (xa_aload_n d_X0_init_53 rfl) ?_
  refine xa_step (xa_bipush d_X0_init_54 xq_b_6) ?_
  refine xa_newarr 0 .int (by decide) rfl xw_291 d_X0_init_56 (fun h12 _ => ?_)
  refine xa_putF2 (tg := xR) xc_0 (by decide) (fun _ => rfl) rfl rfl rfl (fun c hc => xa_fitA c hc) xw_405 rfl d_X0_init_58 (fun h13 _ => ?_)
  refine xa_step (xa_aload_n d_X0_init_61 rfl) ?_
  refine xa_step (xa_bipush d_X0_init_62 xq_b_36) ?_
  refine xa_newarr 0 .int (by decide) rfl xw_291 d_X0_init_64 (fun h14 _ => ?_)
  refine xa_putF2 (tg := xR) xc_0 (by decide) (fun _ => rfl) rfl rfl rfl (fun c hc => xa_fitA c hc) xw_408 rfl d_X0_init_66 (fun h15 _ => ?_)
  refine xa_step (xa_aload_n d_X0_init_69 rfl) ?_
  refine xa_step (xa_bipush d_X0_init_70 xq_b_6) ?_
  refine xa_newarr 0 .int (by decide) rfl xw_291 d_X0_init_72 (fun h16 _ => ?_)
  refine xa_putF2 (tg := xR) xc_0 (by decide) (fun _ => rfl) rfl rfl rfl (fun c hc => xa_fitA c hc) xw_410 rfl d_X0_init_74 (fun h17 _ => ?_)
  refine xa_step (xa_aload_n d_X0_init_77 rfl) ?_
  refine xa_step (xa_null d_X0_init_78) ?_
  refine xa_putf2 (tg := xR) xc_0 (by decide) (fun _ => rfl) rfl (fun c hc => xa_fitO c hc) xw_412 rfl d_X0_init_79 (fun h18 _ => ?_)
  refine xa_step (xa_aload_n d_X0_init_82 rfl) ?_
  refine xa_step (xa_null d_X0_init_83) ?_
  refine xa_putf2 (tg := xR) xc_0 (by decide) (fun _ => rfl) rfl (fun c hc => xa_fitO c hc) xw_415 rfl d_X0_init_84 (fun h19 _ => ?_)
  refine xa_step (xa_aload_n d_X0_init_87 rfl) ?_
  refine xa_newO xc_9 xt_9 xw_333 xw_334 xw_170 d_X0_init_88 (fun h20 _ => ?_)
  refine xa_step (xa_dup d_X0_init_91 (xa_tR _)) ?_
  refine xa_callINV (host := RX11) (nn := xn h19) (as := []) (st := [xR ((xn h19 : Int)), xR v0]) (M' := mX9_init) (d' := 2) rfl rfl (by simp [xa_N]) xw_336 xw_337 xw_170 xh_X9_init rfl ⟨Nat.le_of_ble_eq_true rfl, Nat.le_of_ble_eq_true rfl⟩ (Nat.le_of_ble_eq_true rfl) rfl d_X0_init_92 (fun r hr => ct_X9_init l G ((xn h19 : Int)) h20 r hr) (fun r21 _ => ?_)
  refine xa_putF2 (tg := xR) xc_0 (by decide) (fun _ => rfl) rfl rfl rfl (fun c hc => xa_fitO c hc) xw_418 rfl d_X0_init_95 (fun h22 _ => ?_)
  refine xa_step (xa_aload_n d_X0_init_98 rfl) ?_
  refine xa_getf xR xc_0 (by decide) (fun _ => rfl) xw_405 rfl d_X0_init_99 (fun x23 _ => ?_)
  refine xa_step (xa_iconst d_X0_init_102 xq_i_m1) ?_
  refine xa_callSV (as := [xR x23, xI ((-1))]) (st := []) (M' := mJ7_fill_53178) (d' := 2) xw_377 xw_378 xw_379 xw_171 xh_J7_fill_53178 rfl ⟨Nat.le_of_ble_eq_true rfl, Nat.le_of_ble_eq_true rfl⟩ (Nat.le_of_ble_eq_true rfl) rfl d_X0_init_103 (fun r hr => ct_J7_fill_53178 l G x23 ((-1)) h22 r hr) (fun r24 _ => ?_)
  exact xa_vret d_X0_init_106 rfl rfl
theorem ct_X0_init (l : Launch) (G : xa_C) (v0 : Int) (h : xa_H) (r : xa_H) (hr : f_X0_init v0 h = some r) : xa_CT l G 3 mX0_init yX0_init [xR v0] h (none, r) :=
  xa_met (by decide +kernel) rfl (fun q => by first | rfl | cases q) (Nat.le_of_ble_eq_true rfl) rfl (g_X0_init l G v0 h) (by rw [hr]; rfl)
abbrev mX1_init : xa_M := (cX1_init, 3, none, RX1, true)
theorem d_X1_init_0 : decode mX1_init.1 0 = .ok (.aload_n 0, 1) ∧ 0 + 1 = 1 := ⟨by decide +kernel, rfl⟩
theorem d_X1_init_1 : decode mX1_init.1 1 = .ok (.invokespecial 3, 3) ∧ 1 + 3 = 4 := ⟨by decide +kernel, rfl⟩
theorem d_X1_init_4 : decode mX1_init.1 4 = .ok (.aload_n 0, 1) ∧ 4 + 1 = 5 := ⟨by decide +kernel, rfl⟩
theorem d_X1_init_5 : decode mX1_init.1 5 = .ok (.aconst_null, 1) ∧ 5 + 1 = 6 := ⟨by decide +kernel, rfl⟩
theorem d_X1_init_6 : decode mX1_init.1 6 = .ok (.putfield 9, 3) ∧ 6 + 3 = 9 := ⟨by decide +kernel, rfl⟩
theorem d_X1_init_9 : decode mX1_init.1 9 = .ok (.aload_n 0, 1) ∧ 9 + 1 = 10 := ⟨by decide +kernel, rfl⟩
theorem d_X1_init_10 : decode mX1_init.1 10 = .ok (.aload_n 1, 1) ∧ 10 + 1 = 11 := ⟨by decide +kernel, rfl⟩
theorem d_X1_init_11 : decode mX1_init.1 11 = .ok (.putfield 15, 3) ∧ 11 + 3 = 14 := ⟨by decide +kernel, rfl⟩
theorem d_X1_init_14 : decode mX1_init.1 14 = .ok (.aload_n 0, 1) ∧ 14 + 1 = 15 := ⟨by decide +kernel, rfl⟩
theorem d_X1_init_15 : decode mX1_init.1 15 = .ok (.aload_n 2, 1) ∧ 15 + 1 = 16 := ⟨by decide +kernel, rfl⟩
theorem d_X1_init_16 : decode mX1_init.1 16 = .ok (.putfield 19, 3) ∧ 16 + 3 = 19 := ⟨by decide +kernel, rfl⟩
theorem d_X1_init_19 : decode mX1_init.1 19 = .ok (.return_, 1) := by decide +kernel
set_option maxRecDepth 100000 in
set_option maxHeartbeats 4000000 in
theorem g_X1_init (l : Launch) (G : xa_C) (v0 v1 v2 : Int) (h : xa_H) : xa_G l G 2 mX1_init (f_X1_init v0 v1 v2 h) (fun r => some (none, r) : xa_H → Option xa_O) 0 [some (xR v0), some (xR v1), some (xR v2)] [] h := by
  unfold f_X1_init
  refine xa_step (xa_aload_n d_X1_init_0 rfl) ?_
  refine xa_objInit (ci := 1) xw_316 xw_188 xw_189 (by decide) (Nat.le_of_ble_eq_true rfl) d_X1_init_1 (fun _ => ?_)
  refine xa_step (xa_aload_n d_X1_init_4 rfl) ?_
  refine xa_step (xa_null d_X1_init_5) ?_
  refine xa_putf2 (tg := xR) xc_1 (by decide) (fun _ => rfl) rfl (fun c hc => xa_fitO c hc) xw_319 rfl d_X1_init_6 (fun h1 _ => ?_)
  refine xa_step (xa_aload_n d_X1_init_9 rfl) ?_
  refine xa_step (xa_aload_n d_X1_init_10 rfl) ?_
  refine xa_putF2 (tg := xR) xc_1 (by decide) (fun _ => rfl) rfl rfl rfl (fun c hc => xa_fitO c hc) xw_317 rfl d_X1_init_11 (fun h2 _ => ?_)
  refine xa_step (xa_aload_n d_X1_init_14 rfl) ?_
  refine xa_step (xa_aload_n d_X1_init_15 rfl) ?_
  refine xa_putF2 (tg := xR) xc_1 (by decide) (fun _ => rfl) rfl rfl rfl (fun c hc => xa_fitO c hc) xw_318 rfl d_X1_init_16 (fun h3 _ => ?_)
  exact xa_vret d_X1_init_19 rfl rfl
theorem ct_X1_init (l : Launch) (G : xa_C) (v0 v1 v2 : Int) (h : xa_H) (r : xa_H) (hr : f_X1_init v0 v1 v2 h = some r) : xa_CT l G 2 mX1_init yX1_init [xR v0, xR v1, xR v2] h (none, r) :=
  xa_met (by decide +kernel) rfl (fun q => by first | rfl | cases q) (Nat.le_of_ble_eq_true rfl) rfl (g_X1_init l G v0 v1 v2 h) (by rw [hr]; rfl)
abbrev mX3_init : xa_M := (cX3_init, 2, none, RX3, true)
theorem d_X3_init_0 : decode mX3_init.1 0 = .ok (.aload_n 0, 1) ∧ 0 + 1 = 1 := ⟨by decide +kernel, rfl⟩
theorem d_X3_init_1 : decode mX3_init.1 1 = .ok (.invokespecial 3, 3) ∧ 1 + 3 = 4 := ⟨by decide +kernel, rfl⟩
theorem d_X3_init_4 : decode mX3_init.1 4 = .ok (.aload_n 0, 1) ∧ 4 + 1 = 5 := ⟨by decide +kernel, rfl⟩
theorem d_X3_init_5 : decode mX3_init.1 5 = .ok (.sipush 1600, 3) ∧ 5 + 3 = 8 := ⟨by decide +kernel, rfl⟩
theorem d_X3_init_8 : decode mX3_init.1 8 = .ok (.newarray .int, 2) ∧ 8 + 2 = 10 := ⟨by decide +kernel, rfl⟩
theorem d_X3_init_10 : decode mX3_init.1 10 = .ok (.putfield 9, 3) ∧ 10 + 3 = 13 := ⟨by decide +kernel, rfl⟩
theorem d_X3_init_13 : decode mX3_init.1 13 = .ok (.aload_n 0, 1) ∧ 13 + 1 = 14 := ⟨by decide +kernel, rfl⟩
theorem d_X3_init_14 : decode mX3_init.1 14 = .ok (.aload_n 1, 1) ∧ 14 + 1 = 15 := ⟨by decide +kernel, rfl⟩
theorem d_X3_init_15 : decode mX3_init.1 15 = .ok (.putfield 15, 3) ∧ 15 + 3 = 18 := ⟨by decide +kernel, rfl⟩
theorem d_X3_init_18 : decode mX3_init.1 18 = .ok (.return_, 1) := by decide +kernel
set_option maxRecDepth 100000 in
set_option maxHeartbeats 4000000 in
theorem g_X3_init (l : Launch) (G : xa_C) (v0 v1 : Int) (h : xa_H) : xa_G l G 2 mX3_init (f_X3_init v0 v1 h) (fun r => some (none, r) : xa_H → Option xa_O) 0 [some (xR v0), some (xR v1)] [] h := by
  unfold f_X3_init
  refine xa_step (xa_aload_n d_X3_init_0 rfl) ?_
  refine xa_objInit (ci := 3) xw_297 xw_188 xw_189 (by decide) (Nat.le_of_ble_eq_true rfl) d_X3_init_1 (fun _ => ?_)
  refine xa_step (xa_aload_n d_X3_init_4 rfl) ?_
  refine xa_step (xa_sipush d_X3_init_5 xq_s_1600) ?_
  refine xa_newarr 0 .int (by decide) rfl xw_291 d_X3_init_8 (fun h1 _ => ?_)
  refine xa_putF2 (tg := xR) xc_3 (by decide) (fun _ => rfl) rfl rfl rfl (fun c hc => xa_fitA c hc) xw_299 rfl d_X3_init_10 (fun h2 _ => ?_)
  refine xa_step (xa_aload_n d_X3_init_13 rfl) ?_
  refine xa_step (xa_aload_n d_X3_init_14 rfl) ?_
  refine xa_putF2 (tg := xR) xc_3 (by decide) (fun _ => rfl) rfl rfl rfl (fun c hc => xa_fitO c hc) xw_298 rfl d_X3_init_15 (fun h3 _ => ?_)
  exact xa_vret d_X3_init_18 rfl rfl
theorem ct_X3_init (l : Launch) (G : xa_C) (v0 v1 : Int) (h : xa_H) (r : xa_H) (hr : f_X3_init v0 v1 h = some r) : xa_CT l G 2 mX3_init yX3_init [xR v0, xR v1] h (none, r) :=
  xa_met (by decide +kernel) rfl (fun q => by first | rfl | cases q) (Nat.le_of_ble_eq_true rfl) rfl (g_X3_init l G v0 v1 h) (by rw [hr]; rfl)
abbrev mX4_init : xa_M := (cX4_init, 2, none, RX4, true)
theorem d_X4_init_0 : decode mX4_init.1 0 = .ok (.aload_n 0, 1) ∧ 0 + 1 = 1 := ⟨by decide +kernel, rfl⟩
theorem d_X4_init_1 : decode mX4_init.1 1 = .ok (.invokespecial 3, 3) ∧ 1 + 3 = 4 := ⟨by decide +kernel, rfl⟩
theorem d_X4_init_4 : decode mX4_init.1 4 = .ok (.aload_n 0, 1) ∧ 4 + 1 = 5 := ⟨by decide +kernel, rfl⟩
theorem d_X4_init_5 : decode mX4_init.1 5 = .ok (.bipush 20, 2) ∧ 5 + 2 = 7 := ⟨by decide +kernel, rfl⟩
theorem d_X4_init_7 : decode mX4_init.1 7 = .ok (.anewarray 9, 3) ∧ 7 + 3 = 10 := ⟨by decide +kernel, rfl⟩
theorem d_X4_init_10 : decode mX4_init.1 10 = .ok (.putfield 11, 3) ∧ 10 + 3 = 13 := ⟨by decide +kernel, rfl⟩
theorem d_X4_init_13 : decode mX4_init.1 13 = .ok (.aload_n 0, 1) ∧ 13 + 1 = 14 := ⟨by decide +kernel, rfl⟩
theorem d_X4_init_14 : decode mX4_init.1 14 = .ok (.iconst 0, 1) ∧ 14 + 1 = 15 := ⟨by decide +kernel, rfl⟩
theorem d_X4_init_15 : decode mX4_init.1 15 = .ok (.putfield 17, 3) ∧ 15 + 3 = 18 := ⟨by decide +kernel, rfl⟩
theorem d_X4_init_18 : decode mX4_init.1 18 = .ok (.aload_n 0, 1) ∧ 18 + 1 = 19 := ⟨by decide +kernel, rfl⟩
theorem d_X4_init_19 : decode mX4_init.1 19 = .ok (.iconst 0, 1) ∧ 19 + 1 = 20 := ⟨by decide +kernel, rfl⟩
theorem d_X4_init_20 : decode mX4_init.1 20 = .ok (.putfield 21, 3) ∧ 20 + 3 = 23 := ⟨by decide +kernel, rfl⟩
theorem d_X4_init_23 : decode mX4_init.1 23 = .ok (.iconst 0, 1) ∧ 23 + 1 = 24 := ⟨by decide +kernel, rfl⟩
theorem d_X4_init_24 : decode mX4_init.1 24 = .ok (.istore_n 1, 1) ∧ 24 + 1 = 25 := ⟨by decide +kernel, rfl⟩
theorem d_X4_init_25 : decode mX4_init.1 25 = .ok (.iload_n 1, 1) ∧ 25 + 1 = 26 := ⟨by decide +kernel, rfl⟩
theorem d_X4_init_26 : decode mX4_init.1 26 = .ok (.bipush 20, 2) ∧ 26 + 2 = 28 := ⟨by decide +kernel, rfl⟩
theorem d_X4_init_28 : decode mX4_init.1 28 = .ok (.if_icmp .ge 22, 3) ∧ 28 + 3 = 31 ∧ ((28 : Nat) : Int) + 22 = ((50 : Nat) : Int) := ⟨by decide +kernel, rfl, rfl⟩
theorem d_X4_init_31 : decode mX4_init.1 31 = .ok (.aload_n 0, 1) ∧ 31 + 1 = 32 := ⟨by decide +kernel, rfl⟩
theorem d_X4_init_32 : decode mX4_init.1 32 = .ok (.getfield 11, 3) ∧ 32 + 3 = 35 := ⟨by decide +kernel, rfl⟩
theorem d_X4_init_35 : decode mX4_init.1 35 = .ok (.iload_n 1, 1) ∧ 35 + 1 = 36 := ⟨by decide +kernel, rfl⟩
theorem d_X4_init_36 : decode mX4_init.1 36 = .ok (.new 9, 3) ∧ 36 + 3 = 39 := ⟨by decide +kernel, rfl⟩
theorem d_X4_init_39 : decode mX4_init.1 39 = .ok (.dup, 1) ∧ 39 + 1 = 40 := ⟨by decide +kernel, rfl⟩
theorem d_X4_init_40 : decode mX4_init.1 40 = .ok (.invokespecial 24, 3) ∧ 40 + 3 = 43 := ⟨by decide +kernel, rfl⟩
theorem d_X4_init_43 : decode mX4_init.1 43 = .ok (.aastore, 1) ∧ 43 + 1 = 44 := ⟨by decide +kernel, rfl⟩
theorem d_X4_init_44 : decode mX4_init.1 44 = .ok (.iinc 1 1, 3) ∧ 44 + 3 = 47 := ⟨by decide +kernel, rfl⟩
theorem d_X4_init_47 : decode mX4_init.1 47 = .ok (.goto (-22), 3) ∧ ((47 : Nat) : Int) + (-22) = ((25 : Nat) : Int) := ⟨by decide +kernel, rfl⟩
set_option maxRecDepth 100000 in
set_option maxHeartbeats 4000000 in
theorem g_X4_init_L25 (l : Launch) (G : xa_C) (c0 : Int) (K : (Int × xa_H) ⊕ (xa_H) → Option xa_O) (hb : ∀ (v1 : Int) (h : xa_H), xa_G l G 3 mX4_init (some (Sum.inl ((v1, h)))) K 25 [some (xR c0), some (xI v1)] [] h) (hx : ∀ (h : xa_H), xa_G l G 3 mX4_init (some (Sum.inr h)) K 50 [none, none] [] h) : ∀ (v1 : Int) (h : xa_H), xa_G l G 3 mX4_init (f_X4_init_L25 c0 v1 h) K 25 [some (xR c0), some (xI v1)] [] h := by
  intro v1 h
  unfold f_X4_init_L25
  refine xa_step (xa_iload_n d_X4_init_25 rfl) ?_
  refine xa_step (xa_bipush d_X4_init_26 xq_b_20) ?_
  refine xa_if (xa_icmpge d_X4_init_28) (fun q5 => ?_) (fun q5 => ?_)
  · refine xa_step (xa_aload_n d_X4_init_31 rfl) ?_
    refine xa_getf xR xc_4 (by decide) (fun _ => rfl) xw_461 rfl d_X4_init_32 (fun x6 _ => ?_)
    refine xa_step (xa_iload_n d_X4_init_35 rfl) ?_
    refine xa_newO xc_9 xt_9 xw_458 xw_334 xw_170 d_X4_init_36 (fun h7 _ => ?_)
    refine xa_step (xa_dup d_X4_init_39 (xa_tR _)) ?_
    refine xa_callINV (host := RX11) (nn := xn h) (as := []) (st := [xR ((xn h : Int)), xI v1, xR x6]) (M' := mX9_init) (d' := 2) rfl rfl (by simp [xa_N]) xw_336 xw_337 xw_170 xh_X9_init rfl ⟨Nat.le_of_ble_eq_true rfl, Nat.le_of_ble_eq_true rfl⟩ (Nat.le_of_ble_eq_true rfl) rfl d_X4_init_40 (fun r hr => ct_X9_init l G ((xn h : Int)) h7 r hr) (fun r8 _ => ?_)
    refine xa_aastore_42 d_X4_init_43 (fun h9 _ => ?_)
    refine xa_step (xa_iinc (ls' := [some (xR c0), some (xI (w32 (v1 + 1)))]) d_X4_init_44 xq_i_1 rfl (by decide) rfl) ?_
    refine xa_step (xa_goto d_X4_init_47) ?_
    exact xa_weak (ls' := [some (xR c0), some (xI (w32 (v1 + 1)))]) ⟨rfl, rfl, trivial⟩ (hb (w32 (v1 + 1)) h9)
  · exact xa_weak (ls' := [none, none]) trivial (hx h)
theorem d_X4_init_50 : decode mX4_init.1 50 = .ok (.return_, 1) := by decide +kernel
set_option maxRecDepth 100000 in
set_option maxHeartbeats 4000000 in
theorem g_X4_init (l : Launch) (G : xa_C) (v0 : Int) (h : xa_H) : xa_G l G 3 mX4_init (f_X4_init v0 h) (fun r => some (none, r) : xa_H → Option xa_O) 0 [some (xR v0), none] [] h := by
  unfold f_X4_init
  refine xa_step (xa_aload_n d_X4_init_0 rfl) ?_
  refine xa_objInit (ci := 4) xw_457 xw_188 xw_189 (by decide) (Nat.le_of_ble_eq_true rfl) d_X4_init_1 (fun _ => ?_)
  refine xa_step (xa_aload_n d_X4_init_4 rfl) ?_
  refine xa_step (xa_bipush d_X4_init_5 xq_b_20) ?_
  refine xa_anew 4 (Or.inl rfl) rfl xw_458 d_X4_init_7 (fun h1 _ => ?_)
  refine xa_putF2 (tg := xR) xc_4 (by decide) (fun _ => rfl) rfl rfl rfl (fun c hc => xa_fitA c hc) xw_461 rfl d_X4_init_10 (fun h2 _ => ?_)
  refine xa_step (xa_aload_n d_X4_init_13 rfl) ?_
  refine xa_step (xa_iconst d_X4_init_14 xq_i_0) ?_
  refine xa_putf2 (tg := xI) xc_4 (by decide) (fun _ => rfl) rfl (fun c hc => xa_fitI c hc) xw_462 rfl d_X4_init_15 (fun h3 _ => ?_)
  refine xa_step (xa_aload_n d_X4_init_18 rfl) ?_
  refine xa_step (xa_iconst d_X4_init_19 xq_i_0) ?_
  refine xa_putf2 (tg := xI) xc_4 (by decide) (fun _ => rfl) rfl (fun c hc => xa_fitI c hc) xw_463 rfl d_X4_init_20 (fun h4 _ => ?_)
  refine xa_step (xa_iconst d_X4_init_23 xq_i_0) ?_
  refine xa_step (xa_istore_n (ls' := [some (xR v0), some (xI 0)]) d_X4_init_24 (by decide) rfl) ?_
  refine xa_weak (ls' := [some (xR v0), some (xI 0)]) ⟨rfl, rfl, trivial⟩ ?_
  refine xa_loop (f := fun s => f_X4_init_L25 v0 s.1 s.2) (L := fun s => [some (xR v0), some (xI s.1)]) (P := fun s => s.2) (X := (fun x K => xa_G l G 3 mX4_init (some (Sum.inr x)) K 50 [none, none] [] x)) (fun K hb hX s => g_X4_init_L25 l G v0 K (fun w0 hh => hb ((w0, hh))) (fun hh => hX hh) s.1 s.2) ?_ xFU ((0, h4))
  intro e10 K hK
  refine xa_eqE hK ?_
  show xa_G l G 3 mX4_init _ _ 50 [none, none] [] e10
  exact xa_vret d_X4_init_50 rfl rfl
theorem ct_X4_init (l : Launch) (G : xa_C) (v0 : Int) (h : xa_H) (r : xa_H) (hr : f_X4_init v0 h = some r) : xa_CT l G 3 mX4_init yX4_init [xR v0] h (none, r) :=
  xa_met (by decide +kernel) rfl (fun q => by first | rfl | cases q) (Nat.le_of_ble_eq_true rfl) rfl (g_X4_init l G v0 h) (by rw [hr]; rfl)
abbrev mX5_init : xa_M := (cX5_init, 1, none, RX5, true)
theorem d_X5_init_0 : decode mX5_init.1 0 = .ok (.aload_n 0, 1) ∧ 0 + 1 = 1 := ⟨by decide +kernel, rfl⟩
theorem d_X5_init_1 : decode mX5_init.1 1 = .ok (.invokespecial 3, 3) ∧ 1 + 3 = 4 := ⟨by decide +kernel, rfl⟩
theorem d_X5_init_4 : decode mX5_init.1 4 = .ok (.aload_n 0, 1) ∧ 4 + 1 = 5 := ⟨by decide +kernel, rfl⟩
theorem d_X5_init_5 : decode mX5_init.1 5 = .ok (.iconst 0, 1) ∧ 5 + 1 = 6 := ⟨by decide +kernel, rfl⟩
theorem d_X5_init_6 : decode mX5_init.1 6 = .ok (.putfield 9, 3) ∧ 6 + 3 = 9 := ⟨by decide +kernel, rfl⟩
theorem d_X5_init_9 : decode mX5_init.1 9 = .ok (.aload_n 0, 1) ∧ 9 + 1 = 10 := ⟨by decide +kernel, rfl⟩
theorem d_X5_init_10 : decode mX5_init.1 10 = .ok (.iconst 0, 1) ∧ 10 + 1 = 11 := ⟨by decide +kernel, rfl⟩
theorem d_X5_init_11 : decode mX5_init.1 11 = .ok (.putfield 15, 3) ∧ 11 + 3 = 14 := ⟨by decide +kernel, rfl⟩
theorem d_X5_init_14 : decode mX5_init.1 14 = .ok (.aload_n 0, 1) ∧ 14 + 1 = 15 := ⟨by decide +kernel, rfl⟩
theorem d_X5_init_15 : decode mX5_init.1 15 = .ok (.iconst 0, 1) ∧ 15 + 1 = 16 := ⟨by decide +kernel, rfl⟩
theorem d_X5_init_16 : decode mX5_init.1 16 = .ok (.putfield 18, 3) ∧ 16 + 3 = 19 := ⟨by decide +kernel, rfl⟩
theorem d_X5_init_19 : decode mX5_init.1 19 = .ok (.aload_n 0, 1) ∧ 19 + 1 = 20 := ⟨by decide +kernel, rfl⟩
theorem d_X5_init_20 : decode mX5_init.1 20 = .ok (.iconst 0, 1) ∧ 20 + 1 = 21 := ⟨by decide +kernel, rfl⟩
theorem d_X5_init_21 : decode mX5_init.1 21 = .ok (.putfield 21, 3) ∧ 21 + 3 = 24 := ⟨by decide +kernel, rfl⟩
theorem d_X5_init_24 : decode mX5_init.1 24 = .ok (.aload_n 0, 1) ∧ 24 + 1 = 25 := ⟨by decide +kernel, rfl⟩
theorem d_X5_init_25 : decode mX5_init.1 25 = .ok (.bipush 6, 2) ∧ 25 + 2 = 27 := ⟨by decide +kernel, rfl⟩
theorem d_X5_init_27 : decode mX5_init.1 27 = .ok (.newarray .int, 2) ∧ 27 + 2 = 29 := ⟨by decide +kernel, rfl⟩
theorem d_X5_init_29 : decode mX5_init.1 29 = .ok (.putfield 24, 3) ∧ 29 + 3 = 32 := ⟨by decide +kernel, rfl⟩
theorem d_X5_init_32 : decode mX5_init.1 32 = .ok (.aload_n 0, 1) ∧ 32 + 1 = 33 := ⟨by decide +kernel, rfl⟩
theorem d_X5_init_33 : decode mX5_init.1 33 = .ok (.bipush 64, 2) ∧ 33 + 2 = 35 := ⟨by decide +kernel, rfl⟩
theorem d_X5_init_35 : decode mX5_init.1 35 = .ok (.newarray .int, 2) ∧ 35 + 2 = 37 := ⟨by decide +kernel, rfl⟩
theorem d_X5_init_37 : decode mX5_init.1 37 = .ok (.putfield 28, 3) ∧ 37 + 3 = 40 := ⟨by decide +kernel, rfl⟩
theorem d_X5_init_40 : decode mX5_init.1 40 = .ok (.aload_n 0, 1) ∧ 40 + 1 = 41 := ⟨by decide +kernel, rfl⟩
theorem d_X5_init_41 : decode mX5_init.1 41 = .ok (.bipush 64, 2) ∧ 41 + 2 = 43 := ⟨by decide +kernel, rfl⟩
theorem d_X5_init_43 : decode mX5_init.1 43 = .ok (.newarray .int, 2) ∧ 43 + 2 = 45 := ⟨by decide +kernel, rfl⟩
theorem d_X5_init_45 : decode mX5_init.1 45 = .ok (.putfield 31, 3) ∧ 45 + 3 = 48 := ⟨by decide +kernel, rfl⟩
theorem d_X5_init_48 : decode mX5_init.1 48 = .ok (.aload_n 0, 1) ∧ 48 + 1 = 49 := ⟨by decide +kernel, rfl⟩
theorem d_X5_init_49 : decode mX5_init.1 49 = .ok (.bipush 36, 2) ∧ 49 + 2 = 51 := ⟨by decide +kernel, rfl⟩
theorem d_X5_init_51 : decode mX5_init.1 51 = .ok (.newarray .int, 2) ∧ 51 + 2 = 53 := ⟨by decide +kernel, rfl⟩
theorem d_X5_init_53 : decode mX5_init.1 53 = .ok (.putfield 34, 3) ∧ 53 + 3 = 56 := ⟨by decide +kernel, rfl⟩
theorem d_X5_init_56 : decode mX5_init.1 56 = .ok (.return_, 1) := by decide +kernel
set_option maxRecDepth 100000 in
set_option maxHeartbeats 4000000 in
theorem g_X5_init (l : Launch) (G : xa_C) (v0 : Int) (h : xa_H) : xa_G l G 2 mX5_init (f_X5_init v0 h) (fun r => some (none, r) : xa_H → Option xa_O) 0 [some (xR v0)] [] h := by
  unfold f_X5_init
  refine xa_step (xa_aload_n d_X5_init_0 rfl) ?_
  refine xa_objInit (ci := 5) xw_509 xw_188 xw_189 (by decide) (Nat.le_of_ble_eq_true rfl) d_X5_init_1 (fun _ => ?_)
  refine xa_step (xa_aload_n d_X5_init_4 rfl) ?_
  refine xa_step (xa_iconst d_X5_init_5 xq_i_0) ?_
  refine xa_putf2 (tg := xI) xc_5 (by decide) (fun _ => rfl) rfl (fun c hc => xa_fitI c hc) xw_510 rfl d_X5_init_6 (fun h1 _ => ?_)
  refine xa_step (xa_aload_n d_X5_init_9 rfl) ?_
  refine xa_step (xa_iconst d_X5_init_10 xq_i_0) ?_
  refine xa_putf2 (tg := xI) xc_5 (by decide) (fun _ => rfl) rfl (fun c hc => xa_fitI c hc) xw_512 rfl d_X5_init_11 (fun h2 _ => ?_)
  refine xa_step (xa_aload_n d_X5_init_14 rfl) ?_
  refine xa_step (xa_iconst d_X5_init_15 xq_i_0) ?_
  refine xa_putf2 (tg := xI) xc_5 (by decide) (fun _ => rfl) rfl (fun c hc => xa_fitI c hc) xw_514 rfl d_X5_init_16 (fun h3 _ => ?_)
  refine xa_step (xa_aload_n d_X5_init_19 rfl) ?_
  refine xa_step (xa_iconst d_X5_init_20 xq_i_0) ?_
  refine xa_putf2 (tg := xI) xc_5 (by decide) (fun _ => rfl) rfl (fun c hc => xa_fitI c hc) xw_515 rfl d_X5_init_21 (fun h4 _ => ?_)
  refine xa_step (xa_aload_n d_X5_init_24 rfl) ?_
  refine xa_step (xa_bipush d_X5_init_25 xq_b_6) ?_
  refine xa_newarr 0 .int (by decide) rfl xw_291 d_X5_init_27 (fun h5 _ => ?_)
  refine xa_putF2 (tg := xR) xc_5 (by decide) (fun _ => rfl) rfl rfl rfl (fun c hc => xa_fitA c hc) xw_516 rfl d_X5_init_29 (fun h6 _ => ?_)
  refine xa_step (xa_aload_n d_X5_init_32 rfl) ?_
  refine xa_step (xa_bipush d_X5_init_33 xq_b_64) ?_
  refine xa_newarr 0 .int (by decide) rfl xw_291 d_X5_init_35 (fun h7 _ => ?_)
  refine xa_putF2 (tg := xR) xc_5 (by decide) (fun _ => rfl) rfl rfl rfl (fun c hc => xa_fitA c hc) xw_517 rfl d_X5_init_37 (fun h8 _ => ?_)
  refine xa_step (xa_aload_n d_X5_init_40 rfl) ?_
  refine xa_step (xa_bipush d_X5_init_41 xq_b_64) ?_
  refine xa_newarr 0 .int (by decide) rfl xw_291 d_X5_init_43 (fun h9 _ => ?_)
  refine xa_putF2 (tg := xR) xc_5 (by decide) (fun _ => rfl) rfl rfl rfl (fun c hc => xa_fitA c hc) xw_518 rfl d_X5_init_45 (fun h10 _ => ?_)
  refine xa_step (xa_aload_n d_X5_init_48 rfl) ?_
  refine xa_step (xa_bipush d_X5_init_49 xq_b_36) ?_
  refine xa_newarr 0 .int (by decide) rfl xw_291 d_X5_init_51 (fun h11 _ => ?_)
  refine xa_putF2 (tg := xR) xc_5 (by decide) (fun _ => rfl) rfl rfl rfl (fun c hc => xa_fitA c hc) xw_519 rfl d_X5_init_53 (fun h12 _ => ?_)
  exact xa_vret d_X5_init_56 rfl rfl
theorem ct_X5_init (l : Launch) (G : xa_C) (v0 : Int) (h : xa_H) (r : xa_H) (hr : f_X5_init v0 h = some r) : xa_CT l G 2 mX5_init yX5_init [xR v0] h (none, r) :=
  xa_met (by decide +kernel) rfl (fun q => by first | rfl | cases q) (Nat.le_of_ble_eq_true rfl) rfl (g_X5_init l G v0 h) (by rw [hr]; rfl)
abbrev mJ6_bitCount_0f7a4 : xa_M := (cJ6_bitCount_0f7a4, 1, (some (.int)), RJ6, false)
theorem d_J6_bitCount_0f7a4_0 : decode mJ6_bitCount_0f7a4.1 0 = .ok (.iload_n 0, 1) ∧ 0 + 1 = 1 := ⟨by decide +kernel, rfl⟩
theorem d_J6_bitCount_0f7a4_1 : decode mJ6_bitCount_0f7a4.1 1 = .ok (.iload_n 0, 1) ∧ 1 + 1 = 2 := ⟨by decide +kernel, rfl⟩
theorem d_J6_bitCount_0f7a4_2 : decode mJ6_bitCount_0f7a4.1 2 = .ok (.iconst 1, 1) ∧ 2 + 1 = 3 := ⟨by decide +kernel, rfl⟩
theorem d_J6_bitCount_0f7a4_3 : decode mJ6_bitCount_0f7a4.1 3 = .ok (.iushr, 1) ∧ 3 + 1 = 4 := ⟨by decide +kernel, rfl⟩
theorem d_J6_bitCount_0f7a4_4 : decode mJ6_bitCount_0f7a4.1 4 = .ok (.ldc_w 265, 3) ∧ 4 + 3 = 7 := ⟨by decide +kernel, rfl⟩
theorem d_J6_bitCount_0f7a4_7 : decode mJ6_bitCount_0f7a4.1 7 = .ok (.iand, 1) ∧ 7 + 1 = 8 := ⟨by decide +kernel, rfl⟩
theorem d_J6_bitCount_0f7a4_8 : decode mJ6_bitCount_0f7a4.1 8 = .ok (.isub, 1) ∧ 8 + 1 = 9 := ⟨by decide +kernel, rfl⟩
theorem d_J6_bitCount_0f7a4_9 : decode mJ6_bitCount_0f7a4.1 9 = .ok (.istore_n 0, 1) ∧ 9 + 1 = 10 := ⟨by decide +kernel, rfl⟩
theorem d_J6_bitCount_0f7a4_10 : decode mJ6_bitCount_0f7a4.1 10 = .ok (.iload_n 0, 1) ∧ 10 + 1 = 11 := ⟨by decide +kernel, rfl⟩
theorem d_J6_bitCount_0f7a4_11 : decode mJ6_bitCount_0f7a4.1 11 = .ok (.ldc_w 266, 3) ∧ 11 + 3 = 14 := ⟨by decide +kernel, rfl⟩
theorem d_J6_bitCount_0f7a4_14 : decode mJ6_bitCount_0f7a4.1 14 = .ok (.iand, 1) ∧ 14 + 1 = 15 := ⟨by decide +kernel, rfl⟩
theorem d_J6_bitCount_0f7a4_15 : decode mJ6_bitCount_0f7a4.1 15 = .ok (.iload_n 0, 1) ∧ 15 + 1 = 16 := ⟨by decide +kernel, rfl⟩
theorem d_J6_bitCount_0f7a4_16 : decode mJ6_bitCount_0f7a4.1 16 = .ok (.iconst 2, 1) ∧ 16 + 1 = 17 := ⟨by decide +kernel, rfl⟩
theorem d_J6_bitCount_0f7a4_17 : decode mJ6_bitCount_0f7a4.1 17 = .ok (.iushr, 1) ∧ 17 + 1 = 18 := ⟨by decide +kernel, rfl⟩
theorem d_J6_bitCount_0f7a4_18 : decode mJ6_bitCount_0f7a4.1 18 = .ok (.ldc_w 266, 3) ∧ 18 + 3 = 21 := ⟨by decide +kernel, rfl⟩
theorem d_J6_bitCount_0f7a4_21 : decode mJ6_bitCount_0f7a4.1 21 = .ok (.iand, 1) ∧ 21 + 1 = 22 := ⟨by decide +kernel, rfl⟩
theorem d_J6_bitCount_0f7a4_22 : decode mJ6_bitCount_0f7a4.1 22 = .ok (.iadd, 1) ∧ 22 + 1 = 23 := ⟨by decide +kernel, rfl⟩
theorem d_J6_bitCount_0f7a4_23 : decode mJ6_bitCount_0f7a4.1 23 = .ok (.istore_n 0, 1) ∧ 23 + 1 = 24 := ⟨by decide +kernel, rfl⟩
theorem d_J6_bitCount_0f7a4_24 : decode mJ6_bitCount_0f7a4.1 24 = .ok (.iload_n 0, 1) ∧ 24 + 1 = 25 := ⟨by decide +kernel, rfl⟩
theorem d_J6_bitCount_0f7a4_25 : decode mJ6_bitCount_0f7a4.1 25 = .ok (.iload_n 0, 1) ∧ 25 + 1 = 26 := ⟨by decide +kernel, rfl⟩
theorem d_J6_bitCount_0f7a4_26 : decode mJ6_bitCount_0f7a4.1 26 = .ok (.iconst 4, 1) ∧ 26 + 1 = 27 := ⟨by decide +kernel, rfl⟩
theorem d_J6_bitCount_0f7a4_27 : decode mJ6_bitCount_0f7a4.1 27 = .ok (.iushr, 1) ∧ 27 + 1 = 28 := ⟨by decide +kernel, rfl⟩
theorem d_J6_bitCount_0f7a4_28 : decode mJ6_bitCount_0f7a4.1 28 = .ok (.iadd, 1) ∧ 28 + 1 = 29 := ⟨by decide +kernel, rfl⟩
theorem d_J6_bitCount_0f7a4_29 : decode mJ6_bitCount_0f7a4.1 29 = .ok (.ldc_w 267, 3) ∧ 29 + 3 = 32 := ⟨by decide +kernel, rfl⟩
theorem d_J6_bitCount_0f7a4_32 : decode mJ6_bitCount_0f7a4.1 32 = .ok (.iand, 1) ∧ 32 + 1 = 33 := ⟨by decide +kernel, rfl⟩
theorem d_J6_bitCount_0f7a4_33 : decode mJ6_bitCount_0f7a4.1 33 = .ok (.istore_n 0, 1) ∧ 33 + 1 = 34 := ⟨by decide +kernel, rfl⟩
theorem d_J6_bitCount_0f7a4_34 : decode mJ6_bitCount_0f7a4.1 34 = .ok (.iload_n 0, 1) ∧ 34 + 1 = 35 := ⟨by decide +kernel, rfl⟩
theorem d_J6_bitCount_0f7a4_35 : decode mJ6_bitCount_0f7a4.1 35 = .ok (.iload_n 0, 1) ∧ 35 + 1 = 36 := ⟨by decide +kernel, rfl⟩
theorem d_J6_bitCount_0f7a4_36 : decode mJ6_bitCount_0f7a4.1 36 = .ok (.bipush 8, 2) ∧ 36 + 2 = 38 := ⟨by decide +kernel, rfl⟩
theorem d_J6_bitCount_0f7a4_38 : decode mJ6_bitCount_0f7a4.1 38 = .ok (.iushr, 1) ∧ 38 + 1 = 39 := ⟨by decide +kernel, rfl⟩
theorem d_J6_bitCount_0f7a4_39 : decode mJ6_bitCount_0f7a4.1 39 = .ok (.iadd, 1) ∧ 39 + 1 = 40 := ⟨by decide +kernel, rfl⟩
theorem d_J6_bitCount_0f7a4_40 : decode mJ6_bitCount_0f7a4.1 40 = .ok (.istore_n 0, 1) ∧ 40 + 1 = 41 := ⟨by decide +kernel, rfl⟩
theorem d_J6_bitCount_0f7a4_41 : decode mJ6_bitCount_0f7a4.1 41 = .ok (.iload_n 0, 1) ∧ 41 + 1 = 42 := ⟨by decide +kernel, rfl⟩
theorem d_J6_bitCount_0f7a4_42 : decode mJ6_bitCount_0f7a4.1 42 = .ok (.iload_n 0, 1) ∧ 42 + 1 = 43 := ⟨by decide +kernel, rfl⟩
theorem d_J6_bitCount_0f7a4_43 : decode mJ6_bitCount_0f7a4.1 43 = .ok (.bipush 16, 2) ∧ 43 + 2 = 45 := ⟨by decide +kernel, rfl⟩
theorem d_J6_bitCount_0f7a4_45 : decode mJ6_bitCount_0f7a4.1 45 = .ok (.iushr, 1) ∧ 45 + 1 = 46 := ⟨by decide +kernel, rfl⟩
theorem d_J6_bitCount_0f7a4_46 : decode mJ6_bitCount_0f7a4.1 46 = .ok (.iadd, 1) ∧ 46 + 1 = 47 := ⟨by decide +kernel, rfl⟩
theorem d_J6_bitCount_0f7a4_47 : decode mJ6_bitCount_0f7a4.1 47 = .ok (.istore_n 0, 1) ∧ 47 + 1 = 48 := ⟨by decide +kernel, rfl⟩
theorem d_J6_bitCount_0f7a4_48 : decode mJ6_bitCount_0f7a4.1 48 = .ok (.iload_n 0, 1) ∧ 48 + 1 = 49 := ⟨by decide +kernel, rfl⟩
theorem d_J6_bitCount_0f7a4_49 : decode mJ6_bitCount_0f7a4.1 49 = .ok (.bipush 63, 2) ∧ 49 + 2 = 51 := ⟨by decide +kernel, rfl⟩
theorem d_J6_bitCount_0f7a4_51 : decode mJ6_bitCount_0f7a4.1 51 = .ok (.iand, 1) ∧ 51 + 1 = 52 := ⟨by decide +kernel, rfl⟩
theorem d_J6_bitCount_0f7a4_52 : decode mJ6_bitCount_0f7a4.1 52 = .ok (.ireturn, 1) := by decide +kernel
set_option maxRecDepth 100000 in
set_option maxHeartbeats 4000000 in
theorem g_J6_bitCount_0f7a4 (l : Launch) (G : xa_C) (v0 : Int) (h : xa_H) : xa_G l G 2 mJ6_bitCount_0f7a4 (f_J6_bitCount_0f7a4 v0 h) (fun r => some (some (xI r), h) : Int → Option xa_O) 0 [some (xI v0)] [] h := by
  unfold f_J6_bitCount_0f7a4
  refine xa_step (xa_iload_n d_J6_bitCount_0f7a4_0 rfl) ?_
  refine xa_step (xa_iload_n d_J6_bitCount_0f7a4_1 rfl) ?_
  refine xa_step (xa_iconst d_J6_bitCount_0f7a4_2 xq_i_1) ?_
  refine xa_step (xa_iushr d_J6_bitCount_0f7a4_3) ?_
  refine xa_step (xa_ldcw (c32 := 1431655765) (v := 1431655765) (by decide +kernel) xw_577 d_J6_bitCount_0f7a4_4) ?_
  refine xa_step (xa_iand d_J6_bitCount_0f7a4_7) ?_
  refine xa_step (xa_isub d_J6_bitCount_0f7a4_8) ?_
  refine xa_step (xa_istore_n (ls' := [some (xI (w32 (v0 - (xand (xushr v0 1) 1431655765))))]) d_J6_bitCount_0f7a4_9 (by decide) rfl) ?_
  refine xa_step (xa_iload_n d_J6_bitCount_0f7a4_10 rfl) ?_
  refine xa_step (xa_ldcw (c32 := 858993459) (v := 858993459) (by decide +kernel) xw_578 d_J6_bitCount_0f7a4_11) ?_
  refine xa_step (xa_iand d_J6_bitCount_0f7a4_14) ?_
  refine xa_step (xa_iload_n d_J6_bitCount_0f7a4_15 rfl) ?_
  refine xa_step (xa_iconst d_J6_bitCount_0f7a4_16 xq_i_2) ?_
  refine xa_step (xa_iushr d_J6_bitCount_0f7a4_17) ?_
  refine xa_step (xa_ldcw (c32 := 858993459) (v := 858993459) (by decide +kernel) xw_578 d_J6_bitCount_0f7a4_18) ?_
  refine xa_step (xa_iand d_J6_bitCount_0f7a4_21) ?_
  refine xa_step (xa_iadd d_J6_bitCount_0f7a4_22) ?_
  refine xa_step (xa_istore_n (ls' := [some (xI (w32 ((xand (w32 (v0 - (xand (xushr v0 1) 1431655765))) 858993459) + (xand (xushr (w32 (v0 - (xand (xushr v0 1) 1431655765))) 2) 858993459))))]) d_J6_bitCount_0f7a4_23 (by decide) rfl) ?_
  refine xa_step (xa_iload_n d_J6_bitCount_0f7a4_24 rfl) ?_
  refine xa_step (xa_iload_n d_J6_bitCount_0f7a4_25 rfl) ?_
  refine xa_step (xa_iconst d_J6_bitCount_0f7a4_26 xq_i_4) ?_
  refine xa_step (xa_iushr d_J6_bitCount_0f7a4_27) ?_
  refine xa_step (xa_iadd d_J6_bitCount_0f7a4_28) ?_
  refine xa_step (xa_ldcw (c32 := 252645135) (v := 252645135) (by decide +kernel) xw_579 d_J6_bitCount_0f7a4_29) ?_
  refine xa_step (xa_iand d_J6_bitCount_0f7a4_32) ?_
  refine xa_step (xa_istore_n (ls' := [some (xI (xand (w32 ((w32 ((xand (w32 (v0 - (xand (xushr v0 1) 1431655765))) 858993459) + (xand (xushr (w32 (v0 - (xand (xushr v0 1) 1431655765))) 2) 858993459))) + (xushr (w32 ((xand (w32 (v0 - (xand (xushr v0 1) 1431655765))) 858993459) + (xand (xushr (w32 (v0 - (xand (xushr v0 1) 1431655765))) 2) 858993459))) 4))) 252645135))]) d_J6_bitCount_0f7a4_33 (by decide) rfl) ?_
  refine xa_step (xa_iload_n d_J6_bitCount_0f7a4_34 rfl) ?_
  refine xa_step (xa_iload_n d_J6_bitCount_0f7a4_35 rfl) ?_
  refine xa_step (xa_bipush d_J6_bitCount_0f7a4_36 xq_b_8) ?_
  refine xa_step (xa_iushr d_J6_bitCount_0f7a4_38) ?_
  refine xa_step (xa_iadd d_J6_bitCount_0f7a4_39) ?_
  refine xa_step (xa_istore_n (ls' := [some (xI (w32 ((xand (w32 ((w32 ((xand (w32 (v0 - (xand (xushr v0 1) 1431655765))) 858993459) + (xand (xushr (w32 (v0 - (xand (xushr v0 1) 1431655765))) 2) 858993459))) + (xushr (w32 ((xand (w32 (v0 - (xand (xushr v0 1) 1431655765))) 858993459) + (xand (xushr (w32 (v0 - (xand (xushr v0 1) 1431655765))) 2) 858993459))) 4))) 252645135) + (xushr (xand (w32 ((w32 ((xand (w32 (v0 - (xand (xushr v0 1) 1431655765))) 858993459) + (xand (xushr (w32 (v0 - (xand (xushr v0 1) 1431655765))) 2) 858993459))) + (xushr (w32 ((xand (w32 (v0 - (xand (xushr v0 1) 1431655765))) 858993459) + (xand (xushr (w32 (v0 - (xand (xushr v0 1) 1431655765))) 2) 858993459))) 4))) 252645135) 8))))]) d_J6_bitCount_0f7a4_40 (by decide) rfl) ?_
  refine xa_step (xa_iload_n d_J6_bitCount_0f7a4_41 rfl) ?_
  refine xa_step (xa_iload_n d_J6_bitCount_0f7a4_42 rfl) ?_
  refine xa_step (xa_bipush d_J6_bitCount_0f7a4_43 xq_b_16) ?_
  refine xa_step (xa_iushr d_J6_bitCount_0f7a4_45) ?_
  refine xa_step (xa_iadd d_J6_bitCount_0f7a4_46) ?_
  refine xa_step (xa_istore_n (ls' := [some (xI (w32 ((w32 ((xand (w32 ((w32 ((xand (w32 (v0 - (xand (xushr v0 1) 1431655765))) 858993459) + (xand (xushr (w32 (v0 - (xand (xushr v0 1) 1431655765))) 2) 858993459))) + (xushr (w32 ((xand (w32 (v0 - (xand (xushr v0 1) 1431655765))) 858993459) + (xand (xushr (w32 (v0 - (xand (xushr v0 1) 1431655765))) 2) 858993459))) 4))) 252645135) + (xushr (xand (w32 ((w32 ((xand (w32 (v0 - (xand (xushr v0 1) 1431655765))) 858993459) + (xand (xushr (w32 (v0 - (xand (xushr v0 1) 1431655765))) 2) 858993459))) + (xushr (w32 ((xand (w32 (v0 - (xand (xushr v0 1) 1431655765))) 858993459) + (xand (xushr (w32 (v0 - (xand (xushr v0 1) 1431655765))) 2) 858993459))) 4))) 252645135) 8))) + (xushr (w32 ((xand (w32 ((w32 ((xand (w32 (v0 - (xand (xushr v0 1) 1431655765))) 858993459) + (xand (xushr (w32 (v0 - (xand (xushr v0 1) 1431655765))) 2) 858993459))) + (xushr (w32 ((xand (w32 (v0 - (xand (xushr v0 1) 1431655765))) 858993459) + (xand (xushr (w32 (v0 - (xand (xushr v0 1) 1431655765))) 2) 858993459))) 4))) 252645135) + (xushr (xand (w32 ((w32 ((xand (w32 (v0 - (xand (xushr v0 1) 1431655765))) 858993459) + (xand (xushr (w32 (v0 - (xand (xushr v0 1) 1431655765))) 2) 858993459))) + (xushr (w32 ((xand (w32 (v0 - (xand (xushr v0 1) 1431655765))) 858993459) + (xand (xushr (w32 (v0 - (xand (xushr v0 1) 1431655765))) 2) 858993459))) 4))) 252645135) 8))) 16))))]) d_J6_bitCount_0f7a4_47 (by decide) rfl) ?_
  refine xa_step (xa_iload_n d_J6_bitCount_0f7a4_48 rfl) ?_
  refine xa_step (xa_bipush d_J6_bitCount_0f7a4_49 xq_b_63) ?_
  refine xa_step (xa_iand d_J6_bitCount_0f7a4_51) ?_
  exact xa_iret d_J6_bitCount_0f7a4_52 rfl rfl
theorem ct_J6_bitCount_0f7a4 (l : Launch) (G : xa_C) (v0 : Int) (h : xa_H) (r : Int) (hr : f_J6_bitCount_0f7a4 v0 h = some r) : xa_CT l G 2 mJ6_bitCount_0f7a4 yJ6_bitCount_0f7a4 [xI v0] h (some (xI r), h) :=
  xa_met (by decide +kernel) rfl (fun q => by first | rfl | cases q) (Nat.le_of_ble_eq_true rfl) rfl (g_J6_bitCount_0f7a4 l G v0 h) (by rw [hr]; rfl)
abbrev mX5_reckonFrom : xa_M := (cX5_reckonFrom, 6, none, RX5, false)
theorem d_X5_reckonFrom_0 : decode mX5_reckonFrom.1 0 = .ok (.iload_n 1, 1) ∧ 0 + 1 = 1 := ⟨by decide +kernel, rfl⟩
theorem d_X5_reckonFrom_1 : decode mX5_reckonFrom.1 1 = .ok (.invokestatic 53, 3) ∧ 1 + 3 = 4 := ⟨by decide +kernel, rfl⟩
theorem d_X5_reckonFrom_4 : decode mX5_reckonFrom.1 4 = .ok (.istore_n 2, 1) ∧ 4 + 1 = 5 := ⟨by decide +kernel, rfl⟩
theorem d_X5_reckonFrom_5 : decode mX5_reckonFrom.1 5 = .ok (.iload_n 2, 1) ∧ 5 + 1 = 6 := ⟨by decide +kernel, rfl⟩
theorem d_X5_reckonFrom_6 : decode mX5_reckonFrom.1 6 = .ok (.aload_n 0, 1) ∧ 6 + 1 = 7 := ⟨by decide +kernel, rfl⟩
theorem d_X5_reckonFrom_7 : decode mX5_reckonFrom.1 7 = .ok (.getfield 18, 3) ∧ 7 + 3 = 10 := ⟨by decide +kernel, rfl⟩
theorem d_X5_reckonFrom_10 : decode mX5_reckonFrom.1 10 = .ok (.if_icmp .lt 23, 3) ∧ 10 + 3 = 13 ∧ ((10 : Nat) : Int) + 23 = ((33 : Nat) : Int) := ⟨by decide +kernel, rfl, rfl⟩
theorem d_X5_reckonFrom_33 : decode mX5_reckonFrom.1 33 = .ok (.aload_n 0, 1) ∧ 33 + 1 = 34 := ⟨by decide +kernel, rfl⟩
theorem d_X5_reckonFrom_34 : decode mX5_reckonFrom.1 34 = .ok (.getfield 24, 3) ∧ 34 + 3 = 37 := ⟨by decide +kernel, rfl⟩
theorem d_X5_reckonFrom_37 : decode mX5_reckonFrom.1 37 = .ok (.iload_n 2, 1) ∧ 37 + 1 = 38 := ⟨by decide +kernel, rfl⟩
theorem d_X5_reckonFrom_38 : decode mX5_reckonFrom.1 38 = .ok (.iaload, 1) ∧ 38 + 1 = 39 := ⟨by decide +kernel, rfl⟩
theorem d_X5_reckonFrom_39 : decode mX5_reckonFrom.1 39 = .ok (.iload_n 1, 1) ∧ 39 + 1 = 40 := ⟨by decide +kernel, rfl⟩
theorem d_X5_reckonFrom_40 : decode mX5_reckonFrom.1 40 = .ok (.iconst (-1), 1) ∧ 40 + 1 = 41 := ⟨by decide +kernel, rfl⟩
theorem d_X5_reckonFrom_41 : decode mX5_reckonFrom.1 41 = .ok (.ixor, 1) ∧ 41 + 1 = 42 := ⟨by decide +kernel, rfl⟩
theorem d_X5_reckonFrom_42 : decode mX5_reckonFrom.1 42 = .ok (.iand, 1) ∧ 42 + 1 = 43 := ⟨by decide +kernel, rfl⟩
theorem d_X5_reckonFrom_43 : decode mX5_reckonFrom.1 43 = .ok (.istore_n 3, 1) ∧ 43 + 1 = 44 := ⟨by decide +kernel, rfl⟩
theorem d_X5_reckonFrom_44 : decode mX5_reckonFrom.1 44 = .ok (.iconst 0, 1) ∧ 44 + 1 = 45 := ⟨by decide +kernel, rfl⟩
theorem d_X5_reckonFrom_45 : decode mX5_reckonFrom.1 45 = .ok (.istore 4, 2) ∧ 45 + 2 = 47 := ⟨by decide +kernel, rfl⟩
theorem d_X5_reckonFrom_47 : decode mX5_reckonFrom.1 47 = .ok (.iload 4, 2) ∧ 47 + 2 = 49 := ⟨by decide +kernel, rfl⟩
theorem d_X5_reckonFrom_49 : decode mX5_reckonFrom.1 49 = .ok (.aload_n 0, 1) ∧ 49 + 1 = 50 := ⟨by decide +kernel, rfl⟩
theorem d_X5_reckonFrom_50 : decode mX5_reckonFrom.1 50 = .ok (.getfield 21, 3) ∧ 50 + 3 = 53 := ⟨by decide +kernel, rfl⟩
theorem d_X5_reckonFrom_53 : decode mX5_reckonFrom.1 53 = .ok (.if_icmp .ge 67, 3) ∧ 53 + 3 = 56 ∧ ((53 : Nat) : Int) + 67 = ((120 : Nat) : Int) := ⟨by decide +kernel, rfl, rfl⟩
theorem d_X5_reckonFrom_56 : decode mX5_reckonFrom.1 56 = .ok (.iload_n 3, 1) ∧ 56 + 1 = 57 := ⟨by decide +kernel, rfl⟩
theorem d_X5_reckonFrom_57 : decode mX5_reckonFrom.1 57 = .ok (.iload 4, 2) ∧ 57 + 2 = 59 := ⟨by decide +kernel, rfl⟩
theorem d_X5_reckonFrom_59 : decode mX5_reckonFrom.1 59 = .ok (.ishr, 1) ∧ 59 + 1 = 60 := ⟨by decide +kernel, rfl⟩
theorem d_X5_reckonFrom_60 : decode mX5_reckonFrom.1 60 = .ok (.iconst 1, 1) ∧ 60 + 1 = 61 := ⟨by decide +kernel, rfl⟩
theorem d_X5_reckonFrom_61 : decode mX5_reckonFrom.1 61 = .ok (.iand, 1) ∧ 61 + 1 = 62 := ⟨by decide +kernel, rfl⟩
theorem d_X5_reckonFrom_62 : decode mX5_reckonFrom.1 62 = .ok (.iconst 1, 1) ∧ 62 + 1 = 63 := ⟨by decide +kernel, rfl⟩
theorem d_X5_reckonFrom_63 : decode mX5_reckonFrom.1 63 = .ok (.if_icmp .ne 51, 3) ∧ 63 + 3 = 66 ∧ ((63 : Nat) : Int) + 51 = ((114 : Nat) : Int) := ⟨by decide +kernel, rfl, rfl⟩
theorem d_X5_reckonFrom_66 : decode mX5_reckonFrom.1 66 = .ok (.aload_n 0, 1) ∧ 66 + 1 = 67 := ⟨by decide +kernel, rfl⟩
theorem d_X5_reckonFrom_67 : decode mX5_reckonFrom.1 67 = .ok (.getfield 31, 3) ∧ 67 + 3 = 70 := ⟨by decide +kernel, rfl⟩
theorem d_X5_reckonFrom_70 : decode mX5_reckonFrom.1 70 = .ok (.iload_n 1, 1) ∧ 70 + 1 = 71 := ⟨by decide +kernel, rfl⟩
theorem d_X5_reckonFrom_71 : decode mX5_reckonFrom.1 71 = .ok (.iconst 1, 1) ∧ 71 + 1 = 72 := ⟨by decide +kernel, rfl⟩
theorem d_X5_reckonFrom_72 : decode mX5_reckonFrom.1 72 = .ok (.iload 4, 2) ∧ 72 + 2 = 74 := ⟨by decide +kernel, rfl⟩
theorem d_X5_reckonFrom_74 : decode mX5_reckonFrom.1 74 = .ok (.ishl, 1) ∧ 74 + 1 = 75 := ⟨by decide +kernel, rfl⟩
theorem d_X5_reckonFrom_75 : decode mX5_reckonFrom.1 75 = .ok (.ior, 1) ∧ 75 + 1 = 76 := ⟨by decide +kernel, rfl⟩
theorem d_X5_reckonFrom_76 : decode mX5_reckonFrom.1 76 = .ok (.iaload, 1) ∧ 76 + 1 = 77 := ⟨by decide +kernel, rfl⟩
theorem d_X5_reckonFrom_77 : decode mX5_reckonFrom.1 77 = .ok (.istore 5, 2) ∧ 77 + 2 = 79 := ⟨by decide +kernel, rfl⟩
theorem d_X5_reckonFrom_79 : decode mX5_reckonFrom.1 79 = .ok (.aload_n 0, 1) ∧ 79 + 1 = 80 := ⟨by decide +kernel, rfl⟩
theorem d_X5_reckonFrom_80 : decode mX5_reckonFrom.1 80 = .ok (.getfield 31, 3) ∧ 80 + 3 = 83 := ⟨by decide +kernel, rfl⟩
theorem d_X5_reckonFrom_83 : decode mX5_reckonFrom.1 83 = .ok (.iload_n 1, 1) ∧ 83 + 1 = 84 := ⟨by decide +kernel, rfl⟩
theorem d_X5_reckonFrom_84 : decode mX5_reckonFrom.1 84 = .ok (.dup2, 1) ∧ 84 + 1 = 85 := ⟨by decide +kernel, rfl⟩
theorem d_X5_reckonFrom_85 : decode mX5_reckonFrom.1 85 = .ok (.iaload, 1) ∧ 85 + 1 = 86 := ⟨by decide +kernel, rfl⟩
theorem d_X5_reckonFrom_86 : decode mX5_reckonFrom.1 86 = .ok (.iload 5, 2) ∧ 86 + 2 = 88 := ⟨by decide +kernel, rfl⟩
theorem d_X5_reckonFrom_88 : decode mX5_reckonFrom.1 88 = .ok (.iadd, 1) ∧ 88 + 1 = 89 := ⟨by decide +kernel, rfl⟩
theorem d_X5_reckonFrom_89 : decode mX5_reckonFrom.1 89 = .ok (.iastore, 1) ∧ 89 + 1 = 90 := ⟨by decide +kernel, rfl⟩
theorem d_X5_reckonFrom_90 : decode mX5_reckonFrom.1 90 = .ok (.aload_n 0, 1) ∧ 90 + 1 = 91 := ⟨by decide +kernel, rfl⟩
theorem d_X5_reckonFrom_91 : decode mX5_reckonFrom.1 91 = .ok (.getfield 34, 3) ∧ 91 + 3 = 94 := ⟨by decide +kernel, rfl⟩
theorem d_X5_reckonFrom_94 : decode mX5_reckonFrom.1 94 = .ok (.iload_n 2, 1) ∧ 94 + 1 = 95 := ⟨by decide +kernel, rfl⟩
theorem d_X5_reckonFrom_95 : decode mX5_reckonFrom.1 95 = .ok (.bipush 6, 2) ∧ 95 + 2 = 97 := ⟨by decide +kernel, rfl⟩
theorem d_X5_reckonFrom_97 : decode mX5_reckonFrom.1 97 = .ok (.imul, 1) ∧ 97 + 1 = 98 := ⟨by decide +kernel, rfl⟩
theorem d_X5_reckonFrom_98 : decode mX5_reckonFrom.1 98 = .ok (.iload 4, 2) ∧ 98 + 2 = 100 := ⟨by decide +kernel, rfl⟩
theorem d_X5_reckonFrom_100 : decode mX5_reckonFrom.1 100 = .ok (.iadd, 1) ∧ 100 + 1 = 101 := ⟨by decide +kernel, rfl⟩
theorem d_X5_reckonFrom_101 : decode mX5_reckonFrom.1 101 = .ok (.dup2, 1) ∧ 101 + 1 = 102 := ⟨by decide +kernel, rfl⟩
theorem d_X5_reckonFrom_102 : decode mX5_reckonFrom.1 102 = .ok (.iaload, 1) ∧ 102 + 1 = 103 := ⟨by decide +kernel, rfl⟩
theorem d_X5_reckonFrom_103 : decode mX5_reckonFrom.1 103 = .ok (.aload_n 0, 1) ∧ 103 + 1 = 104 := ⟨by decide +kernel, rfl⟩
theorem d_X5_reckonFrom_104 : decode mX5_reckonFrom.1 104 = .ok (.getfield 28, 3) ∧ 104 + 3 = 107 := ⟨by decide +kernel, rfl⟩
theorem d_X5_reckonFrom_107 : decode mX5_reckonFrom.1 107 = .ok (.iload_n 1, 1) ∧ 107 + 1 = 108 := ⟨by decide +kernel, rfl⟩
theorem d_X5_reckonFrom_108 : decode mX5_reckonFrom.1 108 = .ok (.iaload, 1) ∧ 108 + 1 = 109 := ⟨by decide +kernel, rfl⟩
theorem d_X5_reckonFrom_109 : decode mX5_reckonFrom.1 109 = .ok (.iload 5, 2) ∧ 109 + 2 = 111 := ⟨by decide +kernel, rfl⟩
theorem d_X5_reckonFrom_111 : decode mX5_reckonFrom.1 111 = .ok (.imul, 1) ∧ 111 + 1 = 112 := ⟨by decide +kernel, rfl⟩
theorem d_X5_reckonFrom_112 : decode mX5_reckonFrom.1 112 = .ok (.iadd, 1) ∧ 112 + 1 = 113 := ⟨by decide +kernel, rfl⟩
theorem d_X5_reckonFrom_113 : decode mX5_reckonFrom.1 113 = .ok (.iastore, 1) ∧ 113 + 1 = 114 := ⟨by decide +kernel, rfl⟩
theorem d_X5_reckonFrom_114 : decode mX5_reckonFrom.1 114 = .ok (.iinc 4 1, 3) ∧ 114 + 3 = 117 := ⟨by decide +kernel, rfl⟩
theorem d_X5_reckonFrom_117 : decode mX5_reckonFrom.1 117 = .ok (.goto (-70), 3) ∧ ((117 : Nat) : Int) + (-70) = ((47 : Nat) : Int) := ⟨by decide +kernel, rfl⟩
set_option maxRecDepth 100000 in
set_option maxHeartbeats 4000000 in
theorem g_X5_reckonFrom_L47 (l : Launch) (G : xa_C) (c0 c1 c2 c3 : Int) (K : (Int × xa_H) ⊕ (xa_H) → Option xa_O) (hb : ∀ (v4 : Int) (h : xa_H), xa_G l G 3 mX5_reckonFrom (some (Sum.inl ((v4, h)))) K 47 [some (xR c0), some (xI c1), some (xI c2), some (xI c3), some (xI v4), none] [] h) (hx : ∀ (h : xa_H), xa_G l G 3 mX5_reckonFrom (some (Sum.inr h)) K 120 [none, none, none, none, none, none] [] h) : ∀ (v4 : Int) (h : xa_H), xa_G l G 3 mX5_reckonFrom (f_X5_reckonFrom_L47 c0 c1 c2 c3 v4 h) K 47 [some (xR c0), some (xI c1), some (xI c2), some (xI c3), some (xI v4), none] [] h := by
  intro v4 h
  unfold f_X5_reckonFrom_L47
  refine xa_step (xa_iload d_X5_reckonFrom_47 rfl) ?_
  refine xa_step (xa_aload_n d_X5_reckonFrom_49 rfl) ?_
  refine xa_getf xI xc_5 (by decide) (fun _ => rfl) xw_515 rfl d_X5_reckonFrom_50 (fun x6 _ => ?_)
  refine xa_if (xa_icmpge d_X5_reckonFrom_53) (fun q7 => ?_) (fun q7 => ?_)
  · refine xa_step (xa_iload_n d_X5_reckonFrom_56 rfl) ?_
    refine xa_step (xa_iload d_X5_reckonFrom_57 rfl) ?_
    refine xa_step (xa_ishr d_X5_reckonFrom_59) ?_
    refine xa_step (xa_iconst d_X5_reckonFrom_60 xq_i_1) ?_
    refine xa_step (xa_iand d_X5_reckonFrom_61) ?_
    refine xa_step (xa_iconst d_X5_reckonFrom_62 xq_i_1) ?_
    refine xa_if (xa_icmpne d_X5_reckonFrom_63) (fun q8 => ?_) (fun q8 => ?_)
    · refine xa_step (xa_aload_n d_X5_reckonFrom_66 rfl) ?_
      refine xa_getf xR xc_5 (by decide) (fun _ => rfl) xw_518 rfl d_X5_reckonFrom_67 (fun x9 _ => ?_)
      refine xa_step (xa_iload_n d_X5_reckonFrom_70 rfl) ?_
      refine xa_step (xa_iconst d_X5_reckonFrom_71 xq_i_1) ?_
      refine xa_step (xa_iload d_X5_reckonFrom_72 rfl) ?_
      refine xa_step (xa_ishl d_X5_reckonFrom_74) ?_
      refine xa_step (xa_ior d_X5_reckonFrom_75) ?_
      refine xa_iaload d_X5_reckonFrom_76 (fun x10 _ => ?_)
      refine xa_step (xa_istore (ls' := [some (xR c0), some (xI c1), some (xI c2), some (xI c3), some (xI v4), some (xI x10)]) d_X5_reckonFrom_77 (by decide) rfl) ?_
      refine xa_step (xa_aload_n d_X5_reckonFrom_79 rfl) ?_
      refine xa_getf xR xc_5 (by decide) (fun _ => rfl) xw_518 rfl d_X5_reckonFrom_80 (fun x11 _ => ?_)
      refine xa_step (xa_iload_n d_X5_reckonFrom_83 rfl) ?_
      refine xa_step (xa_dup2 d_X5_reckonFrom_84 (xa_tI _) (xa_tR _)) ?_
      refine xa_iaload d_X5_reckonFrom_85 (fun x12 _ => ?_)
      refine xa_step (xa_iload d_X5_reckonFrom_86 rfl) ?_
      refine xa_step (xa_iadd d_X5_reckonFrom_88) ?_
      refine xa_iastore2 d_X5_reckonFrom_89 (fun h13 _ => ?_)
      refine xa_step (xa_aload_n d_X5_reckonFrom_90 rfl) ?_
      refine xa_getf xR xc_5 (by decide) (fun _ => rfl) xw_519 rfl d_X5_reckonFrom_91 (fun x14 _ => ?_)
      refine xa_step (xa_iload_n d_X5_reckonFrom_94 rfl) ?_
      refine xa_step (xa_bipush d_X5_reckonFrom_95 xq_b_6) ?_
      refine xa_step (xa_imul d_X5_reckonFrom_97) ?_
      refine xa_step (xa_iload d_X5_reckonFrom_98 rfl) ?_
      refine xa_step (xa_iadd d_X5_reckonFrom_100) ?_
      refine xa_step (xa_dup2 d_X5_reckonFrom_101 (xa_tI _) (xa_tR _)) ?_
      refine xa_iaload d_X5_reckonFrom_102 (fun x15 _ => ?_)
      refine xa_step (xa_aload_n d_X5_reckonFrom_103 rfl) ?_
      refine xa_getf xR xc_5 (by decide) (fun _ => rfl) xw_517 rfl d_X5_reckonFrom_104 (fun x16 _ => ?_)
      refine xa_step (xa_iload_n d_X5_reckonFrom_107 rfl) ?_
      refine xa_iaload d_X5_reckonFrom_108 (fun x17 _ => ?_)
      refine xa_step (xa_iload d_X5_reckonFrom_109 rfl) ?_
      refine xa_step (xa_imul d_X5_reckonFrom_111) ?_
      refine xa_step (xa_iadd d_X5_reckonFrom_112) ?_
      refine xa_iastore2 d_X5_reckonFrom_113 (fun h18 _ => ?_)
      refine xa_step (xa_iinc (ls' := [some (xR c0), some (xI c1), some (xI c2), some (xI c3), some (xI (w32 (v4 + 1))), some (xI x10)]) d_X5_reckonFrom_114 xq_i_1 rfl (by decide) rfl) ?_
      refine xa_step (xa_goto d_X5_reckonFrom_117) ?_
      exact xa_weak (ls' := [some (xR c0), some (xI c1), some (xI c2), some (xI c3), some (xI (w32 (v4 + 1))), none]) ⟨rfl, rfl, rfl, rfl, rfl, trivial⟩ (hb (w32 (v4 + 1)) h18)
    · refine xa_step (xa_iinc (ls' := [some (xR c0), some (xI c1), some (xI c2), some (xI c3), some (xI (w32 (v4 + 1))), none]) d_X5_reckonFrom_114 xq_i_1 rfl (by decide) rfl) ?_
      refine xa_step (xa_goto d_X5_reckonFrom_117) ?_
      exact xa_weak (ls' := [some (xR c0), some (xI c1), some (xI c2), some (xI c3), some (xI (w32 (v4 + 1))), none]) ⟨rfl, rfl, rfl, rfl, rfl, trivial⟩ (hb (w32 (v4 + 1)) h)
  · exact xa_weak (ls' := [none, none, none, none, none, none]) trivial (hx h)
theorem d_X5_reckonFrom_120 : decode mX5_reckonFrom.1 120 = .ok (.return_, 1) := by decide +kernel
theorem d_X5_reckonFrom_13 : decode mX5_reckonFrom.1 13 = .ok (.aload_n 0, 1) ∧ 13 + 1 = 14 := ⟨by decide +kernel, rfl⟩
theorem d_X5_reckonFrom_14 : decode mX5_reckonFrom.1 14 = .ok (.getfield 31, 3) ∧ 14 + 3 = 17 := ⟨by decide +kernel, rfl⟩
theorem d_X5_reckonFrom_17 : decode mX5_reckonFrom.1 17 = .ok (.iload_n 1, 1) ∧ 17 + 1 = 18 := ⟨by decide +kernel, rfl⟩
theorem d_X5_reckonFrom_18 : decode mX5_reckonFrom.1 18 = .ok (.iload_n 2, 1) ∧ 18 + 1 = 19 := ⟨by decide +kernel, rfl⟩
theorem d_X5_reckonFrom_19 : decode mX5_reckonFrom.1 19 = .ok (.aload_n 0, 1) ∧ 19 + 1 = 20 := ⟨by decide +kernel, rfl⟩
theorem d_X5_reckonFrom_20 : decode mX5_reckonFrom.1 20 = .ok (.getfield 18, 3) ∧ 20 + 3 = 23 := ⟨by decide +kernel, rfl⟩
theorem d_X5_reckonFrom_23 : decode mX5_reckonFrom.1 23 = .ok (.if_icmp .ne 7, 3) ∧ 23 + 3 = 26 ∧ ((23 : Nat) : Int) + 7 = ((30 : Nat) : Int) := ⟨by decide +kernel, rfl, rfl⟩
theorem d_X5_reckonFrom_26 : decode mX5_reckonFrom.1 26 = .ok (.iconst 1, 1) ∧ 26 + 1 = 27 := ⟨by decide +kernel, rfl⟩
theorem d_X5_reckonFrom_27 : decode mX5_reckonFrom.1 27 = .ok (.goto 4, 3) ∧ ((27 : Nat) : Int) + 4 = ((31 : Nat) : Int) := ⟨by decide +kernel, rfl⟩
theorem d_X5_reckonFrom_31 : decode mX5_reckonFrom.1 31 = .ok (.iastore, 1) ∧ 31 + 1 = 32 := ⟨by decide +kernel, rfl⟩
theorem d_X5_reckonFrom_32 : decode mX5_reckonFrom.1 32 = .ok (.return_, 1) := by decide +kernel
theorem d_X5_reckonFrom_30 : decode mX5_reckonFrom.1 30 = .ok (.iconst 0, 1) ∧ 30 + 1 = 31 := ⟨by decide +kernel, rfl⟩
set_option maxRecDepth 100000 in
set_option maxHeartbeats 4000000 in
theorem g_X5_reckonFrom (l : Launch) (G : xa_C) (v0 v1 : Int) (h : xa_H) : xa_G l G 3 mX5_reckonFrom (f_X5_reckonFrom v0 v1 h) (fun r => some (none, r) : xa_H → Option xa_O) 0 [some (xR v0), some (xI v1), none, none, none, none] [] h := by
  unfold f_X5_reckonFrom
  refine xa_step (xa_iload_n d_X5_reckonFrom_0 rfl) ?_
  refine xa_callSi (as := [xI v1]) (st := []) (M' := mJ6_bitCount_0f7a4) (d' := 2) xw_574 xw_575 xw_576 xw_176 xh_J6_bitCount_0f7a4 rfl ⟨Nat.le_of_ble_eq_true rfl, Nat.le_of_ble_eq_true rfl⟩ (Nat.le_of_ble_eq_true rfl) rfl d_X5_reckonFrom_1 (fun r hr => ct_J6_bitCount_0f7a4 l G v1 h r hr) (fun r1 _ => ?_)
  refine xa_step (xa_istore_n (ls' := [some (xR v0), some (xI v1), some (xI r1), none, none, none]) d_X5_reckonFrom_4 (by decide) rfl) ?_
  refine xa_step (xa_iload_n d_X5_reckonFrom_5 rfl) ?_
  refine xa_step (xa_aload_n d_X5_reckonFrom_6 rfl) ?_
  refine xa_getf xI xc_5 (by decide) (fun _ => rfl) xw_514 rfl d_X5_reckonFrom_7 (fun x2 _ => ?_)
  refine xa_if (xa_icmplt d_X5_reckonFrom_10) (fun q3 => ?_) (fun q3 => ?_)
  · refine xa_step (xa_aload_n d_X5_reckonFrom_33 rfl) ?_
    refine xa_getf xR xc_5 (by decide) (fun _ => rfl) xw_516 rfl d_X5_reckonFrom_34 (fun x4 _ => ?_)
    refine xa_step (xa_iload_n d_X5_reckonFrom_37 rfl) ?_
    refine xa_iaload d_X5_reckonFrom_38 (fun x5 _ => ?_)
    refine xa_step (xa_iload_n d_X5_reckonFrom_39 rfl) ?_
    refine xa_step (xa_iconst d_X5_reckonFrom_40 xq_i_m1) ?_
    refine xa_step (xa_ixor d_X5_reckonFrom_41) ?_
    refine xa_step (xa_iand d_X5_reckonFrom_42) ?_
    refine xa_step (xa_istore_n (ls' := [some (xR v0), some (xI v1), some (xI r1), some (xI (xand x5 (xxor v1 ((-1))))), none, none]) d_X5_reckonFrom_43 (by decide) rfl) ?_
    refine xa_step (xa_iconst d_X5_reckonFrom_44 xq_i_0) ?_
    refine xa_step (xa_istore (ls' := [some (xR v0), some (xI v1), some (xI r1), some (xI (xand x5 (xxor v1 ((-1))))), some (xI 0), none]) d_X5_reckonFrom_45 (by decide) rfl) ?_
    refine xa_weak (ls' := [some (xR v0), some (xI v1), some (xI r1), some (xI (xand x5 (xxor v1 ((-1))))), some (xI 0), none]) ⟨rfl, rfl, rfl, rfl, rfl, trivial⟩ ?_
    refine xa_loop (f := fun s => f_X5_reckonFrom_L47 v0 v1 r1 (xand x5 (xxor v1 ((-1)))) s.1 s.2) (L := fun s => [some (xR v0), some (xI v1), some (xI r1), some (xI (xand x5 (xxor v1 ((-1))))), some (xI s.1), none]) (P := fun s => s.2) (X := (fun x K => xa_G l G 3 mX5_reckonFrom (some (Sum.inr x)) K 120 [none, none, none, none, none, none] [] x)) (fun K hb hX s => g_X5_reckonFrom_L47 l G v0 v1 r1 (xand x5 (xxor v1 ((-1)))) K (fun w0 hh => hb ((w0, hh))) (fun hh => hX hh) s.1 s.2) ?_ xFU ((0, h))
    intro e19 K hK
    refine xa_eqE hK ?_
    show xa_G l G 3 mX5_reckonFrom _ _ 120 [none, none, none, none, none, none] [] e19
    exact xa_vret d_X5_reckonFrom_120 rfl rfl
  · refine xa_step (xa_aload_n d_X5_reckonFrom_13 rfl) ?_
    refine xa_getf xR xc_5 (by decide) (fun _ => rfl) xw_518 rfl d_X5_reckonFrom_14 (fun x20 _ => ?_)
    refine xa_step (xa_iload_n d_X5_reckonFrom_17 rfl) ?_
    refine xa_step (xa_iload_n d_X5_reckonFrom_18 rfl) ?_
    refine xa_step (xa_aload_n d_X5_reckonFrom_19 rfl) ?_
    refine xa_getf xI xc_5 (by decide) (fun _ => rfl) xw_514 rfl d_X5_reckonFrom_20 (fun x21 _ => ?_)
    refine xa_if (xa_icmpne d_X5_reckonFrom_23) (fun q22 => ?_) (fun q22 => ?_)
    · refine xa_step (xa_iconst d_X5_reckonFrom_26 xq_i_1) ?_
      refine xa_step (xa_goto d_X5_reckonFrom_27) ?_
      refine xa_iastore2 d_X5_reckonFrom_31 (fun h23 _ => ?_)
      exact xa_vret d_X5_reckonFrom_32 rfl rfl
    · refine xa_step (xa_iconst d_X5_reckonFrom_30 xq_i_0) ?_
      refine xa_iastore2 d_X5_reckonFrom_31 (fun h24 _ => ?_)
      exact xa_vret d_X5_reckonFrom_32 rfl rfl
theorem ct_X5_reckonFrom (l : Launch) (G : xa_C) (v0 v1 : Int) (h : xa_H) (r : xa_H) (hr : f_X5_reckonFrom v0 v1 h = some r) : xa_CT l G 3 mX5_reckonFrom yX5_reckonFrom [xR v0, xI v1] h (none, r) :=
  xa_met (by decide +kernel) rfl (fun q => by first | rfl | cases q) (Nat.le_of_ble_eq_true rfl) rfl (g_X5_reckonFrom l G v0 v1 h) (by rw [hr]; rfl)
abbrev mX5_reckonTo : xa_M := (cX5_reckonTo, 5, none, RX5, false)
theorem d_X5_reckonTo_0 : decode mX5_reckonTo.1 0 = .ok (.iload_n 1, 1) ∧ 0 + 1 = 1 := ⟨by decide +kernel, rfl⟩
theorem d_X5_reckonTo_1 : decode mX5_reckonTo.1 1 = .ok (.invokestatic 53, 3) ∧ 1 + 3 = 4 := ⟨by decide +kernel, rfl⟩
theorem d_X5_reckonTo_4 : decode mX5_reckonTo.1 4 = .ok (.istore_n 2, 1) ∧ 4 + 1 = 5 := ⟨by decide +kernel, rfl⟩
theorem d_X5_reckonTo_5 : decode mX5_reckonTo.1 5 = .ok (.iload_n 2, 1) ∧ 5 + 1 = 6 := ⟨by decide +kernel, rfl⟩
theorem d_X5_reckonTo_6 : decode mX5_reckonTo.1 6 = .ok (.aload_n 0, 1) ∧ 6 + 1 = 7 := ⟨by decide +kernel, rfl⟩
theorem d_X5_reckonTo_7 : decode mX5_reckonTo.1 7 = .ok (.getfield 18, 3) ∧ 7 + 3 = 10 := ⟨by decide +kernel, rfl⟩
theorem d_X5_reckonTo_10 : decode mX5_reckonTo.1 10 = .ok (.if_icmp .lt 4, 3) ∧ 10 + 3 = 13 ∧ ((10 : Nat) : Int) + 4 = ((14 : Nat) : Int) := ⟨by decide +kernel, rfl, rfl⟩
theorem d_X5_reckonTo_14 : decode mX5_reckonTo.1 14 = .ok (.aload_n 0, 1) ∧ 14 + 1 = 15 := ⟨by decide +kernel, rfl⟩
theorem d_X5_reckonTo_15 : decode mX5_reckonTo.1 15 = .ok (.getfield 24, 3) ∧ 15 + 3 = 18 := ⟨by decide +kernel, rfl⟩
theorem d_X5_reckonTo_18 : decode mX5_reckonTo.1 18 = .ok (.iload_n 2, 1) ∧ 18 + 1 = 19 := ⟨by decide +kernel, rfl⟩
theorem d_X5_reckonTo_19 : decode mX5_reckonTo.1 19 = .ok (.iaload, 1) ∧ 19 + 1 = 20 := ⟨by decide +kernel, rfl⟩
theorem d_X5_reckonTo_20 : decode mX5_reckonTo.1 20 = .ok (.iload_n 1, 1) ∧ 20 + 1 = 21 := ⟨by decide +kernel, rfl⟩
theorem d_X5_reckonTo_21 : decode mX5_reckonTo.1 21 = .ok (.iconst (-1), 1) ∧ 21 + 1 = 22 := ⟨by decide +kernel, rfl⟩
theorem d_X5_reckonTo_22 : decode mX5_reckonTo.1 22 = .ok (.ixor, 1) ∧ 22 + 1 = 23 := ⟨by decide +kernel, rfl⟩
theorem d_X5_reckonTo_23 : decode mX5_reckonTo.1 23 = .ok (.iand, 1) ∧ 23 + 1 = 24 := ⟨by decide +kernel, rfl⟩
theorem d_X5_reckonTo_24 : decode mX5_reckonTo.1 24 = .ok (.istore_n 3, 1) ∧ 24 + 1 = 25 := ⟨by decide +kernel, rfl⟩
theorem d_X5_reckonTo_25 : decode mX5_reckonTo.1 25 = .ok (.iconst 0, 1) ∧ 25 + 1 = 26 := ⟨by decide +kernel, rfl⟩
theorem d_X5_reckonTo_26 : decode mX5_reckonTo.1 26 = .ok (.istore 4, 2) ∧ 26 + 2 = 28 := ⟨by decide +kernel, rfl⟩
theorem d_X5_reckonTo_28 : decode mX5_reckonTo.1 28 = .ok (.iload 4, 2) ∧ 28 + 2 = 30 := ⟨by decide +kernel, rfl⟩
theorem d_X5_reckonTo_30 : decode mX5_reckonTo.1 30 = .ok (.aload_n 0, 1) ∧ 30 + 1 = 31 := ⟨by decide +kernel, rfl⟩
theorem d_X5_reckonTo_31 : decode mX5_reckonTo.1 31 = .ok (.getfield 21, 3) ∧ 31 + 3 = 34 := ⟨by decide +kernel, rfl⟩
theorem d_X5_reckonTo_34 : decode mX5_reckonTo.1 34 = .ok (.if_icmp .ge 39, 3) ∧ 34 + 3 = 37 ∧ ((34 : Nat) : Int) + 39 = ((73 : Nat) : Int) := ⟨by decide +kernel, rfl, rfl⟩
theorem d_X5_reckonTo_37 : decode mX5_reckonTo.1 37 = .ok (.iload_n 3, 1) ∧ 37 + 1 = 38 := ⟨by decide +kernel, rfl⟩
theorem d_X5_reckonTo_38 : decode mX5_reckonTo.1 38 = .ok (.iload 4, 2) ∧ 38 + 2 = 40 := ⟨by decide +kernel, rfl⟩
theorem d_X5_reckonTo_40 : decode mX5_reckonTo.1 40 = .ok (.ishr, 1) ∧ 40 + 1 = 41 := ⟨by decide +kernel, rfl⟩
theorem d_X5_reckonTo_41 : decode mX5_reckonTo.1 41 = .ok (.iconst 1, 1) ∧ 41 + 1 = 42 := ⟨by decide +kernel, rfl⟩
theorem d_X5_reckonTo_42 : decode mX5_reckonTo.1 42 = .ok (.iand, 1) ∧ 42 + 1 = 43 := ⟨by decide +kernel, rfl⟩
theorem d_X5_reckonTo_43 : decode mX5_reckonTo.1 43 = .ok (.iconst 1, 1) ∧ 43 + 1 = 44 := ⟨by decide +kernel, rfl⟩
theorem d_X5_reckonTo_44 : decode mX5_reckonTo.1 44 = .ok (.if_icmp .ne 23, 3) ∧ 44 + 3 = 47 ∧ ((44 : Nat) : Int) + 23 = ((67 : Nat) : Int) := ⟨by decide +kernel, rfl, rfl⟩
theorem d_X5_reckonTo_47 : decode mX5_reckonTo.1 47 = .ok (.aload_n 0, 1) ∧ 47 + 1 = 48 := ⟨by decide +kernel, rfl⟩
theorem d_X5_reckonTo_48 : decode mX5_reckonTo.1 48 = .ok (.getfield 28, 3) ∧ 48 + 3 = 51 := ⟨by decide +kernel, rfl⟩
theorem d_X5_reckonTo_51 : decode mX5_reckonTo.1 51 = .ok (.iload_n 1, 1) ∧ 51 + 1 = 52 := ⟨by decide +kernel, rfl⟩
theorem d_X5_reckonTo_52 : decode mX5_reckonTo.1 52 = .ok (.iconst 1, 1) ∧ 52 + 1 = 53 := ⟨by decide +kernel, rfl⟩
theorem d_X5_reckonTo_53 : decode mX5_reckonTo.1 53 = .ok (.iload 4, 2) ∧ 53 + 2 = 55 := ⟨by decide +kernel, rfl⟩
theorem d_X5_reckonTo_55 : decode mX5_reckonTo.1 55 = .ok (.ishl, 1) ∧ 55 + 1 = 56 := ⟨by decide +kernel, rfl⟩
theorem d_X5_reckonTo_56 : decode mX5_reckonTo.1 56 = .ok (.ior, 1) ∧ 56 + 1 = 57 := ⟨by decide +kernel, rfl⟩
theorem d_X5_reckonTo_57 : decode mX5_reckonTo.1 57 = .ok (.dup2, 1) ∧ 57 + 1 = 58 := ⟨by decide +kernel, rfl⟩
theorem d_X5_reckonTo_58 : decode mX5_reckonTo.1 58 = .ok (.iaload, 1) ∧ 58 + 1 = 59 := ⟨by decide +kernel, rfl⟩
theorem d_X5_reckonTo_59 : decode mX5_reckonTo.1 59 = .ok (.aload_n 0, 1) ∧ 59 + 1 = 60 := ⟨by decide +kernel, rfl⟩
theorem d_X5_reckonTo_60 : decode mX5_reckonTo.1 60 = .ok (.getfield 28, 3) ∧ 60 + 3 = 63 := ⟨by decide +kernel, rfl⟩
theorem d_X5_reckonTo_63 : decode mX5_reckonTo.1 63 = .ok (.iload_n 1, 1) ∧ 63 + 1 = 64 := ⟨by decide +kernel, rfl⟩
theorem d_X5_reckonTo_64 : decode mX5_reckonTo.1 64 = .ok (.iaload, 1) ∧ 64 + 1 = 65 := ⟨by decide +kernel, rfl⟩
theorem d_X5_reckonTo_65 : decode mX5_reckonTo.1 65 = .ok (.iadd, 1) ∧ 65 + 1 = 66 := ⟨by decide +kernel, rfl⟩
theorem d_X5_reckonTo_66 : decode mX5_reckonTo.1 66 = .ok (.iastore, 1) ∧ 66 + 1 = 67 := ⟨by decide +kernel, rfl⟩
theorem d_X5_reckonTo_67 : decode mX5_reckonTo.1 67 = .ok (.iinc 4 1, 3) ∧ 67 + 3 = 70 := ⟨by decide +kernel, rfl⟩
theorem d_X5_reckonTo_70 : decode mX5_reckonTo.1 70 = .ok (.goto (-42), 3) ∧ ((70 : Nat) : Int) + (-42) = ((28 : Nat) : Int) := ⟨by decide +kernel, rfl⟩
set_option maxRecDepth 100000 in
set_option maxHeartbeats 4000000 in
theorem g_X5_reckonTo_L28 (l : Launch) (G : xa_C) (c0 c1 c3 : Int) (K : (Int × xa_H) ⊕ (xa_H) → Option xa_O) (hb : ∀ (v4 : Int) (h : xa_H), xa_G l G 3 mX5_reckonTo (some (Sum.inl ((v4, h)))) K 28 [some (xR c0), some (xI c1), none, some (xI c3), some (xI v4)] [] h) (hx : ∀ (h : xa_H), xa_G l G 3 mX5_reckonTo (some (Sum.inr h)) K 73 [none, none, none, none, none] [] h) : ∀ (v4 : Int) (h : xa_H), xa_G l G 3 mX5_reckonTo (f_X5_reckonTo_L28 c0 c1 c3 v4 h) K 28 [some (xR c0), some (xI c1), none, some (xI c3), some (xI v4)] [] h := by
  intro v4 h
  unfold f_X5_reckonTo_L28
  refine xa_step (xa_iload d_X5_reckonTo_28 rfl) ?_
  refine xa_step (xa_aload_n d_X5_reckonTo_30 rfl) ?_
  refine xa_getf xI xc_5 (by decide) (fun _ => rfl) xw_515 rfl d_X5_reckonTo_31 (fun x6 _ => ?_)
  refine xa_if (xa_icmpge d_X5_reckonTo_34) (fun q7 => ?_) (fun q7 => ?_)
  · refine xa_step (xa_iload_n d_X5_reckonTo_37 rfl) ?_
    refine xa_step (xa_iload d_X5_reckonTo_38 rfl) ?_
    refine xa_step (xa_ishr d_X5_reckonTo_40) ?_
    refine xa_step (xa_iconst d_X5_reckonTo_41 xq_i_1) ?_
    refine xa_step (xa_iand d_X5_reckonTo_42) ?_
    refine xa_step (xa_iconst d_X5_reckonTo_43 xq_i_1) ?_
    refine xa_if (xa_icmpne d_X5_reckonTo_44) (fun q8 => ?_) (fun q8 => ?_)
    · refine xa_step (xa_aload_n d_X5_reckonTo_47 rfl) ?_
      refine xa_getf xR xc_5 (by decide) (fun _ => rfl) xw_517 rfl d_X5_reckonTo_48 (fun x9 _ => ?_)
      refine xa_step (xa_iload_n d_X5_reckonTo_51 rfl) ?_
      refine xa_step (xa_iconst d_X5_reckonTo_52 xq_i_1) ?_
      refine xa_step (xa_iload d_X5_reckonTo_53 rfl) ?_
      refine xa_step (xa_ishl d_X5_reckonTo_55) ?_
      refine xa_step (xa_ior d_X5_reckonTo_56) ?_
      refine xa_step (xa_dup2 d_X5_reckonTo_57 (xa_tI _) (xa_tR _)) ?_
      refine xa_iaload d_X5_reckonTo_58 (fun x10 _ => ?_)
      refine xa_step (xa_aload_n d_X5_reckonTo_59 rfl) ?_
      refine xa_getf xR xc_5 (by decide) (fun _ => rfl) xw_517 rfl d_X5_reckonTo_60 (fun x11 _ => ?_)
      refine xa_step (xa_iload_n d_X5_reckonTo_63 rfl) ?_
      refine xa_iaload d_X5_reckonTo_64 (fun x12 _ => ?_)
      refine xa_step (xa_iadd d_X5_reckonTo_65) ?_
      refine xa_iastore2 d_X5_reckonTo_66 (fun h13 _ => ?_)
      refine xa_step (xa_iinc (ls' := [some (xR c0), some (xI c1), none, some (xI c3), some (xI (w32 (v4 + 1)))]) d_X5_reckonTo_67 xq_i_1 rfl (by decide) rfl) ?_
      refine xa_step (xa_goto d_X5_reckonTo_70) ?_
      exact xa_weak (ls' := [some (xR c0), some (xI c1), none, some (xI c3), some (xI (w32 (v4 + 1)))]) ⟨rfl, rfl, rfl, rfl, trivial⟩ (hb (w32 (v4 + 1)) h13)
    · refine xa_step (xa_iinc (ls' := [some (xR c0), some (xI c1), none, some (xI c3), some (xI (w32 (v4 + 1)))]) d_X5_reckonTo_67 xq_i_1 rfl (by decide) rfl) ?_
      refine xa_step (xa_goto d_X5_reckonTo_70) ?_
      exact xa_weak (ls' := [some (xR c0), some (xI c1), none, some (xI c3), some (xI (w32 (v4 + 1)))]) ⟨rfl, rfl, rfl, rfl, trivial⟩ (hb (w32 (v4 + 1)) h)
  · exact xa_weak (ls' := [none, none, none, none, none]) trivial (hx h)
theorem d_X5_reckonTo_73 : decode mX5_reckonTo.1 73 = .ok (.return_, 1) := by decide +kernel
theorem d_X5_reckonTo_13 : decode mX5_reckonTo.1 13 = .ok (.return_, 1) := by decide +kernel
set_option maxRecDepth 100000 in
set_option maxHeartbeats 4000000 in
theorem g_X5_reckonTo (l : Launch) (G : xa_C) (v0 v1 : Int) (h : xa_H) : xa_G l G 3 mX5_reckonTo (f_X5_reckonTo v0 v1 h) (fun r => some (none, r) : xa_H → Option xa_O) 0 [some (xR v0), some (xI v1), none, none, none] [] h := by
  unfold f_X5_reckonTo
  refine xa_step (xa_iload_n d_X5_reckonTo_0 rfl) ?_
  refine xa_callSi (as := [xI v1]) (st := []) (M' := mJ6_bitCount_0f7a4) (d' := 2) xw_574 xw_575 xw_576 xw_176 xh_J6_bitCount_0f7a4 rfl ⟨Nat.le_of_ble_eq_true rfl, Nat.le_of_ble_eq_true rfl⟩ (Nat.le_of_ble_eq_true rfl) rfl d_X5_reckonTo_1 (fun r hr => ct_J6_bitCount_0f7a4 l G v1 h r hr) (fun r1 _ => ?_)
  refine xa_step (xa_istore_n (ls' := [some (xR v0), some (xI v1), some (xI r1), none, none]) d_X5_reckonTo_4 (by decide) rfl) ?_
  refine xa_step (xa_iload_n d_X5_reckonTo_5 rfl) ?_
  refine xa_step (xa_aload_n d_X5_reckonTo_6 rfl) ?_
  refine xa_getf xI xc_5 (by decide) (fun _ => rfl) xw_514 rfl d_X5_reckonTo_7 (fun x2 _ => ?_)
  refine xa_if (xa_icmplt d_X5_reckonTo_10) (fun q3 => ?_) (fun q3 => ?_)
  · refine xa_step (xa_aload_n d_X5_reckonTo_14 rfl) ?_
    refine xa_getf xR xc_5 (by decide) (fun _ => rfl) xw_516 rfl d_X5_reckonTo_15 (fun x4 _ => ?_)
    refine xa_step (xa_iload_n d_X5_reckonTo_18 rfl) ?_
    refine xa_iaload d_X5_reckonTo_19 (fun x5 _ => ?_)
    refine xa_step (xa_iload_n d_X5_reckonTo_20 rfl) ?_
    refine xa_step (xa_iconst d_X5_reckonTo_21 xq_i_m1) ?_
    refine xa_step (xa_ixor d_X5_reckonTo_22) ?_
    refine xa_step (xa_iand d_X5_reckonTo_23) ?_
    refine xa_step (xa_istore_n (ls' := [some (xR v0), some (xI v1), some (xI r1), some (xI (xand x5 (xxor v1 ((-1))))), none]) d_X5_reckonTo_24 (by decide) rfl) ?_
    refine xa_step (xa_iconst d_X5_reckonTo_25 xq_i_0) ?_
    refine xa_step (xa_istore (ls' := [some (xR v0), some (xI v1), some (xI r1), some (xI (xand x5 (xxor v1 ((-1))))), some (xI 0)]) d_X5_reckonTo_26 (by decide) rfl) ?_
    refine xa_weak (ls' := [some (xR v0), some (xI v1), none, some (xI (xand x5 (xxor v1 ((-1))))), some (xI 0)]) ⟨rfl, rfl, rfl, rfl, trivial⟩ ?_
    refine xa_loop (f := fun s => f_X5_reckonTo_L28 v0 v1 (xand x5 (xxor v1 ((-1)))) s.1 s.2) (L := fun s => [some (xR v0), some (xI v1), none, some (xI (xand x5 (xxor v1 ((-1))))), some (xI s.1)]) (P := fun s => s.2) (X := (fun x K => xa_G l G 3 mX5_reckonTo (some (Sum.inr x)) K 73 [none, none, none, none, none] [] x)) (fun K hb hX s => g_X5_reckonTo_L28 l G v0 v1 (xand x5 (xxor v1 ((-1)))) K (fun w0 hh => hb ((w0, hh))) (fun hh => hX hh) s.1 s.2) ?_ xFU ((0, h))
    intro e14 K hK
    refine xa_eqE hK ?_
    show xa_G l G 3 mX5_reckonTo _ _ 73 [none, none, none, none, none] [] e14
    exact xa_vret d_X5_reckonTo_73 rfl rfl
  · exact xa_vret d_X5_reckonTo_13 rfl rfl
theorem ct_X5_reckonTo (l : Launch) (G : xa_C) (v0 v1 : Int) (h : xa_H) (r : xa_H) (hr : f_X5_reckonTo v0 v1 h = some r) : xa_CT l G 3 mX5_reckonTo yX5_reckonTo [xR v0, xI v1] h (none, r) :=
  xa_met (by decide +kernel) rfl (fun q => by first | rfl | cases q) (Nat.le_of_ble_eq_true rfl) rfl (g_X5_reckonTo l G v0 v1 h) (by rw [hr]; rfl)
abbrev mX5_reckon : xa_M := (cX5_reckon, 3, none, RX5, false)
theorem d_X5_reckon_0 : decode mX5_reckon.1 0 = .ok (.aload_n 0, 1) ∧ 0 + 1 = 1 := ⟨by decide +kernel, rfl⟩
theorem d_X5_reckon_1 : decode mX5_reckon.1 1 = .ok (.getfield 28, 3) ∧ 1 + 3 = 4 := ⟨by decide +kernel, rfl⟩
theorem d_X5_reckon_4 : decode mX5_reckon.1 4 = .ok (.iconst 0, 1) ∧ 4 + 1 = 5 := ⟨by decide +kernel, rfl⟩
theorem d_X5_reckon_5 : decode mX5_reckon.1 5 = .ok (.invokestatic 37, 3) ∧ 5 + 3 = 8 := ⟨by decide +kernel, rfl⟩
theorem d_X5_reckon_8 : decode mX5_reckon.1 8 = .ok (.aload_n 0, 1) ∧ 8 + 1 = 9 := ⟨by decide +kernel, rfl⟩
theorem d_X5_reckon_9 : decode mX5_reckon.1 9 = .ok (.getfield 31, 3) ∧ 9 + 3 = 12 := ⟨by decide +kernel, rfl⟩
theorem d_X5_reckon_12 : decode mX5_reckon.1 12 = .ok (.iconst 0, 1) ∧ 12 + 1 = 13 := ⟨by decide +kernel, rfl⟩
theorem d_X5_reckon_13 : decode mX5_reckon.1 13 = .ok (.invokestatic 37, 3) ∧ 13 + 3 = 16 := ⟨by decide +kernel, rfl⟩
theorem d_X5_reckon_16 : decode mX5_reckon.1 16 = .ok (.aload_n 0, 1) ∧ 16 + 1 = 17 := ⟨by decide +kernel, rfl⟩
theorem d_X5_reckon_17 : decode mX5_reckon.1 17 = .ok (.getfield 34, 3) ∧ 17 + 3 = 20 := ⟨by decide +kernel, rfl⟩
theorem d_X5_reckon_20 : decode mX5_reckon.1 20 = .ok (.iconst 0, 1) ∧ 20 + 1 = 21 := ⟨by decide +kernel, rfl⟩
theorem d_X5_reckon_21 : decode mX5_reckon.1 21 = .ok (.invokestatic 37, 3) ∧ 21 + 3 = 24 := ⟨by decide +kernel, rfl⟩
theorem d_X5_reckon_24 : decode mX5_reckon.1 24 = .ok (.iconst 1, 1) ∧ 24 + 1 = 25 := ⟨by decide +kernel, rfl⟩
theorem d_X5_reckon_25 : decode mX5_reckon.1 25 = .ok (.aload_n 0, 1) ∧ 25 + 1 = 26 := ⟨by decide +kernel, rfl⟩
theorem d_X5_reckon_26 : decode mX5_reckon.1 26 = .ok (.getfield 21, 3) ∧ 26 + 3 = 29 := ⟨by decide +kernel, rfl⟩
theorem d_X5_reckon_29 : decode mX5_reckon.1 29 = .ok (.ishl, 1) ∧ 29 + 1 = 30 := ⟨by decide +kernel, rfl⟩
theorem d_X5_reckon_30 : decode mX5_reckon.1 30 = .ok (.iconst 1, 1) ∧ 30 + 1 = 31 := ⟨by decide +kernel, rfl⟩
theorem d_X5_reckon_31 : decode mX5_reckon.1 31 = .ok (.isub, 1) ∧ 31 + 1 = 32 := ⟨by decide +kernel, rfl⟩
theorem d_X5_reckon_32 : decode mX5_reckon.1 32 = .ok (.istore_n 1, 1) ∧ 32 + 1 = 33 := ⟨by decide +kernel, rfl⟩
theorem d_X5_reckon_33 : decode mX5_reckon.1 33 = .ok (.aload_n 0, 1) ∧ 33 + 1 = 34 := ⟨by decide +kernel, rfl⟩
theorem d_X5_reckon_34 : decode mX5_reckon.1 34 = .ok (.getfield 28, 3) ∧ 34 + 3 = 37 := ⟨by decide +kernel, rfl⟩
theorem d_X5_reckon_37 : decode mX5_reckon.1 37 = .ok (.iconst 0, 1) ∧ 37 + 1 = 38 := ⟨by decide +kernel, rfl⟩
theorem d_X5_reckon_38 : decode mX5_reckon.1 38 = .ok (.iconst 1, 1) ∧ 38 + 1 = 39 := ⟨by decide +kernel, rfl⟩
theorem d_X5_reckon_39 : decode mX5_reckon.1 39 = .ok (.iastore, 1) ∧ 39 + 1 = 40 := ⟨by decide +kernel, rfl⟩
theorem d_X5_reckon_40 : decode mX5_reckon.1 40 = .ok (.iconst 0, 1) ∧ 40 + 1 = 41 := ⟨by decide +kernel, rfl⟩
theorem d_X5_reckon_41 : decode mX5_reckon.1 41 = .ok (.istore_n 2, 1) ∧ 41 + 1 = 42 := ⟨by decide +kernel, rfl⟩
theorem d_X5_reckon_42 : decode mX5_reckon.1 42 = .ok (.iload_n 2, 1) ∧ 42 + 1 = 43 := ⟨by decide +kernel, rfl⟩
theorem d_X5_reckon_43 : decode mX5_reckon.1 43 = .ok (.iload_n 1, 1) ∧ 43 + 1 = 44 := ⟨by decide +kernel, rfl⟩
theorem d_X5_reckon_44 : decode mX5_reckon.1 44 = .ok (.if_icmp .gt 14, 3) ∧ 44 + 3 = 47 ∧ ((44 : Nat) : Int) + 14 = ((58 : Nat) : Int) := ⟨by decide +kernel, rfl, rfl⟩
theorem d_X5_reckon_47 : decode mX5_reckon.1 47 = .ok (.aload_n 0, 1) ∧ 47 + 1 = 48 := ⟨by decide +kernel, rfl⟩
theorem d_X5_reckon_48 : decode mX5_reckon.1 48 = .ok (.iload_n 2, 1) ∧ 48 + 1 = 49 := ⟨by decide +kernel, rfl⟩
theorem d_X5_reckon_49 : decode mX5_reckon.1 49 = .ok (.invokevirtual 46, 3) ∧ 49 + 3 = 52 := ⟨by decide +kernel, rfl⟩
theorem d_X5_reckon_52 : decode mX5_reckon.1 52 = .ok (.iinc 2 1, 3) ∧ 52 + 3 = 55 := ⟨by decide +kernel, rfl⟩
theorem d_X5_reckon_55 : decode mX5_reckon.1 55 = .ok (.goto (-13), 3) ∧ ((55 : Nat) : Int) + (-13) = ((42 : Nat) : Int) := ⟨by decide +kernel, rfl⟩
set_option maxRecDepth 100000 in
set_option maxHeartbeats 4000000 in
theorem g_X5_reckon_L42 (l : Launch) (G : xa_C) (c0 c1 : Int) (K : (Int × xa_H) ⊕ (xa_H) → Option xa_O) (hb : ∀ (v2 : Int) (h : xa_H), xa_G l G 4 mX5_reckon (some (Sum.inl ((v2, h)))) K 42 [some (xR c0), some (xI c1), some (xI v2)] [] h) (hx : ∀ (h : xa_H), xa_G l G 4 mX5_reckon (some (Sum.inr h)) K 58 [some (xR c0), some (xI c1), none] [] h) : ∀ (v2 : Int) (h : xa_H), xa_G l G 4 mX5_reckon (f_X5_reckon_L42 c0 c1 v2 h) K 42 [some (xR c0), some (xI c1), some (xI v2)] [] h := by
  intro v2 h
  unfold f_X5_reckon_L42
  refine xa_step (xa_iload_n d_X5_reckon_42 rfl) ?_
  refine xa_step (xa_iload_n d_X5_reckon_43 rfl) ?_
  refine xa_if (xa_icmpgt d_X5_reckon_44) (fun q10 => ?_) (fun q10 => ?_)
  · exact xa_weak (ls' := [some (xR c0), some (xI c1), none]) ⟨rfl, rfl, trivial⟩ (hx h)
  · refine xa_step (xa_aload_n d_X5_reckon_47 rfl) ?_
    refine xa_step (xa_iload_n d_X5_reckon_48 rfl) ?_
    refine xa_callVV (as := [xI v2]) (st := []) (M' := mX5_reckonTo) (d' := 3) rfl xw_570 xw_572 xw_0 xw_573 xw_174 xh_X5_reckonTo rfl ⟨Nat.le_of_ble_eq_true rfl, Nat.le_of_ble_eq_true rfl⟩ (Nat.le_of_ble_eq_true rfl) rfl d_X5_reckon_49 (fun r hr => ct_X5_reckonTo l G c0 v2 h r hr) (fun r11 _ => ?_)
    refine xa_step (xa_iinc (ls' := [some (xR c0), some (xI c1), some (xI (w32 (v2 + 1)))]) d_X5_reckon_52 xq_i_1 rfl (by decide) rfl) ?_
    refine xa_step (xa_goto d_X5_reckon_55) ?_
    exact xa_weak (ls' := [some (xR c0), some (xI c1), some (xI (w32 (v2 + 1)))]) ⟨rfl, rfl, rfl, trivial⟩ (hb (w32 (v2 + 1)) r11)
theorem d_X5_reckon_58 : decode mX5_reckon.1 58 = .ok (.iload_n 1, 1) ∧ 58 + 1 = 59 := ⟨by decide +kernel, rfl⟩
theorem d_X5_reckon_59 : decode mX5_reckon.1 59 = .ok (.istore_n 2, 1) ∧ 59 + 1 = 60 := ⟨by decide +kernel, rfl⟩
theorem d_X5_reckon_60 : decode mX5_reckon.1 60 = .ok (.iload_n 2, 1) ∧ 60 + 1 = 61 := ⟨by decide +kernel, rfl⟩
theorem d_X5_reckon_61 : decode mX5_reckon.1 61 = .ok (.ifCond .lt 14, 3) ∧ 61 + 3 = 64 ∧ ((61 : Nat) : Int) + 14 = ((75 : Nat) : Int) := ⟨by decide +kernel, rfl, rfl⟩
theorem d_X5_reckon_64 : decode mX5_reckon.1 64 = .ok (.aload_n 0, 1) ∧ 64 + 1 = 65 := ⟨by decide +kernel, rfl⟩
theorem d_X5_reckon_65 : decode mX5_reckon.1 65 = .ok (.iload_n 2, 1) ∧ 65 + 1 = 66 := ⟨by decide +kernel, rfl⟩
theorem d_X5_reckon_66 : decode mX5_reckon.1 66 = .ok (.invokevirtual 50, 3) ∧ 66 + 3 = 69 := ⟨by decide +kernel, rfl⟩
theorem d_X5_reckon_69 : decode mX5_reckon.1 69 = .ok (.iinc 2 (-1), 3) ∧ 69 + 3 = 72 := ⟨by decide +kernel, rfl⟩
theorem d_X5_reckon_72 : decode mX5_reckon.1 72 = .ok (.goto (-12), 3) ∧ ((72 : Nat) : Int) + (-12) = ((60 : Nat) : Int) := ⟨by decide +kernel, rfl⟩
set_option maxRecDepth 100000 in
set_option maxHeartbeats 4000000 in
theorem g_X5_reckon_L60 (l : Launch) (G : xa_C) (c0 : Int) (K : (Int × xa_H) ⊕ (xa_H) → Option xa_O) (hb : ∀ (v2 : Int) (h : xa_H), xa_G l G 4 mX5_reckon (some (Sum.inl ((v2, h)))) K 60 [some (xR c0), none, some (xI v2)] [] h) (hx : ∀ (h : xa_H), xa_G l G 4 mX5_reckon (some (Sum.inr h)) K 75 [some (xR c0), none, none] [] h) : ∀ (v2 : Int) (h : xa_H), xa_G l G 4 mX5_reckon (f_X5_reckon_L60 c0 v2 h) K 60 [some (xR c0), none, some (xI v2)] [] h := by
  intro v2 h
  unfold f_X5_reckon_L60
  refine xa_step (xa_iload_n d_X5_reckon_60 rfl) ?_
  refine xa_if (xa_iflt d_X5_reckon_61) (fun q13 => ?_) (fun q13 => ?_)
  · exact xa_weak (ls' := [some (xR c0), none, none]) ⟨rfl, trivial⟩ (hx h)
  · refine xa_step (xa_aload_n d_X5_reckon_64 rfl) ?_
    refine xa_step (xa_iload_n d_X5_reckon_65 rfl) ?_
    refine xa_callVV (as := [xI v2]) (st := []) (M' := mX5_reckonFrom) (d' := 3) rfl xw_580 xw_582 xw_1 xw_583 xw_174 xh_X5_reckonFrom rfl ⟨Nat.le_of_ble_eq_true rfl, Nat.le_of_ble_eq_true rfl⟩ (Nat.le_of_ble_eq_true rfl) rfl d_X5_reckon_66 (fun r hr => ct_X5_reckonFrom l G c0 v2 h r hr) (fun r14 _ => ?_)
    refine xa_step (xa_iinc (ls' := [some (xR c0), none, some (xI (w32 (v2 + (-1))))]) d_X5_reckon_69 xq_i_m1 rfl (by decide) rfl) ?_
    refine xa_step (xa_goto d_X5_reckon_72) ?_
    exact xa_weak (ls' := [some (xR c0), none, some (xI (w32 (v2 + (-1))))]) ⟨rfl, rfl, trivial⟩ (hb (w32 (v2 + (-1))) r14)
theorem d_X5_reckon_75 : decode mX5_reckon.1 75 = .ok (.aload_n 0, 1) ∧ 75 + 1 = 76 := ⟨by decide +kernel, rfl⟩
theorem d_X5_reckon_76 : decode mX5_reckon.1 76 = .ok (.aload_n 0, 1) ∧ 76 + 1 = 77 := ⟨by decide +kernel, rfl⟩
theorem d_X5_reckon_77 : decode mX5_reckon.1 77 = .ok (.getfield 31, 3) ∧ 77 + 3 = 80 := ⟨by decide +kernel, rfl⟩
theorem d_X5_reckon_80 : decode mX5_reckon.1 80 = .ok (.iconst 0, 1) ∧ 80 + 1 = 81 := ⟨by decide +kernel, rfl⟩
theorem d_X5_reckon_81 : decode mX5_reckon.1 81 = .ok (.iaload, 1) ∧ 81 + 1 = 82 := ⟨by decide +kernel, rfl⟩
theorem d_X5_reckon_82 : decode mX5_reckon.1 82 = .ok (.putfield 15, 3) ∧ 82 + 3 = 85 := ⟨by decide +kernel, rfl⟩
theorem d_X5_reckon_85 : decode mX5_reckon.1 85 = .ok (.return_, 1) := by decide +kernel
set_option maxRecDepth 100000 in
set_option maxHeartbeats 4000000 in
theorem g_X5_reckon (l : Launch) (G : xa_C) (v0 : Int) (h : xa_H) : xa_G l G 4 mX5_reckon (f_X5_reckon v0 h) (fun r => some (none, r) : xa_H → Option xa_O) 0 [some (xR v0), none, none] [] h := by
  unfold f_X5_reckon
  refine xa_step (xa_aload_n d_X5_reckon_0 rfl) ?_
  refine xa_getf xR xc_5 (by decide) (fun _ => rfl) xw_517 rfl d_X5_reckon_1 (fun x1 _ => ?_)
  refine xa_step (xa_iconst d_X5_reckon_4 xq_i_0) ?_
  refine xa_callSV (as := [xR x1, xI 0]) (st := []) (M' := mJ7_fill_53178) (d' := 2) xw_565 xw_378 xw_379 xw_171 xh_J7_fill_53178 rfl ⟨Nat.le_of_ble_eq_true rfl, Nat.le_of_ble_eq_true rfl⟩ (Nat.le_of_ble_eq_true rfl) rfl d_X5_reckon_5 (fun r hr => ct_J7_fill_53178 l G x1 0 h r hr) (fun r2 _ => ?_)
  refine xa_step (xa_aload_n d_X5_reckon_8 rfl) ?_
  refine xa_getf xR xc_5 (by decide) (fun _ => rfl) xw_518 rfl d_X5_reckon_9 (fun x3 _ => ?_)
  refine xa_step (xa_iconst d_X5_reckon_12 xq_i_0) ?_
  refine xa_callSV (as := [xR x3, xI 0]) (st := []) (M' := mJ7_fill_53178) (d' := 2) xw_565 xw_378 xw_379 xw_171 xh_J7_fill_53178 rfl ⟨Nat.le_of_ble_eq_true rfl, Nat.le_of_ble_eq_true rfl⟩ (Nat.le_of_ble_eq_true rfl) rfl d_X5_reckon_13 (fun r hr => ct_J7_fill_53178 l G x3 0 r2 r hr) (fun r4 _ => ?_)
  refine xa_step (xa_aload_n d_X5_reckon_16 rfl) ?_
  refine xa_getf xR xc_5 (by decide) (fun _ => rfl) xw_519 rfl d_X5_reckon_17 (fun x5 _ => ?_)
  refine xa_step (xa_iconst d_X5_reckon_20 xq_i_0) ?_
  refine xa_callSV (as := [xR x5, xI 0]) (st := []) (M' := mJ7_fill_53178) (d' := 2) xw_565 xw_378 xw_379 xw_171 xh_J7_fill_53178 rfl ⟨Nat.le_of_ble_eq_true rfl, Nat.le_of_ble_eq_true rfl⟩ (Nat.le_of_ble_eq_true rfl) rfl d_X5_reckon_21 (fun r hr => ct_J7_fill_53178 l G x5 0 r4 r hr) (fun r6 _ => ?_)
  refine xa_step (xa_iconst d_X5_reckon_24 xq_i_1) ?_
  refine xa_step (xa_aload_n d_X5_reckon_25 rfl) ?_
  refine xa_getf xI xc_5 (by decide) (fun _ => rfl) xw_515 rfl d_X5_reckon_26 (fun x7 _ => ?_)
  refine xa_step (xa_ishl d_X5_reckon_29) ?_
  refine xa_step (xa_iconst d_X5_reckon_30 xq_i_1) ?_
  refine xa_step (xa_isub d_X5_reckon_31) ?_
  refine xa_step (xa_istore_n (ls' := [some (xR v0), some (xI (w32 ((xshl 1 x7) - 1))), none]) d_X5_reckon_32 (by decide) rfl) ?_
  refine xa_step (xa_aload_n d_X5_reckon_33 rfl) ?_
  refine xa_getf xR xc_5 (by decide) (fun _ => rfl) xw_517 rfl d_X5_reckon_34 (fun x8 _ => ?_)
  refine xa_step (xa_iconst d_X5_reckon_37 xq_i_0) ?_
  refine xa_step (xa_iconst d_X5_reckon_38 xq_i_1) ?_
  refine xa_iastore2 d_X5_reckon_39 (fun h9 _ => ?_)
  refine xa_step (xa_iconst d_X5_reckon_40 xq_i_0) ?_
  refine xa_step (xa_istore_n (ls' := [some (xR v0), some (xI (w32 ((xshl 1 x7) - 1))), some (xI 0)]) d_X5_reckon_41 (by decide) rfl) ?_
  refine xa_weak (ls' := [some (xR v0), some (xI (w32 ((xshl 1 x7) - 1))), some (xI 0)]) ⟨rfl, rfl, rfl, trivial⟩ ?_
  refine xa_loop (f := fun s => f_X5_reckon_L42 v0 (w32 ((xshl 1 x7) - 1)) s.1 s.2) (L := fun s => [some (xR v0), some (xI (w32 ((xshl 1 x7) - 1))), some (xI s.1)]) (P := fun s => s.2) (X := (fun x K => xa_G l G 4 mX5_reckon (some (Sum.inr x)) K 58 [some (xR v0), some (xI (w32 ((xshl 1 x7) - 1))), none] [] x)) (fun K hb hX s => g_X5_reckon_L42 l G v0 (w32 ((xshl 1 x7) - 1)) K (fun w0 hh => hb ((w0, hh))) (fun hh => hX hh) s.1 s.2) ?_ xFU ((0, h9))
  intro e12 K hK
  refine xa_eqE hK ?_
  show xa_G l G 4 mX5_reckon _ _ 58 [some (xR v0), some (xI (w32 ((xshl 1 x7) - 1))), none] [] e12
  refine xa_step (xa_iload_n d_X5_reckon_58 rfl) ?_
  refine xa_step (xa_istore_n (ls' := [some (xR v0), some (xI (w32 ((xshl 1 x7) - 1))), some (xI (w32 ((xshl 1 x7) - 1)))]) d_X5_reckon_59 (by decide) rfl) ?_
  refine xa_weak (ls' := [some (xR v0), none, some (xI (w32 ((xshl 1 x7) - 1)))]) ⟨rfl, rfl, trivial⟩ ?_
  refine xa_loop (f := fun s => f_X5_reckon_L60 v0 s.1 s.2) (L := fun s => [some (xR v0), none, some (xI s.1)]) (P := fun s => s.2) (X := (fun x K => xa_G l G 4 mX5_reckon (some (Sum.inr x)) K 75 [some (xR v0), none, none] [] x)) (fun K hb hX s => g_X5_reckon_L60 l G v0 K (fun w0 hh => hb ((w0, hh))) (fun hh => hX hh) s.1 s.2) ?_ xFU ((w32 ((xshl 1 x7) - 1), e12))
  intro e15 K hK
  refine xa_eqE hK ?_
  show xa_G l G 4 mX5_reckon _ _ 75 [some (xR v0), none, none] [] e15
  refine xa_step (xa_aload_n d_X5_reckon_75 rfl) ?_
  refine xa_step (xa_aload_n d_X5_reckon_76 rfl) ?_
  refine xa_getf xR xc_5 (by decide) (fun _ => rfl) xw_518 rfl d_X5_reckon_77 (fun x16 _ => ?_)
  refine xa_step (xa_iconst d_X5_reckon_80 xq_i_0) ?_
  refine xa_iaload d_X5_reckon_81 (fun x17 _ => ?_)
  refine xa_putf2 (tg := xI) xc_5 (by decide) (fun _ => rfl) rfl (fun c hc => xa_fitI c hc) xw_512 rfl d_X5_reckon_82 (fun h18 _ => ?_)
  exact xa_vret d_X5_reckon_85 rfl rfl
theorem ct_X5_reckon (l : Launch) (G : xa_C) (v0 : Int) (h : xa_H) (r : xa_H) (hr : f_X5_reckon v0 h = some r) : xa_CT l G 4 mX5_reckon yX5_reckon [xR v0] h (none, r) :=
  xa_met (by decide +kernel) rfl (fun q => by first | rfl | cases q) (Nat.le_of_ble_eq_true rfl) rfl (g_X5_reckon l G v0 h) (by rw [hr]; rfl)
abbrev mX5_forget : xa_M := (cX5_forget, 3, none, RX5, false)
theorem d_X5_forget_0 : decode mX5_forget.1 0 = .ok (.aload_n 0, 1) ∧ 0 + 1 = 1 := ⟨by decide +kernel, rfl⟩
theorem d_X5_forget_1 : decode mX5_forget.1 1 = .ok (.iconst 0, 1) ∧ 1 + 1 = 2 := ⟨by decide +kernel, rfl⟩
theorem d_X5_forget_2 : decode mX5_forget.1 2 = .ok (.putfield 9, 3) ∧ 2 + 3 = 5 := ⟨by decide +kernel, rfl⟩
theorem d_X5_forget_5 : decode mX5_forget.1 5 = .ok (.aload_n 0, 1) ∧ 5 + 1 = 6 := ⟨by decide +kernel, rfl⟩
theorem d_X5_forget_6 : decode mX5_forget.1 6 = .ok (.iload_n 1, 1) ∧ 6 + 1 = 7 := ⟨by decide +kernel, rfl⟩
theorem d_X5_forget_7 : decode mX5_forget.1 7 = .ok (.putfield 18, 3) ∧ 7 + 3 = 10 := ⟨by decide +kernel, rfl⟩
theorem d_X5_forget_10 : decode mX5_forget.1 10 = .ok (.aload_n 0, 1) ∧ 10 + 1 = 11 := ⟨by decide +kernel, rfl⟩
theorem d_X5_forget_11 : decode mX5_forget.1 11 = .ok (.iload_n 2, 1) ∧ 11 + 1 = 12 := ⟨by decide +kernel, rfl⟩
theorem d_X5_forget_12 : decode mX5_forget.1 12 = .ok (.putfield 21, 3) ∧ 12 + 3 = 15 := ⟨by decide +kernel, rfl⟩
theorem d_X5_forget_15 : decode mX5_forget.1 15 = .ok (.aload_n 0, 1) ∧ 15 + 1 = 16 := ⟨by decide +kernel, rfl⟩
theorem d_X5_forget_16 : decode mX5_forget.1 16 = .ok (.getfield 24, 3) ∧ 16 + 3 = 19 := ⟨by decide +kernel, rfl⟩
theorem d_X5_forget_19 : decode mX5_forget.1 19 = .ok (.iconst 1, 1) ∧ 19 + 1 = 20 := ⟨by decide +kernel, rfl⟩
theorem d_X5_forget_20 : decode mX5_forget.1 20 = .ok (.iload_n 2, 1) ∧ 20 + 1 = 21 := ⟨by decide +kernel, rfl⟩
theorem d_X5_forget_21 : decode mX5_forget.1 21 = .ok (.ishl, 1) ∧ 21 + 1 = 22 := ⟨by decide +kernel, rfl⟩
theorem d_X5_forget_22 : decode mX5_forget.1 22 = .ok (.iconst 1, 1) ∧ 22 + 1 = 23 := ⟨by decide +kernel, rfl⟩
theorem d_X5_forget_23 : decode mX5_forget.1 23 = .ok (.isub, 1) ∧ 23 + 1 = 24 := ⟨by decide +kernel, rfl⟩
theorem d_X5_forget_24 : decode mX5_forget.1 24 = .ok (.invokestatic 37, 3) ∧ 24 + 3 = 27 := ⟨by decide +kernel, rfl⟩
theorem d_X5_forget_27 : decode mX5_forget.1 27 = .ok (.aload_n 0, 1) ∧ 27 + 1 = 28 := ⟨by decide +kernel, rfl⟩
theorem d_X5_forget_28 : decode mX5_forget.1 28 = .ok (.invokevirtual 43, 3) ∧ 28 + 3 = 31 := ⟨by decide +kernel, rfl⟩
theorem d_X5_forget_31 : decode mX5_forget.1 31 = .ok (.return_, 1) := by decide +kernel
set_option maxRecDepth 100000 in
set_option maxHeartbeats 4000000 in
theorem g_X5_forget (l : Launch) (G : xa_C) (v0 v1 v2 : Int) (h : xa_H) : xa_G l G 5 mX5_forget (f_X5_forget v0 v1 v2 h) (fun r => some (none, r) : xa_H → Option xa_O) 0 [some (xR v0), some (xI v1), some (xI v2)] [] h := by
  unfold f_X5_forget
  refine xa_step (xa_aload_n d_X5_forget_0 rfl) ?_
  refine xa_step (xa_iconst d_X5_forget_1 xq_i_0) ?_
  refine xa_putf2 (tg := xI) xc_5 (by decide) (fun _ => rfl) rfl (fun c hc => xa_fitI c hc) xw_510 rfl d_X5_forget_2 (fun h1 _ => ?_)
  refine xa_step (xa_aload_n d_X5_forget_5 rfl) ?_
  refine xa_step (xa_iload_n d_X5_forget_6 rfl) ?_
  refine xa_putf2 (tg := xI) xc_5 (by decide) (fun _ => rfl) rfl (fun c hc => xa_fitI c hc) xw_514 rfl d_X5_forget_7 (fun h2 _ => ?_)
  refine xa_step (xa_aload_n d_X5_forget_10 rfl) ?_
  refine xa_step (xa_iload_n d_X5_forget_11 rfl) ?_
  refine xa_putf2 (tg := xI) xc_5 (by decide) (fun _ => rfl) rfl (fun c hc => xa_fitI c hc) xw_515 rfl d_X5_forget_12 (fun h3 _ => ?_)
  refine xa_step (xa_aload_n d_X5_forget_15 rfl) ?_
  refine xa_getf xR xc_5 (by decide) (fun _ => rfl) xw_516 rfl d_X5_forget_16 (fun x4 _ => ?_)
  refine xa_step (xa_iconst d_X5_forget_19 xq_i_1) ?_
  refine xa_step (xa_iload_n d_X5_forget_20 rfl) ?_
  refine xa_step (xa_ishl d_X5_forget_21) ?_
  refine xa_step (xa_iconst d_X5_forget_22 xq_i_1) ?_
  refine xa_step (xa_isub d_X5_forget_23) ?_
  refine xa_callSV (as := [xR x4, xI (w32 ((xshl 1 v2) - 1))]) (st := []) (M' := mJ7_fill_53178) (d' := 2) xw_565 xw_378 xw_379 xw_171 xh_J7_fill_53178 rfl ⟨Nat.le_of_ble_eq_true rfl, Nat.le_of_ble_eq_true rfl⟩ (Nat.le_of_ble_eq_true rfl) rfl d_X5_forget_24 (fun r hr => ct_J7_fill_53178 l G x4 (w32 ((xshl 1 v2) - 1)) h3 r hr) (fun r5 _ => ?_)
  refine xa_step (xa_aload_n d_X5_forget_27 rfl) ?_
  refine xa_callVV (as := []) (st := []) (M' := mX5_reckon) (d' := 4) rfl xw_566 xw_567 xw_568 xw_569 xw_174 xh_X5_reckon rfl ⟨Nat.le_of_ble_eq_true rfl, Nat.le_of_ble_eq_true rfl⟩ (Nat.le_of_ble_eq_true rfl) rfl d_X5_forget_28 (fun r hr => ct_X5_reckon l G v0 r5 r hr) (fun r6 _ => ?_)
  exact xa_vret d_X5_forget_31 rfl rfl
theorem ct_X5_forget (l : Launch) (G : xa_C) (v0 v1 v2 : Int) (h : xa_H) (r : xa_H) (hr : f_X5_forget v0 v1 v2 h = some r) : xa_CT l G 5 mX5_forget yX5_forget [xR v0, xI v1, xI v2] h (none, r) :=
  xa_met (by decide +kernel) rfl (fun q => by first | rfl | cases q) (Nat.le_of_ble_eq_true rfl) rfl (g_X5_forget l G v0 v1 v2 h) (by rw [hr]; rfl)
abbrev mJ0_isLatin1_aae02 : xa_M := (cJ0_isLatin1_aae02, 1, (some (.boolean)), RJ0, false)
theorem d_J0_isLatin1_aae02_0 : decode mJ0_isLatin1_aae02.1 0 = .ok (.getstatic 38, 3) ∧ 0 + 3 = 3 := ⟨by decide +kernel, rfl⟩
theorem d_J0_isLatin1_aae02_3 : decode mJ0_isLatin1_aae02.1 3 = .ok (.ifCond .eq 14, 3) ∧ 3 + 3 = 6 ∧ ((3 : Nat) : Int) + 14 = ((17 : Nat) : Int) := ⟨by decide +kernel, rfl, rfl⟩
theorem d_J0_isLatin1_aae02_17 : decode mJ0_isLatin1_aae02.1 17 = .ok (.iconst 0, 1) ∧ 17 + 1 = 18 := ⟨by decide +kernel, rfl⟩
theorem d_J0_isLatin1_aae02_18 : decode mJ0_isLatin1_aae02.1 18 = .ok (.ireturn, 1) := by decide +kernel
theorem d_J0_isLatin1_aae02_6 : decode mJ0_isLatin1_aae02.1 6 = .ok (.aload_n 0, 1) ∧ 6 + 1 = 7 := ⟨by decide +kernel, rfl⟩
theorem d_J0_isLatin1_aae02_7 : decode mJ0_isLatin1_aae02.1 7 = .ok (.getfield 15, 3) ∧ 7 + 3 = 10 := ⟨by decide +kernel, rfl⟩
theorem d_J0_isLatin1_aae02_10 : decode mJ0_isLatin1_aae02.1 10 = .ok (.ifCond .ne 7, 3) ∧ 10 + 3 = 13 ∧ ((10 : Nat) : Int) + 7 = ((17 : Nat) : Int) := ⟨by decide +kernel, rfl, rfl⟩
theorem d_J0_isLatin1_aae02_13 : decode mJ0_isLatin1_aae02.1 13 = .ok (.iconst 1, 1) ∧ 13 + 1 = 14 := ⟨by decide +kernel, rfl⟩
theorem d_J0_isLatin1_aae02_14 : decode mJ0_isLatin1_aae02.1 14 = .ok (.goto 4, 3) ∧ ((14 : Nat) : Int) + 4 = ((18 : Nat) : Int) := ⟨by decide +kernel, rfl⟩
set_option maxRecDepth 100000 in
set_option maxHeartbeats 4000000 in
theorem g_J0_isLatin1_aae02 (l : Launch) (G : xa_C) (v0 : Int) (h : xa_H) : xa_G l G 2 mJ0_isLatin1_aae02 (f_J0_isLatin1_aae02 v0 h) (fun r => some (some (xI r), h) : Int → Option xa_O) 0 [some (xR v0)] [] h := by
  unfold f_J0_isLatin1_aae02
  refine xa_gsZ xw_205 d_J0_isLatin1_aae02_0 ?_
  refine xa_if (xa_ifeq d_J0_isLatin1_aae02_3) (fun q1 => ?_) (fun q1 => ?_)
  · refine xa_step (xa_iconst d_J0_isLatin1_aae02_17 xq_i_0) ?_
    exact xa_zret d_J0_isLatin1_aae02_18 rfl (Or.inl rfl) rfl
  · refine xa_step (xa_aload_n d_J0_isLatin1_aae02_6 rfl) ?_
    refine xa_getSc xw_2183 d_J0_isLatin1_aae02_7 (fun x2 _ => ?_)
    refine xa_if (xa_ifne d_J0_isLatin1_aae02_10) (fun q3 => ?_) (fun q3 => ?_)
    · refine xa_step (xa_iconst d_J0_isLatin1_aae02_13 xq_i_1) ?_
      refine xa_step (xa_goto d_J0_isLatin1_aae02_14) ?_
      exact xa_zret d_J0_isLatin1_aae02_18 rfl (Or.inr rfl) rfl
    · refine xa_step (xa_iconst d_J0_isLatin1_aae02_17 xq_i_0) ?_
      exact xa_zret d_J0_isLatin1_aae02_18 rfl (Or.inl rfl) rfl
theorem ct_J0_isLatin1_aae02 (l : Launch) (G : xa_C) (v0 : Int) (h : xa_H) (r : Int) (hr : f_J0_isLatin1_aae02 v0 h = some r) : xa_CT l G 2 mJ0_isLatin1_aae02 yJ0_isLatin1_aae02 [xR v0] h (some (xI r), h) :=
  xa_met (by decide +kernel) rfl (fun q => by first | rfl | cases q) (Nat.le_of_ble_eq_true rfl) rfl (g_J0_isLatin1_aae02 l G v0 h) (by rw [hr]; rfl)
abbrev mJ3_checkIndex_8e157 : xa_M := (cJ3_checkIndex_8e157, 3, (some (.int)), RJ3, false)
theorem d_J3_checkIndex_8e157_0 : decode mJ3_checkIndex_8e157.1 0 = .ok (.iload_n 0, 1) ∧ 0 + 1 = 1 := ⟨by decide +kernel, rfl⟩
theorem d_J3_checkIndex_8e157_1 : decode mJ3_checkIndex_8e157.1 1 = .ok (.ifCond .lt 8, 3) ∧ 1 + 3 = 4 ∧ ((1 : Nat) : Int) + 8 = ((9 : Nat) : Int) := ⟨by decide +kernel, rfl, rfl⟩
theorem d_J3_checkIndex_8e157_9 : decode mJ3_checkIndex_8e157.1 9 = .ok (.aload_n 2, 1) ∧ 9 + 1 = 10 := ⟨by decide +kernel, rfl⟩
theorem d_J3_checkIndex_8e157_10 : decode mJ3_checkIndex_8e157.1 10 = .ok (.iload_n 0, 1) ∧ 10 + 1 = 11 := ⟨by decide +kernel, rfl⟩
theorem d_J3_checkIndex_8e157_11 : decode mJ3_checkIndex_8e157.1 11 = .ok (.iload_n 1, 1) ∧ 11 + 1 = 12 := ⟨by decide +kernel, rfl⟩
set_option maxRecDepth 100000 in
set_option maxHeartbeats 4000000 in
theorem g_J3_checkIndex_8e157_J9 (l : Launch) (G : xa_C) (h : xa_H) : ∀ (v0 v1 v2 : Int) , xa_G l G 2 mJ3_checkIndex_8e157 (f_J3_checkIndex_8e157_J9 v0 v1 v2 h) (fun r => some (some (xI r), h) : Int → Option xa_O) 9 [some (xI v0), some (xI v1), some (xR v2)] [] h := by
  intro v0 v1 v2
  unfold f_J3_checkIndex_8e157_J9
  refine xa_step (xa_aload_n d_J3_checkIndex_8e157_9 rfl) ?_
  refine xa_step (xa_iload_n d_J3_checkIndex_8e157_10 rfl) ?_
  refine xa_step (xa_iload_n d_J3_checkIndex_8e157_11 rfl) ?_
  exact xa_none
theorem d_J3_checkIndex_8e157_4 : decode mJ3_checkIndex_8e157.1 4 = .ok (.iload_n 0, 1) ∧ 4 + 1 = 5 := ⟨by decide +kernel, rfl⟩
theorem d_J3_checkIndex_8e157_5 : decode mJ3_checkIndex_8e157.1 5 = .ok (.iload_n 1, 1) ∧ 5 + 1 = 6 := ⟨by decide +kernel, rfl⟩
theorem d_J3_checkIndex_8e157_6 : decode mJ3_checkIndex_8e157.1 6 = .ok (.if_icmp .lt 10, 3) ∧ 6 + 3 = 9 ∧ ((6 : Nat) : Int) + 10 = ((16 : Nat) : Int) := ⟨by decide +kernel, rfl, rfl⟩
theorem d_J3_checkIndex_8e157_16 : decode mJ3_checkIndex_8e157.1 16 = .ok (.iload_n 0, 1) ∧ 16 + 1 = 17 := ⟨by decide +kernel, rfl⟩
theorem d_J3_checkIndex_8e157_17 : decode mJ3_checkIndex_8e157.1 17 = .ok (.ireturn, 1) := by decide +kernel
set_option maxRecDepth 100000 in
set_option maxHeartbeats 4000000 in
theorem g_J3_checkIndex_8e157 (l : Launch) (G : xa_C) (v0 v1 v2 : Int) (h : xa_H) : xa_G l G 2 mJ3_checkIndex_8e157 (f_J3_checkIndex_8e157 v0 v1 v2 h) (fun r => some (some (xI r), h) : Int → Option xa_O) 0 [some (xI v0), some (xI v1), some (xR v2)] [] h := by
  unfold f_J3_checkIndex_8e157
  refine xa_step (xa_iload_n d_J3_checkIndex_8e157_0 rfl) ?_
  refine xa_if (xa_iflt d_J3_checkIndex_8e157_1) (fun q1 => ?_) (fun q1 => ?_)
  · exact xa_weak (ls' := [some (xI v0), some (xI v1), some (xR v2)]) ⟨rfl, rfl, rfl, trivial⟩ (g_J3_checkIndex_8e157_J9 l G h v0 v1 v2)
  · refine xa_step (xa_iload_n d_J3_checkIndex_8e157_4 rfl) ?_
    refine xa_step (xa_iload_n d_J3_checkIndex_8e157_5 rfl) ?_
    refine xa_if (xa_icmplt d_J3_checkIndex_8e157_6) (fun q2 => ?_) (fun q2 => ?_)
    · refine xa_step (xa_iload_n d_J3_checkIndex_8e157_16 rfl) ?_
      exact xa_iret d_J3_checkIndex_8e157_17 rfl rfl
    · exact xa_weak (ls' := [some (xI v0), some (xI v1), some (xR v2)]) ⟨rfl, rfl, rfl, trivial⟩ (g_J3_checkIndex_8e157_J9 l G h v0 v1 v2)
theorem ct_J3_checkIndex_8e157 (l : Launch) (G : xa_C) (v0 v1 v2 : Int) (h : xa_H) (r : Int) (hr : f_J3_checkIndex_8e157 v0 v1 v2 h = some r) : xa_CT l G 2 mJ3_checkIndex_8e157 yJ3_checkIndex_8e157 [xI v0, xI v1, xR v2] h (some (xI r), h) :=
  xa_met (by decide +kernel) rfl (fun q => by first | rfl | cases q) (Nat.le_of_ble_eq_true rfl) rfl (g_J3_checkIndex_8e157 l G v0 v1 v2 h) (by rw [hr]; rfl)
abbrev mJ0_checkIndex_df160 : xa_M := (cJ0_checkIndex_df160, 2, none, RJ0, false)
theorem d_J0_checkIndex_df160_0 : decode mJ0_checkIndex_df160.1 0 = .ok (.iload_n 0, 1) ∧ 0 + 1 = 1 := ⟨by decide +kernel, rfl⟩
theorem d_J0_checkIndex_df160_1 : decode mJ0_checkIndex_df160.1 1 = .ok (.iload_n 1, 1) ∧ 1 + 1 = 2 := ⟨by decide +kernel, rfl⟩
theorem d_J0_checkIndex_df160_2 : decode mJ0_checkIndex_df160.1 2 = .ok (.getstatic 1053, 3) ∧ 2 + 3 = 5 := ⟨by decide +kernel, rfl⟩
theorem d_J0_checkIndex_df160_5 : decode mJ0_checkIndex_df160.1 5 = .ok (.invokestatic 1059, 3) ∧ 5 + 3 = 8 := ⟨by decide +kernel, rfl⟩
theorem d_J0_checkIndex_df160_8 : decode mJ0_checkIndex_df160.1 8 = .ok (.pop, 1) ∧ 8 + 1 = 9 := ⟨by decide +kernel, rfl⟩
theorem d_J0_checkIndex_df160_9 : decode mJ0_checkIndex_df160.1 9 = .ok (.return_, 1) := by decide +kernel
set_option maxRecDepth 100000 in
set_option maxHeartbeats 4000000 in
theorem g_J0_checkIndex_df160 (l : Launch) (G : xa_C) (v0 v1 : Int) (h : xa_H) : xa_G l G 3 mJ0_checkIndex_df160 (f_J0_checkIndex_df160 v0 v1 h) (fun r => some (none, h) : Unit → Option xa_O) 0 [some (xI v0), some (xI v1)] [] h := by
  unfold f_J0_checkIndex_df160
  refine xa_step (xa_iload_n d_J0_checkIndex_df160_0 rfl) ?_
  refine xa_step (xa_iload_n d_J0_checkIndex_df160_1 rfl) ?_
  refine xa_gsW xw_221 d_J0_checkIndex_df160_2 ?_
  refine xa_callSi (as := [xI v0, xI v1, xR ((-5))]) (st := []) (M' := mJ3_checkIndex_8e157) (d' := 2) xw_223 xw_224 xw_225 xw_165 xh_J3_checkIndex_8e157 rfl ⟨Nat.le_of_ble_eq_true rfl, Nat.le_of_ble_eq_true rfl⟩ (Nat.le_of_ble_eq_true rfl) rfl d_J0_checkIndex_df160_5 (fun r hr => ct_J3_checkIndex_8e157 l G v0 v1 ((-5)) h r hr) (fun r1 _ => ?_)
  refine xa_step (xa_pop d_J0_checkIndex_df160_8) ?_
  exact xa_vret d_J0_checkIndex_df160_9 rfl rfl
theorem ct_J0_checkIndex_df160 (l : Launch) (G : xa_C) (v0 v1 : Int) (h : xa_H) (r : Unit) (hr : f_J0_checkIndex_df160 v0 v1 h = some r) : xa_CT l G 3 mJ0_checkIndex_df160 yJ0_checkIndex_df160 [xI v0, xI v1] h (none, h) :=
  xa_met (by decide +kernel) rfl (fun q => by first | rfl | cases q) (Nat.le_of_ble_eq_true rfl) rfl (g_J0_checkIndex_df160 l G v0 v1 h) (by rw [hr]; rfl)
abbrev mJ1_charAt_3b067 : xa_M := (cJ1_charAt_3b067, 2, (some (.char)), RJ1, false)
theorem d_J1_charAt_3b067_0 : decode mJ1_charAt_3b067.1 0 = .ok (.iload_n 1, 1) ∧ 0 + 1 = 1 := ⟨by decide +kernel, rfl⟩
theorem d_J1_charAt_3b067_1 : decode mJ1_charAt_3b067.1 1 = .ok (.aload_n 0, 1) ∧ 1 + 1 = 2 := ⟨by decide +kernel, rfl⟩
theorem d_J1_charAt_3b067_2 : decode mJ1_charAt_3b067.1 2 = .ok (.arraylength, 1) ∧ 2 + 1 = 3 := ⟨by decide +kernel, rfl⟩
theorem d_J1_charAt_3b067_3 : decode mJ1_charAt_3b067.1 3 = .ok (.invokestatic 9, 3) ∧ 3 + 3 = 6 := ⟨by decide +kernel, rfl⟩
theorem d_J1_charAt_3b067_6 : decode mJ1_charAt_3b067.1 6 = .ok (.aload_n 0, 1) ∧ 6 + 1 = 7 := ⟨by decide +kernel, rfl⟩
theorem d_J1_charAt_3b067_7 : decode mJ1_charAt_3b067.1 7 = .ok (.iload_n 1, 1) ∧ 7 + 1 = 8 := ⟨by decide +kernel, rfl⟩
theorem d_J1_charAt_3b067_8 : decode mJ1_charAt_3b067.1 8 = .ok (.baload, 1) ∧ 8 + 1 = 9 := ⟨by decide +kernel, rfl⟩
theorem d_J1_charAt_3b067_9 : decode mJ1_charAt_3b067.1 9 = .ok (.sipush 255, 3) ∧ 9 + 3 = 12 := ⟨by decide +kernel, rfl⟩
theorem d_J1_charAt_3b067_12 : decode mJ1_charAt_3b067.1 12 = .ok (.iand, 1) ∧ 12 + 1 = 13 := ⟨by decide +kernel, rfl⟩
theorem d_J1_charAt_3b067_13 : decode mJ1_charAt_3b067.1 13 = .ok (.i2c, 1) ∧ 13 + 1 = 14 := ⟨by decide +kernel, rfl⟩
theorem d_J1_charAt_3b067_14 : decode mJ1_charAt_3b067.1 14 = .ok (.ireturn, 1) := by decide +kernel
set_option maxRecDepth 100000 in
set_option maxHeartbeats 4000000 in
theorem g_J1_charAt_3b067 (l : Launch) (G : xa_C) (v0 v1 : Int) (h : xa_H) : xa_G l G 4 mJ1_charAt_3b067 (f_J1_charAt_3b067 v0 v1 h) (fun r => some (some (xI r), h) : Int → Option xa_O) 0 [some (xR v0), some (xI v1)] [] h := by
  unfold f_J1_charAt_3b067
  refine xa_step (xa_iload_n d_J1_charAt_3b067_0 rfl) ?_
  refine xa_step (xa_aload_n d_J1_charAt_3b067_1 rfl) ?_
  refine xa_lenS d_J1_charAt_3b067_2 (fun x1 _ => ?_)
  refine xa_callSv (as := [xI v1, xI x1]) (st := []) (M' := mJ0_checkIndex_df160) (d' := 3) xw_218 xw_219 xw_220 xw_163 xh_J0_checkIndex_df160 rfl ⟨Nat.le_of_ble_eq_true rfl, Nat.le_of_ble_eq_true rfl⟩ (Nat.le_of_ble_eq_true rfl) rfl d_J1_charAt_3b067_3 (fun r hr => ct_J0_checkIndex_df160 l G v1 x1 h r hr) (fun r2 _ => ?_)
  refine xa_step (xa_aload_n d_J1_charAt_3b067_6 rfl) ?_
  refine xa_step (xa_iload_n d_J1_charAt_3b067_7 rfl) ?_
  refine xa_baldS d_J1_charAt_3b067_8 (fun x3 _ => ?_)
  refine xa_step (xa_sipush d_J1_charAt_3b067_9 xq_s_255) ?_
  refine xa_step (xa_iand d_J1_charAt_3b067_12) ?_
  refine xa_step (xa_i2c d_J1_charAt_3b067_13) ?_
  refine xa_chg (fun q4 => ?_)
  exact xa_nret d_J1_charAt_3b067_14 rfl (xa_cn q4) rfl
theorem ct_J1_charAt_3b067 (l : Launch) (G : xa_C) (v0 v1 : Int) (h : xa_H) (r : Int) (hr : f_J1_charAt_3b067 v0 v1 h = some r) : xa_CT l G 4 mJ1_charAt_3b067 yJ1_charAt_3b067 [xR v0, xI v1] h (some (xI r), h) :=
  xa_met (by decide +kernel) rfl (fun q => by first | rfl | cases q) (Nat.le_of_ble_eq_true rfl) rfl (g_J1_charAt_3b067 l G v0 v1 h) (by rw [hr]; rfl)
abbrev mJ0_charAt_5068e : xa_M := (cJ0_charAt_5068e, 2, (some (.char)), RJ0, false)
theorem d_J0_charAt_5068e_0 : decode mJ0_charAt_5068e.1 0 = .ok (.aload_n 0, 1) ∧ 0 + 1 = 1 := ⟨by decide +kernel, rfl⟩
theorem d_J0_charAt_5068e_1 : decode mJ0_charAt_5068e.1 1 = .ok (.invokevirtual 492, 3) ∧ 1 + 3 = 4 := ⟨by decide +kernel, rfl⟩
theorem d_J0_charAt_5068e_4 : decode mJ0_charAt_5068e.1 4 = .ok (.ifCond .eq 12, 3) ∧ 4 + 3 = 7 ∧ ((4 : Nat) : Int) + 12 = ((16 : Nat) : Int) := ⟨by decide +kernel, rfl, rfl⟩
theorem d_J0_charAt_5068e_16 : decode mJ0_charAt_5068e.1 16 = .ok (.aload_n 0, 1) ∧ 16 + 1 = 17 := ⟨by decide +kernel, rfl⟩
theorem d_J0_charAt_5068e_17 : decode mJ0_charAt_5068e.1 17 = .ok (.getfield 9, 3) ∧ 17 + 3 = 20 := ⟨by decide +kernel, rfl⟩
theorem d_J0_charAt_5068e_20 : decode mJ0_charAt_5068e.1 20 = .ok (.iload_n 1, 1) ∧ 20 + 1 = 21 := ⟨by decide +kernel, rfl⟩
theorem d_J0_charAt_5068e_7 : decode mJ0_charAt_5068e.1 7 = .ok (.aload_n 0, 1) ∧ 7 + 1 = 8 := ⟨by decide +kernel, rfl⟩
theorem d_J0_charAt_5068e_8 : decode mJ0_charAt_5068e.1 8 = .ok (.getfield 9, 3) ∧ 8 + 3 = 11 := ⟨by decide +kernel, rfl⟩
theorem d_J0_charAt_5068e_11 : decode mJ0_charAt_5068e.1 11 = .ok (.iload_n 1, 1) ∧ 11 + 1 = 12 := ⟨by decide +kernel, rfl⟩
theorem d_J0_charAt_5068e_12 : decode mJ0_charAt_5068e.1 12 = .ok (.invokestatic 495, 3) ∧ 12 + 3 = 15 := ⟨by decide +kernel, rfl⟩
theorem d_J0_charAt_5068e_15 : decode mJ0_charAt_5068e.1 15 = .ok (.ireturn, 1) := by decide +kernel
set_option maxRecDepth 100000 in
set_option maxHeartbeats 4000000 in
theorem g_J0_charAt_5068e (l : Launch) (G : xa_C) (v0 v1 : Int) (h : xa_H) : xa_G l G 5 mJ0_charAt_5068e (f_J0_charAt_5068e v0 v1 h) (fun r => some (some (xI r), h) : Int → Option xa_O) 0 [some (xR v0), some (xI v1)] [] h := by
  unfold f_J0_charAt_5068e
  refine xa_step (xa_aload_n d_J0_charAt_5068e_0 rfl) ?_
  refine xa_callTi (as := []) (st := []) (M' := mJ0_isLatin1_aae02) (d' := 2) xw_211 xw_212 xw_213 xw_214 xw_163 xh_J0_isLatin1_aae02 rfl ⟨Nat.le_of_ble_eq_true rfl, Nat.le_of_ble_eq_true rfl⟩ (Nat.le_of_ble_eq_true rfl) rfl d_J0_charAt_5068e_1 (fun r hr => ct_J0_isLatin1_aae02 l G v0 h r hr) (fun r1 _ => ?_)
  refine xa_if (xa_ifeq d_J0_charAt_5068e_4) (fun q2 => ?_) (fun q2 => ?_)
  · refine xa_step (xa_aload_n d_J0_charAt_5068e_16 rfl) ?_
    refine xa_getSv xw_2182 d_J0_charAt_5068e_17 (fun x3 _ => ?_)
    refine xa_step (xa_iload_n d_J0_charAt_5068e_20 rfl) ?_
    exact xa_none
  · refine xa_step (xa_aload_n d_J0_charAt_5068e_7 rfl) ?_
    refine xa_getSv xw_2182 d_J0_charAt_5068e_8 (fun x4 _ => ?_)
    refine xa_step (xa_iload_n d_J0_charAt_5068e_11 rfl) ?_
    refine xa_callSi (as := [xR x4, xI v1]) (st := []) (M' := mJ1_charAt_3b067) (d' := 4) xw_215 xw_216 xw_217 xw_164 xh_J1_charAt_3b067 rfl ⟨Nat.le_of_ble_eq_true rfl, Nat.le_of_ble_eq_true rfl⟩ (Nat.le_of_ble_eq_true rfl) rfl d_J0_charAt_5068e_12 (fun r hr => ct_J1_charAt_3b067 l G x4 v1 h r hr) (fun r5 _ => ?_)
    refine xa_chg (fun q6 => ?_)
    exact xa_nret d_J0_charAt_5068e_15 rfl (xa_cn q6) rfl
theorem ct_J0_charAt_5068e (l : Launch) (G : xa_C) (v0 v1 : Int) (h : xa_H) (r : Int) (hr : f_J0_charAt_5068e v0 v1 h = some r) : xa_CT l G 5 mJ0_charAt_5068e yJ0_charAt_5068e [xR v0, xI v1] h (some (xI r), h) :=
  xa_met (by decide +kernel) rfl (fun q => by first | rfl | cases q) (Nat.le_of_ble_eq_true rfl) rfl (g_J0_charAt_5068e l G v0 v1 h) (by rw [hr]; rfl)
abbrev mJ0_coder_7d493 : xa_M := (cJ0_coder_7d493, 1, (some (.byte)), RJ0, false)
theorem d_J0_coder_7d493_0 : decode mJ0_coder_7d493.1 0 = .ok (.getstatic 38, 3) ∧ 0 + 3 = 3 := ⟨by decide +kernel, rfl⟩
theorem d_J0_coder_7d493_3 : decode mJ0_coder_7d493.1 3 = .ok (.ifCond .eq 10, 3) ∧ 3 + 3 = 6 ∧ ((3 : Nat) : Int) + 10 = ((13 : Nat) : Int) := ⟨by decide +kernel, rfl, rfl⟩
theorem d_J0_coder_7d493_13 : decode mJ0_coder_7d493.1 13 = .ok (.iconst 1, 1) ∧ 13 + 1 = 14 := ⟨by decide +kernel, rfl⟩
theorem d_J0_coder_7d493_14 : decode mJ0_coder_7d493.1 14 = .ok (.ireturn, 1) := by decide +kernel
theorem d_J0_coder_7d493_6 : decode mJ0_coder_7d493.1 6 = .ok (.aload_n 0, 1) ∧ 6 + 1 = 7 := ⟨by decide +kernel, rfl⟩
theorem d_J0_coder_7d493_7 : decode mJ0_coder_7d493.1 7 = .ok (.getfield 15, 3) ∧ 7 + 3 = 10 := ⟨by decide +kernel, rfl⟩
theorem d_J0_coder_7d493_10 : decode mJ0_coder_7d493.1 10 = .ok (.goto 4, 3) ∧ ((10 : Nat) : Int) + 4 = ((14 : Nat) : Int) := ⟨by decide +kernel, rfl⟩
set_option maxRecDepth 100000 in
set_option maxHeartbeats 4000000 in
theorem g_J0_coder_7d493 (l : Launch) (G : xa_C) (v0 : Int) (h : xa_H) : xa_G l G 2 mJ0_coder_7d493 (f_J0_coder_7d493 v0 h) (fun r => some (some (xI r), h) : Int → Option xa_O) 0 [some (xR v0)] [] h := by
  unfold f_J0_coder_7d493
  refine xa_gsZ xw_205 d_J0_coder_7d493_0 ?_
  refine xa_if (xa_ifeq d_J0_coder_7d493_3) (fun q1 => ?_) (fun q1 => ?_)
  · refine xa_step (xa_iconst d_J0_coder_7d493_13 xq_i_1) ?_
    refine xa_btg (fun q2 => ?_)
    exact xa_nret d_J0_coder_7d493_14 rfl (xa_bty q2) rfl
  · refine xa_step (xa_aload_n d_J0_coder_7d493_6 rfl) ?_
    refine xa_getSc xw_2183 d_J0_coder_7d493_7 (fun x3 _ => ?_)
    refine xa_step (xa_goto d_J0_coder_7d493_10) ?_
    refine xa_btg (fun q4 => ?_)
    exact xa_nret d_J0_coder_7d493_14 rfl (xa_bty q4) rfl
theorem ct_J0_coder_7d493 (l : Launch) (G : xa_C) (v0 : Int) (h : xa_H) (r : Int) (hr : f_J0_coder_7d493 v0 h = some r) : xa_CT l G 2 mJ0_coder_7d493 yJ0_coder_7d493 [xR v0] h (some (xI r), h) :=
  xa_met (by decide +kernel) rfl (fun q => by first | rfl | cases q) (Nat.le_of_ble_eq_true rfl) rfl (g_J0_coder_7d493 l G v0 h) (by rw [hr]; rfl)
abbrev mJ0_length_8abf5 : xa_M := (cJ0_length_8abf5, 1, (some (.int)), RJ0, false)
theorem d_J0_length_8abf5_0 : decode mJ0_length_8abf5.1 0 = .ok (.aload_n 0, 1) ∧ 0 + 1 = 1 := ⟨by decide +kernel, rfl⟩
theorem d_J0_length_8abf5_1 : decode mJ0_length_8abf5.1 1 = .ok (.getfield 9, 3) ∧ 1 + 3 = 4 := ⟨by decide +kernel, rfl⟩
theorem d_J0_length_8abf5_4 : decode mJ0_length_8abf5.1 4 = .ok (.arraylength, 1) ∧ 4 + 1 = 5 := ⟨by decide +kernel, rfl⟩
theorem d_J0_length_8abf5_5 : decode mJ0_length_8abf5.1 5 = .ok (.aload_n 0, 1) ∧ 5 + 1 = 6 := ⟨by decide +kernel, rfl⟩
theorem d_J0_length_8abf5_6 : decode mJ0_length_8abf5.1 6 = .ok (.invokevirtual 335, 3) ∧ 6 + 3 = 9 := ⟨by decide +kernel, rfl⟩
theorem d_J0_length_8abf5_9 : decode mJ0_length_8abf5.1 9 = .ok (.ishr, 1) ∧ 9 + 1 = 10 := ⟨by decide +kernel, rfl⟩
theorem d_J0_length_8abf5_10 : decode mJ0_length_8abf5.1 10 = .ok (.ireturn, 1) := by decide +kernel
set_option maxRecDepth 100000 in
set_option maxHeartbeats 4000000 in
theorem g_J0_length_8abf5 (l : Launch) (G : xa_C) (v0 : Int) (h : xa_H) : xa_G l G 3 mJ0_length_8abf5 (f_J0_length_8abf5 v0 h) (fun r => some (some (xI r), h) : Int → Option xa_O) 0 [some (xR v0)] [] h := by
  unfold f_J0_length_8abf5
  refine xa_step (xa_aload_n d_J0_length_8abf5_0 rfl) ?_
  refine xa_getSv xw_2182 d_J0_length_8abf5_1 (fun x1 _ => ?_)
  refine xa_lenS d_J0_length_8abf5_4 (fun x2 _ => ?_)
  refine xa_step (xa_aload_n d_J0_length_8abf5_5 rfl) ?_
  refine xa_callTi (as := []) (st := [xI x2]) (M' := mJ0_coder_7d493) (d' := 2) xw_201 xw_202 xw_203 xw_204 xw_163 xh_J0_coder_7d493 rfl ⟨Nat.le_of_ble_eq_true rfl, Nat.le_of_ble_eq_true rfl⟩ (Nat.le_of_ble_eq_true rfl) rfl d_J0_length_8abf5_6 (fun r hr => ct_J0_coder_7d493 l G v0 h r hr) (fun r3 _ => ?_)
  refine xa_step (xa_ishr d_J0_length_8abf5_9) ?_
  exact xa_iret d_J0_length_8abf5_10 rfl rfl
theorem ct_J0_length_8abf5 (l : Launch) (G : xa_C) (v0 : Int) (h : xa_H) (r : Int) (hr : f_J0_length_8abf5 v0 h = some r) : xa_CT l G 3 mJ0_length_8abf5 yJ0_length_8abf5 [xR v0] h (some (xI r), h) :=
  xa_met (by decide +kernel) rfl (fun q => by first | rfl | cases q) (Nat.le_of_ble_eq_true rfl) rfl (g_J0_length_8abf5 l G v0 h) (by rw [hr]; rfl)
abbrev mX6_init : xa_M := (cX6_init, 6, none, RX6, true)
theorem d_X6_init_0 : decode mX6_init.1 0 = .ok (.aload_n 0, 1) ∧ 0 + 1 = 1 := ⟨by decide +kernel, rfl⟩
theorem d_X6_init_1 : decode mX6_init.1 1 = .ok (.invokespecial 3, 3) ∧ 1 + 3 = 4 := ⟨by decide +kernel, rfl⟩
theorem d_X6_init_4 : decode mX6_init.1 4 = .ok (.aload_n 0, 1) ∧ 4 + 1 = 5 := ⟨by decide +kernel, rfl⟩
theorem d_X6_init_5 : decode mX6_init.1 5 = .ok (.bipush 29, 2) ∧ 5 + 2 = 7 := ⟨by decide +kernel, rfl⟩
theorem d_X6_init_7 : decode mX6_init.1 7 = .ok (.newarray .int, 2) ∧ 7 + 2 = 9 := ⟨by decide +kernel, rfl⟩
theorem d_X6_init_9 : decode mX6_init.1 9 = .ok (.putfield 9, 3) ∧ 9 + 3 = 12 := ⟨by decide +kernel, rfl⟩
theorem d_X6_init_12 : decode mX6_init.1 12 = .ok (.aload_n 0, 1) ∧ 12 + 1 = 13 := ⟨by decide +kernel, rfl⟩
theorem d_X6_init_13 : decode mX6_init.1 13 = .ok (.aload_n 1, 1) ∧ 13 + 1 = 14 := ⟨by decide +kernel, rfl⟩
theorem d_X6_init_14 : decode mX6_init.1 14 = .ok (.putfield 15, 3) ∧ 14 + 3 = 17 := ⟨by decide +kernel, rfl⟩
theorem d_X6_init_17 : decode mX6_init.1 17 = .ok (.aload_n 0, 1) ∧ 17 + 1 = 18 := ⟨by decide +kernel, rfl⟩
theorem d_X6_init_18 : decode mX6_init.1 18 = .ok (.iconst 0, 1) ∧ 18 + 1 = 19 := ⟨by decide +kernel, rfl⟩
theorem d_X6_init_19 : decode mX6_init.1 19 = .ok (.putfield 19, 3) ∧ 19 + 3 = 22 := ⟨by decide +kernel, rfl⟩
theorem d_X6_init_22 : decode mX6_init.1 22 = .ok (.aload_n 0, 1) ∧ 22 + 1 = 23 := ⟨by decide +kernel, rfl⟩
theorem d_X6_init_23 : decode mX6_init.1 23 = .ok (.iconst (-1), 1) ∧ 23 + 1 = 24 := ⟨by decide +kernel, rfl⟩
theorem d_X6_init_24 : decode mX6_init.1 24 = .ok (.putfield 23, 3) ∧ 24 + 3 = 27 := ⟨by decide +kernel, rfl⟩
theorem d_X6_init_27 : decode mX6_init.1 27 = .ok (.iconst 0, 1) ∧ 27 + 1 = 28 := ⟨by decide +kernel, rfl⟩
theorem d_X6_init_28 : decode mX6_init.1 28 = .ok (.istore_n 2, 1) ∧ 28 + 1 = 29 := ⟨by decide +kernel, rfl⟩
theorem d_X6_init_29 : decode mX6_init.1 29 = .ok (.iconst 0, 1) ∧ 29 + 1 = 30 := ⟨by decide +kernel, rfl⟩
theorem d_X6_init_30 : decode mX6_init.1 30 = .ok (.istore_n 3, 1) ∧ 30 + 1 = 31 := ⟨by decide +kernel, rfl⟩
theorem d_X6_init_31 : decode mX6_init.1 31 = .ok (.iconst 0, 1) ∧ 31 + 1 = 32 := ⟨by decide +kernel, rfl⟩
theorem d_X6_init_32 : decode mX6_init.1 32 = .ok (.istore 4, 2) ∧ 32 + 2 = 34 := ⟨by decide +kernel, rfl⟩
theorem d_X6_init_34 : decode mX6_init.1 34 = .ok (.iload 4, 2) ∧ 34 + 2 = 36 := ⟨by decide +kernel, rfl⟩
theorem d_X6_init_36 : decode mX6_init.1 36 = .ok (.ldc 26, 2) ∧ 36 + 2 = 38 := ⟨by decide +kernel, rfl⟩
theorem d_X6_init_38 : decode mX6_init.1 38 = .ok (.invokevirtual 28, 3) ∧ 38 + 3 = 41 := ⟨by decide +kernel, rfl⟩
theorem d_X6_init_41 : decode mX6_init.1 41 = .ok (.if_icmp .ge 71, 3) ∧ 41 + 3 = 44 ∧ ((41 : Nat) : Int) + 71 = ((112 : Nat) : Int) := ⟨by decide +kernel, rfl, rfl⟩
theorem d_X6_init_44 : decode mX6_init.1 44 = .ok (.ldc 26, 2) ∧ 44 + 2 = 46 := ⟨by decide +kernel, rfl⟩
theorem d_X6_init_46 : decode mX6_init.1 46 = .ok (.iload 4, 2) ∧ 46 + 2 = 48 := ⟨by decide +kernel, rfl⟩
theorem d_X6_init_48 : decode mX6_init.1 48 = .ok (.invokevirtual 34, 3) ∧ 48 + 3 = 51 := ⟨by decide +kernel, rfl⟩
theorem d_X6_init_51 : decode mX6_init.1 51 = .ok (.istore 5, 2) ∧ 51 + 2 = 53 := ⟨by decide +kernel, rfl⟩
theorem d_X6_init_53 : decode mX6_init.1 53 = .ok (.iload 5, 2) ∧ 53 + 2 = 55 := ⟨by decide +kernel, rfl⟩
theorem d_X6_init_55 : decode mX6_init.1 55 = .ok (.bipush 32, 2) ∧ 55 + 2 = 57 := ⟨by decide +kernel, rfl⟩
theorem d_X6_init_57 : decode mX6_init.1 57 = .ok (.if_icmp .ne 11, 3) ∧ 57 + 3 = 60 ∧ ((57 : Nat) : Int) + 11 = ((68 : Nat) : Int) := ⟨by decide +kernel, rfl, rfl⟩
theorem d_X6_init_60 : decode mX6_init.1 60 = .ok (.iinc 2 1, 3) ∧ 60 + 3 = 63 := ⟨by decide +kernel, rfl⟩
theorem d_X6_init_63 : decode mX6_init.1 63 = .ok (.iconst 0, 1) ∧ 63 + 1 = 64 := ⟨by decide +kernel, rfl⟩
theorem d_X6_init_64 : decode mX6_init.1 64 = .ok (.istore_n 3, 1) ∧ 64 + 1 = 65 := ⟨by decide +kernel, rfl⟩
theorem d_X6_init_65 : decode mX6_init.1 65 = .ok (.goto 41, 3) ∧ ((65 : Nat) : Int) + 41 = ((106 : Nat) : Int) := ⟨by decide +kernel, rfl⟩
theorem d_X6_init_106 : decode mX6_init.1 106 = .ok (.iinc 4 1, 3) ∧ 106 + 3 = 109 := ⟨by decide +kernel, rfl⟩
theorem d_X6_init_109 : decode mX6_init.1 109 = .ok (.goto (-75), 3) ∧ ((109 : Nat) : Int) + (-75) = ((34 : Nat) : Int) := ⟨by decide +kernel, rfl⟩
theorem d_X6_init_68 : decode mX6_init.1 68 = .ok (.iload_n 2, 1) ∧ 68 + 1 = 69 := ⟨by decide +kernel, rfl⟩
theorem d_X6_init_69 : decode mX6_init.1 69 = .ok (.bipush 29, 2) ∧ 69 + 2 = 71 := ⟨by decide +kernel, rfl⟩
theorem d_X6_init_71 : decode mX6_init.1 71 = .ok (.if_icmp .ge 35, 3) ∧ 71 + 3 = 74 ∧ ((71 : Nat) : Int) + 35 = ((106 : Nat) : Int) := ⟨by decide +kernel, rfl, rfl⟩
theorem d_X6_init_74 : decode mX6_init.1 74 = .ok (.iload_n 3, 1) ∧ 74 + 1 = 75 := ⟨by decide +kernel, rfl⟩
theorem d_X6_init_75 : decode mX6_init.1 75 = .ok (.bipush 6, 2) ∧ 75 + 2 = 77 := ⟨by decide +kernel, rfl⟩
theorem d_X6_init_77 : decode mX6_init.1 77 = .ok (.if_icmp .ge 29, 3) ∧ 77 + 3 = 80 ∧ ((77 : Nat) : Int) + 29 = ((106 : Nat) : Int) := ⟨by decide +kernel, rfl, rfl⟩
theorem d_X6_init_80 : decode mX6_init.1 80 = .ok (.aload_n 0, 1) ∧ 80 + 1 = 81 := ⟨by decide +kernel, rfl⟩
theorem d_X6_init_81 : decode mX6_init.1 81 = .ok (.getfield 9, 3) ∧ 81 + 3 = 84 := ⟨by decide +kernel, rfl⟩
theorem d_X6_init_84 : decode mX6_init.1 84 = .ok (.iload_n 2, 1) ∧ 84 + 1 = 85 := ⟨by decide +kernel, rfl⟩
theorem d_X6_init_85 : decode mX6_init.1 85 = .ok (.dup2, 1) ∧ 85 + 1 = 86 := ⟨by decide +kernel, rfl⟩
theorem d_X6_init_86 : decode mX6_init.1 86 = .ok (.iaload, 1) ∧ 86 + 1 = 87 := ⟨by decide +kernel, rfl⟩
theorem d_X6_init_87 : decode mX6_init.1 87 = .ok (.iload 5, 2) ∧ 87 + 2 = 89 := ⟨by decide +kernel, rfl⟩
theorem d_X6_init_89 : decode mX6_init.1 89 = .ok (.bipush 97, 2) ∧ 89 + 2 = 91 := ⟨by decide +kernel, rfl⟩
theorem d_X6_init_91 : decode mX6_init.1 91 = .ok (.isub, 1) ∧ 91 + 1 = 92 := ⟨by decide +kernel, rfl⟩
theorem d_X6_init_92 : decode mX6_init.1 92 = .ok (.iconst 1, 1) ∧ 92 + 1 = 93 := ⟨by decide +kernel, rfl⟩
theorem d_X6_init_93 : decode mX6_init.1 93 = .ok (.iadd, 1) ∧ 93 + 1 = 94 := ⟨by decide +kernel, rfl⟩
theorem d_X6_init_94 : decode mX6_init.1 94 = .ok (.bipush 25, 2) ∧ 94 + 2 = 96 := ⟨by decide +kernel, rfl⟩
theorem d_X6_init_96 : decode mX6_init.1 96 = .ok (.iconst 5, 1) ∧ 96 + 1 = 97 := ⟨by decide +kernel, rfl⟩
theorem d_X6_init_97 : decode mX6_init.1 97 = .ok (.iload_n 3, 1) ∧ 97 + 1 = 98 := ⟨by decide +kernel, rfl⟩
theorem d_X6_init_98 : decode mX6_init.1 98 = .ok (.imul, 1) ∧ 98 + 1 = 99 := ⟨by decide +kernel, rfl⟩
theorem d_X6_init_99 : decode mX6_init.1 99 = .ok (.isub, 1) ∧ 99 + 1 = 100 := ⟨by decide +kernel, rfl⟩
theorem d_X6_init_100 : decode mX6_init.1 100 = .ok (.ishl, 1) ∧ 100 + 1 = 101 := ⟨by decide +kernel, rfl⟩
theorem d_X6_init_101 : decode mX6_init.1 101 = .ok (.ior, 1) ∧ 101 + 1 = 102 := ⟨by decide +kernel, rfl⟩
theorem d_X6_init_102 : decode mX6_init.1 102 = .ok (.iastore, 1) ∧ 102 + 1 = 103 := ⟨by decide +kernel, rfl⟩
theorem d_X6_init_103 : decode mX6_init.1 103 = .ok (.iinc 3 1, 3) ∧ 103 + 3 = 106 := ⟨by decide +kernel, rfl⟩
set_option maxRecDepth 100000 in
set_option maxHeartbeats 4000000 in
theorem g_X6_init_L34 (l : Launch) (G : xa_C) (c0 : Int) (K : (Int × Int × Int × xa_H) ⊕ (xa_H) → Option xa_O) (hb : ∀ (v2 : Int) (v3 : Int) (v4 : Int) (h : xa_H), xa_G l G 6 mX6_init (some (Sum.inl ((v2, v3, v4, h)))) K 34 [some (xR c0), none, some (xI v2), some (xI v3), some (xI v4), none] [] h) (hx : ∀ (h : xa_H), xa_G l G 6 mX6_init (some (Sum.inr h)) K 112 [none, none, none, none, none, none] [] h) : ∀ (v2 : Int) (v3 : Int) (v4 : Int) (h : xa_H), xa_G l G 6 mX6_init (f_X6_init_L34 c0 v2 v3 v4 h) K 34 [some (xR c0), none, some (xI v2), some (xI v3), some (xI v4), none] [] h := by
  intro v2 v3 v4 h
  unfold f_X6_init_L34
  refine xa_step (xa_iload d_X6_init_34 rfl) ?_
  refine xa_step (xa_ldcS rfl d_X6_init_36) ?_
  refine xa_callTi (as := []) (st := [xI v4]) (M' := mJ0_length_8abf5) (d' := 3) xw_197 xw_198 xw_199 xw_200 xw_163 xh_J0_length_8abf5 rfl ⟨Nat.le_of_ble_eq_true rfl, Nat.le_of_ble_eq_true rfl⟩ (Nat.le_of_ble_eq_true rfl) rfl d_X6_init_38 (fun r hr => ct_J0_length_8abf5 l G ((-3)) h r hr) (fun r6 _ => ?_)
  refine xa_if (xa_icmpge d_X6_init_41) (fun q7 => ?_) (fun q7 => ?_)
  · refine xa_step (xa_ldcS rfl d_X6_init_44) ?_
    refine xa_step (xa_iload d_X6_init_46 rfl) ?_
    refine xa_callTi (as := [xI v4]) (st := []) (M' := mJ0_charAt_5068e) (d' := 5) xw_207 xw_208 xw_209 xw_210 xw_163 xh_J0_charAt_5068e rfl ⟨Nat.le_of_ble_eq_true rfl, Nat.le_of_ble_eq_true rfl⟩ (Nat.le_of_ble_eq_true rfl) rfl d_X6_init_48 (fun r hr => ct_J0_charAt_5068e l G ((-3)) v4 h r hr) (fun r8 _ => ?_)
    refine xa_step (xa_istore (ls' := [some (xR c0), none, some (xI v2), some (xI v3), some (xI v4), some (xI r8)]) d_X6_init_51 (by decide) rfl) ?_
    refine xa_step (xa_iload d_X6_init_53 rfl) ?_
    refine xa_step (xa_bipush d_X6_init_55 xq_b_32) ?_
    refine xa_if (xa_icmpne d_X6_init_57) (fun q9 => ?_) (fun q9 => ?_)
    · refine xa_step (xa_iinc (ls' := [some (xR c0), none, some (xI (w32 (v2 + 1))), some (xI v3), some (xI v4), some (xI r8)]) d_X6_init_60 xq_i_1 rfl (by decide) rfl) ?_
      refine xa_step (xa_iconst d_X6_init_63 xq_i_0) ?_
      refine xa_step (xa_istore_n (ls' := [some (xR c0), none, some (xI (w32 (v2 + 1))), some (xI 0), some (xI v4), some (xI r8)]) d_X6_init_64 (by decide) rfl) ?_
      refine xa_step (xa_goto d_X6_init_65) ?_
      refine xa_step (xa_iinc (ls' := [some (xR c0), none, some (xI (w32 (v2 + 1))), some (xI 0), some (xI (w32 (v4 + 1))), some (xI r8)]) d_X6_init_106 xq_i_1 rfl (by decide) rfl) ?_
      refine xa_step (xa_goto d_X6_init_109) ?_
      exact xa_weak (ls' := [some (xR c0), none, some (xI (w32 (v2 + 1))), some (xI 0), some (xI (w32 (v4 + 1))), none]) ⟨rfl, rfl, rfl, rfl, trivial⟩ (hb (w32 (v2 + 1)) 0 (w32 (v4 + 1)) h)
    · refine xa_step (xa_iload_n d_X6_init_68 rfl) ?_
      refine xa_step (xa_bipush d_X6_init_69 xq_b_29) ?_
      refine xa_if (xa_icmpge d_X6_init_71) (fun q10 => ?_) (fun q10 => ?_)
      · refine xa_step (xa_iload_n d_X6_init_74 rfl) ?_
        refine xa_step (xa_bipush d_X6_init_75 xq_b_6) ?_
        refine xa_if (xa_icmpge d_X6_init_77) (fun q11 => ?_) (fun q11 => ?_)
        · refine xa_step (xa_aload_n d_X6_init_80 rfl) ?_
          refine xa_getf xR xc_6 (by decide) (fun _ => rfl) xw_246 rfl d_X6_init_81 (fun x12 _ => ?_)
          refine xa_step (xa_iload_n d_X6_init_84 rfl) ?_
          refine xa_step (xa_dup2 d_X6_init_85 (xa_tI _) (xa_tR _)) ?_
          refine xa_iaload d_X6_init_86 (fun x13 _ => ?_)
          refine xa_step (xa_iload d_X6_init_87 rfl) ?_
          refine xa_step (xa_bipush d_X6_init_89 xq_b_97) ?_
          refine xa_step (xa_isub d_X6_init_91) ?_
          refine xa_step (xa_iconst d_X6_init_92 xq_i_1) ?_
          refine xa_step (xa_iadd d_X6_init_93) ?_
          refine xa_step (xa_bipush d_X6_init_94 xq_b_25) ?_
          refine xa_step (xa_iconst d_X6_init_96 xq_i_5) ?_
          refine xa_step (xa_iload_n d_X6_init_97 rfl) ?_
          refine xa_step (xa_imul d_X6_init_98) ?_
          refine xa_step (xa_isub d_X6_init_99) ?_
          refine xa_step (xa_ishl d_X6_init_100) ?_
          refine xa_step (xa_ior d_X6_init_101) ?_
          refine xa_iastore2 d_X6_init_102 (fun h14 _ => ?_)
          refine xa_step (xa_iinc (ls' := [some (xR c0), none, some (xI v2), some (xI (w32 (v3 + 1))), some (xI v4), some (xI r8)]) d_X6_init_103 xq_i_1 rfl (by decide) rfl) ?_
          refine xa_step (xa_iinc (ls' := [some (xR c0), none, some (xI v2), some (xI (w32 (v3 + 1))), some (xI (w32 (v4 + 1))), some (xI r8)]) d_X6_init_106 xq_i_1 rfl (by decide) rfl) ?_
          refine xa_step (xa_goto d_X6_init_109) ?_
          exact xa_weak (ls' := [some (xR c0), none, some (xI v2), some (xI (w32 (v3 + 1))), some (xI (w32 (v4 + 1))), none]) ⟨rfl, rfl, rfl, rfl, trivial⟩ (hb v2 (w32 (v3 + 1)) (w32 (v4 + 1)) h14)
        · refine xa_step (xa_iinc (ls' := [some (xR c0), none, some (xI v2), some (xI v3), some (xI (w32 (v4 + 1))), some (xI r8)]) d_X6_init_106 xq_i_1 rfl (by decide) rfl) ?_
          refine xa_step (xa_goto d_X6_init_109) ?_
          exact xa_weak (ls' := [some (xR c0), none, some (xI v2), some (xI v3), some (xI (w32 (v4 + 1))), none]) ⟨rfl, rfl, rfl, rfl, trivial⟩ (hb v2 v3 (w32 (v4 + 1)) h)
      · refine xa_step (xa_iinc (ls' := [some (xR c0), none, some (xI v2), some (xI v3), some (xI (w32 (v4 + 1))), some (xI r8)]) d_X6_init_106 xq_i_1 rfl (by decide) rfl) ?_
        refine xa_step (xa_goto d_X6_init_109) ?_
        exact xa_weak (ls' := [some (xR c0), none, some (xI v2), some (xI v3), some (xI (w32 (v4 + 1))), none]) ⟨rfl, rfl, rfl, rfl, trivial⟩ (hb v2 v3 (w32 (v4 + 1)) h)
  · exact xa_weak (ls' := [none, none, none, none, none, none]) trivial (hx h)
theorem d_X6_init_112 : decode mX6_init.1 112 = .ok (.return_, 1) := by decide +kernel
set_option maxRecDepth 100000 in
set_option maxHeartbeats 4000000 in
theorem g_X6_init (l : Launch) (G : xa_C) (v0 v1 : Int) (h : xa_H) : xa_G l G 6 mX6_init (f_X6_init v0 v1 h) (fun r => some (none, r) : xa_H → Option xa_O) 0 [some (xR v0), some (xR v1), none, none, none, none] [] h := by
  unfold f_X6_init
  refine xa_step (xa_aload_n d_X6_init_0 rfl) ?_
  refine xa_objInit (ci := 6) xw_195 xw_188 xw_189 (by decide) (Nat.le_of_ble_eq_true rfl) d_X6_init_1 (fun _ => ?_)
  refine xa_step (xa_aload_n d_X6_init_4 rfl) ?_
  refine xa_step (xa_bipush d_X6_init_5 xq_b_29) ?_
  refine xa_newarr 0 .int (by decide) rfl xw_291 d_X6_init_7 (fun h1 _ => ?_)
  refine xa_putF2 (tg := xR) xc_6 (by decide) (fun _ => rfl) rfl rfl rfl (fun c hc => xa_fitA c hc) xw_246 rfl d_X6_init_9 (fun h2 _ => ?_)
  refine xa_step (xa_aload_n d_X6_init_12 rfl) ?_
  refine xa_step (xa_aload_n d_X6_init_13 rfl) ?_
  refine xa_putF2 (tg := xR) xc_6 (by decide) (fun _ => rfl) rfl rfl rfl (fun c hc => xa_fitA c hc) xw_245 rfl d_X6_init_14 (fun h3 _ => ?_)
  refine xa_step (xa_aload_n d_X6_init_17 rfl) ?_
  refine xa_step (xa_iconst d_X6_init_18 xq_i_0) ?_
  refine xa_putf2 (tg := xI) xc_6 (by decide) (fun _ => rfl) rfl (fun c hc => xa_fitI c hc) xw_263 rfl d_X6_init_19 (fun h4 _ => ?_)
  refine xa_step (xa_aload_n d_X6_init_22 rfl) ?_
  refine xa_step (xa_iconst d_X6_init_23 xq_i_m1) ?_
  refine xa_putf2 (tg := xI) xc_6 (by decide) (fun _ => rfl) rfl (fun c hc => xa_fitI c hc) xw_265 rfl d_X6_init_24 (fun h5 _ => ?_)
  refine xa_step (xa_iconst d_X6_init_27 xq_i_0) ?_
  refine xa_step (xa_istore_n (ls' := [some (xR v0), some (xR v1), some (xI 0), none, none, none]) d_X6_init_28 (by decide) rfl) ?_
  refine xa_step (xa_iconst d_X6_init_29 xq_i_0) ?_
  refine xa_step (xa_istore_n (ls' := [some (xR v0), some (xR v1), some (xI 0), some (xI 0), none, none]) d_X6_init_30 (by decide) rfl) ?_
  refine xa_step (xa_iconst d_X6_init_31 xq_i_0) ?_
  refine xa_step (xa_istore (ls' := [some (xR v0), some (xR v1), some (xI 0), some (xI 0), some (xI 0), none]) d_X6_init_32 (by decide) rfl) ?_
  refine xa_weak (ls' := [some (xR v0), none, some (xI 0), some (xI 0), some (xI 0), none]) ⟨rfl, rfl, rfl, rfl, trivial⟩ ?_
  refine xa_loop (f := fun s => f_X6_init_L34 v0 s.1 s.2.1 s.2.2.1 s.2.2.2) (L := fun s => [some (xR v0), none, some (xI s.1), some (xI s.2.1), some (xI s.2.2.1), none]) (P := fun s => s.2.2.2) (X := (fun x K => xa_G l G 6 mX6_init (some (Sum.inr x)) K 112 [none, none, none, none, none, none] [] x)) (fun K hb hX s => g_X6_init_L34 l G v0 K (fun w0 w1 w2 hh => hb ((w0, w1, w2, hh))) (fun hh => hX hh) s.1 s.2.1 s.2.2.1 s.2.2.2) ?_ xFU ((0, 0, 0, h5))
  intro e15 K hK
  refine xa_eqE hK ?_
  show xa_G l G 6 mX6_init _ _ 112 [none, none, none, none, none, none] [] e15
  exact xa_vret d_X6_init_112 rfl rfl
theorem ct_X6_init (l : Launch) (G : xa_C) (v0 v1 : Int) (h : xa_H) (r : xa_H) (hr : f_X6_init v0 v1 h = some r) : xa_CT l G 6 mX6_init yX6_init [xR v0, xR v1] h (none, r) :=
  xa_met (by decide +kernel) rfl (fun q => by first | rfl | cases q) (Nat.le_of_ble_eq_true rfl) rfl (g_X6_init l G v0 v1 h) (by rw [hr]; rfl)
abbrev mX7_init : xa_M := (cX7_init, 1, none, RX7, true)
theorem d_X7_init_0 : decode mX7_init.1 0 = .ok (.aload_n 0, 1) ∧ 0 + 1 = 1 := ⟨by decide +kernel, rfl⟩
theorem d_X7_init_1 : decode mX7_init.1 1 = .ok (.invokespecial 3, 3) ∧ 1 + 3 = 4 := ⟨by decide +kernel, rfl⟩
theorem d_X7_init_4 : decode mX7_init.1 4 = .ok (.aload_n 0, 1) ∧ 4 + 1 = 5 := ⟨by decide +kernel, rfl⟩
theorem d_X7_init_5 : decode mX7_init.1 5 = .ok (.bipush 6, 2) ∧ 5 + 2 = 7 := ⟨by decide +kernel, rfl⟩
theorem d_X7_init_7 : decode mX7_init.1 7 = .ok (.newarray .int, 2) ∧ 7 + 2 = 9 := ⟨by decide +kernel, rfl⟩
theorem d_X7_init_9 : decode mX7_init.1 9 = .ok (.putfield 9, 3) ∧ 9 + 3 = 12 := ⟨by decide +kernel, rfl⟩
theorem d_X7_init_12 : decode mX7_init.1 12 = .ok (.aload_n 0, 1) ∧ 12 + 1 = 13 := ⟨by decide +kernel, rfl⟩
theorem d_X7_init_13 : decode mX7_init.1 13 = .ok (.iconst 0, 1) ∧ 13 + 1 = 14 := ⟨by decide +kernel, rfl⟩
theorem d_X7_init_14 : decode mX7_init.1 14 = .ok (.putfield 15, 3) ∧ 14 + 3 = 17 := ⟨by decide +kernel, rfl⟩
theorem d_X7_init_17 : decode mX7_init.1 17 = .ok (.aload_n 0, 1) ∧ 17 + 1 = 18 := ⟨by decide +kernel, rfl⟩
theorem d_X7_init_18 : decode mX7_init.1 18 = .ok (.iconst 0, 1) ∧ 18 + 1 = 19 := ⟨by decide +kernel, rfl⟩
theorem d_X7_init_19 : decode mX7_init.1 19 = .ok (.putfield 19, 3) ∧ 19 + 3 = 22 := ⟨by decide +kernel, rfl⟩
theorem d_X7_init_22 : decode mX7_init.1 22 = .ok (.aload_n 0, 1) ∧ 22 + 1 = 23 := ⟨by decide +kernel, rfl⟩
theorem d_X7_init_23 : decode mX7_init.1 23 = .ok (.iconst (-1), 1) ∧ 23 + 1 = 24 := ⟨by decide +kernel, rfl⟩
theorem d_X7_init_24 : decode mX7_init.1 24 = .ok (.putfield 22, 3) ∧ 24 + 3 = 27 := ⟨by decide +kernel, rfl⟩
theorem d_X7_init_27 : decode mX7_init.1 27 = .ok (.aload_n 0, 1) ∧ 27 + 1 = 28 := ⟨by decide +kernel, rfl⟩
theorem d_X7_init_28 : decode mX7_init.1 28 = .ok (.bipush 6, 2) ∧ 28 + 2 = 30 := ⟨by decide +kernel, rfl⟩
theorem d_X7_init_30 : decode mX7_init.1 30 = .ok (.newarray .int, 2) ∧ 30 + 2 = 32 := ⟨by decide +kernel, rfl⟩
theorem d_X7_init_32 : decode mX7_init.1 32 = .ok (.putfield 25, 3) ∧ 32 + 3 = 35 := ⟨by decide +kernel, rfl⟩
theorem d_X7_init_35 : decode mX7_init.1 35 = .ok (.aload_n 0, 1) ∧ 35 + 1 = 36 := ⟨by decide +kernel, rfl⟩
theorem d_X7_init_36 : decode mX7_init.1 36 = .ok (.bipush 6, 2) ∧ 36 + 2 = 38 := ⟨by decide +kernel, rfl⟩
theorem d_X7_init_38 : decode mX7_init.1 38 = .ok (.newarray .int, 2) ∧ 38 + 2 = 40 := ⟨by decide +kernel, rfl⟩
theorem d_X7_init_40 : decode mX7_init.1 40 = .ok (.putfield 28, 3) ∧ 40 + 3 = 43 := ⟨by decide +kernel, rfl⟩
theorem d_X7_init_43 : decode mX7_init.1 43 = .ok (.aload_n 0, 1) ∧ 43 + 1 = 44 := ⟨by decide +kernel, rfl⟩
theorem d_X7_init_44 : decode mX7_init.1 44 = .ok (.bipush 14, 2) ∧ 44 + 2 = 46 := ⟨by decide +kernel, rfl⟩
theorem d_X7_init_46 : decode mX7_init.1 46 = .ok (.newarray .int, 2) ∧ 46 + 2 = 48 := ⟨by decide +kernel, rfl⟩
theorem d_X7_init_48 : decode mX7_init.1 48 = .ok (.putfield 31, 3) ∧ 48 + 3 = 51 := ⟨by decide +kernel, rfl⟩
theorem d_X7_init_51 : decode mX7_init.1 51 = .ok (.return_, 1) := by decide +kernel
set_option maxRecDepth 100000 in
set_option maxHeartbeats 4000000 in
theorem g_X7_init (l : Launch) (G : xa_C) (v0 : Int) (h : xa_H) : xa_G l G 2 mX7_init (f_X7_init v0 h) (fun r => some (none, r) : xa_H → Option xa_O) 0 [some (xR v0)] [] h := by
  unfold f_X7_init
  refine xa_step (xa_aload_n d_X7_init_0 rfl) ?_
  refine xa_objInit (ci := 7) xw_477 xw_188 xw_189 (by decide) (Nat.le_of_ble_eq_true rfl) d_X7_init_1 (fun _ => ?_)
  refine xa_step (xa_aload_n d_X7_init_4 rfl) ?_
  refine xa_step (xa_bipush d_X7_init_5 xq_b_6) ?_
  refine xa_newarr 0 .int (by decide) rfl xw_291 d_X7_init_7 (fun h1 _ => ?_)
  refine xa_putF2 (tg := xR) xc_7 (by decide) (fun _ => rfl) rfl rfl rfl (fun c hc => xa_fitA c hc) xw_478 rfl d_X7_init_9 (fun h2 _ => ?_)
  refine xa_step (xa_aload_n d_X7_init_12 rfl) ?_
  refine xa_step (xa_iconst d_X7_init_13 xq_i_0) ?_
  refine xa_putf2 (tg := xI) xc_7 (by decide) (fun _ => rfl) rfl (fun c hc => xa_fitI c hc) xw_480 rfl d_X7_init_14 (fun h3 _ => ?_)
  refine xa_step (xa_aload_n d_X7_init_17 rfl) ?_
  refine xa_step (xa_iconst d_X7_init_18 xq_i_0) ?_
  refine xa_putf2 (tg := xI) xc_7 (by decide) (fun _ => rfl) rfl (fun c hc => xa_fitI c hc) xw_482 rfl d_X7_init_19 (fun h4 _ => ?_)
  refine xa_step (xa_aload_n d_X7_init_22 rfl) ?_
  refine xa_step (xa_iconst d_X7_init_23 xq_i_m1) ?_
  refine xa_putf2 (tg := xI) xc_7 (by decide) (fun _ => rfl) rfl (fun c hc => xa_fitI c hc) xw_484 rfl d_X7_init_24 (fun h5 _ => ?_)
  refine xa_step (xa_aload_n d_X7_init_27 rfl) ?_
  refine xa_step (xa_bipush d_X7_init_28 xq_b_6) ?_
  refine xa_newarr 0 .int (by decide) rfl xw_291 d_X7_init_30 (fun h6 _ => ?_)
  refine xa_putF2 (tg := xR) xc_7 (by decide) (fun _ => rfl) rfl rfl rfl (fun c hc => xa_fitA c hc) xw_486 rfl d_X7_init_32 (fun h7 _ => ?_)
  refine xa_step (xa_aload_n d_X7_init_35 rfl) ?_
  refine xa_step (xa_bipush d_X7_init_36 xq_b_6) ?_
  refine xa_newarr 0 .int (by decide) rfl xw_291 d_X7_init_38 (fun h8 _ => ?_)
  refine xa_putF2 (tg := xR) xc_7 (by decide) (fun _ => rfl) rfl rfl rfl (fun c hc => xa_fitA c hc) xw_487 rfl d_X7_init_40 (fun h9 _ => ?_)
  refine xa_step (xa_aload_n d_X7_init_43 rfl) ?_
  refine xa_step (xa_bipush d_X7_init_44 xq_b_14) ?_
  refine xa_newarr 0 .int (by decide) rfl xw_291 d_X7_init_46 (fun h10 _ => ?_)
  refine xa_putF2 (tg := xR) xc_7 (by decide) (fun _ => rfl) rfl rfl rfl (fun c hc => xa_fitA c hc) xw_488 rfl d_X7_init_48 (fun h11 _ => ?_)
  exact xa_vret d_X7_init_51 rfl rfl
theorem ct_X7_init (l : Launch) (G : xa_C) (v0 : Int) (h : xa_H) (r : xa_H) (hr : f_X7_init v0 h = some r) : xa_CT l G 2 mX7_init yX7_init [xR v0] h (none, r) :=
  xa_met (by decide +kernel) rfl (fun q => by first | rfl | cases q) (Nat.le_of_ble_eq_true rfl) rfl (g_X7_init l G v0 h) (by rw [hr]; rfl)
abbrev mX10_init : xa_M := (cX10_init, 1, none, RX10, true)
theorem d_X10_init_0 : decode mX10_init.1 0 = .ok (.aload_n 0, 1) ∧ 0 + 1 = 1 := ⟨by decide +kernel, rfl⟩
theorem d_X10_init_1 : decode mX10_init.1 1 = .ok (.invokespecial 3, 3) ∧ 1 + 3 = 4 := ⟨by decide +kernel, rfl⟩
theorem d_X10_init_4 : decode mX10_init.1 4 = .ok (.aload_n 0, 1) ∧ 4 + 1 = 5 := ⟨by decide +kernel, rfl⟩
theorem d_X10_init_5 : decode mX10_init.1 5 = .ok (.bipush 6, 2) ∧ 5 + 2 = 7 := ⟨by decide +kernel, rfl⟩
theorem d_X10_init_7 : decode mX10_init.1 7 = .ok (.newarray .int, 2) ∧ 7 + 2 = 9 := ⟨by decide +kernel, rfl⟩
theorem d_X10_init_9 : decode mX10_init.1 9 = .ok (.putfield 9, 3) ∧ 9 + 3 = 12 := ⟨by decide +kernel, rfl⟩
theorem d_X10_init_12 : decode mX10_init.1 12 = .ok (.aload_n 0, 1) ∧ 12 + 1 = 13 := ⟨by decide +kernel, rfl⟩
theorem d_X10_init_13 : decode mX10_init.1 13 = .ok (.bipush 6, 2) ∧ 13 + 2 = 15 := ⟨by decide +kernel, rfl⟩
theorem d_X10_init_15 : decode mX10_init.1 15 = .ok (.newarray .int, 2) ∧ 15 + 2 = 17 := ⟨by decide +kernel, rfl⟩
theorem d_X10_init_17 : decode mX10_init.1 17 = .ok (.putfield 15, 3) ∧ 17 + 3 = 20 := ⟨by decide +kernel, rfl⟩
theorem d_X10_init_20 : decode mX10_init.1 20 = .ok (.aload_n 0, 1) ∧ 20 + 1 = 21 := ⟨by decide +kernel, rfl⟩
theorem d_X10_init_21 : decode mX10_init.1 21 = .ok (.bipush 6, 2) ∧ 21 + 2 = 23 := ⟨by decide +kernel, rfl⟩
theorem d_X10_init_23 : decode mX10_init.1 23 = .ok (.newarray .int, 2) ∧ 23 + 2 = 25 := ⟨by decide +kernel, rfl⟩
theorem d_X10_init_25 : decode mX10_init.1 25 = .ok (.putfield 18, 3) ∧ 25 + 3 = 28 := ⟨by decide +kernel, rfl⟩
theorem d_X10_init_28 : decode mX10_init.1 28 = .ok (.aload_n 0, 1) ∧ 28 + 1 = 29 := ⟨by decide +kernel, rfl⟩
theorem d_X10_init_29 : decode mX10_init.1 29 = .ok (.bipush 6, 2) ∧ 29 + 2 = 31 := ⟨by decide +kernel, rfl⟩
theorem d_X10_init_31 : decode mX10_init.1 31 = .ok (.newarray .int, 2) ∧ 31 + 2 = 33 := ⟨by decide +kernel, rfl⟩
theorem d_X10_init_33 : decode mX10_init.1 33 = .ok (.putfield 21, 3) ∧ 33 + 3 = 36 := ⟨by decide +kernel, rfl⟩
theorem d_X10_init_36 : decode mX10_init.1 36 = .ok (.return_, 1) := by decide +kernel
set_option maxRecDepth 100000 in
set_option maxHeartbeats 4000000 in
theorem g_X10_init (l : Launch) (G : xa_C) (v0 : Int) (h : xa_H) : xa_G l G 2 mX10_init (f_X10_init v0 h) (fun r => some (none, r) : xa_H → Option xa_O) 0 [some (xR v0)] [] h := by
  unfold f_X10_init
  refine xa_step (xa_aload_n d_X10_init_0 rfl) ?_
  refine xa_objInit (ci := 10) xw_542 xw_188 xw_189 (by decide) (Nat.le_of_ble_eq_true rfl) d_X10_init_1 (fun _ => ?_)
  refine xa_step (xa_aload_n d_X10_init_4 rfl) ?_
  refine xa_step (xa_bipush d_X10_init_5 xq_b_6) ?_
  refine xa_newarr 0 .int (by decide) rfl xw_291 d_X10_init_7 (fun h1 _ => ?_)
  refine xa_putF2 (tg := xR) xc_10 (by decide) (fun _ => rfl) rfl rfl rfl (fun c hc => xa_fitA c hc) xw_543 rfl d_X10_init_9 (fun h2 _ => ?_)
  refine xa_step (xa_aload_n d_X10_init_12 rfl) ?_
  refine xa_step (xa_bipush d_X10_init_13 xq_b_6) ?_
  refine xa_newarr 0 .int (by decide) rfl xw_291 d_X10_init_15 (fun h3 _ => ?_)
  refine xa_putF2 (tg := xR) xc_10 (by decide) (fun _ => rfl) rfl rfl rfl (fun c hc => xa_fitA c hc) xw_545 rfl d_X10_init_17 (fun h4 _ => ?_)
  refine xa_step (xa_aload_n d_X10_init_20 rfl) ?_
  refine xa_step (xa_bipush d_X10_init_21 xq_b_6) ?_
  refine xa_newarr 0 .int (by decide) rfl xw_291 d_X10_init_23 (fun h5 _ => ?_)
  refine xa_putF2 (tg := xR) xc_10 (by decide) (fun _ => rfl) rfl rfl rfl (fun c hc => xa_fitA c hc) xw_547 rfl d_X10_init_25 (fun h6 _ => ?_)
  refine xa_step (xa_aload_n d_X10_init_28 rfl) ?_
  refine xa_step (xa_bipush d_X10_init_29 xq_b_6) ?_
  refine xa_newarr 0 .int (by decide) rfl xw_291 d_X10_init_31 (fun h7 _ => ?_)
  refine xa_putF2 (tg := xR) xc_10 (by decide) (fun _ => rfl) rfl rfl rfl (fun c hc => xa_fitA c hc) xw_549 rfl d_X10_init_33 (fun h8 _ => ?_)
  exact xa_vret d_X10_init_36 rfl rfl
theorem ct_X10_init (l : Launch) (G : xa_C) (v0 : Int) (h : xa_H) (r : xa_H) (hr : f_X10_init v0 h = some r) : xa_CT l G 2 mX10_init yX10_init [xR v0] h (none, r) :=
  xa_met (by decide +kernel) rfl (fun q => by first | rfl | cases q) (Nat.le_of_ble_eq_true rfl) rfl (g_X10_init l G v0 h) (by rw [hr]; rfl)
abbrev mX11_init : xa_M := (cX11_init, 1, none, RX11, true)
theorem d_X11_init_0 : decode mX11_init.1 0 = .ok (.aload_n 0, 1) ∧ 0 + 1 = 1 := ⟨by decide +kernel, rfl⟩
theorem d_X11_init_1 : decode mX11_init.1 1 = .ok (.invokespecial 1, 3) ∧ 1 + 3 = 4 := ⟨by decide +kernel, rfl⟩
theorem d_X11_init_4 : decode mX11_init.1 4 = .ok (.aload_n 0, 1) ∧ 4 + 1 = 5 := ⟨by decide +kernel, rfl⟩
theorem d_X11_init_5 : decode mX11_init.1 5 = .ok (.sipush 1600, 3) ∧ 5 + 3 = 8 := ⟨by decide +kernel, rfl⟩
theorem d_X11_init_8 : decode mX11_init.1 8 = .ok (.newarray .byte, 2) ∧ 8 + 2 = 10 := ⟨by decide +kernel, rfl⟩
theorem d_X11_init_10 : decode mX11_init.1 10 = .ok (.putfield 9, 3) ∧ 10 + 3 = 13 := ⟨by decide +kernel, rfl⟩
theorem d_X11_init_13 : decode mX11_init.1 13 = .ok (.aload_n 0, 1) ∧ 13 + 1 = 14 := ⟨by decide +kernel, rfl⟩
theorem d_X11_init_14 : decode mX11_init.1 14 = .ok (.iconst 0, 1) ∧ 14 + 1 = 15 := ⟨by decide +kernel, rfl⟩
theorem d_X11_init_15 : decode mX11_init.1 15 = .ok (.putfield 13, 3) ∧ 15 + 3 = 18 := ⟨by decide +kernel, rfl⟩
theorem d_X11_init_18 : decode mX11_init.1 18 = .ok (.aload_n 0, 1) ∧ 18 + 1 = 19 := ⟨by decide +kernel, rfl⟩
theorem d_X11_init_19 : decode mX11_init.1 19 = .ok (.new 17, 3) ∧ 19 + 3 = 22 := ⟨by decide +kernel, rfl⟩
theorem d_X11_init_22 : decode mX11_init.1 22 = .ok (.dup, 1) ∧ 22 + 1 = 23 := ⟨by decide +kernel, rfl⟩
theorem d_X11_init_23 : decode mX11_init.1 23 = .ok (.aload_n 0, 1) ∧ 23 + 1 = 24 := ⟨by decide +kernel, rfl⟩
theorem d_X11_init_24 : decode mX11_init.1 24 = .ok (.getfield 9, 3) ∧ 24 + 3 = 27 := ⟨by decide +kernel, rfl⟩
theorem d_X11_init_27 : decode mX11_init.1 27 = .ok (.invokespecial 19, 3) ∧ 27 + 3 = 30 := ⟨by decide +kernel, rfl⟩
theorem d_X11_init_30 : decode mX11_init.1 30 = .ok (.putfield 22, 3) ∧ 30 + 3 = 33 := ⟨by decide +kernel, rfl⟩
theorem d_X11_init_33 : decode mX11_init.1 33 = .ok (.aload_n 0, 1) ∧ 33 + 1 = 34 := ⟨by decide +kernel, rfl⟩
theorem d_X11_init_34 : decode mX11_init.1 34 = .ok (.new 26, 3) ∧ 34 + 3 = 37 := ⟨by decide +kernel, rfl⟩
theorem d_X11_init_37 : decode mX11_init.1 37 = .ok (.dup, 1) ∧ 37 + 1 = 38 := ⟨by decide +kernel, rfl⟩
theorem d_X11_init_38 : decode mX11_init.1 38 = .ok (.aload_n 0, 1) ∧ 38 + 1 = 39 := ⟨by decide +kernel, rfl⟩
theorem d_X11_init_39 : decode mX11_init.1 39 = .ok (.getfield 22, 3) ∧ 39 + 3 = 42 := ⟨by decide +kernel, rfl⟩
theorem d_X11_init_42 : decode mX11_init.1 42 = .ok (.invokespecial 28, 3) ∧ 42 + 3 = 45 := ⟨by decide +kernel, rfl⟩
theorem d_X11_init_45 : decode mX11_init.1 45 = .ok (.putfield 31, 3) ∧ 45 + 3 = 48 := ⟨by decide +kernel, rfl⟩
theorem d_X11_init_48 : decode mX11_init.1 48 = .ok (.aload_n 0, 1) ∧ 48 + 1 = 49 := ⟨by decide +kernel, rfl⟩
theorem d_X11_init_49 : decode mX11_init.1 49 = .ok (.new 35, 3) ∧ 49 + 3 = 52 := ⟨by decide +kernel, rfl⟩
theorem d_X11_init_52 : decode mX11_init.1 52 = .ok (.dup, 1) ∧ 52 + 1 = 53 := ⟨by decide +kernel, rfl⟩
theorem d_X11_init_53 : decode mX11_init.1 53 = .ok (.aload_n 0, 1) ∧ 53 + 1 = 54 := ⟨by decide +kernel, rfl⟩
theorem d_X11_init_54 : decode mX11_init.1 54 = .ok (.getfield 22, 3) ∧ 54 + 3 = 57 := ⟨by decide +kernel, rfl⟩
theorem d_X11_init_57 : decode mX11_init.1 57 = .ok (.aload_n 0, 1) ∧ 57 + 1 = 58 := ⟨by decide +kernel, rfl⟩
theorem d_X11_init_58 : decode mX11_init.1 58 = .ok (.getfield 31, 3) ∧ 58 + 3 = 61 := ⟨by decide +kernel, rfl⟩
theorem d_X11_init_61 : decode mX11_init.1 61 = .ok (.invokespecial 37, 3) ∧ 61 + 3 = 64 := ⟨by decide +kernel, rfl⟩
theorem d_X11_init_64 : decode mX11_init.1 64 = .ok (.putfield 40, 3) ∧ 64 + 3 = 67 := ⟨by decide +kernel, rfl⟩
theorem d_X11_init_67 : decode mX11_init.1 67 = .ok (.aload_n 0, 1) ∧ 67 + 1 = 68 := ⟨by decide +kernel, rfl⟩
theorem d_X11_init_68 : decode mX11_init.1 68 = .ok (.new 44, 3) ∧ 68 + 3 = 71 := ⟨by decide +kernel, rfl⟩
theorem d_X11_init_71 : decode mX11_init.1 71 = .ok (.dup, 1) ∧ 71 + 1 = 72 := ⟨by decide +kernel, rfl⟩
theorem d_X11_init_72 : decode mX11_init.1 72 = .ok (.invokespecial 46, 3) ∧ 72 + 3 = 75 := ⟨by decide +kernel, rfl⟩
theorem d_X11_init_75 : decode mX11_init.1 75 = .ok (.putfield 47, 3) ∧ 75 + 3 = 78 := ⟨by decide +kernel, rfl⟩
theorem d_X11_init_78 : decode mX11_init.1 78 = .ok (.aload_n 0, 1) ∧ 78 + 1 = 79 := ⟨by decide +kernel, rfl⟩
theorem d_X11_init_79 : decode mX11_init.1 79 = .ok (.new 51, 3) ∧ 79 + 3 = 82 := ⟨by decide +kernel, rfl⟩
theorem d_X11_init_82 : decode mX11_init.1 82 = .ok (.dup, 1) ∧ 82 + 1 = 83 := ⟨by decide +kernel, rfl⟩
theorem d_X11_init_83 : decode mX11_init.1 83 = .ok (.invokespecial 53, 3) ∧ 83 + 3 = 86 := ⟨by decide +kernel, rfl⟩
theorem d_X11_init_86 : decode mX11_init.1 86 = .ok (.putfield 54, 3) ∧ 86 + 3 = 89 := ⟨by decide +kernel, rfl⟩
theorem d_X11_init_89 : decode mX11_init.1 89 = .ok (.aload_n 0, 1) ∧ 89 + 1 = 90 := ⟨by decide +kernel, rfl⟩
theorem d_X11_init_90 : decode mX11_init.1 90 = .ok (.new 58, 3) ∧ 90 + 3 = 93 := ⟨by decide +kernel, rfl⟩
theorem d_X11_init_93 : decode mX11_init.1 93 = .ok (.dup, 1) ∧ 93 + 1 = 94 := ⟨by decide +kernel, rfl⟩
theorem d_X11_init_94 : decode mX11_init.1 94 = .ok (.invokespecial 60, 3) ∧ 94 + 3 = 97 := ⟨by decide +kernel, rfl⟩
theorem d_X11_init_97 : decode mX11_init.1 97 = .ok (.putfield 61, 3) ∧ 97 + 3 = 100 := ⟨by decide +kernel, rfl⟩
theorem d_X11_init_100 : decode mX11_init.1 100 = .ok (.aload_n 0, 1) ∧ 100 + 1 = 101 := ⟨by decide +kernel, rfl⟩
theorem d_X11_init_101 : decode mX11_init.1 101 = .ok (.new 65, 3) ∧ 101 + 3 = 104 := ⟨by decide +kernel, rfl⟩
theorem d_X11_init_104 : decode mX11_init.1 104 = .ok (.dup, 1) ∧ 104 + 1 = 105 := ⟨by decide +kernel, rfl⟩
theorem d_X11_init_105 : decode mX11_init.1 105 = .ok (.invokespecial 67, 3) ∧ 105 + 3 = 108 := ⟨by decide +kernel, rfl⟩
theorem d_X11_init_108 : decode mX11_init.1 108 = .ok (.putfield 68, 3) ∧ 108 + 3 = 111 := ⟨by decide +kernel, rfl⟩
theorem d_X11_init_111 : decode mX11_init.1 111 = .ok (.aload_n 0, 1) ∧ 111 + 1 = 112 := ⟨by decide +kernel, rfl⟩
theorem d_X11_init_112 : decode mX11_init.1 112 = .ok (.new 65, 3) ∧ 112 + 3 = 115 := ⟨by decide +kernel, rfl⟩
theorem d_X11_init_115 : decode mX11_init.1 115 = .ok (.dup, 1) ∧ 115 + 1 = 116 := ⟨by decide +kernel, rfl⟩
theorem d_X11_init_116 : decode mX11_init.1 116 = .ok (.invokespecial 67, 3) ∧ 116 + 3 = 119 := ⟨by decide +kernel, rfl⟩
theorem d_X11_init_119 : decode mX11_init.1 119 = .ok (.putfield 72, 3) ∧ 119 + 3 = 122 := ⟨by decide +kernel, rfl⟩
theorem d_X11_init_122 : decode mX11_init.1 122 = .ok (.aload_n 0, 1) ∧ 122 + 1 = 123 := ⟨by decide +kernel, rfl⟩
theorem d_X11_init_123 : decode mX11_init.1 123 = .ok (.new 75, 3) ∧ 123 + 3 = 126 := ⟨by decide +kernel, rfl⟩
theorem d_X11_init_126 : decode mX11_init.1 126 = .ok (.dup, 1) ∧ 126 + 1 = 127 := ⟨by decide +kernel, rfl⟩
theorem d_X11_init_127 : decode mX11_init.1 127 = .ok (.invokespecial 77, 3) ∧ 127 + 3 = 130 := ⟨by decide +kernel, rfl⟩
theorem d_X11_init_130 : decode mX11_init.1 130 = .ok (.putfield 78, 3) ∧ 130 + 3 = 133 := ⟨by decide +kernel, rfl⟩
theorem d_X11_init_133 : decode mX11_init.1 133 = .ok (.aload_n 0, 1) ∧ 133 + 1 = 134 := ⟨by decide +kernel, rfl⟩
theorem d_X11_init_134 : decode mX11_init.1 134 = .ok (.new 82, 3) ∧ 134 + 3 = 137 := ⟨by decide +kernel, rfl⟩
theorem d_X11_init_137 : decode mX11_init.1 137 = .ok (.dup, 1) ∧ 137 + 1 = 138 := ⟨by decide +kernel, rfl⟩
theorem d_X11_init_138 : decode mX11_init.1 138 = .ok (.invokespecial 84, 3) ∧ 138 + 3 = 141 := ⟨by decide +kernel, rfl⟩
theorem d_X11_init_141 : decode mX11_init.1 141 = .ok (.putfield 85, 3) ∧ 141 + 3 = 144 := ⟨by decide +kernel, rfl⟩
theorem d_X11_init_144 : decode mX11_init.1 144 = .ok (.aload_n 0, 1) ∧ 144 + 1 = 145 := ⟨by decide +kernel, rfl⟩
theorem d_X11_init_145 : decode mX11_init.1 145 = .ok (.iconst 2, 1) ∧ 145 + 1 = 146 := ⟨by decide +kernel, rfl⟩
theorem d_X11_init_146 : decode mX11_init.1 146 = .ok (.anewarray 89, 3) ∧ 146 + 3 = 149 := ⟨by decide +kernel, rfl⟩
theorem d_X11_init_149 : decode mX11_init.1 149 = .ok (.putfield 91, 3) ∧ 149 + 3 = 152 := ⟨by decide +kernel, rfl⟩
theorem d_X11_init_152 : decode mX11_init.1 152 = .ok (.aload_n 0, 1) ∧ 152 + 1 = 153 := ⟨by decide +kernel, rfl⟩
theorem d_X11_init_153 : decode mX11_init.1 153 = .ok (.bipush 6, 2) ∧ 153 + 2 = 155 := ⟨by decide +kernel, rfl⟩
theorem d_X11_init_155 : decode mX11_init.1 155 = .ok (.newarray .int, 2) ∧ 155 + 2 = 157 := ⟨by decide +kernel, rfl⟩
theorem d_X11_init_157 : decode mX11_init.1 157 = .ok (.putfield 95, 3) ∧ 157 + 3 = 160 := ⟨by decide +kernel, rfl⟩
theorem d_X11_init_160 : decode mX11_init.1 160 = .ok (.aload_n 0, 1) ∧ 160 + 1 = 161 := ⟨by decide +kernel, rfl⟩
theorem d_X11_init_161 : decode mX11_init.1 161 = .ok (.bipush 14, 2) ∧ 161 + 2 = 163 := ⟨by decide +kernel, rfl⟩
theorem d_X11_init_163 : decode mX11_init.1 163 = .ok (.newarray .int, 2) ∧ 163 + 2 = 165 := ⟨by decide +kernel, rfl⟩
theorem d_X11_init_165 : decode mX11_init.1 165 = .ok (.putfield 99, 3) ∧ 165 + 3 = 168 := ⟨by decide +kernel, rfl⟩
theorem d_X11_init_168 : decode mX11_init.1 168 = .ok (.aload_n 0, 1) ∧ 168 + 1 = 169 := ⟨by decide +kernel, rfl⟩
theorem d_X11_init_169 : decode mX11_init.1 169 = .ok (.bipush 63, 2) ∧ 169 + 2 = 171 := ⟨by decide +kernel, rfl⟩
theorem d_X11_init_171 : decode mX11_init.1 171 = .ok (.newarray .int, 2) ∧ 171 + 2 = 173 := ⟨by decide +kernel, rfl⟩
theorem d_X11_init_173 : decode mX11_init.1 173 = .ok (.putfield 102, 3) ∧ 173 + 3 = 176 := ⟨by decide +kernel, rfl⟩
theorem d_X11_init_176 : decode mX11_init.1 176 = .ok (.aload_n 0, 1) ∧ 176 + 1 = 177 := ⟨by decide +kernel, rfl⟩
theorem d_X11_init_177 : decode mX11_init.1 177 = .ok (.iconst 0, 1) ∧ 177 + 1 = 178 := ⟨by decide +kernel, rfl⟩
theorem d_X11_init_178 : decode mX11_init.1 178 = .ok (.putfield 105, 3) ∧ 178 + 3 = 181 := ⟨by decide +kernel, rfl⟩
theorem d_X11_init_181 : decode mX11_init.1 181 = .ok (.aload_n 0, 1) ∧ 181 + 1 = 182 := ⟨by decide +kernel, rfl⟩
theorem d_X11_init_182 : decode mX11_init.1 182 = .ok (.bipush 6, 2) ∧ 182 + 2 = 184 := ⟨by decide +kernel, rfl⟩
theorem d_X11_init_184 : decode mX11_init.1 184 = .ok (.newarray .int, 2) ∧ 184 + 2 = 186 := ⟨by decide +kernel, rfl⟩
theorem d_X11_init_186 : decode mX11_init.1 186 = .ok (.putfield 108, 3) ∧ 186 + 3 = 189 := ⟨by decide +kernel, rfl⟩
theorem d_X11_init_189 : decode mX11_init.1 189 = .ok (.aload_n 0, 1) ∧ 189 + 1 = 190 := ⟨by decide +kernel, rfl⟩
theorem d_X11_init_190 : decode mX11_init.1 190 = .ok (.iconst 1, 1) ∧ 190 + 1 = 191 := ⟨by decide +kernel, rfl⟩
theorem d_X11_init_191 : decode mX11_init.1 191 = .ok (.putfield 111, 3) ∧ 191 + 3 = 194 := ⟨by decide +kernel, rfl⟩
theorem d_X11_init_194 : decode mX11_init.1 194 = .ok (.aload_n 0, 1) ∧ 194 + 1 = 195 := ⟨by decide +kernel, rfl⟩
theorem d_X11_init_195 : decode mX11_init.1 195 = .ok (.getfield 78, 3) ∧ 195 + 3 = 198 := ⟨by decide +kernel, rfl⟩
theorem d_X11_init_198 : decode mX11_init.1 198 = .ok (.iconst 0, 1) ∧ 198 + 1 = 199 := ⟨by decide +kernel, rfl⟩
theorem d_X11_init_199 : decode mX11_init.1 199 = .ok (.iconst 0, 1) ∧ 199 + 1 = 200 := ⟨by decide +kernel, rfl⟩
theorem d_X11_init_200 : decode mX11_init.1 200 = .ok (.invokevirtual 114, 3) ∧ 200 + 3 = 203 := ⟨by decide +kernel, rfl⟩
theorem d_X11_init_203 : decode mX11_init.1 203 = .ok (.return_, 1) := by decide +kernel
set_option maxRecDepth 100000 in
set_option maxHeartbeats 4000000 in
theorem g_X11_init (l : Launch) (G : xa_C) (v0 : Int) (h : xa_H) : xa_G l G 7 mX11_init (f_X11_init v0 h) (fun r => some (none, r) : xa_H → Option xa_O) 0 [some (xR v0)] [] h := by
  unfold f_X11_init
  refine xa_step (xa_aload_n d_X11_init_0 rfl) ?_
  refine xa_objInit (ci := 11) xw_187 xw_188 xw_189 (by decide) (Nat.le_of_ble_eq_true rfl) d_X11_init_1 (fun _ => ?_)
  refine xa_step (xa_aload_n d_X11_init_4 rfl) ?_
  refine xa_step (xa_sipush d_X11_init_5 xq_s_1600) ?_
  refine xa_newarr 2 .byte (by decide) rfl xw_290 d_X11_init_8 (fun h1 _ => ?_)
  refine xa_putF2 (tg := xR) xc_11 (by decide) (fun _ => rfl) rfl rfl rfl (fun c hc => xa_fitA c hc) xw_584 rfl d_X11_init_10 (fun h2 _ => ?_)
  refine xa_step (xa_aload_n d_X11_init_13 rfl) ?_
  refine xa_step (xa_iconst d_X11_init_14 xq_i_0) ?_
  refine xa_putf2 (tg := xI) xc_11 (by decide) (fun _ => rfl) rfl (fun c hc => xa_fitI c hc) xw_585 rfl d_X11_init_15 (fun h3 _ => ?_)
  refine xa_step (xa_aload_n d_X11_init_18 rfl) ?_
  refine xa_newO xc_6 xt_6 xw_190 xw_191 xw_162 d_X11_init_19 (fun h4 _ => ?_)
  refine xa_step (xa_dup d_X11_init_22 (xa_tR _)) ?_
  refine xa_step (xa_aload_n d_X11_init_23 rfl) ?_
  refine xa_getf xR xc_11 (by decide) (fun _ => rfl) xw_584 rfl d_X11_init_24 (fun x5 _ => ?_)
  refine xa_callIV (nn := xn h3) (as := [xR x5]) (st := [xR ((xn h3 : Int)), xR v0]) (M' := mX6_init) (d' := 6) rfl rfl xw_192 xw_193 xw_194 xw_162 xh_X6_init rfl ⟨Nat.le_of_ble_eq_true rfl, Nat.le_of_ble_eq_true rfl⟩ (Nat.le_of_ble_eq_true rfl) rfl d_X11_init_27 (fun r hr => ct_X6_init l G ((xn h3 : Int)) x5 h4 r hr) (fun r6 _ => ?_)
  refine xa_putF2 (tg := xR) xc_11 (by decide) (fun _ => rfl) rfl rfl rfl (fun c hc => xa_fitO c hc) xw_586 rfl d_X11_init_30 (fun h7 _ => ?_)
  refine xa_step (xa_aload_n d_X11_init_33 rfl) ?_
  refine xa_newO xc_3 xt_3 xw_292 xw_293 xw_167 d_X11_init_34 (fun h8 _ => ?_)
  refine xa_step (xa_dup d_X11_init_37 (xa_tR _)) ?_
  refine xa_step (xa_aload_n d_X11_init_38 rfl) ?_
  refine xa_getf xR xc_11 (by decide) (fun _ => rfl) xw_586 rfl d_X11_init_39 (fun x9 _ => ?_)
  refine xa_callIV (nn := xn h7) (as := [xR x9]) (st := [xR ((xn h7 : Int)), xR v0]) (M' := mX3_init) (d' := 2) rfl rfl xw_294 xw_295 xw_296 xw_167 xh_X3_init rfl ⟨Nat.le_of_ble_eq_true rfl, Nat.le_of_ble_eq_true rfl⟩ (Nat.le_of_ble_eq_true rfl) rfl d_X11_init_42 (fun r hr => ct_X3_init l G ((xn h7 : Int)) x9 h8 r hr) (fun r10 _ => ?_)
  refine xa_putF2 (tg := xR) xc_11 (by decide) (fun _ => rfl) rfl rfl rfl (fun c hc => xa_fitO c hc) xw_587 rfl d_X11_init_45 (fun h11 _ => ?_)
  refine xa_step (xa_aload_n d_X11_init_48 rfl) ?_
  refine xa_newO xc_1 xt_1 xw_311 xw_312 xw_168 d_X11_init_49 (fun h12 _ => ?_)
  refine xa_step (xa_dup d_X11_init_52 (xa_tR _)) ?_
  refine xa_step (xa_aload_n d_X11_init_53 rfl) ?_
  refine xa_getf xR xc_11 (by decide) (fun _ => rfl) xw_586 rfl d_X11_init_54 (fun x13 _ => ?_)
  refine xa_step (xa_aload_n d_X11_init_57 rfl) ?_
  refine xa_getf xR xc_11 (by decide) (fun _ => rfl) xw_587 rfl d_X11_init_58 (fun x14 _ => ?_)
  refine xa_callIV (nn := xn h11) (as := [xR x13, xR x14]) (st := [xR ((xn h11 : Int)), xR v0]) (M' := mX1_init) (d' := 2) rfl rfl xw_313 xw_314 xw_315 xw_168 xh_X1_init rfl ⟨Nat.le_of_ble_eq_true rfl, Nat.le_of_ble_eq_true rfl⟩ (Nat.le_of_ble_eq_true rfl) rfl d_X11_init_61 (fun r hr => ct_X1_init l G ((xn h11 : Int)) x13 x14 h12 r hr) (fun r15 _ => ?_)
  refine xa_putF2 (tg := xR) xc_11 (by decide) (fun _ => rfl) rfl rfl rfl (fun c hc => xa_fitO c hc) xw_588 rfl d_X11_init_64 (fun h16 _ => ?_)
  refine xa_step (xa_aload_n d_X11_init_67 rfl) ?_
  refine xa_newO xc_0 xt_0 xw_327 xw_328 xw_169 d_X11_init_68 (fun h17 _ => ?_)
  refine xa_step (xa_dup d_X11_init_71 (xa_tR _)) ?_
  refine xa_callIV (nn := xn h16) (as := []) (st := [xR ((xn h16 : Int)), xR v0]) (M' := mX0_init) (d' := 3) rfl rfl xw_329 xw_330 xw_331 xw_169 xh_X0_init rfl ⟨Nat.le_of_ble_eq_true rfl, Nat.le_of_ble_eq_true rfl⟩ (Nat.le_of_ble_eq_true rfl) rfl d_X11_init_72 (fun r hr => ct_X0_init l G ((xn h16 : Int)) h17 r hr) (fun r18 _ => ?_)
  refine xa_putf2 (tg := xR) xc_11 (by decide) (fun _ => rfl) rfl (fun c hc => xa_fitO c hc) xw_589 rfl d_X11_init_75 (fun h19 _ => ?_)
  refine xa_step (xa_aload_n d_X11_init_78 rfl) ?_
  refine xa_newO xc_9 xt_9 xw_450 xw_334 xw_170 d_X11_init_79 (fun h20 _ => ?_)
  refine xa_step (xa_dup d_X11_init_82 (xa_tR _)) ?_
  refine xa_callINV (host := RX11) (nn := xn h19) (as := []) (st := [xR ((xn h19 : Int)), xR v0]) (M' := mX9_init) (d' := 2) rfl rfl (by simp [xa_N]) xw_336 xw_337 xw_170 xh_X9_init rfl ⟨Nat.le_of_ble_eq_true rfl, Nat.le_of_ble_eq_true rfl⟩ (Nat.le_of_ble_eq_true rfl) rfl d_X11_init_83 (fun r hr => ct_X9_init l G ((xn h19 : Int)) h20 r hr) (fun r21 _ => ?_)
  refine xa_putF2 (tg := xR) xc_11 (by decide) (fun _ => rfl) rfl rfl rfl (fun c hc => xa_fitO c hc) xw_590 rfl d_X11_init_86 (fun h22 _ => ?_)
  refine xa_step (xa_aload_n d_X11_init_89 rfl) ?_
  refine xa_newO xc_4 xt_4 xw_452 xw_453 xw_172 d_X11_init_90 (fun h23 _ => ?_)
  refine xa_step (xa_dup d_X11_init_93 (xa_tR _)) ?_
  refine xa_callIV (nn := xn h22) (as := []) (st := [xR ((xn h22 : Int)), xR v0]) (M' := mX4_init) (d' := 3) rfl rfl xw_454 xw_455 xw_456 xw_172 xh_X4_init rfl ⟨Nat.le_of_ble_eq_true rfl, Nat.le_of_ble_eq_true rfl⟩ (Nat.le_of_ble_eq_true rfl) rfl d_X11_init_94 (fun r hr => ct_X4_init l G ((xn h22 : Int)) h23 r hr) (fun r24 _ => ?_)
  refine xa_putF2 (tg := xR) xc_11 (by decide) (fun _ => rfl) rfl rfl rfl (fun c hc => xa_fitO c hc) xw_591 rfl d_X11_init_97 (fun h25 _ => ?_)
  refine xa_step (xa_aload_n d_X11_init_100 rfl) ?_
  refine xa_newO xc_7 xt_7 xw_472 xw_473 xw_173 d_X11_init_101 (fun h26 _ => ?_)
  refine xa_step (xa_dup d_X11_init_104 (xa_tR _)) ?_
  refine xa_callINV (host := RX11) (nn := xn h25) (as := []) (st := [xR ((xn h25 : Int)), xR v0]) (M' := mX7_init) (d' := 2) rfl rfl (by simp [xa_N]) xw_475 xw_476 xw_173 xh_X7_init rfl ⟨Nat.le_of_ble_eq_true rfl, Nat.le_of_ble_eq_true rfl⟩ (Nat.le_of_ble_eq_true rfl) rfl d_X11_init_105 (fun r hr => ct_X7_init l G ((xn h25 : Int)) h26 r hr) (fun r27 _ => ?_)
  refine xa_putF2 (tg := xR) xc_11 (by decide) (fun _ => rfl) rfl rfl rfl (fun c hc => xa_fitO c hc) xw_592 rfl d_X11_init_108 (fun h28 _ => ?_)
  refine xa_step (xa_aload_n d_X11_init_111 rfl) ?_
  refine xa_newO xc_7 xt_7 xw_472 xw_473 xw_173 d_X11_init_112 (fun h29 _ => ?_)
  refine xa_step (xa_dup d_X11_init_115 (xa_tR _)) ?_
  refine xa_callINV (host := RX11) (nn := xn h28) (as := []) (st := [xR ((xn h28 : Int)), xR v0]) (M' := mX7_init) (d' := 2) rfl rfl (by simp [xa_N]) xw_475 xw_476 xw_173 xh_X7_init rfl ⟨Nat.le_of_ble_eq_true rfl, Nat.le_of_ble_eq_true rfl⟩ (Nat.le_of_ble_eq_true rfl) rfl d_X11_init_116 (fun r hr => ct_X7_init l G ((xn h28 : Int)) h29 r hr) (fun r30 _ => ?_)
  refine xa_putF2 (tg := xR) xc_11 (by decide) (fun _ => rfl) rfl rfl rfl (fun c hc => xa_fitO c hc) xw_593 rfl d_X11_init_119 (fun h31 _ => ?_)
  refine xa_step (xa_aload_n d_X11_init_122 rfl) ?_
  refine xa_newO xc_5 xt_5 xw_504 xw_505 xw_174 d_X11_init_123 (fun h32 _ => ?_)
  refine xa_step (xa_dup d_X11_init_126 (xa_tR _)) ?_
  refine xa_callINV (host := RX11) (nn := xn h31) (as := []) (st := [xR ((xn h31 : Int)), xR v0]) (M' := mX5_init) (d' := 2) rfl rfl (by simp [xa_N]) xw_507 xw_508 xw_174 xh_X5_init rfl ⟨Nat.le_of_ble_eq_true rfl, Nat.le_of_ble_eq_true rfl⟩ (Nat.le_of_ble_eq_true rfl) rfl d_X11_init_127 (fun r hr => ct_X5_init l G ((xn h31 : Int)) h32 r hr) (fun r33 _ => ?_)
  refine xa_putF2 (tg := xR) xc_11 (by decide) (fun _ => rfl) rfl rfl rfl (fun c hc => xa_fitO c hc) xw_594 rfl d_X11_init_130 (fun h34 _ => ?_)
  refine xa_step (xa_aload_n d_X11_init_133 rfl) ?_
  refine xa_newO xc_10 xt_10 xw_537 xw_538 xw_175 d_X11_init_134 (fun h35 _ => ?_)
  refine xa_step (xa_dup d_X11_init_137 (xa_tR _)) ?_
  refine xa_callINV (host := RX11) (nn := xn h34) (as := []) (st := [xR ((xn h34 : Int)), xR v0]) (M' := mX10_init) (d' := 2) rfl rfl (by simp [xa_N]) xw_540 xw_541 xw_175 xh_X10_init rfl ⟨Nat.le_of_ble_eq_true rfl, Nat.le_of_ble_eq_true rfl⟩ (Nat.le_of_ble_eq_true rfl) rfl d_X11_init_138 (fun r hr => ct_X10_init l G ((xn h34 : Int)) h35 r hr) (fun r36 _ => ?_)
  refine xa_putF2 (tg := xR) xc_11 (by decide) (fun _ => rfl) rfl rfl rfl (fun c hc => xa_fitO c hc) xw_595 rfl d_X11_init_141 (fun h37 _ => ?_)
  refine xa_step (xa_aload_n d_X11_init_144 rfl) ?_
  refine xa_step (xa_iconst d_X11_init_145 xq_i_2) ?_
  refine xa_anew 5 (Or.inr rfl) rfl xw_559 d_X11_init_146 (fun h38 _ => ?_)
  refine xa_putF2 (tg := xR) xc_11 (by decide) (fun _ => rfl) rfl rfl rfl (fun c hc => xa_fitA c hc) xw_596 rfl d_X11_init_149 (fun h39 _ => ?_)
  refine xa_step (xa_aload_n d_X11_init_152 rfl) ?_
  refine xa_step (xa_bipush d_X11_init_153 xq_b_6) ?_
  refine xa_newarr 0 .int (by decide) rfl xw_291 d_X11_init_155 (fun h40 _ => ?_)
  refine xa_putF2 (tg := xR) xc_11 (by decide) (fun _ => rfl) rfl rfl rfl (fun c hc => xa_fitA c hc) xw_597 rfl d_X11_init_157 (fun h41 _ => ?_)
  refine xa_step (xa_aload_n d_X11_init_160 rfl) ?_
  refine xa_step (xa_bipush d_X11_init_161 xq_b_14) ?_
  refine xa_newarr 0 .int (by decide) rfl xw_291 d_X11_init_163 (fun h42 _ => ?_)
  refine xa_putF2 (tg := xR) xc_11 (by decide) (fun _ => rfl) rfl rfl rfl (fun c hc => xa_fitA c hc) xw_598 rfl d_X11_init_165 (fun h43 _ => ?_)
  refine xa_step (xa_aload_n d_X11_init_168 rfl) ?_
  refine xa_step (xa_bipush d_X11_init_169 xq_b_63) ?_
  refine xa_newarr 0 .int (by decide) rfl xw_291 d_X11_init_171 (fun h44 _ => ?_)
  refine xa_putF2 (tg := xR) xc_11 (by decide) (fun _ => rfl) rfl rfl rfl (fun c hc => xa_fitA c hc) xw_599 rfl d_X11_init_173 (fun h45 _ => ?_)
  refine xa_step (xa_aload_n d_X11_init_176 rfl) ?_
  refine xa_step (xa_iconst d_X11_init_177 xq_i_0) ?_
  refine xa_putf2 (tg := xI) xc_11 (by decide) (fun _ => rfl) rfl (fun c hc => xa_fitI c hc) xw_600 rfl d_X11_init_178 (fun h46 _ => ?_)
  refine xa_step (xa_aload_n d_X11_init_181 rfl) ?_
  refine xa_step (xa_bipush d_X11_init_182 xq_b_6) ?_
  refine xa_newarr 0 .int (by decide) rfl xw_291 d_X11_init_184 (fun h47 _ => ?_)
  refine xa_putF2 (tg := xR) xc_11 (by decide) (fun _ => rfl) rfl rfl rfl (fun c hc => xa_fitA c hc) xw_601 rfl d_X11_init_186 (fun h48 _ => ?_)
  refine xa_step (xa_aload_n d_X11_init_189 rfl) ?_
  refine xa_step (xa_iconst d_X11_init_190 xq_i_1) ?_
  refine xa_putf2 (tg := xI) xc_11 (by decide) (fun _ => rfl) rfl (fun c hc => xa_fitI c hc) xw_602 rfl d_X11_init_191 (fun h49 _ => ?_)
  refine xa_step (xa_aload_n d_X11_init_194 rfl) ?_
  refine xa_getf xR xc_11 (by decide) (fun _ => rfl) xw_594 rfl d_X11_init_195 (fun x50 _ => ?_)
  refine xa_step (xa_iconst d_X11_init_198 xq_i_0) ?_
  refine xa_step (xa_iconst d_X11_init_199 xq_i_0) ?_
  refine xa_callVV (as := [xI 0, xI 0]) (st := []) (M' := mX5_forget) (d' := 5) rfl xw_561 xw_562 xw_563 xw_564 xw_174 xh_X5_forget rfl ⟨Nat.le_of_ble_eq_true rfl, Nat.le_of_ble_eq_true rfl⟩ (Nat.le_of_ble_eq_true rfl) rfl d_X11_init_200 (fun r hr => ct_X5_forget l G x50 0 0 h49 r hr) (fun r51 _ => ?_)
  exact xa_vret d_X11_init_203 rfl rfl
theorem ct_X11_init (l : Launch) (G : xa_C) (v0 : Int) (h : xa_H) (r : xa_H) (hr : f_X11_init v0 h = some r) : xa_CT l G 7 mX11_init yX11_init [xR v0] h (none, r) :=
  xa_met (by decide +kernel) rfl (fun q => by first | rfl | cases q) (Nat.le_of_ble_eq_true rfl) rfl (g_X11_init l G v0 h) (by rw [hr]; rfl)
abbrev mX11_isSettled : xa_M := (cX11_isSettled, 2, (some (.boolean)), RX11, false)
theorem d_X11_isSettled_0 : decode mX11_isSettled.1 0 = .ok (.aload_n 0, 1) ∧ 0 + 1 = 1 := ⟨by decide +kernel, rfl⟩
theorem d_X11_isSettled_1 : decode mX11_isSettled.1 1 = .ok (.getfield 54, 3) ∧ 1 + 3 = 4 := ⟨by decide +kernel, rfl⟩
theorem d_X11_isSettled_4 : decode mX11_isSettled.1 4 = .ok (.getfield 217, 3) ∧ 4 + 3 = 7 := ⟨by decide +kernel, rfl⟩
theorem d_X11_isSettled_7 : decode mX11_isSettled.1 7 = .ok (.iload_n 1, 1) ∧ 7 + 1 = 8 := ⟨by decide +kernel, rfl⟩
theorem d_X11_isSettled_8 : decode mX11_isSettled.1 8 = .ok (.iaload, 1) ∧ 8 + 1 = 9 := ⟨by decide +kernel, rfl⟩
theorem d_X11_isSettled_9 : decode mX11_isSettled.1 9 = .ok (.aload_n 0, 1) ∧ 9 + 1 = 10 := ⟨by decide +kernel, rfl⟩
theorem d_X11_isSettled_10 : decode mX11_isSettled.1 10 = .ok (.getfield 54, 3) ∧ 10 + 3 = 13 := ⟨by decide +kernel, rfl⟩
theorem d_X11_isSettled_13 : decode mX11_isSettled.1 13 = .ok (.getfield 220, 3) ∧ 13 + 3 = 16 := ⟨by decide +kernel, rfl⟩
theorem d_X11_isSettled_16 : decode mX11_isSettled.1 16 = .ok (.iload_n 1, 1) ∧ 16 + 1 = 17 := ⟨by decide +kernel, rfl⟩
theorem d_X11_isSettled_17 : decode mX11_isSettled.1 17 = .ok (.iaload, 1) ∧ 17 + 1 = 18 := ⟨by decide +kernel, rfl⟩
theorem d_X11_isSettled_18 : decode mX11_isSettled.1 18 = .ok (.if_icmp .ne 7, 3) ∧ 18 + 3 = 21 ∧ ((18 : Nat) : Int) + 7 = ((25 : Nat) : Int) := ⟨by decide +kernel, rfl, rfl⟩
theorem d_X11_isSettled_21 : decode mX11_isSettled.1 21 = .ok (.iconst 1, 1) ∧ 21 + 1 = 22 := ⟨by decide +kernel, rfl⟩
theorem d_X11_isSettled_22 : decode mX11_isSettled.1 22 = .ok (.goto 4, 3) ∧ ((22 : Nat) : Int) + 4 = ((26 : Nat) : Int) := ⟨by decide +kernel, rfl⟩
theorem d_X11_isSettled_26 : decode mX11_isSettled.1 26 = .ok (.ireturn, 1) := by decide +kernel
theorem d_X11_isSettled_25 : decode mX11_isSettled.1 25 = .ok (.iconst 0, 1) ∧ 25 + 1 = 26 := ⟨by decide +kernel, rfl⟩
set_option maxRecDepth 100000 in
set_option maxHeartbeats 4000000 in
theorem g_X11_isSettled (l : Launch) (G : xa_C) (v0 v1 : Int) (h : xa_H) : xa_G l G 2 mX11_isSettled (f_X11_isSettled v0 v1 h) (fun r => some (some (xI r), h) : Int → Option xa_O) 0 [some (xR v0), some (xI v1)] [] h := by
  unfold f_X11_isSettled
  refine xa_step (xa_aload_n d_X11_isSettled_0 rfl) ?_
  refine xa_getf xR xc_11 (by decide) (fun _ => rfl) xw_590 rfl d_X11_isSettled_1 (fun x1 _ => ?_)
  refine xa_getf xR xc_9 (by decide) (fun _ => rfl) xw_346 rfl d_X11_isSettled_4 (fun x2 _ => ?_)
  refine xa_step (xa_iload_n d_X11_isSettled_7 rfl) ?_
  refine xa_iaload d_X11_isSettled_8 (fun x3 _ => ?_)
  refine xa_step (xa_aload_n d_X11_isSettled_9 rfl) ?_
  refine xa_getf xR xc_11 (by decide) (fun _ => rfl) xw_590 rfl d_X11_isSettled_10 (fun x4 _ => ?_)
  refine xa_getf xR xc_9 (by decide) (fun _ => rfl) xw_350 rfl d_X11_isSettled_13 (fun x5 _ => ?_)
  refine xa_step (xa_iload_n d_X11_isSettled_16 rfl) ?_
  refine xa_iaload d_X11_isSettled_17 (fun x6 _ => ?_)
  refine xa_if (xa_icmpne d_X11_isSettled_18) (fun q7 => ?_) (fun q7 => ?_)
  · refine xa_step (xa_iconst d_X11_isSettled_21 xq_i_1) ?_
    refine xa_step (xa_goto d_X11_isSettled_22) ?_
    exact xa_zret d_X11_isSettled_26 rfl (Or.inr rfl) rfl
  · refine xa_step (xa_iconst d_X11_isSettled_25 xq_i_0) ?_
    exact xa_zret d_X11_isSettled_26 rfl (Or.inl rfl) rfl
theorem ct_X11_isSettled (l : Launch) (G : xa_C) (v0 v1 : Int) (h : xa_H) (r : Int) (hr : f_X11_isSettled v0 v1 h = some r) : xa_CT l G 2 mX11_isSettled yX11_isSettled [xR v0, xI v1] h (some (xI r), h) :=
  xa_met (by decide +kernel) rfl (fun q => by first | rfl | cases q) (Nat.le_of_ble_eq_true rfl) rfl (g_X11_isSettled l G v0 v1 h) (by rw [hr]; rfl)
abbrev mX0_valueOf : xa_M := (cX0_valueOf, 3, (some (.int)), RX0, false)
theorem d_X0_valueOf_0 : decode mX0_valueOf.1 0 = .ok (.aload_n 0, 1) ∧ 0 + 1 = 1 := ⟨by decide +kernel, rfl⟩
theorem d_X0_valueOf_1 : decode mX0_valueOf.1 1 = .ok (.getfield 40, 3) ∧ 1 + 3 = 4 := ⟨by decide +kernel, rfl⟩
theorem d_X0_valueOf_4 : decode mX0_valueOf.1 4 = .ok (.iload_n 1, 1) ∧ 4 + 1 = 5 := ⟨by decide +kernel, rfl⟩
theorem d_X0_valueOf_5 : decode mX0_valueOf.1 5 = .ok (.bipush 6, 2) ∧ 5 + 2 = 7 := ⟨by decide +kernel, rfl⟩
theorem d_X0_valueOf_7 : decode mX0_valueOf.1 7 = .ok (.imul, 1) ∧ 7 + 1 = 8 := ⟨by decide +kernel, rfl⟩
theorem d_X0_valueOf_8 : decode mX0_valueOf.1 8 = .ok (.iload_n 2, 1) ∧ 8 + 1 = 9 := ⟨by decide +kernel, rfl⟩
theorem d_X0_valueOf_9 : decode mX0_valueOf.1 9 = .ok (.iadd, 1) ∧ 9 + 1 = 10 := ⟨by decide +kernel, rfl⟩
theorem d_X0_valueOf_10 : decode mX0_valueOf.1 10 = .ok (.iaload, 1) ∧ 10 + 1 = 11 := ⟨by decide +kernel, rfl⟩
theorem d_X0_valueOf_11 : decode mX0_valueOf.1 11 = .ok (.ireturn, 1) := by decide +kernel
set_option maxRecDepth 100000 in
set_option maxHeartbeats 4000000 in
theorem g_X0_valueOf (l : Launch) (G : xa_C) (v0 v1 v2 : Int) (h : xa_H) : xa_G l G 2 mX0_valueOf (f_X0_valueOf v0 v1 v2 h) (fun r => some (some (xI r), h) : Int → Option xa_O) 0 [some (xR v0), some (xI v1), some (xI v2)] [] h := by
  unfold f_X0_valueOf
  refine xa_step (xa_aload_n d_X0_valueOf_0 rfl) ?_
  refine xa_getf xR xc_0 (by decide) (fun _ => rfl) xw_408 rfl d_X0_valueOf_1 (fun x1 _ => ?_)
  refine xa_step (xa_iload_n d_X0_valueOf_4 rfl) ?_
  refine xa_step (xa_bipush d_X0_valueOf_5 xq_b_6) ?_
  refine xa_step (xa_imul d_X0_valueOf_7) ?_
  refine xa_step (xa_iload_n d_X0_valueOf_8 rfl) ?_
  refine xa_step (xa_iadd d_X0_valueOf_9) ?_
  refine xa_iaload d_X0_valueOf_10 (fun x2 _ => ?_)
  exact xa_iret d_X0_valueOf_11 rfl rfl
theorem ct_X0_valueOf (l : Launch) (G : xa_C) (v0 v1 v2 : Int) (h : xa_H) (r : Int) (hr : f_X0_valueOf v0 v1 v2 h = some r) : xa_CT l G 2 mX0_valueOf yX0_valueOf [xR v0, xI v1, xI v2] h (some (xI r), h) :=
  xa_met (by decide +kernel) rfl (fun q => by first | rfl | cases q) (Nat.le_of_ble_eq_true rfl) rfl (g_X0_valueOf l G v0 v1 v2 h) (by rw [hr]; rfl)
abbrev mX11_findFacts : xa_M := (cX11_findFacts, 4, none, RX11, false)
theorem d_X11_findFacts_0 : decode mX11_findFacts.1 0 = .ok (.aload_n 0, 1) ∧ 0 + 1 = 1 := ⟨by decide +kernel, rfl⟩
theorem d_X11_findFacts_1 : decode mX11_findFacts.1 1 = .ok (.getfield 54, 3) ∧ 1 + 3 = 4 := ⟨by decide +kernel, rfl⟩
theorem d_X11_findFacts_4 : decode mX11_findFacts.1 4 = .ok (.getfield 217, 3) ∧ 4 + 3 = 7 := ⟨by decide +kernel, rfl⟩
theorem d_X11_findFacts_7 : decode mX11_findFacts.1 7 = .ok (.iload_n 1, 1) ∧ 7 + 1 = 8 := ⟨by decide +kernel, rfl⟩
theorem d_X11_findFacts_8 : decode mX11_findFacts.1 8 = .ok (.iaload, 1) ∧ 8 + 1 = 9 := ⟨by decide +kernel, rfl⟩
theorem d_X11_findFacts_9 : decode mX11_findFacts.1 9 = .ok (.istore_n 2, 1) ∧ 9 + 1 = 10 := ⟨by decide +kernel, rfl⟩
theorem d_X11_findFacts_10 : decode mX11_findFacts.1 10 = .ok (.aload_n 0, 1) ∧ 10 + 1 = 11 := ⟨by decide +kernel, rfl⟩
theorem d_X11_findFacts_11 : decode mX11_findFacts.1 11 = .ok (.getfield 99, 3) ∧ 11 + 3 = 14 := ⟨by decide +kernel, rfl⟩
theorem d_X11_findFacts_14 : decode mX11_findFacts.1 14 = .ok (.bipush 7, 2) ∧ 14 + 2 = 16 := ⟨by decide +kernel, rfl⟩
theorem d_X11_findFacts_16 : decode mX11_findFacts.1 16 = .ok (.iload_n 1, 1) ∧ 16 + 1 = 17 := ⟨by decide +kernel, rfl⟩
theorem d_X11_findFacts_17 : decode mX11_findFacts.1 17 = .ok (.iastore, 1) ∧ 17 + 1 = 18 := ⟨by decide +kernel, rfl⟩
theorem d_X11_findFacts_18 : decode mX11_findFacts.1 18 = .ok (.aload_n 0, 1) ∧ 18 + 1 = 19 := ⟨by decide +kernel, rfl⟩
theorem d_X11_findFacts_19 : decode mX11_findFacts.1 19 = .ok (.getfield 99, 3) ∧ 19 + 3 = 22 := ⟨by decide +kernel, rfl⟩
theorem d_X11_findFacts_22 : decode mX11_findFacts.1 22 = .ok (.iconst 1, 1) ∧ 22 + 1 = 23 := ⟨by decide +kernel, rfl⟩
theorem d_X11_findFacts_23 : decode mX11_findFacts.1 23 = .ok (.aload_n 0, 1) ∧ 23 + 1 = 24 := ⟨by decide +kernel, rfl⟩
theorem d_X11_findFacts_24 : decode mX11_findFacts.1 24 = .ok (.getfield 47, 3) ∧ 24 + 3 = 27 := ⟨by decide +kernel, rfl⟩
theorem d_X11_findFacts_27 : decode mX11_findFacts.1 27 = .ok (.iload_n 1, 1) ∧ 27 + 1 = 28 := ⟨by decide +kernel, rfl⟩
theorem d_X11_findFacts_28 : decode mX11_findFacts.1 28 = .ok (.iload_n 2, 1) ∧ 28 + 1 = 29 := ⟨by decide +kernel, rfl⟩
theorem d_X11_findFacts_29 : decode mX11_findFacts.1 29 = .ok (.invokevirtual 232, 3) ∧ 29 + 3 = 32 := ⟨by decide +kernel, rfl⟩
theorem d_X11_findFacts_32 : decode mX11_findFacts.1 32 = .ok (.iastore, 1) ∧ 32 + 1 = 33 := ⟨by decide +kernel, rfl⟩
theorem d_X11_findFacts_33 : decode mX11_findFacts.1 33 = .ok (.aload_n 0, 1) ∧ 33 + 1 = 34 := ⟨by decide +kernel, rfl⟩
theorem d_X11_findFacts_34 : decode mX11_findFacts.1 34 = .ok (.getfield 99, 3) ∧ 34 + 3 = 37 := ⟨by decide +kernel, rfl⟩
theorem d_X11_findFacts_37 : decode mX11_findFacts.1 37 = .ok (.iconst 2, 1) ∧ 37 + 1 = 38 := ⟨by decide +kernel, rfl⟩
theorem d_X11_findFacts_38 : decode mX11_findFacts.1 38 = .ok (.aload_n 0, 1) ∧ 38 + 1 = 39 := ⟨by decide +kernel, rfl⟩
theorem d_X11_findFacts_39 : decode mX11_findFacts.1 39 = .ok (.iload_n 1, 1) ∧ 39 + 1 = 40 := ⟨by decide +kernel, rfl⟩
theorem d_X11_findFacts_40 : decode mX11_findFacts.1 40 = .ok (.invokevirtual 226, 3) ∧ 40 + 3 = 43 := ⟨by decide +kernel, rfl⟩
theorem d_X11_findFacts_43 : decode mX11_findFacts.1 43 = .ok (.ifCond .eq 7, 3) ∧ 43 + 3 = 46 ∧ ((43 : Nat) : Int) + 7 = ((50 : Nat) : Int) := ⟨by decide +kernel, rfl, rfl⟩
theorem d_X11_findFacts_50 : decode mX11_findFacts.1 50 = .ok (.iconst 0, 1) ∧ 50 + 1 = 51 := ⟨by decide +kernel, rfl⟩
theorem d_X11_findFacts_51 : decode mX11_findFacts.1 51 = .ok (.iastore, 1) ∧ 51 + 1 = 52 := ⟨by decide +kernel, rfl⟩
theorem d_X11_findFacts_52 : decode mX11_findFacts.1 52 = .ok (.aload_n 0, 1) ∧ 52 + 1 = 53 := ⟨by decide +kernel, rfl⟩
theorem d_X11_findFacts_53 : decode mX11_findFacts.1 53 = .ok (.getfield 99, 3) ∧ 53 + 3 = 56 := ⟨by decide +kernel, rfl⟩
theorem d_X11_findFacts_56 : decode mX11_findFacts.1 56 = .ok (.iconst 3, 1) ∧ 56 + 1 = 57 := ⟨by decide +kernel, rfl⟩
theorem d_X11_findFacts_57 : decode mX11_findFacts.1 57 = .ok (.aload_n 0, 1) ∧ 57 + 1 = 58 := ⟨by decide +kernel, rfl⟩
theorem d_X11_findFacts_58 : decode mX11_findFacts.1 58 = .ok (.getfield 47, 3) ∧ 58 + 3 = 61 := ⟨by decide +kernel, rfl⟩
theorem d_X11_findFacts_61 : decode mX11_findFacts.1 61 = .ok (.getfield 205, 3) ∧ 61 + 3 = 64 := ⟨by decide +kernel, rfl⟩
theorem d_X11_findFacts_64 : decode mX11_findFacts.1 64 = .ok (.iload_n 2, 1) ∧ 64 + 1 = 65 := ⟨by decide +kernel, rfl⟩
theorem d_X11_findFacts_65 : decode mX11_findFacts.1 65 = .ok (.iaload, 1) ∧ 65 + 1 = 66 := ⟨by decide +kernel, rfl⟩
theorem d_X11_findFacts_66 : decode mX11_findFacts.1 66 = .ok (.iastore, 1) ∧ 66 + 1 = 67 := ⟨by decide +kernel, rfl⟩
theorem d_X11_findFacts_67 : decode mX11_findFacts.1 67 = .ok (.aload_n 0, 1) ∧ 67 + 1 = 68 := ⟨by decide +kernel, rfl⟩
theorem d_X11_findFacts_68 : decode mX11_findFacts.1 68 = .ok (.getfield 99, 3) ∧ 68 + 3 = 71 := ⟨by decide +kernel, rfl⟩
theorem d_X11_findFacts_71 : decode mX11_findFacts.1 71 = .ok (.iconst 5, 1) ∧ 71 + 1 = 72 := ⟨by decide +kernel, rfl⟩
theorem d_X11_findFacts_72 : decode mX11_findFacts.1 72 = .ok (.aload_n 0, 1) ∧ 72 + 1 = 73 := ⟨by decide +kernel, rfl⟩
theorem d_X11_findFacts_73 : decode mX11_findFacts.1 73 = .ok (.getfield 54, 3) ∧ 73 + 3 = 76 := ⟨by decide +kernel, rfl⟩
theorem d_X11_findFacts_76 : decode mX11_findFacts.1 76 = .ok (.getfield 223, 3) ∧ 76 + 3 = 79 := ⟨by decide +kernel, rfl⟩
theorem d_X11_findFacts_79 : decode mX11_findFacts.1 79 = .ok (.iload_n 1, 1) ∧ 79 + 1 = 80 := ⟨by decide +kernel, rfl⟩
theorem d_X11_findFacts_80 : decode mX11_findFacts.1 80 = .ok (.iaload, 1) ∧ 80 + 1 = 81 := ⟨by decide +kernel, rfl⟩
theorem d_X11_findFacts_81 : decode mX11_findFacts.1 81 = .ok (.iastore, 1) ∧ 81 + 1 = 82 := ⟨by decide +kernel, rfl⟩
theorem d_X11_findFacts_82 : decode mX11_findFacts.1 82 = .ok (.aload_n 0, 1) ∧ 82 + 1 = 83 := ⟨by decide +kernel, rfl⟩
theorem d_X11_findFacts_83 : decode mX11_findFacts.1 83 = .ok (.getfield 99, 3) ∧ 83 + 3 = 86 := ⟨by decide +kernel, rfl⟩
theorem d_X11_findFacts_86 : decode mX11_findFacts.1 86 = .ok (.bipush 6, 2) ∧ 86 + 2 = 88 := ⟨by decide +kernel, rfl⟩
theorem d_X11_findFacts_88 : decode mX11_findFacts.1 88 = .ok (.aload_n 0, 1) ∧ 88 + 1 = 89 := ⟨by decide +kernel, rfl⟩
theorem d_X11_findFacts_89 : decode mX11_findFacts.1 89 = .ok (.getfield 54, 3) ∧ 89 + 3 = 92 := ⟨by decide +kernel, rfl⟩
theorem d_X11_findFacts_92 : decode mX11_findFacts.1 92 = .ok (.getfield 167, 3) ∧ 92 + 3 = 95 := ⟨by decide +kernel, rfl⟩
theorem d_X11_findFacts_95 : decode mX11_findFacts.1 95 = .ok (.iastore, 1) ∧ 95 + 1 = 96 := ⟨by decide +kernel, rfl⟩
theorem d_X11_findFacts_96 : decode mX11_findFacts.1 96 = .ok (.iconst 0, 1) ∧ 96 + 1 = 97 := ⟨by decide +kernel, rfl⟩
theorem d_X11_findFacts_97 : decode mX11_findFacts.1 97 = .ok (.istore_n 3, 1) ∧ 97 + 1 = 98 := ⟨by decide +kernel, rfl⟩
theorem d_X11_findFacts_98 : decode mX11_findFacts.1 98 = .ok (.iload_n 3, 1) ∧ 98 + 1 = 99 := ⟨by decide +kernel, rfl⟩
theorem d_X11_findFacts_99 : decode mX11_findFacts.1 99 = .ok (.bipush 6, 2) ∧ 99 + 2 = 101 := ⟨by decide +kernel, rfl⟩
theorem d_X11_findFacts_101 : decode mX11_findFacts.1 101 = .ok (.if_icmp .ge 47, 3) ∧ 101 + 3 = 104 ∧ ((101 : Nat) : Int) + 47 = ((148 : Nat) : Int) := ⟨by decide +kernel, rfl, rfl⟩
theorem d_X11_findFacts_104 : decode mX11_findFacts.1 104 = .ok (.aload_n 0, 1) ∧ 104 + 1 = 105 := ⟨by decide +kernel, rfl⟩
theorem d_X11_findFacts_105 : decode mX11_findFacts.1 105 = .ok (.getfield 99, 3) ∧ 105 + 3 = 108 := ⟨by decide +kernel, rfl⟩
theorem d_X11_findFacts_108 : decode mX11_findFacts.1 108 = .ok (.bipush 8, 2) ∧ 108 + 2 = 110 := ⟨by decide +kernel, rfl⟩
theorem d_X11_findFacts_110 : decode mX11_findFacts.1 110 = .ok (.iload_n 3, 1) ∧ 110 + 1 = 111 := ⟨by decide +kernel, rfl⟩
theorem d_X11_findFacts_111 : decode mX11_findFacts.1 111 = .ok (.iadd, 1) ∧ 111 + 1 = 112 := ⟨by decide +kernel, rfl⟩
theorem d_X11_findFacts_112 : decode mX11_findFacts.1 112 = .ok (.iload_n 3, 1) ∧ 112 + 1 = 113 := ⟨by decide +kernel, rfl⟩
theorem d_X11_findFacts_113 : decode mX11_findFacts.1 113 = .ok (.aload_n 0, 1) ∧ 113 + 1 = 114 := ⟨by decide +kernel, rfl⟩
theorem d_X11_findFacts_114 : decode mX11_findFacts.1 114 = .ok (.getfield 47, 3) ∧ 114 + 3 = 117 := ⟨by decide +kernel, rfl⟩
theorem d_X11_findFacts_117 : decode mX11_findFacts.1 117 = .ok (.getfield 146, 3) ∧ 117 + 3 = 120 := ⟨by decide +kernel, rfl⟩
theorem d_X11_findFacts_120 : decode mX11_findFacts.1 120 = .ok (.if_icmp .ge 20, 3) ∧ 120 + 3 = 123 ∧ ((120 : Nat) : Int) + 20 = ((140 : Nat) : Int) := ⟨by decide +kernel, rfl, rfl⟩
theorem d_X11_findFacts_123 : decode mX11_findFacts.1 123 = .ok (.aload_n 0, 1) ∧ 123 + 1 = 124 := ⟨by decide +kernel, rfl⟩
theorem d_X11_findFacts_124 : decode mX11_findFacts.1 124 = .ok (.getfield 54, 3) ∧ 124 + 3 = 127 := ⟨by decide +kernel, rfl⟩
theorem d_X11_findFacts_127 : decode mX11_findFacts.1 127 = .ok (.getfield 235, 3) ∧ 127 + 3 = 130 := ⟨by decide +kernel, rfl⟩
theorem d_X11_findFacts_130 : decode mX11_findFacts.1 130 = .ok (.iload_n 1, 1) ∧ 130 + 1 = 131 := ⟨by decide +kernel, rfl⟩
theorem d_X11_findFacts_131 : decode mX11_findFacts.1 131 = .ok (.bipush 6, 2) ∧ 131 + 2 = 133 := ⟨by decide +kernel, rfl⟩
theorem d_X11_findFacts_133 : decode mX11_findFacts.1 133 = .ok (.imul, 1) ∧ 133 + 1 = 134 := ⟨by decide +kernel, rfl⟩
theorem d_X11_findFacts_134 : decode mX11_findFacts.1 134 = .ok (.iload_n 3, 1) ∧ 134 + 1 = 135 := ⟨by decide +kernel, rfl⟩
theorem d_X11_findFacts_135 : decode mX11_findFacts.1 135 = .ok (.iadd, 1) ∧ 135 + 1 = 136 := ⟨by decide +kernel, rfl⟩
theorem d_X11_findFacts_136 : decode mX11_findFacts.1 136 = .ok (.iaload, 1) ∧ 136 + 1 = 137 := ⟨by decide +kernel, rfl⟩
theorem d_X11_findFacts_137 : decode mX11_findFacts.1 137 = .ok (.goto 4, 3) ∧ ((137 : Nat) : Int) + 4 = ((141 : Nat) : Int) := ⟨by decide +kernel, rfl⟩
theorem d_X11_findFacts_141 : decode mX11_findFacts.1 141 = .ok (.iastore, 1) ∧ 141 + 1 = 142 := ⟨by decide +kernel, rfl⟩
theorem d_X11_findFacts_142 : decode mX11_findFacts.1 142 = .ok (.iinc 3 1, 3) ∧ 142 + 3 = 145 := ⟨by decide +kernel, rfl⟩
theorem d_X11_findFacts_145 : decode mX11_findFacts.1 145 = .ok (.goto (-47), 3) ∧ ((145 : Nat) : Int) + (-47) = ((98 : Nat) : Int) := ⟨by decide +kernel, rfl⟩
theorem d_X11_findFacts_140 : decode mX11_findFacts.1 140 = .ok (.iconst 0, 1) ∧ 140 + 1 = 141 := ⟨by decide +kernel, rfl⟩
set_option maxRecDepth 100000 in
set_option maxHeartbeats 4000000 in
theorem g_X11_findFacts_L98 (l : Launch) (G : xa_C) (c0 c1 : Int) (K : (Int × xa_H) ⊕ (xa_H) → Option xa_O) (hb : ∀ (v3 : Int) (h : xa_H), xa_G l G 3 mX11_findFacts (some (Sum.inl ((v3, h)))) K 98 [some (xR c0), some (xI c1), none, some (xI v3)] [] h) (hx : ∀ (h : xa_H), xa_G l G 3 mX11_findFacts (some (Sum.inr h)) K 148 [none, none, none, none] [] h) : ∀ (v3 : Int) (h : xa_H), xa_G l G 3 mX11_findFacts (f_X11_findFacts_L98 c0 c1 v3 h) K 98 [some (xR c0), some (xI c1), none, some (xI v3)] [] h := by
  intro v3 h
  unfold f_X11_findFacts_L98
  refine xa_step (xa_iload_n d_X11_findFacts_98 rfl) ?_
  refine xa_step (xa_bipush d_X11_findFacts_99 xq_b_6) ?_
  refine xa_if (xa_icmpge d_X11_findFacts_101) (fun q28 => ?_) (fun q28 => ?_)
  · refine xa_step (xa_aload_n d_X11_findFacts_104 rfl) ?_
    refine xa_getf xR xc_11 (by decide) (fun _ => rfl) xw_598 rfl d_X11_findFacts_105 (fun x29 _ => ?_)
    refine xa_step (xa_bipush d_X11_findFacts_108 xq_b_8) ?_
    refine xa_step (xa_iload_n d_X11_findFacts_110 rfl) ?_
    refine xa_step (xa_iadd d_X11_findFacts_111) ?_
    refine xa_step (xa_iload_n d_X11_findFacts_112 rfl) ?_
    refine xa_step (xa_aload_n d_X11_findFacts_113 rfl) ?_
    refine xa_getf xR xc_11 (by decide) (fun _ => rfl) xw_589 rfl d_X11_findFacts_114 (fun x30 _ => ?_)
    refine xa_getf xI xc_0 (by decide) (fun _ => rfl) xw_391 rfl d_X11_findFacts_117 (fun x31 _ => ?_)
    refine xa_if (xa_icmpge d_X11_findFacts_120) (fun q32 => ?_) (fun q32 => ?_)
    · refine xa_step (xa_aload_n d_X11_findFacts_123 rfl) ?_
      refine xa_getf xR xc_11 (by decide) (fun _ => rfl) xw_590 rfl d_X11_findFacts_124 (fun x33 _ => ?_)
      refine xa_getf xR xc_9 (by decide) (fun _ => rfl) xw_357 rfl d_X11_findFacts_127 (fun x34 _ => ?_)
      refine xa_step (xa_iload_n d_X11_findFacts_130 rfl) ?_
      refine xa_step (xa_bipush d_X11_findFacts_131 xq_b_6) ?_
      refine xa_step (xa_imul d_X11_findFacts_133) ?_
      refine xa_step (xa_iload_n d_X11_findFacts_134 rfl) ?_
      refine xa_step (xa_iadd d_X11_findFacts_135) ?_
      refine xa_iaload d_X11_findFacts_136 (fun x35 _ => ?_)
      refine xa_step (xa_goto d_X11_findFacts_137) ?_
      refine xa_iastore2 d_X11_findFacts_141 (fun h36 _ => ?_)
      refine xa_step (xa_iinc (ls' := [some (xR c0), some (xI c1), none, some (xI (w32 (v3 + 1)))]) d_X11_findFacts_142 xq_i_1 rfl (by decide) rfl) ?_
      refine xa_step (xa_goto d_X11_findFacts_145) ?_
      exact xa_weak (ls' := [some (xR c0), some (xI c1), none, some (xI (w32 (v3 + 1)))]) ⟨rfl, rfl, rfl, trivial⟩ (hb (w32 (v3 + 1)) h36)
    · refine xa_step (xa_iconst d_X11_findFacts_140 xq_i_0) ?_
      refine xa_iastore2 d_X11_findFacts_141 (fun h37 _ => ?_)
      refine xa_step (xa_iinc (ls' := [some (xR c0), some (xI c1), none, some (xI (w32 (v3 + 1)))]) d_X11_findFacts_142 xq_i_1 rfl (by decide) rfl) ?_
      refine xa_step (xa_goto d_X11_findFacts_145) ?_
      exact xa_weak (ls' := [some (xR c0), some (xI c1), none, some (xI (w32 (v3 + 1)))]) ⟨rfl, rfl, rfl, trivial⟩ (hb (w32 (v3 + 1)) h37)
  · exact xa_weak (ls' := [none, none, none, none]) trivial (hx h)
theorem d_X11_findFacts_148 : decode mX11_findFacts.1 148 = .ok (.return_, 1) := by decide +kernel
set_option maxRecDepth 100000 in
set_option maxHeartbeats 4000000 in
theorem g_X11_findFacts_J51 (l : Launch) (G : xa_C) : ∀ (v0 v1 v2 s0 s1 s2 : Int) (h : xa_H) , xa_G l G 3 mX11_findFacts (f_X11_findFacts_J51 v0 v1 v2 s0 s1 s2 h) (fun r => some (none, r) : xa_H → Option xa_O) 51 [some (xR v0), some (xI v1), some (xI v2), none] [xI s2, xI s1, xR s0] h := by
  intro v0 v1 v2 s0 s1 s2 h
  unfold f_X11_findFacts_J51
  refine xa_iastore2 d_X11_findFacts_51 (fun h13 _ => ?_)
  refine xa_step (xa_aload_n d_X11_findFacts_52 rfl) ?_
  refine xa_getf xR xc_11 (by decide) (fun _ => rfl) xw_598 rfl d_X11_findFacts_53 (fun x14 _ => ?_)
  refine xa_step (xa_iconst d_X11_findFacts_56 xq_i_3) ?_
  refine xa_step (xa_aload_n d_X11_findFacts_57 rfl) ?_
  refine xa_getf xR xc_11 (by decide) (fun _ => rfl) xw_589 rfl d_X11_findFacts_58 (fun x15 _ => ?_)
  refine xa_getf xR xc_0 (by decide) (fun _ => rfl) xw_404 rfl d_X11_findFacts_61 (fun x16 _ => ?_)
  refine xa_step (xa_iload_n d_X11_findFacts_64 rfl) ?_
  refine xa_iaload d_X11_findFacts_65 (fun x17 _ => ?_)
  refine xa_iastore2 d_X11_findFacts_66 (fun h18 _ => ?_)
  refine xa_step (xa_aload_n d_X11_findFacts_67 rfl) ?_
  refine xa_getf xR xc_11 (by decide) (fun _ => rfl) xw_598 rfl d_X11_findFacts_68 (fun x19 _ => ?_)
  refine xa_step (xa_iconst d_X11_findFacts_71 xq_i_5) ?_
  refine xa_step (xa_aload_n d_X11_findFacts_72 rfl) ?_
  refine xa_getf xR xc_11 (by decide) (fun _ => rfl) xw_590 rfl d_X11_findFacts_73 (fun x20 _ => ?_)
  refine xa_getf xR xc_9 (by decide) (fun _ => rfl) xw_354 rfl d_X11_findFacts_76 (fun x21 _ => ?_)
  refine xa_step (xa_iload_n d_X11_findFacts_79 rfl) ?_
  refine xa_iaload d_X11_findFacts_80 (fun x22 _ => ?_)
  refine xa_iastore2 d_X11_findFacts_81 (fun h23 _ => ?_)
  refine xa_step (xa_aload_n d_X11_findFacts_82 rfl) ?_
  refine xa_getf xR xc_11 (by decide) (fun _ => rfl) xw_598 rfl d_X11_findFacts_83 (fun x24 _ => ?_)
  refine xa_step (xa_bipush d_X11_findFacts_86 xq_b_6) ?_
  refine xa_step (xa_aload_n d_X11_findFacts_88 rfl) ?_
  refine xa_getf xR xc_11 (by decide) (fun _ => rfl) xw_590 rfl d_X11_findFacts_89 (fun x25 _ => ?_)
  refine xa_getf xI xc_9 (by decide) (fun _ => rfl) xw_341 rfl d_X11_findFacts_92 (fun x26 _ => ?_)
  refine xa_iastore2 d_X11_findFacts_95 (fun h27 _ => ?_)
  refine xa_step (xa_iconst d_X11_findFacts_96 xq_i_0) ?_
  refine xa_step (xa_istore_n (ls' := [some (xR v0), some (xI v1), some (xI v2), some (xI 0)]) d_X11_findFacts_97 (by decide) rfl) ?_
  refine xa_weak (ls' := [some (xR v0), some (xI v1), none, some (xI 0)]) ⟨rfl, rfl, rfl, trivial⟩ ?_
  refine xa_loop (f := fun s => f_X11_findFacts_L98 v0 v1 s.1 s.2) (L := fun s => [some (xR v0), some (xI v1), none, some (xI s.1)]) (P := fun s => s.2) (X := (fun x K => xa_G l G 3 mX11_findFacts (some (Sum.inr x)) K 148 [none, none, none, none] [] x)) (fun K hb hX s => g_X11_findFacts_L98 l G v0 v1 K (fun w0 hh => hb ((w0, hh))) (fun hh => hX hh) s.1 s.2) ?_ xFU ((0, h27))
  intro e38 K hK
  refine xa_eqE hK ?_
  show xa_G l G 3 mX11_findFacts _ _ 148 [none, none, none, none] [] e38
  exact xa_vret d_X11_findFacts_148 rfl rfl
theorem d_X11_findFacts_46 : decode mX11_findFacts.1 46 = .ok (.iconst 1, 1) ∧ 46 + 1 = 47 := ⟨by decide +kernel, rfl⟩
theorem d_X11_findFacts_47 : decode mX11_findFacts.1 47 = .ok (.goto 4, 3) ∧ ((47 : Nat) : Int) + 4 = ((51 : Nat) : Int) := ⟨by decide +kernel, rfl⟩
set_option maxRecDepth 100000 in
set_option maxHeartbeats 4000000 in
theorem g_X11_findFacts (l : Launch) (G : xa_C) (v0 v1 : Int) (h : xa_H) : xa_G l G 3 mX11_findFacts (f_X11_findFacts v0 v1 h) (fun r => some (none, r) : xa_H → Option xa_O) 0 [some (xR v0), some (xI v1), none, none] [] h := by
  unfold f_X11_findFacts
  refine xa_step (xa_aload_n d_X11_findFacts_0 rfl) ?_
  refine xa_getf xR xc_11 (by decide) (fun _ => rfl) xw_590 rfl d_X11_findFacts_1 (fun x1 _ => ?_)
  refine xa_getf xR xc_9 (by decide) (fun _ => rfl) xw_346 rfl d_X11_findFacts_4 (fun x2 _ => ?_)
  refine xa_step (xa_iload_n d_X11_findFacts_7 rfl) ?_
  refine xa_iaload d_X11_findFacts_8 (fun x3 _ => ?_)
  refine xa_step (xa_istore_n (ls' := [some (xR v0), some (xI v1), some (xI x3), none]) d_X11_findFacts_9 (by decide) rfl) ?_
  refine xa_step (xa_aload_n d_X11_findFacts_10 rfl) ?_
  refine xa_getf xR xc_11 (by decide) (fun _ => rfl) xw_598 rfl d_X11_findFacts_11 (fun x4 _ => ?_)
  refine xa_step (xa_bipush d_X11_findFacts_14 xq_b_7) ?_
  refine xa_step (xa_iload_n d_X11_findFacts_16 rfl) ?_
  refine xa_iastore2 d_X11_findFacts_17 (fun h5 _ => ?_)
  refine xa_step (xa_aload_n d_X11_findFacts_18 rfl) ?_
  refine xa_getf xR xc_11 (by decide) (fun _ => rfl) xw_598 rfl d_X11_findFacts_19 (fun x6 _ => ?_)
  refine xa_step (xa_iconst d_X11_findFacts_22 xq_i_1) ?_
  refine xa_step (xa_aload_n d_X11_findFacts_23 rfl) ?_
  refine xa_getf xR xc_11 (by decide) (fun _ => rfl) xw_589 rfl d_X11_findFacts_24 (fun x7 _ => ?_)
  refine xa_step (xa_iload_n d_X11_findFacts_27 rfl) ?_
  refine xa_step (xa_iload_n d_X11_findFacts_28 rfl) ?_
  refine xa_callVi (as := [xI v1, xI x3]) (st := [xI 1, xR x6]) (M' := mX0_valueOf) (d' := 2) rfl xw_906 xw_907 xw_908 xw_909 xw_169 xh_X0_valueOf rfl ⟨Nat.le_of_ble_eq_true rfl, Nat.le_of_ble_eq_true rfl⟩ (Nat.le_of_ble_eq_true rfl) rfl d_X11_findFacts_29 (fun r hr => ct_X0_valueOf l G x7 v1 x3 h5 r hr) (fun r8 _ => ?_)
  refine xa_iastore2 d_X11_findFacts_32 (fun h9 _ => ?_)
  refine xa_step (xa_aload_n d_X11_findFacts_33 rfl) ?_
  refine xa_getf xR xc_11 (by decide) (fun _ => rfl) xw_598 rfl d_X11_findFacts_34 (fun x10 _ => ?_)
  refine xa_step (xa_iconst d_X11_findFacts_37 xq_i_2) ?_
  refine xa_step (xa_aload_n d_X11_findFacts_38 rfl) ?_
  refine xa_step (xa_iload_n d_X11_findFacts_39 rfl) ?_
  refine xa_callVi (as := [xI v1]) (st := [xI 2, xR x10]) (M' := mX11_isSettled) (d' := 2) rfl xw_894 xw_896 xw_29 xw_897 xw_161 xh_X11_isSettled rfl ⟨Nat.le_of_ble_eq_true rfl, Nat.le_of_ble_eq_true rfl⟩ (Nat.le_of_ble_eq_true rfl) rfl d_X11_findFacts_40 (fun r hr => ct_X11_isSettled l G v0 v1 h9 r hr) (fun r11 _ => ?_)
  refine xa_if (xa_ifeq d_X11_findFacts_43) (fun q12 => ?_) (fun q12 => ?_)
  · refine xa_step (xa_iconst d_X11_findFacts_50 xq_i_0) ?_
    exact xa_weak (ls' := [some (xR v0), some (xI v1), some (xI x3), none]) ⟨rfl, rfl, rfl, trivial⟩ (g_X11_findFacts_J51 l G v0 v1 x3 x10 2 0 h9)
  · refine xa_step (xa_iconst d_X11_findFacts_46 xq_i_1) ?_
    refine xa_step (xa_goto d_X11_findFacts_47) ?_
    exact xa_weak (ls' := [some (xR v0), some (xI v1), some (xI x3), none]) ⟨rfl, rfl, rfl, trivial⟩ (g_X11_findFacts_J51 l G v0 v1 x3 x10 2 1 h9)
theorem ct_X11_findFacts (l : Launch) (G : xa_C) (v0 v1 : Int) (h : xa_H) (r : xa_H) (hr : f_X11_findFacts v0 v1 h = some r) : xa_CT l G 3 mX11_findFacts yX11_findFacts [xR v0, xI v1] h (none, r) :=
  xa_met (by decide +kernel) rfl (fun q => by first | rfl | cases q) (Nat.le_of_ble_eq_true rfl) rfl (g_X11_findFacts l G v0 v1 h) (by rw [hr]; rfl)
abbrev mX2_ofOne : xa_M := (cX2_ofOne, 3, (some (.int)), RX2, false)
theorem d_X2_ofOne_0 : decode mX2_ofOne.1 0 = .ok (.iload_n 0, 1) ∧ 0 + 1 = 1 := ⟨by decide +kernel, rfl⟩
theorem d_X2_ofOne_1 : decode mX2_ofOne.1 1 = .ok (.bipush (-9), 2) ∧ 1 + 2 = 3 := ⟨by decide +kernel, rfl⟩
theorem d_X2_ofOne_3 : decode mX2_ofOne.1 3 = .ok (.if_icmp .ne 7, 3) ∧ 3 + 3 = 6 ∧ ((3 : Nat) : Int) + 7 = ((10 : Nat) : Int) := ⟨by decide +kernel, rfl, rfl⟩
theorem d_X2_ofOne_6 : decode mX2_ofOne.1 6 = .ok (.iconst 1, 1) ∧ 6 + 1 = 7 := ⟨by decide +kernel, rfl⟩
theorem d_X2_ofOne_7 : decode mX2_ofOne.1 7 = .ok (.iload_n 1, 1) ∧ 7 + 1 = 8 := ⟨by decide +kernel, rfl⟩
theorem d_X2_ofOne_8 : decode mX2_ofOne.1 8 = .ok (.isub, 1) ∧ 8 + 1 = 9 := ⟨by decide +kernel, rfl⟩
theorem d_X2_ofOne_9 : decode mX2_ofOne.1 9 = .ok (.ireturn, 1) := by decide +kernel
theorem d_X2_ofOne_10 : decode mX2_ofOne.1 10 = .ok (.iload_n 1, 1) ∧ 10 + 1 = 11 := ⟨by decide +kernel, rfl⟩
theorem d_X2_ofOne_11 : decode mX2_ofOne.1 11 = .ok (.ifCond .lt 18, 3) ∧ 11 + 3 = 14 ∧ ((11 : Nat) : Int) + 18 = ((29 : Nat) : Int) := ⟨by decide +kernel, rfl, rfl⟩
theorem d_X2_ofOne_29 : decode mX2_ofOne.1 29 = .ok (.iconst 0, 1) ∧ 29 + 1 = 30 := ⟨by decide +kernel, rfl⟩
theorem d_X2_ofOne_30 : decode mX2_ofOne.1 30 = .ok (.ireturn, 1) := by decide +kernel
theorem d_X2_ofOne_14 : decode mX2_ofOne.1 14 = .ok (.iload_n 1, 1) ∧ 14 + 1 = 15 := ⟨by decide +kernel, rfl⟩
theorem d_X2_ofOne_15 : decode mX2_ofOne.1 15 = .ok (.bipush 6, 2) ∧ 15 + 2 = 17 := ⟨by decide +kernel, rfl⟩
theorem d_X2_ofOne_17 : decode mX2_ofOne.1 17 = .ok (.if_icmp .ge 12, 3) ∧ 17 + 3 = 20 ∧ ((17 : Nat) : Int) + 12 = ((29 : Nat) : Int) := ⟨by decide +kernel, rfl, rfl⟩
theorem d_X2_ofOne_20 : decode mX2_ofOne.1 20 = .ok (.aload_n 2, 1) ∧ 20 + 1 = 21 := ⟨by decide +kernel, rfl⟩
theorem d_X2_ofOne_21 : decode mX2_ofOne.1 21 = .ok (.bipush 8, 2) ∧ 21 + 2 = 23 := ⟨by decide +kernel, rfl⟩
theorem d_X2_ofOne_23 : decode mX2_ofOne.1 23 = .ok (.iload_n 1, 1) ∧ 23 + 1 = 24 := ⟨by decide +kernel, rfl⟩
theorem d_X2_ofOne_24 : decode mX2_ofOne.1 24 = .ok (.iadd, 1) ∧ 24 + 1 = 25 := ⟨by decide +kernel, rfl⟩
theorem d_X2_ofOne_25 : decode mX2_ofOne.1 25 = .ok (.iaload, 1) ∧ 25 + 1 = 26 := ⟨by decide +kernel, rfl⟩
theorem d_X2_ofOne_26 : decode mX2_ofOne.1 26 = .ok (.goto 4, 3) ∧ ((26 : Nat) : Int) + 4 = ((30 : Nat) : Int) := ⟨by decide +kernel, rfl⟩
set_option maxRecDepth 100000 in
set_option maxHeartbeats 4000000 in
theorem g_X2_ofOne (l : Launch) (G : xa_C) (v0 v1 v2 : Int) (h : xa_H) : xa_G l G 2 mX2_ofOne (f_X2_ofOne v0 v1 v2 h) (fun r => some (some (xI r), h) : Int → Option xa_O) 0 [some (xI v0), some (xI v1), some (xR v2)] [] h := by
  unfold f_X2_ofOne
  refine xa_step (xa_iload_n d_X2_ofOne_0 rfl) ?_
  refine xa_step (xa_bipush d_X2_ofOne_1 xq_b_m9) ?_
  refine xa_if (xa_icmpne d_X2_ofOne_3) (fun q1 => ?_) (fun q1 => ?_)
  · refine xa_step (xa_iconst d_X2_ofOne_6 xq_i_1) ?_
    refine xa_step (xa_iload_n d_X2_ofOne_7 rfl) ?_
    refine xa_step (xa_isub d_X2_ofOne_8) ?_
    exact xa_iret d_X2_ofOne_9 rfl rfl
  · refine xa_step (xa_iload_n d_X2_ofOne_10 rfl) ?_
    refine xa_if (xa_iflt d_X2_ofOne_11) (fun q2 => ?_) (fun q2 => ?_)
    · refine xa_step (xa_iconst d_X2_ofOne_29 xq_i_0) ?_
      exact xa_iret d_X2_ofOne_30 rfl rfl
    · refine xa_step (xa_iload_n d_X2_ofOne_14 rfl) ?_
      refine xa_step (xa_bipush d_X2_ofOne_15 xq_b_6) ?_
      refine xa_if (xa_icmpge d_X2_ofOne_17) (fun q3 => ?_) (fun q3 => ?_)
      · refine xa_step (xa_aload_n d_X2_ofOne_20 rfl) ?_
        refine xa_step (xa_bipush d_X2_ofOne_21 xq_b_8) ?_
        refine xa_step (xa_iload_n d_X2_ofOne_23 rfl) ?_
        refine xa_step (xa_iadd d_X2_ofOne_24) ?_
        refine xa_iaload d_X2_ofOne_25 (fun x4 _ => ?_)
        refine xa_step (xa_goto d_X2_ofOne_26) ?_
        exact xa_iret d_X2_ofOne_30 rfl rfl
      · refine xa_step (xa_iconst d_X2_ofOne_29 xq_i_0) ?_
        exact xa_iret d_X2_ofOne_30 rfl rfl
theorem ct_X2_ofOne (l : Launch) (G : xa_C) (v0 v1 v2 : Int) (h : xa_H) (r : Int) (hr : f_X2_ofOne v0 v1 v2 h = some r) : xa_CT l G 2 mX2_ofOne yX2_ofOne [xI v0, xI v1, xR v2] h (some (xI r), h) :=
  xa_met (by decide +kernel) rfl (fun q => by first | rfl | cases q) (Nat.le_of_ble_eq_true rfl) rfl (g_X2_ofOne l G v0 v1 v2 h) (by rw [hr]; rfl)
abbrev mX2_limited : xa_M := (cX2_limited, 2, (some (.int)), RX2, false)
theorem d_X2_limited_0 : decode mX2_limited.1 0 = .ok (.ldc2_w 42, 3) ∧ 0 + 3 = 3 := ⟨by decide +kernel, rfl⟩
theorem d_X2_limited_3 : decode mX2_limited.1 3 = .ok (.ldc2_w 44, 3) ∧ 3 + 3 = 6 := ⟨by decide +kernel, rfl⟩
theorem d_X2_limited_6 : decode mX2_limited.1 6 = .ok (.lload_n 0, 1) ∧ 6 + 1 = 7 := ⟨by decide +kernel, rfl⟩
theorem d_X2_limited_7 : decode mX2_limited.1 7 = .ok (.invokestatic 46, 3) ∧ 7 + 3 = 10 := ⟨by decide +kernel, rfl⟩
theorem d_X2_limited_10 : decode mX2_limited.1 10 = .ok (.invokestatic 49, 3) ∧ 10 + 3 = 13 := ⟨by decide +kernel, rfl⟩
theorem d_X2_limited_13 : decode mX2_limited.1 13 = .ok (.l2i, 1) ∧ 13 + 1 = 14 := ⟨by decide +kernel, rfl⟩
theorem d_X2_limited_14 : decode mX2_limited.1 14 = .ok (.ireturn, 1) := by decide +kernel
set_option maxRecDepth 100000 in
set_option maxHeartbeats 4000000 in
theorem g_X2_limited (l : Launch) (G : xa_C) (v0 : Int) (h : xa_H) : xa_G l G 2 mX2_limited (f_X2_limited v0 h) (fun r => some (some (xI r), h) : Int → Option xa_O) 0 [some (xL v0), none] [] h := by
  unfold f_X2_limited
  refine xa_step (xa_ldc2 (c64 := (-1000000)) (v := (-1000000)) (by decide +kernel) xw_993 d_X2_limited_0) ?_
  refine xa_step (xa_ldc2 (c64 := 1000000) (v := 1000000) (by decide +kernel) xw_994 d_X2_limited_3) ?_
  refine xa_step (xa_lload_n d_X2_limited_6 rfl) ?_
  refine xa_mminL xw_995 xw_996 xw_179 xw_997 (by decide) (Nat.le_of_ble_eq_true rfl) d_X2_limited_7 ?_
  refine xa_mmaxL xw_998 xw_999 xw_179 xw_1000 (by decide) (Nat.le_of_ble_eq_true rfl) d_X2_limited_10 ?_
  refine xa_step (xa_l2i d_X2_limited_13) ?_
  exact xa_iret d_X2_limited_14 rfl rfl
theorem ct_X2_limited (l : Launch) (G : xa_C) (v0 : Int) (h : xa_H) (r : Int) (hr : f_X2_limited v0 h = some r) : xa_CT l G 2 mX2_limited yX2_limited [xL v0] h (some (xI r), h) :=
  xa_met (by decide +kernel) rfl (fun q => by first | rfl | cases q) (Nat.le_of_ble_eq_true rfl) rfl (g_X2_limited l G v0 h) (by rw [hr]; rfl)
abbrev mX2_ofTwo : xa_M := (cX2_ofTwo, 3, (some (.int)), RX2, false)
theorem d_X2_ofTwo_0 : decode mX2_ofTwo.1 0 = .ok (.iload_n 0, 1) ∧ 0 + 1 = 1 := ⟨by decide +kernel, rfl⟩
theorem d_X2_ofTwo_1 : decode mX2_ofTwo.1 1 = .ok (.tableswitch 145 (-20) (-11) #[141, 130, 119, 108, 102, 96, 82, 73, 64, 55], 55) := by decide +kernel
theorem d_X2_ofTwo_142 : decode mX2_ofTwo.1 142 = .ok (.iload_n 1, 1) ∧ 142 + 1 = 143 := ⟨by decide +kernel, rfl⟩
theorem d_X2_ofTwo_143 : decode mX2_ofTwo.1 143 = .ok (.iload_n 2, 1) ∧ 143 + 1 = 144 := ⟨by decide +kernel, rfl⟩
theorem d_X2_ofTwo_144 : decode mX2_ofTwo.1 144 = .ok (.iand, 1) ∧ 144 + 1 = 145 := ⟨by decide +kernel, rfl⟩
theorem d_X2_ofTwo_145 : decode mX2_ofTwo.1 145 = .ok (.ireturn, 1) := by decide +kernel
theorem d_X2_ofTwo_131 : decode mX2_ofTwo.1 131 = .ok (.iload_n 1, 1) ∧ 131 + 1 = 132 := ⟨by decide +kernel, rfl⟩
theorem d_X2_ofTwo_132 : decode mX2_ofTwo.1 132 = .ok (.iload_n 2, 1) ∧ 132 + 1 = 133 := ⟨by decide +kernel, rfl⟩
theorem d_X2_ofTwo_133 : decode mX2_ofTwo.1 133 = .ok (.if_icmp .ne 7, 3) ∧ 133 + 3 = 136 ∧ ((133 : Nat) : Int) + 7 = ((140 : Nat) : Int) := ⟨by decide +kernel, rfl, rfl⟩
theorem d_X2_ofTwo_136 : decode mX2_ofTwo.1 136 = .ok (.iconst 1, 1) ∧ 136 + 1 = 137 := ⟨by decide +kernel, rfl⟩
theorem d_X2_ofTwo_137 : decode mX2_ofTwo.1 137 = .ok (.goto 4, 3) ∧ ((137 : Nat) : Int) + 4 = ((141 : Nat) : Int) := ⟨by decide +kernel, rfl⟩
theorem d_X2_ofTwo_141 : decode mX2_ofTwo.1 141 = .ok (.ireturn, 1) := by decide +kernel
theorem d_X2_ofTwo_140 : decode mX2_ofTwo.1 140 = .ok (.iconst 0, 1) ∧ 140 + 1 = 141 := ⟨by decide +kernel, rfl⟩
theorem d_X2_ofTwo_120 : decode mX2_ofTwo.1 120 = .ok (.iload_n 1, 1) ∧ 120 + 1 = 121 := ⟨by decide +kernel, rfl⟩
theorem d_X2_ofTwo_121 : decode mX2_ofTwo.1 121 = .ok (.iload_n 2, 1) ∧ 121 + 1 = 122 := ⟨by decide +kernel, rfl⟩
theorem d_X2_ofTwo_122 : decode mX2_ofTwo.1 122 = .ok (.if_icmp .le 7, 3) ∧ 122 + 3 = 125 ∧ ((122 : Nat) : Int) + 7 = ((129 : Nat) : Int) := ⟨by decide +kernel, rfl, rfl⟩
theorem d_X2_ofTwo_125 : decode mX2_ofTwo.1 125 = .ok (.iconst 1, 1) ∧ 125 + 1 = 126 := ⟨by decide +kernel, rfl⟩
theorem d_X2_ofTwo_126 : decode mX2_ofTwo.1 126 = .ok (.goto 4, 3) ∧ ((126 : Nat) : Int) + 4 = ((130 : Nat) : Int) := ⟨by decide +kernel, rfl⟩
theorem d_X2_ofTwo_130 : decode mX2_ofTwo.1 130 = .ok (.ireturn, 1) := by decide +kernel
theorem d_X2_ofTwo_129 : decode mX2_ofTwo.1 129 = .ok (.iconst 0, 1) ∧ 129 + 1 = 130 := ⟨by decide +kernel, rfl⟩
theorem d_X2_ofTwo_109 : decode mX2_ofTwo.1 109 = .ok (.iload_n 1, 1) ∧ 109 + 1 = 110 := ⟨by decide +kernel, rfl⟩
theorem d_X2_ofTwo_110 : decode mX2_ofTwo.1 110 = .ok (.iload_n 2, 1) ∧ 110 + 1 = 111 := ⟨by decide +kernel, rfl⟩
theorem d_X2_ofTwo_111 : decode mX2_ofTwo.1 111 = .ok (.if_icmp .ge 7, 3) ∧ 111 + 3 = 114 ∧ ((111 : Nat) : Int) + 7 = ((118 : Nat) : Int) := ⟨by decide +kernel, rfl, rfl⟩
theorem d_X2_ofTwo_114 : decode mX2_ofTwo.1 114 = .ok (.iconst 1, 1) ∧ 114 + 1 = 115 := ⟨by decide +kernel, rfl⟩
theorem d_X2_ofTwo_115 : decode mX2_ofTwo.1 115 = .ok (.goto 4, 3) ∧ ((115 : Nat) : Int) + 4 = ((119 : Nat) : Int) := ⟨by decide +kernel, rfl⟩
theorem d_X2_ofTwo_119 : decode mX2_ofTwo.1 119 = .ok (.ireturn, 1) := by decide +kernel
theorem d_X2_ofTwo_118 : decode mX2_ofTwo.1 118 = .ok (.iconst 0, 1) ∧ 118 + 1 = 119 := ⟨by decide +kernel, rfl⟩
theorem d_X2_ofTwo_103 : decode mX2_ofTwo.1 103 = .ok (.iload_n 1, 1) ∧ 103 + 1 = 104 := ⟨by decide +kernel, rfl⟩
theorem d_X2_ofTwo_104 : decode mX2_ofTwo.1 104 = .ok (.iload_n 2, 1) ∧ 104 + 1 = 105 := ⟨by decide +kernel, rfl⟩
theorem d_X2_ofTwo_105 : decode mX2_ofTwo.1 105 = .ok (.invokestatic 39, 3) ∧ 105 + 3 = 108 := ⟨by decide +kernel, rfl⟩
theorem d_X2_ofTwo_108 : decode mX2_ofTwo.1 108 = .ok (.ireturn, 1) := by decide +kernel
theorem d_X2_ofTwo_97 : decode mX2_ofTwo.1 97 = .ok (.iload_n 1, 1) ∧ 97 + 1 = 98 := ⟨by decide +kernel, rfl⟩
theorem d_X2_ofTwo_98 : decode mX2_ofTwo.1 98 = .ok (.iload_n 2, 1) ∧ 98 + 1 = 99 := ⟨by decide +kernel, rfl⟩
theorem d_X2_ofTwo_99 : decode mX2_ofTwo.1 99 = .ok (.invokestatic 36, 3) ∧ 99 + 3 = 102 := ⟨by decide +kernel, rfl⟩
theorem d_X2_ofTwo_102 : decode mX2_ofTwo.1 102 = .ok (.ireturn, 1) := by decide +kernel
theorem d_X2_ofTwo_83 : decode mX2_ofTwo.1 83 = .ok (.iload_n 2, 1) ∧ 83 + 1 = 84 := ⟨by decide +kernel, rfl⟩
theorem d_X2_ofTwo_84 : decode mX2_ofTwo.1 84 = .ok (.ifCond .ne 7, 3) ∧ 84 + 3 = 87 ∧ ((84 : Nat) : Int) + 7 = ((91 : Nat) : Int) := ⟨by decide +kernel, rfl, rfl⟩
theorem d_X2_ofTwo_87 : decode mX2_ofTwo.1 87 = .ok (.iconst 0, 1) ∧ 87 + 1 = 88 := ⟨by decide +kernel, rfl⟩
theorem d_X2_ofTwo_88 : decode mX2_ofTwo.1 88 = .ok (.goto 8, 3) ∧ ((88 : Nat) : Int) + 8 = ((96 : Nat) : Int) := ⟨by decide +kernel, rfl⟩
theorem d_X2_ofTwo_96 : decode mX2_ofTwo.1 96 = .ok (.ireturn, 1) := by decide +kernel
theorem d_X2_ofTwo_91 : decode mX2_ofTwo.1 91 = .ok (.iload_n 1, 1) ∧ 91 + 1 = 92 := ⟨by decide +kernel, rfl⟩
theorem d_X2_ofTwo_92 : decode mX2_ofTwo.1 92 = .ok (.iload_n 2, 1) ∧ 92 + 1 = 93 := ⟨by decide +kernel, rfl⟩
theorem d_X2_ofTwo_93 : decode mX2_ofTwo.1 93 = .ok (.invokestatic 30, 3) ∧ 93 + 3 = 96 := ⟨by decide +kernel, rfl⟩
theorem d_X2_ofTwo_74 : decode mX2_ofTwo.1 74 = .ok (.iload_n 1, 1) ∧ 74 + 1 = 75 := ⟨by decide +kernel, rfl⟩
theorem d_X2_ofTwo_75 : decode mX2_ofTwo.1 75 = .ok (.i2l, 1) ∧ 75 + 1 = 76 := ⟨by decide +kernel, rfl⟩
theorem d_X2_ofTwo_76 : decode mX2_ofTwo.1 76 = .ok (.iload_n 2, 1) ∧ 76 + 1 = 77 := ⟨by decide +kernel, rfl⟩
theorem d_X2_ofTwo_77 : decode mX2_ofTwo.1 77 = .ok (.i2l, 1) ∧ 77 + 1 = 78 := ⟨by decide +kernel, rfl⟩
theorem d_X2_ofTwo_78 : decode mX2_ofTwo.1 78 = .ok (.lmul, 1) ∧ 78 + 1 = 79 := ⟨by decide +kernel, rfl⟩
theorem d_X2_ofTwo_79 : decode mX2_ofTwo.1 79 = .ok (.invokestatic 26, 3) ∧ 79 + 3 = 82 := ⟨by decide +kernel, rfl⟩
theorem d_X2_ofTwo_82 : decode mX2_ofTwo.1 82 = .ok (.ireturn, 1) := by decide +kernel
theorem d_X2_ofTwo_65 : decode mX2_ofTwo.1 65 = .ok (.iload_n 1, 1) ∧ 65 + 1 = 66 := ⟨by decide +kernel, rfl⟩
theorem d_X2_ofTwo_66 : decode mX2_ofTwo.1 66 = .ok (.i2l, 1) ∧ 66 + 1 = 67 := ⟨by decide +kernel, rfl⟩
theorem d_X2_ofTwo_67 : decode mX2_ofTwo.1 67 = .ok (.iload_n 2, 1) ∧ 67 + 1 = 68 := ⟨by decide +kernel, rfl⟩
theorem d_X2_ofTwo_68 : decode mX2_ofTwo.1 68 = .ok (.i2l, 1) ∧ 68 + 1 = 69 := ⟨by decide +kernel, rfl⟩
theorem d_X2_ofTwo_69 : decode mX2_ofTwo.1 69 = .ok (.lsub, 1) ∧ 69 + 1 = 70 := ⟨by decide +kernel, rfl⟩
theorem d_X2_ofTwo_70 : decode mX2_ofTwo.1 70 = .ok (.invokestatic 26, 3) ∧ 70 + 3 = 73 := ⟨by decide +kernel, rfl⟩
theorem d_X2_ofTwo_73 : decode mX2_ofTwo.1 73 = .ok (.ireturn, 1) := by decide +kernel
theorem d_X2_ofTwo_56 : decode mX2_ofTwo.1 56 = .ok (.iload_n 1, 1) ∧ 56 + 1 = 57 := ⟨by decide +kernel, rfl⟩
theorem d_X2_ofTwo_57 : decode mX2_ofTwo.1 57 = .ok (.i2l, 1) ∧ 57 + 1 = 58 := ⟨by decide +kernel, rfl⟩
theorem d_X2_ofTwo_58 : decode mX2_ofTwo.1 58 = .ok (.iload_n 2, 1) ∧ 58 + 1 = 59 := ⟨by decide +kernel, rfl⟩
theorem d_X2_ofTwo_59 : decode mX2_ofTwo.1 59 = .ok (.i2l, 1) ∧ 59 + 1 = 60 := ⟨by decide +kernel, rfl⟩
theorem d_X2_ofTwo_60 : decode mX2_ofTwo.1 60 = .ok (.ladd, 1) ∧ 60 + 1 = 61 := ⟨by decide +kernel, rfl⟩
theorem d_X2_ofTwo_61 : decode mX2_ofTwo.1 61 = .ok (.invokestatic 26, 3) ∧ 61 + 3 = 64 := ⟨by decide +kernel, rfl⟩
theorem d_X2_ofTwo_64 : decode mX2_ofTwo.1 64 = .ok (.ireturn, 1) := by decide +kernel
theorem d_X2_ofTwo_146 : decode mX2_ofTwo.1 146 = .ok (.iload_n 1, 1) ∧ 146 + 1 = 147 := ⟨by decide +kernel, rfl⟩
theorem d_X2_ofTwo_147 : decode mX2_ofTwo.1 147 = .ok (.iload_n 2, 1) ∧ 147 + 1 = 148 := ⟨by decide +kernel, rfl⟩
theorem d_X2_ofTwo_148 : decode mX2_ofTwo.1 148 = .ok (.ior, 1) ∧ 148 + 1 = 149 := ⟨by decide +kernel, rfl⟩
theorem d_X2_ofTwo_149 : decode mX2_ofTwo.1 149 = .ok (.ireturn, 1) := by decide +kernel
set_option maxRecDepth 100000 in
set_option maxHeartbeats 4000000 in
theorem g_X2_ofTwo (l : Launch) (G : xa_C) (v0 v1 v2 : Int) (h : xa_H) : xa_G l G 3 mX2_ofTwo (f_X2_ofTwo v0 v1 v2 h) (fun r => some (some (xI r), h) : Int → Option xa_O) 0 [some (xI v0), some (xI v1), some (xI v2)] [] h := by
  unfold f_X2_ofTwo
  refine xa_step (xa_iload_n d_X2_ofTwo_0 rfl) ?_
  refine xa_case (fun q1 => ?_) (fun q1 => ?_)
  · refine xa_step (xa_tabIn (k := (-20)) d_X2_ofTwo_1 q1 (by decide) (by decide) rfl rfl) ?_
    refine xa_step (xa_iload_n d_X2_ofTwo_142 rfl) ?_
    refine xa_step (xa_iload_n d_X2_ofTwo_143 rfl) ?_
    refine xa_step (xa_iand d_X2_ofTwo_144) ?_
    exact xa_iret d_X2_ofTwo_145 rfl rfl
  · refine xa_case (fun q2 => ?_) (fun q2 => ?_)
    · refine xa_step (xa_tabIn (k := (-19)) d_X2_ofTwo_1 q2 (by decide) (by decide) rfl rfl) ?_
      refine xa_step (xa_iload_n d_X2_ofTwo_131 rfl) ?_
      refine xa_step (xa_iload_n d_X2_ofTwo_132 rfl) ?_
      refine xa_if (xa_icmpne d_X2_ofTwo_133) (fun q3 => ?_) (fun q3 => ?_)
      · refine xa_step (xa_iconst d_X2_ofTwo_136 xq_i_1) ?_
        refine xa_step (xa_goto d_X2_ofTwo_137) ?_
        exact xa_iret d_X2_ofTwo_141 rfl rfl
      · refine xa_step (xa_iconst d_X2_ofTwo_140 xq_i_0) ?_
        exact xa_iret d_X2_ofTwo_141 rfl rfl
    · refine xa_case (fun q4 => ?_) (fun q4 => ?_)
      · refine xa_step (xa_tabIn (k := (-18)) d_X2_ofTwo_1 q4 (by decide) (by decide) rfl rfl) ?_
        refine xa_step (xa_iload_n d_X2_ofTwo_120 rfl) ?_
        refine xa_step (xa_iload_n d_X2_ofTwo_121 rfl) ?_
        refine xa_if (xa_icmple d_X2_ofTwo_122) (fun q5 => ?_) (fun q5 => ?_)
        · refine xa_step (xa_iconst d_X2_ofTwo_125 xq_i_1) ?_
          refine xa_step (xa_goto d_X2_ofTwo_126) ?_
          exact xa_iret d_X2_ofTwo_130 rfl rfl
        · refine xa_step (xa_iconst d_X2_ofTwo_129 xq_i_0) ?_
          exact xa_iret d_X2_ofTwo_130 rfl rfl
      · refine xa_case (fun q6 => ?_) (fun q6 => ?_)
        · refine xa_step (xa_tabIn (k := (-17)) d_X2_ofTwo_1 q6 (by decide) (by decide) rfl rfl) ?_
          refine xa_step (xa_iload_n d_X2_ofTwo_109 rfl) ?_
          refine xa_step (xa_iload_n d_X2_ofTwo_110 rfl) ?_
          refine xa_if (xa_icmpge d_X2_ofTwo_111) (fun q7 => ?_) (fun q7 => ?_)
          · refine xa_step (xa_iconst d_X2_ofTwo_114 xq_i_1) ?_
            refine xa_step (xa_goto d_X2_ofTwo_115) ?_
            exact xa_iret d_X2_ofTwo_119 rfl rfl
          · refine xa_step (xa_iconst d_X2_ofTwo_118 xq_i_0) ?_
            exact xa_iret d_X2_ofTwo_119 rfl rfl
        · refine xa_case (fun q8 => ?_) (fun q8 => ?_)
          · refine xa_step (xa_tabIn (k := (-16)) d_X2_ofTwo_1 q8 (by decide) (by decide) rfl rfl) ?_
            refine xa_step (xa_iload_n d_X2_ofTwo_103 rfl) ?_
            refine xa_step (xa_iload_n d_X2_ofTwo_104 rfl) ?_
            refine xa_mmaxI xw_1005 xw_1006 xw_179 xw_1007 (by decide) (Nat.le_of_ble_eq_true rfl) d_X2_ofTwo_105 ?_
            exact xa_iret d_X2_ofTwo_108 rfl rfl
          · refine xa_case (fun q9 => ?_) (fun q9 => ?_)
            · refine xa_step (xa_tabIn (k := (-15)) d_X2_ofTwo_1 q9 (by decide) (by decide) rfl rfl) ?_
              refine xa_step (xa_iload_n d_X2_ofTwo_97 rfl) ?_
              refine xa_step (xa_iload_n d_X2_ofTwo_98 rfl) ?_
              refine xa_mminI xw_1004 xw_847 xw_179 xw_848 (by decide) (Nat.le_of_ble_eq_true rfl) d_X2_ofTwo_99 ?_
              exact xa_iret d_X2_ofTwo_102 rfl rfl
            · refine xa_case (fun q10 => ?_) (fun q10 => ?_)
              · refine xa_step (xa_tabIn (k := (-14)) d_X2_ofTwo_1 q10 (by decide) (by decide) rfl rfl) ?_
                refine xa_step (xa_iload_n d_X2_ofTwo_83 rfl) ?_
                refine xa_if (xa_ifne d_X2_ofTwo_84) (fun q11 => ?_) (fun q11 => ?_)
                · refine xa_step (xa_iconst d_X2_ofTwo_87 xq_i_0) ?_
                  refine xa_step (xa_goto d_X2_ofTwo_88) ?_
                  exact xa_iret d_X2_ofTwo_96 rfl rfl
                · refine xa_step (xa_iload_n d_X2_ofTwo_91 rfl) ?_
                  refine xa_step (xa_iload_n d_X2_ofTwo_92 rfl) ?_
                  refine xa_mfd xw_1001 xw_1002 xw_179 xw_1003 (by decide) (Nat.le_of_ble_eq_true rfl) d_X2_ofTwo_93 (fun x12 _ => ?_)
                  exact xa_iret d_X2_ofTwo_96 rfl rfl
              · refine xa_case (fun q13 => ?_) (fun q13 => ?_)
                · refine xa_step (xa_tabIn (k := (-13)) d_X2_ofTwo_1 q13 (by decide) (by decide) rfl rfl) ?_
                  refine xa_step (xa_iload_n d_X2_ofTwo_74 rfl) ?_
                  refine xa_step (xa_i2l d_X2_ofTwo_75) ?_
                  refine xa_step (xa_iload_n d_X2_ofTwo_76 rfl) ?_
                  refine xa_step (xa_i2l d_X2_ofTwo_77) ?_
                  refine xa_step (xa_lmul d_X2_ofTwo_78) ?_
                  refine xa_callSi (as := [xL (w64 (v1 * v2))]) (st := []) (M' := mX2_limited) (d' := 2) xw_990 xw_991 xw_992 xw_178 xh_X2_limited rfl ⟨Nat.le_of_ble_eq_true rfl, Nat.le_of_ble_eq_true rfl⟩ (Nat.le_of_ble_eq_true rfl) rfl d_X2_ofTwo_79 (fun r hr => ct_X2_limited l G (w64 (v1 * v2)) h r hr) (fun r14 _ => ?_)
                  exact xa_iret d_X2_ofTwo_82 rfl rfl
                · refine xa_case (fun q15 => ?_) (fun q15 => ?_)
                  · refine xa_step (xa_tabIn (k := (-12)) d_X2_ofTwo_1 q15 (by decide) (by decide) rfl rfl) ?_
                    refine xa_step (xa_iload_n d_X2_ofTwo_65 rfl) ?_
                    refine xa_step (xa_i2l d_X2_ofTwo_66) ?_
                    refine xa_step (xa_iload_n d_X2_ofTwo_67 rfl) ?_
                    refine xa_step (xa_i2l d_X2_ofTwo_68) ?_
                    refine xa_step (xa_lsub d_X2_ofTwo_69) ?_
                    refine xa_callSi (as := [xL (w64 (v1 - v2))]) (st := []) (M' := mX2_limited) (d' := 2) xw_990 xw_991 xw_992 xw_178 xh_X2_limited rfl ⟨Nat.le_of_ble_eq_true rfl, Nat.le_of_ble_eq_true rfl⟩ (Nat.le_of_ble_eq_true rfl) rfl d_X2_ofTwo_70 (fun r hr => ct_X2_limited l G (w64 (v1 - v2)) h r hr) (fun r16 _ => ?_)
                    exact xa_iret d_X2_ofTwo_73 rfl rfl
                  · refine xa_case (fun q17 => ?_) (fun q17 => ?_)
                    · refine xa_step (xa_tabIn (k := (-11)) d_X2_ofTwo_1 q17 (by decide) (by decide) rfl rfl) ?_
                      refine xa_step (xa_iload_n d_X2_ofTwo_56 rfl) ?_
                      refine xa_step (xa_i2l d_X2_ofTwo_57) ?_
                      refine xa_step (xa_iload_n d_X2_ofTwo_58 rfl) ?_
                      refine xa_step (xa_i2l d_X2_ofTwo_59) ?_
                      refine xa_step (xa_ladd d_X2_ofTwo_60) ?_
                      refine xa_callSi (as := [xL (w64 (v1 + v2))]) (st := []) (M' := mX2_limited) (d' := 2) xw_990 xw_991 xw_992 xw_178 xh_X2_limited rfl ⟨Nat.le_of_ble_eq_true rfl, Nat.le_of_ble_eq_true rfl⟩ (Nat.le_of_ble_eq_true rfl) rfl d_X2_ofTwo_61 (fun r hr => ct_X2_limited l G (w64 (v1 + v2)) h r hr) (fun r18 _ => ?_)
                      exact xa_iret d_X2_ofTwo_64 rfl rfl
                    · refine xa_step (xa_tabOut d_X2_ofTwo_1 (by omega) rfl) ?_
                      refine xa_step (xa_iload_n d_X2_ofTwo_146 rfl) ?_
                      refine xa_step (xa_iload_n d_X2_ofTwo_147 rfl) ?_
                      refine xa_step (xa_ior d_X2_ofTwo_148) ?_
                      exact xa_iret d_X2_ofTwo_149 rfl rfl
theorem ct_X2_ofTwo (l : Launch) (G : xa_C) (v0 v1 v2 : Int) (h : xa_H) (r : Int) (hr : f_X2_ofTwo v0 v1 v2 h = some r) : xa_CT l G 3 mX2_ofTwo yX2_ofTwo [xI v0, xI v1, xI v2] h (some (xI r), h) :=
  xa_met (by decide +kernel) rfl (fun q => by first | rfl | cases q) (Nat.le_of_ble_eq_true rfl) rfl (g_X2_ofTwo l G v0 v1 v2 h) (by rw [hr]; rfl)
abbrev mX2_worth : xa_M := (cX2_worth, 7, (some (.int)), RX2, false)
theorem d_X2_worth_0 : decode mX2_worth.1 0 = .ok (.iconst 0, 1) ∧ 0 + 1 = 1 := ⟨by decide +kernel, rfl⟩
theorem d_X2_worth_1 : decode mX2_worth.1 1 = .ok (.istore_n 2, 1) ∧ 1 + 1 = 2 := ⟨by decide +kernel, rfl⟩
theorem d_X2_worth_2 : decode mX2_worth.1 2 = .ok (.aload_n 0, 1) ∧ 2 + 1 = 3 := ⟨by decide +kernel, rfl⟩
theorem d_X2_worth_3 : decode mX2_worth.1 3 = .ok (.getfield 15, 3) ∧ 3 + 3 = 6 := ⟨by decide +kernel, rfl⟩
theorem d_X2_worth_6 : decode mX2_worth.1 6 = .ok (.astore_n 3, 1) ∧ 6 + 1 = 7 := ⟨by decide +kernel, rfl⟩
theorem d_X2_worth_7 : decode mX2_worth.1 7 = .ok (.aload_n 3, 1) ∧ 7 + 1 = 8 := ⟨by decide +kernel, rfl⟩
theorem d_X2_worth_8 : decode mX2_worth.1 8 = .ok (.arraylength, 1) ∧ 8 + 1 = 9 := ⟨by decide +kernel, rfl⟩
theorem d_X2_worth_9 : decode mX2_worth.1 9 = .ok (.istore 4, 2) ∧ 9 + 2 = 11 := ⟨by decide +kernel, rfl⟩
theorem d_X2_worth_11 : decode mX2_worth.1 11 = .ok (.iconst 0, 1) ∧ 11 + 1 = 12 := ⟨by decide +kernel, rfl⟩
theorem d_X2_worth_12 : decode mX2_worth.1 12 = .ok (.istore 5, 2) ∧ 12 + 2 = 14 := ⟨by decide +kernel, rfl⟩
theorem d_X2_worth_14 : decode mX2_worth.1 14 = .ok (.iload 5, 2) ∧ 14 + 2 = 16 := ⟨by decide +kernel, rfl⟩
theorem d_X2_worth_16 : decode mX2_worth.1 16 = .ok (.iload 4, 2) ∧ 16 + 2 = 18 := ⟨by decide +kernel, rfl⟩
theorem d_X2_worth_18 : decode mX2_worth.1 18 = .ok (.if_icmp .ge 134, 3) ∧ 18 + 3 = 21 ∧ ((18 : Nat) : Int) + 134 = ((152 : Nat) : Int) := ⟨by decide +kernel, rfl, rfl⟩
theorem d_X2_worth_21 : decode mX2_worth.1 21 = .ok (.aload_n 3, 1) ∧ 21 + 1 = 22 := ⟨by decide +kernel, rfl⟩
theorem d_X2_worth_22 : decode mX2_worth.1 22 = .ok (.iload 5, 2) ∧ 22 + 2 = 24 := ⟨by decide +kernel, rfl⟩
theorem d_X2_worth_24 : decode mX2_worth.1 24 = .ok (.iaload, 1) ∧ 24 + 1 = 25 := ⟨by decide +kernel, rfl⟩
theorem d_X2_worth_25 : decode mX2_worth.1 25 = .ok (.istore 6, 2) ∧ 25 + 2 = 27 := ⟨by decide +kernel, rfl⟩
theorem d_X2_worth_27 : decode mX2_worth.1 27 = .ok (.iload 6, 2) ∧ 27 + 2 = 29 := ⟨by decide +kernel, rfl⟩
theorem d_X2_worth_29 : decode mX2_worth.1 29 = .ok (.bipush (-9), 2) ∧ 29 + 2 = 31 := ⟨by decide +kernel, rfl⟩
theorem d_X2_worth_31 : decode mX2_worth.1 31 = .ok (.if_icmp .le 39, 3) ∧ 31 + 3 = 34 ∧ ((31 : Nat) : Int) + 39 = ((70 : Nat) : Int) := ⟨by decide +kernel, rfl, rfl⟩
theorem d_X2_worth_34 : decode mX2_worth.1 34 = .ok (.iload_n 2, 1) ∧ 34 + 1 = 35 := ⟨by decide +kernel, rfl⟩
theorem d_X2_worth_35 : decode mX2_worth.1 35 = .ok (.bipush 64, 2) ∧ 35 + 2 = 37 := ⟨by decide +kernel, rfl⟩
theorem d_X2_worth_37 : decode mX2_worth.1 37 = .ok (.if_icmp .lt 5, 3) ∧ 37 + 3 = 40 ∧ ((37 : Nat) : Int) + 5 = ((42 : Nat) : Int) := ⟨by decide +kernel, rfl, rfl⟩
theorem d_X2_worth_42 : decode mX2_worth.1 42 = .ok (.aload_n 0, 1) ∧ 42 + 1 = 43 := ⟨by decide +kernel, rfl⟩
theorem d_X2_worth_43 : decode mX2_worth.1 43 = .ok (.getfield 9, 3) ∧ 43 + 3 = 46 := ⟨by decide +kernel, rfl⟩
theorem d_X2_worth_46 : decode mX2_worth.1 46 = .ok (.iload_n 2, 1) ∧ 46 + 1 = 47 := ⟨by decide +kernel, rfl⟩
theorem d_X2_worth_47 : decode mX2_worth.1 47 = .ok (.iload 6, 2) ∧ 47 + 2 = 49 := ⟨by decide +kernel, rfl⟩
theorem d_X2_worth_49 : decode mX2_worth.1 49 = .ok (.ifCond .lt 8, 3) ∧ 49 + 3 = 52 ∧ ((49 : Nat) : Int) + 8 = ((57 : Nat) : Int) := ⟨by decide +kernel, rfl, rfl⟩
theorem d_X2_worth_57 : decode mX2_worth.1 57 = .ok (.aload_n 1, 1) ∧ 57 + 1 = 58 := ⟨by decide +kernel, rfl⟩
theorem d_X2_worth_58 : decode mX2_worth.1 58 = .ok (.iconst (-1), 1) ∧ 58 + 1 = 59 := ⟨by decide +kernel, rfl⟩
theorem d_X2_worth_59 : decode mX2_worth.1 59 = .ok (.iload 6, 2) ∧ 59 + 2 = 61 := ⟨by decide +kernel, rfl⟩
theorem d_X2_worth_61 : decode mX2_worth.1 61 = .ok (.isub, 1) ∧ 61 + 1 = 62 := ⟨by decide +kernel, rfl⟩
theorem d_X2_worth_62 : decode mX2_worth.1 62 = .ok (.iaload, 1) ∧ 62 + 1 = 63 := ⟨by decide +kernel, rfl⟩
theorem d_X2_worth_63 : decode mX2_worth.1 63 = .ok (.iastore, 1) ∧ 63 + 1 = 64 := ⟨by decide +kernel, rfl⟩
theorem d_X2_worth_64 : decode mX2_worth.1 64 = .ok (.iinc 2 1, 3) ∧ 64 + 3 = 67 := ⟨by decide +kernel, rfl⟩
theorem d_X2_worth_67 : decode mX2_worth.1 67 = .ok (.goto 79, 3) ∧ ((67 : Nat) : Int) + 79 = ((146 : Nat) : Int) := ⟨by decide +kernel, rfl⟩
theorem d_X2_worth_146 : decode mX2_worth.1 146 = .ok (.iinc 5 1, 3) ∧ 146 + 3 = 149 := ⟨by decide +kernel, rfl⟩
theorem d_X2_worth_149 : decode mX2_worth.1 149 = .ok (.goto (-135), 3) ∧ ((149 : Nat) : Int) + (-135) = ((14 : Nat) : Int) := ⟨by decide +kernel, rfl⟩
theorem d_X2_worth_52 : decode mX2_worth.1 52 = .ok (.iload 6, 2) ∧ 52 + 2 = 54 := ⟨by decide +kernel, rfl⟩
theorem d_X2_worth_54 : decode mX2_worth.1 54 = .ok (.goto 9, 3) ∧ ((54 : Nat) : Int) + 9 = ((63 : Nat) : Int) := ⟨by decide +kernel, rfl⟩
theorem d_X2_worth_40 : decode mX2_worth.1 40 = .ok (.iconst 0, 1) ∧ 40 + 1 = 41 := ⟨by decide +kernel, rfl⟩
theorem d_X2_worth_41 : decode mX2_worth.1 41 = .ok (.ireturn, 1) := by decide +kernel
theorem d_X2_worth_70 : decode mX2_worth.1 70 = .ok (.iload 6, 2) ∧ 70 + 2 = 72 := ⟨by decide +kernel, rfl⟩
theorem d_X2_worth_72 : decode mX2_worth.1 72 = .ok (.bipush (-11), 2) ∧ 72 + 2 = 74 := ⟨by decide +kernel, rfl⟩
theorem d_X2_worth_74 : decode mX2_worth.1 74 = .ok (.if_icmp .le 35, 3) ∧ 74 + 3 = 77 ∧ ((74 : Nat) : Int) + 35 = ((109 : Nat) : Int) := ⟨by decide +kernel, rfl, rfl⟩
theorem d_X2_worth_77 : decode mX2_worth.1 77 = .ok (.iload_n 2, 1) ∧ 77 + 1 = 78 := ⟨by decide +kernel, rfl⟩
theorem d_X2_worth_78 : decode mX2_worth.1 78 = .ok (.iconst 1, 1) ∧ 78 + 1 = 79 := ⟨by decide +kernel, rfl⟩
theorem d_X2_worth_79 : decode mX2_worth.1 79 = .ok (.if_icmp .ge 5, 3) ∧ 79 + 3 = 82 ∧ ((79 : Nat) : Int) + 5 = ((84 : Nat) : Int) := ⟨by decide +kernel, rfl, rfl⟩
theorem d_X2_worth_82 : decode mX2_worth.1 82 = .ok (.iconst 0, 1) ∧ 82 + 1 = 83 := ⟨by decide +kernel, rfl⟩
theorem d_X2_worth_83 : decode mX2_worth.1 83 = .ok (.ireturn, 1) := by decide +kernel
theorem d_X2_worth_84 : decode mX2_worth.1 84 = .ok (.aload_n 0, 1) ∧ 84 + 1 = 85 := ⟨by decide +kernel, rfl⟩
theorem d_X2_worth_85 : decode mX2_worth.1 85 = .ok (.getfield 9, 3) ∧ 85 + 3 = 88 := ⟨by decide +kernel, rfl⟩
theorem d_X2_worth_88 : decode mX2_worth.1 88 = .ok (.iload_n 2, 1) ∧ 88 + 1 = 89 := ⟨by decide +kernel, rfl⟩
theorem d_X2_worth_89 : decode mX2_worth.1 89 = .ok (.iconst 1, 1) ∧ 89 + 1 = 90 := ⟨by decide +kernel, rfl⟩
theorem d_X2_worth_90 : decode mX2_worth.1 90 = .ok (.isub, 1) ∧ 90 + 1 = 91 := ⟨by decide +kernel, rfl⟩
theorem d_X2_worth_91 : decode mX2_worth.1 91 = .ok (.iload 6, 2) ∧ 91 + 2 = 93 := ⟨by decide +kernel, rfl⟩
theorem d_X2_worth_93 : decode mX2_worth.1 93 = .ok (.aload_n 0, 1) ∧ 93 + 1 = 94 := ⟨by decide +kernel, rfl⟩
theorem d_X2_worth_94 : decode mX2_worth.1 94 = .ok (.getfield 9, 3) ∧ 94 + 3 = 97 := ⟨by decide +kernel, rfl⟩
theorem d_X2_worth_97 : decode mX2_worth.1 97 = .ok (.iload_n 2, 1) ∧ 97 + 1 = 98 := ⟨by decide +kernel, rfl⟩
theorem d_X2_worth_98 : decode mX2_worth.1 98 = .ok (.iconst 1, 1) ∧ 98 + 1 = 99 := ⟨by decide +kernel, rfl⟩
theorem d_X2_worth_99 : decode mX2_worth.1 99 = .ok (.isub, 1) ∧ 99 + 1 = 100 := ⟨by decide +kernel, rfl⟩
theorem d_X2_worth_100 : decode mX2_worth.1 100 = .ok (.iaload, 1) ∧ 100 + 1 = 101 := ⟨by decide +kernel, rfl⟩
theorem d_X2_worth_101 : decode mX2_worth.1 101 = .ok (.aload_n 1, 1) ∧ 101 + 1 = 102 := ⟨by decide +kernel, rfl⟩
theorem d_X2_worth_102 : decode mX2_worth.1 102 = .ok (.invokestatic 18, 3) ∧ 102 + 3 = 105 := ⟨by decide +kernel, rfl⟩
theorem d_X2_worth_105 : decode mX2_worth.1 105 = .ok (.iastore, 1) ∧ 105 + 1 = 106 := ⟨by decide +kernel, rfl⟩
theorem d_X2_worth_106 : decode mX2_worth.1 106 = .ok (.goto 40, 3) ∧ ((106 : Nat) : Int) + 40 = ((146 : Nat) : Int) := ⟨by decide +kernel, rfl⟩
theorem d_X2_worth_109 : decode mX2_worth.1 109 = .ok (.iload_n 2, 1) ∧ 109 + 1 = 110 := ⟨by decide +kernel, rfl⟩
theorem d_X2_worth_110 : decode mX2_worth.1 110 = .ok (.iconst 2, 1) ∧ 110 + 1 = 111 := ⟨by decide +kernel, rfl⟩
theorem d_X2_worth_111 : decode mX2_worth.1 111 = .ok (.if_icmp .ge 5, 3) ∧ 111 + 3 = 114 ∧ ((111 : Nat) : Int) + 5 = ((116 : Nat) : Int) := ⟨by decide +kernel, rfl, rfl⟩
theorem d_X2_worth_114 : decode mX2_worth.1 114 = .ok (.iconst 0, 1) ∧ 114 + 1 = 115 := ⟨by decide +kernel, rfl⟩
theorem d_X2_worth_115 : decode mX2_worth.1 115 = .ok (.ireturn, 1) := by decide +kernel
theorem d_X2_worth_116 : decode mX2_worth.1 116 = .ok (.iinc 2 (-1), 3) ∧ 116 + 3 = 119 := ⟨by decide +kernel, rfl⟩
theorem d_X2_worth_119 : decode mX2_worth.1 119 = .ok (.aload_n 0, 1) ∧ 119 + 1 = 120 := ⟨by decide +kernel, rfl⟩
theorem d_X2_worth_120 : decode mX2_worth.1 120 = .ok (.getfield 9, 3) ∧ 120 + 3 = 123 := ⟨by decide +kernel, rfl⟩
theorem d_X2_worth_123 : decode mX2_worth.1 123 = .ok (.iload_n 2, 1) ∧ 123 + 1 = 124 := ⟨by decide +kernel, rfl⟩
theorem d_X2_worth_124 : decode mX2_worth.1 124 = .ok (.iconst 1, 1) ∧ 124 + 1 = 125 := ⟨by decide +kernel, rfl⟩
theorem d_X2_worth_125 : decode mX2_worth.1 125 = .ok (.isub, 1) ∧ 125 + 1 = 126 := ⟨by decide +kernel, rfl⟩
theorem d_X2_worth_126 : decode mX2_worth.1 126 = .ok (.iload 6, 2) ∧ 126 + 2 = 128 := ⟨by decide +kernel, rfl⟩
theorem d_X2_worth_128 : decode mX2_worth.1 128 = .ok (.aload_n 0, 1) ∧ 128 + 1 = 129 := ⟨by decide +kernel, rfl⟩
theorem d_X2_worth_129 : decode mX2_worth.1 129 = .ok (.getfield 9, 3) ∧ 129 + 3 = 132 := ⟨by decide +kernel, rfl⟩
theorem d_X2_worth_132 : decode mX2_worth.1 132 = .ok (.iload_n 2, 1) ∧ 132 + 1 = 133 := ⟨by decide +kernel, rfl⟩
theorem d_X2_worth_133 : decode mX2_worth.1 133 = .ok (.iconst 1, 1) ∧ 133 + 1 = 134 := ⟨by decide +kernel, rfl⟩
theorem d_X2_worth_134 : decode mX2_worth.1 134 = .ok (.isub, 1) ∧ 134 + 1 = 135 := ⟨by decide +kernel, rfl⟩
theorem d_X2_worth_135 : decode mX2_worth.1 135 = .ok (.iaload, 1) ∧ 135 + 1 = 136 := ⟨by decide +kernel, rfl⟩
theorem d_X2_worth_136 : decode mX2_worth.1 136 = .ok (.aload_n 0, 1) ∧ 136 + 1 = 137 := ⟨by decide +kernel, rfl⟩
theorem d_X2_worth_137 : decode mX2_worth.1 137 = .ok (.getfield 9, 3) ∧ 137 + 3 = 140 := ⟨by decide +kernel, rfl⟩
theorem d_X2_worth_140 : decode mX2_worth.1 140 = .ok (.iload_n 2, 1) ∧ 140 + 1 = 141 := ⟨by decide +kernel, rfl⟩
theorem d_X2_worth_141 : decode mX2_worth.1 141 = .ok (.iaload, 1) ∧ 141 + 1 = 142 := ⟨by decide +kernel, rfl⟩
theorem d_X2_worth_142 : decode mX2_worth.1 142 = .ok (.invokestatic 22, 3) ∧ 142 + 3 = 145 := ⟨by decide +kernel, rfl⟩
theorem d_X2_worth_145 : decode mX2_worth.1 145 = .ok (.iastore, 1) ∧ 145 + 1 = 146 := ⟨by decide +kernel, rfl⟩
set_option maxRecDepth 100000 in
set_option maxHeartbeats 4000000 in
theorem g_X2_worth_L14 (l : Launch) (G : xa_C) (c0 c1 c3 c4 : Int) (K : (Int × Int × xa_H) ⊕ ((Int × xa_H) ⊕ (Int × xa_H)) → Option xa_O) (hb : ∀ (v2 : Int) (v5 : Int) (h : xa_H), xa_G l G 4 mX2_worth (some (Sum.inl ((v2, v5, h)))) K 14 [some (xR c0), some (xR c1), some (xI v2), some (xR c3), some (xI c4), some (xI v5), none] [] h) (hr : ∀ r : Int × xa_H, K (Sum.inr (Sum.inl r)) = some (some (xI r.1), r.2)) (hx : ∀ (v2 : Int) (h : xa_H), xa_G l G 4 mX2_worth (some (Sum.inr (Sum.inr ((v2, h))))) K 152 [some (xR c0), none, some (xI v2), none, none, none, none] [] h) : ∀ (v2 : Int) (v5 : Int) (h : xa_H), xa_G l G 4 mX2_worth (f_X2_worth_L14 c0 c1 c3 c4 v2 v5 h) K 14 [some (xR c0), some (xR c1), some (xI v2), some (xR c3), some (xI c4), some (xI v5), none] [] h := by
  intro v2 v5 h
  unfold f_X2_worth_L14
  refine xa_step (xa_iload d_X2_worth_14 rfl) ?_
  refine xa_step (xa_iload d_X2_worth_16 rfl) ?_
  refine xa_if (xa_icmpge d_X2_worth_18) (fun q3 => ?_) (fun q3 => ?_)
  · refine xa_step (xa_aload_n d_X2_worth_21 rfl) ?_
    refine xa_step (xa_iload d_X2_worth_22 rfl) ?_
    refine xa_iaload d_X2_worth_24 (fun x4 _ => ?_)
    refine xa_step (xa_istore (ls' := [some (xR c0), some (xR c1), some (xI v2), some (xR c3), some (xI c4), some (xI v5), some (xI x4)]) d_X2_worth_25 (by decide) rfl) ?_
    refine xa_step (xa_iload d_X2_worth_27 rfl) ?_
    refine xa_step (xa_bipush d_X2_worth_29 xq_b_m9) ?_
    refine xa_if (xa_icmple d_X2_worth_31) (fun q5 => ?_) (fun q5 => ?_)
    · refine xa_step (xa_iload_n d_X2_worth_34 rfl) ?_
      refine xa_step (xa_bipush d_X2_worth_35 xq_b_64) ?_
      refine xa_if (xa_icmplt d_X2_worth_37) (fun q6 => ?_) (fun q6 => ?_)
      · refine xa_step (xa_aload_n d_X2_worth_42 rfl) ?_
        refine xa_getf xR xc_2 (by decide) (fun _ => rfl) xw_857 rfl d_X2_worth_43 (fun x7 _ => ?_)
        refine xa_step (xa_iload_n d_X2_worth_46 rfl) ?_
        refine xa_step (xa_iload d_X2_worth_47 rfl) ?_
        refine xa_if (xa_iflt d_X2_worth_49) (fun q8 => ?_) (fun q8 => ?_)
        · refine xa_step (xa_aload_n d_X2_worth_57 rfl) ?_
          refine xa_step (xa_iconst d_X2_worth_58 xq_i_m1) ?_
          refine xa_step (xa_iload d_X2_worth_59 rfl) ?_
          refine xa_step (xa_isub d_X2_worth_61) ?_
          refine xa_iaload d_X2_worth_62 (fun x9 _ => ?_)
          refine xa_iastore2 d_X2_worth_63 (fun h10 _ => ?_)
          refine xa_step (xa_iinc (ls' := [some (xR c0), some (xR c1), some (xI (w32 (v2 + 1))), some (xR c3), some (xI c4), some (xI v5), some (xI x4)]) d_X2_worth_64 xq_i_1 rfl (by decide) rfl) ?_
          refine xa_step (xa_goto d_X2_worth_67) ?_
          refine xa_step (xa_iinc (ls' := [some (xR c0), some (xR c1), some (xI (w32 (v2 + 1))), some (xR c3), some (xI c4), some (xI (w32 (v5 + 1))), some (xI x4)]) d_X2_worth_146 xq_i_1 rfl (by decide) rfl) ?_
          refine xa_step (xa_goto d_X2_worth_149) ?_
          exact xa_weak (ls' := [some (xR c0), some (xR c1), some (xI (w32 (v2 + 1))), some (xR c3), some (xI c4), some (xI (w32 (v5 + 1))), none]) ⟨rfl, rfl, rfl, rfl, rfl, rfl, trivial⟩ (hb (w32 (v2 + 1)) (w32 (v5 + 1)) h10)
        · refine xa_step (xa_iload d_X2_worth_52 rfl) ?_
          refine xa_step (xa_goto d_X2_worth_54) ?_
          refine xa_iastore2 d_X2_worth_63 (fun h11 _ => ?_)
          refine xa_step (xa_iinc (ls' := [some (xR c0), some (xR c1), some (xI (w32 (v2 + 1))), some (xR c3), some (xI c4), some (xI v5), some (xI x4)]) d_X2_worth_64 xq_i_1 rfl (by decide) rfl) ?_
          refine xa_step (xa_goto d_X2_worth_67) ?_
          refine xa_step (xa_iinc (ls' := [some (xR c0), some (xR c1), some (xI (w32 (v2 + 1))), some (xR c3), some (xI c4), some (xI (w32 (v5 + 1))), some (xI x4)]) d_X2_worth_146 xq_i_1 rfl (by decide) rfl) ?_
          refine xa_step (xa_goto d_X2_worth_149) ?_
          exact xa_weak (ls' := [some (xR c0), some (xR c1), some (xI (w32 (v2 + 1))), some (xR c3), some (xI c4), some (xI (w32 (v5 + 1))), none]) ⟨rfl, rfl, rfl, rfl, rfl, rfl, trivial⟩ (hb (w32 (v2 + 1)) (w32 (v5 + 1)) h11)
      · refine xa_step (xa_iconst d_X2_worth_40 xq_i_0) ?_
        exact xa_iret d_X2_worth_41 rfl (hr _)
    · refine xa_step (xa_iload d_X2_worth_70 rfl) ?_
      refine xa_step (xa_bipush d_X2_worth_72 xq_b_m11) ?_
      refine xa_if (xa_icmple d_X2_worth_74) (fun q12 => ?_) (fun q12 => ?_)
      · refine xa_step (xa_iload_n d_X2_worth_77 rfl) ?_
        refine xa_step (xa_iconst d_X2_worth_78 xq_i_1) ?_
        refine xa_if (xa_icmpge d_X2_worth_79) (fun q13 => ?_) (fun q13 => ?_)
        · refine xa_step (xa_iconst d_X2_worth_82 xq_i_0) ?_
          exact xa_iret d_X2_worth_83 rfl (hr _)
        · refine xa_step (xa_aload_n d_X2_worth_84 rfl) ?_
          refine xa_getf xR xc_2 (by decide) (fun _ => rfl) xw_857 rfl d_X2_worth_85 (fun x14 _ => ?_)
          refine xa_step (xa_iload_n d_X2_worth_88 rfl) ?_
          refine xa_step (xa_iconst d_X2_worth_89 xq_i_1) ?_
          refine xa_step (xa_isub d_X2_worth_90) ?_
          refine xa_step (xa_iload d_X2_worth_91 rfl) ?_
          refine xa_step (xa_aload_n d_X2_worth_93 rfl) ?_
          refine xa_getf xR xc_2 (by decide) (fun _ => rfl) xw_857 rfl d_X2_worth_94 (fun x15 _ => ?_)
          refine xa_step (xa_iload_n d_X2_worth_97 rfl) ?_
          refine xa_step (xa_iconst d_X2_worth_98 xq_i_1) ?_
          refine xa_step (xa_isub d_X2_worth_99) ?_
          refine xa_iaload d_X2_worth_100 (fun x16 _ => ?_)
          refine xa_step (xa_aload_n d_X2_worth_101 rfl) ?_
          refine xa_callSi (as := [xI x4, xI x16, xR c1]) (st := [xI (w32 (v2 - 1)), xR x14]) (M' := mX2_ofOne) (d' := 2) xw_984 xw_985 xw_986 xw_178 xh_X2_ofOne rfl ⟨Nat.le_of_ble_eq_true rfl, Nat.le_of_ble_eq_true rfl⟩ (Nat.le_of_ble_eq_true rfl) rfl d_X2_worth_102 (fun r hr => ct_X2_ofOne l G x4 x16 c1 h r hr) (fun r17 _ => ?_)
          refine xa_iastore2 d_X2_worth_105 (fun h18 _ => ?_)
          refine xa_step (xa_goto d_X2_worth_106) ?_
          refine xa_step (xa_iinc (ls' := [some (xR c0), some (xR c1), some (xI v2), some (xR c3), some (xI c4), some (xI (w32 (v5 + 1))), some (xI x4)]) d_X2_worth_146 xq_i_1 rfl (by decide) rfl) ?_
          refine xa_step (xa_goto d_X2_worth_149) ?_
          exact xa_weak (ls' := [some (xR c0), some (xR c1), some (xI v2), some (xR c3), some (xI c4), some (xI (w32 (v5 + 1))), none]) ⟨rfl, rfl, rfl, rfl, rfl, rfl, trivial⟩ (hb v2 (w32 (v5 + 1)) h18)
      · refine xa_step (xa_iload_n d_X2_worth_109 rfl) ?_
        refine xa_step (xa_iconst d_X2_worth_110 xq_i_2) ?_
        refine xa_if (xa_icmpge d_X2_worth_111) (fun q19 => ?_) (fun q19 => ?_)
        · refine xa_step (xa_iconst d_X2_worth_114 xq_i_0) ?_
          exact xa_iret d_X2_worth_115 rfl (hr _)
        · refine xa_step (xa_iinc (ls' := [some (xR c0), some (xR c1), some (xI (w32 (v2 + (-1)))), some (xR c3), some (xI c4), some (xI v5), some (xI x4)]) d_X2_worth_116 xq_i_m1 rfl (by decide) rfl) ?_
          refine xa_step (xa_aload_n d_X2_worth_119 rfl) ?_
          refine xa_getf xR xc_2 (by decide) (fun _ => rfl) xw_857 rfl d_X2_worth_120 (fun x20 _ => ?_)
          refine xa_step (xa_iload_n d_X2_worth_123 rfl) ?_
          refine xa_step (xa_iconst d_X2_worth_124 xq_i_1) ?_
          refine xa_step (xa_isub d_X2_worth_125) ?_
          refine xa_step (xa_iload d_X2_worth_126 rfl) ?_
          refine xa_step (xa_aload_n d_X2_worth_128 rfl) ?_
          refine xa_getf xR xc_2 (by decide) (fun _ => rfl) xw_857 rfl d_X2_worth_129 (fun x21 _ => ?_)
          refine xa_step (xa_iload_n d_X2_worth_132 rfl) ?_
          refine xa_step (xa_iconst d_X2_worth_133 xq_i_1) ?_
          refine xa_step (xa_isub d_X2_worth_134) ?_
          refine xa_iaload d_X2_worth_135 (fun x22 _ => ?_)
          refine xa_step (xa_aload_n d_X2_worth_136 rfl) ?_
          refine xa_getf xR xc_2 (by decide) (fun _ => rfl) xw_857 rfl d_X2_worth_137 (fun x23 _ => ?_)
          refine xa_step (xa_iload_n d_X2_worth_140 rfl) ?_
          refine xa_iaload d_X2_worth_141 (fun x24 _ => ?_)
          refine xa_callSi (as := [xI x4, xI x22, xI x24]) (st := [xI (w32 ((w32 (v2 + (-1))) - 1)), xR x20]) (M' := mX2_ofTwo) (d' := 3) xw_987 xw_988 xw_989 xw_178 xh_X2_ofTwo rfl ⟨Nat.le_of_ble_eq_true rfl, Nat.le_of_ble_eq_true rfl⟩ (Nat.le_of_ble_eq_true rfl) rfl d_X2_worth_142 (fun r hr => ct_X2_ofTwo l G x4 x22 x24 h r hr) (fun r25 _ => ?_)
          refine xa_iastore2 d_X2_worth_145 (fun h26 _ => ?_)
          refine xa_step (xa_iinc (ls' := [some (xR c0), some (xR c1), some (xI (w32 (v2 + (-1)))), some (xR c3), some (xI c4), some (xI (w32 (v5 + 1))), some (xI x4)]) d_X2_worth_146 xq_i_1 rfl (by decide) rfl) ?_
          refine xa_step (xa_goto d_X2_worth_149) ?_
          exact xa_weak (ls' := [some (xR c0), some (xR c1), some (xI (w32 (v2 + (-1)))), some (xR c3), some (xI c4), some (xI (w32 (v5 + 1))), none]) ⟨rfl, rfl, rfl, rfl, rfl, rfl, trivial⟩ (hb (w32 (v2 + (-1))) (w32 (v5 + 1)) h26)
  · exact xa_weak (ls' := [some (xR c0), none, some (xI v2), none, none, none, none]) ⟨rfl, rfl, trivial⟩ (hx v2 h)
theorem d_X2_worth_152 : decode mX2_worth.1 152 = .ok (.iload_n 2, 1) ∧ 152 + 1 = 153 := ⟨by decide +kernel, rfl⟩
theorem d_X2_worth_153 : decode mX2_worth.1 153 = .ok (.ifCond .le 14, 3) ∧ 153 + 3 = 156 ∧ ((153 : Nat) : Int) + 14 = ((167 : Nat) : Int) := ⟨by decide +kernel, rfl, rfl⟩
theorem d_X2_worth_156 : decode mX2_worth.1 156 = .ok (.aload_n 0, 1) ∧ 156 + 1 = 157 := ⟨by decide +kernel, rfl⟩
theorem d_X2_worth_157 : decode mX2_worth.1 157 = .ok (.getfield 9, 3) ∧ 157 + 3 = 160 := ⟨by decide +kernel, rfl⟩
theorem d_X2_worth_160 : decode mX2_worth.1 160 = .ok (.iload_n 2, 1) ∧ 160 + 1 = 161 := ⟨by decide +kernel, rfl⟩
theorem d_X2_worth_161 : decode mX2_worth.1 161 = .ok (.iconst 1, 1) ∧ 161 + 1 = 162 := ⟨by decide +kernel, rfl⟩
theorem d_X2_worth_162 : decode mX2_worth.1 162 = .ok (.isub, 1) ∧ 162 + 1 = 163 := ⟨by decide +kernel, rfl⟩
theorem d_X2_worth_163 : decode mX2_worth.1 163 = .ok (.iaload, 1) ∧ 163 + 1 = 164 := ⟨by decide +kernel, rfl⟩
theorem d_X2_worth_164 : decode mX2_worth.1 164 = .ok (.goto 4, 3) ∧ ((164 : Nat) : Int) + 4 = ((168 : Nat) : Int) := ⟨by decide +kernel, rfl⟩
theorem d_X2_worth_168 : decode mX2_worth.1 168 = .ok (.ireturn, 1) := by decide +kernel
theorem d_X2_worth_167 : decode mX2_worth.1 167 = .ok (.iconst 0, 1) ∧ 167 + 1 = 168 := ⟨by decide +kernel, rfl⟩
set_option maxRecDepth 100000 in
set_option maxHeartbeats 4000000 in
theorem g_X2_worth (l : Launch) (G : xa_C) (v0 v1 : Int) (h : xa_H) : xa_G l G 4 mX2_worth (f_X2_worth v0 v1 h) (fun r => some (some (xI r.1), r.2) : (Int × xa_H) → Option xa_O) 0 [some (xR v0), some (xR v1), none, none, none, none, none] [] h := by
  unfold f_X2_worth
  refine xa_step (xa_iconst d_X2_worth_0 xq_i_0) ?_
  refine xa_step (xa_istore_n (ls' := [some (xR v0), some (xR v1), some (xI 0), none, none, none, none]) d_X2_worth_1 (by decide) rfl) ?_
  refine xa_step (xa_aload_n d_X2_worth_2 rfl) ?_
  refine xa_getf xR xc_2 (by decide) (fun _ => rfl) xw_856 rfl d_X2_worth_3 (fun x1 _ => ?_)
  refine xa_step (xa_astore_n (ls' := [some (xR v0), some (xR v1), some (xI 0), some (xR x1), none, none, none]) d_X2_worth_6 (by decide) rfl) ?_
  refine xa_step (xa_aload_n d_X2_worth_7 rfl) ?_
  refine xa_alen d_X2_worth_8 (fun x2 _ => ?_)
  refine xa_step (xa_istore (ls' := [some (xR v0), some (xR v1), some (xI 0), some (xR x1), some (xI x2), none, none]) d_X2_worth_9 (by decide) rfl) ?_
  refine xa_step (xa_iconst d_X2_worth_11 xq_i_0) ?_
  refine xa_step (xa_istore (ls' := [some (xR v0), some (xR v1), some (xI 0), some (xR x1), some (xI x2), some (xI 0), none]) d_X2_worth_12 (by decide) rfl) ?_
  refine xa_weak (ls' := [some (xR v0), some (xR v1), some (xI 0), some (xR x1), some (xI x2), some (xI 0), none]) ⟨rfl, rfl, rfl, rfl, rfl, rfl, trivial⟩ ?_
  refine xa_loop (f := fun s => f_X2_worth_L14 v0 v1 x1 x2 s.1 s.2.1 s.2.2) (L := fun s => [some (xR v0), some (xR v1), some (xI s.1), some (xR x1), some (xI x2), some (xI s.2.1), none]) (P := fun s => s.2.2) (X := (fun e K => match e with | Sum.inl r => K (Sum.inr (Sum.inl r)) = some (some (xI r.1), r.2) | Sum.inr x => xa_G l G 4 mX2_worth (some (Sum.inr (Sum.inr x))) K 152 [some (xR v0), none, some (xI x.1), none, none, none, none] [] x.2)) (fun K hb hX s => g_X2_worth_L14 l G v0 v1 x1 x2 K (fun w0 w1 hh => hb ((w0, w1, hh))) (fun r => hX (Sum.inl r)) (fun w0 hh => hX (Sum.inr ((w0, hh)))) s.1 s.2.1 s.2.2) ?_ xFU ((0, 0, h))
  rintro (r | y28) K hK
  · exact hK.trans rfl
  · refine xa_eqE hK ?_
    show xa_G l G 4 mX2_worth _ _ 152 [some (xR v0), none, some (xI y28.1), none, none, none, none] [] y28.2
    refine xa_step (xa_iload_n d_X2_worth_152 rfl) ?_
    refine xa_if (xa_ifle d_X2_worth_153) (fun q29 => ?_) (fun q29 => ?_)
    · refine xa_step (xa_aload_n d_X2_worth_156 rfl) ?_
      refine xa_getf xR xc_2 (by decide) (fun _ => rfl) xw_857 rfl d_X2_worth_157 (fun x30 _ => ?_)
      refine xa_step (xa_iload_n d_X2_worth_160 rfl) ?_
      refine xa_step (xa_iconst d_X2_worth_161 xq_i_1) ?_
      refine xa_step (xa_isub d_X2_worth_162) ?_
      refine xa_iaload d_X2_worth_163 (fun x31 _ => ?_)
      refine xa_step (xa_goto d_X2_worth_164) ?_
      exact xa_iret d_X2_worth_168 rfl rfl
    · refine xa_step (xa_iconst d_X2_worth_167 xq_i_0) ?_
      exact xa_iret d_X2_worth_168 rfl rfl
theorem ct_X2_worth (l : Launch) (G : xa_C) (v0 v1 : Int) (h : xa_H) (r : Int × xa_H) (hr : f_X2_worth v0 v1 h = some r) : xa_CT l G 4 mX2_worth yX2_worth [xR v0, xR v1] h (some (xI r.1), r.2) :=
  xa_met (by decide +kernel) rfl (fun q => by first | rfl | cases q) (Nat.le_of_ble_eq_true rfl) rfl (g_X2_worth l G v0 v1 h) (by rw [hr]; rfl)
abbrev mX11_answerSum : xa_M := (cX11_answerSum, 12, (some (.long)), RX11, false)
theorem d_X11_answerSum_0 : decode mX11_answerSum.1 0 = .ok (.lconst 0, 1) ∧ 0 + 1 = 1 := ⟨by decide +kernel, rfl⟩
theorem d_X11_answerSum_1 : decode mX11_answerSum.1 1 = .ok (.lstore_n 3, 1) ∧ 1 + 1 = 2 := ⟨by decide +kernel, rfl⟩
theorem d_X11_answerSum_2 : decode mX11_answerSum.1 2 = .ok (.lconst 0, 1) ∧ 2 + 1 = 3 := ⟨by decide +kernel, rfl⟩
theorem d_X11_answerSum_3 : decode mX11_answerSum.1 3 = .ok (.lstore 5, 2) ∧ 3 + 2 = 5 := ⟨by decide +kernel, rfl⟩
theorem d_X11_answerSum_5 : decode mX11_answerSum.1 5 = .ok (.lconst 0, 1) ∧ 5 + 1 = 6 := ⟨by decide +kernel, rfl⟩
theorem d_X11_answerSum_6 : decode mX11_answerSum.1 6 = .ok (.lstore 7, 2) ∧ 6 + 2 = 8 := ⟨by decide +kernel, rfl⟩
theorem d_X11_answerSum_8 : decode mX11_answerSum.1 8 = .ok (.iconst 0, 1) ∧ 8 + 1 = 9 := ⟨by decide +kernel, rfl⟩
theorem d_X11_answerSum_9 : decode mX11_answerSum.1 9 = .ok (.istore 9, 2) ∧ 9 + 2 = 11 := ⟨by decide +kernel, rfl⟩
theorem d_X11_answerSum_11 : decode mX11_answerSum.1 11 = .ok (.iload 9, 2) ∧ 11 + 2 = 13 := ⟨by decide +kernel, rfl⟩
theorem d_X11_answerSum_13 : decode mX11_answerSum.1 13 = .ok (.aload_n 0, 1) ∧ 13 + 1 = 14 := ⟨by decide +kernel, rfl⟩
theorem d_X11_answerSum_14 : decode mX11_answerSum.1 14 = .ok (.getfield 47, 3) ∧ 14 + 3 = 17 := ⟨by decide +kernel, rfl⟩
theorem d_X11_answerSum_17 : decode mX11_answerSum.1 17 = .ok (.getfield 146, 3) ∧ 17 + 3 = 20 := ⟨by decide +kernel, rfl⟩
theorem d_X11_answerSum_20 : decode mX11_answerSum.1 20 = .ok (.if_icmp .ge 69, 3) ∧ 20 + 3 = 23 ∧ ((20 : Nat) : Int) + 69 = ((89 : Nat) : Int) := ⟨by decide +kernel, rfl, rfl⟩
theorem d_X11_answerSum_23 : decode mX11_answerSum.1 23 = .ok (.aload_n 0, 1) ∧ 23 + 1 = 24 := ⟨by decide +kernel, rfl⟩
theorem d_X11_answerSum_24 : decode mX11_answerSum.1 24 = .ok (.iload 9, 2) ∧ 24 + 2 = 26 := ⟨by decide +kernel, rfl⟩
theorem d_X11_answerSum_26 : decode mX11_answerSum.1 26 = .ok (.invokevirtual 399, 3) ∧ 26 + 3 = 29 := ⟨by decide +kernel, rfl⟩
theorem d_X11_answerSum_29 : decode mX11_answerSum.1 29 = .ok (.aload_n 2, 1) ∧ 29 + 1 = 30 := ⟨by decide +kernel, rfl⟩
theorem d_X11_answerSum_30 : decode mX11_answerSum.1 30 = .ok (.aload_n 0, 1) ∧ 30 + 1 = 31 := ⟨by decide +kernel, rfl⟩
theorem d_X11_answerSum_31 : decode mX11_answerSum.1 31 = .ok (.getfield 99, 3) ∧ 31 + 3 = 34 := ⟨by decide +kernel, rfl⟩
theorem d_X11_answerSum_34 : decode mX11_answerSum.1 34 = .ok (.invokevirtual 402, 3) ∧ 34 + 3 = 37 := ⟨by decide +kernel, rfl⟩
theorem d_X11_answerSum_37 : decode mX11_answerSum.1 37 = .ok (.i2l, 1) ∧ 37 + 1 = 38 := ⟨by decide +kernel, rfl⟩
theorem d_X11_answerSum_38 : decode mX11_answerSum.1 38 = .ok (.lstore 10, 2) ∧ 38 + 2 = 40 := ⟨by decide +kernel, rfl⟩
theorem d_X11_answerSum_40 : decode mX11_answerSum.1 40 = .ok (.lload_n 3, 1) ∧ 40 + 1 = 41 := ⟨by decide +kernel, rfl⟩
theorem d_X11_answerSum_41 : decode mX11_answerSum.1 41 = .ok (.lload 10, 2) ∧ 41 + 2 = 43 := ⟨by decide +kernel, rfl⟩
theorem d_X11_answerSum_43 : decode mX11_answerSum.1 43 = .ok (.ladd, 1) ∧ 43 + 1 = 44 := ⟨by decide +kernel, rfl⟩
theorem d_X11_answerSum_44 : decode mX11_answerSum.1 44 = .ok (.lstore_n 3, 1) ∧ 44 + 1 = 45 := ⟨by decide +kernel, rfl⟩
theorem d_X11_answerSum_45 : decode mX11_answerSum.1 45 = .ok (.iload 9, 2) ∧ 45 + 2 = 47 := ⟨by decide +kernel, rfl⟩
theorem d_X11_answerSum_47 : decode mX11_answerSum.1 47 = .ok (.ifCond .ne 8, 3) ∧ 47 + 3 = 50 ∧ ((47 : Nat) : Int) + 8 = ((55 : Nat) : Int) := ⟨by decide +kernel, rfl, rfl⟩
theorem d_X11_answerSum_50 : decode mX11_answerSum.1 50 = .ok (.lload 10, 2) ∧ 50 + 2 = 52 := ⟨by decide +kernel, rfl⟩
theorem d_X11_answerSum_52 : decode mX11_answerSum.1 52 = .ok (.goto 10, 3) ∧ ((52 : Nat) : Int) + 10 = ((62 : Nat) : Int) := ⟨by decide +kernel, rfl⟩
theorem d_X11_answerSum_62 : decode mX11_answerSum.1 62 = .ok (.lstore 5, 2) ∧ 62 + 2 = 64 := ⟨by decide +kernel, rfl⟩
theorem d_X11_answerSum_64 : decode mX11_answerSum.1 64 = .ok (.iload 9, 2) ∧ 64 + 2 = 66 := ⟨by decide +kernel, rfl⟩
theorem d_X11_answerSum_66 : decode mX11_answerSum.1 66 = .ok (.ifCond .ne 8, 3) ∧ 66 + 3 = 69 ∧ ((66 : Nat) : Int) + 8 = ((74 : Nat) : Int) := ⟨by decide +kernel, rfl, rfl⟩
theorem d_X11_answerSum_69 : decode mX11_answerSum.1 69 = .ok (.lload 10, 2) ∧ 69 + 2 = 71 := ⟨by decide +kernel, rfl⟩
theorem d_X11_answerSum_71 : decode mX11_answerSum.1 71 = .ok (.goto 10, 3) ∧ ((71 : Nat) : Int) + 10 = ((81 : Nat) : Int) := ⟨by decide +kernel, rfl⟩
theorem d_X11_answerSum_81 : decode mX11_answerSum.1 81 = .ok (.lstore 7, 2) ∧ 81 + 2 = 83 := ⟨by decide +kernel, rfl⟩
theorem d_X11_answerSum_83 : decode mX11_answerSum.1 83 = .ok (.iinc 9 1, 3) ∧ 83 + 3 = 86 := ⟨by decide +kernel, rfl⟩
theorem d_X11_answerSum_86 : decode mX11_answerSum.1 86 = .ok (.goto (-75), 3) ∧ ((86 : Nat) : Int) + (-75) = ((11 : Nat) : Int) := ⟨by decide +kernel, rfl⟩
theorem d_X11_answerSum_74 : decode mX11_answerSum.1 74 = .ok (.lload 7, 2) ∧ 74 + 2 = 76 := ⟨by decide +kernel, rfl⟩
theorem d_X11_answerSum_76 : decode mX11_answerSum.1 76 = .ok (.lload 10, 2) ∧ 76 + 2 = 78 := ⟨by decide +kernel, rfl⟩
theorem d_X11_answerSum_78 : decode mX11_answerSum.1 78 = .ok (.invokestatic 413, 3) ∧ 78 + 3 = 81 := ⟨by decide +kernel, rfl⟩
set_option maxRecDepth 100000 in
set_option maxHeartbeats 4000000 in
theorem g_X11_answerSum_J62L11 (l : Launch) (G : xa_C) (c0 c1 c2 : Int) (K : (Int × Int × Int × Int × xa_H) ⊕ (Int × Int × Int × xa_H) → Option xa_O) (hb : ∀ (v3 : Int) (v5 : Int) (v7 : Int) (v9 : Int) (h : xa_H), xa_G l G 5 mX11_answerSum (some (Sum.inl ((v3, v5, v7, v9, h)))) K 11 [some (xR c0), some (xI c1), some (xR c2), some (xL v3), none, some (xL v5), none, some (xL v7), none, some (xI v9), none, none] [] h) (hx : ∀ (v3 : Int) (v5 : Int) (v7 : Int) (h : xa_H), xa_G l G 5 mX11_answerSum (some (Sum.inr ((v3, v5, v7, h)))) K 89 [none, some (xI c1), none, some (xL v3), none, some (xL v5), none, some (xL v7), none, none, none, none] [] h) : ∀ (v3 v7 v9 v10 s0 : Int) (h : xa_H) , xa_G l G 5 mX11_answerSum (f_X11_answerSum_J62L11 c0 c1 c2 v3 v7 v9 v10 s0 h) K 62 [some (xR c0), some (xI c1), some (xR c2), some (xL v3), none, none, none, some (xL v7), none, some (xI v9), some (xL v10), none] [xL s0] h := by
  intro v3 v7 v9 v10 s0 h
  unfold f_X11_answerSum_J62L11
  refine xa_step (xa_lstore (ls' := [some (xR c0), some (xI c1), some (xR c2), some (xL v3), none, some (xL s0), none, some (xL v7), none, some (xI v9), some (xL v10), none]) d_X11_answerSum_62 (by decide) rfl) ?_
  refine xa_step (xa_iload d_X11_answerSum_64 rfl) ?_
  refine xa_if (xa_ifne d_X11_answerSum_66) (fun q8 => ?_) (fun q8 => ?_)
  · refine xa_step (xa_lload d_X11_answerSum_69 rfl) ?_
    refine xa_step (xa_goto d_X11_answerSum_71) ?_
    refine xa_step (xa_lstore (ls' := [some (xR c0), some (xI c1), some (xR c2), some (xL v3), none, some (xL s0), none, some (xL v10), none, some (xI v9), some (xL v10), none]) d_X11_answerSum_81 (by decide) rfl) ?_
    refine xa_step (xa_iinc (ls' := [some (xR c0), some (xI c1), some (xR c2), some (xL v3), none, some (xL s0), none, some (xL v10), none, some (xI (w32 (v9 + 1))), some (xL v10), none]) d_X11_answerSum_83 xq_i_1 rfl (by decide) rfl) ?_
    refine xa_step (xa_goto d_X11_answerSum_86) ?_
    exact xa_weak (ls' := [some (xR c0), some (xI c1), some (xR c2), some (xL v3), none, some (xL s0), none, some (xL v10), none, some (xI (w32 (v9 + 1))), none, none]) ⟨rfl, rfl, rfl, rfl, rfl, rfl, rfl, trivial⟩ (hb v3 s0 v10 (w32 (v9 + 1)) h)
  · refine xa_step (xa_lload d_X11_answerSum_74 rfl) ?_
    refine xa_step (xa_lload d_X11_answerSum_76 rfl) ?_
    refine xa_mminL xw_1260 xw_996 xw_179 xw_997 (by decide) (Nat.le_of_ble_eq_true rfl) d_X11_answerSum_78 ?_
    refine xa_step (xa_lstore (ls' := [some (xR c0), some (xI c1), some (xR c2), some (xL v3), none, some (xL s0), none, some (xL (min v7 v10)), none, some (xI v9), some (xL v10), none]) d_X11_answerSum_81 (by decide) rfl) ?_
    refine xa_step (xa_iinc (ls' := [some (xR c0), some (xI c1), some (xR c2), some (xL v3), none, some (xL s0), none, some (xL (min v7 v10)), none, some (xI (w32 (v9 + 1))), some (xL v10), none]) d_X11_answerSum_83 xq_i_1 rfl (by decide) rfl) ?_
    refine xa_step (xa_goto d_X11_answerSum_86) ?_
    exact xa_weak (ls' := [some (xR c0), some (xI c1), some (xR c2), some (xL v3), none, some (xL s0), none, some (xL (min v7 v10)), none, some (xI (w32 (v9 + 1))), none, none]) ⟨rfl, rfl, rfl, rfl, rfl, rfl, rfl, trivial⟩ (hb v3 s0 (min v7 v10) (w32 (v9 + 1)) h)
theorem d_X11_answerSum_55 : decode mX11_answerSum.1 55 = .ok (.lload 5, 2) ∧ 55 + 2 = 57 := ⟨by decide +kernel, rfl⟩
theorem d_X11_answerSum_57 : decode mX11_answerSum.1 57 = .ok (.lload 10, 2) ∧ 57 + 2 = 59 := ⟨by decide +kernel, rfl⟩
theorem d_X11_answerSum_59 : decode mX11_answerSum.1 59 = .ok (.invokestatic 407, 3) ∧ 59 + 3 = 62 := ⟨by decide +kernel, rfl⟩
set_option maxRecDepth 100000 in
set_option maxHeartbeats 4000000 in
theorem g_X11_answerSum_L11 (l : Launch) (G : xa_C) (c0 c1 c2 : Int) (K : (Int × Int × Int × Int × xa_H) ⊕ (Int × Int × Int × xa_H) → Option xa_O) (hb : ∀ (v3 : Int) (v5 : Int) (v7 : Int) (v9 : Int) (h : xa_H), xa_G l G 5 mX11_answerSum (some (Sum.inl ((v3, v5, v7, v9, h)))) K 11 [some (xR c0), some (xI c1), some (xR c2), some (xL v3), none, some (xL v5), none, some (xL v7), none, some (xI v9), none, none] [] h) (hx : ∀ (v3 : Int) (v5 : Int) (v7 : Int) (h : xa_H), xa_G l G 5 mX11_answerSum (some (Sum.inr ((v3, v5, v7, h)))) K 89 [none, some (xI c1), none, some (xL v3), none, some (xL v5), none, some (xL v7), none, none, none, none] [] h) : ∀ (v3 : Int) (v5 : Int) (v7 : Int) (v9 : Int) (h : xa_H), xa_G l G 5 mX11_answerSum (f_X11_answerSum_L11 c0 c1 c2 v3 v5 v7 v9 h) K 11 [some (xR c0), some (xI c1), some (xR c2), some (xL v3), none, some (xL v5), none, some (xL v7), none, some (xI v9), none, none] [] h := by
  intro v3 v5 v7 v9 h
  unfold f_X11_answerSum_L11
  refine xa_step (xa_iload d_X11_answerSum_11 rfl) ?_
  refine xa_step (xa_aload_n d_X11_answerSum_13 rfl) ?_
  refine xa_getf xR xc_11 (by decide) (fun _ => rfl) xw_589 rfl d_X11_answerSum_14 (fun x1 _ => ?_)
  refine xa_getf xI xc_0 (by decide) (fun _ => rfl) xw_391 rfl d_X11_answerSum_17 (fun x2 _ => ?_)
  refine xa_if (xa_icmpge d_X11_answerSum_20) (fun q3 => ?_) (fun q3 => ?_)
  · refine xa_step (xa_aload_n d_X11_answerSum_23 rfl) ?_
    refine xa_step (xa_iload d_X11_answerSum_24 rfl) ?_
    refine xa_callVV (as := [xI v9]) (st := []) (M' := mX11_findFacts) (d' := 3) rfl xw_1250 xw_1252 xw_59 xw_1253 xw_161 xh_X11_findFacts rfl ⟨Nat.le_of_ble_eq_true rfl, Nat.le_of_ble_eq_true rfl⟩ (Nat.le_of_ble_eq_true rfl) rfl d_X11_answerSum_26 (fun r hr => ct_X11_findFacts l G c0 v9 h r hr) (fun r4 _ => ?_)
    refine xa_step (xa_aload_n d_X11_answerSum_29 rfl) ?_
    refine xa_step (xa_aload_n d_X11_answerSum_30 rfl) ?_
    refine xa_getf xR xc_11 (by decide) (fun _ => rfl) xw_598 rfl d_X11_answerSum_31 (fun x5 _ => ?_)
    refine xa_callVI (as := [xR x5]) (st := []) (M' := mX2_worth) (d' := 4) rfl xw_1254 xw_981 xw_982 xw_983 xw_178 xh_X2_worth rfl ⟨Nat.le_of_ble_eq_true rfl, Nat.le_of_ble_eq_true rfl⟩ (Nat.le_of_ble_eq_true rfl) rfl d_X11_answerSum_34 (fun r hr => ct_X2_worth l G c2 x5 r4 r hr) (fun r6 _ => ?_)
    refine xa_step (xa_i2l d_X11_answerSum_37) ?_
    refine xa_step (xa_lstore (ls' := [some (xR c0), some (xI c1), some (xR c2), some (xL v3), none, some (xL v5), none, some (xL v7), none, some (xI v9), some (xL r6.1), none]) d_X11_answerSum_38 (by decide) rfl) ?_
    refine xa_step (xa_lload_n d_X11_answerSum_40 rfl) ?_
    refine xa_step (xa_lload d_X11_answerSum_41 rfl) ?_
    refine xa_step (xa_ladd d_X11_answerSum_43) ?_
    refine xa_step (xa_lstore_n (ls' := [some (xR c0), some (xI c1), some (xR c2), some (xL (w64 (v3 + r6.1))), none, some (xL v5), none, some (xL v7), none, some (xI v9), some (xL r6.1), none]) d_X11_answerSum_44 (by decide) rfl) ?_
    refine xa_step (xa_iload d_X11_answerSum_45 rfl) ?_
    refine xa_if (xa_ifne d_X11_answerSum_47) (fun q7 => ?_) (fun q7 => ?_)
    · refine xa_step (xa_lload d_X11_answerSum_50 rfl) ?_
      refine xa_step (xa_goto d_X11_answerSum_52) ?_
      exact xa_weak (ls' := [some (xR c0), some (xI c1), some (xR c2), some (xL (w64 (v3 + r6.1))), none, none, none, some (xL v7), none, some (xI v9), some (xL r6.1), none]) ⟨rfl, rfl, rfl, rfl, rfl, rfl, rfl, trivial⟩ (g_X11_answerSum_J62L11 l G c0 c1 c2 K hb hx (w64 (v3 + r6.1)) v7 v9 r6.1 r6.1 r6.2)
    · refine xa_step (xa_lload d_X11_answerSum_55 rfl) ?_
      refine xa_step (xa_lload d_X11_answerSum_57 rfl) ?_
      refine xa_mmaxL xw_1259 xw_999 xw_179 xw_1000 (by decide) (Nat.le_of_ble_eq_true rfl) d_X11_answerSum_59 ?_
      exact xa_weak (ls' := [some (xR c0), some (xI c1), some (xR c2), some (xL (w64 (v3 + r6.1))), none, none, none, some (xL v7), none, some (xI v9), some (xL r6.1), none]) ⟨rfl, rfl, rfl, rfl, rfl, rfl, rfl, trivial⟩ (g_X11_answerSum_J62L11 l G c0 c1 c2 K hb hx (w64 (v3 + r6.1)) v7 v9 r6.1 (max v5 r6.1) r6.2)
  · exact xa_weak (ls' := [none, some (xI c1), none, some (xL v3), none, some (xL v5), none, some (xL v7), none, none, none, none]) ⟨rfl, rfl, rfl, rfl, trivial⟩ (hx v3 v5 v7 h)
theorem d_X11_answerSum_89 : decode mX11_answerSum.1 89 = .ok (.iload_n 1, 1) ∧ 89 + 1 = 90 := ⟨by decide +kernel, rfl⟩
theorem d_X11_answerSum_90 : decode mX11_answerSum.1 90 = .ok (.bipush 26, 2) ∧ 90 + 2 = 92 := ⟨by decide +kernel, rfl⟩
theorem d_X11_answerSum_92 : decode mX11_answerSum.1 92 = .ok (.if_icmp .ne 5, 3) ∧ 92 + 3 = 95 ∧ ((92 : Nat) : Int) + 5 = ((97 : Nat) : Int) := ⟨by decide +kernel, rfl, rfl⟩
theorem d_X11_answerSum_95 : decode mX11_answerSum.1 95 = .ok (.lload_n 3, 1) ∧ 95 + 1 = 96 := ⟨by decide +kernel, rfl⟩
theorem d_X11_answerSum_96 : decode mX11_answerSum.1 96 = .ok (.lreturn, 1) := by decide +kernel
theorem d_X11_answerSum_97 : decode mX11_answerSum.1 97 = .ok (.iload_n 1, 1) ∧ 97 + 1 = 98 := ⟨by decide +kernel, rfl⟩
theorem d_X11_answerSum_98 : decode mX11_answerSum.1 98 = .ok (.bipush 27, 2) ∧ 98 + 2 = 100 := ⟨by decide +kernel, rfl⟩
theorem d_X11_answerSum_100 : decode mX11_answerSum.1 100 = .ok (.if_icmp .ne 8, 3) ∧ 100 + 3 = 103 ∧ ((100 : Nat) : Int) + 8 = ((108 : Nat) : Int) := ⟨by decide +kernel, rfl, rfl⟩
theorem d_X11_answerSum_103 : decode mX11_answerSum.1 103 = .ok (.lload 5, 2) ∧ 103 + 2 = 105 := ⟨by decide +kernel, rfl⟩
theorem d_X11_answerSum_105 : decode mX11_answerSum.1 105 = .ok (.goto 5, 3) ∧ ((105 : Nat) : Int) + 5 = ((110 : Nat) : Int) := ⟨by decide +kernel, rfl⟩
theorem d_X11_answerSum_110 : decode mX11_answerSum.1 110 = .ok (.lreturn, 1) := by decide +kernel
theorem d_X11_answerSum_108 : decode mX11_answerSum.1 108 = .ok (.lload 7, 2) ∧ 108 + 2 = 110 := ⟨by decide +kernel, rfl⟩
set_option maxRecDepth 100000 in
set_option maxHeartbeats 4000000 in
theorem g_X11_answerSum (l : Launch) (G : xa_C) (v0 v1 v2 : Int) (h : xa_H) : xa_G l G 5 mX11_answerSum (f_X11_answerSum v0 v1 v2 h) (fun r => some (some (xL r.1), r.2) : (Int × xa_H) → Option xa_O) 0 [some (xR v0), some (xI v1), some (xR v2), none, none, none, none, none, none, none, none, none] [] h := by
  unfold f_X11_answerSum
  refine xa_step (xa_lconst d_X11_answerSum_0 rfl) ?_
  refine xa_step (xa_lstore_n (ls' := [some (xR v0), some (xI v1), some (xR v2), some (xL 0), none, none, none, none, none, none, none, none]) d_X11_answerSum_1 (by decide) rfl) ?_
  refine xa_step (xa_lconst d_X11_answerSum_2 rfl) ?_
  refine xa_step (xa_lstore (ls' := [some (xR v0), some (xI v1), some (xR v2), some (xL 0), none, some (xL 0), none, none, none, none, none, none]) d_X11_answerSum_3 (by decide) rfl) ?_
  refine xa_step (xa_lconst d_X11_answerSum_5 rfl) ?_
  refine xa_step (xa_lstore (ls' := [some (xR v0), some (xI v1), some (xR v2), some (xL 0), none, some (xL 0), none, some (xL 0), none, none, none, none]) d_X11_answerSum_6 (by decide) rfl) ?_
  refine xa_step (xa_iconst d_X11_answerSum_8 xq_i_0) ?_
  refine xa_step (xa_istore (ls' := [some (xR v0), some (xI v1), some (xR v2), some (xL 0), none, some (xL 0), none, some (xL 0), none, some (xI 0), none, none]) d_X11_answerSum_9 (by decide) rfl) ?_
  refine xa_weak (ls' := [some (xR v0), some (xI v1), some (xR v2), some (xL 0), none, some (xL 0), none, some (xL 0), none, some (xI 0), none, none]) ⟨rfl, rfl, rfl, rfl, rfl, rfl, rfl, trivial⟩ ?_
  refine xa_loop (f := fun s => f_X11_answerSum_L11 v0 v1 v2 s.1 s.2.1 s.2.2.1 s.2.2.2.1 s.2.2.2.2) (L := fun s => [some (xR v0), some (xI v1), some (xR v2), some (xL s.1), none, some (xL s.2.1), none, some (xL s.2.2.1), none, some (xI s.2.2.2.1), none, none]) (P := fun s => s.2.2.2.2) (X := (fun x K => xa_G l G 5 mX11_answerSum (some (Sum.inr x)) K 89 [none, some (xI v1), none, some (xL x.1), none, some (xL x.2.1), none, some (xL x.2.2.1), none, none, none, none] [] x.2.2.2)) (fun K hb hX s => g_X11_answerSum_L11 l G v0 v1 v2 K (fun w0 w1 w2 w3 hh => hb ((w0, w1, w2, w3, hh))) (fun w0 w1 w2 hh => hX ((w0, w1, w2, hh))) s.1 s.2.1 s.2.2.1 s.2.2.2.1 s.2.2.2.2) ?_ xFU ((0, 0, 0, 0, h))
  intro e9 K hK
  refine xa_eqE hK ?_
  show xa_G l G 5 mX11_answerSum _ _ 89 [none, some (xI v1), none, some (xL e9.1), none, some (xL e9.2.1), none, some (xL e9.2.2.1), none, none, none, none] [] e9.2.2.2
  refine xa_step (xa_iload_n d_X11_answerSum_89 rfl) ?_
  refine xa_step (xa_bipush d_X11_answerSum_90 xq_b_26) ?_
  refine xa_if (xa_icmpne d_X11_answerSum_92) (fun q10 => ?_) (fun q10 => ?_)
  · refine xa_step (xa_lload_n d_X11_answerSum_95 rfl) ?_
    exact xa_lret d_X11_answerSum_96 rfl rfl
  · refine xa_step (xa_iload_n d_X11_answerSum_97 rfl) ?_
    refine xa_step (xa_bipush d_X11_answerSum_98 xq_b_27) ?_
    refine xa_if (xa_icmpne d_X11_answerSum_100) (fun q11 => ?_) (fun q11 => ?_)
    · refine xa_step (xa_lload d_X11_answerSum_103 rfl) ?_
      refine xa_step (xa_goto d_X11_answerSum_105) ?_
      exact xa_lret d_X11_answerSum_110 rfl rfl
    · refine xa_step (xa_lload d_X11_answerSum_108 rfl) ?_
      exact xa_lret d_X11_answerSum_110 rfl rfl
theorem ct_X11_answerSum (l : Launch) (G : xa_C) (v0 v1 v2 : Int) (h : xa_H) (r : Int × xa_H) (hr : f_X11_answerSum v0 v1 v2 h = some r) : xa_CT l G 5 mX11_answerSum yX11_answerSum [xR v0, xI v1, xR v2] h (some (xL r.1), r.2) :=
  xa_met (by decide +kernel) rfl (fun q => by first | rfl | cases q) (Nat.le_of_ble_eq_true rfl) rfl (g_X11_answerSum l G v0 v1 v2 h) (by rw [hr]; rfl)
abbrev mX11_answerTest : xa_M := (cX11_answerTest, 7, (some (.long)), RX11, false)
theorem d_X11_answerTest_0 : decode mX11_answerTest.1 0 = .ok (.iconst 0, 1) ∧ 0 + 1 = 1 := ⟨by decide +kernel, rfl⟩
theorem d_X11_answerTest_1 : decode mX11_answerTest.1 1 = .ok (.istore_n 3, 1) ∧ 1 + 1 = 2 := ⟨by decide +kernel, rfl⟩
theorem d_X11_answerTest_2 : decode mX11_answerTest.1 2 = .ok (.iconst (-1), 1) ∧ 2 + 1 = 3 := ⟨by decide +kernel, rfl⟩
theorem d_X11_answerTest_3 : decode mX11_answerTest.1 3 = .ok (.istore 4, 2) ∧ 3 + 2 = 5 := ⟨by decide +kernel, rfl⟩
theorem d_X11_answerTest_5 : decode mX11_answerTest.1 5 = .ok (.iconst (-1), 1) ∧ 5 + 1 = 6 := ⟨by decide +kernel, rfl⟩
theorem d_X11_answerTest_6 : decode mX11_answerTest.1 6 = .ok (.istore 5, 2) ∧ 6 + 2 = 8 := ⟨by decide +kernel, rfl⟩
theorem d_X11_answerTest_8 : decode mX11_answerTest.1 8 = .ok (.iconst 0, 1) ∧ 8 + 1 = 9 := ⟨by decide +kernel, rfl⟩
theorem d_X11_answerTest_9 : decode mX11_answerTest.1 9 = .ok (.istore 6, 2) ∧ 9 + 2 = 11 := ⟨by decide +kernel, rfl⟩
theorem d_X11_answerTest_11 : decode mX11_answerTest.1 11 = .ok (.iload 6, 2) ∧ 11 + 2 = 13 := ⟨by decide +kernel, rfl⟩
theorem d_X11_answerTest_13 : decode mX11_answerTest.1 13 = .ok (.aload_n 0, 1) ∧ 13 + 1 = 14 := ⟨by decide +kernel, rfl⟩
theorem d_X11_answerTest_14 : decode mX11_answerTest.1 14 = .ok (.getfield 47, 3) ∧ 14 + 3 = 17 := ⟨by decide +kernel, rfl⟩
theorem d_X11_answerTest_17 : decode mX11_answerTest.1 17 = .ok (.getfield 146, 3) ∧ 17 + 3 = 20 := ⟨by decide +kernel, rfl⟩
theorem d_X11_answerTest_20 : decode mX11_answerTest.1 20 = .ok (.if_icmp .ge 48, 3) ∧ 20 + 3 = 23 ∧ ((20 : Nat) : Int) + 48 = ((68 : Nat) : Int) := ⟨by decide +kernel, rfl, rfl⟩
theorem d_X11_answerTest_23 : decode mX11_answerTest.1 23 = .ok (.aload_n 0, 1) ∧ 23 + 1 = 24 := ⟨by decide +kernel, rfl⟩
theorem d_X11_answerTest_24 : decode mX11_answerTest.1 24 = .ok (.iload 6, 2) ∧ 24 + 2 = 26 := ⟨by decide +kernel, rfl⟩
theorem d_X11_answerTest_26 : decode mX11_answerTest.1 26 = .ok (.invokevirtual 399, 3) ∧ 26 + 3 = 29 := ⟨by decide +kernel, rfl⟩
theorem d_X11_answerTest_29 : decode mX11_answerTest.1 29 = .ok (.aload_n 2, 1) ∧ 29 + 1 = 30 := ⟨by decide +kernel, rfl⟩
theorem d_X11_answerTest_30 : decode mX11_answerTest.1 30 = .ok (.aload_n 0, 1) ∧ 30 + 1 = 31 := ⟨by decide +kernel, rfl⟩
theorem d_X11_answerTest_31 : decode mX11_answerTest.1 31 = .ok (.getfield 99, 3) ∧ 31 + 3 = 34 := ⟨by decide +kernel, rfl⟩
theorem d_X11_answerTest_34 : decode mX11_answerTest.1 34 = .ok (.invokevirtual 402, 3) ∧ 34 + 3 = 37 := ⟨by decide +kernel, rfl⟩
theorem d_X11_answerTest_37 : decode mX11_answerTest.1 37 = .ok (.ifCond .eq 25, 3) ∧ 37 + 3 = 40 ∧ ((37 : Nat) : Int) + 25 = ((62 : Nat) : Int) := ⟨by decide +kernel, rfl, rfl⟩
theorem d_X11_answerTest_62 : decode mX11_answerTest.1 62 = .ok (.iinc 6 1, 3) ∧ 62 + 3 = 65 := ⟨by decide +kernel, rfl⟩
theorem d_X11_answerTest_65 : decode mX11_answerTest.1 65 = .ok (.goto (-54), 3) ∧ ((65 : Nat) : Int) + (-54) = ((11 : Nat) : Int) := ⟨by decide +kernel, rfl⟩
theorem d_X11_answerTest_40 : decode mX11_answerTest.1 40 = .ok (.iinc 3 1, 3) ∧ 40 + 3 = 43 := ⟨by decide +kernel, rfl⟩
theorem d_X11_answerTest_43 : decode mX11_answerTest.1 43 = .ok (.iload 4, 2) ∧ 43 + 2 = 45 := ⟨by decide +kernel, rfl⟩
theorem d_X11_answerTest_45 : decode mX11_answerTest.1 45 = .ok (.iconst (-1), 1) ∧ 45 + 1 = 46 := ⟨by decide +kernel, rfl⟩
theorem d_X11_answerTest_46 : decode mX11_answerTest.1 46 = .ok (.if_icmp .ne 8, 3) ∧ 46 + 3 = 49 ∧ ((46 : Nat) : Int) + 8 = ((54 : Nat) : Int) := ⟨by decide +kernel, rfl, rfl⟩
theorem d_X11_answerTest_49 : decode mX11_answerTest.1 49 = .ok (.iload 6, 2) ∧ 49 + 2 = 51 := ⟨by decide +kernel, rfl⟩
theorem d_X11_answerTest_51 : decode mX11_answerTest.1 51 = .ok (.goto 5, 3) ∧ ((51 : Nat) : Int) + 5 = ((56 : Nat) : Int) := ⟨by decide +kernel, rfl⟩
theorem d_X11_answerTest_56 : decode mX11_answerTest.1 56 = .ok (.istore 4, 2) ∧ 56 + 2 = 58 := ⟨by decide +kernel, rfl⟩
theorem d_X11_answerTest_58 : decode mX11_answerTest.1 58 = .ok (.iload 6, 2) ∧ 58 + 2 = 60 := ⟨by decide +kernel, rfl⟩
theorem d_X11_answerTest_60 : decode mX11_answerTest.1 60 = .ok (.istore 5, 2) ∧ 60 + 2 = 62 := ⟨by decide +kernel, rfl⟩
theorem d_X11_answerTest_54 : decode mX11_answerTest.1 54 = .ok (.iload 4, 2) ∧ 54 + 2 = 56 := ⟨by decide +kernel, rfl⟩
set_option maxRecDepth 100000 in
set_option maxHeartbeats 4000000 in
theorem g_X11_answerTest_L11 (l : Launch) (G : xa_C) (c0 c1 c2 : Int) (K : (Int × Int × Int × Int × xa_H) ⊕ (Int × Int × Int × xa_H) → Option xa_O) (hb : ∀ (v3 : Int) (v4 : Int) (v5 : Int) (v6 : Int) (h : xa_H), xa_G l G 5 mX11_answerTest (some (Sum.inl ((v3, v4, v5, v6, h)))) K 11 [some (xR c0), some (xI c1), some (xR c2), some (xI v3), some (xI v4), some (xI v5), some (xI v6)] [] h) (hx : ∀ (v3 : Int) (v4 : Int) (v5 : Int) (h : xa_H), xa_G l G 5 mX11_answerTest (some (Sum.inr ((v3, v4, v5, h)))) K 68 [none, some (xI c1), none, some (xI v3), some (xI v4), some (xI v5), none] [] h) : ∀ (v3 : Int) (v4 : Int) (v5 : Int) (v6 : Int) (h : xa_H), xa_G l G 5 mX11_answerTest (f_X11_answerTest_L11 c0 c1 c2 v3 v4 v5 v6 h) K 11 [some (xR c0), some (xI c1), some (xR c2), some (xI v3), some (xI v4), some (xI v5), some (xI v6)] [] h := by
  intro v3 v4 v5 v6 h
  unfold f_X11_answerTest_L11
  refine xa_step (xa_iload d_X11_answerTest_11 rfl) ?_
  refine xa_step (xa_aload_n d_X11_answerTest_13 rfl) ?_
  refine xa_getf xR xc_11 (by decide) (fun _ => rfl) xw_589 rfl d_X11_answerTest_14 (fun x1 _ => ?_)
  refine xa_getf xI xc_0 (by decide) (fun _ => rfl) xw_391 rfl d_X11_answerTest_17 (fun x2 _ => ?_)
  refine xa_if (xa_icmpge d_X11_answerTest_20) (fun q3 => ?_) (fun q3 => ?_)
  · refine xa_step (xa_aload_n d_X11_answerTest_23 rfl) ?_
    refine xa_step (xa_iload d_X11_answerTest_24 rfl) ?_
    refine xa_callVV (as := [xI v6]) (st := []) (M' := mX11_findFacts) (d' := 3) rfl xw_1250 xw_1252 xw_59 xw_1253 xw_161 xh_X11_findFacts rfl ⟨Nat.le_of_ble_eq_true rfl, Nat.le_of_ble_eq_true rfl⟩ (Nat.le_of_ble_eq_true rfl) rfl d_X11_answerTest_26 (fun r hr => ct_X11_findFacts l G c0 v6 h r hr) (fun r4 _ => ?_)
    refine xa_step (xa_aload_n d_X11_answerTest_29 rfl) ?_
    refine xa_step (xa_aload_n d_X11_answerTest_30 rfl) ?_
    refine xa_getf xR xc_11 (by decide) (fun _ => rfl) xw_598 rfl d_X11_answerTest_31 (fun x5 _ => ?_)
    refine xa_callVI (as := [xR x5]) (st := []) (M' := mX2_worth) (d' := 4) rfl xw_1254 xw_981 xw_982 xw_983 xw_178 xh_X2_worth rfl ⟨Nat.le_of_ble_eq_true rfl, Nat.le_of_ble_eq_true rfl⟩ (Nat.le_of_ble_eq_true rfl) rfl d_X11_answerTest_34 (fun r hr => ct_X2_worth l G c2 x5 r4 r hr) (fun r6 _ => ?_)
    refine xa_if (xa_ifeq d_X11_answerTest_37) (fun q7 => ?_) (fun q7 => ?_)
    · refine xa_step (xa_iinc (ls' := [some (xR c0), some (xI c1), some (xR c2), some (xI v3), some (xI v4), some (xI v5), some (xI (w32 (v6 + 1)))]) d_X11_answerTest_62 xq_i_1 rfl (by decide) rfl) ?_
      refine xa_step (xa_goto d_X11_answerTest_65) ?_
      exact xa_weak (ls' := [some (xR c0), some (xI c1), some (xR c2), some (xI v3), some (xI v4), some (xI v5), some (xI (w32 (v6 + 1)))]) ⟨rfl, rfl, rfl, rfl, rfl, rfl, rfl, trivial⟩ (hb v3 v4 v5 (w32 (v6 + 1)) r6.2)
    · refine xa_step (xa_iinc (ls' := [some (xR c0), some (xI c1), some (xR c2), some (xI (w32 (v3 + 1))), some (xI v4), some (xI v5), some (xI v6)]) d_X11_answerTest_40 xq_i_1 rfl (by decide) rfl) ?_
      refine xa_step (xa_iload d_X11_answerTest_43 rfl) ?_
      refine xa_step (xa_iconst d_X11_answerTest_45 xq_i_m1) ?_
      refine xa_if (xa_icmpne d_X11_answerTest_46) (fun q8 => ?_) (fun q8 => ?_)
      · refine xa_step (xa_iload d_X11_answerTest_49 rfl) ?_
        refine xa_step (xa_goto d_X11_answerTest_51) ?_
        refine xa_step (xa_istore (ls' := [some (xR c0), some (xI c1), some (xR c2), some (xI (w32 (v3 + 1))), some (xI v6), some (xI v5), some (xI v6)]) d_X11_answerTest_56 (by decide) rfl) ?_
        refine xa_step (xa_iload d_X11_answerTest_58 rfl) ?_
        refine xa_step (xa_istore (ls' := [some (xR c0), some (xI c1), some (xR c2), some (xI (w32 (v3 + 1))), some (xI v6), some (xI v6), some (xI v6)]) d_X11_answerTest_60 (by decide) rfl) ?_
        refine xa_step (xa_iinc (ls' := [some (xR c0), some (xI c1), some (xR c2), some (xI (w32 (v3 + 1))), some (xI v6), some (xI v6), some (xI (w32 (v6 + 1)))]) d_X11_answerTest_62 xq_i_1 rfl (by decide) rfl) ?_
        refine xa_step (xa_goto d_X11_answerTest_65) ?_
        exact xa_weak (ls' := [some (xR c0), some (xI c1), some (xR c2), some (xI (w32 (v3 + 1))), some (xI v6), some (xI v6), some (xI (w32 (v6 + 1)))]) ⟨rfl, rfl, rfl, rfl, rfl, rfl, rfl, trivial⟩ (hb (w32 (v3 + 1)) v6 v6 (w32 (v6 + 1)) r6.2)
      · refine xa_step (xa_iload d_X11_answerTest_54 rfl) ?_
        refine xa_step (xa_istore (ls' := [some (xR c0), some (xI c1), some (xR c2), some (xI (w32 (v3 + 1))), some (xI v4), some (xI v5), some (xI v6)]) d_X11_answerTest_56 (by decide) rfl) ?_
        refine xa_step (xa_iload d_X11_answerTest_58 rfl) ?_
        refine xa_step (xa_istore (ls' := [some (xR c0), some (xI c1), some (xR c2), some (xI (w32 (v3 + 1))), some (xI v4), some (xI v6), some (xI v6)]) d_X11_answerTest_60 (by decide) rfl) ?_
        refine xa_step (xa_iinc (ls' := [some (xR c0), some (xI c1), some (xR c2), some (xI (w32 (v3 + 1))), some (xI v4), some (xI v6), some (xI (w32 (v6 + 1)))]) d_X11_answerTest_62 xq_i_1 rfl (by decide) rfl) ?_
        refine xa_step (xa_goto d_X11_answerTest_65) ?_
        exact xa_weak (ls' := [some (xR c0), some (xI c1), some (xR c2), some (xI (w32 (v3 + 1))), some (xI v4), some (xI v6), some (xI (w32 (v6 + 1)))]) ⟨rfl, rfl, rfl, rfl, rfl, rfl, rfl, trivial⟩ (hb (w32 (v3 + 1)) v4 v6 (w32 (v6 + 1)) r6.2)
  · exact xa_weak (ls' := [none, some (xI c1), none, some (xI v3), some (xI v4), some (xI v5), none]) ⟨rfl, rfl, rfl, rfl, trivial⟩ (hx v3 v4 v5 h)
theorem d_X11_answerTest_68 : decode mX11_answerTest.1 68 = .ok (.iload_n 1, 1) ∧ 68 + 1 = 69 := ⟨by decide +kernel, rfl⟩
theorem d_X11_answerTest_69 : decode mX11_answerTest.1 69 = .ok (.bipush 25, 2) ∧ 69 + 2 = 71 := ⟨by decide +kernel, rfl⟩
theorem d_X11_answerTest_71 : decode mX11_answerTest.1 71 = .ok (.if_icmp .ne 6, 3) ∧ 71 + 3 = 74 ∧ ((71 : Nat) : Int) + 6 = ((77 : Nat) : Int) := ⟨by decide +kernel, rfl, rfl⟩
theorem d_X11_answerTest_74 : decode mX11_answerTest.1 74 = .ok (.iload_n 3, 1) ∧ 74 + 1 = 75 := ⟨by decide +kernel, rfl⟩
theorem d_X11_answerTest_75 : decode mX11_answerTest.1 75 = .ok (.i2l, 1) ∧ 75 + 1 = 76 := ⟨by decide +kernel, rfl⟩
theorem d_X11_answerTest_76 : decode mX11_answerTest.1 76 = .ok (.lreturn, 1) := by decide +kernel
theorem d_X11_answerTest_77 : decode mX11_answerTest.1 77 = .ok (.iload_n 1, 1) ∧ 77 + 1 = 78 := ⟨by decide +kernel, rfl⟩
theorem d_X11_answerTest_78 : decode mX11_answerTest.1 78 = .ok (.bipush 23, 2) ∧ 78 + 2 = 80 := ⟨by decide +kernel, rfl⟩
theorem d_X11_answerTest_80 : decode mX11_answerTest.1 80 = .ok (.if_icmp .ne 9, 3) ∧ 80 + 3 = 83 ∧ ((80 : Nat) : Int) + 9 = ((89 : Nat) : Int) := ⟨by decide +kernel, rfl, rfl⟩
theorem d_X11_answerTest_83 : decode mX11_answerTest.1 83 = .ok (.iload 4, 2) ∧ 83 + 2 = 85 := ⟨by decide +kernel, rfl⟩
theorem d_X11_answerTest_85 : decode mX11_answerTest.1 85 = .ok (.i2l, 1) ∧ 85 + 1 = 86 := ⟨by decide +kernel, rfl⟩
theorem d_X11_answerTest_86 : decode mX11_answerTest.1 86 = .ok (.goto 6, 3) ∧ ((86 : Nat) : Int) + 6 = ((92 : Nat) : Int) := ⟨by decide +kernel, rfl⟩
theorem d_X11_answerTest_92 : decode mX11_answerTest.1 92 = .ok (.lreturn, 1) := by decide +kernel
theorem d_X11_answerTest_89 : decode mX11_answerTest.1 89 = .ok (.iload 5, 2) ∧ 89 + 2 = 91 := ⟨by decide +kernel, rfl⟩
theorem d_X11_answerTest_91 : decode mX11_answerTest.1 91 = .ok (.i2l, 1) ∧ 91 + 1 = 92 := ⟨by decide +kernel, rfl⟩
set_option maxRecDepth 100000 in
set_option maxHeartbeats 4000000 in
theorem g_X11_answerTest (l : Launch) (G : xa_C) (v0 v1 v2 : Int) (h : xa_H) : xa_G l G 5 mX11_answerTest (f_X11_answerTest v0 v1 v2 h) (fun r => some (some (xL r.1), r.2) : (Int × xa_H) → Option xa_O) 0 [some (xR v0), some (xI v1), some (xR v2), none, none, none, none] [] h := by
  unfold f_X11_answerTest
  refine xa_step (xa_iconst d_X11_answerTest_0 xq_i_0) ?_
  refine xa_step (xa_istore_n (ls' := [some (xR v0), some (xI v1), some (xR v2), some (xI 0), none, none, none]) d_X11_answerTest_1 (by decide) rfl) ?_
  refine xa_step (xa_iconst d_X11_answerTest_2 xq_i_m1) ?_
  refine xa_step (xa_istore (ls' := [some (xR v0), some (xI v1), some (xR v2), some (xI 0), some (xI ((-1))), none, none]) d_X11_answerTest_3 (by decide) rfl) ?_
  refine xa_step (xa_iconst d_X11_answerTest_5 xq_i_m1) ?_
  refine xa_step (xa_istore (ls' := [some (xR v0), some (xI v1), some (xR v2), some (xI 0), some (xI ((-1))), some (xI ((-1))), none]) d_X11_answerTest_6 (by decide) rfl) ?_
  refine xa_step (xa_iconst d_X11_answerTest_8 xq_i_0) ?_
  refine xa_step (xa_istore (ls' := [some (xR v0), some (xI v1), some (xR v2), some (xI 0), some (xI ((-1))), some (xI ((-1))), some (xI 0)]) d_X11_answerTest_9 (by decide) rfl) ?_
  refine xa_weak (ls' := [some (xR v0), some (xI v1), some (xR v2), some (xI 0), some (xI ((-1))), some (xI ((-1))), some (xI 0)]) ⟨rfl, rfl, rfl, rfl, rfl, rfl, rfl, trivial⟩ ?_
  refine xa_loop (f := fun s => f_X11_answerTest_L11 v0 v1 v2 s.1 s.2.1 s.2.2.1 s.2.2.2.1 s.2.2.2.2) (L := fun s => [some (xR v0), some (xI v1), some (xR v2), some (xI s.1), some (xI s.2.1), some (xI s.2.2.1), some (xI s.2.2.2.1)]) (P := fun s => s.2.2.2.2) (X := (fun x K => xa_G l G 5 mX11_answerTest (some (Sum.inr x)) K 68 [none, some (xI v1), none, some (xI x.1), some (xI x.2.1), some (xI x.2.2.1), none] [] x.2.2.2)) (fun K hb hX s => g_X11_answerTest_L11 l G v0 v1 v2 K (fun w0 w1 w2 w3 hh => hb ((w0, w1, w2, w3, hh))) (fun w0 w1 w2 hh => hX ((w0, w1, w2, hh))) s.1 s.2.1 s.2.2.1 s.2.2.2.1 s.2.2.2.2) ?_ xFU ((0, (-1), (-1), 0, h))
  intro e9 K hK
  refine xa_eqE hK ?_
  show xa_G l G 5 mX11_answerTest _ _ 68 [none, some (xI v1), none, some (xI e9.1), some (xI e9.2.1), some (xI e9.2.2.1), none] [] e9.2.2.2
  refine xa_step (xa_iload_n d_X11_answerTest_68 rfl) ?_
  refine xa_step (xa_bipush d_X11_answerTest_69 xq_b_25) ?_
  refine xa_if (xa_icmpne d_X11_answerTest_71) (fun q10 => ?_) (fun q10 => ?_)
  · refine xa_step (xa_iload_n d_X11_answerTest_74 rfl) ?_
    refine xa_step (xa_i2l d_X11_answerTest_75) ?_
    exact xa_lret d_X11_answerTest_76 rfl rfl
  · refine xa_step (xa_iload_n d_X11_answerTest_77 rfl) ?_
    refine xa_step (xa_bipush d_X11_answerTest_78 xq_b_23) ?_
    refine xa_if (xa_icmpne d_X11_answerTest_80) (fun q11 => ?_) (fun q11 => ?_)
    · refine xa_step (xa_iload d_X11_answerTest_83 rfl) ?_
      refine xa_step (xa_i2l d_X11_answerTest_85) ?_
      refine xa_step (xa_goto d_X11_answerTest_86) ?_
      exact xa_lret d_X11_answerTest_92 rfl rfl
    · refine xa_step (xa_iload d_X11_answerTest_89 rfl) ?_
      refine xa_step (xa_i2l d_X11_answerTest_91) ?_
      exact xa_lret d_X11_answerTest_92 rfl rfl
theorem ct_X11_answerTest (l : Launch) (G : xa_C) (v0 v1 v2 : Int) (h : xa_H) (r : Int × xa_H) (hr : f_X11_answerTest v0 v1 v2 h = some r) : xa_CT l G 5 mX11_answerTest yX11_answerTest [xR v0, xI v1, xR v2] h (some (xL r.1), r.2) :=
  xa_met (by decide +kernel) rfl (fun q => by first | rfl | cases q) (Nat.le_of_ble_eq_true rfl) rfl (g_X11_answerTest l G v0 v1 v2 h) (by rw [hr]; rfl)
