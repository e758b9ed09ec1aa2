abbrev mX11_isHeld : xa_M := (cX11_isHeld, 2, (some (.boolean)), RX11, false)
theorem d_X11_isHeld_0 : decode mX11_isHeld.1 0 = .ok (.iload_n 1, 1) ∧ 0 + 1 = 1 := ⟨by decide +kernel, rfl⟩
theorem d_X11_isHeld_1 : decode mX11_isHeld.1 1 = .ok (.ifCond .lt 18, 3) ∧ 1 + 3 = 4 ∧ ((1 : Nat) : Int) + 18 = ((19 : Nat) : Int) := ⟨by decide +kernel, rfl, rfl⟩
theorem d_X11_isHeld_19 : decode mX11_isHeld.1 19 = .ok (.iconst 0, 1) ∧ 19 + 1 = 20 := ⟨by decide +kernel, rfl⟩
theorem d_X11_isHeld_20 : decode mX11_isHeld.1 20 = .ok (.ireturn, 1) := by decide +kernel
theorem d_X11_isHeld_4 : decode mX11_isHeld.1 4 = .ok (.iload_n 1, 1) ∧ 4 + 1 = 5 := ⟨by decide +kernel, rfl⟩
theorem d_X11_isHeld_5 : decode mX11_isHeld.1 5 = .ok (.aload_n 0, 1) ∧ 5 + 1 = 6 := ⟨by decide +kernel, rfl⟩
theorem d_X11_isHeld_6 : decode mX11_isHeld.1 6 = .ok (.getfield 47, 3) ∧ 6 + 3 = 9 := ⟨by decide +kernel, rfl⟩
theorem d_X11_isHeld_9 : decode mX11_isHeld.1 9 = .ok (.getfield 149, 3) ∧ 9 + 3 = 12 := ⟨by decide +kernel, rfl⟩
theorem d_X11_isHeld_12 : decode mX11_isHeld.1 12 = .ok (.if_icmp .ge 7, 3) ∧ 12 + 3 = 15 ∧ ((12 : Nat) : Int) + 7 = ((19 : Nat) : Int) := ⟨by decide +kernel, rfl, rfl⟩
theorem d_X11_isHeld_15 : decode mX11_isHeld.1 15 = .ok (.iconst 1, 1) ∧ 15 + 1 = 16 := ⟨by decide +kernel, rfl⟩
theorem d_X11_isHeld_16 : decode mX11_isHeld.1 16 = .ok (.goto 4, 3) ∧ ((16 : Nat) : Int) + 4 = ((20 : Nat) : Int) := ⟨by decide +kernel, rfl⟩
set_option maxRecDepth 100000 in
set_option maxHeartbeats 4000000 in
theorem g_X11_isHeld (l : Launch) (G : xa_C) (v0 v1 : Int) (h : xa_H) : xa_G l G 2 mX11_isHeld (f_X11_isHeld v0 v1 h) (fun r => some (some (xI r), h) : Int → Option xa_O) 0 [some (xR v0), some (xI v1)] [] h := by
  unfold f_X11_isHeld
  refine xa_step (xa_iload_n d_X11_isHeld_0 rfl) ?_
  refine xa_if (xa_iflt d_X11_isHeld_1) (fun q1 => ?_) (fun q1 => ?_)
  · refine xa_step (xa_iconst d_X11_isHeld_19 xq_i_0) ?_
    exact xa_zret d_X11_isHeld_20 rfl (Or.inl rfl) rfl
  · refine xa_step (xa_iload_n d_X11_isHeld_4 rfl) ?_
    refine xa_step (xa_aload_n d_X11_isHeld_5 rfl) ?_
    refine xa_getf xR xc_11 (by decide) (fun _ => rfl) xw_589 rfl d_X11_isHeld_6 (fun x2 _ => ?_)
    refine xa_getf xI xc_0 (by decide) (fun _ => rfl) xw_386 rfl d_X11_isHeld_9 (fun x3 _ => ?_)
    refine xa_if (xa_icmpge d_X11_isHeld_12) (fun q4 => ?_) (fun q4 => ?_)
    · refine xa_step (xa_iconst d_X11_isHeld_15 xq_i_1) ?_
      refine xa_step (xa_goto d_X11_isHeld_16) ?_
      exact xa_zret d_X11_isHeld_20 rfl (Or.inr rfl) rfl
    · refine xa_step (xa_iconst d_X11_isHeld_19 xq_i_0) ?_
      exact xa_zret d_X11_isHeld_20 rfl (Or.inl rfl) rfl
theorem ct_X11_isHeld (l : Launch) (G : xa_C) (v0 v1 : Int) (h : xa_H) (r : Int) (hr : f_X11_isHeld v0 v1 h = some r) : xa_CT l G 2 mX11_isHeld yX11_isHeld [xR v0, xI v1] h (some (xI r), h) :=
  xa_met (by decide +kernel) rfl (fun q => by first | rfl | cases q) (Nat.le_of_ble_eq_true rfl) rfl (g_X11_isHeld l G v0 v1 h) (by rw [hr]; rfl)
abbrev mX11_isHolder : xa_M := (cX11_isHolder, 2, (some (.boolean)), RX11, false)
theorem d_X11_isHolder_0 : decode mX11_isHolder.1 0 = .ok (.iload_n 1, 1) ∧ 0 + 1 = 1 := ⟨by decide +kernel, rfl⟩
theorem d_X11_isHolder_1 : decode mX11_isHolder.1 1 = .ok (.ifCond .lt 18, 3) ∧ 1 + 3 = 4 ∧ ((1 : Nat) : Int) + 18 = ((19 : Nat) : Int) := ⟨by decide +kernel, rfl, rfl⟩
theorem d_X11_isHolder_19 : decode mX11_isHolder.1 19 = .ok (.iconst 0, 1) ∧ 19 + 1 = 20 := ⟨by decide +kernel, rfl⟩
theorem d_X11_isHolder_20 : decode mX11_isHolder.1 20 = .ok (.ireturn, 1) := by decide +kernel
theorem d_X11_isHolder_4 : decode mX11_isHolder.1 4 = .ok (.iload_n 1, 1) ∧ 4 + 1 = 5 := ⟨by decide +kernel, rfl⟩
theorem d_X11_isHolder_5 : decode mX11_isHolder.1 5 = .ok (.aload_n 0, 1) ∧ 5 + 1 = 6 := ⟨by decide +kernel, rfl⟩
theorem d_X11_isHolder_6 : decode mX11_isHolder.1 6 = .ok (.getfield 47, 3) ∧ 6 + 3 = 9 := ⟨by decide +kernel, rfl⟩
theorem d_X11_isHolder_9 : decode mX11_isHolder.1 9 = .ok (.getfield 146, 3) ∧ 9 + 3 = 12 := ⟨by decide +kernel, rfl⟩
theorem d_X11_isHolder_12 : decode mX11_isHolder.1 12 = .ok (.if_icmp .ge 7, 3) ∧ 12 + 3 = 15 ∧ ((12 : Nat) : Int) + 7 = ((19 : Nat) : Int) := ⟨by decide +kernel, rfl, rfl⟩
theorem d_X11_isHolder_15 : decode mX11_isHolder.1 15 = .ok (.iconst 1, 1) ∧ 15 + 1 = 16 := ⟨by decide +kernel, rfl⟩
theorem d_X11_isHolder_16 : decode mX11_isHolder.1 16 = .ok (.goto 4, 3) ∧ ((16 : Nat) : Int) + 4 = ((20 : Nat) : Int) := ⟨by decide +kernel, rfl⟩
set_option maxRecDepth 100000 in
set_option maxHeartbeats 4000000 in
theorem g_X11_isHolder (l : Launch) (G : xa_C) (v0 v1 : Int) (h : xa_H) : xa_G l G 2 mX11_isHolder (f_X11_isHolder v0 v1 h) (fun r => some (some (xI r), h) : Int → Option xa_O) 0 [some (xR v0), some (xI v1)] [] h := by
  unfold f_X11_isHolder
  refine xa_step (xa_iload_n d_X11_isHolder_0 rfl) ?_
  refine xa_if (xa_iflt d_X11_isHolder_1) (fun q1 => ?_) (fun q1 => ?_)
  · refine xa_step (xa_iconst d_X11_isHolder_19 xq_i_0) ?_
    exact xa_zret d_X11_isHolder_20 rfl (Or.inl rfl) rfl
  · refine xa_step (xa_iload_n d_X11_isHolder_4 rfl) ?_
    refine xa_step (xa_aload_n d_X11_isHolder_5 rfl) ?_
    refine xa_getf xR xc_11 (by decide) (fun _ => rfl) xw_589 rfl d_X11_isHolder_6 (fun x2 _ => ?_)
    refine xa_getf xI xc_0 (by decide) (fun _ => rfl) xw_391 rfl d_X11_isHolder_9 (fun x3 _ => ?_)
    refine xa_if (xa_icmpge d_X11_isHolder_12) (fun q4 => ?_) (fun q4 => ?_)
    · refine xa_step (xa_iconst d_X11_isHolder_15 xq_i_1) ?_
      refine xa_step (xa_goto d_X11_isHolder_16) ?_
      exact xa_zret d_X11_isHolder_20 rfl (Or.inr rfl) rfl
    · refine xa_step (xa_iconst d_X11_isHolder_19 xq_i_0) ?_
      exact xa_zret d_X11_isHolder_20 rfl (Or.inl rfl) rfl
theorem ct_X11_isHolder (l : Launch) (G : xa_C) (v0 v1 : Int) (h : xa_H) (r : Int) (hr : f_X11_isHolder v0 v1 h = some r) : xa_CT l G 2 mX11_isHolder yX11_isHolder [xR v0, xI v1] h (some (xI r), h) :=
  xa_met (by decide +kernel) rfl (fun q => by first | rfl | cases q) (Nat.le_of_ble_eq_true rfl) rfl (g_X11_isHolder l G v0 v1 h) (by rw [hr]; rfl)
abbrev mX11_tapeByte : xa_M := (cX11_tapeByte, 2, (some (.int)), RX11, false)
theorem d_X11_tapeByte_0 : decode mX11_tapeByte.1 0 = .ok (.iload_n 1, 1) ∧ 0 + 1 = 1 := ⟨by decide +kernel, rfl⟩
theorem d_X11_tapeByte_1 : decode mX11_tapeByte.1 1 = .ok (.ifCond .lt 23, 3) ∧ 1 + 3 = 4 ∧ ((1 : Nat) : Int) + 23 = ((24 : Nat) : Int) := ⟨by decide +kernel, rfl, rfl⟩
theorem d_X11_tapeByte_24 : decode mX11_tapeByte.1 24 = .ok (.iconst 0, 1) ∧ 24 + 1 = 25 := ⟨by decide +kernel, rfl⟩
theorem d_X11_tapeByte_25 : decode mX11_tapeByte.1 25 = .ok (.ireturn, 1) := by decide +kernel
theorem d_X11_tapeByte_4 : decode mX11_tapeByte.1 4 = .ok (.iload_n 1, 1) ∧ 4 + 1 = 5 := ⟨by decide +kernel, rfl⟩
theorem d_X11_tapeByte_5 : decode mX11_tapeByte.1 5 = .ok (.sipush 1600, 3) ∧ 5 + 3 = 8 := ⟨by decide +kernel, rfl⟩
theorem d_X11_tapeByte_8 : decode mX11_tapeByte.1 8 = .ok (.if_icmp .ge 16, 3) ∧ 8 + 3 = 11 ∧ ((8 : Nat) : Int) + 16 = ((24 : Nat) : Int) := ⟨by decide +kernel, rfl, rfl⟩
theorem d_X11_tapeByte_11 : decode mX11_tapeByte.1 11 = .ok (.aload_n 0, 1) ∧ 11 + 1 = 12 := ⟨by decide +kernel, rfl⟩
theorem d_X11_tapeByte_12 : decode mX11_tapeByte.1 12 = .ok (.getfield 9, 3) ∧ 12 + 3 = 15 := ⟨by decide +kernel, rfl⟩
theorem d_X11_tapeByte_15 : decode mX11_tapeByte.1 15 = .ok (.iload_n 1, 1) ∧ 15 + 1 = 16 := ⟨by decide +kernel, rfl⟩
theorem d_X11_tapeByte_16 : decode mX11_tapeByte.1 16 = .ok (.baload, 1) ∧ 16 + 1 = 17 := ⟨by decide +kernel, rfl⟩
theorem d_X11_tapeByte_17 : decode mX11_tapeByte.1 17 = .ok (.sipush 255, 3) ∧ 17 + 3 = 20 := ⟨by decide +kernel, rfl⟩
theorem d_X11_tapeByte_20 : decode mX11_tapeByte.1 20 = .ok (.iand, 1) ∧ 20 + 1 = 21 := ⟨by decide +kernel, rfl⟩
theorem d_X11_tapeByte_21 : decode mX11_tapeByte.1 21 = .ok (.goto 4, 3) ∧ ((21 : Nat) : Int) + 4 = ((25 : Nat) : Int) := ⟨by decide +kernel, rfl⟩
set_option maxRecDepth 100000 in
set_option maxHeartbeats 4000000 in
theorem g_X11_tapeByte (l : Launch) (G : xa_C) (v0 v1 : Int) (h : xa_H) : xa_G l G 2 mX11_tapeByte (f_X11_tapeByte v0 v1 h) (fun r => some (some (xI r), h) : Int → Option xa_O) 0 [some (xR v0), some (xI v1)] [] h := by
  unfold f_X11_tapeByte
  refine xa_step (xa_iload_n d_X11_tapeByte_0 rfl) ?_
  refine xa_if (xa_iflt d_X11_tapeByte_1) (fun q1 => ?_) (fun q1 => ?_)
  · refine xa_step (xa_iconst d_X11_tapeByte_24 xq_i_0) ?_
    exact xa_iret d_X11_tapeByte_25 rfl rfl
  · refine xa_step (xa_iload_n d_X11_tapeByte_4 rfl) ?_
    refine xa_step (xa_sipush d_X11_tapeByte_5 xq_s_1600) ?_
    refine xa_if (xa_icmpge d_X11_tapeByte_8) (fun q2 => ?_) (fun q2 => ?_)
    · refine xa_step (xa_aload_n d_X11_tapeByte_11 rfl) ?_
      refine xa_getf xR xc_11 (by decide) (fun _ => rfl) xw_584 rfl d_X11_tapeByte_12 (fun x3 _ => ?_)
      refine xa_step (xa_iload_n d_X11_tapeByte_15 rfl) ?_
      refine xa_baload d_X11_tapeByte_16 (fun x4 _ => ?_)
      refine xa_step (xa_sipush d_X11_tapeByte_17 xq_s_255) ?_
      refine xa_step (xa_iand d_X11_tapeByte_20) ?_
      refine xa_step (xa_goto d_X11_tapeByte_21) ?_
      exact xa_iret d_X11_tapeByte_25 rfl rfl
    · refine xa_step (xa_iconst d_X11_tapeByte_24 xq_i_0) ?_
      exact xa_iret d_X11_tapeByte_25 rfl rfl
theorem ct_X11_tapeByte (l : Launch) (G : xa_C) (v0 v1 : Int) (h : xa_H) (r : Int) (hr : f_X11_tapeByte v0 v1 h = some r) : xa_CT l G 2 mX11_tapeByte yX11_tapeByte [xR v0, xI v1] h (some (xI r), h) :=
  xa_met (by decide +kernel) rfl (fun q => by first | rfl | cases q) (Nat.le_of_ble_eq_true rfl) rfl (g_X11_tapeByte l G v0 v1 h) (by rw [hr]; rfl)
abbrev mX11_areNotes : xa_M := (cX11_areNotes, 3, (some (.boolean)), RX11, false)
theorem d_X11_areNotes_0 : decode mX11_areNotes.1 0 = .ok (.iload_n 1, 1) ∧ 0 + 1 = 1 := ⟨by decide +kernel, rfl⟩
theorem d_X11_areNotes_1 : decode mX11_areNotes.1 1 = .ok (.iconst 3, 1) ∧ 1 + 1 = 2 := ⟨by decide +kernel, rfl⟩
theorem d_X11_areNotes_2 : decode mX11_areNotes.1 2 = .ok (.if_icmp .lt 15, 3) ∧ 2 + 3 = 5 ∧ ((2 : Nat) : Int) + 15 = ((17 : Nat) : Int) := ⟨by decide +kernel, rfl, rfl⟩
theorem d_X11_areNotes_17 : decode mX11_areNotes.1 17 = .ok (.iconst 0, 1) ∧ 17 + 1 = 18 := ⟨by decide +kernel, rfl⟩
theorem d_X11_areNotes_18 : decode mX11_areNotes.1 18 = .ok (.ireturn, 1) := by decide +kernel
theorem d_X11_areNotes_5 : decode mX11_areNotes.1 5 = .ok (.iload_n 1, 1) ∧ 5 + 1 = 6 := ⟨by decide +kernel, rfl⟩
theorem d_X11_areNotes_6 : decode mX11_areNotes.1 6 = .ok (.bipush 60, 2) ∧ 6 + 2 = 8 := ⟨by decide +kernel, rfl⟩
theorem d_X11_areNotes_8 : decode mX11_areNotes.1 8 = .ok (.if_icmp .gt 9, 3) ∧ 8 + 3 = 11 ∧ ((8 : Nat) : Int) + 9 = ((17 : Nat) : Int) := ⟨by decide +kernel, rfl, rfl⟩
theorem d_X11_areNotes_11 : decode mX11_areNotes.1 11 = .ok (.iload_n 1, 1) ∧ 11 + 1 = 12 := ⟨by decide +kernel, rfl⟩
theorem d_X11_areNotes_12 : decode mX11_areNotes.1 12 = .ok (.iconst 3, 1) ∧ 12 + 1 = 13 := ⟨by decide +kernel, rfl⟩
theorem d_X11_areNotes_13 : decode mX11_areNotes.1 13 = .ok (.irem, 1) ∧ 13 + 1 = 14 := ⟨by decide +kernel, rfl⟩
theorem d_X11_areNotes_14 : decode mX11_areNotes.1 14 = .ok (.ifCond .eq 5, 3) ∧ 14 + 3 = 17 ∧ ((14 : Nat) : Int) + 5 = ((19 : Nat) : Int) := ⟨by decide +kernel, rfl, rfl⟩
theorem d_X11_areNotes_19 : decode mX11_areNotes.1 19 = .ok (.iconst 0, 1) ∧ 19 + 1 = 20 := ⟨by decide +kernel, rfl⟩
theorem d_X11_areNotes_20 : decode mX11_areNotes.1 20 = .ok (.istore_n 2, 1) ∧ 20 + 1 = 21 := ⟨by decide +kernel, rfl⟩
theorem d_X11_areNotes_21 : decode mX11_areNotes.1 21 = .ok (.iload_n 2, 1) ∧ 21 + 1 = 22 := ⟨by decide +kernel, rfl⟩
theorem d_X11_areNotes_22 : decode mX11_areNotes.1 22 = .ok (.iload_n 1, 1) ∧ 22 + 1 = 23 := ⟨by decide +kernel, rfl⟩
theorem d_X11_areNotes_23 : decode mX11_areNotes.1 23 = .ok (.if_icmp .ge 48, 3) ∧ 23 + 3 = 26 ∧ ((23 : Nat) : Int) + 48 = ((71 : Nat) : Int) := ⟨by decide +kernel, rfl, rfl⟩
theorem d_X11_areNotes_26 : decode mX11_areNotes.1 26 = .ok (.aload_n 0, 1) ∧ 26 + 1 = 27 := ⟨by decide +kernel, rfl⟩
theorem d_X11_areNotes_27 : decode mX11_areNotes.1 27 = .ok (.aload_n 0, 1) ∧ 27 + 1 = 28 := ⟨by decide +kernel, rfl⟩
theorem d_X11_areNotes_28 : decode mX11_areNotes.1 28 = .ok (.iload_n 2, 1) ∧ 28 + 1 = 29 := ⟨by decide +kernel, rfl⟩
theorem d_X11_areNotes_29 : decode mX11_areNotes.1 29 = .ok (.invokevirtual 303, 3) ∧ 29 + 3 = 32 := ⟨by decide +kernel, rfl⟩
theorem d_X11_areNotes_32 : decode mX11_areNotes.1 32 = .ok (.invokevirtual 199, 3) ∧ 32 + 3 = 35 := ⟨by decide +kernel, rfl⟩
theorem d_X11_areNotes_35 : decode mX11_areNotes.1 35 = .ok (.ifCond .eq 28, 3) ∧ 35 + 3 = 38 ∧ ((35 : Nat) : Int) + 28 = ((63 : Nat) : Int) := ⟨by decide +kernel, rfl, rfl⟩
theorem d_X11_areNotes_63 : decode mX11_areNotes.1 63 = .ok (.iconst 0, 1) ∧ 63 + 1 = 64 := ⟨by decide +kernel, rfl⟩
theorem d_X11_areNotes_64 : decode mX11_areNotes.1 64 = .ok (.ireturn, 1) := by decide +kernel
theorem d_X11_areNotes_38 : decode mX11_areNotes.1 38 = .ok (.aload_n 0, 1) ∧ 38 + 1 = 39 := ⟨by decide +kernel, rfl⟩
theorem d_X11_areNotes_39 : decode mX11_areNotes.1 39 = .ok (.aload_n 0, 1) ∧ 39 + 1 = 40 := ⟨by decide +kernel, rfl⟩
theorem d_X11_areNotes_40 : decode mX11_areNotes.1 40 = .ok (.iload_n 2, 1) ∧ 40 + 1 = 41 := ⟨by decide +kernel, rfl⟩
theorem d_X11_areNotes_41 : decode mX11_areNotes.1 41 = .ok (.iconst 1, 1) ∧ 41 + 1 = 42 := ⟨by decide +kernel, rfl⟩
theorem d_X11_areNotes_42 : decode mX11_areNotes.1 42 = .ok (.iadd, 1) ∧ 42 + 1 = 43 := ⟨by decide +kernel, rfl⟩
theorem d_X11_areNotes_43 : decode mX11_areNotes.1 43 = .ok (.invokevirtual 303, 3) ∧ 43 + 3 = 46 := ⟨by decide +kernel, rfl⟩
theorem d_X11_areNotes_46 : decode mX11_areNotes.1 46 = .ok (.invokevirtual 188, 3) ∧ 46 + 3 = 49 := ⟨by decide +kernel, rfl⟩
theorem d_X11_areNotes_49 : decode mX11_areNotes.1 49 = .ok (.ifCond .eq 14, 3) ∧ 49 + 3 = 52 ∧ ((49 : Nat) : Int) + 14 = ((63 : Nat) : Int) := ⟨by decide +kernel, rfl, rfl⟩
theorem d_X11_areNotes_52 : decode mX11_areNotes.1 52 = .ok (.aload_n 0, 1) ∧ 52 + 1 = 53 := ⟨by decide +kernel, rfl⟩
theorem d_X11_areNotes_53 : decode mX11_areNotes.1 53 = .ok (.iload_n 2, 1) ∧ 53 + 1 = 54 := ⟨by decide +kernel, rfl⟩
theorem d_X11_areNotes_54 : decode mX11_areNotes.1 54 = .ok (.iconst 2, 1) ∧ 54 + 1 = 55 := ⟨by decide +kernel, rfl⟩
theorem d_X11_areNotes_55 : decode mX11_areNotes.1 55 = .ok (.iadd, 1) ∧ 55 + 1 = 56 := ⟨by decide +kernel, rfl⟩
theorem d_X11_areNotes_56 : decode mX11_areNotes.1 56 = .ok (.invokevirtual 303, 3) ∧ 56 + 3 = 59 := ⟨by decide +kernel, rfl⟩
theorem d_X11_areNotes_59 : decode mX11_areNotes.1 59 = .ok (.iconst 1, 1) ∧ 59 + 1 = 60 := ⟨by decide +kernel, rfl⟩
theorem d_X11_areNotes_60 : decode mX11_areNotes.1 60 = .ok (.if_icmp .le 5, 3) ∧ 60 + 3 = 63 ∧ ((60 : Nat) : Int) + 5 = ((65 : Nat) : Int) := ⟨by decide +kernel, rfl, rfl⟩
theorem d_X11_areNotes_65 : decode mX11_areNotes.1 65 = .ok (.iinc 2 3, 3) ∧ 65 + 3 = 68 := ⟨by decide +kernel, rfl⟩
theorem d_X11_areNotes_68 : decode mX11_areNotes.1 68 = .ok (.goto (-47), 3) ∧ ((68 : Nat) : Int) + (-47) = ((21 : Nat) : Int) := ⟨by decide +kernel, rfl⟩
set_option maxRecDepth 100000 in
set_option maxHeartbeats 4000000 in
theorem g_X11_areNotes_L21 (l : Launch) (G : xa_C) (c0 c1 : Int) (h : xa_H) (K : (Int) ⊕ ((Int) ⊕ (Unit)) → Option xa_O) (hb : ∀ (v2 : Int), xa_G l G 3 mX11_areNotes (some (Sum.inl v2)) K 21 [some (xR c0), some (xI c1), some (xI v2)] [] h) (hr : ∀ r : Int, K (Sum.inr (Sum.inl r)) = some (some (xI r), h)) (hx : xa_G l G 3 mX11_areNotes (some (Sum.inr (Sum.inr (())))) K 71 [none, none, none] [] h) : ∀ (v2 : Int), xa_G l G 3 mX11_areNotes (f_X11_areNotes_L21 c0 c1 h v2) K 21 [some (xR c0), some (xI c1), some (xI v2)] [] h := by
  intro v2
  unfold f_X11_areNotes_L21
  refine xa_step (xa_iload_n d_X11_areNotes_21 rfl) ?_
  refine xa_step (xa_iload_n d_X11_areNotes_22 rfl) ?_
  refine xa_if (xa_icmpge d_X11_areNotes_23) (fun q4 => ?_) (fun q4 => ?_)
  · refine xa_step (xa_aload_n d_X11_areNotes_26 rfl) ?_
    refine xa_step (xa_aload_n d_X11_areNotes_27 rfl) ?_
    refine xa_step (xa_iload_n d_X11_areNotes_28 rfl) ?_
    refine xa_callVi (as := [xI v2]) (st := [xR c0]) (M' := mX11_tapeByte) (d' := 2) rfl xw_958 xw_960 xw_36 xw_961 xw_161 xh_X11_tapeByte rfl ⟨Nat.le_of_ble_eq_true rfl, Nat.le_of_ble_eq_true rfl⟩ (Nat.le_of_ble_eq_true rfl) rfl d_X11_areNotes_29 (fun r hr => ct_X11_tapeByte l G c0 v2 h r hr) (fun r5 _ => ?_)
    refine xa_callVi (as := [xI r5]) (st := []) (M' := mX11_isHolder) (d' := 2) rfl xw_921 xw_923 xw_33 xw_924 xw_161 xh_X11_isHolder rfl ⟨Nat.le_of_ble_eq_true rfl, Nat.le_of_ble_eq_true rfl⟩ (Nat.le_of_ble_eq_true rfl) rfl d_X11_areNotes_32 (fun r hr => ct_X11_isHolder l G c0 r5 h r hr) (fun r6 _ => ?_)
    refine xa_if (xa_ifeq d_X11_areNotes_35) (fun q7 => ?_) (fun q7 => ?_)
    · refine xa_step (xa_iconst d_X11_areNotes_63 xq_i_0) ?_
      exact xa_zret d_X11_areNotes_64 rfl (Or.inl rfl) (hr _)
    · refine xa_step (xa_aload_n d_X11_areNotes_38 rfl) ?_
      refine xa_step (xa_aload_n d_X11_areNotes_39 rfl) ?_
      refine xa_step (xa_iload_n d_X11_areNotes_40 rfl) ?_
      refine xa_step (xa_iconst d_X11_areNotes_41 xq_i_1) ?_
      refine xa_step (xa_iadd d_X11_areNotes_42) ?_
      refine xa_callVi (as := [xI (w32 (v2 + 1))]) (st := [xR c0]) (M' := mX11_tapeByte) (d' := 2) rfl xw_958 xw_960 xw_36 xw_961 xw_161 xh_X11_tapeByte rfl ⟨Nat.le_of_ble_eq_true rfl, Nat.le_of_ble_eq_true rfl⟩ (Nat.le_of_ble_eq_true rfl) rfl d_X11_areNotes_43 (fun r hr => ct_X11_tapeByte l G c0 (w32 (v2 + 1)) h r hr) (fun r8 _ => ?_)
      refine xa_callVi (as := [xI r8]) (st := []) (M' := mX11_isHeld) (d' := 2) rfl xw_914 xw_916 xw_32 xw_917 xw_161 xh_X11_isHeld rfl ⟨Nat.le_of_ble_eq_true rfl, Nat.le_of_ble_eq_true rfl⟩ (Nat.le_of_ble_eq_true rfl) rfl d_X11_areNotes_46 (fun r hr => ct_X11_isHeld l G c0 r8 h r hr) (fun r9 _ => ?_)
      refine xa_if (xa_ifeq d_X11_areNotes_49) (fun q10 => ?_) (fun q10 => ?_)
      · refine xa_step (xa_iconst d_X11_areNotes_63 xq_i_0) ?_
        exact xa_zret d_X11_areNotes_64 rfl (Or.inl rfl) (hr _)
      · refine xa_step (xa_aload_n d_X11_areNotes_52 rfl) ?_
        refine xa_step (xa_iload_n d_X11_areNotes_53 rfl) ?_
        refine xa_step (xa_iconst d_X11_areNotes_54 xq_i_2) ?_
        refine xa_step (xa_iadd d_X11_areNotes_55) ?_
        refine xa_callVi (as := [xI (w32 (v2 + 2))]) (st := []) (M' := mX11_tapeByte) (d' := 2) rfl xw_958 xw_960 xw_36 xw_961 xw_161 xh_X11_tapeByte rfl ⟨Nat.le_of_ble_eq_true rfl, Nat.le_of_ble_eq_true rfl⟩ (Nat.le_of_ble_eq_true rfl) rfl d_X11_areNotes_56 (fun r hr => ct_X11_tapeByte l G c0 (w32 (v2 + 2)) h r hr) (fun r11 _ => ?_)
        refine xa_step (xa_iconst d_X11_areNotes_59 xq_i_1) ?_
        refine xa_if (xa_icmple d_X11_areNotes_60) (fun q12 => ?_) (fun q12 => ?_)
        · refine xa_step (xa_iconst d_X11_areNotes_63 xq_i_0) ?_
          exact xa_zret d_X11_areNotes_64 rfl (Or.inl rfl) (hr _)
        · refine xa_step (xa_iinc (ls' := [some (xR c0), some (xI c1), some (xI (w32 (v2 + 3)))]) d_X11_areNotes_65 xq_i_3 rfl (by decide) rfl) ?_
          refine xa_step (xa_goto d_X11_areNotes_68) ?_
          exact xa_weak (ls' := [some (xR c0), some (xI c1), some (xI (w32 (v2 + 3)))]) ⟨rfl, rfl, rfl, trivial⟩ (hb (w32 (v2 + 3)))
  · exact xa_weak (ls' := [none, none, none]) trivial (hx )
theorem d_X11_areNotes_71 : decode mX11_areNotes.1 71 = .ok (.iconst 1, 1) ∧ 71 + 1 = 72 := ⟨by decide +kernel, rfl⟩
theorem d_X11_areNotes_72 : decode mX11_areNotes.1 72 = .ok (.ireturn, 1) := by decide +kernel
set_option maxRecDepth 100000 in
set_option maxHeartbeats 4000000 in
theorem g_X11_areNotes (l : Launch) (G : xa_C) (v0 v1 : Int) (h : xa_H) : xa_G l G 3 mX11_areNotes (f_X11_areNotes v0 v1 h) (fun r => some (some (xI r), h) : Int → Option xa_O) 0 [some (xR v0), some (xI v1), none] [] h := by
  unfold f_X11_areNotes
  refine xa_step (xa_iload_n d_X11_areNotes_0 rfl) ?_
  refine xa_step (xa_iconst d_X11_areNotes_1 xq_i_3) ?_
  refine xa_if (xa_icmplt d_X11_areNotes_2) (fun q1 => ?_) (fun q1 => ?_)
  · refine xa_step (xa_iconst d_X11_areNotes_17 xq_i_0) ?_
    exact xa_zret d_X11_areNotes_18 rfl (Or.inl rfl) rfl
  · refine xa_step (xa_iload_n d_X11_areNotes_5 rfl) ?_
    refine xa_step (xa_bipush d_X11_areNotes_6 xq_b_60) ?_
    refine xa_if (xa_icmpgt d_X11_areNotes_8) (fun q2 => ?_) (fun q2 => ?_)
    · refine xa_step (xa_iconst d_X11_areNotes_17 xq_i_0) ?_
      exact xa_zret d_X11_areNotes_18 rfl (Or.inl rfl) rfl
    · refine xa_step (xa_iload_n d_X11_areNotes_11 rfl) ?_
      refine xa_step (xa_iconst d_X11_areNotes_12 xq_i_3) ?_
      refine xa_step (xa_irem d_X11_areNotes_13 (by decide)) ?_
      refine xa_if (xa_ifeq d_X11_areNotes_14) (fun q3 => ?_) (fun q3 => ?_)
      · refine xa_step (xa_iconst d_X11_areNotes_19 xq_i_0) ?_
        refine xa_step (xa_istore_n (ls' := [some (xR v0), some (xI v1), some (xI 0)]) d_X11_areNotes_20 (by decide) rfl) ?_
        refine xa_weak (ls' := [some (xR v0), some (xI v1), some (xI 0)]) ⟨rfl, rfl, rfl, trivial⟩ ?_
        refine xa_loop (f := fun s => f_X11_areNotes_L21 v0 v1 h s) (L := fun s => [some (xR v0), some (xI v1), some (xI s)]) (P := fun s => h) (X := (fun e K => match e with | Sum.inl r => K (Sum.inr (Sum.inl r)) = some (some (xI r), h) | Sum.inr x => xa_G l G 3 mX11_areNotes (some (Sum.inr (Sum.inr x))) K 71 [none, none, none] [] h)) (fun K hb hX s => g_X11_areNotes_L21 l G v0 v1 h K (fun w0 => hb w0) (fun r => hX (Sum.inl r)) (hX (Sum.inr ())) s) ?_ xFU 0
        rintro (r | y14) K hK
        · exact hK.trans rfl
        · refine xa_eqE hK ?_
          show xa_G l G 3 mX11_areNotes _ _ 71 [none, none, none] [] h
          refine xa_step (xa_iconst d_X11_areNotes_71 xq_i_1) ?_
          exact xa_zret d_X11_areNotes_72 rfl (Or.inr rfl) rfl
      · refine xa_step (xa_iconst d_X11_areNotes_17 xq_i_0) ?_
        exact xa_zret d_X11_areNotes_18 rfl (Or.inl rfl) rfl
theorem ct_X11_areNotes (l : Launch) (G : xa_C) (v0 v1 : Int) (h : xa_H) (r : Int) (hr : f_X11_areNotes v0 v1 h = some r) : xa_CT l G 3 mX11_areNotes yX11_areNotes [xR v0, xI v1] h (some (xI r), h) :=
  xa_met (by decide +kernel) rfl (fun q => by first | rfl | cases q) (Nat.le_of_ble_eq_true rfl) rfl (g_X11_areNotes l G v0 v1 h) (by rw [hr]; rfl)
abbrev mX11_takeTape : xa_M := (cX11_takeTape, 2, (some (.int)), RX11, false)
theorem d_X11_takeTape_0 : decode mX11_takeTape.1 0 = .ok (.aload_n 0, 1) ∧ 0 + 1 = 1 := ⟨by decide +kernel, rfl⟩
theorem d_X11_takeTape_1 : decode mX11_takeTape.1 1 = .ok (.getfield 13, 3) ∧ 1 + 3 = 4 := ⟨by decide +kernel, rfl⟩
theorem d_X11_takeTape_4 : decode mX11_takeTape.1 4 = .ok (.istore_n 1, 1) ∧ 4 + 1 = 5 := ⟨by decide +kernel, rfl⟩
theorem d_X11_takeTape_5 : decode mX11_takeTape.1 5 = .ok (.aload_n 0, 1) ∧ 5 + 1 = 6 := ⟨by decide +kernel, rfl⟩
theorem d_X11_takeTape_6 : decode mX11_takeTape.1 6 = .ok (.iconst 0, 1) ∧ 6 + 1 = 7 := ⟨by decide +kernel, rfl⟩
theorem d_X11_takeTape_7 : decode mX11_takeTape.1 7 = .ok (.putfield 13, 3) ∧ 7 + 3 = 10 := ⟨by decide +kernel, rfl⟩
theorem d_X11_takeTape_10 : decode mX11_takeTape.1 10 = .ok (.iload_n 1, 1) ∧ 10 + 1 = 11 := ⟨by decide +kernel, rfl⟩
theorem d_X11_takeTape_11 : decode mX11_takeTape.1 11 = .ok (.ireturn, 1) := by decide +kernel
set_option maxRecDepth 100000 in
set_option maxHeartbeats 4000000 in
theorem g_X11_takeTape (l : Launch) (G : xa_C) (v0 : Int) (h : xa_H) : xa_G l G 2 mX11_takeTape (f_X11_takeTape v0 h) (fun r => some (some (xI r.1), r.2) : (Int × xa_H) → Option xa_O) 0 [some (xR v0), none] [] h := by
  unfold f_X11_takeTape
  refine xa_step (xa_aload_n d_X11_takeTape_0 rfl) ?_
  refine xa_getf xI xc_11 (by decide) (fun _ => rfl) xw_585 rfl d_X11_takeTape_1 (fun x1 _ => ?_)
  refine xa_step (xa_istore_n (ls' := [some (xR v0), some (xI x1)]) d_X11_takeTape_4 (by decide) rfl) ?_
  refine xa_step (xa_aload_n d_X11_takeTape_5 rfl) ?_
  refine xa_step (xa_iconst d_X11_takeTape_6 xq_i_0) ?_
  refine xa_putf2 (tg := xI) xc_11 (by decide) (fun _ => rfl) rfl (fun c hc => xa_fitI c hc) xw_585 rfl d_X11_takeTape_7 (fun h2 _ => ?_)
  refine xa_step (xa_iload_n d_X11_takeTape_10 rfl) ?_
  exact xa_iret d_X11_takeTape_11 rfl rfl
theorem ct_X11_takeTape (l : Launch) (G : xa_C) (v0 : Int) (h : xa_H) (r : Int × xa_H) (hr : f_X11_takeTape v0 h = some r) : xa_CT l G 2 mX11_takeTape yX11_takeTape [xR v0] h (some (xI r.1), r.2) :=
  xa_met (by decide +kernel) rfl (fun q => by first | rfl | cases q) (Nat.le_of_ble_eq_true rfl) rfl (g_X11_takeTape l G v0 h) (by rw [hr]; rfl)
abbrev mX2_init : xa_M := (cX2_init, 2, none, RX2, true)
theorem d_X2_init_0 : decode mX2_init.1 0 = .ok (.aload_n 0, 1) ∧ 0 + 1 = 1 := ⟨by decide +kernel, rfl⟩
theorem d_X2_init_1 : decode mX2_init.1 1 = .ok (.invokespecial 3, 3) ∧ 1 + 3 = 4 := ⟨by decide +kernel, rfl⟩
theorem d_X2_init_4 : decode mX2_init.1 4 = .ok (.aload_n 0, 1) ∧ 4 + 1 = 5 := ⟨by decide +kernel, rfl⟩
theorem d_X2_init_5 : decode mX2_init.1 5 = .ok (.bipush 64, 2) ∧ 5 + 2 = 7 := ⟨by decide +kernel, rfl⟩
theorem d_X2_init_7 : decode mX2_init.1 7 = .ok (.newarray .int, 2) ∧ 7 + 2 = 9 := ⟨by decide +kernel, rfl⟩
theorem d_X2_init_9 : decode mX2_init.1 9 = .ok (.putfield 9, 3) ∧ 9 + 3 = 12 := ⟨by decide +kernel, rfl⟩
theorem d_X2_init_12 : decode mX2_init.1 12 = .ok (.aload_n 0, 1) ∧ 12 + 1 = 13 := ⟨by decide +kernel, rfl⟩
theorem d_X2_init_13 : decode mX2_init.1 13 = .ok (.aload_n 1, 1) ∧ 13 + 1 = 14 := ⟨by decide +kernel, rfl⟩
theorem d_X2_init_14 : decode mX2_init.1 14 = .ok (.putfield 15, 3) ∧ 14 + 3 = 17 := ⟨by decide +kernel, rfl⟩
theorem d_X2_init_17 : decode mX2_init.1 17 = .ok (.return_, 1) := by decide +kernel
set_option maxRecDepth 100000 in
set_option maxHeartbeats 4000000 in
theorem g_X2_init (l : Launch) (G : xa_C) (v0 v1 : Int) (h : xa_H) : xa_G l G 2 mX2_init (f_X2_init v0 v1 h) (fun r => some (none, r) : xa_H → Option xa_O) 0 [some (xR v0), some (xR v1)] [] h := by
  unfold f_X2_init
  refine xa_step (xa_aload_n d_X2_init_0 rfl) ?_
  refine xa_objInit (ci := 2) xw_855 xw_188 xw_189 (by decide) (Nat.le_of_ble_eq_true rfl) d_X2_init_1 (fun _ => ?_)
  refine xa_step (xa_aload_n d_X2_init_4 rfl) ?_
  refine xa_step (xa_bipush d_X2_init_5 xq_b_64) ?_
  refine xa_newarr 0 .int (by decide) rfl xw_291 d_X2_init_7 (fun h1 _ => ?_)
  refine xa_putF2 (tg := xR) xc_2 (by decide) (fun _ => rfl) rfl rfl rfl (fun c hc => xa_fitA c hc) xw_857 rfl d_X2_init_9 (fun h2 _ => ?_)
  refine xa_step (xa_aload_n d_X2_init_12 rfl) ?_
  refine xa_step (xa_aload_n d_X2_init_13 rfl) ?_
  refine xa_putF2 (tg := xR) xc_2 (by decide) (fun _ => rfl) rfl rfl rfl (fun c hc => xa_fitA c hc) xw_856 rfl d_X2_init_14 (fun h3 _ => ?_)
  exact xa_vret d_X2_init_17 rfl rfl
theorem ct_X2_init (l : Launch) (G : xa_C) (v0 v1 : Int) (h : xa_H) (r : xa_H) (hr : f_X2_init v0 v1 h = some r) : xa_CT l G 2 mX2_init yX2_init [xR v0, xR v1] h (none, r) :=
  xa_met (by decide +kernel) rfl (fun q => by first | rfl | cases q) (Nat.le_of_ble_eq_true rfl) rfl (g_X2_init l G v0 v1 h) (by rw [hr]; rfl)
abbrev mX3_put : xa_M := (cX3_put, 2, (some (.boolean)), RX3, false)
theorem d_X3_put_0 : decode mX3_put.1 0 = .ok (.aload_n 0, 1) ∧ 0 + 1 = 1 := ⟨by decide +kernel, rfl⟩
theorem d_X3_put_1 : decode mX3_put.1 1 = .ok (.getfield 23, 3) ∧ 1 + 3 = 4 := ⟨by decide +kernel, rfl⟩
theorem d_X3_put_4 : decode mX3_put.1 4 = .ok (.aload_n 0, 1) ∧ 4 + 1 = 5 := ⟨by decide +kernel, rfl⟩
theorem d_X3_put_5 : decode mX3_put.1 5 = .ok (.getfield 9, 3) ∧ 5 + 3 = 8 := ⟨by decide +kernel, rfl⟩
theorem d_X3_put_8 : decode mX3_put.1 8 = .ok (.arraylength, 1) ∧ 8 + 1 = 9 := ⟨by decide +kernel, rfl⟩
theorem d_X3_put_9 : decode mX3_put.1 9 = .ok (.if_icmp .ge 23, 3) ∧ 9 + 3 = 12 ∧ ((9 : Nat) : Int) + 23 = ((32 : Nat) : Int) := ⟨by decide +kernel, rfl, rfl⟩
theorem d_X3_put_12 : decode mX3_put.1 12 = .ok (.aload_n 0, 1) ∧ 12 + 1 = 13 := ⟨by decide +kernel, rfl⟩
theorem d_X3_put_13 : decode mX3_put.1 13 = .ok (.getfield 9, 3) ∧ 13 + 3 = 16 := ⟨by decide +kernel, rfl⟩
theorem d_X3_put_16 : decode mX3_put.1 16 = .ok (.aload_n 0, 1) ∧ 16 + 1 = 17 := ⟨by decide +kernel, rfl⟩
theorem d_X3_put_17 : decode mX3_put.1 17 = .ok (.getfield 23, 3) ∧ 17 + 3 = 20 := ⟨by decide +kernel, rfl⟩
theorem d_X3_put_20 : decode mX3_put.1 20 = .ok (.iload_n 1, 1) ∧ 20 + 1 = 21 := ⟨by decide +kernel, rfl⟩
theorem d_X3_put_21 : decode mX3_put.1 21 = .ok (.iastore, 1) ∧ 21 + 1 = 22 := ⟨by decide +kernel, rfl⟩
theorem d_X3_put_22 : decode mX3_put.1 22 = .ok (.aload_n 0, 1) ∧ 22 + 1 = 23 := ⟨by decide +kernel, rfl⟩
theorem d_X3_put_23 : decode mX3_put.1 23 = .ok (.dup, 1) ∧ 23 + 1 = 24 := ⟨by decide +kernel, rfl⟩
theorem d_X3_put_24 : decode mX3_put.1 24 = .ok (.getfield 23, 3) ∧ 24 + 3 = 27 := ⟨by decide +kernel, rfl⟩
theorem d_X3_put_27 : decode mX3_put.1 27 = .ok (.iconst 1, 1) ∧ 27 + 1 = 28 := ⟨by decide +kernel, rfl⟩
theorem d_X3_put_28 : decode mX3_put.1 28 = .ok (.iadd, 1) ∧ 28 + 1 = 29 := ⟨by decide +kernel, rfl⟩
theorem d_X3_put_29 : decode mX3_put.1 29 = .ok (.putfield 23, 3) ∧ 29 + 3 = 32 := ⟨by decide +kernel, rfl⟩
theorem d_X3_put_32 : decode mX3_put.1 32 = .ok (.iconst 1, 1) ∧ 32 + 1 = 33 := ⟨by decide +kernel, rfl⟩
theorem d_X3_put_33 : decode mX3_put.1 33 = .ok (.ireturn, 1) := by decide +kernel
set_option maxRecDepth 100000 in
set_option maxHeartbeats 4000000 in
theorem g_X3_put (l : Launch) (G : xa_C) (v0 v1 : Int) (h : xa_H) : xa_G l G 2 mX3_put (f_X3_put v0 v1 h) (fun r => some (some (xI r.1), r.2) : (Int × xa_H) → Option xa_O) 0 [some (xR v0), some (xI v1)] [] h := by
  unfold f_X3_put
  refine xa_step (xa_aload_n d_X3_put_0 rfl) ?_
  refine xa_getf xI xc_3 (by decide) (fun _ => rfl) xw_300 rfl d_X3_put_1 (fun x1 _ => ?_)
  refine xa_step (xa_aload_n d_X3_put_4 rfl) ?_
  refine xa_getf xR xc_3 (by decide) (fun _ => rfl) xw_299 rfl d_X3_put_5 (fun x2 _ => ?_)
  refine xa_alen d_X3_put_8 (fun x3 _ => ?_)
  refine xa_if (xa_icmpge d_X3_put_9) (fun q4 => ?_) (fun q4 => ?_)
  · refine xa_step (xa_aload_n d_X3_put_12 rfl) ?_
    refine xa_getf xR xc_3 (by decide) (fun _ => rfl) xw_299 rfl d_X3_put_13 (fun x5 _ => ?_)
    refine xa_step (xa_aload_n d_X3_put_16 rfl) ?_
    refine xa_getf xI xc_3 (by decide) (fun _ => rfl) xw_300 rfl d_X3_put_17 (fun x6 _ => ?_)
    refine xa_step (xa_iload_n d_X3_put_20 rfl) ?_
    refine xa_iastore2 d_X3_put_21 (fun h7 _ => ?_)
    refine xa_step (xa_aload_n d_X3_put_22 rfl) ?_
    refine xa_step (xa_dup d_X3_put_23 (xa_tR _)) ?_
    refine xa_getf xI xc_3 (by decide) (fun _ => rfl) xw_300 rfl d_X3_put_24 (fun x8 _ => ?_)
    refine xa_step (xa_iconst d_X3_put_27 xq_i_1) ?_
    refine xa_step (xa_iadd d_X3_put_28) ?_
    refine xa_putf2 (tg := xI) xc_3 (by decide) (fun _ => rfl) rfl (fun c hc => xa_fitI c hc) xw_300 rfl d_X3_put_29 (fun h9 _ => ?_)
    refine xa_step (xa_iconst d_X3_put_32 xq_i_1) ?_
    exact xa_zret d_X3_put_33 rfl (Or.inr rfl) rfl
  · refine xa_step (xa_iconst d_X3_put_32 xq_i_1) ?_
    exact xa_zret d_X3_put_33 rfl (Or.inr rfl) rfl
theorem ct_X3_put (l : Launch) (G : xa_C) (v0 v1 : Int) (h : xa_H) (r : Int × xa_H) (hr : f_X3_put v0 v1 h = some r) : xa_CT l G 2 mX3_put yX3_put [xR v0, xI v1] h (some (xI r.1), r.2) :=
  xa_met (by decide +kernel) rfl (fun q => by first | rfl | cases q) (Nat.le_of_ble_eq_true rfl) rfl (g_X3_put l G v0 v1 h) (by rw [hr]; rfl)
abbrev mX6_step : xa_M := (cX6_step, 5, none, RX6, false)
theorem d_X6_step_0 : decode mX6_step.1 0 = .ok (.aload_n 0, 1) ∧ 0 + 1 = 1 := ⟨by decide +kernel, rfl⟩
theorem d_X6_step_1 : decode mX6_step.1 1 = .ok (.getfield 41, 3) ∧ 1 + 3 = 4 := ⟨by decide +kernel, rfl⟩
theorem d_X6_step_4 : decode mX6_step.1 4 = .ok (.iconst 1, 1) ∧ 4 + 1 = 5 := ⟨by decide +kernel, rfl⟩
theorem d_X6_step_5 : decode mX6_step.1 5 = .ok (.if_icmp .eq 11, 3) ∧ 5 + 3 = 8 ∧ ((5 : Nat) : Int) + 11 = ((16 : Nat) : Int) := ⟨by decide +kernel, rfl, rfl⟩
theorem d_X6_step_16 : decode mX6_step.1 16 = .ok (.iconst 1, 1) ∧ 16 + 1 = 17 := ⟨by decide +kernel, rfl⟩
theorem d_X6_step_17 : decode mX6_step.1 17 = .ok (.goto 4, 3) ∧ ((17 : Nat) : Int) + 4 = ((21 : Nat) : Int) := ⟨by decide +kernel, rfl⟩
theorem d_X6_step_21 : decode mX6_step.1 21 = .ok (.istore_n 1, 1) ∧ 21 + 1 = 22 := ⟨by decide +kernel, rfl⟩
theorem d_X6_step_22 : decode mX6_step.1 22 = .ok (.aload_n 0, 1) ∧ 22 + 1 = 23 := ⟨by decide +kernel, rfl⟩
theorem d_X6_step_23 : decode mX6_step.1 23 = .ok (.getfield 44, 3) ∧ 23 + 3 = 26 := ⟨by decide +kernel, rfl⟩
theorem d_X6_step_26 : decode mX6_step.1 26 = .ok (.istore_n 2, 1) ∧ 26 + 1 = 27 := ⟨by decide +kernel, rfl⟩
theorem d_X6_step_27 : decode mX6_step.1 27 = .ok (.aload_n 0, 1) ∧ 27 + 1 = 28 := ⟨by decide +kernel, rfl⟩
theorem d_X6_step_28 : decode mX6_step.1 28 = .ok (.getfield 44, 3) ∧ 28 + 3 = 31 := ⟨by decide +kernel, rfl⟩
theorem d_X6_step_31 : decode mX6_step.1 31 = .ok (.aload_n 0, 1) ∧ 31 + 1 = 32 := ⟨by decide +kernel, rfl⟩
theorem d_X6_step_32 : decode mX6_step.1 32 = .ok (.getfield 38, 3) ∧ 32 + 3 = 35 := ⟨by decide +kernel, rfl⟩
theorem d_X6_step_35 : decode mX6_step.1 35 = .ok (.if_icmp .ge 44, 3) ∧ 35 + 3 = 38 ∧ ((35 : Nat) : Int) + 44 = ((79 : Nat) : Int) := ⟨by decide +kernel, rfl, rfl⟩
theorem d_X6_step_38 : decode mX6_step.1 38 = .ok (.aload_n 0, 1) ∧ 38 + 1 = 39 := ⟨by decide +kernel, rfl⟩
theorem d_X6_step_39 : decode mX6_step.1 39 = .ok (.getfield 15, 3) ∧ 39 + 3 = 42 := ⟨by decide +kernel, rfl⟩
theorem d_X6_step_42 : decode mX6_step.1 42 = .ok (.aload_n 0, 1) ∧ 42 + 1 = 43 := ⟨by decide +kernel, rfl⟩
theorem d_X6_step_43 : decode mX6_step.1 43 = .ok (.getfield 44, 3) ∧ 43 + 3 = 46 := ⟨by decide +kernel, rfl⟩
theorem d_X6_step_46 : decode mX6_step.1 46 = .ok (.baload, 1) ∧ 46 + 1 = 47 := ⟨by decide +kernel, rfl⟩
theorem d_X6_step_47 : decode mX6_step.1 47 = .ok (.bipush 10, 2) ∧ 47 + 2 = 49 := ⟨by decide +kernel, rfl⟩
theorem d_X6_step_49 : decode mX6_step.1 49 = .ok (.if_icmp .eq 17, 3) ∧ 49 + 3 = 52 ∧ ((49 : Nat) : Int) + 17 = ((66 : Nat) : Int) := ⟨by decide +kernel, rfl, rfl⟩
theorem d_X6_step_66 : decode mX6_step.1 66 = .ok (.aload_n 0, 1) ∧ 66 + 1 = 67 := ⟨by decide +kernel, rfl⟩
theorem d_X6_step_67 : decode mX6_step.1 67 = .ok (.dup, 1) ∧ 67 + 1 = 68 := ⟨by decide +kernel, rfl⟩
theorem d_X6_step_68 : decode mX6_step.1 68 = .ok (.getfield 44, 3) ∧ 68 + 3 = 71 := ⟨by decide +kernel, rfl⟩
theorem d_X6_step_71 : decode mX6_step.1 71 = .ok (.iconst 1, 1) ∧ 71 + 1 = 72 := ⟨by decide +kernel, rfl⟩
theorem d_X6_step_72 : decode mX6_step.1 72 = .ok (.iadd, 1) ∧ 72 + 1 = 73 := ⟨by decide +kernel, rfl⟩
theorem d_X6_step_73 : decode mX6_step.1 73 = .ok (.putfield 44, 3) ∧ 73 + 3 = 76 := ⟨by decide +kernel, rfl⟩
theorem d_X6_step_76 : decode mX6_step.1 76 = .ok (.goto (-49), 3) ∧ ((76 : Nat) : Int) + (-49) = ((27 : Nat) : Int) := ⟨by decide +kernel, rfl⟩
theorem d_X6_step_52 : decode mX6_step.1 52 = .ok (.aload_n 0, 1) ∧ 52 + 1 = 53 := ⟨by decide +kernel, rfl⟩
theorem d_X6_step_53 : decode mX6_step.1 53 = .ok (.getfield 15, 3) ∧ 53 + 3 = 56 := ⟨by decide +kernel, rfl⟩
theorem d_X6_step_56 : decode mX6_step.1 56 = .ok (.aload_n 0, 1) ∧ 56 + 1 = 57 := ⟨by decide +kernel, rfl⟩
theorem d_X6_step_57 : decode mX6_step.1 57 = .ok (.getfield 44, 3) ∧ 57 + 3 = 60 := ⟨by decide +kernel, rfl⟩
theorem d_X6_step_60 : decode mX6_step.1 60 = .ok (.baload, 1) ∧ 60 + 1 = 61 := ⟨by decide +kernel, rfl⟩
theorem d_X6_step_61 : decode mX6_step.1 61 = .ok (.bipush 32, 2) ∧ 61 + 2 = 63 := ⟨by decide +kernel, rfl⟩
theorem d_X6_step_63 : decode mX6_step.1 63 = .ok (.if_icmp .ne 16, 3) ∧ 63 + 3 = 66 ∧ ((63 : Nat) : Int) + 16 = ((79 : Nat) : Int) := ⟨by decide +kernel, rfl, rfl⟩
set_option maxRecDepth 100000 in
set_option maxHeartbeats 4000000 in
theorem g_X6_step_L27 (l : Launch) (G : xa_C) (c0 c1 c2 : Int) (K : (xa_H) ⊕ (xa_H) → Option xa_O) (hb : ∀ (h : xa_H), xa_G l G 2 mX6_step (some (Sum.inl h)) K 27 [some (xR c0), some (xI c1), some (xI c2), none, none] [] h) (hx : ∀ (h : xa_H), xa_G l G 2 mX6_step (some (Sum.inr h)) K 79 [some (xR c0), some (xI c1), some (xI c2), none, none] [] h) : ∀ (h : xa_H), xa_G l G 2 mX6_step (f_X6_step_L27 c0 c1 c2 h) K 27 [some (xR c0), some (xI c1), some (xI c2), none, none] [] h := by
  intro h
  unfold f_X6_step_L27
  refine xa_step (xa_aload_n d_X6_step_27 rfl) ?_
  refine xa_getf xI xc_6 (by decide) (fun _ => rfl) xw_255 rfl d_X6_step_28 (fun x4 _ => ?_)
  refine xa_step (xa_aload_n d_X6_step_31 rfl) ?_
  refine xa_getf xI xc_6 (by decide) (fun _ => rfl) xw_247 rfl d_X6_step_32 (fun x5 _ => ?_)
  refine xa_if (xa_icmpge d_X6_step_35) (fun q6 => ?_) (fun q6 => ?_)
  · refine xa_step (xa_aload_n d_X6_step_38 rfl) ?_
    refine xa_getf xR xc_6 (by decide) (fun _ => rfl) xw_245 rfl d_X6_step_39 (fun x7 _ => ?_)
    refine xa_step (xa_aload_n d_X6_step_42 rfl) ?_
    refine xa_getf xI xc_6 (by decide) (fun _ => rfl) xw_255 rfl d_X6_step_43 (fun x8 _ => ?_)
    refine xa_baload d_X6_step_46 (fun x9 _ => ?_)
    refine xa_step (xa_bipush d_X6_step_47 xq_b_10) ?_
    refine xa_if (xa_icmpeq d_X6_step_49) (fun q10 => ?_) (fun q10 => ?_)
    · refine xa_step (xa_aload_n d_X6_step_66 rfl) ?_
      refine xa_step (xa_dup d_X6_step_67 (xa_tR _)) ?_
      refine xa_getf xI xc_6 (by decide) (fun _ => rfl) xw_255 rfl d_X6_step_68 (fun x11 _ => ?_)
      refine xa_step (xa_iconst d_X6_step_71 xq_i_1) ?_
      refine xa_step (xa_iadd d_X6_step_72) ?_
      refine xa_putf2 (tg := xI) xc_6 (by decide) (fun _ => rfl) rfl (fun c hc => xa_fitI c hc) xw_255 rfl d_X6_step_73 (fun h12 _ => ?_)
      refine xa_step (xa_goto d_X6_step_76) ?_
      exact xa_weak (ls' := [some (xR c0), some (xI c1), some (xI c2), none, none]) ⟨rfl, rfl, rfl, trivial⟩ (hb h12)
    · refine xa_step (xa_aload_n d_X6_step_52 rfl) ?_
      refine xa_getf xR xc_6 (by decide) (fun _ => rfl) xw_245 rfl d_X6_step_53 (fun x13 _ => ?_)
      refine xa_step (xa_aload_n d_X6_step_56 rfl) ?_
      refine xa_getf xI xc_6 (by decide) (fun _ => rfl) xw_255 rfl d_X6_step_57 (fun x14 _ => ?_)
      refine xa_baload d_X6_step_60 (fun x15 _ => ?_)
      refine xa_step (xa_bipush d_X6_step_61 xq_b_32) ?_
      refine xa_if (xa_icmpne d_X6_step_63) (fun q16 => ?_) (fun q16 => ?_)
      · refine xa_step (xa_aload_n d_X6_step_66 rfl) ?_
        refine xa_step (xa_dup d_X6_step_67 (xa_tR _)) ?_
        refine xa_getf xI xc_6 (by decide) (fun _ => rfl) xw_255 rfl d_X6_step_68 (fun x17 _ => ?_)
        refine xa_step (xa_iconst d_X6_step_71 xq_i_1) ?_
        refine xa_step (xa_iadd d_X6_step_72) ?_
        refine xa_putf2 (tg := xI) xc_6 (by decide) (fun _ => rfl) rfl (fun c hc => xa_fitI c hc) xw_255 rfl d_X6_step_73 (fun h18 _ => ?_)
        refine xa_step (xa_goto d_X6_step_76) ?_
        exact xa_weak (ls' := [some (xR c0), some (xI c1), some (xI c2), none, none]) ⟨rfl, rfl, rfl, trivial⟩ (hb h18)
      · exact xa_weak (ls' := [some (xR c0), some (xI c1), some (xI c2), none, none]) ⟨rfl, rfl, rfl, trivial⟩ (hx h)
  · exact xa_weak (ls' := [some (xR c0), some (xI c1), some (xI c2), none, none]) ⟨rfl, rfl, rfl, trivial⟩ (hx h)
theorem d_X6_step_79 : decode mX6_step.1 79 = .ok (.iload_n 1, 1) ∧ 79 + 1 = 80 := ⟨by decide +kernel, rfl⟩
theorem d_X6_step_80 : decode mX6_step.1 80 = .ok (.ifCond .eq 15, 3) ∧ 80 + 3 = 83 ∧ ((80 : Nat) : Int) + 15 = ((95 : Nat) : Int) := ⟨by decide +kernel, rfl, rfl⟩
theorem d_X6_step_95 : decode mX6_step.1 95 = .ok (.iconst 0, 1) ∧ 95 + 1 = 96 := ⟨by decide +kernel, rfl⟩
theorem d_X6_step_96 : decode mX6_step.1 96 = .ok (.istore_n 3, 1) ∧ 96 + 1 = 97 := ⟨by decide +kernel, rfl⟩
theorem d_X6_step_97 : decode mX6_step.1 97 = .ok (.aload_n 0, 1) ∧ 97 + 1 = 98 := ⟨by decide +kernel, rfl⟩
theorem d_X6_step_98 : decode mX6_step.1 98 = .ok (.aload_n 0, 1) ∧ 98 + 1 = 99 := ⟨by decide +kernel, rfl⟩
theorem d_X6_step_99 : decode mX6_step.1 99 = .ok (.getfield 44, 3) ∧ 99 + 3 = 102 := ⟨by decide +kernel, rfl⟩
theorem d_X6_step_102 : decode mX6_step.1 102 = .ok (.putfield 50, 3) ∧ 102 + 3 = 105 := ⟨by decide +kernel, rfl⟩
theorem d_X6_step_105 : decode mX6_step.1 105 = .ok (.aload_n 0, 1) ∧ 105 + 1 = 106 := ⟨by decide +kernel, rfl⟩
theorem d_X6_step_106 : decode mX6_step.1 106 = .ok (.iconst 0, 1) ∧ 106 + 1 = 107 := ⟨by decide +kernel, rfl⟩
theorem d_X6_step_107 : decode mX6_step.1 107 = .ok (.putfield 53, 3) ∧ 107 + 3 = 110 := ⟨by decide +kernel, rfl⟩
theorem d_X6_step_110 : decode mX6_step.1 110 = .ok (.aload_n 0, 1) ∧ 110 + 1 = 111 := ⟨by decide +kernel, rfl⟩
theorem d_X6_step_111 : decode mX6_step.1 111 = .ok (.iconst (-1), 1) ∧ 111 + 1 = 112 := ⟨by decide +kernel, rfl⟩
theorem d_X6_step_112 : decode mX6_step.1 112 = .ok (.putfield 56, 3) ∧ 112 + 3 = 115 := ⟨by decide +kernel, rfl⟩
theorem d_X6_step_115 : decode mX6_step.1 115 = .ok (.aload_n 0, 1) ∧ 115 + 1 = 116 := ⟨by decide +kernel, rfl⟩
theorem d_X6_step_116 : decode mX6_step.1 116 = .ok (.getfield 50, 3) ∧ 116 + 3 = 119 := ⟨by decide +kernel, rfl⟩
theorem d_X6_step_119 : decode mX6_step.1 119 = .ok (.aload_n 0, 1) ∧ 119 + 1 = 120 := ⟨by decide +kernel, rfl⟩
theorem d_X6_step_120 : decode mX6_step.1 120 = .ok (.getfield 38, 3) ∧ 120 + 3 = 123 := ⟨by decide +kernel, rfl⟩
theorem d_X6_step_123 : decode mX6_step.1 123 = .ok (.if_icmp .lt 9, 3) ∧ 123 + 3 = 126 ∧ ((123 : Nat) : Int) + 9 = ((132 : Nat) : Int) := ⟨by decide +kernel, rfl, rfl⟩
theorem d_X6_step_132 : decode mX6_step.1 132 = .ok (.aload_n 0, 1) ∧ 132 + 1 = 133 := ⟨by decide +kernel, rfl⟩
theorem d_X6_step_133 : decode mX6_step.1 133 = .ok (.getfield 44, 3) ∧ 133 + 3 = 136 := ⟨by decide +kernel, rfl⟩
theorem d_X6_step_136 : decode mX6_step.1 136 = .ok (.aload_n 0, 1) ∧ 136 + 1 = 137 := ⟨by decide +kernel, rfl⟩
theorem d_X6_step_137 : decode mX6_step.1 137 = .ok (.getfield 38, 3) ∧ 137 + 3 = 140 := ⟨by decide +kernel, rfl⟩
theorem d_X6_step_140 : decode mX6_step.1 140 = .ok (.if_icmp .ge 96, 3) ∧ 140 + 3 = 143 ∧ ((140 : Nat) : Int) + 96 = ((236 : Nat) : Int) := ⟨by decide +kernel, rfl, rfl⟩
theorem d_X6_step_143 : decode mX6_step.1 143 = .ok (.aload_n 0, 1) ∧ 143 + 1 = 144 := ⟨by decide +kernel, rfl⟩
theorem d_X6_step_144 : decode mX6_step.1 144 = .ok (.getfield 15, 3) ∧ 144 + 3 = 147 := ⟨by decide +kernel, rfl⟩
theorem d_X6_step_147 : decode mX6_step.1 147 = .ok (.aload_n 0, 1) ∧ 147 + 1 = 148 := ⟨by decide +kernel, rfl⟩
theorem d_X6_step_148 : decode mX6_step.1 148 = .ok (.getfield 44, 3) ∧ 148 + 3 = 151 := ⟨by decide +kernel, rfl⟩
theorem d_X6_step_151 : decode mX6_step.1 151 = .ok (.baload, 1) ∧ 151 + 1 = 152 := ⟨by decide +kernel, rfl⟩
theorem d_X6_step_152 : decode mX6_step.1 152 = .ok (.bipush 97, 2) ∧ 152 + 2 = 154 := ⟨by decide +kernel, rfl⟩
theorem d_X6_step_154 : decode mX6_step.1 154 = .ok (.if_icmp .lt 82, 3) ∧ 154 + 3 = 157 ∧ ((154 : Nat) : Int) + 82 = ((236 : Nat) : Int) := ⟨by decide +kernel, rfl, rfl⟩
theorem d_X6_step_157 : decode mX6_step.1 157 = .ok (.aload_n 0, 1) ∧ 157 + 1 = 158 := ⟨by decide +kernel, rfl⟩
theorem d_X6_step_158 : decode mX6_step.1 158 = .ok (.getfield 15, 3) ∧ 158 + 3 = 161 := ⟨by decide +kernel, rfl⟩
theorem d_X6_step_161 : decode mX6_step.1 161 = .ok (.aload_n 0, 1) ∧ 161 + 1 = 162 := ⟨by decide +kernel, rfl⟩
theorem d_X6_step_162 : decode mX6_step.1 162 = .ok (.getfield 44, 3) ∧ 162 + 3 = 165 := ⟨by decide +kernel, rfl⟩
theorem d_X6_step_165 : decode mX6_step.1 165 = .ok (.baload, 1) ∧ 165 + 1 = 166 := ⟨by decide +kernel, rfl⟩
theorem d_X6_step_166 : decode mX6_step.1 166 = .ok (.bipush 122, 2) ∧ 166 + 2 = 168 := ⟨by decide +kernel, rfl⟩
theorem d_X6_step_168 : decode mX6_step.1 168 = .ok (.if_icmp .gt 68, 3) ∧ 168 + 3 = 171 ∧ ((168 : Nat) : Int) + 68 = ((236 : Nat) : Int) := ⟨by decide +kernel, rfl, rfl⟩
theorem d_X6_step_171 : decode mX6_step.1 171 = .ok (.aload_n 0, 1) ∧ 171 + 1 = 172 := ⟨by decide +kernel, rfl⟩
theorem d_X6_step_172 : decode mX6_step.1 172 = .ok (.getfield 44, 3) ∧ 172 + 3 = 175 := ⟨by decide +kernel, rfl⟩
theorem d_X6_step_175 : decode mX6_step.1 175 = .ok (.aload_n 0, 1) ∧ 175 + 1 = 176 := ⟨by decide +kernel, rfl⟩
theorem d_X6_step_176 : decode mX6_step.1 176 = .ok (.getfield 50, 3) ∧ 176 + 3 = 179 := ⟨by decide +kernel, rfl⟩
theorem d_X6_step_179 : decode mX6_step.1 179 = .ok (.isub, 1) ∧ 179 + 1 = 180 := ⟨by decide +kernel, rfl⟩
theorem d_X6_step_180 : decode mX6_step.1 180 = .ok (.bipush 6, 2) ∧ 180 + 2 = 182 := ⟨by decide +kernel, rfl⟩
theorem d_X6_step_182 : decode mX6_step.1 182 = .ok (.if_icmp .ge 41, 3) ∧ 182 + 3 = 185 ∧ ((182 : Nat) : Int) + 41 = ((223 : Nat) : Int) := ⟨by decide +kernel, rfl, rfl⟩
theorem d_X6_step_185 : decode mX6_step.1 185 = .ok (.aload_n 0, 1) ∧ 185 + 1 = 186 := ⟨by decide +kernel, rfl⟩
theorem d_X6_step_186 : decode mX6_step.1 186 = .ok (.dup, 1) ∧ 186 + 1 = 187 := ⟨by decide +kernel, rfl⟩
theorem d_X6_step_187 : decode mX6_step.1 187 = .ok (.getfield 53, 3) ∧ 187 + 3 = 190 := ⟨by decide +kernel, rfl⟩
theorem d_X6_step_190 : decode mX6_step.1 190 = .ok (.aload_n 0, 1) ∧ 190 + 1 = 191 := ⟨by decide +kernel, rfl⟩
theorem d_X6_step_191 : decode mX6_step.1 191 = .ok (.getfield 15, 3) ∧ 191 + 3 = 194 := ⟨by decide +kernel, rfl⟩
theorem d_X6_step_194 : decode mX6_step.1 194 = .ok (.aload_n 0, 1) ∧ 194 + 1 = 195 := ⟨by decide +kernel, rfl⟩
theorem d_X6_step_195 : decode mX6_step.1 195 = .ok (.getfield 44, 3) ∧ 195 + 3 = 198 := ⟨by decide +kernel, rfl⟩
theorem d_X6_step_198 : decode mX6_step.1 198 = .ok (.baload, 1) ∧ 198 + 1 = 199 := ⟨by decide +kernel, rfl⟩
theorem d_X6_step_199 : decode mX6_step.1 199 = .ok (.bipush 97, 2) ∧ 199 + 2 = 201 := ⟨by decide +kernel, rfl⟩
theorem d_X6_step_201 : decode mX6_step.1 201 = .ok (.isub, 1) ∧ 201 + 1 = 202 := ⟨by decide +kernel, rfl⟩
theorem d_X6_step_202 : decode mX6_step.1 202 = .ok (.iconst 1, 1) ∧ 202 + 1 = 203 := ⟨by decide +kernel, rfl⟩
theorem d_X6_step_203 : decode mX6_step.1 203 = .ok (.iadd, 1) ∧ 203 + 1 = 204 := ⟨by decide +kernel, rfl⟩
theorem d_X6_step_204 : decode mX6_step.1 204 = .ok (.bipush 25, 2) ∧ 204 + 2 = 206 := ⟨by decide +kernel, rfl⟩
theorem d_X6_step_206 : decode mX6_step.1 206 = .ok (.iconst 5, 1) ∧ 206 + 1 = 207 := ⟨by decide +kernel, rfl⟩
theorem d_X6_step_207 : decode mX6_step.1 207 = .ok (.aload_n 0, 1) ∧ 207 + 1 = 208 := ⟨by decide +kernel, rfl⟩
theorem d_X6_step_208 : decode mX6_step.1 208 = .ok (.getfield 44, 3) ∧ 208 + 3 = 211 := ⟨by decide +kernel, rfl⟩
theorem d_X6_step_211 : decode mX6_step.1 211 = .ok (.aload_n 0, 1) ∧ 211 + 1 = 212 := ⟨by decide +kernel, rfl⟩
theorem d_X6_step_212 : decode mX6_step.1 212 = .ok (.getfield 50, 3) ∧ 212 + 3 = 215 := ⟨by decide +kernel, rfl⟩
theorem d_X6_step_215 : decode mX6_step.1 215 = .ok (.isub, 1) ∧ 215 + 1 = 216 := ⟨by decide +kernel, rfl⟩
theorem d_X6_step_216 : decode mX6_step.1 216 = .ok (.imul, 1) ∧ 216 + 1 = 217 := ⟨by decide +kernel, rfl⟩
theorem d_X6_step_217 : decode mX6_step.1 217 = .ok (.isub, 1) ∧ 217 + 1 = 218 := ⟨by decide +kernel, rfl⟩
theorem d_X6_step_218 : decode mX6_step.1 218 = .ok (.ishl, 1) ∧ 218 + 1 = 219 := ⟨by decide +kernel, rfl⟩
theorem d_X6_step_219 : decode mX6_step.1 219 = .ok (.ior, 1) ∧ 219 + 1 = 220 := ⟨by decide +kernel, rfl⟩
theorem d_X6_step_220 : decode mX6_step.1 220 = .ok (.putfield 53, 3) ∧ 220 + 3 = 223 := ⟨by decide +kernel, rfl⟩
theorem d_X6_step_223 : decode mX6_step.1 223 = .ok (.aload_n 0, 1) ∧ 223 + 1 = 224 := ⟨by decide +kernel, rfl⟩
theorem d_X6_step_224 : decode mX6_step.1 224 = .ok (.dup, 1) ∧ 224 + 1 = 225 := ⟨by decide +kernel, rfl⟩
theorem d_X6_step_225 : decode mX6_step.1 225 = .ok (.getfield 44, 3) ∧ 225 + 3 = 228 := ⟨by decide +kernel, rfl⟩
theorem d_X6_step_228 : decode mX6_step.1 228 = .ok (.iconst 1, 1) ∧ 228 + 1 = 229 := ⟨by decide +kernel, rfl⟩
theorem d_X6_step_229 : decode mX6_step.1 229 = .ok (.iadd, 1) ∧ 229 + 1 = 230 := ⟨by decide +kernel, rfl⟩
theorem d_X6_step_230 : decode mX6_step.1 230 = .ok (.putfield 44, 3) ∧ 230 + 3 = 233 := ⟨by decide +kernel, rfl⟩
theorem d_X6_step_233 : decode mX6_step.1 233 = .ok (.goto (-101), 3) ∧ ((233 : Nat) : Int) + (-101) = ((132 : Nat) : Int) := ⟨by decide +kernel, rfl⟩
set_option maxRecDepth 100000 in
set_option maxHeartbeats 4000000 in
theorem g_X6_step_L132 (l : Launch) (G : xa_C) (c0 c3 : Int) (K : (xa_H) ⊕ (xa_H) → Option xa_O) (hb : ∀ (h : xa_H), xa_G l G 2 mX6_step (some (Sum.inl h)) K 132 [some (xR c0), none, none, some (xI c3), none] [] h) (hx : ∀ (h : xa_H), xa_G l G 2 mX6_step (some (Sum.inr h)) K 236 [some (xR c0), none, none, some (xI c3), none] [] h) : ∀ (h : xa_H), xa_G l G 2 mX6_step (f_X6_step_L132 c0 c3 h) K 132 [some (xR c0), none, none, some (xI c3), none] [] h := by
  intro h
  unfold f_X6_step_L132
  refine xa_step (xa_aload_n d_X6_step_132 rfl) ?_
  refine xa_getf xI xc_6 (by decide) (fun _ => rfl) xw_255 rfl d_X6_step_133 (fun x28 _ => ?_)
  refine xa_step (xa_aload_n d_X6_step_136 rfl) ?_
  refine xa_getf xI xc_6 (by decide) (fun _ => rfl) xw_247 rfl d_X6_step_137 (fun x29 _ => ?_)
  refine xa_if (xa_icmpge d_X6_step_140) (fun q30 => ?_) (fun q30 => ?_)
  · refine xa_step (xa_aload_n d_X6_step_143 rfl) ?_
    refine xa_getf xR xc_6 (by decide) (fun _ => rfl) xw_245 rfl d_X6_step_144 (fun x31 _ => ?_)
    refine xa_step (xa_aload_n d_X6_step_147 rfl) ?_
    refine xa_getf xI xc_6 (by decide) (fun _ => rfl) xw_255 rfl d_X6_step_148 (fun x32 _ => ?_)
    refine xa_baload d_X6_step_151 (fun x33 _ => ?_)
    refine xa_step (xa_bipush d_X6_step_152 xq_b_97) ?_
    refine xa_if (xa_icmplt d_X6_step_154) (fun q34 => ?_) (fun q34 => ?_)
    · exact xa_weak (ls' := [some (xR c0), none, none, some (xI c3), none]) ⟨rfl, rfl, trivial⟩ (hx h)
    · refine xa_step (xa_aload_n d_X6_step_157 rfl) ?_
      refine xa_getf xR xc_6 (by decide) (fun _ => rfl) xw_245 rfl d_X6_step_158 (fun x35 _ => ?_)
      refine xa_step (xa_aload_n d_X6_step_161 rfl) ?_
      refine xa_getf xI xc_6 (by decide) (fun _ => rfl) xw_255 rfl d_X6_step_162 (fun x36 _ => ?_)
      refine xa_baload d_X6_step_165 (fun x37 _ => ?_)
      refine xa_step (xa_bipush d_X6_step_166 xq_b_122) ?_
      refine xa_if (xa_icmpgt d_X6_step_168) (fun q38 => ?_) (fun q38 => ?_)
      · exact xa_weak (ls' := [some (xR c0), none, none, some (xI c3), none]) ⟨rfl, rfl, trivial⟩ (hx h)
      · refine xa_step (xa_aload_n d_X6_step_171 rfl) ?_
        refine xa_getf xI xc_6 (by decide) (fun _ => rfl) xw_255 rfl d_X6_step_172 (fun x39 _ => ?_)
        refine xa_step (xa_aload_n d_X6_step_175 rfl) ?_
        refine xa_getf xI xc_6 (by decide) (fun _ => rfl) xw_252 rfl d_X6_step_176 (fun x40 _ => ?_)
        refine xa_step (xa_isub d_X6_step_179) ?_
        refine xa_step (xa_bipush d_X6_step_180 xq_b_6) ?_
        refine xa_if (xa_icmpge d_X6_step_182) (fun q41 => ?_) (fun q41 => ?_)
        · refine xa_step (xa_aload_n d_X6_step_185 rfl) ?_
          refine xa_step (xa_dup d_X6_step_186 (xa_tR _)) ?_
          refine xa_getf xI xc_6 (by decide) (fun _ => rfl) xw_256 rfl d_X6_step_187 (fun x42 _ => ?_)
          refine xa_step (xa_aload_n d_X6_step_190 rfl) ?_
          refine xa_getf xR xc_6 (by decide) (fun _ => rfl) xw_245 rfl d_X6_step_191 (fun x43 _ => ?_)
          refine xa_step (xa_aload_n d_X6_step_194 rfl) ?_
          refine xa_getf xI xc_6 (by decide) (fun _ => rfl) xw_255 rfl d_X6_step_195 (fun x44 _ => ?_)
          refine xa_baload d_X6_step_198 (fun x45 _ => ?_)
          refine xa_step (xa_bipush d_X6_step_199 xq_b_97) ?_
          refine xa_step (xa_isub d_X6_step_201) ?_
          refine xa_step (xa_iconst d_X6_step_202 xq_i_1) ?_
          refine xa_step (xa_iadd d_X6_step_203) ?_
          refine xa_step (xa_bipush d_X6_step_204 xq_b_25) ?_
          refine xa_step (xa_iconst d_X6_step_206 xq_i_5) ?_
          refine xa_step (xa_aload_n d_X6_step_207 rfl) ?_
          refine xa_getf xI xc_6 (by decide) (fun _ => rfl) xw_255 rfl d_X6_step_208 (fun x46 _ => ?_)
          refine xa_step (xa_aload_n d_X6_step_211 rfl) ?_
          refine xa_getf xI xc_6 (by decide) (fun _ => rfl) xw_252 rfl d_X6_step_212 (fun x47 _ => ?_)
          refine xa_step (xa_isub d_X6_step_215) ?_
          refine xa_step (xa_imul d_X6_step_216) ?_
          refine xa_step (xa_isub d_X6_step_217) ?_
          refine xa_step (xa_ishl d_X6_step_218) ?_
          refine xa_step (xa_ior d_X6_step_219) ?_
          refine xa_putf2 (tg := xI) xc_6 (by decide) (fun _ => rfl) rfl (fun c hc => xa_fitI c hc) xw_256 rfl d_X6_step_220 (fun h48 _ => ?_)
          refine xa_step (xa_aload_n d_X6_step_223 rfl) ?_
          refine xa_step (xa_dup d_X6_step_224 (xa_tR _)) ?_
          refine xa_getf xI xc_6 (by decide) (fun _ => rfl) xw_255 rfl d_X6_step_225 (fun x49 _ => ?_)
          refine xa_step (xa_iconst d_X6_step_228 xq_i_1) ?_
          refine xa_step (xa_iadd d_X6_step_229) ?_
          refine xa_putf2 (tg := xI) xc_6 (by decide) (fun _ => rfl) rfl (fun c hc => xa_fitI c hc) xw_255 rfl d_X6_step_230 (fun h50 _ => ?_)
          refine xa_step (xa_goto d_X6_step_233) ?_
          exact xa_weak (ls' := [some (xR c0), none, none, some (xI c3), none]) ⟨rfl, rfl, trivial⟩ (hb h50)
        · refine xa_step (xa_aload_n d_X6_step_223 rfl) ?_
          refine xa_step (xa_dup d_X6_step_224 (xa_tR _)) ?_
          refine xa_getf xI xc_6 (by decide) (fun _ => rfl) xw_255 rfl d_X6_step_225 (fun x51 _ => ?_)
          refine xa_step (xa_iconst d_X6_step_228 xq_i_1) ?_
          refine xa_step (xa_iadd d_X6_step_229) ?_
          refine xa_putf2 (tg := xI) xc_6 (by decide) (fun _ => rfl) rfl (fun c hc => xa_fitI c hc) xw_255 rfl d_X6_step_230 (fun h52 _ => ?_)
          refine xa_step (xa_goto d_X6_step_233) ?_
          exact xa_weak (ls' := [some (xR c0), none, none, some (xI c3), none]) ⟨rfl, rfl, trivial⟩ (hb h52)
  · exact xa_weak (ls' := [some (xR c0), none, none, some (xI c3), none]) ⟨rfl, rfl, trivial⟩ (hx h)
theorem d_X6_step_236 : decode mX6_step.1 236 = .ok (.aload_n 0, 1) ∧ 236 + 1 = 237 := ⟨by decide +kernel, rfl⟩
theorem d_X6_step_237 : decode mX6_step.1 237 = .ok (.getfield 44, 3) ∧ 237 + 3 = 240 := ⟨by decide +kernel, rfl⟩
theorem d_X6_step_240 : decode mX6_step.1 240 = .ok (.aload_n 0, 1) ∧ 240 + 1 = 241 := ⟨by decide +kernel, rfl⟩
theorem d_X6_step_241 : decode mX6_step.1 241 = .ok (.getfield 50, 3) ∧ 241 + 3 = 244 := ⟨by decide +kernel, rfl⟩
theorem d_X6_step_244 : decode mX6_step.1 244 = .ok (.if_icmp .le 78, 3) ∧ 244 + 3 = 247 ∧ ((244 : Nat) : Int) + 78 = ((322 : Nat) : Int) := ⟨by decide +kernel, rfl, rfl⟩
theorem d_X6_step_247 : decode mX6_step.1 247 = .ok (.aload_n 0, 1) ∧ 247 + 1 = 248 := ⟨by decide +kernel, rfl⟩
theorem d_X6_step_248 : decode mX6_step.1 248 = .ok (.iload_n 3, 1) ∧ 248 + 1 = 249 := ⟨by decide +kernel, rfl⟩
theorem d_X6_step_249 : decode mX6_step.1 249 = .ok (.ifCond .eq 7, 3) ∧ 249 + 3 = 252 ∧ ((249 : Nat) : Int) + 7 = ((256 : Nat) : Int) := ⟨by decide +kernel, rfl, rfl⟩
theorem d_X6_step_256 : decode mX6_step.1 256 = .ok (.iconst 1, 1) ∧ 256 + 1 = 257 := ⟨by decide +kernel, rfl⟩
theorem d_X6_step_257 : decode mX6_step.1 257 = .ok (.putfield 41, 3) ∧ 257 + 3 = 260 := ⟨by decide +kernel, rfl⟩
theorem d_X6_step_260 : decode mX6_step.1 260 = .ok (.iconst 0, 1) ∧ 260 + 1 = 261 := ⟨by decide +kernel, rfl⟩
theorem d_X6_step_261 : decode mX6_step.1 261 = .ok (.istore 4, 2) ∧ 261 + 2 = 263 := ⟨by decide +kernel, rfl⟩
theorem d_X6_step_263 : decode mX6_step.1 263 = .ok (.iload_n 3, 1) ∧ 263 + 1 = 264 := ⟨by decide +kernel, rfl⟩
theorem d_X6_step_264 : decode mX6_step.1 264 = .ok (.ifCond .ne 57, 3) ∧ 264 + 3 = 267 ∧ ((264 : Nat) : Int) + 57 = ((321 : Nat) : Int) := ⟨by decide +kernel, rfl, rfl⟩
theorem d_X6_step_267 : decode mX6_step.1 267 = .ok (.aload_n 0, 1) ∧ 267 + 1 = 268 := ⟨by decide +kernel, rfl⟩
theorem d_X6_step_268 : decode mX6_step.1 268 = .ok (.getfield 44, 3) ∧ 268 + 3 = 271 := ⟨by decide +kernel, rfl⟩
theorem d_X6_step_271 : decode mX6_step.1 271 = .ok (.aload_n 0, 1) ∧ 271 + 1 = 272 := ⟨by decide +kernel, rfl⟩
theorem d_X6_step_272 : decode mX6_step.1 272 = .ok (.getfield 50, 3) ∧ 272 + 3 = 275 := ⟨by decide +kernel, rfl⟩
theorem d_X6_step_275 : decode mX6_step.1 275 = .ok (.isub, 1) ∧ 275 + 1 = 276 := ⟨by decide +kernel, rfl⟩
theorem d_X6_step_276 : decode mX6_step.1 276 = .ok (.bipush 6, 2) ∧ 276 + 2 = 278 := ⟨by decide +kernel, rfl⟩
theorem d_X6_step_278 : decode mX6_step.1 278 = .ok (.if_icmp .gt 43, 3) ∧ 278 + 3 = 281 ∧ ((278 : Nat) : Int) + 43 = ((321 : Nat) : Int) := ⟨by decide +kernel, rfl, rfl⟩
theorem d_X6_step_281 : decode mX6_step.1 281 = .ok (.iload 4, 2) ∧ 281 + 2 = 283 := ⟨by decide +kernel, rfl⟩
theorem d_X6_step_283 : decode mX6_step.1 283 = .ok (.bipush 29, 2) ∧ 283 + 2 = 285 := ⟨by decide +kernel, rfl⟩
theorem d_X6_step_285 : decode mX6_step.1 285 = .ok (.if_icmp .ge 36, 3) ∧ 285 + 3 = 288 ∧ ((285 : Nat) : Int) + 36 = ((321 : Nat) : Int) := ⟨by decide +kernel, rfl, rfl⟩
theorem d_X6_step_288 : decode mX6_step.1 288 = .ok (.aload_n 0, 1) ∧ 288 + 1 = 289 := ⟨by decide +kernel, rfl⟩
theorem d_X6_step_289 : decode mX6_step.1 289 = .ok (.aload_n 0, 1) ∧ 289 + 1 = 290 := ⟨by decide +kernel, rfl⟩
theorem d_X6_step_290 : decode mX6_step.1 290 = .ok (.getfield 9, 3) ∧ 290 + 3 = 293 := ⟨by decide +kernel, rfl⟩
theorem d_X6_step_293 : decode mX6_step.1 293 = .ok (.iload 4, 2) ∧ 293 + 2 = 295 := ⟨by decide +kernel, rfl⟩
theorem d_X6_step_295 : decode mX6_step.1 295 = .ok (.iaload, 1) ∧ 295 + 1 = 296 := ⟨by decide +kernel, rfl⟩
theorem d_X6_step_296 : decode mX6_step.1 296 = .ok (.aload_n 0, 1) ∧ 296 + 1 = 297 := ⟨by decide +kernel, rfl⟩
theorem d_X6_step_297 : decode mX6_step.1 297 = .ok (.getfield 53, 3) ∧ 297 + 3 = 300 := ⟨by decide +kernel, rfl⟩
theorem d_X6_step_300 : decode mX6_step.1 300 = .ok (.if_icmp .ne 8, 3) ∧ 300 + 3 = 303 ∧ ((300 : Nat) : Int) + 8 = ((308 : Nat) : Int) := ⟨by decide +kernel, rfl, rfl⟩
theorem d_X6_step_303 : decode mX6_step.1 303 = .ok (.iload 4, 2) ∧ 303 + 2 = 305 := ⟨by decide +kernel, rfl⟩
theorem d_X6_step_305 : decode mX6_step.1 305 = .ok (.goto 7, 3) ∧ ((305 : Nat) : Int) + 7 = ((312 : Nat) : Int) := ⟨by decide +kernel, rfl⟩
theorem d_X6_step_312 : decode mX6_step.1 312 = .ok (.putfield 56, 3) ∧ 312 + 3 = 315 := ⟨by decide +kernel, rfl⟩
theorem d_X6_step_315 : decode mX6_step.1 315 = .ok (.iinc 4 1, 3) ∧ 315 + 3 = 318 := ⟨by decide +kernel, rfl⟩
theorem d_X6_step_318 : decode mX6_step.1 318 = .ok (.goto (-55), 3) ∧ ((318 : Nat) : Int) + (-55) = ((263 : Nat) : Int) := ⟨by decide +kernel, rfl⟩
theorem d_X6_step_308 : decode mX6_step.1 308 = .ok (.aload_n 0, 1) ∧ 308 + 1 = 309 := ⟨by decide +kernel, rfl⟩
theorem d_X6_step_309 : decode mX6_step.1 309 = .ok (.getfield 56, 3) ∧ 309 + 3 = 312 := ⟨by decide +kernel, rfl⟩
set_option maxRecDepth 100000 in
set_option maxHeartbeats 4000000 in
theorem g_X6_step_L263 (l : Launch) (G : xa_C) (c0 c3 : Int) (K : (Int × xa_H) ⊕ (xa_H) → Option xa_O) (hb : ∀ (v4 : Int) (h : xa_H), xa_G l G 2 mX6_step (some (Sum.inl ((v4, h)))) K 263 [some (xR c0), none, none, some (xI c3), some (xI v4)] [] h) (hx : ∀ (h : xa_H), xa_G l G 2 mX6_step (some (Sum.inr h)) K 321 [none, none, none, none, none] [] h) : ∀ (v4 : Int) (h : xa_H), xa_G l G 2 mX6_step (f_X6_step_L263 c0 c3 v4 h) K 263 [some (xR c0), none, none, some (xI c3), some (xI v4)] [] h := by
  intro v4 h
  unfold f_X6_step_L263
  refine xa_step (xa_iload_n d_X6_step_263 rfl) ?_
  refine xa_if (xa_ifne d_X6_step_264) (fun q59 => ?_) (fun q59 => ?_)
  · refine xa_step (xa_aload_n d_X6_step_267 rfl) ?_
    refine xa_getf xI xc_6 (by decide) (fun _ => rfl) xw_255 rfl d_X6_step_268 (fun x60 _ => ?_)
    refine xa_step (xa_aload_n d_X6_step_271 rfl) ?_
    refine xa_getf xI xc_6 (by decide) (fun _ => rfl) xw_252 rfl d_X6_step_272 (fun x61 _ => ?_)
    refine xa_step (xa_isub d_X6_step_275) ?_
    refine xa_step (xa_bipush d_X6_step_276 xq_b_6) ?_
    refine xa_if (xa_icmpgt d_X6_step_278) (fun q62 => ?_) (fun q62 => ?_)
    · exact xa_weak (ls' := [none, none, none, none, none]) trivial (hx h)
    · refine xa_step (xa_iload d_X6_step_281 rfl) ?_
      refine xa_step (xa_bipush d_X6_step_283 xq_b_29) ?_
      refine xa_if (xa_icmpge d_X6_step_285) (fun q63 => ?_) (fun q63 => ?_)
      · refine xa_step (xa_aload_n d_X6_step_288 rfl) ?_
        refine xa_step (xa_aload_n d_X6_step_289 rfl) ?_
        refine xa_getf xR xc_6 (by decide) (fun _ => rfl) xw_246 rfl d_X6_step_290 (fun x64 _ => ?_)
        refine xa_step (xa_iload d_X6_step_293 rfl) ?_
        refine xa_iaload d_X6_step_295 (fun x65 _ => ?_)
        refine xa_step (xa_aload_n d_X6_step_296 rfl) ?_
        refine xa_getf xI xc_6 (by decide) (fun _ => rfl) xw_256 rfl d_X6_step_297 (fun x66 _ => ?_)
        refine xa_if (xa_icmpne d_X6_step_300) (fun q67 => ?_) (fun q67 => ?_)
        · refine xa_step (xa_iload d_X6_step_303 rfl) ?_
          refine xa_step (xa_goto d_X6_step_305) ?_
          refine xa_putf2 (tg := xI) xc_6 (by decide) (fun _ => rfl) rfl (fun c hc => xa_fitI c hc) xw_258 rfl d_X6_step_312 (fun h68 _ => ?_)
          refine xa_step (xa_iinc (ls' := [some (xR c0), none, none, some (xI c3), some (xI (w32 (v4 + 1)))]) d_X6_step_315 xq_i_1 rfl (by decide) rfl) ?_
          refine xa_step (xa_goto d_X6_step_318) ?_
          exact xa_weak (ls' := [some (xR c0), none, none, some (xI c3), some (xI (w32 (v4 + 1)))]) ⟨rfl, rfl, rfl, trivial⟩ (hb (w32 (v4 + 1)) h68)
        · refine xa_step (xa_aload_n d_X6_step_308 rfl) ?_
          refine xa_getf xI xc_6 (by decide) (fun _ => rfl) xw_258 rfl d_X6_step_309 (fun x69 _ => ?_)
          refine xa_putf2 (tg := xI) xc_6 (by decide) (fun _ => rfl) rfl (fun c hc => xa_fitI c hc) xw_258 rfl d_X6_step_312 (fun h70 _ => ?_)
          refine xa_step (xa_iinc (ls' := [some (xR c0), none, none, some (xI c3), some (xI (w32 (v4 + 1)))]) d_X6_step_315 xq_i_1 rfl (by decide) rfl) ?_
          refine xa_step (xa_goto d_X6_step_318) ?_
          exact xa_weak (ls' := [some (xR c0), none, none, some (xI c3), some (xI (w32 (v4 + 1)))]) ⟨rfl, rfl, rfl, trivial⟩ (hb (w32 (v4 + 1)) h70)
      · exact xa_weak (ls' := [none, none, none, none, none]) trivial (hx h)
  · exact xa_weak (ls' := [none, none, none, none, none]) trivial (hx h)
theorem d_X6_step_321 : decode mX6_step.1 321 = .ok (.return_, 1) := by decide +kernel
set_option maxRecDepth 100000 in
set_option maxHeartbeats 4000000 in
theorem g_X6_step_J257 (l : Launch) (G : xa_C) : ∀ (v0 v3 s0 s1 : Int) (h : xa_H) , xa_G l G 2 mX6_step (f_X6_step_J257 v0 v3 s0 s1 h) (fun r => some (none, r) : xa_H → Option xa_O) 257 [some (xR v0), none, none, some (xI v3), none] [xI s1, xR s0] h := by
  intro v0 v3 s0 s1 h
  unfold f_X6_step_J257
  refine xa_putf2 (tg := xI) xc_6 (by decide) (fun _ => rfl) rfl (fun c hc => xa_fitI c hc) xw_248 rfl d_X6_step_257 (fun h58 _ => ?_)
  refine xa_step (xa_iconst d_X6_step_260 xq_i_0) ?_
  refine xa_step (xa_istore (ls' := [some (xR v0), none, none, some (xI v3), some (xI 0)]) d_X6_step_261 (by decide) rfl) ?_
  refine xa_weak (ls' := [some (xR v0), none, none, some (xI v3), some (xI 0)]) ⟨rfl, rfl, rfl, trivial⟩ ?_
  refine xa_loop (f := fun s => f_X6_step_L263 v0 v3 s.1 s.2) (L := fun s => [some (xR v0), none, none, some (xI v3), some (xI s.1)]) (P := fun s => s.2) (X := (fun x K => xa_G l G 2 mX6_step (some (Sum.inr x)) K 321 [none, none, none, none, none] [] x)) (fun K hb hX s => g_X6_step_L263 l G v0 v3 K (fun w0 hh => hb ((w0, hh))) (fun hh => hX hh) s.1 s.2) ?_ xFU ((0, h58))
  intro e71 K hK
  refine xa_eqE hK ?_
  show xa_G l G 2 mX6_step _ _ 321 [none, none, none, none, none] [] e71
  exact xa_vret d_X6_step_321 rfl rfl
theorem d_X6_step_252 : decode mX6_step.1 252 = .ok (.iconst 4, 1) ∧ 252 + 1 = 253 := ⟨by decide +kernel, rfl⟩
theorem d_X6_step_253 : decode mX6_step.1 253 = .ok (.goto 4, 3) ∧ ((253 : Nat) : Int) + 4 = ((257 : Nat) : Int) := ⟨by decide +kernel, rfl⟩
theorem d_X6_step_322 : decode mX6_step.1 322 = .ok (.aload_n 0, 1) ∧ 322 + 1 = 323 := ⟨by decide +kernel, rfl⟩
theorem d_X6_step_323 : decode mX6_step.1 323 = .ok (.getfield 44, 3) ∧ 323 + 3 = 326 := ⟨by decide +kernel, rfl⟩
theorem d_X6_step_326 : decode mX6_step.1 326 = .ok (.aload_n 0, 1) ∧ 326 + 1 = 327 := ⟨by decide +kernel, rfl⟩
theorem d_X6_step_327 : decode mX6_step.1 327 = .ok (.getfield 38, 3) ∧ 327 + 3 = 330 := ⟨by decide +kernel, rfl⟩
theorem d_X6_step_330 : decode mX6_step.1 330 = .ok (.if_icmp .ge 81, 3) ∧ 330 + 3 = 333 ∧ ((330 : Nat) : Int) + 81 = ((411 : Nat) : Int) := ⟨by decide +kernel, rfl, rfl⟩
theorem d_X6_step_333 : decode mX6_step.1 333 = .ok (.aload_n 0, 1) ∧ 333 + 1 = 334 := ⟨by decide +kernel, rfl⟩
theorem d_X6_step_334 : decode mX6_step.1 334 = .ok (.getfield 15, 3) ∧ 334 + 3 = 337 := ⟨by decide +kernel, rfl⟩
theorem d_X6_step_337 : decode mX6_step.1 337 = .ok (.aload_n 0, 1) ∧ 337 + 1 = 338 := ⟨by decide +kernel, rfl⟩
theorem d_X6_step_338 : decode mX6_step.1 338 = .ok (.getfield 44, 3) ∧ 338 + 3 = 341 := ⟨by decide +kernel, rfl⟩
theorem d_X6_step_341 : decode mX6_step.1 341 = .ok (.baload, 1) ∧ 341 + 1 = 342 := ⟨by decide +kernel, rfl⟩
theorem d_X6_step_342 : decode mX6_step.1 342 = .ok (.bipush 48, 2) ∧ 342 + 2 = 344 := ⟨by decide +kernel, rfl⟩
theorem d_X6_step_344 : decode mX6_step.1 344 = .ok (.if_icmp .lt 67, 3) ∧ 344 + 3 = 347 ∧ ((344 : Nat) : Int) + 67 = ((411 : Nat) : Int) := ⟨by decide +kernel, rfl, rfl⟩
theorem d_X6_step_347 : decode mX6_step.1 347 = .ok (.aload_n 0, 1) ∧ 347 + 1 = 348 := ⟨by decide +kernel, rfl⟩
theorem d_X6_step_348 : decode mX6_step.1 348 = .ok (.getfield 15, 3) ∧ 348 + 3 = 351 := ⟨by decide +kernel, rfl⟩
theorem d_X6_step_351 : decode mX6_step.1 351 = .ok (.aload_n 0, 1) ∧ 351 + 1 = 352 := ⟨by decide +kernel, rfl⟩
theorem d_X6_step_352 : decode mX6_step.1 352 = .ok (.getfield 44, 3) ∧ 352 + 3 = 355 := ⟨by decide +kernel, rfl⟩
theorem d_X6_step_355 : decode mX6_step.1 355 = .ok (.baload, 1) ∧ 355 + 1 = 356 := ⟨by decide +kernel, rfl⟩
theorem d_X6_step_356 : decode mX6_step.1 356 = .ok (.bipush 57, 2) ∧ 356 + 2 = 358 := ⟨by decide +kernel, rfl⟩
theorem d_X6_step_358 : decode mX6_step.1 358 = .ok (.if_icmp .gt 53, 3) ∧ 358 + 3 = 361 ∧ ((358 : Nat) : Int) + 53 = ((411 : Nat) : Int) := ⟨by decide +kernel, rfl, rfl⟩
theorem d_X6_step_361 : decode mX6_step.1 361 = .ok (.aload_n 0, 1) ∧ 361 + 1 = 362 := ⟨by decide +kernel, rfl⟩
theorem d_X6_step_362 : decode mX6_step.1 362 = .ok (.getfield 44, 3) ∧ 362 + 3 = 365 := ⟨by decide +kernel, rfl⟩
theorem d_X6_step_365 : decode mX6_step.1 365 = .ok (.aload_n 0, 1) ∧ 365 + 1 = 366 := ⟨by decide +kernel, rfl⟩
theorem d_X6_step_366 : decode mX6_step.1 366 = .ok (.getfield 50, 3) ∧ 366 + 3 = 369 := ⟨by decide +kernel, rfl⟩
theorem d_X6_step_369 : decode mX6_step.1 369 = .ok (.isub, 1) ∧ 369 + 1 = 370 := ⟨by decide +kernel, rfl⟩
theorem d_X6_step_370 : decode mX6_step.1 370 = .ok (.iconst 4, 1) ∧ 370 + 1 = 371 := ⟨by decide +kernel, rfl⟩
theorem d_X6_step_371 : decode mX6_step.1 371 = .ok (.if_icmp .ge 27, 3) ∧ 371 + 3 = 374 ∧ ((371 : Nat) : Int) + 27 = ((398 : Nat) : Int) := ⟨by decide +kernel, rfl, rfl⟩
theorem d_X6_step_374 : decode mX6_step.1 374 = .ok (.aload_n 0, 1) ∧ 374 + 1 = 375 := ⟨by decide +kernel, rfl⟩
theorem d_X6_step_375 : decode mX6_step.1 375 = .ok (.bipush 10, 2) ∧ 375 + 2 = 377 := ⟨by decide +kernel, rfl⟩
theorem d_X6_step_377 : decode mX6_step.1 377 = .ok (.aload_n 0, 1) ∧ 377 + 1 = 378 := ⟨by decide +kernel, rfl⟩
theorem d_X6_step_378 : decode mX6_step.1 378 = .ok (.getfield 53, 3) ∧ 378 + 3 = 381 := ⟨by decide +kernel, rfl⟩
theorem d_X6_step_381 : decode mX6_step.1 381 = .ok (.imul, 1) ∧ 381 + 1 = 382 := ⟨by decide +kernel, rfl⟩
theorem d_X6_step_382 : decode mX6_step.1 382 = .ok (.aload_n 0, 1) ∧ 382 + 1 = 383 := ⟨by decide +kernel, rfl⟩
theorem d_X6_step_383 : decode mX6_step.1 383 = .ok (.getfield 15, 3) ∧ 383 + 3 = 386 := ⟨by decide +kernel, rfl⟩
theorem d_X6_step_386 : decode mX6_step.1 386 = .ok (.aload_n 0, 1) ∧ 386 + 1 = 387 := ⟨by decide +kernel, rfl⟩
theorem d_X6_step_387 : decode mX6_step.1 387 = .ok (.getfield 44, 3) ∧ 387 + 3 = 390 := ⟨by decide +kernel, rfl⟩
theorem d_X6_step_390 : decode mX6_step.1 390 = .ok (.baload, 1) ∧ 390 + 1 = 391 := ⟨by decide +kernel, rfl⟩
theorem d_X6_step_391 : decode mX6_step.1 391 = .ok (.iadd, 1) ∧ 391 + 1 = 392 := ⟨by decide +kernel, rfl⟩
theorem d_X6_step_392 : decode mX6_step.1 392 = .ok (.bipush 48, 2) ∧ 392 + 2 = 394 := ⟨by decide +kernel, rfl⟩
theorem d_X6_step_394 : decode mX6_step.1 394 = .ok (.isub, 1) ∧ 394 + 1 = 395 := ⟨by decide +kernel, rfl⟩
theorem d_X6_step_395 : decode mX6_step.1 395 = .ok (.putfield 53, 3) ∧ 395 + 3 = 398 := ⟨by decide +kernel, rfl⟩
theorem d_X6_step_398 : decode mX6_step.1 398 = .ok (.aload_n 0, 1) ∧ 398 + 1 = 399 := ⟨by decide +kernel, rfl⟩
theorem d_X6_step_399 : decode mX6_step.1 399 = .ok (.dup, 1) ∧ 399 + 1 = 400 := ⟨by decide +kernel, rfl⟩
theorem d_X6_step_400 : decode mX6_step.1 400 = .ok (.getfield 44, 3) ∧ 400 + 3 = 403 := ⟨by decide +kernel, rfl⟩
theorem d_X6_step_403 : decode mX6_step.1 403 = .ok (.iconst 1, 1) ∧ 403 + 1 = 404 := ⟨by decide +kernel, rfl⟩
theorem d_X6_step_404 : decode mX6_step.1 404 = .ok (.iadd, 1) ∧ 404 + 1 = 405 := ⟨by decide +kernel, rfl⟩
theorem d_X6_step_405 : decode mX6_step.1 405 = .ok (.putfield 44, 3) ∧ 405 + 3 = 408 := ⟨by decide +kernel, rfl⟩
theorem d_X6_step_408 : decode mX6_step.1 408 = .ok (.goto (-86), 3) ∧ ((408 : Nat) : Int) + (-86) = ((322 : Nat) : Int) := ⟨by decide +kernel, rfl⟩
set_option maxRecDepth 100000 in
set_option maxHeartbeats 4000000 in
theorem g_X6_step_L322 (l : Launch) (G : xa_C) (c0 c3 : Int) (K : (xa_H) ⊕ (xa_H) → Option xa_O) (hb : ∀ (h : xa_H), xa_G l G 2 mX6_step (some (Sum.inl h)) K 322 [some (xR c0), none, none, some (xI c3), none] [] h) (hx : ∀ (h : xa_H), xa_G l G 2 mX6_step (some (Sum.inr h)) K 411 [some (xR c0), none, none, some (xI c3), none] [] h) : ∀ (h : xa_H), xa_G l G 2 mX6_step (f_X6_step_L322 c0 c3 h) K 322 [some (xR c0), none, none, some (xI c3), none] [] h := by
  intro h
  unfold f_X6_step_L322
  refine xa_step (xa_aload_n d_X6_step_322 rfl) ?_
  refine xa_getf xI xc_6 (by decide) (fun _ => rfl) xw_255 rfl d_X6_step_323 (fun x72 _ => ?_)
  refine xa_step (xa_aload_n d_X6_step_326 rfl) ?_
  refine xa_getf xI xc_6 (by decide) (fun _ => rfl) xw_247 rfl d_X6_step_327 (fun x73 _ => ?_)
  refine xa_if (xa_icmpge d_X6_step_330) (fun q74 => ?_) (fun q74 => ?_)
  · refine xa_step (xa_aload_n d_X6_step_333 rfl) ?_
    refine xa_getf xR xc_6 (by decide) (fun _ => rfl) xw_245 rfl d_X6_step_334 (fun x75 _ => ?_)
    refine xa_step (xa_aload_n d_X6_step_337 rfl) ?_
    refine xa_getf xI xc_6 (by decide) (fun _ => rfl) xw_255 rfl d_X6_step_338 (fun x76 _ => ?_)
    refine xa_baload d_X6_step_341 (fun x77 _ => ?_)
    refine xa_step (xa_bipush d_X6_step_342 xq_b_48) ?_
    refine xa_if (xa_icmplt d_X6_step_344) (fun q78 => ?_) (fun q78 => ?_)
    · exact xa_weak (ls' := [some (xR c0), none, none, some (xI c3), none]) ⟨rfl, rfl, trivial⟩ (hx h)
    · refine xa_step (xa_aload_n d_X6_step_347 rfl) ?_
      refine xa_getf xR xc_6 (by decide) (fun _ => rfl) xw_245 rfl d_X6_step_348 (fun x79 _ => ?_)
      refine xa_step (xa_aload_n d_X6_step_351 rfl) ?_
      refine xa_getf xI xc_6 (by decide) (fun _ => rfl) xw_255 rfl d_X6_step_352 (fun x80 _ => ?_)
      refine xa_baload d_X6_step_355 (fun x81 _ => ?_)
      refine xa_step (xa_bipush d_X6_step_356 xq_b_57) ?_
      refine xa_if (xa_icmpgt d_X6_step_358) (fun q82 => ?_) (fun q82 => ?_)
      · exact xa_weak (ls' := [some (xR c0), none, none, some (xI c3), none]) ⟨rfl, rfl, trivial⟩ (hx h)
      · refine xa_step (xa_aload_n d_X6_step_361 rfl) ?_
        refine xa_getf xI xc_6 (by decide) (fun _ => rfl) xw_255 rfl d_X6_step_362 (fun x83 _ => ?_)
        refine xa_step (xa_aload_n d_X6_step_365 rfl) ?_
        refine xa_getf xI xc_6 (by decide) (fun _ => rfl) xw_252 rfl d_X6_step_366 (fun x84 _ => ?_)
        refine xa_step (xa_isub d_X6_step_369) ?_
        refine xa_step (xa_iconst d_X6_step_370 xq_i_4) ?_
        refine xa_if (xa_icmpge d_X6_step_371) (fun q85 => ?_) (fun q85 => ?_)
        · refine xa_step (xa_aload_n d_X6_step_374 rfl) ?_
          refine xa_step (xa_bipush d_X6_step_375 xq_b_10) ?_
          refine xa_step (xa_aload_n d_X6_step_377 rfl) ?_
          refine xa_getf xI xc_6 (by decide) (fun _ => rfl) xw_256 rfl d_X6_step_378 (fun x86 _ => ?_)
          refine xa_step (xa_imul d_X6_step_381) ?_
          refine xa_step (xa_aload_n d_X6_step_382 rfl) ?_
          refine xa_getf xR xc_6 (by decide) (fun _ => rfl) xw_245 rfl d_X6_step_383 (fun x87 _ => ?_)
          refine xa_step (xa_aload_n d_X6_step_386 rfl) ?_
          refine xa_getf xI xc_6 (by decide) (fun _ => rfl) xw_255 rfl d_X6_step_387 (fun x88 _ => ?_)
          refine xa_baload d_X6_step_390 (fun x89 _ => ?_)
          refine xa_step (xa_iadd d_X6_step_391) ?_
          refine xa_step (xa_bipush d_X6_step_392 xq_b_48) ?_
          refine xa_step (xa_isub d_X6_step_394) ?_
          refine xa_putf2 (tg := xI) xc_6 (by decide) (fun _ => rfl) rfl (fun c hc => xa_fitI c hc) xw_256 rfl d_X6_step_395 (fun h90 _ => ?_)
          refine xa_step (xa_aload_n d_X6_step_398 rfl) ?_
          refine xa_step (xa_dup d_X6_step_399 (xa_tR _)) ?_
          refine xa_getf xI xc_6 (by decide) (fun _ => rfl) xw_255 rfl d_X6_step_400 (fun x91 _ => ?_)
          refine xa_step (xa_iconst d_X6_step_403 xq_i_1) ?_
          refine xa_step (xa_iadd d_X6_step_404) ?_
          refine xa_putf2 (tg := xI) xc_6 (by decide) (fun _ => rfl) rfl (fun c hc => xa_fitI c hc) xw_255 rfl d_X6_step_405 (fun h92 _ => ?_)
          refine xa_step (xa_goto d_X6_step_408) ?_
          exact xa_weak (ls' := [some (xR c0), none, none, some (xI c3), none]) ⟨rfl, rfl, trivial⟩ (hb h92)
        · refine xa_step (xa_aload_n d_X6_step_398 rfl) ?_
          refine xa_step (xa_dup d_X6_step_399 (xa_tR _)) ?_
          refine xa_getf xI xc_6 (by decide) (fun _ => rfl) xw_255 rfl d_X6_step_400 (fun x93 _ => ?_)
          refine xa_step (xa_iconst d_X6_step_403 xq_i_1) ?_
          refine xa_step (xa_iadd d_X6_step_404) ?_
          refine xa_putf2 (tg := xI) xc_6 (by decide) (fun _ => rfl) rfl (fun c hc => xa_fitI c hc) xw_255 rfl d_X6_step_405 (fun h94 _ => ?_)
          refine xa_step (xa_goto d_X6_step_408) ?_
          exact xa_weak (ls' := [some (xR c0), none, none, some (xI c3), none]) ⟨rfl, rfl, trivial⟩ (hb h94)
  · exact xa_weak (ls' := [some (xR c0), none, none, some (xI c3), none]) ⟨rfl, rfl, trivial⟩ (hx h)
theorem d_X6_step_411 : decode mX6_step.1 411 = .ok (.aload_n 0, 1) ∧ 411 + 1 = 412 := ⟨by decide +kernel, rfl⟩
theorem d_X6_step_412 : decode mX6_step.1 412 = .ok (.getfield 44, 3) ∧ 412 + 3 = 415 := ⟨by decide +kernel, rfl⟩
theorem d_X6_step_415 : decode mX6_step.1 415 = .ok (.aload_n 0, 1) ∧ 415 + 1 = 416 := ⟨by decide +kernel, rfl⟩
theorem d_X6_step_416 : decode mX6_step.1 416 = .ok (.getfield 50, 3) ∧ 416 + 3 = 419 := ⟨by decide +kernel, rfl⟩
theorem d_X6_step_419 : decode mX6_step.1 419 = .ok (.if_icmp .le 17, 3) ∧ 419 + 3 = 422 ∧ ((419 : Nat) : Int) + 17 = ((436 : Nat) : Int) := ⟨by decide +kernel, rfl, rfl⟩
theorem d_X6_step_422 : decode mX6_step.1 422 = .ok (.aload_n 0, 1) ∧ 422 + 1 = 423 := ⟨by decide +kernel, rfl⟩
theorem d_X6_step_423 : decode mX6_step.1 423 = .ok (.iload_n 3, 1) ∧ 423 + 1 = 424 := ⟨by decide +kernel, rfl⟩
theorem d_X6_step_424 : decode mX6_step.1 424 = .ok (.ifCond .eq 7, 3) ∧ 424 + 3 = 427 ∧ ((424 : Nat) : Int) + 7 = ((431 : Nat) : Int) := ⟨by decide +kernel, rfl, rfl⟩
theorem d_X6_step_431 : decode mX6_step.1 431 = .ok (.iconst 2, 1) ∧ 431 + 1 = 432 := ⟨by decide +kernel, rfl⟩
theorem d_X6_step_432 : decode mX6_step.1 432 = .ok (.putfield 41, 3) ∧ 432 + 3 = 435 := ⟨by decide +kernel, rfl⟩
theorem d_X6_step_435 : decode mX6_step.1 435 = .ok (.return_, 1) := by decide +kernel
theorem d_X6_step_427 : decode mX6_step.1 427 = .ok (.iconst 4, 1) ∧ 427 + 1 = 428 := ⟨by decide +kernel, rfl⟩
theorem d_X6_step_428 : decode mX6_step.1 428 = .ok (.goto 4, 3) ∧ ((428 : Nat) : Int) + 4 = ((432 : Nat) : Int) := ⟨by decide +kernel, rfl⟩
theorem d_X6_step_436 : decode mX6_step.1 436 = .ok (.aload_n 0, 1) ∧ 436 + 1 = 437 := ⟨by decide +kernel, rfl⟩
theorem d_X6_step_437 : decode mX6_step.1 437 = .ok (.iconst 3, 1) ∧ 437 + 1 = 438 := ⟨by decide +kernel, rfl⟩
theorem d_X6_step_438 : decode mX6_step.1 438 = .ok (.putfield 41, 3) ∧ 438 + 3 = 441 := ⟨by decide +kernel, rfl⟩
theorem d_X6_step_441 : decode mX6_step.1 441 = .ok (.aload_n 0, 1) ∧ 441 + 1 = 442 := ⟨by decide +kernel, rfl⟩
theorem d_X6_step_442 : decode mX6_step.1 442 = .ok (.aload_n 0, 1) ∧ 442 + 1 = 443 := ⟨by decide +kernel, rfl⟩
theorem d_X6_step_443 : decode mX6_step.1 443 = .ok (.getfield 15, 3) ∧ 443 + 3 = 446 := ⟨by decide +kernel, rfl⟩
theorem d_X6_step_446 : decode mX6_step.1 446 = .ok (.aload_n 0, 1) ∧ 446 + 1 = 447 := ⟨by decide +kernel, rfl⟩
theorem d_X6_step_447 : decode mX6_step.1 447 = .ok (.getfield 50, 3) ∧ 447 + 3 = 450 := ⟨by decide +kernel, rfl⟩
theorem d_X6_step_450 : decode mX6_step.1 450 = .ok (.baload, 1) ∧ 450 + 1 = 451 := ⟨by decide +kernel, rfl⟩
theorem d_X6_step_451 : decode mX6_step.1 451 = .ok (.sipush 255, 3) ∧ 451 + 3 = 454 := ⟨by decide +kernel, rfl⟩
theorem d_X6_step_454 : decode mX6_step.1 454 = .ok (.iand, 1) ∧ 454 + 1 = 455 := ⟨by decide +kernel, rfl⟩
theorem d_X6_step_455 : decode mX6_step.1 455 = .ok (.putfield 53, 3) ∧ 455 + 3 = 458 := ⟨by decide +kernel, rfl⟩
theorem d_X6_step_458 : decode mX6_step.1 458 = .ok (.aload_n 0, 1) ∧ 458 + 1 = 459 := ⟨by decide +kernel, rfl⟩
theorem d_X6_step_459 : decode mX6_step.1 459 = .ok (.dup, 1) ∧ 459 + 1 = 460 := ⟨by decide +kernel, rfl⟩
theorem d_X6_step_460 : decode mX6_step.1 460 = .ok (.getfield 44, 3) ∧ 460 + 3 = 463 := ⟨by decide +kernel, rfl⟩
theorem d_X6_step_463 : decode mX6_step.1 463 = .ok (.iconst 1, 1) ∧ 463 + 1 = 464 := ⟨by decide +kernel, rfl⟩
theorem d_X6_step_464 : decode mX6_step.1 464 = .ok (.iadd, 1) ∧ 464 + 1 = 465 := ⟨by decide +kernel, rfl⟩
theorem d_X6_step_465 : decode mX6_step.1 465 = .ok (.putfield 44, 3) ∧ 465 + 3 = 468 := ⟨by decide +kernel, rfl⟩
theorem d_X6_step_468 : decode mX6_step.1 468 = .ok (.return_, 1) := by decide +kernel
set_option maxRecDepth 100000 in
set_option maxHeartbeats 4000000 in
theorem g_X6_step_J411 (l : Launch) (G : xa_C) : ∀ (v0 v3 : Int) (h : xa_H) , xa_G l G 2 mX6_step (f_X6_step_J411 v0 v3 h) (fun r => some (none, r) : xa_H → Option xa_O) 411 [some (xR v0), none, none, some (xI v3), none] [] h := by
  intro v0 v3 h
  unfold f_X6_step_J411
  refine xa_step (xa_aload_n d_X6_step_411 rfl) ?_
  refine xa_getf xI xc_6 (by decide) (fun _ => rfl) xw_255 rfl d_X6_step_412 (fun x96 _ => ?_)
  refine xa_step (xa_aload_n d_X6_step_415 rfl) ?_
  refine xa_getf xI xc_6 (by decide) (fun _ => rfl) xw_252 rfl d_X6_step_416 (fun x97 _ => ?_)
  refine xa_if (xa_icmple d_X6_step_419) (fun q98 => ?_) (fun q98 => ?_)
  · refine xa_step (xa_aload_n d_X6_step_422 rfl) ?_
    refine xa_step (xa_iload_n d_X6_step_423 rfl) ?_
    refine xa_if (xa_ifeq d_X6_step_424) (fun q99 => ?_) (fun q99 => ?_)
    · refine xa_step (xa_iconst d_X6_step_431 xq_i_2) ?_
      refine xa_putf2 (tg := xI) xc_6 (by decide) (fun _ => rfl) rfl (fun c hc => xa_fitI c hc) xw_248 rfl d_X6_step_432 (fun h100 _ => ?_)
      exact xa_vret d_X6_step_435 rfl rfl
    · refine xa_step (xa_iconst d_X6_step_427 xq_i_4) ?_
      refine xa_step (xa_goto d_X6_step_428) ?_
      refine xa_putf2 (tg := xI) xc_6 (by decide) (fun _ => rfl) rfl (fun c hc => xa_fitI c hc) xw_248 rfl d_X6_step_432 (fun h101 _ => ?_)
      exact xa_vret d_X6_step_435 rfl rfl
  · refine xa_step (xa_aload_n d_X6_step_436 rfl) ?_
    refine xa_step (xa_iconst d_X6_step_437 xq_i_3) ?_
    refine xa_putf2 (tg := xI) xc_6 (by decide) (fun _ => rfl) rfl (fun c hc => xa_fitI c hc) xw_248 rfl d_X6_step_438 (fun h102 _ => ?_)
    refine xa_step (xa_aload_n d_X6_step_441 rfl) ?_
    refine xa_step (xa_aload_n d_X6_step_442 rfl) ?_
    refine xa_getf xR xc_6 (by decide) (fun _ => rfl) xw_245 rfl d_X6_step_443 (fun x103 _ => ?_)
    refine xa_step (xa_aload_n d_X6_step_446 rfl) ?_
    refine xa_getf xI xc_6 (by decide) (fun _ => rfl) xw_252 rfl d_X6_step_447 (fun x104 _ => ?_)
    refine xa_baload d_X6_step_450 (fun x105 _ => ?_)
    refine xa_step (xa_sipush d_X6_step_451 xq_s_255) ?_
    refine xa_step (xa_iand d_X6_step_454) ?_
    refine xa_putf2 (tg := xI) xc_6 (by decide) (fun _ => rfl) rfl (fun c hc => xa_fitI c hc) xw_256 rfl d_X6_step_455 (fun h106 _ => ?_)
    refine xa_step (xa_aload_n d_X6_step_458 rfl) ?_
    refine xa_step (xa_dup d_X6_step_459 (xa_tR _)) ?_
    refine xa_getf xI xc_6 (by decide) (fun _ => rfl) xw_255 rfl d_X6_step_460 (fun x107 _ => ?_)
    refine xa_step (xa_iconst d_X6_step_463 xq_i_1) ?_
    refine xa_step (xa_iadd d_X6_step_464) ?_
    refine xa_putf2 (tg := xI) xc_6 (by decide) (fun _ => rfl) rfl (fun c hc => xa_fitI c hc) xw_255 rfl d_X6_step_465 (fun h108 _ => ?_)
    exact xa_vret d_X6_step_468 rfl rfl
set_option maxRecDepth 100000 in
set_option maxHeartbeats 4000000 in
theorem g_X6_step_J236 (l : Launch) (G : xa_C) : ∀ (v0 v3 : Int) (h : xa_H) , xa_G l G 2 mX6_step (f_X6_step_J236 v0 v3 h) (fun r => some (none, r) : xa_H → Option xa_O) 236 [some (xR v0), none, none, some (xI v3), none] [] h := by
  intro v0 v3 h
  unfold f_X6_step_J236
  refine xa_step (xa_aload_n d_X6_step_236 rfl) ?_
  refine xa_getf xI xc_6 (by decide) (fun _ => rfl) xw_255 rfl d_X6_step_237 (fun x54 _ => ?_)
  refine xa_step (xa_aload_n d_X6_step_240 rfl) ?_
  refine xa_getf xI xc_6 (by decide) (fun _ => rfl) xw_252 rfl d_X6_step_241 (fun x55 _ => ?_)
  refine xa_if (xa_icmple d_X6_step_244) (fun q56 => ?_) (fun q56 => ?_)
  · refine xa_step (xa_aload_n d_X6_step_247 rfl) ?_
    refine xa_step (xa_iload_n d_X6_step_248 rfl) ?_
    refine xa_if (xa_ifeq d_X6_step_249) (fun q57 => ?_) (fun q57 => ?_)
    · refine xa_step (xa_iconst d_X6_step_256 xq_i_1) ?_
      exact xa_weak (ls' := [some (xR v0), none, none, some (xI v3), none]) ⟨rfl, rfl, trivial⟩ (g_X6_step_J257 l G v0 v3 v0 1 h)
    · refine xa_step (xa_iconst d_X6_step_252 xq_i_4) ?_
      refine xa_step (xa_goto d_X6_step_253) ?_
      exact xa_weak (ls' := [some (xR v0), none, none, some (xI v3), none]) ⟨rfl, rfl, trivial⟩ (g_X6_step_J257 l G v0 v3 v0 4 h)
  · refine xa_weak (ls' := [some (xR v0), none, none, some (xI v3), none]) ⟨rfl, rfl, trivial⟩ ?_
    refine xa_loop (f := fun s => f_X6_step_L322 v0 v3 s) (L := fun s => [some (xR v0), none, none, some (xI v3), none]) (P := fun s => s) (X := (fun x K => xa_G l G 2 mX6_step (some (Sum.inr x)) K 411 [some (xR v0), none, none, some (xI v3), none] [] x)) (fun K hb hX s => g_X6_step_L322 l G v0 v3 K (fun hh => hb hh) (fun hh => hX hh) s) ?_ xFU h
    intro e95 K hK
    refine xa_eqE hK ?_
    show xa_G l G 2 mX6_step _ _ 411 [some (xR v0), none, none, some (xI v3), none] [] e95
    exact xa_weak (ls' := [some (xR v0), none, none, some (xI v3), none]) ⟨rfl, rfl, trivial⟩ (g_X6_step_J411 l G v0 v3 e95)
theorem d_X6_step_126 : decode mX6_step.1 126 = .ok (.aload_n 0, 1) ∧ 126 + 1 = 127 := ⟨by decide +kernel, rfl⟩
theorem d_X6_step_127 : decode mX6_step.1 127 = .ok (.iconst 0, 1) ∧ 127 + 1 = 128 := ⟨by decide +kernel, rfl⟩
theorem d_X6_step_128 : decode mX6_step.1 128 = .ok (.putfield 41, 3) ∧ 128 + 3 = 131 := ⟨by decide +kernel, rfl⟩
theorem d_X6_step_131 : decode mX6_step.1 131 = .ok (.return_, 1) := by decide +kernel
set_option maxRecDepth 100000 in
set_option maxHeartbeats 4000000 in
theorem g_X6_step_J96 (l : Launch) (G : xa_C) : ∀ (v0 s0 : Int) (h : xa_H) , xa_G l G 2 mX6_step (f_X6_step_J96 v0 s0 h) (fun r => some (none, r) : xa_H → Option xa_O) 96 [some (xR v0), none, none, none, none] [xI s0] h := by
  intro v0 s0 h
  unfold f_X6_step_J96
  refine xa_step (xa_istore_n (ls' := [some (xR v0), none, none, some (xI s0), none]) d_X6_step_96 (by decide) rfl) ?_
  refine xa_step (xa_aload_n d_X6_step_97 rfl) ?_
  refine xa_step (xa_aload_n d_X6_step_98 rfl) ?_
  refine xa_getf xI xc_6 (by decide) (fun _ => rfl) xw_255 rfl d_X6_step_99 (fun x21 _ => ?_)
  refine xa_putf2 (tg := xI) xc_6 (by decide) (fun _ => rfl) rfl (fun c hc => xa_fitI c hc) xw_252 rfl d_X6_step_102 (fun h22 _ => ?_)
  refine xa_step (xa_aload_n d_X6_step_105 rfl) ?_
  refine xa_step (xa_iconst d_X6_step_106 xq_i_0) ?_
  refine xa_putf2 (tg := xI) xc_6 (by decide) (fun _ => rfl) rfl (fun c hc => xa_fitI c hc) xw_256 rfl d_X6_step_107 (fun h23 _ => ?_)
  refine xa_step (xa_aload_n d_X6_step_110 rfl) ?_
  refine xa_step (xa_iconst d_X6_step_111 xq_i_m1) ?_
  refine xa_putf2 (tg := xI) xc_6 (by decide) (fun _ => rfl) rfl (fun c hc => xa_fitI c hc) xw_258 rfl d_X6_step_112 (fun h24 _ => ?_)
  refine xa_step (xa_aload_n d_X6_step_115 rfl) ?_
  refine xa_getf xI xc_6 (by decide) (fun _ => rfl) xw_252 rfl d_X6_step_116 (fun x25 _ => ?_)
  refine xa_step (xa_aload_n d_X6_step_119 rfl) ?_
  refine xa_getf xI xc_6 (by decide) (fun _ => rfl) xw_247 rfl d_X6_step_120 (fun x26 _ => ?_)
  refine xa_if (xa_icmplt d_X6_step_123) (fun q27 => ?_) (fun q27 => ?_)
  · refine xa_weak (ls' := [some (xR v0), none, none, some (xI s0), none]) ⟨rfl, rfl, trivial⟩ ?_
    refine xa_loop (f := fun s => f_X6_step_L132 v0 s0 s) (L := fun s => [some (xR v0), none, none, some (xI s0), none]) (P := fun s => s) (X := (fun x K => xa_G l G 2 mX6_step (some (Sum.inr x)) K 236 [some (xR v0), none, none, some (xI s0), none] [] x)) (fun K hb hX s => g_X6_step_L132 l G v0 s0 K (fun hh => hb hh) (fun hh => hX hh) s) ?_ xFU h24
    intro e53 K hK
    refine xa_eqE hK ?_
    show xa_G l G 2 mX6_step _ _ 236 [some (xR v0), none, none, some (xI s0), none] [] e53
    exact xa_weak (ls' := [some (xR v0), none, none, some (xI s0), none]) ⟨rfl, rfl, trivial⟩ (g_X6_step_J236 l G v0 s0 e53)
  · refine xa_step (xa_aload_n d_X6_step_126 rfl) ?_
    refine xa_step (xa_iconst d_X6_step_127 xq_i_0) ?_
    refine xa_putf2 (tg := xI) xc_6 (by decide) (fun _ => rfl) rfl (fun c hc => xa_fitI c hc) xw_248 rfl d_X6_step_128 (fun h109 _ => ?_)
    exact xa_vret d_X6_step_131 rfl rfl
set_option maxRecDepth 100000 in
set_option maxHeartbeats 4000000 in
theorem g_X6_step_J95 (l : Launch) (G : xa_C) : ∀ (v0 : Int) (h : xa_H) , xa_G l G 2 mX6_step (f_X6_step_J95 v0 h) (fun r => some (none, r) : xa_H → Option xa_O) 95 [some (xR v0), none, none, none, none] [] h := by
  intro v0 h
  unfold f_X6_step_J95
  refine xa_step (xa_iconst d_X6_step_95 xq_i_0) ?_
  exact xa_weak (ls' := [some (xR v0), none, none, none, none]) ⟨rfl, trivial⟩ (g_X6_step_J96 l G v0 0 h)
theorem d_X6_step_83 : decode mX6_step.1 83 = .ok (.aload_n 0, 1) ∧ 83 + 1 = 84 := ⟨by decide +kernel, rfl⟩
theorem d_X6_step_84 : decode mX6_step.1 84 = .ok (.getfield 44, 3) ∧ 84 + 3 = 87 := ⟨by decide +kernel, rfl⟩
theorem d_X6_step_87 : decode mX6_step.1 87 = .ok (.iload_n 2, 1) ∧ 87 + 1 = 88 := ⟨by decide +kernel, rfl⟩
theorem d_X6_step_88 : decode mX6_step.1 88 = .ok (.if_icmp .ne 7, 3) ∧ 88 + 3 = 91 ∧ ((88 : Nat) : Int) + 7 = ((95 : Nat) : Int) := ⟨by decide +kernel, rfl, rfl⟩
theorem d_X6_step_91 : decode mX6_step.1 91 = .ok (.iconst 1, 1) ∧ 91 + 1 = 92 := ⟨by decide +kernel, rfl⟩
theorem d_X6_step_92 : decode mX6_step.1 92 = .ok (.goto 4, 3) ∧ ((92 : Nat) : Int) + 4 = ((96 : Nat) : Int) := ⟨by decide +kernel, rfl⟩
set_option maxRecDepth 100000 in
set_option maxHeartbeats 4000000 in
theorem g_X6_step_J79 (l : Launch) (G : xa_C) : ∀ (v0 v1 v2 : Int) (h : xa_H) , xa_G l G 2 mX6_step (f_X6_step_J79 v0 v1 v2 h) (fun r => some (none, r) : xa_H → Option xa_O) 79 [some (xR v0), some (xI v1), some (xI v2), none, none] [] h := by
  intro v0 v1 v2 h
  unfold f_X6_step_J79
  refine xa_step (xa_iload_n d_X6_step_79 rfl) ?_
  refine xa_if (xa_ifeq d_X6_step_80) (fun q20 => ?_) (fun q20 => ?_)
  · exact xa_weak (ls' := [some (xR v0), none, none, none, none]) ⟨rfl, trivial⟩ (g_X6_step_J95 l G v0 h)
  · refine xa_step (xa_aload_n d_X6_step_83 rfl) ?_
    refine xa_getf xI xc_6 (by decide) (fun _ => rfl) xw_255 rfl d_X6_step_84 (fun x110 _ => ?_)
    refine xa_step (xa_iload_n d_X6_step_87 rfl) ?_
    refine xa_if (xa_icmpne d_X6_step_88) (fun q111 => ?_) (fun q111 => ?_)
    · refine xa_step (xa_iconst d_X6_step_91 xq_i_1) ?_
      refine xa_step (xa_goto d_X6_step_92) ?_
      exact xa_weak (ls' := [some (xR v0), none, none, none, none]) ⟨rfl, trivial⟩ (g_X6_step_J96 l G v0 1 h)
    · exact xa_weak (ls' := [some (xR v0), none, none, none, none]) ⟨rfl, trivial⟩ (g_X6_step_J95 l G v0 h)
set_option maxRecDepth 100000 in
set_option maxHeartbeats 4000000 in
theorem g_X6_step_J21 (l : Launch) (G : xa_C) : ∀ (v0 s0 : Int) (h : xa_H) , xa_G l G 2 mX6_step (f_X6_step_J21 v0 s0 h) (fun r => some (none, r) : xa_H → Option xa_O) 21 [some (xR v0), none, none, none, none] [xI s0] h := by
  intro v0 s0 h
  unfold f_X6_step_J21
  refine xa_step (xa_istore_n (ls' := [some (xR v0), some (xI s0), none, none, none]) d_X6_step_21 (by decide) rfl) ?_
  refine xa_step (xa_aload_n d_X6_step_22 rfl) ?_
  refine xa_getf xI xc_6 (by decide) (fun _ => rfl) xw_255 rfl d_X6_step_23 (fun x3 _ => ?_)
  refine xa_step (xa_istore_n (ls' := [some (xR v0), some (xI s0), some (xI x3), none, none]) d_X6_step_26 (by decide) rfl) ?_
  refine xa_weak (ls' := [some (xR v0), some (xI s0), some (xI x3), none, none]) ⟨rfl, rfl, rfl, trivial⟩ ?_
  refine xa_loop (f := fun s => f_X6_step_L27 v0 s0 x3 s) (L := fun s => [some (xR v0), some (xI s0), some (xI x3), none, none]) (P := fun s => s) (X := (fun x K => xa_G l G 2 mX6_step (some (Sum.inr x)) K 79 [some (xR v0), some (xI s0), some (xI x3), none, none] [] x)) (fun K hb hX s => g_X6_step_L27 l G v0 s0 x3 K (fun hh => hb hh) (fun hh => hX hh) s) ?_ xFU h
  intro e19 K hK
  refine xa_eqE hK ?_
  show xa_G l G 2 mX6_step _ _ 79 [some (xR v0), some (xI s0), some (xI x3), none, none] [] e19
  exact xa_weak (ls' := [some (xR v0), some (xI s0), some (xI x3), none, none]) ⟨rfl, rfl, rfl, trivial⟩ (g_X6_step_J79 l G v0 s0 x3 e19)
set_option maxRecDepth 100000 in
set_option maxHeartbeats 4000000 in
theorem g_X6_step_J16 (l : Launch) (G : xa_C) : ∀ (v0 : Int) (h : xa_H) , xa_G l G 2 mX6_step (f_X6_step_J16 v0 h) (fun r => some (none, r) : xa_H → Option xa_O) 16 [some (xR v0), none, none, none, none] [] h := by
  intro v0 h
  unfold f_X6_step_J16
  refine xa_step (xa_iconst d_X6_step_16 xq_i_1) ?_
  refine xa_step (xa_goto d_X6_step_17) ?_
  exact xa_weak (ls' := [some (xR v0), none, none, none, none]) ⟨rfl, trivial⟩ (g_X6_step_J21 l G v0 1 h)
theorem d_X6_step_8 : decode mX6_step.1 8 = .ok (.aload_n 0, 1) ∧ 8 + 1 = 9 := ⟨by decide +kernel, rfl⟩
theorem d_X6_step_9 : decode mX6_step.1 9 = .ok (.getfield 41, 3) ∧ 9 + 3 = 12 := ⟨by decide +kernel, rfl⟩
theorem d_X6_step_12 : decode mX6_step.1 12 = .ok (.iconst 2, 1) ∧ 12 + 1 = 13 := ⟨by decide +kernel, rfl⟩
theorem d_X6_step_13 : decode mX6_step.1 13 = .ok (.if_icmp .ne 7, 3) ∧ 13 + 3 = 16 ∧ ((13 : Nat) : Int) + 7 = ((20 : Nat) : Int) := ⟨by decide +kernel, rfl, rfl⟩
theorem d_X6_step_20 : decode mX6_step.1 20 = .ok (.iconst 0, 1) ∧ 20 + 1 = 21 := ⟨by decide +kernel, rfl⟩
set_option maxRecDepth 100000 in
set_option maxHeartbeats 4000000 in
theorem g_X6_step (l : Launch) (G : xa_C) (v0 : Int) (h : xa_H) : xa_G l G 2 mX6_step (f_X6_step v0 h) (fun r => some (none, r) : xa_H → Option xa_O) 0 [some (xR v0), none, none, none, none] [] h := by
  unfold f_X6_step
  refine xa_step (xa_aload_n d_X6_step_0 rfl) ?_
  refine xa_getf xI xc_6 (by decide) (fun _ => rfl) xw_248 rfl d_X6_step_1 (fun x1 _ => ?_)
  refine xa_step (xa_iconst d_X6_step_4 xq_i_1) ?_
  refine xa_if (xa_icmpeq d_X6_step_5) (fun q2 => ?_) (fun q2 => ?_)
  · exact xa_weak (ls' := [some (xR v0), none, none, none, none]) ⟨rfl, trivial⟩ (g_X6_step_J16 l G v0 h)
  · refine xa_step (xa_aload_n d_X6_step_8 rfl) ?_
    refine xa_getf xI xc_6 (by decide) (fun _ => rfl) xw_248 rfl d_X6_step_9 (fun x112 _ => ?_)
    refine xa_step (xa_iconst d_X6_step_12 xq_i_2) ?_
    refine xa_if (xa_icmpne d_X6_step_13) (fun q113 => ?_) (fun q113 => ?_)
    · exact xa_weak (ls' := [some (xR v0), none, none, none, none]) ⟨rfl, trivial⟩ (g_X6_step_J16 l G v0 h)
    · refine xa_step (xa_iconst d_X6_step_20 xq_i_0) ?_
      exact xa_weak (ls' := [some (xR v0), none, none, none, none]) ⟨rfl, trivial⟩ (g_X6_step_J21 l G v0 0 h)
theorem ct_X6_step (l : Launch) (G : xa_C) (v0 : Int) (h : xa_H) (r : xa_H) (hr : f_X6_step v0 h = some r) : xa_CT l G 2 mX6_step yX6_step [xR v0] h (none, r) :=
  xa_met (by decide +kernel) rfl (fun q => by first | rfl | cases q) (Nat.le_of_ble_eq_true rfl) rfl (g_X6_step l G v0 h) (by rw [hr]; rfl)
abbrev mX6_isSign : xa_M := (cX6_isSign, 2, (some (.boolean)), RX6, false)
theorem d_X6_isSign_0 : decode mX6_isSign.1 0 = .ok (.aload_n 0, 1) ∧ 0 + 1 = 1 := ⟨by decide +kernel, rfl⟩
theorem d_X6_isSign_1 : decode mX6_isSign.1 1 = .ok (.getfield 41, 3) ∧ 1 + 3 = 4 := ⟨by decide +kernel, rfl⟩
theorem d_X6_isSign_4 : decode mX6_isSign.1 4 = .ok (.iconst 3, 1) ∧ 4 + 1 = 5 := ⟨by decide +kernel, rfl⟩
theorem d_X6_isSign_5 : decode mX6_isSign.1 5 = .ok (.if_icmp .ne 15, 3) ∧ 5 + 3 = 8 ∧ ((5 : Nat) : Int) + 15 = ((20 : Nat) : Int) := ⟨by decide +kernel, rfl, rfl⟩
theorem d_X6_isSign_8 : decode mX6_isSign.1 8 = .ok (.aload_n 0, 1) ∧ 8 + 1 = 9 := ⟨by decide +kernel, rfl⟩
theorem d_X6_isSign_9 : decode mX6_isSign.1 9 = .ok (.getfield 53, 3) ∧ 9 + 3 = 12 := ⟨by decide +kernel, rfl⟩
theorem d_X6_isSign_12 : decode mX6_isSign.1 12 = .ok (.iload_n 1, 1) ∧ 12 + 1 = 13 := ⟨by decide +kernel, rfl⟩
theorem d_X6_isSign_13 : decode mX6_isSign.1 13 = .ok (.if_icmp .ne 7, 3) ∧ 13 + 3 = 16 ∧ ((13 : Nat) : Int) + 7 = ((20 : Nat) : Int) := ⟨by decide +kernel, rfl, rfl⟩
theorem d_X6_isSign_16 : decode mX6_isSign.1 16 = .ok (.iconst 1, 1) ∧ 16 + 1 = 17 := ⟨by decide +kernel, rfl⟩
theorem d_X6_isSign_17 : decode mX6_isSign.1 17 = .ok (.goto 4, 3) ∧ ((17 : Nat) : Int) + 4 = ((21 : Nat) : Int) := ⟨by decide +kernel, rfl⟩
theorem d_X6_isSign_21 : decode mX6_isSign.1 21 = .ok (.ireturn, 1) := by decide +kernel
theorem d_X6_isSign_20 : decode mX6_isSign.1 20 = .ok (.iconst 0, 1) ∧ 20 + 1 = 21 := ⟨by decide +kernel, rfl⟩
set_option maxRecDepth 100000 in
set_option maxHeartbeats 4000000 in
theorem g_X6_isSign (l : Launch) (G : xa_C) (v0 v1 : Int) (h : xa_H) : xa_G l G 2 mX6_isSign (f_X6_isSign v0 v1 h) (fun r => some (some (xI r), h) : Int → Option xa_O) 0 [some (xR v0), some (xI v1)] [] h := by
  unfold f_X6_isSign
  refine xa_step (xa_aload_n d_X6_isSign_0 rfl) ?_
  refine xa_getf xI xc_6 (by decide) (fun _ => rfl) xw_248 rfl d_X6_isSign_1 (fun x1 _ => ?_)
  refine xa_step (xa_iconst d_X6_isSign_4 xq_i_3) ?_
  refine xa_if (xa_icmpne d_X6_isSign_5) (fun q2 => ?_) (fun q2 => ?_)
  · refine xa_step (xa_aload_n d_X6_isSign_8 rfl) ?_
    refine xa_getf xI xc_6 (by decide) (fun _ => rfl) xw_256 rfl d_X6_isSign_9 (fun x3 _ => ?_)
    refine xa_step (xa_iload_n d_X6_isSign_12 rfl) ?_
    refine xa_if (xa_icmpne d_X6_isSign_13) (fun q4 => ?_) (fun q4 => ?_)
    · refine xa_step (xa_iconst d_X6_isSign_16 xq_i_1) ?_
      refine xa_step (xa_goto d_X6_isSign_17) ?_
      exact xa_zret d_X6_isSign_21 rfl (Or.inr rfl) rfl
    · refine xa_step (xa_iconst d_X6_isSign_20 xq_i_0) ?_
      exact xa_zret d_X6_isSign_21 rfl (Or.inl rfl) rfl
  · refine xa_step (xa_iconst d_X6_isSign_20 xq_i_0) ?_
    exact xa_zret d_X6_isSign_21 rfl (Or.inl rfl) rfl
theorem ct_X6_isSign (l : Launch) (G : xa_C) (v0 v1 : Int) (h : xa_H) (r : Int) (hr : f_X6_isSign v0 v1 h = some r) : xa_CT l G 2 mX6_isSign yX6_isSign [xR v0, xI v1] h (some (xI r), h) :=
  xa_met (by decide +kernel) rfl (fun q => by first | rfl | cases q) (Nat.le_of_ble_eq_true rfl) rfl (g_X6_isSign l G v0 v1 h) (by rw [hr]; rfl)
abbrev mX3_signCode : xa_M := (cX3_signCode, 5, (some (.int)), RX3, false)
theorem d_X3_signCode_0 : decode mX3_signCode.1 0 = .ok (.aload_n 0, 1) ∧ 0 + 1 = 1 := ⟨by decide +kernel, rfl⟩
theorem d_X3_signCode_1 : decode mX3_signCode.1 1 = .ok (.getfield 15, 3) ∧ 1 + 3 = 4 := ⟨by decide +kernel, rfl⟩
theorem d_X3_signCode_4 : decode mX3_signCode.1 4 = .ok (.iload_n 1, 1) ∧ 4 + 1 = 5 := ⟨by decide +kernel, rfl⟩
theorem d_X3_signCode_5 : decode mX3_signCode.1 5 = .ok (.invokevirtual 65, 3) ∧ 5 + 3 = 8 := ⟨by decide +kernel, rfl⟩
theorem d_X3_signCode_8 : decode mX3_signCode.1 8 = .ok (.ifCond .eq 5, 3) ∧ 8 + 3 = 11 ∧ ((8 : Nat) : Int) + 5 = ((13 : Nat) : Int) := ⟨by decide +kernel, rfl, rfl⟩
theorem d_X3_signCode_13 : decode mX3_signCode.1 13 = .ok (.aload_n 0, 1) ∧ 13 + 1 = 14 := ⟨by decide +kernel, rfl⟩
theorem d_X3_signCode_14 : decode mX3_signCode.1 14 = .ok (.getfield 15, 3) ∧ 14 + 3 = 17 := ⟨by decide +kernel, rfl⟩
theorem d_X3_signCode_17 : decode mX3_signCode.1 17 = .ok (.iload_n 3, 1) ∧ 17 + 1 = 18 := ⟨by decide +kernel, rfl⟩
theorem d_X3_signCode_18 : decode mX3_signCode.1 18 = .ok (.invokevirtual 65, 3) ∧ 18 + 3 = 21 := ⟨by decide +kernel, rfl⟩
theorem d_X3_signCode_21 : decode mX3_signCode.1 21 = .ok (.ifCond .eq 8, 3) ∧ 21 + 3 = 24 ∧ ((21 : Nat) : Int) + 8 = ((29 : Nat) : Int) := ⟨by decide +kernel, rfl, rfl⟩
theorem d_X3_signCode_29 : decode mX3_signCode.1 29 = .ok (.bipush (-22), 2) ∧ 29 + 2 = 31 := ⟨by decide +kernel, rfl⟩
theorem d_X3_signCode_31 : decode mX3_signCode.1 31 = .ok (.ireturn, 1) := by decide +kernel
theorem d_X3_signCode_24 : decode mX3_signCode.1 24 = .ok (.iload 4, 2) ∧ 24 + 2 = 26 := ⟨by decide +kernel, rfl⟩
theorem d_X3_signCode_26 : decode mX3_signCode.1 26 = .ok (.goto 5, 3) ∧ ((26 : Nat) : Int) + 5 = ((31 : Nat) : Int) := ⟨by decide +kernel, rfl⟩
theorem d_X3_signCode_11 : decode mX3_signCode.1 11 = .ok (.iload_n 2, 1) ∧ 11 + 1 = 12 := ⟨by decide +kernel, rfl⟩
theorem d_X3_signCode_12 : decode mX3_signCode.1 12 = .ok (.ireturn, 1) := by decide +kernel
set_option maxRecDepth 100000 in
set_option maxHeartbeats 4000000 in
theorem g_X3_signCode (l : Launch) (G : xa_C) (v0 v1 v2 v3 v4 : Int) (h : xa_H) : xa_G l G 3 mX3_signCode (f_X3_signCode v0 v1 v2 v3 v4 h) (fun r => some (some (xI r), h) : Int → Option xa_O) 0 [some (xR v0), some (xI v1), some (xI v2), some (xI v3), some (xI v4)] [] h := by
  unfold f_X3_signCode
  refine xa_step (xa_aload_n d_X3_signCode_0 rfl) ?_
  refine xa_getf xR xc_3 (by decide) (fun _ => rfl) xw_298 rfl d_X3_signCode_1 (fun x1 _ => ?_)
  refine xa_step (xa_iload_n d_X3_signCode_4 rfl) ?_
  refine xa_callVi (as := [xI v1]) (st := []) (M' := mX6_isSign) (d' := 2) rfl xw_800 xw_801 xw_802 xw_803 xw_162 xh_X6_isSign rfl ⟨Nat.le_of_ble_eq_true rfl, Nat.le_of_ble_eq_true rfl⟩ (Nat.le_of_ble_eq_true rfl) rfl d_X3_signCode_5 (fun r hr => ct_X6_isSign l G x1 v1 h r hr) (fun r2 _ => ?_)
  refine xa_if (xa_ifeq d_X3_signCode_8) (fun q3 => ?_) (fun q3 => ?_)
  · refine xa_step (xa_aload_n d_X3_signCode_13 rfl) ?_
    refine xa_getf xR xc_3 (by decide) (fun _ => rfl) xw_298 rfl d_X3_signCode_14 (fun x4 _ => ?_)
    refine xa_step (xa_iload_n d_X3_signCode_17 rfl) ?_
    refine xa_callVi (as := [xI v3]) (st := []) (M' := mX6_isSign) (d' := 2) rfl xw_800 xw_801 xw_802 xw_803 xw_162 xh_X6_isSign rfl ⟨Nat.le_of_ble_eq_true rfl, Nat.le_of_ble_eq_true rfl⟩ (Nat.le_of_ble_eq_true rfl) rfl d_X3_signCode_18 (fun r hr => ct_X6_isSign l G x4 v3 h r hr) (fun r5 _ => ?_)
    refine xa_if (xa_ifeq d_X3_signCode_21) (fun q6 => ?_) (fun q6 => ?_)
    · refine xa_step (xa_bipush d_X3_signCode_29 xq_b_m22) ?_
      exact xa_iret d_X3_signCode_31 rfl rfl
    · refine xa_step (xa_iload d_X3_signCode_24 rfl) ?_
      refine xa_step (xa_goto d_X3_signCode_26) ?_
      exact xa_iret d_X3_signCode_31 rfl rfl
  · refine xa_step (xa_iload_n d_X3_signCode_11 rfl) ?_
    exact xa_iret d_X3_signCode_12 rfl rfl
theorem ct_X3_signCode (l : Launch) (G : xa_C) (v0 v1 v2 v3 v4 : Int) (h : xa_H) (r : Int) (hr : f_X3_signCode v0 v1 v2 v3 v4 h = some r) : xa_CT l G 3 mX3_signCode yX3_signCode [xR v0, xI v1, xI v2, xI v3, xI v4] h (some (xI r), h) :=
  xa_met (by decide +kernel) rfl (fun q => by first | rfl | cases q) (Nat.le_of_ble_eq_true rfl) rfl (g_X3_signCode l G v0 v1 v2 v3 v4 h) (by rw [hr]; rfl)
abbrev mX6_refuse : xa_M := (cX6_refuse, 3, (some (.boolean)), RX6, false)
theorem d_X6_refuse_0 : decode mX6_refuse.1 0 = .ok (.aload_n 0, 1) ∧ 0 + 1 = 1 := ⟨by decide +kernel, rfl⟩
theorem d_X6_refuse_1 : decode mX6_refuse.1 1 = .ok (.iload_n 1, 1) ∧ 1 + 1 = 2 := ⟨by decide +kernel, rfl⟩
theorem d_X6_refuse_2 : decode mX6_refuse.1 2 = .ok (.putfield 19, 3) ∧ 2 + 3 = 5 := ⟨by decide +kernel, rfl⟩
theorem d_X6_refuse_5 : decode mX6_refuse.1 5 = .ok (.aload_n 0, 1) ∧ 5 + 1 = 6 := ⟨by decide +kernel, rfl⟩
theorem d_X6_refuse_6 : decode mX6_refuse.1 6 = .ok (.iload_n 2, 1) ∧ 6 + 1 = 7 := ⟨by decide +kernel, rfl⟩
theorem d_X6_refuse_7 : decode mX6_refuse.1 7 = .ok (.putfield 23, 3) ∧ 7 + 3 = 10 := ⟨by decide +kernel, rfl⟩
theorem d_X6_refuse_10 : decode mX6_refuse.1 10 = .ok (.iconst 0, 1) ∧ 10 + 1 = 11 := ⟨by decide +kernel, rfl⟩
theorem d_X6_refuse_11 : decode mX6_refuse.1 11 = .ok (.ireturn, 1) := by decide +kernel
set_option maxRecDepth 100000 in
set_option maxHeartbeats 4000000 in
theorem g_X6_refuse (l : Launch) (G : xa_C) (v0 v1 v2 : Int) (h : xa_H) : xa_G l G 2 mX6_refuse (f_X6_refuse v0 v1 v2 h) (fun r => some (some (xI r.1), r.2) : (Int × xa_H) → Option xa_O) 0 [some (xR v0), some (xI v1), some (xI v2)] [] h := by
  unfold f_X6_refuse
  refine xa_step (xa_aload_n d_X6_refuse_0 rfl) ?_
  refine xa_step (xa_iload_n d_X6_refuse_1 rfl) ?_
  refine xa_putf2 (tg := xI) xc_6 (by decide) (fun _ => rfl) rfl (fun c hc => xa_fitI c hc) xw_263 rfl d_X6_refuse_2 (fun h1 _ => ?_)
  refine xa_step (xa_aload_n d_X6_refuse_5 rfl) ?_
  refine xa_step (xa_iload_n d_X6_refuse_6 rfl) ?_
  refine xa_putf2 (tg := xI) xc_6 (by decide) (fun _ => rfl) rfl (fun c hc => xa_fitI c hc) xw_265 rfl d_X6_refuse_7 (fun h2 _ => ?_)
  refine xa_step (xa_iconst d_X6_refuse_10 xq_i_0) ?_
  exact xa_zret d_X6_refuse_11 rfl (Or.inl rfl) rfl
theorem ct_X6_refuse (l : Launch) (G : xa_C) (v0 v1 v2 : Int) (h : xa_H) (r : Int × xa_H) (hr : f_X6_refuse v0 v1 v2 h = some r) : xa_CT l G 2 mX6_refuse yX6_refuse [xR v0, xI v1, xI v2] h (some (xI r.1), r.2) :=
  xa_met (by decide +kernel) rfl (fun q => by first | rfl | cases q) (Nat.le_of_ble_eq_true rfl) rfl (g_X6_refuse l G v0 v1 v2 h) (by rw [hr]; rfl)
abbrev mX3_stepInto : xa_M := (cX3_stepInto, 2, (some (.boolean)), RX3, false)
theorem d_X3_stepInto_0 : decode mX3_stepInto.1 0 = .ok (.iload_n 1, 1) ∧ 0 + 1 = 1 := ⟨by decide +kernel, rfl⟩
theorem d_X3_stepInto_1 : decode mX3_stepInto.1 1 = .ok (.bipush 6, 2) ∧ 1 + 2 = 3 := ⟨by decide +kernel, rfl⟩
theorem d_X3_stepInto_3 : decode mX3_stepInto.1 3 = .ok (.if_icmp .lt 19, 3) ∧ 3 + 3 = 6 ∧ ((3 : Nat) : Int) + 19 = ((22 : Nat) : Int) := ⟨by decide +kernel, rfl, rfl⟩
theorem d_X3_stepInto_22 : decode mX3_stepInto.1 22 = .ok (.aload_n 0, 1) ∧ 22 + 1 = 23 := ⟨by decide +kernel, rfl⟩
theorem d_X3_stepInto_23 : decode mX3_stepInto.1 23 = .ok (.getfield 15, 3) ∧ 23 + 3 = 26 := ⟨by decide +kernel, rfl⟩
theorem d_X3_stepInto_26 : decode mX3_stepInto.1 26 = .ok (.invokevirtual 27, 3) ∧ 26 + 3 = 29 := ⟨by decide +kernel, rfl⟩
theorem d_X3_stepInto_29 : decode mX3_stepInto.1 29 = .ok (.iconst 1, 1) ∧ 29 + 1 = 30 := ⟨by decide +kernel, rfl⟩
theorem d_X3_stepInto_30 : decode mX3_stepInto.1 30 = .ok (.ireturn, 1) := by decide +kernel
theorem d_X3_stepInto_6 : decode mX3_stepInto.1 6 = .ok (.aload_n 0, 1) ∧ 6 + 1 = 7 := ⟨by decide +kernel, rfl⟩
theorem d_X3_stepInto_7 : decode mX3_stepInto.1 7 = .ok (.getfield 15, 3) ∧ 7 + 3 = 10 := ⟨by decide +kernel, rfl⟩
theorem d_X3_stepInto_10 : decode mX3_stepInto.1 10 = .ok (.iconst 4, 1) ∧ 10 + 1 = 11 := ⟨by decide +kernel, rfl⟩
theorem d_X3_stepInto_11 : decode mX3_stepInto.1 11 = .ok (.aload_n 0, 1) ∧ 11 + 1 = 12 := ⟨by decide +kernel, rfl⟩
theorem d_X3_stepInto_12 : decode mX3_stepInto.1 12 = .ok (.getfield 15, 3) ∧ 12 + 3 = 15 := ⟨by decide +kernel, rfl⟩
theorem d_X3_stepInto_15 : decode mX3_stepInto.1 15 = .ok (.getfield 99, 3) ∧ 15 + 3 = 18 := ⟨by decide +kernel, rfl⟩
theorem d_X3_stepInto_18 : decode mX3_stepInto.1 18 = .ok (.invokevirtual 102, 3) ∧ 18 + 3 = 21 := ⟨by decide +kernel, rfl⟩
theorem d_X3_stepInto_21 : decode mX3_stepInto.1 21 = .ok (.ireturn, 1) := by decide +kernel
set_option maxRecDepth 100000 in
set_option maxHeartbeats 4000000 in
theorem g_X3_stepInto (l : Launch) (G : xa_C) (v0 v1 : Int) (h : xa_H) : xa_G l G 3 mX3_stepInto (f_X3_stepInto v0 v1 h) (fun r => some (some (xI r.1), r.2) : (Int × xa_H) → Option xa_O) 0 [some (xR v0), some (xI v1)] [] h := by
  unfold f_X3_stepInto
  refine xa_step (xa_iload_n d_X3_stepInto_0 rfl) ?_
  refine xa_step (xa_bipush d_X3_stepInto_1 xq_b_6) ?_
  refine xa_if (xa_icmplt d_X3_stepInto_3) (fun q1 => ?_) (fun q1 => ?_)
  · refine xa_step (xa_aload_n d_X3_stepInto_22 rfl) ?_
    refine xa_getf xR xc_3 (by decide) (fun _ => rfl) xw_298 rfl d_X3_stepInto_23 (fun x2 _ => ?_)
    refine xa_callVV (as := []) (st := []) (M' := mX6_step) (d' := 2) rfl xw_778 xw_677 xw_678 xw_679 xw_162 xh_X6_step rfl ⟨Nat.le_of_ble_eq_true rfl, Nat.le_of_ble_eq_true rfl⟩ (Nat.le_of_ble_eq_true rfl) rfl d_X3_stepInto_26 (fun r hr => ct_X6_step l G x2 h r hr) (fun r3 _ => ?_)
    refine xa_step (xa_iconst d_X3_stepInto_29 xq_i_1) ?_
    exact xa_zret d_X3_stepInto_30 rfl (Or.inr rfl) rfl
  · refine xa_step (xa_aload_n d_X3_stepInto_6 rfl) ?_
    refine xa_getf xR xc_3 (by decide) (fun _ => rfl) xw_298 rfl d_X3_stepInto_7 (fun x4 _ => ?_)
    refine xa_step (xa_iconst d_X3_stepInto_10 xq_i_4) ?_
    refine xa_step (xa_aload_n d_X3_stepInto_11 rfl) ?_
    refine xa_getf xR xc_3 (by decide) (fun _ => rfl) xw_298 rfl d_X3_stepInto_12 (fun x5 _ => ?_)
    refine xa_getf xI xc_6 (by decide) (fun _ => rfl) xw_254 rfl d_X3_stepInto_15 (fun x6 _ => ?_)
    refine xa_callVI (as := [xI 4, xI x6]) (st := []) (M' := mX6_refuse) (d' := 2) rfl xw_795 xw_685 xw_686 xw_687 xw_162 xh_X6_refuse rfl ⟨Nat.le_of_ble_eq_true rfl, Nat.le_of_ble_eq_true rfl⟩ (Nat.le_of_ble_eq_true rfl) rfl d_X3_stepInto_18 (fun r hr => ct_X6_refuse l G x4 4 x6 h r hr) (fun r7 _ => ?_)
    refine xa_bo (fun q8 => ?_)
    exact xa_zret d_X3_stepInto_21 rfl q8 rfl
theorem ct_X3_stepInto (l : Launch) (G : xa_C) (v0 v1 : Int) (h : xa_H) (r : Int × xa_H) (hr : f_X3_stepInto v0 v1 h = some r) : xa_CT l G 3 mX3_stepInto yX3_stepInto [xR v0, xI v1] h (some (xI r.1), r.2) :=
  xa_met (by decide +kernel) rfl (fun q => by first | rfl | cases q) (Nat.le_of_ble_eq_true rfl) rfl (g_X3_stepInto l G v0 v1 h) (by rw [hr]; rfl)
abbrev mX6_stray : xa_M := (cX6_stray, 1, (some (.boolean)), RX6, false)
theorem d_X6_stray_0 : decode mX6_stray.1 0 = .ok (.aload_n 0, 1) ∧ 0 + 1 = 1 := ⟨by decide +kernel, rfl⟩
theorem d_X6_stray_1 : decode mX6_stray.1 1 = .ok (.iconst 1, 1) ∧ 1 + 1 = 2 := ⟨by decide +kernel, rfl⟩
theorem d_X6_stray_2 : decode mX6_stray.1 2 = .ok (.putfield 19, 3) ∧ 2 + 3 = 5 := ⟨by decide +kernel, rfl⟩
theorem d_X6_stray_5 : decode mX6_stray.1 5 = .ok (.aload_n 0, 1) ∧ 5 + 1 = 6 := ⟨by decide +kernel, rfl⟩
theorem d_X6_stray_6 : decode mX6_stray.1 6 = .ok (.aload_n 0, 1) ∧ 6 + 1 = 7 := ⟨by decide +kernel, rfl⟩
theorem d_X6_stray_7 : decode mX6_stray.1 7 = .ok (.getfield 50, 3) ∧ 7 + 3 = 10 := ⟨by decide +kernel, rfl⟩
theorem d_X6_stray_10 : decode mX6_stray.1 10 = .ok (.putfield 23, 3) ∧ 10 + 3 = 13 := ⟨by decide +kernel, rfl⟩
theorem d_X6_stray_13 : decode mX6_stray.1 13 = .ok (.iconst 0, 1) ∧ 13 + 1 = 14 := ⟨by decide +kernel, rfl⟩
theorem d_X6_stray_14 : decode mX6_stray.1 14 = .ok (.ireturn, 1) := by decide +kernel
set_option maxRecDepth 100000 in
set_option maxHeartbeats 4000000 in
theorem g_X6_stray (l : Launch) (G : xa_C) (v0 : Int) (h : xa_H) : xa_G l G 2 mX6_stray (f_X6_stray v0 h) (fun r => some (some (xI r.1), r.2) : (Int × xa_H) → Option xa_O) 0 [some (xR v0)] [] h := by
  unfold f_X6_stray
  refine xa_step (xa_aload_n d_X6_stray_0 rfl) ?_
  refine xa_step (xa_iconst d_X6_stray_1 xq_i_1) ?_
  refine xa_putf2 (tg := xI) xc_6 (by decide) (fun _ => rfl) rfl (fun c hc => xa_fitI c hc) xw_263 rfl d_X6_stray_2 (fun h1 _ => ?_)
  refine xa_step (xa_aload_n d_X6_stray_5 rfl) ?_
  refine xa_step (xa_aload_n d_X6_stray_6 rfl) ?_
  refine xa_getf xI xc_6 (by decide) (fun _ => rfl) xw_252 rfl d_X6_stray_7 (fun x2 _ => ?_)
  refine xa_putf2 (tg := xI) xc_6 (by decide) (fun _ => rfl) rfl (fun c hc => xa_fitI c hc) xw_265 rfl d_X6_stray_10 (fun h3 _ => ?_)
  refine xa_step (xa_iconst d_X6_stray_13 xq_i_0) ?_
  exact xa_zret d_X6_stray_14 rfl (Or.inl rfl) rfl
theorem ct_X6_stray (l : Launch) (G : xa_C) (v0 : Int) (h : xa_H) (r : Int × xa_H) (hr : f_X6_stray v0 h = some r) : xa_CT l G 2 mX6_stray yX6_stray [xR v0] h (some (xI r.1), r.2) :=
  xa_met (by decide +kernel) rfl (fun q => by first | rfl | cases q) (Nat.le_of_ble_eq_true rfl) rfl (g_X6_stray l G v0 h) (by rw [hr]; rfl)
abbrev mX6_needSign : xa_M := (cX6_needSign, 2, (some (.boolean)), RX6, false)
theorem d_X6_needSign_0 : decode mX6_needSign.1 0 = .ok (.aload_n 0, 1) ∧ 0 + 1 = 1 := ⟨by decide +kernel, rfl⟩
theorem d_X6_needSign_1 : decode mX6_needSign.1 1 = .ok (.getfield 41, 3) ∧ 1 + 3 = 4 := ⟨by decide +kernel, rfl⟩
theorem d_X6_needSign_4 : decode mX6_needSign.1 4 = .ok (.iconst 3, 1) ∧ 4 + 1 = 5 := ⟨by decide +kernel, rfl⟩
theorem d_X6_needSign_5 : decode mX6_needSign.1 5 = .ok (.if_icmp .ne 11, 3) ∧ 5 + 3 = 8 ∧ ((5 : Nat) : Int) + 11 = ((16 : Nat) : Int) := ⟨by decide +kernel, rfl, rfl⟩
theorem d_X6_needSign_8 : decode mX6_needSign.1 8 = .ok (.aload_n 0, 1) ∧ 8 + 1 = 9 := ⟨by decide +kernel, rfl⟩
theorem d_X6_needSign_9 : decode mX6_needSign.1 9 = .ok (.getfield 53, 3) ∧ 9 + 3 = 12 := ⟨by decide +kernel, rfl⟩
theorem d_X6_needSign_12 : decode mX6_needSign.1 12 = .ok (.iload_n 1, 1) ∧ 12 + 1 = 13 := ⟨by decide +kernel, rfl⟩
theorem d_X6_needSign_13 : decode mX6_needSign.1 13 = .ok (.if_icmp .eq 8, 3) ∧ 13 + 3 = 16 ∧ ((13 : Nat) : Int) + 8 = ((21 : Nat) : Int) := ⟨by decide +kernel, rfl, rfl⟩
theorem d_X6_needSign_21 : decode mX6_needSign.1 21 = .ok (.aload_n 0, 1) ∧ 21 + 1 = 22 := ⟨by decide +kernel, rfl⟩
theorem d_X6_needSign_22 : decode mX6_needSign.1 22 = .ok (.invokevirtual 47, 3) ∧ 22 + 3 = 25 := ⟨by decide +kernel, rfl⟩
theorem d_X6_needSign_25 : decode mX6_needSign.1 25 = .ok (.iconst 1, 1) ∧ 25 + 1 = 26 := ⟨by decide +kernel, rfl⟩
theorem d_X6_needSign_26 : decode mX6_needSign.1 26 = .ok (.ireturn, 1) := by decide +kernel
theorem d_X6_needSign_16 : decode mX6_needSign.1 16 = .ok (.aload_n 0, 1) ∧ 16 + 1 = 17 := ⟨by decide +kernel, rfl⟩
theorem d_X6_needSign_17 : decode mX6_needSign.1 17 = .ok (.invokevirtual 59, 3) ∧ 17 + 3 = 20 := ⟨by decide +kernel, rfl⟩
theorem d_X6_needSign_20 : decode mX6_needSign.1 20 = .ok (.ireturn, 1) := by decide +kernel
set_option maxRecDepth 100000 in
set_option maxHeartbeats 4000000 in
theorem g_X6_needSign_J16 (l : Launch) (G : xa_C) : ∀ (v0 : Int) (h : xa_H) , xa_G l G 3 mX6_needSign (f_X6_needSign_J16 v0 h) (fun r => some (some (xI r.1), r.2) : (Int × xa_H) → Option xa_O) 16 [some (xR v0), none] [] h := by
  intro v0 h
  unfold f_X6_needSign_J16
  refine xa_step (xa_aload_n d_X6_needSign_16 rfl) ?_
  refine xa_callVI (as := []) (st := []) (M' := mX6_stray) (d' := 2) rfl xw_705 xw_706 xw_707 xw_708 xw_162 xh_X6_stray rfl ⟨Nat.le_of_ble_eq_true rfl, Nat.le_of_ble_eq_true rfl⟩ (Nat.le_of_ble_eq_true rfl) rfl d_X6_needSign_17 (fun r hr => ct_X6_stray l G v0 h r hr) (fun r6 _ => ?_)
  refine xa_bo (fun q7 => ?_)
  exact xa_zret d_X6_needSign_20 rfl q7 rfl
set_option maxRecDepth 100000 in
set_option maxHeartbeats 4000000 in
theorem g_X6_needSign (l : Launch) (G : xa_C) (v0 v1 : Int) (h : xa_H) : xa_G l G 3 mX6_needSign (f_X6_needSign v0 v1 h) (fun r => some (some (xI r.1), r.2) : (Int × xa_H) → Option xa_O) 0 [some (xR v0), some (xI v1)] [] h := by
  unfold f_X6_needSign
  refine xa_step (xa_aload_n d_X6_needSign_0 rfl) ?_
  refine xa_getf xI xc_6 (by decide) (fun _ => rfl) xw_248 rfl d_X6_needSign_1 (fun x1 _ => ?_)
  refine xa_step (xa_iconst d_X6_needSign_4 xq_i_3) ?_
  refine xa_if (xa_icmpne d_X6_needSign_5) (fun q2 => ?_) (fun q2 => ?_)
  · refine xa_step (xa_aload_n d_X6_needSign_8 rfl) ?_
    refine xa_getf xI xc_6 (by decide) (fun _ => rfl) xw_256 rfl d_X6_needSign_9 (fun x3 _ => ?_)
    refine xa_step (xa_iload_n d_X6_needSign_12 rfl) ?_
    refine xa_if (xa_icmpeq d_X6_needSign_13) (fun q4 => ?_) (fun q4 => ?_)
    · refine xa_step (xa_aload_n d_X6_needSign_21 rfl) ?_
      refine xa_callVV (as := []) (st := []) (M' := mX6_step) (d' := 2) rfl xw_676 xw_677 xw_678 xw_679 xw_162 xh_X6_step rfl ⟨Nat.le_of_ble_eq_true rfl, Nat.le_of_ble_eq_true rfl⟩ (Nat.le_of_ble_eq_true rfl) rfl d_X6_needSign_22 (fun r hr => ct_X6_step l G v0 h r hr) (fun r5 _ => ?_)
      refine xa_step (xa_iconst d_X6_needSign_25 xq_i_1) ?_
      exact xa_zret d_X6_needSign_26 rfl (Or.inr rfl) rfl
    · exact xa_weak (ls' := [some (xR v0), none]) ⟨rfl, trivial⟩ (g_X6_needSign_J16 l G v0 h)
  · exact xa_weak (ls' := [some (xR v0), none]) ⟨rfl, trivial⟩ (g_X6_needSign_J16 l G v0 h)
theorem ct_X6_needSign (l : Launch) (G : xa_C) (v0 v1 : Int) (h : xa_H) (r : Int × xa_H) (hr : f_X6_needSign v0 v1 h = some r) : xa_CT l G 3 mX6_needSign yX6_needSign [xR v0, xI v1] h (some (xI r.1), r.2) :=
  xa_met (by decide +kernel) rfl (fun q => by first | rfl | cases q) (Nat.le_of_ble_eq_true rfl) rfl (g_X6_needSign l G v0 v1 h) (by rw [hr]; rfl)
abbrev mX3_factCode : xa_M := (cX3_factCode, 2, (some (.int)), RX3, false)
theorem d_X3_factCode_0 : decode mX3_factCode.1 0 = .ok (.iload_n 1, 1) ∧ 0 + 1 = 1 := ⟨by decide +kernel, rfl⟩
theorem d_X3_factCode_1 : decode mX3_factCode.1 1 = .ok (.tableswitch 138 1 16 #[129, 138, 138, 126, 132, 138, 138, 138, 138, 138, 138, 79, 123, 93, 135, 108], 79) := by decide +kernel
theorem d_X3_factCode_130 : decode mX3_factCode.1 130 = .ok (.bipush (-4), 2) ∧ 130 + 2 = 132 := ⟨by decide +kernel, rfl⟩
theorem d_X3_factCode_132 : decode mX3_factCode.1 132 = .ok (.ireturn, 1) := by decide +kernel
theorem d_X3_factCode_139 : decode mX3_factCode.1 139 = .ok (.bipush (-22), 2) ∧ 139 + 2 = 141 := ⟨by decide +kernel, rfl⟩
theorem d_X3_factCode_141 : decode mX3_factCode.1 141 = .ok (.ireturn, 1) := by decide +kernel
theorem d_X3_factCode_127 : decode mX3_factCode.1 127 = .ok (.bipush (-3), 2) ∧ 127 + 2 = 129 := ⟨by decide +kernel, rfl⟩
theorem d_X3_factCode_129 : decode mX3_factCode.1 129 = .ok (.ireturn, 1) := by decide +kernel
theorem d_X3_factCode_133 : decode mX3_factCode.1 133 = .ok (.bipush (-6), 2) ∧ 133 + 2 = 135 := ⟨by decide +kernel, rfl⟩
theorem d_X3_factCode_135 : decode mX3_factCode.1 135 = .ok (.ireturn, 1) := by decide +kernel
theorem d_X3_factCode_80 : decode mX3_factCode.1 80 = .ok (.aload_n 0, 1) ∧ 80 + 1 = 81 := ⟨by decide +kernel, rfl⟩
theorem d_X3_factCode_81 : decode mX3_factCode.1 81 = .ok (.getfield 19, 3) ∧ 81 + 3 = 84 := ⟨by decide +kernel, rfl⟩
theorem d_X3_factCode_84 : decode mX3_factCode.1 84 = .ok (.ifCond .eq 8, 3) ∧ 84 + 3 = 87 ∧ ((84 : Nat) : Int) + 8 = ((92 : Nat) : Int) := ⟨by decide +kernel, rfl, rfl⟩
theorem d_X3_factCode_92 : decode mX3_factCode.1 92 = .ok (.iconst (-1), 1) ∧ 92 + 1 = 93 := ⟨by decide +kernel, rfl⟩
theorem d_X3_factCode_93 : decode mX3_factCode.1 93 = .ok (.ireturn, 1) := by decide +kernel
theorem d_X3_factCode_87 : decode mX3_factCode.1 87 = .ok (.bipush (-22), 2) ∧ 87 + 2 = 89 := ⟨by decide +kernel, rfl⟩
theorem d_X3_factCode_89 : decode mX3_factCode.1 89 = .ok (.goto 4, 3) ∧ ((89 : Nat) : Int) + 4 = ((93 : Nat) : Int) := ⟨by decide +kernel, rfl⟩
theorem d_X3_factCode_124 : decode mX3_factCode.1 124 = .ok (.bipush (-2), 2) ∧ 124 + 2 = 126 := ⟨by decide +kernel, rfl⟩
theorem d_X3_factCode_126 : decode mX3_factCode.1 126 = .ok (.ireturn, 1) := by decide +kernel
theorem d_X3_factCode_94 : decode mX3_factCode.1 94 = .ok (.aload_n 0, 1) ∧ 94 + 1 = 95 := ⟨by decide +kernel, rfl⟩
theorem d_X3_factCode_95 : decode mX3_factCode.1 95 = .ok (.getfield 19, 3) ∧ 95 + 3 = 98 := ⟨by decide +kernel, rfl⟩
theorem d_X3_factCode_98 : decode mX3_factCode.1 98 = .ok (.ifCond .eq 8, 3) ∧ 98 + 3 = 101 ∧ ((98 : Nat) : Int) + 8 = ((106 : Nat) : Int) := ⟨by decide +kernel, rfl, rfl⟩
theorem d_X3_factCode_106 : decode mX3_factCode.1 106 = .ok (.bipush (-5), 2) ∧ 106 + 2 = 108 := ⟨by decide +kernel, rfl⟩
theorem d_X3_factCode_108 : decode mX3_factCode.1 108 = .ok (.ireturn, 1) := by decide +kernel
theorem d_X3_factCode_101 : decode mX3_factCode.1 101 = .ok (.bipush (-22), 2) ∧ 101 + 2 = 103 := ⟨by decide +kernel, rfl⟩
theorem d_X3_factCode_103 : decode mX3_factCode.1 103 = .ok (.goto 5, 3) ∧ ((103 : Nat) : Int) + 5 = ((108 : Nat) : Int) := ⟨by decide +kernel, rfl⟩
theorem d_X3_factCode_136 : decode mX3_factCode.1 136 = .ok (.bipush (-7), 2) ∧ 136 + 2 = 138 := ⟨by decide +kernel, rfl⟩
theorem d_X3_factCode_138 : decode mX3_factCode.1 138 = .ok (.ireturn, 1) := by decide +kernel
theorem d_X3_factCode_109 : decode mX3_factCode.1 109 = .ok (.aload_n 0, 1) ∧ 109 + 1 = 110 := ⟨by decide +kernel, rfl⟩
theorem d_X3_factCode_110 : decode mX3_factCode.1 110 = .ok (.getfield 19, 3) ∧ 110 + 3 = 113 := ⟨by decide +kernel, rfl⟩
theorem d_X3_factCode_113 : decode mX3_factCode.1 113 = .ok (.ifCond .eq 8, 3) ∧ 113 + 3 = 116 ∧ ((113 : Nat) : Int) + 8 = ((121 : Nat) : Int) := ⟨by decide +kernel, rfl, rfl⟩
theorem d_X3_factCode_121 : decode mX3_factCode.1 121 = .ok (.bipush (-22), 2) ∧ 121 + 2 = 123 := ⟨by decide +kernel, rfl⟩
theorem d_X3_factCode_123 : decode mX3_factCode.1 123 = .ok (.ireturn, 1) := by decide +kernel
theorem d_X3_factCode_116 : decode mX3_factCode.1 116 = .ok (.bipush (-8), 2) ∧ 116 + 2 = 118 := ⟨by decide +kernel, rfl⟩
theorem d_X3_factCode_118 : decode mX3_factCode.1 118 = .ok (.goto 5, 3) ∧ ((118 : Nat) : Int) + 5 = ((123 : Nat) : Int) := ⟨by decide +kernel, rfl⟩
set_option maxRecDepth 100000 in
set_option maxHeartbeats 4000000 in
theorem g_X3_factCode (l : Launch) (G : xa_C) (v0 v1 : Int) (h : xa_H) : xa_G l G 2 mX3_factCode (f_X3_factCode v0 v1 h) (fun r => some (some (xI r), h) : Int → Option xa_O) 0 [some (xR v0), some (xI v1)] [] h := by
  unfold f_X3_factCode
  refine xa_step (xa_iload_n d_X3_factCode_0 rfl) ?_
  refine xa_case (fun q1 => ?_) (fun q1 => ?_)
  · refine xa_step (xa_tabIn (k := 1) d_X3_factCode_1 q1 (by decide) (by decide) rfl rfl) ?_
    refine xa_step (xa_bipush d_X3_factCode_130 xq_b_m4) ?_
    exact xa_iret d_X3_factCode_132 rfl rfl
  · refine xa_case (fun q2 => ?_) (fun q2 => ?_)
    · refine xa_step (xa_tabIn (k := 2) d_X3_factCode_1 q2 (by decide) (by decide) rfl rfl) ?_
      refine xa_step (xa_bipush d_X3_factCode_139 xq_b_m22) ?_
      exact xa_iret d_X3_factCode_141 rfl rfl
    · refine xa_case (fun q3 => ?_) (fun q3 => ?_)
      · refine xa_step (xa_tabIn (k := 3) d_X3_factCode_1 q3 (by decide) (by decide) rfl rfl) ?_
        refine xa_step (xa_bipush d_X3_factCode_139 xq_b_m22) ?_
        exact xa_iret d_X3_factCode_141 rfl rfl
      · refine xa_case (fun q4 => ?_) (fun q4 => ?_)
        · refine xa_step (xa_tabIn (k := 4) d_X3_factCode_1 q4 (by decide) (by decide) rfl rfl) ?_
          refine xa_step (xa_bipush d_X3_factCode_127 xq_b_m3) ?_
          exact xa_iret d_X3_factCode_129 rfl rfl
        · refine xa_case (fun q5 => ?_) (fun q5 => ?_)
          · refine xa_step (xa_tabIn (k := 5) d_X3_factCode_1 q5 (by decide) (by decide) rfl rfl) ?_
            refine xa_step (xa_bipush d_X3_factCode_133 xq_b_m6) ?_
            exact xa_iret d_X3_factCode_135 rfl rfl
          · refine xa_case (fun q6 => ?_) (fun q6 => ?_)
            · refine xa_step (xa_tabIn (k := 6) d_X3_factCode_1 q6 (by decide) (by decide) rfl rfl) ?_
              refine xa_step (xa_bipush d_X3_factCode_139 xq_b_m22) ?_
              exact xa_iret d_X3_factCode_141 rfl rfl
            · refine xa_case (fun q7 => ?_) (fun q7 => ?_)
              · refine xa_step (xa_tabIn (k := 7) d_X3_factCode_1 q7 (by decide) (by decide) rfl rfl) ?_
                refine xa_step (xa_bipush d_X3_factCode_139 xq_b_m22) ?_
                exact xa_iret d_X3_factCode_141 rfl rfl
              · refine xa_case (fun q8 => ?_) (fun q8 => ?_)
                · refine xa_step (xa_tabIn (k := 8) d_X3_factCode_1 q8 (by decide) (by decide) rfl rfl) ?_
                  refine xa_step (xa_bipush d_X3_factCode_139 xq_b_m22) ?_
                  exact xa_iret d_X3_factCode_141 rfl rfl
                · refine xa_case (fun q9 => ?_) (fun q9 => ?_)
                  · refine xa_step (xa_tabIn (k := 9) d_X3_factCode_1 q9 (by decide) (by decide) rfl rfl) ?_
                    refine xa_step (xa_bipush d_X3_factCode_139 xq_b_m22) ?_
                    exact xa_iret d_X3_factCode_141 rfl rfl
                  · refine xa_case (fun q10 => ?_) (fun q10 => ?_)
                    · refine xa_step (xa_tabIn (k := 10) d_X3_factCode_1 q10 (by decide) (by decide) rfl rfl) ?_
                      refine xa_step (xa_bipush d_X3_factCode_139 xq_b_m22) ?_
                      exact xa_iret d_X3_factCode_141 rfl rfl
                    · refine xa_case (fun q11 => ?_) (fun q11 => ?_)
                      · refine xa_step (xa_tabIn (k := 11) d_X3_factCode_1 q11 (by decide) (by decide) rfl rfl) ?_
                        refine xa_step (xa_bipush d_X3_factCode_139 xq_b_m22) ?_
                        exact xa_iret d_X3_factCode_141 rfl rfl
                      · refine xa_case (fun q12 => ?_) (fun q12 => ?_)
                        · refine xa_step (xa_tabIn (k := 12) d_X3_factCode_1 q12 (by decide) (by decide) rfl rfl) ?_
                          refine xa_step (xa_aload_n d_X3_factCode_80 rfl) ?_
                          refine xa_getf xI xc_3 (by decide) (fun _ => rfl) xw_301 rfl d_X3_factCode_81 (fun x13 _ => ?_)
                          refine xa_if (xa_ifeq d_X3_factCode_84) (fun q14 => ?_) (fun q14 => ?_)
                          · refine xa_step (xa_iconst d_X3_factCode_92 xq_i_m1) ?_
                            exact xa_iret d_X3_factCode_93 rfl rfl
                          · refine xa_step (xa_bipush d_X3_factCode_87 xq_b_m22) ?_
                            refine xa_step (xa_goto d_X3_factCode_89) ?_
                            exact xa_iret d_X3_factCode_93 rfl rfl
                        · refine xa_case (fun q15 => ?_) (fun q15 => ?_)
                          · refine xa_step (xa_tabIn (k := 13) d_X3_factCode_1 q15 (by decide) (by decide) rfl rfl) ?_
                            refine xa_step (xa_bipush d_X3_factCode_124 xq_b_m2) ?_
                            exact xa_iret d_X3_factCode_126 rfl rfl
                          · refine xa_case (fun q16 => ?_) (fun q16 => ?_)
                            · refine xa_step (xa_tabIn (k := 14) d_X3_factCode_1 q16 (by decide) (by decide) rfl rfl) ?_
                              refine xa_step (xa_aload_n d_X3_factCode_94 rfl) ?_
                              refine xa_getf xI xc_3 (by decide) (fun _ => rfl) xw_301 rfl d_X3_factCode_95 (fun x17 _ => ?_)
                              refine xa_if (xa_ifeq d_X3_factCode_98) (fun q18 => ?_) (fun q18 => ?_)
                              · refine xa_step (xa_bipush d_X3_factCode_106 xq_b_m5) ?_
                                exact xa_iret d_X3_factCode_108 rfl rfl
                              · refine xa_step (xa_bipush d_X3_factCode_101 xq_b_m22) ?_
                                refine xa_step (xa_goto d_X3_factCode_103) ?_
                                exact xa_iret d_X3_factCode_108 rfl rfl
                            · refine xa_case (fun q19 => ?_) (fun q19 => ?_)
                              · refine xa_step (xa_tabIn (k := 15) d_X3_factCode_1 q19 (by decide) (by decide) rfl rfl) ?_
                                refine xa_step (xa_bipush d_X3_factCode_136 xq_b_m7) ?_
                                exact xa_iret d_X3_factCode_138 rfl rfl
                              · refine xa_case (fun q20 => ?_) (fun q20 => ?_)
                                · refine xa_step (xa_tabIn (k := 16) d_X3_factCode_1 q20 (by decide) (by decide) rfl rfl) ?_
                                  refine xa_step (xa_aload_n d_X3_factCode_109 rfl) ?_
                                  refine xa_getf xI xc_3 (by decide) (fun _ => rfl) xw_301 rfl d_X3_factCode_110 (fun x21 _ => ?_)
                                  refine xa_if (xa_ifeq d_X3_factCode_113) (fun q22 => ?_) (fun q22 => ?_)
                                  · refine xa_step (xa_bipush d_X3_factCode_121 xq_b_m22) ?_
                                    exact xa_iret d_X3_factCode_123 rfl rfl
                                  · refine xa_step (xa_bipush d_X3_factCode_116 xq_b_m8) ?_
                                    refine xa_step (xa_goto d_X3_factCode_118) ?_
                                    exact xa_iret d_X3_factCode_123 rfl rfl
                                · refine xa_step (xa_tabOut d_X3_factCode_1 (by omega) rfl) ?_
                                  refine xa_step (xa_bipush d_X3_factCode_139 xq_b_m22) ?_
                                  exact xa_iret d_X3_factCode_141 rfl rfl
theorem ct_X3_factCode (l : Launch) (G : xa_C) (v0 v1 : Int) (h : xa_H) (r : Int) (hr : f_X3_factCode v0 v1 h = some r) : xa_CT l G 2 mX3_factCode yX3_factCode [xR v0, xI v1] h (some (xI r), h) :=
  xa_met (by decide +kernel) rfl (fun q => by first | rfl | cases q) (Nat.le_of_ble_eq_true rfl) rfl (g_X3_factCode l G v0 v1 h) (by rw [hr]; rfl)
abbrev mX6_needNumber : xa_M := (cX6_needNumber, 3, (some (.int)), RX6, false)
theorem d_X6_needNumber_0 : decode mX6_needNumber.1 0 = .ok (.aload_n 0, 1) ∧ 0 + 1 = 1 := ⟨by decide +kernel, rfl⟩
theorem d_X6_needNumber_1 : decode mX6_needNumber.1 1 = .ok (.getfield 53, 3) ∧ 1 + 3 = 4 := ⟨by decide +kernel, rfl⟩
theorem d_X6_needNumber_4 : decode mX6_needNumber.1 4 = .ok (.istore_n 2, 1) ∧ 4 + 1 = 5 := ⟨by decide +kernel, rfl⟩
theorem d_X6_needNumber_5 : decode mX6_needNumber.1 5 = .ok (.aload_n 0, 1) ∧ 5 + 1 = 6 := ⟨by decide +kernel, rfl⟩
theorem d_X6_needNumber_6 : decode mX6_needNumber.1 6 = .ok (.getfield 41, 3) ∧ 6 + 3 = 9 := ⟨by decide +kernel, rfl⟩
theorem d_X6_needNumber_9 : decode mX6_needNumber.1 9 = .ok (.iconst 2, 1) ∧ 9 + 1 = 10 := ⟨by decide +kernel, rfl⟩
theorem d_X6_needNumber_10 : decode mX6_needNumber.1 10 = .ok (.if_icmp .eq 10, 3) ∧ 10 + 3 = 13 ∧ ((10 : Nat) : Int) + 10 = ((20 : Nat) : Int) := ⟨by decide +kernel, rfl, rfl⟩
theorem d_X6_needNumber_20 : decode mX6_needNumber.1 20 = .ok (.aload_n 0, 1) ∧ 20 + 1 = 21 := ⟨by decide +kernel, rfl⟩
theorem d_X6_needNumber_21 : decode mX6_needNumber.1 21 = .ok (.getfield 44, 3) ∧ 21 + 3 = 24 := ⟨by decide +kernel, rfl⟩
theorem d_X6_needNumber_24 : decode mX6_needNumber.1 24 = .ok (.aload_n 0, 1) ∧ 24 + 1 = 25 := ⟨by decide +kernel, rfl⟩
theorem d_X6_needNumber_25 : decode mX6_needNumber.1 25 = .ok (.getfield 50, 3) ∧ 25 + 3 = 28 := ⟨by decide +kernel, rfl⟩
theorem d_X6_needNumber_28 : decode mX6_needNumber.1 28 = .ok (.isub, 1) ∧ 28 + 1 = 29 := ⟨by decide +kernel, rfl⟩
theorem d_X6_needNumber_29 : decode mX6_needNumber.1 29 = .ok (.iconst 4, 1) ∧ 29 + 1 = 30 := ⟨by decide +kernel, rfl⟩
theorem d_X6_needNumber_30 : decode mX6_needNumber.1 30 = .ok (.if_icmp .le 17, 3) ∧ 30 + 3 = 33 ∧ ((30 : Nat) : Int) + 17 = ((47 : Nat) : Int) := ⟨by decide +kernel, rfl, rfl⟩
theorem d_X6_needNumber_33 : decode mX6_needNumber.1 33 = .ok (.aload_n 0, 1) ∧ 33 + 1 = 34 := ⟨by decide +kernel, rfl⟩
theorem d_X6_needNumber_34 : decode mX6_needNumber.1 34 = .ok (.iconst 1, 1) ∧ 34 + 1 = 35 := ⟨by decide +kernel, rfl⟩
theorem d_X6_needNumber_35 : decode mX6_needNumber.1 35 = .ok (.aload_n 0, 1) ∧ 35 + 1 = 36 := ⟨by decide +kernel, rfl⟩
theorem d_X6_needNumber_36 : decode mX6_needNumber.1 36 = .ok (.getfield 50, 3) ∧ 36 + 3 = 39 := ⟨by decide +kernel, rfl⟩
theorem d_X6_needNumber_39 : decode mX6_needNumber.1 39 = .ok (.iconst 4, 1) ∧ 39 + 1 = 40 := ⟨by decide +kernel, rfl⟩
theorem d_X6_needNumber_40 : decode mX6_needNumber.1 40 = .ok (.iadd, 1) ∧ 40 + 1 = 41 := ⟨by decide +kernel, rfl⟩
theorem d_X6_needNumber_41 : decode mX6_needNumber.1 41 = .ok (.invokevirtual 63, 3) ∧ 41 + 3 = 44 := ⟨by decide +kernel, rfl⟩
theorem d_X6_needNumber_44 : decode mX6_needNumber.1 44 = .ok (.pop, 1) ∧ 44 + 1 = 45 := ⟨by decide +kernel, rfl⟩
theorem d_X6_needNumber_45 : decode mX6_needNumber.1 45 = .ok (.iconst (-1), 1) ∧ 45 + 1 = 46 := ⟨by decide +kernel, rfl⟩
theorem d_X6_needNumber_46 : decode mX6_needNumber.1 46 = .ok (.ireturn, 1) := by decide +kernel
theorem d_X6_needNumber_47 : decode mX6_needNumber.1 47 = .ok (.iload_n 2, 1) ∧ 47 + 1 = 48 := ⟨by decide +kernel, rfl⟩
theorem d_X6_needNumber_48 : decode mX6_needNumber.1 48 = .ok (.iload_n 1, 1) ∧ 48 + 1 = 49 := ⟨by decide +kernel, rfl⟩
theorem d_X6_needNumber_49 : decode mX6_needNumber.1 49 = .ok (.if_icmp .le 15, 3) ∧ 49 + 3 = 52 ∧ ((49 : Nat) : Int) + 15 = ((64 : Nat) : Int) := ⟨by decide +kernel, rfl, rfl⟩
theorem d_X6_needNumber_52 : decode mX6_needNumber.1 52 = .ok (.aload_n 0, 1) ∧ 52 + 1 = 53 := ⟨by decide +kernel, rfl⟩
theorem d_X6_needNumber_53 : decode mX6_needNumber.1 53 = .ok (.iconst 2, 1) ∧ 53 + 1 = 54 := ⟨by decide +kernel, rfl⟩
theorem d_X6_needNumber_54 : decode mX6_needNumber.1 54 = .ok (.aload_n 0, 1) ∧ 54 + 1 = 55 := ⟨by decide +kernel, rfl⟩
theorem d_X6_needNumber_55 : decode mX6_needNumber.1 55 = .ok (.getfield 50, 3) ∧ 55 + 3 = 58 := ⟨by decide +kernel, rfl⟩
theorem d_X6_needNumber_58 : decode mX6_needNumber.1 58 = .ok (.invokevirtual 63, 3) ∧ 58 + 3 = 61 := ⟨by decide +kernel, rfl⟩
theorem d_X6_needNumber_61 : decode mX6_needNumber.1 61 = .ok (.pop, 1) ∧ 61 + 1 = 62 := ⟨by decide +kernel, rfl⟩
theorem d_X6_needNumber_62 : decode mX6_needNumber.1 62 = .ok (.iconst (-1), 1) ∧ 62 + 1 = 63 := ⟨by decide +kernel, rfl⟩
theorem d_X6_needNumber_63 : decode mX6_needNumber.1 63 = .ok (.ireturn, 1) := by decide +kernel
theorem d_X6_needNumber_64 : decode mX6_needNumber.1 64 = .ok (.aload_n 0, 1) ∧ 64 + 1 = 65 := ⟨by decide +kernel, rfl⟩
theorem d_X6_needNumber_65 : decode mX6_needNumber.1 65 = .ok (.invokevirtual 47, 3) ∧ 65 + 3 = 68 := ⟨by decide +kernel, rfl⟩
theorem d_X6_needNumber_68 : decode mX6_needNumber.1 68 = .ok (.iload_n 2, 1) ∧ 68 + 1 = 69 := ⟨by decide +kernel, rfl⟩
theorem d_X6_needNumber_69 : decode mX6_needNumber.1 69 = .ok (.ireturn, 1) := by decide +kernel
theorem d_X6_needNumber_13 : decode mX6_needNumber.1 13 = .ok (.aload_n 0, 1) ∧ 13 + 1 = 14 := ⟨by decide +kernel, rfl⟩
theorem d_X6_needNumber_14 : decode mX6_needNumber.1 14 = .ok (.invokevirtual 59, 3) ∧ 14 + 3 = 17 := ⟨by decide +kernel, rfl⟩
theorem d_X6_needNumber_17 : decode mX6_needNumber.1 17 = .ok (.pop, 1) ∧ 17 + 1 = 18 := ⟨by decide +kernel, rfl⟩
theorem d_X6_needNumber_18 : decode mX6_needNumber.1 18 = .ok (.iconst (-1), 1) ∧ 18 + 1 = 19 := ⟨by decide +kernel, rfl⟩
theorem d_X6_needNumber_19 : decode mX6_needNumber.1 19 = .ok (.ireturn, 1) := by decide +kernel
set_option maxRecDepth 100000 in
set_option maxHeartbeats 4000000 in
theorem g_X6_needNumber (l : Launch) (G : xa_C) (v0 v1 : Int) (h : xa_H) : xa_G l G 3 mX6_needNumber (f_X6_needNumber v0 v1 h) (fun r => some (some (xI r.1), r.2) : (Int × xa_H) → Option xa_O) 0 [some (xR v0), some (xI v1), none] [] h := by
  unfold f_X6_needNumber
  refine xa_step (xa_aload_n d_X6_needNumber_0 rfl) ?_
  refine xa_getf xI xc_6 (by decide) (fun _ => rfl) xw_256 rfl d_X6_needNumber_1 (fun x1 _ => ?_)
  refine xa_step (xa_istore_n (ls' := [some (xR v0), some (xI v1), some (xI x1)]) d_X6_needNumber_4 (by decide) rfl) ?_
  refine xa_step (xa_aload_n d_X6_needNumber_5 rfl) ?_
  refine xa_getf xI xc_6 (by decide) (fun _ => rfl) xw_248 rfl d_X6_needNumber_6 (fun x2 _ => ?_)
  refine xa_step (xa_iconst d_X6_needNumber_9 xq_i_2) ?_
  refine xa_if (xa_icmpeq d_X6_needNumber_10) (fun q3 => ?_) (fun q3 => ?_)
  · refine xa_step (xa_aload_n d_X6_needNumber_20 rfl) ?_
    refine xa_getf xI xc_6 (by decide) (fun _ => rfl) xw_255 rfl d_X6_needNumber_21 (fun x4 _ => ?_)
    refine xa_step (xa_aload_n d_X6_needNumber_24 rfl) ?_
    refine xa_getf xI xc_6 (by decide) (fun _ => rfl) xw_252 rfl d_X6_needNumber_25 (fun x5 _ => ?_)
    refine xa_step (xa_isub d_X6_needNumber_28) ?_
    refine xa_step (xa_iconst d_X6_needNumber_29 xq_i_4) ?_
    refine xa_if (xa_icmple d_X6_needNumber_30) (fun q6 => ?_) (fun q6 => ?_)
    · refine xa_step (xa_aload_n d_X6_needNumber_33 rfl) ?_
      refine xa_step (xa_iconst d_X6_needNumber_34 xq_i_1) ?_
      refine xa_step (xa_aload_n d_X6_needNumber_35 rfl) ?_
      refine xa_getf xI xc_6 (by decide) (fun _ => rfl) xw_252 rfl d_X6_needNumber_36 (fun x7 _ => ?_)
      refine xa_step (xa_iconst d_X6_needNumber_39 xq_i_4) ?_
      refine xa_step (xa_iadd d_X6_needNumber_40) ?_
      refine xa_callVI (as := [xI 1, xI (w32 (x7 + 4))]) (st := []) (M' := mX6_refuse) (d' := 2) rfl xw_709 xw_685 xw_686 xw_687 xw_162 xh_X6_refuse rfl ⟨Nat.le_of_ble_eq_true rfl, Nat.le_of_ble_eq_true rfl⟩ (Nat.le_of_ble_eq_true rfl) rfl d_X6_needNumber_41 (fun r hr => ct_X6_refuse l G v0 1 (w32 (x7 + 4)) h r hr) (fun r8 _ => ?_)
      refine xa_step (xa_pop d_X6_needNumber_44) ?_
      refine xa_step (xa_iconst d_X6_needNumber_45 xq_i_m1) ?_
      exact xa_iret d_X6_needNumber_46 rfl rfl
    · refine xa_step (xa_iload_n d_X6_needNumber_47 rfl) ?_
      refine xa_step (xa_iload_n d_X6_needNumber_48 rfl) ?_
      refine xa_if (xa_icmple d_X6_needNumber_49) (fun q9 => ?_) (fun q9 => ?_)
      · refine xa_step (xa_aload_n d_X6_needNumber_52 rfl) ?_
        refine xa_step (xa_iconst d_X6_needNumber_53 xq_i_2) ?_
        refine xa_step (xa_aload_n d_X6_needNumber_54 rfl) ?_
        refine xa_getf xI xc_6 (by decide) (fun _ => rfl) xw_252 rfl d_X6_needNumber_55 (fun x10 _ => ?_)
        refine xa_callVI (as := [xI 2, xI x10]) (st := []) (M' := mX6_refuse) (d' := 2) rfl xw_709 xw_685 xw_686 xw_687 xw_162 xh_X6_refuse rfl ⟨Nat.le_of_ble_eq_true rfl, Nat.le_of_ble_eq_true rfl⟩ (Nat.le_of_ble_eq_true rfl) rfl d_X6_needNumber_58 (fun r hr => ct_X6_refuse l G v0 2 x10 h r hr) (fun r11 _ => ?_)
        refine xa_step (xa_pop d_X6_needNumber_61) ?_
        refine xa_step (xa_iconst d_X6_needNumber_62 xq_i_m1) ?_
        exact xa_iret d_X6_needNumber_63 rfl rfl
      · refine xa_step (xa_aload_n d_X6_needNumber_64 rfl) ?_
        refine xa_callVV (as := []) (st := []) (M' := mX6_step) (d' := 2) rfl xw_676 xw_677 xw_678 xw_679 xw_162 xh_X6_step rfl ⟨Nat.le_of_ble_eq_true rfl, Nat.le_of_ble_eq_true rfl⟩ (Nat.le_of_ble_eq_true rfl) rfl d_X6_needNumber_65 (fun r hr => ct_X6_step l G v0 h r hr) (fun r12 _ => ?_)
        refine xa_step (xa_iload_n d_X6_needNumber_68 rfl) ?_
        exact xa_iret d_X6_needNumber_69 rfl rfl
  · refine xa_step (xa_aload_n d_X6_needNumber_13 rfl) ?_
    refine xa_callVI (as := []) (st := []) (M' := mX6_stray) (d' := 2) rfl xw_705 xw_706 xw_707 xw_708 xw_162 xh_X6_stray rfl ⟨Nat.le_of_ble_eq_true rfl, Nat.le_of_ble_eq_true rfl⟩ (Nat.le_of_ble_eq_true rfl) rfl d_X6_needNumber_14 (fun r hr => ct_X6_stray l G v0 h r hr) (fun r13 _ => ?_)
    refine xa_step (xa_pop d_X6_needNumber_17) ?_
    refine xa_step (xa_iconst d_X6_needNumber_18 xq_i_m1) ?_
    exact xa_iret d_X6_needNumber_19 rfl rfl
theorem ct_X6_needNumber (l : Launch) (G : xa_C) (v0 v1 : Int) (h : xa_H) (r : Int × xa_H) (hr : f_X6_needNumber v0 v1 h = some r) : xa_CT l G 3 mX6_needNumber yX6_needNumber [xR v0, xI v1] h (some (xI r.1), r.2) :=
  xa_met (by decide +kernel) rfl (fun q => by first | rfl | cases q) (Nat.le_of_ble_eq_true rfl) rfl (g_X6_needNumber l G v0 v1 h) (by rw [hr]; rfl)
abbrev mX3_test : xa_M := (cX3_test, 4, (some (.boolean)), RX3, false)
abbrev mX3_both : xa_M := (cX3_both, 4, (some (.boolean)), RX3, false)
abbrev mX3_fact : xa_M := (cX3_fact, 3, (some (.boolean)), RX3, false)
abbrev mX3_sum : xa_M := (cX3_sum, 5, (some (.boolean)), RX3, false)
abbrev mX3_product : xa_M := (cX3_product, 5, (some (.boolean)), RX3, false)
abbrev mX3_part : xa_M := (cX3_part, 3, (some (.boolean)), RX3, false)
abbrev mX3_pair : xa_M := (cX3_pair, 2, (some (.boolean)), RX3, false)
def xa_RC (l : Launch) (G : xa_C) (d k : Nat) (a b : Int) (h : xa_H) (r : Int × xa_H) : Prop := match k with
  | 0 => xa_CT l G d mX3_test yX3_test [xR a, xI b] h (some (xI r.1), r.2)
  | 1 => xa_CT l G d mX3_both yX3_both [xR a, xI b] h (some (xI r.1), r.2)
  | 2 => xa_CT l G d mX3_fact yX3_fact [xR a, xI b] h (some (xI r.1), r.2)
  | 3 => xa_CT l G d mX3_sum yX3_sum [xR a, xI b] h (some (xI r.1), r.2)
  | 4 => xa_CT l G d mX3_product yX3_product [xR a, xI b] h (some (xI r.1), r.2)
  | 5 => xa_CT l G d mX3_part yX3_part [xR a, xI b] h (some (xI r.1), r.2)
  | 6 => xa_CT l G d mX3_pair yX3_pair [xR a, xI b] h (some (xI r.1), r.2)
  | _ => True
theorem d_X3_test_0 : decode mX3_test.1 0 = .ok (.aload_n 0, 1) ∧ 0 + 1 = 1 := ⟨by decide +kernel, rfl⟩
theorem d_X3_test_1 : decode mX3_test.1 1 = .ok (.iload_n 1, 1) ∧ 1 + 1 = 2 := ⟨by decide +kernel, rfl⟩
theorem d_X3_test_2 : decode mX3_test.1 2 = .ok (.invokevirtual 50, 3) ∧ 2 + 3 = 5 := ⟨by decide +kernel, rfl⟩
theorem d_X3_test_5 : decode mX3_test.1 5 = .ok (.istore_n 2, 1) ∧ 5 + 1 = 6 := ⟨by decide +kernel, rfl⟩
theorem d_X3_test_6 : decode mX3_test.1 6 = .ok (.iconst 0, 1) ∧ 6 + 1 = 7 := ⟨by decide +kernel, rfl⟩
theorem d_X3_test_7 : decode mX3_test.1 7 = .ok (.istore_n 3, 1) ∧ 7 + 1 = 8 := ⟨by decide +kernel, rfl⟩
theorem d_X3_test_8 : decode mX3_test.1 8 = .ok (.iload_n 2, 1) ∧ 8 + 1 = 9 := ⟨by decide +kernel, rfl⟩
theorem d_X3_test_9 : decode mX3_test.1 9 = .ok (.ifCond .eq 58, 3) ∧ 9 + 3 = 12 ∧ ((9 : Nat) : Int) + 58 = ((67 : Nat) : Int) := ⟨by decide +kernel, rfl, rfl⟩
theorem d_X3_test_12 : decode mX3_test.1 12 = .ok (.aload_n 0, 1) ∧ 12 + 1 = 13 := ⟨by decide +kernel, rfl⟩
theorem d_X3_test_13 : decode mX3_test.1 13 = .ok (.getfield 15, 3) ∧ 13 + 3 = 16 := ⟨by decide +kernel, rfl⟩
theorem d_X3_test_16 : decode mX3_test.1 16 = .ok (.getfield 53, 3) ∧ 16 + 3 = 19 := ⟨by decide +kernel, rfl⟩
theorem d_X3_test_19 : decode mX3_test.1 19 = .ok (.bipush 17, 2) ∧ 19 + 2 = 21 := ⟨by decide +kernel, rfl⟩
theorem d_X3_test_21 : decode mX3_test.1 21 = .ok (.if_icmp .ne 46, 3) ∧ 21 + 3 = 24 ∧ ((21 : Nat) : Int) + 46 = ((67 : Nat) : Int) := ⟨by decide +kernel, rfl, rfl⟩
theorem d_X3_test_24 : decode mX3_test.1 24 = .ok (.iload_n 3, 1) ∧ 24 + 1 = 25 := ⟨by decide +kernel, rfl⟩
theorem d_X3_test_25 : decode mX3_test.1 25 = .ok (.sipush 1600, 3) ∧ 25 + 3 = 28 := ⟨by decide +kernel, rfl⟩
theorem d_X3_test_28 : decode mX3_test.1 28 = .ok (.if_icmp .ge 39, 3) ∧ 28 + 3 = 31 ∧ ((28 : Nat) : Int) + 39 = ((67 : Nat) : Int) := ⟨by decide +kernel, rfl, rfl⟩
theorem d_X3_test_31 : decode mX3_test.1 31 = .ok (.aload_n 0, 1) ∧ 31 + 1 = 32 := ⟨by decide +kernel, rfl⟩
theorem d_X3_test_32 : decode mX3_test.1 32 = .ok (.getfield 15, 3) ∧ 32 + 3 = 35 := ⟨by decide +kernel, rfl⟩
theorem d_X3_test_35 : decode mX3_test.1 35 = .ok (.invokevirtual 27, 3) ∧ 35 + 3 = 38 := ⟨by decide +kernel, rfl⟩
theorem d_X3_test_38 : decode mX3_test.1 38 = .ok (.aload_n 0, 1) ∧ 38 + 1 = 39 := ⟨by decide +kernel, rfl⟩
theorem d_X3_test_39 : decode mX3_test.1 39 = .ok (.iload_n 1, 1) ∧ 39 + 1 = 40 := ⟨by decide +kernel, rfl⟩
theorem d_X3_test_40 : decode mX3_test.1 40 = .ok (.invokevirtual 50, 3) ∧ 40 + 3 = 43 := ⟨by decide +kernel, rfl⟩
theorem d_X3_test_43 : decode mX3_test.1 43 = .ok (.ifCond .eq 16, 3) ∧ 43 + 3 = 46 ∧ ((43 : Nat) : Int) + 16 = ((59 : Nat) : Int) := ⟨by decide +kernel, rfl, rfl⟩
theorem d_X3_test_59 : decode mX3_test.1 59 = .ok (.iconst 0, 1) ∧ 59 + 1 = 60 := ⟨by decide +kernel, rfl⟩
theorem d_X3_test_60 : decode mX3_test.1 60 = .ok (.istore_n 2, 1) ∧ 60 + 1 = 61 := ⟨by decide +kernel, rfl⟩
theorem d_X3_test_61 : decode mX3_test.1 61 = .ok (.iinc 3 1, 3) ∧ 61 + 3 = 64 := ⟨by decide +kernel, rfl⟩
theorem d_X3_test_64 : decode mX3_test.1 64 = .ok (.goto (-56), 3) ∧ ((64 : Nat) : Int) + (-56) = ((8 : Nat) : Int) := ⟨by decide +kernel, rfl⟩
theorem d_X3_test_46 : decode mX3_test.1 46 = .ok (.aload_n 0, 1) ∧ 46 + 1 = 47 := ⟨by decide +kernel, rfl⟩
theorem d_X3_test_47 : decode mX3_test.1 47 = .ok (.bipush (-21), 2) ∧ 47 + 2 = 49 := ⟨by decide +kernel, rfl⟩
theorem d_X3_test_49 : decode mX3_test.1 49 = .ok (.invokevirtual 56, 3) ∧ 49 + 3 = 52 := ⟨by decide +kernel, rfl⟩
theorem d_X3_test_52 : decode mX3_test.1 52 = .ok (.ifCond .eq 7, 3) ∧ 52 + 3 = 55 ∧ ((52 : Nat) : Int) + 7 = ((59 : Nat) : Int) := ⟨by decide +kernel, rfl, rfl⟩
theorem d_X3_test_55 : decode mX3_test.1 55 = .ok (.iconst 1, 1) ∧ 55 + 1 = 56 := ⟨by decide +kernel, rfl⟩
theorem d_X3_test_56 : decode mX3_test.1 56 = .ok (.goto 4, 3) ∧ ((56 : Nat) : Int) + 4 = ((60 : Nat) : Int) := ⟨by decide +kernel, rfl⟩
set_option maxRecDepth 100000 in
set_option maxHeartbeats 4000000 in
theorem g_X3_test_L8 (l : Launch) (G : xa_C) (n : Nat) (rc : Nat → Int → Int → xa_H → Option (Int × xa_H)) (hrc : ∀ (k : Nat) (a b : Int) (h : xa_H) (r : Int × xa_H), rc k a b h = some r → xa_RC l G (4 + n) k a b h r) (c0 c1 : Int) (K : (Int × Int × xa_H) ⊕ (Int × xa_H) → Option xa_O) (hb : ∀ (v2 : Int) (v3 : Int) (h : xa_H), xa_G l G (5 + n) mX3_test (some (Sum.inl ((v2, v3, h)))) K 8 [some (xR c0), some (xI c1), some (xI v2), some (xI v3)] [] h) (hx : ∀ (v2 : Int) (h : xa_H), xa_G l G (5 + n) mX3_test (some (Sum.inr ((v2, h)))) K 67 [none, none, some (xI v2), none] [] h) : ∀ (v2 : Int) (v3 : Int) (h : xa_H), xa_G l G (5 + n) mX3_test (f_X3_test_L8 rc c0 c1 v2 v3 h) K 8 [some (xR c0), some (xI c1), some (xI v2), some (xI v3)] [] h := by
  intro v2 v3 h
  unfold f_X3_test_L8
  refine xa_step (xa_iload_n d_X3_test_8 rfl) ?_
  refine xa_if (xa_ifeq d_X3_test_9) (fun q2 => ?_) (fun q2 => ?_)
  · exact xa_weak (ls' := [none, none, some (xI v2), none]) ⟨rfl, trivial⟩ (hx v2 h)
  · refine xa_step (xa_aload_n d_X3_test_12 rfl) ?_
    refine xa_getf xR xc_3 (by decide) (fun _ => rfl) xw_298 rfl d_X3_test_13 (fun x3 _ => ?_)
    refine xa_getf xI xc_6 (by decide) (fun _ => rfl) xw_259 rfl d_X3_test_16 (fun x4 _ => ?_)
    refine xa_step (xa_bipush d_X3_test_19 xq_b_17) ?_
    refine xa_if (xa_icmpne d_X3_test_21) (fun q5 => ?_) (fun q5 => ?_)
    · refine xa_step (xa_iload_n d_X3_test_24 rfl) ?_
      refine xa_step (xa_sipush d_X3_test_25 xq_s_1600) ?_
      refine xa_if (xa_icmpge d_X3_test_28) (fun q6 => ?_) (fun q6 => ?_)
      · refine xa_step (xa_aload_n d_X3_test_31 rfl) ?_
        refine xa_getf xR xc_3 (by decide) (fun _ => rfl) xw_298 rfl d_X3_test_32 (fun x7 _ => ?_)
        refine xa_callVV (as := []) (st := []) (M' := mX6_step) (d' := 2) rfl xw_778 xw_677 xw_678 xw_679 xw_162 xh_X6_step rfl ⟨by omega, by show 8 + (5 + 11) + 64 * (2) ≤ 64 * (5 + n); omega⟩ (Nat.le_of_ble_eq_true rfl) rfl d_X3_test_35 (fun r hr => ct_X6_step l G x7 h r hr) (fun r8 _ => ?_)
        refine xa_step (xa_aload_n d_X3_test_38 rfl) ?_
        refine xa_step (xa_iload_n d_X3_test_39 rfl) ?_
        refine xa_callVI (as := [xI c1]) (st := []) (M' := mX3_both) (d' := 4 + n) rfl xw_783 xw_785 xw_17 xw_786 xw_167 xh_X3_both rfl ⟨by omega, by show 8 + (4 + 11) + 64 * (4 + n) ≤ 64 * (5 + n); omega⟩ (Nat.le_of_ble_eq_true rfl) rfl d_X3_test_40 (fun r hr => hrc 1 c0 c1 r8 r hr) (fun r9 _ => ?_)
        refine xa_if (xa_ifeq d_X3_test_43) (fun q10 => ?_) (fun q10 => ?_)
        · refine xa_step (xa_iconst d_X3_test_59 xq_i_0) ?_
          refine xa_step (xa_istore_n (ls' := [some (xR c0), some (xI c1), some (xI 0), some (xI v3)]) d_X3_test_60 (by decide) rfl) ?_
          refine xa_step (xa_iinc (ls' := [some (xR c0), some (xI c1), some (xI 0), some (xI (w32 (v3 + 1)))]) d_X3_test_61 xq_i_1 rfl (by decide) rfl) ?_
          refine xa_step (xa_goto d_X3_test_64) ?_
          exact xa_weak (ls' := [some (xR c0), some (xI c1), some (xI 0), some (xI (w32 (v3 + 1)))]) ⟨rfl, rfl, rfl, rfl, trivial⟩ (hb 0 (w32 (v3 + 1)) r9.2)
        · refine xa_step (xa_aload_n d_X3_test_46 rfl) ?_
          refine xa_step (xa_bipush d_X3_test_47 xq_b_m21) ?_
          refine xa_callVI (as := [xI ((-21))]) (st := []) (M' := mX3_put) (d' := 2) rfl xw_796 xw_798 xw_20 xw_799 xw_167 xh_X3_put rfl ⟨by omega, by show 8 + (2 + 11) + 64 * (2) ≤ 64 * (5 + n); omega⟩ (Nat.le_of_ble_eq_true rfl) rfl d_X3_test_49 (fun r hr => ct_X3_put l G c0 ((-21)) r9.2 r hr) (fun r11 _ => ?_)
          refine xa_if (xa_ifeq d_X3_test_52) (fun q12 => ?_) (fun q12 => ?_)
          · refine xa_step (xa_iconst d_X3_test_59 xq_i_0) ?_
            refine xa_step (xa_istore_n (ls' := [some (xR c0), some (xI c1), some (xI 0), some (xI v3)]) d_X3_test_60 (by decide) rfl) ?_
            refine xa_step (xa_iinc (ls' := [some (xR c0), some (xI c1), some (xI 0), some (xI (w32 (v3 + 1)))]) d_X3_test_61 xq_i_1 rfl (by decide) rfl) ?_
            refine xa_step (xa_goto d_X3_test_64) ?_
            exact xa_weak (ls' := [some (xR c0), some (xI c1), some (xI 0), some (xI (w32 (v3 + 1)))]) ⟨rfl, rfl, rfl, rfl, trivial⟩ (hb 0 (w32 (v3 + 1)) r11.2)
          · refine xa_step (xa_iconst d_X3_test_55 xq_i_1) ?_
            refine xa_step (xa_goto d_X3_test_56) ?_
            refine xa_step (xa_istore_n (ls' := [some (xR c0), some (xI c1), some (xI 1), some (xI v3)]) d_X3_test_60 (by decide) rfl) ?_
            refine xa_step (xa_iinc (ls' := [some (xR c0), some (xI c1), some (xI 1), some (xI (w32 (v3 + 1)))]) d_X3_test_61 xq_i_1 rfl (by decide) rfl) ?_
            refine xa_step (xa_goto d_X3_test_64) ?_
            exact xa_weak (ls' := [some (xR c0), some (xI c1), some (xI 1), some (xI (w32 (v3 + 1)))]) ⟨rfl, rfl, rfl, rfl, trivial⟩ (hb 1 (w32 (v3 + 1)) r11.2)
      · exact xa_weak (ls' := [none, none, some (xI v2), none]) ⟨rfl, trivial⟩ (hx v2 h)
    · exact xa_weak (ls' := [none, none, some (xI v2), none]) ⟨rfl, trivial⟩ (hx v2 h)
theorem d_X3_test_67 : decode mX3_test.1 67 = .ok (.iload_n 2, 1) ∧ 67 + 1 = 68 := ⟨by decide +kernel, rfl⟩
theorem d_X3_test_68 : decode mX3_test.1 68 = .ok (.ireturn, 1) := by decide +kernel
set_option maxRecDepth 100000 in
set_option maxHeartbeats 4000000 in
theorem g_X3_test (l : Launch) (G : xa_C) (n : Nat) (rc : Nat → Int → Int → xa_H → Option (Int × xa_H)) (hrc : ∀ (k : Nat) (a b : Int) (h : xa_H) (r : Int × xa_H), rc k a b h = some r → xa_RC l G (4 + n) k a b h r) (v0 v1 : Int) (h : xa_H) : xa_G l G (5 + n) mX3_test (f_X3_test rc v0 v1 h) (fun r => some (some (xI r.1), r.2) : (Int × xa_H) → Option xa_O) 0 [some (xR v0), some (xI v1), none, none] [] h := by
  unfold f_X3_test
  refine xa_step (xa_aload_n d_X3_test_0 rfl) ?_
  refine xa_step (xa_iload_n d_X3_test_1 rfl) ?_
  refine xa_callVI (as := [xI v1]) (st := []) (M' := mX3_both) (d' := 4 + n) rfl xw_783 xw_785 xw_17 xw_786 xw_167 xh_X3_both rfl ⟨by omega, by show 8 + (4 + 11) + 64 * (4 + n) ≤ 64 * (5 + n); omega⟩ (Nat.le_of_ble_eq_true rfl) rfl d_X3_test_2 (fun r hr => hrc 1 v0 v1 h r hr) (fun r1 _ => ?_)
  refine xa_step (xa_istore_n (ls' := [some (xR v0), some (xI v1), some (xI r1.1), none]) d_X3_test_5 (by decide) rfl) ?_
  refine xa_step (xa_iconst d_X3_test_6 xq_i_0) ?_
  refine xa_step (xa_istore_n (ls' := [some (xR v0), some (xI v1), some (xI r1.1), some (xI 0)]) d_X3_test_7 (by decide) rfl) ?_
  refine xa_weak (ls' := [some (xR v0), some (xI v1), some (xI r1.1), some (xI 0)]) ⟨rfl, rfl, rfl, rfl, trivial⟩ ?_
  refine xa_loop (f := fun s => f_X3_test_L8 rc v0 v1 s.1 s.2.1 s.2.2) (L := fun s => [some (xR v0), some (xI v1), some (xI s.1), some (xI s.2.1)]) (P := fun s => s.2.2) (X := (fun x K => xa_G l G (5 + n) mX3_test (some (Sum.inr x)) K 67 [none, none, some (xI x.1), none] [] x.2)) (fun K hb hX s => g_X3_test_L8 l G n rc hrc v0 v1 K (fun w0 w1 hh => hb ((w0, w1, hh))) (fun w0 hh => hX ((w0, hh))) s.1 s.2.1 s.2.2) ?_ xFU ((r1.1, 0, r1.2))
  intro e13 K hK
  refine xa_eqE hK ?_
  show xa_G l G (5 + n) mX3_test _ _ 67 [none, none, some (xI e13.1), none] [] e13.2
  refine xa_step (xa_iload_n d_X3_test_67 rfl) ?_
  refine xa_bo (fun q14 => ?_)
  exact xa_zret d_X3_test_68 rfl q14 rfl
theorem ct_X3_test (l : Launch) (G : xa_C) (n : Nat) (rc : Nat → Int → Int → xa_H → Option (Int × xa_H)) (hrc : ∀ (k : Nat) (a b : Int) (h : xa_H) (r : Int × xa_H), rc k a b h = some r → xa_RC l G (4 + n) k a b h r) (v0 v1 : Int) (h : xa_H) (r : Int × xa_H) (hr : f_X3_test rc v0 v1 h = some r) : xa_CT l G (5 + n) mX3_test yX3_test [xR v0, xI v1] h (some (xI r.1), r.2) :=
  xa_met (by decide +kernel) rfl (fun q => by first | rfl | cases q) (Nat.le_of_ble_eq_true rfl) rfl (g_X3_test l G n rc hrc v0 v1 h) (by rw [hr]; rfl)
theorem d_X3_both_0 : decode mX3_both.1 0 = .ok (.aload_n 0, 1) ∧ 0 + 1 = 1 := ⟨by decide +kernel, rfl⟩
theorem d_X3_both_1 : decode mX3_both.1 1 = .ok (.iload_n 1, 1) ∧ 1 + 1 = 2 := ⟨by decide +kernel, rfl⟩
theorem d_X3_both_2 : decode mX3_both.1 2 = .ok (.invokevirtual 59, 3) ∧ 2 + 3 = 5 := ⟨by decide +kernel, rfl⟩
theorem d_X3_both_5 : decode mX3_both.1 5 = .ok (.istore_n 2, 1) ∧ 5 + 1 = 6 := ⟨by decide +kernel, rfl⟩
theorem d_X3_both_6 : decode mX3_both.1 6 = .ok (.iconst 0, 1) ∧ 6 + 1 = 7 := ⟨by decide +kernel, rfl⟩
theorem d_X3_both_7 : decode mX3_both.1 7 = .ok (.istore_n 3, 1) ∧ 7 + 1 = 8 := ⟨by decide +kernel, rfl⟩
theorem d_X3_both_8 : decode mX3_both.1 8 = .ok (.iload_n 2, 1) ∧ 8 + 1 = 9 := ⟨by decide +kernel, rfl⟩
theorem d_X3_both_9 : decode mX3_both.1 9 = .ok (.ifCond .eq 58, 3) ∧ 9 + 3 = 12 ∧ ((9 : Nat) : Int) + 58 = ((67 : Nat) : Int) := ⟨by decide +kernel, rfl, rfl⟩
theorem d_X3_both_12 : decode mX3_both.1 12 = .ok (.aload_n 0, 1) ∧ 12 + 1 = 13 := ⟨by decide +kernel, rfl⟩
theorem d_X3_both_13 : decode mX3_both.1 13 = .ok (.getfield 15, 3) ∧ 13 + 3 = 16 := ⟨by decide +kernel, rfl⟩
theorem d_X3_both_16 : decode mX3_both.1 16 = .ok (.getfield 53, 3) ∧ 16 + 3 = 19 := ⟨by decide +kernel, rfl⟩
theorem d_X3_both_19 : decode mX3_both.1 19 = .ok (.bipush 18, 2) ∧ 19 + 2 = 21 := ⟨by decide +kernel, rfl⟩
theorem d_X3_both_21 : decode mX3_both.1 21 = .ok (.if_icmp .ne 46, 3) ∧ 21 + 3 = 24 ∧ ((21 : Nat) : Int) + 46 = ((67 : Nat) : Int) := ⟨by decide +kernel, rfl, rfl⟩
theorem d_X3_both_24 : decode mX3_both.1 24 = .ok (.iload_n 3, 1) ∧ 24 + 1 = 25 := ⟨by decide +kernel, rfl⟩
theorem d_X3_both_25 : decode mX3_both.1 25 = .ok (.sipush 1600, 3) ∧ 25 + 3 = 28 := ⟨by decide +kernel, rfl⟩
theorem d_X3_both_28 : decode mX3_both.1 28 = .ok (.if_icmp .ge 39, 3) ∧ 28 + 3 = 31 ∧ ((28 : Nat) : Int) + 39 = ((67 : Nat) : Int) := ⟨by decide +kernel, rfl, rfl⟩
theorem d_X3_both_31 : decode mX3_both.1 31 = .ok (.aload_n 0, 1) ∧ 31 + 1 = 32 := ⟨by decide +kernel, rfl⟩
theorem d_X3_both_32 : decode mX3_both.1 32 = .ok (.getfield 15, 3) ∧ 32 + 3 = 35 := ⟨by decide +kernel, rfl⟩
theorem d_X3_both_35 : decode mX3_both.1 35 = .ok (.invokevirtual 27, 3) ∧ 35 + 3 = 38 := ⟨by decide +kernel, rfl⟩
theorem d_X3_both_38 : decode mX3_both.1 38 = .ok (.aload_n 0, 1) ∧ 38 + 1 = 39 := ⟨by decide +kernel, rfl⟩
theorem d_X3_both_39 : decode mX3_both.1 39 = .ok (.iload_n 1, 1) ∧ 39 + 1 = 40 := ⟨by decide +kernel, rfl⟩
theorem d_X3_both_40 : decode mX3_both.1 40 = .ok (.invokevirtual 59, 3) ∧ 40 + 3 = 43 := ⟨by decide +kernel, rfl⟩
theorem d_X3_both_43 : decode mX3_both.1 43 = .ok (.ifCond .eq 16, 3) ∧ 43 + 3 = 46 ∧ ((43 : Nat) : Int) + 16 = ((59 : Nat) : Int) := ⟨by decide +kernel, rfl, rfl⟩
theorem d_X3_both_59 : decode mX3_both.1 59 = .ok (.iconst 0, 1) ∧ 59 + 1 = 60 := ⟨by decide +kernel, rfl⟩
theorem d_X3_both_60 : decode mX3_both.1 60 = .ok (.istore_n 2, 1) ∧ 60 + 1 = 61 := ⟨by decide +kernel, rfl⟩
theorem d_X3_both_61 : decode mX3_both.1 61 = .ok (.iinc 3 1, 3) ∧ 61 + 3 = 64 := ⟨by decide +kernel, rfl⟩
theorem d_X3_both_64 : decode mX3_both.1 64 = .ok (.goto (-56), 3) ∧ ((64 : Nat) : Int) + (-56) = ((8 : Nat) : Int) := ⟨by decide +kernel, rfl⟩
theorem d_X3_both_46 : decode mX3_both.1 46 = .ok (.aload_n 0, 1) ∧ 46 + 1 = 47 := ⟨by decide +kernel, rfl⟩
theorem d_X3_both_47 : decode mX3_both.1 47 = .ok (.bipush (-20), 2) ∧ 47 + 2 = 49 := ⟨by decide +kernel, rfl⟩
theorem d_X3_both_49 : decode mX3_both.1 49 = .ok (.invokevirtual 56, 3) ∧ 49 + 3 = 52 := ⟨by decide +kernel, rfl⟩
theorem d_X3_both_52 : decode mX3_both.1 52 = .ok (.ifCond .eq 7, 3) ∧ 52 + 3 = 55 ∧ ((52 : Nat) : Int) + 7 = ((59 : Nat) : Int) := ⟨by decide +kernel, rfl, rfl⟩
theorem d_X3_both_55 : decode mX3_both.1 55 = .ok (.iconst 1, 1) ∧ 55 + 1 = 56 := ⟨by decide +kernel, rfl⟩
theorem d_X3_both_56 : decode mX3_both.1 56 = .ok (.goto 4, 3) ∧ ((56 : Nat) : Int) + 4 = ((60 : Nat) : Int) := ⟨by decide +kernel, rfl⟩
set_option maxRecDepth 100000 in
set_option maxHeartbeats 4000000 in
theorem g_X3_both_L8 (l : Launch) (G : xa_C) (n : Nat) (rc : Nat → Int → Int → xa_H → Option (Int × xa_H)) (hrc : ∀ (k : Nat) (a b : Int) (h : xa_H) (r : Int × xa_H), rc k a b h = some r → xa_RC l G (4 + n) k a b h r) (c0 c1 : Int) (K : (Int × Int × xa_H) ⊕ (Int × xa_H) → Option xa_O) (hb : ∀ (v2 : Int) (v3 : Int) (h : xa_H), xa_G l G (5 + n) mX3_both (some (Sum.inl ((v2, v3, h)))) K 8 [some (xR c0), some (xI c1), some (xI v2), some (xI v3)] [] h) (hx : ∀ (v2 : Int) (h : xa_H), xa_G l G (5 + n) mX3_both (some (Sum.inr ((v2, h)))) K 67 [none, none, some (xI v2), none] [] h) : ∀ (v2 : Int) (v3 : Int) (h : xa_H), xa_G l G (5 + n) mX3_both (f_X3_both_L8 rc c0 c1 v2 v3 h) K 8 [some (xR c0), some (xI c1), some (xI v2), some (xI v3)] [] h := by
  intro v2 v3 h
  unfold f_X3_both_L8
  refine xa_step (xa_iload_n d_X3_both_8 rfl) ?_
  refine xa_if (xa_ifeq d_X3_both_9) (fun q2 => ?_) (fun q2 => ?_)
  · exact xa_weak (ls' := [none, none, some (xI v2), none]) ⟨rfl, trivial⟩ (hx v2 h)
  · refine xa_step (xa_aload_n d_X3_both_12 rfl) ?_
    refine xa_getf xR xc_3 (by decide) (fun _ => rfl) xw_298 rfl d_X3_both_13 (fun x3 _ => ?_)
    refine xa_getf xI xc_6 (by decide) (fun _ => rfl) xw_259 rfl d_X3_both_16 (fun x4 _ => ?_)
    refine xa_step (xa_bipush d_X3_both_19 xq_b_18) ?_
    refine xa_if (xa_icmpne d_X3_both_21) (fun q5 => ?_) (fun q5 => ?_)
    · refine xa_step (xa_iload_n d_X3_both_24 rfl) ?_
      refine xa_step (xa_sipush d_X3_both_25 xq_s_1600) ?_
      refine xa_if (xa_icmpge d_X3_both_28) (fun q6 => ?_) (fun q6 => ?_)
      · refine xa_step (xa_aload_n d_X3_both_31 rfl) ?_
        refine xa_getf xR xc_3 (by decide) (fun _ => rfl) xw_298 rfl d_X3_both_32 (fun x7 _ => ?_)
        refine xa_callVV (as := []) (st := []) (M' := mX6_step) (d' := 2) rfl xw_778 xw_677 xw_678 xw_679 xw_162 xh_X6_step rfl ⟨by omega, by show 8 + (5 + 11) + 64 * (2) ≤ 64 * (5 + n); omega⟩ (Nat.le_of_ble_eq_true rfl) rfl d_X3_both_35 (fun r hr => ct_X6_step l G x7 h r hr) (fun r8 _ => ?_)
        refine xa_step (xa_aload_n d_X3_both_38 rfl) ?_
        refine xa_step (xa_iload_n d_X3_both_39 rfl) ?_
        refine xa_callVI (as := [xI c1]) (st := []) (M' := mX3_fact) (d' := 4 + n) rfl xw_787 xw_789 xw_18 xw_790 xw_167 xh_X3_fact rfl ⟨by omega, by show 8 + (3 + 11) + 64 * (4 + n) ≤ 64 * (5 + n); omega⟩ (Nat.le_of_ble_eq_true rfl) rfl d_X3_both_40 (fun r hr => hrc 2 c0 c1 r8 r hr) (fun r9 _ => ?_)
        refine xa_if (xa_ifeq d_X3_both_43) (fun q10 => ?_) (fun q10 => ?_)
        · refine xa_step (xa_iconst d_X3_both_59 xq_i_0) ?_
          refine xa_step (xa_istore_n (ls' := [some (xR c0), some (xI c1), some (xI 0), some (xI v3)]) d_X3_both_60 (by decide) rfl) ?_
          refine xa_step (xa_iinc (ls' := [some (xR c0), some (xI c1), some (xI 0), some (xI (w32 (v3 + 1)))]) d_X3_both_61 xq_i_1 rfl (by decide) rfl) ?_
          refine xa_step (xa_goto d_X3_both_64) ?_
          exact xa_weak (ls' := [some (xR c0), some (xI c1), some (xI 0), some (xI (w32 (v3 + 1)))]) ⟨rfl, rfl, rfl, rfl, trivial⟩ (hb 0 (w32 (v3 + 1)) r9.2)
        · refine xa_step (xa_aload_n d_X3_both_46 rfl) ?_
          refine xa_step (xa_bipush d_X3_both_47 xq_b_m20) ?_
          refine xa_callVI (as := [xI ((-20))]) (st := []) (M' := mX3_put) (d' := 2) rfl xw_796 xw_798 xw_20 xw_799 xw_167 xh_X3_put rfl ⟨by omega, by show 8 + (2 + 11) + 64 * (2) ≤ 64 * (5 + n); omega⟩ (Nat.le_of_ble_eq_true rfl) rfl d_X3_both_49 (fun r hr => ct_X3_put l G c0 ((-20)) r9.2 r hr) (fun r11 _ => ?_)
          refine xa_if (xa_ifeq d_X3_both_52) (fun q12 => ?_) (fun q12 => ?_)
          · refine xa_step (xa_iconst d_X3_both_59 xq_i_0) ?_
            refine xa_step (xa_istore_n (ls' := [some (xR c0), some (xI c1), some (xI 0), some (xI v3)]) d_X3_both_60 (by decide) rfl) ?_
            refine xa_step (xa_iinc (ls' := [some (xR c0), some (xI c1), some (xI 0), some (xI (w32 (v3 + 1)))]) d_X3_both_61 xq_i_1 rfl (by decide) rfl) ?_
            refine xa_step (xa_goto d_X3_both_64) ?_
            exact xa_weak (ls' := [some (xR c0), some (xI c1), some (xI 0), some (xI (w32 (v3 + 1)))]) ⟨rfl, rfl, rfl, rfl, trivial⟩ (hb 0 (w32 (v3 + 1)) r11.2)
          · refine xa_step (xa_iconst d_X3_both_55 xq_i_1) ?_
            refine xa_step (xa_goto d_X3_both_56) ?_
            refine xa_step (xa_istore_n (ls' := [some (xR c0), some (xI c1), some (xI 1), some (xI v3)]) d_X3_both_60 (by decide) rfl) ?_
            refine xa_step (xa_iinc (ls' := [some (xR c0), some (xI c1), some (xI 1), some (xI (w32 (v3 + 1)))]) d_X3_both_61 xq_i_1 rfl (by decide) rfl) ?_
            refine xa_step (xa_goto d_X3_both_64) ?_
            exact xa_weak (ls' := [some (xR c0), some (xI c1), some (xI 1), some (xI (w32 (v3 + 1)))]) ⟨rfl, rfl, rfl, rfl, trivial⟩ (hb 1 (w32 (v3 + 1)) r11.2)
      · exact xa_weak (ls' := [none, none, some (xI v2), none]) ⟨rfl, trivial⟩ (hx v2 h)
    · exact xa_weak (ls' := [none, none, some (xI v2), none]) ⟨rfl, trivial⟩ (hx v2 h)
theorem d_X3_both_67 : decode mX3_both.1 67 = .ok (.iload_n 2, 1) ∧ 67 + 1 = 68 := ⟨by decide +kernel, rfl⟩
theorem d_X3_both_68 : decode mX3_both.1 68 = .ok (.ireturn, 1) := by decide +kernel
set_option maxRecDepth 100000 in
set_option maxHeartbeats 4000000 in
theorem g_X3_both (l : Launch) (G : xa_C) (n : Nat) (rc : Nat → Int → Int → xa_H → Option (Int × xa_H)) (hrc : ∀ (k : Nat) (a b : Int) (h : xa_H) (r : Int × xa_H), rc k a b h = some r → xa_RC l G (4 + n) k a b h r) (v0 v1 : Int) (h : xa_H) : xa_G l G (5 + n) mX3_both (f_X3_both rc v0 v1 h) (fun r => some (some (xI r.1), r.2) : (Int × xa_H) → Option xa_O) 0 [some (xR v0), some (xI v1), none, none] [] h := by
  unfold f_X3_both
  refine xa_step (xa_aload_n d_X3_both_0 rfl) ?_
  refine xa_step (xa_iload_n d_X3_both_1 rfl) ?_
  refine xa_callVI (as := [xI v1]) (st := []) (M' := mX3_fact) (d' := 4 + n) rfl xw_787 xw_789 xw_18 xw_790 xw_167 xh_X3_fact rfl ⟨by omega, by show 8 + (3 + 11) + 64 * (4 + n) ≤ 64 * (5 + n); omega⟩ (Nat.le_of_ble_eq_true rfl) rfl d_X3_both_2 (fun r hr => hrc 2 v0 v1 h r hr) (fun r1 _ => ?_)
  refine xa_step (xa_istore_n (ls' := [some (xR v0), some (xI v1), some (xI r1.1), none]) d_X3_both_5 (by decide) rfl) ?_
  refine xa_step (xa_iconst d_X3_both_6 xq_i_0) ?_
  refine xa_step (xa_istore_n (ls' := [some (xR v0), some (xI v1), some (xI r1.1), some (xI 0)]) d_X3_both_7 (by decide) rfl) ?_
  refine xa_weak (ls' := [some (xR v0), some (xI v1), some (xI r1.1), some (xI 0)]) ⟨rfl, rfl, rfl, rfl, trivial⟩ ?_
  refine xa_loop (f := fun s => f_X3_both_L8 rc v0 v1 s.1 s.2.1 s.2.2) (L := fun s => [some (xR v0), some (xI v1), some (xI s.1), some (xI s.2.1)]) (P := fun s => s.2.2) (X := (fun x K => xa_G l G (5 + n) mX3_both (some (Sum.inr x)) K 67 [none, none, some (xI x.1), none] [] x.2)) (fun K hb hX s => g_X3_both_L8 l G n rc hrc v0 v1 K (fun w0 w1 hh => hb ((w0, w1, hh))) (fun w0 hh => hX ((w0, hh))) s.1 s.2.1 s.2.2) ?_ xFU ((r1.1, 0, r1.2))
  intro e13 K hK
  refine xa_eqE hK ?_
  show xa_G l G (5 + n) mX3_both _ _ 67 [none, none, some (xI e13.1), none] [] e13.2
  refine xa_step (xa_iload_n d_X3_both_67 rfl) ?_
  refine xa_bo (fun q14 => ?_)
  exact xa_zret d_X3_both_68 rfl q14 rfl
theorem ct_X3_both (l : Launch) (G : xa_C) (n : Nat) (rc : Nat → Int → Int → xa_H → Option (Int × xa_H)) (hrc : ∀ (k : Nat) (a b : Int) (h : xa_H) (r : Int × xa_H), rc k a b h = some r → xa_RC l G (4 + n) k a b h r) (v0 v1 : Int) (h : xa_H) (r : Int × xa_H) (hr : f_X3_both rc v0 v1 h = some r) : xa_CT l G (5 + n) mX3_both yX3_both [xR v0, xI v1] h (some (xI r.1), r.2) :=
  xa_met (by decide +kernel) rfl (fun q => by first | rfl | cases q) (Nat.le_of_ble_eq_true rfl) rfl (g_X3_both l G n rc hrc v0 v1 h) (by rw [hr]; rfl)
theorem d_X3_fact_0 : decode mX3_fact.1 0 = .ok (.aload_n 0, 1) ∧ 0 + 1 = 1 := ⟨by decide +kernel, rfl⟩
theorem d_X3_fact_1 : decode mX3_fact.1 1 = .ok (.getfield 15, 3) ∧ 1 + 3 = 4 := ⟨by decide +kernel, rfl⟩
theorem d_X3_fact_4 : decode mX3_fact.1 4 = .ok (.getfield 53, 3) ∧ 4 + 3 = 7 := ⟨by decide +kernel, rfl⟩
theorem d_X3_fact_7 : decode mX3_fact.1 7 = .ok (.bipush 19, 2) ∧ 7 + 2 = 9 := ⟨by decide +kernel, rfl⟩
theorem d_X3_fact_9 : decode mX3_fact.1 9 = .ok (.if_icmp .ne 36, 3) ∧ 9 + 3 = 12 ∧ ((9 : Nat) : Int) + 36 = ((45 : Nat) : Int) := ⟨by decide +kernel, rfl, rfl⟩
theorem d_X3_fact_12 : decode mX3_fact.1 12 = .ok (.aload_n 0, 1) ∧ 12 + 1 = 13 := ⟨by decide +kernel, rfl⟩
theorem d_X3_fact_13 : decode mX3_fact.1 13 = .ok (.iload_n 1, 1) ∧ 13 + 1 = 14 := ⟨by decide +kernel, rfl⟩
theorem d_X3_fact_14 : decode mX3_fact.1 14 = .ok (.invokevirtual 62, 3) ∧ 14 + 3 = 17 := ⟨by decide +kernel, rfl⟩
theorem d_X3_fact_17 : decode mX3_fact.1 17 = .ok (.ifCond .eq 26, 3) ∧ 17 + 3 = 20 ∧ ((17 : Nat) : Int) + 26 = ((43 : Nat) : Int) := ⟨by decide +kernel, rfl, rfl⟩
theorem d_X3_fact_43 : decode mX3_fact.1 43 = .ok (.iconst 0, 1) ∧ 43 + 1 = 44 := ⟨by decide +kernel, rfl⟩
theorem d_X3_fact_44 : decode mX3_fact.1 44 = .ok (.ireturn, 1) := by decide +kernel
theorem d_X3_fact_20 : decode mX3_fact.1 20 = .ok (.aload_n 0, 1) ∧ 20 + 1 = 21 := ⟨by decide +kernel, rfl⟩
theorem d_X3_fact_21 : decode mX3_fact.1 21 = .ok (.iload_n 1, 1) ∧ 21 + 1 = 22 := ⟨by decide +kernel, rfl⟩
theorem d_X3_fact_22 : decode mX3_fact.1 22 = .ok (.iconst 1, 1) ∧ 22 + 1 = 23 := ⟨by decide +kernel, rfl⟩
theorem d_X3_fact_23 : decode mX3_fact.1 23 = .ok (.iadd, 1) ∧ 23 + 1 = 24 := ⟨by decide +kernel, rfl⟩
theorem d_X3_fact_24 : decode mX3_fact.1 24 = .ok (.invokevirtual 59, 3) ∧ 24 + 3 = 27 := ⟨by decide +kernel, rfl⟩
theorem d_X3_fact_27 : decode mX3_fact.1 27 = .ok (.ifCond .eq 16, 3) ∧ 27 + 3 = 30 ∧ ((27 : Nat) : Int) + 16 = ((43 : Nat) : Int) := ⟨by decide +kernel, rfl, rfl⟩
theorem d_X3_fact_30 : decode mX3_fact.1 30 = .ok (.aload_n 0, 1) ∧ 30 + 1 = 31 := ⟨by decide +kernel, rfl⟩
theorem d_X3_fact_31 : decode mX3_fact.1 31 = .ok (.bipush (-9), 2) ∧ 31 + 2 = 33 := ⟨by decide +kernel, rfl⟩
theorem d_X3_fact_33 : decode mX3_fact.1 33 = .ok (.invokevirtual 56, 3) ∧ 33 + 3 = 36 := ⟨by decide +kernel, rfl⟩
theorem d_X3_fact_36 : decode mX3_fact.1 36 = .ok (.ifCond .eq 7, 3) ∧ 36 + 3 = 39 ∧ ((36 : Nat) : Int) + 7 = ((43 : Nat) : Int) := ⟨by decide +kernel, rfl, rfl⟩
theorem d_X3_fact_39 : decode mX3_fact.1 39 = .ok (.iconst 1, 1) ∧ 39 + 1 = 40 := ⟨by decide +kernel, rfl⟩
theorem d_X3_fact_40 : decode mX3_fact.1 40 = .ok (.goto 4, 3) ∧ ((40 : Nat) : Int) + 4 = ((44 : Nat) : Int) := ⟨by decide +kernel, rfl⟩
theorem d_X3_fact_45 : decode mX3_fact.1 45 = .ok (.aload_n 0, 1) ∧ 45 + 1 = 46 := ⟨by decide +kernel, rfl⟩
theorem d_X3_fact_46 : decode mX3_fact.1 46 = .ok (.getfield 15, 3) ∧ 46 + 3 = 49 := ⟨by decide +kernel, rfl⟩
theorem d_X3_fact_49 : decode mX3_fact.1 49 = .ok (.bipush 91, 2) ∧ 49 + 2 = 51 := ⟨by decide +kernel, rfl⟩
theorem d_X3_fact_51 : decode mX3_fact.1 51 = .ok (.invokevirtual 65, 3) ∧ 51 + 3 = 54 := ⟨by decide +kernel, rfl⟩
theorem d_X3_fact_54 : decode mX3_fact.1 54 = .ok (.ifCond .eq 39, 3) ∧ 54 + 3 = 57 ∧ ((54 : Nat) : Int) + 39 = ((93 : Nat) : Int) := ⟨by decide +kernel, rfl, rfl⟩
theorem d_X3_fact_93 : decode mX3_fact.1 93 = .ok (.aload_n 0, 1) ∧ 93 + 1 = 94 := ⟨by decide +kernel, rfl⟩
theorem d_X3_fact_94 : decode mX3_fact.1 94 = .ok (.getfield 15, 3) ∧ 94 + 3 = 97 := ⟨by decide +kernel, rfl⟩
theorem d_X3_fact_97 : decode mX3_fact.1 97 = .ok (.getfield 53, 3) ∧ 97 + 3 = 100 := ⟨by decide +kernel, rfl⟩
theorem d_X3_fact_100 : decode mX3_fact.1 100 = .ok (.bipush 20, 2) ∧ 100 + 2 = 102 := ⟨by decide +kernel, rfl⟩
theorem d_X3_fact_102 : decode mX3_fact.1 102 = .ok (.if_icmp .ne 16, 3) ∧ 102 + 3 = 105 ∧ ((102 : Nat) : Int) + 16 = ((118 : Nat) : Int) := ⟨by decide +kernel, rfl, rfl⟩
theorem d_X3_fact_105 : decode mX3_fact.1 105 = .ok (.aload_n 0, 1) ∧ 105 + 1 = 106 := ⟨by decide +kernel, rfl⟩
theorem d_X3_fact_106 : decode mX3_fact.1 106 = .ok (.getfield 15, 3) ∧ 106 + 3 = 109 := ⟨by decide +kernel, rfl⟩
theorem d_X3_fact_109 : decode mX3_fact.1 109 = .ok (.invokevirtual 27, 3) ∧ 109 + 3 = 112 := ⟨by decide +kernel, rfl⟩
theorem d_X3_fact_112 : decode mX3_fact.1 112 = .ok (.aload_n 0, 1) ∧ 112 + 1 = 113 := ⟨by decide +kernel, rfl⟩
theorem d_X3_fact_113 : decode mX3_fact.1 113 = .ok (.iconst 1, 1) ∧ 113 + 1 = 114 := ⟨by decide +kernel, rfl⟩
theorem d_X3_fact_114 : decode mX3_fact.1 114 = .ok (.invokevirtual 56, 3) ∧ 114 + 3 = 117 := ⟨by decide +kernel, rfl⟩
theorem d_X3_fact_117 : decode mX3_fact.1 117 = .ok (.ireturn, 1) := by decide +kernel
theorem d_X3_fact_118 : decode mX3_fact.1 118 = .ok (.aload_n 0, 1) ∧ 118 + 1 = 119 := ⟨by decide +kernel, rfl⟩
theorem d_X3_fact_119 : decode mX3_fact.1 119 = .ok (.iload_n 1, 1) ∧ 119 + 1 = 120 := ⟨by decide +kernel, rfl⟩
theorem d_X3_fact_120 : decode mX3_fact.1 120 = .ok (.invokevirtual 47, 3) ∧ 120 + 3 = 123 := ⟨by decide +kernel, rfl⟩
theorem d_X3_fact_123 : decode mX3_fact.1 123 = .ok (.ifCond .ne 5, 3) ∧ 123 + 3 = 126 ∧ ((123 : Nat) : Int) + 5 = ((128 : Nat) : Int) := ⟨by decide +kernel, rfl, rfl⟩
theorem d_X3_fact_126 : decode mX3_fact.1 126 = .ok (.iconst 0, 1) ∧ 126 + 1 = 127 := ⟨by decide +kernel, rfl⟩
theorem d_X3_fact_127 : decode mX3_fact.1 127 = .ok (.ireturn, 1) := by decide +kernel
theorem d_X3_fact_128 : decode mX3_fact.1 128 = .ok (.aload_n 0, 1) ∧ 128 + 1 = 129 := ⟨by decide +kernel, rfl⟩
theorem d_X3_fact_129 : decode mX3_fact.1 129 = .ok (.bipush 60, 2) ∧ 129 + 2 = 131 := ⟨by decide +kernel, rfl⟩
theorem d_X3_fact_131 : decode mX3_fact.1 131 = .ok (.bipush (-17), 2) ∧ 131 + 2 = 133 := ⟨by decide +kernel, rfl⟩
theorem d_X3_fact_133 : decode mX3_fact.1 133 = .ok (.bipush 62, 2) ∧ 133 + 2 = 135 := ⟨by decide +kernel, rfl⟩
theorem d_X3_fact_135 : decode mX3_fact.1 135 = .ok (.bipush (-18), 2) ∧ 135 + 2 = 137 := ⟨by decide +kernel, rfl⟩
theorem d_X3_fact_137 : decode mX3_fact.1 137 = .ok (.invokevirtual 72, 3) ∧ 137 + 3 = 140 := ⟨by decide +kernel, rfl⟩
theorem d_X3_fact_140 : decode mX3_fact.1 140 = .ok (.istore_n 2, 1) ∧ 140 + 1 = 141 := ⟨by decide +kernel, rfl⟩
theorem d_X3_fact_141 : decode mX3_fact.1 141 = .ok (.aload_n 0, 1) ∧ 141 + 1 = 142 := ⟨by decide +kernel, rfl⟩
theorem d_X3_fact_142 : decode mX3_fact.1 142 = .ok (.getfield 15, 3) ∧ 142 + 3 = 145 := ⟨by decide +kernel, rfl⟩
theorem d_X3_fact_145 : decode mX3_fact.1 145 = .ok (.bipush 61, 2) ∧ 145 + 2 = 147 := ⟨by decide +kernel, rfl⟩
theorem d_X3_fact_147 : decode mX3_fact.1 147 = .ok (.invokevirtual 65, 3) ∧ 147 + 3 = 150 := ⟨by decide +kernel, rfl⟩
theorem d_X3_fact_150 : decode mX3_fact.1 150 = .ok (.ifCond .eq 8, 3) ∧ 150 + 3 = 153 ∧ ((150 : Nat) : Int) + 8 = ((158 : Nat) : Int) := ⟨by decide +kernel, rfl, rfl⟩
theorem d_X3_fact_158 : decode mX3_fact.1 158 = .ok (.iload_n 2, 1) ∧ 158 + 1 = 159 := ⟨by decide +kernel, rfl⟩
theorem d_X3_fact_159 : decode mX3_fact.1 159 = .ok (.istore_n 2, 1) ∧ 159 + 1 = 160 := ⟨by decide +kernel, rfl⟩
theorem d_X3_fact_160 : decode mX3_fact.1 160 = .ok (.iload_n 2, 1) ∧ 160 + 1 = 161 := ⟨by decide +kernel, rfl⟩
theorem d_X3_fact_161 : decode mX3_fact.1 161 = .ok (.bipush (-22), 2) ∧ 161 + 2 = 163 := ⟨by decide +kernel, rfl⟩
theorem d_X3_fact_163 : decode mX3_fact.1 163 = .ok (.if_icmp .ne 11, 3) ∧ 163 + 3 = 166 ∧ ((163 : Nat) : Int) + 11 = ((174 : Nat) : Int) := ⟨by decide +kernel, rfl, rfl⟩
theorem d_X3_fact_166 : decode mX3_fact.1 166 = .ok (.aload_n 0, 1) ∧ 166 + 1 = 167 := ⟨by decide +kernel, rfl⟩
theorem d_X3_fact_167 : decode mX3_fact.1 167 = .ok (.getfield 15, 3) ∧ 167 + 3 = 170 := ⟨by decide +kernel, rfl⟩
theorem d_X3_fact_170 : decode mX3_fact.1 170 = .ok (.invokevirtual 76, 3) ∧ 170 + 3 = 173 := ⟨by decide +kernel, rfl⟩
theorem d_X3_fact_173 : decode mX3_fact.1 173 = .ok (.ireturn, 1) := by decide +kernel
theorem d_X3_fact_174 : decode mX3_fact.1 174 = .ok (.aload_n 0, 1) ∧ 174 + 1 = 175 := ⟨by decide +kernel, rfl⟩
theorem d_X3_fact_175 : decode mX3_fact.1 175 = .ok (.getfield 15, 3) ∧ 175 + 3 = 178 := ⟨by decide +kernel, rfl⟩
theorem d_X3_fact_178 : decode mX3_fact.1 178 = .ok (.invokevirtual 27, 3) ∧ 178 + 3 = 181 := ⟨by decide +kernel, rfl⟩
theorem d_X3_fact_181 : decode mX3_fact.1 181 = .ok (.aload_n 0, 1) ∧ 181 + 1 = 182 := ⟨by decide +kernel, rfl⟩
theorem d_X3_fact_182 : decode mX3_fact.1 182 = .ok (.iload_n 1, 1) ∧ 182 + 1 = 183 := ⟨by decide +kernel, rfl⟩
theorem d_X3_fact_183 : decode mX3_fact.1 183 = .ok (.invokevirtual 47, 3) ∧ 183 + 3 = 186 := ⟨by decide +kernel, rfl⟩
theorem d_X3_fact_186 : decode mX3_fact.1 186 = .ok (.ifCond .eq 15, 3) ∧ 186 + 3 = 189 ∧ ((186 : Nat) : Int) + 15 = ((201 : Nat) : Int) := ⟨by decide +kernel, rfl, rfl⟩
theorem d_X3_fact_201 : decode mX3_fact.1 201 = .ok (.iconst 0, 1) ∧ 201 + 1 = 202 := ⟨by decide +kernel, rfl⟩
theorem d_X3_fact_202 : decode mX3_fact.1 202 = .ok (.ireturn, 1) := by decide +kernel
theorem d_X3_fact_189 : decode mX3_fact.1 189 = .ok (.aload_n 0, 1) ∧ 189 + 1 = 190 := ⟨by decide +kernel, rfl⟩
theorem d_X3_fact_190 : decode mX3_fact.1 190 = .ok (.iload_n 2, 1) ∧ 190 + 1 = 191 := ⟨by decide +kernel, rfl⟩
theorem d_X3_fact_191 : decode mX3_fact.1 191 = .ok (.invokevirtual 56, 3) ∧ 191 + 3 = 194 := ⟨by decide +kernel, rfl⟩
theorem d_X3_fact_194 : decode mX3_fact.1 194 = .ok (.ifCond .eq 7, 3) ∧ 194 + 3 = 197 ∧ ((194 : Nat) : Int) + 7 = ((201 : Nat) : Int) := ⟨by decide +kernel, rfl, rfl⟩
theorem d_X3_fact_197 : decode mX3_fact.1 197 = .ok (.iconst 1, 1) ∧ 197 + 1 = 198 := ⟨by decide +kernel, rfl⟩
theorem d_X3_fact_198 : decode mX3_fact.1 198 = .ok (.goto 4, 3) ∧ ((198 : Nat) : Int) + 4 = ((202 : Nat) : Int) := ⟨by decide +kernel, rfl⟩
set_option maxRecDepth 100000 in
set_option maxHeartbeats 4000000 in
theorem g_X3_fact_J159 (l : Launch) (G : xa_C) (n : Nat) (rc : Nat → Int → Int → xa_H → Option (Int × xa_H)) (hrc : ∀ (k : Nat) (a b : Int) (h : xa_H) (r : Int × xa_H), rc k a b h = some r → xa_RC l G (4 + n) k a b h r) : ∀ (v0 v1 s0 : Int) (h : xa_H) , xa_G l G (5 + n) mX3_fact (f_X3_fact_J159 rc v0 v1 s0 h) (fun r => some (some (xI r.1), r.2) : (Int × xa_H) → Option xa_O) 159 [some (xR v0), some (xI v1), none] [xI s0] h := by
  intro v0 v1 s0 h
  unfold f_X3_fact_J159
  refine xa_step (xa_istore_n (ls' := [some (xR v0), some (xI v1), some (xI s0)]) d_X3_fact_159 (by decide) rfl) ?_
  refine xa_step (xa_iload_n d_X3_fact_160 rfl) ?_
  refine xa_step (xa_bipush d_X3_fact_161 xq_b_m22) ?_
  refine xa_if (xa_icmpne d_X3_fact_163) (fun q26 => ?_) (fun q26 => ?_)
  · refine xa_step (xa_aload_n d_X3_fact_166 rfl) ?_
    refine xa_getf xR xc_3 (by decide) (fun _ => rfl) xw_298 rfl d_X3_fact_167 (fun x27 _ => ?_)
    refine xa_callVI (as := []) (st := []) (M' := mX6_stray) (d' := 2) rfl xw_825 xw_706 xw_707 xw_708 xw_162 xh_X6_stray rfl ⟨by omega, by show 8 + (1 + 11) + 64 * (2) ≤ 64 * (5 + n); omega⟩ (Nat.le_of_ble_eq_true rfl) rfl d_X3_fact_170 (fun r hr => ct_X6_stray l G x27 h r hr) (fun r28 _ => ?_)
    refine xa_bo (fun q29 => ?_)
    exact xa_zret d_X3_fact_173 rfl q29 rfl
  · refine xa_step (xa_aload_n d_X3_fact_174 rfl) ?_
    refine xa_getf xR xc_3 (by decide) (fun _ => rfl) xw_298 rfl d_X3_fact_175 (fun x30 _ => ?_)
    refine xa_callVV (as := []) (st := []) (M' := mX6_step) (d' := 2) rfl xw_778 xw_677 xw_678 xw_679 xw_162 xh_X6_step rfl ⟨by omega, by show 8 + (5 + 11) + 64 * (2) ≤ 64 * (5 + n); omega⟩ (Nat.le_of_ble_eq_true rfl) rfl d_X3_fact_178 (fun r hr => ct_X6_step l G x30 h r hr) (fun r31 _ => ?_)
    refine xa_step (xa_aload_n d_X3_fact_181 rfl) ?_
    refine xa_step (xa_iload_n d_X3_fact_182 rfl) ?_
    refine xa_callVI (as := [xI v1]) (st := []) (M' := mX3_sum) (d' := 4 + n) rfl xw_808 xw_810 xw_21 xw_811 xw_167 xh_X3_sum rfl ⟨by omega, by show 8 + (5 + 11) + 64 * (4 + n) ≤ 64 * (5 + n); omega⟩ (Nat.le_of_ble_eq_true rfl) rfl d_X3_fact_183 (fun r hr => hrc 3 v0 v1 r31 r hr) (fun r32 _ => ?_)
    refine xa_if (xa_ifeq d_X3_fact_186) (fun q33 => ?_) (fun q33 => ?_)
    · refine xa_step (xa_iconst d_X3_fact_201 xq_i_0) ?_
      exact xa_zret d_X3_fact_202 rfl (Or.inl rfl) rfl
    · refine xa_step (xa_aload_n d_X3_fact_189 rfl) ?_
      refine xa_step (xa_iload_n d_X3_fact_190 rfl) ?_
      refine xa_callVI (as := [xI s0]) (st := []) (M' := mX3_put) (d' := 2) rfl xw_796 xw_798 xw_20 xw_799 xw_167 xh_X3_put rfl ⟨by omega, by show 8 + (2 + 11) + 64 * (2) ≤ 64 * (5 + n); omega⟩ (Nat.le_of_ble_eq_true rfl) rfl d_X3_fact_191 (fun r hr => ct_X3_put l G v0 s0 r32.2 r hr) (fun r34 _ => ?_)
      refine xa_if (xa_ifeq d_X3_fact_194) (fun q35 => ?_) (fun q35 => ?_)
      · refine xa_step (xa_iconst d_X3_fact_201 xq_i_0) ?_
        exact xa_zret d_X3_fact_202 rfl (Or.inl rfl) rfl
      · refine xa_step (xa_iconst d_X3_fact_197 xq_i_1) ?_
        refine xa_step (xa_goto d_X3_fact_198) ?_
        exact xa_zret d_X3_fact_202 rfl (Or.inr rfl) rfl
theorem d_X3_fact_153 : decode mX3_fact.1 153 = .ok (.bipush (-19), 2) ∧ 153 + 2 = 155 := ⟨by decide +kernel, rfl⟩
theorem d_X3_fact_155 : decode mX3_fact.1 155 = .ok (.goto 4, 3) ∧ ((155 : Nat) : Int) + 4 = ((159 : Nat) : Int) := ⟨by decide +kernel, rfl⟩
theorem d_X3_fact_57 : decode mX3_fact.1 57 = .ok (.aload_n 0, 1) ∧ 57 + 1 = 58 := ⟨by decide +kernel, rfl⟩
theorem d_X3_fact_58 : decode mX3_fact.1 58 = .ok (.iload_n 1, 1) ∧ 58 + 1 = 59 := ⟨by decide +kernel, rfl⟩
theorem d_X3_fact_59 : decode mX3_fact.1 59 = .ok (.invokevirtual 62, 3) ∧ 59 + 3 = 62 := ⟨by decide +kernel, rfl⟩
theorem d_X3_fact_62 : decode mX3_fact.1 62 = .ok (.ifCond .eq 29, 3) ∧ 62 + 3 = 65 ∧ ((62 : Nat) : Int) + 29 = ((91 : Nat) : Int) := ⟨by decide +kernel, rfl, rfl⟩
theorem d_X3_fact_91 : decode mX3_fact.1 91 = .ok (.iconst 0, 1) ∧ 91 + 1 = 92 := ⟨by decide +kernel, rfl⟩
theorem d_X3_fact_92 : decode mX3_fact.1 92 = .ok (.ireturn, 1) := by decide +kernel
theorem d_X3_fact_65 : decode mX3_fact.1 65 = .ok (.aload_n 0, 1) ∧ 65 + 1 = 66 := ⟨by decide +kernel, rfl⟩
theorem d_X3_fact_66 : decode mX3_fact.1 66 = .ok (.iload_n 1, 1) ∧ 66 + 1 = 67 := ⟨by decide +kernel, rfl⟩
theorem d_X3_fact_67 : decode mX3_fact.1 67 = .ok (.iconst 1, 1) ∧ 67 + 1 = 68 := ⟨by decide +kernel, rfl⟩
theorem d_X3_fact_68 : decode mX3_fact.1 68 = .ok (.iadd, 1) ∧ 68 + 1 = 69 := ⟨by decide +kernel, rfl⟩
theorem d_X3_fact_69 : decode mX3_fact.1 69 = .ok (.invokevirtual 32, 3) ∧ 69 + 3 = 72 := ⟨by decide +kernel, rfl⟩
theorem d_X3_fact_72 : decode mX3_fact.1 72 = .ok (.ifCond .eq 19, 3) ∧ 72 + 3 = 75 ∧ ((72 : Nat) : Int) + 19 = ((91 : Nat) : Int) := ⟨by decide +kernel, rfl, rfl⟩
theorem d_X3_fact_75 : decode mX3_fact.1 75 = .ok (.aload_n 0, 1) ∧ 75 + 1 = 76 := ⟨by decide +kernel, rfl⟩
theorem d_X3_fact_76 : decode mX3_fact.1 76 = .ok (.getfield 15, 3) ∧ 76 + 3 = 79 := ⟨by decide +kernel, rfl⟩
theorem d_X3_fact_79 : decode mX3_fact.1 79 = .ok (.bipush 93, 2) ∧ 79 + 2 = 81 := ⟨by decide +kernel, rfl⟩
theorem d_X3_fact_81 : decode mX3_fact.1 81 = .ok (.invokevirtual 69, 3) ∧ 81 + 3 = 84 := ⟨by decide +kernel, rfl⟩
theorem d_X3_fact_84 : decode mX3_fact.1 84 = .ok (.ifCond .eq 7, 3) ∧ 84 + 3 = 87 ∧ ((84 : Nat) : Int) + 7 = ((91 : Nat) : Int) := ⟨by decide +kernel, rfl, rfl⟩
theorem d_X3_fact_87 : decode mX3_fact.1 87 = .ok (.iconst 1, 1) ∧ 87 + 1 = 88 := ⟨by decide +kernel, rfl⟩
theorem d_X3_fact_88 : decode mX3_fact.1 88 = .ok (.goto 4, 3) ∧ ((88 : Nat) : Int) + 4 = ((92 : Nat) : Int) := ⟨by decide +kernel, rfl⟩
set_option maxRecDepth 100000 in
set_option maxHeartbeats 4000000 in
theorem g_X3_fact (l : Launch) (G : xa_C) (n : Nat) (rc : Nat → Int → Int → xa_H → Option (Int × xa_H)) (hrc : ∀ (k : Nat) (a b : Int) (h : xa_H) (r : Int × xa_H), rc k a b h = some r → xa_RC l G (4 + n) k a b h r) (v0 v1 : Int) (h : xa_H) : xa_G l G (5 + n) mX3_fact (f_X3_fact rc v0 v1 h) (fun r => some (some (xI r.1), r.2) : (Int × xa_H) → Option xa_O) 0 [some (xR v0), some (xI v1), none] [] h := by
  unfold f_X3_fact
  refine xa_step (xa_aload_n d_X3_fact_0 rfl) ?_
  refine xa_getf xR xc_3 (by decide) (fun _ => rfl) xw_298 rfl d_X3_fact_1 (fun x1 _ => ?_)
  refine xa_getf xI xc_6 (by decide) (fun _ => rfl) xw_259 rfl d_X3_fact_4 (fun x2 _ => ?_)
  refine xa_step (xa_bipush d_X3_fact_7 xq_b_19) ?_
  refine xa_if (xa_icmpne d_X3_fact_9) (fun q3 => ?_) (fun q3 => ?_)
  · refine xa_step (xa_aload_n d_X3_fact_12 rfl) ?_
    refine xa_step (xa_iload_n d_X3_fact_13 rfl) ?_
    refine xa_callVI (as := [xI v1]) (st := []) (M' := mX3_stepInto) (d' := 3) rfl xw_791 xw_793 xw_19 xw_794 xw_167 xh_X3_stepInto rfl ⟨by omega, by show 8 + (2 + 11) + 64 * (3) ≤ 64 * (5 + n); omega⟩ (Nat.le_of_ble_eq_true rfl) rfl d_X3_fact_14 (fun r hr => ct_X3_stepInto l G v0 v1 h r hr) (fun r4 _ => ?_)
    refine xa_if (xa_ifeq d_X3_fact_17) (fun q5 => ?_) (fun q5 => ?_)
    · refine xa_step (xa_iconst d_X3_fact_43 xq_i_0) ?_
      exact xa_zret d_X3_fact_44 rfl (Or.inl rfl) rfl
    · refine xa_step (xa_aload_n d_X3_fact_20 rfl) ?_
      refine xa_step (xa_iload_n d_X3_fact_21 rfl) ?_
      refine xa_step (xa_iconst d_X3_fact_22 xq_i_1) ?_
      refine xa_step (xa_iadd d_X3_fact_23) ?_
      refine xa_callVI (as := [xI (w32 (v1 + 1))]) (st := []) (M' := mX3_fact) (d' := 4 + n) rfl xw_787 xw_789 xw_18 xw_790 xw_167 xh_X3_fact rfl ⟨by omega, by show 8 + (3 + 11) + 64 * (4 + n) ≤ 64 * (5 + n); omega⟩ (Nat.le_of_ble_eq_true rfl) rfl d_X3_fact_24 (fun r hr => hrc 2 v0 (w32 (v1 + 1)) r4.2 r hr) (fun r6 _ => ?_)
      refine xa_if (xa_ifeq d_X3_fact_27) (fun q7 => ?_) (fun q7 => ?_)
      · refine xa_step (xa_iconst d_X3_fact_43 xq_i_0) ?_
        exact xa_zret d_X3_fact_44 rfl (Or.inl rfl) rfl
      · refine xa_step (xa_aload_n d_X3_fact_30 rfl) ?_
        refine xa_step (xa_bipush d_X3_fact_31 xq_b_m9) ?_
        refine xa_callVI (as := [xI ((-9))]) (st := []) (M' := mX3_put) (d' := 2) rfl xw_796 xw_798 xw_20 xw_799 xw_167 xh_X3_put rfl ⟨by omega, by show 8 + (2 + 11) + 64 * (2) ≤ 64 * (5 + n); omega⟩ (Nat.le_of_ble_eq_true rfl) rfl d_X3_fact_33 (fun r hr => ct_X3_put l G v0 ((-9)) r6.2 r hr) (fun r8 _ => ?_)
        refine xa_if (xa_ifeq d_X3_fact_36) (fun q9 => ?_) (fun q9 => ?_)
        · refine xa_step (xa_iconst d_X3_fact_43 xq_i_0) ?_
          exact xa_zret d_X3_fact_44 rfl (Or.inl rfl) rfl
        · refine xa_step (xa_iconst d_X3_fact_39 xq_i_1) ?_
          refine xa_step (xa_goto d_X3_fact_40) ?_
          exact xa_zret d_X3_fact_44 rfl (Or.inr rfl) rfl
  · refine xa_step (xa_aload_n d_X3_fact_45 rfl) ?_
    refine xa_getf xR xc_3 (by decide) (fun _ => rfl) xw_298 rfl d_X3_fact_46 (fun x10 _ => ?_)
    refine xa_step (xa_bipush d_X3_fact_49 xq_b_91) ?_
    refine xa_callVi (as := [xI 91]) (st := []) (M' := mX6_isSign) (d' := 2) rfl xw_800 xw_801 xw_802 xw_803 xw_162 xh_X6_isSign rfl ⟨by omega, by show 8 + (2 + 11) + 64 * (2) ≤ 64 * (5 + n); omega⟩ (Nat.le_of_ble_eq_true rfl) rfl d_X3_fact_51 (fun r hr => ct_X6_isSign l G x10 91 h r hr) (fun r11 _ => ?_)
    refine xa_if (xa_ifeq d_X3_fact_54) (fun q12 => ?_) (fun q12 => ?_)
    · refine xa_step (xa_aload_n d_X3_fact_93 rfl) ?_
      refine xa_getf xR xc_3 (by decide) (fun _ => rfl) xw_298 rfl d_X3_fact_94 (fun x13 _ => ?_)
      refine xa_getf xI xc_6 (by decide) (fun _ => rfl) xw_259 rfl d_X3_fact_97 (fun x14 _ => ?_)
      refine xa_step (xa_bipush d_X3_fact_100 xq_b_20) ?_
      refine xa_if (xa_icmpne d_X3_fact_102) (fun q15 => ?_) (fun q15 => ?_)
      · refine xa_step (xa_aload_n d_X3_fact_105 rfl) ?_
        refine xa_getf xR xc_3 (by decide) (fun _ => rfl) xw_298 rfl d_X3_fact_106 (fun x16 _ => ?_)
        refine xa_callVV (as := []) (st := []) (M' := mX6_step) (d' := 2) rfl xw_778 xw_677 xw_678 xw_679 xw_162 xh_X6_step rfl ⟨by omega, by show 8 + (5 + 11) + 64 * (2) ≤ 64 * (5 + n); omega⟩ (Nat.le_of_ble_eq_true rfl) rfl d_X3_fact_109 (fun r hr => ct_X6_step l G x16 h r hr) (fun r17 _ => ?_)
        refine xa_step (xa_aload_n d_X3_fact_112 rfl) ?_
        refine xa_step (xa_iconst d_X3_fact_113 xq_i_1) ?_
        refine xa_callVI (as := [xI 1]) (st := []) (M' := mX3_put) (d' := 2) rfl xw_796 xw_798 xw_20 xw_799 xw_167 xh_X3_put rfl ⟨by omega, by show 8 + (2 + 11) + 64 * (2) ≤ 64 * (5 + n); omega⟩ (Nat.le_of_ble_eq_true rfl) rfl d_X3_fact_114 (fun r hr => ct_X3_put l G v0 1 r17 r hr) (fun r18 _ => ?_)
        refine xa_bo (fun q19 => ?_)
        exact xa_zret d_X3_fact_117 rfl q19 rfl
      · refine xa_step (xa_aload_n d_X3_fact_118 rfl) ?_
        refine xa_step (xa_iload_n d_X3_fact_119 rfl) ?_
        refine xa_callVI (as := [xI v1]) (st := []) (M' := mX3_sum) (d' := 4 + n) rfl xw_808 xw_810 xw_21 xw_811 xw_167 xh_X3_sum rfl ⟨by omega, by show 8 + (5 + 11) + 64 * (4 + n) ≤ 64 * (5 + n); omega⟩ (Nat.le_of_ble_eq_true rfl) rfl d_X3_fact_120 (fun r hr => hrc 3 v0 v1 h r hr) (fun r20 _ => ?_)
        refine xa_if (xa_ifne d_X3_fact_123) (fun q21 => ?_) (fun q21 => ?_)
        · refine xa_step (xa_iconst d_X3_fact_126 xq_i_0) ?_
          exact xa_zret d_X3_fact_127 rfl (Or.inl rfl) rfl
        · refine xa_step (xa_aload_n d_X3_fact_128 rfl) ?_
          refine xa_step (xa_bipush d_X3_fact_129 xq_b_60) ?_
          refine xa_step (xa_bipush d_X3_fact_131 xq_b_m17) ?_
          refine xa_step (xa_bipush d_X3_fact_133 xq_b_62) ?_
          refine xa_step (xa_bipush d_X3_fact_135 xq_b_m18) ?_
          refine xa_callVi (as := [xI 60, xI ((-17)), xI 62, xI ((-18))]) (st := []) (M' := mX3_signCode) (d' := 3) rfl xw_830 xw_832 xw_26 xw_833 xw_167 xh_X3_signCode rfl ⟨by omega, by show 8 + (5 + 11) + 64 * (3) ≤ 64 * (5 + n); omega⟩ (Nat.le_of_ble_eq_true rfl) rfl d_X3_fact_137 (fun r hr => ct_X3_signCode l G v0 60 ((-17)) 62 ((-18)) r20.2 r hr) (fun r22 _ => ?_)
          refine xa_step (xa_istore_n (ls' := [some (xR v0), some (xI v1), some (xI r22)]) d_X3_fact_140 (by decide) rfl) ?_
          refine xa_step (xa_aload_n d_X3_fact_141 rfl) ?_
          refine xa_getf xR xc_3 (by decide) (fun _ => rfl) xw_298 rfl d_X3_fact_142 (fun x23 _ => ?_)
          refine xa_step (xa_bipush d_X3_fact_145 xq_b_61) ?_
          refine xa_callVi (as := [xI 61]) (st := []) (M' := mX6_isSign) (d' := 2) rfl xw_800 xw_801 xw_802 xw_803 xw_162 xh_X6_isSign rfl ⟨by omega, by show 8 + (2 + 11) + 64 * (2) ≤ 64 * (5 + n); omega⟩ (Nat.le_of_ble_eq_true rfl) rfl d_X3_fact_147 (fun r hr => ct_X6_isSign l G x23 61 r20.2 r hr) (fun r24 _ => ?_)
          refine xa_if (xa_ifeq d_X3_fact_150) (fun q25 => ?_) (fun q25 => ?_)
          · refine xa_step (xa_iload_n d_X3_fact_158 rfl) ?_
            exact xa_weak (ls' := [some (xR v0), some (xI v1), none]) ⟨rfl, rfl, trivial⟩ (g_X3_fact_J159 l G n rc hrc v0 v1 r22 r20.2)
          · refine xa_step (xa_bipush d_X3_fact_153 xq_b_m19) ?_
            refine xa_step (xa_goto d_X3_fact_155) ?_
            exact xa_weak (ls' := [some (xR v0), some (xI v1), none]) ⟨rfl, rfl, trivial⟩ (g_X3_fact_J159 l G n rc hrc v0 v1 ((-19)) r20.2)
    · refine xa_step (xa_aload_n d_X3_fact_57 rfl) ?_
      refine xa_step (xa_iload_n d_X3_fact_58 rfl) ?_
      refine xa_callVI (as := [xI v1]) (st := []) (M' := mX3_stepInto) (d' := 3) rfl xw_791 xw_793 xw_19 xw_794 xw_167 xh_X3_stepInto rfl ⟨by omega, by show 8 + (2 + 11) + 64 * (3) ≤ 64 * (5 + n); omega⟩ (Nat.le_of_ble_eq_true rfl) rfl d_X3_fact_59 (fun r hr => ct_X3_stepInto l G v0 v1 h r hr) (fun r36 _ => ?_)
      refine xa_if (xa_ifeq d_X3_fact_62) (fun q37 => ?_) (fun q37 => ?_)
      · refine xa_step (xa_iconst d_X3_fact_91 xq_i_0) ?_
        exact xa_zret d_X3_fact_92 rfl (Or.inl rfl) rfl
      · refine xa_step (xa_aload_n d_X3_fact_65 rfl) ?_
        refine xa_step (xa_iload_n d_X3_fact_66 rfl) ?_
        refine xa_step (xa_iconst d_X3_fact_67 xq_i_1) ?_
        refine xa_step (xa_iadd d_X3_fact_68) ?_
        refine xa_callVI (as := [xI (w32 (v1 + 1))]) (st := []) (M' := mX3_test) (d' := 4 + n) rfl xw_779 xw_781 xw_16 xw_782 xw_167 xh_X3_test rfl ⟨by omega, by show 8 + (4 + 11) + 64 * (4 + n) ≤ 64 * (5 + n); omega⟩ (Nat.le_of_ble_eq_true rfl) rfl d_X3_fact_69 (fun r hr => hrc 0 v0 (w32 (v1 + 1)) r36.2 r hr) (fun r38 _ => ?_)
        refine xa_if (xa_ifeq d_X3_fact_72) (fun q39 => ?_) (fun q39 => ?_)
        · refine xa_step (xa_iconst d_X3_fact_91 xq_i_0) ?_
          exact xa_zret d_X3_fact_92 rfl (Or.inl rfl) rfl
        · refine xa_step (xa_aload_n d_X3_fact_75 rfl) ?_
          refine xa_getf xR xc_3 (by decide) (fun _ => rfl) xw_298 rfl d_X3_fact_76 (fun x40 _ => ?_)
          refine xa_step (xa_bipush d_X3_fact_79 xq_b_93) ?_
          refine xa_callVI (as := [xI 93]) (st := []) (M' := mX6_needSign) (d' := 3) rfl xw_804 xw_805 xw_806 xw_807 xw_162 xh_X6_needSign rfl ⟨by omega, by show 8 + (2 + 11) + 64 * (3) ≤ 64 * (5 + n); omega⟩ (Nat.le_of_ble_eq_true rfl) rfl d_X3_fact_81 (fun r hr => ct_X6_needSign l G x40 93 r38.2 r hr) (fun r41 _ => ?_)
          refine xa_if (xa_ifeq d_X3_fact_84) (fun q42 => ?_) (fun q42 => ?_)
          · refine xa_step (xa_iconst d_X3_fact_91 xq_i_0) ?_
            exact xa_zret d_X3_fact_92 rfl (Or.inl rfl) rfl
          · refine xa_step (xa_iconst d_X3_fact_87 xq_i_1) ?_
            refine xa_step (xa_goto d_X3_fact_88) ?_
            exact xa_zret d_X3_fact_92 rfl (Or.inr rfl) rfl
theorem ct_X3_fact (l : Launch) (G : xa_C) (n : Nat) (rc : Nat → Int → Int → xa_H → Option (Int × xa_H)) (hrc : ∀ (k : Nat) (a b : Int) (h : xa_H) (r : Int × xa_H), rc k a b h = some r → xa_RC l G (4 + n) k a b h r) (v0 v1 : Int) (h : xa_H) (r : Int × xa_H) (hr : f_X3_fact rc v0 v1 h = some r) : xa_CT l G (5 + n) mX3_fact yX3_fact [xR v0, xI v1] h (some (xI r.1), r.2) :=
  xa_met (by decide +kernel) rfl (fun q => by first | rfl | cases q) (Nat.le_of_ble_eq_true rfl) rfl (g_X3_fact l G n rc hrc v0 v1 h) (by rw [hr]; rfl)
theorem d_X3_sum_0 : decode mX3_sum.1 0 = .ok (.aload_n 0, 1) ∧ 0 + 1 = 1 := ⟨by decide +kernel, rfl⟩
theorem d_X3_sum_1 : decode mX3_sum.1 1 = .ok (.iload_n 1, 1) ∧ 1 + 1 = 2 := ⟨by decide +kernel, rfl⟩
theorem d_X3_sum_2 : decode mX3_sum.1 2 = .ok (.invokevirtual 80, 3) ∧ 2 + 3 = 5 := ⟨by decide +kernel, rfl⟩
theorem d_X3_sum_5 : decode mX3_sum.1 5 = .ok (.istore_n 2, 1) ∧ 5 + 1 = 6 := ⟨by decide +kernel, rfl⟩
theorem d_X3_sum_6 : decode mX3_sum.1 6 = .ok (.aload_n 0, 1) ∧ 6 + 1 = 7 := ⟨by decide +kernel, rfl⟩
theorem d_X3_sum_7 : decode mX3_sum.1 7 = .ok (.bipush 43, 2) ∧ 7 + 2 = 9 := ⟨by decide +kernel, rfl⟩
theorem d_X3_sum_9 : decode mX3_sum.1 9 = .ok (.bipush (-11), 2) ∧ 9 + 2 = 11 := ⟨by decide +kernel, rfl⟩
theorem d_X3_sum_11 : decode mX3_sum.1 11 = .ok (.bipush 45, 2) ∧ 11 + 2 = 13 := ⟨by decide +kernel, rfl⟩
theorem d_X3_sum_13 : decode mX3_sum.1 13 = .ok (.bipush (-12), 2) ∧ 13 + 2 = 15 := ⟨by decide +kernel, rfl⟩
theorem d_X3_sum_15 : decode mX3_sum.1 15 = .ok (.invokevirtual 72, 3) ∧ 15 + 3 = 18 := ⟨by decide +kernel, rfl⟩
theorem d_X3_sum_18 : decode mX3_sum.1 18 = .ok (.istore_n 3, 1) ∧ 18 + 1 = 19 := ⟨by decide +kernel, rfl⟩
theorem d_X3_sum_19 : decode mX3_sum.1 19 = .ok (.iconst 0, 1) ∧ 19 + 1 = 20 := ⟨by decide +kernel, rfl⟩
theorem d_X3_sum_20 : decode mX3_sum.1 20 = .ok (.istore 4, 2) ∧ 20 + 2 = 22 := ⟨by decide +kernel, rfl⟩
theorem d_X3_sum_22 : decode mX3_sum.1 22 = .ok (.iload_n 2, 1) ∧ 22 + 1 = 23 := ⟨by decide +kernel, rfl⟩
theorem d_X3_sum_23 : decode mX3_sum.1 23 = .ok (.ifCond .eq 65, 3) ∧ 23 + 3 = 26 ∧ ((23 : Nat) : Int) + 65 = ((88 : Nat) : Int) := ⟨by decide +kernel, rfl, rfl⟩
theorem d_X3_sum_26 : decode mX3_sum.1 26 = .ok (.iload_n 3, 1) ∧ 26 + 1 = 27 := ⟨by decide +kernel, rfl⟩
theorem d_X3_sum_27 : decode mX3_sum.1 27 = .ok (.bipush (-22), 2) ∧ 27 + 2 = 29 := ⟨by decide +kernel, rfl⟩
theorem d_X3_sum_29 : decode mX3_sum.1 29 = .ok (.if_icmp .eq 59, 3) ∧ 29 + 3 = 32 ∧ ((29 : Nat) : Int) + 59 = ((88 : Nat) : Int) := ⟨by decide +kernel, rfl, rfl⟩
theorem d_X3_sum_32 : decode mX3_sum.1 32 = .ok (.iload 4, 2) ∧ 32 + 2 = 34 := ⟨by decide +kernel, rfl⟩
theorem d_X3_sum_34 : decode mX3_sum.1 34 = .ok (.sipush 1600, 3) ∧ 34 + 3 = 37 := ⟨by decide +kernel, rfl⟩
theorem d_X3_sum_37 : decode mX3_sum.1 37 = .ok (.if_icmp .ge 51, 3) ∧ 37 + 3 = 40 ∧ ((37 : Nat) : Int) + 51 = ((88 : Nat) : Int) := ⟨by decide +kernel, rfl, rfl⟩
theorem d_X3_sum_40 : decode mX3_sum.1 40 = .ok (.aload_n 0, 1) ∧ 40 + 1 = 41 := ⟨by decide +kernel, rfl⟩
theorem d_X3_sum_41 : decode mX3_sum.1 41 = .ok (.getfield 15, 3) ∧ 41 + 3 = 44 := ⟨by decide +kernel, rfl⟩
theorem d_X3_sum_44 : decode mX3_sum.1 44 = .ok (.invokevirtual 27, 3) ∧ 44 + 3 = 47 := ⟨by decide +kernel, rfl⟩
theorem d_X3_sum_47 : decode mX3_sum.1 47 = .ok (.aload_n 0, 1) ∧ 47 + 1 = 48 := ⟨by decide +kernel, rfl⟩
theorem d_X3_sum_48 : decode mX3_sum.1 48 = .ok (.iload_n 1, 1) ∧ 48 + 1 = 49 := ⟨by decide +kernel, rfl⟩
theorem d_X3_sum_49 : decode mX3_sum.1 49 = .ok (.invokevirtual 80, 3) ∧ 49 + 3 = 52 := ⟨by decide +kernel, rfl⟩
theorem d_X3_sum_52 : decode mX3_sum.1 52 = .ok (.ifCond .eq 15, 3) ∧ 52 + 3 = 55 ∧ ((52 : Nat) : Int) + 15 = ((67 : Nat) : Int) := ⟨by decide +kernel, rfl, rfl⟩
theorem d_X3_sum_67 : decode mX3_sum.1 67 = .ok (.iconst 0, 1) ∧ 67 + 1 = 68 := ⟨by decide +kernel, rfl⟩
theorem d_X3_sum_68 : decode mX3_sum.1 68 = .ok (.istore_n 2, 1) ∧ 68 + 1 = 69 := ⟨by decide +kernel, rfl⟩
theorem d_X3_sum_69 : decode mX3_sum.1 69 = .ok (.aload_n 0, 1) ∧ 69 + 1 = 70 := ⟨by decide +kernel, rfl⟩
theorem d_X3_sum_70 : decode mX3_sum.1 70 = .ok (.bipush 43, 2) ∧ 70 + 2 = 72 := ⟨by decide +kernel, rfl⟩
theorem d_X3_sum_72 : decode mX3_sum.1 72 = .ok (.bipush (-11), 2) ∧ 72 + 2 = 74 := ⟨by decide +kernel, rfl⟩
theorem d_X3_sum_74 : decode mX3_sum.1 74 = .ok (.bipush 45, 2) ∧ 74 + 2 = 76 := ⟨by decide +kernel, rfl⟩
theorem d_X3_sum_76 : decode mX3_sum.1 76 = .ok (.bipush (-12), 2) ∧ 76 + 2 = 78 := ⟨by decide +kernel, rfl⟩
theorem d_X3_sum_78 : decode mX3_sum.1 78 = .ok (.invokevirtual 72, 3) ∧ 78 + 3 = 81 := ⟨by decide +kernel, rfl⟩
theorem d_X3_sum_81 : decode mX3_sum.1 81 = .ok (.istore_n 3, 1) ∧ 81 + 1 = 82 := ⟨by decide +kernel, rfl⟩
theorem d_X3_sum_82 : decode mX3_sum.1 82 = .ok (.iinc 4 1, 3) ∧ 82 + 3 = 85 := ⟨by decide +kernel, rfl⟩
theorem d_X3_sum_85 : decode mX3_sum.1 85 = .ok (.goto (-63), 3) ∧ ((85 : Nat) : Int) + (-63) = ((22 : Nat) : Int) := ⟨by decide +kernel, rfl⟩
set_option maxRecDepth 100000 in
set_option maxHeartbeats 4000000 in
theorem g_X3_sum_J68L22 (l : Launch) (G : xa_C) (n : Nat) (rc : Nat → Int → Int → xa_H → Option (Int × xa_H)) (hrc : ∀ (k : Nat) (a b : Int) (h : xa_H) (r : Int × xa_H), rc k a b h = some r → xa_RC l G (4 + n) k a b h r) (c0 c1 : Int) (K : (Int × Int × Int × xa_H) ⊕ (Int × xa_H) → Option xa_O) (hb : ∀ (v2 : Int) (v3 : Int) (v4 : Int) (h : xa_H), xa_G l G (5 + n) mX3_sum (some (Sum.inl ((v2, v3, v4, h)))) K 22 [some (xR c0), some (xI c1), some (xI v2), some (xI v3), some (xI v4)] [] h) (hx : ∀ (v2 : Int) (h : xa_H), xa_G l G (5 + n) mX3_sum (some (Sum.inr ((v2, h)))) K 88 [none, none, some (xI v2), none, none] [] h) : ∀ (v4 s0 : Int) (h : xa_H) , xa_G l G (5 + n) mX3_sum (f_X3_sum_J68L22 rc c0 c1 v4 s0 h) K 68 [some (xR c0), some (xI c1), none, none, some (xI v4)] [xI s0] h := by
  intro v4 s0 h
  unfold f_X3_sum_J68L22
  refine xa_step (xa_istore_n (ls' := [some (xR c0), some (xI c1), some (xI s0), none, some (xI v4)]) d_X3_sum_68 (by decide) rfl) ?_
  refine xa_step (xa_aload_n d_X3_sum_69 rfl) ?_
  refine xa_step (xa_bipush d_X3_sum_70 xq_b_43) ?_
  refine xa_step (xa_bipush d_X3_sum_72 xq_b_m11) ?_
  refine xa_step (xa_bipush d_X3_sum_74 xq_b_45) ?_
  refine xa_step (xa_bipush d_X3_sum_76 xq_b_m12) ?_
  refine xa_callVi (as := [xI 43, xI ((-11)), xI 45, xI ((-12))]) (st := []) (M' := mX3_signCode) (d' := 3) rfl xw_830 xw_832 xw_26 xw_833 xw_167 xh_X3_signCode rfl ⟨by omega, by show 8 + (5 + 11) + 64 * (3) ≤ 64 * (5 + n); omega⟩ (Nat.le_of_ble_eq_true rfl) rfl d_X3_sum_78 (fun r hr => ct_X3_signCode l G c0 43 ((-11)) 45 ((-12)) h r hr) (fun r10 _ => ?_)
  refine xa_step (xa_istore_n (ls' := [some (xR c0), some (xI c1), some (xI s0), some (xI r10), some (xI v4)]) d_X3_sum_81 (by decide) rfl) ?_
  refine xa_step (xa_iinc (ls' := [some (xR c0), some (xI c1), some (xI s0), some (xI r10), some (xI (w32 (v4 + 1)))]) d_X3_sum_82 xq_i_1 rfl (by decide) rfl) ?_
  refine xa_step (xa_goto d_X3_sum_85) ?_
  exact xa_weak (ls' := [some (xR c0), some (xI c1), some (xI s0), some (xI r10), some (xI (w32 (v4 + 1)))]) ⟨rfl, rfl, rfl, rfl, rfl, trivial⟩ (hb s0 r10 (w32 (v4 + 1)) h)
set_option maxRecDepth 100000 in
set_option maxHeartbeats 4000000 in
theorem g_X3_sum_J67L22 (l : Launch) (G : xa_C) (n : Nat) (rc : Nat → Int → Int → xa_H → Option (Int × xa_H)) (hrc : ∀ (k : Nat) (a b : Int) (h : xa_H) (r : Int × xa_H), rc k a b h = some r → xa_RC l G (4 + n) k a b h r) (c0 c1 : Int) (K : (Int × Int × Int × xa_H) ⊕ (Int × xa_H) → Option xa_O) (hb : ∀ (v2 : Int) (v3 : Int) (v4 : Int) (h : xa_H), xa_G l G (5 + n) mX3_sum (some (Sum.inl ((v2, v3, v4, h)))) K 22 [some (xR c0), some (xI c1), some (xI v2), some (xI v3), some (xI v4)] [] h) (hx : ∀ (v2 : Int) (h : xa_H), xa_G l G (5 + n) mX3_sum (some (Sum.inr ((v2, h)))) K 88 [none, none, some (xI v2), none, none] [] h) : ∀ (v4 : Int) (h : xa_H) , xa_G l G (5 + n) mX3_sum (f_X3_sum_J67L22 rc c0 c1 v4 h) K 67 [some (xR c0), some (xI c1), none, none, some (xI v4)] [] h := by
  intro v4 h
  unfold f_X3_sum_J67L22
  refine xa_step (xa_iconst d_X3_sum_67 xq_i_0) ?_
  exact xa_weak (ls' := [some (xR c0), some (xI c1), none, none, some (xI v4)]) ⟨rfl, rfl, rfl, trivial⟩ (g_X3_sum_J68L22 l G n rc hrc c0 c1 K hb hx v4 0 h)
theorem d_X3_sum_55 : decode mX3_sum.1 55 = .ok (.aload_n 0, 1) ∧ 55 + 1 = 56 := ⟨by decide +kernel, rfl⟩
theorem d_X3_sum_56 : decode mX3_sum.1 56 = .ok (.iload_n 3, 1) ∧ 56 + 1 = 57 := ⟨by decide +kernel, rfl⟩
theorem d_X3_sum_57 : decode mX3_sum.1 57 = .ok (.invokevirtual 56, 3) ∧ 57 + 3 = 60 := ⟨by decide +kernel, rfl⟩
theorem d_X3_sum_60 : decode mX3_sum.1 60 = .ok (.ifCond .eq 7, 3) ∧ 60 + 3 = 63 ∧ ((60 : Nat) : Int) + 7 = ((67 : Nat) : Int) := ⟨by decide +kernel, rfl, rfl⟩
theorem d_X3_sum_63 : decode mX3_sum.1 63 = .ok (.iconst 1, 1) ∧ 63 + 1 = 64 := ⟨by decide +kernel, rfl⟩
theorem d_X3_sum_64 : decode mX3_sum.1 64 = .ok (.goto 4, 3) ∧ ((64 : Nat) : Int) + 4 = ((68 : Nat) : Int) := ⟨by decide +kernel, rfl⟩
set_option maxRecDepth 100000 in
set_option maxHeartbeats 4000000 in
theorem g_X3_sum_L22 (l : Launch) (G : xa_C) (n : Nat) (rc : Nat → Int → Int → xa_H → Option (Int × xa_H)) (hrc : ∀ (k : Nat) (a b : Int) (h : xa_H) (r : Int × xa_H), rc k a b h = some r → xa_RC l G (4 + n) k a b h r) (c0 c1 : Int) (K : (Int × Int × Int × xa_H) ⊕ (Int × xa_H) → Option xa_O) (hb : ∀ (v2 : Int) (v3 : Int) (v4 : Int) (h : xa_H), xa_G l G (5 + n) mX3_sum (some (Sum.inl ((v2, v3, v4, h)))) K 22 [some (xR c0), some (xI c1), some (xI v2), some (xI v3), some (xI v4)] [] h) (hx : ∀ (v2 : Int) (h : xa_H), xa_G l G (5 + n) mX3_sum (some (Sum.inr ((v2, h)))) K 88 [none, none, some (xI v2), none, none] [] h) : ∀ (v2 : Int) (v3 : Int) (v4 : Int) (h : xa_H), xa_G l G (5 + n) mX3_sum (f_X3_sum_L22 rc c0 c1 v2 v3 v4 h) K 22 [some (xR c0), some (xI c1), some (xI v2), some (xI v3), some (xI v4)] [] h := by
  intro v2 v3 v4 h
  unfold f_X3_sum_L22
  refine xa_step (xa_iload_n d_X3_sum_22 rfl) ?_
  refine xa_if (xa_ifeq d_X3_sum_23) (fun q3 => ?_) (fun q3 => ?_)
  · exact xa_weak (ls' := [none, none, some (xI v2), none, none]) ⟨rfl, trivial⟩ (hx v2 h)
  · refine xa_step (xa_iload_n d_X3_sum_26 rfl) ?_
    refine xa_step (xa_bipush d_X3_sum_27 xq_b_m22) ?_
    refine xa_if (xa_icmpeq d_X3_sum_29) (fun q4 => ?_) (fun q4 => ?_)
    · exact xa_weak (ls' := [none, none, some (xI v2), none, none]) ⟨rfl, trivial⟩ (hx v2 h)
    · refine xa_step (xa_iload d_X3_sum_32 rfl) ?_
      refine xa_step (xa_sipush d_X3_sum_34 xq_s_1600) ?_
      refine xa_if (xa_icmpge d_X3_sum_37) (fun q5 => ?_) (fun q5 => ?_)
      · refine xa_step (xa_aload_n d_X3_sum_40 rfl) ?_
        refine xa_getf xR xc_3 (by decide) (fun _ => rfl) xw_298 rfl d_X3_sum_41 (fun x6 _ => ?_)
        refine xa_callVV (as := []) (st := []) (M' := mX6_step) (d' := 2) rfl xw_778 xw_677 xw_678 xw_679 xw_162 xh_X6_step rfl ⟨by omega, by show 8 + (5 + 11) + 64 * (2) ≤ 64 * (5 + n); omega⟩ (Nat.le_of_ble_eq_true rfl) rfl d_X3_sum_44 (fun r hr => ct_X6_step l G x6 h r hr) (fun r7 _ => ?_)
        refine xa_step (xa_aload_n d_X3_sum_47 rfl) ?_
        refine xa_step (xa_iload_n d_X3_sum_48 rfl) ?_
        refine xa_callVI (as := [xI c1]) (st := []) (M' := mX3_product) (d' := 4 + n) rfl xw_812 xw_814 xw_22 xw_815 xw_167 xh_X3_product rfl ⟨by omega, by show 8 + (5 + 11) + 64 * (4 + n) ≤ 64 * (5 + n); omega⟩ (Nat.le_of_ble_eq_true rfl) rfl d_X3_sum_49 (fun r hr => hrc 4 c0 c1 r7 r hr) (fun r8 _ => ?_)
        refine xa_if (xa_ifeq d_X3_sum_52) (fun q9 => ?_) (fun q9 => ?_)
        · exact xa_weak (ls' := [some (xR c0), some (xI c1), none, none, some (xI v4)]) ⟨rfl, rfl, rfl, trivial⟩ (g_X3_sum_J67L22 l G n rc hrc c0 c1 K hb hx v4 r8.2)
        · refine xa_step (xa_aload_n d_X3_sum_55 rfl) ?_
          refine xa_step (xa_iload_n d_X3_sum_56 rfl) ?_
          refine xa_callVI (as := [xI v3]) (st := []) (M' := mX3_put) (d' := 2) rfl xw_796 xw_798 xw_20 xw_799 xw_167 xh_X3_put rfl ⟨by omega, by show 8 + (2 + 11) + 64 * (2) ≤ 64 * (5 + n); omega⟩ (Nat.le_of_ble_eq_true rfl) rfl d_X3_sum_57 (fun r hr => ct_X3_put l G c0 v3 r8.2 r hr) (fun r11 _ => ?_)
          refine xa_if (xa_ifeq d_X3_sum_60) (fun q12 => ?_) (fun q12 => ?_)
          · exact xa_weak (ls' := [some (xR c0), some (xI c1), none, none, some (xI v4)]) ⟨rfl, rfl, rfl, trivial⟩ (g_X3_sum_J67L22 l G n rc hrc c0 c1 K hb hx v4 r11.2)
          · refine xa_step (xa_iconst d_X3_sum_63 xq_i_1) ?_
            refine xa_step (xa_goto d_X3_sum_64) ?_
            exact xa_weak (ls' := [some (xR c0), some (xI c1), none, none, some (xI v4)]) ⟨rfl, rfl, rfl, trivial⟩ (g_X3_sum_J68L22 l G n rc hrc c0 c1 K hb hx v4 1 r11.2)
      · exact xa_weak (ls' := [none, none, some (xI v2), none, none]) ⟨rfl, trivial⟩ (hx v2 h)
theorem d_X3_sum_88 : decode mX3_sum.1 88 = .ok (.iload_n 2, 1) ∧ 88 + 1 = 89 := ⟨by decide +kernel, rfl⟩
theorem d_X3_sum_89 : decode mX3_sum.1 89 = .ok (.ireturn, 1) := by decide +kernel
set_option maxRecDepth 100000 in
set_option maxHeartbeats 4000000 in
theorem g_X3_sum (l : Launch) (G : xa_C) (n : Nat) (rc : Nat → Int → Int → xa_H → Option (Int × xa_H)) (hrc : ∀ (k : Nat) (a b : Int) (h : xa_H) (r : Int × xa_H), rc k a b h = some r → xa_RC l G (4 + n) k a b h r) (v0 v1 : Int) (h : xa_H) : xa_G l G (5 + n) mX3_sum (f_X3_sum rc v0 v1 h) (fun r => some (some (xI r.1), r.2) : (Int × xa_H) → Option xa_O) 0 [some (xR v0), some (xI v1), none, none, none] [] h := by
  unfold f_X3_sum
  refine xa_step (xa_aload_n d_X3_sum_0 rfl) ?_
  refine xa_step (xa_iload_n d_X3_sum_1 rfl) ?_
  refine xa_callVI (as := [xI v1]) (st := []) (M' := mX3_product) (d' := 4 + n) rfl xw_812 xw_814 xw_22 xw_815 xw_167 xh_X3_product rfl ⟨by omega, by show 8 + (5 + 11) + 64 * (4 + n) ≤ 64 * (5 + n); omega⟩ (Nat.le_of_ble_eq_true rfl) rfl d_X3_sum_2 (fun r hr => hrc 4 v0 v1 h r hr) (fun r1 _ => ?_)
  refine xa_step (xa_istore_n (ls' := [some (xR v0), some (xI v1), some (xI r1.1), none, none]) d_X3_sum_5 (by decide) rfl) ?_
  refine xa_step (xa_aload_n d_X3_sum_6 rfl) ?_
  refine xa_step (xa_bipush d_X3_sum_7 xq_b_43) ?_
  refine xa_step (xa_bipush d_X3_sum_9 xq_b_m11) ?_
  refine xa_step (xa_bipush d_X3_sum_11 xq_b_45) ?_
  refine xa_step (xa_bipush d_X3_sum_13 xq_b_m12) ?_
  refine xa_callVi (as := [xI 43, xI ((-11)), xI 45, xI ((-12))]) (st := []) (M' := mX3_signCode) (d' := 3) rfl xw_830 xw_832 xw_26 xw_833 xw_167 xh_X3_signCode rfl ⟨by omega, by show 8 + (5 + 11) + 64 * (3) ≤ 64 * (5 + n); omega⟩ (Nat.le_of_ble_eq_true rfl) rfl d_X3_sum_15 (fun r hr => ct_X3_signCode l G v0 43 ((-11)) 45 ((-12)) r1.2 r hr) (fun r2 _ => ?_)
  refine xa_step (xa_istore_n (ls' := [some (xR v0), some (xI v1), some (xI r1.1), some (xI r2), none]) d_X3_sum_18 (by decide) rfl) ?_
  refine xa_step (xa_iconst d_X3_sum_19 xq_i_0) ?_
  refine xa_step (xa_istore (ls' := [some (xR v0), some (xI v1), some (xI r1.1), some (xI r2), some (xI 0)]) d_X3_sum_20 (by decide) rfl) ?_
  refine xa_weak (ls' := [some (xR v0), some (xI v1), some (xI r1.1), some (xI r2), some (xI 0)]) ⟨rfl, rfl, rfl, rfl, rfl, trivial⟩ ?_
  refine xa_loop (f := fun s => f_X3_sum_L22 rc v0 v1 s.1 s.2.1 s.2.2.1 s.2.2.2) (L := fun s => [some (xR v0), some (xI v1), some (xI s.1), some (xI s.2.1), some (xI s.2.2.1)]) (P := fun s => s.2.2.2) (X := (fun x K => xa_G l G (5 + n) mX3_sum (some (Sum.inr x)) K 88 [none, none, some (xI x.1), none, none] [] x.2)) (fun K hb hX s => g_X3_sum_L22 l G n rc hrc v0 v1 K (fun w0 w1 w2 hh => hb ((w0, w1, w2, hh))) (fun w0 hh => hX ((w0, hh))) s.1 s.2.1 s.2.2.1 s.2.2.2) ?_ xFU ((r1.1, r2, 0, r1.2))
  intro e13 K hK
  refine xa_eqE hK ?_
  show xa_G l G (5 + n) mX3_sum _ _ 88 [none, none, some (xI e13.1), none, none] [] e13.2
  refine xa_step (xa_iload_n d_X3_sum_88 rfl) ?_
  refine xa_bo (fun q14 => ?_)
  exact xa_zret d_X3_sum_89 rfl q14 rfl
theorem ct_X3_sum (l : Launch) (G : xa_C) (n : Nat) (rc : Nat → Int → Int → xa_H → Option (Int × xa_H)) (hrc : ∀ (k : Nat) (a b : Int) (h : xa_H) (r : Int × xa_H), rc k a b h = some r → xa_RC l G (4 + n) k a b h r) (v0 v1 : Int) (h : xa_H) (r : Int × xa_H) (hr : f_X3_sum rc v0 v1 h = some r) : xa_CT l G (5 + n) mX3_sum yX3_sum [xR v0, xI v1] h (some (xI r.1), r.2) :=
  xa_met (by decide +kernel) rfl (fun q => by first | rfl | cases q) (Nat.le_of_ble_eq_true rfl) rfl (g_X3_sum l G n rc hrc v0 v1 h) (by rw [hr]; rfl)
theorem d_X3_product_0 : decode mX3_product.1 0 = .ok (.aload_n 0, 1) ∧ 0 + 1 = 1 := ⟨by decide +kernel, rfl⟩
theorem d_X3_product_1 : decode mX3_product.1 1 = .ok (.iload_n 1, 1) ∧ 1 + 1 = 2 := ⟨by decide +kernel, rfl⟩
theorem d_X3_product_2 : decode mX3_product.1 2 = .ok (.invokevirtual 83, 3) ∧ 2 + 3 = 5 := ⟨by decide +kernel, rfl⟩
theorem d_X3_product_5 : decode mX3_product.1 5 = .ok (.istore_n 2, 1) ∧ 5 + 1 = 6 := ⟨by decide +kernel, rfl⟩
theorem d_X3_product_6 : decode mX3_product.1 6 = .ok (.aload_n 0, 1) ∧ 6 + 1 = 7 := ⟨by decide +kernel, rfl⟩
theorem d_X3_product_7 : decode mX3_product.1 7 = .ok (.bipush 42, 2) ∧ 7 + 2 = 9 := ⟨by decide +kernel, rfl⟩
theorem d_X3_product_9 : decode mX3_product.1 9 = .ok (.bipush (-13), 2) ∧ 9 + 2 = 11 := ⟨by decide +kernel, rfl⟩
theorem d_X3_product_11 : decode mX3_product.1 11 = .ok (.bipush 47, 2) ∧ 11 + 2 = 13 := ⟨by decide +kernel, rfl⟩
theorem d_X3_product_13 : decode mX3_product.1 13 = .ok (.bipush (-14), 2) ∧ 13 + 2 = 15 := ⟨by decide +kernel, rfl⟩
theorem d_X3_product_15 : decode mX3_product.1 15 = .ok (.invokevirtual 72, 3) ∧ 15 + 3 = 18 := ⟨by decide +kernel, rfl⟩
theorem d_X3_product_18 : decode mX3_product.1 18 = .ok (.istore_n 3, 1) ∧ 18 + 1 = 19 := ⟨by decide +kernel, rfl⟩
theorem d_X3_product_19 : decode mX3_product.1 19 = .ok (.iconst 0, 1) ∧ 19 + 1 = 20 := ⟨by decide +kernel, rfl⟩
theorem d_X3_product_20 : decode mX3_product.1 20 = .ok (.istore 4, 2) ∧ 20 + 2 = 22 := ⟨by decide +kernel, rfl⟩
theorem d_X3_product_22 : decode mX3_product.1 22 = .ok (.iload_n 2, 1) ∧ 22 + 1 = 23 := ⟨by decide +kernel, rfl⟩
theorem d_X3_product_23 : decode mX3_product.1 23 = .ok (.ifCond .eq 65, 3) ∧ 23 + 3 = 26 ∧ ((23 : Nat) : Int) + 65 = ((88 : Nat) : Int) := ⟨by decide +kernel, rfl, rfl⟩
theorem d_X3_product_26 : decode mX3_product.1 26 = .ok (.iload_n 3, 1) ∧ 26 + 1 = 27 := ⟨by decide +kernel, rfl⟩
theorem d_X3_product_27 : decode mX3_product.1 27 = .ok (.bipush (-22), 2) ∧ 27 + 2 = 29 := ⟨by decide +kernel, rfl⟩
theorem d_X3_product_29 : decode mX3_product.1 29 = .ok (.if_icmp .eq 59, 3) ∧ 29 + 3 = 32 ∧ ((29 : Nat) : Int) + 59 = ((88 : Nat) : Int) := ⟨by decide +kernel, rfl, rfl⟩
theorem d_X3_product_32 : decode mX3_product.1 32 = .ok (.iload 4, 2) ∧ 32 + 2 = 34 := ⟨by decide +kernel, rfl⟩
theorem d_X3_product_34 : decode mX3_product.1 34 = .ok (.sipush 1600, 3) ∧ 34 + 3 = 37 := ⟨by decide +kernel, rfl⟩
theorem d_X3_product_37 : decode mX3_product.1 37 = .ok (.if_icmp .ge 51, 3) ∧ 37 + 3 = 40 ∧ ((37 : Nat) : Int) + 51 = ((88 : Nat) : Int) := ⟨by decide +kernel, rfl, rfl⟩
theorem d_X3_product_40 : decode mX3_product.1 40 = .ok (.aload_n 0, 1) ∧ 40 + 1 = 41 := ⟨by decide +kernel, rfl⟩
theorem d_X3_product_41 : decode mX3_product.1 41 = .ok (.getfield 15, 3) ∧ 41 + 3 = 44 := ⟨by decide +kernel, rfl⟩
theorem d_X3_product_44 : decode mX3_product.1 44 = .ok (.invokevirtual 27, 3) ∧ 44 + 3 = 47 := ⟨by decide +kernel, rfl⟩
theorem d_X3_product_47 : decode mX3_product.1 47 = .ok (.aload_n 0, 1) ∧ 47 + 1 = 48 := ⟨by decide +kernel, rfl⟩
theorem d_X3_product_48 : decode mX3_product.1 48 = .ok (.iload_n 1, 1) ∧ 48 + 1 = 49 := ⟨by decide +kernel, rfl⟩
theorem d_X3_product_49 : decode mX3_product.1 49 = .ok (.invokevirtual 83, 3) ∧ 49 + 3 = 52 := ⟨by decide +kernel, rfl⟩
theorem d_X3_product_52 : decode mX3_product.1 52 = .ok (.ifCond .eq 15, 3) ∧ 52 + 3 = 55 ∧ ((52 : Nat) : Int) + 15 = ((67 : Nat) : Int) := ⟨by decide +kernel, rfl, rfl⟩
theorem d_X3_product_67 : decode mX3_product.1 67 = .ok (.iconst 0, 1) ∧ 67 + 1 = 68 := ⟨by decide +kernel, rfl⟩
theorem d_X3_product_68 : decode mX3_product.1 68 = .ok (.istore_n 2, 1) ∧ 68 + 1 = 69 := ⟨by decide +kernel, rfl⟩
theorem d_X3_product_69 : decode mX3_product.1 69 = .ok (.aload_n 0, 1) ∧ 69 + 1 = 70 := ⟨by decide +kernel, rfl⟩
theorem d_X3_product_70 : decode mX3_product.1 70 = .ok (.bipush 42, 2) ∧ 70 + 2 = 72 := ⟨by decide +kernel, rfl⟩
theorem d_X3_product_72 : decode mX3_product.1 72 = .ok (.bipush (-13), 2) ∧ 72 + 2 = 74 := ⟨by decide +kernel, rfl⟩
theorem d_X3_product_74 : decode mX3_product.1 74 = .ok (.bipush 47, 2) ∧ 74 + 2 = 76 := ⟨by decide +kernel, rfl⟩
theorem d_X3_product_76 : decode mX3_product.1 76 = .ok (.bipush (-14), 2) ∧ 76 + 2 = 78 := ⟨by decide +kernel, rfl⟩
theorem d_X3_product_78 : decode mX3_product.1 78 = .ok (.invokevirtual 72, 3) ∧ 78 + 3 = 81 := ⟨by decide +kernel, rfl⟩
theorem d_X3_product_81 : decode mX3_product.1 81 = .ok (.istore_n 3, 1) ∧ 81 + 1 = 82 := ⟨by decide +kernel, rfl⟩
theorem d_X3_product_82 : decode mX3_product.1 82 = .ok (.iinc 4 1, 3) ∧ 82 + 3 = 85 := ⟨by decide +kernel, rfl⟩
theorem d_X3_product_85 : decode mX3_product.1 85 = .ok (.goto (-63), 3) ∧ ((85 : Nat) : Int) + (-63) = ((22 : Nat) : Int) := ⟨by decide +kernel, rfl⟩
set_option maxRecDepth 100000 in
set_option maxHeartbeats 4000000 in
theorem g_X3_product_J68L22 (l : Launch) (G : xa_C) (n : Nat) (rc : Nat → Int → Int → xa_H → Option (Int × xa_H)) (hrc : ∀ (k : Nat) (a b : Int) (h : xa_H) (r : Int × xa_H), rc k a b h = some r → xa_RC l G (4 + n) k a b h r) (c0 c1 : Int) (K : (Int × Int × Int × xa_H) ⊕ (Int × xa_H) → Option xa_O) (hb : ∀ (v2 : Int) (v3 : Int) (v4 : Int) (h : xa_H), xa_G l G (5 + n) mX3_product (some (Sum.inl ((v2, v3, v4, h)))) K 22 [some (xR c0), some (xI c1), some (xI v2), some (xI v3), some (xI v4)] [] h) (hx : ∀ (v2 : Int) (h : xa_H), xa_G l G (5 + n) mX3_product (some (Sum.inr ((v2, h)))) K 88 [none, none, some (xI v2), none, none] [] h) : ∀ (v4 s0 : Int) (h : xa_H) , xa_G l G (5 + n) mX3_product (f_X3_product_J68L22 rc c0 c1 v4 s0 h) K 68 [some (xR c0), some (xI c1), none, none, some (xI v4)] [xI s0] h := by
  intro v4 s0 h
  unfold f_X3_product_J68L22
  refine xa_step (xa_istore_n (ls' := [some (xR c0), some (xI c1), some (xI s0), none, some (xI v4)]) d_X3_product_68 (by decide) rfl) ?_
  refine xa_step (xa_aload_n d_X3_product_69 rfl) ?_
  refine xa_step (xa_bipush d_X3_product_70 xq_b_42) ?_
  refine xa_step (xa_bipush d_X3_product_72 xq_b_m13) ?_
  refine xa_step (xa_bipush d_X3_product_74 xq_b_47) ?_
  refine xa_step (xa_bipush d_X3_product_76 xq_b_m14) ?_
  refine xa_callVi (as := [xI 42, xI ((-13)), xI 47, xI ((-14))]) (st := []) (M' := mX3_signCode) (d' := 3) rfl xw_830 xw_832 xw_26 xw_833 xw_167 xh_X3_signCode rfl ⟨by omega, by show 8 + (5 + 11) + 64 * (3) ≤ 64 * (5 + n); omega⟩ (Nat.le_of_ble_eq_true rfl) rfl d_X3_product_78 (fun r hr => ct_X3_signCode l G c0 42 ((-13)) 47 ((-14)) h r hr) (fun r10 _ => ?_)
  refine xa_step (xa_istore_n (ls' := [some (xR c0), some (xI c1), some (xI s0), some (xI r10), some (xI v4)]) d_X3_product_81 (by decide) rfl) ?_
  refine xa_step (xa_iinc (ls' := [some (xR c0), some (xI c1), some (xI s0), some (xI r10), some (xI (w32 (v4 + 1)))]) d_X3_product_82 xq_i_1 rfl (by decide) rfl) ?_
  refine xa_step (xa_goto d_X3_product_85) ?_
  exact xa_weak (ls' := [some (xR c0), some (xI c1), some (xI s0), some (xI r10), some (xI (w32 (v4 + 1)))]) ⟨rfl, rfl, rfl, rfl, rfl, trivial⟩ (hb s0 r10 (w32 (v4 + 1)) h)
set_option maxRecDepth 100000 in
set_option maxHeartbeats 4000000 in
theorem g_X3_product_J67L22 (l : Launch) (G : xa_C) (n : Nat) (rc : Nat → Int → Int → xa_H → Option (Int × xa_H)) (hrc : ∀ (k : Nat) (a b : Int) (h : xa_H) (r : Int × xa_H), rc k a b h = some r → xa_RC l G (4 + n) k a b h r) (c0 c1 : Int) (K : (Int × Int × Int × xa_H) ⊕ (Int × xa_H) → Option xa_O) (hb : ∀ (v2 : Int) (v3 : Int) (v4 : Int) (h : xa_H), xa_G l G (5 + n) mX3_product (some (Sum.inl ((v2, v3, v4, h)))) K 22 [some (xR c0), some (xI c1), some (xI v2), some (xI v3), some (xI v4)] [] h) (hx : ∀ (v2 : Int) (h : xa_H), xa_G l G (5 + n) mX3_product (some (Sum.inr ((v2, h)))) K 88 [none, none, some (xI v2), none, none] [] h) : ∀ (v4 : Int) (h : xa_H) , xa_G l G (5 + n) mX3_product (f_X3_product_J67L22 rc c0 c1 v4 h) K 67 [some (xR c0), some (xI c1), none, none, some (xI v4)] [] h := by
  intro v4 h
  unfold f_X3_product_J67L22
  refine xa_step (xa_iconst d_X3_product_67 xq_i_0) ?_
  exact xa_weak (ls' := [some (xR c0), some (xI c1), none, none, some (xI v4)]) ⟨rfl, rfl, rfl, trivial⟩ (g_X3_product_J68L22 l G n rc hrc c0 c1 K hb hx v4 0 h)
theorem d_X3_product_55 : decode mX3_product.1 55 = .ok (.aload_n 0, 1) ∧ 55 + 1 = 56 := ⟨by decide +kernel, rfl⟩
theorem d_X3_product_56 : decode mX3_product.1 56 = .ok (.iload_n 3, 1) ∧ 56 + 1 = 57 := ⟨by decide +kernel, rfl⟩
theorem d_X3_product_57 : decode mX3_product.1 57 = .ok (.invokevirtual 56, 3) ∧ 57 + 3 = 60 := ⟨by decide +kernel, rfl⟩
theorem d_X3_product_60 : decode mX3_product.1 60 = .ok (.ifCond .eq 7, 3) ∧ 60 + 3 = 63 ∧ ((60 : Nat) : Int) + 7 = ((67 : Nat) : Int) := ⟨by decide +kernel, rfl, rfl⟩
theorem d_X3_product_63 : decode mX3_product.1 63 = .ok (.iconst 1, 1) ∧ 63 + 1 = 64 := ⟨by decide +kernel, rfl⟩
theorem d_X3_product_64 : decode mX3_product.1 64 = .ok (.goto 4, 3) ∧ ((64 : Nat) : Int) + 4 = ((68 : Nat) : Int) := ⟨by decide +kernel, rfl⟩
set_option maxRecDepth 100000 in
set_option maxHeartbeats 4000000 in
theorem g_X3_product_L22 (l : Launch) (G : xa_C) (n : Nat) (rc : Nat → Int → Int → xa_H → Option (Int × xa_H)) (hrc : ∀ (k : Nat) (a b : Int) (h : xa_H) (r : Int × xa_H), rc k a b h = some r → xa_RC l G (4 + n) k a b h r) (c0 c1 : Int) (K : (Int × Int × Int × xa_H) ⊕ (Int × xa_H) → Option xa_O) (hb : ∀ (v2 : Int) (v3 : Int) (v4 : Int) (h : xa_H), xa_G l G (5 + n) mX3_product (some (Sum.inl ((v2, v3, v4, h)))) K 22 [some (xR c0), some (xI c1), some (xI v2), some (xI v3), some (xI v4)] [] h) (hx : ∀ (v2 : Int) (h : xa_H), xa_G l G (5 + n) mX3_product (some (Sum.inr ((v2, h)))) K 88 [none, none, some (xI v2), none, none] [] h) : ∀ (v2 : Int) (v3 : Int) (v4 : Int) (h : xa_H), xa_G l G (5 + n) mX3_product (f_X3_product_L22 rc c0 c1 v2 v3 v4 h) K 22 [some (xR c0), some (xI c1), some (xI v2), some (xI v3), some (xI v4)] [] h := by
  intro v2 v3 v4 h
  unfold f_X3_product_L22
  refine xa_step (xa_iload_n d_X3_product_22 rfl) ?_
  refine xa_if (xa_ifeq d_X3_product_23) (fun q3 => ?_) (fun q3 => ?_)
  · exact xa_weak (ls' := [none, none, some (xI v2), none, none]) ⟨rfl, trivial⟩ (hx v2 h)
  · refine xa_step (xa_iload_n d_X3_product_26 rfl) ?_
    refine xa_step (xa_bipush d_X3_product_27 xq_b_m22) ?_
    refine xa_if (xa_icmpeq d_X3_product_29) (fun q4 => ?_) (fun q4 => ?_)
    · exact xa_weak (ls' := [none, none, some (xI v2), none, none]) ⟨rfl, trivial⟩ (hx v2 h)
    · refine xa_step (xa_iload d_X3_product_32 rfl) ?_
      refine xa_step (xa_sipush d_X3_product_34 xq_s_1600) ?_
      refine xa_if (xa_icmpge d_X3_product_37) (fun q5 => ?_) (fun q5 => ?_)
      · refine xa_step (xa_aload_n d_X3_product_40 rfl) ?_
        refine xa_getf xR xc_3 (by decide) (fun _ => rfl) xw_298 rfl d_X3_product_41 (fun x6 _ => ?_)
        refine xa_callVV (as := []) (st := []) (M' := mX6_step) (d' := 2) rfl xw_778 xw_677 xw_678 xw_679 xw_162 xh_X6_step rfl ⟨by omega, by show 8 + (5 + 11) + 64 * (2) ≤ 64 * (5 + n); omega⟩ (Nat.le_of_ble_eq_true rfl) rfl d_X3_product_44 (fun r hr => ct_X6_step l G x6 h r hr) (fun r7 _ => ?_)
        refine xa_step (xa_aload_n d_X3_product_47 rfl) ?_
        refine xa_step (xa_iload_n d_X3_product_48 rfl) ?_
        refine xa_callVI (as := [xI c1]) (st := []) (M' := mX3_part) (d' := 4 + n) rfl xw_816 xw_818 xw_23 xw_819 xw_167 xh_X3_part rfl ⟨by omega, by show 8 + (3 + 11) + 64 * (4 + n) ≤ 64 * (5 + n); omega⟩ (Nat.le_of_ble_eq_true rfl) rfl d_X3_product_49 (fun r hr => hrc 5 c0 c1 r7 r hr) (fun r8 _ => ?_)
        refine xa_if (xa_ifeq d_X3_product_52) (fun q9 => ?_) (fun q9 => ?_)
        · exact xa_weak (ls' := [some (xR c0), some (xI c1), none, none, some (xI v4)]) ⟨rfl, rfl, rfl, trivial⟩ (g_X3_product_J67L22 l G n rc hrc c0 c1 K hb hx v4 r8.2)
        · refine xa_step (xa_aload_n d_X3_product_55 rfl) ?_
          refine xa_step (xa_iload_n d_X3_product_56 rfl) ?_
          refine xa_callVI (as := [xI v3]) (st := []) (M' := mX3_put) (d' := 2) rfl xw_796 xw_798 xw_20 xw_799 xw_167 xh_X3_put rfl ⟨by omega, by show 8 + (2 + 11) + 64 * (2) ≤ 64 * (5 + n); omega⟩ (Nat.le_of_ble_eq_true rfl) rfl d_X3_product_57 (fun r hr => ct_X3_put l G c0 v3 r8.2 r hr) (fun r11 _ => ?_)
          refine xa_if (xa_ifeq d_X3_product_60) (fun q12 => ?_) (fun q12 => ?_)
          · exact xa_weak (ls' := [some (xR c0), some (xI c1), none, none, some (xI v4)]) ⟨rfl, rfl, rfl, trivial⟩ (g_X3_product_J67L22 l G n rc hrc c0 c1 K hb hx v4 r11.2)
          · refine xa_step (xa_iconst d_X3_product_63 xq_i_1) ?_
            refine xa_step (xa_goto d_X3_product_64) ?_
            exact xa_weak (ls' := [some (xR c0), some (xI c1), none, none, some (xI v4)]) ⟨rfl, rfl, rfl, trivial⟩ (g_X3_product_J68L22 l G n rc hrc c0 c1 K hb hx v4 1 r11.2)
      · exact xa_weak (ls' := [none, none, some (xI v2), none, none]) ⟨rfl, trivial⟩ (hx v2 h)
theorem d_X3_product_88 : decode mX3_product.1 88 = .ok (.iload_n 2, 1) ∧ 88 + 1 = 89 := ⟨by decide +kernel, rfl⟩
theorem d_X3_product_89 : decode mX3_product.1 89 = .ok (.ireturn, 1) := by decide +kernel
set_option maxRecDepth 100000 in
set_option maxHeartbeats 4000000 in
theorem g_X3_product (l : Launch) (G : xa_C) (n : Nat) (rc : Nat → Int → Int → xa_H → Option (Int × xa_H)) (hrc : ∀ (k : Nat) (a b : Int) (h : xa_H) (r : Int × xa_H), rc k a b h = some r → xa_RC l G (4 + n) k a b h r) (v0 v1 : Int) (h : xa_H) : xa_G l G (5 + n) mX3_product (f_X3_product rc v0 v1 h) (fun r => some (some (xI r.1), r.2) : (Int × xa_H) → Option xa_O) 0 [some (xR v0), some (xI v1), none, none, none] [] h := by
  unfold f_X3_product
  refine xa_step (xa_aload_n d_X3_product_0 rfl) ?_
  refine xa_step (xa_iload_n d_X3_product_1 rfl) ?_
  refine xa_callVI (as := [xI v1]) (st := []) (M' := mX3_part) (d' := 4 + n) rfl xw_816 xw_818 xw_23 xw_819 xw_167 xh_X3_part rfl ⟨by omega, by show 8 + (3 + 11) + 64 * (4 + n) ≤ 64 * (5 + n); omega⟩ (Nat.le_of_ble_eq_true rfl) rfl d_X3_product_2 (fun r hr => hrc 5 v0 v1 h r hr) (fun r1 _ => ?_)
  refine xa_step (xa_istore_n (ls' := [some (xR v0), some (xI v1), some (xI r1.1), none, none]) d_X3_product_5 (by decide) rfl) ?_
  refine xa_step (xa_aload_n d_X3_product_6 rfl) ?_
  refine xa_step (xa_bipush d_X3_product_7 xq_b_42) ?_
  refine xa_step (xa_bipush d_X3_product_9 xq_b_m13) ?_
  refine xa_step (xa_bipush d_X3_product_11 xq_b_47) ?_
  refine xa_step (xa_bipush d_X3_product_13 xq_b_m14) ?_
  refine xa_callVi (as := [xI 42, xI ((-13)), xI 47, xI ((-14))]) (st := []) (M' := mX3_signCode) (d' := 3) rfl xw_830 xw_832 xw_26 xw_833 xw_167 xh_X3_signCode rfl ⟨by omega, by show 8 + (5 + 11) + 64 * (3) ≤ 64 * (5 + n); omega⟩ (Nat.le_of_ble_eq_true rfl) rfl d_X3_product_15 (fun r hr => ct_X3_signCode l G v0 42 ((-13)) 47 ((-14)) r1.2 r hr) (fun r2 _ => ?_)
  refine xa_step (xa_istore_n (ls' := [some (xR v0), some (xI v1), some (xI r1.1), some (xI r2), none]) d_X3_product_18 (by decide) rfl) ?_
  refine xa_step (xa_iconst d_X3_product_19 xq_i_0) ?_
  refine xa_step (xa_istore (ls' := [some (xR v0), some (xI v1), some (xI r1.1), some (xI r2), some (xI 0)]) d_X3_product_20 (by decide) rfl) ?_
  refine xa_weak (ls' := [some (xR v0), some (xI v1), some (xI r1.1), some (xI r2), some (xI 0)]) ⟨rfl, rfl, rfl, rfl, rfl, trivial⟩ ?_
  refine xa_loop (f := fun s => f_X3_product_L22 rc v0 v1 s.1 s.2.1 s.2.2.1 s.2.2.2) (L := fun s => [some (xR v0), some (xI v1), some (xI s.1), some (xI s.2.1), some (xI s.2.2.1)]) (P := fun s => s.2.2.2) (X := (fun x K => xa_G l G (5 + n) mX3_product (some (Sum.inr x)) K 88 [none, none, some (xI x.1), none, none] [] x.2)) (fun K hb hX s => g_X3_product_L22 l G n rc hrc v0 v1 K (fun w0 w1 w2 hh => hb ((w0, w1, w2, hh))) (fun w0 hh => hX ((w0, hh))) s.1 s.2.1 s.2.2.1 s.2.2.2) ?_ xFU ((r1.1, r2, 0, r1.2))
  intro e13 K hK
  refine xa_eqE hK ?_
  show xa_G l G (5 + n) mX3_product _ _ 88 [none, none, some (xI e13.1), none, none] [] e13.2
  refine xa_step (xa_iload_n d_X3_product_88 rfl) ?_
  refine xa_bo (fun q14 => ?_)
  exact xa_zret d_X3_product_89 rfl q14 rfl
theorem ct_X3_product (l : Launch) (G : xa_C) (n : Nat) (rc : Nat → Int → Int → xa_H → Option (Int × xa_H)) (hrc : ∀ (k : Nat) (a b : Int) (h : xa_H) (r : Int × xa_H), rc k a b h = some r → xa_RC l G (4 + n) k a b h r) (v0 v1 : Int) (h : xa_H) (r : Int × xa_H) (hr : f_X3_product rc v0 v1 h = some r) : xa_CT l G (5 + n) mX3_product yX3_product [xR v0, xI v1] h (some (xI r.1), r.2) :=
  xa_met (by decide +kernel) rfl (fun q => by first | rfl | cases q) (Nat.le_of_ble_eq_true rfl) rfl (g_X3_product l G n rc hrc v0 v1 h) (by rw [hr]; rfl)
theorem d_X3_part_0 : decode mX3_part.1 0 = .ok (.aload_n 0, 1) ∧ 0 + 1 = 1 := ⟨by decide +kernel, rfl⟩
theorem d_X3_part_1 : decode mX3_part.1 1 = .ok (.getfield 15, 3) ∧ 1 + 3 = 4 := ⟨by decide +kernel, rfl⟩
theorem d_X3_part_4 : decode mX3_part.1 4 = .ok (.getfield 86, 3) ∧ 4 + 3 = 7 := ⟨by decide +kernel, rfl⟩
theorem d_X3_part_7 : decode mX3_part.1 7 = .ok (.iconst 2, 1) ∧ 7 + 1 = 8 := ⟨by decide +kernel, rfl⟩
theorem d_X3_part_8 : decode mX3_part.1 8 = .ok (.if_icmp .ne 33, 3) ∧ 8 + 3 = 11 ∧ ((8 : Nat) : Int) + 33 = ((41 : Nat) : Int) := ⟨by decide +kernel, rfl, rfl⟩
theorem d_X3_part_11 : decode mX3_part.1 11 = .ok (.aload_n 0, 1) ∧ 11 + 1 = 12 := ⟨by decide +kernel, rfl⟩
theorem d_X3_part_12 : decode mX3_part.1 12 = .ok (.getfield 15, 3) ∧ 12 + 3 = 15 := ⟨by decide +kernel, rfl⟩
theorem d_X3_part_15 : decode mX3_part.1 15 = .ok (.sipush 9999, 3) ∧ 15 + 3 = 18 := ⟨by decide +kernel, rfl⟩
theorem d_X3_part_18 : decode mX3_part.1 18 = .ok (.invokevirtual 89, 3) ∧ 18 + 3 = 21 := ⟨by decide +kernel, rfl⟩
theorem d_X3_part_21 : decode mX3_part.1 21 = .ok (.istore_n 2, 1) ∧ 21 + 1 = 22 := ⟨by decide +kernel, rfl⟩
theorem d_X3_part_22 : decode mX3_part.1 22 = .ok (.iload_n 2, 1) ∧ 22 + 1 = 23 := ⟨by decide +kernel, rfl⟩
theorem d_X3_part_23 : decode mX3_part.1 23 = .ok (.iconst (-1), 1) ∧ 23 + 1 = 24 := ⟨by decide +kernel, rfl⟩
theorem d_X3_part_24 : decode mX3_part.1 24 = .ok (.if_icmp .eq 15, 3) ∧ 24 + 3 = 27 ∧ ((24 : Nat) : Int) + 15 = ((39 : Nat) : Int) := ⟨by decide +kernel, rfl, rfl⟩
theorem d_X3_part_39 : decode mX3_part.1 39 = .ok (.iconst 0, 1) ∧ 39 + 1 = 40 := ⟨by decide +kernel, rfl⟩
theorem d_X3_part_40 : decode mX3_part.1 40 = .ok (.ireturn, 1) := by decide +kernel
theorem d_X3_part_27 : decode mX3_part.1 27 = .ok (.aload_n 0, 1) ∧ 27 + 1 = 28 := ⟨by decide +kernel, rfl⟩
theorem d_X3_part_28 : decode mX3_part.1 28 = .ok (.iload_n 2, 1) ∧ 28 + 1 = 29 := ⟨by decide +kernel, rfl⟩
theorem d_X3_part_29 : decode mX3_part.1 29 = .ok (.invokevirtual 56, 3) ∧ 29 + 3 = 32 := ⟨by decide +kernel, rfl⟩
theorem d_X3_part_32 : decode mX3_part.1 32 = .ok (.ifCond .eq 7, 3) ∧ 32 + 3 = 35 ∧ ((32 : Nat) : Int) + 7 = ((39 : Nat) : Int) := ⟨by decide +kernel, rfl, rfl⟩
theorem d_X3_part_35 : decode mX3_part.1 35 = .ok (.iconst 1, 1) ∧ 35 + 1 = 36 := ⟨by decide +kernel, rfl⟩
theorem d_X3_part_36 : decode mX3_part.1 36 = .ok (.goto 4, 3) ∧ ((36 : Nat) : Int) + 4 = ((40 : Nat) : Int) := ⟨by decide +kernel, rfl⟩
theorem d_X3_part_41 : decode mX3_part.1 41 = .ok (.aload_n 0, 1) ∧ 41 + 1 = 42 := ⟨by decide +kernel, rfl⟩
theorem d_X3_part_42 : decode mX3_part.1 42 = .ok (.getfield 15, 3) ∧ 42 + 3 = 45 := ⟨by decide +kernel, rfl⟩
theorem d_X3_part_45 : decode mX3_part.1 45 = .ok (.bipush 40, 2) ∧ 45 + 2 = 47 := ⟨by decide +kernel, rfl⟩
theorem d_X3_part_47 : decode mX3_part.1 47 = .ok (.invokevirtual 65, 3) ∧ 47 + 3 = 50 := ⟨by decide +kernel, rfl⟩
theorem d_X3_part_50 : decode mX3_part.1 50 = .ok (.ifCond .eq 39, 3) ∧ 50 + 3 = 53 ∧ ((50 : Nat) : Int) + 39 = ((89 : Nat) : Int) := ⟨by decide +kernel, rfl, rfl⟩
theorem d_X3_part_89 : decode mX3_part.1 89 = .ok (.aload_n 0, 1) ∧ 89 + 1 = 90 := ⟨by decide +kernel, rfl⟩
theorem d_X3_part_90 : decode mX3_part.1 90 = .ok (.getfield 15, 3) ∧ 90 + 3 = 93 := ⟨by decide +kernel, rfl⟩
theorem d_X3_part_93 : decode mX3_part.1 93 = .ok (.getfield 53, 3) ∧ 93 + 3 = 96 := ⟨by decide +kernel, rfl⟩
theorem d_X3_part_96 : decode mX3_part.1 96 = .ok (.bipush 21, 2) ∧ 96 + 2 = 98 := ⟨by decide +kernel, rfl⟩
theorem d_X3_part_98 : decode mX3_part.1 98 = .ok (.if_icmp .eq 15, 3) ∧ 98 + 3 = 101 ∧ ((98 : Nat) : Int) + 15 = ((113 : Nat) : Int) := ⟨by decide +kernel, rfl, rfl⟩
theorem d_X3_part_113 : decode mX3_part.1 113 = .ok (.aload_n 0, 1) ∧ 113 + 1 = 114 := ⟨by decide +kernel, rfl⟩
theorem d_X3_part_114 : decode mX3_part.1 114 = .ok (.getfield 15, 3) ∧ 114 + 3 = 117 := ⟨by decide +kernel, rfl⟩
theorem d_X3_part_117 : decode mX3_part.1 117 = .ok (.getfield 53, 3) ∧ 117 + 3 = 120 := ⟨by decide +kernel, rfl⟩
theorem d_X3_part_120 : decode mX3_part.1 120 = .ok (.bipush 21, 2) ∧ 120 + 2 = 122 := ⟨by decide +kernel, rfl⟩
theorem d_X3_part_122 : decode mX3_part.1 122 = .ok (.if_icmp .ne 8, 3) ∧ 122 + 3 = 125 ∧ ((122 : Nat) : Int) + 8 = ((130 : Nat) : Int) := ⟨by decide +kernel, rfl, rfl⟩
theorem d_X3_part_125 : decode mX3_part.1 125 = .ok (.bipush (-15), 2) ∧ 125 + 2 = 127 := ⟨by decide +kernel, rfl⟩
theorem d_X3_part_127 : decode mX3_part.1 127 = .ok (.goto 5, 3) ∧ ((127 : Nat) : Int) + 5 = ((132 : Nat) : Int) := ⟨by decide +kernel, rfl⟩
theorem d_X3_part_132 : decode mX3_part.1 132 = .ok (.istore_n 2, 1) ∧ 132 + 1 = 133 := ⟨by decide +kernel, rfl⟩
theorem d_X3_part_133 : decode mX3_part.1 133 = .ok (.aload_n 0, 1) ∧ 133 + 1 = 134 := ⟨by decide +kernel, rfl⟩
theorem d_X3_part_134 : decode mX3_part.1 134 = .ok (.getfield 15, 3) ∧ 134 + 3 = 137 := ⟨by decide +kernel, rfl⟩
theorem d_X3_part_137 : decode mX3_part.1 137 = .ok (.invokevirtual 27, 3) ∧ 137 + 3 = 140 := ⟨by decide +kernel, rfl⟩
theorem d_X3_part_140 : decode mX3_part.1 140 = .ok (.aload_n 0, 1) ∧ 140 + 1 = 141 := ⟨by decide +kernel, rfl⟩
theorem d_X3_part_141 : decode mX3_part.1 141 = .ok (.iload_n 1, 1) ∧ 141 + 1 = 142 := ⟨by decide +kernel, rfl⟩
theorem d_X3_part_142 : decode mX3_part.1 142 = .ok (.invokevirtual 93, 3) ∧ 142 + 3 = 145 := ⟨by decide +kernel, rfl⟩
theorem d_X3_part_145 : decode mX3_part.1 145 = .ok (.ifCond .eq 15, 3) ∧ 145 + 3 = 148 ∧ ((145 : Nat) : Int) + 15 = ((160 : Nat) : Int) := ⟨by decide +kernel, rfl, rfl⟩
theorem d_X3_part_160 : decode mX3_part.1 160 = .ok (.iconst 0, 1) ∧ 160 + 1 = 161 := ⟨by decide +kernel, rfl⟩
theorem d_X3_part_161 : decode mX3_part.1 161 = .ok (.ireturn, 1) := by decide +kernel
theorem d_X3_part_148 : decode mX3_part.1 148 = .ok (.aload_n 0, 1) ∧ 148 + 1 = 149 := ⟨by decide +kernel, rfl⟩
theorem d_X3_part_149 : decode mX3_part.1 149 = .ok (.iload_n 2, 1) ∧ 149 + 1 = 150 := ⟨by decide +kernel, rfl⟩
theorem d_X3_part_150 : decode mX3_part.1 150 = .ok (.invokevirtual 56, 3) ∧ 150 + 3 = 153 := ⟨by decide +kernel, rfl⟩
theorem d_X3_part_153 : decode mX3_part.1 153 = .ok (.ifCond .eq 7, 3) ∧ 153 + 3 = 156 ∧ ((153 : Nat) : Int) + 7 = ((160 : Nat) : Int) := ⟨by decide +kernel, rfl, rfl⟩
theorem d_X3_part_156 : decode mX3_part.1 156 = .ok (.iconst 1, 1) ∧ 156 + 1 = 157 := ⟨by decide +kernel, rfl⟩
theorem d_X3_part_157 : decode mX3_part.1 157 = .ok (.goto 4, 3) ∧ ((157 : Nat) : Int) + 4 = ((161 : Nat) : Int) := ⟨by decide +kernel, rfl⟩
set_option maxRecDepth 100000 in
set_option maxHeartbeats 4000000 in
theorem g_X3_part_J132 (l : Launch) (G : xa_C) (n : Nat) (rc : Nat → Int → Int → xa_H → Option (Int × xa_H)) (hrc : ∀ (k : Nat) (a b : Int) (h : xa_H) (r : Int × xa_H), rc k a b h = some r → xa_RC l G (4 + n) k a b h r) : ∀ (v0 v1 s0 : Int) (h : xa_H) , xa_G l G (5 + n) mX3_part (f_X3_part_J132 rc v0 v1 s0 h) (fun r => some (some (xI r.1), r.2) : (Int × xa_H) → Option xa_O) 132 [some (xR v0), some (xI v1), none] [xI s0] h := by
  intro v0 v1 s0 h
  unfold f_X3_part_J132
  refine xa_step (xa_istore_n (ls' := [some (xR v0), some (xI v1), some (xI s0)]) d_X3_part_132 (by decide) rfl) ?_
  refine xa_step (xa_aload_n d_X3_part_133 rfl) ?_
  refine xa_getf xR xc_3 (by decide) (fun _ => rfl) xw_298 rfl d_X3_part_134 (fun x18 _ => ?_)
  refine xa_callVV (as := []) (st := []) (M' := mX6_step) (d' := 2) rfl xw_778 xw_677 xw_678 xw_679 xw_162 xh_X6_step rfl ⟨by omega, by show 8 + (5 + 11) + 64 * (2) ≤ 64 * (5 + n); omega⟩ (Nat.le_of_ble_eq_true rfl) rfl d_X3_part_137 (fun r hr => ct_X6_step l G x18 h r hr) (fun r19 _ => ?_)
  refine xa_step (xa_aload_n d_X3_part_140 rfl) ?_
  refine xa_step (xa_iload_n d_X3_part_141 rfl) ?_
  refine xa_callVI (as := [xI v1]) (st := []) (M' := mX3_pair) (d' := 4 + n) rfl xw_821 xw_823 xw_24 xw_824 xw_167 xh_X3_pair rfl ⟨by omega, by show 8 + (2 + 11) + 64 * (4 + n) ≤ 64 * (5 + n); omega⟩ (Nat.le_of_ble_eq_true rfl) rfl d_X3_part_142 (fun r hr => hrc 6 v0 v1 r19 r hr) (fun r20 _ => ?_)
  refine xa_if (xa_ifeq d_X3_part_145) (fun q21 => ?_) (fun q21 => ?_)
  · refine xa_step (xa_iconst d_X3_part_160 xq_i_0) ?_
    exact xa_zret d_X3_part_161 rfl (Or.inl rfl) rfl
  · refine xa_step (xa_aload_n d_X3_part_148 rfl) ?_
    refine xa_step (xa_iload_n d_X3_part_149 rfl) ?_
    refine xa_callVI (as := [xI s0]) (st := []) (M' := mX3_put) (d' := 2) rfl xw_796 xw_798 xw_20 xw_799 xw_167 xh_X3_put rfl ⟨by omega, by show 8 + (2 + 11) + 64 * (2) ≤ 64 * (5 + n); omega⟩ (Nat.le_of_ble_eq_true rfl) rfl d_X3_part_150 (fun r hr => ct_X3_put l G v0 s0 r20.2 r hr) (fun r22 _ => ?_)
    refine xa_if (xa_ifeq d_X3_part_153) (fun q23 => ?_) (fun q23 => ?_)
    · refine xa_step (xa_iconst d_X3_part_160 xq_i_0) ?_
      exact xa_zret d_X3_part_161 rfl (Or.inl rfl) rfl
    · refine xa_step (xa_iconst d_X3_part_156 xq_i_1) ?_
      refine xa_step (xa_goto d_X3_part_157) ?_
      exact xa_zret d_X3_part_161 rfl (Or.inr rfl) rfl
theorem d_X3_part_130 : decode mX3_part.1 130 = .ok (.bipush (-16), 2) ∧ 130 + 2 = 132 := ⟨by decide +kernel, rfl⟩
set_option maxRecDepth 100000 in
set_option maxHeartbeats 4000000 in
theorem g_X3_part_J113 (l : Launch) (G : xa_C) (n : Nat) (rc : Nat → Int → Int → xa_H → Option (Int × xa_H)) (hrc : ∀ (k : Nat) (a b : Int) (h : xa_H) (r : Int × xa_H), rc k a b h = some r → xa_RC l G (4 + n) k a b h r) : ∀ (v0 v1 : Int) (h : xa_H) , xa_G l G (5 + n) mX3_part (f_X3_part_J113 rc v0 v1 h) (fun r => some (some (xI r.1), r.2) : (Int × xa_H) → Option xa_O) 113 [some (xR v0), some (xI v1), none] [] h := by
  intro v0 v1 h
  unfold f_X3_part_J113
  refine xa_step (xa_aload_n d_X3_part_113 rfl) ?_
  refine xa_getf xR xc_3 (by decide) (fun _ => rfl) xw_298 rfl d_X3_part_114 (fun x15 _ => ?_)
  refine xa_getf xI xc_6 (by decide) (fun _ => rfl) xw_259 rfl d_X3_part_117 (fun x16 _ => ?_)
  refine xa_step (xa_bipush d_X3_part_120 xq_b_21) ?_
  refine xa_if (xa_icmpne d_X3_part_122) (fun q17 => ?_) (fun q17 => ?_)
  · refine xa_step (xa_bipush d_X3_part_125 xq_b_m15) ?_
    refine xa_step (xa_goto d_X3_part_127) ?_
    exact xa_weak (ls' := [some (xR v0), some (xI v1), none]) ⟨rfl, rfl, trivial⟩ (g_X3_part_J132 l G n rc hrc v0 v1 ((-15)) h)
  · refine xa_step (xa_bipush d_X3_part_130 xq_b_m16) ?_
    exact xa_weak (ls' := [some (xR v0), some (xI v1), none]) ⟨rfl, rfl, trivial⟩ (g_X3_part_J132 l G n rc hrc v0 v1 ((-16)) h)
theorem d_X3_part_101 : decode mX3_part.1 101 = .ok (.aload_n 0, 1) ∧ 101 + 1 = 102 := ⟨by decide +kernel, rfl⟩
theorem d_X3_part_102 : decode mX3_part.1 102 = .ok (.getfield 15, 3) ∧ 102 + 3 = 105 := ⟨by decide +kernel, rfl⟩
theorem d_X3_part_105 : decode mX3_part.1 105 = .ok (.getfield 53, 3) ∧ 105 + 3 = 108 := ⟨by decide +kernel, rfl⟩
theorem d_X3_part_108 : decode mX3_part.1 108 = .ok (.bipush 22, 2) ∧ 108 + 2 = 110 := ⟨by decide +kernel, rfl⟩
theorem d_X3_part_110 : decode mX3_part.1 110 = .ok (.if_icmp .ne 52, 3) ∧ 110 + 3 = 113 ∧ ((110 : Nat) : Int) + 52 = ((162 : Nat) : Int) := ⟨by decide +kernel, rfl, rfl⟩
theorem d_X3_part_162 : decode mX3_part.1 162 = .ok (.aload_n 0, 1) ∧ 162 + 1 = 163 := ⟨by decide +kernel, rfl⟩
theorem d_X3_part_163 : decode mX3_part.1 163 = .ok (.getfield 19, 3) ∧ 163 + 3 = 166 := ⟨by decide +kernel, rfl⟩
theorem d_X3_part_166 : decode mX3_part.1 166 = .ok (.ifCond .eq 48, 3) ∧ 166 + 3 = 169 ∧ ((166 : Nat) : Int) + 48 = ((214 : Nat) : Int) := ⟨by decide +kernel, rfl, rfl⟩
theorem d_X3_part_214 : decode mX3_part.1 214 = .ok (.aload_n 0, 1) ∧ 214 + 1 = 215 := ⟨by decide +kernel, rfl⟩
theorem d_X3_part_215 : decode mX3_part.1 215 = .ok (.aload_n 0, 1) ∧ 215 + 1 = 216 := ⟨by decide +kernel, rfl⟩
theorem d_X3_part_216 : decode mX3_part.1 216 = .ok (.getfield 15, 3) ∧ 216 + 3 = 219 := ⟨by decide +kernel, rfl⟩
theorem d_X3_part_219 : decode mX3_part.1 219 = .ok (.getfield 53, 3) ∧ 219 + 3 = 222 := ⟨by decide +kernel, rfl⟩
theorem d_X3_part_222 : decode mX3_part.1 222 = .ok (.invokevirtual 96, 3) ∧ 222 + 3 = 225 := ⟨by decide +kernel, rfl⟩
theorem d_X3_part_225 : decode mX3_part.1 225 = .ok (.istore_n 2, 1) ∧ 225 + 1 = 226 := ⟨by decide +kernel, rfl⟩
theorem d_X3_part_226 : decode mX3_part.1 226 = .ok (.iload_n 2, 1) ∧ 226 + 1 = 227 := ⟨by decide +kernel, rfl⟩
theorem d_X3_part_227 : decode mX3_part.1 227 = .ok (.bipush (-22), 2) ∧ 227 + 2 = 229 := ⟨by decide +kernel, rfl⟩
theorem d_X3_part_229 : decode mX3_part.1 229 = .ok (.if_icmp .ne 11, 3) ∧ 229 + 3 = 232 ∧ ((229 : Nat) : Int) + 11 = ((240 : Nat) : Int) := ⟨by decide +kernel, rfl, rfl⟩
theorem d_X3_part_232 : decode mX3_part.1 232 = .ok (.aload_n 0, 1) ∧ 232 + 1 = 233 := ⟨by decide +kernel, rfl⟩
theorem d_X3_part_233 : decode mX3_part.1 233 = .ok (.getfield 15, 3) ∧ 233 + 3 = 236 := ⟨by decide +kernel, rfl⟩
theorem d_X3_part_236 : decode mX3_part.1 236 = .ok (.invokevirtual 76, 3) ∧ 236 + 3 = 239 := ⟨by decide +kernel, rfl⟩
theorem d_X3_part_239 : decode mX3_part.1 239 = .ok (.ireturn, 1) := by decide +kernel
theorem d_X3_part_240 : decode mX3_part.1 240 = .ok (.aload_n 0, 1) ∧ 240 + 1 = 241 := ⟨by decide +kernel, rfl⟩
theorem d_X3_part_241 : decode mX3_part.1 241 = .ok (.getfield 15, 3) ∧ 241 + 3 = 244 := ⟨by decide +kernel, rfl⟩
theorem d_X3_part_244 : decode mX3_part.1 244 = .ok (.invokevirtual 27, 3) ∧ 244 + 3 = 247 := ⟨by decide +kernel, rfl⟩
theorem d_X3_part_247 : decode mX3_part.1 247 = .ok (.aload_n 0, 1) ∧ 247 + 1 = 248 := ⟨by decide +kernel, rfl⟩
theorem d_X3_part_248 : decode mX3_part.1 248 = .ok (.iload_n 2, 1) ∧ 248 + 1 = 249 := ⟨by decide +kernel, rfl⟩
theorem d_X3_part_249 : decode mX3_part.1 249 = .ok (.invokevirtual 56, 3) ∧ 249 + 3 = 252 := ⟨by decide +kernel, rfl⟩
theorem d_X3_part_252 : decode mX3_part.1 252 = .ok (.ireturn, 1) := by decide +kernel
set_option maxRecDepth 100000 in
set_option maxHeartbeats 4000000 in
theorem g_X3_part_J214 (l : Launch) (G : xa_C) (n : Nat) (rc : Nat → Int → Int → xa_H → Option (Int × xa_H)) (hrc : ∀ (k : Nat) (a b : Int) (h : xa_H) (r : Int × xa_H), rc k a b h = some r → xa_RC l G (4 + n) k a b h r) : ∀ (v0 : Int) (h : xa_H) , xa_G l G (5 + n) mX3_part (f_X3_part_J214 rc v0 h) (fun r => some (some (xI r.1), r.2) : (Int × xa_H) → Option xa_O) 214 [some (xR v0), none, none] [] h := by
  intro v0 h
  unfold f_X3_part_J214
  refine xa_step (xa_aload_n d_X3_part_214 rfl) ?_
  refine xa_step (xa_aload_n d_X3_part_215 rfl) ?_
  refine xa_getf xR xc_3 (by decide) (fun _ => rfl) xw_298 rfl d_X3_part_216 (fun x29 _ => ?_)
  refine xa_getf xI xc_6 (by decide) (fun _ => rfl) xw_259 rfl d_X3_part_219 (fun x30 _ => ?_)
  refine xa_callVi (as := [xI x30]) (st := []) (M' := mX3_factCode) (d' := 2) rfl xw_826 xw_828 xw_25 xw_829 xw_167 xh_X3_factCode rfl ⟨by omega, by show 8 + (2 + 11) + 64 * (2) ≤ 64 * (5 + n); omega⟩ (Nat.le_of_ble_eq_true rfl) rfl d_X3_part_222 (fun r hr => ct_X3_factCode l G v0 x30 h r hr) (fun r31 _ => ?_)
  refine xa_step (xa_istore_n (ls' := [some (xR v0), none, some (xI r31)]) d_X3_part_225 (by decide) rfl) ?_
  refine xa_step (xa_iload_n d_X3_part_226 rfl) ?_
  refine xa_step (xa_bipush d_X3_part_227 xq_b_m22) ?_
  refine xa_if (xa_icmpne d_X3_part_229) (fun q32 => ?_) (fun q32 => ?_)
  · refine xa_step (xa_aload_n d_X3_part_232 rfl) ?_
    refine xa_getf xR xc_3 (by decide) (fun _ => rfl) xw_298 rfl d_X3_part_233 (fun x33 _ => ?_)
    refine xa_callVI (as := []) (st := []) (M' := mX6_stray) (d' := 2) rfl xw_825 xw_706 xw_707 xw_708 xw_162 xh_X6_stray rfl ⟨by omega, by show 8 + (1 + 11) + 64 * (2) ≤ 64 * (5 + n); omega⟩ (Nat.le_of_ble_eq_true rfl) rfl d_X3_part_236 (fun r hr => ct_X6_stray l G x33 h r hr) (fun r34 _ => ?_)
    refine xa_bo (fun q35 => ?_)
    exact xa_zret d_X3_part_239 rfl q35 rfl
  · refine xa_step (xa_aload_n d_X3_part_240 rfl) ?_
    refine xa_getf xR xc_3 (by decide) (fun _ => rfl) xw_298 rfl d_X3_part_241 (fun x36 _ => ?_)
    refine xa_callVV (as := []) (st := []) (M' := mX6_step) (d' := 2) rfl xw_778 xw_677 xw_678 xw_679 xw_162 xh_X6_step rfl ⟨by omega, by show 8 + (5 + 11) + 64 * (2) ≤ 64 * (5 + n); omega⟩ (Nat.le_of_ble_eq_true rfl) rfl d_X3_part_244 (fun r hr => ct_X6_step l G x36 h r hr) (fun r37 _ => ?_)
    refine xa_step (xa_aload_n d_X3_part_247 rfl) ?_
    refine xa_step (xa_iload_n d_X3_part_248 rfl) ?_
    refine xa_callVI (as := [xI r31]) (st := []) (M' := mX3_put) (d' := 2) rfl xw_796 xw_798 xw_20 xw_799 xw_167 xh_X3_put rfl ⟨by omega, by show 8 + (2 + 11) + 64 * (2) ≤ 64 * (5 + n); omega⟩ (Nat.le_of_ble_eq_true rfl) rfl d_X3_part_249 (fun r hr => ct_X3_put l G v0 r31 r37 r hr) (fun r38 _ => ?_)
    refine xa_bo (fun q39 => ?_)
    exact xa_zret d_X3_part_252 rfl q39 rfl
theorem d_X3_part_169 : decode mX3_part.1 169 = .ok (.aload_n 0, 1) ∧ 169 + 1 = 170 := ⟨by decide +kernel, rfl⟩
theorem d_X3_part_170 : decode mX3_part.1 170 = .ok (.getfield 15, 3) ∧ 170 + 3 = 173 := ⟨by decide +kernel, rfl⟩
theorem d_X3_part_173 : decode mX3_part.1 173 = .ok (.getfield 53, 3) ∧ 173 + 3 = 176 := ⟨by decide +kernel, rfl⟩
theorem d_X3_part_176 : decode mX3_part.1 176 = .ok (.bipush 14, 2) ∧ 176 + 2 = 178 := ⟨by decide +kernel, rfl⟩
theorem d_X3_part_178 : decode mX3_part.1 178 = .ok (.if_icmp .ne 36, 3) ∧ 178 + 3 = 181 ∧ ((178 : Nat) : Int) + 36 = ((214 : Nat) : Int) := ⟨by decide +kernel, rfl, rfl⟩
theorem d_X3_part_181 : decode mX3_part.1 181 = .ok (.aload_n 0, 1) ∧ 181 + 1 = 182 := ⟨by decide +kernel, rfl⟩
theorem d_X3_part_182 : decode mX3_part.1 182 = .ok (.iload_n 1, 1) ∧ 182 + 1 = 183 := ⟨by decide +kernel, rfl⟩
theorem d_X3_part_183 : decode mX3_part.1 183 = .ok (.invokevirtual 62, 3) ∧ 183 + 3 = 186 := ⟨by decide +kernel, rfl⟩
theorem d_X3_part_186 : decode mX3_part.1 186 = .ok (.ifCond .eq 26, 3) ∧ 186 + 3 = 189 ∧ ((186 : Nat) : Int) + 26 = ((212 : Nat) : Int) := ⟨by decide +kernel, rfl, rfl⟩
theorem d_X3_part_212 : decode mX3_part.1 212 = .ok (.iconst 0, 1) ∧ 212 + 1 = 213 := ⟨by decide +kernel, rfl⟩
theorem d_X3_part_213 : decode mX3_part.1 213 = .ok (.ireturn, 1) := by decide +kernel
theorem d_X3_part_189 : decode mX3_part.1 189 = .ok (.aload_n 0, 1) ∧ 189 + 1 = 190 := ⟨by decide +kernel, rfl⟩
theorem d_X3_part_190 : decode mX3_part.1 190 = .ok (.iload_n 1, 1) ∧ 190 + 1 = 191 := ⟨by decide +kernel, rfl⟩
theorem d_X3_part_191 : decode mX3_part.1 191 = .ok (.iconst 1, 1) ∧ 191 + 1 = 192 := ⟨by decide +kernel, rfl⟩
theorem d_X3_part_192 : decode mX3_part.1 192 = .ok (.iadd, 1) ∧ 192 + 1 = 193 := ⟨by decide +kernel, rfl⟩
theorem d_X3_part_193 : decode mX3_part.1 193 = .ok (.invokevirtual 83, 3) ∧ 193 + 3 = 196 := ⟨by decide +kernel, rfl⟩
theorem d_X3_part_196 : decode mX3_part.1 196 = .ok (.ifCond .eq 16, 3) ∧ 196 + 3 = 199 ∧ ((196 : Nat) : Int) + 16 = ((212 : Nat) : Int) := ⟨by decide +kernel, rfl, rfl⟩
theorem d_X3_part_199 : decode mX3_part.1 199 = .ok (.aload_n 0, 1) ∧ 199 + 1 = 200 := ⟨by decide +kernel, rfl⟩
theorem d_X3_part_200 : decode mX3_part.1 200 = .ok (.bipush (-10), 2) ∧ 200 + 2 = 202 := ⟨by decide +kernel, rfl⟩
theorem d_X3_part_202 : decode mX3_part.1 202 = .ok (.invokevirtual 56, 3) ∧ 202 + 3 = 205 := ⟨by decide +kernel, rfl⟩
theorem d_X3_part_205 : decode mX3_part.1 205 = .ok (.ifCond .eq 7, 3) ∧ 205 + 3 = 208 ∧ ((205 : Nat) : Int) + 7 = ((212 : Nat) : Int) := ⟨by decide +kernel, rfl, rfl⟩
theorem d_X3_part_208 : decode mX3_part.1 208 = .ok (.iconst 1, 1) ∧ 208 + 1 = 209 := ⟨by decide +kernel, rfl⟩
theorem d_X3_part_209 : decode mX3_part.1 209 = .ok (.goto 4, 3) ∧ ((209 : Nat) : Int) + 4 = ((213 : Nat) : Int) := ⟨by decide +kernel, rfl⟩
theorem d_X3_part_53 : decode mX3_part.1 53 = .ok (.aload_n 0, 1) ∧ 53 + 1 = 54 := ⟨by decide +kernel, rfl⟩
theorem d_X3_part_54 : decode mX3_part.1 54 = .ok (.iload_n 1, 1) ∧ 54 + 1 = 55 := ⟨by decide +kernel, rfl⟩
theorem d_X3_part_55 : decode mX3_part.1 55 = .ok (.invokevirtual 62, 3) ∧ 55 + 3 = 58 := ⟨by decide +kernel, rfl⟩
theorem d_X3_part_58 : decode mX3_part.1 58 = .ok (.ifCond .eq 29, 3) ∧ 58 + 3 = 61 ∧ ((58 : Nat) : Int) + 29 = ((87 : Nat) : Int) := ⟨by decide +kernel, rfl, rfl⟩
theorem d_X3_part_87 : decode mX3_part.1 87 = .ok (.iconst 0, 1) ∧ 87 + 1 = 88 := ⟨by decide +kernel, rfl⟩
theorem d_X3_part_88 : decode mX3_part.1 88 = .ok (.ireturn, 1) := by decide +kernel
theorem d_X3_part_61 : decode mX3_part.1 61 = .ok (.aload_n 0, 1) ∧ 61 + 1 = 62 := ⟨by decide +kernel, rfl⟩
theorem d_X3_part_62 : decode mX3_part.1 62 = .ok (.iload_n 1, 1) ∧ 62 + 1 = 63 := ⟨by decide +kernel, rfl⟩
theorem d_X3_part_63 : decode mX3_part.1 63 = .ok (.iconst 1, 1) ∧ 63 + 1 = 64 := ⟨by decide +kernel, rfl⟩
theorem d_X3_part_64 : decode mX3_part.1 64 = .ok (.iadd, 1) ∧ 64 + 1 = 65 := ⟨by decide +kernel, rfl⟩
theorem d_X3_part_65 : decode mX3_part.1 65 = .ok (.invokevirtual 47, 3) ∧ 65 + 3 = 68 := ⟨by decide +kernel, rfl⟩
theorem d_X3_part_68 : decode mX3_part.1 68 = .ok (.ifCond .eq 19, 3) ∧ 68 + 3 = 71 ∧ ((68 : Nat) : Int) + 19 = ((87 : Nat) : Int) := ⟨by decide +kernel, rfl, rfl⟩
theorem d_X3_part_71 : decode mX3_part.1 71 = .ok (.aload_n 0, 1) ∧ 71 + 1 = 72 := ⟨by decide +kernel, rfl⟩
theorem d_X3_part_72 : decode mX3_part.1 72 = .ok (.getfield 15, 3) ∧ 72 + 3 = 75 := ⟨by decide +kernel, rfl⟩
theorem d_X3_part_75 : decode mX3_part.1 75 = .ok (.bipush 41, 2) ∧ 75 + 2 = 77 := ⟨by decide +kernel, rfl⟩
theorem d_X3_part_77 : decode mX3_part.1 77 = .ok (.invokevirtual 69, 3) ∧ 77 + 3 = 80 := ⟨by decide +kernel, rfl⟩
theorem d_X3_part_80 : decode mX3_part.1 80 = .ok (.ifCond .eq 7, 3) ∧ 80 + 3 = 83 ∧ ((80 : Nat) : Int) + 7 = ((87 : Nat) : Int) := ⟨by decide +kernel, rfl, rfl⟩
theorem d_X3_part_83 : decode mX3_part.1 83 = .ok (.iconst 1, 1) ∧ 83 + 1 = 84 := ⟨by decide +kernel, rfl⟩
theorem d_X3_part_84 : decode mX3_part.1 84 = .ok (.goto 4, 3) ∧ ((84 : Nat) : Int) + 4 = ((88 : Nat) : Int) := ⟨by decide +kernel, rfl⟩
set_option maxRecDepth 100000 in
set_option maxHeartbeats 4000000 in
theorem g_X3_part (l : Launch) (G : xa_C) (n : Nat) (rc : Nat → Int → Int → xa_H → Option (Int × xa_H)) (hrc : ∀ (k : Nat) (a b : Int) (h : xa_H) (r : Int × xa_H), rc k a b h = some r → xa_RC l G (4 + n) k a b h r) (v0 v1 : Int) (h : xa_H) : xa_G l G (5 + n) mX3_part (f_X3_part rc v0 v1 h) (fun r => some (some (xI r.1), r.2) : (Int × xa_H) → Option xa_O) 0 [some (xR v0), some (xI v1), none] [] h := by
  unfold f_X3_part
  refine xa_step (xa_aload_n d_X3_part_0 rfl) ?_
  refine xa_getf xR xc_3 (by decide) (fun _ => rfl) xw_298 rfl d_X3_part_1 (fun x1 _ => ?_)
  refine xa_getf xI xc_6 (by decide) (fun _ => rfl) xw_250 rfl d_X3_part_4 (fun x2 _ => ?_)
  refine xa_step (xa_iconst d_X3_part_7 xq_i_2) ?_
  refine xa_if (xa_icmpne d_X3_part_8) (fun q3 => ?_) (fun q3 => ?_)
  · refine xa_step (xa_aload_n d_X3_part_11 rfl) ?_
    refine xa_getf xR xc_3 (by decide) (fun _ => rfl) xw_298 rfl d_X3_part_12 (fun x4 _ => ?_)
    refine xa_step (xa_sipush d_X3_part_15 xq_s_9999) ?_
    refine xa_callVI (as := [xI 9999]) (st := []) (M' := mX6_needNumber) (d' := 3) rfl xw_820 xw_727 xw_728 xw_729 xw_162 xh_X6_needNumber rfl ⟨by omega, by show 8 + (3 + 11) + 64 * (3) ≤ 64 * (5 + n); omega⟩ (Nat.le_of_ble_eq_true rfl) rfl d_X3_part_18 (fun r hr => ct_X6_needNumber l G x4 9999 h r hr) (fun r5 _ => ?_)
    refine xa_step (xa_istore_n (ls' := [some (xR v0), some (xI v1), some (xI r5.1)]) d_X3_part_21 (by decide) rfl) ?_
    refine xa_step (xa_iload_n d_X3_part_22 rfl) ?_
    refine xa_step (xa_iconst d_X3_part_23 xq_i_m1) ?_
    refine xa_if (xa_icmpeq d_X3_part_24) (fun q6 => ?_) (fun q6 => ?_)
    · refine xa_step (xa_iconst d_X3_part_39 xq_i_0) ?_
      exact xa_zret d_X3_part_40 rfl (Or.inl rfl) rfl
    · refine xa_step (xa_aload_n d_X3_part_27 rfl) ?_
      refine xa_step (xa_iload_n d_X3_part_28 rfl) ?_
      refine xa_callVI (as := [xI r5.1]) (st := []) (M' := mX3_put) (d' := 2) rfl xw_796 xw_798 xw_20 xw_799 xw_167 xh_X3_put rfl ⟨by omega, by show 8 + (2 + 11) + 64 * (2) ≤ 64 * (5 + n); omega⟩ (Nat.le_of_ble_eq_true rfl) rfl d_X3_part_29 (fun r hr => ct_X3_put l G v0 r5.1 r5.2 r hr) (fun r7 _ => ?_)
      refine xa_if (xa_ifeq d_X3_part_32) (fun q8 => ?_) (fun q8 => ?_)
      · refine xa_step (xa_iconst d_X3_part_39 xq_i_0) ?_
        exact xa_zret d_X3_part_40 rfl (Or.inl rfl) rfl
      · refine xa_step (xa_iconst d_X3_part_35 xq_i_1) ?_
        refine xa_step (xa_goto d_X3_part_36) ?_
        exact xa_zret d_X3_part_40 rfl (Or.inr rfl) rfl
  · refine xa_step (xa_aload_n d_X3_part_41 rfl) ?_
    refine xa_getf xR xc_3 (by decide) (fun _ => rfl) xw_298 rfl d_X3_part_42 (fun x9 _ => ?_)
    refine xa_step (xa_bipush d_X3_part_45 xq_b_40) ?_
    refine xa_callVi (as := [xI 40]) (st := []) (M' := mX6_isSign) (d' := 2) rfl xw_800 xw_801 xw_802 xw_803 xw_162 xh_X6_isSign rfl ⟨by omega, by show 8 + (2 + 11) + 64 * (2) ≤ 64 * (5 + n); omega⟩ (Nat.le_of_ble_eq_true rfl) rfl d_X3_part_47 (fun r hr => ct_X6_isSign l G x9 40 h r hr) (fun r10 _ => ?_)
    refine xa_if (xa_ifeq d_X3_part_50) (fun q11 => ?_) (fun q11 => ?_)
    · refine xa_step (xa_aload_n d_X3_part_89 rfl) ?_
      refine xa_getf xR xc_3 (by decide) (fun _ => rfl) xw_298 rfl d_X3_part_90 (fun x12 _ => ?_)
      refine xa_getf xI xc_6 (by decide) (fun _ => rfl) xw_259 rfl d_X3_part_93 (fun x13 _ => ?_)
      refine xa_step (xa_bipush d_X3_part_96 xq_b_21) ?_
      refine xa_if (xa_icmpeq d_X3_part_98) (fun q14 => ?_) (fun q14 => ?_)
      · exact xa_weak (ls' := [some (xR v0), some (xI v1), none]) ⟨rfl, rfl, trivial⟩ (g_X3_part_J113 l G n rc hrc v0 v1 h)
      · refine xa_step (xa_aload_n d_X3_part_101 rfl) ?_
        refine xa_getf xR xc_3 (by decide) (fun _ => rfl) xw_298 rfl d_X3_part_102 (fun x24 _ => ?_)
        refine xa_getf xI xc_6 (by decide) (fun _ => rfl) xw_259 rfl d_X3_part_105 (fun x25 _ => ?_)
        refine xa_step (xa_bipush d_X3_part_108 xq_b_22) ?_
        refine xa_if (xa_icmpne d_X3_part_110) (fun q26 => ?_) (fun q26 => ?_)
        · exact xa_weak (ls' := [some (xR v0), some (xI v1), none]) ⟨rfl, rfl, trivial⟩ (g_X3_part_J113 l G n rc hrc v0 v1 h)
        · refine xa_step (xa_aload_n d_X3_part_162 rfl) ?_
          refine xa_getf xI xc_3 (by decide) (fun _ => rfl) xw_301 rfl d_X3_part_163 (fun x27 _ => ?_)
          refine xa_if (xa_ifeq d_X3_part_166) (fun q28 => ?_) (fun q28 => ?_)
          · exact xa_weak (ls' := [some (xR v0), none, none]) ⟨rfl, trivial⟩ (g_X3_part_J214 l G n rc hrc v0 h)
          · refine xa_step (xa_aload_n d_X3_part_169 rfl) ?_
            refine xa_getf xR xc_3 (by decide) (fun _ => rfl) xw_298 rfl d_X3_part_170 (fun x40 _ => ?_)
            refine xa_getf xI xc_6 (by decide) (fun _ => rfl) xw_259 rfl d_X3_part_173 (fun x41 _ => ?_)
            refine xa_step (xa_bipush d_X3_part_176 xq_b_14) ?_
            refine xa_if (xa_icmpne d_X3_part_178) (fun q42 => ?_) (fun q42 => ?_)
            · refine xa_step (xa_aload_n d_X3_part_181 rfl) ?_
              refine xa_step (xa_iload_n d_X3_part_182 rfl) ?_
              refine xa_callVI (as := [xI v1]) (st := []) (M' := mX3_stepInto) (d' := 3) rfl xw_791 xw_793 xw_19 xw_794 xw_167 xh_X3_stepInto rfl ⟨by omega, by show 8 + (2 + 11) + 64 * (3) ≤ 64 * (5 + n); omega⟩ (Nat.le_of_ble_eq_true rfl) rfl d_X3_part_183 (fun r hr => ct_X3_stepInto l G v0 v1 h r hr) (fun r43 _ => ?_)
              refine xa_if (xa_ifeq d_X3_part_186) (fun q44 => ?_) (fun q44 => ?_)
              · refine xa_step (xa_iconst d_X3_part_212 xq_i_0) ?_
                exact xa_zret d_X3_part_213 rfl (Or.inl rfl) rfl
              · refine xa_step (xa_aload_n d_X3_part_189 rfl) ?_
                refine xa_step (xa_iload_n d_X3_part_190 rfl) ?_
                refine xa_step (xa_iconst d_X3_part_191 xq_i_1) ?_
                refine xa_step (xa_iadd d_X3_part_192) ?_
                refine xa_callVI (as := [xI (w32 (v1 + 1))]) (st := []) (M' := mX3_part) (d' := 4 + n) rfl xw_816 xw_818 xw_23 xw_819 xw_167 xh_X3_part rfl ⟨by omega, by show 8 + (3 + 11) + 64 * (4 + n) ≤ 64 * (5 + n); omega⟩ (Nat.le_of_ble_eq_true rfl) rfl d_X3_part_193 (fun r hr => hrc 5 v0 (w32 (v1 + 1)) r43.2 r hr) (fun r45 _ => ?_)
                refine xa_if (xa_ifeq d_X3_part_196) (fun q46 => ?_) (fun q46 => ?_)
                · refine xa_step (xa_iconst d_X3_part_212 xq_i_0) ?_
                  exact xa_zret d_X3_part_213 rfl (Or.inl rfl) rfl
                · refine xa_step (xa_aload_n d_X3_part_199 rfl) ?_
                  refine xa_step (xa_bipush d_X3_part_200 xq_b_m10) ?_
                  refine xa_callVI (as := [xI ((-10))]) (st := []) (M' := mX3_put) (d' := 2) rfl xw_796 xw_798 xw_20 xw_799 xw_167 xh_X3_put rfl ⟨by omega, by show 8 + (2 + 11) + 64 * (2) ≤ 64 * (5 + n); omega⟩ (Nat.le_of_ble_eq_true rfl) rfl d_X3_part_202 (fun r hr => ct_X3_put l G v0 ((-10)) r45.2 r hr) (fun r47 _ => ?_)
                  refine xa_if (xa_ifeq d_X3_part_205) (fun q48 => ?_) (fun q48 => ?_)
                  · refine xa_step (xa_iconst d_X3_part_212 xq_i_0) ?_
                    exact xa_zret d_X3_part_213 rfl (Or.inl rfl) rfl
                  · refine xa_step (xa_iconst d_X3_part_208 xq_i_1) ?_
                    refine xa_step (xa_goto d_X3_part_209) ?_
                    exact xa_zret d_X3_part_213 rfl (Or.inr rfl) rfl
            · exact xa_weak (ls' := [some (xR v0), none, none]) ⟨rfl, trivial⟩ (g_X3_part_J214 l G n rc hrc v0 h)
    · refine xa_step (xa_aload_n d_X3_part_53 rfl) ?_
      refine xa_step (xa_iload_n d_X3_part_54 rfl) ?_
      refine xa_callVI (as := [xI v1]) (st := []) (M' := mX3_stepInto) (d' := 3) rfl xw_791 xw_793 xw_19 xw_794 xw_167 xh_X3_stepInto rfl ⟨by omega, by show 8 + (2 + 11) + 64 * (3) ≤ 64 * (5 + n); omega⟩ (Nat.le_of_ble_eq_true rfl) rfl d_X3_part_55 (fun r hr => ct_X3_stepInto l G v0 v1 h r hr) (fun r49 _ => ?_)
      refine xa_if (xa_ifeq d_X3_part_58) (fun q50 => ?_) (fun q50 => ?_)
      · refine xa_step (xa_iconst d_X3_part_87 xq_i_0) ?_
        exact xa_zret d_X3_part_88 rfl (Or.inl rfl) rfl
      · refine xa_step (xa_aload_n d_X3_part_61 rfl) ?_
        refine xa_step (xa_iload_n d_X3_part_62 rfl) ?_
        refine xa_step (xa_iconst d_X3_part_63 xq_i_1) ?_
        refine xa_step (xa_iadd d_X3_part_64) ?_
        refine xa_callVI (as := [xI (w32 (v1 + 1))]) (st := []) (M' := mX3_sum) (d' := 4 + n) rfl xw_808 xw_810 xw_21 xw_811 xw_167 xh_X3_sum rfl ⟨by omega, by show 8 + (5 + 11) + 64 * (4 + n) ≤ 64 * (5 + n); omega⟩ (Nat.le_of_ble_eq_true rfl) rfl d_X3_part_65 (fun r hr => hrc 3 v0 (w32 (v1 + 1)) r49.2 r hr) (fun r51 _ => ?_)
        refine xa_if (xa_ifeq d_X3_part_68) (fun q52 => ?_) (fun q52 => ?_)
        · refine xa_step (xa_iconst d_X3_part_87 xq_i_0) ?_
          exact xa_zret d_X3_part_88 rfl (Or.inl rfl) rfl
        · refine xa_step (xa_aload_n d_X3_part_71 rfl) ?_
          refine xa_getf xR xc_3 (by decide) (fun _ => rfl) xw_298 rfl d_X3_part_72 (fun x53 _ => ?_)
          refine xa_step (xa_bipush d_X3_part_75 xq_b_41) ?_
          refine xa_callVI (as := [xI 41]) (st := []) (M' := mX6_needSign) (d' := 3) rfl xw_804 xw_805 xw_806 xw_807 xw_162 xh_X6_needSign rfl ⟨by omega, by show 8 + (2 + 11) + 64 * (3) ≤ 64 * (5 + n); omega⟩ (Nat.le_of_ble_eq_true rfl) rfl d_X3_part_77 (fun r hr => ct_X6_needSign l G x53 41 r51.2 r hr) (fun r54 _ => ?_)
          refine xa_if (xa_ifeq d_X3_part_80) (fun q55 => ?_) (fun q55 => ?_)
          · refine xa_step (xa_iconst d_X3_part_87 xq_i_0) ?_
            exact xa_zret d_X3_part_88 rfl (Or.inl rfl) rfl
          · refine xa_step (xa_iconst d_X3_part_83 xq_i_1) ?_
            refine xa_step (xa_goto d_X3_part_84) ?_
            exact xa_zret d_X3_part_88 rfl (Or.inr rfl) rfl
theorem ct_X3_part (l : Launch) (G : xa_C) (n : Nat) (rc : Nat → Int → Int → xa_H → Option (Int × xa_H)) (hrc : ∀ (k : Nat) (a b : Int) (h : xa_H) (r : Int × xa_H), rc k a b h = some r → xa_RC l G (4 + n) k a b h r) (v0 v1 : Int) (h : xa_H) (r : Int × xa_H) (hr : f_X3_part rc v0 v1 h = some r) : xa_CT l G (5 + n) mX3_part yX3_part [xR v0, xI v1] h (some (xI r.1), r.2) :=
  xa_met (by decide +kernel) rfl (fun q => by first | rfl | cases q) (Nat.le_of_ble_eq_true rfl) rfl (g_X3_part l G n rc hrc v0 v1 h) (by rw [hr]; rfl)
theorem d_X3_pair_0 : decode mX3_pair.1 0 = .ok (.aload_n 0, 1) ∧ 0 + 1 = 1 := ⟨by decide +kernel, rfl⟩
theorem d_X3_pair_1 : decode mX3_pair.1 1 = .ok (.getfield 15, 3) ∧ 1 + 3 = 4 := ⟨by decide +kernel, rfl⟩
theorem d_X3_pair_4 : decode mX3_pair.1 4 = .ok (.bipush 40, 2) ∧ 4 + 2 = 6 := ⟨by decide +kernel, rfl⟩
theorem d_X3_pair_6 : decode mX3_pair.1 6 = .ok (.invokevirtual 65, 3) ∧ 6 + 3 = 9 := ⟨by decide +kernel, rfl⟩
theorem d_X3_pair_9 : decode mX3_pair.1 9 = .ok (.ifCond .ne 11, 3) ∧ 9 + 3 = 12 ∧ ((9 : Nat) : Int) + 11 = ((20 : Nat) : Int) := ⟨by decide +kernel, rfl, rfl⟩
theorem d_X3_pair_12 : decode mX3_pair.1 12 = .ok (.aload_n 0, 1) ∧ 12 + 1 = 13 := ⟨by decide +kernel, rfl⟩
theorem d_X3_pair_13 : decode mX3_pair.1 13 = .ok (.getfield 15, 3) ∧ 13 + 3 = 16 := ⟨by decide +kernel, rfl⟩
theorem d_X3_pair_16 : decode mX3_pair.1 16 = .ok (.invokevirtual 76, 3) ∧ 16 + 3 = 19 := ⟨by decide +kernel, rfl⟩
theorem d_X3_pair_19 : decode mX3_pair.1 19 = .ok (.ireturn, 1) := by decide +kernel
theorem d_X3_pair_20 : decode mX3_pair.1 20 = .ok (.aload_n 0, 1) ∧ 20 + 1 = 21 := ⟨by decide +kernel, rfl⟩
theorem d_X3_pair_21 : decode mX3_pair.1 21 = .ok (.iload_n 1, 1) ∧ 21 + 1 = 22 := ⟨by decide +kernel, rfl⟩
theorem d_X3_pair_22 : decode mX3_pair.1 22 = .ok (.invokevirtual 62, 3) ∧ 22 + 3 = 25 := ⟨by decide +kernel, rfl⟩
theorem d_X3_pair_25 : decode mX3_pair.1 25 = .ok (.ifCond .eq 51, 3) ∧ 25 + 3 = 28 ∧ ((25 : Nat) : Int) + 51 = ((76 : Nat) : Int) := ⟨by decide +kernel, rfl, rfl⟩
theorem d_X3_pair_76 : decode mX3_pair.1 76 = .ok (.iconst 0, 1) ∧ 76 + 1 = 77 := ⟨by decide +kernel, rfl⟩
theorem d_X3_pair_77 : decode mX3_pair.1 77 = .ok (.ireturn, 1) := by decide +kernel
theorem d_X3_pair_28 : decode mX3_pair.1 28 = .ok (.aload_n 0, 1) ∧ 28 + 1 = 29 := ⟨by decide +kernel, rfl⟩
theorem d_X3_pair_29 : decode mX3_pair.1 29 = .ok (.iload_n 1, 1) ∧ 29 + 1 = 30 := ⟨by decide +kernel, rfl⟩
theorem d_X3_pair_30 : decode mX3_pair.1 30 = .ok (.iconst 1, 1) ∧ 30 + 1 = 31 := ⟨by decide +kernel, rfl⟩
theorem d_X3_pair_31 : decode mX3_pair.1 31 = .ok (.iadd, 1) ∧ 31 + 1 = 32 := ⟨by decide +kernel, rfl⟩
theorem d_X3_pair_32 : decode mX3_pair.1 32 = .ok (.invokevirtual 47, 3) ∧ 32 + 3 = 35 := ⟨by decide +kernel, rfl⟩
theorem d_X3_pair_35 : decode mX3_pair.1 35 = .ok (.ifCond .eq 41, 3) ∧ 35 + 3 = 38 ∧ ((35 : Nat) : Int) + 41 = ((76 : Nat) : Int) := ⟨by decide +kernel, rfl, rfl⟩
theorem d_X3_pair_38 : decode mX3_pair.1 38 = .ok (.aload_n 0, 1) ∧ 38 + 1 = 39 := ⟨by decide +kernel, rfl⟩
theorem d_X3_pair_39 : decode mX3_pair.1 39 = .ok (.getfield 15, 3) ∧ 39 + 3 = 42 := ⟨by decide +kernel, rfl⟩
theorem d_X3_pair_42 : decode mX3_pair.1 42 = .ok (.bipush 44, 2) ∧ 42 + 2 = 44 := ⟨by decide +kernel, rfl⟩
theorem d_X3_pair_44 : decode mX3_pair.1 44 = .ok (.invokevirtual 69, 3) ∧ 44 + 3 = 47 := ⟨by decide +kernel, rfl⟩
theorem d_X3_pair_47 : decode mX3_pair.1 47 = .ok (.ifCond .eq 29, 3) ∧ 47 + 3 = 50 ∧ ((47 : Nat) : Int) + 29 = ((76 : Nat) : Int) := ⟨by decide +kernel, rfl, rfl⟩
theorem d_X3_pair_50 : decode mX3_pair.1 50 = .ok (.aload_n 0, 1) ∧ 50 + 1 = 51 := ⟨by decide +kernel, rfl⟩
theorem d_X3_pair_51 : decode mX3_pair.1 51 = .ok (.iload_n 1, 1) ∧ 51 + 1 = 52 := ⟨by decide +kernel, rfl⟩
theorem d_X3_pair_52 : decode mX3_pair.1 52 = .ok (.iconst 1, 1) ∧ 52 + 1 = 53 := ⟨by decide +kernel, rfl⟩
theorem d_X3_pair_53 : decode mX3_pair.1 53 = .ok (.iadd, 1) ∧ 53 + 1 = 54 := ⟨by decide +kernel, rfl⟩
theorem d_X3_pair_54 : decode mX3_pair.1 54 = .ok (.invokevirtual 47, 3) ∧ 54 + 3 = 57 := ⟨by decide +kernel, rfl⟩
theorem d_X3_pair_57 : decode mX3_pair.1 57 = .ok (.ifCond .eq 19, 3) ∧ 57 + 3 = 60 ∧ ((57 : Nat) : Int) + 19 = ((76 : Nat) : Int) := ⟨by decide +kernel, rfl, rfl⟩
theorem d_X3_pair_60 : decode mX3_pair.1 60 = .ok (.aload_n 0, 1) ∧ 60 + 1 = 61 := ⟨by decide +kernel, rfl⟩
theorem d_X3_pair_61 : decode mX3_pair.1 61 = .ok (.getfield 15, 3) ∧ 61 + 3 = 64 := ⟨by decide +kernel, rfl⟩
theorem d_X3_pair_64 : decode mX3_pair.1 64 = .ok (.bipush 41, 2) ∧ 64 + 2 = 66 := ⟨by decide +kernel, rfl⟩
theorem d_X3_pair_66 : decode mX3_pair.1 66 = .ok (.invokevirtual 69, 3) ∧ 66 + 3 = 69 := ⟨by decide +kernel, rfl⟩
theorem d_X3_pair_69 : decode mX3_pair.1 69 = .ok (.ifCond .eq 7, 3) ∧ 69 + 3 = 72 ∧ ((69 : Nat) : Int) + 7 = ((76 : Nat) : Int) := ⟨by decide +kernel, rfl, rfl⟩
theorem d_X3_pair_72 : decode mX3_pair.1 72 = .ok (.iconst 1, 1) ∧ 72 + 1 = 73 := ⟨by decide +kernel, rfl⟩
theorem d_X3_pair_73 : decode mX3_pair.1 73 = .ok (.goto 4, 3) ∧ ((73 : Nat) : Int) + 4 = ((77 : Nat) : Int) := ⟨by decide +kernel, rfl⟩
set_option maxRecDepth 100000 in
set_option maxHeartbeats 4000000 in
theorem g_X3_pair (l : Launch) (G : xa_C) (n : Nat) (rc : Nat → Int → Int → xa_H → Option (Int × xa_H)) (hrc : ∀ (k : Nat) (a b : Int) (h : xa_H) (r : Int × xa_H), rc k a b h = some r → xa_RC l G (4 + n) k a b h r) (v0 v1 : Int) (h : xa_H) : xa_G l G (5 + n) mX3_pair (f_X3_pair rc v0 v1 h) (fun r => some (some (xI r.1), r.2) : (Int × xa_H) → Option xa_O) 0 [some (xR v0), some (xI v1)] [] h := by
  unfold f_X3_pair
  refine xa_step (xa_aload_n d_X3_pair_0 rfl) ?_
  refine xa_getf xR xc_3 (by decide) (fun _ => rfl) xw_298 rfl d_X3_pair_1 (fun x1 _ => ?_)
  refine xa_step (xa_bipush d_X3_pair_4 xq_b_40) ?_
  refine xa_callVi (as := [xI 40]) (st := []) (M' := mX6_isSign) (d' := 2) rfl xw_800 xw_801 xw_802 xw_803 xw_162 xh_X6_isSign rfl ⟨by omega, by show 8 + (2 + 11) + 64 * (2) ≤ 64 * (5 + n); omega⟩ (Nat.le_of_ble_eq_true rfl) rfl d_X3_pair_6 (fun r hr => ct_X6_isSign l G x1 40 h r hr) (fun r2 _ => ?_)
  refine xa_if (xa_ifne d_X3_pair_9) (fun q3 => ?_) (fun q3 => ?_)
  · refine xa_step (xa_aload_n d_X3_pair_12 rfl) ?_
    refine xa_getf xR xc_3 (by decide) (fun _ => rfl) xw_298 rfl d_X3_pair_13 (fun x4 _ => ?_)
    refine xa_callVI (as := []) (st := []) (M' := mX6_stray) (d' := 2) rfl xw_825 xw_706 xw_707 xw_708 xw_162 xh_X6_stray rfl ⟨by omega, by show 8 + (1 + 11) + 64 * (2) ≤ 64 * (5 + n); omega⟩ (Nat.le_of_ble_eq_true rfl) rfl d_X3_pair_16 (fun r hr => ct_X6_stray l G x4 h r hr) (fun r5 _ => ?_)
    refine xa_bo (fun q6 => ?_)
    exact xa_zret d_X3_pair_19 rfl q6 rfl
  · refine xa_step (xa_aload_n d_X3_pair_20 rfl) ?_
    refine xa_step (xa_iload_n d_X3_pair_21 rfl) ?_
    refine xa_callVI (as := [xI v1]) (st := []) (M' := mX3_stepInto) (d' := 3) rfl xw_791 xw_793 xw_19 xw_794 xw_167 xh_X3_stepInto rfl ⟨by omega, by show 8 + (2 + 11) + 64 * (3) ≤ 64 * (5 + n); omega⟩ (Nat.le_of_ble_eq_true rfl) rfl d_X3_pair_22 (fun r hr => ct_X3_stepInto l G v0 v1 h r hr) (fun r7 _ => ?_)
    refine xa_if (xa_ifeq d_X3_pair_25) (fun q8 => ?_) (fun q8 => ?_)
    · refine xa_step (xa_iconst d_X3_pair_76 xq_i_0) ?_
      exact xa_zret d_X3_pair_77 rfl (Or.inl rfl) rfl
    · refine xa_step (xa_aload_n d_X3_pair_28 rfl) ?_
      refine xa_step (xa_iload_n d_X3_pair_29 rfl) ?_
      refine xa_step (xa_iconst d_X3_pair_30 xq_i_1) ?_
      refine xa_step (xa_iadd d_X3_pair_31) ?_
      refine xa_callVI (as := [xI (w32 (v1 + 1))]) (st := []) (M' := mX3_sum) (d' := 4 + n) rfl xw_808 xw_810 xw_21 xw_811 xw_167 xh_X3_sum rfl ⟨by omega, by show 8 + (5 + 11) + 64 * (4 + n) ≤ 64 * (5 + n); omega⟩ (Nat.le_of_ble_eq_true rfl) rfl d_X3_pair_32 (fun r hr => hrc 3 v0 (w32 (v1 + 1)) r7.2 r hr) (fun r9 _ => ?_)
      refine xa_if (xa_ifeq d_X3_pair_35) (fun q10 => ?_) (fun q10 => ?_)
      · refine xa_step (xa_iconst d_X3_pair_76 xq_i_0) ?_
        exact xa_zret d_X3_pair_77 rfl (Or.inl rfl) rfl
      · refine xa_step (xa_aload_n d_X3_pair_38 rfl) ?_
        refine xa_getf xR xc_3 (by decide) (fun _ => rfl) xw_298 rfl d_X3_pair_39 (fun x11 _ => ?_)
        refine xa_step (xa_bipush d_X3_pair_42 xq_b_44) ?_
        refine xa_callVI (as := [xI 44]) (st := []) (M' := mX6_needSign) (d' := 3) rfl xw_804 xw_805 xw_806 xw_807 xw_162 xh_X6_needSign rfl ⟨by omega, by show 8 + (2 + 11) + 64 * (3) ≤ 64 * (5 + n); omega⟩ (Nat.le_of_ble_eq_true rfl) rfl d_X3_pair_44 (fun r hr => ct_X6_needSign l G x11 44 r9.2 r hr) (fun r12 _ => ?_)
        refine xa_if (xa_ifeq d_X3_pair_47) (fun q13 => ?_) (fun q13 => ?_)
        · refine xa_step (xa_iconst d_X3_pair_76 xq_i_0) ?_
          exact xa_zret d_X3_pair_77 rfl (Or.inl rfl) rfl
        · refine xa_step (xa_aload_n d_X3_pair_50 rfl) ?_
          refine xa_step (xa_iload_n d_X3_pair_51 rfl) ?_
          refine xa_step (xa_iconst d_X3_pair_52 xq_i_1) ?_
          refine xa_step (xa_iadd d_X3_pair_53) ?_
          refine xa_callVI (as := [xI (w32 (v1 + 1))]) (st := []) (M' := mX3_sum) (d' := 4 + n) rfl xw_808 xw_810 xw_21 xw_811 xw_167 xh_X3_sum rfl ⟨by omega, by show 8 + (5 + 11) + 64 * (4 + n) ≤ 64 * (5 + n); omega⟩ (Nat.le_of_ble_eq_true rfl) rfl d_X3_pair_54 (fun r hr => hrc 3 v0 (w32 (v1 + 1)) r12.2 r hr) (fun r14 _ => ?_)
          refine xa_if (xa_ifeq d_X3_pair_57) (fun q15 => ?_) (fun q15 => ?_)
          · refine xa_step (xa_iconst d_X3_pair_76 xq_i_0) ?_
            exact xa_zret d_X3_pair_77 rfl (Or.inl rfl) rfl
          · refine xa_step (xa_aload_n d_X3_pair_60 rfl) ?_
            refine xa_getf xR xc_3 (by decide) (fun _ => rfl) xw_298 rfl d_X3_pair_61 (fun x16 _ => ?_)
            refine xa_step (xa_bipush d_X3_pair_64 xq_b_41) ?_
            refine xa_callVI (as := [xI 41]) (st := []) (M' := mX6_needSign) (d' := 3) rfl xw_804 xw_805 xw_806 xw_807 xw_162 xh_X6_needSign rfl ⟨by omega, by show 8 + (2 + 11) + 64 * (3) ≤ 64 * (5 + n); omega⟩ (Nat.le_of_ble_eq_true rfl) rfl d_X3_pair_66 (fun r hr => ct_X6_needSign l G x16 41 r14.2 r hr) (fun r17 _ => ?_)
            refine xa_if (xa_ifeq d_X3_pair_69) (fun q18 => ?_) (fun q18 => ?_)
            · refine xa_step (xa_iconst d_X3_pair_76 xq_i_0) ?_
              exact xa_zret d_X3_pair_77 rfl (Or.inl rfl) rfl
            · refine xa_step (xa_iconst d_X3_pair_72 xq_i_1) ?_
              refine xa_step (xa_goto d_X3_pair_73) ?_
              exact xa_zret d_X3_pair_77 rfl (Or.inr rfl) rfl
theorem ct_X3_pair (l : Launch) (G : xa_C) (n : Nat) (rc : Nat → Int → Int → xa_H → Option (Int × xa_H)) (hrc : ∀ (k : Nat) (a b : Int) (h : xa_H) (r : Int × xa_H), rc k a b h = some r → xa_RC l G (4 + n) k a b h r) (v0 v1 : Int) (h : xa_H) (r : Int × xa_H) (hr : f_X3_pair rc v0 v1 h = some r) : xa_CT l G (5 + n) mX3_pair yX3_pair [xR v0, xI v1] h (some (xI r.1), r.2) :=
  xa_met (by decide +kernel) rfl (fun q => by first | rfl | cases q) (Nat.le_of_ble_eq_true rfl) rfl (g_X3_pair l G n rc hrc v0 v1 h) (by rw [hr]; rfl)
theorem ct_rec (l : Launch) (G : xa_C) : ∀ (n k : Nat) (a b : Int) (h : xa_H) (r : Int × xa_H), f_rec n k a b h = some r → xa_RC l G (4 + n) k a b h r
  | 0, k, a, b, h, r, hr => by simp [f_rec] at hr
  | n + 1, k, a, b, h, r, hr => by
    rw [show 4 + (n + 1) = 5 + n by omega]
    match k, hr with
    | 0, hr => exact ct_X3_test l G n (f_rec n) (fun k a b h r hr => ct_rec l G n k a b h r hr) a b h r hr
    | 1, hr => exact ct_X3_both l G n (f_rec n) (fun k a b h r hr => ct_rec l G n k a b h r hr) a b h r hr
    | 2, hr => exact ct_X3_fact l G n (f_rec n) (fun k a b h r hr => ct_rec l G n k a b h r hr) a b h r hr
    | 3, hr => exact ct_X3_sum l G n (f_rec n) (fun k a b h r hr => ct_rec l G n k a b h r hr) a b h r hr
    | 4, hr => exact ct_X3_product l G n (f_rec n) (fun k a b h r hr => ct_rec l G n k a b h r hr) a b h r hr
    | 5, hr => exact ct_X3_part l G n (f_rec n) (fun k a b h r hr => ct_rec l G n k a b h r hr) a b h r hr
    | 6, hr => exact ct_X3_pair l G n (f_rec n) (fun k a b h r hr => ct_rec l G n k a b h r hr) a b h r hr
    | k + 7, hr => exact trivial
abbrev mJ7_copyOf_59c91 : xa_M := (cJ7_copyOf_59c91, 3, (some (.array .int)), RJ7, false)
theorem d_J7_copyOf_59c91_0 : decode mJ7_copyOf_59c91.1 0 = .ok (.iload_n 1, 1) ∧ 0 + 1 = 1 := ⟨by decide +kernel, rfl⟩
theorem d_J7_copyOf_59c91_1 : decode mJ7_copyOf_59c91.1 1 = .ok (.aload_n 0, 1) ∧ 1 + 1 = 2 := ⟨by decide +kernel, rfl⟩
theorem d_J7_copyOf_59c91_2 : decode mJ7_copyOf_59c91.1 2 = .ok (.arraylength, 1) ∧ 2 + 1 = 3 := ⟨by decide +kernel, rfl⟩
theorem d_J7_copyOf_59c91_3 : decode mJ7_copyOf_59c91.1 3 = .ok (.if_icmp .ne 11, 3) ∧ 3 + 3 = 6 ∧ ((3 : Nat) : Int) + 11 = ((14 : Nat) : Int) := ⟨by decide +kernel, rfl, rfl⟩
theorem d_J7_copyOf_59c91_6 : decode mJ7_copyOf_59c91.1 6 = .ok (.aload_n 0, 1) ∧ 6 + 1 = 7 := ⟨by decide +kernel, rfl⟩
theorem d_J7_copyOf_59c91_14 : decode mJ7_copyOf_59c91.1 14 = .ok (.iload_n 1, 1) ∧ 14 + 1 = 15 := ⟨by decide +kernel, rfl⟩
theorem d_J7_copyOf_59c91_15 : decode mJ7_copyOf_59c91.1 15 = .ok (.newarray .int, 2) ∧ 15 + 2 = 17 := ⟨by decide +kernel, rfl⟩
theorem d_J7_copyOf_59c91_17 : decode mJ7_copyOf_59c91.1 17 = .ok (.astore_n 2, 1) ∧ 17 + 1 = 18 := ⟨by decide +kernel, rfl⟩
theorem d_J7_copyOf_59c91_18 : decode mJ7_copyOf_59c91.1 18 = .ok (.aload_n 0, 1) ∧ 18 + 1 = 19 := ⟨by decide +kernel, rfl⟩
theorem d_J7_copyOf_59c91_19 : decode mJ7_copyOf_59c91.1 19 = .ok (.iconst 0, 1) ∧ 19 + 1 = 20 := ⟨by decide +kernel, rfl⟩
theorem d_J7_copyOf_59c91_20 : decode mJ7_copyOf_59c91.1 20 = .ok (.aload_n 2, 1) ∧ 20 + 1 = 21 := ⟨by decide +kernel, rfl⟩
theorem d_J7_copyOf_59c91_21 : decode mJ7_copyOf_59c91.1 21 = .ok (.iconst 0, 1) ∧ 21 + 1 = 22 := ⟨by decide +kernel, rfl⟩
theorem d_J7_copyOf_59c91_22 : decode mJ7_copyOf_59c91.1 22 = .ok (.aload_n 0, 1) ∧ 22 + 1 = 23 := ⟨by decide +kernel, rfl⟩
theorem d_J7_copyOf_59c91_23 : decode mJ7_copyOf_59c91.1 23 = .ok (.arraylength, 1) ∧ 23 + 1 = 24 := ⟨by decide +kernel, rfl⟩
theorem d_J7_copyOf_59c91_24 : decode mJ7_copyOf_59c91.1 24 = .ok (.iload_n 1, 1) ∧ 24 + 1 = 25 := ⟨by decide +kernel, rfl⟩
theorem d_J7_copyOf_59c91_25 : decode mJ7_copyOf_59c91.1 25 = .ok (.invokestatic 304, 3) ∧ 25 + 3 = 28 := ⟨by decide +kernel, rfl⟩
theorem d_J7_copyOf_59c91_28 : decode mJ7_copyOf_59c91.1 28 = .ok (.invokestatic 150, 3) ∧ 28 + 3 = 31 := ⟨by decide +kernel, rfl⟩
theorem d_J7_copyOf_59c91_31 : decode mJ7_copyOf_59c91.1 31 = .ok (.aload_n 2, 1) ∧ 31 + 1 = 32 := ⟨by decide +kernel, rfl⟩
theorem d_J7_copyOf_59c91_32 : decode mJ7_copyOf_59c91.1 32 = .ok (.areturn, 1) := by decide +kernel
set_option maxRecDepth 100000 in
set_option maxHeartbeats 4000000 in
theorem g_J7_copyOf_59c91 (l : Launch) (G : xa_C) (v0 v1 : Int) (h : xa_H) : xa_G l G 2 mJ7_copyOf_59c91 (f_J7_copyOf_59c91 v0 v1 h) (fun r => some (some (xR r.1), r.2) : (Int × xa_H) → Option xa_O) 0 [some (xR v0), some (xI v1), none] [] h := by
  unfold f_J7_copyOf_59c91
  refine xa_step (xa_iload_n d_J7_copyOf_59c91_0 rfl) ?_
  refine xa_step (xa_aload_n d_J7_copyOf_59c91_1 rfl) ?_
  refine xa_alen d_J7_copyOf_59c91_2 (fun x1 _ => ?_)
  refine xa_if (xa_icmpne d_J7_copyOf_59c91_3) (fun q2 => ?_) (fun q2 => ?_)
  · refine xa_step (xa_aload_n d_J7_copyOf_59c91_6 rfl) ?_
    exact xa_none
  · refine xa_step (xa_iload_n d_J7_copyOf_59c91_14 rfl) ?_
    refine xa_newarr 0 .int (by decide) rfl xw_291 d_J7_copyOf_59c91_15 (fun h3 _ => ?_)
    refine xa_step (xa_astore_n (ls' := [some (xR v0), some (xI v1), some (xR ((xn h : Int)))]) d_J7_copyOf_59c91_17 (by decide) rfl) ?_
    refine xa_step (xa_aload_n d_J7_copyOf_59c91_18 rfl) ?_
    refine xa_step (xa_iconst d_J7_copyOf_59c91_19 xq_i_0) ?_
    refine xa_step (xa_aload_n d_J7_copyOf_59c91_20 rfl) ?_
    refine xa_step (xa_iconst d_J7_copyOf_59c91_21 xq_i_0) ?_
    refine xa_step (xa_aload_n d_J7_copyOf_59c91_22 rfl) ?_
    refine xa_alen d_J7_copyOf_59c91_23 (fun x4 _ => ?_)
    refine xa_step (xa_iload_n d_J7_copyOf_59c91_24 rfl) ?_
    refine xa_mminI xw_846 xw_847 xw_179 xw_848 (by decide) (Nat.le_of_ble_eq_true rfl) d_J7_copyOf_59c91_25 ?_
    refine xa_acopy xw_849 xw_851 xw_850 xw_180 (by decide) (Nat.le_of_ble_eq_true rfl) d_J7_copyOf_59c91_28 (fun h5 _ => ?_)
    refine xa_step (xa_aload_n d_J7_copyOf_59c91_31 rfl) ?_
    exact xa_aret d_J7_copyOf_59c91_32 rfl (Or.inr ⟨_, rfl⟩) rfl
theorem ct_J7_copyOf_59c91 (l : Launch) (G : xa_C) (v0 v1 : Int) (h : xa_H) (r : Int × xa_H) (hr : f_J7_copyOf_59c91 v0 v1 h = some r) : xa_CT l G 2 mJ7_copyOf_59c91 yJ7_copyOf_59c91 [xR v0, xI v1] h (some (xR r.1), r.2) :=
  xa_met (by decide +kernel) rfl (fun q => by first | rfl | cases q) (Nat.le_of_ble_eq_true rfl) rfl (g_J7_copyOf_59c91 l G v0 v1 h) (by rw [hr]; rfl)
abbrev mX3_readSum : xa_M := (cX3_readSum, 2, (some (.object "WrongCook$Formula")), RX3, false)
theorem d_X3_readSum_0 : decode mX3_readSum.1 0 = .ok (.aload_n 0, 1) ∧ 0 + 1 = 1 := ⟨by decide +kernel, rfl⟩
theorem d_X3_readSum_1 : decode mX3_readSum.1 1 = .ok (.iload_n 1, 1) ∧ 1 + 1 = 2 := ⟨by decide +kernel, rfl⟩
theorem d_X3_readSum_2 : decode mX3_readSum.1 2 = .ok (.putfield 19, 3) ∧ 2 + 3 = 5 := ⟨by decide +kernel, rfl⟩
theorem d_X3_readSum_5 : decode mX3_readSum.1 5 = .ok (.aload_n 0, 1) ∧ 5 + 1 = 6 := ⟨by decide +kernel, rfl⟩
theorem d_X3_readSum_6 : decode mX3_readSum.1 6 = .ok (.iconst 0, 1) ∧ 6 + 1 = 7 := ⟨by decide +kernel, rfl⟩
theorem d_X3_readSum_7 : decode mX3_readSum.1 7 = .ok (.putfield 23, 3) ∧ 7 + 3 = 10 := ⟨by decide +kernel, rfl⟩
theorem d_X3_readSum_10 : decode mX3_readSum.1 10 = .ok (.aload_n 0, 1) ∧ 10 + 1 = 11 := ⟨by decide +kernel, rfl⟩
theorem d_X3_readSum_11 : decode mX3_readSum.1 11 = .ok (.getfield 15, 3) ∧ 11 + 3 = 14 := ⟨by decide +kernel, rfl⟩
theorem d_X3_readSum_14 : decode mX3_readSum.1 14 = .ok (.invokevirtual 27, 3) ∧ 14 + 3 = 17 := ⟨by decide +kernel, rfl⟩
theorem d_X3_readSum_17 : decode mX3_readSum.1 17 = .ok (.aload_n 0, 1) ∧ 17 + 1 = 18 := ⟨by decide +kernel, rfl⟩
theorem d_X3_readSum_18 : decode mX3_readSum.1 18 = .ok (.iconst 0, 1) ∧ 18 + 1 = 19 := ⟨by decide +kernel, rfl⟩
theorem d_X3_readSum_19 : decode mX3_readSum.1 19 = .ok (.invokevirtual 47, 3) ∧ 19 + 3 = 22 := ⟨by decide +kernel, rfl⟩
theorem d_X3_readSum_22 : decode mX3_readSum.1 22 = .ok (.ifCond .eq 24, 3) ∧ 22 + 3 = 25 ∧ ((22 : Nat) : Int) + 24 = ((46 : Nat) : Int) := ⟨by decide +kernel, rfl, rfl⟩
theorem d_X3_readSum_46 : decode mX3_readSum.1 46 = .ok (.aconst_null, 1) ∧ 46 + 1 = 47 := ⟨by decide +kernel, rfl⟩
theorem d_X3_readSum_47 : decode mX3_readSum.1 47 = .ok (.areturn, 1) := by decide +kernel
theorem d_X3_readSum_25 : decode mX3_readSum.1 25 = .ok (.new 36, 3) ∧ 25 + 3 = 28 := ⟨by decide +kernel, rfl⟩
theorem d_X3_readSum_28 : decode mX3_readSum.1 28 = .ok (.dup, 1) ∧ 28 + 1 = 29 := ⟨by decide +kernel, rfl⟩
theorem d_X3_readSum_29 : decode mX3_readSum.1 29 = .ok (.aload_n 0, 1) ∧ 29 + 1 = 30 := ⟨by decide +kernel, rfl⟩
theorem d_X3_readSum_30 : decode mX3_readSum.1 30 = .ok (.getfield 9, 3) ∧ 30 + 3 = 33 := ⟨by decide +kernel, rfl⟩
theorem d_X3_readSum_33 : decode mX3_readSum.1 33 = .ok (.aload_n 0, 1) ∧ 33 + 1 = 34 := ⟨by decide +kernel, rfl⟩
theorem d_X3_readSum_34 : decode mX3_readSum.1 34 = .ok (.getfield 23, 3) ∧ 34 + 3 = 37 := ⟨by decide +kernel, rfl⟩
theorem d_X3_readSum_37 : decode mX3_readSum.1 37 = .ok (.invokestatic 38, 3) ∧ 37 + 3 = 40 := ⟨by decide +kernel, rfl⟩
theorem d_X3_readSum_40 : decode mX3_readSum.1 40 = .ok (.invokespecial 44, 3) ∧ 40 + 3 = 43 := ⟨by decide +kernel, rfl⟩
theorem d_X3_readSum_43 : decode mX3_readSum.1 43 = .ok (.goto 4, 3) ∧ ((43 : Nat) : Int) + 4 = ((47 : Nat) : Int) := ⟨by decide +kernel, rfl⟩
set_option maxRecDepth 100000 in
set_option maxHeartbeats 4000000 in
theorem g_X3_readSum (l : Launch) (G : xa_C) (v0 v1 : Int) (h : xa_H) : xa_G l G 65 mX3_readSum (f_X3_readSum v0 v1 h) (fun r => some (some (xR r.1), r.2) : (Int × xa_H) → Option xa_O) 0 [some (xR v0), some (xI v1)] [] h := by
  unfold f_X3_readSum
  refine xa_step (xa_aload_n d_X3_readSum_0 rfl) ?_
  refine xa_step (xa_iload_n d_X3_readSum_1 rfl) ?_
  refine xa_bo (fun q2 => ?_)
  refine xa_putf2 (tg := xI) xc_3 (by decide) (fun _ => rfl) rfl (fun c hc => (xa_fitZ q2) c hc) xw_301 rfl d_X3_readSum_2 (fun h1 _ => ?_)
  refine xa_step (xa_aload_n d_X3_readSum_5 rfl) ?_
  refine xa_step (xa_iconst d_X3_readSum_6 xq_i_0) ?_
  refine xa_putf2 (tg := xI) xc_3 (by decide) (fun _ => rfl) rfl (fun c hc => xa_fitI c hc) xw_300 rfl d_X3_readSum_7 (fun h3 _ => ?_)
  refine xa_step (xa_aload_n d_X3_readSum_10 rfl) ?_
  refine xa_getf xR xc_3 (by decide) (fun _ => rfl) xw_298 rfl d_X3_readSum_11 (fun x4 _ => ?_)
  refine xa_callVV (as := []) (st := []) (M' := mX6_step) (d' := 2) rfl xw_778 xw_677 xw_678 xw_679 xw_162 xh_X6_step rfl ⟨Nat.le_of_ble_eq_true rfl, Nat.le_of_ble_eq_true rfl⟩ (Nat.le_of_ble_eq_true rfl) rfl d_X3_readSum_14 (fun r hr => ct_X6_step l G x4 h3 r hr) (fun r5 _ => ?_)
  refine xa_step (xa_aload_n d_X3_readSum_17 rfl) ?_
  refine xa_step (xa_iconst d_X3_readSum_18 xq_i_0) ?_
  refine xa_callVI (as := [xI 0]) (st := []) (M' := mX3_sum) (d' := 64) rfl xw_808 xw_810 xw_21 xw_811 xw_167 xh_X3_sum rfl ⟨Nat.le_of_ble_eq_true rfl, Nat.le_of_ble_eq_true rfl⟩ (Nat.le_of_ble_eq_true rfl) rfl d_X3_readSum_19 (fun r hr => ct_rec l G 60 3 v0 0 r5 r hr) (fun r6 _ => ?_)
  refine xa_if (xa_ifeq d_X3_readSum_22) (fun q7 => ?_) (fun q7 => ?_)
  · refine xa_step (xa_null d_X3_readSum_46) ?_
    exact xa_aret d_X3_readSum_47 rfl (Or.inl ⟨_, rfl⟩) rfl
  · refine xa_newO xc_2 xt_2 xw_834 xw_835 xw_178 d_X3_readSum_25 (fun h8 _ => ?_)
    refine xa_step (xa_dup d_X3_readSum_28 (xa_tR _)) ?_
    refine xa_step (xa_aload_n d_X3_readSum_29 rfl) ?_
    refine xa_getf xR xc_3 (by decide) (fun _ => rfl) xw_299 rfl d_X3_readSum_30 (fun x9 _ => ?_)
    refine xa_step (xa_aload_n d_X3_readSum_33 rfl) ?_
    refine xa_getf xI xc_3 (by decide) (fun _ => rfl) xw_300 rfl d_X3_readSum_34 (fun x10 _ => ?_)
    refine xa_callSR (as := [xR x9, xI x10]) (st := [xR ((xn r6.2 : Int)), xR ((xn r6.2 : Int))]) (M' := mJ7_copyOf_59c91) (d' := 2) xw_836 xw_837 xw_838 xw_171 xh_J7_copyOf_59c91 rfl ⟨Nat.le_of_ble_eq_true rfl, Nat.le_of_ble_eq_true rfl⟩ (Nat.le_of_ble_eq_true rfl) rfl d_X3_readSum_37 (fun r hr => ct_J7_copyOf_59c91 l G x9 x10 h8 r hr) (fun r11 _ => ?_)
    refine xa_callIV (nn := xn r6.2) (as := [xR r11.1]) (st := [xR ((xn r6.2 : Int))]) (M' := mX2_init) (d' := 2) rfl rfl xw_852 xw_853 xw_854 xw_178 xh_X2_init rfl ⟨Nat.le_of_ble_eq_true rfl, Nat.le_of_ble_eq_true rfl⟩ (Nat.le_of_ble_eq_true rfl) rfl d_X3_readSum_40 (fun r hr => ct_X2_init l G ((xn r6.2 : Int)) r11.1 r11.2 r hr) (fun r12 _ => ?_)
    refine xa_step (xa_goto d_X3_readSum_43) ?_
    exact xa_aret d_X3_readSum_47 rfl (Or.inl ⟨_, rfl⟩) rfl
theorem ct_X3_readSum (l : Launch) (G : xa_C) (v0 v1 : Int) (h : xa_H) (r : Int × xa_H) (hr : f_X3_readSum v0 v1 h = some r) : xa_CT l G 65 mX3_readSum yX3_readSum [xR v0, xI v1] h (some (xR r.1), r.2) :=
  xa_met (by decide +kernel) rfl (fun q => by first | rfl | cases q) (Nat.le_of_ble_eq_true rfl) rfl (g_X3_readSum l G v0 v1 h) (by rw [hr]; rfl)
