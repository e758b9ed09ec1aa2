abbrev mX12_on : xa_M := (cX12_on, 9, (some (.int)), RX12, false)
theorem d_X12_on_0 : decode mX12_on.1 0 = .ok (.aload_n 0, 1) ∧ 0 + 1 = 1 := ⟨by decide +kernel, rfl⟩
theorem d_X12_on_1 : decode mX12_on.1 1 = .ok (.iload_n 1, 1) ∧ 1 + 1 = 2 := ⟨by decide +kernel, rfl⟩
theorem d_X12_on_2 : decode mX12_on.1 2 = .ok (.invokevirtual 488, 3) ∧ 2 + 3 = 5 := ⟨by decide +kernel, rfl⟩
theorem d_X12_on_5 : decode mX12_on.1 5 = .ok (.ifCond .eq 16, 3) ∧ 5 + 3 = 8 ∧ ((5 : Nat) : Int) + 16 = ((21 : Nat) : Int) := ⟨by decide +kernel, rfl, rfl⟩
theorem d_X12_on_21 : decode mX12_on.1 21 = .ok (.iconst (-1), 1) ∧ 21 + 1 = 22 := ⟨by decide +kernel, rfl⟩
theorem d_X12_on_22 : decode mX12_on.1 22 = .ok (.ireturn, 1) := by decide +kernel
theorem d_X12_on_8 : decode mX12_on.1 8 = .ok (.aload_n 0, 1) ∧ 8 + 1 = 9 := ⟨by decide +kernel, rfl⟩
theorem d_X12_on_9 : decode mX12_on.1 9 = .ok (.getfield 100, 3) ∧ 9 + 3 = 12 := ⟨by decide +kernel, rfl⟩
theorem d_X12_on_12 : decode mX12_on.1 12 = .ok (.bipush 6, 2) ∧ 12 + 2 = 14 := ⟨by decide +kernel, rfl⟩
theorem d_X12_on_14 : decode mX12_on.1 14 = .ok (.iload_n 1, 1) ∧ 14 + 1 = 15 := ⟨by decide +kernel, rfl⟩
theorem d_X12_on_15 : decode mX12_on.1 15 = .ok (.iadd, 1) ∧ 15 + 1 = 16 := ⟨by decide +kernel, rfl⟩
theorem d_X12_on_16 : decode mX12_on.1 16 = .ok (.iaload, 1) ∧ 16 + 1 = 17 := ⟨by decide +kernel, rfl⟩
theorem d_X12_on_17 : decode mX12_on.1 17 = .ok (.iconst (-1), 1) ∧ 17 + 1 = 18 := ⟨by decide +kernel, rfl⟩
theorem d_X12_on_18 : decode mX12_on.1 18 = .ok (.if_icmp .ne 5, 3) ∧ 18 + 3 = 21 ∧ ((18 : Nat) : Int) + 5 = ((23 : Nat) : Int) := ⟨by decide +kernel, rfl, rfl⟩
theorem d_X12_on_23 : decode mX12_on.1 23 = .ok (.aload_n 0, 1) ∧ 23 + 1 = 24 := ⟨by decide +kernel, rfl⟩
theorem d_X12_on_24 : decode mX12_on.1 24 = .ok (.iload_n 1, 1) ∧ 24 + 1 = 25 := ⟨by decide +kernel, rfl⟩
theorem d_X12_on_25 : decode mX12_on.1 25 = .ok (.invokevirtual 491, 3) ∧ 25 + 3 = 28 := ⟨by decide +kernel, rfl⟩
theorem d_X12_on_28 : decode mX12_on.1 28 = .ok (.istore_n 2, 1) ∧ 28 + 1 = 29 := ⟨by decide +kernel, rfl⟩
theorem d_X12_on_29 : decode mX12_on.1 29 = .ok (.aload_n 0, 1) ∧ 29 + 1 = 30 := ⟨by decide +kernel, rfl⟩
theorem d_X12_on_30 : decode mX12_on.1 30 = .ok (.aload_n 0, 1) ∧ 30 + 1 = 31 := ⟨by decide +kernel, rfl⟩
theorem d_X12_on_31 : decode mX12_on.1 31 = .ok (.getfield 100, 3) ∧ 31 + 3 = 34 := ⟨by decide +kernel, rfl⟩
theorem d_X12_on_34 : decode mX12_on.1 34 = .ok (.bipush 6, 2) ∧ 34 + 2 = 36 := ⟨by decide +kernel, rfl⟩
theorem d_X12_on_36 : decode mX12_on.1 36 = .ok (.iload_n 1, 1) ∧ 36 + 1 = 37 := ⟨by decide +kernel, rfl⟩
theorem d_X12_on_37 : decode mX12_on.1 37 = .ok (.iadd, 1) ∧ 37 + 1 = 38 := ⟨by decide +kernel, rfl⟩
theorem d_X12_on_38 : decode mX12_on.1 38 = .ok (.iaload, 1) ∧ 38 + 1 = 39 := ⟨by decide +kernel, rfl⟩
theorem d_X12_on_39 : decode mX12_on.1 39 = .ok (.invokevirtual 491, 3) ∧ 39 + 3 = 42 := ⟨by decide +kernel, rfl⟩
theorem d_X12_on_42 : decode mX12_on.1 42 = .ok (.istore_n 3, 1) ∧ 42 + 1 = 43 := ⟨by decide +kernel, rfl⟩
theorem d_X12_on_43 : decode mX12_on.1 43 = .ok (.iload_n 2, 1) ∧ 43 + 1 = 44 := ⟨by decide +kernel, rfl⟩
theorem d_X12_on_44 : decode mX12_on.1 44 = .ok (.iconst (-1), 1) ∧ 44 + 1 = 45 := ⟨by decide +kernel, rfl⟩
theorem d_X12_on_45 : decode mX12_on.1 45 = .ok (.if_icmp .eq 8, 3) ∧ 45 + 3 = 48 ∧ ((45 : Nat) : Int) + 8 = ((53 : Nat) : Int) := ⟨by decide +kernel, rfl, rfl⟩
theorem d_X12_on_53 : decode mX12_on.1 53 = .ok (.iconst (-1), 1) ∧ 53 + 1 = 54 := ⟨by decide +kernel, rfl⟩
theorem d_X12_on_54 : decode mX12_on.1 54 = .ok (.ireturn, 1) := by decide +kernel
theorem d_X12_on_48 : decode mX12_on.1 48 = .ok (.iload_n 3, 1) ∧ 48 + 1 = 49 := ⟨by decide +kernel, rfl⟩
theorem d_X12_on_49 : decode mX12_on.1 49 = .ok (.iconst (-1), 1) ∧ 49 + 1 = 50 := ⟨by decide +kernel, rfl⟩
theorem d_X12_on_50 : decode mX12_on.1 50 = .ok (.if_icmp .ne 5, 3) ∧ 50 + 3 = 53 ∧ ((50 : Nat) : Int) + 5 = ((55 : Nat) : Int) := ⟨by decide +kernel, rfl, rfl⟩
theorem d_X12_on_55 : decode mX12_on.1 55 = .ok (.iconst 1, 1) ∧ 55 + 1 = 56 := ⟨by decide +kernel, rfl⟩
theorem d_X12_on_56 : decode mX12_on.1 56 = .ok (.iload_n 2, 1) ∧ 56 + 1 = 57 := ⟨by decide +kernel, rfl⟩
theorem d_X12_on_57 : decode mX12_on.1 57 = .ok (.ishl, 1) ∧ 57 + 1 = 58 := ⟨by decide +kernel, rfl⟩
theorem d_X12_on_58 : decode mX12_on.1 58 = .ok (.istore 4, 2) ∧ 58 + 2 = 60 := ⟨by decide +kernel, rfl⟩
theorem d_X12_on_60 : decode mX12_on.1 60 = .ok (.iconst 0, 1) ∧ 60 + 1 = 61 := ⟨by decide +kernel, rfl⟩
theorem d_X12_on_61 : decode mX12_on.1 61 = .ok (.istore 5, 2) ∧ 61 + 2 = 63 := ⟨by decide +kernel, rfl⟩
theorem d_X12_on_63 : decode mX12_on.1 63 = .ok (.iload 4, 2) ∧ 63 + 2 = 65 := ⟨by decide +kernel, rfl⟩
theorem d_X12_on_65 : decode mX12_on.1 65 = .ok (.iload_n 3, 1) ∧ 65 + 1 = 66 := ⟨by decide +kernel, rfl⟩
theorem d_X12_on_66 : decode mX12_on.1 66 = .ok (.ishr, 1) ∧ 66 + 1 = 67 := ⟨by decide +kernel, rfl⟩
theorem d_X12_on_67 : decode mX12_on.1 67 = .ok (.iconst 1, 1) ∧ 67 + 1 = 68 := ⟨by decide +kernel, rfl⟩
theorem d_X12_on_68 : decode mX12_on.1 68 = .ok (.iand, 1) ∧ 68 + 1 = 69 := ⟨by decide +kernel, rfl⟩
theorem d_X12_on_69 : decode mX12_on.1 69 = .ok (.ifCond .ne 102, 3) ∧ 69 + 3 = 72 ∧ ((69 : Nat) : Int) + 102 = ((171 : Nat) : Int) := ⟨by decide +kernel, rfl, rfl⟩
theorem d_X12_on_72 : decode mX12_on.1 72 = .ok (.iload 4, 2) ∧ 72 + 2 = 74 := ⟨by decide +kernel, rfl⟩
theorem d_X12_on_74 : decode mX12_on.1 74 = .ok (.istore 6, 2) ∧ 74 + 2 = 76 := ⟨by decide +kernel, rfl⟩
theorem d_X12_on_76 : decode mX12_on.1 76 = .ok (.iconst 0, 1) ∧ 76 + 1 = 77 := ⟨by decide +kernel, rfl⟩
theorem d_X12_on_77 : decode mX12_on.1 77 = .ok (.istore 7, 2) ∧ 77 + 2 = 79 := ⟨by decide +kernel, rfl⟩
theorem d_X12_on_79 : decode mX12_on.1 79 = .ok (.iload 7, 2) ∧ 79 + 2 = 81 := ⟨by decide +kernel, rfl⟩
theorem d_X12_on_81 : decode mX12_on.1 81 = .ok (.aload_n 0, 1) ∧ 81 + 1 = 82 := ⟨by decide +kernel, rfl⟩
theorem d_X12_on_82 : decode mX12_on.1 82 = .ok (.invokevirtual 402, 3) ∧ 82 + 3 = 85 := ⟨by decide +kernel, rfl⟩
theorem d_X12_on_85 : decode mX12_on.1 85 = .ok (.if_icmp .ge 67, 3) ∧ 85 + 3 = 88 ∧ ((85 : Nat) : Int) + 67 = ((152 : Nat) : Int) := ⟨by decide +kernel, rfl, rfl⟩
theorem d_X12_on_88 : decode mX12_on.1 88 = .ok (.iconst 0, 1) ∧ 88 + 1 = 89 := ⟨by decide +kernel, rfl⟩
theorem d_X12_on_89 : decode mX12_on.1 89 = .ok (.istore 8, 2) ∧ 89 + 2 = 91 := ⟨by decide +kernel, rfl⟩
theorem d_X12_on_91 : decode mX12_on.1 91 = .ok (.iload 8, 2) ∧ 91 + 2 = 93 := ⟨by decide +kernel, rfl⟩
theorem d_X12_on_93 : decode mX12_on.1 93 = .ok (.aload_n 0, 1) ∧ 93 + 1 = 94 := ⟨by decide +kernel, rfl⟩
theorem d_X12_on_94 : decode mX12_on.1 94 = .ok (.invokevirtual 402, 3) ∧ 94 + 3 = 97 := ⟨by decide +kernel, rfl⟩
theorem d_X12_on_97 : decode mX12_on.1 97 = .ok (.if_icmp .ge 49, 3) ∧ 97 + 3 = 100 ∧ ((97 : Nat) : Int) + 49 = ((146 : Nat) : Int) := ⟨by decide +kernel, rfl, rfl⟩
theorem d_X12_on_100 : decode mX12_on.1 100 = .ok (.iload 4, 2) ∧ 100 + 2 = 102 := ⟨by decide +kernel, rfl⟩
theorem d_X12_on_102 : decode mX12_on.1 102 = .ok (.iload 7, 2) ∧ 102 + 2 = 104 := ⟨by decide +kernel, rfl⟩
theorem d_X12_on_104 : decode mX12_on.1 104 = .ok (.ishr, 1) ∧ 104 + 1 = 105 := ⟨by decide +kernel, rfl⟩
theorem d_X12_on_105 : decode mX12_on.1 105 = .ok (.iconst 1, 1) ∧ 105 + 1 = 106 := ⟨by decide +kernel, rfl⟩
theorem d_X12_on_106 : decode mX12_on.1 106 = .ok (.iand, 1) ∧ 106 + 1 = 107 := ⟨by decide +kernel, rfl⟩
theorem d_X12_on_107 : decode mX12_on.1 107 = .ok (.iconst 1, 1) ∧ 107 + 1 = 108 := ⟨by decide +kernel, rfl⟩
theorem d_X12_on_108 : decode mX12_on.1 108 = .ok (.if_icmp .ne 32, 3) ∧ 108 + 3 = 111 ∧ ((108 : Nat) : Int) + 32 = ((140 : Nat) : Int) := ⟨by decide +kernel, rfl, rfl⟩
theorem d_X12_on_111 : decode mX12_on.1 111 = .ok (.aload_n 0, 1) ∧ 111 + 1 = 112 := ⟨by decide +kernel, rfl⟩
theorem d_X12_on_112 : decode mX12_on.1 112 = .ok (.iload 7, 2) ∧ 112 + 2 = 114 := ⟨by decide +kernel, rfl⟩
theorem d_X12_on_114 : decode mX12_on.1 114 = .ok (.iload 8, 2) ∧ 114 + 2 = 116 := ⟨by decide +kernel, rfl⟩
theorem d_X12_on_116 : decode mX12_on.1 116 = .ok (.invokevirtual 423, 3) ∧ 116 + 3 = 119 := ⟨by decide +kernel, rfl⟩
theorem d_X12_on_119 : decode mX12_on.1 119 = .ok (.aload_n 0, 1) ∧ 119 + 1 = 120 := ⟨by decide +kernel, rfl⟩
theorem d_X12_on_120 : decode mX12_on.1 120 = .ok (.iload 8, 2) ∧ 120 + 2 = 122 := ⟨by decide +kernel, rfl⟩
theorem d_X12_on_122 : decode mX12_on.1 122 = .ok (.iload 7, 2) ∧ 122 + 2 = 124 := ⟨by decide +kernel, rfl⟩
theorem d_X12_on_124 : decode mX12_on.1 124 = .ok (.invokevirtual 423, 3) ∧ 124 + 3 = 127 := ⟨by decide +kernel, rfl⟩
theorem d_X12_on_127 : decode mX12_on.1 127 = .ok (.iadd, 1) ∧ 127 + 1 = 128 := ⟨by decide +kernel, rfl⟩
theorem d_X12_on_128 : decode mX12_on.1 128 = .ok (.ifCond .le 12, 3) ∧ 128 + 3 = 131 ∧ ((128 : Nat) : Int) + 12 = ((140 : Nat) : Int) := ⟨by decide +kernel, rfl, rfl⟩
theorem d_X12_on_131 : decode mX12_on.1 131 = .ok (.iload 6, 2) ∧ 131 + 2 = 133 := ⟨by decide +kernel, rfl⟩
theorem d_X12_on_133 : decode mX12_on.1 133 = .ok (.iconst 1, 1) ∧ 133 + 1 = 134 := ⟨by decide +kernel, rfl⟩
theorem d_X12_on_134 : decode mX12_on.1 134 = .ok (.iload 8, 2) ∧ 134 + 2 = 136 := ⟨by decide +kernel, rfl⟩
theorem d_X12_on_136 : decode mX12_on.1 136 = .ok (.ishl, 1) ∧ 136 + 1 = 137 := ⟨by decide +kernel, rfl⟩
theorem d_X12_on_137 : decode mX12_on.1 137 = .ok (.ior, 1) ∧ 137 + 1 = 138 := ⟨by decide +kernel, rfl⟩
theorem d_X12_on_138 : decode mX12_on.1 138 = .ok (.istore 6, 2) ∧ 138 + 2 = 140 := ⟨by decide +kernel, rfl⟩
theorem d_X12_on_140 : decode mX12_on.1 140 = .ok (.iinc 8 1, 3) ∧ 140 + 3 = 143 := ⟨by decide +kernel, rfl⟩
theorem d_X12_on_143 : decode mX12_on.1 143 = .ok (.goto (-52), 3) ∧ ((143 : Nat) : Int) + (-52) = ((91 : Nat) : Int) := ⟨by decide +kernel, rfl⟩
set_option maxRecDepth 100000 in
set_option maxHeartbeats 4000000 in
theorem g_X12_on_L91 (l : Launch) (G : xa_C) (c0 c3 c4 c5 c7 : Int) (h : xa_H) (K : (Int × Int) ⊕ (Int) → Option xa_O) (hb : ∀ (v6 : Int) (v8 : Int), xa_G l G 4 mX12_on (some (Sum.inl ((v6, v8)))) K 91 [some (xR c0), none, none, some (xI c3), some (xI c4), some (xI c5), some (xI v6), some (xI c7), some (xI v8)] [] h) (hx : ∀ (v6 : Int), xa_G l G 4 mX12_on (some (Sum.inr v6)) K 146 [some (xR c0), none, none, some (xI c3), some (xI c4), some (xI c5), some (xI v6), some (xI c7), none] [] h) : ∀ (v6 : Int) (v8 : Int), xa_G l G 4 mX12_on (f_X12_on_L91 c0 c3 c4 c5 c7 h v6 v8) K 91 [some (xR c0), none, none, some (xI c3), some (xI c4), some (xI c5), some (xI v6), some (xI c7), some (xI v8)] [] h := by
  intro v6 v8
  unfold f_X12_on_L91
  refine xa_step (xa_iload d_X12_on_91 rfl) ?_
  refine xa_step (xa_aload_n d_X12_on_93 rfl) ?_
  refine xa_callVi (as := []) (st := [xI v8]) (M' := mX12_holderMany) (d' := 2) rfl xw_1836 xw_1838 xw_108 xw_1839 xw_177 xh_X12_holderMany rfl ⟨Nat.le_of_ble_eq_true rfl, Nat.le_of_ble_eq_true rfl⟩ (Nat.le_of_ble_eq_true rfl) rfl d_X12_on_94 (fun r hr => ct_X12_holderMany l G c0 h r hr) (fun r15 _ => ?_)
  refine xa_if (xa_icmpge d_X12_on_97) (fun q16 => ?_) (fun q16 => ?_)
  · refine xa_step (xa_iload d_X12_on_100 rfl) ?_
    refine xa_step (xa_iload d_X12_on_102 rfl) ?_
    refine xa_step (xa_ishr d_X12_on_104) ?_
    refine xa_step (xa_iconst d_X12_on_105 xq_i_1) ?_
    refine xa_step (xa_iand d_X12_on_106) ?_
    refine xa_step (xa_iconst d_X12_on_107 xq_i_1) ?_
    refine xa_if (xa_icmpne d_X12_on_108) (fun q17 => ?_) (fun q17 => ?_)
    · refine xa_step (xa_aload_n d_X12_on_111 rfl) ?_
      refine xa_step (xa_iload d_X12_on_112 rfl) ?_
      refine xa_step (xa_iload d_X12_on_114 rfl) ?_
      refine xa_callVi (as := [xI c7, xI v8]) (st := []) (M' := mX12_metBy) (d' := 2) rfl xw_1901 xw_1903 xw_119 xw_1904 xw_177 xh_X12_metBy rfl ⟨Nat.le_of_ble_eq_true rfl, Nat.le_of_ble_eq_true rfl⟩ (Nat.le_of_ble_eq_true rfl) rfl d_X12_on_116 (fun r hr => ct_X12_metBy l G c0 c7 v8 h r hr) (fun r18 _ => ?_)
      refine xa_step (xa_aload_n d_X12_on_119 rfl) ?_
      refine xa_step (xa_iload d_X12_on_120 rfl) ?_
      refine xa_step (xa_iload d_X12_on_122 rfl) ?_
      refine xa_callVi (as := [xI v8, xI c7]) (st := [xI r18]) (M' := mX12_metBy) (d' := 2) rfl xw_1901 xw_1903 xw_119 xw_1904 xw_177 xh_X12_metBy rfl ⟨Nat.le_of_ble_eq_true rfl, Nat.le_of_ble_eq_true rfl⟩ (Nat.le_of_ble_eq_true rfl) rfl d_X12_on_124 (fun r hr => ct_X12_metBy l G c0 v8 c7 h r hr) (fun r19 _ => ?_)
      refine xa_step (xa_iadd d_X12_on_127) ?_
      refine xa_if (xa_ifle d_X12_on_128) (fun q20 => ?_) (fun q20 => ?_)
      · refine xa_step (xa_iload d_X12_on_131 rfl) ?_
        refine xa_step (xa_iconst d_X12_on_133 xq_i_1) ?_
        refine xa_step (xa_iload d_X12_on_134 rfl) ?_
        refine xa_step (xa_ishl d_X12_on_136) ?_
        refine xa_step (xa_ior d_X12_on_137) ?_
        refine xa_step (xa_istore (ls' := [some (xR c0), none, none, some (xI c3), some (xI c4), some (xI c5), some (xI (xior v6 (xshl 1 v8))), some (xI c7), some (xI v8)]) d_X12_on_138 (by decide) rfl) ?_
        refine xa_step (xa_iinc (ls' := [some (xR c0), none, none, some (xI c3), some (xI c4), some (xI c5), some (xI (xior v6 (xshl 1 v8))), some (xI c7), some (xI (w32 (v8 + 1)))]) d_X12_on_140 xq_i_1 rfl (by decide) rfl) ?_
        refine xa_step (xa_goto d_X12_on_143) ?_
        exact xa_weak (ls' := [some (xR c0), none, none, some (xI c3), some (xI c4), some (xI c5), some (xI (xior v6 (xshl 1 v8))), some (xI c7), some (xI (w32 (v8 + 1)))]) ⟨rfl, rfl, rfl, rfl, rfl, rfl, rfl, trivial⟩ (hb (xior v6 (xshl 1 v8)) (w32 (v8 + 1)))
      · refine xa_step (xa_iinc (ls' := [some (xR c0), none, none, some (xI c3), some (xI c4), some (xI c5), some (xI v6), some (xI c7), some (xI (w32 (v8 + 1)))]) d_X12_on_140 xq_i_1 rfl (by decide) rfl) ?_
        refine xa_step (xa_goto d_X12_on_143) ?_
        exact xa_weak (ls' := [some (xR c0), none, none, some (xI c3), some (xI c4), some (xI c5), some (xI v6), some (xI c7), some (xI (w32 (v8 + 1)))]) ⟨rfl, rfl, rfl, rfl, rfl, rfl, rfl, trivial⟩ (hb v6 (w32 (v8 + 1)))
    · refine xa_step (xa_iinc (ls' := [some (xR c0), none, none, some (xI c3), some (xI c4), some (xI c5), some (xI v6), some (xI c7), some (xI (w32 (v8 + 1)))]) d_X12_on_140 xq_i_1 rfl (by decide) rfl) ?_
      refine xa_step (xa_goto d_X12_on_143) ?_
      exact xa_weak (ls' := [some (xR c0), none, none, some (xI c3), some (xI c4), some (xI c5), some (xI v6), some (xI c7), some (xI (w32 (v8 + 1)))]) ⟨rfl, rfl, rfl, rfl, rfl, rfl, rfl, trivial⟩ (hb v6 (w32 (v8 + 1)))
  · exact xa_weak (ls' := [some (xR c0), none, none, some (xI c3), some (xI c4), some (xI c5), some (xI v6), some (xI c7), none]) ⟨rfl, rfl, rfl, rfl, rfl, rfl, trivial⟩ (hx v6)
theorem d_X12_on_146 : decode mX12_on.1 146 = .ok (.iinc 7 1, 3) ∧ 146 + 3 = 149 := ⟨by decide +kernel, rfl⟩
theorem d_X12_on_149 : decode mX12_on.1 149 = .ok (.goto (-70), 3) ∧ ((149 : Nat) : Int) + (-70) = ((79 : Nat) : Int) := ⟨by decide +kernel, rfl⟩
set_option maxRecDepth 100000 in
set_option maxHeartbeats 4000000 in
theorem g_X12_on_L79 (l : Launch) (G : xa_C) (c0 c3 c4 c5 : Int) (h : xa_H) (K : (Int × Int) ⊕ (Int) → Option xa_O) (hb : ∀ (v6 : Int) (v7 : Int), xa_G l G 4 mX12_on (some (Sum.inl ((v6, v7)))) K 79 [some (xR c0), none, none, some (xI c3), some (xI c4), some (xI c5), some (xI v6), some (xI v7), none] [] h) (hx : ∀ (v6 : Int), xa_G l G 4 mX12_on (some (Sum.inr v6)) K 152 [some (xR c0), none, none, some (xI c3), some (xI c4), some (xI c5), some (xI v6), none, none] [] h) : ∀ (v6 : Int) (v7 : Int), xa_G l G 4 mX12_on (f_X12_on_L79 c0 c3 c4 c5 h v6 v7) K 79 [some (xR c0), none, none, some (xI c3), some (xI c4), some (xI c5), some (xI v6), some (xI v7), none] [] h := by
  intro v6 v7
  unfold f_X12_on_L79
  refine xa_step (xa_iload d_X12_on_79 rfl) ?_
  refine xa_step (xa_aload_n d_X12_on_81 rfl) ?_
  refine xa_callVi (as := []) (st := [xI v7]) (M' := mX12_holderMany) (d' := 2) rfl xw_1836 xw_1838 xw_108 xw_1839 xw_177 xh_X12_holderMany rfl ⟨Nat.le_of_ble_eq_true rfl, Nat.le_of_ble_eq_true rfl⟩ (Nat.le_of_ble_eq_true rfl) rfl d_X12_on_82 (fun r hr => ct_X12_holderMany l G c0 h r hr) (fun r13 _ => ?_)
  refine xa_if (xa_icmpge d_X12_on_85) (fun q14 => ?_) (fun q14 => ?_)
  · refine xa_step (xa_iconst d_X12_on_88 xq_i_0) ?_
    refine xa_step (xa_istore (ls' := [some (xR c0), none, none, some (xI c3), some (xI c4), some (xI c5), some (xI v6), some (xI v7), some (xI 0)]) d_X12_on_89 (by decide) rfl) ?_
    refine xa_weak (ls' := [some (xR c0), none, none, some (xI c3), some (xI c4), some (xI c5), some (xI v6), some (xI v7), some (xI 0)]) ⟨rfl, rfl, rfl, rfl, rfl, rfl, rfl, trivial⟩ ?_
    refine xa_loop (f := fun s => f_X12_on_L91 c0 c3 c4 c5 v7 h s.1 s.2) (L := fun s => [some (xR c0), none, none, some (xI c3), some (xI c4), some (xI c5), some (xI s.1), some (xI v7), some (xI s.2)]) (P := fun s => h) (X := (fun x K => xa_G l G 4 mX12_on (some (Sum.inr x)) K 146 [some (xR c0), none, none, some (xI c3), some (xI c4), some (xI c5), some (xI x), some (xI v7), none] [] h)) (fun K hb hX s => g_X12_on_L91 l G c0 c3 c4 c5 v7 h K (fun w0 w1 => hb ((w0, w1))) (fun w0 => hX w0) s.1 s.2) ?_ xFU ((v6, 0))
    intro e21 K hK
    refine xa_eqE hK ?_
    show xa_G l G 4 mX12_on _ _ 146 [some (xR c0), none, none, some (xI c3), some (xI c4), some (xI c5), some (xI e21), some (xI v7), none] [] h
    refine xa_step (xa_iinc (ls' := [some (xR c0), none, none, some (xI c3), some (xI c4), some (xI c5), some (xI e21), some (xI (w32 (v7 + 1))), none]) d_X12_on_146 xq_i_1 rfl (by decide) rfl) ?_
    refine xa_step (xa_goto d_X12_on_149) ?_
    exact xa_weak (ls' := [some (xR c0), none, none, some (xI c3), some (xI c4), some (xI c5), some (xI e21), some (xI (w32 (v7 + 1))), none]) ⟨rfl, rfl, rfl, rfl, rfl, rfl, trivial⟩ (hb e21 (w32 (v7 + 1)))
  · exact xa_weak (ls' := [some (xR c0), none, none, some (xI c3), some (xI c4), some (xI c5), some (xI v6), none, none]) ⟨rfl, rfl, rfl, rfl, rfl, trivial⟩ (hx v6)
theorem d_X12_on_152 : decode mX12_on.1 152 = .ok (.iload 6, 2) ∧ 152 + 2 = 154 := ⟨by decide +kernel, rfl⟩
theorem d_X12_on_154 : decode mX12_on.1 154 = .ok (.iload 4, 2) ∧ 154 + 2 = 156 := ⟨by decide +kernel, rfl⟩
theorem d_X12_on_156 : decode mX12_on.1 156 = .ok (.if_icmp .ne 5, 3) ∧ 156 + 3 = 159 ∧ ((156 : Nat) : Int) + 5 = ((161 : Nat) : Int) := ⟨by decide +kernel, rfl, rfl⟩
theorem d_X12_on_159 : decode mX12_on.1 159 = .ok (.iconst (-1), 1) ∧ 159 + 1 = 160 := ⟨by decide +kernel, rfl⟩
theorem d_X12_on_160 : decode mX12_on.1 160 = .ok (.ireturn, 1) := by decide +kernel
theorem d_X12_on_161 : decode mX12_on.1 161 = .ok (.iload 6, 2) ∧ 161 + 2 = 163 := ⟨by decide +kernel, rfl⟩
theorem d_X12_on_163 : decode mX12_on.1 163 = .ok (.istore 4, 2) ∧ 163 + 2 = 165 := ⟨by decide +kernel, rfl⟩
theorem d_X12_on_165 : decode mX12_on.1 165 = .ok (.iinc 5 1, 3) ∧ 165 + 3 = 168 := ⟨by decide +kernel, rfl⟩
theorem d_X12_on_168 : decode mX12_on.1 168 = .ok (.goto (-105), 3) ∧ ((168 : Nat) : Int) + (-105) = ((63 : Nat) : Int) := ⟨by decide +kernel, rfl⟩
set_option maxRecDepth 100000 in
set_option maxHeartbeats 4000000 in
theorem g_X12_on_L63 (l : Launch) (G : xa_C) (c0 c3 : Int) (h : xa_H) (K : (Int × Int) ⊕ ((Int) ⊕ (Int)) → Option xa_O) (hb : ∀ (v4 : Int) (v5 : Int), xa_G l G 4 mX12_on (some (Sum.inl ((v4, v5)))) K 63 [some (xR c0), none, none, some (xI c3), some (xI v4), some (xI v5), none, none, none] [] h) (hr : ∀ r : Int, K (Sum.inr (Sum.inl r)) = some (some (xI r), h)) (hx : ∀ (v5 : Int), xa_G l G 4 mX12_on (some (Sum.inr (Sum.inr v5))) K 171 [none, none, none, none, none, some (xI v5), none, none, none] [] h) : ∀ (v4 : Int) (v5 : Int), xa_G l G 4 mX12_on (f_X12_on_L63 c0 c3 h v4 v5) K 63 [some (xR c0), none, none, some (xI c3), some (xI v4), some (xI v5), none, none, none] [] h := by
  intro v4 v5
  unfold f_X12_on_L63
  refine xa_step (xa_iload d_X12_on_63 rfl) ?_
  refine xa_step (xa_iload_n d_X12_on_65 rfl) ?_
  refine xa_step (xa_ishr d_X12_on_66) ?_
  refine xa_step (xa_iconst d_X12_on_67 xq_i_1) ?_
  refine xa_step (xa_iand d_X12_on_68) ?_
  refine xa_if (xa_ifne d_X12_on_69) (fun q12 => ?_) (fun q12 => ?_)
  · refine xa_step (xa_iload d_X12_on_72 rfl) ?_
    refine xa_step (xa_istore (ls' := [some (xR c0), none, none, some (xI c3), some (xI v4), some (xI v5), some (xI v4), none, none]) d_X12_on_74 (by decide) rfl) ?_
    refine xa_step (xa_iconst d_X12_on_76 xq_i_0) ?_
    refine xa_step (xa_istore (ls' := [some (xR c0), none, none, some (xI c3), some (xI v4), some (xI v5), some (xI v4), some (xI 0), none]) d_X12_on_77 (by decide) rfl) ?_
    refine xa_weak (ls' := [some (xR c0), none, none, some (xI c3), some (xI v4), some (xI v5), some (xI v4), some (xI 0), none]) ⟨rfl, rfl, rfl, rfl, rfl, rfl, trivial⟩ ?_
    refine xa_loop (f := fun s => f_X12_on_L79 c0 c3 v4 v5 h s.1 s.2) (L := fun s => [some (xR c0), none, none, some (xI c3), some (xI v4), some (xI v5), some (xI s.1), some (xI s.2), none]) (P := fun s => h) (X := (fun x K => xa_G l G 4 mX12_on (some (Sum.inr x)) K 152 [some (xR c0), none, none, some (xI c3), some (xI v4), some (xI v5), some (xI x), none, none] [] h)) (fun K hb hX s => g_X12_on_L79 l G c0 c3 v4 v5 h K (fun w0 w1 => hb ((w0, w1))) (fun w0 => hX w0) s.1 s.2) ?_ xFU ((v4, 0))
    intro e22 K hK
    refine xa_eqE hK ?_
    show xa_G l G 4 mX12_on _ _ 152 [some (xR c0), none, none, some (xI c3), some (xI v4), some (xI v5), some (xI e22), none, none] [] h
    refine xa_step (xa_iload d_X12_on_152 rfl) ?_
    refine xa_step (xa_iload d_X12_on_154 rfl) ?_
    refine xa_if (xa_icmpne d_X12_on_156) (fun q23 => ?_) (fun q23 => ?_)
    · refine xa_step (xa_iconst d_X12_on_159 xq_i_m1) ?_
      exact xa_iret d_X12_on_160 rfl (hr _)
    · refine xa_step (xa_iload d_X12_on_161 rfl) ?_
      refine xa_step (xa_istore (ls' := [some (xR c0), none, none, some (xI c3), some (xI e22), some (xI v5), some (xI e22), none, none]) d_X12_on_163 (by decide) rfl) ?_
      refine xa_step (xa_iinc (ls' := [some (xR c0), none, none, some (xI c3), some (xI e22), some (xI (w32 (v5 + 1))), some (xI e22), none, none]) d_X12_on_165 xq_i_1 rfl (by decide) rfl) ?_
      refine xa_step (xa_goto d_X12_on_168) ?_
      exact xa_weak (ls' := [some (xR c0), none, none, some (xI c3), some (xI e22), some (xI (w32 (v5 + 1))), none, none, none]) ⟨rfl, rfl, rfl, rfl, trivial⟩ (hb e22 (w32 (v5 + 1)))
  · exact xa_weak (ls' := [none, none, none, none, none, some (xI v5), none, none, none]) ⟨rfl, trivial⟩ (hx v5)
theorem d_X12_on_171 : decode mX12_on.1 171 = .ok (.iload 5, 2) ∧ 171 + 2 = 173 := ⟨by decide +kernel, rfl⟩
theorem d_X12_on_173 : decode mX12_on.1 173 = .ok (.ireturn, 1) := by decide +kernel
set_option maxRecDepth 100000 in
set_option maxHeartbeats 4000000 in
theorem g_X12_on (l : Launch) (G : xa_C) (v0 v1 : Int) (h : xa_H) : xa_G l G 4 mX12_on (f_X12_on v0 v1 h) (fun r => some (some (xI r), h) : Int → Option xa_O) 0 [some (xR v0), some (xI v1), none, none, none, none, none, none, none] [] h := by
  unfold f_X12_on
  refine xa_step (xa_aload_n d_X12_on_0 rfl) ?_
  refine xa_step (xa_iload_n d_X12_on_1 rfl) ?_
  refine xa_callVi (as := [xI v1]) (st := []) (M' := mX12_isHeldThere) (d' := 3) rfl xw_1869 xw_1871 xw_114 xw_1872 xw_177 xh_X12_isHeldThere rfl ⟨Nat.le_of_ble_eq_true rfl, Nat.le_of_ble_eq_true rfl⟩ (Nat.le_of_ble_eq_true rfl) rfl d_X12_on_2 (fun r hr => ct_X12_isHeldThere l G v0 v1 h r hr) (fun r1 _ => ?_)
  refine xa_if (xa_ifeq d_X12_on_5) (fun q2 => ?_) (fun q2 => ?_)
  · refine xa_step (xa_iconst d_X12_on_21 xq_i_m1) ?_
    exact xa_iret d_X12_on_22 rfl rfl
  · refine xa_step (xa_aload_n d_X12_on_8 rfl) ?_
    refine xa_getf xR xc_12 (by decide) (fun _ => rfl) xw_1341 rfl d_X12_on_9 (fun x3 _ => ?_)
    refine xa_step (xa_bipush d_X12_on_12 xq_b_6) ?_
    refine xa_step (xa_iload_n d_X12_on_14 rfl) ?_
    refine xa_step (xa_iadd d_X12_on_15) ?_
    refine xa_iaload d_X12_on_16 (fun x4 _ => ?_)
    refine xa_step (xa_iconst d_X12_on_17 xq_i_m1) ?_
    refine xa_if (xa_icmpne d_X12_on_18) (fun q5 => ?_) (fun q5 => ?_)
    · refine xa_step (xa_iconst d_X12_on_21 xq_i_m1) ?_
      exact xa_iret d_X12_on_22 rfl rfl
    · refine xa_step (xa_aload_n d_X12_on_23 rfl) ?_
      refine xa_step (xa_iload_n d_X12_on_24 rfl) ?_
      refine xa_callVi (as := [xI v1]) (st := []) (M' := mX12_holderOf) (d' := 3) rfl xw_1877 xw_1879 xw_116 xw_1880 xw_177 xh_X12_holderOf rfl ⟨Nat.le_of_ble_eq_true rfl, Nat.le_of_ble_eq_true rfl⟩ (Nat.le_of_ble_eq_true rfl) rfl d_X12_on_25 (fun r hr => ct_X12_holderOf l G v0 v1 h r hr) (fun r6 _ => ?_)
      refine xa_step (xa_istore_n (ls' := [some (xR v0), some (xI v1), some (xI r6), none, none, none, none, none, none]) d_X12_on_28 (by decide) rfl) ?_
      refine xa_step (xa_aload_n d_X12_on_29 rfl) ?_
      refine xa_step (xa_aload_n d_X12_on_30 rfl) ?_
      refine xa_getf xR xc_12 (by decide) (fun _ => rfl) xw_1341 rfl d_X12_on_31 (fun x7 _ => ?_)
      refine xa_step (xa_bipush d_X12_on_34 xq_b_6) ?_
      refine xa_step (xa_iload_n d_X12_on_36 rfl) ?_
      refine xa_step (xa_iadd d_X12_on_37) ?_
      refine xa_iaload d_X12_on_38 (fun x8 _ => ?_)
      refine xa_callVi (as := [xI x8]) (st := []) (M' := mX12_holderOf) (d' := 3) rfl xw_1877 xw_1879 xw_116 xw_1880 xw_177 xh_X12_holderOf rfl ⟨Nat.le_of_ble_eq_true rfl, Nat.le_of_ble_eq_true rfl⟩ (Nat.le_of_ble_eq_true rfl) rfl d_X12_on_39 (fun r hr => ct_X12_holderOf l G v0 x8 h r hr) (fun r9 _ => ?_)
      refine xa_step (xa_istore_n (ls' := [some (xR v0), some (xI v1), some (xI r6), some (xI r9), none, none, none, none, none]) d_X12_on_42 (by decide) rfl) ?_
      refine xa_step (xa_iload_n d_X12_on_43 rfl) ?_
      refine xa_step (xa_iconst d_X12_on_44 xq_i_m1) ?_
      refine xa_if (xa_icmpeq d_X12_on_45) (fun q10 => ?_) (fun q10 => ?_)
      · refine xa_step (xa_iconst d_X12_on_53 xq_i_m1) ?_
        exact xa_iret d_X12_on_54 rfl rfl
      · refine xa_step (xa_iload_n d_X12_on_48 rfl) ?_
        refine xa_step (xa_iconst d_X12_on_49 xq_i_m1) ?_
        refine xa_if (xa_icmpne d_X12_on_50) (fun q11 => ?_) (fun q11 => ?_)
        · refine xa_step (xa_iconst d_X12_on_53 xq_i_m1) ?_
          exact xa_iret d_X12_on_54 rfl rfl
        · refine xa_step (xa_iconst d_X12_on_55 xq_i_1) ?_
          refine xa_step (xa_iload_n d_X12_on_56 rfl) ?_
          refine xa_step (xa_ishl d_X12_on_57) ?_
          refine xa_step (xa_istore (ls' := [some (xR v0), some (xI v1), some (xI r6), some (xI r9), some (xI (xshl 1 r6)), none, none, none, none]) d_X12_on_58 (by decide) rfl) ?_
          refine xa_step (xa_iconst d_X12_on_60 xq_i_0) ?_
          refine xa_step (xa_istore (ls' := [some (xR v0), some (xI v1), some (xI r6), some (xI r9), some (xI (xshl 1 r6)), some (xI 0), none, none, none]) d_X12_on_61 (by decide) rfl) ?_
          refine xa_weak (ls' := [some (xR v0), none, none, some (xI r9), some (xI (xshl 1 r6)), some (xI 0), none, none, none]) ⟨rfl, rfl, rfl, rfl, trivial⟩ ?_
          refine xa_loop (f := fun s => f_X12_on_L63 v0 r9 h s.1 s.2) (L := fun s => [some (xR v0), none, none, some (xI r9), some (xI s.1), some (xI s.2), none, none, none]) (P := fun s => h) (X := (fun e K => match e with | Sum.inl r => K (Sum.inr (Sum.inl r)) = some (some (xI r), h) | Sum.inr x => xa_G l G 4 mX12_on (some (Sum.inr (Sum.inr x))) K 171 [none, none, none, none, none, some (xI x), none, none, none] [] h)) (fun K hb hX s => g_X12_on_L63 l G v0 r9 h K (fun w0 w1 => hb ((w0, w1))) (fun r => hX (Sum.inl r)) (fun w0 => hX (Sum.inr w0)) s.1 s.2) ?_ xFU ((xshl 1 r6, 0))
          rintro (r | y25) K hK
          · exact hK.trans rfl
          · refine xa_eqE hK ?_
            show xa_G l G 4 mX12_on _ _ 171 [none, none, none, none, none, some (xI y25), none, none, none] [] h
            refine xa_step (xa_iload d_X12_on_171 rfl) ?_
            exact xa_iret d_X12_on_173 rfl rfl
theorem ct_X12_on (l : Launch) (G : xa_C) (v0 v1 : Int) (h : xa_H) (r : Int) (hr : f_X12_on v0 v1 h = some r) : xa_CT l G 4 mX12_on yX12_on [xR v0, xI v1] h (some (xI r), h) :=
  xa_met (by decide +kernel) rfl (fun q => by first | rfl | cases q) (Nat.le_of_ble_eq_true rfl) rfl (g_X12_on l G v0 v1 h) (by rw [hr]; rfl)
abbrev mX12_stands : xa_M := (cX12_stands, 2, none, RX12, false)
theorem d_X12_stands_0 : decode mX12_stands.1 0 = .ok (.iconst 0, 1) ∧ 0 + 1 = 1 := ⟨by decide +kernel, rfl⟩
theorem d_X12_stands_1 : decode mX12_stands.1 1 = .ok (.istore_n 1, 1) ∧ 1 + 1 = 2 := ⟨by decide +kernel, rfl⟩
theorem d_X12_stands_2 : decode mX12_stands.1 2 = .ok (.iload_n 1, 1) ∧ 2 + 1 = 3 := ⟨by decide +kernel, rfl⟩
theorem d_X12_stands_3 : decode mX12_stands.1 3 = .ok (.iconst 3, 1) ∧ 3 + 1 = 4 := ⟨by decide +kernel, rfl⟩
theorem d_X12_stands_4 : decode mX12_stands.1 4 = .ok (.if_icmp .ge 23, 3) ∧ 4 + 3 = 7 ∧ ((4 : Nat) : Int) + 23 = ((27 : Nat) : Int) := ⟨by decide +kernel, rfl, rfl⟩
theorem d_X12_stands_7 : decode mX12_stands.1 7 = .ok (.aload_n 0, 1) ∧ 7 + 1 = 8 := ⟨by decide +kernel, rfl⟩
theorem d_X12_stands_8 : decode mX12_stands.1 8 = .ok (.getfield 90, 3) ∧ 8 + 3 = 11 := ⟨by decide +kernel, rfl⟩
theorem d_X12_stands_11 : decode mX12_stands.1 11 = .ok (.iconst 3, 1) ∧ 11 + 1 = 12 := ⟨by decide +kernel, rfl⟩
theorem d_X12_stands_12 : decode mX12_stands.1 12 = .ok (.iload_n 1, 1) ∧ 12 + 1 = 13 := ⟨by decide +kernel, rfl⟩
theorem d_X12_stands_13 : decode mX12_stands.1 13 = .ok (.iadd, 1) ∧ 13 + 1 = 14 := ⟨by decide +kernel, rfl⟩
theorem d_X12_stands_14 : decode mX12_stands.1 14 = .ok (.aload_n 0, 1) ∧ 14 + 1 = 15 := ⟨by decide +kernel, rfl⟩
theorem d_X12_stands_15 : decode mX12_stands.1 15 = .ok (.getfield 90, 3) ∧ 15 + 3 = 18 := ⟨by decide +kernel, rfl⟩
theorem d_X12_stands_18 : decode mX12_stands.1 18 = .ok (.iload_n 1, 1) ∧ 18 + 1 = 19 := ⟨by decide +kernel, rfl⟩
theorem d_X12_stands_19 : decode mX12_stands.1 19 = .ok (.iaload, 1) ∧ 19 + 1 = 20 := ⟨by decide +kernel, rfl⟩
theorem d_X12_stands_20 : decode mX12_stands.1 20 = .ok (.iastore, 1) ∧ 20 + 1 = 21 := ⟨by decide +kernel, rfl⟩
theorem d_X12_stands_21 : decode mX12_stands.1 21 = .ok (.iinc 1 1, 3) ∧ 21 + 3 = 24 := ⟨by decide +kernel, rfl⟩
theorem d_X12_stands_24 : decode mX12_stands.1 24 = .ok (.goto (-22), 3) ∧ ((24 : Nat) : Int) + (-22) = ((2 : Nat) : Int) := ⟨by decide +kernel, rfl⟩
set_option maxRecDepth 100000 in
set_option maxHeartbeats 4000000 in
theorem g_X12_stands_L2 (l : Launch) (G : xa_C) (c0 : Int) (K : (Int × xa_H) ⊕ (xa_H) → Option xa_O) (hb : ∀ (v1 : Int) (h : xa_H), xa_G l G 2 mX12_stands (some (Sum.inl ((v1, h)))) K 2 [some (xR c0), some (xI v1)] [] h) (hx : ∀ (h : xa_H), xa_G l G 2 mX12_stands (some (Sum.inr h)) K 27 [some (xR c0), none] [] h) : ∀ (v1 : Int) (h : xa_H), xa_G l G 2 mX12_stands (f_X12_stands_L2 c0 v1 h) K 2 [some (xR c0), some (xI v1)] [] h := by
  intro v1 h
  unfold f_X12_stands_L2
  refine xa_step (xa_iload_n d_X12_stands_2 rfl) ?_
  refine xa_step (xa_iconst d_X12_stands_3 xq_i_3) ?_
  refine xa_if (xa_icmpge d_X12_stands_4) (fun q1 => ?_) (fun q1 => ?_)
  · refine xa_step (xa_aload_n d_X12_stands_7 rfl) ?_
    refine xa_getf xR xc_12 (by decide) (fun _ => rfl) xw_1338 rfl d_X12_stands_8 (fun x2 _ => ?_)
    refine xa_step (xa_iconst d_X12_stands_11 xq_i_3) ?_
    refine xa_step (xa_iload_n d_X12_stands_12 rfl) ?_
    refine xa_step (xa_iadd d_X12_stands_13) ?_
    refine xa_step (xa_aload_n d_X12_stands_14 rfl) ?_
    refine xa_getf xR xc_12 (by decide) (fun _ => rfl) xw_1338 rfl d_X12_stands_15 (fun x3 _ => ?_)
    refine xa_step (xa_iload_n d_X12_stands_18 rfl) ?_
    refine xa_iaload d_X12_stands_19 (fun x4 _ => ?_)
    refine xa_iastore2 d_X12_stands_20 (fun h5 _ => ?_)
    refine xa_step (xa_iinc (ls' := [some (xR c0), some (xI (w32 (v1 + 1)))]) d_X12_stands_21 xq_i_1 rfl (by decide) rfl) ?_
    refine xa_step (xa_goto d_X12_stands_24) ?_
    exact xa_weak (ls' := [some (xR c0), some (xI (w32 (v1 + 1)))]) ⟨rfl, rfl, trivial⟩ (hb (w32 (v1 + 1)) h5)
  · exact xa_weak (ls' := [some (xR c0), none]) ⟨rfl, trivial⟩ (hx h)
theorem d_X12_stands_27 : decode mX12_stands.1 27 = .ok (.iconst 0, 1) ∧ 27 + 1 = 28 := ⟨by decide +kernel, rfl⟩
theorem d_X12_stands_28 : decode mX12_stands.1 28 = .ok (.istore_n 1, 1) ∧ 28 + 1 = 29 := ⟨by decide +kernel, rfl⟩
theorem d_X12_stands_29 : decode mX12_stands.1 29 = .ok (.iload_n 1, 1) ∧ 29 + 1 = 30 := ⟨by decide +kernel, rfl⟩
theorem d_X12_stands_30 : decode mX12_stands.1 30 = .ok (.bipush 12, 2) ∧ 30 + 2 = 32 := ⟨by decide +kernel, rfl⟩
theorem d_X12_stands_32 : decode mX12_stands.1 32 = .ok (.if_icmp .ge 24, 3) ∧ 32 + 3 = 35 ∧ ((32 : Nat) : Int) + 24 = ((56 : Nat) : Int) := ⟨by decide +kernel, rfl, rfl⟩
theorem d_X12_stands_35 : decode mX12_stands.1 35 = .ok (.aload_n 0, 1) ∧ 35 + 1 = 36 := ⟨by decide +kernel, rfl⟩
theorem d_X12_stands_36 : decode mX12_stands.1 36 = .ok (.getfield 93, 3) ∧ 36 + 3 = 39 := ⟨by decide +kernel, rfl⟩
theorem d_X12_stands_39 : decode mX12_stands.1 39 = .ok (.bipush 12, 2) ∧ 39 + 2 = 41 := ⟨by decide +kernel, rfl⟩
theorem d_X12_stands_41 : decode mX12_stands.1 41 = .ok (.iload_n 1, 1) ∧ 41 + 1 = 42 := ⟨by decide +kernel, rfl⟩
theorem d_X12_stands_42 : decode mX12_stands.1 42 = .ok (.iadd, 1) ∧ 42 + 1 = 43 := ⟨by decide +kernel, rfl⟩
theorem d_X12_stands_43 : decode mX12_stands.1 43 = .ok (.aload_n 0, 1) ∧ 43 + 1 = 44 := ⟨by decide +kernel, rfl⟩
theorem d_X12_stands_44 : decode mX12_stands.1 44 = .ok (.getfield 93, 3) ∧ 44 + 3 = 47 := ⟨by decide +kernel, rfl⟩
theorem d_X12_stands_47 : decode mX12_stands.1 47 = .ok (.iload_n 1, 1) ∧ 47 + 1 = 48 := ⟨by decide +kernel, rfl⟩
theorem d_X12_stands_48 : decode mX12_stands.1 48 = .ok (.laload, 1) ∧ 48 + 1 = 49 := ⟨by decide +kernel, rfl⟩
theorem d_X12_stands_49 : decode mX12_stands.1 49 = .ok (.lastore, 1) ∧ 49 + 1 = 50 := ⟨by decide +kernel, rfl⟩
theorem d_X12_stands_50 : decode mX12_stands.1 50 = .ok (.iinc 1 1, 3) ∧ 50 + 3 = 53 := ⟨by decide +kernel, rfl⟩
theorem d_X12_stands_53 : decode mX12_stands.1 53 = .ok (.goto (-24), 3) ∧ ((53 : Nat) : Int) + (-24) = ((29 : Nat) : Int) := ⟨by decide +kernel, rfl⟩
set_option maxRecDepth 100000 in
set_option maxHeartbeats 4000000 in
theorem g_X12_stands_L29 (l : Launch) (G : xa_C) (c0 : Int) (K : (Int × xa_H) ⊕ (xa_H) → Option xa_O) (hb : ∀ (v1 : Int) (h : xa_H), xa_G l G 2 mX12_stands (some (Sum.inl ((v1, h)))) K 29 [some (xR c0), some (xI v1)] [] h) (hx : ∀ (h : xa_H), xa_G l G 2 mX12_stands (some (Sum.inr h)) K 56 [some (xR c0), none] [] h) : ∀ (v1 : Int) (h : xa_H), xa_G l G 2 mX12_stands (f_X12_stands_L29 c0 v1 h) K 29 [some (xR c0), some (xI v1)] [] h := by
  intro v1 h
  unfold f_X12_stands_L29
  refine xa_step (xa_iload_n d_X12_stands_29 rfl) ?_
  refine xa_step (xa_bipush d_X12_stands_30 xq_b_12) ?_
  refine xa_if (xa_icmpge d_X12_stands_32) (fun q7 => ?_) (fun q7 => ?_)
  · refine xa_step (xa_aload_n d_X12_stands_35 rfl) ?_
    refine xa_getf xR xc_12 (by decide) (fun _ => rfl) xw_1339 rfl d_X12_stands_36 (fun x8 _ => ?_)
    refine xa_step (xa_bipush d_X12_stands_39 xq_b_12) ?_
    refine xa_step (xa_iload_n d_X12_stands_41 rfl) ?_
    refine xa_step (xa_iadd d_X12_stands_42) ?_
    refine xa_step (xa_aload_n d_X12_stands_43 rfl) ?_
    refine xa_getf xR xc_12 (by decide) (fun _ => rfl) xw_1339 rfl d_X12_stands_44 (fun x9 _ => ?_)
    refine xa_step (xa_iload_n d_X12_stands_47 rfl) ?_
    refine xa_laload d_X12_stands_48 (fun x10 _ => ?_)
    refine xa_lastore2 d_X12_stands_49 (fun h11 _ => ?_)
    refine xa_step (xa_iinc (ls' := [some (xR c0), some (xI (w32 (v1 + 1)))]) d_X12_stands_50 xq_i_1 rfl (by decide) rfl) ?_
    refine xa_step (xa_goto d_X12_stands_53) ?_
    exact xa_weak (ls' := [some (xR c0), some (xI (w32 (v1 + 1)))]) ⟨rfl, rfl, trivial⟩ (hb (w32 (v1 + 1)) h11)
  · exact xa_weak (ls' := [some (xR c0), none]) ⟨rfl, trivial⟩ (hx h)
theorem d_X12_stands_56 : decode mX12_stands.1 56 = .ok (.iconst 0, 1) ∧ 56 + 1 = 57 := ⟨by decide +kernel, rfl⟩
theorem d_X12_stands_57 : decode mX12_stands.1 57 = .ok (.istore_n 1, 1) ∧ 57 + 1 = 58 := ⟨by decide +kernel, rfl⟩
theorem d_X12_stands_58 : decode mX12_stands.1 58 = .ok (.iload_n 1, 1) ∧ 58 + 1 = 59 := ⟨by decide +kernel, rfl⟩
theorem d_X12_stands_59 : decode mX12_stands.1 59 = .ok (.bipush 6, 2) ∧ 59 + 2 = 61 := ⟨by decide +kernel, rfl⟩
theorem d_X12_stands_61 : decode mX12_stands.1 61 = .ok (.if_icmp .ge 54, 3) ∧ 61 + 3 = 64 ∧ ((61 : Nat) : Int) + 54 = ((115 : Nat) : Int) := ⟨by decide +kernel, rfl, rfl⟩
theorem d_X12_stands_64 : decode mX12_stands.1 64 = .ok (.aload_n 0, 1) ∧ 64 + 1 = 65 := ⟨by decide +kernel, rfl⟩
theorem d_X12_stands_65 : decode mX12_stands.1 65 = .ok (.getfield 97, 3) ∧ 65 + 3 = 68 := ⟨by decide +kernel, rfl⟩
theorem d_X12_stands_68 : decode mX12_stands.1 68 = .ok (.bipush 6, 2) ∧ 68 + 2 = 70 := ⟨by decide +kernel, rfl⟩
theorem d_X12_stands_70 : decode mX12_stands.1 70 = .ok (.iload_n 1, 1) ∧ 70 + 1 = 71 := ⟨by decide +kernel, rfl⟩
theorem d_X12_stands_71 : decode mX12_stands.1 71 = .ok (.iadd, 1) ∧ 71 + 1 = 72 := ⟨by decide +kernel, rfl⟩
theorem d_X12_stands_72 : decode mX12_stands.1 72 = .ok (.aload_n 0, 1) ∧ 72 + 1 = 73 := ⟨by decide +kernel, rfl⟩
theorem d_X12_stands_73 : decode mX12_stands.1 73 = .ok (.getfield 97, 3) ∧ 73 + 3 = 76 := ⟨by decide +kernel, rfl⟩
theorem d_X12_stands_76 : decode mX12_stands.1 76 = .ok (.iload_n 1, 1) ∧ 76 + 1 = 77 := ⟨by decide +kernel, rfl⟩
theorem d_X12_stands_77 : decode mX12_stands.1 77 = .ok (.iaload, 1) ∧ 77 + 1 = 78 := ⟨by decide +kernel, rfl⟩
theorem d_X12_stands_78 : decode mX12_stands.1 78 = .ok (.iastore, 1) ∧ 78 + 1 = 79 := ⟨by decide +kernel, rfl⟩
theorem d_X12_stands_79 : decode mX12_stands.1 79 = .ok (.aload_n 0, 1) ∧ 79 + 1 = 80 := ⟨by decide +kernel, rfl⟩
theorem d_X12_stands_80 : decode mX12_stands.1 80 = .ok (.getfield 100, 3) ∧ 80 + 3 = 83 := ⟨by decide +kernel, rfl⟩
theorem d_X12_stands_83 : decode mX12_stands.1 83 = .ok (.bipush 6, 2) ∧ 83 + 2 = 85 := ⟨by decide +kernel, rfl⟩
theorem d_X12_stands_85 : decode mX12_stands.1 85 = .ok (.iload_n 1, 1) ∧ 85 + 1 = 86 := ⟨by decide +kernel, rfl⟩
theorem d_X12_stands_86 : decode mX12_stands.1 86 = .ok (.iadd, 1) ∧ 86 + 1 = 87 := ⟨by decide +kernel, rfl⟩
theorem d_X12_stands_87 : decode mX12_stands.1 87 = .ok (.aload_n 0, 1) ∧ 87 + 1 = 88 := ⟨by decide +kernel, rfl⟩
theorem d_X12_stands_88 : decode mX12_stands.1 88 = .ok (.getfield 100, 3) ∧ 88 + 3 = 91 := ⟨by decide +kernel, rfl⟩
theorem d_X12_stands_91 : decode mX12_stands.1 91 = .ok (.iload_n 1, 1) ∧ 91 + 1 = 92 := ⟨by decide +kernel, rfl⟩
theorem d_X12_stands_92 : decode mX12_stands.1 92 = .ok (.iaload, 1) ∧ 92 + 1 = 93 := ⟨by decide +kernel, rfl⟩
theorem d_X12_stands_93 : decode mX12_stands.1 93 = .ok (.iastore, 1) ∧ 93 + 1 = 94 := ⟨by decide +kernel, rfl⟩
theorem d_X12_stands_94 : decode mX12_stands.1 94 = .ok (.aload_n 0, 1) ∧ 94 + 1 = 95 := ⟨by decide +kernel, rfl⟩
theorem d_X12_stands_95 : decode mX12_stands.1 95 = .ok (.getfield 115, 3) ∧ 95 + 3 = 98 := ⟨by decide +kernel, rfl⟩
theorem d_X12_stands_98 : decode mX12_stands.1 98 = .ok (.bipush 6, 2) ∧ 98 + 2 = 100 := ⟨by decide +kernel, rfl⟩
theorem d_X12_stands_100 : decode mX12_stands.1 100 = .ok (.iload_n 1, 1) ∧ 100 + 1 = 101 := ⟨by decide +kernel, rfl⟩
theorem d_X12_stands_101 : decode mX12_stands.1 101 = .ok (.iadd, 1) ∧ 101 + 1 = 102 := ⟨by decide +kernel, rfl⟩
theorem d_X12_stands_102 : decode mX12_stands.1 102 = .ok (.aload_n 0, 1) ∧ 102 + 1 = 103 := ⟨by decide +kernel, rfl⟩
theorem d_X12_stands_103 : decode mX12_stands.1 103 = .ok (.getfield 115, 3) ∧ 103 + 3 = 106 := ⟨by decide +kernel, rfl⟩
theorem d_X12_stands_106 : decode mX12_stands.1 106 = .ok (.iload_n 1, 1) ∧ 106 + 1 = 107 := ⟨by decide +kernel, rfl⟩
theorem d_X12_stands_107 : decode mX12_stands.1 107 = .ok (.iaload, 1) ∧ 107 + 1 = 108 := ⟨by decide +kernel, rfl⟩
theorem d_X12_stands_108 : decode mX12_stands.1 108 = .ok (.iastore, 1) ∧ 108 + 1 = 109 := ⟨by decide +kernel, rfl⟩
theorem d_X12_stands_109 : decode mX12_stands.1 109 = .ok (.iinc 1 1, 3) ∧ 109 + 3 = 112 := ⟨by decide +kernel, rfl⟩
theorem d_X12_stands_112 : decode mX12_stands.1 112 = .ok (.goto (-54), 3) ∧ ((112 : Nat) : Int) + (-54) = ((58 : Nat) : Int) := ⟨by decide +kernel, rfl⟩
set_option maxRecDepth 100000 in
set_option maxHeartbeats 4000000 in
theorem g_X12_stands_L58 (l : Launch) (G : xa_C) (c0 : Int) (K : (Int × xa_H) ⊕ (xa_H) → Option xa_O) (hb : ∀ (v1 : Int) (h : xa_H), xa_G l G 2 mX12_stands (some (Sum.inl ((v1, h)))) K 58 [some (xR c0), some (xI v1)] [] h) (hx : ∀ (h : xa_H), xa_G l G 2 mX12_stands (some (Sum.inr h)) K 115 [some (xR c0), none] [] h) : ∀ (v1 : Int) (h : xa_H), xa_G l G 2 mX12_stands (f_X12_stands_L58 c0 v1 h) K 58 [some (xR c0), some (xI v1)] [] h := by
  intro v1 h
  unfold f_X12_stands_L58
  refine xa_step (xa_iload_n d_X12_stands_58 rfl) ?_
  refine xa_step (xa_bipush d_X12_stands_59 xq_b_6) ?_
  refine xa_if (xa_icmpge d_X12_stands_61) (fun q13 => ?_) (fun q13 => ?_)
  · refine xa_step (xa_aload_n d_X12_stands_64 rfl) ?_
    refine xa_getf xR xc_12 (by decide) (fun _ => rfl) xw_1340 rfl d_X12_stands_65 (fun x14 _ => ?_)
    refine xa_step (xa_bipush d_X12_stands_68 xq_b_6) ?_
    refine xa_step (xa_iload_n d_X12_stands_70 rfl) ?_
    refine xa_step (xa_iadd d_X12_stands_71) ?_
    refine xa_step (xa_aload_n d_X12_stands_72 rfl) ?_
    refine xa_getf xR xc_12 (by decide) (fun _ => rfl) xw_1340 rfl d_X12_stands_73 (fun x15 _ => ?_)
    refine xa_step (xa_iload_n d_X12_stands_76 rfl) ?_
    refine xa_iaload d_X12_stands_77 (fun x16 _ => ?_)
    refine xa_iastore2 d_X12_stands_78 (fun h17 _ => ?_)
    refine xa_step (xa_aload_n d_X12_stands_79 rfl) ?_
    refine xa_getf xR xc_12 (by decide) (fun _ => rfl) xw_1341 rfl d_X12_stands_80 (fun x18 _ => ?_)
    refine xa_step (xa_bipush d_X12_stands_83 xq_b_6) ?_
    refine xa_step (xa_iload_n d_X12_stands_85 rfl) ?_
    refine xa_step (xa_iadd d_X12_stands_86) ?_
    refine xa_step (xa_aload_n d_X12_stands_87 rfl) ?_
    refine xa_getf xR xc_12 (by decide) (fun _ => rfl) xw_1341 rfl d_X12_stands_88 (fun x19 _ => ?_)
    refine xa_step (xa_iload_n d_X12_stands_91 rfl) ?_
    refine xa_iaload d_X12_stands_92 (fun x20 _ => ?_)
    refine xa_iastore2 d_X12_stands_93 (fun h21 _ => ?_)
    refine xa_step (xa_aload_n d_X12_stands_94 rfl) ?_
    refine xa_getf xR xc_12 (by decide) (fun _ => rfl) xw_1346 rfl d_X12_stands_95 (fun x22 _ => ?_)
    refine xa_step (xa_bipush d_X12_stands_98 xq_b_6) ?_
    refine xa_step (xa_iload_n d_X12_stands_100 rfl) ?_
    refine xa_step (xa_iadd d_X12_stands_101) ?_
    refine xa_step (xa_aload_n d_X12_stands_102 rfl) ?_
    refine xa_getf xR xc_12 (by decide) (fun _ => rfl) xw_1346 rfl d_X12_stands_103 (fun x23 _ => ?_)
    refine xa_step (xa_iload_n d_X12_stands_106 rfl) ?_
    refine xa_iaload d_X12_stands_107 (fun x24 _ => ?_)
    refine xa_iastore2 d_X12_stands_108 (fun h25 _ => ?_)
    refine xa_step (xa_iinc (ls' := [some (xR c0), some (xI (w32 (v1 + 1)))]) d_X12_stands_109 xq_i_1 rfl (by decide) rfl) ?_
    refine xa_step (xa_goto d_X12_stands_112) ?_
    exact xa_weak (ls' := [some (xR c0), some (xI (w32 (v1 + 1)))]) ⟨rfl, rfl, trivial⟩ (hb (w32 (v1 + 1)) h25)
  · exact xa_weak (ls' := [some (xR c0), none]) ⟨rfl, trivial⟩ (hx h)
theorem d_X12_stands_115 : decode mX12_stands.1 115 = .ok (.iconst 0, 1) ∧ 115 + 1 = 116 := ⟨by decide +kernel, rfl⟩
theorem d_X12_stands_116 : decode mX12_stands.1 116 = .ok (.istore_n 1, 1) ∧ 116 + 1 = 117 := ⟨by decide +kernel, rfl⟩
theorem d_X12_stands_117 : decode mX12_stands.1 117 = .ok (.iload_n 1, 1) ∧ 117 + 1 = 118 := ⟨by decide +kernel, rfl⟩
theorem d_X12_stands_118 : decode mX12_stands.1 118 = .ok (.bipush 36, 2) ∧ 118 + 2 = 120 := ⟨by decide +kernel, rfl⟩
theorem d_X12_stands_120 : decode mX12_stands.1 120 = .ok (.if_icmp .ge 24, 3) ∧ 120 + 3 = 123 ∧ ((120 : Nat) : Int) + 24 = ((144 : Nat) : Int) := ⟨by decide +kernel, rfl, rfl⟩
theorem d_X12_stands_123 : decode mX12_stands.1 123 = .ok (.aload_n 0, 1) ∧ 123 + 1 = 124 := ⟨by decide +kernel, rfl⟩
theorem d_X12_stands_124 : decode mX12_stands.1 124 = .ok (.getfield 112, 3) ∧ 124 + 3 = 127 := ⟨by decide +kernel, rfl⟩
theorem d_X12_stands_127 : decode mX12_stands.1 127 = .ok (.bipush 36, 2) ∧ 127 + 2 = 129 := ⟨by decide +kernel, rfl⟩
theorem d_X12_stands_129 : decode mX12_stands.1 129 = .ok (.iload_n 1, 1) ∧ 129 + 1 = 130 := ⟨by decide +kernel, rfl⟩
theorem d_X12_stands_130 : decode mX12_stands.1 130 = .ok (.iadd, 1) ∧ 130 + 1 = 131 := ⟨by decide +kernel, rfl⟩
theorem d_X12_stands_131 : decode mX12_stands.1 131 = .ok (.aload_n 0, 1) ∧ 131 + 1 = 132 := ⟨by decide +kernel, rfl⟩
theorem d_X12_stands_132 : decode mX12_stands.1 132 = .ok (.getfield 112, 3) ∧ 132 + 3 = 135 := ⟨by decide +kernel, rfl⟩
theorem d_X12_stands_135 : decode mX12_stands.1 135 = .ok (.iload_n 1, 1) ∧ 135 + 1 = 136 := ⟨by decide +kernel, rfl⟩
theorem d_X12_stands_136 : decode mX12_stands.1 136 = .ok (.iaload, 1) ∧ 136 + 1 = 137 := ⟨by decide +kernel, rfl⟩
theorem d_X12_stands_137 : decode mX12_stands.1 137 = .ok (.iastore, 1) ∧ 137 + 1 = 138 := ⟨by decide +kernel, rfl⟩
theorem d_X12_stands_138 : decode mX12_stands.1 138 = .ok (.iinc 1 1, 3) ∧ 138 + 3 = 141 := ⟨by decide +kernel, rfl⟩
theorem d_X12_stands_141 : decode mX12_stands.1 141 = .ok (.goto (-24), 3) ∧ ((141 : Nat) : Int) + (-24) = ((117 : Nat) : Int) := ⟨by decide +kernel, rfl⟩
set_option maxRecDepth 100000 in
set_option maxHeartbeats 4000000 in
theorem g_X12_stands_L117 (l : Launch) (G : xa_C) (c0 : Int) (K : (Int × xa_H) ⊕ (xa_H) → Option xa_O) (hb : ∀ (v1 : Int) (h : xa_H), xa_G l G 2 mX12_stands (some (Sum.inl ((v1, h)))) K 117 [some (xR c0), some (xI v1)] [] h) (hx : ∀ (h : xa_H), xa_G l G 2 mX12_stands (some (Sum.inr h)) K 144 [some (xR c0), none] [] h) : ∀ (v1 : Int) (h : xa_H), xa_G l G 2 mX12_stands (f_X12_stands_L117 c0 v1 h) K 117 [some (xR c0), some (xI v1)] [] h := by
  intro v1 h
  unfold f_X12_stands_L117
  refine xa_step (xa_iload_n d_X12_stands_117 rfl) ?_
  refine xa_step (xa_bipush d_X12_stands_118 xq_b_36) ?_
  refine xa_if (xa_icmpge d_X12_stands_120) (fun q27 => ?_) (fun q27 => ?_)
  · refine xa_step (xa_aload_n d_X12_stands_123 rfl) ?_
    refine xa_getf xR xc_12 (by decide) (fun _ => rfl) xw_1345 rfl d_X12_stands_124 (fun x28 _ => ?_)
    refine xa_step (xa_bipush d_X12_stands_127 xq_b_36) ?_
    refine xa_step (xa_iload_n d_X12_stands_129 rfl) ?_
    refine xa_step (xa_iadd d_X12_stands_130) ?_
    refine xa_step (xa_aload_n d_X12_stands_131 rfl) ?_
    refine xa_getf xR xc_12 (by decide) (fun _ => rfl) xw_1345 rfl d_X12_stands_132 (fun x29 _ => ?_)
    refine xa_step (xa_iload_n d_X12_stands_135 rfl) ?_
    refine xa_iaload d_X12_stands_136 (fun x30 _ => ?_)
    refine xa_iastore2 d_X12_stands_137 (fun h31 _ => ?_)
    refine xa_step (xa_iinc (ls' := [some (xR c0), some (xI (w32 (v1 + 1)))]) d_X12_stands_138 xq_i_1 rfl (by decide) rfl) ?_
    refine xa_step (xa_goto d_X12_stands_141) ?_
    exact xa_weak (ls' := [some (xR c0), some (xI (w32 (v1 + 1)))]) ⟨rfl, rfl, trivial⟩ (hb (w32 (v1 + 1)) h31)
  · exact xa_weak (ls' := [some (xR c0), none]) ⟨rfl, trivial⟩ (hx h)
theorem d_X12_stands_144 : decode mX12_stands.1 144 = .ok (.aload_n 0, 1) ∧ 144 + 1 = 145 := ⟨by decide +kernel, rfl⟩
theorem d_X12_stands_145 : decode mX12_stands.1 145 = .ok (.getfield 118, 3) ∧ 145 + 3 = 148 := ⟨by decide +kernel, rfl⟩
theorem d_X12_stands_148 : decode mX12_stands.1 148 = .ok (.iconst 1, 1) ∧ 148 + 1 = 149 := ⟨by decide +kernel, rfl⟩
theorem d_X12_stands_149 : decode mX12_stands.1 149 = .ok (.aload_n 0, 1) ∧ 149 + 1 = 150 := ⟨by decide +kernel, rfl⟩
theorem d_X12_stands_150 : decode mX12_stands.1 150 = .ok (.getfield 118, 3) ∧ 150 + 3 = 153 := ⟨by decide +kernel, rfl⟩
theorem d_X12_stands_153 : decode mX12_stands.1 153 = .ok (.iconst 0, 1) ∧ 153 + 1 = 154 := ⟨by decide +kernel, rfl⟩
theorem d_X12_stands_154 : decode mX12_stands.1 154 = .ok (.iaload, 1) ∧ 154 + 1 = 155 := ⟨by decide +kernel, rfl⟩
theorem d_X12_stands_155 : decode mX12_stands.1 155 = .ok (.iastore, 1) ∧ 155 + 1 = 156 := ⟨by decide +kernel, rfl⟩
theorem d_X12_stands_156 : decode mX12_stands.1 156 = .ok (.iconst 0, 1) ∧ 156 + 1 = 157 := ⟨by decide +kernel, rfl⟩
theorem d_X12_stands_157 : decode mX12_stands.1 157 = .ok (.istore_n 1, 1) ∧ 157 + 1 = 158 := ⟨by decide +kernel, rfl⟩
theorem d_X12_stands_158 : decode mX12_stands.1 158 = .ok (.iload_n 1, 1) ∧ 158 + 1 = 159 := ⟨by decide +kernel, rfl⟩
theorem d_X12_stands_159 : decode mX12_stands.1 159 = .ok (.iconst 2, 1) ∧ 159 + 1 = 160 := ⟨by decide +kernel, rfl⟩
theorem d_X12_stands_160 : decode mX12_stands.1 160 = .ok (.if_icmp .ge 37, 3) ∧ 160 + 3 = 163 ∧ ((160 : Nat) : Int) + 37 = ((197 : Nat) : Int) := ⟨by decide +kernel, rfl, rfl⟩
theorem d_X12_stands_163 : decode mX12_stands.1 163 = .ok (.aload_n 0, 1) ∧ 163 + 1 = 164 := ⟨by decide +kernel, rfl⟩
theorem d_X12_stands_164 : decode mX12_stands.1 164 = .ok (.getfield 121, 3) ∧ 164 + 3 = 167 := ⟨by decide +kernel, rfl⟩
theorem d_X12_stands_167 : decode mX12_stands.1 167 = .ok (.iconst 2, 1) ∧ 167 + 1 = 168 := ⟨by decide +kernel, rfl⟩
theorem d_X12_stands_168 : decode mX12_stands.1 168 = .ok (.iload_n 1, 1) ∧ 168 + 1 = 169 := ⟨by decide +kernel, rfl⟩
theorem d_X12_stands_169 : decode mX12_stands.1 169 = .ok (.iadd, 1) ∧ 169 + 1 = 170 := ⟨by decide +kernel, rfl⟩
theorem d_X12_stands_170 : decode mX12_stands.1 170 = .ok (.aload_n 0, 1) ∧ 170 + 1 = 171 := ⟨by decide +kernel, rfl⟩
theorem d_X12_stands_171 : decode mX12_stands.1 171 = .ok (.getfield 121, 3) ∧ 171 + 3 = 174 := ⟨by decide +kernel, rfl⟩
theorem d_X12_stands_174 : decode mX12_stands.1 174 = .ok (.iload_n 1, 1) ∧ 174 + 1 = 175 := ⟨by decide +kernel, rfl⟩
theorem d_X12_stands_175 : decode mX12_stands.1 175 = .ok (.iaload, 1) ∧ 175 + 1 = 176 := ⟨by decide +kernel, rfl⟩
theorem d_X12_stands_176 : decode mX12_stands.1 176 = .ok (.iastore, 1) ∧ 176 + 1 = 177 := ⟨by decide +kernel, rfl⟩
theorem d_X12_stands_177 : decode mX12_stands.1 177 = .ok (.aload_n 0, 1) ∧ 177 + 1 = 178 := ⟨by decide +kernel, rfl⟩
theorem d_X12_stands_178 : decode mX12_stands.1 178 = .ok (.getfield 124, 3) ∧ 178 + 3 = 181 := ⟨by decide +kernel, rfl⟩
theorem d_X12_stands_181 : decode mX12_stands.1 181 = .ok (.iconst 2, 1) ∧ 181 + 1 = 182 := ⟨by decide +kernel, rfl⟩
theorem d_X12_stands_182 : decode mX12_stands.1 182 = .ok (.iload_n 1, 1) ∧ 182 + 1 = 183 := ⟨by decide +kernel, rfl⟩
theorem d_X12_stands_183 : decode mX12_stands.1 183 = .ok (.iadd, 1) ∧ 183 + 1 = 184 := ⟨by decide +kernel, rfl⟩
theorem d_X12_stands_184 : decode mX12_stands.1 184 = .ok (.aload_n 0, 1) ∧ 184 + 1 = 185 := ⟨by decide +kernel, rfl⟩
theorem d_X12_stands_185 : decode mX12_stands.1 185 = .ok (.getfield 124, 3) ∧ 185 + 3 = 188 := ⟨by decide +kernel, rfl⟩
theorem d_X12_stands_188 : decode mX12_stands.1 188 = .ok (.iload_n 1, 1) ∧ 188 + 1 = 189 := ⟨by decide +kernel, rfl⟩
theorem d_X12_stands_189 : decode mX12_stands.1 189 = .ok (.iaload, 1) ∧ 189 + 1 = 190 := ⟨by decide +kernel, rfl⟩
theorem d_X12_stands_190 : decode mX12_stands.1 190 = .ok (.iastore, 1) ∧ 190 + 1 = 191 := ⟨by decide +kernel, rfl⟩
theorem d_X12_stands_191 : decode mX12_stands.1 191 = .ok (.iinc 1 1, 3) ∧ 191 + 3 = 194 := ⟨by decide +kernel, rfl⟩
theorem d_X12_stands_194 : decode mX12_stands.1 194 = .ok (.goto (-36), 3) ∧ ((194 : Nat) : Int) + (-36) = ((158 : Nat) : Int) := ⟨by decide +kernel, rfl⟩
set_option maxRecDepth 100000 in
set_option maxHeartbeats 4000000 in
theorem g_X12_stands_L158 (l : Launch) (G : xa_C) (c0 : Int) (K : (Int × xa_H) ⊕ (xa_H) → Option xa_O) (hb : ∀ (v1 : Int) (h : xa_H), xa_G l G 2 mX12_stands (some (Sum.inl ((v1, h)))) K 158 [some (xR c0), some (xI v1)] [] h) (hx : ∀ (h : xa_H), xa_G l G 2 mX12_stands (some (Sum.inr h)) K 197 [some (xR c0), none] [] h) : ∀ (v1 : Int) (h : xa_H), xa_G l G 2 mX12_stands (f_X12_stands_L158 c0 v1 h) K 158 [some (xR c0), some (xI v1)] [] h := by
  intro v1 h
  unfold f_X12_stands_L158
  refine xa_step (xa_iload_n d_X12_stands_158 rfl) ?_
  refine xa_step (xa_iconst d_X12_stands_159 xq_i_2) ?_
  refine xa_if (xa_icmpge d_X12_stands_160) (fun q37 => ?_) (fun q37 => ?_)
  · refine xa_step (xa_aload_n d_X12_stands_163 rfl) ?_
    refine xa_getf xR xc_12 (by decide) (fun _ => rfl) xw_1348 rfl d_X12_stands_164 (fun x38 _ => ?_)
    refine xa_step (xa_iconst d_X12_stands_167 xq_i_2) ?_
    refine xa_step (xa_iload_n d_X12_stands_168 rfl) ?_
    refine xa_step (xa_iadd d_X12_stands_169) ?_
    refine xa_step (xa_aload_n d_X12_stands_170 rfl) ?_
    refine xa_getf xR xc_12 (by decide) (fun _ => rfl) xw_1348 rfl d_X12_stands_171 (fun x39 _ => ?_)
    refine xa_step (xa_iload_n d_X12_stands_174 rfl) ?_
    refine xa_iaload d_X12_stands_175 (fun x40 _ => ?_)
    refine xa_iastore2 d_X12_stands_176 (fun h41 _ => ?_)
    refine xa_step (xa_aload_n d_X12_stands_177 rfl) ?_
    refine xa_getf xR xc_12 (by decide) (fun _ => rfl) xw_1349 rfl d_X12_stands_178 (fun x42 _ => ?_)
    refine xa_step (xa_iconst d_X12_stands_181 xq_i_2) ?_
    refine xa_step (xa_iload_n d_X12_stands_182 rfl) ?_
    refine xa_step (xa_iadd d_X12_stands_183) ?_
    refine xa_step (xa_aload_n d_X12_stands_184 rfl) ?_
    refine xa_getf xR xc_12 (by decide) (fun _ => rfl) xw_1349 rfl d_X12_stands_185 (fun x43 _ => ?_)
    refine xa_step (xa_iload_n d_X12_stands_188 rfl) ?_
    refine xa_iaload d_X12_stands_189 (fun x44 _ => ?_)
    refine xa_iastore2 d_X12_stands_190 (fun h45 _ => ?_)
    refine xa_step (xa_iinc (ls' := [some (xR c0), some (xI (w32 (v1 + 1)))]) d_X12_stands_191 xq_i_1 rfl (by decide) rfl) ?_
    refine xa_step (xa_goto d_X12_stands_194) ?_
    exact xa_weak (ls' := [some (xR c0), some (xI (w32 (v1 + 1)))]) ⟨rfl, rfl, trivial⟩ (hb (w32 (v1 + 1)) h45)
  · exact xa_weak (ls' := [some (xR c0), none]) ⟨rfl, trivial⟩ (hx h)
theorem d_X12_stands_197 : decode mX12_stands.1 197 = .ok (.iconst 0, 1) ∧ 197 + 1 = 198 := ⟨by decide +kernel, rfl⟩
theorem d_X12_stands_198 : decode mX12_stands.1 198 = .ok (.istore_n 1, 1) ∧ 198 + 1 = 199 := ⟨by decide +kernel, rfl⟩
theorem d_X12_stands_199 : decode mX12_stands.1 199 = .ok (.iload_n 1, 1) ∧ 199 + 1 = 200 := ⟨by decide +kernel, rfl⟩
theorem d_X12_stands_200 : decode mX12_stands.1 200 = .ok (.aload_n 0, 1) ∧ 200 + 1 = 201 := ⟨by decide +kernel, rfl⟩
theorem d_X12_stands_201 : decode mX12_stands.1 201 = .ok (.getfield 353, 3) ∧ 201 + 3 = 204 := ⟨by decide +kernel, rfl⟩
theorem d_X12_stands_204 : decode mX12_stands.1 204 = .ok (.if_icmp .ge 25, 3) ∧ 204 + 3 = 207 ∧ ((204 : Nat) : Int) + 25 = ((229 : Nat) : Int) := ⟨by decide +kernel, rfl, rfl⟩
theorem d_X12_stands_207 : decode mX12_stands.1 207 = .ok (.aload_n 0, 1) ∧ 207 + 1 = 208 := ⟨by decide +kernel, rfl⟩
theorem d_X12_stands_208 : decode mX12_stands.1 208 = .ok (.getfield 127, 3) ∧ 208 + 3 = 211 := ⟨by decide +kernel, rfl⟩
theorem d_X12_stands_211 : decode mX12_stands.1 211 = .ok (.sipush 1600, 3) ∧ 211 + 3 = 214 := ⟨by decide +kernel, rfl⟩
theorem d_X12_stands_214 : decode mX12_stands.1 214 = .ok (.iload_n 1, 1) ∧ 214 + 1 = 215 := ⟨by decide +kernel, rfl⟩
theorem d_X12_stands_215 : decode mX12_stands.1 215 = .ok (.iadd, 1) ∧ 215 + 1 = 216 := ⟨by decide +kernel, rfl⟩
theorem d_X12_stands_216 : decode mX12_stands.1 216 = .ok (.aload_n 0, 1) ∧ 216 + 1 = 217 := ⟨by decide +kernel, rfl⟩
theorem d_X12_stands_217 : decode mX12_stands.1 217 = .ok (.getfield 127, 3) ∧ 217 + 3 = 220 := ⟨by decide +kernel, rfl⟩
theorem d_X12_stands_220 : decode mX12_stands.1 220 = .ok (.iload_n 1, 1) ∧ 220 + 1 = 221 := ⟨by decide +kernel, rfl⟩
theorem d_X12_stands_221 : decode mX12_stands.1 221 = .ok (.iaload, 1) ∧ 221 + 1 = 222 := ⟨by decide +kernel, rfl⟩
theorem d_X12_stands_222 : decode mX12_stands.1 222 = .ok (.iastore, 1) ∧ 222 + 1 = 223 := ⟨by decide +kernel, rfl⟩
theorem d_X12_stands_223 : decode mX12_stands.1 223 = .ok (.iinc 1 1, 3) ∧ 223 + 3 = 226 := ⟨by decide +kernel, rfl⟩
theorem d_X12_stands_226 : decode mX12_stands.1 226 = .ok (.goto (-27), 3) ∧ ((226 : Nat) : Int) + (-27) = ((199 : Nat) : Int) := ⟨by decide +kernel, rfl⟩
set_option maxRecDepth 100000 in
set_option maxHeartbeats 4000000 in
theorem g_X12_stands_L199 (l : Launch) (G : xa_C) (c0 : Int) (K : (Int × xa_H) ⊕ (xa_H) → Option xa_O) (hb : ∀ (v1 : Int) (h : xa_H), xa_G l G 2 mX12_stands (some (Sum.inl ((v1, h)))) K 199 [some (xR c0), some (xI v1)] [] h) (hx : ∀ (h : xa_H), xa_G l G 2 mX12_stands (some (Sum.inr h)) K 229 [some (xR c0), none] [] h) : ∀ (v1 : Int) (h : xa_H), xa_G l G 2 mX12_stands (f_X12_stands_L199 c0 v1 h) K 199 [some (xR c0), some (xI v1)] [] h := by
  intro v1 h
  unfold f_X12_stands_L199
  refine xa_step (xa_iload_n d_X12_stands_199 rfl) ?_
  refine xa_step (xa_aload_n d_X12_stands_200 rfl) ?_
  refine xa_getf xI xc_12 (by decide) (fun _ => rfl) xw_1351 rfl d_X12_stands_201 (fun x47 _ => ?_)
  refine xa_if (xa_icmpge d_X12_stands_204) (fun q48 => ?_) (fun q48 => ?_)
  · refine xa_step (xa_aload_n d_X12_stands_207 rfl) ?_
    refine xa_getf xR xc_12 (by decide) (fun _ => rfl) xw_1350 rfl d_X12_stands_208 (fun x49 _ => ?_)
    refine xa_step (xa_sipush d_X12_stands_211 xq_s_1600) ?_
    refine xa_step (xa_iload_n d_X12_stands_214 rfl) ?_
    refine xa_step (xa_iadd d_X12_stands_215) ?_
    refine xa_step (xa_aload_n d_X12_stands_216 rfl) ?_
    refine xa_getf xR xc_12 (by decide) (fun _ => rfl) xw_1350 rfl d_X12_stands_217 (fun x50 _ => ?_)
    refine xa_step (xa_iload_n d_X12_stands_220 rfl) ?_
    refine xa_iaload d_X12_stands_221 (fun x51 _ => ?_)
    refine xa_iastore2 d_X12_stands_222 (fun h52 _ => ?_)
    refine xa_step (xa_iinc (ls' := [some (xR c0), some (xI (w32 (v1 + 1)))]) d_X12_stands_223 xq_i_1 rfl (by decide) rfl) ?_
    refine xa_step (xa_goto d_X12_stands_226) ?_
    exact xa_weak (ls' := [some (xR c0), some (xI (w32 (v1 + 1)))]) ⟨rfl, rfl, trivial⟩ (hb (w32 (v1 + 1)) h52)
  · exact xa_weak (ls' := [some (xR c0), none]) ⟨rfl, trivial⟩ (hx h)
theorem d_X12_stands_229 : decode mX12_stands.1 229 = .ok (.iconst 0, 1) ∧ 229 + 1 = 230 := ⟨by decide +kernel, rfl⟩
theorem d_X12_stands_230 : decode mX12_stands.1 230 = .ok (.istore_n 1, 1) ∧ 230 + 1 = 231 := ⟨by decide +kernel, rfl⟩
theorem d_X12_stands_231 : decode mX12_stands.1 231 = .ok (.iload_n 1, 1) ∧ 231 + 1 = 232 := ⟨by decide +kernel, rfl⟩
theorem d_X12_stands_232 : decode mX12_stands.1 232 = .ok (.sipush 176, 3) ∧ 232 + 3 = 235 := ⟨by decide +kernel, rfl⟩
theorem d_X12_stands_235 : decode mX12_stands.1 235 = .ok (.if_icmp .ge 16, 3) ∧ 235 + 3 = 238 ∧ ((235 : Nat) : Int) + 16 = ((251 : Nat) : Int) := ⟨by decide +kernel, rfl, rfl⟩
theorem d_X12_stands_238 : decode mX12_stands.1 238 = .ok (.aload_n 0, 1) ∧ 238 + 1 = 239 := ⟨by decide +kernel, rfl⟩
theorem d_X12_stands_239 : decode mX12_stands.1 239 = .ok (.getfield 130, 3) ∧ 239 + 3 = 242 := ⟨by decide +kernel, rfl⟩
theorem d_X12_stands_242 : decode mX12_stands.1 242 = .ok (.iload_n 1, 1) ∧ 242 + 1 = 243 := ⟨by decide +kernel, rfl⟩
theorem d_X12_stands_243 : decode mX12_stands.1 243 = .ok (.iconst 0, 1) ∧ 243 + 1 = 244 := ⟨by decide +kernel, rfl⟩
theorem d_X12_stands_244 : decode mX12_stands.1 244 = .ok (.iastore, 1) ∧ 244 + 1 = 245 := ⟨by decide +kernel, rfl⟩
theorem d_X12_stands_245 : decode mX12_stands.1 245 = .ok (.iinc 1 1, 3) ∧ 245 + 3 = 248 := ⟨by decide +kernel, rfl⟩
theorem d_X12_stands_248 : decode mX12_stands.1 248 = .ok (.goto (-17), 3) ∧ ((248 : Nat) : Int) + (-17) = ((231 : Nat) : Int) := ⟨by decide +kernel, rfl⟩
set_option maxRecDepth 100000 in
set_option maxHeartbeats 4000000 in
theorem g_X12_stands_L231 (l : Launch) (G : xa_C) (c0 : Int) (K : (Int × xa_H) ⊕ (xa_H) → Option xa_O) (hb : ∀ (v1 : Int) (h : xa_H), xa_G l G 2 mX12_stands (some (Sum.inl ((v1, h)))) K 231 [some (xR c0), some (xI v1)] [] h) (hx : ∀ (h : xa_H), xa_G l G 2 mX12_stands (some (Sum.inr h)) K 251 [some (xR c0), none] [] h) : ∀ (v1 : Int) (h : xa_H), xa_G l G 2 mX12_stands (f_X12_stands_L231 c0 v1 h) K 231 [some (xR c0), some (xI v1)] [] h := by
  intro v1 h
  unfold f_X12_stands_L231
  refine xa_step (xa_iload_n d_X12_stands_231 rfl) ?_
  refine xa_step (xa_sipush d_X12_stands_232 xq_s_176) ?_
  refine xa_if (xa_icmpge d_X12_stands_235) (fun q54 => ?_) (fun q54 => ?_)
  · refine xa_step (xa_aload_n d_X12_stands_238 rfl) ?_
    refine xa_getf xR xc_12 (by decide) (fun _ => rfl) xw_1354 rfl d_X12_stands_239 (fun x55 _ => ?_)
    refine xa_step (xa_iload_n d_X12_stands_242 rfl) ?_
    refine xa_step (xa_iconst d_X12_stands_243 xq_i_0) ?_
    refine xa_iastore2 d_X12_stands_244 (fun h56 _ => ?_)
    refine xa_step (xa_iinc (ls' := [some (xR c0), some (xI (w32 (v1 + 1)))]) d_X12_stands_245 xq_i_1 rfl (by decide) rfl) ?_
    refine xa_step (xa_goto d_X12_stands_248) ?_
    exact xa_weak (ls' := [some (xR c0), some (xI (w32 (v1 + 1)))]) ⟨rfl, rfl, trivial⟩ (hb (w32 (v1 + 1)) h56)
  · exact xa_weak (ls' := [some (xR c0), none]) ⟨rfl, trivial⟩ (hx h)
theorem d_X12_stands_251 : decode mX12_stands.1 251 = .ok (.iconst 0, 1) ∧ 251 + 1 = 252 := ⟨by decide +kernel, rfl⟩
theorem d_X12_stands_252 : decode mX12_stands.1 252 = .ok (.istore_n 1, 1) ∧ 252 + 1 = 253 := ⟨by decide +kernel, rfl⟩
theorem d_X12_stands_253 : decode mX12_stands.1 253 = .ok (.iload_n 1, 1) ∧ 253 + 1 = 254 := ⟨by decide +kernel, rfl⟩
theorem d_X12_stands_254 : decode mX12_stands.1 254 = .ok (.aload_n 0, 1) ∧ 254 + 1 = 255 := ⟨by decide +kernel, rfl⟩
theorem d_X12_stands_255 : decode mX12_stands.1 255 = .ok (.getfield 90, 3) ∧ 255 + 3 = 258 := ⟨by decide +kernel, rfl⟩
theorem d_X12_stands_258 : decode mX12_stands.1 258 = .ok (.iconst 1, 1) ∧ 258 + 1 = 259 := ⟨by decide +kernel, rfl⟩
theorem d_X12_stands_259 : decode mX12_stands.1 259 = .ok (.iaload, 1) ∧ 259 + 1 = 260 := ⟨by decide +kernel, rfl⟩
theorem d_X12_stands_260 : decode mX12_stands.1 260 = .ok (.if_icmp .ge 64, 3) ∧ 260 + 3 = 263 ∧ ((260 : Nat) : Int) + 64 = ((324 : Nat) : Int) := ⟨by decide +kernel, rfl, rfl⟩
theorem d_X12_stands_263 : decode mX12_stands.1 263 = .ok (.aload_n 0, 1) ∧ 263 + 1 = 264 := ⟨by decide +kernel, rfl⟩
theorem d_X12_stands_264 : decode mX12_stands.1 264 = .ok (.getfield 130, 3) ∧ 264 + 3 = 267 := ⟨by decide +kernel, rfl⟩
theorem d_X12_stands_267 : decode mX12_stands.1 267 = .ok (.iconst 1, 1) ∧ 267 + 1 = 268 := ⟨by decide +kernel, rfl⟩
theorem d_X12_stands_268 : decode mX12_stands.1 268 = .ok (.bipush 9, 2) ∧ 268 + 2 = 270 := ⟨by decide +kernel, rfl⟩
theorem d_X12_stands_270 : decode mX12_stands.1 270 = .ok (.iload_n 1, 1) ∧ 270 + 1 = 271 := ⟨by decide +kernel, rfl⟩
theorem d_X12_stands_271 : decode mX12_stands.1 271 = .ok (.imul, 1) ∧ 271 + 1 = 272 := ⟨by decide +kernel, rfl⟩
theorem d_X12_stands_272 : decode mX12_stands.1 272 = .ok (.iadd, 1) ∧ 272 + 1 = 273 := ⟨by decide +kernel, rfl⟩
theorem d_X12_stands_273 : decode mX12_stands.1 273 = .ok (.aload_n 0, 1) ∧ 273 + 1 = 274 := ⟨by decide +kernel, rfl⟩
theorem d_X12_stands_274 : decode mX12_stands.1 274 = .ok (.getfield 103, 3) ∧ 274 + 3 = 277 := ⟨by decide +kernel, rfl⟩
theorem d_X12_stands_277 : decode mX12_stands.1 277 = .ok (.iload_n 1, 1) ∧ 277 + 1 = 278 := ⟨by decide +kernel, rfl⟩
theorem d_X12_stands_278 : decode mX12_stands.1 278 = .ok (.iaload, 1) ∧ 278 + 1 = 279 := ⟨by decide +kernel, rfl⟩
theorem d_X12_stands_279 : decode mX12_stands.1 279 = .ok (.iastore, 1) ∧ 279 + 1 = 280 := ⟨by decide +kernel, rfl⟩
theorem d_X12_stands_280 : decode mX12_stands.1 280 = .ok (.aload_n 0, 1) ∧ 280 + 1 = 281 := ⟨by decide +kernel, rfl⟩
theorem d_X12_stands_281 : decode mX12_stands.1 281 = .ok (.getfield 130, 3) ∧ 281 + 3 = 284 := ⟨by decide +kernel, rfl⟩
theorem d_X12_stands_284 : decode mX12_stands.1 284 = .ok (.iconst 1, 1) ∧ 284 + 1 = 285 := ⟨by decide +kernel, rfl⟩
theorem d_X12_stands_285 : decode mX12_stands.1 285 = .ok (.bipush 9, 2) ∧ 285 + 2 = 287 := ⟨by decide +kernel, rfl⟩
theorem d_X12_stands_287 : decode mX12_stands.1 287 = .ok (.iload_n 1, 1) ∧ 287 + 1 = 288 := ⟨by decide +kernel, rfl⟩
theorem d_X12_stands_288 : decode mX12_stands.1 288 = .ok (.imul, 1) ∧ 288 + 1 = 289 := ⟨by decide +kernel, rfl⟩
theorem d_X12_stands_289 : decode mX12_stands.1 289 = .ok (.iadd, 1) ∧ 289 + 1 = 290 := ⟨by decide +kernel, rfl⟩
theorem d_X12_stands_290 : decode mX12_stands.1 290 = .ok (.iconst 1, 1) ∧ 290 + 1 = 291 := ⟨by decide +kernel, rfl⟩
theorem d_X12_stands_291 : decode mX12_stands.1 291 = .ok (.iadd, 1) ∧ 291 + 1 = 292 := ⟨by decide +kernel, rfl⟩
theorem d_X12_stands_292 : decode mX12_stands.1 292 = .ok (.aload_n 0, 1) ∧ 292 + 1 = 293 := ⟨by decide +kernel, rfl⟩
theorem d_X12_stands_293 : decode mX12_stands.1 293 = .ok (.getfield 106, 3) ∧ 293 + 3 = 296 := ⟨by decide +kernel, rfl⟩
theorem d_X12_stands_296 : decode mX12_stands.1 296 = .ok (.iload_n 1, 1) ∧ 296 + 1 = 297 := ⟨by decide +kernel, rfl⟩
theorem d_X12_stands_297 : decode mX12_stands.1 297 = .ok (.iaload, 1) ∧ 297 + 1 = 298 := ⟨by decide +kernel, rfl⟩
theorem d_X12_stands_298 : decode mX12_stands.1 298 = .ok (.iastore, 1) ∧ 298 + 1 = 299 := ⟨by decide +kernel, rfl⟩
theorem d_X12_stands_299 : decode mX12_stands.1 299 = .ok (.aload_n 0, 1) ∧ 299 + 1 = 300 := ⟨by decide +kernel, rfl⟩
theorem d_X12_stands_300 : decode mX12_stands.1 300 = .ok (.getfield 130, 3) ∧ 300 + 3 = 303 := ⟨by decide +kernel, rfl⟩
theorem d_X12_stands_303 : decode mX12_stands.1 303 = .ok (.iconst 1, 1) ∧ 303 + 1 = 304 := ⟨by decide +kernel, rfl⟩
theorem d_X12_stands_304 : decode mX12_stands.1 304 = .ok (.bipush 9, 2) ∧ 304 + 2 = 306 := ⟨by decide +kernel, rfl⟩
theorem d_X12_stands_306 : decode mX12_stands.1 306 = .ok (.iload_n 1, 1) ∧ 306 + 1 = 307 := ⟨by decide +kernel, rfl⟩
theorem d_X12_stands_307 : decode mX12_stands.1 307 = .ok (.imul, 1) ∧ 307 + 1 = 308 := ⟨by decide +kernel, rfl⟩
theorem d_X12_stands_308 : decode mX12_stands.1 308 = .ok (.iadd, 1) ∧ 308 + 1 = 309 := ⟨by decide +kernel, rfl⟩
theorem d_X12_stands_309 : decode mX12_stands.1 309 = .ok (.iconst 2, 1) ∧ 309 + 1 = 310 := ⟨by decide +kernel, rfl⟩
theorem d_X12_stands_310 : decode mX12_stands.1 310 = .ok (.iadd, 1) ∧ 310 + 1 = 311 := ⟨by decide +kernel, rfl⟩
theorem d_X12_stands_311 : decode mX12_stands.1 311 = .ok (.aload_n 0, 1) ∧ 311 + 1 = 312 := ⟨by decide +kernel, rfl⟩
theorem d_X12_stands_312 : decode mX12_stands.1 312 = .ok (.getfield 109, 3) ∧ 312 + 3 = 315 := ⟨by decide +kernel, rfl⟩
theorem d_X12_stands_315 : decode mX12_stands.1 315 = .ok (.iload_n 1, 1) ∧ 315 + 1 = 316 := ⟨by decide +kernel, rfl⟩
theorem d_X12_stands_316 : decode mX12_stands.1 316 = .ok (.iaload, 1) ∧ 316 + 1 = 317 := ⟨by decide +kernel, rfl⟩
theorem d_X12_stands_317 : decode mX12_stands.1 317 = .ok (.iastore, 1) ∧ 317 + 1 = 318 := ⟨by decide +kernel, rfl⟩
theorem d_X12_stands_318 : decode mX12_stands.1 318 = .ok (.iinc 1 1, 3) ∧ 318 + 3 = 321 := ⟨by decide +kernel, rfl⟩
theorem d_X12_stands_321 : decode mX12_stands.1 321 = .ok (.goto (-68), 3) ∧ ((321 : Nat) : Int) + (-68) = ((253 : Nat) : Int) := ⟨by decide +kernel, rfl⟩
set_option maxRecDepth 100000 in
set_option maxHeartbeats 4000000 in
theorem g_X12_stands_L253 (l : Launch) (G : xa_C) (c0 : Int) (K : (Int × xa_H) ⊕ (xa_H) → Option xa_O) (hb : ∀ (v1 : Int) (h : xa_H), xa_G l G 2 mX12_stands (some (Sum.inl ((v1, h)))) K 253 [some (xR c0), some (xI v1)] [] h) (hx : ∀ (h : xa_H), xa_G l G 2 mX12_stands (some (Sum.inr h)) K 324 [some (xR c0), none] [] h) : ∀ (v1 : Int) (h : xa_H), xa_G l G 2 mX12_stands (f_X12_stands_L253 c0 v1 h) K 253 [some (xR c0), some (xI v1)] [] h := by
  intro v1 h
  unfold f_X12_stands_L253
  refine xa_step (xa_iload_n d_X12_stands_253 rfl) ?_
  refine xa_step (xa_aload_n d_X12_stands_254 rfl) ?_
  refine xa_getf xR xc_12 (by decide) (fun _ => rfl) xw_1338 rfl d_X12_stands_255 (fun x58 _ => ?_)
  refine xa_step (xa_iconst d_X12_stands_258 xq_i_1) ?_
  refine xa_iaload d_X12_stands_259 (fun x59 _ => ?_)
  refine xa_if (xa_icmpge d_X12_stands_260) (fun q60 => ?_) (fun q60 => ?_)
  · refine xa_step (xa_aload_n d_X12_stands_263 rfl) ?_
    refine xa_getf xR xc_12 (by decide) (fun _ => rfl) xw_1354 rfl d_X12_stands_264 (fun x61 _ => ?_)
    refine xa_step (xa_iconst d_X12_stands_267 xq_i_1) ?_
    refine xa_step (xa_bipush d_X12_stands_268 xq_b_9) ?_
    refine xa_step (xa_iload_n d_X12_stands_270 rfl) ?_
    refine xa_step (xa_imul d_X12_stands_271) ?_
    refine xa_step (xa_iadd d_X12_stands_272) ?_
    refine xa_step (xa_aload_n d_X12_stands_273 rfl) ?_
    refine xa_getf xR xc_12 (by decide) (fun _ => rfl) xw_1342 rfl d_X12_stands_274 (fun x62 _ => ?_)
    refine xa_step (xa_iload_n d_X12_stands_277 rfl) ?_
    refine xa_iaload d_X12_stands_278 (fun x63 _ => ?_)
    refine xa_iastore2 d_X12_stands_279 (fun h64 _ => ?_)
    refine xa_step (xa_aload_n d_X12_stands_280 rfl) ?_
    refine xa_getf xR xc_12 (by decide) (fun _ => rfl) xw_1354 rfl d_X12_stands_281 (fun x65 _ => ?_)
    refine xa_step (xa_iconst d_X12_stands_284 xq_i_1) ?_
    refine xa_step (xa_bipush d_X12_stands_285 xq_b_9) ?_
    refine xa_step (xa_iload_n d_X12_stands_287 rfl) ?_
    refine xa_step (xa_imul d_X12_stands_288) ?_
    refine xa_step (xa_iadd d_X12_stands_289) ?_
    refine xa_step (xa_iconst d_X12_stands_290 xq_i_1) ?_
    refine xa_step (xa_iadd d_X12_stands_291) ?_
    refine xa_step (xa_aload_n d_X12_stands_292 rfl) ?_
    refine xa_getf xR xc_12 (by decide) (fun _ => rfl) xw_1343 rfl d_X12_stands_293 (fun x66 _ => ?_)
    refine xa_step (xa_iload_n d_X12_stands_296 rfl) ?_
    refine xa_iaload d_X12_stands_297 (fun x67 _ => ?_)
    refine xa_iastore2 d_X12_stands_298 (fun h68 _ => ?_)
    refine xa_step (xa_aload_n d_X12_stands_299 rfl) ?_
    refine xa_getf xR xc_12 (by decide) (fun _ => rfl) xw_1354 rfl d_X12_stands_300 (fun x69 _ => ?_)
    refine xa_step (xa_iconst d_X12_stands_303 xq_i_1) ?_
    refine xa_step (xa_bipush d_X12_stands_304 xq_b_9) ?_
    refine xa_step (xa_iload_n d_X12_stands_306 rfl) ?_
    refine xa_step (xa_imul d_X12_stands_307) ?_
    refine xa_step (xa_iadd d_X12_stands_308) ?_
    refine xa_step (xa_iconst d_X12_stands_309 xq_i_2) ?_
    refine xa_step (xa_iadd d_X12_stands_310) ?_
    refine xa_step (xa_aload_n d_X12_stands_311 rfl) ?_
    refine xa_getf xR xc_12 (by decide) (fun _ => rfl) xw_1344 rfl d_X12_stands_312 (fun x70 _ => ?_)
    refine xa_step (xa_iload_n d_X12_stands_315 rfl) ?_
    refine xa_iaload d_X12_stands_316 (fun x71 _ => ?_)
    refine xa_iastore2 d_X12_stands_317 (fun h72 _ => ?_)
    refine xa_step (xa_iinc (ls' := [some (xR c0), some (xI (w32 (v1 + 1)))]) d_X12_stands_318 xq_i_1 rfl (by decide) rfl) ?_
    refine xa_step (xa_goto d_X12_stands_321) ?_
    exact xa_weak (ls' := [some (xR c0), some (xI (w32 (v1 + 1)))]) ⟨rfl, rfl, trivial⟩ (hb (w32 (v1 + 1)) h72)
  · exact xa_weak (ls' := [some (xR c0), none]) ⟨rfl, trivial⟩ (hx h)
theorem d_X12_stands_324 : decode mX12_stands.1 324 = .ok (.aload_n 0, 1) ∧ 324 + 1 = 325 := ⟨by decide +kernel, rfl⟩
theorem d_X12_stands_325 : decode mX12_stands.1 325 = .ok (.iconst 0, 1) ∧ 325 + 1 = 326 := ⟨by decide +kernel, rfl⟩
theorem d_X12_stands_326 : decode mX12_stands.1 326 = .ok (.putfield 390, 3) ∧ 326 + 3 = 329 := ⟨by decide +kernel, rfl⟩
theorem d_X12_stands_329 : decode mX12_stands.1 329 = .ok (.aload_n 0, 1) ∧ 329 + 1 = 330 := ⟨by decide +kernel, rfl⟩
theorem d_X12_stands_330 : decode mX12_stands.1 330 = .ok (.iconst 0, 1) ∧ 330 + 1 = 331 := ⟨by decide +kernel, rfl⟩
theorem d_X12_stands_331 : decode mX12_stands.1 331 = .ok (.putfield 393, 3) ∧ 331 + 3 = 334 := ⟨by decide +kernel, rfl⟩
theorem d_X12_stands_334 : decode mX12_stands.1 334 = .ok (.aload_n 0, 1) ∧ 334 + 1 = 335 := ⟨by decide +kernel, rfl⟩
theorem d_X12_stands_335 : decode mX12_stands.1 335 = .ok (.iconst 0, 1) ∧ 335 + 1 = 336 := ⟨by decide +kernel, rfl⟩
theorem d_X12_stands_336 : decode mX12_stands.1 336 = .ok (.putfield 396, 3) ∧ 336 + 3 = 339 := ⟨by decide +kernel, rfl⟩
theorem d_X12_stands_339 : decode mX12_stands.1 339 = .ok (.return_, 1) := by decide +kernel
set_option maxRecDepth 100000 in
set_option maxHeartbeats 4000000 in
theorem g_X12_stands (l : Launch) (G : xa_C) (v0 : Int) (h : xa_H) : xa_G l G 2 mX12_stands (f_X12_stands v0 h) (fun r => some (none, r) : xa_H → Option xa_O) 0 [some (xR v0), none] [] h := by
  unfold f_X12_stands
  refine xa_step (xa_iconst d_X12_stands_0 xq_i_0) ?_
  refine xa_step (xa_istore_n (ls' := [some (xR v0), some (xI 0)]) d_X12_stands_1 (by decide) rfl) ?_
  refine xa_weak (ls' := [some (xR v0), some (xI 0)]) ⟨rfl, rfl, trivial⟩ ?_
  refine xa_loop (f := fun s => f_X12_stands_L2 v0 s.1 s.2) (L := fun s => [some (xR v0), some (xI s.1)]) (P := fun s => s.2) (X := (fun x K => xa_G l G 2 mX12_stands (some (Sum.inr x)) K 27 [some (xR v0), none] [] x)) (fun K hb hX s => g_X12_stands_L2 l G v0 K (fun w0 hh => hb ((w0, hh))) (fun hh => hX hh) s.1 s.2) ?_ xFU ((0, h))
  intro e6 K hK
  refine xa_eqE hK ?_
  show xa_G l G 2 mX12_stands _ _ 27 [some (xR v0), none] [] e6
  refine xa_step (xa_iconst d_X12_stands_27 xq_i_0) ?_
  refine xa_step (xa_istore_n (ls' := [some (xR v0), some (xI 0)]) d_X12_stands_28 (by decide) rfl) ?_
  refine xa_weak (ls' := [some (xR v0), some (xI 0)]) ⟨rfl, rfl, trivial⟩ ?_
  refine xa_loop (f := fun s => f_X12_stands_L29 v0 s.1 s.2) (L := fun s => [some (xR v0), some (xI s.1)]) (P := fun s => s.2) (X := (fun x K => xa_G l G 2 mX12_stands (some (Sum.inr x)) K 56 [some (xR v0), none] [] x)) (fun K hb hX s => g_X12_stands_L29 l G v0 K (fun w0 hh => hb ((w0, hh))) (fun hh => hX hh) s.1 s.2) ?_ xFU ((0, e6))
  intro e12 K hK
  refine xa_eqE hK ?_
  show xa_G l G 2 mX12_stands _ _ 56 [some (xR v0), none] [] e12
  refine xa_step (xa_iconst d_X12_stands_56 xq_i_0) ?_
  refine xa_step (xa_istore_n (ls' := [some (xR v0), some (xI 0)]) d_X12_stands_57 (by decide) rfl) ?_
  refine xa_weak (ls' := [some (xR v0), some (xI 0)]) ⟨rfl, rfl, trivial⟩ ?_
  refine xa_loop (f := fun s => f_X12_stands_L58 v0 s.1 s.2) (L := fun s => [some (xR v0), some (xI s.1)]) (P := fun s => s.2) (X := (fun x K => xa_G l G 2 mX12_stands (some (Sum.inr x)) K 115 [some (xR v0), none] [] x)) (fun K hb hX s => g_X12_stands_L58 l G v0 K (fun w0 hh => hb ((w0, hh))) (fun hh => hX hh) s.1 s.2) ?_ xFU ((0, e12))
  intro e26 K hK
  refine xa_eqE hK ?_
  show xa_G l G 2 mX12_stands _ _ 115 [some (xR v0), none] [] e26
  refine xa_step (xa_iconst d_X12_stands_115 xq_i_0) ?_
  refine xa_step (xa_istore_n (ls' := [some (xR v0), some (xI 0)]) d_X12_stands_116 (by decide) rfl) ?_
  refine xa_weak (ls' := [some (xR v0), some (xI 0)]) ⟨rfl, rfl, trivial⟩ ?_
  refine xa_loop (f := fun s => f_X12_stands_L117 v0 s.1 s.2) (L := fun s => [some (xR v0), some (xI s.1)]) (P := fun s => s.2) (X := (fun x K => xa_G l G 2 mX12_stands (some (Sum.inr x)) K 144 [some (xR v0), none] [] x)) (fun K hb hX s => g_X12_stands_L117 l G v0 K (fun w0 hh => hb ((w0, hh))) (fun hh => hX hh) s.1 s.2) ?_ xFU ((0, e26))
  intro e32 K hK
  refine xa_eqE hK ?_
  show xa_G l G 2 mX12_stands _ _ 144 [some (xR v0), none] [] e32
  refine xa_step (xa_aload_n d_X12_stands_144 rfl) ?_
  refine xa_getf xR xc_12 (by decide) (fun _ => rfl) xw_1347 rfl d_X12_stands_145 (fun x33 _ => ?_)
  refine xa_step (xa_iconst d_X12_stands_148 xq_i_1) ?_
  refine xa_step (xa_aload_n d_X12_stands_149 rfl) ?_
  refine xa_getf xR xc_12 (by decide) (fun _ => rfl) xw_1347 rfl d_X12_stands_150 (fun x34 _ => ?_)
  refine xa_step (xa_iconst d_X12_stands_153 xq_i_0) ?_
  refine xa_iaload d_X12_stands_154 (fun x35 _ => ?_)
  refine xa_iastore2 d_X12_stands_155 (fun h36 _ => ?_)
  refine xa_step (xa_iconst d_X12_stands_156 xq_i_0) ?_
  refine xa_step (xa_istore_n (ls' := [some (xR v0), some (xI 0)]) d_X12_stands_157 (by decide) rfl) ?_
  refine xa_weak (ls' := [some (xR v0), some (xI 0)]) ⟨rfl, rfl, trivial⟩ ?_
  refine xa_loop (f := fun s => f_X12_stands_L158 v0 s.1 s.2) (L := fun s => [some (xR v0), some (xI s.1)]) (P := fun s => s.2) (X := (fun x K => xa_G l G 2 mX12_stands (some (Sum.inr x)) K 197 [some (xR v0), none] [] x)) (fun K hb hX s => g_X12_stands_L158 l G v0 K (fun w0 hh => hb ((w0, hh))) (fun hh => hX hh) s.1 s.2) ?_ xFU ((0, h36))
  intro e46 K hK
  refine xa_eqE hK ?_
  show xa_G l G 2 mX12_stands _ _ 197 [some (xR v0), none] [] e46
  refine xa_step (xa_iconst d_X12_stands_197 xq_i_0) ?_
  refine xa_step (xa_istore_n (ls' := [some (xR v0), some (xI 0)]) d_X12_stands_198 (by decide) rfl) ?_
  refine xa_weak (ls' := [some (xR v0), some (xI 0)]) ⟨rfl, rfl, trivial⟩ ?_
  refine xa_loop (f := fun s => f_X12_stands_L199 v0 s.1 s.2) (L := fun s => [some (xR v0), some (xI s.1)]) (P := fun s => s.2) (X := (fun x K => xa_G l G 2 mX12_stands (some (Sum.inr x)) K 229 [some (xR v0), none] [] x)) (fun K hb hX s => g_X12_stands_L199 l G v0 K (fun w0 hh => hb ((w0, hh))) (fun hh => hX hh) s.1 s.2) ?_ xFU ((0, e46))
  intro e53 K hK
  refine xa_eqE hK ?_
  show xa_G l G 2 mX12_stands _ _ 229 [some (xR v0), none] [] e53
  refine xa_step (xa_iconst d_X12_stands_229 xq_i_0) ?_
  refine xa_step (xa_istore_n (ls' := [some (xR v0), some (xI 0)]) d_X12_stands_230 (by decide) rfl) ?_
  refine xa_weak (ls' := [some (xR v0), some (xI 0)]) ⟨rfl, rfl, trivial⟩ ?_
  refine xa_loop (f := fun s => f_X12_stands_L231 v0 s.1 s.2) (L := fun s => [some (xR v0), some (xI s.1)]) (P := fun s => s.2) (X := (fun x K => xa_G l G 2 mX12_stands (some (Sum.inr x)) K 251 [some (xR v0), none] [] x)) (fun K hb hX s => g_X12_stands_L231 l G v0 K (fun w0 hh => hb ((w0, hh))) (fun hh => hX hh) s.1 s.2) ?_ xFU ((0, e53))
  intro e57 K hK
  refine xa_eqE hK ?_
  show xa_G l G 2 mX12_stands _ _ 251 [some (xR v0), none] [] e57
  refine xa_step (xa_iconst d_X12_stands_251 xq_i_0) ?_
  refine xa_step (xa_istore_n (ls' := [some (xR v0), some (xI 0)]) d_X12_stands_252 (by decide) rfl) ?_
  refine xa_weak (ls' := [some (xR v0), some (xI 0)]) ⟨rfl, rfl, trivial⟩ ?_
  refine xa_loop (f := fun s => f_X12_stands_L253 v0 s.1 s.2) (L := fun s => [some (xR v0), some (xI s.1)]) (P := fun s => s.2) (X := (fun x K => xa_G l G 2 mX12_stands (some (Sum.inr x)) K 324 [some (xR v0), none] [] x)) (fun K hb hX s => g_X12_stands_L253 l G v0 K (fun w0 hh => hb ((w0, hh))) (fun hh => hX hh) s.1 s.2) ?_ xFU ((0, e57))
  intro e73 K hK
  refine xa_eqE hK ?_
  show xa_G l G 2 mX12_stands _ _ 324 [some (xR v0), none] [] e73
  refine xa_step (xa_aload_n d_X12_stands_324 rfl) ?_
  refine xa_step (xa_iconst d_X12_stands_325 xq_i_0) ?_
  refine xa_putf2 (tg := xI) xc_12 (by decide) (fun _ => rfl) rfl (fun c hc => xa_fitI c hc) xw_1378 rfl d_X12_stands_326 (fun h74 _ => ?_)
  refine xa_step (xa_aload_n d_X12_stands_329 rfl) ?_
  refine xa_step (xa_iconst d_X12_stands_330 xq_i_0) ?_
  refine xa_putf2 (tg := xI) xc_12 (by decide) (fun _ => rfl) rfl (fun c hc => xa_fitI c hc) xw_1374 rfl d_X12_stands_331 (fun h75 _ => ?_)
  refine xa_step (xa_aload_n d_X12_stands_334 rfl) ?_
  refine xa_step (xa_iconst d_X12_stands_335 xq_i_0) ?_
  refine xa_putf2 (tg := xI) xc_12 (by decide) (fun _ => rfl) rfl (fun c hc => (xa_fitZ (Or.inl rfl)) c hc) xw_1364 rfl d_X12_stands_336 (fun h76 _ => ?_)
  exact xa_vret d_X12_stands_339 rfl rfl
theorem ct_X12_stands (l : Launch) (G : xa_C) (v0 : Int) (h : xa_H) (r : xa_H) (hr : f_X12_stands v0 h = some r) : xa_CT l G 2 mX12_stands yX12_stands [xR v0] h (none, r) :=
  xa_met (by decide +kernel) rfl (fun q => by first | rfl | cases q) (Nat.le_of_ble_eq_true rfl) rfl (g_X12_stands l G v0 h) (by rw [hr]; rfl)
abbrev mX12_codesTold : xa_M := (cX12_codesTold, 4, none, RX12, false)
theorem d_X12_codesTold_0 : decode mX12_codesTold.1 0 = .ok (.aload_n 0, 1) ∧ 0 + 1 = 1 := ⟨by decide +kernel, rfl⟩
theorem d_X12_codesTold_1 : decode mX12_codesTold.1 1 = .ok (.getfield 249, 3) ∧ 1 + 3 = 4 := ⟨by decide +kernel, rfl⟩
theorem d_X12_codesTold_4 : decode mX12_codesTold.1 4 = .ok (.ifCond .ne 19, 3) ∧ 4 + 3 = 7 ∧ ((4 : Nat) : Int) + 19 = ((23 : Nat) : Int) := ⟨by decide +kernel, rfl, rfl⟩
theorem d_X12_codesTold_7 : decode mX12_codesTold.1 7 = .ok (.aload_n 0, 1) ∧ 7 + 1 = 8 := ⟨by decide +kernel, rfl⟩
theorem d_X12_codesTold_8 : decode mX12_codesTold.1 8 = .ok (.getfield 121, 3) ∧ 8 + 3 = 11 := ⟨by decide +kernel, rfl⟩
theorem d_X12_codesTold_11 : decode mX12_codesTold.1 11 = .ok (.iload_n 1, 1) ∧ 11 + 1 = 12 := ⟨by decide +kernel, rfl⟩
theorem d_X12_codesTold_12 : decode mX12_codesTold.1 12 = .ok (.iaload, 1) ∧ 12 + 1 = 13 := ⟨by decide +kernel, rfl⟩
theorem d_X12_codesTold_13 : decode mX12_codesTold.1 13 = .ok (.iconst (-1), 1) ∧ 13 + 1 = 14 := ⟨by decide +kernel, rfl⟩
theorem d_X12_codesTold_14 : decode mX12_codesTold.1 14 = .ok (.if_icmp .eq 9, 3) ∧ 14 + 3 = 17 ∧ ((14 : Nat) : Int) + 9 = ((23 : Nat) : Int) := ⟨by decide +kernel, rfl, rfl⟩
theorem d_X12_codesTold_23 : decode mX12_codesTold.1 23 = .ok (.aload_n 0, 1) ∧ 23 + 1 = 24 := ⟨by decide +kernel, rfl⟩
theorem d_X12_codesTold_24 : decode mX12_codesTold.1 24 = .ok (.getfield 249, 3) ∧ 24 + 3 = 27 := ⟨by decide +kernel, rfl⟩
theorem d_X12_codesTold_27 : decode mX12_codesTold.1 27 = .ok (.ifCond .eq 4, 3) ∧ 27 + 3 = 30 ∧ ((27 : Nat) : Int) + 4 = ((31 : Nat) : Int) := ⟨by decide +kernel, rfl, rfl⟩
theorem d_X12_codesTold_31 : decode mX12_codesTold.1 31 = .ok (.aload_n 0, 1) ∧ 31 + 1 = 32 := ⟨by decide +kernel, rfl⟩
theorem d_X12_codesTold_32 : decode mX12_codesTold.1 32 = .ok (.iconst 1, 1) ∧ 32 + 1 = 33 := ⟨by decide +kernel, rfl⟩
theorem d_X12_codesTold_33 : decode mX12_codesTold.1 33 = .ok (.putfield 304, 3) ∧ 33 + 3 = 36 := ⟨by decide +kernel, rfl⟩
theorem d_X12_codesTold_36 : decode mX12_codesTold.1 36 = .ok (.aload_n 0, 1) ∧ 36 + 1 = 37 := ⟨by decide +kernel, rfl⟩
theorem d_X12_codesTold_37 : decode mX12_codesTold.1 37 = .ok (.iconst 0, 1) ∧ 37 + 1 = 38 := ⟨by decide +kernel, rfl⟩
theorem d_X12_codesTold_38 : decode mX12_codesTold.1 38 = .ok (.putfield 335, 3) ∧ 38 + 3 = 41 := ⟨by decide +kernel, rfl⟩
theorem d_X12_codesTold_41 : decode mX12_codesTold.1 41 = .ok (.aload_n 0, 1) ∧ 41 + 1 = 42 := ⟨by decide +kernel, rfl⟩
theorem d_X12_codesTold_42 : decode mX12_codesTold.1 42 = .ok (.iconst 0, 1) ∧ 42 + 1 = 43 := ⟨by decide +kernel, rfl⟩
theorem d_X12_codesTold_43 : decode mX12_codesTold.1 43 = .ok (.putfield 338, 3) ∧ 43 + 3 = 46 := ⟨by decide +kernel, rfl⟩
theorem d_X12_codesTold_46 : decode mX12_codesTold.1 46 = .ok (.aload_n 0, 1) ∧ 46 + 1 = 47 := ⟨by decide +kernel, rfl⟩
theorem d_X12_codesTold_47 : decode mX12_codesTold.1 47 = .ok (.iconst 0, 1) ∧ 47 + 1 = 48 := ⟨by decide +kernel, rfl⟩
theorem d_X12_codesTold_48 : decode mX12_codesTold.1 48 = .ok (.putfield 341, 3) ∧ 48 + 3 = 51 := ⟨by decide +kernel, rfl⟩
theorem d_X12_codesTold_51 : decode mX12_codesTold.1 51 = .ok (.aload_n 0, 1) ∧ 51 + 1 = 52 := ⟨by decide +kernel, rfl⟩
theorem d_X12_codesTold_52 : decode mX12_codesTold.1 52 = .ok (.iconst 0, 1) ∧ 52 + 1 = 53 := ⟨by decide +kernel, rfl⟩
theorem d_X12_codesTold_53 : decode mX12_codesTold.1 53 = .ok (.putfield 344, 3) ∧ 53 + 3 = 56 := ⟨by decide +kernel, rfl⟩
theorem d_X12_codesTold_56 : decode mX12_codesTold.1 56 = .ok (.iload_n 1, 1) ∧ 56 + 1 = 57 := ⟨by decide +kernel, rfl⟩
theorem d_X12_codesTold_57 : decode mX12_codesTold.1 57 = .ok (.ifCond .ne 10, 3) ∧ 57 + 3 = 60 ∧ ((57 : Nat) : Int) + 10 = ((67 : Nat) : Int) := ⟨by decide +kernel, rfl, rfl⟩
theorem d_X12_codesTold_60 : decode mX12_codesTold.1 60 = .ok (.aload_n 0, 1) ∧ 60 + 1 = 61 := ⟨by decide +kernel, rfl⟩
theorem d_X12_codesTold_61 : decode mX12_codesTold.1 61 = .ok (.invokevirtual 347, 3) ∧ 61 + 3 = 64 := ⟨by decide +kernel, rfl⟩
theorem d_X12_codesTold_64 : decode mX12_codesTold.1 64 = .ok (.goto 7, 3) ∧ ((64 : Nat) : Int) + 7 = ((71 : Nat) : Int) := ⟨by decide +kernel, rfl⟩
theorem d_X12_codesTold_71 : decode mX12_codesTold.1 71 = .ok (.aload_n 0, 1) ∧ 71 + 1 = 72 := ⟨by decide +kernel, rfl⟩
theorem d_X12_codesTold_72 : decode mX12_codesTold.1 72 = .ok (.getfield 249, 3) ∧ 72 + 3 = 75 := ⟨by decide +kernel, rfl⟩
theorem d_X12_codesTold_75 : decode mX12_codesTold.1 75 = .ok (.ifCond .eq 4, 3) ∧ 75 + 3 = 78 ∧ ((75 : Nat) : Int) + 4 = ((79 : Nat) : Int) := ⟨by decide +kernel, rfl, rfl⟩
theorem d_X12_codesTold_79 : decode mX12_codesTold.1 79 = .ok (.aload_n 0, 1) ∧ 79 + 1 = 80 := ⟨by decide +kernel, rfl⟩
theorem d_X12_codesTold_80 : decode mX12_codesTold.1 80 = .ok (.getfield 121, 3) ∧ 80 + 3 = 83 := ⟨by decide +kernel, rfl⟩
theorem d_X12_codesTold_83 : decode mX12_codesTold.1 83 = .ok (.iload_n 1, 1) ∧ 83 + 1 = 84 := ⟨by decide +kernel, rfl⟩
theorem d_X12_codesTold_84 : decode mX12_codesTold.1 84 = .ok (.aload_n 0, 1) ∧ 84 + 1 = 85 := ⟨by decide +kernel, rfl⟩
theorem d_X12_codesTold_85 : decode mX12_codesTold.1 85 = .ok (.getfield 353, 3) ∧ 85 + 3 = 88 := ⟨by decide +kernel, rfl⟩
theorem d_X12_codesTold_88 : decode mX12_codesTold.1 88 = .ok (.iastore, 1) ∧ 88 + 1 = 89 := ⟨by decide +kernel, rfl⟩
theorem d_X12_codesTold_89 : decode mX12_codesTold.1 89 = .ok (.iconst 0, 1) ∧ 89 + 1 = 90 := ⟨by decide +kernel, rfl⟩
theorem d_X12_codesTold_90 : decode mX12_codesTold.1 90 = .ok (.istore_n 3, 1) ∧ 90 + 1 = 91 := ⟨by decide +kernel, rfl⟩
theorem d_X12_codesTold_91 : decode mX12_codesTold.1 91 = .ok (.iload_n 3, 1) ∧ 91 + 1 = 92 := ⟨by decide +kernel, rfl⟩
theorem d_X12_codesTold_92 : decode mX12_codesTold.1 92 = .ok (.aload_n 0, 1) ∧ 92 + 1 = 93 := ⟨by decide +kernel, rfl⟩
theorem d_X12_codesTold_93 : decode mX12_codesTold.1 93 = .ok (.getfield 335, 3) ∧ 93 + 3 = 96 := ⟨by decide +kernel, rfl⟩
theorem d_X12_codesTold_96 : decode mX12_codesTold.1 96 = .ok (.if_icmp .ge 34, 3) ∧ 96 + 3 = 99 ∧ ((96 : Nat) : Int) + 34 = ((130 : Nat) : Int) := ⟨by decide +kernel, rfl, rfl⟩
theorem d_X12_codesTold_99 : decode mX12_codesTold.1 99 = .ok (.aload_n 0, 1) ∧ 99 + 1 = 100 := ⟨by decide +kernel, rfl⟩
theorem d_X12_codesTold_100 : decode mX12_codesTold.1 100 = .ok (.getfield 127, 3) ∧ 100 + 3 = 103 := ⟨by decide +kernel, rfl⟩
theorem d_X12_codesTold_103 : decode mX12_codesTold.1 103 = .ok (.aload_n 0, 1) ∧ 103 + 1 = 104 := ⟨by decide +kernel, rfl⟩
theorem d_X12_codesTold_104 : decode mX12_codesTold.1 104 = .ok (.getfield 353, 3) ∧ 104 + 3 = 107 := ⟨by decide +kernel, rfl⟩
theorem d_X12_codesTold_107 : decode mX12_codesTold.1 107 = .ok (.aload_n 0, 1) ∧ 107 + 1 = 108 := ⟨by decide +kernel, rfl⟩
theorem d_X12_codesTold_108 : decode mX12_codesTold.1 108 = .ok (.getfield 234, 3) ∧ 108 + 3 = 111 := ⟨by decide +kernel, rfl⟩
theorem d_X12_codesTold_111 : decode mX12_codesTold.1 111 = .ok (.iload_n 3, 1) ∧ 111 + 1 = 112 := ⟨by decide +kernel, rfl⟩
theorem d_X12_codesTold_112 : decode mX12_codesTold.1 112 = .ok (.iaload, 1) ∧ 112 + 1 = 113 := ⟨by decide +kernel, rfl⟩
theorem d_X12_codesTold_113 : decode mX12_codesTold.1 113 = .ok (.iastore, 1) ∧ 113 + 1 = 114 := ⟨by decide +kernel, rfl⟩
theorem d_X12_codesTold_114 : decode mX12_codesTold.1 114 = .ok (.aload_n 0, 1) ∧ 114 + 1 = 115 := ⟨by decide +kernel, rfl⟩
theorem d_X12_codesTold_115 : decode mX12_codesTold.1 115 = .ok (.dup, 1) ∧ 115 + 1 = 116 := ⟨by decide +kernel, rfl⟩
theorem d_X12_codesTold_116 : decode mX12_codesTold.1 116 = .ok (.getfield 353, 3) ∧ 116 + 3 = 119 := ⟨by decide +kernel, rfl⟩
theorem d_X12_codesTold_119 : decode mX12_codesTold.1 119 = .ok (.iconst 1, 1) ∧ 119 + 1 = 120 := ⟨by decide +kernel, rfl⟩
theorem d_X12_codesTold_120 : decode mX12_codesTold.1 120 = .ok (.iadd, 1) ∧ 120 + 1 = 121 := ⟨by decide +kernel, rfl⟩
theorem d_X12_codesTold_121 : decode mX12_codesTold.1 121 = .ok (.putfield 353, 3) ∧ 121 + 3 = 124 := ⟨by decide +kernel, rfl⟩
theorem d_X12_codesTold_124 : decode mX12_codesTold.1 124 = .ok (.iinc 3 1, 3) ∧ 124 + 3 = 127 := ⟨by decide +kernel, rfl⟩
theorem d_X12_codesTold_127 : decode mX12_codesTold.1 127 = .ok (.goto (-36), 3) ∧ ((127 : Nat) : Int) + (-36) = ((91 : Nat) : Int) := ⟨by decide +kernel, rfl⟩
set_option maxRecDepth 100000 in
set_option maxHeartbeats 4000000 in
theorem g_X12_codesTold_L91 (l : Launch) (G : xa_C) (c0 c1 : Int) (K : (Int × xa_H) ⊕ (xa_H) → Option xa_O) (hb : ∀ (v3 : Int) (h : xa_H), xa_G l G 11 mX12_codesTold (some (Sum.inl ((v3, h)))) K 91 [some (xR c0), some (xI c1), none, some (xI v3)] [] h) (hx : ∀ (h : xa_H), xa_G l G 11 mX12_codesTold (some (Sum.inr h)) K 130 [some (xR c0), some (xI c1), none, none] [] h) : ∀ (v3 : Int) (h : xa_H), xa_G l G 11 mX12_codesTold (f_X12_codesTold_L91 c0 c1 v3 h) K 91 [some (xR c0), some (xI c1), none, some (xI v3)] [] h := by
  intro v3 h
  unfold f_X12_codesTold_L91
  refine xa_step (xa_iload_n d_X12_codesTold_91 rfl) ?_
  refine xa_step (xa_aload_n d_X12_codesTold_92 rfl) ?_
  refine xa_getf xI xc_12 (by decide) (fun _ => rfl) xw_1402 rfl d_X12_codesTold_93 (fun x20 _ => ?_)
  refine xa_if (xa_icmpge d_X12_codesTold_96) (fun q21 => ?_) (fun q21 => ?_)
  · refine xa_step (xa_aload_n d_X12_codesTold_99 rfl) ?_
    refine xa_getf xR xc_12 (by decide) (fun _ => rfl) xw_1350 rfl d_X12_codesTold_100 (fun x22 _ => ?_)
    refine xa_step (xa_aload_n d_X12_codesTold_103 rfl) ?_
    refine xa_getf xI xc_12 (by decide) (fun _ => rfl) xw_1351 rfl d_X12_codesTold_104 (fun x23 _ => ?_)
    refine xa_step (xa_aload_n d_X12_codesTold_107 rfl) ?_
    refine xa_getf xR xc_12 (by decide) (fun _ => rfl) xw_1401 rfl d_X12_codesTold_108 (fun x24 _ => ?_)
    refine xa_step (xa_iload_n d_X12_codesTold_111 rfl) ?_
    refine xa_iaload d_X12_codesTold_112 (fun x25 _ => ?_)
    refine xa_iastore2 d_X12_codesTold_113 (fun h26 _ => ?_)
    refine xa_step (xa_aload_n d_X12_codesTold_114 rfl) ?_
    refine xa_step (xa_dup d_X12_codesTold_115 (xa_tR _)) ?_
    refine xa_getf xI xc_12 (by decide) (fun _ => rfl) xw_1351 rfl d_X12_codesTold_116 (fun x27 _ => ?_)
    refine xa_step (xa_iconst d_X12_codesTold_119 xq_i_1) ?_
    refine xa_step (xa_iadd d_X12_codesTold_120) ?_
    refine xa_putf2 (tg := xI) xc_12 (by decide) (fun _ => rfl) rfl (fun c hc => xa_fitI c hc) xw_1351 rfl d_X12_codesTold_121 (fun h28 _ => ?_)
    refine xa_step (xa_iinc (ls' := [some (xR c0), some (xI c1), none, some (xI (w32 (v3 + 1)))]) d_X12_codesTold_124 xq_i_1 rfl (by decide) rfl) ?_
    refine xa_step (xa_goto d_X12_codesTold_127) ?_
    exact xa_weak (ls' := [some (xR c0), some (xI c1), none, some (xI (w32 (v3 + 1)))]) ⟨rfl, rfl, rfl, trivial⟩ (hb (w32 (v3 + 1)) h28)
  · exact xa_weak (ls' := [some (xR c0), some (xI c1), none, none]) ⟨rfl, rfl, trivial⟩ (hx h)
theorem d_X12_codesTold_130 : decode mX12_codesTold.1 130 = .ok (.aload_n 0, 1) ∧ 130 + 1 = 131 := ⟨by decide +kernel, rfl⟩
theorem d_X12_codesTold_131 : decode mX12_codesTold.1 131 = .ok (.getfield 124, 3) ∧ 131 + 3 = 134 := ⟨by decide +kernel, rfl⟩
theorem d_X12_codesTold_134 : decode mX12_codesTold.1 134 = .ok (.iload_n 1, 1) ∧ 134 + 1 = 135 := ⟨by decide +kernel, rfl⟩
theorem d_X12_codesTold_135 : decode mX12_codesTold.1 135 = .ok (.aload_n 0, 1) ∧ 135 + 1 = 136 := ⟨by decide +kernel, rfl⟩
theorem d_X12_codesTold_136 : decode mX12_codesTold.1 136 = .ok (.getfield 353, 3) ∧ 136 + 3 = 139 := ⟨by decide +kernel, rfl⟩
theorem d_X12_codesTold_139 : decode mX12_codesTold.1 139 = .ok (.iastore, 1) ∧ 139 + 1 = 140 := ⟨by decide +kernel, rfl⟩
theorem d_X12_codesTold_140 : decode mX12_codesTold.1 140 = .ok (.return_, 1) := by decide +kernel
theorem d_X12_codesTold_78 : decode mX12_codesTold.1 78 = .ok (.return_, 1) := by decide +kernel
set_option maxRecDepth 100000 in
set_option maxHeartbeats 4000000 in
theorem g_X12_codesTold_J71 (l : Launch) (G : xa_C) : ∀ (v0 v1 : Int) (h : xa_H) , xa_G l G 11 mX12_codesTold (f_X12_codesTold_J71 v0 v1 h) (fun r => some (none, r) : xa_H → Option xa_O) 71 [some (xR v0), some (xI v1), none, none] [] h := by
  intro v0 v1 h
  unfold f_X12_codesTold_J71
  refine xa_step (xa_aload_n d_X12_codesTold_71 rfl) ?_
  refine xa_getf xI xc_12 (by decide) (fun _ => rfl) xw_1309 rfl d_X12_codesTold_72 (fun x15 _ => ?_)
  refine xa_if (xa_ifeq d_X12_codesTold_75) (fun q16 => ?_) (fun q16 => ?_)
  · refine xa_step (xa_aload_n d_X12_codesTold_79 rfl) ?_
    refine xa_getf xR xc_12 (by decide) (fun _ => rfl) xw_1348 rfl d_X12_codesTold_80 (fun x17 _ => ?_)
    refine xa_step (xa_iload_n d_X12_codesTold_83 rfl) ?_
    refine xa_step (xa_aload_n d_X12_codesTold_84 rfl) ?_
    refine xa_getf xI xc_12 (by decide) (fun _ => rfl) xw_1351 rfl d_X12_codesTold_85 (fun x18 _ => ?_)
    refine xa_iastore2 d_X12_codesTold_88 (fun h19 _ => ?_)
    refine xa_step (xa_iconst d_X12_codesTold_89 xq_i_0) ?_
    refine xa_step (xa_istore_n (ls' := [some (xR v0), some (xI v1), none, some (xI 0)]) d_X12_codesTold_90 (by decide) rfl) ?_
    refine xa_weak (ls' := [some (xR v0), some (xI v1), none, some (xI 0)]) ⟨rfl, rfl, rfl, trivial⟩ ?_
    refine xa_loop (f := fun s => f_X12_codesTold_L91 v0 v1 s.1 s.2) (L := fun s => [some (xR v0), some (xI v1), none, some (xI s.1)]) (P := fun s => s.2) (X := (fun x K => xa_G l G 11 mX12_codesTold (some (Sum.inr x)) K 130 [some (xR v0), some (xI v1), none, none] [] x)) (fun K hb hX s => g_X12_codesTold_L91 l G v0 v1 K (fun w0 hh => hb ((w0, hh))) (fun hh => hX hh) s.1 s.2) ?_ xFU ((0, h19))
    intro e29 K hK
    refine xa_eqE hK ?_
    show xa_G l G 11 mX12_codesTold _ _ 130 [some (xR v0), some (xI v1), none, none] [] e29
    refine xa_step (xa_aload_n d_X12_codesTold_130 rfl) ?_
    refine xa_getf xR xc_12 (by decide) (fun _ => rfl) xw_1349 rfl d_X12_codesTold_131 (fun x30 _ => ?_)
    refine xa_step (xa_iload_n d_X12_codesTold_134 rfl) ?_
    refine xa_step (xa_aload_n d_X12_codesTold_135 rfl) ?_
    refine xa_getf xI xc_12 (by decide) (fun _ => rfl) xw_1351 rfl d_X12_codesTold_136 (fun x31 _ => ?_)
    refine xa_iastore2 d_X12_codesTold_139 (fun h32 _ => ?_)
    exact xa_vret d_X12_codesTold_140 rfl rfl
  · exact xa_vret d_X12_codesTold_78 rfl rfl
theorem d_X12_codesTold_67 : decode mX12_codesTold.1 67 = .ok (.aload_n 0, 1) ∧ 67 + 1 = 68 := ⟨by decide +kernel, rfl⟩
theorem d_X12_codesTold_68 : decode mX12_codesTold.1 68 = .ok (.invokevirtual 350, 3) ∧ 68 + 3 = 71 := ⟨by decide +kernel, rfl⟩
theorem d_X12_codesTold_30 : decode mX12_codesTold.1 30 = .ok (.return_, 1) := by decide +kernel
set_option maxRecDepth 100000 in
set_option maxHeartbeats 4000000 in
theorem g_X12_codesTold_J23 (l : Launch) (G : xa_C) : ∀ (v0 v1 : Int) (h : xa_H) , xa_G l G 11 mX12_codesTold (f_X12_codesTold_J23 v0 v1 h) (fun r => some (none, r) : xa_H → Option xa_O) 23 [some (xR v0), some (xI v1), none, none] [] h := by
  intro v0 v1 h
  unfold f_X12_codesTold_J23
  refine xa_step (xa_aload_n d_X12_codesTold_23 rfl) ?_
  refine xa_getf xI xc_12 (by decide) (fun _ => rfl) xw_1309 rfl d_X12_codesTold_24 (fun x6 _ => ?_)
  refine xa_if (xa_ifeq d_X12_codesTold_27) (fun q7 => ?_) (fun q7 => ?_)
  · refine xa_step (xa_aload_n d_X12_codesTold_31 rfl) ?_
    refine xa_step (xa_iconst d_X12_codesTold_32 xq_i_1) ?_
    refine xa_putf2 (tg := xI) xc_12 (by decide) (fun _ => rfl) rfl (fun c hc => (xa_fitZ (Or.inr rfl)) c hc) xw_1353 rfl d_X12_codesTold_33 (fun h8 _ => ?_)
    refine xa_step (xa_aload_n d_X12_codesTold_36 rfl) ?_
    refine xa_step (xa_iconst d_X12_codesTold_37 xq_i_0) ?_
    refine xa_putf2 (tg := xI) xc_12 (by decide) (fun _ => rfl) rfl (fun c hc => xa_fitI c hc) xw_1402 rfl d_X12_codesTold_38 (fun h9 _ => ?_)
    refine xa_step (xa_aload_n d_X12_codesTold_41 rfl) ?_
    refine xa_step (xa_iconst d_X12_codesTold_42 xq_i_0) ?_
    refine xa_putf2 (tg := xI) xc_12 (by decide) (fun _ => rfl) rfl (fun c hc => xa_fitI c hc) xw_1404 rfl d_X12_codesTold_43 (fun h10 _ => ?_)
    refine xa_step (xa_aload_n d_X12_codesTold_46 rfl) ?_
    refine xa_step (xa_iconst d_X12_codesTold_47 xq_i_0) ?_
    refine xa_putf2 (tg := xI) xc_12 (by decide) (fun _ => rfl) rfl (fun c hc => xa_fitI c hc) xw_1405 rfl d_X12_codesTold_48 (fun h11 _ => ?_)
    refine xa_step (xa_aload_n d_X12_codesTold_51 rfl) ?_
    refine xa_step (xa_iconst d_X12_codesTold_52 xq_i_0) ?_
    refine xa_putf2 (tg := xI) xc_12 (by decide) (fun _ => rfl) rfl (fun c hc => xa_fitI c hc) xw_1406 rfl d_X12_codesTold_53 (fun h12 _ => ?_)
    refine xa_step (xa_iload_n d_X12_codesTold_56 rfl) ?_
    refine xa_if (xa_ifne d_X12_codesTold_57) (fun q13 => ?_) (fun q13 => ?_)
    · refine xa_step (xa_aload_n d_X12_codesTold_60 rfl) ?_
      refine xa_callVV (as := []) (st := []) (M' := mX12_qTest) (d' := 10) rfl xw_1733 xw_1735 xw_85 xw_1736 xw_177 xh_X12_qTest rfl ⟨Nat.le_of_ble_eq_true rfl, Nat.le_of_ble_eq_true rfl⟩ (Nat.le_of_ble_eq_true rfl) rfl d_X12_codesTold_61 (fun r hr => ct_X12_qTest l G v0 h12 r hr) (fun r14 _ => ?_)
      refine xa_step (xa_goto d_X12_codesTold_64) ?_
      exact xa_weak (ls' := [some (xR v0), some (xI v1), none, none]) ⟨rfl, rfl, trivial⟩ (g_X12_codesTold_J71 l G v0 v1 r14)
    · refine xa_step (xa_aload_n d_X12_codesTold_67 rfl) ?_
      refine xa_callVV (as := []) (st := []) (M' := mX12_qSums) (d' := 8) rfl xw_1749 xw_1751 xw_89 xw_1752 xw_177 xh_X12_qSums rfl ⟨Nat.le_of_ble_eq_true rfl, Nat.le_of_ble_eq_true rfl⟩ (Nat.le_of_ble_eq_true rfl) rfl d_X12_codesTold_68 (fun r hr => ct_X12_qSums l G v0 h12 r hr) (fun r33 _ => ?_)
      exact xa_weak (ls' := [some (xR v0), some (xI v1), none, none]) ⟨rfl, rfl, trivial⟩ (g_X12_codesTold_J71 l G v0 v1 r33)
  · exact xa_vret d_X12_codesTold_30 rfl rfl
theorem d_X12_codesTold_17 : decode mX12_codesTold.1 17 = .ok (.aload_n 0, 1) ∧ 17 + 1 = 18 := ⟨by decide +kernel, rfl⟩
theorem d_X12_codesTold_18 : decode mX12_codesTold.1 18 = .ok (.iconst 5, 1) ∧ 18 + 1 = 19 := ⟨by decide +kernel, rfl⟩
theorem d_X12_codesTold_19 : decode mX12_codesTold.1 19 = .ok (.iload_n 2, 1) ∧ 19 + 1 = 20 := ⟨by decide +kernel, rfl⟩
theorem d_X12_codesTold_20 : decode mX12_codesTold.1 20 = .ok (.invokevirtual 279, 3) ∧ 20 + 3 = 23 := ⟨by decide +kernel, rfl⟩
set_option maxRecDepth 100000 in
set_option maxHeartbeats 4000000 in
theorem g_X12_codesTold (l : Launch) (G : xa_C) (v0 v1 v2 : Int) (h : xa_H) : xa_G l G 11 mX12_codesTold (f_X12_codesTold v0 v1 v2 h) (fun r => some (none, r) : xa_H → Option xa_O) 0 [some (xR v0), some (xI v1), some (xI v2), none] [] h := by
  unfold f_X12_codesTold
  refine xa_step (xa_aload_n d_X12_codesTold_0 rfl) ?_
  refine xa_getf xI xc_12 (by decide) (fun _ => rfl) xw_1309 rfl d_X12_codesTold_1 (fun x1 _ => ?_)
  refine xa_if (xa_ifne d_X12_codesTold_4) (fun q2 => ?_) (fun q2 => ?_)
  · refine xa_step (xa_aload_n d_X12_codesTold_7 rfl) ?_
    refine xa_getf xR xc_12 (by decide) (fun _ => rfl) xw_1348 rfl d_X12_codesTold_8 (fun x3 _ => ?_)
    refine xa_step (xa_iload_n d_X12_codesTold_11 rfl) ?_
    refine xa_iaload d_X12_codesTold_12 (fun x4 _ => ?_)
    refine xa_step (xa_iconst d_X12_codesTold_13 xq_i_m1) ?_
    refine xa_if (xa_icmpeq d_X12_codesTold_14) (fun q5 => ?_) (fun q5 => ?_)
    · exact xa_weak (ls' := [some (xR v0), some (xI v1), none, none]) ⟨rfl, rfl, trivial⟩ (g_X12_codesTold_J23 l G v0 v1 h)
    · refine xa_step (xa_aload_n d_X12_codesTold_17 rfl) ?_
      refine xa_step (xa_iconst d_X12_codesTold_18 xq_i_5) ?_
      refine xa_step (xa_iload_n d_X12_codesTold_19 rfl) ?_
      refine xa_callVV (as := [xI 5, xI v2]) (st := []) (M' := mX12_fail) (d' := 2) rfl xw_1654 xw_1656 xw_68 xw_1657 xw_177 xh_X12_fail rfl ⟨Nat.le_of_ble_eq_true rfl, Nat.le_of_ble_eq_true rfl⟩ (Nat.le_of_ble_eq_true rfl) rfl d_X12_codesTold_20 (fun r hr => ct_X12_fail l G v0 5 v2 h r hr) (fun r34 _ => ?_)
      exact xa_weak (ls' := [some (xR v0), some (xI v1), none, none]) ⟨rfl, rfl, trivial⟩ (g_X12_codesTold_J23 l G v0 v1 r34)
  · exact xa_weak (ls' := [some (xR v0), some (xI v1), none, none]) ⟨rfl, rfl, trivial⟩ (g_X12_codesTold_J23 l G v0 v1 h)
theorem ct_X12_codesTold (l : Launch) (G : xa_C) (v0 v1 v2 : Int) (h : xa_H) (r : xa_H) (hr : f_X12_codesTold v0 v1 v2 h = some r) : xa_CT l G 11 mX12_codesTold yX12_codesTold [xR v0, xI v1, xI v2] h (none, r) :=
  xa_met (by decide +kernel) rfl (fun q => by first | rfl | cases q) (Nat.le_of_ble_eq_true rfl) rfl (g_X12_codesTold l G v0 v1 v2 h) (by rw [hr]; rfl)
abbrev mX12_isFull : xa_M := (cX12_isFull, 4, (some (.boolean)), RX12, false)
theorem d_X12_isFull_0 : decode mX12_isFull.1 0 = .ok (.aload_n 0, 1) ∧ 0 + 1 = 1 := ⟨by decide +kernel, rfl⟩
theorem d_X12_isFull_1 : decode mX12_isFull.1 1 = .ok (.getfield 249, 3) ∧ 1 + 3 = 4 := ⟨by decide +kernel, rfl⟩
theorem d_X12_isFull_4 : decode mX12_isFull.1 4 = .ok (.ifCond .ne 19, 3) ∧ 4 + 3 = 7 ∧ ((4 : Nat) : Int) + 19 = ((23 : Nat) : Int) := ⟨by decide +kernel, rfl, rfl⟩
theorem d_X12_isFull_7 : decode mX12_isFull.1 7 = .ok (.aload_n 0, 1) ∧ 7 + 1 = 8 := ⟨by decide +kernel, rfl⟩
theorem d_X12_isFull_8 : decode mX12_isFull.1 8 = .ok (.getfield 90, 3) ∧ 8 + 3 = 11 := ⟨by decide +kernel, rfl⟩
theorem d_X12_isFull_11 : decode mX12_isFull.1 11 = .ok (.iload_n 1, 1) ∧ 11 + 1 = 12 := ⟨by decide +kernel, rfl⟩
theorem d_X12_isFull_12 : decode mX12_isFull.1 12 = .ok (.iaload, 1) ∧ 12 + 1 = 13 := ⟨by decide +kernel, rfl⟩
theorem d_X12_isFull_13 : decode mX12_isFull.1 13 = .ok (.iload_n 2, 1) ∧ 13 + 1 = 14 := ⟨by decide +kernel, rfl⟩
theorem d_X12_isFull_14 : decode mX12_isFull.1 14 = .ok (.if_icmp .ne 9, 3) ∧ 14 + 3 = 17 ∧ ((14 : Nat) : Int) + 9 = ((23 : Nat) : Int) := ⟨by decide +kernel, rfl, rfl⟩
theorem d_X12_isFull_17 : decode mX12_isFull.1 17 = .ok (.aload_n 0, 1) ∧ 17 + 1 = 18 := ⟨by decide +kernel, rfl⟩
theorem d_X12_isFull_18 : decode mX12_isFull.1 18 = .ok (.iconst 5, 1) ∧ 18 + 1 = 19 := ⟨by decide +kernel, rfl⟩
theorem d_X12_isFull_19 : decode mX12_isFull.1 19 = .ok (.iload_n 3, 1) ∧ 19 + 1 = 20 := ⟨by decide +kernel, rfl⟩
theorem d_X12_isFull_20 : decode mX12_isFull.1 20 = .ok (.invokevirtual 279, 3) ∧ 20 + 3 = 23 := ⟨by decide +kernel, rfl⟩
theorem d_X12_isFull_23 : decode mX12_isFull.1 23 = .ok (.aload_n 0, 1) ∧ 23 + 1 = 24 := ⟨by decide +kernel, rfl⟩
theorem d_X12_isFull_24 : decode mX12_isFull.1 24 = .ok (.getfield 249, 3) ∧ 24 + 3 = 27 := ⟨by decide +kernel, rfl⟩
theorem d_X12_isFull_27 : decode mX12_isFull.1 27 = .ok (.ifCond .eq 7, 3) ∧ 27 + 3 = 30 ∧ ((27 : Nat) : Int) + 7 = ((34 : Nat) : Int) := ⟨by decide +kernel, rfl, rfl⟩
theorem d_X12_isFull_34 : decode mX12_isFull.1 34 = .ok (.iconst 0, 1) ∧ 34 + 1 = 35 := ⟨by decide +kernel, rfl⟩
theorem d_X12_isFull_35 : decode mX12_isFull.1 35 = .ok (.ireturn, 1) := by decide +kernel
theorem d_X12_isFull_30 : decode mX12_isFull.1 30 = .ok (.iconst 1, 1) ∧ 30 + 1 = 31 := ⟨by decide +kernel, rfl⟩
theorem d_X12_isFull_31 : decode mX12_isFull.1 31 = .ok (.goto 4, 3) ∧ ((31 : Nat) : Int) + 4 = ((35 : Nat) : Int) := ⟨by decide +kernel, rfl⟩
set_option maxRecDepth 100000 in
set_option maxHeartbeats 4000000 in
theorem g_X12_isFull_J23 (l : Launch) (G : xa_C) : ∀ (v0 : Int) (h : xa_H) , xa_G l G 3 mX12_isFull (f_X12_isFull_J23 v0 h) (fun r => some (some (xI r.1), r.2) : (Int × xa_H) → Option xa_O) 23 [some (xR v0), none, none, none] [] h := by
  intro v0 h
  unfold f_X12_isFull_J23
  refine xa_step (xa_aload_n d_X12_isFull_23 rfl) ?_
  refine xa_getf xI xc_12 (by decide) (fun _ => rfl) xw_1309 rfl d_X12_isFull_24 (fun x7 _ => ?_)
  refine xa_if (xa_ifeq d_X12_isFull_27) (fun q8 => ?_) (fun q8 => ?_)
  · refine xa_step (xa_iconst d_X12_isFull_34 xq_i_0) ?_
    exact xa_zret d_X12_isFull_35 rfl (Or.inl rfl) rfl
  · refine xa_step (xa_iconst d_X12_isFull_30 xq_i_1) ?_
    refine xa_step (xa_goto d_X12_isFull_31) ?_
    exact xa_zret d_X12_isFull_35 rfl (Or.inr rfl) rfl
set_option maxRecDepth 100000 in
set_option maxHeartbeats 4000000 in
theorem g_X12_isFull (l : Launch) (G : xa_C) (v0 v1 v2 v3 : Int) (h : xa_H) : xa_G l G 3 mX12_isFull (f_X12_isFull v0 v1 v2 v3 h) (fun r => some (some (xI r.1), r.2) : (Int × xa_H) → Option xa_O) 0 [some (xR v0), some (xI v1), some (xI v2), some (xI v3)] [] h := by
  unfold f_X12_isFull
  refine xa_step (xa_aload_n d_X12_isFull_0 rfl) ?_
  refine xa_getf xI xc_12 (by decide) (fun _ => rfl) xw_1309 rfl d_X12_isFull_1 (fun x1 _ => ?_)
  refine xa_if (xa_ifne d_X12_isFull_4) (fun q2 => ?_) (fun q2 => ?_)
  · refine xa_step (xa_aload_n d_X12_isFull_7 rfl) ?_
    refine xa_getf xR xc_12 (by decide) (fun _ => rfl) xw_1338 rfl d_X12_isFull_8 (fun x3 _ => ?_)
    refine xa_step (xa_iload_n d_X12_isFull_11 rfl) ?_
    refine xa_iaload d_X12_isFull_12 (fun x4 _ => ?_)
    refine xa_step (xa_iload_n d_X12_isFull_13 rfl) ?_
    refine xa_if (xa_icmpne d_X12_isFull_14) (fun q5 => ?_) (fun q5 => ?_)
    · refine xa_step (xa_aload_n d_X12_isFull_17 rfl) ?_
      refine xa_step (xa_iconst d_X12_isFull_18 xq_i_5) ?_
      refine xa_step (xa_iload_n d_X12_isFull_19 rfl) ?_
      refine xa_callVV (as := [xI 5, xI v3]) (st := []) (M' := mX12_fail) (d' := 2) rfl xw_1654 xw_1656 xw_68 xw_1657 xw_177 xh_X12_fail rfl ⟨Nat.le_of_ble_eq_true rfl, Nat.le_of_ble_eq_true rfl⟩ (Nat.le_of_ble_eq_true rfl) rfl d_X12_isFull_20 (fun r hr => ct_X12_fail l G v0 5 v3 h r hr) (fun r6 _ => ?_)
      exact xa_weak (ls' := [some (xR v0), none, none, none]) ⟨rfl, trivial⟩ (g_X12_isFull_J23 l G v0 r6)
    · exact xa_weak (ls' := [some (xR v0), none, none, none]) ⟨rfl, trivial⟩ (g_X12_isFull_J23 l G v0 h)
  · exact xa_weak (ls' := [some (xR v0), none, none, none]) ⟨rfl, trivial⟩ (g_X12_isFull_J23 l G v0 h)
theorem ct_X12_isFull (l : Launch) (G : xa_C) (v0 v1 v2 v3 : Int) (h : xa_H) (r : Int × xa_H) (hr : f_X12_isFull v0 v1 v2 v3 h = some r) : xa_CT l G 3 mX12_isFull yX12_isFull [xR v0, xI v1, xI v2, xI v3] h (some (xI r.1), r.2) :=
  xa_met (by decide +kernel) rfl (fun q => by first | rfl | cases q) (Nat.le_of_ble_eq_true rfl) rfl (g_X12_isFull l G v0 v1 v2 v3 h) (by rw [hr]; rfl)
abbrev mX12_isOwnHere : xa_M := (cX12_isOwnHere, 2, (some (.boolean)), RX12, false)
theorem d_X12_isOwnHere_0 : decode mX12_isOwnHere.1 0 = .ok (.aload_n 0, 1) ∧ 0 + 1 = 1 := ⟨by decide +kernel, rfl⟩
theorem d_X12_isOwnHere_1 : decode mX12_isOwnHere.1 1 = .ok (.aload_n 0, 1) ∧ 1 + 1 = 2 := ⟨by decide +kernel, rfl⟩
theorem d_X12_isOwnHere_2 : decode mX12_isOwnHere.1 2 = .ok (.getfield 20, 3) ∧ 2 + 3 = 5 := ⟨by decide +kernel, rfl⟩
theorem d_X12_isOwnHere_5 : decode mX12_isOwnHere.1 5 = .ok (.invokevirtual 272, 3) ∧ 5 + 3 = 8 := ⟨by decide +kernel, rfl⟩
theorem d_X12_isOwnHere_8 : decode mX12_isOwnHere.1 8 = .ok (.ifCond .ne 58, 3) ∧ 8 + 3 = 11 ∧ ((8 : Nat) : Int) + 58 = ((66 : Nat) : Int) := ⟨by decide +kernel, rfl, rfl⟩
theorem d_X12_isOwnHere_11 : decode mX12_isOwnHere.1 11 = .ok (.aload_n 0, 1) ∧ 11 + 1 = 12 := ⟨by decide +kernel, rfl⟩
theorem d_X12_isOwnHere_12 : decode mX12_isOwnHere.1 12 = .ok (.aload_n 0, 1) ∧ 12 + 1 = 13 := ⟨by decide +kernel, rfl⟩
theorem d_X12_isOwnHere_13 : decode mX12_isOwnHere.1 13 = .ok (.getfield 24, 3) ∧ 13 + 3 = 16 := ⟨by decide +kernel, rfl⟩
theorem d_X12_isOwnHere_16 : decode mX12_isOwnHere.1 16 = .ok (.invokevirtual 272, 3) ∧ 16 + 3 = 19 := ⟨by decide +kernel, rfl⟩
theorem d_X12_isOwnHere_19 : decode mX12_isOwnHere.1 19 = .ok (.ifCond .ne 47, 3) ∧ 19 + 3 = 22 ∧ ((19 : Nat) : Int) + 47 = ((66 : Nat) : Int) := ⟨by decide +kernel, rfl, rfl⟩
theorem d_X12_isOwnHere_22 : decode mX12_isOwnHere.1 22 = .ok (.aload_n 0, 1) ∧ 22 + 1 = 23 := ⟨by decide +kernel, rfl⟩
theorem d_X12_isOwnHere_23 : decode mX12_isOwnHere.1 23 = .ok (.aload_n 0, 1) ∧ 23 + 1 = 24 := ⟨by decide +kernel, rfl⟩
theorem d_X12_isOwnHere_24 : decode mX12_isOwnHere.1 24 = .ok (.getfield 27, 3) ∧ 24 + 3 = 27 := ⟨by decide +kernel, rfl⟩
theorem d_X12_isOwnHere_27 : decode mX12_isOwnHere.1 27 = .ok (.invokevirtual 272, 3) ∧ 27 + 3 = 30 := ⟨by decide +kernel, rfl⟩
theorem d_X12_isOwnHere_30 : decode mX12_isOwnHere.1 30 = .ok (.ifCond .ne 36, 3) ∧ 30 + 3 = 33 ∧ ((30 : Nat) : Int) + 36 = ((66 : Nat) : Int) := ⟨by decide +kernel, rfl, rfl⟩
theorem d_X12_isOwnHere_33 : decode mX12_isOwnHere.1 33 = .ok (.aload_n 0, 1) ∧ 33 + 1 = 34 := ⟨by decide +kernel, rfl⟩
theorem d_X12_isOwnHere_34 : decode mX12_isOwnHere.1 34 = .ok (.aload_n 0, 1) ∧ 34 + 1 = 35 := ⟨by decide +kernel, rfl⟩
theorem d_X12_isOwnHere_35 : decode mX12_isOwnHere.1 35 = .ok (.getfield 30, 3) ∧ 35 + 3 = 38 := ⟨by decide +kernel, rfl⟩
theorem d_X12_isOwnHere_38 : decode mX12_isOwnHere.1 38 = .ok (.invokevirtual 272, 3) ∧ 38 + 3 = 41 := ⟨by decide +kernel, rfl⟩
theorem d_X12_isOwnHere_41 : decode mX12_isOwnHere.1 41 = .ok (.ifCond .ne 25, 3) ∧ 41 + 3 = 44 ∧ ((41 : Nat) : Int) + 25 = ((66 : Nat) : Int) := ⟨by decide +kernel, rfl, rfl⟩
theorem d_X12_isOwnHere_44 : decode mX12_isOwnHere.1 44 = .ok (.aload_n 0, 1) ∧ 44 + 1 = 45 := ⟨by decide +kernel, rfl⟩
theorem d_X12_isOwnHere_45 : decode mX12_isOwnHere.1 45 = .ok (.aload_n 0, 1) ∧ 45 + 1 = 46 := ⟨by decide +kernel, rfl⟩
theorem d_X12_isOwnHere_46 : decode mX12_isOwnHere.1 46 = .ok (.getfield 33, 3) ∧ 46 + 3 = 49 := ⟨by decide +kernel, rfl⟩
theorem d_X12_isOwnHere_49 : decode mX12_isOwnHere.1 49 = .ok (.invokevirtual 272, 3) ∧ 49 + 3 = 52 := ⟨by decide +kernel, rfl⟩
theorem d_X12_isOwnHere_52 : decode mX12_isOwnHere.1 52 = .ok (.ifCond .ne 14, 3) ∧ 52 + 3 = 55 ∧ ((52 : Nat) : Int) + 14 = ((66 : Nat) : Int) := ⟨by decide +kernel, rfl, rfl⟩
theorem d_X12_isOwnHere_55 : decode mX12_isOwnHere.1 55 = .ok (.aload_n 0, 1) ∧ 55 + 1 = 56 := ⟨by decide +kernel, rfl⟩
theorem d_X12_isOwnHere_56 : decode mX12_isOwnHere.1 56 = .ok (.aload_n 0, 1) ∧ 56 + 1 = 57 := ⟨by decide +kernel, rfl⟩
theorem d_X12_isOwnHere_57 : decode mX12_isOwnHere.1 57 = .ok (.getfield 36, 3) ∧ 57 + 3 = 60 := ⟨by decide +kernel, rfl⟩
theorem d_X12_isOwnHere_60 : decode mX12_isOwnHere.1 60 = .ok (.invokevirtual 272, 3) ∧ 60 + 3 = 63 := ⟨by decide +kernel, rfl⟩
theorem d_X12_isOwnHere_63 : decode mX12_isOwnHere.1 63 = .ok (.ifCond .eq 7, 3) ∧ 63 + 3 = 66 ∧ ((63 : Nat) : Int) + 7 = ((70 : Nat) : Int) := ⟨by decide +kernel, rfl, rfl⟩
theorem d_X12_isOwnHere_70 : decode mX12_isOwnHere.1 70 = .ok (.iconst 0, 1) ∧ 70 + 1 = 71 := ⟨by decide +kernel, rfl⟩
theorem d_X12_isOwnHere_71 : decode mX12_isOwnHere.1 71 = .ok (.istore_n 1, 1) ∧ 71 + 1 = 72 := ⟨by decide +kernel, rfl⟩
theorem d_X12_isOwnHere_72 : decode mX12_isOwnHere.1 72 = .ok (.iload_n 1, 1) ∧ 72 + 1 = 73 := ⟨by decide +kernel, rfl⟩
theorem d_X12_isOwnHere_73 : decode mX12_isOwnHere.1 73 = .ok (.ifCond .ne 69, 3) ∧ 73 + 3 = 76 ∧ ((73 : Nat) : Int) + 69 = ((142 : Nat) : Int) := ⟨by decide +kernel, rfl, rfl⟩
theorem d_X12_isOwnHere_76 : decode mX12_isOwnHere.1 76 = .ok (.aload_n 0, 1) ∧ 76 + 1 = 77 := ⟨by decide +kernel, rfl⟩
theorem d_X12_isOwnHere_77 : decode mX12_isOwnHere.1 77 = .ok (.aload_n 0, 1) ∧ 77 + 1 = 78 := ⟨by decide +kernel, rfl⟩
theorem d_X12_isOwnHere_78 : decode mX12_isOwnHere.1 78 = .ok (.getfield 39, 3) ∧ 78 + 3 = 81 := ⟨by decide +kernel, rfl⟩
theorem d_X12_isOwnHere_81 : decode mX12_isOwnHere.1 81 = .ok (.invokevirtual 272, 3) ∧ 81 + 3 = 84 := ⟨by decide +kernel, rfl⟩
theorem d_X12_isOwnHere_84 : decode mX12_isOwnHere.1 84 = .ok (.ifCond .ne 58, 3) ∧ 84 + 3 = 87 ∧ ((84 : Nat) : Int) + 58 = ((142 : Nat) : Int) := ⟨by decide +kernel, rfl, rfl⟩
theorem d_X12_isOwnHere_87 : decode mX12_isOwnHere.1 87 = .ok (.aload_n 0, 1) ∧ 87 + 1 = 88 := ⟨by decide +kernel, rfl⟩
theorem d_X12_isOwnHere_88 : decode mX12_isOwnHere.1 88 = .ok (.aload_n 0, 1) ∧ 88 + 1 = 89 := ⟨by decide +kernel, rfl⟩
theorem d_X12_isOwnHere_89 : decode mX12_isOwnHere.1 89 = .ok (.getfield 42, 3) ∧ 89 + 3 = 92 := ⟨by decide +kernel, rfl⟩
theorem d_X12_isOwnHere_92 : decode mX12_isOwnHere.1 92 = .ok (.invokevirtual 272, 3) ∧ 92 + 3 = 95 := ⟨by decide +kernel, rfl⟩
theorem d_X12_isOwnHere_95 : decode mX12_isOwnHere.1 95 = .ok (.ifCond .ne 47, 3) ∧ 95 + 3 = 98 ∧ ((95 : Nat) : Int) + 47 = ((142 : Nat) : Int) := ⟨by decide +kernel, rfl, rfl⟩
theorem d_X12_isOwnHere_98 : decode mX12_isOwnHere.1 98 = .ok (.aload_n 0, 1) ∧ 98 + 1 = 99 := ⟨by decide +kernel, rfl⟩
theorem d_X12_isOwnHere_99 : decode mX12_isOwnHere.1 99 = .ok (.aload_n 0, 1) ∧ 99 + 1 = 100 := ⟨by decide +kernel, rfl⟩
theorem d_X12_isOwnHere_100 : decode mX12_isOwnHere.1 100 = .ok (.getfield 45, 3) ∧ 100 + 3 = 103 := ⟨by decide +kernel, rfl⟩
theorem d_X12_isOwnHere_103 : decode mX12_isOwnHere.1 103 = .ok (.invokevirtual 272, 3) ∧ 103 + 3 = 106 := ⟨by decide +kernel, rfl⟩
theorem d_X12_isOwnHere_106 : decode mX12_isOwnHere.1 106 = .ok (.ifCond .ne 36, 3) ∧ 106 + 3 = 109 ∧ ((106 : Nat) : Int) + 36 = ((142 : Nat) : Int) := ⟨by decide +kernel, rfl, rfl⟩
theorem d_X12_isOwnHere_109 : decode mX12_isOwnHere.1 109 = .ok (.aload_n 0, 1) ∧ 109 + 1 = 110 := ⟨by decide +kernel, rfl⟩
theorem d_X12_isOwnHere_110 : decode mX12_isOwnHere.1 110 = .ok (.aload_n 0, 1) ∧ 110 + 1 = 111 := ⟨by decide +kernel, rfl⟩
theorem d_X12_isOwnHere_111 : decode mX12_isOwnHere.1 111 = .ok (.getfield 48, 3) ∧ 111 + 3 = 114 := ⟨by decide +kernel, rfl⟩
theorem d_X12_isOwnHere_114 : decode mX12_isOwnHere.1 114 = .ok (.invokevirtual 272, 3) ∧ 114 + 3 = 117 := ⟨by decide +kernel, rfl⟩
theorem d_X12_isOwnHere_117 : decode mX12_isOwnHere.1 117 = .ok (.ifCond .ne 25, 3) ∧ 117 + 3 = 120 ∧ ((117 : Nat) : Int) + 25 = ((142 : Nat) : Int) := ⟨by decide +kernel, rfl, rfl⟩
theorem d_X12_isOwnHere_120 : decode mX12_isOwnHere.1 120 = .ok (.aload_n 0, 1) ∧ 120 + 1 = 121 := ⟨by decide +kernel, rfl⟩
theorem d_X12_isOwnHere_121 : decode mX12_isOwnHere.1 121 = .ok (.aload_n 0, 1) ∧ 121 + 1 = 122 := ⟨by decide +kernel, rfl⟩
theorem d_X12_isOwnHere_122 : decode mX12_isOwnHere.1 122 = .ok (.getfield 51, 3) ∧ 122 + 3 = 125 := ⟨by decide +kernel, rfl⟩
theorem d_X12_isOwnHere_125 : decode mX12_isOwnHere.1 125 = .ok (.invokevirtual 272, 3) ∧ 125 + 3 = 128 := ⟨by decide +kernel, rfl⟩
theorem d_X12_isOwnHere_128 : decode mX12_isOwnHere.1 128 = .ok (.ifCond .ne 14, 3) ∧ 128 + 3 = 131 ∧ ((128 : Nat) : Int) + 14 = ((142 : Nat) : Int) := ⟨by decide +kernel, rfl, rfl⟩
theorem d_X12_isOwnHere_131 : decode mX12_isOwnHere.1 131 = .ok (.aload_n 0, 1) ∧ 131 + 1 = 132 := ⟨by decide +kernel, rfl⟩
theorem d_X12_isOwnHere_132 : decode mX12_isOwnHere.1 132 = .ok (.aload_n 0, 1) ∧ 132 + 1 = 133 := ⟨by decide +kernel, rfl⟩
theorem d_X12_isOwnHere_133 : decode mX12_isOwnHere.1 133 = .ok (.getfield 54, 3) ∧ 133 + 3 = 136 := ⟨by decide +kernel, rfl⟩
theorem d_X12_isOwnHere_136 : decode mX12_isOwnHere.1 136 = .ok (.invokevirtual 272, 3) ∧ 136 + 3 = 139 := ⟨by decide +kernel, rfl⟩
theorem d_X12_isOwnHere_139 : decode mX12_isOwnHere.1 139 = .ok (.ifCond .eq 7, 3) ∧ 139 + 3 = 142 ∧ ((139 : Nat) : Int) + 7 = ((146 : Nat) : Int) := ⟨by decide +kernel, rfl, rfl⟩
theorem d_X12_isOwnHere_146 : decode mX12_isOwnHere.1 146 = .ok (.iconst 0, 1) ∧ 146 + 1 = 147 := ⟨by decide +kernel, rfl⟩
theorem d_X12_isOwnHere_147 : decode mX12_isOwnHere.1 147 = .ok (.istore_n 1, 1) ∧ 147 + 1 = 148 := ⟨by decide +kernel, rfl⟩
theorem d_X12_isOwnHere_148 : decode mX12_isOwnHere.1 148 = .ok (.iload_n 1, 1) ∧ 148 + 1 = 149 := ⟨by decide +kernel, rfl⟩
theorem d_X12_isOwnHere_149 : decode mX12_isOwnHere.1 149 = .ok (.ifCond .ne 69, 3) ∧ 149 + 3 = 152 ∧ ((149 : Nat) : Int) + 69 = ((218 : Nat) : Int) := ⟨by decide +kernel, rfl, rfl⟩
theorem d_X12_isOwnHere_152 : decode mX12_isOwnHere.1 152 = .ok (.aload_n 0, 1) ∧ 152 + 1 = 153 := ⟨by decide +kernel, rfl⟩
theorem d_X12_isOwnHere_153 : decode mX12_isOwnHere.1 153 = .ok (.aload_n 0, 1) ∧ 153 + 1 = 154 := ⟨by decide +kernel, rfl⟩
theorem d_X12_isOwnHere_154 : decode mX12_isOwnHere.1 154 = .ok (.getfield 57, 3) ∧ 154 + 3 = 157 := ⟨by decide +kernel, rfl⟩
theorem d_X12_isOwnHere_157 : decode mX12_isOwnHere.1 157 = .ok (.invokevirtual 272, 3) ∧ 157 + 3 = 160 := ⟨by decide +kernel, rfl⟩
theorem d_X12_isOwnHere_160 : decode mX12_isOwnHere.1 160 = .ok (.ifCond .ne 58, 3) ∧ 160 + 3 = 163 ∧ ((160 : Nat) : Int) + 58 = ((218 : Nat) : Int) := ⟨by decide +kernel, rfl, rfl⟩
theorem d_X12_isOwnHere_163 : decode mX12_isOwnHere.1 163 = .ok (.aload_n 0, 1) ∧ 163 + 1 = 164 := ⟨by decide +kernel, rfl⟩
theorem d_X12_isOwnHere_164 : decode mX12_isOwnHere.1 164 = .ok (.aload_n 0, 1) ∧ 164 + 1 = 165 := ⟨by decide +kernel, rfl⟩
theorem d_X12_isOwnHere_165 : decode mX12_isOwnHere.1 165 = .ok (.getfield 60, 3) ∧ 165 + 3 = 168 := ⟨by decide +kernel, rfl⟩
theorem d_X12_isOwnHere_168 : decode mX12_isOwnHere.1 168 = .ok (.invokevirtual 272, 3) ∧ 168 + 3 = 171 := ⟨by decide +kernel, rfl⟩
theorem d_X12_isOwnHere_171 : decode mX12_isOwnHere.1 171 = .ok (.ifCond .ne 47, 3) ∧ 171 + 3 = 174 ∧ ((171 : Nat) : Int) + 47 = ((218 : Nat) : Int) := ⟨by decide +kernel, rfl, rfl⟩
theorem d_X12_isOwnHere_174 : decode mX12_isOwnHere.1 174 = .ok (.aload_n 0, 1) ∧ 174 + 1 = 175 := ⟨by decide +kernel, rfl⟩
theorem d_X12_isOwnHere_175 : decode mX12_isOwnHere.1 175 = .ok (.aload_n 0, 1) ∧ 175 + 1 = 176 := ⟨by decide +kernel, rfl⟩
theorem d_X12_isOwnHere_176 : decode mX12_isOwnHere.1 176 = .ok (.getfield 63, 3) ∧ 176 + 3 = 179 := ⟨by decide +kernel, rfl⟩
theorem d_X12_isOwnHere_179 : decode mX12_isOwnHere.1 179 = .ok (.invokevirtual 272, 3) ∧ 179 + 3 = 182 := ⟨by decide +kernel, rfl⟩
theorem d_X12_isOwnHere_182 : decode mX12_isOwnHere.1 182 = .ok (.ifCond .ne 36, 3) ∧ 182 + 3 = 185 ∧ ((182 : Nat) : Int) + 36 = ((218 : Nat) : Int) := ⟨by decide +kernel, rfl, rfl⟩
theorem d_X12_isOwnHere_185 : decode mX12_isOwnHere.1 185 = .ok (.aload_n 0, 1) ∧ 185 + 1 = 186 := ⟨by decide +kernel, rfl⟩
theorem d_X12_isOwnHere_186 : decode mX12_isOwnHere.1 186 = .ok (.aload_n 0, 1) ∧ 186 + 1 = 187 := ⟨by decide +kernel, rfl⟩
theorem d_X12_isOwnHere_187 : decode mX12_isOwnHere.1 187 = .ok (.getfield 66, 3) ∧ 187 + 3 = 190 := ⟨by decide +kernel, rfl⟩
theorem d_X12_isOwnHere_190 : decode mX12_isOwnHere.1 190 = .ok (.invokevirtual 272, 3) ∧ 190 + 3 = 193 := ⟨by decide +kernel, rfl⟩
theorem d_X12_isOwnHere_193 : decode mX12_isOwnHere.1 193 = .ok (.ifCond .ne 25, 3) ∧ 193 + 3 = 196 ∧ ((193 : Nat) : Int) + 25 = ((218 : Nat) : Int) := ⟨by decide +kernel, rfl, rfl⟩
theorem d_X12_isOwnHere_196 : decode mX12_isOwnHere.1 196 = .ok (.aload_n 0, 1) ∧ 196 + 1 = 197 := ⟨by decide +kernel, rfl⟩
theorem d_X12_isOwnHere_197 : decode mX12_isOwnHere.1 197 = .ok (.aload_n 0, 1) ∧ 197 + 1 = 198 := ⟨by decide +kernel, rfl⟩
theorem d_X12_isOwnHere_198 : decode mX12_isOwnHere.1 198 = .ok (.getfield 69, 3) ∧ 198 + 3 = 201 := ⟨by decide +kernel, rfl⟩
theorem d_X12_isOwnHere_201 : decode mX12_isOwnHere.1 201 = .ok (.invokevirtual 272, 3) ∧ 201 + 3 = 204 := ⟨by decide +kernel, rfl⟩
theorem d_X12_isOwnHere_204 : decode mX12_isOwnHere.1 204 = .ok (.ifCond .ne 14, 3) ∧ 204 + 3 = 207 ∧ ((204 : Nat) : Int) + 14 = ((218 : Nat) : Int) := ⟨by decide +kernel, rfl, rfl⟩
theorem d_X12_isOwnHere_207 : decode mX12_isOwnHere.1 207 = .ok (.aload_n 0, 1) ∧ 207 + 1 = 208 := ⟨by decide +kernel, rfl⟩
theorem d_X12_isOwnHere_208 : decode mX12_isOwnHere.1 208 = .ok (.aload_n 0, 1) ∧ 208 + 1 = 209 := ⟨by decide +kernel, rfl⟩
theorem d_X12_isOwnHere_209 : decode mX12_isOwnHere.1 209 = .ok (.getfield 72, 3) ∧ 209 + 3 = 212 := ⟨by decide +kernel, rfl⟩
theorem d_X12_isOwnHere_212 : decode mX12_isOwnHere.1 212 = .ok (.invokevirtual 272, 3) ∧ 212 + 3 = 215 := ⟨by decide +kernel, rfl⟩
theorem d_X12_isOwnHere_215 : decode mX12_isOwnHere.1 215 = .ok (.ifCond .eq 7, 3) ∧ 215 + 3 = 218 ∧ ((215 : Nat) : Int) + 7 = ((222 : Nat) : Int) := ⟨by decide +kernel, rfl, rfl⟩
theorem d_X12_isOwnHere_222 : decode mX12_isOwnHere.1 222 = .ok (.iconst 0, 1) ∧ 222 + 1 = 223 := ⟨by decide +kernel, rfl⟩
theorem d_X12_isOwnHere_223 : decode mX12_isOwnHere.1 223 = .ok (.istore_n 1, 1) ∧ 223 + 1 = 224 := ⟨by decide +kernel, rfl⟩
theorem d_X12_isOwnHere_224 : decode mX12_isOwnHere.1 224 = .ok (.iload_n 1, 1) ∧ 224 + 1 = 225 := ⟨by decide +kernel, rfl⟩
theorem d_X12_isOwnHere_225 : decode mX12_isOwnHere.1 225 = .ok (.ifCond .ne 58, 3) ∧ 225 + 3 = 228 ∧ ((225 : Nat) : Int) + 58 = ((283 : Nat) : Int) := ⟨by decide +kernel, rfl, rfl⟩
theorem d_X12_isOwnHere_228 : decode mX12_isOwnHere.1 228 = .ok (.aload_n 0, 1) ∧ 228 + 1 = 229 := ⟨by decide +kernel, rfl⟩
theorem d_X12_isOwnHere_229 : decode mX12_isOwnHere.1 229 = .ok (.aload_n 0, 1) ∧ 229 + 1 = 230 := ⟨by decide +kernel, rfl⟩
theorem d_X12_isOwnHere_230 : decode mX12_isOwnHere.1 230 = .ok (.getfield 75, 3) ∧ 230 + 3 = 233 := ⟨by decide +kernel, rfl⟩
theorem d_X12_isOwnHere_233 : decode mX12_isOwnHere.1 233 = .ok (.invokevirtual 272, 3) ∧ 233 + 3 = 236 := ⟨by decide +kernel, rfl⟩
theorem d_X12_isOwnHere_236 : decode mX12_isOwnHere.1 236 = .ok (.ifCond .ne 47, 3) ∧ 236 + 3 = 239 ∧ ((236 : Nat) : Int) + 47 = ((283 : Nat) : Int) := ⟨by decide +kernel, rfl, rfl⟩
theorem d_X12_isOwnHere_239 : decode mX12_isOwnHere.1 239 = .ok (.aload_n 0, 1) ∧ 239 + 1 = 240 := ⟨by decide +kernel, rfl⟩
theorem d_X12_isOwnHere_240 : decode mX12_isOwnHere.1 240 = .ok (.aload_n 0, 1) ∧ 240 + 1 = 241 := ⟨by decide +kernel, rfl⟩
theorem d_X12_isOwnHere_241 : decode mX12_isOwnHere.1 241 = .ok (.getfield 78, 3) ∧ 241 + 3 = 244 := ⟨by decide +kernel, rfl⟩
theorem d_X12_isOwnHere_244 : decode mX12_isOwnHere.1 244 = .ok (.invokevirtual 272, 3) ∧ 244 + 3 = 247 := ⟨by decide +kernel, rfl⟩
theorem d_X12_isOwnHere_247 : decode mX12_isOwnHere.1 247 = .ok (.ifCond .ne 36, 3) ∧ 247 + 3 = 250 ∧ ((247 : Nat) : Int) + 36 = ((283 : Nat) : Int) := ⟨by decide +kernel, rfl, rfl⟩
theorem d_X12_isOwnHere_250 : decode mX12_isOwnHere.1 250 = .ok (.aload_n 0, 1) ∧ 250 + 1 = 251 := ⟨by decide +kernel, rfl⟩
theorem d_X12_isOwnHere_251 : decode mX12_isOwnHere.1 251 = .ok (.aload_n 0, 1) ∧ 251 + 1 = 252 := ⟨by decide +kernel, rfl⟩
theorem d_X12_isOwnHere_252 : decode mX12_isOwnHere.1 252 = .ok (.getfield 81, 3) ∧ 252 + 3 = 255 := ⟨by decide +kernel, rfl⟩
theorem d_X12_isOwnHere_255 : decode mX12_isOwnHere.1 255 = .ok (.invokevirtual 272, 3) ∧ 255 + 3 = 258 := ⟨by decide +kernel, rfl⟩
theorem d_X12_isOwnHere_258 : decode mX12_isOwnHere.1 258 = .ok (.ifCond .ne 25, 3) ∧ 258 + 3 = 261 ∧ ((258 : Nat) : Int) + 25 = ((283 : Nat) : Int) := ⟨by decide +kernel, rfl, rfl⟩
theorem d_X12_isOwnHere_261 : decode mX12_isOwnHere.1 261 = .ok (.aload_n 0, 1) ∧ 261 + 1 = 262 := ⟨by decide +kernel, rfl⟩
theorem d_X12_isOwnHere_262 : decode mX12_isOwnHere.1 262 = .ok (.aload_n 0, 1) ∧ 262 + 1 = 263 := ⟨by decide +kernel, rfl⟩
theorem d_X12_isOwnHere_263 : decode mX12_isOwnHere.1 263 = .ok (.getfield 84, 3) ∧ 263 + 3 = 266 := ⟨by decide +kernel, rfl⟩
theorem d_X12_isOwnHere_266 : decode mX12_isOwnHere.1 266 = .ok (.invokevirtual 272, 3) ∧ 266 + 3 = 269 := ⟨by decide +kernel, rfl⟩
theorem d_X12_isOwnHere_269 : decode mX12_isOwnHere.1 269 = .ok (.ifCond .ne 14, 3) ∧ 269 + 3 = 272 ∧ ((269 : Nat) : Int) + 14 = ((283 : Nat) : Int) := ⟨by decide +kernel, rfl, rfl⟩
theorem d_X12_isOwnHere_272 : decode mX12_isOwnHere.1 272 = .ok (.aload_n 0, 1) ∧ 272 + 1 = 273 := ⟨by decide +kernel, rfl⟩
theorem d_X12_isOwnHere_273 : decode mX12_isOwnHere.1 273 = .ok (.aload_n 0, 1) ∧ 273 + 1 = 274 := ⟨by decide +kernel, rfl⟩
theorem d_X12_isOwnHere_274 : decode mX12_isOwnHere.1 274 = .ok (.getfield 87, 3) ∧ 274 + 3 = 277 := ⟨by decide +kernel, rfl⟩
theorem d_X12_isOwnHere_277 : decode mX12_isOwnHere.1 277 = .ok (.invokevirtual 272, 3) ∧ 277 + 3 = 280 := ⟨by decide +kernel, rfl⟩
theorem d_X12_isOwnHere_280 : decode mX12_isOwnHere.1 280 = .ok (.ifCond .eq 7, 3) ∧ 280 + 3 = 283 ∧ ((280 : Nat) : Int) + 7 = ((287 : Nat) : Int) := ⟨by decide +kernel, rfl, rfl⟩
theorem d_X12_isOwnHere_287 : decode mX12_isOwnHere.1 287 = .ok (.iconst 0, 1) ∧ 287 + 1 = 288 := ⟨by decide +kernel, rfl⟩
theorem d_X12_isOwnHere_288 : decode mX12_isOwnHere.1 288 = .ok (.istore_n 1, 1) ∧ 288 + 1 = 289 := ⟨by decide +kernel, rfl⟩
theorem d_X12_isOwnHere_289 : decode mX12_isOwnHere.1 289 = .ok (.iload_n 1, 1) ∧ 289 + 1 = 290 := ⟨by decide +kernel, rfl⟩
theorem d_X12_isOwnHere_290 : decode mX12_isOwnHere.1 290 = .ok (.ireturn, 1) := by decide +kernel
theorem d_X12_isOwnHere_283 : decode mX12_isOwnHere.1 283 = .ok (.iconst 1, 1) ∧ 283 + 1 = 284 := ⟨by decide +kernel, rfl⟩
theorem d_X12_isOwnHere_284 : decode mX12_isOwnHere.1 284 = .ok (.goto 4, 3) ∧ ((284 : Nat) : Int) + 4 = ((288 : Nat) : Int) := ⟨by decide +kernel, rfl⟩
set_option maxRecDepth 100000 in
set_option maxHeartbeats 4000000 in
theorem g_X12_isOwnHere_J223 (l : Launch) (G : xa_C) : ∀ (v0 s0 : Int) (h : xa_H) , xa_G l G 4 mX12_isOwnHere (f_X12_isOwnHere_J223 v0 s0 h) (fun r => some (some (xI r.1), r.2) : (Int × xa_H) → Option xa_O) 223 [some (xR v0), none] [xI s0] h := by
  intro v0 s0 h
  unfold f_X12_isOwnHere_J223
  refine xa_step (xa_istore_n (ls' := [some (xR v0), some (xI s0)]) d_X12_isOwnHere_223 (by decide) rfl) ?_
  refine xa_step (xa_iload_n d_X12_isOwnHere_224 rfl) ?_
  refine xa_if (xa_ifne d_X12_isOwnHere_225) (fun q57 => ?_) (fun q57 => ?_)
  · refine xa_step (xa_aload_n d_X12_isOwnHere_228 rfl) ?_
    refine xa_step (xa_aload_n d_X12_isOwnHere_229 rfl) ?_
    refine xa_getf xR xc_12 (by decide) (fun _ => rfl) xw_1332 rfl d_X12_isOwnHere_230 (fun x58 _ => ?_)
    refine xa_callVI (as := [xR x58]) (st := []) (M' := mX12_isHere) (d' := 3) rfl xw_1662 xw_1664 xw_70 xw_1665 xw_177 xh_X12_isHere rfl ⟨Nat.le_of_ble_eq_true rfl, Nat.le_of_ble_eq_true rfl⟩ (Nat.le_of_ble_eq_true rfl) rfl d_X12_isOwnHere_233 (fun r hr => ct_X12_isHere l G v0 x58 h r hr) (fun r59 _ => ?_)
    refine xa_if (xa_ifne d_X12_isOwnHere_236) (fun q60 => ?_) (fun q60 => ?_)
    · refine xa_step (xa_aload_n d_X12_isOwnHere_239 rfl) ?_
      refine xa_step (xa_aload_n d_X12_isOwnHere_240 rfl) ?_
      refine xa_getf xR xc_12 (by decide) (fun _ => rfl) xw_1333 rfl d_X12_isOwnHere_241 (fun x61 _ => ?_)
      refine xa_callVI (as := [xR x61]) (st := []) (M' := mX12_isHere) (d' := 3) rfl xw_1662 xw_1664 xw_70 xw_1665 xw_177 xh_X12_isHere rfl ⟨Nat.le_of_ble_eq_true rfl, Nat.le_of_ble_eq_true rfl⟩ (Nat.le_of_ble_eq_true rfl) rfl d_X12_isOwnHere_244 (fun r hr => ct_X12_isHere l G v0 x61 r59.2 r hr) (fun r62 _ => ?_)
      refine xa_if (xa_ifne d_X12_isOwnHere_247) (fun q63 => ?_) (fun q63 => ?_)
      · refine xa_step (xa_aload_n d_X12_isOwnHere_250 rfl) ?_
        refine xa_step (xa_aload_n d_X12_isOwnHere_251 rfl) ?_
        refine xa_getf xR xc_12 (by decide) (fun _ => rfl) xw_1334 rfl d_X12_isOwnHere_252 (fun x64 _ => ?_)
        refine xa_callVI (as := [xR x64]) (st := []) (M' := mX12_isHere) (d' := 3) rfl xw_1662 xw_1664 xw_70 xw_1665 xw_177 xh_X12_isHere rfl ⟨Nat.le_of_ble_eq_true rfl, Nat.le_of_ble_eq_true rfl⟩ (Nat.le_of_ble_eq_true rfl) rfl d_X12_isOwnHere_255 (fun r hr => ct_X12_isHere l G v0 x64 r62.2 r hr) (fun r65 _ => ?_)
        refine xa_if (xa_ifne d_X12_isOwnHere_258) (fun q66 => ?_) (fun q66 => ?_)
        · refine xa_step (xa_aload_n d_X12_isOwnHere_261 rfl) ?_
          refine xa_step (xa_aload_n d_X12_isOwnHere_262 rfl) ?_
          refine xa_getf xR xc_12 (by decide) (fun _ => rfl) xw_1335 rfl d_X12_isOwnHere_263 (fun x67 _ => ?_)
          refine xa_callVI (as := [xR x67]) (st := []) (M' := mX12_isHere) (d' := 3) rfl xw_1662 xw_1664 xw_70 xw_1665 xw_177 xh_X12_isHere rfl ⟨Nat.le_of_ble_eq_true rfl, Nat.le_of_ble_eq_true rfl⟩ (Nat.le_of_ble_eq_true rfl) rfl d_X12_isOwnHere_266 (fun r hr => ct_X12_isHere l G v0 x67 r65.2 r hr) (fun r68 _ => ?_)
          refine xa_if (xa_ifne d_X12_isOwnHere_269) (fun q69 => ?_) (fun q69 => ?_)
          · refine xa_step (xa_aload_n d_X12_isOwnHere_272 rfl) ?_
            refine xa_step (xa_aload_n d_X12_isOwnHere_273 rfl) ?_
            refine xa_getf xR xc_12 (by decide) (fun _ => rfl) xw_1336 rfl d_X12_isOwnHere_274 (fun x70 _ => ?_)
            refine xa_callVI (as := [xR x70]) (st := []) (M' := mX12_isHere) (d' := 3) rfl xw_1662 xw_1664 xw_70 xw_1665 xw_177 xh_X12_isHere rfl ⟨Nat.le_of_ble_eq_true rfl, Nat.le_of_ble_eq_true rfl⟩ (Nat.le_of_ble_eq_true rfl) rfl d_X12_isOwnHere_277 (fun r hr => ct_X12_isHere l G v0 x70 r68.2 r hr) (fun r71 _ => ?_)
            refine xa_if (xa_ifeq d_X12_isOwnHere_280) (fun q72 => ?_) (fun q72 => ?_)
            · refine xa_step (xa_iconst d_X12_isOwnHere_287 xq_i_0) ?_
              refine xa_step (xa_istore_n (ls' := [some (xR v0), some (xI 0)]) d_X12_isOwnHere_288 (by decide) rfl) ?_
              refine xa_step (xa_iload_n d_X12_isOwnHere_289 rfl) ?_
              exact xa_zret d_X12_isOwnHere_290 rfl (Or.inl rfl) rfl
            · refine xa_step (xa_iconst d_X12_isOwnHere_283 xq_i_1) ?_
              refine xa_step (xa_goto d_X12_isOwnHere_284) ?_
              refine xa_step (xa_istore_n (ls' := [some (xR v0), some (xI 1)]) d_X12_isOwnHere_288 (by decide) rfl) ?_
              refine xa_step (xa_iload_n d_X12_isOwnHere_289 rfl) ?_
              exact xa_zret d_X12_isOwnHere_290 rfl (Or.inr rfl) rfl
          · refine xa_step (xa_iconst d_X12_isOwnHere_283 xq_i_1) ?_
            refine xa_step (xa_goto d_X12_isOwnHere_284) ?_
            refine xa_step (xa_istore_n (ls' := [some (xR v0), some (xI 1)]) d_X12_isOwnHere_288 (by decide) rfl) ?_
            refine xa_step (xa_iload_n d_X12_isOwnHere_289 rfl) ?_
            exact xa_zret d_X12_isOwnHere_290 rfl (Or.inr rfl) rfl
        · refine xa_step (xa_iconst d_X12_isOwnHere_283 xq_i_1) ?_
          refine xa_step (xa_goto d_X12_isOwnHere_284) ?_
          refine xa_step (xa_istore_n (ls' := [some (xR v0), some (xI 1)]) d_X12_isOwnHere_288 (by decide) rfl) ?_
          refine xa_step (xa_iload_n d_X12_isOwnHere_289 rfl) ?_
          exact xa_zret d_X12_isOwnHere_290 rfl (Or.inr rfl) rfl
      · refine xa_step (xa_iconst d_X12_isOwnHere_283 xq_i_1) ?_
        refine xa_step (xa_goto d_X12_isOwnHere_284) ?_
        refine xa_step (xa_istore_n (ls' := [some (xR v0), some (xI 1)]) d_X12_isOwnHere_288 (by decide) rfl) ?_
        refine xa_step (xa_iload_n d_X12_isOwnHere_289 rfl) ?_
        exact xa_zret d_X12_isOwnHere_290 rfl (Or.inr rfl) rfl
    · refine xa_step (xa_iconst d_X12_isOwnHere_283 xq_i_1) ?_
      refine xa_step (xa_goto d_X12_isOwnHere_284) ?_
      refine xa_step (xa_istore_n (ls' := [some (xR v0), some (xI 1)]) d_X12_isOwnHere_288 (by decide) rfl) ?_
      refine xa_step (xa_iload_n d_X12_isOwnHere_289 rfl) ?_
      exact xa_zret d_X12_isOwnHere_290 rfl (Or.inr rfl) rfl
  · refine xa_step (xa_iconst d_X12_isOwnHere_283 xq_i_1) ?_
    refine xa_step (xa_goto d_X12_isOwnHere_284) ?_
    refine xa_step (xa_istore_n (ls' := [some (xR v0), some (xI 1)]) d_X12_isOwnHere_288 (by decide) rfl) ?_
    refine xa_step (xa_iload_n d_X12_isOwnHere_289 rfl) ?_
    exact xa_zret d_X12_isOwnHere_290 rfl (Or.inr rfl) rfl
theorem d_X12_isOwnHere_218 : decode mX12_isOwnHere.1 218 = .ok (.iconst 1, 1) ∧ 218 + 1 = 219 := ⟨by decide +kernel, rfl⟩
theorem d_X12_isOwnHere_219 : decode mX12_isOwnHere.1 219 = .ok (.goto 4, 3) ∧ ((219 : Nat) : Int) + 4 = ((223 : Nat) : Int) := ⟨by decide +kernel, rfl⟩
set_option maxRecDepth 100000 in
set_option maxHeartbeats 4000000 in
theorem g_X12_isOwnHere_J218 (l : Launch) (G : xa_C) : ∀ (v0 : Int) (h : xa_H) , xa_G l G 4 mX12_isOwnHere (f_X12_isOwnHere_J218 v0 h) (fun r => some (some (xI r.1), r.2) : (Int × xa_H) → Option xa_O) 218 [some (xR v0), none] [] h := by
  intro v0 h
  unfold f_X12_isOwnHere_J218
  refine xa_step (xa_iconst d_X12_isOwnHere_218 xq_i_1) ?_
  refine xa_step (xa_goto d_X12_isOwnHere_219) ?_
  exact xa_weak (ls' := [some (xR v0), none]) ⟨rfl, trivial⟩ (g_X12_isOwnHere_J223 l G v0 1 h)
set_option maxRecDepth 100000 in
set_option maxHeartbeats 4000000 in
theorem g_X12_isOwnHere_J147 (l : Launch) (G : xa_C) : ∀ (v0 s0 : Int) (h : xa_H) , xa_G l G 4 mX12_isOwnHere (f_X12_isOwnHere_J147 v0 s0 h) (fun r => some (some (xI r.1), r.2) : (Int × xa_H) → Option xa_O) 147 [some (xR v0), none] [xI s0] h := by
  intro v0 s0 h
  unfold f_X12_isOwnHere_J147
  refine xa_step (xa_istore_n (ls' := [some (xR v0), some (xI s0)]) d_X12_isOwnHere_147 (by decide) rfl) ?_
  refine xa_step (xa_iload_n d_X12_isOwnHere_148 rfl) ?_
  refine xa_if (xa_ifne d_X12_isOwnHere_149) (fun q38 => ?_) (fun q38 => ?_)
  · refine xa_step (xa_aload_n d_X12_isOwnHere_152 rfl) ?_
    refine xa_step (xa_aload_n d_X12_isOwnHere_153 rfl) ?_
    refine xa_getf xR xc_12 (by decide) (fun _ => rfl) xw_1326 rfl d_X12_isOwnHere_154 (fun x39 _ => ?_)
    refine xa_callVI (as := [xR x39]) (st := []) (M' := mX12_isHere) (d' := 3) rfl xw_1662 xw_1664 xw_70 xw_1665 xw_177 xh_X12_isHere rfl ⟨Nat.le_of_ble_eq_true rfl, Nat.le_of_ble_eq_true rfl⟩ (Nat.le_of_ble_eq_true rfl) rfl d_X12_isOwnHere_157 (fun r hr => ct_X12_isHere l G v0 x39 h r hr) (fun r40 _ => ?_)
    refine xa_if (xa_ifne d_X12_isOwnHere_160) (fun q41 => ?_) (fun q41 => ?_)
    · refine xa_step (xa_aload_n d_X12_isOwnHere_163 rfl) ?_
      refine xa_step (xa_aload_n d_X12_isOwnHere_164 rfl) ?_
      refine xa_getf xR xc_12 (by decide) (fun _ => rfl) xw_1327 rfl d_X12_isOwnHere_165 (fun x42 _ => ?_)
      refine xa_callVI (as := [xR x42]) (st := []) (M' := mX12_isHere) (d' := 3) rfl xw_1662 xw_1664 xw_70 xw_1665 xw_177 xh_X12_isHere rfl ⟨Nat.le_of_ble_eq_true rfl, Nat.le_of_ble_eq_true rfl⟩ (Nat.le_of_ble_eq_true rfl) rfl d_X12_isOwnHere_168 (fun r hr => ct_X12_isHere l G v0 x42 r40.2 r hr) (fun r43 _ => ?_)
      refine xa_if (xa_ifne d_X12_isOwnHere_171) (fun q44 => ?_) (fun q44 => ?_)
      · refine xa_step (xa_aload_n d_X12_isOwnHere_174 rfl) ?_
        refine xa_step (xa_aload_n d_X12_isOwnHere_175 rfl) ?_
        refine xa_getf xR xc_12 (by decide) (fun _ => rfl) xw_1328 rfl d_X12_isOwnHere_176 (fun x45 _ => ?_)
        refine xa_callVI (as := [xR x45]) (st := []) (M' := mX12_isHere) (d' := 3) rfl xw_1662 xw_1664 xw_70 xw_1665 xw_177 xh_X12_isHere rfl ⟨Nat.le_of_ble_eq_true rfl, Nat.le_of_ble_eq_true rfl⟩ (Nat.le_of_ble_eq_true rfl) rfl d_X12_isOwnHere_179 (fun r hr => ct_X12_isHere l G v0 x45 r43.2 r hr) (fun r46 _ => ?_)
        refine xa_if (xa_ifne d_X12_isOwnHere_182) (fun q47 => ?_) (fun q47 => ?_)
        · refine xa_step (xa_aload_n d_X12_isOwnHere_185 rfl) ?_
          refine xa_step (xa_aload_n d_X12_isOwnHere_186 rfl) ?_
          refine xa_getf xR xc_12 (by decide) (fun _ => rfl) xw_1329 rfl d_X12_isOwnHere_187 (fun x48 _ => ?_)
          refine xa_callVI (as := [xR x48]) (st := []) (M' := mX12_isHere) (d' := 3) rfl xw_1662 xw_1664 xw_70 xw_1665 xw_177 xh_X12_isHere rfl ⟨Nat.le_of_ble_eq_true rfl, Nat.le_of_ble_eq_true rfl⟩ (Nat.le_of_ble_eq_true rfl) rfl d_X12_isOwnHere_190 (fun r hr => ct_X12_isHere l G v0 x48 r46.2 r hr) (fun r49 _ => ?_)
          refine xa_if (xa_ifne d_X12_isOwnHere_193) (fun q50 => ?_) (fun q50 => ?_)
          · refine xa_step (xa_aload_n d_X12_isOwnHere_196 rfl) ?_
            refine xa_step (xa_aload_n d_X12_isOwnHere_197 rfl) ?_
            refine xa_getf xR xc_12 (by decide) (fun _ => rfl) xw_1330 rfl d_X12_isOwnHere_198 (fun x51 _ => ?_)
            refine xa_callVI (as := [xR x51]) (st := []) (M' := mX12_isHere) (d' := 3) rfl xw_1662 xw_1664 xw_70 xw_1665 xw_177 xh_X12_isHere rfl ⟨Nat.le_of_ble_eq_true rfl, Nat.le_of_ble_eq_true rfl⟩ (Nat.le_of_ble_eq_true rfl) rfl d_X12_isOwnHere_201 (fun r hr => ct_X12_isHere l G v0 x51 r49.2 r hr) (fun r52 _ => ?_)
            refine xa_if (xa_ifne d_X12_isOwnHere_204) (fun q53 => ?_) (fun q53 => ?_)
            · refine xa_step (xa_aload_n d_X12_isOwnHere_207 rfl) ?_
              refine xa_step (xa_aload_n d_X12_isOwnHere_208 rfl) ?_
              refine xa_getf xR xc_12 (by decide) (fun _ => rfl) xw_1331 rfl d_X12_isOwnHere_209 (fun x54 _ => ?_)
              refine xa_callVI (as := [xR x54]) (st := []) (M' := mX12_isHere) (d' := 3) rfl xw_1662 xw_1664 xw_70 xw_1665 xw_177 xh_X12_isHere rfl ⟨Nat.le_of_ble_eq_true rfl, Nat.le_of_ble_eq_true rfl⟩ (Nat.le_of_ble_eq_true rfl) rfl d_X12_isOwnHere_212 (fun r hr => ct_X12_isHere l G v0 x54 r52.2 r hr) (fun r55 _ => ?_)
              refine xa_if (xa_ifeq d_X12_isOwnHere_215) (fun q56 => ?_) (fun q56 => ?_)
              · refine xa_step (xa_iconst d_X12_isOwnHere_222 xq_i_0) ?_
                exact xa_weak (ls' := [some (xR v0), none]) ⟨rfl, trivial⟩ (g_X12_isOwnHere_J223 l G v0 0 r55.2)
              · exact xa_weak (ls' := [some (xR v0), none]) ⟨rfl, trivial⟩ (g_X12_isOwnHere_J218 l G v0 r55.2)
            · exact xa_weak (ls' := [some (xR v0), none]) ⟨rfl, trivial⟩ (g_X12_isOwnHere_J218 l G v0 r52.2)
          · exact xa_weak (ls' := [some (xR v0), none]) ⟨rfl, trivial⟩ (g_X12_isOwnHere_J218 l G v0 r49.2)
        · exact xa_weak (ls' := [some (xR v0), none]) ⟨rfl, trivial⟩ (g_X12_isOwnHere_J218 l G v0 r46.2)
      · exact xa_weak (ls' := [some (xR v0), none]) ⟨rfl, trivial⟩ (g_X12_isOwnHere_J218 l G v0 r43.2)
    · exact xa_weak (ls' := [some (xR v0), none]) ⟨rfl, trivial⟩ (g_X12_isOwnHere_J218 l G v0 r40.2)
  · exact xa_weak (ls' := [some (xR v0), none]) ⟨rfl, trivial⟩ (g_X12_isOwnHere_J218 l G v0 h)
theorem d_X12_isOwnHere_142 : decode mX12_isOwnHere.1 142 = .ok (.iconst 1, 1) ∧ 142 + 1 = 143 := ⟨by decide +kernel, rfl⟩
theorem d_X12_isOwnHere_143 : decode mX12_isOwnHere.1 143 = .ok (.goto 4, 3) ∧ ((143 : Nat) : Int) + 4 = ((147 : Nat) : Int) := ⟨by decide +kernel, rfl⟩
set_option maxRecDepth 100000 in
set_option maxHeartbeats 4000000 in
theorem g_X12_isOwnHere_J142 (l : Launch) (G : xa_C) : ∀ (v0 : Int) (h : xa_H) , xa_G l G 4 mX12_isOwnHere (f_X12_isOwnHere_J142 v0 h) (fun r => some (some (xI r.1), r.2) : (Int × xa_H) → Option xa_O) 142 [some (xR v0), none] [] h := by
  intro v0 h
  unfold f_X12_isOwnHere_J142
  refine xa_step (xa_iconst d_X12_isOwnHere_142 xq_i_1) ?_
  refine xa_step (xa_goto d_X12_isOwnHere_143) ?_
  exact xa_weak (ls' := [some (xR v0), none]) ⟨rfl, trivial⟩ (g_X12_isOwnHere_J147 l G v0 1 h)
set_option maxRecDepth 100000 in
set_option maxHeartbeats 4000000 in
theorem g_X12_isOwnHere_J71 (l : Launch) (G : xa_C) : ∀ (v0 s0 : Int) (h : xa_H) , xa_G l G 4 mX12_isOwnHere (f_X12_isOwnHere_J71 v0 s0 h) (fun r => some (some (xI r.1), r.2) : (Int × xa_H) → Option xa_O) 71 [some (xR v0), none] [xI s0] h := by
  intro v0 s0 h
  unfold f_X12_isOwnHere_J71
  refine xa_step (xa_istore_n (ls' := [some (xR v0), some (xI s0)]) d_X12_isOwnHere_71 (by decide) rfl) ?_
  refine xa_step (xa_iload_n d_X12_isOwnHere_72 rfl) ?_
  refine xa_if (xa_ifne d_X12_isOwnHere_73) (fun q19 => ?_) (fun q19 => ?_)
  · refine xa_step (xa_aload_n d_X12_isOwnHere_76 rfl) ?_
    refine xa_step (xa_aload_n d_X12_isOwnHere_77 rfl) ?_
    refine xa_getf xR xc_12 (by decide) (fun _ => rfl) xw_1320 rfl d_X12_isOwnHere_78 (fun x20 _ => ?_)
    refine xa_callVI (as := [xR x20]) (st := []) (M' := mX12_isHere) (d' := 3) rfl xw_1662 xw_1664 xw_70 xw_1665 xw_177 xh_X12_isHere rfl ⟨Nat.le_of_ble_eq_true rfl, Nat.le_of_ble_eq_true rfl⟩ (Nat.le_of_ble_eq_true rfl) rfl d_X12_isOwnHere_81 (fun r hr => ct_X12_isHere l G v0 x20 h r hr) (fun r21 _ => ?_)
    refine xa_if (xa_ifne d_X12_isOwnHere_84) (fun q22 => ?_) (fun q22 => ?_)
    · refine xa_step (xa_aload_n d_X12_isOwnHere_87 rfl) ?_
      refine xa_step (xa_aload_n d_X12_isOwnHere_88 rfl) ?_
      refine xa_getf xR xc_12 (by decide) (fun _ => rfl) xw_1321 rfl d_X12_isOwnHere_89 (fun x23 _ => ?_)
      refine xa_callVI (as := [xR x23]) (st := []) (M' := mX12_isHere) (d' := 3) rfl xw_1662 xw_1664 xw_70 xw_1665 xw_177 xh_X12_isHere rfl ⟨Nat.le_of_ble_eq_true rfl, Nat.le_of_ble_eq_true rfl⟩ (Nat.le_of_ble_eq_true rfl) rfl d_X12_isOwnHere_92 (fun r hr => ct_X12_isHere l G v0 x23 r21.2 r hr) (fun r24 _ => ?_)
      refine xa_if (xa_ifne d_X12_isOwnHere_95) (fun q25 => ?_) (fun q25 => ?_)
      · refine xa_step (xa_aload_n d_X12_isOwnHere_98 rfl) ?_
        refine xa_step (xa_aload_n d_X12_isOwnHere_99 rfl) ?_
        refine xa_getf xR xc_12 (by decide) (fun _ => rfl) xw_1322 rfl d_X12_isOwnHere_100 (fun x26 _ => ?_)
        refine xa_callVI (as := [xR x26]) (st := []) (M' := mX12_isHere) (d' := 3) rfl xw_1662 xw_1664 xw_70 xw_1665 xw_177 xh_X12_isHere rfl ⟨Nat.le_of_ble_eq_true rfl, Nat.le_of_ble_eq_true rfl⟩ (Nat.le_of_ble_eq_true rfl) rfl d_X12_isOwnHere_103 (fun r hr => ct_X12_isHere l G v0 x26 r24.2 r hr) (fun r27 _ => ?_)
        refine xa_if (xa_ifne d_X12_isOwnHere_106) (fun q28 => ?_) (fun q28 => ?_)
        · refine xa_step (xa_aload_n d_X12_isOwnHere_109 rfl) ?_
          refine xa_step (xa_aload_n d_X12_isOwnHere_110 rfl) ?_
          refine xa_getf xR xc_12 (by decide) (fun _ => rfl) xw_1323 rfl d_X12_isOwnHere_111 (fun x29 _ => ?_)
          refine xa_callVI (as := [xR x29]) (st := []) (M' := mX12_isHere) (d' := 3) rfl xw_1662 xw_1664 xw_70 xw_1665 xw_177 xh_X12_isHere rfl ⟨Nat.le_of_ble_eq_true rfl, Nat.le_of_ble_eq_true rfl⟩ (Nat.le_of_ble_eq_true rfl) rfl d_X12_isOwnHere_114 (fun r hr => ct_X12_isHere l G v0 x29 r27.2 r hr) (fun r30 _ => ?_)
          refine xa_if (xa_ifne d_X12_isOwnHere_117) (fun q31 => ?_) (fun q31 => ?_)
          · refine xa_step (xa_aload_n d_X12_isOwnHere_120 rfl) ?_
            refine xa_step (xa_aload_n d_X12_isOwnHere_121 rfl) ?_
            refine xa_getf xR xc_12 (by decide) (fun _ => rfl) xw_1324 rfl d_X12_isOwnHere_122 (fun x32 _ => ?_)
            refine xa_callVI (as := [xR x32]) (st := []) (M' := mX12_isHere) (d' := 3) rfl xw_1662 xw_1664 xw_70 xw_1665 xw_177 xh_X12_isHere rfl ⟨Nat.le_of_ble_eq_true rfl, Nat.le_of_ble_eq_true rfl⟩ (Nat.le_of_ble_eq_true rfl) rfl d_X12_isOwnHere_125 (fun r hr => ct_X12_isHere l G v0 x32 r30.2 r hr) (fun r33 _ => ?_)
            refine xa_if (xa_ifne d_X12_isOwnHere_128) (fun q34 => ?_) (fun q34 => ?_)
            · refine xa_step (xa_aload_n d_X12_isOwnHere_131 rfl) ?_
              refine xa_step (xa_aload_n d_X12_isOwnHere_132 rfl) ?_
              refine xa_getf xR xc_12 (by decide) (fun _ => rfl) xw_1325 rfl d_X12_isOwnHere_133 (fun x35 _ => ?_)
              refine xa_callVI (as := [xR x35]) (st := []) (M' := mX12_isHere) (d' := 3) rfl xw_1662 xw_1664 xw_70 xw_1665 xw_177 xh_X12_isHere rfl ⟨Nat.le_of_ble_eq_true rfl, Nat.le_of_ble_eq_true rfl⟩ (Nat.le_of_ble_eq_true rfl) rfl d_X12_isOwnHere_136 (fun r hr => ct_X12_isHere l G v0 x35 r33.2 r hr) (fun r36 _ => ?_)
              refine xa_if (xa_ifeq d_X12_isOwnHere_139) (fun q37 => ?_) (fun q37 => ?_)
              · refine xa_step (xa_iconst d_X12_isOwnHere_146 xq_i_0) ?_
                exact xa_weak (ls' := [some (xR v0), none]) ⟨rfl, trivial⟩ (g_X12_isOwnHere_J147 l G v0 0 r36.2)
              · exact xa_weak (ls' := [some (xR v0), none]) ⟨rfl, trivial⟩ (g_X12_isOwnHere_J142 l G v0 r36.2)
            · exact xa_weak (ls' := [some (xR v0), none]) ⟨rfl, trivial⟩ (g_X12_isOwnHere_J142 l G v0 r33.2)
          · exact xa_weak (ls' := [some (xR v0), none]) ⟨rfl, trivial⟩ (g_X12_isOwnHere_J142 l G v0 r30.2)
        · exact xa_weak (ls' := [some (xR v0), none]) ⟨rfl, trivial⟩ (g_X12_isOwnHere_J142 l G v0 r27.2)
      · exact xa_weak (ls' := [some (xR v0), none]) ⟨rfl, trivial⟩ (g_X12_isOwnHere_J142 l G v0 r24.2)
    · exact xa_weak (ls' := [some (xR v0), none]) ⟨rfl, trivial⟩ (g_X12_isOwnHere_J142 l G v0 r21.2)
  · exact xa_weak (ls' := [some (xR v0), none]) ⟨rfl, trivial⟩ (g_X12_isOwnHere_J142 l G v0 h)
theorem d_X12_isOwnHere_66 : decode mX12_isOwnHere.1 66 = .ok (.iconst 1, 1) ∧ 66 + 1 = 67 := ⟨by decide +kernel, rfl⟩
theorem d_X12_isOwnHere_67 : decode mX12_isOwnHere.1 67 = .ok (.goto 4, 3) ∧ ((67 : Nat) : Int) + 4 = ((71 : Nat) : Int) := ⟨by decide +kernel, rfl⟩
set_option maxRecDepth 100000 in
set_option maxHeartbeats 4000000 in
theorem g_X12_isOwnHere_J66 (l : Launch) (G : xa_C) : ∀ (v0 : Int) (h : xa_H) , xa_G l G 4 mX12_isOwnHere (f_X12_isOwnHere_J66 v0 h) (fun r => some (some (xI r.1), r.2) : (Int × xa_H) → Option xa_O) 66 [some (xR v0), none] [] h := by
  intro v0 h
  unfold f_X12_isOwnHere_J66
  refine xa_step (xa_iconst d_X12_isOwnHere_66 xq_i_1) ?_
  refine xa_step (xa_goto d_X12_isOwnHere_67) ?_
  exact xa_weak (ls' := [some (xR v0), none]) ⟨rfl, trivial⟩ (g_X12_isOwnHere_J71 l G v0 1 h)
set_option maxRecDepth 100000 in
set_option maxHeartbeats 4000000 in
theorem g_X12_isOwnHere (l : Launch) (G : xa_C) (v0 : Int) (h : xa_H) : xa_G l G 4 mX12_isOwnHere (f_X12_isOwnHere v0 h) (fun r => some (some (xI r.1), r.2) : (Int × xa_H) → Option xa_O) 0 [some (xR v0), none] [] h := by
  unfold f_X12_isOwnHere
  refine xa_step (xa_aload_n d_X12_isOwnHere_0 rfl) ?_
  refine xa_step (xa_aload_n d_X12_isOwnHere_1 rfl) ?_
  refine xa_getf xR xc_12 (by decide) (fun _ => rfl) xw_1314 rfl d_X12_isOwnHere_2 (fun x1 _ => ?_)
  refine xa_callVI (as := [xR x1]) (st := []) (M' := mX12_isHere) (d' := 3) rfl xw_1662 xw_1664 xw_70 xw_1665 xw_177 xh_X12_isHere rfl ⟨Nat.le_of_ble_eq_true rfl, Nat.le_of_ble_eq_true rfl⟩ (Nat.le_of_ble_eq_true rfl) rfl d_X12_isOwnHere_5 (fun r hr => ct_X12_isHere l G v0 x1 h r hr) (fun r2 _ => ?_)
  refine xa_if (xa_ifne d_X12_isOwnHere_8) (fun q3 => ?_) (fun q3 => ?_)
  · refine xa_step (xa_aload_n d_X12_isOwnHere_11 rfl) ?_
    refine xa_step (xa_aload_n d_X12_isOwnHere_12 rfl) ?_
    refine xa_getf xR xc_12 (by decide) (fun _ => rfl) xw_1315 rfl d_X12_isOwnHere_13 (fun x4 _ => ?_)
    refine xa_callVI (as := [xR x4]) (st := []) (M' := mX12_isHere) (d' := 3) rfl xw_1662 xw_1664 xw_70 xw_1665 xw_177 xh_X12_isHere rfl ⟨Nat.le_of_ble_eq_true rfl, Nat.le_of_ble_eq_true rfl⟩ (Nat.le_of_ble_eq_true rfl) rfl d_X12_isOwnHere_16 (fun r hr => ct_X12_isHere l G v0 x4 r2.2 r hr) (fun r5 _ => ?_)
    refine xa_if (xa_ifne d_X12_isOwnHere_19) (fun q6 => ?_) (fun q6 => ?_)
    · refine xa_step (xa_aload_n d_X12_isOwnHere_22 rfl) ?_
      refine xa_step (xa_aload_n d_X12_isOwnHere_23 rfl) ?_
      refine xa_getf xR xc_12 (by decide) (fun _ => rfl) xw_1316 rfl d_X12_isOwnHere_24 (fun x7 _ => ?_)
      refine xa_callVI (as := [xR x7]) (st := []) (M' := mX12_isHere) (d' := 3) rfl xw_1662 xw_1664 xw_70 xw_1665 xw_177 xh_X12_isHere rfl ⟨Nat.le_of_ble_eq_true rfl, Nat.le_of_ble_eq_true rfl⟩ (Nat.le_of_ble_eq_true rfl) rfl d_X12_isOwnHere_27 (fun r hr => ct_X12_isHere l G v0 x7 r5.2 r hr) (fun r8 _ => ?_)
      refine xa_if (xa_ifne d_X12_isOwnHere_30) (fun q9 => ?_) (fun q9 => ?_)
      · refine xa_step (xa_aload_n d_X12_isOwnHere_33 rfl) ?_
        refine xa_step (xa_aload_n d_X12_isOwnHere_34 rfl) ?_
        refine xa_getf xR xc_12 (by decide) (fun _ => rfl) xw_1317 rfl d_X12_isOwnHere_35 (fun x10 _ => ?_)
        refine xa_callVI (as := [xR x10]) (st := []) (M' := mX12_isHere) (d' := 3) rfl xw_1662 xw_1664 xw_70 xw_1665 xw_177 xh_X12_isHere rfl ⟨Nat.le_of_ble_eq_true rfl, Nat.le_of_ble_eq_true rfl⟩ (Nat.le_of_ble_eq_true rfl) rfl d_X12_isOwnHere_38 (fun r hr => ct_X12_isHere l G v0 x10 r8.2 r hr) (fun r11 _ => ?_)
        refine xa_if (xa_ifne d_X12_isOwnHere_41) (fun q12 => ?_) (fun q12 => ?_)
        · refine xa_step (xa_aload_n d_X12_isOwnHere_44 rfl) ?_
          refine xa_step (xa_aload_n d_X12_isOwnHere_45 rfl) ?_
          refine xa_getf xR xc_12 (by decide) (fun _ => rfl) xw_1318 rfl d_X12_isOwnHere_46 (fun x13 _ => ?_)
          refine xa_callVI (as := [xR x13]) (st := []) (M' := mX12_isHere) (d' := 3) rfl xw_1662 xw_1664 xw_70 xw_1665 xw_177 xh_X12_isHere rfl ⟨Nat.le_of_ble_eq_true rfl, Nat.le_of_ble_eq_true rfl⟩ (Nat.le_of_ble_eq_true rfl) rfl d_X12_isOwnHere_49 (fun r hr => ct_X12_isHere l G v0 x13 r11.2 r hr) (fun r14 _ => ?_)
          refine xa_if (xa_ifne d_X12_isOwnHere_52) (fun q15 => ?_) (fun q15 => ?_)
          · refine xa_step (xa_aload_n d_X12_isOwnHere_55 rfl) ?_
            refine xa_step (xa_aload_n d_X12_isOwnHere_56 rfl) ?_
            refine xa_getf xR xc_12 (by decide) (fun _ => rfl) xw_1319 rfl d_X12_isOwnHere_57 (fun x16 _ => ?_)
            refine xa_callVI (as := [xR x16]) (st := []) (M' := mX12_isHere) (d' := 3) rfl xw_1662 xw_1664 xw_70 xw_1665 xw_177 xh_X12_isHere rfl ⟨Nat.le_of_ble_eq_true rfl, Nat.le_of_ble_eq_true rfl⟩ (Nat.le_of_ble_eq_true rfl) rfl d_X12_isOwnHere_60 (fun r hr => ct_X12_isHere l G v0 x16 r14.2 r hr) (fun r17 _ => ?_)
            refine xa_if (xa_ifeq d_X12_isOwnHere_63) (fun q18 => ?_) (fun q18 => ?_)
            · refine xa_step (xa_iconst d_X12_isOwnHere_70 xq_i_0) ?_
              exact xa_weak (ls' := [some (xR v0), none]) ⟨rfl, trivial⟩ (g_X12_isOwnHere_J71 l G v0 0 r17.2)
            · exact xa_weak (ls' := [some (xR v0), none]) ⟨rfl, trivial⟩ (g_X12_isOwnHere_J66 l G v0 r17.2)
          · exact xa_weak (ls' := [some (xR v0), none]) ⟨rfl, trivial⟩ (g_X12_isOwnHere_J66 l G v0 r14.2)
        · exact xa_weak (ls' := [some (xR v0), none]) ⟨rfl, trivial⟩ (g_X12_isOwnHere_J66 l G v0 r11.2)
      · exact xa_weak (ls' := [some (xR v0), none]) ⟨rfl, trivial⟩ (g_X12_isOwnHere_J66 l G v0 r8.2)
    · exact xa_weak (ls' := [some (xR v0), none]) ⟨rfl, trivial⟩ (g_X12_isOwnHere_J66 l G v0 r5.2)
  · exact xa_weak (ls' := [some (xR v0), none]) ⟨rfl, trivial⟩ (g_X12_isOwnHere_J66 l G v0 r2.2)
theorem ct_X12_isOwnHere (l : Launch) (G : xa_C) (v0 : Int) (h : xa_H) (r : Int × xa_H) (hr : f_X12_isOwnHere v0 h = some r) : xa_CT l G 4 mX12_isOwnHere yX12_isOwnHere [xR v0] h (some (xI r.1), r.2) :=
  xa_met (by decide +kernel) rfl (fun q => by first | rfl | cases q) (Nat.le_of_ble_eq_true rfl) rfl (g_X12_isOwnHere l G v0 h) (by rw [hr]; rfl)
abbrev mX12_name : xa_M := (cX12_name, 3, (some (.long)), RX12, false)
theorem d_X12_name_0 : decode mX12_name.1 0 = .ok (.aload_n 0, 1) ∧ 0 + 1 = 1 := ⟨by decide +kernel, rfl⟩
theorem d_X12_name_1 : decode mX12_name.1 1 = .ok (.getfield 249, 3) ∧ 1 + 3 = 4 := ⟨by decide +kernel, rfl⟩
theorem d_X12_name_4 : decode mX12_name.1 4 = .ok (.ifCond .eq 5, 3) ∧ 4 + 3 = 7 ∧ ((4 : Nat) : Int) + 5 = ((9 : Nat) : Int) := ⟨by decide +kernel, rfl, rfl⟩
theorem d_X12_name_9 : decode mX12_name.1 9 = .ok (.aload_n 0, 1) ∧ 9 + 1 = 10 := ⟨by decide +kernel, rfl⟩
theorem d_X12_name_10 : decode mX12_name.1 10 = .ok (.invokevirtual 261, 3) ∧ 10 + 3 = 13 := ⟨by decide +kernel, rfl⟩
theorem d_X12_name_13 : decode mX12_name.1 13 = .ok (.invokestatic 265, 3) ∧ 13 + 3 = 16 := ⟨by decide +kernel, rfl⟩
theorem d_X12_name_16 : decode mX12_name.1 16 = .ok (.ifCond .eq 21, 3) ∧ 16 + 3 = 19 ∧ ((16 : Nat) : Int) + 21 = ((37 : Nat) : Int) := ⟨by decide +kernel, rfl, rfl⟩
theorem d_X12_name_37 : decode mX12_name.1 37 = .ok (.aload_n 0, 1) ∧ 37 + 1 = 38 := ⟨by decide +kernel, rfl⟩
theorem d_X12_name_38 : decode mX12_name.1 38 = .ok (.iconst 1, 1) ∧ 38 + 1 = 39 := ⟨by decide +kernel, rfl⟩
theorem d_X12_name_39 : decode mX12_name.1 39 = .ok (.aload_n 0, 1) ∧ 39 + 1 = 40 := ⟨by decide +kernel, rfl⟩
theorem d_X12_name_40 : decode mX12_name.1 40 = .ok (.getfield 255, 3) ∧ 40 + 3 = 43 := ⟨by decide +kernel, rfl⟩
theorem d_X12_name_43 : decode mX12_name.1 43 = .ok (.invokevirtual 279, 3) ∧ 43 + 3 = 46 := ⟨by decide +kernel, rfl⟩
theorem d_X12_name_46 : decode mX12_name.1 46 = .ok (.lconst 0, 1) ∧ 46 + 1 = 47 := ⟨by decide +kernel, rfl⟩
theorem d_X12_name_47 : decode mX12_name.1 47 = .ok (.lreturn, 1) := by decide +kernel
set_option maxRecDepth 100000 in
set_option maxHeartbeats 4000000 in
theorem g_X12_name_J37 (l : Launch) (G : xa_C) : ∀ (v0 : Int) (h : xa_H) , xa_G l G 5 mX12_name (f_X12_name_J37 v0 h) (fun r => some (some (xL r.1), r.2) : (Int × xa_H) → Option xa_O) 37 [some (xR v0), none, none] [] h := by
  intro v0 h
  unfold f_X12_name_J37
  refine xa_step (xa_aload_n d_X12_name_37 rfl) ?_
  refine xa_step (xa_iconst d_X12_name_38 xq_i_1) ?_
  refine xa_step (xa_aload_n d_X12_name_39 rfl) ?_
  refine xa_getf xI xc_12 (by decide) (fun _ => rfl) xw_1306 rfl d_X12_name_40 (fun x6 _ => ?_)
  refine xa_callVV (as := [xI 1, xI x6]) (st := []) (M' := mX12_fail) (d' := 2) rfl xw_1654 xw_1656 xw_68 xw_1657 xw_177 xh_X12_fail rfl ⟨Nat.le_of_ble_eq_true rfl, Nat.le_of_ble_eq_true rfl⟩ (Nat.le_of_ble_eq_true rfl) rfl d_X12_name_43 (fun r hr => ct_X12_fail l G v0 1 x6 h r hr) (fun r7 _ => ?_)
  refine xa_step (xa_lconst d_X12_name_46 rfl) ?_
  exact xa_lret d_X12_name_47 rfl rfl
theorem d_X12_name_19 : decode mX12_name.1 19 = .ok (.aload_n 0, 1) ∧ 19 + 1 = 20 := ⟨by decide +kernel, rfl⟩
theorem d_X12_name_20 : decode mX12_name.1 20 = .ok (.getfield 255, 3) ∧ 20 + 3 = 23 := ⟨by decide +kernel, rfl⟩
theorem d_X12_name_23 : decode mX12_name.1 23 = .ok (.aload_n 0, 1) ∧ 23 + 1 = 24 := ⟨by decide +kernel, rfl⟩
theorem d_X12_name_24 : decode mX12_name.1 24 = .ok (.getfield 269, 3) ∧ 24 + 3 = 27 := ⟨by decide +kernel, rfl⟩
theorem d_X12_name_27 : decode mX12_name.1 27 = .ok (.if_icmp .eq 10, 3) ∧ 27 + 3 = 30 ∧ ((27 : Nat) : Int) + 10 = ((37 : Nat) : Int) := ⟨by decide +kernel, rfl, rfl⟩
theorem d_X12_name_30 : decode mX12_name.1 30 = .ok (.aload_n 0, 1) ∧ 30 + 1 = 31 := ⟨by decide +kernel, rfl⟩
theorem d_X12_name_31 : decode mX12_name.1 31 = .ok (.invokevirtual 293, 3) ∧ 31 + 3 = 34 := ⟨by decide +kernel, rfl⟩
theorem d_X12_name_34 : decode mX12_name.1 34 = .ok (.ifCond .eq 14, 3) ∧ 34 + 3 = 37 ∧ ((34 : Nat) : Int) + 14 = ((48 : Nat) : Int) := ⟨by decide +kernel, rfl, rfl⟩
theorem d_X12_name_48 : decode mX12_name.1 48 = .ok (.aload_n 0, 1) ∧ 48 + 1 = 49 := ⟨by decide +kernel, rfl⟩
theorem d_X12_name_49 : decode mX12_name.1 49 = .ok (.aload_n 0, 1) ∧ 49 + 1 = 50 := ⟨by decide +kernel, rfl⟩
theorem d_X12_name_50 : decode mX12_name.1 50 = .ok (.getfield 255, 3) ∧ 50 + 3 = 53 := ⟨by decide +kernel, rfl⟩
theorem d_X12_name_53 : decode mX12_name.1 53 = .ok (.putfield 297, 3) ∧ 53 + 3 = 56 := ⟨by decide +kernel, rfl⟩
theorem d_X12_name_56 : decode mX12_name.1 56 = .ok (.lconst 0, 1) ∧ 56 + 1 = 57 := ⟨by decide +kernel, rfl⟩
theorem d_X12_name_57 : decode mX12_name.1 57 = .ok (.lstore_n 1, 1) ∧ 57 + 1 = 58 := ⟨by decide +kernel, rfl⟩
theorem d_X12_name_58 : decode mX12_name.1 58 = .ok (.aload_n 0, 1) ∧ 58 + 1 = 59 := ⟨by decide +kernel, rfl⟩
theorem d_X12_name_59 : decode mX12_name.1 59 = .ok (.getfield 255, 3) ∧ 59 + 3 = 62 := ⟨by decide +kernel, rfl⟩
theorem d_X12_name_62 : decode mX12_name.1 62 = .ok (.aload_n 0, 1) ∧ 62 + 1 = 63 := ⟨by decide +kernel, rfl⟩
theorem d_X12_name_63 : decode mX12_name.1 63 = .ok (.getfield 258, 3) ∧ 63 + 3 = 66 := ⟨by decide +kernel, rfl⟩
theorem d_X12_name_66 : decode mX12_name.1 66 = .ok (.if_icmp .ge 79, 3) ∧ 66 + 3 = 69 ∧ ((66 : Nat) : Int) + 79 = ((145 : Nat) : Int) := ⟨by decide +kernel, rfl, rfl⟩
theorem d_X12_name_69 : decode mX12_name.1 69 = .ok (.aload_n 0, 1) ∧ 69 + 1 = 70 := ⟨by decide +kernel, rfl⟩
theorem d_X12_name_70 : decode mX12_name.1 70 = .ok (.getfield 7, 3) ∧ 70 + 3 = 73 := ⟨by decide +kernel, rfl⟩
theorem d_X12_name_73 : decode mX12_name.1 73 = .ok (.aload_n 0, 1) ∧ 73 + 1 = 74 := ⟨by decide +kernel, rfl⟩
theorem d_X12_name_74 : decode mX12_name.1 74 = .ok (.getfield 255, 3) ∧ 74 + 3 = 77 := ⟨by decide +kernel, rfl⟩
theorem d_X12_name_77 : decode mX12_name.1 77 = .ok (.iaload, 1) ∧ 77 + 1 = 78 := ⟨by decide +kernel, rfl⟩
theorem d_X12_name_78 : decode mX12_name.1 78 = .ok (.invokestatic 265, 3) ∧ 78 + 3 = 81 := ⟨by decide +kernel, rfl⟩
theorem d_X12_name_81 : decode mX12_name.1 81 = .ok (.ifCond .eq 64, 3) ∧ 81 + 3 = 84 ∧ ((81 : Nat) : Int) + 64 = ((145 : Nat) : Int) := ⟨by decide +kernel, rfl, rfl⟩
theorem d_X12_name_84 : decode mX12_name.1 84 = .ok (.aload_n 0, 1) ∧ 84 + 1 = 85 := ⟨by decide +kernel, rfl⟩
theorem d_X12_name_85 : decode mX12_name.1 85 = .ok (.getfield 255, 3) ∧ 85 + 3 = 88 := ⟨by decide +kernel, rfl⟩
theorem d_X12_name_88 : decode mX12_name.1 88 = .ok (.aload_n 0, 1) ∧ 88 + 1 = 89 := ⟨by decide +kernel, rfl⟩
theorem d_X12_name_89 : decode mX12_name.1 89 = .ok (.getfield 297, 3) ∧ 89 + 3 = 92 := ⟨by decide +kernel, rfl⟩
theorem d_X12_name_92 : decode mX12_name.1 92 = .ok (.isub, 1) ∧ 92 + 1 = 93 := ⟨by decide +kernel, rfl⟩
theorem d_X12_name_93 : decode mX12_name.1 93 = .ok (.bipush 6, 2) ∧ 93 + 2 = 95 := ⟨by decide +kernel, rfl⟩
theorem d_X12_name_95 : decode mX12_name.1 95 = .ok (.if_icmp .ne 14, 3) ∧ 95 + 3 = 98 ∧ ((95 : Nat) : Int) + 14 = ((109 : Nat) : Int) := ⟨by decide +kernel, rfl, rfl⟩
theorem d_X12_name_98 : decode mX12_name.1 98 = .ok (.aload_n 0, 1) ∧ 98 + 1 = 99 := ⟨by decide +kernel, rfl⟩
theorem d_X12_name_99 : decode mX12_name.1 99 = .ok (.iconst 1, 1) ∧ 99 + 1 = 100 := ⟨by decide +kernel, rfl⟩
theorem d_X12_name_100 : decode mX12_name.1 100 = .ok (.aload_n 0, 1) ∧ 100 + 1 = 101 := ⟨by decide +kernel, rfl⟩
theorem d_X12_name_101 : decode mX12_name.1 101 = .ok (.getfield 255, 3) ∧ 101 + 3 = 104 := ⟨by decide +kernel, rfl⟩
theorem d_X12_name_104 : decode mX12_name.1 104 = .ok (.invokevirtual 279, 3) ∧ 104 + 3 = 107 := ⟨by decide +kernel, rfl⟩
theorem d_X12_name_107 : decode mX12_name.1 107 = .ok (.lconst 0, 1) ∧ 107 + 1 = 108 := ⟨by decide +kernel, rfl⟩
theorem d_X12_name_108 : decode mX12_name.1 108 = .ok (.lreturn, 1) := by decide +kernel
theorem d_X12_name_109 : decode mX12_name.1 109 = .ok (.ldc2_w 300, 3) ∧ 109 + 3 = 112 := ⟨by decide +kernel, rfl⟩
theorem d_X12_name_112 : decode mX12_name.1 112 = .ok (.lload_n 1, 1) ∧ 112 + 1 = 113 := ⟨by decide +kernel, rfl⟩
theorem d_X12_name_113 : decode mX12_name.1 113 = .ok (.lmul, 1) ∧ 113 + 1 = 114 := ⟨by decide +kernel, rfl⟩
theorem d_X12_name_114 : decode mX12_name.1 114 = .ok (.aload_n 0, 1) ∧ 114 + 1 = 115 := ⟨by decide +kernel, rfl⟩
theorem d_X12_name_115 : decode mX12_name.1 115 = .ok (.getfield 7, 3) ∧ 115 + 3 = 118 := ⟨by decide +kernel, rfl⟩
theorem d_X12_name_118 : decode mX12_name.1 118 = .ok (.aload_n 0, 1) ∧ 118 + 1 = 119 := ⟨by decide +kernel, rfl⟩
theorem d_X12_name_119 : decode mX12_name.1 119 = .ok (.getfield 255, 3) ∧ 119 + 3 = 122 := ⟨by decide +kernel, rfl⟩
theorem d_X12_name_122 : decode mX12_name.1 122 = .ok (.iaload, 1) ∧ 122 + 1 = 123 := ⟨by decide +kernel, rfl⟩
theorem d_X12_name_123 : decode mX12_name.1 123 = .ok (.i2l, 1) ∧ 123 + 1 = 124 := ⟨by decide +kernel, rfl⟩
theorem d_X12_name_124 : decode mX12_name.1 124 = .ok (.ladd, 1) ∧ 124 + 1 = 125 := ⟨by decide +kernel, rfl⟩
theorem d_X12_name_125 : decode mX12_name.1 125 = .ok (.ldc2_w 302, 3) ∧ 125 + 3 = 128 := ⟨by decide +kernel, rfl⟩
theorem d_X12_name_128 : decode mX12_name.1 128 = .ok (.lsub, 1) ∧ 128 + 1 = 129 := ⟨by decide +kernel, rfl⟩
theorem d_X12_name_129 : decode mX12_name.1 129 = .ok (.lconst 1, 1) ∧ 129 + 1 = 130 := ⟨by decide +kernel, rfl⟩
theorem d_X12_name_130 : decode mX12_name.1 130 = .ok (.ladd, 1) ∧ 130 + 1 = 131 := ⟨by decide +kernel, rfl⟩
theorem d_X12_name_131 : decode mX12_name.1 131 = .ok (.lstore_n 1, 1) ∧ 131 + 1 = 132 := ⟨by decide +kernel, rfl⟩
theorem d_X12_name_132 : decode mX12_name.1 132 = .ok (.aload_n 0, 1) ∧ 132 + 1 = 133 := ⟨by decide +kernel, rfl⟩
theorem d_X12_name_133 : decode mX12_name.1 133 = .ok (.dup, 1) ∧ 133 + 1 = 134 := ⟨by decide +kernel, rfl⟩
theorem d_X12_name_134 : decode mX12_name.1 134 = .ok (.getfield 255, 3) ∧ 134 + 3 = 137 := ⟨by decide +kernel, rfl⟩
theorem d_X12_name_137 : decode mX12_name.1 137 = .ok (.iconst 1, 1) ∧ 137 + 1 = 138 := ⟨by decide +kernel, rfl⟩
theorem d_X12_name_138 : decode mX12_name.1 138 = .ok (.iadd, 1) ∧ 138 + 1 = 139 := ⟨by decide +kernel, rfl⟩
theorem d_X12_name_139 : decode mX12_name.1 139 = .ok (.putfield 255, 3) ∧ 139 + 3 = 142 := ⟨by decide +kernel, rfl⟩
theorem d_X12_name_142 : decode mX12_name.1 142 = .ok (.goto (-84), 3) ∧ ((142 : Nat) : Int) + (-84) = ((58 : Nat) : Int) := ⟨by decide +kernel, rfl⟩
set_option maxRecDepth 100000 in
set_option maxHeartbeats 4000000 in
theorem g_X12_name_L58 (l : Launch) (G : xa_C) (c0 : Int) (K : (Int × xa_H) ⊕ ((Int × xa_H) ⊕ (Int × xa_H)) → Option xa_O) (hb : ∀ (v1 : Int) (h : xa_H), xa_G l G 5 mX12_name (some (Sum.inl ((v1, h)))) K 58 [some (xR c0), some (xL v1), none] [] h) (hr : ∀ r : Int × xa_H, K (Sum.inr (Sum.inl r)) = some (some (xL r.1), r.2)) (hx : ∀ (v1 : Int) (h : xa_H), xa_G l G 5 mX12_name (some (Sum.inr (Sum.inr ((v1, h))))) K 145 [some (xR c0), some (xL v1), none] [] h) : ∀ (v1 : Int) (h : xa_H), xa_G l G 5 mX12_name (f_X12_name_L58 c0 v1 h) K 58 [some (xR c0), some (xL v1), none] [] h := by
  intro v1 h
  unfold f_X12_name_L58
  refine xa_step (xa_aload_n d_X12_name_58 rfl) ?_
  refine xa_getf xI xc_12 (by decide) (fun _ => rfl) xw_1306 rfl d_X12_name_59 (fun x15 _ => ?_)
  refine xa_step (xa_aload_n d_X12_name_62 rfl) ?_
  refine xa_getf xI xc_12 (by decide) (fun _ => rfl) xw_1307 rfl d_X12_name_63 (fun x16 _ => ?_)
  refine xa_if (xa_icmpge d_X12_name_66) (fun q17 => ?_) (fun q17 => ?_)
  · refine xa_step (xa_aload_n d_X12_name_69 rfl) ?_
    refine xa_getf xR xc_12 (by decide) (fun _ => rfl) xw_1304 rfl d_X12_name_70 (fun x18 _ => ?_)
    refine xa_step (xa_aload_n d_X12_name_73 rfl) ?_
    refine xa_getf xI xc_12 (by decide) (fun _ => rfl) xw_1306 rfl d_X12_name_74 (fun x19 _ => ?_)
    refine xa_iaload d_X12_name_77 (fun x20 _ => ?_)
    refine xa_callSi (as := [xI x20]) (st := []) (M' := mX12_isLetter) (d' := 2) xw_1666 xw_1667 xw_1668 xw_177 xh_X12_isLetter rfl ⟨Nat.le_of_ble_eq_true rfl, Nat.le_of_ble_eq_true rfl⟩ (Nat.le_of_ble_eq_true rfl) rfl d_X12_name_78 (fun r hr => ct_X12_isLetter l G x20 h r hr) (fun r21 _ => ?_)
    refine xa_if (xa_ifeq d_X12_name_81) (fun q22 => ?_) (fun q22 => ?_)
    · exact xa_weak (ls' := [some (xR c0), some (xL v1), none]) ⟨rfl, rfl, trivial⟩ (hx v1 h)
    · refine xa_step (xa_aload_n d_X12_name_84 rfl) ?_
      refine xa_getf xI xc_12 (by decide) (fun _ => rfl) xw_1306 rfl d_X12_name_85 (fun x23 _ => ?_)
      refine xa_step (xa_aload_n d_X12_name_88 rfl) ?_
      refine xa_getf xI xc_12 (by decide) (fun _ => rfl) xw_1337 rfl d_X12_name_89 (fun x24 _ => ?_)
      refine xa_step (xa_isub d_X12_name_92) ?_
      refine xa_step (xa_bipush d_X12_name_93 xq_b_6) ?_
      refine xa_if (xa_icmpne d_X12_name_95) (fun q25 => ?_) (fun q25 => ?_)
      · refine xa_step (xa_aload_n d_X12_name_98 rfl) ?_
        refine xa_step (xa_iconst d_X12_name_99 xq_i_1) ?_
        refine xa_step (xa_aload_n d_X12_name_100 rfl) ?_
        refine xa_getf xI xc_12 (by decide) (fun _ => rfl) xw_1306 rfl d_X12_name_101 (fun x26 _ => ?_)
        refine xa_callVV (as := [xI 1, xI x26]) (st := []) (M' := mX12_fail) (d' := 2) rfl xw_1654 xw_1656 xw_68 xw_1657 xw_177 xh_X12_fail rfl ⟨Nat.le_of_ble_eq_true rfl, Nat.le_of_ble_eq_true rfl⟩ (Nat.le_of_ble_eq_true rfl) rfl d_X12_name_104 (fun r hr => ct_X12_fail l G c0 1 x26 h r hr) (fun r27 _ => ?_)
        refine xa_step (xa_lconst d_X12_name_107 rfl) ?_
        exact xa_lret d_X12_name_108 rfl (hr _)
      · refine xa_step (xa_ldc2 (c64 := 27) (v := 27) (by decide +kernel) xw_1689 d_X12_name_109) ?_
        refine xa_step (xa_lload_n d_X12_name_112 rfl) ?_
        refine xa_step (xa_lmul d_X12_name_113) ?_
        refine xa_step (xa_aload_n d_X12_name_114 rfl) ?_
        refine xa_getf xR xc_12 (by decide) (fun _ => rfl) xw_1304 rfl d_X12_name_115 (fun x28 _ => ?_)
        refine xa_step (xa_aload_n d_X12_name_118 rfl) ?_
        refine xa_getf xI xc_12 (by decide) (fun _ => rfl) xw_1306 rfl d_X12_name_119 (fun x29 _ => ?_)
        refine xa_iaload d_X12_name_122 (fun x30 _ => ?_)
        refine xa_step (xa_i2l d_X12_name_123) ?_
        refine xa_step (xa_ladd d_X12_name_124) ?_
        refine xa_step (xa_ldc2 (c64 := 97) (v := 97) (by decide +kernel) xw_1690 d_X12_name_125) ?_
        refine xa_step (xa_lsub d_X12_name_128) ?_
        refine xa_step (xa_lconst d_X12_name_129 rfl) ?_
        refine xa_step (xa_ladd d_X12_name_130) ?_
        refine xa_step (xa_lstore_n (ls' := [some (xR c0), some (xL (w64 ((w64 ((w64 ((w64 (27 * v1)) + x30)) - 97)) + 1))), none]) d_X12_name_131 (by decide) rfl) ?_
        refine xa_step (xa_aload_n d_X12_name_132 rfl) ?_
        refine xa_step (xa_dup d_X12_name_133 (xa_tR _)) ?_
        refine xa_getf xI xc_12 (by decide) (fun _ => rfl) xw_1306 rfl d_X12_name_134 (fun x31 _ => ?_)
        refine xa_step (xa_iconst d_X12_name_137 xq_i_1) ?_
        refine xa_step (xa_iadd d_X12_name_138) ?_
        refine xa_putf2 (tg := xI) xc_12 (by decide) (fun _ => rfl) rfl (fun c hc => xa_fitI c hc) xw_1306 rfl d_X12_name_139 (fun h32 _ => ?_)
        refine xa_step (xa_goto d_X12_name_142) ?_
        exact xa_weak (ls' := [some (xR c0), some (xL (w64 ((w64 ((w64 ((w64 (27 * v1)) + x30)) - 97)) + 1))), none]) ⟨rfl, rfl, trivial⟩ (hb (w64 ((w64 ((w64 ((w64 (27 * v1)) + x30)) - 97)) + 1)) h32)
  · exact xa_weak (ls' := [some (xR c0), some (xL v1), none]) ⟨rfl, rfl, trivial⟩ (hx v1 h)
theorem d_X12_name_145 : decode mX12_name.1 145 = .ok (.aload_n 0, 1) ∧ 145 + 1 = 146 := ⟨by decide +kernel, rfl⟩
theorem d_X12_name_146 : decode mX12_name.1 146 = .ok (.aload_n 0, 1) ∧ 146 + 1 = 147 := ⟨by decide +kernel, rfl⟩
theorem d_X12_name_147 : decode mX12_name.1 147 = .ok (.getfield 255, 3) ∧ 147 + 3 = 150 := ⟨by decide +kernel, rfl⟩
theorem d_X12_name_150 : decode mX12_name.1 150 = .ok (.putfield 269, 3) ∧ 150 + 3 = 153 := ⟨by decide +kernel, rfl⟩
theorem d_X12_name_153 : decode mX12_name.1 153 = .ok (.lload_n 1, 1) ∧ 153 + 1 = 154 := ⟨by decide +kernel, rfl⟩
theorem d_X12_name_154 : decode mX12_name.1 154 = .ok (.lreturn, 1) := by decide +kernel
theorem d_X12_name_7 : decode mX12_name.1 7 = .ok (.lconst 0, 1) ∧ 7 + 1 = 8 := ⟨by decide +kernel, rfl⟩
theorem d_X12_name_8 : decode mX12_name.1 8 = .ok (.lreturn, 1) := by decide +kernel
set_option maxRecDepth 100000 in
set_option maxHeartbeats 4000000 in
theorem g_X12_name (l : Launch) (G : xa_C) (v0 : Int) (h : xa_H) : xa_G l G 5 mX12_name (f_X12_name v0 h) (fun r => some (some (xL r.1), r.2) : (Int × xa_H) → Option xa_O) 0 [some (xR v0), none, none] [] h := by
  unfold f_X12_name
  refine xa_step (xa_aload_n d_X12_name_0 rfl) ?_
  refine xa_getf xI xc_12 (by decide) (fun _ => rfl) xw_1309 rfl d_X12_name_1 (fun x1 _ => ?_)
  refine xa_if (xa_ifeq d_X12_name_4) (fun q2 => ?_) (fun q2 => ?_)
  · refine xa_step (xa_aload_n d_X12_name_9 rfl) ?_
    refine xa_callVI (as := []) (st := []) (M' := mX12_look) (d' := 2) rfl xw_1646 xw_1648 xw_66 xw_1649 xw_177 xh_X12_look rfl ⟨Nat.le_of_ble_eq_true rfl, Nat.le_of_ble_eq_true rfl⟩ (Nat.le_of_ble_eq_true rfl) rfl d_X12_name_10 (fun r hr => ct_X12_look l G v0 h r hr) (fun r3 _ => ?_)
    refine xa_callSi (as := [xI r3.1]) (st := []) (M' := mX12_isLetter) (d' := 2) xw_1666 xw_1667 xw_1668 xw_177 xh_X12_isLetter rfl ⟨Nat.le_of_ble_eq_true rfl, Nat.le_of_ble_eq_true rfl⟩ (Nat.le_of_ble_eq_true rfl) rfl d_X12_name_13 (fun r hr => ct_X12_isLetter l G r3.1 r3.2 r hr) (fun r4 _ => ?_)
    refine xa_if (xa_ifeq d_X12_name_16) (fun q5 => ?_) (fun q5 => ?_)
    · exact xa_weak (ls' := [some (xR v0), none, none]) ⟨rfl, trivial⟩ (g_X12_name_J37 l G v0 r3.2)
    · refine xa_step (xa_aload_n d_X12_name_19 rfl) ?_
      refine xa_getf xI xc_12 (by decide) (fun _ => rfl) xw_1306 rfl d_X12_name_20 (fun x8 _ => ?_)
      refine xa_step (xa_aload_n d_X12_name_23 rfl) ?_
      refine xa_getf xI xc_12 (by decide) (fun _ => rfl) xw_1308 rfl d_X12_name_24 (fun x9 _ => ?_)
      refine xa_if (xa_icmpeq d_X12_name_27) (fun q10 => ?_) (fun q10 => ?_)
      · exact xa_weak (ls' := [some (xR v0), none, none]) ⟨rfl, trivial⟩ (g_X12_name_J37 l G v0 r3.2)
      · refine xa_step (xa_aload_n d_X12_name_30 rfl) ?_
        refine xa_callVI (as := []) (st := []) (M' := mX12_isOwnHere) (d' := 4) rfl xw_1685 xw_1687 xw_75 xw_1688 xw_177 xh_X12_isOwnHere rfl ⟨Nat.le_of_ble_eq_true rfl, Nat.le_of_ble_eq_true rfl⟩ (Nat.le_of_ble_eq_true rfl) rfl d_X12_name_31 (fun r hr => ct_X12_isOwnHere l G v0 r3.2 r hr) (fun r11 _ => ?_)
        refine xa_if (xa_ifeq d_X12_name_34) (fun q12 => ?_) (fun q12 => ?_)
        · refine xa_step (xa_aload_n d_X12_name_48 rfl) ?_
          refine xa_step (xa_aload_n d_X12_name_49 rfl) ?_
          refine xa_getf xI xc_12 (by decide) (fun _ => rfl) xw_1306 rfl d_X12_name_50 (fun x13 _ => ?_)
          refine xa_putf2 (tg := xI) xc_12 (by decide) (fun _ => rfl) rfl (fun c hc => xa_fitI c hc) xw_1337 rfl d_X12_name_53 (fun h14 _ => ?_)
          refine xa_step (xa_lconst d_X12_name_56 rfl) ?_
          refine xa_step (xa_lstore_n (ls' := [some (xR v0), some (xL 0), none]) d_X12_name_57 (by decide) rfl) ?_
          refine xa_weak (ls' := [some (xR v0), some (xL 0), none]) ⟨rfl, rfl, trivial⟩ ?_
          refine xa_loop (f := fun s => f_X12_name_L58 v0 s.1 s.2) (L := fun s => [some (xR v0), some (xL s.1), none]) (P := fun s => s.2) (X := (fun e K => match e with | Sum.inl r => K (Sum.inr (Sum.inl r)) = some (some (xL r.1), r.2) | Sum.inr x => xa_G l G 5 mX12_name (some (Sum.inr (Sum.inr x))) K 145 [some (xR v0), some (xL x.1), none] [] x.2)) (fun K hb hX s => g_X12_name_L58 l G v0 K (fun w0 hh => hb ((w0, hh))) (fun r => hX (Sum.inl r)) (fun w0 hh => hX (Sum.inr ((w0, hh)))) s.1 s.2) ?_ xFU ((0, h14))
          rintro (r | y34) K hK
          · exact hK.trans rfl
          · refine xa_eqE hK ?_
            show xa_G l G 5 mX12_name _ _ 145 [some (xR v0), some (xL y34.1), none] [] y34.2
            refine xa_step (xa_aload_n d_X12_name_145 rfl) ?_
            refine xa_step (xa_aload_n d_X12_name_146 rfl) ?_
            refine xa_getf xI xc_12 (by decide) (fun _ => rfl) xw_1306 rfl d_X12_name_147 (fun x35 _ => ?_)
            refine xa_putf2 (tg := xI) xc_12 (by decide) (fun _ => rfl) rfl (fun c hc => xa_fitI c hc) xw_1308 rfl d_X12_name_150 (fun h36 _ => ?_)
            refine xa_step (xa_lload_n d_X12_name_153 rfl) ?_
            exact xa_lret d_X12_name_154 rfl rfl
        · exact xa_weak (ls' := [some (xR v0), none, none]) ⟨rfl, trivial⟩ (g_X12_name_J37 l G v0 r11.2)
  · refine xa_step (xa_lconst d_X12_name_7 rfl) ?_
    exact xa_lret d_X12_name_8 rfl rfl
theorem ct_X12_name (l : Launch) (G : xa_C) (v0 : Int) (h : xa_H) (r : Int × xa_H) (hr : f_X12_name v0 h = some r) : xa_CT l G 5 mX12_name yX12_name [xR v0] h (some (xL r.1), r.2) :=
  xa_met (by decide +kernel) rfl (fun q => by first | rfl | cases q) (Nat.le_of_ble_eq_true rfl) rfl (g_X12_name l G v0 h) (by rw [hr]; rfl)
abbrev mX12_nameOf : xa_M := (cX12_nameOf, 5, (some (.int)), RX12, false)
theorem d_X12_nameOf_0 : decode mX12_nameOf.1 0 = .ok (.iconst 0, 1) ∧ 0 + 1 = 1 := ⟨by decide +kernel, rfl⟩
theorem d_X12_nameOf_1 : decode mX12_nameOf.1 1 = .ok (.istore 4, 2) ∧ 1 + 2 = 3 := ⟨by decide +kernel, rfl⟩
theorem d_X12_nameOf_3 : decode mX12_nameOf.1 3 = .ok (.iload 4, 2) ∧ 3 + 2 = 5 := ⟨by decide +kernel, rfl⟩
theorem d_X12_nameOf_5 : decode mX12_nameOf.1 5 = .ok (.aload_n 0, 1) ∧ 5 + 1 = 6 := ⟨by decide +kernel, rfl⟩
theorem d_X12_nameOf_6 : decode mX12_nameOf.1 6 = .ok (.getfield 90, 3) ∧ 6 + 3 = 9 := ⟨by decide +kernel, rfl⟩
theorem d_X12_nameOf_9 : decode mX12_nameOf.1 9 = .ok (.iload_n 1, 1) ∧ 9 + 1 = 10 := ⟨by decide +kernel, rfl⟩
theorem d_X12_nameOf_10 : decode mX12_nameOf.1 10 = .ok (.iaload, 1) ∧ 10 + 1 = 11 := ⟨by decide +kernel, rfl⟩
theorem d_X12_nameOf_11 : decode mX12_nameOf.1 11 = .ok (.if_icmp .ge 29, 3) ∧ 11 + 3 = 14 ∧ ((11 : Nat) : Int) + 29 = ((40 : Nat) : Int) := ⟨by decide +kernel, rfl, rfl⟩
theorem d_X12_nameOf_14 : decode mX12_nameOf.1 14 = .ok (.aload_n 0, 1) ∧ 14 + 1 = 15 := ⟨by decide +kernel, rfl⟩
theorem d_X12_nameOf_15 : decode mX12_nameOf.1 15 = .ok (.getfield 93, 3) ∧ 15 + 3 = 18 := ⟨by decide +kernel, rfl⟩
theorem d_X12_nameOf_18 : decode mX12_nameOf.1 18 = .ok (.bipush 6, 2) ∧ 18 + 2 = 20 := ⟨by decide +kernel, rfl⟩
theorem d_X12_nameOf_20 : decode mX12_nameOf.1 20 = .ok (.iload_n 1, 1) ∧ 20 + 1 = 21 := ⟨by decide +kernel, rfl⟩
theorem d_X12_nameOf_21 : decode mX12_nameOf.1 21 = .ok (.imul, 1) ∧ 21 + 1 = 22 := ⟨by decide +kernel, rfl⟩
theorem d_X12_nameOf_22 : decode mX12_nameOf.1 22 = .ok (.iload 4, 2) ∧ 22 + 2 = 24 := ⟨by decide +kernel, rfl⟩
theorem d_X12_nameOf_24 : decode mX12_nameOf.1 24 = .ok (.iadd, 1) ∧ 24 + 1 = 25 := ⟨by decide +kernel, rfl⟩
theorem d_X12_nameOf_25 : decode mX12_nameOf.1 25 = .ok (.laload, 1) ∧ 25 + 1 = 26 := ⟨by decide +kernel, rfl⟩
theorem d_X12_nameOf_26 : decode mX12_nameOf.1 26 = .ok (.lload_n 2, 1) ∧ 26 + 1 = 27 := ⟨by decide +kernel, rfl⟩
theorem d_X12_nameOf_27 : decode mX12_nameOf.1 27 = .ok (.lcmp, 1) ∧ 27 + 1 = 28 := ⟨by decide +kernel, rfl⟩
theorem d_X12_nameOf_28 : decode mX12_nameOf.1 28 = .ok (.ifCond .ne 6, 3) ∧ 28 + 3 = 31 ∧ ((28 : Nat) : Int) + 6 = ((34 : Nat) : Int) := ⟨by decide +kernel, rfl, rfl⟩
theorem d_X12_nameOf_31 : decode mX12_nameOf.1 31 = .ok (.iload 4, 2) ∧ 31 + 2 = 33 := ⟨by decide +kernel, rfl⟩
theorem d_X12_nameOf_33 : decode mX12_nameOf.1 33 = .ok (.ireturn, 1) := by decide +kernel
theorem d_X12_nameOf_34 : decode mX12_nameOf.1 34 = .ok (.iinc 4 1, 3) ∧ 34 + 3 = 37 := ⟨by decide +kernel, rfl⟩
theorem d_X12_nameOf_37 : decode mX12_nameOf.1 37 = .ok (.goto (-34), 3) ∧ ((37 : Nat) : Int) + (-34) = ((3 : Nat) : Int) := ⟨by decide +kernel, rfl⟩
set_option maxRecDepth 100000 in
set_option maxHeartbeats 4000000 in
theorem g_X12_nameOf_L3 (l : Launch) (G : xa_C) (c0 c1 c2 : Int) (h : xa_H) (K : (Int) ⊕ ((Int) ⊕ (Unit)) → Option xa_O) (hb : ∀ (v4 : Int), xa_G l G 2 mX12_nameOf (some (Sum.inl v4)) K 3 [some (xR c0), some (xI c1), some (xL c2), none, some (xI v4)] [] h) (hr : ∀ r : Int, K (Sum.inr (Sum.inl r)) = some (some (xI r), h)) (hx : xa_G l G 2 mX12_nameOf (some (Sum.inr (Sum.inr (())))) K 40 [none, none, none, none, none] [] h) : ∀ (v4 : Int), xa_G l G 2 mX12_nameOf (f_X12_nameOf_L3 c0 c1 c2 h v4) K 3 [some (xR c0), some (xI c1), some (xL c2), none, some (xI v4)] [] h := by
  intro v4
  unfold f_X12_nameOf_L3
  refine xa_step (xa_iload d_X12_nameOf_3 rfl) ?_
  refine xa_step (xa_aload_n d_X12_nameOf_5 rfl) ?_
  refine xa_getf xR xc_12 (by decide) (fun _ => rfl) xw_1338 rfl d_X12_nameOf_6 (fun x1 _ => ?_)
  refine xa_step (xa_iload_n d_X12_nameOf_9 rfl) ?_
  refine xa_iaload d_X12_nameOf_10 (fun x2 _ => ?_)
  refine xa_if (xa_icmpge d_X12_nameOf_11) (fun q3 => ?_) (fun q3 => ?_)
  · refine xa_step (xa_aload_n d_X12_nameOf_14 rfl) ?_
    refine xa_getf xR xc_12 (by decide) (fun _ => rfl) xw_1339 rfl d_X12_nameOf_15 (fun x4 _ => ?_)
    refine xa_step (xa_bipush d_X12_nameOf_18 xq_b_6) ?_
    refine xa_step (xa_iload_n d_X12_nameOf_20 rfl) ?_
    refine xa_step (xa_imul d_X12_nameOf_21) ?_
    refine xa_step (xa_iload d_X12_nameOf_22 rfl) ?_
    refine xa_step (xa_iadd d_X12_nameOf_24) ?_
    refine xa_laload d_X12_nameOf_25 (fun x5 _ => ?_)
    refine xa_step (xa_lload_n d_X12_nameOf_26 rfl) ?_
    refine xa_step (xa_lcmp d_X12_nameOf_27) ?_
    refine xa_if (xa_ifne d_X12_nameOf_28) (fun q6 => ?_) (fun q6 => ?_)
    · refine xa_step (xa_iload d_X12_nameOf_31 rfl) ?_
      exact xa_iret d_X12_nameOf_33 rfl (hr _)
    · refine xa_step (xa_iinc (ls' := [some (xR c0), some (xI c1), some (xL c2), none, some (xI (w32 (v4 + 1)))]) d_X12_nameOf_34 xq_i_1 rfl (by decide) rfl) ?_
      refine xa_step (xa_goto d_X12_nameOf_37) ?_
      exact xa_weak (ls' := [some (xR c0), some (xI c1), some (xL c2), none, some (xI (w32 (v4 + 1)))]) ⟨rfl, rfl, rfl, rfl, trivial⟩ (hb (w32 (v4 + 1)))
  · exact xa_weak (ls' := [none, none, none, none, none]) trivial (hx )
theorem d_X12_nameOf_40 : decode mX12_nameOf.1 40 = .ok (.iconst (-1), 1) ∧ 40 + 1 = 41 := ⟨by decide +kernel, rfl⟩
theorem d_X12_nameOf_41 : decode mX12_nameOf.1 41 = .ok (.ireturn, 1) := by decide +kernel
set_option maxRecDepth 100000 in
set_option maxHeartbeats 4000000 in
theorem g_X12_nameOf (l : Launch) (G : xa_C) (v0 v1 v2 : Int) (h : xa_H) : xa_G l G 2 mX12_nameOf (f_X12_nameOf v0 v1 v2 h) (fun r => some (some (xI r), h) : Int → Option xa_O) 0 [some (xR v0), some (xI v1), some (xL v2), none, none] [] h := by
  unfold f_X12_nameOf
  refine xa_step (xa_iconst d_X12_nameOf_0 xq_i_0) ?_
  refine xa_step (xa_istore (ls' := [some (xR v0), some (xI v1), some (xL v2), none, some (xI 0)]) d_X12_nameOf_1 (by decide) rfl) ?_
  refine xa_weak (ls' := [some (xR v0), some (xI v1), some (xL v2), none, some (xI 0)]) ⟨rfl, rfl, rfl, rfl, trivial⟩ ?_
  refine xa_loop (f := fun s => f_X12_nameOf_L3 v0 v1 v2 h s) (L := fun s => [some (xR v0), some (xI v1), some (xL v2), none, some (xI s)]) (P := fun s => h) (X := (fun e K => match e with | Sum.inl r => K (Sum.inr (Sum.inl r)) = some (some (xI r), h) | Sum.inr x => xa_G l G 2 mX12_nameOf (some (Sum.inr (Sum.inr x))) K 40 [none, none, none, none, none] [] h)) (fun K hb hX s => g_X12_nameOf_L3 l G v0 v1 v2 h K (fun w0 => hb w0) (fun r => hX (Sum.inl r)) (hX (Sum.inr ())) s) ?_ xFU 0
  rintro (r | y8) K hK
  · exact hK.trans rfl
  · refine xa_eqE hK ?_
    show xa_G l G 2 mX12_nameOf _ _ 40 [none, none, none, none, none] [] h
    refine xa_step (xa_iconst d_X12_nameOf_40 xq_i_m1) ?_
    exact xa_iret d_X12_nameOf_41 rfl rfl
theorem ct_X12_nameOf (l : Launch) (G : xa_C) (v0 v1 v2 : Int) (h : xa_H) (r : Int) (hr : f_X12_nameOf v0 v1 v2 h = some r) : xa_CT l G 2 mX12_nameOf yX12_nameOf [xR v0, xI v1, xL v2] h (some (xI r), h) :=
  xa_met (by decide +kernel) rfl (fun q => by first | rfl | cases q) (Nat.le_of_ble_eq_true rfl) rfl (g_X12_nameOf l G v0 v1 v2 h) (by rw [hr]; rfl)
abbrev mX12_oneOf : xa_M := (cX12_oneOf, 5, (some (.int)), RX12, false)
theorem d_X12_oneOf_0 : decode mX12_oneOf.1 0 = .ok (.aload_n 0, 1) ∧ 0 + 1 = 1 := ⟨by decide +kernel, rfl⟩
theorem d_X12_oneOf_1 : decode mX12_oneOf.1 1 = .ok (.invokevirtual 308, 3) ∧ 1 + 3 = 4 := ⟨by decide +kernel, rfl⟩
theorem d_X12_oneOf_4 : decode mX12_oneOf.1 4 = .ok (.lstore_n 2, 1) ∧ 4 + 1 = 5 := ⟨by decide +kernel, rfl⟩
theorem d_X12_oneOf_5 : decode mX12_oneOf.1 5 = .ok (.aload_n 0, 1) ∧ 5 + 1 = 6 := ⟨by decide +kernel, rfl⟩
theorem d_X12_oneOf_6 : decode mX12_oneOf.1 6 = .ok (.iload_n 1, 1) ∧ 6 + 1 = 7 := ⟨by decide +kernel, rfl⟩
theorem d_X12_oneOf_7 : decode mX12_oneOf.1 7 = .ok (.lload_n 2, 1) ∧ 7 + 1 = 8 := ⟨by decide +kernel, rfl⟩
theorem d_X12_oneOf_8 : decode mX12_oneOf.1 8 = .ok (.invokevirtual 312, 3) ∧ 8 + 3 = 11 := ⟨by decide +kernel, rfl⟩
theorem d_X12_oneOf_11 : decode mX12_oneOf.1 11 = .ok (.istore 4, 2) ∧ 11 + 2 = 13 := ⟨by decide +kernel, rfl⟩
theorem d_X12_oneOf_13 : decode mX12_oneOf.1 13 = .ok (.aload_n 0, 1) ∧ 13 + 1 = 14 := ⟨by decide +kernel, rfl⟩
theorem d_X12_oneOf_14 : decode mX12_oneOf.1 14 = .ok (.getfield 249, 3) ∧ 14 + 3 = 17 := ⟨by decide +kernel, rfl⟩
theorem d_X12_oneOf_17 : decode mX12_oneOf.1 17 = .ok (.ifCond .ne 18, 3) ∧ 17 + 3 = 20 ∧ ((17 : Nat) : Int) + 18 = ((35 : Nat) : Int) := ⟨by decide +kernel, rfl, rfl⟩
theorem d_X12_oneOf_20 : decode mX12_oneOf.1 20 = .ok (.iload 4, 2) ∧ 20 + 2 = 22 := ⟨by decide +kernel, rfl⟩
theorem d_X12_oneOf_22 : decode mX12_oneOf.1 22 = .ok (.iconst (-1), 1) ∧ 22 + 1 = 23 := ⟨by decide +kernel, rfl⟩
theorem d_X12_oneOf_23 : decode mX12_oneOf.1 23 = .ok (.if_icmp .ne 12, 3) ∧ 23 + 3 = 26 ∧ ((23 : Nat) : Int) + 12 = ((35 : Nat) : Int) := ⟨by decide +kernel, rfl, rfl⟩
theorem d_X12_oneOf_26 : decode mX12_oneOf.1 26 = .ok (.aload_n 0, 1) ∧ 26 + 1 = 27 := ⟨by decide +kernel, rfl⟩
theorem d_X12_oneOf_27 : decode mX12_oneOf.1 27 = .ok (.iconst 3, 1) ∧ 27 + 1 = 28 := ⟨by decide +kernel, rfl⟩
theorem d_X12_oneOf_28 : decode mX12_oneOf.1 28 = .ok (.aload_n 0, 1) ∧ 28 + 1 = 29 := ⟨by decide +kernel, rfl⟩
theorem d_X12_oneOf_29 : decode mX12_oneOf.1 29 = .ok (.getfield 297, 3) ∧ 29 + 3 = 32 := ⟨by decide +kernel, rfl⟩
theorem d_X12_oneOf_32 : decode mX12_oneOf.1 32 = .ok (.invokevirtual 279, 3) ∧ 32 + 3 = 35 := ⟨by decide +kernel, rfl⟩
theorem d_X12_oneOf_35 : decode mX12_oneOf.1 35 = .ok (.aload_n 0, 1) ∧ 35 + 1 = 36 := ⟨by decide +kernel, rfl⟩
theorem d_X12_oneOf_36 : decode mX12_oneOf.1 36 = .ok (.getfield 249, 3) ∧ 36 + 3 = 39 := ⟨by decide +kernel, rfl⟩
theorem d_X12_oneOf_39 : decode mX12_oneOf.1 39 = .ok (.ifCond .ne 8, 3) ∧ 39 + 3 = 42 ∧ ((39 : Nat) : Int) + 8 = ((47 : Nat) : Int) := ⟨by decide +kernel, rfl, rfl⟩
theorem d_X12_oneOf_42 : decode mX12_oneOf.1 42 = .ok (.iload 4, 2) ∧ 42 + 2 = 44 := ⟨by decide +kernel, rfl⟩
theorem d_X12_oneOf_44 : decode mX12_oneOf.1 44 = .ok (.goto 4, 3) ∧ ((44 : Nat) : Int) + 4 = ((48 : Nat) : Int) := ⟨by decide +kernel, rfl⟩
theorem d_X12_oneOf_48 : decode mX12_oneOf.1 48 = .ok (.ireturn, 1) := by decide +kernel
theorem d_X12_oneOf_47 : decode mX12_oneOf.1 47 = .ok (.iconst 0, 1) ∧ 47 + 1 = 48 := ⟨by decide +kernel, rfl⟩
set_option maxRecDepth 100000 in
set_option maxHeartbeats 4000000 in
theorem g_X12_oneOf_J35 (l : Launch) (G : xa_C) : ∀ (v0 v4 : Int) (h : xa_H) , xa_G l G 6 mX12_oneOf (f_X12_oneOf_J35 v0 v4 h) (fun r => some (some (xI r.1), r.2) : (Int × xa_H) → Option xa_O) 35 [some (xR v0), none, none, none, some (xI v4)] [] h := by
  intro v0 v4 h
  unfold f_X12_oneOf_J35
  refine xa_step (xa_aload_n d_X12_oneOf_35 rfl) ?_
  refine xa_getf xI xc_12 (by decide) (fun _ => rfl) xw_1309 rfl d_X12_oneOf_36 (fun x8 _ => ?_)
  refine xa_if (xa_ifne d_X12_oneOf_39) (fun q9 => ?_) (fun q9 => ?_)
  · refine xa_step (xa_iload d_X12_oneOf_42 rfl) ?_
    refine xa_step (xa_goto d_X12_oneOf_44) ?_
    exact xa_iret d_X12_oneOf_48 rfl rfl
  · refine xa_step (xa_iconst d_X12_oneOf_47 xq_i_0) ?_
    exact xa_iret d_X12_oneOf_48 rfl rfl
set_option maxRecDepth 100000 in
set_option maxHeartbeats 4000000 in
theorem g_X12_oneOf (l : Launch) (G : xa_C) (v0 v1 : Int) (h : xa_H) : xa_G l G 6 mX12_oneOf (f_X12_oneOf v0 v1 h) (fun r => some (some (xI r.1), r.2) : (Int × xa_H) → Option xa_O) 0 [some (xR v0), some (xI v1), none, none, none] [] h := by
  unfold f_X12_oneOf
  refine xa_step (xa_aload_n d_X12_oneOf_0 rfl) ?_
  refine xa_callVL (as := []) (st := []) (M' := mX12_name) (d' := 5) rfl xw_1681 xw_1683 xw_74 xw_1684 xw_177 xh_X12_name rfl ⟨Nat.le_of_ble_eq_true rfl, Nat.le_of_ble_eq_true rfl⟩ (Nat.le_of_ble_eq_true rfl) rfl d_X12_oneOf_1 (fun r hr => ct_X12_name l G v0 h r hr) (fun r1 _ => ?_)
  refine xa_step (xa_lstore_n (ls' := [some (xR v0), some (xI v1), some (xL r1.1), none, none]) d_X12_oneOf_4 (by decide) rfl) ?_
  refine xa_step (xa_aload_n d_X12_oneOf_5 rfl) ?_
  refine xa_step (xa_iload_n d_X12_oneOf_6 rfl) ?_
  refine xa_step (xa_lload_n d_X12_oneOf_7 rfl) ?_
  refine xa_callVi (as := [xI v1, xL r1.1]) (st := []) (M' := mX12_nameOf) (d' := 2) rfl xw_1691 xw_1693 xw_76 xw_1694 xw_177 xh_X12_nameOf rfl ⟨Nat.le_of_ble_eq_true rfl, Nat.le_of_ble_eq_true rfl⟩ (Nat.le_of_ble_eq_true rfl) rfl d_X12_oneOf_8 (fun r hr => ct_X12_nameOf l G v0 v1 r1.1 r1.2 r hr) (fun r2 _ => ?_)
  refine xa_step (xa_istore (ls' := [some (xR v0), some (xI v1), some (xL r1.1), none, some (xI r2)]) d_X12_oneOf_11 (by decide) rfl) ?_
  refine xa_step (xa_aload_n d_X12_oneOf_13 rfl) ?_
  refine xa_getf xI xc_12 (by decide) (fun _ => rfl) xw_1309 rfl d_X12_oneOf_14 (fun x3 _ => ?_)
  refine xa_if (xa_ifne d_X12_oneOf_17) (fun q4 => ?_) (fun q4 => ?_)
  · refine xa_step (xa_iload d_X12_oneOf_20 rfl) ?_
    refine xa_step (xa_iconst d_X12_oneOf_22 xq_i_m1) ?_
    refine xa_if (xa_icmpne d_X12_oneOf_23) (fun q5 => ?_) (fun q5 => ?_)
    · refine xa_step (xa_aload_n d_X12_oneOf_26 rfl) ?_
      refine xa_step (xa_iconst d_X12_oneOf_27 xq_i_3) ?_
      refine xa_step (xa_aload_n d_X12_oneOf_28 rfl) ?_
      refine xa_getf xI xc_12 (by decide) (fun _ => rfl) xw_1337 rfl d_X12_oneOf_29 (fun x6 _ => ?_)
      refine xa_callVV (as := [xI 3, xI x6]) (st := []) (M' := mX12_fail) (d' := 2) rfl xw_1654 xw_1656 xw_68 xw_1657 xw_177 xh_X12_fail rfl ⟨Nat.le_of_ble_eq_true rfl, Nat.le_of_ble_eq_true rfl⟩ (Nat.le_of_ble_eq_true rfl) rfl d_X12_oneOf_32 (fun r hr => ct_X12_fail l G v0 3 x6 r1.2 r hr) (fun r7 _ => ?_)
      exact xa_weak (ls' := [some (xR v0), none, none, none, some (xI r2)]) ⟨rfl, rfl, trivial⟩ (g_X12_oneOf_J35 l G v0 r2 r7)
    · exact xa_weak (ls' := [some (xR v0), none, none, none, some (xI r2)]) ⟨rfl, rfl, trivial⟩ (g_X12_oneOf_J35 l G v0 r2 r1.2)
  · exact xa_weak (ls' := [some (xR v0), none, none, none, some (xI r2)]) ⟨rfl, rfl, trivial⟩ (g_X12_oneOf_J35 l G v0 r2 r1.2)
theorem ct_X12_oneOf (l : Launch) (G : xa_C) (v0 v1 : Int) (h : xa_H) (r : Int × xa_H) (hr : f_X12_oneOf v0 v1 h = some r) : xa_CT l G 6 mX12_oneOf yX12_oneOf [xR v0, xI v1] h (some (xI r.1), r.2) :=
  xa_met (by decide +kernel) rfl (fun q => by first | rfl | cases q) (Nat.le_of_ble_eq_true rfl) rfl (g_X12_oneOf l G v0 v1 h) (by rw [hr]; rfl)
abbrev mX12_feudTold : xa_M := (cX12_feudTold, 4, none, RX12, false)
theorem d_X12_feudTold_0 : decode mX12_feudTold.1 0 = .ok (.aload_n 0, 1) ∧ 0 + 1 = 1 := ⟨by decide +kernel, rfl⟩
theorem d_X12_feudTold_1 : decode mX12_feudTold.1 1 = .ok (.iconst 2, 1) ∧ 1 + 1 = 2 := ⟨by decide +kernel, rfl⟩
theorem d_X12_feudTold_2 : decode mX12_feudTold.1 2 = .ok (.bipush 10, 2) ∧ 2 + 2 = 4 := ⟨by decide +kernel, rfl⟩
theorem d_X12_feudTold_4 : decode mX12_feudTold.1 4 = .ok (.iload_n 1, 1) ∧ 4 + 1 = 5 := ⟨by decide +kernel, rfl⟩
theorem d_X12_feudTold_5 : decode mX12_feudTold.1 5 = .ok (.invokevirtual 316, 3) ∧ 5 + 3 = 8 := ⟨by decide +kernel, rfl⟩
theorem d_X12_feudTold_8 : decode mX12_feudTold.1 8 = .ok (.ifCond .eq 4, 3) ∧ 8 + 3 = 11 ∧ ((8 : Nat) : Int) + 4 = ((12 : Nat) : Int) := ⟨by decide +kernel, rfl, rfl⟩
theorem d_X12_feudTold_12 : decode mX12_feudTold.1 12 = .ok (.aload_n 0, 1) ∧ 12 + 1 = 13 := ⟨by decide +kernel, rfl⟩
theorem d_X12_feudTold_13 : decode mX12_feudTold.1 13 = .ok (.iconst 1, 1) ∧ 13 + 1 = 14 := ⟨by decide +kernel, rfl⟩
theorem d_X12_feudTold_14 : decode mX12_feudTold.1 14 = .ok (.invokevirtual 331, 3) ∧ 14 + 3 = 17 := ⟨by decide +kernel, rfl⟩
theorem d_X12_feudTold_17 : decode mX12_feudTold.1 17 = .ok (.istore_n 2, 1) ∧ 17 + 1 = 18 := ⟨by decide +kernel, rfl⟩
theorem d_X12_feudTold_18 : decode mX12_feudTold.1 18 = .ok (.aload_n 0, 1) ∧ 18 + 1 = 19 := ⟨by decide +kernel, rfl⟩
theorem d_X12_feudTold_19 : decode mX12_feudTold.1 19 = .ok (.iconst 1, 1) ∧ 19 + 1 = 20 := ⟨by decide +kernel, rfl⟩
theorem d_X12_feudTold_20 : decode mX12_feudTold.1 20 = .ok (.invokevirtual 331, 3) ∧ 20 + 3 = 23 := ⟨by decide +kernel, rfl⟩
theorem d_X12_feudTold_23 : decode mX12_feudTold.1 23 = .ok (.istore_n 3, 1) ∧ 23 + 1 = 24 := ⟨by decide +kernel, rfl⟩
theorem d_X12_feudTold_24 : decode mX12_feudTold.1 24 = .ok (.aload_n 0, 1) ∧ 24 + 1 = 25 := ⟨by decide +kernel, rfl⟩
theorem d_X12_feudTold_25 : decode mX12_feudTold.1 25 = .ok (.getfield 249, 3) ∧ 25 + 3 = 28 := ⟨by decide +kernel, rfl⟩
theorem d_X12_feudTold_28 : decode mX12_feudTold.1 28 = .ok (.ifCond .ne 31, 3) ∧ 28 + 3 = 31 ∧ ((28 : Nat) : Int) + 31 = ((59 : Nat) : Int) := ⟨by decide +kernel, rfl, rfl⟩
theorem d_X12_feudTold_31 : decode mX12_feudTold.1 31 = .ok (.iload_n 2, 1) ∧ 31 + 1 = 32 := ⟨by decide +kernel, rfl⟩
theorem d_X12_feudTold_32 : decode mX12_feudTold.1 32 = .ok (.iload_n 3, 1) ∧ 32 + 1 = 33 := ⟨by decide +kernel, rfl⟩
theorem d_X12_feudTold_33 : decode mX12_feudTold.1 33 = .ok (.if_icmp .eq 17, 3) ∧ 33 + 3 = 36 ∧ ((33 : Nat) : Int) + 17 = ((50 : Nat) : Int) := ⟨by decide +kernel, rfl, rfl⟩
theorem d_X12_feudTold_50 : decode mX12_feudTold.1 50 = .ok (.aload_n 0, 1) ∧ 50 + 1 = 51 := ⟨by decide +kernel, rfl⟩
theorem d_X12_feudTold_51 : decode mX12_feudTold.1 51 = .ok (.iconst 3, 1) ∧ 51 + 1 = 52 := ⟨by decide +kernel, rfl⟩
theorem d_X12_feudTold_52 : decode mX12_feudTold.1 52 = .ok (.aload_n 0, 1) ∧ 52 + 1 = 53 := ⟨by decide +kernel, rfl⟩
theorem d_X12_feudTold_53 : decode mX12_feudTold.1 53 = .ok (.getfield 297, 3) ∧ 53 + 3 = 56 := ⟨by decide +kernel, rfl⟩
theorem d_X12_feudTold_56 : decode mX12_feudTold.1 56 = .ok (.invokevirtual 279, 3) ∧ 56 + 3 = 59 := ⟨by decide +kernel, rfl⟩
theorem d_X12_feudTold_59 : decode mX12_feudTold.1 59 = .ok (.aload_n 0, 1) ∧ 59 + 1 = 60 := ⟨by decide +kernel, rfl⟩
theorem d_X12_feudTold_60 : decode mX12_feudTold.1 60 = .ok (.getfield 249, 3) ∧ 60 + 3 = 63 := ⟨by decide +kernel, rfl⟩
theorem d_X12_feudTold_63 : decode mX12_feudTold.1 63 = .ok (.ifCond .eq 4, 3) ∧ 63 + 3 = 66 ∧ ((63 : Nat) : Int) + 4 = ((67 : Nat) : Int) := ⟨by decide +kernel, rfl, rfl⟩
theorem d_X12_feudTold_67 : decode mX12_feudTold.1 67 = .ok (.aload_n 0, 1) ∧ 67 + 1 = 68 := ⟨by decide +kernel, rfl⟩
theorem d_X12_feudTold_68 : decode mX12_feudTold.1 68 = .ok (.getfield 115, 3) ∧ 68 + 3 = 71 := ⟨by decide +kernel, rfl⟩
theorem d_X12_feudTold_71 : decode mX12_feudTold.1 71 = .ok (.iload_n 2, 1) ∧ 71 + 1 = 72 := ⟨by decide +kernel, rfl⟩
theorem d_X12_feudTold_72 : decode mX12_feudTold.1 72 = .ok (.dup2, 1) ∧ 72 + 1 = 73 := ⟨by decide +kernel, rfl⟩
theorem d_X12_feudTold_73 : decode mX12_feudTold.1 73 = .ok (.iaload, 1) ∧ 73 + 1 = 74 := ⟨by decide +kernel, rfl⟩
theorem d_X12_feudTold_74 : decode mX12_feudTold.1 74 = .ok (.iconst 1, 1) ∧ 74 + 1 = 75 := ⟨by decide +kernel, rfl⟩
theorem d_X12_feudTold_75 : decode mX12_feudTold.1 75 = .ok (.iload_n 3, 1) ∧ 75 + 1 = 76 := ⟨by decide +kernel, rfl⟩
theorem d_X12_feudTold_76 : decode mX12_feudTold.1 76 = .ok (.ishl, 1) ∧ 76 + 1 = 77 := ⟨by decide +kernel, rfl⟩
theorem d_X12_feudTold_77 : decode mX12_feudTold.1 77 = .ok (.ior, 1) ∧ 77 + 1 = 78 := ⟨by decide +kernel, rfl⟩
theorem d_X12_feudTold_78 : decode mX12_feudTold.1 78 = .ok (.iastore, 1) ∧ 78 + 1 = 79 := ⟨by decide +kernel, rfl⟩
theorem d_X12_feudTold_79 : decode mX12_feudTold.1 79 = .ok (.aload_n 0, 1) ∧ 79 + 1 = 80 := ⟨by decide +kernel, rfl⟩
theorem d_X12_feudTold_80 : decode mX12_feudTold.1 80 = .ok (.getfield 115, 3) ∧ 80 + 3 = 83 := ⟨by decide +kernel, rfl⟩
theorem d_X12_feudTold_83 : decode mX12_feudTold.1 83 = .ok (.iload_n 3, 1) ∧ 83 + 1 = 84 := ⟨by decide +kernel, rfl⟩
theorem d_X12_feudTold_84 : decode mX12_feudTold.1 84 = .ok (.dup2, 1) ∧ 84 + 1 = 85 := ⟨by decide +kernel, rfl⟩
theorem d_X12_feudTold_85 : decode mX12_feudTold.1 85 = .ok (.iaload, 1) ∧ 85 + 1 = 86 := ⟨by decide +kernel, rfl⟩
theorem d_X12_feudTold_86 : decode mX12_feudTold.1 86 = .ok (.iconst 1, 1) ∧ 86 + 1 = 87 := ⟨by decide +kernel, rfl⟩
theorem d_X12_feudTold_87 : decode mX12_feudTold.1 87 = .ok (.iload_n 2, 1) ∧ 87 + 1 = 88 := ⟨by decide +kernel, rfl⟩
theorem d_X12_feudTold_88 : decode mX12_feudTold.1 88 = .ok (.ishl, 1) ∧ 88 + 1 = 89 := ⟨by decide +kernel, rfl⟩
theorem d_X12_feudTold_89 : decode mX12_feudTold.1 89 = .ok (.ior, 1) ∧ 89 + 1 = 90 := ⟨by decide +kernel, rfl⟩
theorem d_X12_feudTold_90 : decode mX12_feudTold.1 90 = .ok (.iastore, 1) ∧ 90 + 1 = 91 := ⟨by decide +kernel, rfl⟩
theorem d_X12_feudTold_91 : decode mX12_feudTold.1 91 = .ok (.aload_n 0, 1) ∧ 91 + 1 = 92 := ⟨by decide +kernel, rfl⟩
theorem d_X12_feudTold_92 : decode mX12_feudTold.1 92 = .ok (.getfield 90, 3) ∧ 92 + 3 = 95 := ⟨by decide +kernel, rfl⟩
theorem d_X12_feudTold_95 : decode mX12_feudTold.1 95 = .ok (.iconst 2, 1) ∧ 95 + 1 = 96 := ⟨by decide +kernel, rfl⟩
theorem d_X12_feudTold_96 : decode mX12_feudTold.1 96 = .ok (.dup2, 1) ∧ 96 + 1 = 97 := ⟨by decide +kernel, rfl⟩
theorem d_X12_feudTold_97 : decode mX12_feudTold.1 97 = .ok (.iaload, 1) ∧ 97 + 1 = 98 := ⟨by decide +kernel, rfl⟩
theorem d_X12_feudTold_98 : decode mX12_feudTold.1 98 = .ok (.iconst 1, 1) ∧ 98 + 1 = 99 := ⟨by decide +kernel, rfl⟩
theorem d_X12_feudTold_99 : decode mX12_feudTold.1 99 = .ok (.iadd, 1) ∧ 99 + 1 = 100 := ⟨by decide +kernel, rfl⟩
theorem d_X12_feudTold_100 : decode mX12_feudTold.1 100 = .ok (.iastore, 1) ∧ 100 + 1 = 101 := ⟨by decide +kernel, rfl⟩
theorem d_X12_feudTold_101 : decode mX12_feudTold.1 101 = .ok (.return_, 1) := by decide +kernel
theorem d_X12_feudTold_66 : decode mX12_feudTold.1 66 = .ok (.return_, 1) := by decide +kernel
set_option maxRecDepth 100000 in
set_option maxHeartbeats 4000000 in
theorem g_X12_feudTold_J59 (l : Launch) (G : xa_C) : ∀ (v0 v2 v3 : Int) (h : xa_H) , xa_G l G 7 mX12_feudTold (f_X12_feudTold_J59 v0 v2 v3 h) (fun r => some (none, r) : xa_H → Option xa_O) 59 [some (xR v0), none, some (xI v2), some (xI v3)] [] h := by
  intro v0 v2 v3 h
  unfold f_X12_feudTold_J59
  refine xa_step (xa_aload_n d_X12_feudTold_59 rfl) ?_
  refine xa_getf xI xc_12 (by decide) (fun _ => rfl) xw_1309 rfl d_X12_feudTold_60 (fun x10 _ => ?_)
  refine xa_if (xa_ifeq d_X12_feudTold_63) (fun q11 => ?_) (fun q11 => ?_)
  · refine xa_step (xa_aload_n d_X12_feudTold_67 rfl) ?_
    refine xa_getf xR xc_12 (by decide) (fun _ => rfl) xw_1346 rfl d_X12_feudTold_68 (fun x12 _ => ?_)
    refine xa_step (xa_iload_n d_X12_feudTold_71 rfl) ?_
    refine xa_step (xa_dup2 d_X12_feudTold_72 (xa_tI _) (xa_tR _)) ?_
    refine xa_iaload d_X12_feudTold_73 (fun x13 _ => ?_)
    refine xa_step (xa_iconst d_X12_feudTold_74 xq_i_1) ?_
    refine xa_step (xa_iload_n d_X12_feudTold_75 rfl) ?_
    refine xa_step (xa_ishl d_X12_feudTold_76) ?_
    refine xa_step (xa_ior d_X12_feudTold_77) ?_
    refine xa_iastore2 d_X12_feudTold_78 (fun h14 _ => ?_)
    refine xa_step (xa_aload_n d_X12_feudTold_79 rfl) ?_
    refine xa_getf xR xc_12 (by decide) (fun _ => rfl) xw_1346 rfl d_X12_feudTold_80 (fun x15 _ => ?_)
    refine xa_step (xa_iload_n d_X12_feudTold_83 rfl) ?_
    refine xa_step (xa_dup2 d_X12_feudTold_84 (xa_tI _) (xa_tR _)) ?_
    refine xa_iaload d_X12_feudTold_85 (fun x16 _ => ?_)
    refine xa_step (xa_iconst d_X12_feudTold_86 xq_i_1) ?_
    refine xa_step (xa_iload_n d_X12_feudTold_87 rfl) ?_
    refine xa_step (xa_ishl d_X12_feudTold_88) ?_
    refine xa_step (xa_ior d_X12_feudTold_89) ?_
    refine xa_iastore2 d_X12_feudTold_90 (fun h17 _ => ?_)
    refine xa_step (xa_aload_n d_X12_feudTold_91 rfl) ?_
    refine xa_getf xR xc_12 (by decide) (fun _ => rfl) xw_1338 rfl d_X12_feudTold_92 (fun x18 _ => ?_)
    refine xa_step (xa_iconst d_X12_feudTold_95 xq_i_2) ?_
    refine xa_step (xa_dup2 d_X12_feudTold_96 (xa_tI _) (xa_tR _)) ?_
    refine xa_iaload d_X12_feudTold_97 (fun x19 _ => ?_)
    refine xa_step (xa_iconst d_X12_feudTold_98 xq_i_1) ?_
    refine xa_step (xa_iadd d_X12_feudTold_99) ?_
    refine xa_iastore2 d_X12_feudTold_100 (fun h20 _ => ?_)
    exact xa_vret d_X12_feudTold_101 rfl rfl
  · exact xa_vret d_X12_feudTold_66 rfl rfl
set_option maxRecDepth 100000 in
set_option maxHeartbeats 4000000 in
theorem g_X12_feudTold_J50 (l : Launch) (G : xa_C) : ∀ (v0 v2 v3 : Int) (h : xa_H) , xa_G l G 7 mX12_feudTold (f_X12_feudTold_J50 v0 v2 v3 h) (fun r => some (none, r) : xa_H → Option xa_O) 50 [some (xR v0), none, some (xI v2), some (xI v3)] [] h := by
  intro v0 v2 v3 h
  unfold f_X12_feudTold_J50
  refine xa_step (xa_aload_n d_X12_feudTold_50 rfl) ?_
  refine xa_step (xa_iconst d_X12_feudTold_51 xq_i_3) ?_
  refine xa_step (xa_aload_n d_X12_feudTold_52 rfl) ?_
  refine xa_getf xI xc_12 (by decide) (fun _ => rfl) xw_1337 rfl d_X12_feudTold_53 (fun x8 _ => ?_)
  refine xa_callVV (as := [xI 3, xI x8]) (st := []) (M' := mX12_fail) (d' := 2) rfl xw_1654 xw_1656 xw_68 xw_1657 xw_177 xh_X12_fail rfl ⟨Nat.le_of_ble_eq_true rfl, Nat.le_of_ble_eq_true rfl⟩ (Nat.le_of_ble_eq_true rfl) rfl d_X12_feudTold_56 (fun r hr => ct_X12_fail l G v0 3 x8 h r hr) (fun r9 _ => ?_)
  exact xa_weak (ls' := [some (xR v0), none, some (xI v2), some (xI v3)]) ⟨rfl, rfl, rfl, trivial⟩ (g_X12_feudTold_J59 l G v0 v2 v3 r9)
theorem d_X12_feudTold_36 : decode mX12_feudTold.1 36 = .ok (.aload_n 0, 1) ∧ 36 + 1 = 37 := ⟨by decide +kernel, rfl⟩
theorem d_X12_feudTold_37 : decode mX12_feudTold.1 37 = .ok (.getfield 115, 3) ∧ 37 + 3 = 40 := ⟨by decide +kernel, rfl⟩
theorem d_X12_feudTold_40 : decode mX12_feudTold.1 40 = .ok (.iload_n 2, 1) ∧ 40 + 1 = 41 := ⟨by decide +kernel, rfl⟩
theorem d_X12_feudTold_41 : decode mX12_feudTold.1 41 = .ok (.iaload, 1) ∧ 41 + 1 = 42 := ⟨by decide +kernel, rfl⟩
theorem d_X12_feudTold_42 : decode mX12_feudTold.1 42 = .ok (.iload_n 3, 1) ∧ 42 + 1 = 43 := ⟨by decide +kernel, rfl⟩
theorem d_X12_feudTold_43 : decode mX12_feudTold.1 43 = .ok (.ishr, 1) ∧ 43 + 1 = 44 := ⟨by decide +kernel, rfl⟩
theorem d_X12_feudTold_44 : decode mX12_feudTold.1 44 = .ok (.iconst 1, 1) ∧ 44 + 1 = 45 := ⟨by decide +kernel, rfl⟩
theorem d_X12_feudTold_45 : decode mX12_feudTold.1 45 = .ok (.iand, 1) ∧ 45 + 1 = 46 := ⟨by decide +kernel, rfl⟩
theorem d_X12_feudTold_46 : decode mX12_feudTold.1 46 = .ok (.iconst 1, 1) ∧ 46 + 1 = 47 := ⟨by decide +kernel, rfl⟩
theorem d_X12_feudTold_47 : decode mX12_feudTold.1 47 = .ok (.if_icmp .ne 12, 3) ∧ 47 + 3 = 50 ∧ ((47 : Nat) : Int) + 12 = ((59 : Nat) : Int) := ⟨by decide +kernel, rfl, rfl⟩
theorem d_X12_feudTold_11 : decode mX12_feudTold.1 11 = .ok (.return_, 1) := by decide +kernel
set_option maxRecDepth 100000 in
set_option maxHeartbeats 4000000 in
theorem g_X12_feudTold (l : Launch) (G : xa_C) (v0 v1 : Int) (h : xa_H) : xa_G l G 7 mX12_feudTold (f_X12_feudTold v0 v1 h) (fun r => some (none, r) : xa_H → Option xa_O) 0 [some (xR v0), some (xI v1), none, none] [] h := by
  unfold f_X12_feudTold
  refine xa_step (xa_aload_n d_X12_feudTold_0 rfl) ?_
  refine xa_step (xa_iconst d_X12_feudTold_1 xq_i_2) ?_
  refine xa_step (xa_bipush d_X12_feudTold_2 xq_b_10) ?_
  refine xa_step (xa_iload_n d_X12_feudTold_4 rfl) ?_
  refine xa_callVI (as := [xI 2, xI 10, xI v1]) (st := []) (M' := mX12_isFull) (d' := 3) rfl xw_1673 xw_1675 xw_72 xw_1676 xw_177 xh_X12_isFull rfl ⟨Nat.le_of_ble_eq_true rfl, Nat.le_of_ble_eq_true rfl⟩ (Nat.le_of_ble_eq_true rfl) rfl d_X12_feudTold_5 (fun r hr => ct_X12_isFull l G v0 2 10 v1 h r hr) (fun r1 _ => ?_)
  refine xa_if (xa_ifeq d_X12_feudTold_8) (fun q2 => ?_) (fun q2 => ?_)
  · refine xa_step (xa_aload_n d_X12_feudTold_12 rfl) ?_
    refine xa_step (xa_iconst d_X12_feudTold_13 xq_i_1) ?_
    refine xa_callVI (as := [xI 1]) (st := []) (M' := mX12_oneOf) (d' := 6) rfl xw_1713 xw_1715 xw_80 xw_1716 xw_177 xh_X12_oneOf rfl ⟨Nat.le_of_ble_eq_true rfl, Nat.le_of_ble_eq_true rfl⟩ (Nat.le_of_ble_eq_true rfl) rfl d_X12_feudTold_14 (fun r hr => ct_X12_oneOf l G v0 1 r1.2 r hr) (fun r3 _ => ?_)
    refine xa_step (xa_istore_n (ls' := [some (xR v0), some (xI v1), some (xI r3.1), none]) d_X12_feudTold_17 (by decide) rfl) ?_
    refine xa_step (xa_aload_n d_X12_feudTold_18 rfl) ?_
    refine xa_step (xa_iconst d_X12_feudTold_19 xq_i_1) ?_
    refine xa_callVI (as := [xI 1]) (st := []) (M' := mX12_oneOf) (d' := 6) rfl xw_1713 xw_1715 xw_80 xw_1716 xw_177 xh_X12_oneOf rfl ⟨Nat.le_of_ble_eq_true rfl, Nat.le_of_ble_eq_true rfl⟩ (Nat.le_of_ble_eq_true rfl) rfl d_X12_feudTold_20 (fun r hr => ct_X12_oneOf l G v0 1 r3.2 r hr) (fun r4 _ => ?_)
    refine xa_step (xa_istore_n (ls' := [some (xR v0), some (xI v1), some (xI r3.1), some (xI r4.1)]) d_X12_feudTold_23 (by decide) rfl) ?_
    refine xa_step (xa_aload_n d_X12_feudTold_24 rfl) ?_
    refine xa_getf xI xc_12 (by decide) (fun _ => rfl) xw_1309 rfl d_X12_feudTold_25 (fun x5 _ => ?_)
    refine xa_if (xa_ifne d_X12_feudTold_28) (fun q6 => ?_) (fun q6 => ?_)
    · refine xa_step (xa_iload_n d_X12_feudTold_31 rfl) ?_
      refine xa_step (xa_iload_n d_X12_feudTold_32 rfl) ?_
      refine xa_if (xa_icmpeq d_X12_feudTold_33) (fun q7 => ?_) (fun q7 => ?_)
      · exact xa_weak (ls' := [some (xR v0), none, some (xI r3.1), some (xI r4.1)]) ⟨rfl, rfl, rfl, trivial⟩ (g_X12_feudTold_J50 l G v0 r3.1 r4.1 r4.2)
      · refine xa_step (xa_aload_n d_X12_feudTold_36 rfl) ?_
        refine xa_getf xR xc_12 (by decide) (fun _ => rfl) xw_1346 rfl d_X12_feudTold_37 (fun x21 _ => ?_)
        refine xa_step (xa_iload_n d_X12_feudTold_40 rfl) ?_
        refine xa_iaload d_X12_feudTold_41 (fun x22 _ => ?_)
        refine xa_step (xa_iload_n d_X12_feudTold_42 rfl) ?_
        refine xa_step (xa_ishr d_X12_feudTold_43) ?_
        refine xa_step (xa_iconst d_X12_feudTold_44 xq_i_1) ?_
        refine xa_step (xa_iand d_X12_feudTold_45) ?_
        refine xa_step (xa_iconst d_X12_feudTold_46 xq_i_1) ?_
        refine xa_if (xa_icmpne d_X12_feudTold_47) (fun q23 => ?_) (fun q23 => ?_)
        · exact xa_weak (ls' := [some (xR v0), none, some (xI r3.1), some (xI r4.1)]) ⟨rfl, rfl, rfl, trivial⟩ (g_X12_feudTold_J50 l G v0 r3.1 r4.1 r4.2)
        · exact xa_weak (ls' := [some (xR v0), none, some (xI r3.1), some (xI r4.1)]) ⟨rfl, rfl, rfl, trivial⟩ (g_X12_feudTold_J59 l G v0 r3.1 r4.1 r4.2)
    · exact xa_weak (ls' := [some (xR v0), none, some (xI r3.1), some (xI r4.1)]) ⟨rfl, rfl, rfl, trivial⟩ (g_X12_feudTold_J59 l G v0 r3.1 r4.1 r4.2)
  · exact xa_vret d_X12_feudTold_11 rfl rfl
theorem ct_X12_feudTold (l : Launch) (G : xa_C) (v0 v1 : Int) (h : xa_H) (r : xa_H) (hr : f_X12_feudTold v0 v1 h = some r) : xa_CT l G 7 mX12_feudTold yX12_feudTold [xR v0, xI v1] h (none, r) :=
  xa_met (by decide +kernel) rfl (fun q => by first | rfl | cases q) (Nat.le_of_ble_eq_true rfl) rfl (g_X12_feudTold l G v0 v1 h) (by rw [hr]; rfl)
abbrev mX12_newName : xa_M := (cX12_newName, 4, (some (.long)), RX12, false)
theorem d_X12_newName_0 : decode mX12_newName.1 0 = .ok (.aload_n 0, 1) ∧ 0 + 1 = 1 := ⟨by decide +kernel, rfl⟩
theorem d_X12_newName_1 : decode mX12_newName.1 1 = .ok (.invokevirtual 308, 3) ∧ 1 + 3 = 4 := ⟨by decide +kernel, rfl⟩
theorem d_X12_newName_4 : decode mX12_newName.1 4 = .ok (.lstore_n 1, 1) ∧ 4 + 1 = 5 := ⟨by decide +kernel, rfl⟩
theorem d_X12_newName_5 : decode mX12_newName.1 5 = .ok (.iconst 0, 1) ∧ 5 + 1 = 6 := ⟨by decide +kernel, rfl⟩
theorem d_X12_newName_6 : decode mX12_newName.1 6 = .ok (.istore_n 3, 1) ∧ 6 + 1 = 7 := ⟨by decide +kernel, rfl⟩
theorem d_X12_newName_7 : decode mX12_newName.1 7 = .ok (.iload_n 3, 1) ∧ 7 + 1 = 8 := ⟨by decide +kernel, rfl⟩
theorem d_X12_newName_8 : decode mX12_newName.1 8 = .ok (.iconst 2, 1) ∧ 8 + 1 = 9 := ⟨by decide +kernel, rfl⟩
theorem d_X12_newName_9 : decode mX12_newName.1 9 = .ok (.if_icmp .ge 35, 3) ∧ 9 + 3 = 12 ∧ ((9 : Nat) : Int) + 35 = ((44 : Nat) : Int) := ⟨by decide +kernel, rfl, rfl⟩
theorem d_X12_newName_12 : decode mX12_newName.1 12 = .ok (.aload_n 0, 1) ∧ 12 + 1 = 13 := ⟨by decide +kernel, rfl⟩
theorem d_X12_newName_13 : decode mX12_newName.1 13 = .ok (.getfield 249, 3) ∧ 13 + 3 = 16 := ⟨by decide +kernel, rfl⟩
theorem d_X12_newName_16 : decode mX12_newName.1 16 = .ok (.ifCond .ne 22, 3) ∧ 16 + 3 = 19 ∧ ((16 : Nat) : Int) + 22 = ((38 : Nat) : Int) := ⟨by decide +kernel, rfl, rfl⟩
theorem d_X12_newName_19 : decode mX12_newName.1 19 = .ok (.aload_n 0, 1) ∧ 19 + 1 = 20 := ⟨by decide +kernel, rfl⟩
theorem d_X12_newName_20 : decode mX12_newName.1 20 = .ok (.iload_n 3, 1) ∧ 20 + 1 = 21 := ⟨by decide +kernel, rfl⟩
theorem d_X12_newName_21 : decode mX12_newName.1 21 = .ok (.lload_n 1, 1) ∧ 21 + 1 = 22 := ⟨by decide +kernel, rfl⟩
theorem d_X12_newName_22 : decode mX12_newName.1 22 = .ok (.invokevirtual 312, 3) ∧ 22 + 3 = 25 := ⟨by decide +kernel, rfl⟩
theorem d_X12_newName_25 : decode mX12_newName.1 25 = .ok (.iconst (-1), 1) ∧ 25 + 1 = 26 := ⟨by decide +kernel, rfl⟩
theorem d_X12_newName_26 : decode mX12_newName.1 26 = .ok (.if_icmp .eq 12, 3) ∧ 26 + 3 = 29 ∧ ((26 : Nat) : Int) + 12 = ((38 : Nat) : Int) := ⟨by decide +kernel, rfl, rfl⟩
theorem d_X12_newName_38 : decode mX12_newName.1 38 = .ok (.iinc 3 1, 3) ∧ 38 + 3 = 41 := ⟨by decide +kernel, rfl⟩
theorem d_X12_newName_41 : decode mX12_newName.1 41 = .ok (.goto (-34), 3) ∧ ((41 : Nat) : Int) + (-34) = ((7 : Nat) : Int) := ⟨by decide +kernel, rfl⟩
theorem d_X12_newName_29 : decode mX12_newName.1 29 = .ok (.aload_n 0, 1) ∧ 29 + 1 = 30 := ⟨by decide +kernel, rfl⟩
theorem d_X12_newName_30 : decode mX12_newName.1 30 = .ok (.iconst 3, 1) ∧ 30 + 1 = 31 := ⟨by decide +kernel, rfl⟩
theorem d_X12_newName_31 : decode mX12_newName.1 31 = .ok (.aload_n 0, 1) ∧ 31 + 1 = 32 := ⟨by decide +kernel, rfl⟩
theorem d_X12_newName_32 : decode mX12_newName.1 32 = .ok (.getfield 297, 3) ∧ 32 + 3 = 35 := ⟨by decide +kernel, rfl⟩
theorem d_X12_newName_35 : decode mX12_newName.1 35 = .ok (.invokevirtual 279, 3) ∧ 35 + 3 = 38 := ⟨by decide +kernel, rfl⟩
set_option maxRecDepth 100000 in
set_option maxHeartbeats 4000000 in
theorem g_X12_newName_L7 (l : Launch) (G : xa_C) (c0 c1 : Int) (K : (Int × xa_H) ⊕ (xa_H) → Option xa_O) (hb : ∀ (v3 : Int) (h : xa_H), xa_G l G 6 mX12_newName (some (Sum.inl ((v3, h)))) K 7 [some (xR c0), some (xL c1), none, some (xI v3)] [] h) (hx : ∀ (h : xa_H), xa_G l G 6 mX12_newName (some (Sum.inr h)) K 44 [none, some (xL c1), none, none] [] h) : ∀ (v3 : Int) (h : xa_H), xa_G l G 6 mX12_newName (f_X12_newName_L7 c0 c1 v3 h) K 7 [some (xR c0), some (xL c1), none, some (xI v3)] [] h := by
  intro v3 h
  unfold f_X12_newName_L7
  refine xa_step (xa_iload_n d_X12_newName_7 rfl) ?_
  refine xa_step (xa_iconst d_X12_newName_8 xq_i_2) ?_
  refine xa_if (xa_icmpge d_X12_newName_9) (fun q2 => ?_) (fun q2 => ?_)
  · refine xa_step (xa_aload_n d_X12_newName_12 rfl) ?_
    refine xa_getf xI xc_12 (by decide) (fun _ => rfl) xw_1309 rfl d_X12_newName_13 (fun x3 _ => ?_)
    refine xa_if (xa_ifne d_X12_newName_16) (fun q4 => ?_) (fun q4 => ?_)
    · refine xa_step (xa_aload_n d_X12_newName_19 rfl) ?_
      refine xa_step (xa_iload_n d_X12_newName_20 rfl) ?_
      refine xa_step (xa_lload_n d_X12_newName_21 rfl) ?_
      refine xa_callVi (as := [xI v3, xL c1]) (st := []) (M' := mX12_nameOf) (d' := 2) rfl xw_1691 xw_1693 xw_76 xw_1694 xw_177 xh_X12_nameOf rfl ⟨Nat.le_of_ble_eq_true rfl, Nat.le_of_ble_eq_true rfl⟩ (Nat.le_of_ble_eq_true rfl) rfl d_X12_newName_22 (fun r hr => ct_X12_nameOf l G c0 v3 c1 h r hr) (fun r5 _ => ?_)
      refine xa_step (xa_iconst d_X12_newName_25 xq_i_m1) ?_
      refine xa_if (xa_icmpeq d_X12_newName_26) (fun q6 => ?_) (fun q6 => ?_)
      · refine xa_step (xa_iinc (ls' := [some (xR c0), some (xL c1), none, some (xI (w32 (v3 + 1)))]) d_X12_newName_38 xq_i_1 rfl (by decide) rfl) ?_
        refine xa_step (xa_goto d_X12_newName_41) ?_
        exact xa_weak (ls' := [some (xR c0), some (xL c1), none, some (xI (w32 (v3 + 1)))]) ⟨rfl, rfl, rfl, trivial⟩ (hb (w32 (v3 + 1)) h)
      · refine xa_step (xa_aload_n d_X12_newName_29 rfl) ?_
        refine xa_step (xa_iconst d_X12_newName_30 xq_i_3) ?_
        refine xa_step (xa_aload_n d_X12_newName_31 rfl) ?_
        refine xa_getf xI xc_12 (by decide) (fun _ => rfl) xw_1337 rfl d_X12_newName_32 (fun x7 _ => ?_)
        refine xa_callVV (as := [xI 3, xI x7]) (st := []) (M' := mX12_fail) (d' := 2) rfl xw_1654 xw_1656 xw_68 xw_1657 xw_177 xh_X12_fail rfl ⟨Nat.le_of_ble_eq_true rfl, Nat.le_of_ble_eq_true rfl⟩ (Nat.le_of_ble_eq_true rfl) rfl d_X12_newName_35 (fun r hr => ct_X12_fail l G c0 3 x7 h r hr) (fun r8 _ => ?_)
        refine xa_step (xa_iinc (ls' := [some (xR c0), some (xL c1), none, some (xI (w32 (v3 + 1)))]) d_X12_newName_38 xq_i_1 rfl (by decide) rfl) ?_
        refine xa_step (xa_goto d_X12_newName_41) ?_
        exact xa_weak (ls' := [some (xR c0), some (xL c1), none, some (xI (w32 (v3 + 1)))]) ⟨rfl, rfl, rfl, trivial⟩ (hb (w32 (v3 + 1)) r8)
    · refine xa_step (xa_iinc (ls' := [some (xR c0), some (xL c1), none, some (xI (w32 (v3 + 1)))]) d_X12_newName_38 xq_i_1 rfl (by decide) rfl) ?_
      refine xa_step (xa_goto d_X12_newName_41) ?_
      exact xa_weak (ls' := [some (xR c0), some (xL c1), none, some (xI (w32 (v3 + 1)))]) ⟨rfl, rfl, rfl, trivial⟩ (hb (w32 (v3 + 1)) h)
  · exact xa_weak (ls' := [none, some (xL c1), none, none]) ⟨rfl, trivial⟩ (hx h)
theorem d_X12_newName_44 : decode mX12_newName.1 44 = .ok (.lload_n 1, 1) ∧ 44 + 1 = 45 := ⟨by decide +kernel, rfl⟩
theorem d_X12_newName_45 : decode mX12_newName.1 45 = .ok (.lreturn, 1) := by decide +kernel
set_option maxRecDepth 100000 in
set_option maxHeartbeats 4000000 in
theorem g_X12_newName (l : Launch) (G : xa_C) (v0 : Int) (h : xa_H) : xa_G l G 6 mX12_newName (f_X12_newName v0 h) (fun r => some (some (xL r.1), r.2) : (Int × xa_H) → Option xa_O) 0 [some (xR v0), none, none, none] [] h := by
  unfold f_X12_newName
  refine xa_step (xa_aload_n d_X12_newName_0 rfl) ?_
  refine xa_callVL (as := []) (st := []) (M' := mX12_name) (d' := 5) rfl xw_1681 xw_1683 xw_74 xw_1684 xw_177 xh_X12_name rfl ⟨Nat.le_of_ble_eq_true rfl, Nat.le_of_ble_eq_true rfl⟩ (Nat.le_of_ble_eq_true rfl) rfl d_X12_newName_1 (fun r hr => ct_X12_name l G v0 h r hr) (fun r1 _ => ?_)
  refine xa_step (xa_lstore_n (ls' := [some (xR v0), some (xL r1.1), none, none]) d_X12_newName_4 (by decide) rfl) ?_
  refine xa_step (xa_iconst d_X12_newName_5 xq_i_0) ?_
  refine xa_step (xa_istore_n (ls' := [some (xR v0), some (xL r1.1), none, some (xI 0)]) d_X12_newName_6 (by decide) rfl) ?_
  refine xa_weak (ls' := [some (xR v0), some (xL r1.1), none, some (xI 0)]) ⟨rfl, rfl, rfl, trivial⟩ ?_
  refine xa_loop (f := fun s => f_X12_newName_L7 v0 r1.1 s.1 s.2) (L := fun s => [some (xR v0), some (xL r1.1), none, some (xI s.1)]) (P := fun s => s.2) (X := (fun x K => xa_G l G 6 mX12_newName (some (Sum.inr x)) K 44 [none, some (xL r1.1), none, none] [] x)) (fun K hb hX s => g_X12_newName_L7 l G v0 r1.1 K (fun w0 hh => hb ((w0, hh))) (fun hh => hX hh) s.1 s.2) ?_ xFU ((0, r1.2))
  intro e9 K hK
  refine xa_eqE hK ?_
  show xa_G l G 6 mX12_newName _ _ 44 [none, some (xL r1.1), none, none] [] e9
  refine xa_step (xa_lload_n d_X12_newName_44 rfl) ?_
  exact xa_lret d_X12_newName_45 rfl rfl
theorem ct_X12_newName (l : Launch) (G : xa_C) (v0 : Int) (h : xa_H) (r : Int × xa_H) (hr : f_X12_newName v0 h = some r) : xa_CT l G 6 mX12_newName yX12_newName [xR v0] h (some (xL r.1), r.2) :=
  xa_met (by decide +kernel) rfl (fun q => by first | rfl | cases q) (Nat.le_of_ble_eq_true rfl) rfl (g_X12_newName l G v0 h) (by rw [hr]; rfl)
abbrev mX12_heldTold : xa_M := (cX12_heldTold, 5, none, RX12, false)
theorem d_X12_heldTold_0 : decode mX12_heldTold.1 0 = .ok (.aload_n 0, 1) ∧ 0 + 1 = 1 := ⟨by decide +kernel, rfl⟩
theorem d_X12_heldTold_1 : decode mX12_heldTold.1 1 = .ok (.iconst 0, 1) ∧ 1 + 1 = 2 := ⟨by decide +kernel, rfl⟩
theorem d_X12_heldTold_2 : decode mX12_heldTold.1 2 = .ok (.bipush 6, 2) ∧ 2 + 2 = 4 := ⟨by decide +kernel, rfl⟩
theorem d_X12_heldTold_4 : decode mX12_heldTold.1 4 = .ok (.iload_n 1, 1) ∧ 4 + 1 = 5 := ⟨by decide +kernel, rfl⟩
theorem d_X12_heldTold_5 : decode mX12_heldTold.1 5 = .ok (.invokevirtual 316, 3) ∧ 5 + 3 = 8 := ⟨by decide +kernel, rfl⟩
theorem d_X12_heldTold_8 : decode mX12_heldTold.1 8 = .ok (.ifCond .eq 4, 3) ∧ 8 + 3 = 11 ∧ ((8 : Nat) : Int) + 4 = ((12 : Nat) : Int) := ⟨by decide +kernel, rfl, rfl⟩
theorem d_X12_heldTold_12 : decode mX12_heldTold.1 12 = .ok (.aload_n 0, 1) ∧ 12 + 1 = 13 := ⟨by decide +kernel, rfl⟩
theorem d_X12_heldTold_13 : decode mX12_heldTold.1 13 = .ok (.invokevirtual 320, 3) ∧ 13 + 3 = 16 := ⟨by decide +kernel, rfl⟩
theorem d_X12_heldTold_16 : decode mX12_heldTold.1 16 = .ok (.lstore_n 2, 1) ∧ 16 + 1 = 17 := ⟨by decide +kernel, rfl⟩
theorem d_X12_heldTold_17 : decode mX12_heldTold.1 17 = .ok (.aload_n 0, 1) ∧ 17 + 1 = 18 := ⟨by decide +kernel, rfl⟩
theorem d_X12_heldTold_18 : decode mX12_heldTold.1 18 = .ok (.aload_n 0, 1) ∧ 18 + 1 = 19 := ⟨by decide +kernel, rfl⟩
theorem d_X12_heldTold_19 : decode mX12_heldTold.1 19 = .ok (.getfield 24, 3) ∧ 19 + 3 = 22 := ⟨by decide +kernel, rfl⟩
theorem d_X12_heldTold_22 : decode mX12_heldTold.1 22 = .ok (.invokevirtual 323, 3) ∧ 22 + 3 = 25 := ⟨by decide +kernel, rfl⟩
theorem d_X12_heldTold_25 : decode mX12_heldTold.1 25 = .ok (.aload_n 0, 1) ∧ 25 + 1 = 26 := ⟨by decide +kernel, rfl⟩
theorem d_X12_heldTold_26 : decode mX12_heldTold.1 26 = .ok (.iconst 0, 1) ∧ 26 + 1 = 27 := ⟨by decide +kernel, rfl⟩
theorem d_X12_heldTold_27 : decode mX12_heldTold.1 27 = .ok (.bipush 99, 2) ∧ 27 + 2 = 29 := ⟨by decide +kernel, rfl⟩
theorem d_X12_heldTold_29 : decode mX12_heldTold.1 29 = .ok (.invokevirtual 327, 3) ∧ 29 + 3 = 32 := ⟨by decide +kernel, rfl⟩
theorem d_X12_heldTold_32 : decode mX12_heldTold.1 32 = .ok (.istore 4, 2) ∧ 32 + 2 = 34 := ⟨by decide +kernel, rfl⟩
theorem d_X12_heldTold_34 : decode mX12_heldTold.1 34 = .ok (.aload_n 0, 1) ∧ 34 + 1 = 35 := ⟨by decide +kernel, rfl⟩
theorem d_X12_heldTold_35 : decode mX12_heldTold.1 35 = .ok (.getfield 249, 3) ∧ 35 + 3 = 38 := ⟨by decide +kernel, rfl⟩
theorem d_X12_heldTold_38 : decode mX12_heldTold.1 38 = .ok (.ifCond .eq 4, 3) ∧ 38 + 3 = 41 ∧ ((38 : Nat) : Int) + 4 = ((42 : Nat) : Int) := ⟨by decide +kernel, rfl, rfl⟩
theorem d_X12_heldTold_42 : decode mX12_heldTold.1 42 = .ok (.aload_n 0, 1) ∧ 42 + 1 = 43 := ⟨by decide +kernel, rfl⟩
theorem d_X12_heldTold_43 : decode mX12_heldTold.1 43 = .ok (.getfield 93, 3) ∧ 43 + 3 = 46 := ⟨by decide +kernel, rfl⟩
theorem d_X12_heldTold_46 : decode mX12_heldTold.1 46 = .ok (.aload_n 0, 1) ∧ 46 + 1 = 47 := ⟨by decide +kernel, rfl⟩
theorem d_X12_heldTold_47 : decode mX12_heldTold.1 47 = .ok (.getfield 90, 3) ∧ 47 + 3 = 50 := ⟨by decide +kernel, rfl⟩
theorem d_X12_heldTold_50 : decode mX12_heldTold.1 50 = .ok (.iconst 0, 1) ∧ 50 + 1 = 51 := ⟨by decide +kernel, rfl⟩
theorem d_X12_heldTold_51 : decode mX12_heldTold.1 51 = .ok (.iaload, 1) ∧ 51 + 1 = 52 := ⟨by decide +kernel, rfl⟩
theorem d_X12_heldTold_52 : decode mX12_heldTold.1 52 = .ok (.lload_n 2, 1) ∧ 52 + 1 = 53 := ⟨by decide +kernel, rfl⟩
theorem d_X12_heldTold_53 : decode mX12_heldTold.1 53 = .ok (.lastore, 1) ∧ 53 + 1 = 54 := ⟨by decide +kernel, rfl⟩
theorem d_X12_heldTold_54 : decode mX12_heldTold.1 54 = .ok (.aload_n 0, 1) ∧ 54 + 1 = 55 := ⟨by decide +kernel, rfl⟩
theorem d_X12_heldTold_55 : decode mX12_heldTold.1 55 = .ok (.getfield 97, 3) ∧ 55 + 3 = 58 := ⟨by decide +kernel, rfl⟩
theorem d_X12_heldTold_58 : decode mX12_heldTold.1 58 = .ok (.aload_n 0, 1) ∧ 58 + 1 = 59 := ⟨by decide +kernel, rfl⟩
theorem d_X12_heldTold_59 : decode mX12_heldTold.1 59 = .ok (.getfield 90, 3) ∧ 59 + 3 = 62 := ⟨by decide +kernel, rfl⟩
theorem d_X12_heldTold_62 : decode mX12_heldTold.1 62 = .ok (.iconst 0, 1) ∧ 62 + 1 = 63 := ⟨by decide +kernel, rfl⟩
theorem d_X12_heldTold_63 : decode mX12_heldTold.1 63 = .ok (.iaload, 1) ∧ 63 + 1 = 64 := ⟨by decide +kernel, rfl⟩
theorem d_X12_heldTold_64 : decode mX12_heldTold.1 64 = .ok (.iload 4, 2) ∧ 64 + 2 = 66 := ⟨by decide +kernel, rfl⟩
theorem d_X12_heldTold_66 : decode mX12_heldTold.1 66 = .ok (.iastore, 1) ∧ 66 + 1 = 67 := ⟨by decide +kernel, rfl⟩
theorem d_X12_heldTold_67 : decode mX12_heldTold.1 67 = .ok (.aload_n 0, 1) ∧ 67 + 1 = 68 := ⟨by decide +kernel, rfl⟩
theorem d_X12_heldTold_68 : decode mX12_heldTold.1 68 = .ok (.getfield 90, 3) ∧ 68 + 3 = 71 := ⟨by decide +kernel, rfl⟩
theorem d_X12_heldTold_71 : decode mX12_heldTold.1 71 = .ok (.iconst 0, 1) ∧ 71 + 1 = 72 := ⟨by decide +kernel, rfl⟩
theorem d_X12_heldTold_72 : decode mX12_heldTold.1 72 = .ok (.dup2, 1) ∧ 72 + 1 = 73 := ⟨by decide +kernel, rfl⟩
theorem d_X12_heldTold_73 : decode mX12_heldTold.1 73 = .ok (.iaload, 1) ∧ 73 + 1 = 74 := ⟨by decide +kernel, rfl⟩
theorem d_X12_heldTold_74 : decode mX12_heldTold.1 74 = .ok (.iconst 1, 1) ∧ 74 + 1 = 75 := ⟨by decide +kernel, rfl⟩
theorem d_X12_heldTold_75 : decode mX12_heldTold.1 75 = .ok (.iadd, 1) ∧ 75 + 1 = 76 := ⟨by decide +kernel, rfl⟩
theorem d_X12_heldTold_76 : decode mX12_heldTold.1 76 = .ok (.iastore, 1) ∧ 76 + 1 = 77 := ⟨by decide +kernel, rfl⟩
theorem d_X12_heldTold_77 : decode mX12_heldTold.1 77 = .ok (.return_, 1) := by decide +kernel
theorem d_X12_heldTold_41 : decode mX12_heldTold.1 41 = .ok (.return_, 1) := by decide +kernel
theorem d_X12_heldTold_11 : decode mX12_heldTold.1 11 = .ok (.return_, 1) := by decide +kernel
set_option maxRecDepth 100000 in
set_option maxHeartbeats 4000000 in
theorem g_X12_heldTold (l : Launch) (G : xa_C) (v0 v1 : Int) (h : xa_H) : xa_G l G 7 mX12_heldTold (f_X12_heldTold v0 v1 h) (fun r => some (none, r) : xa_H → Option xa_O) 0 [some (xR v0), some (xI v1), none, none, none] [] h := by
  unfold f_X12_heldTold
  refine xa_step (xa_aload_n d_X12_heldTold_0 rfl) ?_
  refine xa_step (xa_iconst d_X12_heldTold_1 xq_i_0) ?_
  refine xa_step (xa_bipush d_X12_heldTold_2 xq_b_6) ?_
  refine xa_step (xa_iload_n d_X12_heldTold_4 rfl) ?_
  refine xa_callVI (as := [xI 0, xI 6, xI v1]) (st := []) (M' := mX12_isFull) (d' := 3) rfl xw_1673 xw_1675 xw_72 xw_1676 xw_177 xh_X12_isFull rfl ⟨Nat.le_of_ble_eq_true rfl, Nat.le_of_ble_eq_true rfl⟩ (Nat.le_of_ble_eq_true rfl) rfl d_X12_heldTold_5 (fun r hr => ct_X12_isFull l G v0 0 6 v1 h r hr) (fun r1 _ => ?_)
  refine xa_if (xa_ifeq d_X12_heldTold_8) (fun q2 => ?_) (fun q2 => ?_)
  · refine xa_step (xa_aload_n d_X12_heldTold_12 rfl) ?_
    refine xa_callVL (as := []) (st := []) (M' := mX12_newName) (d' := 6) rfl xw_1677 xw_1679 xw_73 xw_1680 xw_177 xh_X12_newName rfl ⟨Nat.le_of_ble_eq_true rfl, Nat.le_of_ble_eq_true rfl⟩ (Nat.le_of_ble_eq_true rfl) rfl d_X12_heldTold_13 (fun r hr => ct_X12_newName l G v0 r1.2 r hr) (fun r3 _ => ?_)
    refine xa_step (xa_lstore_n (ls' := [some (xR v0), some (xI v1), some (xL r3.1), none, none]) d_X12_heldTold_16 (by decide) rfl) ?_
    refine xa_step (xa_aload_n d_X12_heldTold_17 rfl) ?_
    refine xa_step (xa_aload_n d_X12_heldTold_18 rfl) ?_
    refine xa_getf xR xc_12 (by decide) (fun _ => rfl) xw_1315 rfl d_X12_heldTold_19 (fun x4 _ => ?_)
    refine xa_callVV (as := [xR x4]) (st := []) (M' := mX12_asks) (d' := 5) rfl xw_1695 xw_1697 xw_77 xw_1698 xw_177 xh_X12_asks rfl ⟨Nat.le_of_ble_eq_true rfl, Nat.le_of_ble_eq_true rfl⟩ (Nat.le_of_ble_eq_true rfl) rfl d_X12_heldTold_22 (fun r hr => ct_X12_asks l G v0 x4 r3.2 r hr) (fun r5 _ => ?_)
    refine xa_step (xa_aload_n d_X12_heldTold_25 rfl) ?_
    refine xa_step (xa_iconst d_X12_heldTold_26 xq_i_0) ?_
    refine xa_step (xa_bipush d_X12_heldTold_27 xq_b_99) ?_
    refine xa_callVI (as := [xI 0, xI 99]) (st := []) (M' := mX12_number) (d' := 3) rfl xw_1699 xw_1701 xw_78 xw_1702 xw_177 xh_X12_number rfl ⟨Nat.le_of_ble_eq_true rfl, Nat.le_of_ble_eq_true rfl⟩ (Nat.le_of_ble_eq_true rfl) rfl d_X12_heldTold_29 (fun r hr => ct_X12_number l G v0 0 99 r5 r hr) (fun r6 _ => ?_)
    refine xa_step (xa_istore (ls' := [some (xR v0), some (xI v1), some (xL r3.1), none, some (xI r6.1)]) d_X12_heldTold_32 (by decide) rfl) ?_
    refine xa_step (xa_aload_n d_X12_heldTold_34 rfl) ?_
    refine xa_getf xI xc_12 (by decide) (fun _ => rfl) xw_1309 rfl d_X12_heldTold_35 (fun x7 _ => ?_)
    refine xa_if (xa_ifeq d_X12_heldTold_38) (fun q8 => ?_) (fun q8 => ?_)
    · refine xa_step (xa_aload_n d_X12_heldTold_42 rfl) ?_
      refine xa_getf xR xc_12 (by decide) (fun _ => rfl) xw_1339 rfl d_X12_heldTold_43 (fun x9 _ => ?_)
      refine xa_step (xa_aload_n d_X12_heldTold_46 rfl) ?_
      refine xa_getf xR xc_12 (by decide) (fun _ => rfl) xw_1338 rfl d_X12_heldTold_47 (fun x10 _ => ?_)
      refine xa_step (xa_iconst d_X12_heldTold_50 xq_i_0) ?_
      refine xa_iaload d_X12_heldTold_51 (fun x11 _ => ?_)
      refine xa_step (xa_lload_n d_X12_heldTold_52 rfl) ?_
      refine xa_lastore2 d_X12_heldTold_53 (fun h12 _ => ?_)
      refine xa_step (xa_aload_n d_X12_heldTold_54 rfl) ?_
      refine xa_getf xR xc_12 (by decide) (fun _ => rfl) xw_1340 rfl d_X12_heldTold_55 (fun x13 _ => ?_)
      refine xa_step (xa_aload_n d_X12_heldTold_58 rfl) ?_
      refine xa_getf xR xc_12 (by decide) (fun _ => rfl) xw_1338 rfl d_X12_heldTold_59 (fun x14 _ => ?_)
      refine xa_step (xa_iconst d_X12_heldTold_62 xq_i_0) ?_
      refine xa_iaload d_X12_heldTold_63 (fun x15 _ => ?_)
      refine xa_step (xa_iload d_X12_heldTold_64 rfl) ?_
      refine xa_iastore2 d_X12_heldTold_66 (fun h16 _ => ?_)
      refine xa_step (xa_aload_n d_X12_heldTold_67 rfl) ?_
      refine xa_getf xR xc_12 (by decide) (fun _ => rfl) xw_1338 rfl d_X12_heldTold_68 (fun x17 _ => ?_)
      refine xa_step (xa_iconst d_X12_heldTold_71 xq_i_0) ?_
      refine xa_step (xa_dup2 d_X12_heldTold_72 (xa_tI _) (xa_tR _)) ?_
      refine xa_iaload d_X12_heldTold_73 (fun x18 _ => ?_)
      refine xa_step (xa_iconst d_X12_heldTold_74 xq_i_1) ?_
      refine xa_step (xa_iadd d_X12_heldTold_75) ?_
      refine xa_iastore2 d_X12_heldTold_76 (fun h19 _ => ?_)
      exact xa_vret d_X12_heldTold_77 rfl rfl
    · exact xa_vret d_X12_heldTold_41 rfl rfl
  · exact xa_vret d_X12_heldTold_11 rfl rfl
theorem ct_X12_heldTold (l : Launch) (G : xa_C) (v0 v1 : Int) (h : xa_H) (r : xa_H) (hr : f_X12_heldTold v0 v1 h = some r) : xa_CT l G 7 mX12_heldTold yX12_heldTold [xR v0, xI v1] h (none, r) :=
  xa_met (by decide +kernel) rfl (fun q => by first | rfl | cases q) (Nat.le_of_ble_eq_true rfl) rfl (g_X12_heldTold l G v0 v1 h) (by rw [hr]; rfl)
abbrev mX12_holderTold : xa_M := (cX12_holderTold, 8, none, RX12, false)
theorem d_X12_holderTold_0 : decode mX12_holderTold.1 0 = .ok (.aload_n 0, 1) ∧ 0 + 1 = 1 := ⟨by decide +kernel, rfl⟩
theorem d_X12_holderTold_1 : decode mX12_holderTold.1 1 = .ok (.iconst 1, 1) ∧ 1 + 1 = 2 := ⟨by decide +kernel, rfl⟩
theorem d_X12_holderTold_2 : decode mX12_holderTold.1 2 = .ok (.bipush 6, 2) ∧ 2 + 2 = 4 := ⟨by decide +kernel, rfl⟩
theorem d_X12_holderTold_4 : decode mX12_holderTold.1 4 = .ok (.iload_n 1, 1) ∧ 4 + 1 = 5 := ⟨by decide +kernel, rfl⟩
theorem d_X12_holderTold_5 : decode mX12_holderTold.1 5 = .ok (.invokevirtual 316, 3) ∧ 5 + 3 = 8 := ⟨by decide +kernel, rfl⟩
theorem d_X12_holderTold_8 : decode mX12_holderTold.1 8 = .ok (.ifCond .eq 4, 3) ∧ 8 + 3 = 11 ∧ ((8 : Nat) : Int) + 4 = ((12 : Nat) : Int) := ⟨by decide +kernel, rfl, rfl⟩
theorem d_X12_holderTold_12 : decode mX12_holderTold.1 12 = .ok (.aload_n 0, 1) ∧ 12 + 1 = 13 := ⟨by decide +kernel, rfl⟩
theorem d_X12_holderTold_13 : decode mX12_holderTold.1 13 = .ok (.invokevirtual 320, 3) ∧ 13 + 3 = 16 := ⟨by decide +kernel, rfl⟩
theorem d_X12_holderTold_16 : decode mX12_holderTold.1 16 = .ok (.lstore_n 2, 1) ∧ 16 + 1 = 17 := ⟨by decide +kernel, rfl⟩
theorem d_X12_holderTold_17 : decode mX12_holderTold.1 17 = .ok (.aload_n 0, 1) ∧ 17 + 1 = 18 := ⟨by decide +kernel, rfl⟩
theorem d_X12_holderTold_18 : decode mX12_holderTold.1 18 = .ok (.aload_n 0, 1) ∧ 18 + 1 = 19 := ⟨by decide +kernel, rfl⟩
theorem d_X12_holderTold_19 : decode mX12_holderTold.1 19 = .ok (.getfield 30, 3) ∧ 19 + 3 = 22 := ⟨by decide +kernel, rfl⟩
theorem d_X12_holderTold_22 : decode mX12_holderTold.1 22 = .ok (.invokevirtual 323, 3) ∧ 22 + 3 = 25 := ⟨by decide +kernel, rfl⟩
theorem d_X12_holderTold_25 : decode mX12_holderTold.1 25 = .ok (.aload_n 0, 1) ∧ 25 + 1 = 26 := ⟨by decide +kernel, rfl⟩
theorem d_X12_holderTold_26 : decode mX12_holderTold.1 26 = .ok (.iconst 0, 1) ∧ 26 + 1 = 27 := ⟨by decide +kernel, rfl⟩
theorem d_X12_holderTold_27 : decode mX12_holderTold.1 27 = .ok (.invokevirtual 331, 3) ∧ 27 + 3 = 30 := ⟨by decide +kernel, rfl⟩
theorem d_X12_holderTold_30 : decode mX12_holderTold.1 30 = .ok (.istore 4, 2) ∧ 30 + 2 = 32 := ⟨by decide +kernel, rfl⟩
theorem d_X12_holderTold_32 : decode mX12_holderTold.1 32 = .ok (.iconst 0, 1) ∧ 32 + 1 = 33 := ⟨by decide +kernel, rfl⟩
theorem d_X12_holderTold_33 : decode mX12_holderTold.1 33 = .ok (.istore 5, 2) ∧ 33 + 2 = 35 := ⟨by decide +kernel, rfl⟩
theorem d_X12_holderTold_35 : decode mX12_holderTold.1 35 = .ok (.iload 5, 2) ∧ 35 + 2 = 37 := ⟨by decide +kernel, rfl⟩
theorem d_X12_holderTold_37 : decode mX12_holderTold.1 37 = .ok (.aload_n 0, 1) ∧ 37 + 1 = 38 := ⟨by decide +kernel, rfl⟩
theorem d_X12_holderTold_38 : decode mX12_holderTold.1 38 = .ok (.getfield 90, 3) ∧ 38 + 3 = 41 := ⟨by decide +kernel, rfl⟩
theorem d_X12_holderTold_41 : decode mX12_holderTold.1 41 = .ok (.iconst 1, 1) ∧ 41 + 1 = 42 := ⟨by decide +kernel, rfl⟩
theorem d_X12_holderTold_42 : decode mX12_holderTold.1 42 = .ok (.iaload, 1) ∧ 42 + 1 = 43 := ⟨by decide +kernel, rfl⟩
theorem d_X12_holderTold_43 : decode mX12_holderTold.1 43 = .ok (.if_icmp .ge 37, 3) ∧ 43 + 3 = 46 ∧ ((43 : Nat) : Int) + 37 = ((80 : Nat) : Int) := ⟨by decide +kernel, rfl, rfl⟩
theorem d_X12_holderTold_46 : decode mX12_holderTold.1 46 = .ok (.aload_n 0, 1) ∧ 46 + 1 = 47 := ⟨by decide +kernel, rfl⟩
theorem d_X12_holderTold_47 : decode mX12_holderTold.1 47 = .ok (.getfield 249, 3) ∧ 47 + 3 = 50 := ⟨by decide +kernel, rfl⟩
theorem d_X12_holderTold_50 : decode mX12_holderTold.1 50 = .ok (.ifCond .ne 24, 3) ∧ 50 + 3 = 53 ∧ ((50 : Nat) : Int) + 24 = ((74 : Nat) : Int) := ⟨by decide +kernel, rfl, rfl⟩
theorem d_X12_holderTold_53 : decode mX12_holderTold.1 53 = .ok (.aload_n 0, 1) ∧ 53 + 1 = 54 := ⟨by decide +kernel, rfl⟩
theorem d_X12_holderTold_54 : decode mX12_holderTold.1 54 = .ok (.getfield 103, 3) ∧ 54 + 3 = 57 := ⟨by decide +kernel, rfl⟩
theorem d_X12_holderTold_57 : decode mX12_holderTold.1 57 = .ok (.iload 5, 2) ∧ 57 + 2 = 59 := ⟨by decide +kernel, rfl⟩
theorem d_X12_holderTold_59 : decode mX12_holderTold.1 59 = .ok (.iaload, 1) ∧ 59 + 1 = 60 := ⟨by decide +kernel, rfl⟩
theorem d_X12_holderTold_60 : decode mX12_holderTold.1 60 = .ok (.iload 4, 2) ∧ 60 + 2 = 62 := ⟨by decide +kernel, rfl⟩
theorem d_X12_holderTold_62 : decode mX12_holderTold.1 62 = .ok (.if_icmp .ne 12, 3) ∧ 62 + 3 = 65 ∧ ((62 : Nat) : Int) + 12 = ((74 : Nat) : Int) := ⟨by decide +kernel, rfl, rfl⟩
theorem d_X12_holderTold_65 : decode mX12_holderTold.1 65 = .ok (.aload_n 0, 1) ∧ 65 + 1 = 66 := ⟨by decide +kernel, rfl⟩
theorem d_X12_holderTold_66 : decode mX12_holderTold.1 66 = .ok (.iconst 3, 1) ∧ 66 + 1 = 67 := ⟨by decide +kernel, rfl⟩
theorem d_X12_holderTold_67 : decode mX12_holderTold.1 67 = .ok (.aload_n 0, 1) ∧ 67 + 1 = 68 := ⟨by decide +kernel, rfl⟩
theorem d_X12_holderTold_68 : decode mX12_holderTold.1 68 = .ok (.getfield 297, 3) ∧ 68 + 3 = 71 := ⟨by decide +kernel, rfl⟩
theorem d_X12_holderTold_71 : decode mX12_holderTold.1 71 = .ok (.invokevirtual 279, 3) ∧ 71 + 3 = 74 := ⟨by decide +kernel, rfl⟩
theorem d_X12_holderTold_74 : decode mX12_holderTold.1 74 = .ok (.iinc 5 1, 3) ∧ 74 + 3 = 77 := ⟨by decide +kernel, rfl⟩
theorem d_X12_holderTold_77 : decode mX12_holderTold.1 77 = .ok (.goto (-42), 3) ∧ ((77 : Nat) : Int) + (-42) = ((35 : Nat) : Int) := ⟨by decide +kernel, rfl⟩
set_option maxRecDepth 100000 in
set_option maxHeartbeats 4000000 in
theorem g_X12_holderTold_L35 (l : Launch) (G : xa_C) (c0 c2 c4 : Int) (K : (Int × xa_H) ⊕ (xa_H) → Option xa_O) (hb : ∀ (v5 : Int) (h : xa_H), xa_G l G 7 mX12_holderTold (some (Sum.inl ((v5, h)))) K 35 [some (xR c0), none, some (xL c2), none, some (xI c4), some (xI v5), none, none] [] h) (hx : ∀ (h : xa_H), xa_G l G 7 mX12_holderTold (some (Sum.inr h)) K 80 [some (xR c0), none, some (xL c2), none, some (xI c4), none, none, none] [] h) : ∀ (v5 : Int) (h : xa_H), xa_G l G 7 mX12_holderTold (f_X12_holderTold_L35 c0 c2 c4 v5 h) K 35 [some (xR c0), none, some (xL c2), none, some (xI c4), some (xI v5), none, none] [] h := by
  intro v5 h
  unfold f_X12_holderTold_L35
  refine xa_step (xa_iload d_X12_holderTold_35 rfl) ?_
  refine xa_step (xa_aload_n d_X12_holderTold_37 rfl) ?_
  refine xa_getf xR xc_12 (by decide) (fun _ => rfl) xw_1338 rfl d_X12_holderTold_38 (fun x7 _ => ?_)
  refine xa_step (xa_iconst d_X12_holderTold_41 xq_i_1) ?_
  refine xa_iaload d_X12_holderTold_42 (fun x8 _ => ?_)
  refine xa_if (xa_icmpge d_X12_holderTold_43) (fun q9 => ?_) (fun q9 => ?_)
  · refine xa_step (xa_aload_n d_X12_holderTold_46 rfl) ?_
    refine xa_getf xI xc_12 (by decide) (fun _ => rfl) xw_1309 rfl d_X12_holderTold_47 (fun x10 _ => ?_)
    refine xa_if (xa_ifne d_X12_holderTold_50) (fun q11 => ?_) (fun q11 => ?_)
    · refine xa_step (xa_aload_n d_X12_holderTold_53 rfl) ?_
      refine xa_getf xR xc_12 (by decide) (fun _ => rfl) xw_1342 rfl d_X12_holderTold_54 (fun x12 _ => ?_)
      refine xa_step (xa_iload d_X12_holderTold_57 rfl) ?_
      refine xa_iaload d_X12_holderTold_59 (fun x13 _ => ?_)
      refine xa_step (xa_iload d_X12_holderTold_60 rfl) ?_
      refine xa_if (xa_icmpne d_X12_holderTold_62) (fun q14 => ?_) (fun q14 => ?_)
      · refine xa_step (xa_aload_n d_X12_holderTold_65 rfl) ?_
        refine xa_step (xa_iconst d_X12_holderTold_66 xq_i_3) ?_
        refine xa_step (xa_aload_n d_X12_holderTold_67 rfl) ?_
        refine xa_getf xI xc_12 (by decide) (fun _ => rfl) xw_1337 rfl d_X12_holderTold_68 (fun x15 _ => ?_)
        refine xa_callVV (as := [xI 3, xI x15]) (st := []) (M' := mX12_fail) (d' := 2) rfl xw_1654 xw_1656 xw_68 xw_1657 xw_177 xh_X12_fail rfl ⟨Nat.le_of_ble_eq_true rfl, Nat.le_of_ble_eq_true rfl⟩ (Nat.le_of_ble_eq_true rfl) rfl d_X12_holderTold_71 (fun r hr => ct_X12_fail l G c0 3 x15 h r hr) (fun r16 _ => ?_)
        refine xa_step (xa_iinc (ls' := [some (xR c0), none, some (xL c2), none, some (xI c4), some (xI (w32 (v5 + 1))), none, none]) d_X12_holderTold_74 xq_i_1 rfl (by decide) rfl) ?_
        refine xa_step (xa_goto d_X12_holderTold_77) ?_
        exact xa_weak (ls' := [some (xR c0), none, some (xL c2), none, some (xI c4), some (xI (w32 (v5 + 1))), none, none]) ⟨rfl, rfl, rfl, rfl, trivial⟩ (hb (w32 (v5 + 1)) r16)
      · refine xa_step (xa_iinc (ls' := [some (xR c0), none, some (xL c2), none, some (xI c4), some (xI (w32 (v5 + 1))), none, none]) d_X12_holderTold_74 xq_i_1 rfl (by decide) rfl) ?_
        refine xa_step (xa_goto d_X12_holderTold_77) ?_
        exact xa_weak (ls' := [some (xR c0), none, some (xL c2), none, some (xI c4), some (xI (w32 (v5 + 1))), none, none]) ⟨rfl, rfl, rfl, rfl, trivial⟩ (hb (w32 (v5 + 1)) h)
    · refine xa_step (xa_iinc (ls' := [some (xR c0), none, some (xL c2), none, some (xI c4), some (xI (w32 (v5 + 1))), none, none]) d_X12_holderTold_74 xq_i_1 rfl (by decide) rfl) ?_
      refine xa_step (xa_goto d_X12_holderTold_77) ?_
      exact xa_weak (ls' := [some (xR c0), none, some (xL c2), none, some (xI c4), some (xI (w32 (v5 + 1))), none, none]) ⟨rfl, rfl, rfl, rfl, trivial⟩ (hb (w32 (v5 + 1)) h)
  · exact xa_weak (ls' := [some (xR c0), none, some (xL c2), none, some (xI c4), none, none, none]) ⟨rfl, rfl, rfl, trivial⟩ (hx h)
theorem d_X12_holderTold_80 : decode mX12_holderTold.1 80 = .ok (.aload_n 0, 1) ∧ 80 + 1 = 81 := ⟨by decide +kernel, rfl⟩
theorem d_X12_holderTold_81 : decode mX12_holderTold.1 81 = .ok (.aload_n 0, 1) ∧ 81 + 1 = 82 := ⟨by decide +kernel, rfl⟩
theorem d_X12_holderTold_82 : decode mX12_holderTold.1 82 = .ok (.getfield 33, 3) ∧ 82 + 3 = 85 := ⟨by decide +kernel, rfl⟩
theorem d_X12_holderTold_85 : decode mX12_holderTold.1 85 = .ok (.invokevirtual 323, 3) ∧ 85 + 3 = 88 := ⟨by decide +kernel, rfl⟩
theorem d_X12_holderTold_88 : decode mX12_holderTold.1 88 = .ok (.aload_n 0, 1) ∧ 88 + 1 = 89 := ⟨by decide +kernel, rfl⟩
theorem d_X12_holderTold_89 : decode mX12_holderTold.1 89 = .ok (.iconst 0, 1) ∧ 89 + 1 = 90 := ⟨by decide +kernel, rfl⟩
theorem d_X12_holderTold_90 : decode mX12_holderTold.1 90 = .ok (.invokevirtual 331, 3) ∧ 90 + 3 = 93 := ⟨by decide +kernel, rfl⟩
theorem d_X12_holderTold_93 : decode mX12_holderTold.1 93 = .ok (.istore 5, 2) ∧ 93 + 2 = 95 := ⟨by decide +kernel, rfl⟩
theorem d_X12_holderTold_95 : decode mX12_holderTold.1 95 = .ok (.aload_n 0, 1) ∧ 95 + 1 = 96 := ⟨by decide +kernel, rfl⟩
theorem d_X12_holderTold_96 : decode mX12_holderTold.1 96 = .ok (.aload_n 0, 1) ∧ 96 + 1 = 97 := ⟨by decide +kernel, rfl⟩
theorem d_X12_holderTold_97 : decode mX12_holderTold.1 97 = .ok (.getfield 36, 3) ∧ 97 + 3 = 100 := ⟨by decide +kernel, rfl⟩
theorem d_X12_holderTold_100 : decode mX12_holderTold.1 100 = .ok (.invokevirtual 323, 3) ∧ 100 + 3 = 103 := ⟨by decide +kernel, rfl⟩
theorem d_X12_holderTold_103 : decode mX12_holderTold.1 103 = .ok (.aload_n 0, 1) ∧ 103 + 1 = 104 := ⟨by decide +kernel, rfl⟩
theorem d_X12_holderTold_104 : decode mX12_holderTold.1 104 = .ok (.iconst 0, 1) ∧ 104 + 1 = 105 := ⟨by decide +kernel, rfl⟩
theorem d_X12_holderTold_105 : decode mX12_holderTold.1 105 = .ok (.sipush 999, 3) ∧ 105 + 3 = 108 := ⟨by decide +kernel, rfl⟩
theorem d_X12_holderTold_108 : decode mX12_holderTold.1 108 = .ok (.invokevirtual 327, 3) ∧ 108 + 3 = 111 := ⟨by decide +kernel, rfl⟩
theorem d_X12_holderTold_111 : decode mX12_holderTold.1 111 = .ok (.istore 6, 2) ∧ 111 + 2 = 113 := ⟨by decide +kernel, rfl⟩
theorem d_X12_holderTold_113 : decode mX12_holderTold.1 113 = .ok (.aload_n 0, 1) ∧ 113 + 1 = 114 := ⟨by decide +kernel, rfl⟩
theorem d_X12_holderTold_114 : decode mX12_holderTold.1 114 = .ok (.getfield 249, 3) ∧ 114 + 3 = 117 := ⟨by decide +kernel, rfl⟩
theorem d_X12_holderTold_117 : decode mX12_holderTold.1 117 = .ok (.ifCond .eq 4, 3) ∧ 117 + 3 = 120 ∧ ((117 : Nat) : Int) + 4 = ((121 : Nat) : Int) := ⟨by decide +kernel, rfl, rfl⟩
theorem d_X12_holderTold_121 : decode mX12_holderTold.1 121 = .ok (.aload_n 0, 1) ∧ 121 + 1 = 122 := ⟨by decide +kernel, rfl⟩
theorem d_X12_holderTold_122 : decode mX12_holderTold.1 122 = .ok (.getfield 90, 3) ∧ 122 + 3 = 125 := ⟨by decide +kernel, rfl⟩
theorem d_X12_holderTold_125 : decode mX12_holderTold.1 125 = .ok (.iconst 1, 1) ∧ 125 + 1 = 126 := ⟨by decide +kernel, rfl⟩
theorem d_X12_holderTold_126 : decode mX12_holderTold.1 126 = .ok (.iaload, 1) ∧ 126 + 1 = 127 := ⟨by decide +kernel, rfl⟩
theorem d_X12_holderTold_127 : decode mX12_holderTold.1 127 = .ok (.istore 7, 2) ∧ 127 + 2 = 129 := ⟨by decide +kernel, rfl⟩
theorem d_X12_holderTold_129 : decode mX12_holderTold.1 129 = .ok (.aload_n 0, 1) ∧ 129 + 1 = 130 := ⟨by decide +kernel, rfl⟩
theorem d_X12_holderTold_130 : decode mX12_holderTold.1 130 = .ok (.getfield 93, 3) ∧ 130 + 3 = 133 := ⟨by decide +kernel, rfl⟩
theorem d_X12_holderTold_133 : decode mX12_holderTold.1 133 = .ok (.bipush 6, 2) ∧ 133 + 2 = 135 := ⟨by decide +kernel, rfl⟩
theorem d_X12_holderTold_135 : decode mX12_holderTold.1 135 = .ok (.iload 7, 2) ∧ 135 + 2 = 137 := ⟨by decide +kernel, rfl⟩
theorem d_X12_holderTold_137 : decode mX12_holderTold.1 137 = .ok (.iadd, 1) ∧ 137 + 1 = 138 := ⟨by decide +kernel, rfl⟩
theorem d_X12_holderTold_138 : decode mX12_holderTold.1 138 = .ok (.lload_n 2, 1) ∧ 138 + 1 = 139 := ⟨by decide +kernel, rfl⟩
theorem d_X12_holderTold_139 : decode mX12_holderTold.1 139 = .ok (.lastore, 1) ∧ 139 + 1 = 140 := ⟨by decide +kernel, rfl⟩
theorem d_X12_holderTold_140 : decode mX12_holderTold.1 140 = .ok (.aload_n 0, 1) ∧ 140 + 1 = 141 := ⟨by decide +kernel, rfl⟩
theorem d_X12_holderTold_141 : decode mX12_holderTold.1 141 = .ok (.getfield 103, 3) ∧ 141 + 3 = 144 := ⟨by decide +kernel, rfl⟩
theorem d_X12_holderTold_144 : decode mX12_holderTold.1 144 = .ok (.iload 7, 2) ∧ 144 + 2 = 146 := ⟨by decide +kernel, rfl⟩
theorem d_X12_holderTold_146 : decode mX12_holderTold.1 146 = .ok (.iload 4, 2) ∧ 146 + 2 = 148 := ⟨by decide +kernel, rfl⟩
theorem d_X12_holderTold_148 : decode mX12_holderTold.1 148 = .ok (.iastore, 1) ∧ 148 + 1 = 149 := ⟨by decide +kernel, rfl⟩
theorem d_X12_holderTold_149 : decode mX12_holderTold.1 149 = .ok (.aload_n 0, 1) ∧ 149 + 1 = 150 := ⟨by decide +kernel, rfl⟩
theorem d_X12_holderTold_150 : decode mX12_holderTold.1 150 = .ok (.getfield 106, 3) ∧ 150 + 3 = 153 := ⟨by decide +kernel, rfl⟩
theorem d_X12_holderTold_153 : decode mX12_holderTold.1 153 = .ok (.iload 7, 2) ∧ 153 + 2 = 155 := ⟨by decide +kernel, rfl⟩
theorem d_X12_holderTold_155 : decode mX12_holderTold.1 155 = .ok (.iload 5, 2) ∧ 155 + 2 = 157 := ⟨by decide +kernel, rfl⟩
theorem d_X12_holderTold_157 : decode mX12_holderTold.1 157 = .ok (.iastore, 1) ∧ 157 + 1 = 158 := ⟨by decide +kernel, rfl⟩
theorem d_X12_holderTold_158 : decode mX12_holderTold.1 158 = .ok (.aload_n 0, 1) ∧ 158 + 1 = 159 := ⟨by decide +kernel, rfl⟩
theorem d_X12_holderTold_159 : decode mX12_holderTold.1 159 = .ok (.getfield 109, 3) ∧ 159 + 3 = 162 := ⟨by decide +kernel, rfl⟩
theorem d_X12_holderTold_162 : decode mX12_holderTold.1 162 = .ok (.iload 7, 2) ∧ 162 + 2 = 164 := ⟨by decide +kernel, rfl⟩
theorem d_X12_holderTold_164 : decode mX12_holderTold.1 164 = .ok (.iload 6, 2) ∧ 164 + 2 = 166 := ⟨by decide +kernel, rfl⟩
theorem d_X12_holderTold_166 : decode mX12_holderTold.1 166 = .ok (.iastore, 1) ∧ 166 + 1 = 167 := ⟨by decide +kernel, rfl⟩
theorem d_X12_holderTold_167 : decode mX12_holderTold.1 167 = .ok (.aload_n 0, 1) ∧ 167 + 1 = 168 := ⟨by decide +kernel, rfl⟩
theorem d_X12_holderTold_168 : decode mX12_holderTold.1 168 = .ok (.getfield 90, 3) ∧ 168 + 3 = 171 := ⟨by decide +kernel, rfl⟩
theorem d_X12_holderTold_171 : decode mX12_holderTold.1 171 = .ok (.iconst 1, 1) ∧ 171 + 1 = 172 := ⟨by decide +kernel, rfl⟩
theorem d_X12_holderTold_172 : decode mX12_holderTold.1 172 = .ok (.dup2, 1) ∧ 172 + 1 = 173 := ⟨by decide +kernel, rfl⟩
theorem d_X12_holderTold_173 : decode mX12_holderTold.1 173 = .ok (.iaload, 1) ∧ 173 + 1 = 174 := ⟨by decide +kernel, rfl⟩
theorem d_X12_holderTold_174 : decode mX12_holderTold.1 174 = .ok (.iconst 1, 1) ∧ 174 + 1 = 175 := ⟨by decide +kernel, rfl⟩
theorem d_X12_holderTold_175 : decode mX12_holderTold.1 175 = .ok (.iadd, 1) ∧ 175 + 1 = 176 := ⟨by decide +kernel, rfl⟩
theorem d_X12_holderTold_176 : decode mX12_holderTold.1 176 = .ok (.iastore, 1) ∧ 176 + 1 = 177 := ⟨by decide +kernel, rfl⟩
theorem d_X12_holderTold_177 : decode mX12_holderTold.1 177 = .ok (.return_, 1) := by decide +kernel
theorem d_X12_holderTold_120 : decode mX12_holderTold.1 120 = .ok (.return_, 1) := by decide +kernel
theorem d_X12_holderTold_11 : decode mX12_holderTold.1 11 = .ok (.return_, 1) := by decide +kernel
set_option maxRecDepth 100000 in
set_option maxHeartbeats 4000000 in
theorem g_X12_holderTold (l : Launch) (G : xa_C) (v0 v1 : Int) (h : xa_H) : xa_G l G 7 mX12_holderTold (f_X12_holderTold v0 v1 h) (fun r => some (none, r) : xa_H → Option xa_O) 0 [some (xR v0), some (xI v1), none, none, none, none, none, none] [] h := by
  unfold f_X12_holderTold
  refine xa_step (xa_aload_n d_X12_holderTold_0 rfl) ?_
  refine xa_step (xa_iconst d_X12_holderTold_1 xq_i_1) ?_
  refine xa_step (xa_bipush d_X12_holderTold_2 xq_b_6) ?_
  refine xa_step (xa_iload_n d_X12_holderTold_4 rfl) ?_
  refine xa_callVI (as := [xI 1, xI 6, xI v1]) (st := []) (M' := mX12_isFull) (d' := 3) rfl xw_1673 xw_1675 xw_72 xw_1676 xw_177 xh_X12_isFull rfl ⟨Nat.le_of_ble_eq_true rfl, Nat.le_of_ble_eq_true rfl⟩ (Nat.le_of_ble_eq_true rfl) rfl d_X12_holderTold_5 (fun r hr => ct_X12_isFull l G v0 1 6 v1 h r hr) (fun r1 _ => ?_)
  refine xa_if (xa_ifeq d_X12_holderTold_8) (fun q2 => ?_) (fun q2 => ?_)
  · refine xa_step (xa_aload_n d_X12_holderTold_12 rfl) ?_
    refine xa_callVL (as := []) (st := []) (M' := mX12_newName) (d' := 6) rfl xw_1677 xw_1679 xw_73 xw_1680 xw_177 xh_X12_newName rfl ⟨Nat.le_of_ble_eq_true rfl, Nat.le_of_ble_eq_true rfl⟩ (Nat.le_of_ble_eq_true rfl) rfl d_X12_holderTold_13 (fun r hr => ct_X12_newName l G v0 r1.2 r hr) (fun r3 _ => ?_)
    refine xa_step (xa_lstore_n (ls' := [some (xR v0), some (xI v1), some (xL r3.1), none, none, none, none, none]) d_X12_holderTold_16 (by decide) rfl) ?_
    refine xa_step (xa_aload_n d_X12_holderTold_17 rfl) ?_
    refine xa_step (xa_aload_n d_X12_holderTold_18 rfl) ?_
    refine xa_getf xR xc_12 (by decide) (fun _ => rfl) xw_1317 rfl d_X12_holderTold_19 (fun x4 _ => ?_)
    refine xa_callVV (as := [xR x4]) (st := []) (M' := mX12_asks) (d' := 5) rfl xw_1695 xw_1697 xw_77 xw_1698 xw_177 xh_X12_asks rfl ⟨Nat.le_of_ble_eq_true rfl, Nat.le_of_ble_eq_true rfl⟩ (Nat.le_of_ble_eq_true rfl) rfl d_X12_holderTold_22 (fun r hr => ct_X12_asks l G v0 x4 r3.2 r hr) (fun r5 _ => ?_)
    refine xa_step (xa_aload_n d_X12_holderTold_25 rfl) ?_
    refine xa_step (xa_iconst d_X12_holderTold_26 xq_i_0) ?_
    refine xa_callVI (as := [xI 0]) (st := []) (M' := mX12_oneOf) (d' := 6) rfl xw_1713 xw_1715 xw_80 xw_1716 xw_177 xh_X12_oneOf rfl ⟨Nat.le_of_ble_eq_true rfl, Nat.le_of_ble_eq_true rfl⟩ (Nat.le_of_ble_eq_true rfl) rfl d_X12_holderTold_27 (fun r hr => ct_X12_oneOf l G v0 0 r5 r hr) (fun r6 _ => ?_)
    refine xa_step (xa_istore (ls' := [some (xR v0), some (xI v1), some (xL r3.1), none, some (xI r6.1), none, none, none]) d_X12_holderTold_30 (by decide) rfl) ?_
    refine xa_step (xa_iconst d_X12_holderTold_32 xq_i_0) ?_
    refine xa_step (xa_istore (ls' := [some (xR v0), some (xI v1), some (xL r3.1), none, some (xI r6.1), some (xI 0), none, none]) d_X12_holderTold_33 (by decide) rfl) ?_
    refine xa_weak (ls' := [some (xR v0), none, some (xL r3.1), none, some (xI r6.1), some (xI 0), none, none]) ⟨rfl, rfl, rfl, rfl, trivial⟩ ?_
    refine xa_loop (f := fun s => f_X12_holderTold_L35 v0 r3.1 r6.1 s.1 s.2) (L := fun s => [some (xR v0), none, some (xL r3.1), none, some (xI r6.1), some (xI s.1), none, none]) (P := fun s => s.2) (X := (fun x K => xa_G l G 7 mX12_holderTold (some (Sum.inr x)) K 80 [some (xR v0), none, some (xL r3.1), none, some (xI r6.1), none, none, none] [] x)) (fun K hb hX s => g_X12_holderTold_L35 l G v0 r3.1 r6.1 K (fun w0 hh => hb ((w0, hh))) (fun hh => hX hh) s.1 s.2) ?_ xFU ((0, r6.2))
    intro e17 K hK
    refine xa_eqE hK ?_
    show xa_G l G 7 mX12_holderTold _ _ 80 [some (xR v0), none, some (xL r3.1), none, some (xI r6.1), none, none, none] [] e17
    refine xa_step (xa_aload_n d_X12_holderTold_80 rfl) ?_
    refine xa_step (xa_aload_n d_X12_holderTold_81 rfl) ?_
    refine xa_getf xR xc_12 (by decide) (fun _ => rfl) xw_1318 rfl d_X12_holderTold_82 (fun x18 _ => ?_)
    refine xa_callVV (as := [xR x18]) (st := []) (M' := mX12_asks) (d' := 5) rfl xw_1695 xw_1697 xw_77 xw_1698 xw_177 xh_X12_asks rfl ⟨Nat.le_of_ble_eq_true rfl, Nat.le_of_ble_eq_true rfl⟩ (Nat.le_of_ble_eq_true rfl) rfl d_X12_holderTold_85 (fun r hr => ct_X12_asks l G v0 x18 e17 r hr) (fun r19 _ => ?_)
    refine xa_step (xa_aload_n d_X12_holderTold_88 rfl) ?_
    refine xa_step (xa_iconst d_X12_holderTold_89 xq_i_0) ?_
    refine xa_callVI (as := [xI 0]) (st := []) (M' := mX12_oneOf) (d' := 6) rfl xw_1713 xw_1715 xw_80 xw_1716 xw_177 xh_X12_oneOf rfl ⟨Nat.le_of_ble_eq_true rfl, Nat.le_of_ble_eq_true rfl⟩ (Nat.le_of_ble_eq_true rfl) rfl d_X12_holderTold_90 (fun r hr => ct_X12_oneOf l G v0 0 r19 r hr) (fun r20 _ => ?_)
    refine xa_step (xa_istore (ls' := [some (xR v0), none, some (xL r3.1), none, some (xI r6.1), some (xI r20.1), none, none]) d_X12_holderTold_93 (by decide) rfl) ?_
    refine xa_step (xa_aload_n d_X12_holderTold_95 rfl) ?_
    refine xa_step (xa_aload_n d_X12_holderTold_96 rfl) ?_
    refine xa_getf xR xc_12 (by decide) (fun _ => rfl) xw_1319 rfl d_X12_holderTold_97 (fun x21 _ => ?_)
    refine xa_callVV (as := [xR x21]) (st := []) (M' := mX12_asks) (d' := 5) rfl xw_1695 xw_1697 xw_77 xw_1698 xw_177 xh_X12_asks rfl ⟨Nat.le_of_ble_eq_true rfl, Nat.le_of_ble_eq_true rfl⟩ (Nat.le_of_ble_eq_true rfl) rfl d_X12_holderTold_100 (fun r hr => ct_X12_asks l G v0 x21 r20.2 r hr) (fun r22 _ => ?_)
    refine xa_step (xa_aload_n d_X12_holderTold_103 rfl) ?_
    refine xa_step (xa_iconst d_X12_holderTold_104 xq_i_0) ?_
    refine xa_step (xa_sipush d_X12_holderTold_105 xq_s_999) ?_
    refine xa_callVI (as := [xI 0, xI 999]) (st := []) (M' := mX12_number) (d' := 3) rfl xw_1699 xw_1701 xw_78 xw_1702 xw_177 xh_X12_number rfl ⟨Nat.le_of_ble_eq_true rfl, Nat.le_of_ble_eq_true rfl⟩ (Nat.le_of_ble_eq_true rfl) rfl d_X12_holderTold_108 (fun r hr => ct_X12_number l G v0 0 999 r22 r hr) (fun r23 _ => ?_)
    refine xa_step (xa_istore (ls' := [some (xR v0), none, some (xL r3.1), none, some (xI r6.1), some (xI r20.1), some (xI r23.1), none]) d_X12_holderTold_111 (by decide) rfl) ?_
    refine xa_step (xa_aload_n d_X12_holderTold_113 rfl) ?_
    refine xa_getf xI xc_12 (by decide) (fun _ => rfl) xw_1309 rfl d_X12_holderTold_114 (fun x24 _ => ?_)
    refine xa_if (xa_ifeq d_X12_holderTold_117) (fun q25 => ?_) (fun q25 => ?_)
    · refine xa_step (xa_aload_n d_X12_holderTold_121 rfl) ?_
      refine xa_getf xR xc_12 (by decide) (fun _ => rfl) xw_1338 rfl d_X12_holderTold_122 (fun x26 _ => ?_)
      refine xa_step (xa_iconst d_X12_holderTold_125 xq_i_1) ?_
      refine xa_iaload d_X12_holderTold_126 (fun x27 _ => ?_)
      refine xa_step (xa_istore (ls' := [some (xR v0), none, some (xL r3.1), none, some (xI r6.1), some (xI r20.1), some (xI r23.1), some (xI x27)]) d_X12_holderTold_127 (by decide) rfl) ?_
      refine xa_step (xa_aload_n d_X12_holderTold_129 rfl) ?_
      refine xa_getf xR xc_12 (by decide) (fun _ => rfl) xw_1339 rfl d_X12_holderTold_130 (fun x28 _ => ?_)
      refine xa_step (xa_bipush d_X12_holderTold_133 xq_b_6) ?_
      refine xa_step (xa_iload d_X12_holderTold_135 rfl) ?_
      refine xa_step (xa_iadd d_X12_holderTold_137) ?_
      refine xa_step (xa_lload_n d_X12_holderTold_138 rfl) ?_
      refine xa_lastore2 d_X12_holderTold_139 (fun h29 _ => ?_)
      refine xa_step (xa_aload_n d_X12_holderTold_140 rfl) ?_
      refine xa_getf xR xc_12 (by decide) (fun _ => rfl) xw_1342 rfl d_X12_holderTold_141 (fun x30 _ => ?_)
      refine xa_step (xa_iload d_X12_holderTold_144 rfl) ?_
      refine xa_step (xa_iload d_X12_holderTold_146 rfl) ?_
      refine xa_iastore2 d_X12_holderTold_148 (fun h31 _ => ?_)
      refine xa_step (xa_aload_n d_X12_holderTold_149 rfl) ?_
      refine xa_getf xR xc_12 (by decide) (fun _ => rfl) xw_1343 rfl d_X12_holderTold_150 (fun x32 _ => ?_)
      refine xa_step (xa_iload d_X12_holderTold_153 rfl) ?_
      refine xa_step (xa_iload d_X12_holderTold_155 rfl) ?_
      refine xa_iastore2 d_X12_holderTold_157 (fun h33 _ => ?_)
      refine xa_step (xa_aload_n d_X12_holderTold_158 rfl) ?_
      refine xa_getf xR xc_12 (by decide) (fun _ => rfl) xw_1344 rfl d_X12_holderTold_159 (fun x34 _ => ?_)
      refine xa_step (xa_iload d_X12_holderTold_162 rfl) ?_
      refine xa_step (xa_iload d_X12_holderTold_164 rfl) ?_
      refine xa_iastore2 d_X12_holderTold_166 (fun h35 _ => ?_)
      refine xa_step (xa_aload_n d_X12_holderTold_167 rfl) ?_
      refine xa_getf xR xc_12 (by decide) (fun _ => rfl) xw_1338 rfl d_X12_holderTold_168 (fun x36 _ => ?_)
      refine xa_step (xa_iconst d_X12_holderTold_171 xq_i_1) ?_
      refine xa_step (xa_dup2 d_X12_holderTold_172 (xa_tI _) (xa_tR _)) ?_
      refine xa_iaload d_X12_holderTold_173 (fun x37 _ => ?_)
      refine xa_step (xa_iconst d_X12_holderTold_174 xq_i_1) ?_
      refine xa_step (xa_iadd d_X12_holderTold_175) ?_
      refine xa_iastore2 d_X12_holderTold_176 (fun h38 _ => ?_)
      exact xa_vret d_X12_holderTold_177 rfl rfl
    · exact xa_vret d_X12_holderTold_120 rfl rfl
  · exact xa_vret d_X12_holderTold_11 rfl rfl
theorem ct_X12_holderTold (l : Launch) (G : xa_C) (v0 v1 : Int) (h : xa_H) (r : xa_H) (hr : f_X12_holderTold v0 v1 h = some r) : xa_CT l G 7 mX12_holderTold yX12_holderTold [xR v0, xI v1] h (none, r) :=
  xa_met (by decide +kernel) rfl (fun q => by first | rfl | cases q) (Nat.le_of_ble_eq_true rfl) rfl (g_X12_holderTold l G v0 v1 h) (by rw [hr]; rfl)
abbrev mX12_sisterTold : xa_M := (cX12_sisterTold, 3, none, RX12, false)
theorem d_X12_sisterTold_0 : decode mX12_sisterTold.1 0 = .ok (.aload_n 0, 1) ∧ 0 + 1 = 1 := ⟨by decide +kernel, rfl⟩
theorem d_X12_sisterTold_1 : decode mX12_sisterTold.1 1 = .ok (.iconst 0, 1) ∧ 1 + 1 = 2 := ⟨by decide +kernel, rfl⟩
theorem d_X12_sisterTold_2 : decode mX12_sisterTold.1 2 = .ok (.invokevirtual 331, 3) ∧ 2 + 3 = 5 := ⟨by decide +kernel, rfl⟩
theorem d_X12_sisterTold_5 : decode mX12_sisterTold.1 5 = .ok (.istore_n 1, 1) ∧ 5 + 1 = 6 := ⟨by decide +kernel, rfl⟩
theorem d_X12_sisterTold_6 : decode mX12_sisterTold.1 6 = .ok (.aload_n 0, 1) ∧ 6 + 1 = 7 := ⟨by decide +kernel, rfl⟩
theorem d_X12_sisterTold_7 : decode mX12_sisterTold.1 7 = .ok (.getfield 249, 3) ∧ 7 + 3 = 10 := ⟨by decide +kernel, rfl⟩
theorem d_X12_sisterTold_10 : decode mX12_sisterTold.1 10 = .ok (.ifCond .ne 22, 3) ∧ 10 + 3 = 13 ∧ ((10 : Nat) : Int) + 22 = ((32 : Nat) : Int) := ⟨by decide +kernel, rfl, rfl⟩
theorem d_X12_sisterTold_13 : decode mX12_sisterTold.1 13 = .ok (.aload_n 0, 1) ∧ 13 + 1 = 14 := ⟨by decide +kernel, rfl⟩
theorem d_X12_sisterTold_14 : decode mX12_sisterTold.1 14 = .ok (.getfield 100, 3) ∧ 14 + 3 = 17 := ⟨by decide +kernel, rfl⟩
theorem d_X12_sisterTold_17 : decode mX12_sisterTold.1 17 = .ok (.iload_n 1, 1) ∧ 17 + 1 = 18 := ⟨by decide +kernel, rfl⟩
theorem d_X12_sisterTold_18 : decode mX12_sisterTold.1 18 = .ok (.iaload, 1) ∧ 18 + 1 = 19 := ⟨by decide +kernel, rfl⟩
theorem d_X12_sisterTold_19 : decode mX12_sisterTold.1 19 = .ok (.iconst (-1), 1) ∧ 19 + 1 = 20 := ⟨by decide +kernel, rfl⟩
theorem d_X12_sisterTold_20 : decode mX12_sisterTold.1 20 = .ok (.if_icmp .eq 12, 3) ∧ 20 + 3 = 23 ∧ ((20 : Nat) : Int) + 12 = ((32 : Nat) : Int) := ⟨by decide +kernel, rfl, rfl⟩
theorem d_X12_sisterTold_32 : decode mX12_sisterTold.1 32 = .ok (.aload_n 0, 1) ∧ 32 + 1 = 33 := ⟨by decide +kernel, rfl⟩
theorem d_X12_sisterTold_33 : decode mX12_sisterTold.1 33 = .ok (.iconst 0, 1) ∧ 33 + 1 = 34 := ⟨by decide +kernel, rfl⟩
theorem d_X12_sisterTold_34 : decode mX12_sisterTold.1 34 = .ok (.invokevirtual 331, 3) ∧ 34 + 3 = 37 := ⟨by decide +kernel, rfl⟩
theorem d_X12_sisterTold_37 : decode mX12_sisterTold.1 37 = .ok (.istore_n 2, 1) ∧ 37 + 1 = 38 := ⟨by decide +kernel, rfl⟩
theorem d_X12_sisterTold_38 : decode mX12_sisterTold.1 38 = .ok (.aload_n 0, 1) ∧ 38 + 1 = 39 := ⟨by decide +kernel, rfl⟩
theorem d_X12_sisterTold_39 : decode mX12_sisterTold.1 39 = .ok (.getfield 249, 3) ∧ 39 + 3 = 42 := ⟨by decide +kernel, rfl⟩
theorem d_X12_sisterTold_42 : decode mX12_sisterTold.1 42 = .ok (.ifCond .ne 17, 3) ∧ 42 + 3 = 45 ∧ ((42 : Nat) : Int) + 17 = ((59 : Nat) : Int) := ⟨by decide +kernel, rfl, rfl⟩
theorem d_X12_sisterTold_45 : decode mX12_sisterTold.1 45 = .ok (.iload_n 1, 1) ∧ 45 + 1 = 46 := ⟨by decide +kernel, rfl⟩
theorem d_X12_sisterTold_46 : decode mX12_sisterTold.1 46 = .ok (.iload_n 2, 1) ∧ 46 + 1 = 47 := ⟨by decide +kernel, rfl⟩
theorem d_X12_sisterTold_47 : decode mX12_sisterTold.1 47 = .ok (.if_icmp .ne 12, 3) ∧ 47 + 3 = 50 ∧ ((47 : Nat) : Int) + 12 = ((59 : Nat) : Int) := ⟨by decide +kernel, rfl, rfl⟩
theorem d_X12_sisterTold_50 : decode mX12_sisterTold.1 50 = .ok (.aload_n 0, 1) ∧ 50 + 1 = 51 := ⟨by decide +kernel, rfl⟩
theorem d_X12_sisterTold_51 : decode mX12_sisterTold.1 51 = .ok (.iconst 3, 1) ∧ 51 + 1 = 52 := ⟨by decide +kernel, rfl⟩
theorem d_X12_sisterTold_52 : decode mX12_sisterTold.1 52 = .ok (.aload_n 0, 1) ∧ 52 + 1 = 53 := ⟨by decide +kernel, rfl⟩
theorem d_X12_sisterTold_53 : decode mX12_sisterTold.1 53 = .ok (.getfield 297, 3) ∧ 53 + 3 = 56 := ⟨by decide +kernel, rfl⟩
theorem d_X12_sisterTold_56 : decode mX12_sisterTold.1 56 = .ok (.invokevirtual 279, 3) ∧ 56 + 3 = 59 := ⟨by decide +kernel, rfl⟩
theorem d_X12_sisterTold_59 : decode mX12_sisterTold.1 59 = .ok (.aload_n 0, 1) ∧ 59 + 1 = 60 := ⟨by decide +kernel, rfl⟩
theorem d_X12_sisterTold_60 : decode mX12_sisterTold.1 60 = .ok (.getfield 249, 3) ∧ 60 + 3 = 63 := ⟨by decide +kernel, rfl⟩
theorem d_X12_sisterTold_63 : decode mX12_sisterTold.1 63 = .ok (.ifCond .ne 10, 3) ∧ 63 + 3 = 66 ∧ ((63 : Nat) : Int) + 10 = ((73 : Nat) : Int) := ⟨by decide +kernel, rfl, rfl⟩
theorem d_X12_sisterTold_66 : decode mX12_sisterTold.1 66 = .ok (.aload_n 0, 1) ∧ 66 + 1 = 67 := ⟨by decide +kernel, rfl⟩
theorem d_X12_sisterTold_67 : decode mX12_sisterTold.1 67 = .ok (.getfield 100, 3) ∧ 67 + 3 = 70 := ⟨by decide +kernel, rfl⟩
theorem d_X12_sisterTold_70 : decode mX12_sisterTold.1 70 = .ok (.iload_n 1, 1) ∧ 70 + 1 = 71 := ⟨by decide +kernel, rfl⟩
theorem d_X12_sisterTold_71 : decode mX12_sisterTold.1 71 = .ok (.iload_n 2, 1) ∧ 71 + 1 = 72 := ⟨by decide +kernel, rfl⟩
theorem d_X12_sisterTold_72 : decode mX12_sisterTold.1 72 = .ok (.iastore, 1) ∧ 72 + 1 = 73 := ⟨by decide +kernel, rfl⟩
theorem d_X12_sisterTold_73 : decode mX12_sisterTold.1 73 = .ok (.return_, 1) := by decide +kernel
set_option maxRecDepth 100000 in
set_option maxHeartbeats 4000000 in
theorem g_X12_sisterTold_J59 (l : Launch) (G : xa_C) : ∀ (v0 v1 v2 : Int) (h : xa_H) , xa_G l G 7 mX12_sisterTold (f_X12_sisterTold_J59 v0 v1 v2 h) (fun r => some (none, r) : xa_H → Option xa_O) 59 [some (xR v0), some (xI v1), some (xI v2)] [] h := by
  intro v0 v1 v2 h
  unfold f_X12_sisterTold_J59
  refine xa_step (xa_aload_n d_X12_sisterTold_59 rfl) ?_
  refine xa_getf xI xc_12 (by decide) (fun _ => rfl) xw_1309 rfl d_X12_sisterTold_60 (fun x13 _ => ?_)
  refine xa_if (xa_ifne d_X12_sisterTold_63) (fun q14 => ?_) (fun q14 => ?_)
  · refine xa_step (xa_aload_n d_X12_sisterTold_66 rfl) ?_
    refine xa_getf xR xc_12 (by decide) (fun _ => rfl) xw_1341 rfl d_X12_sisterTold_67 (fun x15 _ => ?_)
    refine xa_step (xa_iload_n d_X12_sisterTold_70 rfl) ?_
    refine xa_step (xa_iload_n d_X12_sisterTold_71 rfl) ?_
    refine xa_iastore2 d_X12_sisterTold_72 (fun h16 _ => ?_)
    exact xa_vret d_X12_sisterTold_73 rfl rfl
  · exact xa_vret d_X12_sisterTold_73 rfl rfl
set_option maxRecDepth 100000 in
set_option maxHeartbeats 4000000 in
theorem g_X12_sisterTold_J32 (l : Launch) (G : xa_C) : ∀ (v0 v1 : Int) (h : xa_H) , xa_G l G 7 mX12_sisterTold (f_X12_sisterTold_J32 v0 v1 h) (fun r => some (none, r) : xa_H → Option xa_O) 32 [some (xR v0), some (xI v1), none] [] h := by
  intro v0 v1 h
  unfold f_X12_sisterTold_J32
  refine xa_step (xa_aload_n d_X12_sisterTold_32 rfl) ?_
  refine xa_step (xa_iconst d_X12_sisterTold_33 xq_i_0) ?_
  refine xa_callVI (as := [xI 0]) (st := []) (M' := mX12_oneOf) (d' := 6) rfl xw_1713 xw_1715 xw_80 xw_1716 xw_177 xh_X12_oneOf rfl ⟨Nat.le_of_ble_eq_true rfl, Nat.le_of_ble_eq_true rfl⟩ (Nat.le_of_ble_eq_true rfl) rfl d_X12_sisterTold_34 (fun r hr => ct_X12_oneOf l G v0 0 h r hr) (fun r7 _ => ?_)
  refine xa_step (xa_istore_n (ls' := [some (xR v0), some (xI v1), some (xI r7.1)]) d_X12_sisterTold_37 (by decide) rfl) ?_
  refine xa_step (xa_aload_n d_X12_sisterTold_38 rfl) ?_
  refine xa_getf xI xc_12 (by decide) (fun _ => rfl) xw_1309 rfl d_X12_sisterTold_39 (fun x8 _ => ?_)
  refine xa_if (xa_ifne d_X12_sisterTold_42) (fun q9 => ?_) (fun q9 => ?_)
  · refine xa_step (xa_iload_n d_X12_sisterTold_45 rfl) ?_
    refine xa_step (xa_iload_n d_X12_sisterTold_46 rfl) ?_
    refine xa_if (xa_icmpne d_X12_sisterTold_47) (fun q10 => ?_) (fun q10 => ?_)
    · refine xa_step (xa_aload_n d_X12_sisterTold_50 rfl) ?_
      refine xa_step (xa_iconst d_X12_sisterTold_51 xq_i_3) ?_
      refine xa_step (xa_aload_n d_X12_sisterTold_52 rfl) ?_
      refine xa_getf xI xc_12 (by decide) (fun _ => rfl) xw_1337 rfl d_X12_sisterTold_53 (fun x11 _ => ?_)
      refine xa_callVV (as := [xI 3, xI x11]) (st := []) (M' := mX12_fail) (d' := 2) rfl xw_1654 xw_1656 xw_68 xw_1657 xw_177 xh_X12_fail rfl ⟨Nat.le_of_ble_eq_true rfl, Nat.le_of_ble_eq_true rfl⟩ (Nat.le_of_ble_eq_true rfl) rfl d_X12_sisterTold_56 (fun r hr => ct_X12_fail l G v0 3 x11 r7.2 r hr) (fun r12 _ => ?_)
      exact xa_weak (ls' := [some (xR v0), some (xI v1), some (xI r7.1)]) ⟨rfl, rfl, rfl, trivial⟩ (g_X12_sisterTold_J59 l G v0 v1 r7.1 r12)
    · exact xa_weak (ls' := [some (xR v0), some (xI v1), some (xI r7.1)]) ⟨rfl, rfl, rfl, trivial⟩ (g_X12_sisterTold_J59 l G v0 v1 r7.1 r7.2)
  · exact xa_weak (ls' := [some (xR v0), some (xI v1), some (xI r7.1)]) ⟨rfl, rfl, rfl, trivial⟩ (g_X12_sisterTold_J59 l G v0 v1 r7.1 r7.2)
theorem d_X12_sisterTold_23 : decode mX12_sisterTold.1 23 = .ok (.aload_n 0, 1) ∧ 23 + 1 = 24 := ⟨by decide +kernel, rfl⟩
theorem d_X12_sisterTold_24 : decode mX12_sisterTold.1 24 = .ok (.iconst 3, 1) ∧ 24 + 1 = 25 := ⟨by decide +kernel, rfl⟩
theorem d_X12_sisterTold_25 : decode mX12_sisterTold.1 25 = .ok (.aload_n 0, 1) ∧ 25 + 1 = 26 := ⟨by decide +kernel, rfl⟩
theorem d_X12_sisterTold_26 : decode mX12_sisterTold.1 26 = .ok (.getfield 297, 3) ∧ 26 + 3 = 29 := ⟨by decide +kernel, rfl⟩
theorem d_X12_sisterTold_29 : decode mX12_sisterTold.1 29 = .ok (.invokevirtual 279, 3) ∧ 29 + 3 = 32 := ⟨by decide +kernel, rfl⟩
set_option maxRecDepth 100000 in
set_option maxHeartbeats 4000000 in
theorem g_X12_sisterTold (l : Launch) (G : xa_C) (v0 : Int) (h : xa_H) : xa_G l G 7 mX12_sisterTold (f_X12_sisterTold v0 h) (fun r => some (none, r) : xa_H → Option xa_O) 0 [some (xR v0), none, none] [] h := by
  unfold f_X12_sisterTold
  refine xa_step (xa_aload_n d_X12_sisterTold_0 rfl) ?_
  refine xa_step (xa_iconst d_X12_sisterTold_1 xq_i_0) ?_
  refine xa_callVI (as := [xI 0]) (st := []) (M' := mX12_oneOf) (d' := 6) rfl xw_1713 xw_1715 xw_80 xw_1716 xw_177 xh_X12_oneOf rfl ⟨Nat.le_of_ble_eq_true rfl, Nat.le_of_ble_eq_true rfl⟩ (Nat.le_of_ble_eq_true rfl) rfl d_X12_sisterTold_2 (fun r hr => ct_X12_oneOf l G v0 0 h r hr) (fun r1 _ => ?_)
  refine xa_step (xa_istore_n (ls' := [some (xR v0), some (xI r1.1), none]) d_X12_sisterTold_5 (by decide) rfl) ?_
  refine xa_step (xa_aload_n d_X12_sisterTold_6 rfl) ?_
  refine xa_getf xI xc_12 (by decide) (fun _ => rfl) xw_1309 rfl d_X12_sisterTold_7 (fun x2 _ => ?_)
  refine xa_if (xa_ifne d_X12_sisterTold_10) (fun q3 => ?_) (fun q3 => ?_)
  · refine xa_step (xa_aload_n d_X12_sisterTold_13 rfl) ?_
    refine xa_getf xR xc_12 (by decide) (fun _ => rfl) xw_1341 rfl d_X12_sisterTold_14 (fun x4 _ => ?_)
    refine xa_step (xa_iload_n d_X12_sisterTold_17 rfl) ?_
    refine xa_iaload d_X12_sisterTold_18 (fun x5 _ => ?_)
    refine xa_step (xa_iconst d_X12_sisterTold_19 xq_i_m1) ?_
    refine xa_if (xa_icmpeq d_X12_sisterTold_20) (fun q6 => ?_) (fun q6 => ?_)
    · exact xa_weak (ls' := [some (xR v0), some (xI r1.1), none]) ⟨rfl, rfl, trivial⟩ (g_X12_sisterTold_J32 l G v0 r1.1 r1.2)
    · refine xa_step (xa_aload_n d_X12_sisterTold_23 rfl) ?_
      refine xa_step (xa_iconst d_X12_sisterTold_24 xq_i_3) ?_
      refine xa_step (xa_aload_n d_X12_sisterTold_25 rfl) ?_
      refine xa_getf xI xc_12 (by decide) (fun _ => rfl) xw_1337 rfl d_X12_sisterTold_26 (fun x17 _ => ?_)
      refine xa_callVV (as := [xI 3, xI x17]) (st := []) (M' := mX12_fail) (d' := 2) rfl xw_1654 xw_1656 xw_68 xw_1657 xw_177 xh_X12_fail rfl ⟨Nat.le_of_ble_eq_true rfl, Nat.le_of_ble_eq_true rfl⟩ (Nat.le_of_ble_eq_true rfl) rfl d_X12_sisterTold_29 (fun r hr => ct_X12_fail l G v0 3 x17 r1.2 r hr) (fun r18 _ => ?_)
      exact xa_weak (ls' := [some (xR v0), some (xI r1.1), none]) ⟨rfl, rfl, trivial⟩ (g_X12_sisterTold_J32 l G v0 r1.1 r18)
  · exact xa_weak (ls' := [some (xR v0), some (xI r1.1), none]) ⟨rfl, rfl, trivial⟩ (g_X12_sisterTold_J32 l G v0 r1.1 r1.2)
theorem ct_X12_sisterTold (l : Launch) (G : xa_C) (v0 : Int) (h : xa_H) (r : xa_H) (hr : f_X12_sisterTold v0 h = some r) : xa_CT l G 7 mX12_sisterTold yX12_sisterTold [xR v0] h (none, r) :=
  xa_met (by decide +kernel) rfl (fun q => by first | rfl | cases q) (Nat.le_of_ble_eq_true rfl) rfl (g_X12_sisterTold l G v0 h) (by rw [hr]; rfl)
abbrev mX12_valuesTold : xa_M := (cX12_valuesTold, 4, none, RX12, false)
theorem d_X12_valuesTold_0 : decode mX12_valuesTold.1 0 = .ok (.aload_n 0, 1) ∧ 0 + 1 = 1 := ⟨by decide +kernel, rfl⟩
theorem d_X12_valuesTold_1 : decode mX12_valuesTold.1 1 = .ok (.iconst 1, 1) ∧ 1 + 1 = 2 := ⟨by decide +kernel, rfl⟩
theorem d_X12_valuesTold_2 : decode mX12_valuesTold.1 2 = .ok (.invokevirtual 331, 3) ∧ 2 + 3 = 5 := ⟨by decide +kernel, rfl⟩
theorem d_X12_valuesTold_5 : decode mX12_valuesTold.1 5 = .ok (.istore_n 1, 1) ∧ 5 + 1 = 6 := ⟨by decide +kernel, rfl⟩
theorem d_X12_valuesTold_6 : decode mX12_valuesTold.1 6 = .ok (.aload_n 0, 1) ∧ 6 + 1 = 7 := ⟨by decide +kernel, rfl⟩
theorem d_X12_valuesTold_7 : decode mX12_valuesTold.1 7 = .ok (.iconst 0, 1) ∧ 7 + 1 = 8 := ⟨by decide +kernel, rfl⟩
theorem d_X12_valuesTold_8 : decode mX12_valuesTold.1 8 = .ok (.invokevirtual 331, 3) ∧ 8 + 3 = 11 := ⟨by decide +kernel, rfl⟩
theorem d_X12_valuesTold_11 : decode mX12_valuesTold.1 11 = .ok (.istore_n 2, 1) ∧ 11 + 1 = 12 := ⟨by decide +kernel, rfl⟩
theorem d_X12_valuesTold_12 : decode mX12_valuesTold.1 12 = .ok (.aload_n 0, 1) ∧ 12 + 1 = 13 := ⟨by decide +kernel, rfl⟩
theorem d_X12_valuesTold_13 : decode mX12_valuesTold.1 13 = .ok (.iconst 0, 1) ∧ 13 + 1 = 14 := ⟨by decide +kernel, rfl⟩
theorem d_X12_valuesTold_14 : decode mX12_valuesTold.1 14 = .ok (.bipush 99, 2) ∧ 14 + 2 = 16 := ⟨by decide +kernel, rfl⟩
theorem d_X12_valuesTold_16 : decode mX12_valuesTold.1 16 = .ok (.invokevirtual 327, 3) ∧ 16 + 3 = 19 := ⟨by decide +kernel, rfl⟩
theorem d_X12_valuesTold_19 : decode mX12_valuesTold.1 19 = .ok (.istore_n 3, 1) ∧ 19 + 1 = 20 := ⟨by decide +kernel, rfl⟩
theorem d_X12_valuesTold_20 : decode mX12_valuesTold.1 20 = .ok (.aload_n 0, 1) ∧ 20 + 1 = 21 := ⟨by decide +kernel, rfl⟩
theorem d_X12_valuesTold_21 : decode mX12_valuesTold.1 21 = .ok (.getfield 249, 3) ∧ 21 + 3 = 24 := ⟨by decide +kernel, rfl⟩
theorem d_X12_valuesTold_24 : decode mX12_valuesTold.1 24 = .ok (.ifCond .ne 15, 3) ∧ 24 + 3 = 27 ∧ ((24 : Nat) : Int) + 15 = ((39 : Nat) : Int) := ⟨by decide +kernel, rfl, rfl⟩
theorem d_X12_valuesTold_27 : decode mX12_valuesTold.1 27 = .ok (.aload_n 0, 1) ∧ 27 + 1 = 28 := ⟨by decide +kernel, rfl⟩
theorem d_X12_valuesTold_28 : decode mX12_valuesTold.1 28 = .ok (.getfield 112, 3) ∧ 28 + 3 = 31 := ⟨by decide +kernel, rfl⟩
theorem d_X12_valuesTold_31 : decode mX12_valuesTold.1 31 = .ok (.bipush 6, 2) ∧ 31 + 2 = 33 := ⟨by decide +kernel, rfl⟩
theorem d_X12_valuesTold_33 : decode mX12_valuesTold.1 33 = .ok (.iload_n 1, 1) ∧ 33 + 1 = 34 := ⟨by decide +kernel, rfl⟩
theorem d_X12_valuesTold_34 : decode mX12_valuesTold.1 34 = .ok (.imul, 1) ∧ 34 + 1 = 35 := ⟨by decide +kernel, rfl⟩
theorem d_X12_valuesTold_35 : decode mX12_valuesTold.1 35 = .ok (.iload_n 2, 1) ∧ 35 + 1 = 36 := ⟨by decide +kernel, rfl⟩
theorem d_X12_valuesTold_36 : decode mX12_valuesTold.1 36 = .ok (.iadd, 1) ∧ 36 + 1 = 37 := ⟨by decide +kernel, rfl⟩
theorem d_X12_valuesTold_37 : decode mX12_valuesTold.1 37 = .ok (.iload_n 3, 1) ∧ 37 + 1 = 38 := ⟨by decide +kernel, rfl⟩
theorem d_X12_valuesTold_38 : decode mX12_valuesTold.1 38 = .ok (.iastore, 1) ∧ 38 + 1 = 39 := ⟨by decide +kernel, rfl⟩
theorem d_X12_valuesTold_39 : decode mX12_valuesTold.1 39 = .ok (.return_, 1) := by decide +kernel
set_option maxRecDepth 100000 in
set_option maxHeartbeats 4000000 in
theorem g_X12_valuesTold (l : Launch) (G : xa_C) (v0 : Int) (h : xa_H) : xa_G l G 7 mX12_valuesTold (f_X12_valuesTold v0 h) (fun r => some (none, r) : xa_H → Option xa_O) 0 [some (xR v0), none, none, none] [] h := by
  unfold f_X12_valuesTold
  refine xa_step (xa_aload_n d_X12_valuesTold_0 rfl) ?_
  refine xa_step (xa_iconst d_X12_valuesTold_1 xq_i_1) ?_
  refine xa_callVI (as := [xI 1]) (st := []) (M' := mX12_oneOf) (d' := 6) rfl xw_1713 xw_1715 xw_80 xw_1716 xw_177 xh_X12_oneOf rfl ⟨Nat.le_of_ble_eq_true rfl, Nat.le_of_ble_eq_true rfl⟩ (Nat.le_of_ble_eq_true rfl) rfl d_X12_valuesTold_2 (fun r hr => ct_X12_oneOf l G v0 1 h r hr) (fun r1 _ => ?_)
  refine xa_step (xa_istore_n (ls' := [some (xR v0), some (xI r1.1), none, none]) d_X12_valuesTold_5 (by decide) rfl) ?_
  refine xa_step (xa_aload_n d_X12_valuesTold_6 rfl) ?_
  refine xa_step (xa_iconst d_X12_valuesTold_7 xq_i_0) ?_
  refine xa_callVI (as := [xI 0]) (st := []) (M' := mX12_oneOf) (d' := 6) rfl xw_1713 xw_1715 xw_80 xw_1716 xw_177 xh_X12_oneOf rfl ⟨Nat.le_of_ble_eq_true rfl, Nat.le_of_ble_eq_true rfl⟩ (Nat.le_of_ble_eq_true rfl) rfl d_X12_valuesTold_8 (fun r hr => ct_X12_oneOf l G v0 0 r1.2 r hr) (fun r2 _ => ?_)
  refine xa_step (xa_istore_n (ls' := [some (xR v0), some (xI r1.1), some (xI r2.1), none]) d_X12_valuesTold_11 (by decide) rfl) ?_
  refine xa_step (xa_aload_n d_X12_valuesTold_12 rfl) ?_
  refine xa_step (xa_iconst d_X12_valuesTold_13 xq_i_0) ?_
  refine xa_step (xa_bipush d_X12_valuesTold_14 xq_b_99) ?_
  refine xa_callVI (as := [xI 0, xI 99]) (st := []) (M' := mX12_number) (d' := 3) rfl xw_1699 xw_1701 xw_78 xw_1702 xw_177 xh_X12_number rfl ⟨Nat.le_of_ble_eq_true rfl, Nat.le_of_ble_eq_true rfl⟩ (Nat.le_of_ble_eq_true rfl) rfl d_X12_valuesTold_16 (fun r hr => ct_X12_number l G v0 0 99 r2.2 r hr) (fun r3 _ => ?_)
  refine xa_step (xa_istore_n (ls' := [some (xR v0), some (xI r1.1), some (xI r2.1), some (xI r3.1)]) d_X12_valuesTold_19 (by decide) rfl) ?_
  refine xa_step (xa_aload_n d_X12_valuesTold_20 rfl) ?_
  refine xa_getf xI xc_12 (by decide) (fun _ => rfl) xw_1309 rfl d_X12_valuesTold_21 (fun x4 _ => ?_)
  refine xa_if (xa_ifne d_X12_valuesTold_24) (fun q5 => ?_) (fun q5 => ?_)
  · refine xa_step (xa_aload_n d_X12_valuesTold_27 rfl) ?_
    refine xa_getf xR xc_12 (by decide) (fun _ => rfl) xw_1345 rfl d_X12_valuesTold_28 (fun x6 _ => ?_)
    refine xa_step (xa_bipush d_X12_valuesTold_31 xq_b_6) ?_
    refine xa_step (xa_iload_n d_X12_valuesTold_33 rfl) ?_
    refine xa_step (xa_imul d_X12_valuesTold_34) ?_
    refine xa_step (xa_iload_n d_X12_valuesTold_35 rfl) ?_
    refine xa_step (xa_iadd d_X12_valuesTold_36) ?_
    refine xa_step (xa_iload_n d_X12_valuesTold_37 rfl) ?_
    refine xa_iastore2 d_X12_valuesTold_38 (fun h7 _ => ?_)
    exact xa_vret d_X12_valuesTold_39 rfl rfl
  · exact xa_vret d_X12_valuesTold_39 rfl rfl
theorem ct_X12_valuesTold (l : Launch) (G : xa_C) (v0 : Int) (h : xa_H) (r : xa_H) (hr : f_X12_valuesTold v0 h = some r) : xa_CT l G 7 mX12_valuesTold yX12_valuesTold [xR v0] h (none, r) :=
  xa_met (by decide +kernel) rfl (fun q => by first | rfl | cases q) (Nat.le_of_ble_eq_true rfl) rfl (g_X12_valuesTold l G v0 h) (by rw [hr]; rfl)
