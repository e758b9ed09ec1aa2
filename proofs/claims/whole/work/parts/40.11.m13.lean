abbrev mX12_statementTold : xa_M := (cX12_statementTold, 2, none, RX12, false)
theorem d_X12_statementTold_0 : decode mX12_statementTold.1 0 = .ok (.aload_n 0, 1) ∧ 0 + 1 = 1 := ⟨by decide +kernel, rfl⟩
theorem d_X12_statementTold_1 : decode mX12_statementTold.1 1 = .ok (.getfield 255, 3) ∧ 1 + 3 = 4 := ⟨by decide +kernel, rfl⟩
theorem d_X12_statementTold_4 : decode mX12_statementTold.1 4 = .ok (.istore_n 1, 1) ∧ 4 + 1 = 5 := ⟨by decide +kernel, rfl⟩
theorem d_X12_statementTold_5 : decode mX12_statementTold.1 5 = .ok (.aload_n 0, 1) ∧ 5 + 1 = 6 := ⟨by decide +kernel, rfl⟩
theorem d_X12_statementTold_6 : decode mX12_statementTold.1 6 = .ok (.getfield 356, 3) ∧ 6 + 3 = 9 := ⟨by decide +kernel, rfl⟩
theorem d_X12_statementTold_9 : decode mX12_statementTold.1 9 = .ok (.bipush 80, 2) ∧ 9 + 2 = 11 := ⟨by decide +kernel, rfl⟩
theorem d_X12_statementTold_11 : decode mX12_statementTold.1 11 = .ok (.if_icmp .ne 10, 3) ∧ 11 + 3 = 14 ∧ ((11 : Nat) : Int) + 10 = ((21 : Nat) : Int) := ⟨by decide +kernel, rfl, rfl⟩
theorem d_X12_statementTold_14 : decode mX12_statementTold.1 14 = .ok (.aload_n 0, 1) ∧ 14 + 1 = 15 := ⟨by decide +kernel, rfl⟩
theorem d_X12_statementTold_15 : decode mX12_statementTold.1 15 = .ok (.iconst 5, 1) ∧ 15 + 1 = 16 := ⟨by decide +kernel, rfl⟩
theorem d_X12_statementTold_16 : decode mX12_statementTold.1 16 = .ok (.iload_n 1, 1) ∧ 16 + 1 = 17 := ⟨by decide +kernel, rfl⟩
theorem d_X12_statementTold_17 : decode mX12_statementTold.1 17 = .ok (.invokevirtual 279, 3) ∧ 17 + 3 = 20 := ⟨by decide +kernel, rfl⟩
theorem d_X12_statementTold_20 : decode mX12_statementTold.1 20 = .ok (.return_, 1) := by decide +kernel
theorem d_X12_statementTold_21 : decode mX12_statementTold.1 21 = .ok (.aload_n 0, 1) ∧ 21 + 1 = 22 := ⟨by decide +kernel, rfl⟩
theorem d_X12_statementTold_22 : decode mX12_statementTold.1 22 = .ok (.aload_n 0, 1) ∧ 22 + 1 = 23 := ⟨by decide +kernel, rfl⟩
theorem d_X12_statementTold_23 : decode mX12_statementTold.1 23 = .ok (.getfield 20, 3) ∧ 23 + 3 = 26 := ⟨by decide +kernel, rfl⟩
theorem d_X12_statementTold_26 : decode mX12_statementTold.1 26 = .ok (.invokevirtual 276, 3) ∧ 26 + 3 = 29 := ⟨by decide +kernel, rfl⟩
theorem d_X12_statementTold_29 : decode mX12_statementTold.1 29 = .ok (.ifCond .eq 11, 3) ∧ 29 + 3 = 32 ∧ ((29 : Nat) : Int) + 11 = ((40 : Nat) : Int) := ⟨by decide +kernel, rfl, rfl⟩
theorem d_X12_statementTold_40 : decode mX12_statementTold.1 40 = .ok (.aload_n 0, 1) ∧ 40 + 1 = 41 := ⟨by decide +kernel, rfl⟩
theorem d_X12_statementTold_41 : decode mX12_statementTold.1 41 = .ok (.aload_n 0, 1) ∧ 41 + 1 = 42 := ⟨by decide +kernel, rfl⟩
theorem d_X12_statementTold_42 : decode mX12_statementTold.1 42 = .ok (.getfield 27, 3) ∧ 42 + 3 = 45 := ⟨by decide +kernel, rfl⟩
theorem d_X12_statementTold_45 : decode mX12_statementTold.1 45 = .ok (.invokevirtual 276, 3) ∧ 45 + 3 = 48 := ⟨by decide +kernel, rfl⟩
theorem d_X12_statementTold_48 : decode mX12_statementTold.1 48 = .ok (.ifCond .eq 11, 3) ∧ 48 + 3 = 51 ∧ ((48 : Nat) : Int) + 11 = ((59 : Nat) : Int) := ⟨by decide +kernel, rfl, rfl⟩
theorem d_X12_statementTold_59 : decode mX12_statementTold.1 59 = .ok (.aload_n 0, 1) ∧ 59 + 1 = 60 := ⟨by decide +kernel, rfl⟩
theorem d_X12_statementTold_60 : decode mX12_statementTold.1 60 = .ok (.aload_n 0, 1) ∧ 60 + 1 = 61 := ⟨by decide +kernel, rfl⟩
theorem d_X12_statementTold_61 : decode mX12_statementTold.1 61 = .ok (.getfield 39, 3) ∧ 61 + 3 = 64 := ⟨by decide +kernel, rfl⟩
theorem d_X12_statementTold_64 : decode mX12_statementTold.1 64 = .ok (.invokevirtual 276, 3) ∧ 64 + 3 = 67 := ⟨by decide +kernel, rfl⟩
theorem d_X12_statementTold_67 : decode mX12_statementTold.1 67 = .ok (.ifCond .eq 10, 3) ∧ 67 + 3 = 70 ∧ ((67 : Nat) : Int) + 10 = ((77 : Nat) : Int) := ⟨by decide +kernel, rfl, rfl⟩
theorem d_X12_statementTold_77 : decode mX12_statementTold.1 77 = .ok (.aload_n 0, 1) ∧ 77 + 1 = 78 := ⟨by decide +kernel, rfl⟩
theorem d_X12_statementTold_78 : decode mX12_statementTold.1 78 = .ok (.aload_n 0, 1) ∧ 78 + 1 = 79 := ⟨by decide +kernel, rfl⟩
theorem d_X12_statementTold_79 : decode mX12_statementTold.1 79 = .ok (.getfield 42, 3) ∧ 79 + 3 = 82 := ⟨by decide +kernel, rfl⟩
theorem d_X12_statementTold_82 : decode mX12_statementTold.1 82 = .ok (.invokevirtual 276, 3) ∧ 82 + 3 = 85 := ⟨by decide +kernel, rfl⟩
theorem d_X12_statementTold_85 : decode mX12_statementTold.1 85 = .ok (.ifCond .eq 11, 3) ∧ 85 + 3 = 88 ∧ ((85 : Nat) : Int) + 11 = ((96 : Nat) : Int) := ⟨by decide +kernel, rfl, rfl⟩
theorem d_X12_statementTold_96 : decode mX12_statementTold.1 96 = .ok (.aload_n 0, 1) ∧ 96 + 1 = 97 := ⟨by decide +kernel, rfl⟩
theorem d_X12_statementTold_97 : decode mX12_statementTold.1 97 = .ok (.aload_n 0, 1) ∧ 97 + 1 = 98 := ⟨by decide +kernel, rfl⟩
theorem d_X12_statementTold_98 : decode mX12_statementTold.1 98 = .ok (.getfield 45, 3) ∧ 98 + 3 = 101 := ⟨by decide +kernel, rfl⟩
theorem d_X12_statementTold_101 : decode mX12_statementTold.1 101 = .ok (.invokevirtual 276, 3) ∧ 101 + 3 = 104 := ⟨by decide +kernel, rfl⟩
theorem d_X12_statementTold_104 : decode mX12_statementTold.1 104 = .ok (.ifCond .eq 10, 3) ∧ 104 + 3 = 107 ∧ ((104 : Nat) : Int) + 10 = ((114 : Nat) : Int) := ⟨by decide +kernel, rfl, rfl⟩
theorem d_X12_statementTold_114 : decode mX12_statementTold.1 114 = .ok (.aload_n 0, 1) ∧ 114 + 1 = 115 := ⟨by decide +kernel, rfl⟩
theorem d_X12_statementTold_115 : decode mX12_statementTold.1 115 = .ok (.aload_n 0, 1) ∧ 115 + 1 = 116 := ⟨by decide +kernel, rfl⟩
theorem d_X12_statementTold_116 : decode mX12_statementTold.1 116 = .ok (.getfield 48, 3) ∧ 116 + 3 = 119 := ⟨by decide +kernel, rfl⟩
theorem d_X12_statementTold_119 : decode mX12_statementTold.1 119 = .ok (.invokevirtual 276, 3) ∧ 119 + 3 = 122 := ⟨by decide +kernel, rfl⟩
theorem d_X12_statementTold_122 : decode mX12_statementTold.1 122 = .ok (.ifCond .eq 12, 3) ∧ 122 + 3 = 125 ∧ ((122 : Nat) : Int) + 12 = ((134 : Nat) : Int) := ⟨by decide +kernel, rfl, rfl⟩
theorem d_X12_statementTold_134 : decode mX12_statementTold.1 134 = .ok (.aload_n 0, 1) ∧ 134 + 1 = 135 := ⟨by decide +kernel, rfl⟩
theorem d_X12_statementTold_135 : decode mX12_statementTold.1 135 = .ok (.aload_n 0, 1) ∧ 135 + 1 = 136 := ⟨by decide +kernel, rfl⟩
theorem d_X12_statementTold_136 : decode mX12_statementTold.1 136 = .ok (.getfield 51, 3) ∧ 136 + 3 = 139 := ⟨by decide +kernel, rfl⟩
theorem d_X12_statementTold_139 : decode mX12_statementTold.1 139 = .ok (.invokevirtual 276, 3) ∧ 139 + 3 = 142 := ⟨by decide +kernel, rfl⟩
theorem d_X12_statementTold_142 : decode mX12_statementTold.1 142 = .ok (.ifCond .eq 12, 3) ∧ 142 + 3 = 145 ∧ ((142 : Nat) : Int) + 12 = ((154 : Nat) : Int) := ⟨by decide +kernel, rfl, rfl⟩
theorem d_X12_statementTold_154 : decode mX12_statementTold.1 154 = .ok (.aload_n 0, 1) ∧ 154 + 1 = 155 := ⟨by decide +kernel, rfl⟩
theorem d_X12_statementTold_155 : decode mX12_statementTold.1 155 = .ok (.aload_n 0, 1) ∧ 155 + 1 = 156 := ⟨by decide +kernel, rfl⟩
theorem d_X12_statementTold_156 : decode mX12_statementTold.1 156 = .ok (.getfield 54, 3) ∧ 156 + 3 = 159 := ⟨by decide +kernel, rfl⟩
theorem d_X12_statementTold_159 : decode mX12_statementTold.1 159 = .ok (.invokevirtual 323, 3) ∧ 159 + 3 = 162 := ⟨by decide +kernel, rfl⟩
theorem d_X12_statementTold_162 : decode mX12_statementTold.1 162 = .ok (.aload_n 0, 1) ∧ 162 + 1 = 163 := ⟨by decide +kernel, rfl⟩
theorem d_X12_statementTold_163 : decode mX12_statementTold.1 163 = .ok (.getfield 118, 3) ∧ 163 + 3 = 166 := ⟨by decide +kernel, rfl⟩
theorem d_X12_statementTold_166 : decode mX12_statementTold.1 166 = .ok (.iconst 0, 1) ∧ 166 + 1 = 167 := ⟨by decide +kernel, rfl⟩
theorem d_X12_statementTold_167 : decode mX12_statementTold.1 167 = .ok (.aload_n 0, 1) ∧ 167 + 1 = 168 := ⟨by decide +kernel, rfl⟩
theorem d_X12_statementTold_168 : decode mX12_statementTold.1 168 = .ok (.iconst 0, 1) ∧ 168 + 1 = 169 := ⟨by decide +kernel, rfl⟩
theorem d_X12_statementTold_169 : decode mX12_statementTold.1 169 = .ok (.bipush 100, 2) ∧ 169 + 2 = 171 := ⟨by decide +kernel, rfl⟩
theorem d_X12_statementTold_171 : decode mX12_statementTold.1 171 = .ok (.invokevirtual 327, 3) ∧ 171 + 3 = 174 := ⟨by decide +kernel, rfl⟩
theorem d_X12_statementTold_174 : decode mX12_statementTold.1 174 = .ok (.iastore, 1) ∧ 174 + 1 = 175 := ⟨by decide +kernel, rfl⟩
theorem d_X12_statementTold_175 : decode mX12_statementTold.1 175 = .ok (.aload_n 0, 1) ∧ 175 + 1 = 176 := ⟨by decide +kernel, rfl⟩
theorem d_X12_statementTold_176 : decode mX12_statementTold.1 176 = .ok (.bipush 59, 2) ∧ 176 + 2 = 178 := ⟨by decide +kernel, rfl⟩
theorem d_X12_statementTold_178 : decode mX12_statementTold.1 178 = .ok (.invokevirtual 378, 3) ∧ 178 + 3 = 181 := ⟨by decide +kernel, rfl⟩
theorem d_X12_statementTold_181 : decode mX12_statementTold.1 181 = .ok (.aload_n 0, 1) ∧ 181 + 1 = 182 := ⟨by decide +kernel, rfl⟩
theorem d_X12_statementTold_182 : decode mX12_statementTold.1 182 = .ok (.dup, 1) ∧ 182 + 1 = 183 := ⟨by decide +kernel, rfl⟩
theorem d_X12_statementTold_183 : decode mX12_statementTold.1 183 = .ok (.getfield 356, 3) ∧ 183 + 3 = 186 := ⟨by decide +kernel, rfl⟩
theorem d_X12_statementTold_186 : decode mX12_statementTold.1 186 = .ok (.iconst 1, 1) ∧ 186 + 1 = 187 := ⟨by decide +kernel, rfl⟩
theorem d_X12_statementTold_187 : decode mX12_statementTold.1 187 = .ok (.iadd, 1) ∧ 187 + 1 = 188 := ⟨by decide +kernel, rfl⟩
theorem d_X12_statementTold_188 : decode mX12_statementTold.1 188 = .ok (.putfield 356, 3) ∧ 188 + 3 = 191 := ⟨by decide +kernel, rfl⟩
theorem d_X12_statementTold_191 : decode mX12_statementTold.1 191 = .ok (.return_, 1) := by decide +kernel
set_option maxRecDepth 100000 in
set_option maxHeartbeats 4000000 in
theorem g_X12_statementTold_J175 (l : Launch) (G : xa_C) : ∀ (v0 : Int) (h : xa_H) , xa_G l G 12 mX12_statementTold (f_X12_statementTold_J175 v0 h) (fun r => some (none, r) : xa_H → Option xa_O) 175 [some (xR v0), none] [] h := by
  intro v0 h
  unfold f_X12_statementTold_J175
  refine xa_step (xa_aload_n d_X12_statementTold_175 rfl) ?_
  refine xa_step (xa_bipush d_X12_statementTold_176 xq_b_59) ?_
  refine xa_callVV (as := [xI 59]) (st := []) (M' := mX12_asksSign) (d' := 4) rfl xw_1769 xw_1771 xw_94 xw_1772 xw_177 xh_X12_asksSign rfl ⟨Nat.le_of_ble_eq_true rfl, Nat.le_of_ble_eq_true rfl⟩ (Nat.le_of_ble_eq_true rfl) rfl d_X12_statementTold_178 (fun r hr => ct_X12_asksSign l G v0 59 h r hr) (fun r31 _ => ?_)
  refine xa_step (xa_aload_n d_X12_statementTold_181 rfl) ?_
  refine xa_step (xa_dup d_X12_statementTold_182 (xa_tR _)) ?_
  refine xa_getf xI xc_12 (by decide) (fun _ => rfl) xw_1352 rfl d_X12_statementTold_183 (fun x32 _ => ?_)
  refine xa_step (xa_iconst d_X12_statementTold_186 xq_i_1) ?_
  refine xa_step (xa_iadd d_X12_statementTold_187) ?_
  refine xa_putf2 (tg := xI) xc_12 (by decide) (fun _ => rfl) rfl (fun c hc => xa_fitI c hc) xw_1352 rfl d_X12_statementTold_188 (fun h33 _ => ?_)
  exact xa_vret d_X12_statementTold_191 rfl rfl
theorem d_X12_statementTold_145 : decode mX12_statementTold.1 145 = .ok (.aload_n 0, 1) ∧ 145 + 1 = 146 := ⟨by decide +kernel, rfl⟩
theorem d_X12_statementTold_146 : decode mX12_statementTold.1 146 = .ok (.iconst 1, 1) ∧ 146 + 1 = 147 := ⟨by decide +kernel, rfl⟩
theorem d_X12_statementTold_147 : decode mX12_statementTold.1 147 = .ok (.iload_n 1, 1) ∧ 147 + 1 = 148 := ⟨by decide +kernel, rfl⟩
theorem d_X12_statementTold_148 : decode mX12_statementTold.1 148 = .ok (.invokevirtual 375, 3) ∧ 148 + 3 = 151 := ⟨by decide +kernel, rfl⟩
theorem d_X12_statementTold_151 : decode mX12_statementTold.1 151 = .ok (.goto 24, 3) ∧ ((151 : Nat) : Int) + 24 = ((175 : Nat) : Int) := ⟨by decide +kernel, rfl⟩
theorem d_X12_statementTold_125 : decode mX12_statementTold.1 125 = .ok (.aload_n 0, 1) ∧ 125 + 1 = 126 := ⟨by decide +kernel, rfl⟩
theorem d_X12_statementTold_126 : decode mX12_statementTold.1 126 = .ok (.iconst 0, 1) ∧ 126 + 1 = 127 := ⟨by decide +kernel, rfl⟩
theorem d_X12_statementTold_127 : decode mX12_statementTold.1 127 = .ok (.iload_n 1, 1) ∧ 127 + 1 = 128 := ⟨by decide +kernel, rfl⟩
theorem d_X12_statementTold_128 : decode mX12_statementTold.1 128 = .ok (.invokevirtual 375, 3) ∧ 128 + 3 = 131 := ⟨by decide +kernel, rfl⟩
theorem d_X12_statementTold_131 : decode mX12_statementTold.1 131 = .ok (.goto 44, 3) ∧ ((131 : Nat) : Int) + 44 = ((175 : Nat) : Int) := ⟨by decide +kernel, rfl⟩
theorem d_X12_statementTold_107 : decode mX12_statementTold.1 107 = .ok (.aload_n 0, 1) ∧ 107 + 1 = 108 := ⟨by decide +kernel, rfl⟩
theorem d_X12_statementTold_108 : decode mX12_statementTold.1 108 = .ok (.invokevirtual 372, 3) ∧ 108 + 3 = 111 := ⟨by decide +kernel, rfl⟩
theorem d_X12_statementTold_111 : decode mX12_statementTold.1 111 = .ok (.goto 64, 3) ∧ ((111 : Nat) : Int) + 64 = ((175 : Nat) : Int) := ⟨by decide +kernel, rfl⟩
theorem d_X12_statementTold_88 : decode mX12_statementTold.1 88 = .ok (.aload_n 0, 1) ∧ 88 + 1 = 89 := ⟨by decide +kernel, rfl⟩
theorem d_X12_statementTold_89 : decode mX12_statementTold.1 89 = .ok (.iload_n 1, 1) ∧ 89 + 1 = 90 := ⟨by decide +kernel, rfl⟩
theorem d_X12_statementTold_90 : decode mX12_statementTold.1 90 = .ok (.invokevirtual 369, 3) ∧ 90 + 3 = 93 := ⟨by decide +kernel, rfl⟩
theorem d_X12_statementTold_93 : decode mX12_statementTold.1 93 = .ok (.goto 82, 3) ∧ ((93 : Nat) : Int) + 82 = ((175 : Nat) : Int) := ⟨by decide +kernel, rfl⟩
theorem d_X12_statementTold_70 : decode mX12_statementTold.1 70 = .ok (.aload_n 0, 1) ∧ 70 + 1 = 71 := ⟨by decide +kernel, rfl⟩
theorem d_X12_statementTold_71 : decode mX12_statementTold.1 71 = .ok (.invokevirtual 366, 3) ∧ 71 + 3 = 74 := ⟨by decide +kernel, rfl⟩
theorem d_X12_statementTold_74 : decode mX12_statementTold.1 74 = .ok (.goto 101, 3) ∧ ((74 : Nat) : Int) + 101 = ((175 : Nat) : Int) := ⟨by decide +kernel, rfl⟩
theorem d_X12_statementTold_51 : decode mX12_statementTold.1 51 = .ok (.aload_n 0, 1) ∧ 51 + 1 = 52 := ⟨by decide +kernel, rfl⟩
theorem d_X12_statementTold_52 : decode mX12_statementTold.1 52 = .ok (.iload_n 1, 1) ∧ 52 + 1 = 53 := ⟨by decide +kernel, rfl⟩
theorem d_X12_statementTold_53 : decode mX12_statementTold.1 53 = .ok (.invokevirtual 363, 3) ∧ 53 + 3 = 56 := ⟨by decide +kernel, rfl⟩
theorem d_X12_statementTold_56 : decode mX12_statementTold.1 56 = .ok (.goto 119, 3) ∧ ((56 : Nat) : Int) + 119 = ((175 : Nat) : Int) := ⟨by decide +kernel, rfl⟩
theorem d_X12_statementTold_32 : decode mX12_statementTold.1 32 = .ok (.aload_n 0, 1) ∧ 32 + 1 = 33 := ⟨by decide +kernel, rfl⟩
theorem d_X12_statementTold_33 : decode mX12_statementTold.1 33 = .ok (.iload_n 1, 1) ∧ 33 + 1 = 34 := ⟨by decide +kernel, rfl⟩
theorem d_X12_statementTold_34 : decode mX12_statementTold.1 34 = .ok (.invokevirtual 359, 3) ∧ 34 + 3 = 37 := ⟨by decide +kernel, rfl⟩
theorem d_X12_statementTold_37 : decode mX12_statementTold.1 37 = .ok (.goto 138, 3) ∧ ((37 : Nat) : Int) + 138 = ((175 : Nat) : Int) := ⟨by decide +kernel, rfl⟩
set_option maxRecDepth 100000 in
set_option maxHeartbeats 4000000 in
theorem g_X12_statementTold (l : Launch) (G : xa_C) (v0 : Int) (h : xa_H) : xa_G l G 12 mX12_statementTold (f_X12_statementTold v0 h) (fun r => some (none, r) : xa_H → Option xa_O) 0 [some (xR v0), none] [] h := by
  unfold f_X12_statementTold
  refine xa_step (xa_aload_n d_X12_statementTold_0 rfl) ?_
  refine xa_getf xI xc_12 (by decide) (fun _ => rfl) xw_1306 rfl d_X12_statementTold_1 (fun x1 _ => ?_)
  refine xa_step (xa_istore_n (ls' := [some (xR v0), some (xI x1)]) d_X12_statementTold_4 (by decide) rfl) ?_
  refine xa_step (xa_aload_n d_X12_statementTold_5 rfl) ?_
  refine xa_getf xI xc_12 (by decide) (fun _ => rfl) xw_1352 rfl d_X12_statementTold_6 (fun x2 _ => ?_)
  refine xa_step (xa_bipush d_X12_statementTold_9 xq_b_80) ?_
  refine xa_if (xa_icmpne d_X12_statementTold_11) (fun q3 => ?_) (fun q3 => ?_)
  · refine xa_step (xa_aload_n d_X12_statementTold_14 rfl) ?_
    refine xa_step (xa_iconst d_X12_statementTold_15 xq_i_5) ?_
    refine xa_step (xa_iload_n d_X12_statementTold_16 rfl) ?_
    refine xa_callVV (as := [xI 5, xI x1]) (st := []) (M' := mX12_fail) (d' := 2) rfl xw_1654 xw_1656 xw_68 xw_1657 xw_177 xh_X12_fail rfl ⟨Nat.le_of_ble_eq_true rfl, Nat.le_of_ble_eq_true rfl⟩ (Nat.le_of_ble_eq_true rfl) rfl d_X12_statementTold_17 (fun r hr => ct_X12_fail l G v0 5 x1 h r hr) (fun r4 _ => ?_)
    exact xa_vret d_X12_statementTold_20 rfl rfl
  · refine xa_step (xa_aload_n d_X12_statementTold_21 rfl) ?_
    refine xa_step (xa_aload_n d_X12_statementTold_22 rfl) ?_
    refine xa_getf xR xc_12 (by decide) (fun _ => rfl) xw_1314 rfl d_X12_statementTold_23 (fun x5 _ => ?_)
    refine xa_callVI (as := [xR x5]) (st := []) (M' := mX12_takes) (d' := 4) rfl xw_1658 xw_1660 xw_69 xw_1661 xw_177 xh_X12_takes rfl ⟨Nat.le_of_ble_eq_true rfl, Nat.le_of_ble_eq_true rfl⟩ (Nat.le_of_ble_eq_true rfl) rfl d_X12_statementTold_26 (fun r hr => ct_X12_takes l G v0 x5 h r hr) (fun r6 _ => ?_)
    refine xa_if (xa_ifeq d_X12_statementTold_29) (fun q7 => ?_) (fun q7 => ?_)
    · refine xa_step (xa_aload_n d_X12_statementTold_40 rfl) ?_
      refine xa_step (xa_aload_n d_X12_statementTold_41 rfl) ?_
      refine xa_getf xR xc_12 (by decide) (fun _ => rfl) xw_1316 rfl d_X12_statementTold_42 (fun x8 _ => ?_)
      refine xa_callVI (as := [xR x8]) (st := []) (M' := mX12_takes) (d' := 4) rfl xw_1658 xw_1660 xw_69 xw_1661 xw_177 xh_X12_takes rfl ⟨Nat.le_of_ble_eq_true rfl, Nat.le_of_ble_eq_true rfl⟩ (Nat.le_of_ble_eq_true rfl) rfl d_X12_statementTold_45 (fun r hr => ct_X12_takes l G v0 x8 r6.2 r hr) (fun r9 _ => ?_)
      refine xa_if (xa_ifeq d_X12_statementTold_48) (fun q10 => ?_) (fun q10 => ?_)
      · refine xa_step (xa_aload_n d_X12_statementTold_59 rfl) ?_
        refine xa_step (xa_aload_n d_X12_statementTold_60 rfl) ?_
        refine xa_getf xR xc_12 (by decide) (fun _ => rfl) xw_1320 rfl d_X12_statementTold_61 (fun x11 _ => ?_)
        refine xa_callVI (as := [xR x11]) (st := []) (M' := mX12_takes) (d' := 4) rfl xw_1658 xw_1660 xw_69 xw_1661 xw_177 xh_X12_takes rfl ⟨Nat.le_of_ble_eq_true rfl, Nat.le_of_ble_eq_true rfl⟩ (Nat.le_of_ble_eq_true rfl) rfl d_X12_statementTold_64 (fun r hr => ct_X12_takes l G v0 x11 r9.2 r hr) (fun r12 _ => ?_)
        refine xa_if (xa_ifeq d_X12_statementTold_67) (fun q13 => ?_) (fun q13 => ?_)
        · refine xa_step (xa_aload_n d_X12_statementTold_77 rfl) ?_
          refine xa_step (xa_aload_n d_X12_statementTold_78 rfl) ?_
          refine xa_getf xR xc_12 (by decide) (fun _ => rfl) xw_1321 rfl d_X12_statementTold_79 (fun x14 _ => ?_)
          refine xa_callVI (as := [xR x14]) (st := []) (M' := mX12_takes) (d' := 4) rfl xw_1658 xw_1660 xw_69 xw_1661 xw_177 xh_X12_takes rfl ⟨Nat.le_of_ble_eq_true rfl, Nat.le_of_ble_eq_true rfl⟩ (Nat.le_of_ble_eq_true rfl) rfl d_X12_statementTold_82 (fun r hr => ct_X12_takes l G v0 x14 r12.2 r hr) (fun r15 _ => ?_)
          refine xa_if (xa_ifeq d_X12_statementTold_85) (fun q16 => ?_) (fun q16 => ?_)
          · refine xa_step (xa_aload_n d_X12_statementTold_96 rfl) ?_
            refine xa_step (xa_aload_n d_X12_statementTold_97 rfl) ?_
            refine xa_getf xR xc_12 (by decide) (fun _ => rfl) xw_1322 rfl d_X12_statementTold_98 (fun x17 _ => ?_)
            refine xa_callVI (as := [xR x17]) (st := []) (M' := mX12_takes) (d' := 4) rfl xw_1658 xw_1660 xw_69 xw_1661 xw_177 xh_X12_takes rfl ⟨Nat.le_of_ble_eq_true rfl, Nat.le_of_ble_eq_true rfl⟩ (Nat.le_of_ble_eq_true rfl) rfl d_X12_statementTold_101 (fun r hr => ct_X12_takes l G v0 x17 r15.2 r hr) (fun r18 _ => ?_)
            refine xa_if (xa_ifeq d_X12_statementTold_104) (fun q19 => ?_) (fun q19 => ?_)
            · refine xa_step (xa_aload_n d_X12_statementTold_114 rfl) ?_
              refine xa_step (xa_aload_n d_X12_statementTold_115 rfl) ?_
              refine xa_getf xR xc_12 (by decide) (fun _ => rfl) xw_1323 rfl d_X12_statementTold_116 (fun x20 _ => ?_)
              refine xa_callVI (as := [xR x20]) (st := []) (M' := mX12_takes) (d' := 4) rfl xw_1658 xw_1660 xw_69 xw_1661 xw_177 xh_X12_takes rfl ⟨Nat.le_of_ble_eq_true rfl, Nat.le_of_ble_eq_true rfl⟩ (Nat.le_of_ble_eq_true rfl) rfl d_X12_statementTold_119 (fun r hr => ct_X12_takes l G v0 x20 r18.2 r hr) (fun r21 _ => ?_)
              refine xa_if (xa_ifeq d_X12_statementTold_122) (fun q22 => ?_) (fun q22 => ?_)
              · refine xa_step (xa_aload_n d_X12_statementTold_134 rfl) ?_
                refine xa_step (xa_aload_n d_X12_statementTold_135 rfl) ?_
                refine xa_getf xR xc_12 (by decide) (fun _ => rfl) xw_1324 rfl d_X12_statementTold_136 (fun x23 _ => ?_)
                refine xa_callVI (as := [xR x23]) (st := []) (M' := mX12_takes) (d' := 4) rfl xw_1658 xw_1660 xw_69 xw_1661 xw_177 xh_X12_takes rfl ⟨Nat.le_of_ble_eq_true rfl, Nat.le_of_ble_eq_true rfl⟩ (Nat.le_of_ble_eq_true rfl) rfl d_X12_statementTold_139 (fun r hr => ct_X12_takes l G v0 x23 r21.2 r hr) (fun r24 _ => ?_)
                refine xa_if (xa_ifeq d_X12_statementTold_142) (fun q25 => ?_) (fun q25 => ?_)
                · refine xa_step (xa_aload_n d_X12_statementTold_154 rfl) ?_
                  refine xa_step (xa_aload_n d_X12_statementTold_155 rfl) ?_
                  refine xa_getf xR xc_12 (by decide) (fun _ => rfl) xw_1325 rfl d_X12_statementTold_156 (fun x26 _ => ?_)
                  refine xa_callVV (as := [xR x26]) (st := []) (M' := mX12_asks) (d' := 5) rfl xw_1695 xw_1697 xw_77 xw_1698 xw_177 xh_X12_asks rfl ⟨Nat.le_of_ble_eq_true rfl, Nat.le_of_ble_eq_true rfl⟩ (Nat.le_of_ble_eq_true rfl) rfl d_X12_statementTold_159 (fun r hr => ct_X12_asks l G v0 x26 r24.2 r hr) (fun r27 _ => ?_)
                  refine xa_step (xa_aload_n d_X12_statementTold_162 rfl) ?_
                  refine xa_getf xR xc_12 (by decide) (fun _ => rfl) xw_1347 rfl d_X12_statementTold_163 (fun x28 _ => ?_)
                  refine xa_step (xa_iconst d_X12_statementTold_166 xq_i_0) ?_
                  refine xa_step (xa_aload_n d_X12_statementTold_167 rfl) ?_
                  refine xa_step (xa_iconst d_X12_statementTold_168 xq_i_0) ?_
                  refine xa_step (xa_bipush d_X12_statementTold_169 xq_b_100) ?_
                  refine xa_callVI (as := [xI 0, xI 100]) (st := [xI 0, xR x28]) (M' := mX12_number) (d' := 3) rfl xw_1699 xw_1701 xw_78 xw_1702 xw_177 xh_X12_number rfl ⟨Nat.le_of_ble_eq_true rfl, Nat.le_of_ble_eq_true rfl⟩ (Nat.le_of_ble_eq_true rfl) rfl d_X12_statementTold_171 (fun r hr => ct_X12_number l G v0 0 100 r27 r hr) (fun r29 _ => ?_)
                  refine xa_iastore2 d_X12_statementTold_174 (fun h30 _ => ?_)
                  exact xa_weak (ls' := [some (xR v0), none]) ⟨rfl, trivial⟩ (g_X12_statementTold_J175 l G v0 h30)
                · refine xa_step (xa_aload_n d_X12_statementTold_145 rfl) ?_
                  refine xa_step (xa_iconst d_X12_statementTold_146 xq_i_1) ?_
                  refine xa_step (xa_iload_n d_X12_statementTold_147 rfl) ?_
                  refine xa_callVV (as := [xI 1, xI x1]) (st := []) (M' := mX12_codesTold) (d' := 11) rfl xw_1729 xw_1731 xw_84 xw_1732 xw_177 xh_X12_codesTold rfl ⟨Nat.le_of_ble_eq_true rfl, Nat.le_of_ble_eq_true rfl⟩ (Nat.le_of_ble_eq_true rfl) rfl d_X12_statementTold_148 (fun r hr => ct_X12_codesTold l G v0 1 x1 r24.2 r hr) (fun r34 _ => ?_)
                  refine xa_step (xa_goto d_X12_statementTold_151) ?_
                  exact xa_weak (ls' := [some (xR v0), none]) ⟨rfl, trivial⟩ (g_X12_statementTold_J175 l G v0 r34)
              · refine xa_step (xa_aload_n d_X12_statementTold_125 rfl) ?_
                refine xa_step (xa_iconst d_X12_statementTold_126 xq_i_0) ?_
                refine xa_step (xa_iload_n d_X12_statementTold_127 rfl) ?_
                refine xa_callVV (as := [xI 0, xI x1]) (st := []) (M' := mX12_codesTold) (d' := 11) rfl xw_1729 xw_1731 xw_84 xw_1732 xw_177 xh_X12_codesTold rfl ⟨Nat.le_of_ble_eq_true rfl, Nat.le_of_ble_eq_true rfl⟩ (Nat.le_of_ble_eq_true rfl) rfl d_X12_statementTold_128 (fun r hr => ct_X12_codesTold l G v0 0 x1 r21.2 r hr) (fun r35 _ => ?_)
                refine xa_step (xa_goto d_X12_statementTold_131) ?_
                exact xa_weak (ls' := [some (xR v0), none]) ⟨rfl, trivial⟩ (g_X12_statementTold_J175 l G v0 r35)
            · refine xa_step (xa_aload_n d_X12_statementTold_107 rfl) ?_
              refine xa_callVV (as := []) (st := []) (M' := mX12_sisterTold) (d' := 7) rfl xw_1725 xw_1727 xw_83 xw_1728 xw_177 xh_X12_sisterTold rfl ⟨Nat.le_of_ble_eq_true rfl, Nat.le_of_ble_eq_true rfl⟩ (Nat.le_of_ble_eq_true rfl) rfl d_X12_statementTold_108 (fun r hr => ct_X12_sisterTold l G v0 r18.2 r hr) (fun r36 _ => ?_)
              refine xa_step (xa_goto d_X12_statementTold_111) ?_
              exact xa_weak (ls' := [some (xR v0), none]) ⟨rfl, trivial⟩ (g_X12_statementTold_J175 l G v0 r36)
          · refine xa_step (xa_aload_n d_X12_statementTold_88 rfl) ?_
            refine xa_step (xa_iload_n d_X12_statementTold_89 rfl) ?_
            refine xa_callVV (as := [xI x1]) (st := []) (M' := mX12_feudTold) (d' := 7) rfl xw_1721 xw_1723 xw_82 xw_1724 xw_177 xh_X12_feudTold rfl ⟨Nat.le_of_ble_eq_true rfl, Nat.le_of_ble_eq_true rfl⟩ (Nat.le_of_ble_eq_true rfl) rfl d_X12_statementTold_90 (fun r hr => ct_X12_feudTold l G v0 x1 r15.2 r hr) (fun r37 _ => ?_)
            refine xa_step (xa_goto d_X12_statementTold_93) ?_
            exact xa_weak (ls' := [some (xR v0), none]) ⟨rfl, trivial⟩ (g_X12_statementTold_J175 l G v0 r37)
        · refine xa_step (xa_aload_n d_X12_statementTold_70 rfl) ?_
          refine xa_callVV (as := []) (st := []) (M' := mX12_valuesTold) (d' := 7) rfl xw_1717 xw_1719 xw_81 xw_1720 xw_177 xh_X12_valuesTold rfl ⟨Nat.le_of_ble_eq_true rfl, Nat.le_of_ble_eq_true rfl⟩ (Nat.le_of_ble_eq_true rfl) rfl d_X12_statementTold_71 (fun r hr => ct_X12_valuesTold l G v0 r12.2 r hr) (fun r38 _ => ?_)
          refine xa_step (xa_goto d_X12_statementTold_74) ?_
          exact xa_weak (ls' := [some (xR v0), none]) ⟨rfl, trivial⟩ (g_X12_statementTold_J175 l G v0 r38)
      · refine xa_step (xa_aload_n d_X12_statementTold_51 rfl) ?_
        refine xa_step (xa_iload_n d_X12_statementTold_52 rfl) ?_
        refine xa_callVV (as := [xI x1]) (st := []) (M' := mX12_holderTold) (d' := 7) rfl xw_1709 xw_1711 xw_79 xw_1712 xw_177 xh_X12_holderTold rfl ⟨Nat.le_of_ble_eq_true rfl, Nat.le_of_ble_eq_true rfl⟩ (Nat.le_of_ble_eq_true rfl) rfl d_X12_statementTold_53 (fun r hr => ct_X12_holderTold l G v0 x1 r9.2 r hr) (fun r39 _ => ?_)
        refine xa_step (xa_goto d_X12_statementTold_56) ?_
        exact xa_weak (ls' := [some (xR v0), none]) ⟨rfl, trivial⟩ (g_X12_statementTold_J175 l G v0 r39)
    · refine xa_step (xa_aload_n d_X12_statementTold_32 rfl) ?_
      refine xa_step (xa_iload_n d_X12_statementTold_33 rfl) ?_
      refine xa_callVV (as := [xI x1]) (st := []) (M' := mX12_heldTold) (d' := 7) rfl xw_1669 xw_1671 xw_71 xw_1672 xw_177 xh_X12_heldTold rfl ⟨Nat.le_of_ble_eq_true rfl, Nat.le_of_ble_eq_true rfl⟩ (Nat.le_of_ble_eq_true rfl) rfl d_X12_statementTold_34 (fun r hr => ct_X12_heldTold l G v0 x1 r6.2 r hr) (fun r40 _ => ?_)
      refine xa_step (xa_goto d_X12_statementTold_37) ?_
      exact xa_weak (ls' := [some (xR v0), none]) ⟨rfl, trivial⟩ (g_X12_statementTold_J175 l G v0 r40)
theorem ct_X12_statementTold (l : Launch) (G : xa_C) (v0 : Int) (h : xa_H) (r : xa_H) (hr : f_X12_statementTold v0 h = some r) : xa_CT l G 12 mX12_statementTold yX12_statementTold [xR v0] h (none, r) :=
  xa_met (by decide +kernel) rfl (fun q => by first | rfl | cases q) (Nat.le_of_ble_eq_true rfl) rfl (g_X12_statementTold l G v0 h) (by rw [hr]; rfl)
abbrev mX12_open : xa_M := (cX12_open, 2, (some (.int)), RX12, false)
theorem d_X12_open_0 : decode mX12_open.1 0 = .ok (.aload_n 0, 1) ∧ 0 + 1 = 1 := ⟨by decide +kernel, rfl⟩
theorem d_X12_open_1 : decode mX12_open.1 1 = .ok (.aload_n 0, 1) ∧ 1 + 1 = 2 := ⟨by decide +kernel, rfl⟩
theorem d_X12_open_2 : decode mX12_open.1 2 = .ok (.getfield 246, 3) ∧ 2 + 3 = 5 := ⟨by decide +kernel, rfl⟩
theorem d_X12_open_5 : decode mX12_open.1 5 = .ok (.putfield 258, 3) ∧ 5 + 3 = 8 := ⟨by decide +kernel, rfl⟩
theorem d_X12_open_8 : decode mX12_open.1 8 = .ok (.aload_n 0, 1) ∧ 8 + 1 = 9 := ⟨by decide +kernel, rfl⟩
theorem d_X12_open_9 : decode mX12_open.1 9 = .ok (.iconst 0, 1) ∧ 9 + 1 = 10 := ⟨by decide +kernel, rfl⟩
theorem d_X12_open_10 : decode mX12_open.1 10 = .ok (.putfield 246, 3) ∧ 10 + 3 = 13 := ⟨by decide +kernel, rfl⟩
theorem d_X12_open_13 : decode mX12_open.1 13 = .ok (.aload_n 0, 1) ∧ 13 + 1 = 14 := ⟨by decide +kernel, rfl⟩
theorem d_X12_open_14 : decode mX12_open.1 14 = .ok (.iconst 0, 1) ∧ 14 + 1 = 15 := ⟨by decide +kernel, rfl⟩
theorem d_X12_open_15 : decode mX12_open.1 15 = .ok (.putfield 255, 3) ∧ 15 + 3 = 18 := ⟨by decide +kernel, rfl⟩
theorem d_X12_open_18 : decode mX12_open.1 18 = .ok (.aload_n 0, 1) ∧ 18 + 1 = 19 := ⟨by decide +kernel, rfl⟩
theorem d_X12_open_19 : decode mX12_open.1 19 = .ok (.iconst (-1), 1) ∧ 19 + 1 = 20 := ⟨by decide +kernel, rfl⟩
theorem d_X12_open_20 : decode mX12_open.1 20 = .ok (.putfield 269, 3) ∧ 20 + 3 = 23 := ⟨by decide +kernel, rfl⟩
theorem d_X12_open_23 : decode mX12_open.1 23 = .ok (.aload_n 0, 1) ∧ 23 + 1 = 24 := ⟨by decide +kernel, rfl⟩
theorem d_X12_open_24 : decode mX12_open.1 24 = .ok (.iconst 0, 1) ∧ 24 + 1 = 25 := ⟨by decide +kernel, rfl⟩
theorem d_X12_open_25 : decode mX12_open.1 25 = .ok (.putfield 249, 3) ∧ 25 + 3 = 28 := ⟨by decide +kernel, rfl⟩
theorem d_X12_open_28 : decode mX12_open.1 28 = .ok (.aload_n 0, 1) ∧ 28 + 1 = 29 := ⟨by decide +kernel, rfl⟩
theorem d_X12_open_29 : decode mX12_open.1 29 = .ok (.iconst (-1), 1) ∧ 29 + 1 = 30 := ⟨by decide +kernel, rfl⟩
theorem d_X12_open_30 : decode mX12_open.1 30 = .ok (.putfield 252, 3) ∧ 30 + 3 = 33 := ⟨by decide +kernel, rfl⟩
theorem d_X12_open_33 : decode mX12_open.1 33 = .ok (.aload_n 0, 1) ∧ 33 + 1 = 34 := ⟨by decide +kernel, rfl⟩
theorem d_X12_open_34 : decode mX12_open.1 34 = .ok (.iconst 0, 1) ∧ 34 + 1 = 35 := ⟨by decide +kernel, rfl⟩
theorem d_X12_open_35 : decode mX12_open.1 35 = .ok (.putfield 356, 3) ∧ 35 + 3 = 38 := ⟨by decide +kernel, rfl⟩
theorem d_X12_open_38 : decode mX12_open.1 38 = .ok (.aload_n 0, 1) ∧ 38 + 1 = 39 := ⟨by decide +kernel, rfl⟩
theorem d_X12_open_39 : decode mX12_open.1 39 = .ok (.iconst 0, 1) ∧ 39 + 1 = 40 := ⟨by decide +kernel, rfl⟩
theorem d_X12_open_40 : decode mX12_open.1 40 = .ok (.putfield 353, 3) ∧ 40 + 3 = 43 := ⟨by decide +kernel, rfl⟩
theorem d_X12_open_43 : decode mX12_open.1 43 = .ok (.iconst 0, 1) ∧ 43 + 1 = 44 := ⟨by decide +kernel, rfl⟩
theorem d_X12_open_44 : decode mX12_open.1 44 = .ok (.istore_n 1, 1) ∧ 44 + 1 = 45 := ⟨by decide +kernel, rfl⟩
theorem d_X12_open_45 : decode mX12_open.1 45 = .ok (.iload_n 1, 1) ∧ 45 + 1 = 46 := ⟨by decide +kernel, rfl⟩
theorem d_X12_open_46 : decode mX12_open.1 46 = .ok (.iconst 3, 1) ∧ 46 + 1 = 47 := ⟨by decide +kernel, rfl⟩
theorem d_X12_open_47 : decode mX12_open.1 47 = .ok (.if_icmp .ge 16, 3) ∧ 47 + 3 = 50 ∧ ((47 : Nat) : Int) + 16 = ((63 : Nat) : Int) := ⟨by decide +kernel, rfl, rfl⟩
theorem d_X12_open_50 : decode mX12_open.1 50 = .ok (.aload_n 0, 1) ∧ 50 + 1 = 51 := ⟨by decide +kernel, rfl⟩
theorem d_X12_open_51 : decode mX12_open.1 51 = .ok (.getfield 90, 3) ∧ 51 + 3 = 54 := ⟨by decide +kernel, rfl⟩
theorem d_X12_open_54 : decode mX12_open.1 54 = .ok (.iload_n 1, 1) ∧ 54 + 1 = 55 := ⟨by decide +kernel, rfl⟩
theorem d_X12_open_55 : decode mX12_open.1 55 = .ok (.iconst 0, 1) ∧ 55 + 1 = 56 := ⟨by decide +kernel, rfl⟩
theorem d_X12_open_56 : decode mX12_open.1 56 = .ok (.iastore, 1) ∧ 56 + 1 = 57 := ⟨by decide +kernel, rfl⟩
theorem d_X12_open_57 : decode mX12_open.1 57 = .ok (.iinc 1 1, 3) ∧ 57 + 3 = 60 := ⟨by decide +kernel, rfl⟩
theorem d_X12_open_60 : decode mX12_open.1 60 = .ok (.goto (-15), 3) ∧ ((60 : Nat) : Int) + (-15) = ((45 : Nat) : Int) := ⟨by decide +kernel, rfl⟩
set_option maxRecDepth 100000 in
set_option maxHeartbeats 4000000 in
theorem g_X12_open_L45 (l : Launch) (G : xa_C) (c0 : Int) (K : (Int × xa_H) ⊕ (xa_H) → Option xa_O) (hb : ∀ (v1 : Int) (h : xa_H), xa_G l G 13 mX12_open (some (Sum.inl ((v1, h)))) K 45 [some (xR c0), some (xI v1)] [] h) (hx : ∀ (h : xa_H), xa_G l G 13 mX12_open (some (Sum.inr h)) K 63 [some (xR c0), none] [] h) : ∀ (v1 : Int) (h : xa_H), xa_G l G 13 mX12_open (f_X12_open_L45 c0 v1 h) K 45 [some (xR c0), some (xI v1)] [] h := by
  intro v1 h
  unfold f_X12_open_L45
  refine xa_step (xa_iload_n d_X12_open_45 rfl) ?_
  refine xa_step (xa_iconst d_X12_open_46 xq_i_3) ?_
  refine xa_if (xa_icmpge d_X12_open_47) (fun q10 => ?_) (fun q10 => ?_)
  · refine xa_step (xa_aload_n d_X12_open_50 rfl) ?_
    refine xa_getf xR xc_12 (by decide) (fun _ => rfl) xw_1338 rfl d_X12_open_51 (fun x11 _ => ?_)
    refine xa_step (xa_iload_n d_X12_open_54 rfl) ?_
    refine xa_step (xa_iconst d_X12_open_55 xq_i_0) ?_
    refine xa_iastore2 d_X12_open_56 (fun h12 _ => ?_)
    refine xa_step (xa_iinc (ls' := [some (xR c0), some (xI (w32 (v1 + 1)))]) d_X12_open_57 xq_i_1 rfl (by decide) rfl) ?_
    refine xa_step (xa_goto d_X12_open_60) ?_
    exact xa_weak (ls' := [some (xR c0), some (xI (w32 (v1 + 1)))]) ⟨rfl, rfl, trivial⟩ (hb (w32 (v1 + 1)) h12)
  · exact xa_weak (ls' := [some (xR c0), none]) ⟨rfl, trivial⟩ (hx h)
theorem d_X12_open_63 : decode mX12_open.1 63 = .ok (.iconst 0, 1) ∧ 63 + 1 = 64 := ⟨by decide +kernel, rfl⟩
theorem d_X12_open_64 : decode mX12_open.1 64 = .ok (.istore_n 1, 1) ∧ 64 + 1 = 65 := ⟨by decide +kernel, rfl⟩
theorem d_X12_open_65 : decode mX12_open.1 65 = .ok (.iload_n 1, 1) ∧ 65 + 1 = 66 := ⟨by decide +kernel, rfl⟩
theorem d_X12_open_66 : decode mX12_open.1 66 = .ok (.bipush 36, 2) ∧ 66 + 2 = 68 := ⟨by decide +kernel, rfl⟩
theorem d_X12_open_68 : decode mX12_open.1 68 = .ok (.if_icmp .ge 16, 3) ∧ 68 + 3 = 71 ∧ ((68 : Nat) : Int) + 16 = ((84 : Nat) : Int) := ⟨by decide +kernel, rfl, rfl⟩
theorem d_X12_open_71 : decode mX12_open.1 71 = .ok (.aload_n 0, 1) ∧ 71 + 1 = 72 := ⟨by decide +kernel, rfl⟩
theorem d_X12_open_72 : decode mX12_open.1 72 = .ok (.getfield 112, 3) ∧ 72 + 3 = 75 := ⟨by decide +kernel, rfl⟩
theorem d_X12_open_75 : decode mX12_open.1 75 = .ok (.iload_n 1, 1) ∧ 75 + 1 = 76 := ⟨by decide +kernel, rfl⟩
theorem d_X12_open_76 : decode mX12_open.1 76 = .ok (.iconst 0, 1) ∧ 76 + 1 = 77 := ⟨by decide +kernel, rfl⟩
theorem d_X12_open_77 : decode mX12_open.1 77 = .ok (.iastore, 1) ∧ 77 + 1 = 78 := ⟨by decide +kernel, rfl⟩
theorem d_X12_open_78 : decode mX12_open.1 78 = .ok (.iinc 1 1, 3) ∧ 78 + 3 = 81 := ⟨by decide +kernel, rfl⟩
theorem d_X12_open_81 : decode mX12_open.1 81 = .ok (.goto (-16), 3) ∧ ((81 : Nat) : Int) + (-16) = ((65 : Nat) : Int) := ⟨by decide +kernel, rfl⟩
set_option maxRecDepth 100000 in
set_option maxHeartbeats 4000000 in
theorem g_X12_open_L65 (l : Launch) (G : xa_C) (c0 : Int) (K : (Int × xa_H) ⊕ (xa_H) → Option xa_O) (hb : ∀ (v1 : Int) (h : xa_H), xa_G l G 13 mX12_open (some (Sum.inl ((v1, h)))) K 65 [some (xR c0), some (xI v1)] [] h) (hx : ∀ (h : xa_H), xa_G l G 13 mX12_open (some (Sum.inr h)) K 84 [some (xR c0), none] [] h) : ∀ (v1 : Int) (h : xa_H), xa_G l G 13 mX12_open (f_X12_open_L65 c0 v1 h) K 65 [some (xR c0), some (xI v1)] [] h := by
  intro v1 h
  unfold f_X12_open_L65
  refine xa_step (xa_iload_n d_X12_open_65 rfl) ?_
  refine xa_step (xa_bipush d_X12_open_66 xq_b_36) ?_
  refine xa_if (xa_icmpge d_X12_open_68) (fun q14 => ?_) (fun q14 => ?_)
  · refine xa_step (xa_aload_n d_X12_open_71 rfl) ?_
    refine xa_getf xR xc_12 (by decide) (fun _ => rfl) xw_1345 rfl d_X12_open_72 (fun x15 _ => ?_)
    refine xa_step (xa_iload_n d_X12_open_75 rfl) ?_
    refine xa_step (xa_iconst d_X12_open_76 xq_i_0) ?_
    refine xa_iastore2 d_X12_open_77 (fun h16 _ => ?_)
    refine xa_step (xa_iinc (ls' := [some (xR c0), some (xI (w32 (v1 + 1)))]) d_X12_open_78 xq_i_1 rfl (by decide) rfl) ?_
    refine xa_step (xa_goto d_X12_open_81) ?_
    exact xa_weak (ls' := [some (xR c0), some (xI (w32 (v1 + 1)))]) ⟨rfl, rfl, trivial⟩ (hb (w32 (v1 + 1)) h16)
  · exact xa_weak (ls' := [some (xR c0), none]) ⟨rfl, trivial⟩ (hx h)
theorem d_X12_open_84 : decode mX12_open.1 84 = .ok (.iconst 0, 1) ∧ 84 + 1 = 85 := ⟨by decide +kernel, rfl⟩
theorem d_X12_open_85 : decode mX12_open.1 85 = .ok (.istore_n 1, 1) ∧ 85 + 1 = 86 := ⟨by decide +kernel, rfl⟩
theorem d_X12_open_86 : decode mX12_open.1 86 = .ok (.iload_n 1, 1) ∧ 86 + 1 = 87 := ⟨by decide +kernel, rfl⟩
theorem d_X12_open_87 : decode mX12_open.1 87 = .ok (.bipush 6, 2) ∧ 87 + 2 = 89 := ⟨by decide +kernel, rfl⟩
theorem d_X12_open_89 : decode mX12_open.1 89 = .ok (.if_icmp .ge 23, 3) ∧ 89 + 3 = 92 ∧ ((89 : Nat) : Int) + 23 = ((112 : Nat) : Int) := ⟨by decide +kernel, rfl, rfl⟩
theorem d_X12_open_92 : decode mX12_open.1 92 = .ok (.aload_n 0, 1) ∧ 92 + 1 = 93 := ⟨by decide +kernel, rfl⟩
theorem d_X12_open_93 : decode mX12_open.1 93 = .ok (.getfield 115, 3) ∧ 93 + 3 = 96 := ⟨by decide +kernel, rfl⟩
theorem d_X12_open_96 : decode mX12_open.1 96 = .ok (.iload_n 1, 1) ∧ 96 + 1 = 97 := ⟨by decide +kernel, rfl⟩
theorem d_X12_open_97 : decode mX12_open.1 97 = .ok (.iconst 0, 1) ∧ 97 + 1 = 98 := ⟨by decide +kernel, rfl⟩
theorem d_X12_open_98 : decode mX12_open.1 98 = .ok (.iastore, 1) ∧ 98 + 1 = 99 := ⟨by decide +kernel, rfl⟩
theorem d_X12_open_99 : decode mX12_open.1 99 = .ok (.aload_n 0, 1) ∧ 99 + 1 = 100 := ⟨by decide +kernel, rfl⟩
theorem d_X12_open_100 : decode mX12_open.1 100 = .ok (.getfield 100, 3) ∧ 100 + 3 = 103 := ⟨by decide +kernel, rfl⟩
theorem d_X12_open_103 : decode mX12_open.1 103 = .ok (.iload_n 1, 1) ∧ 103 + 1 = 104 := ⟨by decide +kernel, rfl⟩
theorem d_X12_open_104 : decode mX12_open.1 104 = .ok (.iconst (-1), 1) ∧ 104 + 1 = 105 := ⟨by decide +kernel, rfl⟩
theorem d_X12_open_105 : decode mX12_open.1 105 = .ok (.iastore, 1) ∧ 105 + 1 = 106 := ⟨by decide +kernel, rfl⟩
theorem d_X12_open_106 : decode mX12_open.1 106 = .ok (.iinc 1 1, 3) ∧ 106 + 3 = 109 := ⟨by decide +kernel, rfl⟩
theorem d_X12_open_109 : decode mX12_open.1 109 = .ok (.goto (-23), 3) ∧ ((109 : Nat) : Int) + (-23) = ((86 : Nat) : Int) := ⟨by decide +kernel, rfl⟩
set_option maxRecDepth 100000 in
set_option maxHeartbeats 4000000 in
theorem g_X12_open_L86 (l : Launch) (G : xa_C) (c0 : Int) (K : (Int × xa_H) ⊕ (xa_H) → Option xa_O) (hb : ∀ (v1 : Int) (h : xa_H), xa_G l G 13 mX12_open (some (Sum.inl ((v1, h)))) K 86 [some (xR c0), some (xI v1)] [] h) (hx : ∀ (h : xa_H), xa_G l G 13 mX12_open (some (Sum.inr h)) K 112 [some (xR c0), none] [] h) : ∀ (v1 : Int) (h : xa_H), xa_G l G 13 mX12_open (f_X12_open_L86 c0 v1 h) K 86 [some (xR c0), some (xI v1)] [] h := by
  intro v1 h
  unfold f_X12_open_L86
  refine xa_step (xa_iload_n d_X12_open_86 rfl) ?_
  refine xa_step (xa_bipush d_X12_open_87 xq_b_6) ?_
  refine xa_if (xa_icmpge d_X12_open_89) (fun q18 => ?_) (fun q18 => ?_)
  · refine xa_step (xa_aload_n d_X12_open_92 rfl) ?_
    refine xa_getf xR xc_12 (by decide) (fun _ => rfl) xw_1346 rfl d_X12_open_93 (fun x19 _ => ?_)
    refine xa_step (xa_iload_n d_X12_open_96 rfl) ?_
    refine xa_step (xa_iconst d_X12_open_97 xq_i_0) ?_
    refine xa_iastore2 d_X12_open_98 (fun h20 _ => ?_)
    refine xa_step (xa_aload_n d_X12_open_99 rfl) ?_
    refine xa_getf xR xc_12 (by decide) (fun _ => rfl) xw_1341 rfl d_X12_open_100 (fun x21 _ => ?_)
    refine xa_step (xa_iload_n d_X12_open_103 rfl) ?_
    refine xa_step (xa_iconst d_X12_open_104 xq_i_m1) ?_
    refine xa_iastore2 d_X12_open_105 (fun h22 _ => ?_)
    refine xa_step (xa_iinc (ls' := [some (xR c0), some (xI (w32 (v1 + 1)))]) d_X12_open_106 xq_i_1 rfl (by decide) rfl) ?_
    refine xa_step (xa_goto d_X12_open_109) ?_
    exact xa_weak (ls' := [some (xR c0), some (xI (w32 (v1 + 1)))]) ⟨rfl, rfl, trivial⟩ (hb (w32 (v1 + 1)) h22)
  · exact xa_weak (ls' := [some (xR c0), none]) ⟨rfl, trivial⟩ (hx h)
theorem d_X12_open_112 : decode mX12_open.1 112 = .ok (.aload_n 0, 1) ∧ 112 + 1 = 113 := ⟨by decide +kernel, rfl⟩
theorem d_X12_open_113 : decode mX12_open.1 113 = .ok (.getfield 118, 3) ∧ 113 + 3 = 116 := ⟨by decide +kernel, rfl⟩
theorem d_X12_open_116 : decode mX12_open.1 116 = .ok (.iconst 0, 1) ∧ 116 + 1 = 117 := ⟨by decide +kernel, rfl⟩
theorem d_X12_open_117 : decode mX12_open.1 117 = .ok (.iconst 0, 1) ∧ 117 + 1 = 118 := ⟨by decide +kernel, rfl⟩
theorem d_X12_open_118 : decode mX12_open.1 118 = .ok (.iastore, 1) ∧ 118 + 1 = 119 := ⟨by decide +kernel, rfl⟩
theorem d_X12_open_119 : decode mX12_open.1 119 = .ok (.aload_n 0, 1) ∧ 119 + 1 = 120 := ⟨by decide +kernel, rfl⟩
theorem d_X12_open_120 : decode mX12_open.1 120 = .ok (.getfield 121, 3) ∧ 120 + 3 = 123 := ⟨by decide +kernel, rfl⟩
theorem d_X12_open_123 : decode mX12_open.1 123 = .ok (.iconst 0, 1) ∧ 123 + 1 = 124 := ⟨by decide +kernel, rfl⟩
theorem d_X12_open_124 : decode mX12_open.1 124 = .ok (.iconst (-1), 1) ∧ 124 + 1 = 125 := ⟨by decide +kernel, rfl⟩
theorem d_X12_open_125 : decode mX12_open.1 125 = .ok (.iastore, 1) ∧ 125 + 1 = 126 := ⟨by decide +kernel, rfl⟩
theorem d_X12_open_126 : decode mX12_open.1 126 = .ok (.aload_n 0, 1) ∧ 126 + 1 = 127 := ⟨by decide +kernel, rfl⟩
theorem d_X12_open_127 : decode mX12_open.1 127 = .ok (.getfield 121, 3) ∧ 127 + 3 = 130 := ⟨by decide +kernel, rfl⟩
theorem d_X12_open_130 : decode mX12_open.1 130 = .ok (.iconst 1, 1) ∧ 130 + 1 = 131 := ⟨by decide +kernel, rfl⟩
theorem d_X12_open_131 : decode mX12_open.1 131 = .ok (.iconst (-1), 1) ∧ 131 + 1 = 132 := ⟨by decide +kernel, rfl⟩
theorem d_X12_open_132 : decode mX12_open.1 132 = .ok (.iastore, 1) ∧ 132 + 1 = 133 := ⟨by decide +kernel, rfl⟩
theorem d_X12_open_133 : decode mX12_open.1 133 = .ok (.aload_n 0, 1) ∧ 133 + 1 = 134 := ⟨by decide +kernel, rfl⟩
theorem d_X12_open_134 : decode mX12_open.1 134 = .ok (.getfield 249, 3) ∧ 134 + 3 = 137 := ⟨by decide +kernel, rfl⟩
theorem d_X12_open_137 : decode mX12_open.1 137 = .ok (.ifCond .ne 18, 3) ∧ 137 + 3 = 140 ∧ ((137 : Nat) : Int) + 18 = ((155 : Nat) : Int) := ⟨by decide +kernel, rfl, rfl⟩
theorem d_X12_open_140 : decode mX12_open.1 140 = .ok (.aload_n 0, 1) ∧ 140 + 1 = 141 := ⟨by decide +kernel, rfl⟩
theorem d_X12_open_141 : decode mX12_open.1 141 = .ok (.invokevirtual 261, 3) ∧ 141 + 3 = 144 := ⟨by decide +kernel, rfl⟩
theorem d_X12_open_144 : decode mX12_open.1 144 = .ok (.iconst (-1), 1) ∧ 144 + 1 = 145 := ⟨by decide +kernel, rfl⟩
theorem d_X12_open_145 : decode mX12_open.1 145 = .ok (.if_icmp .eq 10, 3) ∧ 145 + 3 = 148 ∧ ((145 : Nat) : Int) + 10 = ((155 : Nat) : Int) := ⟨by decide +kernel, rfl, rfl⟩
theorem d_X12_open_148 : decode mX12_open.1 148 = .ok (.aload_n 0, 1) ∧ 148 + 1 = 149 := ⟨by decide +kernel, rfl⟩
theorem d_X12_open_149 : decode mX12_open.1 149 = .ok (.invokevirtual 381, 3) ∧ 149 + 3 = 152 := ⟨by decide +kernel, rfl⟩
theorem d_X12_open_152 : decode mX12_open.1 152 = .ok (.goto (-19), 3) ∧ ((152 : Nat) : Int) + (-19) = ((133 : Nat) : Int) := ⟨by decide +kernel, rfl⟩
set_option maxRecDepth 100000 in
set_option maxHeartbeats 4000000 in
theorem g_X12_open_L133 (l : Launch) (G : xa_C) (c0 : Int) (K : (xa_H) ⊕ (xa_H) → Option xa_O) (hb : ∀ (h : xa_H), xa_G l G 13 mX12_open (some (Sum.inl h)) K 133 [some (xR c0), none] [] h) (hx : ∀ (h : xa_H), xa_G l G 13 mX12_open (some (Sum.inr h)) K 155 [some (xR c0), none] [] h) : ∀ (h : xa_H), xa_G l G 13 mX12_open (f_X12_open_L133 c0 h) K 133 [some (xR c0), none] [] h := by
  intro h
  unfold f_X12_open_L133
  refine xa_step (xa_aload_n d_X12_open_133 rfl) ?_
  refine xa_getf xI xc_12 (by decide) (fun _ => rfl) xw_1309 rfl d_X12_open_134 (fun x30 _ => ?_)
  refine xa_if (xa_ifne d_X12_open_137) (fun q31 => ?_) (fun q31 => ?_)
  · refine xa_step (xa_aload_n d_X12_open_140 rfl) ?_
    refine xa_callVI (as := []) (st := []) (M' := mX12_look) (d' := 2) rfl xw_1646 xw_1648 xw_66 xw_1649 xw_177 xh_X12_look rfl ⟨Nat.le_of_ble_eq_true rfl, Nat.le_of_ble_eq_true rfl⟩ (Nat.le_of_ble_eq_true rfl) rfl d_X12_open_141 (fun r hr => ct_X12_look l G c0 h r hr) (fun r32 _ => ?_)
    refine xa_step (xa_iconst d_X12_open_144 xq_i_m1) ?_
    refine xa_if (xa_icmpeq d_X12_open_145) (fun q33 => ?_) (fun q33 => ?_)
    · exact xa_weak (ls' := [some (xR c0), none]) ⟨rfl, trivial⟩ (hx r32.2)
    · refine xa_step (xa_aload_n d_X12_open_148 rfl) ?_
      refine xa_callVV (as := []) (st := []) (M' := mX12_statementTold) (d' := 12) rfl xw_1650 xw_1652 xw_67 xw_1653 xw_177 xh_X12_statementTold rfl ⟨Nat.le_of_ble_eq_true rfl, Nat.le_of_ble_eq_true rfl⟩ (Nat.le_of_ble_eq_true rfl) rfl d_X12_open_149 (fun r hr => ct_X12_statementTold l G c0 r32.2 r hr) (fun r34 _ => ?_)
      refine xa_step (xa_goto d_X12_open_152) ?_
      exact xa_weak (ls' := [some (xR c0), none]) ⟨rfl, trivial⟩ (hb r34)
  · exact xa_weak (ls' := [some (xR c0), none]) ⟨rfl, trivial⟩ (hx h)
theorem d_X12_open_155 : decode mX12_open.1 155 = .ok (.aload_n 0, 1) ∧ 155 + 1 = 156 := ⟨by decide +kernel, rfl⟩
theorem d_X12_open_156 : decode mX12_open.1 156 = .ok (.aload_n 0, 1) ∧ 156 + 1 = 157 := ⟨by decide +kernel, rfl⟩
theorem d_X12_open_157 : decode mX12_open.1 157 = .ok (.getfield 249, 3) ∧ 157 + 3 = 160 := ⟨by decide +kernel, rfl⟩
theorem d_X12_open_160 : decode mX12_open.1 160 = .ok (.putfield 384, 3) ∧ 160 + 3 = 163 := ⟨by decide +kernel, rfl⟩
theorem d_X12_open_163 : decode mX12_open.1 163 = .ok (.aload_n 0, 1) ∧ 163 + 1 = 164 := ⟨by decide +kernel, rfl⟩
theorem d_X12_open_164 : decode mX12_open.1 164 = .ok (.aload_n 0, 1) ∧ 164 + 1 = 165 := ⟨by decide +kernel, rfl⟩
theorem d_X12_open_165 : decode mX12_open.1 165 = .ok (.getfield 252, 3) ∧ 165 + 3 = 168 := ⟨by decide +kernel, rfl⟩
theorem d_X12_open_168 : decode mX12_open.1 168 = .ok (.putfield 13, 3) ∧ 168 + 3 = 171 := ⟨by decide +kernel, rfl⟩
theorem d_X12_open_171 : decode mX12_open.1 171 = .ok (.aload_n 0, 1) ∧ 171 + 1 = 172 := ⟨by decide +kernel, rfl⟩
theorem d_X12_open_172 : decode mX12_open.1 172 = .ok (.getfield 249, 3) ∧ 172 + 3 = 175 := ⟨by decide +kernel, rfl⟩
theorem d_X12_open_175 : decode mX12_open.1 175 = .ok (.ifCond .eq 15, 3) ∧ 175 + 3 = 178 ∧ ((175 : Nat) : Int) + 15 = ((190 : Nat) : Int) := ⟨by decide +kernel, rfl, rfl⟩
theorem d_X12_open_190 : decode mX12_open.1 190 = .ok (.aload_n 0, 1) ∧ 190 + 1 = 191 := ⟨by decide +kernel, rfl⟩
theorem d_X12_open_191 : decode mX12_open.1 191 = .ok (.invokevirtual 387, 3) ∧ 191 + 3 = 194 := ⟨by decide +kernel, rfl⟩
theorem d_X12_open_194 : decode mX12_open.1 194 = .ok (.aload_n 0, 1) ∧ 194 + 1 = 195 := ⟨by decide +kernel, rfl⟩
theorem d_X12_open_195 : decode mX12_open.1 195 = .ok (.getfield 356, 3) ∧ 195 + 3 = 198 := ⟨by decide +kernel, rfl⟩
theorem d_X12_open_198 : decode mX12_open.1 198 = .ok (.ireturn, 1) := by decide +kernel
theorem d_X12_open_178 : decode mX12_open.1 178 = .ok (.aload_n 0, 1) ∧ 178 + 1 = 179 := ⟨by decide +kernel, rfl⟩
theorem d_X12_open_179 : decode mX12_open.1 179 = .ok (.getfield 17, 3) ∧ 179 + 3 = 182 := ⟨by decide +kernel, rfl⟩
theorem d_X12_open_182 : decode mX12_open.1 182 = .ok (.iconst 1, 1) ∧ 182 + 1 = 183 := ⟨by decide +kernel, rfl⟩
theorem d_X12_open_183 : decode mX12_open.1 183 = .ok (.dup2, 1) ∧ 183 + 1 = 184 := ⟨by decide +kernel, rfl⟩
theorem d_X12_open_184 : decode mX12_open.1 184 = .ok (.iaload, 1) ∧ 184 + 1 = 185 := ⟨by decide +kernel, rfl⟩
theorem d_X12_open_185 : decode mX12_open.1 185 = .ok (.iconst 1, 1) ∧ 185 + 1 = 186 := ⟨by decide +kernel, rfl⟩
theorem d_X12_open_186 : decode mX12_open.1 186 = .ok (.iadd, 1) ∧ 186 + 1 = 187 := ⟨by decide +kernel, rfl⟩
theorem d_X12_open_187 : decode mX12_open.1 187 = .ok (.iastore, 1) ∧ 187 + 1 = 188 := ⟨by decide +kernel, rfl⟩
theorem d_X12_open_188 : decode mX12_open.1 188 = .ok (.iconst (-1), 1) ∧ 188 + 1 = 189 := ⟨by decide +kernel, rfl⟩
theorem d_X12_open_189 : decode mX12_open.1 189 = .ok (.ireturn, 1) := by decide +kernel
set_option maxRecDepth 100000 in
set_option maxHeartbeats 4000000 in
theorem g_X12_open_J155 (l : Launch) (G : xa_C) : ∀ (v0 : Int) (h : xa_H) , xa_G l G 13 mX12_open (f_X12_open_J155 v0 h) (fun r => some (some (xI r.1), r.2) : (Int × xa_H) → Option xa_O) 155 [some (xR v0), none] [] h := by
  intro v0 h
  unfold f_X12_open_J155
  refine xa_step (xa_aload_n d_X12_open_155 rfl) ?_
  refine xa_step (xa_aload_n d_X12_open_156 rfl) ?_
  refine xa_getf xI xc_12 (by decide) (fun _ => rfl) xw_1309 rfl d_X12_open_157 (fun x36 _ => ?_)
  refine xa_putf2 (tg := xI) xc_12 (by decide) (fun _ => rfl) rfl (fun c hc => xa_fitI c hc) xw_1311 rfl d_X12_open_160 (fun h37 _ => ?_)
  refine xa_step (xa_aload_n d_X12_open_163 rfl) ?_
  refine xa_step (xa_aload_n d_X12_open_164 rfl) ?_
  refine xa_getf xI xc_12 (by decide) (fun _ => rfl) xw_1310 rfl d_X12_open_165 (fun x38 _ => ?_)
  refine xa_putf2 (tg := xI) xc_12 (by decide) (fun _ => rfl) rfl (fun c hc => xa_fitI c hc) xw_1312 rfl d_X12_open_168 (fun h39 _ => ?_)
  refine xa_step (xa_aload_n d_X12_open_171 rfl) ?_
  refine xa_getf xI xc_12 (by decide) (fun _ => rfl) xw_1309 rfl d_X12_open_172 (fun x40 _ => ?_)
  refine xa_if (xa_ifeq d_X12_open_175) (fun q41 => ?_) (fun q41 => ?_)
  · refine xa_step (xa_aload_n d_X12_open_190 rfl) ?_
    refine xa_callVV (as := []) (st := []) (M' := mX12_stands) (d' := 2) rfl xw_1820 xw_1822 xw_106 xw_1823 xw_177 xh_X12_stands rfl ⟨Nat.le_of_ble_eq_true rfl, Nat.le_of_ble_eq_true rfl⟩ (Nat.le_of_ble_eq_true rfl) rfl d_X12_open_191 (fun r hr => ct_X12_stands l G v0 h39 r hr) (fun r42 _ => ?_)
    refine xa_step (xa_aload_n d_X12_open_194 rfl) ?_
    refine xa_getf xI xc_12 (by decide) (fun _ => rfl) xw_1352 rfl d_X12_open_195 (fun x43 _ => ?_)
    exact xa_iret d_X12_open_198 rfl rfl
  · refine xa_step (xa_aload_n d_X12_open_178 rfl) ?_
    refine xa_getf xR xc_12 (by decide) (fun _ => rfl) xw_1313 rfl d_X12_open_179 (fun x44 _ => ?_)
    refine xa_step (xa_iconst d_X12_open_182 xq_i_1) ?_
    refine xa_step (xa_dup2 d_X12_open_183 (xa_tI _) (xa_tR _)) ?_
    refine xa_iaload d_X12_open_184 (fun x45 _ => ?_)
    refine xa_step (xa_iconst d_X12_open_185 xq_i_1) ?_
    refine xa_step (xa_iadd d_X12_open_186) ?_
    refine xa_iastore2 d_X12_open_187 (fun h46 _ => ?_)
    refine xa_step (xa_iconst d_X12_open_188 xq_i_m1) ?_
    exact xa_iret d_X12_open_189 rfl rfl
set_option maxRecDepth 100000 in
set_option maxHeartbeats 4000000 in
theorem g_X12_open (l : Launch) (G : xa_C) (v0 : Int) (h : xa_H) : xa_G l G 13 mX12_open (f_X12_open v0 h) (fun r => some (some (xI r.1), r.2) : (Int × xa_H) → Option xa_O) 0 [some (xR v0), none] [] h := by
  unfold f_X12_open
  refine xa_step (xa_aload_n d_X12_open_0 rfl) ?_
  refine xa_step (xa_aload_n d_X12_open_1 rfl) ?_
  refine xa_getf xI xc_12 (by decide) (fun _ => rfl) xw_1305 rfl d_X12_open_2 (fun x1 _ => ?_)
  refine xa_putf2 (tg := xI) xc_12 (by decide) (fun _ => rfl) rfl (fun c hc => xa_fitI c hc) xw_1307 rfl d_X12_open_5 (fun h2 _ => ?_)
  refine xa_step (xa_aload_n d_X12_open_8 rfl) ?_
  refine xa_step (xa_iconst d_X12_open_9 xq_i_0) ?_
  refine xa_putf2 (tg := xI) xc_12 (by decide) (fun _ => rfl) rfl (fun c hc => xa_fitI c hc) xw_1305 rfl d_X12_open_10 (fun h3 _ => ?_)
  refine xa_step (xa_aload_n d_X12_open_13 rfl) ?_
  refine xa_step (xa_iconst d_X12_open_14 xq_i_0) ?_
  refine xa_putf2 (tg := xI) xc_12 (by decide) (fun _ => rfl) rfl (fun c hc => xa_fitI c hc) xw_1306 rfl d_X12_open_15 (fun h4 _ => ?_)
  refine xa_step (xa_aload_n d_X12_open_18 rfl) ?_
  refine xa_step (xa_iconst d_X12_open_19 xq_i_m1) ?_
  refine xa_putf2 (tg := xI) xc_12 (by decide) (fun _ => rfl) rfl (fun c hc => xa_fitI c hc) xw_1308 rfl d_X12_open_20 (fun h5 _ => ?_)
  refine xa_step (xa_aload_n d_X12_open_23 rfl) ?_
  refine xa_step (xa_iconst d_X12_open_24 xq_i_0) ?_
  refine xa_putf2 (tg := xI) xc_12 (by decide) (fun _ => rfl) rfl (fun c hc => xa_fitI c hc) xw_1309 rfl d_X12_open_25 (fun h6 _ => ?_)
  refine xa_step (xa_aload_n d_X12_open_28 rfl) ?_
  refine xa_step (xa_iconst d_X12_open_29 xq_i_m1) ?_
  refine xa_putf2 (tg := xI) xc_12 (by decide) (fun _ => rfl) rfl (fun c hc => xa_fitI c hc) xw_1310 rfl d_X12_open_30 (fun h7 _ => ?_)
  refine xa_step (xa_aload_n d_X12_open_33 rfl) ?_
  refine xa_step (xa_iconst d_X12_open_34 xq_i_0) ?_
  refine xa_putf2 (tg := xI) xc_12 (by decide) (fun _ => rfl) rfl (fun c hc => xa_fitI c hc) xw_1352 rfl d_X12_open_35 (fun h8 _ => ?_)
  refine xa_step (xa_aload_n d_X12_open_38 rfl) ?_
  refine xa_step (xa_iconst d_X12_open_39 xq_i_0) ?_
  refine xa_putf2 (tg := xI) xc_12 (by decide) (fun _ => rfl) rfl (fun c hc => xa_fitI c hc) xw_1351 rfl d_X12_open_40 (fun h9 _ => ?_)
  refine xa_step (xa_iconst d_X12_open_43 xq_i_0) ?_
  refine xa_step (xa_istore_n (ls' := [some (xR v0), some (xI 0)]) d_X12_open_44 (by decide) rfl) ?_
  refine xa_weak (ls' := [some (xR v0), some (xI 0)]) ⟨rfl, rfl, trivial⟩ ?_
  refine xa_loop (f := fun s => f_X12_open_L45 v0 s.1 s.2) (L := fun s => [some (xR v0), some (xI s.1)]) (P := fun s => s.2) (X := (fun x K => xa_G l G 13 mX12_open (some (Sum.inr x)) K 63 [some (xR v0), none] [] x)) (fun K hb hX s => g_X12_open_L45 l G v0 K (fun w0 hh => hb ((w0, hh))) (fun hh => hX hh) s.1 s.2) ?_ xFU ((0, h9))
  intro e13 K hK
  refine xa_eqE hK ?_
  show xa_G l G 13 mX12_open _ _ 63 [some (xR v0), none] [] e13
  refine xa_step (xa_iconst d_X12_open_63 xq_i_0) ?_
  refine xa_step (xa_istore_n (ls' := [some (xR v0), some (xI 0)]) d_X12_open_64 (by decide) rfl) ?_
  refine xa_weak (ls' := [some (xR v0), some (xI 0)]) ⟨rfl, rfl, trivial⟩ ?_
  refine xa_loop (f := fun s => f_X12_open_L65 v0 s.1 s.2) (L := fun s => [some (xR v0), some (xI s.1)]) (P := fun s => s.2) (X := (fun x K => xa_G l G 13 mX12_open (some (Sum.inr x)) K 84 [some (xR v0), none] [] x)) (fun K hb hX s => g_X12_open_L65 l G v0 K (fun w0 hh => hb ((w0, hh))) (fun hh => hX hh) s.1 s.2) ?_ xFU ((0, e13))
  intro e17 K hK
  refine xa_eqE hK ?_
  show xa_G l G 13 mX12_open _ _ 84 [some (xR v0), none] [] e17
  refine xa_step (xa_iconst d_X12_open_84 xq_i_0) ?_
  refine xa_step (xa_istore_n (ls' := [some (xR v0), some (xI 0)]) d_X12_open_85 (by decide) rfl) ?_
  refine xa_weak (ls' := [some (xR v0), some (xI 0)]) ⟨rfl, rfl, trivial⟩ ?_
  refine xa_loop (f := fun s => f_X12_open_L86 v0 s.1 s.2) (L := fun s => [some (xR v0), some (xI s.1)]) (P := fun s => s.2) (X := (fun x K => xa_G l G 13 mX12_open (some (Sum.inr x)) K 112 [some (xR v0), none] [] x)) (fun K hb hX s => g_X12_open_L86 l G v0 K (fun w0 hh => hb ((w0, hh))) (fun hh => hX hh) s.1 s.2) ?_ xFU ((0, e17))
  intro e23 K hK
  refine xa_eqE hK ?_
  show xa_G l G 13 mX12_open _ _ 112 [some (xR v0), none] [] e23
  refine xa_step (xa_aload_n d_X12_open_112 rfl) ?_
  refine xa_getf xR xc_12 (by decide) (fun _ => rfl) xw_1347 rfl d_X12_open_113 (fun x24 _ => ?_)
  refine xa_step (xa_iconst d_X12_open_116 xq_i_0) ?_
  refine xa_step (xa_iconst d_X12_open_117 xq_i_0) ?_
  refine xa_iastore2 d_X12_open_118 (fun h25 _ => ?_)
  refine xa_step (xa_aload_n d_X12_open_119 rfl) ?_
  refine xa_getf xR xc_12 (by decide) (fun _ => rfl) xw_1348 rfl d_X12_open_120 (fun x26 _ => ?_)
  refine xa_step (xa_iconst d_X12_open_123 xq_i_0) ?_
  refine xa_step (xa_iconst d_X12_open_124 xq_i_m1) ?_
  refine xa_iastore2 d_X12_open_125 (fun h27 _ => ?_)
  refine xa_step (xa_aload_n d_X12_open_126 rfl) ?_
  refine xa_getf xR xc_12 (by decide) (fun _ => rfl) xw_1348 rfl d_X12_open_127 (fun x28 _ => ?_)
  refine xa_step (xa_iconst d_X12_open_130 xq_i_1) ?_
  refine xa_step (xa_iconst d_X12_open_131 xq_i_m1) ?_
  refine xa_iastore2 d_X12_open_132 (fun h29 _ => ?_)
  refine xa_weak (ls' := [some (xR v0), none]) ⟨rfl, trivial⟩ ?_
  refine xa_loop (f := fun s => f_X12_open_L133 v0 s) (L := fun s => [some (xR v0), none]) (P := fun s => s) (X := (fun x K => xa_G l G 13 mX12_open (some (Sum.inr x)) K 155 [some (xR v0), none] [] x)) (fun K hb hX s => g_X12_open_L133 l G v0 K (fun hh => hb hh) (fun hh => hX hh) s) ?_ xFU h29
  intro e35 K hK
  refine xa_eqE hK ?_
  show xa_G l G 13 mX12_open _ _ 155 [some (xR v0), none] [] e35
  exact xa_weak (ls' := [some (xR v0), none]) ⟨rfl, trivial⟩ (g_X12_open_J155 l G v0 e35)
theorem ct_X12_open (l : Launch) (G : xa_C) (v0 : Int) (h : xa_H) (r : Int × xa_H) (hr : f_X12_open v0 h = some r) : xa_CT l G 13 mX12_open yX12_open [xR v0] h (some (xI r.1), r.2) :=
  xa_met (by decide +kernel) rfl (fun q => by first | rfl | cases q) (Nat.le_of_ble_eq_true rfl) rfl (g_X12_open l G v0 h) (by rw [hr]; rfl)
abbrev mX12_holderFrom : xa_M := (cX12_holderFrom, 2, (some (.int)), RX12, false)
theorem d_X12_holderFrom_0 : decode mX12_holderFrom.1 0 = .ok (.iconst 2, 1) ∧ 0 + 1 = 1 := ⟨by decide +kernel, rfl⟩
theorem d_X12_holderFrom_1 : decode mX12_holderFrom.1 1 = .ok (.iload_n 1, 1) ∧ 1 + 1 = 2 := ⟨by decide +kernel, rfl⟩
theorem d_X12_holderFrom_2 : decode mX12_holderFrom.1 2 = .ok (.iconst 4, 1) ∧ 2 + 1 = 3 := ⟨by decide +kernel, rfl⟩
theorem d_X12_holderFrom_3 : decode mX12_holderFrom.1 3 = .ok (.aload_n 0, 1) ∧ 3 + 1 = 4 := ⟨by decide +kernel, rfl⟩
theorem d_X12_holderFrom_4 : decode mX12_holderFrom.1 4 = .ok (.invokevirtual 402, 3) ∧ 4 + 3 = 7 := ⟨by decide +kernel, rfl⟩
theorem d_X12_holderFrom_7 : decode mX12_holderFrom.1 7 = .ok (.iadd, 1) ∧ 7 + 1 = 8 := ⟨by decide +kernel, rfl⟩
theorem d_X12_holderFrom_8 : decode mX12_holderFrom.1 8 = .ok (.imul, 1) ∧ 8 + 1 = 9 := ⟨by decide +kernel, rfl⟩
theorem d_X12_holderFrom_9 : decode mX12_holderFrom.1 9 = .ok (.iadd, 1) ∧ 9 + 1 = 10 := ⟨by decide +kernel, rfl⟩
theorem d_X12_holderFrom_10 : decode mX12_holderFrom.1 10 = .ok (.ireturn, 1) := by decide +kernel
set_option maxRecDepth 100000 in
set_option maxHeartbeats 4000000 in
theorem g_X12_holderFrom (l : Launch) (G : xa_C) (v0 v1 : Int) (h : xa_H) : xa_G l G 3 mX12_holderFrom (f_X12_holderFrom v0 v1 h) (fun r => some (some (xI r), h) : Int → Option xa_O) 0 [some (xR v0), some (xI v1)] [] h := by
  unfold f_X12_holderFrom
  refine xa_step (xa_iconst d_X12_holderFrom_0 xq_i_2) ?_
  refine xa_step (xa_iload_n d_X12_holderFrom_1 rfl) ?_
  refine xa_step (xa_iconst d_X12_holderFrom_2 xq_i_4) ?_
  refine xa_step (xa_aload_n d_X12_holderFrom_3 rfl) ?_
  refine xa_callVi (as := []) (st := [xI 4, xI v1, xI 2]) (M' := mX12_holderMany) (d' := 2) rfl xw_1836 xw_1838 xw_108 xw_1839 xw_177 xh_X12_holderMany rfl ⟨Nat.le_of_ble_eq_true rfl, Nat.le_of_ble_eq_true rfl⟩ (Nat.le_of_ble_eq_true rfl) rfl d_X12_holderFrom_4 (fun r hr => ct_X12_holderMany l G v0 h r hr) (fun r1 _ => ?_)
  refine xa_step (xa_iadd d_X12_holderFrom_7) ?_
  refine xa_step (xa_imul d_X12_holderFrom_8) ?_
  refine xa_step (xa_iadd d_X12_holderFrom_9) ?_
  exact xa_iret d_X12_holderFrom_10 rfl rfl
theorem ct_X12_holderFrom (l : Launch) (G : xa_C) (v0 v1 : Int) (h : xa_H) (r : Int) (hr : f_X12_holderFrom v0 v1 h = some r) : xa_CT l G 3 mX12_holderFrom yX12_holderFrom [xR v0, xI v1] h (some (xI r), h) :=
  xa_met (by decide +kernel) rfl (fun q => by first | rfl | cases q) (Nat.le_of_ble_eq_true rfl) rfl (g_X12_holderFrom l G v0 v1 h) (by rw [hr]; rfl)
abbrev mX12_isHolderTold : xa_M := (cX12_isHolderTold, 4, (some (.boolean)), RX12, false)
theorem d_X12_isHolderTold_0 : decode mX12_isHolderTold.1 0 = .ok (.aload_n 0, 1) ∧ 0 + 1 = 1 := ⟨by decide +kernel, rfl⟩
theorem d_X12_isHolderTold_1 : decode mX12_isHolderTold.1 1 = .ok (.iload_n 1, 1) ∧ 1 + 1 = 2 := ⟨by decide +kernel, rfl⟩
theorem d_X12_isHolderTold_2 : decode mX12_isHolderTold.1 2 = .ok (.invokevirtual 695, 3) ∧ 2 + 3 = 5 := ⟨by decide +kernel, rfl⟩
theorem d_X12_isHolderTold_5 : decode mX12_isHolderTold.1 5 = .ok (.istore_n 2, 1) ∧ 5 + 1 = 6 := ⟨by decide +kernel, rfl⟩
theorem d_X12_isHolderTold_6 : decode mX12_isHolderTold.1 6 = .ok (.aload_n 0, 1) ∧ 6 + 1 = 7 := ⟨by decide +kernel, rfl⟩
theorem d_X12_isHolderTold_7 : decode mX12_isHolderTold.1 7 = .ok (.aload_n 0, 1) ∧ 7 + 1 = 8 := ⟨by decide +kernel, rfl⟩
theorem d_X12_isHolderTold_8 : decode mX12_isHolderTold.1 8 = .ok (.getfield 7, 3) ∧ 8 + 3 = 11 := ⟨by decide +kernel, rfl⟩
theorem d_X12_isHolderTold_11 : decode mX12_isHolderTold.1 11 = .ok (.iload_n 2, 1) ∧ 11 + 1 = 12 := ⟨by decide +kernel, rfl⟩
theorem d_X12_isHolderTold_12 : decode mX12_isHolderTold.1 12 = .ok (.iaload, 1) ∧ 12 + 1 = 13 := ⟨by decide +kernel, rfl⟩
theorem d_X12_isHolderTold_13 : decode mX12_isHolderTold.1 13 = .ok (.invokevirtual 488, 3) ∧ 13 + 3 = 16 := ⟨by decide +kernel, rfl⟩
theorem d_X12_isHolderTold_16 : decode mX12_isHolderTold.1 16 = .ok (.ifCond .eq 45, 3) ∧ 16 + 3 = 19 ∧ ((16 : Nat) : Int) + 45 = ((61 : Nat) : Int) := ⟨by decide +kernel, rfl, rfl⟩
theorem d_X12_isHolderTold_61 : decode mX12_isHolderTold.1 61 = .ok (.iconst 0, 1) ∧ 61 + 1 = 62 := ⟨by decide +kernel, rfl⟩
theorem d_X12_isHolderTold_62 : decode mX12_isHolderTold.1 62 = .ok (.ireturn, 1) := by decide +kernel
theorem d_X12_isHolderTold_19 : decode mX12_isHolderTold.1 19 = .ok (.aload_n 0, 1) ∧ 19 + 1 = 20 := ⟨by decide +kernel, rfl⟩
theorem d_X12_isHolderTold_20 : decode mX12_isHolderTold.1 20 = .ok (.aload_n 0, 1) ∧ 20 + 1 = 21 := ⟨by decide +kernel, rfl⟩
theorem d_X12_isHolderTold_21 : decode mX12_isHolderTold.1 21 = .ok (.getfield 7, 3) ∧ 21 + 3 = 24 := ⟨by decide +kernel, rfl⟩
theorem d_X12_isHolderTold_24 : decode mX12_isHolderTold.1 24 = .ok (.iload_n 2, 1) ∧ 24 + 1 = 25 := ⟨by decide +kernel, rfl⟩
theorem d_X12_isHolderTold_25 : decode mX12_isHolderTold.1 25 = .ok (.iconst 1, 1) ∧ 25 + 1 = 26 := ⟨by decide +kernel, rfl⟩
theorem d_X12_isHolderTold_26 : decode mX12_isHolderTold.1 26 = .ok (.iadd, 1) ∧ 26 + 1 = 27 := ⟨by decide +kernel, rfl⟩
theorem d_X12_isHolderTold_27 : decode mX12_isHolderTold.1 27 = .ok (.iaload, 1) ∧ 27 + 1 = 28 := ⟨by decide +kernel, rfl⟩
theorem d_X12_isHolderTold_28 : decode mX12_isHolderTold.1 28 = .ok (.invokevirtual 488, 3) ∧ 28 + 3 = 31 := ⟨by decide +kernel, rfl⟩
theorem d_X12_isHolderTold_31 : decode mX12_isHolderTold.1 31 = .ok (.ifCond .eq 30, 3) ∧ 31 + 3 = 34 ∧ ((31 : Nat) : Int) + 30 = ((61 : Nat) : Int) := ⟨by decide +kernel, rfl, rfl⟩
theorem d_X12_isHolderTold_34 : decode mX12_isHolderTold.1 34 = .ok (.sipush 256, 3) ∧ 34 + 3 = 37 := ⟨by decide +kernel, rfl⟩
theorem d_X12_isHolderTold_37 : decode mX12_isHolderTold.1 37 = .ok (.aload_n 0, 1) ∧ 37 + 1 = 38 := ⟨by decide +kernel, rfl⟩
theorem d_X12_isHolderTold_38 : decode mX12_isHolderTold.1 38 = .ok (.getfield 7, 3) ∧ 38 + 3 = 41 := ⟨by decide +kernel, rfl⟩
theorem d_X12_isHolderTold_41 : decode mX12_isHolderTold.1 41 = .ok (.iload_n 2, 1) ∧ 41 + 1 = 42 := ⟨by decide +kernel, rfl⟩
theorem d_X12_isHolderTold_42 : decode mX12_isHolderTold.1 42 = .ok (.iconst 2, 1) ∧ 42 + 1 = 43 := ⟨by decide +kernel, rfl⟩
theorem d_X12_isHolderTold_43 : decode mX12_isHolderTold.1 43 = .ok (.iadd, 1) ∧ 43 + 1 = 44 := ⟨by decide +kernel, rfl⟩
theorem d_X12_isHolderTold_44 : decode mX12_isHolderTold.1 44 = .ok (.iaload, 1) ∧ 44 + 1 = 45 := ⟨by decide +kernel, rfl⟩
theorem d_X12_isHolderTold_45 : decode mX12_isHolderTold.1 45 = .ok (.imul, 1) ∧ 45 + 1 = 46 := ⟨by decide +kernel, rfl⟩
theorem d_X12_isHolderTold_46 : decode mX12_isHolderTold.1 46 = .ok (.aload_n 0, 1) ∧ 46 + 1 = 47 := ⟨by decide +kernel, rfl⟩
theorem d_X12_isHolderTold_47 : decode mX12_isHolderTold.1 47 = .ok (.getfield 7, 3) ∧ 47 + 3 = 50 := ⟨by decide +kernel, rfl⟩
theorem d_X12_isHolderTold_50 : decode mX12_isHolderTold.1 50 = .ok (.iload_n 2, 1) ∧ 50 + 1 = 51 := ⟨by decide +kernel, rfl⟩
theorem d_X12_isHolderTold_51 : decode mX12_isHolderTold.1 51 = .ok (.iconst 3, 1) ∧ 51 + 1 = 52 := ⟨by decide +kernel, rfl⟩
theorem d_X12_isHolderTold_52 : decode mX12_isHolderTold.1 52 = .ok (.iadd, 1) ∧ 52 + 1 = 53 := ⟨by decide +kernel, rfl⟩
theorem d_X12_isHolderTold_53 : decode mX12_isHolderTold.1 53 = .ok (.iaload, 1) ∧ 53 + 1 = 54 := ⟨by decide +kernel, rfl⟩
theorem d_X12_isHolderTold_54 : decode mX12_isHolderTold.1 54 = .ok (.iadd, 1) ∧ 54 + 1 = 55 := ⟨by decide +kernel, rfl⟩
theorem d_X12_isHolderTold_55 : decode mX12_isHolderTold.1 55 = .ok (.sipush 9999, 3) ∧ 55 + 3 = 58 := ⟨by decide +kernel, rfl⟩
theorem d_X12_isHolderTold_58 : decode mX12_isHolderTold.1 58 = .ok (.if_icmp .le 5, 3) ∧ 58 + 3 = 61 ∧ ((58 : Nat) : Int) + 5 = ((63 : Nat) : Int) := ⟨by decide +kernel, rfl, rfl⟩
theorem d_X12_isHolderTold_63 : decode mX12_isHolderTold.1 63 = .ok (.iconst 0, 1) ∧ 63 + 1 = 64 := ⟨by decide +kernel, rfl⟩
theorem d_X12_isHolderTold_64 : decode mX12_isHolderTold.1 64 = .ok (.istore_n 3, 1) ∧ 64 + 1 = 65 := ⟨by decide +kernel, rfl⟩
theorem d_X12_isHolderTold_65 : decode mX12_isHolderTold.1 65 = .ok (.iload_n 3, 1) ∧ 65 + 1 = 66 := ⟨by decide +kernel, rfl⟩
theorem d_X12_isHolderTold_66 : decode mX12_isHolderTold.1 66 = .ok (.aload_n 0, 1) ∧ 66 + 1 = 67 := ⟨by decide +kernel, rfl⟩
theorem d_X12_isHolderTold_67 : decode mX12_isHolderTold.1 67 = .ok (.invokevirtual 402, 3) ∧ 67 + 3 = 70 := ⟨by decide +kernel, rfl⟩
theorem d_X12_isHolderTold_70 : decode mX12_isHolderTold.1 70 = .ok (.if_icmp .ge 35, 3) ∧ 70 + 3 = 73 ∧ ((70 : Nat) : Int) + 35 = ((105 : Nat) : Int) := ⟨by decide +kernel, rfl, rfl⟩
theorem d_X12_isHolderTold_73 : decode mX12_isHolderTold.1 73 = .ok (.aload_n 0, 1) ∧ 73 + 1 = 74 := ⟨by decide +kernel, rfl⟩
theorem d_X12_isHolderTold_74 : decode mX12_isHolderTold.1 74 = .ok (.getfield 7, 3) ∧ 74 + 3 = 77 := ⟨by decide +kernel, rfl⟩
theorem d_X12_isHolderTold_77 : decode mX12_isHolderTold.1 77 = .ok (.iload_n 2, 1) ∧ 77 + 1 = 78 := ⟨by decide +kernel, rfl⟩
theorem d_X12_isHolderTold_78 : decode mX12_isHolderTold.1 78 = .ok (.iconst 4, 1) ∧ 78 + 1 = 79 := ⟨by decide +kernel, rfl⟩
theorem d_X12_isHolderTold_79 : decode mX12_isHolderTold.1 79 = .ok (.iadd, 1) ∧ 79 + 1 = 80 := ⟨by decide +kernel, rfl⟩
theorem d_X12_isHolderTold_80 : decode mX12_isHolderTold.1 80 = .ok (.iload_n 3, 1) ∧ 80 + 1 = 81 := ⟨by decide +kernel, rfl⟩
theorem d_X12_isHolderTold_81 : decode mX12_isHolderTold.1 81 = .ok (.iadd, 1) ∧ 81 + 1 = 82 := ⟨by decide +kernel, rfl⟩
theorem d_X12_isHolderTold_82 : decode mX12_isHolderTold.1 82 = .ok (.iaload, 1) ∧ 82 + 1 = 83 := ⟨by decide +kernel, rfl⟩
theorem d_X12_isHolderTold_83 : decode mX12_isHolderTold.1 83 = .ok (.iload_n 3, 1) ∧ 83 + 1 = 84 := ⟨by decide +kernel, rfl⟩
theorem d_X12_isHolderTold_84 : decode mX12_isHolderTold.1 84 = .ok (.iload_n 1, 1) ∧ 84 + 1 = 85 := ⟨by decide +kernel, rfl⟩
theorem d_X12_isHolderTold_85 : decode mX12_isHolderTold.1 85 = .ok (.if_icmp .ne 7, 3) ∧ 85 + 3 = 88 ∧ ((85 : Nat) : Int) + 7 = ((92 : Nat) : Int) := ⟨by decide +kernel, rfl, rfl⟩
theorem d_X12_isHolderTold_88 : decode mX12_isHolderTold.1 88 = .ok (.iconst 0, 1) ∧ 88 + 1 = 89 := ⟨by decide +kernel, rfl⟩
theorem d_X12_isHolderTold_89 : decode mX12_isHolderTold.1 89 = .ok (.goto 5, 3) ∧ ((89 : Nat) : Int) + 5 = ((94 : Nat) : Int) := ⟨by decide +kernel, rfl⟩
theorem d_X12_isHolderTold_94 : decode mX12_isHolderTold.1 94 = .ok (.if_icmp .le 5, 3) ∧ 94 + 3 = 97 ∧ ((94 : Nat) : Int) + 5 = ((99 : Nat) : Int) := ⟨by decide +kernel, rfl, rfl⟩
theorem d_X12_isHolderTold_97 : decode mX12_isHolderTold.1 97 = .ok (.iconst 0, 1) ∧ 97 + 1 = 98 := ⟨by decide +kernel, rfl⟩
theorem d_X12_isHolderTold_98 : decode mX12_isHolderTold.1 98 = .ok (.ireturn, 1) := by decide +kernel
theorem d_X12_isHolderTold_99 : decode mX12_isHolderTold.1 99 = .ok (.iinc 3 1, 3) ∧ 99 + 3 = 102 := ⟨by decide +kernel, rfl⟩
theorem d_X12_isHolderTold_102 : decode mX12_isHolderTold.1 102 = .ok (.goto (-37), 3) ∧ ((102 : Nat) : Int) + (-37) = ((65 : Nat) : Int) := ⟨by decide +kernel, rfl⟩
set_option maxRecDepth 100000 in
set_option maxHeartbeats 4000000 in
theorem g_X12_isHolderTold_J94L65 (l : Launch) (G : xa_C) (c0 c1 c2 : Int) (h : xa_H) (K : (Int) ⊕ ((Int) ⊕ (Unit)) → Option xa_O) (hb : ∀ (v3 : Int), xa_G l G 4 mX12_isHolderTold (some (Sum.inl v3)) K 65 [some (xR c0), some (xI c1), some (xI c2), some (xI v3)] [] h) (hr : ∀ r : Int, K (Sum.inr (Sum.inl r)) = some (some (xI r), h)) (hx : xa_G l G 4 mX12_isHolderTold (some (Sum.inr (Sum.inr (())))) K 105 [some (xR c0), some (xI c1), some (xI c2), none] [] h) : ∀ (v3 s0 s1 : Int) , xa_G l G 4 mX12_isHolderTold (f_X12_isHolderTold_J94L65 c0 c1 c2 v3 s0 s1 h) K 94 [some (xR c0), some (xI c1), some (xI c2), some (xI v3)] [xI s1, xI s0] h := by
  intro v3 s0 s1
  unfold f_X12_isHolderTold_J94L65
  refine xa_if (xa_icmple d_X12_isHolderTold_94) (fun q20 => ?_) (fun q20 => ?_)
  · refine xa_step (xa_iconst d_X12_isHolderTold_97 xq_i_0) ?_
    exact xa_zret d_X12_isHolderTold_98 rfl (Or.inl rfl) (hr _)
  · refine xa_step (xa_iinc (ls' := [some (xR c0), some (xI c1), some (xI c2), some (xI (w32 (v3 + 1)))]) d_X12_isHolderTold_99 xq_i_1 rfl (by decide) rfl) ?_
    refine xa_step (xa_goto d_X12_isHolderTold_102) ?_
    exact xa_weak (ls' := [some (xR c0), some (xI c1), some (xI c2), some (xI (w32 (v3 + 1)))]) ⟨rfl, rfl, rfl, rfl, trivial⟩ (hb (w32 (v3 + 1)))
theorem d_X12_isHolderTold_92 : decode mX12_isHolderTold.1 92 = .ok (.bipush 99, 2) ∧ 92 + 2 = 94 := ⟨by decide +kernel, rfl⟩
set_option maxRecDepth 100000 in
set_option maxHeartbeats 4000000 in
theorem g_X12_isHolderTold_L65 (l : Launch) (G : xa_C) (c0 c1 c2 : Int) (h : xa_H) (K : (Int) ⊕ ((Int) ⊕ (Unit)) → Option xa_O) (hb : ∀ (v3 : Int), xa_G l G 4 mX12_isHolderTold (some (Sum.inl v3)) K 65 [some (xR c0), some (xI c1), some (xI c2), some (xI v3)] [] h) (hr : ∀ r : Int, K (Sum.inr (Sum.inl r)) = some (some (xI r), h)) (hx : xa_G l G 4 mX12_isHolderTold (some (Sum.inr (Sum.inr (())))) K 105 [some (xR c0), some (xI c1), some (xI c2), none] [] h) : ∀ (v3 : Int), xa_G l G 4 mX12_isHolderTold (f_X12_isHolderTold_L65 c0 c1 c2 h v3) K 65 [some (xR c0), some (xI c1), some (xI c2), some (xI v3)] [] h := by
  intro v3
  unfold f_X12_isHolderTold_L65
  refine xa_step (xa_iload_n d_X12_isHolderTold_65 rfl) ?_
  refine xa_step (xa_aload_n d_X12_isHolderTold_66 rfl) ?_
  refine xa_callVi (as := []) (st := [xI v3]) (M' := mX12_holderMany) (d' := 2) rfl xw_1836 xw_1838 xw_108 xw_1839 xw_177 xh_X12_holderMany rfl ⟨Nat.le_of_ble_eq_true rfl, Nat.le_of_ble_eq_true rfl⟩ (Nat.le_of_ble_eq_true rfl) rfl d_X12_isHolderTold_67 (fun r hr => ct_X12_holderMany l G c0 h r hr) (fun r15 _ => ?_)
  refine xa_if (xa_icmpge d_X12_isHolderTold_70) (fun q16 => ?_) (fun q16 => ?_)
  · refine xa_step (xa_aload_n d_X12_isHolderTold_73 rfl) ?_
    refine xa_getf xR xc_12 (by decide) (fun _ => rfl) xw_1304 rfl d_X12_isHolderTold_74 (fun x17 _ => ?_)
    refine xa_step (xa_iload_n d_X12_isHolderTold_77 rfl) ?_
    refine xa_step (xa_iconst d_X12_isHolderTold_78 xq_i_4) ?_
    refine xa_step (xa_iadd d_X12_isHolderTold_79) ?_
    refine xa_step (xa_iload_n d_X12_isHolderTold_80 rfl) ?_
    refine xa_step (xa_iadd d_X12_isHolderTold_81) ?_
    refine xa_iaload d_X12_isHolderTold_82 (fun x18 _ => ?_)
    refine xa_step (xa_iload_n d_X12_isHolderTold_83 rfl) ?_
    refine xa_step (xa_iload_n d_X12_isHolderTold_84 rfl) ?_
    refine xa_if (xa_icmpne d_X12_isHolderTold_85) (fun q19 => ?_) (fun q19 => ?_)
    · refine xa_step (xa_iconst d_X12_isHolderTold_88 xq_i_0) ?_
      refine xa_step (xa_goto d_X12_isHolderTold_89) ?_
      exact xa_weak (ls' := [some (xR c0), some (xI c1), some (xI c2), some (xI v3)]) ⟨rfl, rfl, rfl, rfl, trivial⟩ (g_X12_isHolderTold_J94L65 l G c0 c1 c2 h K hb hr hx v3 x18 0)
    · refine xa_step (xa_bipush d_X12_isHolderTold_92 xq_b_99) ?_
      exact xa_weak (ls' := [some (xR c0), some (xI c1), some (xI c2), some (xI v3)]) ⟨rfl, rfl, rfl, rfl, trivial⟩ (g_X12_isHolderTold_J94L65 l G c0 c1 c2 h K hb hr hx v3 x18 99)
  · exact xa_weak (ls' := [some (xR c0), some (xI c1), some (xI c2), none]) ⟨rfl, rfl, rfl, trivial⟩ (hx )
theorem d_X12_isHolderTold_105 : decode mX12_isHolderTold.1 105 = .ok (.iconst 0, 1) ∧ 105 + 1 = 106 := ⟨by decide +kernel, rfl⟩
theorem d_X12_isHolderTold_106 : decode mX12_isHolderTold.1 106 = .ok (.istore_n 3, 1) ∧ 106 + 1 = 107 := ⟨by decide +kernel, rfl⟩
theorem d_X12_isHolderTold_107 : decode mX12_isHolderTold.1 107 = .ok (.iload_n 3, 1) ∧ 107 + 1 = 108 := ⟨by decide +kernel, rfl⟩
theorem d_X12_isHolderTold_108 : decode mX12_isHolderTold.1 108 = .ok (.iload_n 1, 1) ∧ 108 + 1 = 109 := ⟨by decide +kernel, rfl⟩
theorem d_X12_isHolderTold_109 : decode mX12_isHolderTold.1 109 = .ok (.if_icmp .ge 30, 3) ∧ 109 + 3 = 112 ∧ ((109 : Nat) : Int) + 30 = ((139 : Nat) : Int) := ⟨by decide +kernel, rfl, rfl⟩
theorem d_X12_isHolderTold_112 : decode mX12_isHolderTold.1 112 = .ok (.aload_n 0, 1) ∧ 112 + 1 = 113 := ⟨by decide +kernel, rfl⟩
theorem d_X12_isHolderTold_113 : decode mX12_isHolderTold.1 113 = .ok (.getfield 7, 3) ∧ 113 + 3 = 116 := ⟨by decide +kernel, rfl⟩
theorem d_X12_isHolderTold_116 : decode mX12_isHolderTold.1 116 = .ok (.aload_n 0, 1) ∧ 116 + 1 = 117 := ⟨by decide +kernel, rfl⟩
theorem d_X12_isHolderTold_117 : decode mX12_isHolderTold.1 117 = .ok (.iload_n 3, 1) ∧ 117 + 1 = 118 := ⟨by decide +kernel, rfl⟩
theorem d_X12_isHolderTold_118 : decode mX12_isHolderTold.1 118 = .ok (.invokevirtual 695, 3) ∧ 118 + 3 = 121 := ⟨by decide +kernel, rfl⟩
theorem d_X12_isHolderTold_121 : decode mX12_isHolderTold.1 121 = .ok (.iaload, 1) ∧ 121 + 1 = 122 := ⟨by decide +kernel, rfl⟩
theorem d_X12_isHolderTold_122 : decode mX12_isHolderTold.1 122 = .ok (.aload_n 0, 1) ∧ 122 + 1 = 123 := ⟨by decide +kernel, rfl⟩
theorem d_X12_isHolderTold_123 : decode mX12_isHolderTold.1 123 = .ok (.getfield 7, 3) ∧ 123 + 3 = 126 := ⟨by decide +kernel, rfl⟩
theorem d_X12_isHolderTold_126 : decode mX12_isHolderTold.1 126 = .ok (.iload_n 2, 1) ∧ 126 + 1 = 127 := ⟨by decide +kernel, rfl⟩
theorem d_X12_isHolderTold_127 : decode mX12_isHolderTold.1 127 = .ok (.iaload, 1) ∧ 127 + 1 = 128 := ⟨by decide +kernel, rfl⟩
theorem d_X12_isHolderTold_128 : decode mX12_isHolderTold.1 128 = .ok (.if_icmp .ne 5, 3) ∧ 128 + 3 = 131 ∧ ((128 : Nat) : Int) + 5 = ((133 : Nat) : Int) := ⟨by decide +kernel, rfl, rfl⟩
theorem d_X12_isHolderTold_131 : decode mX12_isHolderTold.1 131 = .ok (.iconst 0, 1) ∧ 131 + 1 = 132 := ⟨by decide +kernel, rfl⟩
theorem d_X12_isHolderTold_132 : decode mX12_isHolderTold.1 132 = .ok (.ireturn, 1) := by decide +kernel
theorem d_X12_isHolderTold_133 : decode mX12_isHolderTold.1 133 = .ok (.iinc 3 1, 3) ∧ 133 + 3 = 136 := ⟨by decide +kernel, rfl⟩
theorem d_X12_isHolderTold_136 : decode mX12_isHolderTold.1 136 = .ok (.goto (-29), 3) ∧ ((136 : Nat) : Int) + (-29) = ((107 : Nat) : Int) := ⟨by decide +kernel, rfl⟩
set_option maxRecDepth 100000 in
set_option maxHeartbeats 4000000 in
theorem g_X12_isHolderTold_L107 (l : Launch) (G : xa_C) (c0 c1 c2 : Int) (h : xa_H) (K : (Int) ⊕ ((Int) ⊕ (Unit)) → Option xa_O) (hb : ∀ (v3 : Int), xa_G l G 4 mX12_isHolderTold (some (Sum.inl v3)) K 107 [some (xR c0), some (xI c1), some (xI c2), some (xI v3)] [] h) (hr : ∀ r : Int, K (Sum.inr (Sum.inl r)) = some (some (xI r), h)) (hx : xa_G l G 4 mX12_isHolderTold (some (Sum.inr (Sum.inr (())))) K 139 [none, none, none, none] [] h) : ∀ (v3 : Int), xa_G l G 4 mX12_isHolderTold (f_X12_isHolderTold_L107 c0 c1 c2 h v3) K 107 [some (xR c0), some (xI c1), some (xI c2), some (xI v3)] [] h := by
  intro v3
  unfold f_X12_isHolderTold_L107
  refine xa_step (xa_iload_n d_X12_isHolderTold_107 rfl) ?_
  refine xa_step (xa_iload_n d_X12_isHolderTold_108 rfl) ?_
  refine xa_if (xa_icmpge d_X12_isHolderTold_109) (fun q23 => ?_) (fun q23 => ?_)
  · refine xa_step (xa_aload_n d_X12_isHolderTold_112 rfl) ?_
    refine xa_getf xR xc_12 (by decide) (fun _ => rfl) xw_1304 rfl d_X12_isHolderTold_113 (fun x24 _ => ?_)
    refine xa_step (xa_aload_n d_X12_isHolderTold_116 rfl) ?_
    refine xa_step (xa_iload_n d_X12_isHolderTold_117 rfl) ?_
    refine xa_callVi (as := [xI v3]) (st := [xR x24]) (M' := mX12_holderFrom) (d' := 3) rfl xw_2170 xw_2172 xw_158 xw_2173 xw_177 xh_X12_holderFrom rfl ⟨Nat.le_of_ble_eq_true rfl, Nat.le_of_ble_eq_true rfl⟩ (Nat.le_of_ble_eq_true rfl) rfl d_X12_isHolderTold_118 (fun r hr => ct_X12_holderFrom l G c0 v3 h r hr) (fun r25 _ => ?_)
    refine xa_iaload d_X12_isHolderTold_121 (fun x26 _ => ?_)
    refine xa_step (xa_aload_n d_X12_isHolderTold_122 rfl) ?_
    refine xa_getf xR xc_12 (by decide) (fun _ => rfl) xw_1304 rfl d_X12_isHolderTold_123 (fun x27 _ => ?_)
    refine xa_step (xa_iload_n d_X12_isHolderTold_126 rfl) ?_
    refine xa_iaload d_X12_isHolderTold_127 (fun x28 _ => ?_)
    refine xa_if (xa_icmpne d_X12_isHolderTold_128) (fun q29 => ?_) (fun q29 => ?_)
    · refine xa_step (xa_iconst d_X12_isHolderTold_131 xq_i_0) ?_
      exact xa_zret d_X12_isHolderTold_132 rfl (Or.inl rfl) (hr _)
    · refine xa_step (xa_iinc (ls' := [some (xR c0), some (xI c1), some (xI c2), some (xI (w32 (v3 + 1)))]) d_X12_isHolderTold_133 xq_i_1 rfl (by decide) rfl) ?_
      refine xa_step (xa_goto d_X12_isHolderTold_136) ?_
      exact xa_weak (ls' := [some (xR c0), some (xI c1), some (xI c2), some (xI (w32 (v3 + 1)))]) ⟨rfl, rfl, rfl, rfl, trivial⟩ (hb (w32 (v3 + 1)))
  · exact xa_weak (ls' := [none, none, none, none]) trivial (hx )
theorem d_X12_isHolderTold_139 : decode mX12_isHolderTold.1 139 = .ok (.iconst 1, 1) ∧ 139 + 1 = 140 := ⟨by decide +kernel, rfl⟩
theorem d_X12_isHolderTold_140 : decode mX12_isHolderTold.1 140 = .ok (.ireturn, 1) := by decide +kernel
set_option maxRecDepth 100000 in
set_option maxHeartbeats 4000000 in
theorem g_X12_isHolderTold (l : Launch) (G : xa_C) (v0 v1 : Int) (h : xa_H) : xa_G l G 4 mX12_isHolderTold (f_X12_isHolderTold v0 v1 h) (fun r => some (some (xI r), h) : Int → Option xa_O) 0 [some (xR v0), some (xI v1), none, none] [] h := by
  unfold f_X12_isHolderTold
  refine xa_step (xa_aload_n d_X12_isHolderTold_0 rfl) ?_
  refine xa_step (xa_iload_n d_X12_isHolderTold_1 rfl) ?_
  refine xa_callVi (as := [xI v1]) (st := []) (M' := mX12_holderFrom) (d' := 3) rfl xw_2170 xw_2172 xw_158 xw_2173 xw_177 xh_X12_holderFrom rfl ⟨Nat.le_of_ble_eq_true rfl, Nat.le_of_ble_eq_true rfl⟩ (Nat.le_of_ble_eq_true rfl) rfl d_X12_isHolderTold_2 (fun r hr => ct_X12_holderFrom l G v0 v1 h r hr) (fun r1 _ => ?_)
  refine xa_step (xa_istore_n (ls' := [some (xR v0), some (xI v1), some (xI r1), none]) d_X12_isHolderTold_5 (by decide) rfl) ?_
  refine xa_step (xa_aload_n d_X12_isHolderTold_6 rfl) ?_
  refine xa_step (xa_aload_n d_X12_isHolderTold_7 rfl) ?_
  refine xa_getf xR xc_12 (by decide) (fun _ => rfl) xw_1304 rfl d_X12_isHolderTold_8 (fun x2 _ => ?_)
  refine xa_step (xa_iload_n d_X12_isHolderTold_11 rfl) ?_
  refine xa_iaload d_X12_isHolderTold_12 (fun x3 _ => ?_)
  refine xa_callVi (as := [xI x3]) (st := []) (M' := mX12_isHeldThere) (d' := 3) rfl xw_1869 xw_1871 xw_114 xw_1872 xw_177 xh_X12_isHeldThere rfl ⟨Nat.le_of_ble_eq_true rfl, Nat.le_of_ble_eq_true rfl⟩ (Nat.le_of_ble_eq_true rfl) rfl d_X12_isHolderTold_13 (fun r hr => ct_X12_isHeldThere l G v0 x3 h r hr) (fun r4 _ => ?_)
  refine xa_if (xa_ifeq d_X12_isHolderTold_16) (fun q5 => ?_) (fun q5 => ?_)
  · refine xa_step (xa_iconst d_X12_isHolderTold_61 xq_i_0) ?_
    exact xa_zret d_X12_isHolderTold_62 rfl (Or.inl rfl) rfl
  · refine xa_step (xa_aload_n d_X12_isHolderTold_19 rfl) ?_
    refine xa_step (xa_aload_n d_X12_isHolderTold_20 rfl) ?_
    refine xa_getf xR xc_12 (by decide) (fun _ => rfl) xw_1304 rfl d_X12_isHolderTold_21 (fun x6 _ => ?_)
    refine xa_step (xa_iload_n d_X12_isHolderTold_24 rfl) ?_
    refine xa_step (xa_iconst d_X12_isHolderTold_25 xq_i_1) ?_
    refine xa_step (xa_iadd d_X12_isHolderTold_26) ?_
    refine xa_iaload d_X12_isHolderTold_27 (fun x7 _ => ?_)
    refine xa_callVi (as := [xI x7]) (st := []) (M' := mX12_isHeldThere) (d' := 3) rfl xw_1869 xw_1871 xw_114 xw_1872 xw_177 xh_X12_isHeldThere rfl ⟨Nat.le_of_ble_eq_true rfl, Nat.le_of_ble_eq_true rfl⟩ (Nat.le_of_ble_eq_true rfl) rfl d_X12_isHolderTold_28 (fun r hr => ct_X12_isHeldThere l G v0 x7 h r hr) (fun r8 _ => ?_)
    refine xa_if (xa_ifeq d_X12_isHolderTold_31) (fun q9 => ?_) (fun q9 => ?_)
    · refine xa_step (xa_iconst d_X12_isHolderTold_61 xq_i_0) ?_
      exact xa_zret d_X12_isHolderTold_62 rfl (Or.inl rfl) rfl
    · refine xa_step (xa_sipush d_X12_isHolderTold_34 xq_s_256) ?_
      refine xa_step (xa_aload_n d_X12_isHolderTold_37 rfl) ?_
      refine xa_getf xR xc_12 (by decide) (fun _ => rfl) xw_1304 rfl d_X12_isHolderTold_38 (fun x10 _ => ?_)
      refine xa_step (xa_iload_n d_X12_isHolderTold_41 rfl) ?_
      refine xa_step (xa_iconst d_X12_isHolderTold_42 xq_i_2) ?_
      refine xa_step (xa_iadd d_X12_isHolderTold_43) ?_
      refine xa_iaload d_X12_isHolderTold_44 (fun x11 _ => ?_)
      refine xa_step (xa_imul d_X12_isHolderTold_45) ?_
      refine xa_step (xa_aload_n d_X12_isHolderTold_46 rfl) ?_
      refine xa_getf xR xc_12 (by decide) (fun _ => rfl) xw_1304 rfl d_X12_isHolderTold_47 (fun x12 _ => ?_)
      refine xa_step (xa_iload_n d_X12_isHolderTold_50 rfl) ?_
      refine xa_step (xa_iconst d_X12_isHolderTold_51 xq_i_3) ?_
      refine xa_step (xa_iadd d_X12_isHolderTold_52) ?_
      refine xa_iaload d_X12_isHolderTold_53 (fun x13 _ => ?_)
      refine xa_step (xa_iadd d_X12_isHolderTold_54) ?_
      refine xa_step (xa_sipush d_X12_isHolderTold_55 xq_s_9999) ?_
      refine xa_if (xa_icmple d_X12_isHolderTold_58) (fun q14 => ?_) (fun q14 => ?_)
      · refine xa_step (xa_iconst d_X12_isHolderTold_61 xq_i_0) ?_
        exact xa_zret d_X12_isHolderTold_62 rfl (Or.inl rfl) rfl
      · refine xa_step (xa_iconst d_X12_isHolderTold_63 xq_i_0) ?_
        refine xa_step (xa_istore_n (ls' := [some (xR v0), some (xI v1), some (xI r1), some (xI 0)]) d_X12_isHolderTold_64 (by decide) rfl) ?_
        refine xa_weak (ls' := [some (xR v0), some (xI v1), some (xI r1), some (xI 0)]) ⟨rfl, rfl, rfl, rfl, trivial⟩ ?_
        refine xa_loop (f := fun s => f_X12_isHolderTold_L65 v0 v1 r1 h s) (L := fun s => [some (xR v0), some (xI v1), some (xI r1), some (xI s)]) (P := fun s => h) (X := (fun e K => match e with | Sum.inl r => K (Sum.inr (Sum.inl r)) = some (some (xI r), h) | Sum.inr x => xa_G l G 4 mX12_isHolderTold (some (Sum.inr (Sum.inr x))) K 105 [some (xR v0), some (xI v1), some (xI r1), none] [] h)) (fun K hb hX s => g_X12_isHolderTold_L65 l G v0 v1 r1 h K (fun w0 => hb w0) (fun r => hX (Sum.inl r)) (hX (Sum.inr ())) s) ?_ xFU 0
        rintro (r | y22) K hK
        · exact hK.trans rfl
        · refine xa_eqE hK ?_
          show xa_G l G 4 mX12_isHolderTold _ _ 105 [some (xR v0), some (xI v1), some (xI r1), none] [] h
          refine xa_step (xa_iconst d_X12_isHolderTold_105 xq_i_0) ?_
          refine xa_step (xa_istore_n (ls' := [some (xR v0), some (xI v1), some (xI r1), some (xI 0)]) d_X12_isHolderTold_106 (by decide) rfl) ?_
          refine xa_weak (ls' := [some (xR v0), some (xI v1), some (xI r1), some (xI 0)]) ⟨rfl, rfl, rfl, rfl, trivial⟩ ?_
          refine xa_loop (f := fun s => f_X12_isHolderTold_L107 v0 v1 r1 h s) (L := fun s => [some (xR v0), some (xI v1), some (xI r1), some (xI s)]) (P := fun s => h) (X := (fun e K => match e with | Sum.inl r => K (Sum.inr (Sum.inl r)) = some (some (xI r), h) | Sum.inr x => xa_G l G 4 mX12_isHolderTold (some (Sum.inr (Sum.inr x))) K 139 [none, none, none, none] [] h)) (fun K hb hX s => g_X12_isHolderTold_L107 l G v0 v1 r1 h K (fun w0 => hb w0) (fun r => hX (Sum.inl r)) (hX (Sum.inr ())) s) ?_ xFU 0
          rintro (r | y31) K hK
          · exact hK.trans rfl
          · refine xa_eqE hK ?_
            show xa_G l G 4 mX12_isHolderTold _ _ 139 [none, none, none, none] [] h
            refine xa_step (xa_iconst d_X12_isHolderTold_139 xq_i_1) ?_
            exact xa_zret d_X12_isHolderTold_140 rfl (Or.inr rfl) rfl
theorem ct_X12_isHolderTold (l : Launch) (G : xa_C) (v0 v1 : Int) (h : xa_H) (r : Int) (hr : f_X12_isHolderTold v0 v1 h = some r) : xa_CT l G 4 mX12_isHolderTold yX12_isHolderTold [xR v0, xI v1] h (some (xI r), h) :=
  xa_met (by decide +kernel) rfl (fun q => by first | rfl | cases q) (Nat.le_of_ble_eq_true rfl) rfl (g_X12_isHolderTold l G v0 v1 h) (by rw [hr]; rfl)
abbrev mX12_isImage : xa_M := (cX12_isImage, 3, (some (.boolean)), RX12, false)
theorem d_X12_isImage_0 : decode mX12_isImage.1 0 = .ok (.iload_n 1, 1) ∧ 0 + 1 = 1 := ⟨by decide +kernel, rfl⟩
theorem d_X12_isImage_1 : decode mX12_isImage.1 1 = .ok (.aload_n 0, 1) ∧ 1 + 1 = 2 := ⟨by decide +kernel, rfl⟩
theorem d_X12_isImage_2 : decode mX12_isImage.1 2 = .ok (.aload_n 0, 1) ∧ 2 + 1 = 3 := ⟨by decide +kernel, rfl⟩
theorem d_X12_isImage_3 : decode mX12_isImage.1 3 = .ok (.invokevirtual 402, 3) ∧ 3 + 3 = 6 := ⟨by decide +kernel, rfl⟩
theorem d_X12_isImage_6 : decode mX12_isImage.1 6 = .ok (.invokevirtual 695, 3) ∧ 6 + 3 = 9 := ⟨by decide +kernel, rfl⟩
theorem d_X12_isImage_9 : decode mX12_isImage.1 9 = .ok (.iconst 1, 1) ∧ 9 + 1 = 10 := ⟨by decide +kernel, rfl⟩
theorem d_X12_isImage_10 : decode mX12_isImage.1 10 = .ok (.iadd, 1) ∧ 10 + 1 = 11 := ⟨by decide +kernel, rfl⟩
theorem d_X12_isImage_11 : decode mX12_isImage.1 11 = .ok (.if_icmp .ne 47, 3) ∧ 11 + 3 = 14 ∧ ((11 : Nat) : Int) + 47 = ((58 : Nat) : Int) := ⟨by decide +kernel, rfl, rfl⟩
theorem d_X12_isImage_14 : decode mX12_isImage.1 14 = .ok (.aload_n 0, 1) ∧ 14 + 1 = 15 := ⟨by decide +kernel, rfl⟩
theorem d_X12_isImage_15 : decode mX12_isImage.1 15 = .ok (.getfield 7, 3) ∧ 15 + 3 = 18 := ⟨by decide +kernel, rfl⟩
theorem d_X12_isImage_18 : decode mX12_isImage.1 18 = .ok (.iload_n 1, 1) ∧ 18 + 1 = 19 := ⟨by decide +kernel, rfl⟩
theorem d_X12_isImage_19 : decode mX12_isImage.1 19 = .ok (.iconst 1, 1) ∧ 19 + 1 = 20 := ⟨by decide +kernel, rfl⟩
theorem d_X12_isImage_20 : decode mX12_isImage.1 20 = .ok (.isub, 1) ∧ 20 + 1 = 21 := ⟨by decide +kernel, rfl⟩
theorem d_X12_isImage_21 : decode mX12_isImage.1 21 = .ok (.iaload, 1) ∧ 21 + 1 = 22 := ⟨by decide +kernel, rfl⟩
theorem d_X12_isImage_22 : decode mX12_isImage.1 22 = .ok (.aload_n 0, 1) ∧ 22 + 1 = 23 := ⟨by decide +kernel, rfl⟩
theorem d_X12_isImage_23 : decode mX12_isImage.1 23 = .ok (.getfield 7, 3) ∧ 23 + 3 = 26 := ⟨by decide +kernel, rfl⟩
theorem d_X12_isImage_26 : decode mX12_isImage.1 26 = .ok (.iload_n 1, 1) ∧ 26 + 1 = 27 := ⟨by decide +kernel, rfl⟩
theorem d_X12_isImage_27 : decode mX12_isImage.1 27 = .ok (.iconst 1, 1) ∧ 27 + 1 = 28 := ⟨by decide +kernel, rfl⟩
theorem d_X12_isImage_28 : decode mX12_isImage.1 28 = .ok (.isub, 1) ∧ 28 + 1 = 29 := ⟨by decide +kernel, rfl⟩
theorem d_X12_isImage_29 : decode mX12_isImage.1 29 = .ok (.invokestatic 691, 3) ∧ 29 + 3 = 32 := ⟨by decide +kernel, rfl⟩
theorem d_X12_isImage_32 : decode mX12_isImage.1 32 = .ok (.if_icmp .ne 26, 3) ∧ 32 + 3 = 35 ∧ ((32 : Nat) : Int) + 26 = ((58 : Nat) : Int) := ⟨by decide +kernel, rfl, rfl⟩
theorem d_X12_isImage_35 : decode mX12_isImage.1 35 = .ok (.sipush 256, 3) ∧ 35 + 3 = 38 := ⟨by decide +kernel, rfl⟩
theorem d_X12_isImage_38 : decode mX12_isImage.1 38 = .ok (.aload_n 0, 1) ∧ 38 + 1 = 39 := ⟨by decide +kernel, rfl⟩
theorem d_X12_isImage_39 : decode mX12_isImage.1 39 = .ok (.getfield 7, 3) ∧ 39 + 3 = 42 := ⟨by decide +kernel, rfl⟩
theorem d_X12_isImage_42 : decode mX12_isImage.1 42 = .ok (.iconst 0, 1) ∧ 42 + 1 = 43 := ⟨by decide +kernel, rfl⟩
theorem d_X12_isImage_43 : decode mX12_isImage.1 43 = .ok (.iaload, 1) ∧ 43 + 1 = 44 := ⟨by decide +kernel, rfl⟩
theorem d_X12_isImage_44 : decode mX12_isImage.1 44 = .ok (.imul, 1) ∧ 44 + 1 = 45 := ⟨by decide +kernel, rfl⟩
theorem d_X12_isImage_45 : decode mX12_isImage.1 45 = .ok (.aload_n 0, 1) ∧ 45 + 1 = 46 := ⟨by decide +kernel, rfl⟩
theorem d_X12_isImage_46 : decode mX12_isImage.1 46 = .ok (.getfield 7, 3) ∧ 46 + 3 = 49 := ⟨by decide +kernel, rfl⟩
theorem d_X12_isImage_49 : decode mX12_isImage.1 49 = .ok (.iconst 1, 1) ∧ 49 + 1 = 50 := ⟨by decide +kernel, rfl⟩
theorem d_X12_isImage_50 : decode mX12_isImage.1 50 = .ok (.iaload, 1) ∧ 50 + 1 = 51 := ⟨by decide +kernel, rfl⟩
theorem d_X12_isImage_51 : decode mX12_isImage.1 51 = .ok (.iadd, 1) ∧ 51 + 1 = 52 := ⟨by decide +kernel, rfl⟩
theorem d_X12_isImage_52 : decode mX12_isImage.1 52 = .ok (.sipush 9999, 3) ∧ 52 + 3 = 55 := ⟨by decide +kernel, rfl⟩
theorem d_X12_isImage_55 : decode mX12_isImage.1 55 = .ok (.if_icmp .le 5, 3) ∧ 55 + 3 = 58 ∧ ((55 : Nat) : Int) + 5 = ((60 : Nat) : Int) := ⟨by decide +kernel, rfl, rfl⟩
theorem d_X12_isImage_58 : decode mX12_isImage.1 58 = .ok (.iconst 0, 1) ∧ 58 + 1 = 59 := ⟨by decide +kernel, rfl⟩
theorem d_X12_isImage_59 : decode mX12_isImage.1 59 = .ok (.ireturn, 1) := by decide +kernel
theorem d_X12_isImage_60 : decode mX12_isImage.1 60 = .ok (.iconst 0, 1) ∧ 60 + 1 = 61 := ⟨by decide +kernel, rfl⟩
theorem d_X12_isImage_61 : decode mX12_isImage.1 61 = .ok (.istore_n 2, 1) ∧ 61 + 1 = 62 := ⟨by decide +kernel, rfl⟩
theorem d_X12_isImage_62 : decode mX12_isImage.1 62 = .ok (.iload_n 2, 1) ∧ 62 + 1 = 63 := ⟨by decide +kernel, rfl⟩
theorem d_X12_isImage_63 : decode mX12_isImage.1 63 = .ok (.aload_n 0, 1) ∧ 63 + 1 = 64 := ⟨by decide +kernel, rfl⟩
theorem d_X12_isImage_64 : decode mX12_isImage.1 64 = .ok (.invokevirtual 402, 3) ∧ 64 + 3 = 67 := ⟨by decide +kernel, rfl⟩
theorem d_X12_isImage_67 : decode mX12_isImage.1 67 = .ok (.if_icmp .ge 19, 3) ∧ 67 + 3 = 70 ∧ ((67 : Nat) : Int) + 19 = ((86 : Nat) : Int) := ⟨by decide +kernel, rfl, rfl⟩
theorem d_X12_isImage_70 : decode mX12_isImage.1 70 = .ok (.aload_n 0, 1) ∧ 70 + 1 = 71 := ⟨by decide +kernel, rfl⟩
theorem d_X12_isImage_71 : decode mX12_isImage.1 71 = .ok (.iload_n 2, 1) ∧ 71 + 1 = 72 := ⟨by decide +kernel, rfl⟩
theorem d_X12_isImage_72 : decode mX12_isImage.1 72 = .ok (.invokevirtual 698, 3) ∧ 72 + 3 = 75 := ⟨by decide +kernel, rfl⟩
theorem d_X12_isImage_75 : decode mX12_isImage.1 75 = .ok (.ifCond .ne 5, 3) ∧ 75 + 3 = 78 ∧ ((75 : Nat) : Int) + 5 = ((80 : Nat) : Int) := ⟨by decide +kernel, rfl, rfl⟩
theorem d_X12_isImage_78 : decode mX12_isImage.1 78 = .ok (.iconst 0, 1) ∧ 78 + 1 = 79 := ⟨by decide +kernel, rfl⟩
theorem d_X12_isImage_79 : decode mX12_isImage.1 79 = .ok (.ireturn, 1) := by decide +kernel
theorem d_X12_isImage_80 : decode mX12_isImage.1 80 = .ok (.iinc 2 1, 3) ∧ 80 + 3 = 83 := ⟨by decide +kernel, rfl⟩
theorem d_X12_isImage_83 : decode mX12_isImage.1 83 = .ok (.goto (-21), 3) ∧ ((83 : Nat) : Int) + (-21) = ((62 : Nat) : Int) := ⟨by decide +kernel, rfl⟩
set_option maxRecDepth 100000 in
set_option maxHeartbeats 4000000 in
theorem g_X12_isImage_L62 (l : Launch) (G : xa_C) (c0 : Int) (h : xa_H) (K : (Int) ⊕ ((Int) ⊕ (Unit)) → Option xa_O) (hb : ∀ (v2 : Int), xa_G l G 5 mX12_isImage (some (Sum.inl v2)) K 62 [some (xR c0), none, some (xI v2)] [] h) (hr : ∀ r : Int, K (Sum.inr (Sum.inl r)) = some (some (xI r), h)) (hx : xa_G l G 5 mX12_isImage (some (Sum.inr (Sum.inr (())))) K 86 [none, none, none] [] h) : ∀ (v2 : Int), xa_G l G 5 mX12_isImage (f_X12_isImage_L62 c0 h v2) K 62 [some (xR c0), none, some (xI v2)] [] h := by
  intro v2
  unfold f_X12_isImage_L62
  refine xa_step (xa_iload_n d_X12_isImage_62 rfl) ?_
  refine xa_step (xa_aload_n d_X12_isImage_63 rfl) ?_
  refine xa_callVi (as := []) (st := [xI v2]) (M' := mX12_holderMany) (d' := 2) rfl xw_1836 xw_1838 xw_108 xw_1839 xw_177 xh_X12_holderMany rfl ⟨Nat.le_of_ble_eq_true rfl, Nat.le_of_ble_eq_true rfl⟩ (Nat.le_of_ble_eq_true rfl) rfl d_X12_isImage_64 (fun r hr => ct_X12_holderMany l G c0 h r hr) (fun r14 _ => ?_)
  refine xa_if (xa_icmpge d_X12_isImage_67) (fun q15 => ?_) (fun q15 => ?_)
  · refine xa_step (xa_aload_n d_X12_isImage_70 rfl) ?_
    refine xa_step (xa_iload_n d_X12_isImage_71 rfl) ?_
    refine xa_callVi (as := [xI v2]) (st := []) (M' := mX12_isHolderTold) (d' := 4) rfl xw_2174 xw_2176 xw_159 xw_2177 xw_177 xh_X12_isHolderTold rfl ⟨Nat.le_of_ble_eq_true rfl, Nat.le_of_ble_eq_true rfl⟩ (Nat.le_of_ble_eq_true rfl) rfl d_X12_isImage_72 (fun r hr => ct_X12_isHolderTold l G c0 v2 h r hr) (fun r16 _ => ?_)
    refine xa_if (xa_ifne d_X12_isImage_75) (fun q17 => ?_) (fun q17 => ?_)
    · refine xa_step (xa_iconst d_X12_isImage_78 xq_i_0) ?_
      exact xa_zret d_X12_isImage_79 rfl (Or.inl rfl) (hr _)
    · refine xa_step (xa_iinc (ls' := [some (xR c0), none, some (xI (w32 (v2 + 1)))]) d_X12_isImage_80 xq_i_1 rfl (by decide) rfl) ?_
      refine xa_step (xa_goto d_X12_isImage_83) ?_
      exact xa_weak (ls' := [some (xR c0), none, some (xI (w32 (v2 + 1)))]) ⟨rfl, rfl, trivial⟩ (hb (w32 (v2 + 1)))
  · exact xa_weak (ls' := [none, none, none]) trivial (hx )
theorem d_X12_isImage_86 : decode mX12_isImage.1 86 = .ok (.iconst 1, 1) ∧ 86 + 1 = 87 := ⟨by decide +kernel, rfl⟩
theorem d_X12_isImage_87 : decode mX12_isImage.1 87 = .ok (.ireturn, 1) := by decide +kernel
set_option maxRecDepth 100000 in
set_option maxHeartbeats 4000000 in
theorem g_X12_isImage (l : Launch) (G : xa_C) (v0 v1 : Int) (h : xa_H) : xa_G l G 5 mX12_isImage (f_X12_isImage v0 v1 h) (fun r => some (some (xI r), h) : Int → Option xa_O) 0 [some (xR v0), some (xI v1), none] [] h := by
  unfold f_X12_isImage
  refine xa_step (xa_iload_n d_X12_isImage_0 rfl) ?_
  refine xa_step (xa_aload_n d_X12_isImage_1 rfl) ?_
  refine xa_step (xa_aload_n d_X12_isImage_2 rfl) ?_
  refine xa_callVi (as := []) (st := [xR v0, xI v1]) (M' := mX12_holderMany) (d' := 2) rfl xw_1836 xw_1838 xw_108 xw_1839 xw_177 xh_X12_holderMany rfl ⟨Nat.le_of_ble_eq_true rfl, Nat.le_of_ble_eq_true rfl⟩ (Nat.le_of_ble_eq_true rfl) rfl d_X12_isImage_3 (fun r hr => ct_X12_holderMany l G v0 h r hr) (fun r1 _ => ?_)
  refine xa_callVi (as := [xI r1]) (st := [xI v1]) (M' := mX12_holderFrom) (d' := 3) rfl xw_2170 xw_2172 xw_158 xw_2173 xw_177 xh_X12_holderFrom rfl ⟨Nat.le_of_ble_eq_true rfl, Nat.le_of_ble_eq_true rfl⟩ (Nat.le_of_ble_eq_true rfl) rfl d_X12_isImage_6 (fun r hr => ct_X12_holderFrom l G v0 r1 h r hr) (fun r2 _ => ?_)
  refine xa_step (xa_iconst d_X12_isImage_9 xq_i_1) ?_
  refine xa_step (xa_iadd d_X12_isImage_10) ?_
  refine xa_if (xa_icmpne d_X12_isImage_11) (fun q3 => ?_) (fun q3 => ?_)
  · refine xa_step (xa_aload_n d_X12_isImage_14 rfl) ?_
    refine xa_getf xR xc_12 (by decide) (fun _ => rfl) xw_1304 rfl d_X12_isImage_15 (fun x4 _ => ?_)
    refine xa_step (xa_iload_n d_X12_isImage_18 rfl) ?_
    refine xa_step (xa_iconst d_X12_isImage_19 xq_i_1) ?_
    refine xa_step (xa_isub d_X12_isImage_20) ?_
    refine xa_iaload d_X12_isImage_21 (fun x5 _ => ?_)
    refine xa_step (xa_aload_n d_X12_isImage_22 rfl) ?_
    refine xa_getf xR xc_12 (by decide) (fun _ => rfl) xw_1304 rfl d_X12_isImage_23 (fun x6 _ => ?_)
    refine xa_step (xa_iload_n d_X12_isImage_26 rfl) ?_
    refine xa_step (xa_iconst d_X12_isImage_27 xq_i_1) ?_
    refine xa_step (xa_isub d_X12_isImage_28) ?_
    refine xa_callSi (as := [xR x6, xI (w32 (v1 - 1))]) (st := [xI x5]) (M' := mX12_checked) (d' := 2) xw_2155 xw_2156 xw_2157 xw_177 xh_X12_checked rfl ⟨Nat.le_of_ble_eq_true rfl, Nat.le_of_ble_eq_true rfl⟩ (Nat.le_of_ble_eq_true rfl) rfl d_X12_isImage_29 (fun r hr => ct_X12_checked l G x6 (w32 (v1 - 1)) h r hr) (fun r7 _ => ?_)
    refine xa_if (xa_icmpne d_X12_isImage_32) (fun q8 => ?_) (fun q8 => ?_)
    · refine xa_step (xa_sipush d_X12_isImage_35 xq_s_256) ?_
      refine xa_step (xa_aload_n d_X12_isImage_38 rfl) ?_
      refine xa_getf xR xc_12 (by decide) (fun _ => rfl) xw_1304 rfl d_X12_isImage_39 (fun x9 _ => ?_)
      refine xa_step (xa_iconst d_X12_isImage_42 xq_i_0) ?_
      refine xa_iaload d_X12_isImage_43 (fun x10 _ => ?_)
      refine xa_step (xa_imul d_X12_isImage_44) ?_
      refine xa_step (xa_aload_n d_X12_isImage_45 rfl) ?_
      refine xa_getf xR xc_12 (by decide) (fun _ => rfl) xw_1304 rfl d_X12_isImage_46 (fun x11 _ => ?_)
      refine xa_step (xa_iconst d_X12_isImage_49 xq_i_1) ?_
      refine xa_iaload d_X12_isImage_50 (fun x12 _ => ?_)
      refine xa_step (xa_iadd d_X12_isImage_51) ?_
      refine xa_step (xa_sipush d_X12_isImage_52 xq_s_9999) ?_
      refine xa_if (xa_icmple d_X12_isImage_55) (fun q13 => ?_) (fun q13 => ?_)
      · refine xa_step (xa_iconst d_X12_isImage_58 xq_i_0) ?_
        exact xa_zret d_X12_isImage_59 rfl (Or.inl rfl) rfl
      · refine xa_step (xa_iconst d_X12_isImage_60 xq_i_0) ?_
        refine xa_step (xa_istore_n (ls' := [some (xR v0), some (xI v1), some (xI 0)]) d_X12_isImage_61 (by decide) rfl) ?_
        refine xa_weak (ls' := [some (xR v0), none, some (xI 0)]) ⟨rfl, rfl, trivial⟩ ?_
        refine xa_loop (f := fun s => f_X12_isImage_L62 v0 h s) (L := fun s => [some (xR v0), none, some (xI s)]) (P := fun s => h) (X := (fun e K => match e with | Sum.inl r => K (Sum.inr (Sum.inl r)) = some (some (xI r), h) | Sum.inr x => xa_G l G 5 mX12_isImage (some (Sum.inr (Sum.inr x))) K 86 [none, none, none] [] h)) (fun K hb hX s => g_X12_isImage_L62 l G v0 h K (fun w0 => hb w0) (fun r => hX (Sum.inl r)) (hX (Sum.inr ())) s) ?_ xFU 0
        rintro (r | y19) K hK
        · exact hK.trans rfl
        · refine xa_eqE hK ?_
          show xa_G l G 5 mX12_isImage _ _ 86 [none, none, none] [] h
          refine xa_step (xa_iconst d_X12_isImage_86 xq_i_1) ?_
          exact xa_zret d_X12_isImage_87 rfl (Or.inr rfl) rfl
    · refine xa_step (xa_iconst d_X12_isImage_58 xq_i_0) ?_
      exact xa_zret d_X12_isImage_59 rfl (Or.inl rfl) rfl
  · refine xa_step (xa_iconst d_X12_isImage_58 xq_i_0) ?_
    exact xa_zret d_X12_isImage_59 rfl (Or.inl rfl) rfl
theorem ct_X12_isImage (l : Launch) (G : xa_C) (v0 v1 : Int) (h : xa_H) (r : Int) (hr : f_X12_isImage v0 v1 h = some r) : xa_CT l G 5 mX12_isImage yX12_isImage [xR v0, xI v1] h (some (xI r), h) :=
  xa_met (by decide +kernel) rfl (fun q => by first | rfl | cases q) (Nat.le_of_ble_eq_true rfl) rfl (g_X12_isImage l G v0 v1 h) (by rw [hr]; rfl)
abbrev mX12_resume : xa_M := (cX12_resume, 5, (some (.boolean)), RX12, false)
theorem d_X12_resume_0 : decode mX12_resume.1 0 = .ok (.aload_n 0, 1) ∧ 0 + 1 = 1 := ⟨by decide +kernel, rfl⟩
theorem d_X12_resume_1 : decode mX12_resume.1 1 = .ok (.getfield 246, 3) ∧ 1 + 3 = 4 := ⟨by decide +kernel, rfl⟩
theorem d_X12_resume_4 : decode mX12_resume.1 4 = .ok (.istore_n 1, 1) ∧ 4 + 1 = 5 := ⟨by decide +kernel, rfl⟩
theorem d_X12_resume_5 : decode mX12_resume.1 5 = .ok (.aload_n 0, 1) ∧ 5 + 1 = 6 := ⟨by decide +kernel, rfl⟩
theorem d_X12_resume_6 : decode mX12_resume.1 6 = .ok (.iconst 0, 1) ∧ 6 + 1 = 7 := ⟨by decide +kernel, rfl⟩
theorem d_X12_resume_7 : decode mX12_resume.1 7 = .ok (.putfield 246, 3) ∧ 7 + 3 = 10 := ⟨by decide +kernel, rfl⟩
theorem d_X12_resume_10 : decode mX12_resume.1 10 = .ok (.aload_n 0, 1) ∧ 10 + 1 = 11 := ⟨by decide +kernel, rfl⟩
theorem d_X12_resume_11 : decode mX12_resume.1 11 = .ok (.iload_n 1, 1) ∧ 11 + 1 = 12 := ⟨by decide +kernel, rfl⟩
theorem d_X12_resume_12 : decode mX12_resume.1 12 = .ok (.invokevirtual 701, 3) ∧ 12 + 3 = 15 := ⟨by decide +kernel, rfl⟩
theorem d_X12_resume_15 : decode mX12_resume.1 15 = .ok (.ifCond .ne 15, 3) ∧ 15 + 3 = 18 ∧ ((15 : Nat) : Int) + 15 = ((30 : Nat) : Int) := ⟨by decide +kernel, rfl, rfl⟩
theorem d_X12_resume_18 : decode mX12_resume.1 18 = .ok (.aload_n 0, 1) ∧ 18 + 1 = 19 := ⟨by decide +kernel, rfl⟩
theorem d_X12_resume_19 : decode mX12_resume.1 19 = .ok (.getfield 17, 3) ∧ 19 + 3 = 22 := ⟨by decide +kernel, rfl⟩
theorem d_X12_resume_22 : decode mX12_resume.1 22 = .ok (.iconst 5, 1) ∧ 22 + 1 = 23 := ⟨by decide +kernel, rfl⟩
theorem d_X12_resume_23 : decode mX12_resume.1 23 = .ok (.dup2, 1) ∧ 23 + 1 = 24 := ⟨by decide +kernel, rfl⟩
theorem d_X12_resume_24 : decode mX12_resume.1 24 = .ok (.iaload, 1) ∧ 24 + 1 = 25 := ⟨by decide +kernel, rfl⟩
theorem d_X12_resume_25 : decode mX12_resume.1 25 = .ok (.iconst 1, 1) ∧ 25 + 1 = 26 := ⟨by decide +kernel, rfl⟩
theorem d_X12_resume_26 : decode mX12_resume.1 26 = .ok (.iadd, 1) ∧ 26 + 1 = 27 := ⟨by decide +kernel, rfl⟩
theorem d_X12_resume_27 : decode mX12_resume.1 27 = .ok (.iastore, 1) ∧ 27 + 1 = 28 := ⟨by decide +kernel, rfl⟩
theorem d_X12_resume_28 : decode mX12_resume.1 28 = .ok (.iconst 0, 1) ∧ 28 + 1 = 29 := ⟨by decide +kernel, rfl⟩
theorem d_X12_resume_29 : decode mX12_resume.1 29 = .ok (.ireturn, 1) := by decide +kernel
theorem d_X12_resume_30 : decode mX12_resume.1 30 = .ok (.aload_n 0, 1) ∧ 30 + 1 = 31 := ⟨by decide +kernel, rfl⟩
theorem d_X12_resume_31 : decode mX12_resume.1 31 = .ok (.getfield 130, 3) ∧ 31 + 3 = 34 := ⟨by decide +kernel, rfl⟩
theorem d_X12_resume_34 : decode mX12_resume.1 34 = .ok (.iconst 0, 1) ∧ 34 + 1 = 35 := ⟨by decide +kernel, rfl⟩
theorem d_X12_resume_35 : decode mX12_resume.1 35 = .ok (.sipush 256, 3) ∧ 35 + 3 = 38 := ⟨by decide +kernel, rfl⟩
theorem d_X12_resume_38 : decode mX12_resume.1 38 = .ok (.aload_n 0, 1) ∧ 38 + 1 = 39 := ⟨by decide +kernel, rfl⟩
theorem d_X12_resume_39 : decode mX12_resume.1 39 = .ok (.getfield 7, 3) ∧ 39 + 3 = 42 := ⟨by decide +kernel, rfl⟩
theorem d_X12_resume_42 : decode mX12_resume.1 42 = .ok (.iconst 0, 1) ∧ 42 + 1 = 43 := ⟨by decide +kernel, rfl⟩
theorem d_X12_resume_43 : decode mX12_resume.1 43 = .ok (.iaload, 1) ∧ 43 + 1 = 44 := ⟨by decide +kernel, rfl⟩
theorem d_X12_resume_44 : decode mX12_resume.1 44 = .ok (.imul, 1) ∧ 44 + 1 = 45 := ⟨by decide +kernel, rfl⟩
theorem d_X12_resume_45 : decode mX12_resume.1 45 = .ok (.aload_n 0, 1) ∧ 45 + 1 = 46 := ⟨by decide +kernel, rfl⟩
theorem d_X12_resume_46 : decode mX12_resume.1 46 = .ok (.getfield 7, 3) ∧ 46 + 3 = 49 := ⟨by decide +kernel, rfl⟩
theorem d_X12_resume_49 : decode mX12_resume.1 49 = .ok (.iconst 1, 1) ∧ 49 + 1 = 50 := ⟨by decide +kernel, rfl⟩
theorem d_X12_resume_50 : decode mX12_resume.1 50 = .ok (.iaload, 1) ∧ 50 + 1 = 51 := ⟨by decide +kernel, rfl⟩
theorem d_X12_resume_51 : decode mX12_resume.1 51 = .ok (.iadd, 1) ∧ 51 + 1 = 52 := ⟨by decide +kernel, rfl⟩
theorem d_X12_resume_52 : decode mX12_resume.1 52 = .ok (.iastore, 1) ∧ 52 + 1 = 53 := ⟨by decide +kernel, rfl⟩
theorem d_X12_resume_53 : decode mX12_resume.1 53 = .ok (.iconst 0, 1) ∧ 53 + 1 = 54 := ⟨by decide +kernel, rfl⟩
theorem d_X12_resume_54 : decode mX12_resume.1 54 = .ok (.istore_n 2, 1) ∧ 54 + 1 = 55 := ⟨by decide +kernel, rfl⟩
theorem d_X12_resume_55 : decode mX12_resume.1 55 = .ok (.iload_n 2, 1) ∧ 55 + 1 = 56 := ⟨by decide +kernel, rfl⟩
theorem d_X12_resume_56 : decode mX12_resume.1 56 = .ok (.aload_n 0, 1) ∧ 56 + 1 = 57 := ⟨by decide +kernel, rfl⟩
theorem d_X12_resume_57 : decode mX12_resume.1 57 = .ok (.invokevirtual 402, 3) ∧ 57 + 3 = 60 := ⟨by decide +kernel, rfl⟩
theorem d_X12_resume_60 : decode mX12_resume.1 60 = .ok (.if_icmp .ge 132, 3) ∧ 60 + 3 = 63 ∧ ((60 : Nat) : Int) + 132 = ((192 : Nat) : Int) := ⟨by decide +kernel, rfl, rfl⟩
theorem d_X12_resume_63 : decode mX12_resume.1 63 = .ok (.aload_n 0, 1) ∧ 63 + 1 = 64 := ⟨by decide +kernel, rfl⟩
theorem d_X12_resume_64 : decode mX12_resume.1 64 = .ok (.iload_n 2, 1) ∧ 64 + 1 = 65 := ⟨by decide +kernel, rfl⟩
theorem d_X12_resume_65 : decode mX12_resume.1 65 = .ok (.invokevirtual 695, 3) ∧ 65 + 3 = 68 := ⟨by decide +kernel, rfl⟩
theorem d_X12_resume_68 : decode mX12_resume.1 68 = .ok (.istore_n 3, 1) ∧ 68 + 1 = 69 := ⟨by decide +kernel, rfl⟩
theorem d_X12_resume_69 : decode mX12_resume.1 69 = .ok (.aload_n 0, 1) ∧ 69 + 1 = 70 := ⟨by decide +kernel, rfl⟩
theorem d_X12_resume_70 : decode mX12_resume.1 70 = .ok (.getfield 130, 3) ∧ 70 + 3 = 73 := ⟨by decide +kernel, rfl⟩
theorem d_X12_resume_73 : decode mX12_resume.1 73 = .ok (.iconst 1, 1) ∧ 73 + 1 = 74 := ⟨by decide +kernel, rfl⟩
theorem d_X12_resume_74 : decode mX12_resume.1 74 = .ok (.bipush 9, 2) ∧ 74 + 2 = 76 := ⟨by decide +kernel, rfl⟩
theorem d_X12_resume_76 : decode mX12_resume.1 76 = .ok (.iload_n 2, 1) ∧ 76 + 1 = 77 := ⟨by decide +kernel, rfl⟩
theorem d_X12_resume_77 : decode mX12_resume.1 77 = .ok (.imul, 1) ∧ 77 + 1 = 78 := ⟨by decide +kernel, rfl⟩
theorem d_X12_resume_78 : decode mX12_resume.1 78 = .ok (.iadd, 1) ∧ 78 + 1 = 79 := ⟨by decide +kernel, rfl⟩
theorem d_X12_resume_79 : decode mX12_resume.1 79 = .ok (.aload_n 0, 1) ∧ 79 + 1 = 80 := ⟨by decide +kernel, rfl⟩
theorem d_X12_resume_80 : decode mX12_resume.1 80 = .ok (.getfield 7, 3) ∧ 80 + 3 = 83 := ⟨by decide +kernel, rfl⟩
theorem d_X12_resume_83 : decode mX12_resume.1 83 = .ok (.iload_n 3, 1) ∧ 83 + 1 = 84 := ⟨by decide +kernel, rfl⟩
theorem d_X12_resume_84 : decode mX12_resume.1 84 = .ok (.iaload, 1) ∧ 84 + 1 = 85 := ⟨by decide +kernel, rfl⟩
theorem d_X12_resume_85 : decode mX12_resume.1 85 = .ok (.iastore, 1) ∧ 85 + 1 = 86 := ⟨by decide +kernel, rfl⟩
theorem d_X12_resume_86 : decode mX12_resume.1 86 = .ok (.aload_n 0, 1) ∧ 86 + 1 = 87 := ⟨by decide +kernel, rfl⟩
theorem d_X12_resume_87 : decode mX12_resume.1 87 = .ok (.getfield 130, 3) ∧ 87 + 3 = 90 := ⟨by decide +kernel, rfl⟩
theorem d_X12_resume_90 : decode mX12_resume.1 90 = .ok (.iconst 1, 1) ∧ 90 + 1 = 91 := ⟨by decide +kernel, rfl⟩
theorem d_X12_resume_91 : decode mX12_resume.1 91 = .ok (.bipush 9, 2) ∧ 91 + 2 = 93 := ⟨by decide +kernel, rfl⟩
theorem d_X12_resume_93 : decode mX12_resume.1 93 = .ok (.iload_n 2, 1) ∧ 93 + 1 = 94 := ⟨by decide +kernel, rfl⟩
theorem d_X12_resume_94 : decode mX12_resume.1 94 = .ok (.imul, 1) ∧ 94 + 1 = 95 := ⟨by decide +kernel, rfl⟩
theorem d_X12_resume_95 : decode mX12_resume.1 95 = .ok (.iadd, 1) ∧ 95 + 1 = 96 := ⟨by decide +kernel, rfl⟩
theorem d_X12_resume_96 : decode mX12_resume.1 96 = .ok (.iconst 1, 1) ∧ 96 + 1 = 97 := ⟨by decide +kernel, rfl⟩
theorem d_X12_resume_97 : decode mX12_resume.1 97 = .ok (.iadd, 1) ∧ 97 + 1 = 98 := ⟨by decide +kernel, rfl⟩
theorem d_X12_resume_98 : decode mX12_resume.1 98 = .ok (.aload_n 0, 1) ∧ 98 + 1 = 99 := ⟨by decide +kernel, rfl⟩
theorem d_X12_resume_99 : decode mX12_resume.1 99 = .ok (.getfield 7, 3) ∧ 99 + 3 = 102 := ⟨by decide +kernel, rfl⟩
theorem d_X12_resume_102 : decode mX12_resume.1 102 = .ok (.iload_n 3, 1) ∧ 102 + 1 = 103 := ⟨by decide +kernel, rfl⟩
theorem d_X12_resume_103 : decode mX12_resume.1 103 = .ok (.iconst 1, 1) ∧ 103 + 1 = 104 := ⟨by decide +kernel, rfl⟩
theorem d_X12_resume_104 : decode mX12_resume.1 104 = .ok (.iadd, 1) ∧ 104 + 1 = 105 := ⟨by decide +kernel, rfl⟩
theorem d_X12_resume_105 : decode mX12_resume.1 105 = .ok (.iaload, 1) ∧ 105 + 1 = 106 := ⟨by decide +kernel, rfl⟩
theorem d_X12_resume_106 : decode mX12_resume.1 106 = .ok (.iastore, 1) ∧ 106 + 1 = 107 := ⟨by decide +kernel, rfl⟩
theorem d_X12_resume_107 : decode mX12_resume.1 107 = .ok (.aload_n 0, 1) ∧ 107 + 1 = 108 := ⟨by decide +kernel, rfl⟩
theorem d_X12_resume_108 : decode mX12_resume.1 108 = .ok (.getfield 130, 3) ∧ 108 + 3 = 111 := ⟨by decide +kernel, rfl⟩
theorem d_X12_resume_111 : decode mX12_resume.1 111 = .ok (.iconst 1, 1) ∧ 111 + 1 = 112 := ⟨by decide +kernel, rfl⟩
theorem d_X12_resume_112 : decode mX12_resume.1 112 = .ok (.bipush 9, 2) ∧ 112 + 2 = 114 := ⟨by decide +kernel, rfl⟩
theorem d_X12_resume_114 : decode mX12_resume.1 114 = .ok (.iload_n 2, 1) ∧ 114 + 1 = 115 := ⟨by decide +kernel, rfl⟩
theorem d_X12_resume_115 : decode mX12_resume.1 115 = .ok (.imul, 1) ∧ 115 + 1 = 116 := ⟨by decide +kernel, rfl⟩
theorem d_X12_resume_116 : decode mX12_resume.1 116 = .ok (.iadd, 1) ∧ 116 + 1 = 117 := ⟨by decide +kernel, rfl⟩
theorem d_X12_resume_117 : decode mX12_resume.1 117 = .ok (.iconst 2, 1) ∧ 117 + 1 = 118 := ⟨by decide +kernel, rfl⟩
theorem d_X12_resume_118 : decode mX12_resume.1 118 = .ok (.iadd, 1) ∧ 118 + 1 = 119 := ⟨by decide +kernel, rfl⟩
theorem d_X12_resume_119 : decode mX12_resume.1 119 = .ok (.sipush 256, 3) ∧ 119 + 3 = 122 := ⟨by decide +kernel, rfl⟩
theorem d_X12_resume_122 : decode mX12_resume.1 122 = .ok (.aload_n 0, 1) ∧ 122 + 1 = 123 := ⟨by decide +kernel, rfl⟩
theorem d_X12_resume_123 : decode mX12_resume.1 123 = .ok (.getfield 7, 3) ∧ 123 + 3 = 126 := ⟨by decide +kernel, rfl⟩
theorem d_X12_resume_126 : decode mX12_resume.1 126 = .ok (.iload_n 3, 1) ∧ 126 + 1 = 127 := ⟨by decide +kernel, rfl⟩
theorem d_X12_resume_127 : decode mX12_resume.1 127 = .ok (.iconst 2, 1) ∧ 127 + 1 = 128 := ⟨by decide +kernel, rfl⟩
theorem d_X12_resume_128 : decode mX12_resume.1 128 = .ok (.iadd, 1) ∧ 128 + 1 = 129 := ⟨by decide +kernel, rfl⟩
theorem d_X12_resume_129 : decode mX12_resume.1 129 = .ok (.iaload, 1) ∧ 129 + 1 = 130 := ⟨by decide +kernel, rfl⟩
theorem d_X12_resume_130 : decode mX12_resume.1 130 = .ok (.imul, 1) ∧ 130 + 1 = 131 := ⟨by decide +kernel, rfl⟩
theorem d_X12_resume_131 : decode mX12_resume.1 131 = .ok (.aload_n 0, 1) ∧ 131 + 1 = 132 := ⟨by decide +kernel, rfl⟩
theorem d_X12_resume_132 : decode mX12_resume.1 132 = .ok (.getfield 7, 3) ∧ 132 + 3 = 135 := ⟨by decide +kernel, rfl⟩
theorem d_X12_resume_135 : decode mX12_resume.1 135 = .ok (.iload_n 3, 1) ∧ 135 + 1 = 136 := ⟨by decide +kernel, rfl⟩
theorem d_X12_resume_136 : decode mX12_resume.1 136 = .ok (.iconst 3, 1) ∧ 136 + 1 = 137 := ⟨by decide +kernel, rfl⟩
theorem d_X12_resume_137 : decode mX12_resume.1 137 = .ok (.iadd, 1) ∧ 137 + 1 = 138 := ⟨by decide +kernel, rfl⟩
theorem d_X12_resume_138 : decode mX12_resume.1 138 = .ok (.iaload, 1) ∧ 138 + 1 = 139 := ⟨by decide +kernel, rfl⟩
theorem d_X12_resume_139 : decode mX12_resume.1 139 = .ok (.iadd, 1) ∧ 139 + 1 = 140 := ⟨by decide +kernel, rfl⟩
theorem d_X12_resume_140 : decode mX12_resume.1 140 = .ok (.iastore, 1) ∧ 140 + 1 = 141 := ⟨by decide +kernel, rfl⟩
theorem d_X12_resume_141 : decode mX12_resume.1 141 = .ok (.iconst 0, 1) ∧ 141 + 1 = 142 := ⟨by decide +kernel, rfl⟩
theorem d_X12_resume_142 : decode mX12_resume.1 142 = .ok (.istore 4, 2) ∧ 142 + 2 = 144 := ⟨by decide +kernel, rfl⟩
theorem d_X12_resume_144 : decode mX12_resume.1 144 = .ok (.iload 4, 2) ∧ 144 + 2 = 146 := ⟨by decide +kernel, rfl⟩
theorem d_X12_resume_146 : decode mX12_resume.1 146 = .ok (.aload_n 0, 1) ∧ 146 + 1 = 147 := ⟨by decide +kernel, rfl⟩
theorem d_X12_resume_147 : decode mX12_resume.1 147 = .ok (.invokevirtual 402, 3) ∧ 147 + 3 = 150 := ⟨by decide +kernel, rfl⟩
theorem d_X12_resume_150 : decode mX12_resume.1 150 = .ok (.if_icmp .ge 36, 3) ∧ 150 + 3 = 153 ∧ ((150 : Nat) : Int) + 36 = ((186 : Nat) : Int) := ⟨by decide +kernel, rfl, rfl⟩
theorem d_X12_resume_153 : decode mX12_resume.1 153 = .ok (.aload_n 0, 1) ∧ 153 + 1 = 154 := ⟨by decide +kernel, rfl⟩
theorem d_X12_resume_154 : decode mX12_resume.1 154 = .ok (.getfield 130, 3) ∧ 154 + 3 = 157 := ⟨by decide +kernel, rfl⟩
theorem d_X12_resume_157 : decode mX12_resume.1 157 = .ok (.iconst 1, 1) ∧ 157 + 1 = 158 := ⟨by decide +kernel, rfl⟩
theorem d_X12_resume_158 : decode mX12_resume.1 158 = .ok (.bipush 9, 2) ∧ 158 + 2 = 160 := ⟨by decide +kernel, rfl⟩
theorem d_X12_resume_160 : decode mX12_resume.1 160 = .ok (.iload_n 2, 1) ∧ 160 + 1 = 161 := ⟨by decide +kernel, rfl⟩
theorem d_X12_resume_161 : decode mX12_resume.1 161 = .ok (.imul, 1) ∧ 161 + 1 = 162 := ⟨by decide +kernel, rfl⟩
theorem d_X12_resume_162 : decode mX12_resume.1 162 = .ok (.iadd, 1) ∧ 162 + 1 = 163 := ⟨by decide +kernel, rfl⟩
theorem d_X12_resume_163 : decode mX12_resume.1 163 = .ok (.iconst 3, 1) ∧ 163 + 1 = 164 := ⟨by decide +kernel, rfl⟩
theorem d_X12_resume_164 : decode mX12_resume.1 164 = .ok (.iadd, 1) ∧ 164 + 1 = 165 := ⟨by decide +kernel, rfl⟩
theorem d_X12_resume_165 : decode mX12_resume.1 165 = .ok (.iload 4, 2) ∧ 165 + 2 = 167 := ⟨by decide +kernel, rfl⟩
theorem d_X12_resume_167 : decode mX12_resume.1 167 = .ok (.iadd, 1) ∧ 167 + 1 = 168 := ⟨by decide +kernel, rfl⟩
theorem d_X12_resume_168 : decode mX12_resume.1 168 = .ok (.aload_n 0, 1) ∧ 168 + 1 = 169 := ⟨by decide +kernel, rfl⟩
theorem d_X12_resume_169 : decode mX12_resume.1 169 = .ok (.getfield 7, 3) ∧ 169 + 3 = 172 := ⟨by decide +kernel, rfl⟩
theorem d_X12_resume_172 : decode mX12_resume.1 172 = .ok (.iload_n 3, 1) ∧ 172 + 1 = 173 := ⟨by decide +kernel, rfl⟩
theorem d_X12_resume_173 : decode mX12_resume.1 173 = .ok (.iconst 4, 1) ∧ 173 + 1 = 174 := ⟨by decide +kernel, rfl⟩
theorem d_X12_resume_174 : decode mX12_resume.1 174 = .ok (.iadd, 1) ∧ 174 + 1 = 175 := ⟨by decide +kernel, rfl⟩
theorem d_X12_resume_175 : decode mX12_resume.1 175 = .ok (.iload 4, 2) ∧ 175 + 2 = 177 := ⟨by decide +kernel, rfl⟩
theorem d_X12_resume_177 : decode mX12_resume.1 177 = .ok (.iadd, 1) ∧ 177 + 1 = 178 := ⟨by decide +kernel, rfl⟩
theorem d_X12_resume_178 : decode mX12_resume.1 178 = .ok (.iaload, 1) ∧ 178 + 1 = 179 := ⟨by decide +kernel, rfl⟩
theorem d_X12_resume_179 : decode mX12_resume.1 179 = .ok (.iastore, 1) ∧ 179 + 1 = 180 := ⟨by decide +kernel, rfl⟩
theorem d_X12_resume_180 : decode mX12_resume.1 180 = .ok (.iinc 4 1, 3) ∧ 180 + 3 = 183 := ⟨by decide +kernel, rfl⟩
theorem d_X12_resume_183 : decode mX12_resume.1 183 = .ok (.goto (-39), 3) ∧ ((183 : Nat) : Int) + (-39) = ((144 : Nat) : Int) := ⟨by decide +kernel, rfl⟩
set_option maxRecDepth 100000 in
set_option maxHeartbeats 4000000 in
theorem g_X12_resume_L144 (l : Launch) (G : xa_C) (c0 c2 c3 : Int) (K : (Int × xa_H) ⊕ (xa_H) → Option xa_O) (hb : ∀ (v4 : Int) (h : xa_H), xa_G l G 6 mX12_resume (some (Sum.inl ((v4, h)))) K 144 [some (xR c0), none, some (xI c2), some (xI c3), some (xI v4)] [] h) (hx : ∀ (h : xa_H), xa_G l G 6 mX12_resume (some (Sum.inr h)) K 186 [some (xR c0), none, some (xI c2), none, none] [] h) : ∀ (v4 : Int) (h : xa_H), xa_G l G 6 mX12_resume (f_X12_resume_L144 c0 c2 c3 v4 h) K 144 [some (xR c0), none, some (xI c2), some (xI c3), some (xI v4)] [] h := by
  intro v4 h
  unfold f_X12_resume_L144
  refine xa_step (xa_iload d_X12_resume_144 rfl) ?_
  refine xa_step (xa_aload_n d_X12_resume_146 rfl) ?_
  refine xa_callVi (as := []) (st := [xI v4]) (M' := mX12_holderMany) (d' := 2) rfl xw_1836 xw_1838 xw_108 xw_1839 xw_177 xh_X12_holderMany rfl ⟨Nat.le_of_ble_eq_true rfl, Nat.le_of_ble_eq_true rfl⟩ (Nat.le_of_ble_eq_true rfl) rfl d_X12_resume_147 (fun r hr => ct_X12_holderMany l G c0 h r hr) (fun r31 _ => ?_)
  refine xa_if (xa_icmpge d_X12_resume_150) (fun q32 => ?_) (fun q32 => ?_)
  · refine xa_step (xa_aload_n d_X12_resume_153 rfl) ?_
    refine xa_getf xR xc_12 (by decide) (fun _ => rfl) xw_1354 rfl d_X12_resume_154 (fun x33 _ => ?_)
    refine xa_step (xa_iconst d_X12_resume_157 xq_i_1) ?_
    refine xa_step (xa_bipush d_X12_resume_158 xq_b_9) ?_
    refine xa_step (xa_iload_n d_X12_resume_160 rfl) ?_
    refine xa_step (xa_imul d_X12_resume_161) ?_
    refine xa_step (xa_iadd d_X12_resume_162) ?_
    refine xa_step (xa_iconst d_X12_resume_163 xq_i_3) ?_
    refine xa_step (xa_iadd d_X12_resume_164) ?_
    refine xa_step (xa_iload d_X12_resume_165 rfl) ?_
    refine xa_step (xa_iadd d_X12_resume_167) ?_
    refine xa_step (xa_aload_n d_X12_resume_168 rfl) ?_
    refine xa_getf xR xc_12 (by decide) (fun _ => rfl) xw_1304 rfl d_X12_resume_169 (fun x34 _ => ?_)
    refine xa_step (xa_iload_n d_X12_resume_172 rfl) ?_
    refine xa_step (xa_iconst d_X12_resume_173 xq_i_4) ?_
    refine xa_step (xa_iadd d_X12_resume_174) ?_
    refine xa_step (xa_iload d_X12_resume_175 rfl) ?_
    refine xa_step (xa_iadd d_X12_resume_177) ?_
    refine xa_iaload d_X12_resume_178 (fun x35 _ => ?_)
    refine xa_iastore2 d_X12_resume_179 (fun h36 _ => ?_)
    refine xa_step (xa_iinc (ls' := [some (xR c0), none, some (xI c2), some (xI c3), some (xI (w32 (v4 + 1)))]) d_X12_resume_180 xq_i_1 rfl (by decide) rfl) ?_
    refine xa_step (xa_goto d_X12_resume_183) ?_
    exact xa_weak (ls' := [some (xR c0), none, some (xI c2), some (xI c3), some (xI (w32 (v4 + 1)))]) ⟨rfl, rfl, rfl, rfl, trivial⟩ (hb (w32 (v4 + 1)) h36)
  · exact xa_weak (ls' := [some (xR c0), none, some (xI c2), none, none]) ⟨rfl, rfl, trivial⟩ (hx h)
theorem d_X12_resume_186 : decode mX12_resume.1 186 = .ok (.iinc 2 1, 3) ∧ 186 + 3 = 189 := ⟨by decide +kernel, rfl⟩
theorem d_X12_resume_189 : decode mX12_resume.1 189 = .ok (.goto (-134), 3) ∧ ((189 : Nat) : Int) + (-134) = ((55 : Nat) : Int) := ⟨by decide +kernel, rfl⟩
set_option maxRecDepth 100000 in
set_option maxHeartbeats 4000000 in
theorem g_X12_resume_L55 (l : Launch) (G : xa_C) (c0 : Int) (K : (Int × xa_H) ⊕ (xa_H) → Option xa_O) (hb : ∀ (v2 : Int) (h : xa_H), xa_G l G 6 mX12_resume (some (Sum.inl ((v2, h)))) K 55 [some (xR c0), none, some (xI v2), none, none] [] h) (hx : ∀ (h : xa_H), xa_G l G 6 mX12_resume (some (Sum.inr h)) K 192 [some (xR c0), none, none, none, none] [] h) : ∀ (v2 : Int) (h : xa_H), xa_G l G 6 mX12_resume (f_X12_resume_L55 c0 v2 h) K 55 [some (xR c0), none, some (xI v2), none, none] [] h := by
  intro v2 h
  unfold f_X12_resume_L55
  refine xa_step (xa_iload_n d_X12_resume_55 rfl) ?_
  refine xa_step (xa_aload_n d_X12_resume_56 rfl) ?_
  refine xa_callVi (as := []) (st := [xI v2]) (M' := mX12_holderMany) (d' := 2) rfl xw_1836 xw_1838 xw_108 xw_1839 xw_177 xh_X12_holderMany rfl ⟨Nat.le_of_ble_eq_true rfl, Nat.le_of_ble_eq_true rfl⟩ (Nat.le_of_ble_eq_true rfl) rfl d_X12_resume_57 (fun r hr => ct_X12_holderMany l G c0 h r hr) (fun r14 _ => ?_)
  refine xa_if (xa_icmpge d_X12_resume_60) (fun q15 => ?_) (fun q15 => ?_)
  · refine xa_step (xa_aload_n d_X12_resume_63 rfl) ?_
    refine xa_step (xa_iload_n d_X12_resume_64 rfl) ?_
    refine xa_callVi (as := [xI v2]) (st := []) (M' := mX12_holderFrom) (d' := 3) rfl xw_2170 xw_2172 xw_158 xw_2173 xw_177 xh_X12_holderFrom rfl ⟨Nat.le_of_ble_eq_true rfl, Nat.le_of_ble_eq_true rfl⟩ (Nat.le_of_ble_eq_true rfl) rfl d_X12_resume_65 (fun r hr => ct_X12_holderFrom l G c0 v2 h r hr) (fun r16 _ => ?_)
    refine xa_step (xa_istore_n (ls' := [some (xR c0), none, some (xI v2), some (xI r16), none]) d_X12_resume_68 (by decide) rfl) ?_
    refine xa_step (xa_aload_n d_X12_resume_69 rfl) ?_
    refine xa_getf xR xc_12 (by decide) (fun _ => rfl) xw_1354 rfl d_X12_resume_70 (fun x17 _ => ?_)
    refine xa_step (xa_iconst d_X12_resume_73 xq_i_1) ?_
    refine xa_step (xa_bipush d_X12_resume_74 xq_b_9) ?_
    refine xa_step (xa_iload_n d_X12_resume_76 rfl) ?_
    refine xa_step (xa_imul d_X12_resume_77) ?_
    refine xa_step (xa_iadd d_X12_resume_78) ?_
    refine xa_step (xa_aload_n d_X12_resume_79 rfl) ?_
    refine xa_getf xR xc_12 (by decide) (fun _ => rfl) xw_1304 rfl d_X12_resume_80 (fun x18 _ => ?_)
    refine xa_step (xa_iload_n d_X12_resume_83 rfl) ?_
    refine xa_iaload d_X12_resume_84 (fun x19 _ => ?_)
    refine xa_iastore2 d_X12_resume_85 (fun h20 _ => ?_)
    refine xa_step (xa_aload_n d_X12_resume_86 rfl) ?_
    refine xa_getf xR xc_12 (by decide) (fun _ => rfl) xw_1354 rfl d_X12_resume_87 (fun x21 _ => ?_)
    refine xa_step (xa_iconst d_X12_resume_90 xq_i_1) ?_
    refine xa_step (xa_bipush d_X12_resume_91 xq_b_9) ?_
    refine xa_step (xa_iload_n d_X12_resume_93 rfl) ?_
    refine xa_step (xa_imul d_X12_resume_94) ?_
    refine xa_step (xa_iadd d_X12_resume_95) ?_
    refine xa_step (xa_iconst d_X12_resume_96 xq_i_1) ?_
    refine xa_step (xa_iadd d_X12_resume_97) ?_
    refine xa_step (xa_aload_n d_X12_resume_98 rfl) ?_
    refine xa_getf xR xc_12 (by decide) (fun _ => rfl) xw_1304 rfl d_X12_resume_99 (fun x22 _ => ?_)
    refine xa_step (xa_iload_n d_X12_resume_102 rfl) ?_
    refine xa_step (xa_iconst d_X12_resume_103 xq_i_1) ?_
    refine xa_step (xa_iadd d_X12_resume_104) ?_
    refine xa_iaload d_X12_resume_105 (fun x23 _ => ?_)
    refine xa_iastore2 d_X12_resume_106 (fun h24 _ => ?_)
    refine xa_step (xa_aload_n d_X12_resume_107 rfl) ?_
    refine xa_getf xR xc_12 (by decide) (fun _ => rfl) xw_1354 rfl d_X12_resume_108 (fun x25 _ => ?_)
    refine xa_step (xa_iconst d_X12_resume_111 xq_i_1) ?_
    refine xa_step (xa_bipush d_X12_resume_112 xq_b_9) ?_
    refine xa_step (xa_iload_n d_X12_resume_114 rfl) ?_
    refine xa_step (xa_imul d_X12_resume_115) ?_
    refine xa_step (xa_iadd d_X12_resume_116) ?_
    refine xa_step (xa_iconst d_X12_resume_117 xq_i_2) ?_
    refine xa_step (xa_iadd d_X12_resume_118) ?_
    refine xa_step (xa_sipush d_X12_resume_119 xq_s_256) ?_
    refine xa_step (xa_aload_n d_X12_resume_122 rfl) ?_
    refine xa_getf xR xc_12 (by decide) (fun _ => rfl) xw_1304 rfl d_X12_resume_123 (fun x26 _ => ?_)
    refine xa_step (xa_iload_n d_X12_resume_126 rfl) ?_
    refine xa_step (xa_iconst d_X12_resume_127 xq_i_2) ?_
    refine xa_step (xa_iadd d_X12_resume_128) ?_
    refine xa_iaload d_X12_resume_129 (fun x27 _ => ?_)
    refine xa_step (xa_imul d_X12_resume_130) ?_
    refine xa_step (xa_aload_n d_X12_resume_131 rfl) ?_
    refine xa_getf xR xc_12 (by decide) (fun _ => rfl) xw_1304 rfl d_X12_resume_132 (fun x28 _ => ?_)
    refine xa_step (xa_iload_n d_X12_resume_135 rfl) ?_
    refine xa_step (xa_iconst d_X12_resume_136 xq_i_3) ?_
    refine xa_step (xa_iadd d_X12_resume_137) ?_
    refine xa_iaload d_X12_resume_138 (fun x29 _ => ?_)
    refine xa_step (xa_iadd d_X12_resume_139) ?_
    refine xa_iastore2 d_X12_resume_140 (fun h30 _ => ?_)
    refine xa_step (xa_iconst d_X12_resume_141 xq_i_0) ?_
    refine xa_step (xa_istore (ls' := [some (xR c0), none, some (xI v2), some (xI r16), some (xI 0)]) d_X12_resume_142 (by decide) rfl) ?_
    refine xa_weak (ls' := [some (xR c0), none, some (xI v2), some (xI r16), some (xI 0)]) ⟨rfl, rfl, rfl, rfl, trivial⟩ ?_
    refine xa_loop (f := fun s => f_X12_resume_L144 c0 v2 r16 s.1 s.2) (L := fun s => [some (xR c0), none, some (xI v2), some (xI r16), some (xI s.1)]) (P := fun s => s.2) (X := (fun x K => xa_G l G 6 mX12_resume (some (Sum.inr x)) K 186 [some (xR c0), none, some (xI v2), none, none] [] x)) (fun K hb hX s => g_X12_resume_L144 l G c0 v2 r16 K (fun w0 hh => hb ((w0, hh))) (fun hh => hX hh) s.1 s.2) ?_ xFU ((0, h30))
    intro e37 K hK
    refine xa_eqE hK ?_
    show xa_G l G 6 mX12_resume _ _ 186 [some (xR c0), none, some (xI v2), none, none] [] e37
    refine xa_step (xa_iinc (ls' := [some (xR c0), none, some (xI (w32 (v2 + 1))), none, none]) d_X12_resume_186 xq_i_1 rfl (by decide) rfl) ?_
    refine xa_step (xa_goto d_X12_resume_189) ?_
    exact xa_weak (ls' := [some (xR c0), none, some (xI (w32 (v2 + 1))), none, none]) ⟨rfl, rfl, trivial⟩ (hb (w32 (v2 + 1)) e37)
  · exact xa_weak (ls' := [some (xR c0), none, none, none, none]) ⟨rfl, trivial⟩ (hx h)
theorem d_X12_resume_192 : decode mX12_resume.1 192 = .ok (.aload_n 0, 1) ∧ 192 + 1 = 193 := ⟨by decide +kernel, rfl⟩
theorem d_X12_resume_193 : decode mX12_resume.1 193 = .ok (.getfield 130, 3) ∧ 193 + 3 = 196 := ⟨by decide +kernel, rfl⟩
theorem d_X12_resume_196 : decode mX12_resume.1 196 = .ok (.bipush 55, 2) ∧ 196 + 2 = 198 := ⟨by decide +kernel, rfl⟩
theorem d_X12_resume_198 : decode mX12_resume.1 198 = .ok (.iconst 0, 1) ∧ 198 + 1 = 199 := ⟨by decide +kernel, rfl⟩
theorem d_X12_resume_199 : decode mX12_resume.1 199 = .ok (.iastore, 1) ∧ 199 + 1 = 200 := ⟨by decide +kernel, rfl⟩
theorem d_X12_resume_200 : decode mX12_resume.1 200 = .ok (.aload_n 0, 1) ∧ 200 + 1 = 201 := ⟨by decide +kernel, rfl⟩
theorem d_X12_resume_201 : decode mX12_resume.1 201 = .ok (.iconst 0, 1) ∧ 201 + 1 = 202 := ⟨by decide +kernel, rfl⟩
theorem d_X12_resume_202 : decode mX12_resume.1 202 = .ok (.putfield 390, 3) ∧ 202 + 3 = 205 := ⟨by decide +kernel, rfl⟩
theorem d_X12_resume_205 : decode mX12_resume.1 205 = .ok (.iconst 1, 1) ∧ 205 + 1 = 206 := ⟨by decide +kernel, rfl⟩
theorem d_X12_resume_206 : decode mX12_resume.1 206 = .ok (.ireturn, 1) := by decide +kernel
set_option maxRecDepth 100000 in
set_option maxHeartbeats 4000000 in
theorem g_X12_resume (l : Launch) (G : xa_C) (v0 : Int) (h : xa_H) : xa_G l G 6 mX12_resume (f_X12_resume v0 h) (fun r => some (some (xI r.1), r.2) : (Int × xa_H) → Option xa_O) 0 [some (xR v0), none, none, none, none] [] h := by
  unfold f_X12_resume
  refine xa_step (xa_aload_n d_X12_resume_0 rfl) ?_
  refine xa_getf xI xc_12 (by decide) (fun _ => rfl) xw_1305 rfl d_X12_resume_1 (fun x1 _ => ?_)
  refine xa_step (xa_istore_n (ls' := [some (xR v0), some (xI x1), none, none, none]) d_X12_resume_4 (by decide) rfl) ?_
  refine xa_step (xa_aload_n d_X12_resume_5 rfl) ?_
  refine xa_step (xa_iconst d_X12_resume_6 xq_i_0) ?_
  refine xa_putf2 (tg := xI) xc_12 (by decide) (fun _ => rfl) rfl (fun c hc => xa_fitI c hc) xw_1305 rfl d_X12_resume_7 (fun h2 _ => ?_)
  refine xa_step (xa_aload_n d_X12_resume_10 rfl) ?_
  refine xa_step (xa_iload_n d_X12_resume_11 rfl) ?_
  refine xa_callVi (as := [xI x1]) (st := []) (M' := mX12_isImage) (d' := 5) rfl xw_2166 xw_2168 xw_157 xw_2169 xw_177 xh_X12_isImage rfl ⟨Nat.le_of_ble_eq_true rfl, Nat.le_of_ble_eq_true rfl⟩ (Nat.le_of_ble_eq_true rfl) rfl d_X12_resume_12 (fun r hr => ct_X12_isImage l G v0 x1 h2 r hr) (fun r3 _ => ?_)
  refine xa_if (xa_ifne d_X12_resume_15) (fun q4 => ?_) (fun q4 => ?_)
  · refine xa_step (xa_aload_n d_X12_resume_18 rfl) ?_
    refine xa_getf xR xc_12 (by decide) (fun _ => rfl) xw_1313 rfl d_X12_resume_19 (fun x5 _ => ?_)
    refine xa_step (xa_iconst d_X12_resume_22 xq_i_5) ?_
    refine xa_step (xa_dup2 d_X12_resume_23 (xa_tI _) (xa_tR _)) ?_
    refine xa_iaload d_X12_resume_24 (fun x6 _ => ?_)
    refine xa_step (xa_iconst d_X12_resume_25 xq_i_1) ?_
    refine xa_step (xa_iadd d_X12_resume_26) ?_
    refine xa_iastore2 d_X12_resume_27 (fun h7 _ => ?_)
    refine xa_step (xa_iconst d_X12_resume_28 xq_i_0) ?_
    exact xa_zret d_X12_resume_29 rfl (Or.inl rfl) rfl
  · refine xa_step (xa_aload_n d_X12_resume_30 rfl) ?_
    refine xa_getf xR xc_12 (by decide) (fun _ => rfl) xw_1354 rfl d_X12_resume_31 (fun x8 _ => ?_)
    refine xa_step (xa_iconst d_X12_resume_34 xq_i_0) ?_
    refine xa_step (xa_sipush d_X12_resume_35 xq_s_256) ?_
    refine xa_step (xa_aload_n d_X12_resume_38 rfl) ?_
    refine xa_getf xR xc_12 (by decide) (fun _ => rfl) xw_1304 rfl d_X12_resume_39 (fun x9 _ => ?_)
    refine xa_step (xa_iconst d_X12_resume_42 xq_i_0) ?_
    refine xa_iaload d_X12_resume_43 (fun x10 _ => ?_)
    refine xa_step (xa_imul d_X12_resume_44) ?_
    refine xa_step (xa_aload_n d_X12_resume_45 rfl) ?_
    refine xa_getf xR xc_12 (by decide) (fun _ => rfl) xw_1304 rfl d_X12_resume_46 (fun x11 _ => ?_)
    refine xa_step (xa_iconst d_X12_resume_49 xq_i_1) ?_
    refine xa_iaload d_X12_resume_50 (fun x12 _ => ?_)
    refine xa_step (xa_iadd d_X12_resume_51) ?_
    refine xa_iastore2 d_X12_resume_52 (fun h13 _ => ?_)
    refine xa_step (xa_iconst d_X12_resume_53 xq_i_0) ?_
    refine xa_step (xa_istore_n (ls' := [some (xR v0), some (xI x1), some (xI 0), none, none]) d_X12_resume_54 (by decide) rfl) ?_
    refine xa_weak (ls' := [some (xR v0), none, some (xI 0), none, none]) ⟨rfl, rfl, trivial⟩ ?_
    refine xa_loop (f := fun s => f_X12_resume_L55 v0 s.1 s.2) (L := fun s => [some (xR v0), none, some (xI s.1), none, none]) (P := fun s => s.2) (X := (fun x K => xa_G l G 6 mX12_resume (some (Sum.inr x)) K 192 [some (xR v0), none, none, none, none] [] x)) (fun K hb hX s => g_X12_resume_L55 l G v0 K (fun w0 hh => hb ((w0, hh))) (fun hh => hX hh) s.1 s.2) ?_ xFU ((0, h13))
    intro e38 K hK
    refine xa_eqE hK ?_
    show xa_G l G 6 mX12_resume _ _ 192 [some (xR v0), none, none, none, none] [] e38
    refine xa_step (xa_aload_n d_X12_resume_192 rfl) ?_
    refine xa_getf xR xc_12 (by decide) (fun _ => rfl) xw_1354 rfl d_X12_resume_193 (fun x39 _ => ?_)
    refine xa_step (xa_bipush d_X12_resume_196 xq_b_55) ?_
    refine xa_step (xa_iconst d_X12_resume_198 xq_i_0) ?_
    refine xa_iastore2 d_X12_resume_199 (fun h40 _ => ?_)
    refine xa_step (xa_aload_n d_X12_resume_200 rfl) ?_
    refine xa_step (xa_iconst d_X12_resume_201 xq_i_0) ?_
    refine xa_putf2 (tg := xI) xc_12 (by decide) (fun _ => rfl) rfl (fun c hc => xa_fitI c hc) xw_1378 rfl d_X12_resume_202 (fun h41 _ => ?_)
    refine xa_step (xa_iconst d_X12_resume_205 xq_i_1) ?_
    exact xa_zret d_X12_resume_206 rfl (Or.inr rfl) rfl
theorem ct_X12_resume (l : Launch) (G : xa_C) (v0 : Int) (h : xa_H) (r : Int × xa_H) (hr : f_X12_resume v0 h = some r) : xa_CT l G 6 mX12_resume yX12_resume [xR v0] h (some (xI r.1), r.2) :=
  xa_met (by decide +kernel) rfl (fun q => by first | rfl | cases q) (Nat.le_of_ble_eq_true rfl) rfl (g_X12_resume l G v0 h) (by rw [hr]; rfl)
abbrev mX12_ring : xa_M := (cX12_ring, 2, (some (.int)), RX12, false)
theorem d_X12_ring_0 : decode mX12_ring.1 0 = .ok (.aload_n 0, 1) ∧ 0 + 1 = 1 := ⟨by decide +kernel, rfl⟩
theorem d_X12_ring_1 : decode mX12_ring.1 1 = .ok (.invokevirtual 499, 3) ∧ 1 + 3 = 4 := ⟨by decide +kernel, rfl⟩
theorem d_X12_ring_4 : decode mX12_ring.1 4 = .ok (.ifCond .ne 9, 3) ∧ 4 + 3 = 7 ∧ ((4 : Nat) : Int) + 9 = ((13 : Nat) : Int) := ⟨by decide +kernel, rfl, rfl⟩
theorem d_X12_ring_7 : decode mX12_ring.1 7 = .ok (.aload_n 0, 1) ∧ 7 + 1 = 8 := ⟨by decide +kernel, rfl⟩
theorem d_X12_ring_8 : decode mX12_ring.1 8 = .ok (.iconst 2, 1) ∧ 8 + 1 = 9 := ⟨by decide +kernel, rfl⟩
theorem d_X12_ring_9 : decode mX12_ring.1 9 = .ok (.invokevirtual 502, 3) ∧ 9 + 3 = 12 := ⟨by decide +kernel, rfl⟩
theorem d_X12_ring_12 : decode mX12_ring.1 12 = .ok (.ireturn, 1) := by decide +kernel
theorem d_X12_ring_13 : decode mX12_ring.1 13 = .ok (.aload_n 0, 1) ∧ 13 + 1 = 14 := ⟨by decide +kernel, rfl⟩
theorem d_X12_ring_14 : decode mX12_ring.1 14 = .ok (.invokevirtual 571, 3) ∧ 14 + 3 = 17 := ⟨by decide +kernel, rfl⟩
theorem d_X12_ring_17 : decode mX12_ring.1 17 = .ok (.aload_n 0, 1) ∧ 17 + 1 = 18 := ⟨by decide +kernel, rfl⟩
theorem d_X12_ring_18 : decode mX12_ring.1 18 = .ok (.invokevirtual 505, 3) ∧ 18 + 3 = 21 := ⟨by decide +kernel, rfl⟩
theorem d_X12_ring_21 : decode mX12_ring.1 21 = .ok (.istore_n 1, 1) ∧ 21 + 1 = 22 := ⟨by decide +kernel, rfl⟩
theorem d_X12_ring_22 : decode mX12_ring.1 22 = .ok (.iload_n 1, 1) ∧ 22 + 1 = 23 := ⟨by decide +kernel, rfl⟩
theorem d_X12_ring_23 : decode mX12_ring.1 23 = .ok (.ifCond .ne 7, 3) ∧ 23 + 3 = 26 ∧ ((23 : Nat) : Int) + 7 = ((30 : Nat) : Int) := ⟨by decide +kernel, rfl, rfl⟩
theorem d_X12_ring_26 : decode mX12_ring.1 26 = .ok (.aload_n 0, 1) ∧ 26 + 1 = 27 := ⟨by decide +kernel, rfl⟩
theorem d_X12_ring_27 : decode mX12_ring.1 27 = .ok (.invokevirtual 574, 3) ∧ 27 + 3 = 30 := ⟨by decide +kernel, rfl⟩
theorem d_X12_ring_30 : decode mX12_ring.1 30 = .ok (.aload_n 0, 1) ∧ 30 + 1 = 31 := ⟨by decide +kernel, rfl⟩
theorem d_X12_ring_31 : decode mX12_ring.1 31 = .ok (.iload_n 1, 1) ∧ 31 + 1 = 32 := ⟨by decide +kernel, rfl⟩
theorem d_X12_ring_32 : decode mX12_ring.1 32 = .ok (.invokevirtual 577, 3) ∧ 32 + 3 = 35 := ⟨by decide +kernel, rfl⟩
theorem d_X12_ring_35 : decode mX12_ring.1 35 = .ok (.iload_n 1, 1) ∧ 35 + 1 = 36 := ⟨by decide +kernel, rfl⟩
theorem d_X12_ring_36 : decode mX12_ring.1 36 = .ok (.ireturn, 1) := by decide +kernel
set_option maxRecDepth 100000 in
set_option maxHeartbeats 4000000 in
theorem g_X12_ring_J30 (l : Launch) (G : xa_C) : ∀ (v0 v1 : Int) (h : xa_H) , xa_G l G 7 mX12_ring (f_X12_ring_J30 v0 v1 h) (fun r => some (some (xI r.1), r.2) : (Int × xa_H) → Option xa_O) 30 [some (xR v0), some (xI v1)] [] h := by
  intro v0 v1 h
  unfold f_X12_ring_J30
  refine xa_step (xa_aload_n d_X12_ring_30 rfl) ?_
  refine xa_step (xa_iload_n d_X12_ring_31 rfl) ?_
  refine xa_callVV (as := [xI v1]) (st := []) (M' := mX12_isKept) (d' := 2) rfl xw_2097 xw_2099 xw_149 xw_2100 xw_177 xh_X12_isKept rfl ⟨Nat.le_of_ble_eq_true rfl, Nat.le_of_ble_eq_true rfl⟩ (Nat.le_of_ble_eq_true rfl) rfl d_X12_ring_32 (fun r hr => ct_X12_isKept l G v0 v1 h r hr) (fun r8 _ => ?_)
  refine xa_step (xa_iload_n d_X12_ring_35 rfl) ?_
  exact xa_iret d_X12_ring_36 rfl rfl
set_option maxRecDepth 100000 in
set_option maxHeartbeats 4000000 in
theorem g_X12_ring (l : Launch) (G : xa_C) (v0 : Int) (h : xa_H) : xa_G l G 7 mX12_ring (f_X12_ring v0 h) (fun r => some (some (xI r.1), r.2) : (Int × xa_H) → Option xa_O) 0 [some (xR v0), none] [] h := by
  unfold f_X12_ring
  refine xa_step (xa_aload_n d_X12_ring_0 rfl) ?_
  refine xa_callVI (as := []) (st := []) (M' := mX12_isRing) (d' := 4) rfl xw_1914 xw_1916 xw_120 xw_1917 xw_177 xh_X12_isRing rfl ⟨Nat.le_of_ble_eq_true rfl, Nat.le_of_ble_eq_true rfl⟩ (Nat.le_of_ble_eq_true rfl) rfl d_X12_ring_1 (fun r hr => ct_X12_isRing l G v0 h r hr) (fun r1 _ => ?_)
  refine xa_if (xa_ifne d_X12_ring_4) (fun q2 => ?_) (fun q2 => ?_)
  · refine xa_step (xa_aload_n d_X12_ring_7 rfl) ?_
    refine xa_step (xa_iconst d_X12_ring_8 xq_i_2) ?_
    refine xa_callVI (as := [xI 2]) (st := []) (M' := mX12_refuses) (d' := 2) rfl xw_1920 xw_1922 xw_121 xw_1923 xw_177 xh_X12_refuses rfl ⟨Nat.le_of_ble_eq_true rfl, Nat.le_of_ble_eq_true rfl⟩ (Nat.le_of_ble_eq_true rfl) rfl d_X12_ring_9 (fun r hr => ct_X12_refuses l G v0 2 r1.2 r hr) (fun r3 _ => ?_)
    exact xa_iret d_X12_ring_12 rfl rfl
  · refine xa_step (xa_aload_n d_X12_ring_13 rfl) ?_
    refine xa_callVV (as := []) (st := []) (M' := mX12_keeps) (d' := 2) rfl xw_2089 xw_2091 xw_147 xw_2092 xw_177 xh_X12_keeps rfl ⟨Nat.le_of_ble_eq_true rfl, Nat.le_of_ble_eq_true rfl⟩ (Nat.le_of_ble_eq_true rfl) rfl d_X12_ring_14 (fun r hr => ct_X12_keeps l G v0 r1.2 r hr) (fun r4 _ => ?_)
    refine xa_step (xa_aload_n d_X12_ring_17 rfl) ?_
    refine xa_callVI (as := []) (st := []) (M' := mX12_whyNot) (d' := 6) rfl xw_1924 xw_1926 xw_122 xw_1927 xw_177 xh_X12_whyNot rfl ⟨Nat.le_of_ble_eq_true rfl, Nat.le_of_ble_eq_true rfl⟩ (Nat.le_of_ble_eq_true rfl) rfl d_X12_ring_18 (fun r hr => ct_X12_whyNot l G v0 r4 r hr) (fun r5 _ => ?_)
    refine xa_step (xa_istore_n (ls' := [some (xR v0), some (xI r5.1)]) d_X12_ring_21 (by decide) rfl) ?_
    refine xa_step (xa_iload_n d_X12_ring_22 rfl) ?_
    refine xa_if (xa_ifne d_X12_ring_23) (fun q6 => ?_) (fun q6 => ?_)
    · refine xa_step (xa_aload_n d_X12_ring_26 rfl) ?_
      refine xa_callVV (as := []) (st := []) (M' := mX12_comesAbout) (d' := 6) rfl xw_2093 xw_2095 xw_148 xw_2096 xw_177 xh_X12_comesAbout rfl ⟨Nat.le_of_ble_eq_true rfl, Nat.le_of_ble_eq_true rfl⟩ (Nat.le_of_ble_eq_true rfl) rfl d_X12_ring_27 (fun r hr => ct_X12_comesAbout l G v0 r5.2 r hr) (fun r7 _ => ?_)
      exact xa_weak (ls' := [some (xR v0), some (xI r5.1)]) ⟨rfl, rfl, trivial⟩ (g_X12_ring_J30 l G v0 r5.1 r7)
    · exact xa_weak (ls' := [some (xR v0), some (xI r5.1)]) ⟨rfl, rfl, trivial⟩ (g_X12_ring_J30 l G v0 r5.1 r5.2)
theorem ct_X12_ring (l : Launch) (G : xa_C) (v0 : Int) (h : xa_H) (r : Int × xa_H) (hr : f_X12_ring v0 h = some r) : xa_CT l G 7 mX12_ring yX12_ring [xR v0] h (some (xI r.1), r.2) :=
  xa_met (by decide +kernel) rfl (fun q => by first | rfl | cases q) (Nat.le_of_ble_eq_true rfl) rfl (g_X12_ring l G v0 h) (by rw [hr]; rfl)
abbrev mX12_seed : xa_M := (cX12_seed, 2, (some (.boolean)), RX12, false)
theorem d_X12_seed_0 : decode mX12_seed.1 0 = .ok (.iload_n 1, 1) ∧ 0 + 1 = 1 := ⟨by decide +kernel, rfl⟩
theorem d_X12_seed_1 : decode mX12_seed.1 1 = .ok (.ifCond .ge 15, 3) ∧ 1 + 3 = 4 ∧ ((1 : Nat) : Int) + 15 = ((16 : Nat) : Int) := ⟨by decide +kernel, rfl, rfl⟩
theorem d_X12_seed_4 : decode mX12_seed.1 4 = .ok (.aload_n 0, 1) ∧ 4 + 1 = 5 := ⟨by decide +kernel, rfl⟩
theorem d_X12_seed_5 : decode mX12_seed.1 5 = .ok (.getfield 17, 3) ∧ 5 + 3 = 8 := ⟨by decide +kernel, rfl⟩
theorem d_X12_seed_8 : decode mX12_seed.1 8 = .ok (.iconst 5, 1) ∧ 8 + 1 = 9 := ⟨by decide +kernel, rfl⟩
theorem d_X12_seed_9 : decode mX12_seed.1 9 = .ok (.dup2, 1) ∧ 9 + 1 = 10 := ⟨by decide +kernel, rfl⟩
theorem d_X12_seed_10 : decode mX12_seed.1 10 = .ok (.iaload, 1) ∧ 10 + 1 = 11 := ⟨by decide +kernel, rfl⟩
theorem d_X12_seed_11 : decode mX12_seed.1 11 = .ok (.iconst 1, 1) ∧ 11 + 1 = 12 := ⟨by decide +kernel, rfl⟩
theorem d_X12_seed_12 : decode mX12_seed.1 12 = .ok (.iadd, 1) ∧ 12 + 1 = 13 := ⟨by decide +kernel, rfl⟩
theorem d_X12_seed_13 : decode mX12_seed.1 13 = .ok (.iastore, 1) ∧ 13 + 1 = 14 := ⟨by decide +kernel, rfl⟩
theorem d_X12_seed_14 : decode mX12_seed.1 14 = .ok (.iconst 0, 1) ∧ 14 + 1 = 15 := ⟨by decide +kernel, rfl⟩
theorem d_X12_seed_15 : decode mX12_seed.1 15 = .ok (.ireturn, 1) := by decide +kernel
theorem d_X12_seed_16 : decode mX12_seed.1 16 = .ok (.aload_n 0, 1) ∧ 16 + 1 = 17 := ⟨by decide +kernel, rfl⟩
theorem d_X12_seed_17 : decode mX12_seed.1 17 = .ok (.iload_n 1, 1) ∧ 17 + 1 = 18 := ⟨by decide +kernel, rfl⟩
theorem d_X12_seed_18 : decode mX12_seed.1 18 = .ok (.i2l, 1) ∧ 18 + 1 = 19 := ⟨by decide +kernel, rfl⟩
theorem d_X12_seed_19 : decode mX12_seed.1 19 = .ok (.putfield 170, 3) ∧ 19 + 3 = 22 := ⟨by decide +kernel, rfl⟩
theorem d_X12_seed_22 : decode mX12_seed.1 22 = .ok (.iconst 1, 1) ∧ 22 + 1 = 23 := ⟨by decide +kernel, rfl⟩
theorem d_X12_seed_23 : decode mX12_seed.1 23 = .ok (.ireturn, 1) := by decide +kernel
set_option maxRecDepth 100000 in
set_option maxHeartbeats 4000000 in
theorem g_X12_seed (l : Launch) (G : xa_C) (v0 v1 : Int) (h : xa_H) : xa_G l G 2 mX12_seed (f_X12_seed v0 v1 h) (fun r => some (some (xI r.1), r.2) : (Int × xa_H) → Option xa_O) 0 [some (xR v0), some (xI v1)] [] h := by
  unfold f_X12_seed
  refine xa_step (xa_iload_n d_X12_seed_0 rfl) ?_
  refine xa_if (xa_ifge d_X12_seed_1) (fun q1 => ?_) (fun q1 => ?_)
  · refine xa_step (xa_aload_n d_X12_seed_4 rfl) ?_
    refine xa_getf xR xc_12 (by decide) (fun _ => rfl) xw_1313 rfl d_X12_seed_5 (fun x2 _ => ?_)
    refine xa_step (xa_iconst d_X12_seed_8 xq_i_5) ?_
    refine xa_step (xa_dup2 d_X12_seed_9 (xa_tI _) (xa_tR _)) ?_
    refine xa_iaload d_X12_seed_10 (fun x3 _ => ?_)
    refine xa_step (xa_iconst d_X12_seed_11 xq_i_1) ?_
    refine xa_step (xa_iadd d_X12_seed_12) ?_
    refine xa_iastore2 d_X12_seed_13 (fun h4 _ => ?_)
    refine xa_step (xa_iconst d_X12_seed_14 xq_i_0) ?_
    exact xa_zret d_X12_seed_15 rfl (Or.inl rfl) rfl
  · refine xa_step (xa_aload_n d_X12_seed_16 rfl) ?_
    refine xa_step (xa_iload_n d_X12_seed_17 rfl) ?_
    refine xa_step (xa_i2l d_X12_seed_18) ?_
    refine xa_putf2 (tg := xL) xc_12 (by decide) (fun _ => rfl) rfl (fun c hc => xa_fitL c hc) xw_1380 rfl d_X12_seed_19 (fun h5 _ => ?_)
    refine xa_step (xa_iconst d_X12_seed_22 xq_i_1) ?_
    exact xa_zret d_X12_seed_23 rfl (Or.inr rfl) rfl
theorem ct_X12_seed (l : Launch) (G : xa_C) (v0 v1 : Int) (h : xa_H) (r : Int × xa_H) (hr : f_X12_seed v0 v1 h = some r) : xa_CT l G 2 mX12_seed yX12_seed [xR v0, xI v1] h (some (xI r.1), r.2) :=
  xa_met (by decide +kernel) rfl (fun q => by first | rfl | cases q) (Nat.le_of_ble_eq_true rfl) rfl (g_X12_seed l G v0 v1 h) (by rw [hr]; rfl)
abbrev mX12_status : xa_M := (cX12_status, 2, (some (.int)), RX12, false)
theorem d_X12_status_0 : decode mX12_status.1 0 = .ok (.iload_n 1, 1) ∧ 0 + 1 = 1 := ⟨by decide +kernel, rfl⟩
theorem d_X12_status_1 : decode mX12_status.1 1 = .ok (.i2l, 1) ∧ 1 + 1 = 2 := ⟨by decide +kernel, rfl⟩
theorem d_X12_status_2 : decode mX12_status.1 2 = .ok (.lconst 0, 1) ∧ 2 + 1 = 3 := ⟨by decide +kernel, rfl⟩
theorem d_X12_status_3 : decode mX12_status.1 3 = .ok (.ldc2_w 486, 3) ∧ 3 + 3 = 6 := ⟨by decide +kernel, rfl⟩
theorem d_X12_status_6 : decode mX12_status.1 6 = .ok (.invokestatic 289, 3) ∧ 6 + 3 = 9 := ⟨by decide +kernel, rfl⟩
theorem d_X12_status_9 : decode mX12_status.1 9 = .ok (.ifCond .eq 12, 3) ∧ 9 + 3 = 12 ∧ ((9 : Nat) : Int) + 12 = ((21 : Nat) : Int) := ⟨by decide +kernel, rfl, rfl⟩
theorem d_X12_status_21 : decode mX12_status.1 21 = .ok (.iconst (-1), 1) ∧ 21 + 1 = 22 := ⟨by decide +kernel, rfl⟩
theorem d_X12_status_22 : decode mX12_status.1 22 = .ok (.ireturn, 1) := by decide +kernel
theorem d_X12_status_12 : decode mX12_status.1 12 = .ok (.aload_n 0, 1) ∧ 12 + 1 = 13 := ⟨by decide +kernel, rfl⟩
theorem d_X12_status_13 : decode mX12_status.1 13 = .ok (.getfield 17, 3) ∧ 13 + 3 = 16 := ⟨by decide +kernel, rfl⟩
theorem d_X12_status_16 : decode mX12_status.1 16 = .ok (.iload_n 1, 1) ∧ 16 + 1 = 17 := ⟨by decide +kernel, rfl⟩
theorem d_X12_status_17 : decode mX12_status.1 17 = .ok (.iaload, 1) ∧ 17 + 1 = 18 := ⟨by decide +kernel, rfl⟩
theorem d_X12_status_18 : decode mX12_status.1 18 = .ok (.goto 4, 3) ∧ ((18 : Nat) : Int) + 4 = ((22 : Nat) : Int) := ⟨by decide +kernel, rfl⟩
set_option maxRecDepth 100000 in
set_option maxHeartbeats 4000000 in
theorem g_X12_status (l : Launch) (G : xa_C) (v0 v1 : Int) (h : xa_H) : xa_G l G 3 mX12_status (f_X12_status v0 v1 h) (fun r => some (some (xI r), h) : Int → Option xa_O) 0 [some (xR v0), some (xI v1)] [] h := by
  unfold f_X12_status
  refine xa_step (xa_iload_n d_X12_status_0 rfl) ?_
  refine xa_step (xa_i2l d_X12_status_1) ?_
  refine xa_step (xa_lconst d_X12_status_2 rfl) ?_
  refine xa_step (xa_ldc2 (c64 := 5) (v := 5) (by decide +kernel) xw_1864 d_X12_status_3) ?_
  refine xa_callSi (as := [xL v1, xL 0, xL 5]) (st := []) (M' := mX12_isIn) (d' := 2) xw_1706 xw_1707 xw_1708 xw_177 xh_X12_isIn rfl ⟨Nat.le_of_ble_eq_true rfl, Nat.le_of_ble_eq_true rfl⟩ (Nat.le_of_ble_eq_true rfl) rfl d_X12_status_6 (fun r hr => ct_X12_isIn l G v1 0 5 h r hr) (fun r1 _ => ?_)
  refine xa_if (xa_ifeq d_X12_status_9) (fun q2 => ?_) (fun q2 => ?_)
  · refine xa_step (xa_iconst d_X12_status_21 xq_i_m1) ?_
    exact xa_iret d_X12_status_22 rfl rfl
  · refine xa_step (xa_aload_n d_X12_status_12 rfl) ?_
    refine xa_getf xR xc_12 (by decide) (fun _ => rfl) xw_1313 rfl d_X12_status_13 (fun x3 _ => ?_)
    refine xa_step (xa_iload_n d_X12_status_16 rfl) ?_
    refine xa_iaload d_X12_status_17 (fun x4 _ => ?_)
    refine xa_step (xa_goto d_X12_status_18) ?_
    exact xa_iret d_X12_status_22 rfl rfl
theorem ct_X12_status (l : Launch) (G : xa_C) (v0 v1 : Int) (h : xa_H) (r : Int) (hr : f_X12_status v0 v1 h = some r) : xa_CT l G 3 mX12_status yX12_status [xR v0, xI v1] h (some (xI r), h) :=
  xa_met (by decide +kernel) rfl (fun q => by first | rfl | cases q) (Nat.le_of_ble_eq_true rfl) rfl (g_X12_status l G v0 v1 h) (by rw [hr]; rfl)
abbrev mX12_moreBy : xa_M := (cX12_moreBy, 3, (some (.int)), RX12, false)
theorem d_X12_moreBy_0 : decode mX12_moreBy.1 0 = .ok (.aload_n 0, 1) ∧ 0 + 1 = 1 := ⟨by decide +kernel, rfl⟩
theorem d_X12_moreBy_1 : decode mX12_moreBy.1 1 = .ok (.iload_n 1, 1) ∧ 1 + 1 = 2 := ⟨by decide +kernel, rfl⟩
theorem d_X12_moreBy_2 : decode mX12_moreBy.1 2 = .ok (.aload_n 0, 1) ∧ 2 + 1 = 3 := ⟨by decide +kernel, rfl⟩
theorem d_X12_moreBy_3 : decode mX12_moreBy.1 3 = .ok (.iload_n 2, 1) ∧ 3 + 1 = 4 := ⟨by decide +kernel, rfl⟩
theorem d_X12_moreBy_4 : decode mX12_moreBy.1 4 = .ok (.invokevirtual 405, 3) ∧ 4 + 3 = 7 := ⟨by decide +kernel, rfl⟩
theorem d_X12_moreBy_7 : decode mX12_moreBy.1 7 = .ok (.invokevirtual 411, 3) ∧ 7 + 3 = 10 := ⟨by decide +kernel, rfl⟩
theorem d_X12_moreBy_10 : decode mX12_moreBy.1 10 = .ok (.aload_n 0, 1) ∧ 10 + 1 = 11 := ⟨by decide +kernel, rfl⟩
theorem d_X12_moreBy_11 : decode mX12_moreBy.1 11 = .ok (.iload_n 1, 1) ∧ 11 + 1 = 12 := ⟨by decide +kernel, rfl⟩
theorem d_X12_moreBy_12 : decode mX12_moreBy.1 12 = .ok (.aload_n 0, 1) ∧ 12 + 1 = 13 := ⟨by decide +kernel, rfl⟩
theorem d_X12_moreBy_13 : decode mX12_moreBy.1 13 = .ok (.iload_n 1, 1) ∧ 13 + 1 = 14 := ⟨by decide +kernel, rfl⟩
theorem d_X12_moreBy_14 : decode mX12_moreBy.1 14 = .ok (.invokevirtual 405, 3) ∧ 14 + 3 = 17 := ⟨by decide +kernel, rfl⟩
theorem d_X12_moreBy_17 : decode mX12_moreBy.1 17 = .ok (.invokevirtual 411, 3) ∧ 17 + 3 = 20 := ⟨by decide +kernel, rfl⟩
theorem d_X12_moreBy_20 : decode mX12_moreBy.1 20 = .ok (.isub, 1) ∧ 20 + 1 = 21 := ⟨by decide +kernel, rfl⟩
theorem d_X12_moreBy_21 : decode mX12_moreBy.1 21 = .ok (.aload_n 0, 1) ∧ 21 + 1 = 22 := ⟨by decide +kernel, rfl⟩
theorem d_X12_moreBy_22 : decode mX12_moreBy.1 22 = .ok (.iload_n 2, 1) ∧ 22 + 1 = 23 := ⟨by decide +kernel, rfl⟩
theorem d_X12_moreBy_23 : decode mX12_moreBy.1 23 = .ok (.aload_n 0, 1) ∧ 23 + 1 = 24 := ⟨by decide +kernel, rfl⟩
theorem d_X12_moreBy_24 : decode mX12_moreBy.1 24 = .ok (.iload_n 1, 1) ∧ 24 + 1 = 25 := ⟨by decide +kernel, rfl⟩
theorem d_X12_moreBy_25 : decode mX12_moreBy.1 25 = .ok (.invokevirtual 405, 3) ∧ 25 + 3 = 28 := ⟨by decide +kernel, rfl⟩
theorem d_X12_moreBy_28 : decode mX12_moreBy.1 28 = .ok (.invokevirtual 411, 3) ∧ 28 + 3 = 31 := ⟨by decide +kernel, rfl⟩
theorem d_X12_moreBy_31 : decode mX12_moreBy.1 31 = .ok (.iadd, 1) ∧ 31 + 1 = 32 := ⟨by decide +kernel, rfl⟩
theorem d_X12_moreBy_32 : decode mX12_moreBy.1 32 = .ok (.aload_n 0, 1) ∧ 32 + 1 = 33 := ⟨by decide +kernel, rfl⟩
theorem d_X12_moreBy_33 : decode mX12_moreBy.1 33 = .ok (.iload_n 2, 1) ∧ 33 + 1 = 34 := ⟨by decide +kernel, rfl⟩
theorem d_X12_moreBy_34 : decode mX12_moreBy.1 34 = .ok (.aload_n 0, 1) ∧ 34 + 1 = 35 := ⟨by decide +kernel, rfl⟩
theorem d_X12_moreBy_35 : decode mX12_moreBy.1 35 = .ok (.iload_n 2, 1) ∧ 35 + 1 = 36 := ⟨by decide +kernel, rfl⟩
theorem d_X12_moreBy_36 : decode mX12_moreBy.1 36 = .ok (.invokevirtual 405, 3) ∧ 36 + 3 = 39 := ⟨by decide +kernel, rfl⟩
theorem d_X12_moreBy_39 : decode mX12_moreBy.1 39 = .ok (.invokevirtual 411, 3) ∧ 39 + 3 = 42 := ⟨by decide +kernel, rfl⟩
theorem d_X12_moreBy_42 : decode mX12_moreBy.1 42 = .ok (.isub, 1) ∧ 42 + 1 = 43 := ⟨by decide +kernel, rfl⟩
theorem d_X12_moreBy_43 : decode mX12_moreBy.1 43 = .ok (.ireturn, 1) := by decide +kernel
set_option maxRecDepth 100000 in
set_option maxHeartbeats 4000000 in
theorem g_X12_moreBy (l : Launch) (G : xa_C) (v0 v1 v2 : Int) (h : xa_H) : xa_G l G 3 mX12_moreBy (f_X12_moreBy v0 v1 v2 h) (fun r => some (some (xI r), h) : Int → Option xa_O) 0 [some (xR v0), some (xI v1), some (xI v2)] [] h := by
  unfold f_X12_moreBy
  refine xa_step (xa_aload_n d_X12_moreBy_0 rfl) ?_
  refine xa_step (xa_iload_n d_X12_moreBy_1 rfl) ?_
  refine xa_step (xa_aload_n d_X12_moreBy_2 rfl) ?_
  refine xa_step (xa_iload_n d_X12_moreBy_3 rfl) ?_
  refine xa_callVi (as := [xI v2]) (st := [xI v1, xR v0]) (M' := mX12_hadBy) (d' := 2) rfl xw_1844 xw_1846 xw_110 xw_1847 xw_177 xh_X12_hadBy rfl ⟨Nat.le_of_ble_eq_true rfl, Nat.le_of_ble_eq_true rfl⟩ (Nat.le_of_ble_eq_true rfl) rfl d_X12_moreBy_4 (fun r hr => ct_X12_hadBy l G v0 v2 h r hr) (fun r1 _ => ?_)
  refine xa_callVi (as := [xI v1, xI r1]) (st := []) (M' := mX12_valueOf) (d' := 2) rfl xw_1856 xw_1858 xw_113 xw_1859 xw_177 xh_X12_valueOf rfl ⟨Nat.le_of_ble_eq_true rfl, Nat.le_of_ble_eq_true rfl⟩ (Nat.le_of_ble_eq_true rfl) rfl d_X12_moreBy_7 (fun r hr => ct_X12_valueOf l G v0 v1 r1 h r hr) (fun r2 _ => ?_)
  refine xa_step (xa_aload_n d_X12_moreBy_10 rfl) ?_
  refine xa_step (xa_iload_n d_X12_moreBy_11 rfl) ?_
  refine xa_step (xa_aload_n d_X12_moreBy_12 rfl) ?_
  refine xa_step (xa_iload_n d_X12_moreBy_13 rfl) ?_
  refine xa_callVi (as := [xI v1]) (st := [xI v1, xR v0, xI r2]) (M' := mX12_hadBy) (d' := 2) rfl xw_1844 xw_1846 xw_110 xw_1847 xw_177 xh_X12_hadBy rfl ⟨Nat.le_of_ble_eq_true rfl, Nat.le_of_ble_eq_true rfl⟩ (Nat.le_of_ble_eq_true rfl) rfl d_X12_moreBy_14 (fun r hr => ct_X12_hadBy l G v0 v1 h r hr) (fun r3 _ => ?_)
  refine xa_callVi (as := [xI v1, xI r3]) (st := [xI r2]) (M' := mX12_valueOf) (d' := 2) rfl xw_1856 xw_1858 xw_113 xw_1859 xw_177 xh_X12_valueOf rfl ⟨Nat.le_of_ble_eq_true rfl, Nat.le_of_ble_eq_true rfl⟩ (Nat.le_of_ble_eq_true rfl) rfl d_X12_moreBy_17 (fun r hr => ct_X12_valueOf l G v0 v1 r3 h r hr) (fun r4 _ => ?_)
  refine xa_step (xa_isub d_X12_moreBy_20) ?_
  refine xa_step (xa_aload_n d_X12_moreBy_21 rfl) ?_
  refine xa_step (xa_iload_n d_X12_moreBy_22 rfl) ?_
  refine xa_step (xa_aload_n d_X12_moreBy_23 rfl) ?_
  refine xa_step (xa_iload_n d_X12_moreBy_24 rfl) ?_
  refine xa_callVi (as := [xI v1]) (st := [xI v2, xR v0, xI (w32 (r2 - r4))]) (M' := mX12_hadBy) (d' := 2) rfl xw_1844 xw_1846 xw_110 xw_1847 xw_177 xh_X12_hadBy rfl ⟨Nat.le_of_ble_eq_true rfl, Nat.le_of_ble_eq_true rfl⟩ (Nat.le_of_ble_eq_true rfl) rfl d_X12_moreBy_25 (fun r hr => ct_X12_hadBy l G v0 v1 h r hr) (fun r5 _ => ?_)
  refine xa_callVi (as := [xI v2, xI r5]) (st := [xI (w32 (r2 - r4))]) (M' := mX12_valueOf) (d' := 2) rfl xw_1856 xw_1858 xw_113 xw_1859 xw_177 xh_X12_valueOf rfl ⟨Nat.le_of_ble_eq_true rfl, Nat.le_of_ble_eq_true rfl⟩ (Nat.le_of_ble_eq_true rfl) rfl d_X12_moreBy_28 (fun r hr => ct_X12_valueOf l G v0 v2 r5 h r hr) (fun r6 _ => ?_)
  refine xa_step (xa_iadd d_X12_moreBy_31) ?_
  refine xa_step (xa_aload_n d_X12_moreBy_32 rfl) ?_
  refine xa_step (xa_iload_n d_X12_moreBy_33 rfl) ?_
  refine xa_step (xa_aload_n d_X12_moreBy_34 rfl) ?_
  refine xa_step (xa_iload_n d_X12_moreBy_35 rfl) ?_
  refine xa_callVi (as := [xI v2]) (st := [xI v2, xR v0, xI (w32 ((w32 (r2 - r4)) + r6))]) (M' := mX12_hadBy) (d' := 2) rfl xw_1844 xw_1846 xw_110 xw_1847 xw_177 xh_X12_hadBy rfl ⟨Nat.le_of_ble_eq_true rfl, Nat.le_of_ble_eq_true rfl⟩ (Nat.le_of_ble_eq_true rfl) rfl d_X12_moreBy_36 (fun r hr => ct_X12_hadBy l G v0 v2 h r hr) (fun r7 _ => ?_)
  refine xa_callVi (as := [xI v2, xI r7]) (st := [xI (w32 ((w32 (r2 - r4)) + r6))]) (M' := mX12_valueOf) (d' := 2) rfl xw_1856 xw_1858 xw_113 xw_1859 xw_177 xh_X12_valueOf rfl ⟨Nat.le_of_ble_eq_true rfl, Nat.le_of_ble_eq_true rfl⟩ (Nat.le_of_ble_eq_true rfl) rfl d_X12_moreBy_39 (fun r hr => ct_X12_valueOf l G v0 v2 r7 h r hr) (fun r8 _ => ?_)
  refine xa_step (xa_isub d_X12_moreBy_42) ?_
  exact xa_iret d_X12_moreBy_43 rfl rfl
theorem ct_X12_moreBy (l : Launch) (G : xa_C) (v0 v1 v2 : Int) (h : xa_H) (r : Int) (hr : f_X12_moreBy v0 v1 v2 h = some r) : xa_CT l G 3 mX12_moreBy yX12_moreBy [xR v0, xI v1, xI v2] h (some (xI r), h) :=
  xa_met (by decide +kernel) rfl (fun q => by first | rfl | cases q) (Nat.le_of_ble_eq_true rfl) rfl (g_X12_moreBy l G v0 v1 v2 h) (by rw [hr]; rfl)
abbrev mX12_together : xa_M := (cX12_together, 7, (some (.int)), RX12, false)
theorem d_X12_together_0 : decode mX12_together.1 0 = .ok (.iload_n 1, 1) ∧ 0 + 1 = 1 := ⟨by decide +kernel, rfl⟩
theorem d_X12_together_1 : decode mX12_together.1 1 = .ok (.i2l, 1) ∧ 1 + 1 = 2 := ⟨by decide +kernel, rfl⟩
theorem d_X12_together_2 : decode mX12_together.1 2 = .ok (.lconst 0, 1) ∧ 2 + 1 = 3 := ⟨by decide +kernel, rfl⟩
theorem d_X12_together_3 : decode mX12_together.1 3 = .ok (.ldc2_w 454, 3) ∧ 3 + 3 = 6 := ⟨by decide +kernel, rfl⟩
theorem d_X12_together_6 : decode mX12_together.1 6 = .ok (.invokestatic 289, 3) ∧ 6 + 3 = 9 := ⟨by decide +kernel, rfl⟩
theorem d_X12_together_9 : decode mX12_together.1 9 = .ok (.ifCond .ne 5, 3) ∧ 9 + 3 = 12 ∧ ((9 : Nat) : Int) + 5 = ((14 : Nat) : Int) := ⟨by decide +kernel, rfl, rfl⟩
theorem d_X12_together_12 : decode mX12_together.1 12 = .ok (.iconst (-1), 1) ∧ 12 + 1 = 13 := ⟨by decide +kernel, rfl⟩
theorem d_X12_together_13 : decode mX12_together.1 13 = .ok (.ireturn, 1) := by decide +kernel
theorem d_X12_together_14 : decode mX12_together.1 14 = .ok (.iconst 0, 1) ∧ 14 + 1 = 15 := ⟨by decide +kernel, rfl⟩
theorem d_X12_together_15 : decode mX12_together.1 15 = .ok (.istore_n 2, 1) ∧ 15 + 1 = 16 := ⟨by decide +kernel, rfl⟩
theorem d_X12_together_16 : decode mX12_together.1 16 = .ok (.iconst (-1), 1) ∧ 16 + 1 = 17 := ⟨by decide +kernel, rfl⟩
theorem d_X12_together_17 : decode mX12_together.1 17 = .ok (.istore_n 3, 1) ∧ 17 + 1 = 18 := ⟨by decide +kernel, rfl⟩
theorem d_X12_together_18 : decode mX12_together.1 18 = .ok (.iconst (-1), 1) ∧ 18 + 1 = 19 := ⟨by decide +kernel, rfl⟩
theorem d_X12_together_19 : decode mX12_together.1 19 = .ok (.istore 4, 2) ∧ 19 + 2 = 21 := ⟨by decide +kernel, rfl⟩
theorem d_X12_together_21 : decode mX12_together.1 21 = .ok (.iconst 0, 1) ∧ 21 + 1 = 22 := ⟨by decide +kernel, rfl⟩
theorem d_X12_together_22 : decode mX12_together.1 22 = .ok (.istore 5, 2) ∧ 22 + 2 = 24 := ⟨by decide +kernel, rfl⟩
theorem d_X12_together_24 : decode mX12_together.1 24 = .ok (.iload 5, 2) ∧ 24 + 2 = 26 := ⟨by decide +kernel, rfl⟩
theorem d_X12_together_26 : decode mX12_together.1 26 = .ok (.aload_n 0, 1) ∧ 26 + 1 = 27 := ⟨by decide +kernel, rfl⟩
theorem d_X12_together_27 : decode mX12_together.1 27 = .ok (.invokevirtual 402, 3) ∧ 27 + 3 = 30 := ⟨by decide +kernel, rfl⟩
theorem d_X12_together_30 : decode mX12_together.1 30 = .ok (.if_icmp .ge 61, 3) ∧ 30 + 3 = 33 ∧ ((30 : Nat) : Int) + 61 = ((91 : Nat) : Int) := ⟨by decide +kernel, rfl, rfl⟩
theorem d_X12_together_33 : decode mX12_together.1 33 = .ok (.iload 5, 2) ∧ 33 + 2 = 35 := ⟨by decide +kernel, rfl⟩
theorem d_X12_together_35 : decode mX12_together.1 35 = .ok (.iconst 1, 1) ∧ 35 + 1 = 36 := ⟨by decide +kernel, rfl⟩
theorem d_X12_together_36 : decode mX12_together.1 36 = .ok (.iadd, 1) ∧ 36 + 1 = 37 := ⟨by decide +kernel, rfl⟩
theorem d_X12_together_37 : decode mX12_together.1 37 = .ok (.istore 6, 2) ∧ 37 + 2 = 39 := ⟨by decide +kernel, rfl⟩
theorem d_X12_together_39 : decode mX12_together.1 39 = .ok (.iload 6, 2) ∧ 39 + 2 = 41 := ⟨by decide +kernel, rfl⟩
theorem d_X12_together_41 : decode mX12_together.1 41 = .ok (.aload_n 0, 1) ∧ 41 + 1 = 42 := ⟨by decide +kernel, rfl⟩
theorem d_X12_together_42 : decode mX12_together.1 42 = .ok (.invokevirtual 402, 3) ∧ 42 + 3 = 45 := ⟨by decide +kernel, rfl⟩
theorem d_X12_together_45 : decode mX12_together.1 45 = .ok (.if_icmp .ge 40, 3) ∧ 45 + 3 = 48 ∧ ((45 : Nat) : Int) + 40 = ((85 : Nat) : Int) := ⟨by decide +kernel, rfl, rfl⟩
theorem d_X12_together_48 : decode mX12_together.1 48 = .ok (.aload_n 0, 1) ∧ 48 + 1 = 49 := ⟨by decide +kernel, rfl⟩
theorem d_X12_together_49 : decode mX12_together.1 49 = .ok (.iload 5, 2) ∧ 49 + 2 = 51 := ⟨by decide +kernel, rfl⟩
theorem d_X12_together_51 : decode mX12_together.1 51 = .ok (.iload 6, 2) ∧ 51 + 2 = 53 := ⟨by decide +kernel, rfl⟩
theorem d_X12_together_53 : decode mX12_together.1 53 = .ok (.invokevirtual 557, 3) ∧ 53 + 3 = 56 := ⟨by decide +kernel, rfl⟩
theorem d_X12_together_56 : decode mX12_together.1 56 = .ok (.iload_n 2, 1) ∧ 56 + 1 = 57 := ⟨by decide +kernel, rfl⟩
theorem d_X12_together_57 : decode mX12_together.1 57 = .ok (.if_icmp .gt 6, 3) ∧ 57 + 3 = 60 ∧ ((57 : Nat) : Int) + 6 = ((63 : Nat) : Int) := ⟨by decide +kernel, rfl, rfl⟩
theorem d_X12_together_63 : decode mX12_together.1 63 = .ok (.aload_n 0, 1) ∧ 63 + 1 = 64 := ⟨by decide +kernel, rfl⟩
theorem d_X12_together_64 : decode mX12_together.1 64 = .ok (.iload 5, 2) ∧ 64 + 2 = 66 := ⟨by decide +kernel, rfl⟩
theorem d_X12_together_66 : decode mX12_together.1 66 = .ok (.iload 6, 2) ∧ 66 + 2 = 68 := ⟨by decide +kernel, rfl⟩
theorem d_X12_together_68 : decode mX12_together.1 68 = .ok (.invokevirtual 557, 3) ∧ 68 + 3 = 71 := ⟨by decide +kernel, rfl⟩
theorem d_X12_together_71 : decode mX12_together.1 71 = .ok (.istore_n 2, 1) ∧ 71 + 1 = 72 := ⟨by decide +kernel, rfl⟩
theorem d_X12_together_72 : decode mX12_together.1 72 = .ok (.iload 5, 2) ∧ 72 + 2 = 74 := ⟨by decide +kernel, rfl⟩
theorem d_X12_together_74 : decode mX12_together.1 74 = .ok (.istore_n 3, 1) ∧ 74 + 1 = 75 := ⟨by decide +kernel, rfl⟩
theorem d_X12_together_75 : decode mX12_together.1 75 = .ok (.iload 6, 2) ∧ 75 + 2 = 77 := ⟨by decide +kernel, rfl⟩
theorem d_X12_together_77 : decode mX12_together.1 77 = .ok (.istore 4, 2) ∧ 77 + 2 = 79 := ⟨by decide +kernel, rfl⟩
theorem d_X12_together_79 : decode mX12_together.1 79 = .ok (.iinc 6 1, 3) ∧ 79 + 3 = 82 := ⟨by decide +kernel, rfl⟩
theorem d_X12_together_82 : decode mX12_together.1 82 = .ok (.goto (-43), 3) ∧ ((82 : Nat) : Int) + (-43) = ((39 : Nat) : Int) := ⟨by decide +kernel, rfl⟩
theorem d_X12_together_60 : decode mX12_together.1 60 = .ok (.goto 19, 3) ∧ ((60 : Nat) : Int) + 19 = ((79 : Nat) : Int) := ⟨by decide +kernel, rfl⟩
set_option maxRecDepth 100000 in
set_option maxHeartbeats 4000000 in
theorem g_X12_together_L39 (l : Launch) (G : xa_C) (c0 c1 c5 : Int) (h : xa_H) (K : (Int × Int × Int × Int) ⊕ (Int × Int × Int) → Option xa_O) (hb : ∀ (v2 : Int) (v3 : Int) (v4 : Int) (v6 : Int), xa_G l G 4 mX12_together (some (Sum.inl ((v2, v3, v4, v6)))) K 39 [some (xR c0), some (xI c1), some (xI v2), some (xI v3), some (xI v4), some (xI c5), some (xI v6)] [] h) (hx : ∀ (v2 : Int) (v3 : Int) (v4 : Int), xa_G l G 4 mX12_together (some (Sum.inr ((v2, v3, v4)))) K 85 [some (xR c0), some (xI c1), some (xI v2), some (xI v3), some (xI v4), some (xI c5), none] [] h) : ∀ (v2 : Int) (v3 : Int) (v4 : Int) (v6 : Int), xa_G l G 4 mX12_together (f_X12_together_L39 c0 c1 c5 h v2 v3 v4 v6) K 39 [some (xR c0), some (xI c1), some (xI v2), some (xI v3), some (xI v4), some (xI c5), some (xI v6)] [] h := by
  intro v2 v3 v4 v6
  unfold f_X12_together_L39
  refine xa_step (xa_iload d_X12_together_39 rfl) ?_
  refine xa_step (xa_aload_n d_X12_together_41 rfl) ?_
  refine xa_callVi (as := []) (st := [xI v6]) (M' := mX12_holderMany) (d' := 2) rfl xw_1836 xw_1838 xw_108 xw_1839 xw_177 xh_X12_holderMany rfl ⟨Nat.le_of_ble_eq_true rfl, Nat.le_of_ble_eq_true rfl⟩ (Nat.le_of_ble_eq_true rfl) rfl d_X12_together_42 (fun r hr => ct_X12_holderMany l G c0 h r hr) (fun r5 _ => ?_)
  refine xa_if (xa_icmpge d_X12_together_45) (fun q6 => ?_) (fun q6 => ?_)
  · refine xa_step (xa_aload_n d_X12_together_48 rfl) ?_
    refine xa_step (xa_iload d_X12_together_49 rfl) ?_
    refine xa_step (xa_iload d_X12_together_51 rfl) ?_
    refine xa_callVi (as := [xI c5, xI v6]) (st := []) (M' := mX12_moreBy) (d' := 3) rfl xw_2048 xw_2050 xw_144 xw_2051 xw_177 xh_X12_moreBy rfl ⟨Nat.le_of_ble_eq_true rfl, Nat.le_of_ble_eq_true rfl⟩ (Nat.le_of_ble_eq_true rfl) rfl d_X12_together_53 (fun r hr => ct_X12_moreBy l G c0 c5 v6 h r hr) (fun r7 _ => ?_)
    refine xa_step (xa_iload_n d_X12_together_56 rfl) ?_
    refine xa_if (xa_icmpgt d_X12_together_57) (fun q8 => ?_) (fun q8 => ?_)
    · refine xa_step (xa_aload_n d_X12_together_63 rfl) ?_
      refine xa_step (xa_iload d_X12_together_64 rfl) ?_
      refine xa_step (xa_iload d_X12_together_66 rfl) ?_
      refine xa_callVi (as := [xI c5, xI v6]) (st := []) (M' := mX12_moreBy) (d' := 3) rfl xw_2048 xw_2050 xw_144 xw_2051 xw_177 xh_X12_moreBy rfl ⟨Nat.le_of_ble_eq_true rfl, Nat.le_of_ble_eq_true rfl⟩ (Nat.le_of_ble_eq_true rfl) rfl d_X12_together_68 (fun r hr => ct_X12_moreBy l G c0 c5 v6 h r hr) (fun r9 _ => ?_)
      refine xa_step (xa_istore_n (ls' := [some (xR c0), some (xI c1), some (xI r9), some (xI v3), some (xI v4), some (xI c5), some (xI v6)]) d_X12_together_71 (by decide) rfl) ?_
      refine xa_step (xa_iload d_X12_together_72 rfl) ?_
      refine xa_step (xa_istore_n (ls' := [some (xR c0), some (xI c1), some (xI r9), some (xI c5), some (xI v4), some (xI c5), some (xI v6)]) d_X12_together_74 (by decide) rfl) ?_
      refine xa_step (xa_iload d_X12_together_75 rfl) ?_
      refine xa_step (xa_istore (ls' := [some (xR c0), some (xI c1), some (xI r9), some (xI c5), some (xI v6), some (xI c5), some (xI v6)]) d_X12_together_77 (by decide) rfl) ?_
      refine xa_step (xa_iinc (ls' := [some (xR c0), some (xI c1), some (xI r9), some (xI c5), some (xI v6), some (xI c5), some (xI (w32 (v6 + 1)))]) d_X12_together_79 xq_i_1 rfl (by decide) rfl) ?_
      refine xa_step (xa_goto d_X12_together_82) ?_
      exact xa_weak (ls' := [some (xR c0), some (xI c1), some (xI r9), some (xI c5), some (xI v6), some (xI c5), some (xI (w32 (v6 + 1)))]) ⟨rfl, rfl, rfl, rfl, rfl, rfl, rfl, trivial⟩ (hb r9 c5 v6 (w32 (v6 + 1)))
    · refine xa_step (xa_goto d_X12_together_60) ?_
      refine xa_step (xa_iinc (ls' := [some (xR c0), some (xI c1), some (xI v2), some (xI v3), some (xI v4), some (xI c5), some (xI (w32 (v6 + 1)))]) d_X12_together_79 xq_i_1 rfl (by decide) rfl) ?_
      refine xa_step (xa_goto d_X12_together_82) ?_
      exact xa_weak (ls' := [some (xR c0), some (xI c1), some (xI v2), some (xI v3), some (xI v4), some (xI c5), some (xI (w32 (v6 + 1)))]) ⟨rfl, rfl, rfl, rfl, rfl, rfl, rfl, trivial⟩ (hb v2 v3 v4 (w32 (v6 + 1)))
  · exact xa_weak (ls' := [some (xR c0), some (xI c1), some (xI v2), some (xI v3), some (xI v4), some (xI c5), none]) ⟨rfl, rfl, rfl, rfl, rfl, rfl, trivial⟩ (hx v2 v3 v4)
theorem d_X12_together_85 : decode mX12_together.1 85 = .ok (.iinc 5 1, 3) ∧ 85 + 3 = 88 := ⟨by decide +kernel, rfl⟩
theorem d_X12_together_88 : decode mX12_together.1 88 = .ok (.goto (-64), 3) ∧ ((88 : Nat) : Int) + (-64) = ((24 : Nat) : Int) := ⟨by decide +kernel, rfl⟩
set_option maxRecDepth 100000 in
set_option maxHeartbeats 4000000 in
theorem g_X12_together_L24 (l : Launch) (G : xa_C) (c0 c1 : Int) (h : xa_H) (K : (Int × Int × Int × Int) ⊕ (Int × Int × Int) → Option xa_O) (hb : ∀ (v2 : Int) (v3 : Int) (v4 : Int) (v5 : Int), xa_G l G 4 mX12_together (some (Sum.inl ((v2, v3, v4, v5)))) K 24 [some (xR c0), some (xI c1), some (xI v2), some (xI v3), some (xI v4), some (xI v5), none] [] h) (hx : ∀ (v2 : Int) (v3 : Int) (v4 : Int), xa_G l G 4 mX12_together (some (Sum.inr ((v2, v3, v4)))) K 91 [none, some (xI c1), some (xI v2), some (xI v3), some (xI v4), none, none] [] h) : ∀ (v2 : Int) (v3 : Int) (v4 : Int) (v5 : Int), xa_G l G 4 mX12_together (f_X12_together_L24 c0 c1 h v2 v3 v4 v5) K 24 [some (xR c0), some (xI c1), some (xI v2), some (xI v3), some (xI v4), some (xI v5), none] [] h := by
  intro v2 v3 v4 v5
  unfold f_X12_together_L24
  refine xa_step (xa_iload d_X12_together_24 rfl) ?_
  refine xa_step (xa_aload_n d_X12_together_26 rfl) ?_
  refine xa_callVi (as := []) (st := [xI v5]) (M' := mX12_holderMany) (d' := 2) rfl xw_1836 xw_1838 xw_108 xw_1839 xw_177 xh_X12_holderMany rfl ⟨Nat.le_of_ble_eq_true rfl, Nat.le_of_ble_eq_true rfl⟩ (Nat.le_of_ble_eq_true rfl) rfl d_X12_together_27 (fun r hr => ct_X12_holderMany l G c0 h r hr) (fun r3 _ => ?_)
  refine xa_if (xa_icmpge d_X12_together_30) (fun q4 => ?_) (fun q4 => ?_)
  · refine xa_step (xa_iload d_X12_together_33 rfl) ?_
    refine xa_step (xa_iconst d_X12_together_35 xq_i_1) ?_
    refine xa_step (xa_iadd d_X12_together_36) ?_
    refine xa_step (xa_istore (ls' := [some (xR c0), some (xI c1), some (xI v2), some (xI v3), some (xI v4), some (xI v5), some (xI (w32 (v5 + 1)))]) d_X12_together_37 (by decide) rfl) ?_
    refine xa_weak (ls' := [some (xR c0), some (xI c1), some (xI v2), some (xI v3), some (xI v4), some (xI v5), some (xI (w32 (v5 + 1)))]) ⟨rfl, rfl, rfl, rfl, rfl, rfl, rfl, trivial⟩ ?_
    refine xa_loop (f := fun s => f_X12_together_L39 c0 c1 v5 h s.1 s.2.1 s.2.2.1 s.2.2.2) (L := fun s => [some (xR c0), some (xI c1), some (xI s.1), some (xI s.2.1), some (xI s.2.2.1), some (xI v5), some (xI s.2.2.2)]) (P := fun s => h) (X := (fun x K => xa_G l G 4 mX12_together (some (Sum.inr x)) K 85 [some (xR c0), some (xI c1), some (xI x.1), some (xI x.2.1), some (xI x.2.2), some (xI v5), none] [] h)) (fun K hb hX s => g_X12_together_L39 l G c0 c1 v5 h K (fun w0 w1 w2 w3 => hb ((w0, w1, w2, w3))) (fun w0 w1 w2 => hX ((w0, w1, w2))) s.1 s.2.1 s.2.2.1 s.2.2.2) ?_ xFU ((v2, v3, v4, w32 (v5 + 1)))
    intro e10 K hK
    refine xa_eqE hK ?_
    show xa_G l G 4 mX12_together _ _ 85 [some (xR c0), some (xI c1), some (xI e10.1), some (xI e10.2.1), some (xI e10.2.2), some (xI v5), none] [] h
    refine xa_step (xa_iinc (ls' := [some (xR c0), some (xI c1), some (xI e10.1), some (xI e10.2.1), some (xI e10.2.2), some (xI (w32 (v5 + 1))), none]) d_X12_together_85 xq_i_1 rfl (by decide) rfl) ?_
    refine xa_step (xa_goto d_X12_together_88) ?_
    exact xa_weak (ls' := [some (xR c0), some (xI c1), some (xI e10.1), some (xI e10.2.1), some (xI e10.2.2), some (xI (w32 (v5 + 1))), none]) ⟨rfl, rfl, rfl, rfl, rfl, rfl, trivial⟩ (hb e10.1 e10.2.1 e10.2.2 (w32 (v5 + 1)))
  · exact xa_weak (ls' := [none, some (xI c1), some (xI v2), some (xI v3), some (xI v4), none, none]) ⟨rfl, rfl, rfl, rfl, trivial⟩ (hx v2 v3 v4)
theorem d_X12_together_91 : decode mX12_together.1 91 = .ok (.iload_n 3, 1) ∧ 91 + 1 = 92 := ⟨by decide +kernel, rfl⟩
theorem d_X12_together_92 : decode mX12_together.1 92 = .ok (.iconst (-1), 1) ∧ 92 + 1 = 93 := ⟨by decide +kernel, rfl⟩
theorem d_X12_together_93 : decode mX12_together.1 93 = .ok (.if_icmp .ne 7, 3) ∧ 93 + 3 = 96 ∧ ((93 : Nat) : Int) + 7 = ((100 : Nat) : Int) := ⟨by decide +kernel, rfl, rfl⟩
theorem d_X12_together_96 : decode mX12_together.1 96 = .ok (.iconst (-1), 1) ∧ 96 + 1 = 97 := ⟨by decide +kernel, rfl⟩
theorem d_X12_together_97 : decode mX12_together.1 97 = .ok (.goto 22, 3) ∧ ((97 : Nat) : Int) + 22 = ((119 : Nat) : Int) := ⟨by decide +kernel, rfl⟩
theorem d_X12_together_119 : decode mX12_together.1 119 = .ok (.ireturn, 1) := by decide +kernel
theorem d_X12_together_100 : decode mX12_together.1 100 = .ok (.iload_n 1, 1) ∧ 100 + 1 = 101 := ⟨by decide +kernel, rfl⟩
theorem d_X12_together_101 : decode mX12_together.1 101 = .ok (.ifCond .ne 7, 3) ∧ 101 + 3 = 104 ∧ ((101 : Nat) : Int) + 7 = ((108 : Nat) : Int) := ⟨by decide +kernel, rfl, rfl⟩
theorem d_X12_together_104 : decode mX12_together.1 104 = .ok (.iload_n 3, 1) ∧ 104 + 1 = 105 := ⟨by decide +kernel, rfl⟩
theorem d_X12_together_105 : decode mX12_together.1 105 = .ok (.goto 14, 3) ∧ ((105 : Nat) : Int) + 14 = ((119 : Nat) : Int) := ⟨by decide +kernel, rfl⟩
theorem d_X12_together_108 : decode mX12_together.1 108 = .ok (.iload_n 1, 1) ∧ 108 + 1 = 109 := ⟨by decide +kernel, rfl⟩
theorem d_X12_together_109 : decode mX12_together.1 109 = .ok (.iconst 1, 1) ∧ 109 + 1 = 110 := ⟨by decide +kernel, rfl⟩
theorem d_X12_together_110 : decode mX12_together.1 110 = .ok (.if_icmp .ne 8, 3) ∧ 110 + 3 = 113 ∧ ((110 : Nat) : Int) + 8 = ((118 : Nat) : Int) := ⟨by decide +kernel, rfl, rfl⟩
theorem d_X12_together_113 : decode mX12_together.1 113 = .ok (.iload 4, 2) ∧ 113 + 2 = 115 := ⟨by decide +kernel, rfl⟩
theorem d_X12_together_115 : decode mX12_together.1 115 = .ok (.goto 4, 3) ∧ ((115 : Nat) : Int) + 4 = ((119 : Nat) : Int) := ⟨by decide +kernel, rfl⟩
theorem d_X12_together_118 : decode mX12_together.1 118 = .ok (.iload_n 2, 1) ∧ 118 + 1 = 119 := ⟨by decide +kernel, rfl⟩
set_option maxRecDepth 100000 in
set_option maxHeartbeats 4000000 in
theorem g_X12_together (l : Launch) (G : xa_C) (v0 v1 : Int) (h : xa_H) : xa_G l G 4 mX12_together (f_X12_together v0 v1 h) (fun r => some (some (xI r), h) : Int → Option xa_O) 0 [some (xR v0), some (xI v1), none, none, none, none, none] [] h := by
  unfold f_X12_together
  refine xa_step (xa_iload_n d_X12_together_0 rfl) ?_
  refine xa_step (xa_i2l d_X12_together_1) ?_
  refine xa_step (xa_lconst d_X12_together_2 rfl) ?_
  refine xa_step (xa_ldc2 (c64 := 2) (v := 2) (by decide +kernel) xw_1918 d_X12_together_3) ?_
  refine xa_callSi (as := [xL v1, xL 0, xL 2]) (st := []) (M' := mX12_isIn) (d' := 2) xw_1706 xw_1707 xw_1708 xw_177 xh_X12_isIn rfl ⟨Nat.le_of_ble_eq_true rfl, Nat.le_of_ble_eq_true rfl⟩ (Nat.le_of_ble_eq_true rfl) rfl d_X12_together_6 (fun r hr => ct_X12_isIn l G v1 0 2 h r hr) (fun r1 _ => ?_)
  refine xa_if (xa_ifne d_X12_together_9) (fun q2 => ?_) (fun q2 => ?_)
  · refine xa_step (xa_iconst d_X12_together_12 xq_i_m1) ?_
    exact xa_iret d_X12_together_13 rfl rfl
  · refine xa_step (xa_iconst d_X12_together_14 xq_i_0) ?_
    refine xa_step (xa_istore_n (ls' := [some (xR v0), some (xI v1), some (xI 0), none, none, none, none]) d_X12_together_15 (by decide) rfl) ?_
    refine xa_step (xa_iconst d_X12_together_16 xq_i_m1) ?_
    refine xa_step (xa_istore_n (ls' := [some (xR v0), some (xI v1), some (xI 0), some (xI ((-1))), none, none, none]) d_X12_together_17 (by decide) rfl) ?_
    refine xa_step (xa_iconst d_X12_together_18 xq_i_m1) ?_
    refine xa_step (xa_istore (ls' := [some (xR v0), some (xI v1), some (xI 0), some (xI ((-1))), some (xI ((-1))), none, none]) d_X12_together_19 (by decide) rfl) ?_
    refine xa_step (xa_iconst d_X12_together_21 xq_i_0) ?_
    refine xa_step (xa_istore (ls' := [some (xR v0), some (xI v1), some (xI 0), some (xI ((-1))), some (xI ((-1))), some (xI 0), none]) d_X12_together_22 (by decide) rfl) ?_
    refine xa_weak (ls' := [some (xR v0), some (xI v1), some (xI 0), some (xI ((-1))), some (xI ((-1))), some (xI 0), none]) ⟨rfl, rfl, rfl, rfl, rfl, rfl, trivial⟩ ?_
    refine xa_loop (f := fun s => f_X12_together_L24 v0 v1 h s.1 s.2.1 s.2.2.1 s.2.2.2) (L := fun s => [some (xR v0), some (xI v1), some (xI s.1), some (xI s.2.1), some (xI s.2.2.1), some (xI s.2.2.2), none]) (P := fun s => h) (X := (fun x K => xa_G l G 4 mX12_together (some (Sum.inr x)) K 91 [none, some (xI v1), some (xI x.1), some (xI x.2.1), some (xI x.2.2), none, none] [] h)) (fun K hb hX s => g_X12_together_L24 l G v0 v1 h K (fun w0 w1 w2 w3 => hb ((w0, w1, w2, w3))) (fun w0 w1 w2 => hX ((w0, w1, w2))) s.1 s.2.1 s.2.2.1 s.2.2.2) ?_ xFU ((0, (-1), (-1), 0))
    intro e11 K hK
    refine xa_eqE hK ?_
    show xa_G l G 4 mX12_together _ _ 91 [none, some (xI v1), some (xI e11.1), some (xI e11.2.1), some (xI e11.2.2), none, none] [] h
    refine xa_step (xa_iload_n d_X12_together_91 rfl) ?_
    refine xa_step (xa_iconst d_X12_together_92 xq_i_m1) ?_
    refine xa_if (xa_icmpne d_X12_together_93) (fun q12 => ?_) (fun q12 => ?_)
    · refine xa_step (xa_iconst d_X12_together_96 xq_i_m1) ?_
      refine xa_step (xa_goto d_X12_together_97) ?_
      exact xa_iret d_X12_together_119 rfl rfl
    · refine xa_step (xa_iload_n d_X12_together_100 rfl) ?_
      refine xa_if (xa_ifne d_X12_together_101) (fun q13 => ?_) (fun q13 => ?_)
      · refine xa_step (xa_iload_n d_X12_together_104 rfl) ?_
        refine xa_step (xa_goto d_X12_together_105) ?_
        exact xa_iret d_X12_together_119 rfl rfl
      · refine xa_step (xa_iload_n d_X12_together_108 rfl) ?_
        refine xa_step (xa_iconst d_X12_together_109 xq_i_1) ?_
        refine xa_if (xa_icmpne d_X12_together_110) (fun q14 => ?_) (fun q14 => ?_)
        · refine xa_step (xa_iload d_X12_together_113 rfl) ?_
          refine xa_step (xa_goto d_X12_together_115) ?_
          exact xa_iret d_X12_together_119 rfl rfl
        · refine xa_step (xa_iload_n d_X12_together_118 rfl) ?_
          exact xa_iret d_X12_together_119 rfl rfl
theorem ct_X12_together (l : Launch) (G : xa_C) (v0 v1 : Int) (h : xa_H) (r : Int) (hr : f_X12_together v0 v1 h = some r) : xa_CT l G 4 mX12_together yX12_together [xR v0, xI v1] h (some (xI r), h) :=
  xa_met (by decide +kernel) rfl (fun q => by first | rfl | cases q) (Nat.le_of_ble_eq_true rfl) rfl (g_X12_together l G v0 v1 h) (by rw [hr]; rfl)
abbrev mX12_pointed : xa_M := (cX12_pointed, 5, (some (.int)), RX12, false)
theorem d_X12_pointed_0 : decode mX12_pointed.1 0 = .ok (.iload_n 1, 1) ∧ 0 + 1 = 1 := ⟨by decide +kernel, rfl⟩
theorem d_X12_pointed_1 : decode mX12_pointed.1 1 = .ok (.istore_n 2, 1) ∧ 1 + 1 = 2 := ⟨by decide +kernel, rfl⟩
theorem d_X12_pointed_2 : decode mX12_pointed.1 2 = .ok (.iconst 0, 1) ∧ 2 + 1 = 3 := ⟨by decide +kernel, rfl⟩
theorem d_X12_pointed_3 : decode mX12_pointed.1 3 = .ok (.istore_n 3, 1) ∧ 3 + 1 = 4 := ⟨by decide +kernel, rfl⟩
theorem d_X12_pointed_4 : decode mX12_pointed.1 4 = .ok (.iload_n 3, 1) ∧ 4 + 1 = 5 := ⟨by decide +kernel, rfl⟩
theorem d_X12_pointed_5 : decode mX12_pointed.1 5 = .ok (.aload_n 0, 1) ∧ 5 + 1 = 6 := ⟨by decide +kernel, rfl⟩
theorem d_X12_pointed_6 : decode mX12_pointed.1 6 = .ok (.invokevirtual 399, 3) ∧ 6 + 3 = 9 := ⟨by decide +kernel, rfl⟩
theorem d_X12_pointed_9 : decode mX12_pointed.1 9 = .ok (.if_icmp .ge 57, 3) ∧ 9 + 3 = 12 ∧ ((9 : Nat) : Int) + 57 = ((66 : Nat) : Int) := ⟨by decide +kernel, rfl, rfl⟩
theorem d_X12_pointed_12 : decode mX12_pointed.1 12 = .ok (.aload_n 0, 1) ∧ 12 + 1 = 13 := ⟨by decide +kernel, rfl⟩
theorem d_X12_pointed_13 : decode mX12_pointed.1 13 = .ok (.iload_n 3, 1) ∧ 13 + 1 = 14 := ⟨by decide +kernel, rfl⟩
theorem d_X12_pointed_14 : decode mX12_pointed.1 14 = .ok (.invokevirtual 491, 3) ∧ 14 + 3 = 17 := ⟨by decide +kernel, rfl⟩
theorem d_X12_pointed_17 : decode mX12_pointed.1 17 = .ok (.istore 4, 2) ∧ 17 + 2 = 19 := ⟨by decide +kernel, rfl⟩
theorem d_X12_pointed_19 : decode mX12_pointed.1 19 = .ok (.iload 4, 2) ∧ 19 + 2 = 21 := ⟨by decide +kernel, rfl⟩
theorem d_X12_pointed_21 : decode mX12_pointed.1 21 = .ok (.iconst (-1), 1) ∧ 21 + 1 = 22 := ⟨by decide +kernel, rfl⟩
theorem d_X12_pointed_22 : decode mX12_pointed.1 22 = .ok (.if_icmp .eq 38, 3) ∧ 22 + 3 = 25 ∧ ((22 : Nat) : Int) + 38 = ((60 : Nat) : Int) := ⟨by decide +kernel, rfl, rfl⟩
theorem d_X12_pointed_60 : decode mX12_pointed.1 60 = .ok (.iinc 3 1, 3) ∧ 60 + 3 = 63 := ⟨by decide +kernel, rfl⟩
theorem d_X12_pointed_63 : decode mX12_pointed.1 63 = .ok (.goto (-59), 3) ∧ ((63 : Nat) : Int) + (-59) = ((4 : Nat) : Int) := ⟨by decide +kernel, rfl⟩
theorem d_X12_pointed_25 : decode mX12_pointed.1 25 = .ok (.aload_n 0, 1) ∧ 25 + 1 = 26 := ⟨by decide +kernel, rfl⟩
theorem d_X12_pointed_26 : decode mX12_pointed.1 26 = .ok (.getfield 155, 3) ∧ 26 + 3 = 29 := ⟨by decide +kernel, rfl⟩
theorem d_X12_pointed_29 : decode mX12_pointed.1 29 = .ok (.iload 4, 2) ∧ 29 + 2 = 31 := ⟨by decide +kernel, rfl⟩
theorem d_X12_pointed_31 : decode mX12_pointed.1 31 = .ok (.iaload, 1) ∧ 31 + 1 = 32 := ⟨by decide +kernel, rfl⟩
theorem d_X12_pointed_32 : decode mX12_pointed.1 32 = .ok (.ifCond .eq 6, 3) ∧ 32 + 3 = 35 ∧ ((32 : Nat) : Int) + 6 = ((38 : Nat) : Int) := ⟨by decide +kernel, rfl, rfl⟩
theorem d_X12_pointed_38 : decode mX12_pointed.1 38 = .ok (.aload_n 0, 1) ∧ 38 + 1 = 39 := ⟨by decide +kernel, rfl⟩
theorem d_X12_pointed_39 : decode mX12_pointed.1 39 = .ok (.iload_n 1, 1) ∧ 39 + 1 = 40 := ⟨by decide +kernel, rfl⟩
theorem d_X12_pointed_40 : decode mX12_pointed.1 40 = .ok (.iload_n 3, 1) ∧ 40 + 1 = 41 := ⟨by decide +kernel, rfl⟩
theorem d_X12_pointed_41 : decode mX12_pointed.1 41 = .ok (.invokevirtual 411, 3) ∧ 41 + 3 = 44 := ⟨by decide +kernel, rfl⟩
theorem d_X12_pointed_44 : decode mX12_pointed.1 44 = .ok (.aload_n 0, 1) ∧ 44 + 1 = 45 := ⟨by decide +kernel, rfl⟩
theorem d_X12_pointed_45 : decode mX12_pointed.1 45 = .ok (.iload_n 1, 1) ∧ 45 + 1 = 46 := ⟨by decide +kernel, rfl⟩
theorem d_X12_pointed_46 : decode mX12_pointed.1 46 = .ok (.aload_n 0, 1) ∧ 46 + 1 = 47 := ⟨by decide +kernel, rfl⟩
theorem d_X12_pointed_47 : decode mX12_pointed.1 47 = .ok (.iload_n 2, 1) ∧ 47 + 1 = 48 := ⟨by decide +kernel, rfl⟩
theorem d_X12_pointed_48 : decode mX12_pointed.1 48 = .ok (.invokevirtual 405, 3) ∧ 48 + 3 = 51 := ⟨by decide +kernel, rfl⟩
theorem d_X12_pointed_51 : decode mX12_pointed.1 51 = .ok (.invokevirtual 411, 3) ∧ 51 + 3 = 54 := ⟨by decide +kernel, rfl⟩
theorem d_X12_pointed_54 : decode mX12_pointed.1 54 = .ok (.if_icmp .le 6, 3) ∧ 54 + 3 = 57 ∧ ((54 : Nat) : Int) + 6 = ((60 : Nat) : Int) := ⟨by decide +kernel, rfl, rfl⟩
theorem d_X12_pointed_57 : decode mX12_pointed.1 57 = .ok (.iload 4, 2) ∧ 57 + 2 = 59 := ⟨by decide +kernel, rfl⟩
theorem d_X12_pointed_59 : decode mX12_pointed.1 59 = .ok (.istore_n 2, 1) ∧ 59 + 1 = 60 := ⟨by decide +kernel, rfl⟩
theorem d_X12_pointed_35 : decode mX12_pointed.1 35 = .ok (.goto 25, 3) ∧ ((35 : Nat) : Int) + 25 = ((60 : Nat) : Int) := ⟨by decide +kernel, rfl⟩
set_option maxRecDepth 100000 in
set_option maxHeartbeats 4000000 in
theorem g_X12_pointed_L4 (l : Launch) (G : xa_C) (c0 c1 : Int) (h : xa_H) (K : (Int × Int) ⊕ (Int) → Option xa_O) (hb : ∀ (v2 : Int) (v3 : Int), xa_G l G 4 mX12_pointed (some (Sum.inl ((v2, v3)))) K 4 [some (xR c0), some (xI c1), some (xI v2), some (xI v3), none] [] h) (hx : ∀ (v2 : Int), xa_G l G 4 mX12_pointed (some (Sum.inr v2)) K 66 [none, none, some (xI v2), none, none] [] h) : ∀ (v2 : Int) (v3 : Int), xa_G l G 4 mX12_pointed (f_X12_pointed_L4 c0 c1 h v2 v3) K 4 [some (xR c0), some (xI c1), some (xI v2), some (xI v3), none] [] h := by
  intro v2 v3
  unfold f_X12_pointed_L4
  refine xa_step (xa_iload_n d_X12_pointed_4 rfl) ?_
  refine xa_step (xa_aload_n d_X12_pointed_5 rfl) ?_
  refine xa_callVi (as := []) (st := [xI v3]) (M' := mX12_heldMany) (d' := 2) rfl xw_1873 xw_1875 xw_115 xw_1876 xw_177 xh_X12_heldMany rfl ⟨Nat.le_of_ble_eq_true rfl, Nat.le_of_ble_eq_true rfl⟩ (Nat.le_of_ble_eq_true rfl) rfl d_X12_pointed_6 (fun r hr => ct_X12_heldMany l G c0 h r hr) (fun r1 _ => ?_)
  refine xa_if (xa_icmpge d_X12_pointed_9) (fun q2 => ?_) (fun q2 => ?_)
  · refine xa_step (xa_aload_n d_X12_pointed_12 rfl) ?_
    refine xa_step (xa_iload_n d_X12_pointed_13 rfl) ?_
    refine xa_callVi (as := [xI v3]) (st := []) (M' := mX12_holderOf) (d' := 3) rfl xw_1877 xw_1879 xw_116 xw_1880 xw_177 xh_X12_holderOf rfl ⟨Nat.le_of_ble_eq_true rfl, Nat.le_of_ble_eq_true rfl⟩ (Nat.le_of_ble_eq_true rfl) rfl d_X12_pointed_14 (fun r hr => ct_X12_holderOf l G c0 v3 h r hr) (fun r3 _ => ?_)
    refine xa_step (xa_istore (ls' := [some (xR c0), some (xI c1), some (xI v2), some (xI v3), some (xI r3)]) d_X12_pointed_17 (by decide) rfl) ?_
    refine xa_step (xa_iload d_X12_pointed_19 rfl) ?_
    refine xa_step (xa_iconst d_X12_pointed_21 xq_i_m1) ?_
    refine xa_if (xa_icmpeq d_X12_pointed_22) (fun q4 => ?_) (fun q4 => ?_)
    · refine xa_step (xa_iinc (ls' := [some (xR c0), some (xI c1), some (xI v2), some (xI (w32 (v3 + 1))), some (xI r3)]) d_X12_pointed_60 xq_i_1 rfl (by decide) rfl) ?_
      refine xa_step (xa_goto d_X12_pointed_63) ?_
      exact xa_weak (ls' := [some (xR c0), some (xI c1), some (xI v2), some (xI (w32 (v3 + 1))), none]) ⟨rfl, rfl, rfl, rfl, trivial⟩ (hb v2 (w32 (v3 + 1)))
    · refine xa_step (xa_aload_n d_X12_pointed_25 rfl) ?_
      refine xa_getf xR xc_12 (by decide) (fun _ => rfl) xw_1372 rfl d_X12_pointed_26 (fun x5 _ => ?_)
      refine xa_step (xa_iload d_X12_pointed_29 rfl) ?_
      refine xa_iaload d_X12_pointed_31 (fun x6 _ => ?_)
      refine xa_if (xa_ifeq d_X12_pointed_32) (fun q7 => ?_) (fun q7 => ?_)
      · refine xa_step (xa_aload_n d_X12_pointed_38 rfl) ?_
        refine xa_step (xa_iload_n d_X12_pointed_39 rfl) ?_
        refine xa_step (xa_iload_n d_X12_pointed_40 rfl) ?_
        refine xa_callVi (as := [xI c1, xI v3]) (st := []) (M' := mX12_valueOf) (d' := 2) rfl xw_1856 xw_1858 xw_113 xw_1859 xw_177 xh_X12_valueOf rfl ⟨Nat.le_of_ble_eq_true rfl, Nat.le_of_ble_eq_true rfl⟩ (Nat.le_of_ble_eq_true rfl) rfl d_X12_pointed_41 (fun r hr => ct_X12_valueOf l G c0 c1 v3 h r hr) (fun r8 _ => ?_)
        refine xa_step (xa_aload_n d_X12_pointed_44 rfl) ?_
        refine xa_step (xa_iload_n d_X12_pointed_45 rfl) ?_
        refine xa_step (xa_aload_n d_X12_pointed_46 rfl) ?_
        refine xa_step (xa_iload_n d_X12_pointed_47 rfl) ?_
        refine xa_callVi (as := [xI v2]) (st := [xI c1, xR c0, xI r8]) (M' := mX12_hadBy) (d' := 2) rfl xw_1844 xw_1846 xw_110 xw_1847 xw_177 xh_X12_hadBy rfl ⟨Nat.le_of_ble_eq_true rfl, Nat.le_of_ble_eq_true rfl⟩ (Nat.le_of_ble_eq_true rfl) rfl d_X12_pointed_48 (fun r hr => ct_X12_hadBy l G c0 v2 h r hr) (fun r9 _ => ?_)
        refine xa_callVi (as := [xI c1, xI r9]) (st := [xI r8]) (M' := mX12_valueOf) (d' := 2) rfl xw_1856 xw_1858 xw_113 xw_1859 xw_177 xh_X12_valueOf rfl ⟨Nat.le_of_ble_eq_true rfl, Nat.le_of_ble_eq_true rfl⟩ (Nat.le_of_ble_eq_true rfl) rfl d_X12_pointed_51 (fun r hr => ct_X12_valueOf l G c0 c1 r9 h r hr) (fun r10 _ => ?_)
        refine xa_if (xa_icmple d_X12_pointed_54) (fun q11 => ?_) (fun q11 => ?_)
        · refine xa_step (xa_iload d_X12_pointed_57 rfl) ?_
          refine xa_step (xa_istore_n (ls' := [some (xR c0), some (xI c1), some (xI r3), some (xI v3), some (xI r3)]) d_X12_pointed_59 (by decide) rfl) ?_
          refine xa_step (xa_iinc (ls' := [some (xR c0), some (xI c1), some (xI r3), some (xI (w32 (v3 + 1))), some (xI r3)]) d_X12_pointed_60 xq_i_1 rfl (by decide) rfl) ?_
          refine xa_step (xa_goto d_X12_pointed_63) ?_
          exact xa_weak (ls' := [some (xR c0), some (xI c1), some (xI r3), some (xI (w32 (v3 + 1))), none]) ⟨rfl, rfl, rfl, rfl, trivial⟩ (hb r3 (w32 (v3 + 1)))
        · refine xa_step (xa_iinc (ls' := [some (xR c0), some (xI c1), some (xI v2), some (xI (w32 (v3 + 1))), some (xI r3)]) d_X12_pointed_60 xq_i_1 rfl (by decide) rfl) ?_
          refine xa_step (xa_goto d_X12_pointed_63) ?_
          exact xa_weak (ls' := [some (xR c0), some (xI c1), some (xI v2), some (xI (w32 (v3 + 1))), none]) ⟨rfl, rfl, rfl, rfl, trivial⟩ (hb v2 (w32 (v3 + 1)))
      · refine xa_step (xa_goto d_X12_pointed_35) ?_
        refine xa_step (xa_iinc (ls' := [some (xR c0), some (xI c1), some (xI v2), some (xI (w32 (v3 + 1))), some (xI r3)]) d_X12_pointed_60 xq_i_1 rfl (by decide) rfl) ?_
        refine xa_step (xa_goto d_X12_pointed_63) ?_
        exact xa_weak (ls' := [some (xR c0), some (xI c1), some (xI v2), some (xI (w32 (v3 + 1))), none]) ⟨rfl, rfl, rfl, rfl, trivial⟩ (hb v2 (w32 (v3 + 1)))
  · exact xa_weak (ls' := [none, none, some (xI v2), none, none]) ⟨rfl, trivial⟩ (hx v2)
theorem d_X12_pointed_66 : decode mX12_pointed.1 66 = .ok (.iload_n 2, 1) ∧ 66 + 1 = 67 := ⟨by decide +kernel, rfl⟩
theorem d_X12_pointed_67 : decode mX12_pointed.1 67 = .ok (.ireturn, 1) := by decide +kernel
set_option maxRecDepth 100000 in
set_option maxHeartbeats 4000000 in
theorem g_X12_pointed (l : Launch) (G : xa_C) (v0 v1 : Int) (h : xa_H) : xa_G l G 4 mX12_pointed (f_X12_pointed v0 v1 h) (fun r => some (some (xI r), h) : Int → Option xa_O) 0 [some (xR v0), some (xI v1), none, none, none] [] h := by
  unfold f_X12_pointed
  refine xa_step (xa_iload_n d_X12_pointed_0 rfl) ?_
  refine xa_step (xa_istore_n (ls' := [some (xR v0), some (xI v1), some (xI v1), none, none]) d_X12_pointed_1 (by decide) rfl) ?_
  refine xa_step (xa_iconst d_X12_pointed_2 xq_i_0) ?_
  refine xa_step (xa_istore_n (ls' := [some (xR v0), some (xI v1), some (xI v1), some (xI 0), none]) d_X12_pointed_3 (by decide) rfl) ?_
  refine xa_weak (ls' := [some (xR v0), some (xI v1), some (xI v1), some (xI 0), none]) ⟨rfl, rfl, rfl, rfl, trivial⟩ ?_
  refine xa_loop (f := fun s => f_X12_pointed_L4 v0 v1 h s.1 s.2) (L := fun s => [some (xR v0), some (xI v1), some (xI s.1), some (xI s.2), none]) (P := fun s => h) (X := (fun x K => xa_G l G 4 mX12_pointed (some (Sum.inr x)) K 66 [none, none, some (xI x), none, none] [] h)) (fun K hb hX s => g_X12_pointed_L4 l G v0 v1 h K (fun w0 w1 => hb ((w0, w1))) (fun w0 => hX w0) s.1 s.2) ?_ xFU ((v1, 0))
  intro e12 K hK
  refine xa_eqE hK ?_
  show xa_G l G 4 mX12_pointed _ _ 66 [none, none, some (xI e12), none, none] [] h
  refine xa_step (xa_iload_n d_X12_pointed_66 rfl) ?_
  exact xa_iret d_X12_pointed_67 rfl rfl
theorem ct_X12_pointed (l : Launch) (G : xa_C) (v0 v1 : Int) (h : xa_H) (r : Int) (hr : f_X12_pointed v0 v1 h = some r) : xa_CT l G 4 mX12_pointed yX12_pointed [xR v0, xI v1] h (some (xI r), h) :=
  xa_met (by decide +kernel) rfl (fun q => by first | rfl | cases q) (Nat.le_of_ble_eq_true rfl) rfl (g_X12_pointed l G v0 v1 h) (by rw [hr]; rfl)
abbrev mX12_roundOf : xa_M := (cX12_roundOf, 4, (some (.int)), RX12, false)
theorem d_X12_roundOf_0 : decode mX12_roundOf.1 0 = .ok (.aload_n 0, 1) ∧ 0 + 1 = 1 := ⟨by decide +kernel, rfl⟩
theorem d_X12_roundOf_1 : decode mX12_roundOf.1 1 = .ok (.getfield 152, 3) ∧ 1 + 3 = 4 := ⟨by decide +kernel, rfl⟩
theorem d_X12_roundOf_4 : decode mX12_roundOf.1 4 = .ok (.iload_n 1, 1) ∧ 4 + 1 = 5 := ⟨by decide +kernel, rfl⟩
theorem d_X12_roundOf_5 : decode mX12_roundOf.1 5 = .ok (.iaload, 1) ∧ 5 + 1 = 6 := ⟨by decide +kernel, rfl⟩
theorem d_X12_roundOf_6 : decode mX12_roundOf.1 6 = .ok (.istore_n 2, 1) ∧ 6 + 1 = 7 := ⟨by decide +kernel, rfl⟩
theorem d_X12_roundOf_7 : decode mX12_roundOf.1 7 = .ok (.iconst 1, 1) ∧ 7 + 1 = 8 := ⟨by decide +kernel, rfl⟩
theorem d_X12_roundOf_8 : decode mX12_roundOf.1 8 = .ok (.istore_n 3, 1) ∧ 8 + 1 = 9 := ⟨by decide +kernel, rfl⟩
theorem d_X12_roundOf_9 : decode mX12_roundOf.1 9 = .ok (.iload_n 2, 1) ∧ 9 + 1 = 10 := ⟨by decide +kernel, rfl⟩
theorem d_X12_roundOf_10 : decode mX12_roundOf.1 10 = .ok (.iload_n 1, 1) ∧ 10 + 1 = 11 := ⟨by decide +kernel, rfl⟩
theorem d_X12_roundOf_11 : decode mX12_roundOf.1 11 = .ok (.if_icmp .eq 22, 3) ∧ 11 + 3 = 14 ∧ ((11 : Nat) : Int) + 22 = ((33 : Nat) : Int) := ⟨by decide +kernel, rfl, rfl⟩
theorem d_X12_roundOf_14 : decode mX12_roundOf.1 14 = .ok (.iload_n 3, 1) ∧ 14 + 1 = 15 := ⟨by decide +kernel, rfl⟩
theorem d_X12_roundOf_15 : decode mX12_roundOf.1 15 = .ok (.bipush 6, 2) ∧ 15 + 2 = 17 := ⟨by decide +kernel, rfl⟩
theorem d_X12_roundOf_17 : decode mX12_roundOf.1 17 = .ok (.if_icmp .gt 16, 3) ∧ 17 + 3 = 20 ∧ ((17 : Nat) : Int) + 16 = ((33 : Nat) : Int) := ⟨by decide +kernel, rfl, rfl⟩
theorem d_X12_roundOf_20 : decode mX12_roundOf.1 20 = .ok (.aload_n 0, 1) ∧ 20 + 1 = 21 := ⟨by decide +kernel, rfl⟩
theorem d_X12_roundOf_21 : decode mX12_roundOf.1 21 = .ok (.getfield 152, 3) ∧ 21 + 3 = 24 := ⟨by decide +kernel, rfl⟩
theorem d_X12_roundOf_24 : decode mX12_roundOf.1 24 = .ok (.iload_n 2, 1) ∧ 24 + 1 = 25 := ⟨by decide +kernel, rfl⟩
theorem d_X12_roundOf_25 : decode mX12_roundOf.1 25 = .ok (.iaload, 1) ∧ 25 + 1 = 26 := ⟨by decide +kernel, rfl⟩
theorem d_X12_roundOf_26 : decode mX12_roundOf.1 26 = .ok (.istore_n 2, 1) ∧ 26 + 1 = 27 := ⟨by decide +kernel, rfl⟩
theorem d_X12_roundOf_27 : decode mX12_roundOf.1 27 = .ok (.iinc 3 1, 3) ∧ 27 + 3 = 30 := ⟨by decide +kernel, rfl⟩
theorem d_X12_roundOf_30 : decode mX12_roundOf.1 30 = .ok (.goto (-21), 3) ∧ ((30 : Nat) : Int) + (-21) = ((9 : Nat) : Int) := ⟨by decide +kernel, rfl⟩
set_option maxRecDepth 100000 in
set_option maxHeartbeats 4000000 in
theorem g_X12_roundOf_L9 (l : Launch) (G : xa_C) (c0 c1 : Int) (h : xa_H) (K : (Int × Int) ⊕ (Int × Int) → Option xa_O) (hb : ∀ (v2 : Int) (v3 : Int), xa_G l G 2 mX12_roundOf (some (Sum.inl ((v2, v3)))) K 9 [some (xR c0), some (xI c1), some (xI v2), some (xI v3)] [] h) (hx : ∀ (v2 : Int) (v3 : Int), xa_G l G 2 mX12_roundOf (some (Sum.inr ((v2, v3)))) K 33 [none, some (xI c1), some (xI v2), some (xI v3)] [] h) : ∀ (v2 : Int) (v3 : Int), xa_G l G 2 mX12_roundOf (f_X12_roundOf_L9 c0 c1 h v2 v3) K 9 [some (xR c0), some (xI c1), some (xI v2), some (xI v3)] [] h := by
  intro v2 v3
  unfold f_X12_roundOf_L9
  refine xa_step (xa_iload_n d_X12_roundOf_9 rfl) ?_
  refine xa_step (xa_iload_n d_X12_roundOf_10 rfl) ?_
  refine xa_if (xa_icmpeq d_X12_roundOf_11) (fun q3 => ?_) (fun q3 => ?_)
  · exact xa_weak (ls' := [none, some (xI c1), some (xI v2), some (xI v3)]) ⟨rfl, rfl, rfl, trivial⟩ (hx v2 v3)
  · refine xa_step (xa_iload_n d_X12_roundOf_14 rfl) ?_
    refine xa_step (xa_bipush d_X12_roundOf_15 xq_b_6) ?_
    refine xa_if (xa_icmpgt d_X12_roundOf_17) (fun q4 => ?_) (fun q4 => ?_)
    · exact xa_weak (ls' := [none, some (xI c1), some (xI v2), some (xI v3)]) ⟨rfl, rfl, rfl, trivial⟩ (hx v2 v3)
    · refine xa_step (xa_aload_n d_X12_roundOf_20 rfl) ?_
      refine xa_getf xR xc_12 (by decide) (fun _ => rfl) xw_1371 rfl d_X12_roundOf_21 (fun x5 _ => ?_)
      refine xa_step (xa_iload_n d_X12_roundOf_24 rfl) ?_
      refine xa_iaload d_X12_roundOf_25 (fun x6 _ => ?_)
      refine xa_step (xa_istore_n (ls' := [some (xR c0), some (xI c1), some (xI x6), some (xI v3)]) d_X12_roundOf_26 (by decide) rfl) ?_
      refine xa_step (xa_iinc (ls' := [some (xR c0), some (xI c1), some (xI x6), some (xI (w32 (v3 + 1)))]) d_X12_roundOf_27 xq_i_1 rfl (by decide) rfl) ?_
      refine xa_step (xa_goto d_X12_roundOf_30) ?_
      exact xa_weak (ls' := [some (xR c0), some (xI c1), some (xI x6), some (xI (w32 (v3 + 1)))]) ⟨rfl, rfl, rfl, rfl, trivial⟩ (hb x6 (w32 (v3 + 1)))
theorem d_X12_roundOf_33 : decode mX12_roundOf.1 33 = .ok (.iload_n 2, 1) ∧ 33 + 1 = 34 := ⟨by decide +kernel, rfl⟩
theorem d_X12_roundOf_34 : decode mX12_roundOf.1 34 = .ok (.iload_n 1, 1) ∧ 34 + 1 = 35 := ⟨by decide +kernel, rfl⟩
theorem d_X12_roundOf_35 : decode mX12_roundOf.1 35 = .ok (.if_icmp .ne 7, 3) ∧ 35 + 3 = 38 ∧ ((35 : Nat) : Int) + 7 = ((42 : Nat) : Int) := ⟨by decide +kernel, rfl, rfl⟩
theorem d_X12_roundOf_38 : decode mX12_roundOf.1 38 = .ok (.iload_n 3, 1) ∧ 38 + 1 = 39 := ⟨by decide +kernel, rfl⟩
theorem d_X12_roundOf_39 : decode mX12_roundOf.1 39 = .ok (.goto 4, 3) ∧ ((39 : Nat) : Int) + 4 = ((43 : Nat) : Int) := ⟨by decide +kernel, rfl⟩
theorem d_X12_roundOf_43 : decode mX12_roundOf.1 43 = .ok (.ireturn, 1) := by decide +kernel
theorem d_X12_roundOf_42 : decode mX12_roundOf.1 42 = .ok (.iconst 0, 1) ∧ 42 + 1 = 43 := ⟨by decide +kernel, rfl⟩
set_option maxRecDepth 100000 in
set_option maxHeartbeats 4000000 in
theorem g_X12_roundOf_J33 (l : Launch) (G : xa_C) (h : xa_H) : ∀ (v1 v2 v3 : Int) , xa_G l G 2 mX12_roundOf (f_X12_roundOf_J33 v1 v2 v3 h) (fun r => some (some (xI r), h) : Int → Option xa_O) 33 [none, some (xI v1), some (xI v2), some (xI v3)] [] h := by
  intro v1 v2 v3
  unfold f_X12_roundOf_J33
  refine xa_step (xa_iload_n d_X12_roundOf_33 rfl) ?_
  refine xa_step (xa_iload_n d_X12_roundOf_34 rfl) ?_
  refine xa_if (xa_icmpne d_X12_roundOf_35) (fun q8 => ?_) (fun q8 => ?_)
  · refine xa_step (xa_iload_n d_X12_roundOf_38 rfl) ?_
    refine xa_step (xa_goto d_X12_roundOf_39) ?_
    exact xa_iret d_X12_roundOf_43 rfl rfl
  · refine xa_step (xa_iconst d_X12_roundOf_42 xq_i_0) ?_
    exact xa_iret d_X12_roundOf_43 rfl rfl
set_option maxRecDepth 100000 in
set_option maxHeartbeats 4000000 in
theorem g_X12_roundOf (l : Launch) (G : xa_C) (v0 v1 : Int) (h : xa_H) : xa_G l G 2 mX12_roundOf (f_X12_roundOf v0 v1 h) (fun r => some (some (xI r), h) : Int → Option xa_O) 0 [some (xR v0), some (xI v1), none, none] [] h := by
  unfold f_X12_roundOf
  refine xa_step (xa_aload_n d_X12_roundOf_0 rfl) ?_
  refine xa_getf xR xc_12 (by decide) (fun _ => rfl) xw_1371 rfl d_X12_roundOf_1 (fun x1 _ => ?_)
  refine xa_step (xa_iload_n d_X12_roundOf_4 rfl) ?_
  refine xa_iaload d_X12_roundOf_5 (fun x2 _ => ?_)
  refine xa_step (xa_istore_n (ls' := [some (xR v0), some (xI v1), some (xI x2), none]) d_X12_roundOf_6 (by decide) rfl) ?_
  refine xa_step (xa_iconst d_X12_roundOf_7 xq_i_1) ?_
  refine xa_step (xa_istore_n (ls' := [some (xR v0), some (xI v1), some (xI x2), some (xI 1)]) d_X12_roundOf_8 (by decide) rfl) ?_
  refine xa_weak (ls' := [some (xR v0), some (xI v1), some (xI x2), some (xI 1)]) ⟨rfl, rfl, rfl, rfl, trivial⟩ ?_
  refine xa_loop (f := fun s => f_X12_roundOf_L9 v0 v1 h s.1 s.2) (L := fun s => [some (xR v0), some (xI v1), some (xI s.1), some (xI s.2)]) (P := fun s => h) (X := (fun x K => xa_G l G 2 mX12_roundOf (some (Sum.inr x)) K 33 [none, some (xI v1), some (xI x.1), some (xI x.2)] [] h)) (fun K hb hX s => g_X12_roundOf_L9 l G v0 v1 h K (fun w0 w1 => hb ((w0, w1))) (fun w0 w1 => hX ((w0, w1))) s.1 s.2) ?_ xFU ((x2, 1))
  intro e7 K hK
  refine xa_eqE hK ?_
  show xa_G l G 2 mX12_roundOf _ _ 33 [none, some (xI v1), some (xI e7.1), some (xI e7.2)] [] h
  exact xa_weak (ls' := [none, some (xI v1), some (xI e7.1), some (xI e7.2)]) ⟨rfl, rfl, rfl, trivial⟩ (g_X12_roundOf_J33 l G h v1 e7.1 e7.2)
theorem ct_X12_roundOf (l : Launch) (G : xa_C) (v0 v1 : Int) (h : xa_H) (r : Int) (hr : f_X12_roundOf v0 v1 h = some r) : xa_CT l G 2 mX12_roundOf yX12_roundOf [xR v0, xI v1] h (some (xI r), h) :=
  xa_met (by decide +kernel) rfl (fun q => by first | rfl | cases q) (Nat.le_of_ble_eq_true rfl) rfl (g_X12_roundOf l G v0 v1 h) (by rw [hr]; rfl)
abbrev mX12_trades : xa_M := (cX12_trades, 4, none, RX12, false)
theorem d_X12_trades_0 : decode mX12_trades.1 0 = .ok (.iconst 0, 1) ∧ 0 + 1 = 1 := ⟨by decide +kernel, rfl⟩
theorem d_X12_trades_1 : decode mX12_trades.1 1 = .ok (.istore_n 1, 1) ∧ 1 + 1 = 2 := ⟨by decide +kernel, rfl⟩
theorem d_X12_trades_2 : decode mX12_trades.1 2 = .ok (.iload_n 1, 1) ∧ 2 + 1 = 3 := ⟨by decide +kernel, rfl⟩
theorem d_X12_trades_3 : decode mX12_trades.1 3 = .ok (.bipush 6, 2) ∧ 3 + 2 = 5 := ⟨by decide +kernel, rfl⟩
theorem d_X12_trades_5 : decode mX12_trades.1 5 = .ok (.if_icmp .ge 16, 3) ∧ 5 + 3 = 8 ∧ ((5 : Nat) : Int) + 16 = ((21 : Nat) : Int) := ⟨by decide +kernel, rfl, rfl⟩
theorem d_X12_trades_8 : decode mX12_trades.1 8 = .ok (.aload_n 0, 1) ∧ 8 + 1 = 9 := ⟨by decide +kernel, rfl⟩
theorem d_X12_trades_9 : decode mX12_trades.1 9 = .ok (.getfield 155, 3) ∧ 9 + 3 = 12 := ⟨by decide +kernel, rfl⟩
theorem d_X12_trades_12 : decode mX12_trades.1 12 = .ok (.iload_n 1, 1) ∧ 12 + 1 = 13 := ⟨by decide +kernel, rfl⟩
theorem d_X12_trades_13 : decode mX12_trades.1 13 = .ok (.iconst 0, 1) ∧ 13 + 1 = 14 := ⟨by decide +kernel, rfl⟩
theorem d_X12_trades_14 : decode mX12_trades.1 14 = .ok (.iastore, 1) ∧ 14 + 1 = 15 := ⟨by decide +kernel, rfl⟩
theorem d_X12_trades_15 : decode mX12_trades.1 15 = .ok (.iinc 1 1, 3) ∧ 15 + 3 = 18 := ⟨by decide +kernel, rfl⟩
theorem d_X12_trades_18 : decode mX12_trades.1 18 = .ok (.goto (-16), 3) ∧ ((18 : Nat) : Int) + (-16) = ((2 : Nat) : Int) := ⟨by decide +kernel, rfl⟩
set_option maxRecDepth 100000 in
set_option maxHeartbeats 4000000 in
theorem g_X12_trades_L2 (l : Launch) (G : xa_C) (c0 : Int) (K : (Int × xa_H) ⊕ (xa_H) → Option xa_O) (hb : ∀ (v1 : Int) (h : xa_H), xa_G l G 5 mX12_trades (some (Sum.inl ((v1, h)))) K 2 [some (xR c0), some (xI v1), none, none] [] h) (hx : ∀ (h : xa_H), xa_G l G 5 mX12_trades (some (Sum.inr h)) K 21 [some (xR c0), none, none, none] [] h) : ∀ (v1 : Int) (h : xa_H), xa_G l G 5 mX12_trades (f_X12_trades_L2 c0 v1 h) K 2 [some (xR c0), some (xI v1), none, none] [] h := by
  intro v1 h
  unfold f_X12_trades_L2
  refine xa_step (xa_iload_n d_X12_trades_2 rfl) ?_
  refine xa_step (xa_bipush d_X12_trades_3 xq_b_6) ?_
  refine xa_if (xa_icmpge d_X12_trades_5) (fun q1 => ?_) (fun q1 => ?_)
  · refine xa_step (xa_aload_n d_X12_trades_8 rfl) ?_
    refine xa_getf xR xc_12 (by decide) (fun _ => rfl) xw_1372 rfl d_X12_trades_9 (fun x2 _ => ?_)
    refine xa_step (xa_iload_n d_X12_trades_12 rfl) ?_
    refine xa_step (xa_iconst d_X12_trades_13 xq_i_0) ?_
    refine xa_iastore2 d_X12_trades_14 (fun h3 _ => ?_)
    refine xa_step (xa_iinc (ls' := [some (xR c0), some (xI (w32 (v1 + 1))), none, none]) d_X12_trades_15 xq_i_1 rfl (by decide) rfl) ?_
    refine xa_step (xa_goto d_X12_trades_18) ?_
    exact xa_weak (ls' := [some (xR c0), some (xI (w32 (v1 + 1))), none, none]) ⟨rfl, rfl, trivial⟩ (hb (w32 (v1 + 1)) h3)
  · exact xa_weak (ls' := [some (xR c0), none, none, none]) ⟨rfl, trivial⟩ (hx h)
theorem d_X12_trades_21 : decode mX12_trades.1 21 = .ok (.aload_n 0, 1) ∧ 21 + 1 = 22 := ⟨by decide +kernel, rfl⟩
theorem d_X12_trades_22 : decode mX12_trades.1 22 = .ok (.invokevirtual 402, 3) ∧ 22 + 3 = 25 := ⟨by decide +kernel, rfl⟩
theorem d_X12_trades_25 : decode mX12_trades.1 25 = .ok (.istore_n 1, 1) ∧ 25 + 1 = 26 := ⟨by decide +kernel, rfl⟩
theorem d_X12_trades_26 : decode mX12_trades.1 26 = .ok (.iconst 1, 1) ∧ 26 + 1 = 27 := ⟨by decide +kernel, rfl⟩
theorem d_X12_trades_27 : decode mX12_trades.1 27 = .ok (.istore_n 2, 1) ∧ 27 + 1 = 28 := ⟨by decide +kernel, rfl⟩
theorem d_X12_trades_28 : decode mX12_trades.1 28 = .ok (.iload_n 1, 1) ∧ 28 + 1 = 29 := ⟨by decide +kernel, rfl⟩
theorem d_X12_trades_29 : decode mX12_trades.1 29 = .ok (.ifCond .le 128, 3) ∧ 29 + 3 = 32 ∧ ((29 : Nat) : Int) + 128 = ((157 : Nat) : Int) := ⟨by decide +kernel, rfl, rfl⟩
theorem d_X12_trades_32 : decode mX12_trades.1 32 = .ok (.iconst 0, 1) ∧ 32 + 1 = 33 := ⟨by decide +kernel, rfl⟩
theorem d_X12_trades_33 : decode mX12_trades.1 33 = .ok (.istore_n 3, 1) ∧ 33 + 1 = 34 := ⟨by decide +kernel, rfl⟩
theorem d_X12_trades_34 : decode mX12_trades.1 34 = .ok (.iload_n 3, 1) ∧ 34 + 1 = 35 := ⟨by decide +kernel, rfl⟩
theorem d_X12_trades_35 : decode mX12_trades.1 35 = .ok (.aload_n 0, 1) ∧ 35 + 1 = 36 := ⟨by decide +kernel, rfl⟩
theorem d_X12_trades_36 : decode mX12_trades.1 36 = .ok (.invokevirtual 402, 3) ∧ 36 + 3 = 39 := ⟨by decide +kernel, rfl⟩
theorem d_X12_trades_39 : decode mX12_trades.1 39 = .ok (.if_icmp .ge 29, 3) ∧ 39 + 3 = 42 ∧ ((39 : Nat) : Int) + 29 = ((68 : Nat) : Int) := ⟨by decide +kernel, rfl, rfl⟩
theorem d_X12_trades_42 : decode mX12_trades.1 42 = .ok (.aload_n 0, 1) ∧ 42 + 1 = 43 := ⟨by decide +kernel, rfl⟩
theorem d_X12_trades_43 : decode mX12_trades.1 43 = .ok (.getfield 155, 3) ∧ 43 + 3 = 46 := ⟨by decide +kernel, rfl⟩
theorem d_X12_trades_46 : decode mX12_trades.1 46 = .ok (.iload_n 3, 1) ∧ 46 + 1 = 47 := ⟨by decide +kernel, rfl⟩
theorem d_X12_trades_47 : decode mX12_trades.1 47 = .ok (.iaload, 1) ∧ 47 + 1 = 48 := ⟨by decide +kernel, rfl⟩
theorem d_X12_trades_48 : decode mX12_trades.1 48 = .ok (.ifCond .ne 14, 3) ∧ 48 + 3 = 51 ∧ ((48 : Nat) : Int) + 14 = ((62 : Nat) : Int) := ⟨by decide +kernel, rfl, rfl⟩
theorem d_X12_trades_51 : decode mX12_trades.1 51 = .ok (.aload_n 0, 1) ∧ 51 + 1 = 52 := ⟨by decide +kernel, rfl⟩
theorem d_X12_trades_52 : decode mX12_trades.1 52 = .ok (.getfield 152, 3) ∧ 52 + 3 = 55 := ⟨by decide +kernel, rfl⟩
theorem d_X12_trades_55 : decode mX12_trades.1 55 = .ok (.iload_n 3, 1) ∧ 55 + 1 = 56 := ⟨by decide +kernel, rfl⟩
theorem d_X12_trades_56 : decode mX12_trades.1 56 = .ok (.aload_n 0, 1) ∧ 56 + 1 = 57 := ⟨by decide +kernel, rfl⟩
theorem d_X12_trades_57 : decode mX12_trades.1 57 = .ok (.iload_n 3, 1) ∧ 57 + 1 = 58 := ⟨by decide +kernel, rfl⟩
theorem d_X12_trades_58 : decode mX12_trades.1 58 = .ok (.invokevirtual 548, 3) ∧ 58 + 3 = 61 := ⟨by decide +kernel, rfl⟩
theorem d_X12_trades_61 : decode mX12_trades.1 61 = .ok (.iastore, 1) ∧ 61 + 1 = 62 := ⟨by decide +kernel, rfl⟩
theorem d_X12_trades_62 : decode mX12_trades.1 62 = .ok (.iinc 3 1, 3) ∧ 62 + 3 = 65 := ⟨by decide +kernel, rfl⟩
theorem d_X12_trades_65 : decode mX12_trades.1 65 = .ok (.goto (-31), 3) ∧ ((65 : Nat) : Int) + (-31) = ((34 : Nat) : Int) := ⟨by decide +kernel, rfl⟩
set_option maxRecDepth 100000 in
set_option maxHeartbeats 4000000 in
theorem g_X12_trades_L34 (l : Launch) (G : xa_C) (c0 c1 c2 : Int) (K : (Int × xa_H) ⊕ (xa_H) → Option xa_O) (hb : ∀ (v3 : Int) (h : xa_H), xa_G l G 5 mX12_trades (some (Sum.inl ((v3, h)))) K 34 [some (xR c0), some (xI c1), some (xI c2), some (xI v3)] [] h) (hx : ∀ (h : xa_H), xa_G l G 5 mX12_trades (some (Sum.inr h)) K 68 [some (xR c0), some (xI c1), some (xI c2), none] [] h) : ∀ (v3 : Int) (h : xa_H), xa_G l G 5 mX12_trades (f_X12_trades_L34 c0 c1 c2 v3 h) K 34 [some (xR c0), some (xI c1), some (xI c2), some (xI v3)] [] h := by
  intro v3 h
  unfold f_X12_trades_L34
  refine xa_step (xa_iload_n d_X12_trades_34 rfl) ?_
  refine xa_step (xa_aload_n d_X12_trades_35 rfl) ?_
  refine xa_callVi (as := []) (st := [xI v3]) (M' := mX12_holderMany) (d' := 2) rfl xw_1836 xw_1838 xw_108 xw_1839 xw_177 xh_X12_holderMany rfl ⟨Nat.le_of_ble_eq_true rfl, Nat.le_of_ble_eq_true rfl⟩ (Nat.le_of_ble_eq_true rfl) rfl d_X12_trades_36 (fun r hr => ct_X12_holderMany l G c0 h r hr) (fun r7 _ => ?_)
  refine xa_if (xa_icmpge d_X12_trades_39) (fun q8 => ?_) (fun q8 => ?_)
  · refine xa_step (xa_aload_n d_X12_trades_42 rfl) ?_
    refine xa_getf xR xc_12 (by decide) (fun _ => rfl) xw_1372 rfl d_X12_trades_43 (fun x9 _ => ?_)
    refine xa_step (xa_iload_n d_X12_trades_46 rfl) ?_
    refine xa_iaload d_X12_trades_47 (fun x10 _ => ?_)
    refine xa_if (xa_ifne d_X12_trades_48) (fun q11 => ?_) (fun q11 => ?_)
    · refine xa_step (xa_aload_n d_X12_trades_51 rfl) ?_
      refine xa_getf xR xc_12 (by decide) (fun _ => rfl) xw_1371 rfl d_X12_trades_52 (fun x12 _ => ?_)
      refine xa_step (xa_iload_n d_X12_trades_55 rfl) ?_
      refine xa_step (xa_aload_n d_X12_trades_56 rfl) ?_
      refine xa_step (xa_iload_n d_X12_trades_57 rfl) ?_
      refine xa_callVi (as := [xI v3]) (st := [xI v3, xR x12]) (M' := mX12_pointed) (d' := 4) rfl xw_2036 xw_2038 xw_142 xw_2039 xw_177 xh_X12_pointed rfl ⟨Nat.le_of_ble_eq_true rfl, Nat.le_of_ble_eq_true rfl⟩ (Nat.le_of_ble_eq_true rfl) rfl d_X12_trades_58 (fun r hr => ct_X12_pointed l G c0 v3 h r hr) (fun r13 _ => ?_)
      refine xa_iastore2 d_X12_trades_61 (fun h14 _ => ?_)
      refine xa_step (xa_iinc (ls' := [some (xR c0), some (xI c1), some (xI c2), some (xI (w32 (v3 + 1)))]) d_X12_trades_62 xq_i_1 rfl (by decide) rfl) ?_
      refine xa_step (xa_goto d_X12_trades_65) ?_
      exact xa_weak (ls' := [some (xR c0), some (xI c1), some (xI c2), some (xI (w32 (v3 + 1)))]) ⟨rfl, rfl, rfl, rfl, trivial⟩ (hb (w32 (v3 + 1)) h14)
    · refine xa_step (xa_iinc (ls' := [some (xR c0), some (xI c1), some (xI c2), some (xI (w32 (v3 + 1)))]) d_X12_trades_62 xq_i_1 rfl (by decide) rfl) ?_
      refine xa_step (xa_goto d_X12_trades_65) ?_
      exact xa_weak (ls' := [some (xR c0), some (xI c1), some (xI c2), some (xI (w32 (v3 + 1)))]) ⟨rfl, rfl, rfl, rfl, trivial⟩ (hb (w32 (v3 + 1)) h)
  · exact xa_weak (ls' := [some (xR c0), some (xI c1), some (xI c2), none]) ⟨rfl, rfl, rfl, trivial⟩ (hx h)
theorem d_X12_trades_68 : decode mX12_trades.1 68 = .ok (.iconst 0, 1) ∧ 68 + 1 = 69 := ⟨by decide +kernel, rfl⟩
theorem d_X12_trades_69 : decode mX12_trades.1 69 = .ok (.istore_n 3, 1) ∧ 69 + 1 = 70 := ⟨by decide +kernel, rfl⟩
theorem d_X12_trades_70 : decode mX12_trades.1 70 = .ok (.iload_n 3, 1) ∧ 70 + 1 = 71 := ⟨by decide +kernel, rfl⟩
theorem d_X12_trades_71 : decode mX12_trades.1 71 = .ok (.aload_n 0, 1) ∧ 71 + 1 = 72 := ⟨by decide +kernel, rfl⟩
theorem d_X12_trades_72 : decode mX12_trades.1 72 = .ok (.invokevirtual 402, 3) ∧ 72 + 3 = 75 := ⟨by decide +kernel, rfl⟩
theorem d_X12_trades_75 : decode mX12_trades.1 75 = .ok (.if_icmp .ge 29, 3) ∧ 75 + 3 = 78 ∧ ((75 : Nat) : Int) + 29 = ((104 : Nat) : Int) := ⟨by decide +kernel, rfl, rfl⟩
theorem d_X12_trades_78 : decode mX12_trades.1 78 = .ok (.aload_n 0, 1) ∧ 78 + 1 = 79 := ⟨by decide +kernel, rfl⟩
theorem d_X12_trades_79 : decode mX12_trades.1 79 = .ok (.getfield 155, 3) ∧ 79 + 3 = 82 := ⟨by decide +kernel, rfl⟩
theorem d_X12_trades_82 : decode mX12_trades.1 82 = .ok (.iload_n 3, 1) ∧ 82 + 1 = 83 := ⟨by decide +kernel, rfl⟩
theorem d_X12_trades_83 : decode mX12_trades.1 83 = .ok (.iaload, 1) ∧ 83 + 1 = 84 := ⟨by decide +kernel, rfl⟩
theorem d_X12_trades_84 : decode mX12_trades.1 84 = .ok (.ifCond .ne 14, 3) ∧ 84 + 3 = 87 ∧ ((84 : Nat) : Int) + 14 = ((98 : Nat) : Int) := ⟨by decide +kernel, rfl, rfl⟩
theorem d_X12_trades_87 : decode mX12_trades.1 87 = .ok (.aload_n 0, 1) ∧ 87 + 1 = 88 := ⟨by decide +kernel, rfl⟩
theorem d_X12_trades_88 : decode mX12_trades.1 88 = .ok (.getfield 158, 3) ∧ 88 + 3 = 91 := ⟨by decide +kernel, rfl⟩
theorem d_X12_trades_91 : decode mX12_trades.1 91 = .ok (.iload_n 3, 1) ∧ 91 + 1 = 92 := ⟨by decide +kernel, rfl⟩
theorem d_X12_trades_92 : decode mX12_trades.1 92 = .ok (.aload_n 0, 1) ∧ 92 + 1 = 93 := ⟨by decide +kernel, rfl⟩
theorem d_X12_trades_93 : decode mX12_trades.1 93 = .ok (.iload_n 3, 1) ∧ 93 + 1 = 94 := ⟨by decide +kernel, rfl⟩
theorem d_X12_trades_94 : decode mX12_trades.1 94 = .ok (.invokevirtual 551, 3) ∧ 94 + 3 = 97 := ⟨by decide +kernel, rfl⟩
theorem d_X12_trades_97 : decode mX12_trades.1 97 = .ok (.iastore, 1) ∧ 97 + 1 = 98 := ⟨by decide +kernel, rfl⟩
theorem d_X12_trades_98 : decode mX12_trades.1 98 = .ok (.iinc 3 1, 3) ∧ 98 + 3 = 101 := ⟨by decide +kernel, rfl⟩
theorem d_X12_trades_101 : decode mX12_trades.1 101 = .ok (.goto (-31), 3) ∧ ((101 : Nat) : Int) + (-31) = ((70 : Nat) : Int) := ⟨by decide +kernel, rfl⟩
set_option maxRecDepth 100000 in
set_option maxHeartbeats 4000000 in
theorem g_X12_trades_L70 (l : Launch) (G : xa_C) (c0 c1 c2 : Int) (K : (Int × xa_H) ⊕ (xa_H) → Option xa_O) (hb : ∀ (v3 : Int) (h : xa_H), xa_G l G 5 mX12_trades (some (Sum.inl ((v3, h)))) K 70 [some (xR c0), some (xI c1), some (xI c2), some (xI v3)] [] h) (hx : ∀ (h : xa_H), xa_G l G 5 mX12_trades (some (Sum.inr h)) K 104 [some (xR c0), some (xI c1), some (xI c2), none] [] h) : ∀ (v3 : Int) (h : xa_H), xa_G l G 5 mX12_trades (f_X12_trades_L70 c0 c1 c2 v3 h) K 70 [some (xR c0), some (xI c1), some (xI c2), some (xI v3)] [] h := by
  intro v3 h
  unfold f_X12_trades_L70
  refine xa_step (xa_iload_n d_X12_trades_70 rfl) ?_
  refine xa_step (xa_aload_n d_X12_trades_71 rfl) ?_
  refine xa_callVi (as := []) (st := [xI v3]) (M' := mX12_holderMany) (d' := 2) rfl xw_1836 xw_1838 xw_108 xw_1839 xw_177 xh_X12_holderMany rfl ⟨Nat.le_of_ble_eq_true rfl, Nat.le_of_ble_eq_true rfl⟩ (Nat.le_of_ble_eq_true rfl) rfl d_X12_trades_72 (fun r hr => ct_X12_holderMany l G c0 h r hr) (fun r16 _ => ?_)
  refine xa_if (xa_icmpge d_X12_trades_75) (fun q17 => ?_) (fun q17 => ?_)
  · refine xa_step (xa_aload_n d_X12_trades_78 rfl) ?_
    refine xa_getf xR xc_12 (by decide) (fun _ => rfl) xw_1372 rfl d_X12_trades_79 (fun x18 _ => ?_)
    refine xa_step (xa_iload_n d_X12_trades_82 rfl) ?_
    refine xa_iaload d_X12_trades_83 (fun x19 _ => ?_)
    refine xa_if (xa_ifne d_X12_trades_84) (fun q20 => ?_) (fun q20 => ?_)
    · refine xa_step (xa_aload_n d_X12_trades_87 rfl) ?_
      refine xa_getf xR xc_12 (by decide) (fun _ => rfl) xw_1373 rfl d_X12_trades_88 (fun x21 _ => ?_)
      refine xa_step (xa_iload_n d_X12_trades_91 rfl) ?_
      refine xa_step (xa_aload_n d_X12_trades_92 rfl) ?_
      refine xa_step (xa_iload_n d_X12_trades_93 rfl) ?_
      refine xa_callVi (as := [xI v3]) (st := [xI v3, xR x21]) (M' := mX12_roundOf) (d' := 2) rfl xw_2040 xw_2042 xw_143 xw_2043 xw_177 xh_X12_roundOf rfl ⟨Nat.le_of_ble_eq_true rfl, Nat.le_of_ble_eq_true rfl⟩ (Nat.le_of_ble_eq_true rfl) rfl d_X12_trades_94 (fun r hr => ct_X12_roundOf l G c0 v3 h r hr) (fun r22 _ => ?_)
      refine xa_iastore2 d_X12_trades_97 (fun h23 _ => ?_)
      refine xa_step (xa_iinc (ls' := [some (xR c0), some (xI c1), some (xI c2), some (xI (w32 (v3 + 1)))]) d_X12_trades_98 xq_i_1 rfl (by decide) rfl) ?_
      refine xa_step (xa_goto d_X12_trades_101) ?_
      exact xa_weak (ls' := [some (xR c0), some (xI c1), some (xI c2), some (xI (w32 (v3 + 1)))]) ⟨rfl, rfl, rfl, rfl, trivial⟩ (hb (w32 (v3 + 1)) h23)
    · refine xa_step (xa_iinc (ls' := [some (xR c0), some (xI c1), some (xI c2), some (xI (w32 (v3 + 1)))]) d_X12_trades_98 xq_i_1 rfl (by decide) rfl) ?_
      refine xa_step (xa_goto d_X12_trades_101) ?_
      exact xa_weak (ls' := [some (xR c0), some (xI c1), some (xI c2), some (xI (w32 (v3 + 1)))]) ⟨rfl, rfl, rfl, rfl, trivial⟩ (hb (w32 (v3 + 1)) h)
  · exact xa_weak (ls' := [some (xR c0), some (xI c1), some (xI c2), none]) ⟨rfl, rfl, rfl, trivial⟩ (hx h)
theorem d_X12_trades_104 : decode mX12_trades.1 104 = .ok (.iconst 0, 1) ∧ 104 + 1 = 105 := ⟨by decide +kernel, rfl⟩
theorem d_X12_trades_105 : decode mX12_trades.1 105 = .ok (.istore_n 3, 1) ∧ 105 + 1 = 106 := ⟨by decide +kernel, rfl⟩
theorem d_X12_trades_106 : decode mX12_trades.1 106 = .ok (.iload_n 3, 1) ∧ 106 + 1 = 107 := ⟨by decide +kernel, rfl⟩
theorem d_X12_trades_107 : decode mX12_trades.1 107 = .ok (.aload_n 0, 1) ∧ 107 + 1 = 108 := ⟨by decide +kernel, rfl⟩
theorem d_X12_trades_108 : decode mX12_trades.1 108 = .ok (.invokevirtual 402, 3) ∧ 108 + 3 = 111 := ⟨by decide +kernel, rfl⟩
theorem d_X12_trades_111 : decode mX12_trades.1 111 = .ok (.if_icmp .ge 40, 3) ∧ 111 + 3 = 114 ∧ ((111 : Nat) : Int) + 40 = ((151 : Nat) : Int) := ⟨by decide +kernel, rfl, rfl⟩
theorem d_X12_trades_114 : decode mX12_trades.1 114 = .ok (.aload_n 0, 1) ∧ 114 + 1 = 115 := ⟨by decide +kernel, rfl⟩
theorem d_X12_trades_115 : decode mX12_trades.1 115 = .ok (.getfield 155, 3) ∧ 115 + 3 = 118 := ⟨by decide +kernel, rfl⟩
theorem d_X12_trades_118 : decode mX12_trades.1 118 = .ok (.iload_n 3, 1) ∧ 118 + 1 = 119 := ⟨by decide +kernel, rfl⟩
theorem d_X12_trades_119 : decode mX12_trades.1 119 = .ok (.iaload, 1) ∧ 119 + 1 = 120 := ⟨by decide +kernel, rfl⟩
theorem d_X12_trades_120 : decode mX12_trades.1 120 = .ok (.ifCond .ne 25, 3) ∧ 120 + 3 = 123 ∧ ((120 : Nat) : Int) + 25 = ((145 : Nat) : Int) := ⟨by decide +kernel, rfl, rfl⟩
theorem d_X12_trades_123 : decode mX12_trades.1 123 = .ok (.aload_n 0, 1) ∧ 123 + 1 = 124 := ⟨by decide +kernel, rfl⟩
theorem d_X12_trades_124 : decode mX12_trades.1 124 = .ok (.getfield 158, 3) ∧ 124 + 3 = 127 := ⟨by decide +kernel, rfl⟩
theorem d_X12_trades_127 : decode mX12_trades.1 127 = .ok (.iload_n 3, 1) ∧ 127 + 1 = 128 := ⟨by decide +kernel, rfl⟩
theorem d_X12_trades_128 : decode mX12_trades.1 128 = .ok (.iaload, 1) ∧ 128 + 1 = 129 := ⟨by decide +kernel, rfl⟩
theorem d_X12_trades_129 : decode mX12_trades.1 129 = .ok (.ifCond .ne 6, 3) ∧ 129 + 3 = 132 ∧ ((129 : Nat) : Int) + 6 = ((135 : Nat) : Int) := ⟨by decide +kernel, rfl, rfl⟩
theorem d_X12_trades_132 : decode mX12_trades.1 132 = .ok (.goto 13, 3) ∧ ((132 : Nat) : Int) + 13 = ((145 : Nat) : Int) := ⟨by decide +kernel, rfl⟩
theorem d_X12_trades_145 : decode mX12_trades.1 145 = .ok (.iinc 3 1, 3) ∧ 145 + 3 = 148 := ⟨by decide +kernel, rfl⟩
theorem d_X12_trades_148 : decode mX12_trades.1 148 = .ok (.goto (-42), 3) ∧ ((148 : Nat) : Int) + (-42) = ((106 : Nat) : Int) := ⟨by decide +kernel, rfl⟩
theorem d_X12_trades_135 : decode mX12_trades.1 135 = .ok (.aload_n 0, 1) ∧ 135 + 1 = 136 := ⟨by decide +kernel, rfl⟩
theorem d_X12_trades_136 : decode mX12_trades.1 136 = .ok (.getfield 155, 3) ∧ 136 + 3 = 139 := ⟨by decide +kernel, rfl⟩
theorem d_X12_trades_139 : decode mX12_trades.1 139 = .ok (.iload_n 3, 1) ∧ 139 + 1 = 140 := ⟨by decide +kernel, rfl⟩
theorem d_X12_trades_140 : decode mX12_trades.1 140 = .ok (.iload_n 2, 1) ∧ 140 + 1 = 141 := ⟨by decide +kernel, rfl⟩
theorem d_X12_trades_141 : decode mX12_trades.1 141 = .ok (.iastore, 1) ∧ 141 + 1 = 142 := ⟨by decide +kernel, rfl⟩
theorem d_X12_trades_142 : decode mX12_trades.1 142 = .ok (.iinc 1 (-1), 3) ∧ 142 + 3 = 145 := ⟨by decide +kernel, rfl⟩
set_option maxRecDepth 100000 in
set_option maxHeartbeats 4000000 in
theorem g_X12_trades_L106 (l : Launch) (G : xa_C) (c0 c2 : Int) (K : (Int × Int × xa_H) ⊕ (Int × xa_H) → Option xa_O) (hb : ∀ (v1 : Int) (v3 : Int) (h : xa_H), xa_G l G 5 mX12_trades (some (Sum.inl ((v1, v3, h)))) K 106 [some (xR c0), some (xI v1), some (xI c2), some (xI v3)] [] h) (hx : ∀ (v1 : Int) (h : xa_H), xa_G l G 5 mX12_trades (some (Sum.inr ((v1, h)))) K 151 [some (xR c0), some (xI v1), some (xI c2), none] [] h) : ∀ (v1 : Int) (v3 : Int) (h : xa_H), xa_G l G 5 mX12_trades (f_X12_trades_L106 c0 c2 v1 v3 h) K 106 [some (xR c0), some (xI v1), some (xI c2), some (xI v3)] [] h := by
  intro v1 v3 h
  unfold f_X12_trades_L106
  refine xa_step (xa_iload_n d_X12_trades_106 rfl) ?_
  refine xa_step (xa_aload_n d_X12_trades_107 rfl) ?_
  refine xa_callVi (as := []) (st := [xI v3]) (M' := mX12_holderMany) (d' := 2) rfl xw_1836 xw_1838 xw_108 xw_1839 xw_177 xh_X12_holderMany rfl ⟨Nat.le_of_ble_eq_true rfl, Nat.le_of_ble_eq_true rfl⟩ (Nat.le_of_ble_eq_true rfl) rfl d_X12_trades_108 (fun r hr => ct_X12_holderMany l G c0 h r hr) (fun r25 _ => ?_)
  refine xa_if (xa_icmpge d_X12_trades_111) (fun q26 => ?_) (fun q26 => ?_)
  · refine xa_step (xa_aload_n d_X12_trades_114 rfl) ?_
    refine xa_getf xR xc_12 (by decide) (fun _ => rfl) xw_1372 rfl d_X12_trades_115 (fun x27 _ => ?_)
    refine xa_step (xa_iload_n d_X12_trades_118 rfl) ?_
    refine xa_iaload d_X12_trades_119 (fun x28 _ => ?_)
    refine xa_if (xa_ifne d_X12_trades_120) (fun q29 => ?_) (fun q29 => ?_)
    · refine xa_step (xa_aload_n d_X12_trades_123 rfl) ?_
      refine xa_getf xR xc_12 (by decide) (fun _ => rfl) xw_1373 rfl d_X12_trades_124 (fun x30 _ => ?_)
      refine xa_step (xa_iload_n d_X12_trades_127 rfl) ?_
      refine xa_iaload d_X12_trades_128 (fun x31 _ => ?_)
      refine xa_if (xa_ifne d_X12_trades_129) (fun q32 => ?_) (fun q32 => ?_)
      · refine xa_step (xa_goto d_X12_trades_132) ?_
        refine xa_step (xa_iinc (ls' := [some (xR c0), some (xI v1), some (xI c2), some (xI (w32 (v3 + 1)))]) d_X12_trades_145 xq_i_1 rfl (by decide) rfl) ?_
        refine xa_step (xa_goto d_X12_trades_148) ?_
        exact xa_weak (ls' := [some (xR c0), some (xI v1), some (xI c2), some (xI (w32 (v3 + 1)))]) ⟨rfl, rfl, rfl, rfl, trivial⟩ (hb v1 (w32 (v3 + 1)) h)
      · refine xa_step (xa_aload_n d_X12_trades_135 rfl) ?_
        refine xa_getf xR xc_12 (by decide) (fun _ => rfl) xw_1372 rfl d_X12_trades_136 (fun x33 _ => ?_)
        refine xa_step (xa_iload_n d_X12_trades_139 rfl) ?_
        refine xa_step (xa_iload_n d_X12_trades_140 rfl) ?_
        refine xa_iastore2 d_X12_trades_141 (fun h34 _ => ?_)
        refine xa_step (xa_iinc (ls' := [some (xR c0), some (xI (w32 (v1 + (-1)))), some (xI c2), some (xI v3)]) d_X12_trades_142 xq_i_m1 rfl (by decide) rfl) ?_
        refine xa_step (xa_iinc (ls' := [some (xR c0), some (xI (w32 (v1 + (-1)))), some (xI c2), some (xI (w32 (v3 + 1)))]) d_X12_trades_145 xq_i_1 rfl (by decide) rfl) ?_
        refine xa_step (xa_goto d_X12_trades_148) ?_
        exact xa_weak (ls' := [some (xR c0), some (xI (w32 (v1 + (-1)))), some (xI c2), some (xI (w32 (v3 + 1)))]) ⟨rfl, rfl, rfl, rfl, trivial⟩ (hb (w32 (v1 + (-1))) (w32 (v3 + 1)) h34)
    · refine xa_step (xa_iinc (ls' := [some (xR c0), some (xI v1), some (xI c2), some (xI (w32 (v3 + 1)))]) d_X12_trades_145 xq_i_1 rfl (by decide) rfl) ?_
      refine xa_step (xa_goto d_X12_trades_148) ?_
      exact xa_weak (ls' := [some (xR c0), some (xI v1), some (xI c2), some (xI (w32 (v3 + 1)))]) ⟨rfl, rfl, rfl, rfl, trivial⟩ (hb v1 (w32 (v3 + 1)) h)
  · exact xa_weak (ls' := [some (xR c0), some (xI v1), some (xI c2), none]) ⟨rfl, rfl, rfl, trivial⟩ (hx v1 h)
theorem d_X12_trades_151 : decode mX12_trades.1 151 = .ok (.iinc 2 1, 3) ∧ 151 + 3 = 154 := ⟨by decide +kernel, rfl⟩
theorem d_X12_trades_154 : decode mX12_trades.1 154 = .ok (.goto (-126), 3) ∧ ((154 : Nat) : Int) + (-126) = ((28 : Nat) : Int) := ⟨by decide +kernel, rfl⟩
set_option maxRecDepth 100000 in
set_option maxHeartbeats 4000000 in
theorem g_X12_trades_L28 (l : Launch) (G : xa_C) (c0 : Int) (K : (Int × Int × xa_H) ⊕ (xa_H) → Option xa_O) (hb : ∀ (v1 : Int) (v2 : Int) (h : xa_H), xa_G l G 5 mX12_trades (some (Sum.inl ((v1, v2, h)))) K 28 [some (xR c0), some (xI v1), some (xI v2), none] [] h) (hx : ∀ (h : xa_H), xa_G l G 5 mX12_trades (some (Sum.inr h)) K 157 [none, none, none, none] [] h) : ∀ (v1 : Int) (v2 : Int) (h : xa_H), xa_G l G 5 mX12_trades (f_X12_trades_L28 c0 v1 v2 h) K 28 [some (xR c0), some (xI v1), some (xI v2), none] [] h := by
  intro v1 v2 h
  unfold f_X12_trades_L28
  refine xa_step (xa_iload_n d_X12_trades_28 rfl) ?_
  refine xa_if (xa_ifle d_X12_trades_29) (fun q6 => ?_) (fun q6 => ?_)
  · refine xa_step (xa_iconst d_X12_trades_32 xq_i_0) ?_
    refine xa_step (xa_istore_n (ls' := [some (xR c0), some (xI v1), some (xI v2), some (xI 0)]) d_X12_trades_33 (by decide) rfl) ?_
    refine xa_weak (ls' := [some (xR c0), some (xI v1), some (xI v2), some (xI 0)]) ⟨rfl, rfl, rfl, rfl, trivial⟩ ?_
    refine xa_loop (f := fun s => f_X12_trades_L34 c0 v1 v2 s.1 s.2) (L := fun s => [some (xR c0), some (xI v1), some (xI v2), some (xI s.1)]) (P := fun s => s.2) (X := (fun x K => xa_G l G 5 mX12_trades (some (Sum.inr x)) K 68 [some (xR c0), some (xI v1), some (xI v2), none] [] x)) (fun K hb hX s => g_X12_trades_L34 l G c0 v1 v2 K (fun w0 hh => hb ((w0, hh))) (fun hh => hX hh) s.1 s.2) ?_ xFU ((0, h))
    intro e15 K hK
    refine xa_eqE hK ?_
    show xa_G l G 5 mX12_trades _ _ 68 [some (xR c0), some (xI v1), some (xI v2), none] [] e15
    refine xa_step (xa_iconst d_X12_trades_68 xq_i_0) ?_
    refine xa_step (xa_istore_n (ls' := [some (xR c0), some (xI v1), some (xI v2), some (xI 0)]) d_X12_trades_69 (by decide) rfl) ?_
    refine xa_weak (ls' := [some (xR c0), some (xI v1), some (xI v2), some (xI 0)]) ⟨rfl, rfl, rfl, rfl, trivial⟩ ?_
    refine xa_loop (f := fun s => f_X12_trades_L70 c0 v1 v2 s.1 s.2) (L := fun s => [some (xR c0), some (xI v1), some (xI v2), some (xI s.1)]) (P := fun s => s.2) (X := (fun x K => xa_G l G 5 mX12_trades (some (Sum.inr x)) K 104 [some (xR c0), some (xI v1), some (xI v2), none] [] x)) (fun K hb hX s => g_X12_trades_L70 l G c0 v1 v2 K (fun w0 hh => hb ((w0, hh))) (fun hh => hX hh) s.1 s.2) ?_ xFU ((0, e15))
    intro e24 K hK
    refine xa_eqE hK ?_
    show xa_G l G 5 mX12_trades _ _ 104 [some (xR c0), some (xI v1), some (xI v2), none] [] e24
    refine xa_step (xa_iconst d_X12_trades_104 xq_i_0) ?_
    refine xa_step (xa_istore_n (ls' := [some (xR c0), some (xI v1), some (xI v2), some (xI 0)]) d_X12_trades_105 (by decide) rfl) ?_
    refine xa_weak (ls' := [some (xR c0), some (xI v1), some (xI v2), some (xI 0)]) ⟨rfl, rfl, rfl, rfl, trivial⟩ ?_
    refine xa_loop (f := fun s => f_X12_trades_L106 c0 v2 s.1 s.2.1 s.2.2) (L := fun s => [some (xR c0), some (xI s.1), some (xI v2), some (xI s.2.1)]) (P := fun s => s.2.2) (X := (fun x K => xa_G l G 5 mX12_trades (some (Sum.inr x)) K 151 [some (xR c0), some (xI x.1), some (xI v2), none] [] x.2)) (fun K hb hX s => g_X12_trades_L106 l G c0 v2 K (fun w0 w1 hh => hb ((w0, w1, hh))) (fun w0 hh => hX ((w0, hh))) s.1 s.2.1 s.2.2) ?_ xFU ((v1, 0, e24))
    intro e35 K hK
    refine xa_eqE hK ?_
    show xa_G l G 5 mX12_trades _ _ 151 [some (xR c0), some (xI e35.1), some (xI v2), none] [] e35.2
    refine xa_step (xa_iinc (ls' := [some (xR c0), some (xI e35.1), some (xI (w32 (v2 + 1))), none]) d_X12_trades_151 xq_i_1 rfl (by decide) rfl) ?_
    refine xa_step (xa_goto d_X12_trades_154) ?_
    exact xa_weak (ls' := [some (xR c0), some (xI e35.1), some (xI (w32 (v2 + 1))), none]) ⟨rfl, rfl, rfl, trivial⟩ (hb e35.1 (w32 (v2 + 1)) e35.2)
  · exact xa_weak (ls' := [none, none, none, none]) trivial (hx h)
theorem d_X12_trades_157 : decode mX12_trades.1 157 = .ok (.return_, 1) := by decide +kernel
set_option maxRecDepth 100000 in
set_option maxHeartbeats 4000000 in
theorem g_X12_trades (l : Launch) (G : xa_C) (v0 : Int) (h : xa_H) : xa_G l G 5 mX12_trades (f_X12_trades v0 h) (fun r => some (none, r) : xa_H → Option xa_O) 0 [some (xR v0), none, none, none] [] h := by
  unfold f_X12_trades
  refine xa_step (xa_iconst d_X12_trades_0 xq_i_0) ?_
  refine xa_step (xa_istore_n (ls' := [some (xR v0), some (xI 0), none, none]) d_X12_trades_1 (by decide) rfl) ?_
  refine xa_weak (ls' := [some (xR v0), some (xI 0), none, none]) ⟨rfl, rfl, trivial⟩ ?_
  refine xa_loop (f := fun s => f_X12_trades_L2 v0 s.1 s.2) (L := fun s => [some (xR v0), some (xI s.1), none, none]) (P := fun s => s.2) (X := (fun x K => xa_G l G 5 mX12_trades (some (Sum.inr x)) K 21 [some (xR v0), none, none, none] [] x)) (fun K hb hX s => g_X12_trades_L2 l G v0 K (fun w0 hh => hb ((w0, hh))) (fun hh => hX hh) s.1 s.2) ?_ xFU ((0, h))
  intro e4 K hK
  refine xa_eqE hK ?_
  show xa_G l G 5 mX12_trades _ _ 21 [some (xR v0), none, none, none] [] e4
  refine xa_step (xa_aload_n d_X12_trades_21 rfl) ?_
  refine xa_callVi (as := []) (st := []) (M' := mX12_holderMany) (d' := 2) rfl xw_1836 xw_1838 xw_108 xw_1839 xw_177 xh_X12_holderMany rfl ⟨Nat.le_of_ble_eq_true rfl, Nat.le_of_ble_eq_true rfl⟩ (Nat.le_of_ble_eq_true rfl) rfl d_X12_trades_22 (fun r hr => ct_X12_holderMany l G v0 e4 r hr) (fun r5 _ => ?_)
  refine xa_step (xa_istore_n (ls' := [some (xR v0), some (xI r5), none, none]) d_X12_trades_25 (by decide) rfl) ?_
  refine xa_step (xa_iconst d_X12_trades_26 xq_i_1) ?_
  refine xa_step (xa_istore_n (ls' := [some (xR v0), some (xI r5), some (xI 1), none]) d_X12_trades_27 (by decide) rfl) ?_
  refine xa_weak (ls' := [some (xR v0), some (xI r5), some (xI 1), none]) ⟨rfl, rfl, rfl, trivial⟩ ?_
  refine xa_loop (f := fun s => f_X12_trades_L28 v0 s.1 s.2.1 s.2.2) (L := fun s => [some (xR v0), some (xI s.1), some (xI s.2.1), none]) (P := fun s => s.2.2) (X := (fun x K => xa_G l G 5 mX12_trades (some (Sum.inr x)) K 157 [none, none, none, none] [] x)) (fun K hb hX s => g_X12_trades_L28 l G v0 K (fun w0 w1 hh => hb ((w0, w1, hh))) (fun hh => hX hh) s.1 s.2.1 s.2.2) ?_ xFU ((r5, 1, e4))
  intro e36 K hK
  refine xa_eqE hK ?_
  show xa_G l G 5 mX12_trades _ _ 157 [none, none, none, none] [] e36
  exact xa_vret d_X12_trades_157 rfl rfl
theorem ct_X12_trades (l : Launch) (G : xa_C) (v0 : Int) (h : xa_H) (r : xa_H) (hr : f_X12_trades v0 h = some r) : xa_CT l G 5 mX12_trades yX12_trades [xR v0] h (none, r) :=
  xa_met (by decide +kernel) rfl (fun q => by first | rfl | cases q) (Nat.le_of_ble_eq_true rfl) rfl (g_X12_trades l G v0 h) (by rw [hr]; rfl)
abbrev mX12_trade : xa_M := (cX12_trade, 3, (some (.int)), RX12, false)
theorem d_X12_trade_0 : decode mX12_trade.1 0 = .ok (.aload_n 0, 1) ∧ 0 + 1 = 1 := ⟨by decide +kernel, rfl⟩
theorem d_X12_trade_1 : decode mX12_trade.1 1 = .ok (.iload_n 1, 1) ∧ 1 + 1 = 2 := ⟨by decide +kernel, rfl⟩
theorem d_X12_trade_2 : decode mX12_trade.1 2 = .ok (.invokevirtual 458, 3) ∧ 2 + 3 = 5 := ⟨by decide +kernel, rfl⟩
theorem d_X12_trade_5 : decode mX12_trade.1 5 = .ok (.ifCond .eq 15, 3) ∧ 5 + 3 = 8 ∧ ((5 : Nat) : Int) + 15 = ((20 : Nat) : Int) := ⟨by decide +kernel, rfl, rfl⟩
theorem d_X12_trade_20 : decode mX12_trade.1 20 = .ok (.iconst (-1), 1) ∧ 20 + 1 = 21 := ⟨by decide +kernel, rfl⟩
theorem d_X12_trade_21 : decode mX12_trade.1 21 = .ok (.ireturn, 1) := by decide +kernel
theorem d_X12_trade_8 : decode mX12_trade.1 8 = .ok (.iload_n 2, 1) ∧ 8 + 1 = 9 := ⟨by decide +kernel, rfl⟩
theorem d_X12_trade_9 : decode mX12_trade.1 9 = .ok (.i2l, 1) ∧ 9 + 1 = 10 := ⟨by decide +kernel, rfl⟩
theorem d_X12_trade_10 : decode mX12_trade.1 10 = .ok (.lconst 0, 1) ∧ 10 + 1 = 11 := ⟨by decide +kernel, rfl⟩
theorem d_X12_trade_11 : decode mX12_trade.1 11 = .ok (.ldc2_w 454, 3) ∧ 11 + 3 = 14 := ⟨by decide +kernel, rfl⟩
theorem d_X12_trade_14 : decode mX12_trade.1 14 = .ok (.invokestatic 289, 3) ∧ 14 + 3 = 17 := ⟨by decide +kernel, rfl⟩
theorem d_X12_trade_17 : decode mX12_trade.1 17 = .ok (.ifCond .ne 5, 3) ∧ 17 + 3 = 20 ∧ ((17 : Nat) : Int) + 5 = ((22 : Nat) : Int) := ⟨by decide +kernel, rfl, rfl⟩
theorem d_X12_trade_22 : decode mX12_trade.1 22 = .ok (.aload_n 0, 1) ∧ 22 + 1 = 23 := ⟨by decide +kernel, rfl⟩
theorem d_X12_trade_23 : decode mX12_trade.1 23 = .ok (.invokevirtual 554, 3) ∧ 23 + 3 = 26 := ⟨by decide +kernel, rfl⟩
theorem d_X12_trade_26 : decode mX12_trade.1 26 = .ok (.iload_n 2, 1) ∧ 26 + 1 = 27 := ⟨by decide +kernel, rfl⟩
theorem d_X12_trade_27 : decode mX12_trade.1 27 = .ok (.ifCond .ne 16, 3) ∧ 27 + 3 = 30 ∧ ((27 : Nat) : Int) + 16 = ((43 : Nat) : Int) := ⟨by decide +kernel, rfl, rfl⟩
theorem d_X12_trade_30 : decode mX12_trade.1 30 = .ok (.aload_n 0, 1) ∧ 30 + 1 = 31 := ⟨by decide +kernel, rfl⟩
theorem d_X12_trade_31 : decode mX12_trade.1 31 = .ok (.aload_n 0, 1) ∧ 31 + 1 = 32 := ⟨by decide +kernel, rfl⟩
theorem d_X12_trade_32 : decode mX12_trade.1 32 = .ok (.getfield 152, 3) ∧ 32 + 3 = 35 := ⟨by decide +kernel, rfl⟩
theorem d_X12_trade_35 : decode mX12_trade.1 35 = .ok (.iload_n 1, 1) ∧ 35 + 1 = 36 := ⟨by decide +kernel, rfl⟩
theorem d_X12_trade_36 : decode mX12_trade.1 36 = .ok (.iaload, 1) ∧ 36 + 1 = 37 := ⟨by decide +kernel, rfl⟩
theorem d_X12_trade_37 : decode mX12_trade.1 37 = .ok (.invokevirtual 405, 3) ∧ 37 + 3 = 40 := ⟨by decide +kernel, rfl⟩
theorem d_X12_trade_40 : decode mX12_trade.1 40 = .ok (.goto 23, 3) ∧ ((40 : Nat) : Int) + 23 = ((63 : Nat) : Int) := ⟨by decide +kernel, rfl⟩
theorem d_X12_trade_63 : decode mX12_trade.1 63 = .ok (.ireturn, 1) := by decide +kernel
theorem d_X12_trade_43 : decode mX12_trade.1 43 = .ok (.iload_n 2, 1) ∧ 43 + 1 = 44 := ⟨by decide +kernel, rfl⟩
theorem d_X12_trade_44 : decode mX12_trade.1 44 = .ok (.iconst 1, 1) ∧ 44 + 1 = 45 := ⟨by decide +kernel, rfl⟩
theorem d_X12_trade_45 : decode mX12_trade.1 45 = .ok (.if_icmp .ne 12, 3) ∧ 45 + 3 = 48 ∧ ((45 : Nat) : Int) + 12 = ((57 : Nat) : Int) := ⟨by decide +kernel, rfl, rfl⟩
theorem d_X12_trade_48 : decode mX12_trade.1 48 = .ok (.aload_n 0, 1) ∧ 48 + 1 = 49 := ⟨by decide +kernel, rfl⟩
theorem d_X12_trade_49 : decode mX12_trade.1 49 = .ok (.getfield 155, 3) ∧ 49 + 3 = 52 := ⟨by decide +kernel, rfl⟩
theorem d_X12_trade_52 : decode mX12_trade.1 52 = .ok (.iload_n 1, 1) ∧ 52 + 1 = 53 := ⟨by decide +kernel, rfl⟩
theorem d_X12_trade_53 : decode mX12_trade.1 53 = .ok (.iaload, 1) ∧ 53 + 1 = 54 := ⟨by decide +kernel, rfl⟩
theorem d_X12_trade_54 : decode mX12_trade.1 54 = .ok (.goto 9, 3) ∧ ((54 : Nat) : Int) + 9 = ((63 : Nat) : Int) := ⟨by decide +kernel, rfl⟩
theorem d_X12_trade_57 : decode mX12_trade.1 57 = .ok (.aload_n 0, 1) ∧ 57 + 1 = 58 := ⟨by decide +kernel, rfl⟩
theorem d_X12_trade_58 : decode mX12_trade.1 58 = .ok (.getfield 158, 3) ∧ 58 + 3 = 61 := ⟨by decide +kernel, rfl⟩
theorem d_X12_trade_61 : decode mX12_trade.1 61 = .ok (.iload_n 1, 1) ∧ 61 + 1 = 62 := ⟨by decide +kernel, rfl⟩
theorem d_X12_trade_62 : decode mX12_trade.1 62 = .ok (.iaload, 1) ∧ 62 + 1 = 63 := ⟨by decide +kernel, rfl⟩
set_option maxRecDepth 100000 in
set_option maxHeartbeats 4000000 in
theorem g_X12_trade (l : Launch) (G : xa_C) (v0 v1 v2 : Int) (h : xa_H) : xa_G l G 6 mX12_trade (f_X12_trade v0 v1 v2 h) (fun r => some (some (xI r.1), r.2) : (Int × xa_H) → Option xa_O) 0 [some (xR v0), some (xI v1), some (xI v2)] [] h := by
  unfold f_X12_trade
  refine xa_step (xa_aload_n d_X12_trade_0 rfl) ?_
  refine xa_step (xa_iload_n d_X12_trade_1 rfl) ?_
  refine xa_callVi (as := [xI v1]) (st := []) (M' := mX12_isHolder) (d' := 3) rfl xw_1889 xw_1891 xw_118 xw_1892 xw_177 xh_X12_isHolder rfl ⟨Nat.le_of_ble_eq_true rfl, Nat.le_of_ble_eq_true rfl⟩ (Nat.le_of_ble_eq_true rfl) rfl d_X12_trade_2 (fun r hr => ct_X12_isHolder l G v0 v1 h r hr) (fun r1 _ => ?_)
  refine xa_if (xa_ifeq d_X12_trade_5) (fun q2 => ?_) (fun q2 => ?_)
  · refine xa_step (xa_iconst d_X12_trade_20 xq_i_m1) ?_
    exact xa_iret d_X12_trade_21 rfl rfl
  · refine xa_step (xa_iload_n d_X12_trade_8 rfl) ?_
    refine xa_step (xa_i2l d_X12_trade_9) ?_
    refine xa_step (xa_lconst d_X12_trade_10 rfl) ?_
    refine xa_step (xa_ldc2 (c64 := 2) (v := 2) (by decide +kernel) xw_1918 d_X12_trade_11) ?_
    refine xa_callSi (as := [xL v2, xL 0, xL 2]) (st := []) (M' := mX12_isIn) (d' := 2) xw_1706 xw_1707 xw_1708 xw_177 xh_X12_isIn rfl ⟨Nat.le_of_ble_eq_true rfl, Nat.le_of_ble_eq_true rfl⟩ (Nat.le_of_ble_eq_true rfl) rfl d_X12_trade_14 (fun r hr => ct_X12_isIn l G v2 0 2 h r hr) (fun r3 _ => ?_)
    refine xa_if (xa_ifne d_X12_trade_17) (fun q4 => ?_) (fun q4 => ?_)
    · refine xa_step (xa_iconst d_X12_trade_20 xq_i_m1) ?_
      exact xa_iret d_X12_trade_21 rfl rfl
    · refine xa_step (xa_aload_n d_X12_trade_22 rfl) ?_
      refine xa_callVV (as := []) (st := []) (M' := mX12_trades) (d' := 5) rfl xw_2032 xw_2034 xw_141 xw_2035 xw_177 xh_X12_trades rfl ⟨Nat.le_of_ble_eq_true rfl, Nat.le_of_ble_eq_true rfl⟩ (Nat.le_of_ble_eq_true rfl) rfl d_X12_trade_23 (fun r hr => ct_X12_trades l G v0 h r hr) (fun r5 _ => ?_)
      refine xa_step (xa_iload_n d_X12_trade_26 rfl) ?_
      refine xa_if (xa_ifne d_X12_trade_27) (fun q6 => ?_) (fun q6 => ?_)
      · refine xa_step (xa_aload_n d_X12_trade_30 rfl) ?_
        refine xa_step (xa_aload_n d_X12_trade_31 rfl) ?_
        refine xa_getf xR xc_12 (by decide) (fun _ => rfl) xw_1371 rfl d_X12_trade_32 (fun x7 _ => ?_)
        refine xa_step (xa_iload_n d_X12_trade_35 rfl) ?_
        refine xa_iaload d_X12_trade_36 (fun x8 _ => ?_)
        refine xa_callVi (as := [xI x8]) (st := []) (M' := mX12_hadBy) (d' := 2) rfl xw_1844 xw_1846 xw_110 xw_1847 xw_177 xh_X12_hadBy rfl ⟨Nat.le_of_ble_eq_true rfl, Nat.le_of_ble_eq_true rfl⟩ (Nat.le_of_ble_eq_true rfl) rfl d_X12_trade_37 (fun r hr => ct_X12_hadBy l G v0 x8 r5 r hr) (fun r9 _ => ?_)
        refine xa_step (xa_goto d_X12_trade_40) ?_
        exact xa_iret d_X12_trade_63 rfl rfl
      · refine xa_step (xa_iload_n d_X12_trade_43 rfl) ?_
        refine xa_step (xa_iconst d_X12_trade_44 xq_i_1) ?_
        refine xa_if (xa_icmpne d_X12_trade_45) (fun q10 => ?_) (fun q10 => ?_)
        · refine xa_step (xa_aload_n d_X12_trade_48 rfl) ?_
          refine xa_getf xR xc_12 (by decide) (fun _ => rfl) xw_1372 rfl d_X12_trade_49 (fun x11 _ => ?_)
          refine xa_step (xa_iload_n d_X12_trade_52 rfl) ?_
          refine xa_iaload d_X12_trade_53 (fun x12 _ => ?_)
          refine xa_step (xa_goto d_X12_trade_54) ?_
          exact xa_iret d_X12_trade_63 rfl rfl
        · refine xa_step (xa_aload_n d_X12_trade_57 rfl) ?_
          refine xa_getf xR xc_12 (by decide) (fun _ => rfl) xw_1373 rfl d_X12_trade_58 (fun x13 _ => ?_)
          refine xa_step (xa_iload_n d_X12_trade_61 rfl) ?_
          refine xa_iaload d_X12_trade_62 (fun x14 _ => ?_)
          exact xa_iret d_X12_trade_63 rfl rfl
theorem ct_X12_trade (l : Launch) (G : xa_C) (v0 v1 v2 : Int) (h : xa_H) (r : Int × xa_H) (hr : f_X12_trade v0 v1 v2 h = some r) : xa_CT l G 6 mX12_trade yX12_trade [xR v0, xI v1, xI v2] h (some (xI r.1), r.2) :=
  xa_met (by decide +kernel) rfl (fun q => by first | rfl | cases q) (Nat.le_of_ble_eq_true rfl) rfl (g_X12_trade l G v0 v1 v2 h) (by rw [hr]; rfl)
abbrev mX12_undo : xa_M := (cX12_undo, 2, (some (.boolean)), RX12, false)
theorem d_X12_undo_0 : decode mX12_undo.1 0 = .ok (.aload_n 0, 1) ∧ 0 + 1 = 1 := ⟨by decide +kernel, rfl⟩
theorem d_X12_undo_1 : decode mX12_undo.1 1 = .ok (.getfield 390, 3) ∧ 1 + 3 = 4 := ⟨by decide +kernel, rfl⟩
theorem d_X12_undo_4 : decode mX12_undo.1 4 = .ok (.ifCond .ne 15, 3) ∧ 4 + 3 = 7 ∧ ((4 : Nat) : Int) + 15 = ((19 : Nat) : Int) := ⟨by decide +kernel, rfl, rfl⟩
theorem d_X12_undo_7 : decode mX12_undo.1 7 = .ok (.aload_n 0, 1) ∧ 7 + 1 = 8 := ⟨by decide +kernel, rfl⟩
theorem d_X12_undo_8 : decode mX12_undo.1 8 = .ok (.getfield 17, 3) ∧ 8 + 3 = 11 := ⟨by decide +kernel, rfl⟩
theorem d_X12_undo_11 : decode mX12_undo.1 11 = .ok (.iconst 4, 1) ∧ 11 + 1 = 12 := ⟨by decide +kernel, rfl⟩
theorem d_X12_undo_12 : decode mX12_undo.1 12 = .ok (.dup2, 1) ∧ 12 + 1 = 13 := ⟨by decide +kernel, rfl⟩
theorem d_X12_undo_13 : decode mX12_undo.1 13 = .ok (.iaload, 1) ∧ 13 + 1 = 14 := ⟨by decide +kernel, rfl⟩
theorem d_X12_undo_14 : decode mX12_undo.1 14 = .ok (.iconst 1, 1) ∧ 14 + 1 = 15 := ⟨by decide +kernel, rfl⟩
theorem d_X12_undo_15 : decode mX12_undo.1 15 = .ok (.iadd, 1) ∧ 15 + 1 = 16 := ⟨by decide +kernel, rfl⟩
theorem d_X12_undo_16 : decode mX12_undo.1 16 = .ok (.iastore, 1) ∧ 16 + 1 = 17 := ⟨by decide +kernel, rfl⟩
theorem d_X12_undo_17 : decode mX12_undo.1 17 = .ok (.iconst 0, 1) ∧ 17 + 1 = 18 := ⟨by decide +kernel, rfl⟩
theorem d_X12_undo_18 : decode mX12_undo.1 18 = .ok (.ireturn, 1) := by decide +kernel
theorem d_X12_undo_19 : decode mX12_undo.1 19 = .ok (.iconst 0, 1) ∧ 19 + 1 = 20 := ⟨by decide +kernel, rfl⟩
theorem d_X12_undo_20 : decode mX12_undo.1 20 = .ok (.istore_n 1, 1) ∧ 20 + 1 = 21 := ⟨by decide +kernel, rfl⟩
theorem d_X12_undo_21 : decode mX12_undo.1 21 = .ok (.iload_n 1, 1) ∧ 21 + 1 = 22 := ⟨by decide +kernel, rfl⟩
theorem d_X12_undo_22 : decode mX12_undo.1 22 = .ok (.sipush 176, 3) ∧ 22 + 3 = 25 := ⟨by decide +kernel, rfl⟩
theorem d_X12_undo_25 : decode mX12_undo.1 25 = .ok (.if_icmp .ge 30, 3) ∧ 25 + 3 = 28 ∧ ((25 : Nat) : Int) + 30 = ((55 : Nat) : Int) := ⟨by decide +kernel, rfl, rfl⟩
theorem d_X12_undo_28 : decode mX12_undo.1 28 = .ok (.aload_n 0, 1) ∧ 28 + 1 = 29 := ⟨by decide +kernel, rfl⟩
theorem d_X12_undo_29 : decode mX12_undo.1 29 = .ok (.getfield 130, 3) ∧ 29 + 3 = 32 := ⟨by decide +kernel, rfl⟩
theorem d_X12_undo_32 : decode mX12_undo.1 32 = .ok (.iload_n 1, 1) ∧ 32 + 1 = 33 := ⟨by decide +kernel, rfl⟩
theorem d_X12_undo_33 : decode mX12_undo.1 33 = .ok (.aload_n 0, 1) ∧ 33 + 1 = 34 := ⟨by decide +kernel, rfl⟩
theorem d_X12_undo_34 : decode mX12_undo.1 34 = .ok (.getfield 167, 3) ∧ 34 + 3 = 37 := ⟨by decide +kernel, rfl⟩
theorem d_X12_undo_37 : decode mX12_undo.1 37 = .ok (.sipush 176, 3) ∧ 37 + 3 = 40 := ⟨by decide +kernel, rfl⟩
theorem d_X12_undo_40 : decode mX12_undo.1 40 = .ok (.aload_n 0, 1) ∧ 40 + 1 = 41 := ⟨by decide +kernel, rfl⟩
theorem d_X12_undo_41 : decode mX12_undo.1 41 = .ok (.getfield 568, 3) ∧ 41 + 3 = 44 := ⟨by decide +kernel, rfl⟩
theorem d_X12_undo_44 : decode mX12_undo.1 44 = .ok (.imul, 1) ∧ 44 + 1 = 45 := ⟨by decide +kernel, rfl⟩
theorem d_X12_undo_45 : decode mX12_undo.1 45 = .ok (.iload_n 1, 1) ∧ 45 + 1 = 46 := ⟨by decide +kernel, rfl⟩
theorem d_X12_undo_46 : decode mX12_undo.1 46 = .ok (.iadd, 1) ∧ 46 + 1 = 47 := ⟨by decide +kernel, rfl⟩
theorem d_X12_undo_47 : decode mX12_undo.1 47 = .ok (.iaload, 1) ∧ 47 + 1 = 48 := ⟨by decide +kernel, rfl⟩
theorem d_X12_undo_48 : decode mX12_undo.1 48 = .ok (.iastore, 1) ∧ 48 + 1 = 49 := ⟨by decide +kernel, rfl⟩
theorem d_X12_undo_49 : decode mX12_undo.1 49 = .ok (.iinc 1 1, 3) ∧ 49 + 3 = 52 := ⟨by decide +kernel, rfl⟩
theorem d_X12_undo_52 : decode mX12_undo.1 52 = .ok (.goto (-31), 3) ∧ ((52 : Nat) : Int) + (-31) = ((21 : Nat) : Int) := ⟨by decide +kernel, rfl⟩
set_option maxRecDepth 100000 in
set_option maxHeartbeats 4000000 in
theorem g_X12_undo_L21 (l : Launch) (G : xa_C) (c0 : Int) (K : (Int × xa_H) ⊕ (xa_H) → Option xa_O) (hb : ∀ (v1 : Int) (h : xa_H), xa_G l G 2 mX12_undo (some (Sum.inl ((v1, h)))) K 21 [some (xR c0), some (xI v1)] [] h) (hx : ∀ (h : xa_H), xa_G l G 2 mX12_undo (some (Sum.inr h)) K 55 [some (xR c0), none] [] h) : ∀ (v1 : Int) (h : xa_H), xa_G l G 2 mX12_undo (f_X12_undo_L21 c0 v1 h) K 21 [some (xR c0), some (xI v1)] [] h := by
  intro v1 h
  unfold f_X12_undo_L21
  refine xa_step (xa_iload_n d_X12_undo_21 rfl) ?_
  refine xa_step (xa_sipush d_X12_undo_22 xq_s_176) ?_
  refine xa_if (xa_icmpge d_X12_undo_25) (fun q6 => ?_) (fun q6 => ?_)
  · refine xa_step (xa_aload_n d_X12_undo_28 rfl) ?_
    refine xa_getf xR xc_12 (by decide) (fun _ => rfl) xw_1354 rfl d_X12_undo_29 (fun x7 _ => ?_)
    refine xa_step (xa_iload_n d_X12_undo_32 rfl) ?_
    refine xa_step (xa_aload_n d_X12_undo_33 rfl) ?_
    refine xa_getf xR xc_12 (by decide) (fun _ => rfl) xw_1377 rfl d_X12_undo_34 (fun x8 _ => ?_)
    refine xa_step (xa_sipush d_X12_undo_37 xq_s_176) ?_
    refine xa_step (xa_aload_n d_X12_undo_40 rfl) ?_
    refine xa_getf xI xc_12 (by decide) (fun _ => rfl) xw_1379 rfl d_X12_undo_41 (fun x9 _ => ?_)
    refine xa_step (xa_imul d_X12_undo_44) ?_
    refine xa_step (xa_iload_n d_X12_undo_45 rfl) ?_
    refine xa_step (xa_iadd d_X12_undo_46) ?_
    refine xa_iaload d_X12_undo_47 (fun x10 _ => ?_)
    refine xa_iastore2 d_X12_undo_48 (fun h11 _ => ?_)
    refine xa_step (xa_iinc (ls' := [some (xR c0), some (xI (w32 (v1 + 1)))]) d_X12_undo_49 xq_i_1 rfl (by decide) rfl) ?_
    refine xa_step (xa_goto d_X12_undo_52) ?_
    exact xa_weak (ls' := [some (xR c0), some (xI (w32 (v1 + 1)))]) ⟨rfl, rfl, trivial⟩ (hb (w32 (v1 + 1)) h11)
  · exact xa_weak (ls' := [some (xR c0), none]) ⟨rfl, trivial⟩ (hx h)
theorem d_X12_undo_55 : decode mX12_undo.1 55 = .ok (.aload_n 0, 1) ∧ 55 + 1 = 56 := ⟨by decide +kernel, rfl⟩
theorem d_X12_undo_56 : decode mX12_undo.1 56 = .ok (.aload_n 0, 1) ∧ 56 + 1 = 57 := ⟨by decide +kernel, rfl⟩
theorem d_X12_undo_57 : decode mX12_undo.1 57 = .ok (.getfield 568, 3) ∧ 57 + 3 = 60 := ⟨by decide +kernel, rfl⟩
theorem d_X12_undo_60 : decode mX12_undo.1 60 = .ok (.bipush 20, 2) ∧ 60 + 2 = 62 := ⟨by decide +kernel, rfl⟩
theorem d_X12_undo_62 : decode mX12_undo.1 62 = .ok (.iadd, 1) ∧ 62 + 1 = 63 := ⟨by decide +kernel, rfl⟩
theorem d_X12_undo_63 : decode mX12_undo.1 63 = .ok (.iconst 1, 1) ∧ 63 + 1 = 64 := ⟨by decide +kernel, rfl⟩
theorem d_X12_undo_64 : decode mX12_undo.1 64 = .ok (.isub, 1) ∧ 64 + 1 = 65 := ⟨by decide +kernel, rfl⟩
theorem d_X12_undo_65 : decode mX12_undo.1 65 = .ok (.bipush 20, 2) ∧ 65 + 2 = 67 := ⟨by decide +kernel, rfl⟩
theorem d_X12_undo_67 : decode mX12_undo.1 67 = .ok (.irem, 1) ∧ 67 + 1 = 68 := ⟨by decide +kernel, rfl⟩
theorem d_X12_undo_68 : decode mX12_undo.1 68 = .ok (.putfield 568, 3) ∧ 68 + 3 = 71 := ⟨by decide +kernel, rfl⟩
theorem d_X12_undo_71 : decode mX12_undo.1 71 = .ok (.aload_n 0, 1) ∧ 71 + 1 = 72 := ⟨by decide +kernel, rfl⟩
theorem d_X12_undo_72 : decode mX12_undo.1 72 = .ok (.dup, 1) ∧ 72 + 1 = 73 := ⟨by decide +kernel, rfl⟩
theorem d_X12_undo_73 : decode mX12_undo.1 73 = .ok (.getfield 390, 3) ∧ 73 + 3 = 76 := ⟨by decide +kernel, rfl⟩
theorem d_X12_undo_76 : decode mX12_undo.1 76 = .ok (.iconst 1, 1) ∧ 76 + 1 = 77 := ⟨by decide +kernel, rfl⟩
theorem d_X12_undo_77 : decode mX12_undo.1 77 = .ok (.isub, 1) ∧ 77 + 1 = 78 := ⟨by decide +kernel, rfl⟩
theorem d_X12_undo_78 : decode mX12_undo.1 78 = .ok (.putfield 390, 3) ∧ 78 + 3 = 81 := ⟨by decide +kernel, rfl⟩
theorem d_X12_undo_81 : decode mX12_undo.1 81 = .ok (.iconst 1, 1) ∧ 81 + 1 = 82 := ⟨by decide +kernel, rfl⟩
theorem d_X12_undo_82 : decode mX12_undo.1 82 = .ok (.ireturn, 1) := by decide +kernel
set_option maxRecDepth 100000 in
set_option maxHeartbeats 4000000 in
theorem g_X12_undo (l : Launch) (G : xa_C) (v0 : Int) (h : xa_H) : xa_G l G 2 mX12_undo (f_X12_undo v0 h) (fun r => some (some (xI r.1), r.2) : (Int × xa_H) → Option xa_O) 0 [some (xR v0), none] [] h := by
  unfold f_X12_undo
  refine xa_step (xa_aload_n d_X12_undo_0 rfl) ?_
  refine xa_getf xI xc_12 (by decide) (fun _ => rfl) xw_1378 rfl d_X12_undo_1 (fun x1 _ => ?_)
  refine xa_if (xa_ifne d_X12_undo_4) (fun q2 => ?_) (fun q2 => ?_)
  · refine xa_step (xa_aload_n d_X12_undo_7 rfl) ?_
    refine xa_getf xR xc_12 (by decide) (fun _ => rfl) xw_1313 rfl d_X12_undo_8 (fun x3 _ => ?_)
    refine xa_step (xa_iconst d_X12_undo_11 xq_i_4) ?_
    refine xa_step (xa_dup2 d_X12_undo_12 (xa_tI _) (xa_tR _)) ?_
    refine xa_iaload d_X12_undo_13 (fun x4 _ => ?_)
    refine xa_step (xa_iconst d_X12_undo_14 xq_i_1) ?_
    refine xa_step (xa_iadd d_X12_undo_15) ?_
    refine xa_iastore2 d_X12_undo_16 (fun h5 _ => ?_)
    refine xa_step (xa_iconst d_X12_undo_17 xq_i_0) ?_
    exact xa_zret d_X12_undo_18 rfl (Or.inl rfl) rfl
  · refine xa_step (xa_iconst d_X12_undo_19 xq_i_0) ?_
    refine xa_step (xa_istore_n (ls' := [some (xR v0), some (xI 0)]) d_X12_undo_20 (by decide) rfl) ?_
    refine xa_weak (ls' := [some (xR v0), some (xI 0)]) ⟨rfl, rfl, trivial⟩ ?_
    refine xa_loop (f := fun s => f_X12_undo_L21 v0 s.1 s.2) (L := fun s => [some (xR v0), some (xI s.1)]) (P := fun s => s.2) (X := (fun x K => xa_G l G 2 mX12_undo (some (Sum.inr x)) K 55 [some (xR v0), none] [] x)) (fun K hb hX s => g_X12_undo_L21 l G v0 K (fun w0 hh => hb ((w0, hh))) (fun hh => hX hh) s.1 s.2) ?_ xFU ((0, h))
    intro e12 K hK
    refine xa_eqE hK ?_
    show xa_G l G 2 mX12_undo _ _ 55 [some (xR v0), none] [] e12
    refine xa_step (xa_aload_n d_X12_undo_55 rfl) ?_
    refine xa_step (xa_aload_n d_X12_undo_56 rfl) ?_
    refine xa_getf xI xc_12 (by decide) (fun _ => rfl) xw_1379 rfl d_X12_undo_57 (fun x13 _ => ?_)
    refine xa_step (xa_bipush d_X12_undo_60 xq_b_20) ?_
    refine xa_step (xa_iadd d_X12_undo_62) ?_
    refine xa_step (xa_iconst d_X12_undo_63 xq_i_1) ?_
    refine xa_step (xa_isub d_X12_undo_64) ?_
    refine xa_step (xa_bipush d_X12_undo_65 xq_b_20) ?_
    refine xa_step (xa_irem d_X12_undo_67 (by decide)) ?_
    refine xa_putf2 (tg := xI) xc_12 (by decide) (fun _ => rfl) rfl (fun c hc => xa_fitI c hc) xw_1379 rfl d_X12_undo_68 (fun h14 _ => ?_)
    refine xa_step (xa_aload_n d_X12_undo_71 rfl) ?_
    refine xa_step (xa_dup d_X12_undo_72 (xa_tR _)) ?_
    refine xa_getf xI xc_12 (by decide) (fun _ => rfl) xw_1378 rfl d_X12_undo_73 (fun x15 _ => ?_)
    refine xa_step (xa_iconst d_X12_undo_76 xq_i_1) ?_
    refine xa_step (xa_isub d_X12_undo_77) ?_
    refine xa_putf2 (tg := xI) xc_12 (by decide) (fun _ => rfl) rfl (fun c hc => xa_fitI c hc) xw_1378 rfl d_X12_undo_78 (fun h16 _ => ?_)
    refine xa_step (xa_iconst d_X12_undo_81 xq_i_1) ?_
    exact xa_zret d_X12_undo_82 rfl (Or.inr rfl) rfl
theorem ct_X12_undo (l : Launch) (G : xa_C) (v0 : Int) (h : xa_H) (r : Int × xa_H) (hr : f_X12_undo v0 h = some r) : xa_CT l G 2 mX12_undo yX12_undo [xR v0] h (some (xI r.1), r.2) :=
  xa_met (by decide +kernel) rfl (fun q => by first | rfl | cases q) (Nat.le_of_ble_eq_true rfl) rfl (g_X12_undo l G v0 h) (by rw [hr]; rfl)
abbrev mX12_values : xa_M := (cX12_values, 3, (some (.int)), RX12, false)
theorem d_X12_values_0 : decode mX12_values.1 0 = .ok (.aload_n 0, 1) ∧ 0 + 1 = 1 := ⟨by decide +kernel, rfl⟩
theorem d_X12_values_1 : decode mX12_values.1 1 = .ok (.iload_n 1, 1) ∧ 1 + 1 = 2 := ⟨by decide +kernel, rfl⟩
theorem d_X12_values_2 : decode mX12_values.1 2 = .ok (.invokevirtual 458, 3) ∧ 2 + 3 = 5 := ⟨by decide +kernel, rfl⟩
theorem d_X12_values_5 : decode mX12_values.1 5 = .ok (.ifCond .eq 20, 3) ∧ 5 + 3 = 8 ∧ ((5 : Nat) : Int) + 20 = ((25 : Nat) : Int) := ⟨by decide +kernel, rfl, rfl⟩
theorem d_X12_values_25 : decode mX12_values.1 25 = .ok (.iconst (-1), 1) ∧ 25 + 1 = 26 := ⟨by decide +kernel, rfl⟩
theorem d_X12_values_26 : decode mX12_values.1 26 = .ok (.ireturn, 1) := by decide +kernel
theorem d_X12_values_8 : decode mX12_values.1 8 = .ok (.aload_n 0, 1) ∧ 8 + 1 = 9 := ⟨by decide +kernel, rfl⟩
theorem d_X12_values_9 : decode mX12_values.1 9 = .ok (.iload_n 2, 1) ∧ 9 + 1 = 10 := ⟨by decide +kernel, rfl⟩
theorem d_X12_values_10 : decode mX12_values.1 10 = .ok (.invokevirtual 488, 3) ∧ 10 + 3 = 13 := ⟨by decide +kernel, rfl⟩
theorem d_X12_values_13 : decode mX12_values.1 13 = .ok (.ifCond .eq 12, 3) ∧ 13 + 3 = 16 ∧ ((13 : Nat) : Int) + 12 = ((25 : Nat) : Int) := ⟨by decide +kernel, rfl, rfl⟩
theorem d_X12_values_16 : decode mX12_values.1 16 = .ok (.aload_n 0, 1) ∧ 16 + 1 = 17 := ⟨by decide +kernel, rfl⟩
theorem d_X12_values_17 : decode mX12_values.1 17 = .ok (.iload_n 1, 1) ∧ 17 + 1 = 18 := ⟨by decide +kernel, rfl⟩
theorem d_X12_values_18 : decode mX12_values.1 18 = .ok (.iload_n 2, 1) ∧ 18 + 1 = 19 := ⟨by decide +kernel, rfl⟩
theorem d_X12_values_19 : decode mX12_values.1 19 = .ok (.invokevirtual 411, 3) ∧ 19 + 3 = 22 := ⟨by decide +kernel, rfl⟩
theorem d_X12_values_22 : decode mX12_values.1 22 = .ok (.goto 4, 3) ∧ ((22 : Nat) : Int) + 4 = ((26 : Nat) : Int) := ⟨by decide +kernel, rfl⟩
set_option maxRecDepth 100000 in
set_option maxHeartbeats 4000000 in
theorem g_X12_values (l : Launch) (G : xa_C) (v0 v1 v2 : Int) (h : xa_H) : xa_G l G 4 mX12_values (f_X12_values v0 v1 v2 h) (fun r => some (some (xI r), h) : Int → Option xa_O) 0 [some (xR v0), some (xI v1), some (xI v2)] [] h := by
  unfold f_X12_values
  refine xa_step (xa_aload_n d_X12_values_0 rfl) ?_
  refine xa_step (xa_iload_n d_X12_values_1 rfl) ?_
  refine xa_callVi (as := [xI v1]) (st := []) (M' := mX12_isHolder) (d' := 3) rfl xw_1889 xw_1891 xw_118 xw_1892 xw_177 xh_X12_isHolder rfl ⟨Nat.le_of_ble_eq_true rfl, Nat.le_of_ble_eq_true rfl⟩ (Nat.le_of_ble_eq_true rfl) rfl d_X12_values_2 (fun r hr => ct_X12_isHolder l G v0 v1 h r hr) (fun r1 _ => ?_)
  refine xa_if (xa_ifeq d_X12_values_5) (fun q2 => ?_) (fun q2 => ?_)
  · refine xa_step (xa_iconst d_X12_values_25 xq_i_m1) ?_
    exact xa_iret d_X12_values_26 rfl rfl
  · refine xa_step (xa_aload_n d_X12_values_8 rfl) ?_
    refine xa_step (xa_iload_n d_X12_values_9 rfl) ?_
    refine xa_callVi (as := [xI v2]) (st := []) (M' := mX12_isHeldThere) (d' := 3) rfl xw_1869 xw_1871 xw_114 xw_1872 xw_177 xh_X12_isHeldThere rfl ⟨Nat.le_of_ble_eq_true rfl, Nat.le_of_ble_eq_true rfl⟩ (Nat.le_of_ble_eq_true rfl) rfl d_X12_values_10 (fun r hr => ct_X12_isHeldThere l G v0 v2 h r hr) (fun r3 _ => ?_)
    refine xa_if (xa_ifeq d_X12_values_13) (fun q4 => ?_) (fun q4 => ?_)
    · refine xa_step (xa_iconst d_X12_values_25 xq_i_m1) ?_
      exact xa_iret d_X12_values_26 rfl rfl
    · refine xa_step (xa_aload_n d_X12_values_16 rfl) ?_
      refine xa_step (xa_iload_n d_X12_values_17 rfl) ?_
      refine xa_step (xa_iload_n d_X12_values_18 rfl) ?_
      refine xa_callVi (as := [xI v1, xI v2]) (st := []) (M' := mX12_valueOf) (d' := 2) rfl xw_1856 xw_1858 xw_113 xw_1859 xw_177 xh_X12_valueOf rfl ⟨Nat.le_of_ble_eq_true rfl, Nat.le_of_ble_eq_true rfl⟩ (Nat.le_of_ble_eq_true rfl) rfl d_X12_values_19 (fun r hr => ct_X12_valueOf l G v0 v1 v2 h r hr) (fun r5 _ => ?_)
      refine xa_step (xa_goto d_X12_values_22) ?_
      exact xa_iret d_X12_values_26 rfl rfl
theorem ct_X12_values (l : Launch) (G : xa_C) (v0 v1 v2 : Int) (h : xa_H) (r : Int) (hr : f_X12_values v0 v1 v2 h = some r) : xa_CT l G 4 mX12_values yX12_values [xR v0, xI v1, xI v2] h (some (xI r), h) :=
  xa_met (by decide +kernel) rfl (fun q => by first | rfl | cases q) (Nat.le_of_ble_eq_true rfl) rfl (g_X12_values l G v0 v1 v2 h) (by rw [hr]; rfl)
abbrev mX12_want : xa_M := (cX12_want, 3, (some (.boolean)), RX12, false)
theorem d_X12_want_0 : decode mX12_want.1 0 = .ok (.aload_n 0, 1) ∧ 0 + 1 = 1 := ⟨by decide +kernel, rfl⟩
theorem d_X12_want_1 : decode mX12_want.1 1 = .ok (.iload_n 1, 1) ∧ 1 + 1 = 2 := ⟨by decide +kernel, rfl⟩
theorem d_X12_want_2 : decode mX12_want.1 2 = .ok (.invokevirtual 458, 3) ∧ 2 + 3 = 5 := ⟨by decide +kernel, rfl⟩
theorem d_X12_want_5 : decode mX12_want.1 5 = .ok (.ifCond .eq 20, 3) ∧ 5 + 3 = 8 ∧ ((5 : Nat) : Int) + 20 = ((25 : Nat) : Int) := ⟨by decide +kernel, rfl, rfl⟩
theorem d_X12_want_25 : decode mX12_want.1 25 = .ok (.aload_n 0, 1) ∧ 25 + 1 = 26 := ⟨by decide +kernel, rfl⟩
theorem d_X12_want_26 : decode mX12_want.1 26 = .ok (.getfield 17, 3) ∧ 26 + 3 = 29 := ⟨by decide +kernel, rfl⟩
theorem d_X12_want_29 : decode mX12_want.1 29 = .ok (.iconst 2, 1) ∧ 29 + 1 = 30 := ⟨by decide +kernel, rfl⟩
theorem d_X12_want_30 : decode mX12_want.1 30 = .ok (.dup2, 1) ∧ 30 + 1 = 31 := ⟨by decide +kernel, rfl⟩
theorem d_X12_want_31 : decode mX12_want.1 31 = .ok (.iaload, 1) ∧ 31 + 1 = 32 := ⟨by decide +kernel, rfl⟩
theorem d_X12_want_32 : decode mX12_want.1 32 = .ok (.iconst 1, 1) ∧ 32 + 1 = 33 := ⟨by decide +kernel, rfl⟩
theorem d_X12_want_33 : decode mX12_want.1 33 = .ok (.iadd, 1) ∧ 33 + 1 = 34 := ⟨by decide +kernel, rfl⟩
theorem d_X12_want_34 : decode mX12_want.1 34 = .ok (.iastore, 1) ∧ 34 + 1 = 35 := ⟨by decide +kernel, rfl⟩
theorem d_X12_want_35 : decode mX12_want.1 35 = .ok (.iconst 0, 1) ∧ 35 + 1 = 36 := ⟨by decide +kernel, rfl⟩
theorem d_X12_want_36 : decode mX12_want.1 36 = .ok (.ireturn, 1) := by decide +kernel
theorem d_X12_want_8 : decode mX12_want.1 8 = .ok (.aload_n 0, 1) ∧ 8 + 1 = 9 := ⟨by decide +kernel, rfl⟩
theorem d_X12_want_9 : decode mX12_want.1 9 = .ok (.iload_n 2, 1) ∧ 9 + 1 = 10 := ⟨by decide +kernel, rfl⟩
theorem d_X12_want_10 : decode mX12_want.1 10 = .ok (.invokevirtual 488, 3) ∧ 10 + 3 = 13 := ⟨by decide +kernel, rfl⟩
theorem d_X12_want_13 : decode mX12_want.1 13 = .ok (.ifCond .eq 12, 3) ∧ 13 + 3 = 16 ∧ ((13 : Nat) : Int) + 12 = ((25 : Nat) : Int) := ⟨by decide +kernel, rfl, rfl⟩
theorem d_X12_want_16 : decode mX12_want.1 16 = .ok (.aload_n 0, 1) ∧ 16 + 1 = 17 := ⟨by decide +kernel, rfl⟩
theorem d_X12_want_17 : decode mX12_want.1 17 = .ok (.iload_n 1, 1) ∧ 17 + 1 = 18 := ⟨by decide +kernel, rfl⟩
theorem d_X12_want_18 : decode mX12_want.1 18 = .ok (.invokevirtual 408, 3) ∧ 18 + 3 = 21 := ⟨by decide +kernel, rfl⟩
theorem d_X12_want_21 : decode mX12_want.1 21 = .ok (.iload_n 2, 1) ∧ 21 + 1 = 22 := ⟨by decide +kernel, rfl⟩
theorem d_X12_want_22 : decode mX12_want.1 22 = .ok (.if_icmp .ne 15, 3) ∧ 22 + 3 = 25 ∧ ((22 : Nat) : Int) + 15 = ((37 : Nat) : Int) := ⟨by decide +kernel, rfl, rfl⟩
theorem d_X12_want_37 : decode mX12_want.1 37 = .ok (.aload_n 0, 1) ∧ 37 + 1 = 38 := ⟨by decide +kernel, rfl⟩
theorem d_X12_want_38 : decode mX12_want.1 38 = .ok (.invokevirtual 571, 3) ∧ 38 + 3 = 41 := ⟨by decide +kernel, rfl⟩
theorem d_X12_want_41 : decode mX12_want.1 41 = .ok (.aload_n 0, 1) ∧ 41 + 1 = 42 := ⟨by decide +kernel, rfl⟩
theorem d_X12_want_42 : decode mX12_want.1 42 = .ok (.getfield 130, 3) ∧ 42 + 3 = 45 := ⟨by decide +kernel, rfl⟩
theorem d_X12_want_45 : decode mX12_want.1 45 = .ok (.iconst 1, 1) ∧ 45 + 1 = 46 := ⟨by decide +kernel, rfl⟩
theorem d_X12_want_46 : decode mX12_want.1 46 = .ok (.bipush 9, 2) ∧ 46 + 2 = 48 := ⟨by decide +kernel, rfl⟩
theorem d_X12_want_48 : decode mX12_want.1 48 = .ok (.iload_n 1, 1) ∧ 48 + 1 = 49 := ⟨by decide +kernel, rfl⟩
theorem d_X12_want_49 : decode mX12_want.1 49 = .ok (.imul, 1) ∧ 49 + 1 = 50 := ⟨by decide +kernel, rfl⟩
theorem d_X12_want_50 : decode mX12_want.1 50 = .ok (.iadd, 1) ∧ 50 + 1 = 51 := ⟨by decide +kernel, rfl⟩
theorem d_X12_want_51 : decode mX12_want.1 51 = .ok (.iconst 1, 1) ∧ 51 + 1 = 52 := ⟨by decide +kernel, rfl⟩
theorem d_X12_want_52 : decode mX12_want.1 52 = .ok (.iadd, 1) ∧ 52 + 1 = 53 := ⟨by decide +kernel, rfl⟩
theorem d_X12_want_53 : decode mX12_want.1 53 = .ok (.iload_n 2, 1) ∧ 53 + 1 = 54 := ⟨by decide +kernel, rfl⟩
theorem d_X12_want_54 : decode mX12_want.1 54 = .ok (.iastore, 1) ∧ 54 + 1 = 55 := ⟨by decide +kernel, rfl⟩
theorem d_X12_want_55 : decode mX12_want.1 55 = .ok (.iconst 1, 1) ∧ 55 + 1 = 56 := ⟨by decide +kernel, rfl⟩
theorem d_X12_want_56 : decode mX12_want.1 56 = .ok (.ireturn, 1) := by decide +kernel
set_option maxRecDepth 100000 in
set_option maxHeartbeats 4000000 in
theorem g_X12_want (l : Launch) (G : xa_C) (v0 v1 v2 : Int) (h : xa_H) : xa_G l G 4 mX12_want (f_X12_want v0 v1 v2 h) (fun r => some (some (xI r.1), r.2) : (Int × xa_H) → Option xa_O) 0 [some (xR v0), some (xI v1), some (xI v2)] [] h := by
  unfold f_X12_want
  refine xa_step (xa_aload_n d_X12_want_0 rfl) ?_
  refine xa_step (xa_iload_n d_X12_want_1 rfl) ?_
  refine xa_callVi (as := [xI v1]) (st := []) (M' := mX12_isHolder) (d' := 3) rfl xw_1889 xw_1891 xw_118 xw_1892 xw_177 xh_X12_isHolder rfl ⟨Nat.le_of_ble_eq_true rfl, Nat.le_of_ble_eq_true rfl⟩ (Nat.le_of_ble_eq_true rfl) rfl d_X12_want_2 (fun r hr => ct_X12_isHolder l G v0 v1 h r hr) (fun r1 _ => ?_)
  refine xa_if (xa_ifeq d_X12_want_5) (fun q2 => ?_) (fun q2 => ?_)
  · refine xa_step (xa_aload_n d_X12_want_25 rfl) ?_
    refine xa_getf xR xc_12 (by decide) (fun _ => rfl) xw_1313 rfl d_X12_want_26 (fun x3 _ => ?_)
    refine xa_step (xa_iconst d_X12_want_29 xq_i_2) ?_
    refine xa_step (xa_dup2 d_X12_want_30 (xa_tI _) (xa_tR _)) ?_
    refine xa_iaload d_X12_want_31 (fun x4 _ => ?_)
    refine xa_step (xa_iconst d_X12_want_32 xq_i_1) ?_
    refine xa_step (xa_iadd d_X12_want_33) ?_
    refine xa_iastore2 d_X12_want_34 (fun h5 _ => ?_)
    refine xa_step (xa_iconst d_X12_want_35 xq_i_0) ?_
    exact xa_zret d_X12_want_36 rfl (Or.inl rfl) rfl
  · refine xa_step (xa_aload_n d_X12_want_8 rfl) ?_
    refine xa_step (xa_iload_n d_X12_want_9 rfl) ?_
    refine xa_callVi (as := [xI v2]) (st := []) (M' := mX12_isHeldThere) (d' := 3) rfl xw_1869 xw_1871 xw_114 xw_1872 xw_177 xh_X12_isHeldThere rfl ⟨Nat.le_of_ble_eq_true rfl, Nat.le_of_ble_eq_true rfl⟩ (Nat.le_of_ble_eq_true rfl) rfl d_X12_want_10 (fun r hr => ct_X12_isHeldThere l G v0 v2 h r hr) (fun r6 _ => ?_)
    refine xa_if (xa_ifeq d_X12_want_13) (fun q7 => ?_) (fun q7 => ?_)
    · refine xa_step (xa_aload_n d_X12_want_25 rfl) ?_
      refine xa_getf xR xc_12 (by decide) (fun _ => rfl) xw_1313 rfl d_X12_want_26 (fun x8 _ => ?_)
      refine xa_step (xa_iconst d_X12_want_29 xq_i_2) ?_
      refine xa_step (xa_dup2 d_X12_want_30 (xa_tI _) (xa_tR _)) ?_
      refine xa_iaload d_X12_want_31 (fun x9 _ => ?_)
      refine xa_step (xa_iconst d_X12_want_32 xq_i_1) ?_
      refine xa_step (xa_iadd d_X12_want_33) ?_
      refine xa_iastore2 d_X12_want_34 (fun h10 _ => ?_)
      refine xa_step (xa_iconst d_X12_want_35 xq_i_0) ?_
      exact xa_zret d_X12_want_36 rfl (Or.inl rfl) rfl
    · refine xa_step (xa_aload_n d_X12_want_16 rfl) ?_
      refine xa_step (xa_iload_n d_X12_want_17 rfl) ?_
      refine xa_callVi (as := [xI v1]) (st := []) (M' := mX12_wantedBy) (d' := 2) rfl xw_1848 xw_1850 xw_111 xw_1851 xw_177 xh_X12_wantedBy rfl ⟨Nat.le_of_ble_eq_true rfl, Nat.le_of_ble_eq_true rfl⟩ (Nat.le_of_ble_eq_true rfl) rfl d_X12_want_18 (fun r hr => ct_X12_wantedBy l G v0 v1 h r hr) (fun r11 _ => ?_)
      refine xa_step (xa_iload_n d_X12_want_21 rfl) ?_
      refine xa_if (xa_icmpne d_X12_want_22) (fun q12 => ?_) (fun q12 => ?_)
      · refine xa_step (xa_aload_n d_X12_want_25 rfl) ?_
        refine xa_getf xR xc_12 (by decide) (fun _ => rfl) xw_1313 rfl d_X12_want_26 (fun x13 _ => ?_)
        refine xa_step (xa_iconst d_X12_want_29 xq_i_2) ?_
        refine xa_step (xa_dup2 d_X12_want_30 (xa_tI _) (xa_tR _)) ?_
        refine xa_iaload d_X12_want_31 (fun x14 _ => ?_)
        refine xa_step (xa_iconst d_X12_want_32 xq_i_1) ?_
        refine xa_step (xa_iadd d_X12_want_33) ?_
        refine xa_iastore2 d_X12_want_34 (fun h15 _ => ?_)
        refine xa_step (xa_iconst d_X12_want_35 xq_i_0) ?_
        exact xa_zret d_X12_want_36 rfl (Or.inl rfl) rfl
      · refine xa_step (xa_aload_n d_X12_want_37 rfl) ?_
        refine xa_callVV (as := []) (st := []) (M' := mX12_keeps) (d' := 2) rfl xw_2089 xw_2091 xw_147 xw_2092 xw_177 xh_X12_keeps rfl ⟨Nat.le_of_ble_eq_true rfl, Nat.le_of_ble_eq_true rfl⟩ (Nat.le_of_ble_eq_true rfl) rfl d_X12_want_38 (fun r hr => ct_X12_keeps l G v0 h r hr) (fun r16 _ => ?_)
        refine xa_step (xa_aload_n d_X12_want_41 rfl) ?_
        refine xa_getf xR xc_12 (by decide) (fun _ => rfl) xw_1354 rfl d_X12_want_42 (fun x17 _ => ?_)
        refine xa_step (xa_iconst d_X12_want_45 xq_i_1) ?_
        refine xa_step (xa_bipush d_X12_want_46 xq_b_9) ?_
        refine xa_step (xa_iload_n d_X12_want_48 rfl) ?_
        refine xa_step (xa_imul d_X12_want_49) ?_
        refine xa_step (xa_iadd d_X12_want_50) ?_
        refine xa_step (xa_iconst d_X12_want_51 xq_i_1) ?_
        refine xa_step (xa_iadd d_X12_want_52) ?_
        refine xa_step (xa_iload_n d_X12_want_53 rfl) ?_
        refine xa_iastore2 d_X12_want_54 (fun h18 _ => ?_)
        refine xa_step (xa_iconst d_X12_want_55 xq_i_1) ?_
        exact xa_zret d_X12_want_56 rfl (Or.inr rfl) rfl
theorem ct_X12_want (l : Launch) (G : xa_C) (v0 v1 v2 : Int) (h : xa_H) (r : Int × xa_H) (hr : f_X12_want v0 v1 v2 h = some r) : xa_CT l G 4 mX12_want yX12_want [xR v0, xI v1, xI v2] h (some (xI r.1), r.2) :=
  xa_met (by decide +kernel) rfl (fun q => by first | rfl | cases q) (Nat.le_of_ble_eq_true rfl) rfl (g_X12_want l G v0 v1 v2 h) (by rw [hr]; rfl)
