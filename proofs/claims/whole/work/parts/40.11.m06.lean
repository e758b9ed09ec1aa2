abbrev mX1_readStatement : xa_M := (cX1_readStatement, 1, (some (.boolean)), RX1, false)
theorem d_X1_readStatement_0 : decode mX1_readStatement.1 0 = .ok (.aload_n 0, 1) ∧ 0 + 1 = 1 := ⟨by decide +kernel, rfl⟩
theorem d_X1_readStatement_1 : decode mX1_readStatement.1 1 = .ok (.getfield 15, 3) ∧ 1 + 3 = 4 := ⟨by decide +kernel, rfl⟩
theorem d_X1_readStatement_4 : decode mX1_readStatement.1 4 = .ok (.getfield 50, 3) ∧ 4 + 3 = 7 := ⟨by decide +kernel, rfl⟩
theorem d_X1_readStatement_7 : decode mX1_readStatement.1 7 = .ok (.tableswitch 240 0 11 #[61, 240, 85, 240, 240, 240, 109, 114, 138, 143, 189, 235], 61) := by decide +kernel
theorem d_X1_readStatement_68 : decode mX1_readStatement.1 68 = .ok (.aload_n 0, 1) ∧ 68 + 1 = 69 := ⟨by decide +kernel, rfl⟩
theorem d_X1_readStatement_69 : decode mX1_readStatement.1 69 = .ok (.getfield 9, 3) ∧ 69 + 3 = 72 := ⟨by decide +kernel, rfl⟩
theorem d_X1_readStatement_72 : decode mX1_readStatement.1 72 = .ok (.getfield 53, 3) ∧ 72 + 3 = 75 := ⟨by decide +kernel, rfl⟩
theorem d_X1_readStatement_75 : decode mX1_readStatement.1 75 = .ok (.bipush 6, 2) ∧ 75 + 2 = 77 := ⟨by decide +kernel, rfl⟩
theorem d_X1_readStatement_77 : decode mX1_readStatement.1 77 = .ok (.if_icmp .ge 10, 3) ∧ 77 + 3 = 80 ∧ ((77 : Nat) : Int) + 10 = ((87 : Nat) : Int) := ⟨by decide +kernel, rfl, rfl⟩
theorem d_X1_readStatement_80 : decode mX1_readStatement.1 80 = .ok (.aload_n 0, 1) ∧ 80 + 1 = 81 := ⟨by decide +kernel, rfl⟩
theorem d_X1_readStatement_81 : decode mX1_readStatement.1 81 = .ok (.invokevirtual 56, 3) ∧ 81 + 3 = 84 := ⟨by decide +kernel, rfl⟩
theorem d_X1_readStatement_84 : decode mX1_readStatement.1 84 = .ok (.goto 7, 3) ∧ ((84 : Nat) : Int) + 7 = ((91 : Nat) : Int) := ⟨by decide +kernel, rfl⟩
theorem d_X1_readStatement_91 : decode mX1_readStatement.1 91 = .ok (.ireturn, 1) := by decide +kernel
theorem d_X1_readStatement_87 : decode mX1_readStatement.1 87 = .ok (.aload_n 0, 1) ∧ 87 + 1 = 88 := ⟨by decide +kernel, rfl⟩
theorem d_X1_readStatement_88 : decode mX1_readStatement.1 88 = .ok (.invokevirtual 39, 3) ∧ 88 + 3 = 91 := ⟨by decide +kernel, rfl⟩
theorem d_X1_readStatement_247 : decode mX1_readStatement.1 247 = .ok (.aload_n 0, 1) ∧ 247 + 1 = 248 := ⟨by decide +kernel, rfl⟩
theorem d_X1_readStatement_248 : decode mX1_readStatement.1 248 = .ok (.getfield 15, 3) ∧ 248 + 3 = 251 := ⟨by decide +kernel, rfl⟩
theorem d_X1_readStatement_251 : decode mX1_readStatement.1 251 = .ok (.invokevirtual 96, 3) ∧ 251 + 3 = 254 := ⟨by decide +kernel, rfl⟩
theorem d_X1_readStatement_254 : decode mX1_readStatement.1 254 = .ok (.ireturn, 1) := by decide +kernel
theorem d_X1_readStatement_92 : decode mX1_readStatement.1 92 = .ok (.aload_n 0, 1) ∧ 92 + 1 = 93 := ⟨by decide +kernel, rfl⟩
theorem d_X1_readStatement_93 : decode mX1_readStatement.1 93 = .ok (.getfield 9, 3) ∧ 93 + 3 = 96 := ⟨by decide +kernel, rfl⟩
theorem d_X1_readStatement_96 : decode mX1_readStatement.1 96 = .ok (.getfield 59, 3) ∧ 96 + 3 = 99 := ⟨by decide +kernel, rfl⟩
theorem d_X1_readStatement_99 : decode mX1_readStatement.1 99 = .ok (.bipush 6, 2) ∧ 99 + 2 = 101 := ⟨by decide +kernel, rfl⟩
theorem d_X1_readStatement_101 : decode mX1_readStatement.1 101 = .ok (.if_icmp .ge 10, 3) ∧ 101 + 3 = 104 ∧ ((101 : Nat) : Int) + 10 = ((111 : Nat) : Int) := ⟨by decide +kernel, rfl, rfl⟩
theorem d_X1_readStatement_104 : decode mX1_readStatement.1 104 = .ok (.aload_n 0, 1) ∧ 104 + 1 = 105 := ⟨by decide +kernel, rfl⟩
theorem d_X1_readStatement_105 : decode mX1_readStatement.1 105 = .ok (.invokevirtual 62, 3) ∧ 105 + 3 = 108 := ⟨by decide +kernel, rfl⟩
theorem d_X1_readStatement_108 : decode mX1_readStatement.1 108 = .ok (.goto 7, 3) ∧ ((108 : Nat) : Int) + 7 = ((115 : Nat) : Int) := ⟨by decide +kernel, rfl⟩
theorem d_X1_readStatement_115 : decode mX1_readStatement.1 115 = .ok (.ireturn, 1) := by decide +kernel
theorem d_X1_readStatement_111 : decode mX1_readStatement.1 111 = .ok (.aload_n 0, 1) ∧ 111 + 1 = 112 := ⟨by decide +kernel, rfl⟩
theorem d_X1_readStatement_112 : decode mX1_readStatement.1 112 = .ok (.invokevirtual 39, 3) ∧ 112 + 3 = 115 := ⟨by decide +kernel, rfl⟩
theorem d_X1_readStatement_116 : decode mX1_readStatement.1 116 = .ok (.aload_n 0, 1) ∧ 116 + 1 = 117 := ⟨by decide +kernel, rfl⟩
theorem d_X1_readStatement_117 : decode mX1_readStatement.1 117 = .ok (.invokevirtual 65, 3) ∧ 117 + 3 = 120 := ⟨by decide +kernel, rfl⟩
theorem d_X1_readStatement_120 : decode mX1_readStatement.1 120 = .ok (.ireturn, 1) := by decide +kernel
theorem d_X1_readStatement_121 : decode mX1_readStatement.1 121 = .ok (.aload_n 0, 1) ∧ 121 + 1 = 122 := ⟨by decide +kernel, rfl⟩
theorem d_X1_readStatement_122 : decode mX1_readStatement.1 122 = .ok (.getfield 9, 3) ∧ 122 + 3 = 125 := ⟨by decide +kernel, rfl⟩
theorem d_X1_readStatement_125 : decode mX1_readStatement.1 125 = .ok (.getfield 68, 3) ∧ 125 + 3 = 128 := ⟨by decide +kernel, rfl⟩
theorem d_X1_readStatement_128 : decode mX1_readStatement.1 128 = .ok (.bipush 10, 2) ∧ 128 + 2 = 130 := ⟨by decide +kernel, rfl⟩
theorem d_X1_readStatement_130 : decode mX1_readStatement.1 130 = .ok (.if_icmp .ge 10, 3) ∧ 130 + 3 = 133 ∧ ((130 : Nat) : Int) + 10 = ((140 : Nat) : Int) := ⟨by decide +kernel, rfl, rfl⟩
theorem d_X1_readStatement_133 : decode mX1_readStatement.1 133 = .ok (.aload_n 0, 1) ∧ 133 + 1 = 134 := ⟨by decide +kernel, rfl⟩
theorem d_X1_readStatement_134 : decode mX1_readStatement.1 134 = .ok (.invokevirtual 71, 3) ∧ 134 + 3 = 137 := ⟨by decide +kernel, rfl⟩
theorem d_X1_readStatement_137 : decode mX1_readStatement.1 137 = .ok (.goto 7, 3) ∧ ((137 : Nat) : Int) + 7 = ((144 : Nat) : Int) := ⟨by decide +kernel, rfl⟩
theorem d_X1_readStatement_144 : decode mX1_readStatement.1 144 = .ok (.ireturn, 1) := by decide +kernel
theorem d_X1_readStatement_140 : decode mX1_readStatement.1 140 = .ok (.aload_n 0, 1) ∧ 140 + 1 = 141 := ⟨by decide +kernel, rfl⟩
theorem d_X1_readStatement_141 : decode mX1_readStatement.1 141 = .ok (.invokevirtual 39, 3) ∧ 141 + 3 = 144 := ⟨by decide +kernel, rfl⟩
theorem d_X1_readStatement_145 : decode mX1_readStatement.1 145 = .ok (.aload_n 0, 1) ∧ 145 + 1 = 146 := ⟨by decide +kernel, rfl⟩
theorem d_X1_readStatement_146 : decode mX1_readStatement.1 146 = .ok (.invokevirtual 74, 3) ∧ 146 + 3 = 149 := ⟨by decide +kernel, rfl⟩
theorem d_X1_readStatement_149 : decode mX1_readStatement.1 149 = .ok (.ireturn, 1) := by decide +kernel
theorem d_X1_readStatement_150 : decode mX1_readStatement.1 150 = .ok (.aload_n 0, 1) ∧ 150 + 1 = 151 := ⟨by decide +kernel, rfl⟩
theorem d_X1_readStatement_151 : decode mX1_readStatement.1 151 = .ok (.getfield 9, 3) ∧ 151 + 3 = 154 := ⟨by decide +kernel, rfl⟩
theorem d_X1_readStatement_154 : decode mX1_readStatement.1 154 = .ok (.getfield 77, 3) ∧ 154 + 3 = 157 := ⟨by decide +kernel, rfl⟩
theorem d_X1_readStatement_157 : decode mX1_readStatement.1 157 = .ok (.ifnull 8, 3) ∧ 157 + 3 = 160 ∧ ((157 : Nat) : Int) + 8 = ((165 : Nat) : Int) := ⟨by decide +kernel, rfl, rfl⟩
theorem d_X1_readStatement_165 : decode mX1_readStatement.1 165 = .ok (.aload_n 0, 1) ∧ 165 + 1 = 166 := ⟨by decide +kernel, rfl⟩
theorem d_X1_readStatement_166 : decode mX1_readStatement.1 166 = .ok (.getfield 9, 3) ∧ 166 + 3 = 169 := ⟨by decide +kernel, rfl⟩
theorem d_X1_readStatement_169 : decode mX1_readStatement.1 169 = .ok (.aload_n 0, 1) ∧ 169 + 1 = 170 := ⟨by decide +kernel, rfl⟩
theorem d_X1_readStatement_170 : decode mX1_readStatement.1 170 = .ok (.getfield 19, 3) ∧ 170 + 3 = 173 := ⟨by decide +kernel, rfl⟩
theorem d_X1_readStatement_173 : decode mX1_readStatement.1 173 = .ok (.iconst 0, 1) ∧ 173 + 1 = 174 := ⟨by decide +kernel, rfl⟩
theorem d_X1_readStatement_174 : decode mX1_readStatement.1 174 = .ok (.invokevirtual 81, 3) ∧ 174 + 3 = 177 := ⟨by decide +kernel, rfl⟩
theorem d_X1_readStatement_177 : decode mX1_readStatement.1 177 = .ok (.putfield 77, 3) ∧ 177 + 3 = 180 := ⟨by decide +kernel, rfl⟩
theorem d_X1_readStatement_180 : decode mX1_readStatement.1 180 = .ok (.aload_n 0, 1) ∧ 180 + 1 = 181 := ⟨by decide +kernel, rfl⟩
theorem d_X1_readStatement_181 : decode mX1_readStatement.1 181 = .ok (.getfield 9, 3) ∧ 181 + 3 = 184 := ⟨by decide +kernel, rfl⟩
theorem d_X1_readStatement_184 : decode mX1_readStatement.1 184 = .ok (.getfield 77, 3) ∧ 184 + 3 = 187 := ⟨by decide +kernel, rfl⟩
theorem d_X1_readStatement_187 : decode mX1_readStatement.1 187 = .ok (.ifnull 7, 3) ∧ 187 + 3 = 190 ∧ ((187 : Nat) : Int) + 7 = ((194 : Nat) : Int) := ⟨by decide +kernel, rfl, rfl⟩
theorem d_X1_readStatement_194 : decode mX1_readStatement.1 194 = .ok (.iconst 0, 1) ∧ 194 + 1 = 195 := ⟨by decide +kernel, rfl⟩
theorem d_X1_readStatement_195 : decode mX1_readStatement.1 195 = .ok (.ireturn, 1) := by decide +kernel
theorem d_X1_readStatement_190 : decode mX1_readStatement.1 190 = .ok (.iconst 1, 1) ∧ 190 + 1 = 191 := ⟨by decide +kernel, rfl⟩
theorem d_X1_readStatement_191 : decode mX1_readStatement.1 191 = .ok (.goto 4, 3) ∧ ((191 : Nat) : Int) + 4 = ((195 : Nat) : Int) := ⟨by decide +kernel, rfl⟩
theorem d_X1_readStatement_160 : decode mX1_readStatement.1 160 = .ok (.aload_n 0, 1) ∧ 160 + 1 = 161 := ⟨by decide +kernel, rfl⟩
theorem d_X1_readStatement_161 : decode mX1_readStatement.1 161 = .ok (.invokevirtual 39, 3) ∧ 161 + 3 = 164 := ⟨by decide +kernel, rfl⟩
theorem d_X1_readStatement_164 : decode mX1_readStatement.1 164 = .ok (.ireturn, 1) := by decide +kernel
theorem d_X1_readStatement_196 : decode mX1_readStatement.1 196 = .ok (.aload_n 0, 1) ∧ 196 + 1 = 197 := ⟨by decide +kernel, rfl⟩
theorem d_X1_readStatement_197 : decode mX1_readStatement.1 197 = .ok (.getfield 9, 3) ∧ 197 + 3 = 200 := ⟨by decide +kernel, rfl⟩
theorem d_X1_readStatement_200 : decode mX1_readStatement.1 200 = .ok (.getfield 87, 3) ∧ 200 + 3 = 203 := ⟨by decide +kernel, rfl⟩
theorem d_X1_readStatement_203 : decode mX1_readStatement.1 203 = .ok (.ifnull 8, 3) ∧ 203 + 3 = 206 ∧ ((203 : Nat) : Int) + 8 = ((211 : Nat) : Int) := ⟨by decide +kernel, rfl, rfl⟩
theorem d_X1_readStatement_211 : decode mX1_readStatement.1 211 = .ok (.aload_n 0, 1) ∧ 211 + 1 = 212 := ⟨by decide +kernel, rfl⟩
theorem d_X1_readStatement_212 : decode mX1_readStatement.1 212 = .ok (.getfield 9, 3) ∧ 212 + 3 = 215 := ⟨by decide +kernel, rfl⟩
theorem d_X1_readStatement_215 : decode mX1_readStatement.1 215 = .ok (.aload_n 0, 1) ∧ 215 + 1 = 216 := ⟨by decide +kernel, rfl⟩
theorem d_X1_readStatement_216 : decode mX1_readStatement.1 216 = .ok (.getfield 19, 3) ∧ 216 + 3 = 219 := ⟨by decide +kernel, rfl⟩
theorem d_X1_readStatement_219 : decode mX1_readStatement.1 219 = .ok (.iconst 0, 1) ∧ 219 + 1 = 220 := ⟨by decide +kernel, rfl⟩
theorem d_X1_readStatement_220 : decode mX1_readStatement.1 220 = .ok (.invokevirtual 90, 3) ∧ 220 + 3 = 223 := ⟨by decide +kernel, rfl⟩
theorem d_X1_readStatement_223 : decode mX1_readStatement.1 223 = .ok (.putfield 87, 3) ∧ 223 + 3 = 226 := ⟨by decide +kernel, rfl⟩
theorem d_X1_readStatement_226 : decode mX1_readStatement.1 226 = .ok (.aload_n 0, 1) ∧ 226 + 1 = 227 := ⟨by decide +kernel, rfl⟩
theorem d_X1_readStatement_227 : decode mX1_readStatement.1 227 = .ok (.getfield 9, 3) ∧ 227 + 3 = 230 := ⟨by decide +kernel, rfl⟩
theorem d_X1_readStatement_230 : decode mX1_readStatement.1 230 = .ok (.getfield 87, 3) ∧ 230 + 3 = 233 := ⟨by decide +kernel, rfl⟩
theorem d_X1_readStatement_233 : decode mX1_readStatement.1 233 = .ok (.ifnull 7, 3) ∧ 233 + 3 = 236 ∧ ((233 : Nat) : Int) + 7 = ((240 : Nat) : Int) := ⟨by decide +kernel, rfl, rfl⟩
theorem d_X1_readStatement_240 : decode mX1_readStatement.1 240 = .ok (.iconst 0, 1) ∧ 240 + 1 = 241 := ⟨by decide +kernel, rfl⟩
theorem d_X1_readStatement_241 : decode mX1_readStatement.1 241 = .ok (.ireturn, 1) := by decide +kernel
theorem d_X1_readStatement_236 : decode mX1_readStatement.1 236 = .ok (.iconst 1, 1) ∧ 236 + 1 = 237 := ⟨by decide +kernel, rfl⟩
theorem d_X1_readStatement_237 : decode mX1_readStatement.1 237 = .ok (.goto 4, 3) ∧ ((237 : Nat) : Int) + 4 = ((241 : Nat) : Int) := ⟨by decide +kernel, rfl⟩
theorem d_X1_readStatement_206 : decode mX1_readStatement.1 206 = .ok (.aload_n 0, 1) ∧ 206 + 1 = 207 := ⟨by decide +kernel, rfl⟩
theorem d_X1_readStatement_207 : decode mX1_readStatement.1 207 = .ok (.invokevirtual 39, 3) ∧ 207 + 3 = 210 := ⟨by decide +kernel, rfl⟩
theorem d_X1_readStatement_210 : decode mX1_readStatement.1 210 = .ok (.ireturn, 1) := by decide +kernel
theorem d_X1_readStatement_242 : decode mX1_readStatement.1 242 = .ok (.aload_n 0, 1) ∧ 242 + 1 = 243 := ⟨by decide +kernel, rfl⟩
theorem d_X1_readStatement_243 : decode mX1_readStatement.1 243 = .ok (.invokevirtual 93, 3) ∧ 243 + 3 = 246 := ⟨by decide +kernel, rfl⟩
theorem d_X1_readStatement_246 : decode mX1_readStatement.1 246 = .ok (.ireturn, 1) := by decide +kernel
set_option maxRecDepth 100000 in
set_option maxHeartbeats 4000000 in
theorem g_X1_readStatement (l : Launch) (G : xa_C) (v0 : Int) (h : xa_H) : xa_G l G 66 mX1_readStatement (f_X1_readStatement v0 h) (fun r => some (some (xI r.1), r.2) : (Int × xa_H) → Option xa_O) 0 [some (xR v0)] [] h := by
  unfold f_X1_readStatement
  refine xa_step (xa_aload_n d_X1_readStatement_0 rfl) ?_
  refine xa_getf xR xc_1 (by decide) (fun _ => rfl) xw_317 rfl d_X1_readStatement_1 (fun x1 _ => ?_)
  refine xa_getf xI xc_6 (by decide) (fun _ => rfl) xw_257 rfl d_X1_readStatement_4 (fun x2 _ => ?_)
  refine xa_case (fun q3 => ?_) (fun q3 => ?_)
  · refine xa_step (xa_tabIn (k := 0) d_X1_readStatement_7 q3 (by decide) (by decide) rfl rfl) ?_
    refine xa_step (xa_aload_n d_X1_readStatement_68 rfl) ?_
    refine xa_getf xR xc_1 (by decide) (fun _ => rfl) xw_319 rfl d_X1_readStatement_69 (fun x4 _ => ?_)
    refine xa_getf xI xc_0 (by decide) (fun _ => rfl) xw_385 rfl d_X1_readStatement_72 (fun x5 _ => ?_)
    refine xa_step (xa_bipush d_X1_readStatement_75 xq_b_6) ?_
    refine xa_if (xa_icmpge d_X1_readStatement_77) (fun q6 => ?_) (fun q6 => ?_)
    · refine xa_step (xa_aload_n d_X1_readStatement_80 rfl) ?_
      refine xa_callVI (as := []) (st := []) (M' := mX1_readHeld) (d' := 5) rfl xw_692 xw_694 xw_7 xw_695 xw_168 xh_X1_readHeld rfl ⟨Nat.le_of_ble_eq_true rfl, Nat.le_of_ble_eq_true rfl⟩ (Nat.le_of_ble_eq_true rfl) rfl d_X1_readStatement_81 (fun r hr => ct_X1_readHeld l G v0 h r hr) (fun r7 _ => ?_)
      refine xa_step (xa_goto d_X1_readStatement_84) ?_
      refine xa_bo (fun q8 => ?_)
      exact xa_zret d_X1_readStatement_91 rfl q8 rfl
    · refine xa_step (xa_aload_n d_X1_readStatement_87 rfl) ?_
      refine xa_callVI (as := []) (st := []) (M' := mX1_tooMany) (d' := 3) rfl xw_680 xw_682 xw_5 xw_683 xw_168 xh_X1_tooMany rfl ⟨Nat.le_of_ble_eq_true rfl, Nat.le_of_ble_eq_true rfl⟩ (Nat.le_of_ble_eq_true rfl) rfl d_X1_readStatement_88 (fun r hr => ct_X1_tooMany l G v0 h r hr) (fun r9 _ => ?_)
      refine xa_bo (fun q10 => ?_)
      exact xa_zret d_X1_readStatement_91 rfl q10 rfl
  · refine xa_case (fun q11 => ?_) (fun q11 => ?_)
    · refine xa_step (xa_tabIn (k := 1) d_X1_readStatement_7 q11 (by decide) (by decide) rfl rfl) ?_
      refine xa_step (xa_aload_n d_X1_readStatement_247 rfl) ?_
      refine xa_getf xR xc_1 (by decide) (fun _ => rfl) xw_317 rfl d_X1_readStatement_248 (fun x12 _ => ?_)
      refine xa_callVI (as := []) (st := []) (M' := mX6_stray) (d' := 2) rfl xw_871 xw_706 xw_707 xw_708 xw_162 xh_X6_stray rfl ⟨Nat.le_of_ble_eq_true rfl, Nat.le_of_ble_eq_true rfl⟩ (Nat.le_of_ble_eq_true rfl) rfl d_X1_readStatement_251 (fun r hr => ct_X6_stray l G x12 h r hr) (fun r13 _ => ?_)
      refine xa_bo (fun q14 => ?_)
      exact xa_zret d_X1_readStatement_254 rfl q14 rfl
    · refine xa_case (fun q15 => ?_) (fun q15 => ?_)
      · refine xa_step (xa_tabIn (k := 2) d_X1_readStatement_7 q15 (by decide) (by decide) rfl rfl) ?_
        refine xa_step (xa_aload_n d_X1_readStatement_92 rfl) ?_
        refine xa_getf xR xc_1 (by decide) (fun _ => rfl) xw_319 rfl d_X1_readStatement_93 (fun x16 _ => ?_)
        refine xa_getf xI xc_0 (by decide) (fun _ => rfl) xw_390 rfl d_X1_readStatement_96 (fun x17 _ => ?_)
        refine xa_step (xa_bipush d_X1_readStatement_99 xq_b_6) ?_
        refine xa_if (xa_icmpge d_X1_readStatement_101) (fun q18 => ?_) (fun q18 => ?_)
        · refine xa_step (xa_aload_n d_X1_readStatement_104 rfl) ?_
          refine xa_callVI (as := []) (st := []) (M' := mX1_readHolder) (d' := 5) rfl xw_734 xw_736 xw_10 xw_737 xw_168 xh_X1_readHolder rfl ⟨Nat.le_of_ble_eq_true rfl, Nat.le_of_ble_eq_true rfl⟩ (Nat.le_of_ble_eq_true rfl) rfl d_X1_readStatement_105 (fun r hr => ct_X1_readHolder l G v0 h r hr) (fun r19 _ => ?_)
          refine xa_step (xa_goto d_X1_readStatement_108) ?_
          refine xa_bo (fun q20 => ?_)
          exact xa_zret d_X1_readStatement_115 rfl q20 rfl
        · refine xa_step (xa_aload_n d_X1_readStatement_111 rfl) ?_
          refine xa_callVI (as := []) (st := []) (M' := mX1_tooMany) (d' := 3) rfl xw_680 xw_682 xw_5 xw_683 xw_168 xh_X1_tooMany rfl ⟨Nat.le_of_ble_eq_true rfl, Nat.le_of_ble_eq_true rfl⟩ (Nat.le_of_ble_eq_true rfl) rfl d_X1_readStatement_112 (fun r hr => ct_X1_tooMany l G v0 h r hr) (fun r21 _ => ?_)
          refine xa_bo (fun q22 => ?_)
          exact xa_zret d_X1_readStatement_115 rfl q22 rfl
      · refine xa_case (fun q23 => ?_) (fun q23 => ?_)
        · refine xa_step (xa_tabIn (k := 3) d_X1_readStatement_7 q23 (by decide) (by decide) rfl rfl) ?_
          refine xa_step (xa_aload_n d_X1_readStatement_247 rfl) ?_
          refine xa_getf xR xc_1 (by decide) (fun _ => rfl) xw_317 rfl d_X1_readStatement_248 (fun x24 _ => ?_)
          refine xa_callVI (as := []) (st := []) (M' := mX6_stray) (d' := 2) rfl xw_871 xw_706 xw_707 xw_708 xw_162 xh_X6_stray rfl ⟨Nat.le_of_ble_eq_true rfl, Nat.le_of_ble_eq_true rfl⟩ (Nat.le_of_ble_eq_true rfl) rfl d_X1_readStatement_251 (fun r hr => ct_X6_stray l G x24 h r hr) (fun r25 _ => ?_)
          refine xa_bo (fun q26 => ?_)
          exact xa_zret d_X1_readStatement_254 rfl q26 rfl
        · refine xa_case (fun q27 => ?_) (fun q27 => ?_)
          · refine xa_step (xa_tabIn (k := 4) d_X1_readStatement_7 q27 (by decide) (by decide) rfl rfl) ?_
            refine xa_step (xa_aload_n d_X1_readStatement_247 rfl) ?_
            refine xa_getf xR xc_1 (by decide) (fun _ => rfl) xw_317 rfl d_X1_readStatement_248 (fun x28 _ => ?_)
            refine xa_callVI (as := []) (st := []) (M' := mX6_stray) (d' := 2) rfl xw_871 xw_706 xw_707 xw_708 xw_162 xh_X6_stray rfl ⟨Nat.le_of_ble_eq_true rfl, Nat.le_of_ble_eq_true rfl⟩ (Nat.le_of_ble_eq_true rfl) rfl d_X1_readStatement_251 (fun r hr => ct_X6_stray l G x28 h r hr) (fun r29 _ => ?_)
            refine xa_bo (fun q30 => ?_)
            exact xa_zret d_X1_readStatement_254 rfl q30 rfl
          · refine xa_case (fun q31 => ?_) (fun q31 => ?_)
            · refine xa_step (xa_tabIn (k := 5) d_X1_readStatement_7 q31 (by decide) (by decide) rfl rfl) ?_
              refine xa_step (xa_aload_n d_X1_readStatement_247 rfl) ?_
              refine xa_getf xR xc_1 (by decide) (fun _ => rfl) xw_317 rfl d_X1_readStatement_248 (fun x32 _ => ?_)
              refine xa_callVI (as := []) (st := []) (M' := mX6_stray) (d' := 2) rfl xw_871 xw_706 xw_707 xw_708 xw_162 xh_X6_stray rfl ⟨Nat.le_of_ble_eq_true rfl, Nat.le_of_ble_eq_true rfl⟩ (Nat.le_of_ble_eq_true rfl) rfl d_X1_readStatement_251 (fun r hr => ct_X6_stray l G x32 h r hr) (fun r33 _ => ?_)
              refine xa_bo (fun q34 => ?_)
              exact xa_zret d_X1_readStatement_254 rfl q34 rfl
            · refine xa_case (fun q35 => ?_) (fun q35 => ?_)
              · refine xa_step (xa_tabIn (k := 6) d_X1_readStatement_7 q35 (by decide) (by decide) rfl rfl) ?_
                refine xa_step (xa_aload_n d_X1_readStatement_116 rfl) ?_
                refine xa_callVI (as := []) (st := []) (M' := mX1_readValue) (d' := 5) rfl xw_750 xw_752 xw_12 xw_753 xw_168 xh_X1_readValue rfl ⟨Nat.le_of_ble_eq_true rfl, Nat.le_of_ble_eq_true rfl⟩ (Nat.le_of_ble_eq_true rfl) rfl d_X1_readStatement_117 (fun r hr => ct_X1_readValue l G v0 h r hr) (fun r36 _ => ?_)
                refine xa_bo (fun q37 => ?_)
                exact xa_zret d_X1_readStatement_120 rfl q37 rfl
              · refine xa_case (fun q38 => ?_) (fun q38 => ?_)
                · refine xa_step (xa_tabIn (k := 7) d_X1_readStatement_7 q38 (by decide) (by decide) rfl rfl) ?_
                  refine xa_step (xa_aload_n d_X1_readStatement_121 rfl) ?_
                  refine xa_getf xR xc_1 (by decide) (fun _ => rfl) xw_319 rfl d_X1_readStatement_122 (fun x39 _ => ?_)
                  refine xa_getf xI xc_0 (by decide) (fun _ => rfl) xw_393 rfl d_X1_readStatement_125 (fun x40 _ => ?_)
                  refine xa_step (xa_bipush d_X1_readStatement_128 xq_b_10) ?_
                  refine xa_if (xa_icmpge d_X1_readStatement_130) (fun q41 => ?_) (fun q41 => ?_)
                  · refine xa_step (xa_aload_n d_X1_readStatement_133 rfl) ?_
                    refine xa_callVI (as := []) (st := []) (M' := mX1_readFeud) (d' := 5) rfl xw_758 xw_760 xw_14 xw_761 xw_168 xh_X1_readFeud rfl ⟨Nat.le_of_ble_eq_true rfl, Nat.le_of_ble_eq_true rfl⟩ (Nat.le_of_ble_eq_true rfl) rfl d_X1_readStatement_134 (fun r hr => ct_X1_readFeud l G v0 h r hr) (fun r42 _ => ?_)
                    refine xa_step (xa_goto d_X1_readStatement_137) ?_
                    refine xa_bo (fun q43 => ?_)
                    exact xa_zret d_X1_readStatement_144 rfl q43 rfl
                  · refine xa_step (xa_aload_n d_X1_readStatement_140 rfl) ?_
                    refine xa_callVI (as := []) (st := []) (M' := mX1_tooMany) (d' := 3) rfl xw_680 xw_682 xw_5 xw_683 xw_168 xh_X1_tooMany rfl ⟨Nat.le_of_ble_eq_true rfl, Nat.le_of_ble_eq_true rfl⟩ (Nat.le_of_ble_eq_true rfl) rfl d_X1_readStatement_141 (fun r hr => ct_X1_tooMany l G v0 h r hr) (fun r44 _ => ?_)
                    refine xa_bo (fun q45 => ?_)
                    exact xa_zret d_X1_readStatement_144 rfl q45 rfl
                · refine xa_case (fun q46 => ?_) (fun q46 => ?_)
                  · refine xa_step (xa_tabIn (k := 8) d_X1_readStatement_7 q46 (by decide) (by decide) rfl rfl) ?_
                    refine xa_step (xa_aload_n d_X1_readStatement_145 rfl) ?_
                    refine xa_callVI (as := []) (st := []) (M' := mX1_readSister) (d' := 5) rfl xw_770 xw_772 xw_15 xw_773 xw_168 xh_X1_readSister rfl ⟨Nat.le_of_ble_eq_true rfl, Nat.le_of_ble_eq_true rfl⟩ (Nat.le_of_ble_eq_true rfl) rfl d_X1_readStatement_146 (fun r hr => ct_X1_readSister l G v0 h r hr) (fun r47 _ => ?_)
                    refine xa_bo (fun q48 => ?_)
                    exact xa_zret d_X1_readStatement_149 rfl q48 rfl
                  · refine xa_case (fun q49 => ?_) (fun q49 => ?_)
                    · refine xa_step (xa_tabIn (k := 9) d_X1_readStatement_7 q49 (by decide) (by decide) rfl rfl) ?_
                      refine xa_step (xa_aload_n d_X1_readStatement_150 rfl) ?_
                      refine xa_getf xR xc_1 (by decide) (fun _ => rfl) xw_319 rfl d_X1_readStatement_151 (fun x50 _ => ?_)
                      refine xa_getf xR xc_0 (by decide) (fun _ => rfl) xw_414 rfl d_X1_readStatement_154 (fun x51 _ => ?_)
                      refine xa_n5 (fun q63 => ?_)
                      refine xa_if (xa_ifnull q63 d_X1_readStatement_157) (fun q52 => ?_) (fun q52 => ?_)
                      · refine xa_step (xa_aload_n d_X1_readStatement_165 rfl) ?_
                        refine xa_getf xR xc_1 (by decide) (fun _ => rfl) xw_319 rfl d_X1_readStatement_166 (fun x53 _ => ?_)
                        refine xa_step (xa_aload_n d_X1_readStatement_169 rfl) ?_
                        refine xa_getf xR xc_1 (by decide) (fun _ => rfl) xw_318 rfl d_X1_readStatement_170 (fun x54 _ => ?_)
                        refine xa_step (xa_iconst d_X1_readStatement_173 xq_i_0) ?_
                        refine xa_callVR (as := [xI 0]) (st := [xR x53]) (M' := mX3_readTest) (d' := 65) rfl xw_774 xw_775 xw_776 xw_777 xw_167 xh_X3_readTest rfl ⟨Nat.le_of_ble_eq_true rfl, Nat.le_of_ble_eq_true rfl⟩ (Nat.le_of_ble_eq_true rfl) rfl d_X1_readStatement_174 (fun r hr => ct_X3_readTest l G x54 0 h r hr) (fun r55 _ => ?_)
                        refine xa_putf2 (tg := xR) xc_0 (by decide) (fun _ => rfl) rfl (fun c hc => xa_fitO c hc) xw_414 rfl d_X1_readStatement_177 (fun h56 _ => ?_)
                        refine xa_step (xa_aload_n d_X1_readStatement_180 rfl) ?_
                        refine xa_getf xR xc_1 (by decide) (fun _ => rfl) xw_319 rfl d_X1_readStatement_181 (fun x57 _ => ?_)
                        refine xa_getf xR xc_0 (by decide) (fun _ => rfl) xw_414 rfl d_X1_readStatement_184 (fun x58 _ => ?_)
                        refine xa_n5 (fun q60 => ?_)
                        refine xa_if (xa_ifnull q60 d_X1_readStatement_187) (fun q59 => ?_) (fun q59 => ?_)
                        · refine xa_step (xa_iconst d_X1_readStatement_194 xq_i_0) ?_
                          exact xa_zret d_X1_readStatement_195 rfl (Or.inl rfl) rfl
                        · refine xa_step (xa_iconst d_X1_readStatement_190 xq_i_1) ?_
                          refine xa_step (xa_goto d_X1_readStatement_191) ?_
                          exact xa_zret d_X1_readStatement_195 rfl (Or.inr rfl) rfl
                      · refine xa_step (xa_aload_n d_X1_readStatement_160 rfl) ?_
                        refine xa_callVI (as := []) (st := []) (M' := mX1_tooMany) (d' := 3) rfl xw_680 xw_682 xw_5 xw_683 xw_168 xh_X1_tooMany rfl ⟨Nat.le_of_ble_eq_true rfl, Nat.le_of_ble_eq_true rfl⟩ (Nat.le_of_ble_eq_true rfl) rfl d_X1_readStatement_161 (fun r hr => ct_X1_tooMany l G v0 h r hr) (fun r61 _ => ?_)
                        refine xa_bo (fun q62 => ?_)
                        exact xa_zret d_X1_readStatement_164 rfl q62 rfl
                    · refine xa_case (fun q64 => ?_) (fun q64 => ?_)
                      · refine xa_step (xa_tabIn (k := 10) d_X1_readStatement_7 q64 (by decide) (by decide) rfl rfl) ?_
                        refine xa_step (xa_aload_n d_X1_readStatement_196 rfl) ?_
                        refine xa_getf xR xc_1 (by decide) (fun _ => rfl) xw_319 rfl d_X1_readStatement_197 (fun x65 _ => ?_)
                        refine xa_getf xR xc_0 (by decide) (fun _ => rfl) xw_417 rfl d_X1_readStatement_200 (fun x66 _ => ?_)
                        refine xa_n5 (fun q78 => ?_)
                        refine xa_if (xa_ifnull q78 d_X1_readStatement_203) (fun q67 => ?_) (fun q67 => ?_)
                        · refine xa_step (xa_aload_n d_X1_readStatement_211 rfl) ?_
                          refine xa_getf xR xc_1 (by decide) (fun _ => rfl) xw_319 rfl d_X1_readStatement_212 (fun x68 _ => ?_)
                          refine xa_step (xa_aload_n d_X1_readStatement_215 rfl) ?_
                          refine xa_getf xR xc_1 (by decide) (fun _ => rfl) xw_318 rfl d_X1_readStatement_216 (fun x69 _ => ?_)
                          refine xa_step (xa_iconst d_X1_readStatement_219 xq_i_0) ?_
                          refine xa_callVR (as := [xI 0]) (st := [xR x68]) (M' := mX3_readSum) (d' := 65) rfl xw_863 xw_864 xw_865 xw_866 xw_167 xh_X3_readSum rfl ⟨Nat.le_of_ble_eq_true rfl, Nat.le_of_ble_eq_true rfl⟩ (Nat.le_of_ble_eq_true rfl) rfl d_X1_readStatement_220 (fun r hr => ct_X3_readSum l G x69 0 h r hr) (fun r70 _ => ?_)
                          refine xa_putf2 (tg := xR) xc_0 (by decide) (fun _ => rfl) rfl (fun c hc => xa_fitO c hc) xw_417 rfl d_X1_readStatement_223 (fun h71 _ => ?_)
                          refine xa_step (xa_aload_n d_X1_readStatement_226 rfl) ?_
                          refine xa_getf xR xc_1 (by decide) (fun _ => rfl) xw_319 rfl d_X1_readStatement_227 (fun x72 _ => ?_)
                          refine xa_getf xR xc_0 (by decide) (fun _ => rfl) xw_417 rfl d_X1_readStatement_230 (fun x73 _ => ?_)
                          refine xa_n5 (fun q75 => ?_)
                          refine xa_if (xa_ifnull q75 d_X1_readStatement_233) (fun q74 => ?_) (fun q74 => ?_)
                          · refine xa_step (xa_iconst d_X1_readStatement_240 xq_i_0) ?_
                            exact xa_zret d_X1_readStatement_241 rfl (Or.inl rfl) rfl
                          · refine xa_step (xa_iconst d_X1_readStatement_236 xq_i_1) ?_
                            refine xa_step (xa_goto d_X1_readStatement_237) ?_
                            exact xa_zret d_X1_readStatement_241 rfl (Or.inr rfl) rfl
                        · refine xa_step (xa_aload_n d_X1_readStatement_206 rfl) ?_
                          refine xa_callVI (as := []) (st := []) (M' := mX1_tooMany) (d' := 3) rfl xw_680 xw_682 xw_5 xw_683 xw_168 xh_X1_tooMany rfl ⟨Nat.le_of_ble_eq_true rfl, Nat.le_of_ble_eq_true rfl⟩ (Nat.le_of_ble_eq_true rfl) rfl d_X1_readStatement_207 (fun r hr => ct_X1_tooMany l G v0 h r hr) (fun r76 _ => ?_)
                          refine xa_bo (fun q77 => ?_)
                          exact xa_zret d_X1_readStatement_210 rfl q77 rfl
                      · refine xa_case (fun q79 => ?_) (fun q79 => ?_)
                        · refine xa_step (xa_tabIn (k := 11) d_X1_readStatement_7 q79 (by decide) (by decide) rfl rfl) ?_
                          refine xa_step (xa_aload_n d_X1_readStatement_242 rfl) ?_
                          refine xa_callVI (as := []) (st := []) (M' := mX1_readFog) (d' := 4) rfl xw_867 xw_869 xw_27 xw_870 xw_168 xh_X1_readFog rfl ⟨Nat.le_of_ble_eq_true rfl, Nat.le_of_ble_eq_true rfl⟩ (Nat.le_of_ble_eq_true rfl) rfl d_X1_readStatement_243 (fun r hr => ct_X1_readFog l G v0 h r hr) (fun r80 _ => ?_)
                          refine xa_bo (fun q81 => ?_)
                          exact xa_zret d_X1_readStatement_246 rfl q81 rfl
                        · refine xa_step (xa_tabOut d_X1_readStatement_7 (by omega) rfl) ?_
                          refine xa_step (xa_aload_n d_X1_readStatement_247 rfl) ?_
                          refine xa_getf xR xc_1 (by decide) (fun _ => rfl) xw_317 rfl d_X1_readStatement_248 (fun x82 _ => ?_)
                          refine xa_callVI (as := []) (st := []) (M' := mX6_stray) (d' := 2) rfl xw_871 xw_706 xw_707 xw_708 xw_162 xh_X6_stray rfl ⟨Nat.le_of_ble_eq_true rfl, Nat.le_of_ble_eq_true rfl⟩ (Nat.le_of_ble_eq_true rfl) rfl d_X1_readStatement_251 (fun r hr => ct_X6_stray l G x82 h r hr) (fun r83 _ => ?_)
                          refine xa_bo (fun q84 => ?_)
                          exact xa_zret d_X1_readStatement_254 rfl q84 rfl
theorem ct_X1_readStatement (l : Launch) (G : xa_C) (v0 : Int) (h : xa_H) (r : Int × xa_H) (hr : f_X1_readStatement v0 h = some r) : xa_CT l G 66 mX1_readStatement yX1_readStatement [xR v0] h (some (xI r.1), r.2) :=
  xa_met (by decide +kernel) rfl (fun q => by first | rfl | cases q) (Nat.le_of_ble_eq_true rfl) rfl (g_X1_readStatement l G v0 h) (by rw [hr]; rfl)
abbrev mX1_readCase : xa_M := (cX1_readCase, 3, (some (.object "WrongCook$Case")), RX1, false)
theorem d_X1_readCase_0 : decode mX1_readCase.1 0 = .ok (.aload_n 0, 1) ∧ 0 + 1 = 1 := ⟨by decide +kernel, rfl⟩
theorem d_X1_readCase_1 : decode mX1_readCase.1 1 = .ok (.new 23, 3) ∧ 1 + 3 = 4 := ⟨by decide +kernel, rfl⟩
theorem d_X1_readCase_4 : decode mX1_readCase.1 4 = .ok (.dup, 1) ∧ 4 + 1 = 5 := ⟨by decide +kernel, rfl⟩
theorem d_X1_readCase_5 : decode mX1_readCase.1 5 = .ok (.invokespecial 25, 3) ∧ 5 + 3 = 8 := ⟨by decide +kernel, rfl⟩
theorem d_X1_readCase_8 : decode mX1_readCase.1 8 = .ok (.putfield 9, 3) ∧ 8 + 3 = 11 := ⟨by decide +kernel, rfl⟩
theorem d_X1_readCase_11 : decode mX1_readCase.1 11 = .ok (.aload_n 0, 1) ∧ 11 + 1 = 12 := ⟨by decide +kernel, rfl⟩
theorem d_X1_readCase_12 : decode mX1_readCase.1 12 = .ok (.getfield 15, 3) ∧ 12 + 3 = 15 := ⟨by decide +kernel, rfl⟩
theorem d_X1_readCase_15 : decode mX1_readCase.1 15 = .ok (.iload_n 1, 1) ∧ 15 + 1 = 16 := ⟨by decide +kernel, rfl⟩
theorem d_X1_readCase_16 : decode mX1_readCase.1 16 = .ok (.invokevirtual 26, 3) ∧ 16 + 3 = 19 := ⟨by decide +kernel, rfl⟩
theorem d_X1_readCase_19 : decode mX1_readCase.1 19 = .ok (.iconst 0, 1) ∧ 19 + 1 = 20 := ⟨by decide +kernel, rfl⟩
theorem d_X1_readCase_20 : decode mX1_readCase.1 20 = .ok (.istore_n 2, 1) ∧ 20 + 1 = 21 := ⟨by decide +kernel, rfl⟩
theorem d_X1_readCase_21 : decode mX1_readCase.1 21 = .ok (.iload_n 2, 1) ∧ 21 + 1 = 22 := ⟨by decide +kernel, rfl⟩
theorem d_X1_readCase_22 : decode mX1_readCase.1 22 = .ok (.bipush 80, 2) ∧ 22 + 2 = 24 := ⟨by decide +kernel, rfl⟩
theorem d_X1_readCase_24 : decode mX1_readCase.1 24 = .ok (.if_icmp .gt 66, 3) ∧ 24 + 3 = 27 ∧ ((24 : Nat) : Int) + 66 = ((90 : Nat) : Int) := ⟨by decide +kernel, rfl, rfl⟩
theorem d_X1_readCase_27 : decode mX1_readCase.1 27 = .ok (.aload_n 0, 1) ∧ 27 + 1 = 28 := ⟨by decide +kernel, rfl⟩
theorem d_X1_readCase_28 : decode mX1_readCase.1 28 = .ok (.getfield 15, 3) ∧ 28 + 3 = 31 := ⟨by decide +kernel, rfl⟩
theorem d_X1_readCase_31 : decode mX1_readCase.1 31 = .ok (.getfield 32, 3) ∧ 31 + 3 = 34 := ⟨by decide +kernel, rfl⟩
theorem d_X1_readCase_34 : decode mX1_readCase.1 34 = .ok (.ifCond .ne 16, 3) ∧ 34 + 3 = 37 ∧ ((34 : Nat) : Int) + 16 = ((50 : Nat) : Int) := ⟨by decide +kernel, rfl, rfl⟩
theorem d_X1_readCase_37 : decode mX1_readCase.1 37 = .ok (.aload_n 0, 1) ∧ 37 + 1 = 38 := ⟨by decide +kernel, rfl⟩
theorem d_X1_readCase_38 : decode mX1_readCase.1 38 = .ok (.getfield 9, 3) ∧ 38 + 3 = 41 := ⟨by decide +kernel, rfl⟩
theorem d_X1_readCase_41 : decode mX1_readCase.1 41 = .ok (.iload_n 2, 1) ∧ 41 + 1 = 42 := ⟨by decide +kernel, rfl⟩
theorem d_X1_readCase_42 : decode mX1_readCase.1 42 = .ok (.putfield 36, 3) ∧ 42 + 3 = 45 := ⟨by decide +kernel, rfl⟩
theorem d_X1_readCase_45 : decode mX1_readCase.1 45 = .ok (.aload_n 0, 1) ∧ 45 + 1 = 46 := ⟨by decide +kernel, rfl⟩
theorem d_X1_readCase_46 : decode mX1_readCase.1 46 = .ok (.getfield 9, 3) ∧ 46 + 3 = 49 := ⟨by decide +kernel, rfl⟩
theorem d_X1_readCase_49 : decode mX1_readCase.1 49 = .ok (.areturn, 1) := by decide +kernel
theorem d_X1_readCase_50 : decode mX1_readCase.1 50 = .ok (.iload_n 2, 1) ∧ 50 + 1 = 51 := ⟨by decide +kernel, rfl⟩
theorem d_X1_readCase_51 : decode mX1_readCase.1 51 = .ok (.bipush 80, 2) ∧ 51 + 2 = 53 := ⟨by decide +kernel, rfl⟩
theorem d_X1_readCase_53 : decode mX1_readCase.1 53 = .ok (.if_icmp .ne 10, 3) ∧ 53 + 3 = 56 ∧ ((53 : Nat) : Int) + 10 = ((63 : Nat) : Int) := ⟨by decide +kernel, rfl, rfl⟩
theorem d_X1_readCase_56 : decode mX1_readCase.1 56 = .ok (.aload_n 0, 1) ∧ 56 + 1 = 57 := ⟨by decide +kernel, rfl⟩
theorem d_X1_readCase_57 : decode mX1_readCase.1 57 = .ok (.invokevirtual 39, 3) ∧ 57 + 3 = 60 := ⟨by decide +kernel, rfl⟩
theorem d_X1_readCase_60 : decode mX1_readCase.1 60 = .ok (.pop, 1) ∧ 60 + 1 = 61 := ⟨by decide +kernel, rfl⟩
theorem d_X1_readCase_61 : decode mX1_readCase.1 61 = .ok (.aconst_null, 1) ∧ 61 + 1 = 62 := ⟨by decide +kernel, rfl⟩
theorem d_X1_readCase_62 : decode mX1_readCase.1 62 = .ok (.areturn, 1) := by decide +kernel
theorem d_X1_readCase_63 : decode mX1_readCase.1 63 = .ok (.aload_n 0, 1) ∧ 63 + 1 = 64 := ⟨by decide +kernel, rfl⟩
theorem d_X1_readCase_64 : decode mX1_readCase.1 64 = .ok (.invokevirtual 43, 3) ∧ 64 + 3 = 67 := ⟨by decide +kernel, rfl⟩
theorem d_X1_readCase_67 : decode mX1_readCase.1 67 = .ok (.ifCond .eq 15, 3) ∧ 67 + 3 = 70 ∧ ((67 : Nat) : Int) + 15 = ((82 : Nat) : Int) := ⟨by decide +kernel, rfl, rfl⟩
theorem d_X1_readCase_82 : decode mX1_readCase.1 82 = .ok (.aconst_null, 1) ∧ 82 + 1 = 83 := ⟨by decide +kernel, rfl⟩
theorem d_X1_readCase_83 : decode mX1_readCase.1 83 = .ok (.areturn, 1) := by decide +kernel
theorem d_X1_readCase_70 : decode mX1_readCase.1 70 = .ok (.aload_n 0, 1) ∧ 70 + 1 = 71 := ⟨by decide +kernel, rfl⟩
theorem d_X1_readCase_71 : decode mX1_readCase.1 71 = .ok (.getfield 15, 3) ∧ 71 + 3 = 74 := ⟨by decide +kernel, rfl⟩
theorem d_X1_readCase_74 : decode mX1_readCase.1 74 = .ok (.bipush 59, 2) ∧ 74 + 2 = 76 := ⟨by decide +kernel, rfl⟩
theorem d_X1_readCase_76 : decode mX1_readCase.1 76 = .ok (.invokevirtual 46, 3) ∧ 76 + 3 = 79 := ⟨by decide +kernel, rfl⟩
theorem d_X1_readCase_79 : decode mX1_readCase.1 79 = .ok (.ifCond .ne 5, 3) ∧ 79 + 3 = 82 ∧ ((79 : Nat) : Int) + 5 = ((84 : Nat) : Int) := ⟨by decide +kernel, rfl, rfl⟩
theorem d_X1_readCase_84 : decode mX1_readCase.1 84 = .ok (.iinc 2 1, 3) ∧ 84 + 3 = 87 := ⟨by decide +kernel, rfl⟩
theorem d_X1_readCase_87 : decode mX1_readCase.1 87 = .ok (.goto (-66), 3) ∧ ((87 : Nat) : Int) + (-66) = ((21 : Nat) : Int) := ⟨by decide +kernel, rfl⟩
set_option maxRecDepth 100000 in
set_option maxHeartbeats 4000000 in
theorem g_X1_readCase_L21 (l : Launch) (G : xa_C) (c0 : Int) (K : (Int × xa_H) ⊕ ((Int × xa_H) ⊕ (xa_H)) → Option xa_O) (hb : ∀ (v2 : Int) (h : xa_H), xa_G l G 67 mX1_readCase (some (Sum.inl ((v2, h)))) K 21 [some (xR c0), none, some (xI v2)] [] h) (hr : ∀ r : Int × xa_H, K (Sum.inr (Sum.inl r)) = some (some (xR r.1), r.2)) (hx : ∀ (h : xa_H), xa_G l G 67 mX1_readCase (some (Sum.inr (Sum.inr h))) K 90 [none, none, none] [] h) : ∀ (v2 : Int) (h : xa_H), xa_G l G 67 mX1_readCase (f_X1_readCase_L21 c0 v2 h) K 21 [some (xR c0), none, some (xI v2)] [] h := by
  intro v2 h
  unfold f_X1_readCase_L21
  refine xa_step (xa_iload_n d_X1_readCase_21 rfl) ?_
  refine xa_step (xa_bipush d_X1_readCase_22 xq_b_80) ?_
  refine xa_if (xa_icmpgt d_X1_readCase_24) (fun q6 => ?_) (fun q6 => ?_)
  · exact xa_weak (ls' := [none, none, none]) trivial (hx h)
  · refine xa_step (xa_aload_n d_X1_readCase_27 rfl) ?_
    refine xa_getf xR xc_1 (by decide) (fun _ => rfl) xw_317 rfl d_X1_readCase_28 (fun x7 _ => ?_)
    refine xa_getf xI xc_6 (by decide) (fun _ => rfl) xw_249 rfl d_X1_readCase_31 (fun x8 _ => ?_)
    refine xa_if (xa_ifne d_X1_readCase_34) (fun q9 => ?_) (fun q9 => ?_)
    · refine xa_step (xa_aload_n d_X1_readCase_37 rfl) ?_
      refine xa_getf xR xc_1 (by decide) (fun _ => rfl) xw_319 rfl d_X1_readCase_38 (fun x10 _ => ?_)
      refine xa_step (xa_iload_n d_X1_readCase_41 rfl) ?_
      refine xa_putf2 (tg := xI) xc_0 (by decide) (fun _ => rfl) rfl (fun c hc => xa_fitI c hc) xw_381 rfl d_X1_readCase_42 (fun h11 _ => ?_)
      refine xa_step (xa_aload_n d_X1_readCase_45 rfl) ?_
      refine xa_getf xR xc_1 (by decide) (fun _ => rfl) xw_319 rfl d_X1_readCase_46 (fun x12 _ => ?_)
      exact xa_aret d_X1_readCase_49 rfl (Or.inl ⟨_, rfl⟩) (hr _)
    · refine xa_step (xa_iload_n d_X1_readCase_50 rfl) ?_
      refine xa_step (xa_bipush d_X1_readCase_51 xq_b_80) ?_
      refine xa_if (xa_icmpne d_X1_readCase_53) (fun q13 => ?_) (fun q13 => ?_)
      · refine xa_step (xa_aload_n d_X1_readCase_56 rfl) ?_
        refine xa_callVI (as := []) (st := []) (M' := mX1_tooMany) (d' := 3) rfl xw_680 xw_682 xw_5 xw_683 xw_168 xh_X1_tooMany rfl ⟨Nat.le_of_ble_eq_true rfl, Nat.le_of_ble_eq_true rfl⟩ (Nat.le_of_ble_eq_true rfl) rfl d_X1_readCase_57 (fun r hr => ct_X1_tooMany l G c0 h r hr) (fun r14 _ => ?_)
        refine xa_step (xa_pop d_X1_readCase_60) ?_
        refine xa_step (xa_null d_X1_readCase_61) ?_
        exact xa_aret d_X1_readCase_62 rfl (Or.inl ⟨_, rfl⟩) (hr _)
      · refine xa_step (xa_aload_n d_X1_readCase_63 rfl) ?_
        refine xa_callVI (as := []) (st := []) (M' := mX1_readStatement) (d' := 66) rfl xw_688 xw_690 xw_6 xw_691 xw_168 xh_X1_readStatement rfl ⟨Nat.le_of_ble_eq_true rfl, Nat.le_of_ble_eq_true rfl⟩ (Nat.le_of_ble_eq_true rfl) rfl d_X1_readCase_64 (fun r hr => ct_X1_readStatement l G c0 h r hr) (fun r15 _ => ?_)
        refine xa_if (xa_ifeq d_X1_readCase_67) (fun q16 => ?_) (fun q16 => ?_)
        · refine xa_step (xa_null d_X1_readCase_82) ?_
          exact xa_aret d_X1_readCase_83 rfl (Or.inl ⟨_, rfl⟩) (hr _)
        · refine xa_step (xa_aload_n d_X1_readCase_70 rfl) ?_
          refine xa_getf xR xc_1 (by decide) (fun _ => rfl) xw_317 rfl d_X1_readCase_71 (fun x17 _ => ?_)
          refine xa_step (xa_bipush d_X1_readCase_74 xq_b_59) ?_
          refine xa_callVI (as := [xI 59]) (st := []) (M' := mX6_needSign) (d' := 3) rfl xw_872 xw_805 xw_806 xw_807 xw_162 xh_X6_needSign rfl ⟨Nat.le_of_ble_eq_true rfl, Nat.le_of_ble_eq_true rfl⟩ (Nat.le_of_ble_eq_true rfl) rfl d_X1_readCase_76 (fun r hr => ct_X6_needSign l G x17 59 r15.2 r hr) (fun r18 _ => ?_)
          refine xa_if (xa_ifne d_X1_readCase_79) (fun q19 => ?_) (fun q19 => ?_)
          · refine xa_step (xa_null d_X1_readCase_82) ?_
            exact xa_aret d_X1_readCase_83 rfl (Or.inl ⟨_, rfl⟩) (hr _)
          · refine xa_step (xa_iinc (ls' := [some (xR c0), none, some (xI (w32 (v2 + 1)))]) d_X1_readCase_84 xq_i_1 rfl (by decide) rfl) ?_
            refine xa_step (xa_goto d_X1_readCase_87) ?_
            exact xa_weak (ls' := [some (xR c0), none, some (xI (w32 (v2 + 1)))]) ⟨rfl, rfl, trivial⟩ (hb (w32 (v2 + 1)) r18.2)
theorem d_X1_readCase_90 : decode mX1_readCase.1 90 = .ok (.aconst_null, 1) ∧ 90 + 1 = 91 := ⟨by decide +kernel, rfl⟩
theorem d_X1_readCase_91 : decode mX1_readCase.1 91 = .ok (.areturn, 1) := by decide +kernel
set_option maxRecDepth 100000 in
set_option maxHeartbeats 4000000 in
theorem g_X1_readCase (l : Launch) (G : xa_C) (v0 v1 : Int) (h : xa_H) : xa_G l G 67 mX1_readCase (f_X1_readCase v0 v1 h) (fun r => some (some (xR r.1), r.2) : (Int × xa_H) → Option xa_O) 0 [some (xR v0), some (xI v1), none] [] h := by
  unfold f_X1_readCase
  refine xa_step (xa_aload_n d_X1_readCase_0 rfl) ?_
  refine xa_newO xc_0 xt_0 xw_670 xw_328 xw_169 d_X1_readCase_1 (fun h1 _ => ?_)
  refine xa_step (xa_dup d_X1_readCase_4 (xa_tR _)) ?_
  refine xa_callIV (nn := xn h) (as := []) (st := [xR ((xn h : Int)), xR v0]) (M' := mX0_init) (d' := 3) rfl rfl xw_671 xw_330 xw_331 xw_169 xh_X0_init rfl ⟨Nat.le_of_ble_eq_true rfl, Nat.le_of_ble_eq_true rfl⟩ (Nat.le_of_ble_eq_true rfl) rfl d_X1_readCase_5 (fun r hr => ct_X0_init l G ((xn h : Int)) h1 r hr) (fun r2 _ => ?_)
  refine xa_putf2 (tg := xR) xc_1 (by decide) (fun _ => rfl) rfl (fun c hc => xa_fitO c hc) xw_319 rfl d_X1_readCase_8 (fun h3 _ => ?_)
  refine xa_step (xa_aload_n d_X1_readCase_11 rfl) ?_
  refine xa_getf xR xc_1 (by decide) (fun _ => rfl) xw_317 rfl d_X1_readCase_12 (fun x4 _ => ?_)
  refine xa_step (xa_iload_n d_X1_readCase_15 rfl) ?_
  refine xa_callVV (as := [xI v1]) (st := []) (M' := mX6_begin) (d' := 3) rfl xw_672 xw_673 xw_674 xw_675 xw_162 xh_X6_begin rfl ⟨Nat.le_of_ble_eq_true rfl, Nat.le_of_ble_eq_true rfl⟩ (Nat.le_of_ble_eq_true rfl) rfl d_X1_readCase_16 (fun r hr => ct_X6_begin l G x4 v1 h3 r hr) (fun r5 _ => ?_)
  refine xa_step (xa_iconst d_X1_readCase_19 xq_i_0) ?_
  refine xa_step (xa_istore_n (ls' := [some (xR v0), some (xI v1), some (xI 0)]) d_X1_readCase_20 (by decide) rfl) ?_
  refine xa_weak (ls' := [some (xR v0), none, some (xI 0)]) ⟨rfl, rfl, trivial⟩ ?_
  refine xa_loop (f := fun s => f_X1_readCase_L21 v0 s.1 s.2) (L := fun s => [some (xR v0), none, some (xI s.1)]) (P := fun s => s.2) (X := (fun e K => match e with | Sum.inl r => K (Sum.inr (Sum.inl r)) = some (some (xR r.1), r.2) | Sum.inr x => xa_G l G 67 mX1_readCase (some (Sum.inr (Sum.inr x))) K 90 [none, none, none] [] x)) (fun K hb hX s => g_X1_readCase_L21 l G v0 K (fun w0 hh => hb ((w0, hh))) (fun r => hX (Sum.inl r)) (fun hh => hX (Sum.inr hh)) s.1 s.2) ?_ xFU ((0, r5))
  rintro (r | y21) K hK
  · exact hK.trans rfl
  · refine xa_eqE hK ?_
    show xa_G l G 67 mX1_readCase _ _ 90 [none, none, none] [] y21
    refine xa_step (xa_null d_X1_readCase_90) ?_
    exact xa_aret d_X1_readCase_91 rfl (Or.inl ⟨_, rfl⟩) rfl
theorem ct_X1_readCase (l : Launch) (G : xa_C) (v0 v1 : Int) (h : xa_H) (r : Int × xa_H) (hr : f_X1_readCase v0 v1 h = some r) : xa_CT l G 67 mX1_readCase yX1_readCase [xR v0, xI v1] h (some (xR r.1), r.2) :=
  xa_met (by decide +kernel) rfl (fun q => by first | rfl | cases q) (Nat.le_of_ble_eq_true rfl) rfl (g_X1_readCase l G v0 v1 h) (by rw [hr]; rfl)
abbrev mX4_forget : xa_M := (cX4_forget, 1, none, RX4, false)
theorem d_X4_forget_0 : decode mX4_forget.1 0 = .ok (.aload_n 0, 1) ∧ 0 + 1 = 1 := ⟨by decide +kernel, rfl⟩
theorem d_X4_forget_1 : decode mX4_forget.1 1 = .ok (.iconst 0, 1) ∧ 1 + 1 = 2 := ⟨by decide +kernel, rfl⟩
theorem d_X4_forget_2 : decode mX4_forget.1 2 = .ok (.putfield 21, 3) ∧ 2 + 3 = 5 := ⟨by decide +kernel, rfl⟩
theorem d_X4_forget_5 : decode mX4_forget.1 5 = .ok (.return_, 1) := by decide +kernel
set_option maxRecDepth 100000 in
set_option maxHeartbeats 4000000 in
theorem g_X4_forget (l : Launch) (G : xa_C) (v0 : Int) (h : xa_H) : xa_G l G 2 mX4_forget (f_X4_forget v0 h) (fun r => some (none, r) : xa_H → Option xa_O) 0 [some (xR v0)] [] h := by
  unfold f_X4_forget
  refine xa_step (xa_aload_n d_X4_forget_0 rfl) ?_
  refine xa_step (xa_iconst d_X4_forget_1 xq_i_0) ?_
  refine xa_putf2 (tg := xI) xc_4 (by decide) (fun _ => rfl) rfl (fun c hc => xa_fitI c hc) xw_463 rfl d_X4_forget_2 (fun h1 _ => ?_)
  exact xa_vret d_X4_forget_5 rfl rfl
theorem ct_X4_forget (l : Launch) (G : xa_C) (v0 : Int) (h : xa_H) (r : xa_H) (hr : f_X4_forget v0 h = some r) : xa_CT l G 2 mX4_forget yX4_forget [xR v0] h (none, r) :=
  xa_met (by decide +kernel) rfl (fun q => by first | rfl | cases q) (Nat.le_of_ble_eq_true rfl) rfl (g_X4_forget l G v0 h) (by rw [hr]; rfl)
abbrev mX11_open : xa_M := (cX11_open, 2, (some (.int)), RX11, false)
theorem d_X11_open_0 : decode mX11_open.1 0 = .ok (.aload_n 0, 1) ∧ 0 + 1 = 1 := ⟨by decide +kernel, rfl⟩
theorem d_X11_open_1 : decode mX11_open.1 1 = .ok (.getfield 40, 3) ∧ 1 + 3 = 4 := ⟨by decide +kernel, rfl⟩
theorem d_X11_open_4 : decode mX11_open.1 4 = .ok (.aload_n 0, 1) ∧ 4 + 1 = 5 := ⟨by decide +kernel, rfl⟩
theorem d_X11_open_5 : decode mX11_open.1 5 = .ok (.invokevirtual 126, 3) ∧ 5 + 3 = 8 := ⟨by decide +kernel, rfl⟩
theorem d_X11_open_8 : decode mX11_open.1 8 = .ok (.invokevirtual 130, 3) ∧ 8 + 3 = 11 := ⟨by decide +kernel, rfl⟩
theorem d_X11_open_11 : decode mX11_open.1 11 = .ok (.astore_n 1, 1) ∧ 11 + 1 = 12 := ⟨by decide +kernel, rfl⟩
theorem d_X11_open_12 : decode mX11_open.1 12 = .ok (.aload_n 1, 1) ∧ 12 + 1 = 13 := ⟨by decide +kernel, rfl⟩
theorem d_X11_open_13 : decode mX11_open.1 13 = .ok (.ifnonnull 9, 3) ∧ 13 + 3 = 16 ∧ ((13 : Nat) : Int) + 9 = ((22 : Nat) : Int) := ⟨by decide +kernel, rfl, rfl⟩
theorem d_X11_open_16 : decode mX11_open.1 16 = .ok (.aload_n 0, 1) ∧ 16 + 1 = 17 := ⟨by decide +kernel, rfl⟩
theorem d_X11_open_17 : decode mX11_open.1 17 = .ok (.iconst 1, 1) ∧ 17 + 1 = 18 := ⟨by decide +kernel, rfl⟩
theorem d_X11_open_18 : decode mX11_open.1 18 = .ok (.invokevirtual 118, 3) ∧ 18 + 3 = 21 := ⟨by decide +kernel, rfl⟩
theorem d_X11_open_21 : decode mX11_open.1 21 = .ok (.ireturn, 1) := by decide +kernel
theorem d_X11_open_22 : decode mX11_open.1 22 = .ok (.aload_n 0, 1) ∧ 22 + 1 = 23 := ⟨by decide +kernel, rfl⟩
theorem d_X11_open_23 : decode mX11_open.1 23 = .ok (.aload_n 1, 1) ∧ 23 + 1 = 24 := ⟨by decide +kernel, rfl⟩
theorem d_X11_open_24 : decode mX11_open.1 24 = .ok (.putfield 47, 3) ∧ 24 + 3 = 27 := ⟨by decide +kernel, rfl⟩
theorem d_X11_open_27 : decode mX11_open.1 27 = .ok (.aload_n 0, 1) ∧ 27 + 1 = 28 := ⟨by decide +kernel, rfl⟩
theorem d_X11_open_28 : decode mX11_open.1 28 = .ok (.getfield 54, 3) ∧ 28 + 3 = 31 := ⟨by decide +kernel, rfl⟩
theorem d_X11_open_31 : decode mX11_open.1 31 = .ok (.aload_n 1, 1) ∧ 31 + 1 = 32 := ⟨by decide +kernel, rfl⟩
theorem d_X11_open_32 : decode mX11_open.1 32 = .ok (.getfield 134, 3) ∧ 32 + 3 = 35 := ⟨by decide +kernel, rfl⟩
theorem d_X11_open_35 : decode mX11_open.1 35 = .ok (.invokevirtual 137, 3) ∧ 35 + 3 = 38 := ⟨by decide +kernel, rfl⟩
theorem d_X11_open_38 : decode mX11_open.1 38 = .ok (.aload_n 0, 1) ∧ 38 + 1 = 39 := ⟨by decide +kernel, rfl⟩
theorem d_X11_open_39 : decode mX11_open.1 39 = .ok (.getfield 61, 3) ∧ 39 + 3 = 42 := ⟨by decide +kernel, rfl⟩
theorem d_X11_open_42 : decode mX11_open.1 42 = .ok (.invokevirtual 141, 3) ∧ 42 + 3 = 45 := ⟨by decide +kernel, rfl⟩
theorem d_X11_open_45 : decode mX11_open.1 45 = .ok (.aload_n 0, 1) ∧ 45 + 1 = 46 := ⟨by decide +kernel, rfl⟩
theorem d_X11_open_46 : decode mX11_open.1 46 = .ok (.getfield 68, 3) ∧ 46 + 3 = 49 := ⟨by decide +kernel, rfl⟩
theorem d_X11_open_49 : decode mX11_open.1 49 = .ok (.iconst 0, 1) ∧ 49 + 1 = 50 := ⟨by decide +kernel, rfl⟩
theorem d_X11_open_50 : decode mX11_open.1 50 = .ok (.putfield 143, 3) ∧ 50 + 3 = 53 := ⟨by decide +kernel, rfl⟩
theorem d_X11_open_53 : decode mX11_open.1 53 = .ok (.aload_n 0, 1) ∧ 53 + 1 = 54 := ⟨by decide +kernel, rfl⟩
theorem d_X11_open_54 : decode mX11_open.1 54 = .ok (.getfield 78, 3) ∧ 54 + 3 = 57 := ⟨by decide +kernel, rfl⟩
theorem d_X11_open_57 : decode mX11_open.1 57 = .ok (.aload_n 1, 1) ∧ 57 + 1 = 58 := ⟨by decide +kernel, rfl⟩
theorem d_X11_open_58 : decode mX11_open.1 58 = .ok (.getfield 146, 3) ∧ 58 + 3 = 61 := ⟨by decide +kernel, rfl⟩
theorem d_X11_open_61 : decode mX11_open.1 61 = .ok (.aload_n 1, 1) ∧ 61 + 1 = 62 := ⟨by decide +kernel, rfl⟩
theorem d_X11_open_62 : decode mX11_open.1 62 = .ok (.getfield 149, 3) ∧ 62 + 3 = 65 := ⟨by decide +kernel, rfl⟩
theorem d_X11_open_65 : decode mX11_open.1 65 = .ok (.invokevirtual 114, 3) ∧ 65 + 3 = 68 := ⟨by decide +kernel, rfl⟩
theorem d_X11_open_68 : decode mX11_open.1 68 = .ok (.aload_n 0, 1) ∧ 68 + 1 = 69 := ⟨by decide +kernel, rfl⟩
theorem d_X11_open_69 : decode mX11_open.1 69 = .ok (.getfield 91, 3) ∧ 69 + 3 = 72 := ⟨by decide +kernel, rfl⟩
theorem d_X11_open_72 : decode mX11_open.1 72 = .ok (.iconst 0, 1) ∧ 72 + 1 = 73 := ⟨by decide +kernel, rfl⟩
theorem d_X11_open_73 : decode mX11_open.1 73 = .ok (.aconst_null, 1) ∧ 73 + 1 = 74 := ⟨by decide +kernel, rfl⟩
theorem d_X11_open_74 : decode mX11_open.1 74 = .ok (.aastore, 1) ∧ 74 + 1 = 75 := ⟨by decide +kernel, rfl⟩
theorem d_X11_open_75 : decode mX11_open.1 75 = .ok (.aload_n 0, 1) ∧ 75 + 1 = 76 := ⟨by decide +kernel, rfl⟩
theorem d_X11_open_76 : decode mX11_open.1 76 = .ok (.getfield 91, 3) ∧ 76 + 3 = 79 := ⟨by decide +kernel, rfl⟩
theorem d_X11_open_79 : decode mX11_open.1 79 = .ok (.iconst 1, 1) ∧ 79 + 1 = 80 := ⟨by decide +kernel, rfl⟩
theorem d_X11_open_80 : decode mX11_open.1 80 = .ok (.aconst_null, 1) ∧ 80 + 1 = 81 := ⟨by decide +kernel, rfl⟩
theorem d_X11_open_81 : decode mX11_open.1 81 = .ok (.aastore, 1) ∧ 81 + 1 = 82 := ⟨by decide +kernel, rfl⟩
theorem d_X11_open_82 : decode mX11_open.1 82 = .ok (.aload_n 1, 1) ∧ 82 + 1 = 83 := ⟨by decide +kernel, rfl⟩
theorem d_X11_open_83 : decode mX11_open.1 83 = .ok (.getfield 152, 3) ∧ 83 + 3 = 86 := ⟨by decide +kernel, rfl⟩
theorem d_X11_open_86 : decode mX11_open.1 86 = .ok (.ireturn, 1) := by decide +kernel
set_option maxRecDepth 100000 in
set_option maxHeartbeats 4000000 in
theorem g_X11_open (l : Launch) (G : xa_C) (v0 : Int) (h : xa_H) : xa_G l G 68 mX11_open (f_X11_open v0 h) (fun r => some (some (xI r.1), r.2) : (Int × xa_H) → Option xa_O) 0 [some (xR v0), none] [] h := by
  unfold f_X11_open
  refine xa_step (xa_aload_n d_X11_open_0 rfl) ?_
  refine xa_getf xR xc_11 (by decide) (fun _ => rfl) xw_588 rfl d_X11_open_1 (fun x1 _ => ?_)
  refine xa_step (xa_aload_n d_X11_open_4 rfl) ?_
  refine xa_callVI (as := []) (st := [xR x1]) (M' := mX11_takeTape) (d' := 2) rfl xw_662 xw_664 xw_4 xw_665 xw_161 xh_X11_takeTape rfl ⟨Nat.le_of_ble_eq_true rfl, Nat.le_of_ble_eq_true rfl⟩ (Nat.le_of_ble_eq_true rfl) rfl d_X11_open_5 (fun r hr => ct_X11_takeTape l G v0 h r hr) (fun r2 _ => ?_)
  refine xa_callVR (as := [xI r2.1]) (st := []) (M' := mX1_readCase) (d' := 67) rfl xw_666 xw_667 xw_668 xw_669 xw_168 xh_X1_readCase rfl ⟨Nat.le_of_ble_eq_true rfl, Nat.le_of_ble_eq_true rfl⟩ (Nat.le_of_ble_eq_true rfl) rfl d_X11_open_8 (fun r hr => ct_X1_readCase l G x1 r2.1 r2.2 r hr) (fun r3 _ => ?_)
  refine xa_step (xa_astore_n (ls' := [some (xR v0), some (xR r3.1)]) d_X11_open_11 (by decide) rfl) ?_
  refine xa_step (xa_aload_n d_X11_open_12 rfl) ?_
  refine xa_n5 (fun q23 => ?_)
  refine xa_if (xa_ifnonnull q23 d_X11_open_13) (fun q4 => ?_) (fun q4 => ?_)
  · refine xa_step (xa_aload_n d_X11_open_16 rfl) ?_
    refine xa_step (xa_iconst d_X11_open_17 xq_i_1) ?_
    refine xa_callVI (as := [xI 1]) (st := []) (M' := mX11_refuse) (d' := 2) rfl xw_646 xw_648 xw_2 xw_649 xw_161 xh_X11_refuse rfl ⟨Nat.le_of_ble_eq_true rfl, Nat.le_of_ble_eq_true rfl⟩ (Nat.le_of_ble_eq_true rfl) rfl d_X11_open_18 (fun r hr => ct_X11_refuse l G v0 1 r3.2 r hr) (fun r5 _ => ?_)
    exact xa_iret d_X11_open_21 rfl rfl
  · refine xa_step (xa_aload_n d_X11_open_22 rfl) ?_
    refine xa_step (xa_aload_n d_X11_open_23 rfl) ?_
    refine xa_putf2 (tg := xR) xc_11 (by decide) (fun _ => rfl) rfl (fun c hc => xa_fitO c hc) xw_589 rfl d_X11_open_24 (fun h6 _ => ?_)
    refine xa_step (xa_aload_n d_X11_open_27 rfl) ?_
    refine xa_getf xR xc_11 (by decide) (fun _ => rfl) xw_590 rfl d_X11_open_28 (fun x7 _ => ?_)
    refine xa_step (xa_aload_n d_X11_open_31 rfl) ?_
    refine xa_getf xR xc_0 (by decide) (fun _ => rfl) xw_419 rfl d_X11_open_32 (fun x8 _ => ?_)
    refine xa_callVV (as := [xR x8]) (st := []) (M' := mX9_copyFrom) (d' := 2) rfl xw_873 xw_874 xw_875 xw_876 xw_170 xh_X9_copyFrom rfl ⟨Nat.le_of_ble_eq_true rfl, Nat.le_of_ble_eq_true rfl⟩ (Nat.le_of_ble_eq_true rfl) rfl d_X11_open_35 (fun r hr => ct_X9_copyFrom l G x7 x8 h6 r hr) (fun r9 _ => ?_)
    refine xa_step (xa_aload_n d_X11_open_38 rfl) ?_
    refine xa_getf xR xc_11 (by decide) (fun _ => rfl) xw_591 rfl d_X11_open_39 (fun x10 _ => ?_)
    refine xa_callVV (as := []) (st := []) (M' := mX4_forget) (d' := 2) rfl xw_878 xw_879 xw_880 xw_881 xw_172 xh_X4_forget rfl ⟨Nat.le_of_ble_eq_true rfl, Nat.le_of_ble_eq_true rfl⟩ (Nat.le_of_ble_eq_true rfl) rfl d_X11_open_42 (fun r hr => ct_X4_forget l G x10 r9 r hr) (fun r11 _ => ?_)
    refine xa_step (xa_aload_n d_X11_open_45 rfl) ?_
    refine xa_getf xR xc_11 (by decide) (fun _ => rfl) xw_592 rfl d_X11_open_46 (fun x12 _ => ?_)
    refine xa_step (xa_iconst d_X11_open_49 xq_i_0) ?_
    refine xa_putf2 (tg := xI) xc_7 (by decide) (fun _ => rfl) rfl (fun c hc => xa_fitI c hc) xw_481 rfl d_X11_open_50 (fun h13 _ => ?_)
    refine xa_step (xa_aload_n d_X11_open_53 rfl) ?_
    refine xa_getf xR xc_11 (by decide) (fun _ => rfl) xw_594 rfl d_X11_open_54 (fun x14 _ => ?_)
    refine xa_step (xa_aload_n d_X11_open_57 rfl) ?_
    refine xa_getf xI xc_0 (by decide) (fun _ => rfl) xw_391 rfl d_X11_open_58 (fun x15 _ => ?_)
    refine xa_step (xa_aload_n d_X11_open_61 rfl) ?_
    refine xa_getf xI xc_0 (by decide) (fun _ => rfl) xw_386 rfl d_X11_open_62 (fun x16 _ => ?_)
    refine xa_callVV (as := [xI x15, xI x16]) (st := []) (M' := mX5_forget) (d' := 5) rfl xw_561 xw_562 xw_563 xw_564 xw_174 xh_X5_forget rfl ⟨Nat.le_of_ble_eq_true rfl, Nat.le_of_ble_eq_true rfl⟩ (Nat.le_of_ble_eq_true rfl) rfl d_X11_open_65 (fun r hr => ct_X5_forget l G x14 x15 x16 h13 r hr) (fun r17 _ => ?_)
    refine xa_step (xa_aload_n d_X11_open_68 rfl) ?_
    refine xa_getf xR xc_11 (by decide) (fun _ => rfl) xw_596 rfl d_X11_open_69 (fun x18 _ => ?_)
    refine xa_step (xa_iconst d_X11_open_72 xq_i_0) ?_
    refine xa_step (xa_null d_X11_open_73) ?_
    refine xa_aastoreN_52 d_X11_open_74 (fun h19 _ => ?_)
    refine xa_step (xa_aload_n d_X11_open_75 rfl) ?_
    refine xa_getf xR xc_11 (by decide) (fun _ => rfl) xw_596 rfl d_X11_open_76 (fun x20 _ => ?_)
    refine xa_step (xa_iconst d_X11_open_79 xq_i_1) ?_
    refine xa_step (xa_null d_X11_open_80) ?_
    refine xa_aastoreN_52 d_X11_open_81 (fun h21 _ => ?_)
    refine xa_step (xa_aload_n d_X11_open_82 rfl) ?_
    refine xa_getf xI xc_0 (by decide) (fun _ => rfl) xw_382 rfl d_X11_open_83 (fun x22 _ => ?_)
    exact xa_iret d_X11_open_86 rfl rfl
theorem ct_X11_open (l : Launch) (G : xa_C) (v0 : Int) (h : xa_H) (r : Int × xa_H) (hr : f_X11_open v0 h = some r) : xa_CT l G 68 mX11_open yX11_open [xR v0] h (some (xI r.1), r.2) :=
  xa_met (by decide +kernel) rfl (fun q => by first | rfl | cases q) (Nat.le_of_ble_eq_true rfl) rfl (g_X11_open l G v0 h) (by rw [hr]; rfl)
abbrev mX11_resume : xa_M := (cX11_resume, 4, (some (.boolean)), RX11, false)
theorem d_X11_resume_0 : decode mX11_resume.1 0 = .ok (.aload_n 0, 1) ∧ 0 + 1 = 1 := ⟨by decide +kernel, rfl⟩
theorem d_X11_resume_1 : decode mX11_resume.1 1 = .ok (.aload_n 0, 1) ∧ 1 + 1 = 2 := ⟨by decide +kernel, rfl⟩
theorem d_X11_resume_2 : decode mX11_resume.1 2 = .ok (.invokevirtual 126, 3) ∧ 2 + 3 = 5 := ⟨by decide +kernel, rfl⟩
theorem d_X11_resume_5 : decode mX11_resume.1 5 = .ok (.invokevirtual 369, 3) ∧ 5 + 3 = 8 := ⟨by decide +kernel, rfl⟩
theorem d_X11_resume_8 : decode mX11_resume.1 8 = .ok (.ifCond .ne 11, 3) ∧ 8 + 3 = 11 ∧ ((8 : Nat) : Int) + 11 = ((19 : Nat) : Int) := ⟨by decide +kernel, rfl, rfl⟩
theorem d_X11_resume_11 : decode mX11_resume.1 11 = .ok (.aload_n 0, 1) ∧ 11 + 1 = 12 := ⟨by decide +kernel, rfl⟩
theorem d_X11_resume_12 : decode mX11_resume.1 12 = .ok (.iconst 5, 1) ∧ 12 + 1 = 13 := ⟨by decide +kernel, rfl⟩
theorem d_X11_resume_13 : decode mX11_resume.1 13 = .ok (.invokevirtual 118, 3) ∧ 13 + 3 = 16 := ⟨by decide +kernel, rfl⟩
theorem d_X11_resume_16 : decode mX11_resume.1 16 = .ok (.pop, 1) ∧ 16 + 1 = 17 := ⟨by decide +kernel, rfl⟩
theorem d_X11_resume_17 : decode mX11_resume.1 17 = .ok (.iconst 0, 1) ∧ 17 + 1 = 18 := ⟨by decide +kernel, rfl⟩
theorem d_X11_resume_18 : decode mX11_resume.1 18 = .ok (.ireturn, 1) := by decide +kernel
theorem d_X11_resume_19 : decode mX11_resume.1 19 = .ok (.aload_n 0, 1) ∧ 19 + 1 = 20 := ⟨by decide +kernel, rfl⟩
theorem d_X11_resume_20 : decode mX11_resume.1 20 = .ok (.getfield 54, 3) ∧ 20 + 3 = 23 := ⟨by decide +kernel, rfl⟩
theorem d_X11_resume_23 : decode mX11_resume.1 23 = .ok (.aload_n 0, 1) ∧ 23 + 1 = 24 := ⟨by decide +kernel, rfl⟩
theorem d_X11_resume_24 : decode mX11_resume.1 24 = .ok (.iconst 0, 1) ∧ 24 + 1 = 25 := ⟨by decide +kernel, rfl⟩
theorem d_X11_resume_25 : decode mX11_resume.1 25 = .ok (.invokevirtual 372, 3) ∧ 25 + 3 = 28 := ⟨by decide +kernel, rfl⟩
theorem d_X11_resume_28 : decode mX11_resume.1 28 = .ok (.putfield 167, 3) ∧ 28 + 3 = 31 := ⟨by decide +kernel, rfl⟩
theorem d_X11_resume_31 : decode mX11_resume.1 31 = .ok (.aload_n 0, 1) ∧ 31 + 1 = 32 := ⟨by decide +kernel, rfl⟩
theorem d_X11_resume_32 : decode mX11_resume.1 32 = .ok (.getfield 54, 3) ∧ 32 + 3 = 35 := ⟨by decide +kernel, rfl⟩
theorem d_X11_resume_35 : decode mX11_resume.1 35 = .ok (.iconst 0, 1) ∧ 35 + 1 = 36 := ⟨by decide +kernel, rfl⟩
theorem d_X11_resume_36 : decode mX11_resume.1 36 = .ok (.putfield 179, 3) ∧ 36 + 3 = 39 := ⟨by decide +kernel, rfl⟩
theorem d_X11_resume_39 : decode mX11_resume.1 39 = .ok (.aload_n 0, 1) ∧ 39 + 1 = 40 := ⟨by decide +kernel, rfl⟩
theorem d_X11_resume_40 : decode mX11_resume.1 40 = .ok (.getfield 61, 3) ∧ 40 + 3 = 43 := ⟨by decide +kernel, rfl⟩
theorem d_X11_resume_43 : decode mX11_resume.1 43 = .ok (.invokevirtual 141, 3) ∧ 43 + 3 = 46 := ⟨by decide +kernel, rfl⟩
theorem d_X11_resume_46 : decode mX11_resume.1 46 = .ok (.iconst 0, 1) ∧ 46 + 1 = 47 := ⟨by decide +kernel, rfl⟩
theorem d_X11_resume_47 : decode mX11_resume.1 47 = .ok (.istore_n 1, 1) ∧ 47 + 1 = 48 := ⟨by decide +kernel, rfl⟩
theorem d_X11_resume_48 : decode mX11_resume.1 48 = .ok (.iload_n 1, 1) ∧ 48 + 1 = 49 := ⟨by decide +kernel, rfl⟩
theorem d_X11_resume_49 : decode mX11_resume.1 49 = .ok (.aload_n 0, 1) ∧ 49 + 1 = 50 := ⟨by decide +kernel, rfl⟩
theorem d_X11_resume_50 : decode mX11_resume.1 50 = .ok (.getfield 47, 3) ∧ 50 + 3 = 53 := ⟨by decide +kernel, rfl⟩
theorem d_X11_resume_53 : decode mX11_resume.1 53 = .ok (.getfield 146, 3) ∧ 53 + 3 = 56 := ⟨by decide +kernel, rfl⟩
theorem d_X11_resume_56 : decode mX11_resume.1 56 = .ok (.if_icmp .ge 103, 3) ∧ 56 + 3 = 59 ∧ ((56 : Nat) : Int) + 103 = ((159 : Nat) : Int) := ⟨by decide +kernel, rfl, rfl⟩
theorem d_X11_resume_59 : decode mX11_resume.1 59 = .ok (.aload_n 0, 1) ∧ 59 + 1 = 60 := ⟨by decide +kernel, rfl⟩
theorem d_X11_resume_60 : decode mX11_resume.1 60 = .ok (.iload_n 1, 1) ∧ 60 + 1 = 61 := ⟨by decide +kernel, rfl⟩
theorem d_X11_resume_61 : decode mX11_resume.1 61 = .ok (.invokevirtual 375, 3) ∧ 61 + 3 = 64 := ⟨by decide +kernel, rfl⟩
theorem d_X11_resume_64 : decode mX11_resume.1 64 = .ok (.istore_n 2, 1) ∧ 64 + 1 = 65 := ⟨by decide +kernel, rfl⟩
theorem d_X11_resume_65 : decode mX11_resume.1 65 = .ok (.aload_n 0, 1) ∧ 65 + 1 = 66 := ⟨by decide +kernel, rfl⟩
theorem d_X11_resume_66 : decode mX11_resume.1 66 = .ok (.getfield 54, 3) ∧ 66 + 3 = 69 := ⟨by decide +kernel, rfl⟩
theorem d_X11_resume_69 : decode mX11_resume.1 69 = .ok (.getfield 217, 3) ∧ 69 + 3 = 72 := ⟨by decide +kernel, rfl⟩
theorem d_X11_resume_72 : decode mX11_resume.1 72 = .ok (.iload_n 1, 1) ∧ 72 + 1 = 73 := ⟨by decide +kernel, rfl⟩
theorem d_X11_resume_73 : decode mX11_resume.1 73 = .ok (.aload_n 0, 1) ∧ 73 + 1 = 74 := ⟨by decide +kernel, rfl⟩
theorem d_X11_resume_74 : decode mX11_resume.1 74 = .ok (.iload_n 2, 1) ∧ 74 + 1 = 75 := ⟨by decide +kernel, rfl⟩
theorem d_X11_resume_75 : decode mX11_resume.1 75 = .ok (.invokevirtual 303, 3) ∧ 75 + 3 = 78 := ⟨by decide +kernel, rfl⟩
theorem d_X11_resume_78 : decode mX11_resume.1 78 = .ok (.iastore, 1) ∧ 78 + 1 = 79 := ⟨by decide +kernel, rfl⟩
theorem d_X11_resume_79 : decode mX11_resume.1 79 = .ok (.aload_n 0, 1) ∧ 79 + 1 = 80 := ⟨by decide +kernel, rfl⟩
theorem d_X11_resume_80 : decode mX11_resume.1 80 = .ok (.getfield 54, 3) ∧ 80 + 3 = 83 := ⟨by decide +kernel, rfl⟩
theorem d_X11_resume_83 : decode mX11_resume.1 83 = .ok (.getfield 220, 3) ∧ 83 + 3 = 86 := ⟨by decide +kernel, rfl⟩
theorem d_X11_resume_86 : decode mX11_resume.1 86 = .ok (.iload_n 1, 1) ∧ 86 + 1 = 87 := ⟨by decide +kernel, rfl⟩
theorem d_X11_resume_87 : decode mX11_resume.1 87 = .ok (.aload_n 0, 1) ∧ 87 + 1 = 88 := ⟨by decide +kernel, rfl⟩
theorem d_X11_resume_88 : decode mX11_resume.1 88 = .ok (.iload_n 2, 1) ∧ 88 + 1 = 89 := ⟨by decide +kernel, rfl⟩
theorem d_X11_resume_89 : decode mX11_resume.1 89 = .ok (.iconst 1, 1) ∧ 89 + 1 = 90 := ⟨by decide +kernel, rfl⟩
theorem d_X11_resume_90 : decode mX11_resume.1 90 = .ok (.iadd, 1) ∧ 90 + 1 = 91 := ⟨by decide +kernel, rfl⟩
theorem d_X11_resume_91 : decode mX11_resume.1 91 = .ok (.invokevirtual 303, 3) ∧ 91 + 3 = 94 := ⟨by decide +kernel, rfl⟩
theorem d_X11_resume_94 : decode mX11_resume.1 94 = .ok (.iastore, 1) ∧ 94 + 1 = 95 := ⟨by decide +kernel, rfl⟩
theorem d_X11_resume_95 : decode mX11_resume.1 95 = .ok (.aload_n 0, 1) ∧ 95 + 1 = 96 := ⟨by decide +kernel, rfl⟩
theorem d_X11_resume_96 : decode mX11_resume.1 96 = .ok (.getfield 54, 3) ∧ 96 + 3 = 99 := ⟨by decide +kernel, rfl⟩
theorem d_X11_resume_99 : decode mX11_resume.1 99 = .ok (.getfield 223, 3) ∧ 99 + 3 = 102 := ⟨by decide +kernel, rfl⟩
theorem d_X11_resume_102 : decode mX11_resume.1 102 = .ok (.iload_n 1, 1) ∧ 102 + 1 = 103 := ⟨by decide +kernel, rfl⟩
theorem d_X11_resume_103 : decode mX11_resume.1 103 = .ok (.aload_n 0, 1) ∧ 103 + 1 = 104 := ⟨by decide +kernel, rfl⟩
theorem d_X11_resume_104 : decode mX11_resume.1 104 = .ok (.iload_n 2, 1) ∧ 104 + 1 = 105 := ⟨by decide +kernel, rfl⟩
theorem d_X11_resume_105 : decode mX11_resume.1 105 = .ok (.iconst 2, 1) ∧ 105 + 1 = 106 := ⟨by decide +kernel, rfl⟩
theorem d_X11_resume_106 : decode mX11_resume.1 106 = .ok (.iadd, 1) ∧ 106 + 1 = 107 := ⟨by decide +kernel, rfl⟩
theorem d_X11_resume_107 : decode mX11_resume.1 107 = .ok (.invokevirtual 372, 3) ∧ 107 + 3 = 110 := ⟨by decide +kernel, rfl⟩
theorem d_X11_resume_110 : decode mX11_resume.1 110 = .ok (.iastore, 1) ∧ 110 + 1 = 111 := ⟨by decide +kernel, rfl⟩
theorem d_X11_resume_111 : decode mX11_resume.1 111 = .ok (.iconst 0, 1) ∧ 111 + 1 = 112 := ⟨by decide +kernel, rfl⟩
theorem d_X11_resume_112 : decode mX11_resume.1 112 = .ok (.istore_n 3, 1) ∧ 112 + 1 = 113 := ⟨by decide +kernel, rfl⟩
theorem d_X11_resume_113 : decode mX11_resume.1 113 = .ok (.iload_n 3, 1) ∧ 113 + 1 = 114 := ⟨by decide +kernel, rfl⟩
theorem d_X11_resume_114 : decode mX11_resume.1 114 = .ok (.aload_n 0, 1) ∧ 114 + 1 = 115 := ⟨by decide +kernel, rfl⟩
theorem d_X11_resume_115 : decode mX11_resume.1 115 = .ok (.getfield 47, 3) ∧ 115 + 3 = 118 := ⟨by decide +kernel, rfl⟩
theorem d_X11_resume_118 : decode mX11_resume.1 118 = .ok (.getfield 146, 3) ∧ 118 + 3 = 121 := ⟨by decide +kernel, rfl⟩
theorem d_X11_resume_121 : decode mX11_resume.1 121 = .ok (.if_icmp .ge 32, 3) ∧ 121 + 3 = 124 ∧ ((121 : Nat) : Int) + 32 = ((153 : Nat) : Int) := ⟨by decide +kernel, rfl, rfl⟩
theorem d_X11_resume_124 : decode mX11_resume.1 124 = .ok (.aload_n 0, 1) ∧ 124 + 1 = 125 := ⟨by decide +kernel, rfl⟩
theorem d_X11_resume_125 : decode mX11_resume.1 125 = .ok (.getfield 54, 3) ∧ 125 + 3 = 128 := ⟨by decide +kernel, rfl⟩
theorem d_X11_resume_128 : decode mX11_resume.1 128 = .ok (.getfield 235, 3) ∧ 128 + 3 = 131 := ⟨by decide +kernel, rfl⟩
theorem d_X11_resume_131 : decode mX11_resume.1 131 = .ok (.iload_n 1, 1) ∧ 131 + 1 = 132 := ⟨by decide +kernel, rfl⟩
theorem d_X11_resume_132 : decode mX11_resume.1 132 = .ok (.bipush 6, 2) ∧ 132 + 2 = 134 := ⟨by decide +kernel, rfl⟩
theorem d_X11_resume_134 : decode mX11_resume.1 134 = .ok (.imul, 1) ∧ 134 + 1 = 135 := ⟨by decide +kernel, rfl⟩
theorem d_X11_resume_135 : decode mX11_resume.1 135 = .ok (.iload_n 3, 1) ∧ 135 + 1 = 136 := ⟨by decide +kernel, rfl⟩
theorem d_X11_resume_136 : decode mX11_resume.1 136 = .ok (.iadd, 1) ∧ 136 + 1 = 137 := ⟨by decide +kernel, rfl⟩
theorem d_X11_resume_137 : decode mX11_resume.1 137 = .ok (.aload_n 0, 1) ∧ 137 + 1 = 138 := ⟨by decide +kernel, rfl⟩
theorem d_X11_resume_138 : decode mX11_resume.1 138 = .ok (.iload_n 2, 1) ∧ 138 + 1 = 139 := ⟨by decide +kernel, rfl⟩
theorem d_X11_resume_139 : decode mX11_resume.1 139 = .ok (.iconst 4, 1) ∧ 139 + 1 = 140 := ⟨by decide +kernel, rfl⟩
theorem d_X11_resume_140 : decode mX11_resume.1 140 = .ok (.iadd, 1) ∧ 140 + 1 = 141 := ⟨by decide +kernel, rfl⟩
theorem d_X11_resume_141 : decode mX11_resume.1 141 = .ok (.iload_n 3, 1) ∧ 141 + 1 = 142 := ⟨by decide +kernel, rfl⟩
theorem d_X11_resume_142 : decode mX11_resume.1 142 = .ok (.iadd, 1) ∧ 142 + 1 = 143 := ⟨by decide +kernel, rfl⟩
theorem d_X11_resume_143 : decode mX11_resume.1 143 = .ok (.invokevirtual 303, 3) ∧ 143 + 3 = 146 := ⟨by decide +kernel, rfl⟩
theorem d_X11_resume_146 : decode mX11_resume.1 146 = .ok (.iastore, 1) ∧ 146 + 1 = 147 := ⟨by decide +kernel, rfl⟩
theorem d_X11_resume_147 : decode mX11_resume.1 147 = .ok (.iinc 3 1, 3) ∧ 147 + 3 = 150 := ⟨by decide +kernel, rfl⟩
theorem d_X11_resume_150 : decode mX11_resume.1 150 = .ok (.goto (-37), 3) ∧ ((150 : Nat) : Int) + (-37) = ((113 : Nat) : Int) := ⟨by decide +kernel, rfl⟩
set_option maxRecDepth 100000 in
set_option maxHeartbeats 4000000 in
theorem g_X11_resume_L113 (l : Launch) (G : xa_C) (c0 c1 c2 : Int) (K : (Int × xa_H) ⊕ (xa_H) → Option xa_O) (hb : ∀ (v3 : Int) (h : xa_H), xa_G l G 6 mX11_resume (some (Sum.inl ((v3, h)))) K 113 [some (xR c0), some (xI c1), some (xI c2), some (xI v3)] [] h) (hx : ∀ (h : xa_H), xa_G l G 6 mX11_resume (some (Sum.inr h)) K 153 [some (xR c0), some (xI c1), none, none] [] h) : ∀ (v3 : Int) (h : xa_H), xa_G l G 6 mX11_resume (f_X11_resume_L113 c0 c1 c2 v3 h) K 113 [some (xR c0), some (xI c1), some (xI c2), some (xI v3)] [] h := by
  intro v3 h
  unfold f_X11_resume_L113
  refine xa_step (xa_iload_n d_X11_resume_113 rfl) ?_
  refine xa_step (xa_aload_n d_X11_resume_114 rfl) ?_
  refine xa_getf xR xc_11 (by decide) (fun _ => rfl) xw_589 rfl d_X11_resume_115 (fun x28 _ => ?_)
  refine xa_getf xI xc_0 (by decide) (fun _ => rfl) xw_391 rfl d_X11_resume_118 (fun x29 _ => ?_)
  refine xa_if (xa_icmpge d_X11_resume_121) (fun q30 => ?_) (fun q30 => ?_)
  · refine xa_step (xa_aload_n d_X11_resume_124 rfl) ?_
    refine xa_getf xR xc_11 (by decide) (fun _ => rfl) xw_590 rfl d_X11_resume_125 (fun x31 _ => ?_)
    refine xa_getf xR xc_9 (by decide) (fun _ => rfl) xw_357 rfl d_X11_resume_128 (fun x32 _ => ?_)
    refine xa_step (xa_iload_n d_X11_resume_131 rfl) ?_
    refine xa_step (xa_bipush d_X11_resume_132 xq_b_6) ?_
    refine xa_step (xa_imul d_X11_resume_134) ?_
    refine xa_step (xa_iload_n d_X11_resume_135 rfl) ?_
    refine xa_step (xa_iadd d_X11_resume_136) ?_
    refine xa_step (xa_aload_n d_X11_resume_137 rfl) ?_
    refine xa_step (xa_iload_n d_X11_resume_138 rfl) ?_
    refine xa_step (xa_iconst d_X11_resume_139 xq_i_4) ?_
    refine xa_step (xa_iadd d_X11_resume_140) ?_
    refine xa_step (xa_iload_n d_X11_resume_141 rfl) ?_
    refine xa_step (xa_iadd d_X11_resume_142) ?_
    refine xa_callVi (as := [xI (w32 ((w32 (c2 + 4)) + v3))]) (st := [xI (w32 ((w32 (c1 * 6)) + v3)), xR x32]) (M' := mX11_tapeByte) (d' := 2) rfl xw_958 xw_960 xw_36 xw_961 xw_161 xh_X11_tapeByte rfl ⟨Nat.le_of_ble_eq_true rfl, Nat.le_of_ble_eq_true rfl⟩ (Nat.le_of_ble_eq_true rfl) rfl d_X11_resume_143 (fun r hr => ct_X11_tapeByte l G c0 (w32 ((w32 (c2 + 4)) + v3)) h r hr) (fun r33 _ => ?_)
    refine xa_iastore2 d_X11_resume_146 (fun h34 _ => ?_)
    refine xa_step (xa_iinc (ls' := [some (xR c0), some (xI c1), some (xI c2), some (xI (w32 (v3 + 1)))]) d_X11_resume_147 xq_i_1 rfl (by decide) rfl) ?_
    refine xa_step (xa_goto d_X11_resume_150) ?_
    exact xa_weak (ls' := [some (xR c0), some (xI c1), some (xI c2), some (xI (w32 (v3 + 1)))]) ⟨rfl, rfl, rfl, rfl, trivial⟩ (hb (w32 (v3 + 1)) h34)
  · exact xa_weak (ls' := [some (xR c0), some (xI c1), none, none]) ⟨rfl, rfl, trivial⟩ (hx h)
theorem d_X11_resume_153 : decode mX11_resume.1 153 = .ok (.iinc 1 1, 3) ∧ 153 + 3 = 156 := ⟨by decide +kernel, rfl⟩
theorem d_X11_resume_156 : decode mX11_resume.1 156 = .ok (.goto (-108), 3) ∧ ((156 : Nat) : Int) + (-108) = ((48 : Nat) : Int) := ⟨by decide +kernel, rfl⟩
set_option maxRecDepth 100000 in
set_option maxHeartbeats 4000000 in
theorem g_X11_resume_L48 (l : Launch) (G : xa_C) (c0 : Int) (K : (Int × xa_H) ⊕ (xa_H) → Option xa_O) (hb : ∀ (v1 : Int) (h : xa_H), xa_G l G 6 mX11_resume (some (Sum.inl ((v1, h)))) K 48 [some (xR c0), some (xI v1), none, none] [] h) (hx : ∀ (h : xa_H), xa_G l G 6 mX11_resume (some (Sum.inr h)) K 159 [none, none, none, none] [] h) : ∀ (v1 : Int) (h : xa_H), xa_G l G 6 mX11_resume (f_X11_resume_L48 c0 v1 h) K 48 [some (xR c0), some (xI v1), none, none] [] h := by
  intro v1 h
  unfold f_X11_resume_L48
  refine xa_step (xa_iload_n d_X11_resume_48 rfl) ?_
  refine xa_step (xa_aload_n d_X11_resume_49 rfl) ?_
  refine xa_getf xR xc_11 (by decide) (fun _ => rfl) xw_589 rfl d_X11_resume_50 (fun x12 _ => ?_)
  refine xa_getf xI xc_0 (by decide) (fun _ => rfl) xw_391 rfl d_X11_resume_53 (fun x13 _ => ?_)
  refine xa_if (xa_icmpge d_X11_resume_56) (fun q14 => ?_) (fun q14 => ?_)
  · refine xa_step (xa_aload_n d_X11_resume_59 rfl) ?_
    refine xa_step (xa_iload_n d_X11_resume_60 rfl) ?_
    refine xa_callVi (as := [xI v1]) (st := []) (M' := mX11_imagePlace) (d' := 2) rfl xw_1281 xw_1283 xw_63 xw_1284 xw_161 xh_X11_imagePlace rfl ⟨Nat.le_of_ble_eq_true rfl, Nat.le_of_ble_eq_true rfl⟩ (Nat.le_of_ble_eq_true rfl) rfl d_X11_resume_61 (fun r hr => ct_X11_imagePlace l G c0 v1 h r hr) (fun r15 _ => ?_)
    refine xa_step (xa_istore_n (ls' := [some (xR c0), some (xI v1), some (xI r15), none]) d_X11_resume_64 (by decide) rfl) ?_
    refine xa_step (xa_aload_n d_X11_resume_65 rfl) ?_
    refine xa_getf xR xc_11 (by decide) (fun _ => rfl) xw_590 rfl d_X11_resume_66 (fun x16 _ => ?_)
    refine xa_getf xR xc_9 (by decide) (fun _ => rfl) xw_346 rfl d_X11_resume_69 (fun x17 _ => ?_)
    refine xa_step (xa_iload_n d_X11_resume_72 rfl) ?_
    refine xa_step (xa_aload_n d_X11_resume_73 rfl) ?_
    refine xa_step (xa_iload_n d_X11_resume_74 rfl) ?_
    refine xa_callVi (as := [xI r15]) (st := [xI v1, xR x17]) (M' := mX11_tapeByte) (d' := 2) rfl xw_958 xw_960 xw_36 xw_961 xw_161 xh_X11_tapeByte rfl ⟨Nat.le_of_ble_eq_true rfl, Nat.le_of_ble_eq_true rfl⟩ (Nat.le_of_ble_eq_true rfl) rfl d_X11_resume_75 (fun r hr => ct_X11_tapeByte l G c0 r15 h r hr) (fun r18 _ => ?_)
    refine xa_iastore2 d_X11_resume_78 (fun h19 _ => ?_)
    refine xa_step (xa_aload_n d_X11_resume_79 rfl) ?_
    refine xa_getf xR xc_11 (by decide) (fun _ => rfl) xw_590 rfl d_X11_resume_80 (fun x20 _ => ?_)
    refine xa_getf xR xc_9 (by decide) (fun _ => rfl) xw_350 rfl d_X11_resume_83 (fun x21 _ => ?_)
    refine xa_step (xa_iload_n d_X11_resume_86 rfl) ?_
    refine xa_step (xa_aload_n d_X11_resume_87 rfl) ?_
    refine xa_step (xa_iload_n d_X11_resume_88 rfl) ?_
    refine xa_step (xa_iconst d_X11_resume_89 xq_i_1) ?_
    refine xa_step (xa_iadd d_X11_resume_90) ?_
    refine xa_callVi (as := [xI (w32 (r15 + 1))]) (st := [xI v1, xR x21]) (M' := mX11_tapeByte) (d' := 2) rfl xw_958 xw_960 xw_36 xw_961 xw_161 xh_X11_tapeByte rfl ⟨Nat.le_of_ble_eq_true rfl, Nat.le_of_ble_eq_true rfl⟩ (Nat.le_of_ble_eq_true rfl) rfl d_X11_resume_91 (fun r hr => ct_X11_tapeByte l G c0 (w32 (r15 + 1)) h19 r hr) (fun r22 _ => ?_)
    refine xa_iastore2 d_X11_resume_94 (fun h23 _ => ?_)
    refine xa_step (xa_aload_n d_X11_resume_95 rfl) ?_
    refine xa_getf xR xc_11 (by decide) (fun _ => rfl) xw_590 rfl d_X11_resume_96 (fun x24 _ => ?_)
    refine xa_getf xR xc_9 (by decide) (fun _ => rfl) xw_354 rfl d_X11_resume_99 (fun x25 _ => ?_)
    refine xa_step (xa_iload_n d_X11_resume_102 rfl) ?_
    refine xa_step (xa_aload_n d_X11_resume_103 rfl) ?_
    refine xa_step (xa_iload_n d_X11_resume_104 rfl) ?_
    refine xa_step (xa_iconst d_X11_resume_105 xq_i_2) ?_
    refine xa_step (xa_iadd d_X11_resume_106) ?_
    refine xa_callVi (as := [xI (w32 (r15 + 2))]) (st := [xI v1, xR x25]) (M' := mX11_tapePair) (d' := 3) rfl xw_1285 xw_1287 xw_64 xw_1288 xw_161 xh_X11_tapePair rfl ⟨Nat.le_of_ble_eq_true rfl, Nat.le_of_ble_eq_true rfl⟩ (Nat.le_of_ble_eq_true rfl) rfl d_X11_resume_107 (fun r hr => ct_X11_tapePair l G c0 (w32 (r15 + 2)) h23 r hr) (fun r26 _ => ?_)
    refine xa_iastore2 d_X11_resume_110 (fun h27 _ => ?_)
    refine xa_step (xa_iconst d_X11_resume_111 xq_i_0) ?_
    refine xa_step (xa_istore_n (ls' := [some (xR c0), some (xI v1), some (xI r15), some (xI 0)]) d_X11_resume_112 (by decide) rfl) ?_
    refine xa_weak (ls' := [some (xR c0), some (xI v1), some (xI r15), some (xI 0)]) ⟨rfl, rfl, rfl, rfl, trivial⟩ ?_
    refine xa_loop (f := fun s => f_X11_resume_L113 c0 v1 r15 s.1 s.2) (L := fun s => [some (xR c0), some (xI v1), some (xI r15), some (xI s.1)]) (P := fun s => s.2) (X := (fun x K => xa_G l G 6 mX11_resume (some (Sum.inr x)) K 153 [some (xR c0), some (xI v1), none, none] [] x)) (fun K hb hX s => g_X11_resume_L113 l G c0 v1 r15 K (fun w0 hh => hb ((w0, hh))) (fun hh => hX hh) s.1 s.2) ?_ xFU ((0, h27))
    intro e35 K hK
    refine xa_eqE hK ?_
    show xa_G l G 6 mX11_resume _ _ 153 [some (xR c0), some (xI v1), none, none] [] e35
    refine xa_step (xa_iinc (ls' := [some (xR c0), some (xI (w32 (v1 + 1))), none, none]) d_X11_resume_153 xq_i_1 rfl (by decide) rfl) ?_
    refine xa_step (xa_goto d_X11_resume_156) ?_
    exact xa_weak (ls' := [some (xR c0), some (xI (w32 (v1 + 1))), none, none]) ⟨rfl, rfl, trivial⟩ (hb (w32 (v1 + 1)) e35)
  · exact xa_weak (ls' := [none, none, none, none]) trivial (hx h)
theorem d_X11_resume_159 : decode mX11_resume.1 159 = .ok (.iconst 1, 1) ∧ 159 + 1 = 160 := ⟨by decide +kernel, rfl⟩
theorem d_X11_resume_160 : decode mX11_resume.1 160 = .ok (.ireturn, 1) := by decide +kernel
set_option maxRecDepth 100000 in
set_option maxHeartbeats 4000000 in
theorem g_X11_resume (l : Launch) (G : xa_C) (v0 : Int) (h : xa_H) : xa_G l G 6 mX11_resume (f_X11_resume v0 h) (fun r => some (some (xI r.1), r.2) : (Int × xa_H) → Option xa_O) 0 [some (xR v0), none, none, none] [] h := by
  unfold f_X11_resume
  refine xa_step (xa_aload_n d_X11_resume_0 rfl) ?_
  refine xa_step (xa_aload_n d_X11_resume_1 rfl) ?_
  refine xa_callVI (as := []) (st := [xR v0]) (M' := mX11_takeTape) (d' := 2) rfl xw_662 xw_664 xw_4 xw_665 xw_161 xh_X11_takeTape rfl ⟨Nat.le_of_ble_eq_true rfl, Nat.le_of_ble_eq_true rfl⟩ (Nat.le_of_ble_eq_true rfl) rfl d_X11_resume_2 (fun r hr => ct_X11_takeTape l G v0 h r hr) (fun r1 _ => ?_)
  refine xa_callVi (as := [xI r1.1]) (st := []) (M' := mX11_isImage) (d' := 5) rfl xw_1277 xw_1279 xw_62 xw_1280 xw_161 xh_X11_isImage rfl ⟨Nat.le_of_ble_eq_true rfl, Nat.le_of_ble_eq_true rfl⟩ (Nat.le_of_ble_eq_true rfl) rfl d_X11_resume_5 (fun r hr => ct_X11_isImage l G v0 r1.1 r1.2 r hr) (fun r2 _ => ?_)
  refine xa_if (xa_ifne d_X11_resume_8) (fun q3 => ?_) (fun q3 => ?_)
  · refine xa_step (xa_aload_n d_X11_resume_11 rfl) ?_
    refine xa_step (xa_iconst d_X11_resume_12 xq_i_5) ?_
    refine xa_callVI (as := [xI 5]) (st := []) (M' := mX11_refuse) (d' := 2) rfl xw_646 xw_648 xw_2 xw_649 xw_161 xh_X11_refuse rfl ⟨Nat.le_of_ble_eq_true rfl, Nat.le_of_ble_eq_true rfl⟩ (Nat.le_of_ble_eq_true rfl) rfl d_X11_resume_13 (fun r hr => ct_X11_refuse l G v0 5 r1.2 r hr) (fun r4 _ => ?_)
    refine xa_step (xa_pop d_X11_resume_16) ?_
    refine xa_step (xa_iconst d_X11_resume_17 xq_i_0) ?_
    exact xa_zret d_X11_resume_18 rfl (Or.inl rfl) rfl
  · refine xa_step (xa_aload_n d_X11_resume_19 rfl) ?_
    refine xa_getf xR xc_11 (by decide) (fun _ => rfl) xw_590 rfl d_X11_resume_20 (fun x5 _ => ?_)
    refine xa_step (xa_aload_n d_X11_resume_23 rfl) ?_
    refine xa_step (xa_iconst d_X11_resume_24 xq_i_0) ?_
    refine xa_callVi (as := [xI 0]) (st := [xR x5]) (M' := mX11_tapePair) (d' := 3) rfl xw_1285 xw_1287 xw_64 xw_1288 xw_161 xh_X11_tapePair rfl ⟨Nat.le_of_ble_eq_true rfl, Nat.le_of_ble_eq_true rfl⟩ (Nat.le_of_ble_eq_true rfl) rfl d_X11_resume_25 (fun r hr => ct_X11_tapePair l G v0 0 r1.2 r hr) (fun r6 _ => ?_)
    refine xa_putf2 (tg := xI) xc_9 (by decide) (fun _ => rfl) rfl (fun c hc => xa_fitI c hc) xw_341 rfl d_X11_resume_28 (fun h7 _ => ?_)
    refine xa_step (xa_aload_n d_X11_resume_31 rfl) ?_
    refine xa_getf xR xc_11 (by decide) (fun _ => rfl) xw_590 rfl d_X11_resume_32 (fun x8 _ => ?_)
    refine xa_step (xa_iconst d_X11_resume_35 xq_i_0) ?_
    refine xa_putf2 (tg := xI) xc_9 (by decide) (fun _ => rfl) rfl (fun c hc => xa_fitI c hc) xw_361 rfl d_X11_resume_36 (fun h9 _ => ?_)
    refine xa_step (xa_aload_n d_X11_resume_39 rfl) ?_
    refine xa_getf xR xc_11 (by decide) (fun _ => rfl) xw_591 rfl d_X11_resume_40 (fun x10 _ => ?_)
    refine xa_callVV (as := []) (st := []) (M' := mX4_forget) (d' := 2) rfl xw_878 xw_879 xw_880 xw_881 xw_172 xh_X4_forget rfl ⟨Nat.le_of_ble_eq_true rfl, Nat.le_of_ble_eq_true rfl⟩ (Nat.le_of_ble_eq_true rfl) rfl d_X11_resume_43 (fun r hr => ct_X4_forget l G x10 h9 r hr) (fun r11 _ => ?_)
    refine xa_step (xa_iconst d_X11_resume_46 xq_i_0) ?_
    refine xa_step (xa_istore_n (ls' := [some (xR v0), some (xI 0), none, none]) d_X11_resume_47 (by decide) rfl) ?_
    refine xa_weak (ls' := [some (xR v0), some (xI 0), none, none]) ⟨rfl, rfl, trivial⟩ ?_
    refine xa_loop (f := fun s => f_X11_resume_L48 v0 s.1 s.2) (L := fun s => [some (xR v0), some (xI s.1), none, none]) (P := fun s => s.2) (X := (fun x K => xa_G l G 6 mX11_resume (some (Sum.inr x)) K 159 [none, none, none, none] [] x)) (fun K hb hX s => g_X11_resume_L48 l G v0 K (fun w0 hh => hb ((w0, hh))) (fun hh => hX hh) s.1 s.2) ?_ xFU ((0, r11))
    intro e36 K hK
    refine xa_eqE hK ?_
    show xa_G l G 6 mX11_resume _ _ 159 [none, none, none, none] [] e36
    refine xa_step (xa_iconst d_X11_resume_159 xq_i_1) ?_
    exact xa_zret d_X11_resume_160 rfl (Or.inr rfl) rfl
theorem ct_X11_resume (l : Launch) (G : xa_C) (v0 : Int) (h : xa_H) (r : Int × xa_H) (hr : f_X11_resume v0 h = some r) : xa_CT l G 6 mX11_resume yX11_resume [xR v0] h (some (xI r.1), r.2) :=
  xa_met (by decide +kernel) rfl (fun q => by first | rfl | cases q) (Nat.le_of_ble_eq_true rfl) rfl (g_X11_resume l G v0 h) (by rw [hr]; rfl)
abbrev mX11_ring : xa_M := (cX11_ring, 1, (some (.int)), RX11, false)
theorem d_X11_ring_0 : decode mX11_ring.1 0 = .ok (.aload_n 0, 1) ∧ 0 + 1 = 1 := ⟨by decide +kernel, rfl⟩
theorem d_X11_ring_1 : decode mX11_ring.1 1 = .ok (.aload_n 0, 1) ∧ 1 + 1 = 2 := ⟨by decide +kernel, rfl⟩
theorem d_X11_ring_2 : decode mX11_ring.1 2 = .ok (.getfield 72, 3) ∧ 2 + 3 = 5 := ⟨by decide +kernel, rfl⟩
theorem d_X11_ring_5 : decode mX11_ring.1 5 = .ok (.aload_n 0, 1) ∧ 5 + 1 = 6 := ⟨by decide +kernel, rfl⟩
theorem d_X11_ring_6 : decode mX11_ring.1 6 = .ok (.invokevirtual 126, 3) ∧ 6 + 3 = 9 := ⟨by decide +kernel, rfl⟩
theorem d_X11_ring_9 : decode mX11_ring.1 9 = .ok (.invokevirtual 241, 3) ∧ 9 + 3 = 12 := ⟨by decide +kernel, rfl⟩
theorem d_X11_ring_12 : decode mX11_ring.1 12 = .ok (.ifCond .ne 9, 3) ∧ 12 + 3 = 15 ∧ ((12 : Nat) : Int) + 9 = ((21 : Nat) : Int) := ⟨by decide +kernel, rfl, rfl⟩
theorem d_X11_ring_15 : decode mX11_ring.1 15 = .ok (.aload_n 0, 1) ∧ 15 + 1 = 16 := ⟨by decide +kernel, rfl⟩
theorem d_X11_ring_16 : decode mX11_ring.1 16 = .ok (.iconst 2, 1) ∧ 16 + 1 = 17 := ⟨by decide +kernel, rfl⟩
theorem d_X11_ring_17 : decode mX11_ring.1 17 = .ok (.invokevirtual 118, 3) ∧ 17 + 3 = 20 := ⟨by decide +kernel, rfl⟩
theorem d_X11_ring_20 : decode mX11_ring.1 20 = .ok (.ireturn, 1) := by decide +kernel
theorem d_X11_ring_21 : decode mX11_ring.1 21 = .ok (.aload_n 0, 1) ∧ 21 + 1 = 22 := ⟨by decide +kernel, rfl⟩
theorem d_X11_ring_22 : decode mX11_ring.1 22 = .ok (.getfield 61, 3) ∧ 22 + 3 = 25 := ⟨by decide +kernel, rfl⟩
theorem d_X11_ring_25 : decode mX11_ring.1 25 = .ok (.aload_n 0, 1) ∧ 25 + 1 = 26 := ⟨by decide +kernel, rfl⟩
theorem d_X11_ring_26 : decode mX11_ring.1 26 = .ok (.getfield 54, 3) ∧ 26 + 3 = 29 := ⟨by decide +kernel, rfl⟩
theorem d_X11_ring_29 : decode mX11_ring.1 29 = .ok (.invokevirtual 325, 3) ∧ 29 + 3 = 32 := ⟨by decide +kernel, rfl⟩
theorem d_X11_ring_32 : decode mX11_ring.1 32 = .ok (.aload_n 0, 1) ∧ 32 + 1 = 33 := ⟨by decide +kernel, rfl⟩
theorem d_X11_ring_33 : decode mX11_ring.1 33 = .ok (.getfield 72, 3) ∧ 33 + 3 = 36 := ⟨by decide +kernel, rfl⟩
theorem d_X11_ring_36 : decode mX11_ring.1 36 = .ok (.aload_n 0, 1) ∧ 36 + 1 = 37 := ⟨by decide +kernel, rfl⟩
theorem d_X11_ring_37 : decode mX11_ring.1 37 = .ok (.getfield 47, 3) ∧ 37 + 3 = 40 := ⟨by decide +kernel, rfl⟩
theorem d_X11_ring_40 : decode mX11_ring.1 40 = .ok (.aload_n 0, 1) ∧ 40 + 1 = 41 := ⟨by decide +kernel, rfl⟩
theorem d_X11_ring_41 : decode mX11_ring.1 41 = .ok (.getfield 54, 3) ∧ 41 + 3 = 44 := ⟨by decide +kernel, rfl⟩
theorem d_X11_ring_44 : decode mX11_ring.1 44 = .ok (.invokevirtual 245, 3) ∧ 44 + 3 = 47 := ⟨by decide +kernel, rfl⟩
theorem d_X11_ring_47 : decode mX11_ring.1 47 = .ok (.aload_n 0, 1) ∧ 47 + 1 = 48 := ⟨by decide +kernel, rfl⟩
theorem d_X11_ring_48 : decode mX11_ring.1 48 = .ok (.invokevirtual 328, 3) ∧ 48 + 3 = 51 := ⟨by decide +kernel, rfl⟩
theorem d_X11_ring_51 : decode mX11_ring.1 51 = .ok (.aload_n 0, 1) ∧ 51 + 1 = 52 := ⟨by decide +kernel, rfl⟩
theorem d_X11_ring_52 : decode mX11_ring.1 52 = .ok (.getfield 72, 3) ∧ 52 + 3 = 55 := ⟨by decide +kernel, rfl⟩
theorem d_X11_ring_55 : decode mX11_ring.1 55 = .ok (.getfield 249, 3) ∧ 55 + 3 = 58 := ⟨by decide +kernel, rfl⟩
theorem d_X11_ring_58 : decode mX11_ring.1 58 = .ok (.ireturn, 1) := by decide +kernel
set_option maxRecDepth 100000 in
set_option maxHeartbeats 4000000 in
theorem g_X11_ring (l : Launch) (G : xa_C) (v0 : Int) (h : xa_H) : xa_G l G 6 mX11_ring (f_X11_ring v0 h) (fun r => some (some (xI r.1), r.2) : (Int × xa_H) → Option xa_O) 0 [some (xR v0)] [] h := by
  unfold f_X11_ring
  refine xa_step (xa_aload_n d_X11_ring_0 rfl) ?_
  refine xa_step (xa_aload_n d_X11_ring_1 rfl) ?_
  refine xa_getf xR xc_11 (by decide) (fun _ => rfl) xw_593 rfl d_X11_ring_2 (fun x1 _ => ?_)
  refine xa_step (xa_aload_n d_X11_ring_5 rfl) ?_
  refine xa_callVI (as := []) (st := [xR x1, xR v0]) (M' := mX11_takeTape) (d' := 2) rfl xw_662 xw_664 xw_4 xw_665 xw_161 xh_X11_takeTape rfl ⟨Nat.le_of_ble_eq_true rfl, Nat.le_of_ble_eq_true rfl⟩ (Nat.le_of_ble_eq_true rfl) rfl d_X11_ring_6 (fun r hr => ct_X11_takeTape l G v0 h r hr) (fun r2 _ => ?_)
  refine xa_callVI (as := [xR x1, xI r2.1]) (st := []) (M' := mX11_readRing) (d' := 3) rfl xw_954 xw_956 xw_35 xw_957 xw_161 xh_X11_readRing rfl ⟨Nat.le_of_ble_eq_true rfl, Nat.le_of_ble_eq_true rfl⟩ (Nat.le_of_ble_eq_true rfl) rfl d_X11_ring_9 (fun r hr => ct_X11_readRing l G v0 x1 r2.1 r2.2 r hr) (fun r3 _ => ?_)
  refine xa_if (xa_ifne d_X11_ring_12) (fun q4 => ?_) (fun q4 => ?_)
  · refine xa_step (xa_aload_n d_X11_ring_15 rfl) ?_
    refine xa_step (xa_iconst d_X11_ring_16 xq_i_2) ?_
    refine xa_callVI (as := [xI 2]) (st := []) (M' := mX11_refuse) (d' := 2) rfl xw_646 xw_648 xw_2 xw_649 xw_161 xh_X11_refuse rfl ⟨Nat.le_of_ble_eq_true rfl, Nat.le_of_ble_eq_true rfl⟩ (Nat.le_of_ble_eq_true rfl) rfl d_X11_ring_17 (fun r hr => ct_X11_refuse l G v0 2 r3.2 r hr) (fun r5 _ => ?_)
    exact xa_iret d_X11_ring_20 rfl rfl
  · refine xa_step (xa_aload_n d_X11_ring_21 rfl) ?_
    refine xa_getf xR xc_11 (by decide) (fun _ => rfl) xw_591 rfl d_X11_ring_22 (fun x6 _ => ?_)
    refine xa_step (xa_aload_n d_X11_ring_25 rfl) ?_
    refine xa_getf xR xc_11 (by decide) (fun _ => rfl) xw_590 rfl d_X11_ring_26 (fun x7 _ => ?_)
    refine xa_callVV (as := [xR x7]) (st := []) (M' := mX4_remember) (d' := 3) rfl xw_1189 xw_1190 xw_1191 xw_1192 xw_172 xh_X4_remember rfl ⟨Nat.le_of_ble_eq_true rfl, Nat.le_of_ble_eq_true rfl⟩ (Nat.le_of_ble_eq_true rfl) rfl d_X11_ring_29 (fun r hr => ct_X4_remember l G x6 x7 r3.2 r hr) (fun r8 _ => ?_)
    refine xa_step (xa_aload_n d_X11_ring_32 rfl) ?_
    refine xa_getf xR xc_11 (by decide) (fun _ => rfl) xw_593 rfl d_X11_ring_33 (fun x9 _ => ?_)
    refine xa_step (xa_aload_n d_X11_ring_36 rfl) ?_
    refine xa_getf xR xc_11 (by decide) (fun _ => rfl) xw_589 rfl d_X11_ring_37 (fun x10 _ => ?_)
    refine xa_step (xa_aload_n d_X11_ring_40 rfl) ?_
    refine xa_getf xR xc_11 (by decide) (fun _ => rfl) xw_590 rfl d_X11_ring_41 (fun x11 _ => ?_)
    refine xa_callVV (as := [xR x10, xR x11]) (st := []) (M' := mX7_weigh) (d' := 5) rfl xw_962 xw_963 xw_964 xw_965 xw_173 xh_X7_weigh rfl ⟨Nat.le_of_ble_eq_true rfl, Nat.le_of_ble_eq_true rfl⟩ (Nat.le_of_ble_eq_true rfl) rfl d_X11_ring_44 (fun r hr => ct_X7_weigh l G x9 x10 x11 r8 r hr) (fun r12 _ => ?_)
    refine xa_step (xa_aload_n d_X11_ring_47 rfl) ?_
    refine xa_callVV (as := []) (st := []) (M' := mX11_closeRing) (d' := 4) rfl xw_1195 xw_1197 xw_55 xw_1198 xw_161 xh_X11_closeRing rfl ⟨Nat.le_of_ble_eq_true rfl, Nat.le_of_ble_eq_true rfl⟩ (Nat.le_of_ble_eq_true rfl) rfl d_X11_ring_48 (fun r hr => ct_X11_closeRing l G v0 r12 r hr) (fun r13 _ => ?_)
    refine xa_step (xa_aload_n d_X11_ring_51 rfl) ?_
    refine xa_getf xR xc_11 (by decide) (fun _ => rfl) xw_593 rfl d_X11_ring_52 (fun x14 _ => ?_)
    refine xa_getf xI xc_7 (by decide) (fun _ => rfl) xw_483 rfl d_X11_ring_55 (fun x15 _ => ?_)
    exact xa_iret d_X11_ring_58 rfl rfl
theorem ct_X11_ring (l : Launch) (G : xa_C) (v0 : Int) (h : xa_H) (r : Int × xa_H) (hr : f_X11_ring v0 h = some r) : xa_CT l G 6 mX11_ring yX11_ring [xR v0] h (some (xI r.1), r.2) :=
  xa_met (by decide +kernel) rfl (fun q => by first | rfl | cases q) (Nat.le_of_ble_eq_true rfl) rfl (g_X11_ring l G v0 h) (by rw [hr]; rfl)
abbrev mX11_seed : xa_M := (cX11_seed, 2, (some (.boolean)), RX11, false)
theorem d_X11_seed_0 : decode mX11_seed.1 0 = .ok (.iload_n 1, 1) ∧ 0 + 1 = 1 := ⟨by decide +kernel, rfl⟩
theorem d_X11_seed_1 : decode mX11_seed.1 1 = .ok (.ifCond .ge 11, 3) ∧ 1 + 3 = 4 ∧ ((1 : Nat) : Int) + 11 = ((12 : Nat) : Int) := ⟨by decide +kernel, rfl, rfl⟩
theorem d_X11_seed_4 : decode mX11_seed.1 4 = .ok (.aload_n 0, 1) ∧ 4 + 1 = 5 := ⟨by decide +kernel, rfl⟩
theorem d_X11_seed_5 : decode mX11_seed.1 5 = .ok (.iconst 5, 1) ∧ 5 + 1 = 6 := ⟨by decide +kernel, rfl⟩
theorem d_X11_seed_6 : decode mX11_seed.1 6 = .ok (.invokevirtual 118, 3) ∧ 6 + 3 = 9 := ⟨by decide +kernel, rfl⟩
theorem d_X11_seed_9 : decode mX11_seed.1 9 = .ok (.pop, 1) ∧ 9 + 1 = 10 := ⟨by decide +kernel, rfl⟩
theorem d_X11_seed_10 : decode mX11_seed.1 10 = .ok (.iconst 0, 1) ∧ 10 + 1 = 11 := ⟨by decide +kernel, rfl⟩
theorem d_X11_seed_11 : decode mX11_seed.1 11 = .ok (.ireturn, 1) := by decide +kernel
theorem d_X11_seed_12 : decode mX11_seed.1 12 = .ok (.aload_n 0, 1) ∧ 12 + 1 = 13 := ⟨by decide +kernel, rfl⟩
theorem d_X11_seed_13 : decode mX11_seed.1 13 = .ok (.iload_n 1, 1) ∧ 13 + 1 = 14 := ⟨by decide +kernel, rfl⟩
theorem d_X11_seed_14 : decode mX11_seed.1 14 = .ok (.putfield 111, 3) ∧ 14 + 3 = 17 := ⟨by decide +kernel, rfl⟩
theorem d_X11_seed_17 : decode mX11_seed.1 17 = .ok (.iconst 1, 1) ∧ 17 + 1 = 18 := ⟨by decide +kernel, rfl⟩
theorem d_X11_seed_18 : decode mX11_seed.1 18 = .ok (.ireturn, 1) := by decide +kernel
set_option maxRecDepth 100000 in
set_option maxHeartbeats 4000000 in
theorem g_X11_seed (l : Launch) (G : xa_C) (v0 v1 : Int) (h : xa_H) : xa_G l G 3 mX11_seed (f_X11_seed v0 v1 h) (fun r => some (some (xI r.1), r.2) : (Int × xa_H) → Option xa_O) 0 [some (xR v0), some (xI v1)] [] h := by
  unfold f_X11_seed
  refine xa_step (xa_iload_n d_X11_seed_0 rfl) ?_
  refine xa_if (xa_ifge d_X11_seed_1) (fun q1 => ?_) (fun q1 => ?_)
  · refine xa_step (xa_aload_n d_X11_seed_4 rfl) ?_
    refine xa_step (xa_iconst d_X11_seed_5 xq_i_5) ?_
    refine xa_callVI (as := [xI 5]) (st := []) (M' := mX11_refuse) (d' := 2) rfl xw_646 xw_648 xw_2 xw_649 xw_161 xh_X11_refuse rfl ⟨Nat.le_of_ble_eq_true rfl, Nat.le_of_ble_eq_true rfl⟩ (Nat.le_of_ble_eq_true rfl) rfl d_X11_seed_6 (fun r hr => ct_X11_refuse l G v0 5 h r hr) (fun r2 _ => ?_)
    refine xa_step (xa_pop d_X11_seed_9) ?_
    refine xa_step (xa_iconst d_X11_seed_10 xq_i_0) ?_
    exact xa_zret d_X11_seed_11 rfl (Or.inl rfl) rfl
  · refine xa_step (xa_aload_n d_X11_seed_12 rfl) ?_
    refine xa_step (xa_iload_n d_X11_seed_13 rfl) ?_
    refine xa_putf2 (tg := xI) xc_11 (by decide) (fun _ => rfl) rfl (fun c hc => xa_fitI c hc) xw_602 rfl d_X11_seed_14 (fun h3 _ => ?_)
    refine xa_step (xa_iconst d_X11_seed_17 xq_i_1) ?_
    exact xa_zret d_X11_seed_18 rfl (Or.inr rfl) rfl
theorem ct_X11_seed (l : Launch) (G : xa_C) (v0 v1 : Int) (h : xa_H) (r : Int × xa_H) (hr : f_X11_seed v0 v1 h = some r) : xa_CT l G 3 mX11_seed yX11_seed [xR v0, xI v1] h (some (xI r.1), r.2) :=
  xa_met (by decide +kernel) rfl (fun q => by first | rfl | cases q) (Nat.le_of_ble_eq_true rfl) rfl (g_X11_seed l G v0 v1 h) (by rw [hr]; rfl)
abbrev mX11_status : xa_M := (cX11_status, 2, (some (.int)), RX11, false)
theorem d_X11_status_0 : decode mX11_status.1 0 = .ok (.iload_n 1, 1) ∧ 0 + 1 = 1 := ⟨by decide +kernel, rfl⟩
theorem d_X11_status_1 : decode mX11_status.1 1 = .ok (.ifCond .lt 21, 3) ∧ 1 + 3 = 4 ∧ ((1 : Nat) : Int) + 21 = ((22 : Nat) : Int) := ⟨by decide +kernel, rfl, rfl⟩
theorem d_X11_status_22 : decode mX11_status.1 22 = .ok (.iconst (-1), 1) ∧ 22 + 1 = 23 := ⟨by decide +kernel, rfl⟩
theorem d_X11_status_23 : decode mX11_status.1 23 = .ok (.ireturn, 1) := by decide +kernel
theorem d_X11_status_4 : decode mX11_status.1 4 = .ok (.iload_n 1, 1) ∧ 4 + 1 = 5 := ⟨by decide +kernel, rfl⟩
theorem d_X11_status_5 : decode mX11_status.1 5 = .ok (.aload_n 0, 1) ∧ 5 + 1 = 6 := ⟨by decide +kernel, rfl⟩
theorem d_X11_status_6 : decode mX11_status.1 6 = .ok (.getfield 108, 3) ∧ 6 + 3 = 9 := ⟨by decide +kernel, rfl⟩
theorem d_X11_status_9 : decode mX11_status.1 9 = .ok (.arraylength, 1) ∧ 9 + 1 = 10 := ⟨by decide +kernel, rfl⟩
theorem d_X11_status_10 : decode mX11_status.1 10 = .ok (.if_icmp .ge 12, 3) ∧ 10 + 3 = 13 ∧ ((10 : Nat) : Int) + 12 = ((22 : Nat) : Int) := ⟨by decide +kernel, rfl, rfl⟩
theorem d_X11_status_13 : decode mX11_status.1 13 = .ok (.aload_n 0, 1) ∧ 13 + 1 = 14 := ⟨by decide +kernel, rfl⟩
theorem d_X11_status_14 : decode mX11_status.1 14 = .ok (.getfield 108, 3) ∧ 14 + 3 = 17 := ⟨by decide +kernel, rfl⟩
theorem d_X11_status_17 : decode mX11_status.1 17 = .ok (.iload_n 1, 1) ∧ 17 + 1 = 18 := ⟨by decide +kernel, rfl⟩
theorem d_X11_status_18 : decode mX11_status.1 18 = .ok (.iaload, 1) ∧ 18 + 1 = 19 := ⟨by decide +kernel, rfl⟩
theorem d_X11_status_19 : decode mX11_status.1 19 = .ok (.goto 4, 3) ∧ ((19 : Nat) : Int) + 4 = ((23 : Nat) : Int) := ⟨by decide +kernel, rfl⟩
set_option maxRecDepth 100000 in
set_option maxHeartbeats 4000000 in
theorem g_X11_status (l : Launch) (G : xa_C) (v0 v1 : Int) (h : xa_H) : xa_G l G 2 mX11_status (f_X11_status v0 v1 h) (fun r => some (some (xI r), h) : Int → Option xa_O) 0 [some (xR v0), some (xI v1)] [] h := by
  unfold f_X11_status
  refine xa_step (xa_iload_n d_X11_status_0 rfl) ?_
  refine xa_if (xa_iflt d_X11_status_1) (fun q1 => ?_) (fun q1 => ?_)
  · refine xa_step (xa_iconst d_X11_status_22 xq_i_m1) ?_
    exact xa_iret d_X11_status_23 rfl rfl
  · refine xa_step (xa_iload_n d_X11_status_4 rfl) ?_
    refine xa_step (xa_aload_n d_X11_status_5 rfl) ?_
    refine xa_getf xR xc_11 (by decide) (fun _ => rfl) xw_601 rfl d_X11_status_6 (fun x2 _ => ?_)
    refine xa_alen d_X11_status_9 (fun x3 _ => ?_)
    refine xa_if (xa_icmpge d_X11_status_10) (fun q4 => ?_) (fun q4 => ?_)
    · refine xa_step (xa_aload_n d_X11_status_13 rfl) ?_
      refine xa_getf xR xc_11 (by decide) (fun _ => rfl) xw_601 rfl d_X11_status_14 (fun x5 _ => ?_)
      refine xa_step (xa_iload_n d_X11_status_17 rfl) ?_
      refine xa_iaload d_X11_status_18 (fun x6 _ => ?_)
      refine xa_step (xa_goto d_X11_status_19) ?_
      exact xa_iret d_X11_status_23 rfl rfl
    · refine xa_step (xa_iconst d_X11_status_22 xq_i_m1) ?_
      exact xa_iret d_X11_status_23 rfl rfl
theorem ct_X11_status (l : Launch) (G : xa_C) (v0 v1 : Int) (h : xa_H) (r : Int) (hr : f_X11_status v0 v1 h = some r) : xa_CT l G 2 mX11_status yX11_status [xR v0, xI v1] h (some (xI r), h) :=
  xa_met (by decide +kernel) rfl (fun q => by first | rfl | cases q) (Nat.le_of_ble_eq_true rfl) rfl (g_X11_status l G v0 v1 h) (by rw [hr]; rfl)
abbrev mX11_together : xa_M := (cX11_together, 8, (some (.int)), RX11, false)
theorem d_X11_together_0 : decode mX11_together.1 0 = .ok (.iconst 0, 1) ∧ 0 + 1 = 1 := ⟨by decide +kernel, rfl⟩
theorem d_X11_together_1 : decode mX11_together.1 1 = .ok (.istore_n 2, 1) ∧ 1 + 1 = 2 := ⟨by decide +kernel, rfl⟩
theorem d_X11_together_2 : decode mX11_together.1 2 = .ok (.iconst (-1), 1) ∧ 2 + 1 = 3 := ⟨by decide +kernel, rfl⟩
theorem d_X11_together_3 : decode mX11_together.1 3 = .ok (.istore_n 3, 1) ∧ 3 + 1 = 4 := ⟨by decide +kernel, rfl⟩
theorem d_X11_together_4 : decode mX11_together.1 4 = .ok (.iconst (-1), 1) ∧ 4 + 1 = 5 := ⟨by decide +kernel, rfl⟩
theorem d_X11_together_5 : decode mX11_together.1 5 = .ok (.istore 4, 2) ∧ 5 + 2 = 7 := ⟨by decide +kernel, rfl⟩
theorem d_X11_together_7 : decode mX11_together.1 7 = .ok (.iconst 0, 1) ∧ 7 + 1 = 8 := ⟨by decide +kernel, rfl⟩
theorem d_X11_together_8 : decode mX11_together.1 8 = .ok (.istore 5, 2) ∧ 8 + 2 = 10 := ⟨by decide +kernel, rfl⟩
theorem d_X11_together_10 : decode mX11_together.1 10 = .ok (.iload 5, 2) ∧ 10 + 2 = 12 := ⟨by decide +kernel, rfl⟩
theorem d_X11_together_12 : decode mX11_together.1 12 = .ok (.aload_n 0, 1) ∧ 12 + 1 = 13 := ⟨by decide +kernel, rfl⟩
theorem d_X11_together_13 : decode mX11_together.1 13 = .ok (.getfield 47, 3) ∧ 13 + 3 = 16 := ⟨by decide +kernel, rfl⟩
theorem d_X11_together_16 : decode mX11_together.1 16 = .ok (.getfield 146, 3) ∧ 16 + 3 = 19 := ⟨by decide +kernel, rfl⟩
theorem d_X11_together_19 : decode mX11_together.1 19 = .ok (.if_icmp .ge 59, 3) ∧ 19 + 3 = 22 ∧ ((19 : Nat) : Int) + 59 = ((78 : Nat) : Int) := ⟨by decide +kernel, rfl, rfl⟩
theorem d_X11_together_22 : decode mX11_together.1 22 = .ok (.iload 5, 2) ∧ 22 + 2 = 24 := ⟨by decide +kernel, rfl⟩
theorem d_X11_together_24 : decode mX11_together.1 24 = .ok (.iconst 1, 1) ∧ 24 + 1 = 25 := ⟨by decide +kernel, rfl⟩
theorem d_X11_together_25 : decode mX11_together.1 25 = .ok (.iadd, 1) ∧ 25 + 1 = 26 := ⟨by decide +kernel, rfl⟩
theorem d_X11_together_26 : decode mX11_together.1 26 = .ok (.istore 6, 2) ∧ 26 + 2 = 28 := ⟨by decide +kernel, rfl⟩
theorem d_X11_together_28 : decode mX11_together.1 28 = .ok (.iload 6, 2) ∧ 28 + 2 = 30 := ⟨by decide +kernel, rfl⟩
theorem d_X11_together_30 : decode mX11_together.1 30 = .ok (.aload_n 0, 1) ∧ 30 + 1 = 31 := ⟨by decide +kernel, rfl⟩
theorem d_X11_together_31 : decode mX11_together.1 31 = .ok (.getfield 47, 3) ∧ 31 + 3 = 34 := ⟨by decide +kernel, rfl⟩
theorem d_X11_together_34 : decode mX11_together.1 34 = .ok (.getfield 146, 3) ∧ 34 + 3 = 37 := ⟨by decide +kernel, rfl⟩
theorem d_X11_together_37 : decode mX11_together.1 37 = .ok (.if_icmp .ge 35, 3) ∧ 37 + 3 = 40 ∧ ((37 : Nat) : Int) + 35 = ((72 : Nat) : Int) := ⟨by decide +kernel, rfl, rfl⟩
theorem d_X11_together_40 : decode mX11_together.1 40 = .ok (.aload_n 0, 1) ∧ 40 + 1 = 41 := ⟨by decide +kernel, rfl⟩
theorem d_X11_together_41 : decode mX11_together.1 41 = .ok (.iload 5, 2) ∧ 41 + 2 = 43 := ⟨by decide +kernel, rfl⟩
theorem d_X11_together_43 : decode mX11_together.1 43 = .ok (.iload 6, 2) ∧ 43 + 2 = 45 := ⟨by decide +kernel, rfl⟩
theorem d_X11_together_45 : decode mX11_together.1 45 = .ok (.invokevirtual 290, 3) ∧ 45 + 3 = 48 := ⟨by decide +kernel, rfl⟩
theorem d_X11_together_48 : decode mX11_together.1 48 = .ok (.istore 7, 2) ∧ 48 + 2 = 50 := ⟨by decide +kernel, rfl⟩
theorem d_X11_together_50 : decode mX11_together.1 50 = .ok (.iload 7, 2) ∧ 50 + 2 = 52 := ⟨by decide +kernel, rfl⟩
theorem d_X11_together_52 : decode mX11_together.1 52 = .ok (.iload_n 2, 1) ∧ 52 + 1 = 53 := ⟨by decide +kernel, rfl⟩
theorem d_X11_together_53 : decode mX11_together.1 53 = .ok (.if_icmp .le 13, 3) ∧ 53 + 3 = 56 ∧ ((53 : Nat) : Int) + 13 = ((66 : Nat) : Int) := ⟨by decide +kernel, rfl, rfl⟩
theorem d_X11_together_56 : decode mX11_together.1 56 = .ok (.iload 7, 2) ∧ 56 + 2 = 58 := ⟨by decide +kernel, rfl⟩
theorem d_X11_together_58 : decode mX11_together.1 58 = .ok (.istore_n 2, 1) ∧ 58 + 1 = 59 := ⟨by decide +kernel, rfl⟩
theorem d_X11_together_59 : decode mX11_together.1 59 = .ok (.iload 5, 2) ∧ 59 + 2 = 61 := ⟨by decide +kernel, rfl⟩
theorem d_X11_together_61 : decode mX11_together.1 61 = .ok (.istore_n 3, 1) ∧ 61 + 1 = 62 := ⟨by decide +kernel, rfl⟩
theorem d_X11_together_62 : decode mX11_together.1 62 = .ok (.iload 6, 2) ∧ 62 + 2 = 64 := ⟨by decide +kernel, rfl⟩
theorem d_X11_together_64 : decode mX11_together.1 64 = .ok (.istore 4, 2) ∧ 64 + 2 = 66 := ⟨by decide +kernel, rfl⟩
theorem d_X11_together_66 : decode mX11_together.1 66 = .ok (.iinc 6 1, 3) ∧ 66 + 3 = 69 := ⟨by decide +kernel, rfl⟩
theorem d_X11_together_69 : decode mX11_together.1 69 = .ok (.goto (-41), 3) ∧ ((69 : Nat) : Int) + (-41) = ((28 : Nat) : Int) := ⟨by decide +kernel, rfl⟩
set_option maxRecDepth 100000 in
set_option maxHeartbeats 4000000 in
theorem g_X11_together_L28 (l : Launch) (G : xa_C) (c0 c1 c5 : Int) (h : xa_H) (K : (Int × Int × Int × Int) ⊕ (Int × Int × Int) → Option xa_O) (hb : ∀ (v2 : Int) (v3 : Int) (v4 : Int) (v6 : Int), xa_G l G 4 mX11_together (some (Sum.inl ((v2, v3, v4, v6)))) K 28 [some (xR c0), some (xI c1), some (xI v2), some (xI v3), some (xI v4), some (xI c5), some (xI v6), none] [] h) (hx : ∀ (v2 : Int) (v3 : Int) (v4 : Int), xa_G l G 4 mX11_together (some (Sum.inr ((v2, v3, v4)))) K 72 [some (xR c0), some (xI c1), some (xI v2), some (xI v3), some (xI v4), some (xI c5), none, none] [] h) : ∀ (v2 : Int) (v3 : Int) (v4 : Int) (v6 : Int), xa_G l G 4 mX11_together (f_X11_together_L28 c0 c1 c5 h v2 v3 v4 v6) K 28 [some (xR c0), some (xI c1), some (xI v2), some (xI v3), some (xI v4), some (xI c5), some (xI v6), none] [] h := by
  intro v2 v3 v4 v6
  unfold f_X11_together_L28
  refine xa_step (xa_iload d_X11_together_28 rfl) ?_
  refine xa_step (xa_aload_n d_X11_together_30 rfl) ?_
  refine xa_getf xR xc_11 (by decide) (fun _ => rfl) xw_589 rfl d_X11_together_31 (fun x4 _ => ?_)
  refine xa_getf xI xc_0 (by decide) (fun _ => rfl) xw_391 rfl d_X11_together_34 (fun x5 _ => ?_)
  refine xa_if (xa_icmpge d_X11_together_37) (fun q6 => ?_) (fun q6 => ?_)
  · refine xa_step (xa_aload_n d_X11_together_40 rfl) ?_
    refine xa_step (xa_iload d_X11_together_41 rfl) ?_
    refine xa_step (xa_iload d_X11_together_43 rfl) ?_
    refine xa_callVi (as := [xI c5, xI v6]) (st := []) (M' := mX11_moreBySwap) (d' := 3) rfl xw_1128 xw_1130 xw_51 xw_1131 xw_161 xh_X11_moreBySwap rfl ⟨Nat.le_of_ble_eq_true rfl, Nat.le_of_ble_eq_true rfl⟩ (Nat.le_of_ble_eq_true rfl) rfl d_X11_together_45 (fun r hr => ct_X11_moreBySwap l G c0 c5 v6 h r hr) (fun r7 _ => ?_)
    refine xa_step (xa_istore (ls' := [some (xR c0), some (xI c1), some (xI v2), some (xI v3), some (xI v4), some (xI c5), some (xI v6), some (xI r7)]) d_X11_together_48 (by decide) rfl) ?_
    refine xa_step (xa_iload d_X11_together_50 rfl) ?_
    refine xa_step (xa_iload_n d_X11_together_52 rfl) ?_
    refine xa_if (xa_icmple d_X11_together_53) (fun q8 => ?_) (fun q8 => ?_)
    · refine xa_step (xa_iload d_X11_together_56 rfl) ?_
      refine xa_step (xa_istore_n (ls' := [some (xR c0), some (xI c1), some (xI r7), some (xI v3), some (xI v4), some (xI c5), some (xI v6), some (xI r7)]) d_X11_together_58 (by decide) rfl) ?_
      refine xa_step (xa_iload d_X11_together_59 rfl) ?_
      refine xa_step (xa_istore_n (ls' := [some (xR c0), some (xI c1), some (xI r7), some (xI c5), some (xI v4), some (xI c5), some (xI v6), some (xI r7)]) d_X11_together_61 (by decide) rfl) ?_
      refine xa_step (xa_iload d_X11_together_62 rfl) ?_
      refine xa_step (xa_istore (ls' := [some (xR c0), some (xI c1), some (xI r7), some (xI c5), some (xI v6), some (xI c5), some (xI v6), some (xI r7)]) d_X11_together_64 (by decide) rfl) ?_
      refine xa_step (xa_iinc (ls' := [some (xR c0), some (xI c1), some (xI r7), some (xI c5), some (xI v6), some (xI c5), some (xI (w32 (v6 + 1))), some (xI r7)]) d_X11_together_66 xq_i_1 rfl (by decide) rfl) ?_
      refine xa_step (xa_goto d_X11_together_69) ?_
      exact xa_weak (ls' := [some (xR c0), some (xI c1), some (xI r7), some (xI c5), some (xI v6), some (xI c5), some (xI (w32 (v6 + 1))), none]) ⟨rfl, rfl, rfl, rfl, rfl, rfl, rfl, trivial⟩ (hb r7 c5 v6 (w32 (v6 + 1)))
    · refine xa_step (xa_iinc (ls' := [some (xR c0), some (xI c1), some (xI v2), some (xI v3), some (xI v4), some (xI c5), some (xI (w32 (v6 + 1))), some (xI r7)]) d_X11_together_66 xq_i_1 rfl (by decide) rfl) ?_
      refine xa_step (xa_goto d_X11_together_69) ?_
      exact xa_weak (ls' := [some (xR c0), some (xI c1), some (xI v2), some (xI v3), some (xI v4), some (xI c5), some (xI (w32 (v6 + 1))), none]) ⟨rfl, rfl, rfl, rfl, rfl, rfl, rfl, trivial⟩ (hb v2 v3 v4 (w32 (v6 + 1)))
  · exact xa_weak (ls' := [some (xR c0), some (xI c1), some (xI v2), some (xI v3), some (xI v4), some (xI c5), none, none]) ⟨rfl, rfl, rfl, rfl, rfl, rfl, trivial⟩ (hx v2 v3 v4)
theorem d_X11_together_72 : decode mX11_together.1 72 = .ok (.iinc 5 1, 3) ∧ 72 + 3 = 75 := ⟨by decide +kernel, rfl⟩
theorem d_X11_together_75 : decode mX11_together.1 75 = .ok (.goto (-65), 3) ∧ ((75 : Nat) : Int) + (-65) = ((10 : Nat) : Int) := ⟨by decide +kernel, rfl⟩
set_option maxRecDepth 100000 in
set_option maxHeartbeats 4000000 in
theorem g_X11_together_L10 (l : Launch) (G : xa_C) (c0 c1 : Int) (h : xa_H) (K : (Int × Int × Int × Int) ⊕ (Int × Int × Int) → Option xa_O) (hb : ∀ (v2 : Int) (v3 : Int) (v4 : Int) (v5 : Int), xa_G l G 4 mX11_together (some (Sum.inl ((v2, v3, v4, v5)))) K 10 [some (xR c0), some (xI c1), some (xI v2), some (xI v3), some (xI v4), some (xI v5), none, none] [] h) (hx : ∀ (v2 : Int) (v3 : Int) (v4 : Int), xa_G l G 4 mX11_together (some (Sum.inr ((v2, v3, v4)))) K 78 [none, some (xI c1), some (xI v2), some (xI v3), some (xI v4), none, none, none] [] h) : ∀ (v2 : Int) (v3 : Int) (v4 : Int) (v5 : Int), xa_G l G 4 mX11_together (f_X11_together_L10 c0 c1 h v2 v3 v4 v5) K 10 [some (xR c0), some (xI c1), some (xI v2), some (xI v3), some (xI v4), some (xI v5), none, none] [] h := by
  intro v2 v3 v4 v5
  unfold f_X11_together_L10
  refine xa_step (xa_iload d_X11_together_10 rfl) ?_
  refine xa_step (xa_aload_n d_X11_together_12 rfl) ?_
  refine xa_getf xR xc_11 (by decide) (fun _ => rfl) xw_589 rfl d_X11_together_13 (fun x1 _ => ?_)
  refine xa_getf xI xc_0 (by decide) (fun _ => rfl) xw_391 rfl d_X11_together_16 (fun x2 _ => ?_)
  refine xa_if (xa_icmpge d_X11_together_19) (fun q3 => ?_) (fun q3 => ?_)
  · refine xa_step (xa_iload d_X11_together_22 rfl) ?_
    refine xa_step (xa_iconst d_X11_together_24 xq_i_1) ?_
    refine xa_step (xa_iadd d_X11_together_25) ?_
    refine xa_step (xa_istore (ls' := [some (xR c0), some (xI c1), some (xI v2), some (xI v3), some (xI v4), some (xI v5), some (xI (w32 (v5 + 1))), none]) d_X11_together_26 (by decide) rfl) ?_
    refine xa_weak (ls' := [some (xR c0), some (xI c1), some (xI v2), some (xI v3), some (xI v4), some (xI v5), some (xI (w32 (v5 + 1))), none]) ⟨rfl, rfl, rfl, rfl, rfl, rfl, rfl, trivial⟩ ?_
    refine xa_loop (f := fun s => f_X11_together_L28 c0 c1 v5 h s.1 s.2.1 s.2.2.1 s.2.2.2) (L := fun s => [some (xR c0), some (xI c1), some (xI s.1), some (xI s.2.1), some (xI s.2.2.1), some (xI v5), some (xI s.2.2.2), none]) (P := fun s => h) (X := (fun x K => xa_G l G 4 mX11_together (some (Sum.inr x)) K 72 [some (xR c0), some (xI c1), some (xI x.1), some (xI x.2.1), some (xI x.2.2), some (xI v5), none, none] [] h)) (fun K hb hX s => g_X11_together_L28 l G c0 c1 v5 h K (fun w0 w1 w2 w3 => hb ((w0, w1, w2, w3))) (fun w0 w1 w2 => hX ((w0, w1, w2))) s.1 s.2.1 s.2.2.1 s.2.2.2) ?_ xFU ((v2, v3, v4, w32 (v5 + 1)))
    intro e9 K hK
    refine xa_eqE hK ?_
    show xa_G l G 4 mX11_together _ _ 72 [some (xR c0), some (xI c1), some (xI e9.1), some (xI e9.2.1), some (xI e9.2.2), some (xI v5), none, none] [] h
    refine xa_step (xa_iinc (ls' := [some (xR c0), some (xI c1), some (xI e9.1), some (xI e9.2.1), some (xI e9.2.2), some (xI (w32 (v5 + 1))), none, none]) d_X11_together_72 xq_i_1 rfl (by decide) rfl) ?_
    refine xa_step (xa_goto d_X11_together_75) ?_
    exact xa_weak (ls' := [some (xR c0), some (xI c1), some (xI e9.1), some (xI e9.2.1), some (xI e9.2.2), some (xI (w32 (v5 + 1))), none, none]) ⟨rfl, rfl, rfl, rfl, rfl, rfl, trivial⟩ (hb e9.1 e9.2.1 e9.2.2 (w32 (v5 + 1)))
  · exact xa_weak (ls' := [none, some (xI c1), some (xI v2), some (xI v3), some (xI v4), none, none, none]) ⟨rfl, rfl, rfl, rfl, trivial⟩ (hx v2 v3 v4)
theorem d_X11_together_78 : decode mX11_together.1 78 = .ok (.iload_n 1, 1) ∧ 78 + 1 = 79 := ⟨by decide +kernel, rfl⟩
theorem d_X11_together_79 : decode mX11_together.1 79 = .ok (.tableswitch 40 0 2 #[25, 27, 30], 25) := by decide +kernel
theorem d_X11_together_104 : decode mX11_together.1 104 = .ok (.iload_n 3, 1) ∧ 104 + 1 = 105 := ⟨by decide +kernel, rfl⟩
theorem d_X11_together_105 : decode mX11_together.1 105 = .ok (.ireturn, 1) := by decide +kernel
theorem d_X11_together_106 : decode mX11_together.1 106 = .ok (.iload 4, 2) ∧ 106 + 2 = 108 := ⟨by decide +kernel, rfl⟩
theorem d_X11_together_108 : decode mX11_together.1 108 = .ok (.ireturn, 1) := by decide +kernel
theorem d_X11_together_109 : decode mX11_together.1 109 = .ok (.iload_n 2, 1) ∧ 109 + 1 = 110 := ⟨by decide +kernel, rfl⟩
theorem d_X11_together_110 : decode mX11_together.1 110 = .ok (.ifCond .le 7, 3) ∧ 110 + 3 = 113 ∧ ((110 : Nat) : Int) + 7 = ((117 : Nat) : Int) := ⟨by decide +kernel, rfl, rfl⟩
theorem d_X11_together_113 : decode mX11_together.1 113 = .ok (.iload_n 2, 1) ∧ 113 + 1 = 114 := ⟨by decide +kernel, rfl⟩
theorem d_X11_together_114 : decode mX11_together.1 114 = .ok (.goto 4, 3) ∧ ((114 : Nat) : Int) + 4 = ((118 : Nat) : Int) := ⟨by decide +kernel, rfl⟩
theorem d_X11_together_118 : decode mX11_together.1 118 = .ok (.ireturn, 1) := by decide +kernel
theorem d_X11_together_117 : decode mX11_together.1 117 = .ok (.iconst (-1), 1) ∧ 117 + 1 = 118 := ⟨by decide +kernel, rfl⟩
theorem d_X11_together_119 : decode mX11_together.1 119 = .ok (.iconst (-1), 1) ∧ 119 + 1 = 120 := ⟨by decide +kernel, rfl⟩
theorem d_X11_together_120 : decode mX11_together.1 120 = .ok (.ireturn, 1) := by decide +kernel
set_option maxRecDepth 100000 in
set_option maxHeartbeats 4000000 in
theorem g_X11_together (l : Launch) (G : xa_C) (v0 v1 : Int) (h : xa_H) : xa_G l G 4 mX11_together (f_X11_together v0 v1 h) (fun r => some (some (xI r), h) : Int → Option xa_O) 0 [some (xR v0), some (xI v1), none, none, none, none, none, none] [] h := by
  unfold f_X11_together
  refine xa_step (xa_iconst d_X11_together_0 xq_i_0) ?_
  refine xa_step (xa_istore_n (ls' := [some (xR v0), some (xI v1), some (xI 0), none, none, none, none, none]) d_X11_together_1 (by decide) rfl) ?_
  refine xa_step (xa_iconst d_X11_together_2 xq_i_m1) ?_
  refine xa_step (xa_istore_n (ls' := [some (xR v0), some (xI v1), some (xI 0), some (xI ((-1))), none, none, none, none]) d_X11_together_3 (by decide) rfl) ?_
  refine xa_step (xa_iconst d_X11_together_4 xq_i_m1) ?_
  refine xa_step (xa_istore (ls' := [some (xR v0), some (xI v1), some (xI 0), some (xI ((-1))), some (xI ((-1))), none, none, none]) d_X11_together_5 (by decide) rfl) ?_
  refine xa_step (xa_iconst d_X11_together_7 xq_i_0) ?_
  refine xa_step (xa_istore (ls' := [some (xR v0), some (xI v1), some (xI 0), some (xI ((-1))), some (xI ((-1))), some (xI 0), none, none]) d_X11_together_8 (by decide) rfl) ?_
  refine xa_weak (ls' := [some (xR v0), some (xI v1), some (xI 0), some (xI ((-1))), some (xI ((-1))), some (xI 0), none, none]) ⟨rfl, rfl, rfl, rfl, rfl, rfl, trivial⟩ ?_
  refine xa_loop (f := fun s => f_X11_together_L10 v0 v1 h s.1 s.2.1 s.2.2.1 s.2.2.2) (L := fun s => [some (xR v0), some (xI v1), some (xI s.1), some (xI s.2.1), some (xI s.2.2.1), some (xI s.2.2.2), none, none]) (P := fun s => h) (X := (fun x K => xa_G l G 4 mX11_together (some (Sum.inr x)) K 78 [none, some (xI v1), some (xI x.1), some (xI x.2.1), some (xI x.2.2), none, none, none] [] h)) (fun K hb hX s => g_X11_together_L10 l G v0 v1 h K (fun w0 w1 w2 w3 => hb ((w0, w1, w2, w3))) (fun w0 w1 w2 => hX ((w0, w1, w2))) s.1 s.2.1 s.2.2.1 s.2.2.2) ?_ xFU ((0, (-1), (-1), 0))
  intro e10 K hK
  refine xa_eqE hK ?_
  show xa_G l G 4 mX11_together _ _ 78 [none, some (xI v1), some (xI e10.1), some (xI e10.2.1), some (xI e10.2.2), none, none, none] [] h
  refine xa_step (xa_iload_n d_X11_together_78 rfl) ?_
  refine xa_case (fun q11 => ?_) (fun q11 => ?_)
  · refine xa_step (xa_tabIn (k := 0) d_X11_together_79 q11 (by decide) (by decide) rfl rfl) ?_
    refine xa_step (xa_iload_n d_X11_together_104 rfl) ?_
    exact xa_iret d_X11_together_105 rfl rfl
  · refine xa_case (fun q12 => ?_) (fun q12 => ?_)
    · refine xa_step (xa_tabIn (k := 1) d_X11_together_79 q12 (by decide) (by decide) rfl rfl) ?_
      refine xa_step (xa_iload d_X11_together_106 rfl) ?_
      exact xa_iret d_X11_together_108 rfl rfl
    · refine xa_case (fun q13 => ?_) (fun q13 => ?_)
      · refine xa_step (xa_tabIn (k := 2) d_X11_together_79 q13 (by decide) (by decide) rfl rfl) ?_
        refine xa_step (xa_iload_n d_X11_together_109 rfl) ?_
        refine xa_if (xa_ifle d_X11_together_110) (fun q14 => ?_) (fun q14 => ?_)
        · refine xa_step (xa_iload_n d_X11_together_113 rfl) ?_
          refine xa_step (xa_goto d_X11_together_114) ?_
          exact xa_iret d_X11_together_118 rfl rfl
        · refine xa_step (xa_iconst d_X11_together_117 xq_i_m1) ?_
          exact xa_iret d_X11_together_118 rfl rfl
      · refine xa_step (xa_tabOut d_X11_together_79 (by omega) rfl) ?_
        refine xa_step (xa_iconst d_X11_together_119 xq_i_m1) ?_
        exact xa_iret d_X11_together_120 rfl rfl
theorem ct_X11_together (l : Launch) (G : xa_C) (v0 v1 : Int) (h : xa_H) (r : Int) (hr : f_X11_together v0 v1 h = some r) : xa_CT l G 4 mX11_together yX11_together [xR v0, xI v1] h (some (xI r), h) :=
  xa_met (by decide +kernel) rfl (fun q => by first | rfl | cases q) (Nat.le_of_ble_eq_true rfl) rfl (g_X11_together l G v0 v1 h) (by rw [hr]; rfl)
abbrev mX10_point : xa_M := (cX10_point, 9, none, RX10, false)
theorem d_X10_point_0 : decode mX10_point.1 0 = .ok (.iconst 0, 1) ∧ 0 + 1 = 1 := ⟨by decide +kernel, rfl⟩
theorem d_X10_point_1 : decode mX10_point.1 1 = .ok (.istore 4, 2) ∧ 1 + 2 = 3 := ⟨by decide +kernel, rfl⟩
theorem d_X10_point_3 : decode mX10_point.1 3 = .ok (.iload 4, 2) ∧ 3 + 2 = 5 := ⟨by decide +kernel, rfl⟩
theorem d_X10_point_5 : decode mX10_point.1 5 = .ok (.aload_n 1, 1) ∧ 5 + 1 = 6 := ⟨by decide +kernel, rfl⟩
theorem d_X10_point_6 : decode mX10_point.1 6 = .ok (.getfield 24, 3) ∧ 6 + 3 = 9 := ⟨by decide +kernel, rfl⟩
theorem d_X10_point_9 : decode mX10_point.1 9 = .ok (.if_icmp .ge 123, 3) ∧ 9 + 3 = 12 ∧ ((9 : Nat) : Int) + 123 = ((132 : Nat) : Int) := ⟨by decide +kernel, rfl, rfl⟩
theorem d_X10_point_12 : decode mX10_point.1 12 = .ok (.aload_n 0, 1) ∧ 12 + 1 = 13 := ⟨by decide +kernel, rfl⟩
theorem d_X10_point_13 : decode mX10_point.1 13 = .ok (.getfield 21, 3) ∧ 13 + 3 = 16 := ⟨by decide +kernel, rfl⟩
theorem d_X10_point_16 : decode mX10_point.1 16 = .ok (.iload 4, 2) ∧ 16 + 2 = 18 := ⟨by decide +kernel, rfl⟩
theorem d_X10_point_18 : decode mX10_point.1 18 = .ok (.iload 4, 2) ∧ 18 + 2 = 20 := ⟨by decide +kernel, rfl⟩
theorem d_X10_point_20 : decode mX10_point.1 20 = .ok (.iastore, 1) ∧ 20 + 1 = 21 := ⟨by decide +kernel, rfl⟩
theorem d_X10_point_21 : decode mX10_point.1 21 = .ok (.aload_n 1, 1) ∧ 21 + 1 = 22 := ⟨by decide +kernel, rfl⟩
theorem d_X10_point_22 : decode mX10_point.1 22 = .ok (.iload 4, 2) ∧ 22 + 2 = 24 := ⟨by decide +kernel, rfl⟩
theorem d_X10_point_24 : decode mX10_point.1 24 = .ok (.aload_n 2, 1) ∧ 24 + 1 = 25 := ⟨by decide +kernel, rfl⟩
theorem d_X10_point_25 : decode mX10_point.1 25 = .ok (.getfield 38, 3) ∧ 25 + 3 = 28 := ⟨by decide +kernel, rfl⟩
theorem d_X10_point_28 : decode mX10_point.1 28 = .ok (.iload 4, 2) ∧ 28 + 2 = 30 := ⟨by decide +kernel, rfl⟩
theorem d_X10_point_30 : decode mX10_point.1 30 = .ok (.iaload, 1) ∧ 30 + 1 = 31 := ⟨by decide +kernel, rfl⟩
theorem d_X10_point_31 : decode mX10_point.1 31 = .ok (.invokevirtual 43, 3) ∧ 31 + 3 = 34 := ⟨by decide +kernel, rfl⟩
theorem d_X10_point_34 : decode mX10_point.1 34 = .ok (.istore 5, 2) ∧ 34 + 2 = 36 := ⟨by decide +kernel, rfl⟩
theorem d_X10_point_36 : decode mX10_point.1 36 = .ok (.iconst 0, 1) ∧ 36 + 1 = 37 := ⟨by decide +kernel, rfl⟩
theorem d_X10_point_37 : decode mX10_point.1 37 = .ok (.istore 6, 2) ∧ 37 + 2 = 39 := ⟨by decide +kernel, rfl⟩
theorem d_X10_point_39 : decode mX10_point.1 39 = .ok (.iload 6, 2) ∧ 39 + 2 = 41 := ⟨by decide +kernel, rfl⟩
theorem d_X10_point_41 : decode mX10_point.1 41 = .ok (.aload_n 1, 1) ∧ 41 + 1 = 42 := ⟨by decide +kernel, rfl⟩
theorem d_X10_point_42 : decode mX10_point.1 42 = .ok (.getfield 47, 3) ∧ 42 + 3 = 45 := ⟨by decide +kernel, rfl⟩
theorem d_X10_point_45 : decode mX10_point.1 45 = .ok (.if_icmp .ge 81, 3) ∧ 45 + 3 = 48 ∧ ((45 : Nat) : Int) + 81 = ((126 : Nat) : Int) := ⟨by decide +kernel, rfl, rfl⟩
theorem d_X10_point_48 : decode mX10_point.1 48 = .ok (.aload_n 2, 1) ∧ 48 + 1 = 49 := ⟨by decide +kernel, rfl⟩
theorem d_X10_point_49 : decode mX10_point.1 49 = .ok (.iload 6, 2) ∧ 49 + 2 = 51 := ⟨by decide +kernel, rfl⟩
theorem d_X10_point_51 : decode mX10_point.1 51 = .ok (.aload_n 1, 1) ∧ 51 + 1 = 52 := ⟨by decide +kernel, rfl⟩
theorem d_X10_point_52 : decode mX10_point.1 52 = .ok (.getfield 24, 3) ∧ 52 + 3 = 55 := ⟨by decide +kernel, rfl⟩
theorem d_X10_point_55 : decode mX10_point.1 55 = .ok (.invokevirtual 50, 3) ∧ 55 + 3 = 58 := ⟨by decide +kernel, rfl⟩
theorem d_X10_point_58 : decode mX10_point.1 58 = .ok (.istore 7, 2) ∧ 58 + 2 = 60 := ⟨by decide +kernel, rfl⟩
theorem d_X10_point_60 : decode mX10_point.1 60 = .ok (.iload 7, 2) ∧ 60 + 2 = 62 := ⟨by decide +kernel, rfl⟩
theorem d_X10_point_62 : decode mX10_point.1 62 = .ok (.iconst (-1), 1) ∧ 62 + 1 = 63 := ⟨by decide +kernel, rfl⟩
theorem d_X10_point_63 : decode mX10_point.1 63 = .ok (.if_icmp .eq 17, 3) ∧ 63 + 3 = 66 ∧ ((63 : Nat) : Int) + 17 = ((80 : Nat) : Int) := ⟨by decide +kernel, rfl, rfl⟩
theorem d_X10_point_80 : decode mX10_point.1 80 = .ok (.iconst 0, 1) ∧ 80 + 1 = 81 := ⟨by decide +kernel, rfl⟩
theorem d_X10_point_81 : decode mX10_point.1 81 = .ok (.istore 8, 2) ∧ 81 + 2 = 83 := ⟨by decide +kernel, rfl⟩
theorem d_X10_point_83 : decode mX10_point.1 83 = .ok (.iload 8, 2) ∧ 83 + 2 = 85 := ⟨by decide +kernel, rfl⟩
theorem d_X10_point_85 : decode mX10_point.1 85 = .ok (.ifCond .eq 35, 3) ∧ 85 + 3 = 88 ∧ ((85 : Nat) : Int) + 35 = ((120 : Nat) : Int) := ⟨by decide +kernel, rfl, rfl⟩
theorem d_X10_point_120 : decode mX10_point.1 120 = .ok (.iinc 6 1, 3) ∧ 120 + 3 = 123 := ⟨by decide +kernel, rfl⟩
theorem d_X10_point_123 : decode mX10_point.1 123 = .ok (.goto (-84), 3) ∧ ((123 : Nat) : Int) + (-84) = ((39 : Nat) : Int) := ⟨by decide +kernel, rfl⟩
theorem d_X10_point_88 : decode mX10_point.1 88 = .ok (.aload_n 1, 1) ∧ 88 + 1 = 89 := ⟨by decide +kernel, rfl⟩
theorem d_X10_point_89 : decode mX10_point.1 89 = .ok (.iload 4, 2) ∧ 89 + 2 = 91 := ⟨by decide +kernel, rfl⟩
theorem d_X10_point_91 : decode mX10_point.1 91 = .ok (.iload 6, 2) ∧ 91 + 2 = 93 := ⟨by decide +kernel, rfl⟩
theorem d_X10_point_93 : decode mX10_point.1 93 = .ok (.invokevirtual 43, 3) ∧ 93 + 3 = 96 := ⟨by decide +kernel, rfl⟩
theorem d_X10_point_96 : decode mX10_point.1 96 = .ok (.iload 5, 2) ∧ 96 + 2 = 98 := ⟨by decide +kernel, rfl⟩
theorem d_X10_point_98 : decode mX10_point.1 98 = .ok (.if_icmp .le 22, 3) ∧ 98 + 3 = 101 ∧ ((98 : Nat) : Int) + 22 = ((120 : Nat) : Int) := ⟨by decide +kernel, rfl, rfl⟩
theorem d_X10_point_101 : decode mX10_point.1 101 = .ok (.aload_n 1, 1) ∧ 101 + 1 = 102 := ⟨by decide +kernel, rfl⟩
theorem d_X10_point_102 : decode mX10_point.1 102 = .ok (.iload 4, 2) ∧ 102 + 2 = 104 := ⟨by decide +kernel, rfl⟩
theorem d_X10_point_104 : decode mX10_point.1 104 = .ok (.iload 6, 2) ∧ 104 + 2 = 106 := ⟨by decide +kernel, rfl⟩
theorem d_X10_point_106 : decode mX10_point.1 106 = .ok (.invokevirtual 43, 3) ∧ 106 + 3 = 109 := ⟨by decide +kernel, rfl⟩
theorem d_X10_point_109 : decode mX10_point.1 109 = .ok (.istore 5, 2) ∧ 109 + 2 = 111 := ⟨by decide +kernel, rfl⟩
theorem d_X10_point_111 : decode mX10_point.1 111 = .ok (.aload_n 0, 1) ∧ 111 + 1 = 112 := ⟨by decide +kernel, rfl⟩
theorem d_X10_point_112 : decode mX10_point.1 112 = .ok (.getfield 21, 3) ∧ 112 + 3 = 115 := ⟨by decide +kernel, rfl⟩
theorem d_X10_point_115 : decode mX10_point.1 115 = .ok (.iload 4, 2) ∧ 115 + 2 = 117 := ⟨by decide +kernel, rfl⟩
theorem d_X10_point_117 : decode mX10_point.1 117 = .ok (.iload 7, 2) ∧ 117 + 2 = 119 := ⟨by decide +kernel, rfl⟩
theorem d_X10_point_119 : decode mX10_point.1 119 = .ok (.iastore, 1) ∧ 119 + 1 = 120 := ⟨by decide +kernel, rfl⟩
set_option maxRecDepth 100000 in
set_option maxHeartbeats 4000000 in
theorem g_X10_point_J81L39 (l : Launch) (G : xa_C) (c0 c1 c2 c3 c4 : Int) (K : (Int × Int × xa_H) ⊕ (xa_H) → Option xa_O) (hb : ∀ (v5 : Int) (v6 : Int) (h : xa_H), xa_G l G 3 mX10_point (some (Sum.inl ((v5, v6, h)))) K 39 [some (xR c0), some (xR c1), some (xR c2), some (xI c3), some (xI c4), some (xI v5), some (xI v6), none, none] [] h) (hx : ∀ (h : xa_H), xa_G l G 3 mX10_point (some (Sum.inr h)) K 126 [some (xR c0), some (xR c1), some (xR c2), some (xI c3), some (xI c4), none, none, none, none] [] h) : ∀ (v5 v6 v7 s0 : Int) (h : xa_H) , xa_G l G 3 mX10_point (f_X10_point_J81L39 c0 c1 c2 c3 c4 v5 v6 v7 s0 h) K 81 [some (xR c0), some (xR c1), some (xR c2), some (xI c3), some (xI c4), some (xI v5), some (xI v6), some (xI v7), none] [xI s0] h := by
  intro v5 v6 v7 s0 h
  unfold f_X10_point_J81L39
  refine xa_step (xa_istore (ls' := [some (xR c0), some (xR c1), some (xR c2), some (xI c3), some (xI c4), some (xI v5), some (xI v6), some (xI v7), some (xI s0)]) d_X10_point_81 (by decide) rfl) ?_
  refine xa_step (xa_iload d_X10_point_83 rfl) ?_
  refine xa_if (xa_ifeq d_X10_point_85) (fun q13 => ?_) (fun q13 => ?_)
  · refine xa_step (xa_iinc (ls' := [some (xR c0), some (xR c1), some (xR c2), some (xI c3), some (xI c4), some (xI v5), some (xI (w32 (v6 + 1))), some (xI v7), some (xI s0)]) d_X10_point_120 xq_i_1 rfl (by decide) rfl) ?_
    refine xa_step (xa_goto d_X10_point_123) ?_
    exact xa_weak (ls' := [some (xR c0), some (xR c1), some (xR c2), some (xI c3), some (xI c4), some (xI v5), some (xI (w32 (v6 + 1))), none, none]) ⟨rfl, rfl, rfl, rfl, rfl, rfl, rfl, trivial⟩ (hb v5 (w32 (v6 + 1)) h)
  · refine xa_step (xa_aload_n d_X10_point_88 rfl) ?_
    refine xa_step (xa_iload d_X10_point_89 rfl) ?_
    refine xa_step (xa_iload d_X10_point_91 rfl) ?_
    refine xa_callVi (as := [xI c4, xI v6]) (st := []) (M' := mX0_valueOf) (d' := 2) rfl xw_1118 xw_907 xw_908 xw_909 xw_169 xh_X0_valueOf rfl ⟨Nat.le_of_ble_eq_true rfl, Nat.le_of_ble_eq_true rfl⟩ (Nat.le_of_ble_eq_true rfl) rfl d_X10_point_93 (fun r hr => ct_X0_valueOf l G c1 c4 v6 h r hr) (fun r14 _ => ?_)
    refine xa_step (xa_iload d_X10_point_96 rfl) ?_
    refine xa_if (xa_icmple d_X10_point_98) (fun q15 => ?_) (fun q15 => ?_)
    · refine xa_step (xa_aload_n d_X10_point_101 rfl) ?_
      refine xa_step (xa_iload d_X10_point_102 rfl) ?_
      refine xa_step (xa_iload d_X10_point_104 rfl) ?_
      refine xa_callVi (as := [xI c4, xI v6]) (st := []) (M' := mX0_valueOf) (d' := 2) rfl xw_1118 xw_907 xw_908 xw_909 xw_169 xh_X0_valueOf rfl ⟨Nat.le_of_ble_eq_true rfl, Nat.le_of_ble_eq_true rfl⟩ (Nat.le_of_ble_eq_true rfl) rfl d_X10_point_106 (fun r hr => ct_X0_valueOf l G c1 c4 v6 h r hr) (fun r16 _ => ?_)
      refine xa_step (xa_istore (ls' := [some (xR c0), some (xR c1), some (xR c2), some (xI c3), some (xI c4), some (xI r16), some (xI v6), some (xI v7), some (xI s0)]) d_X10_point_109 (by decide) rfl) ?_
      refine xa_step (xa_aload_n d_X10_point_111 rfl) ?_
      refine xa_getf xR xc_10 (by decide) (fun _ => rfl) xw_549 rfl d_X10_point_112 (fun x17 _ => ?_)
      refine xa_step (xa_iload d_X10_point_115 rfl) ?_
      refine xa_step (xa_iload d_X10_point_117 rfl) ?_
      refine xa_iastore2 d_X10_point_119 (fun h18 _ => ?_)
      refine xa_step (xa_iinc (ls' := [some (xR c0), some (xR c1), some (xR c2), some (xI c3), some (xI c4), some (xI r16), some (xI (w32 (v6 + 1))), some (xI v7), some (xI s0)]) d_X10_point_120 xq_i_1 rfl (by decide) rfl) ?_
      refine xa_step (xa_goto d_X10_point_123) ?_
      exact xa_weak (ls' := [some (xR c0), some (xR c1), some (xR c2), some (xI c3), some (xI c4), some (xI r16), some (xI (w32 (v6 + 1))), none, none]) ⟨rfl, rfl, rfl, rfl, rfl, rfl, rfl, trivial⟩ (hb r16 (w32 (v6 + 1)) h18)
    · refine xa_step (xa_iinc (ls' := [some (xR c0), some (xR c1), some (xR c2), some (xI c3), some (xI c4), some (xI v5), some (xI (w32 (v6 + 1))), some (xI v7), some (xI s0)]) d_X10_point_120 xq_i_1 rfl (by decide) rfl) ?_
      refine xa_step (xa_goto d_X10_point_123) ?_
      exact xa_weak (ls' := [some (xR c0), some (xR c1), some (xR c2), some (xI c3), some (xI c4), some (xI v5), some (xI (w32 (v6 + 1))), none, none]) ⟨rfl, rfl, rfl, rfl, rfl, rfl, rfl, trivial⟩ (hb v5 (w32 (v6 + 1)) h)
set_option maxRecDepth 100000 in
set_option maxHeartbeats 4000000 in
theorem g_X10_point_J80L39 (l : Launch) (G : xa_C) (c0 c1 c2 c3 c4 : Int) (K : (Int × Int × xa_H) ⊕ (xa_H) → Option xa_O) (hb : ∀ (v5 : Int) (v6 : Int) (h : xa_H), xa_G l G 3 mX10_point (some (Sum.inl ((v5, v6, h)))) K 39 [some (xR c0), some (xR c1), some (xR c2), some (xI c3), some (xI c4), some (xI v5), some (xI v6), none, none] [] h) (hx : ∀ (h : xa_H), xa_G l G 3 mX10_point (some (Sum.inr h)) K 126 [some (xR c0), some (xR c1), some (xR c2), some (xI c3), some (xI c4), none, none, none, none] [] h) : ∀ (v5 v6 v7 : Int) (h : xa_H) , xa_G l G 3 mX10_point (f_X10_point_J80L39 c0 c1 c2 c3 c4 v5 v6 v7 h) K 80 [some (xR c0), some (xR c1), some (xR c2), some (xI c3), some (xI c4), some (xI v5), some (xI v6), some (xI v7), none] [] h := by
  intro v5 v6 v7 h
  unfold f_X10_point_J80L39
  refine xa_step (xa_iconst d_X10_point_80 xq_i_0) ?_
  exact xa_weak (ls' := [some (xR c0), some (xR c1), some (xR c2), some (xI c3), some (xI c4), some (xI v5), some (xI v6), some (xI v7), none]) ⟨rfl, rfl, rfl, rfl, rfl, rfl, rfl, rfl, trivial⟩ (g_X10_point_J81L39 l G c0 c1 c2 c3 c4 K hb hx v5 v6 v7 0 h)
theorem d_X10_point_66 : decode mX10_point.1 66 = .ok (.iload_n 3, 1) ∧ 66 + 1 = 67 := ⟨by decide +kernel, rfl⟩
theorem d_X10_point_67 : decode mX10_point.1 67 = .ok (.iload 7, 2) ∧ 67 + 2 = 69 := ⟨by decide +kernel, rfl⟩
theorem d_X10_point_69 : decode mX10_point.1 69 = .ok (.ishr, 1) ∧ 69 + 1 = 70 := ⟨by decide +kernel, rfl⟩
theorem d_X10_point_70 : decode mX10_point.1 70 = .ok (.iconst 1, 1) ∧ 70 + 1 = 71 := ⟨by decide +kernel, rfl⟩
theorem d_X10_point_71 : decode mX10_point.1 71 = .ok (.iand, 1) ∧ 71 + 1 = 72 := ⟨by decide +kernel, rfl⟩
theorem d_X10_point_72 : decode mX10_point.1 72 = .ok (.iconst 1, 1) ∧ 72 + 1 = 73 := ⟨by decide +kernel, rfl⟩
theorem d_X10_point_73 : decode mX10_point.1 73 = .ok (.if_icmp .ne 7, 3) ∧ 73 + 3 = 76 ∧ ((73 : Nat) : Int) + 7 = ((80 : Nat) : Int) := ⟨by decide +kernel, rfl, rfl⟩
theorem d_X10_point_76 : decode mX10_point.1 76 = .ok (.iconst 1, 1) ∧ 76 + 1 = 77 := ⟨by decide +kernel, rfl⟩
theorem d_X10_point_77 : decode mX10_point.1 77 = .ok (.goto 4, 3) ∧ ((77 : Nat) : Int) + 4 = ((81 : Nat) : Int) := ⟨by decide +kernel, rfl⟩
set_option maxRecDepth 100000 in
set_option maxHeartbeats 4000000 in
theorem g_X10_point_L39 (l : Launch) (G : xa_C) (c0 c1 c2 c3 c4 : Int) (K : (Int × Int × xa_H) ⊕ (xa_H) → Option xa_O) (hb : ∀ (v5 : Int) (v6 : Int) (h : xa_H), xa_G l G 3 mX10_point (some (Sum.inl ((v5, v6, h)))) K 39 [some (xR c0), some (xR c1), some (xR c2), some (xI c3), some (xI c4), some (xI v5), some (xI v6), none, none] [] h) (hx : ∀ (h : xa_H), xa_G l G 3 mX10_point (some (Sum.inr h)) K 126 [some (xR c0), some (xR c1), some (xR c2), some (xI c3), some (xI c4), none, none, none, none] [] h) : ∀ (v5 : Int) (v6 : Int) (h : xa_H), xa_G l G 3 mX10_point (f_X10_point_L39 c0 c1 c2 c3 c4 v5 v6 h) K 39 [some (xR c0), some (xR c1), some (xR c2), some (xI c3), some (xI c4), some (xI v5), some (xI v6), none, none] [] h := by
  intro v5 v6 h
  unfold f_X10_point_L39
  refine xa_step (xa_iload d_X10_point_39 rfl) ?_
  refine xa_step (xa_aload_n d_X10_point_41 rfl) ?_
  refine xa_getf xI xc_0 (by decide) (fun _ => rfl) xw_384 rfl d_X10_point_42 (fun x8 _ => ?_)
  refine xa_if (xa_icmpge d_X10_point_45) (fun q9 => ?_) (fun q9 => ?_)
  · refine xa_step (xa_aload_n d_X10_point_48 rfl) ?_
    refine xa_step (xa_iload d_X10_point_49 rfl) ?_
    refine xa_step (xa_aload_n d_X10_point_51 rfl) ?_
    refine xa_getf xI xc_0 (by decide) (fun _ => rfl) xw_389 rfl d_X10_point_52 (fun x10 _ => ?_)
    refine xa_callVi (as := [xI v6, xI x10]) (st := []) (M' := mX9_holderOf) (d' := 2) rfl xw_1119 xw_743 xw_744 xw_745 xw_170 xh_X9_holderOf rfl ⟨Nat.le_of_ble_eq_true rfl, Nat.le_of_ble_eq_true rfl⟩ (Nat.le_of_ble_eq_true rfl) rfl d_X10_point_55 (fun r hr => ct_X9_holderOf l G c2 v6 x10 h r hr) (fun r11 _ => ?_)
    refine xa_step (xa_istore (ls' := [some (xR c0), some (xR c1), some (xR c2), some (xI c3), some (xI c4), some (xI v5), some (xI v6), some (xI r11), none]) d_X10_point_58 (by decide) rfl) ?_
    refine xa_step (xa_iload d_X10_point_60 rfl) ?_
    refine xa_step (xa_iconst d_X10_point_62 xq_i_m1) ?_
    refine xa_if (xa_icmpeq d_X10_point_63) (fun q12 => ?_) (fun q12 => ?_)
    · exact xa_weak (ls' := [some (xR c0), some (xR c1), some (xR c2), some (xI c3), some (xI c4), some (xI v5), some (xI v6), some (xI r11), none]) ⟨rfl, rfl, rfl, rfl, rfl, rfl, rfl, rfl, trivial⟩ (g_X10_point_J80L39 l G c0 c1 c2 c3 c4 K hb hx v5 v6 r11 h)
    · refine xa_step (xa_iload_n d_X10_point_66 rfl) ?_
      refine xa_step (xa_iload d_X10_point_67 rfl) ?_
      refine xa_step (xa_ishr d_X10_point_69) ?_
      refine xa_step (xa_iconst d_X10_point_70 xq_i_1) ?_
      refine xa_step (xa_iand d_X10_point_71) ?_
      refine xa_step (xa_iconst d_X10_point_72 xq_i_1) ?_
      refine xa_if (xa_icmpne d_X10_point_73) (fun q19 => ?_) (fun q19 => ?_)
      · refine xa_step (xa_iconst d_X10_point_76 xq_i_1) ?_
        refine xa_step (xa_goto d_X10_point_77) ?_
        exact xa_weak (ls' := [some (xR c0), some (xR c1), some (xR c2), some (xI c3), some (xI c4), some (xI v5), some (xI v6), some (xI r11), none]) ⟨rfl, rfl, rfl, rfl, rfl, rfl, rfl, rfl, trivial⟩ (g_X10_point_J81L39 l G c0 c1 c2 c3 c4 K hb hx v5 v6 r11 1 h)
      · exact xa_weak (ls' := [some (xR c0), some (xR c1), some (xR c2), some (xI c3), some (xI c4), some (xI v5), some (xI v6), some (xI r11), none]) ⟨rfl, rfl, rfl, rfl, rfl, rfl, rfl, rfl, trivial⟩ (g_X10_point_J80L39 l G c0 c1 c2 c3 c4 K hb hx v5 v6 r11 h)
  · exact xa_weak (ls' := [some (xR c0), some (xR c1), some (xR c2), some (xI c3), some (xI c4), none, none, none, none]) ⟨rfl, rfl, rfl, rfl, rfl, trivial⟩ (hx h)
theorem d_X10_point_126 : decode mX10_point.1 126 = .ok (.iinc 4 1, 3) ∧ 126 + 3 = 129 := ⟨by decide +kernel, rfl⟩
theorem d_X10_point_129 : decode mX10_point.1 129 = .ok (.goto (-126), 3) ∧ ((129 : Nat) : Int) + (-126) = ((3 : Nat) : Int) := ⟨by decide +kernel, rfl⟩
set_option maxRecDepth 100000 in
set_option maxHeartbeats 4000000 in
theorem g_X10_point_L3 (l : Launch) (G : xa_C) (c0 c1 c2 c3 : Int) (K : (Int × xa_H) ⊕ (xa_H) → Option xa_O) (hb : ∀ (v4 : Int) (h : xa_H), xa_G l G 3 mX10_point (some (Sum.inl ((v4, h)))) K 3 [some (xR c0), some (xR c1), some (xR c2), some (xI c3), some (xI v4), none, none, none, none] [] h) (hx : ∀ (h : xa_H), xa_G l G 3 mX10_point (some (Sum.inr h)) K 132 [none, none, none, none, none, none, none, none, none] [] h) : ∀ (v4 : Int) (h : xa_H), xa_G l G 3 mX10_point (f_X10_point_L3 c0 c1 c2 c3 v4 h) K 3 [some (xR c0), some (xR c1), some (xR c2), some (xI c3), some (xI v4), none, none, none, none] [] h := by
  intro v4 h
  unfold f_X10_point_L3
  refine xa_step (xa_iload d_X10_point_3 rfl) ?_
  refine xa_step (xa_aload_n d_X10_point_5 rfl) ?_
  refine xa_getf xI xc_0 (by decide) (fun _ => rfl) xw_389 rfl d_X10_point_6 (fun x1 _ => ?_)
  refine xa_if (xa_icmpge d_X10_point_9) (fun q2 => ?_) (fun q2 => ?_)
  · refine xa_step (xa_aload_n d_X10_point_12 rfl) ?_
    refine xa_getf xR xc_10 (by decide) (fun _ => rfl) xw_549 rfl d_X10_point_13 (fun x3 _ => ?_)
    refine xa_step (xa_iload d_X10_point_16 rfl) ?_
    refine xa_step (xa_iload d_X10_point_18 rfl) ?_
    refine xa_iastore2 d_X10_point_20 (fun h4 _ => ?_)
    refine xa_step (xa_aload_n d_X10_point_21 rfl) ?_
    refine xa_step (xa_iload d_X10_point_22 rfl) ?_
    refine xa_step (xa_aload_n d_X10_point_24 rfl) ?_
    refine xa_getf xR xc_9 (by decide) (fun _ => rfl) xw_343 rfl d_X10_point_25 (fun x5 _ => ?_)
    refine xa_step (xa_iload d_X10_point_28 rfl) ?_
    refine xa_iaload d_X10_point_30 (fun x6 _ => ?_)
    refine xa_callVi (as := [xI v4, xI x6]) (st := []) (M' := mX0_valueOf) (d' := 2) rfl xw_1118 xw_907 xw_908 xw_909 xw_169 xh_X0_valueOf rfl ⟨Nat.le_of_ble_eq_true rfl, Nat.le_of_ble_eq_true rfl⟩ (Nat.le_of_ble_eq_true rfl) rfl d_X10_point_31 (fun r hr => ct_X0_valueOf l G c1 v4 x6 h4 r hr) (fun r7 _ => ?_)
    refine xa_step (xa_istore (ls' := [some (xR c0), some (xR c1), some (xR c2), some (xI c3), some (xI v4), some (xI r7), none, none, none]) d_X10_point_34 (by decide) rfl) ?_
    refine xa_step (xa_iconst d_X10_point_36 xq_i_0) ?_
    refine xa_step (xa_istore (ls' := [some (xR c0), some (xR c1), some (xR c2), some (xI c3), some (xI v4), some (xI r7), some (xI 0), none, none]) d_X10_point_37 (by decide) rfl) ?_
    refine xa_weak (ls' := [some (xR c0), some (xR c1), some (xR c2), some (xI c3), some (xI v4), some (xI r7), some (xI 0), none, none]) ⟨rfl, rfl, rfl, rfl, rfl, rfl, rfl, trivial⟩ ?_
    refine xa_loop (f := fun s => f_X10_point_L39 c0 c1 c2 c3 v4 s.1 s.2.1 s.2.2) (L := fun s => [some (xR c0), some (xR c1), some (xR c2), some (xI c3), some (xI v4), some (xI s.1), some (xI s.2.1), none, none]) (P := fun s => s.2.2) (X := (fun x K => xa_G l G 3 mX10_point (some (Sum.inr x)) K 126 [some (xR c0), some (xR c1), some (xR c2), some (xI c3), some (xI v4), none, none, none, none] [] x)) (fun K hb hX s => g_X10_point_L39 l G c0 c1 c2 c3 v4 K (fun w0 w1 hh => hb ((w0, w1, hh))) (fun hh => hX hh) s.1 s.2.1 s.2.2) ?_ xFU ((r7, 0, h4))
    intro e20 K hK
    refine xa_eqE hK ?_
    show xa_G l G 3 mX10_point _ _ 126 [some (xR c0), some (xR c1), some (xR c2), some (xI c3), some (xI v4), none, none, none, none] [] e20
    refine xa_step (xa_iinc (ls' := [some (xR c0), some (xR c1), some (xR c2), some (xI c3), some (xI (w32 (v4 + 1))), none, none, none, none]) d_X10_point_126 xq_i_1 rfl (by decide) rfl) ?_
    refine xa_step (xa_goto d_X10_point_129) ?_
    exact xa_weak (ls' := [some (xR c0), some (xR c1), some (xR c2), some (xI c3), some (xI (w32 (v4 + 1))), none, none, none, none]) ⟨rfl, rfl, rfl, rfl, rfl, trivial⟩ (hb (w32 (v4 + 1)) e20)
  · exact xa_weak (ls' := [none, none, none, none, none, none, none, none, none]) trivial (hx h)
theorem d_X10_point_132 : decode mX10_point.1 132 = .ok (.return_, 1) := by decide +kernel
set_option maxRecDepth 100000 in
set_option maxHeartbeats 4000000 in
theorem g_X10_point (l : Launch) (G : xa_C) (v0 v1 v2 v3 : Int) (h : xa_H) : xa_G l G 3 mX10_point (f_X10_point v0 v1 v2 v3 h) (fun r => some (none, r) : xa_H → Option xa_O) 0 [some (xR v0), some (xR v1), some (xR v2), some (xI v3), none, none, none, none, none] [] h := by
  unfold f_X10_point
  refine xa_step (xa_iconst d_X10_point_0 xq_i_0) ?_
  refine xa_step (xa_istore (ls' := [some (xR v0), some (xR v1), some (xR v2), some (xI v3), some (xI 0), none, none, none, none]) d_X10_point_1 (by decide) rfl) ?_
  refine xa_weak (ls' := [some (xR v0), some (xR v1), some (xR v2), some (xI v3), some (xI 0), none, none, none, none]) ⟨rfl, rfl, rfl, rfl, rfl, trivial⟩ ?_
  refine xa_loop (f := fun s => f_X10_point_L3 v0 v1 v2 v3 s.1 s.2) (L := fun s => [some (xR v0), some (xR v1), some (xR v2), some (xI v3), some (xI s.1), none, none, none, none]) (P := fun s => s.2) (X := (fun x K => xa_G l G 3 mX10_point (some (Sum.inr x)) K 132 [none, none, none, none, none, none, none, none, none] [] x)) (fun K hb hX s => g_X10_point_L3 l G v0 v1 v2 v3 K (fun w0 hh => hb ((w0, hh))) (fun hh => hX hh) s.1 s.2) ?_ xFU ((0, h))
  intro e21 K hK
  refine xa_eqE hK ?_
  show xa_G l G 3 mX10_point _ _ 132 [none, none, none, none, none, none, none, none, none] [] e21
  exact xa_vret d_X10_point_132 rfl rfl
theorem ct_X10_point (l : Launch) (G : xa_C) (v0 v1 v2 v3 : Int) (h : xa_H) (r : xa_H) (hr : f_X10_point v0 v1 v2 v3 h = some r) : xa_CT l G 3 mX10_point yX10_point [xR v0, xR v1, xR v2, xI v3] h (none, r) :=
  xa_met (by decide +kernel) rfl (fun q => by first | rfl | cases q) (Nat.le_of_ble_eq_true rfl) rfl (g_X10_point l G v0 v1 v2 v3 h) (by rw [hr]; rfl)
abbrev mX10_ringOf : xa_M := (cX10_ringOf, 4, (some (.int)), RX10, false)
theorem d_X10_ringOf_0 : decode mX10_ringOf.1 0 = .ok (.iload_n 1, 1) ∧ 0 + 1 = 1 := ⟨by decide +kernel, rfl⟩
theorem d_X10_ringOf_1 : decode mX10_ringOf.1 1 = .ok (.istore_n 2, 1) ∧ 1 + 1 = 2 := ⟨by decide +kernel, rfl⟩
theorem d_X10_ringOf_2 : decode mX10_ringOf.1 2 = .ok (.iconst 1, 1) ∧ 2 + 1 = 3 := ⟨by decide +kernel, rfl⟩
theorem d_X10_ringOf_3 : decode mX10_ringOf.1 3 = .ok (.istore_n 3, 1) ∧ 3 + 1 = 4 := ⟨by decide +kernel, rfl⟩
theorem d_X10_ringOf_4 : decode mX10_ringOf.1 4 = .ok (.iload_n 3, 1) ∧ 4 + 1 = 5 := ⟨by decide +kernel, rfl⟩
theorem d_X10_ringOf_5 : decode mX10_ringOf.1 5 = .ok (.bipush 6, 2) ∧ 5 + 2 = 7 := ⟨by decide +kernel, rfl⟩
theorem d_X10_ringOf_7 : decode mX10_ringOf.1 7 = .ok (.if_icmp .gt 23, 3) ∧ 7 + 3 = 10 ∧ ((7 : Nat) : Int) + 23 = ((30 : Nat) : Int) := ⟨by decide +kernel, rfl, rfl⟩
theorem d_X10_ringOf_10 : decode mX10_ringOf.1 10 = .ok (.aload_n 0, 1) ∧ 10 + 1 = 11 := ⟨by decide +kernel, rfl⟩
theorem d_X10_ringOf_11 : decode mX10_ringOf.1 11 = .ok (.getfield 21, 3) ∧ 11 + 3 = 14 := ⟨by decide +kernel, rfl⟩
theorem d_X10_ringOf_14 : decode mX10_ringOf.1 14 = .ok (.iload_n 2, 1) ∧ 14 + 1 = 15 := ⟨by decide +kernel, rfl⟩
theorem d_X10_ringOf_15 : decode mX10_ringOf.1 15 = .ok (.iaload, 1) ∧ 15 + 1 = 16 := ⟨by decide +kernel, rfl⟩
theorem d_X10_ringOf_16 : decode mX10_ringOf.1 16 = .ok (.istore_n 2, 1) ∧ 16 + 1 = 17 := ⟨by decide +kernel, rfl⟩
theorem d_X10_ringOf_17 : decode mX10_ringOf.1 17 = .ok (.iload_n 2, 1) ∧ 17 + 1 = 18 := ⟨by decide +kernel, rfl⟩
theorem d_X10_ringOf_18 : decode mX10_ringOf.1 18 = .ok (.iload_n 1, 1) ∧ 18 + 1 = 19 := ⟨by decide +kernel, rfl⟩
theorem d_X10_ringOf_19 : decode mX10_ringOf.1 19 = .ok (.if_icmp .ne 5, 3) ∧ 19 + 3 = 22 ∧ ((19 : Nat) : Int) + 5 = ((24 : Nat) : Int) := ⟨by decide +kernel, rfl, rfl⟩
theorem d_X10_ringOf_22 : decode mX10_ringOf.1 22 = .ok (.iload_n 3, 1) ∧ 22 + 1 = 23 := ⟨by decide +kernel, rfl⟩
theorem d_X10_ringOf_23 : decode mX10_ringOf.1 23 = .ok (.ireturn, 1) := by decide +kernel
theorem d_X10_ringOf_24 : decode mX10_ringOf.1 24 = .ok (.iinc 3 1, 3) ∧ 24 + 3 = 27 := ⟨by decide +kernel, rfl⟩
theorem d_X10_ringOf_27 : decode mX10_ringOf.1 27 = .ok (.goto (-23), 3) ∧ ((27 : Nat) : Int) + (-23) = ((4 : Nat) : Int) := ⟨by decide +kernel, rfl⟩
set_option maxRecDepth 100000 in
set_option maxHeartbeats 4000000 in
theorem g_X10_ringOf_L4 (l : Launch) (G : xa_C) (c0 c1 : Int) (h : xa_H) (K : (Int × Int) ⊕ ((Int) ⊕ (Unit)) → Option xa_O) (hb : ∀ (v2 : Int) (v3 : Int), xa_G l G 2 mX10_ringOf (some (Sum.inl ((v2, v3)))) K 4 [some (xR c0), some (xI c1), some (xI v2), some (xI v3)] [] h) (hr : ∀ r : Int, K (Sum.inr (Sum.inl r)) = some (some (xI r), h)) (hx : xa_G l G 2 mX10_ringOf (some (Sum.inr (Sum.inr (())))) K 30 [none, none, none, none] [] h) : ∀ (v2 : Int) (v3 : Int), xa_G l G 2 mX10_ringOf (f_X10_ringOf_L4 c0 c1 h v2 v3) K 4 [some (xR c0), some (xI c1), some (xI v2), some (xI v3)] [] h := by
  intro v2 v3
  unfold f_X10_ringOf_L4
  refine xa_step (xa_iload_n d_X10_ringOf_4 rfl) ?_
  refine xa_step (xa_bipush d_X10_ringOf_5 xq_b_6) ?_
  refine xa_if (xa_icmpgt d_X10_ringOf_7) (fun q1 => ?_) (fun q1 => ?_)
  · exact xa_weak (ls' := [none, none, none, none]) trivial (hx )
  · refine xa_step (xa_aload_n d_X10_ringOf_10 rfl) ?_
    refine xa_getf xR xc_10 (by decide) (fun _ => rfl) xw_549 rfl d_X10_ringOf_11 (fun x2 _ => ?_)
    refine xa_step (xa_iload_n d_X10_ringOf_14 rfl) ?_
    refine xa_iaload d_X10_ringOf_15 (fun x3 _ => ?_)
    refine xa_step (xa_istore_n (ls' := [some (xR c0), some (xI c1), some (xI x3), some (xI v3)]) d_X10_ringOf_16 (by decide) rfl) ?_
    refine xa_step (xa_iload_n d_X10_ringOf_17 rfl) ?_
    refine xa_step (xa_iload_n d_X10_ringOf_18 rfl) ?_
    refine xa_if (xa_icmpne d_X10_ringOf_19) (fun q4 => ?_) (fun q4 => ?_)
    · refine xa_step (xa_iload_n d_X10_ringOf_22 rfl) ?_
      exact xa_iret d_X10_ringOf_23 rfl (hr _)
    · refine xa_step (xa_iinc (ls' := [some (xR c0), some (xI c1), some (xI x3), some (xI (w32 (v3 + 1)))]) d_X10_ringOf_24 xq_i_1 rfl (by decide) rfl) ?_
      refine xa_step (xa_goto d_X10_ringOf_27) ?_
      exact xa_weak (ls' := [some (xR c0), some (xI c1), some (xI x3), some (xI (w32 (v3 + 1)))]) ⟨rfl, rfl, rfl, rfl, trivial⟩ (hb x3 (w32 (v3 + 1)))
theorem d_X10_ringOf_30 : decode mX10_ringOf.1 30 = .ok (.iconst 0, 1) ∧ 30 + 1 = 31 := ⟨by decide +kernel, rfl⟩
theorem d_X10_ringOf_31 : decode mX10_ringOf.1 31 = .ok (.ireturn, 1) := by decide +kernel
set_option maxRecDepth 100000 in
set_option maxHeartbeats 4000000 in
theorem g_X10_ringOf (l : Launch) (G : xa_C) (v0 v1 : Int) (h : xa_H) : xa_G l G 2 mX10_ringOf (f_X10_ringOf v0 v1 h) (fun r => some (some (xI r), h) : Int → Option xa_O) 0 [some (xR v0), some (xI v1), none, none] [] h := by
  unfold f_X10_ringOf
  refine xa_step (xa_iload_n d_X10_ringOf_0 rfl) ?_
  refine xa_step (xa_istore_n (ls' := [some (xR v0), some (xI v1), some (xI v1), none]) d_X10_ringOf_1 (by decide) rfl) ?_
  refine xa_step (xa_iconst d_X10_ringOf_2 xq_i_1) ?_
  refine xa_step (xa_istore_n (ls' := [some (xR v0), some (xI v1), some (xI v1), some (xI 1)]) d_X10_ringOf_3 (by decide) rfl) ?_
  refine xa_weak (ls' := [some (xR v0), some (xI v1), some (xI v1), some (xI 1)]) ⟨rfl, rfl, rfl, rfl, trivial⟩ ?_
  refine xa_loop (f := fun s => f_X10_ringOf_L4 v0 v1 h s.1 s.2) (L := fun s => [some (xR v0), some (xI v1), some (xI s.1), some (xI s.2)]) (P := fun s => h) (X := (fun e K => match e with | Sum.inl r => K (Sum.inr (Sum.inl r)) = some (some (xI r), h) | Sum.inr x => xa_G l G 2 mX10_ringOf (some (Sum.inr (Sum.inr x))) K 30 [none, none, none, none] [] h)) (fun K hb hX s => g_X10_ringOf_L4 l G v0 v1 h K (fun w0 w1 => hb ((w0, w1))) (fun r => hX (Sum.inl r)) (hX (Sum.inr ())) s.1 s.2) ?_ xFU ((v1, 1))
  rintro (r | y6) K hK
  · exact hK.trans rfl
  · refine xa_eqE hK ?_
    show xa_G l G 2 mX10_ringOf _ _ 30 [none, none, none, none] [] h
    refine xa_step (xa_iconst d_X10_ringOf_30 xq_i_0) ?_
    exact xa_iret d_X10_ringOf_31 rfl rfl
theorem ct_X10_ringOf (l : Launch) (G : xa_C) (v0 v1 : Int) (h : xa_H) (r : Int) (hr : f_X10_ringOf v0 v1 h = some r) : xa_CT l G 2 mX10_ringOf yX10_ringOf [xR v0, xI v1] h (some (xI r), h) :=
  xa_met (by decide +kernel) rfl (fun q => by first | rfl | cases q) (Nat.le_of_ble_eq_true rfl) rfl (g_X10_ringOf l G v0 v1 h) (by rw [hr]; rfl)
abbrev mX10_play : xa_M := (cX10_play, 8, none, RX10, false)
theorem d_X10_play_0 : decode mX10_play.1 0 = .ok (.iconst 1, 1) ∧ 0 + 1 = 1 := ⟨by decide +kernel, rfl⟩
theorem d_X10_play_1 : decode mX10_play.1 1 = .ok (.aload_n 1, 1) ∧ 1 + 1 = 2 := ⟨by decide +kernel, rfl⟩
theorem d_X10_play_2 : decode mX10_play.1 2 = .ok (.getfield 24, 3) ∧ 2 + 3 = 5 := ⟨by decide +kernel, rfl⟩
theorem d_X10_play_5 : decode mX10_play.1 5 = .ok (.ishl, 1) ∧ 5 + 1 = 6 := ⟨by decide +kernel, rfl⟩
theorem d_X10_play_6 : decode mX10_play.1 6 = .ok (.iconst 1, 1) ∧ 6 + 1 = 7 := ⟨by decide +kernel, rfl⟩
theorem d_X10_play_7 : decode mX10_play.1 7 = .ok (.isub, 1) ∧ 7 + 1 = 8 := ⟨by decide +kernel, rfl⟩
theorem d_X10_play_8 : decode mX10_play.1 8 = .ok (.istore_n 3, 1) ∧ 8 + 1 = 9 := ⟨by decide +kernel, rfl⟩
theorem d_X10_play_9 : decode mX10_play.1 9 = .ok (.iconst 1, 1) ∧ 9 + 1 = 10 := ⟨by decide +kernel, rfl⟩
theorem d_X10_play_10 : decode mX10_play.1 10 = .ok (.istore 4, 2) ∧ 10 + 2 = 12 := ⟨by decide +kernel, rfl⟩
theorem d_X10_play_12 : decode mX10_play.1 12 = .ok (.iload_n 3, 1) ∧ 12 + 1 = 13 := ⟨by decide +kernel, rfl⟩
theorem d_X10_play_13 : decode mX10_play.1 13 = .ok (.ifCond .eq 124, 3) ∧ 13 + 3 = 16 ∧ ((13 : Nat) : Int) + 124 = ((137 : Nat) : Int) := ⟨by decide +kernel, rfl, rfl⟩
theorem d_X10_play_16 : decode mX10_play.1 16 = .ok (.iload 4, 2) ∧ 16 + 2 = 18 := ⟨by decide +kernel, rfl⟩
theorem d_X10_play_18 : decode mX10_play.1 18 = .ok (.bipush 6, 2) ∧ 18 + 2 = 20 := ⟨by decide +kernel, rfl⟩
theorem d_X10_play_20 : decode mX10_play.1 20 = .ok (.if_icmp .gt 117, 3) ∧ 20 + 3 = 23 ∧ ((20 : Nat) : Int) + 117 = ((137 : Nat) : Int) := ⟨by decide +kernel, rfl, rfl⟩
theorem d_X10_play_23 : decode mX10_play.1 23 = .ok (.aload_n 0, 1) ∧ 23 + 1 = 24 := ⟨by decide +kernel, rfl⟩
theorem d_X10_play_24 : decode mX10_play.1 24 = .ok (.aload_n 1, 1) ∧ 24 + 1 = 25 := ⟨by decide +kernel, rfl⟩
theorem d_X10_play_25 : decode mX10_play.1 25 = .ok (.aload_n 2, 1) ∧ 25 + 1 = 26 := ⟨by decide +kernel, rfl⟩
theorem d_X10_play_26 : decode mX10_play.1 26 = .ok (.iload_n 3, 1) ∧ 26 + 1 = 27 := ⟨by decide +kernel, rfl⟩
theorem d_X10_play_27 : decode mX10_play.1 27 = .ok (.invokevirtual 30, 3) ∧ 27 + 3 = 30 := ⟨by decide +kernel, rfl⟩
theorem d_X10_play_30 : decode mX10_play.1 30 = .ok (.iconst 0, 1) ∧ 30 + 1 = 31 := ⟨by decide +kernel, rfl⟩
theorem d_X10_play_31 : decode mX10_play.1 31 = .ok (.istore 5, 2) ∧ 31 + 2 = 33 := ⟨by decide +kernel, rfl⟩
theorem d_X10_play_33 : decode mX10_play.1 33 = .ok (.iconst 0, 1) ∧ 33 + 1 = 34 := ⟨by decide +kernel, rfl⟩
theorem d_X10_play_34 : decode mX10_play.1 34 = .ok (.istore 6, 2) ∧ 34 + 2 = 36 := ⟨by decide +kernel, rfl⟩
theorem d_X10_play_36 : decode mX10_play.1 36 = .ok (.iload 6, 2) ∧ 36 + 2 = 38 := ⟨by decide +kernel, rfl⟩
theorem d_X10_play_38 : decode mX10_play.1 38 = .ok (.aload_n 1, 1) ∧ 38 + 1 = 39 := ⟨by decide +kernel, rfl⟩
theorem d_X10_play_39 : decode mX10_play.1 39 = .ok (.getfield 24, 3) ∧ 39 + 3 = 42 := ⟨by decide +kernel, rfl⟩
theorem d_X10_play_42 : decode mX10_play.1 42 = .ok (.if_icmp .ge 82, 3) ∧ 42 + 3 = 45 ∧ ((42 : Nat) : Int) + 82 = ((124 : Nat) : Int) := ⟨by decide +kernel, rfl, rfl⟩
theorem d_X10_play_45 : decode mX10_play.1 45 = .ok (.iload_n 3, 1) ∧ 45 + 1 = 46 := ⟨by decide +kernel, rfl⟩
theorem d_X10_play_46 : decode mX10_play.1 46 = .ok (.iload 6, 2) ∧ 46 + 2 = 48 := ⟨by decide +kernel, rfl⟩
theorem d_X10_play_48 : decode mX10_play.1 48 = .ok (.ishr, 1) ∧ 48 + 1 = 49 := ⟨by decide +kernel, rfl⟩
theorem d_X10_play_49 : decode mX10_play.1 49 = .ok (.iconst 1, 1) ∧ 49 + 1 = 50 := ⟨by decide +kernel, rfl⟩
theorem d_X10_play_50 : decode mX10_play.1 50 = .ok (.iand, 1) ∧ 50 + 1 = 51 := ⟨by decide +kernel, rfl⟩
theorem d_X10_play_51 : decode mX10_play.1 51 = .ok (.iconst 1, 1) ∧ 51 + 1 = 52 := ⟨by decide +kernel, rfl⟩
theorem d_X10_play_52 : decode mX10_play.1 52 = .ok (.if_icmp .ne 12, 3) ∧ 52 + 3 = 55 ∧ ((52 : Nat) : Int) + 12 = ((64 : Nat) : Int) := ⟨by decide +kernel, rfl, rfl⟩
theorem d_X10_play_55 : decode mX10_play.1 55 = .ok (.aload_n 0, 1) ∧ 55 + 1 = 56 := ⟨by decide +kernel, rfl⟩
theorem d_X10_play_56 : decode mX10_play.1 56 = .ok (.iload 6, 2) ∧ 56 + 2 = 58 := ⟨by decide +kernel, rfl⟩
theorem d_X10_play_58 : decode mX10_play.1 58 = .ok (.invokevirtual 34, 3) ∧ 58 + 3 = 61 := ⟨by decide +kernel, rfl⟩
theorem d_X10_play_61 : decode mX10_play.1 61 = .ok (.goto 4, 3) ∧ ((61 : Nat) : Int) + 4 = ((65 : Nat) : Int) := ⟨by decide +kernel, rfl⟩
theorem d_X10_play_65 : decode mX10_play.1 65 = .ok (.istore 7, 2) ∧ 65 + 2 = 67 := ⟨by decide +kernel, rfl⟩
theorem d_X10_play_67 : decode mX10_play.1 67 = .ok (.iload 7, 2) ∧ 67 + 2 = 69 := ⟨by decide +kernel, rfl⟩
theorem d_X10_play_69 : decode mX10_play.1 69 = .ok (.ifCond .le 49, 3) ∧ 69 + 3 = 72 ∧ ((69 : Nat) : Int) + 49 = ((118 : Nat) : Int) := ⟨by decide +kernel, rfl, rfl⟩
theorem d_X10_play_72 : decode mX10_play.1 72 = .ok (.aload_n 0, 1) ∧ 72 + 1 = 73 := ⟨by decide +kernel, rfl⟩
theorem d_X10_play_73 : decode mX10_play.1 73 = .ok (.getfield 9, 3) ∧ 73 + 3 = 76 := ⟨by decide +kernel, rfl⟩
theorem d_X10_play_76 : decode mX10_play.1 76 = .ok (.iload 6, 2) ∧ 76 + 2 = 78 := ⟨by decide +kernel, rfl⟩
theorem d_X10_play_78 : decode mX10_play.1 78 = .ok (.aload_n 2, 1) ∧ 78 + 1 = 79 := ⟨by decide +kernel, rfl⟩
theorem d_X10_play_79 : decode mX10_play.1 79 = .ok (.getfield 38, 3) ∧ 79 + 3 = 82 := ⟨by decide +kernel, rfl⟩
theorem d_X10_play_82 : decode mX10_play.1 82 = .ok (.aload_n 0, 1) ∧ 82 + 1 = 83 := ⟨by decide +kernel, rfl⟩
theorem d_X10_play_83 : decode mX10_play.1 83 = .ok (.getfield 21, 3) ∧ 83 + 3 = 86 := ⟨by decide +kernel, rfl⟩
theorem d_X10_play_86 : decode mX10_play.1 86 = .ok (.iload 6, 2) ∧ 86 + 2 = 88 := ⟨by decide +kernel, rfl⟩
theorem d_X10_play_88 : decode mX10_play.1 88 = .ok (.iaload, 1) ∧ 88 + 1 = 89 := ⟨by decide +kernel, rfl⟩
theorem d_X10_play_89 : decode mX10_play.1 89 = .ok (.iaload, 1) ∧ 89 + 1 = 90 := ⟨by decide +kernel, rfl⟩
theorem d_X10_play_90 : decode mX10_play.1 90 = .ok (.iastore, 1) ∧ 90 + 1 = 91 := ⟨by decide +kernel, rfl⟩
theorem d_X10_play_91 : decode mX10_play.1 91 = .ok (.aload_n 0, 1) ∧ 91 + 1 = 92 := ⟨by decide +kernel, rfl⟩
theorem d_X10_play_92 : decode mX10_play.1 92 = .ok (.getfield 15, 3) ∧ 92 + 3 = 95 := ⟨by decide +kernel, rfl⟩
theorem d_X10_play_95 : decode mX10_play.1 95 = .ok (.iload 6, 2) ∧ 95 + 2 = 97 := ⟨by decide +kernel, rfl⟩
theorem d_X10_play_97 : decode mX10_play.1 97 = .ok (.iload 4, 2) ∧ 97 + 2 = 99 := ⟨by decide +kernel, rfl⟩
theorem d_X10_play_99 : decode mX10_play.1 99 = .ok (.iastore, 1) ∧ 99 + 1 = 100 := ⟨by decide +kernel, rfl⟩
theorem d_X10_play_100 : decode mX10_play.1 100 = .ok (.aload_n 0, 1) ∧ 100 + 1 = 101 := ⟨by decide +kernel, rfl⟩
theorem d_X10_play_101 : decode mX10_play.1 101 = .ok (.getfield 18, 3) ∧ 101 + 3 = 104 := ⟨by decide +kernel, rfl⟩
theorem d_X10_play_104 : decode mX10_play.1 104 = .ok (.iload 6, 2) ∧ 104 + 2 = 106 := ⟨by decide +kernel, rfl⟩
theorem d_X10_play_106 : decode mX10_play.1 106 = .ok (.iload 7, 2) ∧ 106 + 2 = 108 := ⟨by decide +kernel, rfl⟩
theorem d_X10_play_108 : decode mX10_play.1 108 = .ok (.iastore, 1) ∧ 108 + 1 = 109 := ⟨by decide +kernel, rfl⟩
theorem d_X10_play_109 : decode mX10_play.1 109 = .ok (.iload 5, 2) ∧ 109 + 2 = 111 := ⟨by decide +kernel, rfl⟩
theorem d_X10_play_111 : decode mX10_play.1 111 = .ok (.iconst 1, 1) ∧ 111 + 1 = 112 := ⟨by decide +kernel, rfl⟩
theorem d_X10_play_112 : decode mX10_play.1 112 = .ok (.iload 6, 2) ∧ 112 + 2 = 114 := ⟨by decide +kernel, rfl⟩
theorem d_X10_play_114 : decode mX10_play.1 114 = .ok (.ishl, 1) ∧ 114 + 1 = 115 := ⟨by decide +kernel, rfl⟩
theorem d_X10_play_115 : decode mX10_play.1 115 = .ok (.ior, 1) ∧ 115 + 1 = 116 := ⟨by decide +kernel, rfl⟩
theorem d_X10_play_116 : decode mX10_play.1 116 = .ok (.istore 5, 2) ∧ 116 + 2 = 118 := ⟨by decide +kernel, rfl⟩
theorem d_X10_play_118 : decode mX10_play.1 118 = .ok (.iinc 6 1, 3) ∧ 118 + 3 = 121 := ⟨by decide +kernel, rfl⟩
theorem d_X10_play_121 : decode mX10_play.1 121 = .ok (.goto (-85), 3) ∧ ((121 : Nat) : Int) + (-85) = ((36 : Nat) : Int) := ⟨by decide +kernel, rfl⟩
set_option maxRecDepth 100000 in
set_option maxHeartbeats 4000000 in
theorem g_X10_play_J65L36 (l : Launch) (G : xa_C) (c0 c1 c2 c3 c4 : Int) (K : (Int × Int × xa_H) ⊕ (Int × xa_H) → Option xa_O) (hb : ∀ (v5 : Int) (v6 : Int) (h : xa_H), xa_G l G 4 mX10_play (some (Sum.inl ((v5, v6, h)))) K 36 [some (xR c0), some (xR c1), some (xR c2), some (xI c3), some (xI c4), some (xI v5), some (xI v6), none] [] h) (hx : ∀ (v5 : Int) (h : xa_H), xa_G l G 4 mX10_play (some (Sum.inr ((v5, h)))) K 124 [some (xR c0), some (xR c1), some (xR c2), some (xI c3), some (xI c4), some (xI v5), none, none] [] h) : ∀ (v5 v6 s0 : Int) (h : xa_H) , xa_G l G 4 mX10_play (f_X10_play_J65L36 c0 c1 c2 c3 c4 v5 v6 s0 h) K 65 [some (xR c0), some (xR c1), some (xR c2), some (xI c3), some (xI c4), some (xI v5), some (xI v6), none] [xI s0] h := by
  intro v5 v6 s0 h
  unfold f_X10_play_J65L36
  refine xa_step (xa_istore (ls' := [some (xR c0), some (xR c1), some (xR c2), some (xI c3), some (xI c4), some (xI v5), some (xI v6), some (xI s0)]) d_X10_play_65 (by decide) rfl) ?_
  refine xa_step (xa_iload d_X10_play_67 rfl) ?_
  refine xa_if (xa_ifle d_X10_play_69) (fun q9 => ?_) (fun q9 => ?_)
  · refine xa_step (xa_aload_n d_X10_play_72 rfl) ?_
    refine xa_getf xR xc_10 (by decide) (fun _ => rfl) xw_543 rfl d_X10_play_73 (fun x10 _ => ?_)
    refine xa_step (xa_iload d_X10_play_76 rfl) ?_
    refine xa_step (xa_aload_n d_X10_play_78 rfl) ?_
    refine xa_getf xR xc_9 (by decide) (fun _ => rfl) xw_343 rfl d_X10_play_79 (fun x11 _ => ?_)
    refine xa_step (xa_aload_n d_X10_play_82 rfl) ?_
    refine xa_getf xR xc_10 (by decide) (fun _ => rfl) xw_549 rfl d_X10_play_83 (fun x12 _ => ?_)
    refine xa_step (xa_iload d_X10_play_86 rfl) ?_
    refine xa_iaload d_X10_play_88 (fun x13 _ => ?_)
    refine xa_iaload d_X10_play_89 (fun x14 _ => ?_)
    refine xa_iastore2 d_X10_play_90 (fun h15 _ => ?_)
    refine xa_step (xa_aload_n d_X10_play_91 rfl) ?_
    refine xa_getf xR xc_10 (by decide) (fun _ => rfl) xw_545 rfl d_X10_play_92 (fun x16 _ => ?_)
    refine xa_step (xa_iload d_X10_play_95 rfl) ?_
    refine xa_step (xa_iload d_X10_play_97 rfl) ?_
    refine xa_iastore2 d_X10_play_99 (fun h17 _ => ?_)
    refine xa_step (xa_aload_n d_X10_play_100 rfl) ?_
    refine xa_getf xR xc_10 (by decide) (fun _ => rfl) xw_547 rfl d_X10_play_101 (fun x18 _ => ?_)
    refine xa_step (xa_iload d_X10_play_104 rfl) ?_
    refine xa_step (xa_iload d_X10_play_106 rfl) ?_
    refine xa_iastore2 d_X10_play_108 (fun h19 _ => ?_)
    refine xa_step (xa_iload d_X10_play_109 rfl) ?_
    refine xa_step (xa_iconst d_X10_play_111 xq_i_1) ?_
    refine xa_step (xa_iload d_X10_play_112 rfl) ?_
    refine xa_step (xa_ishl d_X10_play_114) ?_
    refine xa_step (xa_ior d_X10_play_115) ?_
    refine xa_step (xa_istore (ls' := [some (xR c0), some (xR c1), some (xR c2), some (xI c3), some (xI c4), some (xI (xior v5 (xshl 1 v6))), some (xI v6), some (xI s0)]) d_X10_play_116 (by decide) rfl) ?_
    refine xa_step (xa_iinc (ls' := [some (xR c0), some (xR c1), some (xR c2), some (xI c3), some (xI c4), some (xI (xior v5 (xshl 1 v6))), some (xI (w32 (v6 + 1))), some (xI s0)]) d_X10_play_118 xq_i_1 rfl (by decide) rfl) ?_
    refine xa_step (xa_goto d_X10_play_121) ?_
    exact xa_weak (ls' := [some (xR c0), some (xR c1), some (xR c2), some (xI c3), some (xI c4), some (xI (xior v5 (xshl 1 v6))), some (xI (w32 (v6 + 1))), none]) ⟨rfl, rfl, rfl, rfl, rfl, rfl, rfl, trivial⟩ (hb (xior v5 (xshl 1 v6)) (w32 (v6 + 1)) h19)
  · refine xa_step (xa_iinc (ls' := [some (xR c0), some (xR c1), some (xR c2), some (xI c3), some (xI c4), some (xI v5), some (xI (w32 (v6 + 1))), some (xI s0)]) d_X10_play_118 xq_i_1 rfl (by decide) rfl) ?_
    refine xa_step (xa_goto d_X10_play_121) ?_
    exact xa_weak (ls' := [some (xR c0), some (xR c1), some (xR c2), some (xI c3), some (xI c4), some (xI v5), some (xI (w32 (v6 + 1))), none]) ⟨rfl, rfl, rfl, rfl, rfl, rfl, rfl, trivial⟩ (hb v5 (w32 (v6 + 1)) h)
theorem d_X10_play_64 : decode mX10_play.1 64 = .ok (.iconst 0, 1) ∧ 64 + 1 = 65 := ⟨by decide +kernel, rfl⟩
set_option maxRecDepth 100000 in
set_option maxHeartbeats 4000000 in
theorem g_X10_play_L36 (l : Launch) (G : xa_C) (c0 c1 c2 c3 c4 : Int) (K : (Int × Int × xa_H) ⊕ (Int × xa_H) → Option xa_O) (hb : ∀ (v5 : Int) (v6 : Int) (h : xa_H), xa_G l G 4 mX10_play (some (Sum.inl ((v5, v6, h)))) K 36 [some (xR c0), some (xR c1), some (xR c2), some (xI c3), some (xI c4), some (xI v5), some (xI v6), none] [] h) (hx : ∀ (v5 : Int) (h : xa_H), xa_G l G 4 mX10_play (some (Sum.inr ((v5, h)))) K 124 [some (xR c0), some (xR c1), some (xR c2), some (xI c3), some (xI c4), some (xI v5), none, none] [] h) : ∀ (v5 : Int) (v6 : Int) (h : xa_H), xa_G l G 4 mX10_play (f_X10_play_L36 c0 c1 c2 c3 c4 v5 v6 h) K 36 [some (xR c0), some (xR c1), some (xR c2), some (xI c3), some (xI c4), some (xI v5), some (xI v6), none] [] h := by
  intro v5 v6 h
  unfold f_X10_play_L36
  refine xa_step (xa_iload d_X10_play_36 rfl) ?_
  refine xa_step (xa_aload_n d_X10_play_38 rfl) ?_
  refine xa_getf xI xc_0 (by decide) (fun _ => rfl) xw_389 rfl d_X10_play_39 (fun x5 _ => ?_)
  refine xa_if (xa_icmpge d_X10_play_42) (fun q6 => ?_) (fun q6 => ?_)
  · refine xa_step (xa_iload_n d_X10_play_45 rfl) ?_
    refine xa_step (xa_iload d_X10_play_46 rfl) ?_
    refine xa_step (xa_ishr d_X10_play_48) ?_
    refine xa_step (xa_iconst d_X10_play_49 xq_i_1) ?_
    refine xa_step (xa_iand d_X10_play_50) ?_
    refine xa_step (xa_iconst d_X10_play_51 xq_i_1) ?_
    refine xa_if (xa_icmpne d_X10_play_52) (fun q7 => ?_) (fun q7 => ?_)
    · refine xa_step (xa_aload_n d_X10_play_55 rfl) ?_
      refine xa_step (xa_iload d_X10_play_56 rfl) ?_
      refine xa_callVi (as := [xI v6]) (st := []) (M' := mX10_ringOf) (d' := 2) rfl xw_1120 xw_1122 xw_50 xw_1123 xw_175 xh_X10_ringOf rfl ⟨Nat.le_of_ble_eq_true rfl, Nat.le_of_ble_eq_true rfl⟩ (Nat.le_of_ble_eq_true rfl) rfl d_X10_play_58 (fun r hr => ct_X10_ringOf l G c0 v6 h r hr) (fun r8 _ => ?_)
      refine xa_step (xa_goto d_X10_play_61) ?_
      exact xa_weak (ls' := [some (xR c0), some (xR c1), some (xR c2), some (xI c3), some (xI c4), some (xI v5), some (xI v6), none]) ⟨rfl, rfl, rfl, rfl, rfl, rfl, rfl, trivial⟩ (g_X10_play_J65L36 l G c0 c1 c2 c3 c4 K hb hx v5 v6 r8 h)
    · refine xa_step (xa_iconst d_X10_play_64 xq_i_0) ?_
      exact xa_weak (ls' := [some (xR c0), some (xR c1), some (xR c2), some (xI c3), some (xI c4), some (xI v5), some (xI v6), none]) ⟨rfl, rfl, rfl, rfl, rfl, rfl, rfl, trivial⟩ (g_X10_play_J65L36 l G c0 c1 c2 c3 c4 K hb hx v5 v6 0 h)
  · exact xa_weak (ls' := [some (xR c0), some (xR c1), some (xR c2), some (xI c3), some (xI c4), some (xI v5), none, none]) ⟨rfl, rfl, rfl, rfl, rfl, rfl, trivial⟩ (hx v5 h)
theorem d_X10_play_124 : decode mX10_play.1 124 = .ok (.iload_n 3, 1) ∧ 124 + 1 = 125 := ⟨by decide +kernel, rfl⟩
theorem d_X10_play_125 : decode mX10_play.1 125 = .ok (.iload 5, 2) ∧ 125 + 2 = 127 := ⟨by decide +kernel, rfl⟩
theorem d_X10_play_127 : decode mX10_play.1 127 = .ok (.iconst (-1), 1) ∧ 127 + 1 = 128 := ⟨by decide +kernel, rfl⟩
theorem d_X10_play_128 : decode mX10_play.1 128 = .ok (.ixor, 1) ∧ 128 + 1 = 129 := ⟨by decide +kernel, rfl⟩
theorem d_X10_play_129 : decode mX10_play.1 129 = .ok (.iand, 1) ∧ 129 + 1 = 130 := ⟨by decide +kernel, rfl⟩
theorem d_X10_play_130 : decode mX10_play.1 130 = .ok (.istore_n 3, 1) ∧ 130 + 1 = 131 := ⟨by decide +kernel, rfl⟩
theorem d_X10_play_131 : decode mX10_play.1 131 = .ok (.iinc 4 1, 3) ∧ 131 + 3 = 134 := ⟨by decide +kernel, rfl⟩
theorem d_X10_play_134 : decode mX10_play.1 134 = .ok (.goto (-122), 3) ∧ ((134 : Nat) : Int) + (-122) = ((12 : Nat) : Int) := ⟨by decide +kernel, rfl⟩
set_option maxRecDepth 100000 in
set_option maxHeartbeats 4000000 in
theorem g_X10_play_L12 (l : Launch) (G : xa_C) (c0 c1 c2 : Int) (K : (Int × Int × xa_H) ⊕ (xa_H) → Option xa_O) (hb : ∀ (v3 : Int) (v4 : Int) (h : xa_H), xa_G l G 4 mX10_play (some (Sum.inl ((v3, v4, h)))) K 12 [some (xR c0), some (xR c1), some (xR c2), some (xI v3), some (xI v4), none, none, none] [] h) (hx : ∀ (h : xa_H), xa_G l G 4 mX10_play (some (Sum.inr h)) K 137 [none, none, none, none, none, none, none, none] [] h) : ∀ (v3 : Int) (v4 : Int) (h : xa_H), xa_G l G 4 mX10_play (f_X10_play_L12 c0 c1 c2 v3 v4 h) K 12 [some (xR c0), some (xR c1), some (xR c2), some (xI v3), some (xI v4), none, none, none] [] h := by
  intro v3 v4 h
  unfold f_X10_play_L12
  refine xa_step (xa_iload_n d_X10_play_12 rfl) ?_
  refine xa_if (xa_ifeq d_X10_play_13) (fun q2 => ?_) (fun q2 => ?_)
  · exact xa_weak (ls' := [none, none, none, none, none, none, none, none]) trivial (hx h)
  · refine xa_step (xa_iload d_X10_play_16 rfl) ?_
    refine xa_step (xa_bipush d_X10_play_18 xq_b_6) ?_
    refine xa_if (xa_icmpgt d_X10_play_20) (fun q3 => ?_) (fun q3 => ?_)
    · exact xa_weak (ls' := [none, none, none, none, none, none, none, none]) trivial (hx h)
    · refine xa_step (xa_aload_n d_X10_play_23 rfl) ?_
      refine xa_step (xa_aload_n d_X10_play_24 rfl) ?_
      refine xa_step (xa_aload_n d_X10_play_25 rfl) ?_
      refine xa_step (xa_iload_n d_X10_play_26 rfl) ?_
      refine xa_callVV (as := [xR c1, xR c2, xI v3]) (st := []) (M' := mX10_point) (d' := 3) rfl xw_1114 xw_1116 xw_49 xw_1117 xw_175 xh_X10_point rfl ⟨Nat.le_of_ble_eq_true rfl, Nat.le_of_ble_eq_true rfl⟩ (Nat.le_of_ble_eq_true rfl) rfl d_X10_play_27 (fun r hr => ct_X10_point l G c0 c1 c2 v3 h r hr) (fun r4 _ => ?_)
      refine xa_step (xa_iconst d_X10_play_30 xq_i_0) ?_
      refine xa_step (xa_istore (ls' := [some (xR c0), some (xR c1), some (xR c2), some (xI v3), some (xI v4), some (xI 0), none, none]) d_X10_play_31 (by decide) rfl) ?_
      refine xa_step (xa_iconst d_X10_play_33 xq_i_0) ?_
      refine xa_step (xa_istore (ls' := [some (xR c0), some (xR c1), some (xR c2), some (xI v3), some (xI v4), some (xI 0), some (xI 0), none]) d_X10_play_34 (by decide) rfl) ?_
      refine xa_weak (ls' := [some (xR c0), some (xR c1), some (xR c2), some (xI v3), some (xI v4), some (xI 0), some (xI 0), none]) ⟨rfl, rfl, rfl, rfl, rfl, rfl, rfl, trivial⟩ ?_
      refine xa_loop (f := fun s => f_X10_play_L36 c0 c1 c2 v3 v4 s.1 s.2.1 s.2.2) (L := fun s => [some (xR c0), some (xR c1), some (xR c2), some (xI v3), some (xI v4), some (xI s.1), some (xI s.2.1), none]) (P := fun s => s.2.2) (X := (fun x K => xa_G l G 4 mX10_play (some (Sum.inr x)) K 124 [some (xR c0), some (xR c1), some (xR c2), some (xI v3), some (xI v4), some (xI x.1), none, none] [] x.2)) (fun K hb hX s => g_X10_play_L36 l G c0 c1 c2 v3 v4 K (fun w0 w1 hh => hb ((w0, w1, hh))) (fun w0 hh => hX ((w0, hh))) s.1 s.2.1 s.2.2) ?_ xFU ((0, 0, r4))
      intro e20 K hK
      refine xa_eqE hK ?_
      show xa_G l G 4 mX10_play _ _ 124 [some (xR c0), some (xR c1), some (xR c2), some (xI v3), some (xI v4), some (xI e20.1), none, none] [] e20.2
      refine xa_step (xa_iload_n d_X10_play_124 rfl) ?_
      refine xa_step (xa_iload d_X10_play_125 rfl) ?_
      refine xa_step (xa_iconst d_X10_play_127 xq_i_m1) ?_
      refine xa_step (xa_ixor d_X10_play_128) ?_
      refine xa_step (xa_iand d_X10_play_129) ?_
      refine xa_step (xa_istore_n (ls' := [some (xR c0), some (xR c1), some (xR c2), some (xI (xand v3 (xxor e20.1 ((-1))))), some (xI v4), some (xI e20.1), none, none]) d_X10_play_130 (by decide) rfl) ?_
      refine xa_step (xa_iinc (ls' := [some (xR c0), some (xR c1), some (xR c2), some (xI (xand v3 (xxor e20.1 ((-1))))), some (xI (w32 (v4 + 1))), some (xI e20.1), none, none]) d_X10_play_131 xq_i_1 rfl (by decide) rfl) ?_
      refine xa_step (xa_goto d_X10_play_134) ?_
      exact xa_weak (ls' := [some (xR c0), some (xR c1), some (xR c2), some (xI (xand v3 (xxor e20.1 ((-1))))), some (xI (w32 (v4 + 1))), none, none, none]) ⟨rfl, rfl, rfl, rfl, rfl, trivial⟩ (hb (xand v3 (xxor e20.1 ((-1)))) (w32 (v4 + 1)) e20.2)
theorem d_X10_play_137 : decode mX10_play.1 137 = .ok (.return_, 1) := by decide +kernel
set_option maxRecDepth 100000 in
set_option maxHeartbeats 4000000 in
theorem g_X10_play (l : Launch) (G : xa_C) (v0 v1 v2 : Int) (h : xa_H) : xa_G l G 4 mX10_play (f_X10_play v0 v1 v2 h) (fun r => some (none, r) : xa_H → Option xa_O) 0 [some (xR v0), some (xR v1), some (xR v2), none, none, none, none, none] [] h := by
  unfold f_X10_play
  refine xa_step (xa_iconst d_X10_play_0 xq_i_1) ?_
  refine xa_step (xa_aload_n d_X10_play_1 rfl) ?_
  refine xa_getf xI xc_0 (by decide) (fun _ => rfl) xw_389 rfl d_X10_play_2 (fun x1 _ => ?_)
  refine xa_step (xa_ishl d_X10_play_5) ?_
  refine xa_step (xa_iconst d_X10_play_6 xq_i_1) ?_
  refine xa_step (xa_isub d_X10_play_7) ?_
  refine xa_step (xa_istore_n (ls' := [some (xR v0), some (xR v1), some (xR v2), some (xI (w32 ((xshl 1 x1) - 1))), none, none, none, none]) d_X10_play_8 (by decide) rfl) ?_
  refine xa_step (xa_iconst d_X10_play_9 xq_i_1) ?_
  refine xa_step (xa_istore (ls' := [some (xR v0), some (xR v1), some (xR v2), some (xI (w32 ((xshl 1 x1) - 1))), some (xI 1), none, none, none]) d_X10_play_10 (by decide) rfl) ?_
  refine xa_weak (ls' := [some (xR v0), some (xR v1), some (xR v2), some (xI (w32 ((xshl 1 x1) - 1))), some (xI 1), none, none, none]) ⟨rfl, rfl, rfl, rfl, rfl, trivial⟩ ?_
  refine xa_loop (f := fun s => f_X10_play_L12 v0 v1 v2 s.1 s.2.1 s.2.2) (L := fun s => [some (xR v0), some (xR v1), some (xR v2), some (xI s.1), some (xI s.2.1), none, none, none]) (P := fun s => s.2.2) (X := (fun x K => xa_G l G 4 mX10_play (some (Sum.inr x)) K 137 [none, none, none, none, none, none, none, none] [] x)) (fun K hb hX s => g_X10_play_L12 l G v0 v1 v2 K (fun w0 w1 hh => hb ((w0, w1, hh))) (fun hh => hX hh) s.1 s.2.1 s.2.2) ?_ xFU ((w32 ((xshl 1 x1) - 1), 1, h))
  intro e21 K hK
  refine xa_eqE hK ?_
  show xa_G l G 4 mX10_play _ _ 137 [none, none, none, none, none, none, none, none] [] e21
  exact xa_vret d_X10_play_137 rfl rfl
theorem ct_X10_play (l : Launch) (G : xa_C) (v0 v1 v2 : Int) (h : xa_H) (r : xa_H) (hr : f_X10_play v0 v1 v2 h = some r) : xa_CT l G 4 mX10_play yX10_play [xR v0, xR v1, xR v2] h (none, r) :=
  xa_met (by decide +kernel) rfl (fun q => by first | rfl | cases q) (Nat.le_of_ble_eq_true rfl) rfl (g_X10_play l G v0 v1 v2 h) (by rw [hr]; rfl)
abbrev mX11_trade : xa_M := (cX11_trade, 3, (some (.int)), RX11, false)
theorem d_X11_trade_0 : decode mX11_trade.1 0 = .ok (.aload_n 0, 1) ∧ 0 + 1 = 1 := ⟨by decide +kernel, rfl⟩
theorem d_X11_trade_1 : decode mX11_trade.1 1 = .ok (.iload_n 1, 1) ∧ 1 + 1 = 2 := ⟨by decide +kernel, rfl⟩
theorem d_X11_trade_2 : decode mX11_trade.1 2 = .ok (.invokevirtual 199, 3) ∧ 2 + 3 = 5 := ⟨by decide +kernel, rfl⟩
theorem d_X11_trade_5 : decode mX11_trade.1 5 = .ok (.ifCond .ne 5, 3) ∧ 5 + 3 = 8 ∧ ((5 : Nat) : Int) + 5 = ((10 : Nat) : Int) := ⟨by decide +kernel, rfl, rfl⟩
theorem d_X11_trade_8 : decode mX11_trade.1 8 = .ok (.iconst (-1), 1) ∧ 8 + 1 = 9 := ⟨by decide +kernel, rfl⟩
theorem d_X11_trade_9 : decode mX11_trade.1 9 = .ok (.ireturn, 1) := by decide +kernel
theorem d_X11_trade_10 : decode mX11_trade.1 10 = .ok (.aload_n 0, 1) ∧ 10 + 1 = 11 := ⟨by decide +kernel, rfl⟩
theorem d_X11_trade_11 : decode mX11_trade.1 11 = .ok (.getfield 85, 3) ∧ 11 + 3 = 14 := ⟨by decide +kernel, rfl⟩
theorem d_X11_trade_14 : decode mX11_trade.1 14 = .ok (.aload_n 0, 1) ∧ 14 + 1 = 15 := ⟨by decide +kernel, rfl⟩
theorem d_X11_trade_15 : decode mX11_trade.1 15 = .ok (.getfield 47, 3) ∧ 15 + 3 = 18 := ⟨by decide +kernel, rfl⟩
theorem d_X11_trade_18 : decode mX11_trade.1 18 = .ok (.aload_n 0, 1) ∧ 18 + 1 = 19 := ⟨by decide +kernel, rfl⟩
theorem d_X11_trade_19 : decode mX11_trade.1 19 = .ok (.getfield 54, 3) ∧ 19 + 3 = 22 := ⟨by decide +kernel, rfl⟩
theorem d_X11_trade_22 : decode mX11_trade.1 22 = .ok (.invokevirtual 278, 3) ∧ 22 + 3 = 25 := ⟨by decide +kernel, rfl⟩
theorem d_X11_trade_25 : decode mX11_trade.1 25 = .ok (.iload_n 2, 1) ∧ 25 + 1 = 26 := ⟨by decide +kernel, rfl⟩
theorem d_X11_trade_26 : decode mX11_trade.1 26 = .ok (.tableswitch 56 0 2 #[26, 36, 46], 26) := by decide +kernel
theorem d_X11_trade_52 : decode mX11_trade.1 52 = .ok (.aload_n 0, 1) ∧ 52 + 1 = 53 := ⟨by decide +kernel, rfl⟩
theorem d_X11_trade_53 : decode mX11_trade.1 53 = .ok (.getfield 85, 3) ∧ 53 + 3 = 56 := ⟨by decide +kernel, rfl⟩
theorem d_X11_trade_56 : decode mX11_trade.1 56 = .ok (.getfield 281, 3) ∧ 56 + 3 = 59 := ⟨by decide +kernel, rfl⟩
theorem d_X11_trade_59 : decode mX11_trade.1 59 = .ok (.iload_n 1, 1) ∧ 59 + 1 = 60 := ⟨by decide +kernel, rfl⟩
theorem d_X11_trade_60 : decode mX11_trade.1 60 = .ok (.iaload, 1) ∧ 60 + 1 = 61 := ⟨by decide +kernel, rfl⟩
theorem d_X11_trade_61 : decode mX11_trade.1 61 = .ok (.ireturn, 1) := by decide +kernel
theorem d_X11_trade_62 : decode mX11_trade.1 62 = .ok (.aload_n 0, 1) ∧ 62 + 1 = 63 := ⟨by decide +kernel, rfl⟩
theorem d_X11_trade_63 : decode mX11_trade.1 63 = .ok (.getfield 85, 3) ∧ 63 + 3 = 66 := ⟨by decide +kernel, rfl⟩
theorem d_X11_trade_66 : decode mX11_trade.1 66 = .ok (.getfield 284, 3) ∧ 66 + 3 = 69 := ⟨by decide +kernel, rfl⟩
theorem d_X11_trade_69 : decode mX11_trade.1 69 = .ok (.iload_n 1, 1) ∧ 69 + 1 = 70 := ⟨by decide +kernel, rfl⟩
theorem d_X11_trade_70 : decode mX11_trade.1 70 = .ok (.iaload, 1) ∧ 70 + 1 = 71 := ⟨by decide +kernel, rfl⟩
theorem d_X11_trade_71 : decode mX11_trade.1 71 = .ok (.ireturn, 1) := by decide +kernel
theorem d_X11_trade_72 : decode mX11_trade.1 72 = .ok (.aload_n 0, 1) ∧ 72 + 1 = 73 := ⟨by decide +kernel, rfl⟩
theorem d_X11_trade_73 : decode mX11_trade.1 73 = .ok (.getfield 85, 3) ∧ 73 + 3 = 76 := ⟨by decide +kernel, rfl⟩
theorem d_X11_trade_76 : decode mX11_trade.1 76 = .ok (.getfield 287, 3) ∧ 76 + 3 = 79 := ⟨by decide +kernel, rfl⟩
theorem d_X11_trade_79 : decode mX11_trade.1 79 = .ok (.iload_n 1, 1) ∧ 79 + 1 = 80 := ⟨by decide +kernel, rfl⟩
theorem d_X11_trade_80 : decode mX11_trade.1 80 = .ok (.iaload, 1) ∧ 80 + 1 = 81 := ⟨by decide +kernel, rfl⟩
theorem d_X11_trade_81 : decode mX11_trade.1 81 = .ok (.ireturn, 1) := by decide +kernel
theorem d_X11_trade_82 : decode mX11_trade.1 82 = .ok (.iconst (-1), 1) ∧ 82 + 1 = 83 := ⟨by decide +kernel, rfl⟩
theorem d_X11_trade_83 : decode mX11_trade.1 83 = .ok (.ireturn, 1) := by decide +kernel
set_option maxRecDepth 100000 in
set_option maxHeartbeats 4000000 in
theorem g_X11_trade (l : Launch) (G : xa_C) (v0 v1 v2 : Int) (h : xa_H) : xa_G l G 5 mX11_trade (f_X11_trade v0 v1 v2 h) (fun r => some (some (xI r.1), r.2) : (Int × xa_H) → Option xa_O) 0 [some (xR v0), some (xI v1), some (xI v2)] [] h := by
  unfold f_X11_trade
  refine xa_step (xa_aload_n d_X11_trade_0 rfl) ?_
  refine xa_step (xa_iload_n d_X11_trade_1 rfl) ?_
  refine xa_callVi (as := [xI v1]) (st := []) (M' := mX11_isHolder) (d' := 2) rfl xw_921 xw_923 xw_33 xw_924 xw_161 xh_X11_isHolder rfl ⟨Nat.le_of_ble_eq_true rfl, Nat.le_of_ble_eq_true rfl⟩ (Nat.le_of_ble_eq_true rfl) rfl d_X11_trade_2 (fun r hr => ct_X11_isHolder l G v0 v1 h r hr) (fun r1 _ => ?_)
  refine xa_if (xa_ifne d_X11_trade_5) (fun q2 => ?_) (fun q2 => ?_)
  · refine xa_step (xa_iconst d_X11_trade_8 xq_i_m1) ?_
    exact xa_iret d_X11_trade_9 rfl rfl
  · refine xa_step (xa_aload_n d_X11_trade_10 rfl) ?_
    refine xa_getf xR xc_11 (by decide) (fun _ => rfl) xw_595 rfl d_X11_trade_11 (fun x3 _ => ?_)
    refine xa_step (xa_aload_n d_X11_trade_14 rfl) ?_
    refine xa_getf xR xc_11 (by decide) (fun _ => rfl) xw_589 rfl d_X11_trade_15 (fun x4 _ => ?_)
    refine xa_step (xa_aload_n d_X11_trade_18 rfl) ?_
    refine xa_getf xR xc_11 (by decide) (fun _ => rfl) xw_590 rfl d_X11_trade_19 (fun x5 _ => ?_)
    refine xa_callVV (as := [xR x4, xR x5]) (st := []) (M' := mX10_play) (d' := 4) rfl xw_1110 xw_1111 xw_1112 xw_1113 xw_175 xh_X10_play rfl ⟨Nat.le_of_ble_eq_true rfl, Nat.le_of_ble_eq_true rfl⟩ (Nat.le_of_ble_eq_true rfl) rfl d_X11_trade_22 (fun r hr => ct_X10_play l G x3 x4 x5 h r hr) (fun r6 _ => ?_)
    refine xa_step (xa_iload_n d_X11_trade_25 rfl) ?_
    refine xa_case (fun q7 => ?_) (fun q7 => ?_)
    · refine xa_step (xa_tabIn (k := 0) d_X11_trade_26 q7 (by decide) (by decide) rfl rfl) ?_
      refine xa_step (xa_aload_n d_X11_trade_52 rfl) ?_
      refine xa_getf xR xc_11 (by decide) (fun _ => rfl) xw_595 rfl d_X11_trade_53 (fun x8 _ => ?_)
      refine xa_getf xR xc_10 (by decide) (fun _ => rfl) xw_544 rfl d_X11_trade_56 (fun x9 _ => ?_)
      refine xa_step (xa_iload_n d_X11_trade_59 rfl) ?_
      refine xa_iaload d_X11_trade_60 (fun x10 _ => ?_)
      exact xa_iret d_X11_trade_61 rfl rfl
    · refine xa_case (fun q11 => ?_) (fun q11 => ?_)
      · refine xa_step (xa_tabIn (k := 1) d_X11_trade_26 q11 (by decide) (by decide) rfl rfl) ?_
        refine xa_step (xa_aload_n d_X11_trade_62 rfl) ?_
        refine xa_getf xR xc_11 (by decide) (fun _ => rfl) xw_595 rfl d_X11_trade_63 (fun x12 _ => ?_)
        refine xa_getf xR xc_10 (by decide) (fun _ => rfl) xw_546 rfl d_X11_trade_66 (fun x13 _ => ?_)
        refine xa_step (xa_iload_n d_X11_trade_69 rfl) ?_
        refine xa_iaload d_X11_trade_70 (fun x14 _ => ?_)
        exact xa_iret d_X11_trade_71 rfl rfl
      · refine xa_case (fun q15 => ?_) (fun q15 => ?_)
        · refine xa_step (xa_tabIn (k := 2) d_X11_trade_26 q15 (by decide) (by decide) rfl rfl) ?_
          refine xa_step (xa_aload_n d_X11_trade_72 rfl) ?_
          refine xa_getf xR xc_11 (by decide) (fun _ => rfl) xw_595 rfl d_X11_trade_73 (fun x16 _ => ?_)
          refine xa_getf xR xc_10 (by decide) (fun _ => rfl) xw_548 rfl d_X11_trade_76 (fun x17 _ => ?_)
          refine xa_step (xa_iload_n d_X11_trade_79 rfl) ?_
          refine xa_iaload d_X11_trade_80 (fun x18 _ => ?_)
          exact xa_iret d_X11_trade_81 rfl rfl
        · refine xa_step (xa_tabOut d_X11_trade_26 (by omega) rfl) ?_
          refine xa_step (xa_iconst d_X11_trade_82 xq_i_m1) ?_
          exact xa_iret d_X11_trade_83 rfl rfl
theorem ct_X11_trade (l : Launch) (G : xa_C) (v0 v1 v2 : Int) (h : xa_H) (r : Int × xa_H) (hr : f_X11_trade v0 v1 v2 h = some r) : xa_CT l G 5 mX11_trade yX11_trade [xR v0, xI v1, xI v2] h (some (xI r.1), r.2) :=
  xa_met (by decide +kernel) rfl (fun q => by first | rfl | cases q) (Nat.le_of_ble_eq_true rfl) rfl (g_X11_trade l G v0 v1 v2 h) (by rw [hr]; rfl)
abbrev mX4_recall : xa_M := (cX4_recall, 2, (some (.boolean)), RX4, false)
theorem d_X4_recall_0 : decode mX4_recall.1 0 = .ok (.aload_n 0, 1) ∧ 0 + 1 = 1 := ⟨by decide +kernel, rfl⟩
theorem d_X4_recall_1 : decode mX4_recall.1 1 = .ok (.getfield 21, 3) ∧ 1 + 3 = 4 := ⟨by decide +kernel, rfl⟩
theorem d_X4_recall_4 : decode mX4_recall.1 4 = .ok (.ifCond .ne 5, 3) ∧ 4 + 3 = 7 ∧ ((4 : Nat) : Int) + 5 = ((9 : Nat) : Int) := ⟨by decide +kernel, rfl, rfl⟩
theorem d_X4_recall_7 : decode mX4_recall.1 7 = .ok (.iconst 0, 1) ∧ 7 + 1 = 8 := ⟨by decide +kernel, rfl⟩
theorem d_X4_recall_8 : decode mX4_recall.1 8 = .ok (.ireturn, 1) := by decide +kernel
theorem d_X4_recall_9 : decode mX4_recall.1 9 = .ok (.aload_n 0, 1) ∧ 9 + 1 = 10 := ⟨by decide +kernel, rfl⟩
theorem d_X4_recall_10 : decode mX4_recall.1 10 = .ok (.aload_n 0, 1) ∧ 10 + 1 = 11 := ⟨by decide +kernel, rfl⟩
theorem d_X4_recall_11 : decode mX4_recall.1 11 = .ok (.getfield 17, 3) ∧ 11 + 3 = 14 := ⟨by decide +kernel, rfl⟩
theorem d_X4_recall_14 : decode mX4_recall.1 14 = .ok (.bipush 20, 2) ∧ 14 + 2 = 16 := ⟨by decide +kernel, rfl⟩
theorem d_X4_recall_16 : decode mX4_recall.1 16 = .ok (.iadd, 1) ∧ 16 + 1 = 17 := ⟨by decide +kernel, rfl⟩
theorem d_X4_recall_17 : decode mX4_recall.1 17 = .ok (.iconst 1, 1) ∧ 17 + 1 = 18 := ⟨by decide +kernel, rfl⟩
theorem d_X4_recall_18 : decode mX4_recall.1 18 = .ok (.isub, 1) ∧ 18 + 1 = 19 := ⟨by decide +kernel, rfl⟩
theorem d_X4_recall_19 : decode mX4_recall.1 19 = .ok (.bipush 20, 2) ∧ 19 + 2 = 21 := ⟨by decide +kernel, rfl⟩
theorem d_X4_recall_21 : decode mX4_recall.1 21 = .ok (.irem, 1) ∧ 21 + 1 = 22 := ⟨by decide +kernel, rfl⟩
theorem d_X4_recall_22 : decode mX4_recall.1 22 = .ok (.putfield 17, 3) ∧ 22 + 3 = 25 := ⟨by decide +kernel, rfl⟩
theorem d_X4_recall_25 : decode mX4_recall.1 25 = .ok (.aload_n 0, 1) ∧ 25 + 1 = 26 := ⟨by decide +kernel, rfl⟩
theorem d_X4_recall_26 : decode mX4_recall.1 26 = .ok (.dup, 1) ∧ 26 + 1 = 27 := ⟨by decide +kernel, rfl⟩
theorem d_X4_recall_27 : decode mX4_recall.1 27 = .ok (.getfield 21, 3) ∧ 27 + 3 = 30 := ⟨by decide +kernel, rfl⟩
theorem d_X4_recall_30 : decode mX4_recall.1 30 = .ok (.iconst 1, 1) ∧ 30 + 1 = 31 := ⟨by decide +kernel, rfl⟩
theorem d_X4_recall_31 : decode mX4_recall.1 31 = .ok (.isub, 1) ∧ 31 + 1 = 32 := ⟨by decide +kernel, rfl⟩
theorem d_X4_recall_32 : decode mX4_recall.1 32 = .ok (.putfield 21, 3) ∧ 32 + 3 = 35 := ⟨by decide +kernel, rfl⟩
theorem d_X4_recall_35 : decode mX4_recall.1 35 = .ok (.aload_n 1, 1) ∧ 35 + 1 = 36 := ⟨by decide +kernel, rfl⟩
theorem d_X4_recall_36 : decode mX4_recall.1 36 = .ok (.aload_n 0, 1) ∧ 36 + 1 = 37 := ⟨by decide +kernel, rfl⟩
theorem d_X4_recall_37 : decode mX4_recall.1 37 = .ok (.getfield 11, 3) ∧ 37 + 3 = 40 := ⟨by decide +kernel, rfl⟩
theorem d_X4_recall_40 : decode mX4_recall.1 40 = .ok (.aload_n 0, 1) ∧ 40 + 1 = 41 := ⟨by decide +kernel, rfl⟩
theorem d_X4_recall_41 : decode mX4_recall.1 41 = .ok (.getfield 17, 3) ∧ 41 + 3 = 44 := ⟨by decide +kernel, rfl⟩
theorem d_X4_recall_44 : decode mX4_recall.1 44 = .ok (.aaload, 1) ∧ 44 + 1 = 45 := ⟨by decide +kernel, rfl⟩
theorem d_X4_recall_45 : decode mX4_recall.1 45 = .ok (.invokevirtual 25, 3) ∧ 45 + 3 = 48 := ⟨by decide +kernel, rfl⟩
theorem d_X4_recall_48 : decode mX4_recall.1 48 = .ok (.iconst 1, 1) ∧ 48 + 1 = 49 := ⟨by decide +kernel, rfl⟩
theorem d_X4_recall_49 : decode mX4_recall.1 49 = .ok (.ireturn, 1) := by decide +kernel
set_option maxRecDepth 100000 in
set_option maxHeartbeats 4000000 in
theorem g_X4_recall (l : Launch) (G : xa_C) (v0 v1 : Int) (h : xa_H) : xa_G l G 3 mX4_recall (f_X4_recall v0 v1 h) (fun r => some (some (xI r.1), r.2) : (Int × xa_H) → Option xa_O) 0 [some (xR v0), some (xR v1)] [] h := by
  unfold f_X4_recall
  refine xa_step (xa_aload_n d_X4_recall_0 rfl) ?_
  refine xa_getf xI xc_4 (by decide) (fun _ => rfl) xw_463 rfl d_X4_recall_1 (fun x1 _ => ?_)
  refine xa_if (xa_ifne d_X4_recall_4) (fun q2 => ?_) (fun q2 => ?_)
  · refine xa_step (xa_iconst d_X4_recall_7 xq_i_0) ?_
    exact xa_zret d_X4_recall_8 rfl (Or.inl rfl) rfl
  · refine xa_step (xa_aload_n d_X4_recall_9 rfl) ?_
    refine xa_step (xa_aload_n d_X4_recall_10 rfl) ?_
    refine xa_getf xI xc_4 (by decide) (fun _ => rfl) xw_462 rfl d_X4_recall_11 (fun x3 _ => ?_)
    refine xa_step (xa_bipush d_X4_recall_14 xq_b_20) ?_
    refine xa_step (xa_iadd d_X4_recall_16) ?_
    refine xa_step (xa_iconst d_X4_recall_17 xq_i_1) ?_
    refine xa_step (xa_isub d_X4_recall_18) ?_
    refine xa_step (xa_bipush d_X4_recall_19 xq_b_20) ?_
    refine xa_step (xa_irem d_X4_recall_21 (by decide)) ?_
    refine xa_putf2 (tg := xI) xc_4 (by decide) (fun _ => rfl) rfl (fun c hc => xa_fitI c hc) xw_462 rfl d_X4_recall_22 (fun h4 _ => ?_)
    refine xa_step (xa_aload_n d_X4_recall_25 rfl) ?_
    refine xa_step (xa_dup d_X4_recall_26 (xa_tR _)) ?_
    refine xa_getf xI xc_4 (by decide) (fun _ => rfl) xw_463 rfl d_X4_recall_27 (fun x5 _ => ?_)
    refine xa_step (xa_iconst d_X4_recall_30 xq_i_1) ?_
    refine xa_step (xa_isub d_X4_recall_31) ?_
    refine xa_putf2 (tg := xI) xc_4 (by decide) (fun _ => rfl) rfl (fun c hc => xa_fitI c hc) xw_463 rfl d_X4_recall_32 (fun h6 _ => ?_)
    refine xa_step (xa_aload_n d_X4_recall_35 rfl) ?_
    refine xa_step (xa_aload_n d_X4_recall_36 rfl) ?_
    refine xa_getf xR xc_4 (by decide) (fun _ => rfl) xw_461 rfl d_X4_recall_37 (fun x7 _ => ?_)
    refine xa_step (xa_aload_n d_X4_recall_40 rfl) ?_
    refine xa_getf xI xc_4 (by decide) (fun _ => rfl) xw_462 rfl d_X4_recall_41 (fun x8 _ => ?_)
    refine xa_aaload_4 d_X4_recall_44 (fun x9 _ => ?_)
    refine xa_callVV (as := [xR x9]) (st := []) (M' := mX9_copyFrom) (d' := 2) rfl xw_1193 xw_874 xw_875 xw_876 xw_170 xh_X9_copyFrom rfl ⟨Nat.le_of_ble_eq_true rfl, Nat.le_of_ble_eq_true rfl⟩ (Nat.le_of_ble_eq_true rfl) rfl d_X4_recall_45 (fun r hr => ct_X9_copyFrom l G v1 x9 h6 r hr) (fun r10 _ => ?_)
    refine xa_step (xa_iconst d_X4_recall_48 xq_i_1) ?_
    exact xa_zret d_X4_recall_49 rfl (Or.inr rfl) rfl
theorem ct_X4_recall (l : Launch) (G : xa_C) (v0 v1 : Int) (h : xa_H) (r : Int × xa_H) (hr : f_X4_recall v0 v1 h = some r) : xa_CT l G 3 mX4_recall yX4_recall [xR v0, xR v1] h (some (xI r.1), r.2) :=
  xa_met (by decide +kernel) rfl (fun q => by first | rfl | cases q) (Nat.le_of_ble_eq_true rfl) rfl (g_X4_recall l G v0 v1 h) (by rw [hr]; rfl)
abbrev mX11_undo : xa_M := (cX11_undo, 1, (some (.boolean)), RX11, false)
theorem d_X11_undo_0 : decode mX11_undo.1 0 = .ok (.aload_n 0, 1) ∧ 0 + 1 = 1 := ⟨by decide +kernel, rfl⟩
theorem d_X11_undo_1 : decode mX11_undo.1 1 = .ok (.getfield 61, 3) ∧ 1 + 3 = 4 := ⟨by decide +kernel, rfl⟩
theorem d_X11_undo_4 : decode mX11_undo.1 4 = .ok (.aload_n 0, 1) ∧ 4 + 1 = 5 := ⟨by decide +kernel, rfl⟩
theorem d_X11_undo_5 : decode mX11_undo.1 5 = .ok (.getfield 54, 3) ∧ 5 + 3 = 8 := ⟨by decide +kernel, rfl⟩
theorem d_X11_undo_8 : decode mX11_undo.1 8 = .ok (.invokevirtual 334, 3) ∧ 8 + 3 = 11 := ⟨by decide +kernel, rfl⟩
theorem d_X11_undo_11 : decode mX11_undo.1 11 = .ok (.ifCond .ne 11, 3) ∧ 11 + 3 = 14 ∧ ((11 : Nat) : Int) + 11 = ((22 : Nat) : Int) := ⟨by decide +kernel, rfl, rfl⟩
theorem d_X11_undo_14 : decode mX11_undo.1 14 = .ok (.aload_n 0, 1) ∧ 14 + 1 = 15 := ⟨by decide +kernel, rfl⟩
theorem d_X11_undo_15 : decode mX11_undo.1 15 = .ok (.iconst 4, 1) ∧ 15 + 1 = 16 := ⟨by decide +kernel, rfl⟩
theorem d_X11_undo_16 : decode mX11_undo.1 16 = .ok (.invokevirtual 118, 3) ∧ 16 + 3 = 19 := ⟨by decide +kernel, rfl⟩
theorem d_X11_undo_19 : decode mX11_undo.1 19 = .ok (.pop, 1) ∧ 19 + 1 = 20 := ⟨by decide +kernel, rfl⟩
theorem d_X11_undo_20 : decode mX11_undo.1 20 = .ok (.iconst 0, 1) ∧ 20 + 1 = 21 := ⟨by decide +kernel, rfl⟩
theorem d_X11_undo_21 : decode mX11_undo.1 21 = .ok (.ireturn, 1) := by decide +kernel
theorem d_X11_undo_22 : decode mX11_undo.1 22 = .ok (.iconst 1, 1) ∧ 22 + 1 = 23 := ⟨by decide +kernel, rfl⟩
theorem d_X11_undo_23 : decode mX11_undo.1 23 = .ok (.ireturn, 1) := by decide +kernel
set_option maxRecDepth 100000 in
set_option maxHeartbeats 4000000 in
theorem g_X11_undo (l : Launch) (G : xa_C) (v0 : Int) (h : xa_H) : xa_G l G 4 mX11_undo (f_X11_undo v0 h) (fun r => some (some (xI r.1), r.2) : (Int × xa_H) → Option xa_O) 0 [some (xR v0)] [] h := by
  unfold f_X11_undo
  refine xa_step (xa_aload_n d_X11_undo_0 rfl) ?_
  refine xa_getf xR xc_11 (by decide) (fun _ => rfl) xw_591 rfl d_X11_undo_1 (fun x1 _ => ?_)
  refine xa_step (xa_aload_n d_X11_undo_4 rfl) ?_
  refine xa_getf xR xc_11 (by decide) (fun _ => rfl) xw_590 rfl d_X11_undo_5 (fun x2 _ => ?_)
  refine xa_callVI (as := [xR x2]) (st := []) (M' := mX4_recall) (d' := 3) rfl xw_1229 xw_1230 xw_1231 xw_1232 xw_172 xh_X4_recall rfl ⟨Nat.le_of_ble_eq_true rfl, Nat.le_of_ble_eq_true rfl⟩ (Nat.le_of_ble_eq_true rfl) rfl d_X11_undo_8 (fun r hr => ct_X4_recall l G x1 x2 h r hr) (fun r3 _ => ?_)
  refine xa_if (xa_ifne d_X11_undo_11) (fun q4 => ?_) (fun q4 => ?_)
  · refine xa_step (xa_aload_n d_X11_undo_14 rfl) ?_
    refine xa_step (xa_iconst d_X11_undo_15 xq_i_4) ?_
    refine xa_callVI (as := [xI 4]) (st := []) (M' := mX11_refuse) (d' := 2) rfl xw_646 xw_648 xw_2 xw_649 xw_161 xh_X11_refuse rfl ⟨Nat.le_of_ble_eq_true rfl, Nat.le_of_ble_eq_true rfl⟩ (Nat.le_of_ble_eq_true rfl) rfl d_X11_undo_16 (fun r hr => ct_X11_refuse l G v0 4 r3.2 r hr) (fun r5 _ => ?_)
    refine xa_step (xa_pop d_X11_undo_19) ?_
    refine xa_step (xa_iconst d_X11_undo_20 xq_i_0) ?_
    exact xa_zret d_X11_undo_21 rfl (Or.inl rfl) rfl
  · refine xa_step (xa_iconst d_X11_undo_22 xq_i_1) ?_
    exact xa_zret d_X11_undo_23 rfl (Or.inr rfl) rfl
theorem ct_X11_undo (l : Launch) (G : xa_C) (v0 : Int) (h : xa_H) (r : Int × xa_H) (hr : f_X11_undo v0 h = some r) : xa_CT l G 4 mX11_undo yX11_undo [xR v0] h (some (xI r.1), r.2) :=
  xa_met (by decide +kernel) rfl (fun q => by first | rfl | cases q) (Nat.le_of_ble_eq_true rfl) rfl (g_X11_undo l G v0 h) (by rw [hr]; rfl)
abbrev mX11_values : xa_M := (cX11_values, 3, (some (.int)), RX11, false)
theorem d_X11_values_0 : decode mX11_values.1 0 = .ok (.aload_n 0, 1) ∧ 0 + 1 = 1 := ⟨by decide +kernel, rfl⟩
theorem d_X11_values_1 : decode mX11_values.1 1 = .ok (.iload_n 1, 1) ∧ 1 + 1 = 2 := ⟨by decide +kernel, rfl⟩
theorem d_X11_values_2 : decode mX11_values.1 2 = .ok (.invokevirtual 199, 3) ∧ 2 + 3 = 5 := ⟨by decide +kernel, rfl⟩
theorem d_X11_values_5 : decode mX11_values.1 5 = .ok (.ifCond .eq 23, 3) ∧ 5 + 3 = 8 ∧ ((5 : Nat) : Int) + 23 = ((28 : Nat) : Int) := ⟨by decide +kernel, rfl, rfl⟩
theorem d_X11_values_28 : decode mX11_values.1 28 = .ok (.iconst (-1), 1) ∧ 28 + 1 = 29 := ⟨by decide +kernel, rfl⟩
theorem d_X11_values_29 : decode mX11_values.1 29 = .ok (.ireturn, 1) := by decide +kernel
theorem d_X11_values_8 : decode mX11_values.1 8 = .ok (.aload_n 0, 1) ∧ 8 + 1 = 9 := ⟨by decide +kernel, rfl⟩
theorem d_X11_values_9 : decode mX11_values.1 9 = .ok (.iload_n 2, 1) ∧ 9 + 1 = 10 := ⟨by decide +kernel, rfl⟩
theorem d_X11_values_10 : decode mX11_values.1 10 = .ok (.invokevirtual 188, 3) ∧ 10 + 3 = 13 := ⟨by decide +kernel, rfl⟩
theorem d_X11_values_13 : decode mX11_values.1 13 = .ok (.ifCond .eq 15, 3) ∧ 13 + 3 = 16 ∧ ((13 : Nat) : Int) + 15 = ((28 : Nat) : Int) := ⟨by decide +kernel, rfl, rfl⟩
theorem d_X11_values_16 : decode mX11_values.1 16 = .ok (.aload_n 0, 1) ∧ 16 + 1 = 17 := ⟨by decide +kernel, rfl⟩
theorem d_X11_values_17 : decode mX11_values.1 17 = .ok (.getfield 47, 3) ∧ 17 + 3 = 20 := ⟨by decide +kernel, rfl⟩
theorem d_X11_values_20 : decode mX11_values.1 20 = .ok (.iload_n 1, 1) ∧ 20 + 1 = 21 := ⟨by decide +kernel, rfl⟩
theorem d_X11_values_21 : decode mX11_values.1 21 = .ok (.iload_n 2, 1) ∧ 21 + 1 = 22 := ⟨by decide +kernel, rfl⟩
theorem d_X11_values_22 : decode mX11_values.1 22 = .ok (.invokevirtual 232, 3) ∧ 22 + 3 = 25 := ⟨by decide +kernel, rfl⟩
theorem d_X11_values_25 : decode mX11_values.1 25 = .ok (.goto 4, 3) ∧ ((25 : Nat) : Int) + 4 = ((29 : Nat) : Int) := ⟨by decide +kernel, rfl⟩
set_option maxRecDepth 100000 in
set_option maxHeartbeats 4000000 in
theorem g_X11_values (l : Launch) (G : xa_C) (v0 v1 v2 : Int) (h : xa_H) : xa_G l G 3 mX11_values (f_X11_values v0 v1 v2 h) (fun r => some (some (xI r), h) : Int → Option xa_O) 0 [some (xR v0), some (xI v1), some (xI v2)] [] h := by
  unfold f_X11_values
  refine xa_step (xa_aload_n d_X11_values_0 rfl) ?_
  refine xa_step (xa_iload_n d_X11_values_1 rfl) ?_
  refine xa_callVi (as := [xI v1]) (st := []) (M' := mX11_isHolder) (d' := 2) rfl xw_921 xw_923 xw_33 xw_924 xw_161 xh_X11_isHolder rfl ⟨Nat.le_of_ble_eq_true rfl, Nat.le_of_ble_eq_true rfl⟩ (Nat.le_of_ble_eq_true rfl) rfl d_X11_values_2 (fun r hr => ct_X11_isHolder l G v0 v1 h r hr) (fun r1 _ => ?_)
  refine xa_if (xa_ifeq d_X11_values_5) (fun q2 => ?_) (fun q2 => ?_)
  · refine xa_step (xa_iconst d_X11_values_28 xq_i_m1) ?_
    exact xa_iret d_X11_values_29 rfl rfl
  · refine xa_step (xa_aload_n d_X11_values_8 rfl) ?_
    refine xa_step (xa_iload_n d_X11_values_9 rfl) ?_
    refine xa_callVi (as := [xI v2]) (st := []) (M' := mX11_isHeld) (d' := 2) rfl xw_914 xw_916 xw_32 xw_917 xw_161 xh_X11_isHeld rfl ⟨Nat.le_of_ble_eq_true rfl, Nat.le_of_ble_eq_true rfl⟩ (Nat.le_of_ble_eq_true rfl) rfl d_X11_values_10 (fun r hr => ct_X11_isHeld l G v0 v2 h r hr) (fun r3 _ => ?_)
    refine xa_if (xa_ifeq d_X11_values_13) (fun q4 => ?_) (fun q4 => ?_)
    · refine xa_step (xa_iconst d_X11_values_28 xq_i_m1) ?_
      exact xa_iret d_X11_values_29 rfl rfl
    · refine xa_step (xa_aload_n d_X11_values_16 rfl) ?_
      refine xa_getf xR xc_11 (by decide) (fun _ => rfl) xw_589 rfl d_X11_values_17 (fun x5 _ => ?_)
      refine xa_step (xa_iload_n d_X11_values_20 rfl) ?_
      refine xa_step (xa_iload_n d_X11_values_21 rfl) ?_
      refine xa_callVi (as := [xI v1, xI v2]) (st := []) (M' := mX0_valueOf) (d' := 2) rfl xw_906 xw_907 xw_908 xw_909 xw_169 xh_X0_valueOf rfl ⟨Nat.le_of_ble_eq_true rfl, Nat.le_of_ble_eq_true rfl⟩ (Nat.le_of_ble_eq_true rfl) rfl d_X11_values_22 (fun r hr => ct_X0_valueOf l G x5 v1 v2 h r hr) (fun r6 _ => ?_)
      refine xa_step (xa_goto d_X11_values_25) ?_
      exact xa_iret d_X11_values_29 rfl rfl
theorem ct_X11_values (l : Launch) (G : xa_C) (v0 v1 v2 : Int) (h : xa_H) (r : Int) (hr : f_X11_values v0 v1 v2 h = some r) : xa_CT l G 3 mX11_values yX11_values [xR v0, xI v1, xI v2] h (some (xI r), h) :=
  xa_met (by decide +kernel) rfl (fun q => by first | rfl | cases q) (Nat.le_of_ble_eq_true rfl) rfl (g_X11_values l G v0 v1 v2 h) (by rw [hr]; rfl)
abbrev mX11_want : xa_M := (cX11_want, 3, (some (.boolean)), RX11, false)
theorem d_X11_want_0 : decode mX11_want.1 0 = .ok (.aload_n 0, 1) ∧ 0 + 1 = 1 := ⟨by decide +kernel, rfl⟩
theorem d_X11_want_1 : decode mX11_want.1 1 = .ok (.iload_n 1, 1) ∧ 1 + 1 = 2 := ⟨by decide +kernel, rfl⟩
theorem d_X11_want_2 : decode mX11_want.1 2 = .ok (.invokevirtual 199, 3) ∧ 2 + 3 = 5 := ⟨by decide +kernel, rfl⟩
theorem d_X11_want_5 : decode mX11_want.1 5 = .ok (.ifCond .eq 24, 3) ∧ 5 + 3 = 8 ∧ ((5 : Nat) : Int) + 24 = ((29 : Nat) : Int) := ⟨by decide +kernel, rfl, rfl⟩
theorem d_X11_want_29 : decode mX11_want.1 29 = .ok (.aload_n 0, 1) ∧ 29 + 1 = 30 := ⟨by decide +kernel, rfl⟩
theorem d_X11_want_30 : decode mX11_want.1 30 = .ok (.iconst 2, 1) ∧ 30 + 1 = 31 := ⟨by decide +kernel, rfl⟩
theorem d_X11_want_31 : decode mX11_want.1 31 = .ok (.invokevirtual 118, 3) ∧ 31 + 3 = 34 := ⟨by decide +kernel, rfl⟩
theorem d_X11_want_34 : decode mX11_want.1 34 = .ok (.pop, 1) ∧ 34 + 1 = 35 := ⟨by decide +kernel, rfl⟩
theorem d_X11_want_35 : decode mX11_want.1 35 = .ok (.iconst 0, 1) ∧ 35 + 1 = 36 := ⟨by decide +kernel, rfl⟩
theorem d_X11_want_36 : decode mX11_want.1 36 = .ok (.ireturn, 1) := by decide +kernel
set_option maxRecDepth 100000 in
set_option maxHeartbeats 4000000 in
theorem g_X11_want_J29 (l : Launch) (G : xa_C) : ∀ (v0 : Int) (h : xa_H) , xa_G l G 4 mX11_want (f_X11_want_J29 v0 h) (fun r => some (some (xI r.1), r.2) : (Int × xa_H) → Option xa_O) 29 [some (xR v0), none, none] [] h := by
  intro v0 h
  unfold f_X11_want_J29
  refine xa_step (xa_aload_n d_X11_want_29 rfl) ?_
  refine xa_step (xa_iconst d_X11_want_30 xq_i_2) ?_
  refine xa_callVI (as := [xI 2]) (st := []) (M' := mX11_refuse) (d' := 2) rfl xw_646 xw_648 xw_2 xw_649 xw_161 xh_X11_refuse rfl ⟨Nat.le_of_ble_eq_true rfl, Nat.le_of_ble_eq_true rfl⟩ (Nat.le_of_ble_eq_true rfl) rfl d_X11_want_31 (fun r hr => ct_X11_refuse l G v0 2 h r hr) (fun r3 _ => ?_)
  refine xa_step (xa_pop d_X11_want_34) ?_
  refine xa_step (xa_iconst d_X11_want_35 xq_i_0) ?_
  exact xa_zret d_X11_want_36 rfl (Or.inl rfl) rfl
theorem d_X11_want_8 : decode mX11_want.1 8 = .ok (.aload_n 0, 1) ∧ 8 + 1 = 9 := ⟨by decide +kernel, rfl⟩
theorem d_X11_want_9 : decode mX11_want.1 9 = .ok (.iload_n 2, 1) ∧ 9 + 1 = 10 := ⟨by decide +kernel, rfl⟩
theorem d_X11_want_10 : decode mX11_want.1 10 = .ok (.invokevirtual 188, 3) ∧ 10 + 3 = 13 := ⟨by decide +kernel, rfl⟩
theorem d_X11_want_13 : decode mX11_want.1 13 = .ok (.ifCond .eq 16, 3) ∧ 13 + 3 = 16 ∧ ((13 : Nat) : Int) + 16 = ((29 : Nat) : Int) := ⟨by decide +kernel, rfl, rfl⟩
theorem d_X11_want_16 : decode mX11_want.1 16 = .ok (.aload_n 0, 1) ∧ 16 + 1 = 17 := ⟨by decide +kernel, rfl⟩
theorem d_X11_want_17 : decode mX11_want.1 17 = .ok (.getfield 54, 3) ∧ 17 + 3 = 20 := ⟨by decide +kernel, rfl⟩
theorem d_X11_want_20 : decode mX11_want.1 20 = .ok (.getfield 220, 3) ∧ 20 + 3 = 23 := ⟨by decide +kernel, rfl⟩
theorem d_X11_want_23 : decode mX11_want.1 23 = .ok (.iload_n 1, 1) ∧ 23 + 1 = 24 := ⟨by decide +kernel, rfl⟩
theorem d_X11_want_24 : decode mX11_want.1 24 = .ok (.iaload, 1) ∧ 24 + 1 = 25 := ⟨by decide +kernel, rfl⟩
theorem d_X11_want_25 : decode mX11_want.1 25 = .ok (.iload_n 2, 1) ∧ 25 + 1 = 26 := ⟨by decide +kernel, rfl⟩
theorem d_X11_want_26 : decode mX11_want.1 26 = .ok (.if_icmp .ne 11, 3) ∧ 26 + 3 = 29 ∧ ((26 : Nat) : Int) + 11 = ((37 : Nat) : Int) := ⟨by decide +kernel, rfl, rfl⟩
theorem d_X11_want_37 : decode mX11_want.1 37 = .ok (.aload_n 0, 1) ∧ 37 + 1 = 38 := ⟨by decide +kernel, rfl⟩
theorem d_X11_want_38 : decode mX11_want.1 38 = .ok (.getfield 61, 3) ∧ 38 + 3 = 41 := ⟨by decide +kernel, rfl⟩
theorem d_X11_want_41 : decode mX11_want.1 41 = .ok (.aload_n 0, 1) ∧ 41 + 1 = 42 := ⟨by decide +kernel, rfl⟩
theorem d_X11_want_42 : decode mX11_want.1 42 = .ok (.getfield 54, 3) ∧ 42 + 3 = 45 := ⟨by decide +kernel, rfl⟩
theorem d_X11_want_45 : decode mX11_want.1 45 = .ok (.invokevirtual 325, 3) ∧ 45 + 3 = 48 := ⟨by decide +kernel, rfl⟩
theorem d_X11_want_48 : decode mX11_want.1 48 = .ok (.aload_n 0, 1) ∧ 48 + 1 = 49 := ⟨by decide +kernel, rfl⟩
theorem d_X11_want_49 : decode mX11_want.1 49 = .ok (.getfield 54, 3) ∧ 49 + 3 = 52 := ⟨by decide +kernel, rfl⟩
theorem d_X11_want_52 : decode mX11_want.1 52 = .ok (.getfield 220, 3) ∧ 52 + 3 = 55 := ⟨by decide +kernel, rfl⟩
theorem d_X11_want_55 : decode mX11_want.1 55 = .ok (.iload_n 1, 1) ∧ 55 + 1 = 56 := ⟨by decide +kernel, rfl⟩
theorem d_X11_want_56 : decode mX11_want.1 56 = .ok (.iload_n 2, 1) ∧ 56 + 1 = 57 := ⟨by decide +kernel, rfl⟩
theorem d_X11_want_57 : decode mX11_want.1 57 = .ok (.iastore, 1) ∧ 57 + 1 = 58 := ⟨by decide +kernel, rfl⟩
theorem d_X11_want_58 : decode mX11_want.1 58 = .ok (.iconst 1, 1) ∧ 58 + 1 = 59 := ⟨by decide +kernel, rfl⟩
theorem d_X11_want_59 : decode mX11_want.1 59 = .ok (.ireturn, 1) := by decide +kernel
set_option maxRecDepth 100000 in
set_option maxHeartbeats 4000000 in
theorem g_X11_want (l : Launch) (G : xa_C) (v0 v1 v2 : Int) (h : xa_H) : xa_G l G 4 mX11_want (f_X11_want v0 v1 v2 h) (fun r => some (some (xI r.1), r.2) : (Int × xa_H) → Option xa_O) 0 [some (xR v0), some (xI v1), some (xI v2)] [] h := by
  unfold f_X11_want
  refine xa_step (xa_aload_n d_X11_want_0 rfl) ?_
  refine xa_step (xa_iload_n d_X11_want_1 rfl) ?_
  refine xa_callVi (as := [xI v1]) (st := []) (M' := mX11_isHolder) (d' := 2) rfl xw_921 xw_923 xw_33 xw_924 xw_161 xh_X11_isHolder rfl ⟨Nat.le_of_ble_eq_true rfl, Nat.le_of_ble_eq_true rfl⟩ (Nat.le_of_ble_eq_true rfl) rfl d_X11_want_2 (fun r hr => ct_X11_isHolder l G v0 v1 h r hr) (fun r1 _ => ?_)
  refine xa_if (xa_ifeq d_X11_want_5) (fun q2 => ?_) (fun q2 => ?_)
  · exact xa_weak (ls' := [some (xR v0), none, none]) ⟨rfl, trivial⟩ (g_X11_want_J29 l G v0 h)
  · refine xa_step (xa_aload_n d_X11_want_8 rfl) ?_
    refine xa_step (xa_iload_n d_X11_want_9 rfl) ?_
    refine xa_callVi (as := [xI v2]) (st := []) (M' := mX11_isHeld) (d' := 2) rfl xw_914 xw_916 xw_32 xw_917 xw_161 xh_X11_isHeld rfl ⟨Nat.le_of_ble_eq_true rfl, Nat.le_of_ble_eq_true rfl⟩ (Nat.le_of_ble_eq_true rfl) rfl d_X11_want_10 (fun r hr => ct_X11_isHeld l G v0 v2 h r hr) (fun r4 _ => ?_)
    refine xa_if (xa_ifeq d_X11_want_13) (fun q5 => ?_) (fun q5 => ?_)
    · exact xa_weak (ls' := [some (xR v0), none, none]) ⟨rfl, trivial⟩ (g_X11_want_J29 l G v0 h)
    · refine xa_step (xa_aload_n d_X11_want_16 rfl) ?_
      refine xa_getf xR xc_11 (by decide) (fun _ => rfl) xw_590 rfl d_X11_want_17 (fun x6 _ => ?_)
      refine xa_getf xR xc_9 (by decide) (fun _ => rfl) xw_350 rfl d_X11_want_20 (fun x7 _ => ?_)
      refine xa_step (xa_iload_n d_X11_want_23 rfl) ?_
      refine xa_iaload d_X11_want_24 (fun x8 _ => ?_)
      refine xa_step (xa_iload_n d_X11_want_25 rfl) ?_
      refine xa_if (xa_icmpne d_X11_want_26) (fun q9 => ?_) (fun q9 => ?_)
      · exact xa_weak (ls' := [some (xR v0), none, none]) ⟨rfl, trivial⟩ (g_X11_want_J29 l G v0 h)
      · refine xa_step (xa_aload_n d_X11_want_37 rfl) ?_
        refine xa_getf xR xc_11 (by decide) (fun _ => rfl) xw_591 rfl d_X11_want_38 (fun x10 _ => ?_)
        refine xa_step (xa_aload_n d_X11_want_41 rfl) ?_
        refine xa_getf xR xc_11 (by decide) (fun _ => rfl) xw_590 rfl d_X11_want_42 (fun x11 _ => ?_)
        refine xa_callVV (as := [xR x11]) (st := []) (M' := mX4_remember) (d' := 3) rfl xw_1189 xw_1190 xw_1191 xw_1192 xw_172 xh_X4_remember rfl ⟨Nat.le_of_ble_eq_true rfl, Nat.le_of_ble_eq_true rfl⟩ (Nat.le_of_ble_eq_true rfl) rfl d_X11_want_45 (fun r hr => ct_X4_remember l G x10 x11 h r hr) (fun r12 _ => ?_)
        refine xa_step (xa_aload_n d_X11_want_48 rfl) ?_
        refine xa_getf xR xc_11 (by decide) (fun _ => rfl) xw_590 rfl d_X11_want_49 (fun x13 _ => ?_)
        refine xa_getf xR xc_9 (by decide) (fun _ => rfl) xw_350 rfl d_X11_want_52 (fun x14 _ => ?_)
        refine xa_step (xa_iload_n d_X11_want_55 rfl) ?_
        refine xa_step (xa_iload_n d_X11_want_56 rfl) ?_
        refine xa_iastore2 d_X11_want_57 (fun h15 _ => ?_)
        refine xa_step (xa_iconst d_X11_want_58 xq_i_1) ?_
        exact xa_zret d_X11_want_59 rfl (Or.inr rfl) rfl
theorem ct_X11_want (l : Launch) (G : xa_C) (v0 v1 v2 : Int) (h : xa_H) (r : Int × xa_H) (hr : f_X11_want v0 v1 v2 h = some r) : xa_CT l G 4 mX11_want yX11_want [xR v0, xI v1, xI v2] h (some (xI r.1), r.2) :=
  xa_met (by decide +kernel) rfl (fun q => by first | rfl | cases q) (Nat.le_of_ble_eq_true rfl) rfl (g_X11_want l G v0 v1 v2 h) (by rw [hr]; rfl)
