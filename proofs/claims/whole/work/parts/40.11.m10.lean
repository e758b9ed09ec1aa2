abbrev mX12_feed : xa_M := (cX12_feed, 8, (some (.int)), RX12, false)
theorem d_X12_feed_0 : decode mX12_feed.1 0 = .ok (.aload_n 0, 1) ∧ 0 + 1 = 1 := ⟨by decide +kernel, rfl⟩
theorem d_X12_feed_1 : decode mX12_feed.1 1 = .ok (.getfield 246, 3) ∧ 1 + 3 = 4 := ⟨by decide +kernel, rfl⟩
theorem d_X12_feed_4 : decode mX12_feed.1 4 = .ok (.bipush 20, 2) ∧ 4 + 2 = 6 := ⟨by decide +kernel, rfl⟩
theorem d_X12_feed_6 : decode mX12_feed.1 6 = .ok (.iadd, 1) ∧ 6 + 1 = 7 := ⟨by decide +kernel, rfl⟩
theorem d_X12_feed_7 : decode mX12_feed.1 7 = .ok (.sipush 1600, 3) ∧ 7 + 3 = 10 := ⟨by decide +kernel, rfl⟩
theorem d_X12_feed_10 : decode mX12_feed.1 10 = .ok (.if_icmp .le 15, 3) ∧ 10 + 3 = 13 ∧ ((10 : Nat) : Int) + 15 = ((25 : Nat) : Int) := ⟨by decide +kernel, rfl, rfl⟩
theorem d_X12_feed_13 : decode mX12_feed.1 13 = .ok (.aload_n 0, 1) ∧ 13 + 1 = 14 := ⟨by decide +kernel, rfl⟩
theorem d_X12_feed_14 : decode mX12_feed.1 14 = .ok (.getfield 17, 3) ∧ 14 + 3 = 17 := ⟨by decide +kernel, rfl⟩
theorem d_X12_feed_17 : decode mX12_feed.1 17 = .ok (.iconst 0, 1) ∧ 17 + 1 = 18 := ⟨by decide +kernel, rfl⟩
theorem d_X12_feed_18 : decode mX12_feed.1 18 = .ok (.dup2, 1) ∧ 18 + 1 = 19 := ⟨by decide +kernel, rfl⟩
theorem d_X12_feed_19 : decode mX12_feed.1 19 = .ok (.iaload, 1) ∧ 19 + 1 = 20 := ⟨by decide +kernel, rfl⟩
theorem d_X12_feed_20 : decode mX12_feed.1 20 = .ok (.iconst 1, 1) ∧ 20 + 1 = 21 := ⟨by decide +kernel, rfl⟩
theorem d_X12_feed_21 : decode mX12_feed.1 21 = .ok (.iadd, 1) ∧ 21 + 1 = 22 := ⟨by decide +kernel, rfl⟩
theorem d_X12_feed_22 : decode mX12_feed.1 22 = .ok (.iastore, 1) ∧ 22 + 1 = 23 := ⟨by decide +kernel, rfl⟩
theorem d_X12_feed_23 : decode mX12_feed.1 23 = .ok (.iconst (-1), 1) ∧ 23 + 1 = 24 := ⟨by decide +kernel, rfl⟩
theorem d_X12_feed_24 : decode mX12_feed.1 24 = .ok (.ireturn, 1) := by decide +kernel
theorem d_X12_feed_25 : decode mX12_feed.1 25 = .ok (.iconst 0, 1) ∧ 25 + 1 = 26 := ⟨by decide +kernel, rfl⟩
theorem d_X12_feed_26 : decode mX12_feed.1 26 = .ok (.istore 6, 2) ∧ 26 + 2 = 28 := ⟨by decide +kernel, rfl⟩
theorem d_X12_feed_28 : decode mX12_feed.1 28 = .ok (.iload 6, 2) ∧ 28 + 2 = 30 := ⟨by decide +kernel, rfl⟩
theorem d_X12_feed_30 : decode mX12_feed.1 30 = .ok (.bipush 20, 2) ∧ 30 + 2 = 32 := ⟨by decide +kernel, rfl⟩
theorem d_X12_feed_32 : decode mX12_feed.1 32 = .ok (.if_icmp .ge 92, 3) ∧ 32 + 3 = 35 ∧ ((32 : Nat) : Int) + 92 = ((124 : Nat) : Int) := ⟨by decide +kernel, rfl, rfl⟩
theorem d_X12_feed_35 : decode mX12_feed.1 35 = .ok (.iload 6, 2) ∧ 35 + 2 = 37 := ⟨by decide +kernel, rfl⟩
theorem d_X12_feed_37 : decode mX12_feed.1 37 = .ok (.iconst 4, 1) ∧ 37 + 1 = 38 := ⟨by decide +kernel, rfl⟩
theorem d_X12_feed_38 : decode mX12_feed.1 38 = .ok (.if_icmp .ge 7, 3) ∧ 38 + 3 = 41 ∧ ((38 : Nat) : Int) + 7 = ((45 : Nat) : Int) := ⟨by decide +kernel, rfl, rfl⟩
theorem d_X12_feed_41 : decode mX12_feed.1 41 = .ok (.iload_n 1, 1) ∧ 41 + 1 = 42 := ⟨by decide +kernel, rfl⟩
theorem d_X12_feed_42 : decode mX12_feed.1 42 = .ok (.goto 39, 3) ∧ ((42 : Nat) : Int) + 39 = ((81 : Nat) : Int) := ⟨by decide +kernel, rfl⟩
theorem d_X12_feed_81 : decode mX12_feed.1 81 = .ok (.istore 7, 2) ∧ 81 + 2 = 83 := ⟨by decide +kernel, rfl⟩
theorem d_X12_feed_83 : decode mX12_feed.1 83 = .ok (.aload_n 0, 1) ∧ 83 + 1 = 84 := ⟨by decide +kernel, rfl⟩
theorem d_X12_feed_84 : decode mX12_feed.1 84 = .ok (.getfield 7, 3) ∧ 84 + 3 = 87 := ⟨by decide +kernel, rfl⟩
theorem d_X12_feed_87 : decode mX12_feed.1 87 = .ok (.aload_n 0, 1) ∧ 87 + 1 = 88 := ⟨by decide +kernel, rfl⟩
theorem d_X12_feed_88 : decode mX12_feed.1 88 = .ok (.getfield 246, 3) ∧ 88 + 3 = 91 := ⟨by decide +kernel, rfl⟩
theorem d_X12_feed_91 : decode mX12_feed.1 91 = .ok (.iload 7, 2) ∧ 91 + 2 = 93 := ⟨by decide +kernel, rfl⟩
theorem d_X12_feed_93 : decode mX12_feed.1 93 = .ok (.bipush 8, 2) ∧ 93 + 2 = 95 := ⟨by decide +kernel, rfl⟩
theorem d_X12_feed_95 : decode mX12_feed.1 95 = .ok (.iconst 3, 1) ∧ 95 + 1 = 96 := ⟨by decide +kernel, rfl⟩
theorem d_X12_feed_96 : decode mX12_feed.1 96 = .ok (.iload 6, 2) ∧ 96 + 2 = 98 := ⟨by decide +kernel, rfl⟩
theorem d_X12_feed_98 : decode mX12_feed.1 98 = .ok (.iconst 4, 1) ∧ 98 + 1 = 99 := ⟨by decide +kernel, rfl⟩
theorem d_X12_feed_99 : decode mX12_feed.1 99 = .ok (.irem, 1) ∧ 99 + 1 = 100 := ⟨by decide +kernel, rfl⟩
theorem d_X12_feed_100 : decode mX12_feed.1 100 = .ok (.isub, 1) ∧ 100 + 1 = 101 := ⟨by decide +kernel, rfl⟩
theorem d_X12_feed_101 : decode mX12_feed.1 101 = .ok (.imul, 1) ∧ 101 + 1 = 102 := ⟨by decide +kernel, rfl⟩
theorem d_X12_feed_102 : decode mX12_feed.1 102 = .ok (.ishr, 1) ∧ 102 + 1 = 103 := ⟨by decide +kernel, rfl⟩
theorem d_X12_feed_103 : decode mX12_feed.1 103 = .ok (.sipush 255, 3) ∧ 103 + 3 = 106 := ⟨by decide +kernel, rfl⟩
theorem d_X12_feed_106 : decode mX12_feed.1 106 = .ok (.iand, 1) ∧ 106 + 1 = 107 := ⟨by decide +kernel, rfl⟩
theorem d_X12_feed_107 : decode mX12_feed.1 107 = .ok (.iastore, 1) ∧ 107 + 1 = 108 := ⟨by decide +kernel, rfl⟩
theorem d_X12_feed_108 : decode mX12_feed.1 108 = .ok (.aload_n 0, 1) ∧ 108 + 1 = 109 := ⟨by decide +kernel, rfl⟩
theorem d_X12_feed_109 : decode mX12_feed.1 109 = .ok (.dup, 1) ∧ 109 + 1 = 110 := ⟨by decide +kernel, rfl⟩
theorem d_X12_feed_110 : decode mX12_feed.1 110 = .ok (.getfield 246, 3) ∧ 110 + 3 = 113 := ⟨by decide +kernel, rfl⟩
theorem d_X12_feed_113 : decode mX12_feed.1 113 = .ok (.iconst 1, 1) ∧ 113 + 1 = 114 := ⟨by decide +kernel, rfl⟩
theorem d_X12_feed_114 : decode mX12_feed.1 114 = .ok (.iadd, 1) ∧ 114 + 1 = 115 := ⟨by decide +kernel, rfl⟩
theorem d_X12_feed_115 : decode mX12_feed.1 115 = .ok (.putfield 246, 3) ∧ 115 + 3 = 118 := ⟨by decide +kernel, rfl⟩
theorem d_X12_feed_118 : decode mX12_feed.1 118 = .ok (.iinc 6 1, 3) ∧ 118 + 3 = 121 := ⟨by decide +kernel, rfl⟩
theorem d_X12_feed_121 : decode mX12_feed.1 121 = .ok (.goto (-93), 3) ∧ ((121 : Nat) : Int) + (-93) = ((28 : Nat) : Int) := ⟨by decide +kernel, rfl⟩
set_option maxRecDepth 100000 in
set_option maxHeartbeats 4000000 in
theorem g_X12_feed_J81L28 (l : Launch) (G : xa_C) (c0 c1 c2 c3 c4 c5 : Int) (K : (Int × xa_H) ⊕ (xa_H) → Option xa_O) (hb : ∀ (v6 : Int) (h : xa_H), xa_G l G 2 mX12_feed (some (Sum.inl ((v6, h)))) K 28 [some (xR c0), some (xI c1), some (xI c2), some (xI c3), some (xI c4), some (xI c5), some (xI v6), none] [] h) (hx : ∀ (h : xa_H), xa_G l G 2 mX12_feed (some (Sum.inr h)) K 124 [some (xR c0), none, none, none, none, none, none, none] [] h) : ∀ (v6 s0 : Int) (h : xa_H) , xa_G l G 2 mX12_feed (f_X12_feed_J81L28 c0 c1 c2 c3 c4 c5 v6 s0 h) K 81 [some (xR c0), some (xI c1), some (xI c2), some (xI c3), some (xI c4), some (xI c5), some (xI v6), none] [xI s0] h := by
  intro v6 s0 h
  unfold f_X12_feed_J81L28
  refine xa_step (xa_istore (ls' := [some (xR c0), some (xI c1), some (xI c2), some (xI c3), some (xI c4), some (xI c5), some (xI v6), some (xI s0)]) d_X12_feed_81 (by decide) rfl) ?_
  refine xa_step (xa_aload_n d_X12_feed_83 rfl) ?_
  refine xa_getf xR xc_12 (by decide) (fun _ => rfl) xw_1304 rfl d_X12_feed_84 (fun x8 _ => ?_)
  refine xa_step (xa_aload_n d_X12_feed_87 rfl) ?_
  refine xa_getf xI xc_12 (by decide) (fun _ => rfl) xw_1305 rfl d_X12_feed_88 (fun x9 _ => ?_)
  refine xa_step (xa_iload d_X12_feed_91 rfl) ?_
  refine xa_step (xa_bipush d_X12_feed_93 xq_b_8) ?_
  refine xa_step (xa_iconst d_X12_feed_95 xq_i_3) ?_
  refine xa_step (xa_iload d_X12_feed_96 rfl) ?_
  refine xa_step (xa_iconst d_X12_feed_98 xq_i_4) ?_
  refine xa_step (xa_irem d_X12_feed_99 (by decide)) ?_
  refine xa_step (xa_isub d_X12_feed_100) ?_
  refine xa_step (xa_imul d_X12_feed_101) ?_
  refine xa_step (xa_ishr d_X12_feed_102) ?_
  refine xa_step (xa_sipush d_X12_feed_103 xq_s_255) ?_
  refine xa_step (xa_iand d_X12_feed_106) ?_
  refine xa_iastore2 d_X12_feed_107 (fun h10 _ => ?_)
  refine xa_step (xa_aload_n d_X12_feed_108 rfl) ?_
  refine xa_step (xa_dup d_X12_feed_109 (xa_tR _)) ?_
  refine xa_getf xI xc_12 (by decide) (fun _ => rfl) xw_1305 rfl d_X12_feed_110 (fun x11 _ => ?_)
  refine xa_step (xa_iconst d_X12_feed_113 xq_i_1) ?_
  refine xa_step (xa_iadd d_X12_feed_114) ?_
  refine xa_putf2 (tg := xI) xc_12 (by decide) (fun _ => rfl) rfl (fun c hc => xa_fitI c hc) xw_1305 rfl d_X12_feed_115 (fun h12 _ => ?_)
  refine xa_step (xa_iinc (ls' := [some (xR c0), some (xI c1), some (xI c2), some (xI c3), some (xI c4), some (xI c5), some (xI (w32 (v6 + 1))), some (xI s0)]) d_X12_feed_118 xq_i_1 rfl (by decide) rfl) ?_
  refine xa_step (xa_goto d_X12_feed_121) ?_
  exact xa_weak (ls' := [some (xR c0), some (xI c1), some (xI c2), some (xI c3), some (xI c4), some (xI c5), some (xI (w32 (v6 + 1))), none]) ⟨rfl, rfl, rfl, rfl, rfl, rfl, rfl, trivial⟩ (hb (w32 (v6 + 1)) h12)
theorem d_X12_feed_45 : decode mX12_feed.1 45 = .ok (.iload 6, 2) ∧ 45 + 2 = 47 := ⟨by decide +kernel, rfl⟩
theorem d_X12_feed_47 : decode mX12_feed.1 47 = .ok (.bipush 8, 2) ∧ 47 + 2 = 49 := ⟨by decide +kernel, rfl⟩
theorem d_X12_feed_49 : decode mX12_feed.1 49 = .ok (.if_icmp .ge 7, 3) ∧ 49 + 3 = 52 ∧ ((49 : Nat) : Int) + 7 = ((56 : Nat) : Int) := ⟨by decide +kernel, rfl, rfl⟩
theorem d_X12_feed_52 : decode mX12_feed.1 52 = .ok (.iload_n 2, 1) ∧ 52 + 1 = 53 := ⟨by decide +kernel, rfl⟩
theorem d_X12_feed_53 : decode mX12_feed.1 53 = .ok (.goto 28, 3) ∧ ((53 : Nat) : Int) + 28 = ((81 : Nat) : Int) := ⟨by decide +kernel, rfl⟩
theorem d_X12_feed_56 : decode mX12_feed.1 56 = .ok (.iload 6, 2) ∧ 56 + 2 = 58 := ⟨by decide +kernel, rfl⟩
theorem d_X12_feed_58 : decode mX12_feed.1 58 = .ok (.bipush 12, 2) ∧ 58 + 2 = 60 := ⟨by decide +kernel, rfl⟩
theorem d_X12_feed_60 : decode mX12_feed.1 60 = .ok (.if_icmp .ge 7, 3) ∧ 60 + 3 = 63 ∧ ((60 : Nat) : Int) + 7 = ((67 : Nat) : Int) := ⟨by decide +kernel, rfl, rfl⟩
theorem d_X12_feed_63 : decode mX12_feed.1 63 = .ok (.iload_n 3, 1) ∧ 63 + 1 = 64 := ⟨by decide +kernel, rfl⟩
theorem d_X12_feed_64 : decode mX12_feed.1 64 = .ok (.goto 17, 3) ∧ ((64 : Nat) : Int) + 17 = ((81 : Nat) : Int) := ⟨by decide +kernel, rfl⟩
theorem d_X12_feed_67 : decode mX12_feed.1 67 = .ok (.iload 6, 2) ∧ 67 + 2 = 69 := ⟨by decide +kernel, rfl⟩
theorem d_X12_feed_69 : decode mX12_feed.1 69 = .ok (.bipush 16, 2) ∧ 69 + 2 = 71 := ⟨by decide +kernel, rfl⟩
theorem d_X12_feed_71 : decode mX12_feed.1 71 = .ok (.if_icmp .ge 8, 3) ∧ 71 + 3 = 74 ∧ ((71 : Nat) : Int) + 8 = ((79 : Nat) : Int) := ⟨by decide +kernel, rfl, rfl⟩
theorem d_X12_feed_74 : decode mX12_feed.1 74 = .ok (.iload 4, 2) ∧ 74 + 2 = 76 := ⟨by decide +kernel, rfl⟩
theorem d_X12_feed_76 : decode mX12_feed.1 76 = .ok (.goto 5, 3) ∧ ((76 : Nat) : Int) + 5 = ((81 : Nat) : Int) := ⟨by decide +kernel, rfl⟩
theorem d_X12_feed_79 : decode mX12_feed.1 79 = .ok (.iload 5, 2) ∧ 79 + 2 = 81 := ⟨by decide +kernel, rfl⟩
set_option maxRecDepth 100000 in
set_option maxHeartbeats 4000000 in
theorem g_X12_feed_L28 (l : Launch) (G : xa_C) (c0 c1 c2 c3 c4 c5 : Int) (K : (Int × xa_H) ⊕ (xa_H) → Option xa_O) (hb : ∀ (v6 : Int) (h : xa_H), xa_G l G 2 mX12_feed (some (Sum.inl ((v6, h)))) K 28 [some (xR c0), some (xI c1), some (xI c2), some (xI c3), some (xI c4), some (xI c5), some (xI v6), none] [] h) (hx : ∀ (h : xa_H), xa_G l G 2 mX12_feed (some (Sum.inr h)) K 124 [some (xR c0), none, none, none, none, none, none, none] [] h) : ∀ (v6 : Int) (h : xa_H), xa_G l G 2 mX12_feed (f_X12_feed_L28 c0 c1 c2 c3 c4 c5 v6 h) K 28 [some (xR c0), some (xI c1), some (xI c2), some (xI c3), some (xI c4), some (xI c5), some (xI v6), none] [] h := by
  intro v6 h
  unfold f_X12_feed_L28
  refine xa_step (xa_iload d_X12_feed_28 rfl) ?_
  refine xa_step (xa_bipush d_X12_feed_30 xq_b_20) ?_
  refine xa_if (xa_icmpge d_X12_feed_32) (fun q6 => ?_) (fun q6 => ?_)
  · refine xa_step (xa_iload d_X12_feed_35 rfl) ?_
    refine xa_step (xa_iconst d_X12_feed_37 xq_i_4) ?_
    refine xa_if (xa_icmpge d_X12_feed_38) (fun q7 => ?_) (fun q7 => ?_)
    · refine xa_step (xa_iload_n d_X12_feed_41 rfl) ?_
      refine xa_step (xa_goto d_X12_feed_42) ?_
      exact xa_weak (ls' := [some (xR c0), some (xI c1), some (xI c2), some (xI c3), some (xI c4), some (xI c5), some (xI v6), none]) ⟨rfl, rfl, rfl, rfl, rfl, rfl, rfl, trivial⟩ (g_X12_feed_J81L28 l G c0 c1 c2 c3 c4 c5 K hb hx v6 c1 h)
    · refine xa_step (xa_iload d_X12_feed_45 rfl) ?_
      refine xa_step (xa_bipush d_X12_feed_47 xq_b_8) ?_
      refine xa_if (xa_icmpge d_X12_feed_49) (fun q13 => ?_) (fun q13 => ?_)
      · refine xa_step (xa_iload_n d_X12_feed_52 rfl) ?_
        refine xa_step (xa_goto d_X12_feed_53) ?_
        exact xa_weak (ls' := [some (xR c0), some (xI c1), some (xI c2), some (xI c3), some (xI c4), some (xI c5), some (xI v6), none]) ⟨rfl, rfl, rfl, rfl, rfl, rfl, rfl, trivial⟩ (g_X12_feed_J81L28 l G c0 c1 c2 c3 c4 c5 K hb hx v6 c2 h)
      · refine xa_step (xa_iload d_X12_feed_56 rfl) ?_
        refine xa_step (xa_bipush d_X12_feed_58 xq_b_12) ?_
        refine xa_if (xa_icmpge d_X12_feed_60) (fun q14 => ?_) (fun q14 => ?_)
        · refine xa_step (xa_iload_n d_X12_feed_63 rfl) ?_
          refine xa_step (xa_goto d_X12_feed_64) ?_
          exact xa_weak (ls' := [some (xR c0), some (xI c1), some (xI c2), some (xI c3), some (xI c4), some (xI c5), some (xI v6), none]) ⟨rfl, rfl, rfl, rfl, rfl, rfl, rfl, trivial⟩ (g_X12_feed_J81L28 l G c0 c1 c2 c3 c4 c5 K hb hx v6 c3 h)
        · refine xa_step (xa_iload d_X12_feed_67 rfl) ?_
          refine xa_step (xa_bipush d_X12_feed_69 xq_b_16) ?_
          refine xa_if (xa_icmpge d_X12_feed_71) (fun q15 => ?_) (fun q15 => ?_)
          · refine xa_step (xa_iload d_X12_feed_74 rfl) ?_
            refine xa_step (xa_goto d_X12_feed_76) ?_
            exact xa_weak (ls' := [some (xR c0), some (xI c1), some (xI c2), some (xI c3), some (xI c4), some (xI c5), some (xI v6), none]) ⟨rfl, rfl, rfl, rfl, rfl, rfl, rfl, trivial⟩ (g_X12_feed_J81L28 l G c0 c1 c2 c3 c4 c5 K hb hx v6 c4 h)
          · refine xa_step (xa_iload d_X12_feed_79 rfl) ?_
            exact xa_weak (ls' := [some (xR c0), some (xI c1), some (xI c2), some (xI c3), some (xI c4), some (xI c5), some (xI v6), none]) ⟨rfl, rfl, rfl, rfl, rfl, rfl, rfl, trivial⟩ (g_X12_feed_J81L28 l G c0 c1 c2 c3 c4 c5 K hb hx v6 c5 h)
  · exact xa_weak (ls' := [some (xR c0), none, none, none, none, none, none, none]) ⟨rfl, trivial⟩ (hx h)
theorem d_X12_feed_124 : decode mX12_feed.1 124 = .ok (.aload_n 0, 1) ∧ 124 + 1 = 125 := ⟨by decide +kernel, rfl⟩
theorem d_X12_feed_125 : decode mX12_feed.1 125 = .ok (.getfield 246, 3) ∧ 125 + 3 = 128 := ⟨by decide +kernel, rfl⟩
theorem d_X12_feed_128 : decode mX12_feed.1 128 = .ok (.ireturn, 1) := by decide +kernel
set_option maxRecDepth 100000 in
set_option maxHeartbeats 4000000 in
theorem g_X12_feed (l : Launch) (G : xa_C) (v0 v1 v2 v3 v4 v5 : Int) (h : xa_H) : xa_G l G 2 mX12_feed (f_X12_feed v0 v1 v2 v3 v4 v5 h) (fun r => some (some (xI r.1), r.2) : (Int × xa_H) → Option xa_O) 0 [some (xR v0), some (xI v1), some (xI v2), some (xI v3), some (xI v4), some (xI v5), none, none] [] h := by
  unfold f_X12_feed
  refine xa_step (xa_aload_n d_X12_feed_0 rfl) ?_
  refine xa_getf xI xc_12 (by decide) (fun _ => rfl) xw_1305 rfl d_X12_feed_1 (fun x1 _ => ?_)
  refine xa_step (xa_bipush d_X12_feed_4 xq_b_20) ?_
  refine xa_step (xa_iadd d_X12_feed_6) ?_
  refine xa_step (xa_sipush d_X12_feed_7 xq_s_1600) ?_
  refine xa_if (xa_icmple d_X12_feed_10) (fun q2 => ?_) (fun q2 => ?_)
  · refine xa_step (xa_aload_n d_X12_feed_13 rfl) ?_
    refine xa_getf xR xc_12 (by decide) (fun _ => rfl) xw_1313 rfl d_X12_feed_14 (fun x3 _ => ?_)
    refine xa_step (xa_iconst d_X12_feed_17 xq_i_0) ?_
    refine xa_step (xa_dup2 d_X12_feed_18 (xa_tI _) (xa_tR _)) ?_
    refine xa_iaload d_X12_feed_19 (fun x4 _ => ?_)
    refine xa_step (xa_iconst d_X12_feed_20 xq_i_1) ?_
    refine xa_step (xa_iadd d_X12_feed_21) ?_
    refine xa_iastore2 d_X12_feed_22 (fun h5 _ => ?_)
    refine xa_step (xa_iconst d_X12_feed_23 xq_i_m1) ?_
    exact xa_iret d_X12_feed_24 rfl rfl
  · refine xa_step (xa_iconst d_X12_feed_25 xq_i_0) ?_
    refine xa_step (xa_istore (ls' := [some (xR v0), some (xI v1), some (xI v2), some (xI v3), some (xI v4), some (xI v5), some (xI 0), none]) d_X12_feed_26 (by decide) rfl) ?_
    refine xa_weak (ls' := [some (xR v0), some (xI v1), some (xI v2), some (xI v3), some (xI v4), some (xI v5), some (xI 0), none]) ⟨rfl, rfl, rfl, rfl, rfl, rfl, rfl, trivial⟩ ?_
    refine xa_loop (f := fun s => f_X12_feed_L28 v0 v1 v2 v3 v4 v5 s.1 s.2) (L := fun s => [some (xR v0), some (xI v1), some (xI v2), some (xI v3), some (xI v4), some (xI v5), some (xI s.1), none]) (P := fun s => s.2) (X := (fun x K => xa_G l G 2 mX12_feed (some (Sum.inr x)) K 124 [some (xR v0), none, none, none, none, none, none, none] [] x)) (fun K hb hX s => g_X12_feed_L28 l G v0 v1 v2 v3 v4 v5 K (fun w0 hh => hb ((w0, hh))) (fun hh => hX hh) s.1 s.2) ?_ xFU ((0, h))
    intro e16 K hK
    refine xa_eqE hK ?_
    show xa_G l G 2 mX12_feed _ _ 124 [some (xR v0), none, none, none, none, none, none, none] [] e16
    refine xa_step (xa_aload_n d_X12_feed_124 rfl) ?_
    refine xa_getf xI xc_12 (by decide) (fun _ => rfl) xw_1305 rfl d_X12_feed_125 (fun x17 _ => ?_)
    exact xa_iret d_X12_feed_128 rfl rfl
theorem ct_X12_feed (l : Launch) (G : xa_C) (v0 v1 v2 v3 v4 v5 : Int) (h : xa_H) (r : Int × xa_H) (hr : f_X12_feed v0 v1 v2 v3 v4 v5 h = some r) : xa_CT l G 2 mX12_feed yX12_feed [xR v0, xI v1, xI v2, xI v3, xI v4, xI v5] h (some (xI r.1), r.2) :=
  xa_met (by decide +kernel) rfl (fun q => by first | rfl | cases q) (Nat.le_of_ble_eq_true rfl) rfl (g_X12_feed l G v0 v1 v2 v3 v4 v5 h) (by rw [hr]; rfl)
abbrev mX12_bits : xa_M := (cX12_bits, 3, (some (.int)), RX12, false)
theorem d_X12_bits_0 : decode mX12_bits.1 0 = .ok (.iconst 0, 1) ∧ 0 + 1 = 1 := ⟨by decide +kernel, rfl⟩
theorem d_X12_bits_1 : decode mX12_bits.1 1 = .ok (.istore_n 1, 1) ∧ 1 + 1 = 2 := ⟨by decide +kernel, rfl⟩
theorem d_X12_bits_2 : decode mX12_bits.1 2 = .ok (.iload_n 0, 1) ∧ 2 + 1 = 3 := ⟨by decide +kernel, rfl⟩
theorem d_X12_bits_3 : decode mX12_bits.1 3 = .ok (.istore_n 2, 1) ∧ 3 + 1 = 4 := ⟨by decide +kernel, rfl⟩
theorem d_X12_bits_4 : decode mX12_bits.1 4 = .ok (.iload_n 2, 1) ∧ 4 + 1 = 5 := ⟨by decide +kernel, rfl⟩
theorem d_X12_bits_5 : decode mX12_bits.1 5 = .ok (.ifCond .eq 15, 3) ∧ 5 + 3 = 8 ∧ ((5 : Nat) : Int) + 15 = ((20 : Nat) : Int) := ⟨by decide +kernel, rfl, rfl⟩
theorem d_X12_bits_8 : decode mX12_bits.1 8 = .ok (.iinc 1 1, 3) ∧ 8 + 3 = 11 := ⟨by decide +kernel, rfl⟩
theorem d_X12_bits_11 : decode mX12_bits.1 11 = .ok (.iload_n 2, 1) ∧ 11 + 1 = 12 := ⟨by decide +kernel, rfl⟩
theorem d_X12_bits_12 : decode mX12_bits.1 12 = .ok (.iload_n 2, 1) ∧ 12 + 1 = 13 := ⟨by decide +kernel, rfl⟩
theorem d_X12_bits_13 : decode mX12_bits.1 13 = .ok (.iconst 1, 1) ∧ 13 + 1 = 14 := ⟨by decide +kernel, rfl⟩
theorem d_X12_bits_14 : decode mX12_bits.1 14 = .ok (.isub, 1) ∧ 14 + 1 = 15 := ⟨by decide +kernel, rfl⟩
theorem d_X12_bits_15 : decode mX12_bits.1 15 = .ok (.iand, 1) ∧ 15 + 1 = 16 := ⟨by decide +kernel, rfl⟩
theorem d_X12_bits_16 : decode mX12_bits.1 16 = .ok (.istore_n 2, 1) ∧ 16 + 1 = 17 := ⟨by decide +kernel, rfl⟩
theorem d_X12_bits_17 : decode mX12_bits.1 17 = .ok (.goto (-13), 3) ∧ ((17 : Nat) : Int) + (-13) = ((4 : Nat) : Int) := ⟨by decide +kernel, rfl⟩
set_option maxRecDepth 100000 in
set_option maxHeartbeats 4000000 in
theorem g_X12_bits_L4 (l : Launch) (G : xa_C) (h : xa_H) (K : (Int × Int) ⊕ (Int) → Option xa_O) (hb : ∀ (v1 : Int) (v2 : Int), xa_G l G 2 mX12_bits (some (Sum.inl ((v1, v2)))) K 4 [none, some (xI v1), some (xI v2)] [] h) (hx : ∀ (v1 : Int), xa_G l G 2 mX12_bits (some (Sum.inr v1)) K 20 [none, some (xI v1), none] [] h) : ∀ (v1 : Int) (v2 : Int), xa_G l G 2 mX12_bits (f_X12_bits_L4 h v1 v2) K 4 [none, some (xI v1), some (xI v2)] [] h := by
  intro v1 v2
  unfold f_X12_bits_L4
  refine xa_step (xa_iload_n d_X12_bits_4 rfl) ?_
  refine xa_if (xa_ifeq d_X12_bits_5) (fun q1 => ?_) (fun q1 => ?_)
  · exact xa_weak (ls' := [none, some (xI v1), none]) ⟨rfl, trivial⟩ (hx v1)
  · refine xa_step (xa_iinc (ls' := [none, some (xI (w32 (v1 + 1))), some (xI v2)]) d_X12_bits_8 xq_i_1 rfl (by decide) rfl) ?_
    refine xa_step (xa_iload_n d_X12_bits_11 rfl) ?_
    refine xa_step (xa_iload_n d_X12_bits_12 rfl) ?_
    refine xa_step (xa_iconst d_X12_bits_13 xq_i_1) ?_
    refine xa_step (xa_isub d_X12_bits_14) ?_
    refine xa_step (xa_iand d_X12_bits_15) ?_
    refine xa_step (xa_istore_n (ls' := [none, some (xI (w32 (v1 + 1))), some (xI (xand v2 (w32 (v2 - 1))))]) d_X12_bits_16 (by decide) rfl) ?_
    refine xa_step (xa_goto d_X12_bits_17) ?_
    exact xa_weak (ls' := [none, some (xI (w32 (v1 + 1))), some (xI (xand v2 (w32 (v2 - 1))))]) ⟨rfl, rfl, trivial⟩ (hb (w32 (v1 + 1)) (xand v2 (w32 (v2 - 1))))
theorem d_X12_bits_20 : decode mX12_bits.1 20 = .ok (.iload_n 1, 1) ∧ 20 + 1 = 21 := ⟨by decide +kernel, rfl⟩
theorem d_X12_bits_21 : decode mX12_bits.1 21 = .ok (.ireturn, 1) := by decide +kernel
set_option maxRecDepth 100000 in
set_option maxHeartbeats 4000000 in
theorem g_X12_bits (l : Launch) (G : xa_C) (v0 : Int) (h : xa_H) : xa_G l G 2 mX12_bits (f_X12_bits v0 h) (fun r => some (some (xI r), h) : Int → Option xa_O) 0 [some (xI v0), none, none] [] h := by
  unfold f_X12_bits
  refine xa_step (xa_iconst d_X12_bits_0 xq_i_0) ?_
  refine xa_step (xa_istore_n (ls' := [some (xI v0), some (xI 0), none]) d_X12_bits_1 (by decide) rfl) ?_
  refine xa_step (xa_iload_n d_X12_bits_2 rfl) ?_
  refine xa_step (xa_istore_n (ls' := [some (xI v0), some (xI 0), some (xI v0)]) d_X12_bits_3 (by decide) rfl) ?_
  refine xa_weak (ls' := [none, some (xI 0), some (xI v0)]) ⟨rfl, rfl, trivial⟩ ?_
  refine xa_loop (f := fun s => f_X12_bits_L4 h s.1 s.2) (L := fun s => [none, some (xI s.1), some (xI s.2)]) (P := fun s => h) (X := (fun x K => xa_G l G 2 mX12_bits (some (Sum.inr x)) K 20 [none, some (xI x), none] [] h)) (fun K hb hX s => g_X12_bits_L4 l G h K (fun w0 w1 => hb ((w0, w1))) (fun w0 => hX w0) s.1 s.2) ?_ xFU ((0, v0))
  intro e2 K hK
  refine xa_eqE hK ?_
  show xa_G l G 2 mX12_bits _ _ 20 [none, some (xI e2), none] [] h
  refine xa_step (xa_iload_n d_X12_bits_20 rfl) ?_
  exact xa_iret d_X12_bits_21 rfl rfl
theorem ct_X12_bits (l : Launch) (G : xa_C) (v0 : Int) (h : xa_H) (r : Int) (hr : f_X12_bits v0 h = some r) : xa_CT l G 2 mX12_bits yX12_bits [xI v0] h (some (xI r), h) :=
  xa_met (by decide +kernel) rfl (fun q => by first | rfl | cases q) (Nat.le_of_ble_eq_true rfl) rfl (g_X12_bits l G v0 h) (by rw [hr]; rfl)
abbrev mX12_areFeud : xa_M := (cX12_areFeud, 3, (some (.boolean)), RX12, false)
theorem d_X12_areFeud_0 : decode mX12_areFeud.1 0 = .ok (.aload_n 0, 1) ∧ 0 + 1 = 1 := ⟨by decide +kernel, rfl⟩
theorem d_X12_areFeud_1 : decode mX12_areFeud.1 1 = .ok (.getfield 115, 3) ∧ 1 + 3 = 4 := ⟨by decide +kernel, rfl⟩
theorem d_X12_areFeud_4 : decode mX12_areFeud.1 4 = .ok (.bipush 6, 2) ∧ 4 + 2 = 6 := ⟨by decide +kernel, rfl⟩
theorem d_X12_areFeud_6 : decode mX12_areFeud.1 6 = .ok (.iload_n 1, 1) ∧ 6 + 1 = 7 := ⟨by decide +kernel, rfl⟩
theorem d_X12_areFeud_7 : decode mX12_areFeud.1 7 = .ok (.iadd, 1) ∧ 7 + 1 = 8 := ⟨by decide +kernel, rfl⟩
theorem d_X12_areFeud_8 : decode mX12_areFeud.1 8 = .ok (.iaload, 1) ∧ 8 + 1 = 9 := ⟨by decide +kernel, rfl⟩
theorem d_X12_areFeud_9 : decode mX12_areFeud.1 9 = .ok (.iload_n 2, 1) ∧ 9 + 1 = 10 := ⟨by decide +kernel, rfl⟩
theorem d_X12_areFeud_10 : decode mX12_areFeud.1 10 = .ok (.ishr, 1) ∧ 10 + 1 = 11 := ⟨by decide +kernel, rfl⟩
theorem d_X12_areFeud_11 : decode mX12_areFeud.1 11 = .ok (.iconst 1, 1) ∧ 11 + 1 = 12 := ⟨by decide +kernel, rfl⟩
theorem d_X12_areFeud_12 : decode mX12_areFeud.1 12 = .ok (.iand, 1) ∧ 12 + 1 = 13 := ⟨by decide +kernel, rfl⟩
theorem d_X12_areFeud_13 : decode mX12_areFeud.1 13 = .ok (.iconst 1, 1) ∧ 13 + 1 = 14 := ⟨by decide +kernel, rfl⟩
theorem d_X12_areFeud_14 : decode mX12_areFeud.1 14 = .ok (.if_icmp .ne 7, 3) ∧ 14 + 3 = 17 ∧ ((14 : Nat) : Int) + 7 = ((21 : Nat) : Int) := ⟨by decide +kernel, rfl, rfl⟩
theorem d_X12_areFeud_17 : decode mX12_areFeud.1 17 = .ok (.iconst 1, 1) ∧ 17 + 1 = 18 := ⟨by decide +kernel, rfl⟩
theorem d_X12_areFeud_18 : decode mX12_areFeud.1 18 = .ok (.goto 4, 3) ∧ ((18 : Nat) : Int) + 4 = ((22 : Nat) : Int) := ⟨by decide +kernel, rfl⟩
theorem d_X12_areFeud_22 : decode mX12_areFeud.1 22 = .ok (.ireturn, 1) := by decide +kernel
theorem d_X12_areFeud_21 : decode mX12_areFeud.1 21 = .ok (.iconst 0, 1) ∧ 21 + 1 = 22 := ⟨by decide +kernel, rfl⟩
set_option maxRecDepth 100000 in
set_option maxHeartbeats 4000000 in
theorem g_X12_areFeud (l : Launch) (G : xa_C) (v0 v1 v2 : Int) (h : xa_H) : xa_G l G 2 mX12_areFeud (f_X12_areFeud v0 v1 v2 h) (fun r => some (some (xI r), h) : Int → Option xa_O) 0 [some (xR v0), some (xI v1), some (xI v2)] [] h := by
  unfold f_X12_areFeud
  refine xa_step (xa_aload_n d_X12_areFeud_0 rfl) ?_
  refine xa_getf xR xc_12 (by decide) (fun _ => rfl) xw_1346 rfl d_X12_areFeud_1 (fun x1 _ => ?_)
  refine xa_step (xa_bipush d_X12_areFeud_4 xq_b_6) ?_
  refine xa_step (xa_iload_n d_X12_areFeud_6 rfl) ?_
  refine xa_step (xa_iadd d_X12_areFeud_7) ?_
  refine xa_iaload d_X12_areFeud_8 (fun x2 _ => ?_)
  refine xa_step (xa_iload_n d_X12_areFeud_9 rfl) ?_
  refine xa_step (xa_ishr d_X12_areFeud_10) ?_
  refine xa_step (xa_iconst d_X12_areFeud_11 xq_i_1) ?_
  refine xa_step (xa_iand d_X12_areFeud_12) ?_
  refine xa_step (xa_iconst d_X12_areFeud_13 xq_i_1) ?_
  refine xa_if (xa_icmpne d_X12_areFeud_14) (fun q3 => ?_) (fun q3 => ?_)
  · refine xa_step (xa_iconst d_X12_areFeud_17 xq_i_1) ?_
    refine xa_step (xa_goto d_X12_areFeud_18) ?_
    exact xa_zret d_X12_areFeud_22 rfl (Or.inr rfl) rfl
  · refine xa_step (xa_iconst d_X12_areFeud_21 xq_i_0) ?_
    exact xa_zret d_X12_areFeud_22 rfl (Or.inl rfl) rfl
theorem ct_X12_areFeud (l : Launch) (G : xa_C) (v0 v1 v2 : Int) (h : xa_H) (r : Int) (hr : f_X12_areFeud v0 v1 v2 h = some r) : xa_CT l G 2 mX12_areFeud yX12_areFeud [xR v0, xI v1, xI v2] h (some (xI r), h) :=
  xa_met (by decide +kernel) rfl (fun q => by first | rfl | cases q) (Nat.le_of_ble_eq_true rfl) rfl (g_X12_areFeud l G v0 v1 v2 h) (by rw [hr]; rfl)
abbrev mX12_isGain : xa_M := (cX12_isGain, 3, (some (.boolean)), RX12, false)
theorem d_X12_isGain_0 : decode mX12_isGain.1 0 = .ok (.iload_n 1, 1) ∧ 0 + 1 = 1 := ⟨by decide +kernel, rfl⟩
theorem d_X12_isGain_1 : decode mX12_isGain.1 1 = .ok (.iload_n 2, 1) ∧ 1 + 1 = 2 := ⟨by decide +kernel, rfl⟩
theorem d_X12_isGain_2 : decode mX12_isGain.1 2 = .ok (.if_icmp .eq 62, 3) ∧ 2 + 3 = 5 ∧ ((2 : Nat) : Int) + 62 = ((64 : Nat) : Int) := ⟨by decide +kernel, rfl, rfl⟩
theorem d_X12_isGain_64 : decode mX12_isGain.1 64 = .ok (.iconst 0, 1) ∧ 64 + 1 = 65 := ⟨by decide +kernel, rfl⟩
theorem d_X12_isGain_65 : decode mX12_isGain.1 65 = .ok (.ireturn, 1) := by decide +kernel
theorem d_X12_isGain_5 : decode mX12_isGain.1 5 = .ok (.aload_n 0, 1) ∧ 5 + 1 = 6 := ⟨by decide +kernel, rfl⟩
theorem d_X12_isGain_6 : decode mX12_isGain.1 6 = .ok (.iload_n 1, 1) ∧ 6 + 1 = 7 := ⟨by decide +kernel, rfl⟩
theorem d_X12_isGain_7 : decode mX12_isGain.1 7 = .ok (.iload_n 2, 1) ∧ 7 + 1 = 8 := ⟨by decide +kernel, rfl⟩
theorem d_X12_isGain_8 : decode mX12_isGain.1 8 = .ok (.invokevirtual 464, 3) ∧ 8 + 3 = 11 := ⟨by decide +kernel, rfl⟩
theorem d_X12_isGain_11 : decode mX12_isGain.1 11 = .ok (.ifCond .ne 53, 3) ∧ 11 + 3 = 14 ∧ ((11 : Nat) : Int) + 53 = ((64 : Nat) : Int) := ⟨by decide +kernel, rfl, rfl⟩
theorem d_X12_isGain_14 : decode mX12_isGain.1 14 = .ok (.aload_n 0, 1) ∧ 14 + 1 = 15 := ⟨by decide +kernel, rfl⟩
theorem d_X12_isGain_15 : decode mX12_isGain.1 15 = .ok (.iload_n 1, 1) ∧ 15 + 1 = 16 := ⟨by decide +kernel, rfl⟩
theorem d_X12_isGain_16 : decode mX12_isGain.1 16 = .ok (.aload_n 0, 1) ∧ 16 + 1 = 17 := ⟨by decide +kernel, rfl⟩
theorem d_X12_isGain_17 : decode mX12_isGain.1 17 = .ok (.iload_n 2, 1) ∧ 17 + 1 = 18 := ⟨by decide +kernel, rfl⟩
theorem d_X12_isGain_18 : decode mX12_isGain.1 18 = .ok (.invokevirtual 405, 3) ∧ 18 + 3 = 21 := ⟨by decide +kernel, rfl⟩
theorem d_X12_isGain_21 : decode mX12_isGain.1 21 = .ok (.invokevirtual 411, 3) ∧ 21 + 3 = 24 := ⟨by decide +kernel, rfl⟩
theorem d_X12_isGain_24 : decode mX12_isGain.1 24 = .ok (.aload_n 0, 1) ∧ 24 + 1 = 25 := ⟨by decide +kernel, rfl⟩
theorem d_X12_isGain_25 : decode mX12_isGain.1 25 = .ok (.iload_n 1, 1) ∧ 25 + 1 = 26 := ⟨by decide +kernel, rfl⟩
theorem d_X12_isGain_26 : decode mX12_isGain.1 26 = .ok (.aload_n 0, 1) ∧ 26 + 1 = 27 := ⟨by decide +kernel, rfl⟩
theorem d_X12_isGain_27 : decode mX12_isGain.1 27 = .ok (.iload_n 1, 1) ∧ 27 + 1 = 28 := ⟨by decide +kernel, rfl⟩
theorem d_X12_isGain_28 : decode mX12_isGain.1 28 = .ok (.invokevirtual 405, 3) ∧ 28 + 3 = 31 := ⟨by decide +kernel, rfl⟩
theorem d_X12_isGain_31 : decode mX12_isGain.1 31 = .ok (.invokevirtual 411, 3) ∧ 31 + 3 = 34 := ⟨by decide +kernel, rfl⟩
theorem d_X12_isGain_34 : decode mX12_isGain.1 34 = .ok (.if_icmp .le 30, 3) ∧ 34 + 3 = 37 ∧ ((34 : Nat) : Int) + 30 = ((64 : Nat) : Int) := ⟨by decide +kernel, rfl, rfl⟩
theorem d_X12_isGain_37 : decode mX12_isGain.1 37 = .ok (.aload_n 0, 1) ∧ 37 + 1 = 38 := ⟨by decide +kernel, rfl⟩
theorem d_X12_isGain_38 : decode mX12_isGain.1 38 = .ok (.iload_n 2, 1) ∧ 38 + 1 = 39 := ⟨by decide +kernel, rfl⟩
theorem d_X12_isGain_39 : decode mX12_isGain.1 39 = .ok (.aload_n 0, 1) ∧ 39 + 1 = 40 := ⟨by decide +kernel, rfl⟩
theorem d_X12_isGain_40 : decode mX12_isGain.1 40 = .ok (.iload_n 1, 1) ∧ 40 + 1 = 41 := ⟨by decide +kernel, rfl⟩
theorem d_X12_isGain_41 : decode mX12_isGain.1 41 = .ok (.invokevirtual 405, 3) ∧ 41 + 3 = 44 := ⟨by decide +kernel, rfl⟩
theorem d_X12_isGain_44 : decode mX12_isGain.1 44 = .ok (.invokevirtual 411, 3) ∧ 44 + 3 = 47 := ⟨by decide +kernel, rfl⟩
theorem d_X12_isGain_47 : decode mX12_isGain.1 47 = .ok (.aload_n 0, 1) ∧ 47 + 1 = 48 := ⟨by decide +kernel, rfl⟩
theorem d_X12_isGain_48 : decode mX12_isGain.1 48 = .ok (.iload_n 2, 1) ∧ 48 + 1 = 49 := ⟨by decide +kernel, rfl⟩
theorem d_X12_isGain_49 : decode mX12_isGain.1 49 = .ok (.aload_n 0, 1) ∧ 49 + 1 = 50 := ⟨by decide +kernel, rfl⟩
theorem d_X12_isGain_50 : decode mX12_isGain.1 50 = .ok (.iload_n 2, 1) ∧ 50 + 1 = 51 := ⟨by decide +kernel, rfl⟩
theorem d_X12_isGain_51 : decode mX12_isGain.1 51 = .ok (.invokevirtual 405, 3) ∧ 51 + 3 = 54 := ⟨by decide +kernel, rfl⟩
theorem d_X12_isGain_54 : decode mX12_isGain.1 54 = .ok (.invokevirtual 411, 3) ∧ 54 + 3 = 57 := ⟨by decide +kernel, rfl⟩
theorem d_X12_isGain_57 : decode mX12_isGain.1 57 = .ok (.if_icmp .le 7, 3) ∧ 57 + 3 = 60 ∧ ((57 : Nat) : Int) + 7 = ((64 : Nat) : Int) := ⟨by decide +kernel, rfl, rfl⟩
theorem d_X12_isGain_60 : decode mX12_isGain.1 60 = .ok (.iconst 1, 1) ∧ 60 + 1 = 61 := ⟨by decide +kernel, rfl⟩
theorem d_X12_isGain_61 : decode mX12_isGain.1 61 = .ok (.goto 4, 3) ∧ ((61 : Nat) : Int) + 4 = ((65 : Nat) : Int) := ⟨by decide +kernel, rfl⟩
set_option maxRecDepth 100000 in
set_option maxHeartbeats 4000000 in
theorem g_X12_isGain (l : Launch) (G : xa_C) (v0 v1 v2 : Int) (h : xa_H) : xa_G l G 3 mX12_isGain (f_X12_isGain v0 v1 v2 h) (fun r => some (some (xI r), h) : Int → Option xa_O) 0 [some (xR v0), some (xI v1), some (xI v2)] [] h := by
  unfold f_X12_isGain
  refine xa_step (xa_iload_n d_X12_isGain_0 rfl) ?_
  refine xa_step (xa_iload_n d_X12_isGain_1 rfl) ?_
  refine xa_if (xa_icmpeq d_X12_isGain_2) (fun q1 => ?_) (fun q1 => ?_)
  · refine xa_step (xa_iconst d_X12_isGain_64 xq_i_0) ?_
    exact xa_zret d_X12_isGain_65 rfl (Or.inl rfl) rfl
  · refine xa_step (xa_aload_n d_X12_isGain_5 rfl) ?_
    refine xa_step (xa_iload_n d_X12_isGain_6 rfl) ?_
    refine xa_step (xa_iload_n d_X12_isGain_7 rfl) ?_
    refine xa_callVi (as := [xI v1, xI v2]) (st := []) (M' := mX12_areFeud) (d' := 2) rfl xw_1928 xw_1930 xw_123 xw_1931 xw_177 xh_X12_areFeud rfl ⟨Nat.le_of_ble_eq_true rfl, Nat.le_of_ble_eq_true rfl⟩ (Nat.le_of_ble_eq_true rfl) rfl d_X12_isGain_8 (fun r hr => ct_X12_areFeud l G v0 v1 v2 h r hr) (fun r2 _ => ?_)
    refine xa_if (xa_ifne d_X12_isGain_11) (fun q3 => ?_) (fun q3 => ?_)
    · refine xa_step (xa_aload_n d_X12_isGain_14 rfl) ?_
      refine xa_step (xa_iload_n d_X12_isGain_15 rfl) ?_
      refine xa_step (xa_aload_n d_X12_isGain_16 rfl) ?_
      refine xa_step (xa_iload_n d_X12_isGain_17 rfl) ?_
      refine xa_callVi (as := [xI v2]) (st := [xI v1, xR v0]) (M' := mX12_hadBy) (d' := 2) rfl xw_1844 xw_1846 xw_110 xw_1847 xw_177 xh_X12_hadBy rfl ⟨Nat.le_of_ble_eq_true rfl, Nat.le_of_ble_eq_true rfl⟩ (Nat.le_of_ble_eq_true rfl) rfl d_X12_isGain_18 (fun r hr => ct_X12_hadBy l G v0 v2 h r hr) (fun r4 _ => ?_)
      refine xa_callVi (as := [xI v1, xI r4]) (st := []) (M' := mX12_valueOf) (d' := 2) rfl xw_1856 xw_1858 xw_113 xw_1859 xw_177 xh_X12_valueOf rfl ⟨Nat.le_of_ble_eq_true rfl, Nat.le_of_ble_eq_true rfl⟩ (Nat.le_of_ble_eq_true rfl) rfl d_X12_isGain_21 (fun r hr => ct_X12_valueOf l G v0 v1 r4 h r hr) (fun r5 _ => ?_)
      refine xa_step (xa_aload_n d_X12_isGain_24 rfl) ?_
      refine xa_step (xa_iload_n d_X12_isGain_25 rfl) ?_
      refine xa_step (xa_aload_n d_X12_isGain_26 rfl) ?_
      refine xa_step (xa_iload_n d_X12_isGain_27 rfl) ?_
      refine xa_callVi (as := [xI v1]) (st := [xI v1, xR v0, xI r5]) (M' := mX12_hadBy) (d' := 2) rfl xw_1844 xw_1846 xw_110 xw_1847 xw_177 xh_X12_hadBy rfl ⟨Nat.le_of_ble_eq_true rfl, Nat.le_of_ble_eq_true rfl⟩ (Nat.le_of_ble_eq_true rfl) rfl d_X12_isGain_28 (fun r hr => ct_X12_hadBy l G v0 v1 h r hr) (fun r6 _ => ?_)
      refine xa_callVi (as := [xI v1, xI r6]) (st := [xI r5]) (M' := mX12_valueOf) (d' := 2) rfl xw_1856 xw_1858 xw_113 xw_1859 xw_177 xh_X12_valueOf rfl ⟨Nat.le_of_ble_eq_true rfl, Nat.le_of_ble_eq_true rfl⟩ (Nat.le_of_ble_eq_true rfl) rfl d_X12_isGain_31 (fun r hr => ct_X12_valueOf l G v0 v1 r6 h r hr) (fun r7 _ => ?_)
      refine xa_if (xa_icmple d_X12_isGain_34) (fun q8 => ?_) (fun q8 => ?_)
      · refine xa_step (xa_aload_n d_X12_isGain_37 rfl) ?_
        refine xa_step (xa_iload_n d_X12_isGain_38 rfl) ?_
        refine xa_step (xa_aload_n d_X12_isGain_39 rfl) ?_
        refine xa_step (xa_iload_n d_X12_isGain_40 rfl) ?_
        refine xa_callVi (as := [xI v1]) (st := [xI v2, xR v0]) (M' := mX12_hadBy) (d' := 2) rfl xw_1844 xw_1846 xw_110 xw_1847 xw_177 xh_X12_hadBy rfl ⟨Nat.le_of_ble_eq_true rfl, Nat.le_of_ble_eq_true rfl⟩ (Nat.le_of_ble_eq_true rfl) rfl d_X12_isGain_41 (fun r hr => ct_X12_hadBy l G v0 v1 h r hr) (fun r9 _ => ?_)
        refine xa_callVi (as := [xI v2, xI r9]) (st := []) (M' := mX12_valueOf) (d' := 2) rfl xw_1856 xw_1858 xw_113 xw_1859 xw_177 xh_X12_valueOf rfl ⟨Nat.le_of_ble_eq_true rfl, Nat.le_of_ble_eq_true rfl⟩ (Nat.le_of_ble_eq_true rfl) rfl d_X12_isGain_44 (fun r hr => ct_X12_valueOf l G v0 v2 r9 h r hr) (fun r10 _ => ?_)
        refine xa_step (xa_aload_n d_X12_isGain_47 rfl) ?_
        refine xa_step (xa_iload_n d_X12_isGain_48 rfl) ?_
        refine xa_step (xa_aload_n d_X12_isGain_49 rfl) ?_
        refine xa_step (xa_iload_n d_X12_isGain_50 rfl) ?_
        refine xa_callVi (as := [xI v2]) (st := [xI v2, xR v0, xI r10]) (M' := mX12_hadBy) (d' := 2) rfl xw_1844 xw_1846 xw_110 xw_1847 xw_177 xh_X12_hadBy rfl ⟨Nat.le_of_ble_eq_true rfl, Nat.le_of_ble_eq_true rfl⟩ (Nat.le_of_ble_eq_true rfl) rfl d_X12_isGain_51 (fun r hr => ct_X12_hadBy l G v0 v2 h r hr) (fun r11 _ => ?_)
        refine xa_callVi (as := [xI v2, xI r11]) (st := [xI r10]) (M' := mX12_valueOf) (d' := 2) rfl xw_1856 xw_1858 xw_113 xw_1859 xw_177 xh_X12_valueOf rfl ⟨Nat.le_of_ble_eq_true rfl, Nat.le_of_ble_eq_true rfl⟩ (Nat.le_of_ble_eq_true rfl) rfl d_X12_isGain_54 (fun r hr => ct_X12_valueOf l G v0 v2 r11 h r hr) (fun r12 _ => ?_)
        refine xa_if (xa_icmple d_X12_isGain_57) (fun q13 => ?_) (fun q13 => ?_)
        · refine xa_step (xa_iconst d_X12_isGain_60 xq_i_1) ?_
          refine xa_step (xa_goto d_X12_isGain_61) ?_
          exact xa_zret d_X12_isGain_65 rfl (Or.inr rfl) rfl
        · refine xa_step (xa_iconst d_X12_isGain_64 xq_i_0) ?_
          exact xa_zret d_X12_isGain_65 rfl (Or.inl rfl) rfl
      · refine xa_step (xa_iconst d_X12_isGain_64 xq_i_0) ?_
        exact xa_zret d_X12_isGain_65 rfl (Or.inl rfl) rfl
    · refine xa_step (xa_iconst d_X12_isGain_64 xq_i_0) ?_
      exact xa_zret d_X12_isGain_65 rfl (Or.inl rfl) rfl
theorem ct_X12_isGain (l : Launch) (G : xa_C) (v0 v1 v2 : Int) (h : xa_H) (r : Int) (hr : f_X12_isGain v0 v1 v2 h = some r) : xa_CT l G 3 mX12_isGain yX12_isGain [xR v0, xI v1, xI v2] h (some (xI r), h) :=
  xa_met (by decide +kernel) rfl (fun q => by first | rfl | cases q) (Nat.le_of_ble_eq_true rfl) rfl (g_X12_isGain l G v0 v1 v2 h) (by rw [hr]; rfl)
abbrev mX12_gain : xa_M := (cX12_gain, 5, (some (.int)), RX12, false)
theorem d_X12_gain_0 : decode mX12_gain.1 0 = .ok (.aload_n 0, 1) ∧ 0 + 1 = 1 := ⟨by decide +kernel, rfl⟩
theorem d_X12_gain_1 : decode mX12_gain.1 1 = .ok (.iload_n 1, 1) ∧ 1 + 1 = 2 := ⟨by decide +kernel, rfl⟩
theorem d_X12_gain_2 : decode mX12_gain.1 2 = .ok (.invokevirtual 458, 3) ∧ 2 + 3 = 5 := ⟨by decide +kernel, rfl⟩
theorem d_X12_gain_5 : decode mX12_gain.1 5 = .ok (.ifCond .eq 13, 3) ∧ 5 + 3 = 8 ∧ ((5 : Nat) : Int) + 13 = ((18 : Nat) : Int) := ⟨by decide +kernel, rfl, rfl⟩
theorem d_X12_gain_18 : decode mX12_gain.1 18 = .ok (.iconst (-1), 1) ∧ 18 + 1 = 19 := ⟨by decide +kernel, rfl⟩
theorem d_X12_gain_19 : decode mX12_gain.1 19 = .ok (.ireturn, 1) := by decide +kernel
theorem d_X12_gain_8 : decode mX12_gain.1 8 = .ok (.iload_n 2, 1) ∧ 8 + 1 = 9 := ⟨by decide +kernel, rfl⟩
theorem d_X12_gain_9 : decode mX12_gain.1 9 = .ok (.i2l, 1) ∧ 9 + 1 = 10 := ⟨by decide +kernel, rfl⟩
theorem d_X12_gain_10 : decode mX12_gain.1 10 = .ok (.lconst 0, 1) ∧ 10 + 1 = 11 := ⟨by decide +kernel, rfl⟩
theorem d_X12_gain_11 : decode mX12_gain.1 11 = .ok (.lconst 1, 1) ∧ 11 + 1 = 12 := ⟨by decide +kernel, rfl⟩
theorem d_X12_gain_12 : decode mX12_gain.1 12 = .ok (.invokestatic 289, 3) ∧ 12 + 3 = 15 := ⟨by decide +kernel, rfl⟩
theorem d_X12_gain_15 : decode mX12_gain.1 15 = .ok (.ifCond .ne 5, 3) ∧ 15 + 3 = 18 ∧ ((15 : Nat) : Int) + 5 = ((20 : Nat) : Int) := ⟨by decide +kernel, rfl, rfl⟩
theorem d_X12_gain_20 : decode mX12_gain.1 20 = .ok (.iconst 0, 1) ∧ 20 + 1 = 21 := ⟨by decide +kernel, rfl⟩
theorem d_X12_gain_21 : decode mX12_gain.1 21 = .ok (.istore_n 3, 1) ∧ 21 + 1 = 22 := ⟨by decide +kernel, rfl⟩
theorem d_X12_gain_22 : decode mX12_gain.1 22 = .ok (.iconst 0, 1) ∧ 22 + 1 = 23 := ⟨by decide +kernel, rfl⟩
theorem d_X12_gain_23 : decode mX12_gain.1 23 = .ok (.istore 4, 2) ∧ 23 + 2 = 25 := ⟨by decide +kernel, rfl⟩
theorem d_X12_gain_25 : decode mX12_gain.1 25 = .ok (.iload 4, 2) ∧ 25 + 2 = 27 := ⟨by decide +kernel, rfl⟩
theorem d_X12_gain_27 : decode mX12_gain.1 27 = .ok (.aload_n 0, 1) ∧ 27 + 1 = 28 := ⟨by decide +kernel, rfl⟩
theorem d_X12_gain_28 : decode mX12_gain.1 28 = .ok (.invokevirtual 402, 3) ∧ 28 + 3 = 31 := ⟨by decide +kernel, rfl⟩
theorem d_X12_gain_31 : decode mX12_gain.1 31 = .ok (.if_icmp .ge 26, 3) ∧ 31 + 3 = 34 ∧ ((31 : Nat) : Int) + 26 = ((57 : Nat) : Int) := ⟨by decide +kernel, rfl, rfl⟩
theorem d_X12_gain_34 : decode mX12_gain.1 34 = .ok (.aload_n 0, 1) ∧ 34 + 1 = 35 := ⟨by decide +kernel, rfl⟩
theorem d_X12_gain_35 : decode mX12_gain.1 35 = .ok (.iload_n 1, 1) ∧ 35 + 1 = 36 := ⟨by decide +kernel, rfl⟩
theorem d_X12_gain_36 : decode mX12_gain.1 36 = .ok (.iload 4, 2) ∧ 36 + 2 = 38 := ⟨by decide +kernel, rfl⟩
theorem d_X12_gain_38 : decode mX12_gain.1 38 = .ok (.invokevirtual 542, 3) ∧ 38 + 3 = 41 := ⟨by decide +kernel, rfl⟩
theorem d_X12_gain_41 : decode mX12_gain.1 41 = .ok (.ifCond .eq 10, 3) ∧ 41 + 3 = 44 ∧ ((41 : Nat) : Int) + 10 = ((51 : Nat) : Int) := ⟨by decide +kernel, rfl, rfl⟩
theorem d_X12_gain_51 : decode mX12_gain.1 51 = .ok (.iinc 4 1, 3) ∧ 51 + 3 = 54 := ⟨by decide +kernel, rfl⟩
theorem d_X12_gain_54 : decode mX12_gain.1 54 = .ok (.goto (-29), 3) ∧ ((54 : Nat) : Int) + (-29) = ((25 : Nat) : Int) := ⟨by decide +kernel, rfl⟩
theorem d_X12_gain_44 : decode mX12_gain.1 44 = .ok (.iload_n 3, 1) ∧ 44 + 1 = 45 := ⟨by decide +kernel, rfl⟩
theorem d_X12_gain_45 : decode mX12_gain.1 45 = .ok (.iconst 1, 1) ∧ 45 + 1 = 46 := ⟨by decide +kernel, rfl⟩
theorem d_X12_gain_46 : decode mX12_gain.1 46 = .ok (.iload 4, 2) ∧ 46 + 2 = 48 := ⟨by decide +kernel, rfl⟩
theorem d_X12_gain_48 : decode mX12_gain.1 48 = .ok (.ishl, 1) ∧ 48 + 1 = 49 := ⟨by decide +kernel, rfl⟩
theorem d_X12_gain_49 : decode mX12_gain.1 49 = .ok (.ior, 1) ∧ 49 + 1 = 50 := ⟨by decide +kernel, rfl⟩
theorem d_X12_gain_50 : decode mX12_gain.1 50 = .ok (.istore_n 3, 1) ∧ 50 + 1 = 51 := ⟨by decide +kernel, rfl⟩
set_option maxRecDepth 100000 in
set_option maxHeartbeats 4000000 in
theorem g_X12_gain_L25 (l : Launch) (G : xa_C) (c0 c1 c2 : Int) (h : xa_H) (K : (Int × Int) ⊕ (Int) → Option xa_O) (hb : ∀ (v3 : Int) (v4 : Int), xa_G l G 4 mX12_gain (some (Sum.inl ((v3, v4)))) K 25 [some (xR c0), some (xI c1), some (xI c2), some (xI v3), some (xI v4)] [] h) (hx : ∀ (v3 : Int), xa_G l G 4 mX12_gain (some (Sum.inr v3)) K 57 [none, none, some (xI c2), some (xI v3), none] [] h) : ∀ (v3 : Int) (v4 : Int), xa_G l G 4 mX12_gain (f_X12_gain_L25 c0 c1 c2 h v3 v4) K 25 [some (xR c0), some (xI c1), some (xI c2), some (xI v3), some (xI v4)] [] h := by
  intro v3 v4
  unfold f_X12_gain_L25
  refine xa_step (xa_iload d_X12_gain_25 rfl) ?_
  refine xa_step (xa_aload_n d_X12_gain_27 rfl) ?_
  refine xa_callVi (as := []) (st := [xI v4]) (M' := mX12_holderMany) (d' := 2) rfl xw_1836 xw_1838 xw_108 xw_1839 xw_177 xh_X12_holderMany rfl ⟨Nat.le_of_ble_eq_true rfl, Nat.le_of_ble_eq_true rfl⟩ (Nat.le_of_ble_eq_true rfl) rfl d_X12_gain_28 (fun r hr => ct_X12_holderMany l G c0 h r hr) (fun r5 _ => ?_)
  refine xa_if (xa_icmpge d_X12_gain_31) (fun q6 => ?_) (fun q6 => ?_)
  · refine xa_step (xa_aload_n d_X12_gain_34 rfl) ?_
    refine xa_step (xa_iload_n d_X12_gain_35 rfl) ?_
    refine xa_step (xa_iload d_X12_gain_36 rfl) ?_
    refine xa_callVi (as := [xI c1, xI v4]) (st := []) (M' := mX12_isGain) (d' := 3) rfl xw_2021 xw_2023 xw_140 xw_2024 xw_177 xh_X12_isGain rfl ⟨Nat.le_of_ble_eq_true rfl, Nat.le_of_ble_eq_true rfl⟩ (Nat.le_of_ble_eq_true rfl) rfl d_X12_gain_38 (fun r hr => ct_X12_isGain l G c0 c1 v4 h r hr) (fun r7 _ => ?_)
    refine xa_if (xa_ifeq d_X12_gain_41) (fun q8 => ?_) (fun q8 => ?_)
    · refine xa_step (xa_iinc (ls' := [some (xR c0), some (xI c1), some (xI c2), some (xI v3), some (xI (w32 (v4 + 1)))]) d_X12_gain_51 xq_i_1 rfl (by decide) rfl) ?_
      refine xa_step (xa_goto d_X12_gain_54) ?_
      exact xa_weak (ls' := [some (xR c0), some (xI c1), some (xI c2), some (xI v3), some (xI (w32 (v4 + 1)))]) ⟨rfl, rfl, rfl, rfl, rfl, trivial⟩ (hb v3 (w32 (v4 + 1)))
    · refine xa_step (xa_iload_n d_X12_gain_44 rfl) ?_
      refine xa_step (xa_iconst d_X12_gain_45 xq_i_1) ?_
      refine xa_step (xa_iload d_X12_gain_46 rfl) ?_
      refine xa_step (xa_ishl d_X12_gain_48) ?_
      refine xa_step (xa_ior d_X12_gain_49) ?_
      refine xa_step (xa_istore_n (ls' := [some (xR c0), some (xI c1), some (xI c2), some (xI (xior v3 (xshl 1 v4))), some (xI v4)]) d_X12_gain_50 (by decide) rfl) ?_
      refine xa_step (xa_iinc (ls' := [some (xR c0), some (xI c1), some (xI c2), some (xI (xior v3 (xshl 1 v4))), some (xI (w32 (v4 + 1)))]) d_X12_gain_51 xq_i_1 rfl (by decide) rfl) ?_
      refine xa_step (xa_goto d_X12_gain_54) ?_
      exact xa_weak (ls' := [some (xR c0), some (xI c1), some (xI c2), some (xI (xior v3 (xshl 1 v4))), some (xI (w32 (v4 + 1)))]) ⟨rfl, rfl, rfl, rfl, rfl, trivial⟩ (hb (xior v3 (xshl 1 v4)) (w32 (v4 + 1)))
  · exact xa_weak (ls' := [none, none, some (xI c2), some (xI v3), none]) ⟨rfl, rfl, trivial⟩ (hx v3)
theorem d_X12_gain_57 : decode mX12_gain.1 57 = .ok (.iload_n 2, 1) ∧ 57 + 1 = 58 := ⟨by decide +kernel, rfl⟩
theorem d_X12_gain_58 : decode mX12_gain.1 58 = .ok (.ifCond .ne 10, 3) ∧ 58 + 3 = 61 ∧ ((58 : Nat) : Int) + 10 = ((68 : Nat) : Int) := ⟨by decide +kernel, rfl, rfl⟩
theorem d_X12_gain_61 : decode mX12_gain.1 61 = .ok (.iload_n 3, 1) ∧ 61 + 1 = 62 := ⟨by decide +kernel, rfl⟩
theorem d_X12_gain_62 : decode mX12_gain.1 62 = .ok (.invokestatic 545, 3) ∧ 62 + 3 = 65 := ⟨by decide +kernel, rfl⟩
theorem d_X12_gain_65 : decode mX12_gain.1 65 = .ok (.goto 4, 3) ∧ ((65 : Nat) : Int) + 4 = ((69 : Nat) : Int) := ⟨by decide +kernel, rfl⟩
theorem d_X12_gain_69 : decode mX12_gain.1 69 = .ok (.ireturn, 1) := by decide +kernel
theorem d_X12_gain_68 : decode mX12_gain.1 68 = .ok (.iload_n 3, 1) ∧ 68 + 1 = 69 := ⟨by decide +kernel, rfl⟩
set_option maxRecDepth 100000 in
set_option maxHeartbeats 4000000 in
theorem g_X12_gain (l : Launch) (G : xa_C) (v0 v1 v2 : Int) (h : xa_H) : xa_G l G 4 mX12_gain (f_X12_gain v0 v1 v2 h) (fun r => some (some (xI r), h) : Int → Option xa_O) 0 [some (xR v0), some (xI v1), some (xI v2), none, none] [] h := by
  unfold f_X12_gain
  refine xa_step (xa_aload_n d_X12_gain_0 rfl) ?_
  refine xa_step (xa_iload_n d_X12_gain_1 rfl) ?_
  refine xa_callVi (as := [xI v1]) (st := []) (M' := mX12_isHolder) (d' := 3) rfl xw_1889 xw_1891 xw_118 xw_1892 xw_177 xh_X12_isHolder rfl ⟨Nat.le_of_ble_eq_true rfl, Nat.le_of_ble_eq_true rfl⟩ (Nat.le_of_ble_eq_true rfl) rfl d_X12_gain_2 (fun r hr => ct_X12_isHolder l G v0 v1 h r hr) (fun r1 _ => ?_)
  refine xa_if (xa_ifeq d_X12_gain_5) (fun q2 => ?_) (fun q2 => ?_)
  · refine xa_step (xa_iconst d_X12_gain_18 xq_i_m1) ?_
    exact xa_iret d_X12_gain_19 rfl rfl
  · refine xa_step (xa_iload_n d_X12_gain_8 rfl) ?_
    refine xa_step (xa_i2l d_X12_gain_9) ?_
    refine xa_step (xa_lconst d_X12_gain_10 rfl) ?_
    refine xa_step (xa_lconst d_X12_gain_11 rfl) ?_
    refine xa_callSi (as := [xL v2, xL 0, xL 1]) (st := []) (M' := mX12_isIn) (d' := 2) xw_1706 xw_1707 xw_1708 xw_177 xh_X12_isIn rfl ⟨Nat.le_of_ble_eq_true rfl, Nat.le_of_ble_eq_true rfl⟩ (Nat.le_of_ble_eq_true rfl) rfl d_X12_gain_12 (fun r hr => ct_X12_isIn l G v2 0 1 h r hr) (fun r3 _ => ?_)
    refine xa_if (xa_ifne d_X12_gain_15) (fun q4 => ?_) (fun q4 => ?_)
    · refine xa_step (xa_iconst d_X12_gain_18 xq_i_m1) ?_
      exact xa_iret d_X12_gain_19 rfl rfl
    · refine xa_step (xa_iconst d_X12_gain_20 xq_i_0) ?_
      refine xa_step (xa_istore_n (ls' := [some (xR v0), some (xI v1), some (xI v2), some (xI 0), none]) d_X12_gain_21 (by decide) rfl) ?_
      refine xa_step (xa_iconst d_X12_gain_22 xq_i_0) ?_
      refine xa_step (xa_istore (ls' := [some (xR v0), some (xI v1), some (xI v2), some (xI 0), some (xI 0)]) d_X12_gain_23 (by decide) rfl) ?_
      refine xa_weak (ls' := [some (xR v0), some (xI v1), some (xI v2), some (xI 0), some (xI 0)]) ⟨rfl, rfl, rfl, rfl, rfl, trivial⟩ ?_
      refine xa_loop (f := fun s => f_X12_gain_L25 v0 v1 v2 h s.1 s.2) (L := fun s => [some (xR v0), some (xI v1), some (xI v2), some (xI s.1), some (xI s.2)]) (P := fun s => h) (X := (fun x K => xa_G l G 4 mX12_gain (some (Sum.inr x)) K 57 [none, none, some (xI v2), some (xI x), none] [] h)) (fun K hb hX s => g_X12_gain_L25 l G v0 v1 v2 h K (fun w0 w1 => hb ((w0, w1))) (fun w0 => hX w0) s.1 s.2) ?_ xFU ((0, 0))
      intro e9 K hK
      refine xa_eqE hK ?_
      show xa_G l G 4 mX12_gain _ _ 57 [none, none, some (xI v2), some (xI e9), none] [] h
      refine xa_step (xa_iload_n d_X12_gain_57 rfl) ?_
      refine xa_if (xa_ifne d_X12_gain_58) (fun q10 => ?_) (fun q10 => ?_)
      · refine xa_step (xa_iload_n d_X12_gain_61 rfl) ?_
        refine xa_callSi (as := [xI e9]) (st := []) (M' := mX12_bits) (d' := 2) xw_2025 xw_2026 xw_2027 xw_177 xh_X12_bits rfl ⟨Nat.le_of_ble_eq_true rfl, Nat.le_of_ble_eq_true rfl⟩ (Nat.le_of_ble_eq_true rfl) rfl d_X12_gain_62 (fun r hr => ct_X12_bits l G e9 h r hr) (fun r11 _ => ?_)
        refine xa_step (xa_goto d_X12_gain_65) ?_
        exact xa_iret d_X12_gain_69 rfl rfl
      · refine xa_step (xa_iload_n d_X12_gain_68 rfl) ?_
        exact xa_iret d_X12_gain_69 rfl rfl
theorem ct_X12_gain (l : Launch) (G : xa_C) (v0 v1 v2 : Int) (h : xa_H) (r : Int) (hr : f_X12_gain v0 v1 v2 h = some r) : xa_CT l G 4 mX12_gain yX12_gain [xR v0, xI v1, xI v2] h (some (xI r), h) :=
  xa_met (by decide +kernel) rfl (fun q => by first | rfl | cases q) (Nat.le_of_ble_eq_true rfl) rfl (g_X12_gain l G v0 v1 v2 h) (by rw [hr]; rfl)
abbrev mX12_isSettled : xa_M := (cX12_isSettled, 2, (some (.boolean)), RX12, false)
theorem d_X12_isSettled_0 : decode mX12_isSettled.1 0 = .ok (.aload_n 0, 1) ∧ 0 + 1 = 1 := ⟨by decide +kernel, rfl⟩
theorem d_X12_isSettled_1 : decode mX12_isSettled.1 1 = .ok (.iload_n 1, 1) ∧ 1 + 1 = 2 := ⟨by decide +kernel, rfl⟩
theorem d_X12_isSettled_2 : decode mX12_isSettled.1 2 = .ok (.invokevirtual 405, 3) ∧ 2 + 3 = 5 := ⟨by decide +kernel, rfl⟩
theorem d_X12_isSettled_5 : decode mX12_isSettled.1 5 = .ok (.aload_n 0, 1) ∧ 5 + 1 = 6 := ⟨by decide +kernel, rfl⟩
theorem d_X12_isSettled_6 : decode mX12_isSettled.1 6 = .ok (.iload_n 1, 1) ∧ 6 + 1 = 7 := ⟨by decide +kernel, rfl⟩
theorem d_X12_isSettled_7 : decode mX12_isSettled.1 7 = .ok (.invokevirtual 408, 3) ∧ 7 + 3 = 10 := ⟨by decide +kernel, rfl⟩
theorem d_X12_isSettled_10 : decode mX12_isSettled.1 10 = .ok (.if_icmp .ne 7, 3) ∧ 10 + 3 = 13 ∧ ((10 : Nat) : Int) + 7 = ((17 : Nat) : Int) := ⟨by decide +kernel, rfl, rfl⟩
theorem d_X12_isSettled_13 : decode mX12_isSettled.1 13 = .ok (.iconst 1, 1) ∧ 13 + 1 = 14 := ⟨by decide +kernel, rfl⟩
theorem d_X12_isSettled_14 : decode mX12_isSettled.1 14 = .ok (.goto 4, 3) ∧ ((14 : Nat) : Int) + 4 = ((18 : Nat) : Int) := ⟨by decide +kernel, rfl⟩
theorem d_X12_isSettled_18 : decode mX12_isSettled.1 18 = .ok (.ireturn, 1) := by decide +kernel
theorem d_X12_isSettled_17 : decode mX12_isSettled.1 17 = .ok (.iconst 0, 1) ∧ 17 + 1 = 18 := ⟨by decide +kernel, rfl⟩
set_option maxRecDepth 100000 in
set_option maxHeartbeats 4000000 in
theorem g_X12_isSettled (l : Launch) (G : xa_C) (v0 v1 : Int) (h : xa_H) : xa_G l G 3 mX12_isSettled (f_X12_isSettled v0 v1 h) (fun r => some (some (xI r), h) : Int → Option xa_O) 0 [some (xR v0), some (xI v1)] [] h := by
  unfold f_X12_isSettled
  refine xa_step (xa_aload_n d_X12_isSettled_0 rfl) ?_
  refine xa_step (xa_iload_n d_X12_isSettled_1 rfl) ?_
  refine xa_callVi (as := [xI v1]) (st := []) (M' := mX12_hadBy) (d' := 2) rfl xw_1844 xw_1846 xw_110 xw_1847 xw_177 xh_X12_hadBy rfl ⟨Nat.le_of_ble_eq_true rfl, Nat.le_of_ble_eq_true rfl⟩ (Nat.le_of_ble_eq_true rfl) rfl d_X12_isSettled_2 (fun r hr => ct_X12_hadBy l G v0 v1 h r hr) (fun r1 _ => ?_)
  refine xa_step (xa_aload_n d_X12_isSettled_5 rfl) ?_
  refine xa_step (xa_iload_n d_X12_isSettled_6 rfl) ?_
  refine xa_callVi (as := [xI v1]) (st := [xI r1]) (M' := mX12_wantedBy) (d' := 2) rfl xw_1848 xw_1850 xw_111 xw_1851 xw_177 xh_X12_wantedBy rfl ⟨Nat.le_of_ble_eq_true rfl, Nat.le_of_ble_eq_true rfl⟩ (Nat.le_of_ble_eq_true rfl) rfl d_X12_isSettled_7 (fun r hr => ct_X12_wantedBy l G v0 v1 h r hr) (fun r2 _ => ?_)
  refine xa_if (xa_icmpne d_X12_isSettled_10) (fun q3 => ?_) (fun q3 => ?_)
  · refine xa_step (xa_iconst d_X12_isSettled_13 xq_i_1) ?_
    refine xa_step (xa_goto d_X12_isSettled_14) ?_
    exact xa_zret d_X12_isSettled_18 rfl (Or.inr rfl) rfl
  · refine xa_step (xa_iconst d_X12_isSettled_17 xq_i_0) ?_
    exact xa_zret d_X12_isSettled_18 rfl (Or.inl rfl) rfl
theorem ct_X12_isSettled (l : Launch) (G : xa_C) (v0 v1 : Int) (h : xa_H) (r : Int) (hr : f_X12_isSettled v0 v1 h = some r) : xa_CT l G 3 mX12_isSettled yX12_isSettled [xR v0, xI v1] h (some (xI r), h) :=
  xa_met (by decide +kernel) rfl (fun q => by first | rfl | cases q) (Nat.le_of_ble_eq_true rfl) rfl (g_X12_isSettled l G v0 v1 h) (by rw [hr]; rfl)
abbrev mX12_sumOf : xa_M := (cX12_sumOf, 4, (some (.int)), RX12, false)
theorem d_X12_sumOf_0 : decode mX12_sumOf.1 0 = .ok (.iconst 0, 1) ∧ 0 + 1 = 1 := ⟨by decide +kernel, rfl⟩
theorem d_X12_sumOf_1 : decode mX12_sumOf.1 1 = .ok (.istore_n 2, 1) ∧ 1 + 1 = 2 := ⟨by decide +kernel, rfl⟩
theorem d_X12_sumOf_2 : decode mX12_sumOf.1 2 = .ok (.iconst 0, 1) ∧ 2 + 1 = 3 := ⟨by decide +kernel, rfl⟩
theorem d_X12_sumOf_3 : decode mX12_sumOf.1 3 = .ok (.istore_n 3, 1) ∧ 3 + 1 = 4 := ⟨by decide +kernel, rfl⟩
theorem d_X12_sumOf_4 : decode mX12_sumOf.1 4 = .ok (.iload_n 3, 1) ∧ 4 + 1 = 5 := ⟨by decide +kernel, rfl⟩
theorem d_X12_sumOf_5 : decode mX12_sumOf.1 5 = .ok (.aload_n 0, 1) ∧ 5 + 1 = 6 := ⟨by decide +kernel, rfl⟩
theorem d_X12_sumOf_6 : decode mX12_sumOf.1 6 = .ok (.invokevirtual 402, 3) ∧ 6 + 3 = 9 := ⟨by decide +kernel, rfl⟩
theorem d_X12_sumOf_9 : decode mX12_sumOf.1 9 = .ok (.if_icmp .ge 57, 3) ∧ 9 + 3 = 12 ∧ ((9 : Nat) : Int) + 57 = ((66 : Nat) : Int) := ⟨by decide +kernel, rfl, rfl⟩
theorem d_X12_sumOf_12 : decode mX12_sumOf.1 12 = .ok (.iload_n 2, 1) ∧ 12 + 1 = 13 := ⟨by decide +kernel, rfl⟩
theorem d_X12_sumOf_13 : decode mX12_sumOf.1 13 = .ok (.iload_n 1, 1) ∧ 13 + 1 = 14 := ⟨by decide +kernel, rfl⟩
theorem d_X12_sumOf_14 : decode mX12_sumOf.1 14 = .ok (.iconst 5, 1) ∧ 14 + 1 = 15 := ⟨by decide +kernel, rfl⟩
theorem d_X12_sumOf_15 : decode mX12_sumOf.1 15 = .ok (.if_icmp .ne 19, 3) ∧ 15 + 3 = 18 ∧ ((15 : Nat) : Int) + 19 = ((34 : Nat) : Int) := ⟨by decide +kernel, rfl, rfl⟩
theorem d_X12_sumOf_18 : decode mX12_sumOf.1 18 = .ok (.aload_n 0, 1) ∧ 18 + 1 = 19 := ⟨by decide +kernel, rfl⟩
theorem d_X12_sumOf_19 : decode mX12_sumOf.1 19 = .ok (.iload_n 3, 1) ∧ 19 + 1 = 20 := ⟨by decide +kernel, rfl⟩
theorem d_X12_sumOf_20 : decode mX12_sumOf.1 20 = .ok (.invokevirtual 480, 3) ∧ 20 + 3 = 23 := ⟨by decide +kernel, rfl⟩
theorem d_X12_sumOf_23 : decode mX12_sumOf.1 23 = .ok (.ifCond .eq 7, 3) ∧ 23 + 3 = 26 ∧ ((23 : Nat) : Int) + 7 = ((30 : Nat) : Int) := ⟨by decide +kernel, rfl, rfl⟩
theorem d_X12_sumOf_30 : decode mX12_sumOf.1 30 = .ok (.iconst 0, 1) ∧ 30 + 1 = 31 := ⟨by decide +kernel, rfl⟩
theorem d_X12_sumOf_31 : decode mX12_sumOf.1 31 = .ok (.goto 27, 3) ∧ ((31 : Nat) : Int) + 27 = ((58 : Nat) : Int) := ⟨by decide +kernel, rfl⟩
theorem d_X12_sumOf_58 : decode mX12_sumOf.1 58 = .ok (.iadd, 1) ∧ 58 + 1 = 59 := ⟨by decide +kernel, rfl⟩
theorem d_X12_sumOf_59 : decode mX12_sumOf.1 59 = .ok (.istore_n 2, 1) ∧ 59 + 1 = 60 := ⟨by decide +kernel, rfl⟩
theorem d_X12_sumOf_60 : decode mX12_sumOf.1 60 = .ok (.iinc 3 1, 3) ∧ 60 + 3 = 63 := ⟨by decide +kernel, rfl⟩
theorem d_X12_sumOf_63 : decode mX12_sumOf.1 63 = .ok (.goto (-59), 3) ∧ ((63 : Nat) : Int) + (-59) = ((4 : Nat) : Int) := ⟨by decide +kernel, rfl⟩
theorem d_X12_sumOf_26 : decode mX12_sumOf.1 26 = .ok (.iconst 1, 1) ∧ 26 + 1 = 27 := ⟨by decide +kernel, rfl⟩
theorem d_X12_sumOf_27 : decode mX12_sumOf.1 27 = .ok (.goto 31, 3) ∧ ((27 : Nat) : Int) + 31 = ((58 : Nat) : Int) := ⟨by decide +kernel, rfl⟩
theorem d_X12_sumOf_34 : decode mX12_sumOf.1 34 = .ok (.iload_n 1, 1) ∧ 34 + 1 = 35 := ⟨by decide +kernel, rfl⟩
theorem d_X12_sumOf_35 : decode mX12_sumOf.1 35 = .ok (.bipush 6, 2) ∧ 35 + 2 = 37 := ⟨by decide +kernel, rfl⟩
theorem d_X12_sumOf_37 : decode mX12_sumOf.1 37 = .ok (.if_icmp .ne 11, 3) ∧ 37 + 3 = 40 ∧ ((37 : Nat) : Int) + 11 = ((48 : Nat) : Int) := ⟨by decide +kernel, rfl, rfl⟩
theorem d_X12_sumOf_40 : decode mX12_sumOf.1 40 = .ok (.aload_n 0, 1) ∧ 40 + 1 = 41 := ⟨by decide +kernel, rfl⟩
theorem d_X12_sumOf_41 : decode mX12_sumOf.1 41 = .ok (.iload_n 3, 1) ∧ 41 + 1 = 42 := ⟨by decide +kernel, rfl⟩
theorem d_X12_sumOf_42 : decode mX12_sumOf.1 42 = .ok (.invokevirtual 477, 3) ∧ 42 + 3 = 45 := ⟨by decide +kernel, rfl⟩
theorem d_X12_sumOf_45 : decode mX12_sumOf.1 45 = .ok (.goto 13, 3) ∧ ((45 : Nat) : Int) + 13 = ((58 : Nat) : Int) := ⟨by decide +kernel, rfl⟩
theorem d_X12_sumOf_48 : decode mX12_sumOf.1 48 = .ok (.aload_n 0, 1) ∧ 48 + 1 = 49 := ⟨by decide +kernel, rfl⟩
theorem d_X12_sumOf_49 : decode mX12_sumOf.1 49 = .ok (.iload_n 3, 1) ∧ 49 + 1 = 50 := ⟨by decide +kernel, rfl⟩
theorem d_X12_sumOf_50 : decode mX12_sumOf.1 50 = .ok (.aload_n 0, 1) ∧ 50 + 1 = 51 := ⟨by decide +kernel, rfl⟩
theorem d_X12_sumOf_51 : decode mX12_sumOf.1 51 = .ok (.iload_n 3, 1) ∧ 51 + 1 = 52 := ⟨by decide +kernel, rfl⟩
theorem d_X12_sumOf_52 : decode mX12_sumOf.1 52 = .ok (.invokevirtual 405, 3) ∧ 52 + 3 = 55 := ⟨by decide +kernel, rfl⟩
theorem d_X12_sumOf_55 : decode mX12_sumOf.1 55 = .ok (.invokevirtual 411, 3) ∧ 55 + 3 = 58 := ⟨by decide +kernel, rfl⟩
set_option maxRecDepth 100000 in
set_option maxHeartbeats 4000000 in
theorem g_X12_sumOf_L4 (l : Launch) (G : xa_C) (c0 c1 : Int) (h : xa_H) (K : (Int × Int) ⊕ (Int) → Option xa_O) (hb : ∀ (v2 : Int) (v3 : Int), xa_G l G 4 mX12_sumOf (some (Sum.inl ((v2, v3)))) K 4 [some (xR c0), some (xI c1), some (xI v2), some (xI v3)] [] h) (hx : ∀ (v2 : Int), xa_G l G 4 mX12_sumOf (some (Sum.inr v2)) K 66 [none, none, some (xI v2), none] [] h) : ∀ (v2 : Int) (v3 : Int), xa_G l G 4 mX12_sumOf (f_X12_sumOf_L4 c0 c1 h v2 v3) K 4 [some (xR c0), some (xI c1), some (xI v2), some (xI v3)] [] h := by
  intro v2 v3
  unfold f_X12_sumOf_L4
  refine xa_step (xa_iload_n d_X12_sumOf_4 rfl) ?_
  refine xa_step (xa_aload_n d_X12_sumOf_5 rfl) ?_
  refine xa_callVi (as := []) (st := [xI v3]) (M' := mX12_holderMany) (d' := 2) rfl xw_1836 xw_1838 xw_108 xw_1839 xw_177 xh_X12_holderMany rfl ⟨Nat.le_of_ble_eq_true rfl, Nat.le_of_ble_eq_true rfl⟩ (Nat.le_of_ble_eq_true rfl) rfl d_X12_sumOf_6 (fun r hr => ct_X12_holderMany l G c0 h r hr) (fun r1 _ => ?_)
  refine xa_if (xa_icmpge d_X12_sumOf_9) (fun q2 => ?_) (fun q2 => ?_)
  · refine xa_step (xa_iload_n d_X12_sumOf_12 rfl) ?_
    refine xa_step (xa_iload_n d_X12_sumOf_13 rfl) ?_
    refine xa_step (xa_iconst d_X12_sumOf_14 xq_i_5) ?_
    refine xa_if (xa_icmpne d_X12_sumOf_15) (fun q3 => ?_) (fun q3 => ?_)
    · refine xa_step (xa_aload_n d_X12_sumOf_18 rfl) ?_
      refine xa_step (xa_iload_n d_X12_sumOf_19 rfl) ?_
      refine xa_callVi (as := [xI v3]) (st := [xI v2]) (M' := mX12_isSettled) (d' := 3) rfl xw_1840 xw_1842 xw_109 xw_1843 xw_177 xh_X12_isSettled rfl ⟨Nat.le_of_ble_eq_true rfl, Nat.le_of_ble_eq_true rfl⟩ (Nat.le_of_ble_eq_true rfl) rfl d_X12_sumOf_20 (fun r hr => ct_X12_isSettled l G c0 v3 h r hr) (fun r4 _ => ?_)
      refine xa_if (xa_ifeq d_X12_sumOf_23) (fun q5 => ?_) (fun q5 => ?_)
      · refine xa_step (xa_iconst d_X12_sumOf_30 xq_i_0) ?_
        refine xa_step (xa_goto d_X12_sumOf_31) ?_
        refine xa_step (xa_iadd d_X12_sumOf_58) ?_
        refine xa_step (xa_istore_n (ls' := [some (xR c0), some (xI c1), some (xI (w32 (v2 + 0))), some (xI v3)]) d_X12_sumOf_59 (by decide) rfl) ?_
        refine xa_step (xa_iinc (ls' := [some (xR c0), some (xI c1), some (xI (w32 (v2 + 0))), some (xI (w32 (v3 + 1)))]) d_X12_sumOf_60 xq_i_1 rfl (by decide) rfl) ?_
        refine xa_step (xa_goto d_X12_sumOf_63) ?_
        exact xa_weak (ls' := [some (xR c0), some (xI c1), some (xI (w32 (v2 + 0))), some (xI (w32 (v3 + 1)))]) ⟨rfl, rfl, rfl, rfl, trivial⟩ (hb (w32 (v2 + 0)) (w32 (v3 + 1)))
      · refine xa_step (xa_iconst d_X12_sumOf_26 xq_i_1) ?_
        refine xa_step (xa_goto d_X12_sumOf_27) ?_
        refine xa_step (xa_iadd d_X12_sumOf_58) ?_
        refine xa_step (xa_istore_n (ls' := [some (xR c0), some (xI c1), some (xI (w32 (v2 + 1))), some (xI v3)]) d_X12_sumOf_59 (by decide) rfl) ?_
        refine xa_step (xa_iinc (ls' := [some (xR c0), some (xI c1), some (xI (w32 (v2 + 1))), some (xI (w32 (v3 + 1)))]) d_X12_sumOf_60 xq_i_1 rfl (by decide) rfl) ?_
        refine xa_step (xa_goto d_X12_sumOf_63) ?_
        exact xa_weak (ls' := [some (xR c0), some (xI c1), some (xI (w32 (v2 + 1))), some (xI (w32 (v3 + 1)))]) ⟨rfl, rfl, rfl, rfl, trivial⟩ (hb (w32 (v2 + 1)) (w32 (v3 + 1)))
    · refine xa_step (xa_iload_n d_X12_sumOf_34 rfl) ?_
      refine xa_step (xa_bipush d_X12_sumOf_35 xq_b_6) ?_
      refine xa_if (xa_icmpne d_X12_sumOf_37) (fun q6 => ?_) (fun q6 => ?_)
      · refine xa_step (xa_aload_n d_X12_sumOf_40 rfl) ?_
        refine xa_step (xa_iload_n d_X12_sumOf_41 rfl) ?_
        refine xa_callVi (as := [xI v3]) (st := [xI v2]) (M' := mX12_purseOf) (d' := 2) rfl xw_1852 xw_1854 xw_112 xw_1855 xw_177 xh_X12_purseOf rfl ⟨Nat.le_of_ble_eq_true rfl, Nat.le_of_ble_eq_true rfl⟩ (Nat.le_of_ble_eq_true rfl) rfl d_X12_sumOf_42 (fun r hr => ct_X12_purseOf l G c0 v3 h r hr) (fun r7 _ => ?_)
        refine xa_step (xa_goto d_X12_sumOf_45) ?_
        refine xa_step (xa_iadd d_X12_sumOf_58) ?_
        refine xa_step (xa_istore_n (ls' := [some (xR c0), some (xI c1), some (xI (w32 (v2 + r7))), some (xI v3)]) d_X12_sumOf_59 (by decide) rfl) ?_
        refine xa_step (xa_iinc (ls' := [some (xR c0), some (xI c1), some (xI (w32 (v2 + r7))), some (xI (w32 (v3 + 1)))]) d_X12_sumOf_60 xq_i_1 rfl (by decide) rfl) ?_
        refine xa_step (xa_goto d_X12_sumOf_63) ?_
        exact xa_weak (ls' := [some (xR c0), some (xI c1), some (xI (w32 (v2 + r7))), some (xI (w32 (v3 + 1)))]) ⟨rfl, rfl, rfl, rfl, trivial⟩ (hb (w32 (v2 + r7)) (w32 (v3 + 1)))
      · refine xa_step (xa_aload_n d_X12_sumOf_48 rfl) ?_
        refine xa_step (xa_iload_n d_X12_sumOf_49 rfl) ?_
        refine xa_step (xa_aload_n d_X12_sumOf_50 rfl) ?_
        refine xa_step (xa_iload_n d_X12_sumOf_51 rfl) ?_
        refine xa_callVi (as := [xI v3]) (st := [xI v3, xR c0, xI v2]) (M' := mX12_hadBy) (d' := 2) rfl xw_1844 xw_1846 xw_110 xw_1847 xw_177 xh_X12_hadBy rfl ⟨Nat.le_of_ble_eq_true rfl, Nat.le_of_ble_eq_true rfl⟩ (Nat.le_of_ble_eq_true rfl) rfl d_X12_sumOf_52 (fun r hr => ct_X12_hadBy l G c0 v3 h r hr) (fun r8 _ => ?_)
        refine xa_callVi (as := [xI v3, xI r8]) (st := [xI v2]) (M' := mX12_valueOf) (d' := 2) rfl xw_1856 xw_1858 xw_113 xw_1859 xw_177 xh_X12_valueOf rfl ⟨Nat.le_of_ble_eq_true rfl, Nat.le_of_ble_eq_true rfl⟩ (Nat.le_of_ble_eq_true rfl) rfl d_X12_sumOf_55 (fun r hr => ct_X12_valueOf l G c0 v3 r8 h r hr) (fun r9 _ => ?_)
        refine xa_step (xa_iadd d_X12_sumOf_58) ?_
        refine xa_step (xa_istore_n (ls' := [some (xR c0), some (xI c1), some (xI (w32 (v2 + r9))), some (xI v3)]) d_X12_sumOf_59 (by decide) rfl) ?_
        refine xa_step (xa_iinc (ls' := [some (xR c0), some (xI c1), some (xI (w32 (v2 + r9))), some (xI (w32 (v3 + 1)))]) d_X12_sumOf_60 xq_i_1 rfl (by decide) rfl) ?_
        refine xa_step (xa_goto d_X12_sumOf_63) ?_
        exact xa_weak (ls' := [some (xR c0), some (xI c1), some (xI (w32 (v2 + r9))), some (xI (w32 (v3 + 1)))]) ⟨rfl, rfl, rfl, rfl, trivial⟩ (hb (w32 (v2 + r9)) (w32 (v3 + 1)))
  · exact xa_weak (ls' := [none, none, some (xI v2), none]) ⟨rfl, trivial⟩ (hx v2)
theorem d_X12_sumOf_66 : decode mX12_sumOf.1 66 = .ok (.iload_n 2, 1) ∧ 66 + 1 = 67 := ⟨by decide +kernel, rfl⟩
theorem d_X12_sumOf_67 : decode mX12_sumOf.1 67 = .ok (.ireturn, 1) := by decide +kernel
set_option maxRecDepth 100000 in
set_option maxHeartbeats 4000000 in
theorem g_X12_sumOf (l : Launch) (G : xa_C) (v0 v1 : Int) (h : xa_H) : xa_G l G 4 mX12_sumOf (f_X12_sumOf v0 v1 h) (fun r => some (some (xI r), h) : Int → Option xa_O) 0 [some (xR v0), some (xI v1), none, none] [] h := by
  unfold f_X12_sumOf
  refine xa_step (xa_iconst d_X12_sumOf_0 xq_i_0) ?_
  refine xa_step (xa_istore_n (ls' := [some (xR v0), some (xI v1), some (xI 0), none]) d_X12_sumOf_1 (by decide) rfl) ?_
  refine xa_step (xa_iconst d_X12_sumOf_2 xq_i_0) ?_
  refine xa_step (xa_istore_n (ls' := [some (xR v0), some (xI v1), some (xI 0), some (xI 0)]) d_X12_sumOf_3 (by decide) rfl) ?_
  refine xa_weak (ls' := [some (xR v0), some (xI v1), some (xI 0), some (xI 0)]) ⟨rfl, rfl, rfl, rfl, trivial⟩ ?_
  refine xa_loop (f := fun s => f_X12_sumOf_L4 v0 v1 h s.1 s.2) (L := fun s => [some (xR v0), some (xI v1), some (xI s.1), some (xI s.2)]) (P := fun s => h) (X := (fun x K => xa_G l G 4 mX12_sumOf (some (Sum.inr x)) K 66 [none, none, some (xI x), none] [] h)) (fun K hb hX s => g_X12_sumOf_L4 l G v0 v1 h K (fun w0 w1 => hb ((w0, w1))) (fun w0 => hX w0) s.1 s.2) ?_ xFU ((0, 0))
  intro e10 K hK
  refine xa_eqE hK ?_
  show xa_G l G 4 mX12_sumOf _ _ 66 [none, none, some (xI e10), none] [] h
  refine xa_step (xa_iload_n d_X12_sumOf_66 rfl) ?_
  exact xa_iret d_X12_sumOf_67 rfl rfl
theorem ct_X12_sumOf (l : Launch) (G : xa_C) (v0 v1 : Int) (h : xa_H) (r : Int) (hr : f_X12_sumOf v0 v1 h = some r) : xa_CT l G 4 mX12_sumOf yX12_sumOf [xR v0, xI v1] h (some (xI r), h) :=
  xa_met (by decide +kernel) rfl (fun q => by first | rfl | cases q) (Nat.le_of_ble_eq_true rfl) rfl (g_X12_sumOf l G v0 v1 h) (by rw [hr]; rfl)
abbrev mX12_has : xa_M := (cX12_has, 2, (some (.int)), RX12, false)
theorem d_X12_has_0 : decode mX12_has.1 0 = .ok (.iload_n 1, 1) ∧ 0 + 1 = 1 := ⟨by decide +kernel, rfl⟩
theorem d_X12_has_1 : decode mX12_has.1 1 = .ok (.tableswitch 106 0 10 #[59, 59, 59, 68, 75, 82, 82, 82, 88, 96, 101], 59) := by decide +kernel
theorem d_X12_has_60 : decode mX12_has.1 60 = .ok (.aload_n 0, 1) ∧ 60 + 1 = 61 := ⟨by decide +kernel, rfl⟩
theorem d_X12_has_61 : decode mX12_has.1 61 = .ok (.getfield 90, 3) ∧ 61 + 3 = 64 := ⟨by decide +kernel, rfl⟩
theorem d_X12_has_64 : decode mX12_has.1 64 = .ok (.iconst 3, 1) ∧ 64 + 1 = 65 := ⟨by decide +kernel, rfl⟩
theorem d_X12_has_65 : decode mX12_has.1 65 = .ok (.iload_n 1, 1) ∧ 65 + 1 = 66 := ⟨by decide +kernel, rfl⟩
theorem d_X12_has_66 : decode mX12_has.1 66 = .ok (.iadd, 1) ∧ 66 + 1 = 67 := ⟨by decide +kernel, rfl⟩
theorem d_X12_has_67 : decode mX12_has.1 67 = .ok (.iaload, 1) ∧ 67 + 1 = 68 := ⟨by decide +kernel, rfl⟩
theorem d_X12_has_68 : decode mX12_has.1 68 = .ok (.ireturn, 1) := by decide +kernel
theorem d_X12_has_69 : decode mX12_has.1 69 = .ok (.aload_n 0, 1) ∧ 69 + 1 = 70 := ⟨by decide +kernel, rfl⟩
theorem d_X12_has_70 : decode mX12_has.1 70 = .ok (.getfield 118, 3) ∧ 70 + 3 = 73 := ⟨by decide +kernel, rfl⟩
theorem d_X12_has_73 : decode mX12_has.1 73 = .ok (.iconst 1, 1) ∧ 73 + 1 = 74 := ⟨by decide +kernel, rfl⟩
theorem d_X12_has_74 : decode mX12_has.1 74 = .ok (.iaload, 1) ∧ 74 + 1 = 75 := ⟨by decide +kernel, rfl⟩
theorem d_X12_has_75 : decode mX12_has.1 75 = .ok (.ireturn, 1) := by decide +kernel
theorem d_X12_has_76 : decode mX12_has.1 76 = .ok (.aload_n 0, 1) ∧ 76 + 1 = 77 := ⟨by decide +kernel, rfl⟩
theorem d_X12_has_77 : decode mX12_has.1 77 = .ok (.getfield 130, 3) ∧ 77 + 3 = 80 := ⟨by decide +kernel, rfl⟩
theorem d_X12_has_80 : decode mX12_has.1 80 = .ok (.iconst 0, 1) ∧ 80 + 1 = 81 := ⟨by decide +kernel, rfl⟩
theorem d_X12_has_81 : decode mX12_has.1 81 = .ok (.iaload, 1) ∧ 81 + 1 = 82 := ⟨by decide +kernel, rfl⟩
theorem d_X12_has_82 : decode mX12_has.1 82 = .ok (.ireturn, 1) := by decide +kernel
theorem d_X12_has_83 : decode mX12_has.1 83 = .ok (.aload_n 0, 1) ∧ 83 + 1 = 84 := ⟨by decide +kernel, rfl⟩
theorem d_X12_has_84 : decode mX12_has.1 84 = .ok (.iload_n 1, 1) ∧ 84 + 1 = 85 := ⟨by decide +kernel, rfl⟩
theorem d_X12_has_85 : decode mX12_has.1 85 = .ok (.invokevirtual 483, 3) ∧ 85 + 3 = 88 := ⟨by decide +kernel, rfl⟩
theorem d_X12_has_88 : decode mX12_has.1 88 = .ok (.ireturn, 1) := by decide +kernel
theorem d_X12_has_89 : decode mX12_has.1 89 = .ok (.aload_n 0, 1) ∧ 89 + 1 = 90 := ⟨by decide +kernel, rfl⟩
theorem d_X12_has_90 : decode mX12_has.1 90 = .ok (.getfield 130, 3) ∧ 90 + 3 = 93 := ⟨by decide +kernel, rfl⟩
theorem d_X12_has_93 : decode mX12_has.1 93 = .ok (.bipush 55, 2) ∧ 93 + 2 = 95 := ⟨by decide +kernel, rfl⟩
theorem d_X12_has_95 : decode mX12_has.1 95 = .ok (.iaload, 1) ∧ 95 + 1 = 96 := ⟨by decide +kernel, rfl⟩
theorem d_X12_has_96 : decode mX12_has.1 96 = .ok (.ireturn, 1) := by decide +kernel
theorem d_X12_has_97 : decode mX12_has.1 97 = .ok (.aload_n 0, 1) ∧ 97 + 1 = 98 := ⟨by decide +kernel, rfl⟩
theorem d_X12_has_98 : decode mX12_has.1 98 = .ok (.getfield 393, 3) ∧ 98 + 3 = 101 := ⟨by decide +kernel, rfl⟩
theorem d_X12_has_101 : decode mX12_has.1 101 = .ok (.ireturn, 1) := by decide +kernel
theorem d_X12_has_102 : decode mX12_has.1 102 = .ok (.aload_n 0, 1) ∧ 102 + 1 = 103 := ⟨by decide +kernel, rfl⟩
theorem d_X12_has_103 : decode mX12_has.1 103 = .ok (.getfield 390, 3) ∧ 103 + 3 = 106 := ⟨by decide +kernel, rfl⟩
theorem d_X12_has_106 : decode mX12_has.1 106 = .ok (.ireturn, 1) := by decide +kernel
theorem d_X12_has_107 : decode mX12_has.1 107 = .ok (.iconst (-1), 1) ∧ 107 + 1 = 108 := ⟨by decide +kernel, rfl⟩
theorem d_X12_has_108 : decode mX12_has.1 108 = .ok (.ireturn, 1) := by decide +kernel
set_option maxRecDepth 100000 in
set_option maxHeartbeats 4000000 in
theorem g_X12_has (l : Launch) (G : xa_C) (v0 v1 : Int) (h : xa_H) : xa_G l G 5 mX12_has (f_X12_has v0 v1 h) (fun r => some (some (xI r), h) : Int → Option xa_O) 0 [some (xR v0), some (xI v1)] [] h := by
  unfold f_X12_has
  refine xa_step (xa_iload_n d_X12_has_0 rfl) ?_
  refine xa_case (fun q1 => ?_) (fun q1 => ?_)
  · refine xa_step (xa_tabIn (k := 0) d_X12_has_1 q1 (by decide) (by decide) rfl rfl) ?_
    refine xa_step (xa_aload_n d_X12_has_60 rfl) ?_
    refine xa_getf xR xc_12 (by decide) (fun _ => rfl) xw_1338 rfl d_X12_has_61 (fun x2 _ => ?_)
    refine xa_step (xa_iconst d_X12_has_64 xq_i_3) ?_
    refine xa_step (xa_iload_n d_X12_has_65 rfl) ?_
    refine xa_step (xa_iadd d_X12_has_66) ?_
    refine xa_iaload d_X12_has_67 (fun x3 _ => ?_)
    exact xa_iret d_X12_has_68 rfl rfl
  · refine xa_case (fun q4 => ?_) (fun q4 => ?_)
    · refine xa_step (xa_tabIn (k := 1) d_X12_has_1 q4 (by decide) (by decide) rfl rfl) ?_
      refine xa_step (xa_aload_n d_X12_has_60 rfl) ?_
      refine xa_getf xR xc_12 (by decide) (fun _ => rfl) xw_1338 rfl d_X12_has_61 (fun x5 _ => ?_)
      refine xa_step (xa_iconst d_X12_has_64 xq_i_3) ?_
      refine xa_step (xa_iload_n d_X12_has_65 rfl) ?_
      refine xa_step (xa_iadd d_X12_has_66) ?_
      refine xa_iaload d_X12_has_67 (fun x6 _ => ?_)
      exact xa_iret d_X12_has_68 rfl rfl
    · refine xa_case (fun q7 => ?_) (fun q7 => ?_)
      · refine xa_step (xa_tabIn (k := 2) d_X12_has_1 q7 (by decide) (by decide) rfl rfl) ?_
        refine xa_step (xa_aload_n d_X12_has_60 rfl) ?_
        refine xa_getf xR xc_12 (by decide) (fun _ => rfl) xw_1338 rfl d_X12_has_61 (fun x8 _ => ?_)
        refine xa_step (xa_iconst d_X12_has_64 xq_i_3) ?_
        refine xa_step (xa_iload_n d_X12_has_65 rfl) ?_
        refine xa_step (xa_iadd d_X12_has_66) ?_
        refine xa_iaload d_X12_has_67 (fun x9 _ => ?_)
        exact xa_iret d_X12_has_68 rfl rfl
      · refine xa_case (fun q10 => ?_) (fun q10 => ?_)
        · refine xa_step (xa_tabIn (k := 3) d_X12_has_1 q10 (by decide) (by decide) rfl rfl) ?_
          refine xa_step (xa_aload_n d_X12_has_69 rfl) ?_
          refine xa_getf xR xc_12 (by decide) (fun _ => rfl) xw_1347 rfl d_X12_has_70 (fun x11 _ => ?_)
          refine xa_step (xa_iconst d_X12_has_73 xq_i_1) ?_
          refine xa_iaload d_X12_has_74 (fun x12 _ => ?_)
          exact xa_iret d_X12_has_75 rfl rfl
        · refine xa_case (fun q13 => ?_) (fun q13 => ?_)
          · refine xa_step (xa_tabIn (k := 4) d_X12_has_1 q13 (by decide) (by decide) rfl rfl) ?_
            refine xa_step (xa_aload_n d_X12_has_76 rfl) ?_
            refine xa_getf xR xc_12 (by decide) (fun _ => rfl) xw_1354 rfl d_X12_has_77 (fun x14 _ => ?_)
            refine xa_step (xa_iconst d_X12_has_80 xq_i_0) ?_
            refine xa_iaload d_X12_has_81 (fun x15 _ => ?_)
            exact xa_iret d_X12_has_82 rfl rfl
          · refine xa_case (fun q16 => ?_) (fun q16 => ?_)
            · refine xa_step (xa_tabIn (k := 5) d_X12_has_1 q16 (by decide) (by decide) rfl rfl) ?_
              refine xa_step (xa_aload_n d_X12_has_83 rfl) ?_
              refine xa_step (xa_iload_n d_X12_has_84 rfl) ?_
              refine xa_callVi (as := [xI v1]) (st := []) (M' := mX12_sumOf) (d' := 4) rfl xw_1832 xw_1834 xw_107 xw_1835 xw_177 xh_X12_sumOf rfl ⟨Nat.le_of_ble_eq_true rfl, Nat.le_of_ble_eq_true rfl⟩ (Nat.le_of_ble_eq_true rfl) rfl d_X12_has_85 (fun r hr => ct_X12_sumOf l G v0 v1 h r hr) (fun r17 _ => ?_)
              exact xa_iret d_X12_has_88 rfl rfl
            · refine xa_case (fun q18 => ?_) (fun q18 => ?_)
              · refine xa_step (xa_tabIn (k := 6) d_X12_has_1 q18 (by decide) (by decide) rfl rfl) ?_
                refine xa_step (xa_aload_n d_X12_has_83 rfl) ?_
                refine xa_step (xa_iload_n d_X12_has_84 rfl) ?_
                refine xa_callVi (as := [xI v1]) (st := []) (M' := mX12_sumOf) (d' := 4) rfl xw_1832 xw_1834 xw_107 xw_1835 xw_177 xh_X12_sumOf rfl ⟨Nat.le_of_ble_eq_true rfl, Nat.le_of_ble_eq_true rfl⟩ (Nat.le_of_ble_eq_true rfl) rfl d_X12_has_85 (fun r hr => ct_X12_sumOf l G v0 v1 h r hr) (fun r19 _ => ?_)
                exact xa_iret d_X12_has_88 rfl rfl
              · refine xa_case (fun q20 => ?_) (fun q20 => ?_)
                · refine xa_step (xa_tabIn (k := 7) d_X12_has_1 q20 (by decide) (by decide) rfl rfl) ?_
                  refine xa_step (xa_aload_n d_X12_has_83 rfl) ?_
                  refine xa_step (xa_iload_n d_X12_has_84 rfl) ?_
                  refine xa_callVi (as := [xI v1]) (st := []) (M' := mX12_sumOf) (d' := 4) rfl xw_1832 xw_1834 xw_107 xw_1835 xw_177 xh_X12_sumOf rfl ⟨Nat.le_of_ble_eq_true rfl, Nat.le_of_ble_eq_true rfl⟩ (Nat.le_of_ble_eq_true rfl) rfl d_X12_has_85 (fun r hr => ct_X12_sumOf l G v0 v1 h r hr) (fun r21 _ => ?_)
                  exact xa_iret d_X12_has_88 rfl rfl
                · refine xa_case (fun q22 => ?_) (fun q22 => ?_)
                  · refine xa_step (xa_tabIn (k := 8) d_X12_has_1 q22 (by decide) (by decide) rfl rfl) ?_
                    refine xa_step (xa_aload_n d_X12_has_89 rfl) ?_
                    refine xa_getf xR xc_12 (by decide) (fun _ => rfl) xw_1354 rfl d_X12_has_90 (fun x23 _ => ?_)
                    refine xa_step (xa_bipush d_X12_has_93 xq_b_55) ?_
                    refine xa_iaload d_X12_has_95 (fun x24 _ => ?_)
                    exact xa_iret d_X12_has_96 rfl rfl
                  · refine xa_case (fun q25 => ?_) (fun q25 => ?_)
                    · refine xa_step (xa_tabIn (k := 9) d_X12_has_1 q25 (by decide) (by decide) rfl rfl) ?_
                      refine xa_step (xa_aload_n d_X12_has_97 rfl) ?_
                      refine xa_getf xI xc_12 (by decide) (fun _ => rfl) xw_1374 rfl d_X12_has_98 (fun x26 _ => ?_)
                      exact xa_iret d_X12_has_101 rfl rfl
                    · refine xa_case (fun q27 => ?_) (fun q27 => ?_)
                      · refine xa_step (xa_tabIn (k := 10) d_X12_has_1 q27 (by decide) (by decide) rfl rfl) ?_
                        refine xa_step (xa_aload_n d_X12_has_102 rfl) ?_
                        refine xa_getf xI xc_12 (by decide) (fun _ => rfl) xw_1378 rfl d_X12_has_103 (fun x28 _ => ?_)
                        exact xa_iret d_X12_has_106 rfl rfl
                      · refine xa_step (xa_tabOut d_X12_has_1 (by omega) rfl) ?_
                        refine xa_step (xa_iconst d_X12_has_107 xq_i_m1) ?_
                        exact xa_iret d_X12_has_108 rfl rfl
theorem ct_X12_has (l : Launch) (G : xa_C) (v0 v1 : Int) (h : xa_H) (r : Int) (hr : f_X12_has v0 v1 h = some r) : xa_CT l G 5 mX12_has yX12_has [xR v0, xI v1] h (some (xI r), h) :=
  xa_met (by decide +kernel) rfl (fun q => by first | rfl | cases q) (Nat.le_of_ble_eq_true rfl) rfl (g_X12_has l G v0 v1 h) (by rw [hr]; rfl)
abbrev mX12_holderOf : xa_M := (cX12_holderOf, 3, (some (.int)), RX12, false)
theorem d_X12_holderOf_0 : decode mX12_holderOf.1 0 = .ok (.iconst 0, 1) ∧ 0 + 1 = 1 := ⟨by decide +kernel, rfl⟩
theorem d_X12_holderOf_1 : decode mX12_holderOf.1 1 = .ok (.istore_n 2, 1) ∧ 1 + 1 = 2 := ⟨by decide +kernel, rfl⟩
theorem d_X12_holderOf_2 : decode mX12_holderOf.1 2 = .ok (.iload_n 2, 1) ∧ 2 + 1 = 3 := ⟨by decide +kernel, rfl⟩
theorem d_X12_holderOf_3 : decode mX12_holderOf.1 3 = .ok (.aload_n 0, 1) ∧ 3 + 1 = 4 := ⟨by decide +kernel, rfl⟩
theorem d_X12_holderOf_4 : decode mX12_holderOf.1 4 = .ok (.invokevirtual 402, 3) ∧ 4 + 3 = 7 := ⟨by decide +kernel, rfl⟩
theorem d_X12_holderOf_7 : decode mX12_holderOf.1 7 = .ok (.if_icmp .ge 20, 3) ∧ 7 + 3 = 10 ∧ ((7 : Nat) : Int) + 20 = ((27 : Nat) : Int) := ⟨by decide +kernel, rfl, rfl⟩
theorem d_X12_holderOf_10 : decode mX12_holderOf.1 10 = .ok (.aload_n 0, 1) ∧ 10 + 1 = 11 := ⟨by decide +kernel, rfl⟩
theorem d_X12_holderOf_11 : decode mX12_holderOf.1 11 = .ok (.iload_n 2, 1) ∧ 11 + 1 = 12 := ⟨by decide +kernel, rfl⟩
theorem d_X12_holderOf_12 : decode mX12_holderOf.1 12 = .ok (.invokevirtual 405, 3) ∧ 12 + 3 = 15 := ⟨by decide +kernel, rfl⟩
theorem d_X12_holderOf_15 : decode mX12_holderOf.1 15 = .ok (.iload_n 1, 1) ∧ 15 + 1 = 16 := ⟨by decide +kernel, rfl⟩
theorem d_X12_holderOf_16 : decode mX12_holderOf.1 16 = .ok (.if_icmp .ne 5, 3) ∧ 16 + 3 = 19 ∧ ((16 : Nat) : Int) + 5 = ((21 : Nat) : Int) := ⟨by decide +kernel, rfl, rfl⟩
theorem d_X12_holderOf_19 : decode mX12_holderOf.1 19 = .ok (.iload_n 2, 1) ∧ 19 + 1 = 20 := ⟨by decide +kernel, rfl⟩
theorem d_X12_holderOf_20 : decode mX12_holderOf.1 20 = .ok (.ireturn, 1) := by decide +kernel
theorem d_X12_holderOf_21 : decode mX12_holderOf.1 21 = .ok (.iinc 2 1, 3) ∧ 21 + 3 = 24 := ⟨by decide +kernel, rfl⟩
theorem d_X12_holderOf_24 : decode mX12_holderOf.1 24 = .ok (.goto (-22), 3) ∧ ((24 : Nat) : Int) + (-22) = ((2 : Nat) : Int) := ⟨by decide +kernel, rfl⟩
set_option maxRecDepth 100000 in
set_option maxHeartbeats 4000000 in
theorem g_X12_holderOf_L2 (l : Launch) (G : xa_C) (c0 c1 : Int) (h : xa_H) (K : (Int) ⊕ ((Int) ⊕ (Unit)) → Option xa_O) (hb : ∀ (v2 : Int), xa_G l G 3 mX12_holderOf (some (Sum.inl v2)) K 2 [some (xR c0), some (xI c1), some (xI v2)] [] h) (hr : ∀ r : Int, K (Sum.inr (Sum.inl r)) = some (some (xI r), h)) (hx : xa_G l G 3 mX12_holderOf (some (Sum.inr (Sum.inr (())))) K 27 [none, none, none] [] h) : ∀ (v2 : Int), xa_G l G 3 mX12_holderOf (f_X12_holderOf_L2 c0 c1 h v2) K 2 [some (xR c0), some (xI c1), some (xI v2)] [] h := by
  intro v2
  unfold f_X12_holderOf_L2
  refine xa_step (xa_iload_n d_X12_holderOf_2 rfl) ?_
  refine xa_step (xa_aload_n d_X12_holderOf_3 rfl) ?_
  refine xa_callVi (as := []) (st := [xI v2]) (M' := mX12_holderMany) (d' := 2) rfl xw_1836 xw_1838 xw_108 xw_1839 xw_177 xh_X12_holderMany rfl ⟨Nat.le_of_ble_eq_true rfl, Nat.le_of_ble_eq_true rfl⟩ (Nat.le_of_ble_eq_true rfl) rfl d_X12_holderOf_4 (fun r hr => ct_X12_holderMany l G c0 h r hr) (fun r1 _ => ?_)
  refine xa_if (xa_icmpge d_X12_holderOf_7) (fun q2 => ?_) (fun q2 => ?_)
  · refine xa_step (xa_aload_n d_X12_holderOf_10 rfl) ?_
    refine xa_step (xa_iload_n d_X12_holderOf_11 rfl) ?_
    refine xa_callVi (as := [xI v2]) (st := []) (M' := mX12_hadBy) (d' := 2) rfl xw_1844 xw_1846 xw_110 xw_1847 xw_177 xh_X12_hadBy rfl ⟨Nat.le_of_ble_eq_true rfl, Nat.le_of_ble_eq_true rfl⟩ (Nat.le_of_ble_eq_true rfl) rfl d_X12_holderOf_12 (fun r hr => ct_X12_hadBy l G c0 v2 h r hr) (fun r3 _ => ?_)
    refine xa_step (xa_iload_n d_X12_holderOf_15 rfl) ?_
    refine xa_if (xa_icmpne d_X12_holderOf_16) (fun q4 => ?_) (fun q4 => ?_)
    · refine xa_step (xa_iload_n d_X12_holderOf_19 rfl) ?_
      exact xa_iret d_X12_holderOf_20 rfl (hr _)
    · refine xa_step (xa_iinc (ls' := [some (xR c0), some (xI c1), some (xI (w32 (v2 + 1)))]) d_X12_holderOf_21 xq_i_1 rfl (by decide) rfl) ?_
      refine xa_step (xa_goto d_X12_holderOf_24) ?_
      exact xa_weak (ls' := [some (xR c0), some (xI c1), some (xI (w32 (v2 + 1)))]) ⟨rfl, rfl, rfl, trivial⟩ (hb (w32 (v2 + 1)))
  · exact xa_weak (ls' := [none, none, none]) trivial (hx )
theorem d_X12_holderOf_27 : decode mX12_holderOf.1 27 = .ok (.iconst (-1), 1) ∧ 27 + 1 = 28 := ⟨by decide +kernel, rfl⟩
theorem d_X12_holderOf_28 : decode mX12_holderOf.1 28 = .ok (.ireturn, 1) := by decide +kernel
set_option maxRecDepth 100000 in
set_option maxHeartbeats 4000000 in
theorem g_X12_holderOf (l : Launch) (G : xa_C) (v0 v1 : Int) (h : xa_H) : xa_G l G 3 mX12_holderOf (f_X12_holderOf v0 v1 h) (fun r => some (some (xI r), h) : Int → Option xa_O) 0 [some (xR v0), some (xI v1), none] [] h := by
  unfold f_X12_holderOf
  refine xa_step (xa_iconst d_X12_holderOf_0 xq_i_0) ?_
  refine xa_step (xa_istore_n (ls' := [some (xR v0), some (xI v1), some (xI 0)]) d_X12_holderOf_1 (by decide) rfl) ?_
  refine xa_weak (ls' := [some (xR v0), some (xI v1), some (xI 0)]) ⟨rfl, rfl, rfl, trivial⟩ ?_
  refine xa_loop (f := fun s => f_X12_holderOf_L2 v0 v1 h s) (L := fun s => [some (xR v0), some (xI v1), some (xI s)]) (P := fun s => h) (X := (fun e K => match e with | Sum.inl r => K (Sum.inr (Sum.inl r)) = some (some (xI r), h) | Sum.inr x => xa_G l G 3 mX12_holderOf (some (Sum.inr (Sum.inr x))) K 27 [none, none, none] [] h)) (fun K hb hX s => g_X12_holderOf_L2 l G v0 v1 h K (fun w0 => hb w0) (fun r => hX (Sum.inl r)) (hX (Sum.inr ())) s) ?_ xFU 0
  rintro (r | y6) K hK
  · exact hK.trans rfl
  · refine xa_eqE hK ?_
    show xa_G l G 3 mX12_holderOf _ _ 27 [none, none, none] [] h
    refine xa_step (xa_iconst d_X12_holderOf_27 xq_i_m1) ?_
    exact xa_iret d_X12_holderOf_28 rfl rfl
theorem ct_X12_holderOf (l : Launch) (G : xa_C) (v0 v1 : Int) (h : xa_H) (r : Int) (hr : f_X12_holderOf v0 v1 h = some r) : xa_CT l G 3 mX12_holderOf yX12_holderOf [xR v0, xI v1] h (some (xI r), h) :=
  xa_met (by decide +kernel) rfl (fun q => by first | rfl | cases q) (Nat.le_of_ble_eq_true rfl) rfl (g_X12_holderOf l G v0 v1 h) (by rw [hr]; rfl)
abbrev mX12_isHeldThere : xa_M := (cX12_isHeldThere, 2, (some (.boolean)), RX12, false)
theorem d_X12_isHeldThere_0 : decode mX12_isHeldThere.1 0 = .ok (.iload_n 1, 1) ∧ 0 + 1 = 1 := ⟨by decide +kernel, rfl⟩
theorem d_X12_isHeldThere_1 : decode mX12_isHeldThere.1 1 = .ok (.i2l, 1) ∧ 1 + 1 = 2 := ⟨by decide +kernel, rfl⟩
theorem d_X12_isHeldThere_2 : decode mX12_isHeldThere.1 2 = .ok (.lconst 0, 1) ∧ 2 + 1 = 3 := ⟨by decide +kernel, rfl⟩
theorem d_X12_isHeldThere_3 : decode mX12_isHeldThere.1 3 = .ok (.aload_n 0, 1) ∧ 3 + 1 = 4 := ⟨by decide +kernel, rfl⟩
theorem d_X12_isHeldThere_4 : decode mX12_isHeldThere.1 4 = .ok (.invokevirtual 399, 3) ∧ 4 + 3 = 7 := ⟨by decide +kernel, rfl⟩
theorem d_X12_isHeldThere_7 : decode mX12_isHeldThere.1 7 = .ok (.iconst 1, 1) ∧ 7 + 1 = 8 := ⟨by decide +kernel, rfl⟩
theorem d_X12_isHeldThere_8 : decode mX12_isHeldThere.1 8 = .ok (.isub, 1) ∧ 8 + 1 = 9 := ⟨by decide +kernel, rfl⟩
theorem d_X12_isHeldThere_9 : decode mX12_isHeldThere.1 9 = .ok (.i2l, 1) ∧ 9 + 1 = 10 := ⟨by decide +kernel, rfl⟩
theorem d_X12_isHeldThere_10 : decode mX12_isHeldThere.1 10 = .ok (.invokestatic 289, 3) ∧ 10 + 3 = 13 := ⟨by decide +kernel, rfl⟩
theorem d_X12_isHeldThere_13 : decode mX12_isHeldThere.1 13 = .ok (.ireturn, 1) := by decide +kernel
set_option maxRecDepth 100000 in
set_option maxHeartbeats 4000000 in
theorem g_X12_isHeldThere (l : Launch) (G : xa_C) (v0 v1 : Int) (h : xa_H) : xa_G l G 3 mX12_isHeldThere (f_X12_isHeldThere v0 v1 h) (fun r => some (some (xI r), h) : Int → Option xa_O) 0 [some (xR v0), some (xI v1)] [] h := by
  unfold f_X12_isHeldThere
  refine xa_step (xa_iload_n d_X12_isHeldThere_0 rfl) ?_
  refine xa_step (xa_i2l d_X12_isHeldThere_1) ?_
  refine xa_step (xa_lconst d_X12_isHeldThere_2 rfl) ?_
  refine xa_step (xa_aload_n d_X12_isHeldThere_3 rfl) ?_
  refine xa_callVi (as := []) (st := [xL 0, xL v1]) (M' := mX12_heldMany) (d' := 2) rfl xw_1873 xw_1875 xw_115 xw_1876 xw_177 xh_X12_heldMany rfl ⟨Nat.le_of_ble_eq_true rfl, Nat.le_of_ble_eq_true rfl⟩ (Nat.le_of_ble_eq_true rfl) rfl d_X12_isHeldThere_4 (fun r hr => ct_X12_heldMany l G v0 h r hr) (fun r1 _ => ?_)
  refine xa_step (xa_iconst d_X12_isHeldThere_7 xq_i_1) ?_
  refine xa_step (xa_isub d_X12_isHeldThere_8) ?_
  refine xa_step (xa_i2l d_X12_isHeldThere_9) ?_
  refine xa_callSi (as := [xL v1, xL 0, xL (w32 (r1 - 1))]) (st := []) (M' := mX12_isIn) (d' := 2) xw_1706 xw_1707 xw_1708 xw_177 xh_X12_isIn rfl ⟨Nat.le_of_ble_eq_true rfl, Nat.le_of_ble_eq_true rfl⟩ (Nat.le_of_ble_eq_true rfl) rfl d_X12_isHeldThere_10 (fun r hr => ct_X12_isIn l G v1 0 (w32 (r1 - 1)) h r hr) (fun r2 _ => ?_)
  refine xa_bo (fun q3 => ?_)
  exact xa_zret d_X12_isHeldThere_13 rfl q3 rfl
theorem ct_X12_isHeldThere (l : Launch) (G : xa_C) (v0 v1 : Int) (h : xa_H) (r : Int) (hr : f_X12_isHeldThere v0 v1 h = some r) : xa_CT l G 3 mX12_isHeldThere yX12_isHeldThere [xR v0, xI v1] h (some (xI r), h) :=
  xa_met (by decide +kernel) rfl (fun q => by first | rfl | cases q) (Nat.le_of_ble_eq_true rfl) rfl (g_X12_isHeldThere l G v0 v1 h) (by rw [hr]; rfl)
abbrev mX12_wantMany : xa_M := (cX12_wantMany, 4, (some (.int)), RX12, false)
theorem d_X12_wantMany_0 : decode mX12_wantMany.1 0 = .ok (.iconst 0, 1) ∧ 0 + 1 = 1 := ⟨by decide +kernel, rfl⟩
theorem d_X12_wantMany_1 : decode mX12_wantMany.1 1 = .ok (.istore_n 2, 1) ∧ 1 + 1 = 2 := ⟨by decide +kernel, rfl⟩
theorem d_X12_wantMany_2 : decode mX12_wantMany.1 2 = .ok (.iconst 0, 1) ∧ 2 + 1 = 3 := ⟨by decide +kernel, rfl⟩
theorem d_X12_wantMany_3 : decode mX12_wantMany.1 3 = .ok (.istore_n 3, 1) ∧ 3 + 1 = 4 := ⟨by decide +kernel, rfl⟩
theorem d_X12_wantMany_4 : decode mX12_wantMany.1 4 = .ok (.iload_n 3, 1) ∧ 4 + 1 = 5 := ⟨by decide +kernel, rfl⟩
theorem d_X12_wantMany_5 : decode mX12_wantMany.1 5 = .ok (.aload_n 0, 1) ∧ 5 + 1 = 6 := ⟨by decide +kernel, rfl⟩
theorem d_X12_wantMany_6 : decode mX12_wantMany.1 6 = .ok (.invokevirtual 402, 3) ∧ 6 + 3 = 9 := ⟨by decide +kernel, rfl⟩
theorem d_X12_wantMany_9 : decode mX12_wantMany.1 9 = .ok (.if_icmp .ge 21, 3) ∧ 9 + 3 = 12 ∧ ((9 : Nat) : Int) + 21 = ((30 : Nat) : Int) := ⟨by decide +kernel, rfl, rfl⟩
theorem d_X12_wantMany_12 : decode mX12_wantMany.1 12 = .ok (.aload_n 0, 1) ∧ 12 + 1 = 13 := ⟨by decide +kernel, rfl⟩
theorem d_X12_wantMany_13 : decode mX12_wantMany.1 13 = .ok (.iload_n 3, 1) ∧ 13 + 1 = 14 := ⟨by decide +kernel, rfl⟩
theorem d_X12_wantMany_14 : decode mX12_wantMany.1 14 = .ok (.invokevirtual 408, 3) ∧ 14 + 3 = 17 := ⟨by decide +kernel, rfl⟩
theorem d_X12_wantMany_17 : decode mX12_wantMany.1 17 = .ok (.iload_n 1, 1) ∧ 17 + 1 = 18 := ⟨by decide +kernel, rfl⟩
theorem d_X12_wantMany_18 : decode mX12_wantMany.1 18 = .ok (.if_icmp .ne 6, 3) ∧ 18 + 3 = 21 ∧ ((18 : Nat) : Int) + 6 = ((24 : Nat) : Int) := ⟨by decide +kernel, rfl, rfl⟩
theorem d_X12_wantMany_21 : decode mX12_wantMany.1 21 = .ok (.iinc 2 1, 3) ∧ 21 + 3 = 24 := ⟨by decide +kernel, rfl⟩
theorem d_X12_wantMany_24 : decode mX12_wantMany.1 24 = .ok (.iinc 3 1, 3) ∧ 24 + 3 = 27 := ⟨by decide +kernel, rfl⟩
theorem d_X12_wantMany_27 : decode mX12_wantMany.1 27 = .ok (.goto (-23), 3) ∧ ((27 : Nat) : Int) + (-23) = ((4 : Nat) : Int) := ⟨by decide +kernel, rfl⟩
set_option maxRecDepth 100000 in
set_option maxHeartbeats 4000000 in
theorem g_X12_wantMany_L4 (l : Launch) (G : xa_C) (c0 c1 : Int) (h : xa_H) (K : (Int × Int) ⊕ (Int) → Option xa_O) (hb : ∀ (v2 : Int) (v3 : Int), xa_G l G 3 mX12_wantMany (some (Sum.inl ((v2, v3)))) K 4 [some (xR c0), some (xI c1), some (xI v2), some (xI v3)] [] h) (hx : ∀ (v2 : Int), xa_G l G 3 mX12_wantMany (some (Sum.inr v2)) K 30 [none, none, some (xI v2), none] [] h) : ∀ (v2 : Int) (v3 : Int), xa_G l G 3 mX12_wantMany (f_X12_wantMany_L4 c0 c1 h v2 v3) K 4 [some (xR c0), some (xI c1), some (xI v2), some (xI v3)] [] h := by
  intro v2 v3
  unfold f_X12_wantMany_L4
  refine xa_step (xa_iload_n d_X12_wantMany_4 rfl) ?_
  refine xa_step (xa_aload_n d_X12_wantMany_5 rfl) ?_
  refine xa_callVi (as := []) (st := [xI v3]) (M' := mX12_holderMany) (d' := 2) rfl xw_1836 xw_1838 xw_108 xw_1839 xw_177 xh_X12_holderMany rfl ⟨Nat.le_of_ble_eq_true rfl, Nat.le_of_ble_eq_true rfl⟩ (Nat.le_of_ble_eq_true rfl) rfl d_X12_wantMany_6 (fun r hr => ct_X12_holderMany l G c0 h r hr) (fun r1 _ => ?_)
  refine xa_if (xa_icmpge d_X12_wantMany_9) (fun q2 => ?_) (fun q2 => ?_)
  · refine xa_step (xa_aload_n d_X12_wantMany_12 rfl) ?_
    refine xa_step (xa_iload_n d_X12_wantMany_13 rfl) ?_
    refine xa_callVi (as := [xI v3]) (st := []) (M' := mX12_wantedBy) (d' := 2) rfl xw_1848 xw_1850 xw_111 xw_1851 xw_177 xh_X12_wantedBy rfl ⟨Nat.le_of_ble_eq_true rfl, Nat.le_of_ble_eq_true rfl⟩ (Nat.le_of_ble_eq_true rfl) rfl d_X12_wantMany_14 (fun r hr => ct_X12_wantedBy l G c0 v3 h r hr) (fun r3 _ => ?_)
    refine xa_step (xa_iload_n d_X12_wantMany_17 rfl) ?_
    refine xa_if (xa_icmpne d_X12_wantMany_18) (fun q4 => ?_) (fun q4 => ?_)
    · refine xa_step (xa_iinc (ls' := [some (xR c0), some (xI c1), some (xI (w32 (v2 + 1))), some (xI v3)]) d_X12_wantMany_21 xq_i_1 rfl (by decide) rfl) ?_
      refine xa_step (xa_iinc (ls' := [some (xR c0), some (xI c1), some (xI (w32 (v2 + 1))), some (xI (w32 (v3 + 1)))]) d_X12_wantMany_24 xq_i_1 rfl (by decide) rfl) ?_
      refine xa_step (xa_goto d_X12_wantMany_27) ?_
      exact xa_weak (ls' := [some (xR c0), some (xI c1), some (xI (w32 (v2 + 1))), some (xI (w32 (v3 + 1)))]) ⟨rfl, rfl, rfl, rfl, trivial⟩ (hb (w32 (v2 + 1)) (w32 (v3 + 1)))
    · refine xa_step (xa_iinc (ls' := [some (xR c0), some (xI c1), some (xI v2), some (xI (w32 (v3 + 1)))]) d_X12_wantMany_24 xq_i_1 rfl (by decide) rfl) ?_
      refine xa_step (xa_goto d_X12_wantMany_27) ?_
      exact xa_weak (ls' := [some (xR c0), some (xI c1), some (xI v2), some (xI (w32 (v3 + 1)))]) ⟨rfl, rfl, rfl, rfl, trivial⟩ (hb v2 (w32 (v3 + 1)))
  · exact xa_weak (ls' := [none, none, some (xI v2), none]) ⟨rfl, trivial⟩ (hx v2)
theorem d_X12_wantMany_30 : decode mX12_wantMany.1 30 = .ok (.iload_n 2, 1) ∧ 30 + 1 = 31 := ⟨by decide +kernel, rfl⟩
theorem d_X12_wantMany_31 : decode mX12_wantMany.1 31 = .ok (.ireturn, 1) := by decide +kernel
set_option maxRecDepth 100000 in
set_option maxHeartbeats 4000000 in
theorem g_X12_wantMany (l : Launch) (G : xa_C) (v0 v1 : Int) (h : xa_H) : xa_G l G 3 mX12_wantMany (f_X12_wantMany v0 v1 h) (fun r => some (some (xI r), h) : Int → Option xa_O) 0 [some (xR v0), some (xI v1), none, none] [] h := by
  unfold f_X12_wantMany
  refine xa_step (xa_iconst d_X12_wantMany_0 xq_i_0) ?_
  refine xa_step (xa_istore_n (ls' := [some (xR v0), some (xI v1), some (xI 0), none]) d_X12_wantMany_1 (by decide) rfl) ?_
  refine xa_step (xa_iconst d_X12_wantMany_2 xq_i_0) ?_
  refine xa_step (xa_istore_n (ls' := [some (xR v0), some (xI v1), some (xI 0), some (xI 0)]) d_X12_wantMany_3 (by decide) rfl) ?_
  refine xa_weak (ls' := [some (xR v0), some (xI v1), some (xI 0), some (xI 0)]) ⟨rfl, rfl, rfl, rfl, trivial⟩ ?_
  refine xa_loop (f := fun s => f_X12_wantMany_L4 v0 v1 h s.1 s.2) (L := fun s => [some (xR v0), some (xI v1), some (xI s.1), some (xI s.2)]) (P := fun s => h) (X := (fun x K => xa_G l G 3 mX12_wantMany (some (Sum.inr x)) K 30 [none, none, some (xI x), none] [] h)) (fun K hb hX s => g_X12_wantMany_L4 l G v0 v1 h K (fun w0 w1 => hb ((w0, w1))) (fun w0 => hX w0) s.1 s.2) ?_ xFU ((0, 0))
  intro e5 K hK
  refine xa_eqE hK ?_
  show xa_G l G 3 mX12_wantMany _ _ 30 [none, none, some (xI e5), none] [] h
  refine xa_step (xa_iload_n d_X12_wantMany_30 rfl) ?_
  exact xa_iret d_X12_wantMany_31 rfl rfl
theorem ct_X12_wantMany (l : Launch) (G : xa_C) (v0 v1 : Int) (h : xa_H) (r : Int) (hr : f_X12_wantMany v0 v1 h = some r) : xa_CT l G 3 mX12_wantMany yX12_wantMany [xR v0, xI v1] h (some (xI r), h) :=
  xa_met (by decide +kernel) rfl (fun q => by first | rfl | cases q) (Nat.le_of_ble_eq_true rfl) rfl (g_X12_wantMany l G v0 v1 h) (by rw [hr]; rfl)
abbrev mX12_held : xa_M := (cX12_held, 3, (some (.int)), RX12, false)
theorem d_X12_held_0 : decode mX12_held.1 0 = .ok (.aload_n 0, 1) ∧ 0 + 1 = 1 := ⟨by decide +kernel, rfl⟩
theorem d_X12_held_1 : decode mX12_held.1 1 = .ok (.iload_n 1, 1) ∧ 1 + 1 = 2 := ⟨by decide +kernel, rfl⟩
theorem d_X12_held_2 : decode mX12_held.1 2 = .ok (.invokevirtual 488, 3) ∧ 2 + 3 = 5 := ⟨by decide +kernel, rfl⟩
theorem d_X12_held_5 : decode mX12_held.1 5 = .ok (.ifCond .ne 5, 3) ∧ 5 + 3 = 8 ∧ ((5 : Nat) : Int) + 5 = ((10 : Nat) : Int) := ⟨by decide +kernel, rfl, rfl⟩
theorem d_X12_held_8 : decode mX12_held.1 8 = .ok (.iconst (-1), 1) ∧ 8 + 1 = 9 := ⟨by decide +kernel, rfl⟩
theorem d_X12_held_9 : decode mX12_held.1 9 = .ok (.ireturn, 1) := by decide +kernel
theorem d_X12_held_10 : decode mX12_held.1 10 = .ok (.iload_n 2, 1) ∧ 10 + 1 = 11 := ⟨by decide +kernel, rfl⟩
theorem d_X12_held_11 : decode mX12_held.1 11 = .ok (.tableswitch 61 0 3 #[29, 39, 45, 55], 29) := by decide +kernel
theorem d_X12_held_40 : decode mX12_held.1 40 = .ok (.aload_n 0, 1) ∧ 40 + 1 = 41 := ⟨by decide +kernel, rfl⟩
theorem d_X12_held_41 : decode mX12_held.1 41 = .ok (.getfield 97, 3) ∧ 41 + 3 = 44 := ⟨by decide +kernel, rfl⟩
theorem d_X12_held_44 : decode mX12_held.1 44 = .ok (.bipush 6, 2) ∧ 44 + 2 = 46 := ⟨by decide +kernel, rfl⟩
theorem d_X12_held_46 : decode mX12_held.1 46 = .ok (.iload_n 1, 1) ∧ 46 + 1 = 47 := ⟨by decide +kernel, rfl⟩
theorem d_X12_held_47 : decode mX12_held.1 47 = .ok (.iadd, 1) ∧ 47 + 1 = 48 := ⟨by decide +kernel, rfl⟩
theorem d_X12_held_48 : decode mX12_held.1 48 = .ok (.iaload, 1) ∧ 48 + 1 = 49 := ⟨by decide +kernel, rfl⟩
theorem d_X12_held_49 : decode mX12_held.1 49 = .ok (.ireturn, 1) := by decide +kernel
theorem d_X12_held_50 : decode mX12_held.1 50 = .ok (.aload_n 0, 1) ∧ 50 + 1 = 51 := ⟨by decide +kernel, rfl⟩
theorem d_X12_held_51 : decode mX12_held.1 51 = .ok (.iload_n 1, 1) ∧ 51 + 1 = 52 := ⟨by decide +kernel, rfl⟩
theorem d_X12_held_52 : decode mX12_held.1 52 = .ok (.invokevirtual 491, 3) ∧ 52 + 3 = 55 := ⟨by decide +kernel, rfl⟩
theorem d_X12_held_55 : decode mX12_held.1 55 = .ok (.ireturn, 1) := by decide +kernel
theorem d_X12_held_56 : decode mX12_held.1 56 = .ok (.aload_n 0, 1) ∧ 56 + 1 = 57 := ⟨by decide +kernel, rfl⟩
theorem d_X12_held_57 : decode mX12_held.1 57 = .ok (.getfield 100, 3) ∧ 57 + 3 = 60 := ⟨by decide +kernel, rfl⟩
theorem d_X12_held_60 : decode mX12_held.1 60 = .ok (.bipush 6, 2) ∧ 60 + 2 = 62 := ⟨by decide +kernel, rfl⟩
theorem d_X12_held_62 : decode mX12_held.1 62 = .ok (.iload_n 1, 1) ∧ 62 + 1 = 63 := ⟨by decide +kernel, rfl⟩
theorem d_X12_held_63 : decode mX12_held.1 63 = .ok (.iadd, 1) ∧ 63 + 1 = 64 := ⟨by decide +kernel, rfl⟩
theorem d_X12_held_64 : decode mX12_held.1 64 = .ok (.iaload, 1) ∧ 64 + 1 = 65 := ⟨by decide +kernel, rfl⟩
theorem d_X12_held_65 : decode mX12_held.1 65 = .ok (.ireturn, 1) := by decide +kernel
theorem d_X12_held_66 : decode mX12_held.1 66 = .ok (.aload_n 0, 1) ∧ 66 + 1 = 67 := ⟨by decide +kernel, rfl⟩
theorem d_X12_held_67 : decode mX12_held.1 67 = .ok (.iload_n 1, 1) ∧ 67 + 1 = 68 := ⟨by decide +kernel, rfl⟩
theorem d_X12_held_68 : decode mX12_held.1 68 = .ok (.invokevirtual 494, 3) ∧ 68 + 3 = 71 := ⟨by decide +kernel, rfl⟩
theorem d_X12_held_71 : decode mX12_held.1 71 = .ok (.ireturn, 1) := by decide +kernel
theorem d_X12_held_72 : decode mX12_held.1 72 = .ok (.iconst (-1), 1) ∧ 72 + 1 = 73 := ⟨by decide +kernel, rfl⟩
theorem d_X12_held_73 : decode mX12_held.1 73 = .ok (.ireturn, 1) := by decide +kernel
set_option maxRecDepth 100000 in
set_option maxHeartbeats 4000000 in
theorem g_X12_held (l : Launch) (G : xa_C) (v0 v1 v2 : Int) (h : xa_H) : xa_G l G 4 mX12_held (f_X12_held v0 v1 v2 h) (fun r => some (some (xI r), h) : Int → Option xa_O) 0 [some (xR v0), some (xI v1), some (xI v2)] [] h := by
  unfold f_X12_held
  refine xa_step (xa_aload_n d_X12_held_0 rfl) ?_
  refine xa_step (xa_iload_n d_X12_held_1 rfl) ?_
  refine xa_callVi (as := [xI v1]) (st := []) (M' := mX12_isHeldThere) (d' := 3) rfl xw_1869 xw_1871 xw_114 xw_1872 xw_177 xh_X12_isHeldThere rfl ⟨Nat.le_of_ble_eq_true rfl, Nat.le_of_ble_eq_true rfl⟩ (Nat.le_of_ble_eq_true rfl) rfl d_X12_held_2 (fun r hr => ct_X12_isHeldThere l G v0 v1 h r hr) (fun r1 _ => ?_)
  refine xa_if (xa_ifne d_X12_held_5) (fun q2 => ?_) (fun q2 => ?_)
  · refine xa_step (xa_iconst d_X12_held_8 xq_i_m1) ?_
    exact xa_iret d_X12_held_9 rfl rfl
  · refine xa_step (xa_iload_n d_X12_held_10 rfl) ?_
    refine xa_case (fun q3 => ?_) (fun q3 => ?_)
    · refine xa_step (xa_tabIn (k := 0) d_X12_held_11 q3 (by decide) (by decide) rfl rfl) ?_
      refine xa_step (xa_aload_n d_X12_held_40 rfl) ?_
      refine xa_getf xR xc_12 (by decide) (fun _ => rfl) xw_1340 rfl d_X12_held_41 (fun x4 _ => ?_)
      refine xa_step (xa_bipush d_X12_held_44 xq_b_6) ?_
      refine xa_step (xa_iload_n d_X12_held_46 rfl) ?_
      refine xa_step (xa_iadd d_X12_held_47) ?_
      refine xa_iaload d_X12_held_48 (fun x5 _ => ?_)
      exact xa_iret d_X12_held_49 rfl rfl
    · refine xa_case (fun q6 => ?_) (fun q6 => ?_)
      · refine xa_step (xa_tabIn (k := 1) d_X12_held_11 q6 (by decide) (by decide) rfl rfl) ?_
        refine xa_step (xa_aload_n d_X12_held_50 rfl) ?_
        refine xa_step (xa_iload_n d_X12_held_51 rfl) ?_
        refine xa_callVi (as := [xI v1]) (st := []) (M' := mX12_holderOf) (d' := 3) rfl xw_1877 xw_1879 xw_116 xw_1880 xw_177 xh_X12_holderOf rfl ⟨Nat.le_of_ble_eq_true rfl, Nat.le_of_ble_eq_true rfl⟩ (Nat.le_of_ble_eq_true rfl) rfl d_X12_held_52 (fun r hr => ct_X12_holderOf l G v0 v1 h r hr) (fun r7 _ => ?_)
        exact xa_iret d_X12_held_55 rfl rfl
      · refine xa_case (fun q8 => ?_) (fun q8 => ?_)
        · refine xa_step (xa_tabIn (k := 2) d_X12_held_11 q8 (by decide) (by decide) rfl rfl) ?_
          refine xa_step (xa_aload_n d_X12_held_56 rfl) ?_
          refine xa_getf xR xc_12 (by decide) (fun _ => rfl) xw_1341 rfl d_X12_held_57 (fun x9 _ => ?_)
          refine xa_step (xa_bipush d_X12_held_60 xq_b_6) ?_
          refine xa_step (xa_iload_n d_X12_held_62 rfl) ?_
          refine xa_step (xa_iadd d_X12_held_63) ?_
          refine xa_iaload d_X12_held_64 (fun x10 _ => ?_)
          exact xa_iret d_X12_held_65 rfl rfl
        · refine xa_case (fun q11 => ?_) (fun q11 => ?_)
          · refine xa_step (xa_tabIn (k := 3) d_X12_held_11 q11 (by decide) (by decide) rfl rfl) ?_
            refine xa_step (xa_aload_n d_X12_held_66 rfl) ?_
            refine xa_step (xa_iload_n d_X12_held_67 rfl) ?_
            refine xa_callVi (as := [xI v1]) (st := []) (M' := mX12_wantMany) (d' := 3) rfl xw_1881 xw_1883 xw_117 xw_1884 xw_177 xh_X12_wantMany rfl ⟨Nat.le_of_ble_eq_true rfl, Nat.le_of_ble_eq_true rfl⟩ (Nat.le_of_ble_eq_true rfl) rfl d_X12_held_68 (fun r hr => ct_X12_wantMany l G v0 v1 h r hr) (fun r12 _ => ?_)
            exact xa_iret d_X12_held_71 rfl rfl
          · refine xa_step (xa_tabOut d_X12_held_11 (by omega) rfl) ?_
            refine xa_step (xa_iconst d_X12_held_72 xq_i_m1) ?_
            exact xa_iret d_X12_held_73 rfl rfl
theorem ct_X12_held (l : Launch) (G : xa_C) (v0 v1 v2 : Int) (h : xa_H) (r : Int) (hr : f_X12_held v0 v1 v2 h = some r) : xa_CT l G 4 mX12_held yX12_held [xR v0, xI v1, xI v2] h (some (xI r), h) :=
  xa_met (by decide +kernel) rfl (fun q => by first | rfl | cases q) (Nat.le_of_ble_eq_true rfl) rfl (g_X12_held l G v0 v1 v2 h) (by rw [hr]; rfl)
abbrev mX12_holder : xa_M := (cX12_holder, 3, (some (.int)), RX12, false)
theorem d_X12_holder_0 : decode mX12_holder.1 0 = .ok (.aload_n 0, 1) ∧ 0 + 1 = 1 := ⟨by decide +kernel, rfl⟩
theorem d_X12_holder_1 : decode mX12_holder.1 1 = .ok (.iload_n 1, 1) ∧ 1 + 1 = 2 := ⟨by decide +kernel, rfl⟩
theorem d_X12_holder_2 : decode mX12_holder.1 2 = .ok (.invokevirtual 458, 3) ∧ 2 + 3 = 5 := ⟨by decide +kernel, rfl⟩
theorem d_X12_holder_5 : decode mX12_holder.1 5 = .ok (.ifCond .ne 5, 3) ∧ 5 + 3 = 8 ∧ ((5 : Nat) : Int) + 5 = ((10 : Nat) : Int) := ⟨by decide +kernel, rfl, rfl⟩
theorem d_X12_holder_8 : decode mX12_holder.1 8 = .ok (.iconst (-1), 1) ∧ 8 + 1 = 9 := ⟨by decide +kernel, rfl⟩
theorem d_X12_holder_9 : decode mX12_holder.1 9 = .ok (.ireturn, 1) := by decide +kernel
theorem d_X12_holder_10 : decode mX12_holder.1 10 = .ok (.iload_n 2, 1) ∧ 10 + 1 = 11 := ⟨by decide +kernel, rfl⟩
theorem d_X12_holder_11 : decode mX12_holder.1 11 = .ok (.tableswitch 75 0 4 #[33, 39, 45, 51, 65], 33) := by decide +kernel
theorem d_X12_holder_44 : decode mX12_holder.1 44 = .ok (.aload_n 0, 1) ∧ 44 + 1 = 45 := ⟨by decide +kernel, rfl⟩
theorem d_X12_holder_45 : decode mX12_holder.1 45 = .ok (.iload_n 1, 1) ∧ 45 + 1 = 46 := ⟨by decide +kernel, rfl⟩
theorem d_X12_holder_46 : decode mX12_holder.1 46 = .ok (.invokevirtual 405, 3) ∧ 46 + 3 = 49 := ⟨by decide +kernel, rfl⟩
theorem d_X12_holder_49 : decode mX12_holder.1 49 = .ok (.ireturn, 1) := by decide +kernel
theorem d_X12_holder_50 : decode mX12_holder.1 50 = .ok (.aload_n 0, 1) ∧ 50 + 1 = 51 := ⟨by decide +kernel, rfl⟩
theorem d_X12_holder_51 : decode mX12_holder.1 51 = .ok (.iload_n 1, 1) ∧ 51 + 1 = 52 := ⟨by decide +kernel, rfl⟩
theorem d_X12_holder_52 : decode mX12_holder.1 52 = .ok (.invokevirtual 408, 3) ∧ 52 + 3 = 55 := ⟨by decide +kernel, rfl⟩
theorem d_X12_holder_55 : decode mX12_holder.1 55 = .ok (.ireturn, 1) := by decide +kernel
theorem d_X12_holder_56 : decode mX12_holder.1 56 = .ok (.aload_n 0, 1) ∧ 56 + 1 = 57 := ⟨by decide +kernel, rfl⟩
theorem d_X12_holder_57 : decode mX12_holder.1 57 = .ok (.iload_n 1, 1) ∧ 57 + 1 = 58 := ⟨by decide +kernel, rfl⟩
theorem d_X12_holder_58 : decode mX12_holder.1 58 = .ok (.invokevirtual 477, 3) ∧ 58 + 3 = 61 := ⟨by decide +kernel, rfl⟩
theorem d_X12_holder_61 : decode mX12_holder.1 61 = .ok (.ireturn, 1) := by decide +kernel
theorem d_X12_holder_62 : decode mX12_holder.1 62 = .ok (.aload_n 0, 1) ∧ 62 + 1 = 63 := ⟨by decide +kernel, rfl⟩
theorem d_X12_holder_63 : decode mX12_holder.1 63 = .ok (.iload_n 1, 1) ∧ 63 + 1 = 64 := ⟨by decide +kernel, rfl⟩
theorem d_X12_holder_64 : decode mX12_holder.1 64 = .ok (.invokevirtual 480, 3) ∧ 64 + 3 = 67 := ⟨by decide +kernel, rfl⟩
theorem d_X12_holder_67 : decode mX12_holder.1 67 = .ok (.ifCond .eq 7, 3) ∧ 67 + 3 = 70 ∧ ((67 : Nat) : Int) + 7 = ((74 : Nat) : Int) := ⟨by decide +kernel, rfl, rfl⟩
theorem d_X12_holder_74 : decode mX12_holder.1 74 = .ok (.iconst 0, 1) ∧ 74 + 1 = 75 := ⟨by decide +kernel, rfl⟩
theorem d_X12_holder_75 : decode mX12_holder.1 75 = .ok (.ireturn, 1) := by decide +kernel
theorem d_X12_holder_70 : decode mX12_holder.1 70 = .ok (.iconst 1, 1) ∧ 70 + 1 = 71 := ⟨by decide +kernel, rfl⟩
theorem d_X12_holder_71 : decode mX12_holder.1 71 = .ok (.goto 4, 3) ∧ ((71 : Nat) : Int) + 4 = ((75 : Nat) : Int) := ⟨by decide +kernel, rfl⟩
theorem d_X12_holder_76 : decode mX12_holder.1 76 = .ok (.aload_n 0, 1) ∧ 76 + 1 = 77 := ⟨by decide +kernel, rfl⟩
theorem d_X12_holder_77 : decode mX12_holder.1 77 = .ok (.getfield 115, 3) ∧ 77 + 3 = 80 := ⟨by decide +kernel, rfl⟩
theorem d_X12_holder_80 : decode mX12_holder.1 80 = .ok (.bipush 6, 2) ∧ 80 + 2 = 82 := ⟨by decide +kernel, rfl⟩
theorem d_X12_holder_82 : decode mX12_holder.1 82 = .ok (.iload_n 1, 1) ∧ 82 + 1 = 83 := ⟨by decide +kernel, rfl⟩
theorem d_X12_holder_83 : decode mX12_holder.1 83 = .ok (.iadd, 1) ∧ 83 + 1 = 84 := ⟨by decide +kernel, rfl⟩
theorem d_X12_holder_84 : decode mX12_holder.1 84 = .ok (.iaload, 1) ∧ 84 + 1 = 85 := ⟨by decide +kernel, rfl⟩
theorem d_X12_holder_85 : decode mX12_holder.1 85 = .ok (.ireturn, 1) := by decide +kernel
theorem d_X12_holder_86 : decode mX12_holder.1 86 = .ok (.iconst (-1), 1) ∧ 86 + 1 = 87 := ⟨by decide +kernel, rfl⟩
theorem d_X12_holder_87 : decode mX12_holder.1 87 = .ok (.ireturn, 1) := by decide +kernel
set_option maxRecDepth 100000 in
set_option maxHeartbeats 4000000 in
theorem g_X12_holder (l : Launch) (G : xa_C) (v0 v1 v2 : Int) (h : xa_H) : xa_G l G 4 mX12_holder (f_X12_holder v0 v1 v2 h) (fun r => some (some (xI r), h) : Int → Option xa_O) 0 [some (xR v0), some (xI v1), some (xI v2)] [] h := by
  unfold f_X12_holder
  refine xa_step (xa_aload_n d_X12_holder_0 rfl) ?_
  refine xa_step (xa_iload_n d_X12_holder_1 rfl) ?_
  refine xa_callVi (as := [xI v1]) (st := []) (M' := mX12_isHolder) (d' := 3) rfl xw_1889 xw_1891 xw_118 xw_1892 xw_177 xh_X12_isHolder rfl ⟨Nat.le_of_ble_eq_true rfl, Nat.le_of_ble_eq_true rfl⟩ (Nat.le_of_ble_eq_true rfl) rfl d_X12_holder_2 (fun r hr => ct_X12_isHolder l G v0 v1 h r hr) (fun r1 _ => ?_)
  refine xa_if (xa_ifne d_X12_holder_5) (fun q2 => ?_) (fun q2 => ?_)
  · refine xa_step (xa_iconst d_X12_holder_8 xq_i_m1) ?_
    exact xa_iret d_X12_holder_9 rfl rfl
  · refine xa_step (xa_iload_n d_X12_holder_10 rfl) ?_
    refine xa_case (fun q3 => ?_) (fun q3 => ?_)
    · refine xa_step (xa_tabIn (k := 0) d_X12_holder_11 q3 (by decide) (by decide) rfl rfl) ?_
      refine xa_step (xa_aload_n d_X12_holder_44 rfl) ?_
      refine xa_step (xa_iload_n d_X12_holder_45 rfl) ?_
      refine xa_callVi (as := [xI v1]) (st := []) (M' := mX12_hadBy) (d' := 2) rfl xw_1844 xw_1846 xw_110 xw_1847 xw_177 xh_X12_hadBy rfl ⟨Nat.le_of_ble_eq_true rfl, Nat.le_of_ble_eq_true rfl⟩ (Nat.le_of_ble_eq_true rfl) rfl d_X12_holder_46 (fun r hr => ct_X12_hadBy l G v0 v1 h r hr) (fun r4 _ => ?_)
      exact xa_iret d_X12_holder_49 rfl rfl
    · refine xa_case (fun q5 => ?_) (fun q5 => ?_)
      · refine xa_step (xa_tabIn (k := 1) d_X12_holder_11 q5 (by decide) (by decide) rfl rfl) ?_
        refine xa_step (xa_aload_n d_X12_holder_50 rfl) ?_
        refine xa_step (xa_iload_n d_X12_holder_51 rfl) ?_
        refine xa_callVi (as := [xI v1]) (st := []) (M' := mX12_wantedBy) (d' := 2) rfl xw_1848 xw_1850 xw_111 xw_1851 xw_177 xh_X12_wantedBy rfl ⟨Nat.le_of_ble_eq_true rfl, Nat.le_of_ble_eq_true rfl⟩ (Nat.le_of_ble_eq_true rfl) rfl d_X12_holder_52 (fun r hr => ct_X12_wantedBy l G v0 v1 h r hr) (fun r6 _ => ?_)
        exact xa_iret d_X12_holder_55 rfl rfl
      · refine xa_case (fun q7 => ?_) (fun q7 => ?_)
        · refine xa_step (xa_tabIn (k := 2) d_X12_holder_11 q7 (by decide) (by decide) rfl rfl) ?_
          refine xa_step (xa_aload_n d_X12_holder_56 rfl) ?_
          refine xa_step (xa_iload_n d_X12_holder_57 rfl) ?_
          refine xa_callVi (as := [xI v1]) (st := []) (M' := mX12_purseOf) (d' := 2) rfl xw_1852 xw_1854 xw_112 xw_1855 xw_177 xh_X12_purseOf rfl ⟨Nat.le_of_ble_eq_true rfl, Nat.le_of_ble_eq_true rfl⟩ (Nat.le_of_ble_eq_true rfl) rfl d_X12_holder_58 (fun r hr => ct_X12_purseOf l G v0 v1 h r hr) (fun r8 _ => ?_)
          exact xa_iret d_X12_holder_61 rfl rfl
        · refine xa_case (fun q9 => ?_) (fun q9 => ?_)
          · refine xa_step (xa_tabIn (k := 3) d_X12_holder_11 q9 (by decide) (by decide) rfl rfl) ?_
            refine xa_step (xa_aload_n d_X12_holder_62 rfl) ?_
            refine xa_step (xa_iload_n d_X12_holder_63 rfl) ?_
            refine xa_callVi (as := [xI v1]) (st := []) (M' := mX12_isSettled) (d' := 3) rfl xw_1840 xw_1842 xw_109 xw_1843 xw_177 xh_X12_isSettled rfl ⟨Nat.le_of_ble_eq_true rfl, Nat.le_of_ble_eq_true rfl⟩ (Nat.le_of_ble_eq_true rfl) rfl d_X12_holder_64 (fun r hr => ct_X12_isSettled l G v0 v1 h r hr) (fun r10 _ => ?_)
            refine xa_if (xa_ifeq d_X12_holder_67) (fun q11 => ?_) (fun q11 => ?_)
            · refine xa_step (xa_iconst d_X12_holder_74 xq_i_0) ?_
              exact xa_iret d_X12_holder_75 rfl rfl
            · refine xa_step (xa_iconst d_X12_holder_70 xq_i_1) ?_
              refine xa_step (xa_goto d_X12_holder_71) ?_
              exact xa_iret d_X12_holder_75 rfl rfl
          · refine xa_case (fun q12 => ?_) (fun q12 => ?_)
            · refine xa_step (xa_tabIn (k := 4) d_X12_holder_11 q12 (by decide) (by decide) rfl rfl) ?_
              refine xa_step (xa_aload_n d_X12_holder_76 rfl) ?_
              refine xa_getf xR xc_12 (by decide) (fun _ => rfl) xw_1346 rfl d_X12_holder_77 (fun x13 _ => ?_)
              refine xa_step (xa_bipush d_X12_holder_80 xq_b_6) ?_
              refine xa_step (xa_iload_n d_X12_holder_82 rfl) ?_
              refine xa_step (xa_iadd d_X12_holder_83) ?_
              refine xa_iaload d_X12_holder_84 (fun x14 _ => ?_)
              exact xa_iret d_X12_holder_85 rfl rfl
            · refine xa_step (xa_tabOut d_X12_holder_11 (by omega) rfl) ?_
              refine xa_step (xa_iconst d_X12_holder_86 xq_i_m1) ?_
              exact xa_iret d_X12_holder_87 rfl rfl
theorem ct_X12_holder (l : Launch) (G : xa_C) (v0 v1 v2 : Int) (h : xa_H) (r : Int) (hr : f_X12_holder v0 v1 v2 h = some r) : xa_CT l G 4 mX12_holder yX12_holder [xR v0, xI v1, xI v2] h (some (xI r), h) :=
  xa_met (by decide +kernel) rfl (fun q => by first | rfl | cases q) (Nat.le_of_ble_eq_true rfl) rfl (g_X12_holder l G v0 v1 v2 h) (by rw [hr]; rfl)
abbrev mX12_checked : xa_M := (cX12_checked, 4, (some (.int)), RX12, false)
theorem d_X12_checked_0 : decode mX12_checked.1 0 = .ok (.bipush 17, 2) ∧ 0 + 2 = 2 := ⟨by decide +kernel, rfl⟩
theorem d_X12_checked_2 : decode mX12_checked.1 2 = .ok (.istore_n 2, 1) ∧ 2 + 1 = 3 := ⟨by decide +kernel, rfl⟩
theorem d_X12_checked_3 : decode mX12_checked.1 3 = .ok (.iconst 0, 1) ∧ 3 + 1 = 4 := ⟨by decide +kernel, rfl⟩
theorem d_X12_checked_4 : decode mX12_checked.1 4 = .ok (.istore_n 3, 1) ∧ 4 + 1 = 5 := ⟨by decide +kernel, rfl⟩
theorem d_X12_checked_5 : decode mX12_checked.1 5 = .ok (.iload_n 3, 1) ∧ 5 + 1 = 6 := ⟨by decide +kernel, rfl⟩
theorem d_X12_checked_6 : decode mX12_checked.1 6 = .ok (.iload_n 1, 1) ∧ 6 + 1 = 7 := ⟨by decide +kernel, rfl⟩
theorem d_X12_checked_7 : decode mX12_checked.1 7 = .ok (.if_icmp .ge 21, 3) ∧ 7 + 3 = 10 ∧ ((7 : Nat) : Int) + 21 = ((28 : Nat) : Int) := ⟨by decide +kernel, rfl, rfl⟩
theorem d_X12_checked_10 : decode mX12_checked.1 10 = .ok (.iconst 3, 1) ∧ 10 + 1 = 11 := ⟨by decide +kernel, rfl⟩
theorem d_X12_checked_11 : decode mX12_checked.1 11 = .ok (.iload_n 2, 1) ∧ 11 + 1 = 12 := ⟨by decide +kernel, rfl⟩
theorem d_X12_checked_12 : decode mX12_checked.1 12 = .ok (.imul, 1) ∧ 12 + 1 = 13 := ⟨by decide +kernel, rfl⟩
theorem d_X12_checked_13 : decode mX12_checked.1 13 = .ok (.aload_n 0, 1) ∧ 13 + 1 = 14 := ⟨by decide +kernel, rfl⟩
theorem d_X12_checked_14 : decode mX12_checked.1 14 = .ok (.iload_n 3, 1) ∧ 14 + 1 = 15 := ⟨by decide +kernel, rfl⟩
theorem d_X12_checked_15 : decode mX12_checked.1 15 = .ok (.iaload, 1) ∧ 15 + 1 = 16 := ⟨by decide +kernel, rfl⟩
theorem d_X12_checked_16 : decode mX12_checked.1 16 = .ok (.iadd, 1) ∧ 16 + 1 = 17 := ⟨by decide +kernel, rfl⟩
theorem d_X12_checked_17 : decode mX12_checked.1 17 = .ok (.sipush 251, 3) ∧ 17 + 3 = 20 := ⟨by decide +kernel, rfl⟩
theorem d_X12_checked_20 : decode mX12_checked.1 20 = .ok (.irem, 1) ∧ 20 + 1 = 21 := ⟨by decide +kernel, rfl⟩
theorem d_X12_checked_21 : decode mX12_checked.1 21 = .ok (.istore_n 2, 1) ∧ 21 + 1 = 22 := ⟨by decide +kernel, rfl⟩
theorem d_X12_checked_22 : decode mX12_checked.1 22 = .ok (.iinc 3 1, 3) ∧ 22 + 3 = 25 := ⟨by decide +kernel, rfl⟩
theorem d_X12_checked_25 : decode mX12_checked.1 25 = .ok (.goto (-20), 3) ∧ ((25 : Nat) : Int) + (-20) = ((5 : Nat) : Int) := ⟨by decide +kernel, rfl⟩
set_option maxRecDepth 100000 in
set_option maxHeartbeats 4000000 in
theorem g_X12_checked_L5 (l : Launch) (G : xa_C) (c0 c1 : Int) (h : xa_H) (K : (Int × Int) ⊕ (Int) → Option xa_O) (hb : ∀ (v2 : Int) (v3 : Int), xa_G l G 2 mX12_checked (some (Sum.inl ((v2, v3)))) K 5 [some (xR c0), some (xI c1), some (xI v2), some (xI v3)] [] h) (hx : ∀ (v2 : Int), xa_G l G 2 mX12_checked (some (Sum.inr v2)) K 28 [none, none, some (xI v2), none] [] h) : ∀ (v2 : Int) (v3 : Int), xa_G l G 2 mX12_checked (f_X12_checked_L5 c0 c1 h v2 v3) K 5 [some (xR c0), some (xI c1), some (xI v2), some (xI v3)] [] h := by
  intro v2 v3
  unfold f_X12_checked_L5
  refine xa_step (xa_iload_n d_X12_checked_5 rfl) ?_
  refine xa_step (xa_iload_n d_X12_checked_6 rfl) ?_
  refine xa_if (xa_icmpge d_X12_checked_7) (fun q1 => ?_) (fun q1 => ?_)
  · refine xa_step (xa_iconst d_X12_checked_10 xq_i_3) ?_
    refine xa_step (xa_iload_n d_X12_checked_11 rfl) ?_
    refine xa_step (xa_imul d_X12_checked_12) ?_
    refine xa_step (xa_aload_n d_X12_checked_13 rfl) ?_
    refine xa_step (xa_iload_n d_X12_checked_14 rfl) ?_
    refine xa_iaload d_X12_checked_15 (fun x2 _ => ?_)
    refine xa_step (xa_iadd d_X12_checked_16) ?_
    refine xa_step (xa_sipush d_X12_checked_17 xq_s_251) ?_
    refine xa_step (xa_irem d_X12_checked_20 (by decide)) ?_
    refine xa_step (xa_istore_n (ls' := [some (xR c0), some (xI c1), some (xI (Int.tmod (w32 ((w32 (3 * v2)) + x2)) 251)), some (xI v3)]) d_X12_checked_21 (by decide) rfl) ?_
    refine xa_step (xa_iinc (ls' := [some (xR c0), some (xI c1), some (xI (Int.tmod (w32 ((w32 (3 * v2)) + x2)) 251)), some (xI (w32 (v3 + 1)))]) d_X12_checked_22 xq_i_1 rfl (by decide) rfl) ?_
    refine xa_step (xa_goto d_X12_checked_25) ?_
    exact xa_weak (ls' := [some (xR c0), some (xI c1), some (xI (Int.tmod (w32 ((w32 (3 * v2)) + x2)) 251)), some (xI (w32 (v3 + 1)))]) ⟨rfl, rfl, rfl, rfl, trivial⟩ (hb (Int.tmod (w32 ((w32 (3 * v2)) + x2)) 251) (w32 (v3 + 1)))
  · exact xa_weak (ls' := [none, none, some (xI v2), none]) ⟨rfl, trivial⟩ (hx v2)
theorem d_X12_checked_28 : decode mX12_checked.1 28 = .ok (.iload_n 2, 1) ∧ 28 + 1 = 29 := ⟨by decide +kernel, rfl⟩
theorem d_X12_checked_29 : decode mX12_checked.1 29 = .ok (.ireturn, 1) := by decide +kernel
set_option maxRecDepth 100000 in
set_option maxHeartbeats 4000000 in
theorem g_X12_checked (l : Launch) (G : xa_C) (v0 v1 : Int) (h : xa_H) : xa_G l G 2 mX12_checked (f_X12_checked v0 v1 h) (fun r => some (some (xI r), h) : Int → Option xa_O) 0 [some (xR v0), some (xI v1), none, none] [] h := by
  unfold f_X12_checked
  refine xa_step (xa_bipush d_X12_checked_0 xq_b_17) ?_
  refine xa_step (xa_istore_n (ls' := [some (xR v0), some (xI v1), some (xI 17), none]) d_X12_checked_2 (by decide) rfl) ?_
  refine xa_step (xa_iconst d_X12_checked_3 xq_i_0) ?_
  refine xa_step (xa_istore_n (ls' := [some (xR v0), some (xI v1), some (xI 17), some (xI 0)]) d_X12_checked_4 (by decide) rfl) ?_
  refine xa_weak (ls' := [some (xR v0), some (xI v1), some (xI 17), some (xI 0)]) ⟨rfl, rfl, rfl, rfl, trivial⟩ ?_
  refine xa_loop (f := fun s => f_X12_checked_L5 v0 v1 h s.1 s.2) (L := fun s => [some (xR v0), some (xI v1), some (xI s.1), some (xI s.2)]) (P := fun s => h) (X := (fun x K => xa_G l G 2 mX12_checked (some (Sum.inr x)) K 28 [none, none, some (xI x), none] [] h)) (fun K hb hX s => g_X12_checked_L5 l G v0 v1 h K (fun w0 w1 => hb ((w0, w1))) (fun w0 => hX w0) s.1 s.2) ?_ xFU ((17, 0))
  intro e3 K hK
  refine xa_eqE hK ?_
  show xa_G l G 2 mX12_checked _ _ 28 [none, none, some (xI e3), none] [] h
  refine xa_step (xa_iload_n d_X12_checked_28 rfl) ?_
  exact xa_iret d_X12_checked_29 rfl rfl
theorem ct_X12_checked (l : Launch) (G : xa_C) (v0 v1 : Int) (h : xa_H) (r : Int) (hr : f_X12_checked v0 v1 h = some r) : xa_CT l G 2 mX12_checked yX12_checked [xR v0, xI v1] h (some (xI r), h) :=
  xa_met (by decide +kernel) rfl (fun q => by first | rfl | cases q) (Nat.le_of_ble_eq_true rfl) rfl (g_X12_checked l G v0 v1 h) (by rw [hr]; rfl)
abbrev mX12_writes : xa_M := (cX12_writes, 2, none, RX12, false)
theorem d_X12_writes_0 : decode mX12_writes.1 0 = .ok (.aload_n 0, 1) ∧ 0 + 1 = 1 := ⟨by decide +kernel, rfl⟩
theorem d_X12_writes_1 : decode mX12_writes.1 1 = .ok (.getfield 243, 3) ∧ 1 + 3 = 4 := ⟨by decide +kernel, rfl⟩
theorem d_X12_writes_4 : decode mX12_writes.1 4 = .ok (.aload_n 0, 1) ∧ 4 + 1 = 5 := ⟨by decide +kernel, rfl⟩
theorem d_X12_writes_5 : decode mX12_writes.1 5 = .ok (.getfield 685, 3) ∧ 5 + 3 = 8 := ⟨by decide +kernel, rfl⟩
theorem d_X12_writes_8 : decode mX12_writes.1 8 = .ok (.iload_n 1, 1) ∧ 8 + 1 = 9 := ⟨by decide +kernel, rfl⟩
theorem d_X12_writes_9 : decode mX12_writes.1 9 = .ok (.iastore, 1) ∧ 9 + 1 = 10 := ⟨by decide +kernel, rfl⟩
theorem d_X12_writes_10 : decode mX12_writes.1 10 = .ok (.aload_n 0, 1) ∧ 10 + 1 = 11 := ⟨by decide +kernel, rfl⟩
theorem d_X12_writes_11 : decode mX12_writes.1 11 = .ok (.dup, 1) ∧ 11 + 1 = 12 := ⟨by decide +kernel, rfl⟩
theorem d_X12_writes_12 : decode mX12_writes.1 12 = .ok (.getfield 685, 3) ∧ 12 + 3 = 15 := ⟨by decide +kernel, rfl⟩
theorem d_X12_writes_15 : decode mX12_writes.1 15 = .ok (.iconst 1, 1) ∧ 15 + 1 = 16 := ⟨by decide +kernel, rfl⟩
theorem d_X12_writes_16 : decode mX12_writes.1 16 = .ok (.iadd, 1) ∧ 16 + 1 = 17 := ⟨by decide +kernel, rfl⟩
theorem d_X12_writes_17 : decode mX12_writes.1 17 = .ok (.putfield 685, 3) ∧ 17 + 3 = 20 := ⟨by decide +kernel, rfl⟩
theorem d_X12_writes_20 : decode mX12_writes.1 20 = .ok (.return_, 1) := by decide +kernel
set_option maxRecDepth 100000 in
set_option maxHeartbeats 4000000 in
theorem g_X12_writes (l : Launch) (G : xa_C) (v0 v1 : Int) (h : xa_H) : xa_G l G 2 mX12_writes (f_X12_writes v0 v1 h) (fun r => some (none, r) : xa_H → Option xa_O) 0 [some (xR v0), some (xI v1)] [] h := by
  unfold f_X12_writes
  refine xa_step (xa_aload_n d_X12_writes_0 rfl) ?_
  refine xa_getf xR xc_12 (by decide) (fun _ => rfl) xw_1411 rfl d_X12_writes_1 (fun x1 _ => ?_)
  refine xa_step (xa_aload_n d_X12_writes_4 rfl) ?_
  refine xa_getf xI xc_12 (by decide) (fun _ => rfl) xw_1412 rfl d_X12_writes_5 (fun x2 _ => ?_)
  refine xa_step (xa_iload_n d_X12_writes_8 rfl) ?_
  refine xa_iastore2 d_X12_writes_9 (fun h3 _ => ?_)
  refine xa_step (xa_aload_n d_X12_writes_10 rfl) ?_
  refine xa_step (xa_dup d_X12_writes_11 (xa_tR _)) ?_
  refine xa_getf xI xc_12 (by decide) (fun _ => rfl) xw_1412 rfl d_X12_writes_12 (fun x4 _ => ?_)
  refine xa_step (xa_iconst d_X12_writes_15 xq_i_1) ?_
  refine xa_step (xa_iadd d_X12_writes_16) ?_
  refine xa_putf2 (tg := xI) xc_12 (by decide) (fun _ => rfl) rfl (fun c hc => xa_fitI c hc) xw_1412 rfl d_X12_writes_17 (fun h5 _ => ?_)
  exact xa_vret d_X12_writes_20 rfl rfl
theorem ct_X12_writes (l : Launch) (G : xa_C) (v0 v1 : Int) (h : xa_H) (r : xa_H) (hr : f_X12_writes v0 v1 h = some r) : xa_CT l G 2 mX12_writes yX12_writes [xR v0, xI v1] h (none, r) :=
  xa_met (by decide +kernel) rfl (fun q => by first | rfl | cases q) (Nat.le_of_ble_eq_true rfl) rfl (g_X12_writes l G v0 v1 h) (by rw [hr]; rfl)
abbrev mX12_image : xa_M := (cX12_image, 3, (some (.int)), RX12, false)
theorem d_X12_image_0 : decode mX12_image.1 0 = .ok (.aload_n 0, 1) ∧ 0 + 1 = 1 := ⟨by decide +kernel, rfl⟩
theorem d_X12_image_1 : decode mX12_image.1 1 = .ok (.iconst 0, 1) ∧ 1 + 1 = 2 := ⟨by decide +kernel, rfl⟩
theorem d_X12_image_2 : decode mX12_image.1 2 = .ok (.putfield 685, 3) ∧ 2 + 3 = 5 := ⟨by decide +kernel, rfl⟩
theorem d_X12_image_5 : decode mX12_image.1 5 = .ok (.aload_n 0, 1) ∧ 5 + 1 = 6 := ⟨by decide +kernel, rfl⟩
theorem d_X12_image_6 : decode mX12_image.1 6 = .ok (.aload_n 0, 1) ∧ 6 + 1 = 7 := ⟨by decide +kernel, rfl⟩
theorem d_X12_image_7 : decode mX12_image.1 7 = .ok (.getfield 130, 3) ∧ 7 + 3 = 10 := ⟨by decide +kernel, rfl⟩
theorem d_X12_image_10 : decode mX12_image.1 10 = .ok (.iconst 0, 1) ∧ 10 + 1 = 11 := ⟨by decide +kernel, rfl⟩
theorem d_X12_image_11 : decode mX12_image.1 11 = .ok (.iaload, 1) ∧ 11 + 1 = 12 := ⟨by decide +kernel, rfl⟩
theorem d_X12_image_12 : decode mX12_image.1 12 = .ok (.sipush 256, 3) ∧ 12 + 3 = 15 := ⟨by decide +kernel, rfl⟩
theorem d_X12_image_15 : decode mX12_image.1 15 = .ok (.idiv, 1) ∧ 15 + 1 = 16 := ⟨by decide +kernel, rfl⟩
theorem d_X12_image_16 : decode mX12_image.1 16 = .ok (.invokevirtual 688, 3) ∧ 16 + 3 = 19 := ⟨by decide +kernel, rfl⟩
theorem d_X12_image_19 : decode mX12_image.1 19 = .ok (.aload_n 0, 1) ∧ 19 + 1 = 20 := ⟨by decide +kernel, rfl⟩
theorem d_X12_image_20 : decode mX12_image.1 20 = .ok (.aload_n 0, 1) ∧ 20 + 1 = 21 := ⟨by decide +kernel, rfl⟩
theorem d_X12_image_21 : decode mX12_image.1 21 = .ok (.getfield 130, 3) ∧ 21 + 3 = 24 := ⟨by decide +kernel, rfl⟩
theorem d_X12_image_24 : decode mX12_image.1 24 = .ok (.iconst 0, 1) ∧ 24 + 1 = 25 := ⟨by decide +kernel, rfl⟩
theorem d_X12_image_25 : decode mX12_image.1 25 = .ok (.iaload, 1) ∧ 25 + 1 = 26 := ⟨by decide +kernel, rfl⟩
theorem d_X12_image_26 : decode mX12_image.1 26 = .ok (.sipush 256, 3) ∧ 26 + 3 = 29 := ⟨by decide +kernel, rfl⟩
theorem d_X12_image_29 : decode mX12_image.1 29 = .ok (.irem, 1) ∧ 29 + 1 = 30 := ⟨by decide +kernel, rfl⟩
theorem d_X12_image_30 : decode mX12_image.1 30 = .ok (.invokevirtual 688, 3) ∧ 30 + 3 = 33 := ⟨by decide +kernel, rfl⟩
theorem d_X12_image_33 : decode mX12_image.1 33 = .ok (.iconst 0, 1) ∧ 33 + 1 = 34 := ⟨by decide +kernel, rfl⟩
theorem d_X12_image_34 : decode mX12_image.1 34 = .ok (.istore_n 1, 1) ∧ 34 + 1 = 35 := ⟨by decide +kernel, rfl⟩
theorem d_X12_image_35 : decode mX12_image.1 35 = .ok (.iload_n 1, 1) ∧ 35 + 1 = 36 := ⟨by decide +kernel, rfl⟩
theorem d_X12_image_36 : decode mX12_image.1 36 = .ok (.aload_n 0, 1) ∧ 36 + 1 = 37 := ⟨by decide +kernel, rfl⟩
theorem d_X12_image_37 : decode mX12_image.1 37 = .ok (.invokevirtual 402, 3) ∧ 37 + 3 = 40 := ⟨by decide +kernel, rfl⟩
theorem d_X12_image_40 : decode mX12_image.1 40 = .ok (.if_icmp .ge 79, 3) ∧ 40 + 3 = 43 ∧ ((40 : Nat) : Int) + 79 = ((119 : Nat) : Int) := ⟨by decide +kernel, rfl, rfl⟩
theorem d_X12_image_43 : decode mX12_image.1 43 = .ok (.aload_n 0, 1) ∧ 43 + 1 = 44 := ⟨by decide +kernel, rfl⟩
theorem d_X12_image_44 : decode mX12_image.1 44 = .ok (.aload_n 0, 1) ∧ 44 + 1 = 45 := ⟨by decide +kernel, rfl⟩
theorem d_X12_image_45 : decode mX12_image.1 45 = .ok (.iload_n 1, 1) ∧ 45 + 1 = 46 := ⟨by decide +kernel, rfl⟩
theorem d_X12_image_46 : decode mX12_image.1 46 = .ok (.invokevirtual 405, 3) ∧ 46 + 3 = 49 := ⟨by decide +kernel, rfl⟩
theorem d_X12_image_49 : decode mX12_image.1 49 = .ok (.invokevirtual 688, 3) ∧ 49 + 3 = 52 := ⟨by decide +kernel, rfl⟩
theorem d_X12_image_52 : decode mX12_image.1 52 = .ok (.aload_n 0, 1) ∧ 52 + 1 = 53 := ⟨by decide +kernel, rfl⟩
theorem d_X12_image_53 : decode mX12_image.1 53 = .ok (.aload_n 0, 1) ∧ 53 + 1 = 54 := ⟨by decide +kernel, rfl⟩
theorem d_X12_image_54 : decode mX12_image.1 54 = .ok (.iload_n 1, 1) ∧ 54 + 1 = 55 := ⟨by decide +kernel, rfl⟩
theorem d_X12_image_55 : decode mX12_image.1 55 = .ok (.invokevirtual 408, 3) ∧ 55 + 3 = 58 := ⟨by decide +kernel, rfl⟩
theorem d_X12_image_58 : decode mX12_image.1 58 = .ok (.invokevirtual 688, 3) ∧ 58 + 3 = 61 := ⟨by decide +kernel, rfl⟩
theorem d_X12_image_61 : decode mX12_image.1 61 = .ok (.aload_n 0, 1) ∧ 61 + 1 = 62 := ⟨by decide +kernel, rfl⟩
theorem d_X12_image_62 : decode mX12_image.1 62 = .ok (.aload_n 0, 1) ∧ 62 + 1 = 63 := ⟨by decide +kernel, rfl⟩
theorem d_X12_image_63 : decode mX12_image.1 63 = .ok (.iload_n 1, 1) ∧ 63 + 1 = 64 := ⟨by decide +kernel, rfl⟩
theorem d_X12_image_64 : decode mX12_image.1 64 = .ok (.invokevirtual 477, 3) ∧ 64 + 3 = 67 := ⟨by decide +kernel, rfl⟩
theorem d_X12_image_67 : decode mX12_image.1 67 = .ok (.sipush 256, 3) ∧ 67 + 3 = 70 := ⟨by decide +kernel, rfl⟩
theorem d_X12_image_70 : decode mX12_image.1 70 = .ok (.idiv, 1) ∧ 70 + 1 = 71 := ⟨by decide +kernel, rfl⟩
theorem d_X12_image_71 : decode mX12_image.1 71 = .ok (.invokevirtual 688, 3) ∧ 71 + 3 = 74 := ⟨by decide +kernel, rfl⟩
theorem d_X12_image_74 : decode mX12_image.1 74 = .ok (.aload_n 0, 1) ∧ 74 + 1 = 75 := ⟨by decide +kernel, rfl⟩
theorem d_X12_image_75 : decode mX12_image.1 75 = .ok (.aload_n 0, 1) ∧ 75 + 1 = 76 := ⟨by decide +kernel, rfl⟩
theorem d_X12_image_76 : decode mX12_image.1 76 = .ok (.iload_n 1, 1) ∧ 76 + 1 = 77 := ⟨by decide +kernel, rfl⟩
theorem d_X12_image_77 : decode mX12_image.1 77 = .ok (.invokevirtual 477, 3) ∧ 77 + 3 = 80 := ⟨by decide +kernel, rfl⟩
theorem d_X12_image_80 : decode mX12_image.1 80 = .ok (.sipush 256, 3) ∧ 80 + 3 = 83 := ⟨by decide +kernel, rfl⟩
theorem d_X12_image_83 : decode mX12_image.1 83 = .ok (.irem, 1) ∧ 83 + 1 = 84 := ⟨by decide +kernel, rfl⟩
theorem d_X12_image_84 : decode mX12_image.1 84 = .ok (.invokevirtual 688, 3) ∧ 84 + 3 = 87 := ⟨by decide +kernel, rfl⟩
theorem d_X12_image_87 : decode mX12_image.1 87 = .ok (.iconst 0, 1) ∧ 87 + 1 = 88 := ⟨by decide +kernel, rfl⟩
theorem d_X12_image_88 : decode mX12_image.1 88 = .ok (.istore_n 2, 1) ∧ 88 + 1 = 89 := ⟨by decide +kernel, rfl⟩
theorem d_X12_image_89 : decode mX12_image.1 89 = .ok (.iload_n 2, 1) ∧ 89 + 1 = 90 := ⟨by decide +kernel, rfl⟩
theorem d_X12_image_90 : decode mX12_image.1 90 = .ok (.aload_n 0, 1) ∧ 90 + 1 = 91 := ⟨by decide +kernel, rfl⟩
theorem d_X12_image_91 : decode mX12_image.1 91 = .ok (.invokevirtual 402, 3) ∧ 91 + 3 = 94 := ⟨by decide +kernel, rfl⟩
theorem d_X12_image_94 : decode mX12_image.1 94 = .ok (.if_icmp .ge 19, 3) ∧ 94 + 3 = 97 ∧ ((94 : Nat) : Int) + 19 = ((113 : Nat) : Int) := ⟨by decide +kernel, rfl, rfl⟩
theorem d_X12_image_97 : decode mX12_image.1 97 = .ok (.aload_n 0, 1) ∧ 97 + 1 = 98 := ⟨by decide +kernel, rfl⟩
theorem d_X12_image_98 : decode mX12_image.1 98 = .ok (.aload_n 0, 1) ∧ 98 + 1 = 99 := ⟨by decide +kernel, rfl⟩
theorem d_X12_image_99 : decode mX12_image.1 99 = .ok (.iload_n 1, 1) ∧ 99 + 1 = 100 := ⟨by decide +kernel, rfl⟩
theorem d_X12_image_100 : decode mX12_image.1 100 = .ok (.iload_n 2, 1) ∧ 100 + 1 = 101 := ⟨by decide +kernel, rfl⟩
theorem d_X12_image_101 : decode mX12_image.1 101 = .ok (.invokevirtual 423, 3) ∧ 101 + 3 = 104 := ⟨by decide +kernel, rfl⟩
theorem d_X12_image_104 : decode mX12_image.1 104 = .ok (.invokevirtual 688, 3) ∧ 104 + 3 = 107 := ⟨by decide +kernel, rfl⟩
theorem d_X12_image_107 : decode mX12_image.1 107 = .ok (.iinc 2 1, 3) ∧ 107 + 3 = 110 := ⟨by decide +kernel, rfl⟩
theorem d_X12_image_110 : decode mX12_image.1 110 = .ok (.goto (-21), 3) ∧ ((110 : Nat) : Int) + (-21) = ((89 : Nat) : Int) := ⟨by decide +kernel, rfl⟩
set_option maxRecDepth 100000 in
set_option maxHeartbeats 4000000 in
theorem g_X12_image_L89 (l : Launch) (G : xa_C) (c0 c1 : Int) (K : (Int × xa_H) ⊕ (xa_H) → Option xa_O) (hb : ∀ (v2 : Int) (h : xa_H), xa_G l G 3 mX12_image (some (Sum.inl ((v2, h)))) K 89 [some (xR c0), some (xI c1), some (xI v2)] [] h) (hx : ∀ (h : xa_H), xa_G l G 3 mX12_image (some (Sum.inr h)) K 113 [some (xR c0), some (xI c1), none] [] h) : ∀ (v2 : Int) (h : xa_H), xa_G l G 3 mX12_image (f_X12_image_L89 c0 c1 v2 h) K 89 [some (xR c0), some (xI c1), some (xI v2)] [] h := by
  intro v2 h
  unfold f_X12_image_L89
  refine xa_step (xa_iload_n d_X12_image_89 rfl) ?_
  refine xa_step (xa_aload_n d_X12_image_90 rfl) ?_
  refine xa_callVi (as := []) (st := [xI v2]) (M' := mX12_holderMany) (d' := 2) rfl xw_1836 xw_1838 xw_108 xw_1839 xw_177 xh_X12_holderMany rfl ⟨Nat.le_of_ble_eq_true rfl, Nat.le_of_ble_eq_true rfl⟩ (Nat.le_of_ble_eq_true rfl) rfl d_X12_image_91 (fun r hr => ct_X12_holderMany l G c0 h r hr) (fun r18 _ => ?_)
  refine xa_if (xa_icmpge d_X12_image_94) (fun q19 => ?_) (fun q19 => ?_)
  · refine xa_step (xa_aload_n d_X12_image_97 rfl) ?_
    refine xa_step (xa_aload_n d_X12_image_98 rfl) ?_
    refine xa_step (xa_iload_n d_X12_image_99 rfl) ?_
    refine xa_step (xa_iload_n d_X12_image_100 rfl) ?_
    refine xa_callVi (as := [xI c1, xI v2]) (st := [xR c0]) (M' := mX12_metBy) (d' := 2) rfl xw_1901 xw_1903 xw_119 xw_1904 xw_177 xh_X12_metBy rfl ⟨Nat.le_of_ble_eq_true rfl, Nat.le_of_ble_eq_true rfl⟩ (Nat.le_of_ble_eq_true rfl) rfl d_X12_image_101 (fun r hr => ct_X12_metBy l G c0 c1 v2 h r hr) (fun r20 _ => ?_)
    refine xa_callVV (as := [xI r20]) (st := []) (M' := mX12_writes) (d' := 2) rfl xw_2151 xw_2153 xw_156 xw_2154 xw_177 xh_X12_writes rfl ⟨Nat.le_of_ble_eq_true rfl, Nat.le_of_ble_eq_true rfl⟩ (Nat.le_of_ble_eq_true rfl) rfl d_X12_image_104 (fun r hr => ct_X12_writes l G c0 r20 h r hr) (fun r21 _ => ?_)
    refine xa_step (xa_iinc (ls' := [some (xR c0), some (xI c1), some (xI (w32 (v2 + 1)))]) d_X12_image_107 xq_i_1 rfl (by decide) rfl) ?_
    refine xa_step (xa_goto d_X12_image_110) ?_
    exact xa_weak (ls' := [some (xR c0), some (xI c1), some (xI (w32 (v2 + 1)))]) ⟨rfl, rfl, rfl, trivial⟩ (hb (w32 (v2 + 1)) r21)
  · exact xa_weak (ls' := [some (xR c0), some (xI c1), none]) ⟨rfl, rfl, trivial⟩ (hx h)
theorem d_X12_image_113 : decode mX12_image.1 113 = .ok (.iinc 1 1, 3) ∧ 113 + 3 = 116 := ⟨by decide +kernel, rfl⟩
theorem d_X12_image_116 : decode mX12_image.1 116 = .ok (.goto (-81), 3) ∧ ((116 : Nat) : Int) + (-81) = ((35 : Nat) : Int) := ⟨by decide +kernel, rfl⟩
set_option maxRecDepth 100000 in
set_option maxHeartbeats 4000000 in
theorem g_X12_image_L35 (l : Launch) (G : xa_C) (c0 : Int) (K : (Int × xa_H) ⊕ (xa_H) → Option xa_O) (hb : ∀ (v1 : Int) (h : xa_H), xa_G l G 3 mX12_image (some (Sum.inl ((v1, h)))) K 35 [some (xR c0), some (xI v1), none] [] h) (hx : ∀ (h : xa_H), xa_G l G 3 mX12_image (some (Sum.inr h)) K 119 [some (xR c0), none, none] [] h) : ∀ (v1 : Int) (h : xa_H), xa_G l G 3 mX12_image (f_X12_image_L35 c0 v1 h) K 35 [some (xR c0), some (xI v1), none] [] h := by
  intro v1 h
  unfold f_X12_image_L35
  refine xa_step (xa_iload_n d_X12_image_35 rfl) ?_
  refine xa_step (xa_aload_n d_X12_image_36 rfl) ?_
  refine xa_callVi (as := []) (st := [xI v1]) (M' := mX12_holderMany) (d' := 2) rfl xw_1836 xw_1838 xw_108 xw_1839 xw_177 xh_X12_holderMany rfl ⟨Nat.le_of_ble_eq_true rfl, Nat.le_of_ble_eq_true rfl⟩ (Nat.le_of_ble_eq_true rfl) rfl d_X12_image_37 (fun r hr => ct_X12_holderMany l G c0 h r hr) (fun r8 _ => ?_)
  refine xa_if (xa_icmpge d_X12_image_40) (fun q9 => ?_) (fun q9 => ?_)
  · refine xa_step (xa_aload_n d_X12_image_43 rfl) ?_
    refine xa_step (xa_aload_n d_X12_image_44 rfl) ?_
    refine xa_step (xa_iload_n d_X12_image_45 rfl) ?_
    refine xa_callVi (as := [xI v1]) (st := [xR c0]) (M' := mX12_hadBy) (d' := 2) rfl xw_1844 xw_1846 xw_110 xw_1847 xw_177 xh_X12_hadBy rfl ⟨Nat.le_of_ble_eq_true rfl, Nat.le_of_ble_eq_true rfl⟩ (Nat.le_of_ble_eq_true rfl) rfl d_X12_image_46 (fun r hr => ct_X12_hadBy l G c0 v1 h r hr) (fun r10 _ => ?_)
    refine xa_callVV (as := [xI r10]) (st := []) (M' := mX12_writes) (d' := 2) rfl xw_2151 xw_2153 xw_156 xw_2154 xw_177 xh_X12_writes rfl ⟨Nat.le_of_ble_eq_true rfl, Nat.le_of_ble_eq_true rfl⟩ (Nat.le_of_ble_eq_true rfl) rfl d_X12_image_49 (fun r hr => ct_X12_writes l G c0 r10 h r hr) (fun r11 _ => ?_)
    refine xa_step (xa_aload_n d_X12_image_52 rfl) ?_
    refine xa_step (xa_aload_n d_X12_image_53 rfl) ?_
    refine xa_step (xa_iload_n d_X12_image_54 rfl) ?_
    refine xa_callVi (as := [xI v1]) (st := [xR c0]) (M' := mX12_wantedBy) (d' := 2) rfl xw_1848 xw_1850 xw_111 xw_1851 xw_177 xh_X12_wantedBy rfl ⟨Nat.le_of_ble_eq_true rfl, Nat.le_of_ble_eq_true rfl⟩ (Nat.le_of_ble_eq_true rfl) rfl d_X12_image_55 (fun r hr => ct_X12_wantedBy l G c0 v1 r11 r hr) (fun r12 _ => ?_)
    refine xa_callVV (as := [xI r12]) (st := []) (M' := mX12_writes) (d' := 2) rfl xw_2151 xw_2153 xw_156 xw_2154 xw_177 xh_X12_writes rfl ⟨Nat.le_of_ble_eq_true rfl, Nat.le_of_ble_eq_true rfl⟩ (Nat.le_of_ble_eq_true rfl) rfl d_X12_image_58 (fun r hr => ct_X12_writes l G c0 r12 r11 r hr) (fun r13 _ => ?_)
    refine xa_step (xa_aload_n d_X12_image_61 rfl) ?_
    refine xa_step (xa_aload_n d_X12_image_62 rfl) ?_
    refine xa_step (xa_iload_n d_X12_image_63 rfl) ?_
    refine xa_callVi (as := [xI v1]) (st := [xR c0]) (M' := mX12_purseOf) (d' := 2) rfl xw_1852 xw_1854 xw_112 xw_1855 xw_177 xh_X12_purseOf rfl ⟨Nat.le_of_ble_eq_true rfl, Nat.le_of_ble_eq_true rfl⟩ (Nat.le_of_ble_eq_true rfl) rfl d_X12_image_64 (fun r hr => ct_X12_purseOf l G c0 v1 r13 r hr) (fun r14 _ => ?_)
    refine xa_step (xa_sipush d_X12_image_67 xq_s_256) ?_
    refine xa_step (xa_idiv d_X12_image_70 (by decide)) ?_
    refine xa_callVV (as := [xI (w32 (Int.tdiv r14 256))]) (st := []) (M' := mX12_writes) (d' := 2) rfl xw_2151 xw_2153 xw_156 xw_2154 xw_177 xh_X12_writes rfl ⟨Nat.le_of_ble_eq_true rfl, Nat.le_of_ble_eq_true rfl⟩ (Nat.le_of_ble_eq_true rfl) rfl d_X12_image_71 (fun r hr => ct_X12_writes l G c0 (w32 (Int.tdiv r14 256)) r13 r hr) (fun r15 _ => ?_)
    refine xa_step (xa_aload_n d_X12_image_74 rfl) ?_
    refine xa_step (xa_aload_n d_X12_image_75 rfl) ?_
    refine xa_step (xa_iload_n d_X12_image_76 rfl) ?_
    refine xa_callVi (as := [xI v1]) (st := [xR c0]) (M' := mX12_purseOf) (d' := 2) rfl xw_1852 xw_1854 xw_112 xw_1855 xw_177 xh_X12_purseOf rfl ⟨Nat.le_of_ble_eq_true rfl, Nat.le_of_ble_eq_true rfl⟩ (Nat.le_of_ble_eq_true rfl) rfl d_X12_image_77 (fun r hr => ct_X12_purseOf l G c0 v1 r15 r hr) (fun r16 _ => ?_)
    refine xa_step (xa_sipush d_X12_image_80 xq_s_256) ?_
    refine xa_step (xa_irem d_X12_image_83 (by decide)) ?_
    refine xa_callVV (as := [xI (Int.tmod r16 256)]) (st := []) (M' := mX12_writes) (d' := 2) rfl xw_2151 xw_2153 xw_156 xw_2154 xw_177 xh_X12_writes rfl ⟨Nat.le_of_ble_eq_true rfl, Nat.le_of_ble_eq_true rfl⟩ (Nat.le_of_ble_eq_true rfl) rfl d_X12_image_84 (fun r hr => ct_X12_writes l G c0 (Int.tmod r16 256) r15 r hr) (fun r17 _ => ?_)
    refine xa_step (xa_iconst d_X12_image_87 xq_i_0) ?_
    refine xa_step (xa_istore_n (ls' := [some (xR c0), some (xI v1), some (xI 0)]) d_X12_image_88 (by decide) rfl) ?_
    refine xa_weak (ls' := [some (xR c0), some (xI v1), some (xI 0)]) ⟨rfl, rfl, rfl, trivial⟩ ?_
    refine xa_loop (f := fun s => f_X12_image_L89 c0 v1 s.1 s.2) (L := fun s => [some (xR c0), some (xI v1), some (xI s.1)]) (P := fun s => s.2) (X := (fun x K => xa_G l G 3 mX12_image (some (Sum.inr x)) K 113 [some (xR c0), some (xI v1), none] [] x)) (fun K hb hX s => g_X12_image_L89 l G c0 v1 K (fun w0 hh => hb ((w0, hh))) (fun hh => hX hh) s.1 s.2) ?_ xFU ((0, r17))
    intro e22 K hK
    refine xa_eqE hK ?_
    show xa_G l G 3 mX12_image _ _ 113 [some (xR c0), some (xI v1), none] [] e22
    refine xa_step (xa_iinc (ls' := [some (xR c0), some (xI (w32 (v1 + 1))), none]) d_X12_image_113 xq_i_1 rfl (by decide) rfl) ?_
    refine xa_step (xa_goto d_X12_image_116) ?_
    exact xa_weak (ls' := [some (xR c0), some (xI (w32 (v1 + 1))), none]) ⟨rfl, rfl, trivial⟩ (hb (w32 (v1 + 1)) e22)
  · exact xa_weak (ls' := [some (xR c0), none, none]) ⟨rfl, trivial⟩ (hx h)
theorem d_X12_image_119 : decode mX12_image.1 119 = .ok (.aload_n 0, 1) ∧ 119 + 1 = 120 := ⟨by decide +kernel, rfl⟩
theorem d_X12_image_120 : decode mX12_image.1 120 = .ok (.aload_n 0, 1) ∧ 120 + 1 = 121 := ⟨by decide +kernel, rfl⟩
theorem d_X12_image_121 : decode mX12_image.1 121 = .ok (.getfield 243, 3) ∧ 121 + 3 = 124 := ⟨by decide +kernel, rfl⟩
theorem d_X12_image_124 : decode mX12_image.1 124 = .ok (.aload_n 0, 1) ∧ 124 + 1 = 125 := ⟨by decide +kernel, rfl⟩
theorem d_X12_image_125 : decode mX12_image.1 125 = .ok (.getfield 685, 3) ∧ 125 + 3 = 128 := ⟨by decide +kernel, rfl⟩
theorem d_X12_image_128 : decode mX12_image.1 128 = .ok (.invokestatic 691, 3) ∧ 128 + 3 = 131 := ⟨by decide +kernel, rfl⟩
theorem d_X12_image_131 : decode mX12_image.1 131 = .ok (.invokevirtual 688, 3) ∧ 131 + 3 = 134 := ⟨by decide +kernel, rfl⟩
theorem d_X12_image_134 : decode mX12_image.1 134 = .ok (.aload_n 0, 1) ∧ 134 + 1 = 135 := ⟨by decide +kernel, rfl⟩
theorem d_X12_image_135 : decode mX12_image.1 135 = .ok (.getfield 685, 3) ∧ 135 + 3 = 138 := ⟨by decide +kernel, rfl⟩
theorem d_X12_image_138 : decode mX12_image.1 138 = .ok (.ireturn, 1) := by decide +kernel
set_option maxRecDepth 100000 in
set_option maxHeartbeats 4000000 in
theorem g_X12_image (l : Launch) (G : xa_C) (v0 : Int) (h : xa_H) : xa_G l G 3 mX12_image (f_X12_image v0 h) (fun r => some (some (xI r.1), r.2) : (Int × xa_H) → Option xa_O) 0 [some (xR v0), none, none] [] h := by
  unfold f_X12_image
  refine xa_step (xa_aload_n d_X12_image_0 rfl) ?_
  refine xa_step (xa_iconst d_X12_image_1 xq_i_0) ?_
  refine xa_putf2 (tg := xI) xc_12 (by decide) (fun _ => rfl) rfl (fun c hc => xa_fitI c hc) xw_1412 rfl d_X12_image_2 (fun h1 _ => ?_)
  refine xa_step (xa_aload_n d_X12_image_5 rfl) ?_
  refine xa_step (xa_aload_n d_X12_image_6 rfl) ?_
  refine xa_getf xR xc_12 (by decide) (fun _ => rfl) xw_1354 rfl d_X12_image_7 (fun x2 _ => ?_)
  refine xa_step (xa_iconst d_X12_image_10 xq_i_0) ?_
  refine xa_iaload d_X12_image_11 (fun x3 _ => ?_)
  refine xa_step (xa_sipush d_X12_image_12 xq_s_256) ?_
  refine xa_step (xa_idiv d_X12_image_15 (by decide)) ?_
  refine xa_callVV (as := [xI (w32 (Int.tdiv x3 256))]) (st := []) (M' := mX12_writes) (d' := 2) rfl xw_2151 xw_2153 xw_156 xw_2154 xw_177 xh_X12_writes rfl ⟨Nat.le_of_ble_eq_true rfl, Nat.le_of_ble_eq_true rfl⟩ (Nat.le_of_ble_eq_true rfl) rfl d_X12_image_16 (fun r hr => ct_X12_writes l G v0 (w32 (Int.tdiv x3 256)) h1 r hr) (fun r4 _ => ?_)
  refine xa_step (xa_aload_n d_X12_image_19 rfl) ?_
  refine xa_step (xa_aload_n d_X12_image_20 rfl) ?_
  refine xa_getf xR xc_12 (by decide) (fun _ => rfl) xw_1354 rfl d_X12_image_21 (fun x5 _ => ?_)
  refine xa_step (xa_iconst d_X12_image_24 xq_i_0) ?_
  refine xa_iaload d_X12_image_25 (fun x6 _ => ?_)
  refine xa_step (xa_sipush d_X12_image_26 xq_s_256) ?_
  refine xa_step (xa_irem d_X12_image_29 (by decide)) ?_
  refine xa_callVV (as := [xI (Int.tmod x6 256)]) (st := []) (M' := mX12_writes) (d' := 2) rfl xw_2151 xw_2153 xw_156 xw_2154 xw_177 xh_X12_writes rfl ⟨Nat.le_of_ble_eq_true rfl, Nat.le_of_ble_eq_true rfl⟩ (Nat.le_of_ble_eq_true rfl) rfl d_X12_image_30 (fun r hr => ct_X12_writes l G v0 (Int.tmod x6 256) r4 r hr) (fun r7 _ => ?_)
  refine xa_step (xa_iconst d_X12_image_33 xq_i_0) ?_
  refine xa_step (xa_istore_n (ls' := [some (xR v0), some (xI 0), none]) d_X12_image_34 (by decide) rfl) ?_
  refine xa_weak (ls' := [some (xR v0), some (xI 0), none]) ⟨rfl, rfl, trivial⟩ ?_
  refine xa_loop (f := fun s => f_X12_image_L35 v0 s.1 s.2) (L := fun s => [some (xR v0), some (xI s.1), none]) (P := fun s => s.2) (X := (fun x K => xa_G l G 3 mX12_image (some (Sum.inr x)) K 119 [some (xR v0), none, none] [] x)) (fun K hb hX s => g_X12_image_L35 l G v0 K (fun w0 hh => hb ((w0, hh))) (fun hh => hX hh) s.1 s.2) ?_ xFU ((0, r7))
  intro e23 K hK
  refine xa_eqE hK ?_
  show xa_G l G 3 mX12_image _ _ 119 [some (xR v0), none, none] [] e23
  refine xa_step (xa_aload_n d_X12_image_119 rfl) ?_
  refine xa_step (xa_aload_n d_X12_image_120 rfl) ?_
  refine xa_getf xR xc_12 (by decide) (fun _ => rfl) xw_1411 rfl d_X12_image_121 (fun x24 _ => ?_)
  refine xa_step (xa_aload_n d_X12_image_124 rfl) ?_
  refine xa_getf xI xc_12 (by decide) (fun _ => rfl) xw_1412 rfl d_X12_image_125 (fun x25 _ => ?_)
  refine xa_callSi (as := [xR x24, xI x25]) (st := [xR v0]) (M' := mX12_checked) (d' := 2) xw_2155 xw_2156 xw_2157 xw_177 xh_X12_checked rfl ⟨Nat.le_of_ble_eq_true rfl, Nat.le_of_ble_eq_true rfl⟩ (Nat.le_of_ble_eq_true rfl) rfl d_X12_image_128 (fun r hr => ct_X12_checked l G x24 x25 e23 r hr) (fun r26 _ => ?_)
  refine xa_callVV (as := [xI r26]) (st := []) (M' := mX12_writes) (d' := 2) rfl xw_2151 xw_2153 xw_156 xw_2154 xw_177 xh_X12_writes rfl ⟨Nat.le_of_ble_eq_true rfl, Nat.le_of_ble_eq_true rfl⟩ (Nat.le_of_ble_eq_true rfl) rfl d_X12_image_131 (fun r hr => ct_X12_writes l G v0 r26 e23 r hr) (fun r27 _ => ?_)
  refine xa_step (xa_aload_n d_X12_image_134 rfl) ?_
  refine xa_getf xI xc_12 (by decide) (fun _ => rfl) xw_1412 rfl d_X12_image_135 (fun x28 _ => ?_)
  exact xa_iret d_X12_image_138 rfl rfl
theorem ct_X12_image (l : Launch) (G : xa_C) (v0 : Int) (h : xa_H) (r : Int × xa_H) (hr : f_X12_image v0 h = some r) : xa_CT l G 3 mX12_image yX12_image [xR v0] h (some (xI r.1), r.2) :=
  xa_met (by decide +kernel) rfl (fun q => by first | rfl | cases q) (Nat.le_of_ble_eq_true rfl) rfl (g_X12_image l G v0 h) (by rw [hr]; rfl)
abbrev mX12_isRing : xa_M := (cX12_isRing, 4, (some (.boolean)), RX12, false)
theorem d_X12_isRing_0 : decode mX12_isRing.1 0 = .ok (.aload_n 0, 1) ∧ 0 + 1 = 1 := ⟨by decide +kernel, rfl⟩
theorem d_X12_isRing_1 : decode mX12_isRing.1 1 = .ok (.getfield 246, 3) ∧ 1 + 3 = 4 := ⟨by decide +kernel, rfl⟩
theorem d_X12_isRing_4 : decode mX12_isRing.1 4 = .ok (.istore_n 1, 1) ∧ 4 + 1 = 5 := ⟨by decide +kernel, rfl⟩
theorem d_X12_isRing_5 : decode mX12_isRing.1 5 = .ok (.aload_n 0, 1) ∧ 5 + 1 = 6 := ⟨by decide +kernel, rfl⟩
theorem d_X12_isRing_6 : decode mX12_isRing.1 6 = .ok (.iconst 0, 1) ∧ 6 + 1 = 7 := ⟨by decide +kernel, rfl⟩
theorem d_X12_isRing_7 : decode mX12_isRing.1 7 = .ok (.putfield 246, 3) ∧ 7 + 3 = 10 := ⟨by decide +kernel, rfl⟩
theorem d_X12_isRing_10 : decode mX12_isRing.1 10 = .ok (.iconst 0, 1) ∧ 10 + 1 = 11 := ⟨by decide +kernel, rfl⟩
theorem d_X12_isRing_11 : decode mX12_isRing.1 11 = .ok (.istore_n 2, 1) ∧ 11 + 1 = 12 := ⟨by decide +kernel, rfl⟩
theorem d_X12_isRing_12 : decode mX12_isRing.1 12 = .ok (.iload_n 1, 1) ∧ 12 + 1 = 13 := ⟨by decide +kernel, rfl⟩
theorem d_X12_isRing_13 : decode mX12_isRing.1 13 = .ok (.i2l, 1) ∧ 13 + 1 = 14 := ⟨by decide +kernel, rfl⟩
theorem d_X12_isRing_14 : decode mX12_isRing.1 14 = .ok (.ldc2_w 454, 3) ∧ 14 + 3 = 17 := ⟨by decide +kernel, rfl⟩
theorem d_X12_isRing_17 : decode mX12_isRing.1 17 = .ok (.ldc2_w 456, 3) ∧ 17 + 3 = 20 := ⟨by decide +kernel, rfl⟩
theorem d_X12_isRing_20 : decode mX12_isRing.1 20 = .ok (.invokestatic 289, 3) ∧ 20 + 3 = 23 := ⟨by decide +kernel, rfl⟩
theorem d_X12_isRing_23 : decode mX12_isRing.1 23 = .ok (.ifCond .ne 5, 3) ∧ 23 + 3 = 26 ∧ ((23 : Nat) : Int) + 5 = ((28 : Nat) : Int) := ⟨by decide +kernel, rfl, rfl⟩
theorem d_X12_isRing_26 : decode mX12_isRing.1 26 = .ok (.iconst 0, 1) ∧ 26 + 1 = 27 := ⟨by decide +kernel, rfl⟩
theorem d_X12_isRing_27 : decode mX12_isRing.1 27 = .ok (.ireturn, 1) := by decide +kernel
theorem d_X12_isRing_28 : decode mX12_isRing.1 28 = .ok (.iconst 0, 1) ∧ 28 + 1 = 29 := ⟨by decide +kernel, rfl⟩
theorem d_X12_isRing_29 : decode mX12_isRing.1 29 = .ok (.istore_n 3, 1) ∧ 29 + 1 = 30 := ⟨by decide +kernel, rfl⟩
theorem d_X12_isRing_30 : decode mX12_isRing.1 30 = .ok (.iload_n 3, 1) ∧ 30 + 1 = 31 := ⟨by decide +kernel, rfl⟩
theorem d_X12_isRing_31 : decode mX12_isRing.1 31 = .ok (.iload_n 1, 1) ∧ 31 + 1 = 32 := ⟨by decide +kernel, rfl⟩
theorem d_X12_isRing_32 : decode mX12_isRing.1 32 = .ok (.if_icmp .ge 49, 3) ∧ 32 + 3 = 35 ∧ ((32 : Nat) : Int) + 49 = ((81 : Nat) : Int) := ⟨by decide +kernel, rfl, rfl⟩
theorem d_X12_isRing_35 : decode mX12_isRing.1 35 = .ok (.aload_n 0, 1) ∧ 35 + 1 = 36 := ⟨by decide +kernel, rfl⟩
theorem d_X12_isRing_36 : decode mX12_isRing.1 36 = .ok (.aload_n 0, 1) ∧ 36 + 1 = 37 := ⟨by decide +kernel, rfl⟩
theorem d_X12_isRing_37 : decode mX12_isRing.1 37 = .ok (.getfield 7, 3) ∧ 37 + 3 = 40 := ⟨by decide +kernel, rfl⟩
theorem d_X12_isRing_40 : decode mX12_isRing.1 40 = .ok (.iload_n 3, 1) ∧ 40 + 1 = 41 := ⟨by decide +kernel, rfl⟩
theorem d_X12_isRing_41 : decode mX12_isRing.1 41 = .ok (.iaload, 1) ∧ 41 + 1 = 42 := ⟨by decide +kernel, rfl⟩
theorem d_X12_isRing_42 : decode mX12_isRing.1 42 = .ok (.invokevirtual 458, 3) ∧ 42 + 3 = 45 := ⟨by decide +kernel, rfl⟩
theorem d_X12_isRing_45 : decode mX12_isRing.1 45 = .ok (.ifCond .eq 17, 3) ∧ 45 + 3 = 48 ∧ ((45 : Nat) : Int) + 17 = ((62 : Nat) : Int) := ⟨by decide +kernel, rfl, rfl⟩
theorem d_X12_isRing_62 : decode mX12_isRing.1 62 = .ok (.iconst 0, 1) ∧ 62 + 1 = 63 := ⟨by decide +kernel, rfl⟩
theorem d_X12_isRing_63 : decode mX12_isRing.1 63 = .ok (.ireturn, 1) := by decide +kernel
theorem d_X12_isRing_48 : decode mX12_isRing.1 48 = .ok (.iload_n 2, 1) ∧ 48 + 1 = 49 := ⟨by decide +kernel, rfl⟩
theorem d_X12_isRing_49 : decode mX12_isRing.1 49 = .ok (.aload_n 0, 1) ∧ 49 + 1 = 50 := ⟨by decide +kernel, rfl⟩
theorem d_X12_isRing_50 : decode mX12_isRing.1 50 = .ok (.getfield 7, 3) ∧ 50 + 3 = 53 := ⟨by decide +kernel, rfl⟩
theorem d_X12_isRing_53 : decode mX12_isRing.1 53 = .ok (.iload_n 3, 1) ∧ 53 + 1 = 54 := ⟨by decide +kernel, rfl⟩
theorem d_X12_isRing_54 : decode mX12_isRing.1 54 = .ok (.iaload, 1) ∧ 54 + 1 = 55 := ⟨by decide +kernel, rfl⟩
theorem d_X12_isRing_55 : decode mX12_isRing.1 55 = .ok (.ishr, 1) ∧ 55 + 1 = 56 := ⟨by decide +kernel, rfl⟩
theorem d_X12_isRing_56 : decode mX12_isRing.1 56 = .ok (.iconst 1, 1) ∧ 56 + 1 = 57 := ⟨by decide +kernel, rfl⟩
theorem d_X12_isRing_57 : decode mX12_isRing.1 57 = .ok (.iand, 1) ∧ 57 + 1 = 58 := ⟨by decide +kernel, rfl⟩
theorem d_X12_isRing_58 : decode mX12_isRing.1 58 = .ok (.iconst 1, 1) ∧ 58 + 1 = 59 := ⟨by decide +kernel, rfl⟩
theorem d_X12_isRing_59 : decode mX12_isRing.1 59 = .ok (.if_icmp .ne 5, 3) ∧ 59 + 3 = 62 ∧ ((59 : Nat) : Int) + 5 = ((64 : Nat) : Int) := ⟨by decide +kernel, rfl, rfl⟩
theorem d_X12_isRing_64 : decode mX12_isRing.1 64 = .ok (.iload_n 2, 1) ∧ 64 + 1 = 65 := ⟨by decide +kernel, rfl⟩
theorem d_X12_isRing_65 : decode mX12_isRing.1 65 = .ok (.iconst 1, 1) ∧ 65 + 1 = 66 := ⟨by decide +kernel, rfl⟩
theorem d_X12_isRing_66 : decode mX12_isRing.1 66 = .ok (.aload_n 0, 1) ∧ 66 + 1 = 67 := ⟨by decide +kernel, rfl⟩
theorem d_X12_isRing_67 : decode mX12_isRing.1 67 = .ok (.getfield 7, 3) ∧ 67 + 3 = 70 := ⟨by decide +kernel, rfl⟩
theorem d_X12_isRing_70 : decode mX12_isRing.1 70 = .ok (.iload_n 3, 1) ∧ 70 + 1 = 71 := ⟨by decide +kernel, rfl⟩
theorem d_X12_isRing_71 : decode mX12_isRing.1 71 = .ok (.iaload, 1) ∧ 71 + 1 = 72 := ⟨by decide +kernel, rfl⟩
theorem d_X12_isRing_72 : decode mX12_isRing.1 72 = .ok (.ishl, 1) ∧ 72 + 1 = 73 := ⟨by decide +kernel, rfl⟩
theorem d_X12_isRing_73 : decode mX12_isRing.1 73 = .ok (.ior, 1) ∧ 73 + 1 = 74 := ⟨by decide +kernel, rfl⟩
theorem d_X12_isRing_74 : decode mX12_isRing.1 74 = .ok (.istore_n 2, 1) ∧ 74 + 1 = 75 := ⟨by decide +kernel, rfl⟩
theorem d_X12_isRing_75 : decode mX12_isRing.1 75 = .ok (.iinc 3 1, 3) ∧ 75 + 3 = 78 := ⟨by decide +kernel, rfl⟩
theorem d_X12_isRing_78 : decode mX12_isRing.1 78 = .ok (.goto (-48), 3) ∧ ((78 : Nat) : Int) + (-48) = ((30 : Nat) : Int) := ⟨by decide +kernel, rfl⟩
set_option maxRecDepth 100000 in
set_option maxHeartbeats 4000000 in
theorem g_X12_isRing_L30 (l : Launch) (G : xa_C) (c0 c1 : Int) (h : xa_H) (K : (Int × Int) ⊕ ((Int × xa_H) ⊕ (Unit)) → Option xa_O) (hb : ∀ (v2 : Int) (v3 : Int), xa_G l G 4 mX12_isRing (some (Sum.inl ((v2, v3)))) K 30 [some (xR c0), some (xI c1), some (xI v2), some (xI v3)] [] h) (hr : ∀ r : Int × xa_H, K (Sum.inr (Sum.inl r)) = some (some (xI r.1), r.2)) (hx : xa_G l G 4 mX12_isRing (some (Sum.inr (Sum.inr (())))) K 81 [some (xR c0), some (xI c1), none, none] [] h) : ∀ (v2 : Int) (v3 : Int), xa_G l G 4 mX12_isRing (f_X12_isRing_L30 c0 c1 h v2 v3) K 30 [some (xR c0), some (xI c1), some (xI v2), some (xI v3)] [] h := by
  intro v2 v3
  unfold f_X12_isRing_L30
  refine xa_step (xa_iload_n d_X12_isRing_30 rfl) ?_
  refine xa_step (xa_iload_n d_X12_isRing_31 rfl) ?_
  refine xa_if (xa_icmpge d_X12_isRing_32) (fun q5 => ?_) (fun q5 => ?_)
  · refine xa_step (xa_aload_n d_X12_isRing_35 rfl) ?_
    refine xa_step (xa_aload_n d_X12_isRing_36 rfl) ?_
    refine xa_getf xR xc_12 (by decide) (fun _ => rfl) xw_1304 rfl d_X12_isRing_37 (fun x6 _ => ?_)
    refine xa_step (xa_iload_n d_X12_isRing_40 rfl) ?_
    refine xa_iaload d_X12_isRing_41 (fun x7 _ => ?_)
    refine xa_callVi (as := [xI x7]) (st := []) (M' := mX12_isHolder) (d' := 3) rfl xw_1889 xw_1891 xw_118 xw_1892 xw_177 xh_X12_isHolder rfl ⟨Nat.le_of_ble_eq_true rfl, Nat.le_of_ble_eq_true rfl⟩ (Nat.le_of_ble_eq_true rfl) rfl d_X12_isRing_42 (fun r hr => ct_X12_isHolder l G c0 x7 h r hr) (fun r8 _ => ?_)
    refine xa_if (xa_ifeq d_X12_isRing_45) (fun q9 => ?_) (fun q9 => ?_)
    · refine xa_step (xa_iconst d_X12_isRing_62 xq_i_0) ?_
      exact xa_zret d_X12_isRing_63 rfl (Or.inl rfl) (hr _)
    · refine xa_step (xa_iload_n d_X12_isRing_48 rfl) ?_
      refine xa_step (xa_aload_n d_X12_isRing_49 rfl) ?_
      refine xa_getf xR xc_12 (by decide) (fun _ => rfl) xw_1304 rfl d_X12_isRing_50 (fun x10 _ => ?_)
      refine xa_step (xa_iload_n d_X12_isRing_53 rfl) ?_
      refine xa_iaload d_X12_isRing_54 (fun x11 _ => ?_)
      refine xa_step (xa_ishr d_X12_isRing_55) ?_
      refine xa_step (xa_iconst d_X12_isRing_56 xq_i_1) ?_
      refine xa_step (xa_iand d_X12_isRing_57) ?_
      refine xa_step (xa_iconst d_X12_isRing_58 xq_i_1) ?_
      refine xa_if (xa_icmpne d_X12_isRing_59) (fun q12 => ?_) (fun q12 => ?_)
      · refine xa_step (xa_iconst d_X12_isRing_62 xq_i_0) ?_
        exact xa_zret d_X12_isRing_63 rfl (Or.inl rfl) (hr _)
      · refine xa_step (xa_iload_n d_X12_isRing_64 rfl) ?_
        refine xa_step (xa_iconst d_X12_isRing_65 xq_i_1) ?_
        refine xa_step (xa_aload_n d_X12_isRing_66 rfl) ?_
        refine xa_getf xR xc_12 (by decide) (fun _ => rfl) xw_1304 rfl d_X12_isRing_67 (fun x13 _ => ?_)
        refine xa_step (xa_iload_n d_X12_isRing_70 rfl) ?_
        refine xa_iaload d_X12_isRing_71 (fun x14 _ => ?_)
        refine xa_step (xa_ishl d_X12_isRing_72) ?_
        refine xa_step (xa_ior d_X12_isRing_73) ?_
        refine xa_step (xa_istore_n (ls' := [some (xR c0), some (xI c1), some (xI (xior v2 (xshl 1 x14))), some (xI v3)]) d_X12_isRing_74 (by decide) rfl) ?_
        refine xa_step (xa_iinc (ls' := [some (xR c0), some (xI c1), some (xI (xior v2 (xshl 1 x14))), some (xI (w32 (v3 + 1)))]) d_X12_isRing_75 xq_i_1 rfl (by decide) rfl) ?_
        refine xa_step (xa_goto d_X12_isRing_78) ?_
        exact xa_weak (ls' := [some (xR c0), some (xI c1), some (xI (xior v2 (xshl 1 x14))), some (xI (w32 (v3 + 1)))]) ⟨rfl, rfl, rfl, rfl, trivial⟩ (hb (xior v2 (xshl 1 x14)) (w32 (v3 + 1)))
  · exact xa_weak (ls' := [some (xR c0), some (xI c1), none, none]) ⟨rfl, rfl, trivial⟩ (hx )
theorem d_X12_isRing_81 : decode mX12_isRing.1 81 = .ok (.iconst 0, 1) ∧ 81 + 1 = 82 := ⟨by decide +kernel, rfl⟩
theorem d_X12_isRing_82 : decode mX12_isRing.1 82 = .ok (.istore_n 3, 1) ∧ 82 + 1 = 83 := ⟨by decide +kernel, rfl⟩
theorem d_X12_isRing_83 : decode mX12_isRing.1 83 = .ok (.iload_n 3, 1) ∧ 83 + 1 = 84 := ⟨by decide +kernel, rfl⟩
theorem d_X12_isRing_84 : decode mX12_isRing.1 84 = .ok (.iload_n 1, 1) ∧ 84 + 1 = 85 := ⟨by decide +kernel, rfl⟩
theorem d_X12_isRing_85 : decode mX12_isRing.1 85 = .ok (.if_icmp .ge 21, 3) ∧ 85 + 3 = 88 ∧ ((85 : Nat) : Int) + 21 = ((106 : Nat) : Int) := ⟨by decide +kernel, rfl, rfl⟩
theorem d_X12_isRing_88 : decode mX12_isRing.1 88 = .ok (.aload_n 0, 1) ∧ 88 + 1 = 89 := ⟨by decide +kernel, rfl⟩
theorem d_X12_isRing_89 : decode mX12_isRing.1 89 = .ok (.getfield 133, 3) ∧ 89 + 3 = 92 := ⟨by decide +kernel, rfl⟩
theorem d_X12_isRing_92 : decode mX12_isRing.1 92 = .ok (.iload_n 3, 1) ∧ 92 + 1 = 93 := ⟨by decide +kernel, rfl⟩
theorem d_X12_isRing_93 : decode mX12_isRing.1 93 = .ok (.aload_n 0, 1) ∧ 93 + 1 = 94 := ⟨by decide +kernel, rfl⟩
theorem d_X12_isRing_94 : decode mX12_isRing.1 94 = .ok (.getfield 7, 3) ∧ 94 + 3 = 97 := ⟨by decide +kernel, rfl⟩
theorem d_X12_isRing_97 : decode mX12_isRing.1 97 = .ok (.iload_n 3, 1) ∧ 97 + 1 = 98 := ⟨by decide +kernel, rfl⟩
theorem d_X12_isRing_98 : decode mX12_isRing.1 98 = .ok (.iaload, 1) ∧ 98 + 1 = 99 := ⟨by decide +kernel, rfl⟩
theorem d_X12_isRing_99 : decode mX12_isRing.1 99 = .ok (.iastore, 1) ∧ 99 + 1 = 100 := ⟨by decide +kernel, rfl⟩
theorem d_X12_isRing_100 : decode mX12_isRing.1 100 = .ok (.iinc 3 1, 3) ∧ 100 + 3 = 103 := ⟨by decide +kernel, rfl⟩
theorem d_X12_isRing_103 : decode mX12_isRing.1 103 = .ok (.goto (-20), 3) ∧ ((103 : Nat) : Int) + (-20) = ((83 : Nat) : Int) := ⟨by decide +kernel, rfl⟩
set_option maxRecDepth 100000 in
set_option maxHeartbeats 4000000 in
theorem g_X12_isRing_L83 (l : Launch) (G : xa_C) (c0 c1 : Int) (K : (Int × xa_H) ⊕ (xa_H) → Option xa_O) (hb : ∀ (v3 : Int) (h : xa_H), xa_G l G 4 mX12_isRing (some (Sum.inl ((v3, h)))) K 83 [some (xR c0), some (xI c1), none, some (xI v3)] [] h) (hx : ∀ (h : xa_H), xa_G l G 4 mX12_isRing (some (Sum.inr h)) K 106 [some (xR c0), some (xI c1), none, none] [] h) : ∀ (v3 : Int) (h : xa_H), xa_G l G 4 mX12_isRing (f_X12_isRing_L83 c0 c1 v3 h) K 83 [some (xR c0), some (xI c1), none, some (xI v3)] [] h := by
  intro v3 h
  unfold f_X12_isRing_L83
  refine xa_step (xa_iload_n d_X12_isRing_83 rfl) ?_
  refine xa_step (xa_iload_n d_X12_isRing_84 rfl) ?_
  refine xa_if (xa_icmpge d_X12_isRing_85) (fun q17 => ?_) (fun q17 => ?_)
  · refine xa_step (xa_aload_n d_X12_isRing_88 rfl) ?_
    refine xa_getf xR xc_12 (by decide) (fun _ => rfl) xw_1359 rfl d_X12_isRing_89 (fun x18 _ => ?_)
    refine xa_step (xa_iload_n d_X12_isRing_92 rfl) ?_
    refine xa_step (xa_aload_n d_X12_isRing_93 rfl) ?_
    refine xa_getf xR xc_12 (by decide) (fun _ => rfl) xw_1304 rfl d_X12_isRing_94 (fun x19 _ => ?_)
    refine xa_step (xa_iload_n d_X12_isRing_97 rfl) ?_
    refine xa_iaload d_X12_isRing_98 (fun x20 _ => ?_)
    refine xa_iastore2 d_X12_isRing_99 (fun h21 _ => ?_)
    refine xa_step (xa_iinc (ls' := [some (xR c0), some (xI c1), none, some (xI (w32 (v3 + 1)))]) d_X12_isRing_100 xq_i_1 rfl (by decide) rfl) ?_
    refine xa_step (xa_goto d_X12_isRing_103) ?_
    exact xa_weak (ls' := [some (xR c0), some (xI c1), none, some (xI (w32 (v3 + 1)))]) ⟨rfl, rfl, rfl, trivial⟩ (hb (w32 (v3 + 1)) h21)
  · exact xa_weak (ls' := [some (xR c0), some (xI c1), none, none]) ⟨rfl, rfl, trivial⟩ (hx h)
theorem d_X12_isRing_106 : decode mX12_isRing.1 106 = .ok (.aload_n 0, 1) ∧ 106 + 1 = 107 := ⟨by decide +kernel, rfl⟩
theorem d_X12_isRing_107 : decode mX12_isRing.1 107 = .ok (.iload_n 1, 1) ∧ 107 + 1 = 108 := ⟨by decide +kernel, rfl⟩
theorem d_X12_isRing_108 : decode mX12_isRing.1 108 = .ok (.putfield 451, 3) ∧ 108 + 3 = 111 := ⟨by decide +kernel, rfl⟩
theorem d_X12_isRing_111 : decode mX12_isRing.1 111 = .ok (.iconst 1, 1) ∧ 111 + 1 = 112 := ⟨by decide +kernel, rfl⟩
theorem d_X12_isRing_112 : decode mX12_isRing.1 112 = .ok (.ireturn, 1) := by decide +kernel
set_option maxRecDepth 100000 in
set_option maxHeartbeats 4000000 in
theorem g_X12_isRing (l : Launch) (G : xa_C) (v0 : Int) (h : xa_H) : xa_G l G 4 mX12_isRing (f_X12_isRing v0 h) (fun r => some (some (xI r.1), r.2) : (Int × xa_H) → Option xa_O) 0 [some (xR v0), none, none, none] [] h := by
  unfold f_X12_isRing
  refine xa_step (xa_aload_n d_X12_isRing_0 rfl) ?_
  refine xa_getf xI xc_12 (by decide) (fun _ => rfl) xw_1305 rfl d_X12_isRing_1 (fun x1 _ => ?_)
  refine xa_step (xa_istore_n (ls' := [some (xR v0), some (xI x1), none, none]) d_X12_isRing_4 (by decide) rfl) ?_
  refine xa_step (xa_aload_n d_X12_isRing_5 rfl) ?_
  refine xa_step (xa_iconst d_X12_isRing_6 xq_i_0) ?_
  refine xa_putf2 (tg := xI) xc_12 (by decide) (fun _ => rfl) rfl (fun c hc => xa_fitI c hc) xw_1305 rfl d_X12_isRing_7 (fun h2 _ => ?_)
  refine xa_step (xa_iconst d_X12_isRing_10 xq_i_0) ?_
  refine xa_step (xa_istore_n (ls' := [some (xR v0), some (xI x1), some (xI 0), none]) d_X12_isRing_11 (by decide) rfl) ?_
  refine xa_step (xa_iload_n d_X12_isRing_12 rfl) ?_
  refine xa_step (xa_i2l d_X12_isRing_13) ?_
  refine xa_step (xa_ldc2 (c64 := 2) (v := 2) (by decide +kernel) xw_1918 d_X12_isRing_14) ?_
  refine xa_step (xa_ldc2 (c64 := 6) (v := 6) (by decide +kernel) xw_1919 d_X12_isRing_17) ?_
  refine xa_callSi (as := [xL x1, xL 2, xL 6]) (st := []) (M' := mX12_isIn) (d' := 2) xw_1706 xw_1707 xw_1708 xw_177 xh_X12_isIn rfl ⟨Nat.le_of_ble_eq_true rfl, Nat.le_of_ble_eq_true rfl⟩ (Nat.le_of_ble_eq_true rfl) rfl d_X12_isRing_20 (fun r hr => ct_X12_isIn l G x1 2 6 h2 r hr) (fun r3 _ => ?_)
  refine xa_if (xa_ifne d_X12_isRing_23) (fun q4 => ?_) (fun q4 => ?_)
  · refine xa_step (xa_iconst d_X12_isRing_26 xq_i_0) ?_
    exact xa_zret d_X12_isRing_27 rfl (Or.inl rfl) rfl
  · refine xa_step (xa_iconst d_X12_isRing_28 xq_i_0) ?_
    refine xa_step (xa_istore_n (ls' := [some (xR v0), some (xI x1), some (xI 0), some (xI 0)]) d_X12_isRing_29 (by decide) rfl) ?_
    refine xa_weak (ls' := [some (xR v0), some (xI x1), some (xI 0), some (xI 0)]) ⟨rfl, rfl, rfl, rfl, trivial⟩ ?_
    refine xa_loop (f := fun s => f_X12_isRing_L30 v0 x1 h2 s.1 s.2) (L := fun s => [some (xR v0), some (xI x1), some (xI s.1), some (xI s.2)]) (P := fun s => h2) (X := (fun e K => match e with | Sum.inl r => K (Sum.inr (Sum.inl r)) = some (some (xI r.1), r.2) | Sum.inr x => xa_G l G 4 mX12_isRing (some (Sum.inr (Sum.inr x))) K 81 [some (xR v0), some (xI x1), none, none] [] h2)) (fun K hb hX s => g_X12_isRing_L30 l G v0 x1 h2 K (fun w0 w1 => hb ((w0, w1))) (fun r => hX (Sum.inl r)) (hX (Sum.inr ())) s.1 s.2) ?_ xFU ((0, 0))
    rintro (r | y16) K hK
    · exact hK.trans rfl
    · refine xa_eqE hK ?_
      show xa_G l G 4 mX12_isRing _ _ 81 [some (xR v0), some (xI x1), none, none] [] h2
      refine xa_step (xa_iconst d_X12_isRing_81 xq_i_0) ?_
      refine xa_step (xa_istore_n (ls' := [some (xR v0), some (xI x1), none, some (xI 0)]) d_X12_isRing_82 (by decide) rfl) ?_
      refine xa_weak (ls' := [some (xR v0), some (xI x1), none, some (xI 0)]) ⟨rfl, rfl, rfl, trivial⟩ ?_
      refine xa_loop (f := fun s => f_X12_isRing_L83 v0 x1 s.1 s.2) (L := fun s => [some (xR v0), some (xI x1), none, some (xI s.1)]) (P := fun s => s.2) (X := (fun x K => xa_G l G 4 mX12_isRing (some (Sum.inr x)) K 106 [some (xR v0), some (xI x1), none, none] [] x)) (fun K hb hX s => g_X12_isRing_L83 l G v0 x1 K (fun w0 hh => hb ((w0, hh))) (fun hh => hX hh) s.1 s.2) ?_ xFU ((0, h2))
      intro e22 K hK
      refine xa_eqE hK ?_
      show xa_G l G 4 mX12_isRing _ _ 106 [some (xR v0), some (xI x1), none, none] [] e22
      refine xa_step (xa_aload_n d_X12_isRing_106 rfl) ?_
      refine xa_step (xa_iload_n d_X12_isRing_107 rfl) ?_
      refine xa_putf2 (tg := xI) xc_12 (by decide) (fun _ => rfl) rfl (fun c hc => xa_fitI c hc) xw_1360 rfl d_X12_isRing_108 (fun h23 _ => ?_)
      refine xa_step (xa_iconst d_X12_isRing_111 xq_i_1) ?_
      exact xa_zret d_X12_isRing_112 rfl (Or.inr rfl) rfl
theorem ct_X12_isRing (l : Launch) (G : xa_C) (v0 : Int) (h : xa_H) (r : Int × xa_H) (hr : f_X12_isRing v0 h = some r) : xa_CT l G 4 mX12_isRing yX12_isRing [xR v0] h (some (xI r.1), r.2) :=
  xa_met (by decide +kernel) rfl (fun q => by first | rfl | cases q) (Nat.le_of_ble_eq_true rfl) rfl (g_X12_isRing l G v0 h) (by rw [hr]; rfl)
abbrev mX12_giverOf : xa_M := (cX12_giverOf, 2, (some (.int)), RX12, false)
theorem d_X12_giverOf_0 : decode mX12_giverOf.1 0 = .ok (.aload_n 0, 1) ∧ 0 + 1 = 1 := ⟨by decide +kernel, rfl⟩
theorem d_X12_giverOf_1 : decode mX12_giverOf.1 1 = .ok (.getfield 133, 3) ∧ 1 + 3 = 4 := ⟨by decide +kernel, rfl⟩
theorem d_X12_giverOf_4 : decode mX12_giverOf.1 4 = .ok (.iload_n 1, 1) ∧ 4 + 1 = 5 := ⟨by decide +kernel, rfl⟩
theorem d_X12_giverOf_5 : decode mX12_giverOf.1 5 = .ok (.aload_n 0, 1) ∧ 5 + 1 = 6 := ⟨by decide +kernel, rfl⟩
theorem d_X12_giverOf_6 : decode mX12_giverOf.1 6 = .ok (.getfield 451, 3) ∧ 6 + 3 = 9 := ⟨by decide +kernel, rfl⟩
theorem d_X12_giverOf_9 : decode mX12_giverOf.1 9 = .ok (.iadd, 1) ∧ 9 + 1 = 10 := ⟨by decide +kernel, rfl⟩
theorem d_X12_giverOf_10 : decode mX12_giverOf.1 10 = .ok (.iconst 1, 1) ∧ 10 + 1 = 11 := ⟨by decide +kernel, rfl⟩
theorem d_X12_giverOf_11 : decode mX12_giverOf.1 11 = .ok (.isub, 1) ∧ 11 + 1 = 12 := ⟨by decide +kernel, rfl⟩
theorem d_X12_giverOf_12 : decode mX12_giverOf.1 12 = .ok (.aload_n 0, 1) ∧ 12 + 1 = 13 := ⟨by decide +kernel, rfl⟩
theorem d_X12_giverOf_13 : decode mX12_giverOf.1 13 = .ok (.getfield 451, 3) ∧ 13 + 3 = 16 := ⟨by decide +kernel, rfl⟩
theorem d_X12_giverOf_16 : decode mX12_giverOf.1 16 = .ok (.irem, 1) ∧ 16 + 1 = 17 := ⟨by decide +kernel, rfl⟩
theorem d_X12_giverOf_17 : decode mX12_giverOf.1 17 = .ok (.iaload, 1) ∧ 17 + 1 = 18 := ⟨by decide +kernel, rfl⟩
theorem d_X12_giverOf_18 : decode mX12_giverOf.1 18 = .ok (.ireturn, 1) := by decide +kernel
set_option maxRecDepth 100000 in
set_option maxHeartbeats 4000000 in
theorem g_X12_giverOf (l : Launch) (G : xa_C) (v0 v1 : Int) (h : xa_H) : xa_G l G 2 mX12_giverOf (f_X12_giverOf v0 v1 h) (fun r => some (some (xI r), h) : Int → Option xa_O) 0 [some (xR v0), some (xI v1)] [] h := by
  unfold f_X12_giverOf
  refine xa_step (xa_aload_n d_X12_giverOf_0 rfl) ?_
  refine xa_getf xR xc_12 (by decide) (fun _ => rfl) xw_1359 rfl d_X12_giverOf_1 (fun x1 _ => ?_)
  refine xa_step (xa_iload_n d_X12_giverOf_4 rfl) ?_
  refine xa_step (xa_aload_n d_X12_giverOf_5 rfl) ?_
  refine xa_getf xI xc_12 (by decide) (fun _ => rfl) xw_1360 rfl d_X12_giverOf_6 (fun x2 _ => ?_)
  refine xa_step (xa_iadd d_X12_giverOf_9) ?_
  refine xa_step (xa_iconst d_X12_giverOf_10 xq_i_1) ?_
  refine xa_step (xa_isub d_X12_giverOf_11) ?_
  refine xa_step (xa_aload_n d_X12_giverOf_12 rfl) ?_
  refine xa_getf xI xc_12 (by decide) (fun _ => rfl) xw_1360 rfl d_X12_giverOf_13 (fun x3 _ => ?_)
  refine xa_nz (fun q4 => ?_)
  refine xa_step (xa_irem d_X12_giverOf_16 q4) ?_
  refine xa_iaload d_X12_giverOf_17 (fun x5 _ => ?_)
  exact xa_iret d_X12_giverOf_18 rfl rfl
theorem ct_X12_giverOf (l : Launch) (G : xa_C) (v0 v1 : Int) (h : xa_H) (r : Int) (hr : f_X12_giverOf v0 v1 h = some r) : xa_CT l G 2 mX12_giverOf yX12_giverOf [xR v0, xI v1] h (some (xI r), h) :=
  xa_met (by decide +kernel) rfl (fun q => by first | rfl | cases q) (Nat.le_of_ble_eq_true rfl) rfl (g_X12_giverOf l G v0 v1 h) (by rw [hr]; rfl)
abbrev mX12_asksOf : xa_M := (cX12_asksOf, 4, none, RX12, false)
theorem d_X12_asksOf_0 : decode mX12_asksOf.1 0 = .ok (.aload_n 0, 1) ∧ 0 + 1 = 1 := ⟨by decide +kernel, rfl⟩
theorem d_X12_asksOf_1 : decode mX12_asksOf.1 1 = .ok (.iload_n 2, 1) ∧ 1 + 1 = 2 := ⟨by decide +kernel, rfl⟩
theorem d_X12_asksOf_2 : decode mX12_asksOf.1 2 = .ok (.invokevirtual 405, 3) ∧ 2 + 3 = 5 := ⟨by decide +kernel, rfl⟩
theorem d_X12_asksOf_5 : decode mX12_asksOf.1 5 = .ok (.istore_n 3, 1) ∧ 5 + 1 = 6 := ⟨by decide +kernel, rfl⟩
theorem d_X12_asksOf_6 : decode mX12_asksOf.1 6 = .ok (.aload_n 0, 1) ∧ 6 + 1 = 7 := ⟨by decide +kernel, rfl⟩
theorem d_X12_asksOf_7 : decode mX12_asksOf.1 7 = .ok (.aload_n 0, 1) ∧ 7 + 1 = 8 := ⟨by decide +kernel, rfl⟩
theorem d_X12_asksOf_8 : decode mX12_asksOf.1 8 = .ok (.iload_n 1, 1) ∧ 8 + 1 = 9 := ⟨by decide +kernel, rfl⟩
theorem d_X12_asksOf_9 : decode mX12_asksOf.1 9 = .ok (.iload_n 3, 1) ∧ 9 + 1 = 10 := ⟨by decide +kernel, rfl⟩
theorem d_X12_asksOf_10 : decode mX12_asksOf.1 10 = .ok (.invokevirtual 411, 3) ∧ 10 + 3 = 13 := ⟨by decide +kernel, rfl⟩
theorem d_X12_asksOf_13 : decode mX12_asksOf.1 13 = .ok (.i2l, 1) ∧ 13 + 1 = 14 := ⟨by decide +kernel, rfl⟩
theorem d_X12_asksOf_14 : decode mX12_asksOf.1 14 = .ok (.putfield 414, 3) ∧ 14 + 3 = 17 := ⟨by decide +kernel, rfl⟩
theorem d_X12_asksOf_17 : decode mX12_asksOf.1 17 = .ok (.aload_n 0, 1) ∧ 17 + 1 = 18 := ⟨by decide +kernel, rfl⟩
theorem d_X12_asksOf_18 : decode mX12_asksOf.1 18 = .ok (.aload_n 0, 1) ∧ 18 + 1 = 19 := ⟨by decide +kernel, rfl⟩
theorem d_X12_asksOf_19 : decode mX12_asksOf.1 19 = .ok (.iload_n 1, 1) ∧ 19 + 1 = 20 := ⟨by decide +kernel, rfl⟩
theorem d_X12_asksOf_20 : decode mX12_asksOf.1 20 = .ok (.invokevirtual 408, 3) ∧ 20 + 3 = 23 := ⟨by decide +kernel, rfl⟩
theorem d_X12_asksOf_23 : decode mX12_asksOf.1 23 = .ok (.iload_n 3, 1) ∧ 23 + 1 = 24 := ⟨by decide +kernel, rfl⟩
theorem d_X12_asksOf_24 : decode mX12_asksOf.1 24 = .ok (.if_icmp .ne 7, 3) ∧ 24 + 3 = 27 ∧ ((24 : Nat) : Int) + 7 = ((31 : Nat) : Int) := ⟨by decide +kernel, rfl, rfl⟩
theorem d_X12_asksOf_27 : decode mX12_asksOf.1 27 = .ok (.lconst 1, 1) ∧ 27 + 1 = 28 := ⟨by decide +kernel, rfl⟩
theorem d_X12_asksOf_28 : decode mX12_asksOf.1 28 = .ok (.goto 4, 3) ∧ ((28 : Nat) : Int) + 4 = ((32 : Nat) : Int) := ⟨by decide +kernel, rfl⟩
theorem d_X12_asksOf_32 : decode mX12_asksOf.1 32 = .ok (.putfield 417, 3) ∧ 32 + 3 = 35 := ⟨by decide +kernel, rfl⟩
theorem d_X12_asksOf_35 : decode mX12_asksOf.1 35 = .ok (.aload_n 0, 1) ∧ 35 + 1 = 36 := ⟨by decide +kernel, rfl⟩
theorem d_X12_asksOf_36 : decode mX12_asksOf.1 36 = .ok (.aload_n 0, 1) ∧ 36 + 1 = 37 := ⟨by decide +kernel, rfl⟩
theorem d_X12_asksOf_37 : decode mX12_asksOf.1 37 = .ok (.getfield 97, 3) ∧ 37 + 3 = 40 := ⟨by decide +kernel, rfl⟩
theorem d_X12_asksOf_40 : decode mX12_asksOf.1 40 = .ok (.bipush 6, 2) ∧ 40 + 2 = 42 := ⟨by decide +kernel, rfl⟩
theorem d_X12_asksOf_42 : decode mX12_asksOf.1 42 = .ok (.iload_n 3, 1) ∧ 42 + 1 = 43 := ⟨by decide +kernel, rfl⟩
theorem d_X12_asksOf_43 : decode mX12_asksOf.1 43 = .ok (.iadd, 1) ∧ 43 + 1 = 44 := ⟨by decide +kernel, rfl⟩
theorem d_X12_asksOf_44 : decode mX12_asksOf.1 44 = .ok (.iaload, 1) ∧ 44 + 1 = 45 := ⟨by decide +kernel, rfl⟩
theorem d_X12_asksOf_45 : decode mX12_asksOf.1 45 = .ok (.i2l, 1) ∧ 45 + 1 = 46 := ⟨by decide +kernel, rfl⟩
theorem d_X12_asksOf_46 : decode mX12_asksOf.1 46 = .ok (.putfield 420, 3) ∧ 46 + 3 = 49 := ⟨by decide +kernel, rfl⟩
theorem d_X12_asksOf_49 : decode mX12_asksOf.1 49 = .ok (.aload_n 0, 1) ∧ 49 + 1 = 50 := ⟨by decide +kernel, rfl⟩
theorem d_X12_asksOf_50 : decode mX12_asksOf.1 50 = .ok (.aload_n 0, 1) ∧ 50 + 1 = 51 := ⟨by decide +kernel, rfl⟩
theorem d_X12_asksOf_51 : decode mX12_asksOf.1 51 = .ok (.iload_n 1, 1) ∧ 51 + 1 = 52 := ⟨by decide +kernel, rfl⟩
theorem d_X12_asksOf_52 : decode mX12_asksOf.1 52 = .ok (.iload_n 2, 1) ∧ 52 + 1 = 53 := ⟨by decide +kernel, rfl⟩
theorem d_X12_asksOf_53 : decode mX12_asksOf.1 53 = .ok (.invokevirtual 423, 3) ∧ 53 + 3 = 56 := ⟨by decide +kernel, rfl⟩
theorem d_X12_asksOf_56 : decode mX12_asksOf.1 56 = .ok (.i2l, 1) ∧ 56 + 1 = 57 := ⟨by decide +kernel, rfl⟩
theorem d_X12_asksOf_57 : decode mX12_asksOf.1 57 = .ok (.putfield 426, 3) ∧ 57 + 3 = 60 := ⟨by decide +kernel, rfl⟩
theorem d_X12_asksOf_60 : decode mX12_asksOf.1 60 = .ok (.aload_n 0, 1) ∧ 60 + 1 = 61 := ⟨by decide +kernel, rfl⟩
theorem d_X12_asksOf_61 : decode mX12_asksOf.1 61 = .ok (.iconst 1, 1) ∧ 61 + 1 = 62 := ⟨by decide +kernel, rfl⟩
theorem d_X12_asksOf_62 : decode mX12_asksOf.1 62 = .ok (.putfield 304, 3) ∧ 62 + 3 = 65 := ⟨by decide +kernel, rfl⟩
theorem d_X12_asksOf_65 : decode mX12_asksOf.1 65 = .ok (.return_, 1) := by decide +kernel
set_option maxRecDepth 100000 in
set_option maxHeartbeats 4000000 in
theorem g_X12_asksOf_J32 (l : Launch) (G : xa_C) : ∀ (v0 v1 v2 v3 s0 s1 : Int) (h : xa_H) , xa_G l G 3 mX12_asksOf (f_X12_asksOf_J32 v0 v1 v2 v3 s0 s1 h) (fun r => some (none, r) : xa_H → Option xa_O) 32 [some (xR v0), some (xI v1), some (xI v2), some (xI v3)] [xL s1, xR s0] h := by
  intro v0 v1 v2 v3 s0 s1 h
  unfold f_X12_asksOf_J32
  refine xa_putf2 (tg := xL) xc_12 (by decide) (fun _ => rfl) rfl (fun c hc => xa_fitL c hc) xw_1356 rfl d_X12_asksOf_32 (fun h6 _ => ?_)
  refine xa_step (xa_aload_n d_X12_asksOf_35 rfl) ?_
  refine xa_step (xa_aload_n d_X12_asksOf_36 rfl) ?_
  refine xa_getf xR xc_12 (by decide) (fun _ => rfl) xw_1340 rfl d_X12_asksOf_37 (fun x7 _ => ?_)
  refine xa_step (xa_bipush d_X12_asksOf_40 xq_b_6) ?_
  refine xa_step (xa_iload_n d_X12_asksOf_42 rfl) ?_
  refine xa_step (xa_iadd d_X12_asksOf_43) ?_
  refine xa_iaload d_X12_asksOf_44 (fun x8 _ => ?_)
  refine xa_step (xa_i2l d_X12_asksOf_45) ?_
  refine xa_putf2 (tg := xL) xc_12 (by decide) (fun _ => rfl) rfl (fun c hc => xa_fitL c hc) xw_1357 rfl d_X12_asksOf_46 (fun h9 _ => ?_)
  refine xa_step (xa_aload_n d_X12_asksOf_49 rfl) ?_
  refine xa_step (xa_aload_n d_X12_asksOf_50 rfl) ?_
  refine xa_step (xa_iload_n d_X12_asksOf_51 rfl) ?_
  refine xa_step (xa_iload_n d_X12_asksOf_52 rfl) ?_
  refine xa_callVi (as := [xI v1, xI v2]) (st := [xR v0]) (M' := mX12_metBy) (d' := 2) rfl xw_1901 xw_1903 xw_119 xw_1904 xw_177 xh_X12_metBy rfl ⟨Nat.le_of_ble_eq_true rfl, Nat.le_of_ble_eq_true rfl⟩ (Nat.le_of_ble_eq_true rfl) rfl d_X12_asksOf_53 (fun r hr => ct_X12_metBy l G v0 v1 v2 h9 r hr) (fun r10 _ => ?_)
  refine xa_step (xa_i2l d_X12_asksOf_56) ?_
  refine xa_putf2 (tg := xL) xc_12 (by decide) (fun _ => rfl) rfl (fun c hc => xa_fitL c hc) xw_1358 rfl d_X12_asksOf_57 (fun h11 _ => ?_)
  refine xa_step (xa_aload_n d_X12_asksOf_60 rfl) ?_
  refine xa_step (xa_iconst d_X12_asksOf_61 xq_i_1) ?_
  refine xa_putf2 (tg := xI) xc_12 (by decide) (fun _ => rfl) rfl (fun c hc => (xa_fitZ (Or.inr rfl)) c hc) xw_1353 rfl d_X12_asksOf_62 (fun h12 _ => ?_)
  exact xa_vret d_X12_asksOf_65 rfl rfl
theorem d_X12_asksOf_31 : decode mX12_asksOf.1 31 = .ok (.lconst 0, 1) ∧ 31 + 1 = 32 := ⟨by decide +kernel, rfl⟩
set_option maxRecDepth 100000 in
set_option maxHeartbeats 4000000 in
theorem g_X12_asksOf (l : Launch) (G : xa_C) (v0 v1 v2 : Int) (h : xa_H) : xa_G l G 3 mX12_asksOf (f_X12_asksOf v0 v1 v2 h) (fun r => some (none, r) : xa_H → Option xa_O) 0 [some (xR v0), some (xI v1), some (xI v2), none] [] h := by
  unfold f_X12_asksOf
  refine xa_step (xa_aload_n d_X12_asksOf_0 rfl) ?_
  refine xa_step (xa_iload_n d_X12_asksOf_1 rfl) ?_
  refine xa_callVi (as := [xI v2]) (st := []) (M' := mX12_hadBy) (d' := 2) rfl xw_1844 xw_1846 xw_110 xw_1847 xw_177 xh_X12_hadBy rfl ⟨Nat.le_of_ble_eq_true rfl, Nat.le_of_ble_eq_true rfl⟩ (Nat.le_of_ble_eq_true rfl) rfl d_X12_asksOf_2 (fun r hr => ct_X12_hadBy l G v0 v2 h r hr) (fun r1 _ => ?_)
  refine xa_step (xa_istore_n (ls' := [some (xR v0), some (xI v1), some (xI v2), some (xI r1)]) d_X12_asksOf_5 (by decide) rfl) ?_
  refine xa_step (xa_aload_n d_X12_asksOf_6 rfl) ?_
  refine xa_step (xa_aload_n d_X12_asksOf_7 rfl) ?_
  refine xa_step (xa_iload_n d_X12_asksOf_8 rfl) ?_
  refine xa_step (xa_iload_n d_X12_asksOf_9 rfl) ?_
  refine xa_callVi (as := [xI v1, xI r1]) (st := [xR v0]) (M' := mX12_valueOf) (d' := 2) rfl xw_1856 xw_1858 xw_113 xw_1859 xw_177 xh_X12_valueOf rfl ⟨Nat.le_of_ble_eq_true rfl, Nat.le_of_ble_eq_true rfl⟩ (Nat.le_of_ble_eq_true rfl) rfl d_X12_asksOf_10 (fun r hr => ct_X12_valueOf l G v0 v1 r1 h r hr) (fun r2 _ => ?_)
  refine xa_step (xa_i2l d_X12_asksOf_13) ?_
  refine xa_putf2 (tg := xL) xc_12 (by decide) (fun _ => rfl) rfl (fun c hc => xa_fitL c hc) xw_1355 rfl d_X12_asksOf_14 (fun h3 _ => ?_)
  refine xa_step (xa_aload_n d_X12_asksOf_17 rfl) ?_
  refine xa_step (xa_aload_n d_X12_asksOf_18 rfl) ?_
  refine xa_step (xa_iload_n d_X12_asksOf_19 rfl) ?_
  refine xa_callVi (as := [xI v1]) (st := [xR v0]) (M' := mX12_wantedBy) (d' := 2) rfl xw_1848 xw_1850 xw_111 xw_1851 xw_177 xh_X12_wantedBy rfl ⟨Nat.le_of_ble_eq_true rfl, Nat.le_of_ble_eq_true rfl⟩ (Nat.le_of_ble_eq_true rfl) rfl d_X12_asksOf_20 (fun r hr => ct_X12_wantedBy l G v0 v1 h3 r hr) (fun r4 _ => ?_)
  refine xa_step (xa_iload_n d_X12_asksOf_23 rfl) ?_
  refine xa_if (xa_icmpne d_X12_asksOf_24) (fun q5 => ?_) (fun q5 => ?_)
  · refine xa_step (xa_lconst d_X12_asksOf_27 rfl) ?_
    refine xa_step (xa_goto d_X12_asksOf_28) ?_
    exact xa_weak (ls' := [some (xR v0), some (xI v1), some (xI v2), some (xI r1)]) ⟨rfl, rfl, rfl, rfl, trivial⟩ (g_X12_asksOf_J32 l G v0 v1 v2 r1 v0 1 h3)
  · refine xa_step (xa_lconst d_X12_asksOf_31 rfl) ?_
    exact xa_weak (ls' := [some (xR v0), some (xI v1), some (xI v2), some (xI r1)]) ⟨rfl, rfl, rfl, rfl, trivial⟩ (g_X12_asksOf_J32 l G v0 v1 v2 r1 v0 0 h3)
theorem ct_X12_asksOf (l : Launch) (G : xa_C) (v0 v1 v2 : Int) (h : xa_H) (r : xa_H) (hr : f_X12_asksOf v0 v1 v2 h = some r) : xa_CT l G 3 mX12_asksOf yX12_asksOf [xR v0, xI v1, xI v2] h (none, r) :=
  xa_met (by decide +kernel) rfl (fun q => by first | rfl | cases q) (Nat.le_of_ble_eq_true rfl) rfl (g_X12_asksOf l G v0 v1 v2 h) (by rw [hr]; rfl)
abbrev mX12_codesTell : xa_M := (cX12_codesTell, 5, (some (.long)), RX12, false)
theorem d_X12_codesTell_0 : decode mX12_codesTell.1 0 = .ok (.aload_n 0, 1) ∧ 0 + 1 = 1 := ⟨by decide +kernel, rfl⟩
theorem d_X12_codesTell_1 : decode mX12_codesTell.1 1 = .ok (.iconst 0, 1) ∧ 1 + 1 = 2 := ⟨by decide +kernel, rfl⟩
theorem d_X12_codesTell_2 : decode mX12_codesTell.1 2 = .ok (.putfield 429, 3) ∧ 2 + 3 = 5 := ⟨by decide +kernel, rfl⟩
theorem d_X12_codesTell_5 : decode mX12_codesTell.1 5 = .ok (.aload_n 0, 1) ∧ 5 + 1 = 6 := ⟨by decide +kernel, rfl⟩
theorem d_X12_codesTell_6 : decode mX12_codesTell.1 6 = .ok (.getfield 121, 3) ∧ 6 + 3 = 9 := ⟨by decide +kernel, rfl⟩
theorem d_X12_codesTell_9 : decode mX12_codesTell.1 9 = .ok (.iconst 2, 1) ∧ 9 + 1 = 10 := ⟨by decide +kernel, rfl⟩
theorem d_X12_codesTell_10 : decode mX12_codesTell.1 10 = .ok (.iload_n 1, 1) ∧ 10 + 1 = 11 := ⟨by decide +kernel, rfl⟩
theorem d_X12_codesTell_11 : decode mX12_codesTell.1 11 = .ok (.iadd, 1) ∧ 11 + 1 = 12 := ⟨by decide +kernel, rfl⟩
theorem d_X12_codesTell_12 : decode mX12_codesTell.1 12 = .ok (.iaload, 1) ∧ 12 + 1 = 13 := ⟨by decide +kernel, rfl⟩
theorem d_X12_codesTell_13 : decode mX12_codesTell.1 13 = .ok (.istore_n 3, 1) ∧ 13 + 1 = 14 := ⟨by decide +kernel, rfl⟩
theorem d_X12_codesTell_14 : decode mX12_codesTell.1 14 = .ok (.iload_n 3, 1) ∧ 14 + 1 = 15 := ⟨by decide +kernel, rfl⟩
theorem d_X12_codesTell_15 : decode mX12_codesTell.1 15 = .ok (.aload_n 0, 1) ∧ 15 + 1 = 16 := ⟨by decide +kernel, rfl⟩
theorem d_X12_codesTell_16 : decode mX12_codesTell.1 16 = .ok (.getfield 124, 3) ∧ 16 + 3 = 19 := ⟨by decide +kernel, rfl⟩
theorem d_X12_codesTell_19 : decode mX12_codesTell.1 19 = .ok (.iconst 2, 1) ∧ 19 + 1 = 20 := ⟨by decide +kernel, rfl⟩
theorem d_X12_codesTell_20 : decode mX12_codesTell.1 20 = .ok (.iload_n 1, 1) ∧ 20 + 1 = 21 := ⟨by decide +kernel, rfl⟩
theorem d_X12_codesTell_21 : decode mX12_codesTell.1 21 = .ok (.iadd, 1) ∧ 21 + 1 = 22 := ⟨by decide +kernel, rfl⟩
theorem d_X12_codesTell_22 : decode mX12_codesTell.1 22 = .ok (.iaload, 1) ∧ 22 + 1 = 23 := ⟨by decide +kernel, rfl⟩
theorem d_X12_codesTell_23 : decode mX12_codesTell.1 23 = .ok (.if_icmp .ge 122, 3) ∧ 23 + 3 = 26 ∧ ((23 : Nat) : Int) + 122 = ((145 : Nat) : Int) := ⟨by decide +kernel, rfl, rfl⟩
theorem d_X12_codesTell_26 : decode mX12_codesTell.1 26 = .ok (.aload_n 0, 1) ∧ 26 + 1 = 27 := ⟨by decide +kernel, rfl⟩
theorem d_X12_codesTell_27 : decode mX12_codesTell.1 27 = .ok (.getfield 127, 3) ∧ 27 + 3 = 30 := ⟨by decide +kernel, rfl⟩
theorem d_X12_codesTell_30 : decode mX12_codesTell.1 30 = .ok (.sipush 1600, 3) ∧ 30 + 3 = 33 := ⟨by decide +kernel, rfl⟩
theorem d_X12_codesTell_33 : decode mX12_codesTell.1 33 = .ok (.iload_n 3, 1) ∧ 33 + 1 = 34 := ⟨by decide +kernel, rfl⟩
theorem d_X12_codesTell_34 : decode mX12_codesTell.1 34 = .ok (.iadd, 1) ∧ 34 + 1 = 35 := ⟨by decide +kernel, rfl⟩
theorem d_X12_codesTell_35 : decode mX12_codesTell.1 35 = .ok (.iaload, 1) ∧ 35 + 1 = 36 := ⟨by decide +kernel, rfl⟩
theorem d_X12_codesTell_36 : decode mX12_codesTell.1 36 = .ok (.istore 4, 2) ∧ 36 + 2 = 38 := ⟨by decide +kernel, rfl⟩
theorem d_X12_codesTell_38 : decode mX12_codesTell.1 38 = .ok (.iload 4, 2) ∧ 38 + 2 = 40 := ⟨by decide +kernel, rfl⟩
theorem d_X12_codesTell_40 : decode mX12_codesTell.1 40 = .ok (.sipush 1000, 3) ∧ 40 + 3 = 43 := ⟨by decide +kernel, rfl⟩
theorem d_X12_codesTell_43 : decode mX12_codesTell.1 43 = .ok (.if_icmp .lt 17, 3) ∧ 43 + 3 = 46 ∧ ((43 : Nat) : Int) + 17 = ((60 : Nat) : Int) := ⟨by decide +kernel, rfl, rfl⟩
theorem d_X12_codesTell_60 : decode mX12_codesTell.1 60 = .ok (.iload 4, 2) ∧ 60 + 2 = 62 := ⟨by decide +kernel, rfl⟩
theorem d_X12_codesTell_62 : decode mX12_codesTell.1 62 = .ok (.bipush 40, 2) ∧ 62 + 2 = 64 := ⟨by decide +kernel, rfl⟩
theorem d_X12_codesTell_64 : decode mX12_codesTell.1 64 = .ok (.if_icmp .lt 20, 3) ∧ 64 + 3 = 67 ∧ ((64 : Nat) : Int) + 20 = ((84 : Nat) : Int) := ⟨by decide +kernel, rfl, rfl⟩
theorem d_X12_codesTell_84 : decode mX12_codesTell.1 84 = .ok (.iload 4, 2) ∧ 84 + 2 = 86 := ⟨by decide +kernel, rfl⟩
theorem d_X12_codesTell_86 : decode mX12_codesTell.1 86 = .ok (.bipush 13, 2) ∧ 86 + 2 = 88 := ⟨by decide +kernel, rfl⟩
theorem d_X12_codesTell_88 : decode mX12_codesTell.1 88 = .ok (.if_icmp .ne 11, 3) ∧ 88 + 3 = 91 ∧ ((88 : Nat) : Int) + 11 = ((99 : Nat) : Int) := ⟨by decide +kernel, rfl, rfl⟩
theorem d_X12_codesTell_91 : decode mX12_codesTell.1 91 = .ok (.aload_n 0, 1) ∧ 91 + 1 = 92 := ⟨by decide +kernel, rfl⟩
theorem d_X12_codesTell_92 : decode mX12_codesTell.1 92 = .ok (.lconst 1, 1) ∧ 92 + 1 = 93 := ⟨by decide +kernel, rfl⟩
theorem d_X12_codesTell_93 : decode mX12_codesTell.1 93 = .ok (.invokevirtual 432, 3) ∧ 93 + 3 = 96 := ⟨by decide +kernel, rfl⟩
theorem d_X12_codesTell_96 : decode mX12_codesTell.1 96 = .ok (.goto 43, 3) ∧ ((96 : Nat) : Int) + 43 = ((139 : Nat) : Int) := ⟨by decide +kernel, rfl⟩
theorem d_X12_codesTell_139 : decode mX12_codesTell.1 139 = .ok (.iinc 3 1, 3) ∧ 139 + 3 = 142 := ⟨by decide +kernel, rfl⟩
theorem d_X12_codesTell_142 : decode mX12_codesTell.1 142 = .ok (.goto (-128), 3) ∧ ((142 : Nat) : Int) + (-128) = ((14 : Nat) : Int) := ⟨by decide +kernel, rfl⟩
theorem d_X12_codesTell_99 : decode mX12_codesTell.1 99 = .ok (.iload 4, 2) ∧ 99 + 2 = 101 := ⟨by decide +kernel, rfl⟩
theorem d_X12_codesTell_101 : decode mX12_codesTell.1 101 = .ok (.bipush 12, 2) ∧ 101 + 2 = 103 := ⟨by decide +kernel, rfl⟩
theorem d_X12_codesTell_103 : decode mX12_codesTell.1 103 = .ok (.if_icmp .ne 30, 3) ∧ 103 + 3 = 106 ∧ ((103 : Nat) : Int) + 30 = ((133 : Nat) : Int) := ⟨by decide +kernel, rfl, rfl⟩
theorem d_X12_codesTell_106 : decode mX12_codesTell.1 106 = .ok (.aload_n 0, 1) ∧ 106 + 1 = 107 := ⟨by decide +kernel, rfl⟩
theorem d_X12_codesTell_107 : decode mX12_codesTell.1 107 = .ok (.getfield 240, 3) ∧ 107 + 3 = 110 := ⟨by decide +kernel, rfl⟩
theorem d_X12_codesTell_110 : decode mX12_codesTell.1 110 = .ok (.aload_n 0, 1) ∧ 110 + 1 = 111 := ⟨by decide +kernel, rfl⟩
theorem d_X12_codesTell_111 : decode mX12_codesTell.1 111 = .ok (.getfield 429, 3) ∧ 111 + 3 = 114 := ⟨by decide +kernel, rfl⟩
theorem d_X12_codesTell_114 : decode mX12_codesTell.1 114 = .ok (.iconst 1, 1) ∧ 114 + 1 = 115 := ⟨by decide +kernel, rfl⟩
theorem d_X12_codesTell_115 : decode mX12_codesTell.1 115 = .ok (.isub, 1) ∧ 115 + 1 = 116 := ⟨by decide +kernel, rfl⟩
theorem d_X12_codesTell_116 : decode mX12_codesTell.1 116 = .ok (.lconst 1, 1) ∧ 116 + 1 = 117 := ⟨by decide +kernel, rfl⟩
theorem d_X12_codesTell_117 : decode mX12_codesTell.1 117 = .ok (.aload_n 0, 1) ∧ 117 + 1 = 118 := ⟨by decide +kernel, rfl⟩
theorem d_X12_codesTell_118 : decode mX12_codesTell.1 118 = .ok (.getfield 240, 3) ∧ 118 + 3 = 121 := ⟨by decide +kernel, rfl⟩
theorem d_X12_codesTell_121 : decode mX12_codesTell.1 121 = .ok (.aload_n 0, 1) ∧ 121 + 1 = 122 := ⟨by decide +kernel, rfl⟩
theorem d_X12_codesTell_122 : decode mX12_codesTell.1 122 = .ok (.getfield 429, 3) ∧ 122 + 3 = 125 := ⟨by decide +kernel, rfl⟩
theorem d_X12_codesTell_125 : decode mX12_codesTell.1 125 = .ok (.iconst 1, 1) ∧ 125 + 1 = 126 := ⟨by decide +kernel, rfl⟩
theorem d_X12_codesTell_126 : decode mX12_codesTell.1 126 = .ok (.isub, 1) ∧ 126 + 1 = 127 := ⟨by decide +kernel, rfl⟩
theorem d_X12_codesTell_127 : decode mX12_codesTell.1 127 = .ok (.laload, 1) ∧ 127 + 1 = 128 := ⟨by decide +kernel, rfl⟩
theorem d_X12_codesTell_128 : decode mX12_codesTell.1 128 = .ok (.lsub, 1) ∧ 128 + 1 = 129 := ⟨by decide +kernel, rfl⟩
theorem d_X12_codesTell_129 : decode mX12_codesTell.1 129 = .ok (.lastore, 1) ∧ 129 + 1 = 130 := ⟨by decide +kernel, rfl⟩
theorem d_X12_codesTell_130 : decode mX12_codesTell.1 130 = .ok (.goto 9, 3) ∧ ((130 : Nat) : Int) + 9 = ((139 : Nat) : Int) := ⟨by decide +kernel, rfl⟩
theorem d_X12_codesTell_133 : decode mX12_codesTell.1 133 = .ok (.aload_n 0, 1) ∧ 133 + 1 = 134 := ⟨by decide +kernel, rfl⟩
theorem d_X12_codesTell_134 : decode mX12_codesTell.1 134 = .ok (.iload 4, 2) ∧ 134 + 2 = 136 := ⟨by decide +kernel, rfl⟩
theorem d_X12_codesTell_136 : decode mX12_codesTell.1 136 = .ok (.invokevirtual 440, 3) ∧ 136 + 3 = 139 := ⟨by decide +kernel, rfl⟩
theorem d_X12_codesTell_67 : decode mX12_codesTell.1 67 = .ok (.aload_n 0, 1) ∧ 67 + 1 = 68 := ⟨by decide +kernel, rfl⟩
theorem d_X12_codesTell_68 : decode mX12_codesTell.1 68 = .ok (.aload_n 0, 1) ∧ 68 + 1 = 69 := ⟨by decide +kernel, rfl⟩
theorem d_X12_codesTell_69 : decode mX12_codesTell.1 69 = .ok (.iload 4, 2) ∧ 69 + 2 = 71 := ⟨by decide +kernel, rfl⟩
theorem d_X12_codesTell_71 : decode mX12_codesTell.1 71 = .ok (.bipush 40, 2) ∧ 71 + 2 = 73 := ⟨by decide +kernel, rfl⟩
theorem d_X12_codesTell_73 : decode mX12_codesTell.1 73 = .ok (.isub, 1) ∧ 73 + 1 = 74 := ⟨by decide +kernel, rfl⟩
theorem d_X12_codesTell_74 : decode mX12_codesTell.1 74 = .ok (.iload_n 2, 1) ∧ 74 + 1 = 75 := ⟨by decide +kernel, rfl⟩
theorem d_X12_codesTell_75 : decode mX12_codesTell.1 75 = .ok (.invokevirtual 436, 3) ∧ 75 + 3 = 78 := ⟨by decide +kernel, rfl⟩
theorem d_X12_codesTell_78 : decode mX12_codesTell.1 78 = .ok (.invokevirtual 432, 3) ∧ 78 + 3 = 81 := ⟨by decide +kernel, rfl⟩
theorem d_X12_codesTell_81 : decode mX12_codesTell.1 81 = .ok (.goto 58, 3) ∧ ((81 : Nat) : Int) + 58 = ((139 : Nat) : Int) := ⟨by decide +kernel, rfl⟩
theorem d_X12_codesTell_46 : decode mX12_codesTell.1 46 = .ok (.aload_n 0, 1) ∧ 46 + 1 = 47 := ⟨by decide +kernel, rfl⟩
theorem d_X12_codesTell_47 : decode mX12_codesTell.1 47 = .ok (.iload 4, 2) ∧ 47 + 2 = 49 := ⟨by decide +kernel, rfl⟩
theorem d_X12_codesTell_49 : decode mX12_codesTell.1 49 = .ok (.sipush 1000, 3) ∧ 49 + 3 = 52 := ⟨by decide +kernel, rfl⟩
theorem d_X12_codesTell_52 : decode mX12_codesTell.1 52 = .ok (.isub, 1) ∧ 52 + 1 = 53 := ⟨by decide +kernel, rfl⟩
theorem d_X12_codesTell_53 : decode mX12_codesTell.1 53 = .ok (.i2l, 1) ∧ 53 + 1 = 54 := ⟨by decide +kernel, rfl⟩
theorem d_X12_codesTell_54 : decode mX12_codesTell.1 54 = .ok (.invokevirtual 432, 3) ∧ 54 + 3 = 57 := ⟨by decide +kernel, rfl⟩
theorem d_X12_codesTell_57 : decode mX12_codesTell.1 57 = .ok (.goto 82, 3) ∧ ((57 : Nat) : Int) + 82 = ((139 : Nat) : Int) := ⟨by decide +kernel, rfl⟩
set_option maxRecDepth 100000 in
set_option maxHeartbeats 4000000 in
theorem g_X12_codesTell_L14 (l : Launch) (G : xa_C) (c0 c1 c2 : Int) (K : (Int × xa_H) ⊕ (xa_H) → Option xa_O) (hb : ∀ (v3 : Int) (h : xa_H), xa_G l G 4 mX12_codesTell (some (Sum.inl ((v3, h)))) K 14 [some (xR c0), some (xI c1), some (xI c2), some (xI v3), none] [] h) (hx : ∀ (h : xa_H), xa_G l G 4 mX12_codesTell (some (Sum.inr h)) K 145 [some (xR c0), none, none, none, none] [] h) : ∀ (v3 : Int) (h : xa_H), xa_G l G 4 mX12_codesTell (f_X12_codesTell_L14 c0 c1 c2 v3 h) K 14 [some (xR c0), some (xI c1), some (xI c2), some (xI v3), none] [] h := by
  intro v3 h
  unfold f_X12_codesTell_L14
  refine xa_step (xa_iload_n d_X12_codesTell_14 rfl) ?_
  refine xa_step (xa_aload_n d_X12_codesTell_15 rfl) ?_
  refine xa_getf xR xc_12 (by decide) (fun _ => rfl) xw_1349 rfl d_X12_codesTell_16 (fun x4 _ => ?_)
  refine xa_step (xa_iconst d_X12_codesTell_19 xq_i_2) ?_
  refine xa_step (xa_iload_n d_X12_codesTell_20 rfl) ?_
  refine xa_step (xa_iadd d_X12_codesTell_21) ?_
  refine xa_iaload d_X12_codesTell_22 (fun x5 _ => ?_)
  refine xa_if (xa_icmpge d_X12_codesTell_23) (fun q6 => ?_) (fun q6 => ?_)
  · refine xa_step (xa_aload_n d_X12_codesTell_26 rfl) ?_
    refine xa_getf xR xc_12 (by decide) (fun _ => rfl) xw_1350 rfl d_X12_codesTell_27 (fun x7 _ => ?_)
    refine xa_step (xa_sipush d_X12_codesTell_30 xq_s_1600) ?_
    refine xa_step (xa_iload_n d_X12_codesTell_33 rfl) ?_
    refine xa_step (xa_iadd d_X12_codesTell_34) ?_
    refine xa_iaload d_X12_codesTell_35 (fun x8 _ => ?_)
    refine xa_step (xa_istore (ls' := [some (xR c0), some (xI c1), some (xI c2), some (xI v3), some (xI x8)]) d_X12_codesTell_36 (by decide) rfl) ?_
    refine xa_step (xa_iload d_X12_codesTell_38 rfl) ?_
    refine xa_step (xa_sipush d_X12_codesTell_40 xq_s_1000) ?_
    refine xa_if (xa_icmplt d_X12_codesTell_43) (fun q9 => ?_) (fun q9 => ?_)
    · refine xa_step (xa_iload d_X12_codesTell_60 rfl) ?_
      refine xa_step (xa_bipush d_X12_codesTell_62 xq_b_40) ?_
      refine xa_if (xa_icmplt d_X12_codesTell_64) (fun q10 => ?_) (fun q10 => ?_)
      · refine xa_step (xa_iload d_X12_codesTell_84 rfl) ?_
        refine xa_step (xa_bipush d_X12_codesTell_86 xq_b_13) ?_
        refine xa_if (xa_icmpne d_X12_codesTell_88) (fun q11 => ?_) (fun q11 => ?_)
        · refine xa_step (xa_aload_n d_X12_codesTell_91 rfl) ?_
          refine xa_step (xa_lconst d_X12_codesTell_92 rfl) ?_
          refine xa_callVV (as := [xL 1]) (st := []) (M' := mX12_qPuts) (d' := 2) rfl xw_1948 xw_1950 xw_128 xw_1951 xw_177 xh_X12_qPuts rfl ⟨Nat.le_of_ble_eq_true rfl, Nat.le_of_ble_eq_true rfl⟩ (Nat.le_of_ble_eq_true rfl) rfl d_X12_codesTell_93 (fun r hr => ct_X12_qPuts l G c0 1 h r hr) (fun r12 _ => ?_)
          refine xa_step (xa_goto d_X12_codesTell_96) ?_
          refine xa_step (xa_iinc (ls' := [some (xR c0), some (xI c1), some (xI c2), some (xI (w32 (v3 + 1))), some (xI x8)]) d_X12_codesTell_139 xq_i_1 rfl (by decide) rfl) ?_
          refine xa_step (xa_goto d_X12_codesTell_142) ?_
          exact xa_weak (ls' := [some (xR c0), some (xI c1), some (xI c2), some (xI (w32 (v3 + 1))), none]) ⟨rfl, rfl, rfl, rfl, trivial⟩ (hb (w32 (v3 + 1)) r12)
        · refine xa_step (xa_iload d_X12_codesTell_99 rfl) ?_
          refine xa_step (xa_bipush d_X12_codesTell_101 xq_b_12) ?_
          refine xa_if (xa_icmpne d_X12_codesTell_103) (fun q13 => ?_) (fun q13 => ?_)
          · refine xa_step (xa_aload_n d_X12_codesTell_106 rfl) ?_
            refine xa_getf xR xc_12 (by decide) (fun _ => rfl) xw_1407 rfl d_X12_codesTell_107 (fun x14 _ => ?_)
            refine xa_step (xa_aload_n d_X12_codesTell_110 rfl) ?_
            refine xa_getf xI xc_12 (by decide) (fun _ => rfl) xw_1408 rfl d_X12_codesTell_111 (fun x15 _ => ?_)
            refine xa_step (xa_iconst d_X12_codesTell_114 xq_i_1) ?_
            refine xa_step (xa_isub d_X12_codesTell_115) ?_
            refine xa_step (xa_lconst d_X12_codesTell_116 rfl) ?_
            refine xa_step (xa_aload_n d_X12_codesTell_117 rfl) ?_
            refine xa_getf xR xc_12 (by decide) (fun _ => rfl) xw_1407 rfl d_X12_codesTell_118 (fun x16 _ => ?_)
            refine xa_step (xa_aload_n d_X12_codesTell_121 rfl) ?_
            refine xa_getf xI xc_12 (by decide) (fun _ => rfl) xw_1408 rfl d_X12_codesTell_122 (fun x17 _ => ?_)
            refine xa_step (xa_iconst d_X12_codesTell_125 xq_i_1) ?_
            refine xa_step (xa_isub d_X12_codesTell_126) ?_
            refine xa_laload d_X12_codesTell_127 (fun x18 _ => ?_)
            refine xa_step (xa_lsub d_X12_codesTell_128) ?_
            refine xa_lastore2 d_X12_codesTell_129 (fun h19 _ => ?_)
            refine xa_step (xa_goto d_X12_codesTell_130) ?_
            refine xa_step (xa_iinc (ls' := [some (xR c0), some (xI c1), some (xI c2), some (xI (w32 (v3 + 1))), some (xI x8)]) d_X12_codesTell_139 xq_i_1 rfl (by decide) rfl) ?_
            refine xa_step (xa_goto d_X12_codesTell_142) ?_
            exact xa_weak (ls' := [some (xR c0), some (xI c1), some (xI c2), some (xI (w32 (v3 + 1))), none]) ⟨rfl, rfl, rfl, rfl, trivial⟩ (hb (w32 (v3 + 1)) h19)
          · refine xa_step (xa_aload_n d_X12_codesTell_133 rfl) ?_
            refine xa_step (xa_iload d_X12_codesTell_134 rfl) ?_
            refine xa_callVV (as := [xI x8]) (st := []) (M' := mX12_qJoins) (d' := 3) rfl xw_1956 xw_1958 xw_130 xw_1959 xw_177 xh_X12_qJoins rfl ⟨Nat.le_of_ble_eq_true rfl, Nat.le_of_ble_eq_true rfl⟩ (Nat.le_of_ble_eq_true rfl) rfl d_X12_codesTell_136 (fun r hr => ct_X12_qJoins l G c0 x8 h r hr) (fun r20 _ => ?_)
            refine xa_step (xa_iinc (ls' := [some (xR c0), some (xI c1), some (xI c2), some (xI (w32 (v3 + 1))), some (xI x8)]) d_X12_codesTell_139 xq_i_1 rfl (by decide) rfl) ?_
            refine xa_step (xa_goto d_X12_codesTell_142) ?_
            exact xa_weak (ls' := [some (xR c0), some (xI c1), some (xI c2), some (xI (w32 (v3 + 1))), none]) ⟨rfl, rfl, rfl, rfl, trivial⟩ (hb (w32 (v3 + 1)) r20)
      · refine xa_step (xa_aload_n d_X12_codesTell_67 rfl) ?_
        refine xa_step (xa_aload_n d_X12_codesTell_68 rfl) ?_
        refine xa_step (xa_iload d_X12_codesTell_69 rfl) ?_
        refine xa_step (xa_bipush d_X12_codesTell_71 xq_b_40) ?_
        refine xa_step (xa_isub d_X12_codesTell_73) ?_
        refine xa_step (xa_iload_n d_X12_codesTell_74 rfl) ?_
        refine xa_callVl (as := [xI (w32 (x8 - 40)), xI c2]) (st := [xR c0]) (M' := mX12_qPartOf) (d' := 3) rfl xw_1952 xw_1954 xw_129 xw_1955 xw_177 xh_X12_qPartOf rfl ⟨Nat.le_of_ble_eq_true rfl, Nat.le_of_ble_eq_true rfl⟩ (Nat.le_of_ble_eq_true rfl) rfl d_X12_codesTell_75 (fun r hr => ct_X12_qPartOf l G c0 (w32 (x8 - 40)) c2 h r hr) (fun r21 _ => ?_)
        refine xa_callVV (as := [xL r21]) (st := []) (M' := mX12_qPuts) (d' := 2) rfl xw_1948 xw_1950 xw_128 xw_1951 xw_177 xh_X12_qPuts rfl ⟨Nat.le_of_ble_eq_true rfl, Nat.le_of_ble_eq_true rfl⟩ (Nat.le_of_ble_eq_true rfl) rfl d_X12_codesTell_78 (fun r hr => ct_X12_qPuts l G c0 r21 h r hr) (fun r22 _ => ?_)
        refine xa_step (xa_goto d_X12_codesTell_81) ?_
        refine xa_step (xa_iinc (ls' := [some (xR c0), some (xI c1), some (xI c2), some (xI (w32 (v3 + 1))), some (xI x8)]) d_X12_codesTell_139 xq_i_1 rfl (by decide) rfl) ?_
        refine xa_step (xa_goto d_X12_codesTell_142) ?_
        exact xa_weak (ls' := [some (xR c0), some (xI c1), some (xI c2), some (xI (w32 (v3 + 1))), none]) ⟨rfl, rfl, rfl, rfl, trivial⟩ (hb (w32 (v3 + 1)) r22)
    · refine xa_step (xa_aload_n d_X12_codesTell_46 rfl) ?_
      refine xa_step (xa_iload d_X12_codesTell_47 rfl) ?_
      refine xa_step (xa_sipush d_X12_codesTell_49 xq_s_1000) ?_
      refine xa_step (xa_isub d_X12_codesTell_52) ?_
      refine xa_step (xa_i2l d_X12_codesTell_53) ?_
      refine xa_callVV (as := [xL (w32 (x8 - 1000))]) (st := []) (M' := mX12_qPuts) (d' := 2) rfl xw_1948 xw_1950 xw_128 xw_1951 xw_177 xh_X12_qPuts rfl ⟨Nat.le_of_ble_eq_true rfl, Nat.le_of_ble_eq_true rfl⟩ (Nat.le_of_ble_eq_true rfl) rfl d_X12_codesTell_54 (fun r hr => ct_X12_qPuts l G c0 (w32 (x8 - 1000)) h r hr) (fun r23 _ => ?_)
      refine xa_step (xa_goto d_X12_codesTell_57) ?_
      refine xa_step (xa_iinc (ls' := [some (xR c0), some (xI c1), some (xI c2), some (xI (w32 (v3 + 1))), some (xI x8)]) d_X12_codesTell_139 xq_i_1 rfl (by decide) rfl) ?_
      refine xa_step (xa_goto d_X12_codesTell_142) ?_
      exact xa_weak (ls' := [some (xR c0), some (xI c1), some (xI c2), some (xI (w32 (v3 + 1))), none]) ⟨rfl, rfl, rfl, rfl, trivial⟩ (hb (w32 (v3 + 1)) r23)
  · exact xa_weak (ls' := [some (xR c0), none, none, none, none]) ⟨rfl, trivial⟩ (hx h)
theorem d_X12_codesTell_145 : decode mX12_codesTell.1 145 = .ok (.aload_n 0, 1) ∧ 145 + 1 = 146 := ⟨by decide +kernel, rfl⟩
theorem d_X12_codesTell_146 : decode mX12_codesTell.1 146 = .ok (.getfield 240, 3) ∧ 146 + 3 = 149 := ⟨by decide +kernel, rfl⟩
theorem d_X12_codesTell_149 : decode mX12_codesTell.1 149 = .ok (.iconst 0, 1) ∧ 149 + 1 = 150 := ⟨by decide +kernel, rfl⟩
theorem d_X12_codesTell_150 : decode mX12_codesTell.1 150 = .ok (.laload, 1) ∧ 150 + 1 = 151 := ⟨by decide +kernel, rfl⟩
theorem d_X12_codesTell_151 : decode mX12_codesTell.1 151 = .ok (.lreturn, 1) := by decide +kernel
set_option maxRecDepth 100000 in
set_option maxHeartbeats 4000000 in
theorem g_X12_codesTell (l : Launch) (G : xa_C) (v0 v1 v2 : Int) (h : xa_H) : xa_G l G 4 mX12_codesTell (f_X12_codesTell v0 v1 v2 h) (fun r => some (some (xL r.1), r.2) : (Int × xa_H) → Option xa_O) 0 [some (xR v0), some (xI v1), some (xI v2), none, none] [] h := by
  unfold f_X12_codesTell
  refine xa_step (xa_aload_n d_X12_codesTell_0 rfl) ?_
  refine xa_step (xa_iconst d_X12_codesTell_1 xq_i_0) ?_
  refine xa_putf2 (tg := xI) xc_12 (by decide) (fun _ => rfl) rfl (fun c hc => xa_fitI c hc) xw_1408 rfl d_X12_codesTell_2 (fun h1 _ => ?_)
  refine xa_step (xa_aload_n d_X12_codesTell_5 rfl) ?_
  refine xa_getf xR xc_12 (by decide) (fun _ => rfl) xw_1348 rfl d_X12_codesTell_6 (fun x2 _ => ?_)
  refine xa_step (xa_iconst d_X12_codesTell_9 xq_i_2) ?_
  refine xa_step (xa_iload_n d_X12_codesTell_10 rfl) ?_
  refine xa_step (xa_iadd d_X12_codesTell_11) ?_
  refine xa_iaload d_X12_codesTell_12 (fun x3 _ => ?_)
  refine xa_step (xa_istore_n (ls' := [some (xR v0), some (xI v1), some (xI v2), some (xI x3), none]) d_X12_codesTell_13 (by decide) rfl) ?_
  refine xa_weak (ls' := [some (xR v0), some (xI v1), some (xI v2), some (xI x3), none]) ⟨rfl, rfl, rfl, rfl, trivial⟩ ?_
  refine xa_loop (f := fun s => f_X12_codesTell_L14 v0 v1 v2 s.1 s.2) (L := fun s => [some (xR v0), some (xI v1), some (xI v2), some (xI s.1), none]) (P := fun s => s.2) (X := (fun x K => xa_G l G 4 mX12_codesTell (some (Sum.inr x)) K 145 [some (xR v0), none, none, none, none] [] x)) (fun K hb hX s => g_X12_codesTell_L14 l G v0 v1 v2 K (fun w0 hh => hb ((w0, hh))) (fun hh => hX hh) s.1 s.2) ?_ xFU ((x3, h1))
  intro e24 K hK
  refine xa_eqE hK ?_
  show xa_G l G 4 mX12_codesTell _ _ 145 [some (xR v0), none, none, none, none] [] e24
  refine xa_step (xa_aload_n d_X12_codesTell_145 rfl) ?_
  refine xa_getf xR xc_12 (by decide) (fun _ => rfl) xw_1407 rfl d_X12_codesTell_146 (fun x25 _ => ?_)
  refine xa_step (xa_iconst d_X12_codesTell_149 xq_i_0) ?_
  refine xa_laload d_X12_codesTell_150 (fun x26 _ => ?_)
  exact xa_lret d_X12_codesTell_151 rfl rfl
theorem ct_X12_codesTell (l : Launch) (G : xa_C) (v0 v1 v2 : Int) (h : xa_H) (r : Int × xa_H) (hr : f_X12_codesTell v0 v1 v2 h = some r) : xa_CT l G 4 mX12_codesTell yX12_codesTell [xR v0, xI v1, xI v2] h (some (xL r.1), r.2) :=
  xa_met (by decide +kernel) rfl (fun q => by first | rfl | cases q) (Nat.le_of_ble_eq_true rfl) rfl (g_X12_codesTell l G v0 v1 v2 h) (by rw [hr]; rfl)
abbrev mX12_paysOf : xa_M := (cX12_paysOf, 5, (some (.int)), RX12, false)
theorem d_X12_paysOf_0 : decode mX12_paysOf.1 0 = .ok (.aload_n 0, 1) ∧ 0 + 1 = 1 := ⟨by decide +kernel, rfl⟩
theorem d_X12_paysOf_1 : decode mX12_paysOf.1 1 = .ok (.getfield 121, 3) ∧ 1 + 3 = 4 := ⟨by decide +kernel, rfl⟩
theorem d_X12_paysOf_4 : decode mX12_paysOf.1 4 = .ok (.iconst 3, 1) ∧ 4 + 1 = 5 := ⟨by decide +kernel, rfl⟩
theorem d_X12_paysOf_5 : decode mX12_paysOf.1 5 = .ok (.iaload, 1) ∧ 5 + 1 = 6 := ⟨by decide +kernel, rfl⟩
theorem d_X12_paysOf_6 : decode mX12_paysOf.1 6 = .ok (.iconst (-1), 1) ∧ 6 + 1 = 7 := ⟨by decide +kernel, rfl⟩
theorem d_X12_paysOf_7 : decode mX12_paysOf.1 7 = .ok (.if_icmp .ne 5, 3) ∧ 7 + 3 = 10 ∧ ((7 : Nat) : Int) + 5 = ((12 : Nat) : Int) := ⟨by decide +kernel, rfl, rfl⟩
theorem d_X12_paysOf_10 : decode mX12_paysOf.1 10 = .ok (.iconst 0, 1) ∧ 10 + 1 = 11 := ⟨by decide +kernel, rfl⟩
theorem d_X12_paysOf_11 : decode mX12_paysOf.1 11 = .ok (.ireturn, 1) := by decide +kernel
theorem d_X12_paysOf_12 : decode mX12_paysOf.1 12 = .ok (.aload_n 0, 1) ∧ 12 + 1 = 13 := ⟨by decide +kernel, rfl⟩
theorem d_X12_paysOf_13 : decode mX12_paysOf.1 13 = .ok (.iload_n 1, 1) ∧ 13 + 1 = 14 := ⟨by decide +kernel, rfl⟩
theorem d_X12_paysOf_14 : decode mX12_paysOf.1 14 = .ok (.iload_n 2, 1) ∧ 14 + 1 = 15 := ⟨by decide +kernel, rfl⟩
theorem d_X12_paysOf_15 : decode mX12_paysOf.1 15 = .ok (.invokevirtual 443, 3) ∧ 15 + 3 = 18 := ⟨by decide +kernel, rfl⟩
theorem d_X12_paysOf_18 : decode mX12_paysOf.1 18 = .ok (.aload_n 0, 1) ∧ 18 + 1 = 19 := ⟨by decide +kernel, rfl⟩
theorem d_X12_paysOf_19 : decode mX12_paysOf.1 19 = .ok (.iconst 1, 1) ∧ 19 + 1 = 20 := ⟨by decide +kernel, rfl⟩
theorem d_X12_paysOf_20 : decode mX12_paysOf.1 20 = .ok (.iload_n 1, 1) ∧ 20 + 1 = 21 := ⟨by decide +kernel, rfl⟩
theorem d_X12_paysOf_21 : decode mX12_paysOf.1 21 = .ok (.invokevirtual 446, 3) ∧ 21 + 3 = 24 := ⟨by decide +kernel, rfl⟩
theorem d_X12_paysOf_24 : decode mX12_paysOf.1 24 = .ok (.lstore_n 3, 1) ∧ 24 + 1 = 25 := ⟨by decide +kernel, rfl⟩
theorem d_X12_paysOf_25 : decode mX12_paysOf.1 25 = .ok (.lload_n 3, 1) ∧ 25 + 1 = 26 := ⟨by decide +kernel, rfl⟩
theorem d_X12_paysOf_26 : decode mX12_paysOf.1 26 = .ok (.lconst 0, 1) ∧ 26 + 1 = 27 := ⟨by decide +kernel, rfl⟩
theorem d_X12_paysOf_27 : decode mX12_paysOf.1 27 = .ok (.lcmp, 1) ∧ 27 + 1 = 28 := ⟨by decide +kernel, rfl⟩
theorem d_X12_paysOf_28 : decode mX12_paysOf.1 28 = .ok (.ifCond .ge 7, 3) ∧ 28 + 3 = 31 ∧ ((28 : Nat) : Int) + 7 = ((35 : Nat) : Int) := ⟨by decide +kernel, rfl, rfl⟩
theorem d_X12_paysOf_31 : decode mX12_paysOf.1 31 = .ok (.iconst 0, 1) ∧ 31 + 1 = 32 := ⟨by decide +kernel, rfl⟩
theorem d_X12_paysOf_32 : decode mX12_paysOf.1 32 = .ok (.goto 19, 3) ∧ ((32 : Nat) : Int) + 19 = ((51 : Nat) : Int) := ⟨by decide +kernel, rfl⟩
theorem d_X12_paysOf_51 : decode mX12_paysOf.1 51 = .ok (.ireturn, 1) := by decide +kernel
theorem d_X12_paysOf_35 : decode mX12_paysOf.1 35 = .ok (.lload_n 3, 1) ∧ 35 + 1 = 36 := ⟨by decide +kernel, rfl⟩
theorem d_X12_paysOf_36 : decode mX12_paysOf.1 36 = .ok (.ldc2_w 449, 3) ∧ 36 + 3 = 39 := ⟨by decide +kernel, rfl⟩
theorem d_X12_paysOf_39 : decode mX12_paysOf.1 39 = .ok (.lcmp, 1) ∧ 39 + 1 = 40 := ⟨by decide +kernel, rfl⟩
theorem d_X12_paysOf_40 : decode mX12_paysOf.1 40 = .ok (.ifCond .le 9, 3) ∧ 40 + 3 = 43 ∧ ((40 : Nat) : Int) + 9 = ((49 : Nat) : Int) := ⟨by decide +kernel, rfl, rfl⟩
theorem d_X12_paysOf_43 : decode mX12_paysOf.1 43 = .ok (.sipush 999, 3) ∧ 43 + 3 = 46 := ⟨by decide +kernel, rfl⟩
theorem d_X12_paysOf_46 : decode mX12_paysOf.1 46 = .ok (.goto 5, 3) ∧ ((46 : Nat) : Int) + 5 = ((51 : Nat) : Int) := ⟨by decide +kernel, rfl⟩
theorem d_X12_paysOf_49 : decode mX12_paysOf.1 49 = .ok (.lload_n 3, 1) ∧ 49 + 1 = 50 := ⟨by decide +kernel, rfl⟩
theorem d_X12_paysOf_50 : decode mX12_paysOf.1 50 = .ok (.l2i, 1) ∧ 50 + 1 = 51 := ⟨by decide +kernel, rfl⟩
set_option maxRecDepth 100000 in
set_option maxHeartbeats 4000000 in
theorem g_X12_paysOf (l : Launch) (G : xa_C) (v0 v1 v2 : Int) (h : xa_H) : xa_G l G 5 mX12_paysOf (f_X12_paysOf v0 v1 v2 h) (fun r => some (some (xI r.1), r.2) : (Int × xa_H) → Option xa_O) 0 [some (xR v0), some (xI v1), some (xI v2), none, none] [] h := by
  unfold f_X12_paysOf
  refine xa_step (xa_aload_n d_X12_paysOf_0 rfl) ?_
  refine xa_getf xR xc_12 (by decide) (fun _ => rfl) xw_1348 rfl d_X12_paysOf_1 (fun x1 _ => ?_)
  refine xa_step (xa_iconst d_X12_paysOf_4 xq_i_3) ?_
  refine xa_iaload d_X12_paysOf_5 (fun x2 _ => ?_)
  refine xa_step (xa_iconst d_X12_paysOf_6 xq_i_m1) ?_
  refine xa_if (xa_icmpne d_X12_paysOf_7) (fun q3 => ?_) (fun q3 => ?_)
  · refine xa_step (xa_iconst d_X12_paysOf_10 xq_i_0) ?_
    exact xa_iret d_X12_paysOf_11 rfl rfl
  · refine xa_step (xa_aload_n d_X12_paysOf_12 rfl) ?_
    refine xa_step (xa_iload_n d_X12_paysOf_13 rfl) ?_
    refine xa_step (xa_iload_n d_X12_paysOf_14 rfl) ?_
    refine xa_callVV (as := [xI v1, xI v2]) (st := []) (M' := mX12_asksOf) (d' := 3) rfl xw_1940 xw_1942 xw_126 xw_1943 xw_177 xh_X12_asksOf rfl ⟨Nat.le_of_ble_eq_true rfl, Nat.le_of_ble_eq_true rfl⟩ (Nat.le_of_ble_eq_true rfl) rfl d_X12_paysOf_15 (fun r hr => ct_X12_asksOf l G v0 v1 v2 h r hr) (fun r4 _ => ?_)
    refine xa_step (xa_aload_n d_X12_paysOf_18 rfl) ?_
    refine xa_step (xa_iconst d_X12_paysOf_19 xq_i_1) ?_
    refine xa_step (xa_iload_n d_X12_paysOf_20 rfl) ?_
    refine xa_callVL (as := [xI 1, xI v1]) (st := []) (M' := mX12_codesTell) (d' := 4) rfl xw_1944 xw_1946 xw_127 xw_1947 xw_177 xh_X12_codesTell rfl ⟨Nat.le_of_ble_eq_true rfl, Nat.le_of_ble_eq_true rfl⟩ (Nat.le_of_ble_eq_true rfl) rfl d_X12_paysOf_21 (fun r hr => ct_X12_codesTell l G v0 1 v1 r4 r hr) (fun r5 _ => ?_)
    refine xa_step (xa_lstore_n (ls' := [some (xR v0), some (xI v1), some (xI v2), some (xL r5.1), none]) d_X12_paysOf_24 (by decide) rfl) ?_
    refine xa_step (xa_lload_n d_X12_paysOf_25 rfl) ?_
    refine xa_step (xa_lconst d_X12_paysOf_26 rfl) ?_
    refine xa_step (xa_lcmp d_X12_paysOf_27) ?_
    refine xa_if (xa_ifge d_X12_paysOf_28) (fun q6 => ?_) (fun q6 => ?_)
    · refine xa_step (xa_iconst d_X12_paysOf_31 xq_i_0) ?_
      refine xa_step (xa_goto d_X12_paysOf_32) ?_
      exact xa_iret d_X12_paysOf_51 rfl rfl
    · refine xa_step (xa_lload_n d_X12_paysOf_35 rfl) ?_
      refine xa_step (xa_ldc2 (c64 := 999) (v := 999) (by decide +kernel) xw_1972 d_X12_paysOf_36) ?_
      refine xa_step (xa_lcmp d_X12_paysOf_39) ?_
      refine xa_if (xa_ifle d_X12_paysOf_40) (fun q7 => ?_) (fun q7 => ?_)
      · refine xa_step (xa_sipush d_X12_paysOf_43 xq_s_999) ?_
        refine xa_step (xa_goto d_X12_paysOf_46) ?_
        exact xa_iret d_X12_paysOf_51 rfl rfl
      · refine xa_step (xa_lload_n d_X12_paysOf_49 rfl) ?_
        refine xa_step (xa_l2i d_X12_paysOf_50) ?_
        exact xa_iret d_X12_paysOf_51 rfl rfl
theorem ct_X12_paysOf (l : Launch) (G : xa_C) (v0 v1 v2 : Int) (h : xa_H) (r : Int × xa_H) (hr : f_X12_paysOf v0 v1 v2 h = some r) : xa_CT l G 5 mX12_paysOf yX12_paysOf [xR v0, xI v1, xI v2] h (some (xI r.1), r.2) :=
  xa_met (by decide +kernel) rfl (fun q => by first | rfl | cases q) (Nat.le_of_ble_eq_true rfl) rfl (g_X12_paysOf l G v0 v1 v2 h) (by rw [hr]; rfl)
abbrev mX12_paysAll : xa_M := (cX12_paysAll, 3, (some (.int)), RX12, false)
theorem d_X12_paysAll_0 : decode mX12_paysAll.1 0 = .ok (.iconst 0, 1) ∧ 0 + 1 = 1 := ⟨by decide +kernel, rfl⟩
theorem d_X12_paysAll_1 : decode mX12_paysAll.1 1 = .ok (.istore_n 1, 1) ∧ 1 + 1 = 2 := ⟨by decide +kernel, rfl⟩
theorem d_X12_paysAll_2 : decode mX12_paysAll.1 2 = .ok (.iconst 0, 1) ∧ 2 + 1 = 3 := ⟨by decide +kernel, rfl⟩
theorem d_X12_paysAll_3 : decode mX12_paysAll.1 3 = .ok (.istore_n 2, 1) ∧ 3 + 1 = 4 := ⟨by decide +kernel, rfl⟩
theorem d_X12_paysAll_4 : decode mX12_paysAll.1 4 = .ok (.iload_n 2, 1) ∧ 4 + 1 = 5 := ⟨by decide +kernel, rfl⟩
theorem d_X12_paysAll_5 : decode mX12_paysAll.1 5 = .ok (.aload_n 0, 1) ∧ 5 + 1 = 6 := ⟨by decide +kernel, rfl⟩
theorem d_X12_paysAll_6 : decode mX12_paysAll.1 6 = .ok (.getfield 451, 3) ∧ 6 + 3 = 9 := ⟨by decide +kernel, rfl⟩
theorem d_X12_paysAll_9 : decode mX12_paysAll.1 9 = .ok (.if_icmp .ge 27, 3) ∧ 9 + 3 = 12 ∧ ((9 : Nat) : Int) + 27 = ((36 : Nat) : Int) := ⟨by decide +kernel, rfl, rfl⟩
theorem d_X12_paysAll_12 : decode mX12_paysAll.1 12 = .ok (.iload_n 1, 1) ∧ 12 + 1 = 13 := ⟨by decide +kernel, rfl⟩
theorem d_X12_paysAll_13 : decode mX12_paysAll.1 13 = .ok (.aload_n 0, 1) ∧ 13 + 1 = 14 := ⟨by decide +kernel, rfl⟩
theorem d_X12_paysAll_14 : decode mX12_paysAll.1 14 = .ok (.aload_n 0, 1) ∧ 14 + 1 = 15 := ⟨by decide +kernel, rfl⟩
theorem d_X12_paysAll_15 : decode mX12_paysAll.1 15 = .ok (.getfield 133, 3) ∧ 15 + 3 = 18 := ⟨by decide +kernel, rfl⟩
theorem d_X12_paysAll_18 : decode mX12_paysAll.1 18 = .ok (.iload_n 2, 1) ∧ 18 + 1 = 19 := ⟨by decide +kernel, rfl⟩
theorem d_X12_paysAll_19 : decode mX12_paysAll.1 19 = .ok (.iaload, 1) ∧ 19 + 1 = 20 := ⟨by decide +kernel, rfl⟩
theorem d_X12_paysAll_20 : decode mX12_paysAll.1 20 = .ok (.aload_n 0, 1) ∧ 20 + 1 = 21 := ⟨by decide +kernel, rfl⟩
theorem d_X12_paysAll_21 : decode mX12_paysAll.1 21 = .ok (.iload_n 2, 1) ∧ 21 + 1 = 22 := ⟨by decide +kernel, rfl⟩
theorem d_X12_paysAll_22 : decode mX12_paysAll.1 22 = .ok (.invokevirtual 468, 3) ∧ 22 + 3 = 25 := ⟨by decide +kernel, rfl⟩
theorem d_X12_paysAll_25 : decode mX12_paysAll.1 25 = .ok (.invokevirtual 474, 3) ∧ 25 + 3 = 28 := ⟨by decide +kernel, rfl⟩
theorem d_X12_paysAll_28 : decode mX12_paysAll.1 28 = .ok (.iadd, 1) ∧ 28 + 1 = 29 := ⟨by decide +kernel, rfl⟩
theorem d_X12_paysAll_29 : decode mX12_paysAll.1 29 = .ok (.istore_n 1, 1) ∧ 29 + 1 = 30 := ⟨by decide +kernel, rfl⟩
theorem d_X12_paysAll_30 : decode mX12_paysAll.1 30 = .ok (.iinc 2 1, 3) ∧ 30 + 3 = 33 := ⟨by decide +kernel, rfl⟩
theorem d_X12_paysAll_33 : decode mX12_paysAll.1 33 = .ok (.goto (-29), 3) ∧ ((33 : Nat) : Int) + (-29) = ((4 : Nat) : Int) := ⟨by decide +kernel, rfl⟩
set_option maxRecDepth 100000 in
set_option maxHeartbeats 4000000 in
theorem g_X12_paysAll_L4 (l : Launch) (G : xa_C) (c0 : Int) (K : (Int × Int × xa_H) ⊕ (Int × xa_H) → Option xa_O) (hb : ∀ (v1 : Int) (v2 : Int) (h : xa_H), xa_G l G 6 mX12_paysAll (some (Sum.inl ((v1, v2, h)))) K 4 [some (xR c0), some (xI v1), some (xI v2)] [] h) (hx : ∀ (v1 : Int) (h : xa_H), xa_G l G 6 mX12_paysAll (some (Sum.inr ((v1, h)))) K 36 [none, some (xI v1), none] [] h) : ∀ (v1 : Int) (v2 : Int) (h : xa_H), xa_G l G 6 mX12_paysAll (f_X12_paysAll_L4 c0 v1 v2 h) K 4 [some (xR c0), some (xI v1), some (xI v2)] [] h := by
  intro v1 v2 h
  unfold f_X12_paysAll_L4
  refine xa_step (xa_iload_n d_X12_paysAll_4 rfl) ?_
  refine xa_step (xa_aload_n d_X12_paysAll_5 rfl) ?_
  refine xa_getf xI xc_12 (by decide) (fun _ => rfl) xw_1360 rfl d_X12_paysAll_6 (fun x1 _ => ?_)
  refine xa_if (xa_icmpge d_X12_paysAll_9) (fun q2 => ?_) (fun q2 => ?_)
  · refine xa_step (xa_iload_n d_X12_paysAll_12 rfl) ?_
    refine xa_step (xa_aload_n d_X12_paysAll_13 rfl) ?_
    refine xa_step (xa_aload_n d_X12_paysAll_14 rfl) ?_
    refine xa_getf xR xc_12 (by decide) (fun _ => rfl) xw_1359 rfl d_X12_paysAll_15 (fun x3 _ => ?_)
    refine xa_step (xa_iload_n d_X12_paysAll_18 rfl) ?_
    refine xa_iaload d_X12_paysAll_19 (fun x4 _ => ?_)
    refine xa_step (xa_aload_n d_X12_paysAll_20 rfl) ?_
    refine xa_step (xa_iload_n d_X12_paysAll_21 rfl) ?_
    refine xa_callVi (as := [xI v2]) (st := [xI x4, xR c0, xI v1]) (M' := mX12_giverOf) (d' := 2) rfl xw_1932 xw_1934 xw_124 xw_1935 xw_177 xh_X12_giverOf rfl ⟨Nat.le_of_ble_eq_true rfl, Nat.le_of_ble_eq_true rfl⟩ (Nat.le_of_ble_eq_true rfl) rfl d_X12_paysAll_22 (fun r hr => ct_X12_giverOf l G c0 v2 h r hr) (fun r5 _ => ?_)
    refine xa_callVI (as := [xI x4, xI r5]) (st := [xI v1]) (M' := mX12_paysOf) (d' := 5) rfl xw_1968 xw_1970 xw_131 xw_1971 xw_177 xh_X12_paysOf rfl ⟨Nat.le_of_ble_eq_true rfl, Nat.le_of_ble_eq_true rfl⟩ (Nat.le_of_ble_eq_true rfl) rfl d_X12_paysAll_25 (fun r hr => ct_X12_paysOf l G c0 x4 r5 h r hr) (fun r6 _ => ?_)
    refine xa_step (xa_iadd d_X12_paysAll_28) ?_
    refine xa_step (xa_istore_n (ls' := [some (xR c0), some (xI (w32 (v1 + r6.1))), some (xI v2)]) d_X12_paysAll_29 (by decide) rfl) ?_
    refine xa_step (xa_iinc (ls' := [some (xR c0), some (xI (w32 (v1 + r6.1))), some (xI (w32 (v2 + 1)))]) d_X12_paysAll_30 xq_i_1 rfl (by decide) rfl) ?_
    refine xa_step (xa_goto d_X12_paysAll_33) ?_
    exact xa_weak (ls' := [some (xR c0), some (xI (w32 (v1 + r6.1))), some (xI (w32 (v2 + 1)))]) ⟨rfl, rfl, rfl, trivial⟩ (hb (w32 (v1 + r6.1)) (w32 (v2 + 1)) r6.2)
  · exact xa_weak (ls' := [none, some (xI v1), none]) ⟨rfl, trivial⟩ (hx v1 h)
theorem d_X12_paysAll_36 : decode mX12_paysAll.1 36 = .ok (.iload_n 1, 1) ∧ 36 + 1 = 37 := ⟨by decide +kernel, rfl⟩
theorem d_X12_paysAll_37 : decode mX12_paysAll.1 37 = .ok (.ireturn, 1) := by decide +kernel
set_option maxRecDepth 100000 in
set_option maxHeartbeats 4000000 in
theorem g_X12_paysAll (l : Launch) (G : xa_C) (v0 : Int) (h : xa_H) : xa_G l G 6 mX12_paysAll (f_X12_paysAll v0 h) (fun r => some (some (xI r.1), r.2) : (Int × xa_H) → Option xa_O) 0 [some (xR v0), none, none] [] h := by
  unfold f_X12_paysAll
  refine xa_step (xa_iconst d_X12_paysAll_0 xq_i_0) ?_
  refine xa_step (xa_istore_n (ls' := [some (xR v0), some (xI 0), none]) d_X12_paysAll_1 (by decide) rfl) ?_
  refine xa_step (xa_iconst d_X12_paysAll_2 xq_i_0) ?_
  refine xa_step (xa_istore_n (ls' := [some (xR v0), some (xI 0), some (xI 0)]) d_X12_paysAll_3 (by decide) rfl) ?_
  refine xa_weak (ls' := [some (xR v0), some (xI 0), some (xI 0)]) ⟨rfl, rfl, rfl, trivial⟩ ?_
  refine xa_loop (f := fun s => f_X12_paysAll_L4 v0 s.1 s.2.1 s.2.2) (L := fun s => [some (xR v0), some (xI s.1), some (xI s.2.1)]) (P := fun s => s.2.2) (X := (fun x K => xa_G l G 6 mX12_paysAll (some (Sum.inr x)) K 36 [none, some (xI x.1), none] [] x.2)) (fun K hb hX s => g_X12_paysAll_L4 l G v0 K (fun w0 w1 hh => hb ((w0, w1, hh))) (fun w0 hh => hX ((w0, hh))) s.1 s.2.1 s.2.2) ?_ xFU ((0, 0, h))
  intro e7 K hK
  refine xa_eqE hK ?_
  show xa_G l G 6 mX12_paysAll _ _ 36 [none, some (xI e7.1), none] [] e7.2
  refine xa_step (xa_iload_n d_X12_paysAll_36 rfl) ?_
  exact xa_iret d_X12_paysAll_37 rfl rfl
theorem ct_X12_paysAll (l : Launch) (G : xa_C) (v0 : Int) (h : xa_H) (r : Int × xa_H) (hr : f_X12_paysAll v0 h = some r) : xa_CT l G 6 mX12_paysAll yX12_paysAll [xR v0] h (some (xI r.1), r.2) :=
  xa_met (by decide +kernel) rfl (fun q => by first | rfl | cases q) (Nat.le_of_ble_eq_true rfl) rfl (g_X12_paysAll l G v0 h) (by rw [hr]; rfl)
abbrev mX12_refuses : xa_M := (cX12_refuses, 2, (some (.int)), RX12, false)
theorem d_X12_refuses_0 : decode mX12_refuses.1 0 = .ok (.aload_n 0, 1) ∧ 0 + 1 = 1 := ⟨by decide +kernel, rfl⟩
theorem d_X12_refuses_1 : decode mX12_refuses.1 1 = .ok (.getfield 17, 3) ∧ 1 + 3 = 4 := ⟨by decide +kernel, rfl⟩
theorem d_X12_refuses_4 : decode mX12_refuses.1 4 = .ok (.iload_n 1, 1) ∧ 4 + 1 = 5 := ⟨by decide +kernel, rfl⟩
theorem d_X12_refuses_5 : decode mX12_refuses.1 5 = .ok (.dup2, 1) ∧ 5 + 1 = 6 := ⟨by decide +kernel, rfl⟩
theorem d_X12_refuses_6 : decode mX12_refuses.1 6 = .ok (.iaload, 1) ∧ 6 + 1 = 7 := ⟨by decide +kernel, rfl⟩
theorem d_X12_refuses_7 : decode mX12_refuses.1 7 = .ok (.iconst 1, 1) ∧ 7 + 1 = 8 := ⟨by decide +kernel, rfl⟩
theorem d_X12_refuses_8 : decode mX12_refuses.1 8 = .ok (.iadd, 1) ∧ 8 + 1 = 9 := ⟨by decide +kernel, rfl⟩
theorem d_X12_refuses_9 : decode mX12_refuses.1 9 = .ok (.iastore, 1) ∧ 9 + 1 = 10 := ⟨by decide +kernel, rfl⟩
theorem d_X12_refuses_10 : decode mX12_refuses.1 10 = .ok (.iconst (-1), 1) ∧ 10 + 1 = 11 := ⟨by decide +kernel, rfl⟩
theorem d_X12_refuses_11 : decode mX12_refuses.1 11 = .ok (.ireturn, 1) := by decide +kernel
set_option maxRecDepth 100000 in
set_option maxHeartbeats 4000000 in
theorem g_X12_refuses (l : Launch) (G : xa_C) (v0 v1 : Int) (h : xa_H) : xa_G l G 2 mX12_refuses (f_X12_refuses v0 v1 h) (fun r => some (some (xI r.1), r.2) : (Int × xa_H) → Option xa_O) 0 [some (xR v0), some (xI v1)] [] h := by
  unfold f_X12_refuses
  refine xa_step (xa_aload_n d_X12_refuses_0 rfl) ?_
  refine xa_getf xR xc_12 (by decide) (fun _ => rfl) xw_1313 rfl d_X12_refuses_1 (fun x1 _ => ?_)
  refine xa_step (xa_iload_n d_X12_refuses_4 rfl) ?_
  refine xa_step (xa_dup2 d_X12_refuses_5 (xa_tI _) (xa_tR _)) ?_
  refine xa_iaload d_X12_refuses_6 (fun x2 _ => ?_)
  refine xa_step (xa_iconst d_X12_refuses_7 xq_i_1) ?_
  refine xa_step (xa_iadd d_X12_refuses_8) ?_
  refine xa_iastore2 d_X12_refuses_9 (fun h3 _ => ?_)
  refine xa_step (xa_iconst d_X12_refuses_10 xq_i_m1) ?_
  exact xa_iret d_X12_refuses_11 rfl rfl
theorem ct_X12_refuses (l : Launch) (G : xa_C) (v0 v1 : Int) (h : xa_H) (r : Int × xa_H) (hr : f_X12_refuses v0 v1 h = some r) : xa_CT l G 2 mX12_refuses yX12_refuses [xR v0, xI v1] h (some (xI r.1), r.2) :=
  xa_met (by decide +kernel) rfl (fun q => by first | rfl | cases q) (Nat.le_of_ble_eq_true rfl) rfl (g_X12_refuses l G v0 v1 h) (by rw [hr]; rfl)
abbrev mX12_doesSwap : xa_M := (cX12_doesSwap, 3, (some (.boolean)), RX12, false)
theorem d_X12_doesSwap_0 : decode mX12_doesSwap.1 0 = .ok (.aload_n 0, 1) ∧ 0 + 1 = 1 := ⟨by decide +kernel, rfl⟩
theorem d_X12_doesSwap_1 : decode mX12_doesSwap.1 1 = .ok (.getfield 121, 3) ∧ 1 + 3 = 4 := ⟨by decide +kernel, rfl⟩
theorem d_X12_doesSwap_4 : decode mX12_doesSwap.1 4 = .ok (.iconst 2, 1) ∧ 4 + 1 = 5 := ⟨by decide +kernel, rfl⟩
theorem d_X12_doesSwap_5 : decode mX12_doesSwap.1 5 = .ok (.iaload, 1) ∧ 5 + 1 = 6 := ⟨by decide +kernel, rfl⟩
theorem d_X12_doesSwap_6 : decode mX12_doesSwap.1 6 = .ok (.iconst (-1), 1) ∧ 6 + 1 = 7 := ⟨by decide +kernel, rfl⟩
theorem d_X12_doesSwap_7 : decode mX12_doesSwap.1 7 = .ok (.if_icmp .ne 5, 3) ∧ 7 + 3 = 10 ∧ ((7 : Nat) : Int) + 5 = ((12 : Nat) : Int) := ⟨by decide +kernel, rfl, rfl⟩
theorem d_X12_doesSwap_10 : decode mX12_doesSwap.1 10 = .ok (.iconst 1, 1) ∧ 10 + 1 = 11 := ⟨by decide +kernel, rfl⟩
theorem d_X12_doesSwap_11 : decode mX12_doesSwap.1 11 = .ok (.ireturn, 1) := by decide +kernel
theorem d_X12_doesSwap_12 : decode mX12_doesSwap.1 12 = .ok (.aload_n 0, 1) ∧ 12 + 1 = 13 := ⟨by decide +kernel, rfl⟩
theorem d_X12_doesSwap_13 : decode mX12_doesSwap.1 13 = .ok (.iload_n 1, 1) ∧ 13 + 1 = 14 := ⟨by decide +kernel, rfl⟩
theorem d_X12_doesSwap_14 : decode mX12_doesSwap.1 14 = .ok (.iload_n 2, 1) ∧ 14 + 1 = 15 := ⟨by decide +kernel, rfl⟩
theorem d_X12_doesSwap_15 : decode mX12_doesSwap.1 15 = .ok (.invokevirtual 443, 3) ∧ 15 + 3 = 18 := ⟨by decide +kernel, rfl⟩
theorem d_X12_doesSwap_18 : decode mX12_doesSwap.1 18 = .ok (.aload_n 0, 1) ∧ 18 + 1 = 19 := ⟨by decide +kernel, rfl⟩
theorem d_X12_doesSwap_19 : decode mX12_doesSwap.1 19 = .ok (.iconst 0, 1) ∧ 19 + 1 = 20 := ⟨by decide +kernel, rfl⟩
theorem d_X12_doesSwap_20 : decode mX12_doesSwap.1 20 = .ok (.iload_n 1, 1) ∧ 20 + 1 = 21 := ⟨by decide +kernel, rfl⟩
theorem d_X12_doesSwap_21 : decode mX12_doesSwap.1 21 = .ok (.invokevirtual 446, 3) ∧ 21 + 3 = 24 := ⟨by decide +kernel, rfl⟩
theorem d_X12_doesSwap_24 : decode mX12_doesSwap.1 24 = .ok (.lconst 1, 1) ∧ 24 + 1 = 25 := ⟨by decide +kernel, rfl⟩
theorem d_X12_doesSwap_25 : decode mX12_doesSwap.1 25 = .ok (.lcmp, 1) ∧ 25 + 1 = 26 := ⟨by decide +kernel, rfl⟩
theorem d_X12_doesSwap_26 : decode mX12_doesSwap.1 26 = .ok (.ifCond .ne 7, 3) ∧ 26 + 3 = 29 ∧ ((26 : Nat) : Int) + 7 = ((33 : Nat) : Int) := ⟨by decide +kernel, rfl, rfl⟩
theorem d_X12_doesSwap_29 : decode mX12_doesSwap.1 29 = .ok (.iconst 1, 1) ∧ 29 + 1 = 30 := ⟨by decide +kernel, rfl⟩
theorem d_X12_doesSwap_30 : decode mX12_doesSwap.1 30 = .ok (.goto 4, 3) ∧ ((30 : Nat) : Int) + 4 = ((34 : Nat) : Int) := ⟨by decide +kernel, rfl⟩
theorem d_X12_doesSwap_34 : decode mX12_doesSwap.1 34 = .ok (.ireturn, 1) := by decide +kernel
theorem d_X12_doesSwap_33 : decode mX12_doesSwap.1 33 = .ok (.iconst 0, 1) ∧ 33 + 1 = 34 := ⟨by decide +kernel, rfl⟩
set_option maxRecDepth 100000 in
set_option maxHeartbeats 4000000 in
theorem g_X12_doesSwap (l : Launch) (G : xa_C) (v0 v1 v2 : Int) (h : xa_H) : xa_G l G 5 mX12_doesSwap (f_X12_doesSwap v0 v1 v2 h) (fun r => some (some (xI r.1), r.2) : (Int × xa_H) → Option xa_O) 0 [some (xR v0), some (xI v1), some (xI v2)] [] h := by
  unfold f_X12_doesSwap
  refine xa_step (xa_aload_n d_X12_doesSwap_0 rfl) ?_
  refine xa_getf xR xc_12 (by decide) (fun _ => rfl) xw_1348 rfl d_X12_doesSwap_1 (fun x1 _ => ?_)
  refine xa_step (xa_iconst d_X12_doesSwap_4 xq_i_2) ?_
  refine xa_iaload d_X12_doesSwap_5 (fun x2 _ => ?_)
  refine xa_step (xa_iconst d_X12_doesSwap_6 xq_i_m1) ?_
  refine xa_if (xa_icmpne d_X12_doesSwap_7) (fun q3 => ?_) (fun q3 => ?_)
  · refine xa_step (xa_iconst d_X12_doesSwap_10 xq_i_1) ?_
    exact xa_zret d_X12_doesSwap_11 rfl (Or.inr rfl) rfl
  · refine xa_step (xa_aload_n d_X12_doesSwap_12 rfl) ?_
    refine xa_step (xa_iload_n d_X12_doesSwap_13 rfl) ?_
    refine xa_step (xa_iload_n d_X12_doesSwap_14 rfl) ?_
    refine xa_callVV (as := [xI v1, xI v2]) (st := []) (M' := mX12_asksOf) (d' := 3) rfl xw_1940 xw_1942 xw_126 xw_1943 xw_177 xh_X12_asksOf rfl ⟨Nat.le_of_ble_eq_true rfl, Nat.le_of_ble_eq_true rfl⟩ (Nat.le_of_ble_eq_true rfl) rfl d_X12_doesSwap_15 (fun r hr => ct_X12_asksOf l G v0 v1 v2 h r hr) (fun r4 _ => ?_)
    refine xa_step (xa_aload_n d_X12_doesSwap_18 rfl) ?_
    refine xa_step (xa_iconst d_X12_doesSwap_19 xq_i_0) ?_
    refine xa_step (xa_iload_n d_X12_doesSwap_20 rfl) ?_
    refine xa_callVL (as := [xI 0, xI v1]) (st := []) (M' := mX12_codesTell) (d' := 4) rfl xw_1944 xw_1946 xw_127 xw_1947 xw_177 xh_X12_codesTell rfl ⟨Nat.le_of_ble_eq_true rfl, Nat.le_of_ble_eq_true rfl⟩ (Nat.le_of_ble_eq_true rfl) rfl d_X12_doesSwap_21 (fun r hr => ct_X12_codesTell l G v0 0 v1 r4 r hr) (fun r5 _ => ?_)
    refine xa_step (xa_lconst d_X12_doesSwap_24 rfl) ?_
    refine xa_step (xa_lcmp d_X12_doesSwap_25) ?_
    refine xa_if (xa_ifne d_X12_doesSwap_26) (fun q6 => ?_) (fun q6 => ?_)
    · refine xa_step (xa_iconst d_X12_doesSwap_29 xq_i_1) ?_
      refine xa_step (xa_goto d_X12_doesSwap_30) ?_
      exact xa_zret d_X12_doesSwap_34 rfl (Or.inr rfl) rfl
    · refine xa_step (xa_iconst d_X12_doesSwap_33 xq_i_0) ?_
      exact xa_zret d_X12_doesSwap_34 rfl (Or.inl rfl) rfl
theorem ct_X12_doesSwap (l : Launch) (G : xa_C) (v0 v1 v2 : Int) (h : xa_H) (r : Int × xa_H) (hr : f_X12_doesSwap v0 v1 v2 h = some r) : xa_CT l G 5 mX12_doesSwap yX12_doesSwap [xR v0, xI v1, xI v2] h (some (xI r.1), r.2) :=
  xa_met (by decide +kernel) rfl (fun q => by first | rfl | cases q) (Nat.le_of_ble_eq_true rfl) rfl (g_X12_doesSwap l G v0 v1 v2 h) (by rw [hr]; rfl)
abbrev mX12_whyNot : xa_M := (cX12_whyNot, 2, (some (.int)), RX12, false)
theorem d_X12_whyNot_0 : decode mX12_whyNot.1 0 = .ok (.aload_n 0, 1) ∧ 0 + 1 = 1 := ⟨by decide +kernel, rfl⟩
theorem d_X12_whyNot_1 : decode mX12_whyNot.1 1 = .ok (.iconst (-1), 1) ∧ 1 + 1 = 2 := ⟨by decide +kernel, rfl⟩
theorem d_X12_whyNot_2 : decode mX12_whyNot.1 2 = .ok (.putfield 461, 3) ∧ 2 + 3 = 5 := ⟨by decide +kernel, rfl⟩
theorem d_X12_whyNot_5 : decode mX12_whyNot.1 5 = .ok (.iconst 0, 1) ∧ 5 + 1 = 6 := ⟨by decide +kernel, rfl⟩
theorem d_X12_whyNot_6 : decode mX12_whyNot.1 6 = .ok (.istore_n 1, 1) ∧ 6 + 1 = 7 := ⟨by decide +kernel, rfl⟩
theorem d_X12_whyNot_7 : decode mX12_whyNot.1 7 = .ok (.iload_n 1, 1) ∧ 7 + 1 = 8 := ⟨by decide +kernel, rfl⟩
theorem d_X12_whyNot_8 : decode mX12_whyNot.1 8 = .ok (.aload_n 0, 1) ∧ 8 + 1 = 9 := ⟨by decide +kernel, rfl⟩
theorem d_X12_whyNot_9 : decode mX12_whyNot.1 9 = .ok (.getfield 451, 3) ∧ 9 + 3 = 12 := ⟨by decide +kernel, rfl⟩
theorem d_X12_whyNot_12 : decode mX12_whyNot.1 12 = .ok (.if_icmp .ge 47, 3) ∧ 12 + 3 = 15 ∧ ((12 : Nat) : Int) + 47 = ((59 : Nat) : Int) := ⟨by decide +kernel, rfl, rfl⟩
theorem d_X12_whyNot_15 : decode mX12_whyNot.1 15 = .ok (.aload_n 0, 1) ∧ 15 + 1 = 16 := ⟨by decide +kernel, rfl⟩
theorem d_X12_whyNot_16 : decode mX12_whyNot.1 16 = .ok (.aload_n 0, 1) ∧ 16 + 1 = 17 := ⟨by decide +kernel, rfl⟩
theorem d_X12_whyNot_17 : decode mX12_whyNot.1 17 = .ok (.getfield 133, 3) ∧ 17 + 3 = 20 := ⟨by decide +kernel, rfl⟩
theorem d_X12_whyNot_20 : decode mX12_whyNot.1 20 = .ok (.iload_n 1, 1) ∧ 20 + 1 = 21 := ⟨by decide +kernel, rfl⟩
theorem d_X12_whyNot_21 : decode mX12_whyNot.1 21 = .ok (.iaload, 1) ∧ 21 + 1 = 22 := ⟨by decide +kernel, rfl⟩
theorem d_X12_whyNot_22 : decode mX12_whyNot.1 22 = .ok (.aload_n 0, 1) ∧ 22 + 1 = 23 := ⟨by decide +kernel, rfl⟩
theorem d_X12_whyNot_23 : decode mX12_whyNot.1 23 = .ok (.getfield 133, 3) ∧ 23 + 3 = 26 := ⟨by decide +kernel, rfl⟩
theorem d_X12_whyNot_26 : decode mX12_whyNot.1 26 = .ok (.iload_n 1, 1) ∧ 26 + 1 = 27 := ⟨by decide +kernel, rfl⟩
theorem d_X12_whyNot_27 : decode mX12_whyNot.1 27 = .ok (.iconst 1, 1) ∧ 27 + 1 = 28 := ⟨by decide +kernel, rfl⟩
theorem d_X12_whyNot_28 : decode mX12_whyNot.1 28 = .ok (.iadd, 1) ∧ 28 + 1 = 29 := ⟨by decide +kernel, rfl⟩
theorem d_X12_whyNot_29 : decode mX12_whyNot.1 29 = .ok (.aload_n 0, 1) ∧ 29 + 1 = 30 := ⟨by decide +kernel, rfl⟩
theorem d_X12_whyNot_30 : decode mX12_whyNot.1 30 = .ok (.getfield 451, 3) ∧ 30 + 3 = 33 := ⟨by decide +kernel, rfl⟩
theorem d_X12_whyNot_33 : decode mX12_whyNot.1 33 = .ok (.irem, 1) ∧ 33 + 1 = 34 := ⟨by decide +kernel, rfl⟩
theorem d_X12_whyNot_34 : decode mX12_whyNot.1 34 = .ok (.iaload, 1) ∧ 34 + 1 = 35 := ⟨by decide +kernel, rfl⟩
theorem d_X12_whyNot_35 : decode mX12_whyNot.1 35 = .ok (.invokevirtual 464, 3) ∧ 35 + 3 = 38 := ⟨by decide +kernel, rfl⟩
theorem d_X12_whyNot_38 : decode mX12_whyNot.1 38 = .ok (.ifCond .eq 15, 3) ∧ 38 + 3 = 41 ∧ ((38 : Nat) : Int) + 15 = ((53 : Nat) : Int) := ⟨by decide +kernel, rfl, rfl⟩
theorem d_X12_whyNot_53 : decode mX12_whyNot.1 53 = .ok (.iinc 1 1, 3) ∧ 53 + 3 = 56 := ⟨by decide +kernel, rfl⟩
theorem d_X12_whyNot_56 : decode mX12_whyNot.1 56 = .ok (.goto (-49), 3) ∧ ((56 : Nat) : Int) + (-49) = ((7 : Nat) : Int) := ⟨by decide +kernel, rfl⟩
theorem d_X12_whyNot_41 : decode mX12_whyNot.1 41 = .ok (.aload_n 0, 1) ∧ 41 + 1 = 42 := ⟨by decide +kernel, rfl⟩
theorem d_X12_whyNot_42 : decode mX12_whyNot.1 42 = .ok (.aload_n 0, 1) ∧ 42 + 1 = 43 := ⟨by decide +kernel, rfl⟩
theorem d_X12_whyNot_43 : decode mX12_whyNot.1 43 = .ok (.getfield 133, 3) ∧ 43 + 3 = 46 := ⟨by decide +kernel, rfl⟩
theorem d_X12_whyNot_46 : decode mX12_whyNot.1 46 = .ok (.iload_n 1, 1) ∧ 46 + 1 = 47 := ⟨by decide +kernel, rfl⟩
theorem d_X12_whyNot_47 : decode mX12_whyNot.1 47 = .ok (.iaload, 1) ∧ 47 + 1 = 48 := ⟨by decide +kernel, rfl⟩
theorem d_X12_whyNot_48 : decode mX12_whyNot.1 48 = .ok (.putfield 461, 3) ∧ 48 + 3 = 51 := ⟨by decide +kernel, rfl⟩
theorem d_X12_whyNot_51 : decode mX12_whyNot.1 51 = .ok (.iconst 1, 1) ∧ 51 + 1 = 52 := ⟨by decide +kernel, rfl⟩
theorem d_X12_whyNot_52 : decode mX12_whyNot.1 52 = .ok (.ireturn, 1) := by decide +kernel
set_option maxRecDepth 100000 in
set_option maxHeartbeats 4000000 in
theorem g_X12_whyNot_L7 (l : Launch) (G : xa_C) (c0 : Int) (K : (Int × xa_H) ⊕ ((Int × xa_H) ⊕ (xa_H)) → Option xa_O) (hb : ∀ (v1 : Int) (h : xa_H), xa_G l G 6 mX12_whyNot (some (Sum.inl ((v1, h)))) K 7 [some (xR c0), some (xI v1)] [] h) (hr : ∀ r : Int × xa_H, K (Sum.inr (Sum.inl r)) = some (some (xI r.1), r.2)) (hx : ∀ (h : xa_H), xa_G l G 6 mX12_whyNot (some (Sum.inr (Sum.inr h))) K 59 [some (xR c0), none] [] h) : ∀ (v1 : Int) (h : xa_H), xa_G l G 6 mX12_whyNot (f_X12_whyNot_L7 c0 v1 h) K 7 [some (xR c0), some (xI v1)] [] h := by
  intro v1 h
  unfold f_X12_whyNot_L7
  refine xa_step (xa_iload_n d_X12_whyNot_7 rfl) ?_
  refine xa_step (xa_aload_n d_X12_whyNot_8 rfl) ?_
  refine xa_getf xI xc_12 (by decide) (fun _ => rfl) xw_1360 rfl d_X12_whyNot_9 (fun x2 _ => ?_)
  refine xa_if (xa_icmpge d_X12_whyNot_12) (fun q3 => ?_) (fun q3 => ?_)
  · refine xa_step (xa_aload_n d_X12_whyNot_15 rfl) ?_
    refine xa_step (xa_aload_n d_X12_whyNot_16 rfl) ?_
    refine xa_getf xR xc_12 (by decide) (fun _ => rfl) xw_1359 rfl d_X12_whyNot_17 (fun x4 _ => ?_)
    refine xa_step (xa_iload_n d_X12_whyNot_20 rfl) ?_
    refine xa_iaload d_X12_whyNot_21 (fun x5 _ => ?_)
    refine xa_step (xa_aload_n d_X12_whyNot_22 rfl) ?_
    refine xa_getf xR xc_12 (by decide) (fun _ => rfl) xw_1359 rfl d_X12_whyNot_23 (fun x6 _ => ?_)
    refine xa_step (xa_iload_n d_X12_whyNot_26 rfl) ?_
    refine xa_step (xa_iconst d_X12_whyNot_27 xq_i_1) ?_
    refine xa_step (xa_iadd d_X12_whyNot_28) ?_
    refine xa_step (xa_aload_n d_X12_whyNot_29 rfl) ?_
    refine xa_getf xI xc_12 (by decide) (fun _ => rfl) xw_1360 rfl d_X12_whyNot_30 (fun x7 _ => ?_)
    refine xa_nz (fun q8 => ?_)
    refine xa_step (xa_irem d_X12_whyNot_33 q8) ?_
    refine xa_iaload d_X12_whyNot_34 (fun x9 _ => ?_)
    refine xa_callVi (as := [xI x5, xI x9]) (st := []) (M' := mX12_areFeud) (d' := 2) rfl xw_1928 xw_1930 xw_123 xw_1931 xw_177 xh_X12_areFeud rfl ⟨Nat.le_of_ble_eq_true rfl, Nat.le_of_ble_eq_true rfl⟩ (Nat.le_of_ble_eq_true rfl) rfl d_X12_whyNot_35 (fun r hr => ct_X12_areFeud l G c0 x5 x9 h r hr) (fun r10 _ => ?_)
    refine xa_if (xa_ifeq d_X12_whyNot_38) (fun q11 => ?_) (fun q11 => ?_)
    · refine xa_step (xa_iinc (ls' := [some (xR c0), some (xI (w32 (v1 + 1)))]) d_X12_whyNot_53 xq_i_1 rfl (by decide) rfl) ?_
      refine xa_step (xa_goto d_X12_whyNot_56) ?_
      exact xa_weak (ls' := [some (xR c0), some (xI (w32 (v1 + 1)))]) ⟨rfl, rfl, trivial⟩ (hb (w32 (v1 + 1)) h)
    · refine xa_step (xa_aload_n d_X12_whyNot_41 rfl) ?_
      refine xa_step (xa_aload_n d_X12_whyNot_42 rfl) ?_
      refine xa_getf xR xc_12 (by decide) (fun _ => rfl) xw_1359 rfl d_X12_whyNot_43 (fun x12 _ => ?_)
      refine xa_step (xa_iload_n d_X12_whyNot_46 rfl) ?_
      refine xa_iaload d_X12_whyNot_47 (fun x13 _ => ?_)
      refine xa_putf2 (tg := xI) xc_12 (by decide) (fun _ => rfl) rfl (fun c hc => xa_fitI c hc) xw_1361 rfl d_X12_whyNot_48 (fun h14 _ => ?_)
      refine xa_step (xa_iconst d_X12_whyNot_51 xq_i_1) ?_
      exact xa_iret d_X12_whyNot_52 rfl (hr _)
  · exact xa_weak (ls' := [some (xR c0), none]) ⟨rfl, trivial⟩ (hx h)
theorem d_X12_whyNot_59 : decode mX12_whyNot.1 59 = .ok (.iconst 0, 1) ∧ 59 + 1 = 60 := ⟨by decide +kernel, rfl⟩
theorem d_X12_whyNot_60 : decode mX12_whyNot.1 60 = .ok (.istore_n 1, 1) ∧ 60 + 1 = 61 := ⟨by decide +kernel, rfl⟩
theorem d_X12_whyNot_61 : decode mX12_whyNot.1 61 = .ok (.iload_n 1, 1) ∧ 61 + 1 = 62 := ⟨by decide +kernel, rfl⟩
theorem d_X12_whyNot_62 : decode mX12_whyNot.1 62 = .ok (.aload_n 0, 1) ∧ 62 + 1 = 63 := ⟨by decide +kernel, rfl⟩
theorem d_X12_whyNot_63 : decode mX12_whyNot.1 63 = .ok (.getfield 451, 3) ∧ 63 + 3 = 66 := ⟨by decide +kernel, rfl⟩
theorem d_X12_whyNot_66 : decode mX12_whyNot.1 66 = .ok (.if_icmp .ge 39, 3) ∧ 66 + 3 = 69 ∧ ((66 : Nat) : Int) + 39 = ((105 : Nat) : Int) := ⟨by decide +kernel, rfl, rfl⟩
theorem d_X12_whyNot_69 : decode mX12_whyNot.1 69 = .ok (.aload_n 0, 1) ∧ 69 + 1 = 70 := ⟨by decide +kernel, rfl⟩
theorem d_X12_whyNot_70 : decode mX12_whyNot.1 70 = .ok (.aload_n 0, 1) ∧ 70 + 1 = 71 := ⟨by decide +kernel, rfl⟩
theorem d_X12_whyNot_71 : decode mX12_whyNot.1 71 = .ok (.getfield 133, 3) ∧ 71 + 3 = 74 := ⟨by decide +kernel, rfl⟩
theorem d_X12_whyNot_74 : decode mX12_whyNot.1 74 = .ok (.iload_n 1, 1) ∧ 74 + 1 = 75 := ⟨by decide +kernel, rfl⟩
theorem d_X12_whyNot_75 : decode mX12_whyNot.1 75 = .ok (.iaload, 1) ∧ 75 + 1 = 76 := ⟨by decide +kernel, rfl⟩
theorem d_X12_whyNot_76 : decode mX12_whyNot.1 76 = .ok (.aload_n 0, 1) ∧ 76 + 1 = 77 := ⟨by decide +kernel, rfl⟩
theorem d_X12_whyNot_77 : decode mX12_whyNot.1 77 = .ok (.iload_n 1, 1) ∧ 77 + 1 = 78 := ⟨by decide +kernel, rfl⟩
theorem d_X12_whyNot_78 : decode mX12_whyNot.1 78 = .ok (.invokevirtual 468, 3) ∧ 78 + 3 = 81 := ⟨by decide +kernel, rfl⟩
theorem d_X12_whyNot_81 : decode mX12_whyNot.1 81 = .ok (.invokevirtual 471, 3) ∧ 81 + 3 = 84 := ⟨by decide +kernel, rfl⟩
theorem d_X12_whyNot_84 : decode mX12_whyNot.1 84 = .ok (.ifCond .ne 15, 3) ∧ 84 + 3 = 87 ∧ ((84 : Nat) : Int) + 15 = ((99 : Nat) : Int) := ⟨by decide +kernel, rfl, rfl⟩
theorem d_X12_whyNot_87 : decode mX12_whyNot.1 87 = .ok (.aload_n 0, 1) ∧ 87 + 1 = 88 := ⟨by decide +kernel, rfl⟩
theorem d_X12_whyNot_88 : decode mX12_whyNot.1 88 = .ok (.aload_n 0, 1) ∧ 88 + 1 = 89 := ⟨by decide +kernel, rfl⟩
theorem d_X12_whyNot_89 : decode mX12_whyNot.1 89 = .ok (.getfield 133, 3) ∧ 89 + 3 = 92 := ⟨by decide +kernel, rfl⟩
theorem d_X12_whyNot_92 : decode mX12_whyNot.1 92 = .ok (.iload_n 1, 1) ∧ 92 + 1 = 93 := ⟨by decide +kernel, rfl⟩
theorem d_X12_whyNot_93 : decode mX12_whyNot.1 93 = .ok (.iaload, 1) ∧ 93 + 1 = 94 := ⟨by decide +kernel, rfl⟩
theorem d_X12_whyNot_94 : decode mX12_whyNot.1 94 = .ok (.putfield 461, 3) ∧ 94 + 3 = 97 := ⟨by decide +kernel, rfl⟩
theorem d_X12_whyNot_97 : decode mX12_whyNot.1 97 = .ok (.iconst 2, 1) ∧ 97 + 1 = 98 := ⟨by decide +kernel, rfl⟩
theorem d_X12_whyNot_98 : decode mX12_whyNot.1 98 = .ok (.ireturn, 1) := by decide +kernel
theorem d_X12_whyNot_99 : decode mX12_whyNot.1 99 = .ok (.iinc 1 1, 3) ∧ 99 + 3 = 102 := ⟨by decide +kernel, rfl⟩
theorem d_X12_whyNot_102 : decode mX12_whyNot.1 102 = .ok (.goto (-41), 3) ∧ ((102 : Nat) : Int) + (-41) = ((61 : Nat) : Int) := ⟨by decide +kernel, rfl⟩
set_option maxRecDepth 100000 in
set_option maxHeartbeats 4000000 in
theorem g_X12_whyNot_L61 (l : Launch) (G : xa_C) (c0 : Int) (K : (Int × xa_H) ⊕ ((Int × xa_H) ⊕ (xa_H)) → Option xa_O) (hb : ∀ (v1 : Int) (h : xa_H), xa_G l G 6 mX12_whyNot (some (Sum.inl ((v1, h)))) K 61 [some (xR c0), some (xI v1)] [] h) (hr : ∀ r : Int × xa_H, K (Sum.inr (Sum.inl r)) = some (some (xI r.1), r.2)) (hx : ∀ (h : xa_H), xa_G l G 6 mX12_whyNot (some (Sum.inr (Sum.inr h))) K 105 [some (xR c0), none] [] h) : ∀ (v1 : Int) (h : xa_H), xa_G l G 6 mX12_whyNot (f_X12_whyNot_L61 c0 v1 h) K 61 [some (xR c0), some (xI v1)] [] h := by
  intro v1 h
  unfold f_X12_whyNot_L61
  refine xa_step (xa_iload_n d_X12_whyNot_61 rfl) ?_
  refine xa_step (xa_aload_n d_X12_whyNot_62 rfl) ?_
  refine xa_getf xI xc_12 (by decide) (fun _ => rfl) xw_1360 rfl d_X12_whyNot_63 (fun x17 _ => ?_)
  refine xa_if (xa_icmpge d_X12_whyNot_66) (fun q18 => ?_) (fun q18 => ?_)
  · refine xa_step (xa_aload_n d_X12_whyNot_69 rfl) ?_
    refine xa_step (xa_aload_n d_X12_whyNot_70 rfl) ?_
    refine xa_getf xR xc_12 (by decide) (fun _ => rfl) xw_1359 rfl d_X12_whyNot_71 (fun x19 _ => ?_)
    refine xa_step (xa_iload_n d_X12_whyNot_74 rfl) ?_
    refine xa_iaload d_X12_whyNot_75 (fun x20 _ => ?_)
    refine xa_step (xa_aload_n d_X12_whyNot_76 rfl) ?_
    refine xa_step (xa_iload_n d_X12_whyNot_77 rfl) ?_
    refine xa_callVi (as := [xI v1]) (st := [xI x20, xR c0]) (M' := mX12_giverOf) (d' := 2) rfl xw_1932 xw_1934 xw_124 xw_1935 xw_177 xh_X12_giverOf rfl ⟨Nat.le_of_ble_eq_true rfl, Nat.le_of_ble_eq_true rfl⟩ (Nat.le_of_ble_eq_true rfl) rfl d_X12_whyNot_78 (fun r hr => ct_X12_giverOf l G c0 v1 h r hr) (fun r21 _ => ?_)
    refine xa_callVI (as := [xI x20, xI r21]) (st := []) (M' := mX12_doesSwap) (d' := 5) rfl xw_1936 xw_1938 xw_125 xw_1939 xw_177 xh_X12_doesSwap rfl ⟨Nat.le_of_ble_eq_true rfl, Nat.le_of_ble_eq_true rfl⟩ (Nat.le_of_ble_eq_true rfl) rfl d_X12_whyNot_81 (fun r hr => ct_X12_doesSwap l G c0 x20 r21 h r hr) (fun r22 _ => ?_)
    refine xa_if (xa_ifne d_X12_whyNot_84) (fun q23 => ?_) (fun q23 => ?_)
    · refine xa_step (xa_aload_n d_X12_whyNot_87 rfl) ?_
      refine xa_step (xa_aload_n d_X12_whyNot_88 rfl) ?_
      refine xa_getf xR xc_12 (by decide) (fun _ => rfl) xw_1359 rfl d_X12_whyNot_89 (fun x24 _ => ?_)
      refine xa_step (xa_iload_n d_X12_whyNot_92 rfl) ?_
      refine xa_iaload d_X12_whyNot_93 (fun x25 _ => ?_)
      refine xa_putf2 (tg := xI) xc_12 (by decide) (fun _ => rfl) rfl (fun c hc => xa_fitI c hc) xw_1361 rfl d_X12_whyNot_94 (fun h26 _ => ?_)
      refine xa_step (xa_iconst d_X12_whyNot_97 xq_i_2) ?_
      exact xa_iret d_X12_whyNot_98 rfl (hr _)
    · refine xa_step (xa_iinc (ls' := [some (xR c0), some (xI (w32 (v1 + 1)))]) d_X12_whyNot_99 xq_i_1 rfl (by decide) rfl) ?_
      refine xa_step (xa_goto d_X12_whyNot_102) ?_
      exact xa_weak (ls' := [some (xR c0), some (xI (w32 (v1 + 1)))]) ⟨rfl, rfl, trivial⟩ (hb (w32 (v1 + 1)) r22.2)
  · exact xa_weak (ls' := [some (xR c0), none]) ⟨rfl, trivial⟩ (hx h)
theorem d_X12_whyNot_105 : decode mX12_whyNot.1 105 = .ok (.iconst 0, 1) ∧ 105 + 1 = 106 := ⟨by decide +kernel, rfl⟩
theorem d_X12_whyNot_106 : decode mX12_whyNot.1 106 = .ok (.istore_n 1, 1) ∧ 106 + 1 = 107 := ⟨by decide +kernel, rfl⟩
theorem d_X12_whyNot_107 : decode mX12_whyNot.1 107 = .ok (.iload_n 1, 1) ∧ 107 + 1 = 108 := ⟨by decide +kernel, rfl⟩
theorem d_X12_whyNot_108 : decode mX12_whyNot.1 108 = .ok (.aload_n 0, 1) ∧ 108 + 1 = 109 := ⟨by decide +kernel, rfl⟩
theorem d_X12_whyNot_109 : decode mX12_whyNot.1 109 = .ok (.getfield 451, 3) ∧ 109 + 3 = 112 := ⟨by decide +kernel, rfl⟩
theorem d_X12_whyNot_112 : decode mX12_whyNot.1 112 = .ok (.if_icmp .ge 49, 3) ∧ 112 + 3 = 115 ∧ ((112 : Nat) : Int) + 49 = ((161 : Nat) : Int) := ⟨by decide +kernel, rfl, rfl⟩
theorem d_X12_whyNot_115 : decode mX12_whyNot.1 115 = .ok (.aload_n 0, 1) ∧ 115 + 1 = 116 := ⟨by decide +kernel, rfl⟩
theorem d_X12_whyNot_116 : decode mX12_whyNot.1 116 = .ok (.aload_n 0, 1) ∧ 116 + 1 = 117 := ⟨by decide +kernel, rfl⟩
theorem d_X12_whyNot_117 : decode mX12_whyNot.1 117 = .ok (.getfield 133, 3) ∧ 117 + 3 = 120 := ⟨by decide +kernel, rfl⟩
theorem d_X12_whyNot_120 : decode mX12_whyNot.1 120 = .ok (.iload_n 1, 1) ∧ 120 + 1 = 121 := ⟨by decide +kernel, rfl⟩
theorem d_X12_whyNot_121 : decode mX12_whyNot.1 121 = .ok (.iaload, 1) ∧ 121 + 1 = 122 := ⟨by decide +kernel, rfl⟩
theorem d_X12_whyNot_122 : decode mX12_whyNot.1 122 = .ok (.aload_n 0, 1) ∧ 122 + 1 = 123 := ⟨by decide +kernel, rfl⟩
theorem d_X12_whyNot_123 : decode mX12_whyNot.1 123 = .ok (.iload_n 1, 1) ∧ 123 + 1 = 124 := ⟨by decide +kernel, rfl⟩
theorem d_X12_whyNot_124 : decode mX12_whyNot.1 124 = .ok (.invokevirtual 468, 3) ∧ 124 + 3 = 127 := ⟨by decide +kernel, rfl⟩
theorem d_X12_whyNot_127 : decode mX12_whyNot.1 127 = .ok (.invokevirtual 474, 3) ∧ 127 + 3 = 130 := ⟨by decide +kernel, rfl⟩
theorem d_X12_whyNot_130 : decode mX12_whyNot.1 130 = .ok (.aload_n 0, 1) ∧ 130 + 1 = 131 := ⟨by decide +kernel, rfl⟩
theorem d_X12_whyNot_131 : decode mX12_whyNot.1 131 = .ok (.aload_n 0, 1) ∧ 131 + 1 = 132 := ⟨by decide +kernel, rfl⟩
theorem d_X12_whyNot_132 : decode mX12_whyNot.1 132 = .ok (.getfield 133, 3) ∧ 132 + 3 = 135 := ⟨by decide +kernel, rfl⟩
theorem d_X12_whyNot_135 : decode mX12_whyNot.1 135 = .ok (.iload_n 1, 1) ∧ 135 + 1 = 136 := ⟨by decide +kernel, rfl⟩
theorem d_X12_whyNot_136 : decode mX12_whyNot.1 136 = .ok (.iaload, 1) ∧ 136 + 1 = 137 := ⟨by decide +kernel, rfl⟩
theorem d_X12_whyNot_137 : decode mX12_whyNot.1 137 = .ok (.invokevirtual 477, 3) ∧ 137 + 3 = 140 := ⟨by decide +kernel, rfl⟩
theorem d_X12_whyNot_140 : decode mX12_whyNot.1 140 = .ok (.if_icmp .le 15, 3) ∧ 140 + 3 = 143 ∧ ((140 : Nat) : Int) + 15 = ((155 : Nat) : Int) := ⟨by decide +kernel, rfl, rfl⟩
theorem d_X12_whyNot_143 : decode mX12_whyNot.1 143 = .ok (.aload_n 0, 1) ∧ 143 + 1 = 144 := ⟨by decide +kernel, rfl⟩
theorem d_X12_whyNot_144 : decode mX12_whyNot.1 144 = .ok (.aload_n 0, 1) ∧ 144 + 1 = 145 := ⟨by decide +kernel, rfl⟩
theorem d_X12_whyNot_145 : decode mX12_whyNot.1 145 = .ok (.getfield 133, 3) ∧ 145 + 3 = 148 := ⟨by decide +kernel, rfl⟩
theorem d_X12_whyNot_148 : decode mX12_whyNot.1 148 = .ok (.iload_n 1, 1) ∧ 148 + 1 = 149 := ⟨by decide +kernel, rfl⟩
theorem d_X12_whyNot_149 : decode mX12_whyNot.1 149 = .ok (.iaload, 1) ∧ 149 + 1 = 150 := ⟨by decide +kernel, rfl⟩
theorem d_X12_whyNot_150 : decode mX12_whyNot.1 150 = .ok (.putfield 461, 3) ∧ 150 + 3 = 153 := ⟨by decide +kernel, rfl⟩
theorem d_X12_whyNot_153 : decode mX12_whyNot.1 153 = .ok (.iconst 3, 1) ∧ 153 + 1 = 154 := ⟨by decide +kernel, rfl⟩
theorem d_X12_whyNot_154 : decode mX12_whyNot.1 154 = .ok (.ireturn, 1) := by decide +kernel
theorem d_X12_whyNot_155 : decode mX12_whyNot.1 155 = .ok (.iinc 1 1, 3) ∧ 155 + 3 = 158 := ⟨by decide +kernel, rfl⟩
theorem d_X12_whyNot_158 : decode mX12_whyNot.1 158 = .ok (.goto (-51), 3) ∧ ((158 : Nat) : Int) + (-51) = ((107 : Nat) : Int) := ⟨by decide +kernel, rfl⟩
set_option maxRecDepth 100000 in
set_option maxHeartbeats 4000000 in
theorem g_X12_whyNot_L107 (l : Launch) (G : xa_C) (c0 : Int) (K : (Int × xa_H) ⊕ ((Int × xa_H) ⊕ (xa_H)) → Option xa_O) (hb : ∀ (v1 : Int) (h : xa_H), xa_G l G 6 mX12_whyNot (some (Sum.inl ((v1, h)))) K 107 [some (xR c0), some (xI v1)] [] h) (hr : ∀ r : Int × xa_H, K (Sum.inr (Sum.inl r)) = some (some (xI r.1), r.2)) (hx : ∀ (h : xa_H), xa_G l G 6 mX12_whyNot (some (Sum.inr (Sum.inr h))) K 161 [none, none] [] h) : ∀ (v1 : Int) (h : xa_H), xa_G l G 6 mX12_whyNot (f_X12_whyNot_L107 c0 v1 h) K 107 [some (xR c0), some (xI v1)] [] h := by
  intro v1 h
  unfold f_X12_whyNot_L107
  refine xa_step (xa_iload_n d_X12_whyNot_107 rfl) ?_
  refine xa_step (xa_aload_n d_X12_whyNot_108 rfl) ?_
  refine xa_getf xI xc_12 (by decide) (fun _ => rfl) xw_1360 rfl d_X12_whyNot_109 (fun x29 _ => ?_)
  refine xa_if (xa_icmpge d_X12_whyNot_112) (fun q30 => ?_) (fun q30 => ?_)
  · refine xa_step (xa_aload_n d_X12_whyNot_115 rfl) ?_
    refine xa_step (xa_aload_n d_X12_whyNot_116 rfl) ?_
    refine xa_getf xR xc_12 (by decide) (fun _ => rfl) xw_1359 rfl d_X12_whyNot_117 (fun x31 _ => ?_)
    refine xa_step (xa_iload_n d_X12_whyNot_120 rfl) ?_
    refine xa_iaload d_X12_whyNot_121 (fun x32 _ => ?_)
    refine xa_step (xa_aload_n d_X12_whyNot_122 rfl) ?_
    refine xa_step (xa_iload_n d_X12_whyNot_123 rfl) ?_
    refine xa_callVi (as := [xI v1]) (st := [xI x32, xR c0]) (M' := mX12_giverOf) (d' := 2) rfl xw_1932 xw_1934 xw_124 xw_1935 xw_177 xh_X12_giverOf rfl ⟨Nat.le_of_ble_eq_true rfl, Nat.le_of_ble_eq_true rfl⟩ (Nat.le_of_ble_eq_true rfl) rfl d_X12_whyNot_124 (fun r hr => ct_X12_giverOf l G c0 v1 h r hr) (fun r33 _ => ?_)
    refine xa_callVI (as := [xI x32, xI r33]) (st := []) (M' := mX12_paysOf) (d' := 5) rfl xw_1968 xw_1970 xw_131 xw_1971 xw_177 xh_X12_paysOf rfl ⟨Nat.le_of_ble_eq_true rfl, Nat.le_of_ble_eq_true rfl⟩ (Nat.le_of_ble_eq_true rfl) rfl d_X12_whyNot_127 (fun r hr => ct_X12_paysOf l G c0 x32 r33 h r hr) (fun r34 _ => ?_)
    refine xa_step (xa_aload_n d_X12_whyNot_130 rfl) ?_
    refine xa_step (xa_aload_n d_X12_whyNot_131 rfl) ?_
    refine xa_getf xR xc_12 (by decide) (fun _ => rfl) xw_1359 rfl d_X12_whyNot_132 (fun x35 _ => ?_)
    refine xa_step (xa_iload_n d_X12_whyNot_135 rfl) ?_
    refine xa_iaload d_X12_whyNot_136 (fun x36 _ => ?_)
    refine xa_callVi (as := [xI x36]) (st := [xI r34.1]) (M' := mX12_purseOf) (d' := 2) rfl xw_1852 xw_1854 xw_112 xw_1855 xw_177 xh_X12_purseOf rfl ⟨Nat.le_of_ble_eq_true rfl, Nat.le_of_ble_eq_true rfl⟩ (Nat.le_of_ble_eq_true rfl) rfl d_X12_whyNot_137 (fun r hr => ct_X12_purseOf l G c0 x36 r34.2 r hr) (fun r37 _ => ?_)
    refine xa_if (xa_icmple d_X12_whyNot_140) (fun q38 => ?_) (fun q38 => ?_)
    · refine xa_step (xa_aload_n d_X12_whyNot_143 rfl) ?_
      refine xa_step (xa_aload_n d_X12_whyNot_144 rfl) ?_
      refine xa_getf xR xc_12 (by decide) (fun _ => rfl) xw_1359 rfl d_X12_whyNot_145 (fun x39 _ => ?_)
      refine xa_step (xa_iload_n d_X12_whyNot_148 rfl) ?_
      refine xa_iaload d_X12_whyNot_149 (fun x40 _ => ?_)
      refine xa_putf2 (tg := xI) xc_12 (by decide) (fun _ => rfl) rfl (fun c hc => xa_fitI c hc) xw_1361 rfl d_X12_whyNot_150 (fun h41 _ => ?_)
      refine xa_step (xa_iconst d_X12_whyNot_153 xq_i_3) ?_
      exact xa_iret d_X12_whyNot_154 rfl (hr _)
    · refine xa_step (xa_iinc (ls' := [some (xR c0), some (xI (w32 (v1 + 1)))]) d_X12_whyNot_155 xq_i_1 rfl (by decide) rfl) ?_
      refine xa_step (xa_goto d_X12_whyNot_158) ?_
      exact xa_weak (ls' := [some (xR c0), some (xI (w32 (v1 + 1)))]) ⟨rfl, rfl, trivial⟩ (hb (w32 (v1 + 1)) r34.2)
  · exact xa_weak (ls' := [none, none]) trivial (hx h)
theorem d_X12_whyNot_161 : decode mX12_whyNot.1 161 = .ok (.iconst 0, 1) ∧ 161 + 1 = 162 := ⟨by decide +kernel, rfl⟩
theorem d_X12_whyNot_162 : decode mX12_whyNot.1 162 = .ok (.ireturn, 1) := by decide +kernel
set_option maxRecDepth 100000 in
set_option maxHeartbeats 4000000 in
theorem g_X12_whyNot (l : Launch) (G : xa_C) (v0 : Int) (h : xa_H) : xa_G l G 6 mX12_whyNot (f_X12_whyNot v0 h) (fun r => some (some (xI r.1), r.2) : (Int × xa_H) → Option xa_O) 0 [some (xR v0), none] [] h := by
  unfold f_X12_whyNot
  refine xa_step (xa_aload_n d_X12_whyNot_0 rfl) ?_
  refine xa_step (xa_iconst d_X12_whyNot_1 xq_i_m1) ?_
  refine xa_putf2 (tg := xI) xc_12 (by decide) (fun _ => rfl) rfl (fun c hc => xa_fitI c hc) xw_1361 rfl d_X12_whyNot_2 (fun h1 _ => ?_)
  refine xa_step (xa_iconst d_X12_whyNot_5 xq_i_0) ?_
  refine xa_step (xa_istore_n (ls' := [some (xR v0), some (xI 0)]) d_X12_whyNot_6 (by decide) rfl) ?_
  refine xa_weak (ls' := [some (xR v0), some (xI 0)]) ⟨rfl, rfl, trivial⟩ ?_
  refine xa_loop (f := fun s => f_X12_whyNot_L7 v0 s.1 s.2) (L := fun s => [some (xR v0), some (xI s.1)]) (P := fun s => s.2) (X := (fun e K => match e with | Sum.inl r => K (Sum.inr (Sum.inl r)) = some (some (xI r.1), r.2) | Sum.inr x => xa_G l G 6 mX12_whyNot (some (Sum.inr (Sum.inr x))) K 59 [some (xR v0), none] [] x)) (fun K hb hX s => g_X12_whyNot_L7 l G v0 K (fun w0 hh => hb ((w0, hh))) (fun r => hX (Sum.inl r)) (fun hh => hX (Sum.inr hh)) s.1 s.2) ?_ xFU ((0, h1))
  rintro (r | y16) K hK
  · exact hK.trans rfl
  · refine xa_eqE hK ?_
    show xa_G l G 6 mX12_whyNot _ _ 59 [some (xR v0), none] [] y16
    refine xa_step (xa_iconst d_X12_whyNot_59 xq_i_0) ?_
    refine xa_step (xa_istore_n (ls' := [some (xR v0), some (xI 0)]) d_X12_whyNot_60 (by decide) rfl) ?_
    refine xa_weak (ls' := [some (xR v0), some (xI 0)]) ⟨rfl, rfl, trivial⟩ ?_
    refine xa_loop (f := fun s => f_X12_whyNot_L61 v0 s.1 s.2) (L := fun s => [some (xR v0), some (xI s.1)]) (P := fun s => s.2) (X := (fun e K => match e with | Sum.inl r => K (Sum.inr (Sum.inl r)) = some (some (xI r.1), r.2) | Sum.inr x => xa_G l G 6 mX12_whyNot (some (Sum.inr (Sum.inr x))) K 105 [some (xR v0), none] [] x)) (fun K hb hX s => g_X12_whyNot_L61 l G v0 K (fun w0 hh => hb ((w0, hh))) (fun r => hX (Sum.inl r)) (fun hh => hX (Sum.inr hh)) s.1 s.2) ?_ xFU ((0, y16))
    rintro (r | y28) K hK
    · exact hK.trans rfl
    · refine xa_eqE hK ?_
      show xa_G l G 6 mX12_whyNot _ _ 105 [some (xR v0), none] [] y28
      refine xa_step (xa_iconst d_X12_whyNot_105 xq_i_0) ?_
      refine xa_step (xa_istore_n (ls' := [some (xR v0), some (xI 0)]) d_X12_whyNot_106 (by decide) rfl) ?_
      refine xa_weak (ls' := [some (xR v0), some (xI 0)]) ⟨rfl, rfl, trivial⟩ ?_
      refine xa_loop (f := fun s => f_X12_whyNot_L107 v0 s.1 s.2) (L := fun s => [some (xR v0), some (xI s.1)]) (P := fun s => s.2) (X := (fun e K => match e with | Sum.inl r => K (Sum.inr (Sum.inl r)) = some (some (xI r.1), r.2) | Sum.inr x => xa_G l G 6 mX12_whyNot (some (Sum.inr (Sum.inr x))) K 161 [none, none] [] x)) (fun K hb hX s => g_X12_whyNot_L107 l G v0 K (fun w0 hh => hb ((w0, hh))) (fun r => hX (Sum.inl r)) (fun hh => hX (Sum.inr hh)) s.1 s.2) ?_ xFU ((0, y28))
      rintro (r | y43) K hK
      · exact hK.trans rfl
      · refine xa_eqE hK ?_
        show xa_G l G 6 mX12_whyNot _ _ 161 [none, none] [] y43
        refine xa_step (xa_iconst d_X12_whyNot_161 xq_i_0) ?_
        exact xa_iret d_X12_whyNot_162 rfl rfl
theorem ct_X12_whyNot (l : Launch) (G : xa_C) (v0 : Int) (h : xa_H) (r : Int × xa_H) (hr : f_X12_whyNot v0 h = some r) : xa_CT l G 6 mX12_whyNot yX12_whyNot [xR v0] h (some (xI r.1), r.2) :=
  xa_met (by decide +kernel) rfl (fun q => by first | rfl | cases q) (Nat.le_of_ble_eq_true rfl) rfl (g_X12_whyNot l G v0 h) (by rw [hr]; rfl)
abbrev mX12_judge : xa_M := (cX12_judge, 2, (some (.int)), RX12, false)
theorem d_X12_judge_0 : decode mX12_judge.1 0 = .ok (.aload_n 0, 1) ∧ 0 + 1 = 1 := ⟨by decide +kernel, rfl⟩
theorem d_X12_judge_1 : decode mX12_judge.1 1 = .ok (.invokevirtual 499, 3) ∧ 1 + 3 = 4 := ⟨by decide +kernel, rfl⟩
theorem d_X12_judge_4 : decode mX12_judge.1 4 = .ok (.ifCond .ne 9, 3) ∧ 4 + 3 = 7 ∧ ((4 : Nat) : Int) + 9 = ((13 : Nat) : Int) := ⟨by decide +kernel, rfl, rfl⟩
theorem d_X12_judge_7 : decode mX12_judge.1 7 = .ok (.aload_n 0, 1) ∧ 7 + 1 = 8 := ⟨by decide +kernel, rfl⟩
theorem d_X12_judge_8 : decode mX12_judge.1 8 = .ok (.iconst 1, 1) ∧ 8 + 1 = 9 := ⟨by decide +kernel, rfl⟩
theorem d_X12_judge_9 : decode mX12_judge.1 9 = .ok (.invokevirtual 502, 3) ∧ 9 + 3 = 12 := ⟨by decide +kernel, rfl⟩
theorem d_X12_judge_12 : decode mX12_judge.1 12 = .ok (.ireturn, 1) := by decide +kernel
theorem d_X12_judge_13 : decode mX12_judge.1 13 = .ok (.aload_n 0, 1) ∧ 13 + 1 = 14 := ⟨by decide +kernel, rfl⟩
theorem d_X12_judge_14 : decode mX12_judge.1 14 = .ok (.invokevirtual 505, 3) ∧ 14 + 3 = 17 := ⟨by decide +kernel, rfl⟩
theorem d_X12_judge_17 : decode mX12_judge.1 17 = .ok (.istore_n 1, 1) ∧ 17 + 1 = 18 := ⟨by decide +kernel, rfl⟩
theorem d_X12_judge_18 : decode mX12_judge.1 18 = .ok (.aload_n 0, 1) ∧ 18 + 1 = 19 := ⟨by decide +kernel, rfl⟩
theorem d_X12_judge_19 : decode mX12_judge.1 19 = .ok (.aload_n 0, 1) ∧ 19 + 1 = 20 := ⟨by decide +kernel, rfl⟩
theorem d_X12_judge_20 : decode mX12_judge.1 20 = .ok (.getfield 461, 3) ∧ 20 + 3 = 23 := ⟨by decide +kernel, rfl⟩
theorem d_X12_judge_23 : decode mX12_judge.1 23 = .ok (.putfield 508, 3) ∧ 23 + 3 = 26 := ⟨by decide +kernel, rfl⟩
theorem d_X12_judge_26 : decode mX12_judge.1 26 = .ok (.aload_n 0, 1) ∧ 26 + 1 = 27 := ⟨by decide +kernel, rfl⟩
theorem d_X12_judge_27 : decode mX12_judge.1 27 = .ok (.aload_n 0, 1) ∧ 27 + 1 = 28 := ⟨by decide +kernel, rfl⟩
theorem d_X12_judge_28 : decode mX12_judge.1 28 = .ok (.invokevirtual 511, 3) ∧ 28 + 3 = 31 := ⟨by decide +kernel, rfl⟩
theorem d_X12_judge_31 : decode mX12_judge.1 31 = .ok (.putfield 514, 3) ∧ 31 + 3 = 34 := ⟨by decide +kernel, rfl⟩
theorem d_X12_judge_34 : decode mX12_judge.1 34 = .ok (.aload_n 0, 1) ∧ 34 + 1 = 35 := ⟨by decide +kernel, rfl⟩
theorem d_X12_judge_35 : decode mX12_judge.1 35 = .ok (.iconst 1, 1) ∧ 35 + 1 = 36 := ⟨by decide +kernel, rfl⟩
theorem d_X12_judge_36 : decode mX12_judge.1 36 = .ok (.putfield 396, 3) ∧ 36 + 3 = 39 := ⟨by decide +kernel, rfl⟩
theorem d_X12_judge_39 : decode mX12_judge.1 39 = .ok (.iload_n 1, 1) ∧ 39 + 1 = 40 := ⟨by decide +kernel, rfl⟩
theorem d_X12_judge_40 : decode mX12_judge.1 40 = .ok (.ireturn, 1) := by decide +kernel
set_option maxRecDepth 100000 in
set_option maxHeartbeats 4000000 in
theorem g_X12_judge (l : Launch) (G : xa_C) (v0 : Int) (h : xa_H) : xa_G l G 7 mX12_judge (f_X12_judge v0 h) (fun r => some (some (xI r.1), r.2) : (Int × xa_H) → Option xa_O) 0 [some (xR v0), none] [] h := by
  unfold f_X12_judge
  refine xa_step (xa_aload_n d_X12_judge_0 rfl) ?_
  refine xa_callVI (as := []) (st := []) (M' := mX12_isRing) (d' := 4) rfl xw_1914 xw_1916 xw_120 xw_1917 xw_177 xh_X12_isRing rfl ⟨Nat.le_of_ble_eq_true rfl, Nat.le_of_ble_eq_true rfl⟩ (Nat.le_of_ble_eq_true rfl) rfl d_X12_judge_1 (fun r hr => ct_X12_isRing l G v0 h r hr) (fun r1 _ => ?_)
  refine xa_if (xa_ifne d_X12_judge_4) (fun q2 => ?_) (fun q2 => ?_)
  · refine xa_step (xa_aload_n d_X12_judge_7 rfl) ?_
    refine xa_step (xa_iconst d_X12_judge_8 xq_i_1) ?_
    refine xa_callVI (as := [xI 1]) (st := []) (M' := mX12_refuses) (d' := 2) rfl xw_1920 xw_1922 xw_121 xw_1923 xw_177 xh_X12_refuses rfl ⟨Nat.le_of_ble_eq_true rfl, Nat.le_of_ble_eq_true rfl⟩ (Nat.le_of_ble_eq_true rfl) rfl d_X12_judge_9 (fun r hr => ct_X12_refuses l G v0 1 r1.2 r hr) (fun r3 _ => ?_)
    exact xa_iret d_X12_judge_12 rfl rfl
  · refine xa_step (xa_aload_n d_X12_judge_13 rfl) ?_
    refine xa_callVI (as := []) (st := []) (M' := mX12_whyNot) (d' := 6) rfl xw_1924 xw_1926 xw_122 xw_1927 xw_177 xh_X12_whyNot rfl ⟨Nat.le_of_ble_eq_true rfl, Nat.le_of_ble_eq_true rfl⟩ (Nat.le_of_ble_eq_true rfl) rfl d_X12_judge_14 (fun r hr => ct_X12_whyNot l G v0 r1.2 r hr) (fun r4 _ => ?_)
    refine xa_step (xa_istore_n (ls' := [some (xR v0), some (xI r4.1)]) d_X12_judge_17 (by decide) rfl) ?_
    refine xa_step (xa_aload_n d_X12_judge_18 rfl) ?_
    refine xa_step (xa_aload_n d_X12_judge_19 rfl) ?_
    refine xa_getf xI xc_12 (by decide) (fun _ => rfl) xw_1361 rfl d_X12_judge_20 (fun x5 _ => ?_)
    refine xa_putf2 (tg := xI) xc_12 (by decide) (fun _ => rfl) rfl (fun c hc => xa_fitI c hc) xw_1365 rfl d_X12_judge_23 (fun h6 _ => ?_)
    refine xa_step (xa_aload_n d_X12_judge_26 rfl) ?_
    refine xa_step (xa_aload_n d_X12_judge_27 rfl) ?_
    refine xa_callVI (as := []) (st := [xR v0]) (M' := mX12_paysAll) (d' := 6) rfl xw_1973 xw_1975 xw_132 xw_1976 xw_177 xh_X12_paysAll rfl ⟨Nat.le_of_ble_eq_true rfl, Nat.le_of_ble_eq_true rfl⟩ (Nat.le_of_ble_eq_true rfl) rfl d_X12_judge_28 (fun r hr => ct_X12_paysAll l G v0 h6 r hr) (fun r7 _ => ?_)
    refine xa_putf2 (tg := xI) xc_12 (by decide) (fun _ => rfl) rfl (fun c hc => xa_fitI c hc) xw_1366 rfl d_X12_judge_31 (fun h8 _ => ?_)
    refine xa_step (xa_aload_n d_X12_judge_34 rfl) ?_
    refine xa_step (xa_iconst d_X12_judge_35 xq_i_1) ?_
    refine xa_putf2 (tg := xI) xc_12 (by decide) (fun _ => rfl) rfl (fun c hc => (xa_fitZ (Or.inr rfl)) c hc) xw_1364 rfl d_X12_judge_36 (fun h9 _ => ?_)
    refine xa_step (xa_iload_n d_X12_judge_39 rfl) ?_
    exact xa_iret d_X12_judge_40 rfl rfl
theorem ct_X12_judge (l : Launch) (G : xa_C) (v0 : Int) (h : xa_H) (r : Int × xa_H) (hr : f_X12_judge v0 h = some r) : xa_CT l G 7 mX12_judge yX12_judge [xR v0] h (some (xI r.1), r.2) :=
  xa_met (by decide +kernel) rfl (fun q => by first | rfl | cases q) (Nat.le_of_ble_eq_true rfl) rfl (g_X12_judge l G v0 h) (by rw [hr]; rfl)
abbrev mX12_judged : xa_M := (cX12_judged, 2, (some (.int)), RX12, false)
theorem d_X12_judged_0 : decode mX12_judged.1 0 = .ok (.aload_n 0, 1) ∧ 0 + 1 = 1 := ⟨by decide +kernel, rfl⟩
theorem d_X12_judged_1 : decode mX12_judged.1 1 = .ok (.getfield 396, 3) ∧ 1 + 3 = 4 := ⟨by decide +kernel, rfl⟩
theorem d_X12_judged_4 : decode mX12_judged.1 4 = .ok (.ifCond .ne 7, 3) ∧ 4 + 3 = 7 ∧ ((4 : Nat) : Int) + 7 = ((11 : Nat) : Int) := ⟨by decide +kernel, rfl, rfl⟩
theorem d_X12_judged_7 : decode mX12_judged.1 7 = .ok (.iconst (-1), 1) ∧ 7 + 1 = 8 := ⟨by decide +kernel, rfl⟩
theorem d_X12_judged_8 : decode mX12_judged.1 8 = .ok (.goto 27, 3) ∧ ((8 : Nat) : Int) + 27 = ((35 : Nat) : Int) := ⟨by decide +kernel, rfl⟩
theorem d_X12_judged_35 : decode mX12_judged.1 35 = .ok (.ireturn, 1) := by decide +kernel
theorem d_X12_judged_11 : decode mX12_judged.1 11 = .ok (.iload_n 1, 1) ∧ 11 + 1 = 12 := ⟨by decide +kernel, rfl⟩
theorem d_X12_judged_12 : decode mX12_judged.1 12 = .ok (.ifCond .ne 10, 3) ∧ 12 + 3 = 15 ∧ ((12 : Nat) : Int) + 10 = ((22 : Nat) : Int) := ⟨by decide +kernel, rfl, rfl⟩
theorem d_X12_judged_15 : decode mX12_judged.1 15 = .ok (.aload_n 0, 1) ∧ 15 + 1 = 16 := ⟨by decide +kernel, rfl⟩
theorem d_X12_judged_16 : decode mX12_judged.1 16 = .ok (.getfield 508, 3) ∧ 16 + 3 = 19 := ⟨by decide +kernel, rfl⟩
theorem d_X12_judged_19 : decode mX12_judged.1 19 = .ok (.goto 16, 3) ∧ ((19 : Nat) : Int) + 16 = ((35 : Nat) : Int) := ⟨by decide +kernel, rfl⟩
theorem d_X12_judged_22 : decode mX12_judged.1 22 = .ok (.iload_n 1, 1) ∧ 22 + 1 = 23 := ⟨by decide +kernel, rfl⟩
theorem d_X12_judged_23 : decode mX12_judged.1 23 = .ok (.iconst 1, 1) ∧ 23 + 1 = 24 := ⟨by decide +kernel, rfl⟩
theorem d_X12_judged_24 : decode mX12_judged.1 24 = .ok (.if_icmp .ne 10, 3) ∧ 24 + 3 = 27 ∧ ((24 : Nat) : Int) + 10 = ((34 : Nat) : Int) := ⟨by decide +kernel, rfl, rfl⟩
theorem d_X12_judged_27 : decode mX12_judged.1 27 = .ok (.aload_n 0, 1) ∧ 27 + 1 = 28 := ⟨by decide +kernel, rfl⟩
theorem d_X12_judged_28 : decode mX12_judged.1 28 = .ok (.getfield 514, 3) ∧ 28 + 3 = 31 := ⟨by decide +kernel, rfl⟩
theorem d_X12_judged_31 : decode mX12_judged.1 31 = .ok (.goto 4, 3) ∧ ((31 : Nat) : Int) + 4 = ((35 : Nat) : Int) := ⟨by decide +kernel, rfl⟩
theorem d_X12_judged_34 : decode mX12_judged.1 34 = .ok (.iconst (-1), 1) ∧ 34 + 1 = 35 := ⟨by decide +kernel, rfl⟩
set_option maxRecDepth 100000 in
set_option maxHeartbeats 4000000 in
theorem g_X12_judged (l : Launch) (G : xa_C) (v0 v1 : Int) (h : xa_H) : xa_G l G 2 mX12_judged (f_X12_judged v0 v1 h) (fun r => some (some (xI r), h) : Int → Option xa_O) 0 [some (xR v0), some (xI v1)] [] h := by
  unfold f_X12_judged
  refine xa_step (xa_aload_n d_X12_judged_0 rfl) ?_
  refine xa_getf xI xc_12 (by decide) (fun _ => rfl) xw_1364 rfl d_X12_judged_1 (fun x1 _ => ?_)
  refine xa_if (xa_ifne d_X12_judged_4) (fun q2 => ?_) (fun q2 => ?_)
  · refine xa_step (xa_iconst d_X12_judged_7 xq_i_m1) ?_
    refine xa_step (xa_goto d_X12_judged_8) ?_
    exact xa_iret d_X12_judged_35 rfl rfl
  · refine xa_step (xa_iload_n d_X12_judged_11 rfl) ?_
    refine xa_if (xa_ifne d_X12_judged_12) (fun q3 => ?_) (fun q3 => ?_)
    · refine xa_step (xa_aload_n d_X12_judged_15 rfl) ?_
      refine xa_getf xI xc_12 (by decide) (fun _ => rfl) xw_1365 rfl d_X12_judged_16 (fun x4 _ => ?_)
      refine xa_step (xa_goto d_X12_judged_19) ?_
      exact xa_iret d_X12_judged_35 rfl rfl
    · refine xa_step (xa_iload_n d_X12_judged_22 rfl) ?_
      refine xa_step (xa_iconst d_X12_judged_23 xq_i_1) ?_
      refine xa_if (xa_icmpne d_X12_judged_24) (fun q5 => ?_) (fun q5 => ?_)
      · refine xa_step (xa_aload_n d_X12_judged_27 rfl) ?_
        refine xa_getf xI xc_12 (by decide) (fun _ => rfl) xw_1366 rfl d_X12_judged_28 (fun x6 _ => ?_)
        refine xa_step (xa_goto d_X12_judged_31) ?_
        exact xa_iret d_X12_judged_35 rfl rfl
      · refine xa_step (xa_iconst d_X12_judged_34 xq_i_m1) ?_
        exact xa_iret d_X12_judged_35 rfl rfl
theorem ct_X12_judged (l : Launch) (G : xa_C) (v0 v1 : Int) (h : xa_H) (r : Int) (hr : f_X12_judged v0 v1 h = some r) : xa_CT l G 2 mX12_judged yX12_judged [xR v0, xI v1] h (some (xI r), h) :=
  xa_met (by decide +kernel) rfl (fun q => by first | rfl | cases q) (Nat.le_of_ble_eq_true rfl) rfl (g_X12_judged l G v0 v1 h) (by rw [hr]; rfl)
abbrev mX12_kept : xa_M := (cX12_kept, 3, (some (.int)), RX12, false)
theorem d_X12_kept_0 : decode mX12_kept.1 0 = .ok (.iload_n 1, 1) ∧ 0 + 1 = 1 := ⟨by decide +kernel, rfl⟩
theorem d_X12_kept_1 : decode mX12_kept.1 1 = .ok (.i2l, 1) ∧ 1 + 1 = 2 := ⟨by decide +kernel, rfl⟩
theorem d_X12_kept_2 : decode mX12_kept.1 2 = .ok (.lconst 0, 1) ∧ 2 + 1 = 3 := ⟨by decide +kernel, rfl⟩
theorem d_X12_kept_3 : decode mX12_kept.1 3 = .ok (.aload_n 0, 1) ∧ 3 + 1 = 4 := ⟨by decide +kernel, rfl⟩
theorem d_X12_kept_4 : decode mX12_kept.1 4 = .ok (.getfield 130, 3) ∧ 4 + 3 = 7 := ⟨by decide +kernel, rfl⟩
theorem d_X12_kept_7 : decode mX12_kept.1 7 = .ok (.bipush 55, 2) ∧ 7 + 2 = 9 := ⟨by decide +kernel, rfl⟩
theorem d_X12_kept_9 : decode mX12_kept.1 9 = .ok (.iaload, 1) ∧ 9 + 1 = 10 := ⟨by decide +kernel, rfl⟩
theorem d_X12_kept_10 : decode mX12_kept.1 10 = .ok (.iconst 1, 1) ∧ 10 + 1 = 11 := ⟨by decide +kernel, rfl⟩
theorem d_X12_kept_11 : decode mX12_kept.1 11 = .ok (.isub, 1) ∧ 11 + 1 = 12 := ⟨by decide +kernel, rfl⟩
theorem d_X12_kept_12 : decode mX12_kept.1 12 = .ok (.i2l, 1) ∧ 12 + 1 = 13 := ⟨by decide +kernel, rfl⟩
theorem d_X12_kept_13 : decode mX12_kept.1 13 = .ok (.invokestatic 289, 3) ∧ 13 + 3 = 16 := ⟨by decide +kernel, rfl⟩
theorem d_X12_kept_16 : decode mX12_kept.1 16 = .ok (.ifCond .eq 31, 3) ∧ 16 + 3 = 19 ∧ ((16 : Nat) : Int) + 31 = ((47 : Nat) : Int) := ⟨by decide +kernel, rfl, rfl⟩
theorem d_X12_kept_47 : decode mX12_kept.1 47 = .ok (.iconst (-1), 1) ∧ 47 + 1 = 48 := ⟨by decide +kernel, rfl⟩
theorem d_X12_kept_48 : decode mX12_kept.1 48 = .ok (.ireturn, 1) := by decide +kernel
theorem d_X12_kept_19 : decode mX12_kept.1 19 = .ok (.iload_n 2, 1) ∧ 19 + 1 = 20 := ⟨by decide +kernel, rfl⟩
theorem d_X12_kept_20 : decode mX12_kept.1 20 = .ok (.i2l, 1) ∧ 20 + 1 = 21 := ⟨by decide +kernel, rfl⟩
theorem d_X12_kept_21 : decode mX12_kept.1 21 = .ok (.lconst 0, 1) ∧ 21 + 1 = 22 := ⟨by decide +kernel, rfl⟩
theorem d_X12_kept_22 : decode mX12_kept.1 22 = .ok (.ldc2_w 497, 3) ∧ 22 + 3 = 25 := ⟨by decide +kernel, rfl⟩
theorem d_X12_kept_25 : decode mX12_kept.1 25 = .ok (.invokestatic 289, 3) ∧ 25 + 3 = 28 := ⟨by decide +kernel, rfl⟩
theorem d_X12_kept_28 : decode mX12_kept.1 28 = .ok (.ifCond .eq 19, 3) ∧ 28 + 3 = 31 ∧ ((28 : Nat) : Int) + 19 = ((47 : Nat) : Int) := ⟨by decide +kernel, rfl, rfl⟩
theorem d_X12_kept_31 : decode mX12_kept.1 31 = .ok (.aload_n 0, 1) ∧ 31 + 1 = 32 := ⟨by decide +kernel, rfl⟩
theorem d_X12_kept_32 : decode mX12_kept.1 32 = .ok (.getfield 130, 3) ∧ 32 + 3 = 35 := ⟨by decide +kernel, rfl⟩
theorem d_X12_kept_35 : decode mX12_kept.1 35 = .ok (.bipush 56, 2) ∧ 35 + 2 = 37 := ⟨by decide +kernel, rfl⟩
theorem d_X12_kept_37 : decode mX12_kept.1 37 = .ok (.iconst 4, 1) ∧ 37 + 1 = 38 := ⟨by decide +kernel, rfl⟩
theorem d_X12_kept_38 : decode mX12_kept.1 38 = .ok (.iload_n 1, 1) ∧ 38 + 1 = 39 := ⟨by decide +kernel, rfl⟩
theorem d_X12_kept_39 : decode mX12_kept.1 39 = .ok (.imul, 1) ∧ 39 + 1 = 40 := ⟨by decide +kernel, rfl⟩
theorem d_X12_kept_40 : decode mX12_kept.1 40 = .ok (.iadd, 1) ∧ 40 + 1 = 41 := ⟨by decide +kernel, rfl⟩
theorem d_X12_kept_41 : decode mX12_kept.1 41 = .ok (.iload_n 2, 1) ∧ 41 + 1 = 42 := ⟨by decide +kernel, rfl⟩
theorem d_X12_kept_42 : decode mX12_kept.1 42 = .ok (.iadd, 1) ∧ 42 + 1 = 43 := ⟨by decide +kernel, rfl⟩
theorem d_X12_kept_43 : decode mX12_kept.1 43 = .ok (.iaload, 1) ∧ 43 + 1 = 44 := ⟨by decide +kernel, rfl⟩
theorem d_X12_kept_44 : decode mX12_kept.1 44 = .ok (.goto 4, 3) ∧ ((44 : Nat) : Int) + 4 = ((48 : Nat) : Int) := ⟨by decide +kernel, rfl⟩
set_option maxRecDepth 100000 in
set_option maxHeartbeats 4000000 in
theorem g_X12_kept (l : Launch) (G : xa_C) (v0 v1 v2 : Int) (h : xa_H) : xa_G l G 3 mX12_kept (f_X12_kept v0 v1 v2 h) (fun r => some (some (xI r), h) : Int → Option xa_O) 0 [some (xR v0), some (xI v1), some (xI v2)] [] h := by
  unfold f_X12_kept
  refine xa_step (xa_iload_n d_X12_kept_0 rfl) ?_
  refine xa_step (xa_i2l d_X12_kept_1) ?_
  refine xa_step (xa_lconst d_X12_kept_2 rfl) ?_
  refine xa_step (xa_aload_n d_X12_kept_3 rfl) ?_
  refine xa_getf xR xc_12 (by decide) (fun _ => rfl) xw_1354 rfl d_X12_kept_4 (fun x1 _ => ?_)
  refine xa_step (xa_bipush d_X12_kept_7 xq_b_55) ?_
  refine xa_iaload d_X12_kept_9 (fun x2 _ => ?_)
  refine xa_step (xa_iconst d_X12_kept_10 xq_i_1) ?_
  refine xa_step (xa_isub d_X12_kept_11) ?_
  refine xa_step (xa_i2l d_X12_kept_12) ?_
  refine xa_callSi (as := [xL v1, xL 0, xL (w32 (x2 - 1))]) (st := []) (M' := mX12_isIn) (d' := 2) xw_1706 xw_1707 xw_1708 xw_177 xh_X12_isIn rfl ⟨Nat.le_of_ble_eq_true rfl, Nat.le_of_ble_eq_true rfl⟩ (Nat.le_of_ble_eq_true rfl) rfl d_X12_kept_13 (fun r hr => ct_X12_isIn l G v1 0 (w32 (x2 - 1)) h r hr) (fun r3 _ => ?_)
  refine xa_if (xa_ifeq d_X12_kept_16) (fun q4 => ?_) (fun q4 => ?_)
  · refine xa_step (xa_iconst d_X12_kept_47 xq_i_m1) ?_
    exact xa_iret d_X12_kept_48 rfl rfl
  · refine xa_step (xa_iload_n d_X12_kept_19 rfl) ?_
    refine xa_step (xa_i2l d_X12_kept_20) ?_
    refine xa_step (xa_lconst d_X12_kept_21 rfl) ?_
    refine xa_step (xa_ldc2 (c64 := 3) (v := 3) (by decide +kernel) xw_1909 d_X12_kept_22) ?_
    refine xa_callSi (as := [xL v2, xL 0, xL 3]) (st := []) (M' := mX12_isIn) (d' := 2) xw_1706 xw_1707 xw_1708 xw_177 xh_X12_isIn rfl ⟨Nat.le_of_ble_eq_true rfl, Nat.le_of_ble_eq_true rfl⟩ (Nat.le_of_ble_eq_true rfl) rfl d_X12_kept_25 (fun r hr => ct_X12_isIn l G v2 0 3 h r hr) (fun r5 _ => ?_)
    refine xa_if (xa_ifeq d_X12_kept_28) (fun q6 => ?_) (fun q6 => ?_)
    · refine xa_step (xa_iconst d_X12_kept_47 xq_i_m1) ?_
      exact xa_iret d_X12_kept_48 rfl rfl
    · refine xa_step (xa_aload_n d_X12_kept_31 rfl) ?_
      refine xa_getf xR xc_12 (by decide) (fun _ => rfl) xw_1354 rfl d_X12_kept_32 (fun x7 _ => ?_)
      refine xa_step (xa_bipush d_X12_kept_35 xq_b_56) ?_
      refine xa_step (xa_iconst d_X12_kept_37 xq_i_4) ?_
      refine xa_step (xa_iload_n d_X12_kept_38 rfl) ?_
      refine xa_step (xa_imul d_X12_kept_39) ?_
      refine xa_step (xa_iadd d_X12_kept_40) ?_
      refine xa_step (xa_iload_n d_X12_kept_41 rfl) ?_
      refine xa_step (xa_iadd d_X12_kept_42) ?_
      refine xa_iaload d_X12_kept_43 (fun x8 _ => ?_)
      refine xa_step (xa_goto d_X12_kept_44) ?_
      exact xa_iret d_X12_kept_48 rfl rfl
theorem ct_X12_kept (l : Launch) (G : xa_C) (v0 v1 v2 : Int) (h : xa_H) (r : Int) (hr : f_X12_kept v0 v1 v2 h = some r) : xa_CT l G 3 mX12_kept yX12_kept [xR v0, xI v1, xI v2] h (some (xI r), h) :=
  xa_met (by decide +kernel) rfl (fun q => by first | rfl | cases q) (Nat.le_of_ble_eq_true rfl) rfl (g_X12_kept l G v0 v1 v2 h) (by rw [hr]; rfl)
abbrev mX12_letter : xa_M := (cX12_letter, 9, (some (.int)), RX12, false)
theorem d_X12_letter_0 : decode mX12_letter.1 0 = .ok (.iload_n 1, 1) ∧ 0 + 1 = 1 := ⟨by decide +kernel, rfl⟩
theorem d_X12_letter_1 : decode mX12_letter.1 1 = .ok (.i2l, 1) ∧ 1 + 1 = 2 := ⟨by decide +kernel, rfl⟩
theorem d_X12_letter_2 : decode mX12_letter.1 2 = .ok (.lconst 0, 1) ∧ 2 + 1 = 3 := ⟨by decide +kernel, rfl⟩
theorem d_X12_letter_3 : decode mX12_letter.1 3 = .ok (.lconst 1, 1) ∧ 3 + 1 = 4 := ⟨by decide +kernel, rfl⟩
theorem d_X12_letter_4 : decode mX12_letter.1 4 = .ok (.invokestatic 289, 3) ∧ 4 + 3 = 7 := ⟨by decide +kernel, rfl⟩
theorem d_X12_letter_7 : decode mX12_letter.1 7 = .ok (.ifCond .eq 35, 3) ∧ 7 + 3 = 10 ∧ ((7 : Nat) : Int) + 35 = ((42 : Nat) : Int) := ⟨by decide +kernel, rfl, rfl⟩
theorem d_X12_letter_42 : decode mX12_letter.1 42 = .ok (.iconst (-1), 1) ∧ 42 + 1 = 43 := ⟨by decide +kernel, rfl⟩
theorem d_X12_letter_43 : decode mX12_letter.1 43 = .ok (.ireturn, 1) := by decide +kernel
theorem d_X12_letter_10 : decode mX12_letter.1 10 = .ok (.iload_n 2, 1) ∧ 10 + 1 = 11 := ⟨by decide +kernel, rfl⟩
theorem d_X12_letter_11 : decode mX12_letter.1 11 = .ok (.i2l, 1) ∧ 11 + 1 = 12 := ⟨by decide +kernel, rfl⟩
theorem d_X12_letter_12 : decode mX12_letter.1 12 = .ok (.lconst 0, 1) ∧ 12 + 1 = 13 := ⟨by decide +kernel, rfl⟩
theorem d_X12_letter_13 : decode mX12_letter.1 13 = .ok (.aload_n 0, 1) ∧ 13 + 1 = 14 := ⟨by decide +kernel, rfl⟩
theorem d_X12_letter_14 : decode mX12_letter.1 14 = .ok (.getfield 90, 3) ∧ 14 + 3 = 17 := ⟨by decide +kernel, rfl⟩
theorem d_X12_letter_17 : decode mX12_letter.1 17 = .ok (.iconst 3, 1) ∧ 17 + 1 = 18 := ⟨by decide +kernel, rfl⟩
theorem d_X12_letter_18 : decode mX12_letter.1 18 = .ok (.iload_n 1, 1) ∧ 18 + 1 = 19 := ⟨by decide +kernel, rfl⟩
theorem d_X12_letter_19 : decode mX12_letter.1 19 = .ok (.iadd, 1) ∧ 19 + 1 = 20 := ⟨by decide +kernel, rfl⟩
theorem d_X12_letter_20 : decode mX12_letter.1 20 = .ok (.iaload, 1) ∧ 20 + 1 = 21 := ⟨by decide +kernel, rfl⟩
theorem d_X12_letter_21 : decode mX12_letter.1 21 = .ok (.iconst 1, 1) ∧ 21 + 1 = 22 := ⟨by decide +kernel, rfl⟩
theorem d_X12_letter_22 : decode mX12_letter.1 22 = .ok (.isub, 1) ∧ 22 + 1 = 23 := ⟨by decide +kernel, rfl⟩
theorem d_X12_letter_23 : decode mX12_letter.1 23 = .ok (.i2l, 1) ∧ 23 + 1 = 24 := ⟨by decide +kernel, rfl⟩
theorem d_X12_letter_24 : decode mX12_letter.1 24 = .ok (.invokestatic 289, 3) ∧ 24 + 3 = 27 := ⟨by decide +kernel, rfl⟩
theorem d_X12_letter_27 : decode mX12_letter.1 27 = .ok (.ifCond .eq 15, 3) ∧ 27 + 3 = 30 ∧ ((27 : Nat) : Int) + 15 = ((42 : Nat) : Int) := ⟨by decide +kernel, rfl, rfl⟩
theorem d_X12_letter_30 : decode mX12_letter.1 30 = .ok (.iload_n 3, 1) ∧ 30 + 1 = 31 := ⟨by decide +kernel, rfl⟩
theorem d_X12_letter_31 : decode mX12_letter.1 31 = .ok (.i2l, 1) ∧ 31 + 1 = 32 := ⟨by decide +kernel, rfl⟩
theorem d_X12_letter_32 : decode mX12_letter.1 32 = .ok (.lconst 0, 1) ∧ 32 + 1 = 33 := ⟨by decide +kernel, rfl⟩
theorem d_X12_letter_33 : decode mX12_letter.1 33 = .ok (.ldc2_w 486, 3) ∧ 33 + 3 = 36 := ⟨by decide +kernel, rfl⟩
theorem d_X12_letter_36 : decode mX12_letter.1 36 = .ok (.invokestatic 289, 3) ∧ 36 + 3 = 39 := ⟨by decide +kernel, rfl⟩
theorem d_X12_letter_39 : decode mX12_letter.1 39 = .ok (.ifCond .ne 5, 3) ∧ 39 + 3 = 42 ∧ ((39 : Nat) : Int) + 5 = ((44 : Nat) : Int) := ⟨by decide +kernel, rfl, rfl⟩
theorem d_X12_letter_44 : decode mX12_letter.1 44 = .ok (.aload_n 0, 1) ∧ 44 + 1 = 45 := ⟨by decide +kernel, rfl⟩
theorem d_X12_letter_45 : decode mX12_letter.1 45 = .ok (.getfield 93, 3) ∧ 45 + 3 = 48 := ⟨by decide +kernel, rfl⟩
theorem d_X12_letter_48 : decode mX12_letter.1 48 = .ok (.bipush 12, 2) ∧ 48 + 2 = 50 := ⟨by decide +kernel, rfl⟩
theorem d_X12_letter_50 : decode mX12_letter.1 50 = .ok (.bipush 6, 2) ∧ 50 + 2 = 52 := ⟨by decide +kernel, rfl⟩
theorem d_X12_letter_52 : decode mX12_letter.1 52 = .ok (.iload_n 1, 1) ∧ 52 + 1 = 53 := ⟨by decide +kernel, rfl⟩
theorem d_X12_letter_53 : decode mX12_letter.1 53 = .ok (.imul, 1) ∧ 53 + 1 = 54 := ⟨by decide +kernel, rfl⟩
theorem d_X12_letter_54 : decode mX12_letter.1 54 = .ok (.iadd, 1) ∧ 54 + 1 = 55 := ⟨by decide +kernel, rfl⟩
theorem d_X12_letter_55 : decode mX12_letter.1 55 = .ok (.iload_n 2, 1) ∧ 55 + 1 = 56 := ⟨by decide +kernel, rfl⟩
theorem d_X12_letter_56 : decode mX12_letter.1 56 = .ok (.iadd, 1) ∧ 56 + 1 = 57 := ⟨by decide +kernel, rfl⟩
theorem d_X12_letter_57 : decode mX12_letter.1 57 = .ok (.laload, 1) ∧ 57 + 1 = 58 := ⟨by decide +kernel, rfl⟩
theorem d_X12_letter_58 : decode mX12_letter.1 58 = .ok (.lstore 4, 2) ∧ 58 + 2 = 60 := ⟨by decide +kernel, rfl⟩
theorem d_X12_letter_60 : decode mX12_letter.1 60 = .ok (.iconst 0, 1) ∧ 60 + 1 = 61 := ⟨by decide +kernel, rfl⟩
theorem d_X12_letter_61 : decode mX12_letter.1 61 = .ok (.istore 6, 2) ∧ 61 + 2 = 63 := ⟨by decide +kernel, rfl⟩
theorem d_X12_letter_63 : decode mX12_letter.1 63 = .ok (.lload 4, 2) ∧ 63 + 2 = 65 := ⟨by decide +kernel, rfl⟩
theorem d_X12_letter_65 : decode mX12_letter.1 65 = .ok (.lstore 7, 2) ∧ 65 + 2 = 67 := ⟨by decide +kernel, rfl⟩
theorem d_X12_letter_67 : decode mX12_letter.1 67 = .ok (.lload 7, 2) ∧ 67 + 2 = 69 := ⟨by decide +kernel, rfl⟩
theorem d_X12_letter_69 : decode mX12_letter.1 69 = .ok (.lconst 0, 1) ∧ 69 + 1 = 70 := ⟨by decide +kernel, rfl⟩
theorem d_X12_letter_70 : decode mX12_letter.1 70 = .ok (.lcmp, 1) ∧ 70 + 1 = 71 := ⟨by decide +kernel, rfl⟩
theorem d_X12_letter_71 : decode mX12_letter.1 71 = .ok (.ifCond .le 17, 3) ∧ 71 + 3 = 74 ∧ ((71 : Nat) : Int) + 17 = ((88 : Nat) : Int) := ⟨by decide +kernel, rfl, rfl⟩
theorem d_X12_letter_74 : decode mX12_letter.1 74 = .ok (.iinc 6 1, 3) ∧ 74 + 3 = 77 := ⟨by decide +kernel, rfl⟩
theorem d_X12_letter_77 : decode mX12_letter.1 77 = .ok (.lload 7, 2) ∧ 77 + 2 = 79 := ⟨by decide +kernel, rfl⟩
theorem d_X12_letter_79 : decode mX12_letter.1 79 = .ok (.ldc2_w 300, 3) ∧ 79 + 3 = 82 := ⟨by decide +kernel, rfl⟩
theorem d_X12_letter_82 : decode mX12_letter.1 82 = .ok (.ldiv, 1) ∧ 82 + 1 = 83 := ⟨by decide +kernel, rfl⟩
theorem d_X12_letter_83 : decode mX12_letter.1 83 = .ok (.lstore 7, 2) ∧ 83 + 2 = 85 := ⟨by decide +kernel, rfl⟩
theorem d_X12_letter_85 : decode mX12_letter.1 85 = .ok (.goto (-18), 3) ∧ ((85 : Nat) : Int) + (-18) = ((67 : Nat) : Int) := ⟨by decide +kernel, rfl⟩
set_option maxRecDepth 100000 in
set_option maxHeartbeats 4000000 in
theorem g_X12_letter_L67 (l : Launch) (G : xa_C) (c3 c4 : Int) (h : xa_H) (K : (Int × Int) ⊕ (Int) → Option xa_O) (hb : ∀ (v6 : Int) (v7 : Int), xa_G l G 3 mX12_letter (some (Sum.inl ((v6, v7)))) K 67 [none, none, none, some (xI c3), some (xL c4), none, some (xI v6), some (xL v7), none] [] h) (hx : ∀ (v6 : Int), xa_G l G 3 mX12_letter (some (Sum.inr v6)) K 88 [none, none, none, some (xI c3), some (xL c4), none, some (xI v6), none, none] [] h) : ∀ (v6 : Int) (v7 : Int), xa_G l G 3 mX12_letter (f_X12_letter_L67 c3 c4 h v6 v7) K 67 [none, none, none, some (xI c3), some (xL c4), none, some (xI v6), some (xL v7), none] [] h := by
  intro v6 v7
  unfold f_X12_letter_L67
  refine xa_step (xa_lload d_X12_letter_67 rfl) ?_
  refine xa_step (xa_lconst d_X12_letter_69 rfl) ?_
  refine xa_step (xa_lcmp d_X12_letter_70) ?_
  refine xa_if (xa_ifle d_X12_letter_71) (fun q11 => ?_) (fun q11 => ?_)
  · refine xa_step (xa_iinc (ls' := [none, none, none, some (xI c3), some (xL c4), none, some (xI (w32 (v6 + 1))), some (xL v7), none]) d_X12_letter_74 xq_i_1 rfl (by decide) rfl) ?_
    refine xa_step (xa_lload d_X12_letter_77 rfl) ?_
    refine xa_step (xa_ldc2 (c64 := 27) (v := 27) (by decide +kernel) xw_1689 d_X12_letter_79) ?_
    refine xa_step (xa_ldiv d_X12_letter_82 (by decide)) ?_
    refine xa_step (xa_lstore (ls' := [none, none, none, some (xI c3), some (xL c4), none, some (xI (w32 (v6 + 1))), some (xL (w64 (Int.tdiv v7 27))), none]) d_X12_letter_83 (by decide) rfl) ?_
    refine xa_step (xa_goto d_X12_letter_85) ?_
    exact xa_weak (ls' := [none, none, none, some (xI c3), some (xL c4), none, some (xI (w32 (v6 + 1))), some (xL (w64 (Int.tdiv v7 27))), none]) ⟨rfl, rfl, rfl, rfl, trivial⟩ (hb (w32 (v6 + 1)) (w64 (Int.tdiv v7 27)))
  · exact xa_weak (ls' := [none, none, none, some (xI c3), some (xL c4), none, some (xI v6), none, none]) ⟨rfl, rfl, rfl, trivial⟩ (hx v6)
theorem d_X12_letter_88 : decode mX12_letter.1 88 = .ok (.iload_n 3, 1) ∧ 88 + 1 = 89 := ⟨by decide +kernel, rfl⟩
theorem d_X12_letter_89 : decode mX12_letter.1 89 = .ok (.iload 6, 2) ∧ 89 + 2 = 91 := ⟨by decide +kernel, rfl⟩
theorem d_X12_letter_91 : decode mX12_letter.1 91 = .ok (.if_icmp .lt 5, 3) ∧ 91 + 3 = 94 ∧ ((91 : Nat) : Int) + 5 = ((96 : Nat) : Int) := ⟨by decide +kernel, rfl, rfl⟩
theorem d_X12_letter_96 : decode mX12_letter.1 96 = .ok (.iload 6, 2) ∧ 96 + 2 = 98 := ⟨by decide +kernel, rfl⟩
theorem d_X12_letter_98 : decode mX12_letter.1 98 = .ok (.iconst 1, 1) ∧ 98 + 1 = 99 := ⟨by decide +kernel, rfl⟩
theorem d_X12_letter_99 : decode mX12_letter.1 99 = .ok (.isub, 1) ∧ 99 + 1 = 100 := ⟨by decide +kernel, rfl⟩
theorem d_X12_letter_100 : decode mX12_letter.1 100 = .ok (.istore 7, 2) ∧ 100 + 2 = 102 := ⟨by decide +kernel, rfl⟩
theorem d_X12_letter_102 : decode mX12_letter.1 102 = .ok (.iload 7, 2) ∧ 102 + 2 = 104 := ⟨by decide +kernel, rfl⟩
theorem d_X12_letter_104 : decode mX12_letter.1 104 = .ok (.iload_n 3, 1) ∧ 104 + 1 = 105 := ⟨by decide +kernel, rfl⟩
theorem d_X12_letter_105 : decode mX12_letter.1 105 = .ok (.if_icmp .le 17, 3) ∧ 105 + 3 = 108 ∧ ((105 : Nat) : Int) + 17 = ((122 : Nat) : Int) := ⟨by decide +kernel, rfl, rfl⟩
theorem d_X12_letter_108 : decode mX12_letter.1 108 = .ok (.lload 4, 2) ∧ 108 + 2 = 110 := ⟨by decide +kernel, rfl⟩
theorem d_X12_letter_110 : decode mX12_letter.1 110 = .ok (.ldc2_w 300, 3) ∧ 110 + 3 = 113 := ⟨by decide +kernel, rfl⟩
theorem d_X12_letter_113 : decode mX12_letter.1 113 = .ok (.ldiv, 1) ∧ 113 + 1 = 114 := ⟨by decide +kernel, rfl⟩
theorem d_X12_letter_114 : decode mX12_letter.1 114 = .ok (.lstore 4, 2) ∧ 114 + 2 = 116 := ⟨by decide +kernel, rfl⟩
theorem d_X12_letter_116 : decode mX12_letter.1 116 = .ok (.iinc 7 (-1), 3) ∧ 116 + 3 = 119 := ⟨by decide +kernel, rfl⟩
theorem d_X12_letter_119 : decode mX12_letter.1 119 = .ok (.goto (-17), 3) ∧ ((119 : Nat) : Int) + (-17) = ((102 : Nat) : Int) := ⟨by decide +kernel, rfl⟩
set_option maxRecDepth 100000 in
set_option maxHeartbeats 4000000 in
theorem g_X12_letter_L102 (l : Launch) (G : xa_C) (c3 : Int) (h : xa_H) (K : (Int × Int) ⊕ (Int) → Option xa_O) (hb : ∀ (v4 : Int) (v7 : Int), xa_G l G 3 mX12_letter (some (Sum.inl ((v4, v7)))) K 102 [none, none, none, some (xI c3), some (xL v4), none, none, some (xI v7), none] [] h) (hx : ∀ (v4 : Int), xa_G l G 3 mX12_letter (some (Sum.inr v4)) K 122 [none, none, none, none, some (xL v4), none, none, none, none] [] h) : ∀ (v4 : Int) (v7 : Int), xa_G l G 3 mX12_letter (f_X12_letter_L102 c3 h v4 v7) K 102 [none, none, none, some (xI c3), some (xL v4), none, none, some (xI v7), none] [] h := by
  intro v4 v7
  unfold f_X12_letter_L102
  refine xa_step (xa_iload d_X12_letter_102 rfl) ?_
  refine xa_step (xa_iload_n d_X12_letter_104 rfl) ?_
  refine xa_if (xa_icmple d_X12_letter_105) (fun q14 => ?_) (fun q14 => ?_)
  · refine xa_step (xa_lload d_X12_letter_108 rfl) ?_
    refine xa_step (xa_ldc2 (c64 := 27) (v := 27) (by decide +kernel) xw_1689 d_X12_letter_110) ?_
    refine xa_step (xa_ldiv d_X12_letter_113 (by decide)) ?_
    refine xa_step (xa_lstore (ls' := [none, none, none, some (xI c3), some (xL (w64 (Int.tdiv v4 27))), none, none, some (xI v7), none]) d_X12_letter_114 (by decide) rfl) ?_
    refine xa_step (xa_iinc (ls' := [none, none, none, some (xI c3), some (xL (w64 (Int.tdiv v4 27))), none, none, some (xI (w32 (v7 + (-1)))), none]) d_X12_letter_116 xq_i_m1 rfl (by decide) rfl) ?_
    refine xa_step (xa_goto d_X12_letter_119) ?_
    exact xa_weak (ls' := [none, none, none, some (xI c3), some (xL (w64 (Int.tdiv v4 27))), none, none, some (xI (w32 (v7 + (-1)))), none]) ⟨rfl, rfl, rfl, trivial⟩ (hb (w64 (Int.tdiv v4 27)) (w32 (v7 + (-1))))
  · exact xa_weak (ls' := [none, none, none, none, some (xL v4), none, none, none, none]) ⟨rfl, trivial⟩ (hx v4)
theorem d_X12_letter_122 : decode mX12_letter.1 122 = .ok (.lload 4, 2) ∧ 122 + 2 = 124 := ⟨by decide +kernel, rfl⟩
theorem d_X12_letter_124 : decode mX12_letter.1 124 = .ok (.ldc2_w 300, 3) ∧ 124 + 3 = 127 := ⟨by decide +kernel, rfl⟩
theorem d_X12_letter_127 : decode mX12_letter.1 127 = .ok (.lrem, 1) ∧ 127 + 1 = 128 := ⟨by decide +kernel, rfl⟩
theorem d_X12_letter_128 : decode mX12_letter.1 128 = .ok (.l2i, 1) ∧ 128 + 1 = 129 := ⟨by decide +kernel, rfl⟩
theorem d_X12_letter_129 : decode mX12_letter.1 129 = .ok (.ireturn, 1) := by decide +kernel
theorem d_X12_letter_94 : decode mX12_letter.1 94 = .ok (.iconst 0, 1) ∧ 94 + 1 = 95 := ⟨by decide +kernel, rfl⟩
theorem d_X12_letter_95 : decode mX12_letter.1 95 = .ok (.ireturn, 1) := by decide +kernel
set_option maxRecDepth 100000 in
set_option maxHeartbeats 4000000 in
theorem g_X12_letter (l : Launch) (G : xa_C) (v0 v1 v2 v3 : Int) (h : xa_H) : xa_G l G 3 mX12_letter (f_X12_letter v0 v1 v2 v3 h) (fun r => some (some (xI r), h) : Int → Option xa_O) 0 [some (xR v0), some (xI v1), some (xI v2), some (xI v3), none, none, none, none, none] [] h := by
  unfold f_X12_letter
  refine xa_step (xa_iload_n d_X12_letter_0 rfl) ?_
  refine xa_step (xa_i2l d_X12_letter_1) ?_
  refine xa_step (xa_lconst d_X12_letter_2 rfl) ?_
  refine xa_step (xa_lconst d_X12_letter_3 rfl) ?_
  refine xa_callSi (as := [xL v1, xL 0, xL 1]) (st := []) (M' := mX12_isIn) (d' := 2) xw_1706 xw_1707 xw_1708 xw_177 xh_X12_isIn rfl ⟨Nat.le_of_ble_eq_true rfl, Nat.le_of_ble_eq_true rfl⟩ (Nat.le_of_ble_eq_true rfl) rfl d_X12_letter_4 (fun r hr => ct_X12_isIn l G v1 0 1 h r hr) (fun r1 _ => ?_)
  refine xa_if (xa_ifeq d_X12_letter_7) (fun q2 => ?_) (fun q2 => ?_)
  · refine xa_step (xa_iconst d_X12_letter_42 xq_i_m1) ?_
    exact xa_iret d_X12_letter_43 rfl rfl
  · refine xa_step (xa_iload_n d_X12_letter_10 rfl) ?_
    refine xa_step (xa_i2l d_X12_letter_11) ?_
    refine xa_step (xa_lconst d_X12_letter_12 rfl) ?_
    refine xa_step (xa_aload_n d_X12_letter_13 rfl) ?_
    refine xa_getf xR xc_12 (by decide) (fun _ => rfl) xw_1338 rfl d_X12_letter_14 (fun x3 _ => ?_)
    refine xa_step (xa_iconst d_X12_letter_17 xq_i_3) ?_
    refine xa_step (xa_iload_n d_X12_letter_18 rfl) ?_
    refine xa_step (xa_iadd d_X12_letter_19) ?_
    refine xa_iaload d_X12_letter_20 (fun x4 _ => ?_)
    refine xa_step (xa_iconst d_X12_letter_21 xq_i_1) ?_
    refine xa_step (xa_isub d_X12_letter_22) ?_
    refine xa_step (xa_i2l d_X12_letter_23) ?_
    refine xa_callSi (as := [xL v2, xL 0, xL (w32 (x4 - 1))]) (st := []) (M' := mX12_isIn) (d' := 2) xw_1706 xw_1707 xw_1708 xw_177 xh_X12_isIn rfl ⟨Nat.le_of_ble_eq_true rfl, Nat.le_of_ble_eq_true rfl⟩ (Nat.le_of_ble_eq_true rfl) rfl d_X12_letter_24 (fun r hr => ct_X12_isIn l G v2 0 (w32 (x4 - 1)) h r hr) (fun r5 _ => ?_)
    refine xa_if (xa_ifeq d_X12_letter_27) (fun q6 => ?_) (fun q6 => ?_)
    · refine xa_step (xa_iconst d_X12_letter_42 xq_i_m1) ?_
      exact xa_iret d_X12_letter_43 rfl rfl
    · refine xa_step (xa_iload_n d_X12_letter_30 rfl) ?_
      refine xa_step (xa_i2l d_X12_letter_31) ?_
      refine xa_step (xa_lconst d_X12_letter_32 rfl) ?_
      refine xa_step (xa_ldc2 (c64 := 5) (v := 5) (by decide +kernel) xw_1864 d_X12_letter_33) ?_
      refine xa_callSi (as := [xL v3, xL 0, xL 5]) (st := []) (M' := mX12_isIn) (d' := 2) xw_1706 xw_1707 xw_1708 xw_177 xh_X12_isIn rfl ⟨Nat.le_of_ble_eq_true rfl, Nat.le_of_ble_eq_true rfl⟩ (Nat.le_of_ble_eq_true rfl) rfl d_X12_letter_36 (fun r hr => ct_X12_isIn l G v3 0 5 h r hr) (fun r7 _ => ?_)
      refine xa_if (xa_ifne d_X12_letter_39) (fun q8 => ?_) (fun q8 => ?_)
      · refine xa_step (xa_iconst d_X12_letter_42 xq_i_m1) ?_
        exact xa_iret d_X12_letter_43 rfl rfl
      · refine xa_step (xa_aload_n d_X12_letter_44 rfl) ?_
        refine xa_getf xR xc_12 (by decide) (fun _ => rfl) xw_1339 rfl d_X12_letter_45 (fun x9 _ => ?_)
        refine xa_step (xa_bipush d_X12_letter_48 xq_b_12) ?_
        refine xa_step (xa_bipush d_X12_letter_50 xq_b_6) ?_
        refine xa_step (xa_iload_n d_X12_letter_52 rfl) ?_
        refine xa_step (xa_imul d_X12_letter_53) ?_
        refine xa_step (xa_iadd d_X12_letter_54) ?_
        refine xa_step (xa_iload_n d_X12_letter_55 rfl) ?_
        refine xa_step (xa_iadd d_X12_letter_56) ?_
        refine xa_laload d_X12_letter_57 (fun x10 _ => ?_)
        refine xa_step (xa_lstore (ls' := [some (xR v0), some (xI v1), some (xI v2), some (xI v3), some (xL x10), none, none, none, none]) d_X12_letter_58 (by decide) rfl) ?_
        refine xa_step (xa_iconst d_X12_letter_60 xq_i_0) ?_
        refine xa_step (xa_istore (ls' := [some (xR v0), some (xI v1), some (xI v2), some (xI v3), some (xL x10), none, some (xI 0), none, none]) d_X12_letter_61 (by decide) rfl) ?_
        refine xa_step (xa_lload d_X12_letter_63 rfl) ?_
        refine xa_step (xa_lstore (ls' := [some (xR v0), some (xI v1), some (xI v2), some (xI v3), some (xL x10), none, some (xI 0), some (xL x10), none]) d_X12_letter_65 (by decide) rfl) ?_
        refine xa_weak (ls' := [none, none, none, some (xI v3), some (xL x10), none, some (xI 0), some (xL x10), none]) ⟨rfl, rfl, rfl, rfl, trivial⟩ ?_
        refine xa_loop (f := fun s => f_X12_letter_L67 v3 x10 h s.1 s.2) (L := fun s => [none, none, none, some (xI v3), some (xL x10), none, some (xI s.1), some (xL s.2), none]) (P := fun s => h) (X := (fun x K => xa_G l G 3 mX12_letter (some (Sum.inr x)) K 88 [none, none, none, some (xI v3), some (xL x10), none, some (xI x), none, none] [] h)) (fun K hb hX s => g_X12_letter_L67 l G v3 x10 h K (fun w0 w1 => hb ((w0, w1))) (fun w0 => hX w0) s.1 s.2) ?_ xFU ((0, x10))
        intro e12 K hK
        refine xa_eqE hK ?_
        show xa_G l G 3 mX12_letter _ _ 88 [none, none, none, some (xI v3), some (xL x10), none, some (xI e12), none, none] [] h
        refine xa_step (xa_iload_n d_X12_letter_88 rfl) ?_
        refine xa_step (xa_iload d_X12_letter_89 rfl) ?_
        refine xa_if (xa_icmplt d_X12_letter_91) (fun q13 => ?_) (fun q13 => ?_)
        · refine xa_step (xa_iload d_X12_letter_96 rfl) ?_
          refine xa_step (xa_iconst d_X12_letter_98 xq_i_1) ?_
          refine xa_step (xa_isub d_X12_letter_99) ?_
          refine xa_step (xa_istore (ls' := [none, none, none, some (xI v3), some (xL x10), none, some (xI e12), some (xI (w32 (e12 - 1))), none]) d_X12_letter_100 (by decide) rfl) ?_
          refine xa_weak (ls' := [none, none, none, some (xI v3), some (xL x10), none, none, some (xI (w32 (e12 - 1))), none]) ⟨rfl, rfl, rfl, trivial⟩ ?_
          refine xa_loop (f := fun s => f_X12_letter_L102 v3 h s.1 s.2) (L := fun s => [none, none, none, some (xI v3), some (xL s.1), none, none, some (xI s.2), none]) (P := fun s => h) (X := (fun x K => xa_G l G 3 mX12_letter (some (Sum.inr x)) K 122 [none, none, none, none, some (xL x), none, none, none, none] [] h)) (fun K hb hX s => g_X12_letter_L102 l G v3 h K (fun w0 w1 => hb ((w0, w1))) (fun w0 => hX w0) s.1 s.2) ?_ xFU ((x10, w32 (e12 - 1)))
          intro e15 K hK
          refine xa_eqE hK ?_
          show xa_G l G 3 mX12_letter _ _ 122 [none, none, none, none, some (xL e15), none, none, none, none] [] h
          refine xa_step (xa_lload d_X12_letter_122 rfl) ?_
          refine xa_step (xa_ldc2 (c64 := 27) (v := 27) (by decide +kernel) xw_1689 d_X12_letter_124) ?_
          refine xa_step (xa_lrem d_X12_letter_127 (by decide)) ?_
          refine xa_step (xa_l2i d_X12_letter_128) ?_
          exact xa_iret d_X12_letter_129 rfl rfl
        · refine xa_step (xa_iconst d_X12_letter_94 xq_i_0) ?_
          exact xa_iret d_X12_letter_95 rfl rfl
theorem ct_X12_letter (l : Launch) (G : xa_C) (v0 v1 v2 v3 : Int) (h : xa_H) (r : Int) (hr : f_X12_letter v0 v1 v2 v3 h = some r) : xa_CT l G 3 mX12_letter yX12_letter [xR v0, xI v1, xI v2, xI v3] h (some (xI r), h) :=
  xa_met (by decide +kernel) rfl (fun q => by first | rfl | cases q) (Nat.le_of_ble_eq_true rfl) rfl (g_X12_letter l G v0 v1 v2 v3 h) (by rw [hr]; rfl)
