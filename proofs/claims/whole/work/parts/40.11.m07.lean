abbrev mX12_init : xa_M := (cX12_init, 1, none, RX12, true)
theorem d_X12_init_0 : decode mX12_init.1 0 = .ok (.aload_n 0, 1) ∧ 0 + 1 = 1 := ⟨by decide +kernel, rfl⟩
theorem d_X12_init_1 : decode mX12_init.1 1 = .ok (.invokespecial 1, 3) ∧ 1 + 3 = 4 := ⟨by decide +kernel, rfl⟩
theorem d_X12_init_4 : decode mX12_init.1 4 = .ok (.aload_n 0, 1) ∧ 4 + 1 = 5 := ⟨by decide +kernel, rfl⟩
theorem d_X12_init_5 : decode mX12_init.1 5 = .ok (.sipush 1600, 3) ∧ 5 + 3 = 8 := ⟨by decide +kernel, rfl⟩
theorem d_X12_init_8 : decode mX12_init.1 8 = .ok (.newarray .int, 2) ∧ 8 + 2 = 10 := ⟨by decide +kernel, rfl⟩
theorem d_X12_init_10 : decode mX12_init.1 10 = .ok (.putfield 7, 3) ∧ 10 + 3 = 13 := ⟨by decide +kernel, rfl⟩
theorem d_X12_init_13 : decode mX12_init.1 13 = .ok (.aload_n 0, 1) ∧ 13 + 1 = 14 := ⟨by decide +kernel, rfl⟩
theorem d_X12_init_14 : decode mX12_init.1 14 = .ok (.iconst (-1), 1) ∧ 14 + 1 = 15 := ⟨by decide +kernel, rfl⟩
theorem d_X12_init_15 : decode mX12_init.1 15 = .ok (.putfield 13, 3) ∧ 15 + 3 = 18 := ⟨by decide +kernel, rfl⟩
theorem d_X12_init_18 : decode mX12_init.1 18 = .ok (.aload_n 0, 1) ∧ 18 + 1 = 19 := ⟨by decide +kernel, rfl⟩
theorem d_X12_init_19 : decode mX12_init.1 19 = .ok (.bipush 6, 2) ∧ 19 + 2 = 21 := ⟨by decide +kernel, rfl⟩
theorem d_X12_init_21 : decode mX12_init.1 21 = .ok (.newarray .int, 2) ∧ 21 + 2 = 23 := ⟨by decide +kernel, rfl⟩
theorem d_X12_init_23 : decode mX12_init.1 23 = .ok (.putfield 17, 3) ∧ 23 + 3 = 26 := ⟨by decide +kernel, rfl⟩
theorem d_X12_init_26 : decode mX12_init.1 26 = .ok (.aload_n 0, 1) ∧ 26 + 1 = 27 := ⟨by decide +kernel, rfl⟩
theorem d_X12_init_27 : decode mX12_init.1 27 = .ok (.iconst 4, 1) ∧ 27 + 1 = 28 := ⟨by decide +kernel, rfl⟩
theorem d_X12_init_28 : decode mX12_init.1 28 = .ok (.newarray .char, 2) ∧ 28 + 2 = 30 := ⟨by decide +kernel, rfl⟩
theorem d_X12_init_30 : decode mX12_init.1 30 = .ok (.dup, 1) ∧ 30 + 1 = 31 := ⟨by decide +kernel, rfl⟩
theorem d_X12_init_31 : decode mX12_init.1 31 = .ok (.iconst 0, 1) ∧ 31 + 1 = 32 := ⟨by decide +kernel, rfl⟩
theorem d_X12_init_32 : decode mX12_init.1 32 = .ok (.bipush 104, 2) ∧ 32 + 2 = 34 := ⟨by decide +kernel, rfl⟩
theorem d_X12_init_34 : decode mX12_init.1 34 = .ok (.castore, 1) ∧ 34 + 1 = 35 := ⟨by decide +kernel, rfl⟩
theorem d_X12_init_35 : decode mX12_init.1 35 = .ok (.dup, 1) ∧ 35 + 1 = 36 := ⟨by decide +kernel, rfl⟩
theorem d_X12_init_36 : decode mX12_init.1 36 = .ok (.iconst 1, 1) ∧ 36 + 1 = 37 := ⟨by decide +kernel, rfl⟩
theorem d_X12_init_37 : decode mX12_init.1 37 = .ok (.bipush 101, 2) ∧ 37 + 2 = 39 := ⟨by decide +kernel, rfl⟩
theorem d_X12_init_39 : decode mX12_init.1 39 = .ok (.castore, 1) ∧ 39 + 1 = 40 := ⟨by decide +kernel, rfl⟩
theorem d_X12_init_40 : decode mX12_init.1 40 = .ok (.dup, 1) ∧ 40 + 1 = 41 := ⟨by decide +kernel, rfl⟩
theorem d_X12_init_41 : decode mX12_init.1 41 = .ok (.iconst 2, 1) ∧ 41 + 1 = 42 := ⟨by decide +kernel, rfl⟩
theorem d_X12_init_42 : decode mX12_init.1 42 = .ok (.bipush 108, 2) ∧ 42 + 2 = 44 := ⟨by decide +kernel, rfl⟩
theorem d_X12_init_44 : decode mX12_init.1 44 = .ok (.castore, 1) ∧ 44 + 1 = 45 := ⟨by decide +kernel, rfl⟩
theorem d_X12_init_45 : decode mX12_init.1 45 = .ok (.dup, 1) ∧ 45 + 1 = 46 := ⟨by decide +kernel, rfl⟩
theorem d_X12_init_46 : decode mX12_init.1 46 = .ok (.iconst 3, 1) ∧ 46 + 1 = 47 := ⟨by decide +kernel, rfl⟩
theorem d_X12_init_47 : decode mX12_init.1 47 = .ok (.bipush 100, 2) ∧ 47 + 2 = 49 := ⟨by decide +kernel, rfl⟩
theorem d_X12_init_49 : decode mX12_init.1 49 = .ok (.castore, 1) ∧ 49 + 1 = 50 := ⟨by decide +kernel, rfl⟩
theorem d_X12_init_50 : decode mX12_init.1 50 = .ok (.putfield 20, 3) ∧ 50 + 3 = 53 := ⟨by decide +kernel, rfl⟩
theorem d_X12_init_53 : decode mX12_init.1 53 = .ok (.aload_n 0, 1) ∧ 53 + 1 = 54 := ⟨by decide +kernel, rfl⟩
theorem d_X12_init_54 : decode mX12_init.1 54 = .ok (.iconst 4, 1) ∧ 54 + 1 = 55 := ⟨by decide +kernel, rfl⟩
theorem d_X12_init_55 : decode mX12_init.1 55 = .ok (.newarray .char, 2) ∧ 55 + 2 = 57 := ⟨by decide +kernel, rfl⟩
theorem d_X12_init_57 : decode mX12_init.1 57 = .ok (.dup, 1) ∧ 57 + 1 = 58 := ⟨by decide +kernel, rfl⟩
theorem d_X12_init_58 : decode mX12_init.1 58 = .ok (.iconst 0, 1) ∧ 58 + 1 = 59 := ⟨by decide +kernel, rfl⟩
theorem d_X12_init_59 : decode mX12_init.1 59 = .ok (.bipush 115, 2) ∧ 59 + 2 = 61 := ⟨by decide +kernel, rfl⟩
theorem d_X12_init_61 : decode mX12_init.1 61 = .ok (.castore, 1) ∧ 61 + 1 = 62 := ⟨by decide +kernel, rfl⟩
theorem d_X12_init_62 : decode mX12_init.1 62 = .ok (.dup, 1) ∧ 62 + 1 = 63 := ⟨by decide +kernel, rfl⟩
theorem d_X12_init_63 : decode mX12_init.1 63 = .ok (.iconst 1, 1) ∧ 63 + 1 = 64 := ⟨by decide +kernel, rfl⟩
theorem d_X12_init_64 : decode mX12_init.1 64 = .ok (.bipush 97, 2) ∧ 64 + 2 = 66 := ⟨by decide +kernel, rfl⟩
theorem d_X12_init_66 : decode mX12_init.1 66 = .ok (.castore, 1) ∧ 66 + 1 = 67 := ⟨by decide +kernel, rfl⟩
theorem d_X12_init_67 : decode mX12_init.1 67 = .ok (.dup, 1) ∧ 67 + 1 = 68 := ⟨by decide +kernel, rfl⟩
theorem d_X12_init_68 : decode mX12_init.1 68 = .ok (.iconst 2, 1) ∧ 68 + 1 = 69 := ⟨by decide +kernel, rfl⟩
theorem d_X12_init_69 : decode mX12_init.1 69 = .ok (.bipush 108, 2) ∧ 69 + 2 = 71 := ⟨by decide +kernel, rfl⟩
theorem d_X12_init_71 : decode mX12_init.1 71 = .ok (.castore, 1) ∧ 71 + 1 = 72 := ⟨by decide +kernel, rfl⟩
theorem d_X12_init_72 : decode mX12_init.1 72 = .ok (.dup, 1) ∧ 72 + 1 = 73 := ⟨by decide +kernel, rfl⟩
theorem d_X12_init_73 : decode mX12_init.1 73 = .ok (.iconst 3, 1) ∧ 73 + 1 = 74 := ⟨by decide +kernel, rfl⟩
theorem d_X12_init_74 : decode mX12_init.1 74 = .ok (.bipush 116, 2) ∧ 74 + 2 = 76 := ⟨by decide +kernel, rfl⟩
theorem d_X12_init_76 : decode mX12_init.1 76 = .ok (.castore, 1) ∧ 76 + 1 = 77 := ⟨by decide +kernel, rfl⟩
theorem d_X12_init_77 : decode mX12_init.1 77 = .ok (.putfield 24, 3) ∧ 77 + 3 = 80 := ⟨by decide +kernel, rfl⟩
theorem d_X12_init_80 : decode mX12_init.1 80 = .ok (.aload_n 0, 1) ∧ 80 + 1 = 81 := ⟨by decide +kernel, rfl⟩
theorem d_X12_init_81 : decode mX12_init.1 81 = .ok (.bipush 6, 2) ∧ 81 + 2 = 83 := ⟨by decide +kernel, rfl⟩
theorem d_X12_init_83 : decode mX12_init.1 83 = .ok (.newarray .char, 2) ∧ 83 + 2 = 85 := ⟨by decide +kernel, rfl⟩
theorem d_X12_init_85 : decode mX12_init.1 85 = .ok (.dup, 1) ∧ 85 + 1 = 86 := ⟨by decide +kernel, rfl⟩
theorem d_X12_init_86 : decode mX12_init.1 86 = .ok (.iconst 0, 1) ∧ 86 + 1 = 87 := ⟨by decide +kernel, rfl⟩
theorem d_X12_init_87 : decode mX12_init.1 87 = .ok (.bipush 104, 2) ∧ 87 + 2 = 89 := ⟨by decide +kernel, rfl⟩
theorem d_X12_init_89 : decode mX12_init.1 89 = .ok (.castore, 1) ∧ 89 + 1 = 90 := ⟨by decide +kernel, rfl⟩
theorem d_X12_init_90 : decode mX12_init.1 90 = .ok (.dup, 1) ∧ 90 + 1 = 91 := ⟨by decide +kernel, rfl⟩
theorem d_X12_init_91 : decode mX12_init.1 91 = .ok (.iconst 1, 1) ∧ 91 + 1 = 92 := ⟨by decide +kernel, rfl⟩
theorem d_X12_init_92 : decode mX12_init.1 92 = .ok (.bipush 111, 2) ∧ 92 + 2 = 94 := ⟨by decide +kernel, rfl⟩
theorem d_X12_init_94 : decode mX12_init.1 94 = .ok (.castore, 1) ∧ 94 + 1 = 95 := ⟨by decide +kernel, rfl⟩
theorem d_X12_init_95 : decode mX12_init.1 95 = .ok (.dup, 1) ∧ 95 + 1 = 96 := ⟨by decide +kernel, rfl⟩
theorem d_X12_init_96 : decode mX12_init.1 96 = .ok (.iconst 2, 1) ∧ 96 + 1 = 97 := ⟨by decide +kernel, rfl⟩
theorem d_X12_init_97 : decode mX12_init.1 97 = .ok (.bipush 108, 2) ∧ 97 + 2 = 99 := ⟨by decide +kernel, rfl⟩
theorem d_X12_init_99 : decode mX12_init.1 99 = .ok (.castore, 1) ∧ 99 + 1 = 100 := ⟨by decide +kernel, rfl⟩
theorem d_X12_init_100 : decode mX12_init.1 100 = .ok (.dup, 1) ∧ 100 + 1 = 101 := ⟨by decide +kernel, rfl⟩
theorem d_X12_init_101 : decode mX12_init.1 101 = .ok (.iconst 3, 1) ∧ 101 + 1 = 102 := ⟨by decide +kernel, rfl⟩
theorem d_X12_init_102 : decode mX12_init.1 102 = .ok (.bipush 100, 2) ∧ 102 + 2 = 104 := ⟨by decide +kernel, rfl⟩
theorem d_X12_init_104 : decode mX12_init.1 104 = .ok (.castore, 1) ∧ 104 + 1 = 105 := ⟨by decide +kernel, rfl⟩
theorem d_X12_init_105 : decode mX12_init.1 105 = .ok (.dup, 1) ∧ 105 + 1 = 106 := ⟨by decide +kernel, rfl⟩
theorem d_X12_init_106 : decode mX12_init.1 106 = .ok (.iconst 4, 1) ∧ 106 + 1 = 107 := ⟨by decide +kernel, rfl⟩
theorem d_X12_init_107 : decode mX12_init.1 107 = .ok (.bipush 101, 2) ∧ 107 + 2 = 109 := ⟨by decide +kernel, rfl⟩
theorem d_X12_init_109 : decode mX12_init.1 109 = .ok (.castore, 1) ∧ 109 + 1 = 110 := ⟨by decide +kernel, rfl⟩
theorem d_X12_init_110 : decode mX12_init.1 110 = .ok (.dup, 1) ∧ 110 + 1 = 111 := ⟨by decide +kernel, rfl⟩
theorem d_X12_init_111 : decode mX12_init.1 111 = .ok (.iconst 5, 1) ∧ 111 + 1 = 112 := ⟨by decide +kernel, rfl⟩
theorem d_X12_init_112 : decode mX12_init.1 112 = .ok (.bipush 114, 2) ∧ 112 + 2 = 114 := ⟨by decide +kernel, rfl⟩
theorem d_X12_init_114 : decode mX12_init.1 114 = .ok (.castore, 1) ∧ 114 + 1 = 115 := ⟨by decide +kernel, rfl⟩
theorem d_X12_init_115 : decode mX12_init.1 115 = .ok (.putfield 27, 3) ∧ 115 + 3 = 118 := ⟨by decide +kernel, rfl⟩
theorem d_X12_init_118 : decode mX12_init.1 118 = .ok (.aload_n 0, 1) ∧ 118 + 1 = 119 := ⟨by decide +kernel, rfl⟩
theorem d_X12_init_119 : decode mX12_init.1 119 = .ok (.iconst 3, 1) ∧ 119 + 1 = 120 := ⟨by decide +kernel, rfl⟩
theorem d_X12_init_120 : decode mX12_init.1 120 = .ok (.newarray .char, 2) ∧ 120 + 2 = 122 := ⟨by decide +kernel, rfl⟩
theorem d_X12_init_122 : decode mX12_init.1 122 = .ok (.dup, 1) ∧ 122 + 1 = 123 := ⟨by decide +kernel, rfl⟩
theorem d_X12_init_123 : decode mX12_init.1 123 = .ok (.iconst 0, 1) ∧ 123 + 1 = 124 := ⟨by decide +kernel, rfl⟩
theorem d_X12_init_124 : decode mX12_init.1 124 = .ok (.bipush 104, 2) ∧ 124 + 2 = 126 := ⟨by decide +kernel, rfl⟩
theorem d_X12_init_126 : decode mX12_init.1 126 = .ok (.castore, 1) ∧ 126 + 1 = 127 := ⟨by decide +kernel, rfl⟩
theorem d_X12_init_127 : decode mX12_init.1 127 = .ok (.dup, 1) ∧ 127 + 1 = 128 := ⟨by decide +kernel, rfl⟩
theorem d_X12_init_128 : decode mX12_init.1 128 = .ok (.iconst 1, 1) ∧ 128 + 1 = 129 := ⟨by decide +kernel, rfl⟩
theorem d_X12_init_129 : decode mX12_init.1 129 = .ok (.bipush 97, 2) ∧ 129 + 2 = 131 := ⟨by decide +kernel, rfl⟩
theorem d_X12_init_131 : decode mX12_init.1 131 = .ok (.castore, 1) ∧ 131 + 1 = 132 := ⟨by decide +kernel, rfl⟩
theorem d_X12_init_132 : decode mX12_init.1 132 = .ok (.dup, 1) ∧ 132 + 1 = 133 := ⟨by decide +kernel, rfl⟩
theorem d_X12_init_133 : decode mX12_init.1 133 = .ok (.iconst 2, 1) ∧ 133 + 1 = 134 := ⟨by decide +kernel, rfl⟩
theorem d_X12_init_134 : decode mX12_init.1 134 = .ok (.bipush 115, 2) ∧ 134 + 2 = 136 := ⟨by decide +kernel, rfl⟩
theorem d_X12_init_136 : decode mX12_init.1 136 = .ok (.castore, 1) ∧ 136 + 1 = 137 := ⟨by decide +kernel, rfl⟩
theorem d_X12_init_137 : decode mX12_init.1 137 = .ok (.putfield 30, 3) ∧ 137 + 3 = 140 := ⟨by decide +kernel, rfl⟩
theorem d_X12_init_140 : decode mX12_init.1 140 = .ok (.aload_n 0, 1) ∧ 140 + 1 = 141 := ⟨by decide +kernel, rfl⟩
theorem d_X12_init_141 : decode mX12_init.1 141 = .ok (.iconst 5, 1) ∧ 141 + 1 = 142 := ⟨by decide +kernel, rfl⟩
theorem d_X12_init_142 : decode mX12_init.1 142 = .ok (.newarray .char, 2) ∧ 142 + 2 = 144 := ⟨by decide +kernel, rfl⟩
theorem d_X12_init_144 : decode mX12_init.1 144 = .ok (.dup, 1) ∧ 144 + 1 = 145 := ⟨by decide +kernel, rfl⟩
theorem d_X12_init_145 : decode mX12_init.1 145 = .ok (.iconst 0, 1) ∧ 145 + 1 = 146 := ⟨by decide +kernel, rfl⟩
theorem d_X12_init_146 : decode mX12_init.1 146 = .ok (.bipush 119, 2) ∧ 146 + 2 = 148 := ⟨by decide +kernel, rfl⟩
theorem d_X12_init_148 : decode mX12_init.1 148 = .ok (.castore, 1) ∧ 148 + 1 = 149 := ⟨by decide +kernel, rfl⟩
theorem d_X12_init_149 : decode mX12_init.1 149 = .ok (.dup, 1) ∧ 149 + 1 = 150 := ⟨by decide +kernel, rfl⟩
theorem d_X12_init_150 : decode mX12_init.1 150 = .ok (.iconst 1, 1) ∧ 150 + 1 = 151 := ⟨by decide +kernel, rfl⟩
theorem d_X12_init_151 : decode mX12_init.1 151 = .ok (.bipush 97, 2) ∧ 151 + 2 = 153 := ⟨by decide +kernel, rfl⟩
theorem d_X12_init_153 : decode mX12_init.1 153 = .ok (.castore, 1) ∧ 153 + 1 = 154 := ⟨by decide +kernel, rfl⟩
theorem d_X12_init_154 : decode mX12_init.1 154 = .ok (.dup, 1) ∧ 154 + 1 = 155 := ⟨by decide +kernel, rfl⟩
theorem d_X12_init_155 : decode mX12_init.1 155 = .ok (.iconst 2, 1) ∧ 155 + 1 = 156 := ⟨by decide +kernel, rfl⟩
theorem d_X12_init_156 : decode mX12_init.1 156 = .ok (.bipush 110, 2) ∧ 156 + 2 = 158 := ⟨by decide +kernel, rfl⟩
theorem d_X12_init_158 : decode mX12_init.1 158 = .ok (.castore, 1) ∧ 158 + 1 = 159 := ⟨by decide +kernel, rfl⟩
theorem d_X12_init_159 : decode mX12_init.1 159 = .ok (.dup, 1) ∧ 159 + 1 = 160 := ⟨by decide +kernel, rfl⟩
theorem d_X12_init_160 : decode mX12_init.1 160 = .ok (.iconst 3, 1) ∧ 160 + 1 = 161 := ⟨by decide +kernel, rfl⟩
theorem d_X12_init_161 : decode mX12_init.1 161 = .ok (.bipush 116, 2) ∧ 161 + 2 = 163 := ⟨by decide +kernel, rfl⟩
theorem d_X12_init_163 : decode mX12_init.1 163 = .ok (.castore, 1) ∧ 163 + 1 = 164 := ⟨by decide +kernel, rfl⟩
theorem d_X12_init_164 : decode mX12_init.1 164 = .ok (.dup, 1) ∧ 164 + 1 = 165 := ⟨by decide +kernel, rfl⟩
theorem d_X12_init_165 : decode mX12_init.1 165 = .ok (.iconst 4, 1) ∧ 165 + 1 = 166 := ⟨by decide +kernel, rfl⟩
theorem d_X12_init_166 : decode mX12_init.1 166 = .ok (.bipush 115, 2) ∧ 166 + 2 = 168 := ⟨by decide +kernel, rfl⟩
theorem d_X12_init_168 : decode mX12_init.1 168 = .ok (.castore, 1) ∧ 168 + 1 = 169 := ⟨by decide +kernel, rfl⟩
theorem d_X12_init_169 : decode mX12_init.1 169 = .ok (.putfield 33, 3) ∧ 169 + 3 = 172 := ⟨by decide +kernel, rfl⟩
theorem d_X12_init_172 : decode mX12_init.1 172 = .ok (.aload_n 0, 1) ∧ 172 + 1 = 173 := ⟨by decide +kernel, rfl⟩
theorem d_X12_init_173 : decode mX12_init.1 173 = .ok (.iconst 5, 1) ∧ 173 + 1 = 174 := ⟨by decide +kernel, rfl⟩
theorem d_X12_init_174 : decode mX12_init.1 174 = .ok (.newarray .char, 2) ∧ 174 + 2 = 176 := ⟨by decide +kernel, rfl⟩
theorem d_X12_init_176 : decode mX12_init.1 176 = .ok (.dup, 1) ∧ 176 + 1 = 177 := ⟨by decide +kernel, rfl⟩
theorem d_X12_init_177 : decode mX12_init.1 177 = .ok (.iconst 0, 1) ∧ 177 + 1 = 178 := ⟨by decide +kernel, rfl⟩
theorem d_X12_init_178 : decode mX12_init.1 178 = .ok (.bipush 112, 2) ∧ 178 + 2 = 180 := ⟨by decide +kernel, rfl⟩
theorem d_X12_init_180 : decode mX12_init.1 180 = .ok (.castore, 1) ∧ 180 + 1 = 181 := ⟨by decide +kernel, rfl⟩
theorem d_X12_init_181 : decode mX12_init.1 181 = .ok (.dup, 1) ∧ 181 + 1 = 182 := ⟨by decide +kernel, rfl⟩
theorem d_X12_init_182 : decode mX12_init.1 182 = .ok (.iconst 1, 1) ∧ 182 + 1 = 183 := ⟨by decide +kernel, rfl⟩
theorem d_X12_init_183 : decode mX12_init.1 183 = .ok (.bipush 117, 2) ∧ 183 + 2 = 185 := ⟨by decide +kernel, rfl⟩
theorem d_X12_init_185 : decode mX12_init.1 185 = .ok (.castore, 1) ∧ 185 + 1 = 186 := ⟨by decide +kernel, rfl⟩
theorem d_X12_init_186 : decode mX12_init.1 186 = .ok (.dup, 1) ∧ 186 + 1 = 187 := ⟨by decide +kernel, rfl⟩
theorem d_X12_init_187 : decode mX12_init.1 187 = .ok (.iconst 2, 1) ∧ 187 + 1 = 188 := ⟨by decide +kernel, rfl⟩
theorem d_X12_init_188 : decode mX12_init.1 188 = .ok (.bipush 114, 2) ∧ 188 + 2 = 190 := ⟨by decide +kernel, rfl⟩
theorem d_X12_init_190 : decode mX12_init.1 190 = .ok (.castore, 1) ∧ 190 + 1 = 191 := ⟨by decide +kernel, rfl⟩
theorem d_X12_init_191 : decode mX12_init.1 191 = .ok (.dup, 1) ∧ 191 + 1 = 192 := ⟨by decide +kernel, rfl⟩
theorem d_X12_init_192 : decode mX12_init.1 192 = .ok (.iconst 3, 1) ∧ 192 + 1 = 193 := ⟨by decide +kernel, rfl⟩
theorem d_X12_init_193 : decode mX12_init.1 193 = .ok (.bipush 115, 2) ∧ 193 + 2 = 195 := ⟨by decide +kernel, rfl⟩
theorem d_X12_init_195 : decode mX12_init.1 195 = .ok (.castore, 1) ∧ 195 + 1 = 196 := ⟨by decide +kernel, rfl⟩
theorem d_X12_init_196 : decode mX12_init.1 196 = .ok (.dup, 1) ∧ 196 + 1 = 197 := ⟨by decide +kernel, rfl⟩
theorem d_X12_init_197 : decode mX12_init.1 197 = .ok (.iconst 4, 1) ∧ 197 + 1 = 198 := ⟨by decide +kernel, rfl⟩
theorem d_X12_init_198 : decode mX12_init.1 198 = .ok (.bipush 101, 2) ∧ 198 + 2 = 200 := ⟨by decide +kernel, rfl⟩
theorem d_X12_init_200 : decode mX12_init.1 200 = .ok (.castore, 1) ∧ 200 + 1 = 201 := ⟨by decide +kernel, rfl⟩
theorem d_X12_init_201 : decode mX12_init.1 201 = .ok (.putfield 36, 3) ∧ 201 + 3 = 204 := ⟨by decide +kernel, rfl⟩
theorem d_X12_init_204 : decode mX12_init.1 204 = .ok (.aload_n 0, 1) ∧ 204 + 1 = 205 := ⟨by decide +kernel, rfl⟩
theorem d_X12_init_205 : decode mX12_init.1 205 = .ok (.bipush 6, 2) ∧ 205 + 2 = 207 := ⟨by decide +kernel, rfl⟩
theorem d_X12_init_207 : decode mX12_init.1 207 = .ok (.newarray .char, 2) ∧ 207 + 2 = 209 := ⟨by decide +kernel, rfl⟩
theorem d_X12_init_209 : decode mX12_init.1 209 = .ok (.dup, 1) ∧ 209 + 1 = 210 := ⟨by decide +kernel, rfl⟩
theorem d_X12_init_210 : decode mX12_init.1 210 = .ok (.iconst 0, 1) ∧ 210 + 1 = 211 := ⟨by decide +kernel, rfl⟩
theorem d_X12_init_211 : decode mX12_init.1 211 = .ok (.bipush 118, 2) ∧ 211 + 2 = 213 := ⟨by decide +kernel, rfl⟩
theorem d_X12_init_213 : decode mX12_init.1 213 = .ok (.castore, 1) ∧ 213 + 1 = 214 := ⟨by decide +kernel, rfl⟩
theorem d_X12_init_214 : decode mX12_init.1 214 = .ok (.dup, 1) ∧ 214 + 1 = 215 := ⟨by decide +kernel, rfl⟩
theorem d_X12_init_215 : decode mX12_init.1 215 = .ok (.iconst 1, 1) ∧ 215 + 1 = 216 := ⟨by decide +kernel, rfl⟩
theorem d_X12_init_216 : decode mX12_init.1 216 = .ok (.bipush 97, 2) ∧ 216 + 2 = 218 := ⟨by decide +kernel, rfl⟩
theorem d_X12_init_218 : decode mX12_init.1 218 = .ok (.castore, 1) ∧ 218 + 1 = 219 := ⟨by decide +kernel, rfl⟩
theorem d_X12_init_219 : decode mX12_init.1 219 = .ok (.dup, 1) ∧ 219 + 1 = 220 := ⟨by decide +kernel, rfl⟩
theorem d_X12_init_220 : decode mX12_init.1 220 = .ok (.iconst 2, 1) ∧ 220 + 1 = 221 := ⟨by decide +kernel, rfl⟩
theorem d_X12_init_221 : decode mX12_init.1 221 = .ok (.bipush 108, 2) ∧ 221 + 2 = 223 := ⟨by decide +kernel, rfl⟩
theorem d_X12_init_223 : decode mX12_init.1 223 = .ok (.castore, 1) ∧ 223 + 1 = 224 := ⟨by decide +kernel, rfl⟩
theorem d_X12_init_224 : decode mX12_init.1 224 = .ok (.dup, 1) ∧ 224 + 1 = 225 := ⟨by decide +kernel, rfl⟩
theorem d_X12_init_225 : decode mX12_init.1 225 = .ok (.iconst 3, 1) ∧ 225 + 1 = 226 := ⟨by decide +kernel, rfl⟩
theorem d_X12_init_226 : decode mX12_init.1 226 = .ok (.bipush 117, 2) ∧ 226 + 2 = 228 := ⟨by decide +kernel, rfl⟩
theorem d_X12_init_228 : decode mX12_init.1 228 = .ok (.castore, 1) ∧ 228 + 1 = 229 := ⟨by decide +kernel, rfl⟩
theorem d_X12_init_229 : decode mX12_init.1 229 = .ok (.dup, 1) ∧ 229 + 1 = 230 := ⟨by decide +kernel, rfl⟩
theorem d_X12_init_230 : decode mX12_init.1 230 = .ok (.iconst 4, 1) ∧ 230 + 1 = 231 := ⟨by decide +kernel, rfl⟩
theorem d_X12_init_231 : decode mX12_init.1 231 = .ok (.bipush 101, 2) ∧ 231 + 2 = 233 := ⟨by decide +kernel, rfl⟩
theorem d_X12_init_233 : decode mX12_init.1 233 = .ok (.castore, 1) ∧ 233 + 1 = 234 := ⟨by decide +kernel, rfl⟩
theorem d_X12_init_234 : decode mX12_init.1 234 = .ok (.dup, 1) ∧ 234 + 1 = 235 := ⟨by decide +kernel, rfl⟩
theorem d_X12_init_235 : decode mX12_init.1 235 = .ok (.iconst 5, 1) ∧ 235 + 1 = 236 := ⟨by decide +kernel, rfl⟩
theorem d_X12_init_236 : decode mX12_init.1 236 = .ok (.bipush 115, 2) ∧ 236 + 2 = 238 := ⟨by decide +kernel, rfl⟩
theorem d_X12_init_238 : decode mX12_init.1 238 = .ok (.castore, 1) ∧ 238 + 1 = 239 := ⟨by decide +kernel, rfl⟩
theorem d_X12_init_239 : decode mX12_init.1 239 = .ok (.putfield 39, 3) ∧ 239 + 3 = 242 := ⟨by decide +kernel, rfl⟩
theorem d_X12_init_242 : decode mX12_init.1 242 = .ok (.aload_n 0, 1) ∧ 242 + 1 = 243 := ⟨by decide +kernel, rfl⟩
theorem d_X12_init_243 : decode mX12_init.1 243 = .ok (.iconst 4, 1) ∧ 243 + 1 = 244 := ⟨by decide +kernel, rfl⟩
theorem d_X12_init_244 : decode mX12_init.1 244 = .ok (.newarray .char, 2) ∧ 244 + 2 = 246 := ⟨by decide +kernel, rfl⟩
theorem d_X12_init_246 : decode mX12_init.1 246 = .ok (.dup, 1) ∧ 246 + 1 = 247 := ⟨by decide +kernel, rfl⟩
theorem d_X12_init_247 : decode mX12_init.1 247 = .ok (.iconst 0, 1) ∧ 247 + 1 = 248 := ⟨by decide +kernel, rfl⟩
theorem d_X12_init_248 : decode mX12_init.1 248 = .ok (.bipush 102, 2) ∧ 248 + 2 = 250 := ⟨by decide +kernel, rfl⟩
theorem d_X12_init_250 : decode mX12_init.1 250 = .ok (.castore, 1) ∧ 250 + 1 = 251 := ⟨by decide +kernel, rfl⟩
theorem d_X12_init_251 : decode mX12_init.1 251 = .ok (.dup, 1) ∧ 251 + 1 = 252 := ⟨by decide +kernel, rfl⟩
theorem d_X12_init_252 : decode mX12_init.1 252 = .ok (.iconst 1, 1) ∧ 252 + 1 = 253 := ⟨by decide +kernel, rfl⟩
theorem d_X12_init_253 : decode mX12_init.1 253 = .ok (.bipush 101, 2) ∧ 253 + 2 = 255 := ⟨by decide +kernel, rfl⟩
theorem d_X12_init_255 : decode mX12_init.1 255 = .ok (.castore, 1) ∧ 255 + 1 = 256 := ⟨by decide +kernel, rfl⟩
theorem d_X12_init_256 : decode mX12_init.1 256 = .ok (.dup, 1) ∧ 256 + 1 = 257 := ⟨by decide +kernel, rfl⟩
theorem d_X12_init_257 : decode mX12_init.1 257 = .ok (.iconst 2, 1) ∧ 257 + 1 = 258 := ⟨by decide +kernel, rfl⟩
theorem d_X12_init_258 : decode mX12_init.1 258 = .ok (.bipush 117, 2) ∧ 258 + 2 = 260 := ⟨by decide +kernel, rfl⟩
theorem d_X12_init_260 : decode mX12_init.1 260 = .ok (.castore, 1) ∧ 260 + 1 = 261 := ⟨by decide +kernel, rfl⟩
theorem d_X12_init_261 : decode mX12_init.1 261 = .ok (.dup, 1) ∧ 261 + 1 = 262 := ⟨by decide +kernel, rfl⟩
theorem d_X12_init_262 : decode mX12_init.1 262 = .ok (.iconst 3, 1) ∧ 262 + 1 = 263 := ⟨by decide +kernel, rfl⟩
theorem d_X12_init_263 : decode mX12_init.1 263 = .ok (.bipush 100, 2) ∧ 263 + 2 = 265 := ⟨by decide +kernel, rfl⟩
theorem d_X12_init_265 : decode mX12_init.1 265 = .ok (.castore, 1) ∧ 265 + 1 = 266 := ⟨by decide +kernel, rfl⟩
theorem d_X12_init_266 : decode mX12_init.1 266 = .ok (.putfield 42, 3) ∧ 266 + 3 = 269 := ⟨by decide +kernel, rfl⟩
theorem d_X12_init_269 : decode mX12_init.1 269 = .ok (.aload_n 0, 1) ∧ 269 + 1 = 270 := ⟨by decide +kernel, rfl⟩
theorem d_X12_init_270 : decode mX12_init.1 270 = .ok (.bipush 6, 2) ∧ 270 + 2 = 272 := ⟨by decide +kernel, rfl⟩
theorem d_X12_init_272 : decode mX12_init.1 272 = .ok (.newarray .char, 2) ∧ 272 + 2 = 274 := ⟨by decide +kernel, rfl⟩
theorem d_X12_init_274 : decode mX12_init.1 274 = .ok (.dup, 1) ∧ 274 + 1 = 275 := ⟨by decide +kernel, rfl⟩
theorem d_X12_init_275 : decode mX12_init.1 275 = .ok (.iconst 0, 1) ∧ 275 + 1 = 276 := ⟨by decide +kernel, rfl⟩
theorem d_X12_init_276 : decode mX12_init.1 276 = .ok (.bipush 115, 2) ∧ 276 + 2 = 278 := ⟨by decide +kernel, rfl⟩
theorem d_X12_init_278 : decode mX12_init.1 278 = .ok (.castore, 1) ∧ 278 + 1 = 279 := ⟨by decide +kernel, rfl⟩
theorem d_X12_init_279 : decode mX12_init.1 279 = .ok (.dup, 1) ∧ 279 + 1 = 280 := ⟨by decide +kernel, rfl⟩
theorem d_X12_init_280 : decode mX12_init.1 280 = .ok (.iconst 1, 1) ∧ 280 + 1 = 281 := ⟨by decide +kernel, rfl⟩
theorem d_X12_init_281 : decode mX12_init.1 281 = .ok (.bipush 105, 2) ∧ 281 + 2 = 283 := ⟨by decide +kernel, rfl⟩
theorem d_X12_init_283 : decode mX12_init.1 283 = .ok (.castore, 1) ∧ 283 + 1 = 284 := ⟨by decide +kernel, rfl⟩
theorem d_X12_init_284 : decode mX12_init.1 284 = .ok (.dup, 1) ∧ 284 + 1 = 285 := ⟨by decide +kernel, rfl⟩
theorem d_X12_init_285 : decode mX12_init.1 285 = .ok (.iconst 2, 1) ∧ 285 + 1 = 286 := ⟨by decide +kernel, rfl⟩
theorem d_X12_init_286 : decode mX12_init.1 286 = .ok (.bipush 115, 2) ∧ 286 + 2 = 288 := ⟨by decide +kernel, rfl⟩
theorem d_X12_init_288 : decode mX12_init.1 288 = .ok (.castore, 1) ∧ 288 + 1 = 289 := ⟨by decide +kernel, rfl⟩
theorem d_X12_init_289 : decode mX12_init.1 289 = .ok (.dup, 1) ∧ 289 + 1 = 290 := ⟨by decide +kernel, rfl⟩
theorem d_X12_init_290 : decode mX12_init.1 290 = .ok (.iconst 3, 1) ∧ 290 + 1 = 291 := ⟨by decide +kernel, rfl⟩
theorem d_X12_init_291 : decode mX12_init.1 291 = .ok (.bipush 116, 2) ∧ 291 + 2 = 293 := ⟨by decide +kernel, rfl⟩
theorem d_X12_init_293 : decode mX12_init.1 293 = .ok (.castore, 1) ∧ 293 + 1 = 294 := ⟨by decide +kernel, rfl⟩
theorem d_X12_init_294 : decode mX12_init.1 294 = .ok (.dup, 1) ∧ 294 + 1 = 295 := ⟨by decide +kernel, rfl⟩
theorem d_X12_init_295 : decode mX12_init.1 295 = .ok (.iconst 4, 1) ∧ 295 + 1 = 296 := ⟨by decide +kernel, rfl⟩
theorem d_X12_init_296 : decode mX12_init.1 296 = .ok (.bipush 101, 2) ∧ 296 + 2 = 298 := ⟨by decide +kernel, rfl⟩
theorem d_X12_init_298 : decode mX12_init.1 298 = .ok (.castore, 1) ∧ 298 + 1 = 299 := ⟨by decide +kernel, rfl⟩
theorem d_X12_init_299 : decode mX12_init.1 299 = .ok (.dup, 1) ∧ 299 + 1 = 300 := ⟨by decide +kernel, rfl⟩
theorem d_X12_init_300 : decode mX12_init.1 300 = .ok (.iconst 5, 1) ∧ 300 + 1 = 301 := ⟨by decide +kernel, rfl⟩
theorem d_X12_init_301 : decode mX12_init.1 301 = .ok (.bipush 114, 2) ∧ 301 + 2 = 303 := ⟨by decide +kernel, rfl⟩
theorem d_X12_init_303 : decode mX12_init.1 303 = .ok (.castore, 1) ∧ 303 + 1 = 304 := ⟨by decide +kernel, rfl⟩
theorem d_X12_init_304 : decode mX12_init.1 304 = .ok (.putfield 45, 3) ∧ 304 + 3 = 307 := ⟨by decide +kernel, rfl⟩
theorem d_X12_init_307 : decode mX12_init.1 307 = .ok (.aload_n 0, 1) ∧ 307 + 1 = 308 := ⟨by decide +kernel, rfl⟩
theorem d_X12_init_308 : decode mX12_init.1 308 = .ok (.iconst 5, 1) ∧ 308 + 1 = 309 := ⟨by decide +kernel, rfl⟩
theorem d_X12_init_309 : decode mX12_init.1 309 = .ok (.newarray .char, 2) ∧ 309 + 2 = 311 := ⟨by decide +kernel, rfl⟩
theorem d_X12_init_311 : decode mX12_init.1 311 = .ok (.dup, 1) ∧ 311 + 1 = 312 := ⟨by decide +kernel, rfl⟩
theorem d_X12_init_312 : decode mX12_init.1 312 = .ok (.iconst 0, 1) ∧ 312 + 1 = 313 := ⟨by decide +kernel, rfl⟩
theorem d_X12_init_313 : decode mX12_init.1 313 = .ok (.bipush 115, 2) ∧ 313 + 2 = 315 := ⟨by decide +kernel, rfl⟩
theorem d_X12_init_315 : decode mX12_init.1 315 = .ok (.castore, 1) ∧ 315 + 1 = 316 := ⟨by decide +kernel, rfl⟩
theorem d_X12_init_316 : decode mX12_init.1 316 = .ok (.dup, 1) ∧ 316 + 1 = 317 := ⟨by decide +kernel, rfl⟩
theorem d_X12_init_317 : decode mX12_init.1 317 = .ok (.iconst 1, 1) ∧ 317 + 1 = 318 := ⟨by decide +kernel, rfl⟩
theorem d_X12_init_318 : decode mX12_init.1 318 = .ok (.bipush 119, 2) ∧ 318 + 2 = 320 := ⟨by decide +kernel, rfl⟩
theorem d_X12_init_320 : decode mX12_init.1 320 = .ok (.castore, 1) ∧ 320 + 1 = 321 := ⟨by decide +kernel, rfl⟩
theorem d_X12_init_321 : decode mX12_init.1 321 = .ok (.dup, 1) ∧ 321 + 1 = 322 := ⟨by decide +kernel, rfl⟩
theorem d_X12_init_322 : decode mX12_init.1 322 = .ok (.iconst 2, 1) ∧ 322 + 1 = 323 := ⟨by decide +kernel, rfl⟩
theorem d_X12_init_323 : decode mX12_init.1 323 = .ok (.bipush 97, 2) ∧ 323 + 2 = 325 := ⟨by decide +kernel, rfl⟩
theorem d_X12_init_325 : decode mX12_init.1 325 = .ok (.castore, 1) ∧ 325 + 1 = 326 := ⟨by decide +kernel, rfl⟩
theorem d_X12_init_326 : decode mX12_init.1 326 = .ok (.dup, 1) ∧ 326 + 1 = 327 := ⟨by decide +kernel, rfl⟩
theorem d_X12_init_327 : decode mX12_init.1 327 = .ok (.iconst 3, 1) ∧ 327 + 1 = 328 := ⟨by decide +kernel, rfl⟩
theorem d_X12_init_328 : decode mX12_init.1 328 = .ok (.bipush 112, 2) ∧ 328 + 2 = 330 := ⟨by decide +kernel, rfl⟩
theorem d_X12_init_330 : decode mX12_init.1 330 = .ok (.castore, 1) ∧ 330 + 1 = 331 := ⟨by decide +kernel, rfl⟩
theorem d_X12_init_331 : decode mX12_init.1 331 = .ok (.dup, 1) ∧ 331 + 1 = 332 := ⟨by decide +kernel, rfl⟩
theorem d_X12_init_332 : decode mX12_init.1 332 = .ok (.iconst 4, 1) ∧ 332 + 1 = 333 := ⟨by decide +kernel, rfl⟩
theorem d_X12_init_333 : decode mX12_init.1 333 = .ok (.bipush 115, 2) ∧ 333 + 2 = 335 := ⟨by decide +kernel, rfl⟩
theorem d_X12_init_335 : decode mX12_init.1 335 = .ok (.castore, 1) ∧ 335 + 1 = 336 := ⟨by decide +kernel, rfl⟩
theorem d_X12_init_336 : decode mX12_init.1 336 = .ok (.putfield 48, 3) ∧ 336 + 3 = 339 := ⟨by decide +kernel, rfl⟩
theorem d_X12_init_339 : decode mX12_init.1 339 = .ok (.aload_n 0, 1) ∧ 339 + 1 = 340 := ⟨by decide +kernel, rfl⟩
theorem d_X12_init_340 : decode mX12_init.1 340 = .ok (.iconst 4, 1) ∧ 340 + 1 = 341 := ⟨by decide +kernel, rfl⟩
theorem d_X12_init_341 : decode mX12_init.1 341 = .ok (.newarray .char, 2) ∧ 341 + 2 = 343 := ⟨by decide +kernel, rfl⟩
theorem d_X12_init_343 : decode mX12_init.1 343 = .ok (.dup, 1) ∧ 343 + 1 = 344 := ⟨by decide +kernel, rfl⟩
theorem d_X12_init_344 : decode mX12_init.1 344 = .ok (.iconst 0, 1) ∧ 344 + 1 = 345 := ⟨by decide +kernel, rfl⟩
theorem d_X12_init_345 : decode mX12_init.1 345 = .ok (.bipush 112, 2) ∧ 345 + 2 = 347 := ⟨by decide +kernel, rfl⟩
theorem d_X12_init_347 : decode mX12_init.1 347 = .ok (.castore, 1) ∧ 347 + 1 = 348 := ⟨by decide +kernel, rfl⟩
theorem d_X12_init_348 : decode mX12_init.1 348 = .ok (.dup, 1) ∧ 348 + 1 = 349 := ⟨by decide +kernel, rfl⟩
theorem d_X12_init_349 : decode mX12_init.1 349 = .ok (.iconst 1, 1) ∧ 349 + 1 = 350 := ⟨by decide +kernel, rfl⟩
theorem d_X12_init_350 : decode mX12_init.1 350 = .ok (.bipush 97, 2) ∧ 350 + 2 = 352 := ⟨by decide +kernel, rfl⟩
theorem d_X12_init_352 : decode mX12_init.1 352 = .ok (.castore, 1) ∧ 352 + 1 = 353 := ⟨by decide +kernel, rfl⟩
theorem d_X12_init_353 : decode mX12_init.1 353 = .ok (.dup, 1) ∧ 353 + 1 = 354 := ⟨by decide +kernel, rfl⟩
theorem d_X12_init_354 : decode mX12_init.1 354 = .ok (.iconst 2, 1) ∧ 354 + 1 = 355 := ⟨by decide +kernel, rfl⟩
theorem d_X12_init_355 : decode mX12_init.1 355 = .ok (.bipush 121, 2) ∧ 355 + 2 = 357 := ⟨by decide +kernel, rfl⟩
theorem d_X12_init_357 : decode mX12_init.1 357 = .ok (.castore, 1) ∧ 357 + 1 = 358 := ⟨by decide +kernel, rfl⟩
theorem d_X12_init_358 : decode mX12_init.1 358 = .ok (.dup, 1) ∧ 358 + 1 = 359 := ⟨by decide +kernel, rfl⟩
theorem d_X12_init_359 : decode mX12_init.1 359 = .ok (.iconst 3, 1) ∧ 359 + 1 = 360 := ⟨by decide +kernel, rfl⟩
theorem d_X12_init_360 : decode mX12_init.1 360 = .ok (.bipush 115, 2) ∧ 360 + 2 = 362 := ⟨by decide +kernel, rfl⟩
theorem d_X12_init_362 : decode mX12_init.1 362 = .ok (.castore, 1) ∧ 362 + 1 = 363 := ⟨by decide +kernel, rfl⟩
theorem d_X12_init_363 : decode mX12_init.1 363 = .ok (.putfield 51, 3) ∧ 363 + 3 = 366 := ⟨by decide +kernel, rfl⟩
theorem d_X12_init_366 : decode mX12_init.1 366 = .ok (.aload_n 0, 1) ∧ 366 + 1 = 367 := ⟨by decide +kernel, rfl⟩
theorem d_X12_init_367 : decode mX12_init.1 367 = .ok (.iconst 3, 1) ∧ 367 + 1 = 368 := ⟨by decide +kernel, rfl⟩
theorem d_X12_init_368 : decode mX12_init.1 368 = .ok (.newarray .char, 2) ∧ 368 + 2 = 370 := ⟨by decide +kernel, rfl⟩
theorem d_X12_init_370 : decode mX12_init.1 370 = .ok (.dup, 1) ∧ 370 + 1 = 371 := ⟨by decide +kernel, rfl⟩
theorem d_X12_init_371 : decode mX12_init.1 371 = .ok (.iconst 0, 1) ∧ 371 + 1 = 372 := ⟨by decide +kernel, rfl⟩
theorem d_X12_init_372 : decode mX12_init.1 372 = .ok (.bipush 102, 2) ∧ 372 + 2 = 374 := ⟨by decide +kernel, rfl⟩
theorem d_X12_init_374 : decode mX12_init.1 374 = .ok (.castore, 1) ∧ 374 + 1 = 375 := ⟨by decide +kernel, rfl⟩
theorem d_X12_init_375 : decode mX12_init.1 375 = .ok (.dup, 1) ∧ 375 + 1 = 376 := ⟨by decide +kernel, rfl⟩
theorem d_X12_init_376 : decode mX12_init.1 376 = .ok (.iconst 1, 1) ∧ 376 + 1 = 377 := ⟨by decide +kernel, rfl⟩
theorem d_X12_init_377 : decode mX12_init.1 377 = .ok (.bipush 111, 2) ∧ 377 + 2 = 379 := ⟨by decide +kernel, rfl⟩
theorem d_X12_init_379 : decode mX12_init.1 379 = .ok (.castore, 1) ∧ 379 + 1 = 380 := ⟨by decide +kernel, rfl⟩
theorem d_X12_init_380 : decode mX12_init.1 380 = .ok (.dup, 1) ∧ 380 + 1 = 381 := ⟨by decide +kernel, rfl⟩
theorem d_X12_init_381 : decode mX12_init.1 381 = .ok (.iconst 2, 1) ∧ 381 + 1 = 382 := ⟨by decide +kernel, rfl⟩
theorem d_X12_init_382 : decode mX12_init.1 382 = .ok (.bipush 103, 2) ∧ 382 + 2 = 384 := ⟨by decide +kernel, rfl⟩
theorem d_X12_init_384 : decode mX12_init.1 384 = .ok (.castore, 1) ∧ 384 + 1 = 385 := ⟨by decide +kernel, rfl⟩
theorem d_X12_init_385 : decode mX12_init.1 385 = .ok (.putfield 54, 3) ∧ 385 + 3 = 388 := ⟨by decide +kernel, rfl⟩
theorem d_X12_init_388 : decode mX12_init.1 388 = .ok (.aload_n 0, 1) ∧ 388 + 1 = 389 := ⟨by decide +kernel, rfl⟩
theorem d_X12_init_389 : decode mX12_init.1 389 = .ok (.iconst 4, 1) ∧ 389 + 1 = 390 := ⟨by decide +kernel, rfl⟩
theorem d_X12_init_390 : decode mX12_init.1 390 = .ok (.newarray .char, 2) ∧ 390 + 2 = 392 := ⟨by decide +kernel, rfl⟩
theorem d_X12_init_392 : decode mX12_init.1 392 = .ok (.dup, 1) ∧ 392 + 1 = 393 := ⟨by decide +kernel, rfl⟩
theorem d_X12_init_393 : decode mX12_init.1 393 = .ok (.iconst 0, 1) ∧ 393 + 1 = 394 := ⟨by decide +kernel, rfl⟩
theorem d_X12_init_394 : decode mX12_init.1 394 = .ok (.bipush 103, 2) ∧ 394 + 2 = 396 := ⟨by decide +kernel, rfl⟩
theorem d_X12_init_396 : decode mX12_init.1 396 = .ok (.castore, 1) ∧ 396 + 1 = 397 := ⟨by decide +kernel, rfl⟩
theorem d_X12_init_397 : decode mX12_init.1 397 = .ok (.dup, 1) ∧ 397 + 1 = 398 := ⟨by decide +kernel, rfl⟩
theorem d_X12_init_398 : decode mX12_init.1 398 = .ok (.iconst 1, 1) ∧ 398 + 1 = 399 := ⟨by decide +kernel, rfl⟩
theorem d_X12_init_399 : decode mX12_init.1 399 = .ok (.bipush 101, 2) ∧ 399 + 2 = 401 := ⟨by decide +kernel, rfl⟩
theorem d_X12_init_401 : decode mX12_init.1 401 = .ok (.castore, 1) ∧ 401 + 1 = 402 := ⟨by decide +kernel, rfl⟩
theorem d_X12_init_402 : decode mX12_init.1 402 = .ok (.dup, 1) ∧ 402 + 1 = 403 := ⟨by decide +kernel, rfl⟩
theorem d_X12_init_403 : decode mX12_init.1 403 = .ok (.iconst 2, 1) ∧ 403 + 1 = 404 := ⟨by decide +kernel, rfl⟩
theorem d_X12_init_404 : decode mX12_init.1 404 = .ok (.bipush 116, 2) ∧ 404 + 2 = 406 := ⟨by decide +kernel, rfl⟩
theorem d_X12_init_406 : decode mX12_init.1 406 = .ok (.castore, 1) ∧ 406 + 1 = 407 := ⟨by decide +kernel, rfl⟩
theorem d_X12_init_407 : decode mX12_init.1 407 = .ok (.dup, 1) ∧ 407 + 1 = 408 := ⟨by decide +kernel, rfl⟩
theorem d_X12_init_408 : decode mX12_init.1 408 = .ok (.iconst 3, 1) ∧ 408 + 1 = 409 := ⟨by decide +kernel, rfl⟩
theorem d_X12_init_409 : decode mX12_init.1 409 = .ok (.bipush 115, 2) ∧ 409 + 2 = 411 := ⟨by decide +kernel, rfl⟩
theorem d_X12_init_411 : decode mX12_init.1 411 = .ok (.castore, 1) ∧ 411 + 1 = 412 := ⟨by decide +kernel, rfl⟩
theorem d_X12_init_412 : decode mX12_init.1 412 = .ok (.putfield 57, 3) ∧ 412 + 3 = 415 := ⟨by decide +kernel, rfl⟩
theorem d_X12_init_415 : decode mX12_init.1 415 = .ok (.aload_n 0, 1) ∧ 415 + 1 = 416 := ⟨by decide +kernel, rfl⟩
theorem d_X12_init_416 : decode mX12_init.1 416 = .ok (.iconst 5, 1) ∧ 416 + 1 = 417 := ⟨by decide +kernel, rfl⟩
theorem d_X12_init_417 : decode mX12_init.1 417 = .ok (.newarray .char, 2) ∧ 417 + 2 = 419 := ⟨by decide +kernel, rfl⟩
theorem d_X12_init_419 : decode mX12_init.1 419 = .ok (.dup, 1) ∧ 419 + 1 = 420 := ⟨by decide +kernel, rfl⟩
theorem d_X12_init_420 : decode mX12_init.1 420 = .ok (.iconst 0, 1) ∧ 420 + 1 = 421 := ⟨by decide +kernel, rfl⟩
theorem d_X12_init_421 : decode mX12_init.1 421 = .ok (.bipush 103, 2) ∧ 421 + 2 = 423 := ⟨by decide +kernel, rfl⟩
theorem d_X12_init_423 : decode mX12_init.1 423 = .ok (.castore, 1) ∧ 423 + 1 = 424 := ⟨by decide +kernel, rfl⟩
theorem d_X12_init_424 : decode mX12_init.1 424 = .ok (.dup, 1) ∧ 424 + 1 = 425 := ⟨by decide +kernel, rfl⟩
theorem d_X12_init_425 : decode mX12_init.1 425 = .ok (.iconst 1, 1) ∧ 425 + 1 = 426 := ⟨by decide +kernel, rfl⟩
theorem d_X12_init_426 : decode mX12_init.1 426 = .ok (.bipush 105, 2) ∧ 426 + 2 = 428 := ⟨by decide +kernel, rfl⟩
theorem d_X12_init_428 : decode mX12_init.1 428 = .ok (.castore, 1) ∧ 428 + 1 = 429 := ⟨by decide +kernel, rfl⟩
theorem d_X12_init_429 : decode mX12_init.1 429 = .ok (.dup, 1) ∧ 429 + 1 = 430 := ⟨by decide +kernel, rfl⟩
theorem d_X12_init_430 : decode mX12_init.1 430 = .ok (.iconst 2, 1) ∧ 430 + 1 = 431 := ⟨by decide +kernel, rfl⟩
theorem d_X12_init_431 : decode mX12_init.1 431 = .ok (.bipush 118, 2) ∧ 431 + 2 = 433 := ⟨by decide +kernel, rfl⟩
theorem d_X12_init_433 : decode mX12_init.1 433 = .ok (.castore, 1) ∧ 433 + 1 = 434 := ⟨by decide +kernel, rfl⟩
theorem d_X12_init_434 : decode mX12_init.1 434 = .ok (.dup, 1) ∧ 434 + 1 = 435 := ⟨by decide +kernel, rfl⟩
theorem d_X12_init_435 : decode mX12_init.1 435 = .ok (.iconst 3, 1) ∧ 435 + 1 = 436 := ⟨by decide +kernel, rfl⟩
theorem d_X12_init_436 : decode mX12_init.1 436 = .ok (.bipush 101, 2) ∧ 436 + 2 = 438 := ⟨by decide +kernel, rfl⟩
theorem d_X12_init_438 : decode mX12_init.1 438 = .ok (.castore, 1) ∧ 438 + 1 = 439 := ⟨by decide +kernel, rfl⟩
theorem d_X12_init_439 : decode mX12_init.1 439 = .ok (.dup, 1) ∧ 439 + 1 = 440 := ⟨by decide +kernel, rfl⟩
theorem d_X12_init_440 : decode mX12_init.1 440 = .ok (.iconst 4, 1) ∧ 440 + 1 = 441 := ⟨by decide +kernel, rfl⟩
theorem d_X12_init_441 : decode mX12_init.1 441 = .ok (.bipush 115, 2) ∧ 441 + 2 = 443 := ⟨by decide +kernel, rfl⟩
theorem d_X12_init_443 : decode mX12_init.1 443 = .ok (.castore, 1) ∧ 443 + 1 = 444 := ⟨by decide +kernel, rfl⟩
theorem d_X12_init_444 : decode mX12_init.1 444 = .ok (.putfield 60, 3) ∧ 444 + 3 = 447 := ⟨by decide +kernel, rfl⟩
theorem d_X12_init_447 : decode mX12_init.1 447 = .ok (.aload_n 0, 1) ∧ 447 + 1 = 448 := ⟨by decide +kernel, rfl⟩
theorem d_X12_init_448 : decode mX12_init.1 448 = .ok (.iconst 3, 1) ∧ 448 + 1 = 449 := ⟨by decide +kernel, rfl⟩
theorem d_X12_init_449 : decode mX12_init.1 449 = .ok (.newarray .char, 2) ∧ 449 + 2 = 451 := ⟨by decide +kernel, rfl⟩
theorem d_X12_init_451 : decode mX12_init.1 451 = .ok (.dup, 1) ∧ 451 + 1 = 452 := ⟨by decide +kernel, rfl⟩
theorem d_X12_init_452 : decode mX12_init.1 452 = .ok (.iconst 0, 1) ∧ 452 + 1 = 453 := ⟨by decide +kernel, rfl⟩
theorem d_X12_init_453 : decode mX12_init.1 453 = .ok (.bipush 109, 2) ∧ 453 + 2 = 455 := ⟨by decide +kernel, rfl⟩
theorem d_X12_init_455 : decode mX12_init.1 455 = .ok (.castore, 1) ∧ 455 + 1 = 456 := ⟨by decide +kernel, rfl⟩
theorem d_X12_init_456 : decode mX12_init.1 456 = .ok (.dup, 1) ∧ 456 + 1 = 457 := ⟨by decide +kernel, rfl⟩
theorem d_X12_init_457 : decode mX12_init.1 457 = .ok (.iconst 1, 1) ∧ 457 + 1 = 458 := ⟨by decide +kernel, rfl⟩
theorem d_X12_init_458 : decode mX12_init.1 458 = .ok (.bipush 101, 2) ∧ 458 + 2 = 460 := ⟨by decide +kernel, rfl⟩
theorem d_X12_init_460 : decode mX12_init.1 460 = .ok (.castore, 1) ∧ 460 + 1 = 461 := ⟨by decide +kernel, rfl⟩
theorem d_X12_init_461 : decode mX12_init.1 461 = .ok (.dup, 1) ∧ 461 + 1 = 462 := ⟨by decide +kernel, rfl⟩
theorem d_X12_init_462 : decode mX12_init.1 462 = .ok (.iconst 2, 1) ∧ 462 + 1 = 463 := ⟨by decide +kernel, rfl⟩
theorem d_X12_init_463 : decode mX12_init.1 463 = .ok (.bipush 116, 2) ∧ 463 + 2 = 465 := ⟨by decide +kernel, rfl⟩
theorem d_X12_init_465 : decode mX12_init.1 465 = .ok (.castore, 1) ∧ 465 + 1 = 466 := ⟨by decide +kernel, rfl⟩
theorem d_X12_init_466 : decode mX12_init.1 466 = .ok (.putfield 63, 3) ∧ 466 + 3 = 469 := ⟨by decide +kernel, rfl⟩
theorem d_X12_init_469 : decode mX12_init.1 469 = .ok (.aload_n 0, 1) ∧ 469 + 1 = 470 := ⟨by decide +kernel, rfl⟩
theorem d_X12_init_470 : decode mX12_init.1 470 = .ok (.iconst 5, 1) ∧ 470 + 1 = 471 := ⟨by decide +kernel, rfl⟩
theorem d_X12_init_471 : decode mX12_init.1 471 = .ok (.newarray .char, 2) ∧ 471 + 2 = 473 := ⟨by decide +kernel, rfl⟩
theorem d_X12_init_473 : decode mX12_init.1 473 = .ok (.dup, 1) ∧ 473 + 1 = 474 := ⟨by decide +kernel, rfl⟩
theorem d_X12_init_474 : decode mX12_init.1 474 = .ok (.iconst 0, 1) ∧ 474 + 1 = 475 := ⟨by decide +kernel, rfl⟩
theorem d_X12_init_475 : decode mX12_init.1 475 = .ok (.bipush 110, 2) ∧ 475 + 2 = 477 := ⟨by decide +kernel, rfl⟩
theorem d_X12_init_477 : decode mX12_init.1 477 = .ok (.castore, 1) ∧ 477 + 1 = 478 := ⟨by decide +kernel, rfl⟩
theorem d_X12_init_478 : decode mX12_init.1 478 = .ok (.dup, 1) ∧ 478 + 1 = 479 := ⟨by decide +kernel, rfl⟩
theorem d_X12_init_479 : decode mX12_init.1 479 = .ok (.iconst 1, 1) ∧ 479 + 1 = 480 := ⟨by decide +kernel, rfl⟩
theorem d_X12_init_480 : decode mX12_init.1 480 = .ok (.bipush 105, 2) ∧ 480 + 2 = 482 := ⟨by decide +kernel, rfl⟩
theorem d_X12_init_482 : decode mX12_init.1 482 = .ok (.castore, 1) ∧ 482 + 1 = 483 := ⟨by decide +kernel, rfl⟩
theorem d_X12_init_483 : decode mX12_init.1 483 = .ok (.dup, 1) ∧ 483 + 1 = 484 := ⟨by decide +kernel, rfl⟩
theorem d_X12_init_484 : decode mX12_init.1 484 = .ok (.iconst 2, 1) ∧ 484 + 1 = 485 := ⟨by decide +kernel, rfl⟩
theorem d_X12_init_485 : decode mX12_init.1 485 = .ok (.bipush 103, 2) ∧ 485 + 2 = 487 := ⟨by decide +kernel, rfl⟩
theorem d_X12_init_487 : decode mX12_init.1 487 = .ok (.castore, 1) ∧ 487 + 1 = 488 := ⟨by decide +kernel, rfl⟩
theorem d_X12_init_488 : decode mX12_init.1 488 = .ok (.dup, 1) ∧ 488 + 1 = 489 := ⟨by decide +kernel, rfl⟩
theorem d_X12_init_489 : decode mX12_init.1 489 = .ok (.iconst 3, 1) ∧ 489 + 1 = 490 := ⟨by decide +kernel, rfl⟩
theorem d_X12_init_490 : decode mX12_init.1 490 = .ok (.bipush 104, 2) ∧ 490 + 2 = 492 := ⟨by decide +kernel, rfl⟩
theorem d_X12_init_492 : decode mX12_init.1 492 = .ok (.castore, 1) ∧ 492 + 1 = 493 := ⟨by decide +kernel, rfl⟩
theorem d_X12_init_493 : decode mX12_init.1 493 = .ok (.dup, 1) ∧ 493 + 1 = 494 := ⟨by decide +kernel, rfl⟩
theorem d_X12_init_494 : decode mX12_init.1 494 = .ok (.iconst 4, 1) ∧ 494 + 1 = 495 := ⟨by decide +kernel, rfl⟩
theorem d_X12_init_495 : decode mX12_init.1 495 = .ok (.bipush 116, 2) ∧ 495 + 2 = 497 := ⟨by decide +kernel, rfl⟩
theorem d_X12_init_497 : decode mX12_init.1 497 = .ok (.castore, 1) ∧ 497 + 1 = 498 := ⟨by decide +kernel, rfl⟩
theorem d_X12_init_498 : decode mX12_init.1 498 = .ok (.putfield 66, 3) ∧ 498 + 3 = 501 := ⟨by decide +kernel, rfl⟩
theorem d_X12_init_501 : decode mX12_init.1 501 = .ok (.aload_n 0, 1) ∧ 501 + 1 = 502 := ⟨by decide +kernel, rfl⟩
theorem d_X12_init_502 : decode mX12_init.1 502 = .ok (.bipush 6, 2) ∧ 502 + 2 = 504 := ⟨by decide +kernel, rfl⟩
theorem d_X12_init_504 : decode mX12_init.1 504 = .ok (.newarray .char, 2) ∧ 504 + 2 = 506 := ⟨by decide +kernel, rfl⟩
theorem d_X12_init_506 : decode mX12_init.1 506 = .ok (.dup, 1) ∧ 506 + 1 = 507 := ⟨by decide +kernel, rfl⟩
theorem d_X12_init_507 : decode mX12_init.1 507 = .ok (.iconst 0, 1) ∧ 507 + 1 = 508 := ⟨by decide +kernel, rfl⟩
theorem d_X12_init_508 : decode mX12_init.1 508 = .ok (.bipush 110, 2) ∧ 508 + 2 = 510 := ⟨by decide +kernel, rfl⟩
theorem d_X12_init_510 : decode mX12_init.1 510 = .ok (.castore, 1) ∧ 510 + 1 = 511 := ⟨by decide +kernel, rfl⟩
theorem d_X12_init_511 : decode mX12_init.1 511 = .ok (.dup, 1) ∧ 511 + 1 = 512 := ⟨by decide +kernel, rfl⟩
theorem d_X12_init_512 : decode mX12_init.1 512 = .ok (.iconst 1, 1) ∧ 512 + 1 = 513 := ⟨by decide +kernel, rfl⟩
theorem d_X12_init_513 : decode mX12_init.1 513 = .ok (.bipush 117, 2) ∧ 513 + 2 = 515 := ⟨by decide +kernel, rfl⟩
theorem d_X12_init_515 : decode mX12_init.1 515 = .ok (.castore, 1) ∧ 515 + 1 = 516 := ⟨by decide +kernel, rfl⟩
theorem d_X12_init_516 : decode mX12_init.1 516 = .ok (.dup, 1) ∧ 516 + 1 = 517 := ⟨by decide +kernel, rfl⟩
theorem d_X12_init_517 : decode mX12_init.1 517 = .ok (.iconst 2, 1) ∧ 517 + 1 = 518 := ⟨by decide +kernel, rfl⟩
theorem d_X12_init_518 : decode mX12_init.1 518 = .ok (.bipush 109, 2) ∧ 518 + 2 = 520 := ⟨by decide +kernel, rfl⟩
theorem d_X12_init_520 : decode mX12_init.1 520 = .ok (.castore, 1) ∧ 520 + 1 = 521 := ⟨by decide +kernel, rfl⟩
theorem d_X12_init_521 : decode mX12_init.1 521 = .ok (.dup, 1) ∧ 521 + 1 = 522 := ⟨by decide +kernel, rfl⟩
theorem d_X12_init_522 : decode mX12_init.1 522 = .ok (.iconst 3, 1) ∧ 522 + 1 = 523 := ⟨by decide +kernel, rfl⟩
theorem d_X12_init_523 : decode mX12_init.1 523 = .ok (.bipush 98, 2) ∧ 523 + 2 = 525 := ⟨by decide +kernel, rfl⟩
theorem d_X12_init_525 : decode mX12_init.1 525 = .ok (.castore, 1) ∧ 525 + 1 = 526 := ⟨by decide +kernel, rfl⟩
theorem d_X12_init_526 : decode mX12_init.1 526 = .ok (.dup, 1) ∧ 526 + 1 = 527 := ⟨by decide +kernel, rfl⟩
theorem d_X12_init_527 : decode mX12_init.1 527 = .ok (.iconst 4, 1) ∧ 527 + 1 = 528 := ⟨by decide +kernel, rfl⟩
theorem d_X12_init_528 : decode mX12_init.1 528 = .ok (.bipush 101, 2) ∧ 528 + 2 = 530 := ⟨by decide +kernel, rfl⟩
theorem d_X12_init_530 : decode mX12_init.1 530 = .ok (.castore, 1) ∧ 530 + 1 = 531 := ⟨by decide +kernel, rfl⟩
theorem d_X12_init_531 : decode mX12_init.1 531 = .ok (.dup, 1) ∧ 531 + 1 = 532 := ⟨by decide +kernel, rfl⟩
theorem d_X12_init_532 : decode mX12_init.1 532 = .ok (.iconst 5, 1) ∧ 532 + 1 = 533 := ⟨by decide +kernel, rfl⟩
theorem d_X12_init_533 : decode mX12_init.1 533 = .ok (.bipush 114, 2) ∧ 533 + 2 = 535 := ⟨by decide +kernel, rfl⟩
theorem d_X12_init_535 : decode mX12_init.1 535 = .ok (.castore, 1) ∧ 535 + 1 = 536 := ⟨by decide +kernel, rfl⟩
theorem d_X12_init_536 : decode mX12_init.1 536 = .ok (.putfield 69, 3) ∧ 536 + 3 = 539 := ⟨by decide +kernel, rfl⟩
theorem d_X12_init_539 : decode mX12_init.1 539 = .ok (.aload_n 0, 1) ∧ 539 + 1 = 540 := ⟨by decide +kernel, rfl⟩
theorem d_X12_init_540 : decode mX12_init.1 540 = .ok (.iconst 2, 1) ∧ 540 + 1 = 541 := ⟨by decide +kernel, rfl⟩
theorem d_X12_init_541 : decode mX12_init.1 541 = .ok (.newarray .char, 2) ∧ 541 + 2 = 543 := ⟨by decide +kernel, rfl⟩
theorem d_X12_init_543 : decode mX12_init.1 543 = .ok (.dup, 1) ∧ 543 + 1 = 544 := ⟨by decide +kernel, rfl⟩
theorem d_X12_init_544 : decode mX12_init.1 544 = .ok (.iconst 0, 1) ∧ 544 + 1 = 545 := ⟨by decide +kernel, rfl⟩
theorem d_X12_init_545 : decode mX12_init.1 545 = .ok (.bipush 111, 2) ∧ 545 + 2 = 547 := ⟨by decide +kernel, rfl⟩
theorem d_X12_init_547 : decode mX12_init.1 547 = .ok (.castore, 1) ∧ 547 + 1 = 548 := ⟨by decide +kernel, rfl⟩
theorem d_X12_init_548 : decode mX12_init.1 548 = .ok (.dup, 1) ∧ 548 + 1 = 549 := ⟨by decide +kernel, rfl⟩
theorem d_X12_init_549 : decode mX12_init.1 549 = .ok (.iconst 1, 1) ∧ 549 + 1 = 550 := ⟨by decide +kernel, rfl⟩
theorem d_X12_init_550 : decode mX12_init.1 550 = .ok (.bipush 114, 2) ∧ 550 + 2 = 552 := ⟨by decide +kernel, rfl⟩
theorem d_X12_init_552 : decode mX12_init.1 552 = .ok (.castore, 1) ∧ 552 + 1 = 553 := ⟨by decide +kernel, rfl⟩
theorem d_X12_init_553 : decode mX12_init.1 553 = .ok (.putfield 72, 3) ∧ 553 + 3 = 556 := ⟨by decide +kernel, rfl⟩
theorem d_X12_init_556 : decode mX12_init.1 556 = .ok (.aload_n 0, 1) ∧ 556 + 1 = 557 := ⟨by decide +kernel, rfl⟩
theorem d_X12_init_557 : decode mX12_init.1 557 = .ok (.iconst 3, 1) ∧ 557 + 1 = 558 := ⟨by decide +kernel, rfl⟩
theorem d_X12_init_558 : decode mX12_init.1 558 = .ok (.newarray .char, 2) ∧ 558 + 2 = 560 := ⟨by decide +kernel, rfl⟩
theorem d_X12_init_560 : decode mX12_init.1 560 = .ok (.dup, 1) ∧ 560 + 1 = 561 := ⟨by decide +kernel, rfl⟩
theorem d_X12_init_561 : decode mX12_init.1 561 = .ok (.iconst 0, 1) ∧ 561 + 1 = 562 := ⟨by decide +kernel, rfl⟩
theorem d_X12_init_562 : decode mX12_init.1 562 = .ok (.bipush 97, 2) ∧ 562 + 2 = 564 := ⟨by decide +kernel, rfl⟩
theorem d_X12_init_564 : decode mX12_init.1 564 = .ok (.castore, 1) ∧ 564 + 1 = 565 := ⟨by decide +kernel, rfl⟩
theorem d_X12_init_565 : decode mX12_init.1 565 = .ok (.dup, 1) ∧ 565 + 1 = 566 := ⟨by decide +kernel, rfl⟩
theorem d_X12_init_566 : decode mX12_init.1 566 = .ok (.iconst 1, 1) ∧ 566 + 1 = 567 := ⟨by decide +kernel, rfl⟩
theorem d_X12_init_567 : decode mX12_init.1 567 = .ok (.bipush 110, 2) ∧ 567 + 2 = 569 := ⟨by decide +kernel, rfl⟩
theorem d_X12_init_569 : decode mX12_init.1 569 = .ok (.castore, 1) ∧ 569 + 1 = 570 := ⟨by decide +kernel, rfl⟩
theorem d_X12_init_570 : decode mX12_init.1 570 = .ok (.dup, 1) ∧ 570 + 1 = 571 := ⟨by decide +kernel, rfl⟩
theorem d_X12_init_571 : decode mX12_init.1 571 = .ok (.iconst 2, 1) ∧ 571 + 1 = 572 := ⟨by decide +kernel, rfl⟩
theorem d_X12_init_572 : decode mX12_init.1 572 = .ok (.bipush 100, 2) ∧ 572 + 2 = 574 := ⟨by decide +kernel, rfl⟩
theorem d_X12_init_574 : decode mX12_init.1 574 = .ok (.castore, 1) ∧ 574 + 1 = 575 := ⟨by decide +kernel, rfl⟩
theorem d_X12_init_575 : decode mX12_init.1 575 = .ok (.putfield 75, 3) ∧ 575 + 3 = 578 := ⟨by decide +kernel, rfl⟩
theorem d_X12_init_578 : decode mX12_init.1 578 = .ok (.aload_n 0, 1) ∧ 578 + 1 = 579 := ⟨by decide +kernel, rfl⟩
theorem d_X12_init_579 : decode mX12_init.1 579 = .ok (.iconst 3, 1) ∧ 579 + 1 = 580 := ⟨by decide +kernel, rfl⟩
theorem d_X12_init_580 : decode mX12_init.1 580 = .ok (.newarray .char, 2) ∧ 580 + 2 = 582 := ⟨by decide +kernel, rfl⟩
theorem d_X12_init_582 : decode mX12_init.1 582 = .ok (.dup, 1) ∧ 582 + 1 = 583 := ⟨by decide +kernel, rfl⟩
theorem d_X12_init_583 : decode mX12_init.1 583 = .ok (.iconst 0, 1) ∧ 583 + 1 = 584 := ⟨by decide +kernel, rfl⟩
theorem d_X12_init_584 : decode mX12_init.1 584 = .ok (.bipush 110, 2) ∧ 584 + 2 = 586 := ⟨by decide +kernel, rfl⟩
theorem d_X12_init_586 : decode mX12_init.1 586 = .ok (.castore, 1) ∧ 586 + 1 = 587 := ⟨by decide +kernel, rfl⟩
theorem d_X12_init_587 : decode mX12_init.1 587 = .ok (.dup, 1) ∧ 587 + 1 = 588 := ⟨by decide +kernel, rfl⟩
theorem d_X12_init_588 : decode mX12_init.1 588 = .ok (.iconst 1, 1) ∧ 588 + 1 = 589 := ⟨by decide +kernel, rfl⟩
theorem d_X12_init_589 : decode mX12_init.1 589 = .ok (.bipush 111, 2) ∧ 589 + 2 = 591 := ⟨by decide +kernel, rfl⟩
theorem d_X12_init_591 : decode mX12_init.1 591 = .ok (.castore, 1) ∧ 591 + 1 = 592 := ⟨by decide +kernel, rfl⟩
theorem d_X12_init_592 : decode mX12_init.1 592 = .ok (.dup, 1) ∧ 592 + 1 = 593 := ⟨by decide +kernel, rfl⟩
theorem d_X12_init_593 : decode mX12_init.1 593 = .ok (.iconst 2, 1) ∧ 593 + 1 = 594 := ⟨by decide +kernel, rfl⟩
theorem d_X12_init_594 : decode mX12_init.1 594 = .ok (.bipush 116, 2) ∧ 594 + 2 = 596 := ⟨by decide +kernel, rfl⟩
theorem d_X12_init_596 : decode mX12_init.1 596 = .ok (.castore, 1) ∧ 596 + 1 = 597 := ⟨by decide +kernel, rfl⟩
theorem d_X12_init_597 : decode mX12_init.1 597 = .ok (.putfield 78, 3) ∧ 597 + 3 = 600 := ⟨by decide +kernel, rfl⟩
theorem d_X12_init_600 : decode mX12_init.1 600 = .ok (.aload_n 0, 1) ∧ 600 + 1 = 601 := ⟨by decide +kernel, rfl⟩
theorem d_X12_init_601 : decode mX12_init.1 601 = .ok (.iconst 3, 1) ∧ 601 + 1 = 602 := ⟨by decide +kernel, rfl⟩
theorem d_X12_init_602 : decode mX12_init.1 602 = .ok (.newarray .char, 2) ∧ 602 + 2 = 604 := ⟨by decide +kernel, rfl⟩
theorem d_X12_init_604 : decode mX12_init.1 604 = .ok (.dup, 1) ∧ 604 + 1 = 605 := ⟨by decide +kernel, rfl⟩
theorem d_X12_init_605 : decode mX12_init.1 605 = .ok (.iconst 0, 1) ∧ 605 + 1 = 606 := ⟨by decide +kernel, rfl⟩
theorem d_X12_init_606 : decode mX12_init.1 606 = .ok (.bipush 97, 2) ∧ 606 + 2 = 608 := ⟨by decide +kernel, rfl⟩
theorem d_X12_init_608 : decode mX12_init.1 608 = .ok (.castore, 1) ∧ 608 + 1 = 609 := ⟨by decide +kernel, rfl⟩
theorem d_X12_init_609 : decode mX12_init.1 609 = .ok (.dup, 1) ∧ 609 + 1 = 610 := ⟨by decide +kernel, rfl⟩
theorem d_X12_init_610 : decode mX12_init.1 610 = .ok (.iconst 1, 1) ∧ 610 + 1 = 611 := ⟨by decide +kernel, rfl⟩
theorem d_X12_init_611 : decode mX12_init.1 611 = .ok (.bipush 108, 2) ∧ 611 + 2 = 613 := ⟨by decide +kernel, rfl⟩
theorem d_X12_init_613 : decode mX12_init.1 613 = .ok (.castore, 1) ∧ 613 + 1 = 614 := ⟨by decide +kernel, rfl⟩
theorem d_X12_init_614 : decode mX12_init.1 614 = .ok (.dup, 1) ∧ 614 + 1 = 615 := ⟨by decide +kernel, rfl⟩
theorem d_X12_init_615 : decode mX12_init.1 615 = .ok (.iconst 2, 1) ∧ 615 + 1 = 616 := ⟨by decide +kernel, rfl⟩
theorem d_X12_init_616 : decode mX12_init.1 616 = .ok (.bipush 108, 2) ∧ 616 + 2 = 618 := ⟨by decide +kernel, rfl⟩
theorem d_X12_init_618 : decode mX12_init.1 618 = .ok (.castore, 1) ∧ 618 + 1 = 619 := ⟨by decide +kernel, rfl⟩
theorem d_X12_init_619 : decode mX12_init.1 619 = .ok (.putfield 81, 3) ∧ 619 + 3 = 622 := ⟨by decide +kernel, rfl⟩
theorem d_X12_init_622 : decode mX12_init.1 622 = .ok (.aload_n 0, 1) ∧ 622 + 1 = 623 := ⟨by decide +kernel, rfl⟩
theorem d_X12_init_623 : decode mX12_init.1 623 = .ok (.iconst 3, 1) ∧ 623 + 1 = 624 := ⟨by decide +kernel, rfl⟩
theorem d_X12_init_624 : decode mX12_init.1 624 = .ok (.newarray .char, 2) ∧ 624 + 2 = 626 := ⟨by decide +kernel, rfl⟩
theorem d_X12_init_626 : decode mX12_init.1 626 = .ok (.dup, 1) ∧ 626 + 1 = 627 := ⟨by decide +kernel, rfl⟩
theorem d_X12_init_627 : decode mX12_init.1 627 = .ok (.iconst 0, 1) ∧ 627 + 1 = 628 := ⟨by decide +kernel, rfl⟩
theorem d_X12_init_628 : decode mX12_init.1 628 = .ok (.bipush 109, 2) ∧ 628 + 2 = 630 := ⟨by decide +kernel, rfl⟩
theorem d_X12_init_630 : decode mX12_init.1 630 = .ok (.castore, 1) ∧ 630 + 1 = 631 := ⟨by decide +kernel, rfl⟩
theorem d_X12_init_631 : decode mX12_init.1 631 = .ok (.dup, 1) ∧ 631 + 1 = 632 := ⟨by decide +kernel, rfl⟩
theorem d_X12_init_632 : decode mX12_init.1 632 = .ok (.iconst 1, 1) ∧ 632 + 1 = 633 := ⟨by decide +kernel, rfl⟩
theorem d_X12_init_633 : decode mX12_init.1 633 = .ok (.bipush 105, 2) ∧ 633 + 2 = 635 := ⟨by decide +kernel, rfl⟩
theorem d_X12_init_635 : decode mX12_init.1 635 = .ok (.castore, 1) ∧ 635 + 1 = 636 := ⟨by decide +kernel, rfl⟩
theorem d_X12_init_636 : decode mX12_init.1 636 = .ok (.dup, 1) ∧ 636 + 1 = 637 := ⟨by decide +kernel, rfl⟩
theorem d_X12_init_637 : decode mX12_init.1 637 = .ok (.iconst 2, 1) ∧ 637 + 1 = 638 := ⟨by decide +kernel, rfl⟩
theorem d_X12_init_638 : decode mX12_init.1 638 = .ok (.bipush 110, 2) ∧ 638 + 2 = 640 := ⟨by decide +kernel, rfl⟩
theorem d_X12_init_640 : decode mX12_init.1 640 = .ok (.castore, 1) ∧ 640 + 1 = 641 := ⟨by decide +kernel, rfl⟩
theorem d_X12_init_641 : decode mX12_init.1 641 = .ok (.putfield 84, 3) ∧ 641 + 3 = 644 := ⟨by decide +kernel, rfl⟩
theorem d_X12_init_644 : decode mX12_init.1 644 = .ok (.aload_n 0, 1) ∧ 644 + 1 = 645 := ⟨by decide +kernel, rfl⟩
theorem d_X12_init_645 : decode mX12_init.1 645 = .ok (.iconst 3, 1) ∧ 645 + 1 = 646 := ⟨by decide +kernel, rfl⟩
theorem d_X12_init_646 : decode mX12_init.1 646 = .ok (.newarray .char, 2) ∧ 646 + 2 = 648 := ⟨by decide +kernel, rfl⟩
theorem d_X12_init_648 : decode mX12_init.1 648 = .ok (.dup, 1) ∧ 648 + 1 = 649 := ⟨by decide +kernel, rfl⟩
theorem d_X12_init_649 : decode mX12_init.1 649 = .ok (.iconst 0, 1) ∧ 649 + 1 = 650 := ⟨by decide +kernel, rfl⟩
theorem d_X12_init_650 : decode mX12_init.1 650 = .ok (.bipush 109, 2) ∧ 650 + 2 = 652 := ⟨by decide +kernel, rfl⟩
theorem d_X12_init_652 : decode mX12_init.1 652 = .ok (.castore, 1) ∧ 652 + 1 = 653 := ⟨by decide +kernel, rfl⟩
theorem d_X12_init_653 : decode mX12_init.1 653 = .ok (.dup, 1) ∧ 653 + 1 = 654 := ⟨by decide +kernel, rfl⟩
theorem d_X12_init_654 : decode mX12_init.1 654 = .ok (.iconst 1, 1) ∧ 654 + 1 = 655 := ⟨by decide +kernel, rfl⟩
theorem d_X12_init_655 : decode mX12_init.1 655 = .ok (.bipush 97, 2) ∧ 655 + 2 = 657 := ⟨by decide +kernel, rfl⟩
theorem d_X12_init_657 : decode mX12_init.1 657 = .ok (.castore, 1) ∧ 657 + 1 = 658 := ⟨by decide +kernel, rfl⟩
theorem d_X12_init_658 : decode mX12_init.1 658 = .ok (.dup, 1) ∧ 658 + 1 = 659 := ⟨by decide +kernel, rfl⟩
theorem d_X12_init_659 : decode mX12_init.1 659 = .ok (.iconst 2, 1) ∧ 659 + 1 = 660 := ⟨by decide +kernel, rfl⟩
theorem d_X12_init_660 : decode mX12_init.1 660 = .ok (.bipush 120, 2) ∧ 660 + 2 = 662 := ⟨by decide +kernel, rfl⟩
theorem d_X12_init_662 : decode mX12_init.1 662 = .ok (.castore, 1) ∧ 662 + 1 = 663 := ⟨by decide +kernel, rfl⟩
theorem d_X12_init_663 : decode mX12_init.1 663 = .ok (.putfield 87, 3) ∧ 663 + 3 = 666 := ⟨by decide +kernel, rfl⟩
theorem d_X12_init_666 : decode mX12_init.1 666 = .ok (.aload_n 0, 1) ∧ 666 + 1 = 667 := ⟨by decide +kernel, rfl⟩
theorem d_X12_init_667 : decode mX12_init.1 667 = .ok (.bipush 6, 2) ∧ 667 + 2 = 669 := ⟨by decide +kernel, rfl⟩
theorem d_X12_init_669 : decode mX12_init.1 669 = .ok (.newarray .int, 2) ∧ 669 + 2 = 671 := ⟨by decide +kernel, rfl⟩
theorem d_X12_init_671 : decode mX12_init.1 671 = .ok (.putfield 90, 3) ∧ 671 + 3 = 674 := ⟨by decide +kernel, rfl⟩
theorem d_X12_init_674 : decode mX12_init.1 674 = .ok (.aload_n 0, 1) ∧ 674 + 1 = 675 := ⟨by decide +kernel, rfl⟩
theorem d_X12_init_675 : decode mX12_init.1 675 = .ok (.bipush 24, 2) ∧ 675 + 2 = 677 := ⟨by decide +kernel, rfl⟩
theorem d_X12_init_677 : decode mX12_init.1 677 = .ok (.newarray .long, 2) ∧ 677 + 2 = 679 := ⟨by decide +kernel, rfl⟩
theorem d_X12_init_679 : decode mX12_init.1 679 = .ok (.putfield 93, 3) ∧ 679 + 3 = 682 := ⟨by decide +kernel, rfl⟩
theorem d_X12_init_682 : decode mX12_init.1 682 = .ok (.aload_n 0, 1) ∧ 682 + 1 = 683 := ⟨by decide +kernel, rfl⟩
theorem d_X12_init_683 : decode mX12_init.1 683 = .ok (.bipush 12, 2) ∧ 683 + 2 = 685 := ⟨by decide +kernel, rfl⟩
theorem d_X12_init_685 : decode mX12_init.1 685 = .ok (.newarray .int, 2) ∧ 685 + 2 = 687 := ⟨by decide +kernel, rfl⟩
theorem d_X12_init_687 : decode mX12_init.1 687 = .ok (.putfield 97, 3) ∧ 687 + 3 = 690 := ⟨by decide +kernel, rfl⟩
theorem d_X12_init_690 : decode mX12_init.1 690 = .ok (.aload_n 0, 1) ∧ 690 + 1 = 691 := ⟨by decide +kernel, rfl⟩
theorem d_X12_init_691 : decode mX12_init.1 691 = .ok (.bipush 12, 2) ∧ 691 + 2 = 693 := ⟨by decide +kernel, rfl⟩
theorem d_X12_init_693 : decode mX12_init.1 693 = .ok (.newarray .int, 2) ∧ 693 + 2 = 695 := ⟨by decide +kernel, rfl⟩
theorem d_X12_init_695 : decode mX12_init.1 695 = .ok (.putfield 100, 3) ∧ 695 + 3 = 698 := ⟨by decide +kernel, rfl⟩
theorem d_X12_init_698 : decode mX12_init.1 698 = .ok (.aload_n 0, 1) ∧ 698 + 1 = 699 := ⟨by decide +kernel, rfl⟩
theorem d_X12_init_699 : decode mX12_init.1 699 = .ok (.bipush 6, 2) ∧ 699 + 2 = 701 := ⟨by decide +kernel, rfl⟩
theorem d_X12_init_701 : decode mX12_init.1 701 = .ok (.newarray .int, 2) ∧ 701 + 2 = 703 := ⟨by decide +kernel, rfl⟩
theorem d_X12_init_703 : decode mX12_init.1 703 = .ok (.putfield 103, 3) ∧ 703 + 3 = 706 := ⟨by decide +kernel, rfl⟩
theorem d_X12_init_706 : decode mX12_init.1 706 = .ok (.aload_n 0, 1) ∧ 706 + 1 = 707 := ⟨by decide +kernel, rfl⟩
theorem d_X12_init_707 : decode mX12_init.1 707 = .ok (.bipush 6, 2) ∧ 707 + 2 = 709 := ⟨by decide +kernel, rfl⟩
theorem d_X12_init_709 : decode mX12_init.1 709 = .ok (.newarray .int, 2) ∧ 709 + 2 = 711 := ⟨by decide +kernel, rfl⟩
theorem d_X12_init_711 : decode mX12_init.1 711 = .ok (.putfield 106, 3) ∧ 711 + 3 = 714 := ⟨by decide +kernel, rfl⟩
theorem d_X12_init_714 : decode mX12_init.1 714 = .ok (.aload_n 0, 1) ∧ 714 + 1 = 715 := ⟨by decide +kernel, rfl⟩
theorem d_X12_init_715 : decode mX12_init.1 715 = .ok (.bipush 6, 2) ∧ 715 + 2 = 717 := ⟨by decide +kernel, rfl⟩
theorem d_X12_init_717 : decode mX12_init.1 717 = .ok (.newarray .int, 2) ∧ 717 + 2 = 719 := ⟨by decide +kernel, rfl⟩
theorem d_X12_init_719 : decode mX12_init.1 719 = .ok (.putfield 109, 3) ∧ 719 + 3 = 722 := ⟨by decide +kernel, rfl⟩
theorem d_X12_init_722 : decode mX12_init.1 722 = .ok (.aload_n 0, 1) ∧ 722 + 1 = 723 := ⟨by decide +kernel, rfl⟩
theorem d_X12_init_723 : decode mX12_init.1 723 = .ok (.bipush 72, 2) ∧ 723 + 2 = 725 := ⟨by decide +kernel, rfl⟩
theorem d_X12_init_725 : decode mX12_init.1 725 = .ok (.newarray .int, 2) ∧ 725 + 2 = 727 := ⟨by decide +kernel, rfl⟩
theorem d_X12_init_727 : decode mX12_init.1 727 = .ok (.putfield 112, 3) ∧ 727 + 3 = 730 := ⟨by decide +kernel, rfl⟩
theorem d_X12_init_730 : decode mX12_init.1 730 = .ok (.aload_n 0, 1) ∧ 730 + 1 = 731 := ⟨by decide +kernel, rfl⟩
theorem d_X12_init_731 : decode mX12_init.1 731 = .ok (.bipush 12, 2) ∧ 731 + 2 = 733 := ⟨by decide +kernel, rfl⟩
theorem d_X12_init_733 : decode mX12_init.1 733 = .ok (.newarray .int, 2) ∧ 733 + 2 = 735 := ⟨by decide +kernel, rfl⟩
theorem d_X12_init_735 : decode mX12_init.1 735 = .ok (.putfield 115, 3) ∧ 735 + 3 = 738 := ⟨by decide +kernel, rfl⟩
theorem d_X12_init_738 : decode mX12_init.1 738 = .ok (.aload_n 0, 1) ∧ 738 + 1 = 739 := ⟨by decide +kernel, rfl⟩
theorem d_X12_init_739 : decode mX12_init.1 739 = .ok (.iconst 2, 1) ∧ 739 + 1 = 740 := ⟨by decide +kernel, rfl⟩
theorem d_X12_init_740 : decode mX12_init.1 740 = .ok (.newarray .int, 2) ∧ 740 + 2 = 742 := ⟨by decide +kernel, rfl⟩
theorem d_X12_init_742 : decode mX12_init.1 742 = .ok (.putfield 118, 3) ∧ 742 + 3 = 745 := ⟨by decide +kernel, rfl⟩
theorem d_X12_init_745 : decode mX12_init.1 745 = .ok (.aload_n 0, 1) ∧ 745 + 1 = 746 := ⟨by decide +kernel, rfl⟩
theorem d_X12_init_746 : decode mX12_init.1 746 = .ok (.iconst 4, 1) ∧ 746 + 1 = 747 := ⟨by decide +kernel, rfl⟩
theorem d_X12_init_747 : decode mX12_init.1 747 = .ok (.newarray .int, 2) ∧ 747 + 2 = 749 := ⟨by decide +kernel, rfl⟩
theorem d_X12_init_749 : decode mX12_init.1 749 = .ok (.dup, 1) ∧ 749 + 1 = 750 := ⟨by decide +kernel, rfl⟩
theorem d_X12_init_750 : decode mX12_init.1 750 = .ok (.iconst 0, 1) ∧ 750 + 1 = 751 := ⟨by decide +kernel, rfl⟩
theorem d_X12_init_751 : decode mX12_init.1 751 = .ok (.iconst (-1), 1) ∧ 751 + 1 = 752 := ⟨by decide +kernel, rfl⟩
theorem d_X12_init_752 : decode mX12_init.1 752 = .ok (.iastore, 1) ∧ 752 + 1 = 753 := ⟨by decide +kernel, rfl⟩
theorem d_X12_init_753 : decode mX12_init.1 753 = .ok (.dup, 1) ∧ 753 + 1 = 754 := ⟨by decide +kernel, rfl⟩
theorem d_X12_init_754 : decode mX12_init.1 754 = .ok (.iconst 1, 1) ∧ 754 + 1 = 755 := ⟨by decide +kernel, rfl⟩
theorem d_X12_init_755 : decode mX12_init.1 755 = .ok (.iconst (-1), 1) ∧ 755 + 1 = 756 := ⟨by decide +kernel, rfl⟩
theorem d_X12_init_756 : decode mX12_init.1 756 = .ok (.iastore, 1) ∧ 756 + 1 = 757 := ⟨by decide +kernel, rfl⟩
theorem d_X12_init_757 : decode mX12_init.1 757 = .ok (.dup, 1) ∧ 757 + 1 = 758 := ⟨by decide +kernel, rfl⟩
theorem d_X12_init_758 : decode mX12_init.1 758 = .ok (.iconst 2, 1) ∧ 758 + 1 = 759 := ⟨by decide +kernel, rfl⟩
theorem d_X12_init_759 : decode mX12_init.1 759 = .ok (.iconst (-1), 1) ∧ 759 + 1 = 760 := ⟨by decide +kernel, rfl⟩
theorem d_X12_init_760 : decode mX12_init.1 760 = .ok (.iastore, 1) ∧ 760 + 1 = 761 := ⟨by decide +kernel, rfl⟩
theorem d_X12_init_761 : decode mX12_init.1 761 = .ok (.dup, 1) ∧ 761 + 1 = 762 := ⟨by decide +kernel, rfl⟩
theorem d_X12_init_762 : decode mX12_init.1 762 = .ok (.iconst 3, 1) ∧ 762 + 1 = 763 := ⟨by decide +kernel, rfl⟩
theorem d_X12_init_763 : decode mX12_init.1 763 = .ok (.iconst (-1), 1) ∧ 763 + 1 = 764 := ⟨by decide +kernel, rfl⟩
theorem d_X12_init_764 : decode mX12_init.1 764 = .ok (.iastore, 1) ∧ 764 + 1 = 765 := ⟨by decide +kernel, rfl⟩
theorem d_X12_init_765 : decode mX12_init.1 765 = .ok (.putfield 121, 3) ∧ 765 + 3 = 768 := ⟨by decide +kernel, rfl⟩
theorem d_X12_init_768 : decode mX12_init.1 768 = .ok (.aload_n 0, 1) ∧ 768 + 1 = 769 := ⟨by decide +kernel, rfl⟩
theorem d_X12_init_769 : decode mX12_init.1 769 = .ok (.iconst 4, 1) ∧ 769 + 1 = 770 := ⟨by decide +kernel, rfl⟩
theorem d_X12_init_770 : decode mX12_init.1 770 = .ok (.newarray .int, 2) ∧ 770 + 2 = 772 := ⟨by decide +kernel, rfl⟩
theorem d_X12_init_772 : decode mX12_init.1 772 = .ok (.putfield 124, 3) ∧ 772 + 3 = 775 := ⟨by decide +kernel, rfl⟩
theorem d_X12_init_775 : decode mX12_init.1 775 = .ok (.aload_n 0, 1) ∧ 775 + 1 = 776 := ⟨by decide +kernel, rfl⟩
theorem d_X12_init_776 : decode mX12_init.1 776 = .ok (.sipush 3200, 3) ∧ 776 + 3 = 779 := ⟨by decide +kernel, rfl⟩
theorem d_X12_init_779 : decode mX12_init.1 779 = .ok (.newarray .int, 2) ∧ 779 + 2 = 781 := ⟨by decide +kernel, rfl⟩
theorem d_X12_init_781 : decode mX12_init.1 781 = .ok (.putfield 127, 3) ∧ 781 + 3 = 784 := ⟨by decide +kernel, rfl⟩
theorem d_X12_init_784 : decode mX12_init.1 784 = .ok (.aload_n 0, 1) ∧ 784 + 1 = 785 := ⟨by decide +kernel, rfl⟩
theorem d_X12_init_785 : decode mX12_init.1 785 = .ok (.sipush 176, 3) ∧ 785 + 3 = 788 := ⟨by decide +kernel, rfl⟩
theorem d_X12_init_788 : decode mX12_init.1 788 = .ok (.newarray .int, 2) ∧ 788 + 2 = 790 := ⟨by decide +kernel, rfl⟩
theorem d_X12_init_790 : decode mX12_init.1 790 = .ok (.putfield 130, 3) ∧ 790 + 3 = 793 := ⟨by decide +kernel, rfl⟩
theorem d_X12_init_793 : decode mX12_init.1 793 = .ok (.aload_n 0, 1) ∧ 793 + 1 = 794 := ⟨by decide +kernel, rfl⟩
theorem d_X12_init_794 : decode mX12_init.1 794 = .ok (.bipush 6, 2) ∧ 794 + 2 = 796 := ⟨by decide +kernel, rfl⟩
theorem d_X12_init_796 : decode mX12_init.1 796 = .ok (.newarray .int, 2) ∧ 796 + 2 = 798 := ⟨by decide +kernel, rfl⟩
theorem d_X12_init_798 : decode mX12_init.1 798 = .ok (.putfield 133, 3) ∧ 798 + 3 = 801 := ⟨by decide +kernel, rfl⟩
theorem d_X12_init_801 : decode mX12_init.1 801 = .ok (.aload_n 0, 1) ∧ 801 + 1 = 802 := ⟨by decide +kernel, rfl⟩
theorem d_X12_init_802 : decode mX12_init.1 802 = .ok (.bipush 6, 2) ∧ 802 + 2 = 804 := ⟨by decide +kernel, rfl⟩
theorem d_X12_init_804 : decode mX12_init.1 804 = .ok (.newarray .int, 2) ∧ 804 + 2 = 806 := ⟨by decide +kernel, rfl⟩
theorem d_X12_init_806 : decode mX12_init.1 806 = .ok (.putfield 136, 3) ∧ 806 + 3 = 809 := ⟨by decide +kernel, rfl⟩
theorem d_X12_init_809 : decode mX12_init.1 809 = .ok (.aload_n 0, 1) ∧ 809 + 1 = 810 := ⟨by decide +kernel, rfl⟩
theorem d_X12_init_810 : decode mX12_init.1 810 = .ok (.bipush 6, 2) ∧ 810 + 2 = 812 := ⟨by decide +kernel, rfl⟩
theorem d_X12_init_812 : decode mX12_init.1 812 = .ok (.newarray .int, 2) ∧ 812 + 2 = 814 := ⟨by decide +kernel, rfl⟩
theorem d_X12_init_814 : decode mX12_init.1 814 = .ok (.putfield 139, 3) ∧ 814 + 3 = 817 := ⟨by decide +kernel, rfl⟩
theorem d_X12_init_817 : decode mX12_init.1 817 = .ok (.aload_n 0, 1) ∧ 817 + 1 = 818 := ⟨by decide +kernel, rfl⟩
theorem d_X12_init_818 : decode mX12_init.1 818 = .ok (.ldc 142, 2) ∧ 818 + 2 = 820 := ⟨by decide +kernel, rfl⟩
theorem d_X12_init_820 : decode mX12_init.1 820 = .ok (.newarray .int, 2) ∧ 820 + 2 = 822 := ⟨by decide +kernel, rfl⟩
theorem d_X12_init_822 : decode mX12_init.1 822 = .ok (.putfield 143, 3) ∧ 822 + 3 = 825 := ⟨by decide +kernel, rfl⟩
theorem d_X12_init_825 : decode mX12_init.1 825 = .ok (.aload_n 0, 1) ∧ 825 + 1 = 826 := ⟨by decide +kernel, rfl⟩
theorem d_X12_init_826 : decode mX12_init.1 826 = .ok (.sipush 720, 3) ∧ 826 + 3 = 829 := ⟨by decide +kernel, rfl⟩
theorem d_X12_init_829 : decode mX12_init.1 829 = .ok (.newarray .int, 2) ∧ 829 + 2 = 831 := ⟨by decide +kernel, rfl⟩
theorem d_X12_init_831 : decode mX12_init.1 831 = .ok (.putfield 146, 3) ∧ 831 + 3 = 834 := ⟨by decide +kernel, rfl⟩
theorem d_X12_init_834 : decode mX12_init.1 834 = .ok (.aload_n 0, 1) ∧ 834 + 1 = 835 := ⟨by decide +kernel, rfl⟩
theorem d_X12_init_835 : decode mX12_init.1 835 = .ok (.bipush 6, 2) ∧ 835 + 2 = 837 := ⟨by decide +kernel, rfl⟩
theorem d_X12_init_837 : decode mX12_init.1 837 = .ok (.newarray .int, 2) ∧ 837 + 2 = 839 := ⟨by decide +kernel, rfl⟩
theorem d_X12_init_839 : decode mX12_init.1 839 = .ok (.putfield 149, 3) ∧ 839 + 3 = 842 := ⟨by decide +kernel, rfl⟩
theorem d_X12_init_842 : decode mX12_init.1 842 = .ok (.aload_n 0, 1) ∧ 842 + 1 = 843 := ⟨by decide +kernel, rfl⟩
theorem d_X12_init_843 : decode mX12_init.1 843 = .ok (.bipush 6, 2) ∧ 843 + 2 = 845 := ⟨by decide +kernel, rfl⟩
theorem d_X12_init_845 : decode mX12_init.1 845 = .ok (.newarray .int, 2) ∧ 845 + 2 = 847 := ⟨by decide +kernel, rfl⟩
theorem d_X12_init_847 : decode mX12_init.1 847 = .ok (.putfield 152, 3) ∧ 847 + 3 = 850 := ⟨by decide +kernel, rfl⟩
theorem d_X12_init_850 : decode mX12_init.1 850 = .ok (.aload_n 0, 1) ∧ 850 + 1 = 851 := ⟨by decide +kernel, rfl⟩
theorem d_X12_init_851 : decode mX12_init.1 851 = .ok (.bipush 6, 2) ∧ 851 + 2 = 853 := ⟨by decide +kernel, rfl⟩
theorem d_X12_init_853 : decode mX12_init.1 853 = .ok (.newarray .int, 2) ∧ 853 + 2 = 855 := ⟨by decide +kernel, rfl⟩
theorem d_X12_init_855 : decode mX12_init.1 855 = .ok (.putfield 155, 3) ∧ 855 + 3 = 858 := ⟨by decide +kernel, rfl⟩
theorem d_X12_init_858 : decode mX12_init.1 858 = .ok (.aload_n 0, 1) ∧ 858 + 1 = 859 := ⟨by decide +kernel, rfl⟩
theorem d_X12_init_859 : decode mX12_init.1 859 = .ok (.bipush 6, 2) ∧ 859 + 2 = 861 := ⟨by decide +kernel, rfl⟩
theorem d_X12_init_861 : decode mX12_init.1 861 = .ok (.newarray .int, 2) ∧ 861 + 2 = 863 := ⟨by decide +kernel, rfl⟩
theorem d_X12_init_863 : decode mX12_init.1 863 = .ok (.putfield 158, 3) ∧ 863 + 3 = 866 := ⟨by decide +kernel, rfl⟩
theorem d_X12_init_866 : decode mX12_init.1 866 = .ok (.aload_n 0, 1) ∧ 866 + 1 = 867 := ⟨by decide +kernel, rfl⟩
theorem d_X12_init_867 : decode mX12_init.1 867 = .ok (.bipush 60, 2) ∧ 867 + 2 = 869 := ⟨by decide +kernel, rfl⟩
theorem d_X12_init_869 : decode mX12_init.1 869 = .ok (.newarray .int, 2) ∧ 869 + 2 = 871 := ⟨by decide +kernel, rfl⟩
theorem d_X12_init_871 : decode mX12_init.1 871 = .ok (.putfield 161, 3) ∧ 871 + 3 = 874 := ⟨by decide +kernel, rfl⟩
theorem d_X12_init_874 : decode mX12_init.1 874 = .ok (.aload_n 0, 1) ∧ 874 + 1 = 875 := ⟨by decide +kernel, rfl⟩
theorem d_X12_init_875 : decode mX12_init.1 875 = .ok (.bipush 36, 2) ∧ 875 + 2 = 877 := ⟨by decide +kernel, rfl⟩
theorem d_X12_init_877 : decode mX12_init.1 877 = .ok (.newarray .int, 2) ∧ 877 + 2 = 879 := ⟨by decide +kernel, rfl⟩
theorem d_X12_init_879 : decode mX12_init.1 879 = .ok (.putfield 164, 3) ∧ 879 + 3 = 882 := ⟨by decide +kernel, rfl⟩
theorem d_X12_init_882 : decode mX12_init.1 882 = .ok (.aload_n 0, 1) ∧ 882 + 1 = 883 := ⟨by decide +kernel, rfl⟩
theorem d_X12_init_883 : decode mX12_init.1 883 = .ok (.sipush 3520, 3) ∧ 883 + 3 = 886 := ⟨by decide +kernel, rfl⟩
theorem d_X12_init_886 : decode mX12_init.1 886 = .ok (.newarray .int, 2) ∧ 886 + 2 = 888 := ⟨by decide +kernel, rfl⟩
theorem d_X12_init_888 : decode mX12_init.1 888 = .ok (.putfield 167, 3) ∧ 888 + 3 = 891 := ⟨by decide +kernel, rfl⟩
theorem d_X12_init_891 : decode mX12_init.1 891 = .ok (.aload_n 0, 1) ∧ 891 + 1 = 892 := ⟨by decide +kernel, rfl⟩
theorem d_X12_init_892 : decode mX12_init.1 892 = .ok (.lconst 1, 1) ∧ 892 + 1 = 893 := ⟨by decide +kernel, rfl⟩
theorem d_X12_init_893 : decode mX12_init.1 893 = .ok (.putfield 170, 3) ∧ 893 + 3 = 896 := ⟨by decide +kernel, rfl⟩
theorem d_X12_init_896 : decode mX12_init.1 896 = .ok (.aload_n 0, 1) ∧ 896 + 1 = 897 := ⟨by decide +kernel, rfl⟩
theorem d_X12_init_897 : decode mX12_init.1 897 = .ok (.iconst 5, 1) ∧ 897 + 1 = 898 := ⟨by decide +kernel, rfl⟩
theorem d_X12_init_898 : decode mX12_init.1 898 = .ok (.newarray .char, 2) ∧ 898 + 2 = 900 := ⟨by decide +kernel, rfl⟩
theorem d_X12_init_900 : decode mX12_init.1 900 = .ok (.dup, 1) ∧ 900 + 1 = 901 := ⟨by decide +kernel, rfl⟩
theorem d_X12_init_901 : decode mX12_init.1 901 = .ok (.iconst 0, 1) ∧ 901 + 1 = 902 := ⟨by decide +kernel, rfl⟩
theorem d_X12_init_902 : decode mX12_init.1 902 = .ok (.bipush 102, 2) ∧ 902 + 2 = 904 := ⟨by decide +kernel, rfl⟩
theorem d_X12_init_904 : decode mX12_init.1 904 = .ok (.castore, 1) ∧ 904 + 1 = 905 := ⟨by decide +kernel, rfl⟩
theorem d_X12_init_905 : decode mX12_init.1 905 = .ok (.dup, 1) ∧ 905 + 1 = 906 := ⟨by decide +kernel, rfl⟩
theorem d_X12_init_906 : decode mX12_init.1 906 = .ok (.iconst 1, 1) ∧ 906 + 1 = 907 := ⟨by decide +kernel, rfl⟩
theorem d_X12_init_907 : decode mX12_init.1 907 = .ok (.bipush 105, 2) ∧ 907 + 2 = 909 := ⟨by decide +kernel, rfl⟩
theorem d_X12_init_909 : decode mX12_init.1 909 = .ok (.castore, 1) ∧ 909 + 1 = 910 := ⟨by decide +kernel, rfl⟩
theorem d_X12_init_910 : decode mX12_init.1 910 = .ok (.dup, 1) ∧ 910 + 1 = 911 := ⟨by decide +kernel, rfl⟩
theorem d_X12_init_911 : decode mX12_init.1 911 = .ok (.iconst 2, 1) ∧ 911 + 1 = 912 := ⟨by decide +kernel, rfl⟩
theorem d_X12_init_912 : decode mX12_init.1 912 = .ok (.bipush 114, 2) ∧ 912 + 2 = 914 := ⟨by decide +kernel, rfl⟩
theorem d_X12_init_914 : decode mX12_init.1 914 = .ok (.castore, 1) ∧ 914 + 1 = 915 := ⟨by decide +kernel, rfl⟩
theorem d_X12_init_915 : decode mX12_init.1 915 = .ok (.dup, 1) ∧ 915 + 1 = 916 := ⟨by decide +kernel, rfl⟩
theorem d_X12_init_916 : decode mX12_init.1 916 = .ok (.iconst 3, 1) ∧ 916 + 1 = 917 := ⟨by decide +kernel, rfl⟩
theorem d_X12_init_917 : decode mX12_init.1 917 = .ok (.bipush 115, 2) ∧ 917 + 2 = 919 := ⟨by decide +kernel, rfl⟩
theorem d_X12_init_919 : decode mX12_init.1 919 = .ok (.castore, 1) ∧ 919 + 1 = 920 := ⟨by decide +kernel, rfl⟩
theorem d_X12_init_920 : decode mX12_init.1 920 = .ok (.dup, 1) ∧ 920 + 1 = 921 := ⟨by decide +kernel, rfl⟩
theorem d_X12_init_921 : decode mX12_init.1 921 = .ok (.iconst 4, 1) ∧ 921 + 1 = 922 := ⟨by decide +kernel, rfl⟩
theorem d_X12_init_922 : decode mX12_init.1 922 = .ok (.bipush 116, 2) ∧ 922 + 2 = 924 := ⟨by decide +kernel, rfl⟩
theorem d_X12_init_924 : decode mX12_init.1 924 = .ok (.castore, 1) ∧ 924 + 1 = 925 := ⟨by decide +kernel, rfl⟩
theorem d_X12_init_925 : decode mX12_init.1 925 = .ok (.putfield 174, 3) ∧ 925 + 3 = 928 := ⟨by decide +kernel, rfl⟩
theorem d_X12_init_928 : decode mX12_init.1 928 = .ok (.aload_n 0, 1) ∧ 928 + 1 = 929 := ⟨by decide +kernel, rfl⟩
theorem d_X12_init_929 : decode mX12_init.1 929 = .ok (.iconst 4, 1) ∧ 929 + 1 = 930 := ⟨by decide +kernel, rfl⟩
theorem d_X12_init_930 : decode mX12_init.1 930 = .ok (.newarray .char, 2) ∧ 930 + 2 = 932 := ⟨by decide +kernel, rfl⟩
theorem d_X12_init_932 : decode mX12_init.1 932 = .ok (.dup, 1) ∧ 932 + 1 = 933 := ⟨by decide +kernel, rfl⟩
theorem d_X12_init_933 : decode mX12_init.1 933 = .ok (.iconst 0, 1) ∧ 933 + 1 = 934 := ⟨by decide +kernel, rfl⟩
theorem d_X12_init_934 : decode mX12_init.1 934 = .ok (.bipush 108, 2) ∧ 934 + 2 = 936 := ⟨by decide +kernel, rfl⟩
theorem d_X12_init_936 : decode mX12_init.1 936 = .ok (.castore, 1) ∧ 936 + 1 = 937 := ⟨by decide +kernel, rfl⟩
theorem d_X12_init_937 : decode mX12_init.1 937 = .ok (.dup, 1) ∧ 937 + 1 = 938 := ⟨by decide +kernel, rfl⟩
theorem d_X12_init_938 : decode mX12_init.1 938 = .ok (.iconst 1, 1) ∧ 938 + 1 = 939 := ⟨by decide +kernel, rfl⟩
theorem d_X12_init_939 : decode mX12_init.1 939 = .ok (.bipush 97, 2) ∧ 939 + 2 = 941 := ⟨by decide +kernel, rfl⟩
theorem d_X12_init_941 : decode mX12_init.1 941 = .ok (.castore, 1) ∧ 941 + 1 = 942 := ⟨by decide +kernel, rfl⟩
theorem d_X12_init_942 : decode mX12_init.1 942 = .ok (.dup, 1) ∧ 942 + 1 = 943 := ⟨by decide +kernel, rfl⟩
theorem d_X12_init_943 : decode mX12_init.1 943 = .ok (.iconst 2, 1) ∧ 943 + 1 = 944 := ⟨by decide +kernel, rfl⟩
theorem d_X12_init_944 : decode mX12_init.1 944 = .ok (.bipush 115, 2) ∧ 944 + 2 = 946 := ⟨by decide +kernel, rfl⟩
theorem d_X12_init_946 : decode mX12_init.1 946 = .ok (.castore, 1) ∧ 946 + 1 = 947 := ⟨by decide +kernel, rfl⟩
theorem d_X12_init_947 : decode mX12_init.1 947 = .ok (.dup, 1) ∧ 947 + 1 = 948 := ⟨by decide +kernel, rfl⟩
theorem d_X12_init_948 : decode mX12_init.1 948 = .ok (.iconst 3, 1) ∧ 948 + 1 = 949 := ⟨by decide +kernel, rfl⟩
theorem d_X12_init_949 : decode mX12_init.1 949 = .ok (.bipush 116, 2) ∧ 949 + 2 = 951 := ⟨by decide +kernel, rfl⟩
theorem d_X12_init_951 : decode mX12_init.1 951 = .ok (.castore, 1) ∧ 951 + 1 = 952 := ⟨by decide +kernel, rfl⟩
theorem d_X12_init_952 : decode mX12_init.1 952 = .ok (.putfield 177, 3) ∧ 952 + 3 = 955 := ⟨by decide +kernel, rfl⟩
theorem d_X12_init_955 : decode mX12_init.1 955 = .ok (.aload_n 0, 1) ∧ 955 + 1 = 956 := ⟨by decide +kernel, rfl⟩
theorem d_X12_init_956 : decode mX12_init.1 956 = .ok (.iconst 5, 1) ∧ 956 + 1 = 957 := ⟨by decide +kernel, rfl⟩
theorem d_X12_init_957 : decode mX12_init.1 957 = .ok (.newarray .char, 2) ∧ 957 + 2 = 959 := ⟨by decide +kernel, rfl⟩
theorem d_X12_init_959 : decode mX12_init.1 959 = .ok (.dup, 1) ∧ 959 + 1 = 960 := ⟨by decide +kernel, rfl⟩
theorem d_X12_init_960 : decode mX12_init.1 960 = .ok (.iconst 0, 1) ∧ 960 + 1 = 961 := ⟨by decide +kernel, rfl⟩
theorem d_X12_init_961 : decode mX12_init.1 961 = .ok (.bipush 111, 2) ∧ 961 + 2 = 963 := ⟨by decide +kernel, rfl⟩
theorem d_X12_init_963 : decode mX12_init.1 963 = .ok (.castore, 1) ∧ 963 + 1 = 964 := ⟨by decide +kernel, rfl⟩
theorem d_X12_init_964 : decode mX12_init.1 964 = .ok (.dup, 1) ∧ 964 + 1 = 965 := ⟨by decide +kernel, rfl⟩
theorem d_X12_init_965 : decode mX12_init.1 965 = .ok (.iconst 1, 1) ∧ 965 + 1 = 966 := ⟨by decide +kernel, rfl⟩
theorem d_X12_init_966 : decode mX12_init.1 966 = .ok (.bipush 102, 2) ∧ 966 + 2 = 968 := ⟨by decide +kernel, rfl⟩
theorem d_X12_init_968 : decode mX12_init.1 968 = .ok (.castore, 1) ∧ 968 + 1 = 969 := ⟨by decide +kernel, rfl⟩
theorem d_X12_init_969 : decode mX12_init.1 969 = .ok (.dup, 1) ∧ 969 + 1 = 970 := ⟨by decide +kernel, rfl⟩
theorem d_X12_init_970 : decode mX12_init.1 970 = .ok (.iconst 2, 1) ∧ 970 + 1 = 971 := ⟨by decide +kernel, rfl⟩
theorem d_X12_init_971 : decode mX12_init.1 971 = .ok (.bipush 116, 2) ∧ 971 + 2 = 973 := ⟨by decide +kernel, rfl⟩
theorem d_X12_init_973 : decode mX12_init.1 973 = .ok (.castore, 1) ∧ 973 + 1 = 974 := ⟨by decide +kernel, rfl⟩
theorem d_X12_init_974 : decode mX12_init.1 974 = .ok (.dup, 1) ∧ 974 + 1 = 975 := ⟨by decide +kernel, rfl⟩
theorem d_X12_init_975 : decode mX12_init.1 975 = .ok (.iconst 3, 1) ∧ 975 + 1 = 976 := ⟨by decide +kernel, rfl⟩
theorem d_X12_init_976 : decode mX12_init.1 976 = .ok (.bipush 101, 2) ∧ 976 + 2 = 978 := ⟨by decide +kernel, rfl⟩
theorem d_X12_init_978 : decode mX12_init.1 978 = .ok (.castore, 1) ∧ 978 + 1 = 979 := ⟨by decide +kernel, rfl⟩
theorem d_X12_init_979 : decode mX12_init.1 979 = .ok (.dup, 1) ∧ 979 + 1 = 980 := ⟨by decide +kernel, rfl⟩
theorem d_X12_init_980 : decode mX12_init.1 980 = .ok (.iconst 4, 1) ∧ 980 + 1 = 981 := ⟨by decide +kernel, rfl⟩
theorem d_X12_init_981 : decode mX12_init.1 981 = .ok (.bipush 110, 2) ∧ 981 + 2 = 983 := ⟨by decide +kernel, rfl⟩
theorem d_X12_init_983 : decode mX12_init.1 983 = .ok (.castore, 1) ∧ 983 + 1 = 984 := ⟨by decide +kernel, rfl⟩
theorem d_X12_init_984 : decode mX12_init.1 984 = .ok (.putfield 180, 3) ∧ 984 + 3 = 987 := ⟨by decide +kernel, rfl⟩
theorem d_X12_init_987 : decode mX12_init.1 987 = .ok (.aload_n 0, 1) ∧ 987 + 1 = 988 := ⟨by decide +kernel, rfl⟩
theorem d_X12_init_988 : decode mX12_init.1 988 = .ok (.iconst 5, 1) ∧ 988 + 1 = 989 := ⟨by decide +kernel, rfl⟩
theorem d_X12_init_989 : decode mX12_init.1 989 = .ok (.newarray .char, 2) ∧ 989 + 2 = 991 := ⟨by decide +kernel, rfl⟩
theorem d_X12_init_991 : decode mX12_init.1 991 = .ok (.dup, 1) ∧ 991 + 1 = 992 := ⟨by decide +kernel, rfl⟩
theorem d_X12_init_992 : decode mX12_init.1 992 = .ok (.iconst 0, 1) ∧ 992 + 1 = 993 := ⟨by decide +kernel, rfl⟩
theorem d_X12_init_993 : decode mX12_init.1 993 = .ok (.bipush 116, 2) ∧ 993 + 2 = 995 := ⟨by decide +kernel, rfl⟩
theorem d_X12_init_995 : decode mX12_init.1 995 = .ok (.castore, 1) ∧ 995 + 1 = 996 := ⟨by decide +kernel, rfl⟩
theorem d_X12_init_996 : decode mX12_init.1 996 = .ok (.dup, 1) ∧ 996 + 1 = 997 := ⟨by decide +kernel, rfl⟩
theorem d_X12_init_997 : decode mX12_init.1 997 = .ok (.iconst 1, 1) ∧ 997 + 1 = 998 := ⟨by decide +kernel, rfl⟩
theorem d_X12_init_998 : decode mX12_init.1 998 = .ok (.bipush 111, 2) ∧ 998 + 2 = 1000 := ⟨by decide +kernel, rfl⟩
theorem d_X12_init_1000 : decode mX12_init.1 1000 = .ok (.castore, 1) ∧ 1000 + 1 = 1001 := ⟨by decide +kernel, rfl⟩
theorem d_X12_init_1001 : decode mX12_init.1 1001 = .ok (.dup, 1) ∧ 1001 + 1 = 1002 := ⟨by decide +kernel, rfl⟩
theorem d_X12_init_1002 : decode mX12_init.1 1002 = .ok (.iconst 2, 1) ∧ 1002 + 1 = 1003 := ⟨by decide +kernel, rfl⟩
theorem d_X12_init_1003 : decode mX12_init.1 1003 = .ok (.bipush 116, 2) ∧ 1003 + 2 = 1005 := ⟨by decide +kernel, rfl⟩
theorem d_X12_init_1005 : decode mX12_init.1 1005 = .ok (.castore, 1) ∧ 1005 + 1 = 1006 := ⟨by decide +kernel, rfl⟩
theorem d_X12_init_1006 : decode mX12_init.1 1006 = .ok (.dup, 1) ∧ 1006 + 1 = 1007 := ⟨by decide +kernel, rfl⟩
theorem d_X12_init_1007 : decode mX12_init.1 1007 = .ok (.iconst 3, 1) ∧ 1007 + 1 = 1008 := ⟨by decide +kernel, rfl⟩
theorem d_X12_init_1008 : decode mX12_init.1 1008 = .ok (.bipush 97, 2) ∧ 1008 + 2 = 1010 := ⟨by decide +kernel, rfl⟩
theorem d_X12_init_1010 : decode mX12_init.1 1010 = .ok (.castore, 1) ∧ 1010 + 1 = 1011 := ⟨by decide +kernel, rfl⟩
theorem d_X12_init_1011 : decode mX12_init.1 1011 = .ok (.dup, 1) ∧ 1011 + 1 = 1012 := ⟨by decide +kernel, rfl⟩
theorem d_X12_init_1012 : decode mX12_init.1 1012 = .ok (.iconst 4, 1) ∧ 1012 + 1 = 1013 := ⟨by decide +kernel, rfl⟩
theorem d_X12_init_1013 : decode mX12_init.1 1013 = .ok (.bipush 108, 2) ∧ 1013 + 2 = 1015 := ⟨by decide +kernel, rfl⟩
theorem d_X12_init_1015 : decode mX12_init.1 1015 = .ok (.castore, 1) ∧ 1015 + 1 = 1016 := ⟨by decide +kernel, rfl⟩
theorem d_X12_init_1016 : decode mX12_init.1 1016 = .ok (.putfield 183, 3) ∧ 1016 + 3 = 1019 := ⟨by decide +kernel, rfl⟩
theorem d_X12_init_1019 : decode mX12_init.1 1019 = .ok (.aload_n 0, 1) ∧ 1019 + 1 = 1020 := ⟨by decide +kernel, rfl⟩
theorem d_X12_init_1020 : decode mX12_init.1 1020 = .ok (.iconst 4, 1) ∧ 1020 + 1 = 1021 := ⟨by decide +kernel, rfl⟩
theorem d_X12_init_1021 : decode mX12_init.1 1021 = .ok (.newarray .char, 2) ∧ 1021 + 2 = 1023 := ⟨by decide +kernel, rfl⟩
theorem d_X12_init_1023 : decode mX12_init.1 1023 = .ok (.dup, 1) ∧ 1023 + 1 = 1024 := ⟨by decide +kernel, rfl⟩
theorem d_X12_init_1024 : decode mX12_init.1 1024 = .ok (.iconst 0, 1) ∧ 1024 + 1 = 1025 := ⟨by decide +kernel, rfl⟩
theorem d_X12_init_1025 : decode mX12_init.1 1025 = .ok (.bipush 109, 2) ∧ 1025 + 2 = 1027 := ⟨by decide +kernel, rfl⟩
theorem d_X12_init_1027 : decode mX12_init.1 1027 = .ok (.castore, 1) ∧ 1027 + 1 = 1028 := ⟨by decide +kernel, rfl⟩
theorem d_X12_init_1028 : decode mX12_init.1 1028 = .ok (.dup, 1) ∧ 1028 + 1 = 1029 := ⟨by decide +kernel, rfl⟩
theorem d_X12_init_1029 : decode mX12_init.1 1029 = .ok (.iconst 1, 1) ∧ 1029 + 1 = 1030 := ⟨by decide +kernel, rfl⟩
theorem d_X12_init_1030 : decode mX12_init.1 1030 = .ok (.bipush 111, 2) ∧ 1030 + 2 = 1032 := ⟨by decide +kernel, rfl⟩
theorem d_X12_init_1032 : decode mX12_init.1 1032 = .ok (.castore, 1) ∧ 1032 + 1 = 1033 := ⟨by decide +kernel, rfl⟩
theorem d_X12_init_1033 : decode mX12_init.1 1033 = .ok (.dup, 1) ∧ 1033 + 1 = 1034 := ⟨by decide +kernel, rfl⟩
theorem d_X12_init_1034 : decode mX12_init.1 1034 = .ok (.iconst 2, 1) ∧ 1034 + 1 = 1035 := ⟨by decide +kernel, rfl⟩
theorem d_X12_init_1035 : decode mX12_init.1 1035 = .ok (.bipush 115, 2) ∧ 1035 + 2 = 1037 := ⟨by decide +kernel, rfl⟩
theorem d_X12_init_1037 : decode mX12_init.1 1037 = .ok (.castore, 1) ∧ 1037 + 1 = 1038 := ⟨by decide +kernel, rfl⟩
theorem d_X12_init_1038 : decode mX12_init.1 1038 = .ok (.dup, 1) ∧ 1038 + 1 = 1039 := ⟨by decide +kernel, rfl⟩
theorem d_X12_init_1039 : decode mX12_init.1 1039 = .ok (.iconst 3, 1) ∧ 1039 + 1 = 1040 := ⟨by decide +kernel, rfl⟩
theorem d_X12_init_1040 : decode mX12_init.1 1040 = .ok (.bipush 116, 2) ∧ 1040 + 2 = 1042 := ⟨by decide +kernel, rfl⟩
theorem d_X12_init_1042 : decode mX12_init.1 1042 = .ok (.castore, 1) ∧ 1042 + 1 = 1043 := ⟨by decide +kernel, rfl⟩
theorem d_X12_init_1043 : decode mX12_init.1 1043 = .ok (.putfield 186, 3) ∧ 1043 + 3 = 1046 := ⟨by decide +kernel, rfl⟩
theorem d_X12_init_1046 : decode mX12_init.1 1046 = .ok (.aload_n 0, 1) ∧ 1046 + 1 = 1047 := ⟨by decide +kernel, rfl⟩
theorem d_X12_init_1047 : decode mX12_init.1 1047 = .ok (.iconst 5, 1) ∧ 1047 + 1 = 1048 := ⟨by decide +kernel, rfl⟩
theorem d_X12_init_1048 : decode mX12_init.1 1048 = .ok (.newarray .char, 2) ∧ 1048 + 2 = 1050 := ⟨by decide +kernel, rfl⟩
theorem d_X12_init_1050 : decode mX12_init.1 1050 = .ok (.dup, 1) ∧ 1050 + 1 = 1051 := ⟨by decide +kernel, rfl⟩
theorem d_X12_init_1051 : decode mX12_init.1 1051 = .ok (.iconst 0, 1) ∧ 1051 + 1 = 1052 := ⟨by decide +kernel, rfl⟩
theorem d_X12_init_1052 : decode mX12_init.1 1052 = .ok (.bipush 108, 2) ∧ 1052 + 2 = 1054 := ⟨by decide +kernel, rfl⟩
theorem d_X12_init_1054 : decode mX12_init.1 1054 = .ok (.castore, 1) ∧ 1054 + 1 = 1055 := ⟨by decide +kernel, rfl⟩
theorem d_X12_init_1055 : decode mX12_init.1 1055 = .ok (.dup, 1) ∧ 1055 + 1 = 1056 := ⟨by decide +kernel, rfl⟩
theorem d_X12_init_1056 : decode mX12_init.1 1056 = .ok (.iconst 1, 1) ∧ 1056 + 1 = 1057 := ⟨by decide +kernel, rfl⟩
theorem d_X12_init_1057 : decode mX12_init.1 1057 = .ok (.bipush 101, 2) ∧ 1057 + 2 = 1059 := ⟨by decide +kernel, rfl⟩
theorem d_X12_init_1059 : decode mX12_init.1 1059 = .ok (.castore, 1) ∧ 1059 + 1 = 1060 := ⟨by decide +kernel, rfl⟩
theorem d_X12_init_1060 : decode mX12_init.1 1060 = .ok (.dup, 1) ∧ 1060 + 1 = 1061 := ⟨by decide +kernel, rfl⟩
theorem d_X12_init_1061 : decode mX12_init.1 1061 = .ok (.iconst 2, 1) ∧ 1061 + 1 = 1062 := ⟨by decide +kernel, rfl⟩
theorem d_X12_init_1062 : decode mX12_init.1 1062 = .ok (.bipush 97, 2) ∧ 1062 + 2 = 1064 := ⟨by decide +kernel, rfl⟩
theorem d_X12_init_1064 : decode mX12_init.1 1064 = .ok (.castore, 1) ∧ 1064 + 1 = 1065 := ⟨by decide +kernel, rfl⟩
theorem d_X12_init_1065 : decode mX12_init.1 1065 = .ok (.dup, 1) ∧ 1065 + 1 = 1066 := ⟨by decide +kernel, rfl⟩
theorem d_X12_init_1066 : decode mX12_init.1 1066 = .ok (.iconst 3, 1) ∧ 1066 + 1 = 1067 := ⟨by decide +kernel, rfl⟩
theorem d_X12_init_1067 : decode mX12_init.1 1067 = .ok (.bipush 115, 2) ∧ 1067 + 2 = 1069 := ⟨by decide +kernel, rfl⟩
theorem d_X12_init_1069 : decode mX12_init.1 1069 = .ok (.castore, 1) ∧ 1069 + 1 = 1070 := ⟨by decide +kernel, rfl⟩
theorem d_X12_init_1070 : decode mX12_init.1 1070 = .ok (.dup, 1) ∧ 1070 + 1 = 1071 := ⟨by decide +kernel, rfl⟩
theorem d_X12_init_1071 : decode mX12_init.1 1071 = .ok (.iconst 4, 1) ∧ 1071 + 1 = 1072 := ⟨by decide +kernel, rfl⟩
theorem d_X12_init_1072 : decode mX12_init.1 1072 = .ok (.bipush 116, 2) ∧ 1072 + 2 = 1074 := ⟨by decide +kernel, rfl⟩
theorem d_X12_init_1074 : decode mX12_init.1 1074 = .ok (.castore, 1) ∧ 1074 + 1 = 1075 := ⟨by decide +kernel, rfl⟩
theorem d_X12_init_1075 : decode mX12_init.1 1075 = .ok (.putfield 189, 3) ∧ 1075 + 3 = 1078 := ⟨by decide +kernel, rfl⟩
theorem d_X12_init_1078 : decode mX12_init.1 1078 = .ok (.aload_n 0, 1) ∧ 1078 + 1 = 1079 := ⟨by decide +kernel, rfl⟩
theorem d_X12_init_1079 : decode mX12_init.1 1079 = .ok (.iconst 3, 1) ∧ 1079 + 1 = 1080 := ⟨by decide +kernel, rfl⟩
theorem d_X12_init_1080 : decode mX12_init.1 1080 = .ok (.newarray .char, 2) ∧ 1080 + 2 = 1082 := ⟨by decide +kernel, rfl⟩
theorem d_X12_init_1082 : decode mX12_init.1 1082 = .ok (.dup, 1) ∧ 1082 + 1 = 1083 := ⟨by decide +kernel, rfl⟩
theorem d_X12_init_1083 : decode mX12_init.1 1083 = .ok (.iconst 0, 1) ∧ 1083 + 1 = 1084 := ⟨by decide +kernel, rfl⟩
theorem d_X12_init_1084 : decode mX12_init.1 1084 = .ok (.bipush 110, 2) ∧ 1084 + 2 = 1086 := ⟨by decide +kernel, rfl⟩
theorem d_X12_init_1086 : decode mX12_init.1 1086 = .ok (.castore, 1) ∧ 1086 + 1 = 1087 := ⟨by decide +kernel, rfl⟩
theorem d_X12_init_1087 : decode mX12_init.1 1087 = .ok (.dup, 1) ∧ 1087 + 1 = 1088 := ⟨by decide +kernel, rfl⟩
theorem d_X12_init_1088 : decode mX12_init.1 1088 = .ok (.iconst 1, 1) ∧ 1088 + 1 = 1089 := ⟨by decide +kernel, rfl⟩
theorem d_X12_init_1089 : decode mX12_init.1 1089 = .ok (.bipush 111, 2) ∧ 1089 + 2 = 1091 := ⟨by decide +kernel, rfl⟩
theorem d_X12_init_1091 : decode mX12_init.1 1091 = .ok (.castore, 1) ∧ 1091 + 1 = 1092 := ⟨by decide +kernel, rfl⟩
theorem d_X12_init_1092 : decode mX12_init.1 1092 = .ok (.dup, 1) ∧ 1092 + 1 = 1093 := ⟨by decide +kernel, rfl⟩
theorem d_X12_init_1093 : decode mX12_init.1 1093 = .ok (.iconst 2, 1) ∧ 1093 + 1 = 1094 := ⟨by decide +kernel, rfl⟩
theorem d_X12_init_1094 : decode mX12_init.1 1094 = .ok (.bipush 116, 2) ∧ 1094 + 2 = 1096 := ⟨by decide +kernel, rfl⟩
theorem d_X12_init_1096 : decode mX12_init.1 1096 = .ok (.castore, 1) ∧ 1096 + 1 = 1097 := ⟨by decide +kernel, rfl⟩
theorem d_X12_init_1097 : decode mX12_init.1 1097 = .ok (.putfield 192, 3) ∧ 1097 + 3 = 1100 := ⟨by decide +kernel, rfl⟩
theorem d_X12_init_1100 : decode mX12_init.1 1100 = .ok (.aload_n 0, 1) ∧ 1100 + 1 = 1101 := ⟨by decide +kernel, rfl⟩
theorem d_X12_init_1101 : decode mX12_init.1 1101 = .ok (.iconst 3, 1) ∧ 1101 + 1 = 1102 := ⟨by decide +kernel, rfl⟩
theorem d_X12_init_1102 : decode mX12_init.1 1102 = .ok (.newarray .char, 2) ∧ 1102 + 2 = 1104 := ⟨by decide +kernel, rfl⟩
theorem d_X12_init_1104 : decode mX12_init.1 1104 = .ok (.dup, 1) ∧ 1104 + 1 = 1105 := ⟨by decide +kernel, rfl⟩
theorem d_X12_init_1105 : decode mX12_init.1 1105 = .ok (.iconst 0, 1) ∧ 1105 + 1 = 1106 := ⟨by decide +kernel, rfl⟩
theorem d_X12_init_1106 : decode mX12_init.1 1106 = .ok (.bipush 97, 2) ∧ 1106 + 2 = 1108 := ⟨by decide +kernel, rfl⟩
theorem d_X12_init_1108 : decode mX12_init.1 1108 = .ok (.castore, 1) ∧ 1108 + 1 = 1109 := ⟨by decide +kernel, rfl⟩
theorem d_X12_init_1109 : decode mX12_init.1 1109 = .ok (.dup, 1) ∧ 1109 + 1 = 1110 := ⟨by decide +kernel, rfl⟩
theorem d_X12_init_1110 : decode mX12_init.1 1110 = .ok (.iconst 1, 1) ∧ 1110 + 1 = 1111 := ⟨by decide +kernel, rfl⟩
theorem d_X12_init_1111 : decode mX12_init.1 1111 = .ok (.bipush 110, 2) ∧ 1111 + 2 = 1113 := ⟨by decide +kernel, rfl⟩
theorem d_X12_init_1113 : decode mX12_init.1 1113 = .ok (.castore, 1) ∧ 1113 + 1 = 1114 := ⟨by decide +kernel, rfl⟩
theorem d_X12_init_1114 : decode mX12_init.1 1114 = .ok (.dup, 1) ∧ 1114 + 1 = 1115 := ⟨by decide +kernel, rfl⟩
theorem d_X12_init_1115 : decode mX12_init.1 1115 = .ok (.iconst 2, 1) ∧ 1115 + 1 = 1116 := ⟨by decide +kernel, rfl⟩
theorem d_X12_init_1116 : decode mX12_init.1 1116 = .ok (.bipush 100, 2) ∧ 1116 + 2 = 1118 := ⟨by decide +kernel, rfl⟩
theorem d_X12_init_1118 : decode mX12_init.1 1118 = .ok (.castore, 1) ∧ 1118 + 1 = 1119 := ⟨by decide +kernel, rfl⟩
theorem d_X12_init_1119 : decode mX12_init.1 1119 = .ok (.putfield 195, 3) ∧ 1119 + 3 = 1122 := ⟨by decide +kernel, rfl⟩
theorem d_X12_init_1122 : decode mX12_init.1 1122 = .ok (.aload_n 0, 1) ∧ 1122 + 1 = 1123 := ⟨by decide +kernel, rfl⟩
theorem d_X12_init_1123 : decode mX12_init.1 1123 = .ok (.iconst 2, 1) ∧ 1123 + 1 = 1124 := ⟨by decide +kernel, rfl⟩
theorem d_X12_init_1124 : decode mX12_init.1 1124 = .ok (.newarray .char, 2) ∧ 1124 + 2 = 1126 := ⟨by decide +kernel, rfl⟩
theorem d_X12_init_1126 : decode mX12_init.1 1126 = .ok (.dup, 1) ∧ 1126 + 1 = 1127 := ⟨by decide +kernel, rfl⟩
theorem d_X12_init_1127 : decode mX12_init.1 1127 = .ok (.iconst 0, 1) ∧ 1127 + 1 = 1128 := ⟨by decide +kernel, rfl⟩
theorem d_X12_init_1128 : decode mX12_init.1 1128 = .ok (.bipush 111, 2) ∧ 1128 + 2 = 1130 := ⟨by decide +kernel, rfl⟩
theorem d_X12_init_1130 : decode mX12_init.1 1130 = .ok (.castore, 1) ∧ 1130 + 1 = 1131 := ⟨by decide +kernel, rfl⟩
theorem d_X12_init_1131 : decode mX12_init.1 1131 = .ok (.dup, 1) ∧ 1131 + 1 = 1132 := ⟨by decide +kernel, rfl⟩
theorem d_X12_init_1132 : decode mX12_init.1 1132 = .ok (.iconst 1, 1) ∧ 1132 + 1 = 1133 := ⟨by decide +kernel, rfl⟩
theorem d_X12_init_1133 : decode mX12_init.1 1133 = .ok (.bipush 114, 2) ∧ 1133 + 2 = 1135 := ⟨by decide +kernel, rfl⟩
theorem d_X12_init_1135 : decode mX12_init.1 1135 = .ok (.castore, 1) ∧ 1135 + 1 = 1136 := ⟨by decide +kernel, rfl⟩
theorem d_X12_init_1136 : decode mX12_init.1 1136 = .ok (.putfield 198, 3) ∧ 1136 + 3 = 1139 := ⟨by decide +kernel, rfl⟩
theorem d_X12_init_1139 : decode mX12_init.1 1139 = .ok (.aload_n 0, 1) ∧ 1139 + 1 = 1140 := ⟨by decide +kernel, rfl⟩
theorem d_X12_init_1140 : decode mX12_init.1 1140 = .ok (.iconst 3, 1) ∧ 1140 + 1 = 1141 := ⟨by decide +kernel, rfl⟩
theorem d_X12_init_1141 : decode mX12_init.1 1141 = .ok (.newarray .char, 2) ∧ 1141 + 2 = 1143 := ⟨by decide +kernel, rfl⟩
theorem d_X12_init_1143 : decode mX12_init.1 1143 = .ok (.dup, 1) ∧ 1143 + 1 = 1144 := ⟨by decide +kernel, rfl⟩
theorem d_X12_init_1144 : decode mX12_init.1 1144 = .ok (.iconst 0, 1) ∧ 1144 + 1 = 1145 := ⟨by decide +kernel, rfl⟩
theorem d_X12_init_1145 : decode mX12_init.1 1145 = .ok (.bipush 97, 2) ∧ 1145 + 2 = 1147 := ⟨by decide +kernel, rfl⟩
theorem d_X12_init_1147 : decode mX12_init.1 1147 = .ok (.castore, 1) ∧ 1147 + 1 = 1148 := ⟨by decide +kernel, rfl⟩
theorem d_X12_init_1148 : decode mX12_init.1 1148 = .ok (.dup, 1) ∧ 1148 + 1 = 1149 := ⟨by decide +kernel, rfl⟩
theorem d_X12_init_1149 : decode mX12_init.1 1149 = .ok (.iconst 1, 1) ∧ 1149 + 1 = 1150 := ⟨by decide +kernel, rfl⟩
theorem d_X12_init_1150 : decode mX12_init.1 1150 = .ok (.bipush 108, 2) ∧ 1150 + 2 = 1152 := ⟨by decide +kernel, rfl⟩
theorem d_X12_init_1152 : decode mX12_init.1 1152 = .ok (.castore, 1) ∧ 1152 + 1 = 1153 := ⟨by decide +kernel, rfl⟩
theorem d_X12_init_1153 : decode mX12_init.1 1153 = .ok (.dup, 1) ∧ 1153 + 1 = 1154 := ⟨by decide +kernel, rfl⟩
theorem d_X12_init_1154 : decode mX12_init.1 1154 = .ok (.iconst 2, 1) ∧ 1154 + 1 = 1155 := ⟨by decide +kernel, rfl⟩
theorem d_X12_init_1155 : decode mX12_init.1 1155 = .ok (.bipush 108, 2) ∧ 1155 + 2 = 1157 := ⟨by decide +kernel, rfl⟩
theorem d_X12_init_1157 : decode mX12_init.1 1157 = .ok (.castore, 1) ∧ 1157 + 1 = 1158 := ⟨by decide +kernel, rfl⟩
theorem d_X12_init_1158 : decode mX12_init.1 1158 = .ok (.putfield 201, 3) ∧ 1158 + 3 = 1161 := ⟨by decide +kernel, rfl⟩
theorem d_X12_init_1161 : decode mX12_init.1 1161 = .ok (.aload_n 0, 1) ∧ 1161 + 1 = 1162 := ⟨by decide +kernel, rfl⟩
theorem d_X12_init_1162 : decode mX12_init.1 1162 = .ok (.iconst 3, 1) ∧ 1162 + 1 = 1163 := ⟨by decide +kernel, rfl⟩
theorem d_X12_init_1163 : decode mX12_init.1 1163 = .ok (.newarray .char, 2) ∧ 1163 + 2 = 1165 := ⟨by decide +kernel, rfl⟩
theorem d_X12_init_1165 : decode mX12_init.1 1165 = .ok (.dup, 1) ∧ 1165 + 1 = 1166 := ⟨by decide +kernel, rfl⟩
theorem d_X12_init_1166 : decode mX12_init.1 1166 = .ok (.iconst 0, 1) ∧ 1166 + 1 = 1167 := ⟨by decide +kernel, rfl⟩
theorem d_X12_init_1167 : decode mX12_init.1 1167 = .ok (.bipush 109, 2) ∧ 1167 + 2 = 1169 := ⟨by decide +kernel, rfl⟩
theorem d_X12_init_1169 : decode mX12_init.1 1169 = .ok (.castore, 1) ∧ 1169 + 1 = 1170 := ⟨by decide +kernel, rfl⟩
theorem d_X12_init_1170 : decode mX12_init.1 1170 = .ok (.dup, 1) ∧ 1170 + 1 = 1171 := ⟨by decide +kernel, rfl⟩
theorem d_X12_init_1171 : decode mX12_init.1 1171 = .ok (.iconst 1, 1) ∧ 1171 + 1 = 1172 := ⟨by decide +kernel, rfl⟩
theorem d_X12_init_1172 : decode mX12_init.1 1172 = .ok (.bipush 105, 2) ∧ 1172 + 2 = 1174 := ⟨by decide +kernel, rfl⟩
theorem d_X12_init_1174 : decode mX12_init.1 1174 = .ok (.castore, 1) ∧ 1174 + 1 = 1175 := ⟨by decide +kernel, rfl⟩
theorem d_X12_init_1175 : decode mX12_init.1 1175 = .ok (.dup, 1) ∧ 1175 + 1 = 1176 := ⟨by decide +kernel, rfl⟩
theorem d_X12_init_1176 : decode mX12_init.1 1176 = .ok (.iconst 2, 1) ∧ 1176 + 1 = 1177 := ⟨by decide +kernel, rfl⟩
theorem d_X12_init_1177 : decode mX12_init.1 1177 = .ok (.bipush 110, 2) ∧ 1177 + 2 = 1179 := ⟨by decide +kernel, rfl⟩
theorem d_X12_init_1179 : decode mX12_init.1 1179 = .ok (.castore, 1) ∧ 1179 + 1 = 1180 := ⟨by decide +kernel, rfl⟩
theorem d_X12_init_1180 : decode mX12_init.1 1180 = .ok (.putfield 204, 3) ∧ 1180 + 3 = 1183 := ⟨by decide +kernel, rfl⟩
theorem d_X12_init_1183 : decode mX12_init.1 1183 = .ok (.aload_n 0, 1) ∧ 1183 + 1 = 1184 := ⟨by decide +kernel, rfl⟩
theorem d_X12_init_1184 : decode mX12_init.1 1184 = .ok (.iconst 3, 1) ∧ 1184 + 1 = 1185 := ⟨by decide +kernel, rfl⟩
theorem d_X12_init_1185 : decode mX12_init.1 1185 = .ok (.newarray .char, 2) ∧ 1185 + 2 = 1187 := ⟨by decide +kernel, rfl⟩
theorem d_X12_init_1187 : decode mX12_init.1 1187 = .ok (.dup, 1) ∧ 1187 + 1 = 1188 := ⟨by decide +kernel, rfl⟩
theorem d_X12_init_1188 : decode mX12_init.1 1188 = .ok (.iconst 0, 1) ∧ 1188 + 1 = 1189 := ⟨by decide +kernel, rfl⟩
theorem d_X12_init_1189 : decode mX12_init.1 1189 = .ok (.bipush 109, 2) ∧ 1189 + 2 = 1191 := ⟨by decide +kernel, rfl⟩
theorem d_X12_init_1191 : decode mX12_init.1 1191 = .ok (.castore, 1) ∧ 1191 + 1 = 1192 := ⟨by decide +kernel, rfl⟩
theorem d_X12_init_1192 : decode mX12_init.1 1192 = .ok (.dup, 1) ∧ 1192 + 1 = 1193 := ⟨by decide +kernel, rfl⟩
theorem d_X12_init_1193 : decode mX12_init.1 1193 = .ok (.iconst 1, 1) ∧ 1193 + 1 = 1194 := ⟨by decide +kernel, rfl⟩
theorem d_X12_init_1194 : decode mX12_init.1 1194 = .ok (.bipush 97, 2) ∧ 1194 + 2 = 1196 := ⟨by decide +kernel, rfl⟩
theorem d_X12_init_1196 : decode mX12_init.1 1196 = .ok (.castore, 1) ∧ 1196 + 1 = 1197 := ⟨by decide +kernel, rfl⟩
theorem d_X12_init_1197 : decode mX12_init.1 1197 = .ok (.dup, 1) ∧ 1197 + 1 = 1198 := ⟨by decide +kernel, rfl⟩
theorem d_X12_init_1198 : decode mX12_init.1 1198 = .ok (.iconst 2, 1) ∧ 1198 + 1 = 1199 := ⟨by decide +kernel, rfl⟩
theorem d_X12_init_1199 : decode mX12_init.1 1199 = .ok (.bipush 120, 2) ∧ 1199 + 2 = 1201 := ⟨by decide +kernel, rfl⟩
theorem d_X12_init_1201 : decode mX12_init.1 1201 = .ok (.castore, 1) ∧ 1201 + 1 = 1202 := ⟨by decide +kernel, rfl⟩
theorem d_X12_init_1202 : decode mX12_init.1 1202 = .ok (.putfield 207, 3) ∧ 1202 + 3 = 1205 := ⟨by decide +kernel, rfl⟩
theorem d_X12_init_1205 : decode mX12_init.1 1205 = .ok (.aload_n 0, 1) ∧ 1205 + 1 = 1206 := ⟨by decide +kernel, rfl⟩
theorem d_X12_init_1206 : decode mX12_init.1 1206 = .ok (.iconst 4, 1) ∧ 1206 + 1 = 1207 := ⟨by decide +kernel, rfl⟩
theorem d_X12_init_1207 : decode mX12_init.1 1207 = .ok (.newarray .char, 2) ∧ 1207 + 2 = 1209 := ⟨by decide +kernel, rfl⟩
theorem d_X12_init_1209 : decode mX12_init.1 1209 = .ok (.dup, 1) ∧ 1209 + 1 = 1210 := ⟨by decide +kernel, rfl⟩
theorem d_X12_init_1210 : decode mX12_init.1 1210 = .ok (.iconst 0, 1) ∧ 1210 + 1 = 1211 := ⟨by decide +kernel, rfl⟩
theorem d_X12_init_1211 : decode mX12_init.1 1211 = .ok (.bipush 103, 2) ∧ 1211 + 2 = 1213 := ⟨by decide +kernel, rfl⟩
theorem d_X12_init_1213 : decode mX12_init.1 1213 = .ok (.castore, 1) ∧ 1213 + 1 = 1214 := ⟨by decide +kernel, rfl⟩
theorem d_X12_init_1214 : decode mX12_init.1 1214 = .ok (.dup, 1) ∧ 1214 + 1 = 1215 := ⟨by decide +kernel, rfl⟩
theorem d_X12_init_1215 : decode mX12_init.1 1215 = .ok (.iconst 1, 1) ∧ 1215 + 1 = 1216 := ⟨by decide +kernel, rfl⟩
theorem d_X12_init_1216 : decode mX12_init.1 1216 = .ok (.bipush 101, 2) ∧ 1216 + 2 = 1218 := ⟨by decide +kernel, rfl⟩
theorem d_X12_init_1218 : decode mX12_init.1 1218 = .ok (.castore, 1) ∧ 1218 + 1 = 1219 := ⟨by decide +kernel, rfl⟩
theorem d_X12_init_1219 : decode mX12_init.1 1219 = .ok (.dup, 1) ∧ 1219 + 1 = 1220 := ⟨by decide +kernel, rfl⟩
theorem d_X12_init_1220 : decode mX12_init.1 1220 = .ok (.iconst 2, 1) ∧ 1220 + 1 = 1221 := ⟨by decide +kernel, rfl⟩
theorem d_X12_init_1221 : decode mX12_init.1 1221 = .ok (.bipush 116, 2) ∧ 1221 + 2 = 1223 := ⟨by decide +kernel, rfl⟩
theorem d_X12_init_1223 : decode mX12_init.1 1223 = .ok (.castore, 1) ∧ 1223 + 1 = 1224 := ⟨by decide +kernel, rfl⟩
theorem d_X12_init_1224 : decode mX12_init.1 1224 = .ok (.dup, 1) ∧ 1224 + 1 = 1225 := ⟨by decide +kernel, rfl⟩
theorem d_X12_init_1225 : decode mX12_init.1 1225 = .ok (.iconst 3, 1) ∧ 1225 + 1 = 1226 := ⟨by decide +kernel, rfl⟩
theorem d_X12_init_1226 : decode mX12_init.1 1226 = .ok (.bipush 115, 2) ∧ 1226 + 2 = 1228 := ⟨by decide +kernel, rfl⟩
theorem d_X12_init_1228 : decode mX12_init.1 1228 = .ok (.castore, 1) ∧ 1228 + 1 = 1229 := ⟨by decide +kernel, rfl⟩
theorem d_X12_init_1229 : decode mX12_init.1 1229 = .ok (.putfield 210, 3) ∧ 1229 + 3 = 1232 := ⟨by decide +kernel, rfl⟩
theorem d_X12_init_1232 : decode mX12_init.1 1232 = .ok (.aload_n 0, 1) ∧ 1232 + 1 = 1233 := ⟨by decide +kernel, rfl⟩
theorem d_X12_init_1233 : decode mX12_init.1 1233 = .ok (.iconst 5, 1) ∧ 1233 + 1 = 1234 := ⟨by decide +kernel, rfl⟩
theorem d_X12_init_1234 : decode mX12_init.1 1234 = .ok (.newarray .char, 2) ∧ 1234 + 2 = 1236 := ⟨by decide +kernel, rfl⟩
theorem d_X12_init_1236 : decode mX12_init.1 1236 = .ok (.dup, 1) ∧ 1236 + 1 = 1237 := ⟨by decide +kernel, rfl⟩
theorem d_X12_init_1237 : decode mX12_init.1 1237 = .ok (.iconst 0, 1) ∧ 1237 + 1 = 1238 := ⟨by decide +kernel, rfl⟩
theorem d_X12_init_1238 : decode mX12_init.1 1238 = .ok (.bipush 103, 2) ∧ 1238 + 2 = 1240 := ⟨by decide +kernel, rfl⟩
theorem d_X12_init_1240 : decode mX12_init.1 1240 = .ok (.castore, 1) ∧ 1240 + 1 = 1241 := ⟨by decide +kernel, rfl⟩
theorem d_X12_init_1241 : decode mX12_init.1 1241 = .ok (.dup, 1) ∧ 1241 + 1 = 1242 := ⟨by decide +kernel, rfl⟩
theorem d_X12_init_1242 : decode mX12_init.1 1242 = .ok (.iconst 1, 1) ∧ 1242 + 1 = 1243 := ⟨by decide +kernel, rfl⟩
theorem d_X12_init_1243 : decode mX12_init.1 1243 = .ok (.bipush 105, 2) ∧ 1243 + 2 = 1245 := ⟨by decide +kernel, rfl⟩
theorem d_X12_init_1245 : decode mX12_init.1 1245 = .ok (.castore, 1) ∧ 1245 + 1 = 1246 := ⟨by decide +kernel, rfl⟩
theorem d_X12_init_1246 : decode mX12_init.1 1246 = .ok (.dup, 1) ∧ 1246 + 1 = 1247 := ⟨by decide +kernel, rfl⟩
theorem d_X12_init_1247 : decode mX12_init.1 1247 = .ok (.iconst 2, 1) ∧ 1247 + 1 = 1248 := ⟨by decide +kernel, rfl⟩
theorem d_X12_init_1248 : decode mX12_init.1 1248 = .ok (.bipush 118, 2) ∧ 1248 + 2 = 1250 := ⟨by decide +kernel, rfl⟩
theorem d_X12_init_1250 : decode mX12_init.1 1250 = .ok (.castore, 1) ∧ 1250 + 1 = 1251 := ⟨by decide +kernel, rfl⟩
theorem d_X12_init_1251 : decode mX12_init.1 1251 = .ok (.dup, 1) ∧ 1251 + 1 = 1252 := ⟨by decide +kernel, rfl⟩
theorem d_X12_init_1252 : decode mX12_init.1 1252 = .ok (.iconst 3, 1) ∧ 1252 + 1 = 1253 := ⟨by decide +kernel, rfl⟩
theorem d_X12_init_1253 : decode mX12_init.1 1253 = .ok (.bipush 101, 2) ∧ 1253 + 2 = 1255 := ⟨by decide +kernel, rfl⟩
theorem d_X12_init_1255 : decode mX12_init.1 1255 = .ok (.castore, 1) ∧ 1255 + 1 = 1256 := ⟨by decide +kernel, rfl⟩
theorem d_X12_init_1256 : decode mX12_init.1 1256 = .ok (.dup, 1) ∧ 1256 + 1 = 1257 := ⟨by decide +kernel, rfl⟩
theorem d_X12_init_1257 : decode mX12_init.1 1257 = .ok (.iconst 4, 1) ∧ 1257 + 1 = 1258 := ⟨by decide +kernel, rfl⟩
theorem d_X12_init_1258 : decode mX12_init.1 1258 = .ok (.bipush 115, 2) ∧ 1258 + 2 = 1260 := ⟨by decide +kernel, rfl⟩
theorem d_X12_init_1260 : decode mX12_init.1 1260 = .ok (.castore, 1) ∧ 1260 + 1 = 1261 := ⟨by decide +kernel, rfl⟩
theorem d_X12_init_1261 : decode mX12_init.1 1261 = .ok (.putfield 213, 3) ∧ 1261 + 3 = 1264 := ⟨by decide +kernel, rfl⟩
theorem d_X12_init_1264 : decode mX12_init.1 1264 = .ok (.aload_n 0, 1) ∧ 1264 + 1 = 1265 := ⟨by decide +kernel, rfl⟩
theorem d_X12_init_1265 : decode mX12_init.1 1265 = .ok (.iconst 5, 1) ∧ 1265 + 1 = 1266 := ⟨by decide +kernel, rfl⟩
theorem d_X12_init_1266 : decode mX12_init.1 1266 = .ok (.newarray .char, 2) ∧ 1266 + 2 = 1268 := ⟨by decide +kernel, rfl⟩
theorem d_X12_init_1268 : decode mX12_init.1 1268 = .ok (.dup, 1) ∧ 1268 + 1 = 1269 := ⟨by decide +kernel, rfl⟩
theorem d_X12_init_1269 : decode mX12_init.1 1269 = .ok (.iconst 0, 1) ∧ 1269 + 1 = 1270 := ⟨by decide +kernel, rfl⟩
theorem d_X12_init_1270 : decode mX12_init.1 1270 = .ok (.bipush 119, 2) ∧ 1270 + 2 = 1272 := ⟨by decide +kernel, rfl⟩
theorem d_X12_init_1272 : decode mX12_init.1 1272 = .ok (.castore, 1) ∧ 1272 + 1 = 1273 := ⟨by decide +kernel, rfl⟩
theorem d_X12_init_1273 : decode mX12_init.1 1273 = .ok (.dup, 1) ∧ 1273 + 1 = 1274 := ⟨by decide +kernel, rfl⟩
theorem d_X12_init_1274 : decode mX12_init.1 1274 = .ok (.iconst 1, 1) ∧ 1274 + 1 = 1275 := ⟨by decide +kernel, rfl⟩
theorem d_X12_init_1275 : decode mX12_init.1 1275 = .ok (.bipush 97, 2) ∧ 1275 + 2 = 1277 := ⟨by decide +kernel, rfl⟩
theorem d_X12_init_1277 : decode mX12_init.1 1277 = .ok (.castore, 1) ∧ 1277 + 1 = 1278 := ⟨by decide +kernel, rfl⟩
theorem d_X12_init_1278 : decode mX12_init.1 1278 = .ok (.dup, 1) ∧ 1278 + 1 = 1279 := ⟨by decide +kernel, rfl⟩
theorem d_X12_init_1279 : decode mX12_init.1 1279 = .ok (.iconst 2, 1) ∧ 1279 + 1 = 1280 := ⟨by decide +kernel, rfl⟩
theorem d_X12_init_1280 : decode mX12_init.1 1280 = .ok (.bipush 110, 2) ∧ 1280 + 2 = 1282 := ⟨by decide +kernel, rfl⟩
theorem d_X12_init_1282 : decode mX12_init.1 1282 = .ok (.castore, 1) ∧ 1282 + 1 = 1283 := ⟨by decide +kernel, rfl⟩
theorem d_X12_init_1283 : decode mX12_init.1 1283 = .ok (.dup, 1) ∧ 1283 + 1 = 1284 := ⟨by decide +kernel, rfl⟩
theorem d_X12_init_1284 : decode mX12_init.1 1284 = .ok (.iconst 3, 1) ∧ 1284 + 1 = 1285 := ⟨by decide +kernel, rfl⟩
theorem d_X12_init_1285 : decode mX12_init.1 1285 = .ok (.bipush 116, 2) ∧ 1285 + 2 = 1287 := ⟨by decide +kernel, rfl⟩
theorem d_X12_init_1287 : decode mX12_init.1 1287 = .ok (.castore, 1) ∧ 1287 + 1 = 1288 := ⟨by decide +kernel, rfl⟩
theorem d_X12_init_1288 : decode mX12_init.1 1288 = .ok (.dup, 1) ∧ 1288 + 1 = 1289 := ⟨by decide +kernel, rfl⟩
theorem d_X12_init_1289 : decode mX12_init.1 1289 = .ok (.iconst 4, 1) ∧ 1289 + 1 = 1290 := ⟨by decide +kernel, rfl⟩
theorem d_X12_init_1290 : decode mX12_init.1 1290 = .ok (.bipush 115, 2) ∧ 1290 + 2 = 1292 := ⟨by decide +kernel, rfl⟩
theorem d_X12_init_1292 : decode mX12_init.1 1292 = .ok (.castore, 1) ∧ 1292 + 1 = 1293 := ⟨by decide +kernel, rfl⟩
theorem d_X12_init_1293 : decode mX12_init.1 1293 = .ok (.putfield 216, 3) ∧ 1293 + 3 = 1296 := ⟨by decide +kernel, rfl⟩
theorem d_X12_init_1296 : decode mX12_init.1 1296 = .ok (.aload_n 0, 1) ∧ 1296 + 1 = 1297 := ⟨by decide +kernel, rfl⟩
theorem d_X12_init_1297 : decode mX12_init.1 1297 = .ok (.iconst 4, 1) ∧ 1297 + 1 = 1298 := ⟨by decide +kernel, rfl⟩
theorem d_X12_init_1298 : decode mX12_init.1 1298 = .ok (.newarray .char, 2) ∧ 1298 + 2 = 1300 := ⟨by decide +kernel, rfl⟩
theorem d_X12_init_1300 : decode mX12_init.1 1300 = .ok (.dup, 1) ∧ 1300 + 1 = 1301 := ⟨by decide +kernel, rfl⟩
theorem d_X12_init_1301 : decode mX12_init.1 1301 = .ok (.iconst 0, 1) ∧ 1301 + 1 = 1302 := ⟨by decide +kernel, rfl⟩
theorem d_X12_init_1302 : decode mX12_init.1 1302 = .ok (.bipush 115, 2) ∧ 1302 + 2 = 1304 := ⟨by decide +kernel, rfl⟩
theorem d_X12_init_1304 : decode mX12_init.1 1304 = .ok (.castore, 1) ∧ 1304 + 1 = 1305 := ⟨by decide +kernel, rfl⟩
theorem d_X12_init_1305 : decode mX12_init.1 1305 = .ok (.dup, 1) ∧ 1305 + 1 = 1306 := ⟨by decide +kernel, rfl⟩
theorem d_X12_init_1306 : decode mX12_init.1 1306 = .ok (.iconst 1, 1) ∧ 1306 + 1 = 1307 := ⟨by decide +kernel, rfl⟩
theorem d_X12_init_1307 : decode mX12_init.1 1307 = .ok (.bipush 97, 2) ∧ 1307 + 2 = 1309 := ⟨by decide +kernel, rfl⟩
theorem d_X12_init_1309 : decode mX12_init.1 1309 = .ok (.castore, 1) ∧ 1309 + 1 = 1310 := ⟨by decide +kernel, rfl⟩
theorem d_X12_init_1310 : decode mX12_init.1 1310 = .ok (.dup, 1) ∧ 1310 + 1 = 1311 := ⟨by decide +kernel, rfl⟩
theorem d_X12_init_1311 : decode mX12_init.1 1311 = .ok (.iconst 2, 1) ∧ 1311 + 1 = 1312 := ⟨by decide +kernel, rfl⟩
theorem d_X12_init_1312 : decode mX12_init.1 1312 = .ok (.bipush 108, 2) ∧ 1312 + 2 = 1314 := ⟨by decide +kernel, rfl⟩
theorem d_X12_init_1314 : decode mX12_init.1 1314 = .ok (.castore, 1) ∧ 1314 + 1 = 1315 := ⟨by decide +kernel, rfl⟩
theorem d_X12_init_1315 : decode mX12_init.1 1315 = .ok (.dup, 1) ∧ 1315 + 1 = 1316 := ⟨by decide +kernel, rfl⟩
theorem d_X12_init_1316 : decode mX12_init.1 1316 = .ok (.iconst 3, 1) ∧ 1316 + 1 = 1317 := ⟨by decide +kernel, rfl⟩
theorem d_X12_init_1317 : decode mX12_init.1 1317 = .ok (.bipush 116, 2) ∧ 1317 + 2 = 1319 := ⟨by decide +kernel, rfl⟩
theorem d_X12_init_1319 : decode mX12_init.1 1319 = .ok (.castore, 1) ∧ 1319 + 1 = 1320 := ⟨by decide +kernel, rfl⟩
theorem d_X12_init_1320 : decode mX12_init.1 1320 = .ok (.putfield 219, 3) ∧ 1320 + 3 = 1323 := ⟨by decide +kernel, rfl⟩
theorem d_X12_init_1323 : decode mX12_init.1 1323 = .ok (.aload_n 0, 1) ∧ 1323 + 1 = 1324 := ⟨by decide +kernel, rfl⟩
theorem d_X12_init_1324 : decode mX12_init.1 1324 = .ok (.iconst 3, 1) ∧ 1324 + 1 = 1325 := ⟨by decide +kernel, rfl⟩
theorem d_X12_init_1325 : decode mX12_init.1 1325 = .ok (.newarray .char, 2) ∧ 1325 + 2 = 1327 := ⟨by decide +kernel, rfl⟩
theorem d_X12_init_1327 : decode mX12_init.1 1327 = .ok (.dup, 1) ∧ 1327 + 1 = 1328 := ⟨by decide +kernel, rfl⟩
theorem d_X12_init_1328 : decode mX12_init.1 1328 = .ok (.iconst 0, 1) ∧ 1328 + 1 = 1329 := ⟨by decide +kernel, rfl⟩
theorem d_X12_init_1329 : decode mX12_init.1 1329 = .ok (.bipush 109, 2) ∧ 1329 + 2 = 1331 := ⟨by decide +kernel, rfl⟩
theorem d_X12_init_1331 : decode mX12_init.1 1331 = .ok (.castore, 1) ∧ 1331 + 1 = 1332 := ⟨by decide +kernel, rfl⟩
theorem d_X12_init_1332 : decode mX12_init.1 1332 = .ok (.dup, 1) ∧ 1332 + 1 = 1333 := ⟨by decide +kernel, rfl⟩
theorem d_X12_init_1333 : decode mX12_init.1 1333 = .ok (.iconst 1, 1) ∧ 1333 + 1 = 1334 := ⟨by decide +kernel, rfl⟩
theorem d_X12_init_1334 : decode mX12_init.1 1334 = .ok (.bipush 101, 2) ∧ 1334 + 2 = 1336 := ⟨by decide +kernel, rfl⟩
theorem d_X12_init_1336 : decode mX12_init.1 1336 = .ok (.castore, 1) ∧ 1336 + 1 = 1337 := ⟨by decide +kernel, rfl⟩
theorem d_X12_init_1337 : decode mX12_init.1 1337 = .ok (.dup, 1) ∧ 1337 + 1 = 1338 := ⟨by decide +kernel, rfl⟩
theorem d_X12_init_1338 : decode mX12_init.1 1338 = .ok (.iconst 2, 1) ∧ 1338 + 1 = 1339 := ⟨by decide +kernel, rfl⟩
theorem d_X12_init_1339 : decode mX12_init.1 1339 = .ok (.bipush 116, 2) ∧ 1339 + 2 = 1341 := ⟨by decide +kernel, rfl⟩
theorem d_X12_init_1341 : decode mX12_init.1 1341 = .ok (.castore, 1) ∧ 1341 + 1 = 1342 := ⟨by decide +kernel, rfl⟩
theorem d_X12_init_1342 : decode mX12_init.1 1342 = .ok (.putfield 222, 3) ∧ 1342 + 3 = 1345 := ⟨by decide +kernel, rfl⟩
theorem d_X12_init_1345 : decode mX12_init.1 1345 = .ok (.aload_n 0, 1) ∧ 1345 + 1 = 1346 := ⟨by decide +kernel, rfl⟩
theorem d_X12_init_1346 : decode mX12_init.1 1346 = .ok (.iconst 5, 1) ∧ 1346 + 1 = 1347 := ⟨by decide +kernel, rfl⟩
theorem d_X12_init_1347 : decode mX12_init.1 1347 = .ok (.newarray .char, 2) ∧ 1347 + 2 = 1349 := ⟨by decide +kernel, rfl⟩
theorem d_X12_init_1349 : decode mX12_init.1 1349 = .ok (.dup, 1) ∧ 1349 + 1 = 1350 := ⟨by decide +kernel, rfl⟩
theorem d_X12_init_1350 : decode mX12_init.1 1350 = .ok (.iconst 0, 1) ∧ 1350 + 1 = 1351 := ⟨by decide +kernel, rfl⟩
theorem d_X12_init_1351 : decode mX12_init.1 1351 = .ok (.bipush 112, 2) ∧ 1351 + 2 = 1353 := ⟨by decide +kernel, rfl⟩
theorem d_X12_init_1353 : decode mX12_init.1 1353 = .ok (.castore, 1) ∧ 1353 + 1 = 1354 := ⟨by decide +kernel, rfl⟩
theorem d_X12_init_1354 : decode mX12_init.1 1354 = .ok (.dup, 1) ∧ 1354 + 1 = 1355 := ⟨by decide +kernel, rfl⟩
theorem d_X12_init_1355 : decode mX12_init.1 1355 = .ok (.iconst 1, 1) ∧ 1355 + 1 = 1356 := ⟨by decide +kernel, rfl⟩
theorem d_X12_init_1356 : decode mX12_init.1 1356 = .ok (.bipush 117, 2) ∧ 1356 + 2 = 1358 := ⟨by decide +kernel, rfl⟩
theorem d_X12_init_1358 : decode mX12_init.1 1358 = .ok (.castore, 1) ∧ 1358 + 1 = 1359 := ⟨by decide +kernel, rfl⟩
theorem d_X12_init_1359 : decode mX12_init.1 1359 = .ok (.dup, 1) ∧ 1359 + 1 = 1360 := ⟨by decide +kernel, rfl⟩
theorem d_X12_init_1360 : decode mX12_init.1 1360 = .ok (.iconst 2, 1) ∧ 1360 + 1 = 1361 := ⟨by decide +kernel, rfl⟩
theorem d_X12_init_1361 : decode mX12_init.1 1361 = .ok (.bipush 114, 2) ∧ 1361 + 2 = 1363 := ⟨by decide +kernel, rfl⟩
theorem d_X12_init_1363 : decode mX12_init.1 1363 = .ok (.castore, 1) ∧ 1363 + 1 = 1364 := ⟨by decide +kernel, rfl⟩
theorem d_X12_init_1364 : decode mX12_init.1 1364 = .ok (.dup, 1) ∧ 1364 + 1 = 1365 := ⟨by decide +kernel, rfl⟩
theorem d_X12_init_1365 : decode mX12_init.1 1365 = .ok (.iconst 3, 1) ∧ 1365 + 1 = 1366 := ⟨by decide +kernel, rfl⟩
theorem d_X12_init_1366 : decode mX12_init.1 1366 = .ok (.bipush 115, 2) ∧ 1366 + 2 = 1368 := ⟨by decide +kernel, rfl⟩
theorem d_X12_init_1368 : decode mX12_init.1 1368 = .ok (.castore, 1) ∧ 1368 + 1 = 1369 := ⟨by decide +kernel, rfl⟩
theorem d_X12_init_1369 : decode mX12_init.1 1369 = .ok (.dup, 1) ∧ 1369 + 1 = 1370 := ⟨by decide +kernel, rfl⟩
theorem d_X12_init_1370 : decode mX12_init.1 1370 = .ok (.iconst 4, 1) ∧ 1370 + 1 = 1371 := ⟨by decide +kernel, rfl⟩
theorem d_X12_init_1371 : decode mX12_init.1 1371 = .ok (.bipush 101, 2) ∧ 1371 + 2 = 1373 := ⟨by decide +kernel, rfl⟩
theorem d_X12_init_1373 : decode mX12_init.1 1373 = .ok (.castore, 1) ∧ 1373 + 1 = 1374 := ⟨by decide +kernel, rfl⟩
theorem d_X12_init_1374 : decode mX12_init.1 1374 = .ok (.putfield 225, 3) ∧ 1374 + 3 = 1377 := ⟨by decide +kernel, rfl⟩
theorem d_X12_init_1377 : decode mX12_init.1 1377 = .ok (.aload_n 0, 1) ∧ 1377 + 1 = 1378 := ⟨by decide +kernel, rfl⟩
theorem d_X12_init_1378 : decode mX12_init.1 1378 = .ok (.iconst 5, 1) ∧ 1378 + 1 = 1379 := ⟨by decide +kernel, rfl⟩
theorem d_X12_init_1379 : decode mX12_init.1 1379 = .ok (.newarray .char, 2) ∧ 1379 + 2 = 1381 := ⟨by decide +kernel, rfl⟩
theorem d_X12_init_1381 : decode mX12_init.1 1381 = .ok (.dup, 1) ∧ 1381 + 1 = 1382 := ⟨by decide +kernel, rfl⟩
theorem d_X12_init_1382 : decode mX12_init.1 1382 = .ok (.iconst 0, 1) ∧ 1382 + 1 = 1383 := ⟨by decide +kernel, rfl⟩
theorem d_X12_init_1383 : decode mX12_init.1 1383 = .ok (.bipush 110, 2) ∧ 1383 + 2 = 1385 := ⟨by decide +kernel, rfl⟩
theorem d_X12_init_1385 : decode mX12_init.1 1385 = .ok (.castore, 1) ∧ 1385 + 1 = 1386 := ⟨by decide +kernel, rfl⟩
theorem d_X12_init_1386 : decode mX12_init.1 1386 = .ok (.dup, 1) ∧ 1386 + 1 = 1387 := ⟨by decide +kernel, rfl⟩
theorem d_X12_init_1387 : decode mX12_init.1 1387 = .ok (.iconst 1, 1) ∧ 1387 + 1 = 1388 := ⟨by decide +kernel, rfl⟩
theorem d_X12_init_1388 : decode mX12_init.1 1388 = .ok (.bipush 105, 2) ∧ 1388 + 2 = 1390 := ⟨by decide +kernel, rfl⟩
theorem d_X12_init_1390 : decode mX12_init.1 1390 = .ok (.castore, 1) ∧ 1390 + 1 = 1391 := ⟨by decide +kernel, rfl⟩
theorem d_X12_init_1391 : decode mX12_init.1 1391 = .ok (.dup, 1) ∧ 1391 + 1 = 1392 := ⟨by decide +kernel, rfl⟩
theorem d_X12_init_1392 : decode mX12_init.1 1392 = .ok (.iconst 2, 1) ∧ 1392 + 1 = 1393 := ⟨by decide +kernel, rfl⟩
theorem d_X12_init_1393 : decode mX12_init.1 1393 = .ok (.bipush 103, 2) ∧ 1393 + 2 = 1395 := ⟨by decide +kernel, rfl⟩
theorem d_X12_init_1395 : decode mX12_init.1 1395 = .ok (.castore, 1) ∧ 1395 + 1 = 1396 := ⟨by decide +kernel, rfl⟩
theorem d_X12_init_1396 : decode mX12_init.1 1396 = .ok (.dup, 1) ∧ 1396 + 1 = 1397 := ⟨by decide +kernel, rfl⟩
theorem d_X12_init_1397 : decode mX12_init.1 1397 = .ok (.iconst 3, 1) ∧ 1397 + 1 = 1398 := ⟨by decide +kernel, rfl⟩
theorem d_X12_init_1398 : decode mX12_init.1 1398 = .ok (.bipush 104, 2) ∧ 1398 + 2 = 1400 := ⟨by decide +kernel, rfl⟩
theorem d_X12_init_1400 : decode mX12_init.1 1400 = .ok (.castore, 1) ∧ 1400 + 1 = 1401 := ⟨by decide +kernel, rfl⟩
theorem d_X12_init_1401 : decode mX12_init.1 1401 = .ok (.dup, 1) ∧ 1401 + 1 = 1402 := ⟨by decide +kernel, rfl⟩
theorem d_X12_init_1402 : decode mX12_init.1 1402 = .ok (.iconst 4, 1) ∧ 1402 + 1 = 1403 := ⟨by decide +kernel, rfl⟩
theorem d_X12_init_1403 : decode mX12_init.1 1403 = .ok (.bipush 116, 2) ∧ 1403 + 2 = 1405 := ⟨by decide +kernel, rfl⟩
theorem d_X12_init_1405 : decode mX12_init.1 1405 = .ok (.castore, 1) ∧ 1405 + 1 = 1406 := ⟨by decide +kernel, rfl⟩
theorem d_X12_init_1406 : decode mX12_init.1 1406 = .ok (.putfield 228, 3) ∧ 1406 + 3 = 1409 := ⟨by decide +kernel, rfl⟩
theorem d_X12_init_1409 : decode mX12_init.1 1409 = .ok (.aload_n 0, 1) ∧ 1409 + 1 = 1410 := ⟨by decide +kernel, rfl⟩
theorem d_X12_init_1410 : decode mX12_init.1 1410 = .ok (.bipush 6, 2) ∧ 1410 + 2 = 1412 := ⟨by decide +kernel, rfl⟩
theorem d_X12_init_1412 : decode mX12_init.1 1412 = .ok (.newarray .char, 2) ∧ 1412 + 2 = 1414 := ⟨by decide +kernel, rfl⟩
theorem d_X12_init_1414 : decode mX12_init.1 1414 = .ok (.dup, 1) ∧ 1414 + 1 = 1415 := ⟨by decide +kernel, rfl⟩
theorem d_X12_init_1415 : decode mX12_init.1 1415 = .ok (.iconst 0, 1) ∧ 1415 + 1 = 1416 := ⟨by decide +kernel, rfl⟩
theorem d_X12_init_1416 : decode mX12_init.1 1416 = .ok (.bipush 110, 2) ∧ 1416 + 2 = 1418 := ⟨by decide +kernel, rfl⟩
theorem d_X12_init_1418 : decode mX12_init.1 1418 = .ok (.castore, 1) ∧ 1418 + 1 = 1419 := ⟨by decide +kernel, rfl⟩
theorem d_X12_init_1419 : decode mX12_init.1 1419 = .ok (.dup, 1) ∧ 1419 + 1 = 1420 := ⟨by decide +kernel, rfl⟩
theorem d_X12_init_1420 : decode mX12_init.1 1420 = .ok (.iconst 1, 1) ∧ 1420 + 1 = 1421 := ⟨by decide +kernel, rfl⟩
theorem d_X12_init_1421 : decode mX12_init.1 1421 = .ok (.bipush 117, 2) ∧ 1421 + 2 = 1423 := ⟨by decide +kernel, rfl⟩
theorem d_X12_init_1423 : decode mX12_init.1 1423 = .ok (.castore, 1) ∧ 1423 + 1 = 1424 := ⟨by decide +kernel, rfl⟩
theorem d_X12_init_1424 : decode mX12_init.1 1424 = .ok (.dup, 1) ∧ 1424 + 1 = 1425 := ⟨by decide +kernel, rfl⟩
theorem d_X12_init_1425 : decode mX12_init.1 1425 = .ok (.iconst 2, 1) ∧ 1425 + 1 = 1426 := ⟨by decide +kernel, rfl⟩
theorem d_X12_init_1426 : decode mX12_init.1 1426 = .ok (.bipush 109, 2) ∧ 1426 + 2 = 1428 := ⟨by decide +kernel, rfl⟩
theorem d_X12_init_1428 : decode mX12_init.1 1428 = .ok (.castore, 1) ∧ 1428 + 1 = 1429 := ⟨by decide +kernel, rfl⟩
theorem d_X12_init_1429 : decode mX12_init.1 1429 = .ok (.dup, 1) ∧ 1429 + 1 = 1430 := ⟨by decide +kernel, rfl⟩
theorem d_X12_init_1430 : decode mX12_init.1 1430 = .ok (.iconst 3, 1) ∧ 1430 + 1 = 1431 := ⟨by decide +kernel, rfl⟩
theorem d_X12_init_1431 : decode mX12_init.1 1431 = .ok (.bipush 98, 2) ∧ 1431 + 2 = 1433 := ⟨by decide +kernel, rfl⟩
theorem d_X12_init_1433 : decode mX12_init.1 1433 = .ok (.castore, 1) ∧ 1433 + 1 = 1434 := ⟨by decide +kernel, rfl⟩
theorem d_X12_init_1434 : decode mX12_init.1 1434 = .ok (.dup, 1) ∧ 1434 + 1 = 1435 := ⟨by decide +kernel, rfl⟩
theorem d_X12_init_1435 : decode mX12_init.1 1435 = .ok (.iconst 4, 1) ∧ 1435 + 1 = 1436 := ⟨by decide +kernel, rfl⟩
theorem d_X12_init_1436 : decode mX12_init.1 1436 = .ok (.bipush 101, 2) ∧ 1436 + 2 = 1438 := ⟨by decide +kernel, rfl⟩
theorem d_X12_init_1438 : decode mX12_init.1 1438 = .ok (.castore, 1) ∧ 1438 + 1 = 1439 := ⟨by decide +kernel, rfl⟩
theorem d_X12_init_1439 : decode mX12_init.1 1439 = .ok (.dup, 1) ∧ 1439 + 1 = 1440 := ⟨by decide +kernel, rfl⟩
theorem d_X12_init_1440 : decode mX12_init.1 1440 = .ok (.iconst 5, 1) ∧ 1440 + 1 = 1441 := ⟨by decide +kernel, rfl⟩
theorem d_X12_init_1441 : decode mX12_init.1 1441 = .ok (.bipush 114, 2) ∧ 1441 + 2 = 1443 := ⟨by decide +kernel, rfl⟩
theorem d_X12_init_1443 : decode mX12_init.1 1443 = .ok (.castore, 1) ∧ 1443 + 1 = 1444 := ⟨by decide +kernel, rfl⟩
theorem d_X12_init_1444 : decode mX12_init.1 1444 = .ok (.putfield 231, 3) ∧ 1444 + 3 = 1447 := ⟨by decide +kernel, rfl⟩
theorem d_X12_init_1447 : decode mX12_init.1 1447 = .ok (.aload_n 0, 1) ∧ 1447 + 1 = 1448 := ⟨by decide +kernel, rfl⟩
theorem d_X12_init_1448 : decode mX12_init.1 1448 = .ok (.sipush 1700, 3) ∧ 1448 + 3 = 1451 := ⟨by decide +kernel, rfl⟩
theorem d_X12_init_1451 : decode mX12_init.1 1451 = .ok (.newarray .int, 2) ∧ 1451 + 2 = 1453 := ⟨by decide +kernel, rfl⟩
theorem d_X12_init_1453 : decode mX12_init.1 1453 = .ok (.putfield 234, 3) ∧ 1453 + 3 = 1456 := ⟨by decide +kernel, rfl⟩
theorem d_X12_init_1456 : decode mX12_init.1 1456 = .ok (.aload_n 0, 1) ∧ 1456 + 1 = 1457 := ⟨by decide +kernel, rfl⟩
theorem d_X12_init_1457 : decode mX12_init.1 1457 = .ok (.sipush 1700, 3) ∧ 1457 + 3 = 1460 := ⟨by decide +kernel, rfl⟩
theorem d_X12_init_1460 : decode mX12_init.1 1460 = .ok (.newarray .int, 2) ∧ 1460 + 2 = 1462 := ⟨by decide +kernel, rfl⟩
theorem d_X12_init_1462 : decode mX12_init.1 1462 = .ok (.putfield 237, 3) ∧ 1462 + 3 = 1465 := ⟨by decide +kernel, rfl⟩
theorem d_X12_init_1465 : decode mX12_init.1 1465 = .ok (.aload_n 0, 1) ∧ 1465 + 1 = 1466 := ⟨by decide +kernel, rfl⟩
theorem d_X12_init_1466 : decode mX12_init.1 1466 = .ok (.sipush 1700, 3) ∧ 1466 + 3 = 1469 := ⟨by decide +kernel, rfl⟩
theorem d_X12_init_1469 : decode mX12_init.1 1469 = .ok (.newarray .long, 2) ∧ 1469 + 2 = 1471 := ⟨by decide +kernel, rfl⟩
theorem d_X12_init_1471 : decode mX12_init.1 1471 = .ok (.putfield 240, 3) ∧ 1471 + 3 = 1474 := ⟨by decide +kernel, rfl⟩
theorem d_X12_init_1474 : decode mX12_init.1 1474 = .ok (.aload_n 0, 1) ∧ 1474 + 1 = 1475 := ⟨by decide +kernel, rfl⟩
theorem d_X12_init_1475 : decode mX12_init.1 1475 = .ok (.bipush 63, 2) ∧ 1475 + 2 = 1477 := ⟨by decide +kernel, rfl⟩
theorem d_X12_init_1477 : decode mX12_init.1 1477 = .ok (.newarray .int, 2) ∧ 1477 + 2 = 1479 := ⟨by decide +kernel, rfl⟩
theorem d_X12_init_1479 : decode mX12_init.1 1479 = .ok (.putfield 243, 3) ∧ 1479 + 3 = 1482 := ⟨by decide +kernel, rfl⟩
theorem d_X12_init_1482 : decode mX12_init.1 1482 = .ok (.return_, 1) := by decide +kernel
set_option maxRecDepth 100000 in
set_option maxHeartbeats 4000000 in
theorem g_X12_init (l : Launch) (G : xa_C) (v0 : Int) (h : xa_H) : xa_G l G 2 mX12_init (f_X12_init v0 h) (fun r => some (none, r) : xa_H → Option xa_O) 0 [some (xR v0)] [] h := by
  unfold f_X12_init
  refine xa_step (xa_aload_n d_X12_init_0 rfl) ?_
  refine xa_objInit (ci := 12) xw_1302 xw_188 xw_189 (by decide) (Nat.le_of_ble_eq_true rfl) d_X12_init_1 (fun _ => ?_)
  refine xa_step (xa_aload_n d_X12_init_4 rfl) ?_
  refine xa_step (xa_sipush d_X12_init_5 xq_s_1600) ?_
  refine xa_newarr 0 .int (by decide) rfl xw_291 d_X12_init_8 (fun h1 _ => ?_)
  refine xa_putF2 (tg := xR) xc_12 (by decide) (fun _ => rfl) rfl rfl rfl (fun c hc => xa_fitA c hc) xw_1304 rfl d_X12_init_10 (fun h2 _ => ?_)
  refine xa_step (xa_aload_n d_X12_init_13 rfl) ?_
  refine xa_step (xa_iconst d_X12_init_14 xq_i_m1) ?_
  refine xa_putf2 (tg := xI) xc_12 (by decide) (fun _ => rfl) rfl (fun c hc => xa_fitI c hc) xw_1312 rfl d_X12_init_15 (fun h3 _ => ?_)
  refine xa_step (xa_aload_n d_X12_init_18 rfl) ?_
  refine xa_step (xa_bipush d_X12_init_19 xq_b_6) ?_
  refine xa_newarr 0 .int (by decide) rfl xw_291 d_X12_init_21 (fun h4 _ => ?_)
  refine xa_putF2 (tg := xR) xc_12 (by decide) (fun _ => rfl) rfl rfl rfl (fun c hc => xa_fitA c hc) xw_1313 rfl d_X12_init_23 (fun h5 _ => ?_)
  refine xa_step (xa_aload_n d_X12_init_26 rfl) ?_
  refine xa_step (xa_iconst d_X12_init_27 xq_i_4) ?_
  refine xa_newarr 3 .char (by decide) rfl xw_1632 d_X12_init_28 (fun h6 _ => ?_)
  refine xa_step (xa_dup d_X12_init_30 (xa_tR _)) ?_
  refine xa_step (xa_iconst d_X12_init_31 xq_i_0) ?_
  refine xa_step (xa_bipush d_X12_init_32 xq_b_104) ?_
  refine xa_castore2 (by decide) d_X12_init_34 (fun h7 _ => ?_)
  refine xa_step (xa_dup d_X12_init_35 (xa_tR _)) ?_
  refine xa_step (xa_iconst d_X12_init_36 xq_i_1) ?_
  refine xa_step (xa_bipush d_X12_init_37 xq_b_101) ?_
  refine xa_castore2 (by decide) d_X12_init_39 (fun h8 _ => ?_)
  refine xa_step (xa_dup d_X12_init_40 (xa_tR _)) ?_
  refine xa_step (xa_iconst d_X12_init_41 xq_i_2) ?_
  refine xa_step (xa_bipush d_X12_init_42 xq_b_108) ?_
  refine xa_castore2 (by decide) d_X12_init_44 (fun h9 _ => ?_)
  refine xa_step (xa_dup d_X12_init_45 (xa_tR _)) ?_
  refine xa_step (xa_iconst d_X12_init_46 xq_i_3) ?_
  refine xa_step (xa_bipush d_X12_init_47 xq_b_100) ?_
  refine xa_castore2 (by decide) d_X12_init_49 (fun h10 _ => ?_)
  refine xa_putF2 (tg := xR) xc_12 (by decide) (fun _ => rfl) rfl rfl rfl (fun c hc => xa_fitA c hc) xw_1314 rfl d_X12_init_50 (fun h11 _ => ?_)
  refine xa_step (xa_aload_n d_X12_init_53 rfl) ?_
  refine xa_step (xa_iconst d_X12_init_54 xq_i_4) ?_
  refine xa_newarr 3 .char (by decide) rfl xw_1632 d_X12_init_55 (fun h12 _ => ?_)
  refine xa_step (xa_dup d_X12_init_57 (xa_tR _)) ?_
  refine xa_step (xa_iconst d_X12_init_58 xq_i_0) ?_
  refine xa_step (xa_bipush d_X12_init_59 xq_b_115) ?_
  refine xa_castore2 (by decide) d_X12_init_61 (fun h13 _ => ?_)
  refine xa_step (xa_dup d_X12_init_62 (xa_tR _)) ?_
  refine xa_step (xa_iconst d_X12_init_63 xq_i_1) ?_
  refine xa_step (xa_bipush d_X12_init_64 xq_b_97) ?_
  refine xa_castore2 (by decide) d_X12_init_66 (fun h14 _ => ?_)
  refine xa_step (xa_dup d_X12_init_67 (xa_tR _)) ?_
  refine xa_step (xa_iconst d_X12_init_68 xq_i_2) ?_
  refine xa_step (xa_bipush d_X12_init_69 xq_b_108) ?_
  refine xa_castore2 (by decide) d_X12_init_71 (fun h15 _ => ?_)
  refine xa_step (xa_dup d_X12_init_72 (xa_tR _)) ?_
  refine xa_step (xa_iconst d_X12_init_73 xq_i_3) ?_
  refine xa_step (xa_bipush d_X12_init_74 xq_b_116) ?_
  refine xa_castore2 (by decide) d_X12_init_76 (fun h16 _ => ?_)
  refine xa_putF2 (tg := xR) xc_12 (by decide) (fun _ => rfl) rfl rfl rfl (fun c hc => xa_fitA c hc) xw_1315 rfl d_X12_init_77 (fun h17 _ => ?_)
  refine xa_step (xa_aload_n d_X12_init_80 rfl) ?_
  refine xa_step (xa_bipush d_X12_init_81 xq_b_6) ?_
  refine xa_newarr 3 .char (by decide) rfl xw_1632 d_X12_init_83 (fun h18 _ => ?_)
  refine xa_step (xa_dup d_X12_init_85 (xa_tR _)) ?_
  refine xa_step (xa_iconst d_X12_init_86 xq_i_0) ?_
  refine xa_step (xa_bipush d_X12_init_87 xq_b_104) ?_
  refine xa_castore2 (by decide) d_X12_init_89 (fun h19 _ => ?_)
  refine xa_step (xa_dup d_X12_init_90 (xa_tR _)) ?_
  refine xa_step (xa_iconst d_X12_init_91 xq_i_1) ?_
  refine xa_step (xa_bipush d_X12_init_92 xq_b_111) ?_
  refine xa_castore2 (by decide) d_X12_init_94 (fun h20 _ => ?_)
  refine xa_step (xa_dup d_X12_init_95 (xa_tR _)) ?_
  refine xa_step (xa_iconst d_X12_init_96 xq_i_2) ?_
  refine xa_step (xa_bipush d_X12_init_97 xq_b_108) ?_
  refine xa_castore2 (by decide) d_X12_init_99 (fun h21 _ => ?_)
  refine xa_step (xa_dup d_X12_init_100 (xa_tR _)) ?_
  refine xa_step (xa_iconst d_X12_init_101 xq_i_3) ?_
  refine xa_step (xa_bipush d_X12_init_102 xq_b_100) ?_
  refine xa_castore2 (by decide) d_X12_init_104 (fun h22 _ => ?_)
  refine xa_step (xa_dup d_X12_init_105 (xa_tR _)) ?_
  refine xa_step (xa_iconst d_X12_init_106 xq_i_4) ?_
  refine xa_step (xa_bipush d_X12_init_107 xq_b_101) ?_
  refine xa_castore2 (by decide) d_X12_init_109 (fun h23 _ => ?_)
  refine xa_step (xa_dup d_X12_init_110 (xa_tR _)) ?_
  refine xa_step (xa_iconst d_X12_init_111 xq_i_5) ?_
  refine xa_step (xa_bipush d_X12_init_112 xq_b_114) ?_
  refine xa_castore2 (by decide) d_X12_init_114 (fun h24 _ => ?_)
  refine xa_putF2 (tg := xR) xc_12 (by decide) (fun _ => rfl) rfl rfl rfl (fun c hc => xa_fitA c hc) xw_1316 rfl d_X12_init_115 (fun h25 _ => ?_)
  refine xa_step (xa_aload_n d_X12_init_118 rfl) ?_
  refine xa_step (xa_iconst d_X12_init_119 xq_i_3) ?_
  refine xa_newarr 3 .char (by decide) rfl xw_1632 d_X12_init_120 (fun h26 _ => ?_)
  refine xa_step (xa_dup d_X12_init_122 (xa_tR _)) ?_
  refine xa_step (xa_iconst d_X12_init_123 xq_i_0) ?_
  refine xa_step (xa_bipush d_X12_init_124 xq_b_104) ?_
  refine xa_castore2 (by decide) d_X12_init_126 (fun h27 _ => ?_)
  refine xa_step (xa_dup d_X12_init_127 (xa_tR _)) ?_
  refine xa_step (xa_iconst d_X12_init_128 xq_i_1) ?_
  refine xa_step (xa_bipush d_X12_init_129 xq_b_97) ?_
  refine xa_castore2 (by decide) d_X12_init_131 (fun h28 _ => ?_)
  refine xa_step (xa_dup d_X12_init_132 (xa_tR _)) ?_
  refine xa_step (xa_iconst d_X12_init_133 xq_i_2) ?_
  refine xa_step (xa_bipush d_X12_init_134 xq_b_115) ?_
  refine xa_castore2 (by decide) d_X12_init_136 (fun h29 _ => ?_)
  refine xa_putF2 (tg := xR) xc_12 (by decide) (fun _ => rfl) rfl rfl rfl (fun c hc => xa_fitA c hc) xw_1317 rfl d_X12_init_137 (fun h30 _ => ?_)
  refine xa_step (xa_aload_n d_X12_init_140 rfl) ?_
  refine xa_step (xa_iconst d_X12_init_141 xq_i_5) ?_
  refine xa_newarr 3 .char (by decide) rfl xw_1632 d_X12_init_142 (fun h31 _ => ?_)
  refine xa_step (xa_dup d_X12_init_144 (xa_tR _)) ?_
  refine xa_step (xa_iconst d_X12_init_145 xq_i_0) ?_
  refine xa_step (xa_bipush d_X12_init_146 xq_b_119) ?_
  refine xa_castore2 (by decide) d_X12_init_148 (fun h32 _ => ?_)
  refine xa_step (xa_dup d_X12_init_149 (xa_tR _)) ?_
  refine xa_step (xa_iconst d_X12_init_150 xq_i_1) ?_
  refine xa_step (xa_bipush d_X12_init_151 xq_b_97) ?_
  refine xa_castore2 (by decide) d_X12_init_153 (fun h33 _ => ?_)
  refine xa_step (xa_dup d_X12_init_154 (xa_tR _)) ?_
  refine xa_step (xa_iconst d_X12_init_155 xq_i_2) ?_
  refine xa_step (xa_bipush d_X12_init_156 xq_b_110) ?_
  refine xa_castore2 (by decide) d_X12_init_158 (fun h34 _ => ?_)
  refine xa_step (xa_dup d_X12_init_159 (xa_tR _)) ?_
  refine xa_step (xa_iconst d_X12_init_160 xq_i_3) ?_
  refine xa_step (xa_bipush d_X12_init_161 xq_b_116) ?_
  refine xa_castore2 (by decide) d_X12_init_163 (fun h35 _ => ?_)
  refine xa_step (xa_dup d_X12_init_164 (xa_tR _)) ?_
  refine xa_step (xa_iconst d_X12_init_165 xq_i_4) ?_
  refine xa_step (xa_bipush d_X12_init_166 xq_b_115) ?_
  refine xa_castore2 (by decide) d_X12_init_168 (fun h36 _ => ?_)
  refine xa_putF2 (tg := xR) xc_12 (by decide) (fun _ => rfl) rfl rfl rfl (fun c hc => xa_fitA c hc) xw_1318 rfl d_X12_init_169 (fun h37 _ => ?_)
  refine xa_step (xa_aload_n d_X12_init_172 rfl) ?_
  refine xa_step (xa_iconst d_X12_init_173 xq_i_5) ?_
  refine xa_newarr 3 .char (by decide) rfl xw_1632 d_X12_init_174 (fun h38 _ => ?_)
  refine xa_step (xa_dup d_X12_init_176 (xa_tR _)) ?_
  refine xa_step (xa_iconst d_X12_init_177 xq_i_0) ?_
  refine xa_step (xa_bipush d_X12_init_178 xq_b_112) ?_
  refine xa_castore2 (by decide) d_X12_init_180 (fun h39 _ => ?_)
  refine xa_step (xa_dup d_X12_init_181 (xa_tR _)) ?_
  refine xa_step (xa_iconst d_X12_init_182 xq_i_1) ?_
  refine xa_step (xa_bipush d_X12_init_183 xq_b_117) ?_
  refine xa_castore2 (by decide) d_X12_init_185 (fun h40 _ => ?_)
  refine xa_step (xa_dup d_X12_init_186 (xa_tR _)) ?_
  refine xa_step (xa_iconst d_X12_init_187 xq_i_2) ?_
  refine xa_step (xa_bipush d_X12_init_188 xq_b_114) ?_
  refine xa_castore2 (by decide) d_X12_init_190 (fun h41 _ => ?_)
  refine xa_step (xa_dup d_X12_init_191 (xa_tR _)) ?_
  refine xa_step (xa_iconst d_X12_init_192 xq_i_3) ?_
  refine xa_step (xa_bipush d_X12_init_193 xq_b_115) ?_
  refine xa_castore2 (by decide) d_X12_init_195 (fun h42 _ => ?_)
  refine xa_step (xa_dup d_X12_init_196 (xa_tR _)) ?_
  refine xa_step (xa_iconst d_X12_init_197 xq_i_4) ?_
  refine xa_step (xa_bipush d_X12_init_198 xq_b_101) ?_
  refine xa_castore2 (by decide) d_X12_init_200 (fun h43 _ => ?_)
  refine xa_putF2 (tg := xR) xc_12 (by decide) (fun _ => rfl) rfl rfl rfl (fun c hc => xa_fitA c hc) xw_1319 rfl d_X12_init_201 (fun h44 _ => ?_)
  refine xa_step (xa_aload_n d_X12_init_204 rfl) ?_
  refine xa_step (xa_bipush d_X12_init_205 xq_b_6) ?_
  refine xa_newarr 3 .char (by decide) rfl xw_1632 d_X12_init_207 (fun h45 _ => ?_)
  refine xa_step (xa_dup d_X12_init_209 (xa_tR _)) ?_
  refine xa_step (xa_iconst d_X12_init_210 xq_i_0) ?_
  refine xa_step (xa_bipush d_X12_init_211 xq_b_118) ?_
  refine xa_castore2 (by decide) d_X12_init_213 (fun h46 _ => ?_)
  refine xa_step (xa_dup d_X12_init_214 (xa_tR _)) ?_
  refine xa_step (xa_iconst d_X12_init_215 xq_i_1) ?_
  refine xa_step (xa_bipush d_X12_init_216 xq_b_97) ?_
  refine xa_castore2 (by decide) d_X12_init_218 (fun h47 _ => ?_)
  refine xa_step (xa_dup d_X12_init_219 (xa_tR _)) ?_
  refine xa_step (xa_iconst d_X12_init_220 xq_i_2) ?_
  refine xa_step (xa_bipush d_X12_init_221 xq_b_108) ?_
  refine xa_castore2 (by decide) d_X12_init_223 (fun h48 _ => ?_)
  refine xa_step (xa_dup d_X12_init_224 (xa_tR _)) ?_
  refine xa_step (xa_iconst d_X12_init_225 xq_i_3) ?_
  refine xa_step (xa_bipush d_X12_init_226 xq_b_117) ?_
  refine xa_castore2 (by decide) d_X12_init_228 (fun h49 _ => ?_)
  refine xa_step (xa_dup d_X12_init_229 (xa_tR _)) ?_
  refine xa_step (xa_iconst d_X12_init_230 xq_i_4) ?_
  refine xa_step (xa_bipush d_X12_init_231 xq_b_101) ?_
  refine xa_castore2 (by decide) d_X12_init_233 (fun h50 _ => ?_)
  refine xa_step (xa_dup d_X12_init_234 (xa_tR _)) ?_
  refine xa_step (xa_iconst d_X12_init_235 xq_i_5) ?_
  refine xa_step (xa_bipush d_X12_init_236 xq_b_115) ?_
  refine xa_castore2 (by decide) d_X12_init_238 (fun h51 _ => ?_)
  refine xa_putF2 (tg := xR) xc_12 (by decide) (fun _ => rfl) rfl rfl rfl (fun c hc => xa_fitA c hc) xw_1320 rfl d_X12_init_239 (fun h52 _ => ?_)
  refine xa_step (xa_aload_n d_X12_init_242 rfl) ?_
  refine xa_step (xa_iconst d_X12_init_243 xq_i_4) ?_
  refine xa_newarr 3 .char (by decide) rfl xw_1632 d_X12_init_244 (fun h53 _ => ?_)
  refine xa_step (xa_dup d_X12_init_246 (xa_tR _)) ?_
  refine xa_step (xa_iconst d_X12_init_247 xq_i_0) ?_
  refine xa_step (xa_bipush d_X12_init_248 xq_b_102) ?_
  refine xa_castore2 (by decide) d_X12_init_250 (fun h54 _ => ?_)
  refine xa_step (xa_dup d_X12_init_251 (xa_tR _)) ?_
  refine xa_step (xa_iconst d_X12_init_252 xq_i_1) ?_
  refine xa_step (xa_bipush d_X12_init_253 xq_b_101) ?_
  refine xa_castore2 (by decide) d_X12_init_255 (fun h55 _ => ?_)
  refine xa_step (xa_dup d_X12_init_256 (xa_tR _)) ?_
  refine xa_step (xa_iconst d_X12_init_257 xq_i_2) ?_
  refine xa_step (xa_bipush d_X12_init_258 xq_b_117) ?_
  refine xa_castore2 (by decide) d_X12_init_260 (fun h56 _ => ?_)
  refine xa_step (xa_dup d_X12_init_261 (xa_tR _)) ?_
  refine xa_step (xa_iconst d_X12_init_262 xq_i_3) ?_
  refine xa_step (xa_bipush d_X12_init_263 xq_b_100) ?_
  refine xa_castore2 (by decide) d_X12_init_265 (fun h57 _ => ?_)
  refine xa_putF2 (tg := xR) xc_12 (by decide) (fun _ => rfl) rfl rfl rfl (fun c hc => xa_fitA c hc) xw_1321 rfl d_X12_init_266 (fun h58 _ => ?_)
  refine xa_step (xa_aload_n d_X12_init_269 rfl) ?_
  refine xa_step (xa_bipush d_X12_init_270 xq_b_6) ?_
  refine xa_newarr 3 .char (by decide) rfl xw_1632 d_X12_init_272 (fun h59 _ => ?_)
  refine xa_step (xa_dup d_X12_init_274 (xa_tR _)) ?_
  refine xa_step (xa_iconst d_X12_init_275 xq_i_0) ?_
  refine xa_step (xa_bipush d_X12_init_276 xq_b_115) ?_
  refine xa_castore2 (by decide) d_X12_init_278 (fun h60 _ => ?_)
  refine xa_step (xa_dup d_X12_init_279 (xa_tR _)) ?_
  refine xa_step (xa_iconst d_X12_init_280 xq_i_1) ?_
  refine xa_step (xa_bipush d_X12_init_281 xq_b_105) ?_
  refine xa_castore2 (by decide) d_X12_init_283 (fun h61 _ => ?_)
  refine xa_step (xa_dup d_X12_init_284 (xa_tR _)) ?_
  refine xa_step (xa_iconst d_X12_init_285 xq_i_2) ?_
  refine xa_step (xa_bipush d_X12_init_286 xq_b_115) ?_
  refine xa_castore2 (by decide) d_X12_init_288 (fun h62 _ => ?_)
  refine xa_step (xa_dup d_X12_init_289 (xa_tR _)) ?_
  refine xa_step (xa_iconst d_X12_init_290 xq_i_3) ?_
  refine xa_step (xa_bipush d_X12_init_291 xq_b_116) ?_
  refine xa_castore2 (by decide) d_X12_init_293 (fun h63 _ => ?_)
  refine xa_step (xa_dup d_X12_init_294 (xa_tR _)) ?_
  refine xa_step (xa_iconst d_X12_init_295 xq_i_4) ?_
  refine xa_step (xa_bipush d_X12_init_296 xq_b_101) ?_
  refine xa_castore2 (by decide) d_X12_init_298 (fun h64 _ => ?_)
  refine xa_step (xa_dup d_X12_init_299 (xa_tR _)) ?_
  refine xa_step (xa_iconst d_X12_init_300 xq_i_5) ?_
  refine xa_step (xa_bipush d_X12_init_301 xq_b_114) ?_
  refine xa_castore2 (by decide) d_X12_init_303 (fun h65 _ => ?_)
  refine xa_putF2 (tg := xR) xc_12 (by decide) (fun _ => rfl) rfl rfl rfl (fun c hc => xa_fitA c hc) xw_1322 rfl d_X12_init_304 (fun h66 _ => ?_)
  refine xa_step (xa_aload_n d_X12_init_307 rfl) ?_
  refine xa_step (xa_iconst d_X12_init_308 xq_i_5) ?_
  refine xa_newarr 3 .char (by decide) rfl xw_1632 d_X12_init_309 (fun h67 _ => ?_)
  refine xa_step (xa_dup d_X12_init_311 (xa_tR _)) ?_
  refine xa_step (xa_iconst d_X12_init_312 xq_i_0) ?_
  refine xa_step (xa_bipush d_X12_init_313 xq_b_115) ?_
  refine xa_castore2 (by decide) d_X12_init_315 (fun h68 _ => ?_)
  refine xa_step (xa_dup d_X12_init_316 (xa_tR _)) ?_
  refine xa_step (xa_iconst d_X12_init_317 xq_i_1) ?_
  refine xa_step (xa_bipush d_X12_init_318 xq_b_119) ?_
  refine xa_castore2 (by decide) d_X12_init_320 (fun h69 _ => ?_)
  refine xa_step (xa_dup d_X12_init_321 (xa_tR _)) ?_
  refine xa_step (xa_iconst d_X12_init_322 xq_i_2) ?_
  refine xa_step (xa_bipush d_X12_init_323 xq_b_97) ?_
  refine xa_castore2 (by decide) d_X12_init_325 (fun h70 _ => ?_)
  refine xa_step (xa_dup d_X12_init_326 (xa_tR _)) ?_
  refine xa_step (xa_iconst d_X12_init_327 xq_i_3) ?_
  refine xa_step (xa_bipush d_X12_init_328 xq_b_112) ?_
  refine xa_castore2 (by decide) d_X12_init_330 (fun h71 _ => ?_)
  refine xa_step (xa_dup d_X12_init_331 (xa_tR _)) ?_
  refine xa_step (xa_iconst d_X12_init_332 xq_i_4) ?_
  refine xa_step (xa_bipush d_X12_init_333 xq_b_115) ?_
  refine xa_castore2 (by decide) d_X12_init_335 (fun h72 _ => ?_)
  refine xa_putF2 (tg := xR) xc_12 (by decide) (fun _ => rfl) rfl rfl rfl (fun c hc => xa_fitA c hc) xw_1323 rfl d_X12_init_336 (fun h73 _ => ?_)
  refine xa_step (xa_aload_n d_X12_init_339 rfl) ?_
  refine xa_step (xa_iconst d_X12_init_340 xq_i_4) ?_
  refine xa_newarr 3 .char (by decide) rfl xw_1632 d_X12_init_341 (fun h74 _ => ?_)
  refine xa_step (xa_dup d_X12_init_343 (xa_tR _)) ?_
  refine xa_step (xa_iconst d_X12_init_344 xq_i_0) ?_
  refine xa_step (xa_bipush d_X12_init_345 xq_b_112) ?_
  refine xa_castore2 (by decide) d_X12_init_347 (fun h75 _ => ?_)
  refine xa_step (xa_dup d_X12_init_348 (xa_tR _)) ?_
  refine xa_step (xa_iconst d_X12_init_349 xq_i_1) ?_
  refine xa_step (xa_bipush d_X12_init_350 xq_b_97) ?_
  refine xa_castore2 (by decide) d_X12_init_352 (fun h76 _ => ?_)
  refine xa_step (xa_dup d_X12_init_353 (xa_tR _)) ?_
  refine xa_step (xa_iconst d_X12_init_354 xq_i_2) ?_
  refine xa_step (xa_bipush d_X12_init_355 xq_b_121) ?_
  refine xa_castore2 (by decide) d_X12_init_357 (fun h77 _ => ?_)
  refine xa_step (xa_dup d_X12_init_358 (xa_tR _)) ?_
  refine xa_step (xa_iconst d_X12_init_359 xq_i_3) ?_
  refine xa_step (xa_bipush d_X12_init_360 xq_b_115) ?_
  refine xa_castore2 (by decide) d_X12_init_362 (fun h78 _ => ?_)
  refine xa_putF2 (tg := xR) xc_12 (by decide) (fun _ => rfl) rfl rfl rfl (fun c hc => xa_fitA c hc) xw_1324 rfl d_X12_init_363 (fun h79 _ => ?_)
  refine xa_step (xa_aload_n d_X12_init_366 rfl) ?_
  refine xa_step (xa_iconst d_X12_init_367 xq_i_3) ?_
  refine xa_newarr 3 .char (by decide) rfl xw_1632 d_X12_init_368 (fun h80 _ => ?_)
  refine xa_step (xa_dup d_X12_init_370 (xa_tR _)) ?_
  refine xa_step (xa_iconst d_X12_init_371 xq_i_0) ?_
  refine xa_step (xa_bipush d_X12_init_372 xq_b_102) ?_
  refine xa_castore2 (by decide) d_X12_init_374 (fun h81 _ => ?_)
  refine xa_step (xa_dup d_X12_init_375 (xa_tR _)) ?_
  refine xa_step (xa_iconst d_X12_init_376 xq_i_1) ?_
  refine xa_step (xa_bipush d_X12_init_377 xq_b_111) ?_
  refine xa_castore2 (by decide) d_X12_init_379 (fun h82 _ => ?_)
  refine xa_step (xa_dup d_X12_init_380 (xa_tR _)) ?_
  refine xa_step (xa_iconst d_X12_init_381 xq_i_2) ?_
  refine xa_step (xa_bipush d_X12_init_382 xq_b_103) ?_
  refine xa_castore2 (by decide) d_X12_init_384 (fun h83 _ => ?_)
  refine xa_putF2 (tg := xR) xc_12 (by decide) (fun _ => rfl) rfl rfl rfl (fun c hc => xa_fitA c hc) xw_1325 rfl d_X12_init_385 (fun h84 _ => ?_)
  refine xa_step (xa_aload_n d_X12_init_388 rfl) ?_
  refine xa_step (xa_iconst d_X12_init_389 xq_i_4) ?_
  refine xa_newarr 3 .char (by decide) rfl xw_1632 d_X12_init_390 (fun h85 _ => ?_)
  refine xa_step (xa_dup d_X12_init_392 (xa_tR _)) ?_
  refine xa_step (xa_iconst d_X12_init_393 xq_i_0) ?_
  refine xa_step (xa_bipush d_X12_init_394 xq_b_103) ?_
  refine xa_castore2 (by decide) d_X12_init_396 (fun h86 _ => ?_)
  refine xa_step (xa_dup d_X12_init_397 (xa_tR _)) ?_
  refine xa_step (xa_iconst d_X12_init_398 xq_i_1) ?_
  refine xa_step (xa_bipush d_X12_init_399 xq_b_101) ?_
  refine xa_castore2 (by decide) d_X12_init_401 (fun h87 _ => ?_)
  refine xa_step (xa_dup d_X12_init_402 (xa_tR _)) ?_
  refine xa_step (xa_iconst d_X12_init_403 xq_i_2) ?_
  refine xa_step (xa_bipush d_X12_init_404 xq_b_116) ?_
  refine xa_castore2 (by decide) d_X12_init_406 (fun h88 _ => ?_)
  refine xa_step (xa_dup d_X12_init_407 (xa_tR _)) ?_
  refine xa_step (xa_iconst d_X12_init_408 xq_i_3) ?_
  refine xa_step (xa_bipush d_X12_init_409 xq_b_115) ?_
  refine xa_castore2 (by decide) d_X12_init_411 (fun h89 _ => ?_)
  refine xa_putF2 (tg := xR) xc_12 (by decide) (fun _ => rfl) rfl rfl rfl (fun c hc => xa_fitA c hc) xw_1326 rfl d_X12_init_412 (fun h90 _ => ?_)
  refine xa_step (xa_aload_n d_X12_init_415 rfl) ?_
  refine xa_step (xa_iconst d_X12_init_416 xq_i_5) ?_
  refine xa_newarr 3 .char (by decide) rfl xw_1632 d_X12_init_417 (fun h91 _ => ?_)
  refine xa_step (xa_dup d_X12_init_419 (xa_tR _)) ?_
  refine xa_step (xa_iconst d_X12_init_420 xq_i_0) ?_
  refine xa_step (xa_bipush d_X12_init_421 xq_b_103) ?_
  refine xa_castore2 (by decide) d_X12_init_423 (fun h92 _ => ?_)
  refine xa_step (xa_dup d_X12_init_424 (xa_tR _)) ?_
  refine xa_step (xa_iconst d_X12_init_425 xq_i_1) ?_
  refine xa_step (xa_bipush d_X12_init_426 xq_b_105) ?_
  refine xa_castore2 (by decide) d_X12_init_428 (fun h93 _ => ?_)
  refine xa_step (xa_dup d_X12_init_429 (xa_tR _)) ?_
  refine xa_step (xa_iconst d_X12_init_430 xq_i_2) ?_
  refine xa_step (xa_bipush d_X12_init_431 xq_b_118) ?_
  refine xa_castore2 (by decide) d_X12_init_433 (fun h94 _ => ?_)
  refine xa_step (xa_dup d_X12_init_434 (xa_tR _)) ?_
  refine xa_step (xa_iconst d_X12_init_435 xq_i_3) ?_
  refine xa_step (xa_bipush d_X12_init_436 xq_b_101) ?_
  refine xa_castore2 (by decide) d_X12_init_438 (fun h95 _ => ?_)
  refine xa_step (xa_dup d_X12_init_439 (xa_tR _)) ?_
  refine xa_step (xa_iconst d_X12_init_440 xq_i_4) ?_
  refine xa_step (xa_bipush d_X12_init_441 xq_b_115) ?_
  refine xa_castore2 (by decide) d_X12_init_443 (fun h96 _ => ?_)
  refine xa_putF2 (tg := xR) xc_12 (by decide) (fun _ => rfl) rfl rfl rfl (fun c hc => xa_fitA c hc) xw_1327 rfl d_X12_init_444 (fun h97 _ => ?_)
  refine xa_step (xa_aload_n d_X12_init_447 rfl) ?_
  refine xa_step (xa_iconst d_X12_init_448 xq_i_3) ?_
  refine xa_newarr 3 .char (by decide) rfl xw_1632 d_X12_init_449 (fun h98 _ => ?_)
  refine xa_step (xa_dup d_X12_init_451 (xa_tR _)) ?_
  refine xa_step (xa_iconst d_X12_init_452 xq_i_0) ?_
  refine xa_step (xa_bipush d_X12_init_453 xq_b_109) ?_
  refine xa_castore2 (by decide) d_X12_init_455 (fun h99 _ => ?_)
  refine xa_step (xa_dup d_X12_init_456 (xa_tR _)) ?_
  refine xa_step (xa_iconst d_X12_init_457 xq_i_1) ?_
  refine xa_step (xa_bipush d_X12_init_458 xq_b_101) ?_
  refine xa_castore2 (by decide) d_X12_init_460 (fun h100 _ => ?_)
  refine xa_step (xa_dup d_X12_init_461 (xa_tR _)) ?_
  refine xa_step (xa_iconst d_X12_init_462 xq_i_2) ?_
  refine xa_step (xa_bipush d_X12_init_463 xq_b_116) ?_
  refine xa_castore2 (by decide) d_X12_init_465 (fun h101 _ => ?_)
  refine xa_putF2 (tg := xR) xc_12 (by decide) (fun _ => rfl) rfl rfl rfl (fun c hc => xa_fitA c hc) xw_1328 rfl d_X12_init_466 (fun h102 _ => ?_)
  refine xa_step (xa_aload_n d_X12_init_469 rfl) ?_
  refine xa_step (xa_iconst d_X12_init_470 xq_i_5) ?_
  refine xa_newarr 3 .char (by decide) rfl xw_1632 d_X12_init_471 (fun h103 _ => ?_)
  refine xa_step (xa_dup d_X12_init_473 (xa_tR _)) ?_
  refine xa_step (xa_iconst d_X12_init_474 xq_i_0) ?_
  refine xa_step (xa_bipush d_X12_init_475 xq_b_110) ?_
  refine xa_castore2 (by decide) d_X12_init_477 (fun h104 _ => ?_)
  refine xa_step (xa_dup d_X12_init_478 (xa_tR _)) ?_
  refine xa_step (xa_iconst d_X12_init_479 xq_i_1) ?_
  refine xa_step (xa_bipush d_X12_init_480 xq_b_105) ?_
  refine xa_castore2 (by decide) d_X12_init_482 (fun h105 _ => ?_)
  refine xa_step (xa_dup d_X12_init_483 (xa_tR _)) ?_
  refine xa_step (xa_iconst d_X12_init_484 xq_i_2) ?_
  refine xa_step (xa_bipush d_X12_init_485 xq_b_103) ?_
  refine xa_castore2 (by decide) d_X12_init_487 (fun h106 _ => ?_)
  refine xa_step (xa_dup d_X12_init_488 (xa_tR _)) ?_
  refine xa_step (xa_iconst d_X12_init_489 xq_i_3) ?_
  refine xa_step (xa_bipush d_X12_init_490 xq_b_104) ?_
  refine xa_castore2 (by decide) d_X12_init_492 (fun h107 _ => ?_)
  refine xa_step (xa_dup d_X12_init_493 (xa_tR _)) ?_
  refine xa_step (xa_iconst d_X12_init_494 xq_i_4) ?_
  refine xa_step (xa_bipush d_X12_init_495 xq_b_116) ?_
  refine xa_castore2 (by decide) d_X12_init_497 (fun h108 _ => ?_)
  refine xa_putF2 (tg := xR) xc_12 (by decide) (fun _ => rfl) rfl rfl rfl (fun c hc => xa_fitA c hc) xw_1329 rfl d_X12_init_498 (fun h109 _ => ?_)
  refine xa_step (xa_aload_n d_X12_init_501 rfl) ?_
  refine xa_step (xa_bipush d_X12_init_502 xq_b_6) ?_
  refine xa_newarr 3 .char (by decide) rfl xw_1632 d_X12_init_504 (fun h110 _ => ?_)
  refine xa_step (xa_dup d_X12_init_506 (xa_tR _)) ?_
  refine xa_step (xa_iconst d_X12_init_507 xq_i_0) ?_
  refine xa_step (xa_bipush d_X12_init_508 xq_b_110) ?_
  refine xa_castore2 (by decide) d_X12_init_510 (fun h111 _ => ?_)
  refine xa_step (xa_dup d_X12_init_511 (xa_tR _)) ?_
  refine xa_step (xa_iconst d_X12_init_512 xq_i_1) ?_
  refine xa_step (xa_bipush d_X12_init_513 xq_b_117) ?_
  refine xa_castore2 (by decide) d_X12_init_515 (fun h112 _ => ?_)
  refine xa_step (xa_dup d_X12_init_516 (xa_tR _)) ?_
  refine xa_step (xa_iconst d_X12_init_517 xq_i_2) ?_
  refine xa_step (xa_bipush d_X12_init_518 xq_b_109) ?_
  refine xa_castore2 (by decide) d_X12_init_520 (fun h113 _ => ?_)
  refine xa_step (xa_dup d_X12_init_521 (xa_tR _)) ?_
  refine xa_step (xa_iconst d_X12_init_522 xq_i_3) ?_
  refine xa_step (xa_bipush d_X12_init_523 xq_b_98) ?_
  refine xa_castore2 (by decide) d_X12_init_525 (fun h114 _ => ?_)
  refine xa_step (xa_dup d_X12_init_526 (xa_tR _)) ?_
  refine xa_step (xa_iconst d_X12_init_527 xq_i_4) ?_
  refine xa_step (xa_bipush d_X12_init_528 xq_b_101) ?_
  refine xa_castore2 (by decide) d_X12_init_530 (fun h115 _ => ?_)
  refine xa_step (xa_dup d_X12_init_531 (xa_tR _)) ?_
  refine xa_step (xa_iconst d_X12_init_532 xq_i_5) ?_
  refine xa_step (xa_bipush d_X12_init_533 xq_b_114) ?_
  refine xa_castore2 (by decide) d_X12_init_535 (fun h116 _ => ?_)
  refine xa_putF2 (tg := xR) xc_12 (by decide) (fun _ => rfl) rfl rfl rfl (fun c hc => xa_fitA c hc) xw_1330 rfl d_X12_init_536 (fun h117 _ => ?_)
  refine xa_step (xa_aload_n d_X12_init_539 rfl) ?_
  refine xa_step (xa_iconst d_X12_init_540 xq_i_2) ?_
  refine xa_newarr 3 .char (by decide) rfl xw_1632 d_X12_init_541 (fun h118 _ => ?_)
  refine xa_step (xa_dup d_X12_init_543 (xa_tR _)) ?_
  refine xa_step (xa_iconst d_X12_init_544 xq_i_0) ?_
  refine xa_step (xa_bipush d_X12_init_545 xq_b_111) ?_
  refine xa_castore2 (by decide) d_X12_init_547 (fun h119 _ => ?_)
  refine xa_step (xa_dup d_X12_init_548 (xa_tR _)) ?_
  refine xa_step (xa_iconst d_X12_init_549 xq_i_1) ?_
  refine xa_step (xa_bipush d_X12_init_550 xq_b_114) ?_
  refine xa_castore2 (by decide) d_X12_init_552 (fun h120 _ => ?_)
  refine xa_putF2 (tg := xR) xc_12 (by decide) (fun _ => rfl) rfl rfl rfl (fun c hc => xa_fitA c hc) xw_1331 rfl d_X12_init_553 (fun h121 _ => ?_)
  refine xa_step (xa_aload_n d_X12_init_556 rfl) ?_
  refine xa_step (xa_iconst d_X12_init_557 xq_i_3) ?_
  refine xa_newarr 3 .char (by decide) rfl xw_1632 d_X12_init_558 (fun h122 _ => ?_)
  refine xa_step (xa_dup d_X12_init_560 (xa_tR _)) ?_
  refine xa_step (xa_iconst d_X12_init_561 xq_i_0) ?_
  refine xa_step (xa_bipush d_X12_init_562 xq_b_97) ?_
  refine xa_castore2 (by decide) d_X12_init_564 (fun h123 _ => ?_)
  refine xa_step (xa_dup d_X12_init_565 (xa_tR _)) ?_
  refine xa_step (xa_iconst d_X12_init_566 xq_i_1) ?_
  refine xa_step (xa_bipush d_X12_init_567 xq_b_110) ?_
  refine xa_castore2 (by decide) d_X12_init_569 (fun h124 _ => ?_)
  refine xa_step (xa_dup d_X12_init_570 (xa_tR _)) ?_
  refine xa_step (xa_iconst d_X12_init_571 xq_i_2) ?_
  refine xa_step (xa_bipush d_X12_init_572 xq_b_100) ?_
  refine xa_castore2 (by decide) d_X12_init_574 (fun h125 _ => ?_)
  refine xa_putF2 (tg := xR) xc_12 (by decide) (fun _ => rfl) rfl rfl rfl (fun c hc => xa_fitA c hc) xw_1332 rfl d_X12_init_575 (fun h126 _ => ?_)
  refine xa_step (xa_aload_n d_X12_init_578 rfl) ?_
  refine xa_step (xa_iconst d_X12_init_579 xq_i_3) ?_
  refine xa_newarr 3 .char (by decide) rfl xw_1632 d_X12_init_580 (fun h127 _ => ?_)
  refine xa_step (xa_dup d_X12_init_582 (xa_tR _)) ?_
  refine xa_step (xa_iconst d_X12_init_583 xq_i_0) ?_
  refine xa_step (xa_bipush d_X12_init_584 xq_b_110) ?_
  refine xa_castore2 (by decide) d_X12_init_586 (fun h128 _ => ?_)
  refine xa_step (xa_dup d_X12_init_587 (xa_tR _)) ?_
  refine xa_step (xa_iconst d_X12_init_588 xq_i_1) ?_
  refine xa_step (xa_bipush d_X12_init_589 xq_b_111) ?_
  refine xa_castore2 (by decide) d_X12_init_591 (fun h129 _ => ?_)
  refine xa_step (xa_dup d_X12_init_592 (xa_tR _)) ?_
  refine xa_step (xa_iconst d_X12_init_593 xq_i_2) ?_
  refine xa_step (xa_bipush d_X12_init_594 xq_b_116) ?_
  refine xa_castore2 (by decide) d_X12_init_596 (fun h130 _ => ?_)
  refine xa_putF2 (tg := xR) xc_12 (by decide) (fun _ => rfl) rfl rfl rfl (fun c hc => xa_fitA c hc) xw_1333 rfl d_X12_init_597 (fun h131 _ => ?_)
  refine xa_step (xa_aload_n d_X12_init_600 rfl) ?_
  refine xa_step (xa_iconst d_X12_init_601 xq_i_3) ?_
  refine xa_newarr 3 .char (by decide) rfl xw_1632 d_X12_init_602 (fun h132 _ => ?_)
  refine xa_step (xa_dup d_X12_init_604 (xa_tR _)) ?_
  refine xa_step (xa_iconst d_X12_init_605 xq_i_0) ?_
  refine xa_step (xa_bipush d_X12_init_606 xq_b_97) ?_
  refine xa_castore2 (by decide) d_X12_init_608 (fun h133 _ => ?_)
  refine xa_step (xa_dup d_X12_init_609 (xa_tR _)) ?_
  refine xa_step (xa_iconst d_X12_init_610 xq_i_1) ?_
  refine xa_step (xa_bipush d_X12_init_611 xq_b_108) ?_
  refine xa_castore2 (by decide) d_X12_init_613 (fun h134 _ => ?_)
  refine xa_step (xa_dup d_X12_init_614 (xa_tR _)) ?_
  refine xa_step (xa_iconst d_X12_init_615 xq_i_2) ?_
  refine xa_step (xa_bipush d_X12_init_616 xq_b_108) ?_
  refine xa_castore2 (by decide) d_X12_init_618 (fun h135 _ => ?_)
  refine xa_putF2 (tg := xR) xc_12 (by decide) (fun _ => rfl) rfl rfl rfl (fun c hc => xa_fitA c hc) xw_1334 rfl d_X12_init_619 (fun h136 _ => ?_)
  refine xa_step (xa_aload_n d_X12_init_622 rfl) ?_
  refine xa_step (xa_iconst d_X12_init_623 xq_i_3) ?_
  refine xa_newarr 3 .char (by decide) rfl xw_1632 d_X12_init_624 (fun h137 _ => ?_)
  refine xa_step (xa_dup d_X12_init_626 (xa_tR _)) ?_
  refine xa_step (xa_iconst d_X12_init_627 xq_i_0) ?_
  refine xa_step (xa_bipush d_X12_init_628 xq_b_109) ?_
  refine xa_castore2 (by decide) d_X12_init_630 (fun h138 _ => ?_)
  refine xa_step (xa_dup d_X12_init_631 (xa_tR _)) ?_
  refine xa_step (xa_iconst d_X12_init_632 xq_i_1) ?_
  refine xa_step (xa_bipush d_X12_init_633 xq_b_105) ?_
  refine xa_castore2 (by decide) d_X12_init_635 (fun h139 _ => ?_)
  refine xa_step (xa_dup d_X12_init_636 (xa_tR _)) ?_
  refine xa_step (xa_iconst d_X12_init_637 xq_i_2) ?_
  refine xa_step (xa_bipush d_X12_init_638 xq_b_110) ?_
  refine xa_castore2 (by decide) d_X12_init_640 (fun h140 _ => ?_)
  refine xa_putF2 (tg := xR) xc_12 (by decide) (fun _ => rfl) rfl rfl rfl (fun c hc => xa_fitA c hc) xw_1335 rfl d_X12_init_641 (fun h141 _ => ?_)
  refine xa_step (xa_aload_n d_X12_init_644 rfl) ?_
  refine xa_step (xa_iconst d_X12_init_645 xq_i_3) ?_
  refine xa_newarr 3 .char (by decide) rfl xw_1632 d_X12_init_646 (fun h142 _ => ?_)
  refine xa_step (xa_dup d_X12_init_648 (xa_tR _)) ?_
  refine xa_step (xa_iconst d_X12_init_649 xq_i_0) ?_
  refine xa_step (xa_bipush d_X12_init_650 xq_b_109) ?_
  refine xa_castore2 (by decide) d_X12_init_652 (fun h143 _ => ?_)
  refine xa_step (xa_dup d_X12_init_653 (xa_tR _)) ?_
  refine xa_step (xa_iconst d_X12_init_654 xq_i_1) ?_
  refine xa_step (xa_bipush d_X12_init_655 xq_b_97) ?_
  refine xa_castore2 (by decide) d_X12_init_657 (fun h144 _ => ?_)
  refine xa_step (xa_dup d_X12_init_658 (xa_tR _)) ?_
  refine xa_step (xa_iconst d_X12_init_659 xq_i_2) ?_
  refine xa_step (xa_bipush d_X12_init_660 xq_b_120) ?_
  refine xa_castore2 (by decide) d_X12_init_662 (fun h145 _ => ?_)
  refine xa_putF2 (tg := xR) xc_12 (by decide) (fun _ => rfl) rfl rfl rfl (fun c hc => xa_fitA c hc) xw_1336 rfl d_X12_init_663 (fun h146 _ => ?_)
  refine xa_step (xa_aload_n d_X12_init_666 rfl) ?_
  refine xa_step (xa_bipush d_X12_init_667 xq_b_6) ?_
  refine xa_newarr 0 .int (by decide) rfl xw_291 d_X12_init_669 (fun h147 _ => ?_)
  refine xa_putF2 (tg := xR) xc_12 (by decide) (fun _ => rfl) rfl rfl rfl (fun c hc => xa_fitA c hc) xw_1338 rfl d_X12_init_671 (fun h148 _ => ?_)
  refine xa_step (xa_aload_n d_X12_init_674 rfl) ?_
  refine xa_step (xa_bipush d_X12_init_675 xq_b_24) ?_
  refine xa_newarr 1 .long (by decide) rfl xw_1633 d_X12_init_677 (fun h149 _ => ?_)
  refine xa_putF2 (tg := xR) xc_12 (by decide) (fun _ => rfl) rfl rfl rfl (fun c hc => xa_fitA c hc) xw_1339 rfl d_X12_init_679 (fun h150 _ => ?_)
  refine xa_step (xa_aload_n d_X12_init_682 rfl) ?_
  refine xa_step (xa_bipush d_X12_init_683 xq_b_12) ?_
  refine xa_newarr 0 .int (by decide) rfl xw_291 d_X12_init_685 (fun h151 _ => ?_)
  refine xa_putF2 (tg := xR) xc_12 (by decide) (fun _ => rfl) rfl rfl rfl (fun c hc => xa_fitA c hc) xw_1340 rfl d_X12_init_687 (fun h152 _ => ?_)
  refine xa_step (xa_aload_n d_X12_init_690 rfl) ?_
  refine xa_step (xa_bipush d_X12_init_691 xq_b_12) ?_
  refine xa_newarr 0 .int (by decide) rfl xw_291 d_X12_init_693 (fun h153 _ => ?_)
  refine xa_putF2 (tg := xR) xc_12 (by decide) (fun _ => rfl) rfl rfl rfl (fun c hc => xa_fitA c hc) xw_1341 rfl d_X12_init_695 (fun h154 _ => ?_)
  refine xa_step (xa_aload_n d_X12_init_698 rfl) ?_
  refine xa_step (xa_bipush d_X12_init_699 xq_b_6) ?_
  refine xa_newarr 0 .int (by decide) rfl xw_291 d_X12_init_701 (fun h155 _ => ?_)
  refine xa_putF2 (tg := xR) xc_12 (by decide) (fun _ => rfl) rfl rfl rfl (fun c hc => xa_fitA c hc) xw_1342 rfl d_X12_init_703 (fun h156 _ => ?_)
  refine xa_step (xa_aload_n d_X12_init_706 rfl) ?_
  refine xa_step (xa_bipush d_X12_init_707 xq_b_6) ?_
  refine xa_newarr 0 .int (by decide) rfl xw_291 d_X12_init_709 (fun h157 _ => ?_)
  refine xa_putF2 (tg := xR) xc_12 (by decide) (fun _ => rfl) rfl rfl rfl (fun c hc => xa_fitA c hc) xw_1343 rfl d_X12_init_711 (fun h158 _ => ?_)
  refine xa_step (xa_aload_n d_X12_init_714 rfl) ?_
  refine xa_step (xa_bipush d_X12_init_715 xq_b_6) ?_
  refine xa_newarr 0 .int (by decide) rfl xw_291 d_X12_init_717 (fun h159 _ => ?_)
  refine xa_putF2 (tg := xR) xc_12 (by decide) (fun _ => rfl) rfl rfl rfl (fun c hc => xa_fitA c hc) xw_1344 rfl d_X12_init_719 (fun h160 _ => ?_)
  refine xa_step (xa_aload_n d_X12_init_722 rfl) ?_
  refine xa_step (xa_bipush d_X12_init_723 xq_b_72) ?_
  refine xa_newarr 0 .int (by decide) rfl xw_291 d_X12_init_725 (fun h161 _ => ?_)
  refine xa_putF2 (tg := xR) xc_12 (by decide) (fun _ => rfl) rfl rfl rfl (fun c hc => xa_fitA c hc) xw_1345 rfl d_X12_init_727 (fun h162 _ => ?_)
  refine xa_step (xa_aload_n d_X12_init_730 rfl) ?_
  refine xa_step (xa_bipush d_X12_init_731 xq_b_12) ?_
  refine xa_newarr 0 .int (by decide) rfl xw_291 d_X12_init_733 (fun h163 _ => ?_)
  refine xa_putF2 (tg := xR) xc_12 (by decide) (fun _ => rfl) rfl rfl rfl (fun c hc => xa_fitA c hc) xw_1346 rfl d_X12_init_735 (fun h164 _ => ?_)
  refine xa_step (xa_aload_n d_X12_init_738 rfl) ?_
  refine xa_step (xa_iconst d_X12_init_739 xq_i_2) ?_
  refine xa_newarr 0 .int (by decide) rfl xw_291 d_X12_init_740 (fun h165 _ => ?_)
  refine xa_putF2 (tg := xR) xc_12 (by decide) (fun _ => rfl) rfl rfl rfl (fun c hc => xa_fitA c hc) xw_1347 rfl d_X12_init_742 (fun h166 _ => ?_)
  refine xa_step (xa_aload_n d_X12_init_745 rfl) ?_
  refine xa_step (xa_iconst d_X12_init_746 xq_i_4) ?_
  refine xa_newarr 0 .int (by decide) rfl xw_291 d_X12_init_747 (fun h167 _ => ?_)
  refine xa_step (xa_dup d_X12_init_749 (xa_tR _)) ?_
  refine xa_step (xa_iconst d_X12_init_750 xq_i_0) ?_
  refine xa_step (xa_iconst d_X12_init_751 xq_i_m1) ?_
  refine xa_iastore2 d_X12_init_752 (fun h168 _ => ?_)
  refine xa_step (xa_dup d_X12_init_753 (xa_tR _)) ?_
  refine xa_step (xa_iconst d_X12_init_754 xq_i_1) ?_
  refine xa_step (xa_iconst d_X12_init_755 xq_i_m1) ?_
  refine xa_iastore2 d_X12_init_756 (fun h169 _ => ?_)
  refine xa_step (xa_dup d_X12_init_757 (xa_tR _)) ?_
  refine xa_step (xa_iconst d_X12_init_758 xq_i_2) ?_
  refine xa_step (xa_iconst d_X12_init_759 xq_i_m1) ?_
  refine xa_iastore2 d_X12_init_760 (fun h170 _ => ?_)
  refine xa_step (xa_dup d_X12_init_761 (xa_tR _)) ?_
  refine xa_step (xa_iconst d_X12_init_762 xq_i_3) ?_
  refine xa_step (xa_iconst d_X12_init_763 xq_i_m1) ?_
  refine xa_iastore2 d_X12_init_764 (fun h171 _ => ?_)
  refine xa_putF2 (tg := xR) xc_12 (by decide) (fun _ => rfl) rfl rfl rfl (fun c hc => xa_fitA c hc) xw_1348 rfl d_X12_init_765 (fun h172 _ => ?_)
  refine xa_step (xa_aload_n d_X12_init_768 rfl) ?_
  refine xa_step (xa_iconst d_X12_init_769 xq_i_4) ?_
  refine xa_newarr 0 .int (by decide) rfl xw_291 d_X12_init_770 (fun h173 _ => ?_)
  refine xa_putF2 (tg := xR) xc_12 (by decide) (fun _ => rfl) rfl rfl rfl (fun c hc => xa_fitA c hc) xw_1349 rfl d_X12_init_772 (fun h174 _ => ?_)
  refine xa_step (xa_aload_n d_X12_init_775 rfl) ?_
  refine xa_step (xa_sipush d_X12_init_776 xq_s_3200) ?_
  refine xa_newarr 0 .int (by decide) rfl xw_291 d_X12_init_779 (fun h175 _ => ?_)
  refine xa_putF2 (tg := xR) xc_12 (by decide) (fun _ => rfl) rfl rfl rfl (fun c hc => xa_fitA c hc) xw_1350 rfl d_X12_init_781 (fun h176 _ => ?_)
  refine xa_step (xa_aload_n d_X12_init_784 rfl) ?_
  refine xa_step (xa_sipush d_X12_init_785 xq_s_176) ?_
  refine xa_newarr 0 .int (by decide) rfl xw_291 d_X12_init_788 (fun h177 _ => ?_)
  refine xa_putF2 (tg := xR) xc_12 (by decide) (fun _ => rfl) rfl rfl rfl (fun c hc => xa_fitA c hc) xw_1354 rfl d_X12_init_790 (fun h178 _ => ?_)
  refine xa_step (xa_aload_n d_X12_init_793 rfl) ?_
  refine xa_step (xa_bipush d_X12_init_794 xq_b_6) ?_
  refine xa_newarr 0 .int (by decide) rfl xw_291 d_X12_init_796 (fun h179 _ => ?_)
  refine xa_putF2 (tg := xR) xc_12 (by decide) (fun _ => rfl) rfl rfl rfl (fun c hc => xa_fitA c hc) xw_1359 rfl d_X12_init_798 (fun h180 _ => ?_)
  refine xa_step (xa_aload_n d_X12_init_801 rfl) ?_
  refine xa_step (xa_bipush d_X12_init_802 xq_b_6) ?_
  refine xa_newarr 0 .int (by decide) rfl xw_291 d_X12_init_804 (fun h181 _ => ?_)
  refine xa_putF2 (tg := xR) xc_12 (by decide) (fun _ => rfl) rfl rfl rfl (fun c hc => xa_fitA c hc) xw_1362 rfl d_X12_init_806 (fun h182 _ => ?_)
  refine xa_step (xa_aload_n d_X12_init_809 rfl) ?_
  refine xa_step (xa_bipush d_X12_init_810 xq_b_6) ?_
  refine xa_newarr 0 .int (by decide) rfl xw_291 d_X12_init_812 (fun h183 _ => ?_)
  refine xa_putF2 (tg := xR) xc_12 (by decide) (fun _ => rfl) rfl rfl rfl (fun c hc => xa_fitA c hc) xw_1363 rfl d_X12_init_814 (fun h184 _ => ?_)
  refine xa_step (xa_aload_n d_X12_init_817 rfl) ?_
  refine xa_step (xa_ldc (c32 := 46656) (v := 46656) (by decide +kernel) xw_1303 d_X12_init_818) ?_
  refine xa_newarr 0 .int (by decide) rfl xw_291 d_X12_init_820 (fun h185 _ => ?_)
  refine xa_putF2 (tg := xR) xc_12 (by decide) (fun _ => rfl) rfl rfl rfl (fun c hc => xa_fitA c hc) xw_1367 rfl d_X12_init_822 (fun h186 _ => ?_)
  refine xa_step (xa_aload_n d_X12_init_825 rfl) ?_
  refine xa_step (xa_sipush d_X12_init_826 xq_s_720) ?_
  refine xa_newarr 0 .int (by decide) rfl xw_291 d_X12_init_829 (fun h187 _ => ?_)
  refine xa_putF2 (tg := xR) xc_12 (by decide) (fun _ => rfl) rfl rfl rfl (fun c hc => xa_fitA c hc) xw_1368 rfl d_X12_init_831 (fun h188 _ => ?_)
  refine xa_step (xa_aload_n d_X12_init_834 rfl) ?_
  refine xa_step (xa_bipush d_X12_init_835 xq_b_6) ?_
  refine xa_newarr 0 .int (by decide) rfl xw_291 d_X12_init_837 (fun h189 _ => ?_)
  refine xa_putF2 (tg := xR) xc_12 (by decide) (fun _ => rfl) rfl rfl rfl (fun c hc => xa_fitA c hc) xw_1370 rfl d_X12_init_839 (fun h190 _ => ?_)
  refine xa_step (xa_aload_n d_X12_init_842 rfl) ?_
  refine xa_step (xa_bipush d_X12_init_843 xq_b_6) ?_
  refine xa_newarr 0 .int (by decide) rfl xw_291 d_X12_init_845 (fun h191 _ => ?_)
  refine xa_putF2 (tg := xR) xc_12 (by decide) (fun _ => rfl) rfl rfl rfl (fun c hc => xa_fitA c hc) xw_1371 rfl d_X12_init_847 (fun h192 _ => ?_)
  refine xa_step (xa_aload_n d_X12_init_850 rfl) ?_
  refine xa_step (xa_bipush d_X12_init_851 xq_b_6) ?_
  refine xa_newarr 0 .int (by decide) rfl xw_291 d_X12_init_853 (fun h193 _ => ?_)
  refine xa_putF2 (tg := xR) xc_12 (by decide) (fun _ => rfl) rfl rfl rfl (fun c hc => xa_fitA c hc) xw_1372 rfl d_X12_init_855 (fun h194 _ => ?_)
  refine xa_step (xa_aload_n d_X12_init_858 rfl) ?_
  refine xa_step (xa_bipush d_X12_init_859 xq_b_6) ?_
  refine xa_newarr 0 .int (by decide) rfl xw_291 d_X12_init_861 (fun h195 _ => ?_)
  refine xa_putF2 (tg := xR) xc_12 (by decide) (fun _ => rfl) rfl rfl rfl (fun c hc => xa_fitA c hc) xw_1373 rfl d_X12_init_863 (fun h196 _ => ?_)
  refine xa_step (xa_aload_n d_X12_init_866 rfl) ?_
  refine xa_step (xa_bipush d_X12_init_867 xq_b_60) ?_
  refine xa_newarr 0 .int (by decide) rfl xw_291 d_X12_init_869 (fun h197 _ => ?_)
  refine xa_putF2 (tg := xR) xc_12 (by decide) (fun _ => rfl) rfl rfl rfl (fun c hc => xa_fitA c hc) xw_1375 rfl d_X12_init_871 (fun h198 _ => ?_)
  refine xa_step (xa_aload_n d_X12_init_874 rfl) ?_
  refine xa_step (xa_bipush d_X12_init_875 xq_b_36) ?_
  refine xa_newarr 0 .int (by decide) rfl xw_291 d_X12_init_877 (fun h199 _ => ?_)
  refine xa_putF2 (tg := xR) xc_12 (by decide) (fun _ => rfl) rfl rfl rfl (fun c hc => xa_fitA c hc) xw_1376 rfl d_X12_init_879 (fun h200 _ => ?_)
  refine xa_step (xa_aload_n d_X12_init_882 rfl) ?_
  refine xa_step (xa_sipush d_X12_init_883 xq_s_3520) ?_
  refine xa_newarr 0 .int (by decide) rfl xw_291 d_X12_init_886 (fun h201 _ => ?_)
  refine xa_putF2 (tg := xR) xc_12 (by decide) (fun _ => rfl) rfl rfl rfl (fun c hc => xa_fitA c hc) xw_1377 rfl d_X12_init_888 (fun h202 _ => ?_)
  refine xa_step (xa_aload_n d_X12_init_891 rfl) ?_
  refine xa_step (xa_lconst d_X12_init_892 rfl) ?_
  refine xa_putf2 (tg := xL) xc_12 (by decide) (fun _ => rfl) rfl (fun c hc => xa_fitL c hc) xw_1380 rfl d_X12_init_893 (fun h203 _ => ?_)
  refine xa_step (xa_aload_n d_X12_init_896 rfl) ?_
  refine xa_step (xa_iconst d_X12_init_897 xq_i_5) ?_
  refine xa_newarr 3 .char (by decide) rfl xw_1632 d_X12_init_898 (fun h204 _ => ?_)
  refine xa_step (xa_dup d_X12_init_900 (xa_tR _)) ?_
  refine xa_step (xa_iconst d_X12_init_901 xq_i_0) ?_
  refine xa_step (xa_bipush d_X12_init_902 xq_b_102) ?_
  refine xa_castore2 (by decide) d_X12_init_904 (fun h205 _ => ?_)
  refine xa_step (xa_dup d_X12_init_905 (xa_tR _)) ?_
  refine xa_step (xa_iconst d_X12_init_906 xq_i_1) ?_
  refine xa_step (xa_bipush d_X12_init_907 xq_b_105) ?_
  refine xa_castore2 (by decide) d_X12_init_909 (fun h206 _ => ?_)
  refine xa_step (xa_dup d_X12_init_910 (xa_tR _)) ?_
  refine xa_step (xa_iconst d_X12_init_911 xq_i_2) ?_
  refine xa_step (xa_bipush d_X12_init_912 xq_b_114) ?_
  refine xa_castore2 (by decide) d_X12_init_914 (fun h207 _ => ?_)
  refine xa_step (xa_dup d_X12_init_915 (xa_tR _)) ?_
  refine xa_step (xa_iconst d_X12_init_916 xq_i_3) ?_
  refine xa_step (xa_bipush d_X12_init_917 xq_b_115) ?_
  refine xa_castore2 (by decide) d_X12_init_919 (fun h208 _ => ?_)
  refine xa_step (xa_dup d_X12_init_920 (xa_tR _)) ?_
  refine xa_step (xa_iconst d_X12_init_921 xq_i_4) ?_
  refine xa_step (xa_bipush d_X12_init_922 xq_b_116) ?_
  refine xa_castore2 (by decide) d_X12_init_924 (fun h209 _ => ?_)
  refine xa_putF2 (tg := xR) xc_12 (by decide) (fun _ => rfl) rfl rfl rfl (fun c hc => xa_fitA c hc) xw_1381 rfl d_X12_init_925 (fun h210 _ => ?_)
  refine xa_step (xa_aload_n d_X12_init_928 rfl) ?_
  refine xa_step (xa_iconst d_X12_init_929 xq_i_4) ?_
  refine xa_newarr 3 .char (by decide) rfl xw_1632 d_X12_init_930 (fun h211 _ => ?_)
  refine xa_step (xa_dup d_X12_init_932 (xa_tR _)) ?_
  refine xa_step (xa_iconst d_X12_init_933 xq_i_0) ?_
  refine xa_step (xa_bipush d_X12_init_934 xq_b_108) ?_
  refine xa_castore2 (by decide) d_X12_init_936 (fun h212 _ => ?_)
  refine xa_step (xa_dup d_X12_init_937 (xa_tR _)) ?_
  refine xa_step (xa_iconst d_X12_init_938 xq_i_1) ?_
  refine xa_step (xa_bipush d_X12_init_939 xq_b_97) ?_
  refine xa_castore2 (by decide) d_X12_init_941 (fun h213 _ => ?_)
  refine xa_step (xa_dup d_X12_init_942 (xa_tR _)) ?_
  refine xa_step (xa_iconst d_X12_init_943 xq_i_2) ?_
  refine xa_step (xa_bipush d_X12_init_944 xq_b_115) ?_
  refine xa_castore2 (by decide) d_X12_init_946 (fun h214 _ => ?_)
  refine xa_step (xa_dup d_X12_init_947 (xa_tR _)) ?_
  refine xa_step (xa_iconst d_X12_init_948 xq_i_3) ?_
  refine xa_step (xa_bipush d_X12_init_949 xq_b_116) ?_
  refine xa_castore2 (by decide) d_X12_init_951 (fun h215 _ => ?_)
  refine xa_putF2 (tg := xR) xc_12 (by decide) (fun _ => rfl) rfl rfl rfl (fun c hc => xa_fitA c hc) xw_1382 rfl d_X12_init_952 (fun h216 _ => ?_)
  refine xa_step (xa_aload_n d_X12_init_955 rfl) ?_
  refine xa_step (xa_iconst d_X12_init_956 xq_i_5) ?_
  refine xa_newarr 3 .char (by decide) rfl xw_1632 d_X12_init_957 (fun h217 _ => ?_)
  refine xa_step (xa_dup d_X12_init_959 (xa_tR _)) ?_
  refine xa_step (xa_iconst d_X12_init_960 xq_i_0) ?_
  refine xa_step (xa_bipush d_X12_init_961 xq_b_111) ?_
  refine xa_castore2 (by decide) d_X12_init_963 (fun h218 _ => ?_)
  refine xa_step (xa_dup d_X12_init_964 (xa_tR _)) ?_
  refine xa_step (xa_iconst d_X12_init_965 xq_i_1) ?_
  refine xa_step (xa_bipush d_X12_init_966 xq_b_102) ?_
  refine xa_castore2 (by decide) d_X12_init_968 (fun h219 _ => ?_)
  refine xa_step (xa_dup d_X12_init_969 (xa_tR _)) ?_
  refine xa_step (xa_iconst d_X12_init_970 xq_i_2) ?_
  refine xa_step (xa_bipush d_X12_init_971 xq_b_116) ?_
  refine xa_castore2 (by decide) d_X12_init_973 (fun h220 _ => ?_)
  refine xa_step (xa_dup d_X12_init_974 (xa_tR _)) ?_
  refine xa_step (xa_iconst d_X12_init_975 xq_i_3) ?_
  refine xa_step (xa_bipush d_X12_init_976 xq_b_101) ?_
  refine xa_castore2 (by decide) d_X12_init_978 (fun h221 _ => ?_)
  refine xa_step (xa_dup d_X12_init_979 (xa_tR _)) ?_
  refine xa_step (xa_iconst d_X12_init_980 xq_i_4) ?_
  refine xa_step (xa_bipush d_X12_init_981 xq_b_110) ?_
  refine xa_castore2 (by decide) d_X12_init_983 (fun h222 _ => ?_)
  refine xa_putF2 (tg := xR) xc_12 (by decide) (fun _ => rfl) rfl rfl rfl (fun c hc => xa_fitA c hc) xw_1383 rfl d_X12_init_984 (fun h223 _ => ?_)
  refine xa_step (xa_aload_n d_X12_init_987 rfl) ?_
  refine xa_step (xa_iconst d_X12_init_988 xq_i_5) ?_
  refine xa_newarr 3 .char (by decide) rfl xw_1632 d_X12_init_989 (fun h224 _ => ?_)
  refine xa_step (xa_dup d_X12_init_991 (xa_tR _)) ?_
  refine xa_step (xa_iconst d_X12_init_992 xq_i_0) ?_
  refine xa_step (xa_bipush d_X12_init_993 xq_b_116) ?_
  refine xa_castore2 (by decide) d_X12_init_995 (fun h225 _ => ?_)
  refine xa_step (xa_dup d_X12_init_996 (xa_tR _)) ?_
  refine xa_step (xa_iconst d_X12_init_997 xq_i_1) ?_
  refine xa_step (xa_bipush d_X12_init_998 xq_b_111) ?_
  refine xa_castore2 (by decide) d_X12_init_1000 (fun h226 _ => ?_)
  refine xa_step (xa_dup d_X12_init_1001 (xa_tR _)) ?_
  refine xa_step (xa_iconst d_X12_init_1002 xq_i_2) ?_
  refine xa_step (xa_bipush d_X12_init_1003 xq_b_116) ?_
  refine xa_castore2 (by decide) d_X12_init_1005 (fun h227 _ => ?_)
  refine xa_step (xa_dup d_X12_init_1006 (xa_tR _)) ?_
  refine xa_step (xa_iconst d_X12_init_1007 xq_i_3) ?_
  refine xa_step (xa_bipush d_X12_init_1008 xq_b_97) ?_
  refine xa_castore2 (by decide) d_X12_init_1010 (fun h228 _ => ?_)
  refine xa_step (xa_dup d_X12_init_1011 (xa_tR _)) ?_
  refine xa_step (xa_iconst d_X12_init_1012 xq_i_4) ?_
  refine xa_step (xa_bipush d_X12_init_1013 xq_b_108) ?_
  refine xa_castore2 (by decide) d_X12_init_1015 (fun h229 _ => ?_)
  refine xa_putF2 (tg := xR) xc_12 (by decide) (fun _ => rfl) rfl rfl rfl (fun c hc => xa_fitA c hc) xw_1384 rfl d_X12_init_1016 (fun h230 _ => ?_)
  refine xa_step (xa_aload_n d_X12_init_1019 rfl) ?_
  refine xa_step (xa_iconst d_X12_init_1020 xq_i_4) ?_
  refine xa_newarr 3 .char (by decide) rfl xw_1632 d_X12_init_1021 (fun h231 _ => ?_)
  refine xa_step (xa_dup d_X12_init_1023 (xa_tR _)) ?_
  refine xa_step (xa_iconst d_X12_init_1024 xq_i_0) ?_
  refine xa_step (xa_bipush d_X12_init_1025 xq_b_109) ?_
  refine xa_castore2 (by decide) d_X12_init_1027 (fun h232 _ => ?_)
  refine xa_step (xa_dup d_X12_init_1028 (xa_tR _)) ?_
  refine xa_step (xa_iconst d_X12_init_1029 xq_i_1) ?_
  refine xa_step (xa_bipush d_X12_init_1030 xq_b_111) ?_
  refine xa_castore2 (by decide) d_X12_init_1032 (fun h233 _ => ?_)
  refine xa_step (xa_dup d_X12_init_1033 (xa_tR _)) ?_
  refine xa_step (xa_iconst d_X12_init_1034 xq_i_2) ?_
  refine xa_step (xa_bipush d_X12_init_1035 xq_b_115) ?_
  refine xa_castore2 (by decide) d_X12_init_1037 (fun h234 _ => ?_)
  refine xa_step (xa_dup d_X12_init_1038 (xa_tR _)) ?_
  refine xa_step (xa_iconst d_X12_init_1039 xq_i_3) ?_
  refine xa_step (xa_bipush d_X12_init_1040 xq_b_116) ?_
  refine xa_castore2 (by decide) d_X12_init_1042 (fun h235 _ => ?_)
  refine xa_putF2 (tg := xR) xc_12 (by decide) (fun _ => rfl) rfl rfl rfl (fun c hc => xa_fitA c hc) xw_1385 rfl d_X12_init_1043 (fun h236 _ => ?_)
  refine xa_step (xa_aload_n d_X12_init_1046 rfl) ?_
  refine xa_step (xa_iconst d_X12_init_1047 xq_i_5) ?_
  refine xa_newarr 3 .char (by decide) rfl xw_1632 d_X12_init_1048 (fun h237 _ => ?_)
  refine xa_step (xa_dup d_X12_init_1050 (xa_tR _)) ?_
  refine xa_step (xa_iconst d_X12_init_1051 xq_i_0) ?_
  refine xa_step (xa_bipush d_X12_init_1052 xq_b_108) ?_
  refine xa_castore2 (by decide) d_X12_init_1054 (fun h238 _ => ?_)
  refine xa_step (xa_dup d_X12_init_1055 (xa_tR _)) ?_
  refine xa_step (xa_iconst d_X12_init_1056 xq_i_1) ?_
  refine xa_step (xa_bipush d_X12_init_1057 xq_b_101) ?_
  refine xa_castore2 (by decide) d_X12_init_1059 (fun h239 _ => ?_)
  refine xa_step (xa_dup d_X12_init_1060 (xa_tR _)) ?_
  refine xa_step (xa_iconst d_X12_init_1061 xq_i_2) ?_
  refine xa_step (xa_bipush d_X12_init_1062 xq_b_97) ?_
  refine xa_castore2 (by decide) d_X12_init_1064 (fun h240 _ => ?_)
  refine xa_step (xa_dup d_X12_init_1065 (xa_tR _)) ?_
  refine xa_step (xa_iconst d_X12_init_1066 xq_i_3) ?_
  refine xa_step (xa_bipush d_X12_init_1067 xq_b_115) ?_
  refine xa_castore2 (by decide) d_X12_init_1069 (fun h241 _ => ?_)
  refine xa_step (xa_dup d_X12_init_1070 (xa_tR _)) ?_
  refine xa_step (xa_iconst d_X12_init_1071 xq_i_4) ?_
  refine xa_step (xa_bipush d_X12_init_1072 xq_b_116) ?_
  refine xa_castore2 (by decide) d_X12_init_1074 (fun h242 _ => ?_)
  refine xa_putF2 (tg := xR) xc_12 (by decide) (fun _ => rfl) rfl rfl rfl (fun c hc => xa_fitA c hc) xw_1386 rfl d_X12_init_1075 (fun h243 _ => ?_)
  refine xa_step (xa_aload_n d_X12_init_1078 rfl) ?_
  refine xa_step (xa_iconst d_X12_init_1079 xq_i_3) ?_
  refine xa_newarr 3 .char (by decide) rfl xw_1632 d_X12_init_1080 (fun h244 _ => ?_)
  refine xa_step (xa_dup d_X12_init_1082 (xa_tR _)) ?_
  refine xa_step (xa_iconst d_X12_init_1083 xq_i_0) ?_
  refine xa_step (xa_bipush d_X12_init_1084 xq_b_110) ?_
  refine xa_castore2 (by decide) d_X12_init_1086 (fun h245 _ => ?_)
  refine xa_step (xa_dup d_X12_init_1087 (xa_tR _)) ?_
  refine xa_step (xa_iconst d_X12_init_1088 xq_i_1) ?_
  refine xa_step (xa_bipush d_X12_init_1089 xq_b_111) ?_
  refine xa_castore2 (by decide) d_X12_init_1091 (fun h246 _ => ?_)
  refine xa_step (xa_dup d_X12_init_1092 (xa_tR _)) ?_
  refine xa_step (xa_iconst d_X12_init_1093 xq_i_2) ?_
  refine xa_step (xa_bipush d_X12_init_1094 xq_b_116) ?_
  refine xa_castore2 (by decide) d_X12_init_1096 (fun h247 _ => ?_)
  refine xa_putF2 (tg := xR) xc_12 (by decide) (fun _ => rfl) rfl rfl rfl (fun c hc => xa_fitA c hc) xw_1387 rfl d_X12_init_1097 (fun h248 _ => ?_)
  refine xa_step (xa_aload_n d_X12_init_1100 rfl) ?_
  refine xa_step (xa_iconst d_X12_init_1101 xq_i_3) ?_
  refine xa_newarr 3 .char (by decide) rfl xw_1632 d_X12_init_1102 (fun h249 _ => ?_)
  refine xa_step (xa_dup d_X12_init_1104 (xa_tR _)) ?_
  refine xa_step (xa_iconst d_X12_init_1105 xq_i_0) ?_
  refine xa_step (xa_bipush d_X12_init_1106 xq_b_97) ?_
  refine xa_castore2 (by decide) d_X12_init_1108 (fun h250 _ => ?_)
  refine xa_step (xa_dup d_X12_init_1109 (xa_tR _)) ?_
  refine xa_step (xa_iconst d_X12_init_1110 xq_i_1) ?_
  refine xa_step (xa_bipush d_X12_init_1111 xq_b_110) ?_
  refine xa_castore2 (by decide) d_X12_init_1113 (fun h251 _ => ?_)
  refine xa_step (xa_dup d_X12_init_1114 (xa_tR _)) ?_
  refine xa_step (xa_iconst d_X12_init_1115 xq_i_2) ?_
  refine xa_step (xa_bipush d_X12_init_1116 xq_b_100) ?_
  refine xa_castore2 (by decide) d_X12_init_1118 (fun h252 _ => ?_)
  refine xa_putF2 (tg := xR) xc_12 (by decide) (fun _ => rfl) rfl rfl rfl (fun c hc => xa_fitA c hc) xw_1388 rfl d_X12_init_1119 (fun h253 _ => ?_)
  refine xa_step (xa_aload_n d_X12_init_1122 rfl) ?_
  refine xa_step (xa_iconst d_X12_init_1123 xq_i_2) ?_
  refine xa_newarr 3 .char (by decide) rfl xw_1632 d_X12_init_1124 (fun h254 _ => ?_)
  refine xa_step (xa_dup d_X12_init_1126 (xa_tR _)) ?_
  refine xa_step (xa_iconst d_X12_init_1127 xq_i_0) ?_
  refine xa_step (xa_bipush d_X12_init_1128 xq_b_111) ?_
  refine xa_castore2 (by decide) d_X12_init_1130 (fun h255 _ => ?_)
  refine xa_step (xa_dup d_X12_init_1131 (xa_tR _)) ?_
  refine xa_step (xa_iconst d_X12_init_1132 xq_i_1) ?_
  refine xa_step (xa_bipush d_X12_init_1133 xq_b_114) ?_
  refine xa_castore2 (by decide) d_X12_init_1135 (fun h256 _ => ?_)
  refine xa_putF2 (tg := xR) xc_12 (by decide) (fun _ => rfl) rfl rfl rfl (fun c hc => xa_fitA c hc) xw_1389 rfl d_X12_init_1136 (fun h257 _ => ?_)
  refine xa_step (xa_aload_n d_X12_init_1139 rfl) ?_
  refine xa_step (xa_iconst d_X12_init_1140 xq_i_3) ?_
  refine xa_newarr 3 .char (by decide) rfl xw_1632 d_X12_init_1141 (fun h258 _ => ?_)
  refine xa_step (xa_dup d_X12_init_1143 (xa_tR _)) ?_
  refine xa_step (xa_iconst d_X12_init_1144 xq_i_0) ?_
  refine xa_step (xa_bipush d_X12_init_1145 xq_b_97) ?_
  refine xa_castore2 (by decide) d_X12_init_1147 (fun h259 _ => ?_)
  refine xa_step (xa_dup d_X12_init_1148 (xa_tR _)) ?_
  refine xa_step (xa_iconst d_X12_init_1149 xq_i_1) ?_
  refine xa_step (xa_bipush d_X12_init_1150 xq_b_108) ?_
  refine xa_castore2 (by decide) d_X12_init_1152 (fun h260 _ => ?_)
  refine xa_step (xa_dup d_X12_init_1153 (xa_tR _)) ?_
  refine xa_step (xa_iconst d_X12_init_1154 xq_i_2) ?_
  refine xa_step (xa_bipush d_X12_init_1155 xq_b_108) ?_
  refine xa_castore2 (by decide) d_X12_init_1157 (fun h261 _ => ?_)
  refine xa_putF2 (tg := xR) xc_12 (by decide) (fun _ => rfl) rfl rfl rfl (fun c hc => xa_fitA c hc) xw_1390 rfl d_X12_init_1158 (fun h262 _ => ?_)
  refine xa_step (xa_aload_n d_X12_init_1161 rfl) ?_
  refine xa_step (xa_iconst d_X12_init_1162 xq_i_3) ?_
  refine xa_newarr 3 .char (by decide) rfl xw_1632 d_X12_init_1163 (fun h263 _ => ?_)
  refine xa_step (xa_dup d_X12_init_1165 (xa_tR _)) ?_
  refine xa_step (xa_iconst d_X12_init_1166 xq_i_0) ?_
  refine xa_step (xa_bipush d_X12_init_1167 xq_b_109) ?_
  refine xa_castore2 (by decide) d_X12_init_1169 (fun h264 _ => ?_)
  refine xa_step (xa_dup d_X12_init_1170 (xa_tR _)) ?_
  refine xa_step (xa_iconst d_X12_init_1171 xq_i_1) ?_
  refine xa_step (xa_bipush d_X12_init_1172 xq_b_105) ?_
  refine xa_castore2 (by decide) d_X12_init_1174 (fun h265 _ => ?_)
  refine xa_step (xa_dup d_X12_init_1175 (xa_tR _)) ?_
  refine xa_step (xa_iconst d_X12_init_1176 xq_i_2) ?_
  refine xa_step (xa_bipush d_X12_init_1177 xq_b_110) ?_
  refine xa_castore2 (by decide) d_X12_init_1179 (fun h266 _ => ?_)
  refine xa_putF2 (tg := xR) xc_12 (by decide) (fun _ => rfl) rfl rfl rfl (fun c hc => xa_fitA c hc) xw_1391 rfl d_X12_init_1180 (fun h267 _ => ?_)
  refine xa_step (xa_aload_n d_X12_init_1183 rfl) ?_
  refine xa_step (xa_iconst d_X12_init_1184 xq_i_3) ?_
  refine xa_newarr 3 .char (by decide) rfl xw_1632 d_X12_init_1185 (fun h268 _ => ?_)
  refine xa_step (xa_dup d_X12_init_1187 (xa_tR _)) ?_
  refine xa_step (xa_iconst d_X12_init_1188 xq_i_0) ?_
  refine xa_step (xa_bipush d_X12_init_1189 xq_b_109) ?_
  refine xa_castore2 (by decide) d_X12_init_1191 (fun h269 _ => ?_)
  refine xa_step (xa_dup d_X12_init_1192 (xa_tR _)) ?_
  refine xa_step (xa_iconst d_X12_init_1193 xq_i_1) ?_
  refine xa_step (xa_bipush d_X12_init_1194 xq_b_97) ?_
  refine xa_castore2 (by decide) d_X12_init_1196 (fun h270 _ => ?_)
  refine xa_step (xa_dup d_X12_init_1197 (xa_tR _)) ?_
  refine xa_step (xa_iconst d_X12_init_1198 xq_i_2) ?_
  refine xa_step (xa_bipush d_X12_init_1199 xq_b_120) ?_
  refine xa_castore2 (by decide) d_X12_init_1201 (fun h271 _ => ?_)
  refine xa_putF2 (tg := xR) xc_12 (by decide) (fun _ => rfl) rfl rfl rfl (fun c hc => xa_fitA c hc) xw_1392 rfl d_X12_init_1202 (fun h272 _ => ?_)
  refine xa_step (xa_aload_n d_X12_init_1205 rfl) ?_
  refine xa_step (xa_iconst d_X12_init_1206 xq_i_4) ?_
  refine xa_newarr 3 .char (by decide) rfl xw_1632 d_X12_init_1207 (fun h273 _ => ?_)
  refine xa_step (xa_dup d_X12_init_1209 (xa_tR _)) ?_
  refine xa_step (xa_iconst d_X12_init_1210 xq_i_0) ?_
  refine xa_step (xa_bipush d_X12_init_1211 xq_b_103) ?_
  refine xa_castore2 (by decide) d_X12_init_1213 (fun h274 _ => ?_)
  refine xa_step (xa_dup d_X12_init_1214 (xa_tR _)) ?_
  refine xa_step (xa_iconst d_X12_init_1215 xq_i_1) ?_
  refine xa_step (xa_bipush d_X12_init_1216 xq_b_101) ?_
  refine xa_castore2 (by decide) d_X12_init_1218 (fun h275 _ => ?_)
  refine xa_step (xa_dup d_X12_init_1219 (xa_tR _)) ?_
  refine xa_step (xa_iconst d_X12_init_1220 xq_i_2) ?_
  refine xa_step (xa_bipush d_X12_init_1221 xq_b_116) ?_
  refine xa_castore2 (by decide) d_X12_init_1223 (fun h276 _ => ?_)
  refine xa_step (xa_dup d_X12_init_1224 (xa_tR _)) ?_
  refine xa_step (xa_iconst d_X12_init_1225 xq_i_3) ?_
  refine xa_step (xa_bipush d_X12_init_1226 xq_b_115) ?_
  refine xa_castore2 (by decide) d_X12_init_1228 (fun h277 _ => ?_)
  refine xa_putF2 (tg := xR) xc_12 (by decide) (fun _ => rfl) rfl rfl rfl (fun c hc => xa_fitA c hc) xw_1393 rfl d_X12_init_1229 (fun h278 _ => ?_)
  refine xa_step (xa_aload_n d_X12_init_1232 rfl) ?_
  refine xa_step (xa_iconst d_X12_init_1233 xq_i_5) ?_
  refine xa_newarr 3 .char (by decide) rfl xw_1632 d_X12_init_1234 (fun h279 _ => ?_)
  refine xa_step (xa_dup d_X12_init_1236 (xa_tR _)) ?_
  refine xa_step (xa_iconst d_X12_init_1237 xq_i_0) ?_
  refine xa_step (xa_bipush d_X12_init_1238 xq_b_103) ?_
  refine xa_castore2 (by decide) d_X12_init_1240 (fun h280 _ => ?_)
  refine xa_step (xa_dup d_X12_init_1241 (xa_tR _)) ?_
  refine xa_step (xa_iconst d_X12_init_1242 xq_i_1) ?_
  refine xa_step (xa_bipush d_X12_init_1243 xq_b_105) ?_
  refine xa_castore2 (by decide) d_X12_init_1245 (fun h281 _ => ?_)
  refine xa_step (xa_dup d_X12_init_1246 (xa_tR _)) ?_
  refine xa_step (xa_iconst d_X12_init_1247 xq_i_2) ?_
  refine xa_step (xa_bipush d_X12_init_1248 xq_b_118) ?_
  refine xa_castore2 (by decide) d_X12_init_1250 (fun h282 _ => ?_)
  refine xa_step (xa_dup d_X12_init_1251 (xa_tR _)) ?_
  refine xa_step (xa_iconst d_X12_init_1252 xq_i_3) ?_
  refine xa_step (xa_bipush d_X12_init_1253 xq_b_101) ?_
  refine xa_castore2 (by decide) d_X12_init_1255 (fun h283 _ => ?_)
  refine xa_step (xa_dup d_X12_init_1256 (xa_tR _)) ?_
  refine xa_step (xa_iconst d_X12_init_1257 xq_i_4) ?_
  refine xa_step (xa_bipush d_X12_init_1258 xq_b_115) ?_
  refine xa_castore2 (by decide) d_X12_init_1260 (fun h284 _ => ?_)
  refine xa_putF2 (tg := xR) xc_12 (by decide) (fun _ => rfl) rfl rfl rfl (fun c hc => xa_fitA c hc) xw_1394 rfl d_X12_init_1261 (fun h285 _ => ?_)
  refine xa_step (xa_aload_n d_X12_init_1264 rfl) ?_
  refine xa_step (xa_iconst d_X12_init_1265 xq_i_5) ?_
  refine xa_newarr 3 .char (by decide) rfl xw_1632 d_X12_init_1266 (fun h286 _ => ?_)
  refine xa_step (xa_dup d_X12_init_1268 (xa_tR _)) ?_
  refine xa_step (xa_iconst d_X12_init_1269 xq_i_0) ?_
  refine xa_step (xa_bipush d_X12_init_1270 xq_b_119) ?_
  refine xa_castore2 (by decide) d_X12_init_1272 (fun h287 _ => ?_)
  refine xa_step (xa_dup d_X12_init_1273 (xa_tR _)) ?_
  refine xa_step (xa_iconst d_X12_init_1274 xq_i_1) ?_
  refine xa_step (xa_bipush d_X12_init_1275 xq_b_97) ?_
  refine xa_castore2 (by decide) d_X12_init_1277 (fun h288 _ => ?_)
  refine xa_step (xa_dup d_X12_init_1278 (xa_tR _)) ?_
  refine xa_step (xa_iconst d_X12_init_1279 xq_i_2) ?_
  refine xa_step (xa_bipush d_X12_init_1280 xq_b_110) ?_
  refine xa_castore2 (by decide) d_X12_init_1282 (fun h289 _ => ?_)
  refine xa_step (xa_dup d_X12_init_1283 (xa_tR _)) ?_
  refine xa_step (xa_iconst d_X12_init_1284 xq_i_3) ?_
  refine xa_step (xa_bipush d_X12_init_1285 xq_b_116) ?_
  refine xa_castore2 (by decide) d_X12_init_1287 (fun h290 _ => ?_)
  refine xa_step (xa_dup d_X12_init_1288 (xa_tR _)) ?_
  refine xa_step (xa_iconst d_X12_init_1289 xq_i_4) ?_
  refine xa_step (xa_bipush d_X12_init_1290 xq_b_115) ?_
  refine xa_castore2 (by decide) d_X12_init_1292 (fun h291 _ => ?_)
  refine xa_putF2 (tg := xR) xc_12 (by decide) (fun _ => rfl) rfl rfl rfl (fun c hc => xa_fitA c hc) xw_1395 rfl d_X12_init_1293 (fun h292 _ => ?_)
  refine xa_step (xa_aload_n d_X12_init_1296 rfl) ?_
  refine xa_step (xa_iconst d_X12_init_1297 xq_i_4) ?_
  refine xa_newarr 3 .char (by decide) rfl xw_1632 d_X12_init_1298 (fun h293 _ => ?_)
  refine xa_step (xa_dup d_X12_init_1300 (xa_tR _)) ?_
  refine xa_step (xa_iconst d_X12_init_1301 xq_i_0) ?_
  refine xa_step (xa_bipush d_X12_init_1302 xq_b_115) ?_
  refine xa_castore2 (by decide) d_X12_init_1304 (fun h294 _ => ?_)
  refine xa_step (xa_dup d_X12_init_1305 (xa_tR _)) ?_
  refine xa_step (xa_iconst d_X12_init_1306 xq_i_1) ?_
  refine xa_step (xa_bipush d_X12_init_1307 xq_b_97) ?_
  refine xa_castore2 (by decide) d_X12_init_1309 (fun h295 _ => ?_)
  refine xa_step (xa_dup d_X12_init_1310 (xa_tR _)) ?_
  refine xa_step (xa_iconst d_X12_init_1311 xq_i_2) ?_
  refine xa_step (xa_bipush d_X12_init_1312 xq_b_108) ?_
  refine xa_castore2 (by decide) d_X12_init_1314 (fun h296 _ => ?_)
  refine xa_step (xa_dup d_X12_init_1315 (xa_tR _)) ?_
  refine xa_step (xa_iconst d_X12_init_1316 xq_i_3) ?_
  refine xa_step (xa_bipush d_X12_init_1317 xq_b_116) ?_
  refine xa_castore2 (by decide) d_X12_init_1319 (fun h297 _ => ?_)
  refine xa_putF2 (tg := xR) xc_12 (by decide) (fun _ => rfl) rfl rfl rfl (fun c hc => xa_fitA c hc) xw_1396 rfl d_X12_init_1320 (fun h298 _ => ?_)
  refine xa_step (xa_aload_n d_X12_init_1323 rfl) ?_
  refine xa_step (xa_iconst d_X12_init_1324 xq_i_3) ?_
  refine xa_newarr 3 .char (by decide) rfl xw_1632 d_X12_init_1325 (fun h299 _ => ?_)
  refine xa_step (xa_dup d_X12_init_1327 (xa_tR _)) ?_
  refine xa_step (xa_iconst d_X12_init_1328 xq_i_0) ?_
  refine xa_step (xa_bipush d_X12_init_1329 xq_b_109) ?_
  refine xa_castore2 (by decide) d_X12_init_1331 (fun h300 _ => ?_)
  refine xa_step (xa_dup d_X12_init_1332 (xa_tR _)) ?_
  refine xa_step (xa_iconst d_X12_init_1333 xq_i_1) ?_
  refine xa_step (xa_bipush d_X12_init_1334 xq_b_101) ?_
  refine xa_castore2 (by decide) d_X12_init_1336 (fun h301 _ => ?_)
  refine xa_step (xa_dup d_X12_init_1337 (xa_tR _)) ?_
  refine xa_step (xa_iconst d_X12_init_1338 xq_i_2) ?_
  refine xa_step (xa_bipush d_X12_init_1339 xq_b_116) ?_
  refine xa_castore2 (by decide) d_X12_init_1341 (fun h302 _ => ?_)
  refine xa_putF2 (tg := xR) xc_12 (by decide) (fun _ => rfl) rfl rfl rfl (fun c hc => xa_fitA c hc) xw_1397 rfl d_X12_init_1342 (fun h303 _ => ?_)
  refine xa_step (xa_aload_n d_X12_init_1345 rfl) ?_
  refine xa_step (xa_iconst d_X12_init_1346 xq_i_5) ?_
  refine xa_newarr 3 .char (by decide) rfl xw_1632 d_X12_init_1347 (fun h304 _ => ?_)
  refine xa_step (xa_dup d_X12_init_1349 (xa_tR _)) ?_
  refine xa_step (xa_iconst d_X12_init_1350 xq_i_0) ?_
  refine xa_step (xa_bipush d_X12_init_1351 xq_b_112) ?_
  refine xa_castore2 (by decide) d_X12_init_1353 (fun h305 _ => ?_)
  refine xa_step (xa_dup d_X12_init_1354 (xa_tR _)) ?_
  refine xa_step (xa_iconst d_X12_init_1355 xq_i_1) ?_
  refine xa_step (xa_bipush d_X12_init_1356 xq_b_117) ?_
  refine xa_castore2 (by decide) d_X12_init_1358 (fun h306 _ => ?_)
  refine xa_step (xa_dup d_X12_init_1359 (xa_tR _)) ?_
  refine xa_step (xa_iconst d_X12_init_1360 xq_i_2) ?_
  refine xa_step (xa_bipush d_X12_init_1361 xq_b_114) ?_
  refine xa_castore2 (by decide) d_X12_init_1363 (fun h307 _ => ?_)
  refine xa_step (xa_dup d_X12_init_1364 (xa_tR _)) ?_
  refine xa_step (xa_iconst d_X12_init_1365 xq_i_3) ?_
  refine xa_step (xa_bipush d_X12_init_1366 xq_b_115) ?_
  refine xa_castore2 (by decide) d_X12_init_1368 (fun h308 _ => ?_)
  refine xa_step (xa_dup d_X12_init_1369 (xa_tR _)) ?_
  refine xa_step (xa_iconst d_X12_init_1370 xq_i_4) ?_
  refine xa_step (xa_bipush d_X12_init_1371 xq_b_101) ?_
  refine xa_castore2 (by decide) d_X12_init_1373 (fun h309 _ => ?_)
  refine xa_putF2 (tg := xR) xc_12 (by decide) (fun _ => rfl) rfl rfl rfl (fun c hc => xa_fitA c hc) xw_1398 rfl d_X12_init_1374 (fun h310 _ => ?_)
  refine xa_step (xa_aload_n d_X12_init_1377 rfl) ?_
  refine xa_step (xa_iconst d_X12_init_1378 xq_i_5) ?_
  refine xa_newarr 3 .char (by decide) rfl xw_1632 d_X12_init_1379 (fun h311 _ => ?_)
  refine xa_step (xa_dup d_X12_init_1381 (xa_tR _)) ?_
  refine xa_step (xa_iconst d_X12_init_1382 xq_i_0) ?_
  refine xa_step (xa_bipush d_X12_init_1383 xq_b_110) ?_
  refine xa_castore2 (by decide) d_X12_init_1385 (fun h312 _ => ?_)
  refine xa_step (xa_dup d_X12_init_1386 (xa_tR _)) ?_
  refine xa_step (xa_iconst d_X12_init_1387 xq_i_1) ?_
  refine xa_step (xa_bipush d_X12_init_1388 xq_b_105) ?_
  refine xa_castore2 (by decide) d_X12_init_1390 (fun h313 _ => ?_)
  refine xa_step (xa_dup d_X12_init_1391 (xa_tR _)) ?_
  refine xa_step (xa_iconst d_X12_init_1392 xq_i_2) ?_
  refine xa_step (xa_bipush d_X12_init_1393 xq_b_103) ?_
  refine xa_castore2 (by decide) d_X12_init_1395 (fun h314 _ => ?_)
  refine xa_step (xa_dup d_X12_init_1396 (xa_tR _)) ?_
  refine xa_step (xa_iconst d_X12_init_1397 xq_i_3) ?_
  refine xa_step (xa_bipush d_X12_init_1398 xq_b_104) ?_
  refine xa_castore2 (by decide) d_X12_init_1400 (fun h315 _ => ?_)
  refine xa_step (xa_dup d_X12_init_1401 (xa_tR _)) ?_
  refine xa_step (xa_iconst d_X12_init_1402 xq_i_4) ?_
  refine xa_step (xa_bipush d_X12_init_1403 xq_b_116) ?_
  refine xa_castore2 (by decide) d_X12_init_1405 (fun h316 _ => ?_)
  refine xa_putF2 (tg := xR) xc_12 (by decide) (fun _ => rfl) rfl rfl rfl (fun c hc => xa_fitA c hc) xw_1399 rfl d_X12_init_1406 (fun h317 _ => ?_)
  refine xa_step (xa_aload_n d_X12_init_1409 rfl) ?_
  refine xa_step (xa_bipush d_X12_init_1410 xq_b_6) ?_
  refine xa_newarr 3 .char (by decide) rfl xw_1632 d_X12_init_1412 (fun h318 _ => ?_)
  refine xa_step (xa_dup d_X12_init_1414 (xa_tR _)) ?_
  refine xa_step (xa_iconst d_X12_init_1415 xq_i_0) ?_
  refine xa_step (xa_bipush d_X12_init_1416 xq_b_110) ?_
  refine xa_castore2 (by decide) d_X12_init_1418 (fun h319 _ => ?_)
  refine xa_step (xa_dup d_X12_init_1419 (xa_tR _)) ?_
  refine xa_step (xa_iconst d_X12_init_1420 xq_i_1) ?_
  refine xa_step (xa_bipush d_X12_init_1421 xq_b_117) ?_
  refine xa_castore2 (by decide) d_X12_init_1423 (fun h320 _ => ?_)
  refine xa_step (xa_dup d_X12_init_1424 (xa_tR _)) ?_
  refine xa_step (xa_iconst d_X12_init_1425 xq_i_2) ?_
  refine xa_step (xa_bipush d_X12_init_1426 xq_b_109) ?_
  refine xa_castore2 (by decide) d_X12_init_1428 (fun h321 _ => ?_)
  refine xa_step (xa_dup d_X12_init_1429 (xa_tR _)) ?_
  refine xa_step (xa_iconst d_X12_init_1430 xq_i_3) ?_
  refine xa_step (xa_bipush d_X12_init_1431 xq_b_98) ?_
  refine xa_castore2 (by decide) d_X12_init_1433 (fun h322 _ => ?_)
  refine xa_step (xa_dup d_X12_init_1434 (xa_tR _)) ?_
  refine xa_step (xa_iconst d_X12_init_1435 xq_i_4) ?_
  refine xa_step (xa_bipush d_X12_init_1436 xq_b_101) ?_
  refine xa_castore2 (by decide) d_X12_init_1438 (fun h323 _ => ?_)
  refine xa_step (xa_dup d_X12_init_1439 (xa_tR _)) ?_
  refine xa_step (xa_iconst d_X12_init_1440 xq_i_5) ?_
  refine xa_step (xa_bipush d_X12_init_1441 xq_b_114) ?_
  refine xa_castore2 (by decide) d_X12_init_1443 (fun h324 _ => ?_)
  refine xa_putF2 (tg := xR) xc_12 (by decide) (fun _ => rfl) rfl rfl rfl (fun c hc => xa_fitA c hc) xw_1400 rfl d_X12_init_1444 (fun h325 _ => ?_)
  refine xa_step (xa_aload_n d_X12_init_1447 rfl) ?_
  refine xa_step (xa_sipush d_X12_init_1448 xq_s_1700) ?_
  refine xa_newarr 0 .int (by decide) rfl xw_291 d_X12_init_1451 (fun h326 _ => ?_)
  refine xa_putF2 (tg := xR) xc_12 (by decide) (fun _ => rfl) rfl rfl rfl (fun c hc => xa_fitA c hc) xw_1401 rfl d_X12_init_1453 (fun h327 _ => ?_)
  refine xa_step (xa_aload_n d_X12_init_1456 rfl) ?_
  refine xa_step (xa_sipush d_X12_init_1457 xq_s_1700) ?_
  refine xa_newarr 0 .int (by decide) rfl xw_291 d_X12_init_1460 (fun h328 _ => ?_)
  refine xa_putF2 (tg := xR) xc_12 (by decide) (fun _ => rfl) rfl rfl rfl (fun c hc => xa_fitA c hc) xw_1403 rfl d_X12_init_1462 (fun h329 _ => ?_)
  refine xa_step (xa_aload_n d_X12_init_1465 rfl) ?_
  refine xa_step (xa_sipush d_X12_init_1466 xq_s_1700) ?_
  refine xa_newarr 1 .long (by decide) rfl xw_1633 d_X12_init_1469 (fun h330 _ => ?_)
  refine xa_putF2 (tg := xR) xc_12 (by decide) (fun _ => rfl) rfl rfl rfl (fun c hc => xa_fitA c hc) xw_1407 rfl d_X12_init_1471 (fun h331 _ => ?_)
  refine xa_step (xa_aload_n d_X12_init_1474 rfl) ?_
  refine xa_step (xa_bipush d_X12_init_1475 xq_b_63) ?_
  refine xa_newarr 0 .int (by decide) rfl xw_291 d_X12_init_1477 (fun h332 _ => ?_)
  refine xa_putF2 (tg := xR) xc_12 (by decide) (fun _ => rfl) rfl rfl rfl (fun c hc => xa_fitA c hc) xw_1411 rfl d_X12_init_1479 (fun h333 _ => ?_)
  exact xa_vret d_X12_init_1482 rfl rfl
theorem ct_X12_init (l : Launch) (G : xa_C) (v0 : Int) (h : xa_H) (r : xa_H) (hr : f_X12_init v0 h = some r) : xa_CT l G 2 mX12_init yX12_init [xR v0] h (none, r) :=
  xa_met (by decide +kernel) rfl (fun q => by first | rfl | cases q) (Nat.le_of_ble_eq_true rfl) rfl (g_X12_init l G v0 h) (by rw [hr]; rfl)
abbrev mX12_fail : xa_M := (cX12_fail, 3, none, RX12, false)
theorem d_X12_fail_0 : decode mX12_fail.1 0 = .ok (.aload_n 0, 1) ∧ 0 + 1 = 1 := ⟨by decide +kernel, rfl⟩
theorem d_X12_fail_1 : decode mX12_fail.1 1 = .ok (.getfield 249, 3) ∧ 1 + 3 = 4 := ⟨by decide +kernel, rfl⟩
theorem d_X12_fail_4 : decode mX12_fail.1 4 = .ok (.ifCond .eq 4, 3) ∧ 4 + 3 = 7 ∧ ((4 : Nat) : Int) + 4 = ((8 : Nat) : Int) := ⟨by decide +kernel, rfl, rfl⟩
theorem d_X12_fail_8 : decode mX12_fail.1 8 = .ok (.aload_n 0, 1) ∧ 8 + 1 = 9 := ⟨by decide +kernel, rfl⟩
theorem d_X12_fail_9 : decode mX12_fail.1 9 = .ok (.iload_n 1, 1) ∧ 9 + 1 = 10 := ⟨by decide +kernel, rfl⟩
theorem d_X12_fail_10 : decode mX12_fail.1 10 = .ok (.putfield 249, 3) ∧ 10 + 3 = 13 := ⟨by decide +kernel, rfl⟩
theorem d_X12_fail_13 : decode mX12_fail.1 13 = .ok (.aload_n 0, 1) ∧ 13 + 1 = 14 := ⟨by decide +kernel, rfl⟩
theorem d_X12_fail_14 : decode mX12_fail.1 14 = .ok (.iload_n 2, 1) ∧ 14 + 1 = 15 := ⟨by decide +kernel, rfl⟩
theorem d_X12_fail_15 : decode mX12_fail.1 15 = .ok (.putfield 252, 3) ∧ 15 + 3 = 18 := ⟨by decide +kernel, rfl⟩
theorem d_X12_fail_18 : decode mX12_fail.1 18 = .ok (.return_, 1) := by decide +kernel
theorem d_X12_fail_7 : decode mX12_fail.1 7 = .ok (.return_, 1) := by decide +kernel
set_option maxRecDepth 100000 in
set_option maxHeartbeats 4000000 in
theorem g_X12_fail (l : Launch) (G : xa_C) (v0 v1 v2 : Int) (h : xa_H) : xa_G l G 2 mX12_fail (f_X12_fail v0 v1 v2 h) (fun r => some (none, r) : xa_H → Option xa_O) 0 [some (xR v0), some (xI v1), some (xI v2)] [] h := by
  unfold f_X12_fail
  refine xa_step (xa_aload_n d_X12_fail_0 rfl) ?_
  refine xa_getf xI xc_12 (by decide) (fun _ => rfl) xw_1309 rfl d_X12_fail_1 (fun x1 _ => ?_)
  refine xa_if (xa_ifeq d_X12_fail_4) (fun q2 => ?_) (fun q2 => ?_)
  · refine xa_step (xa_aload_n d_X12_fail_8 rfl) ?_
    refine xa_step (xa_iload_n d_X12_fail_9 rfl) ?_
    refine xa_putf2 (tg := xI) xc_12 (by decide) (fun _ => rfl) rfl (fun c hc => xa_fitI c hc) xw_1309 rfl d_X12_fail_10 (fun h3 _ => ?_)
    refine xa_step (xa_aload_n d_X12_fail_13 rfl) ?_
    refine xa_step (xa_iload_n d_X12_fail_14 rfl) ?_
    refine xa_putf2 (tg := xI) xc_12 (by decide) (fun _ => rfl) rfl (fun c hc => xa_fitI c hc) xw_1310 rfl d_X12_fail_15 (fun h4 _ => ?_)
    exact xa_vret d_X12_fail_18 rfl rfl
  · exact xa_vret d_X12_fail_7 rfl rfl
theorem ct_X12_fail (l : Launch) (G : xa_C) (v0 v1 v2 : Int) (h : xa_H) (r : xa_H) (hr : f_X12_fail v0 v1 v2 h = some r) : xa_CT l G 2 mX12_fail yX12_fail [xR v0, xI v1, xI v2] h (none, r) :=
  xa_met (by decide +kernel) rfl (fun q => by first | rfl | cases q) (Nat.le_of_ble_eq_true rfl) rfl (g_X12_fail l G v0 v1 v2 h) (by rw [hr]; rfl)
abbrev mX12_holderMany : xa_M := (cX12_holderMany, 1, (some (.int)), RX12, false)
theorem d_X12_holderMany_0 : decode mX12_holderMany.1 0 = .ok (.aload_n 0, 1) ∧ 0 + 1 = 1 := ⟨by decide +kernel, rfl⟩
theorem d_X12_holderMany_1 : decode mX12_holderMany.1 1 = .ok (.getfield 90, 3) ∧ 1 + 3 = 4 := ⟨by decide +kernel, rfl⟩
theorem d_X12_holderMany_4 : decode mX12_holderMany.1 4 = .ok (.iconst 4, 1) ∧ 4 + 1 = 5 := ⟨by decide +kernel, rfl⟩
theorem d_X12_holderMany_5 : decode mX12_holderMany.1 5 = .ok (.iaload, 1) ∧ 5 + 1 = 6 := ⟨by decide +kernel, rfl⟩
theorem d_X12_holderMany_6 : decode mX12_holderMany.1 6 = .ok (.ireturn, 1) := by decide +kernel
set_option maxRecDepth 100000 in
set_option maxHeartbeats 4000000 in
theorem g_X12_holderMany (l : Launch) (G : xa_C) (v0 : Int) (h : xa_H) : xa_G l G 2 mX12_holderMany (f_X12_holderMany v0 h) (fun r => some (some (xI r), h) : Int → Option xa_O) 0 [some (xR v0)] [] h := by
  unfold f_X12_holderMany
  refine xa_step (xa_aload_n d_X12_holderMany_0 rfl) ?_
  refine xa_getf xR xc_12 (by decide) (fun _ => rfl) xw_1338 rfl d_X12_holderMany_1 (fun x1 _ => ?_)
  refine xa_step (xa_iconst d_X12_holderMany_4 xq_i_4) ?_
  refine xa_iaload d_X12_holderMany_5 (fun x2 _ => ?_)
  exact xa_iret d_X12_holderMany_6 rfl rfl
theorem ct_X12_holderMany (l : Launch) (G : xa_C) (v0 : Int) (h : xa_H) (r : Int) (hr : f_X12_holderMany v0 h = some r) : xa_CT l G 2 mX12_holderMany yX12_holderMany [xR v0] h (some (xI r), h) :=
  xa_met (by decide +kernel) rfl (fun q => by first | rfl | cases q) (Nat.le_of_ble_eq_true rfl) rfl (g_X12_holderMany l G v0 h) (by rw [hr]; rfl)
abbrev mX12_look : xa_M := (cX12_look, 1, (some (.int)), RX12, false)
theorem d_X12_look_0 : decode mX12_look.1 0 = .ok (.aload_n 0, 1) ∧ 0 + 1 = 1 := ⟨by decide +kernel, rfl⟩
theorem d_X12_look_1 : decode mX12_look.1 1 = .ok (.getfield 255, 3) ∧ 1 + 3 = 4 := ⟨by decide +kernel, rfl⟩
theorem d_X12_look_4 : decode mX12_look.1 4 = .ok (.aload_n 0, 1) ∧ 4 + 1 = 5 := ⟨by decide +kernel, rfl⟩
theorem d_X12_look_5 : decode mX12_look.1 5 = .ok (.getfield 258, 3) ∧ 5 + 3 = 8 := ⟨by decide +kernel, rfl⟩
theorem d_X12_look_8 : decode mX12_look.1 8 = .ok (.if_icmp .ge 44, 3) ∧ 8 + 3 = 11 ∧ ((8 : Nat) : Int) + 44 = ((52 : Nat) : Int) := ⟨by decide +kernel, rfl, rfl⟩
theorem d_X12_look_11 : decode mX12_look.1 11 = .ok (.aload_n 0, 1) ∧ 11 + 1 = 12 := ⟨by decide +kernel, rfl⟩
theorem d_X12_look_12 : decode mX12_look.1 12 = .ok (.getfield 7, 3) ∧ 12 + 3 = 15 := ⟨by decide +kernel, rfl⟩
theorem d_X12_look_15 : decode mX12_look.1 15 = .ok (.aload_n 0, 1) ∧ 15 + 1 = 16 := ⟨by decide +kernel, rfl⟩
theorem d_X12_look_16 : decode mX12_look.1 16 = .ok (.getfield 255, 3) ∧ 16 + 3 = 19 := ⟨by decide +kernel, rfl⟩
theorem d_X12_look_19 : decode mX12_look.1 19 = .ok (.iaload, 1) ∧ 19 + 1 = 20 := ⟨by decide +kernel, rfl⟩
theorem d_X12_look_20 : decode mX12_look.1 20 = .ok (.bipush 10, 2) ∧ 20 + 2 = 22 := ⟨by decide +kernel, rfl⟩
theorem d_X12_look_22 : decode mX12_look.1 22 = .ok (.if_icmp .eq 17, 3) ∧ 22 + 3 = 25 ∧ ((22 : Nat) : Int) + 17 = ((39 : Nat) : Int) := ⟨by decide +kernel, rfl, rfl⟩
theorem d_X12_look_39 : decode mX12_look.1 39 = .ok (.aload_n 0, 1) ∧ 39 + 1 = 40 := ⟨by decide +kernel, rfl⟩
theorem d_X12_look_40 : decode mX12_look.1 40 = .ok (.dup, 1) ∧ 40 + 1 = 41 := ⟨by decide +kernel, rfl⟩
theorem d_X12_look_41 : decode mX12_look.1 41 = .ok (.getfield 255, 3) ∧ 41 + 3 = 44 := ⟨by decide +kernel, rfl⟩
theorem d_X12_look_44 : decode mX12_look.1 44 = .ok (.iconst 1, 1) ∧ 44 + 1 = 45 := ⟨by decide +kernel, rfl⟩
theorem d_X12_look_45 : decode mX12_look.1 45 = .ok (.iadd, 1) ∧ 45 + 1 = 46 := ⟨by decide +kernel, rfl⟩
theorem d_X12_look_46 : decode mX12_look.1 46 = .ok (.putfield 255, 3) ∧ 46 + 3 = 49 := ⟨by decide +kernel, rfl⟩
theorem d_X12_look_49 : decode mX12_look.1 49 = .ok (.goto (-49), 3) ∧ ((49 : Nat) : Int) + (-49) = ((0 : Nat) : Int) := ⟨by decide +kernel, rfl⟩
theorem d_X12_look_25 : decode mX12_look.1 25 = .ok (.aload_n 0, 1) ∧ 25 + 1 = 26 := ⟨by decide +kernel, rfl⟩
theorem d_X12_look_26 : decode mX12_look.1 26 = .ok (.getfield 7, 3) ∧ 26 + 3 = 29 := ⟨by decide +kernel, rfl⟩
theorem d_X12_look_29 : decode mX12_look.1 29 = .ok (.aload_n 0, 1) ∧ 29 + 1 = 30 := ⟨by decide +kernel, rfl⟩
theorem d_X12_look_30 : decode mX12_look.1 30 = .ok (.getfield 255, 3) ∧ 30 + 3 = 33 := ⟨by decide +kernel, rfl⟩
theorem d_X12_look_33 : decode mX12_look.1 33 = .ok (.iaload, 1) ∧ 33 + 1 = 34 := ⟨by decide +kernel, rfl⟩
theorem d_X12_look_34 : decode mX12_look.1 34 = .ok (.bipush 32, 2) ∧ 34 + 2 = 36 := ⟨by decide +kernel, rfl⟩
theorem d_X12_look_36 : decode mX12_look.1 36 = .ok (.if_icmp .ne 16, 3) ∧ 36 + 3 = 39 ∧ ((36 : Nat) : Int) + 16 = ((52 : Nat) : Int) := ⟨by decide +kernel, rfl, rfl⟩
set_option maxRecDepth 100000 in
set_option maxHeartbeats 4000000 in
theorem g_X12_look_L0 (l : Launch) (G : xa_C) (c0 : Int) (K : (xa_H) ⊕ (xa_H) → Option xa_O) (hb : ∀ (h : xa_H), xa_G l G 2 mX12_look (some (Sum.inl h)) K 0 [some (xR c0)] [] h) (hx : ∀ (h : xa_H), xa_G l G 2 mX12_look (some (Sum.inr h)) K 52 [some (xR c0)] [] h) : ∀ (h : xa_H), xa_G l G 2 mX12_look (f_X12_look_L0 c0 h) K 0 [some (xR c0)] [] h := by
  intro h
  unfold f_X12_look_L0
  refine xa_step (xa_aload_n d_X12_look_0 rfl) ?_
  refine xa_getf xI xc_12 (by decide) (fun _ => rfl) xw_1306 rfl d_X12_look_1 (fun x1 _ => ?_)
  refine xa_step (xa_aload_n d_X12_look_4 rfl) ?_
  refine xa_getf xI xc_12 (by decide) (fun _ => rfl) xw_1307 rfl d_X12_look_5 (fun x2 _ => ?_)
  refine xa_if (xa_icmpge d_X12_look_8) (fun q3 => ?_) (fun q3 => ?_)
  · refine xa_step (xa_aload_n d_X12_look_11 rfl) ?_
    refine xa_getf xR xc_12 (by decide) (fun _ => rfl) xw_1304 rfl d_X12_look_12 (fun x4 _ => ?_)
    refine xa_step (xa_aload_n d_X12_look_15 rfl) ?_
    refine xa_getf xI xc_12 (by decide) (fun _ => rfl) xw_1306 rfl d_X12_look_16 (fun x5 _ => ?_)
    refine xa_iaload d_X12_look_19 (fun x6 _ => ?_)
    refine xa_step (xa_bipush d_X12_look_20 xq_b_10) ?_
    refine xa_if (xa_icmpeq d_X12_look_22) (fun q7 => ?_) (fun q7 => ?_)
    · refine xa_step (xa_aload_n d_X12_look_39 rfl) ?_
      refine xa_step (xa_dup d_X12_look_40 (xa_tR _)) ?_
      refine xa_getf xI xc_12 (by decide) (fun _ => rfl) xw_1306 rfl d_X12_look_41 (fun x8 _ => ?_)
      refine xa_step (xa_iconst d_X12_look_44 xq_i_1) ?_
      refine xa_step (xa_iadd d_X12_look_45) ?_
      refine xa_putf2 (tg := xI) xc_12 (by decide) (fun _ => rfl) rfl (fun c hc => xa_fitI c hc) xw_1306 rfl d_X12_look_46 (fun h9 _ => ?_)
      refine xa_step (xa_goto d_X12_look_49) ?_
      exact xa_weak (ls' := [some (xR c0)]) ⟨rfl, trivial⟩ (hb h9)
    · refine xa_step (xa_aload_n d_X12_look_25 rfl) ?_
      refine xa_getf xR xc_12 (by decide) (fun _ => rfl) xw_1304 rfl d_X12_look_26 (fun x10 _ => ?_)
      refine xa_step (xa_aload_n d_X12_look_29 rfl) ?_
      refine xa_getf xI xc_12 (by decide) (fun _ => rfl) xw_1306 rfl d_X12_look_30 (fun x11 _ => ?_)
      refine xa_iaload d_X12_look_33 (fun x12 _ => ?_)
      refine xa_step (xa_bipush d_X12_look_34 xq_b_32) ?_
      refine xa_if (xa_icmpne d_X12_look_36) (fun q13 => ?_) (fun q13 => ?_)
      · refine xa_step (xa_aload_n d_X12_look_39 rfl) ?_
        refine xa_step (xa_dup d_X12_look_40 (xa_tR _)) ?_
        refine xa_getf xI xc_12 (by decide) (fun _ => rfl) xw_1306 rfl d_X12_look_41 (fun x14 _ => ?_)
        refine xa_step (xa_iconst d_X12_look_44 xq_i_1) ?_
        refine xa_step (xa_iadd d_X12_look_45) ?_
        refine xa_putf2 (tg := xI) xc_12 (by decide) (fun _ => rfl) rfl (fun c hc => xa_fitI c hc) xw_1306 rfl d_X12_look_46 (fun h15 _ => ?_)
        refine xa_step (xa_goto d_X12_look_49) ?_
        exact xa_weak (ls' := [some (xR c0)]) ⟨rfl, trivial⟩ (hb h15)
      · exact xa_weak (ls' := [some (xR c0)]) ⟨rfl, trivial⟩ (hx h)
  · exact xa_weak (ls' := [some (xR c0)]) ⟨rfl, trivial⟩ (hx h)
theorem d_X12_look_52 : decode mX12_look.1 52 = .ok (.aload_n 0, 1) ∧ 52 + 1 = 53 := ⟨by decide +kernel, rfl⟩
theorem d_X12_look_53 : decode mX12_look.1 53 = .ok (.getfield 255, 3) ∧ 53 + 3 = 56 := ⟨by decide +kernel, rfl⟩
theorem d_X12_look_56 : decode mX12_look.1 56 = .ok (.aload_n 0, 1) ∧ 56 + 1 = 57 := ⟨by decide +kernel, rfl⟩
theorem d_X12_look_57 : decode mX12_look.1 57 = .ok (.getfield 258, 3) ∧ 57 + 3 = 60 := ⟨by decide +kernel, rfl⟩
theorem d_X12_look_60 : decode mX12_look.1 60 = .ok (.if_icmp .ge 15, 3) ∧ 60 + 3 = 63 ∧ ((60 : Nat) : Int) + 15 = ((75 : Nat) : Int) := ⟨by decide +kernel, rfl, rfl⟩
theorem d_X12_look_63 : decode mX12_look.1 63 = .ok (.aload_n 0, 1) ∧ 63 + 1 = 64 := ⟨by decide +kernel, rfl⟩
theorem d_X12_look_64 : decode mX12_look.1 64 = .ok (.getfield 7, 3) ∧ 64 + 3 = 67 := ⟨by decide +kernel, rfl⟩
theorem d_X12_look_67 : decode mX12_look.1 67 = .ok (.aload_n 0, 1) ∧ 67 + 1 = 68 := ⟨by decide +kernel, rfl⟩
theorem d_X12_look_68 : decode mX12_look.1 68 = .ok (.getfield 255, 3) ∧ 68 + 3 = 71 := ⟨by decide +kernel, rfl⟩
theorem d_X12_look_71 : decode mX12_look.1 71 = .ok (.iaload, 1) ∧ 71 + 1 = 72 := ⟨by decide +kernel, rfl⟩
theorem d_X12_look_72 : decode mX12_look.1 72 = .ok (.goto 4, 3) ∧ ((72 : Nat) : Int) + 4 = ((76 : Nat) : Int) := ⟨by decide +kernel, rfl⟩
theorem d_X12_look_76 : decode mX12_look.1 76 = .ok (.ireturn, 1) := by decide +kernel
theorem d_X12_look_75 : decode mX12_look.1 75 = .ok (.iconst (-1), 1) ∧ 75 + 1 = 76 := ⟨by decide +kernel, rfl⟩
set_option maxRecDepth 100000 in
set_option maxHeartbeats 4000000 in
theorem g_X12_look_J52 (l : Launch) (G : xa_C) : ∀ (v0 : Int) (h : xa_H) , xa_G l G 2 mX12_look (f_X12_look_J52 v0 h) (fun r => some (some (xI r.1), r.2) : (Int × xa_H) → Option xa_O) 52 [some (xR v0)] [] h := by
  intro v0 h
  unfold f_X12_look_J52
  refine xa_step (xa_aload_n d_X12_look_52 rfl) ?_
  refine xa_getf xI xc_12 (by decide) (fun _ => rfl) xw_1306 rfl d_X12_look_53 (fun x17 _ => ?_)
  refine xa_step (xa_aload_n d_X12_look_56 rfl) ?_
  refine xa_getf xI xc_12 (by decide) (fun _ => rfl) xw_1307 rfl d_X12_look_57 (fun x18 _ => ?_)
  refine xa_if (xa_icmpge d_X12_look_60) (fun q19 => ?_) (fun q19 => ?_)
  · refine xa_step (xa_aload_n d_X12_look_63 rfl) ?_
    refine xa_getf xR xc_12 (by decide) (fun _ => rfl) xw_1304 rfl d_X12_look_64 (fun x20 _ => ?_)
    refine xa_step (xa_aload_n d_X12_look_67 rfl) ?_
    refine xa_getf xI xc_12 (by decide) (fun _ => rfl) xw_1306 rfl d_X12_look_68 (fun x21 _ => ?_)
    refine xa_iaload d_X12_look_71 (fun x22 _ => ?_)
    refine xa_step (xa_goto d_X12_look_72) ?_
    exact xa_iret d_X12_look_76 rfl rfl
  · refine xa_step (xa_iconst d_X12_look_75 xq_i_m1) ?_
    exact xa_iret d_X12_look_76 rfl rfl
set_option maxRecDepth 100000 in
set_option maxHeartbeats 4000000 in
theorem g_X12_look (l : Launch) (G : xa_C) (v0 : Int) (h : xa_H) : xa_G l G 2 mX12_look (f_X12_look v0 h) (fun r => some (some (xI r.1), r.2) : (Int × xa_H) → Option xa_O) 0 [some (xR v0)] [] h := by
  unfold f_X12_look
  refine xa_weak (ls' := [some (xR v0)]) ⟨rfl, trivial⟩ ?_
  refine xa_loop (f := fun s => f_X12_look_L0 v0 s) (L := fun s => [some (xR v0)]) (P := fun s => s) (X := (fun x K => xa_G l G 2 mX12_look (some (Sum.inr x)) K 52 [some (xR v0)] [] x)) (fun K hb hX s => g_X12_look_L0 l G v0 K (fun hh => hb hh) (fun hh => hX hh) s) ?_ xFU h
  intro e16 K hK
  refine xa_eqE hK ?_
  show xa_G l G 2 mX12_look _ _ 52 [some (xR v0)] [] e16
  exact xa_weak (ls' := [some (xR v0)]) ⟨rfl, trivial⟩ (g_X12_look_J52 l G v0 e16)
theorem ct_X12_look (l : Launch) (G : xa_C) (v0 : Int) (h : xa_H) (r : Int × xa_H) (hr : f_X12_look v0 h = some r) : xa_CT l G 2 mX12_look yX12_look [xR v0] h (some (xI r.1), r.2) :=
  xa_met (by decide +kernel) rfl (fun q => by first | rfl | cases q) (Nat.le_of_ble_eq_true rfl) rfl (g_X12_look l G v0 h) (by rw [hr]; rfl)
abbrev mX12_isLetter : xa_M := (cX12_isLetter, 1, (some (.boolean)), RX12, false)
theorem d_X12_isLetter_0 : decode mX12_isLetter.1 0 = .ok (.iload_n 0, 1) ∧ 0 + 1 = 1 := ⟨by decide +kernel, rfl⟩
theorem d_X12_isLetter_1 : decode mX12_isLetter.1 1 = .ok (.bipush 97, 2) ∧ 1 + 2 = 3 := ⟨by decide +kernel, rfl⟩
theorem d_X12_isLetter_3 : decode mX12_isLetter.1 3 = .ok (.if_icmp .lt 13, 3) ∧ 3 + 3 = 6 ∧ ((3 : Nat) : Int) + 13 = ((16 : Nat) : Int) := ⟨by decide +kernel, rfl, rfl⟩
theorem d_X12_isLetter_16 : decode mX12_isLetter.1 16 = .ok (.iconst 0, 1) ∧ 16 + 1 = 17 := ⟨by decide +kernel, rfl⟩
theorem d_X12_isLetter_17 : decode mX12_isLetter.1 17 = .ok (.ireturn, 1) := by decide +kernel
theorem d_X12_isLetter_6 : decode mX12_isLetter.1 6 = .ok (.iload_n 0, 1) ∧ 6 + 1 = 7 := ⟨by decide +kernel, rfl⟩
theorem d_X12_isLetter_7 : decode mX12_isLetter.1 7 = .ok (.bipush 122, 2) ∧ 7 + 2 = 9 := ⟨by decide +kernel, rfl⟩
theorem d_X12_isLetter_9 : decode mX12_isLetter.1 9 = .ok (.if_icmp .gt 7, 3) ∧ 9 + 3 = 12 ∧ ((9 : Nat) : Int) + 7 = ((16 : Nat) : Int) := ⟨by decide +kernel, rfl, rfl⟩
theorem d_X12_isLetter_12 : decode mX12_isLetter.1 12 = .ok (.iconst 1, 1) ∧ 12 + 1 = 13 := ⟨by decide +kernel, rfl⟩
theorem d_X12_isLetter_13 : decode mX12_isLetter.1 13 = .ok (.goto 4, 3) ∧ ((13 : Nat) : Int) + 4 = ((17 : Nat) : Int) := ⟨by decide +kernel, rfl⟩
set_option maxRecDepth 100000 in
set_option maxHeartbeats 4000000 in
theorem g_X12_isLetter (l : Launch) (G : xa_C) (v0 : Int) (h : xa_H) : xa_G l G 2 mX12_isLetter (f_X12_isLetter v0 h) (fun r => some (some (xI r), h) : Int → Option xa_O) 0 [some (xI v0)] [] h := by
  unfold f_X12_isLetter
  refine xa_step (xa_iload_n d_X12_isLetter_0 rfl) ?_
  refine xa_step (xa_bipush d_X12_isLetter_1 xq_b_97) ?_
  refine xa_if (xa_icmplt d_X12_isLetter_3) (fun q1 => ?_) (fun q1 => ?_)
  · refine xa_step (xa_iconst d_X12_isLetter_16 xq_i_0) ?_
    exact xa_zret d_X12_isLetter_17 rfl (Or.inl rfl) rfl
  · refine xa_step (xa_iload_n d_X12_isLetter_6 rfl) ?_
    refine xa_step (xa_bipush d_X12_isLetter_7 xq_b_122) ?_
    refine xa_if (xa_icmpgt d_X12_isLetter_9) (fun q2 => ?_) (fun q2 => ?_)
    · refine xa_step (xa_iconst d_X12_isLetter_16 xq_i_0) ?_
      exact xa_zret d_X12_isLetter_17 rfl (Or.inl rfl) rfl
    · refine xa_step (xa_iconst d_X12_isLetter_12 xq_i_1) ?_
      refine xa_step (xa_goto d_X12_isLetter_13) ?_
      exact xa_zret d_X12_isLetter_17 rfl (Or.inr rfl) rfl
theorem ct_X12_isLetter (l : Launch) (G : xa_C) (v0 : Int) (h : xa_H) (r : Int) (hr : f_X12_isLetter v0 h = some r) : xa_CT l G 2 mX12_isLetter yX12_isLetter [xI v0] h (some (xI r), h) :=
  xa_met (by decide +kernel) rfl (fun q => by first | rfl | cases q) (Nat.le_of_ble_eq_true rfl) rfl (g_X12_isLetter l G v0 h) (by rw [hr]; rfl)
abbrev mX12_isHere : xa_M := (cX12_isHere, 4, (some (.boolean)), RX12, false)
theorem d_X12_isHere_0 : decode mX12_isHere.1 0 = .ok (.aload_n 0, 1) ∧ 0 + 1 = 1 := ⟨by decide +kernel, rfl⟩
theorem d_X12_isHere_1 : decode mX12_isHere.1 1 = .ok (.getfield 249, 3) ∧ 1 + 3 = 4 := ⟨by decide +kernel, rfl⟩
theorem d_X12_isHere_4 : decode mX12_isHere.1 4 = .ok (.ifCond .ne 24, 3) ∧ 4 + 3 = 7 ∧ ((4 : Nat) : Int) + 24 = ((28 : Nat) : Int) := ⟨by decide +kernel, rfl, rfl⟩
theorem d_X12_isHere_7 : decode mX12_isHere.1 7 = .ok (.aload_n 0, 1) ∧ 7 + 1 = 8 := ⟨by decide +kernel, rfl⟩
theorem d_X12_isHere_8 : decode mX12_isHere.1 8 = .ok (.invokevirtual 261, 3) ∧ 8 + 3 = 11 := ⟨by decide +kernel, rfl⟩
theorem d_X12_isHere_11 : decode mX12_isHere.1 11 = .ok (.invokestatic 265, 3) ∧ 11 + 3 = 14 := ⟨by decide +kernel, rfl⟩
theorem d_X12_isHere_14 : decode mX12_isHere.1 14 = .ok (.ifCond .eq 14, 3) ∧ 14 + 3 = 17 ∧ ((14 : Nat) : Int) + 14 = ((28 : Nat) : Int) := ⟨by decide +kernel, rfl, rfl⟩
theorem d_X12_isHere_28 : decode mX12_isHere.1 28 = .ok (.iconst 0, 1) ∧ 28 + 1 = 29 := ⟨by decide +kernel, rfl⟩
theorem d_X12_isHere_29 : decode mX12_isHere.1 29 = .ok (.ireturn, 1) := by decide +kernel
theorem d_X12_isHere_17 : decode mX12_isHere.1 17 = .ok (.aload_n 0, 1) ∧ 17 + 1 = 18 := ⟨by decide +kernel, rfl⟩
theorem d_X12_isHere_18 : decode mX12_isHere.1 18 = .ok (.getfield 255, 3) ∧ 18 + 3 = 21 := ⟨by decide +kernel, rfl⟩
theorem d_X12_isHere_21 : decode mX12_isHere.1 21 = .ok (.aload_n 0, 1) ∧ 21 + 1 = 22 := ⟨by decide +kernel, rfl⟩
theorem d_X12_isHere_22 : decode mX12_isHere.1 22 = .ok (.getfield 269, 3) ∧ 22 + 3 = 25 := ⟨by decide +kernel, rfl⟩
theorem d_X12_isHere_25 : decode mX12_isHere.1 25 = .ok (.if_icmp .ne 5, 3) ∧ 25 + 3 = 28 ∧ ((25 : Nat) : Int) + 5 = ((30 : Nat) : Int) := ⟨by decide +kernel, rfl, rfl⟩
theorem d_X12_isHere_30 : decode mX12_isHere.1 30 = .ok (.aload_n 0, 1) ∧ 30 + 1 = 31 := ⟨by decide +kernel, rfl⟩
theorem d_X12_isHere_31 : decode mX12_isHere.1 31 = .ok (.getfield 255, 3) ∧ 31 + 3 = 34 := ⟨by decide +kernel, rfl⟩
theorem d_X12_isHere_34 : decode mX12_isHere.1 34 = .ok (.istore_n 2, 1) ∧ 34 + 1 = 35 := ⟨by decide +kernel, rfl⟩
theorem d_X12_isHere_35 : decode mX12_isHere.1 35 = .ok (.iload_n 2, 1) ∧ 35 + 1 = 36 := ⟨by decide +kernel, rfl⟩
theorem d_X12_isHere_36 : decode mX12_isHere.1 36 = .ok (.aload_n 0, 1) ∧ 36 + 1 = 37 := ⟨by decide +kernel, rfl⟩
theorem d_X12_isHere_37 : decode mX12_isHere.1 37 = .ok (.getfield 258, 3) ∧ 37 + 3 = 40 := ⟨by decide +kernel, rfl⟩
theorem d_X12_isHere_40 : decode mX12_isHere.1 40 = .ok (.if_icmp .ge 21, 3) ∧ 40 + 3 = 43 ∧ ((40 : Nat) : Int) + 21 = ((61 : Nat) : Int) := ⟨by decide +kernel, rfl, rfl⟩
theorem d_X12_isHere_43 : decode mX12_isHere.1 43 = .ok (.aload_n 0, 1) ∧ 43 + 1 = 44 := ⟨by decide +kernel, rfl⟩
theorem d_X12_isHere_44 : decode mX12_isHere.1 44 = .ok (.getfield 7, 3) ∧ 44 + 3 = 47 := ⟨by decide +kernel, rfl⟩
theorem d_X12_isHere_47 : decode mX12_isHere.1 47 = .ok (.iload_n 2, 1) ∧ 47 + 1 = 48 := ⟨by decide +kernel, rfl⟩
theorem d_X12_isHere_48 : decode mX12_isHere.1 48 = .ok (.iaload, 1) ∧ 48 + 1 = 49 := ⟨by decide +kernel, rfl⟩
theorem d_X12_isHere_49 : decode mX12_isHere.1 49 = .ok (.invokestatic 265, 3) ∧ 49 + 3 = 52 := ⟨by decide +kernel, rfl⟩
theorem d_X12_isHere_52 : decode mX12_isHere.1 52 = .ok (.ifCond .eq 9, 3) ∧ 52 + 3 = 55 ∧ ((52 : Nat) : Int) + 9 = ((61 : Nat) : Int) := ⟨by decide +kernel, rfl, rfl⟩
theorem d_X12_isHere_55 : decode mX12_isHere.1 55 = .ok (.iinc 2 1, 3) ∧ 55 + 3 = 58 := ⟨by decide +kernel, rfl⟩
theorem d_X12_isHere_58 : decode mX12_isHere.1 58 = .ok (.goto (-23), 3) ∧ ((58 : Nat) : Int) + (-23) = ((35 : Nat) : Int) := ⟨by decide +kernel, rfl⟩
set_option maxRecDepth 100000 in
set_option maxHeartbeats 4000000 in
theorem g_X12_isHere_L35 (l : Launch) (G : xa_C) (c0 c1 : Int) (h : xa_H) (K : (Int) ⊕ (Int) → Option xa_O) (hb : ∀ (v2 : Int), xa_G l G 3 mX12_isHere (some (Sum.inl v2)) K 35 [some (xR c0), some (xR c1), some (xI v2), none] [] h) (hx : ∀ (v2 : Int), xa_G l G 3 mX12_isHere (some (Sum.inr v2)) K 61 [some (xR c0), some (xR c1), some (xI v2), none] [] h) : ∀ (v2 : Int), xa_G l G 3 mX12_isHere (f_X12_isHere_L35 c0 c1 h v2) K 35 [some (xR c0), some (xR c1), some (xI v2), none] [] h := by
  intro v2
  unfold f_X12_isHere_L35
  refine xa_step (xa_iload_n d_X12_isHere_35 rfl) ?_
  refine xa_step (xa_aload_n d_X12_isHere_36 rfl) ?_
  refine xa_getf xI xc_12 (by decide) (fun _ => rfl) xw_1307 rfl d_X12_isHere_37 (fun x10 _ => ?_)
  refine xa_if (xa_icmpge d_X12_isHere_40) (fun q11 => ?_) (fun q11 => ?_)
  · refine xa_step (xa_aload_n d_X12_isHere_43 rfl) ?_
    refine xa_getf xR xc_12 (by decide) (fun _ => rfl) xw_1304 rfl d_X12_isHere_44 (fun x12 _ => ?_)
    refine xa_step (xa_iload_n d_X12_isHere_47 rfl) ?_
    refine xa_iaload d_X12_isHere_48 (fun x13 _ => ?_)
    refine xa_callSi (as := [xI x13]) (st := []) (M' := mX12_isLetter) (d' := 2) xw_1666 xw_1667 xw_1668 xw_177 xh_X12_isLetter rfl ⟨Nat.le_of_ble_eq_true rfl, Nat.le_of_ble_eq_true rfl⟩ (Nat.le_of_ble_eq_true rfl) rfl d_X12_isHere_49 (fun r hr => ct_X12_isLetter l G x13 h r hr) (fun r14 _ => ?_)
    refine xa_if (xa_ifeq d_X12_isHere_52) (fun q15 => ?_) (fun q15 => ?_)
    · exact xa_weak (ls' := [some (xR c0), some (xR c1), some (xI v2), none]) ⟨rfl, rfl, rfl, trivial⟩ (hx v2)
    · refine xa_step (xa_iinc (ls' := [some (xR c0), some (xR c1), some (xI (w32 (v2 + 1))), none]) d_X12_isHere_55 xq_i_1 rfl (by decide) rfl) ?_
      refine xa_step (xa_goto d_X12_isHere_58) ?_
      exact xa_weak (ls' := [some (xR c0), some (xR c1), some (xI (w32 (v2 + 1))), none]) ⟨rfl, rfl, rfl, trivial⟩ (hb (w32 (v2 + 1)))
  · exact xa_weak (ls' := [some (xR c0), some (xR c1), some (xI v2), none]) ⟨rfl, rfl, rfl, trivial⟩ (hx v2)
theorem d_X12_isHere_61 : decode mX12_isHere.1 61 = .ok (.iload_n 2, 1) ∧ 61 + 1 = 62 := ⟨by decide +kernel, rfl⟩
theorem d_X12_isHere_62 : decode mX12_isHere.1 62 = .ok (.aload_n 0, 1) ∧ 62 + 1 = 63 := ⟨by decide +kernel, rfl⟩
theorem d_X12_isHere_63 : decode mX12_isHere.1 63 = .ok (.getfield 255, 3) ∧ 63 + 3 = 66 := ⟨by decide +kernel, rfl⟩
theorem d_X12_isHere_66 : decode mX12_isHere.1 66 = .ok (.isub, 1) ∧ 66 + 1 = 67 := ⟨by decide +kernel, rfl⟩
theorem d_X12_isHere_67 : decode mX12_isHere.1 67 = .ok (.aload_n 1, 1) ∧ 67 + 1 = 68 := ⟨by decide +kernel, rfl⟩
theorem d_X12_isHere_68 : decode mX12_isHere.1 68 = .ok (.arraylength, 1) ∧ 68 + 1 = 69 := ⟨by decide +kernel, rfl⟩
theorem d_X12_isHere_69 : decode mX12_isHere.1 69 = .ok (.if_icmp .eq 5, 3) ∧ 69 + 3 = 72 ∧ ((69 : Nat) : Int) + 5 = ((74 : Nat) : Int) := ⟨by decide +kernel, rfl, rfl⟩
theorem d_X12_isHere_74 : decode mX12_isHere.1 74 = .ok (.iconst 0, 1) ∧ 74 + 1 = 75 := ⟨by decide +kernel, rfl⟩
theorem d_X12_isHere_75 : decode mX12_isHere.1 75 = .ok (.istore_n 3, 1) ∧ 75 + 1 = 76 := ⟨by decide +kernel, rfl⟩
theorem d_X12_isHere_76 : decode mX12_isHere.1 76 = .ok (.iload_n 3, 1) ∧ 76 + 1 = 77 := ⟨by decide +kernel, rfl⟩
theorem d_X12_isHere_77 : decode mX12_isHere.1 77 = .ok (.aload_n 1, 1) ∧ 77 + 1 = 78 := ⟨by decide +kernel, rfl⟩
theorem d_X12_isHere_78 : decode mX12_isHere.1 78 = .ok (.arraylength, 1) ∧ 78 + 1 = 79 := ⟨by decide +kernel, rfl⟩
theorem d_X12_isHere_79 : decode mX12_isHere.1 79 = .ok (.if_icmp .ge 28, 3) ∧ 79 + 3 = 82 ∧ ((79 : Nat) : Int) + 28 = ((107 : Nat) : Int) := ⟨by decide +kernel, rfl, rfl⟩
theorem d_X12_isHere_82 : decode mX12_isHere.1 82 = .ok (.aload_n 0, 1) ∧ 82 + 1 = 83 := ⟨by decide +kernel, rfl⟩
theorem d_X12_isHere_83 : decode mX12_isHere.1 83 = .ok (.getfield 7, 3) ∧ 83 + 3 = 86 := ⟨by decide +kernel, rfl⟩
theorem d_X12_isHere_86 : decode mX12_isHere.1 86 = .ok (.aload_n 0, 1) ∧ 86 + 1 = 87 := ⟨by decide +kernel, rfl⟩
theorem d_X12_isHere_87 : decode mX12_isHere.1 87 = .ok (.getfield 255, 3) ∧ 87 + 3 = 90 := ⟨by decide +kernel, rfl⟩
theorem d_X12_isHere_90 : decode mX12_isHere.1 90 = .ok (.iload_n 3, 1) ∧ 90 + 1 = 91 := ⟨by decide +kernel, rfl⟩
theorem d_X12_isHere_91 : decode mX12_isHere.1 91 = .ok (.iadd, 1) ∧ 91 + 1 = 92 := ⟨by decide +kernel, rfl⟩
theorem d_X12_isHere_92 : decode mX12_isHere.1 92 = .ok (.iaload, 1) ∧ 92 + 1 = 93 := ⟨by decide +kernel, rfl⟩
theorem d_X12_isHere_93 : decode mX12_isHere.1 93 = .ok (.aload_n 1, 1) ∧ 93 + 1 = 94 := ⟨by decide +kernel, rfl⟩
theorem d_X12_isHere_94 : decode mX12_isHere.1 94 = .ok (.iload_n 3, 1) ∧ 94 + 1 = 95 := ⟨by decide +kernel, rfl⟩
theorem d_X12_isHere_95 : decode mX12_isHere.1 95 = .ok (.caload, 1) ∧ 95 + 1 = 96 := ⟨by decide +kernel, rfl⟩
theorem d_X12_isHere_96 : decode mX12_isHere.1 96 = .ok (.if_icmp .eq 5, 3) ∧ 96 + 3 = 99 ∧ ((96 : Nat) : Int) + 5 = ((101 : Nat) : Int) := ⟨by decide +kernel, rfl, rfl⟩
theorem d_X12_isHere_101 : decode mX12_isHere.1 101 = .ok (.iinc 3 1, 3) ∧ 101 + 3 = 104 := ⟨by decide +kernel, rfl⟩
theorem d_X12_isHere_104 : decode mX12_isHere.1 104 = .ok (.goto (-28), 3) ∧ ((104 : Nat) : Int) + (-28) = ((76 : Nat) : Int) := ⟨by decide +kernel, rfl⟩
theorem d_X12_isHere_99 : decode mX12_isHere.1 99 = .ok (.iconst 0, 1) ∧ 99 + 1 = 100 := ⟨by decide +kernel, rfl⟩
theorem d_X12_isHere_100 : decode mX12_isHere.1 100 = .ok (.ireturn, 1) := by decide +kernel
set_option maxRecDepth 100000 in
set_option maxHeartbeats 4000000 in
theorem g_X12_isHere_L76 (l : Launch) (G : xa_C) (c0 c1 : Int) (h : xa_H) (K : (Int) ⊕ ((Int × xa_H) ⊕ (Unit)) → Option xa_O) (hb : ∀ (v3 : Int), xa_G l G 3 mX12_isHere (some (Sum.inl v3)) K 76 [some (xR c0), some (xR c1), none, some (xI v3)] [] h) (hr : ∀ r : Int × xa_H, K (Sum.inr (Sum.inl r)) = some (some (xI r.1), r.2)) (hx : xa_G l G 3 mX12_isHere (some (Sum.inr (Sum.inr (())))) K 107 [none, none, none, none] [] h) : ∀ (v3 : Int), xa_G l G 3 mX12_isHere (f_X12_isHere_L76 c0 c1 h v3) K 76 [some (xR c0), some (xR c1), none, some (xI v3)] [] h := by
  intro v3
  unfold f_X12_isHere_L76
  refine xa_step (xa_iload_n d_X12_isHere_76 rfl) ?_
  refine xa_step (xa_aload_n d_X12_isHere_77 rfl) ?_
  refine xa_alen d_X12_isHere_78 (fun x20 _ => ?_)
  refine xa_if (xa_icmpge d_X12_isHere_79) (fun q21 => ?_) (fun q21 => ?_)
  · refine xa_step (xa_aload_n d_X12_isHere_82 rfl) ?_
    refine xa_getf xR xc_12 (by decide) (fun _ => rfl) xw_1304 rfl d_X12_isHere_83 (fun x22 _ => ?_)
    refine xa_step (xa_aload_n d_X12_isHere_86 rfl) ?_
    refine xa_getf xI xc_12 (by decide) (fun _ => rfl) xw_1306 rfl d_X12_isHere_87 (fun x23 _ => ?_)
    refine xa_step (xa_iload_n d_X12_isHere_90 rfl) ?_
    refine xa_step (xa_iadd d_X12_isHere_91) ?_
    refine xa_iaload d_X12_isHere_92 (fun x24 _ => ?_)
    refine xa_step (xa_aload_n d_X12_isHere_93 rfl) ?_
    refine xa_step (xa_iload_n d_X12_isHere_94 rfl) ?_
    refine xa_caload d_X12_isHere_95 (fun x25 _ => ?_)
    refine xa_if (xa_icmpeq d_X12_isHere_96) (fun q26 => ?_) (fun q26 => ?_)
    · refine xa_step (xa_iinc (ls' := [some (xR c0), some (xR c1), none, some (xI (w32 (v3 + 1)))]) d_X12_isHere_101 xq_i_1 rfl (by decide) rfl) ?_
      refine xa_step (xa_goto d_X12_isHere_104) ?_
      exact xa_weak (ls' := [some (xR c0), some (xR c1), none, some (xI (w32 (v3 + 1)))]) ⟨rfl, rfl, rfl, trivial⟩ (hb (w32 (v3 + 1)))
    · refine xa_step (xa_iconst d_X12_isHere_99 xq_i_0) ?_
      exact xa_zret d_X12_isHere_100 rfl (Or.inl rfl) (hr _)
  · exact xa_weak (ls' := [none, none, none, none]) trivial (hx )
theorem d_X12_isHere_107 : decode mX12_isHere.1 107 = .ok (.iconst 1, 1) ∧ 107 + 1 = 108 := ⟨by decide +kernel, rfl⟩
theorem d_X12_isHere_108 : decode mX12_isHere.1 108 = .ok (.ireturn, 1) := by decide +kernel
theorem d_X12_isHere_72 : decode mX12_isHere.1 72 = .ok (.iconst 0, 1) ∧ 72 + 1 = 73 := ⟨by decide +kernel, rfl⟩
theorem d_X12_isHere_73 : decode mX12_isHere.1 73 = .ok (.ireturn, 1) := by decide +kernel
set_option maxRecDepth 100000 in
set_option maxHeartbeats 4000000 in
theorem g_X12_isHere_J61 (l : Launch) (G : xa_C) : ∀ (v0 v1 v2 : Int) (h : xa_H) , xa_G l G 3 mX12_isHere (f_X12_isHere_J61 v0 v1 v2 h) (fun r => some (some (xI r.1), r.2) : (Int × xa_H) → Option xa_O) 61 [some (xR v0), some (xR v1), some (xI v2), none] [] h := by
  intro v0 v1 v2 h
  unfold f_X12_isHere_J61
  refine xa_step (xa_iload_n d_X12_isHere_61 rfl) ?_
  refine xa_step (xa_aload_n d_X12_isHere_62 rfl) ?_
  refine xa_getf xI xc_12 (by decide) (fun _ => rfl) xw_1306 rfl d_X12_isHere_63 (fun x17 _ => ?_)
  refine xa_step (xa_isub d_X12_isHere_66) ?_
  refine xa_step (xa_aload_n d_X12_isHere_67 rfl) ?_
  refine xa_alen d_X12_isHere_68 (fun x18 _ => ?_)
  refine xa_if (xa_icmpeq d_X12_isHere_69) (fun q19 => ?_) (fun q19 => ?_)
  · refine xa_step (xa_iconst d_X12_isHere_74 xq_i_0) ?_
    refine xa_step (xa_istore_n (ls' := [some (xR v0), some (xR v1), some (xI v2), some (xI 0)]) d_X12_isHere_75 (by decide) rfl) ?_
    refine xa_weak (ls' := [some (xR v0), some (xR v1), none, some (xI 0)]) ⟨rfl, rfl, rfl, trivial⟩ ?_
    refine xa_loop (f := fun s => f_X12_isHere_L76 v0 v1 h s) (L := fun s => [some (xR v0), some (xR v1), none, some (xI s)]) (P := fun s => h) (X := (fun e K => match e with | Sum.inl r => K (Sum.inr (Sum.inl r)) = some (some (xI r.1), r.2) | Sum.inr x => xa_G l G 3 mX12_isHere (some (Sum.inr (Sum.inr x))) K 107 [none, none, none, none] [] h)) (fun K hb hX s => g_X12_isHere_L76 l G v0 v1 h K (fun w0 => hb w0) (fun r => hX (Sum.inl r)) (hX (Sum.inr ())) s) ?_ xFU 0
    rintro (r | y28) K hK
    · exact hK.trans rfl
    · refine xa_eqE hK ?_
      show xa_G l G 3 mX12_isHere _ _ 107 [none, none, none, none] [] h
      refine xa_step (xa_iconst d_X12_isHere_107 xq_i_1) ?_
      exact xa_zret d_X12_isHere_108 rfl (Or.inr rfl) rfl
  · refine xa_step (xa_iconst d_X12_isHere_72 xq_i_0) ?_
    exact xa_zret d_X12_isHere_73 rfl (Or.inl rfl) rfl
set_option maxRecDepth 100000 in
set_option maxHeartbeats 4000000 in
theorem g_X12_isHere (l : Launch) (G : xa_C) (v0 v1 : Int) (h : xa_H) : xa_G l G 3 mX12_isHere (f_X12_isHere v0 v1 h) (fun r => some (some (xI r.1), r.2) : (Int × xa_H) → Option xa_O) 0 [some (xR v0), some (xR v1), none, none] [] h := by
  unfold f_X12_isHere
  refine xa_step (xa_aload_n d_X12_isHere_0 rfl) ?_
  refine xa_getf xI xc_12 (by decide) (fun _ => rfl) xw_1309 rfl d_X12_isHere_1 (fun x1 _ => ?_)
  refine xa_if (xa_ifne d_X12_isHere_4) (fun q2 => ?_) (fun q2 => ?_)
  · refine xa_step (xa_aload_n d_X12_isHere_7 rfl) ?_
    refine xa_callVI (as := []) (st := []) (M' := mX12_look) (d' := 2) rfl xw_1646 xw_1648 xw_66 xw_1649 xw_177 xh_X12_look rfl ⟨Nat.le_of_ble_eq_true rfl, Nat.le_of_ble_eq_true rfl⟩ (Nat.le_of_ble_eq_true rfl) rfl d_X12_isHere_8 (fun r hr => ct_X12_look l G v0 h r hr) (fun r3 _ => ?_)
    refine xa_callSi (as := [xI r3.1]) (st := []) (M' := mX12_isLetter) (d' := 2) xw_1666 xw_1667 xw_1668 xw_177 xh_X12_isLetter rfl ⟨Nat.le_of_ble_eq_true rfl, Nat.le_of_ble_eq_true rfl⟩ (Nat.le_of_ble_eq_true rfl) rfl d_X12_isHere_11 (fun r hr => ct_X12_isLetter l G r3.1 r3.2 r hr) (fun r4 _ => ?_)
    refine xa_if (xa_ifeq d_X12_isHere_14) (fun q5 => ?_) (fun q5 => ?_)
    · refine xa_step (xa_iconst d_X12_isHere_28 xq_i_0) ?_
      exact xa_zret d_X12_isHere_29 rfl (Or.inl rfl) rfl
    · refine xa_step (xa_aload_n d_X12_isHere_17 rfl) ?_
      refine xa_getf xI xc_12 (by decide) (fun _ => rfl) xw_1306 rfl d_X12_isHere_18 (fun x6 _ => ?_)
      refine xa_step (xa_aload_n d_X12_isHere_21 rfl) ?_
      refine xa_getf xI xc_12 (by decide) (fun _ => rfl) xw_1308 rfl d_X12_isHere_22 (fun x7 _ => ?_)
      refine xa_if (xa_icmpne d_X12_isHere_25) (fun q8 => ?_) (fun q8 => ?_)
      · refine xa_step (xa_iconst d_X12_isHere_28 xq_i_0) ?_
        exact xa_zret d_X12_isHere_29 rfl (Or.inl rfl) rfl
      · refine xa_step (xa_aload_n d_X12_isHere_30 rfl) ?_
        refine xa_getf xI xc_12 (by decide) (fun _ => rfl) xw_1306 rfl d_X12_isHere_31 (fun x9 _ => ?_)
        refine xa_step (xa_istore_n (ls' := [some (xR v0), some (xR v1), some (xI x9), none]) d_X12_isHere_34 (by decide) rfl) ?_
        refine xa_weak (ls' := [some (xR v0), some (xR v1), some (xI x9), none]) ⟨rfl, rfl, rfl, trivial⟩ ?_
        refine xa_loop (f := fun s => f_X12_isHere_L35 v0 v1 r3.2 s) (L := fun s => [some (xR v0), some (xR v1), some (xI s), none]) (P := fun s => r3.2) (X := (fun x K => xa_G l G 3 mX12_isHere (some (Sum.inr x)) K 61 [some (xR v0), some (xR v1), some (xI x), none] [] r3.2)) (fun K hb hX s => g_X12_isHere_L35 l G v0 v1 r3.2 K (fun w0 => hb w0) (fun w0 => hX w0) s) ?_ xFU x9
        intro e16 K hK
        refine xa_eqE hK ?_
        show xa_G l G 3 mX12_isHere _ _ 61 [some (xR v0), some (xR v1), some (xI e16), none] [] r3.2
        exact xa_weak (ls' := [some (xR v0), some (xR v1), some (xI e16), none]) ⟨rfl, rfl, rfl, trivial⟩ (g_X12_isHere_J61 l G v0 v1 e16 r3.2)
  · refine xa_step (xa_iconst d_X12_isHere_28 xq_i_0) ?_
    exact xa_zret d_X12_isHere_29 rfl (Or.inl rfl) rfl
theorem ct_X12_isHere (l : Launch) (G : xa_C) (v0 v1 : Int) (h : xa_H) (r : Int × xa_H) (hr : f_X12_isHere v0 v1 h = some r) : xa_CT l G 3 mX12_isHere yX12_isHere [xR v0, xR v1] h (some (xI r.1), r.2) :=
  xa_met (by decide +kernel) rfl (fun q => by first | rfl | cases q) (Nat.le_of_ble_eq_true rfl) rfl (g_X12_isHere l G v0 v1 h) (by rw [hr]; rfl)
abbrev mX12_takes : xa_M := (cX12_takes, 2, (some (.boolean)), RX12, false)
theorem d_X12_takes_0 : decode mX12_takes.1 0 = .ok (.aload_n 0, 1) ∧ 0 + 1 = 1 := ⟨by decide +kernel, rfl⟩
theorem d_X12_takes_1 : decode mX12_takes.1 1 = .ok (.aload_n 1, 1) ∧ 1 + 1 = 2 := ⟨by decide +kernel, rfl⟩
theorem d_X12_takes_2 : decode mX12_takes.1 2 = .ok (.invokevirtual 272, 3) ∧ 2 + 3 = 5 := ⟨by decide +kernel, rfl⟩
theorem d_X12_takes_5 : decode mX12_takes.1 5 = .ok (.ifCond .ne 5, 3) ∧ 5 + 3 = 8 ∧ ((5 : Nat) : Int) + 5 = ((10 : Nat) : Int) := ⟨by decide +kernel, rfl, rfl⟩
theorem d_X12_takes_8 : decode mX12_takes.1 8 = .ok (.iconst 0, 1) ∧ 8 + 1 = 9 := ⟨by decide +kernel, rfl⟩
theorem d_X12_takes_9 : decode mX12_takes.1 9 = .ok (.ireturn, 1) := by decide +kernel
theorem d_X12_takes_10 : decode mX12_takes.1 10 = .ok (.aload_n 0, 1) ∧ 10 + 1 = 11 := ⟨by decide +kernel, rfl⟩
theorem d_X12_takes_11 : decode mX12_takes.1 11 = .ok (.dup, 1) ∧ 11 + 1 = 12 := ⟨by decide +kernel, rfl⟩
theorem d_X12_takes_12 : decode mX12_takes.1 12 = .ok (.getfield 255, 3) ∧ 12 + 3 = 15 := ⟨by decide +kernel, rfl⟩
theorem d_X12_takes_15 : decode mX12_takes.1 15 = .ok (.aload_n 1, 1) ∧ 15 + 1 = 16 := ⟨by decide +kernel, rfl⟩
theorem d_X12_takes_16 : decode mX12_takes.1 16 = .ok (.arraylength, 1) ∧ 16 + 1 = 17 := ⟨by decide +kernel, rfl⟩
theorem d_X12_takes_17 : decode mX12_takes.1 17 = .ok (.iadd, 1) ∧ 17 + 1 = 18 := ⟨by decide +kernel, rfl⟩
theorem d_X12_takes_18 : decode mX12_takes.1 18 = .ok (.putfield 255, 3) ∧ 18 + 3 = 21 := ⟨by decide +kernel, rfl⟩
theorem d_X12_takes_21 : decode mX12_takes.1 21 = .ok (.aload_n 0, 1) ∧ 21 + 1 = 22 := ⟨by decide +kernel, rfl⟩
theorem d_X12_takes_22 : decode mX12_takes.1 22 = .ok (.aload_n 0, 1) ∧ 22 + 1 = 23 := ⟨by decide +kernel, rfl⟩
theorem d_X12_takes_23 : decode mX12_takes.1 23 = .ok (.getfield 255, 3) ∧ 23 + 3 = 26 := ⟨by decide +kernel, rfl⟩
theorem d_X12_takes_26 : decode mX12_takes.1 26 = .ok (.putfield 269, 3) ∧ 26 + 3 = 29 := ⟨by decide +kernel, rfl⟩
theorem d_X12_takes_29 : decode mX12_takes.1 29 = .ok (.iconst 1, 1) ∧ 29 + 1 = 30 := ⟨by decide +kernel, rfl⟩
theorem d_X12_takes_30 : decode mX12_takes.1 30 = .ok (.ireturn, 1) := by decide +kernel
set_option maxRecDepth 100000 in
set_option maxHeartbeats 4000000 in
theorem g_X12_takes (l : Launch) (G : xa_C) (v0 v1 : Int) (h : xa_H) : xa_G l G 4 mX12_takes (f_X12_takes v0 v1 h) (fun r => some (some (xI r.1), r.2) : (Int × xa_H) → Option xa_O) 0 [some (xR v0), some (xR v1)] [] h := by
  unfold f_X12_takes
  refine xa_step (xa_aload_n d_X12_takes_0 rfl) ?_
  refine xa_step (xa_aload_n d_X12_takes_1 rfl) ?_
  refine xa_callVI (as := [xR v1]) (st := []) (M' := mX12_isHere) (d' := 3) rfl xw_1662 xw_1664 xw_70 xw_1665 xw_177 xh_X12_isHere rfl ⟨Nat.le_of_ble_eq_true rfl, Nat.le_of_ble_eq_true rfl⟩ (Nat.le_of_ble_eq_true rfl) rfl d_X12_takes_2 (fun r hr => ct_X12_isHere l G v0 v1 h r hr) (fun r1 _ => ?_)
  refine xa_if (xa_ifne d_X12_takes_5) (fun q2 => ?_) (fun q2 => ?_)
  · refine xa_step (xa_iconst d_X12_takes_8 xq_i_0) ?_
    exact xa_zret d_X12_takes_9 rfl (Or.inl rfl) rfl
  · refine xa_step (xa_aload_n d_X12_takes_10 rfl) ?_
    refine xa_step (xa_dup d_X12_takes_11 (xa_tR _)) ?_
    refine xa_getf xI xc_12 (by decide) (fun _ => rfl) xw_1306 rfl d_X12_takes_12 (fun x3 _ => ?_)
    refine xa_step (xa_aload_n d_X12_takes_15 rfl) ?_
    refine xa_alen d_X12_takes_16 (fun x4 _ => ?_)
    refine xa_step (xa_iadd d_X12_takes_17) ?_
    refine xa_putf2 (tg := xI) xc_12 (by decide) (fun _ => rfl) rfl (fun c hc => xa_fitI c hc) xw_1306 rfl d_X12_takes_18 (fun h5 _ => ?_)
    refine xa_step (xa_aload_n d_X12_takes_21 rfl) ?_
    refine xa_step (xa_aload_n d_X12_takes_22 rfl) ?_
    refine xa_getf xI xc_12 (by decide) (fun _ => rfl) xw_1306 rfl d_X12_takes_23 (fun x6 _ => ?_)
    refine xa_putf2 (tg := xI) xc_12 (by decide) (fun _ => rfl) rfl (fun c hc => xa_fitI c hc) xw_1308 rfl d_X12_takes_26 (fun h7 _ => ?_)
    refine xa_step (xa_iconst d_X12_takes_29 xq_i_1) ?_
    exact xa_zret d_X12_takes_30 rfl (Or.inr rfl) rfl
theorem ct_X12_takes (l : Launch) (G : xa_C) (v0 v1 : Int) (h : xa_H) (r : Int × xa_H) (hr : f_X12_takes v0 v1 h = some r) : xa_CT l G 4 mX12_takes yX12_takes [xR v0, xR v1] h (some (xI r.1), r.2) :=
  xa_met (by decide +kernel) rfl (fun q => by first | rfl | cases q) (Nat.le_of_ble_eq_true rfl) rfl (g_X12_takes l G v0 v1 h) (by rw [hr]; rfl)
abbrev mX12_asks : xa_M := (cX12_asks, 2, none, RX12, false)
theorem d_X12_asks_0 : decode mX12_asks.1 0 = .ok (.aload_n 0, 1) ∧ 0 + 1 = 1 := ⟨by decide +kernel, rfl⟩
theorem d_X12_asks_1 : decode mX12_asks.1 1 = .ok (.getfield 249, 3) ∧ 1 + 3 = 4 := ⟨by decide +kernel, rfl⟩
theorem d_X12_asks_4 : decode mX12_asks.1 4 = .ok (.ifCond .ne 20, 3) ∧ 4 + 3 = 7 ∧ ((4 : Nat) : Int) + 20 = ((24 : Nat) : Int) := ⟨by decide +kernel, rfl, rfl⟩
theorem d_X12_asks_7 : decode mX12_asks.1 7 = .ok (.aload_n 0, 1) ∧ 7 + 1 = 8 := ⟨by decide +kernel, rfl⟩
theorem d_X12_asks_8 : decode mX12_asks.1 8 = .ok (.aload_n 1, 1) ∧ 8 + 1 = 9 := ⟨by decide +kernel, rfl⟩
theorem d_X12_asks_9 : decode mX12_asks.1 9 = .ok (.invokevirtual 276, 3) ∧ 9 + 3 = 12 := ⟨by decide +kernel, rfl⟩
theorem d_X12_asks_12 : decode mX12_asks.1 12 = .ok (.ifCond .ne 12, 3) ∧ 12 + 3 = 15 ∧ ((12 : Nat) : Int) + 12 = ((24 : Nat) : Int) := ⟨by decide +kernel, rfl, rfl⟩
theorem d_X12_asks_15 : decode mX12_asks.1 15 = .ok (.aload_n 0, 1) ∧ 15 + 1 = 16 := ⟨by decide +kernel, rfl⟩
theorem d_X12_asks_16 : decode mX12_asks.1 16 = .ok (.iconst 1, 1) ∧ 16 + 1 = 17 := ⟨by decide +kernel, rfl⟩
theorem d_X12_asks_17 : decode mX12_asks.1 17 = .ok (.aload_n 0, 1) ∧ 17 + 1 = 18 := ⟨by decide +kernel, rfl⟩
theorem d_X12_asks_18 : decode mX12_asks.1 18 = .ok (.getfield 255, 3) ∧ 18 + 3 = 21 := ⟨by decide +kernel, rfl⟩
theorem d_X12_asks_21 : decode mX12_asks.1 21 = .ok (.invokevirtual 279, 3) ∧ 21 + 3 = 24 := ⟨by decide +kernel, rfl⟩
theorem d_X12_asks_24 : decode mX12_asks.1 24 = .ok (.return_, 1) := by decide +kernel
set_option maxRecDepth 100000 in
set_option maxHeartbeats 4000000 in
theorem g_X12_asks (l : Launch) (G : xa_C) (v0 v1 : Int) (h : xa_H) : xa_G l G 5 mX12_asks (f_X12_asks v0 v1 h) (fun r => some (none, r) : xa_H → Option xa_O) 0 [some (xR v0), some (xR v1)] [] h := by
  unfold f_X12_asks
  refine xa_step (xa_aload_n d_X12_asks_0 rfl) ?_
  refine xa_getf xI xc_12 (by decide) (fun _ => rfl) xw_1309 rfl d_X12_asks_1 (fun x1 _ => ?_)
  refine xa_if (xa_ifne d_X12_asks_4) (fun q2 => ?_) (fun q2 => ?_)
  · refine xa_step (xa_aload_n d_X12_asks_7 rfl) ?_
    refine xa_step (xa_aload_n d_X12_asks_8 rfl) ?_
    refine xa_callVI (as := [xR v1]) (st := []) (M' := mX12_takes) (d' := 4) rfl xw_1658 xw_1660 xw_69 xw_1661 xw_177 xh_X12_takes rfl ⟨Nat.le_of_ble_eq_true rfl, Nat.le_of_ble_eq_true rfl⟩ (Nat.le_of_ble_eq_true rfl) rfl d_X12_asks_9 (fun r hr => ct_X12_takes l G v0 v1 h r hr) (fun r3 _ => ?_)
    refine xa_if (xa_ifne d_X12_asks_12) (fun q4 => ?_) (fun q4 => ?_)
    · refine xa_step (xa_aload_n d_X12_asks_15 rfl) ?_
      refine xa_step (xa_iconst d_X12_asks_16 xq_i_1) ?_
      refine xa_step (xa_aload_n d_X12_asks_17 rfl) ?_
      refine xa_getf xI xc_12 (by decide) (fun _ => rfl) xw_1306 rfl d_X12_asks_18 (fun x5 _ => ?_)
      refine xa_callVV (as := [xI 1, xI x5]) (st := []) (M' := mX12_fail) (d' := 2) rfl xw_1654 xw_1656 xw_68 xw_1657 xw_177 xh_X12_fail rfl ⟨Nat.le_of_ble_eq_true rfl, Nat.le_of_ble_eq_true rfl⟩ (Nat.le_of_ble_eq_true rfl) rfl d_X12_asks_21 (fun r hr => ct_X12_fail l G v0 1 x5 r3.2 r hr) (fun r6 _ => ?_)
      exact xa_vret d_X12_asks_24 rfl rfl
    · exact xa_vret d_X12_asks_24 rfl rfl
  · exact xa_vret d_X12_asks_24 rfl rfl
theorem ct_X12_asks (l : Launch) (G : xa_C) (v0 v1 : Int) (h : xa_H) (r : xa_H) (hr : f_X12_asks v0 v1 h = some r) : xa_CT l G 5 mX12_asks yX12_asks [xR v0, xR v1] h (none, r) :=
  xa_met (by decide +kernel) rfl (fun q => by first | rfl | cases q) (Nat.le_of_ble_eq_true rfl) rfl (g_X12_asks l G v0 v1 h) (by rw [hr]; rfl)
abbrev mX12_qKind : xa_M := (cX12_qKind, 2, (some (.int)), RX12, false)
theorem d_X12_qKind_0 : decode mX12_qKind.1 0 = .ok (.aload_n 0, 1) ∧ 0 + 1 = 1 := ⟨by decide +kernel, rfl⟩
theorem d_X12_qKind_1 : decode mX12_qKind.1 1 = .ok (.aload_n 0, 1) ∧ 1 + 1 = 2 := ⟨by decide +kernel, rfl⟩
theorem d_X12_qKind_2 : decode mX12_qKind.1 2 = .ok (.getfield 174, 3) ∧ 2 + 3 = 5 := ⟨by decide +kernel, rfl⟩
theorem d_X12_qKind_5 : decode mX12_qKind.1 5 = .ok (.invokevirtual 276, 3) ∧ 5 + 3 = 8 := ⟨by decide +kernel, rfl⟩
theorem d_X12_qKind_8 : decode mX12_qKind.1 8 = .ok (.ifCond .eq 7, 3) ∧ 8 + 3 = 11 ∧ ((8 : Nat) : Int) + 7 = ((15 : Nat) : Int) := ⟨by decide +kernel, rfl, rfl⟩
theorem d_X12_qKind_15 : decode mX12_qKind.1 15 = .ok (.aload_n 0, 1) ∧ 15 + 1 = 16 := ⟨by decide +kernel, rfl⟩
theorem d_X12_qKind_16 : decode mX12_qKind.1 16 = .ok (.aload_n 0, 1) ∧ 16 + 1 = 17 := ⟨by decide +kernel, rfl⟩
theorem d_X12_qKind_17 : decode mX12_qKind.1 17 = .ok (.getfield 177, 3) ∧ 17 + 3 = 20 := ⟨by decide +kernel, rfl⟩
theorem d_X12_qKind_20 : decode mX12_qKind.1 20 = .ok (.invokevirtual 276, 3) ∧ 20 + 3 = 23 := ⟨by decide +kernel, rfl⟩
theorem d_X12_qKind_23 : decode mX12_qKind.1 23 = .ok (.ifCond .eq 7, 3) ∧ 23 + 3 = 26 ∧ ((23 : Nat) : Int) + 7 = ((30 : Nat) : Int) := ⟨by decide +kernel, rfl, rfl⟩
theorem d_X12_qKind_30 : decode mX12_qKind.1 30 = .ok (.aload_n 0, 1) ∧ 30 + 1 = 31 := ⟨by decide +kernel, rfl⟩
theorem d_X12_qKind_31 : decode mX12_qKind.1 31 = .ok (.aload_n 0, 1) ∧ 31 + 1 = 32 := ⟨by decide +kernel, rfl⟩
theorem d_X12_qKind_32 : decode mX12_qKind.1 32 = .ok (.getfield 180, 3) ∧ 32 + 3 = 35 := ⟨by decide +kernel, rfl⟩
theorem d_X12_qKind_35 : decode mX12_qKind.1 35 = .ok (.invokevirtual 276, 3) ∧ 35 + 3 = 38 := ⟨by decide +kernel, rfl⟩
theorem d_X12_qKind_38 : decode mX12_qKind.1 38 = .ok (.ifCond .eq 7, 3) ∧ 38 + 3 = 41 ∧ ((38 : Nat) : Int) + 7 = ((45 : Nat) : Int) := ⟨by decide +kernel, rfl, rfl⟩
theorem d_X12_qKind_45 : decode mX12_qKind.1 45 = .ok (.aload_n 0, 1) ∧ 45 + 1 = 46 := ⟨by decide +kernel, rfl⟩
theorem d_X12_qKind_46 : decode mX12_qKind.1 46 = .ok (.aload_n 0, 1) ∧ 46 + 1 = 47 := ⟨by decide +kernel, rfl⟩
theorem d_X12_qKind_47 : decode mX12_qKind.1 47 = .ok (.getfield 183, 3) ∧ 47 + 3 = 50 := ⟨by decide +kernel, rfl⟩
theorem d_X12_qKind_50 : decode mX12_qKind.1 50 = .ok (.invokevirtual 276, 3) ∧ 50 + 3 = 53 := ⟨by decide +kernel, rfl⟩
theorem d_X12_qKind_53 : decode mX12_qKind.1 53 = .ok (.ifCond .eq 7, 3) ∧ 53 + 3 = 56 ∧ ((53 : Nat) : Int) + 7 = ((60 : Nat) : Int) := ⟨by decide +kernel, rfl, rfl⟩
theorem d_X12_qKind_60 : decode mX12_qKind.1 60 = .ok (.aload_n 0, 1) ∧ 60 + 1 = 61 := ⟨by decide +kernel, rfl⟩
theorem d_X12_qKind_61 : decode mX12_qKind.1 61 = .ok (.aload_n 0, 1) ∧ 61 + 1 = 62 := ⟨by decide +kernel, rfl⟩
theorem d_X12_qKind_62 : decode mX12_qKind.1 62 = .ok (.getfield 186, 3) ∧ 62 + 3 = 65 := ⟨by decide +kernel, rfl⟩
theorem d_X12_qKind_65 : decode mX12_qKind.1 65 = .ok (.invokevirtual 276, 3) ∧ 65 + 3 = 68 := ⟨by decide +kernel, rfl⟩
theorem d_X12_qKind_68 : decode mX12_qKind.1 68 = .ok (.ifCond .eq 7, 3) ∧ 68 + 3 = 71 ∧ ((68 : Nat) : Int) + 7 = ((75 : Nat) : Int) := ⟨by decide +kernel, rfl, rfl⟩
theorem d_X12_qKind_75 : decode mX12_qKind.1 75 = .ok (.iconst 5, 1) ∧ 75 + 1 = 76 := ⟨by decide +kernel, rfl⟩
theorem d_X12_qKind_76 : decode mX12_qKind.1 76 = .ok (.istore_n 1, 1) ∧ 76 + 1 = 77 := ⟨by decide +kernel, rfl⟩
theorem d_X12_qKind_77 : decode mX12_qKind.1 77 = .ok (.iload_n 1, 1) ∧ 77 + 1 = 78 := ⟨by decide +kernel, rfl⟩
theorem d_X12_qKind_78 : decode mX12_qKind.1 78 = .ok (.iconst 5, 1) ∧ 78 + 1 = 79 := ⟨by decide +kernel, rfl⟩
theorem d_X12_qKind_79 : decode mX12_qKind.1 79 = .ok (.if_icmp .ne 11, 3) ∧ 79 + 3 = 82 ∧ ((79 : Nat) : Int) + 11 = ((90 : Nat) : Int) := ⟨by decide +kernel, rfl, rfl⟩
theorem d_X12_qKind_82 : decode mX12_qKind.1 82 = .ok (.aload_n 0, 1) ∧ 82 + 1 = 83 := ⟨by decide +kernel, rfl⟩
theorem d_X12_qKind_83 : decode mX12_qKind.1 83 = .ok (.aload_n 0, 1) ∧ 83 + 1 = 84 := ⟨by decide +kernel, rfl⟩
theorem d_X12_qKind_84 : decode mX12_qKind.1 84 = .ok (.getfield 189, 3) ∧ 84 + 3 = 87 := ⟨by decide +kernel, rfl⟩
theorem d_X12_qKind_87 : decode mX12_qKind.1 87 = .ok (.invokevirtual 323, 3) ∧ 87 + 3 = 90 := ⟨by decide +kernel, rfl⟩
theorem d_X12_qKind_90 : decode mX12_qKind.1 90 = .ok (.iload_n 1, 1) ∧ 90 + 1 = 91 := ⟨by decide +kernel, rfl⟩
theorem d_X12_qKind_91 : decode mX12_qKind.1 91 = .ok (.ireturn, 1) := by decide +kernel
set_option maxRecDepth 100000 in
set_option maxHeartbeats 4000000 in
theorem g_X12_qKind_J76 (l : Launch) (G : xa_C) : ∀ (v0 s0 : Int) (h : xa_H) , xa_G l G 6 mX12_qKind (f_X12_qKind_J76 v0 s0 h) (fun r => some (some (xI r.1), r.2) : (Int × xa_H) → Option xa_O) 76 [some (xR v0), none] [xI s0] h := by
  intro v0 s0 h
  unfold f_X12_qKind_J76
  refine xa_step (xa_istore_n (ls' := [some (xR v0), some (xI s0)]) d_X12_qKind_76 (by decide) rfl) ?_
  refine xa_step (xa_iload_n d_X12_qKind_77 rfl) ?_
  refine xa_step (xa_iconst d_X12_qKind_78 xq_i_5) ?_
  refine xa_if (xa_icmpne d_X12_qKind_79) (fun q16 => ?_) (fun q16 => ?_)
  · refine xa_step (xa_aload_n d_X12_qKind_82 rfl) ?_
    refine xa_step (xa_aload_n d_X12_qKind_83 rfl) ?_
    refine xa_getf xR xc_12 (by decide) (fun _ => rfl) xw_1386 rfl d_X12_qKind_84 (fun x17 _ => ?_)
    refine xa_callVV (as := [xR x17]) (st := []) (M' := mX12_asks) (d' := 5) rfl xw_1695 xw_1697 xw_77 xw_1698 xw_177 xh_X12_asks rfl ⟨Nat.le_of_ble_eq_true rfl, Nat.le_of_ble_eq_true rfl⟩ (Nat.le_of_ble_eq_true rfl) rfl d_X12_qKind_87 (fun r hr => ct_X12_asks l G v0 x17 h r hr) (fun r18 _ => ?_)
    refine xa_step (xa_iload_n d_X12_qKind_90 rfl) ?_
    exact xa_iret d_X12_qKind_91 rfl rfl
  · refine xa_step (xa_iload_n d_X12_qKind_90 rfl) ?_
    exact xa_iret d_X12_qKind_91 rfl rfl
theorem d_X12_qKind_71 : decode mX12_qKind.1 71 = .ok (.iconst 4, 1) ∧ 71 + 1 = 72 := ⟨by decide +kernel, rfl⟩
theorem d_X12_qKind_72 : decode mX12_qKind.1 72 = .ok (.goto 4, 3) ∧ ((72 : Nat) : Int) + 4 = ((76 : Nat) : Int) := ⟨by decide +kernel, rfl⟩
theorem d_X12_qKind_56 : decode mX12_qKind.1 56 = .ok (.iconst 3, 1) ∧ 56 + 1 = 57 := ⟨by decide +kernel, rfl⟩
theorem d_X12_qKind_57 : decode mX12_qKind.1 57 = .ok (.goto 19, 3) ∧ ((57 : Nat) : Int) + 19 = ((76 : Nat) : Int) := ⟨by decide +kernel, rfl⟩
theorem d_X12_qKind_41 : decode mX12_qKind.1 41 = .ok (.iconst 2, 1) ∧ 41 + 1 = 42 := ⟨by decide +kernel, rfl⟩
theorem d_X12_qKind_42 : decode mX12_qKind.1 42 = .ok (.goto 34, 3) ∧ ((42 : Nat) : Int) + 34 = ((76 : Nat) : Int) := ⟨by decide +kernel, rfl⟩
theorem d_X12_qKind_26 : decode mX12_qKind.1 26 = .ok (.iconst 1, 1) ∧ 26 + 1 = 27 := ⟨by decide +kernel, rfl⟩
theorem d_X12_qKind_27 : decode mX12_qKind.1 27 = .ok (.goto 49, 3) ∧ ((27 : Nat) : Int) + 49 = ((76 : Nat) : Int) := ⟨by decide +kernel, rfl⟩
theorem d_X12_qKind_11 : decode mX12_qKind.1 11 = .ok (.iconst 0, 1) ∧ 11 + 1 = 12 := ⟨by decide +kernel, rfl⟩
theorem d_X12_qKind_12 : decode mX12_qKind.1 12 = .ok (.goto 64, 3) ∧ ((12 : Nat) : Int) + 64 = ((76 : Nat) : Int) := ⟨by decide +kernel, rfl⟩
set_option maxRecDepth 100000 in
set_option maxHeartbeats 4000000 in
theorem g_X12_qKind (l : Launch) (G : xa_C) (v0 : Int) (h : xa_H) : xa_G l G 6 mX12_qKind (f_X12_qKind v0 h) (fun r => some (some (xI r.1), r.2) : (Int × xa_H) → Option xa_O) 0 [some (xR v0), none] [] h := by
  unfold f_X12_qKind
  refine xa_step (xa_aload_n d_X12_qKind_0 rfl) ?_
  refine xa_step (xa_aload_n d_X12_qKind_1 rfl) ?_
  refine xa_getf xR xc_12 (by decide) (fun _ => rfl) xw_1381 rfl d_X12_qKind_2 (fun x1 _ => ?_)
  refine xa_callVI (as := [xR x1]) (st := []) (M' := mX12_takes) (d' := 4) rfl xw_1658 xw_1660 xw_69 xw_1661 xw_177 xh_X12_takes rfl ⟨Nat.le_of_ble_eq_true rfl, Nat.le_of_ble_eq_true rfl⟩ (Nat.le_of_ble_eq_true rfl) rfl d_X12_qKind_5 (fun r hr => ct_X12_takes l G v0 x1 h r hr) (fun r2 _ => ?_)
  refine xa_if (xa_ifeq d_X12_qKind_8) (fun q3 => ?_) (fun q3 => ?_)
  · refine xa_step (xa_aload_n d_X12_qKind_15 rfl) ?_
    refine xa_step (xa_aload_n d_X12_qKind_16 rfl) ?_
    refine xa_getf xR xc_12 (by decide) (fun _ => rfl) xw_1382 rfl d_X12_qKind_17 (fun x4 _ => ?_)
    refine xa_callVI (as := [xR x4]) (st := []) (M' := mX12_takes) (d' := 4) rfl xw_1658 xw_1660 xw_69 xw_1661 xw_177 xh_X12_takes rfl ⟨Nat.le_of_ble_eq_true rfl, Nat.le_of_ble_eq_true rfl⟩ (Nat.le_of_ble_eq_true rfl) rfl d_X12_qKind_20 (fun r hr => ct_X12_takes l G v0 x4 r2.2 r hr) (fun r5 _ => ?_)
    refine xa_if (xa_ifeq d_X12_qKind_23) (fun q6 => ?_) (fun q6 => ?_)
    · refine xa_step (xa_aload_n d_X12_qKind_30 rfl) ?_
      refine xa_step (xa_aload_n d_X12_qKind_31 rfl) ?_
      refine xa_getf xR xc_12 (by decide) (fun _ => rfl) xw_1383 rfl d_X12_qKind_32 (fun x7 _ => ?_)
      refine xa_callVI (as := [xR x7]) (st := []) (M' := mX12_takes) (d' := 4) rfl xw_1658 xw_1660 xw_69 xw_1661 xw_177 xh_X12_takes rfl ⟨Nat.le_of_ble_eq_true rfl, Nat.le_of_ble_eq_true rfl⟩ (Nat.le_of_ble_eq_true rfl) rfl d_X12_qKind_35 (fun r hr => ct_X12_takes l G v0 x7 r5.2 r hr) (fun r8 _ => ?_)
      refine xa_if (xa_ifeq d_X12_qKind_38) (fun q9 => ?_) (fun q9 => ?_)
      · refine xa_step (xa_aload_n d_X12_qKind_45 rfl) ?_
        refine xa_step (xa_aload_n d_X12_qKind_46 rfl) ?_
        refine xa_getf xR xc_12 (by decide) (fun _ => rfl) xw_1384 rfl d_X12_qKind_47 (fun x10 _ => ?_)
        refine xa_callVI (as := [xR x10]) (st := []) (M' := mX12_takes) (d' := 4) rfl xw_1658 xw_1660 xw_69 xw_1661 xw_177 xh_X12_takes rfl ⟨Nat.le_of_ble_eq_true rfl, Nat.le_of_ble_eq_true rfl⟩ (Nat.le_of_ble_eq_true rfl) rfl d_X12_qKind_50 (fun r hr => ct_X12_takes l G v0 x10 r8.2 r hr) (fun r11 _ => ?_)
        refine xa_if (xa_ifeq d_X12_qKind_53) (fun q12 => ?_) (fun q12 => ?_)
        · refine xa_step (xa_aload_n d_X12_qKind_60 rfl) ?_
          refine xa_step (xa_aload_n d_X12_qKind_61 rfl) ?_
          refine xa_getf xR xc_12 (by decide) (fun _ => rfl) xw_1385 rfl d_X12_qKind_62 (fun x13 _ => ?_)
          refine xa_callVI (as := [xR x13]) (st := []) (M' := mX12_takes) (d' := 4) rfl xw_1658 xw_1660 xw_69 xw_1661 xw_177 xh_X12_takes rfl ⟨Nat.le_of_ble_eq_true rfl, Nat.le_of_ble_eq_true rfl⟩ (Nat.le_of_ble_eq_true rfl) rfl d_X12_qKind_65 (fun r hr => ct_X12_takes l G v0 x13 r11.2 r hr) (fun r14 _ => ?_)
          refine xa_if (xa_ifeq d_X12_qKind_68) (fun q15 => ?_) (fun q15 => ?_)
          · refine xa_step (xa_iconst d_X12_qKind_75 xq_i_5) ?_
            exact xa_weak (ls' := [some (xR v0), none]) ⟨rfl, trivial⟩ (g_X12_qKind_J76 l G v0 5 r14.2)
          · refine xa_step (xa_iconst d_X12_qKind_71 xq_i_4) ?_
            refine xa_step (xa_goto d_X12_qKind_72) ?_
            exact xa_weak (ls' := [some (xR v0), none]) ⟨rfl, trivial⟩ (g_X12_qKind_J76 l G v0 4 r14.2)
        · refine xa_step (xa_iconst d_X12_qKind_56 xq_i_3) ?_
          refine xa_step (xa_goto d_X12_qKind_57) ?_
          exact xa_weak (ls' := [some (xR v0), none]) ⟨rfl, trivial⟩ (g_X12_qKind_J76 l G v0 3 r11.2)
      · refine xa_step (xa_iconst d_X12_qKind_41 xq_i_2) ?_
        refine xa_step (xa_goto d_X12_qKind_42) ?_
        exact xa_weak (ls' := [some (xR v0), none]) ⟨rfl, trivial⟩ (g_X12_qKind_J76 l G v0 2 r8.2)
    · refine xa_step (xa_iconst d_X12_qKind_26 xq_i_1) ?_
      refine xa_step (xa_goto d_X12_qKind_27) ?_
      exact xa_weak (ls' := [some (xR v0), none]) ⟨rfl, trivial⟩ (g_X12_qKind_J76 l G v0 1 r5.2)
  · refine xa_step (xa_iconst d_X12_qKind_11 xq_i_0) ?_
    refine xa_step (xa_goto d_X12_qKind_12) ?_
    exact xa_weak (ls' := [some (xR v0), none]) ⟨rfl, trivial⟩ (g_X12_qKind_J76 l G v0 0 r2.2)
theorem ct_X12_qKind (l : Launch) (G : xa_C) (v0 : Int) (h : xa_H) (r : Int × xa_H) (hr : f_X12_qKind v0 h = some r) : xa_CT l G 6 mX12_qKind yX12_qKind [xR v0] h (some (xI r.1), r.2) :=
  xa_met (by decide +kernel) rfl (fun q => by first | rfl | cases q) (Nat.le_of_ble_eq_true rfl) rfl (g_X12_qKind l G v0 h) (by rw [hr]; rfl)
abbrev mX12_qCode : xa_M := (cX12_qCode, 2, none, RX12, false)
theorem d_X12_qCode_0 : decode mX12_qCode.1 0 = .ok (.aload_n 0, 1) ∧ 0 + 1 = 1 := ⟨by decide +kernel, rfl⟩
theorem d_X12_qCode_1 : decode mX12_qCode.1 1 = .ok (.getfield 234, 3) ∧ 1 + 3 = 4 := ⟨by decide +kernel, rfl⟩
theorem d_X12_qCode_4 : decode mX12_qCode.1 4 = .ok (.aload_n 0, 1) ∧ 4 + 1 = 5 := ⟨by decide +kernel, rfl⟩
theorem d_X12_qCode_5 : decode mX12_qCode.1 5 = .ok (.getfield 335, 3) ∧ 5 + 3 = 8 := ⟨by decide +kernel, rfl⟩
theorem d_X12_qCode_8 : decode mX12_qCode.1 8 = .ok (.iload_n 1, 1) ∧ 8 + 1 = 9 := ⟨by decide +kernel, rfl⟩
theorem d_X12_qCode_9 : decode mX12_qCode.1 9 = .ok (.iastore, 1) ∧ 9 + 1 = 10 := ⟨by decide +kernel, rfl⟩
theorem d_X12_qCode_10 : decode mX12_qCode.1 10 = .ok (.aload_n 0, 1) ∧ 10 + 1 = 11 := ⟨by decide +kernel, rfl⟩
theorem d_X12_qCode_11 : decode mX12_qCode.1 11 = .ok (.dup, 1) ∧ 11 + 1 = 12 := ⟨by decide +kernel, rfl⟩
theorem d_X12_qCode_12 : decode mX12_qCode.1 12 = .ok (.getfield 335, 3) ∧ 12 + 3 = 15 := ⟨by decide +kernel, rfl⟩
theorem d_X12_qCode_15 : decode mX12_qCode.1 15 = .ok (.iconst 1, 1) ∧ 15 + 1 = 16 := ⟨by decide +kernel, rfl⟩
theorem d_X12_qCode_16 : decode mX12_qCode.1 16 = .ok (.iadd, 1) ∧ 16 + 1 = 17 := ⟨by decide +kernel, rfl⟩
theorem d_X12_qCode_17 : decode mX12_qCode.1 17 = .ok (.putfield 335, 3) ∧ 17 + 3 = 20 := ⟨by decide +kernel, rfl⟩
theorem d_X12_qCode_20 : decode mX12_qCode.1 20 = .ok (.return_, 1) := by decide +kernel
set_option maxRecDepth 100000 in
set_option maxHeartbeats 4000000 in
theorem g_X12_qCode (l : Launch) (G : xa_C) (v0 v1 : Int) (h : xa_H) : xa_G l G 2 mX12_qCode (f_X12_qCode v0 v1 h) (fun r => some (none, r) : xa_H → Option xa_O) 0 [some (xR v0), some (xI v1)] [] h := by
  unfold f_X12_qCode
  refine xa_step (xa_aload_n d_X12_qCode_0 rfl) ?_
  refine xa_getf xR xc_12 (by decide) (fun _ => rfl) xw_1401 rfl d_X12_qCode_1 (fun x1 _ => ?_)
  refine xa_step (xa_aload_n d_X12_qCode_4 rfl) ?_
  refine xa_getf xI xc_12 (by decide) (fun _ => rfl) xw_1402 rfl d_X12_qCode_5 (fun x2 _ => ?_)
  refine xa_step (xa_iload_n d_X12_qCode_8 rfl) ?_
  refine xa_iastore2 d_X12_qCode_9 (fun h3 _ => ?_)
  refine xa_step (xa_aload_n d_X12_qCode_10 rfl) ?_
  refine xa_step (xa_dup d_X12_qCode_11 (xa_tR _)) ?_
  refine xa_getf xI xc_12 (by decide) (fun _ => rfl) xw_1402 rfl d_X12_qCode_12 (fun x4 _ => ?_)
  refine xa_step (xa_iconst d_X12_qCode_15 xq_i_1) ?_
  refine xa_step (xa_iadd d_X12_qCode_16) ?_
  refine xa_putf2 (tg := xI) xc_12 (by decide) (fun _ => rfl) rfl (fun c hc => xa_fitI c hc) xw_1402 rfl d_X12_qCode_17 (fun h5 _ => ?_)
  exact xa_vret d_X12_qCode_20 rfl rfl
theorem ct_X12_qCode (l : Launch) (G : xa_C) (v0 v1 : Int) (h : xa_H) (r : xa_H) (hr : f_X12_qCode v0 v1 h = some r) : xa_CT l G 2 mX12_qCode yX12_qCode [xR v0, xI v1] h (none, r) :=
  xa_met (by decide +kernel) rfl (fun q => by first | rfl | cases q) (Nat.le_of_ble_eq_true rfl) rfl (g_X12_qCode l G v0 v1 h) (by rw [hr]; rfl)
abbrev mX12_qDrops : xa_M := (cX12_qDrops, 1, none, RX12, false)
theorem d_X12_qDrops_0 : decode mX12_qDrops.1 0 = .ok (.aload_n 0, 1) ∧ 0 + 1 = 1 := ⟨by decide +kernel, rfl⟩
theorem d_X12_qDrops_1 : decode mX12_qDrops.1 1 = .ok (.dup, 1) ∧ 1 + 1 = 2 := ⟨by decide +kernel, rfl⟩
theorem d_X12_qDrops_2 : decode mX12_qDrops.1 2 = .ok (.getfield 338, 3) ∧ 2 + 3 = 5 := ⟨by decide +kernel, rfl⟩
theorem d_X12_qDrops_5 : decode mX12_qDrops.1 5 = .ok (.iconst 1, 1) ∧ 5 + 1 = 6 := ⟨by decide +kernel, rfl⟩
theorem d_X12_qDrops_6 : decode mX12_qDrops.1 6 = .ok (.isub, 1) ∧ 6 + 1 = 7 := ⟨by decide +kernel, rfl⟩
theorem d_X12_qDrops_7 : decode mX12_qDrops.1 7 = .ok (.putfield 338, 3) ∧ 7 + 3 = 10 := ⟨by decide +kernel, rfl⟩
theorem d_X12_qDrops_10 : decode mX12_qDrops.1 10 = .ok (.aload_n 0, 1) ∧ 10 + 1 = 11 := ⟨by decide +kernel, rfl⟩
theorem d_X12_qDrops_11 : decode mX12_qDrops.1 11 = .ok (.aload_n 0, 1) ∧ 11 + 1 = 12 := ⟨by decide +kernel, rfl⟩
theorem d_X12_qDrops_12 : decode mX12_qDrops.1 12 = .ok (.getfield 237, 3) ∧ 12 + 3 = 15 := ⟨by decide +kernel, rfl⟩
theorem d_X12_qDrops_15 : decode mX12_qDrops.1 15 = .ok (.aload_n 0, 1) ∧ 15 + 1 = 16 := ⟨by decide +kernel, rfl⟩
theorem d_X12_qDrops_16 : decode mX12_qDrops.1 16 = .ok (.getfield 338, 3) ∧ 16 + 3 = 19 := ⟨by decide +kernel, rfl⟩
theorem d_X12_qDrops_19 : decode mX12_qDrops.1 19 = .ok (.iaload, 1) ∧ 19 + 1 = 20 := ⟨by decide +kernel, rfl⟩
theorem d_X12_qDrops_20 : decode mX12_qDrops.1 20 = .ok (.invokevirtual 594, 3) ∧ 20 + 3 = 23 := ⟨by decide +kernel, rfl⟩
theorem d_X12_qDrops_23 : decode mX12_qDrops.1 23 = .ok (.return_, 1) := by decide +kernel
set_option maxRecDepth 100000 in
set_option maxHeartbeats 4000000 in
theorem g_X12_qDrops (l : Launch) (G : xa_C) (v0 : Int) (h : xa_H) : xa_G l G 3 mX12_qDrops (f_X12_qDrops v0 h) (fun r => some (none, r) : xa_H → Option xa_O) 0 [some (xR v0)] [] h := by
  unfold f_X12_qDrops
  refine xa_step (xa_aload_n d_X12_qDrops_0 rfl) ?_
  refine xa_step (xa_dup d_X12_qDrops_1 (xa_tR _)) ?_
  refine xa_getf xI xc_12 (by decide) (fun _ => rfl) xw_1404 rfl d_X12_qDrops_2 (fun x1 _ => ?_)
  refine xa_step (xa_iconst d_X12_qDrops_5 xq_i_1) ?_
  refine xa_step (xa_isub d_X12_qDrops_6) ?_
  refine xa_putf2 (tg := xI) xc_12 (by decide) (fun _ => rfl) rfl (fun c hc => xa_fitI c hc) xw_1404 rfl d_X12_qDrops_7 (fun h2 _ => ?_)
  refine xa_step (xa_aload_n d_X12_qDrops_10 rfl) ?_
  refine xa_step (xa_aload_n d_X12_qDrops_11 rfl) ?_
  refine xa_getf xR xc_12 (by decide) (fun _ => rfl) xw_1403 rfl d_X12_qDrops_12 (fun x3 _ => ?_)
  refine xa_step (xa_aload_n d_X12_qDrops_15 rfl) ?_
  refine xa_getf xI xc_12 (by decide) (fun _ => rfl) xw_1404 rfl d_X12_qDrops_16 (fun x4 _ => ?_)
  refine xa_iaload d_X12_qDrops_19 (fun x5 _ => ?_)
  refine xa_callVV (as := [xI x5]) (st := []) (M' := mX12_qCode) (d' := 2) rfl xw_1745 xw_1747 xw_88 xw_1748 xw_177 xh_X12_qCode rfl ⟨Nat.le_of_ble_eq_true rfl, Nat.le_of_ble_eq_true rfl⟩ (Nat.le_of_ble_eq_true rfl) rfl d_X12_qDrops_20 (fun r hr => ct_X12_qCode l G v0 x5 h2 r hr) (fun r6 _ => ?_)
  exact xa_vret d_X12_qDrops_23 rfl rfl
theorem ct_X12_qDrops (l : Launch) (G : xa_C) (v0 : Int) (h : xa_H) (r : xa_H) (hr : f_X12_qDrops v0 h = some r) : xa_CT l G 3 mX12_qDrops yX12_qDrops [xR v0] h (none, r) :=
  xa_met (by decide +kernel) rfl (fun q => by first | rfl | cases q) (Nat.le_of_ble_eq_true rfl) rfl (g_X12_qDrops l G v0 h) (by rw [hr]; rfl)
abbrev mX12_takesSign : xa_M := (cX12_takesSign, 2, (some (.boolean)), RX12, false)
theorem d_X12_takesSign_0 : decode mX12_takesSign.1 0 = .ok (.aload_n 0, 1) ∧ 0 + 1 = 1 := ⟨by decide +kernel, rfl⟩
theorem d_X12_takesSign_1 : decode mX12_takesSign.1 1 = .ok (.getfield 249, 3) ∧ 1 + 3 = 4 := ⟨by decide +kernel, rfl⟩
theorem d_X12_takesSign_4 : decode mX12_takesSign.1 4 = .ok (.ifCond .ne 11, 3) ∧ 4 + 3 = 7 ∧ ((4 : Nat) : Int) + 11 = ((15 : Nat) : Int) := ⟨by decide +kernel, rfl, rfl⟩
theorem d_X12_takesSign_7 : decode mX12_takesSign.1 7 = .ok (.aload_n 0, 1) ∧ 7 + 1 = 8 := ⟨by decide +kernel, rfl⟩
theorem d_X12_takesSign_8 : decode mX12_takesSign.1 8 = .ok (.invokevirtual 261, 3) ∧ 8 + 3 = 11 := ⟨by decide +kernel, rfl⟩
theorem d_X12_takesSign_11 : decode mX12_takesSign.1 11 = .ok (.iload_n 1, 1) ∧ 11 + 1 = 12 := ⟨by decide +kernel, rfl⟩
theorem d_X12_takesSign_12 : decode mX12_takesSign.1 12 = .ok (.if_icmp .eq 5, 3) ∧ 12 + 3 = 15 ∧ ((12 : Nat) : Int) + 5 = ((17 : Nat) : Int) := ⟨by decide +kernel, rfl, rfl⟩
theorem d_X12_takesSign_17 : decode mX12_takesSign.1 17 = .ok (.aload_n 0, 1) ∧ 17 + 1 = 18 := ⟨by decide +kernel, rfl⟩
theorem d_X12_takesSign_18 : decode mX12_takesSign.1 18 = .ok (.dup, 1) ∧ 18 + 1 = 19 := ⟨by decide +kernel, rfl⟩
theorem d_X12_takesSign_19 : decode mX12_takesSign.1 19 = .ok (.getfield 255, 3) ∧ 19 + 3 = 22 := ⟨by decide +kernel, rfl⟩
theorem d_X12_takesSign_22 : decode mX12_takesSign.1 22 = .ok (.iconst 1, 1) ∧ 22 + 1 = 23 := ⟨by decide +kernel, rfl⟩
theorem d_X12_takesSign_23 : decode mX12_takesSign.1 23 = .ok (.iadd, 1) ∧ 23 + 1 = 24 := ⟨by decide +kernel, rfl⟩
theorem d_X12_takesSign_24 : decode mX12_takesSign.1 24 = .ok (.putfield 255, 3) ∧ 24 + 3 = 27 := ⟨by decide +kernel, rfl⟩
theorem d_X12_takesSign_27 : decode mX12_takesSign.1 27 = .ok (.iconst 1, 1) ∧ 27 + 1 = 28 := ⟨by decide +kernel, rfl⟩
theorem d_X12_takesSign_28 : decode mX12_takesSign.1 28 = .ok (.ireturn, 1) := by decide +kernel
theorem d_X12_takesSign_15 : decode mX12_takesSign.1 15 = .ok (.iconst 0, 1) ∧ 15 + 1 = 16 := ⟨by decide +kernel, rfl⟩
theorem d_X12_takesSign_16 : decode mX12_takesSign.1 16 = .ok (.ireturn, 1) := by decide +kernel
set_option maxRecDepth 100000 in
set_option maxHeartbeats 4000000 in
theorem g_X12_takesSign (l : Launch) (G : xa_C) (v0 v1 : Int) (h : xa_H) : xa_G l G 3 mX12_takesSign (f_X12_takesSign v0 v1 h) (fun r => some (some (xI r.1), r.2) : (Int × xa_H) → Option xa_O) 0 [some (xR v0), some (xI v1)] [] h := by
  unfold f_X12_takesSign
  refine xa_step (xa_aload_n d_X12_takesSign_0 rfl) ?_
  refine xa_getf xI xc_12 (by decide) (fun _ => rfl) xw_1309 rfl d_X12_takesSign_1 (fun x1 _ => ?_)
  refine xa_if (xa_ifne d_X12_takesSign_4) (fun q2 => ?_) (fun q2 => ?_)
  · refine xa_step (xa_aload_n d_X12_takesSign_7 rfl) ?_
    refine xa_callVI (as := []) (st := []) (M' := mX12_look) (d' := 2) rfl xw_1646 xw_1648 xw_66 xw_1649 xw_177 xh_X12_look rfl ⟨Nat.le_of_ble_eq_true rfl, Nat.le_of_ble_eq_true rfl⟩ (Nat.le_of_ble_eq_true rfl) rfl d_X12_takesSign_8 (fun r hr => ct_X12_look l G v0 h r hr) (fun r3 _ => ?_)
    refine xa_step (xa_iload_n d_X12_takesSign_11 rfl) ?_
    refine xa_if (xa_icmpeq d_X12_takesSign_12) (fun q4 => ?_) (fun q4 => ?_)
    · refine xa_step (xa_aload_n d_X12_takesSign_17 rfl) ?_
      refine xa_step (xa_dup d_X12_takesSign_18 (xa_tR _)) ?_
      refine xa_getf xI xc_12 (by decide) (fun _ => rfl) xw_1306 rfl d_X12_takesSign_19 (fun x5 _ => ?_)
      refine xa_step (xa_iconst d_X12_takesSign_22 xq_i_1) ?_
      refine xa_step (xa_iadd d_X12_takesSign_23) ?_
      refine xa_putf2 (tg := xI) xc_12 (by decide) (fun _ => rfl) rfl (fun c hc => xa_fitI c hc) xw_1306 rfl d_X12_takesSign_24 (fun h6 _ => ?_)
      refine xa_step (xa_iconst d_X12_takesSign_27 xq_i_1) ?_
      exact xa_zret d_X12_takesSign_28 rfl (Or.inr rfl) rfl
    · refine xa_step (xa_iconst d_X12_takesSign_15 xq_i_0) ?_
      exact xa_zret d_X12_takesSign_16 rfl (Or.inl rfl) rfl
  · refine xa_step (xa_iconst d_X12_takesSign_15 xq_i_0) ?_
    exact xa_zret d_X12_takesSign_16 rfl (Or.inl rfl) rfl
theorem ct_X12_takesSign (l : Launch) (G : xa_C) (v0 v1 : Int) (h : xa_H) (r : Int × xa_H) (hr : f_X12_takesSign v0 v1 h = some r) : xa_CT l G 3 mX12_takesSign yX12_takesSign [xR v0, xI v1] h (some (xI r.1), r.2) :=
  xa_met (by decide +kernel) rfl (fun q => by first | rfl | cases q) (Nat.le_of_ble_eq_true rfl) rfl (g_X12_takesSign l G v0 v1 h) (by rw [hr]; rfl)
abbrev mX12_asksSign : xa_M := (cX12_asksSign, 2, none, RX12, false)
theorem d_X12_asksSign_0 : decode mX12_asksSign.1 0 = .ok (.aload_n 0, 1) ∧ 0 + 1 = 1 := ⟨by decide +kernel, rfl⟩
theorem d_X12_asksSign_1 : decode mX12_asksSign.1 1 = .ok (.getfield 249, 3) ∧ 1 + 3 = 4 := ⟨by decide +kernel, rfl⟩
theorem d_X12_asksSign_4 : decode mX12_asksSign.1 4 = .ok (.ifCond .ne 20, 3) ∧ 4 + 3 = 7 ∧ ((4 : Nat) : Int) + 20 = ((24 : Nat) : Int) := ⟨by decide +kernel, rfl, rfl⟩
theorem d_X12_asksSign_7 : decode mX12_asksSign.1 7 = .ok (.aload_n 0, 1) ∧ 7 + 1 = 8 := ⟨by decide +kernel, rfl⟩
theorem d_X12_asksSign_8 : decode mX12_asksSign.1 8 = .ok (.iload_n 1, 1) ∧ 8 + 1 = 9 := ⟨by decide +kernel, rfl⟩
theorem d_X12_asksSign_9 : decode mX12_asksSign.1 9 = .ok (.invokevirtual 283, 3) ∧ 9 + 3 = 12 := ⟨by decide +kernel, rfl⟩
theorem d_X12_asksSign_12 : decode mX12_asksSign.1 12 = .ok (.ifCond .ne 12, 3) ∧ 12 + 3 = 15 ∧ ((12 : Nat) : Int) + 12 = ((24 : Nat) : Int) := ⟨by decide +kernel, rfl, rfl⟩
theorem d_X12_asksSign_15 : decode mX12_asksSign.1 15 = .ok (.aload_n 0, 1) ∧ 15 + 1 = 16 := ⟨by decide +kernel, rfl⟩
theorem d_X12_asksSign_16 : decode mX12_asksSign.1 16 = .ok (.iconst 1, 1) ∧ 16 + 1 = 17 := ⟨by decide +kernel, rfl⟩
theorem d_X12_asksSign_17 : decode mX12_asksSign.1 17 = .ok (.aload_n 0, 1) ∧ 17 + 1 = 18 := ⟨by decide +kernel, rfl⟩
theorem d_X12_asksSign_18 : decode mX12_asksSign.1 18 = .ok (.getfield 255, 3) ∧ 18 + 3 = 21 := ⟨by decide +kernel, rfl⟩
theorem d_X12_asksSign_21 : decode mX12_asksSign.1 21 = .ok (.invokevirtual 279, 3) ∧ 21 + 3 = 24 := ⟨by decide +kernel, rfl⟩
theorem d_X12_asksSign_24 : decode mX12_asksSign.1 24 = .ok (.return_, 1) := by decide +kernel
set_option maxRecDepth 100000 in
set_option maxHeartbeats 4000000 in
theorem g_X12_asksSign (l : Launch) (G : xa_C) (v0 v1 : Int) (h : xa_H) : xa_G l G 4 mX12_asksSign (f_X12_asksSign v0 v1 h) (fun r => some (none, r) : xa_H → Option xa_O) 0 [some (xR v0), some (xI v1)] [] h := by
  unfold f_X12_asksSign
  refine xa_step (xa_aload_n d_X12_asksSign_0 rfl) ?_
  refine xa_getf xI xc_12 (by decide) (fun _ => rfl) xw_1309 rfl d_X12_asksSign_1 (fun x1 _ => ?_)
  refine xa_if (xa_ifne d_X12_asksSign_4) (fun q2 => ?_) (fun q2 => ?_)
  · refine xa_step (xa_aload_n d_X12_asksSign_7 rfl) ?_
    refine xa_step (xa_iload_n d_X12_asksSign_8 rfl) ?_
    refine xa_callVI (as := [xI v1]) (st := []) (M' := mX12_takesSign) (d' := 3) rfl xw_1773 xw_1775 xw_95 xw_1776 xw_177 xh_X12_takesSign rfl ⟨Nat.le_of_ble_eq_true rfl, Nat.le_of_ble_eq_true rfl⟩ (Nat.le_of_ble_eq_true rfl) rfl d_X12_asksSign_9 (fun r hr => ct_X12_takesSign l G v0 v1 h r hr) (fun r3 _ => ?_)
    refine xa_if (xa_ifne d_X12_asksSign_12) (fun q4 => ?_) (fun q4 => ?_)
    · refine xa_step (xa_aload_n d_X12_asksSign_15 rfl) ?_
      refine xa_step (xa_iconst d_X12_asksSign_16 xq_i_1) ?_
      refine xa_step (xa_aload_n d_X12_asksSign_17 rfl) ?_
      refine xa_getf xI xc_12 (by decide) (fun _ => rfl) xw_1306 rfl d_X12_asksSign_18 (fun x5 _ => ?_)
      refine xa_callVV (as := [xI 1, xI x5]) (st := []) (M' := mX12_fail) (d' := 2) rfl xw_1654 xw_1656 xw_68 xw_1657 xw_177 xh_X12_fail rfl ⟨Nat.le_of_ble_eq_true rfl, Nat.le_of_ble_eq_true rfl⟩ (Nat.le_of_ble_eq_true rfl) rfl d_X12_asksSign_21 (fun r hr => ct_X12_fail l G v0 1 x5 r3.2 r hr) (fun r6 _ => ?_)
      exact xa_vret d_X12_asksSign_24 rfl rfl
    · exact xa_vret d_X12_asksSign_24 rfl rfl
  · exact xa_vret d_X12_asksSign_24 rfl rfl
theorem ct_X12_asksSign (l : Launch) (G : xa_C) (v0 v1 : Int) (h : xa_H) (r : xa_H) (hr : f_X12_asksSign v0 v1 h = some r) : xa_CT l G 4 mX12_asksSign yX12_asksSign [xR v0, xI v1] h (none, r) :=
  xa_met (by decide +kernel) rfl (fun q => by first | rfl | cases q) (Nat.le_of_ble_eq_true rfl) rfl (g_X12_asksSign l G v0 v1 h) (by rw [hr]; rfl)
abbrev mX12_qIsBracket : xa_M := (cX12_qIsBracket, 1, (some (.boolean)), RX12, false)
theorem d_X12_qIsBracket_0 : decode mX12_qIsBracket.1 0 = .ok (.iload_n 0, 1) ∧ 0 + 1 = 1 := ⟨by decide +kernel, rfl⟩
theorem d_X12_qIsBracket_1 : decode mX12_qIsBracket.1 1 = .ok (.bipush 20, 2) ∧ 1 + 2 = 3 := ⟨by decide +kernel, rfl⟩
theorem d_X12_qIsBracket_3 : decode mX12_qIsBracket.1 3 = .ok (.if_icmp .lt 13, 3) ∧ 3 + 3 = 6 ∧ ((3 : Nat) : Int) + 13 = ((16 : Nat) : Int) := ⟨by decide +kernel, rfl, rfl⟩
theorem d_X12_qIsBracket_16 : decode mX12_qIsBracket.1 16 = .ok (.iconst 0, 1) ∧ 16 + 1 = 17 := ⟨by decide +kernel, rfl⟩
theorem d_X12_qIsBracket_17 : decode mX12_qIsBracket.1 17 = .ok (.ireturn, 1) := by decide +kernel
theorem d_X12_qIsBracket_6 : decode mX12_qIsBracket.1 6 = .ok (.iload_n 0, 1) ∧ 6 + 1 = 7 := ⟨by decide +kernel, rfl⟩
theorem d_X12_qIsBracket_7 : decode mX12_qIsBracket.1 7 = .ok (.bipush 24, 2) ∧ 7 + 2 = 9 := ⟨by decide +kernel, rfl⟩
theorem d_X12_qIsBracket_9 : decode mX12_qIsBracket.1 9 = .ok (.if_icmp .gt 7, 3) ∧ 9 + 3 = 12 ∧ ((9 : Nat) : Int) + 7 = ((16 : Nat) : Int) := ⟨by decide +kernel, rfl, rfl⟩
theorem d_X12_qIsBracket_12 : decode mX12_qIsBracket.1 12 = .ok (.iconst 1, 1) ∧ 12 + 1 = 13 := ⟨by decide +kernel, rfl⟩
theorem d_X12_qIsBracket_13 : decode mX12_qIsBracket.1 13 = .ok (.goto 4, 3) ∧ ((13 : Nat) : Int) + 4 = ((17 : Nat) : Int) := ⟨by decide +kernel, rfl⟩
set_option maxRecDepth 100000 in
set_option maxHeartbeats 4000000 in
theorem g_X12_qIsBracket (l : Launch) (G : xa_C) (v0 : Int) (h : xa_H) : xa_G l G 2 mX12_qIsBracket (f_X12_qIsBracket v0 h) (fun r => some (some (xI r), h) : Int → Option xa_O) 0 [some (xI v0)] [] h := by
  unfold f_X12_qIsBracket
  refine xa_step (xa_iload_n d_X12_qIsBracket_0 rfl) ?_
  refine xa_step (xa_bipush d_X12_qIsBracket_1 xq_b_20) ?_
  refine xa_if (xa_icmplt d_X12_qIsBracket_3) (fun q1 => ?_) (fun q1 => ?_)
  · refine xa_step (xa_iconst d_X12_qIsBracket_16 xq_i_0) ?_
    exact xa_zret d_X12_qIsBracket_17 rfl (Or.inl rfl) rfl
  · refine xa_step (xa_iload_n d_X12_qIsBracket_6 rfl) ?_
    refine xa_step (xa_bipush d_X12_qIsBracket_7 xq_b_24) ?_
    refine xa_if (xa_icmpgt d_X12_qIsBracket_9) (fun q2 => ?_) (fun q2 => ?_)
    · refine xa_step (xa_iconst d_X12_qIsBracket_16 xq_i_0) ?_
      exact xa_zret d_X12_qIsBracket_17 rfl (Or.inl rfl) rfl
    · refine xa_step (xa_iconst d_X12_qIsBracket_12 xq_i_1) ?_
      refine xa_step (xa_goto d_X12_qIsBracket_13) ?_
      exact xa_zret d_X12_qIsBracket_17 rfl (Or.inr rfl) rfl
theorem ct_X12_qIsBracket (l : Launch) (G : xa_C) (v0 : Int) (h : xa_H) (r : Int) (hr : f_X12_qIsBracket v0 h = some r) : xa_CT l G 2 mX12_qIsBracket yX12_qIsBracket [xI v0] h (some (xI r), h) :=
  xa_met (by decide +kernel) rfl (fun q => by first | rfl | cases q) (Nat.le_of_ble_eq_true rfl) rfl (g_X12_qIsBracket l G v0 h) (by rw [hr]; rfl)
abbrev mX12_qBracket : xa_M := (cX12_qBracket, 2, (some (.int)), RX12, false)
theorem d_X12_qBracket_0 : decode mX12_qBracket.1 0 = .ok (.aload_n 0, 1) ∧ 0 + 1 = 1 := ⟨by decide +kernel, rfl⟩
theorem d_X12_qBracket_1 : decode mX12_qBracket.1 1 = .ok (.getfield 338, 3) ∧ 1 + 3 = 4 := ⟨by decide +kernel, rfl⟩
theorem d_X12_qBracket_4 : decode mX12_qBracket.1 4 = .ok (.iconst 1, 1) ∧ 4 + 1 = 5 := ⟨by decide +kernel, rfl⟩
theorem d_X12_qBracket_5 : decode mX12_qBracket.1 5 = .ok (.isub, 1) ∧ 5 + 1 = 6 := ⟨by decide +kernel, rfl⟩
theorem d_X12_qBracket_6 : decode mX12_qBracket.1 6 = .ok (.istore_n 1, 1) ∧ 6 + 1 = 7 := ⟨by decide +kernel, rfl⟩
theorem d_X12_qBracket_7 : decode mX12_qBracket.1 7 = .ok (.iload_n 1, 1) ∧ 7 + 1 = 8 := ⟨by decide +kernel, rfl⟩
theorem d_X12_qBracket_8 : decode mX12_qBracket.1 8 = .ok (.aload_n 0, 1) ∧ 8 + 1 = 9 := ⟨by decide +kernel, rfl⟩
theorem d_X12_qBracket_9 : decode mX12_qBracket.1 9 = .ok (.getfield 344, 3) ∧ 9 + 3 = 12 := ⟨by decide +kernel, rfl⟩
theorem d_X12_qBracket_12 : decode mX12_qBracket.1 12 = .ok (.if_icmp .lt 21, 3) ∧ 12 + 3 = 15 ∧ ((12 : Nat) : Int) + 21 = ((33 : Nat) : Int) := ⟨by decide +kernel, rfl, rfl⟩
theorem d_X12_qBracket_15 : decode mX12_qBracket.1 15 = .ok (.aload_n 0, 1) ∧ 15 + 1 = 16 := ⟨by decide +kernel, rfl⟩
theorem d_X12_qBracket_16 : decode mX12_qBracket.1 16 = .ok (.getfield 237, 3) ∧ 16 + 3 = 19 := ⟨by decide +kernel, rfl⟩
theorem d_X12_qBracket_19 : decode mX12_qBracket.1 19 = .ok (.iload_n 1, 1) ∧ 19 + 1 = 20 := ⟨by decide +kernel, rfl⟩
theorem d_X12_qBracket_20 : decode mX12_qBracket.1 20 = .ok (.iaload, 1) ∧ 20 + 1 = 21 := ⟨by decide +kernel, rfl⟩
theorem d_X12_qBracket_21 : decode mX12_qBracket.1 21 = .ok (.invokestatic 597, 3) ∧ 21 + 3 = 24 := ⟨by decide +kernel, rfl⟩
theorem d_X12_qBracket_24 : decode mX12_qBracket.1 24 = .ok (.ifCond .ne 9, 3) ∧ 24 + 3 = 27 ∧ ((24 : Nat) : Int) + 9 = ((33 : Nat) : Int) := ⟨by decide +kernel, rfl, rfl⟩
theorem d_X12_qBracket_27 : decode mX12_qBracket.1 27 = .ok (.iinc 1 (-1), 3) ∧ 27 + 3 = 30 := ⟨by decide +kernel, rfl⟩
theorem d_X12_qBracket_30 : decode mX12_qBracket.1 30 = .ok (.goto (-23), 3) ∧ ((30 : Nat) : Int) + (-23) = ((7 : Nat) : Int) := ⟨by decide +kernel, rfl⟩
set_option maxRecDepth 100000 in
set_option maxHeartbeats 4000000 in
theorem g_X12_qBracket_L7 (l : Launch) (G : xa_C) (c0 : Int) (h : xa_H) (K : (Int) ⊕ (Int) → Option xa_O) (hb : ∀ (v1 : Int), xa_G l G 3 mX12_qBracket (some (Sum.inl v1)) K 7 [some (xR c0), some (xI v1)] [] h) (hx : ∀ (v1 : Int), xa_G l G 3 mX12_qBracket (some (Sum.inr v1)) K 33 [some (xR c0), some (xI v1)] [] h) : ∀ (v1 : Int), xa_G l G 3 mX12_qBracket (f_X12_qBracket_L7 c0 h v1) K 7 [some (xR c0), some (xI v1)] [] h := by
  intro v1
  unfold f_X12_qBracket_L7
  refine xa_step (xa_iload_n d_X12_qBracket_7 rfl) ?_
  refine xa_step (xa_aload_n d_X12_qBracket_8 rfl) ?_
  refine xa_getf xI xc_12 (by decide) (fun _ => rfl) xw_1406 rfl d_X12_qBracket_9 (fun x2 _ => ?_)
  refine xa_if (xa_icmplt d_X12_qBracket_12) (fun q3 => ?_) (fun q3 => ?_)
  · exact xa_weak (ls' := [some (xR c0), some (xI v1)]) ⟨rfl, rfl, trivial⟩ (hx v1)
  · refine xa_step (xa_aload_n d_X12_qBracket_15 rfl) ?_
    refine xa_getf xR xc_12 (by decide) (fun _ => rfl) xw_1403 rfl d_X12_qBracket_16 (fun x4 _ => ?_)
    refine xa_step (xa_iload_n d_X12_qBracket_19 rfl) ?_
    refine xa_iaload d_X12_qBracket_20 (fun x5 _ => ?_)
    refine xa_callSi (as := [xI x5]) (st := []) (M' := mX12_qIsBracket) (d' := 2) xw_1797 xw_1798 xw_1799 xw_177 xh_X12_qIsBracket rfl ⟨Nat.le_of_ble_eq_true rfl, Nat.le_of_ble_eq_true rfl⟩ (Nat.le_of_ble_eq_true rfl) rfl d_X12_qBracket_21 (fun r hr => ct_X12_qIsBracket l G x5 h r hr) (fun r6 _ => ?_)
    refine xa_if (xa_ifne d_X12_qBracket_24) (fun q7 => ?_) (fun q7 => ?_)
    · refine xa_step (xa_iinc (ls' := [some (xR c0), some (xI (w32 (v1 + (-1))))]) d_X12_qBracket_27 xq_i_m1 rfl (by decide) rfl) ?_
      refine xa_step (xa_goto d_X12_qBracket_30) ?_
      exact xa_weak (ls' := [some (xR c0), some (xI (w32 (v1 + (-1))))]) ⟨rfl, rfl, trivial⟩ (hb (w32 (v1 + (-1))))
    · exact xa_weak (ls' := [some (xR c0), some (xI v1)]) ⟨rfl, rfl, trivial⟩ (hx v1)
theorem d_X12_qBracket_33 : decode mX12_qBracket.1 33 = .ok (.iload_n 1, 1) ∧ 33 + 1 = 34 := ⟨by decide +kernel, rfl⟩
theorem d_X12_qBracket_34 : decode mX12_qBracket.1 34 = .ok (.aload_n 0, 1) ∧ 34 + 1 = 35 := ⟨by decide +kernel, rfl⟩
theorem d_X12_qBracket_35 : decode mX12_qBracket.1 35 = .ok (.getfield 344, 3) ∧ 35 + 3 = 38 := ⟨by decide +kernel, rfl⟩
theorem d_X12_qBracket_38 : decode mX12_qBracket.1 38 = .ok (.if_icmp .lt 12, 3) ∧ 38 + 3 = 41 ∧ ((38 : Nat) : Int) + 12 = ((50 : Nat) : Int) := ⟨by decide +kernel, rfl, rfl⟩
theorem d_X12_qBracket_50 : decode mX12_qBracket.1 50 = .ok (.iconst (-1), 1) ∧ 50 + 1 = 51 := ⟨by decide +kernel, rfl⟩
theorem d_X12_qBracket_51 : decode mX12_qBracket.1 51 = .ok (.ireturn, 1) := by decide +kernel
theorem d_X12_qBracket_41 : decode mX12_qBracket.1 41 = .ok (.aload_n 0, 1) ∧ 41 + 1 = 42 := ⟨by decide +kernel, rfl⟩
theorem d_X12_qBracket_42 : decode mX12_qBracket.1 42 = .ok (.getfield 237, 3) ∧ 42 + 3 = 45 := ⟨by decide +kernel, rfl⟩
theorem d_X12_qBracket_45 : decode mX12_qBracket.1 45 = .ok (.iload_n 1, 1) ∧ 45 + 1 = 46 := ⟨by decide +kernel, rfl⟩
theorem d_X12_qBracket_46 : decode mX12_qBracket.1 46 = .ok (.iaload, 1) ∧ 46 + 1 = 47 := ⟨by decide +kernel, rfl⟩
theorem d_X12_qBracket_47 : decode mX12_qBracket.1 47 = .ok (.goto 4, 3) ∧ ((47 : Nat) : Int) + 4 = ((51 : Nat) : Int) := ⟨by decide +kernel, rfl⟩
set_option maxRecDepth 100000 in
set_option maxHeartbeats 4000000 in
theorem g_X12_qBracket_J33 (l : Launch) (G : xa_C) (h : xa_H) : ∀ (v0 v1 : Int) , xa_G l G 3 mX12_qBracket (f_X12_qBracket_J33 v0 v1 h) (fun r => some (some (xI r), h) : Int → Option xa_O) 33 [some (xR v0), some (xI v1)] [] h := by
  intro v0 v1
  unfold f_X12_qBracket_J33
  refine xa_step (xa_iload_n d_X12_qBracket_33 rfl) ?_
  refine xa_step (xa_aload_n d_X12_qBracket_34 rfl) ?_
  refine xa_getf xI xc_12 (by decide) (fun _ => rfl) xw_1406 rfl d_X12_qBracket_35 (fun x9 _ => ?_)
  refine xa_if (xa_icmplt d_X12_qBracket_38) (fun q10 => ?_) (fun q10 => ?_)
  · refine xa_step (xa_iconst d_X12_qBracket_50 xq_i_m1) ?_
    exact xa_iret d_X12_qBracket_51 rfl rfl
  · refine xa_step (xa_aload_n d_X12_qBracket_41 rfl) ?_
    refine xa_getf xR xc_12 (by decide) (fun _ => rfl) xw_1403 rfl d_X12_qBracket_42 (fun x11 _ => ?_)
    refine xa_step (xa_iload_n d_X12_qBracket_45 rfl) ?_
    refine xa_iaload d_X12_qBracket_46 (fun x12 _ => ?_)
    refine xa_step (xa_goto d_X12_qBracket_47) ?_
    exact xa_iret d_X12_qBracket_51 rfl rfl
set_option maxRecDepth 100000 in
set_option maxHeartbeats 4000000 in
theorem g_X12_qBracket (l : Launch) (G : xa_C) (v0 : Int) (h : xa_H) : xa_G l G 3 mX12_qBracket (f_X12_qBracket v0 h) (fun r => some (some (xI r), h) : Int → Option xa_O) 0 [some (xR v0), none] [] h := by
  unfold f_X12_qBracket
  refine xa_step (xa_aload_n d_X12_qBracket_0 rfl) ?_
  refine xa_getf xI xc_12 (by decide) (fun _ => rfl) xw_1404 rfl d_X12_qBracket_1 (fun x1 _ => ?_)
  refine xa_step (xa_iconst d_X12_qBracket_4 xq_i_1) ?_
  refine xa_step (xa_isub d_X12_qBracket_5) ?_
  refine xa_step (xa_istore_n (ls' := [some (xR v0), some (xI (w32 (x1 - 1)))]) d_X12_qBracket_6 (by decide) rfl) ?_
  refine xa_weak (ls' := [some (xR v0), some (xI (w32 (x1 - 1)))]) ⟨rfl, rfl, trivial⟩ ?_
  refine xa_loop (f := fun s => f_X12_qBracket_L7 v0 h s) (L := fun s => [some (xR v0), some (xI s)]) (P := fun s => h) (X := (fun x K => xa_G l G 3 mX12_qBracket (some (Sum.inr x)) K 33 [some (xR v0), some (xI x)] [] h)) (fun K hb hX s => g_X12_qBracket_L7 l G v0 h K (fun w0 => hb w0) (fun w0 => hX w0) s) ?_ xFU (w32 (x1 - 1))
  intro e8 K hK
  refine xa_eqE hK ?_
  show xa_G l G 3 mX12_qBracket _ _ 33 [some (xR v0), some (xI e8)] [] h
  exact xa_weak (ls' := [some (xR v0), some (xI e8)]) ⟨rfl, rfl, trivial⟩ (g_X12_qBracket_J33 l G h v0 e8)
theorem ct_X12_qBracket (l : Launch) (G : xa_C) (v0 : Int) (h : xa_H) (r : Int) (hr : f_X12_qBracket v0 h = some r) : xa_CT l G 3 mX12_qBracket yX12_qBracket [xR v0] h (some (xI r), h) :=
  xa_met (by decide +kernel) rfl (fun q => by first | rfl | cases q) (Nat.le_of_ble_eq_true rfl) rfl (g_X12_qBracket l G v0 h) (by rw [hr]; rfl)
abbrev mX12_qDropsToBracket : xa_M := (cX12_qDropsToBracket, 1, none, RX12, false)
theorem d_X12_qDropsToBracket_0 : decode mX12_qDropsToBracket.1 0 = .ok (.aload_n 0, 1) ∧ 0 + 1 = 1 := ⟨by decide +kernel, rfl⟩
theorem d_X12_qDropsToBracket_1 : decode mX12_qDropsToBracket.1 1 = .ok (.getfield 338, 3) ∧ 1 + 3 = 4 := ⟨by decide +kernel, rfl⟩
theorem d_X12_qDropsToBracket_4 : decode mX12_qDropsToBracket.1 4 = .ok (.aload_n 0, 1) ∧ 4 + 1 = 5 := ⟨by decide +kernel, rfl⟩
theorem d_X12_qDropsToBracket_5 : decode mX12_qDropsToBracket.1 5 = .ok (.getfield 344, 3) ∧ 5 + 3 = 8 := ⟨by decide +kernel, rfl⟩
theorem d_X12_qDropsToBracket_8 : decode mX12_qDropsToBracket.1 8 = .ok (.if_icmp .le 27, 3) ∧ 8 + 3 = 11 ∧ ((8 : Nat) : Int) + 27 = ((35 : Nat) : Int) := ⟨by decide +kernel, rfl, rfl⟩
theorem d_X12_qDropsToBracket_11 : decode mX12_qDropsToBracket.1 11 = .ok (.aload_n 0, 1) ∧ 11 + 1 = 12 := ⟨by decide +kernel, rfl⟩
theorem d_X12_qDropsToBracket_12 : decode mX12_qDropsToBracket.1 12 = .ok (.getfield 237, 3) ∧ 12 + 3 = 15 := ⟨by decide +kernel, rfl⟩
theorem d_X12_qDropsToBracket_15 : decode mX12_qDropsToBracket.1 15 = .ok (.aload_n 0, 1) ∧ 15 + 1 = 16 := ⟨by decide +kernel, rfl⟩
theorem d_X12_qDropsToBracket_16 : decode mX12_qDropsToBracket.1 16 = .ok (.getfield 338, 3) ∧ 16 + 3 = 19 := ⟨by decide +kernel, rfl⟩
theorem d_X12_qDropsToBracket_19 : decode mX12_qDropsToBracket.1 19 = .ok (.iconst 1, 1) ∧ 19 + 1 = 20 := ⟨by decide +kernel, rfl⟩
theorem d_X12_qDropsToBracket_20 : decode mX12_qDropsToBracket.1 20 = .ok (.isub, 1) ∧ 20 + 1 = 21 := ⟨by decide +kernel, rfl⟩
theorem d_X12_qDropsToBracket_21 : decode mX12_qDropsToBracket.1 21 = .ok (.iaload, 1) ∧ 21 + 1 = 22 := ⟨by decide +kernel, rfl⟩
theorem d_X12_qDropsToBracket_22 : decode mX12_qDropsToBracket.1 22 = .ok (.invokestatic 597, 3) ∧ 22 + 3 = 25 := ⟨by decide +kernel, rfl⟩
theorem d_X12_qDropsToBracket_25 : decode mX12_qDropsToBracket.1 25 = .ok (.ifCond .ne 10, 3) ∧ 25 + 3 = 28 ∧ ((25 : Nat) : Int) + 10 = ((35 : Nat) : Int) := ⟨by decide +kernel, rfl, rfl⟩
theorem d_X12_qDropsToBracket_28 : decode mX12_qDropsToBracket.1 28 = .ok (.aload_n 0, 1) ∧ 28 + 1 = 29 := ⟨by decide +kernel, rfl⟩
theorem d_X12_qDropsToBracket_29 : decode mX12_qDropsToBracket.1 29 = .ok (.invokevirtual 600, 3) ∧ 29 + 3 = 32 := ⟨by decide +kernel, rfl⟩
theorem d_X12_qDropsToBracket_32 : decode mX12_qDropsToBracket.1 32 = .ok (.goto (-32), 3) ∧ ((32 : Nat) : Int) + (-32) = ((0 : Nat) : Int) := ⟨by decide +kernel, rfl⟩
set_option maxRecDepth 100000 in
set_option maxHeartbeats 4000000 in
theorem g_X12_qDropsToBracket_L0 (l : Launch) (G : xa_C) (c0 : Int) (K : (xa_H) ⊕ (xa_H) → Option xa_O) (hb : ∀ (h : xa_H), xa_G l G 4 mX12_qDropsToBracket (some (Sum.inl h)) K 0 [some (xR c0)] [] h) (hx : ∀ (h : xa_H), xa_G l G 4 mX12_qDropsToBracket (some (Sum.inr h)) K 35 [none] [] h) : ∀ (h : xa_H), xa_G l G 4 mX12_qDropsToBracket (f_X12_qDropsToBracket_L0 c0 h) K 0 [some (xR c0)] [] h := by
  intro h
  unfold f_X12_qDropsToBracket_L0
  refine xa_step (xa_aload_n d_X12_qDropsToBracket_0 rfl) ?_
  refine xa_getf xI xc_12 (by decide) (fun _ => rfl) xw_1404 rfl d_X12_qDropsToBracket_1 (fun x1 _ => ?_)
  refine xa_step (xa_aload_n d_X12_qDropsToBracket_4 rfl) ?_
  refine xa_getf xI xc_12 (by decide) (fun _ => rfl) xw_1406 rfl d_X12_qDropsToBracket_5 (fun x2 _ => ?_)
  refine xa_if (xa_icmple d_X12_qDropsToBracket_8) (fun q3 => ?_) (fun q3 => ?_)
  · refine xa_step (xa_aload_n d_X12_qDropsToBracket_11 rfl) ?_
    refine xa_getf xR xc_12 (by decide) (fun _ => rfl) xw_1403 rfl d_X12_qDropsToBracket_12 (fun x4 _ => ?_)
    refine xa_step (xa_aload_n d_X12_qDropsToBracket_15 rfl) ?_
    refine xa_getf xI xc_12 (by decide) (fun _ => rfl) xw_1404 rfl d_X12_qDropsToBracket_16 (fun x5 _ => ?_)
    refine xa_step (xa_iconst d_X12_qDropsToBracket_19 xq_i_1) ?_
    refine xa_step (xa_isub d_X12_qDropsToBracket_20) ?_
    refine xa_iaload d_X12_qDropsToBracket_21 (fun x6 _ => ?_)
    refine xa_callSi (as := [xI x6]) (st := []) (M' := mX12_qIsBracket) (d' := 2) xw_1797 xw_1798 xw_1799 xw_177 xh_X12_qIsBracket rfl ⟨Nat.le_of_ble_eq_true rfl, Nat.le_of_ble_eq_true rfl⟩ (Nat.le_of_ble_eq_true rfl) rfl d_X12_qDropsToBracket_22 (fun r hr => ct_X12_qIsBracket l G x6 h r hr) (fun r7 _ => ?_)
    refine xa_if (xa_ifne d_X12_qDropsToBracket_25) (fun q8 => ?_) (fun q8 => ?_)
    · refine xa_step (xa_aload_n d_X12_qDropsToBracket_28 rfl) ?_
      refine xa_callVV (as := []) (st := []) (M' := mX12_qDrops) (d' := 3) rfl xw_1785 xw_1787 xw_98 xw_1788 xw_177 xh_X12_qDrops rfl ⟨Nat.le_of_ble_eq_true rfl, Nat.le_of_ble_eq_true rfl⟩ (Nat.le_of_ble_eq_true rfl) rfl d_X12_qDropsToBracket_29 (fun r hr => ct_X12_qDrops l G c0 h r hr) (fun r9 _ => ?_)
      refine xa_step (xa_goto d_X12_qDropsToBracket_32) ?_
      exact xa_weak (ls' := [some (xR c0)]) ⟨rfl, trivial⟩ (hb r9)
    · exact xa_weak (ls' := [none]) trivial (hx h)
  · exact xa_weak (ls' := [none]) trivial (hx h)
theorem d_X12_qDropsToBracket_35 : decode mX12_qDropsToBracket.1 35 = .ok (.return_, 1) := by decide +kernel
set_option maxRecDepth 100000 in
set_option maxHeartbeats 4000000 in
theorem g_X12_qDropsToBracket (l : Launch) (G : xa_C) (v0 : Int) (h : xa_H) : xa_G l G 4 mX12_qDropsToBracket (f_X12_qDropsToBracket v0 h) (fun r => some (none, r) : xa_H → Option xa_O) 0 [some (xR v0)] [] h := by
  unfold f_X12_qDropsToBracket
  refine xa_weak (ls' := [some (xR v0)]) ⟨rfl, trivial⟩ ?_
  refine xa_loop (f := fun s => f_X12_qDropsToBracket_L0 v0 s) (L := fun s => [some (xR v0)]) (P := fun s => s) (X := (fun x K => xa_G l G 4 mX12_qDropsToBracket (some (Sum.inr x)) K 35 [none] [] x)) (fun K hb hX s => g_X12_qDropsToBracket_L0 l G v0 K (fun hh => hb hh) (fun hh => hX hh) s) ?_ xFU h
  intro e10 K hK
  refine xa_eqE hK ?_
  show xa_G l G 4 mX12_qDropsToBracket _ _ 35 [none] [] e10
  exact xa_vret d_X12_qDropsToBracket_35 rfl rfl
theorem ct_X12_qDropsToBracket (l : Launch) (G : xa_C) (v0 : Int) (h : xa_H) (r : xa_H) (hr : f_X12_qDropsToBracket v0 h = some r) : xa_CT l G 4 mX12_qDropsToBracket yX12_qDropsToBracket [xR v0] h (none, r) :=
  xa_met (by decide +kernel) rfl (fun q => by first | rfl | cases q) (Nat.le_of_ble_eq_true rfl) rfl (g_X12_qDropsToBracket l G v0 h) (by rw [hr]; rfl)
