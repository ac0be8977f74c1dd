/-! ===== facts of the law and of the two readers that throw ===== -/
theorem dX9_span_0 : pz_d cX9_span 0 1 1 (.iload_n 1) := ⟨by decide +kernel, rfl⟩
theorem dX9_span_1 : pz_j cX9_span 1 4 15 (.ifCond .lt 14) 14 := ⟨by decide +kernel, rfl, rfl⟩
theorem dX9_span_4 : pz_d cX9_span 4 1 5 (.iload_n 1) := ⟨by decide +kernel, rfl⟩
theorem dX9_span_5 : pz_d cX9_span 5 1 6 (.aload_n 0) := ⟨by decide +kernel, rfl⟩
theorem dX9_span_6 : pz_d cX9_span 6 3 9 (.getfield 16) := ⟨by decide +kernel, rfl⟩
theorem dX9_span_9 : pz_d cX9_span 9 3 12 (.getfield 92) := ⟨by decide +kernel, rfl⟩
theorem dX9_span_12 : pz_j cX9_span 12 15 25 (.if_icmp .lt 13) 13 := ⟨by decide +kernel, rfl, rfl⟩
theorem dX9_span_15 : pz_d cX9_span 15 3 18 (.new 116) := ⟨by decide +kernel, rfl⟩
theorem dX9_span_18 : pz_d cX9_span 18 1 19 (.dup) := ⟨by decide +kernel, rfl⟩
theorem dX9_span_19 : pz_d cX9_span 19 2 21 (.ldc 118) := ⟨by decide +kernel, rfl⟩
theorem dX9_span_21 : pz_d cX9_span 21 3 24 (.invokespecial 120) := ⟨by decide +kernel, rfl⟩
theorem dX9_span_24 : pz_d cX9_span 24 1 25 (.athrow) := ⟨by decide +kernel, rfl⟩
theorem dX9_span_25 : pz_d cX9_span 25 1 26 (.aload_n 0) := ⟨by decide +kernel, rfl⟩
theorem dX9_span_26 : pz_d cX9_span 26 3 29 (.getfield 16) := ⟨by decide +kernel, rfl⟩
theorem dX9_span_29 : pz_d cX9_span 29 3 32 (.getfield 123) := ⟨by decide +kernel, rfl⟩
theorem dX9_span_32 : pz_d cX9_span 32 1 33 (.iload_n 1) := ⟨by decide +kernel, rfl⟩
theorem dX9_span_33 : pz_d cX9_span 33 1 34 (.aaload) := ⟨by decide +kernel, rfl⟩
theorem dX9_span_34 : pz_d cX9_span 34 1 35 (.astore_n 3) := ⟨by decide +kernel, rfl⟩
theorem dX9_span_35 : pz_d cX9_span 35 1 36 (.iload_n 2) := ⟨by decide +kernel, rfl⟩
theorem dX9_span_36 : pz_d cX9_span 36 28 64 (.tableswitch 43 0 2 #[28, 33, 38]) := ⟨by decide +kernel, rfl⟩
theorem dX9_span_64 : pz_d cX9_span 64 1 65 (.aload_n 3) := ⟨by decide +kernel, rfl⟩
theorem dX9_span_65 : pz_d cX9_span 65 3 68 (.getfield 127) := ⟨by decide +kernel, rfl⟩
theorem dX9_span_68 : pz_d cX9_span 68 1 69 (.ireturn) := ⟨by decide +kernel, rfl⟩
theorem dX9_span_69 : pz_d cX9_span 69 1 70 (.aload_n 3) := ⟨by decide +kernel, rfl⟩
theorem dX9_span_70 : pz_d cX9_span 70 3 73 (.getfield 132) := ⟨by decide +kernel, rfl⟩
theorem dX9_span_73 : pz_d cX9_span 73 1 74 (.ireturn) := ⟨by decide +kernel, rfl⟩
theorem dX9_span_74 : pz_d cX9_span 74 1 75 (.aload_n 3) := ⟨by decide +kernel, rfl⟩
theorem dX9_span_75 : pz_d cX9_span 75 3 78 (.getfield 135) := ⟨by decide +kernel, rfl⟩
theorem dX9_span_78 : pz_d cX9_span 78 1 79 (.ireturn) := ⟨by decide +kernel, rfl⟩
theorem dX9_span_79 : pz_d cX9_span 79 3 82 (.new 116) := ⟨by decide +kernel, rfl⟩
theorem dX9_span_82 : pz_d cX9_span 82 1 83 (.dup) := ⟨by decide +kernel, rfl⟩
theorem dX9_span_83 : pz_d cX9_span 83 2 85 (.ldc 138) := ⟨by decide +kernel, rfl⟩
theorem dX9_span_85 : pz_d cX9_span 85 3 88 (.invokespecial 120) := ⟨by decide +kernel, rfl⟩
theorem dX9_span_88 : pz_d cX9_span 88 1 89 (.athrow) := ⟨by decide +kernel, rfl⟩
theorem dX9_spouse_0 : pz_d cX9_spouse 0 1 1 (.aload_n 0) := ⟨by decide +kernel, rfl⟩
theorem dX9_spouse_1 : pz_d cX9_spouse 1 3 4 (.getfield 16) := ⟨by decide +kernel, rfl⟩
theorem dX9_spouse_4 : pz_d cX9_spouse 4 1 5 (.iload_n 1) := ⟨by decide +kernel, rfl⟩
theorem dX9_spouse_5 : pz_d cX9_spouse 5 3 8 (.invokevirtual 140) := ⟨by decide +kernel, rfl⟩
theorem dX9_spouse_8 : pz_j cX9_spouse 8 11 21 (.ifCond .ne 13) 13 := ⟨by decide +kernel, rfl, rfl⟩
theorem dX9_spouse_11 : pz_d cX9_spouse 11 3 14 (.new 116) := ⟨by decide +kernel, rfl⟩
theorem dX9_spouse_14 : pz_d cX9_spouse 14 1 15 (.dup) := ⟨by decide +kernel, rfl⟩
theorem dX9_spouse_15 : pz_d cX9_spouse 15 2 17 (.ldc 143) := ⟨by decide +kernel, rfl⟩
theorem dX9_spouse_17 : pz_d cX9_spouse 17 3 20 (.invokespecial 120) := ⟨by decide +kernel, rfl⟩
theorem dX9_spouse_20 : pz_d cX9_spouse 20 1 21 (.athrow) := ⟨by decide +kernel, rfl⟩
theorem dX9_spouse_21 : pz_d cX9_spouse 21 1 22 (.aload_n 0) := ⟨by decide +kernel, rfl⟩
theorem dX9_spouse_22 : pz_d cX9_spouse 22 3 25 (.getfield 16) := ⟨by decide +kernel, rfl⟩
theorem dX9_spouse_25 : pz_d cX9_spouse 25 3 28 (.getfield 145) := ⟨by decide +kernel, rfl⟩
theorem dX9_spouse_28 : pz_d cX9_spouse 28 1 29 (.iload_n 1) := ⟨by decide +kernel, rfl⟩
theorem dX9_spouse_29 : pz_d cX9_spouse 29 1 30 (.aaload) := ⟨by decide +kernel, rfl⟩
theorem dX9_spouse_30 : pz_d cX9_spouse 30 1 31 (.astore_n 3) := ⟨by decide +kernel, rfl⟩
theorem dX9_spouse_31 : pz_d cX9_spouse 31 1 32 (.iload_n 2) := ⟨by decide +kernel, rfl⟩
theorem dX9_spouse_32 : pz_d cX9_spouse 32 56 88 (.tableswitch 110 0 9 #[56, 61, 66, 71, 76, 81, 86, 91, 96, 101]) := ⟨by decide +kernel, rfl⟩
theorem dX9_spouse_88 : pz_d cX9_spouse 88 1 89 (.aload_n 3) := ⟨by decide +kernel, rfl⟩
theorem dX9_spouse_89 : pz_d cX9_spouse 89 3 92 (.getfield 149) := ⟨by decide +kernel, rfl⟩
theorem dX9_spouse_92 : pz_d cX9_spouse 92 1 93 (.ireturn) := ⟨by decide +kernel, rfl⟩
theorem dX9_spouse_93 : pz_d cX9_spouse 93 1 94 (.aload_n 3) := ⟨by decide +kernel, rfl⟩
theorem dX9_spouse_94 : pz_d cX9_spouse 94 3 97 (.getfield 152) := ⟨by decide +kernel, rfl⟩
theorem dX9_spouse_97 : pz_d cX9_spouse 97 1 98 (.ireturn) := ⟨by decide +kernel, rfl⟩
theorem dX9_spouse_98 : pz_d cX9_spouse 98 1 99 (.aload_n 3) := ⟨by decide +kernel, rfl⟩
theorem dX9_spouse_99 : pz_d cX9_spouse 99 3 102 (.getfield 155) := ⟨by decide +kernel, rfl⟩
theorem dX9_spouse_102 : pz_d cX9_spouse 102 1 103 (.ireturn) := ⟨by decide +kernel, rfl⟩
theorem dX9_spouse_103 : pz_d cX9_spouse 103 1 104 (.aload_n 3) := ⟨by decide +kernel, rfl⟩
theorem dX9_spouse_104 : pz_d cX9_spouse 104 3 107 (.getfield 158) := ⟨by decide +kernel, rfl⟩
theorem dX9_spouse_107 : pz_d cX9_spouse 107 1 108 (.ireturn) := ⟨by decide +kernel, rfl⟩
theorem dX9_spouse_108 : pz_d cX9_spouse 108 1 109 (.aload_n 3) := ⟨by decide +kernel, rfl⟩
theorem dX9_spouse_109 : pz_d cX9_spouse 109 3 112 (.getfield 161) := ⟨by decide +kernel, rfl⟩
theorem dX9_spouse_112 : pz_d cX9_spouse 112 1 113 (.ireturn) := ⟨by decide +kernel, rfl⟩
theorem dX9_spouse_113 : pz_d cX9_spouse 113 1 114 (.aload_n 3) := ⟨by decide +kernel, rfl⟩
theorem dX9_spouse_114 : pz_d cX9_spouse 114 3 117 (.getfield 164) := ⟨by decide +kernel, rfl⟩
theorem dX9_spouse_117 : pz_d cX9_spouse 117 1 118 (.ireturn) := ⟨by decide +kernel, rfl⟩
theorem dX9_spouse_118 : pz_d cX9_spouse 118 1 119 (.aload_n 3) := ⟨by decide +kernel, rfl⟩
theorem dX9_spouse_119 : pz_d cX9_spouse 119 3 122 (.getfield 167) := ⟨by decide +kernel, rfl⟩
theorem dX9_spouse_122 : pz_d cX9_spouse 122 1 123 (.ireturn) := ⟨by decide +kernel, rfl⟩
theorem dX9_spouse_123 : pz_d cX9_spouse 123 1 124 (.aload_n 3) := ⟨by decide +kernel, rfl⟩
theorem dX9_spouse_124 : pz_d cX9_spouse 124 3 127 (.getfield 170) := ⟨by decide +kernel, rfl⟩
theorem dX9_spouse_127 : pz_d cX9_spouse 127 1 128 (.ireturn) := ⟨by decide +kernel, rfl⟩
theorem dX9_spouse_128 : pz_d cX9_spouse 128 1 129 (.aload_n 3) := ⟨by decide +kernel, rfl⟩
theorem dX9_spouse_129 : pz_d cX9_spouse 129 3 132 (.getfield 171) := ⟨by decide +kernel, rfl⟩
theorem dX9_spouse_132 : pz_d cX9_spouse 132 1 133 (.ireturn) := ⟨by decide +kernel, rfl⟩
theorem dX9_spouse_133 : pz_d cX9_spouse 133 1 134 (.aload_n 0) := ⟨by decide +kernel, rfl⟩
theorem dX9_spouse_134 : pz_d cX9_spouse 134 3 137 (.getfield 16) := ⟨by decide +kernel, rfl⟩
theorem dX9_spouse_137 : pz_d cX9_spouse 137 1 138 (.aload_n 3) := ⟨by decide +kernel, rfl⟩
theorem dX9_spouse_138 : pz_d cX9_spouse 138 3 141 (.invokevirtual 174) := ⟨by decide +kernel, rfl⟩
theorem dX9_spouse_141 : pz_d cX9_spouse 141 1 142 (.ireturn) := ⟨by decide +kernel, rfl⟩
theorem dX9_spouse_142 : pz_d cX9_spouse 142 3 145 (.new 116) := ⟨by decide +kernel, rfl⟩
theorem dX9_spouse_145 : pz_d cX9_spouse 145 1 146 (.dup) := ⟨by decide +kernel, rfl⟩
theorem dX9_spouse_146 : pz_d cX9_spouse 146 2 148 (.ldc 178) := ⟨by decide +kernel, rfl⟩
theorem dX9_spouse_148 : pz_d cX9_spouse 148 3 151 (.invokespecial 120) := ⟨by decide +kernel, rfl⟩
theorem dX9_spouse_151 : pz_d cX9_spouse 151 1 152 (.athrow) := ⟨by decide +kernel, rfl⟩
theorem dL_span_0 : pz_d cL_span 0 1 1 (.aload_n 3) := ⟨by decide +kernel, rfl⟩
theorem dL_span_1 : pz_d cL_span 1 1 2 (.iconst 0) := ⟨by decide +kernel, rfl⟩
theorem dL_span_2 : pz_d cL_span 2 1 3 (.aload_n 0) := ⟨by decide +kernel, rfl⟩
theorem dL_span_3 : pz_d cL_span 3 1 4 (.iload_n 1) := ⟨by decide +kernel, rfl⟩
theorem dL_span_4 : pz_d cL_span 4 1 5 (.iload_n 2) := ⟨by decide +kernel, rfl⟩
theorem dL_span_5 : pz_d cL_span 5 3 8 (.invokevirtual 7) := ⟨by decide +kernel, rfl⟩
theorem dL_span_8 : pz_d cL_span 8 1 9 (.i2l) := ⟨by decide +kernel, rfl⟩
theorem dL_span_9 : pz_d cL_span 9 1 10 (.lastore) := ⟨by decide +kernel, rfl⟩
theorem dL_span_10 : pz_j cL_span 10 13 17 (.goto 7) 7 := ⟨by decide +kernel, rfl, rfl⟩
theorem dL_span_13 : pz_d cL_span 13 2 15 (.astore 4) := ⟨by decide +kernel, rfl⟩
theorem dL_span_15 : pz_d cL_span 15 1 16 (.iconst 1) := ⟨by decide +kernel, rfl⟩
theorem dL_span_16 : pz_d cL_span 16 1 17 (.ireturn) := ⟨by decide +kernel, rfl⟩
theorem dL_span_17 : pz_d cL_span 17 1 18 (.iconst 0) := ⟨by decide +kernel, rfl⟩
theorem dL_span_18 : pz_d cL_span 18 1 19 (.ireturn) := ⟨by decide +kernel, rfl⟩
theorem dL_spouse_0 : pz_d cL_spouse 0 1 1 (.aload_n 3) := ⟨by decide +kernel, rfl⟩
theorem dL_spouse_1 : pz_d cL_spouse 1 1 2 (.iconst 0) := ⟨by decide +kernel, rfl⟩
theorem dL_spouse_2 : pz_d cL_spouse 2 1 3 (.aload_n 0) := ⟨by decide +kernel, rfl⟩
theorem dL_spouse_3 : pz_d cL_spouse 3 1 4 (.iload_n 1) := ⟨by decide +kernel, rfl⟩
theorem dL_spouse_4 : pz_d cL_spouse 4 1 5 (.iload_n 2) := ⟨by decide +kernel, rfl⟩
theorem dL_spouse_5 : pz_d cL_spouse 5 3 8 (.invokevirtual 15) := ⟨by decide +kernel, rfl⟩
theorem dL_spouse_8 : pz_d cL_spouse 8 1 9 (.i2l) := ⟨by decide +kernel, rfl⟩
theorem dL_spouse_9 : pz_d cL_spouse 9 1 10 (.lastore) := ⟨by decide +kernel, rfl⟩
theorem dL_spouse_10 : pz_j cL_spouse 10 13 17 (.goto 7) 7 := ⟨by decide +kernel, rfl, rfl⟩
theorem dL_spouse_13 : pz_d cL_spouse 13 2 15 (.astore 4) := ⟨by decide +kernel, rfl⟩
theorem dL_spouse_15 : pz_d cL_spouse 15 1 16 (.iconst 1) := ⟨by decide +kernel, rfl⟩
theorem dL_spouse_16 : pz_d cL_spouse 16 1 17 (.ireturn) := ⟨by decide +kernel, rfl⟩
theorem dL_spouse_17 : pz_d cL_spouse 17 1 18 (.iconst 0) := ⟨by decide +kernel, rfl⟩
theorem dL_spouse_18 : pz_d cL_spouse 18 1 19 (.ireturn) := ⟨by decide +kernel, rfl⟩
theorem dL_law_0 : pz_d cL_law 0 3 3 (.new 8) := ⟨by decide +kernel, rfl⟩
theorem dL_law_3 : pz_d cL_law 3 1 4 (.dup) := ⟨by decide +kernel, rfl⟩
theorem dL_law_4 : pz_d cL_law 4 3 7 (.invokespecial 18) := ⟨by decide +kernel, rfl⟩
theorem dL_law_7 : pz_d cL_law 7 1 8 (.astore_n 1) := ⟨by decide +kernel, rfl⟩
theorem dL_law_8 : pz_d cL_law 8 3 11 (.new 19) := ⟨by decide +kernel, rfl⟩
theorem dL_law_11 : pz_d cL_law 11 1 12 (.dup) := ⟨by decide +kernel, rfl⟩
theorem dL_law_12 : pz_d cL_law 12 3 15 (.invokespecial 21) := ⟨by decide +kernel, rfl⟩
theorem dL_law_15 : pz_d cL_law 15 1 16 (.astore_n 2) := ⟨by decide +kernel, rfl⟩
theorem dL_law_16 : pz_d cL_law 16 1 17 (.iconst 1) := ⟨by decide +kernel, rfl⟩
theorem dL_law_17 : pz_d cL_law 17 2 19 (.newarray .long) := ⟨by decide +kernel, rfl⟩
theorem dL_law_19 : pz_d cL_law 19 1 20 (.astore_n 3) := ⟨by decide +kernel, rfl⟩
theorem dL_law_20 : pz_d cL_law 20 1 21 (.iconst 0) := ⟨by decide +kernel, rfl⟩
theorem dL_law_21 : pz_d cL_law 21 2 23 (.istore 4) := ⟨by decide +kernel, rfl⟩
theorem dL_law_23 : pz_d cL_law 23 2 25 (.iload 4) := ⟨by decide +kernel, rfl⟩
theorem dL_law_25 : pz_d cL_law 25 1 26 (.aload_n 0) := ⟨by decide +kernel, rfl⟩
theorem dL_law_26 : pz_d cL_law 26 1 27 (.arraylength) := ⟨by decide +kernel, rfl⟩
theorem dL_law_27 : pz_d cL_law 27 2 29 (.bipush 6) := ⟨by decide +kernel, rfl⟩
theorem dL_law_29 : pz_d cL_law 29 1 30 (.isub) := ⟨by decide +kernel, rfl⟩
theorem dL_law_30 : pz_j cL_law 30 33 1026 (.if_icmp .gt 996) 996 := ⟨by decide +kernel, rfl, rfl⟩
theorem dL_law_33 : pz_d cL_law 33 1 34 (.aload_n 0) := ⟨by decide +kernel, rfl⟩
theorem dL_law_34 : pz_d cL_law 34 2 36 (.iload 4) := ⟨by decide +kernel, rfl⟩
theorem dL_law_36 : pz_d cL_law 36 1 37 (.iaload) := ⟨by decide +kernel, rfl⟩
theorem dL_law_37 : pz_d cL_law 37 2 39 (.bipush 31) := ⟨by decide +kernel, rfl⟩
theorem dL_law_39 : pz_d cL_law 39 1 40 (.iand) := ⟨by decide +kernel, rfl⟩
theorem dL_law_40 : pz_d cL_law 40 116 156 (.tableswitch 980 0 24 #[116, 189, 214, 227, 240, 289, 302, 327, 395, 463, 500, 525, 550, 603, 641, 691, 716, 741, 766, 791, 841, 867, 905, 930, 955]) := ⟨by decide +kernel, rfl⟩
theorem dL_law_156 : pz_d cL_law 156 1 157 (.aload_n 1) := ⟨by decide +kernel, rfl⟩
theorem dL_law_157 : pz_d cL_law 157 1 158 (.aload_n 0) := ⟨by decide +kernel, rfl⟩
theorem dL_law_158 : pz_d cL_law 158 2 160 (.iload 4) := ⟨by decide +kernel, rfl⟩
theorem dL_law_160 : pz_d cL_law 160 1 161 (.iconst 1) := ⟨by decide +kernel, rfl⟩
theorem dL_law_161 : pz_d cL_law 161 1 162 (.iadd) := ⟨by decide +kernel, rfl⟩
theorem dL_law_162 : pz_d cL_law 162 1 163 (.iaload) := ⟨by decide +kernel, rfl⟩
theorem dL_law_163 : pz_d cL_law 163 1 164 (.aload_n 0) := ⟨by decide +kernel, rfl⟩
theorem dL_law_164 : pz_d cL_law 164 2 166 (.iload 4) := ⟨by decide +kernel, rfl⟩
theorem dL_law_166 : pz_d cL_law 166 1 167 (.iconst 2) := ⟨by decide +kernel, rfl⟩
theorem dL_law_167 : pz_d cL_law 167 1 168 (.iadd) := ⟨by decide +kernel, rfl⟩
theorem dL_law_168 : pz_d cL_law 168 1 169 (.iaload) := ⟨by decide +kernel, rfl⟩
theorem dL_law_169 : pz_d cL_law 169 1 170 (.aload_n 0) := ⟨by decide +kernel, rfl⟩
theorem dL_law_170 : pz_d cL_law 170 2 172 (.iload 4) := ⟨by decide +kernel, rfl⟩
theorem dL_law_172 : pz_d cL_law 172 1 173 (.iconst 3) := ⟨by decide +kernel, rfl⟩
theorem dL_law_173 : pz_d cL_law 173 1 174 (.iadd) := ⟨by decide +kernel, rfl⟩
theorem dL_law_174 : pz_d cL_law 174 1 175 (.iaload) := ⟨by decide +kernel, rfl⟩
theorem dL_law_175 : pz_d cL_law 175 1 176 (.aload_n 0) := ⟨by decide +kernel, rfl⟩
theorem dL_law_176 : pz_d cL_law 176 2 178 (.iload 4) := ⟨by decide +kernel, rfl⟩
theorem dL_law_178 : pz_d cL_law 178 1 179 (.iconst 4) := ⟨by decide +kernel, rfl⟩
theorem dL_law_179 : pz_d cL_law 179 1 180 (.iadd) := ⟨by decide +kernel, rfl⟩
theorem dL_law_180 : pz_d cL_law 180 1 181 (.iaload) := ⟨by decide +kernel, rfl⟩
theorem dL_law_181 : pz_d cL_law 181 1 182 (.aload_n 0) := ⟨by decide +kernel, rfl⟩
theorem dL_law_182 : pz_d cL_law 182 2 184 (.iload 4) := ⟨by decide +kernel, rfl⟩
theorem dL_law_184 : pz_d cL_law 184 1 185 (.iconst 5) := ⟨by decide +kernel, rfl⟩
theorem dL_law_185 : pz_d cL_law 185 1 186 (.iadd) := ⟨by decide +kernel, rfl⟩
theorem dL_law_186 : pz_d cL_law 186 1 187 (.iaload) := ⟨by decide +kernel, rfl⟩
theorem dL_law_187 : pz_d cL_law 187 3 190 (.invokevirtual 22) := ⟨by decide +kernel, rfl⟩
theorem dL_law_190 : pz_d cL_law 190 1 191 (.aload_n 2) := ⟨by decide +kernel, rfl⟩
theorem dL_law_191 : pz_d cL_law 191 1 192 (.aload_n 0) := ⟨by decide +kernel, rfl⟩
theorem dL_law_192 : pz_d cL_law 192 2 194 (.iload 4) := ⟨by decide +kernel, rfl⟩
theorem dL_law_194 : pz_d cL_law 194 1 195 (.iconst 1) := ⟨by decide +kernel, rfl⟩
theorem dL_law_195 : pz_d cL_law 195 1 196 (.iadd) := ⟨by decide +kernel, rfl⟩
theorem dL_law_196 : pz_d cL_law 196 1 197 (.iaload) := ⟨by decide +kernel, rfl⟩
theorem dL_law_197 : pz_d cL_law 197 1 198 (.aload_n 0) := ⟨by decide +kernel, rfl⟩
theorem dL_law_198 : pz_d cL_law 198 2 200 (.iload 4) := ⟨by decide +kernel, rfl⟩
theorem dL_law_200 : pz_d cL_law 200 1 201 (.iconst 2) := ⟨by decide +kernel, rfl⟩
theorem dL_law_201 : pz_d cL_law 201 1 202 (.iadd) := ⟨by decide +kernel, rfl⟩
theorem dL_law_202 : pz_d cL_law 202 1 203 (.iaload) := ⟨by decide +kernel, rfl⟩
theorem dL_law_203 : pz_d cL_law 203 1 204 (.aload_n 0) := ⟨by decide +kernel, rfl⟩
theorem dL_law_204 : pz_d cL_law 204 2 206 (.iload 4) := ⟨by decide +kernel, rfl⟩
theorem dL_law_206 : pz_d cL_law 206 1 207 (.iconst 3) := ⟨by decide +kernel, rfl⟩
theorem dL_law_207 : pz_d cL_law 207 1 208 (.iadd) := ⟨by decide +kernel, rfl⟩
theorem dL_law_208 : pz_d cL_law 208 1 209 (.iaload) := ⟨by decide +kernel, rfl⟩
theorem dL_law_209 : pz_d cL_law 209 1 210 (.aload_n 0) := ⟨by decide +kernel, rfl⟩
theorem dL_law_210 : pz_d cL_law 210 2 212 (.iload 4) := ⟨by decide +kernel, rfl⟩
theorem dL_law_212 : pz_d cL_law 212 1 213 (.iconst 4) := ⟨by decide +kernel, rfl⟩
theorem dL_law_213 : pz_d cL_law 213 1 214 (.iadd) := ⟨by decide +kernel, rfl⟩
theorem dL_law_214 : pz_d cL_law 214 1 215 (.iaload) := ⟨by decide +kernel, rfl⟩
theorem dL_law_215 : pz_d cL_law 215 1 216 (.aload_n 0) := ⟨by decide +kernel, rfl⟩
theorem dL_law_216 : pz_d cL_law 216 2 218 (.iload 4) := ⟨by decide +kernel, rfl⟩
theorem dL_law_218 : pz_d cL_law 218 1 219 (.iconst 5) := ⟨by decide +kernel, rfl⟩
theorem dL_law_219 : pz_d cL_law 219 1 220 (.iadd) := ⟨by decide +kernel, rfl⟩
theorem dL_law_220 : pz_d cL_law 220 1 221 (.iaload) := ⟨by decide +kernel, rfl⟩
theorem dL_law_221 : pz_d cL_law 221 3 224 (.invokevirtual 26) := ⟨by decide +kernel, rfl⟩
theorem dL_law_224 : pz_j cL_law 224 227 1020 (.if_icmp .eq 796) 796 := ⟨by decide +kernel, rfl, rfl⟩
theorem dL_law_227 : pz_d cL_law 227 1 228 (.iconst 0) := ⟨by decide +kernel, rfl⟩
theorem dL_law_228 : pz_d cL_law 228 1 229 (.ireturn) := ⟨by decide +kernel, rfl⟩
theorem dL_law_229 : pz_d cL_law 229 1 230 (.aload_n 1) := ⟨by decide +kernel, rfl⟩
theorem dL_law_230 : pz_d cL_law 230 1 231 (.aload_n 0) := ⟨by decide +kernel, rfl⟩
theorem dL_law_231 : pz_d cL_law 231 2 233 (.iload 4) := ⟨by decide +kernel, rfl⟩
theorem dL_law_233 : pz_d cL_law 233 1 234 (.iconst 1) := ⟨by decide +kernel, rfl⟩
theorem dL_law_234 : pz_d cL_law 234 1 235 (.iadd) := ⟨by decide +kernel, rfl⟩
theorem dL_law_235 : pz_d cL_law 235 1 236 (.iaload) := ⟨by decide +kernel, rfl⟩
theorem dL_law_236 : pz_d cL_law 236 3 239 (.invokevirtual 27) := ⟨by decide +kernel, rfl⟩
theorem dL_law_239 : pz_d cL_law 239 1 240 (.aload_n 2) := ⟨by decide +kernel, rfl⟩
theorem dL_law_240 : pz_d cL_law 240 1 241 (.aload_n 0) := ⟨by decide +kernel, rfl⟩
theorem dL_law_241 : pz_d cL_law 241 2 243 (.iload 4) := ⟨by decide +kernel, rfl⟩
theorem dL_law_243 : pz_d cL_law 243 1 244 (.iconst 1) := ⟨by decide +kernel, rfl⟩
theorem dL_law_244 : pz_d cL_law 244 1 245 (.iadd) := ⟨by decide +kernel, rfl⟩
theorem dL_law_245 : pz_d cL_law 245 1 246 (.iaload) := ⟨by decide +kernel, rfl⟩
theorem dL_law_246 : pz_d cL_law 246 3 249 (.invokevirtual 31) := ⟨by decide +kernel, rfl⟩
theorem dL_law_249 : pz_j cL_law 249 252 1020 (.if_icmp .eq 771) 771 := ⟨by decide +kernel, rfl, rfl⟩
theorem dL_law_252 : pz_d cL_law 252 1 253 (.iconst 0) := ⟨by decide +kernel, rfl⟩
theorem dL_law_253 : pz_d cL_law 253 1 254 (.ireturn) := ⟨by decide +kernel, rfl⟩
theorem dL_law_254 : pz_d cL_law 254 1 255 (.aload_n 1) := ⟨by decide +kernel, rfl⟩
theorem dL_law_255 : pz_d cL_law 255 3 258 (.invokevirtual 32) := ⟨by decide +kernel, rfl⟩
theorem dL_law_258 : pz_d cL_law 258 1 259 (.aload_n 2) := ⟨by decide +kernel, rfl⟩
theorem dL_law_259 : pz_d cL_law 259 3 262 (.invokevirtual 36) := ⟨by decide +kernel, rfl⟩
theorem dL_law_262 : pz_j cL_law 262 265 1020 (.if_icmp .eq 758) 758 := ⟨by decide +kernel, rfl, rfl⟩
theorem dL_law_265 : pz_d cL_law 265 1 266 (.iconst 0) := ⟨by decide +kernel, rfl⟩
theorem dL_law_266 : pz_d cL_law 266 1 267 (.ireturn) := ⟨by decide +kernel, rfl⟩
theorem dL_law_267 : pz_d cL_law 267 1 268 (.aload_n 1) := ⟨by decide +kernel, rfl⟩
theorem dL_law_268 : pz_d cL_law 268 3 271 (.invokevirtual 37) := ⟨by decide +kernel, rfl⟩
theorem dL_law_271 : pz_d cL_law 271 1 272 (.aload_n 2) := ⟨by decide +kernel, rfl⟩
theorem dL_law_272 : pz_d cL_law 272 3 275 (.invokevirtual 40) := ⟨by decide +kernel, rfl⟩
theorem dL_law_275 : pz_j cL_law 275 278 1020 (.if_icmp .eq 745) 745 := ⟨by decide +kernel, rfl, rfl⟩
theorem dL_law_278 : pz_d cL_law 278 1 279 (.iconst 0) := ⟨by decide +kernel, rfl⟩
theorem dL_law_279 : pz_d cL_law 279 1 280 (.ireturn) := ⟨by decide +kernel, rfl⟩
theorem dL_law_280 : pz_d cL_law 280 1 281 (.aload_n 1) := ⟨by decide +kernel, rfl⟩
theorem dL_law_281 : pz_d cL_law 281 1 282 (.aload_n 0) := ⟨by decide +kernel, rfl⟩
theorem dL_law_282 : pz_d cL_law 282 2 284 (.iload 4) := ⟨by decide +kernel, rfl⟩
theorem dL_law_284 : pz_d cL_law 284 1 285 (.iconst 1) := ⟨by decide +kernel, rfl⟩
theorem dL_law_285 : pz_d cL_law 285 1 286 (.iadd) := ⟨by decide +kernel, rfl⟩
theorem dL_law_286 : pz_d cL_law 286 1 287 (.iaload) := ⟨by decide +kernel, rfl⟩
theorem dL_law_287 : pz_d cL_law 287 1 288 (.aload_n 0) := ⟨by decide +kernel, rfl⟩
theorem dL_law_288 : pz_d cL_law 288 2 290 (.iload 4) := ⟨by decide +kernel, rfl⟩
theorem dL_law_290 : pz_d cL_law 290 1 291 (.iconst 2) := ⟨by decide +kernel, rfl⟩
theorem dL_law_291 : pz_d cL_law 291 1 292 (.iadd) := ⟨by decide +kernel, rfl⟩
theorem dL_law_292 : pz_d cL_law 292 1 293 (.iaload) := ⟨by decide +kernel, rfl⟩
theorem dL_law_293 : pz_d cL_law 293 1 294 (.aload_n 0) := ⟨by decide +kernel, rfl⟩
theorem dL_law_294 : pz_d cL_law 294 2 296 (.iload 4) := ⟨by decide +kernel, rfl⟩
theorem dL_law_296 : pz_d cL_law 296 1 297 (.iconst 3) := ⟨by decide +kernel, rfl⟩
theorem dL_law_297 : pz_d cL_law 297 1 298 (.iadd) := ⟨by decide +kernel, rfl⟩
theorem dL_law_298 : pz_d cL_law 298 1 299 (.iaload) := ⟨by decide +kernel, rfl⟩
theorem dL_law_299 : pz_d cL_law 299 3 302 (.invokevirtual 41) := ⟨by decide +kernel, rfl⟩
theorem dL_law_302 : pz_d cL_law 302 1 303 (.aload_n 2) := ⟨by decide +kernel, rfl⟩
theorem dL_law_303 : pz_d cL_law 303 1 304 (.aload_n 0) := ⟨by decide +kernel, rfl⟩
theorem dL_law_304 : pz_d cL_law 304 2 306 (.iload 4) := ⟨by decide +kernel, rfl⟩
theorem dL_law_306 : pz_d cL_law 306 1 307 (.iconst 1) := ⟨by decide +kernel, rfl⟩
theorem dL_law_307 : pz_d cL_law 307 1 308 (.iadd) := ⟨by decide +kernel, rfl⟩
theorem dL_law_308 : pz_d cL_law 308 1 309 (.iaload) := ⟨by decide +kernel, rfl⟩
theorem dL_law_309 : pz_d cL_law 309 1 310 (.aload_n 0) := ⟨by decide +kernel, rfl⟩
theorem dL_law_310 : pz_d cL_law 310 2 312 (.iload 4) := ⟨by decide +kernel, rfl⟩
theorem dL_law_312 : pz_d cL_law 312 1 313 (.iconst 2) := ⟨by decide +kernel, rfl⟩
theorem dL_law_313 : pz_d cL_law 313 1 314 (.iadd) := ⟨by decide +kernel, rfl⟩
theorem dL_law_314 : pz_d cL_law 314 1 315 (.iaload) := ⟨by decide +kernel, rfl⟩
theorem dL_law_315 : pz_d cL_law 315 1 316 (.aload_n 0) := ⟨by decide +kernel, rfl⟩
theorem dL_law_316 : pz_d cL_law 316 2 318 (.iload 4) := ⟨by decide +kernel, rfl⟩
theorem dL_law_318 : pz_d cL_law 318 1 319 (.iconst 3) := ⟨by decide +kernel, rfl⟩
theorem dL_law_319 : pz_d cL_law 319 1 320 (.iadd) := ⟨by decide +kernel, rfl⟩
theorem dL_law_320 : pz_d cL_law 320 1 321 (.iaload) := ⟨by decide +kernel, rfl⟩
theorem dL_law_321 : pz_d cL_law 321 3 324 (.invokevirtual 45) := ⟨by decide +kernel, rfl⟩
theorem dL_law_324 : pz_j cL_law 324 327 1020 (.if_icmp .eq 696) 696 := ⟨by decide +kernel, rfl, rfl⟩
theorem dL_law_327 : pz_d cL_law 327 1 328 (.iconst 0) := ⟨by decide +kernel, rfl⟩
theorem dL_law_328 : pz_d cL_law 328 1 329 (.ireturn) := ⟨by decide +kernel, rfl⟩
theorem dL_law_329 : pz_d cL_law 329 1 330 (.aload_n 1) := ⟨by decide +kernel, rfl⟩
theorem dL_law_330 : pz_d cL_law 330 3 333 (.invokevirtual 46) := ⟨by decide +kernel, rfl⟩
theorem dL_law_333 : pz_d cL_law 333 1 334 (.aload_n 2) := ⟨by decide +kernel, rfl⟩
theorem dL_law_334 : pz_d cL_law 334 3 337 (.invokevirtual 49) := ⟨by decide +kernel, rfl⟩
theorem dL_law_337 : pz_j cL_law 337 340 1020 (.if_icmp .eq 683) 683 := ⟨by decide +kernel, rfl, rfl⟩
theorem dL_law_340 : pz_d cL_law 340 1 341 (.iconst 0) := ⟨by decide +kernel, rfl⟩
theorem dL_law_341 : pz_d cL_law 341 1 342 (.ireturn) := ⟨by decide +kernel, rfl⟩
theorem dL_law_342 : pz_d cL_law 342 1 343 (.aload_n 1) := ⟨by decide +kernel, rfl⟩
theorem dL_law_343 : pz_d cL_law 343 1 344 (.aload_n 0) := ⟨by decide +kernel, rfl⟩
theorem dL_law_344 : pz_d cL_law 344 2 346 (.iload 4) := ⟨by decide +kernel, rfl⟩
theorem dL_law_346 : pz_d cL_law 346 1 347 (.iconst 1) := ⟨by decide +kernel, rfl⟩
theorem dL_law_347 : pz_d cL_law 347 1 348 (.iadd) := ⟨by decide +kernel, rfl⟩
theorem dL_law_348 : pz_d cL_law 348 1 349 (.iaload) := ⟨by decide +kernel, rfl⟩
theorem dL_law_349 : pz_d cL_law 349 3 352 (.invokevirtual 50) := ⟨by decide +kernel, rfl⟩
theorem dL_law_352 : pz_d cL_law 352 1 353 (.aload_n 2) := ⟨by decide +kernel, rfl⟩
theorem dL_law_353 : pz_d cL_law 353 1 354 (.aload_n 0) := ⟨by decide +kernel, rfl⟩
theorem dL_law_354 : pz_d cL_law 354 2 356 (.iload 4) := ⟨by decide +kernel, rfl⟩
theorem dL_law_356 : pz_d cL_law 356 1 357 (.iconst 1) := ⟨by decide +kernel, rfl⟩
theorem dL_law_357 : pz_d cL_law 357 1 358 (.iadd) := ⟨by decide +kernel, rfl⟩
theorem dL_law_358 : pz_d cL_law 358 1 359 (.iaload) := ⟨by decide +kernel, rfl⟩
theorem dL_law_359 : pz_d cL_law 359 3 362 (.invokevirtual 54) := ⟨by decide +kernel, rfl⟩
theorem dL_law_362 : pz_j cL_law 362 365 1020 (.if_icmp .eq 658) 658 := ⟨by decide +kernel, rfl, rfl⟩
theorem dL_law_365 : pz_d cL_law 365 1 366 (.iconst 0) := ⟨by decide +kernel, rfl⟩
theorem dL_law_366 : pz_d cL_law 366 1 367 (.ireturn) := ⟨by decide +kernel, rfl⟩
theorem dL_law_367 : pz_d cL_law 367 1 368 (.aload_n 1) := ⟨by decide +kernel, rfl⟩
theorem dL_law_368 : pz_d cL_law 368 1 369 (.aload_n 0) := ⟨by decide +kernel, rfl⟩
theorem dL_law_369 : pz_d cL_law 369 2 371 (.iload 4) := ⟨by decide +kernel, rfl⟩
theorem dL_law_371 : pz_d cL_law 371 1 372 (.iconst 1) := ⟨by decide +kernel, rfl⟩
theorem dL_law_372 : pz_d cL_law 372 1 373 (.iadd) := ⟨by decide +kernel, rfl⟩
theorem dL_law_373 : pz_d cL_law 373 1 374 (.iaload) := ⟨by decide +kernel, rfl⟩
theorem dL_law_374 : pz_d cL_law 374 1 375 (.aload_n 0) := ⟨by decide +kernel, rfl⟩
theorem dL_law_375 : pz_d cL_law 375 2 377 (.iload 4) := ⟨by decide +kernel, rfl⟩
theorem dL_law_377 : pz_d cL_law 377 1 378 (.iconst 2) := ⟨by decide +kernel, rfl⟩
theorem dL_law_378 : pz_d cL_law 378 1 379 (.iadd) := ⟨by decide +kernel, rfl⟩
theorem dL_law_379 : pz_d cL_law 379 1 380 (.iaload) := ⟨by decide +kernel, rfl⟩
theorem dL_law_380 : pz_d cL_law 380 1 381 (.aload_n 3) := ⟨by decide +kernel, rfl⟩
theorem dL_law_381 : pz_d cL_law 381 3 384 (.invokestatic 55) := ⟨by decide +kernel, rfl⟩
theorem dL_law_384 : pz_d cL_law 384 2 386 (.istore 5) := ⟨by decide +kernel, rfl⟩
theorem dL_law_386 : pz_d cL_law 386 1 387 (.aload_n 2) := ⟨by decide +kernel, rfl⟩
theorem dL_law_387 : pz_d cL_law 387 1 388 (.aload_n 0) := ⟨by decide +kernel, rfl⟩
theorem dL_law_388 : pz_d cL_law 388 2 390 (.iload 4) := ⟨by decide +kernel, rfl⟩
theorem dL_law_390 : pz_d cL_law 390 1 391 (.iconst 1) := ⟨by decide +kernel, rfl⟩
theorem dL_law_391 : pz_d cL_law 391 1 392 (.iadd) := ⟨by decide +kernel, rfl⟩
theorem dL_law_392 : pz_d cL_law 392 1 393 (.iaload) := ⟨by decide +kernel, rfl⟩
theorem dL_law_393 : pz_d cL_law 393 1 394 (.aload_n 0) := ⟨by decide +kernel, rfl⟩
theorem dL_law_394 : pz_d cL_law 394 2 396 (.iload 4) := ⟨by decide +kernel, rfl⟩
theorem dL_law_396 : pz_d cL_law 396 1 397 (.iconst 2) := ⟨by decide +kernel, rfl⟩
theorem dL_law_397 : pz_d cL_law 397 1 398 (.iadd) := ⟨by decide +kernel, rfl⟩
theorem dL_law_398 : pz_d cL_law 398 1 399 (.iaload) := ⟨by decide +kernel, rfl⟩
theorem dL_law_399 : pz_d cL_law 399 3 402 (.invokevirtual 60) := ⟨by decide +kernel, rfl⟩
theorem dL_law_402 : pz_d cL_law 402 2 404 (.istore 6) := ⟨by decide +kernel, rfl⟩
theorem dL_law_404 : pz_d cL_law 404 1 405 (.aload_n 2) := ⟨by decide +kernel, rfl⟩
theorem dL_law_405 : pz_d cL_law 405 3 408 (.invokevirtual 61) := ⟨by decide +kernel, rfl⟩
theorem dL_law_408 : pz_d cL_law 408 2 410 (.iload 5) := ⟨by decide +kernel, rfl⟩
theorem dL_law_410 : pz_j cL_law 410 413 415 (.if_icmp .eq 5) 5 := ⟨by decide +kernel, rfl, rfl⟩
theorem dL_law_413 : pz_d cL_law 413 1 414 (.iconst 0) := ⟨by decide +kernel, rfl⟩
theorem dL_law_414 : pz_d cL_law 414 1 415 (.ireturn) := ⟨by decide +kernel, rfl⟩
theorem dL_law_415 : pz_d cL_law 415 2 417 (.iload 5) := ⟨by decide +kernel, rfl⟩
theorem dL_law_417 : pz_j cL_law 417 420 432 (.ifCond .ne 15) 15 := ⟨by decide +kernel, rfl, rfl⟩
theorem dL_law_420 : pz_d cL_law 420 1 421 (.aload_n 3) := ⟨by decide +kernel, rfl⟩
theorem dL_law_421 : pz_d cL_law 421 1 422 (.iconst 0) := ⟨by decide +kernel, rfl⟩
theorem dL_law_422 : pz_d cL_law 422 1 423 (.laload) := ⟨by decide +kernel, rfl⟩
theorem dL_law_423 : pz_d cL_law 423 2 425 (.iload 6) := ⟨by decide +kernel, rfl⟩
theorem dL_law_425 : pz_d cL_law 425 1 426 (.i2l) := ⟨by decide +kernel, rfl⟩
theorem dL_law_426 : pz_d cL_law 426 1 427 (.lcmp) := ⟨by decide +kernel, rfl⟩
theorem dL_law_427 : pz_j cL_law 427 430 432 (.ifCond .eq 5) 5 := ⟨by decide +kernel, rfl, rfl⟩
theorem dL_law_430 : pz_d cL_law 430 1 431 (.iconst 0) := ⟨by decide +kernel, rfl⟩
theorem dL_law_431 : pz_d cL_law 431 1 432 (.ireturn) := ⟨by decide +kernel, rfl⟩
theorem dL_law_432 : pz_j cL_law 432 435 1020 (.goto 588) 588 := ⟨by decide +kernel, rfl, rfl⟩
theorem dL_law_435 : pz_d cL_law 435 1 436 (.aload_n 1) := ⟨by decide +kernel, rfl⟩
theorem dL_law_436 : pz_d cL_law 436 1 437 (.aload_n 0) := ⟨by decide +kernel, rfl⟩
theorem dL_law_437 : pz_d cL_law 437 2 439 (.iload 4) := ⟨by decide +kernel, rfl⟩
theorem dL_law_439 : pz_d cL_law 439 1 440 (.iconst 1) := ⟨by decide +kernel, rfl⟩
theorem dL_law_440 : pz_d cL_law 440 1 441 (.iadd) := ⟨by decide +kernel, rfl⟩
theorem dL_law_441 : pz_d cL_law 441 1 442 (.iaload) := ⟨by decide +kernel, rfl⟩
theorem dL_law_442 : pz_d cL_law 442 1 443 (.aload_n 0) := ⟨by decide +kernel, rfl⟩
theorem dL_law_443 : pz_d cL_law 443 2 445 (.iload 4) := ⟨by decide +kernel, rfl⟩
theorem dL_law_445 : pz_d cL_law 445 1 446 (.iconst 2) := ⟨by decide +kernel, rfl⟩
theorem dL_law_446 : pz_d cL_law 446 1 447 (.iadd) := ⟨by decide +kernel, rfl⟩
theorem dL_law_447 : pz_d cL_law 447 1 448 (.iaload) := ⟨by decide +kernel, rfl⟩
theorem dL_law_448 : pz_d cL_law 448 1 449 (.aload_n 3) := ⟨by decide +kernel, rfl⟩
theorem dL_law_449 : pz_d cL_law 449 3 452 (.invokestatic 64) := ⟨by decide +kernel, rfl⟩
theorem dL_law_452 : pz_d cL_law 452 2 454 (.istore 5) := ⟨by decide +kernel, rfl⟩
theorem dL_law_454 : pz_d cL_law 454 1 455 (.aload_n 2) := ⟨by decide +kernel, rfl⟩
theorem dL_law_455 : pz_d cL_law 455 1 456 (.aload_n 0) := ⟨by decide +kernel, rfl⟩
theorem dL_law_456 : pz_d cL_law 456 2 458 (.iload 4) := ⟨by decide +kernel, rfl⟩
theorem dL_law_458 : pz_d cL_law 458 1 459 (.iconst 1) := ⟨by decide +kernel, rfl⟩
theorem dL_law_459 : pz_d cL_law 459 1 460 (.iadd) := ⟨by decide +kernel, rfl⟩
theorem dL_law_460 : pz_d cL_law 460 1 461 (.iaload) := ⟨by decide +kernel, rfl⟩
theorem dL_law_461 : pz_d cL_law 461 1 462 (.aload_n 0) := ⟨by decide +kernel, rfl⟩
theorem dL_law_462 : pz_d cL_law 462 2 464 (.iload 4) := ⟨by decide +kernel, rfl⟩
theorem dL_law_464 : pz_d cL_law 464 1 465 (.iconst 2) := ⟨by decide +kernel, rfl⟩
theorem dL_law_465 : pz_d cL_law 465 1 466 (.iadd) := ⟨by decide +kernel, rfl⟩
theorem dL_law_466 : pz_d cL_law 466 1 467 (.iaload) := ⟨by decide +kernel, rfl⟩
theorem dL_law_467 : pz_d cL_law 467 3 470 (.invokevirtual 66) := ⟨by decide +kernel, rfl⟩
theorem dL_law_470 : pz_d cL_law 470 2 472 (.istore 6) := ⟨by decide +kernel, rfl⟩
theorem dL_law_472 : pz_d cL_law 472 1 473 (.aload_n 2) := ⟨by decide +kernel, rfl⟩
theorem dL_law_473 : pz_d cL_law 473 3 476 (.invokevirtual 61) := ⟨by decide +kernel, rfl⟩
theorem dL_law_476 : pz_d cL_law 476 2 478 (.iload 5) := ⟨by decide +kernel, rfl⟩
theorem dL_law_478 : pz_j cL_law 478 481 483 (.if_icmp .eq 5) 5 := ⟨by decide +kernel, rfl, rfl⟩
theorem dL_law_481 : pz_d cL_law 481 1 482 (.iconst 0) := ⟨by decide +kernel, rfl⟩
theorem dL_law_482 : pz_d cL_law 482 1 483 (.ireturn) := ⟨by decide +kernel, rfl⟩
theorem dL_law_483 : pz_d cL_law 483 2 485 (.iload 5) := ⟨by decide +kernel, rfl⟩
theorem dL_law_485 : pz_j cL_law 485 488 500 (.ifCond .ne 15) 15 := ⟨by decide +kernel, rfl, rfl⟩
theorem dL_law_488 : pz_d cL_law 488 1 489 (.aload_n 3) := ⟨by decide +kernel, rfl⟩
theorem dL_law_489 : pz_d cL_law 489 1 490 (.iconst 0) := ⟨by decide +kernel, rfl⟩
theorem dL_law_490 : pz_d cL_law 490 1 491 (.laload) := ⟨by decide +kernel, rfl⟩
theorem dL_law_491 : pz_d cL_law 491 2 493 (.iload 6) := ⟨by decide +kernel, rfl⟩
theorem dL_law_493 : pz_d cL_law 493 1 494 (.i2l) := ⟨by decide +kernel, rfl⟩
theorem dL_law_494 : pz_d cL_law 494 1 495 (.lcmp) := ⟨by decide +kernel, rfl⟩
theorem dL_law_495 : pz_j cL_law 495 498 500 (.ifCond .eq 5) 5 := ⟨by decide +kernel, rfl, rfl⟩
theorem dL_law_498 : pz_d cL_law 498 1 499 (.iconst 0) := ⟨by decide +kernel, rfl⟩
theorem dL_law_499 : pz_d cL_law 499 1 500 (.ireturn) := ⟨by decide +kernel, rfl⟩
theorem dL_law_500 : pz_j cL_law 500 503 1020 (.goto 520) 520 := ⟨by decide +kernel, rfl, rfl⟩
theorem dL_law_503 : pz_d cL_law 503 1 504 (.aload_n 1) := ⟨by decide +kernel, rfl⟩
theorem dL_law_504 : pz_d cL_law 504 1 505 (.aload_n 0) := ⟨by decide +kernel, rfl⟩
theorem dL_law_505 : pz_d cL_law 505 2 507 (.iload 4) := ⟨by decide +kernel, rfl⟩
theorem dL_law_507 : pz_d cL_law 507 1 508 (.iconst 1) := ⟨by decide +kernel, rfl⟩
theorem dL_law_508 : pz_d cL_law 508 1 509 (.iadd) := ⟨by decide +kernel, rfl⟩
theorem dL_law_509 : pz_d cL_law 509 1 510 (.iaload) := ⟨by decide +kernel, rfl⟩
theorem dL_law_510 : pz_d cL_law 510 1 511 (.aload_n 0) := ⟨by decide +kernel, rfl⟩
theorem dL_law_511 : pz_d cL_law 511 2 513 (.iload 4) := ⟨by decide +kernel, rfl⟩
theorem dL_law_513 : pz_d cL_law 513 1 514 (.iconst 2) := ⟨by decide +kernel, rfl⟩
theorem dL_law_514 : pz_d cL_law 514 1 515 (.iadd) := ⟨by decide +kernel, rfl⟩
theorem dL_law_515 : pz_d cL_law 515 1 516 (.iaload) := ⟨by decide +kernel, rfl⟩
theorem dL_law_516 : pz_d cL_law 516 3 519 (.invokevirtual 67) := ⟨by decide +kernel, rfl⟩
theorem dL_law_519 : pz_d cL_law 519 1 520 (.aload_n 2) := ⟨by decide +kernel, rfl⟩
theorem dL_law_520 : pz_d cL_law 520 1 521 (.aload_n 0) := ⟨by decide +kernel, rfl⟩
theorem dL_law_521 : pz_d cL_law 521 2 523 (.iload 4) := ⟨by decide +kernel, rfl⟩
theorem dL_law_523 : pz_d cL_law 523 1 524 (.iconst 1) := ⟨by decide +kernel, rfl⟩
theorem dL_law_524 : pz_d cL_law 524 1 525 (.iadd) := ⟨by decide +kernel, rfl⟩
theorem dL_law_525 : pz_d cL_law 525 1 526 (.iaload) := ⟨by decide +kernel, rfl⟩
theorem dL_law_526 : pz_d cL_law 526 1 527 (.aload_n 0) := ⟨by decide +kernel, rfl⟩
theorem dL_law_527 : pz_d cL_law 527 2 529 (.iload 4) := ⟨by decide +kernel, rfl⟩
theorem dL_law_529 : pz_d cL_law 529 1 530 (.iconst 2) := ⟨by decide +kernel, rfl⟩
theorem dL_law_530 : pz_d cL_law 530 1 531 (.iadd) := ⟨by decide +kernel, rfl⟩
theorem dL_law_531 : pz_d cL_law 531 1 532 (.iaload) := ⟨by decide +kernel, rfl⟩
theorem dL_law_532 : pz_d cL_law 532 3 535 (.invokevirtual 70) := ⟨by decide +kernel, rfl⟩
theorem dL_law_535 : pz_j cL_law 535 538 1020 (.if_icmp .eq 485) 485 := ⟨by decide +kernel, rfl, rfl⟩
theorem dL_law_538 : pz_d cL_law 538 1 539 (.iconst 0) := ⟨by decide +kernel, rfl⟩
theorem dL_law_539 : pz_d cL_law 539 1 540 (.ireturn) := ⟨by decide +kernel, rfl⟩
theorem dL_law_540 : pz_d cL_law 540 1 541 (.aload_n 1) := ⟨by decide +kernel, rfl⟩
theorem dL_law_541 : pz_d cL_law 541 1 542 (.aload_n 0) := ⟨by decide +kernel, rfl⟩
theorem dL_law_542 : pz_d cL_law 542 2 544 (.iload 4) := ⟨by decide +kernel, rfl⟩
theorem dL_law_544 : pz_d cL_law 544 1 545 (.iconst 1) := ⟨by decide +kernel, rfl⟩
theorem dL_law_545 : pz_d cL_law 545 1 546 (.iadd) := ⟨by decide +kernel, rfl⟩
theorem dL_law_546 : pz_d cL_law 546 1 547 (.iaload) := ⟨by decide +kernel, rfl⟩
theorem dL_law_547 : pz_d cL_law 547 3 550 (.invokevirtual 71) := ⟨by decide +kernel, rfl⟩
theorem dL_law_550 : pz_d cL_law 550 1 551 (.aload_n 2) := ⟨by decide +kernel, rfl⟩
theorem dL_law_551 : pz_d cL_law 551 1 552 (.aload_n 0) := ⟨by decide +kernel, rfl⟩
theorem dL_law_552 : pz_d cL_law 552 2 554 (.iload 4) := ⟨by decide +kernel, rfl⟩
theorem dL_law_554 : pz_d cL_law 554 1 555 (.iconst 1) := ⟨by decide +kernel, rfl⟩
theorem dL_law_555 : pz_d cL_law 555 1 556 (.iadd) := ⟨by decide +kernel, rfl⟩
theorem dL_law_556 : pz_d cL_law 556 1 557 (.iaload) := ⟨by decide +kernel, rfl⟩
theorem dL_law_557 : pz_d cL_law 557 3 560 (.invokevirtual 74) := ⟨by decide +kernel, rfl⟩
theorem dL_law_560 : pz_j cL_law 560 563 1020 (.if_icmp .eq 460) 460 := ⟨by decide +kernel, rfl, rfl⟩
theorem dL_law_563 : pz_d cL_law 563 1 564 (.iconst 0) := ⟨by decide +kernel, rfl⟩
theorem dL_law_564 : pz_d cL_law 564 1 565 (.ireturn) := ⟨by decide +kernel, rfl⟩
theorem dL_law_565 : pz_d cL_law 565 1 566 (.aload_n 1) := ⟨by decide +kernel, rfl⟩
theorem dL_law_566 : pz_d cL_law 566 1 567 (.aload_n 0) := ⟨by decide +kernel, rfl⟩
theorem dL_law_567 : pz_d cL_law 567 2 569 (.iload 4) := ⟨by decide +kernel, rfl⟩
theorem dL_law_569 : pz_d cL_law 569 1 570 (.iconst 1) := ⟨by decide +kernel, rfl⟩
theorem dL_law_570 : pz_d cL_law 570 1 571 (.iadd) := ⟨by decide +kernel, rfl⟩
theorem dL_law_571 : pz_d cL_law 571 1 572 (.iaload) := ⟨by decide +kernel, rfl⟩
theorem dL_law_572 : pz_d cL_law 572 3 575 (.invokevirtual 75) := ⟨by decide +kernel, rfl⟩
theorem dL_law_575 : pz_d cL_law 575 1 576 (.aload_n 2) := ⟨by decide +kernel, rfl⟩
theorem dL_law_576 : pz_d cL_law 576 1 577 (.aload_n 0) := ⟨by decide +kernel, rfl⟩
theorem dL_law_577 : pz_d cL_law 577 2 579 (.iload 4) := ⟨by decide +kernel, rfl⟩
theorem dL_law_579 : pz_d cL_law 579 1 580 (.iconst 1) := ⟨by decide +kernel, rfl⟩
theorem dL_law_580 : pz_d cL_law 580 1 581 (.iadd) := ⟨by decide +kernel, rfl⟩
theorem dL_law_581 : pz_d cL_law 581 1 582 (.iaload) := ⟨by decide +kernel, rfl⟩
theorem dL_law_582 : pz_d cL_law 582 3 585 (.invokevirtual 78) := ⟨by decide +kernel, rfl⟩
theorem dL_law_585 : pz_j cL_law 585 588 1020 (.if_icmp .eq 435) 435 := ⟨by decide +kernel, rfl, rfl⟩
theorem dL_law_588 : pz_d cL_law 588 1 589 (.iconst 0) := ⟨by decide +kernel, rfl⟩
theorem dL_law_589 : pz_d cL_law 589 1 590 (.ireturn) := ⟨by decide +kernel, rfl⟩
theorem dL_law_590 : pz_d cL_law 590 1 591 (.aload_n 1) := ⟨by decide +kernel, rfl⟩
theorem dL_law_591 : pz_d cL_law 591 1 592 (.aload_n 0) := ⟨by decide +kernel, rfl⟩
theorem dL_law_592 : pz_d cL_law 592 2 594 (.iload 4) := ⟨by decide +kernel, rfl⟩
theorem dL_law_594 : pz_d cL_law 594 1 595 (.iconst 1) := ⟨by decide +kernel, rfl⟩
theorem dL_law_595 : pz_d cL_law 595 1 596 (.iadd) := ⟨by decide +kernel, rfl⟩
theorem dL_law_596 : pz_d cL_law 596 1 597 (.iaload) := ⟨by decide +kernel, rfl⟩
theorem dL_law_597 : pz_d cL_law 597 1 598 (.aload_n 0) := ⟨by decide +kernel, rfl⟩
theorem dL_law_598 : pz_d cL_law 598 2 600 (.iload 4) := ⟨by decide +kernel, rfl⟩
theorem dL_law_600 : pz_d cL_law 600 1 601 (.iconst 2) := ⟨by decide +kernel, rfl⟩
theorem dL_law_601 : pz_d cL_law 601 1 602 (.iadd) := ⟨by decide +kernel, rfl⟩
theorem dL_law_602 : pz_d cL_law 602 1 603 (.iaload) := ⟨by decide +kernel, rfl⟩
theorem dL_law_603 : pz_j cL_law 603 606 610 (.ifCond .eq 7) 7 := ⟨by decide +kernel, rfl, rfl⟩
theorem dL_law_606 : pz_d cL_law 606 1 607 (.iconst 1) := ⟨by decide +kernel, rfl⟩
theorem dL_law_607 : pz_j cL_law 607 610 611 (.goto 4) 4 := ⟨by decide +kernel, rfl, rfl⟩
theorem dL_law_610 : pz_d cL_law 610 1 611 (.iconst 0) := ⟨by decide +kernel, rfl⟩
theorem dL_law_611 : pz_d cL_law 611 3 614 (.invokevirtual 79) := ⟨by decide +kernel, rfl⟩
theorem dL_law_614 : pz_d cL_law 614 1 615 (.aload_n 2) := ⟨by decide +kernel, rfl⟩
theorem dL_law_615 : pz_d cL_law 615 1 616 (.aload_n 0) := ⟨by decide +kernel, rfl⟩
theorem dL_law_616 : pz_d cL_law 616 2 618 (.iload 4) := ⟨by decide +kernel, rfl⟩
theorem dL_law_618 : pz_d cL_law 618 1 619 (.iconst 1) := ⟨by decide +kernel, rfl⟩
theorem dL_law_619 : pz_d cL_law 619 1 620 (.iadd) := ⟨by decide +kernel, rfl⟩
theorem dL_law_620 : pz_d cL_law 620 1 621 (.iaload) := ⟨by decide +kernel, rfl⟩
theorem dL_law_621 : pz_d cL_law 621 1 622 (.aload_n 0) := ⟨by decide +kernel, rfl⟩
theorem dL_law_622 : pz_d cL_law 622 2 624 (.iload 4) := ⟨by decide +kernel, rfl⟩
theorem dL_law_624 : pz_d cL_law 624 1 625 (.iconst 2) := ⟨by decide +kernel, rfl⟩
theorem dL_law_625 : pz_d cL_law 625 1 626 (.iadd) := ⟨by decide +kernel, rfl⟩
theorem dL_law_626 : pz_d cL_law 626 1 627 (.iaload) := ⟨by decide +kernel, rfl⟩
theorem dL_law_627 : pz_j cL_law 627 630 634 (.ifCond .eq 7) 7 := ⟨by decide +kernel, rfl, rfl⟩
theorem dL_law_630 : pz_d cL_law 630 1 631 (.iconst 1) := ⟨by decide +kernel, rfl⟩
theorem dL_law_631 : pz_j cL_law 631 634 635 (.goto 4) 4 := ⟨by decide +kernel, rfl, rfl⟩
theorem dL_law_634 : pz_d cL_law 634 1 635 (.iconst 0) := ⟨by decide +kernel, rfl⟩
theorem dL_law_635 : pz_d cL_law 635 3 638 (.invokevirtual 83) := ⟨by decide +kernel, rfl⟩
theorem dL_law_638 : pz_j cL_law 638 641 1020 (.if_icmp .eq 382) 382 := ⟨by decide +kernel, rfl, rfl⟩
theorem dL_law_641 : pz_d cL_law 641 1 642 (.iconst 0) := ⟨by decide +kernel, rfl⟩
theorem dL_law_642 : pz_d cL_law 642 1 643 (.ireturn) := ⟨by decide +kernel, rfl⟩
theorem dL_law_643 : pz_d cL_law 643 1 644 (.aload_n 1) := ⟨by decide +kernel, rfl⟩
theorem dL_law_644 : pz_d cL_law 644 1 645 (.aload_n 0) := ⟨by decide +kernel, rfl⟩
theorem dL_law_645 : pz_d cL_law 645 2 647 (.iload 4) := ⟨by decide +kernel, rfl⟩
theorem dL_law_647 : pz_d cL_law 647 1 648 (.iconst 1) := ⟨by decide +kernel, rfl⟩
theorem dL_law_648 : pz_d cL_law 648 1 649 (.iadd) := ⟨by decide +kernel, rfl⟩
theorem dL_law_649 : pz_d cL_law 649 1 650 (.iaload) := ⟨by decide +kernel, rfl⟩
theorem dL_law_650 : pz_d cL_law 650 1 651 (.aload_n 0) := ⟨by decide +kernel, rfl⟩
theorem dL_law_651 : pz_d cL_law 651 2 653 (.iload 4) := ⟨by decide +kernel, rfl⟩
theorem dL_law_653 : pz_d cL_law 653 1 654 (.iconst 2) := ⟨by decide +kernel, rfl⟩
theorem dL_law_654 : pz_d cL_law 654 1 655 (.iadd) := ⟨by decide +kernel, rfl⟩
theorem dL_law_655 : pz_d cL_law 655 1 656 (.iaload) := ⟨by decide +kernel, rfl⟩
theorem dL_law_656 : pz_d cL_law 656 3 659 (.invokevirtual 84) := ⟨by decide +kernel, rfl⟩
theorem dL_law_659 : pz_d cL_law 659 1 660 (.aload_n 2) := ⟨by decide +kernel, rfl⟩
theorem dL_law_660 : pz_d cL_law 660 1 661 (.aload_n 0) := ⟨by decide +kernel, rfl⟩
theorem dL_law_661 : pz_d cL_law 661 2 663 (.iload 4) := ⟨by decide +kernel, rfl⟩
theorem dL_law_663 : pz_d cL_law 663 1 664 (.iconst 1) := ⟨by decide +kernel, rfl⟩
theorem dL_law_664 : pz_d cL_law 664 1 665 (.iadd) := ⟨by decide +kernel, rfl⟩
theorem dL_law_665 : pz_d cL_law 665 1 666 (.iaload) := ⟨by decide +kernel, rfl⟩
theorem dL_law_666 : pz_d cL_law 666 1 667 (.aload_n 0) := ⟨by decide +kernel, rfl⟩
theorem dL_law_667 : pz_d cL_law 667 2 669 (.iload 4) := ⟨by decide +kernel, rfl⟩
theorem dL_law_669 : pz_d cL_law 669 1 670 (.iconst 2) := ⟨by decide +kernel, rfl⟩
theorem dL_law_670 : pz_d cL_law 670 1 671 (.iadd) := ⟨by decide +kernel, rfl⟩
theorem dL_law_671 : pz_d cL_law 671 1 672 (.iaload) := ⟨by decide +kernel, rfl⟩
theorem dL_law_672 : pz_d cL_law 672 3 675 (.invokevirtual 88) := ⟨by decide +kernel, rfl⟩
theorem dL_law_675 : pz_d cL_law 675 1 676 (.lcmp) := ⟨by decide +kernel, rfl⟩
theorem dL_law_676 : pz_j cL_law 676 679 1020 (.ifCond .eq 344) 344 := ⟨by decide +kernel, rfl, rfl⟩
theorem dL_law_679 : pz_d cL_law 679 1 680 (.iconst 0) := ⟨by decide +kernel, rfl⟩
theorem dL_law_680 : pz_d cL_law 680 1 681 (.ireturn) := ⟨by decide +kernel, rfl⟩
theorem dL_law_681 : pz_d cL_law 681 1 682 (.aload_n 1) := ⟨by decide +kernel, rfl⟩
theorem dL_law_682 : pz_d cL_law 682 1 683 (.aload_n 0) := ⟨by decide +kernel, rfl⟩
theorem dL_law_683 : pz_d cL_law 683 2 685 (.iload 4) := ⟨by decide +kernel, rfl⟩
theorem dL_law_685 : pz_d cL_law 685 1 686 (.iconst 1) := ⟨by decide +kernel, rfl⟩
theorem dL_law_686 : pz_d cL_law 686 1 687 (.iadd) := ⟨by decide +kernel, rfl⟩
theorem dL_law_687 : pz_d cL_law 687 1 688 (.iaload) := ⟨by decide +kernel, rfl⟩
theorem dL_law_688 : pz_d cL_law 688 1 689 (.aload_n 0) := ⟨by decide +kernel, rfl⟩
theorem dL_law_689 : pz_d cL_law 689 2 691 (.iload 4) := ⟨by decide +kernel, rfl⟩
theorem dL_law_691 : pz_d cL_law 691 1 692 (.iconst 2) := ⟨by decide +kernel, rfl⟩
theorem dL_law_692 : pz_d cL_law 692 1 693 (.iadd) := ⟨by decide +kernel, rfl⟩
theorem dL_law_693 : pz_d cL_law 693 1 694 (.iaload) := ⟨by decide +kernel, rfl⟩
theorem dL_law_694 : pz_d cL_law 694 1 695 (.aload_n 0) := ⟨by decide +kernel, rfl⟩
theorem dL_law_695 : pz_d cL_law 695 2 697 (.iload 4) := ⟨by decide +kernel, rfl⟩
theorem dL_law_697 : pz_d cL_law 697 1 698 (.iconst 3) := ⟨by decide +kernel, rfl⟩
theorem dL_law_698 : pz_d cL_law 698 1 699 (.iadd) := ⟨by decide +kernel, rfl⟩
theorem dL_law_699 : pz_d cL_law 699 1 700 (.iaload) := ⟨by decide +kernel, rfl⟩
theorem dL_law_700 : pz_d cL_law 700 3 703 (.invokevirtual 89) := ⟨by decide +kernel, rfl⟩
theorem dL_law_703 : pz_d cL_law 703 1 704 (.aload_n 2) := ⟨by decide +kernel, rfl⟩
theorem dL_law_704 : pz_d cL_law 704 1 705 (.aload_n 0) := ⟨by decide +kernel, rfl⟩
theorem dL_law_705 : pz_d cL_law 705 2 707 (.iload 4) := ⟨by decide +kernel, rfl⟩
theorem dL_law_707 : pz_d cL_law 707 1 708 (.iconst 1) := ⟨by decide +kernel, rfl⟩
theorem dL_law_708 : pz_d cL_law 708 1 709 (.iadd) := ⟨by decide +kernel, rfl⟩
theorem dL_law_709 : pz_d cL_law 709 1 710 (.iaload) := ⟨by decide +kernel, rfl⟩
theorem dL_law_710 : pz_d cL_law 710 1 711 (.aload_n 0) := ⟨by decide +kernel, rfl⟩
theorem dL_law_711 : pz_d cL_law 711 2 713 (.iload 4) := ⟨by decide +kernel, rfl⟩
theorem dL_law_713 : pz_d cL_law 713 1 714 (.iconst 2) := ⟨by decide +kernel, rfl⟩
theorem dL_law_714 : pz_d cL_law 714 1 715 (.iadd) := ⟨by decide +kernel, rfl⟩
theorem dL_law_715 : pz_d cL_law 715 1 716 (.iaload) := ⟨by decide +kernel, rfl⟩
theorem dL_law_716 : pz_d cL_law 716 1 717 (.aload_n 0) := ⟨by decide +kernel, rfl⟩
theorem dL_law_717 : pz_d cL_law 717 2 719 (.iload 4) := ⟨by decide +kernel, rfl⟩
theorem dL_law_719 : pz_d cL_law 719 1 720 (.iconst 3) := ⟨by decide +kernel, rfl⟩
theorem dL_law_720 : pz_d cL_law 720 1 721 (.iadd) := ⟨by decide +kernel, rfl⟩
theorem dL_law_721 : pz_d cL_law 721 1 722 (.iaload) := ⟨by decide +kernel, rfl⟩
theorem dL_law_722 : pz_d cL_law 722 3 725 (.invokevirtual 93) := ⟨by decide +kernel, rfl⟩
theorem dL_law_725 : pz_d cL_law 725 1 726 (.lcmp) := ⟨by decide +kernel, rfl⟩
theorem dL_law_726 : pz_j cL_law 726 729 1020 (.ifCond .eq 294) 294 := ⟨by decide +kernel, rfl, rfl⟩
theorem dL_law_729 : pz_d cL_law 729 1 730 (.iconst 0) := ⟨by decide +kernel, rfl⟩
theorem dL_law_730 : pz_d cL_law 730 1 731 (.ireturn) := ⟨by decide +kernel, rfl⟩
theorem dL_law_731 : pz_d cL_law 731 1 732 (.aload_n 1) := ⟨by decide +kernel, rfl⟩
theorem dL_law_732 : pz_d cL_law 732 1 733 (.aload_n 0) := ⟨by decide +kernel, rfl⟩
theorem dL_law_733 : pz_d cL_law 733 2 735 (.iload 4) := ⟨by decide +kernel, rfl⟩
theorem dL_law_735 : pz_d cL_law 735 1 736 (.iconst 1) := ⟨by decide +kernel, rfl⟩
theorem dL_law_736 : pz_d cL_law 736 1 737 (.iadd) := ⟨by decide +kernel, rfl⟩
theorem dL_law_737 : pz_d cL_law 737 1 738 (.iaload) := ⟨by decide +kernel, rfl⟩
theorem dL_law_738 : pz_d cL_law 738 3 741 (.invokevirtual 94) := ⟨by decide +kernel, rfl⟩
theorem dL_law_741 : pz_d cL_law 741 1 742 (.aload_n 2) := ⟨by decide +kernel, rfl⟩
theorem dL_law_742 : pz_d cL_law 742 1 743 (.aload_n 0) := ⟨by decide +kernel, rfl⟩
theorem dL_law_743 : pz_d cL_law 743 2 745 (.iload 4) := ⟨by decide +kernel, rfl⟩
theorem dL_law_745 : pz_d cL_law 745 1 746 (.iconst 1) := ⟨by decide +kernel, rfl⟩
theorem dL_law_746 : pz_d cL_law 746 1 747 (.iadd) := ⟨by decide +kernel, rfl⟩
theorem dL_law_747 : pz_d cL_law 747 1 748 (.iaload) := ⟨by decide +kernel, rfl⟩
theorem dL_law_748 : pz_d cL_law 748 3 751 (.invokevirtual 97) := ⟨by decide +kernel, rfl⟩
theorem dL_law_751 : pz_j cL_law 751 754 1020 (.if_icmp .eq 269) 269 := ⟨by decide +kernel, rfl, rfl⟩
theorem dL_law_754 : pz_d cL_law 754 1 755 (.iconst 0) := ⟨by decide +kernel, rfl⟩
theorem dL_law_755 : pz_d cL_law 755 1 756 (.ireturn) := ⟨by decide +kernel, rfl⟩
theorem dL_law_756 : pz_d cL_law 756 1 757 (.aload_n 1) := ⟨by decide +kernel, rfl⟩
theorem dL_law_757 : pz_d cL_law 757 1 758 (.aload_n 0) := ⟨by decide +kernel, rfl⟩
theorem dL_law_758 : pz_d cL_law 758 2 760 (.iload 4) := ⟨by decide +kernel, rfl⟩
theorem dL_law_760 : pz_d cL_law 760 1 761 (.iconst 1) := ⟨by decide +kernel, rfl⟩
theorem dL_law_761 : pz_d cL_law 761 1 762 (.iadd) := ⟨by decide +kernel, rfl⟩
theorem dL_law_762 : pz_d cL_law 762 1 763 (.iaload) := ⟨by decide +kernel, rfl⟩
theorem dL_law_763 : pz_d cL_law 763 3 766 (.invokevirtual 98) := ⟨by decide +kernel, rfl⟩
theorem dL_law_766 : pz_d cL_law 766 1 767 (.aload_n 2) := ⟨by decide +kernel, rfl⟩
theorem dL_law_767 : pz_d cL_law 767 1 768 (.aload_n 0) := ⟨by decide +kernel, rfl⟩
theorem dL_law_768 : pz_d cL_law 768 2 770 (.iload 4) := ⟨by decide +kernel, rfl⟩
theorem dL_law_770 : pz_d cL_law 770 1 771 (.iconst 1) := ⟨by decide +kernel, rfl⟩
theorem dL_law_771 : pz_d cL_law 771 1 772 (.iadd) := ⟨by decide +kernel, rfl⟩
theorem dL_law_772 : pz_d cL_law 772 1 773 (.iaload) := ⟨by decide +kernel, rfl⟩
theorem dL_law_773 : pz_d cL_law 773 3 776 (.invokevirtual 101) := ⟨by decide +kernel, rfl⟩
theorem dL_law_776 : pz_j cL_law 776 779 1020 (.if_icmp .eq 244) 244 := ⟨by decide +kernel, rfl, rfl⟩
theorem dL_law_779 : pz_d cL_law 779 1 780 (.iconst 0) := ⟨by decide +kernel, rfl⟩
theorem dL_law_780 : pz_d cL_law 780 1 781 (.ireturn) := ⟨by decide +kernel, rfl⟩
theorem dL_law_781 : pz_d cL_law 781 1 782 (.aload_n 1) := ⟨by decide +kernel, rfl⟩
theorem dL_law_782 : pz_d cL_law 782 1 783 (.aload_n 0) := ⟨by decide +kernel, rfl⟩
theorem dL_law_783 : pz_d cL_law 783 2 785 (.iload 4) := ⟨by decide +kernel, rfl⟩
theorem dL_law_785 : pz_d cL_law 785 1 786 (.iconst 1) := ⟨by decide +kernel, rfl⟩
theorem dL_law_786 : pz_d cL_law 786 1 787 (.iadd) := ⟨by decide +kernel, rfl⟩
theorem dL_law_787 : pz_d cL_law 787 1 788 (.iaload) := ⟨by decide +kernel, rfl⟩
theorem dL_law_788 : pz_d cL_law 788 3 791 (.invokevirtual 102) := ⟨by decide +kernel, rfl⟩
theorem dL_law_791 : pz_d cL_law 791 1 792 (.aload_n 2) := ⟨by decide +kernel, rfl⟩
theorem dL_law_792 : pz_d cL_law 792 1 793 (.aload_n 0) := ⟨by decide +kernel, rfl⟩
theorem dL_law_793 : pz_d cL_law 793 2 795 (.iload 4) := ⟨by decide +kernel, rfl⟩
theorem dL_law_795 : pz_d cL_law 795 1 796 (.iconst 1) := ⟨by decide +kernel, rfl⟩
theorem dL_law_796 : pz_d cL_law 796 1 797 (.iadd) := ⟨by decide +kernel, rfl⟩
theorem dL_law_797 : pz_d cL_law 797 1 798 (.iaload) := ⟨by decide +kernel, rfl⟩
theorem dL_law_798 : pz_d cL_law 798 3 801 (.invokevirtual 105) := ⟨by decide +kernel, rfl⟩
theorem dL_law_801 : pz_j cL_law 801 804 1020 (.if_icmp .eq 219) 219 := ⟨by decide +kernel, rfl, rfl⟩
theorem dL_law_804 : pz_d cL_law 804 1 805 (.iconst 0) := ⟨by decide +kernel, rfl⟩
theorem dL_law_805 : pz_d cL_law 805 1 806 (.ireturn) := ⟨by decide +kernel, rfl⟩
theorem dL_law_806 : pz_d cL_law 806 1 807 (.aload_n 1) := ⟨by decide +kernel, rfl⟩
theorem dL_law_807 : pz_d cL_law 807 1 808 (.aload_n 0) := ⟨by decide +kernel, rfl⟩
theorem dL_law_808 : pz_d cL_law 808 2 810 (.iload 4) := ⟨by decide +kernel, rfl⟩
theorem dL_law_810 : pz_d cL_law 810 1 811 (.iconst 1) := ⟨by decide +kernel, rfl⟩
theorem dL_law_811 : pz_d cL_law 811 1 812 (.iadd) := ⟨by decide +kernel, rfl⟩
theorem dL_law_812 : pz_d cL_law 812 1 813 (.iaload) := ⟨by decide +kernel, rfl⟩
theorem dL_law_813 : pz_d cL_law 813 3 816 (.invokevirtual 106) := ⟨by decide +kernel, rfl⟩
theorem dL_law_816 : pz_d cL_law 816 1 817 (.aload_n 2) := ⟨by decide +kernel, rfl⟩
theorem dL_law_817 : pz_d cL_law 817 1 818 (.aload_n 0) := ⟨by decide +kernel, rfl⟩
theorem dL_law_818 : pz_d cL_law 818 2 820 (.iload 4) := ⟨by decide +kernel, rfl⟩
theorem dL_law_820 : pz_d cL_law 820 1 821 (.iconst 1) := ⟨by decide +kernel, rfl⟩
theorem dL_law_821 : pz_d cL_law 821 1 822 (.iadd) := ⟨by decide +kernel, rfl⟩
theorem dL_law_822 : pz_d cL_law 822 1 823 (.iaload) := ⟨by decide +kernel, rfl⟩
theorem dL_law_823 : pz_d cL_law 823 3 826 (.invokevirtual 109) := ⟨by decide +kernel, rfl⟩
theorem dL_law_826 : pz_j cL_law 826 829 1020 (.if_icmp .eq 194) 194 := ⟨by decide +kernel, rfl, rfl⟩
theorem dL_law_829 : pz_d cL_law 829 1 830 (.iconst 0) := ⟨by decide +kernel, rfl⟩
theorem dL_law_830 : pz_d cL_law 830 1 831 (.ireturn) := ⟨by decide +kernel, rfl⟩
theorem dL_law_831 : pz_d cL_law 831 1 832 (.aload_n 1) := ⟨by decide +kernel, rfl⟩
theorem dL_law_832 : pz_d cL_law 832 1 833 (.aload_n 0) := ⟨by decide +kernel, rfl⟩
theorem dL_law_833 : pz_d cL_law 833 2 835 (.iload 4) := ⟨by decide +kernel, rfl⟩
theorem dL_law_835 : pz_d cL_law 835 1 836 (.iconst 1) := ⟨by decide +kernel, rfl⟩
theorem dL_law_836 : pz_d cL_law 836 1 837 (.iadd) := ⟨by decide +kernel, rfl⟩
theorem dL_law_837 : pz_d cL_law 837 1 838 (.iaload) := ⟨by decide +kernel, rfl⟩
theorem dL_law_838 : pz_d cL_law 838 1 839 (.aload_n 0) := ⟨by decide +kernel, rfl⟩
theorem dL_law_839 : pz_d cL_law 839 2 841 (.iload 4) := ⟨by decide +kernel, rfl⟩
theorem dL_law_841 : pz_d cL_law 841 1 842 (.iconst 2) := ⟨by decide +kernel, rfl⟩
theorem dL_law_842 : pz_d cL_law 842 1 843 (.iadd) := ⟨by decide +kernel, rfl⟩
theorem dL_law_843 : pz_d cL_law 843 1 844 (.iaload) := ⟨by decide +kernel, rfl⟩
theorem dL_law_844 : pz_d cL_law 844 1 845 (.aload_n 0) := ⟨by decide +kernel, rfl⟩
theorem dL_law_845 : pz_d cL_law 845 2 847 (.iload 4) := ⟨by decide +kernel, rfl⟩
theorem dL_law_847 : pz_d cL_law 847 1 848 (.iconst 3) := ⟨by decide +kernel, rfl⟩
theorem dL_law_848 : pz_d cL_law 848 1 849 (.iadd) := ⟨by decide +kernel, rfl⟩
theorem dL_law_849 : pz_d cL_law 849 1 850 (.iaload) := ⟨by decide +kernel, rfl⟩
theorem dL_law_850 : pz_d cL_law 850 3 853 (.invokevirtual 110) := ⟨by decide +kernel, rfl⟩
theorem dL_law_853 : pz_d cL_law 853 1 854 (.aload_n 2) := ⟨by decide +kernel, rfl⟩
theorem dL_law_854 : pz_d cL_law 854 1 855 (.aload_n 0) := ⟨by decide +kernel, rfl⟩
theorem dL_law_855 : pz_d cL_law 855 2 857 (.iload 4) := ⟨by decide +kernel, rfl⟩
theorem dL_law_857 : pz_d cL_law 857 1 858 (.iconst 1) := ⟨by decide +kernel, rfl⟩
theorem dL_law_858 : pz_d cL_law 858 1 859 (.iadd) := ⟨by decide +kernel, rfl⟩
theorem dL_law_859 : pz_d cL_law 859 1 860 (.iaload) := ⟨by decide +kernel, rfl⟩
theorem dL_law_860 : pz_d cL_law 860 1 861 (.aload_n 0) := ⟨by decide +kernel, rfl⟩
theorem dL_law_861 : pz_d cL_law 861 2 863 (.iload 4) := ⟨by decide +kernel, rfl⟩
theorem dL_law_863 : pz_d cL_law 863 1 864 (.iconst 2) := ⟨by decide +kernel, rfl⟩
theorem dL_law_864 : pz_d cL_law 864 1 865 (.iadd) := ⟨by decide +kernel, rfl⟩
theorem dL_law_865 : pz_d cL_law 865 1 866 (.iaload) := ⟨by decide +kernel, rfl⟩
theorem dL_law_866 : pz_d cL_law 866 1 867 (.aload_n 0) := ⟨by decide +kernel, rfl⟩
theorem dL_law_867 : pz_d cL_law 867 2 869 (.iload 4) := ⟨by decide +kernel, rfl⟩
theorem dL_law_869 : pz_d cL_law 869 1 870 (.iconst 3) := ⟨by decide +kernel, rfl⟩
theorem dL_law_870 : pz_d cL_law 870 1 871 (.iadd) := ⟨by decide +kernel, rfl⟩
theorem dL_law_871 : pz_d cL_law 871 1 872 (.iaload) := ⟨by decide +kernel, rfl⟩
theorem dL_law_872 : pz_d cL_law 872 3 875 (.invokevirtual 113) := ⟨by decide +kernel, rfl⟩
theorem dL_law_875 : pz_d cL_law 875 1 876 (.lcmp) := ⟨by decide +kernel, rfl⟩
theorem dL_law_876 : pz_j cL_law 876 879 1020 (.ifCond .eq 144) 144 := ⟨by decide +kernel, rfl, rfl⟩
theorem dL_law_879 : pz_d cL_law 879 1 880 (.iconst 0) := ⟨by decide +kernel, rfl⟩
theorem dL_law_880 : pz_d cL_law 880 1 881 (.ireturn) := ⟨by decide +kernel, rfl⟩
theorem dL_law_881 : pz_d cL_law 881 1 882 (.aload_n 1) := ⟨by decide +kernel, rfl⟩
theorem dL_law_882 : pz_d cL_law 882 1 883 (.aload_n 0) := ⟨by decide +kernel, rfl⟩
theorem dL_law_883 : pz_d cL_law 883 2 885 (.iload 4) := ⟨by decide +kernel, rfl⟩
theorem dL_law_885 : pz_d cL_law 885 1 886 (.iconst 1) := ⟨by decide +kernel, rfl⟩
theorem dL_law_886 : pz_d cL_law 886 1 887 (.iadd) := ⟨by decide +kernel, rfl⟩
theorem dL_law_887 : pz_d cL_law 887 1 888 (.iaload) := ⟨by decide +kernel, rfl⟩
theorem dL_law_888 : pz_d cL_law 888 3 891 (.invokevirtual 114) := ⟨by decide +kernel, rfl⟩
theorem dL_law_891 : pz_d cL_law 891 1 892 (.aload_n 2) := ⟨by decide +kernel, rfl⟩
theorem dL_law_892 : pz_d cL_law 892 1 893 (.aload_n 0) := ⟨by decide +kernel, rfl⟩
theorem dL_law_893 : pz_d cL_law 893 2 895 (.iload 4) := ⟨by decide +kernel, rfl⟩
theorem dL_law_895 : pz_d cL_law 895 1 896 (.iconst 1) := ⟨by decide +kernel, rfl⟩
theorem dL_law_896 : pz_d cL_law 896 1 897 (.iadd) := ⟨by decide +kernel, rfl⟩
theorem dL_law_897 : pz_d cL_law 897 1 898 (.iaload) := ⟨by decide +kernel, rfl⟩
theorem dL_law_898 : pz_d cL_law 898 3 901 (.invokevirtual 118) := ⟨by decide +kernel, rfl⟩
theorem dL_law_901 : pz_d cL_law 901 1 902 (.lcmp) := ⟨by decide +kernel, rfl⟩
theorem dL_law_902 : pz_j cL_law 902 905 1020 (.ifCond .eq 118) 118 := ⟨by decide +kernel, rfl, rfl⟩
theorem dL_law_905 : pz_d cL_law 905 1 906 (.iconst 0) := ⟨by decide +kernel, rfl⟩
theorem dL_law_906 : pz_d cL_law 906 1 907 (.ireturn) := ⟨by decide +kernel, rfl⟩
theorem dL_law_907 : pz_d cL_law 907 1 908 (.aload_n 1) := ⟨by decide +kernel, rfl⟩
theorem dL_law_908 : pz_d cL_law 908 1 909 (.aload_n 0) := ⟨by decide +kernel, rfl⟩
theorem dL_law_909 : pz_d cL_law 909 2 911 (.iload 4) := ⟨by decide +kernel, rfl⟩
theorem dL_law_911 : pz_d cL_law 911 1 912 (.iconst 1) := ⟨by decide +kernel, rfl⟩
theorem dL_law_912 : pz_d cL_law 912 1 913 (.iadd) := ⟨by decide +kernel, rfl⟩
theorem dL_law_913 : pz_d cL_law 913 1 914 (.iaload) := ⟨by decide +kernel, rfl⟩
theorem dL_law_914 : pz_d cL_law 914 1 915 (.aload_n 0) := ⟨by decide +kernel, rfl⟩
theorem dL_law_915 : pz_d cL_law 915 2 917 (.iload 4) := ⟨by decide +kernel, rfl⟩
theorem dL_law_917 : pz_d cL_law 917 1 918 (.iconst 2) := ⟨by decide +kernel, rfl⟩
theorem dL_law_918 : pz_d cL_law 918 1 919 (.iadd) := ⟨by decide +kernel, rfl⟩
theorem dL_law_919 : pz_d cL_law 919 1 920 (.iaload) := ⟨by decide +kernel, rfl⟩
theorem dL_law_920 : pz_d cL_law 920 3 923 (.invokevirtual 119) := ⟨by decide +kernel, rfl⟩
theorem dL_law_923 : pz_d cL_law 923 1 924 (.aload_n 2) := ⟨by decide +kernel, rfl⟩
theorem dL_law_924 : pz_d cL_law 924 1 925 (.aload_n 0) := ⟨by decide +kernel, rfl⟩
theorem dL_law_925 : pz_d cL_law 925 2 927 (.iload 4) := ⟨by decide +kernel, rfl⟩
theorem dL_law_927 : pz_d cL_law 927 1 928 (.iconst 1) := ⟨by decide +kernel, rfl⟩
theorem dL_law_928 : pz_d cL_law 928 1 929 (.iadd) := ⟨by decide +kernel, rfl⟩
theorem dL_law_929 : pz_d cL_law 929 1 930 (.iaload) := ⟨by decide +kernel, rfl⟩
theorem dL_law_930 : pz_d cL_law 930 1 931 (.aload_n 0) := ⟨by decide +kernel, rfl⟩
theorem dL_law_931 : pz_d cL_law 931 2 933 (.iload 4) := ⟨by decide +kernel, rfl⟩
theorem dL_law_933 : pz_d cL_law 933 1 934 (.iconst 2) := ⟨by decide +kernel, rfl⟩
theorem dL_law_934 : pz_d cL_law 934 1 935 (.iadd) := ⟨by decide +kernel, rfl⟩
theorem dL_law_935 : pz_d cL_law 935 1 936 (.iaload) := ⟨by decide +kernel, rfl⟩
theorem dL_law_936 : pz_d cL_law 936 3 939 (.invokevirtual 122) := ⟨by decide +kernel, rfl⟩
theorem dL_law_939 : pz_d cL_law 939 1 940 (.lcmp) := ⟨by decide +kernel, rfl⟩
theorem dL_law_940 : pz_j cL_law 940 943 1020 (.ifCond .eq 80) 80 := ⟨by decide +kernel, rfl, rfl⟩
theorem dL_law_943 : pz_d cL_law 943 1 944 (.iconst 0) := ⟨by decide +kernel, rfl⟩
theorem dL_law_944 : pz_d cL_law 944 1 945 (.ireturn) := ⟨by decide +kernel, rfl⟩
theorem dL_law_945 : pz_d cL_law 945 1 946 (.aload_n 1) := ⟨by decide +kernel, rfl⟩
theorem dL_law_946 : pz_d cL_law 946 1 947 (.aload_n 0) := ⟨by decide +kernel, rfl⟩
theorem dL_law_947 : pz_d cL_law 947 2 949 (.iload 4) := ⟨by decide +kernel, rfl⟩
theorem dL_law_949 : pz_d cL_law 949 1 950 (.iconst 1) := ⟨by decide +kernel, rfl⟩
theorem dL_law_950 : pz_d cL_law 950 1 951 (.iadd) := ⟨by decide +kernel, rfl⟩
theorem dL_law_951 : pz_d cL_law 951 1 952 (.iaload) := ⟨by decide +kernel, rfl⟩
theorem dL_law_952 : pz_d cL_law 952 3 955 (.invokevirtual 123) := ⟨by decide +kernel, rfl⟩
theorem dL_law_955 : pz_d cL_law 955 1 956 (.aload_n 2) := ⟨by decide +kernel, rfl⟩
theorem dL_law_956 : pz_d cL_law 956 1 957 (.aload_n 0) := ⟨by decide +kernel, rfl⟩
theorem dL_law_957 : pz_d cL_law 957 2 959 (.iload 4) := ⟨by decide +kernel, rfl⟩
theorem dL_law_959 : pz_d cL_law 959 1 960 (.iconst 1) := ⟨by decide +kernel, rfl⟩
theorem dL_law_960 : pz_d cL_law 960 1 961 (.iadd) := ⟨by decide +kernel, rfl⟩
theorem dL_law_961 : pz_d cL_law 961 1 962 (.iaload) := ⟨by decide +kernel, rfl⟩
theorem dL_law_962 : pz_d cL_law 962 3 965 (.invokevirtual 126) := ⟨by decide +kernel, rfl⟩
theorem dL_law_965 : pz_j cL_law 965 968 1020 (.if_icmp .eq 55) 55 := ⟨by decide +kernel, rfl, rfl⟩
theorem dL_law_968 : pz_d cL_law 968 1 969 (.iconst 0) := ⟨by decide +kernel, rfl⟩
theorem dL_law_969 : pz_d cL_law 969 1 970 (.ireturn) := ⟨by decide +kernel, rfl⟩
theorem dL_law_970 : pz_d cL_law 970 1 971 (.aload_n 1) := ⟨by decide +kernel, rfl⟩
theorem dL_law_971 : pz_d cL_law 971 1 972 (.aload_n 0) := ⟨by decide +kernel, rfl⟩
theorem dL_law_972 : pz_d cL_law 972 2 974 (.iload 4) := ⟨by decide +kernel, rfl⟩
theorem dL_law_974 : pz_d cL_law 974 1 975 (.iconst 1) := ⟨by decide +kernel, rfl⟩
theorem dL_law_975 : pz_d cL_law 975 1 976 (.iadd) := ⟨by decide +kernel, rfl⟩
theorem dL_law_976 : pz_d cL_law 976 1 977 (.iaload) := ⟨by decide +kernel, rfl⟩
theorem dL_law_977 : pz_d cL_law 977 3 980 (.invokevirtual 127) := ⟨by decide +kernel, rfl⟩
theorem dL_law_980 : pz_d cL_law 980 1 981 (.aload_n 2) := ⟨by decide +kernel, rfl⟩
theorem dL_law_981 : pz_d cL_law 981 1 982 (.aload_n 0) := ⟨by decide +kernel, rfl⟩
theorem dL_law_982 : pz_d cL_law 982 2 984 (.iload 4) := ⟨by decide +kernel, rfl⟩
theorem dL_law_984 : pz_d cL_law 984 1 985 (.iconst 1) := ⟨by decide +kernel, rfl⟩
theorem dL_law_985 : pz_d cL_law 985 1 986 (.iadd) := ⟨by decide +kernel, rfl⟩
theorem dL_law_986 : pz_d cL_law 986 1 987 (.iaload) := ⟨by decide +kernel, rfl⟩
theorem dL_law_987 : pz_d cL_law 987 3 990 (.invokevirtual 130) := ⟨by decide +kernel, rfl⟩
theorem dL_law_990 : pz_j cL_law 990 993 1020 (.if_icmp .eq 30) 30 := ⟨by decide +kernel, rfl, rfl⟩
theorem dL_law_993 : pz_d cL_law 993 1 994 (.iconst 0) := ⟨by decide +kernel, rfl⟩
theorem dL_law_994 : pz_d cL_law 994 1 995 (.ireturn) := ⟨by decide +kernel, rfl⟩
theorem dL_law_995 : pz_d cL_law 995 1 996 (.aload_n 1) := ⟨by decide +kernel, rfl⟩
theorem dL_law_996 : pz_d cL_law 996 1 997 (.aload_n 0) := ⟨by decide +kernel, rfl⟩
theorem dL_law_997 : pz_d cL_law 997 2 999 (.iload 4) := ⟨by decide +kernel, rfl⟩
theorem dL_law_999 : pz_d cL_law 999 1 1000 (.iconst 1) := ⟨by decide +kernel, rfl⟩
theorem dL_law_1000 : pz_d cL_law 1000 1 1001 (.iadd) := ⟨by decide +kernel, rfl⟩
theorem dL_law_1001 : pz_d cL_law 1001 1 1002 (.iaload) := ⟨by decide +kernel, rfl⟩
theorem dL_law_1002 : pz_d cL_law 1002 3 1005 (.invokevirtual 131) := ⟨by decide +kernel, rfl⟩
theorem dL_law_1005 : pz_d cL_law 1005 1 1006 (.aload_n 2) := ⟨by decide +kernel, rfl⟩
theorem dL_law_1006 : pz_d cL_law 1006 1 1007 (.aload_n 0) := ⟨by decide +kernel, rfl⟩
theorem dL_law_1007 : pz_d cL_law 1007 2 1009 (.iload 4) := ⟨by decide +kernel, rfl⟩
theorem dL_law_1009 : pz_d cL_law 1009 1 1010 (.iconst 1) := ⟨by decide +kernel, rfl⟩
theorem dL_law_1010 : pz_d cL_law 1010 1 1011 (.iadd) := ⟨by decide +kernel, rfl⟩
theorem dL_law_1011 : pz_d cL_law 1011 1 1012 (.iaload) := ⟨by decide +kernel, rfl⟩
theorem dL_law_1012 : pz_d cL_law 1012 3 1015 (.invokevirtual 134) := ⟨by decide +kernel, rfl⟩
theorem dL_law_1015 : pz_j cL_law 1015 1018 1020 (.if_icmp .eq 5) 5 := ⟨by decide +kernel, rfl, rfl⟩
theorem dL_law_1018 : pz_d cL_law 1018 1 1019 (.iconst 0) := ⟨by decide +kernel, rfl⟩
theorem dL_law_1019 : pz_d cL_law 1019 1 1020 (.ireturn) := ⟨by decide +kernel, rfl⟩
theorem dL_law_1020 : pz_d cL_law 1020 3 1023 (.iinc 4 6) := ⟨by decide +kernel, rfl⟩
theorem dL_law_1023 : pz_j cL_law 1023 1026 23 (.goto (-1000)) (-1000) := ⟨by decide +kernel, rfl, rfl⟩
theorem dL_law_1026 : pz_d cL_law 1026 1 1027 (.iconst 1) := ⟨by decide +kernel, rfl⟩
theorem dL_law_1027 : pz_d cL_law 1027 1 1028 (.ireturn) := ⟨by decide +kernel, rfl⟩
theorem fa_X9_123 : pz_fa RX9 123 2 4 := ⟨RX3, TX3, 10, rfl, by decide, pz_wsX3, Or.inr ⟨"PartedPension", List.mem_of_getElem? (i := 282) (by decide +kernel)⟩⟩
theorem fa_X9_127 : pz_fa RX9 127 5 0 := ⟨RX6, TX6, 3, rfl, by decide, pz_wsX6, Or.inr ⟨"PartedPension", List.mem_of_getElem? (i := 186) (by decide +kernel)⟩⟩
theorem fa_X9_132 : pz_fa RX9 132 5 1 := ⟨RX6, TX6, 3, rfl, by decide, pz_wsX6, Or.inr ⟨"PartedPension", List.mem_of_getElem? (i := 190) (by decide +kernel)⟩⟩
theorem fa_X9_135 : pz_fa RX9 135 5 2 := ⟨RX6, TX6, 3, rfl, by decide, pz_wsX6, Or.inr ⟨"PartedPension", List.mem_of_getElem? (i := 193) (by decide +kernel)⟩⟩
theorem fa_X9_152 : pz_fa RX9 152 6 1 := ⟨RX7, TX7, 9, rfl, by decide, pz_wsX7, Or.inr ⟨"PartedPension", List.mem_of_getElem? (i := 213) (by decide +kernel)⟩⟩
theorem fa_X9_161 : pz_fa RX9 161 6 4 := ⟨RX7, TX7, 9, rfl, by decide, pz_wsX7, Or.inr ⟨"PartedPension", List.mem_of_getElem? (i := 225) (by decide +kernel)⟩⟩
theorem fa_X9_164 : pz_fa RX9 164 6 5 := ⟨RX7, TX7, 9, rfl, by decide, pz_wsX7, Or.inr ⟨"PartedPension", List.mem_of_getElem? (i := 229) (by decide +kernel)⟩⟩
theorem fa_X9_167 : pz_fa RX9 167 6 6 := ⟨RX7, TX7, 9, rfl, by decide, pz_wsX7, Or.inr ⟨"PartedPension", List.mem_of_getElem? (i := 232) (by decide +kernel)⟩⟩
theorem fa_X9_170 : pz_fa RX9 170 6 7 := ⟨RX7, TX7, 9, rfl, by decide, pz_wsX7, Or.inr ⟨"PartedPension", List.mem_of_getElem? (i := 237) (by decide +kernel)⟩⟩
theorem lk_X9_174 : pz_lk RX9 174 yX3_beginOf := Or.inr ⟨"PartedPension", List.mem_of_getElem? (i := 994) (by decide +kernel)⟩
theorem lk_L_7 : pz_lk RL 7 yX9_span := Or.inl (List.mem_of_getElem? (i := 916) (by decide +kernel))
theorem py_X9_span : pz_y yX9_span cX9_span 4 (some .int) 2 := ⟨List.mem_of_getElem? (i := 919) (by decide +kernel), List.mem_of_getElem? (i := 120) (by decide +kernel), ⟨by decide +kernel, by decide +kernel⟩, by decide +kernel⟩
theorem pv_X9_span : pz_yv yX9_span 8 := ⟨List.mem_of_getElem? (i := 917) (by decide +kernel), List.mem_of_getElem? (i := 918) (by decide +kernel), Or.inl ⟨TX9, 8, rfl⟩⟩
theorem lk_L_15 : pz_lk RL 15 yX9_spouse := Or.inl (List.mem_of_getElem? (i := 989) (by decide +kernel))
theorem py_X9_spouse : pz_y yX9_spouse cX9_spouse 4 (some .int) 2 := ⟨List.mem_of_getElem? (i := 992) (by decide +kernel), List.mem_of_getElem? (i := 120) (by decide +kernel), ⟨by decide +kernel, by decide +kernel⟩, by decide +kernel⟩
theorem pv_X9_spouse : pz_yv yX9_spouse 8 := ⟨List.mem_of_getElem? (i := 990) (by decide +kernel), List.mem_of_getElem? (i := 991) (by decide +kernel), Or.inl ⟨TX9, 8, rfl⟩⟩
theorem lk_L_18 : pz_lk RL 18 yX9_init := Or.inl (List.mem_of_getElem? (i := 143) (by decide +kernel))
theorem py_X9_init : pz_y yX9_init cX9_init 2 none 0 := ⟨List.mem_of_getElem? (i := 145) (by decide +kernel), List.mem_of_getElem? (i := 120) (by decide +kernel), ⟨by decide +kernel, by decide +kernel⟩, by decide +kernel⟩
theorem pi_X9_init : pz_yi yX9_init := ⟨List.mem_of_getElem? (i := 144) (by decide +kernel), rfl⟩
theorem lk_L_21 : pz_lk RL 21 yX10_init := Or.inl (List.mem_of_getElem? (i := 998) (by decide +kernel))
theorem py_X10_init : pz_y yX10_init cX10_init 1 none 0 := ⟨List.mem_of_getElem? (i := 1000) (by decide +kernel), List.mem_of_getElem? (i := 128) (by decide +kernel), ⟨by decide +kernel, by decide +kernel⟩, by decide +kernel⟩
theorem pi_X10_init : pz_yi yX10_init := ⟨List.mem_of_getElem? (i := 999) (by decide +kernel), rfl⟩
theorem lk_L_22 : pz_lk RL 22 yX9_feed := Or.inl (List.mem_of_getElem? (i := 428) (by decide +kernel))
theorem py_X9_feed : pz_y yX9_feed cX9_feed 6 (some .int) 5 := ⟨List.mem_of_getElem? (i := 431) (by decide +kernel), List.mem_of_getElem? (i := 120) (by decide +kernel), ⟨by decide +kernel, by decide +kernel⟩, by decide +kernel⟩
theorem pv_X9_feed : pz_yv yX9_feed 8 := ⟨List.mem_of_getElem? (i := 429) (by decide +kernel), List.mem_of_getElem? (i := 430) (by decide +kernel), Or.inl ⟨TX9, 8, rfl⟩⟩
theorem lk_L_26 : pz_lk RL 26 yX10_feed := Or.inl (List.mem_of_getElem? (i := 1329) (by decide +kernel))
theorem py_X10_feed : pz_y yX10_feed cX10_feed 6 (some .int) 5 := ⟨List.mem_of_getElem? (i := 1332) (by decide +kernel), List.mem_of_getElem? (i := 128) (by decide +kernel), ⟨by decide +kernel, by decide +kernel⟩, by decide +kernel⟩
theorem pv_X10_feed : pz_yv yX10_feed 9 := ⟨List.mem_of_getElem? (i := 1330) (by decide +kernel), List.mem_of_getElem? (i := 1331) (by decide +kernel), Or.inl ⟨TX10, 22, rfl⟩⟩
theorem lk_L_27 : pz_lk RL 27 yX9_end := Or.inl (List.mem_of_getElem? (i := 436) (by decide +kernel))
theorem py_X9_end : pz_y yX9_end cX9_end 2 (some .boolean) 1 := ⟨List.mem_of_getElem? (i := 439) (by decide +kernel), List.mem_of_getElem? (i := 120) (by decide +kernel), ⟨by decide +kernel, by decide +kernel⟩, by decide +kernel⟩
theorem pv_X9_end : pz_yv yX9_end 8 := ⟨List.mem_of_getElem? (i := 437) (by decide +kernel), List.mem_of_getElem? (i := 438) (by decide +kernel), Or.inl ⟨TX9, 8, rfl⟩⟩
theorem lk_L_31 : pz_lk RL 31 yX10_end := Or.inl (List.mem_of_getElem? (i := 1337) (by decide +kernel))
theorem py_X10_end : pz_y yX10_end cX10_end 2 (some .boolean) 1 := ⟨List.mem_of_getElem? (i := 1340) (by decide +kernel), List.mem_of_getElem? (i := 128) (by decide +kernel), ⟨by decide +kernel, by decide +kernel⟩, by decide +kernel⟩
theorem pv_X10_end : pz_yv yX10_end 9 := ⟨List.mem_of_getElem? (i := 1338) (by decide +kernel), List.mem_of_getElem? (i := 1339) (by decide +kernel), Or.inl ⟨TX10, 22, rfl⟩⟩
theorem lk_L_32 : pz_lk RL 32 yX9_tell := Or.inl (List.mem_of_getElem? (i := 440) (by decide +kernel))
theorem py_X9_tell : pz_y yX9_tell cX9_tell 2 (some .int) 0 := ⟨List.mem_of_getElem? (i := 443) (by decide +kernel), List.mem_of_getElem? (i := 120) (by decide +kernel), ⟨by decide +kernel, by decide +kernel⟩, by decide +kernel⟩
theorem pv_X9_tell : pz_yv yX9_tell 8 := ⟨List.mem_of_getElem? (i := 441) (by decide +kernel), List.mem_of_getElem? (i := 442) (by decide +kernel), Or.inl ⟨TX9, 8, rfl⟩⟩
theorem lk_L_36 : pz_lk RL 36 yX10_tell := Or.inl (List.mem_of_getElem? (i := 1341) (by decide +kernel))
theorem py_X10_tell : pz_y yX10_tell cX10_tell 3 (some .int) 0 := ⟨List.mem_of_getElem? (i := 1344) (by decide +kernel), List.mem_of_getElem? (i := 128) (by decide +kernel), ⟨by decide +kernel, by decide +kernel⟩, by decide +kernel⟩
theorem pv_X10_tell : pz_yv yX10_tell 9 := ⟨List.mem_of_getElem? (i := 1342) (by decide +kernel), List.mem_of_getElem? (i := 1343) (by decide +kernel), Or.inl ⟨TX10, 22, rfl⟩⟩
theorem lk_L_37 : pz_lk RL 37 yX9_fault := Or.inl (List.mem_of_getElem? (i := 667) (by decide +kernel))
theorem py_X9_fault : pz_y yX9_fault cX9_fault 1 (some .int) 0 := ⟨List.mem_of_getElem? (i := 670) (by decide +kernel), List.mem_of_getElem? (i := 120) (by decide +kernel), ⟨by decide +kernel, by decide +kernel⟩, by decide +kernel⟩
theorem pv_X9_fault : pz_yv yX9_fault 8 := ⟨List.mem_of_getElem? (i := 668) (by decide +kernel), List.mem_of_getElem? (i := 669) (by decide +kernel), Or.inl ⟨TX9, 8, rfl⟩⟩
theorem lk_L_40 : pz_lk RL 40 yX10_fault := Or.inl (List.mem_of_getElem? (i := 1423) (by decide +kernel))
theorem py_X10_fault : pz_y yX10_fault cX10_fault 1 (some .int) 0 := ⟨List.mem_of_getElem? (i := 1426) (by decide +kernel), List.mem_of_getElem? (i := 128) (by decide +kernel), ⟨by decide +kernel, by decide +kernel⟩, by decide +kernel⟩
theorem pv_X10_fault : pz_yv yX10_fault 9 := ⟨List.mem_of_getElem? (i := 1424) (by decide +kernel), List.mem_of_getElem? (i := 1425) (by decide +kernel), Or.inl ⟨TX10, 22, rfl⟩⟩
theorem lk_L_41 : pz_lk RL 41 yX9_set := Or.inl (List.mem_of_getElem? (i := 671) (by decide +kernel))
theorem py_X9_set : pz_y yX9_set cX9_set 4 (some .boolean) 3 := ⟨List.mem_of_getElem? (i := 674) (by decide +kernel), List.mem_of_getElem? (i := 120) (by decide +kernel), ⟨by decide +kernel, by decide +kernel⟩, by decide +kernel⟩
theorem pv_X9_set : pz_yv yX9_set 8 := ⟨List.mem_of_getElem? (i := 672) (by decide +kernel), List.mem_of_getElem? (i := 673) (by decide +kernel), Or.inl ⟨TX9, 8, rfl⟩⟩
theorem lk_L_45 : pz_lk RL 45 yX10_set := Or.inl (List.mem_of_getElem? (i := 1302) (by decide +kernel))
theorem py_X10_set : pz_y yX10_set cX10_set 5 (some .boolean) 3 := ⟨List.mem_of_getElem? (i := 1305) (by decide +kernel), List.mem_of_getElem? (i := 128) (by decide +kernel), ⟨by decide +kernel, by decide +kernel⟩, by decide +kernel⟩
theorem pv_X10_set : pz_yv yX10_set 9 := ⟨List.mem_of_getElem? (i := 1303) (by decide +kernel), List.mem_of_getElem? (i := 1304) (by decide +kernel), Or.inl ⟨TX10, 22, rfl⟩⟩
theorem lk_L_46 : pz_lk RL 46 yX9_undo := Or.inl (List.mem_of_getElem? (i := 681) (by decide +kernel))
theorem py_X9_undo : pz_y yX9_undo cX9_undo 1 (some .int) 0 := ⟨List.mem_of_getElem? (i := 684) (by decide +kernel), List.mem_of_getElem? (i := 120) (by decide +kernel), ⟨by decide +kernel, by decide +kernel⟩, by decide +kernel⟩
theorem pv_X9_undo : pz_yv yX9_undo 8 := ⟨List.mem_of_getElem? (i := 682) (by decide +kernel), List.mem_of_getElem? (i := 683) (by decide +kernel), Or.inl ⟨TX9, 8, rfl⟩⟩
theorem lk_L_49 : pz_lk RL 49 yX10_undo := Or.inl (List.mem_of_getElem? (i := 1325) (by decide +kernel))
theorem py_X10_undo : pz_y yX10_undo cX10_undo 2 (some .int) 0 := ⟨List.mem_of_getElem? (i := 1328) (by decide +kernel), List.mem_of_getElem? (i := 128) (by decide +kernel), ⟨by decide +kernel, by decide +kernel⟩, by decide +kernel⟩
theorem pv_X10_undo : pz_yv yX10_undo 9 := ⟨List.mem_of_getElem? (i := 1326) (by decide +kernel), List.mem_of_getElem? (i := 1327) (by decide +kernel), Or.inl ⟨TX10, 22, rfl⟩⟩
theorem lk_L_50 : pz_lk RL 50 yX9_count := Or.inl (List.mem_of_getElem? (i := 685) (by decide +kernel))
theorem py_X9_count : pz_y yX9_count cX9_count 2 (some .int) 1 := ⟨List.mem_of_getElem? (i := 688) (by decide +kernel), List.mem_of_getElem? (i := 120) (by decide +kernel), ⟨by decide +kernel, by decide +kernel⟩, by decide +kernel⟩
theorem pv_X9_count : pz_yv yX9_count 8 := ⟨List.mem_of_getElem? (i := 686) (by decide +kernel), List.mem_of_getElem? (i := 687) (by decide +kernel), Or.inl ⟨TX9, 8, rfl⟩⟩
theorem lk_L_54 : pz_lk RL 54 yX10_count := Or.inl (List.mem_of_getElem? (i := 1217) (by decide +kernel))
theorem py_X10_count : pz_y yX10_count cX10_count 2 (some .int) 1 := ⟨List.mem_of_getElem? (i := 1220) (by decide +kernel), List.mem_of_getElem? (i := 128) (by decide +kernel), ⟨by decide +kernel, by decide +kernel⟩, by decide +kernel⟩
theorem pv_X10_count : pz_yv yX10_count 9 := ⟨List.mem_of_getElem? (i := 1218) (by decide +kernel), List.mem_of_getElem? (i := 1219) (by decide +kernel), Or.inl ⟨TX10, 22, rfl⟩⟩
theorem lk_L_60 : pz_lk RL 60 yX10_span := Or.inl (List.mem_of_getElem? (i := 1221) (by decide +kernel))
theorem py_X10_span : pz_y yX10_span cX10_span 3 (some .int) 2 := ⟨List.mem_of_getElem? (i := 1224) (by decide +kernel), List.mem_of_getElem? (i := 128) (by decide +kernel), ⟨by decide +kernel, by decide +kernel⟩, by decide +kernel⟩
theorem pv_X10_span : pz_yv yX10_span 9 := ⟨List.mem_of_getElem? (i := 1222) (by decide +kernel), List.mem_of_getElem? (i := 1223) (by decide +kernel), Or.inl ⟨TX10, 22, rfl⟩⟩
theorem lk_L_61 : pz_lk RL 61 yX10_thrown := Or.inl (List.mem_of_getElem? (i := 1073) (by decide +kernel))
theorem py_X10_thrown : pz_y yX10_thrown cX10_thrown 1 (some .int) 0 := ⟨List.mem_of_getElem? (i := 1076) (by decide +kernel), List.mem_of_getElem? (i := 128) (by decide +kernel), ⟨by decide +kernel, by decide +kernel⟩, by decide +kernel⟩
theorem pv_X10_thrown : pz_yv yX10_thrown 9 := ⟨List.mem_of_getElem? (i := 1074) (by decide +kernel), List.mem_of_getElem? (i := 1075) (by decide +kernel), Or.inl ⟨TX10, 22, rfl⟩⟩
theorem lk_L_66 : pz_lk RL 66 yX10_spouse := Or.inl (List.mem_of_getElem? (i := 1225) (by decide +kernel))
theorem py_X10_spouse : pz_y yX10_spouse cX10_spouse 3 (some .int) 2 := ⟨List.mem_of_getElem? (i := 1228) (by decide +kernel), List.mem_of_getElem? (i := 128) (by decide +kernel), ⟨by decide +kernel, by decide +kernel⟩, by decide +kernel⟩
theorem pv_X10_spouse : pz_yv yX10_spouse 9 := ⟨List.mem_of_getElem? (i := 1226) (by decide +kernel), List.mem_of_getElem? (i := 1227) (by decide +kernel), Or.inl ⟨TX10, 22, rfl⟩⟩
theorem lk_L_67 : pz_lk RL 67 yX9_service := Or.inl (List.mem_of_getElem? (i := 690) (by decide +kernel))
theorem py_X9_service : pz_y yX9_service cX9_service 3 (some .int) 2 := ⟨List.mem_of_getElem? (i := 693) (by decide +kernel), List.mem_of_getElem? (i := 120) (by decide +kernel), ⟨by decide +kernel, by decide +kernel⟩, by decide +kernel⟩
theorem pv_X9_service : pz_yv yX9_service 8 := ⟨List.mem_of_getElem? (i := 691) (by decide +kernel), List.mem_of_getElem? (i := 692) (by decide +kernel), Or.inl ⟨TX9, 8, rfl⟩⟩
theorem lk_L_70 : pz_lk RL 70 yX10_service := Or.inl (List.mem_of_getElem? (i := 1229) (by decide +kernel))
theorem py_X10_service : pz_y yX10_service cX10_service 3 (some .int) 2 := ⟨List.mem_of_getElem? (i := 1232) (by decide +kernel), List.mem_of_getElem? (i := 128) (by decide +kernel), ⟨by decide +kernel, by decide +kernel⟩, by decide +kernel⟩
theorem pv_X10_service : pz_yv yX10_service 9 := ⟨List.mem_of_getElem? (i := 1230) (by decide +kernel), List.mem_of_getElem? (i := 1231) (by decide +kernel), Or.inl ⟨TX10, 22, rfl⟩⟩
theorem lk_L_71 : pz_lk RL 71 yX9_benefit := Or.inl (List.mem_of_getElem? (i := 696) (by decide +kernel))
theorem py_X9_benefit : pz_y yX9_benefit cX9_benefit 2 (some .int) 1 := ⟨List.mem_of_getElem? (i := 699) (by decide +kernel), List.mem_of_getElem? (i := 120) (by decide +kernel), ⟨by decide +kernel, by decide +kernel⟩, by decide +kernel⟩
theorem pv_X9_benefit : pz_yv yX9_benefit 8 := ⟨List.mem_of_getElem? (i := 697) (by decide +kernel), List.mem_of_getElem? (i := 698) (by decide +kernel), Or.inl ⟨TX9, 8, rfl⟩⟩
theorem lk_L_74 : pz_lk RL 74 yX10_benefit := Or.inl (List.mem_of_getElem? (i := 1233) (by decide +kernel))
theorem py_X10_benefit : pz_y yX10_benefit cX10_benefit 2 (some .int) 1 := ⟨List.mem_of_getElem? (i := 1236) (by decide +kernel), List.mem_of_getElem? (i := 128) (by decide +kernel), ⟨by decide +kernel, by decide +kernel⟩, by decide +kernel⟩
theorem pv_X10_benefit : pz_yv yX10_benefit 9 := ⟨List.mem_of_getElem? (i := 1234) (by decide +kernel), List.mem_of_getElem? (i := 1235) (by decide +kernel), Or.inl ⟨TX10, 22, rfl⟩⟩
theorem lk_L_75 : pz_lk RL 75 yX9_whole := Or.inl (List.mem_of_getElem? (i := 719) (by decide +kernel))
theorem py_X9_whole : pz_y yX9_whole cX9_whole 2 (some .int) 1 := ⟨List.mem_of_getElem? (i := 722) (by decide +kernel), List.mem_of_getElem? (i := 120) (by decide +kernel), ⟨by decide +kernel, by decide +kernel⟩, by decide +kernel⟩
theorem pv_X9_whole : pz_yv yX9_whole 8 := ⟨List.mem_of_getElem? (i := 720) (by decide +kernel), List.mem_of_getElem? (i := 721) (by decide +kernel), Or.inl ⟨TX9, 8, rfl⟩⟩
theorem lk_L_78 : pz_lk RL 78 yX10_whole := Or.inl (List.mem_of_getElem? (i := 1237) (by decide +kernel))
theorem py_X10_whole : pz_y yX10_whole cX10_whole 2 (some .int) 1 := ⟨List.mem_of_getElem? (i := 1240) (by decide +kernel), List.mem_of_getElem? (i := 128) (by decide +kernel), ⟨by decide +kernel, by decide +kernel⟩, by decide +kernel⟩
theorem pv_X10_whole : pz_yv yX10_whole 9 := ⟨List.mem_of_getElem? (i := 1238) (by decide +kernel), List.mem_of_getElem? (i := 1239) (by decide +kernel), Or.inl ⟨TX10, 22, rfl⟩⟩
theorem lk_L_79 : pz_lk RL 79 yX9_share := Or.inl (List.mem_of_getElem? (i := 729) (by decide +kernel))
theorem py_X9_share : pz_y yX9_share cX9_share 7 (some .int) 2 := ⟨List.mem_of_getElem? (i := 732) (by decide +kernel), List.mem_of_getElem? (i := 120) (by decide +kernel), ⟨by decide +kernel, by decide +kernel⟩, by decide +kernel⟩
theorem pv_X9_share : pz_yv yX9_share 8 := ⟨List.mem_of_getElem? (i := 730) (by decide +kernel), List.mem_of_getElem? (i := 731) (by decide +kernel), Or.inl ⟨TX9, 8, rfl⟩⟩
theorem lk_L_83 : pz_lk RL 83 yX10_share := Or.inl (List.mem_of_getElem? (i := 1241) (by decide +kernel))
theorem py_X10_share : pz_y yX10_share cX10_share 6 (some .int) 2 := ⟨List.mem_of_getElem? (i := 1244) (by decide +kernel), List.mem_of_getElem? (i := 128) (by decide +kernel), ⟨by decide +kernel, by decide +kernel⟩, by decide +kernel⟩
theorem pv_X10_share : pz_yv yX10_share 9 := ⟨List.mem_of_getElem? (i := 1242) (by decide +kernel), List.mem_of_getElem? (i := 1243) (by decide +kernel), Or.inl ⟨TX10, 22, rfl⟩⟩
theorem lk_L_84 : pz_lk RL 84 yX9_paid := Or.inl (List.mem_of_getElem? (i := 737) (by decide +kernel))
theorem py_X9_paid : pz_y yX9_paid cX9_paid 3 (some .long) 2 := ⟨List.mem_of_getElem? (i := 740) (by decide +kernel), List.mem_of_getElem? (i := 120) (by decide +kernel), ⟨by decide +kernel, by decide +kernel⟩, by decide +kernel⟩
theorem pv_X9_paid : pz_yv yX9_paid 8 := ⟨List.mem_of_getElem? (i := 738) (by decide +kernel), List.mem_of_getElem? (i := 739) (by decide +kernel), Or.inl ⟨TX9, 8, rfl⟩⟩
theorem lk_L_88 : pz_lk RL 88 yX10_paid := Or.inl (List.mem_of_getElem? (i := 1077) (by decide +kernel))
theorem py_X10_paid : pz_y yX10_paid cX10_paid 3 (some .long) 2 := ⟨List.mem_of_getElem? (i := 1080) (by decide +kernel), List.mem_of_getElem? (i := 128) (by decide +kernel), ⟨by decide +kernel, by decide +kernel⟩, by decide +kernel⟩
theorem pv_X10_paid : pz_yv yX10_paid 9 := ⟨List.mem_of_getElem? (i := 1078) (by decide +kernel), List.mem_of_getElem? (i := 1079) (by decide +kernel), Or.inl ⟨TX10, 22, rfl⟩⟩
theorem lk_L_89 : pz_lk RL 89 yX9_sum := Or.inl (List.mem_of_getElem? (i := 811) (by decide +kernel))
theorem py_X9_sum : pz_y yX9_sum cX9_sum 4 (some .long) 3 := ⟨List.mem_of_getElem? (i := 814) (by decide +kernel), List.mem_of_getElem? (i := 120) (by decide +kernel), ⟨by decide +kernel, by decide +kernel⟩, by decide +kernel⟩
theorem pv_X9_sum : pz_yv yX9_sum 8 := ⟨List.mem_of_getElem? (i := 812) (by decide +kernel), List.mem_of_getElem? (i := 813) (by decide +kernel), Or.inl ⟨TX9, 8, rfl⟩⟩
theorem lk_L_93 : pz_lk RL 93 yX10_sum := Or.inl (List.mem_of_getElem? (i := 1201) (by decide +kernel))
theorem py_X10_sum : pz_y yX10_sum cX10_sum 4 (some .long) 3 := ⟨List.mem_of_getElem? (i := 1204) (by decide +kernel), List.mem_of_getElem? (i := 128) (by decide +kernel), ⟨by decide +kernel, by decide +kernel⟩, by decide +kernel⟩
theorem pv_X10_sum : pz_yv yX10_sum 9 := ⟨List.mem_of_getElem? (i := 1202) (by decide +kernel), List.mem_of_getElem? (i := 1203) (by decide +kernel), Or.inl ⟨TX10, 22, rfl⟩⟩
theorem lk_L_94 : pz_lk RL 94 yX9_richest := Or.inl (List.mem_of_getElem? (i := 820) (by decide +kernel))
theorem py_X9_richest : pz_y yX9_richest cX9_richest 8 (some .int) 1 := ⟨List.mem_of_getElem? (i := 823) (by decide +kernel), List.mem_of_getElem? (i := 120) (by decide +kernel), ⟨by decide +kernel, by decide +kernel⟩, by decide +kernel⟩
theorem pv_X9_richest : pz_yv yX9_richest 8 := ⟨List.mem_of_getElem? (i := 821) (by decide +kernel), List.mem_of_getElem? (i := 822) (by decide +kernel), Or.inl ⟨TX9, 8, rfl⟩⟩
theorem lk_L_97 : pz_lk RL 97 yX10_richest := Or.inl (List.mem_of_getElem? (i := 1209) (by decide +kernel))
theorem py_X10_richest : pz_y yX10_richest cX10_richest 8 (some .int) 1 := ⟨List.mem_of_getElem? (i := 1212) (by decide +kernel), List.mem_of_getElem? (i := 128) (by decide +kernel), ⟨by decide +kernel, by decide +kernel⟩, by decide +kernel⟩
theorem pv_X10_richest : pz_yv yX10_richest 9 := ⟨List.mem_of_getElem? (i := 1210) (by decide +kernel), List.mem_of_getElem? (i := 1211) (by decide +kernel), Or.inl ⟨TX10, 22, rfl⟩⟩
theorem lk_L_98 : pz_lk RL 98 yX9_happens := Or.inl (List.mem_of_getElem? (i := 824) (by decide +kernel))
theorem py_X9_happens : pz_y yX9_happens cX9_happens 2 (some .int) 1 := ⟨List.mem_of_getElem? (i := 827) (by decide +kernel), List.mem_of_getElem? (i := 120) (by decide +kernel), ⟨by decide +kernel, by decide +kernel⟩, by decide +kernel⟩
theorem pv_X9_happens : pz_yv yX9_happens 8 := ⟨List.mem_of_getElem? (i := 825) (by decide +kernel), List.mem_of_getElem? (i := 826) (by decide +kernel), Or.inl ⟨TX9, 8, rfl⟩⟩
theorem lk_L_101 : pz_lk RL 101 yX10_happens := Or.inl (List.mem_of_getElem? (i := 1248) (by decide +kernel))
theorem py_X10_happens : pz_y yX10_happens cX10_happens 3 (some .int) 1 := ⟨List.mem_of_getElem? (i := 1251) (by decide +kernel), List.mem_of_getElem? (i := 128) (by decide +kernel), ⟨by decide +kernel, by decide +kernel⟩, by decide +kernel⟩
theorem pv_X10_happens : pz_yv yX10_happens 9 := ⟨List.mem_of_getElem? (i := 1249) (by decide +kernel), List.mem_of_getElem? (i := 1250) (by decide +kernel), Or.inl ⟨TX10, 22, rfl⟩⟩
theorem lk_L_102 : pz_lk RL 102 yX9_lives := Or.inl (List.mem_of_getElem? (i := 837) (by decide +kernel))
theorem py_X9_lives : pz_y yX9_lives cX9_lives 2 (some .int) 1 := ⟨List.mem_of_getElem? (i := 840) (by decide +kernel), List.mem_of_getElem? (i := 120) (by decide +kernel), ⟨by decide +kernel, by decide +kernel⟩, by decide +kernel⟩
theorem pv_X9_lives : pz_yv yX9_lives 8 := ⟨List.mem_of_getElem? (i := 838) (by decide +kernel), List.mem_of_getElem? (i := 839) (by decide +kernel), Or.inl ⟨TX9, 8, rfl⟩⟩
theorem lk_L_105 : pz_lk RL 105 yX10_lives := Or.inl (List.mem_of_getElem? (i := 1256) (by decide +kernel))
theorem py_X10_lives : pz_y yX10_lives cX10_lives 2 (some .int) 1 := ⟨List.mem_of_getElem? (i := 1259) (by decide +kernel), List.mem_of_getElem? (i := 128) (by decide +kernel), ⟨by decide +kernel, by decide +kernel⟩, by decide +kernel⟩
theorem pv_X10_lives : pz_yv yX10_lives 9 := ⟨List.mem_of_getElem? (i := 1257) (by decide +kernel), List.mem_of_getElem? (i := 1258) (by decide +kernel), Or.inl ⟨TX10, 22, rfl⟩⟩
theorem lk_L_106 : pz_lk RL 106 yX9_discount := Or.inl (List.mem_of_getElem? (i := 842) (by decide +kernel))
theorem py_X9_discount : pz_y yX9_discount cX9_discount 2 (some .int) 1 := ⟨List.mem_of_getElem? (i := 845) (by decide +kernel), List.mem_of_getElem? (i := 120) (by decide +kernel), ⟨by decide +kernel, by decide +kernel⟩, by decide +kernel⟩
theorem pv_X9_discount : pz_yv yX9_discount 8 := ⟨List.mem_of_getElem? (i := 843) (by decide +kernel), List.mem_of_getElem? (i := 844) (by decide +kernel), Or.inl ⟨TX9, 8, rfl⟩⟩
theorem lk_L_109 : pz_lk RL 109 yX10_discount := Or.inl (List.mem_of_getElem? (i := 1260) (by decide +kernel))
theorem py_X10_discount : pz_y yX10_discount cX10_discount 2 (some .int) 1 := ⟨List.mem_of_getElem? (i := 1263) (by decide +kernel), List.mem_of_getElem? (i := 128) (by decide +kernel), ⟨by decide +kernel, by decide +kernel⟩, by decide +kernel⟩
theorem pv_X10_discount : pz_yv yX10_discount 9 := ⟨List.mem_of_getElem? (i := 1261) (by decide +kernel), List.mem_of_getElem? (i := 1262) (by decide +kernel), Or.inl ⟨TX10, 22, rfl⟩⟩
theorem lk_L_110 : pz_lk RL 110 yX9_annuity := Or.inl (List.mem_of_getElem? (i := 847) (by decide +kernel))
theorem py_X9_annuity : pz_y yX9_annuity cX9_annuity 5 (some .long) 3 := ⟨List.mem_of_getElem? (i := 850) (by decide +kernel), List.mem_of_getElem? (i := 120) (by decide +kernel), ⟨by decide +kernel, by decide +kernel⟩, by decide +kernel⟩
theorem pv_X9_annuity : pz_yv yX9_annuity 8 := ⟨List.mem_of_getElem? (i := 848) (by decide +kernel), List.mem_of_getElem? (i := 849) (by decide +kernel), Or.inl ⟨TX9, 8, rfl⟩⟩
theorem lk_L_113 : pz_lk RL 113 yX10_annuity := Or.inl (List.mem_of_getElem? (i := 1264) (by decide +kernel))
theorem py_X10_annuity : pz_y yX10_annuity cX10_annuity 4 (some .long) 3 := ⟨List.mem_of_getElem? (i := 1267) (by decide +kernel), List.mem_of_getElem? (i := 128) (by decide +kernel), ⟨by decide +kernel, by decide +kernel⟩, by decide +kernel⟩
theorem pv_X10_annuity : pz_yv yX10_annuity 9 := ⟨List.mem_of_getElem? (i := 1265) (by decide +kernel), List.mem_of_getElem? (i := 1266) (by decide +kernel), Or.inl ⟨TX10, 22, rfl⟩⟩
theorem lk_L_114 : pz_lk RL 114 yX9_own := Or.inl (List.mem_of_getElem? (i := 853) (by decide +kernel))
theorem py_X9_own : pz_y yX9_own cX9_own 2 (some .long) 1 := ⟨List.mem_of_getElem? (i := 856) (by decide +kernel), List.mem_of_getElem? (i := 120) (by decide +kernel), ⟨by decide +kernel, by decide +kernel⟩, by decide +kernel⟩
theorem pv_X9_own : pz_yv yX9_own 8 := ⟨List.mem_of_getElem? (i := 854) (by decide +kernel), List.mem_of_getElem? (i := 855) (by decide +kernel), Or.inl ⟨TX9, 8, rfl⟩⟩
theorem lk_L_118 : pz_lk RL 118 yX10_own := Or.inl (List.mem_of_getElem? (i := 1269) (by decide +kernel))
theorem py_X10_own : pz_y yX10_own cX10_own 2 (some .long) 1 := ⟨List.mem_of_getElem? (i := 1272) (by decide +kernel), List.mem_of_getElem? (i := 128) (by decide +kernel), ⟨by decide +kernel, by decide +kernel⟩, by decide +kernel⟩
theorem pv_X10_own : pz_yv yX10_own 9 := ⟨List.mem_of_getElem? (i := 1270) (by decide +kernel), List.mem_of_getElem? (i := 1271) (by decide +kernel), Or.inl ⟨TX10, 22, rfl⟩⟩
theorem lk_L_119 : pz_lk RL 119 yX9_worth := Or.inl (List.mem_of_getElem? (i := 858) (by decide +kernel))
theorem py_X9_worth : pz_y yX9_worth cX9_worth 3 (some .long) 2 := ⟨List.mem_of_getElem? (i := 861) (by decide +kernel), List.mem_of_getElem? (i := 120) (by decide +kernel), ⟨by decide +kernel, by decide +kernel⟩, by decide +kernel⟩
theorem pv_X9_worth : pz_yv yX9_worth 8 := ⟨List.mem_of_getElem? (i := 859) (by decide +kernel), List.mem_of_getElem? (i := 860) (by decide +kernel), Or.inl ⟨TX9, 8, rfl⟩⟩
theorem lk_L_122 : pz_lk RL 122 yX10_worth := Or.inl (List.mem_of_getElem? (i := 1273) (by decide +kernel))
theorem py_X10_worth : pz_y yX10_worth cX10_worth 3 (some .long) 2 := ⟨List.mem_of_getElem? (i := 1276) (by decide +kernel), List.mem_of_getElem? (i := 128) (by decide +kernel), ⟨by decide +kernel, by decide +kernel⟩, by decide +kernel⟩
theorem pv_X10_worth : pz_yv yX10_worth 9 := ⟨List.mem_of_getElem? (i := 1274) (by decide +kernel), List.mem_of_getElem? (i := 1275) (by decide +kernel), Or.inl ⟨TX10, 22, rfl⟩⟩
theorem lk_L_123 : pz_lk RL 123 yX9_claimBest := Or.inl (List.mem_of_getElem? (i := 879) (by decide +kernel))
theorem py_X9_claimBest : pz_y yX9_claimBest cX9_claimBest 2 (some .int) 1 := ⟨List.mem_of_getElem? (i := 882) (by decide +kernel), List.mem_of_getElem? (i := 120) (by decide +kernel), ⟨by decide +kernel, by decide +kernel⟩, by decide +kernel⟩
theorem pv_X9_claimBest : pz_yv yX9_claimBest 8 := ⟨List.mem_of_getElem? (i := 880) (by decide +kernel), List.mem_of_getElem? (i := 881) (by decide +kernel), Or.inl ⟨TX9, 8, rfl⟩⟩
theorem lk_L_126 : pz_lk RL 126 yX10_claimBest := Or.inl (List.mem_of_getElem? (i := 1293) (by decide +kernel))
theorem py_X10_claimBest : pz_y yX10_claimBest cX10_claimBest 9 (some .int) 1 := ⟨List.mem_of_getElem? (i := 1296) (by decide +kernel), List.mem_of_getElem? (i := 128) (by decide +kernel), ⟨by decide +kernel, by decide +kernel⟩, by decide +kernel⟩
theorem pv_X10_claimBest : pz_yv yX10_claimBest 9 := ⟨List.mem_of_getElem? (i := 1294) (by decide +kernel), List.mem_of_getElem? (i := 1295) (by decide +kernel), Or.inl ⟨TX10, 22, rfl⟩⟩
theorem lk_L_127 : pz_lk RL 127 yX9_half := Or.inl (List.mem_of_getElem? (i := 892) (by decide +kernel))
theorem py_X9_half : pz_y yX9_half cX9_half 2 (some .int) 1 := ⟨List.mem_of_getElem? (i := 895) (by decide +kernel), List.mem_of_getElem? (i := 120) (by decide +kernel), ⟨by decide +kernel, by decide +kernel⟩, by decide +kernel⟩
theorem pv_X9_half : pz_yv yX9_half 8 := ⟨List.mem_of_getElem? (i := 893) (by decide +kernel), List.mem_of_getElem? (i := 894) (by decide +kernel), Or.inl ⟨TX9, 8, rfl⟩⟩
theorem lk_L_130 : pz_lk RL 130 yX10_half := Or.inl (List.mem_of_getElem? (i := 1297) (by decide +kernel))
theorem py_X10_half : pz_y yX10_half cX10_half 7 (some .int) 1 := ⟨List.mem_of_getElem? (i := 1300) (by decide +kernel), List.mem_of_getElem? (i := 128) (by decide +kernel), ⟨by decide +kernel, by decide +kernel⟩, by decide +kernel⟩
theorem pv_X10_half : pz_yv yX10_half 9 := ⟨List.mem_of_getElem? (i := 1298) (by decide +kernel), List.mem_of_getElem? (i := 1299) (by decide +kernel), Or.inl ⟨TX10, 22, rfl⟩⟩
theorem lk_L_131 : pz_lk RL 131 yX9_crosses := Or.inl (List.mem_of_getElem? (i := 904) (by decide +kernel))
theorem py_X9_crosses : pz_y yX9_crosses cX9_crosses 2 (some .int) 1 := ⟨List.mem_of_getElem? (i := 907) (by decide +kernel), List.mem_of_getElem? (i := 120) (by decide +kernel), ⟨by decide +kernel, by decide +kernel⟩, by decide +kernel⟩
theorem pv_X9_crosses : pz_yv yX9_crosses 8 := ⟨List.mem_of_getElem? (i := 905) (by decide +kernel), List.mem_of_getElem? (i := 906) (by decide +kernel), Or.inl ⟨TX9, 8, rfl⟩⟩
theorem lk_L_134 : pz_lk RL 134 yX10_crosses := Or.inl (List.mem_of_getElem? (i := 1213) (by decide +kernel))
theorem py_X10_crosses : pz_y yX10_crosses cX10_crosses 7 (some .int) 1 := ⟨List.mem_of_getElem? (i := 1216) (by decide +kernel), List.mem_of_getElem? (i := 128) (by decide +kernel), ⟨by decide +kernel, by decide +kernel⟩, by decide +kernel⟩
theorem pv_X10_crosses : pz_yv yX10_crosses 9 := ⟨List.mem_of_getElem? (i := 1214) (by decide +kernel), List.mem_of_getElem? (i := 1215) (by decide +kernel), Or.inl ⟨TX10, 22, rfl⟩⟩
